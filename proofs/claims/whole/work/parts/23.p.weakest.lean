/-! places by their holds, both sides -/
def mb_hh (g : Nat → Int32) (o : Nat) : Nat := mb_hN g o (g (45 + o)).toNatClampNeg
def mb_lx (g : Nat → Int32) (l p o : Nat) : Nat := if mb_fr g o = true then 0 else if mb_hh g o < l ∨ (mb_hh g o = l ∧ o < p) then 1 else 0
/-- how many bricks come before a hold and a place -/
def mb_C (g : Nat → Int32) (l p : Nat) : Nat := mb_T (mb_lx g l p) 0 42
def mb_rk (g : Nat → Int32) (p : Nat) : Nat := mb_C g (mb_hh g p) p
theorem mb_lx_le (g : Nat → Int32) (l p o : Nat) : mb_lx g l p o ≤ 1 := by
  unfold mb_lx
  by_cases h : mb_fr g o = true
  · rw [if_pos h]; omega
  · rw [if_neg h]
    by_cases h2 : mb_hh g o < l ∨ (mb_hh g o = l ∧ o < p)
    · rw [if_pos h2]; omega
    · rw [if_neg h2]; omega
theorem mb_C_max (g : Nat → Int32) (l p : Nat) : mb_C g l p ≤ 42 := by
  have := mb_T_max (h := mb_lx g l p) (B := 1) 42 0 (fun o _ _ => mb_lx_le g l p o)
  unfold mb_C
  omega
theorem mb_hh_of {I V : gx_F} {k : Nat} {g : Nat → Int32} (hw : mb_wr I V k g) (hi : mb_iv g) {p b : Nat} (hp : p < 42) (hb : b < 32) (h : g (45 + p) = Int32.ofNat b) : f_X5_holdFor k (Int32.ofNat b) (Int32.ofNat p) I V = some (Int32.ofNat (mb_hh g p)) ∧ mb_hh g p ≤ 12 := by
  have e := mb_hold_of hi (p := p) hb
  unfold mb_hh
  rw [h, mb_tn (by omega), ← e.1]
  exact ⟨mb_holdFor hw hi hp hb, e.2⟩
theorem mb_hh_of7 {J U : gx_F} (hi : mb_iv (U 59)) {p b : Nat} (hp : p < 42) (hb : b < 32) (h : U 59 (45 + p) = Int32.ofNat b) : f_X7_held (Int32.ofNat p) (Int32.ofNat b) J U = some (Int32.ofNat (mb_hh (U 59) p)) ∧ mb_hh (U 59) p ≤ 12 := by
  have e := mb_hold_of hi (p := p) hb
  unfold mb_hh
  rw [h, mb_tn (by omega), ← e.1]
  exact ⟨mb_held hi hp hb, e.2⟩
theorem mb_C_step {g : Nat → Int32} {l s : Nat} (hs : s < 42) : mb_C g l (s + 1) = mb_C g l s + (if mb_fr g s = true then 0 else if mb_hh g s = l then 1 else 0) := by
  have hu := mb_T_upd (h := mb_lx g l s) (p := s) (v := if mb_fr g s = true then 0 else if mb_hh g s ≤ l then 1 else 0) 42 0 (Nat.zero_le _) (by omega)
  have e : mb_C g l (s + 1) = mb_T (fun i => if i = s then (if mb_fr g s = true then 0 else if mb_hh g s ≤ l then 1 else 0) else mb_lx g l s i) 0 42 := by
    refine mb_T_ext 42 0 (fun i _ _ => ?_)
    show mb_lx g l (s + 1) i = if i = s then (if mb_fr g s = true then 0 else if mb_hh g s ≤ l then 1 else 0) else mb_lx g l s i
    by_cases h : i = s
    · subst h
      rw [if_pos rfl]
      unfold mb_lx
      by_cases hf : mb_fr g i = true
      · rw [if_pos hf, if_pos hf]
      · rw [if_neg hf, if_neg hf]
        by_cases h2 : mb_hh g i ≤ l
        · rw [if_pos h2, if_pos (by omega)]
        · rw [if_neg h2, if_neg (by omega)]
    · rw [if_neg h]
      unfold mb_lx
      by_cases hf : mb_fr g i = true
      · rw [if_pos hf, if_pos hf]
      · rw [if_neg hf, if_neg hf]
        by_cases h2 : mb_hh g i < l ∨ (mb_hh g i = l ∧ i < s)
        · rw [if_pos h2, if_pos (by omega)]
        · rw [if_neg h2, if_neg (by omega)]
  have hu2 : mb_C g l (s + 1) + mb_lx g l s s = mb_C g l s + (if mb_fr g s = true then 0 else if mb_hh g s ≤ l then 1 else 0) := by
    rw [e]
    exact hu
  unfold mb_lx at hu2
  by_cases hf : mb_fr g s = true
  · rw [if_pos hf, if_pos hf] at hu2
    rw [if_pos hf]
    omega
  · rw [if_neg hf, if_neg hf] at hu2
    rw [if_neg hf]
    by_cases h2 : mb_hh g s = l
    · rw [if_pos h2]
      rw [if_neg (by omega), if_pos (by omega)] at hu2
      omega
    · rw [if_neg h2]
      by_cases h3 : mb_hh g s ≤ l
      · rw [if_pos (by omega), if_pos h3] at hu2
        omega
      · rw [if_neg (by omega), if_neg h3] at hu2
        omega
theorem mb_C_next (g : Nat → Int32) (l : Nat) : mb_C g l 42 = mb_C g (l + 1) 0 := by
  refine mb_T_ext 42 0 (fun i _ hi => ?_)
  unfold mb_lx
  by_cases hf : mb_fr g i = true
  · rw [if_pos hf, if_pos hf]
  · rw [if_neg hf, if_neg hf]
    by_cases h2 : mb_hh g i ≤ l
    · rw [if_pos (by omega), if_pos (by omega)]
    · rw [if_neg (by omega), if_neg (by omega)]
theorem mb_C_zero (g : Nat → Int32) : mb_C g 0 0 = 0 := by
  refine mb_T_zero 42 0 (fun i _ hi => ?_)
  unfold mb_lx
  by_cases hf : mb_fr g i = true
  · rw [if_pos hf]
  · rw [if_neg hf, if_neg (by omega)]
theorem mb_rk_lt {g : Nat → Int32} {p q : Nat} (hp : p < 42) (h : mb_fr g p = false) (hl : mb_hh g p < mb_hh g q ∨ (mb_hh g p = mb_hh g q ∧ p < q)) : mb_rk g p < mb_rk g q := by
  refine mb_T_lt (p := p) 42 0 (fun i _ hi => ?_) (Nat.zero_le _) (by omega) ?_
  · unfold mb_lx
    by_cases hf : mb_fr g i = true
    · rw [if_pos hf, if_pos hf]; omega
    · rw [if_neg hf, if_neg hf]
      by_cases h2 : mb_hh g i < mb_hh g p ∨ (mb_hh g i = mb_hh g p ∧ i < p)
      · rw [if_pos h2, if_pos (by omega)]; omega
      · rw [if_neg h2]; omega
  · unfold mb_lx
    rw [h, if_neg mb_ft, if_neg mb_ft, if_neg (by omega), if_pos hl]
    omega
theorem mb_rk_inj {g : Nat → Int32} {p q : Nat} (hp : p < 42) (hq : q < 42) (h : mb_fr g p = false) (h2 : mb_fr g q = false) (e : mb_rk g p = mb_rk g q) : p = q := by
  rcases Nat.lt_trichotomy (mb_hh g p) (mb_hh g q) with h3 | h3 | h3
  · have := mb_rk_lt (q := q) hp h (Or.inl h3); omega
  · rcases Nat.lt_trichotomy p q with h4 | h4 | h4
    · have := mb_rk_lt (q := q) hp h (Or.inr ⟨h3, h4⟩); omega
    · exact h4
    · have := mb_rk_lt (q := p) hq h2 (Or.inr ⟨h3.symm, h4⟩); omega
  · have := mb_rk_lt (q := p) hq h2 (Or.inl h3); omega
theorem mb_pH2 {I V : gx_F} {g : Nat → Int32} (hw : mb_wr I V 0 g) (hi : mb_iv g) (x : Int32) {l : Nat} (hl : l ≤ 12) (K : Int32 → Option Int32) : ∀ (m s n : Nat), s + m = 42 →
    (∃ p, p < 42 ∧ mb_fr g p = false ∧ Int32.ofNat (mb_rk g p) = x ∧ f_X6_placeByHold_L2 x I V (Int32.ofNat l) (fun c _ => K c) (n + m + 1) (Int32.ofNat (mb_C g l s)) (Int32.ofNat s) = some (Int32.ofNat p)) ∨
    ((∀ p, s ≤ p → p < 42 → mb_fr g p = false → mb_hh g p = l → Int32.ofNat (mb_rk g p) ≠ x) ∧ f_X6_placeByHold_L2 x I V (Int32.ofNat l) (fun c _ => K c) (n + m + 1) (Int32.ofNat (mb_C g l s)) (Int32.ofNat s) = K (Int32.ofNat (mb_C g (l + 1) 0))) := by
  intro m
  induction m with
  | zero =>
    intro s n hm
    have hs : s = 42 := by omega
    subst hs
    refine Or.inr ⟨fun p h1 h2 => by omega, ?_⟩
    rw [f_X6_placeByHold_L2, if_pos (by decide), mb_C_next]
  | succ m ih =>
    intro s n hm
    have hs : s < 42 := by omega
    have hst := mb_C_step (g := g) (l := l) hs
    rw [show n + (m + 1) + 1 = (n + m + 1) + 1 by omega, f_X6_placeByHold_L2, if_neg (mb_42 s hs), mb_brickOn hw hs, Option.bind_some, mb_add1, mb_add1]
    have i0 := ih (s + 1) n (by omega)
    rcases hi.br hs with h | ⟨b, hb, h⟩
    · have hfr := mb_free1 h
      rw [if_pos hfr] at hst
      have hst2 : mb_C g l (s + 1) = mb_C g l s := by omega
      rw [hst2] at i0
      rw [h, if_pos rfl]
      rcases i0 with h2 | ⟨h2, h3⟩
      · exact Or.inl h2
      · refine Or.inr ⟨fun p h4 h5 h6 h7 => ?_, h3⟩
        by_cases e : p = s
        · subst e
          rw [hfr] at h6
          cases h6
        · exact h2 p (by omega) h5 h6 h7
    · have hfr := mb_free0 (by omega) h
      obtain ⟨e1, l1⟩ := mb_hh_of hw hi hs hb h
      rw [hfr, if_neg mb_ft] at hst
      rw [h, if_neg (mb_nn (by omega)), e1, Option.bind_some]
      by_cases h2 : mb_hh g s = l
      · rw [if_pos h2] at hst
        rw [hst] at i0
        have hrk : mb_rk g s = mb_C g l s := by
          unfold mb_rk
          rw [h2]
        rw [if_pos (by rw [h2])]
        by_cases h3 : Int32.ofNat (mb_C g l s) = x
        · exact Or.inl ⟨s, hs, hfr, by rw [hrk]; exact h3, by rw [if_pos h3]⟩
        · rw [if_neg h3]
          rcases i0 with h4 | ⟨h4, h5⟩
          · exact Or.inl h4
          · refine Or.inr ⟨fun p h6 h7 h8 h9 => ?_, h5⟩
            by_cases e : p = s
            · subst e
              rw [hrk]
              exact h3
            · exact h4 p (by omega) h7 h8 h9
      · rw [if_neg h2] at hst
        have hst2 : mb_C g l (s + 1) = mb_C g l s := by omega
        rw [hst2] at i0
        rw [if_neg (fun h3 => h2 ((mb_eq (by omega) (by omega)).mp h3))]
        rcases i0 with h4 | ⟨h4, h5⟩
        · exact Or.inl h4
        · refine Or.inr ⟨fun p h6 h7 h8 h9 => ?_, h5⟩
          by_cases e : p = s
          · subst e
            exact absurd h9 h2
          · exact h4 p (by omega) h7 h8 h9
theorem mb_12 : ∀ l, l ≤ 12 → ¬ (12 : Int32) < Int32.ofNat l := by decide +kernel
theorem mb_pH1 {I V : gx_F} {g : Nat → Int32} (hw : mb_wr I V 0 g) (hi : mb_iv g) (x : Int32) : ∀ (m l n : Nat), l + m = 13 →
    (∃ p, p < 42 ∧ mb_fr g p = false ∧ Int32.ofNat (mb_rk g p) = x ∧ f_X6_placeByHold_L1 x I V (fun _ _ => some (-1)) (n + m + 1) (Int32.ofNat (mb_C g l 0)) (Int32.ofNat l) = some (Int32.ofNat p)) ∨
    ((∀ p, p < 42 → mb_fr g p = false → l ≤ mb_hh g p → Int32.ofNat (mb_rk g p) ≠ x) ∧ f_X6_placeByHold_L1 x I V (fun _ _ => some (-1)) (n + m + 1) (Int32.ofNat (mb_C g l 0)) (Int32.ofNat l) = some (-1)) := by
  intro m
  induction m with
  | zero =>
    intro l n hm
    have hl : l = 13 := by omega
    subst hl
    refine Or.inr ⟨fun p hp hf h => ?_, ?_⟩
    · rcases hi.br hp with h2 | ⟨b, hb, h2⟩
      · rw [mb_free1 h2] at hf
        cases hf
      · have := (mb_hh_of hw hi hp hb h2).2
        omega
    · rw [f_X6_placeByHold_L1, if_pos (by decide)]
  | succ m ih =>
    intro l n hm
    have hl : l ≤ 12 := by omega
    rw [show n + (m + 1) + 1 = (n + m + 1) + 1 by omega, f_X6_placeByHold_L1, if_neg (mb_12 l hl)]
    rcases mb_pH2 hw hi x hl (fun c => f_X6_placeByHold_L1 x I V (fun _ _ => some (-1)) (n + m + 1) c (Int32.ofNat l + 1)) 42 0 957 rfl with h | ⟨h1, h2⟩
    · exact Or.inl h
    · have h2' : f_X6_placeByHold_L2 x I V (Int32.ofNat l) (fun c _ => f_X6_placeByHold_L1 x I V (fun _ _ => some (-1)) (n + m + 1) c (Int32.ofNat l + 1)) 1000 (Int32.ofNat (mb_C g l 0)) 0 = _ := h2
      rw [h2', mb_add1]
      rcases ih (l + 1) n (by omega) with h | ⟨h3, h4⟩
      · exact Or.inl h
      · refine Or.inr ⟨fun p hp hf h5 => ?_, h4⟩
        by_cases e : mb_hh g p = l
        · exact h1 p (Nat.zero_le _) hp hf e
        · exact h3 p hp hf (by omega)
theorem mb_placeBy {I V : gx_F} {g : Nat → Int32} (hw : mb_wr I V 0 g) (hi : mb_iv g) (x : Int32) : (∃ p, p < 42 ∧ mb_fr g p = false ∧ Int32.ofNat (mb_rk g p) = x ∧ f_X6_placeByHold x I V = some (Int32.ofNat p)) ∨ ((∀ p, p < 42 → mb_fr g p = false → Int32.ofNat (mb_rk g p) ≠ x) ∧ f_X6_placeByHold x I V = some (-1)) := by
  have h := mb_pH1 hw hi x 13 0 986 rfl
  rw [mb_C_zero] at h
  rcases h with h | ⟨h1, h2⟩
  · exact Or.inl h
  · exact Or.inr ⟨fun p hp hf => h1 p hp hf (Nat.zero_le _), h2⟩
theorem mb_by : ∀ a, a ≤ 12 → ∀ b, b ≤ 12 → (Int32.ofNat a - Int32.ofNat b < 0 ↔ a < b) ∧ (Int32.ofNat a - Int32.ofNat b = 0 ↔ a = b) := by decide +kernel
theorem mb_wk2 {J U : gx_F} (hi : mb_iv (U 59)) {p : Nat} (hp : p < 42) {h : Nat} (hh : h ≤ 12) (K : Int32 → Option (Int32 × gx_F × gx_F)) : ∀ (m s n : Nat) (a : Int32), s + m = 42 → f_X7_weakest_L2 J U (Int32.ofNat p) (Int32.ofNat h) (fun c _ => K c) (n + m + 1) a (Int32.ofNat s) = K (a + Int32.ofNat (mb_T (mb_lx (U 59) h p) s m)) := by
  intro m
  induction m with
  | zero =>
    intro s n a hm
    have hs : s = 42 := by omega
    subst hs
    rw [f_X7_weakest_L2, if_pos (by decide)]
    exact congrArg K (Int32.add_zero a).symm
  | succ m ih =>
    intro s n a hm
    have hs : s < 42 := by omega
    obtain ⟨-, -, -, -, h5, -⟩ := mb_small s (by omega)
    have hf : f_X7_isFree (Int32.ofNat s) J U = some (mb_fr (U 59) s) := mb_isFree7 hs
    rw [show n + (m + 1) + 1 = (n + m + 1) + 1 by omega, f_X7_weakest_L2, if_neg (mb_42 s hs), hf, Option.bind_some, mb_add1, Int32.add_zero, ih (s + 1) n a (by omega), ih (s + 1) n (a + 1) (by omega), mb_T, Int32.ofNat_add, ← Int32.add_assoc]
    rcases hi.br hs with h1 | ⟨b, hb, h1⟩
    · have e : mb_lx (U 59) h p s = 0 := by
        unfold mb_lx
        rw [if_pos (mb_free1 h1)]
      rw [mb_free1 h1, if_neg (show ¬ gx_bi true = 0 by decide), e]
      exact congrArg (fun y => K (y + _)) (Int32.add_zero a).symm
    · obtain ⟨e1, l1⟩ := mb_hh_of7 (J := J) hi hs hb h1
      obtain ⟨y1, y2⟩ := mb_by _ l1 _ hh
      rw [mb_free0 (by omega) h1, if_pos gx_bi_0, mb_ck (mb_in42 s hs).2, h5, h1, e1, Option.bind_some]
      unfold mb_lx
      rw [mb_free0 (by omega) h1, if_neg mb_ft]
      by_cases c1 : mb_hh (U 59) s < h
      · rw [if_pos (y1.mpr c1), if_pos (Or.inl c1)]
        rfl
      · rw [if_neg (fun z => c1 (y1.mp z))]
        by_cases c2 : mb_hh (U 59) s = h
        · rw [if_pos (y2.mpr c2)]
          by_cases c3 : p ≤ s
          · rw [if_pos ((mb_le (by omega) (by omega)).mpr c3), if_neg (by omega)]
            exact congrArg (fun y => K (y + _)) (Int32.add_zero a).symm
          · rw [if_neg (fun z => c3 ((mb_le (by omega) (by omega)).mp z)), if_pos (by omega)]
            rfl
        · rw [if_neg (fun z => c2 (y2.mp z)), if_neg (by omega)]
          exact congrArg (fun y => K (y + _)) (Int32.add_zero a).symm
theorem mb_wk1 {J U : gx_F} (hi : mb_iv (U 59)) (x : Int32) : ∀ (m s n : Nat), s + m = 42 →
    (∃ p, p < 42 ∧ mb_fr (U 59) p = false ∧ Int32.ofNat (mb_rk (U 59) p) = x ∧ f_X7_weakest_L1 x J U (fun _ => some (0, gx_u J 58 9 1, U)) (n + m + 1) (Int32.ofNat s) = some (Int32.ofNat p, gx_u J 58 9 0, U)) ∨
    ((∀ p, s ≤ p → p < 42 → mb_fr (U 59) p = false → Int32.ofNat (mb_rk (U 59) p) ≠ x) ∧ f_X7_weakest_L1 x J U (fun _ => some (0, gx_u J 58 9 1, U)) (n + m + 1) (Int32.ofNat s) = some (0, gx_u J 58 9 1, U)) := by
  intro m
  induction m with
  | zero =>
    intro s n hm
    have hs : s = 42 := by omega
    subst hs
    refine Or.inr ⟨fun p h1 h2 => by omega, ?_⟩
    rw [f_X7_weakest_L1, if_pos (by decide)]
  | succ m ih =>
    intro s n hm
    have hs : s < 42 := by omega
    obtain ⟨-, -, -, -, h5, -⟩ := mb_small s (by omega)
    have hf : f_X7_isFree (Int32.ofNat s) J U = some (mb_fr (U 59) s) := mb_isFree7 hs
    have i0 := ih (s + 1) n (by omega)
    rw [show n + (m + 1) + 1 = (n + m + 1) + 1 by omega, f_X7_weakest_L1, if_neg (mb_42 s hs), hf, Option.bind_some, mb_add1]
    rcases hi.br hs with h1 | ⟨b, hb, h1⟩
    · have hfr := mb_free1 h1
      rw [hfr, if_neg (show ¬ gx_bi true = 0 by decide)]
      rcases i0 with h2 | ⟨h2, h3⟩
      · exact Or.inl h2
      · refine Or.inr ⟨fun p h4 h5 h6 => ?_, h3⟩
        by_cases e : p = s
        · subst e
          rw [hfr] at h6
          cases h6
        · exact h2 p (by omega) h5 h6
    · have hfr := mb_free0 (by omega) h1
      obtain ⟨e1, l1⟩ := mb_hh_of7 (J := J) hi hs hb h1
      have e2 := mb_wk2 (J := J) hi hs l1 (fun c => if c = x then some (Int32.ofNat s, gx_u J 58 9 0, U) else f_X7_weakest_L1 x J U (fun _ => some (0, gx_u J 58 9 1, U)) (n + m + 1) (Int32.ofNat (s + 1))) 42 0 957 0 rfl
      have e3 : f_X7_weakest_L2 J U (Int32.ofNat s) (Int32.ofNat (mb_hh (U 59) s)) (fun c _ => if c = x then some (Int32.ofNat s, gx_u J 58 9 0, U) else f_X7_weakest_L1 x J U (fun _ => some (0, gx_u J 58 9 1, U)) (n + m + 1) (Int32.ofNat (s + 1))) 1000 0 0 = _ := e2
      rw [hfr, if_pos gx_bi_0, mb_ck (mb_in42 s hs).2, h5, h1, e1, Option.bind_some, e3, Int32.zero_add]
      show (∃ p, p < 42 ∧ mb_fr (U 59) p = false ∧ Int32.ofNat (mb_rk (U 59) p) = x ∧ (if Int32.ofNat (mb_rk (U 59) s) = x then _ else _) = _) ∨ (_ ∧ (if Int32.ofNat (mb_rk (U 59) s) = x then _ else _) = _)
      by_cases h3 : Int32.ofNat (mb_rk (U 59) s) = x
      · exact Or.inl ⟨s, hs, hfr, h3, by rw [if_pos h3]⟩
      · rw [if_neg h3]
        rcases i0 with h4 | ⟨h4, h6⟩
        · exact Or.inl h4
        · refine Or.inr ⟨fun p h7 h8 h9 => ?_, h6⟩
          by_cases e : p = s
          · subst e
            exact h3
          · exact h4 p (by omega) h8 h9
/-- the answers of both -/
theorem mb_weakest {I V J U : gx_F} (hw : mb_wr I V 0 (U 59)) (hi : mb_iv (U 59)) (x : Int32) : (∃ p, p < 42 ∧ f_X6_placeByHold x I V = some (Int32.ofNat p) ∧ f_X7_weakest x J U = some (Int32.ofNat p, gx_u J 58 9 0, U)) ∨ (f_X6_placeByHold x I V = some (-1) ∧ f_X7_weakest x J U = some (0, gx_u J 58 9 1, U)) := by
  rcases mb_placeBy hw hi x with ⟨p, hp, hf, hr, e⟩ | ⟨h, e⟩
  · rcases mb_wk1 (J := J) hi x 42 0 957 rfl with ⟨q, hq, hf2, hr2, e2⟩ | ⟨h2, e2⟩
    · have hc1 := mb_C_max (U 59) (mb_hh (U 59) p) p
      have hc2 := mb_C_max (U 59) (mb_hh (U 59) q) q
      have := mb_rk_inj hp hq hf hf2 ((mb_eq (by unfold mb_rk; omega) (by unfold mb_rk; omega)).mp (hr.trans hr2.symm))
      subst this
      exact Or.inl ⟨p, hp, e, e2⟩
    · exact absurd hr (h2 p (Nat.zero_le _) hp hf)
  · rcases mb_wk1 (J := J) hi x 42 0 957 rfl with ⟨q, hq, hf2, hr2, e2⟩ | ⟨h2, e2⟩
    · exact absurd hr2 (h q hq hf2)
    · exact Or.inr ⟨e, e2⟩
