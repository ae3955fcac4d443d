/-! the brick that comes by itself, both sides -/
def mb_up (g : Nat → Int32) (p b : Nat) (c : Option Nat) : Option Nat := if mb_fits g p b = true then (match c with
  | none => some b
  | some d => if mb_hN g p d < mb_hN g p b then some b else some d) else c
def mb_bst (g : Nat → Int32) (p : Nat) : Nat → Nat → Option Nat → Option Nat
  | 0, _, c => c
  | m + 1, b, c => mb_bst g p m (b + 1) (mb_up g p b c)
/-- the best so far fits -/
def mb_bo (g : Nat → Int32) (p e : Nat) (c : Option Nat) : Prop := ∀ d, c = some d → d < e ∧ mb_nd g ≤ mb_hN g p d
theorem mb_bo.up {g : Nat → Int32} {p e b : Nat} {c : Option Nat} (h : mb_bo g p e c) (hb : b < e) : mb_bo g p e (mb_up g p b c) := by
  intro d hd
  unfold mb_up at hd
  by_cases hf : mb_fits g p b = true
  · have hf2 := hf
    unfold mb_fits at hf2
    simp only [Bool.and_eq_true, decide_eq_true_eq] at hf2
    rw [if_pos hf] at hd
    cases c with
    | none =>
      cases hd
      exact ⟨hb, hf2.1⟩
    | some d2 =>
      have hd2 : (if mb_hN g p d2 < mb_hN g p b then some b else some d2) = some d := hd
      by_cases h3 : mb_hN g p d2 < mb_hN g p b
      · rw [if_pos h3] at hd2
        cases hd2
        exact ⟨hb, hf2.1⟩
      · rw [if_neg h3] at hd2
        exact h d hd2
  · rw [if_neg hf] at hd
    exact h d hd
theorem mb_bst_bo {g : Nat → Int32} {p e : Nat} : ∀ (m b : Nat) (c : Option Nat), b + m = e → mb_bo g p e c → mb_bo g p e (mb_bst g p m b c) := by
  intro m
  induction m with
  | zero => intro b c _ h; exact h
  | succ m ih =>
    intro b c hm h
    exact ih (b + 1) _ (by omega) (h.up (by omega))
/-- the class's best hold beside its best brick -/
def mb_bh (g : Nat → Int32) (p : Nat) (c : Option Nat) : Int32 := match c with
  | none => Int32.ofNat (mb_nd g) - 1
  | some d => Int32.ofNat (mb_hN g p d)
theorem mb_sub1 {a : Nat} (h : 1 ≤ a) : Int32.ofNat a - 1 = Int32.ofNat (a - 1) := (Int32.ofNat_sub a 1 h).symm
theorem mb_step5 {g : Nat → Int32} (hi : mb_iv g) {p b e : Nat} (hb : b < 32) (he : e ≤ 32) {c : Option Nat} (hc : mb_bo g p e c) : (mb_hf g p b ≤ mb_bh g p c → mb_up g p b c = c) ∧ (¬ mb_hf g p b ≤ mb_bh g p c → mb_up g p b c = some b ∧ mb_hf g p b = Int32.ofNat (mb_hN g p b)) := by
  obtain ⟨n1, n2, n3⟩ := hi.nd
  have l1 := (mb_hold_of hi (p := p) hb).2
  have hbh : ∃ y, y < 2 ^ 31 ∧ mb_bh g p c = Int32.ofNat y ∧ (c = none → y + 1 = mb_nd g) ∧ (∀ d, c = some d → y = mb_hN g p d) := by
    cases c with
    | none => exact ⟨mb_nd g - 1, by omega, mb_sub1 n1, (fun _ => by omega), (fun d h => by cases h)⟩
    | some d =>
      have := (mb_hold_of hi (p := p) (b := d) (by have := (hc d rfl).1; omega)).2
      exact ⟨mb_hN g p d, by omega, rfl, (fun h => by cases h), (fun d2 h => by cases h; rfl)⟩
  obtain ⟨y, hy, hy1, hy2, hy3⟩ := hbh
  rw [hy1]
  unfold mb_hf mb_up mb_fits
  by_cases h1 : mb_eN g p b = 0
  · rw [if_pos h1, decide_eq_true h1, Bool.and_true, mb_le (by omega) hy]
    cases c with
    | none =>
      have := hy2 rfl
      refine ⟨fun h => ?_, fun h => ⟨?_, rfl⟩⟩
      · rw [decide_eq_false (show ¬ mb_nd g ≤ mb_hN g p b by omega), if_neg mb_ft]
      · rw [decide_eq_true (show mb_nd g ≤ mb_hN g p b by omega), if_pos rfl]
    | some d =>
      have h2 := hy3 d rfl
      have h3 := (hc d rfl).2
      refine ⟨fun h => ?_, fun h => ⟨?_, rfl⟩⟩
      · by_cases h4 : mb_nd g ≤ mb_hN g p b
        · rw [decide_eq_true h4, if_pos rfl]
          show (if mb_hN g p d < mb_hN g p b then some b else some d) = some d
          rw [if_neg (by omega)]
        · rw [decide_eq_false h4, if_neg mb_ft]
      · rw [decide_eq_true (show mb_nd g ≤ mb_hN g p b by omega), if_pos rfl]
        show (if mb_hN g p d < mb_hN g p b then some b else some d) = some b
        rw [if_pos (by omega)]
  · rw [if_neg h1, decide_eq_false h1, Bool.and_false, if_neg mb_ft]
    refine ⟨fun _ => rfl, fun h => absurd ?_ h⟩
    exact Int32.le_of_lt (Int32.lt_of_lt_of_le (show (-1 : Int32) < 0 by decide) (mb_ge0 hy))
theorem mb_k4 : ∀ k, k ≤ 8 → Int32.ofNat k * 4 = Int32.ofNat (4 * k) ∧ 4 * Int32.ofNat k = Int32.ofNat (4 * k) := by decide +kernel
theorem mb_best_L {I V : gx_F} {k : Nat} {g : Nat → Int32} (hw : mb_wr I V k g) (hi : mb_iv g) {p : Nat} (hf : mb_fa g p V) (r : Bool) (K : Int32 → Option (Int32 × gx_F × gx_F)) : ∀ (m b n : Nat) (c : Option Nat), b + m = 4 * mb_kc g → mb_bo g p (4 * mb_kc g) c → f_X1_bestFor_L1 k (r, I, V) (fun x _ _ => K x) (n + m + 1) (mb_N c) (mb_bh g p c) (Int32.ofNat b) = K (mb_N (mb_bst g p m b c)) := by
  obtain ⟨k1, k2⟩ := hi.kc
  have hI : I k 3 = Int32.ofNat (mb_kc g) := hw.2.2.2.1.trans k2
  intro m
  induction m with
  | zero =>
    intro b n c hm hc
    rw [f_X1_bestFor_L1, show (r, I, V).2.1 k 3 = _ from hI, (mb_k4 _ k1).1, if_pos ((mb_le (by omega) (by omega)).mpr (by omega))]
    rfl
  | succ m ih =>
    intro b n c hm hc
    have hb : b < 32 := by omega
    obtain ⟨s1, s2⟩ := mb_step5 hi (p := p) hb (by omega) hc
    rw [show n + (m + 1) + 1 = (n + m + 1) + 1 by omega, f_X1_bestFor_L1, show (r, I, V).2.1 k 3 = _ from hI, (mb_k4 _ k1).1, if_neg (fun h => absurd ((mb_le (by omega) (by omega)).mp h) (by omega)), show f_X1_holdIfFit k (Int32.ofNat b) (r, I, V).2.1 (r, I, V).2.2 = some (mb_hf g p b) from mb_holdIfFit hw hi hb hf, Option.bind_some, mb_add1, mb_bst]
    by_cases h : mb_hf g p b ≤ mb_bh g p c
    · rw [if_pos h, s1 h, ih (b + 1) n c (by omega) hc]
    · obtain ⟨s3, s4⟩ := s2 h
      have hbo := hc.up (b := b) (by omega)
      rw [s3] at hbo
      rw [if_neg h, s3, s4]
      exact ih (b + 1) n (some b) (by omega) hbo
/-- the brick that comes at a place; none: none comes -/
def mb_be (g : Nat → Int32) (p : Nat) : Option Nat := if mb_fr g p = true then mb_bst g p (4 * mb_kc g) 0 none else none
theorem mb_bo0 (g : Nat → Int32) (p e : Nat) : mb_bo g p e none := fun _ h => by cases h
theorem mb_bst_no {g : Nat → Int32} {p : Nat} : ∀ (m b : Nat), (∀ d, b ≤ d → d < b + m → mb_fits g p d = false) → mb_bst g p m b none = none := by
  intro m
  induction m with
  | zero => intro b _; rfl
  | succ m ih =>
    intro b h
    rw [mb_bst, mb_up, h b (by omega) (by omega), if_neg mb_ft]
    exact ih (b + 1) (fun d h1 h2 => h d (by omega) (by omega))
theorem mb_bst_hn {g : Nat → Int32} (hi : mb_iv g) {p : Nat} (hp : p < 42) (h : mb_hn g p = false) : mb_bst g p (4 * mb_kc g) 0 none = none := by
  obtain ⟨n1, n2, n3⟩ := hi.nd
  have k1 := hi.kc.1
  refine mb_bst_no (4 * mb_kc g) 0 (fun d _ hd => ?_)
  unfold mb_fits
  rw [mb_hn0 hp hi h (by omega), decide_eq_false (by omega), Bool.false_and]
theorem mb_bestFor {I V : gx_F} {k : Nat} {g : Nat → Int32} (hk : k ≤ 40) (hw : mb_wr I V k g) (hi : mb_iv g) {p : Nat} (hp : p < 42) :
    ∃ V', f_X1_bestFor k (Int32.ofNat p) I V = some (mb_N (mb_be g p), I, V') ∧ mb_sc I V I V' := by
  obtain ⟨n1, n2, n3⟩ := hi.nd
  rw [f_X1_bestFor, mb_isFree5 hw hi hp, Option.bind_some]
  unfold mb_be
  cases mb_fr g p with
  | false =>
    refine ⟨V, ?_, mb_sc.refl I V⟩
    rw [if_pos gx_bi_0, if_neg mb_ft]
    rfl
  | true =>
    obtain ⟨V', e, hfa, hV⟩ := mb_look hk hw hi hp
    have sc : mb_sc I V I V' := ⟨fun _ _ _ => rfl, fun j _ _ h => hV j h⟩
    refine ⟨V', ?_, sc⟩
    rw [if_neg (show ¬ gx_bi true = 0 by decide), e, Option.bind_some, if_pos rfl]
    cases hh : mb_hn g p with
    | false =>
      rw [if_pos (show gx_bi (false, I, V').1 = 0 from rfl), mb_bst_hn hi hp hh]
      rfl
    | true =>
      have hw2 := sc.wr hk hw
      have hI : I k 4 = Int32.ofNat (mb_nd g) := hw.2.2.2.2.1.trans n3
      have e2 := mb_best_L hw2 hi hfa true (fun x => some (x, I, V')) (4 * mb_kc g) 0 (999 - 4 * mb_kc g) none (by omega) (mb_bo0 g p _)
      rw [show 999 - 4 * mb_kc g + 4 * mb_kc g + 1 = 1000 by have := hi.kc.1; omega] at e2
      rw [if_neg (show ¬ gx_bi (true, I, V').1 = 0 by show ¬ gx_bi true = 0; decide)]
      show f_X1_bestFor_L1 k (true, I, V') (fun uv_7 _ _ => some (uv_7, I, V')) 1000 (-1) (I k 4 - 1) 0 = _
      rw [hI]
      exact e2
/-- the lowest place from one on at which a brick comes, and the brick -/
def mb_fi (g : Nat → Int32) : Nat → Nat → Option (Nat × Nat)
  | 0, _ => none
  | m + 1, p => match mb_be g p with
    | none => mb_fi g m (p + 1)
    | some b => some (p, b)
theorem mb_fi0 {g : Nat → Int32} {m p : Nat} (h : mb_be g p = none) : mb_fi g (m + 1) p = mb_fi g m (p + 1) := by
  rw [mb_fi, h]
theorem mb_fi1 {g : Nat → Int32} {m p b : Nat} (h : mb_be g p = some b) : mb_fi g (m + 1) p = some (p, b) := by
  rw [mb_fi, h]
theorem mb_be_lt {g : Nat → Int32} {p b : Nat} (h : mb_be g p = some b) : b < 4 * mb_kc g ∧ mb_fr g p = true := by
  unfold mb_be at h
  by_cases hf : mb_fr g p = true
  · rw [if_pos hf] at h
    exact ⟨(mb_bst_bo (4 * mb_kc g) 0 none (by omega) (mb_bo0 g p _) b h).1, hf⟩
  · rw [if_neg hf] at h
    cases h
theorem mb_fi_some {g : Nat → Int32} : ∀ (m s p b : Nat), mb_fi g m s = some (p, b) → s ≤ p ∧ p < s + m ∧ mb_be g p = some b ∧ ∀ q, s ≤ q → q < p → mb_be g q = none := by
  intro m
  induction m with
  | zero => intro s p b h; cases h
  | succ m ih =>
    intro s p b h
    cases hb : mb_be g s with
    | none =>
      rw [mb_fi0 hb] at h
      obtain ⟨h1, h2, h3, h4⟩ := ih (s + 1) p b h
      refine ⟨by omega, by omega, h3, fun q h5 h6 => ?_⟩
      by_cases h7 : q = s
      · subst h7; exact hb
      · exact h4 q (by omega) h6
    | some c =>
      rw [mb_fi1 hb] at h
      cases h
      exact ⟨Nat.le_refl _, by omega, hb, fun q h5 h6 => by omega⟩
theorem mb_fi_skip {g : Nat → Int32} : ∀ (d s m : Nat), (∀ q, s ≤ q → q < s + d → mb_be g q = none) → mb_fi g (d + m) s = mb_fi g m (s + d) := by
  intro d
  induction d with
  | zero => intro s m _; rw [Nat.zero_add, Nat.add_zero]
  | succ d ih =>
    intro s m h
    rw [show d + 1 + m = (d + m) + 1 by omega, mb_fi0 (h s (by omega) (by omega)), ih (s + 1) m (fun q h1 h2 => h q (by omega) (by omega)), show s + 1 + d = s + (d + 1) by omega]
/-- what the class's search for a place answers and leaves -/
def mb_fr5 (g : Nat → Int32) (r : Option (Nat × Nat)) (I V : gx_F) (x : Option (Bool × gx_F × gx_F)) : Prop := ∃ I' V', mb_sc I V I' V' ∧ match r with
  | none => x = some (false, I', V')
  | some q => x = some (true, I', V') ∧ I' 51 1 = Int32.ofNat q.1 ∧ I' 51 2 = Int32.ofNat q.2
theorem mb_find_L {k : Nat} {g : Nat → Int32} (hk : k ≤ 40) (hi : mb_iv g) : ∀ (m s n : Nat) (I V : gx_F), s + m = 42 → mb_wr I V k g → mb_fr5 g (mb_fi g m s) I V (f_X1_findFrom_L1 k (fun uv_5 uI_6 uV_7 => (some (false, uI_6, uV_7))) (n + m + 1) (Int32.ofNat s) I V) := by
  intro m
  induction m with
  | zero =>
    intro s n I V hm hw
    have hs : s = 42 := by omega
    subst hs
    refine ⟨I, V, mb_sc.refl I V, ?_⟩
    show f_X1_findFrom_L1 k _ (n + 0 + 1) (Int32.ofNat 42) I V = some (false, I, V)
    rw [f_X1_findFrom_L1, if_pos (by decide)]
  | succ m ih =>
    intro s n I V hm hw
    have hs : s < 42 := by omega
    obtain ⟨V1, e1, sc1⟩ := mb_bestFor hk hw hi hs
    rw [show n + (m + 1) + 1 = (n + m + 1) + 1 by omega, f_X1_findFrom_L1, if_neg (mb_42 s hs), e1, Option.bind_some, mb_add1]
    cases hb : mb_be g s with
    | none =>
      rw [mb_fi0 hb, if_pos (show (mb_N none, I, V1).1 = -1 from rfl)]
      obtain ⟨I', V', sc, h⟩ := ih (s + 1) n I V1 (by omega) (sc1.wr hk hw)
      exact ⟨I', V', sc1.trans sc, h⟩
    | some b =>
      have hb2 := (mb_be_lt hb).1
      have k1 := hi.kc.1
      rw [mb_fi1 hb, if_neg (show ¬ (mb_N (some b), I, V1).1 = -1 from mb_nn (by omega))]
      refine ⟨gx_u (gx_u I 51 1 (Int32.ofNat s)) 51 2 (Int32.ofNat b), V1, ⟨fun j h1 h2 => ?_, sc1.2⟩, rfl, rfl, rfl⟩
      rw [gx_u_ne h2, gx_u_ne h2]
theorem mb_fL2 (k : Nat) (K : Int32 → gx_F → gx_F → Option (Bool × gx_F × gx_F)) : ∀ (n : Nat) (s : Int32) (I V : gx_F), f_X1_findFrom_L2 k K n s I V = f_X1_findFrom_L1 k K n s I V := by
  intro n
  induction n with
  | zero => intro s I V; rfl
  | succ n ih =>
    intro s I V
    rw [f_X1_findFrom_L2, f_X1_findFrom_L1]
    simp only [ih]
/-- where the class may begin: no lower place has a brick that comes -/
def mb_from (g : Nat → Int32) (x : Int32) : Prop := x < 0 ∨ ∃ s, s < 42 ∧ x = Int32.ofNat s ∧ ∀ q, q < s → mb_be g q = none
theorem mb_find {I V : gx_F} {k : Nat} {g : Nat → Int32} (hk : k ≤ 40) (hw : mb_wr I V k g) (hi : mb_iv g) {x : Int32} (hx : mb_from g x) : mb_fr5 g (mb_fi g 42 0) I V (f_X1_findFrom k x I V) := by
  rw [f_X1_findFrom]
  rcases hx with h | ⟨s, hs, h, hq⟩
  · rw [if_neg (Int32.not_le.mpr h), mb_fL2]
    exact mb_find_L hk hi 42 0 957 I V rfl hw
  · have e := mb_fi_skip (g := g) s 0 (42 - s) (fun q _ h2 => hq q (by omega))
    rw [show s + (42 - s) = 42 by omega, Nat.zero_add] at e
    rw [h, if_pos (mb_ge0 (by omega)), e]
    have e2 := mb_find_L hk hi (42 - s) s (957 + s) I V (by omega) hw
    rw [show 957 + s + (42 - s) + 1 = 1000 by omega] at e2
    exact e2
/-! the model -/
def mb_cn (g : Nat → Int32) (p : Nat) : Nat := mb_T (fun b => if mb_fits g p b = true then 1 else 0) 0 (4 * mb_kc g)
theorem mb_ch_L {J U : gx_F} {g : Nat → Int32} (hU : U 59 = g) (hi : mb_iv g) {p : Nat} (hp : p < 42) (K : Int32 → Int32 → Option Int32) : ∀ (m b n : Nat) (a : Int32), b + m = 4 * mb_kc g → f_X7_choicesAt_L1 (Int32.ofNat p) J U K (n + m + 1) a (Int32.ofNat b) = K (a + Int32.ofNat (mb_T (fun b => if mb_fits g p b = true then 1 else 0) b m)) (Int32.ofNat (4 * mb_kc g)) := by
  obtain ⟨k1, k2⟩ := hi.kc
  have hU0 : U 59 (0 : Int32).toNatClampNeg = Int32.ofNat (mb_kc g) := by
    rw [hU]
    exact k2
  intro m
  induction m with
  | zero =>
    intro b n a hm
    have hb : b = 4 * mb_kc g := by omega
    subst hb
    rw [f_X7_choicesAt_L1, mb_ck (by decide), hU0, (mb_k4 _ k1).2, if_pos ((mb_le (by omega) (by omega)).mpr (by omega))]
    exact congrArg (fun y => K y _) (Int32.add_zero a).symm
  | succ m ih =>
    intro b n a hm
    have hb : b < 32 := by omega
    have i0 := ih (b + 1) n
    have hfit := mb_fits7 (J := J) (U := U) (p := p) (b := b) (by rw [hU]; exact hi) hp hb
    rw [hU] at hfit
    rw [show n + (m + 1) + 1 = (n + m + 1) + 1 by omega, f_X7_choicesAt_L1, mb_ck (by decide), hU0, (mb_k4 _ k1).2, if_neg (fun h => absurd ((mb_le (by omega) (by omega)).mp h) (by omega)), hfit, Option.bind_some, mb_add1, mb_T]
    cases mb_fits g p b with
    | false => rw [if_pos gx_bi_0, i0 _ (by omega), if_neg mb_ft, Int32.add_zero, Nat.zero_add]
    | true => rw [if_neg (show ¬ gx_bi true = 0 by decide), i0 _ (by omega), if_pos rfl, Int32.ofNat_add, ← Int32.add_assoc]; rfl
theorem mb_choicesAt {J U : gx_F} {g : Nat → Int32} (hU : U 59 = g) (hi : mb_iv g) {p : Nat} (hp : p < 42) : f_X7_choicesAt (Int32.ofNat p) J U = some (Int32.ofNat (mb_cn g p)) := by
  have k1 := hi.kc.1
  have e := mb_ch_L (J := J) hU hi hp (fun y _ => some y) (4 * mb_kc g) 0 (999 - 4 * mb_kc g) 0 (by omega)
  rw [show 999 - 4 * mb_kc g + 4 * mb_kc g + 1 = 1000 by omega] at e
  refine Eq.trans e ?_
  rw [Int32.zero_add]
  rfl
theorem mb_cn_max {g : Nat → Int32} (hi : mb_iv g) (p : Nat) : mb_cn g p ≤ 32 := by
  have k1 := hi.kc.1
  have := mb_T_max (h := fun b => if mb_fits g p b = true then 1 else 0) (B := 1) (4 * mb_kc g) 0 (fun b _ _ => by
    by_cases h : mb_fits g p b = true
    · rw [if_pos h]; omega
    · rw [if_neg h]; omega)
  unfold mb_cn
  omega
theorem mb_bst_keep {g : Nat → Int32} {p : Nat} : ∀ (m b : Nat) (c : Option Nat), c ≠ none → mb_bst g p m b c ≠ none := by
  intro m
  induction m with
  | zero => intro b c h; exact h
  | succ m ih =>
    intro b c h
    refine ih (b + 1) _ ?_
    unfold mb_up
    by_cases hf : mb_fits g p b = true
    · rw [if_pos hf]
      cases c with
      | none => exact absurd rfl h
      | some d =>
        show (if mb_hN g p d < mb_hN g p b then some b else some d) ≠ none
        by_cases h2 : mb_hN g p d < mb_hN g p b
        · rw [if_pos h2]; intro h3; cases h3
        · rw [if_neg h2]; intro h3; cases h3
    · rw [if_neg hf]
      exact h
theorem mb_bst_cn {g : Nat → Int32} {p : Nat} : ∀ (m b : Nat), mb_bst g p m b none = none ↔ mb_T (fun b => if mb_fits g p b = true then 1 else 0) b m = 0 := by
  intro m
  induction m with
  | zero => intro b; exact ⟨fun _ => rfl, fun _ => rfl⟩
  | succ m ih =>
    intro b
    rw [mb_bst, mb_T]
    by_cases hf : mb_fits g p b = true
    · rw [if_pos hf]
      have e : mb_up g p b none = some b := by
        unfold mb_up
        rw [if_pos hf]
      rw [e]
      exact ⟨fun h => absurd h (mb_bst_keep m (b + 1) _ (fun h => by cases h)), fun h => by omega⟩
    · rw [if_neg hf]
      have e : mb_up g p b none = none := by
        unfold mb_up
        rw [if_neg hf]
      rw [e, ih (b + 1), Nat.zero_add]
theorem mb_be_cn {g : Nat → Int32} {p : Nat} (hf : mb_fr g p = true) : mb_be g p = none ↔ mb_cn g p = 0 := by
  unfold mb_be
  rw [if_pos hf]
  exact mb_bst_cn (4 * mb_kc g) 0
def mb_ff (r : Option (Nat × Nat)) : Int32 := match r with
  | none => -1
  | some q => Int32.ofNat q.1
theorem mb_ga_L {J U : gx_F} {g : Nat → Int32} (hU : U 59 = g) (hi : mb_iv g) : ∀ (m s n : Nat), s + m = 42 → f_X7_growsAt_L1 J U (fun _ => some (-1)) (n + m + 1) (Int32.ofNat s) = some (mb_ff (mb_fi g m s)) := by
  intro m
  induction m with
  | zero =>
    intro s n hm
    have hs : s = 42 := by omega
    subst hs
    rw [f_X7_growsAt_L1, if_pos (by decide)]
    rfl
  | succ m ih =>
    intro s n hm
    have hs : s < 42 := by omega
    have hf : f_X7_isFree (Int32.ofNat s) J U = some (mb_fr (U 59) s) := mb_isFree7 hs
    rw [show n + (m + 1) + 1 = (n + m + 1) + 1 by omega, f_X7_growsAt_L1, if_neg (mb_42 s hs), hf, Option.bind_some, mb_add1, hU, mb_choicesAt hU hi hs, Option.bind_some]
    cases h : mb_fr g s with
    | false =>
      have hb : mb_be g s = none := by
        unfold mb_be
        rw [h, if_neg mb_ft]
      rw [if_pos gx_bi_0, mb_fi0 hb, ih (s + 1) n (by omega)]
    | true =>
      have hiff := mb_be_cn h
      have hmx := mb_cn_max hi s
      rw [if_neg (show ¬ gx_bi true = 0 by decide)]
      cases hb : mb_be g s with
      | none => rw [if_pos ((mb_le0 (by omega)).mpr (hiff.mp hb)), mb_fi0 hb, ih (s + 1) n (by omega)]
      | some b =>
        rw [mb_fi1 hb, if_neg]
        · rfl
        · intro h2
          rw [hiff.mpr ((mb_le0 (by omega)).mp h2)] at hb
          cases hb
theorem mb_growsAt {J U : gx_F} {g : Nat → Int32} (hU : U 59 = g) (hi : mb_iv g) : f_X7_growsAt J U = some (mb_ff (mb_fi g 42 0)) := mb_ga_L hU hi 42 0 957 rfl
theorem mb_gwith_L {J U : gx_F} {g : Nat → Int32} (hU : U 59 = g) (hi : mb_iv g) {p : Nat} (hp : p < 42) (K : Int32 → Option Int32) : ∀ (m b n : Nat) (c : Option Nat), b + m = 4 * mb_kc g → mb_bo g p (4 * mb_kc g) c → f_X7_growsWith_L1 (Int32.ofNat p) J U (fun x _ => K x) (n + m + 1) (mb_N c) (Int32.ofNat b) = K (mb_N (mb_bst g p m b c)) := by
  obtain ⟨k1, k2⟩ := hi.kc
  have hU0 : U 59 (0 : Int32).toNatClampNeg = Int32.ofNat (mb_kc g) := by
    rw [hU]
    exact k2
  intro m
  induction m with
  | zero =>
    intro b n c hm hc
    have hb : b = 4 * mb_kc g := by omega
    subst hb
    rw [f_X7_growsWith_L1, mb_ck (by decide), hU0, (mb_k4 _ k1).2, if_pos ((mb_le (by omega) (by omega)).mpr (by omega))]
    rfl
  | succ m ih =>
    intro b n c hm hc
    have hb : b < 32 := by omega
    have hfit := mb_fits7 (J := J) (U := U) (p := p) (b := b) (by rw [hU]; exact hi) hp hb
    rw [hU] at hfit
    have hbo := hc.up (b := b) (by omega)
    rw [show n + (m + 1) + 1 = (n + m + 1) + 1 by omega, f_X7_growsWith_L1, mb_ck (by decide), hU0, (mb_k4 _ k1).2, if_neg (fun h => absurd ((mb_le (by omega) (by omega)).mp h) (by omega)), hfit, Option.bind_some, mb_add1, mb_bst]
    have i0 := ih (b + 1) n (mb_up g p b c) (by omega) hbo
    rw [← i0]
    unfold mb_up
    cases mb_fits g p b with
    | false => rw [if_pos gx_bi_0, if_neg mb_ft]
    | true =>
      rw [if_neg (show ¬ gx_bi true = 0 by decide), if_pos rfl]
      cases c with
      | none =>
        rw [if_pos (show mb_N none < 0 by decide)]
        rfl
      | some d =>
        have hd : d < 32 := by
          have := (hc d rfl).1
          omega
        obtain ⟨e1, l1⟩ := mb_hold_of hi (p := p) hb
        obtain ⟨e2, l2⟩ := mb_hold_of hi (p := p) hd
        have h1 := mb_held (J := J) (U := U) (p := p) (b := b) (by rw [hU]; exact hi) hp hb
        have h2 := mb_held (J := J) (U := U) (p := p) (b := d) (by rw [hU]; exact hi) hp hd
        rw [hU] at h1 h2
        rw [if_neg (show ¬ mb_N (some d) < 0 from mb_pos (by omega)), show mb_N (some d) = Int32.ofNat d from rfl, h1, Option.bind_some, h2, Option.bind_some, e1, e2]
        by_cases h : mb_hN g p d < mb_hN g p b
        · rw [if_neg (fun h3 => absurd ((mb_le (by omega) (by omega)).mp h3) (by omega))]
          show _ = f_X7_growsWith_L1 (Int32.ofNat p) J U (fun x _ => K x) (n + m + 1) (mb_N (if mb_hN g p d < mb_hN g p b then some b else some d)) (Int32.ofNat (b + 1))
          rw [if_pos h]
          rfl
        · rw [if_pos ((mb_le (by omega) (by omega)).mpr (by omega))]
          show _ = f_X7_growsWith_L1 (Int32.ofNat p) J U (fun x _ => K x) (n + m + 1) (mb_N (if mb_hN g p d < mb_hN g p b then some b else some d)) (Int32.ofNat (b + 1))
          rw [if_neg h]
          rfl
theorem mb_growsWith {J U : gx_F} {g : Nat → Int32} (hU : U 59 = g) (hi : mb_iv g) {p : Nat} (hp : p < 42) (hf : mb_fr g p = true) : f_X7_growsWith (Int32.ofNat p) J U = some (mb_N (mb_be g p)) := by
  have k1 := hi.kc.1
  have e := mb_gwith_L (J := J) hU hi hp (fun y => some y) (4 * mb_kc g) 0 (999 - 4 * mb_kc g) none (by omega) (mb_bo0 g p _)
  rw [show 999 - 4 * mb_kc g + 4 * mb_kc g + 1 = 1000 by omega] at e
  unfold mb_be
  rw [if_pos hf]
  exact e
