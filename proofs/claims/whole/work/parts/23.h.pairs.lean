/-! pairs of neighbours: pairs, errors of all, holds of all, both sides -/
theorem mb_iv.st {g : Nat → Int32} (h : mb_iv g) {i : Nat} (hi : i < 7) : ∃ n, n ≤ 3 ∧ g (6 + i) = Int32.ofNat n := by
  obtain ⟨kc, need, -, -, -, -, -, -, -, h8, -⟩ := h
  exact h8 i hi
def mb_bN (g : Nat → Int32) (x y : Int32) : Nat := (mb_bt g x y).toNatClampNeg
def mb_oN (x y : Int32) : Nat := if mb_od x y = true then 1 else 0
theorem mb_bt_of {g : Nat → Int32} (hi : mb_iv g) {n : Nat} (hn : n ≤ 6) (y : Int32) : mb_bt g (Int32.ofNat n) y = Int32.ofNat (mb_bN g (Int32.ofNat n) y) ∧ mb_bN g (Int32.ofNat n) y ≤ 3 := by
  unfold mb_bN mb_bt
  by_cases h : Int32.ofNat n = y
  · obtain ⟨m, hm, hg⟩ := hi.st (i := n) (by omega)
    rw [if_pos h, mb_tn (by omega), hg, mb_tn (by omega)]
    exact ⟨rfl, hm⟩
  · rw [if_neg h]
    exact ⟨rfl, Nat.zero_le _⟩
theorem mb_bt1 {g : Nat → Int32} {n : Nat} (hn : n ≤ 6) : mb_bt g (Int32.ofNat n) (-1) = 0 := by
  unfold mb_bt
  rw [if_neg (mb_nn (by omega))]
theorem mb_wsB (g : Nat → Int32) : mb_ws (mb_bN g) := by
  refine ⟨fun n hn => ?_, fun m n hm hn => ?_⟩
  · unfold mb_bN
    rw [mb_bt1 hn]
    rfl
  · unfold mb_bN mb_bt
    by_cases h : Int32.ofNat m = Int32.ofNat n
    · rw [if_pos h, if_pos h.symm, h]
    · rw [if_neg h, if_neg (fun h2 => h h2.symm)]
theorem mb_odS (x y : Int32) : mb_od x y = mb_od y x := by
  unfold mb_od
  by_cases h1 : x ≤ 0
  · rw [if_pos h1]
    by_cases h2 : y ≤ 0
    · rw [if_pos h2]
    · rw [if_neg h2, if_pos h1]
  · rw [if_neg h1]
    by_cases h2 : y ≤ 0
    · rw [if_pos h2, if_pos h2]
    · rw [if_neg h2, if_neg h2, if_neg h1]
      by_cases h3 : x = y
      · rw [if_pos h3, if_pos h3.symm]
      · rw [if_neg h3, if_neg (fun h => h3 h.symm)]
theorem mb_wsO : mb_ws mb_oN := by
  refine ⟨fun n hn => ?_, fun m n hm hn => ?_⟩
  · unfold mb_oN
    rw [mb_od1]
    rfl
  · unfold mb_oN
    rw [mb_odS]
theorem mb_st_of {g : Nat → Int32} (hi : mb_iv g) {p s : Nat} (hp : p < 42) : mb_st g p s = Int32.ofNat (mb_pf (mb_bN g) g p s) ∧ mb_pf (mb_bN g) g p s ≤ 3 := by
  unfold mb_st
  rcases hi.br hp with h | ⟨b, hb, h⟩
  · rw [if_pos (mb_free1 h), mb_pf1 h]
    exact ⟨rfl, Nat.zero_le _⟩
  · obtain ⟨n, hn, hg⟩ := hi.gl (s := s) hb
    rw [if_neg (by rw [mb_free0 (by omega) h]; decide), mb_pf0 (by omega) h, h, mb_tn (by omega), mb_ha, hg]
    exact mb_bt_of hi hn _
/-- a row that is another with a place free (x: -1, none) -/
def mb_wo (g : Nat → Int32) (x : Int32) (g' : Nat → Int32) : Prop := (∀ p, p < 42 → Int32.ofNat p = x → g' (45 + p) = -1) ∧ (∀ p, p < 42 → Int32.ofNat p ≠ x → g' (45 + p) = g (45 + p)) ∧ ∀ j, j < 45 → g' j = g j
theorem mb_woN (g : Nat → Int32) : mb_wo g (-1) g := ⟨fun p hp h => absurd h (mb_nn (by omega)), fun _ _ _ => rfl, fun _ _ => rfl⟩
def mb_del (g : Nat → Int32) (q : Nat) : Nat → Int32 := fun j => if j = 45 + q then -1 else g j
theorem mb_woD (g : Nat → Int32) {q : Nat} (hq : q < 42) : mb_wo g (Int32.ofNat q) (mb_del g q) := by
  refine ⟨fun p hp h => ?_, fun p hp h => ?_, fun j hj => ?_⟩
  · have := (mb_eq (by omega) (by omega)).mp h
    unfold mb_del
    rw [if_pos (by omega)]
  · unfold mb_del
    rw [if_neg]
    intro h2
    exact h (by rw [show p = q by omega])
  · unfold mb_del
    rw [if_neg (by omega)]
theorem mb_wo.iv {g g' : Nat → Int32} {x : Int32} (h : mb_wo g x g') (hi : mb_iv g) : mb_iv g' := by
  obtain ⟨kc, need, h1, h2, h3, h4, h5, h6, h7, h8, h9, h10⟩ := hi
  refine ⟨kc, need, h1, ?_, h3, h4, ?_, ?_, ?_, fun i hi => ?_, fun i hi => ?_, fun p hp => ?_⟩
  · rw [h.2.2 0 (by omega), h2]
  · rw [h.2.2 2 (by omega), h5]
  · rw [h.2.2 1 (by omega)]
    exact h6
  · rw [h.2.2 6 (by omega), h7]
  · rw [h.2.2 (6 + i) (by omega)]
    exact h8 i hi
  · rw [h.2.2 (13 + i) (by omega)]
    exact h9 i hi
  · by_cases hx : Int32.ofNat p = x
    · exact Or.inl (h.1 p hp hx)
    · rw [h.2.1 p hp hx]
      exact h10 p hp
theorem mb_wo.gl {g g' : Nat → Int32} {x : Int32} (h : mb_wo g x g') {b s : Nat} (hb : b < 32) : mb_gl g' b s = mb_gl g b s := by
  have := mb_gi_lt (b := b) (s := s) hb
  unfold mb_gl
  rw [h.2.2 _ (by omega)]
theorem mb_wo.fc {g g' : Nat → Int32} {x : Int32} (h : mb_wo g x g') (hi : mb_iv g) {p s : Nat} (hp : p < 42) (hs : s < 4) (hx : mb_N (mb_bs p s) ≠ x ∨ mb_bs p s = none) : mb_fc g' p s = mb_fc g p s := by
  cases hq : mb_bs p s with
  | none => rw [mb_fc0 hq, mb_fc0 hq]
  | some q =>
    have hq2 := mb_bs_lt p hp s hs q hq
    rw [hq] at hx
    have hx2 : Int32.ofNat q ≠ x := by
      rcases hx with h1 | h1
      · exact h1
      · cases h1
    have e := h.2.1 q hq2 hx2
    rcases hi.br hq2 with h2 | ⟨b, hb, h2⟩
    · rw [mb_fcN hq h2, mb_fcN hq (by rw [e, h2])]
    · rw [mb_fcS hq (by omega) h2, mb_fcS hq (by omega) (e.trans h2), h.gl hb]
theorem mb_wo.bt {g g' : Nat → Int32} {x : Int32} (h : mb_wo g x g') {n : Nat} (hn : n ≤ 6) (y : Int32) : mb_bt g' (Int32.ofNat n) y = mb_bt g (Int32.ofNat n) y := by
  unfold mb_bt
  rw [mb_tn (by omega), h.2.2 _ (by omega)]
/-- the strength toward a side where a place is free: skipped, or as it is -/
theorem mb_wo.st {g g' : Nat → Int32} {x : Int32} (h : mb_wo g x g') (hi : mb_iv g) {p s : Nat} (hp : p < 42) (hs : s < 4) : mb_st g' p s = if Int32.ofNat p = x then 0 else if mb_N (mb_bs p s) = x then 0 else mb_st g p s := by
  by_cases h1 : Int32.ofNat p = x
  · rw [if_pos h1, mb_st, if_pos (mb_free1 (h.1 p hp h1))]
  · rw [if_neg h1]
    have e := h.2.1 p hp h1
    rcases hi.br hp with h2 | ⟨b, hb, h2⟩
    · rw [mb_st, if_pos (mb_free1 (by rw [e, h2])), mb_st, if_pos (mb_free1 h2)]
      by_cases h3 : mb_N (mb_bs p s) = x
      · rw [if_pos h3]
      · rw [if_neg h3]
    · obtain ⟨n, hn, hg⟩ := hi.gl (s := s) hb
      have e1 : mb_st g' p s = mb_bt g (Int32.ofNat n) (mb_fc g' p s) := by
        rw [mb_st, if_neg (by rw [mb_free0 (by omega) (e.trans h2)]; decide), e, h2, mb_tn (by omega), mb_ha, h.gl hb, hg, h.bt hn]
      have e2 : mb_st g p s = mb_bt g (Int32.ofNat n) (mb_fc g p s) := by
        rw [mb_st, if_neg (by rw [mb_free0 (by omega) h2]; decide), h2, mb_tn (by omega), mb_ha, hg]
      rw [e1, e2]
      by_cases h3 : mb_N (mb_bs p s) = x
      · rw [if_pos h3]
        cases hq : mb_bs p s with
        | none => rw [mb_fc0 hq, mb_bt1 hn]
        | some q =>
          rw [hq] at h3
          rw [mb_fcN hq (h.1 q (mb_bs_lt p hp s hs q hq) h3), mb_bt1 hn]
      · rw [if_neg h3, h.fc hi hp hs (Or.inl h3)]
theorem mb_two : ∀ s, s < 3 → ¬ (2 : Int32) < Int32.ofNat s := by decide +kernel
theorem mb_aH_s {I V : gx_F} {k : Nat} {g g' : Nat → Int32} {x : Int32} (hw : mb_wr I V k g) (hi : mb_iv g) (h : mb_wo g x g') {p s : Nat} (hp : p < 42) (hs : s < 3) (K : Int32 → Int32 → Option Int32) (n : Nat) (a : Int32) : f_X5_allHolds_L2 k x I V (Int32.ofNat p) K (n + 1) a (Int32.ofNat s) = f_X5_allHolds_L2 k x I V (Int32.ofNat p) K n (a + mb_st g' p s) (Int32.ofNat (s + 1)) := by
  rw [f_X5_allHolds_L2, if_neg (mb_two s hs), mb_beside6 I V hp (by omega), Option.bind_some, mb_strTow hw hi hp (by omega), Option.bind_some, mb_add1, h.st hi hp (by omega)]
  by_cases h1 : Int32.ofNat p = x
  · rw [if_pos h1, if_pos h1, Int32.add_zero]
  · rw [if_neg h1, if_neg h1]
    by_cases h2 : mb_N (mb_bs p s) = x
    · rw [if_pos h2, if_pos h2, Int32.add_zero]
    · rw [if_neg h2, if_neg h2]
theorem mb_aH_2 {I V : gx_F} {k : Nat} {g g' : Nat → Int32} {x : Int32} (hw : mb_wr I V k g) (hi : mb_iv g) (h : mb_wo g x g') {p : Nat} (hp : p < 42) (K : Int32 → Int32 → Option Int32) (n : Nat) (a : Int32) : f_X5_allHolds_L2 k x I V (Int32.ofNat p) K (n + 3) a 1 = K (a + Int32.ofNat (mb_pf (mb_bN g') g' p 1 + mb_pf (mb_bN g') g' p 2)) 3 := by
  have hi2 := h.iv hi
  have e1 := mb_aH_s hw hi h hp (s := 1) (by omega) K (n + 2) a
  have e2 := mb_aH_s hw hi h hp (s := 2) (by omega) K (n + 1) (a + mb_st g' p 1)
  refine e1.trans (e2.trans ?_)
  rw [f_X5_allHolds_L2, if_pos (by decide), (mb_st_of hi2 hp).1, (mb_st_of hi2 hp).1, Int32.add_assoc, ← Int32.ofNat_add]
  rfl
theorem mb_aH_L {I V : gx_F} {k : Nat} {g g' : Nat → Int32} {x : Int32} (hw : mb_wr I V k g) (hi : mb_iv g) (h : mb_wo g x g') (K : Int32 → Int32 → Option Int32) : ∀ (m s n : Nat) (a : Int32), s + m = 42 → f_X5_allHolds_L1 k x I V K (n + m + 1) a (Int32.ofNat s) = K (a + Int32.ofNat (mb_T (fun p => mb_pf (mb_bN g') g' p 1 + mb_pf (mb_bN g') g' p 2) s m)) (Int32.ofNat 42) := by
  intro m
  induction m with
  | zero =>
    intro s n a hm
    have hs : s = 42 := by omega
    subst hs
    rw [f_X5_allHolds_L1, if_pos (by decide)]
    exact congrArg (fun y => K y _) (Int32.add_zero a).symm
  | succ m ih =>
    intro s n a hm
    have hs : s < 42 := by omega
    rw [show n + (m + 1) + 1 = (n + m + 1) + 1 by omega, f_X5_allHolds_L1, if_neg (mb_42 s hs)]
    refine (mb_aH_2 hw hi h hs _ 997 a).trans ?_
    show f_X5_allHolds_L1 k x I V K (n + m + 1) _ (Int32.ofNat s + 1) = _
    rw [mb_add1, ih (s + 1) n _ (by omega), mb_T, Int32.add_assoc, ← Int32.ofNat_add]
/-- the holds of all bricks of a row -/
def mb_all (g : Nat → Int32) : Nat := mb_T (fun p => mb_pf (mb_bN g) g p 0 + mb_pf (mb_bN g) g p 1 + mb_pf (mb_bN g) g p 2 + mb_pf (mb_bN g) g p 3) 0 42
theorem mb_allH5 {I V : gx_F} {k : Nat} {g g' : Nat → Int32} {x : Int32} (hw : mb_wr I V k g) (hi : mb_iv g) (h : mb_wo g x g') : f_X5_allHolds k x I V = some (Int32.ofNat (mb_all g')) := by
  have e := mb_aH_L hw hi h (fun y _ => some (2 * y)) 42 0 957 0 rfl
  refine e.trans ?_
  rw [mb_all, mb_pfD (mb_wsB g') (h.iv hi), Int32.ofNat_mul, Int32.zero_add]
  rfl
theorem mb_holdN {g : Nat → Int32} (hi : mb_iv g) {p b : Nat} (hp : p < 42) (hb : b < 32) (h : g (45 + p) = Int32.ofNat b) : mb_hold g p b = Int32.ofNat (mb_pf (mb_bN g) g p 0 + mb_pf (mb_bN g) g p 1 + mb_pf (mb_bN g) g p 2 + mb_pf (mb_bN g) g p 3) := by
  have e := mb_ST (h := mb_ha g p b) (f := mb_pf (mb_bN g) g p) 4 0 0 (fun s _ hs => by
    rw [← (mb_st_of hi hp).1, mb_st, if_neg (by rw [mb_free0 (by omega) h]; decide), h, mb_tn (by omega)])
  rw [mb_hold, e, Int32.zero_add]
  simp only [mb_T, Nat.add_zero, Nat.add_assoc]
theorem mb_aH7_L {J U : gx_F} (hi : mb_iv (U 59)) (K : Int32 → Int32 → Option Int32) : ∀ (m s n : Nat) (a : Int32), s + m = 42 → f_X7_allHolds_L1 J U K (n + m + 1) a (Int32.ofNat s) = K (a + Int32.ofNat (mb_T (fun p => mb_pf (mb_bN (U 59)) (U 59) p 0 + mb_pf (mb_bN (U 59)) (U 59) p 1 + mb_pf (mb_bN (U 59)) (U 59) p 2 + mb_pf (mb_bN (U 59)) (U 59) p 3) s m)) (Int32.ofNat 42) := by
  intro m
  induction m with
  | zero =>
    intro s n a hm
    have hs : s = 42 := by omega
    subst hs
    rw [f_X7_allHolds_L1, if_pos (by decide)]
    exact congrArg (fun y => K y _) (Int32.add_zero a).symm
  | succ m ih =>
    intro s n a hm
    have hs : s < 42 := by omega
    obtain ⟨-, -, -, -, h5, -⟩ := mb_small s (by omega)
    have hf : f_X7_isFree (Int32.ofNat s) J U = some (mb_fr (U 59) s) := mb_isFree7 hs
    have i0 := ih (s + 1) n
    rw [show n + (m + 1) + 1 = (n + m + 1) + 1 by omega, f_X7_allHolds_L1, if_neg (mb_42 s hs), hf, Option.bind_some, mb_add1, mb_T]
    rcases hi.br hs with h | ⟨b, hb, h⟩
    · rw [mb_free1 h, if_neg (by decide), i0 _ (by omega), mb_pf1 h, mb_pf1 h, mb_pf1 h, mb_pf1 h, Int32.add_zero, Nat.zero_add]
    · rw [mb_free0 (by omega) h, if_pos gx_bi_0, mb_ck (mb_in42 s hs).2, h5, h, mb_held hi hs hb, Option.bind_some, i0 _ (by omega), mb_holdN hi hs hb h, Int32.add_assoc, ← Int32.ofNat_add]
theorem mb_allH7 {J U : gx_F} (hi : mb_iv (U 59)) : f_X7_allHolds J U = some (Int32.ofNat (mb_all (U 59))) := by
  have e := mb_aH7_L (J := J) (U := U) hi (fun y _ => some y) 42 0 957 0 rfl
  refine e.trans ?_
  rw [Int32.zero_add]
  rfl
theorem mb_all_max {g : Nat → Int32} (hi : mb_iv g) : mb_all g ≤ 504 := by
  refine mb_T_max (B := 12) 42 0 (fun p _ hp => ?_)
  have a0 := (mb_st_of hi (p := p) (s := 0) (by omega)).2
  have a1 := (mb_st_of hi (p := p) (s := 1) (by omega)).2
  have a2 := (mb_st_of hi (p := p) (s := 2) (by omega)).2
  have a3 := (mb_st_of hi (p := p) (s := 3) (by omega)).2
  omega
