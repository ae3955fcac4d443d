/-! errors of all, pairs of neighbours, both sides -/
def mb_eb (g : Nat → Int32) (p s : Nat) : Bool := decide (mb_pf mb_oN g p s = 1)
theorem mb_oN_le (x y : Int32) : mb_oN x y ≤ 1 := by
  unfold mb_oN
  by_cases h : mb_od x y = true
  · rw [if_pos h]; omega
  · rw [if_neg h]; omega
theorem mb_pfO_le (g : Nat → Int32) (p s : Nat) : mb_pf mb_oN g p s ≤ 1 := by
  unfold mb_pf
  by_cases h : mb_fr g p = true
  · rw [if_pos h]; omega
  · rw [if_neg h]; exact mb_oN_le _ _
theorem mb_odN (y : Int32) : mb_od (-1) y = false := by
  rw [mb_odS, mb_od1]
theorem mb_errT {I V : gx_F} {k : Nat} {g : Nat → Int32} (hw : mb_wr I V k g) (hi : mb_iv g) {p s : Nat} (hp : p < 42) (hs : s < 4) : f_X5_isErrorToward k (Int32.ofNat p) (Int32.ofNat s) I V = some (mb_eb g p s) := by
  unfold mb_eb
  rcases hi.br hp with h | ⟨b, hb, h⟩
  · rw [f_X5_isErrorToward, mb_brickOn hw hp, h, Option.bind_some, mb_glueNo, Option.bind_some, mb_facing hw hi hp hs, Option.bind_some, mb_odds, Option.bind_some, mb_odN, mb_pf1 h]
    rfl
  · rw [mb_errTow hw hi hp hs hb h, mb_pf0 (by omega) h, mb_oN]
    cases mb_od (mb_gl g b s) (mb_fc g p s) <;> rfl
theorem mb_cnt1 {g : Nat → Int32} {p s : Nat} {α : Type} (X : Int32 → α) (a : Int32) : (if gx_bi (mb_eb g p s) = 0 then X a else X (a + 1)) = X (a + Int32.ofNat (mb_pf mb_oN g p s)) := by
  unfold mb_eb
  have h := mb_pfO_le g p s
  by_cases h1 : mb_pf mb_oN g p s = 1
  · rw [h1, decide_eq_true rfl, if_neg (by decide)]
    rfl
  · have h0 : mb_pf mb_oN g p s = 0 := by omega
    rw [h0, if_pos (by decide)]
    exact congrArg X (Int32.add_zero a).symm
theorem mb_eP_s {I V : gx_F} {k : Nat} {g : Nat → Int32} (hw : mb_wr I V k g) (hi : mb_iv g) {p s : Nat} (hp : p < 42) (hs : s < 3) (K : Int32 → Int32 → Option Int32) (n : Nat) (a : Int32) : f_X5_errorPairs_L2 k I V (Int32.ofNat p) K (n + 1) a (Int32.ofNat s) = f_X5_errorPairs_L2 k I V (Int32.ofNat p) K n (a + Int32.ofNat (mb_pf mb_oN g p s)) (Int32.ofNat (s + 1)) := by
  rw [f_X5_errorPairs_L2, if_neg (mb_two s hs), mb_errT hw hi hp (by omega), Option.bind_some, mb_add1]
  exact mb_cnt1 (fun a => f_X5_errorPairs_L2 k I V (Int32.ofNat p) K n a (Int32.ofNat (s + 1))) a
theorem mb_eP_2 {I V : gx_F} {k : Nat} {g : Nat → Int32} (hw : mb_wr I V k g) (hi : mb_iv g) {p : Nat} (hp : p < 42) (K : Int32 → Int32 → Option Int32) (n : Nat) (a : Int32) : f_X5_errorPairs_L2 k I V (Int32.ofNat p) K (n + 3) a 1 = K (a + Int32.ofNat (mb_pf mb_oN g p 1 + mb_pf mb_oN g p 2)) 3 := by
  refine (mb_eP_s hw hi hp (s := 1) (by omega) K (n + 2) a).trans ((mb_eP_s hw hi hp (s := 2) (by omega) K (n + 1) _).trans ?_)
  rw [f_X5_errorPairs_L2, if_pos (by decide), Int32.add_assoc, ← Int32.ofNat_add]
  rfl
theorem mb_eP_L {I V : gx_F} {k : Nat} {g : Nat → Int32} (hw : mb_wr I V k g) (hi : mb_iv g) (K : Int32 → Int32 → Option Int32) : ∀ (m s n : Nat) (a : Int32), s + m = 42 → f_X5_errorPairs_L1 k I V K (n + m + 1) a (Int32.ofNat s) = K (a + Int32.ofNat (mb_T (fun p => mb_pf mb_oN g p 1 + mb_pf mb_oN g p 2) s m)) (Int32.ofNat 42) := by
  intro m
  induction m with
  | zero =>
    intro s n a hm
    have hs : s = 42 := by omega
    subst hs
    rw [f_X5_errorPairs_L1, if_pos (by decide)]
    exact congrArg (fun y => K y _) (Int32.add_zero a).symm
  | succ m ih =>
    intro s n a hm
    have hs : s < 42 := by omega
    rw [show n + (m + 1) + 1 = (n + m + 1) + 1 by omega, f_X5_errorPairs_L1, if_neg (mb_42 s hs)]
    refine (mb_eP_2 hw hi hs _ 997 a).trans ?_
    show f_X5_errorPairs_L1 k I V K (n + m + 1) _ (Int32.ofNat s + 1) = _
    rw [mb_add1, ih (s + 1) n _ (by omega), mb_T, Int32.add_assoc, ← Int32.ofNat_add]
def mb_ers (g : Nat → Int32) : Nat := mb_T (fun p => mb_pf mb_oN g p 1 + mb_pf mb_oN g p 2) 0 42
theorem mb_ers_max (g : Nat → Int32) : mb_ers g ≤ 84 := by
  refine mb_T_max (B := 2) 42 0 (fun p _ hp => ?_)
  have a1 := mb_pfO_le g p 1
  have a2 := mb_pfO_le g p 2
  omega
theorem mb_errors6 {I V : gx_F} {g : Nat → Int32} (hw : mb_wr I V 0 g) (hi : mb_iv g) : f_X6_errors I V = some (Int32.ofNat (mb_ers g)) := by
  have e := mb_eP_L hw hi (fun y _ => some y) 42 0 957 0 rfl
  rw [f_X6_errors, show f_X5_errorPairs 0 I V = _ from e, Option.bind_some, Int32.zero_add]
  rfl
theorem mb_errsN {g : Nat → Int32} {p b : Nat} (hb : b < 32) (h : g (45 + p) = Int32.ofNat b) : mb_errs g p b = Int32.ofNat (mb_pf mb_oN g p 0 + mb_pf mb_oN g p 1 + mb_pf mb_oN g p 2 + mb_pf mb_oN g p 3) := by
  have e := mb_ST (h := mb_ev g p b) (f := mb_pf mb_oN g p) 4 0 0 (fun s _ hs => by
    rw [mb_pf0 (by omega) h, mb_oN, mb_ev]
    by_cases h1 : mb_od (mb_gl g b s) (mb_fc g p s) = true
    · rw [if_pos h1, if_pos h1]
      rfl
    · rw [if_neg h1, if_neg h1]
      rfl)
  rw [mb_errs, e, Int32.zero_add]
  simp only [mb_T, Nat.add_zero, Nat.add_assoc]
theorem mb_er7_L {J U : gx_F} (hi : mb_iv (U 59)) (K : Int32 → Int32 → Option (Int32 × gx_F × gx_F)) : ∀ (m s n : Nat) (a : Int32), s + m = 42 → f_X7_errors_L1 J U K (n + m + 1) a (Int32.ofNat s) = K (a + Int32.ofNat (mb_T (fun p => mb_pf mb_oN (U 59) p 0 + mb_pf mb_oN (U 59) p 1 + mb_pf mb_oN (U 59) p 2 + mb_pf mb_oN (U 59) p 3) s m)) (Int32.ofNat 42) := by
  intro m
  induction m with
  | zero =>
    intro s n a hm
    have hs : s = 42 := by omega
    subst hs
    rw [f_X7_errors_L1, if_pos (by decide)]
    exact congrArg (fun y => K y _) (Int32.add_zero a).symm
  | succ m ih =>
    intro s n a hm
    have hs : s < 42 := by omega
    obtain ⟨-, -, -, -, h5, -⟩ := mb_small s (by omega)
    have hf : f_X7_isFree (Int32.ofNat s) (gx_u J 58 9 0) U = some (mb_fr (U 59) s) := mb_isFree7 hs
    have i0 := ih (s + 1) n
    rw [show n + (m + 1) + 1 = (n + m + 1) + 1 by omega, f_X7_errors_L1, if_neg (mb_42 s hs), hf, Option.bind_some, mb_add1, mb_T]
    rcases hi.br hs with h | ⟨b, hb, h⟩
    · rw [mb_free1 h, if_neg (by decide), i0 _ (by omega), mb_pf1 h, mb_pf1 h, mb_pf1 h, mb_pf1 h, Int32.add_zero, Nat.zero_add]
    · rw [mb_free0 (by omega) h, if_pos gx_bi_0, mb_ck (mb_in42 s hs).2, h5, h, mb_errorsOf7 hi hs hb, Option.bind_some, i0 _ (by omega), mb_errsN hb h, Int32.add_assoc, ← Int32.ofNat_add]
theorem mb_half : ∀ n, n < 100 → Int32.ofNat (2 * n) / 2 = Int32.ofNat n := by decide +kernel
theorem mb_errors7 {J U : gx_F} (hi : mb_iv (U 59)) : f_X7_errors J U = some (Int32.ofNat (mb_ers (U 59)), gx_u J 58 9 0, U) := by
  have e := mb_er7_L (J := J) (U := U) hi (fun y _ => some (y / 2, gx_u J 58 9 0, U)) 42 0 957 0 rfl
  refine e.trans ?_
  have := mb_ers_max (U 59)
  rw [Int32.zero_add, mb_pfD mb_wsO hi, ← mb_half (mb_ers (U 59)) (by omega)]
  rfl
/-- whether a place has a brick and a neighbour at a side -/
def mb_nb (g : Nat → Int32) (p s : Nat) : Bool := match mb_bs p s with
  | none => false
  | some q => !mb_fr g q
def mb_pr (g : Nat → Int32) (p s : Nat) : Nat := if mb_fr g p = true then 0 else if mb_nb g p s = true then 1 else 0
theorem mb_ft : ¬ (false = true) := by decide
theorem mb_nb0 {g : Nat → Int32} {p s : Nat} (h : mb_bs p s = none) : mb_nb g p s = false := by
  unfold mb_nb
  rw [h]
theorem mb_nb1 {g : Nat → Int32} {p s q : Nat} (h : mb_bs p s = some q) : mb_nb g p s = !mb_fr g q := by
  unfold mb_nb
  rw [h]
theorem mb_isNb {I V : gx_F} {k : Nat} {g : Nat → Int32} (hw : mb_wr I V k g) (hi : mb_iv g) {p s : Nat} (hp : p < 42) (hs : s < 4) : f_X5_isNeighbourToward k (Int32.ofNat p) (Int32.ofNat s) I V = some (mb_nb g p s) := by
  rw [f_X5_isNeighbourToward, mb_beside6 I V hp hs, Option.bind_some]
  cases hq : mb_bs p s with
  | none =>
    rw [mb_nb0 hq, show mb_N none = -1 from rfl, f_X5_isFree, mb_brickNo, Option.bind_some, if_pos rfl, Option.bind_some, if_neg (by decide)]
  | some q =>
    rw [mb_nb1 hq, show mb_N (some q) = Int32.ofNat q from rfl, mb_isFree5 hw hi (mb_bs_lt p hp s hs q hq), Option.bind_some]
    cases mb_fr g q <;> rfl
theorem mb_nP_s {I V : gx_F} {k : Nat} {g : Nat → Int32} (hw : mb_wr I V k g) (hi : mb_iv g) {p s : Nat} (hp : p < 42) (hs : s < 3) (K : Int32 → Int32 → Option Int32) (n : Nat) (a : Int32) : f_X5_neighbourPairs_L2 k I V (Int32.ofNat p) K (n + 1) a (Int32.ofNat s) = f_X5_neighbourPairs_L2 k I V (Int32.ofNat p) K n (a + Int32.ofNat (mb_pr g p s)) (Int32.ofNat (s + 1)) := by
  rw [f_X5_neighbourPairs_L2, if_neg (mb_two s hs), mb_isFree5 hw hi hp, Option.bind_some, mb_isNb hw hi hp (by omega), Option.bind_some, mb_add1]
  unfold mb_pr
  cases mb_fr g p with
  | true =>
    rw [if_neg (show ¬ gx_bi true = 0 by decide), if_pos rfl]
    exact congrArg (fun y => f_X5_neighbourPairs_L2 k I V (Int32.ofNat p) K n y _) (Int32.add_zero a).symm
  | false =>
    rw [if_pos gx_bi_0, if_neg mb_ft]
    cases mb_nb g p s with
    | true =>
      rw [if_neg (show ¬ gx_bi true = 0 by decide), if_pos rfl]
      rfl
    | false =>
      rw [if_pos gx_bi_0, if_neg mb_ft]
      exact congrArg (fun y => f_X5_neighbourPairs_L2 k I V (Int32.ofNat p) K n y _) (Int32.add_zero a).symm
theorem mb_nP_L {I V : gx_F} {k : Nat} {g : Nat → Int32} (hw : mb_wr I V k g) (hi : mb_iv g) (K : Int32 → Int32 → Option Int32) : ∀ (m s n : Nat) (a : Int32), s + m = 42 → f_X5_neighbourPairs_L1 k I V K (n + m + 1) a (Int32.ofNat s) = K (a + Int32.ofNat (mb_T (fun p => mb_pr g p 1 + mb_pr g p 2) s m)) (Int32.ofNat 42) := by
  intro m
  induction m with
  | zero =>
    intro s n a hm
    have hs : s = 42 := by omega
    subst hs
    rw [f_X5_neighbourPairs_L1, if_pos (by decide)]
    exact congrArg (fun y => K y _) (Int32.add_zero a).symm
  | succ m ih =>
    intro s n a hm
    have hs : s < 42 := by omega
    rw [show n + (m + 1) + 1 = (n + m + 1) + 1 by omega, f_X5_neighbourPairs_L1, if_neg (mb_42 s hs)]
    refine (mb_nP_s hw hi hs (s := 1) (by omega) _ 999 a).trans ((mb_nP_s hw hi hs (s := 2) (by omega) _ 998 _).trans ?_)
    rw [f_X5_neighbourPairs_L2, if_pos (by decide), mb_add1, ih (s + 1) n _ (by omega), mb_T]
    simp only [Int32.ofNat_add, Int32.add_assoc]
def mb_prs (g : Nat → Int32) : Nat := mb_T (fun p => mb_pr g p 1 + mb_pr g p 2) 0 42
theorem mb_pairs5 {I V : gx_F} {k : Nat} {g : Nat → Int32} (hw : mb_wr I V k g) (hi : mb_iv g) : f_X5_neighbourPairs k I V = some (Int32.ofNat (mb_prs g)) := by
  have e := mb_nP_L hw hi (fun y _ => some y) 42 0 957 0 rfl
  refine e.trans ?_
  rw [Int32.zero_add]
  rfl
theorem mb_three : ∀ s, s < 3 → ¬ (3 : Int32) ≤ Int32.ofNat s := by decide +kernel
theorem mb_nP7_s {J U : gx_F} {p s : Nat} (hp : p < 42) (hs : s < 3) (K : Int32 → Int32 → Option Int32) (n : Nat) (a : Int32) : f_X7_pairs_L2 J U (Int32.ofNat p) K (n + 1) a (Int32.ofNat s) = f_X7_pairs_L2 J U (Int32.ofNat p) K n (a + Int32.ofNat (mb_pr (U 59) p s)) (Int32.ofNat (s + 1)) := by
  have hf : f_X7_isFree (Int32.ofNat p) J U = some (mb_fr (U 59) p) := mb_isFree7 hp
  rw [f_X7_pairs_L2, if_neg (mb_three s hs), hf, Option.bind_some, mb_beside7 J U hp (by omega), Option.bind_some, Option.bind_some, mb_add1]
  unfold mb_pr
  cases mb_fr (U 59) p with
  | true =>
    rw [if_neg (show ¬ gx_bi true = 0 by decide), if_pos rfl]
    rfl
  | false =>
    rw [if_pos gx_bi_0, if_neg mb_ft]
    cases hq : mb_bs p s with
    | none =>
      rw [mb_nb0 hq, if_pos (show mb_N none < 0 by decide), if_neg mb_ft]
      rfl
    | some q =>
      have hq2 := mb_bs_lt p hp s (by omega) q hq
      have hf2 : f_X7_isFree (Int32.ofNat q) J U = some (mb_fr (U 59) q) := mb_isFree7 hq2
      rw [mb_nb1 hq, show mb_N (some q) = Int32.ofNat q from rfl, if_neg (mb_pos (by omega)), hf2, Option.bind_some]
      cases mb_fr (U 59) q <;> rfl
theorem mb_nP7_L {J U : gx_F} (K : Int32 → Int32 → Option Int32) : ∀ (m s n : Nat) (a : Int32), s + m = 42 → f_X7_pairs_L1 J U K (n + m + 1) a (Int32.ofNat s) = K (a + Int32.ofNat (mb_T (fun p => mb_pr (U 59) p 1 + mb_pr (U 59) p 2) s m)) (Int32.ofNat 42) := by
  intro m
  induction m with
  | zero =>
    intro s n a hm
    have hs : s = 42 := by omega
    subst hs
    rw [f_X7_pairs_L1, if_pos (by decide)]
    exact congrArg (fun y => K y _) (Int32.add_zero a).symm
  | succ m ih =>
    intro s n a hm
    have hs : s < 42 := by omega
    rw [show n + (m + 1) + 1 = (n + m + 1) + 1 by omega, f_X7_pairs_L1, if_neg (mb_42 s hs)]
    refine (mb_nP7_s hs (s := 1) (by omega) _ 999 a).trans ((mb_nP7_s hs (s := 2) (by omega) _ 998 _).trans ?_)
    rw [f_X7_pairs_L2, if_pos (by decide), mb_add1, ih (s + 1) n _ (by omega), mb_T]
    simp only [Int32.ofNat_add, Int32.add_assoc]
theorem mb_pairs7 {J U : gx_F} : f_X7_pairs J U = some (Int32.ofNat (mb_prs (U 59))) := by
  have e := mb_nP7_L (J := J) (U := U) (fun y _ => some y) 42 0 957 0 rfl
  refine e.trans ?_
  rw [Int32.zero_add]
  rfl
