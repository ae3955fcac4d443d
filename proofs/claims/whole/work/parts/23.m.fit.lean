/-! which bricks fit a place, both sides -/
theorem mb_eq0 {a : Nat} (ha : a < 2 ^ 31) : Int32.ofNat a = 0 ↔ a = 0 := mb_eq (b := 0) ha (by decide)
theorem mb_bsr {α : Type} (x : Option α) : (Option.bind x fun y => some y) = x := by cases x <;> rfl
def mb_kc (g : Nat → Int32) : Nat := (g 0).toNatClampNeg
def mb_nd (g : Nat → Int32) : Nat := (g 2).toNatClampNeg
theorem mb_iv.kc {g : Nat → Int32} (h : mb_iv g) : mb_kc g ≤ 8 ∧ g 0 = Int32.ofNat (mb_kc g) := by
  obtain ⟨kc, need, h1, h2, -⟩ := h
  unfold mb_kc
  rw [h2, mb_tn (by omega)]
  exact ⟨h1, rfl⟩
theorem mb_iv.nd {g : Nat → Int32} (h : mb_iv g) : 1 ≤ mb_nd g ∧ mb_nd g ≤ 6 ∧ g 2 = Int32.ofNat (mb_nd g) := by
  obtain ⟨kc, need, h1, h2, h3, h4, h5, -⟩ := h
  unfold mb_nd
  rw [h5, mb_tn (by omega)]
  exact ⟨h3, h4, rfl⟩
def mb_hN (g : Nat → Int32) (p b : Nat) : Nat := mb_T (fun s => mb_bN g (mb_gl g b s) (mb_fc g p s)) 0 4
def mb_eN (g : Nat → Int32) (p b : Nat) : Nat := mb_T (fun s => mb_oN (mb_gl g b s) (mb_fc g p s)) 0 4
theorem mb_ha_of {g : Nat → Int32} (hi : mb_iv g) {p b s : Nat} (hb : b < 32) : mb_ha g p b s = Int32.ofNat (mb_bN g (mb_gl g b s) (mb_fc g p s)) ∧ mb_bN g (mb_gl g b s) (mb_fc g p s) ≤ 3 := by
  obtain ⟨n, hn, hg⟩ := hi.gl (s := s) hb
  unfold mb_ha
  rw [hg]
  exact mb_bt_of hi hn _
theorem mb_hold_of {g : Nat → Int32} (hi : mb_iv g) {p b : Nat} (hb : b < 32) : mb_hold g p b = Int32.ofNat (mb_hN g p b) ∧ mb_hN g p b ≤ 12 := by
  refine ⟨?_, mb_T_max (B := 3) 4 0 (fun s _ _ => (mb_ha_of hi hb).2)⟩
  have e := mb_ST (h := mb_ha g p b) (f := fun s => mb_bN g (mb_gl g b s) (mb_fc g p s)) 4 0 0 (fun s _ _ => (mb_ha_of hi hb).1)
  rw [mb_hold, e, Int32.zero_add]
  rfl
theorem mb_ev_of (g : Nat → Int32) (p b s : Nat) : mb_ev g p b s = Int32.ofNat (mb_oN (mb_gl g b s) (mb_fc g p s)) := by
  unfold mb_ev mb_oN
  by_cases h : mb_od (mb_gl g b s) (mb_fc g p s) = true
  · rw [if_pos h, if_pos h]
    rfl
  · rw [if_neg h, if_neg h]
    rfl
theorem mb_errs_of (g : Nat → Int32) (p b : Nat) : mb_errs g p b = Int32.ofNat (mb_eN g p b) ∧ mb_eN g p b ≤ 4 := by
  refine ⟨?_, mb_T_max (B := 1) 4 0 (fun s _ _ => mb_oN_le _ _)⟩
  have e := mb_ST (h := mb_ev g p b) (f := fun s => mb_oN (mb_gl g b s) (mb_fc g p s)) 4 0 0 (fun s _ _ => mb_ev_of g p b s)
  rw [mb_errs, e, Int32.zero_add]
  rfl
def mb_fits (g : Nat → Int32) (p b : Nat) : Bool := decide (mb_nd g ≤ mb_hN g p b) && decide (mb_eN g p b = 0)
theorem mb_fits7 {J U : gx_F} (hi : mb_iv (U 59)) {p b : Nat} (hp : p < 42) (hb : b < 32) : f_X7_fits (Int32.ofNat p) (Int32.ofNat b) J U = some (mb_fits (U 59) p b) := by
  obtain ⟨e1, l1⟩ := mb_hold_of hi (p := p) hb
  obtain ⟨e2, l2⟩ := mb_errs_of (U 59) p b
  obtain ⟨n1, n2, n3⟩ := hi.nd
  rw [f_X7_fits, mb_held hi hp hb, Option.bind_some, mb_ck (by decide), mb_errorsOf7 hi hp hb, Option.bind_some, e1, e2, show (2 : Int32).toNatClampNeg = 2 from rfl, n3]
  unfold mb_fits
  by_cases h1 : mb_nd (U 59) ≤ mb_hN (U 59) p b
  · rw [if_neg (fun h => absurd ((mb_lt (by omega) (by omega)).mp h) (by omega)), decide_eq_true h1]
    by_cases h2 : mb_eN (U 59) p b = 0
    · rw [h2]
      rfl
    · rw [if_neg (fun h => h2 ((mb_eq0 (by omega)).mp h)), decide_eq_false h2]
      rfl
  · rw [if_pos ((mb_lt (by omega) (by omega)).mpr (by omega)), decide_eq_false h1]
    rfl
/-- the class's row of what faces a place -/
def mb_fa (g : Nat → Int32) (p : Nat) (V : gx_F) : Prop := ∀ s, s < 4 → V 52 s = mb_fc g p s
def mb_hf (g : Nat → Int32) (p b : Nat) : Int32 := if mb_eN g p b = 0 then Int32.ofNat (mb_hN g p b) else -1
theorem mb_hf_L {I V : gx_F} {k : Nat} {g : Nat → Int32} (hw : mb_wr I V k g) (hi : mb_iv g) {p b : Nat} (hb : b < 32) (hf : mb_fa g p V) (K : Int32 → Int32 → Option Int32) : ∀ (m s n : Nat) (a : Int32), s + m = 4 → f_X1_holdIfFit_L1 k (Int32.ofNat b) I V K (n + m + 1) a (Int32.ofNat s) = if mb_T (fun s => mb_oN (mb_gl g b s) (mb_fc g p s)) s m = 0 then K (a + Int32.ofNat (mb_T (fun s => mb_bN g (mb_gl g b s) (mb_fc g p s)) s m)) (Int32.ofNat 4) else some (-1) := by
  intro m
  induction m with
  | zero =>
    intro s n a hm
    have hs : s = 4 := by omega
    subst hs
    rw [f_X1_holdIfFit_L1, if_pos (by decide), mb_T, if_pos rfl]
    exact congrArg (fun y => K y _) (Int32.add_zero a).symm
  | succ m ih =>
    intro s n a hm
    have hs : s < 4 := by omega
    obtain ⟨x, hx, hg⟩ := hi.gl (s := s) hb
    obtain ⟨e1, l1⟩ := mb_ha_of hi (p := p) (s := s) hb
    have i0 := ih (s + 1) n
    rw [show n + (m + 1) + 1 = (n + m + 1) + 1 by omega, f_X1_holdIfFit_L1, if_neg (mb_four s hs), mb_ck (mb_in hs (by omega)), mb_tn (by omega), hf s hs, mb_add1, mb_T, mb_T]
    by_cases h1 : mb_fc g p s = -1
    · have z1 : mb_oN (mb_gl g b s) (mb_fc g p s) = 0 := by
        rw [h1, hg]
        exact mb_wsO.1 x hx
      have z2 : mb_bN g (mb_gl g b s) (mb_fc g p s) = 0 := by
        rw [h1, hg]
        exact (mb_wsB g).1 x hx
      rw [if_pos h1, i0 a (by omega), z1, z2, Nat.zero_add, Nat.zero_add]
    · rw [if_neg h1, mb_glueOn hw hb hs, Option.bind_some, mb_ck (mb_in hs (by omega)), mb_odds, Option.bind_some, mb_ck (mb_in hs (by omega))]
      cases h2 : mb_od (mb_gl g b s) (mb_fc g p s) with
      | true =>
        have z1 : mb_oN (mb_gl g b s) (mb_fc g p s) = 1 := by
          unfold mb_oN
          rw [h2, if_pos rfl]
        rw [if_neg (show ¬ gx_bi true = 0 by decide), z1, if_neg (by omega)]
      | false =>
        have z1 : mb_oN (mb_gl g b s) (mb_fc g p s) = 0 := by
          unfold mb_oN
          rw [h2, if_neg mb_ft]
        rw [if_pos gx_bi_0, z1, Nat.zero_add, hg, mb_between hw hi hx, Option.bind_some, i0 _ (by omega), ← hg]
        have e2 : mb_bt g (mb_gl g b s) (mb_fc g p s) = Int32.ofNat (mb_bN g (mb_gl g b s) (mb_fc g p s)) := e1
        rw [e2, Int32.add_assoc, ← Int32.ofNat_add]
theorem mb_holdIfFit {I V : gx_F} {k : Nat} {g : Nat → Int32} (hw : mb_wr I V k g) (hi : mb_iv g) {p b : Nat} (hb : b < 32) (hf : mb_fa g p V) : f_X1_holdIfFit k (Int32.ofNat b) I V = some (mb_hf g p b) := by
  have e := mb_hf_L hw hi hb hf (fun y _ => some y) 4 0 995 0 rfl
  refine Eq.trans e ?_
  unfold mb_hf mb_eN mb_hN
  rw [Int32.zero_add]
  by_cases h : mb_T (fun s => mb_oN (mb_gl g b s) (mb_fc g p s)) 0 4 = 0
  · rw [if_pos h, if_pos h]
  · rw [if_neg h, if_neg h]
/-- whether a place has a neighbour -/
def mb_hn (g : Nat → Int32) (p : Nat) : Bool := mb_nb g p 0 || mb_nb g p 1 || mb_nb g p 2 || mb_nb g p 3
theorem mb_lk_s {I V : gx_F} {k : Nat} {g : Nat → Int32} (hw : mb_wr I V k g) (hi : mb_iv g) {p s : Nat} (hp : p < 42) (hs : s < 4) (K : Int32 → Int32 → gx_F → gx_F → Option (Bool × gx_F × gx_F)) (n : Nat) (c : Bool) : f_X1_lookAround_L1 k (Int32.ofNat p) K (n + 1) (gx_bi c) (Int32.ofNat s) I V = f_X1_lookAround_L1 k (Int32.ofNat p) K n (gx_bi (c || mb_nb g p s)) (Int32.ofNat (s + 1)) I (gx_u V 52 s (mb_fc g p s)) := by
  have hfa := mb_facing hw hi hp hs
  rw [f_X5_glueFacing, mb_beside6 I V hp hs, Option.bind_some] at hfa
  rw [f_X1_lookAround_L1, if_neg (mb_four s hs), mb_beside6 I V hp hs, Option.bind_some, mb_add1, mb_tn (by omega)]
  cases hq : mb_bs p s with
  | none =>
    rw [hq, show mb_N none = -1 from rfl, mb_brickNo, Option.bind_some, f_X6_opposite, Option.bind_some, mb_glueNo, Option.bind_some] at hfa
    rw [show mb_N none = -1 from rfl, mb_brickNo, Option.bind_some, f_X6_opposite, Option.bind_some, mb_glueNo, Option.bind_some, mb_ck (mb_in hs (by omega)), ← Option.some.inj hfa, mb_nb0 hq]
    cases c <;> rfl
  | some q =>
    have hq2 := mb_bs_lt p hp s hs q hq
    rw [hq, show mb_N (some q) = Int32.ofNat q from rfl, mb_brickOn hw hq2, Option.bind_some, f_X6_opposite, Option.bind_some] at hfa
    rw [show mb_N (some q) = Int32.ofNat q from rfl, mb_brickOn hw hq2, Option.bind_some, f_X6_opposite, Option.bind_some]
    rw [mb_bsr] at hfa
    rw [hfa, Option.bind_some, mb_ck (mb_in hs (by omega)), mb_nb1 hq]
    rcases hi.br hq2 with h | ⟨b, hb, h⟩
    · rw [mb_free1 h, h]
      cases c <;> rfl
    · rw [mb_free0 (by omega) h, h]
      have hne := mb_nn (a := b) (by omega)
      cases c with
      | true => rfl
      | false =>
        rw [if_pos (show gx_bi false = 0 by decide), if_neg hne]
        rfl
theorem mb_wr52 {I V : gx_F} {k : Nat} {g : Nat → Int32} (hk : k ≤ 40) (hw : mb_wr I V k g) (s : Nat) (x : Int32) : mb_wr I (gx_u V 52 s x) k g :=
  mb_sc.wr ⟨fun _ _ _ => rfl, fun j _ _ h => gx_u_ne h⟩ hk hw
theorem mb_look {I V : gx_F} {k : Nat} {g : Nat → Int32} (hk : k ≤ 40) (hw : mb_wr I V k g) (hi : mb_iv g) {p : Nat} (hp : p < 42) :
    ∃ V', f_X1_lookAround k (Int32.ofNat p) I V = some (mb_hn g p, I, V') ∧ mb_fa g p V' ∧ ∀ j, j ≠ 52 → V' j = V j := by
  refine ⟨gx_u (gx_u (gx_u (gx_u V 52 0 (mb_fc g p 0)) 52 1 (mb_fc g p 1)) 52 2 (mb_fc g p 2)) 52 3 (mb_fc g p 3), ?_, ?_, fun j hj => ?_⟩
  · have w1 := mb_wr52 hk hw 0 (mb_fc g p 0)
    have w2 := mb_wr52 hk w1 1 (mb_fc g p 1)
    have w3 := mb_wr52 hk w2 2 (mb_fc g p 2)
    rw [f_X1_lookAround]
    refine Eq.trans (mb_lk_s hw hi hp (s := 0) (by omega) _ 999 false) ?_
    refine Eq.trans (mb_lk_s w1 hi hp (s := 1) (by omega) _ 998 _) ?_
    refine Eq.trans (mb_lk_s w2 hi hp (s := 2) (by omega) _ 997 _) ?_
    refine Eq.trans (mb_lk_s w3 hi hp (s := 3) (by omega) _ 996 _) ?_
    rw [f_X1_lookAround_L1, if_pos (by decide), Bool.false_or]
    show gx_ck (gx_isB (gx_bi (mb_hn g p))) (some (gx_tb (gx_bi (mb_hn g p)), I, _)) = _
    cases mb_hn g p <;> rfl
  · intro s hs
    have h4 : s = 0 ∨ s = 1 ∨ s = 2 ∨ s = 3 := by omega
    rcases h4 with h | h | h | h <;> subst h <;> rfl
  · rw [gx_u_ne hj, gx_u_ne hj, gx_u_ne hj, gx_u_ne hj]
theorem mb_hn0 {g : Nat → Int32} {p : Nat} (hp : p < 42) (hi : mb_iv g) (h : mb_hn g p = false) {b : Nat} (hb : b < 32) : mb_hN g p b = 0 := by
  unfold mb_hn at h
  simp only [Bool.or_eq_false_iff] at h
  obtain ⟨⟨⟨h0, h1⟩, h2⟩, h3⟩ := h
  refine mb_T_zero 4 0 (fun s _ hs => ?_)
  have hs4 : s < 4 := by omega
  have hn : mb_nb g p s = false := by
    have h4 : s = 0 ∨ s = 1 ∨ s = 2 ∨ s = 3 := by omega
    rcases h4 with h | h | h | h <;> subst h <;> assumption
  obtain ⟨x, hx, hg⟩ := hi.gl (s := s) hb
  have hfc : mb_fc g p s = -1 := by
    cases hq : mb_bs p s with
    | none => exact mb_fc0 hq
    | some q =>
      rw [mb_nb1 hq] at hn
      rcases hi.br (mb_bs_lt p hp s hs4 q hq) with h | ⟨c, hc, h⟩
      · exact mb_fcN hq h
      · rw [mb_free0 (by omega) h] at hn
        exact absurd hn (by decide)
  rw [hfc, hg]
  exact (mb_wsB g).1 x hx
