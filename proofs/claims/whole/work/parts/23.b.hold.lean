/-! holds of a brick, both sides -/
def mb_iv (g : Nat → Int32) : Prop := ∃ kc need : Nat, kc ≤ 8 ∧ g 0 = Int32.ofNat kc ∧ 1 ≤ need ∧ need ≤ 6 ∧ g 2 = Int32.ofNat need ∧ (g 1 = -1 ∨ ∃ p : Nat, p < 42 ∧ g 1 = Int32.ofNat p) ∧ g 6 = 0 ∧ (∀ i, i < 7 → ∃ n, n ≤ 3 ∧ g (6 + i) = Int32.ofNat n) ∧ (∀ i, i < 32 → ∃ n, n ≤ 6 ∧ g (13 + i) = Int32.ofNat n) ∧ (∀ p, p < 42 → g (45 + p) = -1 ∨ ∃ b, b < 4 * kc ∧ g (45 + p) = Int32.ofNat b)
theorem mb_iv.gl {g : Nat → Int32} (h : mb_iv g) {b s : Nat} (hb : b < 32) : ∃ n, n ≤ 6 ∧ mb_gl g b s = Int32.ofNat n := by
  obtain ⟨kc, need, -, -, -, -, -, -, -, -, h9, -⟩ := h
  exact h9 _ (mb_gi_lt hb)
theorem mb_iv.br {g : Nat → Int32} (h : mb_iv g) {p : Nat} (hp : p < 42) : g (45 + p) = -1 ∨ ∃ b, b < 32 ∧ g (45 + p) = Int32.ofNat b := by
  obtain ⟨kc, need, h1, -, -, -, -, -, -, -, -, h10⟩ := h
  rcases h10 p hp with h | ⟨b, hb, h⟩
  · exact Or.inl h
  · exact Or.inr ⟨b, by omega, h⟩
theorem mb_iv.g6 {g : Nat → Int32} (h : mb_iv g) : g 6 = 0 := by
  obtain ⟨kc, need, -, -, -, -, -, -, h7, -⟩ := h
  exact h7
/-- the glue that faces a place at a side; -1: none -/
def mb_fc (g : Nat → Int32) (p s : Nat) : Int32 := match mb_bs p s with
  | none => -1
  | some q => if g (45 + q) < 0 then -1 else mb_gl g (g (45 + q)).toNatClampNeg ((s + 2) % 4)
/-- the hold between two glues -/
def mb_bt (g : Nat → Int32) (x y : Int32) : Int32 := if x = y then g (6 + x.toNatClampNeg) else 0
def mb_ha (g : Nat → Int32) (p b s : Nat) : Int32 := mb_bt g (mb_gl g b s) (mb_fc g p s)
theorem mb_facing0 {I V : gx_F} {k : Nat} {p s : Nat} (hp : p < 42) (hs : s < 4) (hq : mb_bs p s = none) : f_X5_glueFacing k (Int32.ofNat p) (Int32.ofNat s) I V = some (-1) := by
  have h1 := mb_beside6 I V hp hs
  rw [hq] at h1
  have h1 : f_X6_beside (Int32.ofNat p) (Int32.ofNat s) I V = some (-1) := h1
  rw [f_X5_glueFacing, h1, Option.bind_some, mb_brickNo, Option.bind_some, f_X6_opposite, Option.bind_some, mb_glueNo, Option.bind_some]
theorem mb_facing1 {I V : gx_F} {k : Nat} {g : Nat → Int32} (hw : mb_wr I V k g) {p s q : Nat} (hp : p < 42) (hs : s < 4) (hq : mb_bs p s = some q) (hf : g (45 + q) = -1) : f_X5_glueFacing k (Int32.ofNat p) (Int32.ofNat s) I V = some (-1) := by
  have hq2 := mb_bs_lt p hp s hs q hq
  have h1 := mb_beside6 I V hp hs
  rw [hq] at h1
  have h1 : f_X6_beside (Int32.ofNat p) (Int32.ofNat s) I V = some (Int32.ofNat q) := h1
  rw [f_X5_glueFacing, h1, Option.bind_some, mb_brickOn hw hq2, hf, Option.bind_some, f_X6_opposite, Option.bind_some, mb_glueNo, Option.bind_some]
theorem mb_facing2 {I V : gx_F} {k : Nat} {g : Nat → Int32} (hw : mb_wr I V k g) {p s q b : Nat} (hp : p < 42) (hs : s < 4) (hq : mb_bs p s = some q) (hb : b < 32) (hf : g (45 + q) = Int32.ofNat b) : f_X5_glueFacing k (Int32.ofNat p) (Int32.ofNat s) I V = some (mb_gl g b ((s + 2) % 4)) := by
  have hq2 := mb_bs_lt p hp s hs q hq
  have h1 := mb_beside6 I V hp hs
  rw [hq] at h1
  have h1 : f_X6_beside (Int32.ofNat p) (Int32.ofNat s) I V = some (Int32.ofNat q) := h1
  rw [f_X5_glueFacing, h1, Option.bind_some, mb_brickOn hw hq2, hf, Option.bind_some, f_X6_opposite, Option.bind_some, mb_opp s hs, mb_glueOn hw hb (Nat.mod_lt _ (by decide)), Option.bind_some]
theorem mb_fc0 {g : Nat → Int32} {p s : Nat} (hq : mb_bs p s = none) : mb_fc g p s = -1 := by
  unfold mb_fc
  rw [hq]
theorem mb_fc1 {g : Nat → Int32} {p s q : Nat} (hq : mb_bs p s = some q) : mb_fc g p s = if g (45 + q) < 0 then -1 else mb_gl g (g (45 + q)).toNatClampNeg ((s + 2) % 4) := by
  unfold mb_fc
  rw [hq]
theorem mb_facing {I V : gx_F} {k : Nat} {g : Nat → Int32} (hw : mb_wr I V k g) (hi : mb_iv g) {p s : Nat} (hp : p < 42) (hs : s < 4) : f_X5_glueFacing k (Int32.ofNat p) (Int32.ofNat s) I V = some (mb_fc g p s) := by
  cases hq : mb_bs p s with
  | none => rw [mb_facing0 hp hs hq, mb_fc0 hq]
  | some q =>
    have hq2 := mb_bs_lt p hp s hs q hq
    rw [mb_fc1 hq]
    rcases hi.br hq2 with h | ⟨b, hb, h⟩
    · rw [mb_facing1 hw hp hs hq h, h, if_pos (show (-1 : Int32) < 0 by decide)]
    · obtain ⟨n1, n2, -⟩ := mb_small b (by omega)
      rw [mb_facing2 hw hp hs hq hb h, h, if_neg n1, n2]
theorem mb_between {I V : gx_F} {k : Nat} {g : Nat → Int32} (hw : mb_wr I V k g) (hi : mb_iv g) {n : Nat} (hn : n ≤ 6) (y : Int32) : f_X5_strengthBetween k (Int32.ofNat n) y I V = some (mb_bt g (Int32.ofNat n) y) := by
  obtain ⟨n1, n2, -⟩ := mb_small n (by omega)
  unfold f_X5_strengthBetween mb_bt gx_ck
  by_cases h : Int32.ofNat n = y
  · rw [if_pos h, if_pos h, n2]
    by_cases h0 : n = 0
    · subst h0
      rw [if_pos (by decide), hi.g6]
    · rw [if_neg ((show ∀ n, n ≤ 6 → n ≠ 0 → ¬ Int32.ofNat n ≤ 0 by decide +kernel) n hn h0), if_neg ((show ∀ n, n ≤ 6 → ¬ 6 < Int32.ofNat n by decide +kernel) n hn), if_pos (mb_in7 n (by omega)).1, hw.2.1 n (by omega)]
  · rw [if_neg h, if_neg h]
theorem mb_isFree7 {J U : gx_F} {p : Nat} (hp : p < 42) : f_X7_isFree (Int32.ofNat p) J U = some (decide (U 59 (45 + p) < 0)) := by
  obtain ⟨-, -, -, -, h5, -⟩ := mb_small p (by omega)
  unfold f_X7_isFree gx_ck
  rw [if_pos (mb_in42 p hp).2, h5]
  by_cases h : U 59 (45 + p) < 0
  · simp [h, Int32.not_le.mpr h]
  · simp [h, Int32.not_lt.mp h]
theorem mb_heldAt7 {J U : gx_F} (hi : mb_iv (U 59)) {p b s : Nat} (hp : p < 42) (hb : b < 32) (hs : s < 4) : f_X7_heldAt (Int32.ofNat p) (Int32.ofNat b) (Int32.ofNat s) J U = some (mb_ha (U 59) p b s) := by
  unfold f_X7_heldAt mb_ha mb_fc
  rw [mb_beside7 J U hp hs]
  obtain ⟨n, hn, hg⟩ := hi.gl (s := s) hb
  obtain ⟨m1, m2, -, -, -, -, m7⟩ := mb_small n (by omega)
  cases hq : mb_bs p s with
  | none =>
    simp only [mb_N, Option.bind_some]
    rw [if_pos (show (-1 : Int32) < 0 by decide), mb_bt, hg, if_neg m7]
  | some q =>
    have hq2 := mb_bs_lt p hp s hs q hq
    obtain ⟨q1, -, -, -, q5, -⟩ := mb_small q (by omega)
    simp only [mb_N, Option.bind_some]
    rw [if_neg q1, mb_isFree7 hq2]
    rcases hi.br hq2 with h | ⟨b2, hb2, h⟩
    · rw [h]
      simp only [Option.bind_some]
      rw [if_pos (show (-1 : Int32) < 0 by decide), mb_bt, hg, if_neg m7]
      rfl
    · obtain ⟨n1, n2, -⟩ := mb_small b2 (by omega)
      rw [h, if_neg n1, n2]
      simp only [Option.bind_some]
      rw [decide_eq_false n1, if_pos gx_bi_0, mb_glue7 hb hs]
      simp only [Option.bind_some]
      unfold gx_ck
      rw [if_pos (mb_in42 q hq2).2, q5, h, mb_opp s hs, mb_glue7 hb2 (by omega)]
      simp only [Option.bind_some]
      unfold mb_bt
      by_cases he : mb_gl (U 59) b s = mb_gl (U 59) b2 ((s + 2) % 4)
      · rw [if_pos he, if_pos he, hg, if_pos (mb_in7 n (by omega)).2.1, (mb_in7 n (by omega)).2.2, m2]
      · rw [if_neg he, if_neg he]
/-- a sum from a place on, left to right -/
def mb_S (h : Nat → Int32) : Nat → Nat → Int32 → Int32
  | _, 0, a => a
  | s, m + 1, a => mb_S h (s + 1) m (a + h s)
theorem mb_four : ∀ s, s < 4 → ¬ (4 : Int32) ≤ Int32.ofNat s := by decide +kernel
theorem mb_holdFor_L {I V : gx_F} {k : Nat} {g : Nat → Int32} (hw : mb_wr I V k g) (hi : mb_iv g) {p b : Nat} (hp : p < 42) (hb : b < 32) (K : Int32 → Int32 → Option Int32) : ∀ (m s n : Nat) (a : Int32), s + m = 4 → f_X5_holdFor_L1 k (Int32.ofNat b) (Int32.ofNat p) I V K (n + m + 1) a (Int32.ofNat s) = K (mb_S (mb_ha g p b) s m a) (Int32.ofNat 4) := by
  intro m
  induction m with
  | zero =>
    intro s n a h
    have hs : s = 4 := by omega
    subst hs
    rw [f_X5_holdFor_L1, if_pos (by decide)]
    rfl
  | succ m ih =>
    intro s n a h
    have hs : s < 4 := by omega
    obtain ⟨x, hx, hg⟩ := hi.gl (s := s) hb
    obtain ⟨-, -, -, -, -, h6, -⟩ := mb_small s (by omega)
    rw [show n + (m + 1) + 1 = (n + m + 1) + 1 by omega, f_X5_holdFor_L1, if_neg (mb_four s hs), mb_glueOn hw hb hs]
    simp only [Option.bind_some]
    rw [mb_facing hw hi hp hs]
    simp only [Option.bind_some]
    rw [hg, mb_between hw hi hx]
    simp only [Option.bind_some]
    rw [h6, ih (s + 1) n _ (by omega), ← hg]
    rfl
def mb_hold (g : Nat → Int32) (p b : Nat) : Int32 := mb_S (mb_ha g p b) 0 4 0
theorem mb_holdFor {I V : gx_F} {k : Nat} {g : Nat → Int32} (hw : mb_wr I V k g) (hi : mb_iv g) {p b : Nat} (hp : p < 42) (hb : b < 32) : f_X5_holdFor k (Int32.ofNat b) (Int32.ofNat p) I V = some (mb_hold g p b) :=
  mb_holdFor_L hw hi hp hb _ 4 0 995 0 rfl
theorem mb_held_L {J U : gx_F} (hi : mb_iv (U 59)) {p b : Nat} (hp : p < 42) (hb : b < 32) (K : Int32 → Int32 → Option Int32) : ∀ (m s n : Nat) (a : Int32), s + m = 4 → f_X7_held_L1 (Int32.ofNat p) (Int32.ofNat b) J U K (n + m + 1) a (Int32.ofNat s) = K (mb_S (mb_ha (U 59) p b) s m a) (Int32.ofNat 4) := by
  intro m
  induction m with
  | zero =>
    intro s n a h
    have hs : s = 4 := by omega
    subst hs
    rw [f_X7_held_L1, if_pos (by decide)]
    rfl
  | succ m ih =>
    intro s n a h
    have hs : s < 4 := by omega
    obtain ⟨-, -, -, -, -, h6, -⟩ := mb_small s (by omega)
    rw [show n + (m + 1) + 1 = (n + m + 1) + 1 by omega, f_X7_held_L1, if_neg (mb_four s hs), mb_heldAt7 hi hp hb hs]
    simp only [Option.bind_some]
    rw [h6, ih (s + 1) n _ (by omega)]
    rfl
theorem mb_held {J U : gx_F} (hi : mb_iv (U 59)) {p b : Nat} (hp : p < 42) (hb : b < 32) : f_X7_held (Int32.ofNat p) (Int32.ofNat b) J U = some (mb_hold (U 59) p b) :=
  mb_held_L hi hp hb _ 4 0 995 0 rfl
