/-! small numbers: places p < 42, sides s < 4, bricks b < 32 as Nat; by evaluation -/
def mb_N (x : Option Nat) : Int32 := match x with
  | none => -1
  | some q => Int32.ofNat q
/-- the place beside -/
def mb_bs (p s : Nat) : Option Nat := if s = 0 then (if p < 7 then none else some (p - 7)) else if s = 1 then (if p % 7 = 6 then none else some (p + 1)) else if s = 2 then (if 35 ≤ p then none else some (p + 7)) else (if p % 7 = 0 then none else some (p - 1))
/-- where a glue stands among 32 -/
def mb_gi (b s : Nat) : Nat := 4 * (b / 4) + (s + 4 - b % 4) % 4
theorem mb_bs_lt : ∀ p, p < 42 → ∀ s, s < 4 → ∀ q, mb_bs p s = some q → q < 42 := by
  intro p hp s hs q h
  unfold mb_bs at h
  repeat' split at h
  all_goals first | (cases h; done) | (cases h; omega)
theorem mb_bs_back : ∀ p, p < 42 → ∀ s, s < 4 → ∀ q, q < 42 → mb_bs p s = some q → mb_bs q ((s + 2) % 4) = some p := by decide +kernel
theorem mb_beside6 (I V : gx_F) {p s : Nat} (hp : p < 42) (hs : s < 4) : f_X6_beside (Int32.ofNat p) (Int32.ofNat s) I V = some (mb_N (mb_bs p s)) := by
  unfold f_X6_beside gx_rem
  revert hp hs
  have h : ∀ p, p < 42 → ∀ s, s < 4 → (if Int32.ofNat s = 0 then (if 7 ≤ Int32.ofNat p then (some (Int32.ofNat p - 7)) else (some (-1))) else (if Int32.ofNat s = 1 then (if (Int32.ofNat p - Int32.ofNat p / 7 * 7) = 6 then (some (-1)) else (some (Int32.ofNat p + 1))) else (if Int32.ofNat s = 2 then (if Int32.ofNat p < 35 then (some (Int32.ofNat p + 7)) else (some (-1))) else (if (Int32.ofNat p - Int32.ofNat p / 7 * 7) = 0 then (some (-1)) else (some (Int32.ofNat p - 1)))))) = some (mb_N (mb_bs p s)) := by decide +kernel
  exact fun hp hs => h p hp s hs
theorem mb_beside7 (I V : gx_F) {p s : Nat} (hp : p < 42) (hs : s < 4) : f_X7_beside (Int32.ofNat p) (Int32.ofNat s) I V = some (mb_N (mb_bs p s)) := mb_beside6 I V hp hs
theorem mb_gi_lt {b s : Nat} (hb : b < 32) : mb_gi b s < 32 := by unfold mb_gi; omega
theorem mb_gi5 : ∀ b, b < 32 → ∀ s, s < 4 → gx_in (((Int32.ofNat b / 4) * 4) + ((Int32.ofNat s - (gx_rem (Int32.ofNat b) 4)) &&& 3)) 32 = true ∧ (((Int32.ofNat b / 4) * 4) + ((Int32.ofNat s - (gx_rem (Int32.ofNat b) 4)) &&& 3)).toNatClampNeg = mb_gi b s := by decide +kernel
theorem mb_gi7 : ∀ b, b < 32 → ∀ s, s < 4 → gx_in ((13 + (4 * (Int32.ofNat b / 4))) + (gx_rem ((Int32.ofNat s - (gx_rem (Int32.ofNat b) 4)) + 4) 4)) 87 = true ∧ ((13 + (4 * (Int32.ofNat b / 4))) + (gx_rem ((Int32.ofNat s - (gx_rem (Int32.ofNat b) 4)) + 4) 4)).toNatClampNeg = 13 + mb_gi b s := by decide +kernel
theorem mb_small : ∀ b, b < 100 → (¬ Int32.ofNat b < 0) ∧ (Int32.ofNat b).toNatClampNeg = b ∧ (Int32.ofNat b < 32 ↔ b < 32) ∧ (42 ≤ Int32.ofNat b ↔ 42 ≤ b) ∧ (45 + Int32.ofNat b).toNatClampNeg = 45 + b ∧ Int32.ofNat b + 1 = Int32.ofNat (b + 1) ∧ Int32.ofNat b ≠ -1 := by decide +kernel
theorem mb_in42 : ∀ p, p < 42 → gx_in (Int32.ofNat p) 42 = true ∧ gx_in (45 + Int32.ofNat p) 87 = true := by decide +kernel
theorem mb_in7 : ∀ q, q < 7 → gx_in (Int32.ofNat q) 7 = true ∧ gx_in (6 + Int32.ofNat q) 87 = true ∧ (6 + Int32.ofNat q).toNatClampNeg = 6 + q := by decide +kernel
theorem mb_opp : ∀ s, s < 4 → gx_rem (Int32.ofNat s + 2) 4 = Int32.ofNat ((s + 2) % 4) := by decide +kernel
/-- the glue of a brick, in the reference's row g -/
def mb_gl (g : Nat → Int32) (b s : Nat) : Int32 := g (13 + mb_gi b s)
/-- a wall of the class is the row g -/
def mb_wr (I V : gx_F) (k : Nat) (g : Nat → Int32) : Prop := (∀ i, i < 32 → V (k + 1) i = g (13 + i)) ∧ (∀ i, i < 7 → V (k + 2) i = g (6 + i)) ∧ (∀ p, p < 42 → V (k + 3) p = g (45 + p)) ∧ I k 3 = g 0 ∧ I k 4 = g 2 ∧ I k 5 = g 1 ∧ I k 6 = g 3 ∧ I k 7 = g 4 ∧ I k 8 = g 5
theorem mb_glueOn {I V : gx_F} {k : Nat} {g : Nat → Int32} (hw : mb_wr I V k g) {b s : Nat} (hb : b < 32) (hs : s < 4) : f_X5_glueOn k (Int32.ofNat b) (Int32.ofNat s) I V = some (mb_gl g b s) := by
  obtain ⟨h1, -, h3, -, -, -, -⟩ := mb_small b (by omega)
  obtain ⟨q1, q2⟩ := mb_gi5 b hb s hs
  unfold f_X5_glueOn gx_ck
  rw [if_neg h1, if_pos (h3.mpr hb), if_pos q1, q2, hw.1 _ (mb_gi_lt hb)]
  rfl
theorem mb_glueNo {I V : gx_F} {k : Nat} {s : Int32} : f_X5_glueOn k (-1) s I V = some (-1) := by
  unfold f_X5_glueOn
  rw [if_pos (by decide)]
theorem mb_glue7 {J U : gx_F} {b s : Nat} (hb : b < 32) (hs : s < 4) : f_X7_glue (Int32.ofNat b) (Int32.ofNat s) J U = some (mb_gl (U 59) b s) := by
  obtain ⟨q1, q2⟩ := mb_gi7 b hb s hs
  unfold f_X7_glue gx_ck
  rw [if_pos q1, q2]
  rfl
theorem mb_brickOn {I V : gx_F} {k : Nat} {g : Nat → Int32} (hw : mb_wr I V k g) {p : Nat} (hp : p < 42) : f_X5_brickOn k (Int32.ofNat p) I V = some (g (45 + p)) := by
  obtain ⟨h1, h2, -, h4, -⟩ := mb_small p (by omega)
  unfold f_X5_brickOn gx_ck
  rw [if_neg h1, if_neg (fun h => absurd (h4.mp h) (by omega)), if_pos (mb_in42 p hp).1, h2, hw.2.2.1 p hp]
theorem mb_brickNo {I V : gx_F} {k : Nat} : f_X5_brickOn k (-1) I V = some (-1) := by
  unfold f_X5_brickOn
  rw [if_pos (by decide)]
