/-! bricks counted, errors of a brick, both sides -/
def mb_fr (g : Nat → Int32) (p : Nat) : Bool := decide (g (45 + p) < 0)
theorem mb_isFree5 {I V : gx_F} {k : Nat} {g : Nat → Int32} (hw : mb_wr I V k g) (hi : mb_iv g) {p : Nat} (hp : p < 42) : f_X5_isFree k (Int32.ofNat p) I V = some (mb_fr g p) := by
  unfold f_X5_isFree mb_fr
  rw [mb_brickOn hw hp, Option.bind_some]
  rcases hi.br hp with h | ⟨b, hb, h⟩
  · rw [h, if_pos rfl, decide_eq_true (show (-1 : Int32) < 0 by decide)]
  · obtain ⟨n1, -, -, -, -, -, n7⟩ := mb_small b (by omega)
    rw [h, if_neg n7, decide_eq_false n1]
theorem mb_42 : ∀ p, p < 42 → ¬ (42 : Int32) ≤ Int32.ofNat p := by decide +kernel
def mb_one (g : Nat → Int32) (p : Nat) : Int32 := if mb_fr g p = true then 0 else 1
theorem mb_brickCount_L {I V : gx_F} {k : Nat} {g : Nat → Int32} (hw : mb_wr I V k g) (hi : mb_iv g) (K : Int32 → Int32 → Option Int32) : ∀ (m s n : Nat) (a : Int32), s + m = 42 → f_X5_brickCount_L1 k I V K (n + m + 1) a (Int32.ofNat s) = K (mb_S (mb_one g) s m a) (Int32.ofNat 42) := by
  intro m
  induction m with
  | zero =>
    intro s n a h
    have hs : s = 42 := by omega
    subst hs
    rw [f_X5_brickCount_L1, if_pos (by decide)]
    rfl
  | succ m ih =>
    intro s n a h
    have hs : s < 42 := by omega
    obtain ⟨-, -, -, -, -, h6, -⟩ := mb_small s (by omega)
    rw [show n + (m + 1) + 1 = (n + m + 1) + 1 by omega, f_X5_brickCount_L1, if_neg (mb_42 s hs), mb_isFree5 hw hi hs, Option.bind_some, h6, ih (s + 1) n _ (by omega), ih (s + 1) n _ (by omega), mb_S, mb_one]
    cases mb_fr g s with
    | false => rw [if_pos gx_bi_0, if_neg (by decide)]
    | true => rw [if_neg (by decide), if_pos rfl, Int32.add_zero]
def mb_bricks (g : Nat → Int32) : Int32 := mb_S (mb_one g) 0 42 0
theorem mb_brickCount {I V : gx_F} {k : Nat} {g : Nat → Int32} (hw : mb_wr I V k g) (hi : mb_iv g) : f_X5_brickCount k I V = some (mb_bricks g) :=
  mb_brickCount_L hw hi _ 42 0 957 0 rfl
theorem mb_bricks_L {J U : gx_F} (K : Int32 → Int32 → Option Int32) : ∀ (m s n : Nat) (a : Int32), s + m = 42 → f_X7_bricks_L1 J U K (n + m + 1) a (Int32.ofNat s) = K (mb_S (mb_one (U 59)) s m a) (Int32.ofNat 42) := by
  intro m
  induction m with
  | zero =>
    intro s n a h
    have hs : s = 42 := by omega
    subst hs
    rw [f_X7_bricks_L1, if_pos (by decide)]
    rfl
  | succ m ih =>
    intro s n a h
    have hs : s < 42 := by omega
    obtain ⟨-, -, -, -, -, h6, -⟩ := mb_small s (by omega)
    have hf : f_X7_isFree (Int32.ofNat s) J U = some (mb_fr (U 59) s) := mb_isFree7 hs
    rw [show n + (m + 1) + 1 = (n + m + 1) + 1 by omega, f_X7_bricks_L1, if_neg (mb_42 s hs), hf, Option.bind_some, h6, ih (s + 1) n _ (by omega), ih (s + 1) n _ (by omega), mb_S, mb_one]
    cases mb_fr (U 59) s with
    | false => rw [if_pos gx_bi_0, if_neg (by decide)]
    | true => rw [if_neg (by decide), if_pos rfl]
theorem mb_bricks7 {J U : gx_F} : f_X7_bricks J U = some (mb_bricks (U 59)) :=
  mb_bricks_L _ 42 0 957 0 rfl
