/-! errors of a brick, both sides -/
def mb_od (x y : Int32) : Bool := if x ≤ 0 then false else if y ≤ 0 then false else if x = y then false else true
theorem mb_odds {x y : Int32} {I V : gx_F} : f_X5_areAtOdds x y I V = some (mb_od x y) := by
  unfold f_X5_areAtOdds mb_od
  by_cases h1 : x ≤ 0
  · rw [if_pos h1, if_pos h1]
  · rw [if_neg h1, if_neg h1]
    by_cases h2 : y ≤ 0
    · rw [if_pos h2, if_pos h2]
    · rw [if_neg h2, if_neg h2]
      by_cases h3 : x = y
      · rw [if_pos h3, if_pos h3]
      · rw [if_neg h3, if_neg h3]
def mb_ev (g : Nat → Int32) (p b s : Nat) : Int32 := if mb_od (mb_gl g b s) (mb_fc g p s) = true then 1 else 0
theorem mb_errTow {I V : gx_F} {k : Nat} {g : Nat → Int32} (hw : mb_wr I V k g) (hi : mb_iv g) {p b s : Nat} (hp : p < 42) (hs : s < 4) (hb : b < 32) (hg : g (45 + p) = Int32.ofNat b) : f_X5_isErrorToward k (Int32.ofNat p) (Int32.ofNat s) I V = some (mb_od (mb_gl g b s) (mb_fc g p s)) := by
  rw [f_X5_isErrorToward, mb_brickOn hw hp, hg, Option.bind_some, mb_glueOn hw hb hs, Option.bind_some, mb_facing hw hi hp hs, Option.bind_some, mb_odds, Option.bind_some]
theorem mb_errorsOf_L {I V : gx_F} {k : Nat} {g : Nat → Int32} (hw : mb_wr I V k g) (hi : mb_iv g) {p b : Nat} (hp : p < 42) (hb : b < 32) (hg : g (45 + p) = Int32.ofNat b) (K : Int32 → Int32 → Option Int32) : ∀ (m s n : Nat) (a : Int32), s + m = 4 → f_X5_errorsOf_L1 k (Int32.ofNat p) I V K (n + m + 1) a (Int32.ofNat s) = K (mb_S (mb_ev g p b) s m a) (Int32.ofNat 4) := by
  intro m
  induction m with
  | zero =>
    intro s n a h
    have hs : s = 4 := by omega
    subst hs
    rw [f_X5_errorsOf_L1, if_pos (by decide)]
    rfl
  | succ m ih =>
    intro s n a h
    have hs : s < 4 := by omega
    obtain ⟨-, -, -, -, -, h6, -⟩ := mb_small s (by omega)
    rw [show n + (m + 1) + 1 = (n + m + 1) + 1 by omega, f_X5_errorsOf_L1, if_neg (mb_four s hs), mb_errTow hw hi hp hs hb hg, Option.bind_some, h6, ih (s + 1) n _ (by omega), ih (s + 1) n _ (by omega), mb_S, mb_ev]
    cases mb_od (mb_gl g b s) (mb_fc g p s) with
    | false => rw [if_pos gx_bi_0, if_neg (by decide), Int32.add_zero]
    | true => rw [if_neg (by decide), if_pos rfl]
def mb_errs (g : Nat → Int32) (p b : Nat) : Int32 := mb_S (mb_ev g p b) 0 4 0
theorem mb_errorsOf5 {I V : gx_F} {k : Nat} {g : Nat → Int32} (hw : mb_wr I V k g) (hi : mb_iv g) {p b : Nat} (hp : p < 42) (hb : b < 32) (hg : g (45 + p) = Int32.ofNat b) : f_X5_errorsOf k (Int32.ofNat p) I V = some (mb_errs g p b) :=
  mb_errorsOf_L hw hi hp hb hg _ 4 0 995 0 rfl
