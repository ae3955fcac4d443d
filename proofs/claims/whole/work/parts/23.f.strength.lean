/-! the hold of the brick at a place toward a side, in the class -/
def mb_st (g : Nat → Int32) (p s : Nat) : Int32 := if mb_fr g p = true then 0 else mb_ha g p (g (45 + p)).toNatClampNeg s
theorem mb_betweenNo {I V : gx_F} {k : Nat} {y : Int32} : f_X5_strengthBetween k (-1) y I V = some 0 := by
  unfold f_X5_strengthBetween
  by_cases h : (-1 : Int32) = y
  · rw [if_pos h, if_pos (show (-1 : Int32) ≤ 0 by decide)]
  · rw [if_neg h]
theorem mb_strTow {I V : gx_F} {k : Nat} {g : Nat → Int32} (hw : mb_wr I V k g) (hi : mb_iv g) {p s : Nat} (hp : p < 42) (hs : s < 4) : f_X5_strengthToward k (Int32.ofNat p) (Int32.ofNat s) I V = some (mb_st g p s) := by
  rw [f_X5_strengthToward, mb_brickOn hw hp, Option.bind_some]
  unfold mb_st mb_fr
  rcases hi.br hp with h | ⟨b, hb, h⟩
  · rw [h, mb_glueNo, Option.bind_some, mb_facing hw hi hp hs, Option.bind_some, mb_betweenNo, Option.bind_some, decide_eq_true (show (-1 : Int32) < 0 by decide), if_pos rfl]
  · obtain ⟨n1, n2, -⟩ := mb_small b (by omega)
    obtain ⟨x, hx, hg⟩ := hi.gl (s := s) hb
    rw [h, mb_glueOn hw hb hs, Option.bind_some, mb_facing hw hi hp hs, Option.bind_some, hg, mb_between hw hi hx, Option.bind_some, decide_eq_false n1, if_neg (by decide), n2, mb_ha, hg]
