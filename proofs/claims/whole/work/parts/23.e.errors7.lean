/-! errors of a brick, the model -/
theorem mb_od1 {x : Int32} : mb_od x (-1) = false := by
  unfold mb_od
  by_cases h : x ≤ 0
  · rw [if_pos h]
  · rw [if_neg h, if_pos (show (-1 : Int32) ≤ 0 by decide)]
theorem mb_errorsOf7_L {J U : gx_F} (hi : mb_iv (U 59)) {p b : Nat} (hp : p < 42) (hb : b < 32) (K : Int32 → Int32 → Option Int32) : ∀ (m s n : Nat) (a : Int32), s + m = 4 → f_X7_errorsOf_L1 (Int32.ofNat p) (Int32.ofNat b) J U K (n + m + 1) a (Int32.ofNat s) = K (mb_S (mb_ev (U 59) p b) s m a) (Int32.ofNat 4) := by
  intro m
  induction m with
  | zero =>
    intro s n a h
    have hs : s = 4 := by omega
    subst hs
    rw [f_X7_errorsOf_L1, if_pos (by decide)]
    rfl
  | succ m ih =>
    intro s n a h
    have hs : s < 4 := by omega
    obtain ⟨-, -, -, -, -, h6, -⟩ := mb_small s (by omega)
    have i0 := ih (s + 1) n
    rw [show n + (m + 1) + 1 = (n + m + 1) + 1 by omega, f_X7_errorsOf_L1, if_neg (mb_four s hs), mb_beside7 J U hp hs, Option.bind_some, h6, mb_S, mb_ev]
    cases hq : mb_bs p s with
    | none =>
      rw [mb_fc0 hq, mb_od1, if_pos (show mb_N none < 0 by decide), i0 _ (by omega), if_neg (by decide), Int32.add_zero]
    | some q =>
      have hq2 := mb_bs_lt p hp s hs q hq
      obtain ⟨q1, -, -, -, q5, -⟩ := mb_small q (by omega)
      rw [show mb_N (some q) = Int32.ofNat q from rfl, if_neg q1, mb_isFree7 hq2, Option.bind_some, mb_fc1 hq]
      rcases hi.br hq2 with h2 | ⟨b2, hb2, h2⟩
      · rw [h2, if_pos (show (-1 : Int32) < 0 by decide), mb_od1, decide_eq_true (show (-1 : Int32) < 0 by decide), if_neg (show ¬ gx_bi true = 0 by decide), i0 _ (by omega), if_neg (by decide), Int32.add_zero]
      · obtain ⟨n1, n2, -⟩ := mb_small b2 (by omega)
        rw [q5, h2, if_neg n1, n2, decide_eq_false n1, if_pos gx_bi_0, mb_glue7 hb hs, Option.bind_some]
        unfold gx_ck mb_od
        rw [if_pos (mb_in42 q hq2).2, mb_opp s hs, mb_glue7 hb2 (Nat.mod_lt _ (by decide)), Option.bind_some, i0 _ (by omega), i0 _ (by omega)]
        by_cases e1 : mb_gl (U 59) b s = mb_gl (U 59) b2 ((s + 2) % 4)
        · rw [if_pos e1]
          by_cases e2 : mb_gl (U 59) b s ≤ 0
          · rw [if_pos e2, if_neg (by decide)]
          · rw [if_neg e2]
            by_cases e3 : mb_gl (U 59) b2 ((s + 2) % 4) ≤ 0
            · rw [if_pos e3, if_neg (by decide)]
            · rw [if_neg e3, if_pos e1, if_neg (by decide)]
        · rw [if_neg e1]
          by_cases e2 : mb_gl (U 59) b s ≤ 0
          · rw [if_pos e2, if_pos e2, if_neg (by decide)]
          · rw [if_neg e2, if_neg e2]
            by_cases e3 : mb_gl (U 59) b2 ((s + 2) % 4) ≤ 0
            · rw [if_pos e3, if_pos e3, if_neg (by decide)]
            · rw [if_neg e3, if_neg e3, if_neg e1, if_pos rfl]
theorem mb_errorsOf7 {J U : gx_F} (hi : mb_iv (U 59)) {p b : Nat} (hp : p < 42) (hb : b < 32) : f_X7_errorsOf (Int32.ofNat p) (Int32.ofNat b) J U = some (mb_errs (U 59) p b) :=
  mb_errorsOf7_L hi hp hb _ 4 0 995 0 rfl
