/-! THE LAW'S CASES AND ITS LOOP over the whole state -/
abbrev mb_K : Type := gx_F → gx_F → gx_F → gx_F → Int64 → UInt64 → Option Int32
def mb_KR (K : mb_K) : Prop := ∀ I V J U o d, mb_R I V J U → K I V J U o d = some 1
theorem mb_cmp (x : Int64) : lg_cmp x x = 0 := (lg_cmp_eq x x).mpr rfl
theorem mb_end {x : mb_XL} {y : mb_X} (h : mb_AN x y) {K : mb_K} (hK : mb_KR K) (d : UInt64) : (Option.bind x fun uq_1 => (Option.bind y fun uq_2 => (Option.bind (f_X7_thrown uq_2.2.1 uq_2.2.2) fun uq_3 => (if uq_3 = uq_1.1 then (if uq_1.1 = 0 then (if (lg_cmp uq_1.2.2.2 uq_2.1.toInt64) = 0 then (K uq_1.2.1 uq_1.2.2.1 uq_2.2.1 uq_2.2.2 uq_1.2.2.2 d) else (some 0)) else (K uq_1.2.1 uq_1.2.2.1 uq_2.2.1 uq_2.2.2 uq_1.2.2.2 d)) else (some 0))))) = some 1 := by
  obtain ⟨t, I', V', o', a, J', U', rfl, rfl, h9, ho, hR⟩ := h
  simp only [Option.bind_some, f_X7_thrown]
  rw [if_pos h9]
  by_cases ht : t = 0
  · rw [if_pos ht, ho ht, mb_cmp, if_pos rfl]
    exact hK _ _ _ _ _ _ hR
  · rw [if_neg ht]
    exact hK _ _ _ _ _ _ hR
theorem mb_endE {x y : mb_X} (h : mb_EQ x y) {K : mb_K} (hK : mb_KR K) (o : Int64) (d : UInt64) : (Option.bind x fun uq_1 => (Option.bind y fun uq_2 => (if uq_1.1 = uq_2.1 then (K uq_1.2.1 uq_1.2.2 uq_2.2.1 uq_2.2.2 o d) else (some 0)))) = some 1 := by
  obtain ⟨a, I', V', J', U', rfl, rfl, hR⟩ := h
  simp only [Option.bind_some]
  rw [if_pos True.intro]
  exact hK _ _ _ _ _ _ hR
theorem mb_jk {I V J U : gx_F} (h : mb_R I V J U) : mb_jo J := h.2.2.1.jo h.2.2.2.2.2.2.2
section
variable {xs : Nat → Int32} {L : Nat} {v : Int32} {K : mb_K} {I V J U : gx_F}

theorem mb_l0 (h : mb_R I V J U) (hK : mb_KR K) (o : Int64) (d : UInt64) (h1 : gx_in (v + 1) L = true) (h2 : gx_in (v + 2) L = true) (h3 : gx_in (v + 3) L = true) (h4 : gx_in (v + 4) L = true) : f_law_c0 xs L v K I V J U o d = some 1 := by
  rw [f_law_c0]
  simp only [mb_ck h1, mb_ck h2, mb_ck h3, mb_ck h4]
  exact mb_end (mb_change h (F := fun I V => f_X3_tellKind 0 (xs (v + 1).toNatClampNeg) (xs (v + 2).toNatClampNeg) (xs (v + 3).toNatClampNeg) (xs (v + 4).toNatClampNeg) I V) (fun I V hw => mb_opKind hw rfl h.2.1 (mb_jk h) (xs (v + 1).toNatClampNeg) (xs (v + 2).toNatClampNeg) (xs (v + 3).toNatClampNeg) (xs (v + 4).toNatClampNeg)) o) hK d
theorem mb_l1 (h : mb_R I V J U) (hK : mb_KR K) (o : Int64) (d : UInt64) (h1 : gx_in (v + 1) L = true) (h2 : gx_in (v + 2) L = true) (h3 : gx_in (v + 3) L = true) : f_law_c1 xs L v K I V J U o d = some 1 := by
  rw [f_law_c1]
  simp only [mb_ck h1, mb_ck h2, mb_ck h3]
  exact mb_end (mb_change h (F := fun I V => f_X3_layBrick 0 (xs (v + 1).toNatClampNeg) (xs (v + 2).toNatClampNeg) (xs (v + 3).toNatClampNeg) I V) (fun I V hw => mb_opLay hw rfl h.2.1 (mb_jk h) (xs (v + 1).toNatClampNeg) (xs (v + 2).toNatClampNeg) (xs (v + 3).toNatClampNeg)) o) hK d
theorem mb_l2 (h : mb_R I V J U) (hK : mb_KR K) (o : Int64) (d : UInt64) (h1 : gx_in (v + 1) L = true) : f_law_c2 xs L v K I V J U o d = some 1 := by
  rw [f_law_c2]
  simp only [mb_ck h1]
  exact mb_end (mb_change h (F := fun I V => f_X3_takeBrick 0 (xs (v + 1).toNatClampNeg) I V) (fun I V hw => mb_opTake hw rfl h.2.1 (mb_jk h) (xs (v + 1).toNatClampNeg)) o) hK d
theorem mb_l3 (h : mb_R I V J U) (hK : mb_KR K) (o : Int64) (d : UInt64) (h1 : gx_in (v + 1) L = true) : f_law_c3 xs L v K I V J U o d = some 1 := by
  rw [f_law_c3]
  simp only [mb_ck h1]
  exact mb_end (mb_change h (F := fun I V => f_X3_growBricks 0 (xs (v + 1).toNatClampNeg) I V) (fun I V hw => mb_opGrow hw rfl h.2.1 (mb_jk h) (xs (v + 1).toNatClampNeg)) o) hK d
theorem mb_l4 (h : mb_R I V J U) (hK : mb_KR K) (o : Int64) (d : UInt64) (h1 : gx_in (v + 1) L = true) (h2 : gx_in (v + 2) L = true) : f_law_c4 xs L v K I V J U o d = some 1 := by
  rw [f_law_c4]
  simp only [mb_ck h1, mb_ck h2]
  exact mb_end (mb_change h (F := fun I V => f_X3_setStrength 0 (xs (v + 1).toNatClampNeg) (xs (v + 2).toNatClampNeg) I V) (fun I V hw => mb_opStr hw rfl h.2.1 (mb_jk h) (xs (v + 1).toNatClampNeg) (xs (v + 2).toNatClampNeg)) o) hK d
theorem mb_l5 (h : mb_R I V J U) (hK : mb_KR K) (o : Int64) (d : UInt64) (h1 : gx_in (v + 1) L = true) : f_law_c5 xs L v K I V J U o d = some 1 := by
  rw [f_law_c5]
  simp only [mb_ck h1]
  exact mb_end (mb_change h (F := fun I V => f_X3_setNeed 0 (xs (v + 1).toNatClampNeg) I V) (fun I V hw => mb_opNeed hw rfl h.2.1 (mb_jk h) (xs (v + 1).toNatClampNeg)) o) hK d
theorem mb_l6 (h : mb_R I V J U) (hK : mb_KR K) (o : Int64) (d : UInt64) (h1 : gx_in (v + 1) L = true) (h2 : gx_in (v + 2) L = true) (h3 : gx_in (v + 3) L = true) : f_law_c6 xs L v K I V J U o d = some 1 := by
  rw [f_law_c6]
  simp only [mb_ck h1, mb_ck h2, mb_ck h3]
  exact mb_end (mb_c6 h (xs (v + 1).toNatClampNeg) (xs (v + 2).toNatClampNeg) (xs (v + 3).toNatClampNeg) o) hK d
theorem mb_l7 (h : mb_R I V J U) (hK : mb_KR K) (o : Int64) (d : UInt64) (h1 : gx_in (v + 1) L = true) : f_law_c7 xs L v K I V J U o d = some 1 := by
  rw [f_law_c7]
  simp only [mb_ck h1]
  exact mb_end (mb_c7 h (xs (v + 1).toNatClampNeg) o) hK d
theorem mb_l10 (h : mb_R I V J U) (hK : mb_KR K) (o : Int64) (d : UInt64) (h1 : gx_in (v + 1) L = true) : f_law_c10 xs L v K I V J U o d = some 1 := by
  rw [f_law_c10]
  simp only [mb_ck h1]
  exact mb_end (mb_c10 h (xs (v + 1).toNatClampNeg) o) hK d
theorem mb_l11 (h : mb_R I V J U) (hK : mb_KR K) (o : Int64) (d : UInt64) (h1 : gx_in (v + 1) L = true) : f_law_c11 xs L v K I V J U o d = some 1 := by
  rw [f_law_c11]
  simp only [mb_ck h1]
  exact mb_end (mb_c11 h (xs (v + 1).toNatClampNeg) o) hK d
theorem mb_l12 (h : mb_R I V J U) (hK : mb_KR K) (o : Int64) (d : UInt64) (h1 : gx_in (v + 1) L = true) (h2 : gx_in (v + 2) L = true) (h3 : gx_in (v + 3) L = true) : f_law_c12 xs L v K I V J U o d = some 1 := by
  rw [f_law_c12]
  simp only [mb_ck h1, mb_ck h2, mb_ck h3]
  exact mb_end (mb_c12 h (xs (v + 1).toNatClampNeg) (xs (v + 2).toNatClampNeg) (xs (v + 3).toNatClampNeg) o) hK d
theorem mb_l15 (h : mb_R I V J U) (hK : mb_KR K) (o : Int64) (d : UInt64) (h1 : gx_in (v + 1) L = true) : f_law_c15 xs L v K I V J U o d = some 1 := by
  rw [f_law_c15]
  simp only [mb_ck h1]
  exact mb_end (mb_c15 h (xs (v + 1).toNatClampNeg) o) hK d
theorem mb_l17 (h : mb_R I V J U) (hK : mb_KR K) (o : Int64) (d : UInt64) (h1 : gx_in (v + 1) L = true) : f_law_c17 xs L v K I V J U o d = some 1 := by
  rw [f_law_c17]
  simp only [mb_ck h1]
  exact mb_end (mb_c17 h (xs (v + 1).toNatClampNeg) o) hK d
theorem mb_l20 (h : mb_R I V J U) (hK : mb_KR K) (o : Int64) (d : UInt64) (h1 : gx_in (v + 1) L = true) : f_law_c20 xs L v K I V J U o d = some 1 := by
  rw [f_law_c20]
  simp only [mb_ck h1]
  exact mb_end (mb_c20 h (xs (v + 1).toNatClampNeg) o) hK d
theorem mb_l24 (h : mb_R I V J U) (hK : mb_KR K) (o : Int64) (d : UInt64) (h1 : gx_in (v + 1) L = true) : f_law_c24 xs L v K I V J U o d = some 1 := by
  rw [f_law_c24]
  simp only [mb_ck h1]
  exact mb_end (mb_c24 h (xs (v + 1).toNatClampNeg) o) hK d
theorem mb_l28 (h : mb_R I V J U) (hK : mb_KR K) (o : Int64) (d : UInt64) (h1 : gx_in (v + 1) L = true) : f_law_c28 xs L v K I V J U o d = some 1 := by
  rw [f_law_c28]
  simp only [mb_ck h1]
  exact mb_end (mb_c28 h (xs (v + 1).toNatClampNeg) o) hK d
theorem mb_l29 (h : mb_R I V J U) (hK : mb_KR K) (o : Int64) (d : UInt64) (h1 : gx_in (v + 1) L = true) : f_law_c29 xs L v K I V J U o d = some 1 := by
  rw [f_law_c29]
  simp only [mb_ck h1]
  exact mb_end (mb_c29 h (xs (v + 1).toNatClampNeg) o) hK d
theorem mb_l30 (h : mb_R I V J U) (hK : mb_KR K) (o : Int64) (d : UInt64) (h1 : gx_in (v + 1) L = true) : f_law_c30 xs L v K I V J U o d = some 1 := by
  rw [f_law_c30]
  simp only [mb_ck h1]
  exact mb_end (mb_c30 h (xs (v + 1).toNatClampNeg) o) hK d
theorem mb_l33 (h : mb_R I V J U) (hK : mb_KR K) (o : Int64) (d : UInt64) (h1 : gx_in (v + 1) L = true) : f_law_c33 xs L v K I V J U o d = some 1 := by
  rw [f_law_c33]
  simp only [mb_ck h1]
  exact mb_end (mb_c33 h (xs (v + 1).toNatClampNeg) o) hK d
theorem mb_l9 (h : mb_R I V J U) (hK : mb_KR K) (o : Int64) (d : UInt64)  : f_law_c9 xs L v K I V J U o d = some 1 := by
  rw [f_law_c9]
  exact mb_end (mb_c9 h o) hK d
theorem mb_l18 (h : mb_R I V J U) (hK : mb_KR K) (o : Int64) (d : UInt64)  : f_law_c18 xs L v K I V J U o d = some 1 := by
  rw [f_law_c18]
  exact mb_end (mb_c18 h o) hK d
theorem mb_l19 (h : mb_R I V J U) (hK : mb_KR K) (o : Int64) (d : UInt64)  : f_law_c19 xs L v K I V J U o d = some 1 := by
  rw [f_law_c19]
  exact mb_end (mb_c19 h o) hK d
theorem mb_l26 (h : mb_R I V J U) (hK : mb_KR K) (o : Int64) (d : UInt64)  : f_law_c26 xs L v K I V J U o d = some 1 := by
  rw [f_law_c26]
  exact mb_end (mb_c26 h o) hK d
theorem mb_l34 (h : mb_R I V J U) (hK : mb_KR K) (o : Int64) (d : UInt64)  : f_law_c34 xs L v K I V J U o d = some 1 := by
  rw [f_law_c34]
  exact mb_end (mb_c34 h o) hK d
theorem mb_l36 (h : mb_R I V J U) (hK : mb_KR K) (o : Int64) (d : UInt64)  : f_law_c36 xs L v K I V J U o d = some 1 := by
  rw [f_law_c36]
  exact mb_end (mb_c36 h o) hK d
theorem mb_l25 (h : mb_R I V J U) (hK : mb_KR K) (o : Int64) (d : UInt64) (h1 : gx_in (v + 1) L = true) : f_law_c25 xs L v K I V J U o d = some 1 := by
  rw [f_law_c25]
  simp only [mb_ck h1]
  exact mb_end (mb_c25 h (xs (v + 1).toNatClampNeg) o) hK d
theorem mb_l14 (h : mb_R I V J U) (hK : mb_KR K) (o : Int64) (d : UInt64)  : f_law_c14 xs L v K I V J U o d = some 1 := by
  rw [f_law_c14]
  exact mb_endE (mb_c14 h) hK o d
theorem mb_l21 (h : mb_R I V J U) (hK : mb_KR K) (o : Int64) (d : UInt64)  : f_law_c21 xs L v K I V J U o d = some 1 := by
  rw [f_law_c21]
  exact mb_endE (mb_c21 h) hK o d
theorem mb_l22 (h : mb_R I V J U) (hK : mb_KR K) (o : Int64) (d : UInt64)  : f_law_c22 xs L v K I V J U o d = some 1 := by
  rw [f_law_c22]
  exact mb_endE (mb_c22 h) hK o d
theorem mb_l35 (h : mb_R I V J U) (hK : mb_KR K) (o : Int64) (d : UInt64)  : f_law_c35 xs L v K I V J U o d = some 1 := by
  rw [f_law_c35]
  exact mb_endE (mb_c35 h) hK o d
theorem mb_l16 (h : mb_R I V J U) (hK : mb_KR K) (o : Int64) (d : UInt64)  : f_law_c16 xs L v K I V J U o d = some 1 := by
  rw [f_law_c16]
  obtain ⟨a, e1, e2, hR⟩ := mb_c16 h
  rw [e1, e2]
  simp only [Option.bind_some]
  rw [if_pos True.intro]
  exact hK _ _ _ _ _ _ hR
theorem mb_l27 (h : mb_R I V J U) (hK : mb_KR K) (o : Int64) (d : UInt64)  : f_law_c27 xs L v K I V J U o d = some 1 := by
  rw [f_law_c27]
  obtain ⟨a, e1, e2, hR⟩ := mb_c27 h
  rw [e1, e2]
  simp only [Option.bind_some]
  rw [if_pos True.intro]
  exact hK _ _ _ _ _ _ hR
theorem mb_l8 (h : mb_R I V J U) (hK : mb_KR K) (o : Int64) (d : UInt64) (h1 : gx_in (v + 1) L = true) (h2 : gx_in (v + 2) L = true) : f_law_c8 xs L v K I V J U o d = some 1 := by
  rw [f_law_c8]
  simp only [mb_ck h1, mb_ck h2]
  by_cases hz : xs (v + 2).toNatClampNeg = 0
  · simp only [if_pos hz]
    exact mb_end (mb_c8 h (xs (v + 1).toNatClampNeg) (Or.inl rfl) o) hK d
  · simp only [if_neg hz]
    exact mb_end (mb_c8 h (xs (v + 1).toNatClampNeg) (Or.inr rfl) o) hK d
theorem mb_l23 (h : mb_R I V J U) (hK : mb_KR K) (o : Int64) (d : UInt64) (h1 : gx_in (v + 1) L = true) (h2 : gx_in (v + 2) L = true) : f_law_c23 xs L v K I V J U o d = some 1 := by
  rw [f_law_c23]
  simp only [mb_ck h1, mb_ck h2]
  by_cases hz : xs (v + 2).toNatClampNeg = 0
  · simp only [if_pos hz]
    exact mb_end (mb_c23 h (xs (v + 1).toNatClampNeg) 0 o) hK d
  · simp only [if_neg hz]
    exact mb_end (mb_c23 h (xs (v + 1).toNatClampNeg) 1 o) hK d
theorem mb_l13 (h : mb_R I V J U) (hK : mb_KR K) (o : Int64) (d : UInt64) (h1 : gx_in (v + 1) L = true) : f_law_c13 xs L v K I V J U o d = some 1 := by
  rw [f_law_c13]
  simp only [mb_ck h1]
  obtain ⟨t, I', V', o', a, J', U', e1, e2, h9, ho, hR⟩ := mb_c13 h (xs (v + 1).toNatClampNeg) o
  rw [e1, e2]
  simp only [Option.bind_some, f_X7_thrown]
  rw [if_pos h9]
  by_cases ht : t = 0
  · rw [if_pos ht, ho ht]
    cases a with
    | false =>
      rw [if_pos gx_bi_0, if_neg mb_ft, mb_cmp, if_pos rfl]
      exact hK _ _ _ _ _ _ hR
    | true =>
      rw [if_neg mb_bt1', if_pos rfl, mb_cmp, if_pos rfl]
      exact hK _ _ _ _ _ _ hR
  · rw [if_neg ht]
    exact hK _ _ _ _ _ _ hR
theorem mb_l31 (h : mb_R I V J U) (hK : mb_KR K) (o : Int64) (d : UInt64)  : f_law_c31 xs L v K I V J U o d = some 1 := by
  rw [f_law_c31]
  obtain ⟨t, I', V', d', a, J', U', e1, e2, h9, ho, hR⟩ := mb_c31 h d
  rw [e1, e2]
  simp only [Option.bind_some, f_X7_thrown]
  rw [if_pos h9]
  by_cases ht : t = 0
  · rw [if_pos ht, ho ht]
    by_cases hc : Op.cmpValue (FP.dcmp a a) .l = 0
    · rw [if_pos hc]
      exact hK _ _ _ _ _ _ hR
    · rw [if_neg hc, if_neg hc, if_neg hc]
      exact hK _ _ _ _ _ _ hR
  · rw [if_neg ht]
    exact hK _ _ _ _ _ _ hR
theorem mb_l32 (h : mb_R I V J U) (hK : mb_KR K) (o : Int64) (d : UInt64)  : f_law_c32 xs L v K I V J U o d = some 1 := by
  rw [f_law_c32]
  obtain ⟨t, I', V', d', a, J', U', e1, e2, h9, ho, hR⟩ := mb_c32 h d
  rw [e1, e2]
  simp only [Option.bind_some, f_X7_thrown]
  rw [if_pos h9]
  by_cases ht : t = 0
  · obtain ⟨ho1, ho2, ho3⟩ := ho ht
    rw [if_pos ht, mb_ck ho2, ho1, if_pos ho3]
    exact hK _ _ _ _ _ _ hR
  · rw [if_neg ht]
    exact hK _ _ _ _ _ _ hR
end
theorem mb_sel {xs : Nat → Int32} {L : Nat} {v : Int32} {K : mb_K} {I V J U : gx_F} (h : mb_R I V J U) (hK : mb_KR K) (o : Int64) (d : UInt64) (h1 : gx_in (v + 1) L = true) (h2 : gx_in (v + 2) L = true) (h3 : gx_in (v + 3) L = true) (h4 : gx_in (v + 4) L = true) : f_law_sel xs L v K I V J U o d = some 1 := by
  rw [f_law_sel]
  by_cases e0 : xs v.toNatClampNeg &&& 63 = 0
  · rw [if_pos e0]
    exact mb_l0 h hK o d h1 h2 h3 h4
  rw [if_neg e0]
  by_cases e1 : xs v.toNatClampNeg &&& 63 = 1
  · rw [if_pos e1]
    exact mb_l1 h hK o d h1 h2 h3
  rw [if_neg e1]
  by_cases e2 : xs v.toNatClampNeg &&& 63 = 2
  · rw [if_pos e2]
    exact mb_l2 h hK o d h1
  rw [if_neg e2]
  by_cases e3 : xs v.toNatClampNeg &&& 63 = 3
  · rw [if_pos e3]
    exact mb_l3 h hK o d h1
  rw [if_neg e3]
  by_cases e4 : xs v.toNatClampNeg &&& 63 = 4
  · rw [if_pos e4]
    exact mb_l4 h hK o d h1 h2
  rw [if_neg e4]
  by_cases e5 : xs v.toNatClampNeg &&& 63 = 5
  · rw [if_pos e5]
    exact mb_l5 h hK o d h1
  rw [if_neg e5]
  by_cases e6 : xs v.toNatClampNeg &&& 63 = 6
  · rw [if_pos e6]
    exact mb_l6 h hK o d h1 h2 h3
  rw [if_neg e6]
  by_cases e7 : xs v.toNatClampNeg &&& 63 = 7
  · rw [if_pos e7]
    exact mb_l7 h hK o d h1
  rw [if_neg e7]
  by_cases e8 : xs v.toNatClampNeg &&& 63 = 8
  · rw [if_pos e8]
    exact mb_l8 h hK o d h1 h2
  rw [if_neg e8]
  by_cases e9 : xs v.toNatClampNeg &&& 63 = 9
  · rw [if_pos e9]
    exact mb_l9 h hK o d 
  rw [if_neg e9]
  by_cases e10 : xs v.toNatClampNeg &&& 63 = 10
  · rw [if_pos e10]
    exact mb_l10 h hK o d h1
  rw [if_neg e10]
  by_cases e11 : xs v.toNatClampNeg &&& 63 = 11
  · rw [if_pos e11]
    exact mb_l11 h hK o d h1
  rw [if_neg e11]
  by_cases e12 : xs v.toNatClampNeg &&& 63 = 12
  · rw [if_pos e12]
    exact mb_l12 h hK o d h1 h2 h3
  rw [if_neg e12]
  by_cases e13 : xs v.toNatClampNeg &&& 63 = 13
  · rw [if_pos e13]
    exact mb_l13 h hK o d h1
  rw [if_neg e13]
  by_cases e14 : xs v.toNatClampNeg &&& 63 = 14
  · rw [if_pos e14]
    exact mb_l14 h hK o d 
  rw [if_neg e14]
  by_cases e15 : xs v.toNatClampNeg &&& 63 = 15
  · rw [if_pos e15]
    exact mb_l15 h hK o d h1
  rw [if_neg e15]
  by_cases e16 : xs v.toNatClampNeg &&& 63 = 16
  · rw [if_pos e16]
    exact mb_l16 h hK o d 
  rw [if_neg e16]
  by_cases e17 : xs v.toNatClampNeg &&& 63 = 17
  · rw [if_pos e17]
    exact mb_l17 h hK o d h1
  rw [if_neg e17]
  by_cases e18 : xs v.toNatClampNeg &&& 63 = 18
  · rw [if_pos e18]
    exact mb_l18 h hK o d 
  rw [if_neg e18]
  by_cases e19 : xs v.toNatClampNeg &&& 63 = 19
  · rw [if_pos e19]
    exact mb_l19 h hK o d 
  rw [if_neg e19]
  by_cases e20 : xs v.toNatClampNeg &&& 63 = 20
  · rw [if_pos e20]
    exact mb_l20 h hK o d h1
  rw [if_neg e20]
  by_cases e21 : xs v.toNatClampNeg &&& 63 = 21
  · rw [if_pos e21]
    exact mb_l21 h hK o d 
  rw [if_neg e21]
  by_cases e22 : xs v.toNatClampNeg &&& 63 = 22
  · rw [if_pos e22]
    exact mb_l22 h hK o d 
  rw [if_neg e22]
  by_cases e23 : xs v.toNatClampNeg &&& 63 = 23
  · rw [if_pos e23]
    exact mb_l23 h hK o d h1 h2
  rw [if_neg e23]
  by_cases e24 : xs v.toNatClampNeg &&& 63 = 24
  · rw [if_pos e24]
    exact mb_l24 h hK o d h1
  rw [if_neg e24]
  by_cases e25 : xs v.toNatClampNeg &&& 63 = 25
  · rw [if_pos e25]
    exact mb_l25 h hK o d h1
  rw [if_neg e25]
  by_cases e26 : xs v.toNatClampNeg &&& 63 = 26
  · rw [if_pos e26]
    exact mb_l26 h hK o d 
  rw [if_neg e26]
  by_cases e27 : xs v.toNatClampNeg &&& 63 = 27
  · rw [if_pos e27]
    exact mb_l27 h hK o d 
  rw [if_neg e27]
  by_cases e28 : xs v.toNatClampNeg &&& 63 = 28
  · rw [if_pos e28]
    exact mb_l28 h hK o d h1
  rw [if_neg e28]
  by_cases e29 : xs v.toNatClampNeg &&& 63 = 29
  · rw [if_pos e29]
    exact mb_l29 h hK o d h1
  rw [if_neg e29]
  by_cases e30 : xs v.toNatClampNeg &&& 63 = 30
  · rw [if_pos e30]
    exact mb_l30 h hK o d h1
  rw [if_neg e30]
  by_cases e31 : xs v.toNatClampNeg &&& 63 = 31
  · rw [if_pos e31]
    exact mb_l31 h hK o d 
  rw [if_neg e31]
  by_cases e32 : xs v.toNatClampNeg &&& 63 = 32
  · rw [if_pos e32]
    exact mb_l32 h hK o d 
  rw [if_neg e32]
  by_cases e33 : xs v.toNatClampNeg &&& 63 = 33
  · rw [if_pos e33]
    exact mb_l33 h hK o d h1
  rw [if_neg e33]
  by_cases e34 : xs v.toNatClampNeg &&& 63 = 34
  · rw [if_pos e34]
    exact mb_l34 h hK o d 
  rw [if_neg e34]
  by_cases e35 : xs v.toNatClampNeg &&& 63 = 35
  · rw [if_pos e35]
    exact mb_l35 h hK o d 
  rw [if_neg e35]
  by_cases e36 : xs v.toNatClampNeg &&& 63 = 36
  · rw [if_pos e36]
    exact mb_l36 h hK o d 
  rw [if_neg e36]
  exact hK _ _ _ _ _ _ h
theorem mb_Lm5 : ∀ L, L < 5 → Int32.ofNat L - 5 < 0 := by decide +kernel
theorem mb_end5 {L p : Nat} (hL : L ≤ 2560) (hp : p ≤ 10000) : Int32.ofNat L - 5 < Int32.ofNat p ↔ L < p + 5 := by
  by_cases h : L < 5
  · exact ⟨fun _ => by omega, fun _ => Int32.lt_of_lt_of_le (mb_Lm5 L h) (mb_ge0 (by omega))⟩
  · have e : Int32.ofNat L - 5 = Int32.ofNat (L - 5) := (Int32.ofNat_sub L 5 (by omega)).symm
    rw [e, mb_lt (by omega) (by omega)]
    omega
theorem mb_law {xs : Nat → Int32} {L : Nat} (hL : L ≤ 2560) : ∀ (m p n : Nat) (I V J U : gx_F) (o : Int64) (d : UInt64), p ≤ 5000 → L < p + 5 * m + 5 → mb_R I V J U → f_law_L xs L (n + m + 1) (Int32.ofNat p) I V J U o d = some 1 := by
  intro m
  induction m with
  | zero =>
    intro p n I V J U o d hp hm h
    rw [f_law_L, if_pos ((mb_end5 hL (by omega)).mpr (by omega))]
  | succ m ih =>
    intro p n I V J U o d hp hm h
    by_cases he : L < p + 5
    · rw [f_law_L, if_pos ((mb_end5 hL (by omega)).mpr he)]
    · have q : ∀ j, j < 5 → gx_in (Int32.ofNat (p + j)) L = true := fun j hj => mb_in (by omega) (by omega)
      rw [show n + (m + 1) + 1 = (n + m + 1) + 1 by omega, f_law_L, if_neg (fun h2 => he ((mb_end5 hL (by omega)).mp h2)), mb_ck (show gx_in (Int32.ofNat p) L = true from q 0 (by decide))]
      refine mb_sel h (fun I V J U o d hR => ?_) o d ?_ ?_ ?_ ?_
      · have e : Int32.ofNat p + 5 = Int32.ofNat (p + 5) := (Int32.ofNat_add p 5).symm
        show f_law_L xs L (n + m + 1) (Int32.ofNat p + 5) I V J U o d = some 1
        rw [e]
        exact ih (p + 5) n I V J U o d (by omega) (by omega) hR
      · rw [show Int32.ofNat p + 1 = Int32.ofNat (p + 1) from (Int32.ofNat_add p 1).symm]
        exact q 1 (by decide)
      · rw [show Int32.ofNat p + 2 = Int32.ofNat (p + 2) from (Int32.ofNat_add p 2).symm]
        exact q 2 (by decide)
      · rw [show Int32.ofNat p + 3 = Int32.ofNat (p + 3) from (Int32.ofNat_add p 3).symm]
        exact q 3 (by decide)
      · rw [show Int32.ofNat p + 4 = Int32.ofNat (p + 4) from (Int32.ofNat_add p 4).symm]
        exact q 4 (by decide)
