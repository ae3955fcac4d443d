/-! THE WHOLE STATE, class and model side by side -/
def mb_row (U : gx_F) (k o : Nat) : Nat → Int32 := fun j => U k (o + j)
def mb_hs (I V J U : gx_F) : Prop := ∃ n nx : Nat, n ≤ 8 ∧ nx < 8 ∧ I 46 2 = Int32.ofNat n ∧ I 46 1 = Int32.ofNat nx ∧ J 58 6 = Int32.ofNat n ∧ ∀ i, i < n → mb_wr I V (12 + 4 * ((nx + 8 - n + i) % 8)) (mb_row U 60 (87 * i)) ∧ mb_iv (mb_row U 60 (87 * i))
def mb_sv (I V J U : gx_F) : Prop := (I 44 3 = 0 ∧ J 58 5 = 0) ∨ (I 44 3 = 1 ∧ J 58 5 = 1 ∧ mb_wr I V 8 (U 61) ∧ mb_iv (U 61))
def mb_rs (I J : gx_F) : Prop := I 53 2 = J 58 10 ∧ I 53 3 = J 58 11 ∧ I 44 8 = J 58 12 ∧ I 44 10 = J 58 15
def mb_tx (I V J U : gx_F) : Prop := ∃ n : Nat, n ≤ 60 ∧ I 54 4 = Int32.ofNat n ∧ J 58 14 = Int32.ofNat n ∧ ∀ i, i < n → V 55 i = U 64 i ∧ gx_chr (U 64 i) = U 64 i
def mb_ln (I V J U : gx_F) : Prop := ∃ n : Nat, n ≤ 28 ∧ I 44 12 = Int32.ofNat n ∧ J 58 17 = Int32.ofNat n ∧ ∀ i, i < n → V 45 i = U 65 i
def mb_R (I V J U : gx_F) : Prop := mb_wr I V 0 (U 59) ∧ mb_iv (U 59) ∧ mb_hs I V J U ∧ mb_sv I V J U ∧ mb_rs I J ∧ mb_tx I V J U ∧ mb_ln I V J U ∧ J 58 7 = 0
theorem mb_hs.key {I V J U I' V' J' U' : gx_F} (h : mb_hs I V J U) (e : ∀ k, 12 ≤ k → k ≤ 43 → I' k = I k ∧ V' k = V k) (e46 : I' 46 = I 46) (e6 : J' 58 6 = J 58 6) (e60 : U' 60 = U 60) : mb_hs I' V' J' U' := by
  obtain ⟨n, nx, h1, h2, h3, h4, h5, h6⟩ := h
  refine ⟨n, nx, h1, h2, ?_, ?_, ?_, fun i hi => ?_⟩
  · rw [e46]; exact h3
  · rw [e46]; exact h4
  · rw [e6]; exact h5
  · have hr : mb_row U' 60 (87 * i) = mb_row U 60 (87 * i) := by
      unfold mb_row
      rw [e60]
    rw [hr]
    exact ⟨(h6 i hi).1.key (e _ (by omega) (by omega)).1 (e _ (by omega) (by omega)).2 (e _ (by omega) (by omega)).2 (e _ (by omega) (by omega)).2, (h6 i hi).2⟩
theorem mb_hs.jo {I V J U : gx_F} (h : mb_hs I V J U) (h7 : J 58 7 = 0) : mb_jo J := by
  obtain ⟨n, nx, h1, h2, h3, h4, h5, h6⟩ := h
  exact Or.inl ⟨h7, n, h1, h5⟩
/-- the class's cells but the wall, the searches', the wall before, the reason -/
def mb_cf (I V I' V' : gx_F) : Prop := (∀ k, 8 ≤ k → k ≤ 43 → I' k = I k ∧ V' k = V k) ∧ (∀ s, s ≠ 8 → I' 44 s = I 44 s) ∧ I' 46 = I 46 ∧ I' 54 = I 54 ∧ V' 45 = V 45 ∧ V' 55 = V 55 ∧ V' 56 = V 56 ∧ V' 57 = V 57
theorem mb_cf.refl (I V : gx_F) : mb_cf I V I V := ⟨fun _ _ _ => ⟨rfl, rfl⟩, fun _ _ => rfl, rfl, rfl, rfl, rfl, rfl, rfl⟩
theorem mb_cf.trans {I V I' V' I2 V2 : gx_F} (h : mb_cf I V I' V') (h2 : mb_cf I' V' I2 V2) : mb_cf I V I2 V2 := by
  obtain ⟨a1, a2, a3, a4, a5, a6, a7, a8⟩ := h
  obtain ⟨b1, b2, b3, b4, b5, b6, b7, b8⟩ := h2
  exact ⟨fun k x y => ⟨(b1 k x y).1.trans (a1 k x y).1, (b1 k x y).2.trans (a1 k x y).2⟩, fun s x => (b2 s x).trans (a2 s x), b3.trans a3, b4.trans a4, b5.trans a5, b6.trans a6, b7.trans a7, b8.trans a8⟩
theorem mb_fw.cf {I V I' V' : gx_F} (h : mb_fw 0 I V I' V') : mb_cf I V I' V' :=
  ⟨fun k x y => ⟨h.1 k (by omega) (by omega) (by omega), h.2 k (by omega) (by omega) (by omega) (by omega) (by omega) (by omega)⟩, fun s _ => by rw [h.1 44 (by omega) (by omega) (by omega)], h.1 46 (by omega) (by omega) (by omega), h.1 54 (by omega) (by omega) (by omega), h.2 45 (by omega) (by omega) (by omega) (by omega) (by omega) (by omega), h.2 55 (by omega) (by omega) (by omega) (by omega) (by omega) (by omega), h.2 56 (by omega) (by omega) (by omega) (by omega) (by omega) (by omega), h.2 57 (by omega) (by omega) (by omega) (by omega) (by omega) (by omega)⟩
theorem mb_cp_cf {I V I' V' : gx_F} {k0 : Nat} (hk : k0 = 0 ∨ k0 = 4) (h1 : ∀ j, j ≠ k0 → I' j = I j) (h2 : ∀ j, j ≠ k0 + 1 → j ≠ k0 + 2 → j ≠ k0 + 3 → V' j = V j) : mb_cf I V I' V' :=
  ⟨fun k x y => ⟨h1 k (by omega), h2 k (by omega) (by omega) (by omega)⟩, fun s _ => by rw [h1 44 (by omega)], h1 46 (by omega), h1 54 (by omega), h2 45 (by omega) (by omega) (by omega), h2 55 (by omega) (by omega) (by omega), h2 56 (by omega) (by omega) (by omega), h2 57 (by omega) (by omega) (by omega)⟩
def mb_mq (J U J' U' : gx_F) : Prop := (∀ s, s = 5 ∨ s = 14 ∨ s = 15 ∨ s = 17 → J' 58 s = J 58 s) ∧ U' 61 = U 61 ∧ U' 64 = U 64 ∧ U' 65 = U 65
theorem mb_R.build {I V J U I' V' J' U' : gx_F} (h : mb_R I V J U) (hw : mb_wr I' V' 0 (U' 59)) (hi : mb_iv (U' 59)) (hs : mb_hs I' V' J' U') (h44 : ∀ s, s = 3 ∨ s = 12 → I' 44 s = I 44 s) (h8 : ∀ k, 8 ≤ k → k ≤ 11 → I' k = I k ∧ V' k = V k) (h54 : I' 54 4 = I 54 4) (h45 : V' 45 = V 45) (h55 : V' 55 = V 55) (hm : mb_mq J U J' U') (hr : mb_rs I' J') (h7 : J' 58 7 = 0) : mb_R I' V' J' U' := by
  obtain ⟨-, -, -, sv, -, tx, ln, -⟩ := h
  obtain ⟨m1, m61, m64, m65⟩ := hm
  refine ⟨hw, hi, hs, ?_, hr, ?_, ?_, h7⟩
  · unfold mb_sv
    rw [h44 3 (Or.inl rfl), m1 5 (Or.inl rfl), m61]
    rcases sv with h | ⟨a, b, c, d⟩
    · exact Or.inl h
    · exact Or.inr ⟨a, b, c.key (h8 8 (by omega) (by omega)).1 (h8 9 (by omega) (by omega)).2 (h8 10 (by omega) (by omega)).2 (h8 11 (by omega) (by omega)).2, d⟩
  · unfold mb_tx
    rw [h54, h55, m1 14 (by omega), m64]
    exact tx
  · unfold mb_ln
    rw [h44 12 (Or.inr rfl), h45, m1 17 (by omega), m65]
    exact ln
/-! a wall pushed and a row kept -/
theorem mb_rem8 : ∀ x, x < 8 → gx_rem (Int32.ofNat x + 1) 8 = Int32.ofNat ((x + 1) % 8) ∧ gx_rem (Int32.ofNat x + 8 - 1) 8 = Int32.ofNat ((x + 7) % 8) := by decide +kernel
theorem mb_min8 : ∀ n, n ≤ 8 → (if 8 < Int32.ofNat n + 1 then (8 : Int32) else Int32.ofNat n + 1) = Int32.ofNat (if n = 8 then 8 else n + 1) := by decide +kernel
theorem mb_push {I V J U : gx_F} (h : mb_hs I V J U) {g : Nat → Int32} (hw : mb_wr I V 4 g) (hi : mb_iv g) :
    ∃ I' V', f_X2_push 4 I V = some (I', V') ∧ (∀ k, k ≠ 46 → (k < 12 ∨ 43 < k) → I' k = I k) ∧ (∀ k, (k < 12 ∨ 43 < k) → V' k = V k) ∧ ∀ src J1 U1, mb_kp src J U J1 U1 → J 58 7 = 0 → (∀ j, j < 87 → U src j = g j) → mb_hs I' V' J1 U1 := by
  obtain ⟨n, nx, h1, h2, h3, h4, h5, h6⟩ := h
  obtain ⟨I1, V1, e1, w1, f1, f2⟩ := mb_copyFrom (I := I) (V := V) (k0 := 12 + 4 * nx) (k1 := 4) (by omega) (by decide) (by omega) hw
  have hI1 : I1 46 = I 46 := f1 46 (by omega)
  refine ⟨gx_u (gx_u I1 46 1 (Int32.ofNat ((nx + 1) % 8))) 46 2 (Int32.ofNat (if n = 8 then 8 else n + 1)), V1, ?_, fun k k1 k2 => ?_, fun k k1 => f2 k (by omega) (by omega) (by omega), fun src J1 U1 kp h7 hsrc => ?_⟩
  · rw [f_X2_push, h4, mb_ck (mb_in h2 (by omega)), mb_tn (by omega), e1, Option.bind_some]
    show some (gx_u (gx_u I1 46 1 (gx_rem (I1 46 1 + 1) 8)) 46 2 (if 8 < I1 46 2 + 1 then 8 else I1 46 2 + 1), V1) = _
    rw [hI1, h4, h3, (mb_rem8 nx h2).1, mb_min8 n h1]
  · rw [gx_u_ne k1, gx_u_ne k1, f1 k (by omega)]
  · have hkey : ∀ x, x < 8 → x ≠ nx → ∀ r, mb_wr I V (12 + 4 * x) r → mb_wr (gx_u (gx_u I1 46 1 (Int32.ofNat ((nx + 1) % 8))) 46 2 (Int32.ofNat (if n = 8 then 8 else n + 1))) V1 (12 + 4 * x) r := by
      intro x hx hne r hr
      refine hr.key ?_ (f2 _ (by omega) (by omega) (by omega)) (f2 _ (by omega) (by omega) (by omega)) (f2 _ (by omega) (by omega) (by omega))
      rw [gx_u_ne (by omega), gx_u_ne (by omega), f1 _ (by omega)]
    have hnew : ∀ r : Nat → Int32, (∀ j, j < 87 → r j = g j) → mb_wr (gx_u (gx_u I1 46 1 (Int32.ofNat ((nx + 1) % 8))) 46 2 (Int32.ofNat (if n = 8 then 8 else n + 1))) V1 (12 + 4 * nx) r ∧ mb_iv r := by
      intro r hr
      refine ⟨(w1.ext hr).key ?_ rfl rfl rfl, hi.ext hr⟩
      rw [gx_u_ne (by omega), gx_u_ne (by omega)]
    obtain ⟨-, -, -, -, -, k6⟩ := kp
    obtain ⟨c1, c2⟩ := k6 h7 n h1 h5
    refine ⟨if n = 8 then 8 else n + 1, (nx + 1) % 8, ?_, by omega, rfl, ?_, ?_, fun i hi2 => ?_⟩
    · by_cases h8 : n = 8
      · rw [if_pos h8]; omega
      · rw [if_neg h8]; omega
    · rfl
    · by_cases h8 : n = 8
      · rw [if_pos h8]
        exact (c2 h8).1
      · rw [if_neg h8]
        exact (c1 (by omega)).1
    · by_cases h8 : n = 8
      · rw [if_pos h8] at hi2 ⊢
        obtain ⟨-, d1, d2⟩ := c2 h8
        by_cases hi7 : i = 7
        · rw [show ((nx + 1) % 8 + 8 - 8 + i) % 8 = nx by omega]
          refine hnew _ (fun j hj => ?_)
          show U1 60 (87 * i + j) = g j
          rw [show 87 * i + j = 609 + j by omega, d2 j hj, hsrc j hj]
        · have hr : ∀ j, j < 87 → mb_row U1 60 (87 * i) j = mb_row U 60 (87 * (i + 1)) j := by
            intro j hj
            show U1 60 (87 * i + j) = U 60 (87 * (i + 1) + j)
            rw [d1 _ (by omega), show 87 * i + j + 87 = 87 * (i + 1) + j by omega]
          obtain ⟨y1, y2⟩ := h6 (i + 1) (by omega)
          rw [show ((nx + 1) % 8 + 8 - 8 + i) % 8 = (nx + 8 - n + (i + 1)) % 8 by omega]
          exact ⟨(hkey _ (by omega) (by omega) _ y1).ext hr, y2.ext hr⟩
      · rw [if_neg h8] at hi2 ⊢
        obtain ⟨-, d1, d2⟩ := c1 (by omega)
        by_cases hin : i = n
        · rw [show ((nx + 1) % 8 + 8 - (n + 1) + i) % 8 = nx by omega]
          refine hnew _ (fun j hj => ?_)
          show U1 60 (87 * i + j) = g j
          rw [hin, d2 j hj, hsrc j hj]
        · have hr : ∀ j, j < 87 → mb_row U1 60 (87 * i) j = mb_row U 60 (87 * i) j := by
            intro j hj
            show U1 60 (87 * i + j) = U 60 (87 * i + j)
            rw [d1 _ (by omega)]
          obtain ⟨y1, y2⟩ := h6 i (by omega)
          rw [show ((nx + 1) % 8 + 8 - (n + 1) + i) % 8 = (nx + 8 - n + i) % 8 by omega]
          exact ⟨(hkey _ (by omega) (by omega) _ y1).ext hr, y2.ext hr⟩
/-! a change by a call of its own -/
abbrev mb_XL : Type := Option (Int32 × gx_F × gx_F × Int64)
noncomputable def mb_face (F : gx_F → gx_F → mb_X) (I V : gx_F) : Option ((Int32 ⊕ Nat) × gx_F × gx_F) := (Option.bind (f_X5_copyFrom 4 0 I V) fun uq_1 => (Option.bind (F uq_1.1 uq_1.2) fun uq_2 => (Option.bind (f_X6_settled uq_2.1 uq_2.2.1 uq_2.2.2) fun uq_3 => (if uq_3.1 = (-1) then (some (.inr 0, uq_3.2.1, uq_3.2.2)) else (some (.inl uq_3.1, uq_3.2.1, uq_3.2.2))))))
noncomputable def mb_faceL (F : gx_F → gx_F → mb_X) (I V : gx_F) (o : Int64) : mb_XL := (Option.bind (mb_face F I V) fun uq_1 => (gx_el uq_1.1 (fun ur_2 => (some (0, uq_1.2.1, uq_1.2.2, ur_2.toInt64))) (fun ui_3 => (if ui_3 = 0 then (some (1, uq_1.2.1, uq_1.2.2, o)) else none))))
/-- what a call answers on both sides, and the state behind it -/
def mb_AN (x : mb_XL) (y : mb_X) : Prop := ∃ t I' V' o' a J' U', x = some (t, I', V', o') ∧ y = some (a, J', U') ∧ J' 58 9 = t ∧ (t = 0 → o' = a.toInt64) ∧ mb_R I' V' J' U'
theorem mb_change {I V J U : gx_F} (h : mb_R I V J U) {F : gx_F → gx_F → mb_X} {y : mb_X} (hop : ∀ I V, mb_wr I V 0 (U 59) → mb_op (U 59) (F I V) y I V J U) (o : Int64) : mb_AN (mb_faceL F I V o) y := by
  have h0 := h
  obtain ⟨hw, hi, hs, sv, rs, tx, ln, h7⟩ := h
  obtain ⟨I1, V1, e1, w4, f1, f2⟩ := mb_copyFrom (I := I) (V := V) (k0 := 4) (k1 := 0) (by decide) (by decide) (by decide) hw
  have cf1 : mb_cf I V I1 V1 := mb_cp_cf (Or.inr rfl) f1 f2
  have hw1 : mb_wr I1 V1 0 (U 59) := hw.key (f1 0 (by decide)) (f2 1 (by decide) (by decide) (by decide)) (f2 2 (by decide) (by decide) (by decide)) (f2 3 (by decide) (by decide) (by decide))
  have hrsI : ∀ s, I1 53 s = I 53 s := fun s => by rw [f1 53 (by decide)]
  have h44I : ∀ s, I1 44 s = I 44 s := fun s => by rw [f1 44 (by decide)]
  rcases hop I1 V1 hw1 with ⟨w, d, ⟨I2, V2, ex, fw, w2⟩, J', U', ey, rp, fu⟩ | ⟨a, g', ⟨I2, V2, ex, ha, fw, w2, hi2⟩, J1, U1, U', ey, kp, u59, fu⟩
  · have cf2 := cf1.trans fw.cf
    obtain ⟨r9, r10, r11, r12, -, rs7, rk⟩ := rp
    refine ⟨1, gx_u (gx_u (gx_u I2 53 2 w) 53 3 d) 44 8 0, V2, o, 0, J', U', ?_, ey, r9, fun h => absurd h (by decide), ?_⟩
    · rw [mb_faceL, mb_face, e1]
      simp only [Option.bind_some]
      rw [ex]
      simp only [Option.bind_some]
      rw [f_X6_settled, if_pos rfl]
      simp only [Option.bind_some]
      rw [if_pos True.intro]
      rfl
    · have hU59 : U' 59 = U 59 := fu 59 (by decide)
      have hkI : ∀ k, k ≠ 53 → k ≠ 44 → (gx_u (gx_u (gx_u I2 53 2 w) 53 3 d) 44 8 0) k = I2 k := fun k a b => by rw [gx_u_ne b, gx_u_ne a, gx_u_ne a]
      have h44 : ∀ s, s ≠ 8 → (gx_u (gx_u (gx_u I2 53 2 w) 53 3 d) 44 8 0) 44 s = I2 44 s := fun s hs8 => by
        rw [mb_set_u, mb_set0 _ _ hs8, gx_u_ne (by decide), gx_u_ne (by decide)]
      refine h0.build ?_ ?_ ?_ (fun s hs2 => ?_) (fun k k1 k2 => ⟨?_, ?_⟩) ?_ cf2.2.2.2.2.1 cf2.2.2.2.2.2.1 ⟨fun s hs2 => rs7 s (by omega) (by omega) (by omega) (by omega), fu 61 (by decide), fu 64 (by decide), fu 65 (by decide)⟩ ⟨?_, ?_, ?_, ?_⟩ ((rs7 7 (by decide) (by decide) (by decide) (by decide)).trans h7)
      · rw [hU59]
        exact w2.key (hkI 0 (by decide) (by decide)) rfl rfl rfl
      · rw [hU59]
        exact hi
      · exact hs.key (fun k k1 k2 => ⟨(hkI k (by omega) (by omega)).trans (cf2.1 k (by omega) k2).1, (cf2.1 k (by omega) k2).2⟩) ((hkI 46 (by decide) (by decide)).trans cf2.2.2.1) (rs7 6 (by decide) (by decide) (by decide) (by decide)) (fu 60 (by decide))
      · rw [h44 s (by omega)]
        exact cf2.2.1 s (by omega)
      · rw [hkI k (by omega) (by omega)]
        exact (cf2.1 k k1 (by omega)).1
      · exact (cf2.1 k k1 (by omega)).2
      · rw [hkI 54 (by decide) (by decide), cf2.2.2.2.1]
      · rw [r10]
        rfl
      · rw [r11]
        rfl
      · rw [r12 h7]
        rfl
      · rw [h44 10 (by decide), cf2.2.1 10 (by decide), rs7 15 (by decide) (by decide) (by decide) (by decide)]
        exact rs.2.2.2
  · have cf2 := cf1.trans fw.cf
    have hs2 : mb_hs I2 V2 J U := hs.key (fun k k1 k2 => cf2.1 k (by omega) k2) cf2.2.2.1 rfl rfl
    have w42 : mb_wr I2 V2 4 (U 59) := w4.key (fw.1 4 (by decide) (by decide) (by decide)) (fw.2 5 (by decide) (by decide) (by decide) (by decide) (by decide) (by decide)) (fw.2 6 (by decide) (by decide) (by decide) (by decide) (by decide) (by decide)) (fw.2 7 (by decide) (by decide) (by decide) (by decide) (by decide) (by decide))
    obtain ⟨I3, V3, e3, p1, p2, p3⟩ := mb_push hs2 w42 hi
    have kp2 := kp
    obtain ⟨q9, qs, qk, qu, -, -⟩ := kp
    have hs3 := p3 59 J1 U1 kp2 h7 (fun _ _ => rfl)
    refine ⟨0, I3, V3, a.toInt64, a, J1, U', ?_, ey, q9, fun _ => rfl, ?_⟩
    · rw [mb_faceL, mb_face, e1]
      simp only [Option.bind_some]
      rw [ex]
      simp only [Option.bind_some]
      rw [f_X6_settled, if_neg ha, e3]
      simp only [Option.bind_some]
      rw [if_neg ha]
      rfl
    · have fu2 : ∀ k, k ≠ 59 → k ≠ 60 → k ≠ 66 → U' k = U k := fun k k1 k2 k3 => (fu k k1 k3).trans (qu k k2 k3)
      refine h0.build ?_ ?_ ?_ (fun s hs2 => ?_) (fun k k1 k2 => ⟨?_, ?_⟩) ?_ ?_ ?_ ⟨fun s hs2 => qs s (by omega) (by omega), fu2 61 (by decide) (by decide) (by decide), fu2 64 (by decide) (by decide) (by decide), fu2 65 (by decide) (by decide) (by decide)⟩ ⟨?_, ?_, ?_, ?_⟩ ((qs 7 (by decide) (by decide)).trans h7)
      · rw [u59]
        exact w2.key (p1 0 (by decide) (by decide)) (p2 1 (by decide)) (p2 2 (by decide)) (p2 3 (by decide))
      · rw [u59]
        exact hi2
      · exact hs3.key (fun _ _ _ => ⟨rfl, rfl⟩) rfl rfl (fu 60 (by decide) (by decide))
      · rw [p1 44 (by decide) (by decide)]
        exact cf2.2.1 s (by omega)
      · rw [p1 k (by omega) (by omega)]
        exact (cf2.1 k k1 (by omega)).1
      · rw [p2 k (by omega)]
        exact (cf2.1 k k1 (by omega)).2
      · rw [p1 54 (by decide) (by decide), cf2.2.2.2.1]
      · rw [p2 45 (by decide)]
        exact cf2.2.2.2.2.1
      · rw [p2 55 (by decide)]
        exact cf2.2.2.2.2.2.1
      · rw [p1 53 (by decide) (by decide), fw.1 53 (by decide) (by decide) (by decide), hrsI, qs 10 (by decide) (by decide)]
        exact rs.1
      · rw [p1 53 (by decide) (by decide), fw.1 53 (by decide) (by decide) (by decide), hrsI, qs 11 (by decide) (by decide)]
        exact rs.2.1
      · rw [p1 44 (by decide) (by decide), fw.1 44 (by decide) (by decide) (by decide), h44I, qs 12 (by decide) (by decide)]
        exact rs.2.2.1
      · rw [p1 44 (by decide) (by decide), fw.1 44 (by decide) (by decide) (by decide), h44I, qs 15 (by decide) (by decide)]
        exact rs.2.2.2
