/-! reading commands, both sides -/
noncomputable def mb_cd : Nat → Nat → gx_F → gx_F → mb_Y
  | 0, _, I, V => some (true, I, V)
  | m + 1, v, I, V => Option.bind (f_X4_readDigit (Int32.ofNat v) I V) fun q => if gx_bi q.1 = 0 then some (false, q.2.1, q.2.2) else mb_cd m (v + 1) q.2.1 q.2.2
noncomputable def mb_c7d (p : Nat) : Nat → Nat → gx_F → gx_F → mb_Y
  | 0, _, J, U => some (true, J, U)
  | m + 1, v, J, U => Option.bind (f_X7_figures (Int32.ofNat (p + 1 + v)) 1 J U) fun q => if gx_bi q.1 = 0 then some (false, q.2.1, q.2.2) else mb_c7d p m (v + 1) q.2.1 q.2.2
theorem mb_rds_L {x : Nat} (hx : x ≤ 4) : ∀ (m v n : Nat) (I V : gx_F), v + m = x → f_X4_readDigits_L1 (Int32.ofNat x) (fun uv_5 uI_6 uV_7 => (some (true, uI_6, uV_7))) (n + m + 1) (Int32.ofNat v) I V = mb_cd m v I V := by
  intro m
  induction m with
  | zero =>
    intro v n I V hm
    rw [f_X4_readDigits_L1, if_pos ((mb_le (by omega) (by omega)).mpr (by omega))]
    rfl
  | succ m ih =>
    intro v n I V hm
    rw [show n + (m + 1) + 1 = (n + m + 1) + 1 by omega, f_X4_readDigits_L1, if_neg (fun h => absurd ((mb_le (by omega) (by omega)).mp h) (by omega)), mb_cd, mb_add1]
    simp only [fun I V => ih (v + 1) n I V (by omega)]
theorem mb_rds {x : Nat} (hx : x ≤ 4) (I V : gx_F) : f_X4_readDigits (Int32.ofNat x) I V = mb_cd x 0 I V := by
  have e := mb_rds_L hx x 0 (999 - x) I V (by omega)
  rw [show 999 - x + x + 1 = 1000 by omega] at e
  exact e
/-- the numbers of a command as both have them -/
def mb_nu (c n : Nat) (V U : gx_F) : Prop := ∀ w, w < n → V 57 (4 * c + w) = U 67 (6 * c + 1 + w)
theorem mb_chain {len c : Nat} (hc : c < 30) : ∀ (m v a : Nat) (I V J U : gx_F), v + m ≤ 4 → mb_pz len a c I V J U → mb_nu c v V U → mb_pl len a c (4 * c + v) (6 * c + 1 + v) m (mb_nu c (v + m)) (mb_cd m v I V) (mb_c7d (6 * c) m v J U) I V J U := by
  intro m
  induction m with
  | zero =>
    intro v a I V J U hm h hn
    exact mb_pl.done h hn
  | succ m ih =>
    intro v a I V J U hm h hn
    rw [show m + 1 = 1 + m by omega, show v + (1 + m) = v + 1 + m by omega, show 1 + m = m + 1 by omega, mb_cd, mb_c7d]
    have hb := mb_pl.bind (d := 1) (d2 := m) (Q2 := mb_nu c (v + 1 + m)) (m4 := 4 * c + (v + 1)) (m6 := 6 * c + 1 + (v + 1)) (F := mb_cd m (v + 1)) (G := mb_c7d (6 * c) m (v + 1)) (mb_fig1 h hc (w := v) (by omega)) (by omega) (by omega) (fun I' V' J' U' a' pz fq hq => ih (v + 1) a' I' V' J' U' (by omega) pz (fun w hw => by
      by_cases e : w = v
      · rw [e]
        exact hq
      · obtain ⟨-, -, -, q4, -, -, q7⟩ := fq
        rw [q4 _ (by omega), q7 _ (by omega)]
        exact hn w (by omega)))
    rw [show 1 + m = m + 1 by omega] at hb
    exact hb
/-- quarters of a turn, star by star -/
theorem mb_stars7 {len c : Nat} (hc : c < 30) : ∀ (m q n1 n2 a : Nat) (I V J U : gx_F), q + m = 3 → mb_pz len a c I V J U → U 67 (6 * c + 3) = Int32.ofNat q →
    ∃ I' V' J' U' a', f_X4_readPlaceAndBrick_L1 (fun uv_8 uI_9 uV_10 => (Option.bind (f_X4_note 2 uv_8 uI_9 uV_10) fun uq_11 => (some (true, uq_11.1, uq_11.2)))) (n1 + m + 1) (Int32.ofNat q) I V = some (true, I', V') ∧ f_X7_layHere_L1 (Int32.ofNat (6 * c)) (fun uI_7 uV_8 => (some (true, uI_7, uV_8))) (n2 + m + 1) J U = some (true, J', U') ∧ mb_pz len a' c I' V' J' U' ∧ mb_fq (4 * c + 2) (6 * c + 3) I V J U I' V' J' U' ∧ a ≤ a' ∧ V' 57 (4 * c + 2) = U' 67 (6 * c + 3) := by
  have i3 : Int32.ofNat (6 * c) + 3 = Int32.ofNat (6 * c + 3) := (Int32.ofNat_add (6 * c) 3).symm
  have endC : ∀ (q a : Nat) (I V J U : gx_F), mb_pz len a c I V J U → U 67 (6 * c + 3) = Int32.ofNat q → ∃ I' V' J' U' a', Option.bind (f_X4_note 2 (Int32.ofNat q) I V) (fun uq_11 => (some (true, uq_11.1, uq_11.2))) = some (true, I', V') ∧ some (true, J, U) = some (true, J', U') ∧ mb_pz len a' c I' V' J' U' ∧ mb_fq (4 * c + 2) (6 * c + 3) I V J U I' V' J' U' ∧ a ≤ a' ∧ V' 57 (4 * c + 2) = U' 67 (6 * c + 3) := by
    intro q a I V J U h hq
    refine ⟨I, gx_u V 57 (4 * c + 2) (Int32.ofNat q), J, U, a, ?_, rfl, ?_, ⟨fun _ _ => rfl, fun _ _ => rfl, fun k hk => gx_u_ne hk, fun i hi => by rw [mb_set_u, mb_set0 _ _ (by omega)], fun _ _ => rfl, fun _ _ => rfl, fun _ _ => rfl⟩, Nat.le_refl _, ?_⟩
    · rw [show (2 : Int32) = Int32.ofNat 2 from rfl, mb_note h hc (by decide), Option.bind_some]
    · obtain ⟨g1, g2, g3, g4, g5, g6, g7, g8, g9⟩ := h
      exact ⟨g1, g2, g3, g4, g5, g6, g7, g8, g9⟩
    · rw [mb_set_u, mb_set1, hq]
  intro m
  induction m with
  | zero =>
    intro q n1 n2 a I V J U hm h hq
    have hq3 : q = 3 := by omega
    subst hq3
    rw [f_X4_readPlaceAndBrick_L1, if_pos (by decide), f_X7_layHere_L1, i3, mb_ck (mb_in (by omega) (by omega)), mb_tn (by omega), hq, if_pos (by decide)]
    exact endC 3 a I V J U h hq
  | succ m ih =>
    intro q n1 n2 a I V J U hm h hq
    obtain ⟨-, s0, s1⟩ := mb_skip h 42 (by decide) 0 0
    have q3 : ¬ (3 : Int32) ≤ Int32.ofNat q := mb_three q (by omega)
    have hck : gx_in (Int32.ofNat (6 * c + 3)) 186 = true := mb_in (by omega) (by omega)
    have htn : (Int32.ofNat (6 * c + 3)).toNatClampNeg = 6 * c + 3 := mb_tn (by omega)
    rw [show n1 + (m + 1) + 1 = (n1 + m + 1) + 1 by omega, show n2 + (m + 1) + 1 = (n2 + m + 1) + 1 by omega, f_X4_readPlaceAndBrick_L1, if_neg q3, f_X7_layHere_L1, i3, mb_ck hck, htn, hq, if_neg q3, mb_add1]
    by_cases hs : a < len ∧ U 64 a = 42
    · obtain ⟨e1, e2⟩ := s1 hs
      have pz1 := h.next hs.1
      rw [e1, e2]
      simp only [Option.bind_some, mb_ck hck]
      rw [if_neg mb_bt1', if_neg mb_bt1']
      have pz2 : mb_pz len (a + 1) c (gx_u I 54 3 (Int32.ofNat (a + 1))) V (gx_u J 58 19 (Int32.ofNat (a + 1))) (gx_u U 67 (6 * c + 3) (U 67 (6 * c + 3) + 1)) := by
        obtain ⟨g1, g2, g3, g4, g5, g6, g7, g8, g9⟩ := pz1
        exact ⟨g1, g2, g3, g4, g5, g6, g7, g8, g9⟩
      obtain ⟨I', V', J', U', a', e3, e4, pz3, fq, ha, hv⟩ := ih (q + 1) n1 n2 (a + 1) _ _ _ _ (by omega) pz2 (by rw [mb_set_u, mb_set1, hq, mb_add1])
      refine ⟨I', V', J', U', a', e3, e4, pz3, ?_, by omega, hv⟩
      obtain ⟨f1, f2, f3, f4, f5, f6, f7⟩ := fq
      refine ⟨fun k hk => (f1 k hk).trans (gx_u_ne hk), fun s hs2 => (f2 s hs2).trans (by rw [mb_set_u, mb_set0 _ _ hs2]), f3, f4, fun s hs2 => (f5 s hs2).trans (by rw [mb_set_u, mb_set0 _ _ hs2]), fun k hk => (f6 k hk).trans (gx_u_ne hk), fun j hj => (f7 j hj).trans (by rw [mb_set_u, mb_set0 _ _ (by omega)])⟩
    · obtain ⟨e1, e2⟩ := s0 hs
      rw [e1, e2]
      exact endC q a I V J U h hq
theorem mb_idf (Y : mb_Y) : (Option.bind Y fun q => if gx_bi q.1 = 0 then some (false, q.2.1, q.2.2) else some (true, q.2.1, q.2.2)) = Y := by
  cases Y with
  | none => rfl
  | some q =>
    obtain ⟨r, I, V⟩ := q
    cases r <;> rfl
theorem mb_id3 {α : Type} (Y : Option (α × gx_F × gx_F)) : (Option.bind Y fun q => some (q.1, q.2.1, q.2.2)) = Y := by
  cases Y <;> rfl
theorem mb_lay7 {len a c : Nat} {I V J U : gx_F} (h : mb_pz len a c I V J U) (hc : c < 30) : mb_pl len a c (4 * c) (6 * c + 1) 1 (mb_nu c 3) (f_X4_readPlaceAndBrick I V) (f_X7_layHere (Int32.ofNat (6 * c)) J U) I V J U := by
  have i1 : Int32.ofNat (6 * c) + 1 = Int32.ofNat (6 * c + 1) := mb_add1 (6 * c)
  have i2 : Int32.ofNat (6 * c) + 2 = Int32.ofNat (6 * c + 1 + 1) := (Int32.ofNat_add (6 * c) 2).symm
  have i3 : Int32.ofNat (6 * c) + 3 = Int32.ofNat (6 * c + 3) := (Int32.ofNat_add (6 * c) 3).symm
  have hck : gx_in (Int32.ofNat (6 * c + 3)) 186 = true := mb_in (by omega) (by omega)
  have htn : (Int32.ofNat (6 * c + 3)).toNatClampNeg = 6 * c + 3 := mb_tn (by omega)
  have hd := mb_pl.bind (d := 1) (d2 := 0) (Q2 := mb_nu c 3) (m4 := 4 * c + 1) (m6 := 6 * c + 1 + 1)
    (F := fun I V => Option.bind (f_X4_skip 58 I V) fun q => if gx_bi q.1 = 0 then some (false, q.2.1, q.2.2) else Option.bind (f_X4_readDigit 1 q.2.1 q.2.2) fun q => if gx_bi q.1 = 0 then some (false, q.2.1, q.2.2) else f_X4_readPlaceAndBrick_L1 (fun uv_8 uI_9 uV_10 => (Option.bind (f_X4_note 2 uv_8 uI_9 uV_10) fun uq_11 => (some (true, uq_11.1, uq_11.2)))) 1000 0 q.2.1 q.2.2)
    (G := fun J U => Option.bind (f_X7_skips 58 J U) fun q => if gx_bi q.1 = 0 then some (false, q.2.1, q.2.2) else Option.bind (f_X7_figures (Int32.ofNat (6 * c + 1 + 1)) 1 q.2.1 q.2.2) fun q => if gx_bi q.1 = 0 then some (false, q.2.1, q.2.2) else f_X7_layHere_L1 (Int32.ofNat (6 * c)) (fun uI_7 uV_8 => (some (true, uI_7, uV_8))) 1000 q.2.1 (gx_u q.2.2 67 (6 * c + 3) 0))
    (mb_fig2 h hc) (by omega) (by omega) (fun I1 V1 J1 U1 a1 pz1 fq1 hq1 => by
      refine mb_pl.bind (d := 0) (d2 := 0) (m4 := 4 * c + 1) (m6 := 6 * c + 1 + 1) (Q := fun V U => V 57 (4 * c) = U 67 (6 * c + 1)) (F := fun I V => Option.bind (f_X4_readDigit 1 I V) fun q => if gx_bi q.1 = 0 then some (false, q.2.1, q.2.2) else f_X4_readPlaceAndBrick_L1 (fun uv_8 uI_9 uV_10 => (Option.bind (f_X4_note 2 uv_8 uI_9 uV_10) fun uq_11 => (some (true, uq_11.1, uq_11.2)))) 1000 0 q.2.1 q.2.2) (G := fun J U => Option.bind (f_X7_figures (Int32.ofNat (6 * c + 1 + 1)) 1 J U) fun q => if gx_bi q.1 = 0 then some (false, q.2.1, q.2.2) else f_X7_layHere_L1 (Int32.ofNat (6 * c)) (fun uI_7 uV_8 => (some (true, uI_7, uV_8))) 1000 q.2.1 (gx_u q.2.2 67 (6 * c + 3) 0)) ?_ (Nat.le_refl _) (Nat.le_refl _) ?_
      · obtain ⟨r, I', V', J', U', a', e1, e2, pz, fq, hr⟩ := mb_skipD pz1 58 (by decide) (4 * c + 1) (6 * c + 1 + 1)
        refine ⟨r, I', V', J', U', a', e1, e2, pz, fq, fun h => ⟨by have := (hr h).1; omega, ?_⟩⟩
        obtain ⟨-, -, -, q4, -, -, q7⟩ := fq
        rw [q4 _ (by omega), q7 _ (by omega)]
        exact hq1
      · intro I2 V2 J2 U2 a2 pz2 fq2 hq2
        refine mb_pl.bind (d := 0) (d2 := 0) (m4 := 4 * c + 2) (m6 := 6 * c + 3) (Q := fun V U => V 57 (4 * c) = U 67 (6 * c + 1) ∧ V 57 (4 * c + 1) = U 67 (6 * c + 1 + 1)) (F := fun I V => f_X4_readPlaceAndBrick_L1 (fun uv_8 uI_9 uV_10 => (Option.bind (f_X4_note 2 uv_8 uI_9 uV_10) fun uq_11 => (some (true, uq_11.1, uq_11.2)))) 1000 0 I V) (G := fun J U => f_X7_layHere_L1 (Int32.ofNat (6 * c)) (fun uI_7 uV_8 => (some (true, uI_7, uV_8))) 1000 J (gx_u U 67 (6 * c + 3) 0)) ?_ (by omega) (by omega) ?_
        · obtain ⟨r, I', V', J', U', a', e1, e2, pz, fq, hr⟩ := mb_fig1 pz2 hc (w := 1) (by decide)
          refine ⟨r, I', V', J', U', a', e1, e2, pz, fq, fun h => ⟨by have := (hr h).1; omega, ?_, (hr h).2⟩⟩
          obtain ⟨-, -, -, q4, -, -, q7⟩ := fq
          rw [q4 _ (by omega), q7 _ (by omega)]
          exact hq2
        · intro I3 V3 J3 U3 a3 pz3 fq3 hq3
          have pz4 : mb_pz len a3 c I3 V3 J3 (gx_u U3 67 (6 * c + 3) 0) := by
            obtain ⟨g1, g2, g3, g4, g5, g6, g7, g8, g9⟩ := pz3
            exact ⟨g1, g2, g3, g4, g5, g6, g7, g8, g9⟩
          obtain ⟨I', V', J', U', a', e1, e2, pz5, fq, ha, hv⟩ := mb_stars7 hc 3 0 996 996 a3 I3 V3 J3 (gx_u U3 67 (6 * c + 3) 0) rfl pz4 (by rw [mb_set_u, mb_set1]; rfl)
          obtain ⟨f1, f2, f3, f4, f5, f6, f7⟩ := fq
          have f7' : ∀ j, j < 6 * c + 3 → U' 67 j = U3 67 j := fun j hj => (f7 j hj).trans (by rw [mb_set_u, mb_set0 _ _ (by omega)])
          refine ⟨true, I', V', J', U', a', e1, e2, pz5, ⟨f1, f2, f3, f4, f5, fun k hk => (f6 k hk).trans (gx_u_ne hk), f7'⟩, fun _ => ⟨by omega, fun w hw => ?_⟩⟩
          have hw3 : w = 0 ∨ w = 1 ∨ w = 2 := by omega
          rcases hw3 with rfl | rfl | rfl
          · show V' 57 (4 * c) = U' 67 (6 * c + 1)
            rw [f4 _ (by omega), f7' _ (by omega)]
            exact hq3.1
          · rw [f4 _ (by omega), f7' _ (by omega)]
            exact hq3.2
          · rw [hv])
  have e4 : f_X4_readPlaceAndBrick I V = _ := rfl
  rw [f_X7_layHere, i1, i2, i3]
  simp only [mb_ck hck, htn]
  exact hd
