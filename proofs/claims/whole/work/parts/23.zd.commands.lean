/-! commands carried out, both sides -/
theorem mb_numC {I V : gx_F} {c w : Nat} (hc : c < 30) (hw : w < 4) : f_X4_numberOf (Int32.ofNat c) (Int32.ofNat w) I V = some (V 57 (4 * c + w)) := by
  rw [f_X4_numberOf, mb_ix4 hc hw, if_neg (mb_pos (by omega)), if_neg (show ¬ (120 : Int32) ≤ Int32.ofNat (4 * c + w) from fun h => absurd ((mb_le (a := 120) (by omega) (by omega)).mp h) (by omega)), mb_ck (mb_in (by omega) (by omega)), mb_tn (by omega)]
theorem mb_carry {I V J U : gx_F} {g : Nat → Int32} {c : Nat} (hw : mb_wr I V 0 g) (hU : U 59 = g) (hi : mb_iv g) (hj : mb_jo J) (hc : c < 20) (hcr : mb_cr c V U) : mb_op g (f_X6_carryOut (Int32.ofNat c) I V) (f_X7_carries (Int32.ofNat (6 * c)) J U) I V J U := by
  obtain ⟨x, n, hx, h56, h67, hn⟩ := hcr
  have n0 : f_X4_numberOf (Int32.ofNat c) 0 I V = some (V 57 (4 * c + 0)) := mb_numC (w := 0) (by omega) (by decide)
  have n1 : f_X4_numberOf (Int32.ofNat c) 1 I V = some (V 57 (4 * c + 1)) := mb_numC (w := 1) (by omega) (by decide)
  have n2 : f_X4_numberOf (Int32.ofNat c) 2 I V = some (V 57 (4 * c + 2)) := mb_numC (w := 2) (by omega) (by decide)
  have n3 : f_X4_numberOf (Int32.ofNat c) 3 I V = some (V 57 (4 * c + 3)) := mb_numC (w := 3) (by omega) (by decide)
  have hd : f_X4_deedOf (Int32.ofNat c) I V = some (gx_chr x) := by
    rw [f_X4_deedOf, if_neg (mb_pos (by omega)), if_neg (show ¬ (30 : Int32) ≤ Int32.ofNat c from fun h => absurd ((mb_le (a := 30) (by omega) (by omega)).mp h) (by omega)), mb_ck (mb_in (by omega) (by omega)), mb_tn (by omega), h56]
  have k : ∀ j, j < 6 → gx_in (Int32.ofNat (6 * c + j)) 186 = true ∧ (Int32.ofNat (6 * c + j)).toNatClampNeg = 6 * c + j := fun j hj => ⟨mb_in (by omega) (by omega), mb_tn (by omega)⟩
  have a1 : Int32.ofNat (6 * c) + 1 = Int32.ofNat (6 * c + 1) := mb_add1 (6 * c)
  have a2 : Int32.ofNat (6 * c) + 2 = Int32.ofNat (6 * c + 2) := (Int32.ofNat_add (6 * c) 2).symm
  have a3 : Int32.ofNat (6 * c) + 3 = Int32.ofNat (6 * c + 3) := (Int32.ofNat_add (6 * c) 3).symm
  have a4 : Int32.ofNat (6 * c) + 4 = Int32.ofNat (6 * c + 4) := (Int32.ofNat_add (6 * c) 4).symm
  have c0 : gx_in (Int32.ofNat (6 * c)) 186 = true := (k 0 (by decide)).1
  have t0 : (Int32.ofNat (6 * c)).toNatClampNeg = 6 * c := (k 0 (by decide)).2
  obtain ⟨c1, t1⟩ := k 1 (by decide)
  obtain ⟨c2, t2⟩ := k 2 (by decide)
  obtain ⟨c3, t3⟩ := k 3 (by decide)
  obtain ⟨c4, t4⟩ := k 4 (by decide)
  rw [f_X6_carryOut, n0, n1, n2, n3, hd, f_X7_carries, a1, a2, a3, a4]
  simp only [Option.bind_some, mb_id3, mb_ck c0, mb_ck c1, mb_ck c2, mb_ck c3, mb_ck c4, t0, t1, t2, t3, t4, h67]
  rcases hx with ⟨rfl, rfl⟩ | ⟨rfl, rfl⟩ | ⟨rfl, rfl⟩ | ⟨rfl, rfl⟩ | ⟨rfl, rfl⟩ | ⟨rfl, rfl⟩
  · have e0 : V 57 (4 * c + 0) = U 67 (6 * c + 1) := hn 0 (by decide)
    have e1 : V 57 (4 * c + 1) = U 67 (6 * c + 2) := hn 1 (by decide)
    have e2 : V 57 (4 * c + 2) = U 67 (6 * c + 3) := hn 2 (by decide)
    have e3 : V 57 (4 * c + 3) = U 67 (6 * c + 4) := hn 3 (by decide)
    rw [show gx_chr 107 = 107 by decide, if_neg (show ¬ (107 : Int32) = 103 by decide), if_pos rfl, if_pos rfl, e0, e1, e2, e3]
    exact mb_opKind hw hU hi hj _ _ _ _
  · have e0 : V 57 (4 * c + 0) = U 67 (6 * c + 1) := hn 0 (by decide)
    have e1 : V 57 (4 * c + 1) = U 67 (6 * c + 2) := hn 1 (by decide)
    have e2 : V 57 (4 * c + 2) = U 67 (6 * c + 3) := hn 2 (by decide)
    rw [show gx_chr 108 = 108 by decide, if_neg (show ¬ (108 : Int32) = 103 by decide), if_neg (show ¬ (108 : Int32) = 107 by decide), if_neg (show ¬ (108 : Int32) = 107 by decide), if_pos rfl, if_pos rfl, e0, e1, e2]
    exact mb_opLay hw hU hi hj _ _ _
  · have e0 : V 57 (4 * c + 0) = U 67 (6 * c + 1) := hn 0 (by decide)
    have e1 : V 57 (4 * c + 1) = U 67 (6 * c + 2) := hn 1 (by decide)
    rw [show gx_chr 115 = 115 by decide, if_neg (show ¬ (115 : Int32) = 103 by decide), if_neg (show ¬ (115 : Int32) = 107 by decide), if_neg (show ¬ (115 : Int32) = 108 by decide), if_pos rfl, if_neg (show ¬ (115 : Int32) = 107 by decide), if_neg (show ¬ (115 : Int32) = 108 by decide), if_neg (show ¬ (115 : Int32) = 110 by decide), if_pos rfl, e0, e1]
    exact mb_opStr hw hU hi hj _ _
  · have e0 : V 57 (4 * c + 0) = U 67 (6 * c + 1) := hn 0 (by decide)
    rw [show gx_chr 110 = 110 by decide, if_neg (show ¬ (110 : Int32) = 103 by decide), if_neg (show ¬ (110 : Int32) = 107 by decide), if_neg (show ¬ (110 : Int32) = 108 by decide), if_neg (show ¬ (110 : Int32) = 115 by decide), if_neg (show ¬ (110 : Int32) = 116 by decide), if_neg (show ¬ (110 : Int32) = 107 by decide), if_neg (show ¬ (110 : Int32) = 108 by decide), if_pos rfl, e0]
    exact mb_opNeed hw hU hi hj _
  · have e0 : V 57 (4 * c + 0) = U 67 (6 * c + 1) := hn 0 (by decide)
    rw [show gx_chr 116 = 116 by decide, if_neg (show ¬ (116 : Int32) = 103 by decide), if_neg (show ¬ (116 : Int32) = 107 by decide), if_neg (show ¬ (116 : Int32) = 108 by decide), if_neg (show ¬ (116 : Int32) = 115 by decide), if_pos rfl, if_neg (show ¬ (116 : Int32) = 107 by decide), if_neg (show ¬ (116 : Int32) = 108 by decide), if_neg (show ¬ (116 : Int32) = 110 by decide), if_neg (show ¬ (116 : Int32) = 115 by decide), if_pos rfl, e0]
    exact mb_opTake hw hU hi hj _
  · have e0 : V 57 (4 * c + 0) = U 67 (6 * c + 1) := hn 0 (by decide)
    rw [show gx_chr 103 = 103 by decide, if_pos rfl, if_neg (show ¬ (103 : Int32) = 107 by decide), if_neg (show ¬ (103 : Int32) = 108 by decide), if_neg (show ¬ (103 : Int32) = 110 by decide), if_neg (show ¬ (103 : Int32) = 115 by decide), if_neg (show ¬ (103 : Int32) = 116 by decide), e0]
    exact mb_opGrow hw hU hi hj _
theorem mb_R.text {I V J U I' V' J' U' : gx_F} (h : mb_R I V J U) (fa : mb_fa7 I V J U I' V' J' U') (f t : Int32) : mb_R (gx_u (gx_u I' 44 10 f) 54 4 0) V' (gx_u (gx_u (gx_u J' 58 15 f) 58 14 0) 58 9 t) U' := by
  obtain ⟨hw, hi, hs, sv, rs, tx, ln, h7⟩ := h
  obtain ⟨a1, a2, a3, a4, a5⟩ := fa
  have fI : ∀ k, k ≠ 44 → k ≠ 54 → (gx_u (gx_u I' 44 10 f) 54 4 0) k = I k := fun k k1 k2 => by rw [gx_u_ne k2, gx_u_ne k1, a1 k k2]
  have f44 : ∀ s, s ≠ 10 → (gx_u (gx_u I' 44 10 f) 54 4 0) 44 s = I 44 s := fun s hs => by rw [gx_u_ne (by decide), mb_set_u, mb_set0 _ _ hs, a1 44 (by decide)]
  have js : ∀ s, s ≠ 9 → s ≠ 14 → s ≠ 15 → s ≠ 19 → s ≠ 21 → (gx_u (gx_u (gx_u J' 58 15 f) 58 14 0) 58 9 t) 58 s = J 58 s := fun s s1 s2 s3 s4 s5 => by
    rw [mb_set_u, mb_set0 _ _ s1, mb_set_u, mb_set0 _ _ s2, mb_set_u, mb_set0 _ _ s3, a4 s s4 s5]
  have e59 := a5 59 (by decide)
  refine ⟨?_, ?_, hs.key (fun k k1 k2 => ⟨fI k (by omega) (by omega), a3 k (by omega) (by omega)⟩) (fI 46 (by decide) (by decide)) (js 6 (by decide) (by decide) (by decide) (by decide) (by decide)) (a5 60 (by decide)), ?_, ⟨?_, ?_, ?_, ?_⟩, ⟨0, by decide, rfl, rfl, fun i hi => by omega⟩, ?_, (js 7 (by decide) (by decide) (by decide) (by decide) (by decide)).trans h7⟩
  · rw [e59]
    exact hw.key (fI 0 (by decide) (by decide)) (a3 1 (by decide) (by decide)) (a3 2 (by decide) (by decide)) (a3 3 (by decide) (by decide))
  · rw [e59]
    exact hi
  · unfold mb_sv
    rw [f44 3 (by decide), js 5 (by decide) (by decide) (by decide) (by decide) (by decide), a5 61 (by decide)]
    rcases sv with h | ⟨a, b, c, d⟩
    · exact Or.inl h
    · exact Or.inr ⟨a, b, c.key (fI 8 (by decide) (by decide)) (a3 9 (by decide) (by decide)) (a3 10 (by decide) (by decide)) (a3 11 (by decide) (by decide)), d⟩
  · rw [fI 53 (by decide) (by decide), js 10 (by decide) (by decide) (by decide) (by decide) (by decide)]
    exact rs.1
  · rw [fI 53 (by decide) (by decide), js 11 (by decide) (by decide) (by decide) (by decide) (by decide)]
    exact rs.2.1
  · rw [f44 8 (by decide), js 12 (by decide) (by decide) (by decide) (by decide) (by decide)]
    exact rs.2.2.1
  · rfl
  · unfold mb_ln
    rw [f44 12 (by decide), a3 45 (by decide) (by decide), js 17 (by decide) (by decide) (by decide) (by decide) (by decide), a5 65 (by decide)]
    exact ln
/-- while commands are carried out -/
def mb_W (I0 V0 J0 U0 : gx_F) (g0 : Nat → Int32) (c : Nat) (I V J U : gx_F) : Prop := mb_wr I V 0 (U 59) ∧ mb_iv (U 59) ∧ mb_wr I V 4 g0 ∧ mb_cf I0 V0 I V ∧ I 53 = I0 53 ∧ I 44 = I0 44 ∧ J 58 7 = 1 ∧ J 58 8 = Int32.ofNat c ∧ J 58 9 = 0 ∧ (∀ s, s ≠ 7 → s ≠ 8 → s ≠ 9 → J 58 s = J0 58 s) ∧ ∀ k, k ≠ 59 → k ≠ 66 → U k = U0 k
/-- a command was refused -/
def mb_Z (I0 V0 J0 U0 : gx_F) (g0 : Nat → Int32) (I V J U : gx_F) : Prop := ∃ c w d, mb_wr I V 0 g0 ∧ mb_cf I0 V0 I V ∧ I 53 2 = w ∧ I 53 3 = d ∧ I 44 8 = c ∧ J 58 9 = 1 ∧ J 58 10 = w ∧ J 58 11 = d ∧ J 58 12 = c ∧ (∀ s, s ≠ 7 → s ≠ 8 → s ≠ 9 → s ≠ 10 → s ≠ 11 → s ≠ 12 → J 58 s = J0 58 s) ∧ ∀ k, k ≠ 59 → k ≠ 66 → U k = U0 k
theorem mb_cmds_L {I0 V0 J0 U0 : gx_F} {g0 : Nat → Int32} {C : Nat} (hC : C ≤ 20) (h5 : I0 54 5 = Int32.ofNat C) (h21 : J0 58 21 = Int32.ofNat C) (hcr : ∀ c, c < C → mb_cr c V0 U0) (K : gx_F → gx_F → Option ((Int32 ⊕ Nat) × gx_F × gx_F)) (K' : Int32 → gx_F → gx_F → mb_X) : ∀ (m c n1 n2 : Nat) (got : Int32) (I V J U : gx_F), c + m = C → mb_W I0 V0 J0 U0 g0 c I V J U →
    (∃ I' V' J' U' got', f_X6_commands_L1 (fun _ I V => K I V) (n1 + m + 1) (Int32.ofNat c) I V = K I' V' ∧ f_X7_commands_L4 K' (n2 + m + 1) got J U = K' got' J' U' ∧ mb_W I0 V0 J0 U0 g0 C I' V' J' U') ∨
    (∃ I' V' J' U' got', f_X6_commands_L1 (fun _ I V => K I V) (n1 + m + 1) (Int32.ofNat c) I V = some (.inr 0, I', V') ∧ f_X7_commands_L4 K' (n2 + m + 1) got J U = K' got' J' U' ∧ mb_Z I0 V0 J0 U0 g0 I' V' J' U') := by
  intro m
  induction m with
  | zero =>
    intro c n1 n2 got I V J U hm hW
    have hcC : c = C := by omega
    subst hcC
    have hW0 := hW
    obtain ⟨w0, iv, w4, cf, e53, e44, j7, j8, j9, js, fu⟩ := hW
    have i5 : I 54 5 = Int32.ofNat c := by rw [cf.2.2.2.1]; exact h5
    have j21 : J 58 21 = Int32.ofNat c := (js 21 (by decide) (by decide) (by decide)).trans h21
    refine Or.inl ⟨I, V, J, U, got, ?_, ?_, hW0⟩
    · rw [f_X6_commands_L1, i5, if_pos ((mb_le (by omega) (by omega)).mpr (Nat.le_refl _))]
    · rw [f_X7_commands_L4, j21, j8, if_pos ((mb_le (by omega) (by omega)).mpr (Nat.le_refl _))]
  | succ m ih =>
    intro c n1 n2 got I V J U hm hW
    obtain ⟨w0, iv, w4, cf, e53, e44, j7, j8, j9, js, fu⟩ := hW
    have i5 : I 54 5 = Int32.ofNat C := by rw [cf.2.2.2.1]; exact h5
    have j21 : J 58 21 = Int32.ofNat C := (js 21 (by decide) (by decide) (by decide)).trans h21
    have hlt : ¬ Int32.ofNat C ≤ Int32.ofNat c := fun h => absurd ((mb_le (by omega) (by omega)).mp h) (by omega)
    have p6 : 6 * Int32.ofNat c = Int32.ofNat (6 * c) := by rw [show (6 : Int32) = Int32.ofNat 6 from rfl, ← Int32.ofNat_mul]
    have hcr1 : mb_cr c V U := (hcr c (by omega)).keep (C := C) (by omega) (fun i _ => by rw [cf.2.2.2.2.2.2.1]) (fun i _ => by rw [cf.2.2.2.2.2.2.2]) (fun j _ => by rw [fu 67 (by decide) (by decide)])
    have hop := mb_carry (J := J) w0 rfl iv (Or.inr j7) (by omega) hcr1
    rw [show n1 + (m + 1) + 1 = (n1 + m + 1) + 1 by omega, show n2 + (m + 1) + 1 = (n2 + m + 1) + 1 by omega, f_X6_commands_L1, i5, if_neg hlt, f_X7_commands_L4, j21, j8, if_neg hlt, if_pos j9, p6]
    rcases hop with ⟨w, d, ⟨I2, V2, ex, fw, w2⟩, J', U', ey, rp, fu2⟩ | ⟨a, g', ⟨I2, V2, ex, ha, fw, w2, hi2⟩, J1, U1, U', ey, kp, u59, fu2⟩
    · refine Or.inr ?_
      obtain ⟨r9, r10, r11, -, r12, rs7, rk⟩ := rp
      have cf2 := cf.trans fw.cf
      have w42 : mb_wr (gx_u (gx_u (gx_u I2 53 2 w) 53 3 d) 44 8 (Int32.ofNat c)) V2 4 g0 := by
        refine (w4.key (fw.1 4 (by decide) (by decide) (by decide)) (fw.2 5 (by decide) (by decide) (by decide) (by decide) (by decide) (by decide)) (fw.2 6 (by decide) (by decide) (by decide) (by decide) (by decide) (by decide)) (fw.2 7 (by decide) (by decide) (by decide) (by decide) (by decide) (by decide))).key ?_ rfl rfl rfl
        rw [gx_u_ne (by decide), gx_u_ne (by decide), gx_u_ne (by decide)]
      obtain ⟨I3, V3, e3, w03, f1, f2⟩ := mb_copyFrom (k0 := 0) (k1 := 4) (by decide) (by decide) (by decide) w42
      have e21' : J' 58 21 = Int32.ofNat C := (rs7 21 (by decide) (by decide) (by decide) (by decide)).trans j21
      have e8' : J' 58 8 = Int32.ofNat c := (rs7 8 (by decide) (by decide) (by decide) (by decide)).trans j8
      refine ⟨I3, V3, J', U', 0, ?_, ?_, ?_⟩
      · rw [ex]
        simp only [Option.bind_some]
        rw [if_pos True.intro, e3, Option.bind_some]
      · rw [ey]
        simp only [Option.bind_some]
        rw [r9, if_neg (by decide), f_X7_commands_L4, e21', e8', if_neg hlt, r9, if_neg (by decide)]
      · refine ⟨Int32.ofNat c, w, d, w03, ?_, ?_, ?_, ?_, r9, r10, r11, (r12 j7).trans j8, fun s s1 s2 s3 s4 s5 s6 => (rs7 s s3 s4 s5 s6).trans (js s s1 s2 s3), fun k k1 k2 => (fu2 k k2).trans (fu k k1 k2)⟩
        · refine (cf2.trans (?_ : mb_cf I2 V2 (gx_u (gx_u (gx_u I2 53 2 w) 53 3 d) 44 8 (Int32.ofNat c)) V2)).trans (mb_cp_cf (Or.inl rfl) f1 f2)
          refine ⟨fun k k1 k2 => ⟨?_, rfl⟩, fun s hs => ?_, ?_, ?_, rfl, rfl, rfl, rfl⟩
          · rw [gx_u_ne (by omega), gx_u_ne (by omega), gx_u_ne (by omega)]
          · rw [mb_set_u, mb_set0 _ _ hs, gx_u_ne (by decide), gx_u_ne (by decide)]
          · rw [gx_u_ne (by decide), gx_u_ne (by decide), gx_u_ne (by decide)]
          · rw [gx_u_ne (by decide), gx_u_ne (by decide), gx_u_ne (by decide)]
        · rw [f1 53 (by decide)]
          rfl
        · rw [f1 53 (by decide)]
          rfl
        · rw [f1 44 (by decide)]
          rfl
    · obtain ⟨q9, qs, qk, qu, q7, -⟩ := kp
      have q7 := q7 j7
      have cf2 := cf.trans fw.cf
      have hW2 : mb_W I0 V0 J0 U0 g0 (c + 1) I2 V2 (gx_u J1 58 8 (Int32.ofNat (c + 1))) U' := by
        have hs7 : ∀ s, s ≠ 8 → (gx_u J1 58 8 (Int32.ofNat (c + 1))) 58 s = J1 58 s := fun s hs => by rw [mb_set_u, mb_set0 _ _ hs]
        refine ⟨by rw [u59]; exact w2, by rw [u59]; exact hi2, w4.key (fw.1 4 (by decide) (by decide) (by decide)) (fw.2 5 (by decide) (by decide) (by decide) (by decide) (by decide) (by decide)) (fw.2 6 (by decide) (by decide) (by decide) (by decide) (by decide) (by decide)) (fw.2 7 (by decide) (by decide) (by decide) (by decide) (by decide) (by decide)), cf2, (fw.1 53 (by decide) (by decide) (by decide)).trans e53, (fw.1 44 (by decide) (by decide) (by decide)).trans e44, ?_, rfl, ?_, fun s s1 s2 s3 => ?_, fun k k1 k2 => ?_⟩
        · rw [hs7 7 (by decide), qs 7 (by decide) (by decide)]
          exact j7
        · rw [hs7 9 (by decide)]
          exact q9
        · rw [hs7 s s2]
          by_cases e6 : s = 6
          · rw [e6, q7.1]
            exact js 6 (by decide) (by decide) (by decide)
          · rw [qs s s3 e6]
            exact js s s1 s2 s3
        · rw [fu2 k k1 k2]
          by_cases e60 : k = 60
          · rw [e60, q7.2]
            exact fu 60 (by decide) (by decide)
          · rw [qu k e60 k2]
            exact fu k k1 k2
      have e8 : J1 58 8 + 1 = Int32.ofNat (c + 1) := by
        rw [qs 8 (by decide) (by decide), j8, mb_add1]
      rw [ex, ey]
      simp only [Option.bind_some]
      rw [if_neg ha, q9, if_pos rfl, e8, mb_add1]
      exact ih (c + 1) n1 n2 a I2 V2 _ U' (by omega) hW2
theorem mb_c26 {I V J U : gx_F} (h : mb_R I V J U) (o : Int64) : mb_AN (f_L_commands I V o) (f_X7_commands J U) := by
  obtain ⟨I1, V1, J1, U1, fa, hE⟩ := mb_read h.2.2.2.2.2.1
  rw [f_L_commands, f_X6_commands, f_X7_commands]
  rcases hE with ⟨eX, eY, C, hC1, hC, h5, h21, hcr⟩ | ⟨a, ha, eX, eY, h19⟩
  · have hR := h.text fa (-1) 0
    have j7 := hR.2.2.2.2.2.2.2
    rw [eX, eY]
    simp only [Option.bind_some]
    rw [if_neg mb_bt1', if_neg mb_bt1', mb_fails0, f_X4_clear]
    simp only [Option.bind_some]
    obtain ⟨I2, V2, e2, w4, f1, f2⟩ := mb_copyFrom (k0 := 4) (k1 := 0) (by decide) (by decide) (by decide) hR.1
    obtain ⟨U2, m2, a1, a2, a3⟩ := mb_copies (k0 := 59) (k2 := 62) (by decide) (a := 0) (b := 0) (by decide) (by decide) (by decide) (by decide) (gx_u (gx_u (gx_u J1 58 15 (-1)) 58 14 0) 58 9 0) U1
    have m2' : f_X7_copies 59 0 62 0 (gx_u (gx_u (gx_u J1 58 15 (-1)) 58 14 0) 58 9 0) U1 = some (gx_u (gx_u (gx_u J1 58 15 (-1)) 58 14 0) 58 9 0, U2) := m2
    have h62 : ∀ j, j < 87 → U2 62 j = U1 59 j := by
      intro j hj
      have x := a1 j hj
      rw [Nat.zero_add] at x
      exact x
    have u59 : U2 59 = U1 59 := a3 59 (by decide)
    have hsel : (gx_u (gx_u I1 44 10 (-1)) 54 4 0) 44 10 = -1 := rfl
    rw [if_pos hsel, e2, if_pos gx_bi_0, m2']
    simp only [Option.bind_some]
    have hW : mb_W (gx_u (gx_u I1 44 10 (-1)) 54 4 0) V1 (gx_u (gx_u (gx_u J1 58 15 (-1)) 58 14 0) 58 9 0) U2 (U1 59) 0 I2 V2 (gx_u (gx_u (gx_u (gx_u (gx_u J1 58 15 (-1)) 58 14 0) 58 9 0) 58 7 1) 58 8 0) U2 := by
      refine ⟨?_, ?_, w4, mb_cp_cf (Or.inr rfl) f1 f2, f1 53 (by decide), f1 44 (by decide), rfl, rfl, rfl, fun s s1 s2 s3 => ?_, fun _ _ _ => rfl⟩
      · rw [u59]
        exact hR.1.key (f1 0 (by decide)) (f2 1 (by decide) (by decide) (by decide)) (f2 2 (by decide) (by decide) (by decide)) (f2 3 (by decide) (by decide) (by decide))
      · rw [u59]
        exact hR.2.1
      · rw [mb_set_u, mb_set0 _ _ s2, mb_set_u, mb_set0 _ _ s1]
    have h5' : (gx_u (gx_u I1 44 10 (-1)) 54 4 0) 54 5 = Int32.ofNat C := by
      rw [mb_set_u, mb_set0 _ _ (by decide), gx_u_ne (by decide)]
      exact h5
    have hcr2 : ∀ c, c < C → mb_cr c V1 U2 := fun c hc => (hcr c hc).keep (C := C) hc (fun _ _ => rfl) (fun _ _ => rfl) (fun j _ => by rw [a3 67 (by decide)])
    rcases mb_cmds_L hC h5' (show (gx_u (gx_u (gx_u J1 58 15 (-1)) 58 14 0) 58 9 0) 58 21 = Int32.ofNat C from h21) hcr2 (fun uI_10 uV_11 => (Option.bind (f_X2_push 4 uI_10 uV_11) fun uq_12 => (some (.inl (uq_12.1 54 5), uq_12.1, uq_12.2)))) (fun uv_41 uI_42 uV_43 => (if ((gx_u uI_42 58 7 0) 58 9) ≤ 0 then (Option.bind (f_X7_keeps 62 (gx_u uI_42 58 7 0) uV_43) fun uq_44 => (some ((uq_44.1 58 21), uq_44.1, uq_44.2))) else (Option.bind (f_X7_copies 62 0 59 0 (gx_u uI_42 58 7 0) uV_43) fun uq_45 => (if uv_41 ≤ 0 then (some (uv_41, (gx_u uq_45.1 58 9 2), uq_45.2)) else (some (0, (gx_u uq_45.1 58 9 2), uq_45.2)))))) C 0 (999 - C) (999 - C) 0 I2 V2 _ U2 (by omega) hW with ⟨I3, V3, J3, U3, got, x1, x2, hW3⟩ | ⟨I3, V3, J3, U3, got, x1, x2, hZ⟩
    · rw [show 999 - C + C + 1 = 1000 by omega] at x1 x2
      have x1' : f_X6_commands_L1 (fun uv_9 uI_10 uV_11 => (Option.bind (f_X2_push 4 uI_10 uV_11) fun uq_12 => (some (.inl (uq_12.1 54 5), uq_12.1, uq_12.2)))) 1000 0 I2 V2 = _ := x1
      rw [x1', x2]
      obtain ⟨w0, iv, w43, cf, e53, e44, k7, k8, k9, ks, fu⟩ := hW3
      have hs3 : mb_hs I3 V3 (gx_u J3 58 7 0) U3 := by
        refine hR.2.2.1.key (fun k k1 k2 => cf.1 k (by omega) k2) cf.2.2.1 ?_ ?_
        · rw [mb_set_u, mb_set0 _ _ (by decide)]
          exact ks 6 (by decide) (by decide) (by decide)
        · rw [fu 60 (by decide) (by decide)]
          exact a3 60 (by decide)
      have hg0 : mb_iv (U1 59) := hR.2.1
      obtain ⟨I4, V4, e4, p1, p2, p3⟩ := mb_push hs3 w43 hg0
      obtain ⟨J5, U5, e5, kp⟩ := mb_keeps (src := 62) (Or.inr rfl) U3 (hs3.jo rfl)
      have kp2 := kp
      obtain ⟨q9, qs, qk, qu, -, -⟩ := kp
      have hs5 := p3 62 J5 U5 kp2 rfl (fun j hj => by
        rw [fu 62 (by decide) (by decide)]
        exact h62 j hj)
      have i5 : I4 54 5 = Int32.ofNat C := by
        rw [p1 54 (by decide) (by decide), cf.2.2.2.1]
        exact h5'
      have j21 : J5 58 21 = Int32.ofNat C := by
        rw [qs 21 (by decide) (by decide), mb_set_u, mb_set0 _ _ (by decide), ks 21 (by decide) (by decide) (by decide)]
        exact h21
      rw [e4]
      simp only [Option.bind_some]
      rw [if_pos (show (gx_u J3 58 7 0) 58 9 ≤ 0 by rw [show (gx_u J3 58 7 0) 58 9 = J3 58 9 from rfl, k9]; decide), e5]
      simp only [Option.bind_some]
      refine ⟨0, I4, V4, (I4 54 5).toInt64, J5 58 21, J5, U5, rfl, rfl, q9, fun _ => by rw [i5, j21], ?_⟩
      have jall : ∀ s, s ≠ 6 → s ≠ 7 → s ≠ 8 → s ≠ 9 → J5 58 s = (gx_u (gx_u (gx_u J1 58 15 (-1)) 58 14 0) 58 9 0) 58 s := fun s s1 s2 s3 s4 => by
        rw [qs s s4 s1, mb_set_u, mb_set0 _ _ s2]
        exact ks s s2 s3 s4
      have uall : ∀ k, k ≠ 59 → k ≠ 60 → k ≠ 62 → k ≠ 66 → U5 k = U1 k := fun k k1 k2 k3 k4 => (qu k k2 k4).trans ((fu k k1 k4).trans (a3 k k3))
      have e59 : U5 59 = U3 59 := qu 59 (by decide) (by decide)
      refine hR.build ?_ ?_ hs5 (fun s hs2 => ?_) (fun k k1 k2 => ⟨?_, ?_⟩) ?_ ?_ ?_ ⟨fun s hs2 => jall s (by omega) (by omega) (by omega) (by omega), uall 61 (by decide) (by decide) (by decide) (by decide), uall 64 (by decide) (by decide) (by decide) (by decide), uall 65 (by decide) (by decide) (by decide) (by decide)⟩ ⟨?_, ?_, ?_, ?_⟩ ?_
      · rw [e59]
        exact w0.key (p1 0 (by decide) (by decide)) (p2 1 (by decide)) (p2 2 (by decide)) (p2 3 (by decide))
      · rw [e59]
        exact iv
      · rw [p1 44 (by decide) (by decide), e44]
      · rw [p1 k (by omega) (by omega)]
        exact (cf.1 k k1 (by omega)).1
      · rw [p2 k (by omega)]
        exact (cf.1 k k1 (by omega)).2
      · rw [p1 54 (by decide) (by decide), cf.2.2.2.1]
      · rw [p2 45 (by decide)]
        exact cf.2.2.2.2.1
      · rw [p2 55 (by decide)]
        exact cf.2.2.2.2.2.1
      · rw [p1 53 (by decide) (by decide), e53, jall 10 (by decide) (by decide) (by decide) (by decide)]
        exact hR.2.2.2.2.1.1
      · rw [p1 53 (by decide) (by decide), e53, jall 11 (by decide) (by decide) (by decide) (by decide)]
        exact hR.2.2.2.2.1.2.1
      · rw [p1 44 (by decide) (by decide), e44, jall 12 (by decide) (by decide) (by decide) (by decide)]
        exact hR.2.2.2.2.1.2.2.1
      · rw [p1 44 (by decide) (by decide), e44, jall 15 (by decide) (by decide) (by decide) (by decide)]
        exact hR.2.2.2.2.1.2.2.2
      · rw [qs 7 (by decide) (by decide)]
        rfl
    · rw [show 999 - C + C + 1 = 1000 by omega] at x1 x2
      have x1' : f_X6_commands_L1 (fun uv_9 uI_10 uV_11 => (Option.bind (f_X2_push 4 uI_10 uV_11) fun uq_12 => (some (.inl (uq_12.1 54 5), uq_12.1, uq_12.2)))) 1000 0 I2 V2 = _ := x1
      rw [x1', x2]
      obtain ⟨c, w, d, w0, cf, i2, i3, i8, k9, k10, k11, k12, ks, fu⟩ := hZ
      obtain ⟨U5, m5, b1, b2, b3⟩ := mb_copies (k0 := 62) (k2 := 59) (by decide) (a := 0) (b := 0) (by decide) (by decide) (by decide) (by decide) (gx_u J3 58 7 0) U3
      have m5' : f_X7_copies 62 0 59 0 (gx_u J3 58 7 0) U3 = some (gx_u J3 58 7 0, U5) := m5
      have h59 : ∀ j, j < 87 → U5 59 j = U1 59 j := by
        intro j hj
        have x := b1 j hj
        rw [Nat.zero_add] at x
        rw [x, fu 62 (by decide) (by decide)]
        exact h62 j hj
      rw [if_neg (show ¬ (gx_u J3 58 7 0) 58 9 ≤ 0 by rw [show (gx_u J3 58 7 0) 58 9 = J3 58 9 from rfl, k9]; decide), m5']
      simp only [Option.bind_some]
      have jall : ∀ s, s ≠ 7 → s ≠ 8 → s ≠ 9 → s ≠ 10 → s ≠ 11 → s ≠ 12 → (gx_u (gx_u J3 58 7 0) 58 9 2) 58 s = (gx_u (gx_u (gx_u J1 58 15 (-1)) 58 14 0) 58 9 0) 58 s := fun s s1 s2 s3 s4 s5 s6 => by
        rw [mb_set_u, mb_set0 _ _ s3, mb_set_u, mb_set0 _ _ s1]
        exact ks s s1 s2 s3 s4 s5 s6
      have uall : ∀ k, k ≠ 59 → k ≠ 62 → k ≠ 66 → U5 k = U1 k := fun k k1 k2 k3 => (b3 k k1).trans ((fu k k1 k3).trans (a3 k k2))
      have hfin : mb_R I3 V3 (gx_u (gx_u J3 58 7 0) 58 9 2) U5 := by
        refine hR.build (w0.ext h59) (hR.2.1.ext h59) (hR.2.2.1.key (fun k k1 k2 => cf.1 k (by omega) k2) cf.2.2.1 (jall 6 (by decide) (by decide) (by decide) (by decide) (by decide) (by decide)) (uall 60 (by decide) (by decide) (by decide))) (fun s hs2 => cf.2.1 s (by omega)) (fun k k1 k2 => cf.1 k k1 (by omega)) (by rw [cf.2.2.2.1]) cf.2.2.2.2.1 cf.2.2.2.2.2.1 ⟨fun s hs2 => jall s (by omega) (by omega) (by omega) (by omega) (by omega) (by omega), uall 61 (by decide) (by decide) (by decide), uall 64 (by decide) (by decide) (by decide), uall 65 (by decide) (by decide) (by decide)⟩ ⟨?_, ?_, ?_, ?_⟩ rfl
        · rw [i2]
          exact k10.symm
        · rw [i3]
          exact k11.symm
        · rw [i8]
          exact k12.symm
        · rw [cf.2.1 10 (by decide), jall 15 (by decide) (by decide) (by decide) (by decide) (by decide) (by decide)]
          exact hR.2.2.2.2.1.2.2.2
      by_cases hg : got ≤ 0
      · rw [if_pos hg]
        exact ⟨2, I3, V3, o, got, _, U5, rfl, rfl, rfl, fun h => absurd h (by decide), hfin⟩
      · rw [if_neg hg]
        exact ⟨2, I3, V3, o, 0, _, U5, rfl, rfl, rfl, fun h => absurd h (by decide), hfin⟩
  · have hR := h.text fa (Int32.ofNat a) 1
    rw [eX, eY]
    simp only [Option.bind_some]
    rw [if_pos gx_bi_0, if_pos gx_bi_0, h19, mb_fails1, f_X4_clear]
    simp only [Option.bind_some]
    have hsel : ¬ (gx_u (gx_u I1 44 10 (Int32.ofNat a)) 54 4 0) 44 10 = -1 := mb_nn (by omega)
    rw [if_neg hsel, if_neg mb_bt1']
    exact ⟨1, _, V1, o, 0, _, U1, rfl, rfl, rfl, fun h => absurd h (by decide), hR⟩
