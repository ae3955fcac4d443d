/-! rows copied and kept, the model; walls copied and pushed, the class -/
theorem mb_87 : ∀ s, s < 87 → ¬ (87 : Int32) ≤ Int32.ofNat s := by decide +kernel
theorem mb_copies_L {k0 k2 : Nat} (hk : k0 ≠ k2) {a b : Nat} (ha : a + 87 ≤ gx_mlen k0) (hb : b + 87 ≤ gx_mlen k2) (ha2 : a < 10000) (hb2 : b < 10000) (K : Int32 → gx_F → gx_F → Option (gx_F × gx_F)) : ∀ (m s n : Nat) (J U : gx_F), s + m = 87 →
    ∃ U', f_X7_copies_L1 k0 (Int32.ofNat a) k2 (Int32.ofNat b) K (n + m + 1) (Int32.ofNat s) J U = K (Int32.ofNat 87) J U' ∧ (∀ j, s ≤ j → j < 87 → U' k2 (b + j) = U k0 (a + j)) ∧ (∀ j, (∀ i, s ≤ i → i < 87 → j ≠ b + i) → U' k2 j = U k2 j) ∧ ∀ k, k ≠ k2 → U' k = U k := by
  intro m
  induction m with
  | zero =>
    intro s n J U hm
    have hs : s = 87 := by omega
    subst hs
    refine ⟨U, ?_, fun j h1 h2 => by omega, fun _ _ => rfl, fun _ _ => rfl⟩
    rw [f_X7_copies_L1, if_pos (by decide)]
  | succ m ih =>
    intro s n J U hm
    have hs : s < 87 := by omega
    have v2 : ∀ j, (gx_u U k2 (b + s) (U k0 (a + s))) k2 j = if j = b + s then U k0 (a + s) else U k2 j := by
      intro j
      unfold gx_u
      rw [if_pos rfl]
    obtain ⟨U', e, h1, h2, h3⟩ := ih (s + 1) n J (gx_u U k2 (b + s) (U k0 (a + s))) (by omega)
    refine ⟨U', ?_, fun j h4 h5 => ?_, fun j h4 => ?_, fun k h4 => (h3 k h4).trans (gx_u_ne h4)⟩
    · rw [show n + (m + 1) + 1 = (n + m + 1) + 1 by omega, f_X7_copies_L1, if_neg (mb_87 s hs), ← Int32.ofNat_add, ← Int32.ofNat_add, mb_ck (mb_in (by omega) (by omega)), mb_ck (mb_in (by omega) (by omega)), mb_tn (by omega), mb_tn (by omega), mb_add1]
      exact e
    · by_cases e2 : j = s
      · subst e2
        rw [h2 (b + j) (fun i h6 h7 => by omega), v2, if_pos rfl]
      · rw [h1 j (by omega) h5, gx_u_ne hk]
    · rw [h2 j (fun i h6 h7 => h4 i (by omega) h7), v2, if_neg (h4 s (by omega) hs)]
theorem mb_copies {k0 k2 : Nat} (hk : k0 ≠ k2) {a b : Nat} (ha : a + 87 ≤ gx_mlen k0) (hb : b + 87 ≤ gx_mlen k2) (ha2 : a < 10000) (hb2 : b < 10000) (J U : gx_F) :
    ∃ U', f_X7_copies k0 (Int32.ofNat a) k2 (Int32.ofNat b) J U = some (J, U') ∧ (∀ j, j < 87 → U' k2 (b + j) = U k0 (a + j)) ∧ (∀ j, (j < b ∨ b + 87 ≤ j) → U' k2 j = U k2 j) ∧ ∀ k, k ≠ k2 → U' k = U k := by
  obtain ⟨U', e, h1, h2, h3⟩ := mb_copies_L hk ha hb ha2 hb2 (fun _ J U => some (J, U)) 87 0 912 J U rfl
  exact ⟨U', e, fun j hj => h1 j (Nat.zero_le _) hj, fun j hj => h2 j (fun i _ h => by omega), h3⟩
theorem mb_shift_L (K : Int32 → gx_F → gx_F → Option (gx_F × gx_F)) : ∀ (m s n : Nat) (J U : gx_F), s + m = 609 →
    ∃ U', f_X7_keeps_L1 K (n + m + 1) (Int32.ofNat s) J U = K (Int32.ofNat 609) J U' ∧ (∀ j, s ≤ j → j < 609 → U' 60 j = U 60 (j + 87)) ∧ (∀ j, (j < s ∨ 609 ≤ j) → U' 60 j = U 60 j) ∧ ∀ k, k ≠ 60 → U' k = U k := by
  intro m
  induction m with
  | zero =>
    intro s n J U hm
    have hs : s = 609 := by omega
    subst hs
    refine ⟨U, ?_, fun j h1 h2 => by omega, fun _ _ => rfl, fun _ _ => rfl⟩
    rw [f_X7_keeps_L1, if_pos (by decide)]
  | succ m ih =>
    intro s n J U hm
    have hs : s < 609 := by omega
    have v2 : ∀ j, (gx_u U 60 s (U 60 (s + 87))) 60 j = if j = s then U 60 (s + 87) else U 60 j := fun j => rfl
    obtain ⟨U', e, h1, h2, h3⟩ := ih (s + 1) n J (gx_u U 60 s (U 60 (s + 87))) (by omega)
    refine ⟨U', ?_, fun j h4 h5 => ?_, fun j h4 => ?_, fun k h4 => (h3 k h4).trans (gx_u_ne h4)⟩
    · rw [show n + (m + 1) + 1 = (n + m + 1) + 1 by omega, f_X7_keeps_L1, if_neg (show ¬ (609 : Int32) ≤ Int32.ofNat s from fun h => absurd ((mb_le (a := 609) (b := s) (by omega) (by omega)).mp h) (by omega)), show (87 : Int32) = Int32.ofNat 87 from rfl, ← Int32.ofNat_add, mb_ck (mb_in (by omega) (by omega)), mb_ck (mb_in (by omega) (by omega)), mb_tn (by omega), mb_tn (by omega), mb_add1]
      exact e
    · by_cases e2 : j = s
      · subst e2
        rw [h2 j (by omega), v2, if_pos rfl]
      · rw [h1 j (by omega) h5, v2, if_neg (by omega)]
    · rw [h2 j (by omega), v2, if_neg (by omega)]
/-- what keeping a row does -/
def mb_kp (src : Nat) (J U J1 U1 : gx_F) : Prop := J1 58 9 = 0 ∧ (∀ s, s ≠ 9 → s ≠ 6 → J1 58 s = J 58 s) ∧ (∀ k, k ≠ 58 → J1 k = J k) ∧ (∀ k, k ≠ 60 → k ≠ 66 → U1 k = U k) ∧ (J 58 7 = 1 → J1 58 6 = J 58 6 ∧ U1 60 = U 60) ∧
  (J 58 7 = 0 → ∀ n, n ≤ 8 → J 58 6 = Int32.ofNat n → (n < 8 → J1 58 6 = Int32.ofNat (n + 1) ∧ (∀ j, j < 87 * n → U1 60 j = U 60 j) ∧ ∀ j, j < 87 → U1 60 (87 * n + j) = U src j) ∧ (n = 8 → J1 58 6 = Int32.ofNat 8 ∧ (∀ j, j < 609 → U1 60 j = U 60 (j + 87)) ∧ ∀ j, j < 87 → U1 60 (609 + j) = U src j))
/-- the model's cells may keep a row -/
def mb_jo (J : gx_F) : Prop := (J 58 7 = 0 ∧ ∃ n, n ≤ 8 ∧ J 58 6 = Int32.ofNat n) ∨ J 58 7 = 1
theorem mb_keeps {src : Nat} (hs : src = 59 ∨ src = 62) {J : gx_F} (U : gx_F) (hj : mb_jo J) : ∃ J1 U1, f_X7_keeps src J U = some (J1, U1) ∧ mb_kp src J U J1 U1 := by
  have hm : gx_mlen src = 87 := by rcases hs with h | h <;> subst h <;> rfl
  have hne : src ≠ 60 := by rcases hs with h | h <;> subst h <;> decide
  have j7 : (gx_u J 58 9 0) 58 7 = J 58 7 := rfl
  have j6 : (gx_u J 58 9 0) 58 6 = J 58 6 := rfl
  rw [f_X7_keeps, j7, j6]
  rcases hj with ⟨h7, n, hn, h6⟩ | h7
  · have hno : J 58 7 ≠ 1 := by rw [h7]; decide
    rw [h7, if_pos mb_boo0, h6]
    by_cases h8 : n = 8
    · subst h8
      obtain ⟨U1, e1, a1, a2, a3⟩ := mb_shift_L (fun uv_5 uI_6 uV_7 => (Option.bind (f_X7_copies src 0 60 (87 * ((gx_u uI_6 58 6 ((uI_6 58 6) - 1)) 58 6)) (gx_u uI_6 58 6 ((uI_6 58 6) - 1)) uV_7) fun uq_8 => (some ((gx_u uq_8.1 58 6 ((uq_8.1 58 6) + 1)), uq_8.2)))) 609 0 390 (gx_u J 58 9 0) U rfl
      obtain ⟨U2, e2, b1, b2, b3⟩ := mb_copies (k0 := src) (k2 := 60) hne (a := 0) (b := 609) (by rw [hm]; omega) (by decide) (by omega) (by omega) (gx_u (gx_u J 58 9 0) 58 6 ((gx_u J 58 9 0) 58 6 - 1)) U1
      refine ⟨gx_u (gx_u (gx_u J 58 9 0) 58 6 ((gx_u J 58 9 0) 58 6 - 1)) 58 6 ((gx_u (gx_u J 58 9 0) 58 6 ((gx_u J 58 9 0) 58 6 - 1)) 58 6 + 1), U2, ?_, rfl, fun s h1 h2 => ?_, fun k h1 => ?_, fun k h1 _ => (b3 k h1).trans (a3 k h1), fun h => absurd h hno, fun _ n hn h => ?_⟩
      · rw [if_pos (show Int32.ofNat 8 = 8 from rfl)]
        refine Eq.trans e1 ?_
        show (f_X7_copies src 0 60 (87 * ((J 58 6) - 1)) (gx_u (gx_u J 58 9 0) 58 6 ((gx_u J 58 9 0) 58 6 - 1)) U1).bind _ = _
        rw [h6]
        show (f_X7_copies src (Int32.ofNat 0) 60 (Int32.ofNat 609) (gx_u (gx_u J 58 9 0) 58 6 ((gx_u J 58 9 0) 58 6 - 1)) U1).bind _ = _
        rw [e2, Option.bind_some]
      · show (if s = 6 then _ else if s = 6 then _ else if s = 9 then _ else J 58 s) = J 58 s
        rw [if_neg h2, if_neg h2, if_neg h1]
      · rw [gx_u_ne h1, gx_u_ne h1, gx_u_ne h1]
      · have := (mb_eq (by omega) (by omega)).mp (h6.symm.trans h)
        subst this
        refine ⟨fun h => by omega, fun _ => ⟨?_, fun j hj => ?_, fun j hj => ?_⟩⟩
        · show J 58 6 - 1 + 1 = Int32.ofNat 8
          rw [h6]
          decide
        · rw [b2 j (Or.inl hj), a1 j (Nat.zero_le _) hj]
        · rw [b1 j hj, a3 src hne, Nat.zero_add]
    · obtain ⟨U2, e2, b1, b2, b3⟩ := mb_copies (k0 := src) (k2 := 60) hne (a := 0) (b := 87 * n) (by rw [hm]; omega) (by show 87 * n + 87 ≤ 696; omega) (by omega) (by omega) (gx_u J 58 9 0) U
      refine ⟨gx_u (gx_u J 58 9 0) 58 6 ((gx_u J 58 9 0) 58 6 + 1), U2, ?_, rfl, fun s h1 h2 => ?_, fun k h1 => ?_, fun k h1 _ => b3 k h1, fun h => absurd h hno, fun _ n2 hn2 h => ?_⟩
      · rw [if_neg (show ¬ Int32.ofNat n = 8 from fun h => h8 ((mb_eq (b := 8) (by omega) (by omega)).mp h)), show (87 : Int32) = Int32.ofNat 87 from rfl, ← Int32.ofNat_mul]
        show (f_X7_copies src (Int32.ofNat 0) 60 (Int32.ofNat (87 * n)) (gx_u J 58 9 0) U).bind _ = _
        rw [e2, Option.bind_some]
      · show (if s = 6 then _ else if s = 9 then _ else J 58 s) = J 58 s
        rw [if_neg h2, if_neg h1]
      · rw [gx_u_ne h1, gx_u_ne h1]
      · have := (mb_eq (by omega) (by omega)).mp (h6.symm.trans h)
        subst this
        refine ⟨fun _ => ⟨?_, fun j hj => b2 j (Or.inl hj), fun j hj => ?_⟩, fun h => by omega⟩
        · show J 58 6 + 1 = Int32.ofNat (n + 1)
          rw [h6, mb_add1]
        · rw [b1 j hj, Nat.zero_add]
  · have hno : J 58 7 ≠ 0 := by rw [h7]; decide
    refine ⟨gx_u J 58 9 0, U, ?_, rfl, fun s h1 _ => ?_, fun k h1 => gx_u_ne h1, fun _ _ _ => rfl, fun _ => ⟨rfl, rfl⟩, fun h => absurd h hno⟩
    · rw [h7, if_neg (by decide)]
    · show (if s = 9 then _ else J 58 s) = J 58 s
      rw [if_neg h1]
/-- a row and another that agree in 87 places -/
theorem mb_wr.ext {I V : gx_F} {k : Nat} {g h : Nat → Int32} (e : ∀ j, j < 87 → h j = g j) (hw : mb_wr I V k g) : mb_wr I V k h := by
  obtain ⟨w1, w2, w3, w4, w5, w6, w7, w8, w9⟩ := hw
  refine ⟨fun i hi => ?_, fun i hi => ?_, fun i hi => ?_, ?_, ?_, ?_, ?_, ?_, ?_⟩
  · rw [e _ (by omega)]; exact w1 i hi
  · rw [e _ (by omega)]; exact w2 i hi
  · rw [e _ (by omega)]; exact w3 i hi
  · rw [e _ (by omega)]; exact w4
  · rw [e _ (by omega)]; exact w5
  · rw [e _ (by omega)]; exact w6
  · rw [e _ (by omega)]; exact w7
  · rw [e _ (by omega)]; exact w8
  · rw [e _ (by omega)]; exact w9
theorem mb_iv.ext {g h : Nat → Int32} (e : ∀ j, j < 87 → h j = g j) (hi : mb_iv g) : mb_iv h := by
  obtain ⟨kc, need, a1, a2, a3, a4, a5, a6, a7, a8, a9, a10⟩ := hi
  refine ⟨kc, need, a1, ?_, a3, a4, ?_, ?_, ?_, fun i hi => ?_, fun i hi => ?_, fun i hi => ?_⟩
  · rw [e _ (by omega)]; exact a2
  · rw [e _ (by omega)]; exact a5
  · rw [e _ (by omega)]; exact a6
  · rw [e _ (by omega)]; exact a7
  · rw [e _ (by omega)]; exact a8 i hi
  · rw [e _ (by omega)]; exact a9 i hi
  · rw [e _ (by omega)]; exact a10 i hi
theorem mb_wr.key {I V I' V' : gx_F} {k : Nat} {g : Nat → Int32} (hw : mb_wr I V k g) (e0 : I' k = I k) (e1 : V' (k + 1) = V (k + 1)) (e2 : V' (k + 2) = V (k + 2)) (e3 : V' (k + 3) = V (k + 3)) : mb_wr I' V' k g := by
  unfold mb_wr
  rw [e0, e1, e2, e3]
  exact hw
/-- a wall of the class copied onto another -/
theorem mb_copyFrom {I V : gx_F} {k0 k1 : Nat} (h0 : k0 % 4 = 0) (h1 : k1 % 4 = 0) (hne : k0 ≠ k1) {g : Nat → Int32} (hw : mb_wr I V k1 g) :
    ∃ I' V', f_X5_copyFrom k0 k1 I V = some (I', V') ∧ mb_wr I' V' k0 g ∧ (∀ j, j ≠ k0 → I' j = I j) ∧ ∀ j, j ≠ k0 + 1 → j ≠ k0 + 2 → j ≠ k0 + 3 → V' j = V j := by
  refine ⟨_, _, rfl, ?_, fun j hj => ?_, fun j h1 h2 h3 => ?_⟩
  · obtain ⟨w1, w2, w3, w4, w5, w6, w7, w8, w9⟩ := hw
    have hk : k1 ≠ k0 := fun h => hne h.symm
    refine ⟨fun i hi => ?_, fun i hi => ?_, fun i hi => ?_, ?_, ?_, ?_, ?_, ?_, ?_⟩
    · rw [gx_cp_ne (by omega), gx_cp_ne (by omega)]
      unfold gx_cp
      rw [if_pos rfl, if_pos (by omega), Nat.zero_add, Nat.sub_zero]
      exact w1 i hi
    · rw [gx_cp_ne (by omega)]
      unfold gx_cp
      rw [if_pos rfl, if_pos (by omega), if_neg (by omega), Nat.zero_add, Nat.sub_zero]
      exact w2 i hi
    · unfold gx_cp
      rw [if_pos rfl, if_pos (by omega), if_neg (by omega), if_neg (by omega), Nat.zero_add, Nat.sub_zero]
      exact w3 i hi
    · rw [← w4]
      simp [gx_u, hk]
    · rw [← w5]
      simp [gx_u, hk]
    · rw [← w6]
      simp [gx_u, hk]
    · rw [← w7]
      simp [gx_u, hk]
    · rw [← w8]
      simp [gx_u, hk]
    · rw [← w9]
      simp [gx_u, hk]
  · rw [gx_u_ne hj, gx_u_ne hj, gx_u_ne hj, gx_u_ne hj, gx_u_ne hj, gx_u_ne hj]
  · rw [gx_cp_ne h3, gx_cp_ne h2, gx_cp_ne h1]
