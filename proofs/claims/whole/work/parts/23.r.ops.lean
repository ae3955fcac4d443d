/-! changes of a wall, both sides -/
def mb_b (x lo hi : Int32) : Bool := if x < lo then false else if hi < x then false else true
theorem mb_in7b (x lo hi : Int32) (J U : gx_F) : f_X7_in x lo hi J U = some (mb_b x lo hi) := by
  unfold f_X7_in mb_b
  by_cases h1 : x < lo
  · rw [if_pos h1, if_pos h1]
  · rw [if_neg h1, if_neg h1]
    by_cases h2 : hi < x
    · rw [if_pos h2, if_pos h2]
    · rw [if_neg h2, if_neg h2]
theorem mb_isGlue (x : Int32) (I V : gx_F) : f_X3_isGlue x I V = some (mb_b x 0 6) := mb_in7b x 0 6 I V
theorem mb_b1 {x : Int32} {n : Nat} (hn : n < 2 ^ 31) (h : mb_b x 0 (Int32.ofNat n) = true) : ∃ p, p ≤ n ∧ x = Int32.ofNat p := by
  unfold mb_b at h
  by_cases h1 : x < 0
  · rw [if_pos h1] at h; cases h
  · rw [if_neg h1] at h
    obtain ⟨p, hp, rfl⟩ := mb_of h1
    by_cases h2 : Int32.ofNat n < Int32.ofNat p
    · rw [if_pos h2] at h; cases h
    · exact ⟨p, Nat.not_lt.mp (fun h3 => h2 ((mb_lt hn hp).mpr h3)), rfl⟩
theorem mb_b2 {p n : Nat} (hn : n < 2 ^ 31) (h : p ≤ n) : mb_b (Int32.ofNat p) 0 (Int32.ofNat n) = true := by
  unfold mb_b
  rw [if_neg (mb_pos (by omega)), if_neg (fun h2 => absurd ((mb_lt hn (by omega)).mp h2) (by omega))]
theorem mb_le_lt (x : Int32) {n : Nat} (hn : n + 1 < 2 ^ 31) : Int32.ofNat (n + 1) ≤ x ↔ Int32.ofNat n < x := by
  rw [Int32.le_iff_toInt_le, Int32.lt_iff_toInt_lt, Int32.toInt_ofNat_of_lt hn, Int32.toInt_ofNat_of_lt (by omega)]
  omega
theorem mb_isPlace6 (x : Int32) (I V : gx_F) : f_X6_isPlace x I V = some (mb_b x 0 41) := by
  unfold f_X6_isPlace mb_b
  have h : (42 : Int32) ≤ x ↔ (41 : Int32) < x := mb_le_lt x (n := 41) (by decide)
  by_cases h1 : x < 0
  · rw [if_pos h1, if_pos h1]
  · rw [if_neg h1, if_neg h1]
    by_cases h2 : (41 : Int32) < x
    · rw [if_pos h2, if_pos (h.mpr h2)]
    · rw [if_neg h2, if_neg (fun h3 => h2 (h.mp h3))]
theorem mb_isTurn6 (x : Int32) (I V : gx_F) : f_X6_isTurnOrSide x I V = some (mb_b x 0 3) := by
  unfold f_X6_isTurnOrSide mb_b
  have h : (4 : Int32) ≤ x ↔ (3 : Int32) < x := mb_le_lt x (n := 3) (by decide)
  by_cases h1 : x < 0
  · rw [if_pos h1, if_pos h1]
  · rw [if_neg h1, if_neg h1]
    by_cases h2 : (3 : Int32) < x
    · rw [if_pos h2, if_pos (h.mpr h2)]
    · rw [if_neg h2, if_neg (fun h3 => h2 (h.mp h3))]
theorem mb_isPlace7 (x : Int32) (J U : gx_F) : f_X7_isPlace x J U = some (mb_b x 0 41) := by
  rw [f_X7_isPlace, mb_in7b, Option.bind_some]
def mb_kb (g : Nat → Int32) (x : Int32) : Bool := if x < 0 then false else if g 0 ≤ x then false else true
theorem mb_kb1 {g : Nat → Int32} (hi : mb_iv g) {x : Int32} (h : mb_kb g x = true) : ∃ c, c < mb_kc g ∧ x = Int32.ofNat c := by
  obtain ⟨k1, k2⟩ := hi.kc
  unfold mb_kb at h
  rw [k2] at h
  by_cases h1 : x < 0
  · rw [if_pos h1] at h; cases h
  · rw [if_neg h1] at h
    obtain ⟨p, hp, rfl⟩ := mb_of h1
    by_cases h2 : Int32.ofNat (mb_kc g) ≤ Int32.ofNat p
    · rw [if_pos h2] at h; cases h
    · exact ⟨p, Nat.not_le.mp (fun h3 => h2 ((mb_le (by omega) hp).mpr h3)), rfl⟩
theorem mb_kb2 {g : Nat → Int32} (hi : mb_iv g) {c : Nat} (h : c < mb_kc g) : mb_kb g (Int32.ofNat c) = true := by
  obtain ⟨k1, k2⟩ := hi.kc
  unfold mb_kb
  rw [k2, if_neg (mb_pos (by omega)), if_neg (fun h2 => absurd ((mb_le (by omega) (by omega)).mp h2) (by omega))]
theorem mb_hasKind {I V : gx_F} {k : Nat} {g : Nat → Int32} (hw : mb_wr I V k g) (x : Int32) : f_X5_hasKind k x I V = some (mb_kb g x) := by
  unfold f_X5_hasKind mb_kb
  rw [hw.2.2.2.1]
  by_cases h1 : x < 0
  · rw [if_pos h1, if_pos h1]
  · rw [if_neg h1, if_neg h1]
    by_cases h2 : g 0 ≤ x
    · rw [if_pos h2, if_pos h2]
    · rw [if_neg h2, if_neg h2]
theorem mb_isKind {J U : gx_F} {g : Nat → Int32} (hU : U 59 = g) (hi : mb_iv g) (x : Int32) : f_X7_isKind x J U = some (mb_kb g x) := by
  obtain ⟨k1, k2⟩ := hi.kc
  rw [f_X7_isKind, mb_ck (by decide), mb_in7b, Option.bind_some, show (0 : Int32).toNatClampNeg = 0 from rfl, hU, k2]
  unfold mb_b mb_kb
  rw [k2]
  by_cases h1 : x < 0
  · rw [if_pos h1, if_pos h1]
  · rw [if_neg h1, if_neg h1]
    obtain ⟨p, hp, rfl⟩ := mb_of h1
    by_cases h0 : mb_kc g = 0
    · rw [h0, if_pos (Int32.lt_of_lt_of_le (show Int32.ofNat 0 - 1 < 0 by decide) (mb_ge0 hp)), if_pos (show Int32.ofNat 0 ≤ Int32.ofNat p from mb_ge0 hp)]
    · rw [mb_sub1 (by omega)]
      by_cases h2 : mb_kc g ≤ p
      · rw [if_pos ((mb_lt (by omega) hp).mpr (by omega)), if_pos ((mb_le (by omega) hp).mpr h2)]
      · rw [if_neg (fun h3 => absurd ((mb_lt (by omega) hp).mp h3) (by omega)), if_neg (fun h3 => h2 ((mb_le (by omega) hp).mp h3))]
/-- a row with one number set -/
def mb_set (g : Nat → Int32) (n : Nat) (x : Int32) : Nat → Int32 := fun j => if j = n then x else g j
theorem mb_set1 (g : Nat → Int32) (n : Nat) (x : Int32) : mb_set g n x n = x := if_pos rfl
theorem mb_set0 (g : Nat → Int32) {n j : Nat} (x : Int32) (h : j ≠ n) : mb_set g n x j = g j := if_neg h
theorem mb_set_u (F : gx_F) (k n : Nat) (x : Int32) : (gx_u F k n x) k = mb_set (F k) n x := by
  funext j
  unfold gx_u mb_set
  rw [if_pos rfl]
theorem mb_set_c (g : Nat → Int32) {n m : Nat} (x y : Int32) (h : n ≠ m) : mb_set (mb_set g n x) m y = mb_set (mb_set g m y) n x := by
  funext j
  unfold mb_set
  by_cases h1 : j = m
  · rw [if_pos h1, if_neg (by omega), if_pos h1]
  · rw [if_neg h1]
    by_cases h2 : j = n
    · rw [if_pos h2, if_pos h2]
    · rw [if_neg h2, if_neg h2, if_neg h1]
theorem mb_wr.glue {I V : gx_F} {k : Nat} {g : Nat → Int32} (hw : mb_wr I V k g) {n : Nat} (hn : n < 32) (x : Int32) : mb_wr I (gx_u V (k + 1) n x) k (mb_set g (13 + n) x) := by
  obtain ⟨w1, w2, w3, w4, w5, w6, w7, w8, w9⟩ := hw
  refine ⟨fun i hi => ?_, fun i hi => ?_, fun i hi => ?_, ?_, ?_, ?_, ?_, ?_, ?_⟩
  · rw [mb_set_u]
    by_cases h : i = n
    · rw [h, mb_set1, mb_set1]
    · rw [mb_set0 _ _ h, mb_set0 _ _ (by omega)]; exact w1 i hi
  · rw [gx_u_ne (by omega), mb_set0 _ _ (by omega)]; exact w2 i hi
  · rw [gx_u_ne (by omega), mb_set0 _ _ (by omega)]; exact w3 i hi
  all_goals (rw [mb_set0 _ _ (by omega)]; assumption)
theorem mb_wr.str {I V : gx_F} {k : Nat} {g : Nat → Int32} (hw : mb_wr I V k g) {n : Nat} (hn : n < 7) (x : Int32) : mb_wr I (gx_u V (k + 2) n x) k (mb_set g (6 + n) x) := by
  obtain ⟨w1, w2, w3, w4, w5, w6, w7, w8, w9⟩ := hw
  refine ⟨fun i hi => ?_, fun i hi => ?_, fun i hi => ?_, ?_, ?_, ?_, ?_, ?_, ?_⟩
  · rw [gx_u_ne (by omega), mb_set0 _ _ (by omega)]; exact w1 i hi
  · rw [mb_set_u]
    by_cases h : i = n
    · rw [h, mb_set1, mb_set1]
    · rw [mb_set0 _ _ h, mb_set0 _ _ (by omega)]; exact w2 i hi
  · rw [gx_u_ne (by omega), mb_set0 _ _ (by omega)]; exact w3 i hi
  all_goals (rw [mb_set0 _ _ (by omega)]; assumption)
theorem mb_wr.brk {I V : gx_F} {k : Nat} {g : Nat → Int32} (hw : mb_wr I V k g) {n : Nat} (hn : n < 42) (x : Int32) : mb_wr I (gx_u V (k + 3) n x) k (mb_set g (45 + n) x) := by
  obtain ⟨w1, w2, w3, w4, w5, w6, w7, w8, w9⟩ := hw
  refine ⟨fun i hi => ?_, fun i hi => ?_, fun i hi => ?_, ?_, ?_, ?_, ?_, ?_, ?_⟩
  · rw [gx_u_ne (by omega), mb_set0 _ _ (by omega)]; exact w1 i hi
  · rw [gx_u_ne (by omega), mb_set0 _ _ (by omega)]; exact w2 i hi
  · rw [mb_set_u]
    by_cases h : i = n
    · rw [h, mb_set1, mb_set1]
    · rw [mb_set0 _ _ h, mb_set0 _ _ (by omega)]; exact w3 i hi
  all_goals (rw [mb_set0 _ _ (by omega)]; assumption)
/-- an object's number beside the row's -/
def mb_sl (s n : Nat) : Prop := (s = 3 ∧ n = 0) ∨ (s = 4 ∧ n = 2) ∨ (s = 5 ∧ n = 1) ∨ (s = 6 ∧ n = 3) ∨ (s = 7 ∧ n = 4) ∨ (s = 8 ∧ n = 5)
theorem mb_wr.num {I V : gx_F} {k : Nat} {g : Nat → Int32} (hw : mb_wr I V k g) {s n : Nat} (h : mb_sl s n) (x : Int32) : mb_wr (gx_u I k s x) V k (mb_set g n x) := by
  obtain ⟨w1, w2, w3, w4, w5, w6, w7, w8, w9⟩ := hw
  have hn : n < 6 := by unfold mb_sl at h; omega
  refine ⟨fun i hi => ?_, fun i hi => ?_, fun i hi => ?_, ?_, ?_, ?_, ?_, ?_, ?_⟩
  · rw [mb_set0 _ _ (by omega)]; exact w1 i hi
  · rw [mb_set0 _ _ (by omega)]; exact w2 i hi
  · rw [mb_set0 _ _ (by omega)]; exact w3 i hi
  all_goals
    rw [mb_set_u]
    rcases h with ⟨rfl, rfl⟩ | ⟨rfl, rfl⟩ | ⟨rfl, rfl⟩ | ⟨rfl, rfl⟩ | ⟨rfl, rfl⟩ | ⟨rfl, rfl⟩ <;> first | rw [mb_set1, mb_set1] | (rw [mb_set0 _ _ (by omega), mb_set0 _ _ (by omega)]; assumption)
/-! a change refused or done, both sides -/
def mb_rp (w d : Int32) (J J' : gx_F) : Prop := J' 58 9 = 1 ∧ J' 58 10 = w ∧ J' 58 11 = d ∧ (J 58 7 = 0 → J' 58 12 = 0) ∧ (J 58 7 = 1 → J' 58 12 = J 58 8) ∧ (∀ s, s ≠ 9 → s ≠ 10 → s ≠ 11 → s ≠ 12 → J' 58 s = J 58 s) ∧ ∀ k, k ≠ 58 → J' k = J k
theorem mb_refuses {J : gx_F} (hj : J 58 7 = 0 ∨ J 58 7 = 1) (w d : Int32) (U : gx_F) : ∃ J', f_X7_refuses w d J U = some (0, J', U) ∧ mb_rp w d J J' := by
  have e7 : (gx_u (gx_u (gx_u J 58 9 1) 58 10 w) 58 11 d) 58 7 = J 58 7 := rfl
  have e8 : (gx_u (gx_u (gx_u J 58 9 1) 58 10 w) 58 11 d) 58 8 = J 58 8 := rfl
  have slot : ∀ y s, s ≠ 9 → s ≠ 10 → s ≠ 11 → s ≠ 12 → (gx_u (gx_u (gx_u (gx_u J 58 9 1) 58 10 w) 58 11 d) 58 12 y) 58 s = J 58 s := by
    intro y s h1 h2 h3 h4
    show (if s = 12 then y else if s = 11 then d else if s = 10 then w else if s = 9 then 1 else J 58 s) = J 58 s
    rw [if_neg h4, if_neg h3, if_neg h2, if_neg h1]
  have keys : ∀ y k, k ≠ 58 → (gx_u (gx_u (gx_u (gx_u J 58 9 1) 58 10 w) 58 11 d) 58 12 y) k = J k := by
    intro y k h
    rw [gx_u_ne h, gx_u_ne h, gx_u_ne h, gx_u_ne h]
  rw [f_X7_refuses, e7, e8]
  rcases hj with h | h
  · refine ⟨_, by rw [h, if_pos mb_boo0], rfl, rfl, rfl, fun _ => rfl, fun h2 => ?_, slot 0, keys 0⟩
    rw [h] at h2
    exact absurd h2 (by decide)
  · refine ⟨_, by rw [h, if_neg (by decide)], rfl, rfl, rfl, fun h2 => ?_, fun _ => rfl, slot (J 58 8), keys (J 58 8)⟩
    rw [h] at h2
    exact absurd h2 (by decide)
abbrev mb_X : Type := Option (Int32 × gx_F × gx_F)
def mb_ocR (g : Nat → Int32) (w d : Int32) (x : mb_X) (I V : gx_F) : Prop := ∃ I' V', x = some (-1, gx_u (gx_u I' 53 2 w) 53 3 d, V') ∧ mb_fw 0 I V I' V' ∧ mb_wr I' V' 0 g
def mb_ocA (a : Int32) (g' : Nat → Int32) (x : mb_X) (I V : gx_F) : Prop := ∃ I' V', x = some (a, I', V') ∧ a ≠ -1 ∧ mb_fw 0 I V I' V' ∧ mb_wr I' V' 0 g' ∧ mb_iv g'
def mb_omR (w d : Int32) (y : mb_X) (J U : gx_F) : Prop := ∃ J' U', y = some (0, J', U') ∧ mb_rp w d J J' ∧ ∀ k, k ≠ 66 → U' k = U k
def mb_omA (a : Int32) (g' : Nat → Int32) (y : mb_X) (J U : gx_F) : Prop := ∃ J1 U1 U', y = some (a, J1, U') ∧ mb_kp 59 J U J1 U1 ∧ U' 59 = g' ∧ ∀ k, k ≠ 59 → k ≠ 66 → U' k = U1 k
def mb_op (g : Nat → Int32) (x y : mb_X) (I V J U : gx_F) : Prop := (∃ w d, mb_ocR g w d x I V ∧ mb_omR w d y J U) ∨ ∃ a g', mb_ocA a g' x I V ∧ mb_omA a g' y J U
theorem mb_jo.two {J : gx_F} (h : mb_jo J) : J 58 7 = 0 ∨ J 58 7 = 1 := by
  rcases h with h | h
  · exact Or.inl h.1
  · exact Or.inr h
theorem mb_opR {g : Nat → Int32} {x y : mb_X} {I V J U I' V' U' : gx_F} (hj : mb_jo J) (w d : Int32) (hf : mb_fw 0 I V I' V') (hw : mb_wr I' V' 0 g) (hU : ∀ k, k ≠ 66 → U' k = U k) (hx : x = (f_X3_refuse w d I' V').bind fun q => some (q.1, q.2.1, q.2.2)) (hy : y = (f_X7_refuses w d J U').bind fun q => some (q.1, q.2.1, q.2.2)) : mb_op g x y I V J U := by
  obtain ⟨J', e, hr⟩ := mb_refuses hj.two w d U'
  refine Or.inl ⟨w, d, ⟨I', V', hx, hf, hw⟩, J', U', ?_, hr, hU⟩
  rw [hy, e, Option.bind_some]
theorem mb_opR0 {g : Nat → Int32} {x y : mb_X} {I V J U : gx_F} (hj : mb_jo J) (hw : mb_wr I V 0 g) (w d : Int32) (hx : x = (f_X3_refuse w d I V).bind fun q => some (q.1, q.2.1, q.2.2)) (hy : y = (f_X7_refuses w d J U).bind fun q => some (q.1, q.2.1, q.2.2)) : mb_op g x y I V J U :=
  mb_opR hj w d (mb_fw.refl 0 I V) hw (fun _ _ => rfl) hx hy
theorem mb_bt1' : ¬ gx_bi true = 0 := by decide
theorem mb_mul4 : ∀ k, k < 8 → (∀ i, i < 4 → gx_in (Int32.ofNat k * 4 + Int32.ofNat i) 32 = true ∧ (Int32.ofNat k * 4 + Int32.ofNat i).toNatClampNeg = 4 * k + i) ∧ (∀ i, i < 4 → gx_in (13 + 4 * Int32.ofNat k + Int32.ofNat i) 87 = true ∧ (13 + 4 * Int32.ofNat k + Int32.ofNat i).toNatClampNeg = 13 + (4 * k + i)) ∧ gx_in (Int32.ofNat k * 4) 32 = true ∧ (Int32.ofNat k * 4).toNatClampNeg = 4 * k ∧ gx_in (13 + 4 * Int32.ofNat k) 87 = true ∧ (13 + 4 * Int32.ofNat k).toNatClampNeg = 13 + 4 * k := by decide +kernel
theorem mb_kp.r59 {J U J1 U1 : gx_F} (h : mb_kp 59 J U J1 U1) : U1 59 = U 59 := h.2.2.2.1 59 (by decide) (by decide)
theorem mb_opKind {I V J U : gx_F} {g : Nat → Int32} (hw : mb_wr I V 0 g) (hU : U 59 = g) (hi : mb_iv g) (hj : mb_jo J) (a b c d : Int32) : mb_op g (f_X3_tellKind 0 a b c d I V) (f_X7_kind a b c d J U) I V J U := by
  obtain ⟨k1, k2⟩ := hi.kc
  rw [f_X3_tellKind, f_X7_kind, mb_isGlue, mb_isGlue, mb_isGlue, mb_isGlue, mb_in7b, mb_in7b, mb_in7b, mb_in7b]
  simp only [Option.bind_some]
  cases ha : mb_b a 0 6 with
  | false => exact mb_opR0 hj hw 1 0 rfl rfl
  | true =>
    rw [if_neg mb_bt1', if_neg mb_bt1']
    cases hb : mb_b b 0 6 with
    | false => exact mb_opR0 hj hw 1 0 rfl rfl
    | true =>
      rw [if_neg mb_bt1', if_neg mb_bt1']
      cases hc : mb_b c 0 6 with
      | false => exact mb_opR0 hj hw 1 0 rfl rfl
      | true =>
        rw [if_neg mb_bt1', if_neg mb_bt1']
        cases hd : mb_b d 0 6 with
        | false => exact mb_opR0 hj hw 1 0 rfl rfl
        | true =>
          rw [if_neg mb_bt1', if_neg mb_bt1', mb_ck (show gx_in 0 87 = true by decide), show (0 : Int32).toNatClampNeg = 0 from rfl, hU, k2, hw.2.2.2.1, k2]
          by_cases h8 : mb_kc g = 8
          · rw [h8]
            exact mb_opR0 hj hw 2 8 rfl rfl
          · obtain ⟨na, hna, ea⟩ := mb_b1 (n := 6) (by decide) ha
            obtain ⟨nb, hnb, eb⟩ := mb_b1 (n := 6) (by decide) hb
            obtain ⟨nc, hnc, ec⟩ := mb_b1 (n := 6) (by decide) hc
            obtain ⟨nd, hnd, ed⟩ := mb_b1 (n := 6) (by decide) hd
            obtain ⟨J1, U1, e1, kp1⟩ := mb_keeps (src := 59) (Or.inl rfl) U hj
            have r59 : U1 59 = g := kp1.r59.trans hU
            have hk8 : mb_kc g < 8 := by omega
            obtain ⟨m1, m2, m3, m4, m5, m6⟩ := mb_mul4 (mb_kc g) hk8
            have q1 := m1 1 (by omega)
            have q2 := m1 2 (by omega)
            have q3 := m1 3 (by omega)
            have p1 := m2 1 (by omega)
            have p2 := m2 2 (by omega)
            have p3 := m2 3 (by omega)
            rw [if_pos (show Int32.ofNat (mb_kc g) < 8 from (mb_lt (b := 8) (by omega) (by decide)).mpr hk8), if_neg (show ¬ Int32.ofNat (mb_kc g) = 8 from fun h => h8 ((mb_eq (b := 8) (by omega) (by decide)).mp h)), e1, Option.bind_some]
            simp only [r59, k2]
            refine Or.inr ⟨Int32.ofNat (mb_kc g), mb_set (mb_set (mb_set (mb_set (mb_set g (13 + 4 * mb_kc g) a) (13 + (4 * mb_kc g + 1)) b) (13 + (4 * mb_kc g + 2)) c) (13 + (4 * mb_kc g + 3)) d) 0 (Int32.ofNat (mb_kc g) + 1), ⟨gx_u I 0 3 (Int32.ofNat (mb_kc g) + 1), gx_u (gx_u (gx_u (gx_u V (0 + 1) (4 * mb_kc g) a) (0 + 1) (4 * mb_kc g + 1) b) (0 + 1) (4 * mb_kc g + 2) c) (0 + 1) (4 * mb_kc g + 3) d, ?_, mb_nn (by omega), ⟨fun j h1 _ _ => gx_u_ne h1, fun j h1 _ _ _ _ _ => ?_⟩, ?_, ?_⟩, J1, U1, gx_u (gx_u (gx_u (gx_u (gx_u U1 59 (13 + 4 * mb_kc g) a) 59 (13 + (4 * mb_kc g + 1)) b) 59 (13 + (4 * mb_kc g + 2)) c) 59 (13 + (4 * mb_kc g + 3)) d) 59 0 (Int32.ofNat (mb_kc g) + 1), ?_, kp1, ?_, fun k h1 _ => ?_⟩
            · rw [mb_ck m3, m4, show (1 : Int32) = Int32.ofNat 1 from rfl, show (2 : Int32) = Int32.ofNat 2 from rfl, show (3 : Int32) = Int32.ofNat 3 from rfl, mb_ck q1.1, mb_ck q2.1, mb_ck q3.1, q1.2, q2.2, q3.2]
              have e9 : (gx_u I 0 3 (Int32.ofNat (mb_kc g) + Int32.ofNat 1)) 0 3 - Int32.ofNat 1 = Int32.ofNat (mb_kc g) := by
                show Int32.ofNat (mb_kc g) + 1 - 1 = _
                rw [Int32.add_sub_cancel]
              rw [e9]
            · rw [gx_u_ne h1, gx_u_ne h1, gx_u_ne h1, gx_u_ne h1]
            · have w0 := (((hw.glue (n := 4 * mb_kc g) (by omega) a).glue (n := 4 * mb_kc g + 1) (by omega) b).glue (n := 4 * mb_kc g + 2) (by omega) c).glue (n := 4 * mb_kc g + 3) (by omega) d
              exact w0.num (Or.inl ⟨rfl, rfl⟩) _
            · obtain ⟨kc, need, a1, a2, a3, a4, a5, a6, a7, a8, a9, a10⟩ := hi
              have hkc : mb_kc g = kc := (mb_eq (by omega) (by omega)).mp (k2.symm.trans a2)
              rw [hkc] at hk8 ⊢
              have low : ∀ j y, j ≠ 0 → j < 13 ∨ 45 ≤ j → mb_set (mb_set (mb_set (mb_set (mb_set g (13 + 4 * kc) a) (13 + (4 * kc + 1)) b) (13 + (4 * kc + 2)) c) (13 + (4 * kc + 3)) d) 0 y j = g j := by
                intro j y h1 h2
                rw [mb_set0 _ _ (by omega), mb_set0 _ _ (by omega), mb_set0 _ _ (by omega), mb_set0 _ _ (by omega), mb_set0 _ _ (by omega)]
              refine ⟨kc + 1, need, by omega, ?_, a3, a4, ?_, ?_, ?_, fun i hi => ?_, fun i hi => ?_, fun p hp => ?_⟩
              · rw [mb_set1, mb_add1]
              · rw [low 2 _ (by omega) (by omega)]; exact a5
              · rw [low 1 _ (by omega) (by omega)]; exact a6
              · rw [low 6 _ (by omega) (by omega)]; exact a7
              · rw [low (6 + i) _ (by omega) (by omega)]; exact a8 i hi
              · rw [mb_set0 _ _ (by omega)]
                by_cases h3 : i = 4 * kc + 3
                · rw [h3, mb_set1]; exact ⟨nd, hnd, ed⟩
                · rw [mb_set0 _ _ (by omega)]
                  by_cases h2 : i = 4 * kc + 2
                  · rw [h2, mb_set1]; exact ⟨nc, hnc, ec⟩
                  · rw [mb_set0 _ _ (by omega)]
                    by_cases h1 : i = 4 * kc + 1
                    · rw [h1, mb_set1]; exact ⟨nb, hnb, eb⟩
                    · rw [mb_set0 _ _ (by omega)]
                      by_cases h0 : i = 4 * kc
                      · rw [h0, mb_set1]; exact ⟨na, hna, ea⟩
                      · rw [mb_set0 _ _ (by omega)]; exact a9 i hi
              · rw [low (45 + p) _ (by omega) (by omega)]
                rcases a10 p hp with h | ⟨x, hx, h⟩
                · exact Or.inl h
                · exact Or.inr ⟨x, by omega, h⟩
            · rw [mb_ck m5, m6, show (1 : Int32) = Int32.ofNat 1 from rfl, show (2 : Int32) = Int32.ofNat 2 from rfl, show (3 : Int32) = Int32.ofNat 3 from rfl, mb_ck p1.1, mb_ck p2.1, mb_ck p3.1, p1.2, p2.2, p3.2]
              simp only [mb_ck (show gx_in 0 87 = true by decide)]
              have e9 : (gx_u (gx_u (gx_u (gx_u U1 59 (13 + 4 * mb_kc g) a) 59 (13 + (4 * mb_kc g + 1)) b) 59 (13 + (4 * mb_kc g + 2)) c) 59 (13 + (4 * mb_kc g + 3)) d) 59 0 = Int32.ofNat (mb_kc g) := by
                rw [mb_set_u, mb_set_u, mb_set_u, mb_set_u, mb_set0 _ _ (by omega), mb_set0 _ _ (by omega), mb_set0 _ _ (by omega), mb_set0 _ _ (by omega), r59, k2]
              rw [e9]
              have e10 : (gx_u (gx_u (gx_u (gx_u (gx_u U1 59 (13 + 4 * mb_kc g) a) 59 (13 + (4 * mb_kc g + 1)) b) 59 (13 + (4 * mb_kc g + 2)) c) 59 (13 + (4 * mb_kc g + 3)) d) 59 0 (Int32.ofNat (mb_kc g) + Int32.ofNat 1)) 59 0 - Int32.ofNat 1 = Int32.ofNat (mb_kc g) := by
                rw [mb_set_u, mb_set1]
                exact Int32.add_sub_cancel _ _
              rw [e10]
            · rw [mb_set_u, mb_set_u, mb_set_u, mb_set_u, mb_set_u, r59]
            · rw [gx_u_ne h1, gx_u_ne h1, gx_u_ne h1, gx_u_ne h1, gx_u_ne h1]
