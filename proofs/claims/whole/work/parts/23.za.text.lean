/-! reading the text, sign by sign, both sides -/
def mb_pz (len a c : Nat) (I V J U : gx_F) : Prop := len ≤ 60 ∧ a ≤ len ∧ I 54 3 = Int32.ofNat a ∧ I 54 4 = Int32.ofNat len ∧ I 54 5 = Int32.ofNat c ∧ J 58 19 = Int32.ofNat a ∧ J 58 14 = Int32.ofNat len ∧ J 58 21 = Int32.ofNat c ∧ ∀ i, i < len → V 55 i = U 64 i ∧ gx_chr (U 64 i) = U 64 i
/-- of what was read, only numbers from one on have changed -/
def mb_fq (lo4 lo6 : Nat) (I V J U I' V' J' U' : gx_F) : Prop := (∀ k, k ≠ 54 → I' k = I k) ∧ (∀ s, s ≠ 3 → I' 54 s = I 54 s) ∧ (∀ k, k ≠ 57 → V' k = V k) ∧ (∀ i, i < lo4 → V' 57 i = V 57 i) ∧ (∀ s, s ≠ 19 → J' 58 s = J 58 s) ∧ (∀ k, k ≠ 67 → U' k = U k) ∧ ∀ j, j < lo6 → U' 67 j = U 67 j
theorem mb_fq.refl (lo4 lo6 : Nat) (I V J U : gx_F) : mb_fq lo4 lo6 I V J U I V J U := ⟨fun _ _ => rfl, fun _ _ => rfl, fun _ _ => rfl, fun _ _ => rfl, fun _ _ => rfl, fun _ _ => rfl, fun _ _ => rfl⟩
theorem mb_fq.trans {l4 l6 m4 m6 : Nat} {I V J U I' V' J' U' I2 V2 J2 U2 : gx_F} (h : mb_fq l4 l6 I V J U I' V' J' U') (h2 : mb_fq m4 m6 I' V' J' U' I2 V2 J2 U2) (e4 : l4 ≤ m4) (e6 : l6 ≤ m6) : mb_fq l4 l6 I V J U I2 V2 J2 U2 := by
  obtain ⟨a1, a2, a3, a4, a5, a6, a7⟩ := h
  obtain ⟨b1, b2, b3, b4, b5, b6, b7⟩ := h2
  exact ⟨fun k x => (b1 k x).trans (a1 k x), fun k x => (b2 k x).trans (a2 k x), fun k x => (b3 k x).trans (a3 k x), fun k x => (b4 k (by omega)).trans (a4 k x), fun k x => (b5 k x).trans (a5 k x), fun k x => (b6 k x).trans (a6 k x), fun k x => (b7 k (by omega)).trans (a7 k x)⟩
abbrev mb_Y : Type := Option (Bool × gx_F × gx_F)
/-- a piece of reading in step: the same answer, the same place; d signs at least where it went well -/
def mb_pl (len a c lo4 lo6 d : Nat) (Q : gx_F → gx_F → Prop) (X Y : mb_Y) (I V J U : gx_F) : Prop := ∃ r I' V' J' U' a', X = some (r, I', V') ∧ Y = some (r, J', U') ∧ mb_pz len a' c I' V' J' U' ∧ mb_fq lo4 lo6 I V J U I' V' J' U' ∧ (r = true → a + d ≤ a' ∧ Q V' U')
theorem mb_pl.bind {len a c lo4 lo6 m4 m6 d d2 : Nat} {Q Q2 : gx_F → gx_F → Prop} {X Y : mb_Y} {I V J U : gx_F} {F G : gx_F → gx_F → mb_Y} (h : mb_pl len a c lo4 lo6 d Q X Y I V J U) (e4 : lo4 ≤ m4) (e6 : lo6 ≤ m6) (h2 : ∀ I' V' J' U' a', mb_pz len a' c I' V' J' U' → mb_fq lo4 lo6 I V J U I' V' J' U' → Q V' U' → mb_pl len a' c m4 m6 d2 Q2 (F I' V') (G J' U') I' V' J' U') : mb_pl len a c lo4 lo6 (d + d2) Q2 (Option.bind X fun q => if gx_bi q.1 = 0 then some (false, q.2.1, q.2.2) else F q.2.1 q.2.2) (Option.bind Y fun q => if gx_bi q.1 = 0 then some (false, q.2.1, q.2.2) else G q.2.1 q.2.2) I V J U := by
  obtain ⟨r, I', V', J', U', a', rfl, rfl, pz, fq, hr⟩ := h
  cases r with
  | false =>
    exact ⟨false, I', V', J', U', a', rfl, rfl, pz, fq, fun h => by cases h⟩
  | true =>
    obtain ⟨h3, h4⟩ := hr rfl
    obtain ⟨r2, I2, V2, J2, U2, a2, eX, eY, pz2, fq2, hr2⟩ := h2 I' V' J' U' a' pz fq h4
    refine ⟨r2, I2, V2, J2, U2, a2, ?_, ?_, pz2, fq.trans fq2 e4 e6, fun h => ?_⟩
    · rw [← eX]
      rfl
    · rw [← eY]
      rfl
    · obtain ⟨x1, x2⟩ := hr2 h
      exact ⟨by omega, x2⟩
theorem mb_pl.done {len a c lo4 lo6 : Nat} {Q : gx_F → gx_F → Prop} {I V J U : gx_F} (h : mb_pz len a c I V J U) (hq : Q V U) : mb_pl len a c lo4 lo6 0 Q (some (true, I, V)) (some (true, J, U)) I V J U :=
  ⟨true, I, V, J, U, a, rfl, rfl, h, mb_fq.refl lo4 lo6 I V J U, fun _ => ⟨Nat.le_refl _, hq⟩⟩
theorem mb_here4 {len a c : Nat} {I V J U : gx_F} (h : mb_pz len a c I V J U) : f_X4_here I V = some (if a < len then U 64 a else 32) := by
  obtain ⟨h1, h2, h3, h4, h5, h6, h7, h8, h9⟩ := h
  rw [f_X4_here, h3, h4]
  by_cases e : a < len
  · rw [if_neg (fun h => absurd ((mb_le (by omega) (by omega)).mp h) (by omega)), if_neg (show ¬ (60 : Int32) ≤ Int32.ofNat a from fun h => absurd ((mb_le (a := 60) (by omega) (by omega)).mp h) (by omega)), mb_ck (mb_in (by omega) (by omega)), mb_tn (by omega), if_pos e, (h9 a e).1, (h9 a e).2]
  · rw [if_pos ((mb_le (by omega) (by omega)).mpr (by omega)), if_neg e]
theorem mb_here7 {len a c : Nat} {I V J U : gx_F} (h : mb_pz len a c I V J U) : f_X7_here J U = some (if a < len then U 64 a else -1) := by
  obtain ⟨h1, h2, h3, h4, h5, h6, h7, h8, h9⟩ := h
  rw [f_X7_here, h6, h7]
  by_cases e : a < len
  · rw [if_neg (fun h => absurd ((mb_le (by omega) (by omega)).mp h) (by omega)), mb_ck (mb_in (by omega) (by omega)), mb_tn (by omega), if_pos e]
  · rw [if_pos ((mb_le (by omega) (by omega)).mpr (by omega)), if_neg e]
theorem mb_pz.next {len a c : Nat} {I V J U : gx_F} (h : mb_pz len a c I V J U) (ha : a < len) : mb_pz len (a + 1) c (gx_u I 54 3 (Int32.ofNat (a + 1))) V (gx_u J 58 19 (Int32.ofNat (a + 1))) U := by
  obtain ⟨h1, h2, h3, h4, h5, h6, h7, h8, h9⟩ := h
  exact ⟨h1, ha, rfl, h4, h5, rfl, h7, h8, h9⟩
theorem mb_fq.pos (lo4 lo6 : Nat) (I V J U : gx_F) (x y : Int32) : mb_fq lo4 lo6 I V J U (gx_u I 54 3 x) V (gx_u J 58 19 y) U :=
  ⟨fun k hk => gx_u_ne hk, fun s hs => by rw [mb_set_u, mb_set0 _ _ hs], fun _ _ => rfl, fun _ _ => rfl, fun s hs => by rw [mb_set_u, mb_set0 _ _ hs], fun _ _ => rfl, fun _ _ => rfl⟩
/-- a sign skipped, that is none of those behind the text -/
theorem mb_skip {len a c : Nat} {I V J U : gx_F} (h : mb_pz len a c I V J U) (x : Int32) (hx : x ≠ 32 ∧ x ≠ -1) (lo4 lo6 : Nat) : mb_pl len a c lo4 lo6 1 (fun _ _ => a < len ∧ U 64 a = x) (f_X4_skip x I V) (f_X7_skips x J U) I V J U ∧ (¬ (a < len ∧ U 64 a = x) → f_X4_skip x I V = some (false, I, V) ∧ f_X7_skips x J U = some (false, J, U)) ∧ (a < len ∧ U 64 a = x → f_X4_skip x I V = some (true, gx_u I 54 3 (Int32.ofNat (a + 1)), V) ∧ f_X7_skips x J U = some (true, gx_u J 58 19 (Int32.ofNat (a + 1)), U)) := by
  have h4 := mb_here4 h
  have h7 := mb_here7 h
  have n1 : ¬ (a < len ∧ U 64 a = x) → f_X4_skip x I V = some (false, I, V) ∧ f_X7_skips x J U = some (false, J, U) := by
    intro hn
    rw [f_X4_skip, h4, f_X7_skips, h7, Option.bind_some, Option.bind_some]
    by_cases e : a < len
    · rw [if_pos e, if_pos e, if_neg (fun h => hn ⟨e, h⟩), if_neg (fun h => hn ⟨e, h⟩)]
      exact ⟨rfl, rfl⟩
    · rw [if_neg e, if_neg e, if_neg (fun h => hx.1 h.symm), if_neg (fun h => hx.2 h.symm)]
      exact ⟨rfl, rfl⟩
  have n2 : a < len ∧ U 64 a = x → f_X4_skip x I V = some (true, gx_u I 54 3 (Int32.ofNat (a + 1)), V) ∧ f_X7_skips x J U = some (true, gx_u J 58 19 (Int32.ofNat (a + 1)), U) := by
    intro hy
    obtain ⟨g1, g2, g3, g4, g5, g6, -⟩ := h
    rw [f_X4_skip, h4, f_X7_skips, h7, Option.bind_some, Option.bind_some, if_pos hy.1, if_pos hy.1, if_pos hy.2, if_pos hy.2, g3, g6, mb_add1]
    exact ⟨rfl, rfl⟩
  refine ⟨?_, n1, n2⟩
  by_cases hy : a < len ∧ U 64 a = x
  · obtain ⟨e1, e2⟩ := n2 hy
    exact ⟨true, _, _, _, _, a + 1, e1, e2, h.next hy.1, mb_fq.pos lo4 lo6 I V J U _ _, fun _ => ⟨Nat.le_refl _, hy⟩⟩
  · obtain ⟨e1, e2⟩ := n1 hy
    exact ⟨false, I, V, J, U, a, e1, e2, h, mb_fq.refl lo4 lo6 I V J U, fun h => by cases h⟩
theorem mb_skipD {len a c : Nat} {I V J U : gx_F} (h : mb_pz len a c I V J U) (x : Int32) (hx : x ≠ 32 ∧ x ≠ -1) (lo4 lo6 : Nat) : mb_pl len a c lo4 lo6 1 (fun _ _ => True) (f_X4_skip x I V) (f_X7_skips x J U) I V J U := by
  obtain ⟨⟨r, I', V', J', U', a', e1, e2, pz, fq, hr⟩, -⟩ := mb_skip h x hx lo4 lo6
  exact ⟨r, I', V', J', U', a', e1, e2, pz, fq, fun h => ⟨(hr h).1, trivial⟩⟩
/-- a figure at a place, or none -/
def mb_dg (U : gx_F) (len a : Nat) : Prop := a < len ∧ 48 ≤ U 64 a ∧ U 64 a ≤ 57
theorem mb_ix4 {c w : Nat} (hc : c < 30) (hw : w < 4) : Int32.ofNat c * 4 + Int32.ofNat w = Int32.ofNat (4 * c + w) := (mb_brk_of c w).1
theorem mb_note {len a c : Nat} {I V J U : gx_F} (h : mb_pz len a c I V J U) (hc : c < 30) {w : Nat} (hw : w < 4) (x : Int32) : f_X4_note (Int32.ofNat w) x I V = some (I, gx_u V 57 (4 * c + w) x) := by
  obtain ⟨h1, h2, h3, h4, h5, -⟩ := h
  rw [f_X4_note, h5, mb_ix4 hc hw, if_neg (mb_pos (by omega)), if_neg (show ¬ (120 : Int32) ≤ Int32.ofNat (4 * c + w) from fun h => absurd ((mb_le (a := 120) (by omega) (by omega)).mp h) (by omega)), mb_ck (mb_in (by omega) (by omega)), mb_tn (by omega)]
theorem mb_rd {len a c : Nat} {I V J U : gx_F} (h : mb_pz len a c I V J U) (hc : c < 30) {w : Nat} (hw : w < 4) : (¬ mb_dg U len a → f_X4_readDigit (Int32.ofNat w) I V = some (false, I, V)) ∧ (mb_dg U len a → f_X4_readDigit (Int32.ofNat w) I V = some (true, gx_u I 54 3 (Int32.ofNat (a + 1)), gx_u V 57 (4 * c + w) (U 64 a - 48))) := by
  have h4 := mb_here4 h
  have h3 := h.2.2.1
  rw [f_X4_readDigit, h4, Option.bind_some]
  constructor
  · intro hn
    by_cases e : a < len
    · rw [if_pos e]
      by_cases e1 : U 64 a < 48
      · rw [if_pos e1]
      · rw [if_neg e1, if_neg (fun h => hn ⟨e, Int32.not_lt.mp e1, h⟩)]
    · rw [if_neg e]
      rfl
  · rintro ⟨e, e1, e2⟩
    rw [if_pos e, if_neg (Int32.not_lt.mpr e1), if_pos e2, mb_note h hc hw, Option.bind_some]
    show some (true, gx_u I 54 3 (I 54 3 + 1), _) = _
    rw [h3, mb_add1]
theorem mb_inF {len a c : Nat} {I V J U : gx_F} (h : mb_pz len a c I V J U) : f_X7_in (if a < len then U 64 a else -1) 48 57 J U = some (mb_b (if a < len then U 64 a else -1) 48 57) ∧ (mb_b (if a < len then U 64 a else -1) 48 57 = true ↔ mb_dg U len a) := by
  refine ⟨mb_in7b _ _ _ J U, ?_⟩
  unfold mb_b mb_dg
  by_cases e : a < len
  · rw [if_pos e]
    by_cases e1 : U 64 a < 48
    · rw [if_pos e1]
      exact ⟨(fun h => by cases h), fun h => absurd h.2.1 (Int32.not_le.mpr e1)⟩
    · rw [if_neg e1]
      by_cases e2 : 57 < U 64 a
      · rw [if_pos e2]
        exact ⟨(fun h => by cases h), fun h => absurd h.2.2 (Int32.not_le.mpr e2)⟩
      · rw [if_neg e2]
        exact ⟨fun _ => ⟨e, Int32.not_lt.mp e1, Int32.not_lt.mp e2⟩, fun _ => rfl⟩
  · rw [if_neg e]
    exact ⟨fun h => absurd h (by decide), fun h => absurd h.1 e⟩
theorem mb_set2 (F : gx_F) (k n : Nat) (x y : Int32) : (gx_u (gx_u F k n x) k n y) k = mb_set (F k) n y := by
  rw [mb_set_u, mb_set_u]
  funext j
  unfold mb_set
  by_cases h : j = n
  · rw [if_pos h, if_pos h]
  · rw [if_neg h, if_neg h, if_neg h]
theorem mb_d0 (x : Int32) : 10 * 0 + x - 48 = x - 48 := by rw [Int32.mul_zero, Int32.zero_add]
/-- one figure -/
theorem mb_fig1 {len a c : Nat} {I V J U : gx_F} (h : mb_pz len a c I V J U) (hc : c < 30) {w : Nat} (hw : w < 4) : mb_pl len a c (4 * c + w) (6 * c + 1 + w) 1 (fun V U => V 57 (4 * c + w) = U 67 (6 * c + 1 + w)) (f_X4_readDigit (Int32.ofNat w) I V) (f_X7_figures (Int32.ofNat (6 * c + 1 + w)) 1 J U) I V J U := by
  obtain ⟨r1, r2⟩ := mb_rd h hc hw
  obtain ⟨i1, i2⟩ := mb_inF h
  have h7 := mb_here7 h
  by_cases hd : mb_dg U len a
  · have hb := i2.mpr hd
    rw [r2 hd]
    have pz0 : mb_pz len a c I V J (gx_u U 67 (6 * c + 1 + w) 0) := by
      obtain ⟨g1, g2, g3, g4, g5, g6, g7, g8, g9⟩ := h
      exact ⟨g1, g2, g3, g4, g5, g6, g7, g8, g9⟩
    have h70 := mb_here7 pz0
    rw [gx_u_ne (show (64 : Nat) ≠ 67 by decide)] at h70
    obtain ⟨i10, i20⟩ := mb_inF pz0
    rw [gx_u_ne (show (64 : Nat) ≠ 67 by decide)] at i10
    have hg : (gx_u U 67 (6 * c + 1 + w) 0) 67 (6 * c + 1 + w) = 0 := by rw [mb_set_u, mb_set1]
    have e7 : f_X7_figures (Int32.ofNat (6 * c + 1 + w)) 1 J U = some (true, gx_u J 58 19 (Int32.ofNat (a + 1)), gx_u (gx_u U 67 (6 * c + 1 + w) 0) 67 (6 * c + 1 + w) (U 64 a - 48)) := by
      rw [f_X7_figures, h7, Option.bind_some, i1, Option.bind_some, hb, if_neg mb_bt1', mb_ck (mb_in (by omega) (by omega)), mb_tn (by omega), f_X7_figures_L1, if_neg (show ¬ (1 : Int32) ≤ 0 by decide), h70, Option.bind_some, i10, Option.bind_some, hb, if_neg mb_bt1', mb_ck (mb_in (by omega) (by omega)), Option.bind_some, mb_ck (mb_in (by omega) (by omega)), mb_tn (by omega), f_X7_figures_L1, if_pos (by decide), hg, if_pos hd.1, mb_d0, h.2.2.2.2.2.1, mb_add1]
    rw [e7]
    have n0 : mb_pz len (a + 1) c (gx_u I 54 3 (Int32.ofNat (a + 1))) V (gx_u J 58 19 (Int32.ofNat (a + 1))) U := h.next hd.1
    refine ⟨true, _, _, _, _, a + 1, rfl, rfl, ?_, ⟨fun k hk => gx_u_ne hk, fun s hs => by rw [mb_set_u, mb_set0 _ _ hs], fun k hk => gx_u_ne hk, fun i hi => by rw [mb_set_u, mb_set0 _ _ (by omega)], fun s hs => by rw [mb_set_u, mb_set0 _ _ hs], fun k hk => by rw [gx_u_ne hk, gx_u_ne hk], fun j hj => by rw [mb_set2, mb_set0 _ _ (by omega)]⟩, fun _ => ⟨Nat.le_refl _, ?_⟩⟩
    · obtain ⟨g1, g2, g3, g4, g5, g6, g7, g8, g9⟩ := n0
      exact ⟨g1, g2, g3, g4, g5, g6, g7, g8, g9⟩
    · show (gx_u V 57 (4 * c + w) (U 64 a - 48)) 57 (4 * c + w) = (gx_u (gx_u U 67 (6 * c + 1 + w) 0) 67 (6 * c + 1 + w) (U 64 a - 48)) 67 (6 * c + 1 + w)
      rw [mb_set_u, mb_set1, mb_set2, mb_set1]
  · have hb : mb_b (if a < len then U 64 a else -1) 48 57 = false := by
      cases hx : mb_b (if a < len then U 64 a else -1) 48 57 with
      | false => rfl
      | true => exact absurd (i2.mp hx) hd
    rw [r1 hd]
    refine ⟨false, I, V, J, U, a, rfl, ?_, h, mb_fq.refl _ _ I V J U, fun h => by cases h⟩
    rw [f_X7_figures, h7, Option.bind_some, i1, Option.bind_some, hb, if_pos gx_bi_0]
theorem mb_numOf {len a c : Nat} {I V J U : gx_F} (h : mb_pz len a c I V J U) (hc : c < 30) {w : Nat} (hw : w < 4) : f_X4_numberOf (I 54 5) (Int32.ofNat w) I V = some (V 57 (4 * c + w)) := by
  rw [f_X4_numberOf, h.2.2.2.2.1, mb_ix4 hc hw, if_neg (mb_pos (by omega)), if_neg (show ¬ (120 : Int32) ≤ Int32.ofNat (4 * c + w) from fun h => absurd ((mb_le (a := 120) (by omega) (by omega)).mp h) (by omega)), mb_ck (mb_in (by omega) (by omega)), mb_tn (by omega)]
theorem mb_numOf0 {len a c : Nat} {I V J U : gx_F} (h : mb_pz len a c I V J U) (hc : c < 30) : f_X4_numberOf (I 54 5) 0 I V = some (V 57 (4 * c)) := mb_numOf h hc (w := 0) (by decide)
theorem mb_asub (x y z : Int32) : x + y - z = x + (y - z) := by
  rw [Int32.sub_eq_add_neg, Int32.sub_eq_add_neg, Int32.add_assoc]
/-- a number of one figure or two -/
theorem mb_fig2 {len a c : Nat} {I V J U : gx_F} (h : mb_pz len a c I V J U) (hc : c < 30) : mb_pl len a c (4 * c) (6 * c + 1) 1 (fun V U => V 57 (4 * c) = U 67 (6 * c + 1)) (f_X4_readNumber 0 I V) (f_X7_figures (Int32.ofNat (6 * c + 1)) 2 J U) I V J U := by
  obtain ⟨r1, r2⟩ := mb_rd h hc (w := 0) (by decide)
  obtain ⟨i1, i2⟩ := mb_inF h
  have h7 := mb_here7 h
  by_cases hd : mb_dg U len a
  · have hb := i2.mpr hd
    have r2' : f_X4_readDigit 0 I V = some (true, gx_u I 54 3 (Int32.ofNat (a + 1)), gx_u V 57 (4 * c) (U 64 a - 48)) := r2 hd
    have pz0 : mb_pz len a c I V J (gx_u U 67 (6 * c + 1) 0) := by
      obtain ⟨g1, g2, g3, g4, g5, g6, g7, g8, g9⟩ := h
      exact ⟨g1, g2, g3, g4, g5, g6, g7, g8, g9⟩
    have h70 := mb_here7 pz0
    rw [gx_u_ne (show (64 : Nat) ≠ 67 by decide)] at h70
    obtain ⟨i10, i20⟩ := mb_inF pz0
    rw [gx_u_ne (show (64 : Nat) ≠ 67 by decide)] at i10
    have hg : (gx_u U 67 (6 * c + 1) 0) 67 (6 * c + 1) = 0 := by rw [mb_set_u, mb_set1]
    have pz1 : mb_pz len (a + 1) c (gx_u I 54 3 (Int32.ofNat (a + 1))) (gx_u V 57 (4 * c) (U 64 a - 48)) (gx_u J 58 19 (Int32.ofNat (a + 1))) (gx_u (gx_u U 67 (6 * c + 1) 0) 67 (6 * c + 1) (U 64 a - 48)) := by
      obtain ⟨g1, g2, g3, g4, g5, g6, g7, g8, g9⟩ := h.next hd.1
      exact ⟨g1, g2, g3, g4, g5, g6, g7, g8, g9⟩
    have u64 : (gx_u (gx_u U 67 (6 * c + 1) 0) 67 (6 * c + 1) (U 64 a - 48)) 64 = U 64 := by rw [gx_u_ne (by decide), gx_u_ne (by decide)]
    have e7 : f_X7_figures (Int32.ofNat (6 * c + 1)) 2 J U = f_X7_figures_L1 (Int32.ofNat (6 * c + 1)) 2 (fun uv_9 uI_10 uV_11 => (some (true, uI_10, uV_11))) 999 1 (gx_u J 58 19 (Int32.ofNat (a + 1))) (gx_u (gx_u U 67 (6 * c + 1) 0) 67 (6 * c + 1) (U 64 a - 48)) := by
      rw [f_X7_figures, h7, Option.bind_some, i1, Option.bind_some, hb, if_neg mb_bt1', mb_ck (mb_in (by omega) (by omega)), mb_tn (by omega), f_X7_figures_L1, if_neg (show ¬ (2 : Int32) ≤ 0 by decide), h70, Option.bind_some, i10, Option.bind_some, hb, if_neg mb_bt1', mb_ck (mb_in (by omega) (by omega)), Option.bind_some, mb_ck (mb_in (by omega) (by omega)), mb_tn (by omega), hg, if_pos hd.1, mb_d0, h.2.2.2.2.2.1, mb_add1]
      rfl
    have h71 := mb_here7 pz1
    obtain ⟨i11, i21⟩ := mb_inF pz1
    obtain ⟨q1, q2⟩ := mb_rd pz1 hc (w := 0) (by decide)
    have num1 := mb_numOf0 pz1 hc
    have num1' : f_X4_numberOf ((gx_u I 54 3 (Int32.ofNat (a + 1))) 54 5) 0 (gx_u I 54 3 (Int32.ofNat (a + 1))) (gx_u V 57 (4 * c) (U 64 a - 48)) = some (U 64 a - 48) := by
      refine Eq.trans num1 ?_
      rw [mb_set_u, mb_set1]
    rw [f_X4_readNumber, r2', Option.bind_some, if_neg (show ¬ gx_bi (true, gx_u I 54 3 (Int32.ofNat (a + 1)), gx_u V 57 (4 * c) (U 64 a - 48)).1 = 0 from mb_bt1')]
    show mb_pl len a c (4 * c) (6 * c + 1) 1 _ (Option.bind (f_X4_numberOf ((gx_u I 54 3 (Int32.ofNat (a + 1))) 54 5) 0 (gx_u I 54 3 (Int32.ofNat (a + 1))) (gx_u V 57 (4 * c) (U 64 a - 48))) _) _ I V J U
    rw [num1', Option.bind_some, e7, f_X7_figures_L1, if_neg (show ¬ (2 : Int32) ≤ 1 by decide), h71, Option.bind_some, i11, Option.bind_some]
    by_cases hd1 : mb_dg (gx_u (gx_u U 67 (6 * c + 1) 0) 67 (6 * c + 1) (U 64 a - 48)) len (a + 1)
    · have hb1 := i21.mpr hd1
      have q2' : f_X4_readDigit 0 (gx_u I 54 3 (Int32.ofNat (a + 1))) (gx_u V 57 (4 * c) (U 64 a - 48)) = some (true, gx_u (gx_u I 54 3 (Int32.ofNat (a + 1))) 54 3 (Int32.ofNat (a + 1 + 1)), gx_u (gx_u V 57 (4 * c) (U 64 a - 48)) 57 (4 * c) (U 64 (a + 1) - 48)) := by
        have x := q2 hd1
        rw [u64] at x
        exact x
      have pz2 : mb_pz len (a + 1 + 1) c (gx_u (gx_u I 54 3 (Int32.ofNat (a + 1))) 54 3 (Int32.ofNat (a + 1 + 1))) (gx_u (gx_u V 57 (4 * c) (U 64 a - 48)) 57 (4 * c) (U 64 (a + 1) - 48)) (gx_u (gx_u J 58 19 (Int32.ofNat (a + 1))) 58 19 (Int32.ofNat (a + 1 + 1))) (gx_u (gx_u U 67 (6 * c + 1) 0) 67 (6 * c + 1) (U 64 a - 48)) := by
        obtain ⟨g1, g2, g3, g4, g5, g6, g7, g8, g9⟩ := pz1.next hd1.1
        exact ⟨g1, g2, g3, g4, g5, g6, g7, g8, g9⟩
      have num2 : f_X4_numberOf ((gx_u (gx_u I 54 3 (Int32.ofNat (a + 1))) 54 3 (Int32.ofNat (a + 1 + 1))) 54 5) 0 (gx_u (gx_u I 54 3 (Int32.ofNat (a + 1))) 54 3 (Int32.ofNat (a + 1 + 1))) (gx_u (gx_u V 57 (4 * c) (U 64 a - 48)) 57 (4 * c) (U 64 (a + 1) - 48)) = some (U 64 (a + 1) - 48) := by
        refine Eq.trans (mb_numOf0 pz2 hc) ?_
        rw [mb_set_u, mb_set1]
      have note2 : f_X4_note 0 (10 * (U 64 a - 48) + (U 64 (a + 1) - 48)) (gx_u (gx_u I 54 3 (Int32.ofNat (a + 1))) 54 3 (Int32.ofNat (a + 1 + 1))) (gx_u (gx_u V 57 (4 * c) (U 64 a - 48)) 57 (4 * c) (U 64 (a + 1) - 48)) = some (gx_u (gx_u I 54 3 (Int32.ofNat (a + 1))) 54 3 (Int32.ofNat (a + 1 + 1)), gx_u (gx_u (gx_u V 57 (4 * c) (U 64 a - 48)) 57 (4 * c) (U 64 (a + 1) - 48)) 57 (4 * c) (10 * (U 64 a - 48) + (U 64 (a + 1) - 48))) := mb_note pz2 hc (w := 0) (by decide) _
      have hgt : (gx_u (gx_u U 67 (6 * c + 1) 0) 67 (6 * c + 1) (U 64 a - 48)) 67 (6 * c + 1) = U 64 a - 48 := by rw [mb_set2, mb_set1]
      have hck : gx_in (Int32.ofNat (6 * c + 1)) 186 = true := mb_in (by omega) (by omega)
      have htn : (Int32.ofNat (6 * c + 1)).toNatClampNeg = 6 * c + 1 := mb_tn (by omega)
      rw [q2', hb1, if_neg mb_bt1']
      simp only [Option.bind_some, mb_ck hck, htn]
      rw [if_neg mb_bt1', num2, Option.bind_some, note2, Option.bind_some, f_X7_figures_L1, if_pos (by decide), hgt, if_pos hd1.1, u64]
      have j19 : (gx_u J 58 19 (Int32.ofNat (a + 1))) 58 19 + 1 = Int32.ofNat (a + 1 + 1) := mb_add1 (a + 1)
      rw [j19, mb_asub]
      refine ⟨true, gx_u (gx_u I 54 3 (Int32.ofNat (a + 1))) 54 3 (Int32.ofNat (a + 1 + 1)), gx_u (gx_u (gx_u V 57 (4 * c) (U 64 a - 48)) 57 (4 * c) (U 64 (a + 1) - 48)) 57 (4 * c) (10 * (U 64 a - 48) + (U 64 (a + 1) - 48)), gx_u (gx_u J 58 19 (Int32.ofNat (a + 1))) 58 19 (Int32.ofNat (a + 1 + 1)), gx_u (gx_u (gx_u U 67 (6 * c + 1) 0) 67 (6 * c + 1) (U 64 a - 48)) 67 (6 * c + 1) (10 * (U 64 a - 48) + (U 64 (a + 1) - 48)), a + 1 + 1, rfl, rfl, ?_, ⟨fun k hk => by rw [gx_u_ne hk, gx_u_ne hk], fun s hs => by rw [mb_set_u, mb_set0 _ _ hs, mb_set_u, mb_set0 _ _ hs], fun k hk => by rw [gx_u_ne hk, gx_u_ne hk, gx_u_ne hk], fun i hi => by rw [mb_set_u, mb_set0 _ _ (by omega), mb_set_u, mb_set0 _ _ (by omega), mb_set_u, mb_set0 _ _ (by omega)], fun s hs => by rw [mb_set_u, mb_set0 _ _ hs, mb_set_u, mb_set0 _ _ hs], fun k hk => by rw [gx_u_ne hk, gx_u_ne hk, gx_u_ne hk], fun j hj => by rw [mb_set_u, mb_set0 _ _ (by omega), mb_set2, mb_set0 _ _ (by omega)]⟩, fun _ => ⟨by omega, ?_⟩⟩
      · obtain ⟨g1, g2, g3, g4, g5, g6, g7, g8, g9⟩ := pz2
        exact ⟨g1, g2, g3, g4, g5, g6, g7, g8, g9⟩
      · show (gx_u (gx_u (gx_u V 57 (4 * c) (U 64 a - 48)) 57 (4 * c) (U 64 (a + 1) - 48)) 57 (4 * c) (10 * (U 64 a - 48) + (U 64 (a + 1) - 48))) 57 (4 * c) = (gx_u (gx_u (gx_u U 67 (6 * c + 1) 0) 67 (6 * c + 1) (U 64 a - 48)) 67 (6 * c + 1) (10 * (U 64 a - 48) + (U 64 (a + 1) - 48))) 67 (6 * c + 1)
        rw [mb_set_u, mb_set1, mb_set_u, mb_set1]
    · have hb1 : mb_b (if a + 1 < len then (gx_u (gx_u U 67 (6 * c + 1) 0) 67 (6 * c + 1) (U 64 a - 48)) 64 (a + 1) else -1) 48 57 = false := by
        cases hx : mb_b (if a + 1 < len then (gx_u (gx_u U 67 (6 * c + 1) 0) 67 (6 * c + 1) (U 64 a - 48)) 64 (a + 1) else -1) 48 57 with
        | false => rfl
        | true => exact absurd (i21.mp hx) hd1
      have q1' : f_X4_readDigit 0 (gx_u I 54 3 (Int32.ofNat (a + 1))) (gx_u V 57 (4 * c) (U 64 a - 48)) = some (false, gx_u I 54 3 (Int32.ofNat (a + 1)), gx_u V 57 (4 * c) (U 64 a - 48)) := q1 hd1
      rw [q1', hb1, if_pos gx_bi_0]
      refine ⟨true, gx_u I 54 3 (Int32.ofNat (a + 1)), gx_u V 57 (4 * c) (U 64 a - 48), gx_u J 58 19 (Int32.ofNat (a + 1)), gx_u (gx_u U 67 (6 * c + 1) 0) 67 (6 * c + 1) (U 64 a - 48), a + 1, rfl, rfl, pz1, ⟨fun k hk => gx_u_ne hk, fun s hs => by rw [mb_set_u, mb_set0 _ _ hs], fun k hk => gx_u_ne hk, fun i hi => by rw [mb_set_u, mb_set0 _ _ (by omega)], fun s hs => by rw [mb_set_u, mb_set0 _ _ hs], fun k hk => by rw [gx_u_ne hk, gx_u_ne hk], fun j hj => by rw [mb_set2, mb_set0 _ _ (by omega)]⟩, fun _ => ⟨Nat.le_refl _, ?_⟩⟩
      show (gx_u V 57 (4 * c) (U 64 a - 48)) 57 (4 * c) = (gx_u (gx_u U 67 (6 * c + 1) 0) 67 (6 * c + 1) (U 64 a - 48)) 67 (6 * c + 1)
      rw [mb_set_u, mb_set1, mb_set2, mb_set1]
  · have hb : mb_b (if a < len then U 64 a else -1) 48 57 = false := by
      cases hx : mb_b (if a < len then U 64 a else -1) 48 57 with
      | false => rfl
      | true => exact absurd (i2.mp hx) hd
    have r1' : f_X4_readDigit 0 I V = some (false, I, V) := r1 hd
    rw [f_X4_readNumber, r1']
    refine ⟨false, I, V, J, U, a, rfl, ?_, h, mb_fq.refl _ _ I V J U, fun h => by cases h⟩
    rw [f_X7_figures, h7, Option.bind_some, i1, Option.bind_some, hb, if_pos gx_bi_0]
