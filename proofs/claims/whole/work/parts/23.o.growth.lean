/-! growing, brick by brick, both sides -/
def mb_gw (g : Nat → Int32) (p b : Nat) : Nat → Int32 := fun j => if j = 4 then g 4 + 1 else if j = 3 then g 3 + 1 else if j = 45 + p then Int32.ofNat b else g j
theorem mb_gw_p (g : Nat → Int32) (p b : Nat) : mb_gw g p b (45 + p) = Int32.ofNat b := by
  unfold mb_gw
  rw [if_neg (by omega), if_neg (by omega), if_pos rfl]
theorem mb_gw_o (g : Nat → Int32) (p b : Nat) {j : Nat} (h1 : j ≠ 4) (h2 : j ≠ 3) (h3 : j ≠ 45 + p) : mb_gw g p b j = g j := by
  unfold mb_gw
  rw [if_neg h1, if_neg h2, if_neg h3]
/-- a row changed in its numbers of bricks and one place -/
theorem mb_iv.put {g g' : Nat → Int32} (hi : mb_iv g) {p : Nat} (hp : p < 42) (h0 : g' 0 = g 0) (h2 : g' 2 = g 2) (h1 : g' 1 = -1 ∨ ∃ z : Nat, z < 42 ∧ g' 1 = Int32.ofNat z) (h3 : ∀ j, 6 ≤ j → j ≠ 45 + p → g' j = g j) (h4 : g' (45 + p) = -1 ∨ ∃ b, b < 4 * mb_kc g ∧ g' (45 + p) = Int32.ofNat b) : mb_iv g' := by
  have hk := hi.kc
  obtain ⟨kc, need, a1, a2, a3, a4, a5, a6, a7, a8, a9, a10⟩ := hi
  have hkc : mb_kc g = kc := by
    have e := hk.2
    rw [a2] at e
    exact ((mb_eq (by omega) (by omega)).mp e).symm
  refine ⟨kc, need, a1, h0.trans a2, a3, a4, h2.trans a5, h1, (h3 6 (by omega) (by omega)).trans a7, fun i hi => ?_, fun i hi => ?_, fun q hq => ?_⟩
  · rw [h3 (6 + i) (by omega) (by omega)]
    exact a8 i hi
  · rw [h3 (13 + i) (by omega) (by omega)]
    exact a9 i hi
  · by_cases e : q = p
    · subst e
      rw [hkc] at h4
      exact h4
    · rw [h3 (45 + q) (by omega) (by omega)]
      exact a10 q hq
theorem mb_gw_iv {g : Nat → Int32} (hi : mb_iv g) {p b : Nat} (hp : p < 42) (hb : b < 4 * mb_kc g) : mb_iv (mb_gw g p b) := by
  refine hi.put hp (mb_gw_o g p b (by omega) (by omega) (by omega)) (mb_gw_o g p b (by omega) (by omega) (by omega)) ?_ (fun j h1 h2 => mb_gw_o g p b (by omega) (by omega) h2) (Or.inr ⟨b, hb, mb_gw_p g p b⟩)
  rw [mb_gw_o g p b (by omega) (by omega) (by omega)]
  exact hi.seed
theorem mb_gw_kc (g : Nat → Int32) (p b : Nat) : mb_kc (mb_gw g p b) = mb_kc g := by
  unfold mb_kc
  rw [mb_gw_o g p b (by omega) (by omega) (by omega)]
/-- what comes at a place far below is as before -/
theorem mb_bs_near : ∀ p, p < 42 → ∀ s, s < 4 → ∀ q, mb_bs p s = some q → q ≤ p + 7 := by
  intro p hp s hs q h
  unfold mb_bs at h
  repeat' split at h
  all_goals first | (cases h; done) | (cases h; omega)
theorem mb_be_far {g : Nat → Int32} (hi : mb_iv g) {p b q : Nat} (hp : p < 42) (hb : b < 4 * mb_kc g) (hq : q + 7 < p) : mb_be (mb_gw g p b) q = mb_be g q := by
  have hk := mb_gw_kc g p b
  have k1 := hi.kc.1
  have hfr : mb_fr (mb_gw g p b) q = mb_fr g q := by
    unfold mb_fr
    rw [mb_gw_o g p b (by omega) (by omega) (by omega)]
  have hgl : ∀ c s, c < 32 → mb_gl (mb_gw g p b) c s = mb_gl g c s := by
    intro c s hc
    have := mb_gi_lt (b := c) (s := s) hc
    unfold mb_gl
    rw [mb_gw_o g p b (by omega) (by omega) (by omega)]
  have hfc : ∀ s, s < 4 → mb_fc (mb_gw g p b) q s = mb_fc g q s := by
    intro s hs
    cases hr : mb_bs q s with
    | none => rw [mb_fc0 hr, mb_fc0 hr]
    | some r =>
      have r1 := mb_bs_near q (by omega) s hs r hr
      have r2 := mb_bs_lt q (by omega) s hs r hr
      have e : mb_gw g p b (45 + r) = g (45 + r) := mb_gw_o g p b (by omega) (by omega) (by omega)
      rcases hi.br r2 with h | ⟨c, hc, h⟩
      · rw [mb_fcN hr h, mb_fcN hr (e.trans h)]
      · rw [mb_fcS hr (by omega) h, mb_fcS hr (by omega) (e.trans h), hgl c _ hc]
  have hbN : ∀ x y, x < 32 → ∀ s, s < 4 → mb_bN (mb_gw g p b) (mb_gl g x s) y = mb_bN g (mb_gl g x s) y := by
    intro x y hx s hs
    obtain ⟨n, hn, hg⟩ := hi.gl (s := s) hx
    unfold mb_bN mb_bt
    rw [hg, mb_tn (by omega), mb_gw_o g p b (by omega) (by omega) (by omega)]
  have hfit : ∀ c, c < 32 → mb_hN (mb_gw g p b) q c = mb_hN g q c ∧ mb_fits (mb_gw g p b) q c = mb_fits g q c := by
    intro c hc
    have e1 : mb_hN (mb_gw g p b) q c = mb_hN g q c := by
      refine mb_T_ext 4 0 (fun s _ hs => ?_)
      show mb_bN (mb_gw g p b) (mb_gl (mb_gw g p b) c s) (mb_fc (mb_gw g p b) q s) = mb_bN g (mb_gl g c s) (mb_fc g q s)
      rw [hgl c s hc, hfc s (by omega), hbN c _ hc s (by omega)]
    have e2 : mb_eN (mb_gw g p b) q c = mb_eN g q c := by
      refine mb_T_ext 4 0 (fun s _ hs => ?_)
      show mb_oN (mb_gl (mb_gw g p b) c s) (mb_fc (mb_gw g p b) q s) = mb_oN (mb_gl g c s) (mb_fc g q s)
      rw [hgl c s hc, hfc s (by omega)]
    refine ⟨e1, ?_⟩
    unfold mb_fits mb_nd
    rw [e1, e2, mb_gw_o g p b (by omega) (by omega) (by omega)]
  have hbst : ∀ m c (x : Option Nat), c + m ≤ 32 → (∀ d, x = some d → d < 32) → mb_bst (mb_gw g p b) q m c x = mb_bst g q m c x := by
    intro m
    induction m with
    | zero => intro c x _ _; rfl
    | succ m ih =>
      intro c x hc hx
      have e : mb_up (mb_gw g p b) q c x = mb_up g q c x := by
        unfold mb_up
        rw [(hfit c (by omega)).2, (hfit c (by omega)).1]
        cases x with
        | none => rfl
        | some d =>
          show (if mb_fits g q c = true then (if mb_hN (mb_gw g p b) q d < mb_hN g q c then some c else some d) else some d) = (if mb_fits g q c = true then (if mb_hN g q d < mb_hN g q c then some c else some d) else some d)
          rw [(hfit d (hx d rfl)).1]
      rw [mb_bst, mb_bst, e]
      refine ih (c + 1) _ (by omega) (fun d hd => ?_)
      unfold mb_up at hd
      by_cases hf : mb_fits g q c = true
      · rw [if_pos hf] at hd
        cases x with
        | none => cases hd; omega
        | some d2 =>
          have hd2 : (if mb_hN g q d2 < mb_hN g q c then some c else some d2) = some d := hd
          by_cases h3 : mb_hN g q d2 < mb_hN g q c
          · rw [if_pos h3] at hd2
            cases hd2
            omega
          · rw [if_neg h3] at hd2
            exact hx d hd2
      · rw [if_neg hf] at hd
        exact hx d hd
  unfold mb_be
  rw [hfr, hk, hbst (4 * mb_kc g) 0 none (by omega) (fun d h => by cases h)]
/-- grown by at most so many: how many, and the row -/
def mb_grow : Nat → (Nat → Int32) → Nat × (Nat → Int32)
  | 0, g => (0, g)
  | m + 1, g => match mb_fi g 42 0 with
    | none => (0, g)
    | some q => ((mb_grow m (mb_gw g q.1 q.2)).1 + 1, (mb_grow m (mb_gw g q.1 q.2)).2)
theorem mb_grow0 {g : Nat → Int32} {m : Nat} (h : mb_fi g 42 0 = none) : mb_grow m g = (0, g) := by
  cases m with
  | zero => rfl
  | succ m => rw [mb_grow, h]
theorem mb_grow1 {g : Nat → Int32} {m p b : Nat} (h : mb_fi g 42 0 = some (p, b)) : mb_grow (m + 1) g = ((mb_grow m (mb_gw g p b)).1 + 1, (mb_grow m (mb_gw g p b)).2) := by
  rw [mb_grow, h]
/-- only the wall k and the searches' rows have changed -/
def mb_fw (k : Nat) (I V I' V' : gx_F) : Prop := (∀ j, j ≠ k → j ≠ 48 → j ≠ 51 → I' j = I j) ∧ ∀ j, j ≠ k + 1 → j ≠ k + 2 → j ≠ k + 3 → j ≠ 49 → j ≠ 50 → j ≠ 52 → V' j = V j
theorem mb_fw.refl (k : Nat) (I V : gx_F) : mb_fw k I V I V := ⟨fun _ _ _ _ => rfl, fun _ _ _ _ _ _ _ => rfl⟩
theorem mb_fw.trans {k : Nat} {I V I' V' I2 V2 : gx_F} (h : mb_fw k I V I' V') (h2 : mb_fw k I' V' I2 V2) : mb_fw k I V I2 V2 :=
  ⟨fun j a b c => (h2.1 j a b c).trans (h.1 j a b c), fun j a b c d e f => (h2.2 j a b c d e f).trans (h.2 j a b c d e f)⟩
theorem mb_sc.fw {I V I' V' : gx_F} (h : mb_sc I V I' V') (k : Nat) : mb_fw k I V I' V' := ⟨fun j _ b c => h.1 j b c, fun j _ _ _ d e f => h.2 j d e f⟩
theorem mb_putW {I V : gx_F} {k : Nat} {g : Nat → Int32} (hk : k ≤ 40) (hw : mb_wr I V k g) {p b : Nat} (hp : p < 42) :
    ∃ I' V', f_X5_put k (Int32.ofNat p) (Int32.ofNat b) I V = some (I', V') ∧ mb_wr (gx_u I' k 7 (I' k 7 + 1)) V' k (mb_gw g p b) ∧ mb_fw k I V (gx_u I' k 7 (I' k 7 + 1)) V' := by
  refine ⟨gx_u I k 6 (I k 6 + 1), gx_u V (k + 3) p (Int32.ofNat b), ?_, ?_, fun j h1 _ _ => ?_, fun j _ _ h3 _ _ _ => gx_u_ne h3⟩
  · rw [f_X5_put, mb_isPlace hp, Option.bind_some, if_neg (by decide), mb_ck (mb_in hp (by omega)), mb_tn (by omega)]
  · obtain ⟨w1, w2, w3, w4, w5, w6, w7, w8, w9⟩ := hw
    have vk : ∀ n, (gx_u (gx_u I k 6 (I k 6 + 1)) k 7 ((gx_u I k 6 (I k 6 + 1)) k 7 + 1)) k n = if n = 7 then I k 7 + 1 else if n = 6 then I k 6 + 1 else I k n := by
      intro n
      unfold gx_u
      rw [if_pos rfl]
      by_cases h7 : n = 7
      · rw [if_pos h7, if_pos h7, if_pos rfl, if_neg (by omega)]
      · rw [if_neg h7, if_neg h7, if_pos rfl]
    refine ⟨fun i hi => ?_, fun i hi => ?_, fun q hq => ?_, ?_, ?_, ?_, ?_, ?_, ?_⟩
    · rw [gx_u_ne (by omega), mb_gw_o g p b (by omega) (by omega) (by omega)]
      exact w1 i hi
    · rw [gx_u_ne (by omega), mb_gw_o g p b (by omega) (by omega) (by omega)]
      exact w2 i hi
    · unfold gx_u
      rw [if_pos rfl]
      by_cases e : q = p
      · rw [if_pos e, e, mb_gw_p]
      · rw [if_neg e, mb_gw_o g p b (by omega) (by omega) (by omega)]
        exact w3 q hq
    · rw [vk, if_neg (by omega), if_neg (by omega), mb_gw_o g p b (by omega) (by omega) (by omega)]
      exact w4
    · rw [vk, if_neg (by omega), if_neg (by omega), mb_gw_o g p b (by omega) (by omega) (by omega)]
      exact w5
    · rw [vk, if_neg (by omega), if_neg (by omega), mb_gw_o g p b (by omega) (by omega) (by omega)]
      exact w6
    · rw [vk, if_neg (by omega), if_pos rfl, w7]
      rfl
    · rw [vk, if_pos rfl, w8]
      rfl
    · rw [vk, if_neg (by omega), if_neg (by omega), mb_gw_o g p b (by omega) (by omega) (by omega)]
      exact w9
  · rw [gx_u_ne h1, gx_u_ne h1]
theorem mb_m7 : ∀ p, p < 42 → (p < 7 → Int32.ofNat p - 7 < 0) ∧ (7 ≤ p → Int32.ofNat p - 7 = Int32.ofNat (p - 7)) := by decide +kernel
theorem mb_grow_L {k : Nat} (hk : k ≤ 40) {M : Nat} (hM : M < 2 ^ 31) (K : Int32 → gx_F → gx_F → Option (Int32 × gx_F × gx_F)) : ∀ (m c n : Nat) (g : Nat → Int32) (x : Int32) (I V : gx_F), c + m = M → mb_iv g → mb_wr I V k g → mb_from g x →
    ∃ I' V', f_X1_letGrow_L1 k (Int32.ofNat M) (fun _ c I V => K c I V) (n + m + 1) x (Int32.ofNat c) I V = K (Int32.ofNat (c + (mb_grow m g).1)) I' V' ∧ mb_wr I' V' k (mb_grow m g).2 ∧ mb_fw k I V I' V' := by
  intro m
  induction m with
  | zero =>
    intro c n g x I V hm hi hw hx
    refine ⟨I, V, ?_, hw, mb_fw.refl k I V⟩
    rw [f_X1_letGrow_L1, if_pos ((mb_le (by omega) (by omega)).mpr (by omega))]
    rfl
  | succ m ih =>
    intro c n g x I V hm hi hw hx
    obtain ⟨I1, V1, sc1, hr⟩ := mb_find hk hw hi hx
    rw [show n + (m + 1) + 1 = (n + m + 1) + 1 by omega, f_X1_letGrow_L1, if_neg (fun h => absurd ((mb_le (by omega) (by omega)).mp h) (by omega))]
    cases hf : mb_fi g 42 0 with
    | none =>
      rw [hf] at hr
      have hr2 : f_X1_findFrom k x I V = some (false, I1, V1) := hr
      refine ⟨I1, V1, ?_, ?_, sc1.fw k⟩
      · rw [hr2, Option.bind_some, if_pos (show gx_bi (false, I1, V1).1 = 0 from rfl), mb_grow0 hf]
        rfl
      · rw [mb_grow0 hf]
        exact sc1.wr hk hw
    | some q =>
      obtain ⟨p, b⟩ := q
      rw [hf] at hr
      obtain ⟨hr1, hr2, hr3⟩ : f_X1_findFrom k x I V = some (true, I1, V1) ∧ I1 51 1 = Int32.ofNat p ∧ I1 51 2 = Int32.ofNat b := hr
      obtain ⟨f1, f2, f3, f4⟩ := mb_fi_some 42 0 p b hf
      have hb := (mb_be_lt f3).1
      have hp : p < 42 := by omega
      obtain ⟨I2, V2, e2, w2, fw2⟩ := mb_putW (b := b) hk (sc1.wr hk hw) hp
      have h51 : (gx_u I2 k 7 (I2 k 7 + 1)) 51 1 = Int32.ofNat p := by
        have e3 : f_X5_put k (Int32.ofNat p) (Int32.ofNat b) I1 V1 = some (gx_u I1 k 6 (I1 k 6 + 1), gx_u V1 (k + 3) p (Int32.ofNat b)) := by
          rw [f_X5_put, mb_isPlace hp, Option.bind_some, if_neg (by decide), mb_ck (mb_in hp (by omega)), mb_tn (by omega)]
        rw [e2] at e3
        have e4 : I2 = gx_u I1 k 6 (I1 k 6 + 1) := congrArg (fun y => (y.getD (I2, V2)).1) e3
        rw [gx_u_ne (show (51 : Nat) ≠ k by omega), e4, gx_u_ne (show (51 : Nat) ≠ k by omega)]
        exact hr2
      have hfrom : mb_from (mb_gw g p b) (Int32.ofNat p - 7) := by
        by_cases h7 : p < 7
        · exact Or.inl ((mb_m7 p hp).1 h7)
        · refine Or.inr ⟨p - 7, by omega, (mb_m7 p hp).2 (by omega), fun r hr => ?_⟩
          rw [mb_be_far hi hp hb (by omega)]
          exact f4 r (Nat.zero_le _) (by omega)
      obtain ⟨I3, V3, e3, w3, fw3⟩ := ih (c + 1) n (mb_gw g p b) (Int32.ofNat p - 7) (gx_u I2 k 7 (I2 k 7 + 1)) V2 (by omega) (mb_gw_iv hi hp hb) w2 hfrom
      refine ⟨I3, V3, ?_, ?_, ((sc1.fw k).trans fw2).trans fw3⟩
      · rw [hr1, Option.bind_some, if_neg (show ¬ gx_bi (true, I1, V1).1 = 0 by show ¬ gx_bi true = 0; decide)]
        show (f_X5_put k (I1 51 1) (I1 51 2) I1 V1).bind _ = _
        rw [hr2, hr3, e2, Option.bind_some]
        show f_X1_letGrow_L1 k (Int32.ofNat M) (fun _ c I V => K c I V) (n + m + 1) ((gx_u I2 k 7 (I2 k 7 + 1)) 51 1 - 7) (Int32.ofNat c + 1) (gx_u I2 k 7 (I2 k 7 + 1)) V2 = _
        rw [h51, mb_add1, e3, mb_grow1 hf, show c + 1 + (mb_grow m (mb_gw g p b)).1 = c + ((mb_grow m (mb_gw g p b)).1 + 1) by omega]
      · rw [mb_grow1 hf]
        exact w3
theorem mb_letGrow {I V : gx_F} {k : Nat} {g : Nat → Int32} (hk : k ≤ 40) (hw : mb_wr I V k g) (hi : mb_iv g) {M : Nat} (hM : M ≤ 42) :
    ∃ I' V', f_X1_letGrow k (Int32.ofNat M) I V = some (Int32.ofNat (mb_grow M g).1, I', V') ∧ mb_wr I' V' k (mb_grow M g).2 ∧ mb_fw k I V I' V' := by
  obtain ⟨I', V', e, w, fw⟩ := mb_grow_L hk (M := M) (by omega) (fun c I V => some (c, I, V)) M 0 (999 - M) g 0 I V (by omega) hi hw (Or.inr ⟨0, by omega, rfl, fun q h => by omega⟩)
  refine ⟨I', V', ?_, w, fw⟩
  rw [show 999 - M + M + 1 = 1000 by omega, Nat.zero_add] at e
  exact e
theorem mb_grow_iv : ∀ (m : Nat) (g : Nat → Int32), mb_iv g → mb_iv (mb_grow m g).2 ∧ (mb_grow m g).1 ≤ m := by
  intro m
  induction m with
  | zero => intro g h; exact ⟨h, Nat.le_refl _⟩
  | succ m ih =>
    intro g hi
    cases hf : mb_fi g 42 0 with
    | none =>
      rw [mb_grow0 hf]
      exact ⟨hi, Nat.zero_le _⟩
    | some q =>
      obtain ⟨p, b⟩ := q
      obtain ⟨f1, f2, f3, f4⟩ := mb_fi_some 42 0 p b hf
      have h := ih (mb_gw g p b) (mb_gw_iv hi (by omega) (mb_be_lt f3).1)
      rw [mb_grow1 hf]
      exact ⟨h.1, Nat.succ_le_succ h.2⟩
/-! the model grows -/
theorem mb_by_L {M : Nat} (hM : M < 2 ^ 31) (K : Int32 → gx_F → gx_F → Option (Int32 × gx_F × gx_F)) : ∀ (m c n : Nat) (g : Nat → Int32) (J U : gx_F), c + m = M → mb_iv g → U 59 = g →
    ∃ U', f_X7_growsBy_L1 (Int32.ofNat M) (fun c _ J U => K c J U) (n + m + 1) (Int32.ofNat c) (mb_ff (mb_fi g 42 0)) J U = K (Int32.ofNat (c + (mb_grow m g).1)) J U' ∧ U' 59 = (mb_grow m g).2 ∧ ∀ k, k ≠ 59 → U' k = U k := by
  intro m
  induction m with
  | zero =>
    intro c n g J U hm hi hU
    refine ⟨U, ?_, hU, fun _ _ => rfl⟩
    rw [f_X7_growsBy_L1, if_pos ((mb_le (by omega) (by omega)).mpr (by omega))]
    rfl
  | succ m ih =>
    intro c n g J U hm hi hU
    rw [show n + (m + 1) + 1 = (n + m + 1) + 1 by omega, f_X7_growsBy_L1, if_neg (fun h => absurd ((mb_le (by omega) (by omega)).mp h) (by omega))]
    cases hf : mb_fi g 42 0 with
    | none =>
      refine ⟨U, ?_, ?_, fun _ _ => rfl⟩
      · rw [if_pos (show mb_ff none < 0 by decide), mb_grow0 hf]
        rfl
      · rw [mb_grow0 hf]
        exact hU
    | some q =>
      obtain ⟨p, b⟩ := q
      obtain ⟨f1, f2, f3, f4⟩ := mb_fi_some 42 0 p b hf
      have hp : p < 42 := by omega
      obtain ⟨hb, hfr⟩ := mb_be_lt f3
      obtain ⟨-, -, -, -, h5, -⟩ := mb_small p (by omega)
      have hU3 : (gx_u (gx_u (gx_u U 59 (45 + p) (Int32.ofNat b)) 59 3 ((gx_u U 59 (45 + p) (Int32.ofNat b)) 59 3 + 1)) 59 4 ((gx_u (gx_u U 59 (45 + p) (Int32.ofNat b)) 59 3 ((gx_u U 59 (45 + p) (Int32.ofNat b)) 59 3 + 1)) 59 4 + 1)) 59 = mb_gw g p b := by
        funext j
        unfold gx_u mb_gw
        rw [← hU, if_pos rfl]
        by_cases h4 : j = 4
        · rw [if_pos h4, if_pos h4, if_pos rfl, if_neg (by omega), if_pos rfl, if_neg (by omega)]
        · rw [if_neg h4, if_neg h4, if_pos rfl]
          by_cases h3 : j = 3
          · rw [if_pos h3, if_pos h3, if_pos rfl, if_neg (by omega)]
          · rw [if_neg h3, if_neg h3, if_pos rfl]
      obtain ⟨U', e, e59, hfrm⟩ := ih (c + 1) n (mb_gw g p b) J _ (by omega) (mb_gw_iv hi hp hb) hU3
      refine ⟨U', ?_, ?_, fun k hk => ?_⟩
      · rw [show mb_ff (some (p, b)) = Int32.ofNat p from rfl, if_neg (mb_pos (by omega)), mb_growsWith hU hi hp hfr, f3, Option.bind_some, mb_ck (mb_in42 p hp).2, mb_ck (show gx_in 3 87 = true by decide), mb_ck (show gx_in 3 87 = true by decide), mb_ck (show gx_in 4 87 = true by decide), mb_ck (show gx_in 4 87 = true by decide), h5, show mb_N (some b) = Int32.ofNat b from rfl, show (3 : Int32).toNatClampNeg = 3 from rfl, show (4 : Int32).toNatClampNeg = 4 from rfl, mb_growsAt hU3 (mb_gw_iv hi hp hb), Option.bind_some, mb_add1, e, mb_grow1 hf, show c + 1 + (mb_grow m (mb_gw g p b)).1 = c + ((mb_grow m (mb_gw g p b)).1 + 1) by omega]
      · rw [mb_grow1 hf]
        exact e59
      · rw [hfrm k hk, gx_u_ne hk, gx_u_ne hk, gx_u_ne hk]
theorem mb_growsBy {J U : gx_F} {g : Nat → Int32} (hU : U 59 = g) (hi : mb_iv g) {M : Nat} (hM : M ≤ 42) :
    ∃ U', f_X7_growsBy (Int32.ofNat M) J U = some (Int32.ofNat (mb_grow M g).1, J, U') ∧ U' 59 = (mb_grow M g).2 ∧ ∀ k, k ≠ 59 → U' k = U k := by
  obtain ⟨U', e, e59, fr⟩ := mb_by_L (M := M) (by omega) (fun c J U => some (c, J, U)) M 0 (999 - M) g J U (by omega) hi hU
  refine ⟨U', ?_, e59, fr⟩
  rw [show 999 - M + M + 1 = 1000 by omega, Nat.zero_add] at e
  rw [f_X7_growsBy, mb_growsAt hU hi, Option.bind_some]
  exact e
/-! stalled places -/
def mb_stk (g : Nat → Int32) (p : Nat) : Nat := if mb_fr g p = true then (if mb_hn g p = true then (if mb_be g p = none then 1 else 0) else 0) else 0
theorem mb_stk0 {g : Nat → Int32} {p : Nat} (h : mb_fr g p = false) : mb_stk g p = 0 := by
  unfold mb_stk
  rw [h, if_neg mb_ft]
theorem mb_stk1 {g : Nat → Int32} {p : Nat} (h : mb_fr g p = true) (h2 : mb_hn g p = false) : mb_stk g p = 0 := by
  unfold mb_stk
  rw [h, h2, if_pos rfl, if_neg mb_ft]
theorem mb_stk2 {g : Nat → Int32} {p : Nat} (h : mb_fr g p = true) (h2 : mb_hn g p = true) (h3 : mb_be g p = none) : mb_stk g p = 1 := by
  unfold mb_stk
  rw [if_pos h, if_pos h2, if_pos h3]
theorem mb_stk3 {g : Nat → Int32} {p : Nat} (h : mb_fr g p = true) (h2 : mb_hn g p = true) (h3 : ¬ mb_be g p = none) : mb_stk g p = 0 := by
  unfold mb_stk
  rw [if_pos h, if_pos h2, if_neg h3]
theorem mb_stk_L {k : Nat} {g : Nat → Int32} (hk : k ≤ 40) (hi : mb_iv g) (K : Int32 → gx_F → gx_F → Option (Int32 × gx_F × gx_F)) : ∀ (m s n : Nat) (a : Int32) (I V : gx_F), s + m = 42 → mb_wr I V k g →
    ∃ V', f_X1_stuckPlaces_L1 k (fun a _ I V => K a I V) (n + m + 1) a (Int32.ofNat s) I V = K (a + Int32.ofNat (mb_T (mb_stk g) s m)) I V' ∧ mb_sc I V I V' := by
  intro m
  induction m with
  | zero =>
    intro s n a I V hm hw
    have hs : s = 42 := by omega
    subst hs
    refine ⟨V, ?_, mb_sc.refl I V⟩
    rw [f_X1_stuckPlaces_L1, if_pos (by decide)]
    exact congrArg (fun y => K y I V) (Int32.add_zero a).symm
  | succ m ih =>
    intro s n a I V hm hw
    have hs : s < 42 := by omega
    rw [show n + (m + 1) + 1 = (n + m + 1) + 1 by omega, f_X1_stuckPlaces_L1, if_neg (mb_42 s hs), mb_isFree5 hw hi hs, Option.bind_some, mb_add1, mb_T]
    cases hfr : mb_fr g s with
    | false =>
      obtain ⟨V', e, sc⟩ := ih (s + 1) n a I V (by omega) hw
      refine ⟨V', ?_, sc⟩
      rw [if_pos gx_bi_0, mb_stk0 hfr, Nat.zero_add]
      exact e
    | true =>
      obtain ⟨V1, e1, hfa, hV⟩ := mb_look hk hw hi hs
      have sc1 : mb_sc I V I V1 := ⟨fun _ _ _ => rfl, fun j _ _ h => hV j h⟩
      rw [if_neg (show ¬ gx_bi true = 0 by decide), e1, Option.bind_some]
      cases hh : mb_hn g s with
      | false =>
        obtain ⟨V', e, sc⟩ := ih (s + 1) n a I V1 (by omega) (sc1.wr hk hw)
        refine ⟨V', ?_, sc1.trans sc⟩
        rw [if_pos (show gx_bi (false, I, V1).1 = 0 from rfl), mb_stk1 hfr hh, Nat.zero_add]
        exact e
      | true =>
        obtain ⟨V2, e2, sc2⟩ := mb_bestFor hk (sc1.wr hk hw) hi hs
        have sc3 := sc1.trans sc2
        rw [if_neg (show ¬ gx_bi (true, I, V1).1 = 0 by show ¬ gx_bi true = 0; decide), show f_X1_bestFor k (Int32.ofNat s) (true, I, V1).2.1 (true, I, V1).2.2 = _ from e2, Option.bind_some]
        cases hb : mb_be g s with
        | none =>
          obtain ⟨V', e, sc⟩ := ih (s + 1) n (a + 1) I V2 (by omega) (sc3.wr hk hw)
          refine ⟨V', ?_, sc3.trans sc⟩
          rw [if_pos (show (mb_N none, I, V2).1 = -1 from rfl), mb_stk2 hfr hh hb, Int32.ofNat_add 1, ← Int32.add_assoc]
          exact e
        | some b =>
          have hb2 := (mb_be_lt hb).1
          have k1 := hi.kc.1
          obtain ⟨V', e, sc⟩ := ih (s + 1) n a I V2 (by omega) (sc3.wr hk hw)
          refine ⟨V', ?_, sc3.trans sc⟩
          rw [if_neg (show ¬ (mb_N (some b), I, V2).1 = -1 from mb_nn (by omega)), mb_stk3 hfr hh (fun h => by rw [hb] at h; cases h), Nat.zero_add]
          exact e
def mb_stks (g : Nat → Int32) : Nat := mb_T (mb_stk g) 0 42
theorem mb_stuck5 {I V : gx_F} {k : Nat} {g : Nat → Int32} (hk : k ≤ 40) (hw : mb_wr I V k g) (hi : mb_iv g) :
    ∃ V', f_X1_stuckPlaces k I V = some (Int32.ofNat (mb_stks g), I, V') ∧ mb_sc I V I V' := by
  obtain ⟨V', e, sc⟩ := mb_stk_L hk hi (fun a I V => some (a, I, V)) 42 0 957 0 I V rfl hw
  refine ⟨V', ?_, sc⟩
  rw [Int32.zero_add] at e
  exact e
theorem mb_sk7_s {J U : gx_F} {g : Nat → Int32} (hU : U 59 = g) {p s : Nat} (hp : p < 42) (hs : s < 4) (K : Int32 → Int32 → Option Int32) (n : Nat) (c : Bool) : f_X7_stuckNow_L2 J U (Int32.ofNat p) K (n + 1) (gx_bi c) (Int32.ofNat s) = f_X7_stuckNow_L2 J U (Int32.ofNat p) K n (gx_bi (c || mb_nb g p s)) (Int32.ofNat (s + 1)) := by
  rw [f_X7_stuckNow_L2, if_neg (mb_four s hs), mb_beside7 J U hp hs, Option.bind_some, Option.bind_some, mb_add1]
  cases hq : mb_bs p s with
  | none =>
    rw [if_pos (show mb_N none < 0 by decide), mb_nb0 hq]
    cases c <;> rfl
  | some q =>
    have hq2 := mb_bs_lt p hp s hs q hq
    have hf2 : f_X7_isFree (Int32.ofNat q) J U = some (mb_fr (U 59) q) := mb_isFree7 hq2
    rw [show mb_N (some q) = Int32.ofNat q from rfl, if_neg (mb_pos (by omega)), hf2, Option.bind_some, mb_nb1 hq, hU]
    cases mb_fr g q <;> cases c <;> rfl
theorem mb_sk7_L {J U : gx_F} {g : Nat → Int32} (hU : U 59 = g) (hi : mb_iv g) (K : Int32 → Option Int32) : ∀ (m s n : Nat) (a : Int32), s + m = 42 → f_X7_stuckNow_L1 J U (fun a _ => K a) (n + m + 1) a (Int32.ofNat s) = K (a + Int32.ofNat (mb_T (mb_stk g) s m)) := by
  intro m
  induction m with
  | zero =>
    intro s n a hm
    have hs : s = 42 := by omega
    subst hs
    rw [f_X7_stuckNow_L1, if_pos (by decide)]
    exact congrArg K (Int32.add_zero a).symm
  | succ m ih =>
    intro s n a hm
    have hs : s < 42 := by omega
    have hf : f_X7_isFree (Int32.ofNat s) J U = some (mb_fr (U 59) s) := mb_isFree7 hs
    rw [show n + (m + 1) + 1 = (n + m + 1) + 1 by omega, f_X7_stuckNow_L1, if_neg (mb_42 s hs)]
    refine Eq.trans (mb_sk7_s hU hs (s := 0) (by omega) _ 999 false) ?_
    refine Eq.trans (mb_sk7_s hU hs (s := 1) (by omega) _ 998 _) ?_
    refine Eq.trans (mb_sk7_s hU hs (s := 2) (by omega) _ 997 _) ?_
    refine Eq.trans (mb_sk7_s hU hs (s := 3) (by omega) _ 996 _) ?_
    rw [f_X7_stuckNow_L2, if_pos (by decide), hf, Option.bind_some, Bool.false_or, mb_choicesAt hU hi hs, Option.bind_some, hU, mb_add1, Int32.add_zero, ih (s + 1) n a (by omega), ih (s + 1) n (a + 1) (by omega), mb_T]
    cases hfr : mb_fr g s with
    | false => rw [if_pos gx_bi_0, mb_stk0 hfr, Nat.zero_add]
    | true =>
      have hiff := mb_be_cn hfr
      have hmx := mb_cn_max hi s
      rw [if_neg (show ¬ gx_bi true = 0 by decide)]
      show (if gx_bi (mb_hn g s) = 0 then _ else _) = _
      cases hh : mb_hn g s with
      | false => rw [if_pos gx_bi_0, mb_stk1 hfr hh, Nat.zero_add]
      | true =>
        rw [if_neg (show ¬ gx_bi true = 0 by decide)]
        by_cases h : mb_be g s = none
        · rw [mb_stk2 hfr hh h, if_pos ((mb_eq0 (by omega)).mpr (hiff.mp h)), Int32.ofNat_add, ← Int32.add_assoc]
          rfl
        · rw [mb_stk3 hfr hh h, if_neg (fun h2 => h (hiff.mpr ((mb_eq0 (by omega)).mp h2))), Nat.zero_add]
theorem mb_stuck7 {J U : gx_F} {g : Nat → Int32} (hU : U 59 = g) (hi : mb_iv g) : f_X7_stuckNow J U = some (Int32.ofNat (mb_stks g)) := by
  have e := mb_sk7_L (J := J) hU hi (fun a => some a) 42 0 957 0 rfl
  rw [Int32.zero_add] at e
  exact e
/-! choices, bricks after growing -/
theorem mb_cho_L {I V : gx_F} {k : Nat} {g : Nat → Int32} (hw : mb_wr I V k g) (hi : mb_iv g) {p : Nat} (hf : mb_fa g p V) (r : Bool) (K : Int32 → Option (Int32 × gx_F × gx_F)) : ∀ (m b n : Nat) (a : Int32), b + m = 4 * mb_kc g → f_X1_choicesFor_L1 k (r, I, V) (fun x _ => K x) (n + m + 1) a (Int32.ofNat b) = K (a + Int32.ofNat (mb_T (fun b => if mb_fits g p b = true then 1 else 0) b m)) := by
  obtain ⟨k1, k2⟩ := hi.kc
  obtain ⟨n1, n2, n3⟩ := hi.nd
  have hI : I k 3 = Int32.ofNat (mb_kc g) := hw.2.2.2.1.trans k2
  have hI4 : I k 4 = Int32.ofNat (mb_nd g) := hw.2.2.2.2.1.trans n3
  intro m
  induction m with
  | zero =>
    intro b n a hm
    rw [f_X1_choicesFor_L1, show (r, I, V).2.1 k 3 = _ from hI, (mb_k4 _ k1).1, if_pos ((mb_le (by omega) (by omega)).mpr (by omega))]
    exact congrArg K (Int32.add_zero a).symm
  | succ m ih =>
    intro b n a hm
    have hb : b < 32 := by omega
    have l1 := (mb_hold_of hi (p := p) hb).2
    rw [show n + (m + 1) + 1 = (n + m + 1) + 1 by omega, f_X1_choicesFor_L1, show (r, I, V).2.1 k 3 = _ from hI, (mb_k4 _ k1).1, if_neg (fun h => absurd ((mb_le (by omega) (by omega)).mp h) (by omega)), show f_X1_holdIfFit k (Int32.ofNat b) (r, I, V).2.1 (r, I, V).2.2 = some (mb_hf g p b) from mb_holdIfFit hw hi hb hf, Option.bind_some, mb_add1, show (r, I, V).2.1 k 4 = _ from hI4, ih (b + 1) n a (by omega), ih (b + 1) n (a + 1) (by omega), mb_T]
    unfold mb_hf mb_fits
    by_cases h1 : mb_eN g p b = 0
    · rw [if_pos h1, decide_eq_true h1, Bool.and_true]
      by_cases h2 : mb_nd g ≤ mb_hN g p b
      · rw [if_neg (fun h => absurd ((mb_lt (by omega) (by omega)).mp h) (by omega)), decide_eq_true h2, if_pos rfl, Int32.ofNat_add, ← Int32.add_assoc]
        rfl
      · rw [if_pos ((mb_lt (by omega) (by omega)).mpr (by omega)), decide_eq_false h2, if_neg mb_ft, Nat.zero_add]
    · rw [if_neg h1, decide_eq_false h1, Bool.and_false, if_neg mb_ft, Nat.zero_add, if_pos]
      exact Int32.lt_of_lt_of_le (show (-1 : Int32) < 0 by decide) (mb_ge0 (by omega))
theorem mb_choices5 {I V : gx_F} {k : Nat} {g : Nat → Int32} (hk : k ≤ 40) (hw : mb_wr I V k g) (hi : mb_iv g) {p : Nat} (hp : p < 42) :
    ∃ V', f_X1_choicesFor k (Int32.ofNat p) I V = some (Int32.ofNat (mb_cn g p), I, V') ∧ mb_sc I V I V' := by
  have k1 := hi.kc.1
  obtain ⟨V1, e1, hfa, hV⟩ := mb_look hk hw hi hp
  have sc1 : mb_sc I V I V1 := ⟨fun _ _ _ => rfl, fun j _ _ h => hV j h⟩
  refine ⟨V1, ?_, sc1⟩
  rw [f_X1_choicesFor, e1, Option.bind_some]
  have e := mb_cho_L (sc1.wr hk hw) hi hfa (mb_hn g p) (fun x => some (x, I, V1)) (4 * mb_kc g) 0 (999 - 4 * mb_kc g) 0 (by omega)
  rw [show 999 - 4 * mb_kc g + 4 * mb_kc g + 1 = 1000 by omega, Int32.zero_add] at e
  exact e
def mb_bn (g : Nat → Int32) : Nat := mb_T (fun p => if mb_fr g p = true then 0 else 1) 0 42
theorem mb_bricks_of (g : Nat → Int32) : mb_bricks g = Int32.ofNat (mb_bn g) := by
  have e := mb_ST (h := mb_one g) (f := fun p => if mb_fr g p = true then 0 else 1) 42 0 0 (fun p _ _ => by
    unfold mb_one
    by_cases h : mb_fr g p = true
    · rw [if_pos h, if_pos h]; rfl
    · rw [if_neg h, if_neg h]; rfl)
  rw [mb_bricks, e, Int32.zero_add]
  rfl
theorem mb_bn_max (g : Nat → Int32) : mb_bn g ≤ 42 := by
  refine mb_T_max (B := 1) 42 0 (fun p _ _ => ?_)
  show (if mb_fr g p = true then 0 else 1) ≤ 1
  by_cases h : mb_fr g p = true
  · rw [if_pos h]; omega
  · rw [if_neg h]; omega
theorem mb_bn_gw {g : Nat → Int32} {p b : Nat} (hp : p < 42) (hb : b < 32) (hf : mb_fr g p = true) : mb_bn (mb_gw g p b) = mb_bn g + 1 := by
  have hu := mb_T_upd (h := fun p => if mb_fr g p = true then 0 else 1) (p := p) (v := 1) 42 0 (Nat.zero_le _) (by omega)
  have e : mb_bn (mb_gw g p b) = mb_T (fun i => if i = p then 1 else if mb_fr g i = true then 0 else 1) 0 42 := by
    refine mb_T_ext 42 0 (fun i _ _ => ?_)
    show (if mb_fr (mb_gw g p b) i = true then 0 else 1) = if i = p then 1 else if mb_fr g i = true then 0 else 1
    by_cases h : i = p
    · rw [if_pos h, h, mb_free0 (b := b) (by omega) (mb_gw_p g p b), if_neg mb_ft]
    · rw [if_neg h]
      unfold mb_fr
      rw [mb_gw_o g p b (by omega) (by omega) (by omega)]
  have hz : (if mb_fr g p = true then 0 else 1) = 0 := if_pos hf
  have hu2 : mb_T (fun i => if i = p then 1 else if mb_fr g i = true then 0 else 1) 0 42 + (if mb_fr g p = true then 0 else 1) = mb_bn g + 1 := hu
  rw [e]
  omega
theorem mb_bn_grow : ∀ (m : Nat) (g : Nat → Int32), mb_iv g → mb_bn (mb_grow m g).2 = mb_bn g + (mb_grow m g).1 := by
  intro m
  induction m with
  | zero => intro g h; exact (Nat.add_zero (mb_bn g)).symm
  | succ m ih =>
    intro g hi
    cases hf : mb_fi g 42 0 with
    | none => rw [mb_grow0 hf]; exact (Nat.add_zero (mb_bn g)).symm
    | some q =>
      obtain ⟨p, b⟩ := q
      obtain ⟨f1, f2, f3, f4⟩ := mb_fi_some 42 0 p b hf
      obtain ⟨hb, hfr⟩ := mb_be_lt f3
      have k1 := hi.kc.1
      have h := ih (mb_gw g p b) (mb_gw_iv hi (by omega) hb)
      rw [mb_bn_gw (by omega) (by omega) hfr] at h
      rw [mb_grow1 hf]
      show mb_bn (mb_grow m (mb_gw g p b)).2 = mb_bn g + ((mb_grow m (mb_gw g p b)).1 + 1)
      omega
