/-! what stands: reached from the seed over sides that hold -/
def mb_rch (g : Nat → Int32) (z p : Nat) : Prop := ∀ P : Nat → Prop, P z → (∀ p s q, p < 42 → s < 4 → P p → mb_bs p s = some q → 0 < mb_pf (mb_bN g) g p s → P q) → P p
theorem mb_rch.refl (g : Nat → Int32) (z : Nat) : mb_rch g z z := fun _ h _ => h
theorem mb_rch.step {g : Nat → Int32} {z p s q : Nat} (h : mb_rch g z p) (hp : p < 42) (hs : s < 4) (hq : mb_bs p s = some q) (h2 : 0 < mb_pf (mb_bN g) g p s) : mb_rch g z q := fun P h0 h1 => h1 p s q hp hs (h P h0 h1) hq h2
noncomputable def mb_si (g : Nat → Int32) (p : Nat) : Nat := @ite Nat (∃ z, z < 42 ∧ g 1 = Int32.ofNat z ∧ mb_rch g z p) (Classical.propDecidable _) 1 0
theorem mb_si1 {g : Nat → Int32} {z p : Nat} (hz : z < 42) (h : g 1 = Int32.ofNat z) (h2 : mb_rch g z p) : mb_si g p = 1 := by
  unfold mb_si
  exact if_pos ⟨z, hz, h, h2⟩
theorem mb_si0 {g : Nat → Int32} {z p : Nat} (hz : z < 42) (h : g 1 = Int32.ofNat z) (h2 : ¬ mb_rch g z p) : mb_si g p = 0 := by
  unfold mb_si
  refine if_neg ?_
  rintro ⟨y, hy, h3, h4⟩
  rw [h] at h3
  have := (mb_eq (by omega) (by omega)).mp h3
  subst this
  exact h2 h4
theorem mb_siN {g : Nat → Int32} {p : Nat} (h : g 1 = -1) : mb_si g p = 0 := by
  unfold mb_si
  refine if_neg ?_
  rintro ⟨y, hy, h3, -⟩
  rw [h] at h3
  exact mb_nn (by omega) h3.symm
theorem mb_si_le (g : Nat → Int32) (p : Nat) : mb_si g p = 0 ∨ mb_si g p = 1 := by
  unfold mb_si
  by_cases h : ∃ z, z < 42 ∧ g 1 = Int32.ofNat z ∧ mb_rch g z p
  · exact Or.inr (if_pos h)
  · exact Or.inl (if_neg h)
/-- how many stand -/
noncomputable def mb_sn (g : Nat → Int32) : Nat := mb_T (mb_si g) 0 42
theorem mb_sn_max (g : Nat → Int32) : mb_sn g ≤ 42 := by
  refine mb_T_max (B := 1) 42 0 (fun p _ hp => ?_)
  rcases mb_si_le g p with h | h <;> omega
theorem mb_boo0 : gx_boo 0 = 0 := by decide
theorem mb_boo1 : gx_boo 1 = 1 := by decide
/-- only the searches' own rows have changed -/
def mb_sc (I V I' V' : gx_F) : Prop := (∀ k, k ≠ 48 → k ≠ 51 → I' k = I k) ∧ ∀ k, k ≠ 49 → k ≠ 50 → k ≠ 52 → V' k = V k
theorem mb_sc.refl (I V : gx_F) : mb_sc I V I V := ⟨fun _ _ _ => rfl, fun _ _ _ _ => rfl⟩
theorem mb_sc.trans {I V I' V' I2 V2 : gx_F} (h : mb_sc I V I' V') (h2 : mb_sc I' V' I2 V2) : mb_sc I V I2 V2 := ⟨fun k a b => (h2.1 k a b).trans (h.1 k a b), fun k a b c => (h2.2 k a b c).trans (h.2 k a b c)⟩
theorem mb_sc.wr {I V I' V' : gx_F} (h : mb_sc I V I' V') {k : Nat} (hk : k ≤ 40) {g : Nat → Int32} (hw : mb_wr I V k g) : mb_wr I' V' k g := by
  unfold mb_wr
  rw [h.1 k (by omega) (by omega), h.2 (k + 1) (by omega) (by omega) (by omega), h.2 (k + 2) (by omega) (by omega) (by omega), h.2 (k + 3) (by omega) (by omega) (by omega)]
  exact hw
theorem mb_isPlace {p : Nat} (hp : p < 42) (I V : gx_F) : f_X6_isPlace (Int32.ofNat p) I V = some true := by
  rw [f_X6_isPlace, if_neg (mb_pos (by omega)), if_neg (mb_42 p hp)]
/-- the search's cells: n are queued, of the first h all that they hold is reached -/
def mb_bf (g : Nat → Int32) (z : Nat) (I V : gx_F) (h n : Nat) : Prop :=
  I 48 2 = Int32.ofNat n ∧ h ≤ n ∧ (∀ p, p < 42 → V 49 p = 0 ∨ V 49 p = 1) ∧ mb_T (fun p => (V 49 p).toNatClampNeg) 0 42 = n ∧
  (∀ i, i < n → ∃ p, p < 42 ∧ V 50 i = Int32.ofNat p ∧ mb_rch g z p) ∧ (∀ p, p < 42 → V 49 p = 1 → ∃ i, i < n ∧ V 50 i = Int32.ofNat p) ∧
  (∀ i, i < h → ∀ p, p < 42 → V 50 i = Int32.ofNat p → ∀ s q, s < 4 → mb_bs p s = some q → 0 < mb_pf (mb_bN g) g p s → V 49 q = 1)
theorem mb_bf.max {g : Nat → Int32} {z : Nat} {I V : gx_F} {h n : Nat} (b : mb_bf g z I V h n) : n ≤ 42 := by
  obtain ⟨-, -, b3, b4, -⟩ := b
  rw [← b4]
  refine mb_T_max (B := 1) 42 0 (fun p _ hp => ?_)
  rcases b3 p (by omega) with h | h <;> rw [h] <;> decide
/-- what is reached stays so, what is queued too -/
def mb_mo (V V' : gx_F) (n : Nat) : Prop := (∀ p, p < 42 → V 49 p = 1 → V' 49 p = 1) ∧ ∀ i, i < n → V' 50 i = V 50 i
theorem mb_reach {g : Nat → Int32} {z : Nat} {I V : gx_F} {h n : Nat} (b : mb_bf g z I V h n) {q : Nat} (hq : q < 42) (hr : mb_rch g z q) :
    ∃ I' V' n', f_X0_reach (Int32.ofNat q) I V = some (I', V') ∧ mb_bf g z I' V' h n' ∧ n ≤ n' ∧ V' 49 q = 1 ∧ mb_mo V V' n ∧ mb_sc I V I' V' := by
  have hm := b.max
  have b0 := b
  obtain ⟨b1, b2, b3, b4, b5, b6, b7⟩ := b
  have hqi := mb_in (n := 42) hq (by omega)
  have hqt := mb_tn (a := q) (by omega)
  rw [f_X0_reach, mb_isPlace hq, Option.bind_some, if_neg (by decide), hqt]
  rcases b3 q hq with h0 | h1
  · have hu := mb_T_upd (h := fun p => (V 49 p).toNatClampNeg) (p := q) (v := 1) 42 0 (Nat.zero_le _) (by omega)
    have hz : (V 49 q).toNatClampNeg = 0 := by rw [h0]; rfl
    have hmx : mb_T (fun i => if i = q then 1 else (V 49 i).toNatClampNeg) 0 42 ≤ 1 * 42 := mb_T_max (B := 1) 42 0 (fun p _ hp => by
      show (if p = q then 1 else (V 49 p).toNatClampNeg) ≤ 1
      by_cases e : p = q
      · rw [if_pos e]; omega
      · rw [if_neg e]
        rcases b3 p (by omega) with h | h <;> rw [h] <;> decide)
    have hu2 : mb_T (fun i => if i = q then 1 else (V 49 i).toNatClampNeg) 0 42 = n + 1 := by
      have hu3 : mb_T (fun i => if i = q then 1 else (V 49 i).toNatClampNeg) 0 42 + (V 49 q).toNatClampNeg = mb_T (fun p => (V 49 p).toNatClampNeg) 0 42 + 1 := hu
      omega
    have hn : n < 42 := by omega
    refine ⟨gx_u I 48 2 (Int32.ofNat (n + 1)), gx_u (gx_u V 49 q 1) 50 n (Int32.ofNat q), n + 1, ?_, ?_, by omega, ?_, ⟨fun p hp h => ?_, fun i hi => ?_⟩, ⟨fun k a _ => ?_, fun k a c _ => ?_⟩⟩
    · rw [h0, mb_ck hqi, if_pos mb_boo0, b1, if_neg (mb_42 n hn), mb_ck hqi, mb_ck (mb_in hn (by omega)), mb_tn (by omega), mb_add1]
    · have v49 : ∀ p, (gx_u (gx_u V 49 q 1) 50 n (Int32.ofNat q)) 49 p = if p = q then 1 else V 49 p := fun p => rfl
      have v50 : ∀ i, (gx_u (gx_u V 49 q 1) 50 n (Int32.ofNat q)) 50 i = if i = n then Int32.ofNat q else V 50 i := fun p => rfl
      have mono : ∀ p, V 49 p = 1 → (gx_u (gx_u V 49 q 1) 50 n (Int32.ofNat q)) 49 p = 1 := by
        intro p h
        rw [v49]
        by_cases e : p = q
        · rw [if_pos e]
        · rw [if_neg e, h]
      refine ⟨rfl, by omega, fun p hp => ?_, ?_, fun i hi => ?_, fun p hp hv => ?_, fun i hi p hp hv s r hs hr2 hpf => ?_⟩
      · rw [v49]
        by_cases e : p = q
        · rw [if_pos e]
          exact Or.inr rfl
        · rw [if_neg e]
          exact b3 p hp
      · rw [← hu2]
        refine mb_T_ext 42 0 (fun i _ _ => ?_)
        show ((gx_u (gx_u V 49 q 1) 50 n (Int32.ofNat q)) 49 i).toNatClampNeg = if i = q then 1 else (V 49 i).toNatClampNeg
        rw [v49]
        by_cases e : i = q
        · rw [if_pos e, if_pos e]
          rfl
        · rw [if_neg e, if_neg e]
      · rw [v50]
        by_cases e : i = n
        · rw [if_pos e]
          exact ⟨q, hq, rfl, hr⟩
        · rw [if_neg e]
          exact b5 i (by omega)
      · rw [v49] at hv
        by_cases e : p = q
        · refine ⟨n, by omega, ?_⟩
          rw [v50, if_pos rfl, e]
        · rw [if_neg e] at hv
          obtain ⟨i, hi, h⟩ := b6 p hp hv
          refine ⟨i, by omega, ?_⟩
          rw [v50, if_neg (by omega), h]
      · rw [v50, if_neg (by omega)] at hv
        exact mono r (b7 i hi p hp hv s r hs hr2 hpf)
    · show (if q = q then (1 : Int32) else V 49 q) = 1
      rw [if_pos rfl]
    · show (if p = q then (1 : Int32) else V 49 p) = 1
      by_cases e : p = q
      · rw [if_pos e]
      · rw [if_neg e, h]
    · show (if i = n then Int32.ofNat q else V 50 i) = V 50 i
      rw [if_neg (by omega)]
    · exact gx_u_ne a
    · rw [gx_u_ne c, gx_u_ne a]
  · refine ⟨I, V, n, ?_, b0, Nat.le_refl _, h1, ⟨fun _ _ h => h, fun _ _ => rfl⟩, mb_sc.refl I V⟩
    rw [h1, mb_ck hqi, if_neg (by decide)]
theorem mb_rch_ne {g g' : Nat → Int32} {x : Int32} (hi : mb_iv g) (h : mb_wo g x g') {z : Nat} (hz : Int32.ofNat z ≠ x) {p : Nat} (hr : mb_rch g' z p) : Int32.ofNat p ≠ x := by
  refine hr (fun p => Int32.ofNat p ≠ x) hz (fun p s q hp hs _ hq hpf e => ?_)
  have hq2 := mb_bs_lt p hp s hs q hq
  rw [mb_pfS (mb_wsB g') (h.iv hi) hp hs hq, mb_pf1 (h.1 q hq2 e)] at hpf
  omega
theorem mb_le0 {a : Nat} (ha : a < 2 ^ 31) : Int32.ofNat a ≤ 0 ↔ a = 0 := by
  have h := mb_le (b := 0) ha (by decide)
  constructor
  · intro h2
    have := h.mp h2
    omega
  · intro h2
    subst h2
    decide
theorem mb_cw3 {g g' : Nat → Int32} {x : Int32} {k z p : Nat} (hk : k ≤ 40) (hi : mb_iv g) (hx : mb_wo g x g') (hp : p < 42) (hpx : Int32.ofNat p ≠ x) (hpr : mb_rch g' z p) (v : Int32) (V0 : gx_F) (hv : V0 50 v.toNatClampNeg = Int32.ofNat p) (K : Int32 → gx_F → gx_F → Option (Int32 × gx_F × gx_F)) : ∀ (m s n h N : Nat) (I V : gx_F), s + m = 4 → mb_wr I V k g → mb_bf g' z I V h N →
    ∃ I' V' N', f_X0_countWithout_L3 k x v V0 K (n + m + 1) (Int32.ofNat s) I V = K (Int32.ofNat 4) I' V' ∧ mb_bf g' z I' V' h N' ∧ N ≤ N' ∧ mb_mo V V' N ∧ mb_sc I V I' V' ∧ ∀ s' q, s ≤ s' → s' < 4 → mb_bs p s' = some q → 0 < mb_pf (mb_bN g') g' p s' → V' 49 q = 1 := by
  intro m
  induction m with
  | zero =>
    intro s n h N I V hs hw b
    have hs : s = 4 := by omega
    subst hs
    refine ⟨I, V, N, ?_, b, Nat.le_refl _, ⟨fun _ _ h => h, fun _ _ => rfl⟩, mb_sc.refl I V, fun s' q h1 h2 => by omega⟩
    rw [f_X0_countWithout_L3, if_pos (by decide)]
  | succ m ih =>
    intro s n h N I V hs hw b
    have hs4 : s < 4 := by omega
    have hst := hx.st hi hp hs4
    rw [(mb_st_of (hx.iv hi) hp).1, if_neg hpx] at hst
    have hle := (mb_st_of (s := s) (hx.iv hi) hp).2
    rw [show n + (m + 1) + 1 = (n + m + 1) + 1 by omega, f_X0_countWithout_L3, if_neg (mb_four s hs4), hv, mb_beside6 I V hp hs4, Option.bind_some, mb_strTow hw hi hp hs4, Option.bind_some, mb_add1]
    by_cases h1 : mb_N (mb_bs p s) = x
    · rw [if_pos h1] at hst
      have h0 : mb_pf (mb_bN g') g' p s = 0 := (mb_eq (by omega) (by omega)).mp hst
      obtain ⟨I', V', N', e, b', hN, hm, hsc, hcl⟩ := ih (s + 1) n h N I V (by omega) hw b
      refine ⟨I', V', N', ?_, b', hN, hm, hsc, fun s' q h3 h4 h5 h6 => ?_⟩
      · rw [if_pos h1, e]
      · by_cases e2 : s' = s
        · subst e2; omega
        · exact hcl s' q (by omega) h4 h5 h6
    · rw [if_neg h1] at hst
      rw [if_neg h1, ← hst]
      by_cases h2 : mb_pf (mb_bN g') g' p s = 0
      · obtain ⟨I', V', N', e, b', hN, hm, hsc, hcl⟩ := ih (s + 1) n h N I V (by omega) hw b
        refine ⟨I', V', N', ?_, b', hN, hm, hsc, fun s' q h3 h4 h5 h6 => ?_⟩
        · rw [if_pos ((mb_le0 (by omega)).mpr h2), e]
        · by_cases e2 : s' = s
          · subst e2; omega
          · exact hcl s' q (by omega) h4 h5 h6
      · rw [if_neg (fun h3 => h2 ((mb_le0 (by omega)).mp h3))]
        cases hq : mb_bs p s with
        | none => exact absurd (mb_pfE (mb_wsB g') (hx.iv hi) hp hq) h2
        | some q =>
          have hq2 := mb_bs_lt p hp s hs4 q hq
          obtain ⟨I1, V1, N1, e1, b1, hN1, hv1, hm1, hsc1⟩ := mb_reach b hq2 (hpr.step hp hs4 hq (by omega))
          obtain ⟨I', V', N', e, b', hN, hm, hsc, hcl⟩ := ih (s + 1) n h N1 I1 V1 (by omega) (hsc1.wr hk hw) b1
          refine ⟨I', V', N', ?_, b', by omega, ⟨fun p hp h => hm.1 p hp (hm1.1 p hp h), fun i hi => (hm.2 i (by omega)).trans (hm1.2 i hi)⟩, hsc1.trans hsc, fun s' r h3 h4 h5 h6 => ?_⟩
          · rw [show mb_N (some q) = Int32.ofNat q from rfl, e1, Option.bind_some]
            exact e
          · by_cases e2 : s' = s
            · subst e2
              rw [hq] at h5
              cases h5
              exact hm.1 q hq2 hv1
            · exact hcl s' r (by omega) h4 h5 h6
theorem mb_cw2 {g g' : Nat → Int32} {x : Int32} {k z : Nat} (hk : k ≤ 40) (hi : mb_iv g) (hx : mb_wo g x g') (hz : Int32.ofNat z ≠ x) (K : Int32 → gx_F → gx_F → Option (Int32 × gx_F × gx_F)) : ∀ (m h n N : Nat) (I V : gx_F), h + m = 42 → mb_wr I V k g → mb_bf g' z I V h N →
    ∃ I' V' N', f_X0_countWithout_L2 k x K (n + m + 1) (Int32.ofNat h) I V = K (Int32.ofNat N') I' V' ∧ mb_bf g' z I' V' N' N' ∧ mb_mo V V' N ∧ mb_sc I V I' V' := by
  intro m
  induction m with
  | zero =>
    intro h n N I V hm hw b
    have hmx := b.max
    have hh := b.2.1
    have e : h = N := by omega
    subst e
    refine ⟨I, V, h, ?_, b, ⟨fun _ _ h => h, fun _ _ => rfl⟩, mb_sc.refl I V⟩
    rw [f_X0_countWithout_L2, b.1, if_pos ((mb_le (by omega) (by omega)).mpr (Nat.le_refl _))]
  | succ m ih =>
    intro h n N I V hm hw b
    have hmx := b.max
    have hh := b.2.1
    rw [show n + (m + 1) + 1 = (n + m + 1) + 1 by omega, f_X0_countWithout_L2, b.1]
    by_cases e : h = N
    · subst e
      refine ⟨I, V, h, ?_, b, ⟨fun _ _ h => h, fun _ _ => rfl⟩, mb_sc.refl I V⟩
      rw [if_pos ((mb_le (by omega) (by omega)).mpr (Nat.le_refl _))]
    · rw [if_neg (fun h2 => absurd ((mb_le (by omega) (by omega)).mp h2) (by omega)), if_neg (mb_42 h (by omega)), mb_ck (mb_in (by omega) (by omega))]
      obtain ⟨p, hp, hv, hr⟩ := b.2.2.2.2.1 h (by omega)
      obtain ⟨I1, V1, N1, e1, b1, hN1, hm1, hsc1, hcl1⟩ := mb_cw3 hk hi hx hp (mb_rch_ne hi hx hz hr) hr (Int32.ofNat h) V (by rw [mb_tn (by omega)]; exact hv) (fun v I V => f_X0_countWithout_L2 k x K (n + m + 1) (Int32.ofNat h + 1) I V) 4 0 995 h N I V rfl hw b
      have b2 : mb_bf g' z I1 V1 (h + 1) N1 := by
        obtain ⟨c1, c2, c3, c4, c5, c6, c7⟩ := b1
        refine ⟨c1, by omega, c3, c4, c5, c6, fun i hi p2 hp2 hv2 s q hs hq hpf => ?_⟩
        by_cases e2 : i = h
        · subst e2
          rw [hm1.2 i (by omega), hv] at hv2
          have := (mb_eq (by omega) (by omega)).mp hv2
          subst this
          exact hcl1 s q (by omega) hs hq hpf
        · exact c7 i (by omega) p2 hp2 hv2 s q hs hq hpf
      obtain ⟨I', V', N', e3, b3, hm3, hsc3⟩ := ih (h + 1) n N1 I1 V1 (by omega) (hsc1.wr hk hw) b2
      refine ⟨I', V', N', ?_, b3, ⟨fun p hp h => hm3.1 p hp (hm1.1 p hp h), fun i hi => (hm3.2 i (by omega)).trans (hm1.2 i hi)⟩, hsc1.trans hsc3⟩
      refine e1.trans ?_
      show f_X0_countWithout_L2 k x K (n + m + 1) (Int32.ofNat h + 1) I1 V1 = _
      rw [mb_add1]
      exact e3
