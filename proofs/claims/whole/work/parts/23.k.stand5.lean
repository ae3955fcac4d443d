/-! the class's count of what stands -/
theorem mb_L5 (k : Nat) (x v : Int32) (V0 : gx_F) (K : Int32 → gx_F → gx_F → Option (Int32 × gx_F × gx_F)) : ∀ (n : Nat) (s : Int32) (I V : gx_F), f_X0_countWithout_L5 k x v V0 K n s I V = f_X0_countWithout_L3 k x v V0 K n s I V := by
  intro n
  induction n with
  | zero => intro s I V; rfl
  | succ n ih =>
    intro s I V
    rw [f_X0_countWithout_L5, f_X0_countWithout_L3]
    simp only [ih]
theorem mb_L4 (k : Nat) (x : Int32) (K : Int32 → gx_F → gx_F → Option (Int32 × gx_F × gx_F)) : ∀ (n : Nat) (s : Int32) (I V : gx_F), f_X0_countWithout_L4 k x K n s I V = f_X0_countWithout_L2 k x K n s I V := by
  intro n
  induction n with
  | zero => intro s I V; rfl
  | succ n ih =>
    intro s I V
    rw [f_X0_countWithout_L4, f_X0_countWithout_L2]
    simp only [mb_L5, ih]
theorem mb_cw1 (K : Int32 → gx_F → gx_F → Option (Int32 × gx_F × gx_F)) : ∀ (m s n : Nat) (I V : gx_F), s + m = 42 →
    ∃ V', f_X0_countWithout_L1 K (n + m + 1) (Int32.ofNat s) I V = K (Int32.ofNat 42) I V' ∧ (∀ p, s ≤ p → p < 42 → V' 49 p = 0) ∧ (∀ p, p < s → V' 49 p = V 49 p) ∧ ∀ k, k ≠ 49 → V' k = V k := by
  intro m
  induction m with
  | zero =>
    intro s n I V hm
    have hs : s = 42 := by omega
    subst hs
    refine ⟨V, ?_, fun p h1 h2 => by omega, fun _ _ => rfl, fun _ _ => rfl⟩
    rw [f_X0_countWithout_L1, if_pos (by decide)]
  | succ m ih =>
    intro s n I V hm
    have hs : s < 42 := by omega
    obtain ⟨V', e, h1, h2, h3⟩ := ih (s + 1) n I (gx_u V 49 s 0) (by omega)
    refine ⟨V', ?_, fun p h4 h5 => ?_, fun p h4 => ?_, fun k hk => (h3 k hk).trans (gx_u_ne hk)⟩
    · rw [show n + (m + 1) + 1 = (n + m + 1) + 1 by omega, f_X0_countWithout_L1, if_neg (mb_42 s hs), mb_ck (mb_in hs (by omega)), mb_add1, mb_tn (by omega)]
      exact e
    · by_cases h6 : p = s
      · subst h6
        rw [h2 p (by omega)]
        show (if p = p then (0 : Int32) else V 49 p) = 0
        rw [if_pos rfl]
      · exact h1 p (by omega) h5
    · rw [h2 p (by omega)]
      show (if p = s then (0 : Int32) else V 49 p) = V 49 p
      rw [if_neg (by omega)]
/-- the search's end: reached is what stands -/
theorem mb_bf.si {g : Nat → Int32} {z : Nat} {I V : gx_F} {n : Nat} (b : mb_bf g z I V n n) (hz : z < 42) (hg : g 1 = Int32.ofNat z) (hz1 : V 49 z = 1) : (∀ p, p < 42 → V 49 p = Int32.ofNat (mb_si g p)) ∧ n = mb_sn g := by
  obtain ⟨b1, b2, b3, b4, b5, b6, b7⟩ := b
  have h1 : ∀ p, mb_rch g z p → p < 42 ∧ V 49 p = 1 := by
    intro p hr
    refine hr (fun p => p < 42 ∧ V 49 p = 1) ⟨hz, hz1⟩ (fun p s q hp hs hv hq hpf => ?_)
    obtain ⟨i, hi, hv2⟩ := b6 p hp hv.2
    exact ⟨mb_bs_lt p hp s hs q hq, b7 i hi p hp hv2 s q hs hq hpf⟩
  have h2 : ∀ p, p < 42 → V 49 p = Int32.ofNat (mb_si g p) := by
    intro p hp
    rcases b3 p hp with h | h
    · rw [h, mb_si0 hz hg]
      · rfl
      · intro hr
        have h3 := (h1 p hr).2
        rw [h] at h3
        exact absurd h3 (by decide)
    · obtain ⟨i, hi, hv⟩ := b6 p hp h
      obtain ⟨q, hq, hv2, hr⟩ := b5 i hi
      rw [hv] at hv2
      have := (mb_eq (by omega) (by omega)).mp hv2
      subst this
      rw [h, mb_si1 hz hg hr]
      rfl
  refine ⟨h2, ?_⟩
  rw [← b4, mb_sn]
  refine mb_T_ext 42 0 (fun p _ hp => ?_)
  show (V 49 p).toNatClampNeg = mb_si g p
  rw [h2 p (by omega)]
  rcases mb_si_le g p with h | h <;> rw [h] <;> rfl
theorem mb_iv.seed {g : Nat → Int32} (h : mb_iv g) : g 1 = -1 ∨ ∃ p : Nat, p < 42 ∧ g 1 = Int32.ofNat p := by
  obtain ⟨kc, need, -, -, -, -, -, h6, -⟩ := h
  exact h6
/-- how many stand without a place -/
theorem mb_count {I V : gx_F} {k : Nat} {g g' : Nat → Int32} {x : Int32} (hk : k ≤ 40) (hw : mb_wr I V k g) (hi : mb_iv g) (hx : mb_wo g x g') :
    ∃ I' V', f_X0_countWithout k x I V = some (Int32.ofNat (if g 1 = x then 0 else mb_sn g'), I', V') ∧ mb_sc I V I' V' ∧ ∀ p, p < 42 → V' 49 p = Int32.ofNat (if g 1 = x then 0 else mb_si g' p) := by
  have hI5 : (gx_u I 48 2 0) k 5 = g 1 := by
    rw [gx_u_ne (show k ≠ 48 by omega)]
    exact hw.2.2.2.2.2.1
  obtain ⟨V1, e1, z1, -, f1⟩ := mb_cw1 (fun uv_4 uI_5 uV_6 => (if ((gx_u uI_5 48 2 0) k 5) = x then (f_X0_countWithout_L2 k x (fun uv_19 uI_20 uV_21 => (some ((uI_20 48 2), uI_20, uV_21))) 1000 0 (gx_u uI_5 48 2 0) uV_6) else (Option.bind (f_X0_reach ((gx_u uI_5 48 2 0) k 5) (gx_u uI_5 48 2 0) uV_6) fun uq_22 => (f_X0_countWithout_L4 k x (fun uv_35 uI_36 uV_37 => (some ((uI_36 48 2), uI_36, uV_37))) 1000 0 uq_22.1 uq_22.2)))) 42 0 957 I V rfl
  have sc1 : mb_sc I V (gx_u I 48 2 0) V1 := ⟨fun j h1 _ => gx_u_ne h1, fun j h1 _ _ => f1 j h1⟩
  have hn : (gx_u I 48 2 0) 48 2 = 0 := rfl
  have e0 : f_X0_countWithout k x I V = (if ((gx_u I 48 2 0) k 5) = x then (f_X0_countWithout_L2 k x (fun uv_19 uI_20 uV_21 => (some ((uI_20 48 2), uI_20, uV_21))) 1000 0 (gx_u I 48 2 0) V1) else (Option.bind (f_X0_reach ((gx_u I 48 2 0) k 5) (gx_u I 48 2 0) V1) fun uq_22 => (f_X0_countWithout_L4 k x (fun uv_35 uI_36 uV_37 => (some ((uI_36 48 2), uI_36, uV_37))) 1000 0 uq_22.1 uq_22.2))) := e1
  have none1 : ∀ (K : Int32 → gx_F → gx_F → Option (Int32 × gx_F × gx_F)), f_X0_countWithout_L2 k x K 1000 0 (gx_u I 48 2 0) V1 = K 0 (gx_u I 48 2 0) V1 := by
    intro K
    rw [f_X0_countWithout_L2, hn, if_pos (by decide)]
  rw [e0, hI5]
  by_cases h1 : g 1 = x
  · refine ⟨gx_u I 48 2 0, V1, ?_, sc1, fun p hp => ?_⟩
    · rw [if_pos h1, if_pos h1, none1, hn]
      rfl
    · rw [if_pos h1, z1 p (Nat.zero_le _) hp]
      rfl
  · rw [if_neg h1, if_neg h1]
    have hg1 : g' 1 = g 1 := hx.2.2 1 (by omega)
    rcases hi.seed with h2 | ⟨z, hz, h2⟩
    · refine ⟨gx_u I 48 2 0, V1, ?_, sc1, fun p hp => ?_⟩
      · rw [h2, f_X0_reach, f_X6_isPlace, if_pos (by decide), Option.bind_some, if_pos gx_bi_0, Option.bind_some, mb_L4, none1, hn, mb_sn, mb_T_zero 42 0 (fun p _ _ => mb_siN (hg1.trans h2))]
        rfl
      · rw [if_neg h1, z1 p (Nat.zero_le _) hp, mb_siN (hg1.trans h2)]
        rfl
    · have hzx : Int32.ofNat z ≠ x := by
        rw [← h2]
        exact h1
      have b0 : mb_bf g' z (gx_u I 48 2 0) V1 0 0 := by
        refine ⟨hn, Nat.le_refl _, fun p hp => Or.inl (z1 p (Nat.zero_le _) hp), ?_, fun i hi => by omega, fun p hp h => ?_, fun i hi => by omega⟩
        · refine mb_T_zero 42 0 (fun p _ hp => ?_)
          rw [z1 p (Nat.zero_le _) (by omega)]
          rfl
        · rw [z1 p (Nat.zero_le _) hp] at h
          exact absurd h (by decide)
      obtain ⟨I2, V2, n2, e2, b2, -, hv2, -, sc2⟩ := mb_reach b0 hz (mb_rch.refl g' z)
      have sc3 := sc1.trans sc2
      obtain ⟨I3, V3, n3, e3, b3, m3, sc4⟩ := mb_cw2 hk hi hx hzx (fun uv_35 uI_36 uV_37 => (some ((uI_36 48 2), uI_36, uV_37))) 42 0 957 n2 I2 V2 rfl (sc3.wr hk hw) b2
      have s3 := b3.si hz (hg1.trans h2) (m3.1 z hz hv2)
      refine ⟨I3, V3, ?_, sc3.trans sc4, fun p hp => ?_⟩
      · rw [h2, e2, Option.bind_some, mb_L4]
        refine e3.trans ?_
        rw [b3.1, s3.2]
      · rw [if_neg h1, s3.1 p hp]
/-- without a brick that does not stand all else stands as before -/
theorem mb_rch_del {g g' : Nat → Int32} {z w : Nat} (hw : w < 42) (hi : mb_iv g) (hx : mb_wo g (Int32.ofNat w) g') (h : ¬ mb_rch g z w) (p : Nat) : mb_rch g' z p ↔ mb_rch g z p := by
  have hp1 : ∀ p s, p < 42 → s < 4 → Int32.ofNat p ≠ Int32.ofNat w → mb_N (mb_bs p s) ≠ Int32.ofNat w → mb_pf (mb_bN g') g' p s = mb_pf (mb_bN g) g p s := by
    intro p s hp hs h1 h2
    have a := mb_st_of (s := s) (hx.iv hi) hp
    have b := mb_st_of (s := s) hi hp
    have c := hx.st hi hp hs
    rw [if_neg h1, if_neg h2, a.1, b.1] at c
    exact (mb_eq (by omega) (by omega)).mp c
  have hp2 : ∀ p s, p < 42 → s < 4 → 0 < mb_pf (mb_bN g') g' p s → Int32.ofNat p ≠ Int32.ofNat w ∧ mb_N (mb_bs p s) ≠ Int32.ofNat w := by
    intro p s hp hs h0
    have a := mb_st_of (s := s) (hx.iv hi) hp
    have c := hx.st hi hp hs
    rw [a.1] at c
    by_cases h1 : Int32.ofNat p = Int32.ofNat w
    · rw [if_pos h1] at c
      have := (mb_eq (b := 0) (by omega) (by omega)).mp c
      omega
    · rw [if_neg h1] at c
      by_cases h2 : mb_N (mb_bs p s) = Int32.ofNat w
      · rw [if_pos h2] at c
        have := (mb_eq (b := 0) (by omega) (by omega)).mp c
        omega
      · exact ⟨h1, h2⟩
  constructor
  · intro hr
    refine hr (mb_rch g z) (mb_rch.refl g z) (fun p s q hp hs h1 hq h2 => ?_)
    obtain ⟨a, b⟩ := hp2 p s hp hs h2
    rw [hp1 p s hp hs a b] at h2
    exact h1.step hp hs hq h2
  · intro hr
    refine (hr (fun p => mb_rch g z p ∧ mb_rch g' z p) ⟨mb_rch.refl g z, mb_rch.refl g' z⟩ (fun p s q hp hs h1 hq h2 => ?_)).2
    have h3 := h1.1.step hp hs hq h2
    have hq2 := mb_bs_lt p hp s hs q hq
    refine ⟨h3, h1.2.step hp hs hq ?_⟩
    rw [hp1 p s hp hs]
    · exact h2
    · intro e
      have := (mb_eq (by omega) (by omega)).mp e
      subst this
      exact h h1.1
    · rw [hq]
      intro e
      have := (mb_eq (by omega) (by omega)).mp e
      subst this
      exact h h3
theorem mb_sn_del {g g' : Nat → Int32} {w : Nat} (hw : w < 42) (hi : mb_iv g) (hx : mb_wo g (Int32.ofNat w) g') (h : mb_si g w = 0) : mb_sn g' = mb_sn g := by
  have hg1 : g' 1 = g 1 := hx.2.2 1 (by omega)
  refine mb_T_ext 42 0 (fun p _ _ => ?_)
  rcases hi.seed with h2 | ⟨z, hz, h2⟩
  · rw [mb_siN h2, mb_siN (hg1.trans h2)]
  · have hn : ¬ mb_rch g z w := by
      intro hr
      rw [mb_si1 hz h2 hr] at h
      omega
    have hiff := mb_rch_del (z := z) hw hi hx hn p
    by_cases h3 : mb_rch g z p
    · rw [mb_si1 hz h2 h3, mb_si1 hz (hg1.trans h2) (hiff.mpr h3)]
    · rw [mb_si0 hz h2 h3, mb_si0 hz (hg1.trans h2) (fun h4 => h3 (hiff.mp h4))]
/-- how many others would fall without a brick -/
noncomputable def mb_fl (g : Nat → Int32) (w : Nat) : Int32 := if mb_si g w = 0 then 0 else if g 1 = Int32.ofNat w then Int32.ofNat (mb_sn g) - 1 else Int32.ofNat (mb_sn g) - 1 - Int32.ofNat (mb_sn (mb_del g w))
theorem mb_isReached {I V : gx_F} {f : Nat → Nat} {w : Nat} (hw : w < 42) (h1 : f w = 0 ∨ f w = 1) (h : V 49 w = Int32.ofNat (f w)) : f_X0_isReached (Int32.ofNat w) I V = some (decide (f w = 1)) := by
  rw [f_X0_isReached, mb_isPlace hw, Option.bind_some, if_neg (by decide), mb_ck (mb_in hw (by omega)), mb_tn (by omega), h]
  rcases h1 with h1 | h1 <;> rw [h1] <;> rfl
theorem mb_falling {I V : gx_F} {k : Nat} {g : Nat → Int32} (hk : k ≤ 40) (hw : mb_wr I V k g) (hi : mb_iv g) {w : Nat} (hw2 : w < 42) :
    ∃ I' V', f_X0_fallingWithout k (Int32.ofNat w) I V = some (mb_fl g w, I', V') ∧ mb_sc I V I' V' := by
  obtain ⟨I1, V1, e1, sc1, r1⟩ := mb_count hk hw hi (mb_woN g)
  have hr : ∀ p, (if g 1 = -1 then 0 else mb_si g p) = mb_si g p := by
    intro p
    by_cases h : g 1 = -1
    · rw [if_pos h, mb_siN h]
    · rw [if_neg h]
  have hs : (if g 1 = -1 then 0 else mb_sn g) = mb_sn g := by
    by_cases h : g 1 = -1
    · rw [if_pos h, mb_sn, mb_T_zero 42 0 (fun p _ _ => mb_siN h)]
    · rw [if_neg h]
  have r2 := r1 w hw2
  rw [hr] at r2
  rw [hs] at e1
  rw [f_X0_fallingWithout, e1, Option.bind_some, mb_isReached hw2 (mb_si_le g w) r2, Option.bind_some]
  unfold mb_fl
  rcases mb_si_le g w with h | h
  · rw [h, if_pos (by decide), if_pos rfl]
    exact ⟨I1, V1, rfl, sc1⟩
  · rw [h, if_neg (by decide), if_neg (by decide)]
    obtain ⟨I2, V2, e2, sc2, -⟩ := mb_count hk (sc1.wr hk hw) hi (mb_woD g hw2)
    refine ⟨I2, V2, ?_, sc1.trans sc2⟩
    rw [e2, Option.bind_some]
    by_cases h3 : g 1 = Int32.ofNat w
    · rw [if_pos h3, if_pos h3]
      exact congrArg (fun y => some (y, I2, V2)) (Int32.sub_zero _)
    · rw [if_neg h3, if_neg h3]
