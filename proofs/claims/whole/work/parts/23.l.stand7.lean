/-! the model's count of what stands -/
theorem mb_L8 (v : Int32) (K : Int32 → gx_F → gx_F → Option (Int32 × gx_F × gx_F)) : ∀ (n : Nat) (s : Int32) (J U : gx_F), f_X7_standing0_L8 v K n s J U = f_X7_standing0_L4 v K n s J U := by
  intro n
  induction n with
  | zero => intro s J U; rfl
  | succ n ih =>
    intro s J U
    rw [f_X7_standing0_L8, f_X7_standing0_L4]
    simp only [ih]
theorem mb_L7 (K : Int32 → Int32 → gx_F → gx_F → Option (Int32 × gx_F × gx_F)) : ∀ (n : Nat) (w s : Int32) (J U : gx_F), f_X7_standing0_L7 K n w s J U = f_X7_standing0_L3 K n w s J U := by
  intro n
  induction n with
  | zero => intro w s J U; rfl
  | succ n ih =>
    intro w s J U
    rw [f_X7_standing0_L7, f_X7_standing0_L3]
    simp only [mb_L8, ih]
theorem mb_L6 (K : Int32 → gx_F → gx_F → Option (Int32 × gx_F × gx_F)) : ∀ (n : Nat) (s : Int32) (J U : gx_F), f_X7_standing0_L6 K n s J U = f_X7_standing0_L2 K n s J U := by
  intro n
  induction n with
  | zero => intro s J U; rfl
  | succ n ih =>
    intro s J U
    rw [f_X7_standing0_L6, f_X7_standing0_L2]
    simp only [mb_L7, ih]
theorem mb_L9 (V0 : gx_F) (K : Int32 → Int32 → Option (Int32 × gx_F × gx_F)) : ∀ (n : Nat) (a s : Int32), f_X7_standing0_L9 V0 K n a s = f_X7_standing0_L5 V0 K n a s := by
  intro n
  induction n with
  | zero => intro a s; rfl
  | succ n ih =>
    intro a s
    rw [f_X7_standing0_L9, f_X7_standing0_L5]
    simp only [ih]
/-- the pass's cells: what has come stands, the seed has come -/
def mb_mf (g : Nat → Int32) (z : Nat) (U : gx_F) : Prop := U 59 = g ∧ (∀ p, p < 42 → U 66 p = 0 ∨ U 66 p = 1) ∧ (∀ p, p < 42 → U 66 p = 1 → mb_rch g z p) ∧ U 66 z = 1
def mb_cm (U : gx_F) : Nat := mb_T (fun p => (U 66 p).toNatClampNeg) 0 42
theorem mb_cm_max {g : Nat → Int32} {z : Nat} {U : gx_F} (h : mb_mf g z U) : mb_cm U ≤ 42 := by
  refine mb_T_max (B := 1) 42 0 (fun p _ hp => ?_)
  rcases h.2.1 p (by omega) with h | h <;> rw [h] <;> decide
theorem mb_come {g : Nat → Int32} {z p : Nat} {U : gx_F} (h : mb_mf g z U) (hr : mb_rch g z p) : mb_mf g z (gx_u U 66 p 1) := by
  have v66 : ∀ i, (gx_u U 66 p 1) 66 i = if i = p then 1 else U 66 i := fun i => rfl
  refine ⟨(gx_u_ne (by decide)).trans h.1, fun q hq => ?_, fun q hq hv => ?_, ?_⟩
  · rw [v66]
    by_cases e : q = p
    · rw [if_pos e]
      exact Or.inr rfl
    · rw [if_neg e]
      exact h.2.1 q hq
  · by_cases e : q = p
    · subst e
      exact hr
    · rw [v66, if_neg e] at hv
      exact h.2.2.1 q hq hv
  · rw [v66]
    by_cases e : z = p
    · rw [if_pos e]
    · rw [if_neg e]
      exact h.2.2.2
theorem mb_s04 {g : Nat → Int32} {z p b : Nat} (hi : mb_iv g) (hp : p < 42) (hb : b < 32) (hg : g (45 + p) = Int32.ofNat b) (J : gx_F) (K : Int32 → gx_F → gx_F → Option (Int32 × gx_F × gx_F)) : ∀ (m s n : Nat) (U : gx_F), s + m = 4 → mb_mf g z U →
    ∃ U', f_X7_standing0_L4 (Int32.ofNat p) K (n + m + 1) (Int32.ofNat s) J U = K (Int32.ofNat 4) J U' ∧ mb_mf g z U' ∧ ((U' = U ∧ ∀ s' q, s ≤ s' → s' < 4 → mb_bs p s' = some q → 0 < mb_pf (mb_bN g) g p s' → U 66 q = 0) ∨ U' = gx_u U 66 p 1) := by
  intro m
  induction m with
  | zero =>
    intro s n U hm hf
    have hs : s = 4 := by omega
    subst hs
    refine ⟨U, ?_, hf, Or.inl ⟨rfl, fun s' q h1 h2 => by omega⟩⟩
    rw [f_X7_standing0_L4, if_pos (by decide)]
  | succ m ih =>
    intro s n U hm hf
    have hs : s < 4 := by omega
    obtain ⟨-, -, -, -, h5, -⟩ := mb_small p (by omega)
    have hgU : U 59 = g := hf.1
    have hha : mb_ha g p b s = Int32.ofNat (mb_pf (mb_bN g) g p s) := by
      rw [← (mb_st_of hi hp).1, mb_st, if_neg (by rw [mb_free0 (by omega) hg]; decide), hg, mb_tn (by omega)]
    have hle := (mb_st_of (s := s) hi hp).2
    rw [show n + (m + 1) + 1 = (n + m + 1) + 1 by omega, f_X7_standing0_L4, if_neg (mb_four s hs), mb_ck (mb_in42 p hp).2, h5, hgU, hg, mb_heldAt7 (by rw [hgU]; exact hi) hp hb hs, Option.bind_some, hgU, hha, mb_beside7 J U hp hs, Option.bind_some, mb_add1]
    by_cases h2 : mb_pf (mb_bN g) g p s = 0
    · obtain ⟨U', e, hf', hc⟩ := ih (s + 1) n U (by omega) hf
      refine ⟨U', ?_, hf', ?_⟩
      · rw [if_pos ((mb_le0 (by omega)).mpr h2), e]
      · rcases hc with ⟨hc1, hc2⟩ | hc
        · refine Or.inl ⟨hc1, fun s' q h3 h4 h5 h6 => ?_⟩
          by_cases e2 : s' = s
          · subst e2; omega
          · exact hc2 s' q (by omega) h4 h5 h6
        · exact Or.inr hc
    · rw [if_neg (fun h3 => h2 ((mb_le0 (by omega)).mp h3))]
      cases hq : mb_bs p s with
      | none => exact absurd (mb_pfE (mb_wsB g) hi hp hq) h2
      | some q =>
        have hq2 := mb_bs_lt p hp s hs q hq
        rw [show mb_N (some q) = Int32.ofNat q from rfl, mb_ck (mb_in hq2 (by omega)), mb_tn (by omega)]
        rcases hf.2.1 q hq2 with h0 | h1
        · obtain ⟨U', e, hf', hc⟩ := ih (s + 1) n U (by omega) hf
          refine ⟨U', ?_, hf', ?_⟩
          · rw [h0, if_pos mb_boo0, e]
          · rcases hc with ⟨hc1, hc2⟩ | hc
            · refine Or.inl ⟨hc1, fun s' r h3 h4 h5 h6 => ?_⟩
              by_cases e2 : s' = s
              · subst e2
                rw [hq] at h5
                cases h5
                exact h0
              · exact hc2 s' r (by omega) h4 h5 h6
            · exact Or.inr hc
        · have hr : mb_rch g z p := (hf.2.2.1 q hq2 h1).step hq2 (by omega) (mb_bs_back p hp s hs q hq2 hq) (by
            rw [← mb_pfS (mb_wsB g) hi hp hs hq]
            omega)
          obtain ⟨U', e, hf', hc⟩ := ih (s + 1) n (gx_u U 66 p 1) (by omega) (mb_come hf hr)
          refine ⟨U', ?_, hf', Or.inr ?_⟩
          · rw [h1, if_neg (by decide), mb_ck (mb_in hp (by omega)), mb_tn (by omega), e]
          · rcases hc with ⟨hc1, -⟩ | hc
            · exact hc1
            · rw [hc]
              funext a c
              unfold gx_u
              by_cases e1 : a = 66
              · rw [if_pos e1, if_pos e1]
                by_cases e2 : c = p
                · rw [if_pos e2, if_pos e2]
                · rw [if_neg e2, if_neg e2]
              · rw [if_neg e1, if_neg e1]
def mb_cl (g : Nat → Int32) (U : gx_F) (r : Nat) : Prop := U 66 r = 0 → ∀ s q, s < 4 → mb_bs r s = some q → 0 < mb_pf (mb_bN g) g r s → U 66 q = 0
theorem mb_or01 : ((0 : Int32) ||| 0 = 0) ∧ ((1 : Int32) ||| 0 = 1) ∧ ((0 : Int32) ||| 1 = 1) ∧ ((1 : Int32) ||| 1 = 1) := by decide
theorem mb_s03 {g : Nat → Int32} {z : Nat} (hi : mb_iv g) (J : gx_F) (K : Int32 → Int32 → gx_F → gx_F → Option (Int32 × gx_F × gx_F)) : ∀ (m p n : Nat) (U : gx_F) (w : Int32), p + m = 42 → mb_mf g z U → (w = 0 ∨ w = 1) →
    ∃ U' w', f_X7_standing0_L3 K (n + m + 1) w (Int32.ofNat p) J U = K w' (Int32.ofNat 42) J U' ∧ mb_mf g z U' ∧ (∀ k, k ≠ 66 → U' k = U k) ∧ mb_cm U ≤ mb_cm U' ∧ (w' = 0 ∨ w' = 1) ∧ (w' = 0 → w = 0 ∧ U' = U ∧ ∀ r, p ≤ r → r < 42 → mb_cl g U r) ∧ (w' = 1 → w = 1 ∨ mb_cm U < mb_cm U') := by
  intro m
  induction m with
  | zero =>
    intro p n U w hm hf hw
    have hs : p = 42 := by omega
    subst hs
    refine ⟨U, w, ?_, hf, fun _ _ => rfl, Nat.le_refl _, hw, fun h => ⟨h, rfl, fun r h1 h2 => by omega⟩, fun h => Or.inl h⟩
    rw [f_X7_standing0_L3, if_pos (by decide)]
  | succ m ih =>
    intro p n U w hm hf hw
    have hp : p < 42 := by omega
    have hgU : U 59 = g := hf.1
    have hfr : f_X7_isFree (Int32.ofNat p) J U = some (mb_fr (U 59) p) := mb_isFree7 hp
    rw [show n + (m + 1) + 1 = (n + m + 1) + 1 by omega, f_X7_standing0_L3, if_neg (mb_42 p hp), mb_ck (mb_in hp (by omega)), mb_tn (by omega), hfr, Option.bind_some, hgU, mb_add1]
    have skip : (mb_cl g U p) → ∃ U' w', f_X7_standing0_L3 K (n + m + 1) w (Int32.ofNat (p + 1)) J U = K w' (Int32.ofNat 42) J U' ∧ mb_mf g z U' ∧ (∀ k, k ≠ 66 → U' k = U k) ∧ mb_cm U ≤ mb_cm U' ∧ (w' = 0 ∨ w' = 1) ∧ (w' = 0 → w = 0 ∧ U' = U ∧ ∀ r, p ≤ r → r < 42 → mb_cl g U r) ∧ (w' = 1 → w = 1 ∨ mb_cm U < mb_cm U') := by
      intro hcl
      obtain ⟨U', w', e, a1, a2, a3, a4, a5, a6⟩ := ih (p + 1) n U w (by omega) hf hw
      refine ⟨U', w', e, a1, a2, a3, a4, fun h => ?_, a6⟩
      obtain ⟨b1, b2, b3⟩ := a5 h
      refine ⟨b1, b2, fun r h1 h2 => ?_⟩
      by_cases e2 : r = p
      · subst e2
        exact hcl
      · exact b3 r (by omega) h2
    rcases hf.2.1 p hp with h0 | h1
    · rw [h0, if_pos mb_boo0]
      rcases hi.br hp with h | ⟨b, hb, h⟩
      · rw [mb_free1 h, if_neg (by decide)]
        refine skip (fun _ s q _ _ hpf => ?_)
        rw [mb_pf1 h] at hpf
        omega
      · rw [mb_free0 (by omega) h, if_pos gx_bi_0]
        obtain ⟨U1, e1, hf1, hc1⟩ := mb_s04 (z := z) hi hp hb h J (fun uv_20 uI_21 uV_22 => (gx_ck (gx_in (Int32.ofNat p) 42) (f_X7_standing0_L3 K (n + m + 1) (w ||| (gx_boo (uV_22 66 p))) (Int32.ofNat (p + 1)) uI_21 uV_22))) 4 0 995 U rfl hf
        rw [show (f_X7_standing0_L4 (Int32.ofNat p) (fun uv_20 uI_21 uV_22 => (gx_ck (gx_in (Int32.ofNat p) 42) (f_X7_standing0_L3 K (n + m + 1) (w ||| (gx_boo (uV_22 66 p))) (Int32.ofNat (p + 1)) uI_21 uV_22))) 1000 0 J U) = _ from e1, mb_ck (mb_in hp (by omega))]
        rcases hc1 with ⟨e2, hc2⟩ | e2
        · subst e2
          rw [h0, mb_boo0, show w ||| 0 = w by rcases hw with h | h <;> rw [h] <;> decide]
          exact skip (fun _ s q hs hq hpf => hc2 s q (Nat.zero_le _) hs hq hpf)
        · have hu66 : U1 66 p = 1 := by
            rw [e2]
            show (if p = p then (1 : Int32) else U 66 p) = 1
            rw [if_pos rfl]
          have hcm : mb_cm U1 = mb_cm U + 1 := by
            have hu := mb_T_upd (h := fun p => (U 66 p).toNatClampNeg) (p := p) (v := 1) 42 0 (Nat.zero_le _) (by omega)
            have hz : (U 66 p).toNatClampNeg = 0 := by rw [h0]; rfl
            have hx : mb_cm U1 = mb_T (fun i => if i = p then 1 else (U 66 i).toNatClampNeg) 0 42 := by
              refine mb_T_ext 42 0 (fun i _ _ => ?_)
              show (U1 66 i).toNatClampNeg = if i = p then 1 else (U 66 i).toNatClampNeg
              rw [e2]
              show (if i = p then (1 : Int32) else U 66 i).toNatClampNeg = if i = p then 1 else (U 66 i).toNatClampNeg
              by_cases e : i = p
              · rw [if_pos e, if_pos e]
                rfl
              · rw [if_neg e, if_neg e]
            have hu3 : mb_T (fun i => if i = p then 1 else (U 66 i).toNatClampNeg) 0 42 + (U 66 p).toNatClampNeg = mb_cm U + 1 := hu
            omega
          rw [hu66, mb_boo1, show w ||| 1 = 1 by rcases hw with h | h <;> rw [h] <;> decide]
          obtain ⟨U', w', e, a1, a2, a3, a4, a5, a6⟩ := ih (p + 1) n U1 1 (by omega) hf1 (Or.inr rfl)
          refine ⟨U', w', e, a1, fun k hk => ?_, by omega, a4, fun h => ?_, fun _ => Or.inr (by omega)⟩
          · rw [a2 k hk, e2, gx_u_ne hk]
          · exact absurd (a5 h).1 (by decide)
    · rw [h1, if_neg (by decide)]
      refine skip (fun h => ?_)
      rw [h1] at h
      exact absurd h (by decide)
theorem mb_s02 {g : Nat → Int32} {z : Nat} (hi : mb_iv g) (J : gx_F) (K : Int32 → gx_F → gx_F → Option (Int32 × gx_F × gx_F)) : ∀ (m n : Nat) (U : gx_F), 42 ≤ mb_cm U + m → mb_mf g z U →
    ∃ U', f_X7_standing0_L2 K (n + m + 2) 1 J U = K 0 J U' ∧ mb_mf g z U' ∧ (∀ k, k ≠ 66 → U' k = U k) ∧ ∀ r, r < 42 → mb_cl g U' r := by
  intro m
  induction m with
  | zero =>
    intro n U hc hf
    obtain ⟨U', w', e, a1, a2, a3, a4, a5, a6⟩ := mb_s03 hi J (fun uv_23 uv_24 uI_25 uV_26 => (f_X7_standing0_L2 K (n + 1) uv_23 uI_25 uV_26)) 42 0 957 U 0 rfl hf (Or.inl rfl)
    have hmx := mb_cm_max a1
    rcases a4 with h | h
    · obtain ⟨-, b2, b3⟩ := a5 h
      subst b2
      refine ⟨U', ?_, a1, a2, fun r hr => b3 r (Nat.zero_le _) hr⟩
      rw [f_X7_standing0_L2, if_neg (by decide)]
      refine e.trans ?_
      rw [h]
      show f_X7_standing0_L2 K (n + 1) 0 J U' = _
      rw [f_X7_standing0_L2, if_pos rfl]
    · rcases a6 h with h2 | h2
      · exact absurd h2 (by decide)
      · omega
  | succ m ih =>
    intro n U hc hf
    obtain ⟨U', w', e, a1, a2, a3, a4, a5, a6⟩ := mb_s03 hi J (fun uv_23 uv_24 uI_25 uV_26 => (f_X7_standing0_L2 K (n + m + 2) uv_23 uI_25 uV_26)) 42 0 957 U 0 rfl hf (Or.inl rfl)
    rcases a4 with h | h
    · obtain ⟨-, b2, b3⟩ := a5 h
      subst b2
      refine ⟨U', ?_, a1, a2, fun r hr => b3 r (Nat.zero_le _) hr⟩
      rw [show n + (m + 1) + 2 = (n + m + 2) + 1 by omega, f_X7_standing0_L2, if_neg (by decide)]
      refine e.trans ?_
      rw [h]
      show f_X7_standing0_L2 K (n + m + 1 + 1) 0 J U' = _
      rw [f_X7_standing0_L2, if_pos rfl]
    · rcases a6 h with h2 | h2
      · exact absurd h2 (by decide)
      · obtain ⟨U2, e2, c1, c2, c3⟩ := ih n U' (by omega) a1
        refine ⟨U2, ?_, c1, fun k hk => (c2 k hk).trans (a2 k hk), c3⟩
        rw [show n + (m + 1) + 2 = (n + m + 2) + 1 by omega, f_X7_standing0_L2, if_neg (by decide)]
        refine e.trans ?_
        rw [h]
        exact e2
theorem mb_s01 (K : Int32 → gx_F → gx_F → Option (Int32 × gx_F × gx_F)) : ∀ (m s n : Nat) (J U : gx_F), s + m = 42 →
    ∃ U', f_X7_standing0_L1 K (n + m + 1) (Int32.ofNat s) J U = K (Int32.ofNat 42) J U' ∧ (∀ p, s ≤ p → p < 42 → U' 66 p = if Int32.ofNat p = U 59 1 then 1 else 0) ∧ (∀ p, p < s → U' 66 p = U 66 p) ∧ ∀ k, k ≠ 66 → U' k = U k := by
  intro m
  induction m with
  | zero =>
    intro s n J U hm
    have hs : s = 42 := by omega
    subst hs
    refine ⟨U, ?_, fun p h1 h2 => by omega, fun _ _ => rfl, fun _ _ => rfl⟩
    rw [f_X7_standing0_L1, if_pos (by decide)]
  | succ m ih =>
    intro s n J U hm
    have hs : s < 42 := by omega
    have key : ∀ v : Int32, (v = if Int32.ofNat s = U 59 1 then 1 else 0) → ∃ U', f_X7_standing0_L1 K (n + m + 1) (Int32.ofNat (s + 1)) J (gx_u U 66 s v) = K (Int32.ofNat 42) J U' ∧ (∀ p, s ≤ p → p < 42 → U' 66 p = if Int32.ofNat p = U 59 1 then 1 else 0) ∧ (∀ p, p < s → U' 66 p = U 66 p) ∧ ∀ k, k ≠ 66 → U' k = U k := by
      intro v hv
      obtain ⟨U', e, h1, h2, h3⟩ := ih (s + 1) n J (gx_u U 66 s v) (by omega)
      rw [gx_u_ne (show (59 : Nat) ≠ 66 by decide)] at h1
      refine ⟨U', e, fun p h4 h5 => ?_, fun p h4 => ?_, fun k hk => (h3 k hk).trans (gx_u_ne hk)⟩
      · by_cases h6 : p = s
        · subst h6
          rw [h2 p (by omega), ← hv]
          show (if p = p then v else U 66 p) = v
          rw [if_pos rfl]
        · exact h1 p (by omega) h5
      · rw [h2 p (by omega)]
        show (if p = s then v else U 66 p) = U 66 p
        rw [if_neg (by omega)]
    rw [show n + (m + 1) + 1 = (n + m + 1) + 1 by omega, f_X7_standing0_L1, if_neg (mb_42 s hs), mb_ck (show gx_in 1 87 = true by decide), mb_ck (mb_in hs (by omega)), mb_ck (mb_in hs (by omega)), mb_tn (show s < 2 ^ 31 by omega), mb_add1, show (1 : Int32).toNatClampNeg = 1 from rfl]
    by_cases h : Int32.ofNat s = U 59 1
    · rw [if_pos h]
      exact key 1 (by rw [if_pos h])
    · rw [if_neg h]
      exact key 0 (by rw [if_neg h])
theorem mb_s05 (U : gx_F) (f : Nat → Nat) (hf : ∀ p, p < 42 → U 66 p = Int32.ofNat (f p) ∧ (f p = 0 ∨ f p = 1)) (K : Int32 → Int32 → Option (Int32 × gx_F × gx_F)) : ∀ (m s n : Nat) (a : Int32), s + m = 42 → f_X7_standing0_L5 U K (n + m + 1) a (Int32.ofNat s) = K (a + Int32.ofNat (mb_T f s m)) (Int32.ofNat 42) := by
  intro m
  induction m with
  | zero =>
    intro s n a hm
    have hs : s = 42 := by omega
    subst hs
    rw [f_X7_standing0_L5, if_pos (by decide)]
    exact congrArg (fun y => K y _) (Int32.add_zero a).symm
  | succ m ih =>
    intro s n a hm
    have hs : s < 42 := by omega
    obtain ⟨h1, h2⟩ := hf s hs
    rw [show n + (m + 1) + 1 = (n + m + 1) + 1 by omega, f_X7_standing0_L5, if_neg (mb_42 s hs), mb_ck (mb_in hs (by omega)), mb_tn (by omega), h1, mb_add1, ih (s + 1) n _ (by omega), ih (s + 1) n _ (by omega), mb_T, Int32.ofNat_add, ← Int32.add_assoc]
    rcases h2 with h2 | h2 <;> rw [h2] <;> rfl
/-- how many stand, by the model -/
theorem mb_stand7 {J U : gx_F} {g : Nat → Int32} (hU : U 59 = g) (hi : mb_iv g) :
    ∃ U', f_X7_standing0 J U = some (Int32.ofNat (mb_sn g), J, U') ∧ (∀ k, k ≠ 66 → U' k = U k) ∧ ∀ p, p < 42 → U' 66 p = Int32.ofNat (mb_si g p) := by
  obtain ⟨U1, e1, z1, -, f1⟩ := mb_s01 (fun uv_4 uI_5 uV_6 => (gx_ck (gx_in 1 87) (if (uV_6 59 (1 : Int32).toNatClampNeg) < 0 then (f_X7_standing0_L2 (fun uv_27 uI_28 uV_29 => (f_X7_standing0_L5 uV_29 (fun uv_32 uv_33 => (some (uv_32, uI_28, uV_29))) 1000 0 0)) 1000 0 uI_5 uV_6) else (f_X7_standing0_L6 (fun uv_54 uI_55 uV_56 => (f_X7_standing0_L9 uV_56 (fun uv_59 uv_60 => (some (uv_59, uI_55, uV_56))) 1000 0 0)) 1000 1 uI_5 uV_6)))) 42 0 957 J U rfl
  have h59 : U1 59 = g := (f1 59 (by decide)).trans hU
  have cnt : ∀ U2 : gx_F, (∀ p, p < 42 → U2 66 p = Int32.ofNat (mb_si g p)) → f_X7_standing0_L5 U2 (fun uv_32 uv_33 => (some (uv_32, J, U2))) 1000 0 0 = some (Int32.ofNat (mb_sn g), J, U2) := by
    intro U2 h
    have e := mb_s05 U2 (mb_si g) (fun p hp => ⟨h p hp, mb_si_le g p⟩) (fun uv_32 uv_33 => (some (uv_32, J, U2))) 42 0 957 0 rfl
    refine e.trans ?_
    rw [Int32.zero_add]
    rfl
  have e0 : f_X7_standing0 J U = _ := e1
  rw [hU] at z1
  rcases hi.seed with h2 | ⟨z, hz, h2⟩
  · have hall : ∀ p, p < 42 → U1 66 p = Int32.ofNat (mb_si g p) := by
      intro p hp
      rw [z1 p (Nat.zero_le _) hp, h2, if_neg (mb_nn (by omega)), mb_siN h2]
      rfl
    refine ⟨U1, ?_, f1, hall⟩
    rw [e0, mb_ck (by decide), show (1 : Int32).toNatClampNeg = 1 from rfl, h59, h2, if_pos (by decide), f_X7_standing0_L2, if_pos rfl]
    exact cnt U1 hall
  · have hf : mb_mf g z U1 := by
      refine ⟨h59, fun p hp => ?_, fun p hp hv => ?_, ?_⟩
      · rw [z1 p (Nat.zero_le _) hp]
        by_cases h : Int32.ofNat p = g 1
        · rw [if_pos h]
          exact Or.inr rfl
        · rw [if_neg h]
          exact Or.inl rfl
      · rw [z1 p (Nat.zero_le _) hp] at hv
        by_cases h : Int32.ofNat p = g 1
        · rw [h2] at h
          have := (mb_eq (by omega) (by omega)).mp h
          subst this
          exact mb_rch.refl g p
        · rw [if_neg h] at hv
          exact absurd hv (by decide)
      · rw [z1 z (Nat.zero_le _) hz, h2, if_pos rfl]
    obtain ⟨U2, e2, c1, c2, c3⟩ := mb_s02 hi J (fun uv_54 uI_55 uV_56 => (f_X7_standing0_L5 uV_56 (fun uv_59 uv_60 => (some (uv_59, uI_55, uV_56))) 1000 0 0)) 42 956 U1 (by omega) hf
    have hcome : ∀ p, mb_rch g z p → p < 42 ∧ U2 66 p = 1 := by
      intro p hr
      refine hr (fun p => p < 42 ∧ U2 66 p = 1) ⟨hz, c1.2.2.2⟩ (fun p s q hp hs hv hq hpf => ?_)
      have hq2 := mb_bs_lt p hp s hs q hq
      refine ⟨hq2, ?_⟩
      rcases c1.2.1 q hq2 with h0 | h1
      · have h3 := c3 q hq2 h0 ((s + 2) % 4) p (by omega) (mb_bs_back p hp s hs q hq2 hq) (by
          rw [← mb_pfS (mb_wsB g) hi hp hs hq]
          exact hpf)
        rw [hv.2] at h3
        exact absurd h3 (by decide)
      · exact h1
    have hall : ∀ p, p < 42 → U2 66 p = Int32.ofNat (mb_si g p) := by
      intro p hp
      rcases c1.2.1 p hp with h | h
      · rw [h, mb_si0 hz h2]
        · rfl
        · intro hr
          have h3 := (hcome p hr).2
          rw [h] at h3
          exact absurd h3 (by decide)
      · rw [h, mb_si1 hz h2 (c1.2.2.1 p hp h)]
        rfl
    refine ⟨U2, ?_, fun k hk => (c2 k hk).trans (f1 k hk), hall⟩
    rw [e0, mb_ck (by decide), show (1 : Int32).toNatClampNeg = 1 from rfl, h59, h2, if_neg (mb_pos (by omega)), mb_L6]
    simp only [mb_L9]
    refine Eq.trans e2 ?_
    exact cnt U2 hall
/-- how many others fall, by the model -/
theorem mb_fallsBy {J U : gx_F} {g : Nat → Int32} (hU : U 59 = g) (hi : mb_iv g) {w : Nat} (hw : w < 42) :
    ∃ U', f_X7_fallsBy (Int32.ofNat w) J U = some (mb_fl g w, J, U') ∧ ∀ k, k ≠ 66 → U' k = U k := by
  obtain ⟨U1, e1, f1, r1⟩ := mb_stand7 (J := J) hU hi
  have h59 : U1 59 = g := (f1 59 (by decide)).trans hU
  obtain ⟨-, -, -, -, h5, -⟩ := mb_small w (by omega)
  have r2 := r1 w hw
  have hdel : (gx_u U1 59 (45 + w) (-1)) 59 = mb_del g w := by
    funext j
    show (if j = 45 + w then -1 else U1 59 j) = mb_del g w j
    rw [h59]
    rfl
  obtain ⟨U2, e2, f2, -⟩ := mb_stand7 (J := J) hdel ((mb_woD g hw).iv hi)
  have hback : (gx_u U2 59 (45 + w) (U1 59 (45 + w))) 59 = U1 59 := by
    funext j
    show (if j = 45 + w then U1 59 (45 + w) else U2 59 j) = U1 59 j
    by_cases e : j = 45 + w
    · rw [if_pos e, e]
    · rw [if_neg e, f2 59 (by decide), hdel, h59]
      unfold mb_del
      rw [if_neg e]
  have hfr : ∀ k, k ≠ 66 → (gx_u U2 59 (45 + w) (U1 59 (45 + w))) k = U k := by
    intro k hk
    by_cases e : k = 59
    · subst e
      rw [hback]
      exact f1 59 hk
    · rw [gx_u_ne e, f2 k hk, gx_u_ne e, f1 k hk]
  have hdelw := mb_sn_del hw hi (mb_woD g hw)
  rw [f_X7_fallsBy, e1, Option.bind_some, mb_ck (by decide), show (1 : Int32).toNatClampNeg = 1 from rfl]
  have h591 : U1 59 1 = g 1 := by rw [h59]
  rw [show ((Int32.ofNat (mb_sn g), J, U1).2.2 59 1) = g 1 from h591]
  unfold mb_fl
  by_cases h3 : Int32.ofNat w = g 1
  · refine ⟨U1, ?_, f1⟩
    rw [if_pos h3, if_pos h3.symm, if_neg (by rw [mb_si1 hw h3.symm (mb_rch.refl g w)]; decide)]
  · rw [if_neg h3, if_neg (show ¬ g 1 = Int32.ofNat w from fun h => h3 h.symm), mb_ck (mb_in hw (by omega)), mb_tn (show w < 2 ^ 31 by omega)]
    refine ⟨gx_u U2 59 (45 + w) (U1 59 (45 + w)), ?_, hfr⟩
    rw [show (Int32.ofNat (mb_sn g), J, U1).2.2 = U1 from rfl, show (Int32.ofNat (mb_sn g), J, U1).2.1 = J from rfl, r2]
    simp only [mb_ck (mb_in42 w hw).2]
    rw [h5, e2, Option.bind_some]
    rcases mb_si_le g w with h | h
    · rw [h, if_pos (by decide), if_pos rfl]
      have e3 : Int32.ofNat (mb_sn g) - 0 - Int32.ofNat (mb_sn (mb_del g w)) = 0 := by
        rw [hdelw h, Int32.sub_zero, Int32.sub_self]
      show some (Int32.ofNat (mb_sn g) - 0 - Int32.ofNat (mb_sn (mb_del g w)), J, gx_u U2 59 (45 + w) (U1 59 (45 + w))) = _
      rw [e3]
    · rw [h, if_neg (by decide), if_neg (by decide)]
      rfl
