/-! one command, then all -/
def mb_nd4 (x : Int32) (n : Nat) : Prop := (x = 107 ∧ n = 4) ∨ (x = 108 ∧ n = 3) ∨ (x = 115 ∧ n = 2) ∨ (x = 110 ∧ n = 1) ∨ (x = 116 ∧ n = 1) ∨ (x = 103 ∧ n = 1)
/-- a command as both have it -/
def mb_cr (c : Nat) (V U : gx_F) : Prop := ∃ x n, mb_nd4 x n ∧ V 56 c = x ∧ U 67 (6 * c) = x ∧ mb_nu c n V U
def mb_fk (c : Nat) (I V J U I' V' J' U' : gx_F) : Prop := (∀ k, k ≠ 54 → I' k = I k) ∧ (∀ s, s ≠ 3 → I' 54 s = I 54 s) ∧ (∀ k, k ≠ 56 → k ≠ 57 → V' k = V k) ∧ (∀ i, i < c → V' 56 i = V 56 i) ∧ (∀ i, i < 4 * c → V' 57 i = V 57 i) ∧ (∀ s, s ≠ 19 → J' 58 s = J 58 s) ∧ (∀ k, k ≠ 67 → U' k = U k) ∧ ∀ j, j < 6 * c → U' 67 j = U 67 j
def mb_k2 (len a c : Nat) (X Y : mb_Y) (I V J U : gx_F) : Prop := ∃ r I' V' J' U' a', X = some (r, I', V') ∧ Y = some (r, J', U') ∧ mb_pz len a' c I' V' J' U' ∧ mb_fk c I V J U I' V' J' U' ∧ (r = true → a + 2 ≤ a' ∧ mb_cr c V' U')
theorem mb_k2_fin {len a c n : Nat} {x : Int32} (hx : mb_nd4 x n) {X Y : mb_Y} {I V J U : gx_F} (h : mb_pl len (a + 1) c (4 * c) (6 * c + 1) 1 (mb_nu c n) X Y (gx_u I 54 3 (Int32.ofNat (a + 1))) (gx_u V 56 c x) (gx_u J 58 19 (Int32.ofNat (a + 1))) (gx_u U 67 (6 * c) x)) : mb_k2 len a c X Y I V J U := by
  obtain ⟨r, I', V', J', U', a', e1, e2, pz, ⟨f1, f2, f3, f4, f5, f6, f7⟩, hr⟩ := h
  refine ⟨r, I', V', J', U', a', e1, e2, pz, ⟨fun k hk => (f1 k hk).trans (gx_u_ne hk), fun s hs => (f2 s hs).trans (by rw [mb_set_u, mb_set0 _ _ hs]), fun k h1 h2 => (f3 k h2).trans (gx_u_ne h1), fun i hi => ?_, fun i hi => (f4 i hi).trans (by rw [gx_u_ne (by decide)]), fun s hs => (f5 s hs).trans (by rw [mb_set_u, mb_set0 _ _ hs]), fun k hk => (f6 k hk).trans (gx_u_ne hk), fun j hj => (f7 j (by omega)).trans (by rw [mb_set_u, mb_set0 _ _ (by omega)])⟩, fun h => ⟨by have := (hr h).1; omega, x, n, hx, ?_, ?_, (hr h).2⟩⟩
  · rw [f3 56 (by decide), mb_set_u, mb_set0 _ _ (by omega)]
  · rw [f3 56 (by decide), mb_set_u, mb_set1]
  · rw [f7 _ (by omega), mb_set_u, mb_set1]
theorem mb_pz.cmd {len a c : Nat} {I V J U : gx_F} (h : mb_pz len a c I V J U) (x y : Int32) : mb_pz len a c I (gx_u V 56 c x) J (gx_u U 67 (6 * c) y) := by
  obtain ⟨g1, g2, g3, g4, g5, g6, g7, g8, g9⟩ := h
  exact ⟨g1, g2, g3, g4, g5, g6, g7, g8, g9⟩
theorem mb_readCommand {len a c : Nat} {I V J U : gx_F} (h : mb_pz len a c I V J U) (hc : c < 30) : mb_k2 len a c (f_X4_readCommand I V) (f_X7_commandHere J U) I V J U := by
  have h4 := mb_here4 h
  have h7 := mb_here7 h
  have i5 : I 54 5 = Int32.ofNat c := h.2.2.2.2.1
  have i3 : I 54 3 = Int32.ofNat a := h.2.2.1
  have j21 : J 58 21 = Int32.ofNat c := h.2.2.2.2.2.2.2.1
  have p6 : 6 * Int32.ofNat c = Int32.ofNat (6 * c) := by rw [show (6 : Int32) = Int32.ofNat 6 from rfl, ← Int32.ofNat_mul]
  have k1 : Int32.ofNat (6 * c) + 1 = Int32.ofNat (6 * c + 1 + 0) := mb_add1 (6 * c)
  have k2 : Int32.ofNat (6 * c) + 2 = Int32.ofNat (6 * c + 1 + 1) := (Int32.ofNat_add (6 * c) 2).symm
  have k3 : Int32.ofNat (6 * c) + 3 = Int32.ofNat (6 * c + 1 + 2) := (Int32.ofNat_add (6 * c) 3).symm
  have k4 : Int32.ofNat (6 * c) + 4 = Int32.ofNat (6 * c + 1 + 3) := (Int32.ofNat_add (6 * c) 4).symm
  rw [f_X4_readCommand, f_X7_commandHere, h4, h7, Option.bind_some, Option.bind_some, i5, i3, j21, p6, mb_ck (mb_in hc (by omega)), mb_ck (mb_in (by omega) (by omega)), mb_tn (show c < 2 ^ 31 by omega), mb_tn (show 6 * c < 2 ^ 31 by omega), mb_add1]
  simp only [mb_id3]
  rw [k1, k2, k3, k4]
  by_cases ha : a < len
  · rw [if_pos ha, if_pos ha]
    have hcm := h.cmd (U 64 a) (U 64 a)
    have u64 : (gx_u U 67 (6 * c) (U 64 a)) 64 = U 64 := gx_u_ne (by decide)
    have hn := hcm.next ha
    have no : ∀ x : Int32, x ≠ 32 ∧ x ≠ -1 → U 64 a ≠ x → f_X7_skips x J (gx_u U 67 (6 * c) (U 64 a)) = some (false, J, gx_u U 67 (6 * c) (U 64 a)) := by
      intro x hx hne
      have := (mb_skip hcm x hx 0 0).2.1
      rw [u64] at this
      exact (this (fun h => hne h.2)).2
    have yes : ∀ x : Int32, x ≠ 32 ∧ x ≠ -1 → U 64 a = x → f_X7_skips x J (gx_u U 67 (6 * c) (U 64 a)) = some (true, gx_u J 58 19 (Int32.ofNat (a + 1)), gx_u U 67 (6 * c) (U 64 a)) := by
      intro x hx hne
      have := (mb_skip hcm x hx 0 0).2.2
      rw [u64] at this
      exact (this ⟨ha, hne⟩).2
    by_cases x1 : U 64 a = 107
    · rw [yes 107 (by decide) x1, if_neg (show ¬ U 64 a = 103 by rw [x1]; decide), if_pos x1]
      simp only [Option.bind_some]
      rw [if_neg mb_bt1', show (4 : Int32) = Int32.ofNat 4 from rfl, mb_rds (by decide)]
      refine mb_k2_fin (x := U 64 a) (n := 4) (Or.inl ⟨x1, rfl⟩) ?_
      obtain ⟨r, I', V', J', U', a', e1, e2, pz, fq, hr⟩ := mb_chain hc 4 0 (a + 1) _ _ _ _ (by decide) hn (fun w hw => by omega)
      exact ⟨r, I', V', J', U', a', e1, e2, pz, fq, fun h => ⟨by have := (hr h).1; omega, (hr h).2⟩⟩
    · rw [no 107 (by decide) x1, Option.bind_some, if_pos (show gx_bi (false, J, gx_u U 67 (6 * c) (U 64 a)).1 = 0 from rfl)]
      show mb_k2 len a c _ (Option.bind (f_X7_skips 108 J (gx_u U 67 (6 * c) (U 64 a))) _) I V J U
      by_cases x2 : U 64 a = 108
      · rw [yes 108 (by decide) x2, if_neg (show ¬ U 64 a = 103 by rw [x2]; decide), if_neg x1, if_pos x2, Option.bind_some, if_neg (show ¬ gx_bi (true, gx_u J 58 19 (Int32.ofNat (a + 1)), gx_u U 67 (6 * c) (U 64 a)).1 = 0 from mb_bt1')]
        exact mb_k2_fin (x := U 64 a) (n := 3) (Or.inr (Or.inl ⟨x2, rfl⟩)) (mb_lay7 hn hc)
      · rw [no 108 (by decide) x2, Option.bind_some, if_pos (show gx_bi (false, J, gx_u U 67 (6 * c) (U 64 a)).1 = 0 from rfl)]
        show mb_k2 len a c _ (Option.bind (f_X7_skips 115 J (gx_u U 67 (6 * c) (U 64 a))) _) I V J U
        by_cases x3 : U 64 a = 115
        · rw [yes 115 (by decide) x3, if_neg (show ¬ U 64 a = 103 by rw [x3]; decide), if_neg x1, if_neg x2, if_neg (show ¬ U 64 a = 110 by rw [x3]; decide), if_pos x3, Option.bind_some, if_neg (show ¬ gx_bi (true, gx_u J 58 19 (Int32.ofNat (a + 1)), gx_u U 67 (6 * c) (U 64 a)).1 = 0 from mb_bt1'), show (2 : Int32) = Int32.ofNat 2 from rfl, mb_rds (by decide)]
          refine mb_k2_fin (x := U 64 a) (n := 2) (Or.inr (Or.inr (Or.inl ⟨x3, rfl⟩))) ?_
          obtain ⟨r, I', V', J', U', a', e1, e2, pz, fq, hr⟩ := mb_chain hc 2 0 (a + 1) _ _ _ _ (by decide) hn (fun w hw => by omega)
          exact ⟨r, I', V', J', U', a', e1, e2, pz, fq, fun h => ⟨by have := (hr h).1; omega, (hr h).2⟩⟩
        · rw [no 115 (by decide) x3, Option.bind_some, if_pos (show gx_bi (false, J, gx_u U 67 (6 * c) (U 64 a)).1 = 0 from rfl)]
          show mb_k2 len a c _ (Option.bind (f_X7_skips 110 J (gx_u U 67 (6 * c) (U 64 a))) _) I V J U
          by_cases x4 : U 64 a = 110
          · rw [yes 110 (by decide) x4, if_neg (show ¬ U 64 a = 103 by rw [x4]; decide), if_neg x1, if_neg x2, if_pos x4, Option.bind_some, if_neg (show ¬ gx_bi (true, gx_u J 58 19 (Int32.ofNat (a + 1)), gx_u U 67 (6 * c) (U 64 a)).1 = 0 from mb_bt1')]
            show mb_k2 len a c (f_X4_readDigits (Int32.ofNat 1) _ _) _ I V J U
            rw [mb_rds (by decide)]
            refine mb_k2_fin (x := U 64 a) (n := 1) (Or.inr (Or.inr (Or.inr (Or.inl ⟨x4, rfl⟩)))) ?_
            obtain ⟨r, I', V', J', U', a', e1, e2, pz, fq, hr⟩ := mb_chain hc 1 0 (a + 1) _ _ _ _ (by decide) hn (fun w hw => by omega)
            refine ⟨r, I', V', J', U', a', e1, ?_, pz, fq, fun h => ⟨by have := (hr h).1; omega, (hr h).2⟩⟩
            rw [← e2]
            exact (mb_idf _).symm
          · rw [no 110 (by decide) x4, Option.bind_some, if_pos (show gx_bi (false, J, gx_u U 67 (6 * c) (U 64 a)).1 = 0 from rfl)]
            show mb_k2 len a c _ (Option.bind (f_X7_skips 116 J (gx_u U 67 (6 * c) (U 64 a))) _) I V J U
            have num : ∀ x : Int32, U 64 a = x → mb_nd4 x 1 → mb_k2 len a c (f_X4_readNumber 0 (gx_u I 54 3 (Int32.ofNat (a + 1))) (gx_u V 56 c (U 64 a))) (Option.bind (f_X7_figures (Int32.ofNat (6 * c + 1 + 0)) 2 (gx_u J 58 19 (Int32.ofNat (a + 1))) (gx_u U 67 (6 * c) (U 64 a))) fun q => if gx_bi q.1 = 0 then some (false, q.2.1, q.2.2) else some (true, q.2.1, q.2.2)) I V J U := by
              intro x hx hnd
              rw [mb_idf]
              refine mb_k2_fin (x := U 64 a) (n := 1) (by rw [hx]; exact hnd) ?_
              obtain ⟨r, I', V', J', U', a', e1, e2, pz, fq, hr⟩ := mb_fig2 hn hc
              refine ⟨r, I', V', J', U', a', e1, e2, pz, fq, fun h => ⟨(hr h).1, fun w hw => ?_⟩⟩
              have : w = 0 := by omega
              subst this
              exact (hr h).2
            by_cases x5 : U 64 a = 116
            · rw [yes 116 (by decide) x5, if_neg (show ¬ U 64 a = 103 by rw [x5]; decide), if_neg x1, if_neg x2, if_neg x4, if_neg x3, if_pos x5, Option.bind_some, if_neg (show ¬ gx_bi (true, gx_u J 58 19 (Int32.ofNat (a + 1)), gx_u U 67 (6 * c) (U 64 a)).1 = 0 from mb_bt1')]
              exact num 116 x5 (Or.inr (Or.inr (Or.inr (Or.inr (Or.inl ⟨rfl, rfl⟩)))))
            · rw [no 116 (by decide) x5, Option.bind_some, if_pos (show gx_bi (false, J, gx_u U 67 (6 * c) (U 64 a)).1 = 0 from rfl)]
              show mb_k2 len a c _ (Option.bind (f_X7_skips 103 J (gx_u U 67 (6 * c) (U 64 a))) _) I V J U
              by_cases x6 : U 64 a = 103
              · rw [yes 103 (by decide) x6, if_pos x6, Option.bind_some, if_neg (show ¬ gx_bi (true, gx_u J 58 19 (Int32.ofNat (a + 1)), gx_u U 67 (6 * c) (U 64 a)).1 = 0 from mb_bt1')]
                exact num 103 x6 (Or.inr (Or.inr (Or.inr (Or.inr (Or.inr ⟨rfl, rfl⟩)))))
              · rw [no 103 (by decide) x6, if_neg x6, if_neg x1, if_neg x2, if_neg x4, if_neg x3, if_neg x5]
                refine ⟨false, I, gx_u V 56 c (U 64 a), J, gx_u U 67 (6 * c) (U 64 a), a, rfl, rfl, hcm, ⟨fun _ _ => rfl, fun _ _ => rfl, fun k hk _ => gx_u_ne hk, fun i hi => by rw [mb_set_u, mb_set0 _ _ (by omega)], fun i _ => by rw [gx_u_ne (by decide)], fun _ _ => rfl, fun k hk => gx_u_ne hk, fun j hj => by rw [mb_set_u, mb_set0 _ _ (by omega)]⟩, fun h => by cases h⟩
  · rw [if_neg ha, if_neg ha]
    have hcm := h.cmd 32 (-1)
    have no : ∀ x : Int32, x ≠ 32 ∧ x ≠ -1 → f_X7_skips x J (gx_u U 67 (6 * c) (-1)) = some (false, J, gx_u U 67 (6 * c) (-1)) := by
      intro x hx
      exact ((mb_skip hcm x hx 0 0).2.1 (fun h => ha h.1)).2
    rw [no 107 (by decide)]
    simp only [Option.bind_some]
    rw [if_pos gx_bi_0, no 108 (by decide)]
    simp only [Option.bind_some]
    rw [if_pos gx_bi_0, no 115 (by decide)]
    simp only [Option.bind_some]
    rw [if_pos gx_bi_0, no 110 (by decide)]
    simp only [Option.bind_some]
    rw [if_pos gx_bi_0, no 116 (by decide)]
    simp only [Option.bind_some]
    rw [if_pos gx_bi_0, no 103 (by decide)]
    exact ⟨false, I, gx_u V 56 c 32, J, gx_u U 67 (6 * c) (-1), a, rfl, rfl, hcm, ⟨fun _ _ => rfl, fun _ _ => rfl, fun k hk _ => gx_u_ne hk, fun i hi => by rw [mb_set_u, mb_set0 _ _ (by omega)], fun i _ => by rw [gx_u_ne (by decide)], fun _ _ => rfl, fun k hk => gx_u_ne hk, fun j hj => by rw [mb_set_u, mb_set0 _ _ (by omega)]⟩, fun h => by cases h⟩
/-- what reading changes -/
def mb_fa7 (I V J U I' V' J' U' : gx_F) : Prop := (∀ k, k ≠ 54 → I' k = I k) ∧ (I' 54 4 = I 54 4) ∧ (∀ k, k ≠ 56 → k ≠ 57 → V' k = V k) ∧ (∀ s, s ≠ 19 → s ≠ 21 → J' 58 s = J 58 s) ∧ ∀ k, k ≠ 67 → U' k = U k
theorem mb_fa7.trans {I V J U I' V' J' U' I2 V2 J2 U2 : gx_F} (h : mb_fa7 I V J U I' V' J' U') (h2 : mb_fa7 I' V' J' U' I2 V2 J2 U2) : mb_fa7 I V J U I2 V2 J2 U2 := by
  obtain ⟨a1, a2, a3, a4, a5⟩ := h
  obtain ⟨b1, b2, b3, b4, b5⟩ := h2
  exact ⟨fun k x => (b1 k x).trans (a1 k x), b2.trans a2, fun k x y => (b3 k x y).trans (a3 k x y), fun k x y => (b4 k x y).trans (a4 k x y), fun k x => (b5 k x).trans (a5 k x)⟩
theorem mb_fk.fa {c : Nat} {I V J U I' V' J' U' : gx_F} (h : mb_fk c I V J U I' V' J' U') : mb_fa7 I V J U I' V' J' U' := by
  obtain ⟨a1, a2, a3, a4, a5, a6, a7, a8⟩ := h
  exact ⟨a1, a2 4 (by decide), a3, fun s h _ => a6 s h, a7⟩
/-- the end of reading -/
def mb_rE (X : mb_X) (Y : mb_Y) (I V J U : gx_F) : Prop := ∃ I' V' J' U', mb_fa7 I V J U I' V' J' U' ∧ ((X = some (-1, I', V') ∧ Y = some (true, J', U') ∧ ∃ C : Nat, 1 ≤ C ∧ C ≤ 20 ∧ I' 54 5 = Int32.ofNat C ∧ J' 58 21 = Int32.ofNat C ∧ ∀ c, c < C → mb_cr c V' U') ∨ (∃ a : Nat, a ≤ 60 ∧ X = some (Int32.ofNat a, I', V') ∧ Y = some (false, J', U') ∧ J' 58 19 = Int32.ofNat a))
theorem mb_cr.keep {c C : Nat} {V U V' U' : gx_F} (h : mb_cr c V U) (hc : c < C) (e56 : ∀ i, i < C → V' 56 i = V 56 i) (e57 : ∀ i, i < 4 * C → V' 57 i = V 57 i) (e67 : ∀ j, j < 6 * C → U' 67 j = U 67 j) : mb_cr c V' U' := by
  obtain ⟨x, n, h1, h2, h3, h4⟩ := h
  have hn : n ≤ 4 := by unfold mb_nd4 at h1; omega
  refine ⟨x, n, h1, (e56 c hc).trans h2, (e67 _ (by omega)).trans h3, fun w hw => ?_⟩
  rw [e57 _ (by omega), e67 _ (by omega)]
  exact h4 w hw
theorem mb_read_L {len : Nat} : ∀ (m c a n1 n2 : Nat) (I V J U : gx_F), 61 ≤ a + m → 3 * c ≤ a → mb_pz len a c I V J U → (∀ c', c' < c → mb_cr c' V U) →
    mb_rE (f_X4_read_L1 (fun uI_5 uV_6 => (some ((uI_5 54 3), uI_5, uV_6))) (n1 + m + 1) I V) (f_X7_isText_L1 (fun uI_5 uV_6 => (if (uI_5 58 19) = (uI_5 58 14) then (some (true, uI_5, uV_6)) else (some (false, uI_5, uV_6)))) (n2 + m + 1) J U) I V J U := by
  intro m
  induction m with
  | zero =>
    intro c a n1 n2 I V J U hm hc h _
    have := h.1
    have := h.2.1
    omega
  | succ m ih =>
    intro c a n1 n2 I V J U hm hc h hcr
    have hl := h.1
    have hal := h.2.1
    have i5 : I 54 5 = Int32.ofNat c := h.2.2.2.2.1
    obtain ⟨r, I1, V1, J1, U1, a1, e1, e2, pz1, fk1, hr⟩ := mb_readCommand h (by omega)
    have fa1 := fk1.fa
    have ha1 := pz1.2.1
    rw [show n1 + (m + 1) + 1 = (n1 + m + 1) + 1 by omega, show n2 + (m + 1) + 1 = (n2 + m + 1) + 1 by omega, f_X4_read_L1, f_X7_isText_L1, i5, if_neg (show ¬ (30 : Int32) ≤ Int32.ofNat c from fun h => absurd ((mb_le (a := 30) (by omega) (by omega)).mp h) (by omega)), e1, e2]
    simp only [Option.bind_some]
    cases r with
    | false =>
      refine ⟨I1, V1, J1, U1, fa1, Or.inr ⟨a1, by omega, ?_, rfl, pz1.2.2.2.2.2.1⟩⟩
      rw [if_pos gx_bi_0, pz1.2.2.1]
    | true =>
      obtain ⟨ha2, hcr1⟩ := hr rfl
      obtain ⟨g1, g2, g3, g4, g5, g6, g7, g8, g9⟩ := pz1
      rw [if_neg mb_bt1', if_neg mb_bt1', g5, g8, mb_add1]
      have pz2 : mb_pz len a1 (c + 1) (gx_u I1 54 5 (Int32.ofNat (c + 1))) V1 (gx_u J1 58 21 (Int32.ofNat (c + 1))) U1 := ⟨g1, g2, g3, g4, rfl, g6, g7, rfl, g9⟩
      have fa2 : mb_fa7 I V J U (gx_u I1 54 5 (Int32.ofNat (c + 1))) V1 (gx_u J1 58 21 (Int32.ofNat (c + 1))) U1 :=
        fa1.trans ⟨fun k hk => gx_u_ne hk, rfl, fun _ _ _ => rfl, fun s _ hs => by rw [mb_set_u, mb_set0 _ _ hs], fun _ _ => rfl⟩
      have hcr2 : ∀ c', c' < c + 1 → mb_cr c' V1 U1 := by
        intro c' hc'
        by_cases e : c' = c
        · subst e
          exact hcr1
        · obtain ⟨-, -, -, f4, f5, -, -, f8⟩ := fk1
          exact (hcr c' (by omega)).keep (C := c) (by omega) f4 f5 f8
      have e3 : (gx_u I1 54 5 (Int32.ofNat (c + 1))) 54 3 = Int32.ofNat a1 := g3
      have e4 : (gx_u I1 54 5 (Int32.ofNat (c + 1))) 54 4 = Int32.ofNat len := g4
      have e5 : (gx_u J1 58 21 (Int32.ofNat (c + 1))) 58 19 = Int32.ofNat a1 := g6
      have e6 : (gx_u J1 58 21 (Int32.ofNat (c + 1))) 58 14 = Int32.ofNat len := g7
      obtain ⟨-, s0, s1⟩ := mb_skip pz2 59 (by decide) 0 0
      rw [e3, e4]
      by_cases hend : a1 = len
      · rw [if_pos (by rw [hend])]
        obtain ⟨x1, x2⟩ := s0 (fun h => by omega)
        refine ⟨_, _, _, _, fa2, Or.inl ⟨rfl, ?_, c + 1, by omega, by omega, rfl, rfl, hcr2⟩⟩
        rw [x2]
        simp only [Option.bind_some]
        rw [if_pos gx_bi_0, e5, e6, if_pos (by rw [hend])]
      · have hne : ¬ Int32.ofNat a1 = Int32.ofNat len := fun h => hend ((mb_eq (by omega) (by omega)).mp h)
        rw [if_neg hne]
        by_cases hs : a1 < len ∧ U1 64 a1 = 59
        · obtain ⟨x1, x2⟩ := s1 hs
          rw [x1, x2]
          simp only [Option.bind_some]
          rw [if_neg mb_bt1', if_neg mb_bt1']
          obtain ⟨I', V', J', U', fa3, hE⟩ := ih (c + 1) (a1 + 1) n1 n2 _ _ _ _ (by omega) (by omega) (pz2.next hs.1) hcr2
          exact ⟨I', V', J', U', fa2.trans ((show mb_fa7 _ _ _ _ _ _ _ _ from ⟨fun k hk => gx_u_ne hk, rfl, fun _ _ _ => rfl, fun s hs _ => by rw [mb_set_u, mb_set0 _ _ hs], fun _ _ => rfl⟩).trans fa3), hE⟩
        · obtain ⟨x1, x2⟩ := s0 hs
          rw [x1, x2]
          simp only [Option.bind_some]
          refine ⟨_, _, _, _, fa2, Or.inr ⟨a1, by omega, ?_, ?_, e5⟩⟩
          · rw [if_pos gx_bi_0, e3]
          · rw [if_pos gx_bi_0, e5, e6, if_neg hne]
theorem mb_read {I V J U : gx_F} (h : mb_tx I V J U) : mb_rE (f_X4_read I V) (f_X7_isText J U) I V J U := by
  obtain ⟨n, t1, t2, t3, t4⟩ := h
  have pz : mb_pz n 0 0 (gx_u (gx_u I 54 3 0) 54 5 0) V (gx_u (gx_u J 58 19 0) 58 21 0) U := ⟨t1, Nat.zero_le _, rfl, t2, rfl, rfl, t3, rfl, t4⟩
  obtain ⟨I', V', J', U', fa, hE⟩ := mb_read_L 61 0 0 938 938 _ _ _ _ (by decide) (by decide) pz (fun c' h => by omega)
  have f0 : mb_fa7 I V J U (gx_u (gx_u I 54 3 0) 54 5 0) V (gx_u (gx_u J 58 19 0) 58 21 0) U := ⟨fun k hk => by rw [gx_u_ne hk, gx_u_ne hk], rfl, fun _ _ _ => rfl, fun s h1 h2 => by rw [mb_set_u, mb_set0 _ _ h2, mb_set_u, mb_set0 _ _ h1], fun _ _ => rfl⟩
  exact ⟨I', V', J', U', f0.trans fa, hE⟩
