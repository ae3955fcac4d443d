/-! numbers: Int32 of a Nat and their order; sums of Nat -/
theorem mb_lt {a b : Nat} (ha : a < 2 ^ 31) (hb : b < 2 ^ 31) : Int32.ofNat a < Int32.ofNat b ↔ a < b := by
  rw [Int32.lt_iff_toInt_lt, Int32.toInt_ofNat_of_lt ha, Int32.toInt_ofNat_of_lt hb]
  omega
theorem mb_le {a b : Nat} (ha : a < 2 ^ 31) (hb : b < 2 ^ 31) : Int32.ofNat a ≤ Int32.ofNat b ↔ a ≤ b := by
  rw [Int32.le_iff_toInt_le, Int32.toInt_ofNat_of_lt ha, Int32.toInt_ofNat_of_lt hb]
  omega
theorem mb_eq {a b : Nat} (ha : a < 2 ^ 31) (hb : b < 2 ^ 31) : Int32.ofNat a = Int32.ofNat b ↔ a = b := by
  rw [← Int32.toInt_inj, Int32.toInt_ofNat_of_lt ha, Int32.toInt_ofNat_of_lt hb]
  omega
theorem mb_tn {a : Nat} (ha : a < 2 ^ 31) : (Int32.ofNat a).toNatClampNeg = a := Int32.toNatClampNeg_ofNat_of_lt ha
theorem mb_pos {a : Nat} (ha : a < 2 ^ 31) : ¬ Int32.ofNat a < 0 := by
  have h := mb_lt (b := 0) ha (by decide)
  intro h2
  exact absurd (h.mp h2) (by omega)
theorem mb_nn {a : Nat} (ha : a < 2 ^ 31) : Int32.ofNat a ≠ -1 := by
  intro h
  have h2 := mb_pos ha
  rw [h] at h2
  exact h2 (by decide)
theorem mb_ge0 {a : Nat} (ha : a < 2 ^ 31) : (0 : Int32) ≤ Int32.ofNat a := Int32.not_lt.mp (mb_pos ha)
theorem mb_add1 (a : Nat) : Int32.ofNat a + 1 = Int32.ofNat (a + 1) := (Int32.ofNat_add a 1).symm
theorem mb_in {a n : Nat} (h : a < n) (ha : a < 2 ^ 31) : gx_in (Int32.ofNat a) n = true := by
  unfold gx_in
  rw [mb_tn ha, decide_eq_true (mb_pos ha), decide_eq_true h]
  rfl
theorem mb_ck {α : Type} {X : Option α} {b : Bool} (h : b = true) : gx_ck b X = X := by
  unfold gx_ck
  rw [if_pos h]
theorem mb_of {x : Int32} (h : ¬ x < 0) : ∃ n, n < 2 ^ 31 ∧ x = Int32.ofNat n := ⟨x.toNatClampNeg, x.toNatClampNeg_lt, (Int32.ofNat_toNatClampNeg x (Int32.not_lt.mp h)).symm⟩
/-- an int is in a range of numbers, or below or above it -/
theorem mb_rng (x : Int32) (n : Nat) (hn : n < 2 ^ 31) : (∃ p, p < n ∧ x = Int32.ofNat p) ∨ x < 0 ∨ (¬ x < 0 ∧ Int32.ofNat n ≤ x) := by
  by_cases h : x < 0
  · exact Or.inr (Or.inl h)
  · obtain ⟨p, hp, rfl⟩ := mb_of h
    by_cases h2 : p < n
    · exact Or.inl ⟨p, h2, rfl⟩
    · exact Or.inr (Or.inr ⟨h, (mb_le hn hp).mpr (by omega)⟩)
def mb_T (h : Nat → Nat) : Nat → Nat → Nat
  | _, 0 => 0
  | s, m + 1 => h s + mb_T h (s + 1) m
theorem mb_T_ext {f h : Nat → Nat} : ∀ (m s : Nat), (∀ i, s ≤ i → i < s + m → f i = h i) → mb_T f s m = mb_T h s m := by
  intro m
  induction m with
  | zero => intro s _; rfl
  | succ m ih =>
    intro s hh
    rw [mb_T, mb_T, hh s (by omega) (by omega), ih (s + 1) (fun i h1 h2 => hh i (by omega) (by omega))]
theorem mb_T_le {f h : Nat → Nat} : ∀ (m s : Nat), (∀ i, s ≤ i → i < s + m → f i ≤ h i) → mb_T f s m ≤ mb_T h s m := by
  intro m
  induction m with
  | zero => intro s _; exact Nat.le_refl _
  | succ m ih =>
    intro s hh
    rw [mb_T, mb_T]
    have h1 := hh s (by omega) (by omega)
    have h2 := ih (s + 1) (fun i h1 h2 => hh i (by omega) (by omega))
    omega
theorem mb_T_lt {f h : Nat → Nat} {p : Nat} : ∀ (m s : Nat), (∀ i, s ≤ i → i < s + m → f i ≤ h i) → s ≤ p → p < s + m → f p < h p → mb_T f s m < mb_T h s m := by
  intro m
  induction m with
  | zero => intro s _ h1 h2; omega
  | succ m ih =>
    intro s hh h1 h2 h3
    rw [mb_T, mb_T]
    have h4 := hh s (by omega) (by omega)
    by_cases hp : p = s
    · subst hp
      have h5 := mb_T_le (f := f) (h := h) m (p + 1) (fun i h1 h2 => hh i (by omega) (by omega))
      omega
    · have h5 := ih (s + 1) (fun i h1 h2 => hh i (by omega) (by omega)) (by omega) (by omega) h3
      omega
theorem mb_T_add {f h : Nat → Nat} : ∀ (m s : Nat), mb_T (fun i => f i + h i) s m = mb_T f s m + mb_T h s m := by
  intro m
  induction m with
  | zero => intro s; rfl
  | succ m ih =>
    intro s
    rw [mb_T, mb_T, mb_T, ih (s + 1)]
    omega
theorem mb_T_cat {h : Nat → Nat} {k : Nat} : ∀ (m s : Nat), mb_T h s (m + k) = mb_T h s m + mb_T h (s + m) k := by
  intro m
  induction m with
  | zero => intro s; rw [Nat.zero_add, mb_T, Nat.zero_add, Nat.add_zero]
  | succ m ih =>
    intro s
    rw [show m + 1 + k = (m + k) + 1 by omega, mb_T, mb_T, ih (s + 1), show s + 1 + m = s + (m + 1) by omega]
    omega
theorem mb_T_shift {h : Nat → Nat} {d : Nat} : ∀ (m s : Nat), mb_T h (s + d) m = mb_T (fun i => h (i + d)) s m := by
  intro m
  induction m with
  | zero => intro s; rfl
  | succ m ih =>
    intro s
    rw [mb_T, mb_T, show s + d + 1 = (s + 1) + d by omega, ih (s + 1)]
theorem mb_T_zero {h : Nat → Nat} : ∀ (m s : Nat), (∀ i, s ≤ i → i < s + m → h i = 0) → mb_T h s m = 0 := by
  intro m
  induction m with
  | zero => intro s _; rfl
  | succ m ih =>
    intro s hh
    rw [mb_T, hh s (by omega) (by omega), ih (s + 1) (fun i h1 h2 => hh i (by omega) (by omega))]
theorem mb_T_max {h : Nat → Nat} {B : Nat} : ∀ (m s : Nat), (∀ i, s ≤ i → i < s + m → h i ≤ B) → mb_T h s m ≤ B * m := by
  intro m
  induction m with
  | zero => intro s _; exact Nat.zero_le _
  | succ m ih =>
    intro s hh
    rw [mb_T, Nat.mul_succ]
    have h1 := hh s (by omega) (by omega)
    have h2 := ih (s + 1) (fun i h1 h2 => hh i (by omega) (by omega))
    omega
theorem mb_T_upd {h : Nat → Nat} {p v : Nat} : ∀ (m s : Nat), s ≤ p → p < s + m → mb_T (fun i => if i = p then v else h i) s m + h p = mb_T h s m + v := by
  intro m
  induction m with
  | zero => intro s h1 h2; omega
  | succ m ih =>
    intro s h1 h2
    rw [mb_T, mb_T]
    by_cases hp : s = p
    · subst hp
      rw [if_pos rfl, mb_T_ext (f := fun i => if i = s then v else h i) (h := h) m (s + 1) (fun i h3 h4 => if_neg (by omega))]
      omega
    · rw [if_neg hp]
      have := ih (s + 1) (by omega) (by omega)
      omega
theorem mb_ST {h : Nat → Int32} {f : Nat → Nat} : ∀ (m s : Nat) (a : Int32), (∀ i, s ≤ i → i < s + m → h i = Int32.ofNat (f i)) → mb_S h s m a = a + Int32.ofNat (mb_T f s m) := by
  intro m
  induction m with
  | zero => intro s a _; exact (Int32.add_zero a).symm
  | succ m ih =>
    intro s a hh
    rw [mb_S, mb_T, ih (s + 1) _ (fun i h1 h2 => hh i (by omega) (by omega)), hh s (by omega) (by omega), Int32.ofNat_add, Int32.add_assoc]
/-- what each place has of the place d before it, counted from both ends -/
theorem mb_dc1 {A B : Nat → Nat} {d n : Nat} (hd : d ≤ n) (h0 : ∀ p, p < d → A p = 0) (h1 : ∀ p, p + d < n → A (p + d) = B p) (h2 : ∀ p, n - d ≤ p → p < n → B p = 0) : mb_T A 0 n = mb_T B 0 n := by
  have e1 : mb_T A 0 (d + (n - d)) = mb_T A 0 d + mb_T A (0 + d) (n - d) := mb_T_cat d 0
  have e2 : mb_T B 0 ((n - d) + d) = mb_T B 0 (n - d) + mb_T B (0 + (n - d)) d := mb_T_cat (n - d) 0
  rw [show d + (n - d) = n by omega] at e1
  rw [show (n - d) + d = n by omega] at e2
  rw [e1, e2, mb_T_zero d 0 (fun i _ h => h0 i (by omega)), mb_T_zero d (0 + (n - d)) (fun i h3 h4 => h2 i (by omega) (by omega)), mb_T_shift (n - d) 0, mb_T_ext (n - d) 0 (fun i _ h => h1 i (by omega))]
  omega
/-! what two neighbours have together, by both of their sides -/
def mb_pf (W : Int32 → Int32 → Nat) (g : Nat → Int32) (p s : Nat) : Nat := if mb_fr g p = true then 0 else W (mb_gl g (g (45 + p)).toNatClampNeg s) (mb_fc g p s)
def mb_ws (W : Int32 → Int32 → Nat) : Prop := (∀ n, n ≤ 6 → W (Int32.ofNat n) (-1) = 0) ∧ ∀ m n, m ≤ 6 → n ≤ 6 → W (Int32.ofNat m) (Int32.ofNat n) = W (Int32.ofNat n) (Int32.ofNat m)
theorem mb_free1 {g : Nat → Int32} {p : Nat} (h : g (45 + p) = -1) : mb_fr g p = true := by
  unfold mb_fr
  rw [h]
  exact decide_eq_true (by decide)
theorem mb_free0 {g : Nat → Int32} {p b : Nat} (hb : b < 2 ^ 31) (h : g (45 + p) = Int32.ofNat b) : mb_fr g p = false := by
  unfold mb_fr
  rw [h]
  exact decide_eq_false (mb_pos hb)
theorem mb_pf1 {W : Int32 → Int32 → Nat} {g : Nat → Int32} {p s : Nat} (h : g (45 + p) = -1) : mb_pf W g p s = 0 := by
  unfold mb_pf
  rw [if_pos (mb_free1 h)]
theorem mb_pf0 {W : Int32 → Int32 → Nat} {g : Nat → Int32} {p s b : Nat} (hb : b < 2 ^ 31) (h : g (45 + p) = Int32.ofNat b) : mb_pf W g p s = W (mb_gl g b s) (mb_fc g p s) := by
  unfold mb_pf
  rw [if_neg (by rw [mb_free0 hb h]; decide), h, mb_tn hb]
theorem mb_fcN {g : Nat → Int32} {p s q : Nat} (hq : mb_bs p s = some q) (h : g (45 + q) = -1) : mb_fc g p s = -1 := by
  rw [mb_fc1 hq, h, if_pos (by decide)]
theorem mb_fcS {g : Nat → Int32} {p s q b : Nat} (hq : mb_bs p s = some q) (hb : b < 2 ^ 31) (h : g (45 + q) = Int32.ofNat b) : mb_fc g p s = mb_gl g b ((s + 2) % 4) := by
  rw [mb_fc1 hq, h, if_neg (mb_pos hb), mb_tn hb]
theorem mb_pfE {W : Int32 → Int32 → Nat} (hW : mb_ws W) {g : Nat → Int32} (hi : mb_iv g) {p s : Nat} (hp : p < 42) (hq : mb_bs p s = none) : mb_pf W g p s = 0 := by
  rcases hi.br hp with h | ⟨b, hb, h⟩
  · exact mb_pf1 h
  · rw [mb_pf0 (by omega) h, mb_fc0 hq]
    obtain ⟨n, hn, hg⟩ := hi.gl (s := s) hb
    rw [hg, hW.1 n hn]
theorem mb_pfS {W : Int32 → Int32 → Nat} (hW : mb_ws W) {g : Nat → Int32} (hi : mb_iv g) {p s q : Nat} (hp : p < 42) (hs : s < 4) (hq : mb_bs p s = some q) : mb_pf W g p s = mb_pf W g q ((s + 2) % 4) := by
  have hq2 := mb_bs_lt p hp s hs q hq
  have hq3 := mb_bs_back p hp s hs q hq2 hq
  rcases hi.br hp with h | ⟨b, hb, h⟩ <;> rcases hi.br hq2 with h2 | ⟨c, hc, h2⟩
  · rw [mb_pf1 h, mb_pf1 h2]
  · obtain ⟨n, hn, hg⟩ := hi.gl (s := (s + 2) % 4) hc
    rw [mb_pf1 h, mb_pf0 (by omega) h2, mb_fcN hq3 h, hg, hW.1 n hn]
  · obtain ⟨n, hn, hg⟩ := hi.gl (s := s) hb
    rw [mb_pf1 h2, mb_pf0 (by omega) h, mb_fcN hq h2, hg, hW.1 n hn]
  · obtain ⟨n, hn, hg⟩ := hi.gl (s := s) hb
    obtain ⟨m, hm, hg2⟩ := hi.gl (s := (s + 2) % 4) hc
    rw [mb_pf0 (by omega) h, mb_pf0 (by omega) h2, mb_fcS hq (by omega) h2, mb_fcS hq3 (by omega) h, show ((s + 2) % 4 + 2) % 4 = s by omega, hg, hg2, hW.2 n m hn hm]
theorem mb_pfD {W : Int32 → Int32 → Nat} (hW : mb_ws W) {g : Nat → Int32} (hi : mb_iv g) : mb_T (fun p => mb_pf W g p 0 + mb_pf W g p 1 + mb_pf W g p 2 + mb_pf W g p 3) 0 42 = 2 * mb_T (fun p => mb_pf W g p 1 + mb_pf W g p 2) 0 42 := by
  have e0 : mb_T (fun p => mb_pf W g p 0) 0 42 = mb_T (fun p => mb_pf W g p 2) 0 42 := by
    refine mb_dc1 (d := 7) (by omega) (fun p hp => mb_pfE hW hi (by omega) ?_) (fun p hp => mb_pfS hW hi hp (by omega) (s := 0) (q := p) ?_) (fun p h1 h2 => mb_pfE hW hi h2 ?_)
    · simp [mb_bs, hp]
    · unfold mb_bs
      rw [if_pos rfl, if_neg (by omega)]
      rfl
    · unfold mb_bs
      rw [if_neg (by omega), if_neg (by omega), if_pos rfl, if_pos (by omega)]
  have e3 : mb_T (fun p => mb_pf W g p 3) 0 42 = mb_T (fun p => mb_pf W g p 1) 0 42 := by
    refine mb_dc1 (d := 1) (by omega) (fun p hp => mb_pfE hW hi (by omega) ?_) (fun p hp => ?_) (fun p h1 h2 => mb_pfE hW hi h2 ?_)
    · unfold mb_bs
      rw [if_neg (by omega), if_neg (by omega), if_neg (by omega), if_pos (by omega)]
    · by_cases h : (p + 1) % 7 = 0
      · rw [mb_pfE hW hi (p := p + 1) (s := 3) hp, mb_pfE hW hi (p := p) (s := 1) (by omega)]
        · unfold mb_bs
          rw [if_neg (by omega), if_pos rfl, if_pos (by omega)]
        · unfold mb_bs
          rw [if_neg (by omega), if_neg (by omega), if_neg (by omega), if_pos h]
      · refine mb_pfS hW hi hp (by omega) (s := 3) (q := p) ?_
        unfold mb_bs
        rw [if_neg (by omega), if_neg (by omega), if_neg (by omega), if_neg h]
        rfl
    · unfold mb_bs
      rw [if_neg (by omega), if_pos rfl, if_pos (by omega)]
  have a1 := mb_T_add (f := fun p => mb_pf W g p 0 + mb_pf W g p 1 + mb_pf W g p 2) (h := fun p => mb_pf W g p 3) 42 0
  have a2 := mb_T_add (f := fun p => mb_pf W g p 0 + mb_pf W g p 1) (h := fun p => mb_pf W g p 2) 42 0
  have a3 := mb_T_add (f := fun p => mb_pf W g p 0) (h := fun p => mb_pf W g p 1) 42 0
  have a4 := mb_T_add (f := fun p => mb_pf W g p 1) (h := fun p => mb_pf W g p 2) 42 0
  rw [a1, a2, a3, a4, e0, e3]
  omega
