/-! ROWS of instructions over the world; where the pure function branches or looks at an index, its value is at hand as hF -/
def gx_in (i : Int32) (n : Nat) : Bool := decide (¬ i < 0) && decide (i.toNatClampNeg < n)
def gx_ck {α : Type} (b : Bool) (X : Option α) : Option α := if b = true then X else none
theorem gx_in_vp {i : Int32} {n : Nat} (h : gx_in i n = true) : vp_in i n := by
  simp only [gx_in, Bool.and_eq_true, decide_eq_true_eq] at h
  intro q
  rcases q with q | q
  · exact h.1 q
  · exact absurd h.2 (Nat.not_lt.mpr q)
theorem gx_in_lt {i : Int32} {n : Nat} (h : gx_in i n = true) : i.toNatClampNeg < n := by
  simp only [gx_in, Bool.and_eq_true, decide_eq_true_eq] at h
  exact h.2
theorem gx_ck_of {α : Type} {b : Bool} {X : Option α} {q : α} (h : gx_ck b X = some q) : b = true ∧ X = some q := by
  unfold gx_ck at h
  by_cases hb : b = true
  · rw [if_pos hb] at h; exact ⟨hb, h⟩
  · rw [if_neg hb] at h; cases h
theorem gx_upd_u (V : Nat → Nat → Int32) (k n : Nat) (x : Int32) : upd (V k) n x = gx_u V k n x k := by
  funext j
  simp only [upd, gx_u, if_true]
theorem gx_upd_c (V : Nat → Nat → Int32) (k n : Nat) (x : Int32) : upd (fun j => gx_chr (V k j)) n (vp_nar .char x) = fun j => gx_chr (gx_u V k n x k j) := by
  funext j
  simp only [upd, gx_u, if_true]
  by_cases h : j = n
  · rw [if_pos h, if_pos h]; rfl
  · rw [if_neg h, if_neg h]
theorem gx_upd_z (V : Nat → Nat → Int32) (k n : Nat) (x : Int32) : upd (fun j => gx_boo (V k j)) n (vp_nar .boolean x) = fun j => gx_boo (gx_u V k n x k j) := by
  funext j
  simp only [upd, gx_u, if_true]
  by_cases h : j = n
  · rw [if_pos h, if_pos h]; rfl
  · rw [if_neg h, if_neg h]
theorem gx_cpy_u (V : Nat → Nat → Int32) (k0 k1 sp dp n : Nat) : va_cpy (V k0) (V k1) sp dp n = gx_cp V k0 k1 sp dp n k1 := by
  funext j
  simp only [va_cpy, gx_cp, if_true]
theorem gx_u_at (F : Nat → Nat → Int32) (k n : Nat) (x : Int32) : gx_u F k n x k n = x := by simp [gx_u]
theorem gx_u_at_ne {F : Nat → Nat → Int32} {k n j : Nat} {x : Int32} (h : j ≠ n) : gx_u F k n x k j = F k j := by simp [gx_u, h]
section GXR
variable {α : Type} {p : Program} {l : Launch} {e : Env} {R : Room} {s : State} {m : MethodId} {args : Array Value} {below : List Frame} {meth : Method} {c : Code} {H : Heap} {locs : List Loc} {cells slots : Nat} {Q : State → Prop}
variable {cc : ByteArray} {pc : Nat} {ls : Array Slot} {rest : List Value} {G : gx_G} {C M C' M' : gx_S} {o o' : Int64} {d d' : UInt64} {own : String} {X Y : Option α} {out : α}
theorem gx_get (hx : p.tables.exec = Jvm.exec) (hb : c.code = cc) (hown : s.vm.findClass own = some m.cls) (hV : gx_V G s) (hw : gx_at G C M o d s.heap H locs) {k ci N : Nat} {Cn : String} {T : u_T} {fs : List Value} (hk : k < 70) (hcell : gx_cell G C M o d k = .inr (ci, fs)) (hcl : vwCl[ci]? = some (Cn, T, N)) (hlay : ∀ w ∈ u_ws Cn T N, w ∈ lw_tbl ∧ gx_ok w = true) (j : Nat) (hj : j < N) (hcn : (T j).1 = Cn) {v : Value} (hv : fs[j]? = some v) {index : Nat} (hlink : (Cond.fieldLink own index Cn (T j).2.1 (T j).2.2.1).before args s = true) (hdg : decode cc pc = .ok (.getfield index, 3))
    (kk : W p l e R s m args below meth c H locs cells slots Q (F0 m (pc + 3) ls (v :: rest))) : W p l e R s m args below meth c H locs cells slots Q (F0 m pc ls (.ref (G.2.1 k) :: rest)) :=
  va_get (args := args) (Ts := u_ws Cn T N) hx hb (fun w h => hV.w (hlay w h).1 (hlay w h).2) (fun _ h => h) hown hV.2.1 hw.1 k ((gx_ws_get hk).trans (by rw [hcell])) hcl j hj hlink (fun x h => by rw [hcn] at h; exact h) hv hdg kk
theorem gx_put (hx : p.tables.exec = Jvm.exec) (hb : c.code = cc) (hown : s.vm.findClass own = some m.cls) (hV : gx_V G s) (hw : gx_at G C M o d s.heap H locs) {k ci N : Nat} {Cn : String} {T : u_T} {fs : List Value} (hk : k < 70) (hcell : gx_cell G C M o d k = .inr (ci, fs)) (hcl : vwCl[ci]? = some (Cn, T, N)) (hlay : ∀ w ∈ u_ws Cn T N, w ∈ lw_tbl ∧ gx_ok w = true) (ty0 : Nat → FieldType) (hty : ∀ k, k < N → parseFieldDescriptor (T k).2.2.1 = some (ty0 k)) (hnm : ∀ a, a < N → ∀ b, b < N → a ≠ b → (T a).2.1 ≠ (T b).2.1) (j : Nat) (hj : j < N) (hcn : (T j).1 = Cn) (hfin : (T j).2.2.2 = false) {ty : FieldType} {v : Value} (hd : parseFieldDescriptor (T j).2.2.1 = some ty) (hn : narrow ty v = v) (hfit : fits ty v = true) (hl : j < fs.length)
    (hnew : (Sum.inr (ci, fs.set j v) : va_E) = gx_cell G C' M' o' d' k) (hrest : ∀ i, i ≠ k → gx_cell G C' M' o' d' i = gx_cell G C M o d i) {index : Nat} (hlink : (Cond.fieldLink own index Cn (T j).2.1 (T j).2.2.1).before args s = true) (hdg : decode cc pc = .ok (.putfield index, 3))
    (kk : ∀ (H1 : Heap) (locs1 : List Loc), gx_at G C' M' o' d' s.heap H1 locs1 → W p l e R s m args below meth c H1 locs1 cells slots Q (F0 m (pc + 3) ls rest)) : W p l e R s m args below meth c H locs cells slots Q (F0 m pc ls (v :: .ref (G.2.1 k) :: rest)) :=
  va_put (args := args) (Ts := u_ws Cn T N) hx hb (fun w h => hV.w (hlay w h).1 (hlay w h).2) (fun _ h => h) ty0 hty hnm hown hV.2.1 hw.1 (hV.2.2.va C M o d) hw.2.1 k ((gx_ws_get hk).trans (by rw [hcell])) hcl j hj hlink (fun x h => by rw [hcn] at h; exact h) hfin hd hn hfit hl hdg
    (fun H1 locs1 hP _ hS => kk H1 locs1 ⟨by rw [gx_ws_set hnew hrest] at hP; exact hP, hS, hw.2.2⟩)
theorem gx_iald (hx : p.tables.exec = Jvm.exec) (hb : c.code = cc) (hV : gx_V G s) (hw : gx_at G C M o d s.heap H locs) {k n : Nat} {f : Nat → Int32} (hk : k < 70) (hcell : gx_cell G C M o d k = .inl (G.2.2.1 0, n, .inl f)) {i : Int32} (hF : gx_ck (gx_in i n) X = some out) (hdg : decode cc pc = .ok (.iaload, 1))
    (kk : gx_in i n = true → X = some out → W p l e R s m args below meth c H locs cells slots Q (F0 m (pc + 1) ls (.int (f i.toNatClampNeg) :: rest))) : W p l e R s m args below meth c H locs cells slots Q (F0 m pc ls (.int i :: .ref (G.2.1 k) :: rest)) := by
  obtain ⟨h1, h2⟩ := gx_ck_of hF
  exact va_iald hx hb hV.2.1 hw.1 k 0 ((gx_ws_get hk).trans (by rw [hcell])) rfl (gx_in_vp h1) hdg (kk h1 h2)
theorem gx_cald (hx : p.tables.exec = Jvm.exec) (hb : c.code = cc) (hV : gx_V G s) (hw : gx_at G C M o d s.heap H locs) {k n : Nat} {f : Nat → Int32} (hk : k < 70) (hcell : gx_cell G C M o d k = .inl (G.2.2.1 1, n, .inl f)) {i : Int32} (hF : gx_ck (gx_in i n) X = some out) (hdg : decode cc pc = .ok (.caload, 1))
    (kk : gx_in i n = true → X = some out → W p l e R s m args below meth c H locs cells slots Q (F0 m (pc + 1) ls (.int (f i.toNatClampNeg) :: rest))) : W p l e R s m args below meth c H locs cells slots Q (F0 m pc ls (.int i :: .ref (G.2.1 k) :: rest)) := by
  obtain ⟨h1, h2⟩ := gx_ck_of hF
  exact va_cald hx hb hV.2.1 hw.1 k 1 ((gx_ws_get hk).trans (by rw [hcell])) rfl (gx_in_vp h1) hdg (kk h1 h2)
theorem gx_zald (hx : p.tables.exec = Jvm.exec) (hb : c.code = cc) (hV : gx_V G s) (hw : gx_at G C M o d s.heap H locs) {k n : Nat} {f : Nat → Int32} (hk : k < 70) (hcell : gx_cell G C M o d k = .inl (G.2.2.1 2, n, .inl f)) {i : Int32} (hF : gx_ck (gx_in i n) X = some out) (hdg : decode cc pc = .ok (.baload, 1))
    (kk : gx_in i n = true → X = some out → W p l e R s m args below meth c H locs cells slots Q (F0 m (pc + 1) ls (.int (f i.toNatClampNeg) :: rest))) : W p l e R s m args below meth c H locs cells slots Q (F0 m pc ls (.int i :: .ref (G.2.1 k) :: rest)) := by
  obtain ⟨h1, h2⟩ := gx_ck_of hF
  exact va_zald hx hb hV.2.1 hw.1 k 2 ((gx_ws_get hk).trans (by rw [hcell])) rfl (gx_in_vp h1) hdg (kk h1 h2)
theorem gx_walls (hx : p.tables.exec = Jvm.exec) (hb : c.code = cc) (hV : gx_V G s) (hw : gx_at G C M o d s.heap H locs) {i : Int32} (hF : gx_ck (gx_in i 8) X = some out) (hdg : decode cc pc = .ok (.aaload, 1))
    (kk : gx_isW (12 + 4 * i.toNatClampNeg) → X = some out → W p l e R s m args below meth c H locs cells slots Q (F0 m (pc + 1) ls (.ref (G.2.1 (12 + 4 * i.toNatClampNeg)) :: rest))) : W p l e R s m args below meth c H locs cells slots Q (F0 m pc ls (.int i :: .ref (G.2.1 47) :: rest)) := by
  obtain ⟨h1, h2⟩ := gx_ck_of hF
  have h3 := gx_in_lt h1
  refine va_aldq hx hb hV.2.1 hw.1 47 3 ((gx_ws_get (by decide)).trans rfl) rfl (gx_in_vp h1) hdg (kk ⟨by omega, by omega⟩ h2)
theorem gx_iast (hx : p.tables.exec = Jvm.exec) (hb : c.code = cc) (hV : gx_V G s) (hw : gx_at G C M o d s.heap H locs) {k n : Nat} {f : Nat → Int32} (hk : k < 70) (hcell : gx_cell G C M o d k = .inl (G.2.2.1 0, n, .inl f)) {i x : Int32} (hnew : (Sum.inl (G.2.2.1 0, n, .inl (upd f i.toNatClampNeg x)) : va_E) = gx_cell G C' M' o' d' k) (hrest : ∀ i, i ≠ k → gx_cell G C' M' o' d' i = gx_cell G C M o d i) (hF : gx_ck (gx_in i n) X = some out) (hdg : decode cc pc = .ok (.iastore, 1))
    (kk : ∀ (H1 : Heap) (locs1 : List Loc), gx_at G C' M' o' d' s.heap H1 locs1 → X = some out → W p l e R s m args below meth c H1 locs1 cells slots Q (F0 m (pc + 1) ls rest)) : W p l e R s m args below meth c H locs cells slots Q (F0 m pc ls (.int x :: .int i :: .ref (G.2.1 k) :: rest)) := by
  obtain ⟨h1, h2⟩ := gx_ck_of hF
  exact va_iast hx hb hV.2.1 hw.1 (hV.2.2.va C M o d) hw.2.1 k 0 ((gx_ws_get hk).trans (by rw [hcell])) rfl (gx_in_vp h1) hdg (fun H1 locs1 hP _ hS => kk H1 locs1 ⟨by rw [gx_ws_set hnew hrest] at hP; exact hP, hS, hw.2.2⟩ h2)
theorem gx_cast (hx : p.tables.exec = Jvm.exec) (hb : c.code = cc) (hV : gx_V G s) (hw : gx_at G C M o d s.heap H locs) {k n : Nat} {f : Nat → Int32} (hk : k < 70) (hcell : gx_cell G C M o d k = .inl (G.2.2.1 1, n, .inl f)) {i x : Int32} (hnew : (Sum.inl (G.2.2.1 1, n, .inl (upd f i.toNatClampNeg (vp_nar .char x))) : va_E) = gx_cell G C' M' o' d' k) (hrest : ∀ i, i ≠ k → gx_cell G C' M' o' d' i = gx_cell G C M o d i) (hF : gx_ck (gx_in i n) X = some out) (hdg : decode cc pc = .ok (.castore, 1))
    (kk : ∀ (H1 : Heap) (locs1 : List Loc), gx_at G C' M' o' d' s.heap H1 locs1 → X = some out → W p l e R s m args below meth c H1 locs1 cells slots Q (F0 m (pc + 1) ls rest)) : W p l e R s m args below meth c H locs cells slots Q (F0 m pc ls (.int x :: .int i :: .ref (G.2.1 k) :: rest)) := by
  obtain ⟨h1, h2⟩ := gx_ck_of hF
  exact va_cast hx hb hV.2.1 hw.1 (hV.2.2.va C M o d) hw.2.1 k 1 ((gx_ws_get hk).trans (by rw [hcell])) rfl (gx_in_vp h1) hdg (fun H1 locs1 hP _ hS => kk H1 locs1 ⟨by rw [gx_ws_set hnew hrest] at hP; exact hP, hS, hw.2.2⟩ h2)
theorem gx_zast (hx : p.tables.exec = Jvm.exec) (hb : c.code = cc) (hV : gx_V G s) (hw : gx_at G C M o d s.heap H locs) {k n : Nat} {f : Nat → Int32} (hk : k < 70) (hcell : gx_cell G C M o d k = .inl (G.2.2.1 2, n, .inl f)) {i x : Int32} (hnew : (Sum.inl (G.2.2.1 2, n, .inl (upd f i.toNatClampNeg (vp_nar .boolean x))) : va_E) = gx_cell G C' M' o' d' k) (hrest : ∀ i, i ≠ k → gx_cell G C' M' o' d' i = gx_cell G C M o d i) (hF : gx_ck (gx_in i n) X = some out) (hdg : decode cc pc = .ok (.bastore, 1))
    (kk : ∀ (H1 : Heap) (locs1 : List Loc), gx_at G C' M' o' d' s.heap H1 locs1 → X = some out → W p l e R s m args below meth c H1 locs1 cells slots Q (F0 m (pc + 1) ls rest)) : W p l e R s m args below meth c H locs cells slots Q (F0 m pc ls (.int x :: .int i :: .ref (G.2.1 k) :: rest)) := by
  obtain ⟨h1, h2⟩ := gx_ck_of hF
  exact va_zast hx hb hV.2.1 hw.1 (hV.2.2.va C M o d) hw.2.1 k 2 ((gx_ws_get hk).trans (by rw [hcell])) rfl (gx_in_vp h1) hdg (fun H1 locs1 hP _ hS => kk H1 locs1 ⟨by rw [gx_ws_set hnew hrest] at hP; exact hP, hS, hw.2.2⟩ h2)
theorem gx_if_eq (hx : p.tables.exec = Jvm.exec) (hb : c.code = cc) {x : Int32} {off : Int} {tgt : Nat} (hF : (if x = 0 then X else Y) = some out) (hdg : decode cc pc = .ok (.ifCond .eq off, 3)) (ht : (pc : Int) + off = (tgt : Int)) (kt : X = some out → W p l e R s m args below meth c H locs cells slots Q (F0 m tgt ls rest)) (kf : Y = some out → W p l e R s m args below meth c H locs cells slots Q (F0 m (pc + 3) ls rest)) : W p l e R s m args below meth c H locs cells slots Q (F0 m pc ls (.int x :: rest)) :=
  lv_if_eq hx hb hdg ht (fun h => kt (by rw [if_pos h] at hF; exact hF)) (fun h => kf (by rw [if_neg h] at hF; exact hF))
theorem gx_if_ne (hx : p.tables.exec = Jvm.exec) (hb : c.code = cc) {x : Int32} {off : Int} {tgt : Nat} (hF : (if x = 0 then Y else X) = some out) (hdg : decode cc pc = .ok (.ifCond .ne off, 3)) (ht : (pc : Int) + off = (tgt : Int)) (kt : X = some out → W p l e R s m args below meth c H locs cells slots Q (F0 m tgt ls rest)) (kf : Y = some out → W p l e R s m args below meth c H locs cells slots Q (F0 m (pc + 3) ls rest)) : W p l e R s m args below meth c H locs cells slots Q (F0 m pc ls (.int x :: rest)) :=
  lv_if_ne hx hb hdg ht (fun h => kt (by rw [if_neg h] at hF; exact hF)) (fun h => kf (by rw [if_pos h] at hF; exact hF))
theorem gx_icmp_eq (hx : p.tables.exec = Jvm.exec) (hb : c.code = cc) {x y : Int32} {off : Int} {tgt : Nat} (hF : (if x = y then X else Y) = some out) (hdg : decode cc pc = .ok (.if_icmp .eq off, 3)) (ht : (pc : Int) + off = (tgt : Int)) (kt : X = some out → W p l e R s m args below meth c H locs cells slots Q (F0 m tgt ls rest)) (kf : Y = some out → W p l e R s m args below meth c H locs cells slots Q (F0 m (pc + 3) ls rest)) : W p l e R s m args below meth c H locs cells slots Q (F0 m pc ls (.int y :: .int x :: rest)) :=
  lv_icmp_eq hx hb hdg ht (fun h => kt (by rw [if_pos h] at hF; exact hF)) (fun h => kf (by rw [if_neg h] at hF; exact hF))
theorem gx_icmp_ne (hx : p.tables.exec = Jvm.exec) (hb : c.code = cc) {x y : Int32} {off : Int} {tgt : Nat} (hF : (if x = y then Y else X) = some out) (hdg : decode cc pc = .ok (.if_icmp .ne off, 3)) (ht : (pc : Int) + off = (tgt : Int)) (kt : X = some out → W p l e R s m args below meth c H locs cells slots Q (F0 m tgt ls rest)) (kf : Y = some out → W p l e R s m args below meth c H locs cells slots Q (F0 m (pc + 3) ls rest)) : W p l e R s m args below meth c H locs cells slots Q (F0 m pc ls (.int y :: .int x :: rest)) :=
  lv_icmp_ne hx hb hdg ht (fun h => kt (by rw [if_neg h] at hF; exact hF)) (fun h => kf (by rw [if_pos h] at hF; exact hF))
theorem gx_if_lt (hx : p.tables.exec = Jvm.exec) (hb : c.code = cc) {x : Int32} {off : Int} {tgt : Nat} (hF : (if x < 0 then X else Y) = some out) (hdg : decode cc pc = .ok (.ifCond .lt off, 3)) (ht : (pc : Int) + off = (tgt : Int)) (kt : X = some out → W p l e R s m args below meth c H locs cells slots Q (F0 m tgt ls rest)) (kf : Y = some out → W p l e R s m args below meth c H locs cells slots Q (F0 m (pc + 3) ls rest)) : W p l e R s m args below meth c H locs cells slots Q (F0 m pc ls (.int x :: rest)) :=
  lv_if_lt hx hb hdg ht (fun h => kt (by rw [if_pos h] at hF; exact hF)) (fun h => kf (by rw [if_neg h] at hF; exact hF))
theorem gx_icmp_lt (hx : p.tables.exec = Jvm.exec) (hb : c.code = cc) {x y : Int32} {off : Int} {tgt : Nat} (hF : (if x < y then X else Y) = some out) (hdg : decode cc pc = .ok (.if_icmp .lt off, 3)) (ht : (pc : Int) + off = (tgt : Int)) (kt : X = some out → W p l e R s m args below meth c H locs cells slots Q (F0 m tgt ls rest)) (kf : Y = some out → W p l e R s m args below meth c H locs cells slots Q (F0 m (pc + 3) ls rest)) : W p l e R s m args below meth c H locs cells slots Q (F0 m pc ls (.int y :: .int x :: rest)) :=
  lv_icmp_lt hx hb hdg ht (fun h => kt (by rw [if_pos h] at hF; exact hF)) (fun h => kf (by rw [if_neg h] at hF; exact hF))
theorem gx_if_ge (hx : p.tables.exec = Jvm.exec) (hb : c.code = cc) {x : Int32} {off : Int} {tgt : Nat} (hF : (if 0 ≤ x then X else Y) = some out) (hdg : decode cc pc = .ok (.ifCond .ge off, 3)) (ht : (pc : Int) + off = (tgt : Int)) (kt : X = some out → W p l e R s m args below meth c H locs cells slots Q (F0 m tgt ls rest)) (kf : Y = some out → W p l e R s m args below meth c H locs cells slots Q (F0 m (pc + 3) ls rest)) : W p l e R s m args below meth c H locs cells slots Q (F0 m pc ls (.int x :: rest)) :=
  lv_if_ge hx hb hdg ht (fun h => kt (by rw [if_pos h] at hF; exact hF)) (fun h => kf (by rw [if_neg h] at hF; exact hF))
theorem gx_icmp_ge (hx : p.tables.exec = Jvm.exec) (hb : c.code = cc) {x y : Int32} {off : Int} {tgt : Nat} (hF : (if y ≤ x then X else Y) = some out) (hdg : decode cc pc = .ok (.if_icmp .ge off, 3)) (ht : (pc : Int) + off = (tgt : Int)) (kt : X = some out → W p l e R s m args below meth c H locs cells slots Q (F0 m tgt ls rest)) (kf : Y = some out → W p l e R s m args below meth c H locs cells slots Q (F0 m (pc + 3) ls rest)) : W p l e R s m args below meth c H locs cells slots Q (F0 m pc ls (.int y :: .int x :: rest)) :=
  lv_icmp_ge hx hb hdg ht (fun h => kt (by rw [if_pos h] at hF; exact hF)) (fun h => kf (by rw [if_neg h] at hF; exact hF))
theorem gx_if_gt (hx : p.tables.exec = Jvm.exec) (hb : c.code = cc) {x : Int32} {off : Int} {tgt : Nat} (hF : (if 0 < x then X else Y) = some out) (hdg : decode cc pc = .ok (.ifCond .gt off, 3)) (ht : (pc : Int) + off = (tgt : Int)) (kt : X = some out → W p l e R s m args below meth c H locs cells slots Q (F0 m tgt ls rest)) (kf : Y = some out → W p l e R s m args below meth c H locs cells slots Q (F0 m (pc + 3) ls rest)) : W p l e R s m args below meth c H locs cells slots Q (F0 m pc ls (.int x :: rest)) :=
  lv_if_gt hx hb hdg ht (fun h => kt (by rw [if_pos h] at hF; exact hF)) (fun h => kf (by rw [if_neg h] at hF; exact hF))
theorem gx_icmp_gt (hx : p.tables.exec = Jvm.exec) (hb : c.code = cc) {x y : Int32} {off : Int} {tgt : Nat} (hF : (if y < x then X else Y) = some out) (hdg : decode cc pc = .ok (.if_icmp .gt off, 3)) (ht : (pc : Int) + off = (tgt : Int)) (kt : X = some out → W p l e R s m args below meth c H locs cells slots Q (F0 m tgt ls rest)) (kf : Y = some out → W p l e R s m args below meth c H locs cells slots Q (F0 m (pc + 3) ls rest)) : W p l e R s m args below meth c H locs cells slots Q (F0 m pc ls (.int y :: .int x :: rest)) :=
  lv_icmp_gt hx hb hdg ht (fun h => kt (by rw [if_pos h] at hF; exact hF)) (fun h => kf (by rw [if_neg h] at hF; exact hF))
theorem gx_if_le (hx : p.tables.exec = Jvm.exec) (hb : c.code = cc) {x : Int32} {off : Int} {tgt : Nat} (hF : (if x ≤ 0 then X else Y) = some out) (hdg : decode cc pc = .ok (.ifCond .le off, 3)) (ht : (pc : Int) + off = (tgt : Int)) (kt : X = some out → W p l e R s m args below meth c H locs cells slots Q (F0 m tgt ls rest)) (kf : Y = some out → W p l e R s m args below meth c H locs cells slots Q (F0 m (pc + 3) ls rest)) : W p l e R s m args below meth c H locs cells slots Q (F0 m pc ls (.int x :: rest)) :=
  lv_if_le hx hb hdg ht (fun h => kt (by rw [if_pos h] at hF; exact hF)) (fun h => kf (by rw [if_neg h] at hF; exact hF))
theorem gx_icmp_le (hx : p.tables.exec = Jvm.exec) (hb : c.code = cc) {x y : Int32} {off : Int} {tgt : Nat} (hF : (if x ≤ y then X else Y) = some out) (hdg : decode cc pc = .ok (.if_icmp .le off, 3)) (ht : (pc : Int) + off = (tgt : Int)) (kt : X = some out → W p l e R s m args below meth c H locs cells slots Q (F0 m tgt ls rest)) (kf : Y = some out → W p l e R s m args below meth c H locs cells slots Q (F0 m (pc + 3) ls rest)) : W p l e R s m args below meth c H locs cells slots Q (F0 m pc ls (.int y :: .int x :: rest)) :=
  lv_icmp_le hx hb hdg ht (fun h => kt (by rw [if_pos h] at hF; exact hF)) (fun h => kf (by rw [if_neg h] at hF; exact hF))
end GXR
