/-! CONSTRUCTORS over a list of cells that grows (gen7.py) -/
def gx_V0 (G : gx_G) (U : State) : Prop := (∀ w ∈ lw_tbl, gx_ok w = true → w.before #[] U = true) ∧ va_K G.1 vwCl (gx_tys G) U ∧ va_AO "GluedWall$Wall" U
theorem gx_V0.K {G : gx_G} {U : State} (h : gx_V0 G U) : va_K G.1 vwCl (gx_tys G) U := h.2.1
theorem gx_V0.w {G : gx_G} {U : State} (h : gx_V0 G U) {A : Array Value} {w : Cond} (hm : w ∈ lw_tbl) (ho : gx_ok w = true) : w.before A U = true :=
  va_tabs (gx_ok_on ho) rfl (h.1 w hm ho)
theorem gx_V0.same {G : gx_G} {u U : State} (hv : u.vm = U.vm) (h : gx_V0 G u) : gx_V0 G U :=
  ⟨fun w hm ho => va_tabs (gx_ok_on ho) hv (h.1 w hm ho), va_K.moved (by rw [hv]; exact Vm.Alike.refl _) h.2.1, va_AO.moved (by rw [hv]; exact Vm.Alike.refl _) h.2.2⟩
theorem gx_V0.warm {G : gx_G} {u U : State} (hW : u.WarmedH U.vm) (h : gx_V0 G u) : gx_V0 G U :=
  ⟨fun w hm ho => gx_ok_warm ho hW (h.1 w hm ho), va_K.moved hW.alike h.2.1, va_AO.moved hW.alike h.2.2⟩
theorem gx_RA1 {U : State} {cA : ClassId} {ty : FieldType} (h : va_RA U cA ty) : U.vm.findClass ("[" ++ ty.toString) = some cA := by
  cases ty with
  | object C => obtain ⟨_, _, _, _, _, h4⟩ := h; exact h4
  | _ => exact h
theorem gx_AC {U : State} {cA : ClassId} {ty : FieldType} (h1 : ArrOfT U cA ty) (h2 : va_RA U cA ty) {A : Array Value} : (Cond.arrayClass ty).before A U = true := by
  have h3 := gx_RA1 h2
  obtain ⟨-, kA, h4, comp, h5⟩ := h1 0 (fun _ => .null)
  unfold Cond.before Cond.holds
  simp only [Cond.value]
  rw [h3]
  simp
  exact ⟨kA, h4, by rw [h5]; simp⟩
theorem gx_ac0 {G : gx_G} {s : State} (hV : gx_V0 G s) {A : Array Value} : (Cond.arrayClass (newarray.typeOf .int)).before A s = true := gx_AC (U := s) (ty := .int) (cA := G.2.2.1 0) (hV.K.2 0 (G.2.2.1 0, .int) rfl).1 (hV.K.2 0 (G.2.2.1 0, .int) rfl).2
theorem gx_ac1 {G : gx_G} {s : State} (hV : gx_V0 G s) {A : Array Value} : (Cond.arrayClass (newarray.typeOf .char)).before A s = true := gx_AC (U := s) (ty := .char) (cA := G.2.2.1 1) (hV.K.2 1 (G.2.2.1 1, .char) rfl).1 (hV.K.2 1 (G.2.2.1 1, .char) rfl).2
theorem gx_ac2 {G : gx_G} {s : State} (hV : gx_V0 G s) {A : Array Value} : (Cond.arrayClass (newarray.typeOf .boolean)).before A s = true := gx_AC (U := s) (ty := .boolean) (cA := G.2.2.1 2) (hV.K.2 2 (G.2.2.1 2, .boolean) rfl).1 (hV.K.2 2 (G.2.2.1 2, .boolean) rfl).2
theorem gx_ac4 {G : gx_G} {s : State} (hV : gx_V0 G s) {A : Array Value} : (Cond.arrayClass (newarray.typeOf .long)).before A s = true := gx_AC (U := s) (ty := .long) (cA := G.2.2.1 4) (hV.K.2 4 (G.2.2.1 4, .long) rfl).1 (hV.K.2 4 (G.2.2.1 4, .long) rfl).2
theorem gx_ac5 {G : gx_G} {s : State} (hV : gx_V0 G s) {A : Array Value} : (Cond.arrayClass (newarray.typeOf .double)).before A s = true := gx_AC (U := s) (ty := .double) (cA := G.2.2.1 5) (hV.K.2 5 (G.2.2.1 5, .double) rfl).1 (hV.K.2 5 (G.2.2.1 5, .double) rfl).2
theorem gx_left {D : va_G} {cl : List vw_C} {w1 w2 : va_W} {H : Heap} (h : va_P D cl (w1 ++ w2) H) : va_P D cl w1 H := fun k q hq => h k q (by rw [List.getElem?_append_left (List.getElem?_eq_some_iff.mp hq).1]; exact hq)
theorem gx_right {D : va_G} {cl : List vw_C} {w1 w2 : va_W} {H : Heap} (h : va_P D cl (w1 ++ w2) H) : va_P D cl w2 H := fun k q hq => h (w1.length + k) q (by rw [List.getElem?_append_right (Nat.le_add_right _ _), Nat.add_sub_cancel_left]; exact hq)
theorem gx_rightD {A : Nat → Prop} {w1 w2 : va_W} (h : va_D A (w1 ++ w2)) : va_D A w2 := by
  have e : ∀ (k : Nat) (q : Nat × va_E), w2[k]? = some q → (w1 ++ w2)[w1.length + k]? = some q := fun k q hq => by rw [List.getElem?_append_right (Nat.le_add_right _ _), Nat.add_sub_cancel_left]; exact hq
  refine ⟨fun i j x y hi hj hxy => ?_, fun k q hq => h.2 _ q (e k q hq)⟩
  have := h.1 _ _ x y (e i x hi) (e j y hj) hxy
  omega
theorem gx_join {A0 : Nat → Prop} {D : va_G} {cl : List vw_C} {wr wc w1 : va_W} {H H1 : Heap} (hP : va_P D cl (wr ++ wc) H) (hD : va_D A0 (wr ++ wc)) (hk : ∀ q : Nat, q < H.size → ¬ va_A wc H.size q → H1[q]? = H[q]?) (hF : ∀ q, va_A wc H.size q → A0 q) (hP1 : va_P D cl w1 H1) (hD1 : va_D (va_A wc H.size) w1) : va_P D cl (wr ++ w1) H1 ∧ va_D A0 (wr ++ w1) := by
  have hL := gx_left hP
  have hn : ∀ (k : Nat) (q : Nat × va_E), wr[k]? = some q → ¬ va_A wc H.size q.1 := by
    intro k q hq hA
    rcases hA with ⟨j, e, hj⟩ | hge
    · have h1 : (wr ++ wc)[k]? = some q := by rw [List.getElem?_append_left (List.getElem?_eq_some_iff.mp hq).1]; exact hq
      have h2 : (wr ++ wc)[wr.length + j]? = some (q.1, e) := by rw [List.getElem?_append_right (Nat.le_add_right _ _), Nat.add_sub_cancel_left]; exact hj
      have h3 := hD.1 k (wr.length + j) q (q.1, e) h1 h2 rfl
      have h4 := (List.getElem?_eq_some_iff.mp hq).1
      omega
    · exact absurd (hL k q hq).lt (Nat.not_lt.mpr hge)
  refine ⟨va_P.app (hL.kept fun k q hq => hk q.1 (hL k q hq).lt (hn k q hq)) hP1, fun i j x y hi hj hxy => ?_, fun k q hq => ?_⟩
  · by_cases h1 : i < wr.length
    · rw [List.getElem?_append_left h1] at hi
      by_cases h2 : j < wr.length
      · rw [List.getElem?_append_left h2] at hj
        exact hD.1 i j x y (by rw [List.getElem?_append_left h1]; exact hi) (by rw [List.getElem?_append_left h2]; exact hj) hxy
      · rw [List.getElem?_append_right (by omega)] at hj
        exact absurd (by rw [hxy]; exact hD1.2 _ _ hj) (hn i x hi)
    · rw [List.getElem?_append_right (by omega)] at hi
      by_cases h2 : j < wr.length
      · rw [List.getElem?_append_left h2] at hj
        exact absurd (by rw [← hxy]; exact hD1.2 _ _ hi) (hn j y hj)
      · rw [List.getElem?_append_right (by omega)] at hj
        have := hD1.1 _ _ x y hi hj hxy
        omega
  · by_cases h1 : k < wr.length
    · rw [List.getElem?_append_left h1] at hq
      exact hD.2 k q (by rw [List.getElem?_append_left h1]; exact hq)
    · rw [List.getElem?_append_right (by omega)] at hq
      exact hF _ (hD1.2 _ _ hq)
theorem gx_swap {D : va_G} {cl : List vw_C} {A : Nat → Prop} {ws : va_W} {H : Heap} (hP : va_P D cl ws H) (hD : va_D A ws) (k : Nat) {a : Nat} {x y : va_E} (hk : ws[k]? = some (a, x)) (he : va_at D cl (a, x) H → va_at D cl (a, y) H) : va_P D cl (ws.set k (a, y)) H ∧ va_D A (ws.set k (a, y)) := by
  refine ⟨fun i q hi => ?_, va_D.set hD hk⟩
  by_cases h : i = k
  · subst h
    rw [List.getElem?_set_self (List.getElem?_eq_some_iff.mp hk).1] at hi
    cases hi
    exact he (hP _ _ hk)
  · rw [List.getElem?_set_ne (Ne.symm h)] at hi
    exact hP i q hi
theorem gx_arrV {cI : ClassId} {N : Nat} {f g : Nat → Value} (h : ∀ j, j < N → f j = g j) : arrV cI N f = arrV cI N g := by
  unfold arrV
  rw [show (fun j : Fin N => f j.val) = (fun j : Fin N => g j.val) from funext fun j => h j.val j.isLt]
theorem gx_ati {D : va_G} {cl : List vw_C} {H : Heap} {a n : Nat} {cA : ClassId} {f g : Nat → Int32} (h : ∀ j, j < n → f j = g j) (hA : va_at D cl (a, .inl (cA, n, .inl f)) H) : va_at D cl (a, .inl (cA, n, .inl g)) H := by
  have h1 : H[a]? = some (arrV cA n (fun j => .int (f j))) := hA
  show H[a]? = some (arrV cA n (fun j => .int (g j)))
  rw [h1, gx_arrV (fun j hj => by rw [h j hj])]
theorem gx_atq {D : va_G} {cl : List vw_C} {H : Heap} {a n : Nat} {cA : ClassId} {f g : Nat → Option Nat} (h : ∀ j, j < n → f j = g j) (hA : va_at D cl (a, .inl (cA, n, .inr (.inr (.inr (.inr f))))) H) : va_at D cl (a, .inl (cA, n, .inr (.inr (.inr (.inr g))))) H := by
  have h1 : H[a]? = some (arrV cA n (fun j => va_rf (f j))) := hA
  show H[a]? = some (arrV cA n (fun j => va_rf (g j)))
  rw [h1, gx_arrV (fun j hj => by rw [h j hj])]
abbrev gx_BI (G : gx_G) (A : Nat → Prop) : va_W → State → Prop := fun w t => va_P G.1 vwCl w t.heap ∧ va_D A w
abbrev gx_KI (l : Launch) (y : MethodName) (bytes : ByteArray) (maxL : Nat) (rm : Room) (av : List Value) (G : gx_G) (ws0 : va_W) (sz : Nat) (post : va_W → Prop) (mc ms : Nat) : Prop := Met l y [.code y bytes maxL none] rm (va_Pc av (fun U => gx_V0 G U ∧ U.heap.size = sz ∧ va_P G.1 vwCl ws0 U.heap ∧ va_D (fun _ => True) ws0)) (va_Qv post (gx_BI G (va_A ws0 sz)) (va_A ws0 sz)) mc ms (va_A ws0 sz)
theorem gx_beginI {l : Launch} {y : MethodName} {cc : ByteArray} {maxL : Nat} {rm : Room} {av : List Value} {G : gx_G} {ws0 : va_W} {sz : Nat} {post : va_W → Prop} {mc ms : Nat} (hy : plainName y.cls = true) (hyn : y.name = "<init>") (hlen : (lg_sl av).length ≤ maxL)
    (body : ∀ (p : Program) (e : Env) (s : State) (m : MethodId) (below : List Frame) (meth : Method) (c : Code) (A : Nat → Prop), p.tables.exec = Jvm.exec → c.code = cc → meth.sig.returnType = none → c.maxLocals = maxL → s.vm.findClass y.cls = some m.cls → meth.locks = false → meth.name = "<init>" → gx_V0 G s → va_P G.1 vwCl ws0 s.heap → va_D A ws0 → (∀ q : Nat, s.heap.size ≤ q → A q) → ∀ ls : Array Slot, lv_has ls maxL (lv_args 0 av) → W p l e rm s m av.toArray below meth c s.heap [] 0 0 (MQ below (va_Qv post (gx_BI G A) A) av.toArray s mc ms A) (F0 m 0 ls [])) : gx_KI l y cc maxL rm av G ws0 sz post mc ms := by
  refine Met.ofW (cc := cc) (maxL := maxL) (ret := none) hy rfl ?_
  intro p e s m args below meth c s₁ B hml hv
  obtain ⟨rfl, hV, hsz, hP, hD⟩ := hv
  subst hsz
  rw [lg_entry_eq]
  exact body p e s m below meth c (va_A ws0 s.heap.size) B.exec B.bytes B.returns hml (findClass_of_methodNamed B.named) B.notSynchronized ((name_of_methodNamed B.named B.method).1.trans hyn) hV hP hD.self (fun q h => Or.inr h) _ (lv_entry av hlen)
section GXI
variable {p : Program} {l : Launch} {e : Env} {R : Room} {s : State} {m : MethodId} {args : Array Value} {below : List Frame} {meth : Method} {c : Code} {H H0 : Heap} {locs : List Loc} {cells slots : Nat} {Q : State → Prop}
variable {cc : ByteArray} {pc : Nat} {ls : Array Slot} {rest st0 : List Value} {G : gx_G} {own : String} {A : Nat → Prop} {D : va_G} {cl : List vw_C} {tys : List (ClassId × FieldType)} {ws wr wc W1 : va_W} {post : va_W → Prop} {mc ms : Nat}
theorem gx_newa (hx : p.tables.exec = Jvm.exec) (hb : c.code = cc) {atype : ArrayType} (harr : (Cond.arrayClass (newarray.typeOf atype)).before args s = true) {ty : FieldType} (hty : newarray.typeOf atype = ty) (hK : va_K D cl tys s) (hP : va_P D cl ws H) (hD : va_D A ws) (hS : va_S A H0 H locs) (hA : ∀ q, H0.size ≤ q → A q) (t0 : Nat) {cA : ClassId} (ht : tys[t0]? = some (cA, ty))
    {n : Int32} {N' : Nat} {a0 : vp_A} (ha : ∀ cA : ClassId, vp_cell cA a0 = arrV cA N' (fun _ => defaultValue ty)) (hn : ¬ n < 0) (hN : n.toNatClampNeg = N') (hbytes : N' * componentBytes ty ≤ 536870912) (hcells : cells + 1 ≤ R.cells) (hslots : slots + N' ≤ R.slots) (hdg : decode cc pc = .ok (.newarray atype, 2))
    (kk : ∀ (q : Nat) (H1 : Heap), va_P D cl (ws ++ [(q, .inl (cA, a0))]) H1 → va_D A (ws ++ [(q, .inl (cA, a0))]) → va_S A H0 H1 locs → W p l e R s m args below meth c H1 locs (cells + 1) (slots + N') Q (F0 m (pc + 2) ls (.ref q :: rest))) : W p l e R s m args below meth c H locs cells slots Q (F0 m pc ls (.int n :: rest)) := by
  refine va_newa hx hb harr hty hK hP hD hS hA ha hn hN hbytes hcells hslots hdg (fun q cB H1 hK1 hP1 hD1 hS1 => ?_)
  have h1 := gx_RA1 (hK.2 t0 _ ht).2
  have h2 := gx_RA1 (hK1.2 tys.length (cB, ty) (by simp)).2
  have h3 : cB = cA := Option.some.inj (h2.symm.trans h1)
  subst h3
  exact kk q H1 hP1 hD1 hS1
theorem gx_newq (hx : p.tables.exec = Jvm.exec) (hb : c.code = cc) {C : String} {index : Nat} (hown : s.vm.findClass own = some m.cls) (hclink : (Cond.classLink own index C).before args s = true) (hover : va_AO C s) (hK : va_K D cl tys s) (hP : va_P D cl ws H) (hD : va_D A ws) (hS : va_S A H0 H locs) (hA : ∀ q, H0.size ≤ q → A q) (t0 : Nat) {cA : ClassId} (ht : tys[t0]? = some (cA, .object C))
    {n : Int32} {N' : Nat} (hn : ¬ n < 0) (hN : n.toNatClampNeg = N') (hbytes : N' * 4 ≤ 536870912) (hcells : cells + 1 ≤ R.cells) (hslots : slots + N' ≤ R.slots) (hdg : decode cc pc = .ok (.anewarray index, 3))
    (kk : ∀ (q : Nat) (H1 : Heap), va_P D cl (ws ++ [(q, .inl (cA, N', .inr (.inr (.inr (.inr (fun _ => none))))))]) H1 → va_D A (ws ++ [(q, .inl (cA, N', .inr (.inr (.inr (.inr (fun _ => none))))))]) → va_S A H0 H1 locs → W p l e R s m args below meth c H1 locs (cells + 1) (slots + N') Q (F0 m (pc + 3) ls (.ref q :: rest))) : W p l e R s m args below meth c H locs cells slots Q (F0 m pc ls (.int n :: rest)) := by
  refine va_newq hx hb hown hclink hover hK hP hD hS hA hn hN hbytes hcells hslots hdg (fun q cB H1 hK1 hP1 hD1 hS1 => ?_)
  have h1 := gx_RA1 (hK.2 t0 _ ht).2
  have h2 := gx_RA1 (hK1.2 tys.length (cB, .object C) (by simp)).2
  have h3 : cB = cA := Option.some.inj (h2.symm.trans h1)
  subst h3
  exact kk q H1 hP1 hD1 hS1
theorem gx_runI {a : Array Value} (hr : va_Run p l e R s m args below meth c H locs cells slots mc ms (F0 m pc ls st0) rest (va_Qv post (gx_BI G (va_A wc H.size)) (va_A wc H.size) a) (va_A wc H.size)) (hP : va_P G.1 vwCl (wr ++ wc) H) (hD : va_D A (wr ++ wc)) (hS : va_S A H0 H locs) (hA : ∀ q, H0.size ≤ q → A q)
    (kk : ∀ (w : va_W) (H1 : Heap) (locs1 : List Loc), post w → va_P G.1 vwCl (wr ++ w) H1 → va_D A (wr ++ w) → va_S A H0 H1 locs1 → W p l e R s m args below meth c H1 locs1 (cells + mc) (slots + ms) Q (F0 m (pc + 3) ls rest)) : W p l e R s m args below meth c H locs cells slots Q (F0 m pc ls st0) := by
  have hF : ∀ q, va_A wc H.size q → A q := by
    intro q hq
    rcases hq with ⟨k, ee, hk⟩ | hq
    · exact (gx_rightD hD).2 k (q, ee) hk
    · exact hA q (Nat.le_trans hS.1 hq)
  refine va_callv hr hS (fun q _ h => hF q h) hF (fun u t H1 locs1 ht hvm hw hB hz hk hS1 => ?_)
  obtain ⟨hP1, hD1⟩ := hB
  rw [ht] at hP1
  obtain ⟨a1, a2⟩ := gx_join hP hD hk hF hP1 hD1
  exact kk u H1 locs1 hw a1 a2 hS1
theorem gx_preI {av : List Value} (hV : gx_V0 G s) (hP : va_P G.1 vwCl (wr ++ wc) H) (hD : va_D A (wr ++ wc)) : PreS s H (va_Pc av (fun U => gx_V0 G U ∧ U.heap.size = H.size ∧ va_P G.1 vwCl wc U.heap ∧ va_D (fun _ => True) wc)) av :=
  ⟨fun _ U g mk q => ⟨q.1, gx_V0.same (u := U) (U := U.calling g mk _) rfl q.2.1, q.2.2.1, q.2.2.2.1, q.2.2.2.2⟩, fun U hU hW => ⟨rfl, hV.warm hW, by rw [hU], by rw [hU]; exact gx_right hP, (gx_rightD hD).weaken (fun _ _ _ _ => trivial)⟩⟩
theorem gx_retI {A : Nat → Prop} (hx : p.tables.exec = Jvm.exec) (hb : c.code = cc) (hr : meth.sig.returnType = none) (hlocks : meth.locks = false) (hP : va_P G.1 vwCl ws H) (hD : va_D A ws) (hS : va_S A s.heap H locs) (hpost : post ws) (hdg : decode cc pc = .ok (.return_, 1)) : W p l e R s m args below meth c H locs cells slots (MQ below (va_Qv post (gx_BI G A) A) args s cells slots A) (F0 m pc ls []) :=
  W.vret hx hb hr (fun t ht _ => ⟨⟨ws, rfl, hpost, by rw [ht]; exact hP, hD⟩, hS.F ht⟩) hS.2.2 hdg hlocks
theorem gx_putN (hx : p.tables.exec = Jvm.exec) (hb : c.code = cc) {Cn : String} {T : u_T} {N ci index a : Nat} (hV : gx_V0 G s) (hlay : ∀ w ∈ u_ws Cn T N, w ∈ lw_tbl ∧ gx_ok w = true) (ty0 : Nat → FieldType) (hty : ∀ k, k < N → parseFieldDescriptor (T k).2.2.1 = some (ty0 k)) (hnm : ∀ a, a < N → ∀ b, b < N → a ≠ b → (T a).2.1 ≠ (T b).2.1) (hown : s.vm.findClass Cn = some m.cls) {fs : List Value} (hP : va_P G.1 vwCl ((a, .inr (ci, fs)) :: W1) H) (hD : va_D A ((a, .inr (ci, fs)) :: W1)) (hS : va_S A H0 H locs) (hc : vwCl[ci]? = some (Cn, T, N)) (k : Nat) (hk : k < N) (hcn : (T k).1 = Cn) (hfin : (T k).2.2.2 = false) {ty : FieldType} {v : Value} (hd : parseFieldDescriptor (T k).2.2.1 = some ty) (hn : narrow ty v = v) (hfit : fits ty v = true) (hl : k < fs.length)
    (hlink : (Cond.fieldLink Cn index Cn (T k).2.1 (T k).2.2.1).before args s = true) (hdg : decode cc pc = .ok (.putfield index, 3)) (kk : ∀ (H1 : Heap) (locs1 : List Loc), va_P G.1 vwCl ((a, .inr (ci, fs.set k v)) :: W1) H1 → va_D A ((a, .inr (ci, fs.set k v)) :: W1) → va_S A H0 H1 locs1 → W p l e R s m args below meth c H1 locs1 cells slots Q (F0 m (pc + 3) ls rest)) : W p l e R s m args below meth c H locs cells slots Q (F0 m pc ls (v :: .ref a :: rest)) :=
  va_put (args := args) (Ts := u_ws Cn T N) hx hb (fun w h => hV.w (hlay w h).1 (hlay w h).2) (fun _ h => h) ty0 hty hnm hown hV.K hP hD hS 0 rfl hc k hk hlink (fun x h => by rw [hcn] at h; exact h) hfin hd hn hfit hl hdg kk
theorem gx_putF (hx : p.tables.exec = Jvm.exec) (hb : c.code = cc) {Cn : String} {T : u_T} {N ci index a : Nat} (hV : gx_V0 G s) (hlay : ∀ w ∈ u_ws Cn T N, w ∈ lw_tbl ∧ gx_ok w = true) (ty0 : Nat → FieldType) (hty : ∀ k, k < N → parseFieldDescriptor (T k).2.2.1 = some (ty0 k)) (hnm : ∀ a, a < N → ∀ b, b < N → a ≠ b → (T a).2.1 ≠ (T b).2.1) (hown : s.vm.findClass Cn = some m.cls) {fs : List Value} (hP : va_P G.1 vwCl ((a, .inr (ci, fs)) :: W1) H) (hD : va_D A ((a, .inr (ci, fs)) :: W1)) (hS : va_S A H0 H locs) (hc : vwCl[ci]? = some (Cn, T, N)) (k : Nat) (hk : k < N) (hcn : (T k).1 = Cn) (hfin : (T k).2.2.2 = true) (hmn : meth.name = "<init>") {ty : FieldType} {v : Value} (hd : parseFieldDescriptor (T k).2.2.1 = some ty) (hn : narrow ty v = v) (hfit : fits ty v = true) (hl : k < fs.length)
    (hlink : (Cond.fieldLink Cn index Cn (T k).2.1 (T k).2.2.1).before args s = true) (hdg : decode cc pc = .ok (.putfield index, 3)) (kk : ∀ (H1 : Heap) (locs1 : List Loc), va_P G.1 vwCl ((a, .inr (ci, fs.set k v)) :: W1) H1 → va_D A ((a, .inr (ci, fs.set k v)) :: W1) → va_S A H0 H1 locs1 → W p l e R s m args below meth c H1 locs1 cells slots Q (F0 m (pc + 3) ls rest)) : W p l e R s m args below meth c H locs cells slots Q (F0 m pc ls (v :: .ref a :: rest)) :=
  va_putF (args := args) (Ts := u_ws Cn T N) hx hb (fun w h => hV.w (hlay w h).1 (hlay w h).2) (fun _ h => h) ty0 hty hnm hown hV.K hP hD hS 0 rfl hc k hk hlink (fun x h => by rw [hcn] at h; exact h) hfin hmn hcn hd hn hfit hl hdg kk
theorem gx_getI (hx : p.tables.exec = Jvm.exec) (hb : c.code = cc) {Cn : String} {T : u_T} {N ci index a : Nat} (hV : gx_V0 G s) (hlay : ∀ w ∈ u_ws Cn T N, w ∈ lw_tbl ∧ gx_ok w = true) (hown : s.vm.findClass Cn = some m.cls) {fs : List Value} (hP : va_P G.1 vwCl ((a, .inr (ci, fs)) :: W1) H) (hc : vwCl[ci]? = some (Cn, T, N)) (k : Nat) (hk : k < N) (hcn : (T k).1 = Cn) {v : Value} (hv : fs[k]? = some v)
    (hlink : (Cond.fieldLink Cn index Cn (T k).2.1 (T k).2.2.1).before args s = true) (hdg : decode cc pc = .ok (.getfield index, 3)) (kk : W p l e R s m args below meth c H locs cells slots Q (F0 m (pc + 3) ls (v :: rest))) : W p l e R s m args below meth c H locs cells slots Q (F0 m pc ls (.ref a :: rest)) :=
  va_get (args := args) (Ts := u_ws Cn T N) hx hb (fun w h => hV.w (hlay w h).1 (hlay w h).2) (fun _ h => h) hown hV.K hP 0 rfl hc k hk hlink (fun x h => by rw [hcn] at h; exact h) hv hdg kk
end GXI
theorem gx_b0 : gx_boo 0 = 0 := by decide
theorem gx_c0 : gx_chr 0 = 0 := by decide
theorem gx_nat42 : ∀ j : Nat, j < 100 → (Int32.ofNat j).toNatClampNeg = j ∧ (Int32.ofNat j + 1 = Int32.ofNat (j + 1)) ∧ ((45 : Int32) + Int32.ofNat j).toNatClampNeg = 45 + j ∧ ¬ Int32.ofNat j < 0 ∧ ¬ (45 + Int32.ofNat j) < 0 := by decide +kernel
theorem gx_lt42 : ∀ j : Nat, j < 100 → ((42 : Int32) ≤ Int32.ofNat j ↔ 42 ≤ j) := by decide +kernel
theorem gx_lt8 : ∀ j : Nat, j < 100 → ((8 : Int32) ≤ Int32.ofNat j ↔ 8 ≤ j) := by decide +kernel
theorem gv_50 {G : gx_G} {s : State} (hV : gx_V0 G s) {args : Array Value} : (Cond.initialized RX5).before args s = true := hV.w (List.mem_of_getElem? (i := 50) (by decide +kernel)) (by decide +kernel)
theorem gv_76 {G : gx_G} {s : State} (hV : gx_V0 G s) {args : Array Value} : (Cond.instanceMethod Lib.objectInit).before args s = true := hV.w (List.mem_of_getElem? (i := 76) (by decide +kernel)) (by decide +kernel)
theorem gv_77 {G : gx_G} {s : State} (hV : gx_V0 G s) {args : Array Value} : (Cond.code Lib.objectInit ⟨#[0xb1]⟩ 1 none).before args s = true := hV.w (List.mem_of_getElem? (i := 77) (by decide +kernel)) (by decide +kernel)
theorem gv_79 {G : gx_G} {s : State} (hV : gx_V0 G s) {args : Array Value} : (Cond.instantiable RX5 9).before args s = true := hV.w (List.mem_of_getElem? (i := 79) (by decide +kernel)) (by decide +kernel)
theorem gv_81 {G : gx_G} {s : State} (hV : gx_V0 G s) {args : Array Value} : (Cond.instanceMethod yX5_init).before args s = true := hV.w (List.mem_of_getElem? (i := 81) (by decide +kernel)) (by decide +kernel)
theorem gv_82 {G : gx_G} {s : State} (hV : gx_V0 G s) {args : Array Value} : (Cond.code yX5_init cX5_init 2 none).before args s = true := hV.w (List.mem_of_getElem? (i := 82) (by decide +kernel)) (by decide +kernel)
theorem gv_83 {G : gx_G} {s : State} (hV : gx_V0 G s) {args : Array Value} : (Cond.methodLink RX5 3 Lib.objectInit).before args s = true := hV.w (List.mem_of_getElem? (i := 83) (by decide +kernel)) (by decide +kernel)
theorem gv_84 {G : gx_G} {s : State} (hV : gx_V0 G s) {args : Array Value} : (Cond.fieldLink RX5 9 RX5 "glues" "[I").before args s = true := hV.w (List.mem_of_getElem? (i := 84) (by decide +kernel)) (by decide +kernel)
theorem gv_86 {G : gx_G} {s : State} (hV : gx_V0 G s) {args : Array Value} : (Cond.fieldLink RX5 15 RX5 "strengths" "[I").before args s = true := hV.w (List.mem_of_getElem? (i := 86) (by decide +kernel)) (by decide +kernel)
theorem gv_89 {G : gx_G} {s : State} (hV : gx_V0 G s) {args : Array Value} : (Cond.fieldLink RX5 18 RX5 "bricks" "[I").before args s = true := hV.w (List.mem_of_getElem? (i := 89) (by decide +kernel)) (by decide +kernel)
theorem gv_90 {G : gx_G} {s : State} (hV : gx_V0 G s) {args : Array Value} : (Cond.fieldLink RX5 21 RX5 "kindCount" "I").before args s = true := hV.w (List.mem_of_getElem? (i := 90) (by decide +kernel)) (by decide +kernel)
theorem gv_94 {G : gx_G} {s : State} (hV : gx_V0 G s) {args : Array Value} : (Cond.fieldLink RX5 25 RX5 "needed" "I").before args s = true := hV.w (List.mem_of_getElem? (i := 94) (by decide +kernel)) (by decide +kernel)
theorem gv_98 {G : gx_G} {s : State} (hV : gx_V0 G s) {args : Array Value} : (Cond.fieldLink RX5 28 RX5 "seedPlace" "I").before args s = true := hV.w (List.mem_of_getElem? (i := 98) (by decide +kernel)) (by decide +kernel)
theorem gv_102 {G : gx_G} {s : State} (hV : gx_V0 G s) {args : Array Value} : (Cond.fieldLink RX5 31 RX5 "laidSoFar" "I").before args s = true := hV.w (List.mem_of_getElem? (i := 102) (by decide +kernel)) (by decide +kernel)
theorem gv_104 {G : gx_G} {s : State} (hV : gx_V0 G s) {args : Array Value} : (Cond.fieldLink RX5 34 RX5 "grownSoFar" "I").before args s = true := hV.w (List.mem_of_getElem? (i := 104) (by decide +kernel)) (by decide +kernel)
theorem gv_107 {G : gx_G} {s : State} (hV : gx_V0 G s) {args : Array Value} : (Cond.fieldLink RX5 37 RX5 "takenSoFar" "I").before args s = true := hV.w (List.mem_of_getElem? (i := 107) (by decide +kernel)) (by decide +kernel)
theorem gv_134 {G : gx_G} {s : State} (hV : gx_V0 G s) {args : Array Value} : (Cond.methodLink RX2 3 Lib.objectInit).before args s = true := hV.w (List.mem_of_getElem? (i := 134) (by decide +kernel)) (by decide +kernel)
theorem gv_135 {G : gx_G} {s : State} (hV : gx_V0 G s) {args : Array Value} : (Cond.classLink RX2 9 RX5).before args s = true := hV.w (List.mem_of_getElem? (i := 135) (by decide +kernel)) (by decide +kernel)
theorem gv_137 {G : gx_G} {s : State} (hV : gx_V0 G s) {args : Array Value} : (Cond.methodLink RX2 24 yX5_init).before args s = true := hV.w (List.mem_of_getElem? (i := 137) (by decide +kernel)) (by decide +kernel)
theorem gv_138 {G : gx_G} {s : State} (hV : gx_V0 G s) {args : Array Value} : (Cond.fieldLink RX2 11 RX2 "walls" "[LGluedWall$Wall;").before args s = true := hV.w (List.mem_of_getElem? (i := 138) (by decide +kernel)) (by decide +kernel)
theorem gv_139 {G : gx_G} {s : State} (hV : gx_V0 G s) {args : Array Value} : (Cond.fieldLink RX2 17 RX2 "next" "I").before args s = true := hV.w (List.mem_of_getElem? (i := 139) (by decide +kernel)) (by decide +kernel)
theorem gv_140 {G : gx_G} {s : State} (hV : gx_V0 G s) {args : Array Value} : (Cond.fieldLink RX2 21 RX2 "count" "I").before args s = true := hV.w (List.mem_of_getElem? (i := 140) (by decide +kernel)) (by decide +kernel)
theorem gv_154 {G : gx_G} {s : State} (hV : gx_V0 G s) {args : Array Value} : (Cond.methodLink RX0 3 Lib.objectInit).before args s = true := hV.w (List.mem_of_getElem? (i := 154) (by decide +kernel)) (by decide +kernel)
theorem gv_155 {G : gx_G} {s : State} (hV : gx_V0 G s) {args : Array Value} : (Cond.fieldLink RX0 9 RX0 "reached" "[Z").before args s = true := hV.w (List.mem_of_getElem? (i := 155) (by decide +kernel)) (by decide +kernel)
theorem gv_156 {G : gx_G} {s : State} (hV : gx_V0 G s) {args : Array Value} : (Cond.fieldLink RX0 15 RX0 "queue" "[I").before args s = true := hV.w (List.mem_of_getElem? (i := 156) (by decide +kernel)) (by decide +kernel)
theorem gv_157 {G : gx_G} {s : State} (hV : gx_V0 G s) {args : Array Value} : (Cond.fieldLink RX0 19 RX0 "queued" "I").before args s = true := hV.w (List.mem_of_getElem? (i := 157) (by decide +kernel)) (by decide +kernel)
theorem gv_171 {G : gx_G} {s : State} (hV : gx_V0 G s) {args : Array Value} : (Cond.methodLink RX1 3 Lib.objectInit).before args s = true := hV.w (List.mem_of_getElem? (i := 171) (by decide +kernel)) (by decide +kernel)
theorem gv_172 {G : gx_G} {s : State} (hV : gx_V0 G s) {args : Array Value} : (Cond.fieldLink RX1 9 RX1 "facing" "[I").before args s = true := hV.w (List.mem_of_getElem? (i := 172) (by decide +kernel)) (by decide +kernel)
theorem gv_173 {G : gx_G} {s : State} (hV : gx_V0 G s) {args : Array Value} : (Cond.fieldLink RX1 15 RX1 "foundPlace" "I").before args s = true := hV.w (List.mem_of_getElem? (i := 173) (by decide +kernel)) (by decide +kernel)
theorem gv_175 {G : gx_G} {s : State} (hV : gx_V0 G s) {args : Array Value} : (Cond.fieldLink RX1 19 RX1 "foundBrick" "I").before args s = true := hV.w (List.mem_of_getElem? (i := 175) (by decide +kernel)) (by decide +kernel)
theorem gv_189 {G : gx_G} {s : State} (hV : gx_V0 G s) {args : Array Value} : (Cond.methodLink RX3 3 Lib.objectInit).before args s = true := hV.w (List.mem_of_getElem? (i := 189) (by decide +kernel)) (by decide +kernel)
theorem gv_190 {G : gx_G} {s : State} (hV : gx_V0 G s) {args : Array Value} : (Cond.fieldLink RX3 18 RX3 "footing" "LGluedWall$Footing;").before args s = true := hV.w (List.mem_of_getElem? (i := 190) (by decide +kernel)) (by decide +kernel)
theorem gv_191 {G : gx_G} {s : State} (hV : gx_V0 G s) {args : Array Value} : (Cond.fieldLink RX3 22 RX3 "growth" "LGluedWall$Growth;").before args s = true := hV.w (List.mem_of_getElem? (i := 191) (by decide +kernel)) (by decide +kernel)
theorem gv_192 {G : gx_G} {s : State} (hV : gx_V0 G s) {args : Array Value} : (Cond.fieldLink RX3 9 RX3 "refusedFor" "I").before args s = true := hV.w (List.mem_of_getElem? (i := 192) (by decide +kernel)) (by decide +kernel)
theorem gv_194 {G : gx_G} {s : State} (hV : gx_V0 G s) {args : Array Value} : (Cond.fieldLink RX3 15 RX3 "refusedDetail" "I").before args s = true := hV.w (List.mem_of_getElem? (i := 194) (by decide +kernel)) (by decide +kernel)
theorem gv_210 {G : gx_G} {s : State} (hV : gx_V0 G s) {args : Array Value} : (Cond.methodLink RX4 3 Lib.objectInit).before args s = true := hV.w (List.mem_of_getElem? (i := 210) (by decide +kernel)) (by decide +kernel)
theorem gv_211 {G : gx_G} {s : State} (hV : gx_V0 G s) {args : Array Value} : (Cond.fieldLink RX4 9 RX4 "signs" "[C").before args s = true := hV.w (List.mem_of_getElem? (i := 211) (by decide +kernel)) (by decide +kernel)
theorem gv_212 {G : gx_G} {s : State} (hV : gx_V0 G s) {args : Array Value} : (Cond.fieldLink RX4 15 RX4 "deeds" "[C").before args s = true := hV.w (List.mem_of_getElem? (i := 212) (by decide +kernel)) (by decide +kernel)
theorem gv_213 {G : gx_G} {s : State} (hV : gx_V0 G s) {args : Array Value} : (Cond.fieldLink RX4 18 RX4 "numbers" "[I").before args s = true := hV.w (List.mem_of_getElem? (i := 213) (by decide +kernel)) (by decide +kernel)
theorem gv_214 {G : gx_G} {s : State} (hV : gx_V0 G s) {args : Array Value} : (Cond.fieldLink RX4 22 RX4 "at" "I").before args s = true := hV.w (List.mem_of_getElem? (i := 214) (by decide +kernel)) (by decide +kernel)
theorem gv_215 {G : gx_G} {s : State} (hV : gx_V0 G s) {args : Array Value} : (Cond.fieldLink RX4 26 RX4 "length" "I").before args s = true := hV.w (List.mem_of_getElem? (i := 215) (by decide +kernel)) (by decide +kernel)
theorem gv_217 {G : gx_G} {s : State} (hV : gx_V0 G s) {args : Array Value} : (Cond.fieldLink RX4 29 RX4 "commandCount" "I").before args s = true := hV.w (List.mem_of_getElem? (i := 217) (by decide +kernel)) (by decide +kernel)
def gx_str (j : Nat) : Int32 := if j = 0 then 0 else 1
def gx_wl (G : gx_G) (h q1 q2 q3 : Nat) : va_W := [(h, .inr (7, [.ref q1, .ref q2, .ref q3, .int 0, .int 2, .int (-1), .int 0, .int 0, .int 0])), (q1, .inl (G.2.2.1 0, 32, .inl (fun _ => 0))), (q2, .inl (G.2.2.1 0, 7, .inl gx_str)), (q3, .inl (G.2.2.1 0, 42, .inl (fun _ => -1)))]
theorem gx_str7 : ∀ j, j < 7 → upd (upd (upd (upd (upd (upd (upd (fun _ => 0) 0 0) 1 1) 2 1) 3 1) 4 1) 5 1) 6 1 j = gx_str j := by decide
theorem gx_at2 {x y z : Nat × va_E} {W w : va_W} : (x :: y :: (W ++ z :: w))[W.length + 2]? = some z := by simp
theorem hfs_X5 : ∀ j, j < 9 → defaultValue (tyX5 j) = vp_V [.null, .null, .null, .int 0, .int 0, .int 0, .int 0, .int 0, .int 0] j := by
  intro j hj
  rcases (show j = 0 ∨ j = 1 ∨ j = 2 ∨ j = 3 ∨ j = 4 ∨ j = 5 ∨ j = 6 ∨ j = 7 ∨ j = 8 by omega) with rfl | rfl | rfl | rfl | rfl | rfl | rfl | rfl | rfl <;> rfl
theorem hfs_X2 : ∀ j, j < 3 → defaultValue (tyX2 j) = vp_V [.null, .int 0, .int 0] j := by
  intro j hj
  rcases (show j = 0 ∨ j = 1 ∨ j = 2 by omega) with rfl | rfl | rfl <;> rfl
theorem hfs_X0 : ∀ j, j < 3 → defaultValue (tyX0 j) = vp_V [.null, .null, .int 0] j := by
  intro j hj
  rcases (show j = 0 ∨ j = 1 ∨ j = 2 by omega) with rfl | rfl | rfl <;> rfl
theorem hfs_X1 : ∀ j, j < 3 → defaultValue (tyX1 j) = vp_V [.null, .int 0, .int 0] j := by
  intro j hj
  rcases (show j = 0 ∨ j = 1 ∨ j = 2 by omega) with rfl | rfl | rfl <;> rfl
theorem hfs_X3 : ∀ j, j < 4 → defaultValue (tyX3 j) = vp_V [.null, .null, .int 0, .int 0] j := by
  intro j hj
  rcases (show j = 0 ∨ j = 1 ∨ j = 2 ∨ j = 3 by omega) with rfl | rfl | rfl | rfl <;> rfl
theorem hfs_X4 : ∀ j, j < 6 → defaultValue (tyX4 j) = vp_V [.null, .null, .null, .int 0, .int 0, .int 0] j := by
  intro j hj
  rcases (show j = 0 ∨ j = 1 ∨ j = 2 ∨ j = 3 ∨ j = 4 ∨ j = 5 by omega) with rfl | rfl | rfl | rfl | rfl | rfl <;> rfl
theorem hfs_X6 : ∀ j, j < 13 → defaultValue (tyX6 j) = vp_V [.null, .null, .null, .int 0, .null, .null, .null, .null, .int 0, .null, .int 0, .null, .int 0] j := by
  intro j hj
  rcases (show j = 0 ∨ j = 1 ∨ j = 2 ∨ j = 3 ∨ j = 4 ∨ j = 5 ∨ j = 6 ∨ j = 7 ∨ j = 8 ∨ j = 9 ∨ j = 10 ∨ j = 11 ∨ j = 12 by omega) with rfl | rfl | rfl | rfl | rfl | rfl | rfl | rfl | rfl | rfl | rfl | rfl | rfl <;> rfl
theorem hfs_X7 : ∀ j, j < 22 → defaultValue (tyX7 j) = vp_V [.null, .null, .null, .null, .null, .int 0, .int 0, .int 0, .int 0, .int 0, .int 0, .int 0, .int 0, .null, .int 0, .int 0, .null, .int 0, .null, .int 0, .null, .int 0] j := by
  intro j hj
  rcases (show j = 0 ∨ j = 1 ∨ j = 2 ∨ j = 3 ∨ j = 4 ∨ j = 5 ∨ j = 6 ∨ j = 7 ∨ j = 8 ∨ j = 9 ∨ j = 10 ∨ j = 11 ∨ j = 12 ∨ j = 13 ∨ j = 14 ∨ j = 15 ∨ j = 16 ∨ j = 17 ∨ j = 18 ∨ j = 19 ∨ j = 20 ∨ j = 21 by omega) with rfl | rfl | rfl | rfl | rfl | rfl | rfl | rfl | rfl | rfl | rfl | rfl | rfl | rfl | rfl | rfl | rfl | rfl | rfl | rfl | rfl | rfl <;> rfl
def gx_ad (L : List Nat) (k : Nat) : Nat := L.getD k 0
def gx_hl (G : gx_G) (h qa : Nat) (L : List Nat) : va_W := (h, .inr (4, [.ref qa, .int 0, .int 0])) :: (qa, .inl (G.2.2.1 3, 8, .inr (.inr (.inr (.inr (fun n => some (gx_ad L (4 * n)))))))) :: ((((((((([] : va_W) ++ gx_wl G (gx_ad L 0) (gx_ad L 1) (gx_ad L 2) (gx_ad L 3)) ++ gx_wl G (gx_ad L 4) (gx_ad L 5) (gx_ad L 6) (gx_ad L 7)) ++ gx_wl G (gx_ad L 8) (gx_ad L 9) (gx_ad L 10) (gx_ad L 11)) ++ gx_wl G (gx_ad L 12) (gx_ad L 13) (gx_ad L 14) (gx_ad L 15)) ++ gx_wl G (gx_ad L 16) (gx_ad L 17) (gx_ad L 18) (gx_ad L 19)) ++ gx_wl G (gx_ad L 20) (gx_ad L 21) (gx_ad L 22) (gx_ad L 23)) ++ gx_wl G (gx_ad L 24) (gx_ad L 25) (gx_ad L 26) (gx_ad L 27)) ++ gx_wl G (gx_ad L 28) (gx_ad L 29) (gx_ad L 30) (gx_ad L 31))
section GXL5
variable {p : Program} {l : Launch} {e : Env} {R : Room} {s : State} {m : MethodId} {args : Array Value} {below : List Frame} {meth : Method} {c : Code} {cells slots : Nat} {G : gx_G} {A : Nat → Prop} {h0 q1 q2 q3 : Nat} {f1 f2 : Nat → Int32}
set_option maxHeartbeats 1000000 in
set_option maxRecDepth 100000 in
theorem i_X5_loop (hx : p.tables.exec = Jvm.exec) (hb : c.code = cX5_init) (hr : meth.sig.returnType = none) (hown : s.vm.findClass RX5 = some m.cls) (hlocks : meth.locks = false) (hV : gx_V0 G s) (hA : ∀ q : Nat, s.heap.size ≤ q → A q) {post : va_W → Prop} {ta : List Value} (hpost : ∀ g : Nat → Int32, (∀ j, j < 42 → g j = -1) → post [(h0, .inr (7, ta)), (q1, .inl (G.2.2.1 0, 32, .inl f1)), (q2, .inl (G.2.2.1 0, 7, .inl f2)), (q3, .inl (G.2.2.1 0, 42, .inl (fun _ => -1)))]) (hta : ta[2]? = some (.ref q3)) : ∀ (n j : Nat), j + n = 42 → ∀ (f : Nat → Int32) (H : Heap) (locs : List Loc) (ls : Array Slot), (∀ k, k < j → f k = -1) → lv_has ls 2 [(1, .int (Int32.ofNat j)), (0, .ref h0)] → va_P G.1 vwCl [(h0, .inr (7, ta)), (q1, .inl (G.2.2.1 0, 32, .inl f1)), (q2, .inl (G.2.2.1 0, 7, .inl f2)), (q3, .inl (G.2.2.1 0, 42, .inl f))] H → va_D A [(h0, .inr (7, ta)), (q1, .inl (G.2.2.1 0, 32, .inl f1)), (q2, .inl (G.2.2.1 0, 7, .inl f2)), (q3, .inl (G.2.2.1 0, 42, .inl f))] → va_S A s.heap H locs → W p l e R s m args below meth c H locs cells slots (MQ below (va_Qv post (gx_BI G A) A) args s cells slots A) (F0 m 89 ls []) := by
  intro n
  induction n with
  | zero =>
    intro j hj f H locs ls hf hl hP hD hS
    have h42 : j = 42 := by omega
    subst h42
    refine lv_iload_n (pc := 89) hx hb dX5_init_89 rfl (lv_at hl 0 rfl) ?_
    refine lv_bipush (pc := 90) (v := 42) hx hb dX5_init_90 (by decide) ?_
    refine lv_icmp_ge (pc := 92) (tgt := 108) hx hb dX5_init_92 (by decide) (fun _ => ?_) (fun hc => absurd (by decide) hc)
    obtain ⟨hP2, hD2⟩ := gx_swap hP hD 3 rfl (gx_ati (g := fun _ => -1) (fun j hj => hf j hj))
    exact gx_retI hx hb hr hlocks hP2 hD2 hS (hpost f (fun j hj => hf j hj)) dX5_init_108
  | succ n ih =>
    intro j hj f H locs ls hf hl hP hD hS
    have hj2 : j < 42 := by omega
    obtain ⟨n1, n2, -, n4, -⟩ := gx_nat42 j (by omega)
    refine lv_iload_n (pc := 89) hx hb dX5_init_89 rfl (lv_at hl 0 rfl) ?_
    refine lv_bipush (pc := 90) (v := 42) hx hb dX5_init_90 (by decide) ?_
    refine lv_icmp_ge (pc := 92) (tgt := 108) hx hb dX5_init_92 (by decide) (fun hc => absurd ((gx_lt42 j (by omega)).mp hc) (by omega)) (fun _ => ?_)
    refine lv_aload_n (pc := 95) hx hb dX5_init_95 rfl (lv_at hl 1 rfl) ?_
    refine gx_getI (pc := 96) (ci := 7) (v := .ref q3) hx hb hV gl_X5 hown hP rfl 2 (by decide) rfl hta (gv_89 hV) dX5_init_96 ?_
    refine lv_iload_n (pc := 99) hx hb dX5_init_99 rfl (lv_at hl 0 rfl) ?_
    refine lv_iconst (pc := 100) (v := -1) hx hb dX5_init_100 (by decide) ?_
    refine va_iast (pc := 101) hx hb hV.K hP hD hS 3 0 rfl rfl (fun q => ?_) dX5_init_101 (fun H locs hP hD hS => ?_)
    · rw [n1] at q
      rcases q with q | q
      · exact n4 q
      · omega
    rw [n1] at hP hD
    refine lv_iinc (pc := 102) (v := Int32.ofNat (j + 1)) (lv' := [(1, .int (Int32.ofNat (j + 1))), (0, .ref h0)]) hx hb dX5_init_102 hl (k := 0) rfl n2 (by decide) rfl (fun ls hl => ?_)
    refine lv_goto (pc := 105) (tgt := 89) hx hb dX5_init_105 (by decide) ?_
    refine ih (j + 1) (by omega) (upd f j (-1)) H locs ls (fun k hk => ?_) hl hP hD hS
    by_cases h : k = j
    · subst h; simp [upd]
    · simp [upd, h]; exact hf k (by omega)
end GXL5
set_option maxHeartbeats 1000000 in
set_option maxRecDepth 100000 in
theorem i_X5 (l : Launch) (G : gx_G) (h0 : Nat) (sz : Nat) : gx_KI l yX5_init cX5_init 2 ({ frames := 1, cells := 3, slots := 81, locals := 12 }) ([.ref h0]) G [(h0, .inr (7, [.null, .null, .null, .int 0, .int 0, .int 0, .int 0, .int 0, .int 0]))] sz (fun w => ∃ q1 q2 q3 : Nat, w = gx_wl G h0 q1 q2 q3) 3 81 := by
  refine gx_beginI (by decide) rfl (Nat.le_of_ble_eq_true rfl) ?_
  intro p e s m below meth c A hx hb hr hml hown hlocks hmn hV hP hD hA ls hl
  have hS : va_S A s.heap s.heap [] := va_S.rf
  refine lv_aload_n (pc := 0) hx hb dX5_init_0 rfl (lv_at hl 0 rfl) ?_
  refine W.objInit hx hb hown (gv_83 hV) (gv_76 hV) (gv_77 hV) rfl (by rw [hml]; exact hl.1) rfl dX5_init_1 (Nat.le_of_ble_eq_true rfl) (Nat.le_of_ble_eq_true rfl) ?_
  refine W.eq (g2 := F0 m 4 ls []) rfl ?_
  refine lv_aload_n (pc := 4) hx hb dX5_init_4 rfl (lv_at hl 0 rfl) ?_
  refine lv_bipush (pc := 5) (v := 32) hx hb dX5_init_5 (by decide) ?_
  refine gx_newa (pc := 7) (ty := .int) (N' := 32) (a0 := (32, .inl (fun _ => 0))) hx hb (gx_ac0 hV) rfl hV.K hP hD hS hA 0 rfl (fun _ => by rfl) (by decide) (by decide) (by decide) (Nat.le_of_ble_eq_true rfl) (Nat.le_of_ble_eq_true rfl) dX5_init_7 (fun q1 H hP hD hS => ?_)
  have hP : va_P G.1 vwCl ((h0, .inr (7, [.null, .null, .null, .int 0, .int 0, .int 0, .int 0, .int 0, .int 0])) :: [(q1, .inl (G.2.2.1 0, 32, .inl (fun _ => 0)))]) H := hP
  have hD : va_D A ((h0, .inr (7, [.null, .null, .null, .int 0, .int 0, .int 0, .int 0, .int 0, .int 0])) :: [(q1, .inl (G.2.2.1 0, 32, .inl (fun _ => 0)))]) := hD
  refine W.widen (k := 1) (n := 32) (by omega) (by omega) ?_
  refine gx_putF (pc := 9) (ci := 7) (v := .ref q1) (ty := (.array .int)) hx hb hV gl_X5 tyX5 tyX5_ok nmX5 hown hP hD hS rfl 0 (by decide) rfl rfl hmn (by decide +kernel) rfl rfl (Nat.le_of_ble_eq_true rfl) (gv_84 hV) dX5_init_9 (fun H locs hP hD hS => ?_)
  have hP : va_P G.1 vwCl ((h0, .inr (7, [.ref q1, .null, .null, .int 0, .int 0, .int 0, .int 0, .int 0, .int 0])) :: [(q1, .inl (G.2.2.1 0, 32, .inl (fun _ => 0)))]) H := hP
  have hD : va_D A ((h0, .inr (7, [.ref q1, .null, .null, .int 0, .int 0, .int 0, .int 0, .int 0, .int 0])) :: [(q1, .inl (G.2.2.1 0, 32, .inl (fun _ => 0)))]) := hD
  refine lv_aload_n (pc := 12) hx hb dX5_init_12 rfl (lv_at hl 0 rfl) ?_
  refine lv_bipush (pc := 13) (v := 7) hx hb dX5_init_13 (by decide) ?_
  refine gx_newa (pc := 15) (ty := .int) (N' := 7) (a0 := (7, .inl (fun _ => 0))) hx hb (gx_ac0 hV) rfl hV.K hP hD hS hA 0 rfl (fun _ => by rfl) (by decide) (by decide) (by decide) (Nat.le_of_ble_eq_true rfl) (Nat.le_of_ble_eq_true rfl) dX5_init_15 (fun q2 H hP hD hS => ?_)
  have hP : va_P G.1 vwCl ((h0, .inr (7, [.ref q1, .null, .null, .int 0, .int 0, .int 0, .int 0, .int 0, .int 0])) :: [(q1, .inl (G.2.2.1 0, 32, .inl (fun _ => 0))), (q2, .inl (G.2.2.1 0, 7, .inl (fun _ => 0)))]) H := hP
  have hD : va_D A ((h0, .inr (7, [.ref q1, .null, .null, .int 0, .int 0, .int 0, .int 0, .int 0, .int 0])) :: [(q1, .inl (G.2.2.1 0, 32, .inl (fun _ => 0))), (q2, .inl (G.2.2.1 0, 7, .inl (fun _ => 0)))]) := hD
  refine W.widen (k := 2) (n := 39) (by omega) (by omega) ?_
  refine lv_dup (pc := 17) hx hb dX5_init_17 rfl ?_
  refine lv_iconst (pc := 18) (v := 0) hx hb dX5_init_18 (by decide) ?_
  refine lv_iconst (pc := 19) (v := 0) hx hb dX5_init_19 (by decide) ?_
  refine va_iast (pc := 20) hx hb hV.K hP hD hS 2 0 rfl rfl (fun q => absurd q (by decide)) dX5_init_20 (fun H locs hP hD hS => ?_)
  have hP : va_P G.1 vwCl ((h0, .inr (7, [.ref q1, .null, .null, .int 0, .int 0, .int 0, .int 0, .int 0, .int 0])) :: [(q1, .inl (G.2.2.1 0, 32, .inl (fun _ => 0))), (q2, .inl (G.2.2.1 0, 7, .inl (upd (fun _ => 0) 0 0)))]) H := hP
  have hD : va_D A ((h0, .inr (7, [.ref q1, .null, .null, .int 0, .int 0, .int 0, .int 0, .int 0, .int 0])) :: [(q1, .inl (G.2.2.1 0, 32, .inl (fun _ => 0))), (q2, .inl (G.2.2.1 0, 7, .inl (upd (fun _ => 0) 0 0)))]) := hD
  refine lv_dup (pc := 21) hx hb dX5_init_21 rfl ?_
  refine lv_iconst (pc := 22) (v := 1) hx hb dX5_init_22 (by decide) ?_
  refine lv_iconst (pc := 23) (v := 1) hx hb dX5_init_23 (by decide) ?_
  refine va_iast (pc := 24) hx hb hV.K hP hD hS 2 0 rfl rfl (fun q => absurd q (by decide)) dX5_init_24 (fun H locs hP hD hS => ?_)
  have hP : va_P G.1 vwCl ((h0, .inr (7, [.ref q1, .null, .null, .int 0, .int 0, .int 0, .int 0, .int 0, .int 0])) :: [(q1, .inl (G.2.2.1 0, 32, .inl (fun _ => 0))), (q2, .inl (G.2.2.1 0, 7, .inl (upd (upd (fun _ => 0) 0 0) 1 1)))]) H := hP
  have hD : va_D A ((h0, .inr (7, [.ref q1, .null, .null, .int 0, .int 0, .int 0, .int 0, .int 0, .int 0])) :: [(q1, .inl (G.2.2.1 0, 32, .inl (fun _ => 0))), (q2, .inl (G.2.2.1 0, 7, .inl (upd (upd (fun _ => 0) 0 0) 1 1)))]) := hD
  refine lv_dup (pc := 25) hx hb dX5_init_25 rfl ?_
  refine lv_iconst (pc := 26) (v := 2) hx hb dX5_init_26 (by decide) ?_
  refine lv_iconst (pc := 27) (v := 1) hx hb dX5_init_27 (by decide) ?_
  refine va_iast (pc := 28) hx hb hV.K hP hD hS 2 0 rfl rfl (fun q => absurd q (by decide)) dX5_init_28 (fun H locs hP hD hS => ?_)
  have hP : va_P G.1 vwCl ((h0, .inr (7, [.ref q1, .null, .null, .int 0, .int 0, .int 0, .int 0, .int 0, .int 0])) :: [(q1, .inl (G.2.2.1 0, 32, .inl (fun _ => 0))), (q2, .inl (G.2.2.1 0, 7, .inl (upd (upd (upd (fun _ => 0) 0 0) 1 1) 2 1)))]) H := hP
  have hD : va_D A ((h0, .inr (7, [.ref q1, .null, .null, .int 0, .int 0, .int 0, .int 0, .int 0, .int 0])) :: [(q1, .inl (G.2.2.1 0, 32, .inl (fun _ => 0))), (q2, .inl (G.2.2.1 0, 7, .inl (upd (upd (upd (fun _ => 0) 0 0) 1 1) 2 1)))]) := hD
  refine lv_dup (pc := 29) hx hb dX5_init_29 rfl ?_
  refine lv_iconst (pc := 30) (v := 3) hx hb dX5_init_30 (by decide) ?_
  refine lv_iconst (pc := 31) (v := 1) hx hb dX5_init_31 (by decide) ?_
  refine va_iast (pc := 32) hx hb hV.K hP hD hS 2 0 rfl rfl (fun q => absurd q (by decide)) dX5_init_32 (fun H locs hP hD hS => ?_)
  have hP : va_P G.1 vwCl ((h0, .inr (7, [.ref q1, .null, .null, .int 0, .int 0, .int 0, .int 0, .int 0, .int 0])) :: [(q1, .inl (G.2.2.1 0, 32, .inl (fun _ => 0))), (q2, .inl (G.2.2.1 0, 7, .inl (upd (upd (upd (upd (fun _ => 0) 0 0) 1 1) 2 1) 3 1)))]) H := hP
  have hD : va_D A ((h0, .inr (7, [.ref q1, .null, .null, .int 0, .int 0, .int 0, .int 0, .int 0, .int 0])) :: [(q1, .inl (G.2.2.1 0, 32, .inl (fun _ => 0))), (q2, .inl (G.2.2.1 0, 7, .inl (upd (upd (upd (upd (fun _ => 0) 0 0) 1 1) 2 1) 3 1)))]) := hD
  refine lv_dup (pc := 33) hx hb dX5_init_33 rfl ?_
  refine lv_iconst (pc := 34) (v := 4) hx hb dX5_init_34 (by decide) ?_
  refine lv_iconst (pc := 35) (v := 1) hx hb dX5_init_35 (by decide) ?_
  refine va_iast (pc := 36) hx hb hV.K hP hD hS 2 0 rfl rfl (fun q => absurd q (by decide)) dX5_init_36 (fun H locs hP hD hS => ?_)
  have hP : va_P G.1 vwCl ((h0, .inr (7, [.ref q1, .null, .null, .int 0, .int 0, .int 0, .int 0, .int 0, .int 0])) :: [(q1, .inl (G.2.2.1 0, 32, .inl (fun _ => 0))), (q2, .inl (G.2.2.1 0, 7, .inl (upd (upd (upd (upd (upd (fun _ => 0) 0 0) 1 1) 2 1) 3 1) 4 1)))]) H := hP
  have hD : va_D A ((h0, .inr (7, [.ref q1, .null, .null, .int 0, .int 0, .int 0, .int 0, .int 0, .int 0])) :: [(q1, .inl (G.2.2.1 0, 32, .inl (fun _ => 0))), (q2, .inl (G.2.2.1 0, 7, .inl (upd (upd (upd (upd (upd (fun _ => 0) 0 0) 1 1) 2 1) 3 1) 4 1)))]) := hD
  refine lv_dup (pc := 37) hx hb dX5_init_37 rfl ?_
  refine lv_iconst (pc := 38) (v := 5) hx hb dX5_init_38 (by decide) ?_
  refine lv_iconst (pc := 39) (v := 1) hx hb dX5_init_39 (by decide) ?_
  refine va_iast (pc := 40) hx hb hV.K hP hD hS 2 0 rfl rfl (fun q => absurd q (by decide)) dX5_init_40 (fun H locs hP hD hS => ?_)
  have hP : va_P G.1 vwCl ((h0, .inr (7, [.ref q1, .null, .null, .int 0, .int 0, .int 0, .int 0, .int 0, .int 0])) :: [(q1, .inl (G.2.2.1 0, 32, .inl (fun _ => 0))), (q2, .inl (G.2.2.1 0, 7, .inl (upd (upd (upd (upd (upd (upd (fun _ => 0) 0 0) 1 1) 2 1) 3 1) 4 1) 5 1)))]) H := hP
  have hD : va_D A ((h0, .inr (7, [.ref q1, .null, .null, .int 0, .int 0, .int 0, .int 0, .int 0, .int 0])) :: [(q1, .inl (G.2.2.1 0, 32, .inl (fun _ => 0))), (q2, .inl (G.2.2.1 0, 7, .inl (upd (upd (upd (upd (upd (upd (fun _ => 0) 0 0) 1 1) 2 1) 3 1) 4 1) 5 1)))]) := hD
  refine lv_dup (pc := 41) hx hb dX5_init_41 rfl ?_
  refine lv_bipush (pc := 42) (v := 6) hx hb dX5_init_42 (by decide) ?_
  refine lv_iconst (pc := 44) (v := 1) hx hb dX5_init_44 (by decide) ?_
  refine va_iast (pc := 45) hx hb hV.K hP hD hS 2 0 rfl rfl (fun q => absurd q (by decide)) dX5_init_45 (fun H locs hP hD hS => ?_)
  have hP : va_P G.1 vwCl ((h0, .inr (7, [.ref q1, .null, .null, .int 0, .int 0, .int 0, .int 0, .int 0, .int 0])) :: [(q1, .inl (G.2.2.1 0, 32, .inl (fun _ => 0))), (q2, .inl (G.2.2.1 0, 7, .inl (upd (upd (upd (upd (upd (upd (upd (fun _ => 0) 0 0) 1 1) 2 1) 3 1) 4 1) 5 1) 6 1)))]) H := hP
  have hD : va_D A ((h0, .inr (7, [.ref q1, .null, .null, .int 0, .int 0, .int 0, .int 0, .int 0, .int 0])) :: [(q1, .inl (G.2.2.1 0, 32, .inl (fun _ => 0))), (q2, .inl (G.2.2.1 0, 7, .inl (upd (upd (upd (upd (upd (upd (upd (fun _ => 0) 0 0) 1 1) 2 1) 3 1) 4 1) 5 1) 6 1)))]) := hD
  refine gx_putF (pc := 46) (ci := 7) (v := .ref q2) (ty := (.array .int)) hx hb hV gl_X5 tyX5 tyX5_ok nmX5 hown hP hD hS rfl 1 (by decide) rfl rfl hmn (by decide +kernel) rfl rfl (Nat.le_of_ble_eq_true rfl) (gv_86 hV) dX5_init_46 (fun H locs hP hD hS => ?_)
  have hP : va_P G.1 vwCl ((h0, .inr (7, [.ref q1, .ref q2, .null, .int 0, .int 0, .int 0, .int 0, .int 0, .int 0])) :: [(q1, .inl (G.2.2.1 0, 32, .inl (fun _ => 0))), (q2, .inl (G.2.2.1 0, 7, .inl (upd (upd (upd (upd (upd (upd (upd (fun _ => 0) 0 0) 1 1) 2 1) 3 1) 4 1) 5 1) 6 1)))]) H := hP
  have hD : va_D A ((h0, .inr (7, [.ref q1, .ref q2, .null, .int 0, .int 0, .int 0, .int 0, .int 0, .int 0])) :: [(q1, .inl (G.2.2.1 0, 32, .inl (fun _ => 0))), (q2, .inl (G.2.2.1 0, 7, .inl (upd (upd (upd (upd (upd (upd (upd (fun _ => 0) 0 0) 1 1) 2 1) 3 1) 4 1) 5 1) 6 1)))]) := hD
  refine lv_aload_n (pc := 49) hx hb dX5_init_49 rfl (lv_at hl 0 rfl) ?_
  refine lv_bipush (pc := 50) (v := 42) hx hb dX5_init_50 (by decide) ?_
  refine gx_newa (pc := 52) (ty := .int) (N' := 42) (a0 := (42, .inl (fun _ => 0))) hx hb (gx_ac0 hV) rfl hV.K hP hD hS hA 0 rfl (fun _ => by rfl) (by decide) (by decide) (by decide) (Nat.le_of_ble_eq_true rfl) (Nat.le_of_ble_eq_true rfl) dX5_init_52 (fun q3 H hP hD hS => ?_)
  have hP : va_P G.1 vwCl ((h0, .inr (7, [.ref q1, .ref q2, .null, .int 0, .int 0, .int 0, .int 0, .int 0, .int 0])) :: [(q1, .inl (G.2.2.1 0, 32, .inl (fun _ => 0))), (q2, .inl (G.2.2.1 0, 7, .inl (upd (upd (upd (upd (upd (upd (upd (fun _ => 0) 0 0) 1 1) 2 1) 3 1) 4 1) 5 1) 6 1))), (q3, .inl (G.2.2.1 0, 42, .inl (fun _ => 0)))]) H := hP
  have hD : va_D A ((h0, .inr (7, [.ref q1, .ref q2, .null, .int 0, .int 0, .int 0, .int 0, .int 0, .int 0])) :: [(q1, .inl (G.2.2.1 0, 32, .inl (fun _ => 0))), (q2, .inl (G.2.2.1 0, 7, .inl (upd (upd (upd (upd (upd (upd (upd (fun _ => 0) 0 0) 1 1) 2 1) 3 1) 4 1) 5 1) 6 1))), (q3, .inl (G.2.2.1 0, 42, .inl (fun _ => 0)))]) := hD
  refine W.widen (k := 3) (n := 81) (by omega) (by omega) ?_
  refine gx_putF (pc := 54) (ci := 7) (v := .ref q3) (ty := (.array .int)) hx hb hV gl_X5 tyX5 tyX5_ok nmX5 hown hP hD hS rfl 2 (by decide) rfl rfl hmn (by decide +kernel) rfl rfl (Nat.le_of_ble_eq_true rfl) (gv_89 hV) dX5_init_54 (fun H locs hP hD hS => ?_)
  have hP : va_P G.1 vwCl ((h0, .inr (7, [.ref q1, .ref q2, .ref q3, .int 0, .int 0, .int 0, .int 0, .int 0, .int 0])) :: [(q1, .inl (G.2.2.1 0, 32, .inl (fun _ => 0))), (q2, .inl (G.2.2.1 0, 7, .inl (upd (upd (upd (upd (upd (upd (upd (fun _ => 0) 0 0) 1 1) 2 1) 3 1) 4 1) 5 1) 6 1))), (q3, .inl (G.2.2.1 0, 42, .inl (fun _ => 0)))]) H := hP
  have hD : va_D A ((h0, .inr (7, [.ref q1, .ref q2, .ref q3, .int 0, .int 0, .int 0, .int 0, .int 0, .int 0])) :: [(q1, .inl (G.2.2.1 0, 32, .inl (fun _ => 0))), (q2, .inl (G.2.2.1 0, 7, .inl (upd (upd (upd (upd (upd (upd (upd (fun _ => 0) 0 0) 1 1) 2 1) 3 1) 4 1) 5 1) 6 1))), (q3, .inl (G.2.2.1 0, 42, .inl (fun _ => 0)))]) := hD
  refine lv_aload_n (pc := 57) hx hb dX5_init_57 rfl (lv_at hl 0 rfl) ?_
  refine lv_iconst (pc := 58) (v := 0) hx hb dX5_init_58 (by decide) ?_
  refine gx_putN (pc := 59) (ci := 7) (v := .int 0) (ty := .int) hx hb hV gl_X5 tyX5 tyX5_ok nmX5 hown hP hD hS rfl 3 (by decide) rfl rfl (by decide +kernel) rfl rfl (Nat.le_of_ble_eq_true rfl) (gv_90 hV) dX5_init_59 (fun H locs hP hD hS => ?_)
  have hP : va_P G.1 vwCl ((h0, .inr (7, [.ref q1, .ref q2, .ref q3, .int 0, .int 0, .int 0, .int 0, .int 0, .int 0])) :: [(q1, .inl (G.2.2.1 0, 32, .inl (fun _ => 0))), (q2, .inl (G.2.2.1 0, 7, .inl (upd (upd (upd (upd (upd (upd (upd (fun _ => 0) 0 0) 1 1) 2 1) 3 1) 4 1) 5 1) 6 1))), (q3, .inl (G.2.2.1 0, 42, .inl (fun _ => 0)))]) H := hP
  have hD : va_D A ((h0, .inr (7, [.ref q1, .ref q2, .ref q3, .int 0, .int 0, .int 0, .int 0, .int 0, .int 0])) :: [(q1, .inl (G.2.2.1 0, 32, .inl (fun _ => 0))), (q2, .inl (G.2.2.1 0, 7, .inl (upd (upd (upd (upd (upd (upd (upd (fun _ => 0) 0 0) 1 1) 2 1) 3 1) 4 1) 5 1) 6 1))), (q3, .inl (G.2.2.1 0, 42, .inl (fun _ => 0)))]) := hD
  refine lv_aload_n (pc := 62) hx hb dX5_init_62 rfl (lv_at hl 0 rfl) ?_
  refine lv_iconst (pc := 63) (v := 2) hx hb dX5_init_63 (by decide) ?_
  refine gx_putN (pc := 64) (ci := 7) (v := .int 2) (ty := .int) hx hb hV gl_X5 tyX5 tyX5_ok nmX5 hown hP hD hS rfl 4 (by decide) rfl rfl (by decide +kernel) rfl rfl (Nat.le_of_ble_eq_true rfl) (gv_94 hV) dX5_init_64 (fun H locs hP hD hS => ?_)
  have hP : va_P G.1 vwCl ((h0, .inr (7, [.ref q1, .ref q2, .ref q3, .int 0, .int 2, .int 0, .int 0, .int 0, .int 0])) :: [(q1, .inl (G.2.2.1 0, 32, .inl (fun _ => 0))), (q2, .inl (G.2.2.1 0, 7, .inl (upd (upd (upd (upd (upd (upd (upd (fun _ => 0) 0 0) 1 1) 2 1) 3 1) 4 1) 5 1) 6 1))), (q3, .inl (G.2.2.1 0, 42, .inl (fun _ => 0)))]) H := hP
  have hD : va_D A ((h0, .inr (7, [.ref q1, .ref q2, .ref q3, .int 0, .int 2, .int 0, .int 0, .int 0, .int 0])) :: [(q1, .inl (G.2.2.1 0, 32, .inl (fun _ => 0))), (q2, .inl (G.2.2.1 0, 7, .inl (upd (upd (upd (upd (upd (upd (upd (fun _ => 0) 0 0) 1 1) 2 1) 3 1) 4 1) 5 1) 6 1))), (q3, .inl (G.2.2.1 0, 42, .inl (fun _ => 0)))]) := hD
  refine lv_aload_n (pc := 67) hx hb dX5_init_67 rfl (lv_at hl 0 rfl) ?_
  refine lv_iconst (pc := 68) (v := (-1)) hx hb dX5_init_68 (by decide) ?_
  refine gx_putN (pc := 69) (ci := 7) (v := .int (-1)) (ty := .int) hx hb hV gl_X5 tyX5 tyX5_ok nmX5 hown hP hD hS rfl 5 (by decide) rfl rfl (by decide +kernel) rfl rfl (Nat.le_of_ble_eq_true rfl) (gv_98 hV) dX5_init_69 (fun H locs hP hD hS => ?_)
  have hP : va_P G.1 vwCl ((h0, .inr (7, [.ref q1, .ref q2, .ref q3, .int 0, .int 2, .int (-1), .int 0, .int 0, .int 0])) :: [(q1, .inl (G.2.2.1 0, 32, .inl (fun _ => 0))), (q2, .inl (G.2.2.1 0, 7, .inl (upd (upd (upd (upd (upd (upd (upd (fun _ => 0) 0 0) 1 1) 2 1) 3 1) 4 1) 5 1) 6 1))), (q3, .inl (G.2.2.1 0, 42, .inl (fun _ => 0)))]) H := hP
  have hD : va_D A ((h0, .inr (7, [.ref q1, .ref q2, .ref q3, .int 0, .int 2, .int (-1), .int 0, .int 0, .int 0])) :: [(q1, .inl (G.2.2.1 0, 32, .inl (fun _ => 0))), (q2, .inl (G.2.2.1 0, 7, .inl (upd (upd (upd (upd (upd (upd (upd (fun _ => 0) 0 0) 1 1) 2 1) 3 1) 4 1) 5 1) 6 1))), (q3, .inl (G.2.2.1 0, 42, .inl (fun _ => 0)))]) := hD
  refine lv_aload_n (pc := 72) hx hb dX5_init_72 rfl (lv_at hl 0 rfl) ?_
  refine lv_iconst (pc := 73) (v := 0) hx hb dX5_init_73 (by decide) ?_
  refine gx_putN (pc := 74) (ci := 7) (v := .int 0) (ty := .int) hx hb hV gl_X5 tyX5 tyX5_ok nmX5 hown hP hD hS rfl 6 (by decide) rfl rfl (by decide +kernel) rfl rfl (Nat.le_of_ble_eq_true rfl) (gv_102 hV) dX5_init_74 (fun H locs hP hD hS => ?_)
  have hP : va_P G.1 vwCl ((h0, .inr (7, [.ref q1, .ref q2, .ref q3, .int 0, .int 2, .int (-1), .int 0, .int 0, .int 0])) :: [(q1, .inl (G.2.2.1 0, 32, .inl (fun _ => 0))), (q2, .inl (G.2.2.1 0, 7, .inl (upd (upd (upd (upd (upd (upd (upd (fun _ => 0) 0 0) 1 1) 2 1) 3 1) 4 1) 5 1) 6 1))), (q3, .inl (G.2.2.1 0, 42, .inl (fun _ => 0)))]) H := hP
  have hD : va_D A ((h0, .inr (7, [.ref q1, .ref q2, .ref q3, .int 0, .int 2, .int (-1), .int 0, .int 0, .int 0])) :: [(q1, .inl (G.2.2.1 0, 32, .inl (fun _ => 0))), (q2, .inl (G.2.2.1 0, 7, .inl (upd (upd (upd (upd (upd (upd (upd (fun _ => 0) 0 0) 1 1) 2 1) 3 1) 4 1) 5 1) 6 1))), (q3, .inl (G.2.2.1 0, 42, .inl (fun _ => 0)))]) := hD
  refine lv_aload_n (pc := 77) hx hb dX5_init_77 rfl (lv_at hl 0 rfl) ?_
  refine lv_iconst (pc := 78) (v := 0) hx hb dX5_init_78 (by decide) ?_
  refine gx_putN (pc := 79) (ci := 7) (v := .int 0) (ty := .int) hx hb hV gl_X5 tyX5 tyX5_ok nmX5 hown hP hD hS rfl 7 (by decide) rfl rfl (by decide +kernel) rfl rfl (Nat.le_of_ble_eq_true rfl) (gv_104 hV) dX5_init_79 (fun H locs hP hD hS => ?_)
  have hP : va_P G.1 vwCl ((h0, .inr (7, [.ref q1, .ref q2, .ref q3, .int 0, .int 2, .int (-1), .int 0, .int 0, .int 0])) :: [(q1, .inl (G.2.2.1 0, 32, .inl (fun _ => 0))), (q2, .inl (G.2.2.1 0, 7, .inl (upd (upd (upd (upd (upd (upd (upd (fun _ => 0) 0 0) 1 1) 2 1) 3 1) 4 1) 5 1) 6 1))), (q3, .inl (G.2.2.1 0, 42, .inl (fun _ => 0)))]) H := hP
  have hD : va_D A ((h0, .inr (7, [.ref q1, .ref q2, .ref q3, .int 0, .int 2, .int (-1), .int 0, .int 0, .int 0])) :: [(q1, .inl (G.2.2.1 0, 32, .inl (fun _ => 0))), (q2, .inl (G.2.2.1 0, 7, .inl (upd (upd (upd (upd (upd (upd (upd (fun _ => 0) 0 0) 1 1) 2 1) 3 1) 4 1) 5 1) 6 1))), (q3, .inl (G.2.2.1 0, 42, .inl (fun _ => 0)))]) := hD
  refine lv_aload_n (pc := 82) hx hb dX5_init_82 rfl (lv_at hl 0 rfl) ?_
  refine lv_iconst (pc := 83) (v := 0) hx hb dX5_init_83 (by decide) ?_
  refine gx_putN (pc := 84) (ci := 7) (v := .int 0) (ty := .int) hx hb hV gl_X5 tyX5 tyX5_ok nmX5 hown hP hD hS rfl 8 (by decide) rfl rfl (by decide +kernel) rfl rfl (Nat.le_of_ble_eq_true rfl) (gv_107 hV) dX5_init_84 (fun H locs hP hD hS => ?_)
  have hP : va_P G.1 vwCl ((h0, .inr (7, [.ref q1, .ref q2, .ref q3, .int 0, .int 2, .int (-1), .int 0, .int 0, .int 0])) :: [(q1, .inl (G.2.2.1 0, 32, .inl (fun _ => 0))), (q2, .inl (G.2.2.1 0, 7, .inl (upd (upd (upd (upd (upd (upd (upd (fun _ => 0) 0 0) 1 1) 2 1) 3 1) 4 1) 5 1) 6 1))), (q3, .inl (G.2.2.1 0, 42, .inl (fun _ => 0)))]) H := hP
  have hD : va_D A ((h0, .inr (7, [.ref q1, .ref q2, .ref q3, .int 0, .int 2, .int (-1), .int 0, .int 0, .int 0])) :: [(q1, .inl (G.2.2.1 0, 32, .inl (fun _ => 0))), (q2, .inl (G.2.2.1 0, 7, .inl (upd (upd (upd (upd (upd (upd (upd (fun _ => 0) 0 0) 1 1) 2 1) 3 1) 4 1) 5 1) 6 1))), (q3, .inl (G.2.2.1 0, 42, .inl (fun _ => 0)))]) := hD
  refine lv_iconst (pc := 87) (v := 0) hx hb dX5_init_87 (by decide) ?_
  refine lv_istore_n (pc := 88) (lv' := [(1, .int 0), (0, .ref h0)]) hx hb dX5_init_88 rfl hl (by decide) rfl (fun ls hl => ?_)
  obtain ⟨hP, hD⟩ := gx_swap hP hD 2 rfl (gx_ati gx_str7)
  exact i_X5_loop hx hb hr hown hlocks hV hA (fun _ _ => ⟨q1, q2, q3, rfl⟩) rfl 42 0 rfl _ H _ ls (fun k hk => absurd hk (by omega)) hl hP hD hS
set_option maxHeartbeats 1000000 in
set_option maxRecDepth 100000 in
theorem i_X0 (l : Launch) (G : gx_G) (h0 : Nat) (sz : Nat) : gx_KI l yX0_init cX0_init 1 ({ frames := 1, cells := 2, slots := 84, locals := 12 }) ([.ref h0]) G [(h0, .inr (2, [.null, .null, .int 0]))] sz (fun w => ∃ q1 q2 : Nat, w = [(h0, .inr (2, [.ref q1, .ref q2, .int 0])), (q1, .inl (G.2.2.1 2, 42, .inl (fun _ => gx_boo 0))), (q2, .inl (G.2.2.1 0, 42, .inl (fun _ => 0)))]) 2 84 := by
  refine gx_beginI (by decide) rfl (Nat.le_of_ble_eq_true rfl) ?_
  intro p e s m below meth c A hx hb hr hml hown hlocks hmn hV hP hD hA ls hl
  have hS : va_S A s.heap s.heap [] := va_S.rf
  refine lv_aload_n (pc := 0) hx hb dX0_init_0 rfl (lv_at hl 0 rfl) ?_
  refine W.objInit hx hb hown (gv_154 hV) (gv_76 hV) (gv_77 hV) rfl (by rw [hml]; exact hl.1) rfl dX0_init_1 (Nat.le_of_ble_eq_true rfl) (Nat.le_of_ble_eq_true rfl) ?_
  refine W.eq (g2 := F0 m 4 ls []) rfl ?_
  refine lv_aload_n (pc := 4) hx hb dX0_init_4 rfl (lv_at hl 0 rfl) ?_
  refine lv_bipush (pc := 5) (v := 42) hx hb dX0_init_5 (by decide) ?_
  refine gx_newa (pc := 7) (ty := .boolean) (N' := 42) (a0 := (42, .inl (fun _ => gx_boo 0))) hx hb (gx_ac2 hV) rfl hV.K hP hD hS hA 2 rfl (fun _ => by rw [gx_b0]; rfl) (by decide) (by decide) (by decide) (Nat.le_of_ble_eq_true rfl) (Nat.le_of_ble_eq_true rfl) dX0_init_7 (fun q1 H hP hD hS => ?_)
  have hP : va_P G.1 vwCl ((h0, .inr (2, [.null, .null, .int 0])) :: [(q1, .inl (G.2.2.1 2, 42, .inl (fun _ => gx_boo 0)))]) H := hP
  have hD : va_D A ((h0, .inr (2, [.null, .null, .int 0])) :: [(q1, .inl (G.2.2.1 2, 42, .inl (fun _ => gx_boo 0)))]) := hD
  refine W.widen (k := 1) (n := 42) (by omega) (by omega) ?_
  refine gx_putF (pc := 9) (ci := 2) (v := .ref q1) (ty := (.array .boolean)) hx hb hV gl_X0 tyX0 tyX0_ok nmX0 hown hP hD hS rfl 0 (by decide) rfl rfl hmn (by decide +kernel) rfl rfl (Nat.le_of_ble_eq_true rfl) (gv_155 hV) dX0_init_9 (fun H locs hP hD hS => ?_)
  have hP : va_P G.1 vwCl ((h0, .inr (2, [.ref q1, .null, .int 0])) :: [(q1, .inl (G.2.2.1 2, 42, .inl (fun _ => gx_boo 0)))]) H := hP
  have hD : va_D A ((h0, .inr (2, [.ref q1, .null, .int 0])) :: [(q1, .inl (G.2.2.1 2, 42, .inl (fun _ => gx_boo 0)))]) := hD
  refine lv_aload_n (pc := 12) hx hb dX0_init_12 rfl (lv_at hl 0 rfl) ?_
  refine lv_bipush (pc := 13) (v := 42) hx hb dX0_init_13 (by decide) ?_
  refine gx_newa (pc := 15) (ty := .int) (N' := 42) (a0 := (42, .inl (fun _ => 0))) hx hb (gx_ac0 hV) rfl hV.K hP hD hS hA 0 rfl (fun _ => by rfl) (by decide) (by decide) (by decide) (Nat.le_of_ble_eq_true rfl) (Nat.le_of_ble_eq_true rfl) dX0_init_15 (fun q2 H hP hD hS => ?_)
  have hP : va_P G.1 vwCl ((h0, .inr (2, [.ref q1, .null, .int 0])) :: [(q1, .inl (G.2.2.1 2, 42, .inl (fun _ => gx_boo 0))), (q2, .inl (G.2.2.1 0, 42, .inl (fun _ => 0)))]) H := hP
  have hD : va_D A ((h0, .inr (2, [.ref q1, .null, .int 0])) :: [(q1, .inl (G.2.2.1 2, 42, .inl (fun _ => gx_boo 0))), (q2, .inl (G.2.2.1 0, 42, .inl (fun _ => 0)))]) := hD
  refine W.widen (k := 2) (n := 84) (by omega) (by omega) ?_
  refine gx_putF (pc := 17) (ci := 2) (v := .ref q2) (ty := (.array .int)) hx hb hV gl_X0 tyX0 tyX0_ok nmX0 hown hP hD hS rfl 1 (by decide) rfl rfl hmn (by decide +kernel) rfl rfl (Nat.le_of_ble_eq_true rfl) (gv_156 hV) dX0_init_17 (fun H locs hP hD hS => ?_)
  have hP : va_P G.1 vwCl ((h0, .inr (2, [.ref q1, .ref q2, .int 0])) :: [(q1, .inl (G.2.2.1 2, 42, .inl (fun _ => gx_boo 0))), (q2, .inl (G.2.2.1 0, 42, .inl (fun _ => 0)))]) H := hP
  have hD : va_D A ((h0, .inr (2, [.ref q1, .ref q2, .int 0])) :: [(q1, .inl (G.2.2.1 2, 42, .inl (fun _ => gx_boo 0))), (q2, .inl (G.2.2.1 0, 42, .inl (fun _ => 0)))]) := hD
  refine lv_aload_n (pc := 20) hx hb dX0_init_20 rfl (lv_at hl 0 rfl) ?_
  refine lv_iconst (pc := 21) (v := 0) hx hb dX0_init_21 (by decide) ?_
  refine gx_putN (pc := 22) (ci := 2) (v := .int 0) (ty := .int) hx hb hV gl_X0 tyX0 tyX0_ok nmX0 hown hP hD hS rfl 2 (by decide) rfl rfl (by decide +kernel) rfl rfl (Nat.le_of_ble_eq_true rfl) (gv_157 hV) dX0_init_22 (fun H locs hP hD hS => ?_)
  have hP : va_P G.1 vwCl ((h0, .inr (2, [.ref q1, .ref q2, .int 0])) :: [(q1, .inl (G.2.2.1 2, 42, .inl (fun _ => gx_boo 0))), (q2, .inl (G.2.2.1 0, 42, .inl (fun _ => 0)))]) H := hP
  have hD : va_D A ((h0, .inr (2, [.ref q1, .ref q2, .int 0])) :: [(q1, .inl (G.2.2.1 2, 42, .inl (fun _ => gx_boo 0))), (q2, .inl (G.2.2.1 0, 42, .inl (fun _ => 0)))]) := hD
  exact gx_retI hx hb hr hlocks hP hD hS ⟨q1, q2, rfl⟩ dX0_init_25
set_option maxHeartbeats 1000000 in
set_option maxRecDepth 100000 in
theorem i_X1 (l : Launch) (G : gx_G) (h0 : Nat) (sz : Nat) : gx_KI l yX1_init cX1_init 1 ({ frames := 1, cells := 1, slots := 4, locals := 12 }) ([.ref h0]) G [(h0, .inr (3, [.null, .int 0, .int 0]))] sz (fun w => ∃ q1 : Nat, w = [(h0, .inr (3, [.ref q1, .int (-1), .int (-1)])), (q1, .inl (G.2.2.1 0, 4, .inl (fun _ => 0)))]) 1 4 := by
  refine gx_beginI (by decide) rfl (Nat.le_of_ble_eq_true rfl) ?_
  intro p e s m below meth c A hx hb hr hml hown hlocks hmn hV hP hD hA ls hl
  have hS : va_S A s.heap s.heap [] := va_S.rf
  refine lv_aload_n (pc := 0) hx hb dX1_init_0 rfl (lv_at hl 0 rfl) ?_
  refine W.objInit hx hb hown (gv_171 hV) (gv_76 hV) (gv_77 hV) rfl (by rw [hml]; exact hl.1) rfl dX1_init_1 (Nat.le_of_ble_eq_true rfl) (Nat.le_of_ble_eq_true rfl) ?_
  refine W.eq (g2 := F0 m 4 ls []) rfl ?_
  refine lv_aload_n (pc := 4) hx hb dX1_init_4 rfl (lv_at hl 0 rfl) ?_
  refine lv_iconst (pc := 5) (v := 4) hx hb dX1_init_5 (by decide) ?_
  refine gx_newa (pc := 6) (ty := .int) (N' := 4) (a0 := (4, .inl (fun _ => 0))) hx hb (gx_ac0 hV) rfl hV.K hP hD hS hA 0 rfl (fun _ => by rfl) (by decide) (by decide) (by decide) (Nat.le_of_ble_eq_true rfl) (Nat.le_of_ble_eq_true rfl) dX1_init_6 (fun q1 H hP hD hS => ?_)
  have hP : va_P G.1 vwCl ((h0, .inr (3, [.null, .int 0, .int 0])) :: [(q1, .inl (G.2.2.1 0, 4, .inl (fun _ => 0)))]) H := hP
  have hD : va_D A ((h0, .inr (3, [.null, .int 0, .int 0])) :: [(q1, .inl (G.2.2.1 0, 4, .inl (fun _ => 0)))]) := hD
  refine W.widen (k := 1) (n := 4) (by omega) (by omega) ?_
  refine gx_putF (pc := 8) (ci := 3) (v := .ref q1) (ty := (.array .int)) hx hb hV gl_X1 tyX1 tyX1_ok nmX1 hown hP hD hS rfl 0 (by decide) rfl rfl hmn (by decide +kernel) rfl rfl (Nat.le_of_ble_eq_true rfl) (gv_172 hV) dX1_init_8 (fun H locs hP hD hS => ?_)
  have hP : va_P G.1 vwCl ((h0, .inr (3, [.ref q1, .int 0, .int 0])) :: [(q1, .inl (G.2.2.1 0, 4, .inl (fun _ => 0)))]) H := hP
  have hD : va_D A ((h0, .inr (3, [.ref q1, .int 0, .int 0])) :: [(q1, .inl (G.2.2.1 0, 4, .inl (fun _ => 0)))]) := hD
  refine lv_aload_n (pc := 11) hx hb dX1_init_11 rfl (lv_at hl 0 rfl) ?_
  refine lv_iconst (pc := 12) (v := (-1)) hx hb dX1_init_12 (by decide) ?_
  refine gx_putN (pc := 13) (ci := 3) (v := .int (-1)) (ty := .int) hx hb hV gl_X1 tyX1 tyX1_ok nmX1 hown hP hD hS rfl 1 (by decide) rfl rfl (by decide +kernel) rfl rfl (Nat.le_of_ble_eq_true rfl) (gv_173 hV) dX1_init_13 (fun H locs hP hD hS => ?_)
  have hP : va_P G.1 vwCl ((h0, .inr (3, [.ref q1, .int (-1), .int 0])) :: [(q1, .inl (G.2.2.1 0, 4, .inl (fun _ => 0)))]) H := hP
  have hD : va_D A ((h0, .inr (3, [.ref q1, .int (-1), .int 0])) :: [(q1, .inl (G.2.2.1 0, 4, .inl (fun _ => 0)))]) := hD
  refine lv_aload_n (pc := 16) hx hb dX1_init_16 rfl (lv_at hl 0 rfl) ?_
  refine lv_iconst (pc := 17) (v := (-1)) hx hb dX1_init_17 (by decide) ?_
  refine gx_putN (pc := 18) (ci := 3) (v := .int (-1)) (ty := .int) hx hb hV gl_X1 tyX1 tyX1_ok nmX1 hown hP hD hS rfl 2 (by decide) rfl rfl (by decide +kernel) rfl rfl (Nat.le_of_ble_eq_true rfl) (gv_175 hV) dX1_init_18 (fun H locs hP hD hS => ?_)
  have hP : va_P G.1 vwCl ((h0, .inr (3, [.ref q1, .int (-1), .int (-1)])) :: [(q1, .inl (G.2.2.1 0, 4, .inl (fun _ => 0)))]) H := hP
  have hD : va_D A ((h0, .inr (3, [.ref q1, .int (-1), .int (-1)])) :: [(q1, .inl (G.2.2.1 0, 4, .inl (fun _ => 0)))]) := hD
  exact gx_retI hx hb hr hlocks hP hD hS ⟨q1, rfl⟩ dX1_init_21
set_option maxHeartbeats 1000000 in
set_option maxRecDepth 100000 in
theorem i_X3 (l : Launch) (G : gx_G) (h0 : Nat) (a1 a2 : Nat) (sz : Nat) : gx_KI l yX3_init cX3_init 3 ({ frames := 1, cells := 0, slots := 0, locals := 12 }) ([.ref h0, .ref a1, .ref a2]) G [(h0, .inr (5, [.null, .null, .int 0, .int 0]))] sz (fun w => w = [(h0, .inr (5, [.ref a1, .ref a2, .int 0, .int 0]))]) 0 0 := by
  refine gx_beginI (by decide) rfl (Nat.le_of_ble_eq_true rfl) ?_
  intro p e s m below meth c A hx hb hr hml hown hlocks hmn hV hP hD hA ls hl
  have hS : va_S A s.heap s.heap [] := va_S.rf
  refine lv_aload_n (pc := 0) hx hb dX3_init_0 rfl (lv_at hl 0 rfl) ?_
  refine W.objInit hx hb hown (gv_189 hV) (gv_76 hV) (gv_77 hV) rfl (by rw [hml]; exact hl.1) rfl dX3_init_1 (Nat.le_of_ble_eq_true rfl) (Nat.le_of_ble_eq_true rfl) ?_
  refine W.eq (g2 := F0 m 4 ls []) rfl ?_
  refine lv_aload_n (pc := 4) hx hb dX3_init_4 rfl (lv_at hl 0 rfl) ?_
  refine lv_iconst (pc := 5) (v := 0) hx hb dX3_init_5 (by decide) ?_
  refine gx_putN (pc := 6) (ci := 5) (v := .int 0) (ty := .int) hx hb hV gl_X3 tyX3 tyX3_ok nmX3 hown hP hD hS rfl 2 (by decide) rfl rfl (by decide +kernel) rfl rfl (Nat.le_of_ble_eq_true rfl) (gv_192 hV) dX3_init_6 (fun H locs hP hD hS => ?_)
  have hP : va_P G.1 vwCl ((h0, .inr (5, [.null, .null, .int 0, .int 0])) :: []) H := hP
  have hD : va_D A ((h0, .inr (5, [.null, .null, .int 0, .int 0])) :: []) := hD
  refine lv_aload_n (pc := 9) hx hb dX3_init_9 rfl (lv_at hl 0 rfl) ?_
  refine lv_iconst (pc := 10) (v := 0) hx hb dX3_init_10 (by decide) ?_
  refine gx_putN (pc := 11) (ci := 5) (v := .int 0) (ty := .int) hx hb hV gl_X3 tyX3 tyX3_ok nmX3 hown hP hD hS rfl 3 (by decide) rfl rfl (by decide +kernel) rfl rfl (Nat.le_of_ble_eq_true rfl) (gv_194 hV) dX3_init_11 (fun H locs hP hD hS => ?_)
  have hP : va_P G.1 vwCl ((h0, .inr (5, [.null, .null, .int 0, .int 0])) :: []) H := hP
  have hD : va_D A ((h0, .inr (5, [.null, .null, .int 0, .int 0])) :: []) := hD
  refine lv_aload_n (pc := 14) hx hb dX3_init_14 rfl (lv_at hl 0 rfl) ?_
  refine lv_aload_n (pc := 15) hx hb dX3_init_15 rfl (lv_at hl 1 rfl) ?_
  refine gx_putF (pc := 16) (ci := 5) (v := .ref a1) (ty := (.object "GluedWall$Footing")) hx hb hV gl_X3 tyX3 tyX3_ok nmX3 hown hP hD hS rfl 0 (by decide) rfl rfl hmn (by decide +kernel) rfl rfl (Nat.le_of_ble_eq_true rfl) (gv_190 hV) dX3_init_16 (fun H locs hP hD hS => ?_)
  have hP : va_P G.1 vwCl ((h0, .inr (5, [.ref a1, .null, .int 0, .int 0])) :: []) H := hP
  have hD : va_D A ((h0, .inr (5, [.ref a1, .null, .int 0, .int 0])) :: []) := hD
  refine lv_aload_n (pc := 19) hx hb dX3_init_19 rfl (lv_at hl 0 rfl) ?_
  refine lv_aload_n (pc := 20) hx hb dX3_init_20 rfl (lv_at hl 2 rfl) ?_
  refine gx_putF (pc := 21) (ci := 5) (v := .ref a2) (ty := (.object "GluedWall$Growth")) hx hb hV gl_X3 tyX3 tyX3_ok nmX3 hown hP hD hS rfl 1 (by decide) rfl rfl hmn (by decide +kernel) rfl rfl (Nat.le_of_ble_eq_true rfl) (gv_191 hV) dX3_init_21 (fun H locs hP hD hS => ?_)
  have hP : va_P G.1 vwCl ((h0, .inr (5, [.ref a1, .ref a2, .int 0, .int 0])) :: []) H := hP
  have hD : va_D A ((h0, .inr (5, [.ref a1, .ref a2, .int 0, .int 0])) :: []) := hD
  exact gx_retI hx hb hr hlocks hP hD hS rfl dX3_init_24
set_option maxHeartbeats 1000000 in
set_option maxRecDepth 100000 in
theorem i_X4 (l : Launch) (G : gx_G) (h0 : Nat) (sz : Nat) : gx_KI l yX4_init cX4_init 1 ({ frames := 1, cells := 3, slots := 210, locals := 12 }) ([.ref h0]) G [(h0, .inr (6, [.null, .null, .null, .int 0, .int 0, .int 0]))] sz (fun w => ∃ q1 q2 q3 : Nat, w = [(h0, .inr (6, [.ref q1, .ref q2, .ref q3, .int 0, .int 0, .int 0])), (q1, .inl (G.2.2.1 1, 60, .inl (fun _ => gx_chr 0))), (q2, .inl (G.2.2.1 1, 30, .inl (fun _ => gx_chr 0))), (q3, .inl (G.2.2.1 0, 120, .inl (fun _ => 0)))]) 3 210 := by
  refine gx_beginI (by decide) rfl (Nat.le_of_ble_eq_true rfl) ?_
  intro p e s m below meth c A hx hb hr hml hown hlocks hmn hV hP hD hA ls hl
  have hS : va_S A s.heap s.heap [] := va_S.rf
  refine lv_aload_n (pc := 0) hx hb dX4_init_0 rfl (lv_at hl 0 rfl) ?_
  refine W.objInit hx hb hown (gv_210 hV) (gv_76 hV) (gv_77 hV) rfl (by rw [hml]; exact hl.1) rfl dX4_init_1 (Nat.le_of_ble_eq_true rfl) (Nat.le_of_ble_eq_true rfl) ?_
  refine W.eq (g2 := F0 m 4 ls []) rfl ?_
  refine lv_aload_n (pc := 4) hx hb dX4_init_4 rfl (lv_at hl 0 rfl) ?_
  refine lv_bipush (pc := 5) (v := 60) hx hb dX4_init_5 (by decide) ?_
  refine gx_newa (pc := 7) (ty := .char) (N' := 60) (a0 := (60, .inl (fun _ => gx_chr 0))) hx hb (gx_ac1 hV) rfl hV.K hP hD hS hA 1 rfl (fun _ => by rw [gx_c0]; rfl) (by decide) (by decide) (by decide) (Nat.le_of_ble_eq_true rfl) (Nat.le_of_ble_eq_true rfl) dX4_init_7 (fun q1 H hP hD hS => ?_)
  have hP : va_P G.1 vwCl ((h0, .inr (6, [.null, .null, .null, .int 0, .int 0, .int 0])) :: [(q1, .inl (G.2.2.1 1, 60, .inl (fun _ => gx_chr 0)))]) H := hP
  have hD : va_D A ((h0, .inr (6, [.null, .null, .null, .int 0, .int 0, .int 0])) :: [(q1, .inl (G.2.2.1 1, 60, .inl (fun _ => gx_chr 0)))]) := hD
  refine W.widen (k := 1) (n := 60) (by omega) (by omega) ?_
  refine gx_putF (pc := 9) (ci := 6) (v := .ref q1) (ty := (.array .char)) hx hb hV gl_X4 tyX4 tyX4_ok nmX4 hown hP hD hS rfl 0 (by decide) rfl rfl hmn (by decide +kernel) rfl rfl (Nat.le_of_ble_eq_true rfl) (gv_211 hV) dX4_init_9 (fun H locs hP hD hS => ?_)
  have hP : va_P G.1 vwCl ((h0, .inr (6, [.ref q1, .null, .null, .int 0, .int 0, .int 0])) :: [(q1, .inl (G.2.2.1 1, 60, .inl (fun _ => gx_chr 0)))]) H := hP
  have hD : va_D A ((h0, .inr (6, [.ref q1, .null, .null, .int 0, .int 0, .int 0])) :: [(q1, .inl (G.2.2.1 1, 60, .inl (fun _ => gx_chr 0)))]) := hD
  refine lv_aload_n (pc := 12) hx hb dX4_init_12 rfl (lv_at hl 0 rfl) ?_
  refine lv_bipush (pc := 13) (v := 30) hx hb dX4_init_13 (by decide) ?_
  refine gx_newa (pc := 15) (ty := .char) (N' := 30) (a0 := (30, .inl (fun _ => gx_chr 0))) hx hb (gx_ac1 hV) rfl hV.K hP hD hS hA 1 rfl (fun _ => by rw [gx_c0]; rfl) (by decide) (by decide) (by decide) (Nat.le_of_ble_eq_true rfl) (Nat.le_of_ble_eq_true rfl) dX4_init_15 (fun q2 H hP hD hS => ?_)
  have hP : va_P G.1 vwCl ((h0, .inr (6, [.ref q1, .null, .null, .int 0, .int 0, .int 0])) :: [(q1, .inl (G.2.2.1 1, 60, .inl (fun _ => gx_chr 0))), (q2, .inl (G.2.2.1 1, 30, .inl (fun _ => gx_chr 0)))]) H := hP
  have hD : va_D A ((h0, .inr (6, [.ref q1, .null, .null, .int 0, .int 0, .int 0])) :: [(q1, .inl (G.2.2.1 1, 60, .inl (fun _ => gx_chr 0))), (q2, .inl (G.2.2.1 1, 30, .inl (fun _ => gx_chr 0)))]) := hD
  refine W.widen (k := 2) (n := 90) (by omega) (by omega) ?_
  refine gx_putF (pc := 17) (ci := 6) (v := .ref q2) (ty := (.array .char)) hx hb hV gl_X4 tyX4 tyX4_ok nmX4 hown hP hD hS rfl 1 (by decide) rfl rfl hmn (by decide +kernel) rfl rfl (Nat.le_of_ble_eq_true rfl) (gv_212 hV) dX4_init_17 (fun H locs hP hD hS => ?_)
  have hP : va_P G.1 vwCl ((h0, .inr (6, [.ref q1, .ref q2, .null, .int 0, .int 0, .int 0])) :: [(q1, .inl (G.2.2.1 1, 60, .inl (fun _ => gx_chr 0))), (q2, .inl (G.2.2.1 1, 30, .inl (fun _ => gx_chr 0)))]) H := hP
  have hD : va_D A ((h0, .inr (6, [.ref q1, .ref q2, .null, .int 0, .int 0, .int 0])) :: [(q1, .inl (G.2.2.1 1, 60, .inl (fun _ => gx_chr 0))), (q2, .inl (G.2.2.1 1, 30, .inl (fun _ => gx_chr 0)))]) := hD
  refine lv_aload_n (pc := 20) hx hb dX4_init_20 rfl (lv_at hl 0 rfl) ?_
  refine lv_bipush (pc := 21) (v := 120) hx hb dX4_init_21 (by decide) ?_
  refine gx_newa (pc := 23) (ty := .int) (N' := 120) (a0 := (120, .inl (fun _ => 0))) hx hb (gx_ac0 hV) rfl hV.K hP hD hS hA 0 rfl (fun _ => by rfl) (by decide) (by decide) (by decide) (Nat.le_of_ble_eq_true rfl) (Nat.le_of_ble_eq_true rfl) dX4_init_23 (fun q3 H hP hD hS => ?_)
  have hP : va_P G.1 vwCl ((h0, .inr (6, [.ref q1, .ref q2, .null, .int 0, .int 0, .int 0])) :: [(q1, .inl (G.2.2.1 1, 60, .inl (fun _ => gx_chr 0))), (q2, .inl (G.2.2.1 1, 30, .inl (fun _ => gx_chr 0))), (q3, .inl (G.2.2.1 0, 120, .inl (fun _ => 0)))]) H := hP
  have hD : va_D A ((h0, .inr (6, [.ref q1, .ref q2, .null, .int 0, .int 0, .int 0])) :: [(q1, .inl (G.2.2.1 1, 60, .inl (fun _ => gx_chr 0))), (q2, .inl (G.2.2.1 1, 30, .inl (fun _ => gx_chr 0))), (q3, .inl (G.2.2.1 0, 120, .inl (fun _ => 0)))]) := hD
  refine W.widen (k := 3) (n := 210) (by omega) (by omega) ?_
  refine gx_putF (pc := 25) (ci := 6) (v := .ref q3) (ty := (.array .int)) hx hb hV gl_X4 tyX4 tyX4_ok nmX4 hown hP hD hS rfl 2 (by decide) rfl rfl hmn (by decide +kernel) rfl rfl (Nat.le_of_ble_eq_true rfl) (gv_213 hV) dX4_init_25 (fun H locs hP hD hS => ?_)
  have hP : va_P G.1 vwCl ((h0, .inr (6, [.ref q1, .ref q2, .ref q3, .int 0, .int 0, .int 0])) :: [(q1, .inl (G.2.2.1 1, 60, .inl (fun _ => gx_chr 0))), (q2, .inl (G.2.2.1 1, 30, .inl (fun _ => gx_chr 0))), (q3, .inl (G.2.2.1 0, 120, .inl (fun _ => 0)))]) H := hP
  have hD : va_D A ((h0, .inr (6, [.ref q1, .ref q2, .ref q3, .int 0, .int 0, .int 0])) :: [(q1, .inl (G.2.2.1 1, 60, .inl (fun _ => gx_chr 0))), (q2, .inl (G.2.2.1 1, 30, .inl (fun _ => gx_chr 0))), (q3, .inl (G.2.2.1 0, 120, .inl (fun _ => 0)))]) := hD
  refine lv_aload_n (pc := 28) hx hb dX4_init_28 rfl (lv_at hl 0 rfl) ?_
  refine lv_iconst (pc := 29) (v := 0) hx hb dX4_init_29 (by decide) ?_
  refine gx_putN (pc := 30) (ci := 6) (v := .int 0) (ty := .int) hx hb hV gl_X4 tyX4 tyX4_ok nmX4 hown hP hD hS rfl 3 (by decide) rfl rfl (by decide +kernel) rfl rfl (Nat.le_of_ble_eq_true rfl) (gv_214 hV) dX4_init_30 (fun H locs hP hD hS => ?_)
  have hP : va_P G.1 vwCl ((h0, .inr (6, [.ref q1, .ref q2, .ref q3, .int 0, .int 0, .int 0])) :: [(q1, .inl (G.2.2.1 1, 60, .inl (fun _ => gx_chr 0))), (q2, .inl (G.2.2.1 1, 30, .inl (fun _ => gx_chr 0))), (q3, .inl (G.2.2.1 0, 120, .inl (fun _ => 0)))]) H := hP
  have hD : va_D A ((h0, .inr (6, [.ref q1, .ref q2, .ref q3, .int 0, .int 0, .int 0])) :: [(q1, .inl (G.2.2.1 1, 60, .inl (fun _ => gx_chr 0))), (q2, .inl (G.2.2.1 1, 30, .inl (fun _ => gx_chr 0))), (q3, .inl (G.2.2.1 0, 120, .inl (fun _ => 0)))]) := hD
  refine lv_aload_n (pc := 33) hx hb dX4_init_33 rfl (lv_at hl 0 rfl) ?_
  refine lv_iconst (pc := 34) (v := 0) hx hb dX4_init_34 (by decide) ?_
  refine gx_putN (pc := 35) (ci := 6) (v := .int 0) (ty := .int) hx hb hV gl_X4 tyX4 tyX4_ok nmX4 hown hP hD hS rfl 4 (by decide) rfl rfl (by decide +kernel) rfl rfl (Nat.le_of_ble_eq_true rfl) (gv_215 hV) dX4_init_35 (fun H locs hP hD hS => ?_)
  have hP : va_P G.1 vwCl ((h0, .inr (6, [.ref q1, .ref q2, .ref q3, .int 0, .int 0, .int 0])) :: [(q1, .inl (G.2.2.1 1, 60, .inl (fun _ => gx_chr 0))), (q2, .inl (G.2.2.1 1, 30, .inl (fun _ => gx_chr 0))), (q3, .inl (G.2.2.1 0, 120, .inl (fun _ => 0)))]) H := hP
  have hD : va_D A ((h0, .inr (6, [.ref q1, .ref q2, .ref q3, .int 0, .int 0, .int 0])) :: [(q1, .inl (G.2.2.1 1, 60, .inl (fun _ => gx_chr 0))), (q2, .inl (G.2.2.1 1, 30, .inl (fun _ => gx_chr 0))), (q3, .inl (G.2.2.1 0, 120, .inl (fun _ => 0)))]) := hD
  refine lv_aload_n (pc := 38) hx hb dX4_init_38 rfl (lv_at hl 0 rfl) ?_
  refine lv_iconst (pc := 39) (v := 0) hx hb dX4_init_39 (by decide) ?_
  refine gx_putN (pc := 40) (ci := 6) (v := .int 0) (ty := .int) hx hb hV gl_X4 tyX4 tyX4_ok nmX4 hown hP hD hS rfl 5 (by decide) rfl rfl (by decide +kernel) rfl rfl (Nat.le_of_ble_eq_true rfl) (gv_217 hV) dX4_init_40 (fun H locs hP hD hS => ?_)
  have hP : va_P G.1 vwCl ((h0, .inr (6, [.ref q1, .ref q2, .ref q3, .int 0, .int 0, .int 0])) :: [(q1, .inl (G.2.2.1 1, 60, .inl (fun _ => gx_chr 0))), (q2, .inl (G.2.2.1 1, 30, .inl (fun _ => gx_chr 0))), (q3, .inl (G.2.2.1 0, 120, .inl (fun _ => 0)))]) H := hP
  have hD : va_D A ((h0, .inr (6, [.ref q1, .ref q2, .ref q3, .int 0, .int 0, .int 0])) :: [(q1, .inl (G.2.2.1 1, 60, .inl (fun _ => gx_chr 0))), (q2, .inl (G.2.2.1 1, 30, .inl (fun _ => gx_chr 0))), (q3, .inl (G.2.2.1 0, 120, .inl (fun _ => 0)))]) := hD
  exact gx_retI hx hb hr hlocks hP hD hS ⟨q1, q2, q3, rfl⟩ dX4_init_43
section GXL2
variable {p : Program} {l : Launch} {e : Env} {s : State} {m : MethodId} {args : Array Value} {below : List Frame} {meth : Method} {c : Code} {H : Heap} {locs : List Loc} {ls : Array Slot} {cells slots : Nat} {Q : State → Prop} {G : gx_G} {A : Nat → Prop} {h0 qa j : Nat} {W1 : va_W} {f : Nat → Option Nat}
set_option maxHeartbeats 1000000 in
set_option maxRecDepth 100000 in
theorem i_X2_it (hx : p.tables.exec = Jvm.exec) (hb : c.code = cX2_init) (hml : c.maxLocals = 2) (hown : s.vm.findClass RX2 = some m.cls) (hV : gx_V0 G s) (hA : ∀ q : Nat, s.heap.size ≤ q → A q) (hj : j < 8) (hc : cells + 4 ≤ 33) (hs : slots + 90 ≤ 728) (hl : lv_has ls 2 [(1, .int (Int32.ofNat j)), (0, .ref h0)]) (hP : va_P G.1 vwCl ((h0, .inr (4, [.ref qa, .int 0, .int 0])) :: (qa, .inl (G.2.2.1 3, 8, .inr (.inr (.inr (.inr (f)))))) :: W1) H) (hD : va_D A ((h0, .inr (4, [.ref qa, .int 0, .int 0])) :: (qa, .inl (G.2.2.1 3, 8, .inr (.inr (.inr (.inr (f)))))) :: W1)) (hS : va_S A s.heap H locs)
    (kk : ∀ (b x y z : Nat) (H : Heap) (locs : List Loc) (ls : Array Slot), lv_has ls 2 [(1, .int (Int32.ofNat (j + 1))), (0, .ref h0)] → va_P G.1 vwCl ((h0, .inr (4, [.ref qa, .int 0, .int 0])) :: (qa, .inl (G.2.2.1 3, 8, .inr (.inr (.inr (.inr (va_up f j (some b))))))) :: (W1 ++ gx_wl G b x y z)) H → va_D A ((h0, .inr (4, [.ref qa, .int 0, .int 0])) :: (qa, .inl (G.2.2.1 3, 8, .inr (.inr (.inr (.inr (va_up f j (some b))))))) :: (W1 ++ gx_wl G b x y z)) → va_S A s.heap H locs → W p l e ({ frames := 2, cells := 33, slots := 728, locals := 40 }) s m args below meth c H locs (cells + 4) (slots + 90) Q (F0 m 25 ls [])) : W p l e ({ frames := 2, cells := 33, slots := 728, locals := 40 }) s m args below meth c H locs cells slots Q (F0 m 25 ls []) := by
  obtain ⟨n1, n2, -, n4, -⟩ := gx_nat42 j (by omega)
  refine lv_iload_n (pc := 25) hx hb dX2_init_25 rfl (lv_at hl 0 rfl) ?_
  refine lv_bipush (pc := 26) (v := 8) hx hb dX2_init_26 (by decide) ?_
  refine lv_icmp_ge (pc := 28) (tgt := 50) hx hb dX2_init_28 (by decide) (fun hc => absurd ((gx_lt8 j (by omega)).mp hc) (by omega)) (fun _ => ?_)
  refine lv_aload_n (pc := 31) hx hb dX2_init_31 rfl (lv_at hl 1 rfl) ?_
  refine gx_getI (pc := 32) (ci := 4) (v := .ref qa) hx hb hV gl_X2 hown hP rfl 0 (by decide) rfl rfl (gv_138 hV) dX2_init_32 ?_
  refine lv_iload_n (pc := 35) hx hb dX2_init_35 rfl (lv_at hl 0 rfl) ?_
  refine va_new (pc := 36) (args := _) (Ts := u_ws RX5 TX5 9) (ci := 7) (fs := [.null, .null, .null, .int 0, .int 0, .int 0, .int 0, .int 0, .int 0]) hx hb (fun w h => hV.w (gl_X5 w h).1 (gl_X5 w h).2) (fun _ h => h) tyX5 tyX5_ok hown (gv_135 hV) (gv_79 hV) (gv_50 hV) hV.K hP hD hS hA rfl hfs_X5 (show cells + 1 ≤ 33 by omega) (show slots + 9 ≤ 728 by omega) dX2_init_36 (fun b H hP hD hS => ?_)
  have hP : va_P G.1 vwCl (((h0, .inr (4, [.ref qa, .int 0, .int 0])) :: (qa, .inl (G.2.2.1 3, 8, .inr (.inr (.inr (.inr (f)))))) :: W1) ++ [(b, .inr (7, [.null, .null, .null, .int 0, .int 0, .int 0, .int 0, .int 0, .int 0]))]) H := hP
  refine lv_dup (pc := 39) hx hb dX2_init_39 rfl ?_
  refine gx_runI (pc := 40) (wr := (h0, .inr (4, [.ref qa, .int 0, .int 0])) :: (qa, .inl (G.2.2.1 3, 8, .inr (.inr (.inr (.inr (f)))))) :: W1) (wc := [(b, .inr (7, [.null, .null, .null, .int 0, .int 0, .int 0, .int 0, .int 0, .int 0]))]) (va_runI (As := []) (rest := [.ref b, .int (Int32.ofNat j), .ref qa]) ⟨hx, hb, hml, hown, (fun _ h => nomatch h : ∀ w ∈ ([] : List Cond), w.before _ s = true)⟩ (i_X5 l G b H.size) ⟨gx_callB (n := 0) rfl rfl (gv_137 hV) (gv_50 hV) (gv_82 hV) (by decide +kernel) ⟨Nat.le_of_ble_eq_true rfl, Nat.le_of_ble_eq_true rfl⟩, rfl, (gv_81 hV)⟩ (gx_preI hV hP hD) rfl rfl hl.1 rfl (lv_room (Nat.le_of_ble_eq_true rfl)) dX2_init_40 ⟨show cells + 1 + 3 ≤ 33 by omega, show slots + 9 + 81 ≤ 728 by omega⟩) hP hD hS hA (fun w H locs hw hP hD hS => ?_)
  obtain ⟨x, y, z, rfl⟩ := hw
  have hP : va_P G.1 vwCl ((h0, .inr (4, [.ref qa, .int 0, .int 0])) :: (qa, .inl (G.2.2.1 3, 8, .inr (.inr (.inr (.inr (f)))))) :: (W1 ++ gx_wl G b x y z)) H := hP
  have hD : va_D A ((h0, .inr (4, [.ref qa, .int 0, .int 0])) :: (qa, .inl (G.2.2.1 3, 8, .inr (.inr (.inr (.inr (f)))))) :: (W1 ++ gx_wl G b x y z)) := hD
  refine va_astq (pc := 43) hx hb hV.K hP hD hS 1 3 (W1.length + 2) 7 (r := (RX5, TX5, 9)) rfl rfl gx_at2 rfl (fun q => ?_) dX2_init_43 (fun H locs hP hD hS => ?_)
  · rw [n1] at q
    rcases q with q | q
    · exact n4 q
    · omega
  rw [n1] at hP hD
  refine lv_iinc (pc := 44) (v := Int32.ofNat (j + 1)) (lv' := [(1, .int (Int32.ofNat (j + 1))), (0, .ref h0)]) hx hb dX2_init_44 hl (k := 0) rfl n2 (by decide) rfl (fun ls hl => ?_)
  refine lv_goto (pc := 47) (tgt := 25) hx hb dX2_init_47 (by decide) ?_
  exact kk b x y z H locs ls hl hP hD hS
end GXL2
set_option maxHeartbeats 1000000 in
set_option maxRecDepth 100000 in
theorem i_X2 (l : Launch) (G : gx_G) (h0 : Nat) (sz : Nat) : gx_KI l yX2_init cX2_init 2 ({ frames := 2, cells := 33, slots := 728, locals := 40 }) ([.ref h0]) G [(h0, .inr (4, [.null, .int 0, .int 0]))] sz (fun w => ∃ (qa : Nat) (L : List Nat), w = gx_hl G h0 qa L) 33 728 := by
  refine gx_beginI (by decide) rfl (Nat.le_of_ble_eq_true rfl) ?_
  intro p e s m below meth c A hx hb hr hml hown hlocks hmn hV hP hD hA ls hl
  have hS : va_S A s.heap s.heap [] := va_S.rf
  refine lv_aload_n (pc := 0) hx hb dX2_init_0 rfl (lv_at hl 0 rfl) ?_
  refine W.objInit hx hb hown (gv_134 hV) (gv_76 hV) (gv_77 hV) rfl (by rw [hml]; exact hl.1) rfl dX2_init_1 (Nat.le_of_ble_eq_true rfl) (Nat.le_of_ble_eq_true rfl) ?_
  refine W.eq (g2 := F0 m 4 ls []) rfl ?_
  refine lv_aload_n (pc := 4) hx hb dX2_init_4 rfl (lv_at hl 0 rfl) ?_
  refine lv_bipush (pc := 5) (v := 8) hx hb dX2_init_5 (by decide) ?_
  refine gx_newq (pc := 7) (N' := 8) hx hb hown (gv_135 hV) hV.2.2 hV.K hP hD hS hA 3 rfl (by decide) (by decide) (by decide) (Nat.le_of_ble_eq_true rfl) (Nat.le_of_ble_eq_true rfl) dX2_init_7 (fun qa H hP hD hS => ?_)
  have hP : va_P G.1 vwCl ((h0, .inr (4, [.null, .int 0, .int 0])) :: [(qa, .inl (G.2.2.1 3, 8, .inr (.inr (.inr (.inr (fun _ => none))))))]) H := hP
  have hD : va_D A ((h0, .inr (4, [.null, .int 0, .int 0])) :: [(qa, .inl (G.2.2.1 3, 8, .inr (.inr (.inr (.inr (fun _ => none))))))]) := hD
  refine W.widen (k := 1) (n := 8) (by omega) (by omega) ?_
  refine gx_putF (pc := 10) (ci := 4) (v := .ref qa) (ty := (.array (.object "GluedWall$Wall"))) hx hb hV gl_X2 tyX2 tyX2_ok nmX2 hown hP hD hS rfl 0 (by decide) rfl rfl hmn (by decide +kernel) rfl rfl (Nat.le_of_ble_eq_true rfl) (gv_138 hV) dX2_init_10 (fun H locs hP hD hS => ?_)
  have hP : va_P G.1 vwCl ((h0, .inr (4, [.ref qa, .int 0, .int 0])) :: [(qa, .inl (G.2.2.1 3, 8, .inr (.inr (.inr (.inr (fun _ => none))))))]) H := hP
  have hD : va_D A ((h0, .inr (4, [.ref qa, .int 0, .int 0])) :: [(qa, .inl (G.2.2.1 3, 8, .inr (.inr (.inr (.inr (fun _ => none))))))]) := hD
  refine lv_aload_n (pc := 13) hx hb dX2_init_13 rfl (lv_at hl 0 rfl) ?_
  refine lv_iconst (pc := 14) (v := 0) hx hb dX2_init_14 (by decide) ?_
  refine gx_putN (pc := 15) (ci := 4) (v := .int 0) (ty := .int) hx hb hV gl_X2 tyX2 tyX2_ok nmX2 hown hP hD hS rfl 1 (by decide) rfl rfl (by decide +kernel) rfl rfl (Nat.le_of_ble_eq_true rfl) (gv_139 hV) dX2_init_15 (fun H locs hP hD hS => ?_)
  have hP : va_P G.1 vwCl ((h0, .inr (4, [.ref qa, .int 0, .int 0])) :: [(qa, .inl (G.2.2.1 3, 8, .inr (.inr (.inr (.inr (fun _ => none))))))]) H := hP
  have hD : va_D A ((h0, .inr (4, [.ref qa, .int 0, .int 0])) :: [(qa, .inl (G.2.2.1 3, 8, .inr (.inr (.inr (.inr (fun _ => none))))))]) := hD
  refine lv_aload_n (pc := 18) hx hb dX2_init_18 rfl (lv_at hl 0 rfl) ?_
  refine lv_iconst (pc := 19) (v := 0) hx hb dX2_init_19 (by decide) ?_
  refine gx_putN (pc := 20) (ci := 4) (v := .int 0) (ty := .int) hx hb hV gl_X2 tyX2 tyX2_ok nmX2 hown hP hD hS rfl 2 (by decide) rfl rfl (by decide +kernel) rfl rfl (Nat.le_of_ble_eq_true rfl) (gv_140 hV) dX2_init_20 (fun H locs hP hD hS => ?_)
  have hP : va_P G.1 vwCl ((h0, .inr (4, [.ref qa, .int 0, .int 0])) :: [(qa, .inl (G.2.2.1 3, 8, .inr (.inr (.inr (.inr (fun _ => none))))))]) H := hP
  have hD : va_D A ((h0, .inr (4, [.ref qa, .int 0, .int 0])) :: [(qa, .inl (G.2.2.1 3, 8, .inr (.inr (.inr (.inr (fun _ => none))))))]) := hD
  refine lv_iconst (pc := 23) (v := 0) hx hb dX2_init_23 (by decide) ?_
  refine lv_istore_n (pc := 24) (lv' := [(1, .int 0), (0, .ref h0)]) hx hb dX2_init_24 rfl hl (by decide) rfl (fun ls hl => ?_)
  refine i_X2_it (j := 0) (W1 := []) (f := fun _ => none) hx hb hml hown hV hA (by decide) (by decide) (by decide) hl hP hD hS (fun b0 x0 y0 z0 H locs ls hl hP hD hS => ?_)
  refine i_X2_it (j := 1) (W1 := ([] ++ gx_wl G b0 x0 y0 z0)) (f := va_up (fun _ => none) 0 (some b0)) hx hb hml hown hV hA (by decide) (by decide) (by decide) hl hP hD hS (fun b1 x1 y1 z1 H locs ls hl hP hD hS => ?_)
  refine i_X2_it (j := 2) (W1 := (([] ++ gx_wl G b0 x0 y0 z0) ++ gx_wl G b1 x1 y1 z1)) (f := va_up (va_up (fun _ => none) 0 (some b0)) 1 (some b1)) hx hb hml hown hV hA (by decide) (by decide) (by decide) hl hP hD hS (fun b2 x2 y2 z2 H locs ls hl hP hD hS => ?_)
  refine i_X2_it (j := 3) (W1 := ((([] ++ gx_wl G b0 x0 y0 z0) ++ gx_wl G b1 x1 y1 z1) ++ gx_wl G b2 x2 y2 z2)) (f := va_up (va_up (va_up (fun _ => none) 0 (some b0)) 1 (some b1)) 2 (some b2)) hx hb hml hown hV hA (by decide) (by decide) (by decide) hl hP hD hS (fun b3 x3 y3 z3 H locs ls hl hP hD hS => ?_)
  refine i_X2_it (j := 4) (W1 := (((([] ++ gx_wl G b0 x0 y0 z0) ++ gx_wl G b1 x1 y1 z1) ++ gx_wl G b2 x2 y2 z2) ++ gx_wl G b3 x3 y3 z3)) (f := va_up (va_up (va_up (va_up (fun _ => none) 0 (some b0)) 1 (some b1)) 2 (some b2)) 3 (some b3)) hx hb hml hown hV hA (by decide) (by decide) (by decide) hl hP hD hS (fun b4 x4 y4 z4 H locs ls hl hP hD hS => ?_)
  refine i_X2_it (j := 5) (W1 := ((((([] ++ gx_wl G b0 x0 y0 z0) ++ gx_wl G b1 x1 y1 z1) ++ gx_wl G b2 x2 y2 z2) ++ gx_wl G b3 x3 y3 z3) ++ gx_wl G b4 x4 y4 z4)) (f := va_up (va_up (va_up (va_up (va_up (fun _ => none) 0 (some b0)) 1 (some b1)) 2 (some b2)) 3 (some b3)) 4 (some b4)) hx hb hml hown hV hA (by decide) (by decide) (by decide) hl hP hD hS (fun b5 x5 y5 z5 H locs ls hl hP hD hS => ?_)
  refine i_X2_it (j := 6) (W1 := (((((([] ++ gx_wl G b0 x0 y0 z0) ++ gx_wl G b1 x1 y1 z1) ++ gx_wl G b2 x2 y2 z2) ++ gx_wl G b3 x3 y3 z3) ++ gx_wl G b4 x4 y4 z4) ++ gx_wl G b5 x5 y5 z5)) (f := va_up (va_up (va_up (va_up (va_up (va_up (fun _ => none) 0 (some b0)) 1 (some b1)) 2 (some b2)) 3 (some b3)) 4 (some b4)) 5 (some b5)) hx hb hml hown hV hA (by decide) (by decide) (by decide) hl hP hD hS (fun b6 x6 y6 z6 H locs ls hl hP hD hS => ?_)
  refine i_X2_it (j := 7) (W1 := ((((((([] ++ gx_wl G b0 x0 y0 z0) ++ gx_wl G b1 x1 y1 z1) ++ gx_wl G b2 x2 y2 z2) ++ gx_wl G b3 x3 y3 z3) ++ gx_wl G b4 x4 y4 z4) ++ gx_wl G b5 x5 y5 z5) ++ gx_wl G b6 x6 y6 z6)) (f := va_up (va_up (va_up (va_up (va_up (va_up (va_up (fun _ => none) 0 (some b0)) 1 (some b1)) 2 (some b2)) 3 (some b3)) 4 (some b4)) 5 (some b5)) 6 (some b6)) hx hb hml hown hV hA (by decide) (by decide) (by decide) hl hP hD hS (fun b7 x7 y7 z7 H locs ls hl hP hD hS => ?_)
  refine lv_iload_n (pc := 25) hx hb dX2_init_25 rfl (lv_at hl 0 rfl) ?_
  refine lv_bipush (pc := 26) (v := 8) hx hb dX2_init_26 (by decide) ?_
  refine lv_icmp_ge (pc := 28) (tgt := 50) hx hb dX2_init_28 (by decide) (fun _ => ?_) (fun hc => absurd (by decide) hc)
  obtain ⟨hP, hD⟩ := gx_swap hP hD 1 rfl (gx_atq (g := fun n => some (gx_ad [b0, x0, y0, z0, b1, x1, y1, z1, b2, x2, y2, z2, b3, x3, y3, z3, b4, x4, y4, z4, b5, x5, y5, z5, b6, x6, y6, z6, b7, x7, y7, z7] (4 * n))) (fun j hj => by rcases (show j = 0 ∨ j = 1 ∨ j = 2 ∨ j = 3 ∨ j = 4 ∨ j = 5 ∨ j = 6 ∨ j = 7 by omega) with rfl | rfl | rfl | rfl | rfl | rfl | rfl | rfl <;> rfl))
  exact gx_retI hx hb hr hlocks hP hD hS ⟨qa, [b0, x0, y0, z0, b1, x1, y1, z1, b2, x2, y2, z2, b3, x3, y3, z3, b4, x4, y4, z4, b5, x5, y5, z5, b6, x6, y6, z6, b7, x7, y7, z7], rfl⟩ dX2_init_50
