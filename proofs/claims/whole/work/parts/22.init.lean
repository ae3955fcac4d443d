/-! CONSTRUCTORS over a list of cells that grows (gen7.py) -/
def gx_V0 (G : gx_G) (U : State) : Prop := (∀ w ∈ lw_tbl, gx_ok w = true → w.before #[] U = true) ∧ va_K G.1 vwCl (gx_tys G) U ∧ va_AO "GluedWall$Wall" U
theorem gx_V0.K {G : gx_G} {U : State} (h : gx_V0 G U) : va_K G.1 vwCl (gx_tys G) U := h.2.1
theorem gx_V0.w {G : gx_G} {U : State} (h : gx_V0 G U) {A : Array Value} {w : Cond} (hm : w ∈ lw_tbl) (ho : gx_ok w = true) : w.before A U = true :=
  va_tabs (gx_ok_on ho) rfl (h.1 w hm ho)
theorem gx_V0.same {G : gx_G} {u U : State} (hv : u.vm = U.vm) (h : gx_V0 G u) : gx_V0 G U :=
  ⟨fun w hm ho => va_tabs (gx_ok_on ho) hv (h.1 w hm ho), va_K.moved (by rw [hv]; exact Vm.Alike.refl _) h.2.1, va_AO.moved (by rw [hv]; exact Vm.Alike.refl _) h.2.2⟩
theorem gx_V0.warm {G : gx_G} {u U : State} (hW : u.WarmedH U.vm) (h : gx_V0 G u) : gx_V0 G U :=
  ⟨fun w hm ho => gx_ok_warm ho hW (h.1 w hm ho), va_K.moved hW.alike h.2.1, va_AO.moved hW.alike h.2.2⟩
theorem gx_RA1 {U : State} {cA : ClassId} {ty : FieldType} (h : va_RA U cA ty) : U.vm.findClass ("[" ++ ty.toString) = some cA := by
  cases ty with
  | object C => obtain ⟨_, _, _, _, _, h4⟩ := h; exact h4
  | _ => exact h
theorem gx_AC {U : State} {cA : ClassId} {ty : FieldType} (h1 : ArrOfT U cA ty) (h2 : va_RA U cA ty) {A : Array Value} : (Cond.arrayClass ty).before A U = true := by
  have h3 := gx_RA1 h2
  obtain ⟨-, kA, h4, comp, h5⟩ := h1 0 (fun _ => .null)
  unfold Cond.before Cond.holds
  simp only [Cond.value]
  rw [h3]
  simp
  exact ⟨kA, h4, by rw [h5]; simp⟩
theorem gx_ac0 {G : gx_G} {s : State} (hV : gx_V0 G s) {A : Array Value} : (Cond.arrayClass (newarray.typeOf .int)).before A s = true := gx_AC (U := s) (ty := .int) (cA := G.2.2.1 0) (hV.K.2 0 (G.2.2.1 0, .int) rfl).1 (hV.K.2 0 (G.2.2.1 0, .int) rfl).2
theorem gx_ac1 {G : gx_G} {s : State} (hV : gx_V0 G s) {A : Array Value} : (Cond.arrayClass (newarray.typeOf .char)).before A s = true := gx_AC (U := s) (ty := .char) (cA := G.2.2.1 1) (hV.K.2 1 (G.2.2.1 1, .char) rfl).1 (hV.K.2 1 (G.2.2.1 1, .char) rfl).2
theorem gx_ac2 {G : gx_G} {s : State} (hV : gx_V0 G s) {A : Array Value} : (Cond.arrayClass (newarray.typeOf .boolean)).before A s = true := gx_AC (U := s) (ty := .boolean) (cA := G.2.2.1 2) (hV.K.2 2 (G.2.2.1 2, .boolean) rfl).1 (hV.K.2 2 (G.2.2.1 2, .boolean) rfl).2
theorem gx_ac4 {G : gx_G} {s : State} (hV : gx_V0 G s) {A : Array Value} : (Cond.arrayClass (newarray.typeOf .long)).before A s = true := gx_AC (U := s) (ty := .long) (cA := G.2.2.1 4) (hV.K.2 4 (G.2.2.1 4, .long) rfl).1 (hV.K.2 4 (G.2.2.1 4, .long) rfl).2
theorem gx_ac5 {G : gx_G} {s : State} (hV : gx_V0 G s) {A : Array Value} : (Cond.arrayClass (newarray.typeOf .double)).before A s = true := gx_AC (U := s) (ty := .double) (cA := G.2.2.1 5) (hV.K.2 5 (G.2.2.1 5, .double) rfl).1 (hV.K.2 5 (G.2.2.1 5, .double) rfl).2
theorem gx_left {D : va_G} {cl : List vw_C} {w1 w2 : va_W} {H : Heap} (h : va_P D cl (w1 ++ w2) H) : va_P D cl w1 H := fun k q hq => h k q (by rw [List.getElem?_append_left (List.getElem?_eq_some_iff.mp hq).1]; exact hq)
theorem gx_right {D : va_G} {cl : List vw_C} {w1 w2 : va_W} {H : Heap} (h : va_P D cl (w1 ++ w2) H) : va_P D cl w2 H := fun k q hq => h (w1.length + k) q (by rw [List.getElem?_append_right (Nat.le_add_right _ _), Nat.add_sub_cancel_left]; exact hq)
theorem gx_rightD {A : Nat → Prop} {w1 w2 : va_W} (h : va_D A (w1 ++ w2)) : va_D A w2 := by
  have e : ∀ (k : Nat) (q : Nat × va_E), w2[k]? = some q → (w1 ++ w2)[w1.length + k]? = some q := fun k q hq => by rw [List.getElem?_append_right (Nat.le_add_right _ _), Nat.add_sub_cancel_left]; exact hq
  refine ⟨fun i j x y hi hj hxy => ?_, fun k q hq => h.2 _ q (e k q hq)⟩
  have := h.1 _ _ x y (e i x hi) (e j y hj) hxy
  omega
theorem gx_join {A0 : Nat → Prop} {D : va_G} {cl : List vw_C} {wr wc w1 : va_W} {H H1 : Heap} (hP : va_P D cl (wr ++ wc) H) (hD : va_D A0 (wr ++ wc)) (hk : ∀ q : Nat, q < H.size → ¬ va_A wc H.size q → H1[q]? = H[q]?) (hF : ∀ q, va_A wc H.size q → A0 q) (hP1 : va_P D cl w1 H1) (hD1 : va_D (va_A wc H.size) w1) : va_P D cl (wr ++ w1) H1 ∧ va_D A0 (wr ++ w1) := by
  have hL := gx_left hP
  have hn : ∀ (k : Nat) (q : Nat × va_E), wr[k]? = some q → ¬ va_A wc H.size q.1 := by
    intro k q hq hA
    rcases hA with ⟨j, e, hj⟩ | hge
    · have h1 : (wr ++ wc)[k]? = some q := by rw [List.getElem?_append_left (List.getElem?_eq_some_iff.mp hq).1]; exact hq
      have h2 : (wr ++ wc)[wr.length + j]? = some (q.1, e) := by rw [List.getElem?_append_right (Nat.le_add_right _ _), Nat.add_sub_cancel_left]; exact hj
      have h3 := hD.1 k (wr.length + j) q (q.1, e) h1 h2 rfl
      have h4 := (List.getElem?_eq_some_iff.mp hq).1
      omega
    · exact absurd (hL k q hq).lt (Nat.not_lt.mpr hge)
  refine ⟨va_P.app (hL.kept fun k q hq => hk q.1 (hL k q hq).lt (hn k q hq)) hP1, fun i j x y hi hj hxy => ?_, fun k q hq => ?_⟩
  · by_cases h1 : i < wr.length
    · rw [List.getElem?_append_left h1] at hi
      by_cases h2 : j < wr.length
      · rw [List.getElem?_append_left h2] at hj
        exact hD.1 i j x y (by rw [List.getElem?_append_left h1]; exact hi) (by rw [List.getElem?_append_left h2]; exact hj) hxy
      · rw [List.getElem?_append_right (by omega)] at hj
        exact absurd (by rw [hxy]; exact hD1.2 _ _ hj) (hn i x hi)
    · rw [List.getElem?_append_right (by omega)] at hi
      by_cases h2 : j < wr.length
      · rw [List.getElem?_append_left h2] at hj
        exact absurd (by rw [← hxy]; exact hD1.2 _ _ hi) (hn j y hj)
      · rw [List.getElem?_append_right (by omega)] at hj
        have := hD1.1 _ _ x y hi hj hxy
        omega
  · by_cases h1 : k < wr.length
    · rw [List.getElem?_append_left h1] at hq
      exact hD.2 k q (by rw [List.getElem?_append_left h1]; exact hq)
    · rw [List.getElem?_append_right (by omega)] at hq
      exact hF _ (hD1.2 _ _ hq)
theorem gx_swap {D : va_G} {cl : List vw_C} {A : Nat → Prop} {ws : va_W} {H : Heap} (hP : va_P D cl ws H) (hD : va_D A ws) (k : Nat) {a : Nat} {x y : va_E} (hk : ws[k]? = some (a, x)) (he : va_at D cl (a, x) H → va_at D cl (a, y) H) : va_P D cl (ws.set k (a, y)) H ∧ va_D A (ws.set k (a, y)) := by
  refine ⟨fun i q hi => ?_, va_D.set hD hk⟩
  by_cases h : i = k
  · subst h
    rw [List.getElem?_set_self (List.getElem?_eq_some_iff.mp hk).1] at hi
    cases hi
    exact he (hP _ _ hk)
  · rw [List.getElem?_set_ne (Ne.symm h)] at hi
    exact hP i q hi
theorem gx_arrV {cI : ClassId} {N : Nat} {f g : Nat → Value} (h : ∀ j, j < N → f j = g j) : arrV cI N f = arrV cI N g := by
  unfold arrV
  rw [show (fun j : Fin N => f j.val) = (fun j : Fin N => g j.val) from funext fun j => h j.val j.isLt]
theorem gx_ati {D : va_G} {cl : List vw_C} {H : Heap} {a n : Nat} {cA : ClassId} {f g : Nat → Int32} (h : ∀ j, j < n → f j = g j) (hA : va_at D cl (a, .inl (cA, n, .inl f)) H) : va_at D cl (a, .inl (cA, n, .inl g)) H := by
  have h1 : H[a]? = some (arrV cA n (fun j => .int (f j))) := hA
  show H[a]? = some (arrV cA n (fun j => .int (g j)))
  rw [h1, gx_arrV (fun j hj => by rw [h j hj])]
theorem gx_atq {D : va_G} {cl : List vw_C} {H : Heap} {a n : Nat} {cA : ClassId} {f g : Nat → Option Nat} (h : ∀ j, j < n → f j = g j) (hA : va_at D cl (a, .inl (cA, n, .inr (.inr (.inr (.inr f))))) H) : va_at D cl (a, .inl (cA, n, .inr (.inr (.inr (.inr g))))) H := by
  have h1 : H[a]? = some (arrV cA n (fun j => va_rf (f j))) := hA
  show H[a]? = some (arrV cA n (fun j => va_rf (g j)))
  rw [h1, gx_arrV (fun j hj => by rw [h j hj])]
abbrev gx_BI (G : gx_G) (A : Nat → Prop) : va_W → State → Prop := fun w t => va_P G.1 vwCl w t.heap ∧ va_D A w
abbrev gx_KI (l : Launch) (y : MethodName) (bytes : ByteArray) (maxL : Nat) (rm : Room) (av : List Value) (G : gx_G) (ws0 : va_W) (sz : Nat) (post : va_W → Prop) (mc ms : Nat) : Prop := Met l y [.code y bytes maxL none] rm (va_Pc av (fun U => gx_V0 G U ∧ U.heap.size = sz ∧ va_P G.1 vwCl ws0 U.heap ∧ va_D (fun _ => True) ws0)) (va_Qv post (gx_BI G (va_A ws0 sz)) (va_A ws0 sz)) mc ms (va_A ws0 sz)
theorem gx_beginI {l : Launch} {y : MethodName} {cc : ByteArray} {maxL : Nat} {rm : Room} {av : List Value} {G : gx_G} {ws0 : va_W} {sz : Nat} {post : va_W → Prop} {mc ms : Nat} (hy : plainName y.cls = true) (hyn : y.name = "<init>") (hlen : (lg_sl av).length ≤ maxL)
    (body : ∀ (p : Program) (e : Env) (s : State) (m : MethodId) (below : List Frame) (meth : Method) (c : Code) (A : Nat → Prop), p.tables.exec = Jvm.exec → c.code = cc → meth.sig.returnType = none → c.maxLocals = maxL → s.vm.findClass y.cls = some m.cls → meth.locks = false → meth.name = "<init>" → gx_V0 G s → va_P G.1 vwCl ws0 s.heap → va_D A ws0 → (∀ q : Nat, s.heap.size ≤ q → A q) → ∀ ls : Array Slot, lv_has ls maxL (lv_args 0 av) → W p l e rm s m av.toArray below meth c s.heap [] 0 0 (MQ below (va_Qv post (gx_BI G A) A) av.toArray s mc ms A) (F0 m 0 ls [])) : gx_KI l y cc maxL rm av G ws0 sz post mc ms := by
  refine Met.ofW (cc := cc) (maxL := maxL) (ret := none) hy rfl ?_
  intro p e s m args below meth c s₁ B hml hv
  obtain ⟨rfl, hV, hsz, hP, hD⟩ := hv
  subst hsz
  rw [lg_entry_eq]
  exact body p e s m below meth c (va_A ws0 s.heap.size) B.exec B.bytes B.returns hml (findClass_of_methodNamed B.named) B.notSynchronized ((name_of_methodNamed B.named B.method).1.trans hyn) hV hP hD.self (fun q h => Or.inr h) _ (lv_entry av hlen)
section GXI
variable {p : Program} {l : Launch} {e : Env} {R : Room} {s : State} {m : MethodId} {args : Array Value} {below : List Frame} {meth : Method} {c : Code} {H H0 : Heap} {locs : List Loc} {cells slots : Nat} {Q : State → Prop}
variable {cc : ByteArray} {pc : Nat} {ls : Array Slot} {rest st0 : List Value} {G : gx_G} {own : String} {A : Nat → Prop} {D : va_G} {cl : List vw_C} {tys : List (ClassId × FieldType)} {ws wr wc W1 : va_W} {post : va_W → Prop} {mc ms : Nat}
theorem gx_newa (hx : p.tables.exec = Jvm.exec) (hb : c.code = cc) {atype : ArrayType} (harr : (Cond.arrayClass (newarray.typeOf atype)).before args s = true) {ty : FieldType} (hty : newarray.typeOf atype = ty) (hK : va_K D cl tys s) (hP : va_P D cl ws H) (hD : va_D A ws) (hS : va_S A H0 H locs) (hA : ∀ q, H0.size ≤ q → A q) (t0 : Nat) {cA : ClassId} (ht : tys[t0]? = some (cA, ty))
    {n : Int32} {N' : Nat} {a0 : vp_A} (ha : ∀ cA : ClassId, vp_cell cA a0 = arrV cA N' (fun _ => defaultValue ty)) (hn : ¬ n < 0) (hN : n.toNatClampNeg = N') (hbytes : N' * componentBytes ty ≤ 536870912) (hcells : cells + 1 ≤ R.cells) (hslots : slots + N' ≤ R.slots) (hdg : decode cc pc = .ok (.newarray atype, 2))
    (kk : ∀ (q : Nat) (H1 : Heap), va_P D cl (ws ++ [(q, .inl (cA, a0))]) H1 → va_D A (ws ++ [(q, .inl (cA, a0))]) → va_S A H0 H1 locs → W p l e R s m args below meth c H1 locs (cells + 1) (slots + N') Q (F0 m (pc + 2) ls (.ref q :: rest))) : W p l e R s m args below meth c H locs cells slots Q (F0 m pc ls (.int n :: rest)) := by
  refine va_newa hx hb harr hty hK hP hD hS hA ha hn hN hbytes hcells hslots hdg (fun q cB H1 hK1 hP1 hD1 hS1 => ?_)
  have h1 := gx_RA1 (hK.2 t0 _ ht).2
  have h2 := gx_RA1 (hK1.2 tys.length (cB, ty) (by simp)).2
  have h3 : cB = cA := Option.some.inj (h2.symm.trans h1)
  subst h3
  exact kk q H1 hP1 hD1 hS1
theorem gx_newq (hx : p.tables.exec = Jvm.exec) (hb : c.code = cc) {C : String} {index : Nat} (hown : s.vm.findClass own = some m.cls) (hclink : (Cond.classLink own index C).before args s = true) (hover : va_AO C s) (hK : va_K D cl tys s) (hP : va_P D cl ws H) (hD : va_D A ws) (hS : va_S A H0 H locs) (hA : ∀ q, H0.size ≤ q → A q) (t0 : Nat) {cA : ClassId} (ht : tys[t0]? = some (cA, .object C))
    {n : Int32} {N' : Nat} (hn : ¬ n < 0) (hN : n.toNatClampNeg = N') (hbytes : N' * 4 ≤ 536870912) (hcells : cells + 1 ≤ R.cells) (hslots : slots + N' ≤ R.slots) (hdg : decode cc pc = .ok (.anewarray index, 3))
    (kk : ∀ (q : Nat) (H1 : Heap), va_P D cl (ws ++ [(q, .inl (cA, N', .inr (.inr (.inr (.inr (fun _ => none))))))]) H1 → va_D A (ws ++ [(q, .inl (cA, N', .inr (.inr (.inr (.inr (fun _ => none))))))]) → va_S A H0 H1 locs → W p l e R s m args below meth c H1 locs (cells + 1) (slots + N') Q (F0 m (pc + 3) ls (.ref q :: rest))) : W p l e R s m args below meth c H locs cells slots Q (F0 m pc ls (.int n :: rest)) := by
  refine va_newq hx hb hown hclink hover hK hP hD hS hA hn hN hbytes hcells hslots hdg (fun q cB H1 hK1 hP1 hD1 hS1 => ?_)
  have h1 := gx_RA1 (hK.2 t0 _ ht).2
  have h2 := gx_RA1 (hK1.2 tys.length (cB, .object C) (by simp)).2
  have h3 : cB = cA := Option.some.inj (h2.symm.trans h1)
  subst h3
  exact kk q H1 hP1 hD1 hS1
theorem gx_runI {a : Array Value} (hr : va_Run p l e R s m args below meth c H locs cells slots mc ms (F0 m pc ls st0) rest (va_Qv post (gx_BI G (va_A wc H.size)) (va_A wc H.size) a) (va_A wc H.size)) (hP : va_P G.1 vwCl (wr ++ wc) H) (hD : va_D A (wr ++ wc)) (hS : va_S A H0 H locs) (hA : ∀ q, H0.size ≤ q → A q)
    (kk : ∀ (w : va_W) (H1 : Heap) (locs1 : List Loc), post w → va_P G.1 vwCl (wr ++ w) H1 → va_D A (wr ++ w) → va_S A H0 H1 locs1 → W p l e R s m args below meth c H1 locs1 (cells + mc) (slots + ms) Q (F0 m (pc + 3) ls rest)) : W p l e R s m args below meth c H locs cells slots Q (F0 m pc ls st0) := by
  have hF : ∀ q, va_A wc H.size q → A q := by
    intro q hq
    rcases hq with ⟨k, ee, hk⟩ | hq
    · exact (gx_rightD hD).2 k (q, ee) hk
    · exact hA q (Nat.le_trans hS.1 hq)
  refine va_callv hr hS (fun q _ h => hF q h) hF (fun u t H1 locs1 ht hvm hw hB hz hk hS1 => ?_)
  obtain ⟨hP1, hD1⟩ := hB
  rw [ht] at hP1
  obtain ⟨a1, a2⟩ := gx_join hP hD hk hF hP1 hD1
  exact kk u H1 locs1 hw a1 a2 hS1
theorem gx_preI {av : List Value} (hV : gx_V0 G s) (hP : va_P G.1 vwCl (wr ++ wc) H) (hD : va_D A (wr ++ wc)) : PreS s H (va_Pc av (fun U => gx_V0 G U ∧ U.heap.size = H.size ∧ va_P G.1 vwCl wc U.heap ∧ va_D (fun _ => True) wc)) av :=
  ⟨fun _ U g mk q => ⟨q.1, gx_V0.same (u := U) (U := U.calling g mk _) rfl q.2.1, q.2.2.1, q.2.2.2.1, q.2.2.2.2⟩, fun U hU hW => ⟨rfl, hV.warm hW, by rw [hU], by rw [hU]; exact gx_right hP, (gx_rightD hD).weaken (fun _ _ _ _ => trivial)⟩⟩
theorem gx_retI {A : Nat → Prop} (hx : p.tables.exec = Jvm.exec) (hb : c.code = cc) (hr : meth.sig.returnType = none) (hlocks : meth.locks = false) (hP : va_P G.1 vwCl ws H) (hD : va_D A ws) (hS : va_S A s.heap H locs) (hpost : post ws) (hdg : decode cc pc = .ok (.return_, 1)) : W p l e R s m args below meth c H locs cells slots (MQ below (va_Qv post (gx_BI G A) A) args s cells slots A) (F0 m pc ls []) :=
  W.vret hx hb hr (fun t ht _ => ⟨⟨ws, rfl, hpost, by rw [ht]; exact hP, hD⟩, hS.F ht⟩) hS.2.2 hdg hlocks
theorem gx_putN (hx : p.tables.exec = Jvm.exec) (hb : c.code = cc) {Cn : String} {T : u_T} {N ci index a : Nat} (hV : gx_V0 G s) (hlay : ∀ w ∈ u_ws Cn T N, w ∈ lw_tbl ∧ gx_ok w = true) (ty0 : Nat → FieldType) (hty : ∀ k, k < N → parseFieldDescriptor (T k).2.2.1 = some (ty0 k)) (hnm : ∀ a, a < N → ∀ b, b < N → a ≠ b → (T a).2.1 ≠ (T b).2.1) (hown : s.vm.findClass Cn = some m.cls) {fs : List Value} (hP : va_P G.1 vwCl ((a, .inr (ci, fs)) :: W1) H) (hD : va_D A ((a, .inr (ci, fs)) :: W1)) (hS : va_S A H0 H locs) (hc : vwCl[ci]? = some (Cn, T, N)) (k : Nat) (hk : k < N) (hcn : (T k).1 = Cn) (hfin : (T k).2.2.2 = false) {ty : FieldType} {v : Value} (hd : parseFieldDescriptor (T k).2.2.1 = some ty) (hn : narrow ty v = v) (hfit : fits ty v = true) (hl : k < fs.length)
    (hlink : (Cond.fieldLink Cn index Cn (T k).2.1 (T k).2.2.1).before args s = true) (hdg : decode cc pc = .ok (.putfield index, 3)) (kk : ∀ (H1 : Heap) (locs1 : List Loc), va_P G.1 vwCl ((a, .inr (ci, fs.set k v)) :: W1) H1 → va_D A ((a, .inr (ci, fs.set k v)) :: W1) → va_S A H0 H1 locs1 → W p l e R s m args below meth c H1 locs1 cells slots Q (F0 m (pc + 3) ls rest)) : W p l e R s m args below meth c H locs cells slots Q (F0 m pc ls (v :: .ref a :: rest)) :=
  va_put (args := args) (Ts := u_ws Cn T N) hx hb (fun w h => hV.w (hlay w h).1 (hlay w h).2) (fun _ h => h) ty0 hty hnm hown hV.K hP hD hS 0 rfl hc k hk hlink (fun x h => by rw [hcn] at h; exact h) hfin hd hn hfit hl hdg kk
theorem gx_putF (hx : p.tables.exec = Jvm.exec) (hb : c.code = cc) {Cn : String} {T : u_T} {N ci index a : Nat} (hV : gx_V0 G s) (hlay : ∀ w ∈ u_ws Cn T N, w ∈ lw_tbl ∧ gx_ok w = true) (ty0 : Nat → FieldType) (hty : ∀ k, k < N → parseFieldDescriptor (T k).2.2.1 = some (ty0 k)) (hnm : ∀ a, a < N → ∀ b, b < N → a ≠ b → (T a).2.1 ≠ (T b).2.1) (hown : s.vm.findClass Cn = some m.cls) {fs : List Value} (hP : va_P G.1 vwCl ((a, .inr (ci, fs)) :: W1) H) (hD : va_D A ((a, .inr (ci, fs)) :: W1)) (hS : va_S A H0 H locs) (hc : vwCl[ci]? = some (Cn, T, N)) (k : Nat) (hk : k < N) (hcn : (T k).1 = Cn) (hfin : (T k).2.2.2 = true) (hmn : meth.name = "<init>") {ty : FieldType} {v : Value} (hd : parseFieldDescriptor (T k).2.2.1 = some ty) (hn : narrow ty v = v) (hfit : fits ty v = true) (hl : k < fs.length)
    (hlink : (Cond.fieldLink Cn index Cn (T k).2.1 (T k).2.2.1).before args s = true) (hdg : decode cc pc = .ok (.putfield index, 3)) (kk : ∀ (H1 : Heap) (locs1 : List Loc), va_P G.1 vwCl ((a, .inr (ci, fs.set k v)) :: W1) H1 → va_D A ((a, .inr (ci, fs.set k v)) :: W1) → va_S A H0 H1 locs1 → W p l e R s m args below meth c H1 locs1 cells slots Q (F0 m (pc + 3) ls rest)) : W p l e R s m args below meth c H locs cells slots Q (F0 m pc ls (v :: .ref a :: rest)) :=
  va_putF (args := args) (Ts := u_ws Cn T N) hx hb (fun w h => hV.w (hlay w h).1 (hlay w h).2) (fun _ h => h) ty0 hty hnm hown hV.K hP hD hS 0 rfl hc k hk hlink (fun x h => by rw [hcn] at h; exact h) hfin hmn hcn hd hn hfit hl hdg kk
theorem gx_getI (hx : p.tables.exec = Jvm.exec) (hb : c.code = cc) {Cn : String} {T : u_T} {N ci index a : Nat} (hV : gx_V0 G s) (hlay : ∀ w ∈ u_ws Cn T N, w ∈ lw_tbl ∧ gx_ok w = true) (hown : s.vm.findClass Cn = some m.cls) {fs : List Value} (hP : va_P G.1 vwCl ((a, .inr (ci, fs)) :: W1) H) (hc : vwCl[ci]? = some (Cn, T, N)) (k : Nat) (hk : k < N) (hcn : (T k).1 = Cn) {v : Value} (hv : fs[k]? = some v)
    (hlink : (Cond.fieldLink Cn index Cn (T k).2.1 (T k).2.2.1).before args s = true) (hdg : decode cc pc = .ok (.getfield index, 3)) (kk : W p l e R s m args below meth c H locs cells slots Q (F0 m (pc + 3) ls (v :: rest))) : W p l e R s m args below meth c H locs cells slots Q (F0 m pc ls (.ref a :: rest)) :=
  va_get (args := args) (Ts := u_ws Cn T N) hx hb (fun w h => hV.w (hlay w h).1 (hlay w h).2) (fun _ h => h) hown hV.K hP 0 rfl hc k hk hlink (fun x h => by rw [hcn] at h; exact h) hv hdg kk
end GXI
theorem gx_b0 : gx_boo 0 = 0 := by decide
theorem gx_c0 : gx_chr 0 = 0 := by decide
theorem gx_nat42 : ∀ j : Nat, j < 100 → (Int32.ofNat j).toNatClampNeg = j ∧ (Int32.ofNat j + 1 = Int32.ofNat (j + 1)) ∧ ((45 : Int32) + Int32.ofNat j).toNatClampNeg = 45 + j ∧ ¬ Int32.ofNat j < 0 ∧ ¬ (45 + Int32.ofNat j) < 0 := by decide +kernel
theorem gx_lt42 : ∀ j : Nat, j < 100 → ((42 : Int32) ≤ Int32.ofNat j ↔ 42 ≤ j) := by decide +kernel
theorem gx_lt8 : ∀ j : Nat, j < 100 → ((8 : Int32) ≤ Int32.ofNat j ↔ 8 ≤ j) := by decide +kernel
theorem gv_50 {G : gx_G} {s : State} (hV : gx_V0 G s) {args : Array Value} : (Cond.initialized RX5).before args s = true := hV.w (List.mem_of_getElem? (i := 50) (by decide +kernel)) (by decide +kernel)
theorem gv_51 {G : gx_G} {s : State} (hV : gx_V0 G s) {args : Array Value} : (Cond.initialized RX2).before args s = true := hV.w (List.mem_of_getElem? (i := 51) (by decide +kernel)) (by decide +kernel)
theorem gv_52 {G : gx_G} {s : State} (hV : gx_V0 G s) {args : Array Value} : (Cond.initialized RX0).before args s = true := hV.w (List.mem_of_getElem? (i := 52) (by decide +kernel)) (by decide +kernel)
theorem gv_53 {G : gx_G} {s : State} (hV : gx_V0 G s) {args : Array Value} : (Cond.initialized RX1).before args s = true := hV.w (List.mem_of_getElem? (i := 53) (by decide +kernel)) (by decide +kernel)
theorem gv_54 {G : gx_G} {s : State} (hV : gx_V0 G s) {args : Array Value} : (Cond.initialized RX3).before args s = true := hV.w (List.mem_of_getElem? (i := 54) (by decide +kernel)) (by decide +kernel)
theorem gv_55 {G : gx_G} {s : State} (hV : gx_V0 G s) {args : Array Value} : (Cond.initialized RX4).before args s = true := hV.w (List.mem_of_getElem? (i := 55) (by decide +kernel)) (by decide +kernel)
theorem gv_75 {G : gx_G} {s : State} (hV : gx_V0 G s) {args : Array Value} : (Cond.methodLink RX6 3 Lib.objectInit).before args s = true := hV.w (List.mem_of_getElem? (i := 75) (by decide +kernel)) (by decide +kernel)
theorem gv_76 {G : gx_G} {s : State} (hV : gx_V0 G s) {args : Array Value} : (Cond.instanceMethod Lib.objectInit).before args s = true := hV.w (List.mem_of_getElem? (i := 76) (by decide +kernel)) (by decide +kernel)
theorem gv_77 {G : gx_G} {s : State} (hV : gx_V0 G s) {args : Array Value} : (Cond.code Lib.objectInit ⟨#[0xb1]⟩ 1 none).before args s = true := hV.w (List.mem_of_getElem? (i := 77) (by decide +kernel)) (by decide +kernel)
theorem gv_78 {G : gx_G} {s : State} (hV : gx_V0 G s) {args : Array Value} : (Cond.classLink RX6 9 RX5).before args s = true := hV.w (List.mem_of_getElem? (i := 78) (by decide +kernel)) (by decide +kernel)
theorem gv_79 {G : gx_G} {s : State} (hV : gx_V0 G s) {args : Array Value} : (Cond.instantiable RX5 9).before args s = true := hV.w (List.mem_of_getElem? (i := 79) (by decide +kernel)) (by decide +kernel)
theorem gv_80 {G : gx_G} {s : State} (hV : gx_V0 G s) {args : Array Value} : (Cond.methodLink RX6 11 yX5_init).before args s = true := hV.w (List.mem_of_getElem? (i := 80) (by decide +kernel)) (by decide +kernel)
theorem gv_81 {G : gx_G} {s : State} (hV : gx_V0 G s) {args : Array Value} : (Cond.instanceMethod yX5_init).before args s = true := hV.w (List.mem_of_getElem? (i := 81) (by decide +kernel)) (by decide +kernel)
theorem gv_82 {G : gx_G} {s : State} (hV : gx_V0 G s) {args : Array Value} : (Cond.code yX5_init cX5_init 2 none).before args s = true := hV.w (List.mem_of_getElem? (i := 82) (by decide +kernel)) (by decide +kernel)
theorem gv_83 {G : gx_G} {s : State} (hV : gx_V0 G s) {args : Array Value} : (Cond.methodLink RX5 3 Lib.objectInit).before args s = true := hV.w (List.mem_of_getElem? (i := 83) (by decide +kernel)) (by decide +kernel)
theorem gv_84 {G : gx_G} {s : State} (hV : gx_V0 G s) {args : Array Value} : (Cond.fieldLink RX5 9 RX5 "glues" "[I").before args s = true := hV.w (List.mem_of_getElem? (i := 84) (by decide +kernel)) (by decide +kernel)
theorem gv_86 {G : gx_G} {s : State} (hV : gx_V0 G s) {args : Array Value} : (Cond.fieldLink RX5 15 RX5 "strengths" "[I").before args s = true := hV.w (List.mem_of_getElem? (i := 86) (by decide +kernel)) (by decide +kernel)
theorem gv_89 {G : gx_G} {s : State} (hV : gx_V0 G s) {args : Array Value} : (Cond.fieldLink RX5 18 RX5 "bricks" "[I").before args s = true := hV.w (List.mem_of_getElem? (i := 89) (by decide +kernel)) (by decide +kernel)
theorem gv_90 {G : gx_G} {s : State} (hV : gx_V0 G s) {args : Array Value} : (Cond.fieldLink RX5 21 RX5 "kindCount" "I").before args s = true := hV.w (List.mem_of_getElem? (i := 90) (by decide +kernel)) (by decide +kernel)
theorem gv_94 {G : gx_G} {s : State} (hV : gx_V0 G s) {args : Array Value} : (Cond.fieldLink RX5 25 RX5 "needed" "I").before args s = true := hV.w (List.mem_of_getElem? (i := 94) (by decide +kernel)) (by decide +kernel)
theorem gv_98 {G : gx_G} {s : State} (hV : gx_V0 G s) {args : Array Value} : (Cond.fieldLink RX5 28 RX5 "seedPlace" "I").before args s = true := hV.w (List.mem_of_getElem? (i := 98) (by decide +kernel)) (by decide +kernel)
theorem gv_102 {G : gx_G} {s : State} (hV : gx_V0 G s) {args : Array Value} : (Cond.fieldLink RX5 31 RX5 "laidSoFar" "I").before args s = true := hV.w (List.mem_of_getElem? (i := 102) (by decide +kernel)) (by decide +kernel)
theorem gv_104 {G : gx_G} {s : State} (hV : gx_V0 G s) {args : Array Value} : (Cond.fieldLink RX5 34 RX5 "grownSoFar" "I").before args s = true := hV.w (List.mem_of_getElem? (i := 104) (by decide +kernel)) (by decide +kernel)
theorem gv_107 {G : gx_G} {s : State} (hV : gx_V0 G s) {args : Array Value} : (Cond.fieldLink RX5 37 RX5 "takenSoFar" "I").before args s = true := hV.w (List.mem_of_getElem? (i := 107) (by decide +kernel)) (by decide +kernel)
theorem gv_129 {G : gx_G} {s : State} (hV : gx_V0 G s) {args : Array Value} : (Cond.classLink RX6 26 RX2).before args s = true := hV.w (List.mem_of_getElem? (i := 129) (by decide +kernel)) (by decide +kernel)
theorem gv_130 {G : gx_G} {s : State} (hV : gx_V0 G s) {args : Array Value} : (Cond.instantiable RX2 3).before args s = true := hV.w (List.mem_of_getElem? (i := 130) (by decide +kernel)) (by decide +kernel)
theorem gv_131 {G : gx_G} {s : State} (hV : gx_V0 G s) {args : Array Value} : (Cond.methodLink RX6 28 yX2_init).before args s = true := hV.w (List.mem_of_getElem? (i := 131) (by decide +kernel)) (by decide +kernel)
theorem gv_132 {G : gx_G} {s : State} (hV : gx_V0 G s) {args : Array Value} : (Cond.instanceMethod yX2_init).before args s = true := hV.w (List.mem_of_getElem? (i := 132) (by decide +kernel)) (by decide +kernel)
theorem gv_133 {G : gx_G} {s : State} (hV : gx_V0 G s) {args : Array Value} : (Cond.code yX2_init cX2_init 2 none).before args s = true := hV.w (List.mem_of_getElem? (i := 133) (by decide +kernel)) (by decide +kernel)
theorem gv_134 {G : gx_G} {s : State} (hV : gx_V0 G s) {args : Array Value} : (Cond.methodLink RX2 3 Lib.objectInit).before args s = true := hV.w (List.mem_of_getElem? (i := 134) (by decide +kernel)) (by decide +kernel)
theorem gv_135 {G : gx_G} {s : State} (hV : gx_V0 G s) {args : Array Value} : (Cond.classLink RX2 9 RX5).before args s = true := hV.w (List.mem_of_getElem? (i := 135) (by decide +kernel)) (by decide +kernel)
theorem gv_137 {G : gx_G} {s : State} (hV : gx_V0 G s) {args : Array Value} : (Cond.methodLink RX2 24 yX5_init).before args s = true := hV.w (List.mem_of_getElem? (i := 137) (by decide +kernel)) (by decide +kernel)
theorem gv_138 {G : gx_G} {s : State} (hV : gx_V0 G s) {args : Array Value} : (Cond.fieldLink RX2 11 RX2 "walls" "[LGluedWall$Wall;").before args s = true := hV.w (List.mem_of_getElem? (i := 138) (by decide +kernel)) (by decide +kernel)
theorem gv_139 {G : gx_G} {s : State} (hV : gx_V0 G s) {args : Array Value} : (Cond.fieldLink RX2 17 RX2 "next" "I").before args s = true := hV.w (List.mem_of_getElem? (i := 139) (by decide +kernel)) (by decide +kernel)
theorem gv_140 {G : gx_G} {s : State} (hV : gx_V0 G s) {args : Array Value} : (Cond.fieldLink RX2 21 RX2 "count" "I").before args s = true := hV.w (List.mem_of_getElem? (i := 140) (by decide +kernel)) (by decide +kernel)
theorem gv_149 {G : gx_G} {s : State} (hV : gx_V0 G s) {args : Array Value} : (Cond.classLink RX6 33 RX0).before args s = true := hV.w (List.mem_of_getElem? (i := 149) (by decide +kernel)) (by decide +kernel)
theorem gv_150 {G : gx_G} {s : State} (hV : gx_V0 G s) {args : Array Value} : (Cond.instantiable RX0 3).before args s = true := hV.w (List.mem_of_getElem? (i := 150) (by decide +kernel)) (by decide +kernel)
theorem gv_151 {G : gx_G} {s : State} (hV : gx_V0 G s) {args : Array Value} : (Cond.methodLinkNest RX6 35 yX0_init "GluedWall").before args s = true := hV.w (List.mem_of_getElem? (i := 151) (by decide +kernel)) (by decide +kernel)
theorem gv_152 {G : gx_G} {s : State} (hV : gx_V0 G s) {args : Array Value} : (Cond.instanceMethod yX0_init).before args s = true := hV.w (List.mem_of_getElem? (i := 152) (by decide +kernel)) (by decide +kernel)
theorem gv_153 {G : gx_G} {s : State} (hV : gx_V0 G s) {args : Array Value} : (Cond.code yX0_init cX0_init 1 none).before args s = true := hV.w (List.mem_of_getElem? (i := 153) (by decide +kernel)) (by decide +kernel)
theorem gv_154 {G : gx_G} {s : State} (hV : gx_V0 G s) {args : Array Value} : (Cond.methodLink RX0 3 Lib.objectInit).before args s = true := hV.w (List.mem_of_getElem? (i := 154) (by decide +kernel)) (by decide +kernel)
theorem gv_155 {G : gx_G} {s : State} (hV : gx_V0 G s) {args : Array Value} : (Cond.fieldLink RX0 9 RX0 "reached" "[Z").before args s = true := hV.w (List.mem_of_getElem? (i := 155) (by decide +kernel)) (by decide +kernel)
theorem gv_156 {G : gx_G} {s : State} (hV : gx_V0 G s) {args : Array Value} : (Cond.fieldLink RX0 15 RX0 "queue" "[I").before args s = true := hV.w (List.mem_of_getElem? (i := 156) (by decide +kernel)) (by decide +kernel)
theorem gv_157 {G : gx_G} {s : State} (hV : gx_V0 G s) {args : Array Value} : (Cond.fieldLink RX0 19 RX0 "queued" "I").before args s = true := hV.w (List.mem_of_getElem? (i := 157) (by decide +kernel)) (by decide +kernel)
theorem gv_166 {G : gx_G} {s : State} (hV : gx_V0 G s) {args : Array Value} : (Cond.classLink RX6 40 RX1).before args s = true := hV.w (List.mem_of_getElem? (i := 166) (by decide +kernel)) (by decide +kernel)
theorem gv_167 {G : gx_G} {s : State} (hV : gx_V0 G s) {args : Array Value} : (Cond.instantiable RX1 3).before args s = true := hV.w (List.mem_of_getElem? (i := 167) (by decide +kernel)) (by decide +kernel)
theorem gv_168 {G : gx_G} {s : State} (hV : gx_V0 G s) {args : Array Value} : (Cond.methodLinkNest RX6 42 yX1_init "GluedWall").before args s = true := hV.w (List.mem_of_getElem? (i := 168) (by decide +kernel)) (by decide +kernel)
theorem gv_169 {G : gx_G} {s : State} (hV : gx_V0 G s) {args : Array Value} : (Cond.instanceMethod yX1_init).before args s = true := hV.w (List.mem_of_getElem? (i := 169) (by decide +kernel)) (by decide +kernel)
theorem gv_170 {G : gx_G} {s : State} (hV : gx_V0 G s) {args : Array Value} : (Cond.code yX1_init cX1_init 1 none).before args s = true := hV.w (List.mem_of_getElem? (i := 170) (by decide +kernel)) (by decide +kernel)
theorem gv_171 {G : gx_G} {s : State} (hV : gx_V0 G s) {args : Array Value} : (Cond.methodLink RX1 3 Lib.objectInit).before args s = true := hV.w (List.mem_of_getElem? (i := 171) (by decide +kernel)) (by decide +kernel)
theorem gv_172 {G : gx_G} {s : State} (hV : gx_V0 G s) {args : Array Value} : (Cond.fieldLink RX1 9 RX1 "facing" "[I").before args s = true := hV.w (List.mem_of_getElem? (i := 172) (by decide +kernel)) (by decide +kernel)
theorem gv_173 {G : gx_G} {s : State} (hV : gx_V0 G s) {args : Array Value} : (Cond.fieldLink RX1 15 RX1 "foundPlace" "I").before args s = true := hV.w (List.mem_of_getElem? (i := 173) (by decide +kernel)) (by decide +kernel)
theorem gv_175 {G : gx_G} {s : State} (hV : gx_V0 G s) {args : Array Value} : (Cond.fieldLink RX1 19 RX1 "foundBrick" "I").before args s = true := hV.w (List.mem_of_getElem? (i := 175) (by decide +kernel)) (by decide +kernel)
theorem gv_184 {G : gx_G} {s : State} (hV : gx_V0 G s) {args : Array Value} : (Cond.classLink RX6 47 RX3).before args s = true := hV.w (List.mem_of_getElem? (i := 184) (by decide +kernel)) (by decide +kernel)
theorem gv_185 {G : gx_G} {s : State} (hV : gx_V0 G s) {args : Array Value} : (Cond.instantiable RX3 4).before args s = true := hV.w (List.mem_of_getElem? (i := 185) (by decide +kernel)) (by decide +kernel)
theorem gv_186 {G : gx_G} {s : State} (hV : gx_V0 G s) {args : Array Value} : (Cond.methodLink RX6 49 yX3_init).before args s = true := hV.w (List.mem_of_getElem? (i := 186) (by decide +kernel)) (by decide +kernel)
theorem gv_187 {G : gx_G} {s : State} (hV : gx_V0 G s) {args : Array Value} : (Cond.instanceMethod yX3_init).before args s = true := hV.w (List.mem_of_getElem? (i := 187) (by decide +kernel)) (by decide +kernel)
theorem gv_188 {G : gx_G} {s : State} (hV : gx_V0 G s) {args : Array Value} : (Cond.code yX3_init cX3_init 3 none).before args s = true := hV.w (List.mem_of_getElem? (i := 188) (by decide +kernel)) (by decide +kernel)
theorem gv_189 {G : gx_G} {s : State} (hV : gx_V0 G s) {args : Array Value} : (Cond.methodLink RX3 3 Lib.objectInit).before args s = true := hV.w (List.mem_of_getElem? (i := 189) (by decide +kernel)) (by decide +kernel)
theorem gv_190 {G : gx_G} {s : State} (hV : gx_V0 G s) {args : Array Value} : (Cond.fieldLink RX3 18 RX3 "footing" "LGluedWall$Footing;").before args s = true := hV.w (List.mem_of_getElem? (i := 190) (by decide +kernel)) (by decide +kernel)
theorem gv_191 {G : gx_G} {s : State} (hV : gx_V0 G s) {args : Array Value} : (Cond.fieldLink RX3 22 RX3 "growth" "LGluedWall$Growth;").before args s = true := hV.w (List.mem_of_getElem? (i := 191) (by decide +kernel)) (by decide +kernel)
theorem gv_192 {G : gx_G} {s : State} (hV : gx_V0 G s) {args : Array Value} : (Cond.fieldLink RX3 9 RX3 "refusedFor" "I").before args s = true := hV.w (List.mem_of_getElem? (i := 192) (by decide +kernel)) (by decide +kernel)
theorem gv_194 {G : gx_G} {s : State} (hV : gx_V0 G s) {args : Array Value} : (Cond.fieldLink RX3 15 RX3 "refusedDetail" "I").before args s = true := hV.w (List.mem_of_getElem? (i := 194) (by decide +kernel)) (by decide +kernel)
theorem gv_205 {G : gx_G} {s : State} (hV : gx_V0 G s) {args : Array Value} : (Cond.classLink RX6 60 RX4).before args s = true := hV.w (List.mem_of_getElem? (i := 205) (by decide +kernel)) (by decide +kernel)
theorem gv_206 {G : gx_G} {s : State} (hV : gx_V0 G s) {args : Array Value} : (Cond.instantiable RX4 6).before args s = true := hV.w (List.mem_of_getElem? (i := 206) (by decide +kernel)) (by decide +kernel)
theorem gv_207 {G : gx_G} {s : State} (hV : gx_V0 G s) {args : Array Value} : (Cond.methodLinkNest RX6 62 yX4_init "GluedWall").before args s = true := hV.w (List.mem_of_getElem? (i := 207) (by decide +kernel)) (by decide +kernel)
theorem gv_208 {G : gx_G} {s : State} (hV : gx_V0 G s) {args : Array Value} : (Cond.instanceMethod yX4_init).before args s = true := hV.w (List.mem_of_getElem? (i := 208) (by decide +kernel)) (by decide +kernel)
theorem gv_209 {G : gx_G} {s : State} (hV : gx_V0 G s) {args : Array Value} : (Cond.code yX4_init cX4_init 1 none).before args s = true := hV.w (List.mem_of_getElem? (i := 209) (by decide +kernel)) (by decide +kernel)
theorem gv_210 {G : gx_G} {s : State} (hV : gx_V0 G s) {args : Array Value} : (Cond.methodLink RX4 3 Lib.objectInit).before args s = true := hV.w (List.mem_of_getElem? (i := 210) (by decide +kernel)) (by decide +kernel)
theorem gv_211 {G : gx_G} {s : State} (hV : gx_V0 G s) {args : Array Value} : (Cond.fieldLink RX4 9 RX4 "signs" "[C").before args s = true := hV.w (List.mem_of_getElem? (i := 211) (by decide +kernel)) (by decide +kernel)
theorem gv_212 {G : gx_G} {s : State} (hV : gx_V0 G s) {args : Array Value} : (Cond.fieldLink RX4 15 RX4 "deeds" "[C").before args s = true := hV.w (List.mem_of_getElem? (i := 212) (by decide +kernel)) (by decide +kernel)
theorem gv_213 {G : gx_G} {s : State} (hV : gx_V0 G s) {args : Array Value} : (Cond.fieldLink RX4 18 RX4 "numbers" "[I").before args s = true := hV.w (List.mem_of_getElem? (i := 213) (by decide +kernel)) (by decide +kernel)
theorem gv_214 {G : gx_G} {s : State} (hV : gx_V0 G s) {args : Array Value} : (Cond.fieldLink RX4 22 RX4 "at" "I").before args s = true := hV.w (List.mem_of_getElem? (i := 214) (by decide +kernel)) (by decide +kernel)
theorem gv_215 {G : gx_G} {s : State} (hV : gx_V0 G s) {args : Array Value} : (Cond.fieldLink RX4 26 RX4 "length" "I").before args s = true := hV.w (List.mem_of_getElem? (i := 215) (by decide +kernel)) (by decide +kernel)
theorem gv_217 {G : gx_G} {s : State} (hV : gx_V0 G s) {args : Array Value} : (Cond.fieldLink RX4 29 RX4 "commandCount" "I").before args s = true := hV.w (List.mem_of_getElem? (i := 217) (by decide +kernel)) (by decide +kernel)
theorem gv_233 {G : gx_G} {s : State} (hV : gx_V0 G s) {args : Array Value} : (Cond.fieldLink RX6 12 RX6 "wall" "LGluedWall$Wall;").before args s = true := hV.w (List.mem_of_getElem? (i := 233) (by decide +kernel)) (by decide +kernel)
theorem gv_234 {G : gx_G} {s : State} (hV : gx_V0 G s) {args : Array Value} : (Cond.fieldLink RX6 16 RX6 "before" "LGluedWall$Wall;").before args s = true := hV.w (List.mem_of_getElem? (i := 234) (by decide +kernel)) (by decide +kernel)
theorem gv_235 {G : gx_G} {s : State} (hV : gx_V0 G s) {args : Array Value} : (Cond.fieldLink RX6 19 RX6 "snapshot" "LGluedWall$Wall;").before args s = true := hV.w (List.mem_of_getElem? (i := 235) (by decide +kernel)) (by decide +kernel)
theorem gv_236 {G : gx_G} {s : State} (hV : gx_V0 G s) {args : Array Value} : (Cond.fieldLink RX6 22 RX6 "hasSnapshot" "Z").before args s = true := hV.w (List.mem_of_getElem? (i := 236) (by decide +kernel)) (by decide +kernel)
theorem gv_237 {G : gx_G} {s : State} (hV : gx_V0 G s) {args : Array Value} : (Cond.fieldLink RX6 29 RX6 "history" "LGluedWall$History;").before args s = true := hV.w (List.mem_of_getElem? (i := 237) (by decide +kernel)) (by decide +kernel)
theorem gv_238 {G : gx_G} {s : State} (hV : gx_V0 G s) {args : Array Value} : (Cond.fieldLink RX6 36 RX6 "footing" "LGluedWall$Footing;").before args s = true := hV.w (List.mem_of_getElem? (i := 238) (by decide +kernel)) (by decide +kernel)
theorem gv_239 {G : gx_G} {s : State} (hV : gx_V0 G s) {args : Array Value} : (Cond.fieldLink RX6 43 RX6 "growth" "LGluedWall$Growth;").before args s = true := hV.w (List.mem_of_getElem? (i := 239) (by decide +kernel)) (by decide +kernel)
theorem gv_240 {G : gx_G} {s : State} (hV : gx_V0 G s) {args : Array Value} : (Cond.fieldLink RX6 52 RX6 "mason" "LGluedWall$Mason;").before args s = true := hV.w (List.mem_of_getElem? (i := 240) (by decide +kernel)) (by decide +kernel)
theorem gv_241 {G : gx_G} {s : State} (hV : gx_V0 G s) {args : Array Value} : (Cond.fieldLink RX6 56 RX6 "refusedCommand" "I").before args s = true := hV.w (List.mem_of_getElem? (i := 241) (by decide +kernel)) (by decide +kernel)
theorem gv_242 {G : gx_G} {s : State} (hV : gx_V0 G s) {args : Array Value} : (Cond.fieldLink RX6 63 RX6 "text" "LGluedWall$Text;").before args s = true := hV.w (List.mem_of_getElem? (i := 242) (by decide +kernel)) (by decide +kernel)
theorem gv_243 {G : gx_G} {s : State} (hV : gx_V0 G s) {args : Array Value} : (Cond.fieldLink RX6 67 RX6 "faultIndex" "I").before args s = true := hV.w (List.mem_of_getElem? (i := 243) (by decide +kernel)) (by decide +kernel)
theorem gv_244 {G : gx_G} {s : State} (hV : gx_V0 G s) {args : Array Value} : (Cond.fieldLink RX6 70 RX6 "lineSigns" "[C").before args s = true := hV.w (List.mem_of_getElem? (i := 244) (by decide +kernel)) (by decide +kernel)
theorem gv_245 {G : gx_G} {s : State} (hV : gx_V0 G s) {args : Array Value} : (Cond.fieldLink RX6 74 RX6 "lineLength" "I").before args s = true := hV.w (List.mem_of_getElem? (i := 245) (by decide +kernel)) (by decide +kernel)
theorem gv_1017 {G : gx_G} {s : State} (hV : gx_V0 G s) {args : Array Value} : (Cond.methodLink RX7 1 Lib.objectInit).before args s = true := hV.w (List.mem_of_getElem? (i := 1017) (by decide +kernel)) (by decide +kernel)
theorem gv_1018 {G : gx_G} {s : State} (hV : gx_V0 G s) {args : Array Value} : (Cond.fieldLink RX7 7 RX7 "g" "[I").before args s = true := hV.w (List.mem_of_getElem? (i := 1018) (by decide +kernel)) (by decide +kernel)
theorem gv_1019 {G : gx_G} {s : State} (hV : gx_V0 G s) {args : Array Value} : (Cond.fieldLink RX7 13 RX7 "kept" "[I").before args s = true := hV.w (List.mem_of_getElem? (i := 1019) (by decide +kernel)) (by decide +kernel)
theorem gv_1020 {G : gx_G} {s : State} (hV : gx_V0 G s) {args : Array Value} : (Cond.fieldLink RX7 16 RX7 "saved" "[I").before args s = true := hV.w (List.mem_of_getElem? (i := 1020) (by decide +kernel)) (by decide +kernel)
theorem gv_1021 {G : gx_G} {s : State} (hV : gx_V0 G s) {args : Array Value} : (Cond.fieldLink RX7 19 RX7 "before" "[I").before args s = true := hV.w (List.mem_of_getElem? (i := 1021) (by decide +kernel)) (by decide +kernel)
theorem gv_1022 {G : gx_G} {s : State} (hV : gx_V0 G s) {args : Array Value} : (Cond.fieldLink RX7 22 RX7 "spare" "[I").before args s = true := hV.w (List.mem_of_getElem? (i := 1022) (by decide +kernel)) (by decide +kernel)
theorem gv_1031 {G : gx_G} {s : State} (hV : gx_V0 G s) {args : Array Value} : (Cond.fieldLink RX7 25 RX7 "input" "[I").before args s = true := hV.w (List.mem_of_getElem? (i := 1031) (by decide +kernel)) (by decide +kernel)
theorem gv_1033 {G : gx_G} {s : State} (hV : gx_V0 G s) {args : Array Value} : (Cond.fieldLink RX7 28 RX7 "fault0" "I").before args s = true := hV.w (List.mem_of_getElem? (i := 1033) (by decide +kernel)) (by decide +kernel)
theorem gv_1034 {G : gx_G} {s : State} (hV : gx_V0 G s) {args : Array Value} : (Cond.fieldLink RX7 32 RX7 "signs" "[C").before args s = true := hV.w (List.mem_of_getElem? (i := 1034) (by decide +kernel)) (by decide +kernel)
theorem gv_1036 {G : gx_G} {s : State} (hV : gx_V0 G s) {args : Array Value} : (Cond.fieldLink RX7 36 RX7 "isCome" "[Z").before args s = true := hV.w (List.mem_of_getElem? (i := 1036) (by decide +kernel)) (by decide +kernel)
theorem gv_1038 {G : gx_G} {s : State} (hV : gx_V0 G s) {args : Array Value} : (Cond.fieldLink RX7 40 RX7 "told" "[I").before args s = true := hV.w (List.mem_of_getElem? (i := 1038) (by decide +kernel)) (by decide +kernel)
def gx_str (j : Nat) : Int32 := if j = 0 then 0 else 1
def gx_wl (G : gx_G) (h q1 q2 q3 : Nat) : va_W := [(h, .inr (7, [.ref q1, .ref q2, .ref q3, .int 0, .int 2, .int (-1), .int 0, .int 0, .int 0])), (q1, .inl (G.2.2.1 0, 32, .inl (fun _ => 0))), (q2, .inl (G.2.2.1 0, 7, .inl gx_str)), (q3, .inl (G.2.2.1 0, 42, .inl (fun _ => -1)))]
theorem gx_str7 : ∀ j, j < 7 → upd (upd (upd (upd (upd (upd (upd (fun _ => 0) 0 0) 1 1) 2 1) 3 1) 4 1) 5 1) 6 1 j = gx_str j := by decide
theorem gx_at2 {x y z : Nat × va_E} {W w : va_W} : (x :: y :: (W ++ z :: w))[W.length + 2]? = some z := by simp
theorem hfs_X5 : ∀ j, j < 9 → defaultValue (tyX5 j) = vp_V [.null, .null, .null, .int 0, .int 0, .int 0, .int 0, .int 0, .int 0] j := by
  intro j hj
  rcases (show j = 0 ∨ j = 1 ∨ j = 2 ∨ j = 3 ∨ j = 4 ∨ j = 5 ∨ j = 6 ∨ j = 7 ∨ j = 8 by omega) with rfl | rfl | rfl | rfl | rfl | rfl | rfl | rfl | rfl <;> rfl
theorem hfs_X2 : ∀ j, j < 3 → defaultValue (tyX2 j) = vp_V [.null, .int 0, .int 0] j := by
  intro j hj
  rcases (show j = 0 ∨ j = 1 ∨ j = 2 by omega) with rfl | rfl | rfl <;> rfl
theorem hfs_X0 : ∀ j, j < 3 → defaultValue (tyX0 j) = vp_V [.null, .null, .int 0] j := by
  intro j hj
  rcases (show j = 0 ∨ j = 1 ∨ j = 2 by omega) with rfl | rfl | rfl <;> rfl
theorem hfs_X1 : ∀ j, j < 3 → defaultValue (tyX1 j) = vp_V [.null, .int 0, .int 0] j := by
  intro j hj
  rcases (show j = 0 ∨ j = 1 ∨ j = 2 by omega) with rfl | rfl | rfl <;> rfl
theorem hfs_X3 : ∀ j, j < 4 → defaultValue (tyX3 j) = vp_V [.null, .null, .int 0, .int 0] j := by
  intro j hj
  rcases (show j = 0 ∨ j = 1 ∨ j = 2 ∨ j = 3 by omega) with rfl | rfl | rfl | rfl <;> rfl
theorem hfs_X4 : ∀ j, j < 6 → defaultValue (tyX4 j) = vp_V [.null, .null, .null, .int 0, .int 0, .int 0] j := by
  intro j hj
  rcases (show j = 0 ∨ j = 1 ∨ j = 2 ∨ j = 3 ∨ j = 4 ∨ j = 5 by omega) with rfl | rfl | rfl | rfl | rfl | rfl <;> rfl
theorem hfs_X6 : ∀ j, j < 13 → defaultValue (tyX6 j) = vp_V [.null, .null, .null, .int 0, .null, .null, .null, .null, .int 0, .null, .int 0, .null, .int 0] j := by
  intro j hj
  rcases (show j = 0 ∨ j = 1 ∨ j = 2 ∨ j = 3 ∨ j = 4 ∨ j = 5 ∨ j = 6 ∨ j = 7 ∨ j = 8 ∨ j = 9 ∨ j = 10 ∨ j = 11 ∨ j = 12 by omega) with rfl | rfl | rfl | rfl | rfl | rfl | rfl | rfl | rfl | rfl | rfl | rfl | rfl <;> rfl
theorem hfs_X7 : ∀ j, j < 22 → defaultValue (tyX7 j) = vp_V [.null, .null, .null, .null, .null, .int 0, .int 0, .int 0, .int 0, .int 0, .int 0, .int 0, .int 0, .null, .int 0, .int 0, .null, .int 0, .null, .int 0, .null, .int 0] j := by
  intro j hj
  rcases (show j = 0 ∨ j = 1 ∨ j = 2 ∨ j = 3 ∨ j = 4 ∨ j = 5 ∨ j = 6 ∨ j = 7 ∨ j = 8 ∨ j = 9 ∨ j = 10 ∨ j = 11 ∨ j = 12 ∨ j = 13 ∨ j = 14 ∨ j = 15 ∨ j = 16 ∨ j = 17 ∨ j = 18 ∨ j = 19 ∨ j = 20 ∨ j = 21 by omega) with rfl | rfl | rfl | rfl | rfl | rfl | rfl | rfl | rfl | rfl | rfl | rfl | rfl | rfl | rfl | rfl | rfl | rfl | rfl | rfl | rfl | rfl <;> rfl
def gx_ad (L : List Nat) (k : Nat) : Nat := L.getD k 0
def gx_hl (G : gx_G) (h qa : Nat) (L : List Nat) : va_W := (h, .inr (4, [.ref qa, .int 0, .int 0])) :: (qa, .inl (G.2.2.1 3, 8, .inr (.inr (.inr (.inr (fun n => some (gx_ad L (4 * n)))))))) :: ((((((((([] : va_W) ++ gx_wl G (gx_ad L 0) (gx_ad L 1) (gx_ad L 2) (gx_ad L 3)) ++ gx_wl G (gx_ad L 4) (gx_ad L 5) (gx_ad L 6) (gx_ad L 7)) ++ gx_wl G (gx_ad L 8) (gx_ad L 9) (gx_ad L 10) (gx_ad L 11)) ++ gx_wl G (gx_ad L 12) (gx_ad L 13) (gx_ad L 14) (gx_ad L 15)) ++ gx_wl G (gx_ad L 16) (gx_ad L 17) (gx_ad L 18) (gx_ad L 19)) ++ gx_wl G (gx_ad L 20) (gx_ad L 21) (gx_ad L 22) (gx_ad L 23)) ++ gx_wl G (gx_ad L 24) (gx_ad L 25) (gx_ad L 26) (gx_ad L 27)) ++ gx_wl G (gx_ad L 28) (gx_ad L 29) (gx_ad L 30) (gx_ad L 31))
theorem gx_vb0 : (Value.int (gx_boo 0)) = .int 0 := by rw [gx_b0]
def gx_gl (G : gx_G) (h0 : Nat) (L3 K : List Nat) : va_W := (h0, .inr (8, [.ref (gx_ad K 0), .ref (gx_ad K 4), .ref (gx_ad K 8), .int (gx_boo 0), .ref (gx_ad K 12), .ref (gx_ad K 14), .ref (gx_ad K 17), .ref (gx_ad K 19), .int 0, .ref (gx_ad K 20), .int (-1), .ref (gx_ad K 24), .int 0])) :: (((((((((([] : va_W) ++ gx_wl G (gx_ad K 0) (gx_ad K 1) (gx_ad K 2) (gx_ad K 3)) ++ gx_wl G (gx_ad K 4) (gx_ad K 5) (gx_ad K 6) (gx_ad K 7)) ++ gx_wl G (gx_ad K 8) (gx_ad K 9) (gx_ad K 10) (gx_ad K 11)) ++ gx_hl G (gx_ad K 12) (gx_ad K 13) L3) ++ [((gx_ad K 14), .inr (2, [.ref (gx_ad K 15), .ref (gx_ad K 16), .int 0])), ((gx_ad K 15), .inl (G.2.2.1 2, 42, .inl (fun _ => gx_boo 0))), ((gx_ad K 16), .inl (G.2.2.1 0, 42, .inl (fun _ => 0)))]) ++ [((gx_ad K 17), .inr (3, [.ref (gx_ad K 18), .int (-1), .int (-1)])), ((gx_ad K 18), .inl (G.2.2.1 0, 4, .inl (fun _ => 0)))]) ++ [((gx_ad K 19), .inr (5, [.ref (gx_ad K 14), .ref (gx_ad K 17), .int 0, .int 0]))]) ++ [((gx_ad K 20), .inr (6, [.ref (gx_ad K 21), .ref (gx_ad K 22), .ref (gx_ad K 23), .int 0, .int 0, .int 0])), ((gx_ad K 21), .inl (G.2.2.1 1, 60, .inl (fun _ => gx_chr 0))), ((gx_ad K 22), .inl (G.2.2.1 1, 30, .inl (fun _ => gx_chr 0))), ((gx_ad K 23), .inl (G.2.2.1 0, 120, .inl (fun _ => 0)))]) ++ [((gx_ad K 24), .inl (G.2.2.1 1, 28, .inl (fun _ => gx_chr 0)))])
def gx_g0 (j : Nat) : Int32 := if j = 1 then -1 else if j = 2 then 2 else if 7 ≤ j ∧ j < 13 then 1 else if 45 ≤ j then -1 else 0
theorem gx_g0_45 : ∀ k, k < 45 → upd (upd (upd (upd (upd (upd (upd (upd (fun _ => 0) 1 (-1)) 2 2) 7 1) 8 1) 9 1) 10 1) 11 1) 12 1 k = gx_g0 k := by decide
theorem gx_g0_ge (j : Nat) (h : 45 ≤ j) : gx_g0 j = -1 := by
  unfold gx_g0
  rw [if_neg (by omega), if_neg (by omega), if_neg (by omega), if_pos h]
def gx_ml (G : gx_G) (h0 : Nat) (K : List Nat) : va_W := (h0, .inr (9, [.ref (gx_ad K 0), .ref (gx_ad K 1), .ref (gx_ad K 2), .ref (gx_ad K 3), .ref (gx_ad K 4), .int (gx_boo 0), .int 0, .int (gx_boo 0), .int 0, .int 0, .int 0, .int 0, .int 0, .ref (gx_ad K 5), .int 0, .int (-1), .ref (gx_ad K 6), .int 0, .ref (gx_ad K 7), .int 0, .ref (gx_ad K 8), .int 0])) :: [((gx_ad K 0), .inl (G.2.2.1 0, 87, .inl gx_g0)), ((gx_ad K 1), .inl (G.2.2.1 0, 696, .inl (fun _ => 0))), ((gx_ad K 2), .inl (G.2.2.1 0, 87, .inl (fun _ => 0))), ((gx_ad K 3), .inl (G.2.2.1 0, 87, .inl (fun _ => 0))), ((gx_ad K 4), .inl (G.2.2.1 0, 87, .inl (fun _ => 0))), ((gx_ad K 5), .inl (G.2.2.1 0, 60, .inl (fun _ => 0))), ((gx_ad K 6), .inl (G.2.2.1 1, 32, .inl (fun _ => gx_chr 0))), ((gx_ad K 7), .inl (G.2.2.1 2, 42, .inl (fun _ => gx_boo 0))), ((gx_ad K 8), .inl (G.2.2.1 0, 186, .inl (fun _ => 0)))]
section GXL5
variable {p : Program} {l : Launch} {e : Env} {R : Room} {s : State} {m : MethodId} {args : Array Value} {below : List Frame} {meth : Method} {c : Code} {cells slots : Nat} {G : gx_G} {A : Nat → Prop} {h0 q1 q2 q3 : Nat} {f1 f2 : Nat → Int32}
set_option maxHeartbeats 1000000 in
set_option maxRecDepth 100000 in
theorem i_X5_loop (hx : p.tables.exec = Jvm.exec) (hb : c.code = cX5_init) (hr : meth.sig.returnType = none) (hown : s.vm.findClass RX5 = some m.cls) (hlocks : meth.locks = false) (hV : gx_V0 G s) (hA : ∀ q : Nat, s.heap.size ≤ q → A q) {post : va_W → Prop} {ta : List Value} (hpost : ∀ g : Nat → Int32, (∀ j, j < 42 → g j = -1) → post [(h0, .inr (7, ta)), (q1, .inl (G.2.2.1 0, 32, .inl f1)), (q2, .inl (G.2.2.1 0, 7, .inl f2)), (q3, .inl (G.2.2.1 0, 42, .inl (fun _ => -1)))]) (hta : ta[2]? = some (.ref q3)) : ∀ (n j : Nat), j + n = 42 → ∀ (f : Nat → Int32) (H : Heap) (locs : List Loc) (ls : Array Slot), (∀ k, k < j → f k = -1) → lv_has ls 2 [(1, .int (Int32.ofNat j)), (0, .ref h0)] → va_P G.1 vwCl [(h0, .inr (7, ta)), (q1, .inl (G.2.2.1 0, 32, .inl f1)), (q2, .inl (G.2.2.1 0, 7, .inl f2)), (q3, .inl (G.2.2.1 0, 42, .inl f))] H → va_D A [(h0, .inr (7, ta)), (q1, .inl (G.2.2.1 0, 32, .inl f1)), (q2, .inl (G.2.2.1 0, 7, .inl f2)), (q3, .inl (G.2.2.1 0, 42, .inl f))] → va_S A s.heap H locs → W p l e R s m args below meth c H locs cells slots (MQ below (va_Qv post (gx_BI G A) A) args s cells slots A) (F0 m 89 ls []) := by
  intro n
  induction n with
  | zero =>
    intro j hj f H locs ls hf hl hP hD hS
    have h42 : j = 42 := by omega
    subst h42
    refine lv_iload_n (pc := 89) hx hb dX5_init_89 rfl (lv_at hl 0 rfl) ?_
    refine lv_bipush (pc := 90) (v := 42) hx hb dX5_init_90 (by decide) ?_
    refine lv_icmp_ge (pc := 92) (tgt := 108) hx hb dX5_init_92 (by decide) (fun _ => ?_) (fun hc => absurd (by decide) hc)
    obtain ⟨hP2, hD2⟩ := gx_swap hP hD 3 rfl (gx_ati (g := fun _ => -1) (fun j hj => hf j hj))
    exact gx_retI hx hb hr hlocks hP2 hD2 hS (hpost f (fun j hj => hf j hj)) dX5_init_108
  | succ n ih =>
    intro j hj f H locs ls hf hl hP hD hS
    have hj2 : j < 42 := by omega
    obtain ⟨n1, n2, -, n4, -⟩ := gx_nat42 j (by omega)
    refine lv_iload_n (pc := 89) hx hb dX5_init_89 rfl (lv_at hl 0 rfl) ?_
    refine lv_bipush (pc := 90) (v := 42) hx hb dX5_init_90 (by decide) ?_
    refine lv_icmp_ge (pc := 92) (tgt := 108) hx hb dX5_init_92 (by decide) (fun hc => absurd ((gx_lt42 j (by omega)).mp hc) (by omega)) (fun _ => ?_)
    refine lv_aload_n (pc := 95) hx hb dX5_init_95 rfl (lv_at hl 1 rfl) ?_
    refine gx_getI (pc := 96) (ci := 7) (v := .ref q3) hx hb hV gl_X5 hown hP rfl 2 (by decide) rfl hta (gv_89 hV) dX5_init_96 ?_
    refine lv_iload_n (pc := 99) hx hb dX5_init_99 rfl (lv_at hl 0 rfl) ?_
    refine lv_iconst (pc := 100) (v := -1) hx hb dX5_init_100 (by decide) ?_
    refine va_iast (pc := 101) hx hb hV.K hP hD hS 3 0 rfl rfl (fun q => ?_) dX5_init_101 (fun H locs hP hD hS => ?_)
    · rw [n1] at q
      rcases q with q | q
      · exact n4 q
      · omega
    rw [n1] at hP hD
    refine lv_iinc (pc := 102) (v := Int32.ofNat (j + 1)) (lv' := [(1, .int (Int32.ofNat (j + 1))), (0, .ref h0)]) hx hb dX5_init_102 hl (k := 0) rfl n2 (by decide) rfl (fun ls hl => ?_)
    refine lv_goto (pc := 105) (tgt := 89) hx hb dX5_init_105 (by decide) ?_
    refine ih (j + 1) (by omega) (upd f j (-1)) H locs ls (fun k hk => ?_) hl hP hD hS
    by_cases h : k = j
    · subst h; simp [upd]
    · simp [upd, h]; exact hf k (by omega)
end GXL5
set_option maxHeartbeats 1000000 in
set_option maxRecDepth 100000 in
theorem i_X5 (l : Launch) (G : gx_G) (h0 : Nat) (sz : Nat) : gx_KI l yX5_init cX5_init 2 ({ frames := 1, cells := 3, slots := 81, locals := 12 }) ([.ref h0]) G [(h0, .inr (7, [.null, .null, .null, .int 0, .int 0, .int 0, .int 0, .int 0, .int 0]))] sz (fun w => ∃ q1 q2 q3 : Nat, w = gx_wl G h0 q1 q2 q3) 3 81 := by
  refine gx_beginI (by decide) rfl (Nat.le_of_ble_eq_true rfl) ?_
  intro p e s m below meth c A hx hb hr hml hown hlocks hmn hV hP hD hA ls hl
  have hS : va_S A s.heap s.heap [] := va_S.rf
  refine lv_aload_n (pc := 0) hx hb dX5_init_0 rfl (lv_at hl 0 rfl) ?_
  refine W.objInit hx hb hown (gv_83 hV) (gv_76 hV) (gv_77 hV) rfl (by rw [hml]; exact hl.1) rfl dX5_init_1 (Nat.le_of_ble_eq_true rfl) (Nat.le_of_ble_eq_true rfl) ?_
  refine W.eq (g2 := F0 m 4 ls []) rfl ?_
  refine lv_aload_n (pc := 4) hx hb dX5_init_4 rfl (lv_at hl 0 rfl) ?_
  refine lv_bipush (pc := 5) (v := 32) hx hb dX5_init_5 (by decide) ?_
  refine gx_newa (pc := 7) (ty := .int) (N' := 32) (a0 := (32, .inl (fun _ => 0))) hx hb (gx_ac0 hV) rfl hV.K hP hD hS hA 0 rfl (fun _ => by rfl) (by decide) (by decide) (by decide) (Nat.le_of_ble_eq_true rfl) (Nat.le_of_ble_eq_true rfl) dX5_init_7 (fun q1 H hP hD hS => ?_)
  have hP : va_P G.1 vwCl ((h0, .inr (7, [.null, .null, .null, .int 0, .int 0, .int 0, .int 0, .int 0, .int 0])) :: [(q1, .inl (G.2.2.1 0, 32, .inl (fun _ => 0)))]) H := hP
  have hD : va_D A ((h0, .inr (7, [.null, .null, .null, .int 0, .int 0, .int 0, .int 0, .int 0, .int 0])) :: [(q1, .inl (G.2.2.1 0, 32, .inl (fun _ => 0)))]) := hD
  refine W.widen (k := 1) (n := 32) (by omega) (by omega) ?_
  refine gx_putF (pc := 9) (ci := 7) (v := .ref q1) (ty := (.array .int)) hx hb hV gl_X5 tyX5 tyX5_ok nmX5 hown hP hD hS rfl 0 (by decide) rfl rfl hmn (by decide +kernel) rfl rfl (Nat.le_of_ble_eq_true rfl) (gv_84 hV) dX5_init_9 (fun H locs hP hD hS => ?_)
  have hP : va_P G.1 vwCl ((h0, .inr (7, [.ref q1, .null, .null, .int 0, .int 0, .int 0, .int 0, .int 0, .int 0])) :: [(q1, .inl (G.2.2.1 0, 32, .inl (fun _ => 0)))]) H := hP
  have hD : va_D A ((h0, .inr (7, [.ref q1, .null, .null, .int 0, .int 0, .int 0, .int 0, .int 0, .int 0])) :: [(q1, .inl (G.2.2.1 0, 32, .inl (fun _ => 0)))]) := hD
  refine lv_aload_n (pc := 12) hx hb dX5_init_12 rfl (lv_at hl 0 rfl) ?_
  refine lv_bipush (pc := 13) (v := 7) hx hb dX5_init_13 (by decide) ?_
  refine gx_newa (pc := 15) (ty := .int) (N' := 7) (a0 := (7, .inl (fun _ => 0))) hx hb (gx_ac0 hV) rfl hV.K hP hD hS hA 0 rfl (fun _ => by rfl) (by decide) (by decide) (by decide) (Nat.le_of_ble_eq_true rfl) (Nat.le_of_ble_eq_true rfl) dX5_init_15 (fun q2 H hP hD hS => ?_)
  have hP : va_P G.1 vwCl ((h0, .inr (7, [.ref q1, .null, .null, .int 0, .int 0, .int 0, .int 0, .int 0, .int 0])) :: [(q1, .inl (G.2.2.1 0, 32, .inl (fun _ => 0))), (q2, .inl (G.2.2.1 0, 7, .inl (fun _ => 0)))]) H := hP
  have hD : va_D A ((h0, .inr (7, [.ref q1, .null, .null, .int 0, .int 0, .int 0, .int 0, .int 0, .int 0])) :: [(q1, .inl (G.2.2.1 0, 32, .inl (fun _ => 0))), (q2, .inl (G.2.2.1 0, 7, .inl (fun _ => 0)))]) := hD
  refine W.widen (k := 2) (n := 39) (by omega) (by omega) ?_
  refine lv_dup (pc := 17) hx hb dX5_init_17 rfl ?_
  refine lv_iconst (pc := 18) (v := 0) hx hb dX5_init_18 (by decide) ?_
  refine lv_iconst (pc := 19) (v := 0) hx hb dX5_init_19 (by decide) ?_
  refine va_iast (pc := 20) hx hb hV.K hP hD hS 2 0 rfl rfl (fun q => absurd q (by decide)) dX5_init_20 (fun H locs hP hD hS => ?_)
  have hP : va_P G.1 vwCl ((h0, .inr (7, [.ref q1, .null, .null, .int 0, .int 0, .int 0, .int 0, .int 0, .int 0])) :: [(q1, .inl (G.2.2.1 0, 32, .inl (fun _ => 0))), (q2, .inl (G.2.2.1 0, 7, .inl (upd (fun _ => 0) 0 0)))]) H := hP
  have hD : va_D A ((h0, .inr (7, [.ref q1, .null, .null, .int 0, .int 0, .int 0, .int 0, .int 0, .int 0])) :: [(q1, .inl (G.2.2.1 0, 32, .inl (fun _ => 0))), (q2, .inl (G.2.2.1 0, 7, .inl (upd (fun _ => 0) 0 0)))]) := hD
  refine lv_dup (pc := 21) hx hb dX5_init_21 rfl ?_
  refine lv_iconst (pc := 22) (v := 1) hx hb dX5_init_22 (by decide) ?_
  refine lv_iconst (pc := 23) (v := 1) hx hb dX5_init_23 (by decide) ?_
  refine va_iast (pc := 24) hx hb hV.K hP hD hS 2 0 rfl rfl (fun q => absurd q (by decide)) dX5_init_24 (fun H locs hP hD hS => ?_)
  have hP : va_P G.1 vwCl ((h0, .inr (7, [.ref q1, .null, .null, .int 0, .int 0, .int 0, .int 0, .int 0, .int 0])) :: [(q1, .inl (G.2.2.1 0, 32, .inl (fun _ => 0))), (q2, .inl (G.2.2.1 0, 7, .inl (upd (upd (fun _ => 0) 0 0) 1 1)))]) H := hP
  have hD : va_D A ((h0, .inr (7, [.ref q1, .null, .null, .int 0, .int 0, .int 0, .int 0, .int 0, .int 0])) :: [(q1, .inl (G.2.2.1 0, 32, .inl (fun _ => 0))), (q2, .inl (G.2.2.1 0, 7, .inl (upd (upd (fun _ => 0) 0 0) 1 1)))]) := hD
  refine lv_dup (pc := 25) hx hb dX5_init_25 rfl ?_
  refine lv_iconst (pc := 26) (v := 2) hx hb dX5_init_26 (by decide) ?_
  refine lv_iconst (pc := 27) (v := 1) hx hb dX5_init_27 (by decide) ?_
  refine va_iast (pc := 28) hx hb hV.K hP hD hS 2 0 rfl rfl (fun q => absurd q (by decide)) dX5_init_28 (fun H locs hP hD hS => ?_)
  have hP : va_P G.1 vwCl ((h0, .inr (7, [.ref q1, .null, .null, .int 0, .int 0, .int 0, .int 0, .int 0, .int 0])) :: [(q1, .inl (G.2.2.1 0, 32, .inl (fun _ => 0))), (q2, .inl (G.2.2.1 0, 7, .inl (upd (upd (upd (fun _ => 0) 0 0) 1 1) 2 1)))]) H := hP
  have hD : va_D A ((h0, .inr (7, [.ref q1, .null, .null, .int 0, .int 0, .int 0, .int 0, .int 0, .int 0])) :: [(q1, .inl (G.2.2.1 0, 32, .inl (fun _ => 0))), (q2, .inl (G.2.2.1 0, 7, .inl (upd (upd (upd (fun _ => 0) 0 0) 1 1) 2 1)))]) := hD
  refine lv_dup (pc := 29) hx hb dX5_init_29 rfl ?_
  refine lv_iconst (pc := 30) (v := 3) hx hb dX5_init_30 (by decide) ?_
  refine lv_iconst (pc := 31) (v := 1) hx hb dX5_init_31 (by decide) ?_
  refine va_iast (pc := 32) hx hb hV.K hP hD hS 2 0 rfl rfl (fun q => absurd q (by decide)) dX5_init_32 (fun H locs hP hD hS => ?_)
  have hP : va_P G.1 vwCl ((h0, .inr (7, [.ref q1, .null, .null, .int 0, .int 0, .int 0, .int 0, .int 0, .int 0])) :: [(q1, .inl (G.2.2.1 0, 32, .inl (fun _ => 0))), (q2, .inl (G.2.2.1 0, 7, .inl (upd (upd (upd (upd (fun _ => 0) 0 0) 1 1) 2 1) 3 1)))]) H := hP
  have hD : va_D A ((h0, .inr (7, [.ref q1, .null, .null, .int 0, .int 0, .int 0, .int 0, .int 0, .int 0])) :: [(q1, .inl (G.2.2.1 0, 32, .inl (fun _ => 0))), (q2, .inl (G.2.2.1 0, 7, .inl (upd (upd (upd (upd (fun _ => 0) 0 0) 1 1) 2 1) 3 1)))]) := hD
  refine lv_dup (pc := 33) hx hb dX5_init_33 rfl ?_
  refine lv_iconst (pc := 34) (v := 4) hx hb dX5_init_34 (by decide) ?_
  refine lv_iconst (pc := 35) (v := 1) hx hb dX5_init_35 (by decide) ?_
  refine va_iast (pc := 36) hx hb hV.K hP hD hS 2 0 rfl rfl (fun q => absurd q (by decide)) dX5_init_36 (fun H locs hP hD hS => ?_)
  have hP : va_P G.1 vwCl ((h0, .inr (7, [.ref q1, .null, .null, .int 0, .int 0, .int 0, .int 0, .int 0, .int 0])) :: [(q1, .inl (G.2.2.1 0, 32, .inl (fun _ => 0))), (q2, .inl (G.2.2.1 0, 7, .inl (upd (upd (upd (upd (upd (fun _ => 0) 0 0) 1 1) 2 1) 3 1) 4 1)))]) H := hP
  have hD : va_D A ((h0, .inr (7, [.ref q1, .null, .null, .int 0, .int 0, .int 0, .int 0, .int 0, .int 0])) :: [(q1, .inl (G.2.2.1 0, 32, .inl (fun _ => 0))), (q2, .inl (G.2.2.1 0, 7, .inl (upd (upd (upd (upd (upd (fun _ => 0) 0 0) 1 1) 2 1) 3 1) 4 1)))]) := hD
  refine lv_dup (pc := 37) hx hb dX5_init_37 rfl ?_
  refine lv_iconst (pc := 38) (v := 5) hx hb dX5_init_38 (by decide) ?_
  refine lv_iconst (pc := 39) (v := 1) hx hb dX5_init_39 (by decide) ?_
  refine va_iast (pc := 40) hx hb hV.K hP hD hS 2 0 rfl rfl (fun q => absurd q (by decide)) dX5_init_40 (fun H locs hP hD hS => ?_)
  have hP : va_P G.1 vwCl ((h0, .inr (7, [.ref q1, .null, .null, .int 0, .int 0, .int 0, .int 0, .int 0, .int 0])) :: [(q1, .inl (G.2.2.1 0, 32, .inl (fun _ => 0))), (q2, .inl (G.2.2.1 0, 7, .inl (upd (upd (upd (upd (upd (upd (fun _ => 0) 0 0) 1 1) 2 1) 3 1) 4 1) 5 1)))]) H := hP
  have hD : va_D A ((h0, .inr (7, [.ref q1, .null, .null, .int 0, .int 0, .int 0, .int 0, .int 0, .int 0])) :: [(q1, .inl (G.2.2.1 0, 32, .inl (fun _ => 0))), (q2, .inl (G.2.2.1 0, 7, .inl (upd (upd (upd (upd (upd (upd (fun _ => 0) 0 0) 1 1) 2 1) 3 1) 4 1) 5 1)))]) := hD
  refine lv_dup (pc := 41) hx hb dX5_init_41 rfl ?_
  refine lv_bipush (pc := 42) (v := 6) hx hb dX5_init_42 (by decide) ?_
  refine lv_iconst (pc := 44) (v := 1) hx hb dX5_init_44 (by decide) ?_
  refine va_iast (pc := 45) hx hb hV.K hP hD hS 2 0 rfl rfl (fun q => absurd q (by decide)) dX5_init_45 (fun H locs hP hD hS => ?_)
  have hP : va_P G.1 vwCl ((h0, .inr (7, [.ref q1, .null, .null, .int 0, .int 0, .int 0, .int 0, .int 0, .int 0])) :: [(q1, .inl (G.2.2.1 0, 32, .inl (fun _ => 0))), (q2, .inl (G.2.2.1 0, 7, .inl (upd (upd (upd (upd (upd (upd (upd (fun _ => 0) 0 0) 1 1) 2 1) 3 1) 4 1) 5 1) 6 1)))]) H := hP
  have hD : va_D A ((h0, .inr (7, [.ref q1, .null, .null, .int 0, .int 0, .int 0, .int 0, .int 0, .int 0])) :: [(q1, .inl (G.2.2.1 0, 32, .inl (fun _ => 0))), (q2, .inl (G.2.2.1 0, 7, .inl (upd (upd (upd (upd (upd (upd (upd (fun _ => 0) 0 0) 1 1) 2 1) 3 1) 4 1) 5 1) 6 1)))]) := hD
  refine gx_putF (pc := 46) (ci := 7) (v := .ref q2) (ty := (.array .int)) hx hb hV gl_X5 tyX5 tyX5_ok nmX5 hown hP hD hS rfl 1 (by decide) rfl rfl hmn (by decide +kernel) rfl rfl (Nat.le_of_ble_eq_true rfl) (gv_86 hV) dX5_init_46 (fun H locs hP hD hS => ?_)
  have hP : va_P G.1 vwCl ((h0, .inr (7, [.ref q1, .ref q2, .null, .int 0, .int 0, .int 0, .int 0, .int 0, .int 0])) :: [(q1, .inl (G.2.2.1 0, 32, .inl (fun _ => 0))), (q2, .inl (G.2.2.1 0, 7, .inl (upd (upd (upd (upd (upd (upd (upd (fun _ => 0) 0 0) 1 1) 2 1) 3 1) 4 1) 5 1) 6 1)))]) H := hP
  have hD : va_D A ((h0, .inr (7, [.ref q1, .ref q2, .null, .int 0, .int 0, .int 0, .int 0, .int 0, .int 0])) :: [(q1, .inl (G.2.2.1 0, 32, .inl (fun _ => 0))), (q2, .inl (G.2.2.1 0, 7, .inl (upd (upd (upd (upd (upd (upd (upd (fun _ => 0) 0 0) 1 1) 2 1) 3 1) 4 1) 5 1) 6 1)))]) := hD
  refine lv_aload_n (pc := 49) hx hb dX5_init_49 rfl (lv_at hl 0 rfl) ?_
  refine lv_bipush (pc := 50) (v := 42) hx hb dX5_init_50 (by decide) ?_
  refine gx_newa (pc := 52) (ty := .int) (N' := 42) (a0 := (42, .inl (fun _ => 0))) hx hb (gx_ac0 hV) rfl hV.K hP hD hS hA 0 rfl (fun _ => by rfl) (by decide) (by decide) (by decide) (Nat.le_of_ble_eq_true rfl) (Nat.le_of_ble_eq_true rfl) dX5_init_52 (fun q3 H hP hD hS => ?_)
  have hP : va_P G.1 vwCl ((h0, .inr (7, [.ref q1, .ref q2, .null, .int 0, .int 0, .int 0, .int 0, .int 0, .int 0])) :: [(q1, .inl (G.2.2.1 0, 32, .inl (fun _ => 0))), (q2, .inl (G.2.2.1 0, 7, .inl (upd (upd (upd (upd (upd (upd (upd (fun _ => 0) 0 0) 1 1) 2 1) 3 1) 4 1) 5 1) 6 1))), (q3, .inl (G.2.2.1 0, 42, .inl (fun _ => 0)))]) H := hP
  have hD : va_D A ((h0, .inr (7, [.ref q1, .ref q2, .null, .int 0, .int 0, .int 0, .int 0, .int 0, .int 0])) :: [(q1, .inl (G.2.2.1 0, 32, .inl (fun _ => 0))), (q2, .inl (G.2.2.1 0, 7, .inl (upd (upd (upd (upd (upd (upd (upd (fun _ => 0) 0 0) 1 1) 2 1) 3 1) 4 1) 5 1) 6 1))), (q3, .inl (G.2.2.1 0, 42, .inl (fun _ => 0)))]) := hD
  refine W.widen (k := 3) (n := 81) (by omega) (by omega) ?_
  refine gx_putF (pc := 54) (ci := 7) (v := .ref q3) (ty := (.array .int)) hx hb hV gl_X5 tyX5 tyX5_ok nmX5 hown hP hD hS rfl 2 (by decide) rfl rfl hmn (by decide +kernel) rfl rfl (Nat.le_of_ble_eq_true rfl) (gv_89 hV) dX5_init_54 (fun H locs hP hD hS => ?_)
  have hP : va_P G.1 vwCl ((h0, .inr (7, [.ref q1, .ref q2, .ref q3, .int 0, .int 0, .int 0, .int 0, .int 0, .int 0])) :: [(q1, .inl (G.2.2.1 0, 32, .inl (fun _ => 0))), (q2, .inl (G.2.2.1 0, 7, .inl (upd (upd (upd (upd (upd (upd (upd (fun _ => 0) 0 0) 1 1) 2 1) 3 1) 4 1) 5 1) 6 1))), (q3, .inl (G.2.2.1 0, 42, .inl (fun _ => 0)))]) H := hP
  have hD : va_D A ((h0, .inr (7, [.ref q1, .ref q2, .ref q3, .int 0, .int 0, .int 0, .int 0, .int 0, .int 0])) :: [(q1, .inl (G.2.2.1 0, 32, .inl (fun _ => 0))), (q2, .inl (G.2.2.1 0, 7, .inl (upd (upd (upd (upd (upd (upd (upd (fun _ => 0) 0 0) 1 1) 2 1) 3 1) 4 1) 5 1) 6 1))), (q3, .inl (G.2.2.1 0, 42, .inl (fun _ => 0)))]) := hD
  refine lv_aload_n (pc := 57) hx hb dX5_init_57 rfl (lv_at hl 0 rfl) ?_
  refine lv_iconst (pc := 58) (v := 0) hx hb dX5_init_58 (by decide) ?_
  refine gx_putN (pc := 59) (ci := 7) (v := .int 0) (ty := .int) hx hb hV gl_X5 tyX5 tyX5_ok nmX5 hown hP hD hS rfl 3 (by decide) rfl rfl (by decide +kernel) rfl rfl (Nat.le_of_ble_eq_true rfl) (gv_90 hV) dX5_init_59 (fun H locs hP hD hS => ?_)
  have hP : va_P G.1 vwCl ((h0, .inr (7, [.ref q1, .ref q2, .ref q3, .int 0, .int 0, .int 0, .int 0, .int 0, .int 0])) :: [(q1, .inl (G.2.2.1 0, 32, .inl (fun _ => 0))), (q2, .inl (G.2.2.1 0, 7, .inl (upd (upd (upd (upd (upd (upd (upd (fun _ => 0) 0 0) 1 1) 2 1) 3 1) 4 1) 5 1) 6 1))), (q3, .inl (G.2.2.1 0, 42, .inl (fun _ => 0)))]) H := hP
  have hD : va_D A ((h0, .inr (7, [.ref q1, .ref q2, .ref q3, .int 0, .int 0, .int 0, .int 0, .int 0, .int 0])) :: [(q1, .inl (G.2.2.1 0, 32, .inl (fun _ => 0))), (q2, .inl (G.2.2.1 0, 7, .inl (upd (upd (upd (upd (upd (upd (upd (fun _ => 0) 0 0) 1 1) 2 1) 3 1) 4 1) 5 1) 6 1))), (q3, .inl (G.2.2.1 0, 42, .inl (fun _ => 0)))]) := hD
  refine lv_aload_n (pc := 62) hx hb dX5_init_62 rfl (lv_at hl 0 rfl) ?_
  refine lv_iconst (pc := 63) (v := 2) hx hb dX5_init_63 (by decide) ?_
  refine gx_putN (pc := 64) (ci := 7) (v := .int 2) (ty := .int) hx hb hV gl_X5 tyX5 tyX5_ok nmX5 hown hP hD hS rfl 4 (by decide) rfl rfl (by decide +kernel) rfl rfl (Nat.le_of_ble_eq_true rfl) (gv_94 hV) dX5_init_64 (fun H locs hP hD hS => ?_)
  have hP : va_P G.1 vwCl ((h0, .inr (7, [.ref q1, .ref q2, .ref q3, .int 0, .int 2, .int 0, .int 0, .int 0, .int 0])) :: [(q1, .inl (G.2.2.1 0, 32, .inl (fun _ => 0))), (q2, .inl (G.2.2.1 0, 7, .inl (upd (upd (upd (upd (upd (upd (upd (fun _ => 0) 0 0) 1 1) 2 1) 3 1) 4 1) 5 1) 6 1))), (q3, .inl (G.2.2.1 0, 42, .inl (fun _ => 0)))]) H := hP
  have hD : va_D A ((h0, .inr (7, [.ref q1, .ref q2, .ref q3, .int 0, .int 2, .int 0, .int 0, .int 0, .int 0])) :: [(q1, .inl (G.2.2.1 0, 32, .inl (fun _ => 0))), (q2, .inl (G.2.2.1 0, 7, .inl (upd (upd (upd (upd (upd (upd (upd (fun _ => 0) 0 0) 1 1) 2 1) 3 1) 4 1) 5 1) 6 1))), (q3, .inl (G.2.2.1 0, 42, .inl (fun _ => 0)))]) := hD
  refine lv_aload_n (pc := 67) hx hb dX5_init_67 rfl (lv_at hl 0 rfl) ?_
  refine lv_iconst (pc := 68) (v := (-1)) hx hb dX5_init_68 (by decide) ?_
  refine gx_putN (pc := 69) (ci := 7) (v := .int (-1)) (ty := .int) hx hb hV gl_X5 tyX5 tyX5_ok nmX5 hown hP hD hS rfl 5 (by decide) rfl rfl (by decide +kernel) rfl rfl (Nat.le_of_ble_eq_true rfl) (gv_98 hV) dX5_init_69 (fun H locs hP hD hS => ?_)
  have hP : va_P G.1 vwCl ((h0, .inr (7, [.ref q1, .ref q2, .ref q3, .int 0, .int 2, .int (-1), .int 0, .int 0, .int 0])) :: [(q1, .inl (G.2.2.1 0, 32, .inl (fun _ => 0))), (q2, .inl (G.2.2.1 0, 7, .inl (upd (upd (upd (upd (upd (upd (upd (fun _ => 0) 0 0) 1 1) 2 1) 3 1) 4 1) 5 1) 6 1))), (q3, .inl (G.2.2.1 0, 42, .inl (fun _ => 0)))]) H := hP
  have hD : va_D A ((h0, .inr (7, [.ref q1, .ref q2, .ref q3, .int 0, .int 2, .int (-1), .int 0, .int 0, .int 0])) :: [(q1, .inl (G.2.2.1 0, 32, .inl (fun _ => 0))), (q2, .inl (G.2.2.1 0, 7, .inl (upd (upd (upd (upd (upd (upd (upd (fun _ => 0) 0 0) 1 1) 2 1) 3 1) 4 1) 5 1) 6 1))), (q3, .inl (G.2.2.1 0, 42, .inl (fun _ => 0)))]) := hD
  refine lv_aload_n (pc := 72) hx hb dX5_init_72 rfl (lv_at hl 0 rfl) ?_
  refine lv_iconst (pc := 73) (v := 0) hx hb dX5_init_73 (by decide) ?_
  refine gx_putN (pc := 74) (ci := 7) (v := .int 0) (ty := .int) hx hb hV gl_X5 tyX5 tyX5_ok nmX5 hown hP hD hS rfl 6 (by decide) rfl rfl (by decide +kernel) rfl rfl (Nat.le_of_ble_eq_true rfl) (gv_102 hV) dX5_init_74 (fun H locs hP hD hS => ?_)
  have hP : va_P G.1 vwCl ((h0, .inr (7, [.ref q1, .ref q2, .ref q3, .int 0, .int 2, .int (-1), .int 0, .int 0, .int 0])) :: [(q1, .inl (G.2.2.1 0, 32, .inl (fun _ => 0))), (q2, .inl (G.2.2.1 0, 7, .inl (upd (upd (upd (upd (upd (upd (upd (fun _ => 0) 0 0) 1 1) 2 1) 3 1) 4 1) 5 1) 6 1))), (q3, .inl (G.2.2.1 0, 42, .inl (fun _ => 0)))]) H := hP
  have hD : va_D A ((h0, .inr (7, [.ref q1, .ref q2, .ref q3, .int 0, .int 2, .int (-1), .int 0, .int 0, .int 0])) :: [(q1, .inl (G.2.2.1 0, 32, .inl (fun _ => 0))), (q2, .inl (G.2.2.1 0, 7, .inl (upd (upd (upd (upd (upd (upd (upd (fun _ => 0) 0 0) 1 1) 2 1) 3 1) 4 1) 5 1) 6 1))), (q3, .inl (G.2.2.1 0, 42, .inl (fun _ => 0)))]) := hD
  refine lv_aload_n (pc := 77) hx hb dX5_init_77 rfl (lv_at hl 0 rfl) ?_
  refine lv_iconst (pc := 78) (v := 0) hx hb dX5_init_78 (by decide) ?_
  refine gx_putN (pc := 79) (ci := 7) (v := .int 0) (ty := .int) hx hb hV gl_X5 tyX5 tyX5_ok nmX5 hown hP hD hS rfl 7 (by decide) rfl rfl (by decide +kernel) rfl rfl (Nat.le_of_ble_eq_true rfl) (gv_104 hV) dX5_init_79 (fun H locs hP hD hS => ?_)
  have hP : va_P G.1 vwCl ((h0, .inr (7, [.ref q1, .ref q2, .ref q3, .int 0, .int 2, .int (-1), .int 0, .int 0, .int 0])) :: [(q1, .inl (G.2.2.1 0, 32, .inl (fun _ => 0))), (q2, .inl (G.2.2.1 0, 7, .inl (upd (upd (upd (upd (upd (upd (upd (fun _ => 0) 0 0) 1 1) 2 1) 3 1) 4 1) 5 1) 6 1))), (q3, .inl (G.2.2.1 0, 42, .inl (fun _ => 0)))]) H := hP
  have hD : va_D A ((h0, .inr (7, [.ref q1, .ref q2, .ref q3, .int 0, .int 2, .int (-1), .int 0, .int 0, .int 0])) :: [(q1, .inl (G.2.2.1 0, 32, .inl (fun _ => 0))), (q2, .inl (G.2.2.1 0, 7, .inl (upd (upd (upd (upd (upd (upd (upd (fun _ => 0) 0 0) 1 1) 2 1) 3 1) 4 1) 5 1) 6 1))), (q3, .inl (G.2.2.1 0, 42, .inl (fun _ => 0)))]) := hD
  refine lv_aload_n (pc := 82) hx hb dX5_init_82 rfl (lv_at hl 0 rfl) ?_
  refine lv_iconst (pc := 83) (v := 0) hx hb dX5_init_83 (by decide) ?_
  refine gx_putN (pc := 84) (ci := 7) (v := .int 0) (ty := .int) hx hb hV gl_X5 tyX5 tyX5_ok nmX5 hown hP hD hS rfl 8 (by decide) rfl rfl (by decide +kernel) rfl rfl (Nat.le_of_ble_eq_true rfl) (gv_107 hV) dX5_init_84 (fun H locs hP hD hS => ?_)
  have hP : va_P G.1 vwCl ((h0, .inr (7, [.ref q1, .ref q2, .ref q3, .int 0, .int 2, .int (-1), .int 0, .int 0, .int 0])) :: [(q1, .inl (G.2.2.1 0, 32, .inl (fun _ => 0))), (q2, .inl (G.2.2.1 0, 7, .inl (upd (upd (upd (upd (upd (upd (upd (fun _ => 0) 0 0) 1 1) 2 1) 3 1) 4 1) 5 1) 6 1))), (q3, .inl (G.2.2.1 0, 42, .inl (fun _ => 0)))]) H := hP
  have hD : va_D A ((h0, .inr (7, [.ref q1, .ref q2, .ref q3, .int 0, .int 2, .int (-1), .int 0, .int 0, .int 0])) :: [(q1, .inl (G.2.2.1 0, 32, .inl (fun _ => 0))), (q2, .inl (G.2.2.1 0, 7, .inl (upd (upd (upd (upd (upd (upd (upd (fun _ => 0) 0 0) 1 1) 2 1) 3 1) 4 1) 5 1) 6 1))), (q3, .inl (G.2.2.1 0, 42, .inl (fun _ => 0)))]) := hD
  refine lv_iconst (pc := 87) (v := 0) hx hb dX5_init_87 (by decide) ?_
  refine lv_istore_n (pc := 88) (lv' := [(1, .int 0), (0, .ref h0)]) hx hb dX5_init_88 rfl hl (by decide) rfl (fun ls hl => ?_)
  obtain ⟨hP, hD⟩ := gx_swap hP hD 2 rfl (gx_ati gx_str7)
  exact i_X5_loop hx hb hr hown hlocks hV hA (fun _ _ => ⟨q1, q2, q3, rfl⟩) rfl 42 0 rfl _ H _ ls (fun k hk => absurd hk (by omega)) hl hP hD hS
set_option maxHeartbeats 1000000 in
set_option maxRecDepth 100000 in
theorem i_X0 (l : Launch) (G : gx_G) (h0 : Nat) (sz : Nat) : gx_KI l yX0_init cX0_init 1 ({ frames := 1, cells := 2, slots := 84, locals := 12 }) ([.ref h0]) G [(h0, .inr (2, [.null, .null, .int 0]))] sz (fun w => ∃ q1 q2 : Nat, w = [(h0, .inr (2, [.ref q1, .ref q2, .int 0])), (q1, .inl (G.2.2.1 2, 42, .inl (fun _ => gx_boo 0))), (q2, .inl (G.2.2.1 0, 42, .inl (fun _ => 0)))]) 2 84 := by
  refine gx_beginI (by decide) rfl (Nat.le_of_ble_eq_true rfl) ?_
  intro p e s m below meth c A hx hb hr hml hown hlocks hmn hV hP hD hA ls hl
  have hS : va_S A s.heap s.heap [] := va_S.rf
  refine lv_aload_n (pc := 0) hx hb dX0_init_0 rfl (lv_at hl 0 rfl) ?_
  refine W.objInit hx hb hown (gv_154 hV) (gv_76 hV) (gv_77 hV) rfl (by rw [hml]; exact hl.1) rfl dX0_init_1 (Nat.le_of_ble_eq_true rfl) (Nat.le_of_ble_eq_true rfl) ?_
  refine W.eq (g2 := F0 m 4 ls []) rfl ?_
  refine lv_aload_n (pc := 4) hx hb dX0_init_4 rfl (lv_at hl 0 rfl) ?_
  refine lv_bipush (pc := 5) (v := 42) hx hb dX0_init_5 (by decide) ?_
  refine gx_newa (pc := 7) (ty := .boolean) (N' := 42) (a0 := (42, .inl (fun _ => gx_boo 0))) hx hb (gx_ac2 hV) rfl hV.K hP hD hS hA 2 rfl (fun _ => by rw [gx_b0]; rfl) (by decide) (by decide) (by decide) (Nat.le_of_ble_eq_true rfl) (Nat.le_of_ble_eq_true rfl) dX0_init_7 (fun q1 H hP hD hS => ?_)
  have hP : va_P G.1 vwCl ((h0, .inr (2, [.null, .null, .int 0])) :: [(q1, .inl (G.2.2.1 2, 42, .inl (fun _ => gx_boo 0)))]) H := hP
  have hD : va_D A ((h0, .inr (2, [.null, .null, .int 0])) :: [(q1, .inl (G.2.2.1 2, 42, .inl (fun _ => gx_boo 0)))]) := hD
  refine W.widen (k := 1) (n := 42) (by omega) (by omega) ?_
  refine gx_putF (pc := 9) (ci := 2) (v := .ref q1) (ty := (.array .boolean)) hx hb hV gl_X0 tyX0 tyX0_ok nmX0 hown hP hD hS rfl 0 (by decide) rfl rfl hmn (by decide +kernel) rfl rfl (Nat.le_of_ble_eq_true rfl) (gv_155 hV) dX0_init_9 (fun H locs hP hD hS => ?_)
  have hP : va_P G.1 vwCl ((h0, .inr (2, [.ref q1, .null, .int 0])) :: [(q1, .inl (G.2.2.1 2, 42, .inl (fun _ => gx_boo 0)))]) H := hP
  have hD : va_D A ((h0, .inr (2, [.ref q1, .null, .int 0])) :: [(q1, .inl (G.2.2.1 2, 42, .inl (fun _ => gx_boo 0)))]) := hD
  refine lv_aload_n (pc := 12) hx hb dX0_init_12 rfl (lv_at hl 0 rfl) ?_
  refine lv_bipush (pc := 13) (v := 42) hx hb dX0_init_13 (by decide) ?_
  refine gx_newa (pc := 15) (ty := .int) (N' := 42) (a0 := (42, .inl (fun _ => 0))) hx hb (gx_ac0 hV) rfl hV.K hP hD hS hA 0 rfl (fun _ => by rfl) (by decide) (by decide) (by decide) (Nat.le_of_ble_eq_true rfl) (Nat.le_of_ble_eq_true rfl) dX0_init_15 (fun q2 H hP hD hS => ?_)
  have hP : va_P G.1 vwCl ((h0, .inr (2, [.ref q1, .null, .int 0])) :: [(q1, .inl (G.2.2.1 2, 42, .inl (fun _ => gx_boo 0))), (q2, .inl (G.2.2.1 0, 42, .inl (fun _ => 0)))]) H := hP
  have hD : va_D A ((h0, .inr (2, [.ref q1, .null, .int 0])) :: [(q1, .inl (G.2.2.1 2, 42, .inl (fun _ => gx_boo 0))), (q2, .inl (G.2.2.1 0, 42, .inl (fun _ => 0)))]) := hD
  refine W.widen (k := 2) (n := 84) (by omega) (by omega) ?_
  refine gx_putF (pc := 17) (ci := 2) (v := .ref q2) (ty := (.array .int)) hx hb hV gl_X0 tyX0 tyX0_ok nmX0 hown hP hD hS rfl 1 (by decide) rfl rfl hmn (by decide +kernel) rfl rfl (Nat.le_of_ble_eq_true rfl) (gv_156 hV) dX0_init_17 (fun H locs hP hD hS => ?_)
  have hP : va_P G.1 vwCl ((h0, .inr (2, [.ref q1, .ref q2, .int 0])) :: [(q1, .inl (G.2.2.1 2, 42, .inl (fun _ => gx_boo 0))), (q2, .inl (G.2.2.1 0, 42, .inl (fun _ => 0)))]) H := hP
  have hD : va_D A ((h0, .inr (2, [.ref q1, .ref q2, .int 0])) :: [(q1, .inl (G.2.2.1 2, 42, .inl (fun _ => gx_boo 0))), (q2, .inl (G.2.2.1 0, 42, .inl (fun _ => 0)))]) := hD
  refine lv_aload_n (pc := 20) hx hb dX0_init_20 rfl (lv_at hl 0 rfl) ?_
  refine lv_iconst (pc := 21) (v := 0) hx hb dX0_init_21 (by decide) ?_
  refine gx_putN (pc := 22) (ci := 2) (v := .int 0) (ty := .int) hx hb hV gl_X0 tyX0 tyX0_ok nmX0 hown hP hD hS rfl 2 (by decide) rfl rfl (by decide +kernel) rfl rfl (Nat.le_of_ble_eq_true rfl) (gv_157 hV) dX0_init_22 (fun H locs hP hD hS => ?_)
  have hP : va_P G.1 vwCl ((h0, .inr (2, [.ref q1, .ref q2, .int 0])) :: [(q1, .inl (G.2.2.1 2, 42, .inl (fun _ => gx_boo 0))), (q2, .inl (G.2.2.1 0, 42, .inl (fun _ => 0)))]) H := hP
  have hD : va_D A ((h0, .inr (2, [.ref q1, .ref q2, .int 0])) :: [(q1, .inl (G.2.2.1 2, 42, .inl (fun _ => gx_boo 0))), (q2, .inl (G.2.2.1 0, 42, .inl (fun _ => 0)))]) := hD
  exact gx_retI hx hb hr hlocks hP hD hS ⟨q1, q2, rfl⟩ dX0_init_25
set_option maxHeartbeats 1000000 in
set_option maxRecDepth 100000 in
theorem i_X1 (l : Launch) (G : gx_G) (h0 : Nat) (sz : Nat) : gx_KI l yX1_init cX1_init 1 ({ frames := 1, cells := 1, slots := 4, locals := 12 }) ([.ref h0]) G [(h0, .inr (3, [.null, .int 0, .int 0]))] sz (fun w => ∃ q1 : Nat, w = [(h0, .inr (3, [.ref q1, .int (-1), .int (-1)])), (q1, .inl (G.2.2.1 0, 4, .inl (fun _ => 0)))]) 1 4 := by
  refine gx_beginI (by decide) rfl (Nat.le_of_ble_eq_true rfl) ?_
  intro p e s m below meth c A hx hb hr hml hown hlocks hmn hV hP hD hA ls hl
  have hS : va_S A s.heap s.heap [] := va_S.rf
  refine lv_aload_n (pc := 0) hx hb dX1_init_0 rfl (lv_at hl 0 rfl) ?_
  refine W.objInit hx hb hown (gv_171 hV) (gv_76 hV) (gv_77 hV) rfl (by rw [hml]; exact hl.1) rfl dX1_init_1 (Nat.le_of_ble_eq_true rfl) (Nat.le_of_ble_eq_true rfl) ?_
  refine W.eq (g2 := F0 m 4 ls []) rfl ?_
  refine lv_aload_n (pc := 4) hx hb dX1_init_4 rfl (lv_at hl 0 rfl) ?_
  refine lv_iconst (pc := 5) (v := 4) hx hb dX1_init_5 (by decide) ?_
  refine gx_newa (pc := 6) (ty := .int) (N' := 4) (a0 := (4, .inl (fun _ => 0))) hx hb (gx_ac0 hV) rfl hV.K hP hD hS hA 0 rfl (fun _ => by rfl) (by decide) (by decide) (by decide) (Nat.le_of_ble_eq_true rfl) (Nat.le_of_ble_eq_true rfl) dX1_init_6 (fun q1 H hP hD hS => ?_)
  have hP : va_P G.1 vwCl ((h0, .inr (3, [.null, .int 0, .int 0])) :: [(q1, .inl (G.2.2.1 0, 4, .inl (fun _ => 0)))]) H := hP
  have hD : va_D A ((h0, .inr (3, [.null, .int 0, .int 0])) :: [(q1, .inl (G.2.2.1 0, 4, .inl (fun _ => 0)))]) := hD
  refine W.widen (k := 1) (n := 4) (by omega) (by omega) ?_
  refine gx_putF (pc := 8) (ci := 3) (v := .ref q1) (ty := (.array .int)) hx hb hV gl_X1 tyX1 tyX1_ok nmX1 hown hP hD hS rfl 0 (by decide) rfl rfl hmn (by decide +kernel) rfl rfl (Nat.le_of_ble_eq_true rfl) (gv_172 hV) dX1_init_8 (fun H locs hP hD hS => ?_)
  have hP : va_P G.1 vwCl ((h0, .inr (3, [.ref q1, .int 0, .int 0])) :: [(q1, .inl (G.2.2.1 0, 4, .inl (fun _ => 0)))]) H := hP
  have hD : va_D A ((h0, .inr (3, [.ref q1, .int 0, .int 0])) :: [(q1, .inl (G.2.2.1 0, 4, .inl (fun _ => 0)))]) := hD
  refine lv_aload_n (pc := 11) hx hb dX1_init_11 rfl (lv_at hl 0 rfl) ?_
  refine lv_iconst (pc := 12) (v := (-1)) hx hb dX1_init_12 (by decide) ?_
  refine gx_putN (pc := 13) (ci := 3) (v := .int (-1)) (ty := .int) hx hb hV gl_X1 tyX1 tyX1_ok nmX1 hown hP hD hS rfl 1 (by decide) rfl rfl (by decide +kernel) rfl rfl (Nat.le_of_ble_eq_true rfl) (gv_173 hV) dX1_init_13 (fun H locs hP hD hS => ?_)
  have hP : va_P G.1 vwCl ((h0, .inr (3, [.ref q1, .int (-1), .int 0])) :: [(q1, .inl (G.2.2.1 0, 4, .inl (fun _ => 0)))]) H := hP
  have hD : va_D A ((h0, .inr (3, [.ref q1, .int (-1), .int 0])) :: [(q1, .inl (G.2.2.1 0, 4, .inl (fun _ => 0)))]) := hD
  refine lv_aload_n (pc := 16) hx hb dX1_init_16 rfl (lv_at hl 0 rfl) ?_
  refine lv_iconst (pc := 17) (v := (-1)) hx hb dX1_init_17 (by decide) ?_
  refine gx_putN (pc := 18) (ci := 3) (v := .int (-1)) (ty := .int) hx hb hV gl_X1 tyX1 tyX1_ok nmX1 hown hP hD hS rfl 2 (by decide) rfl rfl (by decide +kernel) rfl rfl (Nat.le_of_ble_eq_true rfl) (gv_175 hV) dX1_init_18 (fun H locs hP hD hS => ?_)
  have hP : va_P G.1 vwCl ((h0, .inr (3, [.ref q1, .int (-1), .int (-1)])) :: [(q1, .inl (G.2.2.1 0, 4, .inl (fun _ => 0)))]) H := hP
  have hD : va_D A ((h0, .inr (3, [.ref q1, .int (-1), .int (-1)])) :: [(q1, .inl (G.2.2.1 0, 4, .inl (fun _ => 0)))]) := hD
  exact gx_retI hx hb hr hlocks hP hD hS ⟨q1, rfl⟩ dX1_init_21
set_option maxHeartbeats 1000000 in
set_option maxRecDepth 100000 in
theorem i_X3 (l : Launch) (G : gx_G) (h0 : Nat) (a1 a2 : Nat) (sz : Nat) : gx_KI l yX3_init cX3_init 3 ({ frames := 1, cells := 0, slots := 0, locals := 12 }) ([.ref h0, .ref a1, .ref a2]) G [(h0, .inr (5, [.null, .null, .int 0, .int 0]))] sz (fun w => w = [(h0, .inr (5, [.ref a1, .ref a2, .int 0, .int 0]))]) 0 0 := by
  refine gx_beginI (by decide) rfl (Nat.le_of_ble_eq_true rfl) ?_
  intro p e s m below meth c A hx hb hr hml hown hlocks hmn hV hP hD hA ls hl
  have hS : va_S A s.heap s.heap [] := va_S.rf
  refine lv_aload_n (pc := 0) hx hb dX3_init_0 rfl (lv_at hl 0 rfl) ?_
  refine W.objInit hx hb hown (gv_189 hV) (gv_76 hV) (gv_77 hV) rfl (by rw [hml]; exact hl.1) rfl dX3_init_1 (Nat.le_of_ble_eq_true rfl) (Nat.le_of_ble_eq_true rfl) ?_
  refine W.eq (g2 := F0 m 4 ls []) rfl ?_
  refine lv_aload_n (pc := 4) hx hb dX3_init_4 rfl (lv_at hl 0 rfl) ?_
  refine lv_iconst (pc := 5) (v := 0) hx hb dX3_init_5 (by decide) ?_
  refine gx_putN (pc := 6) (ci := 5) (v := .int 0) (ty := .int) hx hb hV gl_X3 tyX3 tyX3_ok nmX3 hown hP hD hS rfl 2 (by decide) rfl rfl (by decide +kernel) rfl rfl (Nat.le_of_ble_eq_true rfl) (gv_192 hV) dX3_init_6 (fun H locs hP hD hS => ?_)
  have hP : va_P G.1 vwCl ((h0, .inr (5, [.null, .null, .int 0, .int 0])) :: []) H := hP
  have hD : va_D A ((h0, .inr (5, [.null, .null, .int 0, .int 0])) :: []) := hD
  refine lv_aload_n (pc := 9) hx hb dX3_init_9 rfl (lv_at hl 0 rfl) ?_
  refine lv_iconst (pc := 10) (v := 0) hx hb dX3_init_10 (by decide) ?_
  refine gx_putN (pc := 11) (ci := 5) (v := .int 0) (ty := .int) hx hb hV gl_X3 tyX3 tyX3_ok nmX3 hown hP hD hS rfl 3 (by decide) rfl rfl (by decide +kernel) rfl rfl (Nat.le_of_ble_eq_true rfl) (gv_194 hV) dX3_init_11 (fun H locs hP hD hS => ?_)
  have hP : va_P G.1 vwCl ((h0, .inr (5, [.null, .null, .int 0, .int 0])) :: []) H := hP
  have hD : va_D A ((h0, .inr (5, [.null, .null, .int 0, .int 0])) :: []) := hD
  refine lv_aload_n (pc := 14) hx hb dX3_init_14 rfl (lv_at hl 0 rfl) ?_
  refine lv_aload_n (pc := 15) hx hb dX3_init_15 rfl (lv_at hl 1 rfl) ?_
  refine gx_putF (pc := 16) (ci := 5) (v := .ref a1) (ty := (.object "GluedWall$Footing")) hx hb hV gl_X3 tyX3 tyX3_ok nmX3 hown hP hD hS rfl 0 (by decide) rfl rfl hmn (by decide +kernel) rfl rfl (Nat.le_of_ble_eq_true rfl) (gv_190 hV) dX3_init_16 (fun H locs hP hD hS => ?_)
  have hP : va_P G.1 vwCl ((h0, .inr (5, [.ref a1, .null, .int 0, .int 0])) :: []) H := hP
  have hD : va_D A ((h0, .inr (5, [.ref a1, .null, .int 0, .int 0])) :: []) := hD
  refine lv_aload_n (pc := 19) hx hb dX3_init_19 rfl (lv_at hl 0 rfl) ?_
  refine lv_aload_n (pc := 20) hx hb dX3_init_20 rfl (lv_at hl 2 rfl) ?_
  refine gx_putF (pc := 21) (ci := 5) (v := .ref a2) (ty := (.object "GluedWall$Growth")) hx hb hV gl_X3 tyX3 tyX3_ok nmX3 hown hP hD hS rfl 1 (by decide) rfl rfl hmn (by decide +kernel) rfl rfl (Nat.le_of_ble_eq_true rfl) (gv_191 hV) dX3_init_21 (fun H locs hP hD hS => ?_)
  have hP : va_P G.1 vwCl ((h0, .inr (5, [.ref a1, .ref a2, .int 0, .int 0])) :: []) H := hP
  have hD : va_D A ((h0, .inr (5, [.ref a1, .ref a2, .int 0, .int 0])) :: []) := hD
  exact gx_retI hx hb hr hlocks hP hD hS rfl dX3_init_24
set_option maxHeartbeats 1000000 in
set_option maxRecDepth 100000 in
theorem i_X4 (l : Launch) (G : gx_G) (h0 : Nat) (sz : Nat) : gx_KI l yX4_init cX4_init 1 ({ frames := 1, cells := 3, slots := 210, locals := 12 }) ([.ref h0]) G [(h0, .inr (6, [.null, .null, .null, .int 0, .int 0, .int 0]))] sz (fun w => ∃ q1 q2 q3 : Nat, w = [(h0, .inr (6, [.ref q1, .ref q2, .ref q3, .int 0, .int 0, .int 0])), (q1, .inl (G.2.2.1 1, 60, .inl (fun _ => gx_chr 0))), (q2, .inl (G.2.2.1 1, 30, .inl (fun _ => gx_chr 0))), (q3, .inl (G.2.2.1 0, 120, .inl (fun _ => 0)))]) 3 210 := by
  refine gx_beginI (by decide) rfl (Nat.le_of_ble_eq_true rfl) ?_
  intro p e s m below meth c A hx hb hr hml hown hlocks hmn hV hP hD hA ls hl
  have hS : va_S A s.heap s.heap [] := va_S.rf
  refine lv_aload_n (pc := 0) hx hb dX4_init_0 rfl (lv_at hl 0 rfl) ?_
  refine W.objInit hx hb hown (gv_210 hV) (gv_76 hV) (gv_77 hV) rfl (by rw [hml]; exact hl.1) rfl dX4_init_1 (Nat.le_of_ble_eq_true rfl) (Nat.le_of_ble_eq_true rfl) ?_
  refine W.eq (g2 := F0 m 4 ls []) rfl ?_
  refine lv_aload_n (pc := 4) hx hb dX4_init_4 rfl (lv_at hl 0 rfl) ?_
  refine lv_bipush (pc := 5) (v := 60) hx hb dX4_init_5 (by decide) ?_
  refine gx_newa (pc := 7) (ty := .char) (N' := 60) (a0 := (60, .inl (fun _ => gx_chr 0))) hx hb (gx_ac1 hV) rfl hV.K hP hD hS hA 1 rfl (fun _ => by rw [gx_c0]; rfl) (by decide) (by decide) (by decide) (Nat.le_of_ble_eq_true rfl) (Nat.le_of_ble_eq_true rfl) dX4_init_7 (fun q1 H hP hD hS => ?_)
  have hP : va_P G.1 vwCl ((h0, .inr (6, [.null, .null, .null, .int 0, .int 0, .int 0])) :: [(q1, .inl (G.2.2.1 1, 60, .inl (fun _ => gx_chr 0)))]) H := hP
  have hD : va_D A ((h0, .inr (6, [.null, .null, .null, .int 0, .int 0, .int 0])) :: [(q1, .inl (G.2.2.1 1, 60, .inl (fun _ => gx_chr 0)))]) := hD
  refine W.widen (k := 1) (n := 60) (by omega) (by omega) ?_
  refine gx_putF (pc := 9) (ci := 6) (v := .ref q1) (ty := (.array .char)) hx hb hV gl_X4 tyX4 tyX4_ok nmX4 hown hP hD hS rfl 0 (by decide) rfl rfl hmn (by decide +kernel) rfl rfl (Nat.le_of_ble_eq_true rfl) (gv_211 hV) dX4_init_9 (fun H locs hP hD hS => ?_)
  have hP : va_P G.1 vwCl ((h0, .inr (6, [.ref q1, .null, .null, .int 0, .int 0, .int 0])) :: [(q1, .inl (G.2.2.1 1, 60, .inl (fun _ => gx_chr 0)))]) H := hP
  have hD : va_D A ((h0, .inr (6, [.ref q1, .null, .null, .int 0, .int 0, .int 0])) :: [(q1, .inl (G.2.2.1 1, 60, .inl (fun _ => gx_chr 0)))]) := hD
  refine lv_aload_n (pc := 12) hx hb dX4_init_12 rfl (lv_at hl 0 rfl) ?_
  refine lv_bipush (pc := 13) (v := 30) hx hb dX4_init_13 (by decide) ?_
  refine gx_newa (pc := 15) (ty := .char) (N' := 30) (a0 := (30, .inl (fun _ => gx_chr 0))) hx hb (gx_ac1 hV) rfl hV.K hP hD hS hA 1 rfl (fun _ => by rw [gx_c0]; rfl) (by decide) (by decide) (by decide) (Nat.le_of_ble_eq_true rfl) (Nat.le_of_ble_eq_true rfl) dX4_init_15 (fun q2 H hP hD hS => ?_)
  have hP : va_P G.1 vwCl ((h0, .inr (6, [.ref q1, .null, .null, .int 0, .int 0, .int 0])) :: [(q1, .inl (G.2.2.1 1, 60, .inl (fun _ => gx_chr 0))), (q2, .inl (G.2.2.1 1, 30, .inl (fun _ => gx_chr 0)))]) H := hP
  have hD : va_D A ((h0, .inr (6, [.ref q1, .null, .null, .int 0, .int 0, .int 0])) :: [(q1, .inl (G.2.2.1 1, 60, .inl (fun _ => gx_chr 0))), (q2, .inl (G.2.2.1 1, 30, .inl (fun _ => gx_chr 0)))]) := hD
  refine W.widen (k := 2) (n := 90) (by omega) (by omega) ?_
  refine gx_putF (pc := 17) (ci := 6) (v := .ref q2) (ty := (.array .char)) hx hb hV gl_X4 tyX4 tyX4_ok nmX4 hown hP hD hS rfl 1 (by decide) rfl rfl hmn (by decide +kernel) rfl rfl (Nat.le_of_ble_eq_true rfl) (gv_212 hV) dX4_init_17 (fun H locs hP hD hS => ?_)
  have hP : va_P G.1 vwCl ((h0, .inr (6, [.ref q1, .ref q2, .null, .int 0, .int 0, .int 0])) :: [(q1, .inl (G.2.2.1 1, 60, .inl (fun _ => gx_chr 0))), (q2, .inl (G.2.2.1 1, 30, .inl (fun _ => gx_chr 0)))]) H := hP
  have hD : va_D A ((h0, .inr (6, [.ref q1, .ref q2, .null, .int 0, .int 0, .int 0])) :: [(q1, .inl (G.2.2.1 1, 60, .inl (fun _ => gx_chr 0))), (q2, .inl (G.2.2.1 1, 30, .inl (fun _ => gx_chr 0)))]) := hD
  refine lv_aload_n (pc := 20) hx hb dX4_init_20 rfl (lv_at hl 0 rfl) ?_
  refine lv_bipush (pc := 21) (v := 120) hx hb dX4_init_21 (by decide) ?_
  refine gx_newa (pc := 23) (ty := .int) (N' := 120) (a0 := (120, .inl (fun _ => 0))) hx hb (gx_ac0 hV) rfl hV.K hP hD hS hA 0 rfl (fun _ => by rfl) (by decide) (by decide) (by decide) (Nat.le_of_ble_eq_true rfl) (Nat.le_of_ble_eq_true rfl) dX4_init_23 (fun q3 H hP hD hS => ?_)
  have hP : va_P G.1 vwCl ((h0, .inr (6, [.ref q1, .ref q2, .null, .int 0, .int 0, .int 0])) :: [(q1, .inl (G.2.2.1 1, 60, .inl (fun _ => gx_chr 0))), (q2, .inl (G.2.2.1 1, 30, .inl (fun _ => gx_chr 0))), (q3, .inl (G.2.2.1 0, 120, .inl (fun _ => 0)))]) H := hP
  have hD : va_D A ((h0, .inr (6, [.ref q1, .ref q2, .null, .int 0, .int 0, .int 0])) :: [(q1, .inl (G.2.2.1 1, 60, .inl (fun _ => gx_chr 0))), (q2, .inl (G.2.2.1 1, 30, .inl (fun _ => gx_chr 0))), (q3, .inl (G.2.2.1 0, 120, .inl (fun _ => 0)))]) := hD
  refine W.widen (k := 3) (n := 210) (by omega) (by omega) ?_
  refine gx_putF (pc := 25) (ci := 6) (v := .ref q3) (ty := (.array .int)) hx hb hV gl_X4 tyX4 tyX4_ok nmX4 hown hP hD hS rfl 2 (by decide) rfl rfl hmn (by decide +kernel) rfl rfl (Nat.le_of_ble_eq_true rfl) (gv_213 hV) dX4_init_25 (fun H locs hP hD hS => ?_)
  have hP : va_P G.1 vwCl ((h0, .inr (6, [.ref q1, .ref q2, .ref q3, .int 0, .int 0, .int 0])) :: [(q1, .inl (G.2.2.1 1, 60, .inl (fun _ => gx_chr 0))), (q2, .inl (G.2.2.1 1, 30, .inl (fun _ => gx_chr 0))), (q3, .inl (G.2.2.1 0, 120, .inl (fun _ => 0)))]) H := hP
  have hD : va_D A ((h0, .inr (6, [.ref q1, .ref q2, .ref q3, .int 0, .int 0, .int 0])) :: [(q1, .inl (G.2.2.1 1, 60, .inl (fun _ => gx_chr 0))), (q2, .inl (G.2.2.1 1, 30, .inl (fun _ => gx_chr 0))), (q3, .inl (G.2.2.1 0, 120, .inl (fun _ => 0)))]) := hD
  refine lv_aload_n (pc := 28) hx hb dX4_init_28 rfl (lv_at hl 0 rfl) ?_
  refine lv_iconst (pc := 29) (v := 0) hx hb dX4_init_29 (by decide) ?_
  refine gx_putN (pc := 30) (ci := 6) (v := .int 0) (ty := .int) hx hb hV gl_X4 tyX4 tyX4_ok nmX4 hown hP hD hS rfl 3 (by decide) rfl rfl (by decide +kernel) rfl rfl (Nat.le_of_ble_eq_true rfl) (gv_214 hV) dX4_init_30 (fun H locs hP hD hS => ?_)
  have hP : va_P G.1 vwCl ((h0, .inr (6, [.ref q1, .ref q2, .ref q3, .int 0, .int 0, .int 0])) :: [(q1, .inl (G.2.2.1 1, 60, .inl (fun _ => gx_chr 0))), (q2, .inl (G.2.2.1 1, 30, .inl (fun _ => gx_chr 0))), (q3, .inl (G.2.2.1 0, 120, .inl (fun _ => 0)))]) H := hP
  have hD : va_D A ((h0, .inr (6, [.ref q1, .ref q2, .ref q3, .int 0, .int 0, .int 0])) :: [(q1, .inl (G.2.2.1 1, 60, .inl (fun _ => gx_chr 0))), (q2, .inl (G.2.2.1 1, 30, .inl (fun _ => gx_chr 0))), (q3, .inl (G.2.2.1 0, 120, .inl (fun _ => 0)))]) := hD
  refine lv_aload_n (pc := 33) hx hb dX4_init_33 rfl (lv_at hl 0 rfl) ?_
  refine lv_iconst (pc := 34) (v := 0) hx hb dX4_init_34 (by decide) ?_
  refine gx_putN (pc := 35) (ci := 6) (v := .int 0) (ty := .int) hx hb hV gl_X4 tyX4 tyX4_ok nmX4 hown hP hD hS rfl 4 (by decide) rfl rfl (by decide +kernel) rfl rfl (Nat.le_of_ble_eq_true rfl) (gv_215 hV) dX4_init_35 (fun H locs hP hD hS => ?_)
  have hP : va_P G.1 vwCl ((h0, .inr (6, [.ref q1, .ref q2, .ref q3, .int 0, .int 0, .int 0])) :: [(q1, .inl (G.2.2.1 1, 60, .inl (fun _ => gx_chr 0))), (q2, .inl (G.2.2.1 1, 30, .inl (fun _ => gx_chr 0))), (q3, .inl (G.2.2.1 0, 120, .inl (fun _ => 0)))]) H := hP
  have hD : va_D A ((h0, .inr (6, [.ref q1, .ref q2, .ref q3, .int 0, .int 0, .int 0])) :: [(q1, .inl (G.2.2.1 1, 60, .inl (fun _ => gx_chr 0))), (q2, .inl (G.2.2.1 1, 30, .inl (fun _ => gx_chr 0))), (q3, .inl (G.2.2.1 0, 120, .inl (fun _ => 0)))]) := hD
  refine lv_aload_n (pc := 38) hx hb dX4_init_38 rfl (lv_at hl 0 rfl) ?_
  refine lv_iconst (pc := 39) (v := 0) hx hb dX4_init_39 (by decide) ?_
  refine gx_putN (pc := 40) (ci := 6) (v := .int 0) (ty := .int) hx hb hV gl_X4 tyX4 tyX4_ok nmX4 hown hP hD hS rfl 5 (by decide) rfl rfl (by decide +kernel) rfl rfl (Nat.le_of_ble_eq_true rfl) (gv_217 hV) dX4_init_40 (fun H locs hP hD hS => ?_)
  have hP : va_P G.1 vwCl ((h0, .inr (6, [.ref q1, .ref q2, .ref q3, .int 0, .int 0, .int 0])) :: [(q1, .inl (G.2.2.1 1, 60, .inl (fun _ => gx_chr 0))), (q2, .inl (G.2.2.1 1, 30, .inl (fun _ => gx_chr 0))), (q3, .inl (G.2.2.1 0, 120, .inl (fun _ => 0)))]) H := hP
  have hD : va_D A ((h0, .inr (6, [.ref q1, .ref q2, .ref q3, .int 0, .int 0, .int 0])) :: [(q1, .inl (G.2.2.1 1, 60, .inl (fun _ => gx_chr 0))), (q2, .inl (G.2.2.1 1, 30, .inl (fun _ => gx_chr 0))), (q3, .inl (G.2.2.1 0, 120, .inl (fun _ => 0)))]) := hD
  exact gx_retI hx hb hr hlocks hP hD hS ⟨q1, q2, q3, rfl⟩ dX4_init_43
section GXL2
variable {p : Program} {l : Launch} {e : Env} {s : State} {m : MethodId} {args : Array Value} {below : List Frame} {meth : Method} {c : Code} {H : Heap} {locs : List Loc} {ls : Array Slot} {cells slots : Nat} {Q : State → Prop} {G : gx_G} {A : Nat → Prop} {h0 qa j : Nat} {W1 : va_W} {f : Nat → Option Nat}
set_option maxHeartbeats 1000000 in
set_option maxRecDepth 100000 in
theorem i_X2_it (hx : p.tables.exec = Jvm.exec) (hb : c.code = cX2_init) (hml : c.maxLocals = 2) (hown : s.vm.findClass RX2 = some m.cls) (hV : gx_V0 G s) (hA : ∀ q : Nat, s.heap.size ≤ q → A q) (hj : j < 8) (hc : cells + 4 ≤ 33) (hs : slots + 90 ≤ 728) (hl : lv_has ls 2 [(1, .int (Int32.ofNat j)), (0, .ref h0)]) (hP : va_P G.1 vwCl ((h0, .inr (4, [.ref qa, .int 0, .int 0])) :: (qa, .inl (G.2.2.1 3, 8, .inr (.inr (.inr (.inr (f)))))) :: W1) H) (hD : va_D A ((h0, .inr (4, [.ref qa, .int 0, .int 0])) :: (qa, .inl (G.2.2.1 3, 8, .inr (.inr (.inr (.inr (f)))))) :: W1)) (hS : va_S A s.heap H locs)
    (kk : ∀ (b x y z : Nat) (H : Heap) (locs : List Loc) (ls : Array Slot), lv_has ls 2 [(1, .int (Int32.ofNat (j + 1))), (0, .ref h0)] → va_P G.1 vwCl ((h0, .inr (4, [.ref qa, .int 0, .int 0])) :: (qa, .inl (G.2.2.1 3, 8, .inr (.inr (.inr (.inr (va_up f j (some b))))))) :: (W1 ++ gx_wl G b x y z)) H → va_D A ((h0, .inr (4, [.ref qa, .int 0, .int 0])) :: (qa, .inl (G.2.2.1 3, 8, .inr (.inr (.inr (.inr (va_up f j (some b))))))) :: (W1 ++ gx_wl G b x y z)) → va_S A s.heap H locs → W p l e ({ frames := 2, cells := 33, slots := 728, locals := 40 }) s m args below meth c H locs (cells + 4) (slots + 90) Q (F0 m 25 ls [])) : W p l e ({ frames := 2, cells := 33, slots := 728, locals := 40 }) s m args below meth c H locs cells slots Q (F0 m 25 ls []) := by
  obtain ⟨n1, n2, -, n4, -⟩ := gx_nat42 j (by omega)
  refine lv_iload_n (pc := 25) hx hb dX2_init_25 rfl (lv_at hl 0 rfl) ?_
  refine lv_bipush (pc := 26) (v := 8) hx hb dX2_init_26 (by decide) ?_
  refine lv_icmp_ge (pc := 28) (tgt := 50) hx hb dX2_init_28 (by decide) (fun hc => absurd ((gx_lt8 j (by omega)).mp hc) (by omega)) (fun _ => ?_)
  refine lv_aload_n (pc := 31) hx hb dX2_init_31 rfl (lv_at hl 1 rfl) ?_
  refine gx_getI (pc := 32) (ci := 4) (v := .ref qa) hx hb hV gl_X2 hown hP rfl 0 (by decide) rfl rfl (gv_138 hV) dX2_init_32 ?_
  refine lv_iload_n (pc := 35) hx hb dX2_init_35 rfl (lv_at hl 0 rfl) ?_
  refine va_new (pc := 36) (args := _) (Ts := u_ws RX5 TX5 9) (ci := 7) (fs := [.null, .null, .null, .int 0, .int 0, .int 0, .int 0, .int 0, .int 0]) hx hb (fun w h => hV.w (gl_X5 w h).1 (gl_X5 w h).2) (fun _ h => h) tyX5 tyX5_ok hown (gv_135 hV) (gv_79 hV) (gv_50 hV) hV.K hP hD hS hA rfl hfs_X5 (show cells + 1 ≤ 33 by omega) (show slots + 9 ≤ 728 by omega) dX2_init_36 (fun b H hP hD hS => ?_)
  have hP : va_P G.1 vwCl (((h0, .inr (4, [.ref qa, .int 0, .int 0])) :: (qa, .inl (G.2.2.1 3, 8, .inr (.inr (.inr (.inr (f)))))) :: W1) ++ [(b, .inr (7, [.null, .null, .null, .int 0, .int 0, .int 0, .int 0, .int 0, .int 0]))]) H := hP
  refine lv_dup (pc := 39) hx hb dX2_init_39 rfl ?_
  refine gx_runI (pc := 40) (wr := (h0, .inr (4, [.ref qa, .int 0, .int 0])) :: (qa, .inl (G.2.2.1 3, 8, .inr (.inr (.inr (.inr (f)))))) :: W1) (wc := [(b, .inr (7, [.null, .null, .null, .int 0, .int 0, .int 0, .int 0, .int 0, .int 0]))]) (va_runI (As := []) (rest := [.ref b, .int (Int32.ofNat j), .ref qa]) ⟨hx, hb, hml, hown, (fun _ h => nomatch h : ∀ w ∈ ([] : List Cond), w.before _ s = true)⟩ (i_X5 l G b  H.size) ⟨gx_callB (n := 0) rfl rfl (gv_137 hV) (gv_50 hV) (gv_82 hV) (by decide +kernel) ⟨Nat.le_of_ble_eq_true rfl, Nat.le_of_ble_eq_true rfl⟩, rfl, (gv_81 hV)⟩ (gx_preI hV hP hD) rfl rfl hl.1 rfl (lv_room (Nat.le_of_ble_eq_true rfl)) dX2_init_40 ⟨show cells + 1 + 3 ≤ 33 by omega, show slots + 9 + 81 ≤ 728 by omega⟩) hP hD hS hA (fun w H locs hw hP hD hS => ?_)
  obtain ⟨x, y, z, rfl⟩ := hw
  have hP : va_P G.1 vwCl ((h0, .inr (4, [.ref qa, .int 0, .int 0])) :: (qa, .inl (G.2.2.1 3, 8, .inr (.inr (.inr (.inr (f)))))) :: (W1 ++ gx_wl G b x y z)) H := hP
  have hD : va_D A ((h0, .inr (4, [.ref qa, .int 0, .int 0])) :: (qa, .inl (G.2.2.1 3, 8, .inr (.inr (.inr (.inr (f)))))) :: (W1 ++ gx_wl G b x y z)) := hD
  refine va_astq (pc := 43) hx hb hV.K hP hD hS 1 3 (W1.length + 2) 7 (r := (RX5, TX5, 9)) rfl rfl gx_at2 rfl (fun q => ?_) dX2_init_43 (fun H locs hP hD hS => ?_)
  · rw [n1] at q
    rcases q with q | q
    · exact n4 q
    · omega
  rw [n1] at hP hD
  refine lv_iinc (pc := 44) (v := Int32.ofNat (j + 1)) (lv' := [(1, .int (Int32.ofNat (j + 1))), (0, .ref h0)]) hx hb dX2_init_44 hl (k := 0) rfl n2 (by decide) rfl (fun ls hl => ?_)
  refine lv_goto (pc := 47) (tgt := 25) hx hb dX2_init_47 (by decide) ?_
  exact kk b x y z H locs ls hl hP hD hS
end GXL2
set_option maxHeartbeats 1000000 in
set_option maxRecDepth 100000 in
theorem i_X2 (l : Launch) (G : gx_G) (h0 : Nat) (sz : Nat) : gx_KI l yX2_init cX2_init 2 ({ frames := 2, cells := 33, slots := 728, locals := 40 }) ([.ref h0]) G [(h0, .inr (4, [.null, .int 0, .int 0]))] sz (fun w => ∃ (qa : Nat) (L : List Nat), w = gx_hl G h0 qa L) 33 728 := by
  refine gx_beginI (by decide) rfl (Nat.le_of_ble_eq_true rfl) ?_
  intro p e s m below meth c A hx hb hr hml hown hlocks hmn hV hP hD hA ls hl
  have hS : va_S A s.heap s.heap [] := va_S.rf
  refine lv_aload_n (pc := 0) hx hb dX2_init_0 rfl (lv_at hl 0 rfl) ?_
  refine W.objInit hx hb hown (gv_134 hV) (gv_76 hV) (gv_77 hV) rfl (by rw [hml]; exact hl.1) rfl dX2_init_1 (Nat.le_of_ble_eq_true rfl) (Nat.le_of_ble_eq_true rfl) ?_
  refine W.eq (g2 := F0 m 4 ls []) rfl ?_
  refine lv_aload_n (pc := 4) hx hb dX2_init_4 rfl (lv_at hl 0 rfl) ?_
  refine lv_bipush (pc := 5) (v := 8) hx hb dX2_init_5 (by decide) ?_
  refine gx_newq (pc := 7) (N' := 8) hx hb hown (gv_135 hV) hV.2.2 hV.K hP hD hS hA 3 rfl (by decide) (by decide) (by decide) (Nat.le_of_ble_eq_true rfl) (Nat.le_of_ble_eq_true rfl) dX2_init_7 (fun qa H hP hD hS => ?_)
  have hP : va_P G.1 vwCl ((h0, .inr (4, [.null, .int 0, .int 0])) :: [(qa, .inl (G.2.2.1 3, 8, .inr (.inr (.inr (.inr (fun _ => none))))))]) H := hP
  have hD : va_D A ((h0, .inr (4, [.null, .int 0, .int 0])) :: [(qa, .inl (G.2.2.1 3, 8, .inr (.inr (.inr (.inr (fun _ => none))))))]) := hD
  refine W.widen (k := 1) (n := 8) (by omega) (by omega) ?_
  refine gx_putF (pc := 10) (ci := 4) (v := .ref qa) (ty := (.array (.object "GluedWall$Wall"))) hx hb hV gl_X2 tyX2 tyX2_ok nmX2 hown hP hD hS rfl 0 (by decide) rfl rfl hmn (by decide +kernel) rfl rfl (Nat.le_of_ble_eq_true rfl) (gv_138 hV) dX2_init_10 (fun H locs hP hD hS => ?_)
  have hP : va_P G.1 vwCl ((h0, .inr (4, [.ref qa, .int 0, .int 0])) :: [(qa, .inl (G.2.2.1 3, 8, .inr (.inr (.inr (.inr (fun _ => none))))))]) H := hP
  have hD : va_D A ((h0, .inr (4, [.ref qa, .int 0, .int 0])) :: [(qa, .inl (G.2.2.1 3, 8, .inr (.inr (.inr (.inr (fun _ => none))))))]) := hD
  refine lv_aload_n (pc := 13) hx hb dX2_init_13 rfl (lv_at hl 0 rfl) ?_
  refine lv_iconst (pc := 14) (v := 0) hx hb dX2_init_14 (by decide) ?_
  refine gx_putN (pc := 15) (ci := 4) (v := .int 0) (ty := .int) hx hb hV gl_X2 tyX2 tyX2_ok nmX2 hown hP hD hS rfl 1 (by decide) rfl rfl (by decide +kernel) rfl rfl (Nat.le_of_ble_eq_true rfl) (gv_139 hV) dX2_init_15 (fun H locs hP hD hS => ?_)
  have hP : va_P G.1 vwCl ((h0, .inr (4, [.ref qa, .int 0, .int 0])) :: [(qa, .inl (G.2.2.1 3, 8, .inr (.inr (.inr (.inr (fun _ => none))))))]) H := hP
  have hD : va_D A ((h0, .inr (4, [.ref qa, .int 0, .int 0])) :: [(qa, .inl (G.2.2.1 3, 8, .inr (.inr (.inr (.inr (fun _ => none))))))]) := hD
  refine lv_aload_n (pc := 18) hx hb dX2_init_18 rfl (lv_at hl 0 rfl) ?_
  refine lv_iconst (pc := 19) (v := 0) hx hb dX2_init_19 (by decide) ?_
  refine gx_putN (pc := 20) (ci := 4) (v := .int 0) (ty := .int) hx hb hV gl_X2 tyX2 tyX2_ok nmX2 hown hP hD hS rfl 2 (by decide) rfl rfl (by decide +kernel) rfl rfl (Nat.le_of_ble_eq_true rfl) (gv_140 hV) dX2_init_20 (fun H locs hP hD hS => ?_)
  have hP : va_P G.1 vwCl ((h0, .inr (4, [.ref qa, .int 0, .int 0])) :: [(qa, .inl (G.2.2.1 3, 8, .inr (.inr (.inr (.inr (fun _ => none))))))]) H := hP
  have hD : va_D A ((h0, .inr (4, [.ref qa, .int 0, .int 0])) :: [(qa, .inl (G.2.2.1 3, 8, .inr (.inr (.inr (.inr (fun _ => none))))))]) := hD
  refine lv_iconst (pc := 23) (v := 0) hx hb dX2_init_23 (by decide) ?_
  refine lv_istore_n (pc := 24) (lv' := [(1, .int 0), (0, .ref h0)]) hx hb dX2_init_24 rfl hl (by decide) rfl (fun ls hl => ?_)
  refine i_X2_it (j := 0) (W1 := []) (f := fun _ => none) hx hb hml hown hV hA (by decide) (by decide) (by decide) hl hP hD hS (fun b0 x0 y0 z0 H locs ls hl hP hD hS => ?_)
  refine i_X2_it (j := 1) (W1 := ([] ++ gx_wl G b0 x0 y0 z0)) (f := va_up (fun _ => none) 0 (some b0)) hx hb hml hown hV hA (by decide) (by decide) (by decide) hl hP hD hS (fun b1 x1 y1 z1 H locs ls hl hP hD hS => ?_)
  refine i_X2_it (j := 2) (W1 := (([] ++ gx_wl G b0 x0 y0 z0) ++ gx_wl G b1 x1 y1 z1)) (f := va_up (va_up (fun _ => none) 0 (some b0)) 1 (some b1)) hx hb hml hown hV hA (by decide) (by decide) (by decide) hl hP hD hS (fun b2 x2 y2 z2 H locs ls hl hP hD hS => ?_)
  refine i_X2_it (j := 3) (W1 := ((([] ++ gx_wl G b0 x0 y0 z0) ++ gx_wl G b1 x1 y1 z1) ++ gx_wl G b2 x2 y2 z2)) (f := va_up (va_up (va_up (fun _ => none) 0 (some b0)) 1 (some b1)) 2 (some b2)) hx hb hml hown hV hA (by decide) (by decide) (by decide) hl hP hD hS (fun b3 x3 y3 z3 H locs ls hl hP hD hS => ?_)
  refine i_X2_it (j := 4) (W1 := (((([] ++ gx_wl G b0 x0 y0 z0) ++ gx_wl G b1 x1 y1 z1) ++ gx_wl G b2 x2 y2 z2) ++ gx_wl G b3 x3 y3 z3)) (f := va_up (va_up (va_up (va_up (fun _ => none) 0 (some b0)) 1 (some b1)) 2 (some b2)) 3 (some b3)) hx hb hml hown hV hA (by decide) (by decide) (by decide) hl hP hD hS (fun b4 x4 y4 z4 H locs ls hl hP hD hS => ?_)
  refine i_X2_it (j := 5) (W1 := ((((([] ++ gx_wl G b0 x0 y0 z0) ++ gx_wl G b1 x1 y1 z1) ++ gx_wl G b2 x2 y2 z2) ++ gx_wl G b3 x3 y3 z3) ++ gx_wl G b4 x4 y4 z4)) (f := va_up (va_up (va_up (va_up (va_up (fun _ => none) 0 (some b0)) 1 (some b1)) 2 (some b2)) 3 (some b3)) 4 (some b4)) hx hb hml hown hV hA (by decide) (by decide) (by decide) hl hP hD hS (fun b5 x5 y5 z5 H locs ls hl hP hD hS => ?_)
  refine i_X2_it (j := 6) (W1 := (((((([] ++ gx_wl G b0 x0 y0 z0) ++ gx_wl G b1 x1 y1 z1) ++ gx_wl G b2 x2 y2 z2) ++ gx_wl G b3 x3 y3 z3) ++ gx_wl G b4 x4 y4 z4) ++ gx_wl G b5 x5 y5 z5)) (f := va_up (va_up (va_up (va_up (va_up (va_up (fun _ => none) 0 (some b0)) 1 (some b1)) 2 (some b2)) 3 (some b3)) 4 (some b4)) 5 (some b5)) hx hb hml hown hV hA (by decide) (by decide) (by decide) hl hP hD hS (fun b6 x6 y6 z6 H locs ls hl hP hD hS => ?_)
  refine i_X2_it (j := 7) (W1 := ((((((([] ++ gx_wl G b0 x0 y0 z0) ++ gx_wl G b1 x1 y1 z1) ++ gx_wl G b2 x2 y2 z2) ++ gx_wl G b3 x3 y3 z3) ++ gx_wl G b4 x4 y4 z4) ++ gx_wl G b5 x5 y5 z5) ++ gx_wl G b6 x6 y6 z6)) (f := va_up (va_up (va_up (va_up (va_up (va_up (va_up (fun _ => none) 0 (some b0)) 1 (some b1)) 2 (some b2)) 3 (some b3)) 4 (some b4)) 5 (some b5)) 6 (some b6)) hx hb hml hown hV hA (by decide) (by decide) (by decide) hl hP hD hS (fun b7 x7 y7 z7 H locs ls hl hP hD hS => ?_)
  refine lv_iload_n (pc := 25) hx hb dX2_init_25 rfl (lv_at hl 0 rfl) ?_
  refine lv_bipush (pc := 26) (v := 8) hx hb dX2_init_26 (by decide) ?_
  refine lv_icmp_ge (pc := 28) (tgt := 50) hx hb dX2_init_28 (by decide) (fun _ => ?_) (fun hc => absurd (by decide) hc)
  obtain ⟨hP, hD⟩ := gx_swap hP hD 1 rfl (gx_atq (g := fun n => some (gx_ad [b0, x0, y0, z0, b1, x1, y1, z1, b2, x2, y2, z2, b3, x3, y3, z3, b4, x4, y4, z4, b5, x5, y5, z5, b6, x6, y6, z6, b7, x7, y7, z7] (4 * n))) (fun j hj => by rcases (show j = 0 ∨ j = 1 ∨ j = 2 ∨ j = 3 ∨ j = 4 ∨ j = 5 ∨ j = 6 ∨ j = 7 by omega) with rfl | rfl | rfl | rfl | rfl | rfl | rfl | rfl <;> rfl))
  exact gx_retI hx hb hr hlocks hP hD hS ⟨qa, [b0, x0, y0, z0, b1, x1, y1, z1, b2, x2, y2, z2, b3, x3, y3, z3, b4, x4, y4, z4, b5, x5, y5, z5, b6, x6, y6, z6, b7, x7, y7, z7], rfl⟩ dX2_init_50
set_option maxHeartbeats 1000000 in
set_option maxRecDepth 100000 in
theorem i_X6 (l : Launch) (G : gx_G) (h0 : Nat) (sz : Nat) : gx_KI l yX6_init cX6_init 1 ({ frames := 3, cells := 57, slots := 1343, locals := 70 }) ([.ref h0]) G [(h0, .inr (8, [.null, .null, .null, .int 0, .null, .null, .null, .null, .int 0, .null, .int 0, .null, .int 0]))] sz (fun w => ∃ (L3 K : List Nat), w = gx_gl G h0 L3 K) 57 1343 := by
  refine gx_beginI (by decide) rfl (Nat.le_of_ble_eq_true rfl) ?_
  intro p e s m below meth c A hx hb hr hml hown hlocks hmn hV hP hD hA ls hl
  have hS : va_S A s.heap s.heap [] := va_S.rf
  refine lv_aload_n (pc := 0) hx hb dX6_init_0 rfl (lv_at hl 0 rfl) ?_
  refine W.objInit hx hb hown (gv_75 hV) (gv_76 hV) (gv_77 hV) rfl (by rw [hml]; exact hl.1) rfl dX6_init_1 (Nat.le_of_ble_eq_true rfl) (Nat.le_of_ble_eq_true rfl) ?_
  refine W.eq (g2 := F0 m 4 ls []) rfl ?_
  refine lv_aload_n (pc := 4) hx hb dX6_init_4 rfl (lv_at hl 0 rfl) ?_
  refine va_new (pc := 5) (args := _) (Ts := u_ws RX5 TX5 9) (ci := 7) (fs := [.null, .null, .null, .int 0, .int 0, .int 0, .int 0, .int 0, .int 0]) hx hb (fun w h => hV.w (gl_X5 w h).1 (gl_X5 w h).2) (fun _ h => h) tyX5 tyX5_ok hown (gv_78 hV) (gv_79 hV) (gv_50 hV) hV.K hP hD hS hA rfl hfs_X5 (Nat.le_of_ble_eq_true rfl) (Nat.le_of_ble_eq_true rfl) dX6_init_5 (fun b0 H hP hD hS => ?_)
  have hP : va_P G.1 vwCl (((h0, .inr (8, [.null, .null, .null, .int 0, .null, .null, .null, .null, .int 0, .null, .int 0, .null, .int 0])) :: ([] : va_W)) ++ [(b0, .inr (7, [.null, .null, .null, .int 0, .int 0, .int 0, .int 0, .int 0, .int 0]))]) H := hP
  refine W.widen (k := 1) (n := 9) (by omega) (by omega) ?_
  refine lv_dup (pc := 8) hx hb dX6_init_8 rfl ?_
  refine gx_runI (pc := 9) (wr := (h0, .inr (8, [.null, .null, .null, .int 0, .null, .null, .null, .null, .int 0, .null, .int 0, .null, .int 0])) :: ([] : va_W)) (wc := [(b0, .inr (7, [.null, .null, .null, .int 0, .int 0, .int 0, .int 0, .int 0, .int 0]))]) (va_runI (As := []) (rest := [.ref b0, .ref h0]) ⟨hx, hb, hml, hown, (fun _ h => nomatch h : ∀ w ∈ ([] : List Cond), w.before _ s = true)⟩ (i_X5 l G b0  H.size) ⟨gx_callB (n := 0) rfl rfl (gv_80 hV) (gv_50 hV) (gv_82 hV) (by decide +kernel) ⟨Nat.le_of_ble_eq_true rfl, Nat.le_of_ble_eq_true rfl⟩, rfl, (gv_81 hV)⟩ (gx_preI hV hP hD) rfl rfl hl.1 rfl (lv_room (Nat.le_of_ble_eq_true rfl)) dX6_init_9 ⟨Nat.le_of_ble_eq_true rfl, Nat.le_of_ble_eq_true rfl⟩) hP hD hS hA (fun w H locs hw hP hD hS => ?_)
  obtain ⟨x0, y0, z0, rfl⟩ := hw
  have hP : va_P G.1 vwCl ((h0, .inr (8, [.null, .null, .null, .int 0, .null, .null, .null, .null, .int 0, .null, .int 0, .null, .int 0])) :: (([] : va_W) ++ gx_wl G b0 x0 y0 z0)) H := hP
  have hD : va_D A ((h0, .inr (8, [.null, .null, .null, .int 0, .null, .null, .null, .null, .int 0, .null, .int 0, .null, .int 0])) :: (([] : va_W) ++ gx_wl G b0 x0 y0 z0)) := hD
  refine W.widen (k := 4) (n := 90) (by omega) (by omega) ?_
  refine gx_putF (pc := 12) (ci := 8) (v := .ref b0) (ty := (.object "GluedWall$Wall")) hx hb hV gl_X6 tyX6 tyX6_ok nmX6 hown hP hD hS rfl 0 (by decide) rfl rfl hmn (by decide +kernel) rfl rfl (Nat.le_of_ble_eq_true rfl) (gv_233 hV) dX6_init_12 (fun H locs hP hD hS => ?_)
  have hP : va_P G.1 vwCl ((h0, .inr (8, [.ref b0, .null, .null, .int 0, .null, .null, .null, .null, .int 0, .null, .int 0, .null, .int 0])) :: (([] : va_W) ++ gx_wl G b0 x0 y0 z0)) H := hP
  have hD : va_D A ((h0, .inr (8, [.ref b0, .null, .null, .int 0, .null, .null, .null, .null, .int 0, .null, .int 0, .null, .int 0])) :: (([] : va_W) ++ gx_wl G b0 x0 y0 z0)) := hD
  refine lv_aload_n (pc := 15) hx hb dX6_init_15 rfl (lv_at hl 0 rfl) ?_
  refine va_new (pc := 16) (args := _) (Ts := u_ws RX5 TX5 9) (ci := 7) (fs := [.null, .null, .null, .int 0, .int 0, .int 0, .int 0, .int 0, .int 0]) hx hb (fun w h => hV.w (gl_X5 w h).1 (gl_X5 w h).2) (fun _ h => h) tyX5 tyX5_ok hown (gv_78 hV) (gv_79 hV) (gv_50 hV) hV.K hP hD hS hA rfl hfs_X5 (Nat.le_of_ble_eq_true rfl) (Nat.le_of_ble_eq_true rfl) dX6_init_16 (fun b1 H hP hD hS => ?_)
  have hP : va_P G.1 vwCl (((h0, .inr (8, [.ref b0, .null, .null, .int 0, .null, .null, .null, .null, .int 0, .null, .int 0, .null, .int 0])) :: (([] : va_W) ++ gx_wl G b0 x0 y0 z0)) ++ [(b1, .inr (7, [.null, .null, .null, .int 0, .int 0, .int 0, .int 0, .int 0, .int 0]))]) H := hP
  refine W.widen (k := 5) (n := 99) (by omega) (by omega) ?_
  refine lv_dup (pc := 19) hx hb dX6_init_19 rfl ?_
  refine gx_runI (pc := 20) (wr := (h0, .inr (8, [.ref b0, .null, .null, .int 0, .null, .null, .null, .null, .int 0, .null, .int 0, .null, .int 0])) :: (([] : va_W) ++ gx_wl G b0 x0 y0 z0)) (wc := [(b1, .inr (7, [.null, .null, .null, .int 0, .int 0, .int 0, .int 0, .int 0, .int 0]))]) (va_runI (As := []) (rest := [.ref b1, .ref h0]) ⟨hx, hb, hml, hown, (fun _ h => nomatch h : ∀ w ∈ ([] : List Cond), w.before _ s = true)⟩ (i_X5 l G b1  H.size) ⟨gx_callB (n := 0) rfl rfl (gv_80 hV) (gv_50 hV) (gv_82 hV) (by decide +kernel) ⟨Nat.le_of_ble_eq_true rfl, Nat.le_of_ble_eq_true rfl⟩, rfl, (gv_81 hV)⟩ (gx_preI hV hP hD) rfl rfl hl.1 rfl (lv_room (Nat.le_of_ble_eq_true rfl)) dX6_init_20 ⟨Nat.le_of_ble_eq_true rfl, Nat.le_of_ble_eq_true rfl⟩) hP hD hS hA (fun w H locs hw hP hD hS => ?_)
  obtain ⟨x1, y1, z1, rfl⟩ := hw
  have hP : va_P G.1 vwCl ((h0, .inr (8, [.ref b0, .null, .null, .int 0, .null, .null, .null, .null, .int 0, .null, .int 0, .null, .int 0])) :: ((([] : va_W) ++ gx_wl G b0 x0 y0 z0) ++ gx_wl G b1 x1 y1 z1)) H := hP
  have hD : va_D A ((h0, .inr (8, [.ref b0, .null, .null, .int 0, .null, .null, .null, .null, .int 0, .null, .int 0, .null, .int 0])) :: ((([] : va_W) ++ gx_wl G b0 x0 y0 z0) ++ gx_wl G b1 x1 y1 z1)) := hD
  refine W.widen (k := 8) (n := 180) (by omega) (by omega) ?_
  refine gx_putF (pc := 23) (ci := 8) (v := .ref b1) (ty := (.object "GluedWall$Wall")) hx hb hV gl_X6 tyX6 tyX6_ok nmX6 hown hP hD hS rfl 1 (by decide) rfl rfl hmn (by decide +kernel) rfl rfl (Nat.le_of_ble_eq_true rfl) (gv_234 hV) dX6_init_23 (fun H locs hP hD hS => ?_)
  have hP : va_P G.1 vwCl ((h0, .inr (8, [.ref b0, .ref b1, .null, .int 0, .null, .null, .null, .null, .int 0, .null, .int 0, .null, .int 0])) :: ((([] : va_W) ++ gx_wl G b0 x0 y0 z0) ++ gx_wl G b1 x1 y1 z1)) H := hP
  have hD : va_D A ((h0, .inr (8, [.ref b0, .ref b1, .null, .int 0, .null, .null, .null, .null, .int 0, .null, .int 0, .null, .int 0])) :: ((([] : va_W) ++ gx_wl G b0 x0 y0 z0) ++ gx_wl G b1 x1 y1 z1)) := hD
  refine lv_aload_n (pc := 26) hx hb dX6_init_26 rfl (lv_at hl 0 rfl) ?_
  refine va_new (pc := 27) (args := _) (Ts := u_ws RX5 TX5 9) (ci := 7) (fs := [.null, .null, .null, .int 0, .int 0, .int 0, .int 0, .int 0, .int 0]) hx hb (fun w h => hV.w (gl_X5 w h).1 (gl_X5 w h).2) (fun _ h => h) tyX5 tyX5_ok hown (gv_78 hV) (gv_79 hV) (gv_50 hV) hV.K hP hD hS hA rfl hfs_X5 (Nat.le_of_ble_eq_true rfl) (Nat.le_of_ble_eq_true rfl) dX6_init_27 (fun b2 H hP hD hS => ?_)
  have hP : va_P G.1 vwCl (((h0, .inr (8, [.ref b0, .ref b1, .null, .int 0, .null, .null, .null, .null, .int 0, .null, .int 0, .null, .int 0])) :: ((([] : va_W) ++ gx_wl G b0 x0 y0 z0) ++ gx_wl G b1 x1 y1 z1)) ++ [(b2, .inr (7, [.null, .null, .null, .int 0, .int 0, .int 0, .int 0, .int 0, .int 0]))]) H := hP
  refine W.widen (k := 9) (n := 189) (by omega) (by omega) ?_
  refine lv_dup (pc := 30) hx hb dX6_init_30 rfl ?_
  refine gx_runI (pc := 31) (wr := (h0, .inr (8, [.ref b0, .ref b1, .null, .int 0, .null, .null, .null, .null, .int 0, .null, .int 0, .null, .int 0])) :: ((([] : va_W) ++ gx_wl G b0 x0 y0 z0) ++ gx_wl G b1 x1 y1 z1)) (wc := [(b2, .inr (7, [.null, .null, .null, .int 0, .int 0, .int 0, .int 0, .int 0, .int 0]))]) (va_runI (As := []) (rest := [.ref b2, .ref h0]) ⟨hx, hb, hml, hown, (fun _ h => nomatch h : ∀ w ∈ ([] : List Cond), w.before _ s = true)⟩ (i_X5 l G b2  H.size) ⟨gx_callB (n := 0) rfl rfl (gv_80 hV) (gv_50 hV) (gv_82 hV) (by decide +kernel) ⟨Nat.le_of_ble_eq_true rfl, Nat.le_of_ble_eq_true rfl⟩, rfl, (gv_81 hV)⟩ (gx_preI hV hP hD) rfl rfl hl.1 rfl (lv_room (Nat.le_of_ble_eq_true rfl)) dX6_init_31 ⟨Nat.le_of_ble_eq_true rfl, Nat.le_of_ble_eq_true rfl⟩) hP hD hS hA (fun w H locs hw hP hD hS => ?_)
  obtain ⟨x2, y2, z2, rfl⟩ := hw
  have hP : va_P G.1 vwCl ((h0, .inr (8, [.ref b0, .ref b1, .null, .int 0, .null, .null, .null, .null, .int 0, .null, .int 0, .null, .int 0])) :: (((([] : va_W) ++ gx_wl G b0 x0 y0 z0) ++ gx_wl G b1 x1 y1 z1) ++ gx_wl G b2 x2 y2 z2)) H := hP
  have hD : va_D A ((h0, .inr (8, [.ref b0, .ref b1, .null, .int 0, .null, .null, .null, .null, .int 0, .null, .int 0, .null, .int 0])) :: (((([] : va_W) ++ gx_wl G b0 x0 y0 z0) ++ gx_wl G b1 x1 y1 z1) ++ gx_wl G b2 x2 y2 z2)) := hD
  refine W.widen (k := 12) (n := 270) (by omega) (by omega) ?_
  refine gx_putF (pc := 34) (ci := 8) (v := .ref b2) (ty := (.object "GluedWall$Wall")) hx hb hV gl_X6 tyX6 tyX6_ok nmX6 hown hP hD hS rfl 2 (by decide) rfl rfl hmn (by decide +kernel) rfl rfl (Nat.le_of_ble_eq_true rfl) (gv_235 hV) dX6_init_34 (fun H locs hP hD hS => ?_)
  have hP : va_P G.1 vwCl ((h0, .inr (8, [.ref b0, .ref b1, .ref b2, .int 0, .null, .null, .null, .null, .int 0, .null, .int 0, .null, .int 0])) :: (((([] : va_W) ++ gx_wl G b0 x0 y0 z0) ++ gx_wl G b1 x1 y1 z1) ++ gx_wl G b2 x2 y2 z2)) H := hP
  have hD : va_D A ((h0, .inr (8, [.ref b0, .ref b1, .ref b2, .int 0, .null, .null, .null, .null, .int 0, .null, .int 0, .null, .int 0])) :: (((([] : va_W) ++ gx_wl G b0 x0 y0 z0) ++ gx_wl G b1 x1 y1 z1) ++ gx_wl G b2 x2 y2 z2)) := hD
  refine lv_aload_n (pc := 37) hx hb dX6_init_37 rfl (lv_at hl 0 rfl) ?_
  refine lv_iconst (pc := 38) (v := 0) hx hb dX6_init_38 (by decide) ?_
  refine gx_putN (pc := 39) (ci := 8) (v := .int 0) (ty := .boolean) hx hb hV gl_X6 tyX6 tyX6_ok nmX6 hown hP hD hS rfl 3 (by decide) rfl rfl (by decide +kernel) rfl rfl (Nat.le_of_ble_eq_true rfl) (gv_236 hV) dX6_init_39 (fun H locs hP hD hS => ?_)
  have hP : va_P G.1 vwCl ((h0, .inr (8, [.ref b0, .ref b1, .ref b2, .int 0, .null, .null, .null, .null, .int 0, .null, .int 0, .null, .int 0])) :: (((([] : va_W) ++ gx_wl G b0 x0 y0 z0) ++ gx_wl G b1 x1 y1 z1) ++ gx_wl G b2 x2 y2 z2)) H := hP
  have hD : va_D A ((h0, .inr (8, [.ref b0, .ref b1, .ref b2, .int 0, .null, .null, .null, .null, .int 0, .null, .int 0, .null, .int 0])) :: (((([] : va_W) ++ gx_wl G b0 x0 y0 z0) ++ gx_wl G b1 x1 y1 z1) ++ gx_wl G b2 x2 y2 z2)) := hD
  refine lv_aload_n (pc := 42) hx hb dX6_init_42 rfl (lv_at hl 0 rfl) ?_
  refine va_new (pc := 43) (args := _) (Ts := u_ws RX2 TX2 3) (ci := 4) (fs := [.null, .int 0, .int 0]) hx hb (fun w h => hV.w (gl_X2 w h).1 (gl_X2 w h).2) (fun _ h => h) tyX2 tyX2_ok hown (gv_129 hV) (gv_130 hV) (gv_51 hV) hV.K hP hD hS hA rfl hfs_X2 (Nat.le_of_ble_eq_true rfl) (Nat.le_of_ble_eq_true rfl) dX6_init_43 (fun b3 H hP hD hS => ?_)
  have hP : va_P G.1 vwCl (((h0, .inr (8, [.ref b0, .ref b1, .ref b2, .int 0, .null, .null, .null, .null, .int 0, .null, .int 0, .null, .int 0])) :: (((([] : va_W) ++ gx_wl G b0 x0 y0 z0) ++ gx_wl G b1 x1 y1 z1) ++ gx_wl G b2 x2 y2 z2)) ++ [(b3, .inr (4, [.null, .int 0, .int 0]))]) H := hP
  refine W.widen (k := 13) (n := 273) (by omega) (by omega) ?_
  refine lv_dup (pc := 46) hx hb dX6_init_46 rfl ?_
  refine gx_runI (pc := 47) (wr := (h0, .inr (8, [.ref b0, .ref b1, .ref b2, .int 0, .null, .null, .null, .null, .int 0, .null, .int 0, .null, .int 0])) :: (((([] : va_W) ++ gx_wl G b0 x0 y0 z0) ++ gx_wl G b1 x1 y1 z1) ++ gx_wl G b2 x2 y2 z2)) (wc := [(b3, .inr (4, [.null, .int 0, .int 0]))]) (va_runI (As := []) (rest := [.ref b3, .ref h0]) ⟨hx, hb, hml, hown, (fun _ h => nomatch h : ∀ w ∈ ([] : List Cond), w.before _ s = true)⟩ (i_X2 l G b3  H.size) ⟨gx_callB (n := 0) rfl rfl (gv_131 hV) (gv_51 hV) (gv_133 hV) (by decide +kernel) ⟨Nat.le_of_ble_eq_true rfl, Nat.le_of_ble_eq_true rfl⟩, rfl, (gv_132 hV)⟩ (gx_preI hV hP hD) rfl rfl hl.1 rfl (lv_room (Nat.le_of_ble_eq_true rfl)) dX6_init_47 ⟨Nat.le_of_ble_eq_true rfl, Nat.le_of_ble_eq_true rfl⟩) hP hD hS hA (fun w H locs hw hP hD hS => ?_)
  obtain ⟨x3, L3, rfl⟩ := hw
  have hP : va_P G.1 vwCl ((h0, .inr (8, [.ref b0, .ref b1, .ref b2, .int 0, .null, .null, .null, .null, .int 0, .null, .int 0, .null, .int 0])) :: ((((([] : va_W) ++ gx_wl G b0 x0 y0 z0) ++ gx_wl G b1 x1 y1 z1) ++ gx_wl G b2 x2 y2 z2) ++ gx_hl G b3 x3 L3)) H := hP
  have hD : va_D A ((h0, .inr (8, [.ref b0, .ref b1, .ref b2, .int 0, .null, .null, .null, .null, .int 0, .null, .int 0, .null, .int 0])) :: ((((([] : va_W) ++ gx_wl G b0 x0 y0 z0) ++ gx_wl G b1 x1 y1 z1) ++ gx_wl G b2 x2 y2 z2) ++ gx_hl G b3 x3 L3)) := hD
  refine W.widen (k := 46) (n := 1001) (by omega) (by omega) ?_
  refine gx_putF (pc := 50) (ci := 8) (v := .ref b3) (ty := (.object "GluedWall$History")) hx hb hV gl_X6 tyX6 tyX6_ok nmX6 hown hP hD hS rfl 4 (by decide) rfl rfl hmn (by decide +kernel) rfl rfl (Nat.le_of_ble_eq_true rfl) (gv_237 hV) dX6_init_50 (fun H locs hP hD hS => ?_)
  have hP : va_P G.1 vwCl ((h0, .inr (8, [.ref b0, .ref b1, .ref b2, .int 0, .ref b3, .null, .null, .null, .int 0, .null, .int 0, .null, .int 0])) :: ((((([] : va_W) ++ gx_wl G b0 x0 y0 z0) ++ gx_wl G b1 x1 y1 z1) ++ gx_wl G b2 x2 y2 z2) ++ gx_hl G b3 x3 L3)) H := hP
  have hD : va_D A ((h0, .inr (8, [.ref b0, .ref b1, .ref b2, .int 0, .ref b3, .null, .null, .null, .int 0, .null, .int 0, .null, .int 0])) :: ((((([] : va_W) ++ gx_wl G b0 x0 y0 z0) ++ gx_wl G b1 x1 y1 z1) ++ gx_wl G b2 x2 y2 z2) ++ gx_hl G b3 x3 L3)) := hD
  refine lv_aload_n (pc := 53) hx hb dX6_init_53 rfl (lv_at hl 0 rfl) ?_
  refine va_new (pc := 54) (args := _) (Ts := u_ws RX0 TX0 3) (ci := 2) (fs := [.null, .null, .int 0]) hx hb (fun w h => hV.w (gl_X0 w h).1 (gl_X0 w h).2) (fun _ h => h) tyX0 tyX0_ok hown (gv_149 hV) (gv_150 hV) (gv_52 hV) hV.K hP hD hS hA rfl hfs_X0 (Nat.le_of_ble_eq_true rfl) (Nat.le_of_ble_eq_true rfl) dX6_init_54 (fun b4 H hP hD hS => ?_)
  have hP : va_P G.1 vwCl (((h0, .inr (8, [.ref b0, .ref b1, .ref b2, .int 0, .ref b3, .null, .null, .null, .int 0, .null, .int 0, .null, .int 0])) :: ((((([] : va_W) ++ gx_wl G b0 x0 y0 z0) ++ gx_wl G b1 x1 y1 z1) ++ gx_wl G b2 x2 y2 z2) ++ gx_hl G b3 x3 L3)) ++ [(b4, .inr (2, [.null, .null, .int 0]))]) H := hP
  refine W.widen (k := 47) (n := 1004) (by omega) (by omega) ?_
  refine lv_dup (pc := 57) hx hb dX6_init_57 rfl ?_
  refine gx_runI (pc := 58) (wr := (h0, .inr (8, [.ref b0, .ref b1, .ref b2, .int 0, .ref b3, .null, .null, .null, .int 0, .null, .int 0, .null, .int 0])) :: ((((([] : va_W) ++ gx_wl G b0 x0 y0 z0) ++ gx_wl G b1 x1 y1 z1) ++ gx_wl G b2 x2 y2 z2) ++ gx_hl G b3 x3 L3)) (wc := [(b4, .inr (2, [.null, .null, .int 0]))]) (va_runIN (As := []) (rest := [.ref b4, .ref h0]) ⟨hx, hb, hml, hown, (fun _ h => nomatch h : ∀ w ∈ ([] : List Cond), w.before _ s = true)⟩ (i_X0 l G b4  H.size) ⟨gx_callN (n := 0) rfl rfl (gv_151 hV) (gv_52 hV) (gv_153 hV) (by decide +kernel) ⟨Nat.le_of_ble_eq_true rfl, Nat.le_of_ble_eq_true rfl⟩, rfl, (gv_152 hV)⟩ (gx_preI hV hP hD) rfl rfl hl.1 rfl (lv_room (Nat.le_of_ble_eq_true rfl)) dX6_init_58 ⟨Nat.le_of_ble_eq_true rfl, Nat.le_of_ble_eq_true rfl⟩) hP hD hS hA (fun w H locs hw hP hD hS => ?_)
  obtain ⟨x4, y4, rfl⟩ := hw
  have hP : va_P G.1 vwCl ((h0, .inr (8, [.ref b0, .ref b1, .ref b2, .int 0, .ref b3, .null, .null, .null, .int 0, .null, .int 0, .null, .int 0])) :: (((((([] : va_W) ++ gx_wl G b0 x0 y0 z0) ++ gx_wl G b1 x1 y1 z1) ++ gx_wl G b2 x2 y2 z2) ++ gx_hl G b3 x3 L3) ++ [(b4, .inr (2, [.ref x4, .ref y4, .int 0])), (x4, .inl (G.2.2.1 2, 42, .inl (fun _ => gx_boo 0))), (y4, .inl (G.2.2.1 0, 42, .inl (fun _ => 0)))])) H := hP
  have hD : va_D A ((h0, .inr (8, [.ref b0, .ref b1, .ref b2, .int 0, .ref b3, .null, .null, .null, .int 0, .null, .int 0, .null, .int 0])) :: (((((([] : va_W) ++ gx_wl G b0 x0 y0 z0) ++ gx_wl G b1 x1 y1 z1) ++ gx_wl G b2 x2 y2 z2) ++ gx_hl G b3 x3 L3) ++ [(b4, .inr (2, [.ref x4, .ref y4, .int 0])), (x4, .inl (G.2.2.1 2, 42, .inl (fun _ => gx_boo 0))), (y4, .inl (G.2.2.1 0, 42, .inl (fun _ => 0)))])) := hD
  refine W.widen (k := 49) (n := 1088) (by omega) (by omega) ?_
  refine gx_putF (pc := 61) (ci := 8) (v := .ref b4) (ty := (.object "GluedWall$Footing")) hx hb hV gl_X6 tyX6 tyX6_ok nmX6 hown hP hD hS rfl 5 (by decide) rfl rfl hmn (by decide +kernel) rfl rfl (Nat.le_of_ble_eq_true rfl) (gv_238 hV) dX6_init_61 (fun H locs hP hD hS => ?_)
  have hP : va_P G.1 vwCl ((h0, .inr (8, [.ref b0, .ref b1, .ref b2, .int 0, .ref b3, .ref b4, .null, .null, .int 0, .null, .int 0, .null, .int 0])) :: (((((([] : va_W) ++ gx_wl G b0 x0 y0 z0) ++ gx_wl G b1 x1 y1 z1) ++ gx_wl G b2 x2 y2 z2) ++ gx_hl G b3 x3 L3) ++ [(b4, .inr (2, [.ref x4, .ref y4, .int 0])), (x4, .inl (G.2.2.1 2, 42, .inl (fun _ => gx_boo 0))), (y4, .inl (G.2.2.1 0, 42, .inl (fun _ => 0)))])) H := hP
  have hD : va_D A ((h0, .inr (8, [.ref b0, .ref b1, .ref b2, .int 0, .ref b3, .ref b4, .null, .null, .int 0, .null, .int 0, .null, .int 0])) :: (((((([] : va_W) ++ gx_wl G b0 x0 y0 z0) ++ gx_wl G b1 x1 y1 z1) ++ gx_wl G b2 x2 y2 z2) ++ gx_hl G b3 x3 L3) ++ [(b4, .inr (2, [.ref x4, .ref y4, .int 0])), (x4, .inl (G.2.2.1 2, 42, .inl (fun _ => gx_boo 0))), (y4, .inl (G.2.2.1 0, 42, .inl (fun _ => 0)))])) := hD
  refine lv_aload_n (pc := 64) hx hb dX6_init_64 rfl (lv_at hl 0 rfl) ?_
  refine va_new (pc := 65) (args := _) (Ts := u_ws RX1 TX1 3) (ci := 3) (fs := [.null, .int 0, .int 0]) hx hb (fun w h => hV.w (gl_X1 w h).1 (gl_X1 w h).2) (fun _ h => h) tyX1 tyX1_ok hown (gv_166 hV) (gv_167 hV) (gv_53 hV) hV.K hP hD hS hA rfl hfs_X1 (Nat.le_of_ble_eq_true rfl) (Nat.le_of_ble_eq_true rfl) dX6_init_65 (fun b5 H hP hD hS => ?_)
  have hP : va_P G.1 vwCl (((h0, .inr (8, [.ref b0, .ref b1, .ref b2, .int 0, .ref b3, .ref b4, .null, .null, .int 0, .null, .int 0, .null, .int 0])) :: (((((([] : va_W) ++ gx_wl G b0 x0 y0 z0) ++ gx_wl G b1 x1 y1 z1) ++ gx_wl G b2 x2 y2 z2) ++ gx_hl G b3 x3 L3) ++ [(b4, .inr (2, [.ref x4, .ref y4, .int 0])), (x4, .inl (G.2.2.1 2, 42, .inl (fun _ => gx_boo 0))), (y4, .inl (G.2.2.1 0, 42, .inl (fun _ => 0)))])) ++ [(b5, .inr (3, [.null, .int 0, .int 0]))]) H := hP
  refine W.widen (k := 50) (n := 1091) (by omega) (by omega) ?_
  refine lv_dup (pc := 68) hx hb dX6_init_68 rfl ?_
  refine gx_runI (pc := 69) (wr := (h0, .inr (8, [.ref b0, .ref b1, .ref b2, .int 0, .ref b3, .ref b4, .null, .null, .int 0, .null, .int 0, .null, .int 0])) :: (((((([] : va_W) ++ gx_wl G b0 x0 y0 z0) ++ gx_wl G b1 x1 y1 z1) ++ gx_wl G b2 x2 y2 z2) ++ gx_hl G b3 x3 L3) ++ [(b4, .inr (2, [.ref x4, .ref y4, .int 0])), (x4, .inl (G.2.2.1 2, 42, .inl (fun _ => gx_boo 0))), (y4, .inl (G.2.2.1 0, 42, .inl (fun _ => 0)))])) (wc := [(b5, .inr (3, [.null, .int 0, .int 0]))]) (va_runIN (As := []) (rest := [.ref b5, .ref h0]) ⟨hx, hb, hml, hown, (fun _ h => nomatch h : ∀ w ∈ ([] : List Cond), w.before _ s = true)⟩ (i_X1 l G b5  H.size) ⟨gx_callN (n := 0) rfl rfl (gv_168 hV) (gv_53 hV) (gv_170 hV) (by decide +kernel) ⟨Nat.le_of_ble_eq_true rfl, Nat.le_of_ble_eq_true rfl⟩, rfl, (gv_169 hV)⟩ (gx_preI hV hP hD) rfl rfl hl.1 rfl (lv_room (Nat.le_of_ble_eq_true rfl)) dX6_init_69 ⟨Nat.le_of_ble_eq_true rfl, Nat.le_of_ble_eq_true rfl⟩) hP hD hS hA (fun w H locs hw hP hD hS => ?_)
  obtain ⟨x5, rfl⟩ := hw
  have hP : va_P G.1 vwCl ((h0, .inr (8, [.ref b0, .ref b1, .ref b2, .int 0, .ref b3, .ref b4, .null, .null, .int 0, .null, .int 0, .null, .int 0])) :: ((((((([] : va_W) ++ gx_wl G b0 x0 y0 z0) ++ gx_wl G b1 x1 y1 z1) ++ gx_wl G b2 x2 y2 z2) ++ gx_hl G b3 x3 L3) ++ [(b4, .inr (2, [.ref x4, .ref y4, .int 0])), (x4, .inl (G.2.2.1 2, 42, .inl (fun _ => gx_boo 0))), (y4, .inl (G.2.2.1 0, 42, .inl (fun _ => 0)))]) ++ [(b5, .inr (3, [.ref x5, .int (-1), .int (-1)])), (x5, .inl (G.2.2.1 0, 4, .inl (fun _ => 0)))])) H := hP
  have hD : va_D A ((h0, .inr (8, [.ref b0, .ref b1, .ref b2, .int 0, .ref b3, .ref b4, .null, .null, .int 0, .null, .int 0, .null, .int 0])) :: ((((((([] : va_W) ++ gx_wl G b0 x0 y0 z0) ++ gx_wl G b1 x1 y1 z1) ++ gx_wl G b2 x2 y2 z2) ++ gx_hl G b3 x3 L3) ++ [(b4, .inr (2, [.ref x4, .ref y4, .int 0])), (x4, .inl (G.2.2.1 2, 42, .inl (fun _ => gx_boo 0))), (y4, .inl (G.2.2.1 0, 42, .inl (fun _ => 0)))]) ++ [(b5, .inr (3, [.ref x5, .int (-1), .int (-1)])), (x5, .inl (G.2.2.1 0, 4, .inl (fun _ => 0)))])) := hD
  refine W.widen (k := 51) (n := 1095) (by omega) (by omega) ?_
  refine gx_putF (pc := 72) (ci := 8) (v := .ref b5) (ty := (.object "GluedWall$Growth")) hx hb hV gl_X6 tyX6 tyX6_ok nmX6 hown hP hD hS rfl 6 (by decide) rfl rfl hmn (by decide +kernel) rfl rfl (Nat.le_of_ble_eq_true rfl) (gv_239 hV) dX6_init_72 (fun H locs hP hD hS => ?_)
  have hP : va_P G.1 vwCl ((h0, .inr (8, [.ref b0, .ref b1, .ref b2, .int 0, .ref b3, .ref b4, .ref b5, .null, .int 0, .null, .int 0, .null, .int 0])) :: ((((((([] : va_W) ++ gx_wl G b0 x0 y0 z0) ++ gx_wl G b1 x1 y1 z1) ++ gx_wl G b2 x2 y2 z2) ++ gx_hl G b3 x3 L3) ++ [(b4, .inr (2, [.ref x4, .ref y4, .int 0])), (x4, .inl (G.2.2.1 2, 42, .inl (fun _ => gx_boo 0))), (y4, .inl (G.2.2.1 0, 42, .inl (fun _ => 0)))]) ++ [(b5, .inr (3, [.ref x5, .int (-1), .int (-1)])), (x5, .inl (G.2.2.1 0, 4, .inl (fun _ => 0)))])) H := hP
  have hD : va_D A ((h0, .inr (8, [.ref b0, .ref b1, .ref b2, .int 0, .ref b3, .ref b4, .ref b5, .null, .int 0, .null, .int 0, .null, .int 0])) :: ((((((([] : va_W) ++ gx_wl G b0 x0 y0 z0) ++ gx_wl G b1 x1 y1 z1) ++ gx_wl G b2 x2 y2 z2) ++ gx_hl G b3 x3 L3) ++ [(b4, .inr (2, [.ref x4, .ref y4, .int 0])), (x4, .inl (G.2.2.1 2, 42, .inl (fun _ => gx_boo 0))), (y4, .inl (G.2.2.1 0, 42, .inl (fun _ => 0)))]) ++ [(b5, .inr (3, [.ref x5, .int (-1), .int (-1)])), (x5, .inl (G.2.2.1 0, 4, .inl (fun _ => 0)))])) := hD
  refine lv_aload_n (pc := 75) hx hb dX6_init_75 rfl (lv_at hl 0 rfl) ?_
  refine va_new (pc := 76) (args := _) (Ts := u_ws RX3 TX3 4) (ci := 5) (fs := [.null, .null, .int 0, .int 0]) hx hb (fun w h => hV.w (gl_X3 w h).1 (gl_X3 w h).2) (fun _ h => h) tyX3 tyX3_ok hown (gv_184 hV) (gv_185 hV) (gv_54 hV) hV.K hP hD hS hA rfl hfs_X3 (Nat.le_of_ble_eq_true rfl) (Nat.le_of_ble_eq_true rfl) dX6_init_76 (fun b6 H hP hD hS => ?_)
  have hP : va_P G.1 vwCl (((h0, .inr (8, [.ref b0, .ref b1, .ref b2, .int 0, .ref b3, .ref b4, .ref b5, .null, .int 0, .null, .int 0, .null, .int 0])) :: ((((((([] : va_W) ++ gx_wl G b0 x0 y0 z0) ++ gx_wl G b1 x1 y1 z1) ++ gx_wl G b2 x2 y2 z2) ++ gx_hl G b3 x3 L3) ++ [(b4, .inr (2, [.ref x4, .ref y4, .int 0])), (x4, .inl (G.2.2.1 2, 42, .inl (fun _ => gx_boo 0))), (y4, .inl (G.2.2.1 0, 42, .inl (fun _ => 0)))]) ++ [(b5, .inr (3, [.ref x5, .int (-1), .int (-1)])), (x5, .inl (G.2.2.1 0, 4, .inl (fun _ => 0)))])) ++ [(b6, .inr (5, [.null, .null, .int 0, .int 0]))]) H := hP
  refine W.widen (k := 52) (n := 1099) (by omega) (by omega) ?_
  refine lv_dup (pc := 79) hx hb dX6_init_79 rfl ?_
  refine lv_aload_n (pc := 80) hx hb dX6_init_80 rfl (lv_at hl 0 rfl) ?_
  refine gx_getI (pc := 81) (ci := 8) (v := .ref b4) hx hb hV gl_X6 hown hP rfl 5 (by decide) rfl rfl (gv_238 hV) dX6_init_81 ?_
  refine lv_aload_n (pc := 84) hx hb dX6_init_84 rfl (lv_at hl 0 rfl) ?_
  refine gx_getI (pc := 85) (ci := 8) (v := .ref b5) hx hb hV gl_X6 hown hP rfl 6 (by decide) rfl rfl (gv_239 hV) dX6_init_85 ?_
  refine gx_runI (pc := 88) (wr := (h0, .inr (8, [.ref b0, .ref b1, .ref b2, .int 0, .ref b3, .ref b4, .ref b5, .null, .int 0, .null, .int 0, .null, .int 0])) :: ((((((([] : va_W) ++ gx_wl G b0 x0 y0 z0) ++ gx_wl G b1 x1 y1 z1) ++ gx_wl G b2 x2 y2 z2) ++ gx_hl G b3 x3 L3) ++ [(b4, .inr (2, [.ref x4, .ref y4, .int 0])), (x4, .inl (G.2.2.1 2, 42, .inl (fun _ => gx_boo 0))), (y4, .inl (G.2.2.1 0, 42, .inl (fun _ => 0)))]) ++ [(b5, .inr (3, [.ref x5, .int (-1), .int (-1)])), (x5, .inl (G.2.2.1 0, 4, .inl (fun _ => 0)))])) (wc := [(b6, .inr (5, [.null, .null, .int 0, .int 0]))]) (va_runI (As := [.ref b4, .ref b5]) (rest := [.ref b6, .ref h0]) ⟨hx, hb, hml, hown, (fun _ h => nomatch h : ∀ w ∈ ([] : List Cond), w.before _ s = true)⟩ (i_X3 l G b6 b4 b5  H.size) ⟨gx_callB (n := 2) rfl rfl (gv_186 hV) (gv_54 hV) (gv_188 hV) (by decide +kernel) ⟨Nat.le_of_ble_eq_true rfl, Nat.le_of_ble_eq_true rfl⟩, rfl, (gv_187 hV)⟩ (gx_preI hV hP hD) rfl rfl hl.1 rfl (lv_room (Nat.le_of_ble_eq_true rfl)) dX6_init_88 ⟨Nat.le_of_ble_eq_true rfl, Nat.le_of_ble_eq_true rfl⟩) hP hD hS hA (fun w H locs hw hP hD hS => ?_)
  subst hw
  have hP : va_P G.1 vwCl ((h0, .inr (8, [.ref b0, .ref b1, .ref b2, .int 0, .ref b3, .ref b4, .ref b5, .null, .int 0, .null, .int 0, .null, .int 0])) :: (((((((([] : va_W) ++ gx_wl G b0 x0 y0 z0) ++ gx_wl G b1 x1 y1 z1) ++ gx_wl G b2 x2 y2 z2) ++ gx_hl G b3 x3 L3) ++ [(b4, .inr (2, [.ref x4, .ref y4, .int 0])), (x4, .inl (G.2.2.1 2, 42, .inl (fun _ => gx_boo 0))), (y4, .inl (G.2.2.1 0, 42, .inl (fun _ => 0)))]) ++ [(b5, .inr (3, [.ref x5, .int (-1), .int (-1)])), (x5, .inl (G.2.2.1 0, 4, .inl (fun _ => 0)))]) ++ [(b6, .inr (5, [.ref b4, .ref b5, .int 0, .int 0]))])) H := hP
  have hD : va_D A ((h0, .inr (8, [.ref b0, .ref b1, .ref b2, .int 0, .ref b3, .ref b4, .ref b5, .null, .int 0, .null, .int 0, .null, .int 0])) :: (((((((([] : va_W) ++ gx_wl G b0 x0 y0 z0) ++ gx_wl G b1 x1 y1 z1) ++ gx_wl G b2 x2 y2 z2) ++ gx_hl G b3 x3 L3) ++ [(b4, .inr (2, [.ref x4, .ref y4, .int 0])), (x4, .inl (G.2.2.1 2, 42, .inl (fun _ => gx_boo 0))), (y4, .inl (G.2.2.1 0, 42, .inl (fun _ => 0)))]) ++ [(b5, .inr (3, [.ref x5, .int (-1), .int (-1)])), (x5, .inl (G.2.2.1 0, 4, .inl (fun _ => 0)))]) ++ [(b6, .inr (5, [.ref b4, .ref b5, .int 0, .int 0]))])) := hD
  refine gx_putF (pc := 91) (ci := 8) (v := .ref b6) (ty := (.object "GluedWall$Mason")) hx hb hV gl_X6 tyX6 tyX6_ok nmX6 hown hP hD hS rfl 7 (by decide) rfl rfl hmn (by decide +kernel) rfl rfl (Nat.le_of_ble_eq_true rfl) (gv_240 hV) dX6_init_91 (fun H locs hP hD hS => ?_)
  have hP : va_P G.1 vwCl ((h0, .inr (8, [.ref b0, .ref b1, .ref b2, .int 0, .ref b3, .ref b4, .ref b5, .ref b6, .int 0, .null, .int 0, .null, .int 0])) :: (((((((([] : va_W) ++ gx_wl G b0 x0 y0 z0) ++ gx_wl G b1 x1 y1 z1) ++ gx_wl G b2 x2 y2 z2) ++ gx_hl G b3 x3 L3) ++ [(b4, .inr (2, [.ref x4, .ref y4, .int 0])), (x4, .inl (G.2.2.1 2, 42, .inl (fun _ => gx_boo 0))), (y4, .inl (G.2.2.1 0, 42, .inl (fun _ => 0)))]) ++ [(b5, .inr (3, [.ref x5, .int (-1), .int (-1)])), (x5, .inl (G.2.2.1 0, 4, .inl (fun _ => 0)))]) ++ [(b6, .inr (5, [.ref b4, .ref b5, .int 0, .int 0]))])) H := hP
  have hD : va_D A ((h0, .inr (8, [.ref b0, .ref b1, .ref b2, .int 0, .ref b3, .ref b4, .ref b5, .ref b6, .int 0, .null, .int 0, .null, .int 0])) :: (((((((([] : va_W) ++ gx_wl G b0 x0 y0 z0) ++ gx_wl G b1 x1 y1 z1) ++ gx_wl G b2 x2 y2 z2) ++ gx_hl G b3 x3 L3) ++ [(b4, .inr (2, [.ref x4, .ref y4, .int 0])), (x4, .inl (G.2.2.1 2, 42, .inl (fun _ => gx_boo 0))), (y4, .inl (G.2.2.1 0, 42, .inl (fun _ => 0)))]) ++ [(b5, .inr (3, [.ref x5, .int (-1), .int (-1)])), (x5, .inl (G.2.2.1 0, 4, .inl (fun _ => 0)))]) ++ [(b6, .inr (5, [.ref b4, .ref b5, .int 0, .int 0]))])) := hD
  refine lv_aload_n (pc := 94) hx hb dX6_init_94 rfl (lv_at hl 0 rfl) ?_
  refine lv_iconst (pc := 95) (v := 0) hx hb dX6_init_95 (by decide) ?_
  refine gx_putN (pc := 96) (ci := 8) (v := .int 0) (ty := .int) hx hb hV gl_X6 tyX6 tyX6_ok nmX6 hown hP hD hS rfl 8 (by decide) rfl rfl (by decide +kernel) rfl rfl (Nat.le_of_ble_eq_true rfl) (gv_241 hV) dX6_init_96 (fun H locs hP hD hS => ?_)
  have hP : va_P G.1 vwCl ((h0, .inr (8, [.ref b0, .ref b1, .ref b2, .int 0, .ref b3, .ref b4, .ref b5, .ref b6, .int 0, .null, .int 0, .null, .int 0])) :: (((((((([] : va_W) ++ gx_wl G b0 x0 y0 z0) ++ gx_wl G b1 x1 y1 z1) ++ gx_wl G b2 x2 y2 z2) ++ gx_hl G b3 x3 L3) ++ [(b4, .inr (2, [.ref x4, .ref y4, .int 0])), (x4, .inl (G.2.2.1 2, 42, .inl (fun _ => gx_boo 0))), (y4, .inl (G.2.2.1 0, 42, .inl (fun _ => 0)))]) ++ [(b5, .inr (3, [.ref x5, .int (-1), .int (-1)])), (x5, .inl (G.2.2.1 0, 4, .inl (fun _ => 0)))]) ++ [(b6, .inr (5, [.ref b4, .ref b5, .int 0, .int 0]))])) H := hP
  have hD : va_D A ((h0, .inr (8, [.ref b0, .ref b1, .ref b2, .int 0, .ref b3, .ref b4, .ref b5, .ref b6, .int 0, .null, .int 0, .null, .int 0])) :: (((((((([] : va_W) ++ gx_wl G b0 x0 y0 z0) ++ gx_wl G b1 x1 y1 z1) ++ gx_wl G b2 x2 y2 z2) ++ gx_hl G b3 x3 L3) ++ [(b4, .inr (2, [.ref x4, .ref y4, .int 0])), (x4, .inl (G.2.2.1 2, 42, .inl (fun _ => gx_boo 0))), (y4, .inl (G.2.2.1 0, 42, .inl (fun _ => 0)))]) ++ [(b5, .inr (3, [.ref x5, .int (-1), .int (-1)])), (x5, .inl (G.2.2.1 0, 4, .inl (fun _ => 0)))]) ++ [(b6, .inr (5, [.ref b4, .ref b5, .int 0, .int 0]))])) := hD
  refine lv_aload_n (pc := 99) hx hb dX6_init_99 rfl (lv_at hl 0 rfl) ?_
  refine va_new (pc := 100) (args := _) (Ts := u_ws RX4 TX4 6) (ci := 6) (fs := [.null, .null, .null, .int 0, .int 0, .int 0]) hx hb (fun w h => hV.w (gl_X4 w h).1 (gl_X4 w h).2) (fun _ h => h) tyX4 tyX4_ok hown (gv_205 hV) (gv_206 hV) (gv_55 hV) hV.K hP hD hS hA rfl hfs_X4 (Nat.le_of_ble_eq_true rfl) (Nat.le_of_ble_eq_true rfl) dX6_init_100 (fun b7 H hP hD hS => ?_)
  have hP : va_P G.1 vwCl (((h0, .inr (8, [.ref b0, .ref b1, .ref b2, .int 0, .ref b3, .ref b4, .ref b5, .ref b6, .int 0, .null, .int 0, .null, .int 0])) :: (((((((([] : va_W) ++ gx_wl G b0 x0 y0 z0) ++ gx_wl G b1 x1 y1 z1) ++ gx_wl G b2 x2 y2 z2) ++ gx_hl G b3 x3 L3) ++ [(b4, .inr (2, [.ref x4, .ref y4, .int 0])), (x4, .inl (G.2.2.1 2, 42, .inl (fun _ => gx_boo 0))), (y4, .inl (G.2.2.1 0, 42, .inl (fun _ => 0)))]) ++ [(b5, .inr (3, [.ref x5, .int (-1), .int (-1)])), (x5, .inl (G.2.2.1 0, 4, .inl (fun _ => 0)))]) ++ [(b6, .inr (5, [.ref b4, .ref b5, .int 0, .int 0]))])) ++ [(b7, .inr (6, [.null, .null, .null, .int 0, .int 0, .int 0]))]) H := hP
  refine W.widen (k := 53) (n := 1105) (by omega) (by omega) ?_
  refine lv_dup (pc := 103) hx hb dX6_init_103 rfl ?_
  refine gx_runI (pc := 104) (wr := (h0, .inr (8, [.ref b0, .ref b1, .ref b2, .int 0, .ref b3, .ref b4, .ref b5, .ref b6, .int 0, .null, .int 0, .null, .int 0])) :: (((((((([] : va_W) ++ gx_wl G b0 x0 y0 z0) ++ gx_wl G b1 x1 y1 z1) ++ gx_wl G b2 x2 y2 z2) ++ gx_hl G b3 x3 L3) ++ [(b4, .inr (2, [.ref x4, .ref y4, .int 0])), (x4, .inl (G.2.2.1 2, 42, .inl (fun _ => gx_boo 0))), (y4, .inl (G.2.2.1 0, 42, .inl (fun _ => 0)))]) ++ [(b5, .inr (3, [.ref x5, .int (-1), .int (-1)])), (x5, .inl (G.2.2.1 0, 4, .inl (fun _ => 0)))]) ++ [(b6, .inr (5, [.ref b4, .ref b5, .int 0, .int 0]))])) (wc := [(b7, .inr (6, [.null, .null, .null, .int 0, .int 0, .int 0]))]) (va_runIN (As := []) (rest := [.ref b7, .ref h0]) ⟨hx, hb, hml, hown, (fun _ h => nomatch h : ∀ w ∈ ([] : List Cond), w.before _ s = true)⟩ (i_X4 l G b7  H.size) ⟨gx_callN (n := 0) rfl rfl (gv_207 hV) (gv_55 hV) (gv_209 hV) (by decide +kernel) ⟨Nat.le_of_ble_eq_true rfl, Nat.le_of_ble_eq_true rfl⟩, rfl, (gv_208 hV)⟩ (gx_preI hV hP hD) rfl rfl hl.1 rfl (lv_room (Nat.le_of_ble_eq_true rfl)) dX6_init_104 ⟨Nat.le_of_ble_eq_true rfl, Nat.le_of_ble_eq_true rfl⟩) hP hD hS hA (fun w H locs hw hP hD hS => ?_)
  obtain ⟨x7, y7, z7, rfl⟩ := hw
  have hP : va_P G.1 vwCl ((h0, .inr (8, [.ref b0, .ref b1, .ref b2, .int 0, .ref b3, .ref b4, .ref b5, .ref b6, .int 0, .null, .int 0, .null, .int 0])) :: ((((((((([] : va_W) ++ gx_wl G b0 x0 y0 z0) ++ gx_wl G b1 x1 y1 z1) ++ gx_wl G b2 x2 y2 z2) ++ gx_hl G b3 x3 L3) ++ [(b4, .inr (2, [.ref x4, .ref y4, .int 0])), (x4, .inl (G.2.2.1 2, 42, .inl (fun _ => gx_boo 0))), (y4, .inl (G.2.2.1 0, 42, .inl (fun _ => 0)))]) ++ [(b5, .inr (3, [.ref x5, .int (-1), .int (-1)])), (x5, .inl (G.2.2.1 0, 4, .inl (fun _ => 0)))]) ++ [(b6, .inr (5, [.ref b4, .ref b5, .int 0, .int 0]))]) ++ [(b7, .inr (6, [.ref x7, .ref y7, .ref z7, .int 0, .int 0, .int 0])), (x7, .inl (G.2.2.1 1, 60, .inl (fun _ => gx_chr 0))), (y7, .inl (G.2.2.1 1, 30, .inl (fun _ => gx_chr 0))), (z7, .inl (G.2.2.1 0, 120, .inl (fun _ => 0)))])) H := hP
  have hD : va_D A ((h0, .inr (8, [.ref b0, .ref b1, .ref b2, .int 0, .ref b3, .ref b4, .ref b5, .ref b6, .int 0, .null, .int 0, .null, .int 0])) :: ((((((((([] : va_W) ++ gx_wl G b0 x0 y0 z0) ++ gx_wl G b1 x1 y1 z1) ++ gx_wl G b2 x2 y2 z2) ++ gx_hl G b3 x3 L3) ++ [(b4, .inr (2, [.ref x4, .ref y4, .int 0])), (x4, .inl (G.2.2.1 2, 42, .inl (fun _ => gx_boo 0))), (y4, .inl (G.2.2.1 0, 42, .inl (fun _ => 0)))]) ++ [(b5, .inr (3, [.ref x5, .int (-1), .int (-1)])), (x5, .inl (G.2.2.1 0, 4, .inl (fun _ => 0)))]) ++ [(b6, .inr (5, [.ref b4, .ref b5, .int 0, .int 0]))]) ++ [(b7, .inr (6, [.ref x7, .ref y7, .ref z7, .int 0, .int 0, .int 0])), (x7, .inl (G.2.2.1 1, 60, .inl (fun _ => gx_chr 0))), (y7, .inl (G.2.2.1 1, 30, .inl (fun _ => gx_chr 0))), (z7, .inl (G.2.2.1 0, 120, .inl (fun _ => 0)))])) := hD
  refine W.widen (k := 56) (n := 1315) (by omega) (by omega) ?_
  refine gx_putF (pc := 107) (ci := 8) (v := .ref b7) (ty := (.object "GluedWall$Text")) hx hb hV gl_X6 tyX6 tyX6_ok nmX6 hown hP hD hS rfl 9 (by decide) rfl rfl hmn (by decide +kernel) rfl rfl (Nat.le_of_ble_eq_true rfl) (gv_242 hV) dX6_init_107 (fun H locs hP hD hS => ?_)
  have hP : va_P G.1 vwCl ((h0, .inr (8, [.ref b0, .ref b1, .ref b2, .int 0, .ref b3, .ref b4, .ref b5, .ref b6, .int 0, .ref b7, .int 0, .null, .int 0])) :: ((((((((([] : va_W) ++ gx_wl G b0 x0 y0 z0) ++ gx_wl G b1 x1 y1 z1) ++ gx_wl G b2 x2 y2 z2) ++ gx_hl G b3 x3 L3) ++ [(b4, .inr (2, [.ref x4, .ref y4, .int 0])), (x4, .inl (G.2.2.1 2, 42, .inl (fun _ => gx_boo 0))), (y4, .inl (G.2.2.1 0, 42, .inl (fun _ => 0)))]) ++ [(b5, .inr (3, [.ref x5, .int (-1), .int (-1)])), (x5, .inl (G.2.2.1 0, 4, .inl (fun _ => 0)))]) ++ [(b6, .inr (5, [.ref b4, .ref b5, .int 0, .int 0]))]) ++ [(b7, .inr (6, [.ref x7, .ref y7, .ref z7, .int 0, .int 0, .int 0])), (x7, .inl (G.2.2.1 1, 60, .inl (fun _ => gx_chr 0))), (y7, .inl (G.2.2.1 1, 30, .inl (fun _ => gx_chr 0))), (z7, .inl (G.2.2.1 0, 120, .inl (fun _ => 0)))])) H := hP
  have hD : va_D A ((h0, .inr (8, [.ref b0, .ref b1, .ref b2, .int 0, .ref b3, .ref b4, .ref b5, .ref b6, .int 0, .ref b7, .int 0, .null, .int 0])) :: ((((((((([] : va_W) ++ gx_wl G b0 x0 y0 z0) ++ gx_wl G b1 x1 y1 z1) ++ gx_wl G b2 x2 y2 z2) ++ gx_hl G b3 x3 L3) ++ [(b4, .inr (2, [.ref x4, .ref y4, .int 0])), (x4, .inl (G.2.2.1 2, 42, .inl (fun _ => gx_boo 0))), (y4, .inl (G.2.2.1 0, 42, .inl (fun _ => 0)))]) ++ [(b5, .inr (3, [.ref x5, .int (-1), .int (-1)])), (x5, .inl (G.2.2.1 0, 4, .inl (fun _ => 0)))]) ++ [(b6, .inr (5, [.ref b4, .ref b5, .int 0, .int 0]))]) ++ [(b7, .inr (6, [.ref x7, .ref y7, .ref z7, .int 0, .int 0, .int 0])), (x7, .inl (G.2.2.1 1, 60, .inl (fun _ => gx_chr 0))), (y7, .inl (G.2.2.1 1, 30, .inl (fun _ => gx_chr 0))), (z7, .inl (G.2.2.1 0, 120, .inl (fun _ => 0)))])) := hD
  refine lv_aload_n (pc := 110) hx hb dX6_init_110 rfl (lv_at hl 0 rfl) ?_
  refine lv_iconst (pc := 111) (v := (-1)) hx hb dX6_init_111 (by decide) ?_
  refine gx_putN (pc := 112) (ci := 8) (v := .int (-1)) (ty := .int) hx hb hV gl_X6 tyX6 tyX6_ok nmX6 hown hP hD hS rfl 10 (by decide) rfl rfl (by decide +kernel) rfl rfl (Nat.le_of_ble_eq_true rfl) (gv_243 hV) dX6_init_112 (fun H locs hP hD hS => ?_)
  have hP : va_P G.1 vwCl ((h0, .inr (8, [.ref b0, .ref b1, .ref b2, .int 0, .ref b3, .ref b4, .ref b5, .ref b6, .int 0, .ref b7, .int (-1), .null, .int 0])) :: ((((((((([] : va_W) ++ gx_wl G b0 x0 y0 z0) ++ gx_wl G b1 x1 y1 z1) ++ gx_wl G b2 x2 y2 z2) ++ gx_hl G b3 x3 L3) ++ [(b4, .inr (2, [.ref x4, .ref y4, .int 0])), (x4, .inl (G.2.2.1 2, 42, .inl (fun _ => gx_boo 0))), (y4, .inl (G.2.2.1 0, 42, .inl (fun _ => 0)))]) ++ [(b5, .inr (3, [.ref x5, .int (-1), .int (-1)])), (x5, .inl (G.2.2.1 0, 4, .inl (fun _ => 0)))]) ++ [(b6, .inr (5, [.ref b4, .ref b5, .int 0, .int 0]))]) ++ [(b7, .inr (6, [.ref x7, .ref y7, .ref z7, .int 0, .int 0, .int 0])), (x7, .inl (G.2.2.1 1, 60, .inl (fun _ => gx_chr 0))), (y7, .inl (G.2.2.1 1, 30, .inl (fun _ => gx_chr 0))), (z7, .inl (G.2.2.1 0, 120, .inl (fun _ => 0)))])) H := hP
  have hD : va_D A ((h0, .inr (8, [.ref b0, .ref b1, .ref b2, .int 0, .ref b3, .ref b4, .ref b5, .ref b6, .int 0, .ref b7, .int (-1), .null, .int 0])) :: ((((((((([] : va_W) ++ gx_wl G b0 x0 y0 z0) ++ gx_wl G b1 x1 y1 z1) ++ gx_wl G b2 x2 y2 z2) ++ gx_hl G b3 x3 L3) ++ [(b4, .inr (2, [.ref x4, .ref y4, .int 0])), (x4, .inl (G.2.2.1 2, 42, .inl (fun _ => gx_boo 0))), (y4, .inl (G.2.2.1 0, 42, .inl (fun _ => 0)))]) ++ [(b5, .inr (3, [.ref x5, .int (-1), .int (-1)])), (x5, .inl (G.2.2.1 0, 4, .inl (fun _ => 0)))]) ++ [(b6, .inr (5, [.ref b4, .ref b5, .int 0, .int 0]))]) ++ [(b7, .inr (6, [.ref x7, .ref y7, .ref z7, .int 0, .int 0, .int 0])), (x7, .inl (G.2.2.1 1, 60, .inl (fun _ => gx_chr 0))), (y7, .inl (G.2.2.1 1, 30, .inl (fun _ => gx_chr 0))), (z7, .inl (G.2.2.1 0, 120, .inl (fun _ => 0)))])) := hD
  refine lv_aload_n (pc := 115) hx hb dX6_init_115 rfl (lv_at hl 0 rfl) ?_
  refine lv_bipush (pc := 116) (v := 28) hx hb dX6_init_116 (by decide) ?_
  refine gx_newa (pc := 118) (ty := .char) (N' := 28) (a0 := (28, .inl (fun _ => gx_chr 0))) hx hb (gx_ac1 hV) rfl hV.K hP hD hS hA 1 rfl (fun _ => by rw [gx_c0]; rfl) (by decide) (by decide) (by decide) (Nat.le_of_ble_eq_true rfl) (Nat.le_of_ble_eq_true rfl) dX6_init_118 (fun q1 H hP hD hS => ?_)
  have hP : va_P G.1 vwCl ((h0, .inr (8, [.ref b0, .ref b1, .ref b2, .int 0, .ref b3, .ref b4, .ref b5, .ref b6, .int 0, .ref b7, .int (-1), .null, .int 0])) :: (((((((((([] : va_W) ++ gx_wl G b0 x0 y0 z0) ++ gx_wl G b1 x1 y1 z1) ++ gx_wl G b2 x2 y2 z2) ++ gx_hl G b3 x3 L3) ++ [(b4, .inr (2, [.ref x4, .ref y4, .int 0])), (x4, .inl (G.2.2.1 2, 42, .inl (fun _ => gx_boo 0))), (y4, .inl (G.2.2.1 0, 42, .inl (fun _ => 0)))]) ++ [(b5, .inr (3, [.ref x5, .int (-1), .int (-1)])), (x5, .inl (G.2.2.1 0, 4, .inl (fun _ => 0)))]) ++ [(b6, .inr (5, [.ref b4, .ref b5, .int 0, .int 0]))]) ++ [(b7, .inr (6, [.ref x7, .ref y7, .ref z7, .int 0, .int 0, .int 0])), (x7, .inl (G.2.2.1 1, 60, .inl (fun _ => gx_chr 0))), (y7, .inl (G.2.2.1 1, 30, .inl (fun _ => gx_chr 0))), (z7, .inl (G.2.2.1 0, 120, .inl (fun _ => 0)))]) ++ [(q1, .inl (G.2.2.1 1, 28, .inl (fun _ => gx_chr 0)))])) H := hP
  have hD : va_D A ((h0, .inr (8, [.ref b0, .ref b1, .ref b2, .int 0, .ref b3, .ref b4, .ref b5, .ref b6, .int 0, .ref b7, .int (-1), .null, .int 0])) :: (((((((((([] : va_W) ++ gx_wl G b0 x0 y0 z0) ++ gx_wl G b1 x1 y1 z1) ++ gx_wl G b2 x2 y2 z2) ++ gx_hl G b3 x3 L3) ++ [(b4, .inr (2, [.ref x4, .ref y4, .int 0])), (x4, .inl (G.2.2.1 2, 42, .inl (fun _ => gx_boo 0))), (y4, .inl (G.2.2.1 0, 42, .inl (fun _ => 0)))]) ++ [(b5, .inr (3, [.ref x5, .int (-1), .int (-1)])), (x5, .inl (G.2.2.1 0, 4, .inl (fun _ => 0)))]) ++ [(b6, .inr (5, [.ref b4, .ref b5, .int 0, .int 0]))]) ++ [(b7, .inr (6, [.ref x7, .ref y7, .ref z7, .int 0, .int 0, .int 0])), (x7, .inl (G.2.2.1 1, 60, .inl (fun _ => gx_chr 0))), (y7, .inl (G.2.2.1 1, 30, .inl (fun _ => gx_chr 0))), (z7, .inl (G.2.2.1 0, 120, .inl (fun _ => 0)))]) ++ [(q1, .inl (G.2.2.1 1, 28, .inl (fun _ => gx_chr 0)))])) := hD
  refine W.widen (k := 57) (n := 1343) (by omega) (by omega) ?_
  refine gx_putF (pc := 120) (ci := 8) (v := .ref q1) (ty := (.array .char)) hx hb hV gl_X6 tyX6 tyX6_ok nmX6 hown hP hD hS rfl 11 (by decide) rfl rfl hmn (by decide +kernel) rfl rfl (Nat.le_of_ble_eq_true rfl) (gv_244 hV) dX6_init_120 (fun H locs hP hD hS => ?_)
  have hP : va_P G.1 vwCl ((h0, .inr (8, [.ref b0, .ref b1, .ref b2, .int 0, .ref b3, .ref b4, .ref b5, .ref b6, .int 0, .ref b7, .int (-1), .ref q1, .int 0])) :: (((((((((([] : va_W) ++ gx_wl G b0 x0 y0 z0) ++ gx_wl G b1 x1 y1 z1) ++ gx_wl G b2 x2 y2 z2) ++ gx_hl G b3 x3 L3) ++ [(b4, .inr (2, [.ref x4, .ref y4, .int 0])), (x4, .inl (G.2.2.1 2, 42, .inl (fun _ => gx_boo 0))), (y4, .inl (G.2.2.1 0, 42, .inl (fun _ => 0)))]) ++ [(b5, .inr (3, [.ref x5, .int (-1), .int (-1)])), (x5, .inl (G.2.2.1 0, 4, .inl (fun _ => 0)))]) ++ [(b6, .inr (5, [.ref b4, .ref b5, .int 0, .int 0]))]) ++ [(b7, .inr (6, [.ref x7, .ref y7, .ref z7, .int 0, .int 0, .int 0])), (x7, .inl (G.2.2.1 1, 60, .inl (fun _ => gx_chr 0))), (y7, .inl (G.2.2.1 1, 30, .inl (fun _ => gx_chr 0))), (z7, .inl (G.2.2.1 0, 120, .inl (fun _ => 0)))]) ++ [(q1, .inl (G.2.2.1 1, 28, .inl (fun _ => gx_chr 0)))])) H := hP
  have hD : va_D A ((h0, .inr (8, [.ref b0, .ref b1, .ref b2, .int 0, .ref b3, .ref b4, .ref b5, .ref b6, .int 0, .ref b7, .int (-1), .ref q1, .int 0])) :: (((((((((([] : va_W) ++ gx_wl G b0 x0 y0 z0) ++ gx_wl G b1 x1 y1 z1) ++ gx_wl G b2 x2 y2 z2) ++ gx_hl G b3 x3 L3) ++ [(b4, .inr (2, [.ref x4, .ref y4, .int 0])), (x4, .inl (G.2.2.1 2, 42, .inl (fun _ => gx_boo 0))), (y4, .inl (G.2.2.1 0, 42, .inl (fun _ => 0)))]) ++ [(b5, .inr (3, [.ref x5, .int (-1), .int (-1)])), (x5, .inl (G.2.2.1 0, 4, .inl (fun _ => 0)))]) ++ [(b6, .inr (5, [.ref b4, .ref b5, .int 0, .int 0]))]) ++ [(b7, .inr (6, [.ref x7, .ref y7, .ref z7, .int 0, .int 0, .int 0])), (x7, .inl (G.2.2.1 1, 60, .inl (fun _ => gx_chr 0))), (y7, .inl (G.2.2.1 1, 30, .inl (fun _ => gx_chr 0))), (z7, .inl (G.2.2.1 0, 120, .inl (fun _ => 0)))]) ++ [(q1, .inl (G.2.2.1 1, 28, .inl (fun _ => gx_chr 0)))])) := hD
  refine lv_aload_n (pc := 123) hx hb dX6_init_123 rfl (lv_at hl 0 rfl) ?_
  refine lv_iconst (pc := 124) (v := 0) hx hb dX6_init_124 (by decide) ?_
  refine gx_putN (pc := 125) (ci := 8) (v := .int 0) (ty := .int) hx hb hV gl_X6 tyX6 tyX6_ok nmX6 hown hP hD hS rfl 12 (by decide) rfl rfl (by decide +kernel) rfl rfl (Nat.le_of_ble_eq_true rfl) (gv_245 hV) dX6_init_125 (fun H locs hP hD hS => ?_)
  have hP : va_P G.1 vwCl ((h0, .inr (8, [.ref b0, .ref b1, .ref b2, .int 0, .ref b3, .ref b4, .ref b5, .ref b6, .int 0, .ref b7, .int (-1), .ref q1, .int 0])) :: (((((((((([] : va_W) ++ gx_wl G b0 x0 y0 z0) ++ gx_wl G b1 x1 y1 z1) ++ gx_wl G b2 x2 y2 z2) ++ gx_hl G b3 x3 L3) ++ [(b4, .inr (2, [.ref x4, .ref y4, .int 0])), (x4, .inl (G.2.2.1 2, 42, .inl (fun _ => gx_boo 0))), (y4, .inl (G.2.2.1 0, 42, .inl (fun _ => 0)))]) ++ [(b5, .inr (3, [.ref x5, .int (-1), .int (-1)])), (x5, .inl (G.2.2.1 0, 4, .inl (fun _ => 0)))]) ++ [(b6, .inr (5, [.ref b4, .ref b5, .int 0, .int 0]))]) ++ [(b7, .inr (6, [.ref x7, .ref y7, .ref z7, .int 0, .int 0, .int 0])), (x7, .inl (G.2.2.1 1, 60, .inl (fun _ => gx_chr 0))), (y7, .inl (G.2.2.1 1, 30, .inl (fun _ => gx_chr 0))), (z7, .inl (G.2.2.1 0, 120, .inl (fun _ => 0)))]) ++ [(q1, .inl (G.2.2.1 1, 28, .inl (fun _ => gx_chr 0)))])) H := hP
  have hD : va_D A ((h0, .inr (8, [.ref b0, .ref b1, .ref b2, .int 0, .ref b3, .ref b4, .ref b5, .ref b6, .int 0, .ref b7, .int (-1), .ref q1, .int 0])) :: (((((((((([] : va_W) ++ gx_wl G b0 x0 y0 z0) ++ gx_wl G b1 x1 y1 z1) ++ gx_wl G b2 x2 y2 z2) ++ gx_hl G b3 x3 L3) ++ [(b4, .inr (2, [.ref x4, .ref y4, .int 0])), (x4, .inl (G.2.2.1 2, 42, .inl (fun _ => gx_boo 0))), (y4, .inl (G.2.2.1 0, 42, .inl (fun _ => 0)))]) ++ [(b5, .inr (3, [.ref x5, .int (-1), .int (-1)])), (x5, .inl (G.2.2.1 0, 4, .inl (fun _ => 0)))]) ++ [(b6, .inr (5, [.ref b4, .ref b5, .int 0, .int 0]))]) ++ [(b7, .inr (6, [.ref x7, .ref y7, .ref z7, .int 0, .int 0, .int 0])), (x7, .inl (G.2.2.1 1, 60, .inl (fun _ => gx_chr 0))), (y7, .inl (G.2.2.1 1, 30, .inl (fun _ => gx_chr 0))), (z7, .inl (G.2.2.1 0, 120, .inl (fun _ => 0)))]) ++ [(q1, .inl (G.2.2.1 1, 28, .inl (fun _ => gx_chr 0)))])) := hD
  exact gx_retI hx hb hr hlocks hP hD hS ⟨L3, [b0, x0, y0, z0, b1, x1, y1, z1, b2, x2, y2, z2, b3, x3, b4, x4, y4, b5, x5, b6, b7, x7, y7, z7, q1], by rw [gx_gl, gx_vb0]; rfl⟩ dX6_init_128
section GXL7
variable {p : Program} {l : Launch} {e : Env} {R : Room} {s : State} {m : MethodId} {args : Array Value} {below : List Frame} {meth : Method} {c : Code} {cells slots : Nat} {G : gx_G} {A : Nat → Prop} {h0 q1 : Nat} {W1 : va_W}
set_option maxHeartbeats 1000000 in
set_option maxRecDepth 100000 in
theorem i_X7_loop (hx : p.tables.exec = Jvm.exec) (hb : c.code = cX7_init) (hr : meth.sig.returnType = none) (hown : s.vm.findClass RX7 = some m.cls) (hlocks : meth.locks = false) (hV : gx_V0 G s) (hA : ∀ q : Nat, s.heap.size ≤ q → A q) {post : va_W → Prop} {ta : List Value} (hpost : post ((h0, .inr (9, ta)) :: (q1, .inl (G.2.2.1 0, 87, .inl gx_g0)) :: W1)) (hta : ta[0]? = some (.ref q1)) : ∀ (n j : Nat), j + n = 42 → ∀ (f : Nat → Int32) (H : Heap) (locs : List Loc) (ls : Array Slot), (∀ k, k < 45 + j → f k = gx_g0 k) → lv_has ls 2 [(1, .int (Int32.ofNat j)), (0, .ref h0)] → va_P G.1 vwCl ((h0, .inr (9, ta)) :: (q1, .inl (G.2.2.1 0, 87, .inl f)) :: W1) H → va_D A ((h0, .inr (9, ta)) :: (q1, .inl (G.2.2.1 0, 87, .inl f)) :: W1) → va_S A s.heap H locs → W p l e R s m args below meth c H locs cells slots (MQ below (va_Qv post (gx_BI G A) A) args s cells slots A) (F0 m 123 ls []) := by
  intro n
  induction n with
  | zero =>
    intro j hj f H locs ls hf hl hP hD hS
    have h42 : j = 42 := by omega
    subst h42
    refine lv_iload_n (pc := 123) hx hb dX7_init_123 rfl (lv_at hl 0 rfl) ?_
    refine lv_bipush (pc := 124) (v := 42) hx hb dX7_init_124 (by decide) ?_
    refine lv_icmp_ge (pc := 126) (tgt := 145) hx hb dX7_init_126 (by decide) (fun _ => ?_) (fun hc => absurd (by decide) hc)
    obtain ⟨hP2, hD2⟩ := gx_swap hP hD 1 rfl (gx_ati (g := gx_g0) (fun j hj => hf j hj))
    exact gx_retI hx hb hr hlocks hP2 hD2 hS hpost dX7_init_145
  | succ n ih =>
    intro j hj f H locs ls hf hl hP hD hS
    have hj2 : j < 42 := by omega
    obtain ⟨n1, n2, n3, n4, n5⟩ := gx_nat42 j (by omega)
    refine lv_iload_n (pc := 123) hx hb dX7_init_123 rfl (lv_at hl 0 rfl) ?_
    refine lv_bipush (pc := 124) (v := 42) hx hb dX7_init_124 (by decide) ?_
    refine lv_icmp_ge (pc := 126) (tgt := 145) hx hb dX7_init_126 (by decide) (fun hc => absurd ((gx_lt42 j (by omega)).mp hc) (by omega)) (fun _ => ?_)
    refine lv_aload_n (pc := 129) hx hb dX7_init_129 rfl (lv_at hl 1 rfl) ?_
    refine gx_getI (pc := 130) (ci := 9) (v := .ref q1) hx hb hV gl_X7 hown hP rfl 0 (by decide) rfl hta (gv_1018 hV) dX7_init_130 ?_
    refine lv_bipush (pc := 133) (v := 45) hx hb dX7_init_133 (by decide) ?_
    refine lv_iload_n (pc := 135) hx hb dX7_init_135 rfl (lv_at hl 0 rfl) ?_
    refine lv_iadd (pc := 136) hx hb dX7_init_136 ?_
    refine lv_iconst (pc := 137) (v := -1) hx hb dX7_init_137 (by decide) ?_
    refine va_iast (pc := 138) hx hb hV.K hP hD hS 1 0 rfl rfl (fun q => ?_) dX7_init_138 (fun H locs hP hD hS => ?_)
    · rw [n3] at q
      rcases q with q | q
      · exact n5 q
      · omega
    rw [n3] at hP hD
    refine lv_iinc (pc := 139) (v := Int32.ofNat (j + 1)) (lv' := [(1, .int (Int32.ofNat (j + 1))), (0, .ref h0)]) hx hb dX7_init_139 hl (k := 0) rfl n2 (by decide) rfl (fun ls hl => ?_)
    refine lv_goto (pc := 142) (tgt := 123) hx hb dX7_init_142 (by decide) ?_
    refine ih (j + 1) (by omega) (upd f (45 + j) (-1)) H locs ls (fun k hk => ?_) hl hP hD hS
    by_cases h : k = 45 + j
    · subst h; simp [upd]; exact (gx_g0_ge _ (by omega)).symm
    · simp [upd, h]; exact hf k (by omega)
end GXL7
set_option maxHeartbeats 1000000 in
set_option maxRecDepth 100000 in
theorem i_X7 (l : Launch) (G : gx_G) (h0 : Nat) (sz : Nat) : gx_KI l yX7_init cX7_init 2 ({ frames := 1, cells := 9, slots := 1364, locals := 12 }) ([.ref h0]) G [(h0, .inr (9, [.null, .null, .null, .null, .null, .int 0, .int 0, .int 0, .int 0, .int 0, .int 0, .int 0, .int 0, .null, .int 0, .int 0, .null, .int 0, .null, .int 0, .null, .int 0]))] sz (fun w => ∃ K : List Nat, w = gx_ml G h0 K) 9 1364 := by
  refine gx_beginI (by decide) rfl (Nat.le_of_ble_eq_true rfl) ?_
  intro p e s m below meth c A hx hb hr hml hown hlocks hmn hV hP hD hA ls hl
  have hS : va_S A s.heap s.heap [] := va_S.rf
  refine lv_aload_n (pc := 0) hx hb dX7_init_0 rfl (lv_at hl 0 rfl) ?_
  refine W.objInit hx hb hown (gv_1017 hV) (gv_76 hV) (gv_77 hV) rfl (by rw [hml]; exact hl.1) rfl dX7_init_1 (Nat.le_of_ble_eq_true rfl) (Nat.le_of_ble_eq_true rfl) ?_
  refine W.eq (g2 := F0 m 4 ls []) rfl ?_
  refine lv_aload_n (pc := 4) hx hb dX7_init_4 rfl (lv_at hl 0 rfl) ?_
  refine lv_bipush (pc := 5) (v := 87) hx hb dX7_init_5 (by decide) ?_
  refine gx_newa (pc := 7) (ty := .int) (N' := 87) (a0 := (87, .inl (fun _ => 0))) hx hb (gx_ac0 hV) rfl hV.K hP hD hS hA 0 rfl (fun _ => by rfl) (by decide) (by decide) (by decide) (Nat.le_of_ble_eq_true rfl) (Nat.le_of_ble_eq_true rfl) dX7_init_7 (fun q1 H hP hD hS => ?_)
  have hP : va_P G.1 vwCl ((h0, .inr (9, [.null, .null, .null, .null, .null, .int 0, .int 0, .int 0, .int 0, .int 0, .int 0, .int 0, .int 0, .null, .int 0, .int 0, .null, .int 0, .null, .int 0, .null, .int 0])) :: [(q1, .inl (G.2.2.1 0, 87, .inl (fun _ => 0)))]) H := hP
  have hD : va_D A ((h0, .inr (9, [.null, .null, .null, .null, .null, .int 0, .int 0, .int 0, .int 0, .int 0, .int 0, .int 0, .int 0, .null, .int 0, .int 0, .null, .int 0, .null, .int 0, .null, .int 0])) :: [(q1, .inl (G.2.2.1 0, 87, .inl (fun _ => 0)))]) := hD
  refine W.widen (k := 1) (n := 87) (by omega) (by omega) ?_
  refine gx_putF (pc := 9) (ci := 9) (v := .ref q1) (ty := (.array .int)) hx hb hV gl_X7 tyX7 tyX7_ok nmX7 hown hP hD hS rfl 0 (by decide) rfl rfl hmn (by decide +kernel) rfl rfl (Nat.le_of_ble_eq_true rfl) (gv_1018 hV) dX7_init_9 (fun H locs hP hD hS => ?_)
  have hP : va_P G.1 vwCl ((h0, .inr (9, [.ref q1, .null, .null, .null, .null, .int 0, .int 0, .int 0, .int 0, .int 0, .int 0, .int 0, .int 0, .null, .int 0, .int 0, .null, .int 0, .null, .int 0, .null, .int 0])) :: [(q1, .inl (G.2.2.1 0, 87, .inl (fun _ => 0)))]) H := hP
  have hD : va_D A ((h0, .inr (9, [.ref q1, .null, .null, .null, .null, .int 0, .int 0, .int 0, .int 0, .int 0, .int 0, .int 0, .int 0, .null, .int 0, .int 0, .null, .int 0, .null, .int 0, .null, .int 0])) :: [(q1, .inl (G.2.2.1 0, 87, .inl (fun _ => 0)))]) := hD
  refine lv_aload_n (pc := 12) hx hb dX7_init_12 rfl (lv_at hl 0 rfl) ?_
  refine lv_sipush (pc := 13) (v := 696) hx hb dX7_init_13 (by decide) ?_
  refine gx_newa (pc := 16) (ty := .int) (N' := 696) (a0 := (696, .inl (fun _ => 0))) hx hb (gx_ac0 hV) rfl hV.K hP hD hS hA 0 rfl (fun _ => by rfl) (by decide) (by decide) (by decide) (Nat.le_of_ble_eq_true rfl) (Nat.le_of_ble_eq_true rfl) dX7_init_16 (fun q2 H hP hD hS => ?_)
  have hP : va_P G.1 vwCl ((h0, .inr (9, [.ref q1, .null, .null, .null, .null, .int 0, .int 0, .int 0, .int 0, .int 0, .int 0, .int 0, .int 0, .null, .int 0, .int 0, .null, .int 0, .null, .int 0, .null, .int 0])) :: [(q1, .inl (G.2.2.1 0, 87, .inl (fun _ => 0))), (q2, .inl (G.2.2.1 0, 696, .inl (fun _ => 0)))]) H := hP
  have hD : va_D A ((h0, .inr (9, [.ref q1, .null, .null, .null, .null, .int 0, .int 0, .int 0, .int 0, .int 0, .int 0, .int 0, .int 0, .null, .int 0, .int 0, .null, .int 0, .null, .int 0, .null, .int 0])) :: [(q1, .inl (G.2.2.1 0, 87, .inl (fun _ => 0))), (q2, .inl (G.2.2.1 0, 696, .inl (fun _ => 0)))]) := hD
  refine W.widen (k := 2) (n := 783) (by omega) (by omega) ?_
  refine gx_putF (pc := 18) (ci := 9) (v := .ref q2) (ty := (.array .int)) hx hb hV gl_X7 tyX7 tyX7_ok nmX7 hown hP hD hS rfl 1 (by decide) rfl rfl hmn (by decide +kernel) rfl rfl (Nat.le_of_ble_eq_true rfl) (gv_1019 hV) dX7_init_18 (fun H locs hP hD hS => ?_)
  have hP : va_P G.1 vwCl ((h0, .inr (9, [.ref q1, .ref q2, .null, .null, .null, .int 0, .int 0, .int 0, .int 0, .int 0, .int 0, .int 0, .int 0, .null, .int 0, .int 0, .null, .int 0, .null, .int 0, .null, .int 0])) :: [(q1, .inl (G.2.2.1 0, 87, .inl (fun _ => 0))), (q2, .inl (G.2.2.1 0, 696, .inl (fun _ => 0)))]) H := hP
  have hD : va_D A ((h0, .inr (9, [.ref q1, .ref q2, .null, .null, .null, .int 0, .int 0, .int 0, .int 0, .int 0, .int 0, .int 0, .int 0, .null, .int 0, .int 0, .null, .int 0, .null, .int 0, .null, .int 0])) :: [(q1, .inl (G.2.2.1 0, 87, .inl (fun _ => 0))), (q2, .inl (G.2.2.1 0, 696, .inl (fun _ => 0)))]) := hD
  refine lv_aload_n (pc := 21) hx hb dX7_init_21 rfl (lv_at hl 0 rfl) ?_
  refine lv_bipush (pc := 22) (v := 87) hx hb dX7_init_22 (by decide) ?_
  refine gx_newa (pc := 24) (ty := .int) (N' := 87) (a0 := (87, .inl (fun _ => 0))) hx hb (gx_ac0 hV) rfl hV.K hP hD hS hA 0 rfl (fun _ => by rfl) (by decide) (by decide) (by decide) (Nat.le_of_ble_eq_true rfl) (Nat.le_of_ble_eq_true rfl) dX7_init_24 (fun q3 H hP hD hS => ?_)
  have hP : va_P G.1 vwCl ((h0, .inr (9, [.ref q1, .ref q2, .null, .null, .null, .int 0, .int 0, .int 0, .int 0, .int 0, .int 0, .int 0, .int 0, .null, .int 0, .int 0, .null, .int 0, .null, .int 0, .null, .int 0])) :: [(q1, .inl (G.2.2.1 0, 87, .inl (fun _ => 0))), (q2, .inl (G.2.2.1 0, 696, .inl (fun _ => 0))), (q3, .inl (G.2.2.1 0, 87, .inl (fun _ => 0)))]) H := hP
  have hD : va_D A ((h0, .inr (9, [.ref q1, .ref q2, .null, .null, .null, .int 0, .int 0, .int 0, .int 0, .int 0, .int 0, .int 0, .int 0, .null, .int 0, .int 0, .null, .int 0, .null, .int 0, .null, .int 0])) :: [(q1, .inl (G.2.2.1 0, 87, .inl (fun _ => 0))), (q2, .inl (G.2.2.1 0, 696, .inl (fun _ => 0))), (q3, .inl (G.2.2.1 0, 87, .inl (fun _ => 0)))]) := hD
  refine W.widen (k := 3) (n := 870) (by omega) (by omega) ?_
  refine gx_putF (pc := 26) (ci := 9) (v := .ref q3) (ty := (.array .int)) hx hb hV gl_X7 tyX7 tyX7_ok nmX7 hown hP hD hS rfl 2 (by decide) rfl rfl hmn (by decide +kernel) rfl rfl (Nat.le_of_ble_eq_true rfl) (gv_1020 hV) dX7_init_26 (fun H locs hP hD hS => ?_)
  have hP : va_P G.1 vwCl ((h0, .inr (9, [.ref q1, .ref q2, .ref q3, .null, .null, .int 0, .int 0, .int 0, .int 0, .int 0, .int 0, .int 0, .int 0, .null, .int 0, .int 0, .null, .int 0, .null, .int 0, .null, .int 0])) :: [(q1, .inl (G.2.2.1 0, 87, .inl (fun _ => 0))), (q2, .inl (G.2.2.1 0, 696, .inl (fun _ => 0))), (q3, .inl (G.2.2.1 0, 87, .inl (fun _ => 0)))]) H := hP
  have hD : va_D A ((h0, .inr (9, [.ref q1, .ref q2, .ref q3, .null, .null, .int 0, .int 0, .int 0, .int 0, .int 0, .int 0, .int 0, .int 0, .null, .int 0, .int 0, .null, .int 0, .null, .int 0, .null, .int 0])) :: [(q1, .inl (G.2.2.1 0, 87, .inl (fun _ => 0))), (q2, .inl (G.2.2.1 0, 696, .inl (fun _ => 0))), (q3, .inl (G.2.2.1 0, 87, .inl (fun _ => 0)))]) := hD
  refine lv_aload_n (pc := 29) hx hb dX7_init_29 rfl (lv_at hl 0 rfl) ?_
  refine lv_bipush (pc := 30) (v := 87) hx hb dX7_init_30 (by decide) ?_
  refine gx_newa (pc := 32) (ty := .int) (N' := 87) (a0 := (87, .inl (fun _ => 0))) hx hb (gx_ac0 hV) rfl hV.K hP hD hS hA 0 rfl (fun _ => by rfl) (by decide) (by decide) (by decide) (Nat.le_of_ble_eq_true rfl) (Nat.le_of_ble_eq_true rfl) dX7_init_32 (fun q4 H hP hD hS => ?_)
  have hP : va_P G.1 vwCl ((h0, .inr (9, [.ref q1, .ref q2, .ref q3, .null, .null, .int 0, .int 0, .int 0, .int 0, .int 0, .int 0, .int 0, .int 0, .null, .int 0, .int 0, .null, .int 0, .null, .int 0, .null, .int 0])) :: [(q1, .inl (G.2.2.1 0, 87, .inl (fun _ => 0))), (q2, .inl (G.2.2.1 0, 696, .inl (fun _ => 0))), (q3, .inl (G.2.2.1 0, 87, .inl (fun _ => 0))), (q4, .inl (G.2.2.1 0, 87, .inl (fun _ => 0)))]) H := hP
  have hD : va_D A ((h0, .inr (9, [.ref q1, .ref q2, .ref q3, .null, .null, .int 0, .int 0, .int 0, .int 0, .int 0, .int 0, .int 0, .int 0, .null, .int 0, .int 0, .null, .int 0, .null, .int 0, .null, .int 0])) :: [(q1, .inl (G.2.2.1 0, 87, .inl (fun _ => 0))), (q2, .inl (G.2.2.1 0, 696, .inl (fun _ => 0))), (q3, .inl (G.2.2.1 0, 87, .inl (fun _ => 0))), (q4, .inl (G.2.2.1 0, 87, .inl (fun _ => 0)))]) := hD
  refine W.widen (k := 4) (n := 957) (by omega) (by omega) ?_
  refine gx_putF (pc := 34) (ci := 9) (v := .ref q4) (ty := (.array .int)) hx hb hV gl_X7 tyX7 tyX7_ok nmX7 hown hP hD hS rfl 3 (by decide) rfl rfl hmn (by decide +kernel) rfl rfl (Nat.le_of_ble_eq_true rfl) (gv_1021 hV) dX7_init_34 (fun H locs hP hD hS => ?_)
  have hP : va_P G.1 vwCl ((h0, .inr (9, [.ref q1, .ref q2, .ref q3, .ref q4, .null, .int 0, .int 0, .int 0, .int 0, .int 0, .int 0, .int 0, .int 0, .null, .int 0, .int 0, .null, .int 0, .null, .int 0, .null, .int 0])) :: [(q1, .inl (G.2.2.1 0, 87, .inl (fun _ => 0))), (q2, .inl (G.2.2.1 0, 696, .inl (fun _ => 0))), (q3, .inl (G.2.2.1 0, 87, .inl (fun _ => 0))), (q4, .inl (G.2.2.1 0, 87, .inl (fun _ => 0)))]) H := hP
  have hD : va_D A ((h0, .inr (9, [.ref q1, .ref q2, .ref q3, .ref q4, .null, .int 0, .int 0, .int 0, .int 0, .int 0, .int 0, .int 0, .int 0, .null, .int 0, .int 0, .null, .int 0, .null, .int 0, .null, .int 0])) :: [(q1, .inl (G.2.2.1 0, 87, .inl (fun _ => 0))), (q2, .inl (G.2.2.1 0, 696, .inl (fun _ => 0))), (q3, .inl (G.2.2.1 0, 87, .inl (fun _ => 0))), (q4, .inl (G.2.2.1 0, 87, .inl (fun _ => 0)))]) := hD
  refine lv_aload_n (pc := 37) hx hb dX7_init_37 rfl (lv_at hl 0 rfl) ?_
  refine lv_bipush (pc := 38) (v := 87) hx hb dX7_init_38 (by decide) ?_
  refine gx_newa (pc := 40) (ty := .int) (N' := 87) (a0 := (87, .inl (fun _ => 0))) hx hb (gx_ac0 hV) rfl hV.K hP hD hS hA 0 rfl (fun _ => by rfl) (by decide) (by decide) (by decide) (Nat.le_of_ble_eq_true rfl) (Nat.le_of_ble_eq_true rfl) dX7_init_40 (fun q5 H hP hD hS => ?_)
  have hP : va_P G.1 vwCl ((h0, .inr (9, [.ref q1, .ref q2, .ref q3, .ref q4, .null, .int 0, .int 0, .int 0, .int 0, .int 0, .int 0, .int 0, .int 0, .null, .int 0, .int 0, .null, .int 0, .null, .int 0, .null, .int 0])) :: [(q1, .inl (G.2.2.1 0, 87, .inl (fun _ => 0))), (q2, .inl (G.2.2.1 0, 696, .inl (fun _ => 0))), (q3, .inl (G.2.2.1 0, 87, .inl (fun _ => 0))), (q4, .inl (G.2.2.1 0, 87, .inl (fun _ => 0))), (q5, .inl (G.2.2.1 0, 87, .inl (fun _ => 0)))]) H := hP
  have hD : va_D A ((h0, .inr (9, [.ref q1, .ref q2, .ref q3, .ref q4, .null, .int 0, .int 0, .int 0, .int 0, .int 0, .int 0, .int 0, .int 0, .null, .int 0, .int 0, .null, .int 0, .null, .int 0, .null, .int 0])) :: [(q1, .inl (G.2.2.1 0, 87, .inl (fun _ => 0))), (q2, .inl (G.2.2.1 0, 696, .inl (fun _ => 0))), (q3, .inl (G.2.2.1 0, 87, .inl (fun _ => 0))), (q4, .inl (G.2.2.1 0, 87, .inl (fun _ => 0))), (q5, .inl (G.2.2.1 0, 87, .inl (fun _ => 0)))]) := hD
  refine W.widen (k := 5) (n := 1044) (by omega) (by omega) ?_
  refine gx_putF (pc := 42) (ci := 9) (v := .ref q5) (ty := (.array .int)) hx hb hV gl_X7 tyX7 tyX7_ok nmX7 hown hP hD hS rfl 4 (by decide) rfl rfl hmn (by decide +kernel) rfl rfl (Nat.le_of_ble_eq_true rfl) (gv_1022 hV) dX7_init_42 (fun H locs hP hD hS => ?_)
  have hP : va_P G.1 vwCl ((h0, .inr (9, [.ref q1, .ref q2, .ref q3, .ref q4, .ref q5, .int 0, .int 0, .int 0, .int 0, .int 0, .int 0, .int 0, .int 0, .null, .int 0, .int 0, .null, .int 0, .null, .int 0, .null, .int 0])) :: [(q1, .inl (G.2.2.1 0, 87, .inl (fun _ => 0))), (q2, .inl (G.2.2.1 0, 696, .inl (fun _ => 0))), (q3, .inl (G.2.2.1 0, 87, .inl (fun _ => 0))), (q4, .inl (G.2.2.1 0, 87, .inl (fun _ => 0))), (q5, .inl (G.2.2.1 0, 87, .inl (fun _ => 0)))]) H := hP
  have hD : va_D A ((h0, .inr (9, [.ref q1, .ref q2, .ref q3, .ref q4, .ref q5, .int 0, .int 0, .int 0, .int 0, .int 0, .int 0, .int 0, .int 0, .null, .int 0, .int 0, .null, .int 0, .null, .int 0, .null, .int 0])) :: [(q1, .inl (G.2.2.1 0, 87, .inl (fun _ => 0))), (q2, .inl (G.2.2.1 0, 696, .inl (fun _ => 0))), (q3, .inl (G.2.2.1 0, 87, .inl (fun _ => 0))), (q4, .inl (G.2.2.1 0, 87, .inl (fun _ => 0))), (q5, .inl (G.2.2.1 0, 87, .inl (fun _ => 0)))]) := hD
  refine lv_aload_n (pc := 45) hx hb dX7_init_45 rfl (lv_at hl 0 rfl) ?_
  refine lv_bipush (pc := 46) (v := 60) hx hb dX7_init_46 (by decide) ?_
  refine gx_newa (pc := 48) (ty := .int) (N' := 60) (a0 := (60, .inl (fun _ => 0))) hx hb (gx_ac0 hV) rfl hV.K hP hD hS hA 0 rfl (fun _ => by rfl) (by decide) (by decide) (by decide) (Nat.le_of_ble_eq_true rfl) (Nat.le_of_ble_eq_true rfl) dX7_init_48 (fun q6 H hP hD hS => ?_)
  have hP : va_P G.1 vwCl ((h0, .inr (9, [.ref q1, .ref q2, .ref q3, .ref q4, .ref q5, .int 0, .int 0, .int 0, .int 0, .int 0, .int 0, .int 0, .int 0, .null, .int 0, .int 0, .null, .int 0, .null, .int 0, .null, .int 0])) :: [(q1, .inl (G.2.2.1 0, 87, .inl (fun _ => 0))), (q2, .inl (G.2.2.1 0, 696, .inl (fun _ => 0))), (q3, .inl (G.2.2.1 0, 87, .inl (fun _ => 0))), (q4, .inl (G.2.2.1 0, 87, .inl (fun _ => 0))), (q5, .inl (G.2.2.1 0, 87, .inl (fun _ => 0))), (q6, .inl (G.2.2.1 0, 60, .inl (fun _ => 0)))]) H := hP
  have hD : va_D A ((h0, .inr (9, [.ref q1, .ref q2, .ref q3, .ref q4, .ref q5, .int 0, .int 0, .int 0, .int 0, .int 0, .int 0, .int 0, .int 0, .null, .int 0, .int 0, .null, .int 0, .null, .int 0, .null, .int 0])) :: [(q1, .inl (G.2.2.1 0, 87, .inl (fun _ => 0))), (q2, .inl (G.2.2.1 0, 696, .inl (fun _ => 0))), (q3, .inl (G.2.2.1 0, 87, .inl (fun _ => 0))), (q4, .inl (G.2.2.1 0, 87, .inl (fun _ => 0))), (q5, .inl (G.2.2.1 0, 87, .inl (fun _ => 0))), (q6, .inl (G.2.2.1 0, 60, .inl (fun _ => 0)))]) := hD
  refine W.widen (k := 6) (n := 1104) (by omega) (by omega) ?_
  refine gx_putF (pc := 50) (ci := 9) (v := .ref q6) (ty := (.array .int)) hx hb hV gl_X7 tyX7 tyX7_ok nmX7 hown hP hD hS rfl 13 (by decide) rfl rfl hmn (by decide +kernel) rfl rfl (Nat.le_of_ble_eq_true rfl) (gv_1031 hV) dX7_init_50 (fun H locs hP hD hS => ?_)
  have hP : va_P G.1 vwCl ((h0, .inr (9, [.ref q1, .ref q2, .ref q3, .ref q4, .ref q5, .int 0, .int 0, .int 0, .int 0, .int 0, .int 0, .int 0, .int 0, .ref q6, .int 0, .int 0, .null, .int 0, .null, .int 0, .null, .int 0])) :: [(q1, .inl (G.2.2.1 0, 87, .inl (fun _ => 0))), (q2, .inl (G.2.2.1 0, 696, .inl (fun _ => 0))), (q3, .inl (G.2.2.1 0, 87, .inl (fun _ => 0))), (q4, .inl (G.2.2.1 0, 87, .inl (fun _ => 0))), (q5, .inl (G.2.2.1 0, 87, .inl (fun _ => 0))), (q6, .inl (G.2.2.1 0, 60, .inl (fun _ => 0)))]) H := hP
  have hD : va_D A ((h0, .inr (9, [.ref q1, .ref q2, .ref q3, .ref q4, .ref q5, .int 0, .int 0, .int 0, .int 0, .int 0, .int 0, .int 0, .int 0, .ref q6, .int 0, .int 0, .null, .int 0, .null, .int 0, .null, .int 0])) :: [(q1, .inl (G.2.2.1 0, 87, .inl (fun _ => 0))), (q2, .inl (G.2.2.1 0, 696, .inl (fun _ => 0))), (q3, .inl (G.2.2.1 0, 87, .inl (fun _ => 0))), (q4, .inl (G.2.2.1 0, 87, .inl (fun _ => 0))), (q5, .inl (G.2.2.1 0, 87, .inl (fun _ => 0))), (q6, .inl (G.2.2.1 0, 60, .inl (fun _ => 0)))]) := hD
  refine lv_aload_n (pc := 53) hx hb dX7_init_53 rfl (lv_at hl 0 rfl) ?_
  refine lv_iconst (pc := 54) (v := (-1)) hx hb dX7_init_54 (by decide) ?_
  refine gx_putN (pc := 55) (ci := 9) (v := .int (-1)) (ty := .int) hx hb hV gl_X7 tyX7 tyX7_ok nmX7 hown hP hD hS rfl 15 (by decide) rfl rfl (by decide +kernel) rfl rfl (Nat.le_of_ble_eq_true rfl) (gv_1033 hV) dX7_init_55 (fun H locs hP hD hS => ?_)
  have hP : va_P G.1 vwCl ((h0, .inr (9, [.ref q1, .ref q2, .ref q3, .ref q4, .ref q5, .int 0, .int 0, .int 0, .int 0, .int 0, .int 0, .int 0, .int 0, .ref q6, .int 0, .int (-1), .null, .int 0, .null, .int 0, .null, .int 0])) :: [(q1, .inl (G.2.2.1 0, 87, .inl (fun _ => 0))), (q2, .inl (G.2.2.1 0, 696, .inl (fun _ => 0))), (q3, .inl (G.2.2.1 0, 87, .inl (fun _ => 0))), (q4, .inl (G.2.2.1 0, 87, .inl (fun _ => 0))), (q5, .inl (G.2.2.1 0, 87, .inl (fun _ => 0))), (q6, .inl (G.2.2.1 0, 60, .inl (fun _ => 0)))]) H := hP
  have hD : va_D A ((h0, .inr (9, [.ref q1, .ref q2, .ref q3, .ref q4, .ref q5, .int 0, .int 0, .int 0, .int 0, .int 0, .int 0, .int 0, .int 0, .ref q6, .int 0, .int (-1), .null, .int 0, .null, .int 0, .null, .int 0])) :: [(q1, .inl (G.2.2.1 0, 87, .inl (fun _ => 0))), (q2, .inl (G.2.2.1 0, 696, .inl (fun _ => 0))), (q3, .inl (G.2.2.1 0, 87, .inl (fun _ => 0))), (q4, .inl (G.2.2.1 0, 87, .inl (fun _ => 0))), (q5, .inl (G.2.2.1 0, 87, .inl (fun _ => 0))), (q6, .inl (G.2.2.1 0, 60, .inl (fun _ => 0)))]) := hD
  refine lv_aload_n (pc := 58) hx hb dX7_init_58 rfl (lv_at hl 0 rfl) ?_
  refine lv_bipush (pc := 59) (v := 32) hx hb dX7_init_59 (by decide) ?_
  refine gx_newa (pc := 61) (ty := .char) (N' := 32) (a0 := (32, .inl (fun _ => gx_chr 0))) hx hb (gx_ac1 hV) rfl hV.K hP hD hS hA 1 rfl (fun _ => by rw [gx_c0]; rfl) (by decide) (by decide) (by decide) (Nat.le_of_ble_eq_true rfl) (Nat.le_of_ble_eq_true rfl) dX7_init_61 (fun q7 H hP hD hS => ?_)
  have hP : va_P G.1 vwCl ((h0, .inr (9, [.ref q1, .ref q2, .ref q3, .ref q4, .ref q5, .int 0, .int 0, .int 0, .int 0, .int 0, .int 0, .int 0, .int 0, .ref q6, .int 0, .int (-1), .null, .int 0, .null, .int 0, .null, .int 0])) :: [(q1, .inl (G.2.2.1 0, 87, .inl (fun _ => 0))), (q2, .inl (G.2.2.1 0, 696, .inl (fun _ => 0))), (q3, .inl (G.2.2.1 0, 87, .inl (fun _ => 0))), (q4, .inl (G.2.2.1 0, 87, .inl (fun _ => 0))), (q5, .inl (G.2.2.1 0, 87, .inl (fun _ => 0))), (q6, .inl (G.2.2.1 0, 60, .inl (fun _ => 0))), (q7, .inl (G.2.2.1 1, 32, .inl (fun _ => gx_chr 0)))]) H := hP
  have hD : va_D A ((h0, .inr (9, [.ref q1, .ref q2, .ref q3, .ref q4, .ref q5, .int 0, .int 0, .int 0, .int 0, .int 0, .int 0, .int 0, .int 0, .ref q6, .int 0, .int (-1), .null, .int 0, .null, .int 0, .null, .int 0])) :: [(q1, .inl (G.2.2.1 0, 87, .inl (fun _ => 0))), (q2, .inl (G.2.2.1 0, 696, .inl (fun _ => 0))), (q3, .inl (G.2.2.1 0, 87, .inl (fun _ => 0))), (q4, .inl (G.2.2.1 0, 87, .inl (fun _ => 0))), (q5, .inl (G.2.2.1 0, 87, .inl (fun _ => 0))), (q6, .inl (G.2.2.1 0, 60, .inl (fun _ => 0))), (q7, .inl (G.2.2.1 1, 32, .inl (fun _ => gx_chr 0)))]) := hD
  refine W.widen (k := 7) (n := 1136) (by omega) (by omega) ?_
  refine gx_putF (pc := 63) (ci := 9) (v := .ref q7) (ty := (.array .char)) hx hb hV gl_X7 tyX7 tyX7_ok nmX7 hown hP hD hS rfl 16 (by decide) rfl rfl hmn (by decide +kernel) rfl rfl (Nat.le_of_ble_eq_true rfl) (gv_1034 hV) dX7_init_63 (fun H locs hP hD hS => ?_)
  have hP : va_P G.1 vwCl ((h0, .inr (9, [.ref q1, .ref q2, .ref q3, .ref q4, .ref q5, .int 0, .int 0, .int 0, .int 0, .int 0, .int 0, .int 0, .int 0, .ref q6, .int 0, .int (-1), .ref q7, .int 0, .null, .int 0, .null, .int 0])) :: [(q1, .inl (G.2.2.1 0, 87, .inl (fun _ => 0))), (q2, .inl (G.2.2.1 0, 696, .inl (fun _ => 0))), (q3, .inl (G.2.2.1 0, 87, .inl (fun _ => 0))), (q4, .inl (G.2.2.1 0, 87, .inl (fun _ => 0))), (q5, .inl (G.2.2.1 0, 87, .inl (fun _ => 0))), (q6, .inl (G.2.2.1 0, 60, .inl (fun _ => 0))), (q7, .inl (G.2.2.1 1, 32, .inl (fun _ => gx_chr 0)))]) H := hP
  have hD : va_D A ((h0, .inr (9, [.ref q1, .ref q2, .ref q3, .ref q4, .ref q5, .int 0, .int 0, .int 0, .int 0, .int 0, .int 0, .int 0, .int 0, .ref q6, .int 0, .int (-1), .ref q7, .int 0, .null, .int 0, .null, .int 0])) :: [(q1, .inl (G.2.2.1 0, 87, .inl (fun _ => 0))), (q2, .inl (G.2.2.1 0, 696, .inl (fun _ => 0))), (q3, .inl (G.2.2.1 0, 87, .inl (fun _ => 0))), (q4, .inl (G.2.2.1 0, 87, .inl (fun _ => 0))), (q5, .inl (G.2.2.1 0, 87, .inl (fun _ => 0))), (q6, .inl (G.2.2.1 0, 60, .inl (fun _ => 0))), (q7, .inl (G.2.2.1 1, 32, .inl (fun _ => gx_chr 0)))]) := hD
  refine lv_aload_n (pc := 66) hx hb dX7_init_66 rfl (lv_at hl 0 rfl) ?_
  refine lv_bipush (pc := 67) (v := 42) hx hb dX7_init_67 (by decide) ?_
  refine gx_newa (pc := 69) (ty := .boolean) (N' := 42) (a0 := (42, .inl (fun _ => gx_boo 0))) hx hb (gx_ac2 hV) rfl hV.K hP hD hS hA 2 rfl (fun _ => by rw [gx_b0]; rfl) (by decide) (by decide) (by decide) (Nat.le_of_ble_eq_true rfl) (Nat.le_of_ble_eq_true rfl) dX7_init_69 (fun q8 H hP hD hS => ?_)
  have hP : va_P G.1 vwCl ((h0, .inr (9, [.ref q1, .ref q2, .ref q3, .ref q4, .ref q5, .int 0, .int 0, .int 0, .int 0, .int 0, .int 0, .int 0, .int 0, .ref q6, .int 0, .int (-1), .ref q7, .int 0, .null, .int 0, .null, .int 0])) :: [(q1, .inl (G.2.2.1 0, 87, .inl (fun _ => 0))), (q2, .inl (G.2.2.1 0, 696, .inl (fun _ => 0))), (q3, .inl (G.2.2.1 0, 87, .inl (fun _ => 0))), (q4, .inl (G.2.2.1 0, 87, .inl (fun _ => 0))), (q5, .inl (G.2.2.1 0, 87, .inl (fun _ => 0))), (q6, .inl (G.2.2.1 0, 60, .inl (fun _ => 0))), (q7, .inl (G.2.2.1 1, 32, .inl (fun _ => gx_chr 0))), (q8, .inl (G.2.2.1 2, 42, .inl (fun _ => gx_boo 0)))]) H := hP
  have hD : va_D A ((h0, .inr (9, [.ref q1, .ref q2, .ref q3, .ref q4, .ref q5, .int 0, .int 0, .int 0, .int 0, .int 0, .int 0, .int 0, .int 0, .ref q6, .int 0, .int (-1), .ref q7, .int 0, .null, .int 0, .null, .int 0])) :: [(q1, .inl (G.2.2.1 0, 87, .inl (fun _ => 0))), (q2, .inl (G.2.2.1 0, 696, .inl (fun _ => 0))), (q3, .inl (G.2.2.1 0, 87, .inl (fun _ => 0))), (q4, .inl (G.2.2.1 0, 87, .inl (fun _ => 0))), (q5, .inl (G.2.2.1 0, 87, .inl (fun _ => 0))), (q6, .inl (G.2.2.1 0, 60, .inl (fun _ => 0))), (q7, .inl (G.2.2.1 1, 32, .inl (fun _ => gx_chr 0))), (q8, .inl (G.2.2.1 2, 42, .inl (fun _ => gx_boo 0)))]) := hD
  refine W.widen (k := 8) (n := 1178) (by omega) (by omega) ?_
  refine gx_putF (pc := 71) (ci := 9) (v := .ref q8) (ty := (.array .boolean)) hx hb hV gl_X7 tyX7 tyX7_ok nmX7 hown hP hD hS rfl 18 (by decide) rfl rfl hmn (by decide +kernel) rfl rfl (Nat.le_of_ble_eq_true rfl) (gv_1036 hV) dX7_init_71 (fun H locs hP hD hS => ?_)
  have hP : va_P G.1 vwCl ((h0, .inr (9, [.ref q1, .ref q2, .ref q3, .ref q4, .ref q5, .int 0, .int 0, .int 0, .int 0, .int 0, .int 0, .int 0, .int 0, .ref q6, .int 0, .int (-1), .ref q7, .int 0, .ref q8, .int 0, .null, .int 0])) :: [(q1, .inl (G.2.2.1 0, 87, .inl (fun _ => 0))), (q2, .inl (G.2.2.1 0, 696, .inl (fun _ => 0))), (q3, .inl (G.2.2.1 0, 87, .inl (fun _ => 0))), (q4, .inl (G.2.2.1 0, 87, .inl (fun _ => 0))), (q5, .inl (G.2.2.1 0, 87, .inl (fun _ => 0))), (q6, .inl (G.2.2.1 0, 60, .inl (fun _ => 0))), (q7, .inl (G.2.2.1 1, 32, .inl (fun _ => gx_chr 0))), (q8, .inl (G.2.2.1 2, 42, .inl (fun _ => gx_boo 0)))]) H := hP
  have hD : va_D A ((h0, .inr (9, [.ref q1, .ref q2, .ref q3, .ref q4, .ref q5, .int 0, .int 0, .int 0, .int 0, .int 0, .int 0, .int 0, .int 0, .ref q6, .int 0, .int (-1), .ref q7, .int 0, .ref q8, .int 0, .null, .int 0])) :: [(q1, .inl (G.2.2.1 0, 87, .inl (fun _ => 0))), (q2, .inl (G.2.2.1 0, 696, .inl (fun _ => 0))), (q3, .inl (G.2.2.1 0, 87, .inl (fun _ => 0))), (q4, .inl (G.2.2.1 0, 87, .inl (fun _ => 0))), (q5, .inl (G.2.2.1 0, 87, .inl (fun _ => 0))), (q6, .inl (G.2.2.1 0, 60, .inl (fun _ => 0))), (q7, .inl (G.2.2.1 1, 32, .inl (fun _ => gx_chr 0))), (q8, .inl (G.2.2.1 2, 42, .inl (fun _ => gx_boo 0)))]) := hD
  refine lv_aload_n (pc := 74) hx hb dX7_init_74 rfl (lv_at hl 0 rfl) ?_
  refine lv_sipush (pc := 75) (v := 186) hx hb dX7_init_75 (by decide) ?_
  refine gx_newa (pc := 78) (ty := .int) (N' := 186) (a0 := (186, .inl (fun _ => 0))) hx hb (gx_ac0 hV) rfl hV.K hP hD hS hA 0 rfl (fun _ => by rfl) (by decide) (by decide) (by decide) (Nat.le_of_ble_eq_true rfl) (Nat.le_of_ble_eq_true rfl) dX7_init_78 (fun q9 H hP hD hS => ?_)
  have hP : va_P G.1 vwCl ((h0, .inr (9, [.ref q1, .ref q2, .ref q3, .ref q4, .ref q5, .int 0, .int 0, .int 0, .int 0, .int 0, .int 0, .int 0, .int 0, .ref q6, .int 0, .int (-1), .ref q7, .int 0, .ref q8, .int 0, .null, .int 0])) :: [(q1, .inl (G.2.2.1 0, 87, .inl (fun _ => 0))), (q2, .inl (G.2.2.1 0, 696, .inl (fun _ => 0))), (q3, .inl (G.2.2.1 0, 87, .inl (fun _ => 0))), (q4, .inl (G.2.2.1 0, 87, .inl (fun _ => 0))), (q5, .inl (G.2.2.1 0, 87, .inl (fun _ => 0))), (q6, .inl (G.2.2.1 0, 60, .inl (fun _ => 0))), (q7, .inl (G.2.2.1 1, 32, .inl (fun _ => gx_chr 0))), (q8, .inl (G.2.2.1 2, 42, .inl (fun _ => gx_boo 0))), (q9, .inl (G.2.2.1 0, 186, .inl (fun _ => 0)))]) H := hP
  have hD : va_D A ((h0, .inr (9, [.ref q1, .ref q2, .ref q3, .ref q4, .ref q5, .int 0, .int 0, .int 0, .int 0, .int 0, .int 0, .int 0, .int 0, .ref q6, .int 0, .int (-1), .ref q7, .int 0, .ref q8, .int 0, .null, .int 0])) :: [(q1, .inl (G.2.2.1 0, 87, .inl (fun _ => 0))), (q2, .inl (G.2.2.1 0, 696, .inl (fun _ => 0))), (q3, .inl (G.2.2.1 0, 87, .inl (fun _ => 0))), (q4, .inl (G.2.2.1 0, 87, .inl (fun _ => 0))), (q5, .inl (G.2.2.1 0, 87, .inl (fun _ => 0))), (q6, .inl (G.2.2.1 0, 60, .inl (fun _ => 0))), (q7, .inl (G.2.2.1 1, 32, .inl (fun _ => gx_chr 0))), (q8, .inl (G.2.2.1 2, 42, .inl (fun _ => gx_boo 0))), (q9, .inl (G.2.2.1 0, 186, .inl (fun _ => 0)))]) := hD
  refine W.widen (k := 9) (n := 1364) (by omega) (by omega) ?_
  refine gx_putF (pc := 80) (ci := 9) (v := .ref q9) (ty := (.array .int)) hx hb hV gl_X7 tyX7 tyX7_ok nmX7 hown hP hD hS rfl 20 (by decide) rfl rfl hmn (by decide +kernel) rfl rfl (Nat.le_of_ble_eq_true rfl) (gv_1038 hV) dX7_init_80 (fun H locs hP hD hS => ?_)
  have hP : va_P G.1 vwCl ((h0, .inr (9, [.ref q1, .ref q2, .ref q3, .ref q4, .ref q5, .int 0, .int 0, .int 0, .int 0, .int 0, .int 0, .int 0, .int 0, .ref q6, .int 0, .int (-1), .ref q7, .int 0, .ref q8, .int 0, .ref q9, .int 0])) :: [(q1, .inl (G.2.2.1 0, 87, .inl (fun _ => 0))), (q2, .inl (G.2.2.1 0, 696, .inl (fun _ => 0))), (q3, .inl (G.2.2.1 0, 87, .inl (fun _ => 0))), (q4, .inl (G.2.2.1 0, 87, .inl (fun _ => 0))), (q5, .inl (G.2.2.1 0, 87, .inl (fun _ => 0))), (q6, .inl (G.2.2.1 0, 60, .inl (fun _ => 0))), (q7, .inl (G.2.2.1 1, 32, .inl (fun _ => gx_chr 0))), (q8, .inl (G.2.2.1 2, 42, .inl (fun _ => gx_boo 0))), (q9, .inl (G.2.2.1 0, 186, .inl (fun _ => 0)))]) H := hP
  have hD : va_D A ((h0, .inr (9, [.ref q1, .ref q2, .ref q3, .ref q4, .ref q5, .int 0, .int 0, .int 0, .int 0, .int 0, .int 0, .int 0, .int 0, .ref q6, .int 0, .int (-1), .ref q7, .int 0, .ref q8, .int 0, .ref q9, .int 0])) :: [(q1, .inl (G.2.2.1 0, 87, .inl (fun _ => 0))), (q2, .inl (G.2.2.1 0, 696, .inl (fun _ => 0))), (q3, .inl (G.2.2.1 0, 87, .inl (fun _ => 0))), (q4, .inl (G.2.2.1 0, 87, .inl (fun _ => 0))), (q5, .inl (G.2.2.1 0, 87, .inl (fun _ => 0))), (q6, .inl (G.2.2.1 0, 60, .inl (fun _ => 0))), (q7, .inl (G.2.2.1 1, 32, .inl (fun _ => gx_chr 0))), (q8, .inl (G.2.2.1 2, 42, .inl (fun _ => gx_boo 0))), (q9, .inl (G.2.2.1 0, 186, .inl (fun _ => 0)))]) := hD
  obtain ⟨W7, hW7⟩ : ∃ W : va_W, W = [(q2, .inl (G.2.2.1 0, 696, .inl (fun _ => 0))), (q3, .inl (G.2.2.1 0, 87, .inl (fun _ => 0))), (q4, .inl (G.2.2.1 0, 87, .inl (fun _ => 0))), (q5, .inl (G.2.2.1 0, 87, .inl (fun _ => 0))), (q6, .inl (G.2.2.1 0, 60, .inl (fun _ => 0))), (q7, .inl (G.2.2.1 1, 32, .inl (fun _ => gx_chr 0))), (q8, .inl (G.2.2.1 2, 42, .inl (fun _ => gx_boo 0))), (q9, .inl (G.2.2.1 0, 186, .inl (fun _ => 0)))] := ⟨_, rfl⟩
  have hP : va_P G.1 vwCl ((h0, .inr (9, [.ref q1, .ref q2, .ref q3, .ref q4, .ref q5, .int 0, .int 0, .int 0, .int 0, .int 0, .int 0, .int 0, .int 0, .ref q6, .int 0, .int (-1), .ref q7, .int 0, .ref q8, .int 0, .ref q9, .int 0])) :: (q1, .inl (G.2.2.1 0, 87, .inl (fun _ => 0))) :: W7) H := by rw [hW7]; exact hP
  have hD : va_D A ((h0, .inr (9, [.ref q1, .ref q2, .ref q3, .ref q4, .ref q5, .int 0, .int 0, .int 0, .int 0, .int 0, .int 0, .int 0, .int 0, .ref q6, .int 0, .int (-1), .ref q7, .int 0, .ref q8, .int 0, .ref q9, .int 0])) :: (q1, .inl (G.2.2.1 0, 87, .inl (fun _ => 0))) :: W7) := by rw [hW7]; exact hD
  refine lv_aload_n (pc := 83) hx hb dX7_init_83 rfl (lv_at hl 0 rfl) ?_
  refine gx_getI (pc := 84) (ci := 9) (v := .ref q1) hx hb hV gl_X7 hown hP rfl 0 (by decide) rfl rfl (gv_1018 hV) dX7_init_84 ?_
  refine lv_iconst (pc := 87) (v := 1) hx hb dX7_init_87 (by decide) ?_
  refine lv_iconst (pc := 88) (v := (-1)) hx hb dX7_init_88 (by decide) ?_
  refine va_iast (pc := 89) hx hb hV.K hP hD hS 1 0 rfl rfl (fun q => absurd q (by decide)) dX7_init_89 (fun H locs hP hD hS => ?_)
  have hP : va_P G.1 vwCl ((h0, .inr (9, [.ref q1, .ref q2, .ref q3, .ref q4, .ref q5, .int 0, .int 0, .int 0, .int 0, .int 0, .int 0, .int 0, .int 0, .ref q6, .int 0, .int (-1), .ref q7, .int 0, .ref q8, .int 0, .ref q9, .int 0])) :: (q1, .inl (G.2.2.1 0, 87, .inl (upd (fun _ => 0) 1 (-1)))) :: W7) H := hP
  have hD : va_D A ((h0, .inr (9, [.ref q1, .ref q2, .ref q3, .ref q4, .ref q5, .int 0, .int 0, .int 0, .int 0, .int 0, .int 0, .int 0, .int 0, .ref q6, .int 0, .int (-1), .ref q7, .int 0, .ref q8, .int 0, .ref q9, .int 0])) :: (q1, .inl (G.2.2.1 0, 87, .inl (upd (fun _ => 0) 1 (-1)))) :: W7) := hD
  refine lv_aload_n (pc := 90) hx hb dX7_init_90 rfl (lv_at hl 0 rfl) ?_
  refine gx_getI (pc := 91) (ci := 9) (v := .ref q1) hx hb hV gl_X7 hown hP rfl 0 (by decide) rfl rfl (gv_1018 hV) dX7_init_91 ?_
  refine lv_iconst (pc := 94) (v := 2) hx hb dX7_init_94 (by decide) ?_
  refine lv_iconst (pc := 95) (v := 2) hx hb dX7_init_95 (by decide) ?_
  refine va_iast (pc := 96) hx hb hV.K hP hD hS 1 0 rfl rfl (fun q => absurd q (by decide)) dX7_init_96 (fun H locs hP hD hS => ?_)
  have hP : va_P G.1 vwCl ((h0, .inr (9, [.ref q1, .ref q2, .ref q3, .ref q4, .ref q5, .int 0, .int 0, .int 0, .int 0, .int 0, .int 0, .int 0, .int 0, .ref q6, .int 0, .int (-1), .ref q7, .int 0, .ref q8, .int 0, .ref q9, .int 0])) :: (q1, .inl (G.2.2.1 0, 87, .inl (upd (upd (fun _ => 0) 1 (-1)) 2 2))) :: W7) H := hP
  have hD : va_D A ((h0, .inr (9, [.ref q1, .ref q2, .ref q3, .ref q4, .ref q5, .int 0, .int 0, .int 0, .int 0, .int 0, .int 0, .int 0, .int 0, .ref q6, .int 0, .int (-1), .ref q7, .int 0, .ref q8, .int 0, .ref q9, .int 0])) :: (q1, .inl (G.2.2.1 0, 87, .inl (upd (upd (fun _ => 0) 1 (-1)) 2 2))) :: W7) := hD
  refine lv_iconst (pc := 97) (v := 1) hx hb dX7_init_97 (by decide) ?_
  refine lv_istore_n (pc := 98) (lv' := [(1, .int 1), (0, .ref h0)]) hx hb dX7_init_98 rfl hl (by decide) rfl (fun ls hl => ?_)
  refine lv_iload_n (pc := 99) hx hb dX7_init_99 rfl (lv_at hl 0 rfl) ?_
  refine lv_bipush (pc := 100) (v := 7) hx hb dX7_init_100 (by decide) ?_
  refine lv_icmp_ge (pc := 102) (tgt := 121) hx hb dX7_init_102 (by decide) (fun hc => absurd hc (by decide)) (fun _ => ?_)
  refine lv_aload_n (pc := 105) hx hb dX7_init_105 rfl (lv_at hl 1 rfl) ?_
  refine gx_getI (pc := 106) (ci := 9) (v := .ref q1) hx hb hV gl_X7 hown hP rfl 0 (by decide) rfl rfl (gv_1018 hV) dX7_init_106 ?_
  refine lv_bipush (pc := 109) (v := 6) hx hb dX7_init_109 (by decide) ?_
  refine lv_iload_n (pc := 111) hx hb dX7_init_111 rfl (lv_at hl 0 rfl) ?_
  refine lv_iadd (pc := 112) hx hb dX7_init_112 ?_
  refine lv_iconst (pc := 113) (v := 1) hx hb dX7_init_113 (by decide) ?_
  refine va_iast (pc := 114) hx hb hV.K hP hD hS 1 0 rfl rfl (fun q => absurd q (by decide)) dX7_init_114 (fun H locs hP hD hS => ?_)
  rw [show (6 + 1 : Int32).toNatClampNeg = 7 by decide] at hP hD
  have hP : va_P G.1 vwCl ((h0, .inr (9, [.ref q1, .ref q2, .ref q3, .ref q4, .ref q5, .int 0, .int 0, .int 0, .int 0, .int 0, .int 0, .int 0, .int 0, .ref q6, .int 0, .int (-1), .ref q7, .int 0, .ref q8, .int 0, .ref q9, .int 0])) :: (q1, .inl (G.2.2.1 0, 87, .inl (upd (upd (upd (fun _ => 0) 1 (-1)) 2 2) 7 1))) :: W7) H := hP
  have hD : va_D A ((h0, .inr (9, [.ref q1, .ref q2, .ref q3, .ref q4, .ref q5, .int 0, .int 0, .int 0, .int 0, .int 0, .int 0, .int 0, .int 0, .ref q6, .int 0, .int (-1), .ref q7, .int 0, .ref q8, .int 0, .ref q9, .int 0])) :: (q1, .inl (G.2.2.1 0, 87, .inl (upd (upd (upd (fun _ => 0) 1 (-1)) 2 2) 7 1))) :: W7) := hD
  refine lv_iinc (pc := 115) (v := 2) (lv' := [(1, .int 2), (0, .ref h0)]) hx hb dX7_init_115 hl (k := 0) rfl (by decide) (by decide) rfl (fun ls hl => ?_)
  refine lv_goto (pc := 118) (tgt := 99) hx hb dX7_init_118 (by decide) ?_
  refine lv_iload_n (pc := 99) hx hb dX7_init_99 rfl (lv_at hl 0 rfl) ?_
  refine lv_bipush (pc := 100) (v := 7) hx hb dX7_init_100 (by decide) ?_
  refine lv_icmp_ge (pc := 102) (tgt := 121) hx hb dX7_init_102 (by decide) (fun hc => absurd hc (by decide)) (fun _ => ?_)
  refine lv_aload_n (pc := 105) hx hb dX7_init_105 rfl (lv_at hl 1 rfl) ?_
  refine gx_getI (pc := 106) (ci := 9) (v := .ref q1) hx hb hV gl_X7 hown hP rfl 0 (by decide) rfl rfl (gv_1018 hV) dX7_init_106 ?_
  refine lv_bipush (pc := 109) (v := 6) hx hb dX7_init_109 (by decide) ?_
  refine lv_iload_n (pc := 111) hx hb dX7_init_111 rfl (lv_at hl 0 rfl) ?_
  refine lv_iadd (pc := 112) hx hb dX7_init_112 ?_
  refine lv_iconst (pc := 113) (v := 1) hx hb dX7_init_113 (by decide) ?_
  refine va_iast (pc := 114) hx hb hV.K hP hD hS 1 0 rfl rfl (fun q => absurd q (by decide)) dX7_init_114 (fun H locs hP hD hS => ?_)
  rw [show (6 + 2 : Int32).toNatClampNeg = 8 by decide] at hP hD
  have hP : va_P G.1 vwCl ((h0, .inr (9, [.ref q1, .ref q2, .ref q3, .ref q4, .ref q5, .int 0, .int 0, .int 0, .int 0, .int 0, .int 0, .int 0, .int 0, .ref q6, .int 0, .int (-1), .ref q7, .int 0, .ref q8, .int 0, .ref q9, .int 0])) :: (q1, .inl (G.2.2.1 0, 87, .inl (upd (upd (upd (upd (fun _ => 0) 1 (-1)) 2 2) 7 1) 8 1))) :: W7) H := hP
  have hD : va_D A ((h0, .inr (9, [.ref q1, .ref q2, .ref q3, .ref q4, .ref q5, .int 0, .int 0, .int 0, .int 0, .int 0, .int 0, .int 0, .int 0, .ref q6, .int 0, .int (-1), .ref q7, .int 0, .ref q8, .int 0, .ref q9, .int 0])) :: (q1, .inl (G.2.2.1 0, 87, .inl (upd (upd (upd (upd (fun _ => 0) 1 (-1)) 2 2) 7 1) 8 1))) :: W7) := hD
  refine lv_iinc (pc := 115) (v := 3) (lv' := [(1, .int 3), (0, .ref h0)]) hx hb dX7_init_115 hl (k := 0) rfl (by decide) (by decide) rfl (fun ls hl => ?_)
  refine lv_goto (pc := 118) (tgt := 99) hx hb dX7_init_118 (by decide) ?_
  refine lv_iload_n (pc := 99) hx hb dX7_init_99 rfl (lv_at hl 0 rfl) ?_
  refine lv_bipush (pc := 100) (v := 7) hx hb dX7_init_100 (by decide) ?_
  refine lv_icmp_ge (pc := 102) (tgt := 121) hx hb dX7_init_102 (by decide) (fun hc => absurd hc (by decide)) (fun _ => ?_)
  refine lv_aload_n (pc := 105) hx hb dX7_init_105 rfl (lv_at hl 1 rfl) ?_
  refine gx_getI (pc := 106) (ci := 9) (v := .ref q1) hx hb hV gl_X7 hown hP rfl 0 (by decide) rfl rfl (gv_1018 hV) dX7_init_106 ?_
  refine lv_bipush (pc := 109) (v := 6) hx hb dX7_init_109 (by decide) ?_
  refine lv_iload_n (pc := 111) hx hb dX7_init_111 rfl (lv_at hl 0 rfl) ?_
  refine lv_iadd (pc := 112) hx hb dX7_init_112 ?_
  refine lv_iconst (pc := 113) (v := 1) hx hb dX7_init_113 (by decide) ?_
  refine va_iast (pc := 114) hx hb hV.K hP hD hS 1 0 rfl rfl (fun q => absurd q (by decide)) dX7_init_114 (fun H locs hP hD hS => ?_)
  rw [show (6 + 3 : Int32).toNatClampNeg = 9 by decide] at hP hD
  have hP : va_P G.1 vwCl ((h0, .inr (9, [.ref q1, .ref q2, .ref q3, .ref q4, .ref q5, .int 0, .int 0, .int 0, .int 0, .int 0, .int 0, .int 0, .int 0, .ref q6, .int 0, .int (-1), .ref q7, .int 0, .ref q8, .int 0, .ref q9, .int 0])) :: (q1, .inl (G.2.2.1 0, 87, .inl (upd (upd (upd (upd (upd (fun _ => 0) 1 (-1)) 2 2) 7 1) 8 1) 9 1))) :: W7) H := hP
  have hD : va_D A ((h0, .inr (9, [.ref q1, .ref q2, .ref q3, .ref q4, .ref q5, .int 0, .int 0, .int 0, .int 0, .int 0, .int 0, .int 0, .int 0, .ref q6, .int 0, .int (-1), .ref q7, .int 0, .ref q8, .int 0, .ref q9, .int 0])) :: (q1, .inl (G.2.2.1 0, 87, .inl (upd (upd (upd (upd (upd (fun _ => 0) 1 (-1)) 2 2) 7 1) 8 1) 9 1))) :: W7) := hD
  refine lv_iinc (pc := 115) (v := 4) (lv' := [(1, .int 4), (0, .ref h0)]) hx hb dX7_init_115 hl (k := 0) rfl (by decide) (by decide) rfl (fun ls hl => ?_)
  refine lv_goto (pc := 118) (tgt := 99) hx hb dX7_init_118 (by decide) ?_
  refine lv_iload_n (pc := 99) hx hb dX7_init_99 rfl (lv_at hl 0 rfl) ?_
  refine lv_bipush (pc := 100) (v := 7) hx hb dX7_init_100 (by decide) ?_
  refine lv_icmp_ge (pc := 102) (tgt := 121) hx hb dX7_init_102 (by decide) (fun hc => absurd hc (by decide)) (fun _ => ?_)
  refine lv_aload_n (pc := 105) hx hb dX7_init_105 rfl (lv_at hl 1 rfl) ?_
  refine gx_getI (pc := 106) (ci := 9) (v := .ref q1) hx hb hV gl_X7 hown hP rfl 0 (by decide) rfl rfl (gv_1018 hV) dX7_init_106 ?_
  refine lv_bipush (pc := 109) (v := 6) hx hb dX7_init_109 (by decide) ?_
  refine lv_iload_n (pc := 111) hx hb dX7_init_111 rfl (lv_at hl 0 rfl) ?_
  refine lv_iadd (pc := 112) hx hb dX7_init_112 ?_
  refine lv_iconst (pc := 113) (v := 1) hx hb dX7_init_113 (by decide) ?_
  refine va_iast (pc := 114) hx hb hV.K hP hD hS 1 0 rfl rfl (fun q => absurd q (by decide)) dX7_init_114 (fun H locs hP hD hS => ?_)
  rw [show (6 + 4 : Int32).toNatClampNeg = 10 by decide] at hP hD
  have hP : va_P G.1 vwCl ((h0, .inr (9, [.ref q1, .ref q2, .ref q3, .ref q4, .ref q5, .int 0, .int 0, .int 0, .int 0, .int 0, .int 0, .int 0, .int 0, .ref q6, .int 0, .int (-1), .ref q7, .int 0, .ref q8, .int 0, .ref q9, .int 0])) :: (q1, .inl (G.2.2.1 0, 87, .inl (upd (upd (upd (upd (upd (upd (fun _ => 0) 1 (-1)) 2 2) 7 1) 8 1) 9 1) 10 1))) :: W7) H := hP
  have hD : va_D A ((h0, .inr (9, [.ref q1, .ref q2, .ref q3, .ref q4, .ref q5, .int 0, .int 0, .int 0, .int 0, .int 0, .int 0, .int 0, .int 0, .ref q6, .int 0, .int (-1), .ref q7, .int 0, .ref q8, .int 0, .ref q9, .int 0])) :: (q1, .inl (G.2.2.1 0, 87, .inl (upd (upd (upd (upd (upd (upd (fun _ => 0) 1 (-1)) 2 2) 7 1) 8 1) 9 1) 10 1))) :: W7) := hD
  refine lv_iinc (pc := 115) (v := 5) (lv' := [(1, .int 5), (0, .ref h0)]) hx hb dX7_init_115 hl (k := 0) rfl (by decide) (by decide) rfl (fun ls hl => ?_)
  refine lv_goto (pc := 118) (tgt := 99) hx hb dX7_init_118 (by decide) ?_
  refine lv_iload_n (pc := 99) hx hb dX7_init_99 rfl (lv_at hl 0 rfl) ?_
  refine lv_bipush (pc := 100) (v := 7) hx hb dX7_init_100 (by decide) ?_
  refine lv_icmp_ge (pc := 102) (tgt := 121) hx hb dX7_init_102 (by decide) (fun hc => absurd hc (by decide)) (fun _ => ?_)
  refine lv_aload_n (pc := 105) hx hb dX7_init_105 rfl (lv_at hl 1 rfl) ?_
  refine gx_getI (pc := 106) (ci := 9) (v := .ref q1) hx hb hV gl_X7 hown hP rfl 0 (by decide) rfl rfl (gv_1018 hV) dX7_init_106 ?_
  refine lv_bipush (pc := 109) (v := 6) hx hb dX7_init_109 (by decide) ?_
  refine lv_iload_n (pc := 111) hx hb dX7_init_111 rfl (lv_at hl 0 rfl) ?_
  refine lv_iadd (pc := 112) hx hb dX7_init_112 ?_
  refine lv_iconst (pc := 113) (v := 1) hx hb dX7_init_113 (by decide) ?_
  refine va_iast (pc := 114) hx hb hV.K hP hD hS 1 0 rfl rfl (fun q => absurd q (by decide)) dX7_init_114 (fun H locs hP hD hS => ?_)
  rw [show (6 + 5 : Int32).toNatClampNeg = 11 by decide] at hP hD
  have hP : va_P G.1 vwCl ((h0, .inr (9, [.ref q1, .ref q2, .ref q3, .ref q4, .ref q5, .int 0, .int 0, .int 0, .int 0, .int 0, .int 0, .int 0, .int 0, .ref q6, .int 0, .int (-1), .ref q7, .int 0, .ref q8, .int 0, .ref q9, .int 0])) :: (q1, .inl (G.2.2.1 0, 87, .inl (upd (upd (upd (upd (upd (upd (upd (fun _ => 0) 1 (-1)) 2 2) 7 1) 8 1) 9 1) 10 1) 11 1))) :: W7) H := hP
  have hD : va_D A ((h0, .inr (9, [.ref q1, .ref q2, .ref q3, .ref q4, .ref q5, .int 0, .int 0, .int 0, .int 0, .int 0, .int 0, .int 0, .int 0, .ref q6, .int 0, .int (-1), .ref q7, .int 0, .ref q8, .int 0, .ref q9, .int 0])) :: (q1, .inl (G.2.2.1 0, 87, .inl (upd (upd (upd (upd (upd (upd (upd (fun _ => 0) 1 (-1)) 2 2) 7 1) 8 1) 9 1) 10 1) 11 1))) :: W7) := hD
  refine lv_iinc (pc := 115) (v := 6) (lv' := [(1, .int 6), (0, .ref h0)]) hx hb dX7_init_115 hl (k := 0) rfl (by decide) (by decide) rfl (fun ls hl => ?_)
  refine lv_goto (pc := 118) (tgt := 99) hx hb dX7_init_118 (by decide) ?_
  refine lv_iload_n (pc := 99) hx hb dX7_init_99 rfl (lv_at hl 0 rfl) ?_
  refine lv_bipush (pc := 100) (v := 7) hx hb dX7_init_100 (by decide) ?_
  refine lv_icmp_ge (pc := 102) (tgt := 121) hx hb dX7_init_102 (by decide) (fun hc => absurd hc (by decide)) (fun _ => ?_)
  refine lv_aload_n (pc := 105) hx hb dX7_init_105 rfl (lv_at hl 1 rfl) ?_
  refine gx_getI (pc := 106) (ci := 9) (v := .ref q1) hx hb hV gl_X7 hown hP rfl 0 (by decide) rfl rfl (gv_1018 hV) dX7_init_106 ?_
  refine lv_bipush (pc := 109) (v := 6) hx hb dX7_init_109 (by decide) ?_
  refine lv_iload_n (pc := 111) hx hb dX7_init_111 rfl (lv_at hl 0 rfl) ?_
  refine lv_iadd (pc := 112) hx hb dX7_init_112 ?_
  refine lv_iconst (pc := 113) (v := 1) hx hb dX7_init_113 (by decide) ?_
  refine va_iast (pc := 114) hx hb hV.K hP hD hS 1 0 rfl rfl (fun q => absurd q (by decide)) dX7_init_114 (fun H locs hP hD hS => ?_)
  rw [show (6 + 6 : Int32).toNatClampNeg = 12 by decide] at hP hD
  have hP : va_P G.1 vwCl ((h0, .inr (9, [.ref q1, .ref q2, .ref q3, .ref q4, .ref q5, .int 0, .int 0, .int 0, .int 0, .int 0, .int 0, .int 0, .int 0, .ref q6, .int 0, .int (-1), .ref q7, .int 0, .ref q8, .int 0, .ref q9, .int 0])) :: (q1, .inl (G.2.2.1 0, 87, .inl (upd (upd (upd (upd (upd (upd (upd (upd (fun _ => 0) 1 (-1)) 2 2) 7 1) 8 1) 9 1) 10 1) 11 1) 12 1))) :: W7) H := hP
  have hD : va_D A ((h0, .inr (9, [.ref q1, .ref q2, .ref q3, .ref q4, .ref q5, .int 0, .int 0, .int 0, .int 0, .int 0, .int 0, .int 0, .int 0, .ref q6, .int 0, .int (-1), .ref q7, .int 0, .ref q8, .int 0, .ref q9, .int 0])) :: (q1, .inl (G.2.2.1 0, 87, .inl (upd (upd (upd (upd (upd (upd (upd (upd (fun _ => 0) 1 (-1)) 2 2) 7 1) 8 1) 9 1) 10 1) 11 1) 12 1))) :: W7) := hD
  refine lv_iinc (pc := 115) (v := 7) (lv' := [(1, .int 7), (0, .ref h0)]) hx hb dX7_init_115 hl (k := 0) rfl (by decide) (by decide) rfl (fun ls hl => ?_)
  refine lv_goto (pc := 118) (tgt := 99) hx hb dX7_init_118 (by decide) ?_
  refine lv_iload_n (pc := 99) hx hb dX7_init_99 rfl (lv_at hl 0 rfl) ?_
  refine lv_bipush (pc := 100) (v := 7) hx hb dX7_init_100 (by decide) ?_
  refine lv_icmp_ge (pc := 102) (tgt := 121) hx hb dX7_init_102 (by decide) (fun _ => ?_) (fun hc => absurd (by decide) hc)
  refine lv_iconst (pc := 121) (v := 0) hx hb dX7_init_121 (by decide) ?_
  refine lv_istore_n (pc := 122) (lv' := [(1, .int 0), (0, .ref h0)]) hx hb dX7_init_122 rfl hl (by decide) rfl (fun ls hl => ?_)
  refine i_X7_loop hx hb hr hown hlocks hV hA (ta := [.ref q1, .ref q2, .ref q3, .ref q4, .ref q5, .int 0, .int 0, .int 0, .int 0, .int 0, .int 0, .int 0, .int 0, .ref q6, .int 0, .int (-1), .ref q7, .int 0, .ref q8, .int 0, .ref q9, .int 0]) (W1 := W7) ?_ rfl 42 0 rfl _ H _ ls gx_g0_45 hl hP hD hS
  subst hW7
  exact ⟨[q1, q2, q3, q4, q5, q6, q7, q8, q9], by rw [gx_ml, gx_vb0]; rfl⟩
