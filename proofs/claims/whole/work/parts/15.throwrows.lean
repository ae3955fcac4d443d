/-! THROWS of the class and what they need of the world beside its cells, printed by program (gen4.py) -/
def gx_en (i : Nat) : String := if i = 0 then "java/lang/UnsupportedOperationException" else if i = 1 then "java/lang/IndexOutOfBoundsException" else if i = 2 then "java/lang/IllegalArgumentException" else if i = 3 then "java/util/NoSuchElementException" else if i = 4 then "java/lang/IllegalStateException" else "java/lang/ArithmeticException"
def gx_names : List String := ["java/lang/RuntimeException", "java/lang/Exception"]
def gx_strs : List (Nat × String) := [(91, "the kind is refused"), (100, "the brick is refused"), (106, "the brick stays"), (111, "nothing grows"), (117, "the strength is refused"), (122, "the need is refused"), (130, "no such kind"), (138, "no such turn or side"), (148, "no such glue"), (157, "no such place"), (164, "the place is free"), (176, "there is no seed"), (187, "no such place or kind"), (189, "no such turn"), (191, "the place has a brick"), (216, "the wall is stalled"), (234, "no such row or column"), (239, "there are not so many bricks"), (247, "the text buffer is full"), (260, "the text has a fault"), (268, "a command is refused"), (273, "no such number of a reason"), (278, "nothing was refused"), (283, "no such row"), (289, "no such character in the line"), (293, "there are no bricks"), (320, "no such account"), (322, "there is nothing to undo"), (327, "there is no snapshot")]
def gx_ncs : List (String × String) := [("java/lang/IllegalArgumentException", "java/lang/IndexOutOfBoundsException"), ("java/util/NoSuchElementException", "java/lang/IndexOutOfBoundsException"), ("java/util/NoSuchElementException", "java/lang/IllegalArgumentException"), ("java/lang/UnsupportedOperationException", "java/lang/IllegalArgumentException")]
def gx_Z (G : gx_G) (U : State) (H : Heap) : Prop := vx_Zq Bundle.tN "UNASSIGNED_STACK" Bundle.steD (gx_A G) U H ∧ vx_Zq Bundle.tN "SUPPRESSED_SENTINEL" Bundle.listD (gx_A G) U H ∧ (∀ q ∈ gx_strs, ∃ a, vk_R RX6 q.1 q.2 a U) ∧ ∀ q ∈ gx_ncs, va_Nc q.1 q.2 U
theorem gx_Z.go {G : gx_G} {s U : State} {H : Heap} {locs : List Loc} (h : gx_Z G s s.heap) (hS : va_S (gx_A G) s.heap H locs) (hU : U.heap = H) (hW : s.WarmedH U.vm) : gx_Z G U U.heap := by
  obtain ⟨h1, h2, h3, h4⟩ := h
  refine ⟨?_, ?_, fun q hq => ?_, fun q hq => (h4 q hq).moved hW.alike⟩
  · rw [hU]; exact vx_Zq.moved hW.alike (h1.kept hS.2.1)
  · rw [hU]; exact vx_Zq.moved hW.alike (h2.kept hS.2.1)
  · obtain ⟨a, ha⟩ := h3 q hq
    exact ⟨a, vk_R.warm hW ha⟩
theorem gx_Z.same {G : gx_G} {u U : State} {H : Heap} (hv : u.vm = U.vm) (h : gx_Z G u H) : gx_Z G U H := by
  have ha : u.vm.Alike U.vm := by rw [hv]; exact Vm.Alike.refl _
  obtain ⟨h1, h2, h3, h4⟩ := h
  refine ⟨vx_Zq.moved ha h1, vx_Zq.moved ha h2, fun q hq => ?_, fun q hq => (h4 q hq).moved ha⟩
  obtain ⟨a, hq⟩ := h3 q hq
  exact ⟨a, vk_R.same hv.symm hq⟩
def gx_UX (G : gx_G) (C M : gx_S) (o : Int64) (d : UInt64) (U : State) : Prop := gx_U G C M o d U ∧ gx_Z G U U.heap
theorem gx_blindX {G : gx_G} {C M : gx_S} {o : Int64} {d : UInt64} {av : List Value} : FrameBlind (va_Pc av (gx_UX G C M o d)) := fun _ U g mk q => ⟨q.1, ⟨gx_V.same (u := U) (U := U.calling g mk _) rfl q.2.1.1, q.2.1.2⟩, gx_Z.same (u := U) (U := U.calling g mk _) rfl q.2.2⟩
theorem gx_goX {G : gx_G} {C M : gx_S} {o : Int64} {d : UInt64} {s : State} {H : Heap} {locs : List Loc} (hV : gx_V G s) (hZ : gx_Z G s s.heap) (hw : gx_at G C M o d s.heap H locs) (U : State) (hU : U.heap = H) (hW : s.WarmedH U.vm) : gx_UX G C M o d U := ⟨gx_go hV hw U hU hW, hZ.go hw.2.1 hU hW⟩
def gx_XX {S : Type} (G : gx_G) (res : S ⊕ Nat) (C M : gx_S) (o : Int64) (d : UInt64) : String → State → State → Prop := vx_X (fun (i : Nat) => res = .inr i) (fun E i t => E = gx_en i ∧ gx_H G C M o d t.heap) (gx_A G)
def gx_QXi (G : gx_G) (res : Int32 ⊕ Nat) (C M : gx_S) (o : Int64) (d : UInt64) : Array Value → State → Outcome → State → Prop := va_Qi (fun r (_ : Unit) => res = .inl r) (fun _ t => gx_H G C M o d t.heap) (gx_A G)
def gx_QXz (G : gx_G) (res : Bool ⊕ Nat) (C M : gx_S) (o : Int64) (d : UInt64) : Array Value → State → Outcome → State → Prop := va_Qi (fun r (b : Bool) => res = .inl b ∧ r = gx_bi b) (fun _ t => gx_H G C M o d t.heap) (gx_A G)
def gx_QXd (G : gx_G) (res : UInt64 ⊕ Nat) (C M : gx_S) (o : Int64) (d : UInt64) : Array Value → State → Outcome → State → Prop := va_Qd (fun r (_ : Unit) => res = .inl r) (fun _ t => gx_H G C M o d t.heap) (gx_A G)
def gx_QXf (G : gx_G) (res : UInt32 ⊕ Nat) (C M : gx_S) (o : Int64) (d : UInt64) : Array Value → State → Outcome → State → Prop := va_Qf (fun r (_ : Unit) => res = .inl r) (fun _ t => gx_H G C M o d t.heap) (gx_A G)
abbrev gx_KX {S : Type} (l : Launch) (y : MethodName) (bytes : ByteArray) (maxL : Nat) (ret : Option FieldType) (rm : Room) (av : List Value) (G : gx_G) (C M : gx_S) (o : Int64) (d : UInt64) (Qc : Array Value → State → Outcome → State → Prop) (res : S ⊕ Nat) (C' : gx_S) : Prop := vx_Met l y [.code y bytes maxL ret] rm (va_Pc av (gx_UX G C M o d)) Qc (gx_XX G res C' M o d) 1 6 (gx_A G)
def gx_el {α β : Type} (s : α ⊕ Nat) (f : α → Option β) (g : Nat → Option β) : Option β := match s with
  | .inl a => f a
  | .inr i => g i
theorem gx_beginX {S : Type} {l : Launch} {y : MethodName} {cc : ByteArray} {maxL : Nat} {ret : Option FieldType} {rm : Room} {av : List Value} {G : gx_G} {C M C' : gx_S} {o : Int64} {d : UInt64} {Qc : Array Value → State → Outcome → State → Prop} {res : S ⊕ Nat} (hy : plainName y.cls = true) (hlen : (lg_sl av).length ≤ maxL)
    (body : ∀ (p : Program) (e : Env) (s : State) (m : MethodId) (below : List Frame) (meth : Method) (c : Code), p.tables.exec = Jvm.exec → c.code = cc → meth.sig.returnType = ret → c.maxLocals = maxL → s.vm.findClass y.cls = some m.cls → meth.locks = false → (∀ x ∈ c.exceptionTable.toList, False) → gx_V G s → gx_Z G s s.heap → gx_at G C M o d s.heap s.heap [] → ∀ ls : Array Slot, lv_has ls maxL (lv_args 0 av) → W p l e rm s m av.toArray below meth c s.heap [] 0 0 (vx_MQ below Qc (gx_XX G res C' M o d) av.toArray s 1 6 (gx_A G)) (F0 m 0 ls [])) : gx_KX l y cc maxL ret rm av G C M o d Qc res C' := by
  refine vx_ofW (cc := cc) (maxL := maxL) (ret := ret) hy rfl ?_
  intro p e s m args below meth c s₁ B hml htab hv
  obtain ⟨rfl, hU, hZ⟩ := hv
  rw [lg_entry_eq]
  exact body p e s m below meth c B.exec B.bytes B.returns hml (findClass_of_methodNamed B.named) B.notSynchronized htab hU.1 hZ hU.at _ (lv_entry av hlen)
section GXX
variable {S : Type} {p : Program} {l : Launch} {e : Env} {R : Room} {s : State} {m : MethodId} {args : Array Value} {below : List Frame} {meth : Method} {c : Code} {H : Heap} {locs : List Loc} {Q : State → Prop}
variable {cc : ByteArray} {pc : Nat} {ls : Array Slot} {rest : List Value} {G : gx_G} {C M C' M' : gx_S} {o o' : Int64} {d d' : UInt64} {own : String} {Qc : Array Value → State → Outcome → State → Prop} {XC : String → State → State → Prop}
theorem gx_iretX {r : Int32} (hx : p.tables.exec = Jvm.exec) (hb : c.code = cc) (hr : meth.sig.returnType = some .int) (hlocks : meth.locks = false) (hw : gx_at G C M o d s.heap H locs) (hdg : decode cc pc = .ok (.ireturn, 1)) : W p l e R s m args below meth c H locs 0 0 (vx_MQ below (gx_QXi G (.inl r) C M o d) XC args s 1 6 (gx_A G)) (F0 m pc ls [.int r]) :=
  W.widen (k := 1) (n := 6) (by decide) (by decide) (vx_ret (W.iret hx hb hr (fun t ht _ => ⟨⟨r, (), rfl, rfl, by show gx_H G C M o d t.heap; rw [ht]; exact hw.H⟩, hw.2.1.F ht⟩) hw.2.1.2.2 hdg hlocks))
theorem gx_cretX {r : Int32} {ty : FieldType} (hx : p.tables.exec = Jvm.exec) (hb : c.code = cc) (hr : meth.sig.returnType = some ty) (hn : narrow ty (.int r) = .int r) (hlocks : meth.locks = false) (hw : gx_at G C M o d s.heap H locs) (hdg : decode cc pc = .ok (.ireturn, 1)) : W p l e R s m args below meth c H locs 0 0 (vx_MQ below (gx_QXi G (.inl r) C M o d) XC args s 1 6 (gx_A G)) (F0 m pc ls [.int r]) :=
  W.widen (k := 1) (n := 6) (by decide) (by decide) (vx_ret (W.zret hx hb hr hn (fun t ht _ => ⟨⟨r, (), rfl, rfl, by show gx_H G C M o d t.heap; rw [ht]; exact hw.H⟩, hw.2.1.F ht⟩) hw.2.1.2.2 hdg hlocks))
theorem gx_zretX {b : Bool} (hx : p.tables.exec = Jvm.exec) (hb : c.code = cc) (hr : meth.sig.returnType = some .boolean) (hlocks : meth.locks = false) (hw : gx_at G C M o d s.heap H locs) (hdg : decode cc pc = .ok (.ireturn, 1)) : W p l e R s m args below meth c H locs 0 0 (vx_MQ below (gx_QXz G (.inl b) C M o d) XC args s 1 6 (gx_A G)) (F0 m pc ls [.int (gx_bi b)]) :=
  W.widen (k := 1) (n := 6) (by decide) (by decide) (vx_ret (W.zret hx hb hr (gx_narb b) (fun t ht _ => ⟨⟨gx_bi b, b, rfl, ⟨rfl, rfl⟩, by show gx_H G C M o d t.heap; rw [ht]; exact hw.H⟩, hw.2.1.F ht⟩) hw.2.1.2.2 hdg hlocks))
theorem gx_dretX {r : UInt64} (hx : p.tables.exec = Jvm.exec) (hb : c.code = cc) (hr : meth.sig.returnType = some .double) (hlocks : meth.locks = false) (hw : gx_at G C M o d s.heap H locs) (hdg : decode cc pc = .ok (.dreturn, 1)) : W p l e R s m args below meth c H locs 0 0 (vx_MQ below (gx_QXd G (.inl r) C M o d) XC args s 1 6 (gx_A G)) (F0 m pc ls [.double r]) :=
  W.widen (k := 1) (n := 6) (by decide) (by decide) (vx_ret (W.dret hx hb hr (fun t ht _ => ⟨⟨r, (), rfl, rfl, by show gx_H G C M o d t.heap; rw [ht]; exact hw.H⟩, hw.2.1.F ht⟩) hw.2.1.2.2 hdg hlocks))
theorem gx_fretX {r : UInt32} (hx : p.tables.exec = Jvm.exec) (hb : c.code = cc) (hr : meth.sig.returnType = some .float) (hlocks : meth.locks = false) (hw : gx_at G C M o d s.heap H locs) (hdg : decode cc pc = .ok (.freturn, 1)) : W p l e R s m args below meth c H locs 0 0 (vx_MQ below (gx_QXf G (.inl r) C M o d) XC args s 1 6 (gx_A G)) (F0 m pc ls [.float r]) :=
  W.widen (k := 1) (n := 6) (by decide) (by decide) (vx_ret (W.fret hx hb hr (fun t ht _ => ⟨⟨r, (), rfl, rfl, by show gx_H G C M o d t.heap; rw [ht]; exact hw.H⟩, hw.2.1.F ht⟩) hw.2.1.2.2 hdg hlocks))
theorem gx_xc {i : Nat} {cls : String} (hen : cls = gx_en i) (hw : gx_at G C M o d s.heap H locs) (t : State) (_ : s.vm.Alike t.vm) (h1 : H.size ≤ t.heap.size) (h2 : ∀ q : Nat, q < H.size → t.heap[q]? = H[q]?) : gx_XX G (.inr i : S ⊕ Nat) C M o d cls s t := by
  refine ⟨i, rfl, ⟨hen, va_P.kept hw.1 (fun k q hk => h2 _ (hw.1 k q hk).lt), Nat.le_trans hw.H.2 h1⟩, Nat.le_trans hw.2.1.1 h1, fun q hq ha => ?_⟩
  rw [h2 q (Nat.lt_of_lt_of_le hq hw.2.1.1)]
  exact hw.2.1.2.1 q hq ha
theorem gx_throwS {i ik ic is : Nat} {cls text : String} (hen : cls = gx_en i) (hcls : Bundle.fit cls = true) (hkt : ∀ w ∈ Cond.classLink RX6 ik cls :: Cond.initialized cls :: vx_atS RX6 ic cls gx_names, w ∈ lw_tbl ∧ gx_ok w = true ∧ vx_ot w = true) (hx : p.tables.exec = Jvm.exec) (hb : c.code = cc) (hl : l.stackTraces = false) (hown : s.vm.findClass RX6 = some m.cls) (hlocks : meth.locks = false) (htab : ∀ x ∈ c.exceptionTable.toList, False) (hV : gx_V G s) (hZ : gx_Z G s s.heap) (hw : gx_at G C M o d s.heap H locs) (hsize : ls.size = c.maxLocals) (hstr : (is, text) ∈ gx_strs) (hRf : 5 < R.frames) (hRl : 82 ≤ R.locals) (hRc : 1 ≤ R.cells) (hRs : 6 ≤ R.slots)
    (d0 : decode cc pc = .ok (.new ik, 3)) (d3 : decode cc (pc + 3) = .ok (.dup, 1)) (d4 : decode cc (pc + 4) = .ok (.ldc is, 2)) (d6 : decode cc (pc + 6) = .ok (.invokespecial ic, 3)) (d9 : decode cc (pc + 9) = .ok (.athrow, 1)) : W p l e R s m args below meth c H locs 0 0 (vx_MQ below Qc (gx_XX G (.inr i : S ⊕ Nat) C M o d) args s 1 6 (gx_A G)) (F0 m pc ls []) := by
  obtain ⟨a, ha⟩ := hZ.2.2.1 _ hstr
  exact vx_throwS (A := gx_A G) (names := gx_names) (sa := a) hx hb hl hown hcls (by decide +kernel) (hV.w (hkt _ List.mem_cons_self).1 (hkt _ List.mem_cons_self).2.1) (hV.w (hkt _ (List.mem_cons_of_mem _ List.mem_cons_self)).1 (hkt _ (List.mem_cons_of_mem _ List.mem_cons_self)).2.1) ha (fun w h => hV.w (hkt w (List.mem_cons_of_mem _ (List.mem_cons_of_mem _ h))).1 (hkt w (List.mem_cons_of_mem _ (List.mem_cons_of_mem _ h))).2.1) (fun w h => (hkt w h).2.2) hZ.1 hZ.2.1 hw.2.1 hsize d0 d3 d4 d6 d9 (fun x h => (htab x h).elim) hRf hRl (by simpa using hRc) (by simpa using hRs) hlocks (fun t q1 q2 q3 => gx_xc hen hw t q1 q2 q3) hw.2.1.2.2 (Nat.le_refl _) (Nat.le_refl _)
theorem gx_throwSW {i ik ic is : Nat} {cls text : String} (hen : cls = gx_en i) (hcls : Bundle.fit cls = true) (hkt : ∀ w ∈ Cond.classLink RX6 ik cls :: Cond.initialized cls :: vx_atS RX6 ic cls gx_names, w ∈ lw_tbl ∧ gx_ok w = true ∧ vx_ot w = true) (hx : p.tables.exec = Jvm.exec) (hb : c.code = cc) (hl : l.stackTraces = false) (hown : s.vm.findClass RX6 = some m.cls) (hlocks : meth.locks = false) (htab : ∀ x ∈ c.exceptionTable.toList, False) (hV : gx_V G s) (hZ : gx_Z G s s.heap) (hw : gx_at G C M o d s.heap H locs) (hsize : ls.size = c.maxLocals) (hstr : (is, text) ∈ gx_strs) (hRf : 5 < R.frames) (hRl : 82 ≤ R.locals) (hRc : 1 ≤ R.cells) (hRs : 6 ≤ R.slots)
    (d0 : decode cc pc = .ok (.new ik, 3)) (d3 : decode cc (pc + 3) = .ok (.dup, 1)) (d4 : decode cc (pc + 4) = .ok (.ldc_w is, 3)) (d6 : decode cc (pc + 7) = .ok (.invokespecial ic, 3)) (d9 : decode cc (pc + 10) = .ok (.athrow, 1)) : W p l e R s m args below meth c H locs 0 0 (vx_MQ below Qc (gx_XX G (.inr i : S ⊕ Nat) C M o d) args s 1 6 (gx_A G)) (F0 m pc ls []) := by
  obtain ⟨a, ha⟩ := hZ.2.2.1 _ hstr
  exact vx_throwSW (A := gx_A G) (names := gx_names) (sa := a) hx hb hl hown hcls (by decide +kernel) (hV.w (hkt _ List.mem_cons_self).1 (hkt _ List.mem_cons_self).2.1) (hV.w (hkt _ (List.mem_cons_of_mem _ List.mem_cons_self)).1 (hkt _ (List.mem_cons_of_mem _ List.mem_cons_self)).2.1) ha (fun w h => hV.w (hkt w (List.mem_cons_of_mem _ (List.mem_cons_of_mem _ h))).1 (hkt w (List.mem_cons_of_mem _ (List.mem_cons_of_mem _ h))).2.1) (fun w h => (hkt w h).2.2) hZ.1 hZ.2.1 hw.2.1 hsize d0 d3 d4 d6 d9 (fun x h => (htab x h).elim) hRf hRl (by simpa using hRc) (by simpa using hRs) hlocks (fun t q1 q2 q3 => gx_xc hen hw t q1 q2 q3) hw.2.1.2.2 (Nat.le_refl _) (Nat.le_refl _)
end GXX
theorem gx_kt0 : ∀ w ∈ Cond.classLink RX6 89 "java/lang/UnsupportedOperationException" :: Cond.initialized "java/lang/UnsupportedOperationException" :: vx_atS RX6 93 "java/lang/UnsupportedOperationException" gx_names, w ∈ lw_tbl ∧ gx_ok w = true ∧ vx_ot w = true := by decide +kernel
theorem gx_kt1 : ∀ w ∈ Cond.classLink RX6 128 "java/lang/IndexOutOfBoundsException" :: Cond.initialized "java/lang/IndexOutOfBoundsException" :: vx_atS RX6 132 "java/lang/IndexOutOfBoundsException" gx_names, w ∈ lw_tbl ∧ gx_ok w = true ∧ vx_ot w = true := by decide +kernel
theorem gx_kt2 : ∀ w ∈ Cond.classLink RX6 136 "java/lang/IllegalArgumentException" :: Cond.initialized "java/lang/IllegalArgumentException" :: vx_atS RX6 140 "java/lang/IllegalArgumentException" gx_names, w ∈ lw_tbl ∧ gx_ok w = true ∧ vx_ot w = true := by decide +kernel
theorem gx_kt4 : ∀ w ∈ Cond.classLink RX6 245 "java/lang/IllegalStateException" :: Cond.initialized "java/lang/IllegalStateException" :: vx_atS RX6 249 "java/lang/IllegalStateException" gx_names, w ∈ lw_tbl ∧ gx_ok w = true ∧ vx_ot w = true := by decide +kernel
theorem gx_kt5 : ∀ w ∈ Cond.classLink RX6 291 "java/lang/ArithmeticException" :: Cond.initialized "java/lang/ArithmeticException" :: vx_atS RX6 295 "java/lang/ArithmeticException" gx_names, w ∈ lw_tbl ∧ gx_ok w = true ∧ vx_ot w = true := by decide +kernel
def gx_rx : ByteArray := ⟨#[0x2a, 0x2b, 0xb7, 0x00, 0x0d, 0xb1]⟩
def gx_kn : List Cond := gx_wordsX RX6 166 "java/util/NoSuchElementException" 13 gx_rx "java/lang/RuntimeException" ["java/lang/Exception"]
theorem gx_kt3 : ∀ w ∈ Cond.classLink RX6 162 "java/util/NoSuchElementException" :: Cond.initialized "java/util/NoSuchElementException" :: gx_kn.filter vx_no, w ∈ lw_tbl ∧ gx_ok w = true ∧ vx_ot w = true := by decide +kernel
set_option maxHeartbeats 4000000 in
theorem gx_throwNS {S : Type} {p : Program} {l : Launch} {e : Env} {R : Room} {s : State} {m : MethodId} {args : Array Value} {below : List Frame} {meth : Method} {c : Code} {H : Heap} {locs : List Loc} {cc : ByteArray} {pc : Nat} {ls : Array Slot} {G : gx_G} {C M : gx_S} {o : Int64} {d : UInt64} {Qc : Array Value → State → Outcome → State → Prop} {is : Nat} {text : String} (hx : p.tables.exec = Jvm.exec) (hb : c.code = cc) (hl : l.stackTraces = false) (hown : s.vm.findClass RX6 = some m.cls) (hlocks : meth.locks = false) (htab : ∀ x ∈ c.exceptionTable.toList, False) (hV : gx_V G s) (hZ : gx_Z G s s.heap) (hw : gx_at G C M o d s.heap H locs) (hsize : ls.size = c.maxLocals) (hstr : (is, text) ∈ gx_strs) (hRf : 5 < R.frames) (hRl : 82 ≤ R.locals) (hRc : 1 ≤ R.cells) (hRs : 6 ≤ R.slots)
    (d0 : decode cc pc = .ok (.new 162, 3)) (d3 : decode cc (pc + 3) = .ok (.dup, 1)) (d4 : decode cc (pc + 4) = .ok (.ldc is, 2)) (d6 : decode cc (pc + 6) = .ok (.invokespecial 166, 3)) (d9 : decode cc (pc + 9) = .ok (.athrow, 1)) : W p l e R s m args below meth c H locs 0 0 (vx_MQ below Qc (gx_XX G (.inr 3 : S ⊕ Nat) C M o d) args s 1 6 (gx_A G)) (F0 m pc ls []) := by
  obtain ⟨sa, hsa⟩ := hZ.2.2.1 _ hstr
  intro T hT X
  have htr : e.platform.stackTraces = false := (show e.platform.stackTraces = l.stackTraces by rw [X.admits.platform]).trans hl
  have Y := vx_rebase X (R' := { frames := R.frames, locals := R.locals, cells := 1, slots := 6 }) (Nat.le_refl _) (Nat.le_refl _) (by simpa using hRc) (by simpa using hRs)
  obtain ⟨s', hA⟩ : ∃ z, z = (T.setVm s.vm).setFrames (.invoking m args :: below) := ⟨_, rfl⟩
  rw [← hA] at Y
  have hvm : s'.vm = s.vm := by rw [hA]; rfl
  have hhp : s'.heap = H := by rw [hA]; exact hT
  have hW0 : s.WarmedH s'.vm := by rw [hvm]; exact State.WarmedH.refl s
  have tr : ∀ w, w ∈ Cond.classLink RX6 162 "java/util/NoSuchElementException" :: Cond.initialized "java/util/NoSuchElementException" :: gx_kn.filter vx_no → w.before args s' = true := fun w hw => vx_ot_at hW0 hvm.symm (gx_kt3 w hw).2.2 (hV.w (A := args) (gx_kt3 w hw).1 (gx_kt3 w hw).2.1)
  have hU' : vx_Zq Bundle.tN "UNASSIGNED_STACK" Bundle.steD (gx_A G) s' s'.heap := by rw [hhp]; exact vx_Zq.moved hW0.alike (hZ.1.kept hw.2.1.2.1)
  have hN' : vx_Zq Bundle.tN "SUPPRESSED_SENTINEL" Bundle.listD (gx_A G) s' s'.heap := by rw [hhp]; exact vx_Zq.moved hW0.alike (hZ.2.1.kept hw.2.1.2.1)
  have h : ∀ w ∈ gx_kn, w.before args s' = true := vx_own (fun w hw => tr w (List.mem_cons_of_mem _ (List.mem_cons_of_mem _ hw))) (vx_isRefq hU'.1) (vx_isRefq hN'.1) hU'.2.word hN'.2.word
  have hown' : s'.vm.findClass RX6 = some m.cls := by rw [hvm]; exact hown
  have hins : (Cond.instantiable "java/util/NoSuchElementException" 6).before args s' = true := h _ (List.mem_append_right _ (List.mem_append_right _ (List.mem_append_right _ (List.mem_append_right _ (by simp [gx_tailX])))))
  obtain ⟨vm₁, cX, kX, hfX, hkX, -, -, X₁, st1⟩ := Y.newCold hx (own := RX6) (C := "java/util/NoSuchElementException") (index := 162) (n := 6) hown' (tr _ List.mem_cons_self) hins (tr _ (List.mem_cons_of_mem _ List.mem_cons_self))
    (g := F0 m pc ls []) rfl (by rw [hb]; exact d0) (Nat.le_refl _) (Nat.le_refl _)
  generalize hT1 : (T.setVm vm₁).pushCell { cls := cX, slots := kX.instanceTypes.map defaultValue, vm := .none } = T1 at X₁ st1
  have hcat : (Value.ref T.heap.size).category = 1 := rfl
  have hcellA : T1.heap[T.heap.size]? = some (freshCell cX kX) := by rw [← hT1]; exact State.heap_pushCell_size _ _
  have d3' : decode c.code (pc + 3) = .ok (.dup, 1) := by rw [hb]; exact d3
  have d4' : decode c.code (pc + 4) = .ok (.ldc is, 2) := by rw [hb]; exact d4
  have hstr' : vk_R RX6 is text sa s' := vk_R.warm hW0 hsa
  obtain ⟨U, hsteps, hrun, hend, hW, hsame, ce, hce, hcv, hcl0⟩ := gx_ctorX X₁ hx htr (own := RX6) (cls := "java/util/NoSuchElementException") (Y := "java/lang/RuntimeException") (r := ["java/lang/Exception"]) (ic := 166) (ix := 13) (rx := gx_rx) (by decide +kernel) (by decide +kernel) (by decide +kernel) (by decide +kernel) hown' (by decide +kernel) (by decide +kernel) (by decide +kernel) h (fun x hx => nomatch hx) hfX hkX hcellA (by rw [hhp, hT]; exact Nat.le_refl _) (msg := .ref sa) rfl
    (g := { method := m, pc := pc + 6, locals := ls, stack := .ref sa :: .ref T.heap.size :: .ref T.heap.size :: [], locked := none }) rfl hsize rfl rfl (rest := []) rfl
    (by rw [hb]; exact d6) (by rw [hb]; exact d9) (fun x h => (htab x h).elim) hRf (Nat.le_trans (Nat.le_of_ble_eq_true rfl) hRl) hlocks
  obtain ⟨f1, f2⟩ := vx_frame hsame
  rw [hhp] at f1 f2
  have hWs : s.WarmedH U.vm := State.WarmedH.trans hW0 hW
  have hcl : s.vm.findClass "java/util/NoSuchElementException" = some ce.cls := by
    rw [hvm] at hcl0
    exact hcl0
  have hall : s.sameButNew ({ U with vm := s.vm } : State) locs 1 6 := by
    subst hA
    obtain ⟨e1, e2⟩ := hsame
    rw [State.setFrames_setFrames] at e1
    have h2 : (T.setVm s.vm).sameButNew ({ U with vm := s.vm } : State) [] (0 + 1) (0 + 6) := ⟨e1, e2⟩
    have h3 := X.same.trans h2
    rw [List.append_nil] at h3
    exact h3.mono (by decide) (by decide)
  refine ⟨U, ?_, .threw T.heap.size, hrun, hend, Or.inr ⟨T.heap.size, rfl, "java/util/NoSuchElementException", ce, locs, gx_xc rfl hw U hWs.alike f1 (fun q hq => f2 q hq (fun z hz => nomatch hz)), hce, hcv, hcl, hWs, hall, hw.2.1.2.2⟩⟩
  refine st1 _ ?_
  show Steps p.tables e below (T1.setTop { method := m, pc := pc + 3, locals := ls, stack := .ref T.heap.size :: [], locked := none }) _
  jvm_step X₁.here [X₁.here.top, hx, d3', Value.category]
  exact X₁.ldcString hx (own := RX6) (text := text) (index := is) (a := sa) hown' hstr'.1 hstr'.2
    (g := { method := m, pc := pc + 4, locals := ls, stack := .ref T.heap.size :: .ref T.heap.size :: [], locked := none }) rfl d4' _ hsteps
set_option maxHeartbeats 4000000 in
theorem gx_throwNSW {S : Type} {p : Program} {l : Launch} {e : Env} {R : Room} {s : State} {m : MethodId} {args : Array Value} {below : List Frame} {meth : Method} {c : Code} {H : Heap} {locs : List Loc} {cc : ByteArray} {pc : Nat} {ls : Array Slot} {G : gx_G} {C M : gx_S} {o : Int64} {d : UInt64} {Qc : Array Value → State → Outcome → State → Prop} {is : Nat} {text : String} (hx : p.tables.exec = Jvm.exec) (hb : c.code = cc) (hl : l.stackTraces = false) (hown : s.vm.findClass RX6 = some m.cls) (hlocks : meth.locks = false) (htab : ∀ x ∈ c.exceptionTable.toList, False) (hV : gx_V G s) (hZ : gx_Z G s s.heap) (hw : gx_at G C M o d s.heap H locs) (hsize : ls.size = c.maxLocals) (hstr : (is, text) ∈ gx_strs) (hRf : 5 < R.frames) (hRl : 82 ≤ R.locals) (hRc : 1 ≤ R.cells) (hRs : 6 ≤ R.slots)
    (d0 : decode cc pc = .ok (.new 162, 3)) (d3 : decode cc (pc + 3) = .ok (.dup, 1)) (d4 : decode cc (pc + 4) = .ok (.ldc_w is, 3)) (d6 : decode cc (pc + 7) = .ok (.invokespecial 166, 3)) (d9 : decode cc (pc + 10) = .ok (.athrow, 1)) : W p l e R s m args below meth c H locs 0 0 (vx_MQ below Qc (gx_XX G (.inr 3 : S ⊕ Nat) C M o d) args s 1 6 (gx_A G)) (F0 m pc ls []) := by
  obtain ⟨sa, hsa⟩ := hZ.2.2.1 _ hstr
  intro T hT X
  have htr : e.platform.stackTraces = false := (show e.platform.stackTraces = l.stackTraces by rw [X.admits.platform]).trans hl
  have Y := vx_rebase X (R' := { frames := R.frames, locals := R.locals, cells := 1, slots := 6 }) (Nat.le_refl _) (Nat.le_refl _) (by simpa using hRc) (by simpa using hRs)
  obtain ⟨s', hA⟩ : ∃ z, z = (T.setVm s.vm).setFrames (.invoking m args :: below) := ⟨_, rfl⟩
  rw [← hA] at Y
  have hvm : s'.vm = s.vm := by rw [hA]; rfl
  have hhp : s'.heap = H := by rw [hA]; exact hT
  have hW0 : s.WarmedH s'.vm := by rw [hvm]; exact State.WarmedH.refl s
  have tr : ∀ w, w ∈ Cond.classLink RX6 162 "java/util/NoSuchElementException" :: Cond.initialized "java/util/NoSuchElementException" :: gx_kn.filter vx_no → w.before args s' = true := fun w hw => vx_ot_at hW0 hvm.symm (gx_kt3 w hw).2.2 (hV.w (A := args) (gx_kt3 w hw).1 (gx_kt3 w hw).2.1)
  have hU' : vx_Zq Bundle.tN "UNASSIGNED_STACK" Bundle.steD (gx_A G) s' s'.heap := by rw [hhp]; exact vx_Zq.moved hW0.alike (hZ.1.kept hw.2.1.2.1)
  have hN' : vx_Zq Bundle.tN "SUPPRESSED_SENTINEL" Bundle.listD (gx_A G) s' s'.heap := by rw [hhp]; exact vx_Zq.moved hW0.alike (hZ.2.1.kept hw.2.1.2.1)
  have h : ∀ w ∈ gx_kn, w.before args s' = true := vx_own (fun w hw => tr w (List.mem_cons_of_mem _ (List.mem_cons_of_mem _ hw))) (vx_isRefq hU'.1) (vx_isRefq hN'.1) hU'.2.word hN'.2.word
  have hown' : s'.vm.findClass RX6 = some m.cls := by rw [hvm]; exact hown
  have hins : (Cond.instantiable "java/util/NoSuchElementException" 6).before args s' = true := h _ (List.mem_append_right _ (List.mem_append_right _ (List.mem_append_right _ (List.mem_append_right _ (by simp [gx_tailX])))))
  obtain ⟨vm₁, cX, kX, hfX, hkX, -, -, X₁, st1⟩ := Y.newCold hx (own := RX6) (C := "java/util/NoSuchElementException") (index := 162) (n := 6) hown' (tr _ List.mem_cons_self) hins (tr _ (List.mem_cons_of_mem _ List.mem_cons_self))
    (g := F0 m pc ls []) rfl (by rw [hb]; exact d0) (Nat.le_refl _) (Nat.le_refl _)
  generalize hT1 : (T.setVm vm₁).pushCell { cls := cX, slots := kX.instanceTypes.map defaultValue, vm := .none } = T1 at X₁ st1
  have hcat : (Value.ref T.heap.size).category = 1 := rfl
  have hcellA : T1.heap[T.heap.size]? = some (freshCell cX kX) := by rw [← hT1]; exact State.heap_pushCell_size _ _
  have d3' : decode c.code (pc + 3) = .ok (.dup, 1) := by rw [hb]; exact d3
  have d4' : decode c.code (pc + 4) = .ok (.ldc_w is, 3) := by rw [hb]; exact d4
  have hstr' : vk_R RX6 is text sa s' := vk_R.warm hW0 hsa
  obtain ⟨U, hsteps, hrun, hend, hW, hsame, ce, hce, hcv, hcl0⟩ := gx_ctorX X₁ hx htr (own := RX6) (cls := "java/util/NoSuchElementException") (Y := "java/lang/RuntimeException") (r := ["java/lang/Exception"]) (ic := 166) (ix := 13) (rx := gx_rx) (by decide +kernel) (by decide +kernel) (by decide +kernel) (by decide +kernel) hown' (by decide +kernel) (by decide +kernel) (by decide +kernel) h (fun x hx => nomatch hx) hfX hkX hcellA (by rw [hhp, hT]; exact Nat.le_refl _) (msg := .ref sa) rfl
    (g := { method := m, pc := pc + 7, locals := ls, stack := .ref sa :: .ref T.heap.size :: .ref T.heap.size :: [], locked := none }) rfl hsize rfl rfl (rest := []) rfl
    (by rw [hb]; exact d6) (by rw [hb]; exact d9) (fun x h => (htab x h).elim) hRf (Nat.le_trans (Nat.le_of_ble_eq_true rfl) hRl) hlocks
  obtain ⟨f1, f2⟩ := vx_frame hsame
  rw [hhp] at f1 f2
  have hWs : s.WarmedH U.vm := State.WarmedH.trans hW0 hW
  have hcl : s.vm.findClass "java/util/NoSuchElementException" = some ce.cls := by
    rw [hvm] at hcl0
    exact hcl0
  have hall : s.sameButNew ({ U with vm := s.vm } : State) locs 1 6 := by
    subst hA
    obtain ⟨e1, e2⟩ := hsame
    rw [State.setFrames_setFrames] at e1
    have h2 : (T.setVm s.vm).sameButNew ({ U with vm := s.vm } : State) [] (0 + 1) (0 + 6) := ⟨e1, e2⟩
    have h3 := X.same.trans h2
    rw [List.append_nil] at h3
    exact h3.mono (by decide) (by decide)
  refine ⟨U, ?_, .threw T.heap.size, hrun, hend, Or.inr ⟨T.heap.size, rfl, "java/util/NoSuchElementException", ce, locs, gx_xc rfl hw U hWs.alike f1 (fun q hq => f2 q hq (fun z hz => nomatch hz)), hce, hcv, hcl, hWs, hall, hw.2.1.2.2⟩⟩
  refine st1 _ ?_
  show Steps p.tables e below (T1.setTop { method := m, pc := pc + 3, locals := ls, stack := .ref T.heap.size :: [], locked := none }) _
  jvm_step X₁.here [X₁.here.top, hx, d3', Value.category]
  exact X₁.ldcStringW hx (own := RX6) (text := text) (index := is) (a := sa) hown' hstr'.1 hstr'.2
    (g := { method := m, pc := pc + 4, locals := ls, stack := .ref T.heap.size :: .ref T.heap.size :: [], locked := none }) rfl d4' _ hsteps
