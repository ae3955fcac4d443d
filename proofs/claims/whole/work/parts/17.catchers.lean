/-! THE LAW'S CATCHERS (gen5.py): each calls a method of the face, puts what it answers into a row of one, and answers 0, or catches and answers which one it caught -/
theorem gx_cell_o {G : gx_G} {C M : gx_S} {o x : Int64} {d : UInt64} {j : Nat} (h : j ≠ 68) : gx_cell G C M x d j = gx_cell G C M o d j := by
  simp only [gx_cell, if_neg h]
theorem gx_cell_d {G : gx_G} {C M : gx_S} {o : Int64} {d x : UInt64} {j : Nat} (h : j ≠ 69) : gx_cell G C M o x j = gx_cell G C M o d j := by
  simp only [gx_cell, if_neg h]
theorem gx_arr1 (cA : ClassId) (f g : Nat → Value) (h : f 0 = g 0) : arrV cA 1 f = arrV cA 1 g := by
  unfold arrV
  congr 1
  congr 1
  funext j
  have hj : j.val = 0 := by have := j.isLt; omega
  rw [hj, h]
section GXL
variable {α : Type} {p : Program} {l : Launch} {e : Env} {R : Room} {s : State} {m : MethodId} {args : Array Value} {below : List Frame} {meth : Method} {c : Code} {H : Heap} {locs : List Loc} {cells slots : Nat} {Q : State → Prop}
variable {cc : ByteArray} {pc : Nat} {ls : Array Slot} {rest : List Value} {G : gx_G} {C M : gx_S} {o : Int64} {d : UInt64} {own : String} {X Y : Option α} {out : α}
theorem gx_last (hx : p.tables.exec = Jvm.exec) (hb : c.code = cc) (hV : gx_V G s) (hw : gx_at G C M o d s.heap H locs) {x : Int64} (hdg : decode cc pc = .ok (.lastore, 1))
    (kk : ∀ (H1 : Heap) (locs1 : List Loc), gx_at G C M x d s.heap H1 locs1 → W p l e R s m args below meth c H1 locs1 cells slots Q (F0 m (pc + 1) ls rest)) : W p l e R s m args below meth c H locs cells slots Q (F0 m pc ls (.long x :: .int 0 :: .ref (G.2.1 68) :: rest)) := by
  refine va_last (n := 1) (f := fun _ => o) hx hb hV.2.1 hw.1 (hV.2.2.va C M o d) hw.2.1 68 4 ((gx_ws_get (by decide)).trans rfl) rfl (gx_in_vp (by decide)) hdg (fun H1 locs1 hP _ hS => kk H1 locs1 ⟨fun k q hk => ?_, hS, hw.2.2⟩)
  obtain ⟨hk7, rfl⟩ := gx_ws_of hk
  by_cases h68 : k = 68
  · subst h68
    have h1 := hP 68 _ (List.getElem?_set_self (by simp [gx_ws]))
    refine Eq.trans h1 (congrArg some ?_)
    exact gx_arr1 (G.2.2.1 4) (fun j => .long (vp_updL (fun _ => o) (0 : Int32).toNatClampNeg x j)) (fun _ => .long x) rfl
  · rw [gx_cell_o h68 (o := o)]
    exact hP k _ ((List.getElem?_set_ne (Ne.symm h68)).trans (gx_ws_get hk7))
theorem gx_dast (hx : p.tables.exec = Jvm.exec) (hb : c.code = cc) (hV : gx_V G s) (hw : gx_at G C M o d s.heap H locs) {x : UInt64} (hdg : decode cc pc = .ok (.dastore, 1))
    (kk : ∀ (H1 : Heap) (locs1 : List Loc), gx_at G C M o x s.heap H1 locs1 → W p l e R s m args below meth c H1 locs1 cells slots Q (F0 m (pc + 1) ls rest)) : W p l e R s m args below meth c H locs cells slots Q (F0 m pc ls (.double x :: .int 0 :: .ref (G.2.1 69) :: rest)) := by
  refine va_dast (n := 1) (f := fun _ => d) hx hb hV.2.1 hw.1 (hV.2.2.va C M o d) hw.2.1 69 5 ((gx_ws_get (by decide)).trans rfl) rfl (gx_in_vp (by decide)) hdg (fun H1 locs1 hP _ hS => kk H1 locs1 ⟨fun k q hk => ?_, hS, hw.2.2⟩)
  obtain ⟨hk7, rfl⟩ := gx_ws_of hk
  by_cases h69 : k = 69
  · subst h69
    have h1 := hP 69 _ (List.getElem?_set_self (by simp [gx_ws]))
    refine Eq.trans h1 (congrArg some ?_)
    exact gx_arr1 (G.2.2.1 5) (fun j => .double (vf_upd (fun _ => d) (0 : Int32).toNatClampNeg x j)) (fun _ => .double x) rfl
  · rw [gx_cell_d h69 (d := d)]
    exact hP k _ ((List.getElem?_set_ne (Ne.symm h69)).trans (gx_ws_get hk7))
theorem gx_f2d {x : UInt32} (hx : p.tables.exec = Jvm.exec) (hb : c.code = cc) (hF : gx_ck (gx_n64 (FP.f2d x)) X = some out) (hdg : decode cc pc = .ok (.f2d, 1)) (k : X = some out → W p l e R s m args below meth c H locs cells slots Q (F0 m (pc + 1) ls (.double (FP.f2d x) :: rest))) : W p l e R s m args below meth c H locs cells slots Q (F0 m pc ls (.float x :: rest)) :=
  lv_f2d hx hb hdg (gx_n64_of (gx_ck_of hF).1) (k (gx_ck_of hF).2)
end GXL
abbrev gx_KW (l : Launch) (y : MethodName) (bytes : ByteArray) (maxL : Nat) (ret : Option FieldType) (hh : List (Nat × Nat × Nat × Nat)) (rm : Room) (av : List Value) (G : gx_G) (C M : gx_S) (o : Int64) (d : UInt64) (Qc : Array Value → State → Outcome → State → Prop) : Prop := Met l y [.codeWith y bytes maxL ret hh] rm (va_Pc av (gx_UX G C M o d)) Qc 1 6 (gx_A G)
theorem gx_beginW {l : Launch} {y : MethodName} {cc : ByteArray} {maxL : Nat} {ret : Option FieldType} {hh : List (Nat × Nat × Nat × Nat)} {rm : Room} {av : List Value} {G : gx_G} {C M : gx_S} {o : Int64} {d : UInt64} {Qc : Array Value → State → Outcome → State → Prop} (hy : plainName y.cls = true) (hlen : (lg_sl av).length ≤ maxL)
    (body : ∀ (p : Program) (e : Env) (s : State) (m : MethodId) (below : List Frame) (meth : Method) (c : Code), p.tables.exec = Jvm.exec → c.code = cc → meth.sig.returnType = ret → c.maxLocals = maxL → s.vm.findClass y.cls = some m.cls → meth.locks = false → c.exceptionTable.toList = tableOf hh → gx_V G s → gx_Z G s s.heap → gx_at G C M o d s.heap s.heap [] → ∀ ls : Array Slot, lv_has ls maxL (lv_args 0 av) → W p l e rm s m av.toArray below meth c s.heap [] 0 0 (MQ below Qc av.toArray s 1 6 (gx_A G)) (F0 m 0 ls [])) : gx_KW l y cc maxL ret hh rm av G C M o d Qc := by
  refine MetFree.of_bodyS (code := cc) (maxLocals := maxL) (ret := ret) hy ?_ ?_
  · intro args s m h hn
    obtain ⟨m9, meth, c, hn9, h1, h2, h3, h4, -, h5, h6, -⟩ := Cond.codeWith_spec (atoms_spec (ws := [.codeWith y cc maxL ret hh]) h _ List.mem_cons_self)
    cases hn.symm.trans hn9
    exact ⟨meth, c, h1, h2, h3, h4, h5, h6⟩
  · intro p e s m args below meth c s₁ B hml hP _
    have hh0 : s₁.heap = s.heap := by rw [B.state]; rfl
    have htab := vx_table (x := y) B (atoms_spec (ws := [.codeWith y cc maxL ret hh]) B.pre _ List.mem_cons_self)
    obtain ⟨rfl, hU, hZ⟩ := hP
    have k9 := body p e s m below meth c B.exec B.bytes B.returns hml (findClass_of_methodNamed B.named) B.notSynchronized htab hU.1 hZ hU.at _ (lv_entry av hlen)
    rw [← lg_entry_eq] at k9
    obtain ⟨t, a1, o9, b1, b2, b3⟩ := k9 s₁ hh0 (Stand.of_body B)
    exact ⟨t, o9, a1, b1, b2, b3.1, b3.2⟩
theorem gx_callW {R : Room} {s : State} {args : Array Value} {own : String} {y : MethodName} {bytes : ByteArray} {maxL mc ms n index : Nat} {ret : Option FieldType} {hh : List (Nat × Nat × Nat × Nat)} {rm : Room} (hrc : rm.cells = mc) (hrs : rm.slots = ms) (hlink : (Cond.methodLink own index y).before args s = true) (hini : (Cond.initialized y.cls).before args s = true) (hcode : (Cond.codeWith y bytes maxL ret hh).before args s = true) (hst : (Cond.static y).before args s = true)
    (hd : y.cls ≠ "java/lang/invoke/MethodHandle" ∧ y.cls ≠ "java/lang/invoke/VarHandle" ∧ (parseMethodDescriptor y.desc).map (fun d => d.parameters.length) = some n) (hR : rm.frames + 1 ≤ R.frames ∧ 8 + (maxL + 11) + rm.locals ≤ R.locals) :
    vx_CSW R s args own index y bytes maxL ret hh [.codeWith y bytes maxL ret hh] rm mc ms n := by
  refine ⟨⟨hrc, hrs, hR.1, hR.2, fun w hw a' U hW => ?_, List.mem_cons_self⟩, hcode, hini, ⟨hd.1, hd.2.1⟩, fun sig h => ?_, hlink, hst⟩
  · rw [List.mem_singleton.mp hw]
    exact word_at hW (Or.inl (by first | rfl | simp [Cond.onTables, Cond.keeps, Cond.steady])) hcode
  · have h2 := hd.2.2
    rw [h] at h2
    exact (Option.some.inj h2).symm
noncomputable def f_L_kind (x1 : Int32) (x2 : Int32) (x3 : Int32) (x4 : Int32) (I V : gx_F) (o : Int64) : Option (Int32 × gx_F × gx_F × Int64) := (Option.bind (f_X6_kind x1 x2 x3 x4 I V) fun uq_1 => (gx_el uq_1.1 (fun ur_2 => (some (0, uq_1.2.1, uq_1.2.2, ur_2.toInt64))) (fun ui_3 => (if ui_3 = 0 then (some (1, uq_1.2.1, uq_1.2.2, o)) else none))))
set_option maxHeartbeats 4000000 in
set_option maxRecDepth 100000 in
theorem k_L_kind {l : Launch} {G : gx_G} {M : gx_S} {o : Int64} {d : UInt64} {I V : gx_F} {x1 : Int32} {x2 : Int32} {x3 : Int32} {x4 : Int32} {out : (Int32 × gx_F × gx_F × Int64)} (hl9 : l.stackTraces = false) (hF : f_L_kind x1 x2 x3 x4 I V o = some out) : gx_KW l yL_kind cL_kind 7 (some .int) [(0, 14, 17, 13)] { frames := 7, cells := 1, slots := 6, locals := 168 } [.ref (G.2.1 44), .int x1, .int x2, .int x3, .int x4, .ref (G.2.1 68)] G (I, V) M o d (gx_Qi G out.1 (out.2.1, out.2.2.1) M out.2.2.2 d) := by
  refine gx_beginW (by decide +kernel) (Nat.le_of_ble_eq_true rfl) ?_
  intro p e s m below meth c hx hb hr hml hown hlocks htab hV hZ hw ls hl
  have hown : s.vm.findClass RL = some m.cls := hown
  have hl : lv_has ls 7 [(0, .ref (G.2.1 44)), (1, .int x1), (2, .int x2), (3, .int x3), (4, .int x4), (5, .ref (G.2.1 68))] := hl
  unfold f_L_kind at hF
  refine lv_aload (pc := 0) hx hb dL_kind_0 (lv_at hl 5 rfl) ?_
  refine lv_iconst (pc := 2) (v := 0) hx hb dL_kind_2 (by decide) ?_
  refine lv_aload_n (pc := 3) hx hb dL_kind_3 rfl (lv_at hl 0 rfl) ?_
  refine lv_iload_n (pc := 4) hx hb dL_kind_4 rfl (lv_at hl 1 rfl) ?_
  refine lv_iload_n (pc := 5) hx hb dL_kind_5 rfl (lv_at hl 2 rfl) ?_
  refine lv_iload_n (pc := 6) hx hb dL_kind_6 rfl (lv_at hl 3 rfl) ?_
  refine lv_iload (pc := 7) hx hb dL_kind_7 (lv_at hl 4 rfl) ?_
  obtain ⟨uq_1, huq_1, hF⟩ := Option.bind_eq_some_iff.mp hF
  refine cx_X6_kind (pc := 9) hl9 hx hb hml hown hV hZ hw huq_1 (gw_401 hV) hl.1 (Nat.le_of_ble_eq_true rfl) (Nat.le_of_ble_eq_true rfl) (Nat.le_of_ble_eq_true rfl) (by decide) (by decide) dL_kind_9 (fun ui_3 ce uq8 H locs he hw h7 h8 h9 => ?_) (fun ur_2 H locs he hw => ?_)
  · rw [he] at hF
    have hF : (if ui_3 = 0 then (some (1, uq_1.2.1, uq_1.2.2, o)) else none) = some out := hF
    by_cases hi0 : ui_3 = 0
    · subst hi0
      rw [if_pos rfl] at hF
      refine vx_catch (own := RL) (name := "java/lang/UnsupportedOperationException") (E := gx_en 0) (ce := ce) hown [] ⟨0, 14, 17, 13⟩ [] (htab.trans rfl) (fun _ h => nomatch h) (by decide) (by decide) (gw_400 hV) (gw_430 hV) h7 h8 h9 ?_
      refine lv_astore (pc := 17) (lv' := [(6, .ref uq8), (0, .ref (G.2.1 44)), (1, .int x1), (2, .int x2), (3, .int x3), (4, .int x4), (5, .ref (G.2.1 68))]) hx hb dL_kind_17 hl (by decide) rfl (fun ls hl => ?_)
      refine lv_iconst (pc := 19) (v := 1) hx hb dL_kind_19 (by decide) ?_
      cases hF
      exact gx_iret hx hb hr hlocks hw dL_kind_20
    rw [if_neg hi0] at hF
    cases hF
  rw [he] at hF
  have hF : (some (0, uq_1.2.1, uq_1.2.2, ur_2.toInt64)) = some out := hF
  refine lv_i2l (pc := 12) (v := ur_2.toInt64) hx hb dL_kind_12 rfl ?_
  refine gx_last (pc := 13) hx hb hV hw dL_kind_13 (fun H locs hw => ?_)
  refine lv_goto (pc := 14) (tgt := 21) hx hb dL_kind_14 (by decide) ?_
  refine lv_iconst (pc := 21) (v := 0) hx hb dL_kind_21 (by decide) ?_
  cases hF
  exact gx_iret hx hb hr hlocks hw dL_kind_22
set_option maxRecDepth 100000 in
theorem cl_L_kind {l : Launch} {G : gx_G} {M : gx_S} {o : Int64} {d : UInt64} {I V : gx_F} {p : Program} {e : Env} {R : Room} {s : State} {m : MethodId} {args : Array Value} {below : List Frame} {meth : Method} {c : Code} {H : Heap} {locs : List Loc} {cells slots : Nat} {Q : State → Prop} {cc : ByteArray} {pc nL index : Nat} {ls : Array Slot} {rest : List Value} {own : String} {x1 : Int32} {x2 : Int32} {x3 : Int32} {x4 : Int32} {out : (Int32 × gx_F × gx_F × Int64)} (hl9 : l.stackTraces = false) (hx : p.tables.exec = Jvm.exec) (hb : c.code = cc) (hml : c.maxLocals = nL) (hown : s.vm.findClass own = some m.cls) (hV : gx_V G s) (hZ : gx_Z G s s.heap) (hw : gx_at G (I, V) M o d s.heap H locs) (hF : f_L_kind x1 x2 x3 x4 I V o = some out) (hlink : (Cond.methodLink own index yL_kind).before args s = true) (hsz : ls.size = nL) (hfr : 8 ≤ R.frames) (hlo : 194 ≤ R.locals) (hrest : (rest.map fun v => v.category).sum ≤ 8) (hc : cells + 1 ≤ R.cells) (hs : slots + 6 ≤ R.slots) (hdg : decode cc pc = .ok (.invokestatic index, 3))
    (kk : ∀ (H1 : Heap) (locs1 : List Loc), gx_at G (out.2.1, out.2.2.1) M out.2.2.2 d s.heap H1 locs1 → W p l e R s m args below meth c H1 locs1 (cells + 1) (slots + 6) Q (F0 m (pc + 3) ls (.int out.1 :: rest))) : W p l e R s m args below meth c H locs cells slots Q (F0 m pc ls (.ref (G.2.1 68) :: .int x4 :: .int x3 :: .int x2 :: .int x1 :: .ref (G.2.1 44) :: rest)) :=
  gx_runi hw (vx_runSW (As := [.ref (G.2.1 44), .int x1, .int x2, .int x3, .int x4, .ref (G.2.1 68)]) (rest := rest) ⟨hx, hb, hml, hown, (fun _ h => nomatch h : ∀ w ∈ ([] : List Cond), w.before args s = true)⟩ (k_L_kind hl9 hF) (gx_callW (n := 6) rfl rfl hlink (gw_48 hV) (gw_399 hV) (gw_398 hV) (by decide +kernel) ⟨hfr, hlo⟩) ⟨gx_blindX, fun U hU hW => ⟨rfl, gx_goX hV hZ hw U hU hW⟩⟩ rfl rfl hsz rfl (lv_room hrest) hdg ⟨hc, hs⟩) kk
noncomputable def f_L_lay (x1 : Int32) (x2 : Int32) (x3 : Int32) (I V : gx_F) (o : Int64) : Option (Int32 × gx_F × gx_F × Int64) := (Option.bind (f_X6_lay x1 x2 x3 I V) fun uq_1 => (gx_el uq_1.1 (fun ur_2 => (some (0, uq_1.2.1, uq_1.2.2, ur_2.toInt64))) (fun ui_3 => (if ui_3 = 0 then (some (1, uq_1.2.1, uq_1.2.2, o)) else none))))
set_option maxHeartbeats 4000000 in
set_option maxRecDepth 100000 in
theorem k_L_lay {l : Launch} {G : gx_G} {M : gx_S} {o : Int64} {d : UInt64} {I V : gx_F} {x1 : Int32} {x2 : Int32} {x3 : Int32} {out : (Int32 × gx_F × gx_F × Int64)} (hl9 : l.stackTraces = false) (hF : f_L_lay x1 x2 x3 I V o = some out) : gx_KW l yL_lay cL_lay 6 (some .int) [(0, 12, 15, 13)] { frames := 7, cells := 1, slots := 6, locals := 167 } [.ref (G.2.1 44), .int x1, .int x2, .int x3, .ref (G.2.1 68)] G (I, V) M o d (gx_Qi G out.1 (out.2.1, out.2.2.1) M out.2.2.2 d) := by
  refine gx_beginW (by decide +kernel) (Nat.le_of_ble_eq_true rfl) ?_
  intro p e s m below meth c hx hb hr hml hown hlocks htab hV hZ hw ls hl
  have hown : s.vm.findClass RL = some m.cls := hown
  have hl : lv_has ls 6 [(0, .ref (G.2.1 44)), (1, .int x1), (2, .int x2), (3, .int x3), (4, .ref (G.2.1 68))] := hl
  unfold f_L_lay at hF
  refine lv_aload (pc := 0) hx hb dL_lay_0 (lv_at hl 4 rfl) ?_
  refine lv_iconst (pc := 2) (v := 0) hx hb dL_lay_2 (by decide) ?_
  refine lv_aload_n (pc := 3) hx hb dL_lay_3 rfl (lv_at hl 0 rfl) ?_
  refine lv_iload_n (pc := 4) hx hb dL_lay_4 rfl (lv_at hl 1 rfl) ?_
  refine lv_iload_n (pc := 5) hx hb dL_lay_5 rfl (lv_at hl 2 rfl) ?_
  refine lv_iload_n (pc := 6) hx hb dL_lay_6 rfl (lv_at hl 3 rfl) ?_
  obtain ⟨uq_1, huq_1, hF⟩ := Option.bind_eq_some_iff.mp hF
  refine cx_X6_lay (pc := 7) hl9 hx hb hml hown hV hZ hw huq_1 (gw_503 hV) hl.1 (Nat.le_of_ble_eq_true rfl) (Nat.le_of_ble_eq_true rfl) (Nat.le_of_ble_eq_true rfl) (by decide) (by decide) dL_lay_7 (fun ui_3 ce uq8 H locs he hw h7 h8 h9 => ?_) (fun ur_2 H locs he hw => ?_)
  · rw [he] at hF
    have hF : (if ui_3 = 0 then (some (1, uq_1.2.1, uq_1.2.2, o)) else none) = some out := hF
    by_cases hi0 : ui_3 = 0
    · subst hi0
      rw [if_pos rfl] at hF
      refine vx_catch (own := RL) (name := "java/lang/UnsupportedOperationException") (E := gx_en 0) (ce := ce) hown [] ⟨0, 12, 15, 13⟩ [] (htab.trans rfl) (fun _ h => nomatch h) (by decide) (by decide) (gw_400 hV) (gw_430 hV) h7 h8 h9 ?_
      refine lv_astore (pc := 15) (lv' := [(5, .ref uq8), (0, .ref (G.2.1 44)), (1, .int x1), (2, .int x2), (3, .int x3), (4, .ref (G.2.1 68))]) hx hb dL_lay_15 hl (by decide) rfl (fun ls hl => ?_)
      refine lv_iconst (pc := 17) (v := 1) hx hb dL_lay_17 (by decide) ?_
      cases hF
      exact gx_iret hx hb hr hlocks hw dL_lay_18
    rw [if_neg hi0] at hF
    cases hF
  rw [he] at hF
  have hF : (some (0, uq_1.2.1, uq_1.2.2, ur_2.toInt64)) = some out := hF
  refine lv_i2l (pc := 10) (v := ur_2.toInt64) hx hb dL_lay_10 rfl ?_
  refine gx_last (pc := 11) hx hb hV hw dL_lay_11 (fun H locs hw => ?_)
  refine lv_goto (pc := 12) (tgt := 19) hx hb dL_lay_12 (by decide) ?_
  refine lv_iconst (pc := 19) (v := 0) hx hb dL_lay_19 (by decide) ?_
  cases hF
  exact gx_iret hx hb hr hlocks hw dL_lay_20
set_option maxRecDepth 100000 in
theorem cl_L_lay {l : Launch} {G : gx_G} {M : gx_S} {o : Int64} {d : UInt64} {I V : gx_F} {p : Program} {e : Env} {R : Room} {s : State} {m : MethodId} {args : Array Value} {below : List Frame} {meth : Method} {c : Code} {H : Heap} {locs : List Loc} {cells slots : Nat} {Q : State → Prop} {cc : ByteArray} {pc nL index : Nat} {ls : Array Slot} {rest : List Value} {own : String} {x1 : Int32} {x2 : Int32} {x3 : Int32} {out : (Int32 × gx_F × gx_F × Int64)} (hl9 : l.stackTraces = false) (hx : p.tables.exec = Jvm.exec) (hb : c.code = cc) (hml : c.maxLocals = nL) (hown : s.vm.findClass own = some m.cls) (hV : gx_V G s) (hZ : gx_Z G s s.heap) (hw : gx_at G (I, V) M o d s.heap H locs) (hF : f_L_lay x1 x2 x3 I V o = some out) (hlink : (Cond.methodLink own index yL_lay).before args s = true) (hsz : ls.size = nL) (hfr : 8 ≤ R.frames) (hlo : 192 ≤ R.locals) (hrest : (rest.map fun v => v.category).sum ≤ 8) (hc : cells + 1 ≤ R.cells) (hs : slots + 6 ≤ R.slots) (hdg : decode cc pc = .ok (.invokestatic index, 3))
    (kk : ∀ (H1 : Heap) (locs1 : List Loc), gx_at G (out.2.1, out.2.2.1) M out.2.2.2 d s.heap H1 locs1 → W p l e R s m args below meth c H1 locs1 (cells + 1) (slots + 6) Q (F0 m (pc + 3) ls (.int out.1 :: rest))) : W p l e R s m args below meth c H locs cells slots Q (F0 m pc ls (.ref (G.2.1 68) :: .int x3 :: .int x2 :: .int x1 :: .ref (G.2.1 44) :: rest)) :=
  gx_runi hw (vx_runSW (As := [.ref (G.2.1 44), .int x1, .int x2, .int x3, .ref (G.2.1 68)]) (rest := rest) ⟨hx, hb, hml, hown, (fun _ h => nomatch h : ∀ w ∈ ([] : List Cond), w.before args s = true)⟩ (k_L_lay hl9 hF) (gx_callW (n := 5) rfl rfl hlink (gw_48 hV) (gw_502 hV) (gw_501 hV) (by decide +kernel) ⟨hfr, hlo⟩) ⟨gx_blindX, fun U hU hW => ⟨rfl, gx_goX hV hZ hw U hU hW⟩⟩ rfl rfl hsz rfl (lv_room hrest) hdg ⟨hc, hs⟩) kk
noncomputable def f_L_takeOut (x1 : Int32) (I V : gx_F) (o : Int64) : Option (Int32 × gx_F × gx_F × Int64) := (Option.bind (f_X6_takeOut x1 I V) fun uq_1 => (gx_el uq_1.1 (fun ur_2 => (some (0, uq_1.2.1, uq_1.2.2, ur_2.toInt64))) (fun ui_3 => (if ui_3 = 0 then (some (1, uq_1.2.1, uq_1.2.2, o)) else none))))
set_option maxHeartbeats 4000000 in
set_option maxRecDepth 100000 in
theorem k_L_takeOut {l : Launch} {G : gx_G} {M : gx_S} {o : Int64} {d : UInt64} {I V : gx_F} {x1 : Int32} {out : (Int32 × gx_F × gx_F × Int64)} (hl9 : l.stackTraces = false) (hF : f_L_takeOut x1 I V o = some out) : gx_KW l yL_takeOut cL_takeOut 4 (some .int) [(0, 9, 12, 13)] { frames := 7, cells := 1, slots := 6, locals := 165 } [.ref (G.2.1 44), .int x1, .ref (G.2.1 68)] G (I, V) M o d (gx_Qi G out.1 (out.2.1, out.2.2.1) M out.2.2.2 d) := by
  refine gx_beginW (by decide +kernel) (Nat.le_of_ble_eq_true rfl) ?_
  intro p e s m below meth c hx hb hr hml hown hlocks htab hV hZ hw ls hl
  have hown : s.vm.findClass RL = some m.cls := hown
  have hl : lv_has ls 4 [(0, .ref (G.2.1 44)), (1, .int x1), (2, .ref (G.2.1 68))] := hl
  unfold f_L_takeOut at hF
  refine lv_aload_n (pc := 0) hx hb dL_takeOut_0 rfl (lv_at hl 2 rfl) ?_
  refine lv_iconst (pc := 1) (v := 0) hx hb dL_takeOut_1 (by decide) ?_
  refine lv_aload_n (pc := 2) hx hb dL_takeOut_2 rfl (lv_at hl 0 rfl) ?_
  refine lv_iload_n (pc := 3) hx hb dL_takeOut_3 rfl (lv_at hl 1 rfl) ?_
  obtain ⟨uq_1, huq_1, hF⟩ := Option.bind_eq_some_iff.mp hF
  refine cx_X6_takeOut (pc := 4) hl9 hx hb hml hown hV hZ hw huq_1 (gw_536 hV) hl.1 (Nat.le_of_ble_eq_true rfl) (Nat.le_of_ble_eq_true rfl) (Nat.le_of_ble_eq_true rfl) (by decide) (by decide) dL_takeOut_4 (fun ui_3 ce uq8 H locs he hw h7 h8 h9 => ?_) (fun ur_2 H locs he hw => ?_)
  · rw [he] at hF
    have hF : (if ui_3 = 0 then (some (1, uq_1.2.1, uq_1.2.2, o)) else none) = some out := hF
    by_cases hi0 : ui_3 = 0
    · subst hi0
      rw [if_pos rfl] at hF
      refine vx_catch (own := RL) (name := "java/lang/UnsupportedOperationException") (E := gx_en 0) (ce := ce) hown [] ⟨0, 9, 12, 13⟩ [] (htab.trans rfl) (fun _ h => nomatch h) (by decide) (by decide) (gw_400 hV) (gw_430 hV) h7 h8 h9 ?_
      refine lv_astore_n (pc := 12) (lv' := [(3, .ref uq8), (0, .ref (G.2.1 44)), (1, .int x1), (2, .ref (G.2.1 68))]) hx hb dL_takeOut_12 rfl hl (by decide) rfl (fun ls hl => ?_)
      refine lv_iconst (pc := 13) (v := 1) hx hb dL_takeOut_13 (by decide) ?_
      cases hF
      exact gx_iret hx hb hr hlocks hw dL_takeOut_14
    rw [if_neg hi0] at hF
    cases hF
  rw [he] at hF
  have hF : (some (0, uq_1.2.1, uq_1.2.2, ur_2.toInt64)) = some out := hF
  refine lv_i2l (pc := 7) (v := ur_2.toInt64) hx hb dL_takeOut_7 rfl ?_
  refine gx_last (pc := 8) hx hb hV hw dL_takeOut_8 (fun H locs hw => ?_)
  refine lv_goto (pc := 9) (tgt := 15) hx hb dL_takeOut_9 (by decide) ?_
  refine lv_iconst (pc := 15) (v := 0) hx hb dL_takeOut_15 (by decide) ?_
  cases hF
  exact gx_iret hx hb hr hlocks hw dL_takeOut_16
set_option maxRecDepth 100000 in
theorem cl_L_takeOut {l : Launch} {G : gx_G} {M : gx_S} {o : Int64} {d : UInt64} {I V : gx_F} {p : Program} {e : Env} {R : Room} {s : State} {m : MethodId} {args : Array Value} {below : List Frame} {meth : Method} {c : Code} {H : Heap} {locs : List Loc} {cells slots : Nat} {Q : State → Prop} {cc : ByteArray} {pc nL index : Nat} {ls : Array Slot} {rest : List Value} {own : String} {x1 : Int32} {out : (Int32 × gx_F × gx_F × Int64)} (hl9 : l.stackTraces = false) (hx : p.tables.exec = Jvm.exec) (hb : c.code = cc) (hml : c.maxLocals = nL) (hown : s.vm.findClass own = some m.cls) (hV : gx_V G s) (hZ : gx_Z G s s.heap) (hw : gx_at G (I, V) M o d s.heap H locs) (hF : f_L_takeOut x1 I V o = some out) (hlink : (Cond.methodLink own index yL_takeOut).before args s = true) (hsz : ls.size = nL) (hfr : 8 ≤ R.frames) (hlo : 188 ≤ R.locals) (hrest : (rest.map fun v => v.category).sum ≤ 8) (hc : cells + 1 ≤ R.cells) (hs : slots + 6 ≤ R.slots) (hdg : decode cc pc = .ok (.invokestatic index, 3))
    (kk : ∀ (H1 : Heap) (locs1 : List Loc), gx_at G (out.2.1, out.2.2.1) M out.2.2.2 d s.heap H1 locs1 → W p l e R s m args below meth c H1 locs1 (cells + 1) (slots + 6) Q (F0 m (pc + 3) ls (.int out.1 :: rest))) : W p l e R s m args below meth c H locs cells slots Q (F0 m pc ls (.ref (G.2.1 68) :: .int x1 :: .ref (G.2.1 44) :: rest)) :=
  gx_runi hw (vx_runSW (As := [.ref (G.2.1 44), .int x1, .ref (G.2.1 68)]) (rest := rest) ⟨hx, hb, hml, hown, (fun _ h => nomatch h : ∀ w ∈ ([] : List Cond), w.before args s = true)⟩ (k_L_takeOut hl9 hF) (gx_callW (n := 3) rfl rfl hlink (gw_48 hV) (gw_535 hV) (gw_534 hV) (by decide +kernel) ⟨hfr, hlo⟩) ⟨gx_blindX, fun U hU hW => ⟨rfl, gx_goX hV hZ hw U hU hW⟩⟩ rfl rfl hsz rfl (lv_room hrest) hdg ⟨hc, hs⟩) kk
noncomputable def f_L_grow (x1 : Int32) (I V : gx_F) (o : Int64) : Option (Int32 × gx_F × gx_F × Int64) := (Option.bind (f_X6_grow x1 I V) fun uq_1 => (gx_el uq_1.1 (fun ur_2 => (some (0, uq_1.2.1, uq_1.2.2, ur_2.toInt64))) (fun ui_3 => (if ui_3 = 0 then (some (1, uq_1.2.1, uq_1.2.2, o)) else none))))
set_option maxHeartbeats 4000000 in
set_option maxRecDepth 100000 in
theorem k_L_grow {l : Launch} {G : gx_G} {M : gx_S} {o : Int64} {d : UInt64} {I V : gx_F} {x1 : Int32} {out : (Int32 × gx_F × gx_F × Int64)} (hl9 : l.stackTraces = false) (hF : f_L_grow x1 I V o = some out) : gx_KW l yL_grow cL_grow 4 (some .int) [(0, 9, 12, 13)] { frames := 7, cells := 1, slots := 6, locals := 168 } [.ref (G.2.1 44), .int x1, .ref (G.2.1 68)] G (I, V) M o d (gx_Qi G out.1 (out.2.1, out.2.2.1) M out.2.2.2 d) := by
  refine gx_beginW (by decide +kernel) (Nat.le_of_ble_eq_true rfl) ?_
  intro p e s m below meth c hx hb hr hml hown hlocks htab hV hZ hw ls hl
  have hown : s.vm.findClass RL = some m.cls := hown
  have hl : lv_has ls 4 [(0, .ref (G.2.1 44)), (1, .int x1), (2, .ref (G.2.1 68))] := hl
  unfold f_L_grow at hF
  refine lv_aload_n (pc := 0) hx hb dL_grow_0 rfl (lv_at hl 2 rfl) ?_
  refine lv_iconst (pc := 1) (v := 0) hx hb dL_grow_1 (by decide) ?_
  refine lv_aload_n (pc := 2) hx hb dL_grow_2 rfl (lv_at hl 0 rfl) ?_
  refine lv_iload_n (pc := 3) hx hb dL_grow_3 rfl (lv_at hl 1 rfl) ?_
  obtain ⟨uq_1, huq_1, hF⟩ := Option.bind_eq_some_iff.mp hF
  refine cx_X6_grow (pc := 4) hl9 hx hb hml hown hV hZ hw huq_1 (gw_561 hV) hl.1 (Nat.le_of_ble_eq_true rfl) (Nat.le_of_ble_eq_true rfl) (Nat.le_of_ble_eq_true rfl) (by decide) (by decide) dL_grow_4 (fun ui_3 ce uq8 H locs he hw h7 h8 h9 => ?_) (fun ur_2 H locs he hw => ?_)
  · rw [he] at hF
    have hF : (if ui_3 = 0 then (some (1, uq_1.2.1, uq_1.2.2, o)) else none) = some out := hF
    by_cases hi0 : ui_3 = 0
    · subst hi0
      rw [if_pos rfl] at hF
      refine vx_catch (own := RL) (name := "java/lang/UnsupportedOperationException") (E := gx_en 0) (ce := ce) hown [] ⟨0, 9, 12, 13⟩ [] (htab.trans rfl) (fun _ h => nomatch h) (by decide) (by decide) (gw_400 hV) (gw_430 hV) h7 h8 h9 ?_
      refine lv_astore_n (pc := 12) (lv' := [(3, .ref uq8), (0, .ref (G.2.1 44)), (1, .int x1), (2, .ref (G.2.1 68))]) hx hb dL_grow_12 rfl hl (by decide) rfl (fun ls hl => ?_)
      refine lv_iconst (pc := 13) (v := 1) hx hb dL_grow_13 (by decide) ?_
      cases hF
      exact gx_iret hx hb hr hlocks hw dL_grow_14
    rw [if_neg hi0] at hF
    cases hF
  rw [he] at hF
  have hF : (some (0, uq_1.2.1, uq_1.2.2, ur_2.toInt64)) = some out := hF
  refine lv_i2l (pc := 7) (v := ur_2.toInt64) hx hb dL_grow_7 rfl ?_
  refine gx_last (pc := 8) hx hb hV hw dL_grow_8 (fun H locs hw => ?_)
  refine lv_goto (pc := 9) (tgt := 15) hx hb dL_grow_9 (by decide) ?_
  refine lv_iconst (pc := 15) (v := 0) hx hb dL_grow_15 (by decide) ?_
  cases hF
  exact gx_iret hx hb hr hlocks hw dL_grow_16
set_option maxRecDepth 100000 in
theorem cl_L_grow {l : Launch} {G : gx_G} {M : gx_S} {o : Int64} {d : UInt64} {I V : gx_F} {p : Program} {e : Env} {R : Room} {s : State} {m : MethodId} {args : Array Value} {below : List Frame} {meth : Method} {c : Code} {H : Heap} {locs : List Loc} {cells slots : Nat} {Q : State → Prop} {cc : ByteArray} {pc nL index : Nat} {ls : Array Slot} {rest : List Value} {own : String} {x1 : Int32} {out : (Int32 × gx_F × gx_F × Int64)} (hl9 : l.stackTraces = false) (hx : p.tables.exec = Jvm.exec) (hb : c.code = cc) (hml : c.maxLocals = nL) (hown : s.vm.findClass own = some m.cls) (hV : gx_V G s) (hZ : gx_Z G s s.heap) (hw : gx_at G (I, V) M o d s.heap H locs) (hF : f_L_grow x1 I V o = some out) (hlink : (Cond.methodLink own index yL_grow).before args s = true) (hsz : ls.size = nL) (hfr : 8 ≤ R.frames) (hlo : 191 ≤ R.locals) (hrest : (rest.map fun v => v.category).sum ≤ 8) (hc : cells + 1 ≤ R.cells) (hs : slots + 6 ≤ R.slots) (hdg : decode cc pc = .ok (.invokestatic index, 3))
    (kk : ∀ (H1 : Heap) (locs1 : List Loc), gx_at G (out.2.1, out.2.2.1) M out.2.2.2 d s.heap H1 locs1 → W p l e R s m args below meth c H1 locs1 (cells + 1) (slots + 6) Q (F0 m (pc + 3) ls (.int out.1 :: rest))) : W p l e R s m args below meth c H locs cells slots Q (F0 m pc ls (.ref (G.2.1 68) :: .int x1 :: .ref (G.2.1 44) :: rest)) :=
  gx_runi hw (vx_runSW (As := [.ref (G.2.1 44), .int x1, .ref (G.2.1 68)]) (rest := rest) ⟨hx, hb, hml, hown, (fun _ h => nomatch h : ∀ w ∈ ([] : List Cond), w.before args s = true)⟩ (k_L_grow hl9 hF) (gx_callW (n := 3) rfl rfl hlink (gw_48 hV) (gw_560 hV) (gw_559 hV) (by decide +kernel) ⟨hfr, hlo⟩) ⟨gx_blindX, fun U hU hW => ⟨rfl, gx_goX hV hZ hw U hU hW⟩⟩ rfl rfl hsz rfl (lv_room hrest) hdg ⟨hc, hs⟩) kk
noncomputable def f_L_strength (x1 : Int32) (x2 : Int32) (I V : gx_F) (o : Int64) : Option (Int32 × gx_F × gx_F × Int64) := (Option.bind (f_X6_strength x1 x2 I V) fun uq_1 => (gx_el uq_1.1 (fun ur_2 => (some (0, uq_1.2.1, uq_1.2.2, ur_2.toInt64))) (fun ui_3 => (if ui_3 = 0 then (some (1, uq_1.2.1, uq_1.2.2, o)) else none))))
set_option maxHeartbeats 4000000 in
set_option maxRecDepth 100000 in
theorem k_L_strength {l : Launch} {G : gx_G} {M : gx_S} {o : Int64} {d : UInt64} {I V : gx_F} {x1 : Int32} {x2 : Int32} {out : (Int32 × gx_F × gx_F × Int64)} (hl9 : l.stackTraces = false) (hF : f_L_strength x1 x2 I V o = some out) : gx_KW l yL_strength cL_strength 5 (some .int) [(0, 10, 13, 13)] { frames := 7, cells := 1, slots := 6, locals := 166 } [.ref (G.2.1 44), .int x1, .int x2, .ref (G.2.1 68)] G (I, V) M o d (gx_Qi G out.1 (out.2.1, out.2.2.1) M out.2.2.2 d) := by
  refine gx_beginW (by decide +kernel) (Nat.le_of_ble_eq_true rfl) ?_
  intro p e s m below meth c hx hb hr hml hown hlocks htab hV hZ hw ls hl
  have hown : s.vm.findClass RL = some m.cls := hown
  have hl : lv_has ls 5 [(0, .ref (G.2.1 44)), (1, .int x1), (2, .int x2), (3, .ref (G.2.1 68))] := hl
  unfold f_L_strength at hF
  refine lv_aload_n (pc := 0) hx hb dL_strength_0 rfl (lv_at hl 3 rfl) ?_
  refine lv_iconst (pc := 1) (v := 0) hx hb dL_strength_1 (by decide) ?_
  refine lv_aload_n (pc := 2) hx hb dL_strength_2 rfl (lv_at hl 0 rfl) ?_
  refine lv_iload_n (pc := 3) hx hb dL_strength_3 rfl (lv_at hl 1 rfl) ?_
  refine lv_iload_n (pc := 4) hx hb dL_strength_4 rfl (lv_at hl 2 rfl) ?_
  obtain ⟨uq_1, huq_1, hF⟩ := Option.bind_eq_some_iff.mp hF
  refine cx_X6_strength (pc := 5) hl9 hx hb hml hown hV hZ hw huq_1 (gw_575 hV) hl.1 (Nat.le_of_ble_eq_true rfl) (Nat.le_of_ble_eq_true rfl) (Nat.le_of_ble_eq_true rfl) (by decide) (by decide) dL_strength_5 (fun ui_3 ce uq8 H locs he hw h7 h8 h9 => ?_) (fun ur_2 H locs he hw => ?_)
  · rw [he] at hF
    have hF : (if ui_3 = 0 then (some (1, uq_1.2.1, uq_1.2.2, o)) else none) = some out := hF
    by_cases hi0 : ui_3 = 0
    · subst hi0
      rw [if_pos rfl] at hF
      refine vx_catch (own := RL) (name := "java/lang/UnsupportedOperationException") (E := gx_en 0) (ce := ce) hown [] ⟨0, 10, 13, 13⟩ [] (htab.trans rfl) (fun _ h => nomatch h) (by decide) (by decide) (gw_400 hV) (gw_430 hV) h7 h8 h9 ?_
      refine lv_astore (pc := 13) (lv' := [(4, .ref uq8), (0, .ref (G.2.1 44)), (1, .int x1), (2, .int x2), (3, .ref (G.2.1 68))]) hx hb dL_strength_13 hl (by decide) rfl (fun ls hl => ?_)
      refine lv_iconst (pc := 15) (v := 1) hx hb dL_strength_15 (by decide) ?_
      cases hF
      exact gx_iret hx hb hr hlocks hw dL_strength_16
    rw [if_neg hi0] at hF
    cases hF
  rw [he] at hF
  have hF : (some (0, uq_1.2.1, uq_1.2.2, ur_2.toInt64)) = some out := hF
  refine lv_i2l (pc := 8) (v := ur_2.toInt64) hx hb dL_strength_8 rfl ?_
  refine gx_last (pc := 9) hx hb hV hw dL_strength_9 (fun H locs hw => ?_)
  refine lv_goto (pc := 10) (tgt := 17) hx hb dL_strength_10 (by decide) ?_
  refine lv_iconst (pc := 17) (v := 0) hx hb dL_strength_17 (by decide) ?_
  cases hF
  exact gx_iret hx hb hr hlocks hw dL_strength_18
set_option maxRecDepth 100000 in
theorem cl_L_strength {l : Launch} {G : gx_G} {M : gx_S} {o : Int64} {d : UInt64} {I V : gx_F} {p : Program} {e : Env} {R : Room} {s : State} {m : MethodId} {args : Array Value} {below : List Frame} {meth : Method} {c : Code} {H : Heap} {locs : List Loc} {cells slots : Nat} {Q : State → Prop} {cc : ByteArray} {pc nL index : Nat} {ls : Array Slot} {rest : List Value} {own : String} {x1 : Int32} {x2 : Int32} {out : (Int32 × gx_F × gx_F × Int64)} (hl9 : l.stackTraces = false) (hx : p.tables.exec = Jvm.exec) (hb : c.code = cc) (hml : c.maxLocals = nL) (hown : s.vm.findClass own = some m.cls) (hV : gx_V G s) (hZ : gx_Z G s s.heap) (hw : gx_at G (I, V) M o d s.heap H locs) (hF : f_L_strength x1 x2 I V o = some out) (hlink : (Cond.methodLink own index yL_strength).before args s = true) (hsz : ls.size = nL) (hfr : 8 ≤ R.frames) (hlo : 190 ≤ R.locals) (hrest : (rest.map fun v => v.category).sum ≤ 8) (hc : cells + 1 ≤ R.cells) (hs : slots + 6 ≤ R.slots) (hdg : decode cc pc = .ok (.invokestatic index, 3))
    (kk : ∀ (H1 : Heap) (locs1 : List Loc), gx_at G (out.2.1, out.2.2.1) M out.2.2.2 d s.heap H1 locs1 → W p l e R s m args below meth c H1 locs1 (cells + 1) (slots + 6) Q (F0 m (pc + 3) ls (.int out.1 :: rest))) : W p l e R s m args below meth c H locs cells slots Q (F0 m pc ls (.ref (G.2.1 68) :: .int x2 :: .int x1 :: .ref (G.2.1 44) :: rest)) :=
  gx_runi hw (vx_runSW (As := [.ref (G.2.1 44), .int x1, .int x2, .ref (G.2.1 68)]) (rest := rest) ⟨hx, hb, hml, hown, (fun _ h => nomatch h : ∀ w ∈ ([] : List Cond), w.before args s = true)⟩ (k_L_strength hl9 hF) (gx_callW (n := 4) rfl rfl hlink (gw_48 hV) (gw_574 hV) (gw_573 hV) (by decide +kernel) ⟨hfr, hlo⟩) ⟨gx_blindX, fun U hU hW => ⟨rfl, gx_goX hV hZ hw U hU hW⟩⟩ rfl rfl hsz rfl (lv_room hrest) hdg ⟨hc, hs⟩) kk
noncomputable def f_L_need (x1 : Int32) (I V : gx_F) (o : Int64) : Option (Int32 × gx_F × gx_F × Int64) := (Option.bind (f_X6_need x1 I V) fun uq_1 => (gx_el uq_1.1 (fun ur_2 => (some (0, uq_1.2.1, uq_1.2.2, ur_2.toInt64))) (fun ui_3 => (if ui_3 = 0 then (some (1, uq_1.2.1, uq_1.2.2, o)) else none))))
set_option maxHeartbeats 4000000 in
set_option maxRecDepth 100000 in
theorem k_L_need {l : Launch} {G : gx_G} {M : gx_S} {o : Int64} {d : UInt64} {I V : gx_F} {x1 : Int32} {out : (Int32 × gx_F × gx_F × Int64)} (hl9 : l.stackTraces = false) (hF : f_L_need x1 I V o = some out) : gx_KW l yL_need cL_need 4 (some .int) [(0, 9, 12, 13)] { frames := 7, cells := 1, slots := 6, locals := 165 } [.ref (G.2.1 44), .int x1, .ref (G.2.1 68)] G (I, V) M o d (gx_Qi G out.1 (out.2.1, out.2.2.1) M out.2.2.2 d) := by
  refine gx_beginW (by decide +kernel) (Nat.le_of_ble_eq_true rfl) ?_
  intro p e s m below meth c hx hb hr hml hown hlocks htab hV hZ hw ls hl
  have hown : s.vm.findClass RL = some m.cls := hown
  have hl : lv_has ls 4 [(0, .ref (G.2.1 44)), (1, .int x1), (2, .ref (G.2.1 68))] := hl
  unfold f_L_need at hF
  refine lv_aload_n (pc := 0) hx hb dL_need_0 rfl (lv_at hl 2 rfl) ?_
  refine lv_iconst (pc := 1) (v := 0) hx hb dL_need_1 (by decide) ?_
  refine lv_aload_n (pc := 2) hx hb dL_need_2 rfl (lv_at hl 0 rfl) ?_
  refine lv_iload_n (pc := 3) hx hb dL_need_3 rfl (lv_at hl 1 rfl) ?_
  obtain ⟨uq_1, huq_1, hF⟩ := Option.bind_eq_some_iff.mp hF
  refine cx_X6_need (pc := 4) hl9 hx hb hml hown hV hZ hw huq_1 (gw_587 hV) hl.1 (Nat.le_of_ble_eq_true rfl) (Nat.le_of_ble_eq_true rfl) (Nat.le_of_ble_eq_true rfl) (by decide) (by decide) dL_need_4 (fun ui_3 ce uq8 H locs he hw h7 h8 h9 => ?_) (fun ur_2 H locs he hw => ?_)
  · rw [he] at hF
    have hF : (if ui_3 = 0 then (some (1, uq_1.2.1, uq_1.2.2, o)) else none) = some out := hF
    by_cases hi0 : ui_3 = 0
    · subst hi0
      rw [if_pos rfl] at hF
      refine vx_catch (own := RL) (name := "java/lang/UnsupportedOperationException") (E := gx_en 0) (ce := ce) hown [] ⟨0, 9, 12, 13⟩ [] (htab.trans rfl) (fun _ h => nomatch h) (by decide) (by decide) (gw_400 hV) (gw_430 hV) h7 h8 h9 ?_
      refine lv_astore_n (pc := 12) (lv' := [(3, .ref uq8), (0, .ref (G.2.1 44)), (1, .int x1), (2, .ref (G.2.1 68))]) hx hb dL_need_12 rfl hl (by decide) rfl (fun ls hl => ?_)
      refine lv_iconst (pc := 13) (v := 1) hx hb dL_need_13 (by decide) ?_
      cases hF
      exact gx_iret hx hb hr hlocks hw dL_need_14
    rw [if_neg hi0] at hF
    cases hF
  rw [he] at hF
  have hF : (some (0, uq_1.2.1, uq_1.2.2, ur_2.toInt64)) = some out := hF
  refine lv_i2l (pc := 7) (v := ur_2.toInt64) hx hb dL_need_7 rfl ?_
  refine gx_last (pc := 8) hx hb hV hw dL_need_8 (fun H locs hw => ?_)
  refine lv_goto (pc := 9) (tgt := 15) hx hb dL_need_9 (by decide) ?_
  refine lv_iconst (pc := 15) (v := 0) hx hb dL_need_15 (by decide) ?_
  cases hF
  exact gx_iret hx hb hr hlocks hw dL_need_16
set_option maxRecDepth 100000 in
theorem cl_L_need {l : Launch} {G : gx_G} {M : gx_S} {o : Int64} {d : UInt64} {I V : gx_F} {p : Program} {e : Env} {R : Room} {s : State} {m : MethodId} {args : Array Value} {below : List Frame} {meth : Method} {c : Code} {H : Heap} {locs : List Loc} {cells slots : Nat} {Q : State → Prop} {cc : ByteArray} {pc nL index : Nat} {ls : Array Slot} {rest : List Value} {own : String} {x1 : Int32} {out : (Int32 × gx_F × gx_F × Int64)} (hl9 : l.stackTraces = false) (hx : p.tables.exec = Jvm.exec) (hb : c.code = cc) (hml : c.maxLocals = nL) (hown : s.vm.findClass own = some m.cls) (hV : gx_V G s) (hZ : gx_Z G s s.heap) (hw : gx_at G (I, V) M o d s.heap H locs) (hF : f_L_need x1 I V o = some out) (hlink : (Cond.methodLink own index yL_need).before args s = true) (hsz : ls.size = nL) (hfr : 8 ≤ R.frames) (hlo : 188 ≤ R.locals) (hrest : (rest.map fun v => v.category).sum ≤ 8) (hc : cells + 1 ≤ R.cells) (hs : slots + 6 ≤ R.slots) (hdg : decode cc pc = .ok (.invokestatic index, 3))
    (kk : ∀ (H1 : Heap) (locs1 : List Loc), gx_at G (out.2.1, out.2.2.1) M out.2.2.2 d s.heap H1 locs1 → W p l e R s m args below meth c H1 locs1 (cells + 1) (slots + 6) Q (F0 m (pc + 3) ls (.int out.1 :: rest))) : W p l e R s m args below meth c H locs cells slots Q (F0 m pc ls (.ref (G.2.1 68) :: .int x1 :: .ref (G.2.1 44) :: rest)) :=
  gx_runi hw (vx_runSW (As := [.ref (G.2.1 44), .int x1, .ref (G.2.1 68)]) (rest := rest) ⟨hx, hb, hml, hown, (fun _ h => nomatch h : ∀ w ∈ ([] : List Cond), w.before args s = true)⟩ (k_L_need hl9 hF) (gx_callW (n := 3) rfl rfl hlink (gw_48 hV) (gw_586 hV) (gw_585 hV) (by decide +kernel) ⟨hfr, hlo⟩) ⟨gx_blindX, fun U hU hW => ⟨rfl, gx_goX hV hZ hw U hU hW⟩⟩ rfl rfl hsz rfl (lv_room hrest) hdg ⟨hc, hs⟩) kk
noncomputable def f_L_glueOf (x1 : Int32) (x2 : Int32) (x3 : Int32) (I V : gx_F) (o : Int64) : Option (Int32 × gx_F × gx_F × Int64) := (Option.bind (f_X6_glueOf x1 x2 x3 I V) fun uq_1 => (gx_el uq_1 (fun ur_2 => (some (0, I, V, ur_2.toInt64))) (fun ui_3 => (if ui_3 = 1 then (some (1, I, V, o)) else (if ui_3 = 2 then (some (2, I, V, o)) else none)))))
set_option maxHeartbeats 4000000 in
set_option maxRecDepth 100000 in
theorem k_L_glueOf {l : Launch} {G : gx_G} {M : gx_S} {o : Int64} {d : UInt64} {I V : gx_F} {x1 : Int32} {x2 : Int32} {x3 : Int32} {out : (Int32 × gx_F × gx_F × Int64)} (hl9 : l.stackTraces = false) (hF : f_L_glueOf x1 x2 x3 I V o = some out) : gx_KW l yL_glueOf cL_glueOf 6 (some .int) [(0, 12, 15, 36), (0, 12, 19, 38)] { frames := 7, cells := 1, slots := 6, locals := 105 } [.ref (G.2.1 44), .int x1, .int x2, .int x3, .ref (G.2.1 68)] G (I, V) M o d (gx_Qi G out.1 (out.2.1, out.2.2.1) M out.2.2.2 d) := by
  refine gx_beginW (by decide +kernel) (Nat.le_of_ble_eq_true rfl) ?_
  intro p e s m below meth c hx hb hr hml hown hlocks htab hV hZ hw ls hl
  have hown : s.vm.findClass RL = some m.cls := hown
  have hl : lv_has ls 6 [(0, .ref (G.2.1 44)), (1, .int x1), (2, .int x2), (3, .int x3), (4, .ref (G.2.1 68))] := hl
  unfold f_L_glueOf at hF
  refine lv_aload (pc := 0) hx hb dL_glueOf_0 (lv_at hl 4 rfl) ?_
  refine lv_iconst (pc := 2) (v := 0) hx hb dL_glueOf_2 (by decide) ?_
  refine lv_aload_n (pc := 3) hx hb dL_glueOf_3 rfl (lv_at hl 0 rfl) ?_
  refine lv_iload_n (pc := 4) hx hb dL_glueOf_4 rfl (lv_at hl 1 rfl) ?_
  refine lv_iload_n (pc := 5) hx hb dL_glueOf_5 rfl (lv_at hl 2 rfl) ?_
  refine lv_iload_n (pc := 6) hx hb dL_glueOf_6 rfl (lv_at hl 3 rfl) ?_
  obtain ⟨uq_1, huq_1, hF⟩ := Option.bind_eq_some_iff.mp hF
  refine cx_X6_glueOf (pc := 7) hl9 hx hb hml hown hV hZ hw huq_1 (gw_624 hV) hl.1 (Nat.le_of_ble_eq_true rfl) (Nat.le_of_ble_eq_true rfl) (Nat.le_of_ble_eq_true rfl) (by decide) (by decide) dL_glueOf_7 (fun ui_3 ce uq8 H locs he hw h7 h8 h9 => ?_) (fun ur_2 H locs he hw => ?_)
  · rw [he] at hF
    have hF : (if ui_3 = 1 then (some (1, I, V, o)) else (if ui_3 = 2 then (some (2, I, V, o)) else none)) = some out := hF
    by_cases hi1 : ui_3 = 1
    · subst hi1
      rw [if_pos rfl] at hF
      refine vx_catch (own := RL) (name := "java/lang/IndexOutOfBoundsException") (E := gx_en 1) (ce := ce) hown [] ⟨0, 12, 15, 36⟩ [⟨0, 12, 19, 38⟩] (htab.trans rfl) (fun _ h => nomatch h) (by decide) (by decide) (gw_599 hV) (gw_631 hV) h7 h8 h9 ?_
      refine lv_astore (pc := 15) (lv' := [(5, .ref uq8), (0, .ref (G.2.1 44)), (1, .int x1), (2, .int x2), (3, .int x3), (4, .ref (G.2.1 68))]) hx hb dL_glueOf_15 hl (by decide) rfl (fun ls hl => ?_)
      refine lv_iconst (pc := 17) (v := 1) hx hb dL_glueOf_17 (by decide) ?_
      cases hF
      exact gx_iret hx hb hr hlocks hw dL_glueOf_18
    rw [if_neg hi1] at hF
    by_cases hi2 : ui_3 = 2
    · subst hi2
      rw [if_pos rfl] at hF
      refine vx_catch (own := RL) (name := "java/lang/IllegalArgumentException") (E := gx_en 2) (ce := ce) hown [⟨0, 12, 15, 36⟩] ⟨0, 12, 19, 38⟩ [] (htab.trans rfl) (List.forall_mem_cons.mpr ⟨Or.inr ⟨by decide, "java/lang/IndexOutOfBoundsException", gw_599 hV, hZ.2.2.2 _ (List.mem_of_getElem? (i := 0) rfl)⟩, (fun _ h => nomatch h)⟩) (by decide) (by decide) (gw_623 hV) (gw_645 hV) h7 h8 h9 ?_
      refine lv_astore (pc := 19) (lv' := [(5, .ref uq8), (0, .ref (G.2.1 44)), (1, .int x1), (2, .int x2), (3, .int x3), (4, .ref (G.2.1 68))]) hx hb dL_glueOf_19 hl (by decide) rfl (fun ls hl => ?_)
      refine lv_iconst (pc := 21) (v := 2) hx hb dL_glueOf_21 (by decide) ?_
      cases hF
      exact gx_iret hx hb hr hlocks hw dL_glueOf_22
    rw [if_neg hi2] at hF
    cases hF
  rw [he] at hF
  have hF : (some (0, I, V, ur_2.toInt64)) = some out := hF
  refine lv_i2l (pc := 10) (v := ur_2.toInt64) hx hb dL_glueOf_10 rfl ?_
  refine gx_last (pc := 11) hx hb hV hw dL_glueOf_11 (fun H locs hw => ?_)
  refine lv_goto (pc := 12) (tgt := 23) hx hb dL_glueOf_12 (by decide) ?_
  refine lv_iconst (pc := 23) (v := 0) hx hb dL_glueOf_23 (by decide) ?_
  cases hF
  exact gx_iret hx hb hr hlocks hw dL_glueOf_24
set_option maxRecDepth 100000 in
theorem cl_L_glueOf {l : Launch} {G : gx_G} {M : gx_S} {o : Int64} {d : UInt64} {I V : gx_F} {p : Program} {e : Env} {R : Room} {s : State} {m : MethodId} {args : Array Value} {below : List Frame} {meth : Method} {c : Code} {H : Heap} {locs : List Loc} {cells slots : Nat} {Q : State → Prop} {cc : ByteArray} {pc nL index : Nat} {ls : Array Slot} {rest : List Value} {own : String} {x1 : Int32} {x2 : Int32} {x3 : Int32} {out : (Int32 × gx_F × gx_F × Int64)} (hl9 : l.stackTraces = false) (hx : p.tables.exec = Jvm.exec) (hb : c.code = cc) (hml : c.maxLocals = nL) (hown : s.vm.findClass own = some m.cls) (hV : gx_V G s) (hZ : gx_Z G s s.heap) (hw : gx_at G (I, V) M o d s.heap H locs) (hF : f_L_glueOf x1 x2 x3 I V o = some out) (hlink : (Cond.methodLink own index yL_glueOf).before args s = true) (hsz : ls.size = nL) (hfr : 8 ≤ R.frames) (hlo : 130 ≤ R.locals) (hrest : (rest.map fun v => v.category).sum ≤ 8) (hc : cells + 1 ≤ R.cells) (hs : slots + 6 ≤ R.slots) (hdg : decode cc pc = .ok (.invokestatic index, 3))
    (kk : ∀ (H1 : Heap) (locs1 : List Loc), gx_at G (out.2.1, out.2.2.1) M out.2.2.2 d s.heap H1 locs1 → W p l e R s m args below meth c H1 locs1 (cells + 1) (slots + 6) Q (F0 m (pc + 3) ls (.int out.1 :: rest))) : W p l e R s m args below meth c H locs cells slots Q (F0 m pc ls (.ref (G.2.1 68) :: .int x3 :: .int x2 :: .int x1 :: .ref (G.2.1 44) :: rest)) :=
  gx_runi hw (vx_runSW (As := [.ref (G.2.1 44), .int x1, .int x2, .int x3, .ref (G.2.1 68)]) (rest := rest) ⟨hx, hb, hml, hown, (fun _ h => nomatch h : ∀ w ∈ ([] : List Cond), w.before args s = true)⟩ (k_L_glueOf hl9 hF) (gx_callW (n := 5) rfl rfl hlink (gw_48 hV) (gw_598 hV) (gw_597 hV) (by decide +kernel) ⟨hfr, hlo⟩) ⟨gx_blindX, fun U hU hW => ⟨rfl, gx_goX hV hZ hw U hU hW⟩⟩ rfl rfl hsz rfl (lv_room hrest) hdg ⟨hc, hs⟩) kk
noncomputable def f_L_strengthOf (x1 : Int32) (I V : gx_F) (o : Int64) : Option (Int32 × gx_F × gx_F × Int64) := (Option.bind (f_X6_strengthOf x1 I V) fun uq_1 => (gx_el uq_1 (fun ur_2 => (some (0, I, V, ur_2.toInt64))) (fun ui_3 => (if ui_3 = 2 then (some (1, I, V, o)) else none))))
set_option maxHeartbeats 4000000 in
set_option maxRecDepth 100000 in
theorem k_L_strengthOf {l : Launch} {G : gx_G} {M : gx_S} {o : Int64} {d : UInt64} {I V : gx_F} {x1 : Int32} {out : (Int32 × gx_F × gx_F × Int64)} (hl9 : l.stackTraces = false) (hF : f_L_strengthOf x1 I V o = some out) : gx_KW l yL_strengthOf cL_strengthOf 4 (some .int) [(0, 9, 12, 38)] { frames := 7, cells := 1, slots := 6, locals := 103 } [.ref (G.2.1 44), .int x1, .ref (G.2.1 68)] G (I, V) M o d (gx_Qi G out.1 (out.2.1, out.2.2.1) M out.2.2.2 d) := by
  refine gx_beginW (by decide +kernel) (Nat.le_of_ble_eq_true rfl) ?_
  intro p e s m below meth c hx hb hr hml hown hlocks htab hV hZ hw ls hl
  have hown : s.vm.findClass RL = some m.cls := hown
  have hl : lv_has ls 4 [(0, .ref (G.2.1 44)), (1, .int x1), (2, .ref (G.2.1 68))] := hl
  unfold f_L_strengthOf at hF
  refine lv_aload_n (pc := 0) hx hb dL_strengthOf_0 rfl (lv_at hl 2 rfl) ?_
  refine lv_iconst (pc := 1) (v := 0) hx hb dL_strengthOf_1 (by decide) ?_
  refine lv_aload_n (pc := 2) hx hb dL_strengthOf_2 rfl (lv_at hl 0 rfl) ?_
  refine lv_iload_n (pc := 3) hx hb dL_strengthOf_3 rfl (lv_at hl 1 rfl) ?_
  obtain ⟨uq_1, huq_1, hF⟩ := Option.bind_eq_some_iff.mp hF
  refine cx_X6_strengthOf (pc := 4) hl9 hx hb hml hown hV hZ hw huq_1 (gw_664 hV) hl.1 (Nat.le_of_ble_eq_true rfl) (Nat.le_of_ble_eq_true rfl) (Nat.le_of_ble_eq_true rfl) (by decide) (by decide) dL_strengthOf_4 (fun ui_3 ce uq8 H locs he hw h7 h8 h9 => ?_) (fun ur_2 H locs he hw => ?_)
  · rw [he] at hF
    have hF : (if ui_3 = 2 then (some (1, I, V, o)) else none) = some out := hF
    by_cases hi2 : ui_3 = 2
    · subst hi2
      rw [if_pos rfl] at hF
      refine vx_catch (own := RL) (name := "java/lang/IllegalArgumentException") (E := gx_en 2) (ce := ce) hown [] ⟨0, 9, 12, 38⟩ [] (htab.trans rfl) (fun _ h => nomatch h) (by decide) (by decide) (gw_623 hV) (gw_645 hV) h7 h8 h9 ?_
      refine lv_astore_n (pc := 12) (lv' := [(3, .ref uq8), (0, .ref (G.2.1 44)), (1, .int x1), (2, .ref (G.2.1 68))]) hx hb dL_strengthOf_12 rfl hl (by decide) rfl (fun ls hl => ?_)
      refine lv_iconst (pc := 13) (v := 1) hx hb dL_strengthOf_13 (by decide) ?_
      cases hF
      exact gx_iret hx hb hr hlocks hw dL_strengthOf_14
    rw [if_neg hi2] at hF
    cases hF
  rw [he] at hF
  have hF : (some (0, I, V, ur_2.toInt64)) = some out := hF
  refine lv_i2l (pc := 7) (v := ur_2.toInt64) hx hb dL_strengthOf_7 rfl ?_
  refine gx_last (pc := 8) hx hb hV hw dL_strengthOf_8 (fun H locs hw => ?_)
  refine lv_goto (pc := 9) (tgt := 15) hx hb dL_strengthOf_9 (by decide) ?_
  refine lv_iconst (pc := 15) (v := 0) hx hb dL_strengthOf_15 (by decide) ?_
  cases hF
  exact gx_iret hx hb hr hlocks hw dL_strengthOf_16
set_option maxRecDepth 100000 in
theorem cl_L_strengthOf {l : Launch} {G : gx_G} {M : gx_S} {o : Int64} {d : UInt64} {I V : gx_F} {p : Program} {e : Env} {R : Room} {s : State} {m : MethodId} {args : Array Value} {below : List Frame} {meth : Method} {c : Code} {H : Heap} {locs : List Loc} {cells slots : Nat} {Q : State → Prop} {cc : ByteArray} {pc nL index : Nat} {ls : Array Slot} {rest : List Value} {own : String} {x1 : Int32} {out : (Int32 × gx_F × gx_F × Int64)} (hl9 : l.stackTraces = false) (hx : p.tables.exec = Jvm.exec) (hb : c.code = cc) (hml : c.maxLocals = nL) (hown : s.vm.findClass own = some m.cls) (hV : gx_V G s) (hZ : gx_Z G s s.heap) (hw : gx_at G (I, V) M o d s.heap H locs) (hF : f_L_strengthOf x1 I V o = some out) (hlink : (Cond.methodLink own index yL_strengthOf).before args s = true) (hsz : ls.size = nL) (hfr : 8 ≤ R.frames) (hlo : 126 ≤ R.locals) (hrest : (rest.map fun v => v.category).sum ≤ 8) (hc : cells + 1 ≤ R.cells) (hs : slots + 6 ≤ R.slots) (hdg : decode cc pc = .ok (.invokestatic index, 3))
    (kk : ∀ (H1 : Heap) (locs1 : List Loc), gx_at G (out.2.1, out.2.2.1) M out.2.2.2 d s.heap H1 locs1 → W p l e R s m args below meth c H1 locs1 (cells + 1) (slots + 6) Q (F0 m (pc + 3) ls (.int out.1 :: rest))) : W p l e R s m args below meth c H locs cells slots Q (F0 m pc ls (.ref (G.2.1 68) :: .int x1 :: .ref (G.2.1 44) :: rest)) :=
  gx_runi hw (vx_runSW (As := [.ref (G.2.1 44), .int x1, .ref (G.2.1 68)]) (rest := rest) ⟨hx, hb, hml, hown, (fun _ h => nomatch h : ∀ w ∈ ([] : List Cond), w.before args s = true)⟩ (k_L_strengthOf hl9 hF) (gx_callW (n := 3) rfl rfl hlink (gw_48 hV) (gw_663 hV) (gw_662 hV) (by decide +kernel) ⟨hfr, hlo⟩) ⟨gx_blindX, fun U hU hW => ⟨rfl, gx_goX hV hZ hw U hU hW⟩⟩ rfl rfl hsz rfl (lv_room hrest) hdg ⟨hc, hs⟩) kk
noncomputable def f_L_brickAt (x1 : Int32) (x2 : Int32) (I V : gx_F) (o : Int64) : Option (Int32 × gx_F × gx_F × Int64) := (Option.bind (f_X6_brickAt x1 x2 I V) fun uq_1 => (gx_el uq_1 (fun ur_2 => (some (0, I, V, ur_2.toInt64))) (fun ui_3 => (if ui_3 = 1 then (some (1, I, V, o)) else (if ui_3 = 3 then (some (2, I, V, o)) else none)))))
set_option maxHeartbeats 4000000 in
set_option maxRecDepth 100000 in
theorem k_L_brickAt {l : Launch} {G : gx_G} {M : gx_S} {o : Int64} {d : UInt64} {I V : gx_F} {x1 : Int32} {x2 : Int32} {out : (Int32 × gx_F × gx_F × Int64)} (hl9 : l.stackTraces = false) (hF : f_L_brickAt x1 x2 I V o = some out) : gx_KW l yL_brickAt cL_brickAt 5 (some .int) [(0, 10, 13, 36), (0, 10, 17, 47)] { frames := 7, cells := 1, slots := 6, locals := 105 } [.ref (G.2.1 44), .int x1, .int x2, .ref (G.2.1 68)] G (I, V) M o d (gx_Qi G out.1 (out.2.1, out.2.2.1) M out.2.2.2 d) := by
  refine gx_beginW (by decide +kernel) (Nat.le_of_ble_eq_true rfl) ?_
  intro p e s m below meth c hx hb hr hml hown hlocks htab hV hZ hw ls hl
  have hown : s.vm.findClass RL = some m.cls := hown
  have hl : lv_has ls 5 [(0, .ref (G.2.1 44)), (1, .int x1), (2, .int x2), (3, .ref (G.2.1 68))] := hl
  unfold f_L_brickAt at hF
  refine lv_aload_n (pc := 0) hx hb dL_brickAt_0 rfl (lv_at hl 3 rfl) ?_
  refine lv_iconst (pc := 1) (v := 0) hx hb dL_brickAt_1 (by decide) ?_
  refine lv_aload_n (pc := 2) hx hb dL_brickAt_2 rfl (lv_at hl 0 rfl) ?_
  refine lv_iload_n (pc := 3) hx hb dL_brickAt_3 rfl (lv_at hl 1 rfl) ?_
  refine lv_iload_n (pc := 4) hx hb dL_brickAt_4 rfl (lv_at hl 2 rfl) ?_
  obtain ⟨uq_1, huq_1, hF⟩ := Option.bind_eq_some_iff.mp hF
  refine cx_X6_brickAt (pc := 5) hl9 hx hb hml hown hV hZ hw huq_1 (gw_673 hV) hl.1 (Nat.le_of_ble_eq_true rfl) (Nat.le_of_ble_eq_true rfl) (Nat.le_of_ble_eq_true rfl) (by decide) (by decide) dL_brickAt_5 (fun ui_3 ce uq8 H locs he hw h7 h8 h9 => ?_) (fun ur_2 H locs he hw => ?_)
  · rw [he] at hF
    have hF : (if ui_3 = 1 then (some (1, I, V, o)) else (if ui_3 = 3 then (some (2, I, V, o)) else none)) = some out := hF
    by_cases hi1 : ui_3 = 1
    · subst hi1
      rw [if_pos rfl] at hF
      refine vx_catch (own := RL) (name := "java/lang/IndexOutOfBoundsException") (E := gx_en 1) (ce := ce) hown [] ⟨0, 10, 13, 36⟩ [⟨0, 10, 17, 47⟩] (htab.trans rfl) (fun _ h => nomatch h) (by decide) (by decide) (gw_599 hV) (gw_631 hV) h7 h8 h9 ?_
      refine lv_astore (pc := 13) (lv' := [(4, .ref uq8), (0, .ref (G.2.1 44)), (1, .int x1), (2, .int x2), (3, .ref (G.2.1 68))]) hx hb dL_brickAt_13 hl (by decide) rfl (fun ls hl => ?_)
      refine lv_iconst (pc := 15) (v := 1) hx hb dL_brickAt_15 (by decide) ?_
      cases hF
      exact gx_iret hx hb hr hlocks hw dL_brickAt_16
    rw [if_neg hi1] at hF
    by_cases hi3 : ui_3 = 3
    · subst hi3
      rw [if_pos rfl] at hF
      refine vx_catch (own := RL) (name := "java/util/NoSuchElementException") (E := gx_en 3) (ce := ce) hown [⟨0, 10, 13, 36⟩] ⟨0, 10, 17, 47⟩ [] (htab.trans rfl) (List.forall_mem_cons.mpr ⟨Or.inr ⟨by decide, "java/lang/IndexOutOfBoundsException", gw_599 hV, hZ.2.2.2 _ (List.mem_of_getElem? (i := 1) rfl)⟩, (fun _ h => nomatch h)⟩) (by decide) (by decide) (gw_672 hV) (gw_682 hV) h7 h8 h9 ?_
      refine lv_astore (pc := 17) (lv' := [(4, .ref uq8), (0, .ref (G.2.1 44)), (1, .int x1), (2, .int x2), (3, .ref (G.2.1 68))]) hx hb dL_brickAt_17 hl (by decide) rfl (fun ls hl => ?_)
      refine lv_iconst (pc := 19) (v := 2) hx hb dL_brickAt_19 (by decide) ?_
      cases hF
      exact gx_iret hx hb hr hlocks hw dL_brickAt_20
    rw [if_neg hi3] at hF
    cases hF
  rw [he] at hF
  have hF : (some (0, I, V, ur_2.toInt64)) = some out := hF
  refine lv_i2l (pc := 8) (v := ur_2.toInt64) hx hb dL_brickAt_8 rfl ?_
  refine gx_last (pc := 9) hx hb hV hw dL_brickAt_9 (fun H locs hw => ?_)
  refine lv_goto (pc := 10) (tgt := 21) hx hb dL_brickAt_10 (by decide) ?_
  refine lv_iconst (pc := 21) (v := 0) hx hb dL_brickAt_21 (by decide) ?_
  cases hF
  exact gx_iret hx hb hr hlocks hw dL_brickAt_22
set_option maxRecDepth 100000 in
theorem cl_L_brickAt {l : Launch} {G : gx_G} {M : gx_S} {o : Int64} {d : UInt64} {I V : gx_F} {p : Program} {e : Env} {R : Room} {s : State} {m : MethodId} {args : Array Value} {below : List Frame} {meth : Method} {c : Code} {H : Heap} {locs : List Loc} {cells slots : Nat} {Q : State → Prop} {cc : ByteArray} {pc nL index : Nat} {ls : Array Slot} {rest : List Value} {own : String} {x1 : Int32} {x2 : Int32} {out : (Int32 × gx_F × gx_F × Int64)} (hl9 : l.stackTraces = false) (hx : p.tables.exec = Jvm.exec) (hb : c.code = cc) (hml : c.maxLocals = nL) (hown : s.vm.findClass own = some m.cls) (hV : gx_V G s) (hZ : gx_Z G s s.heap) (hw : gx_at G (I, V) M o d s.heap H locs) (hF : f_L_brickAt x1 x2 I V o = some out) (hlink : (Cond.methodLink own index yL_brickAt).before args s = true) (hsz : ls.size = nL) (hfr : 8 ≤ R.frames) (hlo : 129 ≤ R.locals) (hrest : (rest.map fun v => v.category).sum ≤ 8) (hc : cells + 1 ≤ R.cells) (hs : slots + 6 ≤ R.slots) (hdg : decode cc pc = .ok (.invokestatic index, 3))
    (kk : ∀ (H1 : Heap) (locs1 : List Loc), gx_at G (out.2.1, out.2.2.1) M out.2.2.2 d s.heap H1 locs1 → W p l e R s m args below meth c H1 locs1 (cells + 1) (slots + 6) Q (F0 m (pc + 3) ls (.int out.1 :: rest))) : W p l e R s m args below meth c H locs cells slots Q (F0 m pc ls (.ref (G.2.1 68) :: .int x2 :: .int x1 :: .ref (G.2.1 44) :: rest)) :=
  gx_runi hw (vx_runSW (As := [.ref (G.2.1 44), .int x1, .int x2, .ref (G.2.1 68)]) (rest := rest) ⟨hx, hb, hml, hown, (fun _ h => nomatch h : ∀ w ∈ ([] : List Cond), w.before args s = true)⟩ (k_L_brickAt hl9 hF) (gx_callW (n := 4) rfl rfl hlink (gw_48 hV) (gw_671 hV) (gw_670 hV) (by decide +kernel) ⟨hfr, hlo⟩) ⟨gx_blindX, fun U hU hW => ⟨rfl, gx_goX hV hZ hw U hU hW⟩⟩ rfl rfl hsz rfl (lv_room hrest) hdg ⟨hc, hs⟩) kk
noncomputable def f_L_seed (I V : gx_F) (o : Int64) : Option (Int32 × gx_F × gx_F × Int64) := (Option.bind (f_X6_seed I V) fun uq_1 => (gx_el uq_1 (fun ur_2 => (some (0, I, V, ur_2.toInt64))) (fun ui_3 => (if ui_3 = 3 then (some (1, I, V, o)) else none))))
set_option maxHeartbeats 4000000 in
set_option maxRecDepth 100000 in
theorem k_L_seed {l : Launch} {G : gx_G} {M : gx_S} {o : Int64} {d : UInt64} {I V : gx_F} {out : (Int32 × gx_F × gx_F × Int64)} (hl9 : l.stackTraces = false) (hF : f_L_seed I V o = some out) : gx_KW l yL_seed cL_seed 3 (some .int) [(0, 8, 11, 47)] { frames := 7, cells := 1, slots := 6, locals := 102 } [.ref (G.2.1 44), .ref (G.2.1 68)] G (I, V) M o d (gx_Qi G out.1 (out.2.1, out.2.2.1) M out.2.2.2 d) := by
  refine gx_beginW (by decide +kernel) (Nat.le_of_ble_eq_true rfl) ?_
  intro p e s m below meth c hx hb hr hml hown hlocks htab hV hZ hw ls hl
  have hown : s.vm.findClass RL = some m.cls := hown
  have hl : lv_has ls 3 [(0, .ref (G.2.1 44)), (1, .ref (G.2.1 68))] := hl
  unfold f_L_seed at hF
  refine lv_aload_n (pc := 0) hx hb dL_seed_0 rfl (lv_at hl 1 rfl) ?_
  refine lv_iconst (pc := 1) (v := 0) hx hb dL_seed_1 (by decide) ?_
  refine lv_aload_n (pc := 2) hx hb dL_seed_2 rfl (lv_at hl 0 rfl) ?_
  obtain ⟨uq_1, huq_1, hF⟩ := Option.bind_eq_some_iff.mp hF
  refine cx_X6_seed (pc := 3) hl9 hx hb hml hown hV hZ hw huq_1 (gw_703 hV) hl.1 (Nat.le_of_ble_eq_true rfl) (Nat.le_of_ble_eq_true rfl) (Nat.le_of_ble_eq_true rfl) (by decide) (by decide) dL_seed_3 (fun ui_3 ce uq8 H locs he hw h7 h8 h9 => ?_) (fun ur_2 H locs he hw => ?_)
  · rw [he] at hF
    have hF : (if ui_3 = 3 then (some (1, I, V, o)) else none) = some out := hF
    by_cases hi3 : ui_3 = 3
    · subst hi3
      rw [if_pos rfl] at hF
      refine vx_catch (own := RL) (name := "java/util/NoSuchElementException") (E := gx_en 3) (ce := ce) hown [] ⟨0, 8, 11, 47⟩ [] (htab.trans rfl) (fun _ h => nomatch h) (by decide) (by decide) (gw_672 hV) (gw_682 hV) h7 h8 h9 ?_
      refine lv_astore_n (pc := 11) (lv' := [(2, .ref uq8), (0, .ref (G.2.1 44)), (1, .ref (G.2.1 68))]) hx hb dL_seed_11 rfl hl (by decide) rfl (fun ls hl => ?_)
      refine lv_iconst (pc := 12) (v := 1) hx hb dL_seed_12 (by decide) ?_
      cases hF
      exact gx_iret hx hb hr hlocks hw dL_seed_13
    rw [if_neg hi3] at hF
    cases hF
  rw [he] at hF
  have hF : (some (0, I, V, ur_2.toInt64)) = some out := hF
  refine lv_i2l (pc := 6) (v := ur_2.toInt64) hx hb dL_seed_6 rfl ?_
  refine gx_last (pc := 7) hx hb hV hw dL_seed_7 (fun H locs hw => ?_)
  refine lv_goto (pc := 8) (tgt := 14) hx hb dL_seed_8 (by decide) ?_
  refine lv_iconst (pc := 14) (v := 0) hx hb dL_seed_14 (by decide) ?_
  cases hF
  exact gx_iret hx hb hr hlocks hw dL_seed_15
set_option maxRecDepth 100000 in
theorem cl_L_seed {l : Launch} {G : gx_G} {M : gx_S} {o : Int64} {d : UInt64} {I V : gx_F} {p : Program} {e : Env} {R : Room} {s : State} {m : MethodId} {args : Array Value} {below : List Frame} {meth : Method} {c : Code} {H : Heap} {locs : List Loc} {cells slots : Nat} {Q : State → Prop} {cc : ByteArray} {pc nL index : Nat} {ls : Array Slot} {rest : List Value} {own : String} {out : (Int32 × gx_F × gx_F × Int64)} (hl9 : l.stackTraces = false) (hx : p.tables.exec = Jvm.exec) (hb : c.code = cc) (hml : c.maxLocals = nL) (hown : s.vm.findClass own = some m.cls) (hV : gx_V G s) (hZ : gx_Z G s s.heap) (hw : gx_at G (I, V) M o d s.heap H locs) (hF : f_L_seed I V o = some out) (hlink : (Cond.methodLink own index yL_seed).before args s = true) (hsz : ls.size = nL) (hfr : 8 ≤ R.frames) (hlo : 124 ≤ R.locals) (hrest : (rest.map fun v => v.category).sum ≤ 8) (hc : cells + 1 ≤ R.cells) (hs : slots + 6 ≤ R.slots) (hdg : decode cc pc = .ok (.invokestatic index, 3))
    (kk : ∀ (H1 : Heap) (locs1 : List Loc), gx_at G (out.2.1, out.2.2.1) M out.2.2.2 d s.heap H1 locs1 → W p l e R s m args below meth c H1 locs1 (cells + 1) (slots + 6) Q (F0 m (pc + 3) ls (.int out.1 :: rest))) : W p l e R s m args below meth c H locs cells slots Q (F0 m pc ls (.ref (G.2.1 68) :: .ref (G.2.1 44) :: rest)) :=
  gx_runi hw (vx_runSW (As := [.ref (G.2.1 44), .ref (G.2.1 68)]) (rest := rest) ⟨hx, hb, hml, hown, (fun _ h => nomatch h : ∀ w ∈ ([] : List Cond), w.before args s = true)⟩ (k_L_seed hl9 hF) (gx_callW (n := 2) rfl rfl hlink (gw_48 hV) (gw_702 hV) (gw_701 hV) (by decide +kernel) ⟨hfr, hlo⟩) ⟨gx_blindX, fun U hU hW => ⟨rfl, gx_goX hV hZ hw U hU hW⟩⟩ rfl rfl hsz rfl (lv_room hrest) hdg ⟨hc, hs⟩) kk
noncomputable def f_L_hold (x1 : Int32) (I V : gx_F) (o : Int64) : Option (Int32 × gx_F × gx_F × Int64) := (Option.bind (f_X6_hold x1 I V) fun uq_1 => (gx_el uq_1 (fun ur_2 => (some (0, I, V, ur_2.toInt64))) (fun ui_3 => (if ui_3 = 1 then (some (1, I, V, o)) else (if ui_3 = 3 then (some (2, I, V, o)) else none)))))
set_option maxHeartbeats 4000000 in
set_option maxRecDepth 100000 in
theorem k_L_hold {l : Launch} {G : gx_G} {M : gx_S} {o : Int64} {d : UInt64} {I V : gx_F} {x1 : Int32} {out : (Int32 × gx_F × gx_F × Int64)} (hl9 : l.stackTraces = false) (hF : f_L_hold x1 I V o = some out) : gx_KW l yL_hold cL_hold 4 (some .int) [(0, 9, 12, 36), (0, 9, 15, 47)] { frames := 7, cells := 1, slots := 6, locals := 104 } [.ref (G.2.1 44), .int x1, .ref (G.2.1 68)] G (I, V) M o d (gx_Qi G out.1 (out.2.1, out.2.2.1) M out.2.2.2 d) := by
  refine gx_beginW (by decide +kernel) (Nat.le_of_ble_eq_true rfl) ?_
  intro p e s m below meth c hx hb hr hml hown hlocks htab hV hZ hw ls hl
  have hown : s.vm.findClass RL = some m.cls := hown
  have hl : lv_has ls 4 [(0, .ref (G.2.1 44)), (1, .int x1), (2, .ref (G.2.1 68))] := hl
  unfold f_L_hold at hF
  refine lv_aload_n (pc := 0) hx hb dL_hold_0 rfl (lv_at hl 2 rfl) ?_
  refine lv_iconst (pc := 1) (v := 0) hx hb dL_hold_1 (by decide) ?_
  refine lv_aload_n (pc := 2) hx hb dL_hold_2 rfl (lv_at hl 0 rfl) ?_
  refine lv_iload_n (pc := 3) hx hb dL_hold_3 rfl (lv_at hl 1 rfl) ?_
  obtain ⟨uq_1, huq_1, hF⟩ := Option.bind_eq_some_iff.mp hF
  refine cx_X6_hold (pc := 4) hl9 hx hb hml hown hV hZ hw huq_1 (gw_711 hV) hl.1 (Nat.le_of_ble_eq_true rfl) (Nat.le_of_ble_eq_true rfl) (Nat.le_of_ble_eq_true rfl) (by decide) (by decide) dL_hold_4 (fun ui_3 ce uq8 H locs he hw h7 h8 h9 => ?_) (fun ur_2 H locs he hw => ?_)
  · rw [he] at hF
    have hF : (if ui_3 = 1 then (some (1, I, V, o)) else (if ui_3 = 3 then (some (2, I, V, o)) else none)) = some out := hF
    by_cases hi1 : ui_3 = 1
    · subst hi1
      rw [if_pos rfl] at hF
      refine vx_catch (own := RL) (name := "java/lang/IndexOutOfBoundsException") (E := gx_en 1) (ce := ce) hown [] ⟨0, 9, 12, 36⟩ [⟨0, 9, 15, 47⟩] (htab.trans rfl) (fun _ h => nomatch h) (by decide) (by decide) (gw_599 hV) (gw_631 hV) h7 h8 h9 ?_
      refine lv_astore_n (pc := 12) (lv' := [(3, .ref uq8), (0, .ref (G.2.1 44)), (1, .int x1), (2, .ref (G.2.1 68))]) hx hb dL_hold_12 rfl hl (by decide) rfl (fun ls hl => ?_)
      refine lv_iconst (pc := 13) (v := 1) hx hb dL_hold_13 (by decide) ?_
      cases hF
      exact gx_iret hx hb hr hlocks hw dL_hold_14
    rw [if_neg hi1] at hF
    by_cases hi3 : ui_3 = 3
    · subst hi3
      rw [if_pos rfl] at hF
      refine vx_catch (own := RL) (name := "java/util/NoSuchElementException") (E := gx_en 3) (ce := ce) hown [⟨0, 9, 12, 36⟩] ⟨0, 9, 15, 47⟩ [] (htab.trans rfl) (List.forall_mem_cons.mpr ⟨Or.inr ⟨by decide, "java/lang/IndexOutOfBoundsException", gw_599 hV, hZ.2.2.2 _ (List.mem_of_getElem? (i := 1) rfl)⟩, (fun _ h => nomatch h)⟩) (by decide) (by decide) (gw_672 hV) (gw_682 hV) h7 h8 h9 ?_
      refine lv_astore_n (pc := 15) (lv' := [(3, .ref uq8), (0, .ref (G.2.1 44)), (1, .int x1), (2, .ref (G.2.1 68))]) hx hb dL_hold_15 rfl hl (by decide) rfl (fun ls hl => ?_)
      refine lv_iconst (pc := 16) (v := 2) hx hb dL_hold_16 (by decide) ?_
      cases hF
      exact gx_iret hx hb hr hlocks hw dL_hold_17
    rw [if_neg hi3] at hF
    cases hF
  rw [he] at hF
  have hF : (some (0, I, V, ur_2.toInt64)) = some out := hF
  refine lv_i2l (pc := 7) (v := ur_2.toInt64) hx hb dL_hold_7 rfl ?_
  refine gx_last (pc := 8) hx hb hV hw dL_hold_8 (fun H locs hw => ?_)
  refine lv_goto (pc := 9) (tgt := 18) hx hb dL_hold_9 (by decide) ?_
  refine lv_iconst (pc := 18) (v := 0) hx hb dL_hold_18 (by decide) ?_
  cases hF
  exact gx_iret hx hb hr hlocks hw dL_hold_19
set_option maxRecDepth 100000 in
theorem cl_L_hold {l : Launch} {G : gx_G} {M : gx_S} {o : Int64} {d : UInt64} {I V : gx_F} {p : Program} {e : Env} {R : Room} {s : State} {m : MethodId} {args : Array Value} {below : List Frame} {meth : Method} {c : Code} {H : Heap} {locs : List Loc} {cells slots : Nat} {Q : State → Prop} {cc : ByteArray} {pc nL index : Nat} {ls : Array Slot} {rest : List Value} {own : String} {x1 : Int32} {out : (Int32 × gx_F × gx_F × Int64)} (hl9 : l.stackTraces = false) (hx : p.tables.exec = Jvm.exec) (hb : c.code = cc) (hml : c.maxLocals = nL) (hown : s.vm.findClass own = some m.cls) (hV : gx_V G s) (hZ : gx_Z G s s.heap) (hw : gx_at G (I, V) M o d s.heap H locs) (hF : f_L_hold x1 I V o = some out) (hlink : (Cond.methodLink own index yL_hold).before args s = true) (hsz : ls.size = nL) (hfr : 8 ≤ R.frames) (hlo : 127 ≤ R.locals) (hrest : (rest.map fun v => v.category).sum ≤ 8) (hc : cells + 1 ≤ R.cells) (hs : slots + 6 ≤ R.slots) (hdg : decode cc pc = .ok (.invokestatic index, 3))
    (kk : ∀ (H1 : Heap) (locs1 : List Loc), gx_at G (out.2.1, out.2.2.1) M out.2.2.2 d s.heap H1 locs1 → W p l e R s m args below meth c H1 locs1 (cells + 1) (slots + 6) Q (F0 m (pc + 3) ls (.int out.1 :: rest))) : W p l e R s m args below meth c H locs cells slots Q (F0 m pc ls (.ref (G.2.1 68) :: .int x1 :: .ref (G.2.1 44) :: rest)) :=
  gx_runi hw (vx_runSW (As := [.ref (G.2.1 44), .int x1, .ref (G.2.1 68)]) (rest := rest) ⟨hx, hb, hml, hown, (fun _ h => nomatch h : ∀ w ∈ ([] : List Cond), w.before args s = true)⟩ (k_L_hold hl9 hF) (gx_callW (n := 3) rfl rfl hlink (gw_48 hV) (gw_710 hV) (gw_709 hV) (by decide +kernel) ⟨hfr, hlo⟩) ⟨gx_blindX, fun U hU hW => ⟨rfl, gx_goX hV hZ hw U hU hW⟩⟩ rfl rfl hsz rfl (lv_room hrest) hdg ⟨hc, hs⟩) kk
noncomputable def f_L_holdAgain (x1 : Int32) (I V : gx_F) (o : Int64) : Option (Int32 × gx_F × gx_F × Int64) := (Option.bind (f_X6_holdAgain x1 I V) fun uq_1 => (gx_el uq_1 (fun ur_2 => (some (0, I, V, ur_2.toInt64))) (fun ui_3 => (if ui_3 = 1 then (some (1, I, V, o)) else (if ui_3 = 3 then (some (2, I, V, o)) else none)))))
set_option maxHeartbeats 4000000 in
set_option maxRecDepth 100000 in
theorem k_L_holdAgain {l : Launch} {G : gx_G} {M : gx_S} {o : Int64} {d : UInt64} {I V : gx_F} {x1 : Int32} {out : (Int32 × gx_F × gx_F × Int64)} (hl9 : l.stackTraces = false) (hF : f_L_holdAgain x1 I V o = some out) : gx_KW l yL_holdAgain cL_holdAgain 4 (some .int) [(0, 9, 12, 36), (0, 9, 15, 47)] { frames := 7, cells := 1, slots := 6, locals := 113 } [.ref (G.2.1 44), .int x1, .ref (G.2.1 68)] G (I, V) M o d (gx_Qi G out.1 (out.2.1, out.2.2.1) M out.2.2.2 d) := by
  refine gx_beginW (by decide +kernel) (Nat.le_of_ble_eq_true rfl) ?_
  intro p e s m below meth c hx hb hr hml hown hlocks htab hV hZ hw ls hl
  have hown : s.vm.findClass RL = some m.cls := hown
  have hl : lv_has ls 4 [(0, .ref (G.2.1 44)), (1, .int x1), (2, .ref (G.2.1 68))] := hl
  unfold f_L_holdAgain at hF
  refine lv_aload_n (pc := 0) hx hb dL_holdAgain_0 rfl (lv_at hl 2 rfl) ?_
  refine lv_iconst (pc := 1) (v := 0) hx hb dL_holdAgain_1 (by decide) ?_
  refine lv_aload_n (pc := 2) hx hb dL_holdAgain_2 rfl (lv_at hl 0 rfl) ?_
  refine lv_iload_n (pc := 3) hx hb dL_holdAgain_3 rfl (lv_at hl 1 rfl) ?_
  obtain ⟨uq_1, huq_1, hF⟩ := Option.bind_eq_some_iff.mp hF
  refine cx_X6_holdAgain (pc := 4) hl9 hx hb hml hown hV hZ hw huq_1 (gw_719 hV) hl.1 (Nat.le_of_ble_eq_true rfl) (Nat.le_of_ble_eq_true rfl) (Nat.le_of_ble_eq_true rfl) (by decide) (by decide) dL_holdAgain_4 (fun ui_3 ce uq8 H locs he hw h7 h8 h9 => ?_) (fun ur_2 H locs he hw => ?_)
  · rw [he] at hF
    have hF : (if ui_3 = 1 then (some (1, I, V, o)) else (if ui_3 = 3 then (some (2, I, V, o)) else none)) = some out := hF
    by_cases hi1 : ui_3 = 1
    · subst hi1
      rw [if_pos rfl] at hF
      refine vx_catch (own := RL) (name := "java/lang/IndexOutOfBoundsException") (E := gx_en 1) (ce := ce) hown [] ⟨0, 9, 12, 36⟩ [⟨0, 9, 15, 47⟩] (htab.trans rfl) (fun _ h => nomatch h) (by decide) (by decide) (gw_599 hV) (gw_631 hV) h7 h8 h9 ?_
      refine lv_astore_n (pc := 12) (lv' := [(3, .ref uq8), (0, .ref (G.2.1 44)), (1, .int x1), (2, .ref (G.2.1 68))]) hx hb dL_holdAgain_12 rfl hl (by decide) rfl (fun ls hl => ?_)
      refine lv_iconst (pc := 13) (v := 1) hx hb dL_holdAgain_13 (by decide) ?_
      cases hF
      exact gx_iret hx hb hr hlocks hw dL_holdAgain_14
    rw [if_neg hi1] at hF
    by_cases hi3 : ui_3 = 3
    · subst hi3
      rw [if_pos rfl] at hF
      refine vx_catch (own := RL) (name := "java/util/NoSuchElementException") (E := gx_en 3) (ce := ce) hown [⟨0, 9, 12, 36⟩] ⟨0, 9, 15, 47⟩ [] (htab.trans rfl) (List.forall_mem_cons.mpr ⟨Or.inr ⟨by decide, "java/lang/IndexOutOfBoundsException", gw_599 hV, hZ.2.2.2 _ (List.mem_of_getElem? (i := 1) rfl)⟩, (fun _ h => nomatch h)⟩) (by decide) (by decide) (gw_672 hV) (gw_682 hV) h7 h8 h9 ?_
      refine lv_astore_n (pc := 15) (lv' := [(3, .ref uq8), (0, .ref (G.2.1 44)), (1, .int x1), (2, .ref (G.2.1 68))]) hx hb dL_holdAgain_15 rfl hl (by decide) rfl (fun ls hl => ?_)
      refine lv_iconst (pc := 16) (v := 2) hx hb dL_holdAgain_16 (by decide) ?_
      cases hF
      exact gx_iret hx hb hr hlocks hw dL_holdAgain_17
    rw [if_neg hi3] at hF
    cases hF
  rw [he] at hF
  have hF : (some (0, I, V, ur_2.toInt64)) = some out := hF
  refine lv_i2l (pc := 7) (v := ur_2.toInt64) hx hb dL_holdAgain_7 rfl ?_
  refine gx_last (pc := 8) hx hb hV hw dL_holdAgain_8 (fun H locs hw => ?_)
  refine lv_goto (pc := 9) (tgt := 18) hx hb dL_holdAgain_9 (by decide) ?_
  refine lv_iconst (pc := 18) (v := 0) hx hb dL_holdAgain_18 (by decide) ?_
  cases hF
  exact gx_iret hx hb hr hlocks hw dL_holdAgain_19
set_option maxRecDepth 100000 in
theorem cl_L_holdAgain {l : Launch} {G : gx_G} {M : gx_S} {o : Int64} {d : UInt64} {I V : gx_F} {p : Program} {e : Env} {R : Room} {s : State} {m : MethodId} {args : Array Value} {below : List Frame} {meth : Method} {c : Code} {H : Heap} {locs : List Loc} {cells slots : Nat} {Q : State → Prop} {cc : ByteArray} {pc nL index : Nat} {ls : Array Slot} {rest : List Value} {own : String} {x1 : Int32} {out : (Int32 × gx_F × gx_F × Int64)} (hl9 : l.stackTraces = false) (hx : p.tables.exec = Jvm.exec) (hb : c.code = cc) (hml : c.maxLocals = nL) (hown : s.vm.findClass own = some m.cls) (hV : gx_V G s) (hZ : gx_Z G s s.heap) (hw : gx_at G (I, V) M o d s.heap H locs) (hF : f_L_holdAgain x1 I V o = some out) (hlink : (Cond.methodLink own index yL_holdAgain).before args s = true) (hsz : ls.size = nL) (hfr : 8 ≤ R.frames) (hlo : 136 ≤ R.locals) (hrest : (rest.map fun v => v.category).sum ≤ 8) (hc : cells + 1 ≤ R.cells) (hs : slots + 6 ≤ R.slots) (hdg : decode cc pc = .ok (.invokestatic index, 3))
    (kk : ∀ (H1 : Heap) (locs1 : List Loc), gx_at G (out.2.1, out.2.2.1) M out.2.2.2 d s.heap H1 locs1 → W p l e R s m args below meth c H1 locs1 (cells + 1) (slots + 6) Q (F0 m (pc + 3) ls (.int out.1 :: rest))) : W p l e R s m args below meth c H locs cells slots Q (F0 m pc ls (.ref (G.2.1 68) :: .int x1 :: .ref (G.2.1 44) :: rest)) :=
  gx_runi hw (vx_runSW (As := [.ref (G.2.1 44), .int x1, .ref (G.2.1 68)]) (rest := rest) ⟨hx, hb, hml, hown, (fun _ h => nomatch h : ∀ w ∈ ([] : List Cond), w.before args s = true)⟩ (k_L_holdAgain hl9 hF) (gx_callW (n := 3) rfl rfl hlink (gw_48 hV) (gw_718 hV) (gw_717 hV) (by decide +kernel) ⟨hfr, hlo⟩) ⟨gx_blindX, fun U hU hW => ⟨rfl, gx_goX hV hZ hw U hU hW⟩⟩ rfl rfl hsz rfl (lv_room hrest) hdg ⟨hc, hs⟩) kk
noncomputable def f_L_wouldHold (x1 : Int32) (x2 : Int32) (x3 : Int32) (I V : gx_F) (o : Int64) : Option (Int32 × gx_F × gx_F × Int64) := (Option.bind (f_X6_wouldHold x1 x2 x3 I V) fun uq_1 => (gx_el uq_1 (fun ur_2 => (some (0, I, V, ur_2.toInt64))) (fun ui_3 => (if ui_3 = 1 then (some (1, I, V, o)) else (if ui_3 = 2 then (some (2, I, V, o)) else (if ui_3 = 3 then (some (3, I, V, o)) else none))))))
set_option maxHeartbeats 4000000 in
set_option maxRecDepth 100000 in
theorem k_L_wouldHold {l : Launch} {G : gx_G} {M : gx_S} {o : Int64} {d : UInt64} {I V : gx_F} {x1 : Int32} {x2 : Int32} {x3 : Int32} {out : (Int32 × gx_F × gx_F × Int64)} (hl9 : l.stackTraces = false) (hF : f_L_wouldHold x1 x2 x3 I V o = some out) : gx_KW l yL_wouldHold cL_wouldHold 6 (some .int) [(0, 12, 15, 36), (0, 12, 19, 38), (0, 12, 23, 47)] { frames := 7, cells := 1, slots := 6, locals := 105 } [.ref (G.2.1 44), .int x1, .int x2, .int x3, .ref (G.2.1 68)] G (I, V) M o d (gx_Qi G out.1 (out.2.1, out.2.2.1) M out.2.2.2 d) := by
  refine gx_beginW (by decide +kernel) (Nat.le_of_ble_eq_true rfl) ?_
  intro p e s m below meth c hx hb hr hml hown hlocks htab hV hZ hw ls hl
  have hown : s.vm.findClass RL = some m.cls := hown
  have hl : lv_has ls 6 [(0, .ref (G.2.1 44)), (1, .int x1), (2, .int x2), (3, .int x3), (4, .ref (G.2.1 68))] := hl
  unfold f_L_wouldHold at hF
  refine lv_aload (pc := 0) hx hb dL_wouldHold_0 (lv_at hl 4 rfl) ?_
  refine lv_iconst (pc := 2) (v := 0) hx hb dL_wouldHold_2 (by decide) ?_
  refine lv_aload_n (pc := 3) hx hb dL_wouldHold_3 rfl (lv_at hl 0 rfl) ?_
  refine lv_iload_n (pc := 4) hx hb dL_wouldHold_4 rfl (lv_at hl 1 rfl) ?_
  refine lv_iload_n (pc := 5) hx hb dL_wouldHold_5 rfl (lv_at hl 2 rfl) ?_
  refine lv_iload_n (pc := 6) hx hb dL_wouldHold_6 rfl (lv_at hl 3 rfl) ?_
  obtain ⟨uq_1, huq_1, hF⟩ := Option.bind_eq_some_iff.mp hF
  refine cx_X6_wouldHold (pc := 7) hl9 hx hb hml hown hV hZ hw huq_1 (gw_732 hV) hl.1 (Nat.le_of_ble_eq_true rfl) (Nat.le_of_ble_eq_true rfl) (Nat.le_of_ble_eq_true rfl) (by decide) (by decide) dL_wouldHold_7 (fun ui_3 ce uq8 H locs he hw h7 h8 h9 => ?_) (fun ur_2 H locs he hw => ?_)
  · rw [he] at hF
    have hF : (if ui_3 = 1 then (some (1, I, V, o)) else (if ui_3 = 2 then (some (2, I, V, o)) else (if ui_3 = 3 then (some (3, I, V, o)) else none))) = some out := hF
    by_cases hi1 : ui_3 = 1
    · subst hi1
      rw [if_pos rfl] at hF
      refine vx_catch (own := RL) (name := "java/lang/IndexOutOfBoundsException") (E := gx_en 1) (ce := ce) hown [] ⟨0, 12, 15, 36⟩ [⟨0, 12, 19, 38⟩, ⟨0, 12, 23, 47⟩] (htab.trans rfl) (fun _ h => nomatch h) (by decide) (by decide) (gw_599 hV) (gw_631 hV) h7 h8 h9 ?_
      refine lv_astore (pc := 15) (lv' := [(5, .ref uq8), (0, .ref (G.2.1 44)), (1, .int x1), (2, .int x2), (3, .int x3), (4, .ref (G.2.1 68))]) hx hb dL_wouldHold_15 hl (by decide) rfl (fun ls hl => ?_)
      refine lv_iconst (pc := 17) (v := 1) hx hb dL_wouldHold_17 (by decide) ?_
      cases hF
      exact gx_iret hx hb hr hlocks hw dL_wouldHold_18
    rw [if_neg hi1] at hF
    by_cases hi2 : ui_3 = 2
    · subst hi2
      rw [if_pos rfl] at hF
      refine vx_catch (own := RL) (name := "java/lang/IllegalArgumentException") (E := gx_en 2) (ce := ce) hown [⟨0, 12, 15, 36⟩] ⟨0, 12, 19, 38⟩ [⟨0, 12, 23, 47⟩] (htab.trans rfl) (List.forall_mem_cons.mpr ⟨Or.inr ⟨by decide, "java/lang/IndexOutOfBoundsException", gw_599 hV, hZ.2.2.2 _ (List.mem_of_getElem? (i := 0) rfl)⟩, (fun _ h => nomatch h)⟩) (by decide) (by decide) (gw_623 hV) (gw_645 hV) h7 h8 h9 ?_
      refine lv_astore (pc := 19) (lv' := [(5, .ref uq8), (0, .ref (G.2.1 44)), (1, .int x1), (2, .int x2), (3, .int x3), (4, .ref (G.2.1 68))]) hx hb dL_wouldHold_19 hl (by decide) rfl (fun ls hl => ?_)
      refine lv_iconst (pc := 21) (v := 2) hx hb dL_wouldHold_21 (by decide) ?_
      cases hF
      exact gx_iret hx hb hr hlocks hw dL_wouldHold_22
    rw [if_neg hi2] at hF
    by_cases hi3 : ui_3 = 3
    · subst hi3
      rw [if_pos rfl] at hF
      refine vx_catch (own := RL) (name := "java/util/NoSuchElementException") (E := gx_en 3) (ce := ce) hown [⟨0, 12, 15, 36⟩, ⟨0, 12, 19, 38⟩] ⟨0, 12, 23, 47⟩ [] (htab.trans rfl) (List.forall_mem_cons.mpr ⟨Or.inr ⟨by decide, "java/lang/IndexOutOfBoundsException", gw_599 hV, hZ.2.2.2 _ (List.mem_of_getElem? (i := 1) rfl)⟩, (List.forall_mem_cons.mpr ⟨Or.inr ⟨by decide, "java/lang/IllegalArgumentException", gw_623 hV, hZ.2.2.2 _ (List.mem_of_getElem? (i := 2) rfl)⟩, (fun _ h => nomatch h)⟩)⟩) (by decide) (by decide) (gw_672 hV) (gw_682 hV) h7 h8 h9 ?_
      refine lv_astore (pc := 23) (lv' := [(5, .ref uq8), (0, .ref (G.2.1 44)), (1, .int x1), (2, .int x2), (3, .int x3), (4, .ref (G.2.1 68))]) hx hb dL_wouldHold_23 hl (by decide) rfl (fun ls hl => ?_)
      refine lv_iconst (pc := 25) (v := 3) hx hb dL_wouldHold_25 (by decide) ?_
      cases hF
      exact gx_iret hx hb hr hlocks hw dL_wouldHold_26
    rw [if_neg hi3] at hF
    cases hF
  rw [he] at hF
  have hF : (some (0, I, V, ur_2.toInt64)) = some out := hF
  refine lv_i2l (pc := 10) (v := ur_2.toInt64) hx hb dL_wouldHold_10 rfl ?_
  refine gx_last (pc := 11) hx hb hV hw dL_wouldHold_11 (fun H locs hw => ?_)
  refine lv_goto (pc := 12) (tgt := 27) hx hb dL_wouldHold_12 (by decide) ?_
  refine lv_iconst (pc := 27) (v := 0) hx hb dL_wouldHold_27 (by decide) ?_
  cases hF
  exact gx_iret hx hb hr hlocks hw dL_wouldHold_28
set_option maxRecDepth 100000 in
theorem cl_L_wouldHold {l : Launch} {G : gx_G} {M : gx_S} {o : Int64} {d : UInt64} {I V : gx_F} {p : Program} {e : Env} {R : Room} {s : State} {m : MethodId} {args : Array Value} {below : List Frame} {meth : Method} {c : Code} {H : Heap} {locs : List Loc} {cells slots : Nat} {Q : State → Prop} {cc : ByteArray} {pc nL index : Nat} {ls : Array Slot} {rest : List Value} {own : String} {x1 : Int32} {x2 : Int32} {x3 : Int32} {out : (Int32 × gx_F × gx_F × Int64)} (hl9 : l.stackTraces = false) (hx : p.tables.exec = Jvm.exec) (hb : c.code = cc) (hml : c.maxLocals = nL) (hown : s.vm.findClass own = some m.cls) (hV : gx_V G s) (hZ : gx_Z G s s.heap) (hw : gx_at G (I, V) M o d s.heap H locs) (hF : f_L_wouldHold x1 x2 x3 I V o = some out) (hlink : (Cond.methodLink own index yL_wouldHold).before args s = true) (hsz : ls.size = nL) (hfr : 8 ≤ R.frames) (hlo : 130 ≤ R.locals) (hrest : (rest.map fun v => v.category).sum ≤ 8) (hc : cells + 1 ≤ R.cells) (hs : slots + 6 ≤ R.slots) (hdg : decode cc pc = .ok (.invokestatic index, 3))
    (kk : ∀ (H1 : Heap) (locs1 : List Loc), gx_at G (out.2.1, out.2.2.1) M out.2.2.2 d s.heap H1 locs1 → W p l e R s m args below meth c H1 locs1 (cells + 1) (slots + 6) Q (F0 m (pc + 3) ls (.int out.1 :: rest))) : W p l e R s m args below meth c H locs cells slots Q (F0 m pc ls (.ref (G.2.1 68) :: .int x3 :: .int x2 :: .int x1 :: .ref (G.2.1 44) :: rest)) :=
  gx_runi hw (vx_runSW (As := [.ref (G.2.1 44), .int x1, .int x2, .int x3, .ref (G.2.1 68)]) (rest := rest) ⟨hx, hb, hml, hown, (fun _ h => nomatch h : ∀ w ∈ ([] : List Cond), w.before args s = true)⟩ (k_L_wouldHold hl9 hF) (gx_callW (n := 5) rfl rfl hlink (gw_48 hV) (gw_731 hV) (gw_730 hV) (by decide +kernel) ⟨hfr, hlo⟩) ⟨gx_blindX, fun U hU hW => ⟨rfl, gx_goX hV hZ hw U hU hW⟩⟩ rfl rfl hsz rfl (lv_room hrest) hdg ⟨hc, hs⟩) kk
noncomputable def f_L_stands (x1 : Int32) (I V : gx_F) (o : Int64) : Option (Int32 × gx_F × gx_F × Int64) := (Option.bind (f_X6_stands x1 I V) fun uq_1 => (gx_el uq_1.1 (fun ur_2 => (if (gx_bi ur_2) = 0 then (some (0, uq_1.2.1, uq_1.2.2, (0 : Int64))) else (some (0, uq_1.2.1, uq_1.2.2, (1 : Int64))))) (fun ui_3 => (if ui_3 = 1 then (some (1, uq_1.2.1, uq_1.2.2, o)) else (if ui_3 = 3 then (some (2, uq_1.2.1, uq_1.2.2, o)) else none)))))
set_option maxHeartbeats 4000000 in
set_option maxRecDepth 100000 in
theorem k_L_stands {l : Launch} {G : gx_G} {M : gx_S} {o : Int64} {d : UInt64} {I V : gx_F} {x1 : Int32} {out : (Int32 × gx_F × gx_F × Int64)} (hl9 : l.stackTraces = false) (hF : f_L_stands x1 I V o = some out) : gx_KW l yL_stands cL_stands 4 (some .int) [(0, 16, 19, 36), (0, 16, 22, 47)] { frames := 7, cells := 1, slots := 6, locals := 115 } [.ref (G.2.1 44), .int x1, .ref (G.2.1 68)] G (I, V) M o d (gx_Qi G out.1 (out.2.1, out.2.2.1) M out.2.2.2 d) := by
  refine gx_beginW (by decide +kernel) (Nat.le_of_ble_eq_true rfl) ?_
  intro p e s m below meth c hx hb hr hml hown hlocks htab hV hZ hw ls hl
  have hown : s.vm.findClass RL = some m.cls := hown
  have hl : lv_has ls 4 [(0, .ref (G.2.1 44)), (1, .int x1), (2, .ref (G.2.1 68))] := hl
  unfold f_L_stands at hF
  refine lv_aload_n (pc := 0) hx hb dL_stands_0 rfl (lv_at hl 2 rfl) ?_
  refine lv_iconst (pc := 1) (v := 0) hx hb dL_stands_1 (by decide) ?_
  refine lv_aload_n (pc := 2) hx hb dL_stands_2 rfl (lv_at hl 0 rfl) ?_
  refine lv_iload_n (pc := 3) hx hb dL_stands_3 rfl (lv_at hl 1 rfl) ?_
  obtain ⟨uq_1, huq_1, hF⟩ := Option.bind_eq_some_iff.mp hF
  refine cx_X6_stands (pc := 4) hl9 hx hb hml hown hV hZ hw huq_1 (gw_742 hV) hl.1 (Nat.le_of_ble_eq_true rfl) (Nat.le_of_ble_eq_true rfl) (Nat.le_of_ble_eq_true rfl) (by decide) (by decide) dL_stands_4 (fun ui_3 ce uq8 H locs he hw h7 h8 h9 => ?_) (fun ur_2 H locs he hw => ?_)
  · rw [he] at hF
    have hF : (if ui_3 = 1 then (some (1, uq_1.2.1, uq_1.2.2, o)) else (if ui_3 = 3 then (some (2, uq_1.2.1, uq_1.2.2, o)) else none)) = some out := hF
    by_cases hi1 : ui_3 = 1
    · subst hi1
      rw [if_pos rfl] at hF
      refine vx_catch (own := RL) (name := "java/lang/IndexOutOfBoundsException") (E := gx_en 1) (ce := ce) hown [] ⟨0, 16, 19, 36⟩ [⟨0, 16, 22, 47⟩] (htab.trans rfl) (fun _ h => nomatch h) (by decide) (by decide) (gw_599 hV) (gw_631 hV) h7 h8 h9 ?_
      refine lv_astore_n (pc := 19) (lv' := [(3, .ref uq8), (0, .ref (G.2.1 44)), (1, .int x1), (2, .ref (G.2.1 68))]) hx hb dL_stands_19 rfl hl (by decide) rfl (fun ls hl => ?_)
      refine lv_iconst (pc := 20) (v := 1) hx hb dL_stands_20 (by decide) ?_
      cases hF
      exact gx_iret hx hb hr hlocks hw dL_stands_21
    rw [if_neg hi1] at hF
    by_cases hi3 : ui_3 = 3
    · subst hi3
      rw [if_pos rfl] at hF
      refine vx_catch (own := RL) (name := "java/util/NoSuchElementException") (E := gx_en 3) (ce := ce) hown [⟨0, 16, 19, 36⟩] ⟨0, 16, 22, 47⟩ [] (htab.trans rfl) (List.forall_mem_cons.mpr ⟨Or.inr ⟨by decide, "java/lang/IndexOutOfBoundsException", gw_599 hV, hZ.2.2.2 _ (List.mem_of_getElem? (i := 1) rfl)⟩, (fun _ h => nomatch h)⟩) (by decide) (by decide) (gw_672 hV) (gw_682 hV) h7 h8 h9 ?_
      refine lv_astore_n (pc := 22) (lv' := [(3, .ref uq8), (0, .ref (G.2.1 44)), (1, .int x1), (2, .ref (G.2.1 68))]) hx hb dL_stands_22 rfl hl (by decide) rfl (fun ls hl => ?_)
      refine lv_iconst (pc := 23) (v := 2) hx hb dL_stands_23 (by decide) ?_
      cases hF
      exact gx_iret hx hb hr hlocks hw dL_stands_24
    rw [if_neg hi3] at hF
    cases hF
  rw [he] at hF
  have hF : (if (gx_bi ur_2) = 0 then (some (0, uq_1.2.1, uq_1.2.2, (0 : Int64))) else (some (0, uq_1.2.1, uq_1.2.2, (1 : Int64)))) = some out := hF
  refine gx_if_eq (pc := 7) (tgt := 14) hx hb hF dL_stands_7 (by decide) (fun hF => ?_) (fun hF => ?_)
  · refine lv_lconst (pc := 14) (v := 0) hx hb dL_stands_14 rfl ?_
    refine gx_last (pc := 15) hx hb hV hw dL_stands_15 (fun H locs hw => ?_)
    refine lv_goto (pc := 16) (tgt := 25) hx hb dL_stands_16 (by decide) ?_
    refine lv_iconst (pc := 25) (v := 0) hx hb dL_stands_25 (by decide) ?_
    cases hF
    exact gx_iret hx hb hr hlocks hw dL_stands_26
  refine lv_lconst (pc := 10) (v := 1) hx hb dL_stands_10 rfl ?_
  refine lv_goto (pc := 11) (tgt := 15) hx hb dL_stands_11 (by decide) ?_
  refine gx_last (pc := 15) hx hb hV hw dL_stands_15 (fun H locs hw => ?_)
  refine lv_goto (pc := 16) (tgt := 25) hx hb dL_stands_16 (by decide) ?_
  refine lv_iconst (pc := 25) (v := 0) hx hb dL_stands_25 (by decide) ?_
  cases hF
  exact gx_iret hx hb hr hlocks hw dL_stands_26
set_option maxRecDepth 100000 in
theorem cl_L_stands {l : Launch} {G : gx_G} {M : gx_S} {o : Int64} {d : UInt64} {I V : gx_F} {p : Program} {e : Env} {R : Room} {s : State} {m : MethodId} {args : Array Value} {below : List Frame} {meth : Method} {c : Code} {H : Heap} {locs : List Loc} {cells slots : Nat} {Q : State → Prop} {cc : ByteArray} {pc nL index : Nat} {ls : Array Slot} {rest : List Value} {own : String} {x1 : Int32} {out : (Int32 × gx_F × gx_F × Int64)} (hl9 : l.stackTraces = false) (hx : p.tables.exec = Jvm.exec) (hb : c.code = cc) (hml : c.maxLocals = nL) (hown : s.vm.findClass own = some m.cls) (hV : gx_V G s) (hZ : gx_Z G s s.heap) (hw : gx_at G (I, V) M o d s.heap H locs) (hF : f_L_stands x1 I V o = some out) (hlink : (Cond.methodLink own index yL_stands).before args s = true) (hsz : ls.size = nL) (hfr : 8 ≤ R.frames) (hlo : 138 ≤ R.locals) (hrest : (rest.map fun v => v.category).sum ≤ 8) (hc : cells + 1 ≤ R.cells) (hs : slots + 6 ≤ R.slots) (hdg : decode cc pc = .ok (.invokestatic index, 3))
    (kk : ∀ (H1 : Heap) (locs1 : List Loc), gx_at G (out.2.1, out.2.2.1) M out.2.2.2 d s.heap H1 locs1 → W p l e R s m args below meth c H1 locs1 (cells + 1) (slots + 6) Q (F0 m (pc + 3) ls (.int out.1 :: rest))) : W p l e R s m args below meth c H locs cells slots Q (F0 m pc ls (.ref (G.2.1 68) :: .int x1 :: .ref (G.2.1 44) :: rest)) :=
  gx_runi hw (vx_runSW (As := [.ref (G.2.1 44), .int x1, .ref (G.2.1 68)]) (rest := rest) ⟨hx, hb, hml, hown, (fun _ h => nomatch h : ∀ w ∈ ([] : List Cond), w.before args s = true)⟩ (k_L_stands hl9 hF) (gx_callW (n := 3) rfl rfl hlink (gw_48 hV) (gw_741 hV) (gw_740 hV) (by decide +kernel) ⟨hfr, hlo⟩) ⟨gx_blindX, fun U hU hW => ⟨rfl, gx_goX hV hZ hw U hU hW⟩⟩ rfl rfl hsz rfl (lv_room hrest) hdg ⟨hc, hs⟩) kk
noncomputable def f_L_falls (x1 : Int32) (I V : gx_F) (o : Int64) : Option (Int32 × gx_F × gx_F × Int64) := (Option.bind (f_X6_falls x1 I V) fun uq_1 => (gx_el uq_1.1 (fun ur_2 => (some (0, uq_1.2.1, uq_1.2.2, ur_2.toInt64))) (fun ui_3 => (if ui_3 = 1 then (some (1, uq_1.2.1, uq_1.2.2, o)) else (if ui_3 = 3 then (some (2, uq_1.2.1, uq_1.2.2, o)) else none)))))
set_option maxHeartbeats 4000000 in
set_option maxRecDepth 100000 in
theorem k_L_falls {l : Launch} {G : gx_G} {M : gx_S} {o : Int64} {d : UInt64} {I V : gx_F} {x1 : Int32} {out : (Int32 × gx_F × gx_F × Int64)} (hl9 : l.stackTraces = false) (hF : f_L_falls x1 I V o = some out) : gx_KW l yL_falls cL_falls 4 (some .int) [(0, 9, 12, 36), (0, 9, 15, 47)] { frames := 7, cells := 1, slots := 6, locals := 138 } [.ref (G.2.1 44), .int x1, .ref (G.2.1 68)] G (I, V) M o d (gx_Qi G out.1 (out.2.1, out.2.2.1) M out.2.2.2 d) := by
  refine gx_beginW (by decide +kernel) (Nat.le_of_ble_eq_true rfl) ?_
  intro p e s m below meth c hx hb hr hml hown hlocks htab hV hZ hw ls hl
  have hown : s.vm.findClass RL = some m.cls := hown
  have hl : lv_has ls 4 [(0, .ref (G.2.1 44)), (1, .int x1), (2, .ref (G.2.1 68))] := hl
  unfold f_L_falls at hF
  refine lv_aload_n (pc := 0) hx hb dL_falls_0 rfl (lv_at hl 2 rfl) ?_
  refine lv_iconst (pc := 1) (v := 0) hx hb dL_falls_1 (by decide) ?_
  refine lv_aload_n (pc := 2) hx hb dL_falls_2 rfl (lv_at hl 0 rfl) ?_
  refine lv_iload_n (pc := 3) hx hb dL_falls_3 rfl (lv_at hl 1 rfl) ?_
  obtain ⟨uq_1, huq_1, hF⟩ := Option.bind_eq_some_iff.mp hF
  refine cx_X6_falls (pc := 4) hl9 hx hb hml hown hV hZ hw huq_1 (gw_750 hV) hl.1 (Nat.le_of_ble_eq_true rfl) (Nat.le_of_ble_eq_true rfl) (Nat.le_of_ble_eq_true rfl) (by decide) (by decide) dL_falls_4 (fun ui_3 ce uq8 H locs he hw h7 h8 h9 => ?_) (fun ur_2 H locs he hw => ?_)
  · rw [he] at hF
    have hF : (if ui_3 = 1 then (some (1, uq_1.2.1, uq_1.2.2, o)) else (if ui_3 = 3 then (some (2, uq_1.2.1, uq_1.2.2, o)) else none)) = some out := hF
    by_cases hi1 : ui_3 = 1
    · subst hi1
      rw [if_pos rfl] at hF
      refine vx_catch (own := RL) (name := "java/lang/IndexOutOfBoundsException") (E := gx_en 1) (ce := ce) hown [] ⟨0, 9, 12, 36⟩ [⟨0, 9, 15, 47⟩] (htab.trans rfl) (fun _ h => nomatch h) (by decide) (by decide) (gw_599 hV) (gw_631 hV) h7 h8 h9 ?_
      refine lv_astore_n (pc := 12) (lv' := [(3, .ref uq8), (0, .ref (G.2.1 44)), (1, .int x1), (2, .ref (G.2.1 68))]) hx hb dL_falls_12 rfl hl (by decide) rfl (fun ls hl => ?_)
      refine lv_iconst (pc := 13) (v := 1) hx hb dL_falls_13 (by decide) ?_
      cases hF
      exact gx_iret hx hb hr hlocks hw dL_falls_14
    rw [if_neg hi1] at hF
    by_cases hi3 : ui_3 = 3
    · subst hi3
      rw [if_pos rfl] at hF
      refine vx_catch (own := RL) (name := "java/util/NoSuchElementException") (E := gx_en 3) (ce := ce) hown [⟨0, 9, 12, 36⟩] ⟨0, 9, 15, 47⟩ [] (htab.trans rfl) (List.forall_mem_cons.mpr ⟨Or.inr ⟨by decide, "java/lang/IndexOutOfBoundsException", gw_599 hV, hZ.2.2.2 _ (List.mem_of_getElem? (i := 1) rfl)⟩, (fun _ h => nomatch h)⟩) (by decide) (by decide) (gw_672 hV) (gw_682 hV) h7 h8 h9 ?_
      refine lv_astore_n (pc := 15) (lv' := [(3, .ref uq8), (0, .ref (G.2.1 44)), (1, .int x1), (2, .ref (G.2.1 68))]) hx hb dL_falls_15 rfl hl (by decide) rfl (fun ls hl => ?_)
      refine lv_iconst (pc := 16) (v := 2) hx hb dL_falls_16 (by decide) ?_
      cases hF
      exact gx_iret hx hb hr hlocks hw dL_falls_17
    rw [if_neg hi3] at hF
    cases hF
  rw [he] at hF
  have hF : (some (0, uq_1.2.1, uq_1.2.2, ur_2.toInt64)) = some out := hF
  refine lv_i2l (pc := 7) (v := ur_2.toInt64) hx hb dL_falls_7 rfl ?_
  refine gx_last (pc := 8) hx hb hV hw dL_falls_8 (fun H locs hw => ?_)
  refine lv_goto (pc := 9) (tgt := 18) hx hb dL_falls_9 (by decide) ?_
  refine lv_iconst (pc := 18) (v := 0) hx hb dL_falls_18 (by decide) ?_
  cases hF
  exact gx_iret hx hb hr hlocks hw dL_falls_19
set_option maxRecDepth 100000 in
theorem cl_L_falls {l : Launch} {G : gx_G} {M : gx_S} {o : Int64} {d : UInt64} {I V : gx_F} {p : Program} {e : Env} {R : Room} {s : State} {m : MethodId} {args : Array Value} {below : List Frame} {meth : Method} {c : Code} {H : Heap} {locs : List Loc} {cells slots : Nat} {Q : State → Prop} {cc : ByteArray} {pc nL index : Nat} {ls : Array Slot} {rest : List Value} {own : String} {x1 : Int32} {out : (Int32 × gx_F × gx_F × Int64)} (hl9 : l.stackTraces = false) (hx : p.tables.exec = Jvm.exec) (hb : c.code = cc) (hml : c.maxLocals = nL) (hown : s.vm.findClass own = some m.cls) (hV : gx_V G s) (hZ : gx_Z G s s.heap) (hw : gx_at G (I, V) M o d s.heap H locs) (hF : f_L_falls x1 I V o = some out) (hlink : (Cond.methodLink own index yL_falls).before args s = true) (hsz : ls.size = nL) (hfr : 8 ≤ R.frames) (hlo : 161 ≤ R.locals) (hrest : (rest.map fun v => v.category).sum ≤ 8) (hc : cells + 1 ≤ R.cells) (hs : slots + 6 ≤ R.slots) (hdg : decode cc pc = .ok (.invokestatic index, 3))
    (kk : ∀ (H1 : Heap) (locs1 : List Loc), gx_at G (out.2.1, out.2.2.1) M out.2.2.2 d s.heap H1 locs1 → W p l e R s m args below meth c H1 locs1 (cells + 1) (slots + 6) Q (F0 m (pc + 3) ls (.int out.1 :: rest))) : W p l e R s m args below meth c H locs cells slots Q (F0 m pc ls (.ref (G.2.1 68) :: .int x1 :: .ref (G.2.1 44) :: rest)) :=
  gx_runi hw (vx_runSW (As := [.ref (G.2.1 44), .int x1, .ref (G.2.1 68)]) (rest := rest) ⟨hx, hb, hml, hown, (fun _ h => nomatch h : ∀ w ∈ ([] : List Cond), w.before args s = true)⟩ (k_L_falls hl9 hF) (gx_callW (n := 3) rfl rfl hlink (gw_48 hV) (gw_749 hV) (gw_748 hV) (by decide +kernel) ⟨hfr, hlo⟩) ⟨gx_blindX, fun U hU hW => ⟨rfl, gx_goX hV hZ hw U hU hW⟩⟩ rfl rfl hsz rfl (lv_room hrest) hdg ⟨hc, hs⟩) kk
noncomputable def f_L_errorsAt (x1 : Int32) (I V : gx_F) (o : Int64) : Option (Int32 × gx_F × gx_F × Int64) := (Option.bind (f_X6_errorsAt x1 I V) fun uq_1 => (gx_el uq_1 (fun ur_2 => (some (0, I, V, ur_2.toInt64))) (fun ui_3 => (if ui_3 = 1 then (some (1, I, V, o)) else (if ui_3 = 3 then (some (2, I, V, o)) else none)))))
set_option maxHeartbeats 4000000 in
set_option maxRecDepth 100000 in
theorem k_L_errorsAt {l : Launch} {G : gx_G} {M : gx_S} {o : Int64} {d : UInt64} {I V : gx_F} {x1 : Int32} {out : (Int32 × gx_F × gx_F × Int64)} (hl9 : l.stackTraces = false) (hF : f_L_errorsAt x1 I V o = some out) : gx_KW l yL_errorsAt cL_errorsAt 4 (some .int) [(0, 9, 12, 36), (0, 9, 15, 47)] { frames := 7, cells := 1, slots := 6, locals := 112 } [.ref (G.2.1 44), .int x1, .ref (G.2.1 68)] G (I, V) M o d (gx_Qi G out.1 (out.2.1, out.2.2.1) M out.2.2.2 d) := by
  refine gx_beginW (by decide +kernel) (Nat.le_of_ble_eq_true rfl) ?_
  intro p e s m below meth c hx hb hr hml hown hlocks htab hV hZ hw ls hl
  have hown : s.vm.findClass RL = some m.cls := hown
  have hl : lv_has ls 4 [(0, .ref (G.2.1 44)), (1, .int x1), (2, .ref (G.2.1 68))] := hl
  unfold f_L_errorsAt at hF
  refine lv_aload_n (pc := 0) hx hb dL_errorsAt_0 rfl (lv_at hl 2 rfl) ?_
  refine lv_iconst (pc := 1) (v := 0) hx hb dL_errorsAt_1 (by decide) ?_
  refine lv_aload_n (pc := 2) hx hb dL_errorsAt_2 rfl (lv_at hl 0 rfl) ?_
  refine lv_iload_n (pc := 3) hx hb dL_errorsAt_3 rfl (lv_at hl 1 rfl) ?_
  obtain ⟨uq_1, huq_1, hF⟩ := Option.bind_eq_some_iff.mp hF
  refine cx_X6_errorsAt (pc := 4) hl9 hx hb hml hown hV hZ hw huq_1 (gw_758 hV) hl.1 (Nat.le_of_ble_eq_true rfl) (Nat.le_of_ble_eq_true rfl) (Nat.le_of_ble_eq_true rfl) (by decide) (by decide) dL_errorsAt_4 (fun ui_3 ce uq8 H locs he hw h7 h8 h9 => ?_) (fun ur_2 H locs he hw => ?_)
  · rw [he] at hF
    have hF : (if ui_3 = 1 then (some (1, I, V, o)) else (if ui_3 = 3 then (some (2, I, V, o)) else none)) = some out := hF
    by_cases hi1 : ui_3 = 1
    · subst hi1
      rw [if_pos rfl] at hF
      refine vx_catch (own := RL) (name := "java/lang/IndexOutOfBoundsException") (E := gx_en 1) (ce := ce) hown [] ⟨0, 9, 12, 36⟩ [⟨0, 9, 15, 47⟩] (htab.trans rfl) (fun _ h => nomatch h) (by decide) (by decide) (gw_599 hV) (gw_631 hV) h7 h8 h9 ?_
      refine lv_astore_n (pc := 12) (lv' := [(3, .ref uq8), (0, .ref (G.2.1 44)), (1, .int x1), (2, .ref (G.2.1 68))]) hx hb dL_errorsAt_12 rfl hl (by decide) rfl (fun ls hl => ?_)
      refine lv_iconst (pc := 13) (v := 1) hx hb dL_errorsAt_13 (by decide) ?_
      cases hF
      exact gx_iret hx hb hr hlocks hw dL_errorsAt_14
    rw [if_neg hi1] at hF
    by_cases hi3 : ui_3 = 3
    · subst hi3
      rw [if_pos rfl] at hF
      refine vx_catch (own := RL) (name := "java/util/NoSuchElementException") (E := gx_en 3) (ce := ce) hown [⟨0, 9, 12, 36⟩] ⟨0, 9, 15, 47⟩ [] (htab.trans rfl) (List.forall_mem_cons.mpr ⟨Or.inr ⟨by decide, "java/lang/IndexOutOfBoundsException", gw_599 hV, hZ.2.2.2 _ (List.mem_of_getElem? (i := 1) rfl)⟩, (fun _ h => nomatch h)⟩) (by decide) (by decide) (gw_672 hV) (gw_682 hV) h7 h8 h9 ?_
      refine lv_astore_n (pc := 15) (lv' := [(3, .ref uq8), (0, .ref (G.2.1 44)), (1, .int x1), (2, .ref (G.2.1 68))]) hx hb dL_errorsAt_15 rfl hl (by decide) rfl (fun ls hl => ?_)
      refine lv_iconst (pc := 16) (v := 2) hx hb dL_errorsAt_16 (by decide) ?_
      cases hF
      exact gx_iret hx hb hr hlocks hw dL_errorsAt_17
    rw [if_neg hi3] at hF
    cases hF
  rw [he] at hF
  have hF : (some (0, I, V, ur_2.toInt64)) = some out := hF
  refine lv_i2l (pc := 7) (v := ur_2.toInt64) hx hb dL_errorsAt_7 rfl ?_
  refine gx_last (pc := 8) hx hb hV hw dL_errorsAt_8 (fun H locs hw => ?_)
  refine lv_goto (pc := 9) (tgt := 18) hx hb dL_errorsAt_9 (by decide) ?_
  refine lv_iconst (pc := 18) (v := 0) hx hb dL_errorsAt_18 (by decide) ?_
  cases hF
  exact gx_iret hx hb hr hlocks hw dL_errorsAt_19
set_option maxRecDepth 100000 in
theorem cl_L_errorsAt {l : Launch} {G : gx_G} {M : gx_S} {o : Int64} {d : UInt64} {I V : gx_F} {p : Program} {e : Env} {R : Room} {s : State} {m : MethodId} {args : Array Value} {below : List Frame} {meth : Method} {c : Code} {H : Heap} {locs : List Loc} {cells slots : Nat} {Q : State → Prop} {cc : ByteArray} {pc nL index : Nat} {ls : Array Slot} {rest : List Value} {own : String} {x1 : Int32} {out : (Int32 × gx_F × gx_F × Int64)} (hl9 : l.stackTraces = false) (hx : p.tables.exec = Jvm.exec) (hb : c.code = cc) (hml : c.maxLocals = nL) (hown : s.vm.findClass own = some m.cls) (hV : gx_V G s) (hZ : gx_Z G s s.heap) (hw : gx_at G (I, V) M o d s.heap H locs) (hF : f_L_errorsAt x1 I V o = some out) (hlink : (Cond.methodLink own index yL_errorsAt).before args s = true) (hsz : ls.size = nL) (hfr : 8 ≤ R.frames) (hlo : 135 ≤ R.locals) (hrest : (rest.map fun v => v.category).sum ≤ 8) (hc : cells + 1 ≤ R.cells) (hs : slots + 6 ≤ R.slots) (hdg : decode cc pc = .ok (.invokestatic index, 3))
    (kk : ∀ (H1 : Heap) (locs1 : List Loc), gx_at G (out.2.1, out.2.2.1) M out.2.2.2 d s.heap H1 locs1 → W p l e R s m args below meth c H1 locs1 (cells + 1) (slots + 6) Q (F0 m (pc + 3) ls (.int out.1 :: rest))) : W p l e R s m args below meth c H locs cells slots Q (F0 m pc ls (.ref (G.2.1 68) :: .int x1 :: .ref (G.2.1 44) :: rest)) :=
  gx_runi hw (vx_runSW (As := [.ref (G.2.1 44), .int x1, .ref (G.2.1 68)]) (rest := rest) ⟨hx, hb, hml, hown, (fun _ h => nomatch h : ∀ w ∈ ([] : List Cond), w.before args s = true)⟩ (k_L_errorsAt hl9 hF) (gx_callW (n := 3) rfl rfl hlink (gw_48 hV) (gw_757 hV) (gw_756 hV) (by decide +kernel) ⟨hfr, hlo⟩) ⟨gx_blindX, fun U hU hW => ⟨rfl, gx_goX hV hZ hw U hU hW⟩⟩ rfl rfl hsz rfl (lv_room hrest) hdg ⟨hc, hs⟩) kk
noncomputable def f_L_nextPlace (I V : gx_F) (o : Int64) : Option (Int32 × gx_F × gx_F × Int64) := (Option.bind (f_X6_nextPlace I V) fun uq_1 => (gx_el uq_1.1 (fun ur_2 => (some (0, uq_1.2.1, uq_1.2.2, ur_2.toInt64))) (fun ui_3 => (if ui_3 = 3 then (some (1, uq_1.2.1, uq_1.2.2, o)) else none))))
set_option maxHeartbeats 4000000 in
set_option maxRecDepth 100000 in
theorem k_L_nextPlace {l : Launch} {G : gx_G} {M : gx_S} {o : Int64} {d : UInt64} {I V : gx_F} {out : (Int32 × gx_F × gx_F × Int64)} (hl9 : l.stackTraces = false) (hF : f_L_nextPlace I V o = some out) : gx_KW l yL_nextPlace cL_nextPlace 3 (some .int) [(0, 8, 11, 47)] { frames := 7, cells := 1, slots := 6, locals := 119 } [.ref (G.2.1 44), .ref (G.2.1 68)] G (I, V) M o d (gx_Qi G out.1 (out.2.1, out.2.2.1) M out.2.2.2 d) := by
  refine gx_beginW (by decide +kernel) (Nat.le_of_ble_eq_true rfl) ?_
  intro p e s m below meth c hx hb hr hml hown hlocks htab hV hZ hw ls hl
  have hown : s.vm.findClass RL = some m.cls := hown
  have hl : lv_has ls 3 [(0, .ref (G.2.1 44)), (1, .ref (G.2.1 68))] := hl
  unfold f_L_nextPlace at hF
  refine lv_aload_n (pc := 0) hx hb dL_nextPlace_0 rfl (lv_at hl 1 rfl) ?_
  refine lv_iconst (pc := 1) (v := 0) hx hb dL_nextPlace_1 (by decide) ?_
  refine lv_aload_n (pc := 2) hx hb dL_nextPlace_2 rfl (lv_at hl 0 rfl) ?_
  obtain ⟨uq_1, huq_1, hF⟩ := Option.bind_eq_some_iff.mp hF
  refine cx_X6_nextPlace (pc := 3) hl9 hx hb hml hown hV hZ hw huq_1 (gw_769 hV) hl.1 (Nat.le_of_ble_eq_true rfl) (Nat.le_of_ble_eq_true rfl) (Nat.le_of_ble_eq_true rfl) (by decide) (by decide) dL_nextPlace_3 (fun ui_3 ce uq8 H locs he hw h7 h8 h9 => ?_) (fun ur_2 H locs he hw => ?_)
  · rw [he] at hF
    have hF : (if ui_3 = 3 then (some (1, uq_1.2.1, uq_1.2.2, o)) else none) = some out := hF
    by_cases hi3 : ui_3 = 3
    · subst hi3
      rw [if_pos rfl] at hF
      refine vx_catch (own := RL) (name := "java/util/NoSuchElementException") (E := gx_en 3) (ce := ce) hown [] ⟨0, 8, 11, 47⟩ [] (htab.trans rfl) (fun _ h => nomatch h) (by decide) (by decide) (gw_672 hV) (gw_682 hV) h7 h8 h9 ?_
      refine lv_astore_n (pc := 11) (lv' := [(2, .ref uq8), (0, .ref (G.2.1 44)), (1, .ref (G.2.1 68))]) hx hb dL_nextPlace_11 rfl hl (by decide) rfl (fun ls hl => ?_)
      refine lv_iconst (pc := 12) (v := 1) hx hb dL_nextPlace_12 (by decide) ?_
      cases hF
      exact gx_iret hx hb hr hlocks hw dL_nextPlace_13
    rw [if_neg hi3] at hF
    cases hF
  rw [he] at hF
  have hF : (some (0, uq_1.2.1, uq_1.2.2, ur_2.toInt64)) = some out := hF
  refine lv_i2l (pc := 6) (v := ur_2.toInt64) hx hb dL_nextPlace_6 rfl ?_
  refine gx_last (pc := 7) hx hb hV hw dL_nextPlace_7 (fun H locs hw => ?_)
  refine lv_goto (pc := 8) (tgt := 14) hx hb dL_nextPlace_8 (by decide) ?_
  refine lv_iconst (pc := 14) (v := 0) hx hb dL_nextPlace_14 (by decide) ?_
  cases hF
  exact gx_iret hx hb hr hlocks hw dL_nextPlace_15
set_option maxRecDepth 100000 in
theorem cl_L_nextPlace {l : Launch} {G : gx_G} {M : gx_S} {o : Int64} {d : UInt64} {I V : gx_F} {p : Program} {e : Env} {R : Room} {s : State} {m : MethodId} {args : Array Value} {below : List Frame} {meth : Method} {c : Code} {H : Heap} {locs : List Loc} {cells slots : Nat} {Q : State → Prop} {cc : ByteArray} {pc nL index : Nat} {ls : Array Slot} {rest : List Value} {own : String} {out : (Int32 × gx_F × gx_F × Int64)} (hl9 : l.stackTraces = false) (hx : p.tables.exec = Jvm.exec) (hb : c.code = cc) (hml : c.maxLocals = nL) (hown : s.vm.findClass own = some m.cls) (hV : gx_V G s) (hZ : gx_Z G s s.heap) (hw : gx_at G (I, V) M o d s.heap H locs) (hF : f_L_nextPlace I V o = some out) (hlink : (Cond.methodLink own index yL_nextPlace).before args s = true) (hsz : ls.size = nL) (hfr : 8 ≤ R.frames) (hlo : 141 ≤ R.locals) (hrest : (rest.map fun v => v.category).sum ≤ 8) (hc : cells + 1 ≤ R.cells) (hs : slots + 6 ≤ R.slots) (hdg : decode cc pc = .ok (.invokestatic index, 3))
    (kk : ∀ (H1 : Heap) (locs1 : List Loc), gx_at G (out.2.1, out.2.2.1) M out.2.2.2 d s.heap H1 locs1 → W p l e R s m args below meth c H1 locs1 (cells + 1) (slots + 6) Q (F0 m (pc + 3) ls (.int out.1 :: rest))) : W p l e R s m args below meth c H locs cells slots Q (F0 m pc ls (.ref (G.2.1 68) :: .ref (G.2.1 44) :: rest)) :=
  gx_runi hw (vx_runSW (As := [.ref (G.2.1 44), .ref (G.2.1 68)]) (rest := rest) ⟨hx, hb, hml, hown, (fun _ h => nomatch h : ∀ w ∈ ([] : List Cond), w.before args s = true)⟩ (k_L_nextPlace hl9 hF) (gx_callW (n := 2) rfl rfl hlink (gw_48 hV) (gw_768 hV) (gw_767 hV) (by decide +kernel) ⟨hfr, hlo⟩) ⟨gx_blindX, fun U hU hW => ⟨rfl, gx_goX hV hZ hw U hU hW⟩⟩ rfl rfl hsz rfl (lv_room hrest) hdg ⟨hc, hs⟩) kk
noncomputable def f_L_nextBrick (I V : gx_F) (o : Int64) : Option (Int32 × gx_F × gx_F × Int64) := (Option.bind (f_X6_nextBrick I V) fun uq_1 => (gx_el uq_1.1 (fun ur_2 => (some (0, uq_1.2.1, uq_1.2.2, ur_2.toInt64))) (fun ui_3 => (if ui_3 = 3 then (some (1, uq_1.2.1, uq_1.2.2, o)) else none))))
set_option maxHeartbeats 4000000 in
set_option maxRecDepth 100000 in
theorem k_L_nextBrick {l : Launch} {G : gx_G} {M : gx_S} {o : Int64} {d : UInt64} {I V : gx_F} {out : (Int32 × gx_F × gx_F × Int64)} (hl9 : l.stackTraces = false) (hF : f_L_nextBrick I V o = some out) : gx_KW l yL_nextBrick cL_nextBrick 3 (some .int) [(0, 8, 11, 47)] { frames := 7, cells := 1, slots := 6, locals := 119 } [.ref (G.2.1 44), .ref (G.2.1 68)] G (I, V) M o d (gx_Qi G out.1 (out.2.1, out.2.2.1) M out.2.2.2 d) := by
  refine gx_beginW (by decide +kernel) (Nat.le_of_ble_eq_true rfl) ?_
  intro p e s m below meth c hx hb hr hml hown hlocks htab hV hZ hw ls hl
  have hown : s.vm.findClass RL = some m.cls := hown
  have hl : lv_has ls 3 [(0, .ref (G.2.1 44)), (1, .ref (G.2.1 68))] := hl
  unfold f_L_nextBrick at hF
  refine lv_aload_n (pc := 0) hx hb dL_nextBrick_0 rfl (lv_at hl 1 rfl) ?_
  refine lv_iconst (pc := 1) (v := 0) hx hb dL_nextBrick_1 (by decide) ?_
  refine lv_aload_n (pc := 2) hx hb dL_nextBrick_2 rfl (lv_at hl 0 rfl) ?_
  obtain ⟨uq_1, huq_1, hF⟩ := Option.bind_eq_some_iff.mp hF
  refine cx_X6_nextBrick (pc := 3) hl9 hx hb hml hown hV hZ hw huq_1 (gw_778 hV) hl.1 (Nat.le_of_ble_eq_true rfl) (Nat.le_of_ble_eq_true rfl) (Nat.le_of_ble_eq_true rfl) (by decide) (by decide) dL_nextBrick_3 (fun ui_3 ce uq8 H locs he hw h7 h8 h9 => ?_) (fun ur_2 H locs he hw => ?_)
  · rw [he] at hF
    have hF : (if ui_3 = 3 then (some (1, uq_1.2.1, uq_1.2.2, o)) else none) = some out := hF
    by_cases hi3 : ui_3 = 3
    · subst hi3
      rw [if_pos rfl] at hF
      refine vx_catch (own := RL) (name := "java/util/NoSuchElementException") (E := gx_en 3) (ce := ce) hown [] ⟨0, 8, 11, 47⟩ [] (htab.trans rfl) (fun _ h => nomatch h) (by decide) (by decide) (gw_672 hV) (gw_682 hV) h7 h8 h9 ?_
      refine lv_astore_n (pc := 11) (lv' := [(2, .ref uq8), (0, .ref (G.2.1 44)), (1, .ref (G.2.1 68))]) hx hb dL_nextBrick_11 rfl hl (by decide) rfl (fun ls hl => ?_)
      refine lv_iconst (pc := 12) (v := 1) hx hb dL_nextBrick_12 (by decide) ?_
      cases hF
      exact gx_iret hx hb hr hlocks hw dL_nextBrick_13
    rw [if_neg hi3] at hF
    cases hF
  rw [he] at hF
  have hF : (some (0, uq_1.2.1, uq_1.2.2, ur_2.toInt64)) = some out := hF
  refine lv_i2l (pc := 6) (v := ur_2.toInt64) hx hb dL_nextBrick_6 rfl ?_
  refine gx_last (pc := 7) hx hb hV hw dL_nextBrick_7 (fun H locs hw => ?_)
  refine lv_goto (pc := 8) (tgt := 14) hx hb dL_nextBrick_8 (by decide) ?_
  refine lv_iconst (pc := 14) (v := 0) hx hb dL_nextBrick_14 (by decide) ?_
  cases hF
  exact gx_iret hx hb hr hlocks hw dL_nextBrick_15
set_option maxRecDepth 100000 in
theorem cl_L_nextBrick {l : Launch} {G : gx_G} {M : gx_S} {o : Int64} {d : UInt64} {I V : gx_F} {p : Program} {e : Env} {R : Room} {s : State} {m : MethodId} {args : Array Value} {below : List Frame} {meth : Method} {c : Code} {H : Heap} {locs : List Loc} {cells slots : Nat} {Q : State → Prop} {cc : ByteArray} {pc nL index : Nat} {ls : Array Slot} {rest : List Value} {own : String} {out : (Int32 × gx_F × gx_F × Int64)} (hl9 : l.stackTraces = false) (hx : p.tables.exec = Jvm.exec) (hb : c.code = cc) (hml : c.maxLocals = nL) (hown : s.vm.findClass own = some m.cls) (hV : gx_V G s) (hZ : gx_Z G s s.heap) (hw : gx_at G (I, V) M o d s.heap H locs) (hF : f_L_nextBrick I V o = some out) (hlink : (Cond.methodLink own index yL_nextBrick).before args s = true) (hsz : ls.size = nL) (hfr : 8 ≤ R.frames) (hlo : 141 ≤ R.locals) (hrest : (rest.map fun v => v.category).sum ≤ 8) (hc : cells + 1 ≤ R.cells) (hs : slots + 6 ≤ R.slots) (hdg : decode cc pc = .ok (.invokestatic index, 3))
    (kk : ∀ (H1 : Heap) (locs1 : List Loc), gx_at G (out.2.1, out.2.2.1) M out.2.2.2 d s.heap H1 locs1 → W p l e R s m args below meth c H1 locs1 (cells + 1) (slots + 6) Q (F0 m (pc + 3) ls (.int out.1 :: rest))) : W p l e R s m args below meth c H locs cells slots Q (F0 m pc ls (.ref (G.2.1 68) :: .ref (G.2.1 44) :: rest)) :=
  gx_runi hw (vx_runSW (As := [.ref (G.2.1 44), .ref (G.2.1 68)]) (rest := rest) ⟨hx, hb, hml, hown, (fun _ h => nomatch h : ∀ w ∈ ([] : List Cond), w.before args s = true)⟩ (k_L_nextBrick hl9 hF) (gx_callW (n := 2) rfl rfl hlink (gw_48 hV) (gw_777 hV) (gw_776 hV) (by decide +kernel) ⟨hfr, hlo⟩) ⟨gx_blindX, fun U hU hW => ⟨rfl, gx_goX hV hZ hw U hU hW⟩⟩ rfl rfl hsz rfl (lv_room hrest) hdg ⟨hc, hs⟩) kk
noncomputable def f_L_choices (x1 : Int32) (I V : gx_F) (o : Int64) : Option (Int32 × gx_F × gx_F × Int64) := (Option.bind (f_X6_choices x1 I V) fun uq_1 => (gx_el uq_1.1 (fun ur_2 => (some (0, uq_1.2.1, uq_1.2.2, ur_2.toInt64))) (fun ui_3 => (if ui_3 = 1 then (some (1, uq_1.2.1, uq_1.2.2, o)) else (if ui_3 = 3 then (some (2, uq_1.2.1, uq_1.2.2, o)) else none)))))
set_option maxHeartbeats 4000000 in
set_option maxRecDepth 100000 in
theorem k_L_choices {l : Launch} {G : gx_G} {M : gx_S} {o : Int64} {d : UInt64} {I V : gx_F} {x1 : Int32} {out : (Int32 × gx_F × gx_F × Int64)} (hl9 : l.stackTraces = false) (hF : f_L_choices x1 I V o = some out) : gx_KW l yL_choices cL_choices 4 (some .int) [(0, 9, 12, 36), (0, 9, 15, 47)] { frames := 7, cells := 1, slots := 6, locals := 103 } [.ref (G.2.1 44), .int x1, .ref (G.2.1 68)] G (I, V) M o d (gx_Qi G out.1 (out.2.1, out.2.2.1) M out.2.2.2 d) := by
  refine gx_beginW (by decide +kernel) (Nat.le_of_ble_eq_true rfl) ?_
  intro p e s m below meth c hx hb hr hml hown hlocks htab hV hZ hw ls hl
  have hown : s.vm.findClass RL = some m.cls := hown
  have hl : lv_has ls 4 [(0, .ref (G.2.1 44)), (1, .int x1), (2, .ref (G.2.1 68))] := hl
  unfold f_L_choices at hF
  refine lv_aload_n (pc := 0) hx hb dL_choices_0 rfl (lv_at hl 2 rfl) ?_
  refine lv_iconst (pc := 1) (v := 0) hx hb dL_choices_1 (by decide) ?_
  refine lv_aload_n (pc := 2) hx hb dL_choices_2 rfl (lv_at hl 0 rfl) ?_
  refine lv_iload_n (pc := 3) hx hb dL_choices_3 rfl (lv_at hl 1 rfl) ?_
  obtain ⟨uq_1, huq_1, hF⟩ := Option.bind_eq_some_iff.mp hF
  refine cx_X6_choices (pc := 4) hl9 hx hb hml hown hV hZ hw huq_1 (gw_785 hV) hl.1 (Nat.le_of_ble_eq_true rfl) (Nat.le_of_ble_eq_true rfl) (Nat.le_of_ble_eq_true rfl) (by decide) (by decide) dL_choices_4 (fun ui_3 ce uq8 H locs he hw h7 h8 h9 => ?_) (fun ur_2 H locs he hw => ?_)
  · rw [he] at hF
    have hF : (if ui_3 = 1 then (some (1, uq_1.2.1, uq_1.2.2, o)) else (if ui_3 = 3 then (some (2, uq_1.2.1, uq_1.2.2, o)) else none)) = some out := hF
    by_cases hi1 : ui_3 = 1
    · subst hi1
      rw [if_pos rfl] at hF
      refine vx_catch (own := RL) (name := "java/lang/IndexOutOfBoundsException") (E := gx_en 1) (ce := ce) hown [] ⟨0, 9, 12, 36⟩ [⟨0, 9, 15, 47⟩] (htab.trans rfl) (fun _ h => nomatch h) (by decide) (by decide) (gw_599 hV) (gw_631 hV) h7 h8 h9 ?_
      refine lv_astore_n (pc := 12) (lv' := [(3, .ref uq8), (0, .ref (G.2.1 44)), (1, .int x1), (2, .ref (G.2.1 68))]) hx hb dL_choices_12 rfl hl (by decide) rfl (fun ls hl => ?_)
      refine lv_iconst (pc := 13) (v := 1) hx hb dL_choices_13 (by decide) ?_
      cases hF
      exact gx_iret hx hb hr hlocks hw dL_choices_14
    rw [if_neg hi1] at hF
    by_cases hi3 : ui_3 = 3
    · subst hi3
      rw [if_pos rfl] at hF
      refine vx_catch (own := RL) (name := "java/util/NoSuchElementException") (E := gx_en 3) (ce := ce) hown [⟨0, 9, 12, 36⟩] ⟨0, 9, 15, 47⟩ [] (htab.trans rfl) (List.forall_mem_cons.mpr ⟨Or.inr ⟨by decide, "java/lang/IndexOutOfBoundsException", gw_599 hV, hZ.2.2.2 _ (List.mem_of_getElem? (i := 1) rfl)⟩, (fun _ h => nomatch h)⟩) (by decide) (by decide) (gw_672 hV) (gw_682 hV) h7 h8 h9 ?_
      refine lv_astore_n (pc := 15) (lv' := [(3, .ref uq8), (0, .ref (G.2.1 44)), (1, .int x1), (2, .ref (G.2.1 68))]) hx hb dL_choices_15 rfl hl (by decide) rfl (fun ls hl => ?_)
      refine lv_iconst (pc := 16) (v := 2) hx hb dL_choices_16 (by decide) ?_
      cases hF
      exact gx_iret hx hb hr hlocks hw dL_choices_17
    rw [if_neg hi3] at hF
    cases hF
  rw [he] at hF
  have hF : (some (0, uq_1.2.1, uq_1.2.2, ur_2.toInt64)) = some out := hF
  refine lv_i2l (pc := 7) (v := ur_2.toInt64) hx hb dL_choices_7 rfl ?_
  refine gx_last (pc := 8) hx hb hV hw dL_choices_8 (fun H locs hw => ?_)
  refine lv_goto (pc := 9) (tgt := 18) hx hb dL_choices_9 (by decide) ?_
  refine lv_iconst (pc := 18) (v := 0) hx hb dL_choices_18 (by decide) ?_
  cases hF
  exact gx_iret hx hb hr hlocks hw dL_choices_19
set_option maxRecDepth 100000 in
theorem cl_L_choices {l : Launch} {G : gx_G} {M : gx_S} {o : Int64} {d : UInt64} {I V : gx_F} {p : Program} {e : Env} {R : Room} {s : State} {m : MethodId} {args : Array Value} {below : List Frame} {meth : Method} {c : Code} {H : Heap} {locs : List Loc} {cells slots : Nat} {Q : State → Prop} {cc : ByteArray} {pc nL index : Nat} {ls : Array Slot} {rest : List Value} {own : String} {x1 : Int32} {out : (Int32 × gx_F × gx_F × Int64)} (hl9 : l.stackTraces = false) (hx : p.tables.exec = Jvm.exec) (hb : c.code = cc) (hml : c.maxLocals = nL) (hown : s.vm.findClass own = some m.cls) (hV : gx_V G s) (hZ : gx_Z G s s.heap) (hw : gx_at G (I, V) M o d s.heap H locs) (hF : f_L_choices x1 I V o = some out) (hlink : (Cond.methodLink own index yL_choices).before args s = true) (hsz : ls.size = nL) (hfr : 8 ≤ R.frames) (hlo : 126 ≤ R.locals) (hrest : (rest.map fun v => v.category).sum ≤ 8) (hc : cells + 1 ≤ R.cells) (hs : slots + 6 ≤ R.slots) (hdg : decode cc pc = .ok (.invokestatic index, 3))
    (kk : ∀ (H1 : Heap) (locs1 : List Loc), gx_at G (out.2.1, out.2.2.1) M out.2.2.2 d s.heap H1 locs1 → W p l e R s m args below meth c H1 locs1 (cells + 1) (slots + 6) Q (F0 m (pc + 3) ls (.int out.1 :: rest))) : W p l e R s m args below meth c H locs cells slots Q (F0 m pc ls (.ref (G.2.1 68) :: .int x1 :: .ref (G.2.1 44) :: rest)) :=
  gx_runi hw (vx_runSW (As := [.ref (G.2.1 44), .int x1, .ref (G.2.1 68)]) (rest := rest) ⟨hx, hb, hml, hown, (fun _ h => nomatch h : ∀ w ∈ ([] : List Cond), w.before args s = true)⟩ (k_L_choices hl9 hF) (gx_callW (n := 3) rfl rfl hlink (gw_48 hV) (gw_784 hV) (gw_783 hV) (by decide +kernel) ⟨hfr, hlo⟩) ⟨gx_blindX, fun U hU hW => ⟨rfl, gx_goX hV hZ hw U hU hW⟩⟩ rfl rfl hsz rfl (lv_room hrest) hdg ⟨hc, hs⟩) kk
noncomputable def f_L_inRow (x1 : Int32) (x2 : Int32) (I V : gx_F) (o : Int64) : Option (Int32 × gx_F × gx_F × Int64) := (Option.bind (f_X6_inRow x1 x2 I V) fun uq_1 => (gx_el uq_1 (fun ur_2 => (some (0, I, V, ur_2.toInt64))) (fun ui_3 => (if ui_3 = 1 then (some (1, I, V, o)) else none))))
set_option maxHeartbeats 4000000 in
set_option maxRecDepth 100000 in
theorem k_L_inRow {l : Launch} {G : gx_G} {M : gx_S} {o : Int64} {d : UInt64} {I V : gx_F} {x1 : Int32} {x2 : Int32} {out : (Int32 × gx_F × gx_F × Int64)} (hl9 : l.stackTraces = false) (hF : f_L_inRow x1 x2 I V o = some out) : gx_KW l yL_inRow cL_inRow 5 (some .int) [(0, 10, 13, 36)] { frames := 7, cells := 1, slots := 6, locals := 107 } [.ref (G.2.1 44), .int x1, .int x2, .ref (G.2.1 68)] G (I, V) M o d (gx_Qi G out.1 (out.2.1, out.2.2.1) M out.2.2.2 d) := by
  refine gx_beginW (by decide +kernel) (Nat.le_of_ble_eq_true rfl) ?_
  intro p e s m below meth c hx hb hr hml hown hlocks htab hV hZ hw ls hl
  have hown : s.vm.findClass RL = some m.cls := hown
  have hl : lv_has ls 5 [(0, .ref (G.2.1 44)), (1, .int x1), (2, .int x2), (3, .ref (G.2.1 68))] := hl
  unfold f_L_inRow at hF
  refine lv_aload_n (pc := 0) hx hb dL_inRow_0 rfl (lv_at hl 3 rfl) ?_
  refine lv_iconst (pc := 1) (v := 0) hx hb dL_inRow_1 (by decide) ?_
  refine lv_aload_n (pc := 2) hx hb dL_inRow_2 rfl (lv_at hl 0 rfl) ?_
  refine lv_iload_n (pc := 3) hx hb dL_inRow_3 rfl (lv_at hl 1 rfl) ?_
  refine lv_iload_n (pc := 4) hx hb dL_inRow_4 rfl (lv_at hl 2 rfl) ?_
  obtain ⟨uq_1, huq_1, hF⟩ := Option.bind_eq_some_iff.mp hF
  refine cx_X6_inRow (pc := 5) hl9 hx hb hml hown hV hZ hw huq_1 (gw_796 hV) hl.1 (Nat.le_of_ble_eq_true rfl) (Nat.le_of_ble_eq_true rfl) (Nat.le_of_ble_eq_true rfl) (by decide) (by decide) dL_inRow_5 (fun ui_3 ce uq8 H locs he hw h7 h8 h9 => ?_) (fun ur_2 H locs he hw => ?_)
  · rw [he] at hF
    have hF : (if ui_3 = 1 then (some (1, I, V, o)) else none) = some out := hF
    by_cases hi1 : ui_3 = 1
    · subst hi1
      rw [if_pos rfl] at hF
      refine vx_catch (own := RL) (name := "java/lang/IndexOutOfBoundsException") (E := gx_en 1) (ce := ce) hown [] ⟨0, 10, 13, 36⟩ [] (htab.trans rfl) (fun _ h => nomatch h) (by decide) (by decide) (gw_599 hV) (gw_631 hV) h7 h8 h9 ?_
      refine lv_astore (pc := 13) (lv' := [(4, .ref uq8), (0, .ref (G.2.1 44)), (1, .int x1), (2, .int x2), (3, .ref (G.2.1 68))]) hx hb dL_inRow_13 hl (by decide) rfl (fun ls hl => ?_)
      refine lv_iconst (pc := 15) (v := 1) hx hb dL_inRow_15 (by decide) ?_
      cases hF
      exact gx_iret hx hb hr hlocks hw dL_inRow_16
    rw [if_neg hi1] at hF
    cases hF
  rw [he] at hF
  have hF : (some (0, I, V, ur_2.toInt64)) = some out := hF
  refine lv_i2l (pc := 8) (v := ur_2.toInt64) hx hb dL_inRow_8 rfl ?_
  refine gx_last (pc := 9) hx hb hV hw dL_inRow_9 (fun H locs hw => ?_)
  refine lv_goto (pc := 10) (tgt := 17) hx hb dL_inRow_10 (by decide) ?_
  refine lv_iconst (pc := 17) (v := 0) hx hb dL_inRow_17 (by decide) ?_
  cases hF
  exact gx_iret hx hb hr hlocks hw dL_inRow_18
set_option maxRecDepth 100000 in
theorem cl_L_inRow {l : Launch} {G : gx_G} {M : gx_S} {o : Int64} {d : UInt64} {I V : gx_F} {p : Program} {e : Env} {R : Room} {s : State} {m : MethodId} {args : Array Value} {below : List Frame} {meth : Method} {c : Code} {H : Heap} {locs : List Loc} {cells slots : Nat} {Q : State → Prop} {cc : ByteArray} {pc nL index : Nat} {ls : Array Slot} {rest : List Value} {own : String} {x1 : Int32} {x2 : Int32} {out : (Int32 × gx_F × gx_F × Int64)} (hl9 : l.stackTraces = false) (hx : p.tables.exec = Jvm.exec) (hb : c.code = cc) (hml : c.maxLocals = nL) (hown : s.vm.findClass own = some m.cls) (hV : gx_V G s) (hZ : gx_Z G s s.heap) (hw : gx_at G (I, V) M o d s.heap H locs) (hF : f_L_inRow x1 x2 I V o = some out) (hlink : (Cond.methodLink own index yL_inRow).before args s = true) (hsz : ls.size = nL) (hfr : 8 ≤ R.frames) (hlo : 131 ≤ R.locals) (hrest : (rest.map fun v => v.category).sum ≤ 8) (hc : cells + 1 ≤ R.cells) (hs : slots + 6 ≤ R.slots) (hdg : decode cc pc = .ok (.invokestatic index, 3))
    (kk : ∀ (H1 : Heap) (locs1 : List Loc), gx_at G (out.2.1, out.2.2.1) M out.2.2.2 d s.heap H1 locs1 → W p l e R s m args below meth c H1 locs1 (cells + 1) (slots + 6) Q (F0 m (pc + 3) ls (.int out.1 :: rest))) : W p l e R s m args below meth c H locs cells slots Q (F0 m pc ls (.ref (G.2.1 68) :: .int x2 :: .int x1 :: .ref (G.2.1 44) :: rest)) :=
  gx_runi hw (vx_runSW (As := [.ref (G.2.1 44), .int x1, .int x2, .ref (G.2.1 68)]) (rest := rest) ⟨hx, hb, hml, hown, (fun _ h => nomatch h : ∀ w ∈ ([] : List Cond), w.before args s = true)⟩ (k_L_inRow hl9 hF) (gx_callW (n := 4) rfl rfl hlink (gw_48 hV) (gw_795 hV) (gw_794 hV) (by decide +kernel) ⟨hfr, hlo⟩) ⟨gx_blindX, fun U hU hW => ⟨rfl, gx_goX hV hZ hw U hU hW⟩⟩ rfl rfl hsz rfl (lv_room hrest) hdg ⟨hc, hs⟩) kk
noncomputable def f_L_weakest (x1 : Int32) (I V : gx_F) (o : Int64) : Option (Int32 × gx_F × gx_F × Int64) := (Option.bind (f_X6_weakest x1 I V) fun uq_1 => (gx_el uq_1 (fun ur_2 => (some (0, I, V, ur_2.toInt64))) (fun ui_3 => (if ui_3 = 3 then (some (1, I, V, o)) else none))))
set_option maxHeartbeats 4000000 in
set_option maxRecDepth 100000 in
theorem k_L_weakest {l : Launch} {G : gx_G} {M : gx_S} {o : Int64} {d : UInt64} {I V : gx_F} {x1 : Int32} {out : (Int32 × gx_F × gx_F × Int64)} (hl9 : l.stackTraces = false) (hF : f_L_weakest x1 I V o = some out) : gx_KW l yL_weakest cL_weakest 4 (some .int) [(0, 9, 12, 47)] { frames := 7, cells := 1, slots := 6, locals := 117 } [.ref (G.2.1 44), .int x1, .ref (G.2.1 68)] G (I, V) M o d (gx_Qi G out.1 (out.2.1, out.2.2.1) M out.2.2.2 d) := by
  refine gx_beginW (by decide +kernel) (Nat.le_of_ble_eq_true rfl) ?_
  intro p e s m below meth c hx hb hr hml hown hlocks htab hV hZ hw ls hl
  have hown : s.vm.findClass RL = some m.cls := hown
  have hl : lv_has ls 4 [(0, .ref (G.2.1 44)), (1, .int x1), (2, .ref (G.2.1 68))] := hl
  unfold f_L_weakest at hF
  refine lv_aload_n (pc := 0) hx hb dL_weakest_0 rfl (lv_at hl 2 rfl) ?_
  refine lv_iconst (pc := 1) (v := 0) hx hb dL_weakest_1 (by decide) ?_
  refine lv_aload_n (pc := 2) hx hb dL_weakest_2 rfl (lv_at hl 0 rfl) ?_
  refine lv_iload_n (pc := 3) hx hb dL_weakest_3 rfl (lv_at hl 1 rfl) ?_
  obtain ⟨uq_1, huq_1, hF⟩ := Option.bind_eq_some_iff.mp hF
  refine cx_X6_weakest (pc := 4) hl9 hx hb hml hown hV hZ hw huq_1 (gw_804 hV) hl.1 (Nat.le_of_ble_eq_true rfl) (Nat.le_of_ble_eq_true rfl) (Nat.le_of_ble_eq_true rfl) (by decide) (by decide) dL_weakest_4 (fun ui_3 ce uq8 H locs he hw h7 h8 h9 => ?_) (fun ur_2 H locs he hw => ?_)
  · rw [he] at hF
    have hF : (if ui_3 = 3 then (some (1, I, V, o)) else none) = some out := hF
    by_cases hi3 : ui_3 = 3
    · subst hi3
      rw [if_pos rfl] at hF
      refine vx_catch (own := RL) (name := "java/util/NoSuchElementException") (E := gx_en 3) (ce := ce) hown [] ⟨0, 9, 12, 47⟩ [] (htab.trans rfl) (fun _ h => nomatch h) (by decide) (by decide) (gw_672 hV) (gw_682 hV) h7 h8 h9 ?_
      refine lv_astore_n (pc := 12) (lv' := [(3, .ref uq8), (0, .ref (G.2.1 44)), (1, .int x1), (2, .ref (G.2.1 68))]) hx hb dL_weakest_12 rfl hl (by decide) rfl (fun ls hl => ?_)
      refine lv_iconst (pc := 13) (v := 1) hx hb dL_weakest_13 (by decide) ?_
      cases hF
      exact gx_iret hx hb hr hlocks hw dL_weakest_14
    rw [if_neg hi3] at hF
    cases hF
  rw [he] at hF
  have hF : (some (0, I, V, ur_2.toInt64)) = some out := hF
  refine lv_i2l (pc := 7) (v := ur_2.toInt64) hx hb dL_weakest_7 rfl ?_
  refine gx_last (pc := 8) hx hb hV hw dL_weakest_8 (fun H locs hw => ?_)
  refine lv_goto (pc := 9) (tgt := 15) hx hb dL_weakest_9 (by decide) ?_
  refine lv_iconst (pc := 15) (v := 0) hx hb dL_weakest_15 (by decide) ?_
  cases hF
  exact gx_iret hx hb hr hlocks hw dL_weakest_16
set_option maxRecDepth 100000 in
theorem cl_L_weakest {l : Launch} {G : gx_G} {M : gx_S} {o : Int64} {d : UInt64} {I V : gx_F} {p : Program} {e : Env} {R : Room} {s : State} {m : MethodId} {args : Array Value} {below : List Frame} {meth : Method} {c : Code} {H : Heap} {locs : List Loc} {cells slots : Nat} {Q : State → Prop} {cc : ByteArray} {pc nL index : Nat} {ls : Array Slot} {rest : List Value} {own : String} {x1 : Int32} {out : (Int32 × gx_F × gx_F × Int64)} (hl9 : l.stackTraces = false) (hx : p.tables.exec = Jvm.exec) (hb : c.code = cc) (hml : c.maxLocals = nL) (hown : s.vm.findClass own = some m.cls) (hV : gx_V G s) (hZ : gx_Z G s s.heap) (hw : gx_at G (I, V) M o d s.heap H locs) (hF : f_L_weakest x1 I V o = some out) (hlink : (Cond.methodLink own index yL_weakest).before args s = true) (hsz : ls.size = nL) (hfr : 8 ≤ R.frames) (hlo : 140 ≤ R.locals) (hrest : (rest.map fun v => v.category).sum ≤ 8) (hc : cells + 1 ≤ R.cells) (hs : slots + 6 ≤ R.slots) (hdg : decode cc pc = .ok (.invokestatic index, 3))
    (kk : ∀ (H1 : Heap) (locs1 : List Loc), gx_at G (out.2.1, out.2.2.1) M out.2.2.2 d s.heap H1 locs1 → W p l e R s m args below meth c H1 locs1 (cells + 1) (slots + 6) Q (F0 m (pc + 3) ls (.int out.1 :: rest))) : W p l e R s m args below meth c H locs cells slots Q (F0 m pc ls (.ref (G.2.1 68) :: .int x1 :: .ref (G.2.1 44) :: rest)) :=
  gx_runi hw (vx_runSW (As := [.ref (G.2.1 44), .int x1, .ref (G.2.1 68)]) (rest := rest) ⟨hx, hb, hml, hown, (fun _ h => nomatch h : ∀ w ∈ ([] : List Cond), w.before args s = true)⟩ (k_L_weakest hl9 hF) (gx_callW (n := 3) rfl rfl hlink (gw_48 hV) (gw_803 hV) (gw_802 hV) (by decide +kernel) ⟨hfr, hlo⟩) ⟨gx_blindX, fun U hU hW => ⟨rfl, gx_goX hV hZ hw U hU hW⟩⟩ rfl rfl hsz rfl (lv_room hrest) hdg ⟨hc, hs⟩) kk
noncomputable def f_L_append (x1 : Int32) (I V : gx_F) (o : Int64) : Option (Int32 × gx_F × gx_F × Int64) := (Option.bind (f_X6_append x1 I V) fun uq_1 => (gx_el uq_1.1 (fun ur_2 => (some (0, uq_1.2.1, uq_1.2.2, ur_2.toInt64))) (fun ui_3 => (if ui_3 = 4 then (some (1, uq_1.2.1, uq_1.2.2, o)) else none))))
set_option maxHeartbeats 4000000 in
set_option maxRecDepth 100000 in
theorem k_L_append {l : Launch} {G : gx_G} {M : gx_S} {o : Int64} {d : UInt64} {I V : gx_F} {x1 : Int32} {out : (Int32 × gx_F × gx_F × Int64)} (hl9 : l.stackTraces = false) (hF : f_L_append x1 I V o = some out) : gx_KW l yL_append cL_append 4 (some .int) [(0, 9, 12, 91)] { frames := 7, cells := 1, slots := 6, locals := 103 } [.ref (G.2.1 44), .int x1, .ref (G.2.1 68)] G (I, V) M o d (gx_Qi G out.1 (out.2.1, out.2.2.1) M out.2.2.2 d) := by
  refine gx_beginW (by decide +kernel) (Nat.le_of_ble_eq_true rfl) ?_
  intro p e s m below meth c hx hb hr hml hown hlocks htab hV hZ hw ls hl
  have hown : s.vm.findClass RL = some m.cls := hown
  have hl : lv_has ls 4 [(0, .ref (G.2.1 44)), (1, .int x1), (2, .ref (G.2.1 68))] := hl
  unfold f_L_append at hF
  refine lv_aload_n (pc := 0) hx hb dL_append_0 rfl (lv_at hl 2 rfl) ?_
  refine lv_iconst (pc := 1) (v := 0) hx hb dL_append_1 (by decide) ?_
  refine lv_aload_n (pc := 2) hx hb dL_append_2 rfl (lv_at hl 0 rfl) ?_
  refine lv_iload_n (pc := 3) hx hb dL_append_3 rfl (lv_at hl 1 rfl) ?_
  obtain ⟨uq_1, huq_1, hF⟩ := Option.bind_eq_some_iff.mp hF
  refine cx_X6_append (pc := 4) hl9 hx hb hml hown hV hZ hw huq_1 (gw_817 hV) hl.1 (Nat.le_of_ble_eq_true rfl) (Nat.le_of_ble_eq_true rfl) (Nat.le_of_ble_eq_true rfl) (by decide) (by decide) dL_append_4 (fun ui_3 ce uq8 H locs he hw h7 h8 h9 => ?_) (fun ur_2 H locs he hw => ?_)
  · rw [he] at hF
    have hF : (if ui_3 = 4 then (some (1, uq_1.2.1, uq_1.2.2, o)) else none) = some out := hF
    by_cases hi4 : ui_3 = 4
    · subst hi4
      rw [if_pos rfl] at hF
      refine vx_catch (own := RL) (name := "java/lang/IllegalStateException") (E := gx_en 4) (ce := ce) hown [] ⟨0, 9, 12, 91⟩ [] (htab.trans rfl) (fun _ h => nomatch h) (by decide) (by decide) (gw_816 hV) (gw_827 hV) h7 h8 h9 ?_
      refine lv_astore_n (pc := 12) (lv' := [(3, .ref uq8), (0, .ref (G.2.1 44)), (1, .int x1), (2, .ref (G.2.1 68))]) hx hb dL_append_12 rfl hl (by decide) rfl (fun ls hl => ?_)
      refine lv_iconst (pc := 13) (v := 1) hx hb dL_append_13 (by decide) ?_
      cases hF
      exact gx_iret hx hb hr hlocks hw dL_append_14
    rw [if_neg hi4] at hF
    cases hF
  rw [he] at hF
  have hF : (some (0, uq_1.2.1, uq_1.2.2, ur_2.toInt64)) = some out := hF
  refine lv_i2l (pc := 7) (v := ur_2.toInt64) hx hb dL_append_7 rfl ?_
  refine gx_last (pc := 8) hx hb hV hw dL_append_8 (fun H locs hw => ?_)
  refine lv_goto (pc := 9) (tgt := 15) hx hb dL_append_9 (by decide) ?_
  refine lv_iconst (pc := 15) (v := 0) hx hb dL_append_15 (by decide) ?_
  cases hF
  exact gx_iret hx hb hr hlocks hw dL_append_16
set_option maxRecDepth 100000 in
theorem cl_L_append {l : Launch} {G : gx_G} {M : gx_S} {o : Int64} {d : UInt64} {I V : gx_F} {p : Program} {e : Env} {R : Room} {s : State} {m : MethodId} {args : Array Value} {below : List Frame} {meth : Method} {c : Code} {H : Heap} {locs : List Loc} {cells slots : Nat} {Q : State → Prop} {cc : ByteArray} {pc nL index : Nat} {ls : Array Slot} {rest : List Value} {own : String} {x1 : Int32} {out : (Int32 × gx_F × gx_F × Int64)} (hl9 : l.stackTraces = false) (hx : p.tables.exec = Jvm.exec) (hb : c.code = cc) (hml : c.maxLocals = nL) (hown : s.vm.findClass own = some m.cls) (hV : gx_V G s) (hZ : gx_Z G s s.heap) (hw : gx_at G (I, V) M o d s.heap H locs) (hF : f_L_append x1 I V o = some out) (hlink : (Cond.methodLink own index yL_append).before args s = true) (hsz : ls.size = nL) (hfr : 8 ≤ R.frames) (hlo : 126 ≤ R.locals) (hrest : (rest.map fun v => v.category).sum ≤ 8) (hc : cells + 1 ≤ R.cells) (hs : slots + 6 ≤ R.slots) (hdg : decode cc pc = .ok (.invokestatic index, 3))
    (kk : ∀ (H1 : Heap) (locs1 : List Loc), gx_at G (out.2.1, out.2.2.1) M out.2.2.2 d s.heap H1 locs1 → W p l e R s m args below meth c H1 locs1 (cells + 1) (slots + 6) Q (F0 m (pc + 3) ls (.int out.1 :: rest))) : W p l e R s m args below meth c H locs cells slots Q (F0 m pc ls (.ref (G.2.1 68) :: .int x1 :: .ref (G.2.1 44) :: rest)) :=
  gx_runi hw (vx_runSW (As := [.ref (G.2.1 44), .int x1, .ref (G.2.1 68)]) (rest := rest) ⟨hx, hb, hml, hown, (fun _ h => nomatch h : ∀ w ∈ ([] : List Cond), w.before args s = true)⟩ (k_L_append hl9 hF) (gx_callW (n := 3) rfl rfl hlink (gw_48 hV) (gw_815 hV) (gw_814 hV) (by decide +kernel) ⟨hfr, hlo⟩) ⟨gx_blindX, fun U hU hW => ⟨rfl, gx_goX hV hZ hw U hU hW⟩⟩ rfl rfl hsz rfl (lv_room hrest) hdg ⟨hc, hs⟩) kk
noncomputable def f_L_commands (I V : gx_F) (o : Int64) : Option (Int32 × gx_F × gx_F × Int64) := (Option.bind (f_X6_commands I V) fun uq_1 => (gx_el uq_1.1 (fun ur_2 => (some (0, uq_1.2.1, uq_1.2.2, ur_2.toInt64))) (fun ui_3 => (if ui_3 = 2 then (some (1, uq_1.2.1, uq_1.2.2, o)) else (if ui_3 = 0 then (some (2, uq_1.2.1, uq_1.2.2, o)) else none)))))
set_option maxHeartbeats 4000000 in
set_option maxRecDepth 100000 in
theorem k_L_commands {l : Launch} {G : gx_G} {M : gx_S} {o : Int64} {d : UInt64} {I V : gx_F} {out : (Int32 × gx_F × gx_F × Int64)} (hl9 : l.stackTraces = false) (hF : f_L_commands I V o = some out) : gx_KW l yL_commands cL_commands 3 (some .int) [(0, 8, 11, 38), (0, 8, 14, 13)] { frames := 8, cells := 1, slots := 6, locals := 191 } [.ref (G.2.1 44), .ref (G.2.1 68)] G (I, V) M o d (gx_Qi G out.1 (out.2.1, out.2.2.1) M out.2.2.2 d) := by
  refine gx_beginW (by decide +kernel) (Nat.le_of_ble_eq_true rfl) ?_
  intro p e s m below meth c hx hb hr hml hown hlocks htab hV hZ hw ls hl
  have hown : s.vm.findClass RL = some m.cls := hown
  have hl : lv_has ls 3 [(0, .ref (G.2.1 44)), (1, .ref (G.2.1 68))] := hl
  unfold f_L_commands at hF
  refine lv_aload_n (pc := 0) hx hb dL_commands_0 rfl (lv_at hl 1 rfl) ?_
  refine lv_iconst (pc := 1) (v := 0) hx hb dL_commands_1 (by decide) ?_
  refine lv_aload_n (pc := 2) hx hb dL_commands_2 rfl (lv_at hl 0 rfl) ?_
  obtain ⟨uq_1, huq_1, hF⟩ := Option.bind_eq_some_iff.mp hF
  refine cx_X6_commands (pc := 3) hl9 hx hb hml hown hV hZ hw huq_1 (gw_849 hV) hl.1 (Nat.le_of_ble_eq_true rfl) (Nat.le_of_ble_eq_true rfl) (Nat.le_of_ble_eq_true rfl) (by decide) (by decide) dL_commands_3 (fun ui_3 ce uq8 H locs he hw h7 h8 h9 => ?_) (fun ur_2 H locs he hw => ?_)
  · rw [he] at hF
    have hF : (if ui_3 = 2 then (some (1, uq_1.2.1, uq_1.2.2, o)) else (if ui_3 = 0 then (some (2, uq_1.2.1, uq_1.2.2, o)) else none)) = some out := hF
    by_cases hi2 : ui_3 = 2
    · subst hi2
      rw [if_pos rfl] at hF
      refine vx_catch (own := RL) (name := "java/lang/IllegalArgumentException") (E := gx_en 2) (ce := ce) hown [] ⟨0, 8, 11, 38⟩ [⟨0, 8, 14, 13⟩] (htab.trans rfl) (fun _ h => nomatch h) (by decide) (by decide) (gw_623 hV) (gw_645 hV) h7 h8 h9 ?_
      refine lv_astore_n (pc := 11) (lv' := [(2, .ref uq8), (0, .ref (G.2.1 44)), (1, .ref (G.2.1 68))]) hx hb dL_commands_11 rfl hl (by decide) rfl (fun ls hl => ?_)
      refine lv_iconst (pc := 12) (v := 1) hx hb dL_commands_12 (by decide) ?_
      cases hF
      exact gx_iret hx hb hr hlocks hw dL_commands_13
    rw [if_neg hi2] at hF
    by_cases hi0 : ui_3 = 0
    · subst hi0
      rw [if_pos rfl] at hF
      refine vx_catch (own := RL) (name := "java/lang/UnsupportedOperationException") (E := gx_en 0) (ce := ce) hown [⟨0, 8, 11, 38⟩] ⟨0, 8, 14, 13⟩ [] (htab.trans rfl) (List.forall_mem_cons.mpr ⟨Or.inr ⟨by decide, "java/lang/IllegalArgumentException", gw_623 hV, hZ.2.2.2 _ (List.mem_of_getElem? (i := 3) rfl)⟩, (fun _ h => nomatch h)⟩) (by decide) (by decide) (gw_400 hV) (gw_430 hV) h7 h8 h9 ?_
      refine lv_astore_n (pc := 14) (lv' := [(2, .ref uq8), (0, .ref (G.2.1 44)), (1, .ref (G.2.1 68))]) hx hb dL_commands_14 rfl hl (by decide) rfl (fun ls hl => ?_)
      refine lv_iconst (pc := 15) (v := 2) hx hb dL_commands_15 (by decide) ?_
      cases hF
      exact gx_iret hx hb hr hlocks hw dL_commands_16
    rw [if_neg hi0] at hF
    cases hF
  rw [he] at hF
  have hF : (some (0, uq_1.2.1, uq_1.2.2, ur_2.toInt64)) = some out := hF
  refine lv_i2l (pc := 6) (v := ur_2.toInt64) hx hb dL_commands_6 rfl ?_
  refine gx_last (pc := 7) hx hb hV hw dL_commands_7 (fun H locs hw => ?_)
  refine lv_goto (pc := 8) (tgt := 17) hx hb dL_commands_8 (by decide) ?_
  refine lv_iconst (pc := 17) (v := 0) hx hb dL_commands_17 (by decide) ?_
  cases hF
  exact gx_iret hx hb hr hlocks hw dL_commands_18
set_option maxRecDepth 100000 in
theorem cl_L_commands {l : Launch} {G : gx_G} {M : gx_S} {o : Int64} {d : UInt64} {I V : gx_F} {p : Program} {e : Env} {R : Room} {s : State} {m : MethodId} {args : Array Value} {below : List Frame} {meth : Method} {c : Code} {H : Heap} {locs : List Loc} {cells slots : Nat} {Q : State → Prop} {cc : ByteArray} {pc nL index : Nat} {ls : Array Slot} {rest : List Value} {own : String} {out : (Int32 × gx_F × gx_F × Int64)} (hl9 : l.stackTraces = false) (hx : p.tables.exec = Jvm.exec) (hb : c.code = cc) (hml : c.maxLocals = nL) (hown : s.vm.findClass own = some m.cls) (hV : gx_V G s) (hZ : gx_Z G s s.heap) (hw : gx_at G (I, V) M o d s.heap H locs) (hF : f_L_commands I V o = some out) (hlink : (Cond.methodLink own index yL_commands).before args s = true) (hsz : ls.size = nL) (hfr : 9 ≤ R.frames) (hlo : 213 ≤ R.locals) (hrest : (rest.map fun v => v.category).sum ≤ 8) (hc : cells + 1 ≤ R.cells) (hs : slots + 6 ≤ R.slots) (hdg : decode cc pc = .ok (.invokestatic index, 3))
    (kk : ∀ (H1 : Heap) (locs1 : List Loc), gx_at G (out.2.1, out.2.2.1) M out.2.2.2 d s.heap H1 locs1 → W p l e R s m args below meth c H1 locs1 (cells + 1) (slots + 6) Q (F0 m (pc + 3) ls (.int out.1 :: rest))) : W p l e R s m args below meth c H locs cells slots Q (F0 m pc ls (.ref (G.2.1 68) :: .ref (G.2.1 44) :: rest)) :=
  gx_runi hw (vx_runSW (As := [.ref (G.2.1 44), .ref (G.2.1 68)]) (rest := rest) ⟨hx, hb, hml, hown, (fun _ h => nomatch h : ∀ w ∈ ([] : List Cond), w.before args s = true)⟩ (k_L_commands hl9 hF) (gx_callW (n := 2) rfl rfl hlink (gw_48 hV) (gw_848 hV) (gw_847 hV) (by decide +kernel) ⟨hfr, hlo⟩) ⟨gx_blindX, fun U hU hW => ⟨rfl, gx_goX hV hZ hw U hU hW⟩⟩ rfl rfl hsz rfl (lv_room hrest) hdg ⟨hc, hs⟩) kk
noncomputable def f_L_reason (x1 : Int32) (I V : gx_F) (o : Int64) : Option (Int32 × gx_F × gx_F × Int64) := (Option.bind (f_X6_reason x1 I V) fun uq_1 => (gx_el uq_1 (fun ur_2 => (some (0, I, V, ur_2.toInt64))) (fun ui_3 => (if ui_3 = 2 then (some (1, I, V, o)) else (if ui_3 = 3 then (some (2, I, V, o)) else none)))))
set_option maxHeartbeats 4000000 in
set_option maxRecDepth 100000 in
theorem k_L_reason {l : Launch} {G : gx_G} {M : gx_S} {o : Int64} {d : UInt64} {I V : gx_F} {x1 : Int32} {out : (Int32 × gx_F × gx_F × Int64)} (hl9 : l.stackTraces = false) (hF : f_L_reason x1 I V o = some out) : gx_KW l yL_reason cL_reason 4 (some .int) [(0, 9, 12, 38), (0, 9, 15, 47)] { frames := 7, cells := 1, slots := 6, locals := 103 } [.ref (G.2.1 44), .int x1, .ref (G.2.1 68)] G (I, V) M o d (gx_Qi G out.1 (out.2.1, out.2.2.1) M out.2.2.2 d) := by
  refine gx_beginW (by decide +kernel) (Nat.le_of_ble_eq_true rfl) ?_
  intro p e s m below meth c hx hb hr hml hown hlocks htab hV hZ hw ls hl
  have hown : s.vm.findClass RL = some m.cls := hown
  have hl : lv_has ls 4 [(0, .ref (G.2.1 44)), (1, .int x1), (2, .ref (G.2.1 68))] := hl
  unfold f_L_reason at hF
  refine lv_aload_n (pc := 0) hx hb dL_reason_0 rfl (lv_at hl 2 rfl) ?_
  refine lv_iconst (pc := 1) (v := 0) hx hb dL_reason_1 (by decide) ?_
  refine lv_aload_n (pc := 2) hx hb dL_reason_2 rfl (lv_at hl 0 rfl) ?_
  refine lv_iload_n (pc := 3) hx hb dL_reason_3 rfl (lv_at hl 1 rfl) ?_
  obtain ⟨uq_1, huq_1, hF⟩ := Option.bind_eq_some_iff.mp hF
  refine cx_X6_reason (pc := 4) hl9 hx hb hml hown hV hZ hw huq_1 (gw_911 hV) hl.1 (Nat.le_of_ble_eq_true rfl) (Nat.le_of_ble_eq_true rfl) (Nat.le_of_ble_eq_true rfl) (by decide) (by decide) dL_reason_4 (fun ui_3 ce uq8 H locs he hw h7 h8 h9 => ?_) (fun ur_2 H locs he hw => ?_)
  · rw [he] at hF
    have hF : (if ui_3 = 2 then (some (1, I, V, o)) else (if ui_3 = 3 then (some (2, I, V, o)) else none)) = some out := hF
    by_cases hi2 : ui_3 = 2
    · subst hi2
      rw [if_pos rfl] at hF
      refine vx_catch (own := RL) (name := "java/lang/IllegalArgumentException") (E := gx_en 2) (ce := ce) hown [] ⟨0, 9, 12, 38⟩ [⟨0, 9, 15, 47⟩] (htab.trans rfl) (fun _ h => nomatch h) (by decide) (by decide) (gw_623 hV) (gw_645 hV) h7 h8 h9 ?_
      refine lv_astore_n (pc := 12) (lv' := [(3, .ref uq8), (0, .ref (G.2.1 44)), (1, .int x1), (2, .ref (G.2.1 68))]) hx hb dL_reason_12 rfl hl (by decide) rfl (fun ls hl => ?_)
      refine lv_iconst (pc := 13) (v := 1) hx hb dL_reason_13 (by decide) ?_
      cases hF
      exact gx_iret hx hb hr hlocks hw dL_reason_14
    rw [if_neg hi2] at hF
    by_cases hi3 : ui_3 = 3
    · subst hi3
      rw [if_pos rfl] at hF
      refine vx_catch (own := RL) (name := "java/util/NoSuchElementException") (E := gx_en 3) (ce := ce) hown [⟨0, 9, 12, 38⟩] ⟨0, 9, 15, 47⟩ [] (htab.trans rfl) (List.forall_mem_cons.mpr ⟨Or.inr ⟨by decide, "java/lang/IllegalArgumentException", gw_623 hV, hZ.2.2.2 _ (List.mem_of_getElem? (i := 2) rfl)⟩, (fun _ h => nomatch h)⟩) (by decide) (by decide) (gw_672 hV) (gw_682 hV) h7 h8 h9 ?_
      refine lv_astore_n (pc := 15) (lv' := [(3, .ref uq8), (0, .ref (G.2.1 44)), (1, .int x1), (2, .ref (G.2.1 68))]) hx hb dL_reason_15 rfl hl (by decide) rfl (fun ls hl => ?_)
      refine lv_iconst (pc := 16) (v := 2) hx hb dL_reason_16 (by decide) ?_
      cases hF
      exact gx_iret hx hb hr hlocks hw dL_reason_17
    rw [if_neg hi3] at hF
    cases hF
  rw [he] at hF
  have hF : (some (0, I, V, ur_2.toInt64)) = some out := hF
  refine lv_i2l (pc := 7) (v := ur_2.toInt64) hx hb dL_reason_7 rfl ?_
  refine gx_last (pc := 8) hx hb hV hw dL_reason_8 (fun H locs hw => ?_)
  refine lv_goto (pc := 9) (tgt := 18) hx hb dL_reason_9 (by decide) ?_
  refine lv_iconst (pc := 18) (v := 0) hx hb dL_reason_18 (by decide) ?_
  cases hF
  exact gx_iret hx hb hr hlocks hw dL_reason_19
set_option maxRecDepth 100000 in
theorem cl_L_reason {l : Launch} {G : gx_G} {M : gx_S} {o : Int64} {d : UInt64} {I V : gx_F} {p : Program} {e : Env} {R : Room} {s : State} {m : MethodId} {args : Array Value} {below : List Frame} {meth : Method} {c : Code} {H : Heap} {locs : List Loc} {cells slots : Nat} {Q : State → Prop} {cc : ByteArray} {pc nL index : Nat} {ls : Array Slot} {rest : List Value} {own : String} {x1 : Int32} {out : (Int32 × gx_F × gx_F × Int64)} (hl9 : l.stackTraces = false) (hx : p.tables.exec = Jvm.exec) (hb : c.code = cc) (hml : c.maxLocals = nL) (hown : s.vm.findClass own = some m.cls) (hV : gx_V G s) (hZ : gx_Z G s s.heap) (hw : gx_at G (I, V) M o d s.heap H locs) (hF : f_L_reason x1 I V o = some out) (hlink : (Cond.methodLink own index yL_reason).before args s = true) (hsz : ls.size = nL) (hfr : 8 ≤ R.frames) (hlo : 126 ≤ R.locals) (hrest : (rest.map fun v => v.category).sum ≤ 8) (hc : cells + 1 ≤ R.cells) (hs : slots + 6 ≤ R.slots) (hdg : decode cc pc = .ok (.invokestatic index, 3))
    (kk : ∀ (H1 : Heap) (locs1 : List Loc), gx_at G (out.2.1, out.2.2.1) M out.2.2.2 d s.heap H1 locs1 → W p l e R s m args below meth c H1 locs1 (cells + 1) (slots + 6) Q (F0 m (pc + 3) ls (.int out.1 :: rest))) : W p l e R s m args below meth c H locs cells slots Q (F0 m pc ls (.ref (G.2.1 68) :: .int x1 :: .ref (G.2.1 44) :: rest)) :=
  gx_runi hw (vx_runSW (As := [.ref (G.2.1 44), .int x1, .ref (G.2.1 68)]) (rest := rest) ⟨hx, hb, hml, hown, (fun _ h => nomatch h : ∀ w ∈ ([] : List Cond), w.before args s = true)⟩ (k_L_reason hl9 hF) (gx_callW (n := 3) rfl rfl hlink (gw_48 hV) (gw_910 hV) (gw_909 hV) (by decide +kernel) ⟨hfr, hlo⟩) ⟨gx_blindX, fun U hU hW => ⟨rfl, gx_goX hV hZ hw U hU hW⟩⟩ rfl rfl hsz rfl (lv_room hrest) hdg ⟨hc, hs⟩) kk
noncomputable def f_L_line (x1 : Int32) (I V : gx_F) (o : Int64) : Option (Int32 × gx_F × gx_F × Int64) := (Option.bind (f_X6_line x1 I V) fun uq_1 => (gx_el uq_1.1 (fun ur_2 => (some (0, uq_1.2.1, uq_1.2.2, ur_2.toInt64))) (fun ui_3 => (if ui_3 = 1 then (some (1, uq_1.2.1, uq_1.2.2, o)) else none))))
set_option maxHeartbeats 4000000 in
set_option maxRecDepth 100000 in
theorem k_L_line {l : Launch} {G : gx_G} {M : gx_S} {o : Int64} {d : UInt64} {I V : gx_F} {x1 : Int32} {out : (Int32 × gx_F × gx_F × Int64)} (hl9 : l.stackTraces = false) (hF : f_L_line x1 I V o = some out) : gx_KW l yL_line cL_line 4 (some .int) [(0, 9, 12, 36)] { frames := 7, cells := 1, slots := 6, locals := 104 } [.ref (G.2.1 44), .int x1, .ref (G.2.1 68)] G (I, V) M o d (gx_Qi G out.1 (out.2.1, out.2.2.1) M out.2.2.2 d) := by
  refine gx_beginW (by decide +kernel) (Nat.le_of_ble_eq_true rfl) ?_
  intro p e s m below meth c hx hb hr hml hown hlocks htab hV hZ hw ls hl
  have hown : s.vm.findClass RL = some m.cls := hown
  have hl : lv_has ls 4 [(0, .ref (G.2.1 44)), (1, .int x1), (2, .ref (G.2.1 68))] := hl
  unfold f_L_line at hF
  refine lv_aload_n (pc := 0) hx hb dL_line_0 rfl (lv_at hl 2 rfl) ?_
  refine lv_iconst (pc := 1) (v := 0) hx hb dL_line_1 (by decide) ?_
  refine lv_aload_n (pc := 2) hx hb dL_line_2 rfl (lv_at hl 0 rfl) ?_
  refine lv_iload_n (pc := 3) hx hb dL_line_3 rfl (lv_at hl 1 rfl) ?_
  obtain ⟨uq_1, huq_1, hF⟩ := Option.bind_eq_some_iff.mp hF
  refine cx_X6_line (pc := 4) hl9 hx hb hml hown hV hZ hw huq_1 (gw_920 hV) hl.1 (Nat.le_of_ble_eq_true rfl) (Nat.le_of_ble_eq_true rfl) (Nat.le_of_ble_eq_true rfl) (by decide) (by decide) dL_line_4 (fun ui_3 ce uq8 H locs he hw h7 h8 h9 => ?_) (fun ur_2 H locs he hw => ?_)
  · rw [he] at hF
    have hF : (if ui_3 = 1 then (some (1, uq_1.2.1, uq_1.2.2, o)) else none) = some out := hF
    by_cases hi1 : ui_3 = 1
    · subst hi1
      rw [if_pos rfl] at hF
      refine vx_catch (own := RL) (name := "java/lang/IndexOutOfBoundsException") (E := gx_en 1) (ce := ce) hown [] ⟨0, 9, 12, 36⟩ [] (htab.trans rfl) (fun _ h => nomatch h) (by decide) (by decide) (gw_599 hV) (gw_631 hV) h7 h8 h9 ?_
      refine lv_astore_n (pc := 12) (lv' := [(3, .ref uq8), (0, .ref (G.2.1 44)), (1, .int x1), (2, .ref (G.2.1 68))]) hx hb dL_line_12 rfl hl (by decide) rfl (fun ls hl => ?_)
      refine lv_iconst (pc := 13) (v := 1) hx hb dL_line_13 (by decide) ?_
      cases hF
      exact gx_iret hx hb hr hlocks hw dL_line_14
    rw [if_neg hi1] at hF
    cases hF
  rw [he] at hF
  have hF : (some (0, uq_1.2.1, uq_1.2.2, ur_2.toInt64)) = some out := hF
  refine lv_i2l (pc := 7) (v := ur_2.toInt64) hx hb dL_line_7 rfl ?_
  refine gx_last (pc := 8) hx hb hV hw dL_line_8 (fun H locs hw => ?_)
  refine lv_goto (pc := 9) (tgt := 15) hx hb dL_line_9 (by decide) ?_
  refine lv_iconst (pc := 15) (v := 0) hx hb dL_line_15 (by decide) ?_
  cases hF
  exact gx_iret hx hb hr hlocks hw dL_line_16
set_option maxRecDepth 100000 in
theorem cl_L_line {l : Launch} {G : gx_G} {M : gx_S} {o : Int64} {d : UInt64} {I V : gx_F} {p : Program} {e : Env} {R : Room} {s : State} {m : MethodId} {args : Array Value} {below : List Frame} {meth : Method} {c : Code} {H : Heap} {locs : List Loc} {cells slots : Nat} {Q : State → Prop} {cc : ByteArray} {pc nL index : Nat} {ls : Array Slot} {rest : List Value} {own : String} {x1 : Int32} {out : (Int32 × gx_F × gx_F × Int64)} (hl9 : l.stackTraces = false) (hx : p.tables.exec = Jvm.exec) (hb : c.code = cc) (hml : c.maxLocals = nL) (hown : s.vm.findClass own = some m.cls) (hV : gx_V G s) (hZ : gx_Z G s s.heap) (hw : gx_at G (I, V) M o d s.heap H locs) (hF : f_L_line x1 I V o = some out) (hlink : (Cond.methodLink own index yL_line).before args s = true) (hsz : ls.size = nL) (hfr : 8 ≤ R.frames) (hlo : 127 ≤ R.locals) (hrest : (rest.map fun v => v.category).sum ≤ 8) (hc : cells + 1 ≤ R.cells) (hs : slots + 6 ≤ R.slots) (hdg : decode cc pc = .ok (.invokestatic index, 3))
    (kk : ∀ (H1 : Heap) (locs1 : List Loc), gx_at G (out.2.1, out.2.2.1) M out.2.2.2 d s.heap H1 locs1 → W p l e R s m args below meth c H1 locs1 (cells + 1) (slots + 6) Q (F0 m (pc + 3) ls (.int out.1 :: rest))) : W p l e R s m args below meth c H locs cells slots Q (F0 m pc ls (.ref (G.2.1 68) :: .int x1 :: .ref (G.2.1 44) :: rest)) :=
  gx_runi hw (vx_runSW (As := [.ref (G.2.1 44), .int x1, .ref (G.2.1 68)]) (rest := rest) ⟨hx, hb, hml, hown, (fun _ h => nomatch h : ∀ w ∈ ([] : List Cond), w.before args s = true)⟩ (k_L_line hl9 hF) (gx_callW (n := 3) rfl rfl hlink (gw_48 hV) (gw_919 hV) (gw_918 hV) (by decide +kernel) ⟨hfr, hlo⟩) ⟨gx_blindX, fun U hU hW => ⟨rfl, gx_goX hV hZ hw U hU hW⟩⟩ rfl rfl hsz rfl (lv_room hrest) hdg ⟨hc, hs⟩) kk
noncomputable def f_L_character (x1 : Int32) (I V : gx_F) (o : Int64) : Option (Int32 × gx_F × gx_F × Int64) := (Option.bind (f_X6_character x1 I V) fun uq_1 => (gx_el uq_1 (fun ur_2 => (some (0, I, V, ur_2.toInt64))) (fun ui_3 => (if ui_3 = 1 then (some (1, I, V, o)) else none))))
set_option maxHeartbeats 4000000 in
set_option maxRecDepth 100000 in
theorem k_L_character {l : Launch} {G : gx_G} {M : gx_S} {o : Int64} {d : UInt64} {I V : gx_F} {x1 : Int32} {out : (Int32 × gx_F × gx_F × Int64)} (hl9 : l.stackTraces = false) (hF : f_L_character x1 I V o = some out) : gx_KW l yL_character cL_character 4 (some .int) [(0, 9, 12, 36)] { frames := 7, cells := 1, slots := 6, locals := 103 } [.ref (G.2.1 44), .int x1, .ref (G.2.1 68)] G (I, V) M o d (gx_Qi G out.1 (out.2.1, out.2.2.1) M out.2.2.2 d) := by
  refine gx_beginW (by decide +kernel) (Nat.le_of_ble_eq_true rfl) ?_
  intro p e s m below meth c hx hb hr hml hown hlocks htab hV hZ hw ls hl
  have hown : s.vm.findClass RL = some m.cls := hown
  have hl : lv_has ls 4 [(0, .ref (G.2.1 44)), (1, .int x1), (2, .ref (G.2.1 68))] := hl
  unfold f_L_character at hF
  refine lv_aload_n (pc := 0) hx hb dL_character_0 rfl (lv_at hl 2 rfl) ?_
  refine lv_iconst (pc := 1) (v := 0) hx hb dL_character_1 (by decide) ?_
  refine lv_aload_n (pc := 2) hx hb dL_character_2 rfl (lv_at hl 0 rfl) ?_
  refine lv_iload_n (pc := 3) hx hb dL_character_3 rfl (lv_at hl 1 rfl) ?_
  obtain ⟨uq_1, huq_1, hF⟩ := Option.bind_eq_some_iff.mp hF
  refine cx_X6_character (pc := 4) hl9 hx hb hml hown hV hZ hw huq_1 (gw_936 hV) hl.1 (Nat.le_of_ble_eq_true rfl) (Nat.le_of_ble_eq_true rfl) (Nat.le_of_ble_eq_true rfl) (by decide) (by decide) dL_character_4 (fun ui_3 ce uq8 H locs he hw h7 h8 h9 => ?_) (fun ur_2 H locs he hw => ?_)
  · rw [he] at hF
    have hF : (if ui_3 = 1 then (some (1, I, V, o)) else none) = some out := hF
    by_cases hi1 : ui_3 = 1
    · subst hi1
      rw [if_pos rfl] at hF
      refine vx_catch (own := RL) (name := "java/lang/IndexOutOfBoundsException") (E := gx_en 1) (ce := ce) hown [] ⟨0, 9, 12, 36⟩ [] (htab.trans rfl) (fun _ h => nomatch h) (by decide) (by decide) (gw_599 hV) (gw_631 hV) h7 h8 h9 ?_
      refine lv_astore_n (pc := 12) (lv' := [(3, .ref uq8), (0, .ref (G.2.1 44)), (1, .int x1), (2, .ref (G.2.1 68))]) hx hb dL_character_12 rfl hl (by decide) rfl (fun ls hl => ?_)
      refine lv_iconst (pc := 13) (v := 1) hx hb dL_character_13 (by decide) ?_
      cases hF
      exact gx_iret hx hb hr hlocks hw dL_character_14
    rw [if_neg hi1] at hF
    cases hF
  rw [he] at hF
  have hF : (some (0, I, V, ur_2.toInt64)) = some out := hF
  refine lv_i2l (pc := 7) (v := ur_2.toInt64) hx hb dL_character_7 rfl ?_
  refine gx_last (pc := 8) hx hb hV hw dL_character_8 (fun H locs hw => ?_)
  refine lv_goto (pc := 9) (tgt := 15) hx hb dL_character_9 (by decide) ?_
  refine lv_iconst (pc := 15) (v := 0) hx hb dL_character_15 (by decide) ?_
  cases hF
  exact gx_iret hx hb hr hlocks hw dL_character_16
set_option maxRecDepth 100000 in
theorem cl_L_character {l : Launch} {G : gx_G} {M : gx_S} {o : Int64} {d : UInt64} {I V : gx_F} {p : Program} {e : Env} {R : Room} {s : State} {m : MethodId} {args : Array Value} {below : List Frame} {meth : Method} {c : Code} {H : Heap} {locs : List Loc} {cells slots : Nat} {Q : State → Prop} {cc : ByteArray} {pc nL index : Nat} {ls : Array Slot} {rest : List Value} {own : String} {x1 : Int32} {out : (Int32 × gx_F × gx_F × Int64)} (hl9 : l.stackTraces = false) (hx : p.tables.exec = Jvm.exec) (hb : c.code = cc) (hml : c.maxLocals = nL) (hown : s.vm.findClass own = some m.cls) (hV : gx_V G s) (hZ : gx_Z G s s.heap) (hw : gx_at G (I, V) M o d s.heap H locs) (hF : f_L_character x1 I V o = some out) (hlink : (Cond.methodLink own index yL_character).before args s = true) (hsz : ls.size = nL) (hfr : 8 ≤ R.frames) (hlo : 126 ≤ R.locals) (hrest : (rest.map fun v => v.category).sum ≤ 8) (hc : cells + 1 ≤ R.cells) (hs : slots + 6 ≤ R.slots) (hdg : decode cc pc = .ok (.invokestatic index, 3))
    (kk : ∀ (H1 : Heap) (locs1 : List Loc), gx_at G (out.2.1, out.2.2.1) M out.2.2.2 d s.heap H1 locs1 → W p l e R s m args below meth c H1 locs1 (cells + 1) (slots + 6) Q (F0 m (pc + 3) ls (.int out.1 :: rest))) : W p l e R s m args below meth c H locs cells slots Q (F0 m pc ls (.ref (G.2.1 68) :: .int x1 :: .ref (G.2.1 44) :: rest)) :=
  gx_runi hw (vx_runSW (As := [.ref (G.2.1 44), .int x1, .ref (G.2.1 68)]) (rest := rest) ⟨hx, hb, hml, hown, (fun _ h => nomatch h : ∀ w ∈ ([] : List Cond), w.before args s = true)⟩ (k_L_character hl9 hF) (gx_callW (n := 3) rfl rfl hlink (gw_48 hV) (gw_935 hV) (gw_934 hV) (by decide +kernel) ⟨hfr, hlo⟩) ⟨gx_blindX, fun U hU hW => ⟨rfl, gx_goX hV hZ hw U hU hW⟩⟩ rfl rfl hsz rfl (lv_room hrest) hdg ⟨hc, hs⟩) kk
noncomputable def f_L_meanHold (I V : gx_F) (d : UInt64) : Option (Int32 × gx_F × gx_F × UInt64) := (Option.bind (f_X6_meanHold I V) fun uq_1 => (gx_el uq_1 (fun ur_2 => (some (0, I, V, ur_2))) (fun ui_3 => (if ui_3 = 5 then (some (1, I, V, d)) else none))))
set_option maxHeartbeats 4000000 in
set_option maxRecDepth 100000 in
theorem k_L_meanHold {l : Launch} {G : gx_G} {M : gx_S} {o : Int64} {d : UInt64} {I V : gx_F} {out : (Int32 × gx_F × gx_F × UInt64)} (hl9 : l.stackTraces = false) (hF : f_L_meanHold I V d = some out) : gx_KW l yL_meanHold cL_meanHold 3 (some .int) [(0, 7, 10, 110)] { frames := 7, cells := 1, slots := 6, locals := 113 } [.ref (G.2.1 44), .ref (G.2.1 69)] G (I, V) M o d (gx_Qi G out.1 (out.2.1, out.2.2.1) M o out.2.2.2) := by
  refine gx_beginW (by decide +kernel) (Nat.le_of_ble_eq_true rfl) ?_
  intro p e s m below meth c hx hb hr hml hown hlocks htab hV hZ hw ls hl
  have hown : s.vm.findClass RL = some m.cls := hown
  have hl : lv_has ls 3 [(0, .ref (G.2.1 44)), (1, .ref (G.2.1 69))] := hl
  unfold f_L_meanHold at hF
  refine lv_aload_n (pc := 0) hx hb dL_meanHold_0 rfl (lv_at hl 1 rfl) ?_
  refine lv_iconst (pc := 1) (v := 0) hx hb dL_meanHold_1 (by decide) ?_
  refine lv_aload_n (pc := 2) hx hb dL_meanHold_2 rfl (lv_at hl 0 rfl) ?_
  obtain ⟨uq_1, huq_1, hF⟩ := Option.bind_eq_some_iff.mp hF
  refine cx_X6_meanHold (pc := 3) hl9 hx hb hml hown hV hZ hw huq_1 (gw_958 hV) hl.1 (Nat.le_of_ble_eq_true rfl) (Nat.le_of_ble_eq_true rfl) (Nat.le_of_ble_eq_true rfl) (by decide) (by decide) dL_meanHold_3 (fun ui_3 ce uq8 H locs he hw h7 h8 h9 => ?_) (fun ur_2 H locs he hw => ?_)
  · rw [he] at hF
    have hF : (if ui_3 = 5 then (some (1, I, V, d)) else none) = some out := hF
    by_cases hi5 : ui_3 = 5
    · subst hi5
      rw [if_pos rfl] at hF
      refine vx_catch (own := RL) (name := "java/lang/ArithmeticException") (E := gx_en 5) (ce := ce) hown [] ⟨0, 7, 10, 110⟩ [] (htab.trans rfl) (fun _ h => nomatch h) (by decide) (by decide) (gw_944 hV) (gw_956 hV) h7 h8 h9 ?_
      refine lv_astore_n (pc := 10) (lv' := [(2, .ref uq8), (0, .ref (G.2.1 44)), (1, .ref (G.2.1 69))]) hx hb dL_meanHold_10 rfl hl (by decide) rfl (fun ls hl => ?_)
      refine lv_iconst (pc := 11) (v := 1) hx hb dL_meanHold_11 (by decide) ?_
      cases hF
      exact gx_iret hx hb hr hlocks hw dL_meanHold_12
    rw [if_neg hi5] at hF
    cases hF
  rw [he] at hF
  have hF : (some (0, I, V, ur_2)) = some out := hF
  refine gx_dast (pc := 6) hx hb hV hw dL_meanHold_6 (fun H locs hw => ?_)
  refine lv_goto (pc := 7) (tgt := 13) hx hb dL_meanHold_7 (by decide) ?_
  refine lv_iconst (pc := 13) (v := 0) hx hb dL_meanHold_13 (by decide) ?_
  cases hF
  exact gx_iret hx hb hr hlocks hw dL_meanHold_14
set_option maxRecDepth 100000 in
theorem cl_L_meanHold {l : Launch} {G : gx_G} {M : gx_S} {o : Int64} {d : UInt64} {I V : gx_F} {p : Program} {e : Env} {R : Room} {s : State} {m : MethodId} {args : Array Value} {below : List Frame} {meth : Method} {c : Code} {H : Heap} {locs : List Loc} {cells slots : Nat} {Q : State → Prop} {cc : ByteArray} {pc nL index : Nat} {ls : Array Slot} {rest : List Value} {own : String} {out : (Int32 × gx_F × gx_F × UInt64)} (hl9 : l.stackTraces = false) (hx : p.tables.exec = Jvm.exec) (hb : c.code = cc) (hml : c.maxLocals = nL) (hown : s.vm.findClass own = some m.cls) (hV : gx_V G s) (hZ : gx_Z G s s.heap) (hw : gx_at G (I, V) M o d s.heap H locs) (hF : f_L_meanHold I V d = some out) (hlink : (Cond.methodLink own index yL_meanHold).before args s = true) (hsz : ls.size = nL) (hfr : 8 ≤ R.frames) (hlo : 135 ≤ R.locals) (hrest : (rest.map fun v => v.category).sum ≤ 8) (hc : cells + 1 ≤ R.cells) (hs : slots + 6 ≤ R.slots) (hdg : decode cc pc = .ok (.invokestatic index, 3))
    (kk : ∀ (H1 : Heap) (locs1 : List Loc), gx_at G (out.2.1, out.2.2.1) M o out.2.2.2 s.heap H1 locs1 → W p l e R s m args below meth c H1 locs1 (cells + 1) (slots + 6) Q (F0 m (pc + 3) ls (.int out.1 :: rest))) : W p l e R s m args below meth c H locs cells slots Q (F0 m pc ls (.ref (G.2.1 69) :: .ref (G.2.1 44) :: rest)) :=
  gx_runi hw (vx_runSW (As := [.ref (G.2.1 44), .ref (G.2.1 69)]) (rest := rest) ⟨hx, hb, hml, hown, (fun _ h => nomatch h : ∀ w ∈ ([] : List Cond), w.before args s = true)⟩ (k_L_meanHold hl9 hF) (gx_callW (n := 2) rfl rfl hlink (gw_48 hV) (gw_943 hV) (gw_942 hV) (by decide +kernel) ⟨hfr, hlo⟩) ⟨gx_blindX, fun U hU hW => ⟨rfl, gx_goX hV hZ hw U hU hW⟩⟩ rfl rfl hsz rfl (lv_room hrest) hdg ⟨hc, hs⟩) kk
noncomputable def f_L_standing (I V : gx_F) (d : UInt64) : Option (Int32 × gx_F × gx_F × UInt64) := (Option.bind (f_X6_standing I V) fun uq_1 => (gx_el uq_1.1 (fun ur_2 => (gx_ck (gx_n64 (FP.f2d ur_2)) (some (0, uq_1.2.1, uq_1.2.2, (FP.f2d ur_2))))) (fun ui_3 => (if ui_3 = 5 then (some (1, uq_1.2.1, uq_1.2.2, d)) else none))))
set_option maxHeartbeats 4000000 in
set_option maxRecDepth 100000 in
theorem k_L_standing {l : Launch} {G : gx_G} {M : gx_S} {o : Int64} {d : UInt64} {I V : gx_F} {out : (Int32 × gx_F × gx_F × UInt64)} (hl9 : l.stackTraces = false) (hF : f_L_standing I V d = some out) : gx_KW l yL_standing cL_standing 3 (some .int) [(0, 8, 11, 110)] { frames := 7, cells := 1, slots := 6, locals := 115 } [.ref (G.2.1 44), .ref (G.2.1 69)] G (I, V) M o d (gx_Qi G out.1 (out.2.1, out.2.2.1) M o out.2.2.2) := by
  refine gx_beginW (by decide +kernel) (Nat.le_of_ble_eq_true rfl) ?_
  intro p e s m below meth c hx hb hr hml hown hlocks htab hV hZ hw ls hl
  have hown : s.vm.findClass RL = some m.cls := hown
  have hl : lv_has ls 3 [(0, .ref (G.2.1 44)), (1, .ref (G.2.1 69))] := hl
  unfold f_L_standing at hF
  refine lv_aload_n (pc := 0) hx hb dL_standing_0 rfl (lv_at hl 1 rfl) ?_
  refine lv_iconst (pc := 1) (v := 0) hx hb dL_standing_1 (by decide) ?_
  refine lv_aload_n (pc := 2) hx hb dL_standing_2 rfl (lv_at hl 0 rfl) ?_
  obtain ⟨uq_1, huq_1, hF⟩ := Option.bind_eq_some_iff.mp hF
  refine cx_X6_standing (pc := 3) hl9 hx hb hml hown hV hZ hw huq_1 (gw_968 hV) hl.1 (Nat.le_of_ble_eq_true rfl) (Nat.le_of_ble_eq_true rfl) (Nat.le_of_ble_eq_true rfl) (by decide) (by decide) dL_standing_3 (fun ui_3 ce uq8 H locs he hw h7 h8 h9 => ?_) (fun ur_2 H locs he hw => ?_)
  · rw [he] at hF
    have hF : (if ui_3 = 5 then (some (1, uq_1.2.1, uq_1.2.2, d)) else none) = some out := hF
    by_cases hi5 : ui_3 = 5
    · subst hi5
      rw [if_pos rfl] at hF
      refine vx_catch (own := RL) (name := "java/lang/ArithmeticException") (E := gx_en 5) (ce := ce) hown [] ⟨0, 8, 11, 110⟩ [] (htab.trans rfl) (fun _ h => nomatch h) (by decide) (by decide) (gw_944 hV) (gw_956 hV) h7 h8 h9 ?_
      refine lv_astore_n (pc := 11) (lv' := [(2, .ref uq8), (0, .ref (G.2.1 44)), (1, .ref (G.2.1 69))]) hx hb dL_standing_11 rfl hl (by decide) rfl (fun ls hl => ?_)
      refine lv_iconst (pc := 12) (v := 1) hx hb dL_standing_12 (by decide) ?_
      cases hF
      exact gx_iret hx hb hr hlocks hw dL_standing_13
    rw [if_neg hi5] at hF
    cases hF
  rw [he] at hF
  have hF : (gx_ck (gx_n64 (FP.f2d ur_2)) (some (0, uq_1.2.1, uq_1.2.2, (FP.f2d ur_2)))) = some out := hF
  refine gx_f2d (pc := 6) hx hb hF dL_standing_6 (fun hF => ?_)
  refine gx_dast (pc := 7) hx hb hV hw dL_standing_7 (fun H locs hw => ?_)
  refine lv_goto (pc := 8) (tgt := 14) hx hb dL_standing_8 (by decide) ?_
  refine lv_iconst (pc := 14) (v := 0) hx hb dL_standing_14 (by decide) ?_
  cases hF
  exact gx_iret hx hb hr hlocks hw dL_standing_15
set_option maxRecDepth 100000 in
theorem cl_L_standing {l : Launch} {G : gx_G} {M : gx_S} {o : Int64} {d : UInt64} {I V : gx_F} {p : Program} {e : Env} {R : Room} {s : State} {m : MethodId} {args : Array Value} {below : List Frame} {meth : Method} {c : Code} {H : Heap} {locs : List Loc} {cells slots : Nat} {Q : State → Prop} {cc : ByteArray} {pc nL index : Nat} {ls : Array Slot} {rest : List Value} {own : String} {out : (Int32 × gx_F × gx_F × UInt64)} (hl9 : l.stackTraces = false) (hx : p.tables.exec = Jvm.exec) (hb : c.code = cc) (hml : c.maxLocals = nL) (hown : s.vm.findClass own = some m.cls) (hV : gx_V G s) (hZ : gx_Z G s s.heap) (hw : gx_at G (I, V) M o d s.heap H locs) (hF : f_L_standing I V d = some out) (hlink : (Cond.methodLink own index yL_standing).before args s = true) (hsz : ls.size = nL) (hfr : 8 ≤ R.frames) (hlo : 137 ≤ R.locals) (hrest : (rest.map fun v => v.category).sum ≤ 8) (hc : cells + 1 ≤ R.cells) (hs : slots + 6 ≤ R.slots) (hdg : decode cc pc = .ok (.invokestatic index, 3))
    (kk : ∀ (H1 : Heap) (locs1 : List Loc), gx_at G (out.2.1, out.2.2.1) M o out.2.2.2 s.heap H1 locs1 → W p l e R s m args below meth c H1 locs1 (cells + 1) (slots + 6) Q (F0 m (pc + 3) ls (.int out.1 :: rest))) : W p l e R s m args below meth c H locs cells slots Q (F0 m pc ls (.ref (G.2.1 69) :: .ref (G.2.1 44) :: rest)) :=
  gx_runi hw (vx_runSW (As := [.ref (G.2.1 44), .ref (G.2.1 69)]) (rest := rest) ⟨hx, hb, hml, hown, (fun _ h => nomatch h : ∀ w ∈ ([] : List Cond), w.before args s = true)⟩ (k_L_standing hl9 hF) (gx_callW (n := 2) rfl rfl hlink (gw_48 hV) (gw_967 hV) (gw_966 hV) (by decide +kernel) ⟨hfr, hlo⟩) ⟨gx_blindX, fun U hU hW => ⟨rfl, gx_goX hV hZ hw U hU hW⟩⟩ rfl rfl hsz rfl (lv_room hrest) hdg ⟨hc, hs⟩) kk
noncomputable def f_L_account (x1 : Int32) (I V : gx_F) (o : Int64) : Option (Int32 × gx_F × gx_F × Int64) := (Option.bind (f_X6_account x1 I V) fun uq_1 => (gx_el uq_1 (fun ur_2 => (some (0, I, V, ur_2.toInt64))) (fun ui_3 => (if ui_3 = 2 then (some (1, I, V, o)) else none))))
set_option maxHeartbeats 4000000 in
set_option maxRecDepth 100000 in
theorem k_L_account {l : Launch} {G : gx_G} {M : gx_S} {o : Int64} {d : UInt64} {I V : gx_F} {x1 : Int32} {out : (Int32 × gx_F × gx_F × Int64)} (hl9 : l.stackTraces = false) (hF : f_L_account x1 I V o = some out) : gx_KW l yL_account cL_account 4 (some .int) [(0, 9, 12, 38)] { frames := 7, cells := 1, slots := 6, locals := 113 } [.ref (G.2.1 44), .int x1, .ref (G.2.1 68)] G (I, V) M o d (gx_Qi G out.1 (out.2.1, out.2.2.1) M out.2.2.2 d) := by
  refine gx_beginW (by decide +kernel) (Nat.le_of_ble_eq_true rfl) ?_
  intro p e s m below meth c hx hb hr hml hown hlocks htab hV hZ hw ls hl
  have hown : s.vm.findClass RL = some m.cls := hown
  have hl : lv_has ls 4 [(0, .ref (G.2.1 44)), (1, .int x1), (2, .ref (G.2.1 68))] := hl
  unfold f_L_account at hF
  refine lv_aload_n (pc := 0) hx hb dL_account_0 rfl (lv_at hl 2 rfl) ?_
  refine lv_iconst (pc := 1) (v := 0) hx hb dL_account_1 (by decide) ?_
  refine lv_aload_n (pc := 2) hx hb dL_account_2 rfl (lv_at hl 0 rfl) ?_
  refine lv_iload_n (pc := 3) hx hb dL_account_3 rfl (lv_at hl 1 rfl) ?_
  obtain ⟨uq_1, huq_1, hF⟩ := Option.bind_eq_some_iff.mp hF
  refine cx_X6_account (pc := 4) hl9 hx hb hml hown hV hZ hw huq_1 (gw_975 hV) hl.1 (Nat.le_of_ble_eq_true rfl) (Nat.le_of_ble_eq_true rfl) (Nat.le_of_ble_eq_true rfl) (by decide) (by decide) dL_account_4 (fun ui_3 ce uq8 H locs he hw h7 h8 h9 => ?_) (fun ur_2 H locs he hw => ?_)
  · rw [he] at hF
    have hF : (if ui_3 = 2 then (some (1, I, V, o)) else none) = some out := hF
    by_cases hi2 : ui_3 = 2
    · subst hi2
      rw [if_pos rfl] at hF
      refine vx_catch (own := RL) (name := "java/lang/IllegalArgumentException") (E := gx_en 2) (ce := ce) hown [] ⟨0, 9, 12, 38⟩ [] (htab.trans rfl) (fun _ h => nomatch h) (by decide) (by decide) (gw_623 hV) (gw_645 hV) h7 h8 h9 ?_
      refine lv_astore_n (pc := 12) (lv' := [(3, .ref uq8), (0, .ref (G.2.1 44)), (1, .int x1), (2, .ref (G.2.1 68))]) hx hb dL_account_12 rfl hl (by decide) rfl (fun ls hl => ?_)
      refine lv_iconst (pc := 13) (v := 1) hx hb dL_account_13 (by decide) ?_
      cases hF
      exact gx_iret hx hb hr hlocks hw dL_account_14
    rw [if_neg hi2] at hF
    cases hF
  rw [he] at hF
  have hF : (some (0, I, V, ur_2.toInt64)) = some out := hF
  refine lv_i2l (pc := 7) (v := ur_2.toInt64) hx hb dL_account_7 rfl ?_
  refine gx_last (pc := 8) hx hb hV hw dL_account_8 (fun H locs hw => ?_)
  refine lv_goto (pc := 9) (tgt := 15) hx hb dL_account_9 (by decide) ?_
  refine lv_iconst (pc := 15) (v := 0) hx hb dL_account_15 (by decide) ?_
  cases hF
  exact gx_iret hx hb hr hlocks hw dL_account_16
set_option maxRecDepth 100000 in
theorem cl_L_account {l : Launch} {G : gx_G} {M : gx_S} {o : Int64} {d : UInt64} {I V : gx_F} {p : Program} {e : Env} {R : Room} {s : State} {m : MethodId} {args : Array Value} {below : List Frame} {meth : Method} {c : Code} {H : Heap} {locs : List Loc} {cells slots : Nat} {Q : State → Prop} {cc : ByteArray} {pc nL index : Nat} {ls : Array Slot} {rest : List Value} {own : String} {x1 : Int32} {out : (Int32 × gx_F × gx_F × Int64)} (hl9 : l.stackTraces = false) (hx : p.tables.exec = Jvm.exec) (hb : c.code = cc) (hml : c.maxLocals = nL) (hown : s.vm.findClass own = some m.cls) (hV : gx_V G s) (hZ : gx_Z G s s.heap) (hw : gx_at G (I, V) M o d s.heap H locs) (hF : f_L_account x1 I V o = some out) (hlink : (Cond.methodLink own index yL_account).before args s = true) (hsz : ls.size = nL) (hfr : 8 ≤ R.frames) (hlo : 136 ≤ R.locals) (hrest : (rest.map fun v => v.category).sum ≤ 8) (hc : cells + 1 ≤ R.cells) (hs : slots + 6 ≤ R.slots) (hdg : decode cc pc = .ok (.invokestatic index, 3))
    (kk : ∀ (H1 : Heap) (locs1 : List Loc), gx_at G (out.2.1, out.2.2.1) M out.2.2.2 d s.heap H1 locs1 → W p l e R s m args below meth c H1 locs1 (cells + 1) (slots + 6) Q (F0 m (pc + 3) ls (.int out.1 :: rest))) : W p l e R s m args below meth c H locs cells slots Q (F0 m pc ls (.ref (G.2.1 68) :: .int x1 :: .ref (G.2.1 44) :: rest)) :=
  gx_runi hw (vx_runSW (As := [.ref (G.2.1 44), .int x1, .ref (G.2.1 68)]) (rest := rest) ⟨hx, hb, hml, hown, (fun _ h => nomatch h : ∀ w ∈ ([] : List Cond), w.before args s = true)⟩ (k_L_account hl9 hF) (gx_callW (n := 3) rfl rfl hlink (gw_48 hV) (gw_974 hV) (gw_973 hV) (by decide +kernel) ⟨hfr, hlo⟩) ⟨gx_blindX, fun U hU hW => ⟨rfl, gx_goX hV hZ hw U hU hW⟩⟩ rfl rfl hsz rfl (lv_room hrest) hdg ⟨hc, hs⟩) kk
noncomputable def f_L_undo (I V : gx_F) (o : Int64) : Option (Int32 × gx_F × gx_F × Int64) := (Option.bind (f_X6_undo I V) fun uq_1 => (gx_el uq_1.1 (fun ur_2 => (some (0, uq_1.2.1, uq_1.2.2, ur_2.toInt64))) (fun ui_3 => (if ui_3 = 4 then (some (1, uq_1.2.1, uq_1.2.2, o)) else none))))
set_option maxHeartbeats 4000000 in
set_option maxRecDepth 100000 in
theorem k_L_undo {l : Launch} {G : gx_G} {M : gx_S} {o : Int64} {d : UInt64} {I V : gx_F} {out : (Int32 × gx_F × gx_F × Int64)} (hl9 : l.stackTraces = false) (hF : f_L_undo I V o = some out) : gx_KW l yL_undo cL_undo 3 (some .int) [(0, 8, 11, 91)] { frames := 7, cells := 1, slots := 6, locals := 142 } [.ref (G.2.1 44), .ref (G.2.1 68)] G (I, V) M o d (gx_Qi G out.1 (out.2.1, out.2.2.1) M out.2.2.2 d) := by
  refine gx_beginW (by decide +kernel) (Nat.le_of_ble_eq_true rfl) ?_
  intro p e s m below meth c hx hb hr hml hown hlocks htab hV hZ hw ls hl
  have hown : s.vm.findClass RL = some m.cls := hown
  have hl : lv_has ls 3 [(0, .ref (G.2.1 44)), (1, .ref (G.2.1 68))] := hl
  unfold f_L_undo at hF
  refine lv_aload_n (pc := 0) hx hb dL_undo_0 rfl (lv_at hl 1 rfl) ?_
  refine lv_iconst (pc := 1) (v := 0) hx hb dL_undo_1 (by decide) ?_
  refine lv_aload_n (pc := 2) hx hb dL_undo_2 rfl (lv_at hl 0 rfl) ?_
  obtain ⟨uq_1, huq_1, hF⟩ := Option.bind_eq_some_iff.mp hF
  refine cx_X6_undo (pc := 3) hl9 hx hb hml hown hV hZ hw huq_1 (gw_991 hV) hl.1 (Nat.le_of_ble_eq_true rfl) (Nat.le_of_ble_eq_true rfl) (Nat.le_of_ble_eq_true rfl) (by decide) (by decide) dL_undo_3 (fun ui_3 ce uq8 H locs he hw h7 h8 h9 => ?_) (fun ur_2 H locs he hw => ?_)
  · rw [he] at hF
    have hF : (if ui_3 = 4 then (some (1, uq_1.2.1, uq_1.2.2, o)) else none) = some out := hF
    by_cases hi4 : ui_3 = 4
    · subst hi4
      rw [if_pos rfl] at hF
      refine vx_catch (own := RL) (name := "java/lang/IllegalStateException") (E := gx_en 4) (ce := ce) hown [] ⟨0, 8, 11, 91⟩ [] (htab.trans rfl) (fun _ h => nomatch h) (by decide) (by decide) (gw_816 hV) (gw_827 hV) h7 h8 h9 ?_
      refine lv_astore_n (pc := 11) (lv' := [(2, .ref uq8), (0, .ref (G.2.1 44)), (1, .ref (G.2.1 68))]) hx hb dL_undo_11 rfl hl (by decide) rfl (fun ls hl => ?_)
      refine lv_iconst (pc := 12) (v := 1) hx hb dL_undo_12 (by decide) ?_
      cases hF
      exact gx_iret hx hb hr hlocks hw dL_undo_13
    rw [if_neg hi4] at hF
    cases hF
  rw [he] at hF
  have hF : (some (0, uq_1.2.1, uq_1.2.2, ur_2.toInt64)) = some out := hF
  refine lv_i2l (pc := 6) (v := ur_2.toInt64) hx hb dL_undo_6 rfl ?_
  refine gx_last (pc := 7) hx hb hV hw dL_undo_7 (fun H locs hw => ?_)
  refine lv_goto (pc := 8) (tgt := 14) hx hb dL_undo_8 (by decide) ?_
  refine lv_iconst (pc := 14) (v := 0) hx hb dL_undo_14 (by decide) ?_
  cases hF
  exact gx_iret hx hb hr hlocks hw dL_undo_15
set_option maxRecDepth 100000 in
theorem cl_L_undo {l : Launch} {G : gx_G} {M : gx_S} {o : Int64} {d : UInt64} {I V : gx_F} {p : Program} {e : Env} {R : Room} {s : State} {m : MethodId} {args : Array Value} {below : List Frame} {meth : Method} {c : Code} {H : Heap} {locs : List Loc} {cells slots : Nat} {Q : State → Prop} {cc : ByteArray} {pc nL index : Nat} {ls : Array Slot} {rest : List Value} {own : String} {out : (Int32 × gx_F × gx_F × Int64)} (hl9 : l.stackTraces = false) (hx : p.tables.exec = Jvm.exec) (hb : c.code = cc) (hml : c.maxLocals = nL) (hown : s.vm.findClass own = some m.cls) (hV : gx_V G s) (hZ : gx_Z G s s.heap) (hw : gx_at G (I, V) M o d s.heap H locs) (hF : f_L_undo I V o = some out) (hlink : (Cond.methodLink own index yL_undo).before args s = true) (hsz : ls.size = nL) (hfr : 8 ≤ R.frames) (hlo : 164 ≤ R.locals) (hrest : (rest.map fun v => v.category).sum ≤ 8) (hc : cells + 1 ≤ R.cells) (hs : slots + 6 ≤ R.slots) (hdg : decode cc pc = .ok (.invokestatic index, 3))
    (kk : ∀ (H1 : Heap) (locs1 : List Loc), gx_at G (out.2.1, out.2.2.1) M out.2.2.2 d s.heap H1 locs1 → W p l e R s m args below meth c H1 locs1 (cells + 1) (slots + 6) Q (F0 m (pc + 3) ls (.int out.1 :: rest))) : W p l e R s m args below meth c H locs cells slots Q (F0 m pc ls (.ref (G.2.1 68) :: .ref (G.2.1 44) :: rest)) :=
  gx_runi hw (vx_runSW (As := [.ref (G.2.1 44), .ref (G.2.1 68)]) (rest := rest) ⟨hx, hb, hml, hown, (fun _ h => nomatch h : ∀ w ∈ ([] : List Cond), w.before args s = true)⟩ (k_L_undo hl9 hF) (gx_callW (n := 2) rfl rfl hlink (gw_48 hV) (gw_990 hV) (gw_989 hV) (by decide +kernel) ⟨hfr, hlo⟩) ⟨gx_blindX, fun U hU hW => ⟨rfl, gx_goX hV hZ hw U hU hW⟩⟩ rfl rfl hsz rfl (lv_room hrest) hdg ⟨hc, hs⟩) kk
noncomputable def f_L_restore (I V : gx_F) (o : Int64) : Option (Int32 × gx_F × gx_F × Int64) := (Option.bind (f_X6_restore I V) fun uq_1 => (gx_el uq_1.1 (fun ur_2 => (some (0, uq_1.2.1, uq_1.2.2, ur_2.toInt64))) (fun ui_3 => (if ui_3 = 4 then (some (1, uq_1.2.1, uq_1.2.2, o)) else none))))
set_option maxHeartbeats 4000000 in
set_option maxRecDepth 100000 in
theorem k_L_restore {l : Launch} {G : gx_G} {M : gx_S} {o : Int64} {d : UInt64} {I V : gx_F} {out : (Int32 × gx_F × gx_F × Int64)} (hl9 : l.stackTraces = false) (hF : f_L_restore I V o = some out) : gx_KW l yL_restore cL_restore 3 (some .int) [(0, 8, 11, 91)] { frames := 7, cells := 1, slots := 6, locals := 121 } [.ref (G.2.1 44), .ref (G.2.1 68)] G (I, V) M o d (gx_Qi G out.1 (out.2.1, out.2.2.1) M out.2.2.2 d) := by
  refine gx_beginW (by decide +kernel) (Nat.le_of_ble_eq_true rfl) ?_
  intro p e s m below meth c hx hb hr hml hown hlocks htab hV hZ hw ls hl
  have hown : s.vm.findClass RL = some m.cls := hown
  have hl : lv_has ls 3 [(0, .ref (G.2.1 44)), (1, .ref (G.2.1 68))] := hl
  unfold f_L_restore at hF
  refine lv_aload_n (pc := 0) hx hb dL_restore_0 rfl (lv_at hl 1 rfl) ?_
  refine lv_iconst (pc := 1) (v := 0) hx hb dL_restore_1 (by decide) ?_
  refine lv_aload_n (pc := 2) hx hb dL_restore_2 rfl (lv_at hl 0 rfl) ?_
  obtain ⟨uq_1, huq_1, hF⟩ := Option.bind_eq_some_iff.mp hF
  refine cx_X6_restore (pc := 3) hl9 hx hb hml hown hV hZ hw huq_1 (gw_1003 hV) hl.1 (Nat.le_of_ble_eq_true rfl) (Nat.le_of_ble_eq_true rfl) (Nat.le_of_ble_eq_true rfl) (by decide) (by decide) dL_restore_3 (fun ui_3 ce uq8 H locs he hw h7 h8 h9 => ?_) (fun ur_2 H locs he hw => ?_)
  · rw [he] at hF
    have hF : (if ui_3 = 4 then (some (1, uq_1.2.1, uq_1.2.2, o)) else none) = some out := hF
    by_cases hi4 : ui_3 = 4
    · subst hi4
      rw [if_pos rfl] at hF
      refine vx_catch (own := RL) (name := "java/lang/IllegalStateException") (E := gx_en 4) (ce := ce) hown [] ⟨0, 8, 11, 91⟩ [] (htab.trans rfl) (fun _ h => nomatch h) (by decide) (by decide) (gw_816 hV) (gw_827 hV) h7 h8 h9 ?_
      refine lv_astore_n (pc := 11) (lv' := [(2, .ref uq8), (0, .ref (G.2.1 44)), (1, .ref (G.2.1 68))]) hx hb dL_restore_11 rfl hl (by decide) rfl (fun ls hl => ?_)
      refine lv_iconst (pc := 12) (v := 1) hx hb dL_restore_12 (by decide) ?_
      cases hF
      exact gx_iret hx hb hr hlocks hw dL_restore_13
    rw [if_neg hi4] at hF
    cases hF
  rw [he] at hF
  have hF : (some (0, uq_1.2.1, uq_1.2.2, ur_2.toInt64)) = some out := hF
  refine lv_i2l (pc := 6) (v := ur_2.toInt64) hx hb dL_restore_6 rfl ?_
  refine gx_last (pc := 7) hx hb hV hw dL_restore_7 (fun H locs hw => ?_)
  refine lv_goto (pc := 8) (tgt := 14) hx hb dL_restore_8 (by decide) ?_
  refine lv_iconst (pc := 14) (v := 0) hx hb dL_restore_14 (by decide) ?_
  cases hF
  exact gx_iret hx hb hr hlocks hw dL_restore_15
set_option maxRecDepth 100000 in
theorem cl_L_restore {l : Launch} {G : gx_G} {M : gx_S} {o : Int64} {d : UInt64} {I V : gx_F} {p : Program} {e : Env} {R : Room} {s : State} {m : MethodId} {args : Array Value} {below : List Frame} {meth : Method} {c : Code} {H : Heap} {locs : List Loc} {cells slots : Nat} {Q : State → Prop} {cc : ByteArray} {pc nL index : Nat} {ls : Array Slot} {rest : List Value} {own : String} {out : (Int32 × gx_F × gx_F × Int64)} (hl9 : l.stackTraces = false) (hx : p.tables.exec = Jvm.exec) (hb : c.code = cc) (hml : c.maxLocals = nL) (hown : s.vm.findClass own = some m.cls) (hV : gx_V G s) (hZ : gx_Z G s s.heap) (hw : gx_at G (I, V) M o d s.heap H locs) (hF : f_L_restore I V o = some out) (hlink : (Cond.methodLink own index yL_restore).before args s = true) (hsz : ls.size = nL) (hfr : 8 ≤ R.frames) (hlo : 143 ≤ R.locals) (hrest : (rest.map fun v => v.category).sum ≤ 8) (hc : cells + 1 ≤ R.cells) (hs : slots + 6 ≤ R.slots) (hdg : decode cc pc = .ok (.invokestatic index, 3))
    (kk : ∀ (H1 : Heap) (locs1 : List Loc), gx_at G (out.2.1, out.2.2.1) M out.2.2.2 d s.heap H1 locs1 → W p l e R s m args below meth c H1 locs1 (cells + 1) (slots + 6) Q (F0 m (pc + 3) ls (.int out.1 :: rest))) : W p l e R s m args below meth c H locs cells slots Q (F0 m pc ls (.ref (G.2.1 68) :: .ref (G.2.1 44) :: rest)) :=
  gx_runi hw (vx_runSW (As := [.ref (G.2.1 44), .ref (G.2.1 68)]) (rest := rest) ⟨hx, hb, hml, hown, (fun _ h => nomatch h : ∀ w ∈ ([] : List Cond), w.before args s = true)⟩ (k_L_restore hl9 hF) (gx_callW (n := 2) rfl rfl hlink (gw_48 hV) (gw_1002 hV) (gw_1001 hV) (by decide +kernel) ⟨hfr, hlo⟩) ⟨gx_blindX, fun U hU hW => ⟨rfl, gx_goX hV hZ hw U hU hW⟩⟩ rfl rfl hsz rfl (lv_room hrest) hdg ⟨hc, hs⟩) kk
