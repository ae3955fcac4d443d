set_option maxHeartbeats 4000000 in
set_option maxRecDepth 100000 in
theorem k_X6_fallen {l : Launch} {G : gx_G} {M : gx_S} {o : Int64} {d : UInt64} {I V : gx_F} {out : (Int32 × gx_F × gx_F)} (hF : f_X6_fallen I V = some out) : gx_K l yX6_fallen cX6_fallen 1 (some .int) { frames := 4, cells := 0, slots := 0, locals := 94 } [.ref (G.2.1 44)] G (I, V) M o d (gx_Qi G out.1 (out.2.1, out.2.2) M o d) 0 0 := by
  refine gx_begin (by decide +kernel) (Nat.le_of_ble_eq_true rfl) ?_
  intro p e s m below meth c hx hb hr hml hown hlocks hV hw ls hl
  have hown : s.vm.findClass RX6 = some m.cls := hown
  have hl : lv_has ls 1 [(0, .ref (G.2.1 44))] := hl
  unfold f_X6_fallen at hF
  refine lv_aload_n (pc := 0) hx hb dX6_fallen_0 rfl (lv_at hl 0 rfl) ?_
  refine gg_X6_0 (pc := 1) hx hb hown hV hw (gw_233 hV) dX6_fallen_1 ?_
  obtain ⟨uq_1, huq_1, hF⟩ := Option.bind_eq_some_iff.mp hF
  refine cl_X5_brickCount (pc := 4) hx hb hml hown hV hw gx_w0 huq_1 (gw_277 hV) hl.1 (Nat.le_of_ble_eq_true rfl) (Nat.le_of_ble_eq_true rfl) (Nat.le_of_ble_eq_true rfl) dX6_fallen_4 (fun H locs hw => ?_)
  refine lv_aload_n (pc := 7) hx hb dX6_fallen_7 rfl (lv_at hl 0 rfl) ?_
  refine gg_X6_5 (pc := 8) hx hb hown hV hw (gw_238 hV) dX6_fallen_8 ?_
  refine lv_aload_n (pc := 11) hx hb dX6_fallen_11 rfl (lv_at hl 0 rfl) ?_
  refine gg_X6_0 (pc := 12) hx hb hown hV hw (gw_233 hV) dX6_fallen_12 ?_
  refine lv_iconst (pc := 15) (v := (-1)) hx hb dX6_fallen_15 (by decide) ?_
  obtain ⟨uq_2, huq_2, hF⟩ := Option.bind_eq_some_iff.mp hF
  refine cl_X0_countWithout (pc := 16) hx hb hml hown hV hw gx_w0 huq_2 (gw_289 hV) hl.1 (Nat.le_of_ble_eq_true rfl) (Nat.le_of_ble_eq_true rfl) (Nat.le_of_ble_eq_true rfl) dX6_fallen_16 (fun H locs hw => ?_)
  refine lv_isub (pc := 19) hx hb dX6_fallen_19 ?_
  cases hF
  exact gx_iret hx hb hr hlocks hw dX6_fallen_20
set_option maxRecDepth 100000 in
theorem cl_X6_fallen {l : Launch} {G : gx_G} {M : gx_S} {o : Int64} {d : UInt64} {I V : gx_F} {p : Program} {e : Env} {R : Room} {s : State} {m : MethodId} {args : Array Value} {below : List Frame} {meth : Method} {c : Code} {H : Heap} {locs : List Loc} {cells slots : Nat} {Q : State → Prop} {cc : ByteArray} {pc nL index : Nat} {ls : Array Slot} {rest : List Value} {own : String} {out : (Int32 × gx_F × gx_F)} (hx : p.tables.exec = Jvm.exec) (hb : c.code = cc) (hml : c.maxLocals = nL) (hown : s.vm.findClass own = some m.cls) (hV : gx_V G s) (hw : gx_at G (I, V) M o d s.heap H locs) (hF : f_X6_fallen I V = some out) (hlink : (Cond.methodLink own index yX6_fallen).before args s = true) (hsz : ls.size = nL) (hfr : 5 ≤ R.frames) (hlo : 114 ≤ R.locals) (hrest : (rest.map fun v => v.category).sum ≤ 8) (hdg : decode cc pc = .ok (.invokevirtual index, 3))
    (kk : ∀ (H1 : Heap) (locs1 : List Loc), gx_at G (out.2.1, out.2.2) M o d s.heap H1 locs1 → W p l e R s m args below meth c H1 locs1 cells slots Q (F0 m (pc + 3) ls (.int out.1 :: rest))) (hc : cells ≤ R.cells := by exact Nat.zero_le _) (hs : slots ≤ R.slots := by exact Nat.zero_le _) : W p l e R s m args below meth c H locs cells slots Q (F0 m pc ls (.ref (G.2.1 44) :: rest)) :=
  gx_runi hw (va_runV (C := RX6) (As := []) (rest := rest) ⟨hx, hb, hml, hown, (fun _ h => nomatch h : ∀ w ∈ ([] : List Cond), w.before args s = true)⟩ (k_X6_fallen hF) ⟨gx_callB (n := 0) rfl rfl hlink (gw_49 hV) (gw_276 hV) (by decide +kernel) ⟨hfr, hlo⟩, gw_274 hV, gw_275 hV⟩ (gx_recv (k := 44) (ci := 8) (T := TX6) hV hw (by decide) rfl rfl) rfl rfl hsz rfl (lv_room hrest) hdg ⟨hc, hs⟩) kk
set_option maxHeartbeats 4000000 in
set_option maxRecDepth 100000 in
theorem k_X6_errors {l : Launch} {G : gx_G} {M : gx_S} {o : Int64} {d : UInt64} {I V : gx_F} {out : Int32} (hF : f_X6_errors I V = some out) : gx_K l yX6_errors cX6_errors 1 (some .int) { frames := 4, cells := 0, slots := 0, locals := 91 } [.ref (G.2.1 44)] G (I, V) M o d (gx_Qi G out (I, V) M o d) 0 0 := by
  refine gx_begin (by decide +kernel) (Nat.le_of_ble_eq_true rfl) ?_
  intro p e s m below meth c hx hb hr hml hown hlocks hV hw ls hl
  have hown : s.vm.findClass RX6 = some m.cls := hown
  have hl : lv_has ls 1 [(0, .ref (G.2.1 44))] := hl
  unfold f_X6_errors at hF
  refine lv_aload_n (pc := 0) hx hb dX6_errors_0 rfl (lv_at hl 0 rfl) ?_
  refine gg_X6_0 (pc := 1) hx hb hown hV hw (gw_233 hV) dX6_errors_1 ?_
  obtain ⟨uq_1, huq_1, hF⟩ := Option.bind_eq_some_iff.mp hF
  refine cl_X5_errorPairs (pc := 4) hx hb hml hown hV hw gx_w0 huq_1 (gw_327 hV) hl.1 (Nat.le_of_ble_eq_true rfl) (Nat.le_of_ble_eq_true rfl) (Nat.le_of_ble_eq_true rfl) dX6_errors_4 (fun H locs hw => ?_)
  cases hF
  exact gx_iret hx hb hr hlocks hw dX6_errors_7
set_option maxRecDepth 100000 in
theorem cl_X6_errors {l : Launch} {G : gx_G} {M : gx_S} {o : Int64} {d : UInt64} {I V : gx_F} {p : Program} {e : Env} {R : Room} {s : State} {m : MethodId} {args : Array Value} {below : List Frame} {meth : Method} {c : Code} {H : Heap} {locs : List Loc} {cells slots : Nat} {Q : State → Prop} {cc : ByteArray} {pc nL index : Nat} {ls : Array Slot} {rest : List Value} {own : String} {out : Int32} (hx : p.tables.exec = Jvm.exec) (hb : c.code = cc) (hml : c.maxLocals = nL) (hown : s.vm.findClass own = some m.cls) (hV : gx_V G s) (hw : gx_at G (I, V) M o d s.heap H locs) (hF : f_X6_errors I V = some out) (hlink : (Cond.methodLink own index yX6_errors).before args s = true) (hsz : ls.size = nL) (hfr : 5 ≤ R.frames) (hlo : 111 ≤ R.locals) (hrest : (rest.map fun v => v.category).sum ≤ 8) (hdg : decode cc pc = .ok (.invokevirtual index, 3))
    (kk : ∀ (H1 : Heap) (locs1 : List Loc), gx_at G (I, V) M o d s.heap H1 locs1 → W p l e R s m args below meth c H1 locs1 cells slots Q (F0 m (pc + 3) ls (.int out :: rest))) (hc : cells ≤ R.cells := by exact Nat.zero_le _) (hs : slots ≤ R.slots := by exact Nat.zero_le _) : W p l e R s m args below meth c H locs cells slots Q (F0 m pc ls (.ref (G.2.1 44) :: rest)) :=
  gx_runi hw (va_runV (C := RX6) (As := []) (rest := rest) ⟨hx, hb, hml, hown, (fun _ h => nomatch h : ∀ w ∈ ([] : List Cond), w.before args s = true)⟩ (k_X6_errors hF) ⟨gx_callB (n := 0) rfl rfl hlink (gw_49 hV) (gw_326 hV) (by decide +kernel) ⟨hfr, hlo⟩, gw_324 hV, gw_325 hV⟩ (gx_recv (k := 44) (ci := 8) (T := TX6) hV hw (by decide) rfl rfl) rfl rfl hsz rfl (lv_room hrest) hdg ⟨hc, hs⟩) kk
set_option maxHeartbeats 4000000 in
set_option maxRecDepth 100000 in
theorem k_X6_stuck {l : Launch} {G : gx_G} {M : gx_S} {o : Int64} {d : UInt64} {I V : gx_F} {out : (Int32 × gx_F × gx_F)} (hF : f_X6_stuck I V = some out) : gx_K l yX6_stuck cX6_stuck 1 (some .int) { frames := 4, cells := 0, slots := 0, locals := 98 } [.ref (G.2.1 44)] G (I, V) M o d (gx_Qi G out.1 (out.2.1, out.2.2) M o d) 0 0 := by
  refine gx_begin (by decide +kernel) (Nat.le_of_ble_eq_true rfl) ?_
  intro p e s m below meth c hx hb hr hml hown hlocks hV hw ls hl
  have hown : s.vm.findClass RX6 = some m.cls := hown
  have hl : lv_has ls 1 [(0, .ref (G.2.1 44))] := hl
  unfold f_X6_stuck at hF
  refine lv_aload_n (pc := 0) hx hb dX6_stuck_0 rfl (lv_at hl 0 rfl) ?_
  refine gg_X6_6 (pc := 1) hx hb hown hV hw (gw_239 hV) dX6_stuck_1 ?_
  refine lv_aload_n (pc := 4) hx hb dX6_stuck_4 rfl (lv_at hl 0 rfl) ?_
  refine gg_X6_0 (pc := 5) hx hb hown hV hw (gw_233 hV) dX6_stuck_5 ?_
  obtain ⟨uq_1, huq_1, hF⟩ := Option.bind_eq_some_iff.mp hF
  refine cl_X1_stuckPlaces (pc := 8) hx hb hml hown hV hw gx_w0 huq_1 (gw_342 hV) hl.1 (Nat.le_of_ble_eq_true rfl) (Nat.le_of_ble_eq_true rfl) (Nat.le_of_ble_eq_true rfl) dX6_stuck_8 (fun H locs hw => ?_)
  cases hF
  exact gx_iret hx hb hr hlocks hw dX6_stuck_11
set_option maxRecDepth 100000 in
theorem cl_X6_stuck {l : Launch} {G : gx_G} {M : gx_S} {o : Int64} {d : UInt64} {I V : gx_F} {p : Program} {e : Env} {R : Room} {s : State} {m : MethodId} {args : Array Value} {below : List Frame} {meth : Method} {c : Code} {H : Heap} {locs : List Loc} {cells slots : Nat} {Q : State → Prop} {cc : ByteArray} {pc nL index : Nat} {ls : Array Slot} {rest : List Value} {own : String} {out : (Int32 × gx_F × gx_F)} (hx : p.tables.exec = Jvm.exec) (hb : c.code = cc) (hml : c.maxLocals = nL) (hown : s.vm.findClass own = some m.cls) (hV : gx_V G s) (hw : gx_at G (I, V) M o d s.heap H locs) (hF : f_X6_stuck I V = some out) (hlink : (Cond.methodLink own index yX6_stuck).before args s = true) (hsz : ls.size = nL) (hfr : 5 ≤ R.frames) (hlo : 118 ≤ R.locals) (hrest : (rest.map fun v => v.category).sum ≤ 8) (hdg : decode cc pc = .ok (.invokevirtual index, 3))
    (kk : ∀ (H1 : Heap) (locs1 : List Loc), gx_at G (out.2.1, out.2.2) M o d s.heap H1 locs1 → W p l e R s m args below meth c H1 locs1 cells slots Q (F0 m (pc + 3) ls (.int out.1 :: rest))) (hc : cells ≤ R.cells := by exact Nat.zero_le _) (hs : slots ≤ R.slots := by exact Nat.zero_le _) : W p l e R s m args below meth c H locs cells slots Q (F0 m pc ls (.ref (G.2.1 44) :: rest)) :=
  gx_runi hw (va_runV (C := RX6) (As := []) (rest := rest) ⟨hx, hb, hml, hown, (fun _ h => nomatch h : ∀ w ∈ ([] : List Cond), w.before args s = true)⟩ (k_X6_stuck hF) ⟨gx_callB (n := 0) rfl rfl hlink (gw_49 hV) (gw_341 hV) (by decide +kernel) ⟨hfr, hlo⟩, gw_339 hV, gw_340 hV⟩ (gx_recv (k := 44) (ci := 8) (T := TX6) hV hw (by decide) rfl rfl) rfl rfl hsz rfl (lv_room hrest) hdg ⟨hc, hs⟩) kk
set_option maxHeartbeats 4000000 in
set_option maxRecDepth 100000 in
theorem k_X6_growsTo {l : Launch} {G : gx_G} {M : gx_S} {o : Int64} {d : UInt64} {I V : gx_F} {out : (Int32 × gx_F × gx_F)} (hF : f_X6_growsTo I V = some out) : gx_K l yX6_growsTo cX6_growsTo 1 (some .int) { frames := 5, cells := 0, slots := 0, locals := 123 } [.ref (G.2.1 44)] G (I, V) M o d (gx_Qi G out.1 (out.2.1, out.2.2) M o d) 0 0 := by
  refine gx_begin (by decide +kernel) (Nat.le_of_ble_eq_true rfl) ?_
  intro p e s m below meth c hx hb hr hml hown hlocks hV hw ls hl
  have hown : s.vm.findClass RX6 = some m.cls := hown
  have hl : lv_has ls 1 [(0, .ref (G.2.1 44))] := hl
  unfold f_X6_growsTo at hF
  refine lv_aload_n (pc := 0) hx hb dX6_growsTo_0 rfl (lv_at hl 0 rfl) ?_
  refine gg_X6_1 (pc := 1) hx hb hown hV hw (gw_234 hV) dX6_growsTo_1 ?_
  refine lv_aload_n (pc := 4) hx hb dX6_growsTo_4 rfl (lv_at hl 0 rfl) ?_
  refine gg_X6_0 (pc := 5) hx hb hown hV hw (gw_233 hV) dX6_growsTo_5 ?_
  obtain ⟨uq_1, huq_1, hF⟩ := Option.bind_eq_some_iff.mp hF
  refine cl_X5_copyFrom (pc := 8) hx hb hml hown hV hw gx_w4 gx_w0 huq_1 (gw_369 hV) hl.1 (Nat.le_of_ble_eq_true rfl) (Nat.le_of_ble_eq_true rfl) (Nat.le_of_ble_eq_true rfl) dX6_growsTo_8 (fun H locs hw => ?_)
  refine lv_aload_n (pc := 11) hx hb dX6_growsTo_11 rfl (lv_at hl 0 rfl) ?_
  refine gg_X6_6 (pc := 12) hx hb hown hV hw (gw_239 hV) dX6_growsTo_12 ?_
  refine lv_aload_n (pc := 15) hx hb dX6_growsTo_15 rfl (lv_at hl 0 rfl) ?_
  refine gg_X6_1 (pc := 16) hx hb hown hV hw (gw_234 hV) dX6_growsTo_16 ?_
  refine lv_bipush (pc := 19) (v := 42) hx hb dX6_growsTo_19 (by decide) ?_
  obtain ⟨uq_2, huq_2, hF⟩ := Option.bind_eq_some_iff.mp hF
  refine cl_X1_letGrow (pc := 21) hx hb hml hown hV hw gx_w4 huq_2 (gw_376 hV) hl.1 (Nat.le_of_ble_eq_true rfl) (Nat.le_of_ble_eq_true rfl) (Nat.le_of_ble_eq_true rfl) dX6_growsTo_21 (fun H locs hw => ?_)
  refine lv_pop (pc := 24) hx hb dX6_growsTo_24 rfl ?_
  refine lv_aload_n (pc := 25) hx hb dX6_growsTo_25 rfl (lv_at hl 0 rfl) ?_
  refine gg_X6_1 (pc := 26) hx hb hown hV hw (gw_234 hV) dX6_growsTo_26 ?_
  obtain ⟨uq_3, huq_3, hF⟩ := Option.bind_eq_some_iff.mp hF
  refine cl_X5_brickCount (pc := 29) hx hb hml hown hV hw gx_w4 huq_3 (gw_277 hV) hl.1 (Nat.le_of_ble_eq_true rfl) (Nat.le_of_ble_eq_true rfl) (Nat.le_of_ble_eq_true rfl) dX6_growsTo_29 (fun H locs hw => ?_)
  cases hF
  exact gx_iret hx hb hr hlocks hw dX6_growsTo_32
set_option maxRecDepth 100000 in
theorem cl_X6_growsTo {l : Launch} {G : gx_G} {M : gx_S} {o : Int64} {d : UInt64} {I V : gx_F} {p : Program} {e : Env} {R : Room} {s : State} {m : MethodId} {args : Array Value} {below : List Frame} {meth : Method} {c : Code} {H : Heap} {locs : List Loc} {cells slots : Nat} {Q : State → Prop} {cc : ByteArray} {pc nL index : Nat} {ls : Array Slot} {rest : List Value} {own : String} {out : (Int32 × gx_F × gx_F)} (hx : p.tables.exec = Jvm.exec) (hb : c.code = cc) (hml : c.maxLocals = nL) (hown : s.vm.findClass own = some m.cls) (hV : gx_V G s) (hw : gx_at G (I, V) M o d s.heap H locs) (hF : f_X6_growsTo I V = some out) (hlink : (Cond.methodLink own index yX6_growsTo).before args s = true) (hsz : ls.size = nL) (hfr : 6 ≤ R.frames) (hlo : 143 ≤ R.locals) (hrest : (rest.map fun v => v.category).sum ≤ 8) (hdg : decode cc pc = .ok (.invokevirtual index, 3))
    (kk : ∀ (H1 : Heap) (locs1 : List Loc), gx_at G (out.2.1, out.2.2) M o d s.heap H1 locs1 → W p l e R s m args below meth c H1 locs1 cells slots Q (F0 m (pc + 3) ls (.int out.1 :: rest))) (hc : cells ≤ R.cells := by exact Nat.zero_le _) (hs : slots ≤ R.slots := by exact Nat.zero_le _) : W p l e R s m args below meth c H locs cells slots Q (F0 m pc ls (.ref (G.2.1 44) :: rest)) :=
  gx_runi hw (va_runV (C := RX6) (As := []) (rest := rest) ⟨hx, hb, hml, hown, (fun _ h => nomatch h : ∀ w ∈ ([] : List Cond), w.before args s = true)⟩ (k_X6_growsTo hF) ⟨gx_callB (n := 0) rfl rfl hlink (gw_49 hV) (gw_368 hV) (by decide +kernel) ⟨hfr, hlo⟩, gw_366 hV, gw_367 hV⟩ (gx_recv (k := 44) (ci := 8) (T := TX6) hV hw (by decide) rfl rfl) rfl rfl hsz rfl (lv_room hrest) hdg ⟨hc, hs⟩) kk
set_option maxHeartbeats 4000000 in
set_option maxRecDepth 100000 in
theorem k_X6_faultPosition {l : Launch} {G : gx_G} {M : gx_S} {o : Int64} {d : UInt64} {I V : gx_F} {out : Int32} (hF : f_X6_faultPosition I V = some out) : gx_K l yX6_faultPosition cX6_faultPosition 1 (some .int) { frames := 0, cells := 0, slots := 0, locals := 0 } [.ref (G.2.1 44)] G (I, V) M o d (gx_Qi G out (I, V) M o d) 0 0 := by
  refine gx_begin (by decide +kernel) (Nat.le_of_ble_eq_true rfl) ?_
  intro p e s m below meth c hx hb hr hml hown hlocks hV hw ls hl
  have hown : s.vm.findClass RX6 = some m.cls := hown
  have hl : lv_has ls 1 [(0, .ref (G.2.1 44))] := hl
  unfold f_X6_faultPosition at hF
  refine lv_aload_n (pc := 0) hx hb dX6_faultPosition_0 rfl (lv_at hl 0 rfl) ?_
  refine gg_X6_10 (pc := 1) hx hb hown hV hw (gw_243 hV) dX6_faultPosition_1 ?_
  cases hF
  exact gx_iret hx hb hr hlocks hw dX6_faultPosition_4
set_option maxRecDepth 100000 in
theorem cl_X6_faultPosition {l : Launch} {G : gx_G} {M : gx_S} {o : Int64} {d : UInt64} {I V : gx_F} {p : Program} {e : Env} {R : Room} {s : State} {m : MethodId} {args : Array Value} {below : List Frame} {meth : Method} {c : Code} {H : Heap} {locs : List Loc} {cells slots : Nat} {Q : State → Prop} {cc : ByteArray} {pc nL index : Nat} {ls : Array Slot} {rest : List Value} {own : String} {out : Int32} (hx : p.tables.exec = Jvm.exec) (hb : c.code = cc) (hml : c.maxLocals = nL) (hown : s.vm.findClass own = some m.cls) (hV : gx_V G s) (hw : gx_at G (I, V) M o d s.heap H locs) (hF : f_X6_faultPosition I V = some out) (hlink : (Cond.methodLink own index yX6_faultPosition).before args s = true) (hsz : ls.size = nL) (hfr : 1 ≤ R.frames) (hlo : 20 ≤ R.locals) (hrest : (rest.map fun v => v.category).sum ≤ 8) (hdg : decode cc pc = .ok (.invokevirtual index, 3))
    (kk : ∀ (H1 : Heap) (locs1 : List Loc), gx_at G (I, V) M o d s.heap H1 locs1 → W p l e R s m args below meth c H1 locs1 cells slots Q (F0 m (pc + 3) ls (.int out :: rest))) (hc : cells ≤ R.cells := by exact Nat.zero_le _) (hs : slots ≤ R.slots := by exact Nat.zero_le _) : W p l e R s m args below meth c H locs cells slots Q (F0 m pc ls (.ref (G.2.1 44) :: rest)) :=
  gx_runi hw (va_runV (C := RX6) (As := []) (rest := rest) ⟨hx, hb, hml, hown, (fun _ h => nomatch h : ∀ w ∈ ([] : List Cond), w.before args s = true)⟩ (k_X6_faultPosition hF) ⟨gx_callB (n := 0) rfl rfl hlink (gw_49 hV) (gw_392 hV) (by decide +kernel) ⟨hfr, hlo⟩, gw_390 hV, gw_391 hV⟩ (gx_recv (k := 44) (ci := 8) (T := TX6) hV hw (by decide) rfl rfl) rfl rfl hsz rfl (lv_room hrest) hdg ⟨hc, hs⟩) kk
set_option maxHeartbeats 4000000 in
set_option maxRecDepth 100000 in
theorem k_X6_save {l : Launch} {G : gx_G} {M : gx_S} {o : Int64} {d : UInt64} {I V : gx_F} {out : (Int32 × gx_F × gx_F)} (hF : f_X6_save I V = some out) : gx_K l yX6_save cX6_save 1 (some .int) { frames := 3, cells := 0, slots := 0, locals := 101 } [.ref (G.2.1 44)] G (I, V) M o d (gx_Qi G out.1 (out.2.1, out.2.2) M o d) 0 0 := by
  refine gx_begin (by decide +kernel) (Nat.le_of_ble_eq_true rfl) ?_
  intro p e s m below meth c hx hb hr hml hown hlocks hV hw ls hl
  have hown : s.vm.findClass RX6 = some m.cls := hown
  have hl : lv_has ls 1 [(0, .ref (G.2.1 44))] := hl
  unfold f_X6_save at hF
  refine lv_aload_n (pc := 0) hx hb dX6_save_0 rfl (lv_at hl 0 rfl) ?_
  refine gg_X6_2 (pc := 1) hx hb hown hV hw (gw_235 hV) dX6_save_1 ?_
  refine lv_aload_n (pc := 4) hx hb dX6_save_4 rfl (lv_at hl 0 rfl) ?_
  refine gg_X6_0 (pc := 5) hx hb hown hV hw (gw_233 hV) dX6_save_5 ?_
  obtain ⟨uq_1, huq_1, hF⟩ := Option.bind_eq_some_iff.mp hF
  refine cl_X5_copyFrom (pc := 8) hx hb hml hown hV hw gx_w8 gx_w0 huq_1 (gw_369 hV) hl.1 (Nat.le_of_ble_eq_true rfl) (Nat.le_of_ble_eq_true rfl) (Nat.le_of_ble_eq_true rfl) dX6_save_8 (fun H locs hw => ?_)
  refine lv_aload_n (pc := 11) hx hb dX6_save_11 rfl (lv_at hl 0 rfl) ?_
  refine lv_iconst (pc := 12) (v := 1) hx hb dX6_save_12 (by decide) ?_
  refine gp_X6_3 (pc := 13) hx hb hown hV hw rfl rfl (gw_236 hV) dX6_save_13 (fun H locs hw => ?_)
  refine lv_aload_n (pc := 16) hx hb dX6_save_16 rfl (lv_at hl 0 rfl) ?_
  refine gg_X6_0 (pc := 17) hx hb hown hV hw (gw_233 hV) dX6_save_17 ?_
  obtain ⟨uq_2, huq_2, hF⟩ := Option.bind_eq_some_iff.mp hF
  refine cl_X5_brickCount (pc := 20) hx hb hml hown hV hw gx_w0 huq_2 (gw_277 hV) hl.1 (Nat.le_of_ble_eq_true rfl) (Nat.le_of_ble_eq_true rfl) (Nat.le_of_ble_eq_true rfl) dX6_save_20 (fun H locs hw => ?_)
  cases hF
  exact gx_iret hx hb hr hlocks hw dX6_save_23
set_option maxRecDepth 100000 in
theorem cl_X6_save {l : Launch} {G : gx_G} {M : gx_S} {o : Int64} {d : UInt64} {I V : gx_F} {p : Program} {e : Env} {R : Room} {s : State} {m : MethodId} {args : Array Value} {below : List Frame} {meth : Method} {c : Code} {H : Heap} {locs : List Loc} {cells slots : Nat} {Q : State → Prop} {cc : ByteArray} {pc nL index : Nat} {ls : Array Slot} {rest : List Value} {own : String} {out : (Int32 × gx_F × gx_F)} (hx : p.tables.exec = Jvm.exec) (hb : c.code = cc) (hml : c.maxLocals = nL) (hown : s.vm.findClass own = some m.cls) (hV : gx_V G s) (hw : gx_at G (I, V) M o d s.heap H locs) (hF : f_X6_save I V = some out) (hlink : (Cond.methodLink own index yX6_save).before args s = true) (hsz : ls.size = nL) (hfr : 4 ≤ R.frames) (hlo : 121 ≤ R.locals) (hrest : (rest.map fun v => v.category).sum ≤ 8) (hdg : decode cc pc = .ok (.invokevirtual index, 3))
    (kk : ∀ (H1 : Heap) (locs1 : List Loc), gx_at G (out.2.1, out.2.2) M o d s.heap H1 locs1 → W p l e R s m args below meth c H1 locs1 cells slots Q (F0 m (pc + 3) ls (.int out.1 :: rest))) (hc : cells ≤ R.cells := by exact Nat.zero_le _) (hs : slots ≤ R.slots := by exact Nat.zero_le _) : W p l e R s m args below meth c H locs cells slots Q (F0 m pc ls (.ref (G.2.1 44) :: rest)) :=
  gx_runi hw (va_runV (C := RX6) (As := []) (rest := rest) ⟨hx, hb, hml, hown, (fun _ h => nomatch h : ∀ w ∈ ([] : List Cond), w.before args s = true)⟩ (k_X6_save hF) ⟨gx_callB (n := 0) rfl rfl hlink (gw_49 hV) (gw_396 hV) (by decide +kernel) ⟨hfr, hlo⟩, gw_394 hV, gw_395 hV⟩ (gx_recv (k := 44) (ci := 8) (T := TX6) hV hw (by decide) rfl rfl) rfl rfl hsz rfl (lv_room hrest) hdg ⟨hc, hs⟩) kk
set_option maxHeartbeats 4000000 in
set_option maxRecDepth 100000 in
theorem k_X6_settled {l : Launch} {G : gx_G} {M : gx_S} {o : Int64} {d : UInt64} {I V : gx_F} {x1 : Int32} {out : (Int32 × gx_F × gx_F)} (hF : f_X6_settled x1 I V = some out) : gx_K l yX6_settled cX6_settled 2 (some .int) { frames := 3, cells := 0, slots := 0, locals := 122 } [.ref (G.2.1 44), .int x1] G (I, V) M o d (gx_Qi G out.1 (out.2.1, out.2.2) M o d) 0 0 := by
  refine gx_begin (by decide +kernel) (Nat.le_of_ble_eq_true rfl) ?_
  intro p e s m below meth c hx hb hr hml hown hlocks hV hw ls hl
  have hown : s.vm.findClass RX6 = some m.cls := hown
  have hl : lv_has ls 2 [(0, .ref (G.2.1 44)), (1, .int x1)] := hl
  unfold f_X6_settled at hF
  refine lv_iload_n (pc := 0) hx hb dX6_settled_0 rfl (lv_at hl 1 rfl) ?_
  refine lv_iconst (pc := 1) (v := (-1)) hx hb dX6_settled_1 (by decide) ?_
  refine gx_icmp_ne (pc := 2) (tgt := 13) hx hb hF dX6_settled_2 (by decide) (fun hF => ?_) (fun hF => ?_)
  · refine lv_aload_n (pc := 13) hx hb dX6_settled_13 rfl (lv_at hl 0 rfl) ?_
    refine gg_X6_4 (pc := 14) hx hb hown hV hw (gw_237 hV) dX6_settled_14 ?_
    refine lv_aload_n (pc := 17) hx hb dX6_settled_17 rfl (lv_at hl 0 rfl) ?_
    refine gg_X6_1 (pc := 18) hx hb hown hV hw (gw_234 hV) dX6_settled_18 ?_
    obtain ⟨uq_1, huq_1, hF⟩ := Option.bind_eq_some_iff.mp hF
    refine cl_X2_push (pc := 21) hx hb hml hown hV hw gx_w4 huq_1 (gw_420 hV) hl.1 (Nat.le_of_ble_eq_true rfl) (Nat.le_of_ble_eq_true rfl) (Nat.le_of_ble_eq_true rfl) dX6_settled_21 (fun H locs hw => ?_)
    refine lv_iload_n (pc := 24) hx hb dX6_settled_24 rfl (lv_at hl 1 rfl) ?_
    cases hF
    exact gx_iret hx hb hr hlocks hw dX6_settled_25
  refine lv_aload_n (pc := 5) hx hb dX6_settled_5 rfl (lv_at hl 0 rfl) ?_
  refine lv_iconst (pc := 6) (v := 0) hx hb dX6_settled_6 (by decide) ?_
  refine gp_X6_8 (pc := 7) hx hb hown hV hw (gw_241 hV) dX6_settled_7 (fun H locs hw => ?_)
  refine lv_goto (pc := 10) (tgt := 24) hx hb dX6_settled_10 (by decide) ?_
  refine lv_iload_n (pc := 24) hx hb dX6_settled_24 rfl (lv_at hl 1 rfl) ?_
  cases hF
  exact gx_iret hx hb hr hlocks hw dX6_settled_25
set_option maxRecDepth 100000 in
theorem cl_X6_settled {l : Launch} {G : gx_G} {M : gx_S} {o : Int64} {d : UInt64} {I V : gx_F} {p : Program} {e : Env} {R : Room} {s : State} {m : MethodId} {args : Array Value} {below : List Frame} {meth : Method} {c : Code} {H : Heap} {locs : List Loc} {cells slots : Nat} {Q : State → Prop} {cc : ByteArray} {pc nL index : Nat} {ls : Array Slot} {rest : List Value} {own : String} {x1 : Int32} {out : (Int32 × gx_F × gx_F)} (hx : p.tables.exec = Jvm.exec) (hb : c.code = cc) (hml : c.maxLocals = nL) (hown : s.vm.findClass own = some m.cls) (hV : gx_V G s) (hw : gx_at G (I, V) M o d s.heap H locs) (hF : f_X6_settled x1 I V = some out) (hlink : (Cond.methodLink own index yX6_settled).before args s = true) (hsz : ls.size = nL) (hfr : 4 ≤ R.frames) (hlo : 143 ≤ R.locals) (hrest : (rest.map fun v => v.category).sum ≤ 8) (hdg : decode cc pc = .ok (.invokevirtual index, 3))
    (kk : ∀ (H1 : Heap) (locs1 : List Loc), gx_at G (out.2.1, out.2.2) M o d s.heap H1 locs1 → W p l e R s m args below meth c H1 locs1 cells slots Q (F0 m (pc + 3) ls (.int out.1 :: rest))) (hc : cells ≤ R.cells := by exact Nat.zero_le _) (hs : slots ≤ R.slots := by exact Nat.zero_le _) : W p l e R s m args below meth c H locs cells slots Q (F0 m pc ls (.int x1 :: .ref (G.2.1 44) :: rest)) :=
  gx_runi hw (va_runV (C := RX6) (As := [.int x1]) (rest := rest) ⟨hx, hb, hml, hown, (fun _ h => nomatch h : ∀ w ∈ ([] : List Cond), w.before args s = true)⟩ (k_X6_settled hF) ⟨gx_callB (n := 1) rfl rfl hlink (gw_49 hV) (gw_419 hV) (by decide +kernel) ⟨hfr, hlo⟩, gw_418 hV, gw_5 hV⟩ (gx_recv (k := 44) (ci := 8) (T := TX6) hV hw (by decide) rfl rfl) rfl rfl hsz rfl (lv_room hrest) hdg ⟨hc, hs⟩) kk
set_option maxHeartbeats 4000000 in
set_option maxRecDepth 100000 in
theorem k_X6_carryOut {l : Launch} {G : gx_G} {M : gx_S} {o : Int64} {d : UInt64} {I V : gx_F} {x1 : Int32} {out : (Int32 × gx_F × gx_F)} (hF : f_X6_carryOut x1 I V = some out) : gx_K l yX6_carryOut cX6_carryOut 5 (some .int) { frames := 6, cells := 0, slots := 0, locals := 146 } [.ref (G.2.1 44), .int x1] G (I, V) M o d (gx_Qi G out.1 (out.2.1, out.2.2) M o d) 0 0 := by
  refine gx_begin (by decide +kernel) (Nat.le_of_ble_eq_true rfl) ?_
  intro p e s m below meth c hx hb hr hml hown hlocks hV hw ls hl
  have hown : s.vm.findClass RX6 = some m.cls := hown
  have hl : lv_has ls 5 [(0, .ref (G.2.1 44)), (1, .int x1)] := hl
  unfold f_X6_carryOut at hF
  refine lv_aload_n (pc := 0) hx hb dX6_carryOut_0 rfl (lv_at hl 0 rfl) ?_
  refine gg_X6_9 (pc := 1) hx hb hown hV hw (gw_242 hV) dX6_carryOut_1 ?_
  refine lv_iload_n (pc := 4) hx hb dX6_carryOut_4 rfl (lv_at hl 1 rfl) ?_
  refine lv_iconst (pc := 5) (v := 0) hx hb dX6_carryOut_5 (by decide) ?_
  obtain ⟨uq_1, huq_1, hF⟩ := Option.bind_eq_some_iff.mp hF
  refine cl_X4_numberOf (pc := 6) hx hb hml hown hV hw huq_1 (gw_902 hV) hl.1 (Nat.le_of_ble_eq_true rfl) (Nat.le_of_ble_eq_true rfl) (Nat.le_of_ble_eq_true rfl) dX6_carryOut_6 (fun H locs hw => ?_)
  refine lv_istore_n (pc := 9) (lv' := [(2, .int uq_1), (0, .ref (G.2.1 44)), (1, .int x1)]) hx hb dX6_carryOut_9 rfl hl (by decide) rfl (fun ls hl => ?_)
  refine lv_aload_n (pc := 10) hx hb dX6_carryOut_10 rfl (lv_at hl 1 rfl) ?_
  refine gg_X6_9 (pc := 11) hx hb hown hV hw (gw_242 hV) dX6_carryOut_11 ?_
  refine lv_iload_n (pc := 14) hx hb dX6_carryOut_14 rfl (lv_at hl 2 rfl) ?_
  refine lv_iconst (pc := 15) (v := 1) hx hb dX6_carryOut_15 (by decide) ?_
  obtain ⟨uq_2, huq_2, hF⟩ := Option.bind_eq_some_iff.mp hF
  refine cl_X4_numberOf (pc := 16) hx hb hml hown hV hw huq_2 (gw_902 hV) hl.1 (Nat.le_of_ble_eq_true rfl) (Nat.le_of_ble_eq_true rfl) (Nat.le_of_ble_eq_true rfl) dX6_carryOut_16 (fun H locs hw => ?_)
  refine lv_istore_n (pc := 19) (lv' := [(3, .int uq_2), (2, .int uq_1), (0, .ref (G.2.1 44)), (1, .int x1)]) hx hb dX6_carryOut_19 rfl hl (by decide) rfl (fun ls hl => ?_)
  refine lv_aload_n (pc := 20) hx hb dX6_carryOut_20 rfl (lv_at hl 2 rfl) ?_
  refine gg_X6_9 (pc := 21) hx hb hown hV hw (gw_242 hV) dX6_carryOut_21 ?_
  refine lv_iload_n (pc := 24) hx hb dX6_carryOut_24 rfl (lv_at hl 3 rfl) ?_
  refine lv_iconst (pc := 25) (v := 2) hx hb dX6_carryOut_25 (by decide) ?_
  obtain ⟨uq_3, huq_3, hF⟩ := Option.bind_eq_some_iff.mp hF
  refine cl_X4_numberOf (pc := 26) hx hb hml hown hV hw huq_3 (gw_902 hV) hl.1 (Nat.le_of_ble_eq_true rfl) (Nat.le_of_ble_eq_true rfl) (Nat.le_of_ble_eq_true rfl) dX6_carryOut_26 (fun H locs hw => ?_)
  refine lv_istore (pc := 29) (lv' := [(4, .int uq_3), (3, .int uq_2), (2, .int uq_1), (0, .ref (G.2.1 44)), (1, .int x1)]) hx hb dX6_carryOut_29 hl (by decide) rfl (fun ls hl => ?_)
  refine lv_aload_n (pc := 31) hx hb dX6_carryOut_31 rfl (lv_at hl 3 rfl) ?_
  refine gg_X6_9 (pc := 32) hx hb hown hV hw (gw_242 hV) dX6_carryOut_32 ?_
  refine lv_iload_n (pc := 35) hx hb dX6_carryOut_35 rfl (lv_at hl 4 rfl) ?_
  obtain ⟨uq_4, huq_4, hF⟩ := Option.bind_eq_some_iff.mp hF
  refine cl_X4_deedOf (pc := 36) hx hb hml hown hV hw huq_4 (gw_903 hV) hl.1 (Nat.le_of_ble_eq_true rfl) (Nat.le_of_ble_eq_true rfl) (Nat.le_of_ble_eq_true rfl) dX6_carryOut_36 (fun H locs hw => ?_)
  by_cases hs103 : uq_4 = 103
  · rw [if_pos hs103] at hF
    refine lv_tableIn (pc := 39) (off := 123) (tgt := 162) hx hb dX6_carryOut_39 (by rw [hs103]; decide) (by rw [hs103]; decide) (by rw [hs103]; rfl) (by decide) ?_
    refine lv_aload_n (pc := 162) hx hb dX6_carryOut_162 rfl (lv_at hl 3 rfl) ?_
    refine gg_X6_7 (pc := 163) hx hb hown hV hw (gw_240 hV) dX6_carryOut_163 ?_
    refine lv_aload_n (pc := 166) hx hb dX6_carryOut_166 rfl (lv_at hl 3 rfl) ?_
    refine gg_X6_0 (pc := 167) hx hb hown hV hw (gw_233 hV) dX6_carryOut_167 ?_
    refine lv_iload_n (pc := 170) hx hb dX6_carryOut_170 rfl (lv_at hl 2 rfl) ?_
    obtain ⟨uq_5, huq_5, hF⟩ := Option.bind_eq_some_iff.mp hF
    refine cl_X3_growBricks (pc := 171) hx hb hml hown hV hw gx_w0 huq_5 (gw_565 hV) hl.1 (Nat.le_of_ble_eq_true rfl) (Nat.le_of_ble_eq_true rfl) (Nat.le_of_ble_eq_true rfl) dX6_carryOut_171 (fun H locs hw => ?_)
    cases hF
    exact gx_iret hx hb hr hlocks hw dX6_carryOut_174
  rw [if_neg hs103] at hF
  by_cases hs107 : uq_4 = 107
  · rw [if_pos hs107] at hF
    refine lv_tableIn (pc := 39) (off := 69) (tgt := 108) hx hb dX6_carryOut_39 (by rw [hs107]; decide) (by rw [hs107]; decide) (by rw [hs107]; rfl) (by decide) ?_
    refine lv_aload_n (pc := 108) hx hb dX6_carryOut_108 rfl (lv_at hl 3 rfl) ?_
    refine gg_X6_7 (pc := 109) hx hb hown hV hw (gw_240 hV) dX6_carryOut_109 ?_
    refine lv_aload_n (pc := 112) hx hb dX6_carryOut_112 rfl (lv_at hl 3 rfl) ?_
    refine gg_X6_0 (pc := 113) hx hb hown hV hw (gw_233 hV) dX6_carryOut_113 ?_
    refine lv_iload_n (pc := 116) hx hb dX6_carryOut_116 rfl (lv_at hl 2 rfl) ?_
    refine lv_iload_n (pc := 117) hx hb dX6_carryOut_117 rfl (lv_at hl 1 rfl) ?_
    refine lv_iload (pc := 118) hx hb dX6_carryOut_118 (lv_at hl 0 rfl) ?_
    refine lv_aload_n (pc := 120) hx hb dX6_carryOut_120 rfl (lv_at hl 3 rfl) ?_
    refine gg_X6_9 (pc := 121) hx hb hown hV hw (gw_242 hV) dX6_carryOut_121 ?_
    refine lv_iload_n (pc := 124) hx hb dX6_carryOut_124 rfl (lv_at hl 4 rfl) ?_
    refine lv_iconst (pc := 125) (v := 3) hx hb dX6_carryOut_125 (by decide) ?_
    obtain ⟨uq_6, huq_6, hF⟩ := Option.bind_eq_some_iff.mp hF
    refine cl_X4_numberOf (pc := 126) hx hb hml hown hV hw huq_6 (gw_902 hV) hl.1 (Nat.le_of_ble_eq_true rfl) (Nat.le_of_ble_eq_true rfl) (Nat.le_of_ble_eq_true rfl) dX6_carryOut_126 (fun H locs hw => ?_)
    obtain ⟨uq_7, huq_7, hF⟩ := Option.bind_eq_some_iff.mp hF
    refine cl_X3_tellKind (pc := 129) hx hb hml hown hV hw gx_w0 huq_7 (gw_405 hV) hl.1 (Nat.le_of_ble_eq_true rfl) (Nat.le_of_ble_eq_true rfl) (Nat.le_of_ble_eq_true rfl) dX6_carryOut_129 (fun H locs hw => ?_)
    cases hF
    exact gx_iret hx hb hr hlocks hw dX6_carryOut_132
  rw [if_neg hs107] at hF
  by_cases hs108 : uq_4 = 108
  · rw [if_pos hs108] at hF
    refine lv_tableIn (pc := 39) (off := 94) (tgt := 133) hx hb dX6_carryOut_39 (by rw [hs108]; decide) (by rw [hs108]; decide) (by rw [hs108]; rfl) (by decide) ?_
    refine lv_aload_n (pc := 133) hx hb dX6_carryOut_133 rfl (lv_at hl 3 rfl) ?_
    refine gg_X6_7 (pc := 134) hx hb hown hV hw (gw_240 hV) dX6_carryOut_134 ?_
    refine lv_aload_n (pc := 137) hx hb dX6_carryOut_137 rfl (lv_at hl 3 rfl) ?_
    refine gg_X6_0 (pc := 138) hx hb hown hV hw (gw_233 hV) dX6_carryOut_138 ?_
    refine lv_iload_n (pc := 141) hx hb dX6_carryOut_141 rfl (lv_at hl 2 rfl) ?_
    refine lv_iload_n (pc := 142) hx hb dX6_carryOut_142 rfl (lv_at hl 1 rfl) ?_
    refine lv_iload (pc := 143) hx hb dX6_carryOut_143 (lv_at hl 0 rfl) ?_
    obtain ⟨uq_8, huq_8, hF⟩ := Option.bind_eq_some_iff.mp hF
    refine cl_X3_layBrick (pc := 145) hx hb hml hown hV hw gx_w0 huq_8 (gw_507 hV) hl.1 (Nat.le_of_ble_eq_true rfl) (Nat.le_of_ble_eq_true rfl) (Nat.le_of_ble_eq_true rfl) dX6_carryOut_145 (fun H locs hw => ?_)
    cases hF
    exact gx_iret hx hb hr hlocks hw dX6_carryOut_148
  rw [if_neg hs108] at hF
  by_cases hs115 : uq_4 = 115
  · rw [if_pos hs115] at hF
    refine lv_tableIn (pc := 39) (off := 136) (tgt := 175) hx hb dX6_carryOut_39 (by rw [hs115]; decide) (by rw [hs115]; decide) (by rw [hs115]; rfl) (by decide) ?_
    refine lv_aload_n (pc := 175) hx hb dX6_carryOut_175 rfl (lv_at hl 3 rfl) ?_
    refine gg_X6_7 (pc := 176) hx hb hown hV hw (gw_240 hV) dX6_carryOut_176 ?_
    refine lv_aload_n (pc := 179) hx hb dX6_carryOut_179 rfl (lv_at hl 3 rfl) ?_
    refine gg_X6_0 (pc := 180) hx hb hown hV hw (gw_233 hV) dX6_carryOut_180 ?_
    refine lv_iload_n (pc := 183) hx hb dX6_carryOut_183 rfl (lv_at hl 2 rfl) ?_
    refine lv_iload_n (pc := 184) hx hb dX6_carryOut_184 rfl (lv_at hl 1 rfl) ?_
    obtain ⟨uq_9, huq_9, hF⟩ := Option.bind_eq_some_iff.mp hF
    refine cl_X3_setStrength (pc := 185) hx hb hml hown hV hw gx_w0 huq_9 (gw_579 hV) hl.1 (Nat.le_of_ble_eq_true rfl) (Nat.le_of_ble_eq_true rfl) (Nat.le_of_ble_eq_true rfl) dX6_carryOut_185 (fun H locs hw => ?_)
    cases hF
    exact gx_iret hx hb hr hlocks hw dX6_carryOut_188
  rw [if_neg hs115] at hF
  by_cases hs116 : uq_4 = 116
  · rw [if_pos hs116] at hF
    refine lv_tableIn (pc := 39) (off := 110) (tgt := 149) hx hb dX6_carryOut_39 (by rw [hs116]; decide) (by rw [hs116]; decide) (by rw [hs116]; rfl) (by decide) ?_
    refine lv_aload_n (pc := 149) hx hb dX6_carryOut_149 rfl (lv_at hl 3 rfl) ?_
    refine gg_X6_7 (pc := 150) hx hb hown hV hw (gw_240 hV) dX6_carryOut_150 ?_
    refine lv_aload_n (pc := 153) hx hb dX6_carryOut_153 rfl (lv_at hl 3 rfl) ?_
    refine gg_X6_0 (pc := 154) hx hb hown hV hw (gw_233 hV) dX6_carryOut_154 ?_
    refine lv_iload_n (pc := 157) hx hb dX6_carryOut_157 rfl (lv_at hl 2 rfl) ?_
    obtain ⟨uq_10, huq_10, hF⟩ := Option.bind_eq_some_iff.mp hF
    refine cl_X3_takeBrick (pc := 158) hx hb hml hown hV hw gx_w0 huq_10 (gw_540 hV) hl.1 (Nat.le_of_ble_eq_true rfl) (Nat.le_of_ble_eq_true rfl) (Nat.le_of_ble_eq_true rfl) dX6_carryOut_158 (fun H locs hw => ?_)
    cases hF
    exact gx_iret hx hb hr hlocks hw dX6_carryOut_161
  rw [if_neg hs116] at hF
  refine gx_tableD (pc := 39) (tgt := 189) hx hb dX6_carryOut_39 [103, 107, 108, 115, 116] (List.forall_mem_cons.mpr ⟨hs103, (List.forall_mem_cons.mpr ⟨hs107, (List.forall_mem_cons.mpr ⟨hs108, (List.forall_mem_cons.mpr ⟨hs115, (List.forall_mem_cons.mpr ⟨hs116, (fun _ h => nomatch h)⟩)⟩)⟩)⟩)⟩) (by decide) (by decide) (by decide) ?_
  refine lv_aload_n (pc := 189) hx hb dX6_carryOut_189 rfl (lv_at hl 3 rfl) ?_
  refine gg_X6_7 (pc := 190) hx hb hown hV hw (gw_240 hV) dX6_carryOut_190 ?_
  refine lv_aload_n (pc := 193) hx hb dX6_carryOut_193 rfl (lv_at hl 3 rfl) ?_
  refine gg_X6_0 (pc := 194) hx hb hown hV hw (gw_233 hV) dX6_carryOut_194 ?_
  refine lv_iload_n (pc := 197) hx hb dX6_carryOut_197 rfl (lv_at hl 2 rfl) ?_
  obtain ⟨uq_11, huq_11, hF⟩ := Option.bind_eq_some_iff.mp hF
  refine cl_X3_setNeed (pc := 198) hx hb hml hown hV hw gx_w0 huq_11 (gw_591 hV) hl.1 (Nat.le_of_ble_eq_true rfl) (Nat.le_of_ble_eq_true rfl) (Nat.le_of_ble_eq_true rfl) dX6_carryOut_198 (fun H locs hw => ?_)
  cases hF
  exact gx_iret hx hb hr hlocks hw dX6_carryOut_201
set_option maxRecDepth 100000 in
theorem cl_X6_carryOut {l : Launch} {G : gx_G} {M : gx_S} {o : Int64} {d : UInt64} {I V : gx_F} {p : Program} {e : Env} {R : Room} {s : State} {m : MethodId} {args : Array Value} {below : List Frame} {meth : Method} {c : Code} {H : Heap} {locs : List Loc} {cells slots : Nat} {Q : State → Prop} {cc : ByteArray} {pc nL index : Nat} {ls : Array Slot} {rest : List Value} {own : String} {x1 : Int32} {out : (Int32 × gx_F × gx_F)} (hx : p.tables.exec = Jvm.exec) (hb : c.code = cc) (hml : c.maxLocals = nL) (hown : s.vm.findClass own = some m.cls) (hV : gx_V G s) (hw : gx_at G (I, V) M o d s.heap H locs) (hF : f_X6_carryOut x1 I V = some out) (hlink : (Cond.methodLink own index yX6_carryOut).before args s = true) (hsz : ls.size = nL) (hfr : 7 ≤ R.frames) (hlo : 170 ≤ R.locals) (hrest : (rest.map fun v => v.category).sum ≤ 8) (hdg : decode cc pc = .ok (.invokevirtual index, 3))
    (kk : ∀ (H1 : Heap) (locs1 : List Loc), gx_at G (out.2.1, out.2.2) M o d s.heap H1 locs1 → W p l e R s m args below meth c H1 locs1 cells slots Q (F0 m (pc + 3) ls (.int out.1 :: rest))) (hc : cells ≤ R.cells := by exact Nat.zero_le _) (hs : slots ≤ R.slots := by exact Nat.zero_le _) : W p l e R s m args below meth c H locs cells slots Q (F0 m pc ls (.int x1 :: .ref (G.2.1 44) :: rest)) :=
  gx_runi hw (va_runV (C := RX6) (As := [.int x1]) (rest := rest) ⟨hx, hb, hml, hown, (fun _ h => nomatch h : ∀ w ∈ ([] : List Cond), w.before args s = true)⟩ (k_X6_carryOut hF) ⟨gx_callB (n := 1) rfl rfl hlink (gw_49 hV) (gw_901 hV) (by decide +kernel) ⟨hfr, hlo⟩, gw_900 hV, gw_16 hV⟩ (gx_recv (k := 44) (ci := 8) (T := TX6) hV hw (by decide) rfl rfl) rfl rfl hsz rfl (lv_room hrest) hdg ⟨hc, hs⟩) kk
set_option maxHeartbeats 4000000 in
set_option maxRecDepth 100000 in
theorem k_X6_placeByHold {l : Launch} {G : gx_G} {M : gx_S} {o : Int64} {d : UInt64} {I V : gx_F} {x1 : Int32} {out : Int32} (hF : f_X6_placeByHold x1 I V = some out) : gx_K l yX6_placeByHold cX6_placeByHold 6 (some .int) { frames := 3, cells := 0, slots := 0, locals := 70 } [.ref (G.2.1 44), .int x1] G (I, V) M o d (gx_Qi G out (I, V) M o d) 0 0 := by
  refine gx_begin (by decide +kernel) (Nat.le_of_ble_eq_true rfl) ?_
  intro p e s m below meth c hx hb hr hml hown hlocks hV hw ls hl
  have hown : s.vm.findClass RX6 = some m.cls := hown
  have hl : lv_has ls 6 [(0, .ref (G.2.1 44)), (1, .int x1)] := hl
  unfold f_X6_placeByHold at hF
  refine lv_iconst (pc := 0) (v := 0) hx hb dX6_placeByHold_0 (by decide) ?_
  refine lv_istore_n (pc := 1) (lv' := [(2, .int 0), (0, .ref (G.2.1 44)), (1, .int x1)]) hx hb dX6_placeByHold_1 rfl hl (by decide) rfl (fun ls hl => ?_)
  refine lv_iconst (pc := 2) (v := 0) hx hb dX6_placeByHold_2 (by decide) ?_
  refine lv_istore_n (pc := 3) (lv' := [(3, .int 0), (2, .int 0), (0, .ref (G.2.1 44)), (1, .int x1)]) hx hb dX6_placeByHold_3 rfl hl (by decide) rfl (fun ls hl => ?_)
  have L1 : ∀ (n : Nat) (K1 : Int32 → Int32 → Option Int32) (uv_1 : Int32) (uv_2 : Int32) (H : Heap) (locs : List Loc) (ls : Array Slot), lv_has ls 6 [(3, .int uv_2), (2, .int uv_1), (0, .ref (G.2.1 44)), (1, .int x1)] → gx_at G (I, V) M o d s.heap H locs → f_X6_placeByHold_L1 x1 I V K1 n uv_1 uv_2 = some out → (∀ (uv_1 : Int32) (uv_2 : Int32) (H : Heap) (locs : List Loc) (ls : Array Slot), lv_has ls 6 [(3, .int uv_2), (2, .int uv_1), (0, .ref (G.2.1 44)), (1, .int x1)] → gx_at G (I, V) M o d s.heap H locs → K1 uv_1 uv_2 = some out → W p l e ({ frames := 3, cells := 0, slots := 0, locals := 70 } : Room) s m ([.ref (G.2.1 44), .int x1] : List Value).toArray below meth c H locs 0 0 (MQ below (gx_Qi G out (I, V) M o d) ([.ref (G.2.1 44), .int x1] : List Value).toArray s 0 0 (gx_A G)) (F0 m 75 ls [])) → W p l e ({ frames := 3, cells := 0, slots := 0, locals := 70 } : Room) s m ([.ref (G.2.1 44), .int x1] : List Value).toArray below meth c H locs 0 0 (MQ below (gx_Qi G out (I, V) M o d) ([.ref (G.2.1 44), .int x1] : List Value).toArray s 0 0 (gx_A G)) (F0 m 4 ls []) := by
    intro n
    induction n with
    | zero =>
      intro K1 uv_1 uv_2 H locs ls hl hw hF hK
      rw [f_X6_placeByHold_L1] at hF
      cases hF
    | succ n ih1 =>
      intro K1 uv_1 uv_2 H locs ls hl hw hF hK1
      rw [f_X6_placeByHold_L1] at hF
      refine lv_iload_n (pc := 4) hx hb dX6_placeByHold_4 rfl (lv_at hl 0 rfl) ?_
      refine lv_bipush (pc := 5) (v := 12) hx hb dX6_placeByHold_5 (by decide) ?_
      refine gx_icmp_gt (pc := 7) (tgt := 75) hx hb hF dX6_placeByHold_7 (by decide) (fun hF => ?_) (fun hF => ?_)
      · exact hK1 _ _ _ _ _ (lv_sub hl [0, 1, 2, 3] rfl) hw hF
      refine lv_iconst (pc := 10) (v := 0) hx hb dX6_placeByHold_10 (by decide) ?_
      refine lv_istore (pc := 11) (lv' := [(4, .int 0), (3, .int uv_2), (2, .int uv_1), (0, .ref (G.2.1 44)), (1, .int x1)]) hx hb dX6_placeByHold_11 hl (by decide) rfl (fun ls hl => ?_)
      have L2 : ∀ (n : Nat) (K2 : Int32 → Int32 → Option Int32) (uv_3 : Int32) (uv_4 : Int32) (H : Heap) (locs : List Loc) (ls : Array Slot), lv_has ls 6 [(4, .int uv_4), (3, .int uv_2), (2, .int uv_3), (0, .ref (G.2.1 44)), (1, .int x1)] → gx_at G (I, V) M o d s.heap H locs → f_X6_placeByHold_L2 x1 I V uv_2 K2 n uv_3 uv_4 = some out → (∀ (uv_3 : Int32) (uv_4 : Int32) (H : Heap) (locs : List Loc) (ls : Array Slot), lv_has ls 6 [(4, .int uv_4), (3, .int uv_2), (2, .int uv_3), (0, .ref (G.2.1 44)), (1, .int x1)] → gx_at G (I, V) M o d s.heap H locs → K2 uv_3 uv_4 = some out → W p l e ({ frames := 3, cells := 0, slots := 0, locals := 70 } : Room) s m ([.ref (G.2.1 44), .int x1] : List Value).toArray below meth c H locs 0 0 (MQ below (gx_Qi G out (I, V) M o d) ([.ref (G.2.1 44), .int x1] : List Value).toArray s 0 0 (gx_A G)) (F0 m 69 ls [])) → W p l e ({ frames := 3, cells := 0, slots := 0, locals := 70 } : Room) s m ([.ref (G.2.1 44), .int x1] : List Value).toArray below meth c H locs 0 0 (MQ below (gx_Qi G out (I, V) M o d) ([.ref (G.2.1 44), .int x1] : List Value).toArray s 0 0 (gx_A G)) (F0 m 13 ls []) := by
        intro n
        induction n with
        | zero =>
          intro K2 uv_3 uv_4 H locs ls hl hw hF hK
          rw [f_X6_placeByHold_L2] at hF
          cases hF
        | succ n ih2 =>
          intro K2 uv_3 uv_4 H locs ls hl hw hF hK2
          rw [f_X6_placeByHold_L2] at hF
          refine lv_iload (pc := 13) hx hb dX6_placeByHold_13 (lv_at hl 0 rfl) ?_
          refine lv_bipush (pc := 15) (v := 42) hx hb dX6_placeByHold_15 (by decide) ?_
          refine gx_icmp_ge (pc := 17) (tgt := 69) hx hb hF dX6_placeByHold_17 (by decide) (fun hF => ?_) (fun hF => ?_)
          · exact hK2 _ _ _ _ _ (lv_sub hl [0, 1, 2, 3, 4] rfl) hw hF
          refine lv_aload_n (pc := 20) hx hb dX6_placeByHold_20 rfl (lv_at hl 3 rfl) ?_
          refine gg_X6_0 (pc := 21) hx hb hown hV hw (gw_233 hV) dX6_placeByHold_21 ?_
          refine lv_iload (pc := 24) hx hb dX6_placeByHold_24 (lv_at hl 0 rfl) ?_
          obtain ⟨uq_5, huq_5, hF⟩ := Option.bind_eq_some_iff.mp hF
          refine cl_X5_brickOn (pc := 26) hx hb hml hown hV hw gx_w0 huq_5 (gw_679 hV) hl.1 (Nat.le_of_ble_eq_true rfl) (Nat.le_of_ble_eq_true rfl) (Nat.le_of_ble_eq_true rfl) dX6_placeByHold_26 (fun H locs hw => ?_)
          refine lv_istore (pc := 29) (lv' := [(5, .int uq_5), (4, .int uv_4), (3, .int uv_2), (2, .int uv_3), (0, .ref (G.2.1 44)), (1, .int x1)]) hx hb dX6_placeByHold_29 hl (by decide) rfl (fun ls hl => ?_)
          refine lv_iload (pc := 31) hx hb dX6_placeByHold_31 (lv_at hl 0 rfl) ?_
          refine lv_iconst (pc := 33) (v := (-1)) hx hb dX6_placeByHold_33 (by decide) ?_
          refine gx_icmp_eq (pc := 34) (tgt := 63) hx hb hF dX6_placeByHold_34 (by decide) (fun hF => ?_) (fun hF => ?_)
          · refine lv_iinc (pc := 63) (v := (uv_4 + 1)) (lv' := [(4, .int (uv_4 + 1)), (5, .int uq_5), (3, .int uv_2), (2, .int uv_3), (0, .ref (G.2.1 44)), (1, .int x1)]) hx hb dX6_placeByHold_63 hl (k := 1) rfl rfl (by decide) rfl (fun ls hl => ?_)
            refine lv_goto (pc := 66) (tgt := 13) hx hb dX6_placeByHold_66 (by decide) ?_
            exact ih2 _ _ _ _ _ _ (lv_sub hl [0, 2, 3, 4, 5] rfl) hw hF hK2
          refine lv_aload_n (pc := 37) hx hb dX6_placeByHold_37 rfl (lv_at hl 4 rfl) ?_
          refine gg_X6_0 (pc := 38) hx hb hown hV hw (gw_233 hV) dX6_placeByHold_38 ?_
          refine lv_iload (pc := 41) hx hb dX6_placeByHold_41 (lv_at hl 0 rfl) ?_
          refine lv_iload (pc := 43) hx hb dX6_placeByHold_43 (lv_at hl 1 rfl) ?_
          obtain ⟨uq_6, huq_6, hF⟩ := Option.bind_eq_some_iff.mp hF
          refine cl_X5_holdFor (pc := 45) hx hb hml hown hV hw gx_w0 huq_6 (gw_715 hV) hl.1 (Nat.le_of_ble_eq_true rfl) (Nat.le_of_ble_eq_true rfl) (Nat.le_of_ble_eq_true rfl) dX6_placeByHold_45 (fun H locs hw => ?_)
          refine lv_iload_n (pc := 48) hx hb dX6_placeByHold_48 rfl (lv_at hl 2 rfl) ?_
          refine gx_icmp_ne (pc := 49) (tgt := 63) hx hb hF dX6_placeByHold_49 (by decide) (fun hF => ?_) (fun hF => ?_)
          · refine lv_iinc (pc := 63) (v := (uv_4 + 1)) (lv' := [(4, .int (uv_4 + 1)), (5, .int uq_5), (3, .int uv_2), (2, .int uv_3), (0, .ref (G.2.1 44)), (1, .int x1)]) hx hb dX6_placeByHold_63 hl (k := 1) rfl rfl (by decide) rfl (fun ls hl => ?_)
            refine lv_goto (pc := 66) (tgt := 13) hx hb dX6_placeByHold_66 (by decide) ?_
            exact ih2 _ _ _ _ _ _ (lv_sub hl [0, 2, 3, 4, 5] rfl) hw hF hK2
          refine lv_iload_n (pc := 52) hx hb dX6_placeByHold_52 rfl (lv_at hl 3 rfl) ?_
          refine lv_iload_n (pc := 53) hx hb dX6_placeByHold_53 rfl (lv_at hl 5 rfl) ?_
          refine gx_icmp_ne (pc := 54) (tgt := 60) hx hb hF dX6_placeByHold_54 (by decide) (fun hF => ?_) (fun hF => ?_)
          · refine lv_iinc (pc := 60) (v := (uv_3 + 1)) (lv' := [(2, .int (uv_3 + 1)), (5, .int uq_5), (4, .int uv_4), (3, .int uv_2), (0, .ref (G.2.1 44)), (1, .int x1)]) hx hb dX6_placeByHold_60 hl (k := 3) rfl rfl (by decide) rfl (fun ls hl => ?_)
            refine lv_iinc (pc := 63) (v := (uv_4 + 1)) (lv' := [(4, .int (uv_4 + 1)), (2, .int (uv_3 + 1)), (5, .int uq_5), (3, .int uv_2), (0, .ref (G.2.1 44)), (1, .int x1)]) hx hb dX6_placeByHold_63 hl (k := 2) rfl rfl (by decide) rfl (fun ls hl => ?_)
            refine lv_goto (pc := 66) (tgt := 13) hx hb dX6_placeByHold_66 (by decide) ?_
            exact ih2 _ _ _ _ _ _ (lv_sub hl [0, 3, 1, 4, 5] rfl) hw hF hK2
          refine lv_iload (pc := 57) hx hb dX6_placeByHold_57 (lv_at hl 1 rfl) ?_
          cases hF
          exact gx_iret hx hb hr hlocks hw dX6_placeByHold_59
      refine L2 1000 _ _ _ _ _ _ hl hw hF (fun uv_7 uv_8 H locs ls hl hw hF => ?_)
      refine lv_iinc (pc := 69) (v := (uv_2 + 1)) (lv' := [(3, .int (uv_2 + 1)), (4, .int uv_8), (2, .int uv_7), (0, .ref (G.2.1 44)), (1, .int x1)]) hx hb dX6_placeByHold_69 hl (k := 1) rfl rfl (by decide) rfl (fun ls hl => ?_)
      refine lv_goto (pc := 72) (tgt := 4) hx hb dX6_placeByHold_72 (by decide) ?_
      exact ih1 _ _ _ _ _ _ (lv_sub hl [0, 2, 3, 4] rfl) hw hF hK1
  refine L1 1000 _ _ _ _ _ _ hl hw hF (fun uv_9 uv_10 H locs ls hl hw hF => ?_)
  refine lv_iconst (pc := 75) (v := (-1)) hx hb dX6_placeByHold_75 (by decide) ?_
  cases hF
  exact gx_iret hx hb hr hlocks hw dX6_placeByHold_76
set_option maxRecDepth 100000 in
theorem cl_X6_placeByHold {l : Launch} {G : gx_G} {M : gx_S} {o : Int64} {d : UInt64} {I V : gx_F} {p : Program} {e : Env} {R : Room} {s : State} {m : MethodId} {args : Array Value} {below : List Frame} {meth : Method} {c : Code} {H : Heap} {locs : List Loc} {cells slots : Nat} {Q : State → Prop} {cc : ByteArray} {pc nL index : Nat} {ls : Array Slot} {rest : List Value} {own : String} {x1 : Int32} {out : Int32} (hx : p.tables.exec = Jvm.exec) (hb : c.code = cc) (hml : c.maxLocals = nL) (hown : s.vm.findClass own = some m.cls) (hV : gx_V G s) (hw : gx_at G (I, V) M o d s.heap H locs) (hF : f_X6_placeByHold x1 I V = some out) (hlink : (Cond.methodLink own index yX6_placeByHold).before args s = true) (hsz : ls.size = nL) (hfr : 4 ≤ R.frames) (hlo : 95 ≤ R.locals) (hrest : (rest.map fun v => v.category).sum ≤ 8) (hdg : decode cc pc = .ok (.invokevirtual index, 3))
    (kk : ∀ (H1 : Heap) (locs1 : List Loc), gx_at G (I, V) M o d s.heap H1 locs1 → W p l e R s m args below meth c H1 locs1 cells slots Q (F0 m (pc + 3) ls (.int out :: rest))) (hc : cells ≤ R.cells := by exact Nat.zero_le _) (hs : slots ≤ R.slots := by exact Nat.zero_le _) : W p l e R s m args below meth c H locs cells slots Q (F0 m pc ls (.int x1 :: .ref (G.2.1 44) :: rest)) :=
  gx_runi hw (va_runV (C := RX6) (As := [.int x1]) (rest := rest) ⟨hx, hb, hml, hown, (fun _ h => nomatch h : ∀ w ∈ ([] : List Cond), w.before args s = true)⟩ (k_X6_placeByHold hF) ⟨gx_callB (n := 1) rfl rfl hlink (gw_49 hV) (gw_811 hV) (by decide +kernel) ⟨hfr, hlo⟩, gw_810 hV, gw_7 hV⟩ (gx_recv (k := 44) (ci := 8) (T := TX6) hV hw (by decide) rfl rfl) rfl rfl hsz rfl (lv_room hrest) hdg ⟨hc, hs⟩) kk
set_option maxHeartbeats 4000000 in
set_option maxRecDepth 100000 in
theorem k_X6_writeSign {l : Launch} {G : gx_G} {M : gx_S} {o : Int64} {d : UInt64} {I V : gx_F} {x1 : Int32} {out : (gx_F × gx_F)} (hF : f_X6_writeSign x1 I V = some out) : gx_K l yX6_writeSign cX6_writeSign 2 none { frames := 0, cells := 0, slots := 0, locals := 0 } [.ref (G.2.1 44), .int x1] G (I, V) M o d (gx_Qv G (out.1, out.2) M o d) 0 0 := by
  refine gx_begin (by decide +kernel) (Nat.le_of_ble_eq_true rfl) ?_
  intro p e s m below meth c hx hb hr hml hown hlocks hV hw ls hl
  have hown : s.vm.findClass RX6 = some m.cls := hown
  have hl : lv_has ls 2 [(0, .ref (G.2.1 44)), (1, .int x1)] := hl
  unfold f_X6_writeSign at hF
  refine lv_aload_n (pc := 0) hx hb dX6_writeSign_0 rfl (lv_at hl 0 rfl) ?_
  refine gg_X6_12 (pc := 1) hx hb hown hV hw (gw_245 hV) dX6_writeSign_1 ?_
  refine lv_bipush (pc := 4) (v := 28) hx hb dX6_writeSign_4 (by decide) ?_
  refine gx_icmp_ge (pc := 6) (tgt := 29) hx hb hF dX6_writeSign_6 (by decide) (fun hF => ?_) (fun hF => ?_)
  · cases hF
    exact gx_vret hx hb hr hlocks hw dX6_writeSign_29
  refine lv_aload_n (pc := 9) hx hb dX6_writeSign_9 rfl (lv_at hl 0 rfl) ?_
  refine gg_X6_11 (pc := 10) hx hb hown hV hw (gw_244 hV) dX6_writeSign_10 ?_
  refine lv_aload_n (pc := 13) hx hb dX6_writeSign_13 rfl (lv_at hl 0 rfl) ?_
  refine gg_X6_12 (pc := 14) hx hb hown hV hw (gw_245 hV) dX6_writeSign_14 ?_
  refine lv_iload_n (pc := 17) hx hb dX6_writeSign_17 rfl (lv_at hl 1 rfl) ?_
  refine ga_45_st (pc := 18) hx hb hV hw hF dX6_writeSign_18 (fun H locs hw hF => ?_)
  refine lv_aload_n (pc := 19) hx hb dX6_writeSign_19 rfl (lv_at hl 0 rfl) ?_
  refine lv_dup (pc := 20) hx hb dX6_writeSign_20 rfl ?_
  refine gg_X6_12 (pc := 21) hx hb hown hV hw (gw_245 hV) dX6_writeSign_21 ?_
  refine lv_iconst (pc := 24) (v := 1) hx hb dX6_writeSign_24 (by decide) ?_
  refine lv_iadd (pc := 25) hx hb dX6_writeSign_25 ?_
  refine gp_X6_12 (pc := 26) hx hb hown hV hw (gw_245 hV) dX6_writeSign_26 (fun H locs hw => ?_)
  cases hF
  exact gx_vret hx hb hr hlocks hw dX6_writeSign_29
set_option maxRecDepth 100000 in
theorem cl_X6_writeSign {l : Launch} {G : gx_G} {M : gx_S} {o : Int64} {d : UInt64} {I V : gx_F} {p : Program} {e : Env} {R : Room} {s : State} {m : MethodId} {args : Array Value} {below : List Frame} {meth : Method} {c : Code} {H : Heap} {locs : List Loc} {cells slots : Nat} {Q : State → Prop} {cc : ByteArray} {pc nL index : Nat} {ls : Array Slot} {rest : List Value} {own : String} {x1 : Int32} {out : (gx_F × gx_F)} (hx : p.tables.exec = Jvm.exec) (hb : c.code = cc) (hml : c.maxLocals = nL) (hown : s.vm.findClass own = some m.cls) (hV : gx_V G s) (hw : gx_at G (I, V) M o d s.heap H locs) (hF : f_X6_writeSign x1 I V = some out) (hlink : (Cond.methodLink own index yX6_writeSign).before args s = true) (hsz : ls.size = nL) (hfr : 1 ≤ R.frames) (hlo : 21 ≤ R.locals) (hrest : (rest.map fun v => v.category).sum ≤ 8) (hdg : decode cc pc = .ok (.invokevirtual index, 3))
    (kk : ∀ (H1 : Heap) (locs1 : List Loc), gx_at G (out.1, out.2) M o d s.heap H1 locs1 → W p l e R s m args below meth c H1 locs1 cells slots Q (F0 m (pc + 3) ls (rest))) (hc : cells ≤ R.cells := by exact Nat.zero_le _) (hs : slots ≤ R.slots := by exact Nat.zero_le _) : W p l e R s m args below meth c H locs cells slots Q (F0 m pc ls (.int x1 :: .ref (G.2.1 44) :: rest)) :=
  gx_runv hw (va_runV (C := RX6) (As := [.int x1]) (rest := rest) ⟨hx, hb, hml, hown, (fun _ h => nomatch h : ∀ w ∈ ([] : List Cond), w.before args s = true)⟩ (k_X6_writeSign hF) ⟨gx_callB (n := 1) rfl rfl hlink (gw_49 hV) (gw_932 hV) (by decide +kernel) ⟨hfr, hlo⟩, gw_931 hV, gw_18 hV⟩ (gx_recv (k := 44) (ci := 8) (T := TX6) hV hw (by decide) rfl rfl) rfl rfl hsz rfl (lv_room hrest) hdg ⟨hc, hs⟩) kk
set_option maxHeartbeats 4000000 in
set_option maxRecDepth 100000 in
theorem k_X6_writePlace {l : Launch} {G : gx_G} {M : gx_S} {o : Int64} {d : UInt64} {I V : gx_F} {x1 : Int32} {out : (gx_F × gx_F)} (hF : f_X6_writePlace x1 I V = some out) : gx_K l yX6_writePlace cX6_writePlace 3 none { frames := 1, cells := 0, slots := 0, locals := 21 } [.ref (G.2.1 44), .int x1] G (I, V) M o d (gx_Qv G (out.1, out.2) M o d) 0 0 := by
  refine gx_begin (by decide +kernel) (Nat.le_of_ble_eq_true rfl) ?_
  intro p e s m below meth c hx hb hr hml hown hlocks hV hw ls hl
  have hown : s.vm.findClass RX6 = some m.cls := hown
  have hl : lv_has ls 3 [(0, .ref (G.2.1 44)), (1, .int x1)] := hl
  unfold f_X6_writePlace at hF
  refine lv_iload_n (pc := 0) hx hb dX6_writePlace_0 rfl (lv_at hl 1 rfl) ?_
  refine lv_iconst (pc := 1) (v := (-1)) hx hb dX6_writePlace_1 (by decide) ?_
  refine gx_icmp_ne (pc := 2) (tgt := 12) hx hb hF dX6_writePlace_2 (by decide) (fun hF => ?_) (fun hF => ?_)
  · refine lv_aload_n (pc := 12) hx hb dX6_writePlace_12 rfl (lv_at hl 0 rfl) ?_
    refine lv_bipush (pc := 13) (v := 48) hx hb dX6_writePlace_13 (by decide) ?_
    refine lv_iload_n (pc := 15) hx hb dX6_writePlace_15 rfl (lv_at hl 1 rfl) ?_
    obtain ⟨uq_1, huq_1, hF⟩ := Option.bind_eq_some_iff.mp hF
    refine cl_X6_kindOf (pc := 16) hx hb hml hown hV hw huq_1 (gw_699 hV) hl.1 (Nat.le_of_ble_eq_true rfl) (Nat.le_of_ble_eq_true rfl) (Nat.le_of_ble_eq_true rfl) dX6_writePlace_16 (fun H locs hw => ?_)
    refine lv_iadd (pc := 19) hx hb dX6_writePlace_19 ?_
    refine lv_i2c (pc := 20) (v := (gx_i2c (48 + uq_1))) hx hb dX6_writePlace_20 rfl ?_
    obtain ⟨uq_2, huq_2, hF⟩ := Option.bind_eq_some_iff.mp hF
    refine cl_X6_writeSign (pc := 21) hx hb hml hown hV hw huq_2 (gw_929 hV) hl.1 (Nat.le_of_ble_eq_true rfl) (Nat.le_of_ble_eq_true rfl) (Nat.le_of_ble_eq_true rfl) dX6_writePlace_21 (fun H locs hw => ?_)
    refine lv_iconst (pc := 24) (v := 0) hx hb dX6_writePlace_24 (by decide) ?_
    refine lv_istore_n (pc := 25) (lv' := [(2, .int 0), (0, .ref (G.2.1 44)), (1, .int x1)]) hx hb dX6_writePlace_25 rfl hl (by decide) rfl (fun ls hl => ?_)
    have L1 : ∀ (n : Nat) (K1 : Int32 → gx_F → gx_F → Option (gx_F × gx_F)) (uv_3 : Int32) (uI_4 : gx_F) (uV_5 : gx_F) (H : Heap) (locs : List Loc) (ls : Array Slot), lv_has ls 3 [(2, .int uv_3), (0, .ref (G.2.1 44)), (1, .int x1)] → gx_at G (uI_4, uV_5) M o d s.heap H locs → f_X6_writePlace_L1 x1 K1 n uv_3 uI_4 uV_5 = some out → (∀ (uv_3 : Int32) (uI_4 : gx_F) (uV_5 : gx_F) (H : Heap) (locs : List Loc) (ls : Array Slot), lv_has ls 3 [(2, .int uv_3), (0, .ref (G.2.1 44)), (1, .int x1)] → gx_at G (uI_4, uV_5) M o d s.heap H locs → K1 uv_3 uI_4 uV_5 = some out → W p l e ({ frames := 1, cells := 0, slots := 0, locals := 21 } : Room) s m ([.ref (G.2.1 44), .int x1] : List Value).toArray below meth c H locs 0 0 (MQ below (gx_Qv G (out.1, out.2) M o d) ([.ref (G.2.1 44), .int x1] : List Value).toArray s 0 0 (gx_A G)) (F0 m 46 ls [])) → W p l e ({ frames := 1, cells := 0, slots := 0, locals := 21 } : Room) s m ([.ref (G.2.1 44), .int x1] : List Value).toArray below meth c H locs 0 0 (MQ below (gx_Qv G (out.1, out.2) M o d) ([.ref (G.2.1 44), .int x1] : List Value).toArray s 0 0 (gx_A G)) (F0 m 26 ls []) := by
      intro n
      induction n with
      | zero =>
        intro K1 uv_3 uI_4 uV_5 H locs ls hl hw hF hK
        rw [f_X6_writePlace_L1] at hF
        cases hF
      | succ n ih1 =>
        intro K1 uv_3 uI_4 uV_5 H locs ls hl hw hF hK1
        rw [f_X6_writePlace_L1] at hF
        refine lv_iload_n (pc := 26) hx hb dX6_writePlace_26 rfl (lv_at hl 0 rfl) ?_
        refine lv_iload_n (pc := 27) hx hb dX6_writePlace_27 rfl (lv_at hl 2 rfl) ?_
        obtain ⟨uq_6, huq_6, hF⟩ := Option.bind_eq_some_iff.mp hF
        refine cl_X6_turnOf (pc := 28) hx hb hml hown hV hw huq_6 (gw_696 hV) hl.1 (Nat.le_of_ble_eq_true rfl) (Nat.le_of_ble_eq_true rfl) (Nat.le_of_ble_eq_true rfl) dX6_writePlace_28 (fun H locs hw => ?_)
        refine gx_icmp_ge (pc := 31) (tgt := 46) hx hb hF dX6_writePlace_31 (by decide) (fun hF => ?_) (fun hF => ?_)
        · exact hK1 _ _ _ _ _ _ (lv_sub hl [0, 1, 2] rfl) hw hF
        refine lv_aload_n (pc := 34) hx hb dX6_writePlace_34 rfl (lv_at hl 1 rfl) ?_
        refine lv_bipush (pc := 35) (v := 42) hx hb dX6_writePlace_35 (by decide) ?_
        obtain ⟨uq_7, huq_7, hF⟩ := Option.bind_eq_some_iff.mp hF
        refine cl_X6_writeSign (pc := 37) hx hb hml hown hV hw huq_7 (gw_929 hV) hl.1 (Nat.le_of_ble_eq_true rfl) (Nat.le_of_ble_eq_true rfl) (Nat.le_of_ble_eq_true rfl) dX6_writePlace_37 (fun H locs hw => ?_)
        refine lv_iinc (pc := 40) (v := (uv_3 + 1)) (lv' := [(2, .int (uv_3 + 1)), (0, .ref (G.2.1 44)), (1, .int x1)]) hx hb dX6_writePlace_40 hl (k := 0) rfl rfl (by decide) rfl (fun ls hl => ?_)
        refine lv_goto (pc := 43) (tgt := 26) hx hb dX6_writePlace_43 (by decide) ?_
        exact ih1 _ _ _ _ _ _ _ (lv_sub hl [0, 1, 2] rfl) hw hF hK1
    refine L1 1000 _ _ _ _ _ _ _ hl hw hF (fun uv_8 uI_9 uV_10 H locs ls hl hw hF => ?_)
    cases hF
    exact gx_vret hx hb hr hlocks hw dX6_writePlace_46
  refine lv_aload_n (pc := 5) hx hb dX6_writePlace_5 rfl (lv_at hl 0 rfl) ?_
  refine lv_bipush (pc := 6) (v := 46) hx hb dX6_writePlace_6 (by decide) ?_
  obtain ⟨uq_11, huq_11, hF⟩ := Option.bind_eq_some_iff.mp hF
  refine cl_X6_writeSign (pc := 8) hx hb hml hown hV hw huq_11 (gw_929 hV) hl.1 (Nat.le_of_ble_eq_true rfl) (Nat.le_of_ble_eq_true rfl) (Nat.le_of_ble_eq_true rfl) dX6_writePlace_8 (fun H locs hw => ?_)
  cases hF
  exact gx_vret hx hb hr hlocks hw dX6_writePlace_11
set_option maxRecDepth 100000 in
theorem cl_X6_writePlace {l : Launch} {G : gx_G} {M : gx_S} {o : Int64} {d : UInt64} {I V : gx_F} {p : Program} {e : Env} {R : Room} {s : State} {m : MethodId} {args : Array Value} {below : List Frame} {meth : Method} {c : Code} {H : Heap} {locs : List Loc} {cells slots : Nat} {Q : State → Prop} {cc : ByteArray} {pc nL index : Nat} {ls : Array Slot} {rest : List Value} {own : String} {x1 : Int32} {out : (gx_F × gx_F)} (hx : p.tables.exec = Jvm.exec) (hb : c.code = cc) (hml : c.maxLocals = nL) (hown : s.vm.findClass own = some m.cls) (hV : gx_V G s) (hw : gx_at G (I, V) M o d s.heap H locs) (hF : f_X6_writePlace x1 I V = some out) (hlink : (Cond.methodLink own index yX6_writePlace).before args s = true) (hsz : ls.size = nL) (hfr : 2 ≤ R.frames) (hlo : 43 ≤ R.locals) (hrest : (rest.map fun v => v.category).sum ≤ 8) (hdg : decode cc pc = .ok (.invokevirtual index, 3))
    (kk : ∀ (H1 : Heap) (locs1 : List Loc), gx_at G (out.1, out.2) M o d s.heap H1 locs1 → W p l e R s m args below meth c H1 locs1 cells slots Q (F0 m (pc + 3) ls (rest))) (hc : cells ≤ R.cells := by exact Nat.zero_le _) (hs : slots ≤ R.slots := by exact Nat.zero_le _) : W p l e R s m args below meth c H locs cells slots Q (F0 m pc ls (.int x1 :: .ref (G.2.1 44) :: rest)) :=
  gx_runv hw (va_runV (C := RX6) (As := [.int x1]) (rest := rest) ⟨hx, hb, hml, hown, (fun _ h => nomatch h : ∀ w ∈ ([] : List Cond), w.before args s = true)⟩ (k_X6_writePlace hF) ⟨gx_callB (n := 1) rfl rfl hlink (gw_49 hV) (gw_928 hV) (by decide +kernel) ⟨hfr, hlo⟩, gw_927 hV, gw_17 hV⟩ (gx_recv (k := 44) (ci := 8) (T := TX6) hV hw (by decide) rfl rfl) rfl rfl hsz rfl (lv_room hrest) hdg ⟨hc, hs⟩) kk
