set_option maxHeartbeats 4000000 in
set_option maxRecDepth 100000 in
theorem k_X7_thrown {l : Launch} {G : gx_G} {C : gx_S} {o : Int64} {d : UInt64} {I V : gx_F} {out : Int32} (hF : f_X7_thrown I V = some out) : gx_K l yX7_thrown cX7_thrown 1 (some .int) { frames := 0, cells := 0, slots := 0, locals := 0 } [.ref (G.2.1 58)] G C (I, V) o d (gx_Qi G out C (I, V) o d) 0 0 := by
  refine gx_begin (by decide +kernel) (Nat.le_of_ble_eq_true rfl) ?_
  intro p e s m below meth c hx hb hr hml hown hlocks hV hw ls hl
  have hown : s.vm.findClass RX7 = some m.cls := hown
  have hl : lv_has ls 1 [(0, .ref (G.2.1 58))] := hl
  unfold f_X7_thrown at hF
  refine lv_aload_n (pc := 0) hx hb dX7_thrown_0 rfl (lv_at hl 0 rfl) ?_
  refine gg_X7_9 (pc := 1) hx hb hown hV hw (gw_1027 hV) dX7_thrown_1 ?_
  cases hF
  exact gx_iret hx hb hr hlocks hw dX7_thrown_4
set_option maxRecDepth 100000 in
theorem cl_X7_thrown {l : Launch} {G : gx_G} {C : gx_S} {o : Int64} {d : UInt64} {I V : gx_F} {p : Program} {e : Env} {R : Room} {s : State} {m : MethodId} {args : Array Value} {below : List Frame} {meth : Method} {c : Code} {H : Heap} {locs : List Loc} {cells slots : Nat} {Q : State → Prop} {cc : ByteArray} {pc nL index : Nat} {ls : Array Slot} {rest : List Value} {own : String} {out : Int32} (hx : p.tables.exec = Jvm.exec) (hb : c.code = cc) (hml : c.maxLocals = nL) (hown : s.vm.findClass own = some m.cls) (hV : gx_V G s) (hw : gx_at G C (I, V) o d s.heap H locs) (hF : f_X7_thrown I V = some out) (hlink : (Cond.methodLink own index yX7_thrown).before args s = true) (hsz : ls.size = nL) (hfr : 1 ≤ R.frames) (hlo : 20 ≤ R.locals) (hrest : (rest.map fun v => v.category).sum ≤ 8) (hdg : decode cc pc = .ok (.invokevirtual index, 3))
    (kk : ∀ (H1 : Heap) (locs1 : List Loc), gx_at G C (I, V) o d s.heap H1 locs1 → W p l e R s m args below meth c H1 locs1 cells slots Q (F0 m (pc + 3) ls (.int out :: rest))) (hc : cells ≤ R.cells := by exact Nat.zero_le _) (hs : slots ≤ R.slots := by exact Nat.zero_le _) : W p l e R s m args below meth c H locs cells slots Q (F0 m pc ls (.ref (G.2.1 58) :: rest)) :=
  gx_runi hw (va_runV (C := RX7) (As := []) (rest := rest) ⟨hx, hb, hml, hown, (fun _ h => nomatch h : ∀ w ∈ ([] : List Cond), w.before args s = true)⟩ (k_X7_thrown hF) ⟨gx_callB (n := 0) rfl rfl hlink (gw_56 hV) (gw_1088 hV) (by decide +kernel) ⟨hfr, hlo⟩, gw_1086 hV, gw_1087 hV⟩ (gx_recv (k := 58) (ci := 9) (T := TX7) hV hw (by decide) rfl rfl) rfl rfl hsz rfl (lv_room hrest) hdg ⟨hc, hs⟩) kk
set_option maxHeartbeats 4000000 in
set_option maxRecDepth 100000 in
theorem k_X7_fails {l : Launch} {G : gx_G} {C : gx_S} {o : Int64} {d : UInt64} {I V : gx_F} {x1 : Int32} {out : (Bool × gx_F × gx_F)} (hF : f_X7_fails x1 I V = some out) : gx_K l yX7_fails cX7_fails 2 (some .boolean) { frames := 0, cells := 0, slots := 0, locals := 0 } [.ref (G.2.1 58), .int x1] G C (I, V) o d (gx_Qi G (gx_bi out.1) C (out.2.1, out.2.2) o d) 0 0 := by
  refine gx_begin (by decide +kernel) (Nat.le_of_ble_eq_true rfl) ?_
  intro p e s m below meth c hx hb hr hml hown hlocks hV hw ls hl
  have hown : s.vm.findClass RX7 = some m.cls := hown
  have hl : lv_has ls 2 [(0, .ref (G.2.1 58)), (1, .int x1)] := hl
  unfold f_X7_fails at hF
  refine lv_aload_n (pc := 0) hx hb dX7_fails_0 rfl (lv_at hl 0 rfl) ?_
  refine lv_iload_n (pc := 1) hx hb dX7_fails_1 rfl (lv_at hl 1 rfl) ?_
  refine gp_X7_9 (pc := 2) hx hb hown hV hw (gw_1027 hV) dX7_fails_2 (fun H locs hw => ?_)
  refine lv_iload_n (pc := 5) hx hb dX7_fails_5 rfl (lv_at hl 1 rfl) ?_
  refine gx_if_le (pc := 6) (tgt := 13) hx hb hF dX7_fails_6 (by decide) (fun hF => ?_) (fun hF => ?_)
  · refine lv_iconst (pc := 13) (v := 0) hx hb dX7_fails_13 (by decide) ?_
    cases hF
    exact gx_zret (r := gx_bi false) hx hb hr (gx_narb _) hlocks hw dX7_fails_14
  refine lv_iconst (pc := 9) (v := 1) hx hb dX7_fails_9 (by decide) ?_
  refine lv_goto (pc := 10) (tgt := 14) hx hb dX7_fails_10 (by decide) ?_
  cases hF
  exact gx_zret (r := gx_bi true) hx hb hr (gx_narb _) hlocks hw dX7_fails_14
set_option maxRecDepth 100000 in
theorem cl_X7_fails {l : Launch} {G : gx_G} {C : gx_S} {o : Int64} {d : UInt64} {I V : gx_F} {p : Program} {e : Env} {R : Room} {s : State} {m : MethodId} {args : Array Value} {below : List Frame} {meth : Method} {c : Code} {H : Heap} {locs : List Loc} {cells slots : Nat} {Q : State → Prop} {cc : ByteArray} {pc nL index : Nat} {ls : Array Slot} {rest : List Value} {own : String} {x1 : Int32} {out : (Bool × gx_F × gx_F)} (hx : p.tables.exec = Jvm.exec) (hb : c.code = cc) (hml : c.maxLocals = nL) (hown : s.vm.findClass own = some m.cls) (hV : gx_V G s) (hw : gx_at G C (I, V) o d s.heap H locs) (hF : f_X7_fails x1 I V = some out) (hlink : (Cond.methodLink own index yX7_fails).before args s = true) (hsz : ls.size = nL) (hfr : 1 ≤ R.frames) (hlo : 21 ≤ R.locals) (hrest : (rest.map fun v => v.category).sum ≤ 8) (hdg : decode cc pc = .ok (.invokevirtual index, 3))
    (kk : ∀ (H1 : Heap) (locs1 : List Loc), gx_at G C (out.2.1, out.2.2) o d s.heap H1 locs1 → W p l e R s m args below meth c H1 locs1 cells slots Q (F0 m (pc + 3) ls (.int (gx_bi out.1) :: rest))) (hc : cells ≤ R.cells := by exact Nat.zero_le _) (hs : slots ≤ R.slots := by exact Nat.zero_le _) : W p l e R s m args below meth c H locs cells slots Q (F0 m pc ls (.int x1 :: .ref (G.2.1 58) :: rest)) :=
  gx_runi hw (va_runV (C := RX7) (As := [.int x1]) (rest := rest) ⟨hx, hb, hml, hown, (fun _ h => nomatch h : ∀ w ∈ ([] : List Cond), w.before args s = true)⟩ (k_X7_fails hF) ⟨gx_callB (n := 1) rfl rfl hlink (gw_56 hV) (gw_1196 hV) (by decide +kernel) ⟨hfr, hlo⟩, gw_1195 hV, gw_35 hV⟩ (gx_recv (k := 58) (ci := 9) (T := TX7) hV hw (by decide) rfl rfl) rfl rfl hsz rfl (lv_room hrest) hdg ⟨hc, hs⟩) kk
set_option maxHeartbeats 4000000 in
set_option maxRecDepth 100000 in
theorem k_X7_refuses {l : Launch} {G : gx_G} {C : gx_S} {o : Int64} {d : UInt64} {I V : gx_F} {x1 : Int32} {x2 : Int32} {out : (Int32 × gx_F × gx_F)} (hF : f_X7_refuses x1 x2 I V = some out) : gx_K l yX7_refuses cX7_refuses 3 (some .int) { frames := 0, cells := 0, slots := 0, locals := 0 } [.ref (G.2.1 58), .int x1, .int x2] G C (I, V) o d (gx_Qi G out.1 C (out.2.1, out.2.2) o d) 0 0 := by
  refine gx_begin (by decide +kernel) (Nat.le_of_ble_eq_true rfl) ?_
  intro p e s m below meth c hx hb hr hml hown hlocks hV hw ls hl
  have hown : s.vm.findClass RX7 = some m.cls := hown
  have hl : lv_has ls 3 [(0, .ref (G.2.1 58)), (1, .int x1), (2, .int x2)] := hl
  unfold f_X7_refuses at hF
  refine lv_aload_n (pc := 0) hx hb dX7_refuses_0 rfl (lv_at hl 0 rfl) ?_
  refine lv_iconst (pc := 1) (v := 1) hx hb dX7_refuses_1 (by decide) ?_
  refine gp_X7_9 (pc := 2) hx hb hown hV hw (gw_1027 hV) dX7_refuses_2 (fun H locs hw => ?_)
  refine lv_aload_n (pc := 5) hx hb dX7_refuses_5 rfl (lv_at hl 0 rfl) ?_
  refine lv_iload_n (pc := 6) hx hb dX7_refuses_6 rfl (lv_at hl 1 rfl) ?_
  refine gp_X7_10 (pc := 7) hx hb hown hV hw (gw_1028 hV) dX7_refuses_7 (fun H locs hw => ?_)
  refine lv_aload_n (pc := 10) hx hb dX7_refuses_10 rfl (lv_at hl 0 rfl) ?_
  refine lv_iload_n (pc := 11) hx hb dX7_refuses_11 rfl (lv_at hl 2 rfl) ?_
  refine gp_X7_11 (pc := 12) hx hb hown hV hw (gw_1029 hV) dX7_refuses_12 (fun H locs hw => ?_)
  refine lv_aload_n (pc := 15) hx hb dX7_refuses_15 rfl (lv_at hl 0 rfl) ?_
  refine lv_aload_n (pc := 16) hx hb dX7_refuses_16 rfl (lv_at hl 0 rfl) ?_
  refine gg_X7_7 (pc := 17) hx hb hown hV hw (gw_1025 hV) dX7_refuses_17 ?_
  refine gx_if_eq (pc := 20) (tgt := 30) hx hb hF dX7_refuses_20 (by decide) (fun hF => ?_) (fun hF => ?_)
  · refine lv_iconst (pc := 30) (v := 0) hx hb dX7_refuses_30 (by decide) ?_
    refine gp_X7_12 (pc := 31) hx hb hown hV hw (gw_1030 hV) dX7_refuses_31 (fun H locs hw => ?_)
    refine lv_iconst (pc := 34) (v := 0) hx hb dX7_refuses_34 (by decide) ?_
    cases hF
    exact gx_iret hx hb hr hlocks hw dX7_refuses_35
  refine lv_aload_n (pc := 23) hx hb dX7_refuses_23 rfl (lv_at hl 0 rfl) ?_
  refine gg_X7_8 (pc := 24) hx hb hown hV hw (gw_1026 hV) dX7_refuses_24 ?_
  refine lv_goto (pc := 27) (tgt := 31) hx hb dX7_refuses_27 (by decide) ?_
  refine gp_X7_12 (pc := 31) hx hb hown hV hw (gw_1030 hV) dX7_refuses_31 (fun H locs hw => ?_)
  refine lv_iconst (pc := 34) (v := 0) hx hb dX7_refuses_34 (by decide) ?_
  cases hF
  exact gx_iret hx hb hr hlocks hw dX7_refuses_35
set_option maxRecDepth 100000 in
theorem cl_X7_refuses {l : Launch} {G : gx_G} {C : gx_S} {o : Int64} {d : UInt64} {I V : gx_F} {p : Program} {e : Env} {R : Room} {s : State} {m : MethodId} {args : Array Value} {below : List Frame} {meth : Method} {c : Code} {H : Heap} {locs : List Loc} {cells slots : Nat} {Q : State → Prop} {cc : ByteArray} {pc nL index : Nat} {ls : Array Slot} {rest : List Value} {own : String} {x1 : Int32} {x2 : Int32} {out : (Int32 × gx_F × gx_F)} (hx : p.tables.exec = Jvm.exec) (hb : c.code = cc) (hml : c.maxLocals = nL) (hown : s.vm.findClass own = some m.cls) (hV : gx_V G s) (hw : gx_at G C (I, V) o d s.heap H locs) (hF : f_X7_refuses x1 x2 I V = some out) (hlink : (Cond.methodLink own index yX7_refuses).before args s = true) (hsz : ls.size = nL) (hfr : 1 ≤ R.frames) (hlo : 22 ≤ R.locals) (hrest : (rest.map fun v => v.category).sum ≤ 8) (hdg : decode cc pc = .ok (.invokevirtual index, 3))
    (kk : ∀ (H1 : Heap) (locs1 : List Loc), gx_at G C (out.2.1, out.2.2) o d s.heap H1 locs1 → W p l e R s m args below meth c H1 locs1 cells slots Q (F0 m (pc + 3) ls (.int out.1 :: rest))) (hc : cells ≤ R.cells := by exact Nat.zero_le _) (hs : slots ≤ R.slots := by exact Nat.zero_le _) : W p l e R s m args below meth c H locs cells slots Q (F0 m pc ls (.int x2 :: .int x1 :: .ref (G.2.1 58) :: rest)) :=
  gx_runi hw (va_runV (C := RX7) (As := [.int x1, .int x2]) (rest := rest) ⟨hx, hb, hml, hown, (fun _ h => nomatch h : ∀ w ∈ ([] : List Cond), w.before args s = true)⟩ (k_X7_refuses hF) ⟨gx_callB (n := 2) rfl rfl hlink (gw_56 hV) (gw_1099 hV) (by decide +kernel) ⟨hfr, hlo⟩, gw_1098 hV, gw_19 hV⟩ (gx_recv (k := 58) (ci := 9) (T := TX7) hV hw (by decide) rfl rfl) rfl rfl hsz rfl (lv_room hrest) hdg ⟨hc, hs⟩) kk
set_option maxHeartbeats 4000000 in
set_option maxRecDepth 100000 in
theorem k_X7_in {l : Launch} {G : gx_G} {C : gx_S} {o : Int64} {d : UInt64} {I V : gx_F} {x0 : Int32} {x1 : Int32} {x2 : Int32} {out : Bool} (hF : f_X7_in x0 x1 x2 I V = some out) : gx_K l yX7_in cX7_in 3 (some .boolean) { frames := 0, cells := 0, slots := 0, locals := 0 } [.int x0, .int x1, .int x2] G C (I, V) o d (gx_Qi G (gx_bi out) C (I, V) o d) 0 0 := by
  refine gx_begin (by decide +kernel) (Nat.le_of_ble_eq_true rfl) ?_
  intro p e s m below meth c hx hb hr hml hown hlocks hV hw ls hl
  have hown : s.vm.findClass RX7 = some m.cls := hown
  have hl : lv_has ls 3 [(0, .int x0), (1, .int x1), (2, .int x2)] := hl
  unfold f_X7_in at hF
  refine lv_iload_n (pc := 0) hx hb dX7_in_0 rfl (lv_at hl 0 rfl) ?_
  refine lv_iload_n (pc := 1) hx hb dX7_in_1 rfl (lv_at hl 1 rfl) ?_
  refine gx_icmp_lt (pc := 2) (tgt := 14) hx hb hF dX7_in_2 (by decide) (fun hF => ?_) (fun hF => ?_)
  · refine lv_iconst (pc := 14) (v := 0) hx hb dX7_in_14 (by decide) ?_
    cases hF
    exact gx_zret (r := gx_bi false) hx hb hr (gx_narb _) hlocks hw dX7_in_15
  refine lv_iload_n (pc := 5) hx hb dX7_in_5 rfl (lv_at hl 0 rfl) ?_
  refine lv_iload_n (pc := 6) hx hb dX7_in_6 rfl (lv_at hl 2 rfl) ?_
  refine gx_icmp_gt (pc := 7) (tgt := 14) hx hb hF dX7_in_7 (by decide) (fun hF => ?_) (fun hF => ?_)
  · refine lv_iconst (pc := 14) (v := 0) hx hb dX7_in_14 (by decide) ?_
    cases hF
    exact gx_zret (r := gx_bi false) hx hb hr (gx_narb _) hlocks hw dX7_in_15
  refine lv_iconst (pc := 10) (v := 1) hx hb dX7_in_10 (by decide) ?_
  refine lv_goto (pc := 11) (tgt := 15) hx hb dX7_in_11 (by decide) ?_
  cases hF
  exact gx_zret (r := gx_bi true) hx hb hr (gx_narb _) hlocks hw dX7_in_15
set_option maxRecDepth 100000 in
theorem cl_X7_in {l : Launch} {G : gx_G} {C : gx_S} {o : Int64} {d : UInt64} {I V : gx_F} {p : Program} {e : Env} {R : Room} {s : State} {m : MethodId} {args : Array Value} {below : List Frame} {meth : Method} {c : Code} {H : Heap} {locs : List Loc} {cells slots : Nat} {Q : State → Prop} {cc : ByteArray} {pc nL index : Nat} {ls : Array Slot} {rest : List Value} {own : String} {x0 : Int32} {x1 : Int32} {x2 : Int32} {out : Bool} (hx : p.tables.exec = Jvm.exec) (hb : c.code = cc) (hml : c.maxLocals = nL) (hown : s.vm.findClass own = some m.cls) (hV : gx_V G s) (hw : gx_at G C (I, V) o d s.heap H locs) (hF : f_X7_in x0 x1 x2 I V = some out) (hlink : (Cond.methodLink own index yX7_in).before args s = true) (hsz : ls.size = nL) (hfr : 1 ≤ R.frames) (hlo : 22 ≤ R.locals) (hrest : (rest.map fun v => v.category).sum ≤ 8) (hdg : decode cc pc = .ok (.invokestatic index, 3))
    (kk : ∀ (H1 : Heap) (locs1 : List Loc), gx_at G C (I, V) o d s.heap H1 locs1 → W p l e R s m args below meth c H1 locs1 cells slots Q (F0 m (pc + 3) ls (.int (gx_bi out) :: rest))) (hc : cells ≤ R.cells := by exact Nat.zero_le _) (hs : slots ≤ R.slots := by exact Nat.zero_le _) : W p l e R s m args below meth c H locs cells slots Q (F0 m pc ls (.int x2 :: .int x1 :: .int x0 :: rest)) :=
  gx_runi hw (va_runS (As := [.int x0, .int x1, .int x2]) (rest := rest) ⟨hx, hb, hml, hown, (fun _ h => nomatch h : ∀ w ∈ ([] : List Cond), w.before args s = true)⟩ (k_X7_in hF) ⟨gx_callB (n := 3) rfl rfl hlink (gw_56 hV) (gw_1095 hV) (by decide +kernel) ⟨hfr, hlo⟩, gw_1094 hV⟩ (gx_pre hV hw) rfl rfl hsz rfl (lv_room hrest) hdg ⟨hc, hs⟩) kk
set_option maxHeartbeats 4000000 in
set_option maxRecDepth 100000 in
theorem k_X7_copies {l : Launch} {G : gx_G} {C : gx_S} {o : Int64} {d : UInt64} {I V : gx_F} {k0 : Nat} {x1 : Int32} {k2 : Nat} {x3 : Int32} (hk0 : gx_isM k0) (hk2 : gx_isM k2) {out : (gx_F × gx_F)} (hF : f_X7_copies k0 x1 k2 x3 I V = some out) : gx_K l yX7_copies cX7_copies 5 none { frames := 0, cells := 0, slots := 0, locals := 0 } [.ref (G.2.1 k0), .int x1, .ref (G.2.1 k2), .int x3] G C (I, V) o d (gx_Qv G C (out.1, out.2) o d) 0 0 := by
  refine gx_begin (by decide +kernel) (Nat.le_of_ble_eq_true rfl) ?_
  intro p e s m below meth c hx hb hr hml hown hlocks hV hw ls hl
  have hown : s.vm.findClass RX7 = some m.cls := hown
  have hl : lv_has ls 5 [(0, .ref (G.2.1 k0)), (1, .int x1), (2, .ref (G.2.1 k2)), (3, .int x3)] := hl
  unfold f_X7_copies at hF
  refine lv_iconst (pc := 0) (v := 0) hx hb dX7_copies_0 (by decide) ?_
  refine lv_istore (pc := 1) (lv' := [(4, .int 0), (0, .ref (G.2.1 k0)), (1, .int x1), (2, .ref (G.2.1 k2)), (3, .int x3)]) hx hb dX7_copies_1 hl (by decide) rfl (fun ls hl => ?_)
  have L1 : ∀ (n : Nat) (K1 : Int32 → gx_F → gx_F → Option (gx_F × gx_F)) (uv_1 : Int32) (uI_2 : gx_F) (uV_3 : gx_F) (H : Heap) (locs : List Loc) (ls : Array Slot), lv_has ls 5 [(4, .int uv_1), (0, .ref (G.2.1 k0)), (1, .int x1), (2, .ref (G.2.1 k2)), (3, .int x3)] → gx_at G C (uI_2, uV_3) o d s.heap H locs → f_X7_copies_L1 k0 x1 k2 x3 K1 n uv_1 uI_2 uV_3 = some out → (∀ (uv_1 : Int32) (uI_2 : gx_F) (uV_3 : gx_F) (H : Heap) (locs : List Loc) (ls : Array Slot), lv_has ls 5 [(4, .int uv_1), (0, .ref (G.2.1 k0)), (1, .int x1), (2, .ref (G.2.1 k2)), (3, .int x3)] → gx_at G C (uI_2, uV_3) o d s.heap H locs → K1 uv_1 uI_2 uV_3 = some out → W p l e ({ frames := 0, cells := 0, slots := 0, locals := 0 } : Room) s m ([.ref (G.2.1 k0), .int x1, .ref (G.2.1 k2), .int x3] : List Value).toArray below meth c H locs 0 0 (MQ below (gx_Qv G C (out.1, out.2) o d) ([.ref (G.2.1 k0), .int x1, .ref (G.2.1 k2), .int x3] : List Value).toArray s 0 0 (gx_A G)) (F0 m 28 ls [])) → W p l e ({ frames := 0, cells := 0, slots := 0, locals := 0 } : Room) s m ([.ref (G.2.1 k0), .int x1, .ref (G.2.1 k2), .int x3] : List Value).toArray below meth c H locs 0 0 (MQ below (gx_Qv G C (out.1, out.2) o d) ([.ref (G.2.1 k0), .int x1, .ref (G.2.1 k2), .int x3] : List Value).toArray s 0 0 (gx_A G)) (F0 m 3 ls []) := by
    intro n
    induction n with
    | zero =>
      intro K1 uv_1 uI_2 uV_3 H locs ls hl hw hF hK
      rw [f_X7_copies_L1] at hF
      cases hF
    | succ n ih1 =>
      intro K1 uv_1 uI_2 uV_3 H locs ls hl hw hF hK1
      rw [f_X7_copies_L1] at hF
      refine lv_iload (pc := 3) hx hb dX7_copies_3 (lv_at hl 0 rfl) ?_
      refine lv_bipush (pc := 5) (v := 87) hx hb dX7_copies_5 (by decide) ?_
      refine gx_icmp_ge (pc := 7) (tgt := 28) hx hb hF dX7_copies_7 (by decide) (fun hF => ?_) (fun hF => ?_)
      · exact hK1 _ _ _ _ _ _ (lv_sub hl [0, 1, 2, 3, 4] rfl) hw hF
      refine lv_aload_n (pc := 10) hx hb dX7_copies_10 rfl (lv_at hl 3 rfl) ?_
      refine lv_iload_n (pc := 11) hx hb dX7_copies_11 rfl (lv_at hl 4 rfl) ?_
      refine lv_iload (pc := 12) hx hb dX7_copies_12 (lv_at hl 0 rfl) ?_
      refine lv_iadd (pc := 14) hx hb dX7_copies_14 ?_
      refine lv_aload_n (pc := 15) hx hb dX7_copies_15 rfl (lv_at hl 1 rfl) ?_
      refine lv_iload_n (pc := 16) hx hb dX7_copies_16 rfl (lv_at hl 2 rfl) ?_
      refine lv_iload (pc := 17) hx hb dX7_copies_17 (lv_at hl 0 rfl) ?_
      refine lv_iadd (pc := 19) hx hb dX7_copies_19 ?_
      refine ga_m_ld (pc := 20) hx hb hV hw hk0 hF dX7_copies_20 (fun _ hF => ?_)
      refine ga_m_st (pc := 21) hx hb hV hw hk2 hF dX7_copies_21 (fun H locs hw hF => ?_)
      refine lv_iinc (pc := 22) (v := (uv_1 + 1)) (lv' := [(4, .int (uv_1 + 1)), (0, .ref (G.2.1 k0)), (1, .int x1), (2, .ref (G.2.1 k2)), (3, .int x3)]) hx hb dX7_copies_22 hl (k := 0) rfl rfl (by decide) rfl (fun ls hl => ?_)
      refine lv_goto (pc := 25) (tgt := 3) hx hb dX7_copies_25 (by decide) ?_
      exact ih1 _ _ _ _ _ _ _ (lv_sub hl [0, 1, 2, 3, 4] rfl) hw hF hK1
  refine L1 1000 _ _ _ _ _ _ _ hl hw hF (fun uv_4 uI_5 uV_6 H locs ls hl hw hF => ?_)
  cases hF
  exact gx_vret hx hb hr hlocks hw dX7_copies_28
set_option maxRecDepth 100000 in
theorem cl_X7_copies {l : Launch} {G : gx_G} {C : gx_S} {o : Int64} {d : UInt64} {I V : gx_F} {p : Program} {e : Env} {R : Room} {s : State} {m : MethodId} {args : Array Value} {below : List Frame} {meth : Method} {c : Code} {H : Heap} {locs : List Loc} {cells slots : Nat} {Q : State → Prop} {cc : ByteArray} {pc nL index : Nat} {ls : Array Slot} {rest : List Value} {own : String} {k0 : Nat} {x1 : Int32} {k2 : Nat} {x3 : Int32} {out : (gx_F × gx_F)} (hx : p.tables.exec = Jvm.exec) (hb : c.code = cc) (hml : c.maxLocals = nL) (hown : s.vm.findClass own = some m.cls) (hV : gx_V G s) (hw : gx_at G C (I, V) o d s.heap H locs) (hk0 : gx_isM k0) (hk2 : gx_isM k2) (hF : f_X7_copies k0 x1 k2 x3 I V = some out) (hlink : (Cond.methodLink own index yX7_copies).before args s = true) (hsz : ls.size = nL) (hfr : 1 ≤ R.frames) (hlo : 24 ≤ R.locals) (hrest : (rest.map fun v => v.category).sum ≤ 8) (hdg : decode cc pc = .ok (.invokestatic index, 3))
    (kk : ∀ (H1 : Heap) (locs1 : List Loc), gx_at G C (out.1, out.2) o d s.heap H1 locs1 → W p l e R s m args below meth c H1 locs1 cells slots Q (F0 m (pc + 3) ls (rest))) (hc : cells ≤ R.cells := by exact Nat.zero_le _) (hs : slots ≤ R.slots := by exact Nat.zero_le _) : W p l e R s m args below meth c H locs cells slots Q (F0 m pc ls (.int x3 :: .ref (G.2.1 k2) :: .int x1 :: .ref (G.2.1 k0) :: rest)) :=
  gx_runv hw (va_runS (As := [.ref (G.2.1 k0), .int x1, .ref (G.2.1 k2), .int x3]) (rest := rest) ⟨hx, hb, hml, hown, (fun _ h => nomatch h : ∀ w ∈ ([] : List Cond), w.before args s = true)⟩ (k_X7_copies hk0 hk2 hF) ⟨gx_callB (n := 4) rfl rfl hlink (gw_56 hV) (gw_1106 hV) (by decide +kernel) ⟨hfr, hlo⟩, gw_1105 hV⟩ (gx_pre hV hw) rfl rfl hsz rfl (lv_room hrest) hdg ⟨hc, hs⟩) kk
set_option maxHeartbeats 4000000 in
set_option maxRecDepth 100000 in
theorem k_X7_keeps {l : Launch} {G : gx_G} {C : gx_S} {o : Int64} {d : UInt64} {I V : gx_F} {k1 : Nat} (hk1 : gx_isM k1) {out : (gx_F × gx_F)} (hF : f_X7_keeps k1 I V = some out) : gx_K l yX7_keeps cX7_keeps 3 none { frames := 1, cells := 0, slots := 0, locals := 24 } [.ref (G.2.1 58), .ref (G.2.1 k1)] G C (I, V) o d (gx_Qv G C (out.1, out.2) o d) 0 0 := by
  refine gx_begin (by decide +kernel) (Nat.le_of_ble_eq_true rfl) ?_
  intro p e s m below meth c hx hb hr hml hown hlocks hV hw ls hl
  have hown : s.vm.findClass RX7 = some m.cls := hown
  have hl : lv_has ls 3 [(0, .ref (G.2.1 58)), (1, .ref (G.2.1 k1))] := hl
  unfold f_X7_keeps at hF
  refine lv_aload_n (pc := 0) hx hb dX7_keeps_0 rfl (lv_at hl 0 rfl) ?_
  refine lv_iconst (pc := 1) (v := 0) hx hb dX7_keeps_1 (by decide) ?_
  refine gp_X7_9 (pc := 2) hx hb hown hV hw (gw_1027 hV) dX7_keeps_2 (fun H locs hw => ?_)
  refine lv_aload_n (pc := 5) hx hb dX7_keeps_5 rfl (lv_at hl 0 rfl) ?_
  refine gg_X7_7 (pc := 6) hx hb hown hV hw (gw_1025 hV) dX7_keeps_6 ?_
  refine gx_if_eq (pc := 9) (tgt := 13) hx hb hF dX7_keeps_9 (by decide) (fun hF => ?_) (fun hF => ?_)
  · refine lv_aload_n (pc := 13) hx hb dX7_keeps_13 rfl (lv_at hl 0 rfl) ?_
    refine gg_X7_6 (pc := 14) hx hb hown hV hw (gw_1024 hV) dX7_keeps_14 ?_
    refine lv_bipush (pc := 17) (v := 8) hx hb dX7_keeps_17 (by decide) ?_
    refine gx_icmp_ne (pc := 19) (tgt := 62) hx hb hF dX7_keeps_19 (by decide) (fun hF => ?_) (fun hF => ?_)
    · refine lv_aload_n (pc := 62) hx hb dX7_keeps_62 rfl (lv_at hl 1 rfl) ?_
      refine lv_iconst (pc := 63) (v := 0) hx hb dX7_keeps_63 (by decide) ?_
      refine lv_aload_n (pc := 64) hx hb dX7_keeps_64 rfl (lv_at hl 0 rfl) ?_
      refine gg_X7_1 (pc := 65) hx hb hown hV hw (gw_1019 hV) dX7_keeps_65 ?_
      refine lv_bipush (pc := 68) (v := 87) hx hb dX7_keeps_68 (by decide) ?_
      refine lv_aload_n (pc := 70) hx hb dX7_keeps_70 rfl (lv_at hl 0 rfl) ?_
      refine gg_X7_6 (pc := 71) hx hb hown hV hw (gw_1024 hV) dX7_keeps_71 ?_
      refine lv_imul (pc := 74) hx hb dX7_keeps_74 ?_
      obtain ⟨uq_1, huq_1, hF⟩ := Option.bind_eq_some_iff.mp hF
      refine cl_X7_copies (pc := 75) hx hb hml hown hV hw hk1 gx_a60 huq_1 (gw_1104 hV) hl.1 (Nat.le_of_ble_eq_true rfl) (Nat.le_of_ble_eq_true rfl) (Nat.le_of_ble_eq_true rfl) dX7_keeps_75 (fun H locs hw => ?_)
      refine lv_aload_n (pc := 78) hx hb dX7_keeps_78 rfl (lv_at hl 0 rfl) ?_
      refine lv_dup (pc := 79) hx hb dX7_keeps_79 rfl ?_
      refine gg_X7_6 (pc := 80) hx hb hown hV hw (gw_1024 hV) dX7_keeps_80 ?_
      refine lv_iconst (pc := 83) (v := 1) hx hb dX7_keeps_83 (by decide) ?_
      refine lv_iadd (pc := 84) hx hb dX7_keeps_84 ?_
      refine gp_X7_6 (pc := 85) hx hb hown hV hw (gw_1024 hV) dX7_keeps_85 (fun H locs hw => ?_)
      cases hF
      exact gx_vret hx hb hr hlocks hw dX7_keeps_88
    refine lv_iconst (pc := 22) (v := 0) hx hb dX7_keeps_22 (by decide) ?_
    refine lv_istore_n (pc := 23) (lv' := [(2, .int 0), (0, .ref (G.2.1 58)), (1, .ref (G.2.1 k1))]) hx hb dX7_keeps_23 rfl hl (by decide) rfl (fun ls hl => ?_)
    have L1 : ∀ (n : Nat) (K1 : Int32 → gx_F → gx_F → Option (gx_F × gx_F)) (uv_2 : Int32) (uI_3 : gx_F) (uV_4 : gx_F) (H : Heap) (locs : List Loc) (ls : Array Slot), lv_has ls 3 [(2, .int uv_2), (0, .ref (G.2.1 58)), (1, .ref (G.2.1 k1))] → gx_at G C (uI_3, uV_4) o d s.heap H locs → f_X7_keeps_L1 K1 n uv_2 uI_3 uV_4 = some out → (∀ (uv_2 : Int32) (uI_3 : gx_F) (uV_4 : gx_F) (H : Heap) (locs : List Loc) (ls : Array Slot), lv_has ls 3 [(2, .int uv_2), (0, .ref (G.2.1 58)), (1, .ref (G.2.1 k1))] → gx_at G C (uI_3, uV_4) o d s.heap H locs → K1 uv_2 uI_3 uV_4 = some out → W p l e ({ frames := 1, cells := 0, slots := 0, locals := 24 } : Room) s m ([.ref (G.2.1 58), .ref (G.2.1 k1)] : List Value).toArray below meth c H locs 0 0 (MQ below (gx_Qv G C (out.1, out.2) o d) ([.ref (G.2.1 58), .ref (G.2.1 k1)] : List Value).toArray s 0 0 (gx_A G)) (F0 m 52 ls [])) → W p l e ({ frames := 1, cells := 0, slots := 0, locals := 24 } : Room) s m ([.ref (G.2.1 58), .ref (G.2.1 k1)] : List Value).toArray below meth c H locs 0 0 (MQ below (gx_Qv G C (out.1, out.2) o d) ([.ref (G.2.1 58), .ref (G.2.1 k1)] : List Value).toArray s 0 0 (gx_A G)) (F0 m 24 ls []) := by
      intro n
      induction n with
      | zero =>
        intro K1 uv_2 uI_3 uV_4 H locs ls hl hw hF hK
        rw [f_X7_keeps_L1] at hF
        cases hF
      | succ n ih1 =>
        intro K1 uv_2 uI_3 uV_4 H locs ls hl hw hF hK1
        rw [f_X7_keeps_L1] at hF
        refine lv_iload_n (pc := 24) hx hb dX7_keeps_24 rfl (lv_at hl 0 rfl) ?_
        refine lv_sipush (pc := 25) (v := 609) hx hb dX7_keeps_25 (by decide) ?_
        refine gx_icmp_ge (pc := 28) (tgt := 52) hx hb hF dX7_keeps_28 (by decide) (fun hF => ?_) (fun hF => ?_)
        · exact hK1 _ _ _ _ _ _ (lv_sub hl [0, 1, 2] rfl) hw hF
        refine lv_aload_n (pc := 31) hx hb dX7_keeps_31 rfl (lv_at hl 1 rfl) ?_
        refine gg_X7_1 (pc := 32) hx hb hown hV hw (gw_1019 hV) dX7_keeps_32 ?_
        refine lv_iload_n (pc := 35) hx hb dX7_keeps_35 rfl (lv_at hl 0 rfl) ?_
        refine lv_aload_n (pc := 36) hx hb dX7_keeps_36 rfl (lv_at hl 1 rfl) ?_
        refine gg_X7_1 (pc := 37) hx hb hown hV hw (gw_1019 hV) dX7_keeps_37 ?_
        refine lv_iload_n (pc := 40) hx hb dX7_keeps_40 rfl (lv_at hl 0 rfl) ?_
        refine lv_bipush (pc := 41) (v := 87) hx hb dX7_keeps_41 (by decide) ?_
        refine lv_iadd (pc := 43) hx hb dX7_keeps_43 ?_
        refine ga_60_ld (pc := 44) hx hb hV hw hF dX7_keeps_44 (fun _ hF => ?_)
        refine ga_60_st (pc := 45) hx hb hV hw hF dX7_keeps_45 (fun H locs hw hF => ?_)
        refine lv_iinc (pc := 46) (v := (uv_2 + 1)) (lv' := [(2, .int (uv_2 + 1)), (0, .ref (G.2.1 58)), (1, .ref (G.2.1 k1))]) hx hb dX7_keeps_46 hl (k := 0) rfl rfl (by decide) rfl (fun ls hl => ?_)
        refine lv_goto (pc := 49) (tgt := 24) hx hb dX7_keeps_49 (by decide) ?_
        exact ih1 _ _ _ _ _ _ _ (lv_sub hl [0, 1, 2] rfl) hw hF hK1
    refine L1 1000 _ _ _ _ _ _ _ hl hw hF (fun uv_5 uI_6 uV_7 H locs ls hl hw hF => ?_)
    refine lv_aload_n (pc := 52) hx hb dX7_keeps_52 rfl (lv_at hl 1 rfl) ?_
    refine lv_dup (pc := 53) hx hb dX7_keeps_53 rfl ?_
    refine gg_X7_6 (pc := 54) hx hb hown hV hw (gw_1024 hV) dX7_keeps_54 ?_
    refine lv_iconst (pc := 57) (v := 1) hx hb dX7_keeps_57 (by decide) ?_
    refine lv_isub (pc := 58) hx hb dX7_keeps_58 ?_
    refine gp_X7_6 (pc := 59) hx hb hown hV hw (gw_1024 hV) dX7_keeps_59 (fun H locs hw => ?_)
    refine lv_aload_n (pc := 62) hx hb dX7_keeps_62 rfl (lv_at hl 2 rfl) ?_
    refine lv_iconst (pc := 63) (v := 0) hx hb dX7_keeps_63 (by decide) ?_
    refine lv_aload_n (pc := 64) hx hb dX7_keeps_64 rfl (lv_at hl 1 rfl) ?_
    refine gg_X7_1 (pc := 65) hx hb hown hV hw (gw_1019 hV) dX7_keeps_65 ?_
    refine lv_bipush (pc := 68) (v := 87) hx hb dX7_keeps_68 (by decide) ?_
    refine lv_aload_n (pc := 70) hx hb dX7_keeps_70 rfl (lv_at hl 1 rfl) ?_
    refine gg_X7_6 (pc := 71) hx hb hown hV hw (gw_1024 hV) dX7_keeps_71 ?_
    refine lv_imul (pc := 74) hx hb dX7_keeps_74 ?_
    obtain ⟨uq_8, huq_8, hF⟩ := Option.bind_eq_some_iff.mp hF
    refine cl_X7_copies (pc := 75) hx hb hml hown hV hw hk1 gx_a60 huq_8 (gw_1104 hV) hl.1 (Nat.le_of_ble_eq_true rfl) (Nat.le_of_ble_eq_true rfl) (Nat.le_of_ble_eq_true rfl) dX7_keeps_75 (fun H locs hw => ?_)
    refine lv_aload_n (pc := 78) hx hb dX7_keeps_78 rfl (lv_at hl 1 rfl) ?_
    refine lv_dup (pc := 79) hx hb dX7_keeps_79 rfl ?_
    refine gg_X7_6 (pc := 80) hx hb hown hV hw (gw_1024 hV) dX7_keeps_80 ?_
    refine lv_iconst (pc := 83) (v := 1) hx hb dX7_keeps_83 (by decide) ?_
    refine lv_iadd (pc := 84) hx hb dX7_keeps_84 ?_
    refine gp_X7_6 (pc := 85) hx hb hown hV hw (gw_1024 hV) dX7_keeps_85 (fun H locs hw => ?_)
    cases hF
    exact gx_vret hx hb hr hlocks hw dX7_keeps_88
  cases hF
  exact gx_vret hx hb hr hlocks hw dX7_keeps_12
set_option maxRecDepth 100000 in
theorem cl_X7_keeps {l : Launch} {G : gx_G} {C : gx_S} {o : Int64} {d : UInt64} {I V : gx_F} {p : Program} {e : Env} {R : Room} {s : State} {m : MethodId} {args : Array Value} {below : List Frame} {meth : Method} {c : Code} {H : Heap} {locs : List Loc} {cells slots : Nat} {Q : State → Prop} {cc : ByteArray} {pc nL index : Nat} {ls : Array Slot} {rest : List Value} {own : String} {k1 : Nat} {out : (gx_F × gx_F)} (hx : p.tables.exec = Jvm.exec) (hb : c.code = cc) (hml : c.maxLocals = nL) (hown : s.vm.findClass own = some m.cls) (hV : gx_V G s) (hw : gx_at G C (I, V) o d s.heap H locs) (hk1 : gx_isM k1) (hF : f_X7_keeps k1 I V = some out) (hlink : (Cond.methodLink own index yX7_keeps).before args s = true) (hsz : ls.size = nL) (hfr : 2 ≤ R.frames) (hlo : 46 ≤ R.locals) (hrest : (rest.map fun v => v.category).sum ≤ 8) (hdg : decode cc pc = .ok (.invokevirtual index, 3))
    (kk : ∀ (H1 : Heap) (locs1 : List Loc), gx_at G C (out.1, out.2) o d s.heap H1 locs1 → W p l e R s m args below meth c H1 locs1 cells slots Q (F0 m (pc + 3) ls (rest))) (hc : cells ≤ R.cells := by exact Nat.zero_le _) (hs : slots ≤ R.slots := by exact Nat.zero_le _) : W p l e R s m args below meth c H locs cells slots Q (F0 m pc ls (.ref (G.2.1 k1) :: .ref (G.2.1 58) :: rest)) :=
  gx_runv hw (va_runV (C := RX7) (As := [.ref (G.2.1 k1)]) (rest := rest) ⟨hx, hb, hml, hown, (fun _ h => nomatch h : ∀ w ∈ ([] : List Cond), w.before args s = true)⟩ (k_X7_keeps hk1 hF) ⟨gx_callB (n := 1) rfl rfl hlink (gw_56 hV) (gw_1103 hV) (by decide +kernel) ⟨hfr, hlo⟩, gw_1102 hV, gw_20 hV⟩ (gx_recv (k := 58) (ci := 9) (T := TX7) hV hw (by decide) rfl rfl) rfl rfl hsz rfl (lv_room hrest) hdg ⟨hc, hs⟩) kk
set_option maxHeartbeats 4000000 in
set_option maxRecDepth 100000 in
theorem k_X7_isPlace {l : Launch} {G : gx_G} {C : gx_S} {o : Int64} {d : UInt64} {I V : gx_F} {x0 : Int32} {out : Bool} (hF : f_X7_isPlace x0 I V = some out) : gx_K l yX7_isPlace cX7_isPlace 1 (some .boolean) { frames := 1, cells := 0, slots := 0, locals := 22 } [.int x0] G C (I, V) o d (gx_Qi G (gx_bi out) C (I, V) o d) 0 0 := by
  refine gx_begin (by decide +kernel) (Nat.le_of_ble_eq_true rfl) ?_
  intro p e s m below meth c hx hb hr hml hown hlocks hV hw ls hl
  have hown : s.vm.findClass RX7 = some m.cls := hown
  have hl : lv_has ls 1 [(0, .int x0)] := hl
  unfold f_X7_isPlace at hF
  refine lv_iload_n (pc := 0) hx hb dX7_isPlace_0 rfl (lv_at hl 0 rfl) ?_
  refine lv_iconst (pc := 1) (v := 0) hx hb dX7_isPlace_1 (by decide) ?_
  refine lv_bipush (pc := 2) (v := 41) hx hb dX7_isPlace_2 (by decide) ?_
  obtain ⟨uq_1, huq_1, hF⟩ := Option.bind_eq_some_iff.mp hF
  refine cl_X7_in (pc := 4) hx hb hml hown hV hw huq_1 (gw_1093 hV) hl.1 (Nat.le_of_ble_eq_true rfl) (Nat.le_of_ble_eq_true rfl) (Nat.le_of_ble_eq_true rfl) dX7_isPlace_4 (fun H locs hw => ?_)
  cases hF
  exact gx_zret hx hb hr (gx_narb _) hlocks hw dX7_isPlace_7
set_option maxRecDepth 100000 in
theorem cl_X7_isPlace {l : Launch} {G : gx_G} {C : gx_S} {o : Int64} {d : UInt64} {I V : gx_F} {p : Program} {e : Env} {R : Room} {s : State} {m : MethodId} {args : Array Value} {below : List Frame} {meth : Method} {c : Code} {H : Heap} {locs : List Loc} {cells slots : Nat} {Q : State → Prop} {cc : ByteArray} {pc nL index : Nat} {ls : Array Slot} {rest : List Value} {own : String} {x0 : Int32} {out : Bool} (hx : p.tables.exec = Jvm.exec) (hb : c.code = cc) (hml : c.maxLocals = nL) (hown : s.vm.findClass own = some m.cls) (hV : gx_V G s) (hw : gx_at G C (I, V) o d s.heap H locs) (hF : f_X7_isPlace x0 I V = some out) (hlink : (Cond.methodLink own index yX7_isPlace).before args s = true) (hsz : ls.size = nL) (hfr : 2 ≤ R.frames) (hlo : 42 ≤ R.locals) (hrest : (rest.map fun v => v.category).sum ≤ 8) (hdg : decode cc pc = .ok (.invokestatic index, 3))
    (kk : ∀ (H1 : Heap) (locs1 : List Loc), gx_at G C (I, V) o d s.heap H1 locs1 → W p l e R s m args below meth c H1 locs1 cells slots Q (F0 m (pc + 3) ls (.int (gx_bi out) :: rest))) (hc : cells ≤ R.cells := by exact Nat.zero_le _) (hs : slots ≤ R.slots := by exact Nat.zero_le _) : W p l e R s m args below meth c H locs cells slots Q (F0 m pc ls (.int x0 :: rest)) :=
  gx_runi hw (va_runS (As := [.int x0]) (rest := rest) ⟨hx, hb, hml, hown, (fun _ h => nomatch h : ∀ w ∈ ([] : List Cond), w.before args s = true)⟩ (k_X7_isPlace hF) ⟨gx_callB (n := 1) rfl rfl hlink (gw_56 hV) (gw_1113 hV) (by decide +kernel) ⟨hfr, hlo⟩, gw_1112 hV⟩ (gx_pre hV hw) rfl rfl hsz rfl (lv_room hrest) hdg ⟨hc, hs⟩) kk
set_option maxHeartbeats 4000000 in
set_option maxRecDepth 100000 in
theorem k_X7_isKind {l : Launch} {G : gx_G} {C : gx_S} {o : Int64} {d : UInt64} {I V : gx_F} {x1 : Int32} {out : Bool} (hF : f_X7_isKind x1 I V = some out) : gx_K l yX7_isKind cX7_isKind 2 (some .boolean) { frames := 1, cells := 0, slots := 0, locals := 22 } [.ref (G.2.1 58), .int x1] G C (I, V) o d (gx_Qi G (gx_bi out) C (I, V) o d) 0 0 := by
  refine gx_begin (by decide +kernel) (Nat.le_of_ble_eq_true rfl) ?_
  intro p e s m below meth c hx hb hr hml hown hlocks hV hw ls hl
  have hown : s.vm.findClass RX7 = some m.cls := hown
  have hl : lv_has ls 2 [(0, .ref (G.2.1 58)), (1, .int x1)] := hl
  unfold f_X7_isKind at hF
  refine lv_iload_n (pc := 0) hx hb dX7_isKind_0 rfl (lv_at hl 1 rfl) ?_
  refine lv_iconst (pc := 1) (v := 0) hx hb dX7_isKind_1 (by decide) ?_
  refine lv_aload_n (pc := 2) hx hb dX7_isKind_2 rfl (lv_at hl 0 rfl) ?_
  refine gg_X7_0 (pc := 3) hx hb hown hV hw (gw_1018 hV) dX7_isKind_3 ?_
  refine lv_iconst (pc := 6) (v := 0) hx hb dX7_isKind_6 (by decide) ?_
  refine ga_59_ld (pc := 7) hx hb hV hw hF dX7_isKind_7 (fun _ hF => ?_)
  refine lv_iconst (pc := 8) (v := 1) hx hb dX7_isKind_8 (by decide) ?_
  refine lv_isub (pc := 9) hx hb dX7_isKind_9 ?_
  obtain ⟨uq_1, huq_1, hF⟩ := Option.bind_eq_some_iff.mp hF
  refine cl_X7_in (pc := 10) hx hb hml hown hV hw huq_1 (gw_1093 hV) hl.1 (Nat.le_of_ble_eq_true rfl) (Nat.le_of_ble_eq_true rfl) (Nat.le_of_ble_eq_true rfl) dX7_isKind_10 (fun H locs hw => ?_)
  cases hF
  exact gx_zret hx hb hr (gx_narb _) hlocks hw dX7_isKind_13
set_option maxRecDepth 100000 in
theorem cl_X7_isKind {l : Launch} {G : gx_G} {C : gx_S} {o : Int64} {d : UInt64} {I V : gx_F} {p : Program} {e : Env} {R : Room} {s : State} {m : MethodId} {args : Array Value} {below : List Frame} {meth : Method} {c : Code} {H : Heap} {locs : List Loc} {cells slots : Nat} {Q : State → Prop} {cc : ByteArray} {pc nL index : Nat} {ls : Array Slot} {rest : List Value} {own : String} {x1 : Int32} {out : Bool} (hx : p.tables.exec = Jvm.exec) (hb : c.code = cc) (hml : c.maxLocals = nL) (hown : s.vm.findClass own = some m.cls) (hV : gx_V G s) (hw : gx_at G C (I, V) o d s.heap H locs) (hF : f_X7_isKind x1 I V = some out) (hlink : (Cond.methodLink own index yX7_isKind).before args s = true) (hsz : ls.size = nL) (hfr : 2 ≤ R.frames) (hlo : 43 ≤ R.locals) (hrest : (rest.map fun v => v.category).sum ≤ 8) (hdg : decode cc pc = .ok (.invokevirtual index, 3))
    (kk : ∀ (H1 : Heap) (locs1 : List Loc), gx_at G C (I, V) o d s.heap H1 locs1 → W p l e R s m args below meth c H1 locs1 cells slots Q (F0 m (pc + 3) ls (.int (gx_bi out) :: rest))) (hc : cells ≤ R.cells := by exact Nat.zero_le _) (hs : slots ≤ R.slots := by exact Nat.zero_le _) : W p l e R s m args below meth c H locs cells slots Q (F0 m pc ls (.int x1 :: .ref (G.2.1 58) :: rest)) :=
  gx_runi hw (va_runV (C := RX7) (As := [.int x1]) (rest := rest) ⟨hx, hb, hml, hown, (fun _ h => nomatch h : ∀ w ∈ ([] : List Cond), w.before args s = true)⟩ (k_X7_isKind hF) ⟨gx_callB (n := 1) rfl rfl hlink (gw_56 hV) (gw_1117 hV) (by decide +kernel) ⟨hfr, hlo⟩, gw_1116 hV, gw_21 hV⟩ (gx_recv (k := 58) (ci := 9) (T := TX7) hV hw (by decide) rfl rfl) rfl rfl hsz rfl (lv_room hrest) hdg ⟨hc, hs⟩) kk
set_option maxHeartbeats 4000000 in
set_option maxRecDepth 100000 in
theorem k_X7_isFree {l : Launch} {G : gx_G} {C : gx_S} {o : Int64} {d : UInt64} {I V : gx_F} {x1 : Int32} {out : Bool} (hF : f_X7_isFree x1 I V = some out) : gx_K l yX7_isFree cX7_isFree 2 (some .boolean) { frames := 0, cells := 0, slots := 0, locals := 0 } [.ref (G.2.1 58), .int x1] G C (I, V) o d (gx_Qi G (gx_bi out) C (I, V) o d) 0 0 := by
  refine gx_begin (by decide +kernel) (Nat.le_of_ble_eq_true rfl) ?_
  intro p e s m below meth c hx hb hr hml hown hlocks hV hw ls hl
  have hown : s.vm.findClass RX7 = some m.cls := hown
  have hl : lv_has ls 2 [(0, .ref (G.2.1 58)), (1, .int x1)] := hl
  unfold f_X7_isFree at hF
  refine lv_aload_n (pc := 0) hx hb dX7_isFree_0 rfl (lv_at hl 0 rfl) ?_
  refine gg_X7_0 (pc := 1) hx hb hown hV hw (gw_1018 hV) dX7_isFree_1 ?_
  refine lv_bipush (pc := 4) (v := 45) hx hb dX7_isFree_4 (by decide) ?_
  refine lv_iload_n (pc := 6) hx hb dX7_isFree_6 rfl (lv_at hl 1 rfl) ?_
  refine lv_iadd (pc := 7) hx hb dX7_isFree_7 ?_
  refine ga_59_ld (pc := 8) hx hb hV hw hF dX7_isFree_8 (fun _ hF => ?_)
  refine gx_if_ge (pc := 9) (tgt := 16) hx hb hF dX7_isFree_9 (by decide) (fun hF => ?_) (fun hF => ?_)
  · refine lv_iconst (pc := 16) (v := 0) hx hb dX7_isFree_16 (by decide) ?_
    cases hF
    exact gx_zret (r := gx_bi false) hx hb hr (gx_narb _) hlocks hw dX7_isFree_17
  refine lv_iconst (pc := 12) (v := 1) hx hb dX7_isFree_12 (by decide) ?_
  refine lv_goto (pc := 13) (tgt := 17) hx hb dX7_isFree_13 (by decide) ?_
  cases hF
  exact gx_zret (r := gx_bi true) hx hb hr (gx_narb _) hlocks hw dX7_isFree_17
set_option maxRecDepth 100000 in
theorem cl_X7_isFree {l : Launch} {G : gx_G} {C : gx_S} {o : Int64} {d : UInt64} {I V : gx_F} {p : Program} {e : Env} {R : Room} {s : State} {m : MethodId} {args : Array Value} {below : List Frame} {meth : Method} {c : Code} {H : Heap} {locs : List Loc} {cells slots : Nat} {Q : State → Prop} {cc : ByteArray} {pc nL index : Nat} {ls : Array Slot} {rest : List Value} {own : String} {x1 : Int32} {out : Bool} (hx : p.tables.exec = Jvm.exec) (hb : c.code = cc) (hml : c.maxLocals = nL) (hown : s.vm.findClass own = some m.cls) (hV : gx_V G s) (hw : gx_at G C (I, V) o d s.heap H locs) (hF : f_X7_isFree x1 I V = some out) (hlink : (Cond.methodLink own index yX7_isFree).before args s = true) (hsz : ls.size = nL) (hfr : 1 ≤ R.frames) (hlo : 21 ≤ R.locals) (hrest : (rest.map fun v => v.category).sum ≤ 8) (hdg : decode cc pc = .ok (.invokevirtual index, 3))
    (kk : ∀ (H1 : Heap) (locs1 : List Loc), gx_at G C (I, V) o d s.heap H1 locs1 → W p l e R s m args below meth c H1 locs1 cells slots Q (F0 m (pc + 3) ls (.int (gx_bi out) :: rest))) (hc : cells ≤ R.cells := by exact Nat.zero_le _) (hs : slots ≤ R.slots := by exact Nat.zero_le _) : W p l e R s m args below meth c H locs cells slots Q (F0 m pc ls (.int x1 :: .ref (G.2.1 58) :: rest)) :=
  gx_runi hw (va_runV (C := RX7) (As := [.int x1]) (rest := rest) ⟨hx, hb, hml, hown, (fun _ h => nomatch h : ∀ w ∈ ([] : List Cond), w.before args s = true)⟩ (k_X7_isFree hF) ⟨gx_callB (n := 1) rfl rfl hlink (gw_56 hV) (gw_1121 hV) (by decide +kernel) ⟨hfr, hlo⟩, gw_1120 hV, gw_22 hV⟩ (gx_recv (k := 58) (ci := 9) (T := TX7) hV hw (by decide) rfl rfl) rfl rfl hsz rfl (lv_room hrest) hdg ⟨hc, hs⟩) kk
set_option maxHeartbeats 4000000 in
set_option maxRecDepth 100000 in
theorem k_X7_beside {l : Launch} {G : gx_G} {C : gx_S} {o : Int64} {d : UInt64} {I V : gx_F} {x0 : Int32} {x1 : Int32} {out : Int32} (hF : f_X7_beside x0 x1 I V = some out) : gx_K l yX7_beside cX7_beside 2 (some .int) { frames := 0, cells := 0, slots := 0, locals := 0 } [.int x0, .int x1] G C (I, V) o d (gx_Qi G out C (I, V) o d) 0 0 := by
  refine gx_begin (by decide +kernel) (Nat.le_of_ble_eq_true rfl) ?_
  intro p e s m below meth c hx hb hr hml hown hlocks hV hw ls hl
  have hown : s.vm.findClass RX7 = some m.cls := hown
  have hl : lv_has ls 2 [(0, .int x0), (1, .int x1)] := hl
  unfold f_X7_beside at hF
  refine lv_iload_n (pc := 0) hx hb dX7_beside_0 rfl (lv_at hl 1 rfl) ?_
  by_cases hs0 : x1 = 0
  · rw [if_pos hs0] at hF
    refine lv_tableIn (pc := 1) (off := 27) (tgt := 28) hx hb dX7_beside_1 (by rw [hs0]; decide) (by rw [hs0]; decide) (by rw [hs0]; rfl) (by decide) ?_
    refine lv_iload_n (pc := 28) hx hb dX7_beside_28 rfl (lv_at hl 0 rfl) ?_
    refine lv_bipush (pc := 29) (v := 7) hx hb dX7_beside_29 (by decide) ?_
    refine gx_icmp_ge (pc := 31) (tgt := 38) hx hb hF dX7_beside_31 (by decide) (fun hF => ?_) (fun hF => ?_)
    · refine lv_iload_n (pc := 38) hx hb dX7_beside_38 rfl (lv_at hl 0 rfl) ?_
      refine lv_bipush (pc := 39) (v := 7) hx hb dX7_beside_39 (by decide) ?_
      refine lv_isub (pc := 41) hx hb dX7_beside_41 ?_
      cases hF
      exact gx_iret hx hb hr hlocks hw dX7_beside_42
    refine lv_iconst (pc := 34) (v := (-1)) hx hb dX7_beside_34 (by decide) ?_
    refine lv_goto (pc := 35) (tgt := 42) hx hb dX7_beside_35 (by decide) ?_
    cases hF
    exact gx_iret hx hb hr hlocks hw dX7_beside_42
  rw [if_neg hs0] at hF
  by_cases hs1 : x1 = 1
  · rw [if_pos hs1] at hF
    refine lv_tableIn (pc := 1) (off := 42) (tgt := 43) hx hb dX7_beside_1 (by rw [hs1]; decide) (by rw [hs1]; decide) (by rw [hs1]; rfl) (by decide) ?_
    refine lv_iload_n (pc := 43) hx hb dX7_beside_43 rfl (lv_at hl 0 rfl) ?_
    refine lv_bipush (pc := 44) (v := 7) hx hb dX7_beside_44 (by decide) ?_
    refine lv_irem (pc := 46) hx hb dX7_beside_46 (by decide) ?_
    refine lv_bipush (pc := 47) (v := 6) hx hb dX7_beside_47 (by decide) ?_
    refine gx_icmp_ne (pc := 49) (tgt := 56) hx hb hF dX7_beside_49 (by decide) (fun hF => ?_) (fun hF => ?_)
    · refine lv_iload_n (pc := 56) hx hb dX7_beside_56 rfl (lv_at hl 0 rfl) ?_
      refine lv_iconst (pc := 57) (v := 1) hx hb dX7_beside_57 (by decide) ?_
      refine lv_iadd (pc := 58) hx hb dX7_beside_58 ?_
      cases hF
      exact gx_iret hx hb hr hlocks hw dX7_beside_59
    refine lv_iconst (pc := 52) (v := (-1)) hx hb dX7_beside_52 (by decide) ?_
    refine lv_goto (pc := 53) (tgt := 59) hx hb dX7_beside_53 (by decide) ?_
    cases hF
    exact gx_iret hx hb hr hlocks hw dX7_beside_59
  rw [if_neg hs1] at hF
  by_cases hs2 : x1 = 2
  · rw [if_pos hs2] at hF
    refine lv_tableIn (pc := 1) (off := 59) (tgt := 60) hx hb dX7_beside_1 (by rw [hs2]; decide) (by rw [hs2]; decide) (by rw [hs2]; rfl) (by decide) ?_
    refine lv_iload_n (pc := 60) hx hb dX7_beside_60 rfl (lv_at hl 0 rfl) ?_
    refine lv_bipush (pc := 61) (v := 35) hx hb dX7_beside_61 (by decide) ?_
    refine gx_icmp_lt (pc := 63) (tgt := 70) hx hb hF dX7_beside_63 (by decide) (fun hF => ?_) (fun hF => ?_)
    · refine lv_iload_n (pc := 70) hx hb dX7_beside_70 rfl (lv_at hl 0 rfl) ?_
      refine lv_bipush (pc := 71) (v := 7) hx hb dX7_beside_71 (by decide) ?_
      refine lv_iadd (pc := 73) hx hb dX7_beside_73 ?_
      cases hF
      exact gx_iret hx hb hr hlocks hw dX7_beside_74
    refine lv_iconst (pc := 66) (v := (-1)) hx hb dX7_beside_66 (by decide) ?_
    refine lv_goto (pc := 67) (tgt := 74) hx hb dX7_beside_67 (by decide) ?_
    cases hF
    exact gx_iret hx hb hr hlocks hw dX7_beside_74
  rw [if_neg hs2] at hF
  refine gx_tableD (pc := 1) (tgt := 75) hx hb dX7_beside_1 [0, 1, 2] (List.forall_mem_cons.mpr ⟨hs0, (List.forall_mem_cons.mpr ⟨hs1, (List.forall_mem_cons.mpr ⟨hs2, (fun _ h => nomatch h)⟩)⟩)⟩) (by decide) (by decide) (by decide) ?_
  refine lv_iload_n (pc := 75) hx hb dX7_beside_75 rfl (lv_at hl 0 rfl) ?_
  refine lv_bipush (pc := 76) (v := 7) hx hb dX7_beside_76 (by decide) ?_
  refine lv_irem (pc := 78) hx hb dX7_beside_78 (by decide) ?_
  refine gx_if_ne (pc := 79) (tgt := 86) hx hb hF dX7_beside_79 (by decide) (fun hF => ?_) (fun hF => ?_)
  · refine lv_iload_n (pc := 86) hx hb dX7_beside_86 rfl (lv_at hl 0 rfl) ?_
    refine lv_iconst (pc := 87) (v := 1) hx hb dX7_beside_87 (by decide) ?_
    refine lv_isub (pc := 88) hx hb dX7_beside_88 ?_
    cases hF
    exact gx_iret hx hb hr hlocks hw dX7_beside_89
  refine lv_iconst (pc := 82) (v := (-1)) hx hb dX7_beside_82 (by decide) ?_
  refine lv_goto (pc := 83) (tgt := 89) hx hb dX7_beside_83 (by decide) ?_
  cases hF
  exact gx_iret hx hb hr hlocks hw dX7_beside_89
set_option maxRecDepth 100000 in
theorem cl_X7_beside {l : Launch} {G : gx_G} {C : gx_S} {o : Int64} {d : UInt64} {I V : gx_F} {p : Program} {e : Env} {R : Room} {s : State} {m : MethodId} {args : Array Value} {below : List Frame} {meth : Method} {c : Code} {H : Heap} {locs : List Loc} {cells slots : Nat} {Q : State → Prop} {cc : ByteArray} {pc nL index : Nat} {ls : Array Slot} {rest : List Value} {own : String} {x0 : Int32} {x1 : Int32} {out : Int32} (hx : p.tables.exec = Jvm.exec) (hb : c.code = cc) (hml : c.maxLocals = nL) (hown : s.vm.findClass own = some m.cls) (hV : gx_V G s) (hw : gx_at G C (I, V) o d s.heap H locs) (hF : f_X7_beside x0 x1 I V = some out) (hlink : (Cond.methodLink own index yX7_beside).before args s = true) (hsz : ls.size = nL) (hfr : 1 ≤ R.frames) (hlo : 21 ≤ R.locals) (hrest : (rest.map fun v => v.category).sum ≤ 8) (hdg : decode cc pc = .ok (.invokestatic index, 3))
    (kk : ∀ (H1 : Heap) (locs1 : List Loc), gx_at G C (I, V) o d s.heap H1 locs1 → W p l e R s m args below meth c H1 locs1 cells slots Q (F0 m (pc + 3) ls (.int out :: rest))) (hc : cells ≤ R.cells := by exact Nat.zero_le _) (hs : slots ≤ R.slots := by exact Nat.zero_le _) : W p l e R s m args below meth c H locs cells slots Q (F0 m pc ls (.int x1 :: .int x0 :: rest)) :=
  gx_runi hw (va_runS (As := [.int x0, .int x1]) (rest := rest) ⟨hx, hb, hml, hown, (fun _ h => nomatch h : ∀ w ∈ ([] : List Cond), w.before args s = true)⟩ (k_X7_beside hF) ⟨gx_callB (n := 2) rfl rfl hlink (gw_56 hV) (gw_1132 hV) (by decide +kernel) ⟨hfr, hlo⟩, gw_1131 hV⟩ (gx_pre hV hw) rfl rfl hsz rfl (lv_room hrest) hdg ⟨hc, hs⟩) kk
set_option maxHeartbeats 4000000 in
set_option maxRecDepth 100000 in
theorem k_X7_glue {l : Launch} {G : gx_G} {C : gx_S} {o : Int64} {d : UInt64} {I V : gx_F} {x1 : Int32} {x2 : Int32} {out : Int32} (hF : f_X7_glue x1 x2 I V = some out) : gx_K l yX7_glue cX7_glue 3 (some .int) { frames := 0, cells := 0, slots := 0, locals := 0 } [.ref (G.2.1 58), .int x1, .int x2] G C (I, V) o d (gx_Qi G out C (I, V) o d) 0 0 := by
  refine gx_begin (by decide +kernel) (Nat.le_of_ble_eq_true rfl) ?_
  intro p e s m below meth c hx hb hr hml hown hlocks hV hw ls hl
  have hown : s.vm.findClass RX7 = some m.cls := hown
  have hl : lv_has ls 3 [(0, .ref (G.2.1 58)), (1, .int x1), (2, .int x2)] := hl
  unfold f_X7_glue at hF
  refine lv_aload_n (pc := 0) hx hb dX7_glue_0 rfl (lv_at hl 0 rfl) ?_
  refine gg_X7_0 (pc := 1) hx hb hown hV hw (gw_1018 hV) dX7_glue_1 ?_
  refine lv_bipush (pc := 4) (v := 13) hx hb dX7_glue_4 (by decide) ?_
  refine lv_iconst (pc := 6) (v := 4) hx hb dX7_glue_6 (by decide) ?_
  refine lv_iload_n (pc := 7) hx hb dX7_glue_7 rfl (lv_at hl 1 rfl) ?_
  refine lv_iconst (pc := 8) (v := 4) hx hb dX7_glue_8 (by decide) ?_
  refine lv_idiv (pc := 9) hx hb dX7_glue_9 (by decide) ?_
  refine lv_imul (pc := 10) hx hb dX7_glue_10 ?_
  refine lv_iadd (pc := 11) hx hb dX7_glue_11 ?_
  refine lv_iload_n (pc := 12) hx hb dX7_glue_12 rfl (lv_at hl 2 rfl) ?_
  refine lv_iload_n (pc := 13) hx hb dX7_glue_13 rfl (lv_at hl 1 rfl) ?_
  refine lv_iconst (pc := 14) (v := 4) hx hb dX7_glue_14 (by decide) ?_
  refine lv_irem (pc := 15) hx hb dX7_glue_15 (by decide) ?_
  refine lv_isub (pc := 16) hx hb dX7_glue_16 ?_
  refine lv_iconst (pc := 17) (v := 4) hx hb dX7_glue_17 (by decide) ?_
  refine lv_iadd (pc := 18) hx hb dX7_glue_18 ?_
  refine lv_iconst (pc := 19) (v := 4) hx hb dX7_glue_19 (by decide) ?_
  refine lv_irem (pc := 20) hx hb dX7_glue_20 (by decide) ?_
  refine lv_iadd (pc := 21) hx hb dX7_glue_21 ?_
  refine ga_59_ld (pc := 22) hx hb hV hw hF dX7_glue_22 (fun _ hF => ?_)
  cases hF
  exact gx_iret hx hb hr hlocks hw dX7_glue_23
set_option maxRecDepth 100000 in
theorem cl_X7_glue {l : Launch} {G : gx_G} {C : gx_S} {o : Int64} {d : UInt64} {I V : gx_F} {p : Program} {e : Env} {R : Room} {s : State} {m : MethodId} {args : Array Value} {below : List Frame} {meth : Method} {c : Code} {H : Heap} {locs : List Loc} {cells slots : Nat} {Q : State → Prop} {cc : ByteArray} {pc nL index : Nat} {ls : Array Slot} {rest : List Value} {own : String} {x1 : Int32} {x2 : Int32} {out : Int32} (hx : p.tables.exec = Jvm.exec) (hb : c.code = cc) (hml : c.maxLocals = nL) (hown : s.vm.findClass own = some m.cls) (hV : gx_V G s) (hw : gx_at G C (I, V) o d s.heap H locs) (hF : f_X7_glue x1 x2 I V = some out) (hlink : (Cond.methodLink own index yX7_glue).before args s = true) (hsz : ls.size = nL) (hfr : 1 ≤ R.frames) (hlo : 22 ≤ R.locals) (hrest : (rest.map fun v => v.category).sum ≤ 8) (hdg : decode cc pc = .ok (.invokevirtual index, 3))
    (kk : ∀ (H1 : Heap) (locs1 : List Loc), gx_at G C (I, V) o d s.heap H1 locs1 → W p l e R s m args below meth c H1 locs1 cells slots Q (F0 m (pc + 3) ls (.int out :: rest))) (hc : cells ≤ R.cells := by exact Nat.zero_le _) (hs : slots ≤ R.slots := by exact Nat.zero_le _) : W p l e R s m args below meth c H locs cells slots Q (F0 m pc ls (.int x2 :: .int x1 :: .ref (G.2.1 58) :: rest)) :=
  gx_runi hw (va_runV (C := RX7) (As := [.int x1, .int x2]) (rest := rest) ⟨hx, hb, hml, hown, (fun _ h => nomatch h : ∀ w ∈ ([] : List Cond), w.before args s = true)⟩ (k_X7_glue hF) ⟨gx_callB (n := 2) rfl rfl hlink (gw_56 hV) (gw_1136 hV) (by decide +kernel) ⟨hfr, hlo⟩, gw_1135 hV, gw_25 hV⟩ (gx_recv (k := 58) (ci := 9) (T := TX7) hV hw (by decide) rfl rfl) rfl rfl hsz rfl (lv_room hrest) hdg ⟨hc, hs⟩) kk
set_option maxHeartbeats 4000000 in
set_option maxRecDepth 100000 in
theorem k_X7_heldAt {l : Launch} {G : gx_G} {C : gx_S} {o : Int64} {d : UInt64} {I V : gx_F} {x1 : Int32} {x2 : Int32} {x3 : Int32} {out : Int32} (hF : f_X7_heldAt x1 x2 x3 I V = some out) : gx_K l yX7_heldAt cX7_heldAt 6 (some .int) { frames := 1, cells := 0, slots := 0, locals := 22 } [.ref (G.2.1 58), .int x1, .int x2, .int x3] G C (I, V) o d (gx_Qi G out C (I, V) o d) 0 0 := by
  refine gx_begin (by decide +kernel) (Nat.le_of_ble_eq_true rfl) ?_
  intro p e s m below meth c hx hb hr hml hown hlocks hV hw ls hl
  have hown : s.vm.findClass RX7 = some m.cls := hown
  have hl : lv_has ls 6 [(0, .ref (G.2.1 58)), (1, .int x1), (2, .int x2), (3, .int x3)] := hl
  unfold f_X7_heldAt at hF
  refine lv_iload_n (pc := 0) hx hb dX7_heldAt_0 rfl (lv_at hl 1 rfl) ?_
  refine lv_iload_n (pc := 1) hx hb dX7_heldAt_1 rfl (lv_at hl 3 rfl) ?_
  obtain ⟨uq_1, huq_1, hF⟩ := Option.bind_eq_some_iff.mp hF
  refine cl_X7_beside (pc := 2) hx hb hml hown hV hw huq_1 (gw_1130 hV) hl.1 (Nat.le_of_ble_eq_true rfl) (Nat.le_of_ble_eq_true rfl) (Nat.le_of_ble_eq_true rfl) dX7_heldAt_2 (fun H locs hw => ?_)
  refine lv_istore (pc := 5) (lv' := [(4, .int uq_1), (0, .ref (G.2.1 58)), (1, .int x1), (2, .int x2), (3, .int x3)]) hx hb dX7_heldAt_5 hl (by decide) rfl (fun ls hl => ?_)
  refine lv_iload (pc := 7) hx hb dX7_heldAt_7 (lv_at hl 0 rfl) ?_
  refine gx_if_lt (pc := 9) (tgt := 21) hx hb hF dX7_heldAt_9 (by decide) (fun hF => ?_) (fun hF => ?_)
  · refine lv_iconst (pc := 21) (v := 0) hx hb dX7_heldAt_21 (by decide) ?_
    cases hF
    exact gx_iret hx hb hr hlocks hw dX7_heldAt_22
  refine lv_aload_n (pc := 12) hx hb dX7_heldAt_12 rfl (lv_at hl 1 rfl) ?_
  refine lv_iload (pc := 13) hx hb dX7_heldAt_13 (lv_at hl 0 rfl) ?_
  obtain ⟨uq_2, huq_2, hF⟩ := Option.bind_eq_some_iff.mp hF
  refine cl_X7_isFree (pc := 15) hx hb hml hown hV hw huq_2 (gw_1118 hV) hl.1 (Nat.le_of_ble_eq_true rfl) (Nat.le_of_ble_eq_true rfl) (Nat.le_of_ble_eq_true rfl) dX7_heldAt_15 (fun H locs hw => ?_)
  refine gx_if_eq (pc := 18) (tgt := 23) hx hb hF dX7_heldAt_18 (by decide) (fun hF => ?_) (fun hF => ?_)
  · refine lv_aload_n (pc := 23) hx hb dX7_heldAt_23 rfl (lv_at hl 1 rfl) ?_
    refine lv_iload_n (pc := 24) hx hb dX7_heldAt_24 rfl (lv_at hl 3 rfl) ?_
    refine lv_iload_n (pc := 25) hx hb dX7_heldAt_25 rfl (lv_at hl 4 rfl) ?_
    obtain ⟨uq_3, huq_3, hF⟩ := Option.bind_eq_some_iff.mp hF
    refine cl_X7_glue (pc := 26) hx hb hml hown hV hw huq_3 (gw_1133 hV) hl.1 (Nat.le_of_ble_eq_true rfl) (Nat.le_of_ble_eq_true rfl) (Nat.le_of_ble_eq_true rfl) dX7_heldAt_26 (fun H locs hw => ?_)
    refine lv_istore (pc := 29) (lv' := [(5, .int uq_3), (4, .int uq_1), (0, .ref (G.2.1 58)), (1, .int x1), (2, .int x2), (3, .int x3)]) hx hb dX7_heldAt_29 hl (by decide) rfl (fun ls hl => ?_)
    refine lv_iload (pc := 31) hx hb dX7_heldAt_31 (lv_at hl 0 rfl) ?_
    refine lv_aload_n (pc := 33) hx hb dX7_heldAt_33 rfl (lv_at hl 2 rfl) ?_
    refine lv_aload_n (pc := 34) hx hb dX7_heldAt_34 rfl (lv_at hl 2 rfl) ?_
    refine gg_X7_0 (pc := 35) hx hb hown hV hw (gw_1018 hV) dX7_heldAt_35 ?_
    refine lv_bipush (pc := 38) (v := 45) hx hb dX7_heldAt_38 (by decide) ?_
    refine lv_iload (pc := 40) hx hb dX7_heldAt_40 (lv_at hl 1 rfl) ?_
    refine lv_iadd (pc := 42) hx hb dX7_heldAt_42 ?_
    refine ga_59_ld (pc := 43) hx hb hV hw hF dX7_heldAt_43 (fun _ hF => ?_)
    refine lv_iload_n (pc := 44) hx hb dX7_heldAt_44 rfl (lv_at hl 5 rfl) ?_
    refine lv_iconst (pc := 45) (v := 2) hx hb dX7_heldAt_45 (by decide) ?_
    refine lv_iadd (pc := 46) hx hb dX7_heldAt_46 ?_
    refine lv_iconst (pc := 47) (v := 4) hx hb dX7_heldAt_47 (by decide) ?_
    refine lv_irem (pc := 48) hx hb dX7_heldAt_48 (by decide) ?_
    obtain ⟨uq_4, huq_4, hF⟩ := Option.bind_eq_some_iff.mp hF
    refine cl_X7_glue (pc := 49) hx hb hml hown hV hw huq_4 (gw_1133 hV) hl.1 (Nat.le_of_ble_eq_true rfl) (Nat.le_of_ble_eq_true rfl) (Nat.le_of_ble_eq_true rfl) dX7_heldAt_49 (fun H locs hw => ?_)
    refine gx_icmp_ne (pc := 52) (tgt := 68) hx hb hF dX7_heldAt_52 (by decide) (fun hF => ?_) (fun hF => ?_)
    · refine lv_iconst (pc := 68) (v := 0) hx hb dX7_heldAt_68 (by decide) ?_
      cases hF
      exact gx_iret hx hb hr hlocks hw dX7_heldAt_69
    refine lv_aload_n (pc := 55) hx hb dX7_heldAt_55 rfl (lv_at hl 2 rfl) ?_
    refine gg_X7_0 (pc := 56) hx hb hown hV hw (gw_1018 hV) dX7_heldAt_56 ?_
    refine lv_bipush (pc := 59) (v := 6) hx hb dX7_heldAt_59 (by decide) ?_
    refine lv_iload (pc := 61) hx hb dX7_heldAt_61 (lv_at hl 0 rfl) ?_
    refine lv_iadd (pc := 63) hx hb dX7_heldAt_63 ?_
    refine ga_59_ld (pc := 64) hx hb hV hw hF dX7_heldAt_64 (fun _ hF => ?_)
    refine lv_goto (pc := 65) (tgt := 69) hx hb dX7_heldAt_65 (by decide) ?_
    cases hF
    exact gx_iret hx hb hr hlocks hw dX7_heldAt_69
  refine lv_iconst (pc := 21) (v := 0) hx hb dX7_heldAt_21 (by decide) ?_
  cases hF
  exact gx_iret hx hb hr hlocks hw dX7_heldAt_22
set_option maxRecDepth 100000 in
theorem cl_X7_heldAt {l : Launch} {G : gx_G} {C : gx_S} {o : Int64} {d : UInt64} {I V : gx_F} {p : Program} {e : Env} {R : Room} {s : State} {m : MethodId} {args : Array Value} {below : List Frame} {meth : Method} {c : Code} {H : Heap} {locs : List Loc} {cells slots : Nat} {Q : State → Prop} {cc : ByteArray} {pc nL index : Nat} {ls : Array Slot} {rest : List Value} {own : String} {x1 : Int32} {x2 : Int32} {x3 : Int32} {out : Int32} (hx : p.tables.exec = Jvm.exec) (hb : c.code = cc) (hml : c.maxLocals = nL) (hown : s.vm.findClass own = some m.cls) (hV : gx_V G s) (hw : gx_at G C (I, V) o d s.heap H locs) (hF : f_X7_heldAt x1 x2 x3 I V = some out) (hlink : (Cond.methodLink own index yX7_heldAt).before args s = true) (hsz : ls.size = nL) (hfr : 2 ≤ R.frames) (hlo : 47 ≤ R.locals) (hrest : (rest.map fun v => v.category).sum ≤ 8) (hdg : decode cc pc = .ok (.invokevirtual index, 3))
    (kk : ∀ (H1 : Heap) (locs1 : List Loc), gx_at G C (I, V) o d s.heap H1 locs1 → W p l e R s m args below meth c H1 locs1 cells slots Q (F0 m (pc + 3) ls (.int out :: rest))) (hc : cells ≤ R.cells := by exact Nat.zero_le _) (hs : slots ≤ R.slots := by exact Nat.zero_le _) : W p l e R s m args below meth c H locs cells slots Q (F0 m pc ls (.int x3 :: .int x2 :: .int x1 :: .ref (G.2.1 58) :: rest)) :=
  gx_runi hw (va_runV (C := RX7) (As := [.int x1, .int x2, .int x3]) (rest := rest) ⟨hx, hb, hml, hown, (fun _ h => nomatch h : ∀ w ∈ ([] : List Cond), w.before args s = true)⟩ (k_X7_heldAt hF) ⟨gx_callB (n := 3) rfl rfl hlink (gw_56 hV) (gw_1129 hV) (by decide +kernel) ⟨hfr, hlo⟩, gw_1128 hV, gw_24 hV⟩ (gx_recv (k := 58) (ci := 9) (T := TX7) hV hw (by decide) rfl rfl) rfl rfl hsz rfl (lv_room hrest) hdg ⟨hc, hs⟩) kk
set_option maxHeartbeats 4000000 in
set_option maxRecDepth 100000 in
theorem k_X7_held {l : Launch} {G : gx_G} {C : gx_S} {o : Int64} {d : UInt64} {I V : gx_F} {x1 : Int32} {x2 : Int32} {out : Int32} (hF : f_X7_held x1 x2 I V = some out) : gx_K l yX7_held cX7_held 5 (some .int) { frames := 2, cells := 0, slots := 0, locals := 47 } [.ref (G.2.1 58), .int x1, .int x2] G C (I, V) o d (gx_Qi G out C (I, V) o d) 0 0 := by
  refine gx_begin (by decide +kernel) (Nat.le_of_ble_eq_true rfl) ?_
  intro p e s m below meth c hx hb hr hml hown hlocks hV hw ls hl
  have hown : s.vm.findClass RX7 = some m.cls := hown
  have hl : lv_has ls 5 [(0, .ref (G.2.1 58)), (1, .int x1), (2, .int x2)] := hl
  unfold f_X7_held at hF
  refine lv_iconst (pc := 0) (v := 0) hx hb dX7_held_0 (by decide) ?_
  refine lv_istore_n (pc := 1) (lv' := [(3, .int 0), (0, .ref (G.2.1 58)), (1, .int x1), (2, .int x2)]) hx hb dX7_held_1 rfl hl (by decide) rfl (fun ls hl => ?_)
  refine lv_iconst (pc := 2) (v := 0) hx hb dX7_held_2 (by decide) ?_
  refine lv_istore (pc := 3) (lv' := [(4, .int 0), (3, .int 0), (0, .ref (G.2.1 58)), (1, .int x1), (2, .int x2)]) hx hb dX7_held_3 hl (by decide) rfl (fun ls hl => ?_)
  have L1 : ∀ (n : Nat) (K1 : Int32 → Int32 → Option Int32) (uv_1 : Int32) (uv_2 : Int32) (H : Heap) (locs : List Loc) (ls : Array Slot), lv_has ls 5 [(4, .int uv_2), (3, .int uv_1), (0, .ref (G.2.1 58)), (1, .int x1), (2, .int x2)] → gx_at G C (I, V) o d s.heap H locs → f_X7_held_L1 x1 x2 I V K1 n uv_1 uv_2 = some out → (∀ (uv_1 : Int32) (uv_2 : Int32) (H : Heap) (locs : List Loc) (ls : Array Slot), lv_has ls 5 [(4, .int uv_2), (3, .int uv_1), (0, .ref (G.2.1 58)), (1, .int x1), (2, .int x2)] → gx_at G C (I, V) o d s.heap H locs → K1 uv_1 uv_2 = some out → W p l e ({ frames := 2, cells := 0, slots := 0, locals := 47 } : Room) s m ([.ref (G.2.1 58), .int x1, .int x2] : List Value).toArray below meth c H locs 0 0 (MQ below (gx_Qi G out C (I, V) o d) ([.ref (G.2.1 58), .int x1, .int x2] : List Value).toArray s 0 0 (gx_A G)) (F0 m 28 ls [])) → W p l e ({ frames := 2, cells := 0, slots := 0, locals := 47 } : Room) s m ([.ref (G.2.1 58), .int x1, .int x2] : List Value).toArray below meth c H locs 0 0 (MQ below (gx_Qi G out C (I, V) o d) ([.ref (G.2.1 58), .int x1, .int x2] : List Value).toArray s 0 0 (gx_A G)) (F0 m 5 ls []) := by
    intro n
    induction n with
    | zero =>
      intro K1 uv_1 uv_2 H locs ls hl hw hF hK
      rw [f_X7_held_L1] at hF
      cases hF
    | succ n ih1 =>
      intro K1 uv_1 uv_2 H locs ls hl hw hF hK1
      rw [f_X7_held_L1] at hF
      refine lv_iload (pc := 5) hx hb dX7_held_5 (lv_at hl 0 rfl) ?_
      refine lv_iconst (pc := 7) (v := 4) hx hb dX7_held_7 (by decide) ?_
      refine gx_icmp_ge (pc := 8) (tgt := 28) hx hb hF dX7_held_8 (by decide) (fun hF => ?_) (fun hF => ?_)
      · exact hK1 _ _ _ _ _ (lv_sub hl [0, 1, 2, 3, 4] rfl) hw hF
      refine lv_iload_n (pc := 11) hx hb dX7_held_11 rfl (lv_at hl 1 rfl) ?_
      refine lv_aload_n (pc := 12) hx hb dX7_held_12 rfl (lv_at hl 2 rfl) ?_
      refine lv_iload_n (pc := 13) hx hb dX7_held_13 rfl (lv_at hl 3 rfl) ?_
      refine lv_iload_n (pc := 14) hx hb dX7_held_14 rfl (lv_at hl 4 rfl) ?_
      refine lv_iload (pc := 15) hx hb dX7_held_15 (lv_at hl 0 rfl) ?_
      obtain ⟨uq_3, huq_3, hF⟩ := Option.bind_eq_some_iff.mp hF
      refine cl_X7_heldAt (pc := 17) hx hb hml hown hV hw huq_3 (gw_1126 hV) hl.1 (Nat.le_of_ble_eq_true rfl) (Nat.le_of_ble_eq_true rfl) (Nat.le_of_ble_eq_true rfl) dX7_held_17 (fun H locs hw => ?_)
      refine lv_iadd (pc := 20) hx hb dX7_held_20 ?_
      refine lv_istore_n (pc := 21) (lv' := [(3, .int (uv_1 + uq_3)), (4, .int uv_2), (0, .ref (G.2.1 58)), (1, .int x1), (2, .int x2)]) hx hb dX7_held_21 rfl hl (by decide) rfl (fun ls hl => ?_)
      refine lv_iinc (pc := 22) (v := (uv_2 + 1)) (lv' := [(4, .int (uv_2 + 1)), (3, .int (uv_1 + uq_3)), (0, .ref (G.2.1 58)), (1, .int x1), (2, .int x2)]) hx hb dX7_held_22 hl (k := 1) rfl rfl (by decide) rfl (fun ls hl => ?_)
      refine lv_goto (pc := 25) (tgt := 5) hx hb dX7_held_25 (by decide) ?_
      exact ih1 _ _ _ _ _ _ (lv_sub hl [0, 1, 2, 3, 4] rfl) hw hF hK1
  refine L1 1000 _ _ _ _ _ _ hl hw hF (fun uv_4 uv_5 H locs ls hl hw hF => ?_)
  refine lv_iload_n (pc := 28) hx hb dX7_held_28 rfl (lv_at hl 1 rfl) ?_
  cases hF
  exact gx_iret hx hb hr hlocks hw dX7_held_29
set_option maxRecDepth 100000 in
theorem cl_X7_held {l : Launch} {G : gx_G} {C : gx_S} {o : Int64} {d : UInt64} {I V : gx_F} {p : Program} {e : Env} {R : Room} {s : State} {m : MethodId} {args : Array Value} {below : List Frame} {meth : Method} {c : Code} {H : Heap} {locs : List Loc} {cells slots : Nat} {Q : State → Prop} {cc : ByteArray} {pc nL index : Nat} {ls : Array Slot} {rest : List Value} {own : String} {x1 : Int32} {x2 : Int32} {out : Int32} (hx : p.tables.exec = Jvm.exec) (hb : c.code = cc) (hml : c.maxLocals = nL) (hown : s.vm.findClass own = some m.cls) (hV : gx_V G s) (hw : gx_at G C (I, V) o d s.heap H locs) (hF : f_X7_held x1 x2 I V = some out) (hlink : (Cond.methodLink own index yX7_held).before args s = true) (hsz : ls.size = nL) (hfr : 3 ≤ R.frames) (hlo : 71 ≤ R.locals) (hrest : (rest.map fun v => v.category).sum ≤ 8) (hdg : decode cc pc = .ok (.invokevirtual index, 3))
    (kk : ∀ (H1 : Heap) (locs1 : List Loc), gx_at G C (I, V) o d s.heap H1 locs1 → W p l e R s m args below meth c H1 locs1 cells slots Q (F0 m (pc + 3) ls (.int out :: rest))) (hc : cells ≤ R.cells := by exact Nat.zero_le _) (hs : slots ≤ R.slots := by exact Nat.zero_le _) : W p l e R s m args below meth c H locs cells slots Q (F0 m pc ls (.int x2 :: .int x1 :: .ref (G.2.1 58) :: rest)) :=
  gx_runi hw (va_runV (C := RX7) (As := [.int x1, .int x2]) (rest := rest) ⟨hx, hb, hml, hown, (fun _ h => nomatch h : ∀ w ∈ ([] : List Cond), w.before args s = true)⟩ (k_X7_held hF) ⟨gx_callB (n := 2) rfl rfl hlink (gw_56 hV) (gw_1125 hV) (by decide +kernel) ⟨hfr, hlo⟩, gw_1124 hV, gw_23 hV⟩ (gx_recv (k := 58) (ci := 9) (T := TX7) hV hw (by decide) rfl rfl) rfl rfl hsz rfl (lv_room hrest) hdg ⟨hc, hs⟩) kk
set_option maxHeartbeats 4000000 in
set_option maxRecDepth 100000 in
theorem k_X7_errorsOf {l : Launch} {G : gx_G} {C : gx_S} {o : Int64} {d : UInt64} {I V : gx_F} {x1 : Int32} {x2 : Int32} {out : Int32} (hF : f_X7_errorsOf x1 x2 I V = some out) : gx_K l yX7_errorsOf cX7_errorsOf 8 (some .int) { frames := 1, cells := 0, slots := 0, locals := 22 } [.ref (G.2.1 58), .int x1, .int x2] G C (I, V) o d (gx_Qi G out C (I, V) o d) 0 0 := by
  refine gx_begin (by decide +kernel) (Nat.le_of_ble_eq_true rfl) ?_
  intro p e s m below meth c hx hb hr hml hown hlocks hV hw ls hl
  have hown : s.vm.findClass RX7 = some m.cls := hown
  have hl : lv_has ls 8 [(0, .ref (G.2.1 58)), (1, .int x1), (2, .int x2)] := hl
  unfold f_X7_errorsOf at hF
  refine lv_iconst (pc := 0) (v := 0) hx hb dX7_errorsOf_0 (by decide) ?_
  refine lv_istore_n (pc := 1) (lv' := [(3, .int 0), (0, .ref (G.2.1 58)), (1, .int x1), (2, .int x2)]) hx hb dX7_errorsOf_1 rfl hl (by decide) rfl (fun ls hl => ?_)
  refine lv_iconst (pc := 2) (v := 0) hx hb dX7_errorsOf_2 (by decide) ?_
  refine lv_istore (pc := 3) (lv' := [(4, .int 0), (3, .int 0), (0, .ref (G.2.1 58)), (1, .int x1), (2, .int x2)]) hx hb dX7_errorsOf_3 hl (by decide) rfl (fun ls hl => ?_)
  have L1 : ∀ (n : Nat) (K1 : Int32 → Int32 → Option Int32) (uv_1 : Int32) (uv_2 : Int32) (H : Heap) (locs : List Loc) (ls : Array Slot), lv_has ls 8 [(4, .int uv_2), (3, .int uv_1), (0, .ref (G.2.1 58)), (1, .int x1), (2, .int x2)] → gx_at G C (I, V) o d s.heap H locs → f_X7_errorsOf_L1 x1 x2 I V K1 n uv_1 uv_2 = some out → (∀ (uv_1 : Int32) (uv_2 : Int32) (H : Heap) (locs : List Loc) (ls : Array Slot), lv_has ls 8 [(4, .int uv_2), (3, .int uv_1), (0, .ref (G.2.1 58)), (1, .int x1), (2, .int x2)] → gx_at G C (I, V) o d s.heap H locs → K1 uv_1 uv_2 = some out → W p l e ({ frames := 1, cells := 0, slots := 0, locals := 22 } : Room) s m ([.ref (G.2.1 58), .int x1, .int x2] : List Value).toArray below meth c H locs 0 0 (MQ below (gx_Qi G out C (I, V) o d) ([.ref (G.2.1 58), .int x1, .int x2] : List Value).toArray s 0 0 (gx_A G)) (F0 m 98 ls [])) → W p l e ({ frames := 1, cells := 0, slots := 0, locals := 22 } : Room) s m ([.ref (G.2.1 58), .int x1, .int x2] : List Value).toArray below meth c H locs 0 0 (MQ below (gx_Qi G out C (I, V) o d) ([.ref (G.2.1 58), .int x1, .int x2] : List Value).toArray s 0 0 (gx_A G)) (F0 m 5 ls []) := by
    intro n
    induction n with
    | zero =>
      intro K1 uv_1 uv_2 H locs ls hl hw hF hK
      rw [f_X7_errorsOf_L1] at hF
      cases hF
    | succ n ih1 =>
      intro K1 uv_1 uv_2 H locs ls hl hw hF hK1
      rw [f_X7_errorsOf_L1] at hF
      refine lv_iload (pc := 5) hx hb dX7_errorsOf_5 (lv_at hl 0 rfl) ?_
      refine lv_iconst (pc := 7) (v := 4) hx hb dX7_errorsOf_7 (by decide) ?_
      refine gx_icmp_ge (pc := 8) (tgt := 98) hx hb hF dX7_errorsOf_8 (by decide) (fun hF => ?_) (fun hF => ?_)
      · exact hK1 _ _ _ _ _ (lv_sub hl [0, 1, 2, 3, 4] rfl) hw hF
      refine lv_iload_n (pc := 11) hx hb dX7_errorsOf_11 rfl (lv_at hl 3 rfl) ?_
      refine lv_iload (pc := 12) hx hb dX7_errorsOf_12 (lv_at hl 0 rfl) ?_
      obtain ⟨uq_3, huq_3, hF⟩ := Option.bind_eq_some_iff.mp hF
      refine cl_X7_beside (pc := 14) hx hb hml hown hV hw huq_3 (gw_1130 hV) hl.1 (Nat.le_of_ble_eq_true rfl) (Nat.le_of_ble_eq_true rfl) (Nat.le_of_ble_eq_true rfl) dX7_errorsOf_14 (fun H locs hw => ?_)
      refine lv_istore (pc := 17) (lv' := [(5, .int uq_3), (4, .int uv_2), (3, .int uv_1), (0, .ref (G.2.1 58)), (1, .int x1), (2, .int x2)]) hx hb dX7_errorsOf_17 hl (by decide) rfl (fun ls hl => ?_)
      refine lv_iload (pc := 19) hx hb dX7_errorsOf_19 (lv_at hl 0 rfl) ?_
      refine gx_if_lt (pc := 21) (tgt := 92) hx hb hF dX7_errorsOf_21 (by decide) (fun hF => ?_) (fun hF => ?_)
      · refine lv_iinc (pc := 92) (v := (uv_2 + 1)) (lv' := [(4, .int (uv_2 + 1)), (5, .int uq_3), (3, .int uv_1), (0, .ref (G.2.1 58)), (1, .int x1), (2, .int x2)]) hx hb dX7_errorsOf_92 hl (k := 1) rfl rfl (by decide) rfl (fun ls hl => ?_)
        refine lv_goto (pc := 95) (tgt := 5) hx hb dX7_errorsOf_95 (by decide) ?_
        exact ih1 _ _ _ _ _ _ (lv_sub hl [0, 2, 3, 4, 5] rfl) hw hF hK1
      refine lv_aload_n (pc := 24) hx hb dX7_errorsOf_24 rfl (lv_at hl 3 rfl) ?_
      refine lv_iload (pc := 25) hx hb dX7_errorsOf_25 (lv_at hl 0 rfl) ?_
      obtain ⟨uq_4, huq_4, hF⟩ := Option.bind_eq_some_iff.mp hF
      refine cl_X7_isFree (pc := 27) hx hb hml hown hV hw huq_4 (gw_1118 hV) hl.1 (Nat.le_of_ble_eq_true rfl) (Nat.le_of_ble_eq_true rfl) (Nat.le_of_ble_eq_true rfl) dX7_errorsOf_27 (fun H locs hw => ?_)
      refine gx_if_eq (pc := 30) (tgt := 36) hx hb hF dX7_errorsOf_30 (by decide) (fun hF => ?_) (fun hF => ?_)
      · refine lv_aload_n (pc := 36) hx hb dX7_errorsOf_36 rfl (lv_at hl 3 rfl) ?_
        refine lv_iload_n (pc := 37) hx hb dX7_errorsOf_37 rfl (lv_at hl 5 rfl) ?_
        refine lv_iload (pc := 38) hx hb dX7_errorsOf_38 (lv_at hl 1 rfl) ?_
        obtain ⟨uq_5, huq_5, hF⟩ := Option.bind_eq_some_iff.mp hF
        refine cl_X7_glue (pc := 40) hx hb hml hown hV hw huq_5 (gw_1133 hV) hl.1 (Nat.le_of_ble_eq_true rfl) (Nat.le_of_ble_eq_true rfl) (Nat.le_of_ble_eq_true rfl) dX7_errorsOf_40 (fun H locs hw => ?_)
        refine lv_istore (pc := 43) (lv' := [(6, .int uq_5), (5, .int uq_3), (4, .int uv_2), (3, .int uv_1), (0, .ref (G.2.1 58)), (1, .int x1), (2, .int x2)]) hx hb dX7_errorsOf_43 hl (by decide) rfl (fun ls hl => ?_)
        refine lv_aload_n (pc := 45) hx hb dX7_errorsOf_45 rfl (lv_at hl 4 rfl) ?_
        refine lv_aload_n (pc := 46) hx hb dX7_errorsOf_46 rfl (lv_at hl 4 rfl) ?_
        refine gg_X7_0 (pc := 47) hx hb hown hV hw (gw_1018 hV) dX7_errorsOf_47 ?_
        refine lv_bipush (pc := 50) (v := 45) hx hb dX7_errorsOf_50 (by decide) ?_
        refine lv_iload (pc := 52) hx hb dX7_errorsOf_52 (lv_at hl 1 rfl) ?_
        refine lv_iadd (pc := 54) hx hb dX7_errorsOf_54 ?_
        refine ga_59_ld (pc := 55) hx hb hV hw hF dX7_errorsOf_55 (fun _ hF => ?_)
        refine lv_iload (pc := 56) hx hb dX7_errorsOf_56 (lv_at hl 2 rfl) ?_
        refine lv_iconst (pc := 58) (v := 2) hx hb dX7_errorsOf_58 (by decide) ?_
        refine lv_iadd (pc := 59) hx hb dX7_errorsOf_59 ?_
        refine lv_iconst (pc := 60) (v := 4) hx hb dX7_errorsOf_60 (by decide) ?_
        refine lv_irem (pc := 61) hx hb dX7_errorsOf_61 (by decide) ?_
        obtain ⟨uq_6, huq_6, hF⟩ := Option.bind_eq_some_iff.mp hF
        refine cl_X7_glue (pc := 62) hx hb hml hown hV hw huq_6 (gw_1133 hV) hl.1 (Nat.le_of_ble_eq_true rfl) (Nat.le_of_ble_eq_true rfl) (Nat.le_of_ble_eq_true rfl) dX7_errorsOf_62 (fun H locs hw => ?_)
        refine lv_istore (pc := 65) (lv' := [(7, .int uq_6), (6, .int uq_5), (5, .int uq_3), (4, .int uv_2), (3, .int uv_1), (0, .ref (G.2.1 58)), (1, .int x1), (2, .int x2)]) hx hb dX7_errorsOf_65 hl (by decide) rfl (fun ls hl => ?_)
        refine lv_iload_n (pc := 67) hx hb dX7_errorsOf_67 rfl (lv_at hl 4 rfl) ?_
        refine lv_iload (pc := 68) hx hb dX7_errorsOf_68 (lv_at hl 1 rfl) ?_
        refine lv_iload (pc := 70) hx hb dX7_errorsOf_70 (lv_at hl 0 rfl) ?_
        refine gx_icmp_eq (pc := 72) (tgt := 89) hx hb hF dX7_errorsOf_72 (by decide) (fun hF => ?_) (fun hF => ?_)
        · refine lv_iconst (pc := 89) (v := 0) hx hb dX7_errorsOf_89 (by decide) ?_
          refine lv_iadd (pc := 90) hx hb dX7_errorsOf_90 ?_
          refine lv_istore_n (pc := 91) (lv' := [(3, .int (uv_1 + 0)), (7, .int uq_6), (6, .int uq_5), (5, .int uq_3), (4, .int uv_2), (0, .ref (G.2.1 58)), (1, .int x1), (2, .int x2)]) hx hb dX7_errorsOf_91 rfl hl (by decide) rfl (fun ls hl => ?_)
          refine lv_iinc (pc := 92) (v := (uv_2 + 1)) (lv' := [(4, .int (uv_2 + 1)), (3, .int (uv_1 + 0)), (7, .int uq_6), (6, .int uq_5), (5, .int uq_3), (0, .ref (G.2.1 58)), (1, .int x1), (2, .int x2)]) hx hb dX7_errorsOf_92 hl (k := 4) rfl rfl (by decide) rfl (fun ls hl => ?_)
          refine lv_goto (pc := 95) (tgt := 5) hx hb dX7_errorsOf_95 (by decide) ?_
          exact ih1 _ _ _ _ _ _ (lv_sub hl [0, 1, 5, 6, 7] rfl) hw hF hK1
        refine lv_iload (pc := 75) hx hb dX7_errorsOf_75 (lv_at hl 1 rfl) ?_
        refine gx_if_le (pc := 77) (tgt := 89) hx hb hF dX7_errorsOf_77 (by decide) (fun hF => ?_) (fun hF => ?_)
        · refine lv_iconst (pc := 89) (v := 0) hx hb dX7_errorsOf_89 (by decide) ?_
          refine lv_iadd (pc := 90) hx hb dX7_errorsOf_90 ?_
          refine lv_istore_n (pc := 91) (lv' := [(3, .int (uv_1 + 0)), (7, .int uq_6), (6, .int uq_5), (5, .int uq_3), (4, .int uv_2), (0, .ref (G.2.1 58)), (1, .int x1), (2, .int x2)]) hx hb dX7_errorsOf_91 rfl hl (by decide) rfl (fun ls hl => ?_)
          refine lv_iinc (pc := 92) (v := (uv_2 + 1)) (lv' := [(4, .int (uv_2 + 1)), (3, .int (uv_1 + 0)), (7, .int uq_6), (6, .int uq_5), (5, .int uq_3), (0, .ref (G.2.1 58)), (1, .int x1), (2, .int x2)]) hx hb dX7_errorsOf_92 hl (k := 4) rfl rfl (by decide) rfl (fun ls hl => ?_)
          refine lv_goto (pc := 95) (tgt := 5) hx hb dX7_errorsOf_95 (by decide) ?_
          exact ih1 _ _ _ _ _ _ (lv_sub hl [0, 1, 5, 6, 7] rfl) hw hF hK1
        refine lv_iload (pc := 80) hx hb dX7_errorsOf_80 (lv_at hl 0 rfl) ?_
        refine gx_if_le (pc := 82) (tgt := 89) hx hb hF dX7_errorsOf_82 (by decide) (fun hF => ?_) (fun hF => ?_)
        · refine lv_iconst (pc := 89) (v := 0) hx hb dX7_errorsOf_89 (by decide) ?_
          refine lv_iadd (pc := 90) hx hb dX7_errorsOf_90 ?_
          refine lv_istore_n (pc := 91) (lv' := [(3, .int (uv_1 + 0)), (7, .int uq_6), (6, .int uq_5), (5, .int uq_3), (4, .int uv_2), (0, .ref (G.2.1 58)), (1, .int x1), (2, .int x2)]) hx hb dX7_errorsOf_91 rfl hl (by decide) rfl (fun ls hl => ?_)
          refine lv_iinc (pc := 92) (v := (uv_2 + 1)) (lv' := [(4, .int (uv_2 + 1)), (3, .int (uv_1 + 0)), (7, .int uq_6), (6, .int uq_5), (5, .int uq_3), (0, .ref (G.2.1 58)), (1, .int x1), (2, .int x2)]) hx hb dX7_errorsOf_92 hl (k := 4) rfl rfl (by decide) rfl (fun ls hl => ?_)
          refine lv_goto (pc := 95) (tgt := 5) hx hb dX7_errorsOf_95 (by decide) ?_
          exact ih1 _ _ _ _ _ _ (lv_sub hl [0, 1, 5, 6, 7] rfl) hw hF hK1
        refine lv_iconst (pc := 85) (v := 1) hx hb dX7_errorsOf_85 (by decide) ?_
        refine lv_goto (pc := 86) (tgt := 90) hx hb dX7_errorsOf_86 (by decide) ?_
        refine lv_iadd (pc := 90) hx hb dX7_errorsOf_90 ?_
        refine lv_istore_n (pc := 91) (lv' := [(3, .int (uv_1 + 1)), (7, .int uq_6), (6, .int uq_5), (5, .int uq_3), (4, .int uv_2), (0, .ref (G.2.1 58)), (1, .int x1), (2, .int x2)]) hx hb dX7_errorsOf_91 rfl hl (by decide) rfl (fun ls hl => ?_)
        refine lv_iinc (pc := 92) (v := (uv_2 + 1)) (lv' := [(4, .int (uv_2 + 1)), (3, .int (uv_1 + 1)), (7, .int uq_6), (6, .int uq_5), (5, .int uq_3), (0, .ref (G.2.1 58)), (1, .int x1), (2, .int x2)]) hx hb dX7_errorsOf_92 hl (k := 4) rfl rfl (by decide) rfl (fun ls hl => ?_)
        refine lv_goto (pc := 95) (tgt := 5) hx hb dX7_errorsOf_95 (by decide) ?_
        exact ih1 _ _ _ _ _ _ (lv_sub hl [0, 1, 5, 6, 7] rfl) hw hF hK1
      refine lv_goto (pc := 33) (tgt := 92) hx hb dX7_errorsOf_33 (by decide) ?_
      refine lv_iinc (pc := 92) (v := (uv_2 + 1)) (lv' := [(4, .int (uv_2 + 1)), (5, .int uq_3), (3, .int uv_1), (0, .ref (G.2.1 58)), (1, .int x1), (2, .int x2)]) hx hb dX7_errorsOf_92 hl (k := 1) rfl rfl (by decide) rfl (fun ls hl => ?_)
      refine lv_goto (pc := 95) (tgt := 5) hx hb dX7_errorsOf_95 (by decide) ?_
      exact ih1 _ _ _ _ _ _ (lv_sub hl [0, 2, 3, 4, 5] rfl) hw hF hK1
  refine L1 1000 _ _ _ _ _ _ hl hw hF (fun uv_7 uv_8 H locs ls hl hw hF => ?_)
  refine lv_iload_n (pc := 98) hx hb dX7_errorsOf_98 rfl (lv_at hl 1 rfl) ?_
  cases hF
  exact gx_iret hx hb hr hlocks hw dX7_errorsOf_99
set_option maxRecDepth 100000 in
theorem cl_X7_errorsOf {l : Launch} {G : gx_G} {C : gx_S} {o : Int64} {d : UInt64} {I V : gx_F} {p : Program} {e : Env} {R : Room} {s : State} {m : MethodId} {args : Array Value} {below : List Frame} {meth : Method} {c : Code} {H : Heap} {locs : List Loc} {cells slots : Nat} {Q : State → Prop} {cc : ByteArray} {pc nL index : Nat} {ls : Array Slot} {rest : List Value} {own : String} {x1 : Int32} {x2 : Int32} {out : Int32} (hx : p.tables.exec = Jvm.exec) (hb : c.code = cc) (hml : c.maxLocals = nL) (hown : s.vm.findClass own = some m.cls) (hV : gx_V G s) (hw : gx_at G C (I, V) o d s.heap H locs) (hF : f_X7_errorsOf x1 x2 I V = some out) (hlink : (Cond.methodLink own index yX7_errorsOf).before args s = true) (hsz : ls.size = nL) (hfr : 2 ≤ R.frames) (hlo : 49 ≤ R.locals) (hrest : (rest.map fun v => v.category).sum ≤ 8) (hdg : decode cc pc = .ok (.invokevirtual index, 3))
    (kk : ∀ (H1 : Heap) (locs1 : List Loc), gx_at G C (I, V) o d s.heap H1 locs1 → W p l e R s m args below meth c H1 locs1 cells slots Q (F0 m (pc + 3) ls (.int out :: rest))) (hc : cells ≤ R.cells := by exact Nat.zero_le _) (hs : slots ≤ R.slots := by exact Nat.zero_le _) : W p l e R s m args below meth c H locs cells slots Q (F0 m pc ls (.int x2 :: .int x1 :: .ref (G.2.1 58) :: rest)) :=
  gx_runi hw (va_runV (C := RX7) (As := [.int x1, .int x2]) (rest := rest) ⟨hx, hb, hml, hown, (fun _ h => nomatch h : ∀ w ∈ ([] : List Cond), w.before args s = true)⟩ (k_X7_errorsOf hF) ⟨gx_callB (n := 2) rfl rfl hlink (gw_56 hV) (gw_1168 hV) (by decide +kernel) ⟨hfr, hlo⟩, gw_1167 hV, gw_31 hV⟩ (gx_recv (k := 58) (ci := 9) (T := TX7) hV hw (by decide) rfl rfl) rfl rfl hsz rfl (lv_room hrest) hdg ⟨hc, hs⟩) kk
set_option maxHeartbeats 4000000 in
set_option maxRecDepth 100000 in
theorem k_X7_bricks {l : Launch} {G : gx_G} {C : gx_S} {o : Int64} {d : UInt64} {I V : gx_F} {out : Int32} (hF : f_X7_bricks I V = some out) : gx_K l yX7_bricks cX7_bricks 3 (some .int) { frames := 1, cells := 0, slots := 0, locals := 21 } [.ref (G.2.1 58)] G C (I, V) o d (gx_Qi G out C (I, V) o d) 0 0 := by
  refine gx_begin (by decide +kernel) (Nat.le_of_ble_eq_true rfl) ?_
  intro p e s m below meth c hx hb hr hml hown hlocks hV hw ls hl
  have hown : s.vm.findClass RX7 = some m.cls := hown
  have hl : lv_has ls 3 [(0, .ref (G.2.1 58))] := hl
  unfold f_X7_bricks at hF
  refine lv_iconst (pc := 0) (v := 0) hx hb dX7_bricks_0 (by decide) ?_
  refine lv_istore_n (pc := 1) (lv' := [(1, .int 0), (0, .ref (G.2.1 58))]) hx hb dX7_bricks_1 rfl hl (by decide) rfl (fun ls hl => ?_)
  refine lv_iconst (pc := 2) (v := 0) hx hb dX7_bricks_2 (by decide) ?_
  refine lv_istore_n (pc := 3) (lv' := [(2, .int 0), (1, .int 0), (0, .ref (G.2.1 58))]) hx hb dX7_bricks_3 rfl hl (by decide) rfl (fun ls hl => ?_)
  have L1 : ∀ (n : Nat) (K1 : Int32 → Int32 → Option Int32) (uv_1 : Int32) (uv_2 : Int32) (H : Heap) (locs : List Loc) (ls : Array Slot), lv_has ls 3 [(2, .int uv_2), (1, .int uv_1), (0, .ref (G.2.1 58))] → gx_at G C (I, V) o d s.heap H locs → f_X7_bricks_L1 I V K1 n uv_1 uv_2 = some out → (∀ (uv_1 : Int32) (uv_2 : Int32) (H : Heap) (locs : List Loc) (ls : Array Slot), lv_has ls 3 [(2, .int uv_2), (1, .int uv_1), (0, .ref (G.2.1 58))] → gx_at G C (I, V) o d s.heap H locs → K1 uv_1 uv_2 = some out → W p l e ({ frames := 1, cells := 0, slots := 0, locals := 21 } : Room) s m ([.ref (G.2.1 58)] : List Value).toArray below meth c H locs 0 0 (MQ below (gx_Qi G out C (I, V) o d) ([.ref (G.2.1 58)] : List Value).toArray s 0 0 (gx_A G)) (F0 m 32 ls [])) → W p l e ({ frames := 1, cells := 0, slots := 0, locals := 21 } : Room) s m ([.ref (G.2.1 58)] : List Value).toArray below meth c H locs 0 0 (MQ below (gx_Qi G out C (I, V) o d) ([.ref (G.2.1 58)] : List Value).toArray s 0 0 (gx_A G)) (F0 m 4 ls []) := by
    intro n
    induction n with
    | zero =>
      intro K1 uv_1 uv_2 H locs ls hl hw hF hK
      rw [f_X7_bricks_L1] at hF
      cases hF
    | succ n ih1 =>
      intro K1 uv_1 uv_2 H locs ls hl hw hF hK1
      rw [f_X7_bricks_L1] at hF
      refine lv_iload_n (pc := 4) hx hb dX7_bricks_4 rfl (lv_at hl 0 rfl) ?_
      refine lv_bipush (pc := 5) (v := 42) hx hb dX7_bricks_5 (by decide) ?_
      refine gx_icmp_ge (pc := 7) (tgt := 32) hx hb hF dX7_bricks_7 (by decide) (fun hF => ?_) (fun hF => ?_)
      · exact hK1 _ _ _ _ _ (lv_sub hl [0, 1, 2] rfl) hw hF
      refine lv_iload_n (pc := 10) hx hb dX7_bricks_10 rfl (lv_at hl 1 rfl) ?_
      refine lv_aload_n (pc := 11) hx hb dX7_bricks_11 rfl (lv_at hl 2 rfl) ?_
      refine lv_iload_n (pc := 12) hx hb dX7_bricks_12 rfl (lv_at hl 0 rfl) ?_
      obtain ⟨uq_3, huq_3, hF⟩ := Option.bind_eq_some_iff.mp hF
      refine cl_X7_isFree (pc := 13) hx hb hml hown hV hw huq_3 (gw_1118 hV) hl.1 (Nat.le_of_ble_eq_true rfl) (Nat.le_of_ble_eq_true rfl) (Nat.le_of_ble_eq_true rfl) dX7_bricks_13 (fun H locs hw => ?_)
      refine gx_if_eq (pc := 16) (tgt := 23) hx hb hF dX7_bricks_16 (by decide) (fun hF => ?_) (fun hF => ?_)
      · refine lv_iconst (pc := 23) (v := 1) hx hb dX7_bricks_23 (by decide) ?_
        refine lv_iadd (pc := 24) hx hb dX7_bricks_24 ?_
        refine lv_istore_n (pc := 25) (lv' := [(1, .int (uv_1 + 1)), (2, .int uv_2), (0, .ref (G.2.1 58))]) hx hb dX7_bricks_25 rfl hl (by decide) rfl (fun ls hl => ?_)
        refine lv_iinc (pc := 26) (v := (uv_2 + 1)) (lv' := [(2, .int (uv_2 + 1)), (1, .int (uv_1 + 1)), (0, .ref (G.2.1 58))]) hx hb dX7_bricks_26 hl (k := 1) rfl rfl (by decide) rfl (fun ls hl => ?_)
        refine lv_goto (pc := 29) (tgt := 4) hx hb dX7_bricks_29 (by decide) ?_
        exact ih1 _ _ _ _ _ _ (lv_sub hl [0, 1, 2] rfl) hw hF hK1
      refine lv_iconst (pc := 19) (v := 0) hx hb dX7_bricks_19 (by decide) ?_
      refine lv_goto (pc := 20) (tgt := 24) hx hb dX7_bricks_20 (by decide) ?_
      refine lv_iadd (pc := 24) hx hb dX7_bricks_24 ?_
      refine lv_istore_n (pc := 25) (lv' := [(1, .int (uv_1 + 0)), (2, .int uv_2), (0, .ref (G.2.1 58))]) hx hb dX7_bricks_25 rfl hl (by decide) rfl (fun ls hl => ?_)
      refine lv_iinc (pc := 26) (v := (uv_2 + 1)) (lv' := [(2, .int (uv_2 + 1)), (1, .int (uv_1 + 0)), (0, .ref (G.2.1 58))]) hx hb dX7_bricks_26 hl (k := 1) rfl rfl (by decide) rfl (fun ls hl => ?_)
      refine lv_goto (pc := 29) (tgt := 4) hx hb dX7_bricks_29 (by decide) ?_
      exact ih1 _ _ _ _ _ _ (lv_sub hl [0, 1, 2] rfl) hw hF hK1
  refine L1 1000 _ _ _ _ _ _ hl hw hF (fun uv_4 uv_5 H locs ls hl hw hF => ?_)
  refine lv_iload_n (pc := 32) hx hb dX7_bricks_32 rfl (lv_at hl 1 rfl) ?_
  cases hF
  exact gx_iret hx hb hr hlocks hw dX7_bricks_33
set_option maxRecDepth 100000 in
theorem cl_X7_bricks {l : Launch} {G : gx_G} {C : gx_S} {o : Int64} {d : UInt64} {I V : gx_F} {p : Program} {e : Env} {R : Room} {s : State} {m : MethodId} {args : Array Value} {below : List Frame} {meth : Method} {c : Code} {H : Heap} {locs : List Loc} {cells slots : Nat} {Q : State → Prop} {cc : ByteArray} {pc nL index : Nat} {ls : Array Slot} {rest : List Value} {own : String} {out : Int32} (hx : p.tables.exec = Jvm.exec) (hb : c.code = cc) (hml : c.maxLocals = nL) (hown : s.vm.findClass own = some m.cls) (hV : gx_V G s) (hw : gx_at G C (I, V) o d s.heap H locs) (hF : f_X7_bricks I V = some out) (hlink : (Cond.methodLink own index yX7_bricks).before args s = true) (hsz : ls.size = nL) (hfr : 2 ≤ R.frames) (hlo : 43 ≤ R.locals) (hrest : (rest.map fun v => v.category).sum ≤ 8) (hdg : decode cc pc = .ok (.invokevirtual index, 3))
    (kk : ∀ (H1 : Heap) (locs1 : List Loc), gx_at G C (I, V) o d s.heap H1 locs1 → W p l e R s m args below meth c H1 locs1 cells slots Q (F0 m (pc + 3) ls (.int out :: rest))) (hc : cells ≤ R.cells := by exact Nat.zero_le _) (hs : slots ≤ R.slots := by exact Nat.zero_le _) : W p l e R s m args below meth c H locs cells slots Q (F0 m pc ls (.ref (G.2.1 58) :: rest)) :=
  gx_runi hw (va_runV (C := RX7) (As := []) (rest := rest) ⟨hx, hb, hml, hown, (fun _ h => nomatch h : ∀ w ∈ ([] : List Cond), w.before args s = true)⟩ (k_X7_bricks hF) ⟨gx_callB (n := 0) rfl rfl hlink (gw_56 hV) (gw_1240 hV) (by decide +kernel) ⟨hfr, hlo⟩, gw_1239 hV, gw_38 hV⟩ (gx_recv (k := 58) (ci := 9) (T := TX7) hV hw (by decide) rfl rfl) rfl rfl hsz rfl (lv_room hrest) hdg ⟨hc, hs⟩) kk
set_option maxHeartbeats 4000000 in
set_option maxRecDepth 100000 in
theorem k_X7_standing0 {l : Launch} {G : gx_G} {C : gx_S} {o : Int64} {d : UInt64} {I V : gx_F} {out : (Int32 × gx_F × gx_F)} (hF : f_X7_standing0 I V = some out) : gx_K l yX7_standing0 cX7_standing0 5 (some .int) { frames := 2, cells := 0, slots := 0, locals := 47 } [.ref (G.2.1 58)] G C (I, V) o d (gx_Qi G out.1 C (out.2.1, out.2.2) o d) 0 0 := by
  refine gx_begin (by decide +kernel) (Nat.le_of_ble_eq_true rfl) ?_
  intro p e s m below meth c hx hb hr hml hown hlocks hV hw ls hl
  have hown : s.vm.findClass RX7 = some m.cls := hown
  have hl : lv_has ls 5 [(0, .ref (G.2.1 58))] := hl
  unfold f_X7_standing0 at hF
  refine lv_iconst (pc := 0) (v := 0) hx hb dX7_standing0_0 (by decide) ?_
  refine lv_istore_n (pc := 1) (lv' := [(1, .int 0), (0, .ref (G.2.1 58))]) hx hb dX7_standing0_1 rfl hl (by decide) rfl (fun ls hl => ?_)
  refine lv_iconst (pc := 2) (v := 0) hx hb dX7_standing0_2 (by decide) ?_
  refine lv_istore_n (pc := 3) (lv' := [(2, .int 0), (1, .int 0), (0, .ref (G.2.1 58))]) hx hb dX7_standing0_3 rfl hl (by decide) rfl (fun ls hl => ?_)
  have L1 : ∀ (n : Nat) (K1 : Int32 → gx_F → gx_F → Option (Int32 × gx_F × gx_F)) (uv_1 : Int32) (uI_2 : gx_F) (uV_3 : gx_F) (H : Heap) (locs : List Loc) (ls : Array Slot), lv_has ls 5 [(2, .int uv_1), (1, .int 0), (0, .ref (G.2.1 58))] → gx_at G C (uI_2, uV_3) o d s.heap H locs → f_X7_standing0_L1 K1 n uv_1 uI_2 uV_3 = some out → (∀ (uv_1 : Int32) (uI_2 : gx_F) (uV_3 : gx_F) (H : Heap) (locs : List Loc) (ls : Array Slot), lv_has ls 5 [(2, .int uv_1), (1, .int 0), (0, .ref (G.2.1 58))] → gx_at G C (uI_2, uV_3) o d s.heap H locs → K1 uv_1 uI_2 uV_3 = some out → W p l e ({ frames := 2, cells := 0, slots := 0, locals := 47 } : Room) s m ([.ref (G.2.1 58)] : List Value).toArray below meth c H locs 0 0 (MQ below (gx_Qi G out.1 C (out.2.1, out.2.2) o d) ([.ref (G.2.1 58)] : List Value).toArray s 0 0 (gx_A G)) (F0 m 37 ls [])) → W p l e ({ frames := 2, cells := 0, slots := 0, locals := 47 } : Room) s m ([.ref (G.2.1 58)] : List Value).toArray below meth c H locs 0 0 (MQ below (gx_Qi G out.1 C (out.2.1, out.2.2) o d) ([.ref (G.2.1 58)] : List Value).toArray s 0 0 (gx_A G)) (F0 m 4 ls []) := by
    intro n
    induction n with
    | zero =>
      intro K1 uv_1 uI_2 uV_3 H locs ls hl hw hF hK
      rw [f_X7_standing0_L1] at hF
      cases hF
    | succ n ih1 =>
      intro K1 uv_1 uI_2 uV_3 H locs ls hl hw hF hK1
      rw [f_X7_standing0_L1] at hF
      refine lv_iload_n (pc := 4) hx hb dX7_standing0_4 rfl (lv_at hl 0 rfl) ?_
      refine lv_bipush (pc := 5) (v := 42) hx hb dX7_standing0_5 (by decide) ?_
      refine gx_icmp_ge (pc := 7) (tgt := 37) hx hb hF dX7_standing0_7 (by decide) (fun hF => ?_) (fun hF => ?_)
      · exact hK1 _ _ _ _ _ _ (lv_sub hl [0, 1, 2] rfl) hw hF
      refine lv_aload_n (pc := 10) hx hb dX7_standing0_10 rfl (lv_at hl 2 rfl) ?_
      refine gg_X7_18 (pc := 11) hx hb hown hV hw (gw_1036 hV) dX7_standing0_11 ?_
      refine lv_iload_n (pc := 14) hx hb dX7_standing0_14 rfl (lv_at hl 0 rfl) ?_
      refine lv_iload_n (pc := 15) hx hb dX7_standing0_15 rfl (lv_at hl 0 rfl) ?_
      refine lv_aload_n (pc := 16) hx hb dX7_standing0_16 rfl (lv_at hl 2 rfl) ?_
      refine gg_X7_0 (pc := 17) hx hb hown hV hw (gw_1018 hV) dX7_standing0_17 ?_
      refine lv_iconst (pc := 20) (v := 1) hx hb dX7_standing0_20 (by decide) ?_
      refine ga_59_ld (pc := 21) hx hb hV hw hF dX7_standing0_21 (fun _ hF => ?_)
      refine gx_icmp_ne (pc := 22) (tgt := 29) hx hb hF dX7_standing0_22 (by decide) (fun hF => ?_) (fun hF => ?_)
      · refine lv_iconst (pc := 29) (v := 0) hx hb dX7_standing0_29 (by decide) ?_
        refine ga_66_st (pc := 30) hx hb hV hw hF dX7_standing0_30 (fun H locs hw hF => ?_)
        refine lv_iinc (pc := 31) (v := (uv_1 + 1)) (lv' := [(2, .int (uv_1 + 1)), (1, .int 0), (0, .ref (G.2.1 58))]) hx hb dX7_standing0_31 hl (k := 0) rfl rfl (by decide) rfl (fun ls hl => ?_)
        refine lv_goto (pc := 34) (tgt := 4) hx hb dX7_standing0_34 (by decide) ?_
        exact ih1 _ _ _ _ _ _ _ (lv_sub hl [0, 1, 2] rfl) hw hF hK1
      refine lv_iconst (pc := 25) (v := 1) hx hb dX7_standing0_25 (by decide) ?_
      refine lv_goto (pc := 26) (tgt := 30) hx hb dX7_standing0_26 (by decide) ?_
      refine ga_66_st (pc := 30) hx hb hV hw hF dX7_standing0_30 (fun H locs hw hF => ?_)
      refine lv_iinc (pc := 31) (v := (uv_1 + 1)) (lv' := [(2, .int (uv_1 + 1)), (1, .int 0), (0, .ref (G.2.1 58))]) hx hb dX7_standing0_31 hl (k := 0) rfl rfl (by decide) rfl (fun ls hl => ?_)
      refine lv_goto (pc := 34) (tgt := 4) hx hb dX7_standing0_34 (by decide) ?_
      exact ih1 _ _ _ _ _ _ _ (lv_sub hl [0, 1, 2] rfl) hw hF hK1
  refine L1 1000 _ _ _ _ _ _ _ hl hw hF (fun uv_4 uI_5 uV_6 H locs ls hl hw hF => ?_)
  refine lv_aload_n (pc := 37) hx hb dX7_standing0_37 rfl (lv_at hl 2 rfl) ?_
  refine gg_X7_0 (pc := 38) hx hb hown hV hw (gw_1018 hV) dX7_standing0_38 ?_
  refine lv_iconst (pc := 41) (v := 1) hx hb dX7_standing0_41 (by decide) ?_
  refine ga_59_ld (pc := 42) hx hb hV hw hF dX7_standing0_42 (fun _ hF => ?_)
  refine gx_if_lt (pc := 43) (tgt := 50) hx hb hF dX7_standing0_43 (by decide) (fun hF => ?_) (fun hF => ?_)
  · refine lv_iconst (pc := 50) (v := 0) hx hb dX7_standing0_50 (by decide) ?_
    refine lv_istore_n (pc := 51) (lv' := [(2, .int 0), (1, .int 0), (0, .ref (G.2.1 58))]) hx hb dX7_standing0_51 rfl hl (by decide) rfl (fun ls hl => ?_)
    have L2 : ∀ (n : Nat) (K2 : Int32 → gx_F → gx_F → Option (Int32 × gx_F × gx_F)) (uv_7 : Int32) (uI_8 : gx_F) (uV_9 : gx_F) (H : Heap) (locs : List Loc) (ls : Array Slot), lv_has ls 5 [(2, .int uv_7), (1, .int 0), (0, .ref (G.2.1 58))] → gx_at G C (uI_8, uV_9) o d s.heap H locs → f_X7_standing0_L2 K2 n uv_7 uI_8 uV_9 = some out → (∀ (uv_7 : Int32) (uI_8 : gx_F) (uV_9 : gx_F) (H : Heap) (locs : List Loc) (ls : Array Slot), lv_has ls 5 [(2, .int uv_7), (1, .int 0), (0, .ref (G.2.1 58))] → gx_at G C (uI_8, uV_9) o d s.heap H locs → K2 uv_7 uI_8 uV_9 = some out → W p l e ({ frames := 2, cells := 0, slots := 0, locals := 47 } : Room) s m ([.ref (G.2.1 58)] : List Value).toArray below meth c H locs 0 0 (MQ below (gx_Qi G out.1 C (out.2.1, out.2.2) o d) ([.ref (G.2.1 58)] : List Value).toArray s 0 0 (gx_A G)) (F0 m 159 ls [])) → W p l e ({ frames := 2, cells := 0, slots := 0, locals := 47 } : Room) s m ([.ref (G.2.1 58)] : List Value).toArray below meth c H locs 0 0 (MQ below (gx_Qi G out.1 C (out.2.1, out.2.2) o d) ([.ref (G.2.1 58)] : List Value).toArray s 0 0 (gx_A G)) (F0 m 52 ls []) := by
      intro n
      induction n with
      | zero =>
        intro K2 uv_7 uI_8 uV_9 H locs ls hl hw hF hK
        rw [f_X7_standing0_L2] at hF
        cases hF
      | succ n ih2 =>
        intro K2 uv_7 uI_8 uV_9 H locs ls hl hw hF hK2
        rw [f_X7_standing0_L2] at hF
        refine lv_iload_n (pc := 52) hx hb dX7_standing0_52 rfl (lv_at hl 0 rfl) ?_
        refine gx_if_eq (pc := 53) (tgt := 159) hx hb hF dX7_standing0_53 (by decide) (fun hF => ?_) (fun hF => ?_)
        · exact hK2 _ _ _ _ _ _ (lv_sub hl [0, 1, 2] rfl) hw hF
        refine lv_iconst (pc := 56) (v := 0) hx hb dX7_standing0_56 (by decide) ?_
        refine lv_istore_n (pc := 57) (lv' := [(2, .int 0), (1, .int 0), (0, .ref (G.2.1 58))]) hx hb dX7_standing0_57 rfl hl (by decide) rfl (fun ls hl => ?_)
        refine lv_iconst (pc := 58) (v := 0) hx hb dX7_standing0_58 (by decide) ?_
        refine lv_istore_n (pc := 59) (lv' := [(3, .int 0), (2, .int 0), (1, .int 0), (0, .ref (G.2.1 58))]) hx hb dX7_standing0_59 rfl hl (by decide) rfl (fun ls hl => ?_)
        have L3 : ∀ (n : Nat) (K3 : Int32 → Int32 → gx_F → gx_F → Option (Int32 × gx_F × gx_F)) (uv_10 : Int32) (uv_11 : Int32) (uI_12 : gx_F) (uV_13 : gx_F) (H : Heap) (locs : List Loc) (ls : Array Slot), lv_has ls 5 [(3, .int uv_11), (2, .int uv_10), (1, .int 0), (0, .ref (G.2.1 58))] → gx_at G C (uI_12, uV_13) o d s.heap H locs → f_X7_standing0_L3 K3 n uv_10 uv_11 uI_12 uV_13 = some out → (∀ (uv_10 : Int32) (uv_11 : Int32) (uI_12 : gx_F) (uV_13 : gx_F) (H : Heap) (locs : List Loc) (ls : Array Slot), lv_has ls 5 [(3, .int uv_11), (2, .int uv_10), (1, .int 0), (0, .ref (G.2.1 58))] → gx_at G C (uI_12, uV_13) o d s.heap H locs → K3 uv_10 uv_11 uI_12 uV_13 = some out → W p l e ({ frames := 2, cells := 0, slots := 0, locals := 47 } : Room) s m ([.ref (G.2.1 58)] : List Value).toArray below meth c H locs 0 0 (MQ below (gx_Qi G out.1 C (out.2.1, out.2.2) o d) ([.ref (G.2.1 58)] : List Value).toArray s 0 0 (gx_A G)) (F0 m 156 ls [])) → W p l e ({ frames := 2, cells := 0, slots := 0, locals := 47 } : Room) s m ([.ref (G.2.1 58)] : List Value).toArray below meth c H locs 0 0 (MQ below (gx_Qi G out.1 C (out.2.1, out.2.2) o d) ([.ref (G.2.1 58)] : List Value).toArray s 0 0 (gx_A G)) (F0 m 60 ls []) := by
          intro n
          induction n with
          | zero =>
            intro K3 uv_10 uv_11 uI_12 uV_13 H locs ls hl hw hF hK
            rw [f_X7_standing0_L3] at hF
            cases hF
          | succ n ih3 =>
            intro K3 uv_10 uv_11 uI_12 uV_13 H locs ls hl hw hF hK3
            rw [f_X7_standing0_L3] at hF
            refine lv_iload_n (pc := 60) hx hb dX7_standing0_60 rfl (lv_at hl 0 rfl) ?_
            refine lv_bipush (pc := 61) (v := 42) hx hb dX7_standing0_61 (by decide) ?_
            refine gx_icmp_ge (pc := 63) (tgt := 156) hx hb hF dX7_standing0_63 (by decide) (fun hF => ?_) (fun hF => ?_)
            · exact hK3 _ _ _ _ _ _ _ (lv_sub hl [0, 1, 2, 3] rfl) hw hF
            refine lv_aload_n (pc := 66) hx hb dX7_standing0_66 rfl (lv_at hl 3 rfl) ?_
            refine gg_X7_18 (pc := 67) hx hb hown hV hw (gw_1036 hV) dX7_standing0_67 ?_
            refine lv_iload_n (pc := 70) hx hb dX7_standing0_70 rfl (lv_at hl 0 rfl) ?_
            refine ga_66_ld (pc := 71) hx hb hV hw hF dX7_standing0_71 (fun _ hF => ?_)
            refine gx_if_ne (pc := 72) (tgt := 150) hx hb hF dX7_standing0_72 (by decide) (fun hF => ?_) (fun hF => ?_)
            · refine lv_iinc (pc := 150) (v := (uv_11 + 1)) (lv' := [(3, .int (uv_11 + 1)), (2, .int uv_10), (1, .int 0), (0, .ref (G.2.1 58))]) hx hb dX7_standing0_150 hl (k := 0) rfl rfl (by decide) rfl (fun ls hl => ?_)
              refine lv_goto (pc := 153) (tgt := 60) hx hb dX7_standing0_153 (by decide) ?_
              exact ih3 _ _ _ _ _ _ _ _ (lv_sub hl [0, 1, 2, 3] rfl) hw hF hK3
            refine lv_aload_n (pc := 75) hx hb dX7_standing0_75 rfl (lv_at hl 3 rfl) ?_
            refine lv_iload_n (pc := 76) hx hb dX7_standing0_76 rfl (lv_at hl 0 rfl) ?_
            obtain ⟨uq_14, huq_14, hF⟩ := Option.bind_eq_some_iff.mp hF
            refine cl_X7_isFree (pc := 77) hx hb hml hown hV hw huq_14 (gw_1118 hV) hl.1 (Nat.le_of_ble_eq_true rfl) (Nat.le_of_ble_eq_true rfl) (Nat.le_of_ble_eq_true rfl) dX7_standing0_77 (fun H locs hw => ?_)
            refine gx_if_eq (pc := 80) (tgt := 86) hx hb hF dX7_standing0_80 (by decide) (fun hF => ?_) (fun hF => ?_)
            · refine lv_iconst (pc := 86) (v := 0) hx hb dX7_standing0_86 (by decide) ?_
              refine lv_istore (pc := 87) (lv' := [(4, .int 0), (3, .int uv_11), (2, .int uv_10), (1, .int 0), (0, .ref (G.2.1 58))]) hx hb dX7_standing0_87 hl (by decide) rfl (fun ls hl => ?_)
              have L4 : ∀ (n : Nat) (K4 : Int32 → gx_F → gx_F → Option (Int32 × gx_F × gx_F)) (uv_15 : Int32) (uI_16 : gx_F) (uV_17 : gx_F) (H : Heap) (locs : List Loc) (ls : Array Slot), lv_has ls 5 [(4, .int uv_15), (3, .int uv_11), (2, .int uv_10), (1, .int 0), (0, .ref (G.2.1 58))] → gx_at G C (uI_16, uV_17) o d s.heap H locs → f_X7_standing0_L4 uv_11 K4 n uv_15 uI_16 uV_17 = some out → (∀ (uv_15 : Int32) (uI_16 : gx_F) (uV_17 : gx_F) (H : Heap) (locs : List Loc) (ls : Array Slot), lv_has ls 5 [(4, .int uv_15), (3, .int uv_11), (2, .int uv_10), (1, .int 0), (0, .ref (G.2.1 58))] → gx_at G C (uI_16, uV_17) o d s.heap H locs → K4 uv_15 uI_16 uV_17 = some out → W p l e ({ frames := 2, cells := 0, slots := 0, locals := 47 } : Room) s m ([.ref (G.2.1 58)] : List Value).toArray below meth c H locs 0 0 (MQ below (gx_Qi G out.1 C (out.2.1, out.2.2) o d) ([.ref (G.2.1 58)] : List Value).toArray s 0 0 (gx_A G)) (F0 m 141 ls [])) → W p l e ({ frames := 2, cells := 0, slots := 0, locals := 47 } : Room) s m ([.ref (G.2.1 58)] : List Value).toArray below meth c H locs 0 0 (MQ below (gx_Qi G out.1 C (out.2.1, out.2.2) o d) ([.ref (G.2.1 58)] : List Value).toArray s 0 0 (gx_A G)) (F0 m 89 ls []) := by
                intro n
                induction n with
                | zero =>
                  intro K4 uv_15 uI_16 uV_17 H locs ls hl hw hF hK
                  rw [f_X7_standing0_L4] at hF
                  cases hF
                | succ n ih4 =>
                  intro K4 uv_15 uI_16 uV_17 H locs ls hl hw hF hK4
                  rw [f_X7_standing0_L4] at hF
                  refine lv_iload (pc := 89) hx hb dX7_standing0_89 (lv_at hl 0 rfl) ?_
                  refine lv_iconst (pc := 91) (v := 4) hx hb dX7_standing0_91 (by decide) ?_
                  refine gx_icmp_ge (pc := 92) (tgt := 141) hx hb hF dX7_standing0_92 (by decide) (fun hF => ?_) (fun hF => ?_)
                  · exact hK4 _ _ _ _ _ _ (lv_sub hl [0, 1, 2, 3, 4] rfl) hw hF
                  refine lv_aload_n (pc := 95) hx hb dX7_standing0_95 rfl (lv_at hl 4 rfl) ?_
                  refine lv_iload_n (pc := 96) hx hb dX7_standing0_96 rfl (lv_at hl 1 rfl) ?_
                  refine lv_aload_n (pc := 97) hx hb dX7_standing0_97 rfl (lv_at hl 4 rfl) ?_
                  refine gg_X7_0 (pc := 98) hx hb hown hV hw (gw_1018 hV) dX7_standing0_98 ?_
                  refine lv_bipush (pc := 101) (v := 45) hx hb dX7_standing0_101 (by decide) ?_
                  refine lv_iload_n (pc := 103) hx hb dX7_standing0_103 rfl (lv_at hl 1 rfl) ?_
                  refine lv_iadd (pc := 104) hx hb dX7_standing0_104 ?_
                  refine ga_59_ld (pc := 105) hx hb hV hw hF dX7_standing0_105 (fun _ hF => ?_)
                  refine lv_iload (pc := 106) hx hb dX7_standing0_106 (lv_at hl 0 rfl) ?_
                  obtain ⟨uq_18, huq_18, hF⟩ := Option.bind_eq_some_iff.mp hF
                  refine cl_X7_heldAt (pc := 108) hx hb hml hown hV hw huq_18 (gw_1126 hV) hl.1 (Nat.le_of_ble_eq_true rfl) (Nat.le_of_ble_eq_true rfl) (Nat.le_of_ble_eq_true rfl) dX7_standing0_108 (fun H locs hw => ?_)
                  refine gx_if_le (pc := 111) (tgt := 135) hx hb hF dX7_standing0_111 (by decide) (fun hF => ?_) (fun hF => ?_)
                  · refine lv_iinc (pc := 135) (v := (uv_15 + 1)) (lv' := [(4, .int (uv_15 + 1)), (3, .int uv_11), (2, .int uv_10), (1, .int 0), (0, .ref (G.2.1 58))]) hx hb dX7_standing0_135 hl (k := 0) rfl rfl (by decide) rfl (fun ls hl => ?_)
                    refine lv_goto (pc := 138) (tgt := 89) hx hb dX7_standing0_138 (by decide) ?_
                    exact ih4 _ _ _ _ _ _ _ (lv_sub hl [0, 1, 2, 3, 4] rfl) hw hF hK4
                  refine lv_aload_n (pc := 114) hx hb dX7_standing0_114 rfl (lv_at hl 4 rfl) ?_
                  refine gg_X7_18 (pc := 115) hx hb hown hV hw (gw_1036 hV) dX7_standing0_115 ?_
                  refine lv_iload_n (pc := 118) hx hb dX7_standing0_118 rfl (lv_at hl 1 rfl) ?_
                  refine lv_iload (pc := 119) hx hb dX7_standing0_119 (lv_at hl 0 rfl) ?_
                  obtain ⟨uq_19, huq_19, hF⟩ := Option.bind_eq_some_iff.mp hF
                  refine cl_X7_beside (pc := 121) hx hb hml hown hV hw huq_19 (gw_1130 hV) hl.1 (Nat.le_of_ble_eq_true rfl) (Nat.le_of_ble_eq_true rfl) (Nat.le_of_ble_eq_true rfl) dX7_standing0_121 (fun H locs hw => ?_)
                  refine ga_66_ld (pc := 124) hx hb hV hw hF dX7_standing0_124 (fun _ hF => ?_)
                  refine gx_if_eq (pc := 125) (tgt := 135) hx hb hF dX7_standing0_125 (by decide) (fun hF => ?_) (fun hF => ?_)
                  · refine lv_iinc (pc := 135) (v := (uv_15 + 1)) (lv' := [(4, .int (uv_15 + 1)), (3, .int uv_11), (2, .int uv_10), (1, .int 0), (0, .ref (G.2.1 58))]) hx hb dX7_standing0_135 hl (k := 0) rfl rfl (by decide) rfl (fun ls hl => ?_)
                    refine lv_goto (pc := 138) (tgt := 89) hx hb dX7_standing0_138 (by decide) ?_
                    exact ih4 _ _ _ _ _ _ _ (lv_sub hl [0, 1, 2, 3, 4] rfl) hw hF hK4
                  refine lv_aload_n (pc := 128) hx hb dX7_standing0_128 rfl (lv_at hl 4 rfl) ?_
                  refine gg_X7_18 (pc := 129) hx hb hown hV hw (gw_1036 hV) dX7_standing0_129 ?_
                  refine lv_iload_n (pc := 132) hx hb dX7_standing0_132 rfl (lv_at hl 1 rfl) ?_
                  refine lv_iconst (pc := 133) (v := 1) hx hb dX7_standing0_133 (by decide) ?_
                  refine ga_66_st (pc := 134) hx hb hV hw hF dX7_standing0_134 (fun H locs hw hF => ?_)
                  refine lv_iinc (pc := 135) (v := (uv_15 + 1)) (lv' := [(4, .int (uv_15 + 1)), (3, .int uv_11), (2, .int uv_10), (1, .int 0), (0, .ref (G.2.1 58))]) hx hb dX7_standing0_135 hl (k := 0) rfl rfl (by decide) rfl (fun ls hl => ?_)
                  refine lv_goto (pc := 138) (tgt := 89) hx hb dX7_standing0_138 (by decide) ?_
                  exact ih4 _ _ _ _ _ _ _ (lv_sub hl [0, 1, 2, 3, 4] rfl) hw hF hK4
              refine L4 1000 _ _ _ _ _ _ _ hl hw hF (fun uv_20 uI_21 uV_22 H locs ls hl hw hF => ?_)
              refine lv_iload_n (pc := 141) hx hb dX7_standing0_141 rfl (lv_at hl 2 rfl) ?_
              refine lv_aload_n (pc := 142) hx hb dX7_standing0_142 rfl (lv_at hl 4 rfl) ?_
              refine gg_X7_18 (pc := 143) hx hb hown hV hw (gw_1036 hV) dX7_standing0_143 ?_
              refine lv_iload_n (pc := 146) hx hb dX7_standing0_146 rfl (lv_at hl 1 rfl) ?_
              refine ga_66_ld (pc := 147) hx hb hV hw hF dX7_standing0_147 (fun _ hF => ?_)
              refine lv_ior (pc := 148) hx hb dX7_standing0_148 ?_
              refine lv_istore_n (pc := 149) (lv' := [(2, .int (uv_10 ||| (gx_boo (uV_22 66 uv_11.toNatClampNeg)))), (4, .int uv_20), (3, .int uv_11), (1, .int 0), (0, .ref (G.2.1 58))]) hx hb dX7_standing0_149 rfl hl (by decide) rfl (fun ls hl => ?_)
              refine lv_iinc (pc := 150) (v := (uv_11 + 1)) (lv' := [(3, .int (uv_11 + 1)), (2, .int (uv_10 ||| (gx_boo (uV_22 66 uv_11.toNatClampNeg)))), (4, .int uv_20), (1, .int 0), (0, .ref (G.2.1 58))]) hx hb dX7_standing0_150 hl (k := 2) rfl rfl (by decide) rfl (fun ls hl => ?_)
              refine lv_goto (pc := 153) (tgt := 60) hx hb dX7_standing0_153 (by decide) ?_
              exact ih3 _ _ _ _ _ _ _ _ (lv_sub hl [0, 1, 3, 4] rfl) hw hF hK3
            refine lv_goto (pc := 83) (tgt := 150) hx hb dX7_standing0_83 (by decide) ?_
            refine lv_iinc (pc := 150) (v := (uv_11 + 1)) (lv' := [(3, .int (uv_11 + 1)), (2, .int uv_10), (1, .int 0), (0, .ref (G.2.1 58))]) hx hb dX7_standing0_150 hl (k := 0) rfl rfl (by decide) rfl (fun ls hl => ?_)
            refine lv_goto (pc := 153) (tgt := 60) hx hb dX7_standing0_153 (by decide) ?_
            exact ih3 _ _ _ _ _ _ _ _ (lv_sub hl [0, 1, 2, 3] rfl) hw hF hK3
        refine L3 1000 _ _ _ _ _ _ _ _ hl hw hF (fun uv_23 uv_24 uI_25 uV_26 H locs ls hl hw hF => ?_)
        refine lv_goto (pc := 156) (tgt := 52) hx hb dX7_standing0_156 (by decide) ?_
        exact ih2 _ _ _ _ _ _ _ (lv_sub hl [1, 2, 3] rfl) hw hF hK2
    refine L2 1000 _ _ _ _ _ _ _ hl hw hF (fun uv_27 uI_28 uV_29 H locs ls hl hw hF => ?_)
    refine lv_iconst (pc := 159) (v := 0) hx hb dX7_standing0_159 (by decide) ?_
    refine lv_istore_n (pc := 160) (lv' := [(3, .int 0), (2, .int uv_27), (1, .int 0), (0, .ref (G.2.1 58))]) hx hb dX7_standing0_160 rfl hl (by decide) rfl (fun ls hl => ?_)
    have L5 : ∀ (n : Nat) (K5 : Int32 → Int32 → Option (Int32 × gx_F × gx_F)) (uv_30 : Int32) (uv_31 : Int32) (H : Heap) (locs : List Loc) (ls : Array Slot), lv_has ls 5 [(3, .int uv_31), (2, .int uv_27), (1, .int uv_30), (0, .ref (G.2.1 58))] → gx_at G C (uI_28, uV_29) o d s.heap H locs → f_X7_standing0_L5 uV_29 K5 n uv_30 uv_31 = some out → (∀ (uv_30 : Int32) (uv_31 : Int32) (H : Heap) (locs : List Loc) (ls : Array Slot), lv_has ls 5 [(3, .int uv_31), (2, .int uv_27), (1, .int uv_30), (0, .ref (G.2.1 58))] → gx_at G C (uI_28, uV_29) o d s.heap H locs → K5 uv_30 uv_31 = some out → W p l e ({ frames := 2, cells := 0, slots := 0, locals := 47 } : Room) s m ([.ref (G.2.1 58)] : List Value).toArray below meth c H locs 0 0 (MQ below (gx_Qi G out.1 C (out.2.1, out.2.2) o d) ([.ref (G.2.1 58)] : List Value).toArray s 0 0 (gx_A G)) (F0 m 190 ls [])) → W p l e ({ frames := 2, cells := 0, slots := 0, locals := 47 } : Room) s m ([.ref (G.2.1 58)] : List Value).toArray below meth c H locs 0 0 (MQ below (gx_Qi G out.1 C (out.2.1, out.2.2) o d) ([.ref (G.2.1 58)] : List Value).toArray s 0 0 (gx_A G)) (F0 m 161 ls []) := by
      intro n
      induction n with
      | zero =>
        intro K5 uv_30 uv_31 H locs ls hl hw hF hK
        rw [f_X7_standing0_L5] at hF
        cases hF
      | succ n ih5 =>
        intro K5 uv_30 uv_31 H locs ls hl hw hF hK5
        rw [f_X7_standing0_L5] at hF
        refine lv_iload_n (pc := 161) hx hb dX7_standing0_161 rfl (lv_at hl 0 rfl) ?_
        refine lv_bipush (pc := 162) (v := 42) hx hb dX7_standing0_162 (by decide) ?_
        refine gx_icmp_ge (pc := 164) (tgt := 190) hx hb hF dX7_standing0_164 (by decide) (fun hF => ?_) (fun hF => ?_)
        · exact hK5 _ _ _ _ _ (lv_sub hl [0, 1, 2, 3] rfl) hw hF
        refine lv_iload_n (pc := 167) hx hb dX7_standing0_167 rfl (lv_at hl 2 rfl) ?_
        refine lv_aload_n (pc := 168) hx hb dX7_standing0_168 rfl (lv_at hl 3 rfl) ?_
        refine gg_X7_18 (pc := 169) hx hb hown hV hw (gw_1036 hV) dX7_standing0_169 ?_
        refine lv_iload_n (pc := 172) hx hb dX7_standing0_172 rfl (lv_at hl 0 rfl) ?_
        refine ga_66_ld (pc := 173) hx hb hV hw hF dX7_standing0_173 (fun _ hF => ?_)
        refine gx_if_eq (pc := 174) (tgt := 181) hx hb hF dX7_standing0_174 (by decide) (fun hF => ?_) (fun hF => ?_)
        · refine lv_iconst (pc := 181) (v := 0) hx hb dX7_standing0_181 (by decide) ?_
          refine lv_iadd (pc := 182) hx hb dX7_standing0_182 ?_
          refine lv_istore_n (pc := 183) (lv' := [(1, .int (uv_30 + 0)), (3, .int uv_31), (2, .int uv_27), (0, .ref (G.2.1 58))]) hx hb dX7_standing0_183 rfl hl (by decide) rfl (fun ls hl => ?_)
          refine lv_iinc (pc := 184) (v := (uv_31 + 1)) (lv' := [(3, .int (uv_31 + 1)), (1, .int (uv_30 + 0)), (2, .int uv_27), (0, .ref (G.2.1 58))]) hx hb dX7_standing0_184 hl (k := 1) rfl rfl (by decide) rfl (fun ls hl => ?_)
          refine lv_goto (pc := 187) (tgt := 161) hx hb dX7_standing0_187 (by decide) ?_
          exact ih5 _ _ _ _ _ _ (lv_sub hl [0, 2, 1, 3] rfl) hw hF hK5
        refine lv_iconst (pc := 177) (v := 1) hx hb dX7_standing0_177 (by decide) ?_
        refine lv_goto (pc := 178) (tgt := 182) hx hb dX7_standing0_178 (by decide) ?_
        refine lv_iadd (pc := 182) hx hb dX7_standing0_182 ?_
        refine lv_istore_n (pc := 183) (lv' := [(1, .int (uv_30 + 1)), (3, .int uv_31), (2, .int uv_27), (0, .ref (G.2.1 58))]) hx hb dX7_standing0_183 rfl hl (by decide) rfl (fun ls hl => ?_)
        refine lv_iinc (pc := 184) (v := (uv_31 + 1)) (lv' := [(3, .int (uv_31 + 1)), (1, .int (uv_30 + 1)), (2, .int uv_27), (0, .ref (G.2.1 58))]) hx hb dX7_standing0_184 hl (k := 1) rfl rfl (by decide) rfl (fun ls hl => ?_)
        refine lv_goto (pc := 187) (tgt := 161) hx hb dX7_standing0_187 (by decide) ?_
        exact ih5 _ _ _ _ _ _ (lv_sub hl [0, 2, 1, 3] rfl) hw hF hK5
    refine L5 1000 _ _ _ _ _ _ hl hw hF (fun uv_32 uv_33 H locs ls hl hw hF => ?_)
    refine lv_iload_n (pc := 190) hx hb dX7_standing0_190 rfl (lv_at hl 2 rfl) ?_
    cases hF
    exact gx_iret hx hb hr hlocks hw dX7_standing0_191
  refine lv_iconst (pc := 46) (v := 1) hx hb dX7_standing0_46 (by decide) ?_
  refine lv_goto (pc := 47) (tgt := 51) hx hb dX7_standing0_47 (by decide) ?_
  refine lv_istore_n (pc := 51) (lv' := [(2, .int 1), (1, .int 0), (0, .ref (G.2.1 58))]) hx hb dX7_standing0_51 rfl hl (by decide) rfl (fun ls hl => ?_)
  have L6 : ∀ (n : Nat) (K6 : Int32 → gx_F → gx_F → Option (Int32 × gx_F × gx_F)) (uv_34 : Int32) (uI_35 : gx_F) (uV_36 : gx_F) (H : Heap) (locs : List Loc) (ls : Array Slot), lv_has ls 5 [(2, .int uv_34), (1, .int 0), (0, .ref (G.2.1 58))] → gx_at G C (uI_35, uV_36) o d s.heap H locs → f_X7_standing0_L6 K6 n uv_34 uI_35 uV_36 = some out → (∀ (uv_34 : Int32) (uI_35 : gx_F) (uV_36 : gx_F) (H : Heap) (locs : List Loc) (ls : Array Slot), lv_has ls 5 [(2, .int uv_34), (1, .int 0), (0, .ref (G.2.1 58))] → gx_at G C (uI_35, uV_36) o d s.heap H locs → K6 uv_34 uI_35 uV_36 = some out → W p l e ({ frames := 2, cells := 0, slots := 0, locals := 47 } : Room) s m ([.ref (G.2.1 58)] : List Value).toArray below meth c H locs 0 0 (MQ below (gx_Qi G out.1 C (out.2.1, out.2.2) o d) ([.ref (G.2.1 58)] : List Value).toArray s 0 0 (gx_A G)) (F0 m 159 ls [])) → W p l e ({ frames := 2, cells := 0, slots := 0, locals := 47 } : Room) s m ([.ref (G.2.1 58)] : List Value).toArray below meth c H locs 0 0 (MQ below (gx_Qi G out.1 C (out.2.1, out.2.2) o d) ([.ref (G.2.1 58)] : List Value).toArray s 0 0 (gx_A G)) (F0 m 52 ls []) := by
    intro n
    induction n with
    | zero =>
      intro K6 uv_34 uI_35 uV_36 H locs ls hl hw hF hK
      rw [f_X7_standing0_L6] at hF
      cases hF
    | succ n ih6 =>
      intro K6 uv_34 uI_35 uV_36 H locs ls hl hw hF hK6
      rw [f_X7_standing0_L6] at hF
      refine lv_iload_n (pc := 52) hx hb dX7_standing0_52 rfl (lv_at hl 0 rfl) ?_
      refine gx_if_eq (pc := 53) (tgt := 159) hx hb hF dX7_standing0_53 (by decide) (fun hF => ?_) (fun hF => ?_)
      · exact hK6 _ _ _ _ _ _ (lv_sub hl [0, 1, 2] rfl) hw hF
      refine lv_iconst (pc := 56) (v := 0) hx hb dX7_standing0_56 (by decide) ?_
      refine lv_istore_n (pc := 57) (lv' := [(2, .int 0), (1, .int 0), (0, .ref (G.2.1 58))]) hx hb dX7_standing0_57 rfl hl (by decide) rfl (fun ls hl => ?_)
      refine lv_iconst (pc := 58) (v := 0) hx hb dX7_standing0_58 (by decide) ?_
      refine lv_istore_n (pc := 59) (lv' := [(3, .int 0), (2, .int 0), (1, .int 0), (0, .ref (G.2.1 58))]) hx hb dX7_standing0_59 rfl hl (by decide) rfl (fun ls hl => ?_)
      have L7 : ∀ (n : Nat) (K7 : Int32 → Int32 → gx_F → gx_F → Option (Int32 × gx_F × gx_F)) (uv_37 : Int32) (uv_38 : Int32) (uI_39 : gx_F) (uV_40 : gx_F) (H : Heap) (locs : List Loc) (ls : Array Slot), lv_has ls 5 [(3, .int uv_38), (2, .int uv_37), (1, .int 0), (0, .ref (G.2.1 58))] → gx_at G C (uI_39, uV_40) o d s.heap H locs → f_X7_standing0_L7 K7 n uv_37 uv_38 uI_39 uV_40 = some out → (∀ (uv_37 : Int32) (uv_38 : Int32) (uI_39 : gx_F) (uV_40 : gx_F) (H : Heap) (locs : List Loc) (ls : Array Slot), lv_has ls 5 [(3, .int uv_38), (2, .int uv_37), (1, .int 0), (0, .ref (G.2.1 58))] → gx_at G C (uI_39, uV_40) o d s.heap H locs → K7 uv_37 uv_38 uI_39 uV_40 = some out → W p l e ({ frames := 2, cells := 0, slots := 0, locals := 47 } : Room) s m ([.ref (G.2.1 58)] : List Value).toArray below meth c H locs 0 0 (MQ below (gx_Qi G out.1 C (out.2.1, out.2.2) o d) ([.ref (G.2.1 58)] : List Value).toArray s 0 0 (gx_A G)) (F0 m 156 ls [])) → W p l e ({ frames := 2, cells := 0, slots := 0, locals := 47 } : Room) s m ([.ref (G.2.1 58)] : List Value).toArray below meth c H locs 0 0 (MQ below (gx_Qi G out.1 C (out.2.1, out.2.2) o d) ([.ref (G.2.1 58)] : List Value).toArray s 0 0 (gx_A G)) (F0 m 60 ls []) := by
        intro n
        induction n with
        | zero =>
          intro K7 uv_37 uv_38 uI_39 uV_40 H locs ls hl hw hF hK
          rw [f_X7_standing0_L7] at hF
          cases hF
        | succ n ih7 =>
          intro K7 uv_37 uv_38 uI_39 uV_40 H locs ls hl hw hF hK7
          rw [f_X7_standing0_L7] at hF
          refine lv_iload_n (pc := 60) hx hb dX7_standing0_60 rfl (lv_at hl 0 rfl) ?_
          refine lv_bipush (pc := 61) (v := 42) hx hb dX7_standing0_61 (by decide) ?_
          refine gx_icmp_ge (pc := 63) (tgt := 156) hx hb hF dX7_standing0_63 (by decide) (fun hF => ?_) (fun hF => ?_)
          · exact hK7 _ _ _ _ _ _ _ (lv_sub hl [0, 1, 2, 3] rfl) hw hF
          refine lv_aload_n (pc := 66) hx hb dX7_standing0_66 rfl (lv_at hl 3 rfl) ?_
          refine gg_X7_18 (pc := 67) hx hb hown hV hw (gw_1036 hV) dX7_standing0_67 ?_
          refine lv_iload_n (pc := 70) hx hb dX7_standing0_70 rfl (lv_at hl 0 rfl) ?_
          refine ga_66_ld (pc := 71) hx hb hV hw hF dX7_standing0_71 (fun _ hF => ?_)
          refine gx_if_ne (pc := 72) (tgt := 150) hx hb hF dX7_standing0_72 (by decide) (fun hF => ?_) (fun hF => ?_)
          · refine lv_iinc (pc := 150) (v := (uv_38 + 1)) (lv' := [(3, .int (uv_38 + 1)), (2, .int uv_37), (1, .int 0), (0, .ref (G.2.1 58))]) hx hb dX7_standing0_150 hl (k := 0) rfl rfl (by decide) rfl (fun ls hl => ?_)
            refine lv_goto (pc := 153) (tgt := 60) hx hb dX7_standing0_153 (by decide) ?_
            exact ih7 _ _ _ _ _ _ _ _ (lv_sub hl [0, 1, 2, 3] rfl) hw hF hK7
          refine lv_aload_n (pc := 75) hx hb dX7_standing0_75 rfl (lv_at hl 3 rfl) ?_
          refine lv_iload_n (pc := 76) hx hb dX7_standing0_76 rfl (lv_at hl 0 rfl) ?_
          obtain ⟨uq_41, huq_41, hF⟩ := Option.bind_eq_some_iff.mp hF
          refine cl_X7_isFree (pc := 77) hx hb hml hown hV hw huq_41 (gw_1118 hV) hl.1 (Nat.le_of_ble_eq_true rfl) (Nat.le_of_ble_eq_true rfl) (Nat.le_of_ble_eq_true rfl) dX7_standing0_77 (fun H locs hw => ?_)
          refine gx_if_eq (pc := 80) (tgt := 86) hx hb hF dX7_standing0_80 (by decide) (fun hF => ?_) (fun hF => ?_)
          · refine lv_iconst (pc := 86) (v := 0) hx hb dX7_standing0_86 (by decide) ?_
            refine lv_istore (pc := 87) (lv' := [(4, .int 0), (3, .int uv_38), (2, .int uv_37), (1, .int 0), (0, .ref (G.2.1 58))]) hx hb dX7_standing0_87 hl (by decide) rfl (fun ls hl => ?_)
            have L8 : ∀ (n : Nat) (K8 : Int32 → gx_F → gx_F → Option (Int32 × gx_F × gx_F)) (uv_42 : Int32) (uI_43 : gx_F) (uV_44 : gx_F) (H : Heap) (locs : List Loc) (ls : Array Slot), lv_has ls 5 [(4, .int uv_42), (3, .int uv_38), (2, .int uv_37), (1, .int 0), (0, .ref (G.2.1 58))] → gx_at G C (uI_43, uV_44) o d s.heap H locs → f_X7_standing0_L8 uv_38 K8 n uv_42 uI_43 uV_44 = some out → (∀ (uv_42 : Int32) (uI_43 : gx_F) (uV_44 : gx_F) (H : Heap) (locs : List Loc) (ls : Array Slot), lv_has ls 5 [(4, .int uv_42), (3, .int uv_38), (2, .int uv_37), (1, .int 0), (0, .ref (G.2.1 58))] → gx_at G C (uI_43, uV_44) o d s.heap H locs → K8 uv_42 uI_43 uV_44 = some out → W p l e ({ frames := 2, cells := 0, slots := 0, locals := 47 } : Room) s m ([.ref (G.2.1 58)] : List Value).toArray below meth c H locs 0 0 (MQ below (gx_Qi G out.1 C (out.2.1, out.2.2) o d) ([.ref (G.2.1 58)] : List Value).toArray s 0 0 (gx_A G)) (F0 m 141 ls [])) → W p l e ({ frames := 2, cells := 0, slots := 0, locals := 47 } : Room) s m ([.ref (G.2.1 58)] : List Value).toArray below meth c H locs 0 0 (MQ below (gx_Qi G out.1 C (out.2.1, out.2.2) o d) ([.ref (G.2.1 58)] : List Value).toArray s 0 0 (gx_A G)) (F0 m 89 ls []) := by
              intro n
              induction n with
              | zero =>
                intro K8 uv_42 uI_43 uV_44 H locs ls hl hw hF hK
                rw [f_X7_standing0_L8] at hF
                cases hF
              | succ n ih8 =>
                intro K8 uv_42 uI_43 uV_44 H locs ls hl hw hF hK8
                rw [f_X7_standing0_L8] at hF
                refine lv_iload (pc := 89) hx hb dX7_standing0_89 (lv_at hl 0 rfl) ?_
                refine lv_iconst (pc := 91) (v := 4) hx hb dX7_standing0_91 (by decide) ?_
                refine gx_icmp_ge (pc := 92) (tgt := 141) hx hb hF dX7_standing0_92 (by decide) (fun hF => ?_) (fun hF => ?_)
                · exact hK8 _ _ _ _ _ _ (lv_sub hl [0, 1, 2, 3, 4] rfl) hw hF
                refine lv_aload_n (pc := 95) hx hb dX7_standing0_95 rfl (lv_at hl 4 rfl) ?_
                refine lv_iload_n (pc := 96) hx hb dX7_standing0_96 rfl (lv_at hl 1 rfl) ?_
                refine lv_aload_n (pc := 97) hx hb dX7_standing0_97 rfl (lv_at hl 4 rfl) ?_
                refine gg_X7_0 (pc := 98) hx hb hown hV hw (gw_1018 hV) dX7_standing0_98 ?_
                refine lv_bipush (pc := 101) (v := 45) hx hb dX7_standing0_101 (by decide) ?_
                refine lv_iload_n (pc := 103) hx hb dX7_standing0_103 rfl (lv_at hl 1 rfl) ?_
                refine lv_iadd (pc := 104) hx hb dX7_standing0_104 ?_
                refine ga_59_ld (pc := 105) hx hb hV hw hF dX7_standing0_105 (fun _ hF => ?_)
                refine lv_iload (pc := 106) hx hb dX7_standing0_106 (lv_at hl 0 rfl) ?_
                obtain ⟨uq_45, huq_45, hF⟩ := Option.bind_eq_some_iff.mp hF
                refine cl_X7_heldAt (pc := 108) hx hb hml hown hV hw huq_45 (gw_1126 hV) hl.1 (Nat.le_of_ble_eq_true rfl) (Nat.le_of_ble_eq_true rfl) (Nat.le_of_ble_eq_true rfl) dX7_standing0_108 (fun H locs hw => ?_)
                refine gx_if_le (pc := 111) (tgt := 135) hx hb hF dX7_standing0_111 (by decide) (fun hF => ?_) (fun hF => ?_)
                · refine lv_iinc (pc := 135) (v := (uv_42 + 1)) (lv' := [(4, .int (uv_42 + 1)), (3, .int uv_38), (2, .int uv_37), (1, .int 0), (0, .ref (G.2.1 58))]) hx hb dX7_standing0_135 hl (k := 0) rfl rfl (by decide) rfl (fun ls hl => ?_)
                  refine lv_goto (pc := 138) (tgt := 89) hx hb dX7_standing0_138 (by decide) ?_
                  exact ih8 _ _ _ _ _ _ _ (lv_sub hl [0, 1, 2, 3, 4] rfl) hw hF hK8
                refine lv_aload_n (pc := 114) hx hb dX7_standing0_114 rfl (lv_at hl 4 rfl) ?_
                refine gg_X7_18 (pc := 115) hx hb hown hV hw (gw_1036 hV) dX7_standing0_115 ?_
                refine lv_iload_n (pc := 118) hx hb dX7_standing0_118 rfl (lv_at hl 1 rfl) ?_
                refine lv_iload (pc := 119) hx hb dX7_standing0_119 (lv_at hl 0 rfl) ?_
                obtain ⟨uq_46, huq_46, hF⟩ := Option.bind_eq_some_iff.mp hF
                refine cl_X7_beside (pc := 121) hx hb hml hown hV hw huq_46 (gw_1130 hV) hl.1 (Nat.le_of_ble_eq_true rfl) (Nat.le_of_ble_eq_true rfl) (Nat.le_of_ble_eq_true rfl) dX7_standing0_121 (fun H locs hw => ?_)
                refine ga_66_ld (pc := 124) hx hb hV hw hF dX7_standing0_124 (fun _ hF => ?_)
                refine gx_if_eq (pc := 125) (tgt := 135) hx hb hF dX7_standing0_125 (by decide) (fun hF => ?_) (fun hF => ?_)
                · refine lv_iinc (pc := 135) (v := (uv_42 + 1)) (lv' := [(4, .int (uv_42 + 1)), (3, .int uv_38), (2, .int uv_37), (1, .int 0), (0, .ref (G.2.1 58))]) hx hb dX7_standing0_135 hl (k := 0) rfl rfl (by decide) rfl (fun ls hl => ?_)
                  refine lv_goto (pc := 138) (tgt := 89) hx hb dX7_standing0_138 (by decide) ?_
                  exact ih8 _ _ _ _ _ _ _ (lv_sub hl [0, 1, 2, 3, 4] rfl) hw hF hK8
                refine lv_aload_n (pc := 128) hx hb dX7_standing0_128 rfl (lv_at hl 4 rfl) ?_
                refine gg_X7_18 (pc := 129) hx hb hown hV hw (gw_1036 hV) dX7_standing0_129 ?_
                refine lv_iload_n (pc := 132) hx hb dX7_standing0_132 rfl (lv_at hl 1 rfl) ?_
                refine lv_iconst (pc := 133) (v := 1) hx hb dX7_standing0_133 (by decide) ?_
                refine ga_66_st (pc := 134) hx hb hV hw hF dX7_standing0_134 (fun H locs hw hF => ?_)
                refine lv_iinc (pc := 135) (v := (uv_42 + 1)) (lv' := [(4, .int (uv_42 + 1)), (3, .int uv_38), (2, .int uv_37), (1, .int 0), (0, .ref (G.2.1 58))]) hx hb dX7_standing0_135 hl (k := 0) rfl rfl (by decide) rfl (fun ls hl => ?_)
                refine lv_goto (pc := 138) (tgt := 89) hx hb dX7_standing0_138 (by decide) ?_
                exact ih8 _ _ _ _ _ _ _ (lv_sub hl [0, 1, 2, 3, 4] rfl) hw hF hK8
            refine L8 1000 _ _ _ _ _ _ _ hl hw hF (fun uv_47 uI_48 uV_49 H locs ls hl hw hF => ?_)
            refine lv_iload_n (pc := 141) hx hb dX7_standing0_141 rfl (lv_at hl 2 rfl) ?_
            refine lv_aload_n (pc := 142) hx hb dX7_standing0_142 rfl (lv_at hl 4 rfl) ?_
            refine gg_X7_18 (pc := 143) hx hb hown hV hw (gw_1036 hV) dX7_standing0_143 ?_
            refine lv_iload_n (pc := 146) hx hb dX7_standing0_146 rfl (lv_at hl 1 rfl) ?_
            refine ga_66_ld (pc := 147) hx hb hV hw hF dX7_standing0_147 (fun _ hF => ?_)
            refine lv_ior (pc := 148) hx hb dX7_standing0_148 ?_
            refine lv_istore_n (pc := 149) (lv' := [(2, .int (uv_37 ||| (gx_boo (uV_49 66 uv_38.toNatClampNeg)))), (4, .int uv_47), (3, .int uv_38), (1, .int 0), (0, .ref (G.2.1 58))]) hx hb dX7_standing0_149 rfl hl (by decide) rfl (fun ls hl => ?_)
            refine lv_iinc (pc := 150) (v := (uv_38 + 1)) (lv' := [(3, .int (uv_38 + 1)), (2, .int (uv_37 ||| (gx_boo (uV_49 66 uv_38.toNatClampNeg)))), (4, .int uv_47), (1, .int 0), (0, .ref (G.2.1 58))]) hx hb dX7_standing0_150 hl (k := 2) rfl rfl (by decide) rfl (fun ls hl => ?_)
            refine lv_goto (pc := 153) (tgt := 60) hx hb dX7_standing0_153 (by decide) ?_
            exact ih7 _ _ _ _ _ _ _ _ (lv_sub hl [0, 1, 3, 4] rfl) hw hF hK7
          refine lv_goto (pc := 83) (tgt := 150) hx hb dX7_standing0_83 (by decide) ?_
          refine lv_iinc (pc := 150) (v := (uv_38 + 1)) (lv' := [(3, .int (uv_38 + 1)), (2, .int uv_37), (1, .int 0), (0, .ref (G.2.1 58))]) hx hb dX7_standing0_150 hl (k := 0) rfl rfl (by decide) rfl (fun ls hl => ?_)
          refine lv_goto (pc := 153) (tgt := 60) hx hb dX7_standing0_153 (by decide) ?_
          exact ih7 _ _ _ _ _ _ _ _ (lv_sub hl [0, 1, 2, 3] rfl) hw hF hK7
      refine L7 1000 _ _ _ _ _ _ _ _ hl hw hF (fun uv_50 uv_51 uI_52 uV_53 H locs ls hl hw hF => ?_)
      refine lv_goto (pc := 156) (tgt := 52) hx hb dX7_standing0_156 (by decide) ?_
      exact ih6 _ _ _ _ _ _ _ (lv_sub hl [1, 2, 3] rfl) hw hF hK6
  refine L6 1000 _ _ _ _ _ _ _ hl hw hF (fun uv_54 uI_55 uV_56 H locs ls hl hw hF => ?_)
  refine lv_iconst (pc := 159) (v := 0) hx hb dX7_standing0_159 (by decide) ?_
  refine lv_istore_n (pc := 160) (lv' := [(3, .int 0), (2, .int uv_54), (1, .int 0), (0, .ref (G.2.1 58))]) hx hb dX7_standing0_160 rfl hl (by decide) rfl (fun ls hl => ?_)
  have L9 : ∀ (n : Nat) (K9 : Int32 → Int32 → Option (Int32 × gx_F × gx_F)) (uv_57 : Int32) (uv_58 : Int32) (H : Heap) (locs : List Loc) (ls : Array Slot), lv_has ls 5 [(3, .int uv_58), (2, .int uv_54), (1, .int uv_57), (0, .ref (G.2.1 58))] → gx_at G C (uI_55, uV_56) o d s.heap H locs → f_X7_standing0_L9 uV_56 K9 n uv_57 uv_58 = some out → (∀ (uv_57 : Int32) (uv_58 : Int32) (H : Heap) (locs : List Loc) (ls : Array Slot), lv_has ls 5 [(3, .int uv_58), (2, .int uv_54), (1, .int uv_57), (0, .ref (G.2.1 58))] → gx_at G C (uI_55, uV_56) o d s.heap H locs → K9 uv_57 uv_58 = some out → W p l e ({ frames := 2, cells := 0, slots := 0, locals := 47 } : Room) s m ([.ref (G.2.1 58)] : List Value).toArray below meth c H locs 0 0 (MQ below (gx_Qi G out.1 C (out.2.1, out.2.2) o d) ([.ref (G.2.1 58)] : List Value).toArray s 0 0 (gx_A G)) (F0 m 190 ls [])) → W p l e ({ frames := 2, cells := 0, slots := 0, locals := 47 } : Room) s m ([.ref (G.2.1 58)] : List Value).toArray below meth c H locs 0 0 (MQ below (gx_Qi G out.1 C (out.2.1, out.2.2) o d) ([.ref (G.2.1 58)] : List Value).toArray s 0 0 (gx_A G)) (F0 m 161 ls []) := by
    intro n
    induction n with
    | zero =>
      intro K9 uv_57 uv_58 H locs ls hl hw hF hK
      rw [f_X7_standing0_L9] at hF
      cases hF
    | succ n ih9 =>
      intro K9 uv_57 uv_58 H locs ls hl hw hF hK9
      rw [f_X7_standing0_L9] at hF
      refine lv_iload_n (pc := 161) hx hb dX7_standing0_161 rfl (lv_at hl 0 rfl) ?_
      refine lv_bipush (pc := 162) (v := 42) hx hb dX7_standing0_162 (by decide) ?_
      refine gx_icmp_ge (pc := 164) (tgt := 190) hx hb hF dX7_standing0_164 (by decide) (fun hF => ?_) (fun hF => ?_)
      · exact hK9 _ _ _ _ _ (lv_sub hl [0, 1, 2, 3] rfl) hw hF
      refine lv_iload_n (pc := 167) hx hb dX7_standing0_167 rfl (lv_at hl 2 rfl) ?_
      refine lv_aload_n (pc := 168) hx hb dX7_standing0_168 rfl (lv_at hl 3 rfl) ?_
      refine gg_X7_18 (pc := 169) hx hb hown hV hw (gw_1036 hV) dX7_standing0_169 ?_
      refine lv_iload_n (pc := 172) hx hb dX7_standing0_172 rfl (lv_at hl 0 rfl) ?_
      refine ga_66_ld (pc := 173) hx hb hV hw hF dX7_standing0_173 (fun _ hF => ?_)
      refine gx_if_eq (pc := 174) (tgt := 181) hx hb hF dX7_standing0_174 (by decide) (fun hF => ?_) (fun hF => ?_)
      · refine lv_iconst (pc := 181) (v := 0) hx hb dX7_standing0_181 (by decide) ?_
        refine lv_iadd (pc := 182) hx hb dX7_standing0_182 ?_
        refine lv_istore_n (pc := 183) (lv' := [(1, .int (uv_57 + 0)), (3, .int uv_58), (2, .int uv_54), (0, .ref (G.2.1 58))]) hx hb dX7_standing0_183 rfl hl (by decide) rfl (fun ls hl => ?_)
        refine lv_iinc (pc := 184) (v := (uv_58 + 1)) (lv' := [(3, .int (uv_58 + 1)), (1, .int (uv_57 + 0)), (2, .int uv_54), (0, .ref (G.2.1 58))]) hx hb dX7_standing0_184 hl (k := 1) rfl rfl (by decide) rfl (fun ls hl => ?_)
        refine lv_goto (pc := 187) (tgt := 161) hx hb dX7_standing0_187 (by decide) ?_
        exact ih9 _ _ _ _ _ _ (lv_sub hl [0, 2, 1, 3] rfl) hw hF hK9
      refine lv_iconst (pc := 177) (v := 1) hx hb dX7_standing0_177 (by decide) ?_
      refine lv_goto (pc := 178) (tgt := 182) hx hb dX7_standing0_178 (by decide) ?_
      refine lv_iadd (pc := 182) hx hb dX7_standing0_182 ?_
      refine lv_istore_n (pc := 183) (lv' := [(1, .int (uv_57 + 1)), (3, .int uv_58), (2, .int uv_54), (0, .ref (G.2.1 58))]) hx hb dX7_standing0_183 rfl hl (by decide) rfl (fun ls hl => ?_)
      refine lv_iinc (pc := 184) (v := (uv_58 + 1)) (lv' := [(3, .int (uv_58 + 1)), (1, .int (uv_57 + 1)), (2, .int uv_54), (0, .ref (G.2.1 58))]) hx hb dX7_standing0_184 hl (k := 1) rfl rfl (by decide) rfl (fun ls hl => ?_)
      refine lv_goto (pc := 187) (tgt := 161) hx hb dX7_standing0_187 (by decide) ?_
      exact ih9 _ _ _ _ _ _ (lv_sub hl [0, 2, 1, 3] rfl) hw hF hK9
  refine L9 1000 _ _ _ _ _ _ hl hw hF (fun uv_59 uv_60 H locs ls hl hw hF => ?_)
  refine lv_iload_n (pc := 190) hx hb dX7_standing0_190 rfl (lv_at hl 2 rfl) ?_
  cases hF
  exact gx_iret hx hb hr hlocks hw dX7_standing0_191
set_option maxRecDepth 100000 in
theorem cl_X7_standing0 {l : Launch} {G : gx_G} {C : gx_S} {o : Int64} {d : UInt64} {I V : gx_F} {p : Program} {e : Env} {R : Room} {s : State} {m : MethodId} {args : Array Value} {below : List Frame} {meth : Method} {c : Code} {H : Heap} {locs : List Loc} {cells slots : Nat} {Q : State → Prop} {cc : ByteArray} {pc nL index : Nat} {ls : Array Slot} {rest : List Value} {own : String} {out : (Int32 × gx_F × gx_F)} (hx : p.tables.exec = Jvm.exec) (hb : c.code = cc) (hml : c.maxLocals = nL) (hown : s.vm.findClass own = some m.cls) (hV : gx_V G s) (hw : gx_at G C (I, V) o d s.heap H locs) (hF : f_X7_standing0 I V = some out) (hlink : (Cond.methodLink own index yX7_standing0).before args s = true) (hsz : ls.size = nL) (hfr : 3 ≤ R.frames) (hlo : 71 ≤ R.locals) (hrest : (rest.map fun v => v.category).sum ≤ 8) (hdg : decode cc pc = .ok (.invokevirtual index, 3))
    (kk : ∀ (H1 : Heap) (locs1 : List Loc), gx_at G C (out.2.1, out.2.2) o d s.heap H1 locs1 → W p l e R s m args below meth c H1 locs1 cells slots Q (F0 m (pc + 3) ls (.int out.1 :: rest))) (hc : cells ≤ R.cells := by exact Nat.zero_le _) (hs : slots ≤ R.slots := by exact Nat.zero_le _) : W p l e R s m args below meth c H locs cells slots Q (F0 m pc ls (.ref (G.2.1 58) :: rest)) :=
  gx_runi hw (va_runV (C := RX7) (As := []) (rest := rest) ⟨hx, hb, hml, hown, (fun _ h => nomatch h : ∀ w ∈ ([] : List Cond), w.before args s = true)⟩ (k_X7_standing0 hF) ⟨gx_callB (n := 0) rfl rfl hlink (gw_56 hV) (gw_1148 hV) (by decide +kernel) ⟨hfr, hlo⟩, gw_1147 hV, gw_27 hV⟩ (gx_recv (k := 58) (ci := 9) (T := TX7) hV hw (by decide) rfl rfl) rfl rfl hsz rfl (lv_room hrest) hdg ⟨hc, hs⟩) kk
set_option maxHeartbeats 4000000 in
set_option maxRecDepth 100000 in
theorem k_X7_fallsBy {l : Launch} {G : gx_G} {C : gx_S} {o : Int64} {d : UInt64} {I V : gx_F} {x1 : Int32} {out : (Int32 × gx_F × gx_F)} (hF : f_X7_fallsBy x1 I V = some out) : gx_K l yX7_fallsBy cX7_fallsBy 6 (some .int) { frames := 3, cells := 0, slots := 0, locals := 71 } [.ref (G.2.1 58), .int x1] G C (I, V) o d (gx_Qi G out.1 C (out.2.1, out.2.2) o d) 0 0 := by
  refine gx_begin (by decide +kernel) (Nat.le_of_ble_eq_true rfl) ?_
  intro p e s m below meth c hx hb hr hml hown hlocks hV hw ls hl
  have hown : s.vm.findClass RX7 = some m.cls := hown
  have hl : lv_has ls 6 [(0, .ref (G.2.1 58)), (1, .int x1)] := hl
  unfold f_X7_fallsBy at hF
  refine lv_aload_n (pc := 0) hx hb dX7_fallsBy_0 rfl (lv_at hl 0 rfl) ?_
  obtain ⟨uq_1, huq_1, hF⟩ := Option.bind_eq_some_iff.mp hF
  refine cl_X7_standing0 (pc := 1) hx hb hml hown hV hw huq_1 (gw_1145 hV) hl.1 (Nat.le_of_ble_eq_true rfl) (Nat.le_of_ble_eq_true rfl) (Nat.le_of_ble_eq_true rfl) dX7_fallsBy_1 (fun H locs hw => ?_)
  refine lv_istore_n (pc := 4) (lv' := [(2, .int uq_1.1), (0, .ref (G.2.1 58)), (1, .int x1)]) hx hb dX7_fallsBy_4 rfl hl (by decide) rfl (fun ls hl => ?_)
  refine lv_iload_n (pc := 5) hx hb dX7_fallsBy_5 rfl (lv_at hl 2 rfl) ?_
  refine lv_aload_n (pc := 6) hx hb dX7_fallsBy_6 rfl (lv_at hl 1 rfl) ?_
  refine gg_X7_0 (pc := 7) hx hb hown hV hw (gw_1018 hV) dX7_fallsBy_7 ?_
  refine lv_iconst (pc := 10) (v := 1) hx hb dX7_fallsBy_10 (by decide) ?_
  refine ga_59_ld (pc := 11) hx hb hV hw hF dX7_fallsBy_11 (fun _ hF => ?_)
  refine gx_icmp_ne (pc := 12) (tgt := 19) hx hb hF dX7_fallsBy_12 (by decide) (fun hF => ?_) (fun hF => ?_)
  · refine lv_aload_n (pc := 19) hx hb dX7_fallsBy_19 rfl (lv_at hl 1 rfl) ?_
    refine gg_X7_18 (pc := 20) hx hb hown hV hw (gw_1036 hV) dX7_fallsBy_20 ?_
    refine lv_iload_n (pc := 23) hx hb dX7_fallsBy_23 rfl (lv_at hl 2 rfl) ?_
    refine ga_66_ld (pc := 24) hx hb hV hw hF dX7_fallsBy_24 (fun _ hF => ?_)
    refine gx_if_eq (pc := 25) (tgt := 32) hx hb hF dX7_fallsBy_25 (by decide) (fun hF => ?_) (fun hF => ?_)
    · refine lv_iconst (pc := 32) (v := 0) hx hb dX7_fallsBy_32 (by decide) ?_
      refine lv_istore_n (pc := 33) (lv' := [(3, .int 0), (2, .int uq_1.1), (0, .ref (G.2.1 58)), (1, .int x1)]) hx hb dX7_fallsBy_33 rfl hl (by decide) rfl (fun ls hl => ?_)
      refine lv_aload_n (pc := 34) hx hb dX7_fallsBy_34 rfl (lv_at hl 2 rfl) ?_
      refine gg_X7_0 (pc := 35) hx hb hown hV hw (gw_1018 hV) dX7_fallsBy_35 ?_
      refine lv_bipush (pc := 38) (v := 45) hx hb dX7_fallsBy_38 (by decide) ?_
      refine lv_iload_n (pc := 40) hx hb dX7_fallsBy_40 rfl (lv_at hl 3 rfl) ?_
      refine lv_iadd (pc := 41) hx hb dX7_fallsBy_41 ?_
      refine ga_59_ld (pc := 42) hx hb hV hw hF dX7_fallsBy_42 (fun _ hF => ?_)
      refine lv_istore (pc := 43) (lv' := [(4, .int (uq_1.2.2 59 (45 + x1).toNatClampNeg)), (3, .int 0), (2, .int uq_1.1), (0, .ref (G.2.1 58)), (1, .int x1)]) hx hb dX7_fallsBy_43 hl (by decide) rfl (fun ls hl => ?_)
      refine lv_aload_n (pc := 45) hx hb dX7_fallsBy_45 rfl (lv_at hl 3 rfl) ?_
      refine gg_X7_0 (pc := 46) hx hb hown hV hw (gw_1018 hV) dX7_fallsBy_46 ?_
      refine lv_bipush (pc := 49) (v := 45) hx hb dX7_fallsBy_49 (by decide) ?_
      refine lv_iload_n (pc := 51) hx hb dX7_fallsBy_51 rfl (lv_at hl 4 rfl) ?_
      refine lv_iadd (pc := 52) hx hb dX7_fallsBy_52 ?_
      refine lv_iconst (pc := 53) (v := (-1)) hx hb dX7_fallsBy_53 (by decide) ?_
      refine ga_59_st (pc := 54) hx hb hV hw hF dX7_fallsBy_54 (fun H locs hw hF => ?_)
      refine lv_aload_n (pc := 55) hx hb dX7_fallsBy_55 rfl (lv_at hl 3 rfl) ?_
      obtain ⟨uq_2, huq_2, hF⟩ := Option.bind_eq_some_iff.mp hF
      refine cl_X7_standing0 (pc := 56) hx hb hml hown hV hw huq_2 (gw_1145 hV) hl.1 (Nat.le_of_ble_eq_true rfl) (Nat.le_of_ble_eq_true rfl) (Nat.le_of_ble_eq_true rfl) dX7_fallsBy_56 (fun H locs hw => ?_)
      refine lv_istore (pc := 59) (lv' := [(5, .int uq_2.1), (4, .int (uq_1.2.2 59 (45 + x1).toNatClampNeg)), (3, .int 0), (2, .int uq_1.1), (0, .ref (G.2.1 58)), (1, .int x1)]) hx hb dX7_fallsBy_59 hl (by decide) rfl (fun ls hl => ?_)
      refine lv_aload_n (pc := 61) hx hb dX7_fallsBy_61 rfl (lv_at hl 4 rfl) ?_
      refine gg_X7_0 (pc := 62) hx hb hown hV hw (gw_1018 hV) dX7_fallsBy_62 ?_
      refine lv_bipush (pc := 65) (v := 45) hx hb dX7_fallsBy_65 (by decide) ?_
      refine lv_iload_n (pc := 67) hx hb dX7_fallsBy_67 rfl (lv_at hl 5 rfl) ?_
      refine lv_iadd (pc := 68) hx hb dX7_fallsBy_68 ?_
      refine lv_iload (pc := 69) hx hb dX7_fallsBy_69 (lv_at hl 1 rfl) ?_
      refine ga_59_st (pc := 71) hx hb hV hw hF dX7_fallsBy_71 (fun H locs hw hF => ?_)
      refine lv_iload_n (pc := 72) hx hb dX7_fallsBy_72 rfl (lv_at hl 3 rfl) ?_
      refine lv_iload_n (pc := 73) hx hb dX7_fallsBy_73 rfl (lv_at hl 2 rfl) ?_
      refine lv_isub (pc := 74) hx hb dX7_fallsBy_74 ?_
      refine lv_iload (pc := 75) hx hb dX7_fallsBy_75 (lv_at hl 0 rfl) ?_
      refine lv_isub (pc := 77) hx hb dX7_fallsBy_77 ?_
      cases hF
      exact gx_iret hx hb hr hlocks hw dX7_fallsBy_78
    refine lv_iconst (pc := 28) (v := 1) hx hb dX7_fallsBy_28 (by decide) ?_
    refine lv_goto (pc := 29) (tgt := 33) hx hb dX7_fallsBy_29 (by decide) ?_
    refine lv_istore_n (pc := 33) (lv' := [(3, .int 1), (2, .int uq_1.1), (0, .ref (G.2.1 58)), (1, .int x1)]) hx hb dX7_fallsBy_33 rfl hl (by decide) rfl (fun ls hl => ?_)
    refine lv_aload_n (pc := 34) hx hb dX7_fallsBy_34 rfl (lv_at hl 2 rfl) ?_
    refine gg_X7_0 (pc := 35) hx hb hown hV hw (gw_1018 hV) dX7_fallsBy_35 ?_
    refine lv_bipush (pc := 38) (v := 45) hx hb dX7_fallsBy_38 (by decide) ?_
    refine lv_iload_n (pc := 40) hx hb dX7_fallsBy_40 rfl (lv_at hl 3 rfl) ?_
    refine lv_iadd (pc := 41) hx hb dX7_fallsBy_41 ?_
    refine ga_59_ld (pc := 42) hx hb hV hw hF dX7_fallsBy_42 (fun _ hF => ?_)
    refine lv_istore (pc := 43) (lv' := [(4, .int (uq_1.2.2 59 (45 + x1).toNatClampNeg)), (3, .int 1), (2, .int uq_1.1), (0, .ref (G.2.1 58)), (1, .int x1)]) hx hb dX7_fallsBy_43 hl (by decide) rfl (fun ls hl => ?_)
    refine lv_aload_n (pc := 45) hx hb dX7_fallsBy_45 rfl (lv_at hl 3 rfl) ?_
    refine gg_X7_0 (pc := 46) hx hb hown hV hw (gw_1018 hV) dX7_fallsBy_46 ?_
    refine lv_bipush (pc := 49) (v := 45) hx hb dX7_fallsBy_49 (by decide) ?_
    refine lv_iload_n (pc := 51) hx hb dX7_fallsBy_51 rfl (lv_at hl 4 rfl) ?_
    refine lv_iadd (pc := 52) hx hb dX7_fallsBy_52 ?_
    refine lv_iconst (pc := 53) (v := (-1)) hx hb dX7_fallsBy_53 (by decide) ?_
    refine ga_59_st (pc := 54) hx hb hV hw hF dX7_fallsBy_54 (fun H locs hw hF => ?_)
    refine lv_aload_n (pc := 55) hx hb dX7_fallsBy_55 rfl (lv_at hl 3 rfl) ?_
    obtain ⟨uq_3, huq_3, hF⟩ := Option.bind_eq_some_iff.mp hF
    refine cl_X7_standing0 (pc := 56) hx hb hml hown hV hw huq_3 (gw_1145 hV) hl.1 (Nat.le_of_ble_eq_true rfl) (Nat.le_of_ble_eq_true rfl) (Nat.le_of_ble_eq_true rfl) dX7_fallsBy_56 (fun H locs hw => ?_)
    refine lv_istore (pc := 59) (lv' := [(5, .int uq_3.1), (4, .int (uq_1.2.2 59 (45 + x1).toNatClampNeg)), (3, .int 1), (2, .int uq_1.1), (0, .ref (G.2.1 58)), (1, .int x1)]) hx hb dX7_fallsBy_59 hl (by decide) rfl (fun ls hl => ?_)
    refine lv_aload_n (pc := 61) hx hb dX7_fallsBy_61 rfl (lv_at hl 4 rfl) ?_
    refine gg_X7_0 (pc := 62) hx hb hown hV hw (gw_1018 hV) dX7_fallsBy_62 ?_
    refine lv_bipush (pc := 65) (v := 45) hx hb dX7_fallsBy_65 (by decide) ?_
    refine lv_iload_n (pc := 67) hx hb dX7_fallsBy_67 rfl (lv_at hl 5 rfl) ?_
    refine lv_iadd (pc := 68) hx hb dX7_fallsBy_68 ?_
    refine lv_iload (pc := 69) hx hb dX7_fallsBy_69 (lv_at hl 1 rfl) ?_
    refine ga_59_st (pc := 71) hx hb hV hw hF dX7_fallsBy_71 (fun H locs hw hF => ?_)
    refine lv_iload_n (pc := 72) hx hb dX7_fallsBy_72 rfl (lv_at hl 3 rfl) ?_
    refine lv_iload_n (pc := 73) hx hb dX7_fallsBy_73 rfl (lv_at hl 2 rfl) ?_
    refine lv_isub (pc := 74) hx hb dX7_fallsBy_74 ?_
    refine lv_iload (pc := 75) hx hb dX7_fallsBy_75 (lv_at hl 0 rfl) ?_
    refine lv_isub (pc := 77) hx hb dX7_fallsBy_77 ?_
    cases hF
    exact gx_iret hx hb hr hlocks hw dX7_fallsBy_78
  refine lv_iload_n (pc := 15) hx hb dX7_fallsBy_15 rfl (lv_at hl 0 rfl) ?_
  refine lv_iconst (pc := 16) (v := 1) hx hb dX7_fallsBy_16 (by decide) ?_
  refine lv_isub (pc := 17) hx hb dX7_fallsBy_17 ?_
  cases hF
  exact gx_iret hx hb hr hlocks hw dX7_fallsBy_18
set_option maxRecDepth 100000 in
theorem cl_X7_fallsBy {l : Launch} {G : gx_G} {C : gx_S} {o : Int64} {d : UInt64} {I V : gx_F} {p : Program} {e : Env} {R : Room} {s : State} {m : MethodId} {args : Array Value} {below : List Frame} {meth : Method} {c : Code} {H : Heap} {locs : List Loc} {cells slots : Nat} {Q : State → Prop} {cc : ByteArray} {pc nL index : Nat} {ls : Array Slot} {rest : List Value} {own : String} {x1 : Int32} {out : (Int32 × gx_F × gx_F)} (hx : p.tables.exec = Jvm.exec) (hb : c.code = cc) (hml : c.maxLocals = nL) (hown : s.vm.findClass own = some m.cls) (hV : gx_V G s) (hw : gx_at G C (I, V) o d s.heap H locs) (hF : f_X7_fallsBy x1 I V = some out) (hlink : (Cond.methodLink own index yX7_fallsBy).before args s = true) (hsz : ls.size = nL) (hfr : 4 ≤ R.frames) (hlo : 96 ≤ R.locals) (hrest : (rest.map fun v => v.category).sum ≤ 8) (hdg : decode cc pc = .ok (.invokevirtual index, 3))
    (kk : ∀ (H1 : Heap) (locs1 : List Loc), gx_at G C (out.2.1, out.2.2) o d s.heap H1 locs1 → W p l e R s m args below meth c H1 locs1 cells slots Q (F0 m (pc + 3) ls (.int out.1 :: rest))) (hc : cells ≤ R.cells := by exact Nat.zero_le _) (hs : slots ≤ R.slots := by exact Nat.zero_le _) : W p l e R s m args below meth c H locs cells slots Q (F0 m pc ls (.int x1 :: .ref (G.2.1 58) :: rest)) :=
  gx_runi hw (va_runV (C := RX7) (As := [.int x1]) (rest := rest) ⟨hx, hb, hml, hown, (fun _ h => nomatch h : ∀ w ∈ ([] : List Cond), w.before args s = true)⟩ (k_X7_fallsBy hF) ⟨gx_callB (n := 1) rfl rfl hlink (gw_56 hV) (gw_1144 hV) (by decide +kernel) ⟨hfr, hlo⟩, gw_1143 hV, gw_26 hV⟩ (gx_recv (k := 58) (ci := 9) (T := TX7) hV hw (by decide) rfl rfl) rfl rfl hsz rfl (lv_room hrest) hdg ⟨hc, hs⟩) kk
set_option maxHeartbeats 4000000 in
set_option maxRecDepth 100000 in
theorem k_X7_kind {l : Launch} {G : gx_G} {C : gx_S} {o : Int64} {d : UInt64} {I V : gx_F} {x1 : Int32} {x2 : Int32} {x3 : Int32} {x4 : Int32} {out : (Int32 × gx_F × gx_F)} (hF : f_X7_kind x1 x2 x3 x4 I V = some out) : gx_K l yX7_kind cX7_kind 6 (some .int) { frames := 2, cells := 0, slots := 0, locals := 46 } [.ref (G.2.1 58), .int x1, .int x2, .int x3, .int x4] G C (I, V) o d (gx_Qi G out.1 C (out.2.1, out.2.2) o d) 0 0 := by
  refine gx_begin (by decide +kernel) (Nat.le_of_ble_eq_true rfl) ?_
  intro p e s m below meth c hx hb hr hml hown hlocks hV hw ls hl
  have hown : s.vm.findClass RX7 = some m.cls := hown
  have hl : lv_has ls 6 [(0, .ref (G.2.1 58)), (1, .int x1), (2, .int x2), (3, .int x3), (4, .int x4)] := hl
  unfold f_X7_kind at hF
  refine lv_iload_n (pc := 0) hx hb dX7_kind_0 rfl (lv_at hl 1 rfl) ?_
  refine lv_iconst (pc := 1) (v := 0) hx hb dX7_kind_1 (by decide) ?_
  refine lv_bipush (pc := 2) (v := 6) hx hb dX7_kind_2 (by decide) ?_
  obtain ⟨uq_1, huq_1, hF⟩ := Option.bind_eq_some_iff.mp hF
  refine cl_X7_in (pc := 4) hx hb hml hown hV hw huq_1 (gw_1093 hV) hl.1 (Nat.le_of_ble_eq_true rfl) (Nat.le_of_ble_eq_true rfl) (Nat.le_of_ble_eq_true rfl) dX7_kind_4 (fun H locs hw => ?_)
  refine gx_if_eq (pc := 7) (tgt := 41) hx hb hF dX7_kind_7 (by decide) (fun hF => ?_) (fun hF => ?_)
  · refine lv_aload_n (pc := 41) hx hb dX7_kind_41 rfl (lv_at hl 0 rfl) ?_
    refine lv_iconst (pc := 42) (v := 1) hx hb dX7_kind_42 (by decide) ?_
    refine lv_iconst (pc := 43) (v := 0) hx hb dX7_kind_43 (by decide) ?_
    obtain ⟨uq_2, huq_2, hF⟩ := Option.bind_eq_some_iff.mp hF
    refine cl_X7_refuses (pc := 44) hx hb hml hown hV hw huq_2 (gw_1096 hV) hl.1 (Nat.le_of_ble_eq_true rfl) (Nat.le_of_ble_eq_true rfl) (Nat.le_of_ble_eq_true rfl) dX7_kind_44 (fun H locs hw => ?_)
    cases hF
    exact gx_iret hx hb hr hlocks hw dX7_kind_47
  refine lv_iload_n (pc := 10) hx hb dX7_kind_10 rfl (lv_at hl 2 rfl) ?_
  refine lv_iconst (pc := 11) (v := 0) hx hb dX7_kind_11 (by decide) ?_
  refine lv_bipush (pc := 12) (v := 6) hx hb dX7_kind_12 (by decide) ?_
  obtain ⟨uq_3, huq_3, hF⟩ := Option.bind_eq_some_iff.mp hF
  refine cl_X7_in (pc := 14) hx hb hml hown hV hw huq_3 (gw_1093 hV) hl.1 (Nat.le_of_ble_eq_true rfl) (Nat.le_of_ble_eq_true rfl) (Nat.le_of_ble_eq_true rfl) dX7_kind_14 (fun H locs hw => ?_)
  refine gx_if_eq (pc := 17) (tgt := 41) hx hb hF dX7_kind_17 (by decide) (fun hF => ?_) (fun hF => ?_)
  · refine lv_aload_n (pc := 41) hx hb dX7_kind_41 rfl (lv_at hl 0 rfl) ?_
    refine lv_iconst (pc := 42) (v := 1) hx hb dX7_kind_42 (by decide) ?_
    refine lv_iconst (pc := 43) (v := 0) hx hb dX7_kind_43 (by decide) ?_
    obtain ⟨uq_4, huq_4, hF⟩ := Option.bind_eq_some_iff.mp hF
    refine cl_X7_refuses (pc := 44) hx hb hml hown hV hw huq_4 (gw_1096 hV) hl.1 (Nat.le_of_ble_eq_true rfl) (Nat.le_of_ble_eq_true rfl) (Nat.le_of_ble_eq_true rfl) dX7_kind_44 (fun H locs hw => ?_)
    cases hF
    exact gx_iret hx hb hr hlocks hw dX7_kind_47
  refine lv_iload_n (pc := 20) hx hb dX7_kind_20 rfl (lv_at hl 3 rfl) ?_
  refine lv_iconst (pc := 21) (v := 0) hx hb dX7_kind_21 (by decide) ?_
  refine lv_bipush (pc := 22) (v := 6) hx hb dX7_kind_22 (by decide) ?_
  obtain ⟨uq_5, huq_5, hF⟩ := Option.bind_eq_some_iff.mp hF
  refine cl_X7_in (pc := 24) hx hb hml hown hV hw huq_5 (gw_1093 hV) hl.1 (Nat.le_of_ble_eq_true rfl) (Nat.le_of_ble_eq_true rfl) (Nat.le_of_ble_eq_true rfl) dX7_kind_24 (fun H locs hw => ?_)
  refine gx_if_eq (pc := 27) (tgt := 41) hx hb hF dX7_kind_27 (by decide) (fun hF => ?_) (fun hF => ?_)
  · refine lv_aload_n (pc := 41) hx hb dX7_kind_41 rfl (lv_at hl 0 rfl) ?_
    refine lv_iconst (pc := 42) (v := 1) hx hb dX7_kind_42 (by decide) ?_
    refine lv_iconst (pc := 43) (v := 0) hx hb dX7_kind_43 (by decide) ?_
    obtain ⟨uq_6, huq_6, hF⟩ := Option.bind_eq_some_iff.mp hF
    refine cl_X7_refuses (pc := 44) hx hb hml hown hV hw huq_6 (gw_1096 hV) hl.1 (Nat.le_of_ble_eq_true rfl) (Nat.le_of_ble_eq_true rfl) (Nat.le_of_ble_eq_true rfl) dX7_kind_44 (fun H locs hw => ?_)
    cases hF
    exact gx_iret hx hb hr hlocks hw dX7_kind_47
  refine lv_iload (pc := 30) hx hb dX7_kind_30 (lv_at hl 4 rfl) ?_
  refine lv_iconst (pc := 32) (v := 0) hx hb dX7_kind_32 (by decide) ?_
  refine lv_bipush (pc := 33) (v := 6) hx hb dX7_kind_33 (by decide) ?_
  obtain ⟨uq_7, huq_7, hF⟩ := Option.bind_eq_some_iff.mp hF
  refine cl_X7_in (pc := 35) hx hb hml hown hV hw huq_7 (gw_1093 hV) hl.1 (Nat.le_of_ble_eq_true rfl) (Nat.le_of_ble_eq_true rfl) (Nat.le_of_ble_eq_true rfl) dX7_kind_35 (fun H locs hw => ?_)
  refine gx_if_ne (pc := 38) (tgt := 48) hx hb hF dX7_kind_38 (by decide) (fun hF => ?_) (fun hF => ?_)
  · refine lv_aload_n (pc := 48) hx hb dX7_kind_48 rfl (lv_at hl 0 rfl) ?_
    refine gg_X7_0 (pc := 49) hx hb hown hV hw (gw_1018 hV) dX7_kind_49 ?_
    refine lv_iconst (pc := 52) (v := 0) hx hb dX7_kind_52 (by decide) ?_
    refine ga_59_ld (pc := 53) hx hb hV hw hF dX7_kind_53 (fun _ hF => ?_)
    refine lv_bipush (pc := 54) (v := 8) hx hb dX7_kind_54 (by decide) ?_
    refine gx_icmp_ne (pc := 56) (tgt := 67) hx hb hF dX7_kind_56 (by decide) (fun hF => ?_) (fun hF => ?_)
    · refine lv_aload_n (pc := 67) hx hb dX7_kind_67 rfl (lv_at hl 0 rfl) ?_
      refine lv_aload_n (pc := 68) hx hb dX7_kind_68 rfl (lv_at hl 0 rfl) ?_
      refine gg_X7_0 (pc := 69) hx hb hown hV hw (gw_1018 hV) dX7_kind_69 ?_
      obtain ⟨uq_8, huq_8, hF⟩ := Option.bind_eq_some_iff.mp hF
      refine cl_X7_keeps (pc := 72) hx hb hml hown hV hw gx_a59 huq_8 (gw_1100 hV) hl.1 (Nat.le_of_ble_eq_true rfl) (Nat.le_of_ble_eq_true rfl) (Nat.le_of_ble_eq_true rfl) dX7_kind_72 (fun H locs hw => ?_)
      refine lv_bipush (pc := 75) (v := 13) hx hb dX7_kind_75 (by decide) ?_
      refine lv_iconst (pc := 77) (v := 4) hx hb dX7_kind_77 (by decide) ?_
      refine lv_aload_n (pc := 78) hx hb dX7_kind_78 rfl (lv_at hl 0 rfl) ?_
      refine gg_X7_0 (pc := 79) hx hb hown hV hw (gw_1018 hV) dX7_kind_79 ?_
      refine lv_iconst (pc := 82) (v := 0) hx hb dX7_kind_82 (by decide) ?_
      refine ga_59_ld (pc := 83) hx hb hV hw hF dX7_kind_83 (fun _ hF => ?_)
      refine lv_imul (pc := 84) hx hb dX7_kind_84 ?_
      refine lv_iadd (pc := 85) hx hb dX7_kind_85 ?_
      refine lv_istore (pc := 86) (lv' := [(5, .int (13 + (4 * (uq_8.2 59 (0 : Int32).toNatClampNeg)))), (0, .ref (G.2.1 58)), (1, .int x1), (2, .int x2), (3, .int x3), (4, .int x4)]) hx hb dX7_kind_86 hl (by decide) rfl (fun ls hl => ?_)
      refine lv_aload_n (pc := 88) hx hb dX7_kind_88 rfl (lv_at hl 1 rfl) ?_
      refine gg_X7_0 (pc := 89) hx hb hown hV hw (gw_1018 hV) dX7_kind_89 ?_
      refine lv_iload (pc := 92) hx hb dX7_kind_92 (lv_at hl 0 rfl) ?_
      refine lv_iload_n (pc := 94) hx hb dX7_kind_94 rfl (lv_at hl 2 rfl) ?_
      refine ga_59_st (pc := 95) hx hb hV hw hF dX7_kind_95 (fun H locs hw hF => ?_)
      refine lv_aload_n (pc := 96) hx hb dX7_kind_96 rfl (lv_at hl 1 rfl) ?_
      refine gg_X7_0 (pc := 97) hx hb hown hV hw (gw_1018 hV) dX7_kind_97 ?_
      refine lv_iload (pc := 100) hx hb dX7_kind_100 (lv_at hl 0 rfl) ?_
      refine lv_iconst (pc := 102) (v := 1) hx hb dX7_kind_102 (by decide) ?_
      refine lv_iadd (pc := 103) hx hb dX7_kind_103 ?_
      refine lv_iload_n (pc := 104) hx hb dX7_kind_104 rfl (lv_at hl 3 rfl) ?_
      refine ga_59_st (pc := 105) hx hb hV hw hF dX7_kind_105 (fun H locs hw hF => ?_)
      refine lv_aload_n (pc := 106) hx hb dX7_kind_106 rfl (lv_at hl 1 rfl) ?_
      refine gg_X7_0 (pc := 107) hx hb hown hV hw (gw_1018 hV) dX7_kind_107 ?_
      refine lv_iload (pc := 110) hx hb dX7_kind_110 (lv_at hl 0 rfl) ?_
      refine lv_iconst (pc := 112) (v := 2) hx hb dX7_kind_112 (by decide) ?_
      refine lv_iadd (pc := 113) hx hb dX7_kind_113 ?_
      refine lv_iload_n (pc := 114) hx hb dX7_kind_114 rfl (lv_at hl 4 rfl) ?_
      refine ga_59_st (pc := 115) hx hb hV hw hF dX7_kind_115 (fun H locs hw hF => ?_)
      refine lv_aload_n (pc := 116) hx hb dX7_kind_116 rfl (lv_at hl 1 rfl) ?_
      refine gg_X7_0 (pc := 117) hx hb hown hV hw (gw_1018 hV) dX7_kind_117 ?_
      refine lv_iload (pc := 120) hx hb dX7_kind_120 (lv_at hl 0 rfl) ?_
      refine lv_iconst (pc := 122) (v := 3) hx hb dX7_kind_122 (by decide) ?_
      refine lv_iadd (pc := 123) hx hb dX7_kind_123 ?_
      refine lv_iload (pc := 124) hx hb dX7_kind_124 (lv_at hl 5 rfl) ?_
      refine ga_59_st (pc := 126) hx hb hV hw hF dX7_kind_126 (fun H locs hw hF => ?_)
      refine lv_aload_n (pc := 127) hx hb dX7_kind_127 rfl (lv_at hl 1 rfl) ?_
      refine gg_X7_0 (pc := 128) hx hb hown hV hw (gw_1018 hV) dX7_kind_128 ?_
      refine lv_iconst (pc := 131) (v := 0) hx hb dX7_kind_131 (by decide) ?_
      refine lv_dup2_11 (pc := 132) hx hb dX7_kind_132 rfl rfl ?_
      refine ga_59_ld (pc := 133) hx hb hV hw hF dX7_kind_133 (fun _ hF => ?_)
      refine lv_iconst (pc := 134) (v := 1) hx hb dX7_kind_134 (by decide) ?_
      refine lv_iadd (pc := 135) hx hb dX7_kind_135 ?_
      refine ga_59_st (pc := 136) hx hb hV hw hF dX7_kind_136 (fun H locs hw hF => ?_)
      refine lv_aload_n (pc := 137) hx hb dX7_kind_137 rfl (lv_at hl 1 rfl) ?_
      refine gg_X7_0 (pc := 138) hx hb hown hV hw (gw_1018 hV) dX7_kind_138 ?_
      refine lv_iconst (pc := 141) (v := 0) hx hb dX7_kind_141 (by decide) ?_
      refine ga_59_ld (pc := 142) hx hb hV hw hF dX7_kind_142 (fun _ hF => ?_)
      refine lv_iconst (pc := 143) (v := 1) hx hb dX7_kind_143 (by decide) ?_
      refine lv_isub (pc := 144) hx hb dX7_kind_144 ?_
      cases hF
      exact gx_iret hx hb hr hlocks hw dX7_kind_145
    refine lv_aload_n (pc := 59) hx hb dX7_kind_59 rfl (lv_at hl 0 rfl) ?_
    refine lv_iconst (pc := 60) (v := 2) hx hb dX7_kind_60 (by decide) ?_
    refine lv_bipush (pc := 61) (v := 8) hx hb dX7_kind_61 (by decide) ?_
    obtain ⟨uq_9, huq_9, hF⟩ := Option.bind_eq_some_iff.mp hF
    refine cl_X7_refuses (pc := 63) hx hb hml hown hV hw huq_9 (gw_1096 hV) hl.1 (Nat.le_of_ble_eq_true rfl) (Nat.le_of_ble_eq_true rfl) (Nat.le_of_ble_eq_true rfl) dX7_kind_63 (fun H locs hw => ?_)
    cases hF
    exact gx_iret hx hb hr hlocks hw dX7_kind_66
  refine lv_aload_n (pc := 41) hx hb dX7_kind_41 rfl (lv_at hl 0 rfl) ?_
  refine lv_iconst (pc := 42) (v := 1) hx hb dX7_kind_42 (by decide) ?_
  refine lv_iconst (pc := 43) (v := 0) hx hb dX7_kind_43 (by decide) ?_
  obtain ⟨uq_10, huq_10, hF⟩ := Option.bind_eq_some_iff.mp hF
  refine cl_X7_refuses (pc := 44) hx hb hml hown hV hw huq_10 (gw_1096 hV) hl.1 (Nat.le_of_ble_eq_true rfl) (Nat.le_of_ble_eq_true rfl) (Nat.le_of_ble_eq_true rfl) dX7_kind_44 (fun H locs hw => ?_)
  cases hF
  exact gx_iret hx hb hr hlocks hw dX7_kind_47
set_option maxRecDepth 100000 in
theorem cl_X7_kind {l : Launch} {G : gx_G} {C : gx_S} {o : Int64} {d : UInt64} {I V : gx_F} {p : Program} {e : Env} {R : Room} {s : State} {m : MethodId} {args : Array Value} {below : List Frame} {meth : Method} {c : Code} {H : Heap} {locs : List Loc} {cells slots : Nat} {Q : State → Prop} {cc : ByteArray} {pc nL index : Nat} {ls : Array Slot} {rest : List Value} {own : String} {x1 : Int32} {x2 : Int32} {x3 : Int32} {x4 : Int32} {out : (Int32 × gx_F × gx_F)} (hx : p.tables.exec = Jvm.exec) (hb : c.code = cc) (hml : c.maxLocals = nL) (hown : s.vm.findClass own = some m.cls) (hV : gx_V G s) (hw : gx_at G C (I, V) o d s.heap H locs) (hF : f_X7_kind x1 x2 x3 x4 I V = some out) (hlink : (Cond.methodLink own index yX7_kind).before args s = true) (hsz : ls.size = nL) (hfr : 3 ≤ R.frames) (hlo : 71 ≤ R.locals) (hrest : (rest.map fun v => v.category).sum ≤ 8) (hdg : decode cc pc = .ok (.invokevirtual index, 3))
    (kk : ∀ (H1 : Heap) (locs1 : List Loc), gx_at G C (out.2.1, out.2.2) o d s.heap H1 locs1 → W p l e R s m args below meth c H1 locs1 cells slots Q (F0 m (pc + 3) ls (.int out.1 :: rest))) (hc : cells ≤ R.cells := by exact Nat.zero_le _) (hs : slots ≤ R.slots := by exact Nat.zero_le _) : W p l e R s m args below meth c H locs cells slots Q (F0 m pc ls (.int x4 :: .int x3 :: .int x2 :: .int x1 :: .ref (G.2.1 58) :: rest)) :=
  gx_runi hw (va_runV (C := RX7) (As := [.int x1, .int x2, .int x3, .int x4]) (rest := rest) ⟨hx, hb, hml, hown, (fun _ h => nomatch h : ∀ w ∈ ([] : List Cond), w.before args s = true)⟩ (k_X7_kind hF) ⟨gx_callB (n := 4) rfl rfl hlink (gw_56 hV) (gw_1092 hV) (by decide +kernel) ⟨hfr, hlo⟩, gw_1090 hV, gw_1091 hV⟩ (gx_recv (k := 58) (ci := 9) (T := TX7) hV hw (by decide) rfl rfl) rfl rfl hsz rfl (lv_room hrest) hdg ⟨hc, hs⟩) kk
set_option maxHeartbeats 4000000 in
set_option maxRecDepth 100000 in
theorem k_X7_lay {l : Launch} {G : gx_G} {C : gx_S} {o : Int64} {d : UInt64} {I V : gx_F} {x1 : Int32} {x2 : Int32} {x3 : Int32} {out : (Int32 × gx_F × gx_F)} (hF : f_X7_lay x1 x2 x3 I V = some out) : gx_K l yX7_lay cX7_lay 6 (some .int) { frames := 3, cells := 0, slots := 0, locals := 71 } [.ref (G.2.1 58), .int x1, .int x2, .int x3] G C (I, V) o d (gx_Qi G out.1 C (out.2.1, out.2.2) o d) 0 0 := by
  refine gx_begin (by decide +kernel) (Nat.le_of_ble_eq_true rfl) ?_
  intro p e s m below meth c hx hb hr hml hown hlocks hV hw ls hl
  have hown : s.vm.findClass RX7 = some m.cls := hown
  have hl : lv_has ls 6 [(0, .ref (G.2.1 58)), (1, .int x1), (2, .int x2), (3, .int x3)] := hl
  unfold f_X7_lay at hF
  refine lv_iload_n (pc := 0) hx hb dX7_lay_0 rfl (lv_at hl 1 rfl) ?_
  obtain ⟨uq_1, huq_1, hF⟩ := Option.bind_eq_some_iff.mp hF
  refine cl_X7_isPlace (pc := 1) hx hb hml hown hV hw huq_1 (gw_1111 hV) hl.1 (Nat.le_of_ble_eq_true rfl) (Nat.le_of_ble_eq_true rfl) (Nat.le_of_ble_eq_true rfl) dX7_lay_1 (fun H locs hw => ?_)
  refine gx_if_eq (pc := 4) (tgt := 16) hx hb hF dX7_lay_4 (by decide) (fun hF => ?_) (fun hF => ?_)
  · refine lv_aload_n (pc := 16) hx hb dX7_lay_16 rfl (lv_at hl 0 rfl) ?_
    refine lv_iconst (pc := 17) (v := 1) hx hb dX7_lay_17 (by decide) ?_
    refine lv_iconst (pc := 18) (v := 0) hx hb dX7_lay_18 (by decide) ?_
    obtain ⟨uq_2, huq_2, hF⟩ := Option.bind_eq_some_iff.mp hF
    refine cl_X7_refuses (pc := 19) hx hb hml hown hV hw huq_2 (gw_1096 hV) hl.1 (Nat.le_of_ble_eq_true rfl) (Nat.le_of_ble_eq_true rfl) (Nat.le_of_ble_eq_true rfl) dX7_lay_19 (fun H locs hw => ?_)
    cases hF
    exact gx_iret hx hb hr hlocks hw dX7_lay_22
  refine lv_iload_n (pc := 7) hx hb dX7_lay_7 rfl (lv_at hl 3 rfl) ?_
  refine lv_iconst (pc := 8) (v := 0) hx hb dX7_lay_8 (by decide) ?_
  refine lv_iconst (pc := 9) (v := 3) hx hb dX7_lay_9 (by decide) ?_
  obtain ⟨uq_3, huq_3, hF⟩ := Option.bind_eq_some_iff.mp hF
  refine cl_X7_in (pc := 10) hx hb hml hown hV hw huq_3 (gw_1093 hV) hl.1 (Nat.le_of_ble_eq_true rfl) (Nat.le_of_ble_eq_true rfl) (Nat.le_of_ble_eq_true rfl) dX7_lay_10 (fun H locs hw => ?_)
  refine gx_if_ne (pc := 13) (tgt := 23) hx hb hF dX7_lay_13 (by decide) (fun hF => ?_) (fun hF => ?_)
  · refine lv_aload_n (pc := 23) hx hb dX7_lay_23 rfl (lv_at hl 0 rfl) ?_
    refine lv_iload_n (pc := 24) hx hb dX7_lay_24 rfl (lv_at hl 2 rfl) ?_
    obtain ⟨uq_4, huq_4, hF⟩ := Option.bind_eq_some_iff.mp hF
    refine cl_X7_isKind (pc := 25) hx hb hml hown hV hw huq_4 (gw_1114 hV) hl.1 (Nat.le_of_ble_eq_true rfl) (Nat.le_of_ble_eq_true rfl) (Nat.le_of_ble_eq_true rfl) dX7_lay_25 (fun H locs hw => ?_)
    refine gx_if_ne (pc := 28) (tgt := 38) hx hb hF dX7_lay_28 (by decide) (fun hF => ?_) (fun hF => ?_)
    · refine lv_aload_n (pc := 38) hx hb dX7_lay_38 rfl (lv_at hl 0 rfl) ?_
      refine lv_iload_n (pc := 39) hx hb dX7_lay_39 rfl (lv_at hl 1 rfl) ?_
      obtain ⟨uq_5, huq_5, hF⟩ := Option.bind_eq_some_iff.mp hF
      refine cl_X7_isFree (pc := 40) hx hb hml hown hV hw huq_5 (gw_1118 hV) hl.1 (Nat.le_of_ble_eq_true rfl) (Nat.le_of_ble_eq_true rfl) (Nat.le_of_ble_eq_true rfl) dX7_lay_40 (fun H locs hw => ?_)
      refine gx_if_ne (pc := 43) (tgt := 63) hx hb hF dX7_lay_43 (by decide) (fun hF => ?_) (fun hF => ?_)
      · refine lv_aload_n (pc := 63) hx hb dX7_lay_63 rfl (lv_at hl 0 rfl) ?_
        refine lv_iload_n (pc := 64) hx hb dX7_lay_64 rfl (lv_at hl 1 rfl) ?_
        refine lv_iconst (pc := 65) (v := 4) hx hb dX7_lay_65 (by decide) ?_
        refine lv_iload_n (pc := 66) hx hb dX7_lay_66 rfl (lv_at hl 2 rfl) ?_
        refine lv_imul (pc := 67) hx hb dX7_lay_67 ?_
        refine lv_iload_n (pc := 68) hx hb dX7_lay_68 rfl (lv_at hl 3 rfl) ?_
        refine lv_iadd (pc := 69) hx hb dX7_lay_69 ?_
        obtain ⟨uq_6, huq_6, hF⟩ := Option.bind_eq_some_iff.mp hF
        refine cl_X7_held (pc := 70) hx hb hml hown hV hw huq_6 (gw_1122 hV) hl.1 (Nat.le_of_ble_eq_true rfl) (Nat.le_of_ble_eq_true rfl) (Nat.le_of_ble_eq_true rfl) dX7_lay_70 (fun H locs hw => ?_)
        refine lv_istore (pc := 73) (lv' := [(4, .int uq_6), (0, .ref (G.2.1 58)), (1, .int x1), (2, .int x2), (3, .int x3)]) hx hb dX7_lay_73 hl (by decide) rfl (fun ls hl => ?_)
        refine lv_aload_n (pc := 75) hx hb dX7_lay_75 rfl (lv_at hl 1 rfl) ?_
        refine gg_X7_0 (pc := 76) hx hb hown hV hw (gw_1018 hV) dX7_lay_76 ?_
        refine lv_iconst (pc := 79) (v := 1) hx hb dX7_lay_79 (by decide) ?_
        refine ga_59_ld (pc := 80) hx hb hV hw hF dX7_lay_80 (fun _ hF => ?_)
        refine gx_if_lt (pc := 81) (tgt := 110) hx hb hF dX7_lay_81 (by decide) (fun hF => ?_) (fun hF => ?_)
        · refine lv_aload_n (pc := 110) hx hb dX7_lay_110 rfl (lv_at hl 1 rfl) ?_
          refine lv_aload_n (pc := 111) hx hb dX7_lay_111 rfl (lv_at hl 1 rfl) ?_
          refine gg_X7_0 (pc := 112) hx hb hown hV hw (gw_1018 hV) dX7_lay_112 ?_
          obtain ⟨uq_7, huq_7, hF⟩ := Option.bind_eq_some_iff.mp hF
          refine cl_X7_keeps (pc := 115) hx hb hml hown hV hw gx_a59 huq_7 (gw_1100 hV) hl.1 (Nat.le_of_ble_eq_true rfl) (Nat.le_of_ble_eq_true rfl) (Nat.le_of_ble_eq_true rfl) dX7_lay_115 (fun H locs hw => ?_)
          refine lv_aload_n (pc := 118) hx hb dX7_lay_118 rfl (lv_at hl 1 rfl) ?_
          refine gg_X7_0 (pc := 119) hx hb hown hV hw (gw_1018 hV) dX7_lay_119 ?_
          refine lv_iconst (pc := 122) (v := 1) hx hb dX7_lay_122 (by decide) ?_
          refine ga_59_ld (pc := 123) hx hb hV hw hF dX7_lay_123 (fun _ hF => ?_)
          refine gx_if_ge (pc := 124) (tgt := 131) hx hb hF dX7_lay_124 (by decide) (fun hF => ?_) (fun hF => ?_)
          · refine lv_iconst (pc := 131) (v := 0) hx hb dX7_lay_131 (by decide) ?_
            refine lv_istore (pc := 132) (lv' := [(5, .int 0), (4, .int uq_6), (0, .ref (G.2.1 58)), (1, .int x1), (2, .int x2), (3, .int x3)]) hx hb dX7_lay_132 hl (by decide) rfl (fun ls hl => ?_)
            refine lv_iload (pc := 134) hx hb dX7_lay_134 (lv_at hl 0 rfl) ?_
            refine gx_if_eq (pc := 136) (tgt := 146) hx hb hF dX7_lay_136 (by decide) (fun hF => ?_) (fun hF => ?_)
            · refine lv_aload_n (pc := 146) hx hb dX7_lay_146 rfl (lv_at hl 2 rfl) ?_
              refine gg_X7_0 (pc := 147) hx hb hown hV hw (gw_1018 hV) dX7_lay_147 ?_
              refine lv_bipush (pc := 150) (v := 45) hx hb dX7_lay_150 (by decide) ?_
              refine lv_iload_n (pc := 152) hx hb dX7_lay_152 rfl (lv_at hl 3 rfl) ?_
              refine lv_iadd (pc := 153) hx hb dX7_lay_153 ?_
              refine lv_iconst (pc := 154) (v := 4) hx hb dX7_lay_154 (by decide) ?_
              refine lv_iload_n (pc := 155) hx hb dX7_lay_155 rfl (lv_at hl 4 rfl) ?_
              refine lv_imul (pc := 156) hx hb dX7_lay_156 ?_
              refine lv_iload_n (pc := 157) hx hb dX7_lay_157 rfl (lv_at hl 5 rfl) ?_
              refine lv_iadd (pc := 158) hx hb dX7_lay_158 ?_
              refine ga_59_st (pc := 159) hx hb hV hw hF dX7_lay_159 (fun H locs hw hF => ?_)
              refine lv_aload_n (pc := 160) hx hb dX7_lay_160 rfl (lv_at hl 2 rfl) ?_
              refine gg_X7_0 (pc := 161) hx hb hown hV hw (gw_1018 hV) dX7_lay_161 ?_
              refine lv_iconst (pc := 164) (v := 3) hx hb dX7_lay_164 (by decide) ?_
              refine lv_dup2_11 (pc := 165) hx hb dX7_lay_165 rfl rfl ?_
              refine ga_59_ld (pc := 166) hx hb hV hw hF dX7_lay_166 (fun _ hF => ?_)
              refine lv_iconst (pc := 167) (v := 1) hx hb dX7_lay_167 (by decide) ?_
              refine lv_iadd (pc := 168) hx hb dX7_lay_168 ?_
              refine ga_59_st (pc := 169) hx hb hV hw hF dX7_lay_169 (fun H locs hw hF => ?_)
              refine lv_iload (pc := 170) hx hb dX7_lay_170 (lv_at hl 0 rfl) ?_
              refine gx_if_eq (pc := 172) (tgt := 179) hx hb hF dX7_lay_172 (by decide) (fun hF => ?_) (fun hF => ?_)
              · refine lv_iload (pc := 179) hx hb dX7_lay_179 (lv_at hl 1 rfl) ?_
                cases hF
                exact gx_iret hx hb hr hlocks hw dX7_lay_181
              refine lv_iconst (pc := 175) (v := 0) hx hb dX7_lay_175 (by decide) ?_
              refine lv_goto (pc := 176) (tgt := 181) hx hb dX7_lay_176 (by decide) ?_
              cases hF
              exact gx_iret hx hb hr hlocks hw dX7_lay_181
            refine lv_aload_n (pc := 139) hx hb dX7_lay_139 rfl (lv_at hl 2 rfl) ?_
            refine gg_X7_0 (pc := 140) hx hb hown hV hw (gw_1018 hV) dX7_lay_140 ?_
            refine lv_iconst (pc := 143) (v := 1) hx hb dX7_lay_143 (by decide) ?_
            refine lv_iload_n (pc := 144) hx hb dX7_lay_144 rfl (lv_at hl 3 rfl) ?_
            refine ga_59_st (pc := 145) hx hb hV hw hF dX7_lay_145 (fun H locs hw hF => ?_)
            refine lv_aload_n (pc := 146) hx hb dX7_lay_146 rfl (lv_at hl 2 rfl) ?_
            refine gg_X7_0 (pc := 147) hx hb hown hV hw (gw_1018 hV) dX7_lay_147 ?_
            refine lv_bipush (pc := 150) (v := 45) hx hb dX7_lay_150 (by decide) ?_
            refine lv_iload_n (pc := 152) hx hb dX7_lay_152 rfl (lv_at hl 3 rfl) ?_
            refine lv_iadd (pc := 153) hx hb dX7_lay_153 ?_
            refine lv_iconst (pc := 154) (v := 4) hx hb dX7_lay_154 (by decide) ?_
            refine lv_iload_n (pc := 155) hx hb dX7_lay_155 rfl (lv_at hl 4 rfl) ?_
            refine lv_imul (pc := 156) hx hb dX7_lay_156 ?_
            refine lv_iload_n (pc := 157) hx hb dX7_lay_157 rfl (lv_at hl 5 rfl) ?_
            refine lv_iadd (pc := 158) hx hb dX7_lay_158 ?_
            refine ga_59_st (pc := 159) hx hb hV hw hF dX7_lay_159 (fun H locs hw hF => ?_)
            refine lv_aload_n (pc := 160) hx hb dX7_lay_160 rfl (lv_at hl 2 rfl) ?_
            refine gg_X7_0 (pc := 161) hx hb hown hV hw (gw_1018 hV) dX7_lay_161 ?_
            refine lv_iconst (pc := 164) (v := 3) hx hb dX7_lay_164 (by decide) ?_
            refine lv_dup2_11 (pc := 165) hx hb dX7_lay_165 rfl rfl ?_
            refine ga_59_ld (pc := 166) hx hb hV hw hF dX7_lay_166 (fun _ hF => ?_)
            refine lv_iconst (pc := 167) (v := 1) hx hb dX7_lay_167 (by decide) ?_
            refine lv_iadd (pc := 168) hx hb dX7_lay_168 ?_
            refine ga_59_st (pc := 169) hx hb hV hw hF dX7_lay_169 (fun H locs hw hF => ?_)
            refine lv_iload (pc := 170) hx hb dX7_lay_170 (lv_at hl 0 rfl) ?_
            refine gx_if_eq (pc := 172) (tgt := 179) hx hb hF dX7_lay_172 (by decide) (fun hF => ?_) (fun hF => ?_)
            · refine lv_iload (pc := 179) hx hb dX7_lay_179 (lv_at hl 1 rfl) ?_
              cases hF
              exact gx_iret hx hb hr hlocks hw dX7_lay_181
            refine lv_iconst (pc := 175) (v := 0) hx hb dX7_lay_175 (by decide) ?_
            refine lv_goto (pc := 176) (tgt := 181) hx hb dX7_lay_176 (by decide) ?_
            cases hF
            exact gx_iret hx hb hr hlocks hw dX7_lay_181
          refine lv_iconst (pc := 127) (v := 1) hx hb dX7_lay_127 (by decide) ?_
          refine lv_goto (pc := 128) (tgt := 132) hx hb dX7_lay_128 (by decide) ?_
          refine lv_istore (pc := 132) (lv' := [(5, .int 1), (4, .int uq_6), (0, .ref (G.2.1 58)), (1, .int x1), (2, .int x2), (3, .int x3)]) hx hb dX7_lay_132 hl (by decide) rfl (fun ls hl => ?_)
          refine lv_iload (pc := 134) hx hb dX7_lay_134 (lv_at hl 0 rfl) ?_
          refine gx_if_eq (pc := 136) (tgt := 146) hx hb hF dX7_lay_136 (by decide) (fun hF => ?_) (fun hF => ?_)
          · refine lv_aload_n (pc := 146) hx hb dX7_lay_146 rfl (lv_at hl 2 rfl) ?_
            refine gg_X7_0 (pc := 147) hx hb hown hV hw (gw_1018 hV) dX7_lay_147 ?_
            refine lv_bipush (pc := 150) (v := 45) hx hb dX7_lay_150 (by decide) ?_
            refine lv_iload_n (pc := 152) hx hb dX7_lay_152 rfl (lv_at hl 3 rfl) ?_
            refine lv_iadd (pc := 153) hx hb dX7_lay_153 ?_
            refine lv_iconst (pc := 154) (v := 4) hx hb dX7_lay_154 (by decide) ?_
            refine lv_iload_n (pc := 155) hx hb dX7_lay_155 rfl (lv_at hl 4 rfl) ?_
            refine lv_imul (pc := 156) hx hb dX7_lay_156 ?_
            refine lv_iload_n (pc := 157) hx hb dX7_lay_157 rfl (lv_at hl 5 rfl) ?_
            refine lv_iadd (pc := 158) hx hb dX7_lay_158 ?_
            refine ga_59_st (pc := 159) hx hb hV hw hF dX7_lay_159 (fun H locs hw hF => ?_)
            refine lv_aload_n (pc := 160) hx hb dX7_lay_160 rfl (lv_at hl 2 rfl) ?_
            refine gg_X7_0 (pc := 161) hx hb hown hV hw (gw_1018 hV) dX7_lay_161 ?_
            refine lv_iconst (pc := 164) (v := 3) hx hb dX7_lay_164 (by decide) ?_
            refine lv_dup2_11 (pc := 165) hx hb dX7_lay_165 rfl rfl ?_
            refine ga_59_ld (pc := 166) hx hb hV hw hF dX7_lay_166 (fun _ hF => ?_)
            refine lv_iconst (pc := 167) (v := 1) hx hb dX7_lay_167 (by decide) ?_
            refine lv_iadd (pc := 168) hx hb dX7_lay_168 ?_
            refine ga_59_st (pc := 169) hx hb hV hw hF dX7_lay_169 (fun H locs hw hF => ?_)
            refine lv_iload (pc := 170) hx hb dX7_lay_170 (lv_at hl 0 rfl) ?_
            refine gx_if_eq (pc := 172) (tgt := 179) hx hb hF dX7_lay_172 (by decide) (fun hF => ?_) (fun hF => ?_)
            · refine lv_iload (pc := 179) hx hb dX7_lay_179 (lv_at hl 1 rfl) ?_
              cases hF
              exact gx_iret hx hb hr hlocks hw dX7_lay_181
            refine lv_iconst (pc := 175) (v := 0) hx hb dX7_lay_175 (by decide) ?_
            refine lv_goto (pc := 176) (tgt := 181) hx hb dX7_lay_176 (by decide) ?_
            cases hF
            exact gx_iret hx hb hr hlocks hw dX7_lay_181
          refine lv_aload_n (pc := 139) hx hb dX7_lay_139 rfl (lv_at hl 2 rfl) ?_
          refine gg_X7_0 (pc := 140) hx hb hown hV hw (gw_1018 hV) dX7_lay_140 ?_
          refine lv_iconst (pc := 143) (v := 1) hx hb dX7_lay_143 (by decide) ?_
          refine lv_iload_n (pc := 144) hx hb dX7_lay_144 rfl (lv_at hl 3 rfl) ?_
          refine ga_59_st (pc := 145) hx hb hV hw hF dX7_lay_145 (fun H locs hw hF => ?_)
          refine lv_aload_n (pc := 146) hx hb dX7_lay_146 rfl (lv_at hl 2 rfl) ?_
          refine gg_X7_0 (pc := 147) hx hb hown hV hw (gw_1018 hV) dX7_lay_147 ?_
          refine lv_bipush (pc := 150) (v := 45) hx hb dX7_lay_150 (by decide) ?_
          refine lv_iload_n (pc := 152) hx hb dX7_lay_152 rfl (lv_at hl 3 rfl) ?_
          refine lv_iadd (pc := 153) hx hb dX7_lay_153 ?_
          refine lv_iconst (pc := 154) (v := 4) hx hb dX7_lay_154 (by decide) ?_
          refine lv_iload_n (pc := 155) hx hb dX7_lay_155 rfl (lv_at hl 4 rfl) ?_
          refine lv_imul (pc := 156) hx hb dX7_lay_156 ?_
          refine lv_iload_n (pc := 157) hx hb dX7_lay_157 rfl (lv_at hl 5 rfl) ?_
          refine lv_iadd (pc := 158) hx hb dX7_lay_158 ?_
          refine ga_59_st (pc := 159) hx hb hV hw hF dX7_lay_159 (fun H locs hw hF => ?_)
          refine lv_aload_n (pc := 160) hx hb dX7_lay_160 rfl (lv_at hl 2 rfl) ?_
          refine gg_X7_0 (pc := 161) hx hb hown hV hw (gw_1018 hV) dX7_lay_161 ?_
          refine lv_iconst (pc := 164) (v := 3) hx hb dX7_lay_164 (by decide) ?_
          refine lv_dup2_11 (pc := 165) hx hb dX7_lay_165 rfl rfl ?_
          refine ga_59_ld (pc := 166) hx hb hV hw hF dX7_lay_166 (fun _ hF => ?_)
          refine lv_iconst (pc := 167) (v := 1) hx hb dX7_lay_167 (by decide) ?_
          refine lv_iadd (pc := 168) hx hb dX7_lay_168 ?_
          refine ga_59_st (pc := 169) hx hb hV hw hF dX7_lay_169 (fun H locs hw hF => ?_)
          refine lv_iload (pc := 170) hx hb dX7_lay_170 (lv_at hl 0 rfl) ?_
          refine gx_if_eq (pc := 172) (tgt := 179) hx hb hF dX7_lay_172 (by decide) (fun hF => ?_) (fun hF => ?_)
          · refine lv_iload (pc := 179) hx hb dX7_lay_179 (lv_at hl 1 rfl) ?_
            cases hF
            exact gx_iret hx hb hr hlocks hw dX7_lay_181
          refine lv_iconst (pc := 175) (v := 0) hx hb dX7_lay_175 (by decide) ?_
          refine lv_goto (pc := 176) (tgt := 181) hx hb dX7_lay_176 (by decide) ?_
          cases hF
          exact gx_iret hx hb hr hlocks hw dX7_lay_181
        refine lv_iload (pc := 84) hx hb dX7_lay_84 (lv_at hl 0 rfl) ?_
        refine lv_aload_n (pc := 86) hx hb dX7_lay_86 rfl (lv_at hl 1 rfl) ?_
        refine gg_X7_0 (pc := 87) hx hb hown hV hw (gw_1018 hV) dX7_lay_87 ?_
        refine lv_iconst (pc := 90) (v := 2) hx hb dX7_lay_90 (by decide) ?_
        refine ga_59_ld (pc := 91) hx hb hV hw hF dX7_lay_91 (fun _ hF => ?_)
        refine gx_icmp_ge (pc := 92) (tgt := 110) hx hb hF dX7_lay_92 (by decide) (fun hF => ?_) (fun hF => ?_)
        · refine lv_aload_n (pc := 110) hx hb dX7_lay_110 rfl (lv_at hl 1 rfl) ?_
          refine lv_aload_n (pc := 111) hx hb dX7_lay_111 rfl (lv_at hl 1 rfl) ?_
          refine gg_X7_0 (pc := 112) hx hb hown hV hw (gw_1018 hV) dX7_lay_112 ?_
          obtain ⟨uq_8, huq_8, hF⟩ := Option.bind_eq_some_iff.mp hF
          refine cl_X7_keeps (pc := 115) hx hb hml hown hV hw gx_a59 huq_8 (gw_1100 hV) hl.1 (Nat.le_of_ble_eq_true rfl) (Nat.le_of_ble_eq_true rfl) (Nat.le_of_ble_eq_true rfl) dX7_lay_115 (fun H locs hw => ?_)
          refine lv_aload_n (pc := 118) hx hb dX7_lay_118 rfl (lv_at hl 1 rfl) ?_
          refine gg_X7_0 (pc := 119) hx hb hown hV hw (gw_1018 hV) dX7_lay_119 ?_
          refine lv_iconst (pc := 122) (v := 1) hx hb dX7_lay_122 (by decide) ?_
          refine ga_59_ld (pc := 123) hx hb hV hw hF dX7_lay_123 (fun _ hF => ?_)
          refine gx_if_ge (pc := 124) (tgt := 131) hx hb hF dX7_lay_124 (by decide) (fun hF => ?_) (fun hF => ?_)
          · refine lv_iconst (pc := 131) (v := 0) hx hb dX7_lay_131 (by decide) ?_
            refine lv_istore (pc := 132) (lv' := [(5, .int 0), (4, .int uq_6), (0, .ref (G.2.1 58)), (1, .int x1), (2, .int x2), (3, .int x3)]) hx hb dX7_lay_132 hl (by decide) rfl (fun ls hl => ?_)
            refine lv_iload (pc := 134) hx hb dX7_lay_134 (lv_at hl 0 rfl) ?_
            refine gx_if_eq (pc := 136) (tgt := 146) hx hb hF dX7_lay_136 (by decide) (fun hF => ?_) (fun hF => ?_)
            · refine lv_aload_n (pc := 146) hx hb dX7_lay_146 rfl (lv_at hl 2 rfl) ?_
              refine gg_X7_0 (pc := 147) hx hb hown hV hw (gw_1018 hV) dX7_lay_147 ?_
              refine lv_bipush (pc := 150) (v := 45) hx hb dX7_lay_150 (by decide) ?_
              refine lv_iload_n (pc := 152) hx hb dX7_lay_152 rfl (lv_at hl 3 rfl) ?_
              refine lv_iadd (pc := 153) hx hb dX7_lay_153 ?_
              refine lv_iconst (pc := 154) (v := 4) hx hb dX7_lay_154 (by decide) ?_
              refine lv_iload_n (pc := 155) hx hb dX7_lay_155 rfl (lv_at hl 4 rfl) ?_
              refine lv_imul (pc := 156) hx hb dX7_lay_156 ?_
              refine lv_iload_n (pc := 157) hx hb dX7_lay_157 rfl (lv_at hl 5 rfl) ?_
              refine lv_iadd (pc := 158) hx hb dX7_lay_158 ?_
              refine ga_59_st (pc := 159) hx hb hV hw hF dX7_lay_159 (fun H locs hw hF => ?_)
              refine lv_aload_n (pc := 160) hx hb dX7_lay_160 rfl (lv_at hl 2 rfl) ?_
              refine gg_X7_0 (pc := 161) hx hb hown hV hw (gw_1018 hV) dX7_lay_161 ?_
              refine lv_iconst (pc := 164) (v := 3) hx hb dX7_lay_164 (by decide) ?_
              refine lv_dup2_11 (pc := 165) hx hb dX7_lay_165 rfl rfl ?_
              refine ga_59_ld (pc := 166) hx hb hV hw hF dX7_lay_166 (fun _ hF => ?_)
              refine lv_iconst (pc := 167) (v := 1) hx hb dX7_lay_167 (by decide) ?_
              refine lv_iadd (pc := 168) hx hb dX7_lay_168 ?_
              refine ga_59_st (pc := 169) hx hb hV hw hF dX7_lay_169 (fun H locs hw hF => ?_)
              refine lv_iload (pc := 170) hx hb dX7_lay_170 (lv_at hl 0 rfl) ?_
              refine gx_if_eq (pc := 172) (tgt := 179) hx hb hF dX7_lay_172 (by decide) (fun hF => ?_) (fun hF => ?_)
              · refine lv_iload (pc := 179) hx hb dX7_lay_179 (lv_at hl 1 rfl) ?_
                cases hF
                exact gx_iret hx hb hr hlocks hw dX7_lay_181
              refine lv_iconst (pc := 175) (v := 0) hx hb dX7_lay_175 (by decide) ?_
              refine lv_goto (pc := 176) (tgt := 181) hx hb dX7_lay_176 (by decide) ?_
              cases hF
              exact gx_iret hx hb hr hlocks hw dX7_lay_181
            refine lv_aload_n (pc := 139) hx hb dX7_lay_139 rfl (lv_at hl 2 rfl) ?_
            refine gg_X7_0 (pc := 140) hx hb hown hV hw (gw_1018 hV) dX7_lay_140 ?_
            refine lv_iconst (pc := 143) (v := 1) hx hb dX7_lay_143 (by decide) ?_
            refine lv_iload_n (pc := 144) hx hb dX7_lay_144 rfl (lv_at hl 3 rfl) ?_
            refine ga_59_st (pc := 145) hx hb hV hw hF dX7_lay_145 (fun H locs hw hF => ?_)
            refine lv_aload_n (pc := 146) hx hb dX7_lay_146 rfl (lv_at hl 2 rfl) ?_
            refine gg_X7_0 (pc := 147) hx hb hown hV hw (gw_1018 hV) dX7_lay_147 ?_
            refine lv_bipush (pc := 150) (v := 45) hx hb dX7_lay_150 (by decide) ?_
            refine lv_iload_n (pc := 152) hx hb dX7_lay_152 rfl (lv_at hl 3 rfl) ?_
            refine lv_iadd (pc := 153) hx hb dX7_lay_153 ?_
            refine lv_iconst (pc := 154) (v := 4) hx hb dX7_lay_154 (by decide) ?_
            refine lv_iload_n (pc := 155) hx hb dX7_lay_155 rfl (lv_at hl 4 rfl) ?_
            refine lv_imul (pc := 156) hx hb dX7_lay_156 ?_
            refine lv_iload_n (pc := 157) hx hb dX7_lay_157 rfl (lv_at hl 5 rfl) ?_
            refine lv_iadd (pc := 158) hx hb dX7_lay_158 ?_
            refine ga_59_st (pc := 159) hx hb hV hw hF dX7_lay_159 (fun H locs hw hF => ?_)
            refine lv_aload_n (pc := 160) hx hb dX7_lay_160 rfl (lv_at hl 2 rfl) ?_
            refine gg_X7_0 (pc := 161) hx hb hown hV hw (gw_1018 hV) dX7_lay_161 ?_
            refine lv_iconst (pc := 164) (v := 3) hx hb dX7_lay_164 (by decide) ?_
            refine lv_dup2_11 (pc := 165) hx hb dX7_lay_165 rfl rfl ?_
            refine ga_59_ld (pc := 166) hx hb hV hw hF dX7_lay_166 (fun _ hF => ?_)
            refine lv_iconst (pc := 167) (v := 1) hx hb dX7_lay_167 (by decide) ?_
            refine lv_iadd (pc := 168) hx hb dX7_lay_168 ?_
            refine ga_59_st (pc := 169) hx hb hV hw hF dX7_lay_169 (fun H locs hw hF => ?_)
            refine lv_iload (pc := 170) hx hb dX7_lay_170 (lv_at hl 0 rfl) ?_
            refine gx_if_eq (pc := 172) (tgt := 179) hx hb hF dX7_lay_172 (by decide) (fun hF => ?_) (fun hF => ?_)
            · refine lv_iload (pc := 179) hx hb dX7_lay_179 (lv_at hl 1 rfl) ?_
              cases hF
              exact gx_iret hx hb hr hlocks hw dX7_lay_181
            refine lv_iconst (pc := 175) (v := 0) hx hb dX7_lay_175 (by decide) ?_
            refine lv_goto (pc := 176) (tgt := 181) hx hb dX7_lay_176 (by decide) ?_
            cases hF
            exact gx_iret hx hb hr hlocks hw dX7_lay_181
          refine lv_iconst (pc := 127) (v := 1) hx hb dX7_lay_127 (by decide) ?_
          refine lv_goto (pc := 128) (tgt := 132) hx hb dX7_lay_128 (by decide) ?_
          refine lv_istore (pc := 132) (lv' := [(5, .int 1), (4, .int uq_6), (0, .ref (G.2.1 58)), (1, .int x1), (2, .int x2), (3, .int x3)]) hx hb dX7_lay_132 hl (by decide) rfl (fun ls hl => ?_)
          refine lv_iload (pc := 134) hx hb dX7_lay_134 (lv_at hl 0 rfl) ?_
          refine gx_if_eq (pc := 136) (tgt := 146) hx hb hF dX7_lay_136 (by decide) (fun hF => ?_) (fun hF => ?_)
          · refine lv_aload_n (pc := 146) hx hb dX7_lay_146 rfl (lv_at hl 2 rfl) ?_
            refine gg_X7_0 (pc := 147) hx hb hown hV hw (gw_1018 hV) dX7_lay_147 ?_
            refine lv_bipush (pc := 150) (v := 45) hx hb dX7_lay_150 (by decide) ?_
            refine lv_iload_n (pc := 152) hx hb dX7_lay_152 rfl (lv_at hl 3 rfl) ?_
            refine lv_iadd (pc := 153) hx hb dX7_lay_153 ?_
            refine lv_iconst (pc := 154) (v := 4) hx hb dX7_lay_154 (by decide) ?_
            refine lv_iload_n (pc := 155) hx hb dX7_lay_155 rfl (lv_at hl 4 rfl) ?_
            refine lv_imul (pc := 156) hx hb dX7_lay_156 ?_
            refine lv_iload_n (pc := 157) hx hb dX7_lay_157 rfl (lv_at hl 5 rfl) ?_
            refine lv_iadd (pc := 158) hx hb dX7_lay_158 ?_
            refine ga_59_st (pc := 159) hx hb hV hw hF dX7_lay_159 (fun H locs hw hF => ?_)
            refine lv_aload_n (pc := 160) hx hb dX7_lay_160 rfl (lv_at hl 2 rfl) ?_
            refine gg_X7_0 (pc := 161) hx hb hown hV hw (gw_1018 hV) dX7_lay_161 ?_
            refine lv_iconst (pc := 164) (v := 3) hx hb dX7_lay_164 (by decide) ?_
            refine lv_dup2_11 (pc := 165) hx hb dX7_lay_165 rfl rfl ?_
            refine ga_59_ld (pc := 166) hx hb hV hw hF dX7_lay_166 (fun _ hF => ?_)
            refine lv_iconst (pc := 167) (v := 1) hx hb dX7_lay_167 (by decide) ?_
            refine lv_iadd (pc := 168) hx hb dX7_lay_168 ?_
            refine ga_59_st (pc := 169) hx hb hV hw hF dX7_lay_169 (fun H locs hw hF => ?_)
            refine lv_iload (pc := 170) hx hb dX7_lay_170 (lv_at hl 0 rfl) ?_
            refine gx_if_eq (pc := 172) (tgt := 179) hx hb hF dX7_lay_172 (by decide) (fun hF => ?_) (fun hF => ?_)
            · refine lv_iload (pc := 179) hx hb dX7_lay_179 (lv_at hl 1 rfl) ?_
              cases hF
              exact gx_iret hx hb hr hlocks hw dX7_lay_181
            refine lv_iconst (pc := 175) (v := 0) hx hb dX7_lay_175 (by decide) ?_
            refine lv_goto (pc := 176) (tgt := 181) hx hb dX7_lay_176 (by decide) ?_
            cases hF
            exact gx_iret hx hb hr hlocks hw dX7_lay_181
          refine lv_aload_n (pc := 139) hx hb dX7_lay_139 rfl (lv_at hl 2 rfl) ?_
          refine gg_X7_0 (pc := 140) hx hb hown hV hw (gw_1018 hV) dX7_lay_140 ?_
          refine lv_iconst (pc := 143) (v := 1) hx hb dX7_lay_143 (by decide) ?_
          refine lv_iload_n (pc := 144) hx hb dX7_lay_144 rfl (lv_at hl 3 rfl) ?_
          refine ga_59_st (pc := 145) hx hb hV hw hF dX7_lay_145 (fun H locs hw hF => ?_)
          refine lv_aload_n (pc := 146) hx hb dX7_lay_146 rfl (lv_at hl 2 rfl) ?_
          refine gg_X7_0 (pc := 147) hx hb hown hV hw (gw_1018 hV) dX7_lay_147 ?_
          refine lv_bipush (pc := 150) (v := 45) hx hb dX7_lay_150 (by decide) ?_
          refine lv_iload_n (pc := 152) hx hb dX7_lay_152 rfl (lv_at hl 3 rfl) ?_
          refine lv_iadd (pc := 153) hx hb dX7_lay_153 ?_
          refine lv_iconst (pc := 154) (v := 4) hx hb dX7_lay_154 (by decide) ?_
          refine lv_iload_n (pc := 155) hx hb dX7_lay_155 rfl (lv_at hl 4 rfl) ?_
          refine lv_imul (pc := 156) hx hb dX7_lay_156 ?_
          refine lv_iload_n (pc := 157) hx hb dX7_lay_157 rfl (lv_at hl 5 rfl) ?_
          refine lv_iadd (pc := 158) hx hb dX7_lay_158 ?_
          refine ga_59_st (pc := 159) hx hb hV hw hF dX7_lay_159 (fun H locs hw hF => ?_)
          refine lv_aload_n (pc := 160) hx hb dX7_lay_160 rfl (lv_at hl 2 rfl) ?_
          refine gg_X7_0 (pc := 161) hx hb hown hV hw (gw_1018 hV) dX7_lay_161 ?_
          refine lv_iconst (pc := 164) (v := 3) hx hb dX7_lay_164 (by decide) ?_
          refine lv_dup2_11 (pc := 165) hx hb dX7_lay_165 rfl rfl ?_
          refine ga_59_ld (pc := 166) hx hb hV hw hF dX7_lay_166 (fun _ hF => ?_)
          refine lv_iconst (pc := 167) (v := 1) hx hb dX7_lay_167 (by decide) ?_
          refine lv_iadd (pc := 168) hx hb dX7_lay_168 ?_
          refine ga_59_st (pc := 169) hx hb hV hw hF dX7_lay_169 (fun H locs hw hF => ?_)
          refine lv_iload (pc := 170) hx hb dX7_lay_170 (lv_at hl 0 rfl) ?_
          refine gx_if_eq (pc := 172) (tgt := 179) hx hb hF dX7_lay_172 (by decide) (fun hF => ?_) (fun hF => ?_)
          · refine lv_iload (pc := 179) hx hb dX7_lay_179 (lv_at hl 1 rfl) ?_
            cases hF
            exact gx_iret hx hb hr hlocks hw dX7_lay_181
          refine lv_iconst (pc := 175) (v := 0) hx hb dX7_lay_175 (by decide) ?_
          refine lv_goto (pc := 176) (tgt := 181) hx hb dX7_lay_176 (by decide) ?_
          cases hF
          exact gx_iret hx hb hr hlocks hw dX7_lay_181
        refine lv_aload_n (pc := 95) hx hb dX7_lay_95 rfl (lv_at hl 1 rfl) ?_
        refine lv_iconst (pc := 96) (v := 5) hx hb dX7_lay_96 (by decide) ?_
        refine lv_aload_n (pc := 97) hx hb dX7_lay_97 rfl (lv_at hl 1 rfl) ?_
        refine gg_X7_0 (pc := 98) hx hb hown hV hw (gw_1018 hV) dX7_lay_98 ?_
        refine lv_iconst (pc := 101) (v := 2) hx hb dX7_lay_101 (by decide) ?_
        refine ga_59_ld (pc := 102) hx hb hV hw hF dX7_lay_102 (fun _ hF => ?_)
        refine lv_iload (pc := 103) hx hb dX7_lay_103 (lv_at hl 0 rfl) ?_
        refine lv_isub (pc := 105) hx hb dX7_lay_105 ?_
        obtain ⟨uq_9, huq_9, hF⟩ := Option.bind_eq_some_iff.mp hF
        refine cl_X7_refuses (pc := 106) hx hb hml hown hV hw huq_9 (gw_1096 hV) hl.1 (Nat.le_of_ble_eq_true rfl) (Nat.le_of_ble_eq_true rfl) (Nat.le_of_ble_eq_true rfl) dX7_lay_106 (fun H locs hw => ?_)
        cases hF
        exact gx_iret hx hb hr hlocks hw dX7_lay_109
      refine lv_aload_n (pc := 46) hx hb dX7_lay_46 rfl (lv_at hl 0 rfl) ?_
      refine lv_iconst (pc := 47) (v := 4) hx hb dX7_lay_47 (by decide) ?_
      refine lv_aload_n (pc := 48) hx hb dX7_lay_48 rfl (lv_at hl 0 rfl) ?_
      refine gg_X7_0 (pc := 49) hx hb hown hV hw (gw_1018 hV) dX7_lay_49 ?_
      refine lv_bipush (pc := 52) (v := 45) hx hb dX7_lay_52 (by decide) ?_
      refine lv_iload_n (pc := 54) hx hb dX7_lay_54 rfl (lv_at hl 1 rfl) ?_
      refine lv_iadd (pc := 55) hx hb dX7_lay_55 ?_
      refine ga_59_ld (pc := 56) hx hb hV hw hF dX7_lay_56 (fun _ hF => ?_)
      refine lv_iconst (pc := 57) (v := 4) hx hb dX7_lay_57 (by decide) ?_
      refine lv_idiv (pc := 58) hx hb dX7_lay_58 (by decide) ?_
      obtain ⟨uq_10, huq_10, hF⟩ := Option.bind_eq_some_iff.mp hF
      refine cl_X7_refuses (pc := 59) hx hb hml hown hV hw huq_10 (gw_1096 hV) hl.1 (Nat.le_of_ble_eq_true rfl) (Nat.le_of_ble_eq_true rfl) (Nat.le_of_ble_eq_true rfl) dX7_lay_59 (fun H locs hw => ?_)
      cases hF
      exact gx_iret hx hb hr hlocks hw dX7_lay_62
    refine lv_aload_n (pc := 31) hx hb dX7_lay_31 rfl (lv_at hl 0 rfl) ?_
    refine lv_iconst (pc := 32) (v := 3) hx hb dX7_lay_32 (by decide) ?_
    refine lv_iload_n (pc := 33) hx hb dX7_lay_33 rfl (lv_at hl 2 rfl) ?_
    obtain ⟨uq_11, huq_11, hF⟩ := Option.bind_eq_some_iff.mp hF
    refine cl_X7_refuses (pc := 34) hx hb hml hown hV hw huq_11 (gw_1096 hV) hl.1 (Nat.le_of_ble_eq_true rfl) (Nat.le_of_ble_eq_true rfl) (Nat.le_of_ble_eq_true rfl) dX7_lay_34 (fun H locs hw => ?_)
    cases hF
    exact gx_iret hx hb hr hlocks hw dX7_lay_37
  refine lv_aload_n (pc := 16) hx hb dX7_lay_16 rfl (lv_at hl 0 rfl) ?_
  refine lv_iconst (pc := 17) (v := 1) hx hb dX7_lay_17 (by decide) ?_
  refine lv_iconst (pc := 18) (v := 0) hx hb dX7_lay_18 (by decide) ?_
  obtain ⟨uq_12, huq_12, hF⟩ := Option.bind_eq_some_iff.mp hF
  refine cl_X7_refuses (pc := 19) hx hb hml hown hV hw huq_12 (gw_1096 hV) hl.1 (Nat.le_of_ble_eq_true rfl) (Nat.le_of_ble_eq_true rfl) (Nat.le_of_ble_eq_true rfl) dX7_lay_19 (fun H locs hw => ?_)
  cases hF
  exact gx_iret hx hb hr hlocks hw dX7_lay_22
set_option maxRecDepth 100000 in
theorem cl_X7_lay {l : Launch} {G : gx_G} {C : gx_S} {o : Int64} {d : UInt64} {I V : gx_F} {p : Program} {e : Env} {R : Room} {s : State} {m : MethodId} {args : Array Value} {below : List Frame} {meth : Method} {c : Code} {H : Heap} {locs : List Loc} {cells slots : Nat} {Q : State → Prop} {cc : ByteArray} {pc nL index : Nat} {ls : Array Slot} {rest : List Value} {own : String} {x1 : Int32} {x2 : Int32} {x3 : Int32} {out : (Int32 × gx_F × gx_F)} (hx : p.tables.exec = Jvm.exec) (hb : c.code = cc) (hml : c.maxLocals = nL) (hown : s.vm.findClass own = some m.cls) (hV : gx_V G s) (hw : gx_at G C (I, V) o d s.heap H locs) (hF : f_X7_lay x1 x2 x3 I V = some out) (hlink : (Cond.methodLink own index yX7_lay).before args s = true) (hsz : ls.size = nL) (hfr : 4 ≤ R.frames) (hlo : 96 ≤ R.locals) (hrest : (rest.map fun v => v.category).sum ≤ 8) (hdg : decode cc pc = .ok (.invokevirtual index, 3))
    (kk : ∀ (H1 : Heap) (locs1 : List Loc), gx_at G C (out.2.1, out.2.2) o d s.heap H1 locs1 → W p l e R s m args below meth c H1 locs1 cells slots Q (F0 m (pc + 3) ls (.int out.1 :: rest))) (hc : cells ≤ R.cells := by exact Nat.zero_le _) (hs : slots ≤ R.slots := by exact Nat.zero_le _) : W p l e R s m args below meth c H locs cells slots Q (F0 m pc ls (.int x3 :: .int x2 :: .int x1 :: .ref (G.2.1 58) :: rest)) :=
  gx_runi hw (va_runV (C := RX7) (As := [.int x1, .int x2, .int x3]) (rest := rest) ⟨hx, hb, hml, hown, (fun _ h => nomatch h : ∀ w ∈ ([] : List Cond), w.before args s = true)⟩ (k_X7_lay hF) ⟨gx_callB (n := 3) rfl rfl hlink (gw_56 hV) (gw_1110 hV) (by decide +kernel) ⟨hfr, hlo⟩, gw_1108 hV, gw_1109 hV⟩ (gx_recv (k := 58) (ci := 9) (T := TX7) hV hw (by decide) rfl rfl) rfl rfl hsz rfl (lv_room hrest) hdg ⟨hc, hs⟩) kk
set_option maxHeartbeats 4000000 in
set_option maxRecDepth 100000 in
theorem k_X7_takeOut {l : Launch} {G : gx_G} {C : gx_S} {o : Int64} {d : UInt64} {I V : gx_F} {x1 : Int32} {out : (Int32 × gx_F × gx_F)} (hF : f_X7_takeOut x1 I V = some out) : gx_K l yX7_takeOut cX7_takeOut 4 (some .int) { frames := 4, cells := 0, slots := 0, locals := 96 } [.ref (G.2.1 58), .int x1] G C (I, V) o d (gx_Qi G out.1 C (out.2.1, out.2.2) o d) 0 0 := by
  refine gx_begin (by decide +kernel) (Nat.le_of_ble_eq_true rfl) ?_
  intro p e s m below meth c hx hb hr hml hown hlocks hV hw ls hl
  have hown : s.vm.findClass RX7 = some m.cls := hown
  have hl : lv_has ls 4 [(0, .ref (G.2.1 58)), (1, .int x1)] := hl
  unfold f_X7_takeOut at hF
  refine lv_iload_n (pc := 0) hx hb dX7_takeOut_0 rfl (lv_at hl 1 rfl) ?_
  obtain ⟨uq_1, huq_1, hF⟩ := Option.bind_eq_some_iff.mp hF
  refine cl_X7_isPlace (pc := 1) hx hb hml hown hV hw huq_1 (gw_1111 hV) hl.1 (Nat.le_of_ble_eq_true rfl) (Nat.le_of_ble_eq_true rfl) (Nat.le_of_ble_eq_true rfl) dX7_takeOut_1 (fun H locs hw => ?_)
  refine gx_if_ne (pc := 4) (tgt := 14) hx hb hF dX7_takeOut_4 (by decide) (fun hF => ?_) (fun hF => ?_)
  · refine lv_aload_n (pc := 14) hx hb dX7_takeOut_14 rfl (lv_at hl 0 rfl) ?_
    refine lv_iload_n (pc := 15) hx hb dX7_takeOut_15 rfl (lv_at hl 1 rfl) ?_
    obtain ⟨uq_2, huq_2, hF⟩ := Option.bind_eq_some_iff.mp hF
    refine cl_X7_isFree (pc := 16) hx hb hml hown hV hw huq_2 (gw_1118 hV) hl.1 (Nat.le_of_ble_eq_true rfl) (Nat.le_of_ble_eq_true rfl) (Nat.le_of_ble_eq_true rfl) dX7_takeOut_16 (fun H locs hw => ?_)
    refine gx_if_eq (pc := 19) (tgt := 30) hx hb hF dX7_takeOut_19 (by decide) (fun hF => ?_) (fun hF => ?_)
    · refine lv_aload_n (pc := 30) hx hb dX7_takeOut_30 rfl (lv_at hl 0 rfl) ?_
      refine lv_iload_n (pc := 31) hx hb dX7_takeOut_31 rfl (lv_at hl 1 rfl) ?_
      obtain ⟨uq_3, huq_3, hF⟩ := Option.bind_eq_some_iff.mp hF
      refine cl_X7_fallsBy (pc := 32) hx hb hml hown hV hw huq_3 (gw_1141 hV) hl.1 (Nat.le_of_ble_eq_true rfl) (Nat.le_of_ble_eq_true rfl) (Nat.le_of_ble_eq_true rfl) dX7_takeOut_32 (fun H locs hw => ?_)
      refine lv_istore_n (pc := 35) (lv' := [(2, .int uq_3.1), (0, .ref (G.2.1 58)), (1, .int x1)]) hx hb dX7_takeOut_35 rfl hl (by decide) rfl (fun ls hl => ?_)
      refine lv_iload_n (pc := 36) hx hb dX7_takeOut_36 rfl (lv_at hl 0 rfl) ?_
      refine gx_if_le (pc := 37) (tgt := 48) hx hb hF dX7_takeOut_37 (by decide) (fun hF => ?_) (fun hF => ?_)
      · refine lv_aload_n (pc := 48) hx hb dX7_takeOut_48 rfl (lv_at hl 1 rfl) ?_
        refine lv_aload_n (pc := 49) hx hb dX7_takeOut_49 rfl (lv_at hl 1 rfl) ?_
        refine gg_X7_0 (pc := 50) hx hb hown hV hw (gw_1018 hV) dX7_takeOut_50 ?_
        obtain ⟨uq_4, huq_4, hF⟩ := Option.bind_eq_some_iff.mp hF
        refine cl_X7_keeps (pc := 53) hx hb hml hown hV hw gx_a59 huq_4 (gw_1100 hV) hl.1 (Nat.le_of_ble_eq_true rfl) (Nat.le_of_ble_eq_true rfl) (Nat.le_of_ble_eq_true rfl) dX7_takeOut_53 (fun H locs hw => ?_)
        refine lv_aload_n (pc := 56) hx hb dX7_takeOut_56 rfl (lv_at hl 1 rfl) ?_
        refine gg_X7_0 (pc := 57) hx hb hown hV hw (gw_1018 hV) dX7_takeOut_57 ?_
        refine lv_bipush (pc := 60) (v := 45) hx hb dX7_takeOut_60 (by decide) ?_
        refine lv_iload_n (pc := 62) hx hb dX7_takeOut_62 rfl (lv_at hl 2 rfl) ?_
        refine lv_iadd (pc := 63) hx hb dX7_takeOut_63 ?_
        refine ga_59_ld (pc := 64) hx hb hV hw hF dX7_takeOut_64 (fun _ hF => ?_)
        refine lv_iconst (pc := 65) (v := 4) hx hb dX7_takeOut_65 (by decide) ?_
        refine lv_idiv (pc := 66) hx hb dX7_takeOut_66 (by decide) ?_
        refine lv_istore_n (pc := 67) (lv' := [(3, .int ((uq_4.2 59 (45 + x1).toNatClampNeg) / 4)), (2, .int uq_3.1), (0, .ref (G.2.1 58)), (1, .int x1)]) hx hb dX7_takeOut_67 rfl hl (by decide) rfl (fun ls hl => ?_)
        refine lv_iload_n (pc := 68) hx hb dX7_takeOut_68 rfl (lv_at hl 3 rfl) ?_
        refine lv_aload_n (pc := 69) hx hb dX7_takeOut_69 rfl (lv_at hl 2 rfl) ?_
        refine gg_X7_0 (pc := 70) hx hb hown hV hw (gw_1018 hV) dX7_takeOut_70 ?_
        refine lv_iconst (pc := 73) (v := 1) hx hb dX7_takeOut_73 (by decide) ?_
        refine ga_59_ld (pc := 74) hx hb hV hw hF dX7_takeOut_74 (fun _ hF => ?_)
        refine gx_icmp_ne (pc := 75) (tgt := 85) hx hb hF dX7_takeOut_75 (by decide) (fun hF => ?_) (fun hF => ?_)
        · refine lv_aload_n (pc := 85) hx hb dX7_takeOut_85 rfl (lv_at hl 2 rfl) ?_
          refine gg_X7_0 (pc := 86) hx hb hown hV hw (gw_1018 hV) dX7_takeOut_86 ?_
          refine lv_bipush (pc := 89) (v := 45) hx hb dX7_takeOut_89 (by decide) ?_
          refine lv_iload_n (pc := 91) hx hb dX7_takeOut_91 rfl (lv_at hl 3 rfl) ?_
          refine lv_iadd (pc := 92) hx hb dX7_takeOut_92 ?_
          refine lv_iconst (pc := 93) (v := (-1)) hx hb dX7_takeOut_93 (by decide) ?_
          refine ga_59_st (pc := 94) hx hb hV hw hF dX7_takeOut_94 (fun H locs hw hF => ?_)
          refine lv_aload_n (pc := 95) hx hb dX7_takeOut_95 rfl (lv_at hl 2 rfl) ?_
          refine gg_X7_0 (pc := 96) hx hb hown hV hw (gw_1018 hV) dX7_takeOut_96 ?_
          refine lv_iconst (pc := 99) (v := 5) hx hb dX7_takeOut_99 (by decide) ?_
          refine lv_dup2_11 (pc := 100) hx hb dX7_takeOut_100 rfl rfl ?_
          refine ga_59_ld (pc := 101) hx hb hV hw hF dX7_takeOut_101 (fun _ hF => ?_)
          refine lv_iconst (pc := 102) (v := 1) hx hb dX7_takeOut_102 (by decide) ?_
          refine lv_iadd (pc := 103) hx hb dX7_takeOut_103 ?_
          refine ga_59_st (pc := 104) hx hb hV hw hF dX7_takeOut_104 (fun H locs hw hF => ?_)
          refine lv_iload_n (pc := 105) hx hb dX7_takeOut_105 rfl (lv_at hl 0 rfl) ?_
          cases hF
          exact gx_iret hx hb hr hlocks hw dX7_takeOut_106
        refine lv_aload_n (pc := 78) hx hb dX7_takeOut_78 rfl (lv_at hl 2 rfl) ?_
        refine gg_X7_0 (pc := 79) hx hb hown hV hw (gw_1018 hV) dX7_takeOut_79 ?_
        refine lv_iconst (pc := 82) (v := 1) hx hb dX7_takeOut_82 (by decide) ?_
        refine lv_iconst (pc := 83) (v := (-1)) hx hb dX7_takeOut_83 (by decide) ?_
        refine ga_59_st (pc := 84) hx hb hV hw hF dX7_takeOut_84 (fun H locs hw hF => ?_)
        refine lv_aload_n (pc := 85) hx hb dX7_takeOut_85 rfl (lv_at hl 2 rfl) ?_
        refine gg_X7_0 (pc := 86) hx hb hown hV hw (gw_1018 hV) dX7_takeOut_86 ?_
        refine lv_bipush (pc := 89) (v := 45) hx hb dX7_takeOut_89 (by decide) ?_
        refine lv_iload_n (pc := 91) hx hb dX7_takeOut_91 rfl (lv_at hl 3 rfl) ?_
        refine lv_iadd (pc := 92) hx hb dX7_takeOut_92 ?_
        refine lv_iconst (pc := 93) (v := (-1)) hx hb dX7_takeOut_93 (by decide) ?_
        refine ga_59_st (pc := 94) hx hb hV hw hF dX7_takeOut_94 (fun H locs hw hF => ?_)
        refine lv_aload_n (pc := 95) hx hb dX7_takeOut_95 rfl (lv_at hl 2 rfl) ?_
        refine gg_X7_0 (pc := 96) hx hb hown hV hw (gw_1018 hV) dX7_takeOut_96 ?_
        refine lv_iconst (pc := 99) (v := 5) hx hb dX7_takeOut_99 (by decide) ?_
        refine lv_dup2_11 (pc := 100) hx hb dX7_takeOut_100 rfl rfl ?_
        refine ga_59_ld (pc := 101) hx hb hV hw hF dX7_takeOut_101 (fun _ hF => ?_)
        refine lv_iconst (pc := 102) (v := 1) hx hb dX7_takeOut_102 (by decide) ?_
        refine lv_iadd (pc := 103) hx hb dX7_takeOut_103 ?_
        refine ga_59_st (pc := 104) hx hb hV hw hF dX7_takeOut_104 (fun H locs hw hF => ?_)
        refine lv_iload_n (pc := 105) hx hb dX7_takeOut_105 rfl (lv_at hl 0 rfl) ?_
        cases hF
        exact gx_iret hx hb hr hlocks hw dX7_takeOut_106
      refine lv_aload_n (pc := 40) hx hb dX7_takeOut_40 rfl (lv_at hl 1 rfl) ?_
      refine lv_bipush (pc := 41) (v := 7) hx hb dX7_takeOut_41 (by decide) ?_
      refine lv_iload_n (pc := 43) hx hb dX7_takeOut_43 rfl (lv_at hl 0 rfl) ?_
      obtain ⟨uq_5, huq_5, hF⟩ := Option.bind_eq_some_iff.mp hF
      refine cl_X7_refuses (pc := 44) hx hb hml hown hV hw huq_5 (gw_1096 hV) hl.1 (Nat.le_of_ble_eq_true rfl) (Nat.le_of_ble_eq_true rfl) (Nat.le_of_ble_eq_true rfl) dX7_takeOut_44 (fun H locs hw => ?_)
      cases hF
      exact gx_iret hx hb hr hlocks hw dX7_takeOut_47
    refine lv_aload_n (pc := 22) hx hb dX7_takeOut_22 rfl (lv_at hl 0 rfl) ?_
    refine lv_bipush (pc := 23) (v := 6) hx hb dX7_takeOut_23 (by decide) ?_
    refine lv_iload_n (pc := 25) hx hb dX7_takeOut_25 rfl (lv_at hl 1 rfl) ?_
    obtain ⟨uq_6, huq_6, hF⟩ := Option.bind_eq_some_iff.mp hF
    refine cl_X7_refuses (pc := 26) hx hb hml hown hV hw huq_6 (gw_1096 hV) hl.1 (Nat.le_of_ble_eq_true rfl) (Nat.le_of_ble_eq_true rfl) (Nat.le_of_ble_eq_true rfl) dX7_takeOut_26 (fun H locs hw => ?_)
    cases hF
    exact gx_iret hx hb hr hlocks hw dX7_takeOut_29
  refine lv_aload_n (pc := 7) hx hb dX7_takeOut_7 rfl (lv_at hl 0 rfl) ?_
  refine lv_iconst (pc := 8) (v := 1) hx hb dX7_takeOut_8 (by decide) ?_
  refine lv_iconst (pc := 9) (v := 0) hx hb dX7_takeOut_9 (by decide) ?_
  obtain ⟨uq_7, huq_7, hF⟩ := Option.bind_eq_some_iff.mp hF
  refine cl_X7_refuses (pc := 10) hx hb hml hown hV hw huq_7 (gw_1096 hV) hl.1 (Nat.le_of_ble_eq_true rfl) (Nat.le_of_ble_eq_true rfl) (Nat.le_of_ble_eq_true rfl) dX7_takeOut_10 (fun H locs hw => ?_)
  cases hF
  exact gx_iret hx hb hr hlocks hw dX7_takeOut_13
set_option maxRecDepth 100000 in
theorem cl_X7_takeOut {l : Launch} {G : gx_G} {C : gx_S} {o : Int64} {d : UInt64} {I V : gx_F} {p : Program} {e : Env} {R : Room} {s : State} {m : MethodId} {args : Array Value} {below : List Frame} {meth : Method} {c : Code} {H : Heap} {locs : List Loc} {cells slots : Nat} {Q : State → Prop} {cc : ByteArray} {pc nL index : Nat} {ls : Array Slot} {rest : List Value} {own : String} {x1 : Int32} {out : (Int32 × gx_F × gx_F)} (hx : p.tables.exec = Jvm.exec) (hb : c.code = cc) (hml : c.maxLocals = nL) (hown : s.vm.findClass own = some m.cls) (hV : gx_V G s) (hw : gx_at G C (I, V) o d s.heap H locs) (hF : f_X7_takeOut x1 I V = some out) (hlink : (Cond.methodLink own index yX7_takeOut).before args s = true) (hsz : ls.size = nL) (hfr : 5 ≤ R.frames) (hlo : 119 ≤ R.locals) (hrest : (rest.map fun v => v.category).sum ≤ 8) (hdg : decode cc pc = .ok (.invokevirtual index, 3))
    (kk : ∀ (H1 : Heap) (locs1 : List Loc), gx_at G C (out.2.1, out.2.2) o d s.heap H1 locs1 → W p l e R s m args below meth c H1 locs1 cells slots Q (F0 m (pc + 3) ls (.int out.1 :: rest))) (hc : cells ≤ R.cells := by exact Nat.zero_le _) (hs : slots ≤ R.slots := by exact Nat.zero_le _) : W p l e R s m args below meth c H locs cells slots Q (F0 m pc ls (.int x1 :: .ref (G.2.1 58) :: rest)) :=
  gx_runi hw (va_runV (C := RX7) (As := [.int x1]) (rest := rest) ⟨hx, hb, hml, hown, (fun _ h => nomatch h : ∀ w ∈ ([] : List Cond), w.before args s = true)⟩ (k_X7_takeOut hF) ⟨gx_callB (n := 1) rfl rfl hlink (gw_56 hV) (gw_1140 hV) (by decide +kernel) ⟨hfr, hlo⟩, gw_1138 hV, gw_1139 hV⟩ (gx_recv (k := 58) (ci := 9) (T := TX7) hV hw (by decide) rfl rfl) rfl rfl hsz rfl (lv_room hrest) hdg ⟨hc, hs⟩) kk
set_option maxHeartbeats 4000000 in
set_option maxRecDepth 100000 in
theorem k_X7_fits {l : Launch} {G : gx_G} {C : gx_S} {o : Int64} {d : UInt64} {I V : gx_F} {x1 : Int32} {x2 : Int32} {out : Bool} (hF : f_X7_fits x1 x2 I V = some out) : gx_K l yX7_fits cX7_fits 3 (some .boolean) { frames := 3, cells := 0, slots := 0, locals := 71 } [.ref (G.2.1 58), .int x1, .int x2] G C (I, V) o d (gx_Qi G (gx_bi out) C (I, V) o d) 0 0 := by
  refine gx_begin (by decide +kernel) (Nat.le_of_ble_eq_true rfl) ?_
  intro p e s m below meth c hx hb hr hml hown hlocks hV hw ls hl
  have hown : s.vm.findClass RX7 = some m.cls := hown
  have hl : lv_has ls 3 [(0, .ref (G.2.1 58)), (1, .int x1), (2, .int x2)] := hl
  unfold f_X7_fits at hF
  refine lv_aload_n (pc := 0) hx hb dX7_fits_0 rfl (lv_at hl 0 rfl) ?_
  refine lv_iload_n (pc := 1) hx hb dX7_fits_1 rfl (lv_at hl 1 rfl) ?_
  refine lv_iload_n (pc := 2) hx hb dX7_fits_2 rfl (lv_at hl 2 rfl) ?_
  obtain ⟨uq_1, huq_1, hF⟩ := Option.bind_eq_some_iff.mp hF
  refine cl_X7_held (pc := 3) hx hb hml hown hV hw huq_1 (gw_1122 hV) hl.1 (Nat.le_of_ble_eq_true rfl) (Nat.le_of_ble_eq_true rfl) (Nat.le_of_ble_eq_true rfl) dX7_fits_3 (fun H locs hw => ?_)
  refine lv_aload_n (pc := 6) hx hb dX7_fits_6 rfl (lv_at hl 0 rfl) ?_
  refine gg_X7_0 (pc := 7) hx hb hown hV hw (gw_1018 hV) dX7_fits_7 ?_
  refine lv_iconst (pc := 10) (v := 2) hx hb dX7_fits_10 (by decide) ?_
  refine ga_59_ld (pc := 11) hx hb hV hw hF dX7_fits_11 (fun _ hF => ?_)
  refine gx_icmp_lt (pc := 12) (tgt := 28) hx hb hF dX7_fits_12 (by decide) (fun hF => ?_) (fun hF => ?_)
  · refine lv_iconst (pc := 28) (v := 0) hx hb dX7_fits_28 (by decide) ?_
    cases hF
    exact gx_zret (r := gx_bi false) hx hb hr (gx_narb _) hlocks hw dX7_fits_29
  refine lv_aload_n (pc := 15) hx hb dX7_fits_15 rfl (lv_at hl 0 rfl) ?_
  refine lv_iload_n (pc := 16) hx hb dX7_fits_16 rfl (lv_at hl 1 rfl) ?_
  refine lv_iload_n (pc := 17) hx hb dX7_fits_17 rfl (lv_at hl 2 rfl) ?_
  obtain ⟨uq_2, huq_2, hF⟩ := Option.bind_eq_some_iff.mp hF
  refine cl_X7_errorsOf (pc := 18) hx hb hml hown hV hw huq_2 (gw_1165 hV) hl.1 (Nat.le_of_ble_eq_true rfl) (Nat.le_of_ble_eq_true rfl) (Nat.le_of_ble_eq_true rfl) dX7_fits_18 (fun H locs hw => ?_)
  refine gx_if_ne (pc := 21) (tgt := 28) hx hb hF dX7_fits_21 (by decide) (fun hF => ?_) (fun hF => ?_)
  · refine lv_iconst (pc := 28) (v := 0) hx hb dX7_fits_28 (by decide) ?_
    cases hF
    exact gx_zret (r := gx_bi false) hx hb hr (gx_narb _) hlocks hw dX7_fits_29
  refine lv_iconst (pc := 24) (v := 1) hx hb dX7_fits_24 (by decide) ?_
  refine lv_goto (pc := 25) (tgt := 29) hx hb dX7_fits_25 (by decide) ?_
  cases hF
  exact gx_zret (r := gx_bi true) hx hb hr (gx_narb _) hlocks hw dX7_fits_29
set_option maxRecDepth 100000 in
theorem cl_X7_fits {l : Launch} {G : gx_G} {C : gx_S} {o : Int64} {d : UInt64} {I V : gx_F} {p : Program} {e : Env} {R : Room} {s : State} {m : MethodId} {args : Array Value} {below : List Frame} {meth : Method} {c : Code} {H : Heap} {locs : List Loc} {cells slots : Nat} {Q : State → Prop} {cc : ByteArray} {pc nL index : Nat} {ls : Array Slot} {rest : List Value} {own : String} {x1 : Int32} {x2 : Int32} {out : Bool} (hx : p.tables.exec = Jvm.exec) (hb : c.code = cc) (hml : c.maxLocals = nL) (hown : s.vm.findClass own = some m.cls) (hV : gx_V G s) (hw : gx_at G C (I, V) o d s.heap H locs) (hF : f_X7_fits x1 x2 I V = some out) (hlink : (Cond.methodLink own index yX7_fits).before args s = true) (hsz : ls.size = nL) (hfr : 4 ≤ R.frames) (hlo : 93 ≤ R.locals) (hrest : (rest.map fun v => v.category).sum ≤ 8) (hdg : decode cc pc = .ok (.invokevirtual index, 3))
    (kk : ∀ (H1 : Heap) (locs1 : List Loc), gx_at G C (I, V) o d s.heap H1 locs1 → W p l e R s m args below meth c H1 locs1 cells slots Q (F0 m (pc + 3) ls (.int (gx_bi out) :: rest))) (hc : cells ≤ R.cells := by exact Nat.zero_le _) (hs : slots ≤ R.slots := by exact Nat.zero_le _) : W p l e R s m args below meth c H locs cells slots Q (F0 m pc ls (.int x2 :: .int x1 :: .ref (G.2.1 58) :: rest)) :=
  gx_runi hw (va_runV (C := RX7) (As := [.int x1, .int x2]) (rest := rest) ⟨hx, hb, hml, hown, (fun _ h => nomatch h : ∀ w ∈ ([] : List Cond), w.before args s = true)⟩ (k_X7_fits hF) ⟨gx_callB (n := 2) rfl rfl hlink (gw_56 hV) (gw_1164 hV) (by decide +kernel) ⟨hfr, hlo⟩, gw_1163 hV, gw_30 hV⟩ (gx_recv (k := 58) (ci := 9) (T := TX7) hV hw (by decide) rfl rfl) rfl rfl hsz rfl (lv_room hrest) hdg ⟨hc, hs⟩) kk
set_option maxHeartbeats 4000000 in
set_option maxRecDepth 100000 in
theorem k_X7_choicesAt {l : Launch} {G : gx_G} {C : gx_S} {o : Int64} {d : UInt64} {I V : gx_F} {x1 : Int32} {out : Int32} (hF : f_X7_choicesAt x1 I V = some out) : gx_K l yX7_choicesAt cX7_choicesAt 4 (some .int) { frames := 4, cells := 0, slots := 0, locals := 93 } [.ref (G.2.1 58), .int x1] G C (I, V) o d (gx_Qi G out C (I, V) o d) 0 0 := by
  refine gx_begin (by decide +kernel) (Nat.le_of_ble_eq_true rfl) ?_
  intro p e s m below meth c hx hb hr hml hown hlocks hV hw ls hl
  have hown : s.vm.findClass RX7 = some m.cls := hown
  have hl : lv_has ls 4 [(0, .ref (G.2.1 58)), (1, .int x1)] := hl
  unfold f_X7_choicesAt at hF
  refine lv_iconst (pc := 0) (v := 0) hx hb dX7_choicesAt_0 (by decide) ?_
  refine lv_istore_n (pc := 1) (lv' := [(2, .int 0), (0, .ref (G.2.1 58)), (1, .int x1)]) hx hb dX7_choicesAt_1 rfl hl (by decide) rfl (fun ls hl => ?_)
  refine lv_iconst (pc := 2) (v := 0) hx hb dX7_choicesAt_2 (by decide) ?_
  refine lv_istore_n (pc := 3) (lv' := [(3, .int 0), (2, .int 0), (0, .ref (G.2.1 58)), (1, .int x1)]) hx hb dX7_choicesAt_3 rfl hl (by decide) rfl (fun ls hl => ?_)
  have L1 : ∀ (n : Nat) (K1 : Int32 → Int32 → Option Int32) (uv_1 : Int32) (uv_2 : Int32) (H : Heap) (locs : List Loc) (ls : Array Slot), lv_has ls 4 [(3, .int uv_2), (2, .int uv_1), (0, .ref (G.2.1 58)), (1, .int x1)] → gx_at G C (I, V) o d s.heap H locs → f_X7_choicesAt_L1 x1 I V K1 n uv_1 uv_2 = some out → (∀ (uv_1 : Int32) (uv_2 : Int32) (H : Heap) (locs : List Loc) (ls : Array Slot), lv_has ls 4 [(3, .int uv_2), (2, .int uv_1), (0, .ref (G.2.1 58)), (1, .int x1)] → gx_at G C (I, V) o d s.heap H locs → K1 uv_1 uv_2 = some out → W p l e ({ frames := 4, cells := 0, slots := 0, locals := 93 } : Room) s m ([.ref (G.2.1 58), .int x1] : List Value).toArray below meth c H locs 0 0 (MQ below (gx_Qi G out C (I, V) o d) ([.ref (G.2.1 58), .int x1] : List Value).toArray s 0 0 (gx_A G)) (F0 m 39 ls [])) → W p l e ({ frames := 4, cells := 0, slots := 0, locals := 93 } : Room) s m ([.ref (G.2.1 58), .int x1] : List Value).toArray below meth c H locs 0 0 (MQ below (gx_Qi G out C (I, V) o d) ([.ref (G.2.1 58), .int x1] : List Value).toArray s 0 0 (gx_A G)) (F0 m 4 ls []) := by
    intro n
    induction n with
    | zero =>
      intro K1 uv_1 uv_2 H locs ls hl hw hF hK
      rw [f_X7_choicesAt_L1] at hF
      cases hF
    | succ n ih1 =>
      intro K1 uv_1 uv_2 H locs ls hl hw hF hK1
      rw [f_X7_choicesAt_L1] at hF
      refine lv_iload_n (pc := 4) hx hb dX7_choicesAt_4 rfl (lv_at hl 0 rfl) ?_
      refine lv_iconst (pc := 5) (v := 4) hx hb dX7_choicesAt_5 (by decide) ?_
      refine lv_aload_n (pc := 6) hx hb dX7_choicesAt_6 rfl (lv_at hl 2 rfl) ?_
      refine gg_X7_0 (pc := 7) hx hb hown hV hw (gw_1018 hV) dX7_choicesAt_7 ?_
      refine lv_iconst (pc := 10) (v := 0) hx hb dX7_choicesAt_10 (by decide) ?_
      refine ga_59_ld (pc := 11) hx hb hV hw hF dX7_choicesAt_11 (fun _ hF => ?_)
      refine lv_imul (pc := 12) hx hb dX7_choicesAt_12 ?_
      refine gx_icmp_ge (pc := 13) (tgt := 39) hx hb hF dX7_choicesAt_13 (by decide) (fun hF => ?_) (fun hF => ?_)
      · exact hK1 _ _ _ _ _ (lv_sub hl [0, 1, 2, 3] rfl) hw hF
      refine lv_iload_n (pc := 16) hx hb dX7_choicesAt_16 rfl (lv_at hl 1 rfl) ?_
      refine lv_aload_n (pc := 17) hx hb dX7_choicesAt_17 rfl (lv_at hl 2 rfl) ?_
      refine lv_iload_n (pc := 18) hx hb dX7_choicesAt_18 rfl (lv_at hl 3 rfl) ?_
      refine lv_iload_n (pc := 19) hx hb dX7_choicesAt_19 rfl (lv_at hl 0 rfl) ?_
      obtain ⟨uq_3, huq_3, hF⟩ := Option.bind_eq_some_iff.mp hF
      refine cl_X7_fits (pc := 20) hx hb hml hown hV hw huq_3 (gw_1161 hV) hl.1 (Nat.le_of_ble_eq_true rfl) (Nat.le_of_ble_eq_true rfl) (Nat.le_of_ble_eq_true rfl) dX7_choicesAt_20 (fun H locs hw => ?_)
      refine gx_if_eq (pc := 23) (tgt := 30) hx hb hF dX7_choicesAt_23 (by decide) (fun hF => ?_) (fun hF => ?_)
      · refine lv_iconst (pc := 30) (v := 0) hx hb dX7_choicesAt_30 (by decide) ?_
        refine lv_iadd (pc := 31) hx hb dX7_choicesAt_31 ?_
        refine lv_istore_n (pc := 32) (lv' := [(2, .int (uv_1 + 0)), (3, .int uv_2), (0, .ref (G.2.1 58)), (1, .int x1)]) hx hb dX7_choicesAt_32 rfl hl (by decide) rfl (fun ls hl => ?_)
        refine lv_iinc (pc := 33) (v := (uv_2 + 1)) (lv' := [(3, .int (uv_2 + 1)), (2, .int (uv_1 + 0)), (0, .ref (G.2.1 58)), (1, .int x1)]) hx hb dX7_choicesAt_33 hl (k := 1) rfl rfl (by decide) rfl (fun ls hl => ?_)
        refine lv_goto (pc := 36) (tgt := 4) hx hb dX7_choicesAt_36 (by decide) ?_
        exact ih1 _ _ _ _ _ _ (lv_sub hl [0, 1, 2, 3] rfl) hw hF hK1
      refine lv_iconst (pc := 26) (v := 1) hx hb dX7_choicesAt_26 (by decide) ?_
      refine lv_goto (pc := 27) (tgt := 31) hx hb dX7_choicesAt_27 (by decide) ?_
      refine lv_iadd (pc := 31) hx hb dX7_choicesAt_31 ?_
      refine lv_istore_n (pc := 32) (lv' := [(2, .int (uv_1 + 1)), (3, .int uv_2), (0, .ref (G.2.1 58)), (1, .int x1)]) hx hb dX7_choicesAt_32 rfl hl (by decide) rfl (fun ls hl => ?_)
      refine lv_iinc (pc := 33) (v := (uv_2 + 1)) (lv' := [(3, .int (uv_2 + 1)), (2, .int (uv_1 + 1)), (0, .ref (G.2.1 58)), (1, .int x1)]) hx hb dX7_choicesAt_33 hl (k := 1) rfl rfl (by decide) rfl (fun ls hl => ?_)
      refine lv_goto (pc := 36) (tgt := 4) hx hb dX7_choicesAt_36 (by decide) ?_
      exact ih1 _ _ _ _ _ _ (lv_sub hl [0, 1, 2, 3] rfl) hw hF hK1
  refine L1 1000 _ _ _ _ _ _ hl hw hF (fun uv_4 uv_5 H locs ls hl hw hF => ?_)
  refine lv_iload_n (pc := 39) hx hb dX7_choicesAt_39 rfl (lv_at hl 1 rfl) ?_
  cases hF
  exact gx_iret hx hb hr hlocks hw dX7_choicesAt_40
set_option maxRecDepth 100000 in
theorem cl_X7_choicesAt {l : Launch} {G : gx_G} {C : gx_S} {o : Int64} {d : UInt64} {I V : gx_F} {p : Program} {e : Env} {R : Room} {s : State} {m : MethodId} {args : Array Value} {below : List Frame} {meth : Method} {c : Code} {H : Heap} {locs : List Loc} {cells slots : Nat} {Q : State → Prop} {cc : ByteArray} {pc nL index : Nat} {ls : Array Slot} {rest : List Value} {own : String} {x1 : Int32} {out : Int32} (hx : p.tables.exec = Jvm.exec) (hb : c.code = cc) (hml : c.maxLocals = nL) (hown : s.vm.findClass own = some m.cls) (hV : gx_V G s) (hw : gx_at G C (I, V) o d s.heap H locs) (hF : f_X7_choicesAt x1 I V = some out) (hlink : (Cond.methodLink own index yX7_choicesAt).before args s = true) (hsz : ls.size = nL) (hfr : 5 ≤ R.frames) (hlo : 116 ≤ R.locals) (hrest : (rest.map fun v => v.category).sum ≤ 8) (hdg : decode cc pc = .ok (.invokevirtual index, 3))
    (kk : ∀ (H1 : Heap) (locs1 : List Loc), gx_at G C (I, V) o d s.heap H1 locs1 → W p l e R s m args below meth c H1 locs1 cells slots Q (F0 m (pc + 3) ls (.int out :: rest))) (hc : cells ≤ R.cells := by exact Nat.zero_le _) (hs : slots ≤ R.slots := by exact Nat.zero_le _) : W p l e R s m args below meth c H locs cells slots Q (F0 m pc ls (.int x1 :: .ref (G.2.1 58) :: rest)) :=
  gx_runi hw (va_runV (C := RX7) (As := [.int x1]) (rest := rest) ⟨hx, hb, hml, hown, (fun _ h => nomatch h : ∀ w ∈ ([] : List Cond), w.before args s = true)⟩ (k_X7_choicesAt hF) ⟨gx_callB (n := 1) rfl rfl hlink (gw_56 hV) (gw_1160 hV) (by decide +kernel) ⟨hfr, hlo⟩, gw_1159 hV, gw_29 hV⟩ (gx_recv (k := 58) (ci := 9) (T := TX7) hV hw (by decide) rfl rfl) rfl rfl hsz rfl (lv_room hrest) hdg ⟨hc, hs⟩) kk
set_option maxHeartbeats 4000000 in
set_option maxRecDepth 100000 in
theorem k_X7_growsAt {l : Launch} {G : gx_G} {C : gx_S} {o : Int64} {d : UInt64} {I V : gx_F} {out : Int32} (hF : f_X7_growsAt I V = some out) : gx_K l yX7_growsAt cX7_growsAt 2 (some .int) { frames := 5, cells := 0, slots := 0, locals := 116 } [.ref (G.2.1 58)] G C (I, V) o d (gx_Qi G out C (I, V) o d) 0 0 := by
  refine gx_begin (by decide +kernel) (Nat.le_of_ble_eq_true rfl) ?_
  intro p e s m below meth c hx hb hr hml hown hlocks hV hw ls hl
  have hown : s.vm.findClass RX7 = some m.cls := hown
  have hl : lv_has ls 2 [(0, .ref (G.2.1 58))] := hl
  unfold f_X7_growsAt at hF
  refine lv_iconst (pc := 0) (v := 0) hx hb dX7_growsAt_0 (by decide) ?_
  refine lv_istore_n (pc := 1) (lv' := [(1, .int 0), (0, .ref (G.2.1 58))]) hx hb dX7_growsAt_1 rfl hl (by decide) rfl (fun ls hl => ?_)
  have L1 : ∀ (n : Nat) (K1 : Int32 → Option Int32) (uv_1 : Int32) (H : Heap) (locs : List Loc) (ls : Array Slot), lv_has ls 2 [(1, .int uv_1), (0, .ref (G.2.1 58))] → gx_at G C (I, V) o d s.heap H locs → f_X7_growsAt_L1 I V K1 n uv_1 = some out → (∀ (uv_1 : Int32) (H : Heap) (locs : List Loc) (ls : Array Slot), lv_has ls 2 [(1, .int uv_1), (0, .ref (G.2.1 58))] → gx_at G C (I, V) o d s.heap H locs → K1 uv_1 = some out → W p l e ({ frames := 5, cells := 0, slots := 0, locals := 116 } : Room) s m ([.ref (G.2.1 58)] : List Value).toArray below meth c H locs 0 0 (MQ below (gx_Qi G out C (I, V) o d) ([.ref (G.2.1 58)] : List Value).toArray s 0 0 (gx_A G)) (F0 m 32 ls [])) → W p l e ({ frames := 5, cells := 0, slots := 0, locals := 116 } : Room) s m ([.ref (G.2.1 58)] : List Value).toArray below meth c H locs 0 0 (MQ below (gx_Qi G out C (I, V) o d) ([.ref (G.2.1 58)] : List Value).toArray s 0 0 (gx_A G)) (F0 m 2 ls []) := by
    intro n
    induction n with
    | zero =>
      intro K1 uv_1 H locs ls hl hw hF hK
      rw [f_X7_growsAt_L1] at hF
      cases hF
    | succ n ih1 =>
      intro K1 uv_1 H locs ls hl hw hF hK1
      rw [f_X7_growsAt_L1] at hF
      refine lv_iload_n (pc := 2) hx hb dX7_growsAt_2 rfl (lv_at hl 0 rfl) ?_
      refine lv_bipush (pc := 3) (v := 42) hx hb dX7_growsAt_3 (by decide) ?_
      refine gx_icmp_ge (pc := 5) (tgt := 32) hx hb hF dX7_growsAt_5 (by decide) (fun hF => ?_) (fun hF => ?_)
      · exact hK1 _ _ _ _ (lv_sub hl [0, 1] rfl) hw hF
      refine lv_aload_n (pc := 8) hx hb dX7_growsAt_8 rfl (lv_at hl 1 rfl) ?_
      refine lv_iload_n (pc := 9) hx hb dX7_growsAt_9 rfl (lv_at hl 0 rfl) ?_
      obtain ⟨uq_2, huq_2, hF⟩ := Option.bind_eq_some_iff.mp hF
      refine cl_X7_isFree (pc := 10) hx hb hml hown hV hw huq_2 (gw_1118 hV) hl.1 (Nat.le_of_ble_eq_true rfl) (Nat.le_of_ble_eq_true rfl) (Nat.le_of_ble_eq_true rfl) dX7_growsAt_10 (fun H locs hw => ?_)
      refine gx_if_eq (pc := 13) (tgt := 26) hx hb hF dX7_growsAt_13 (by decide) (fun hF => ?_) (fun hF => ?_)
      · refine lv_iinc (pc := 26) (v := (uv_1 + 1)) (lv' := [(1, .int (uv_1 + 1)), (0, .ref (G.2.1 58))]) hx hb dX7_growsAt_26 hl (k := 0) rfl rfl (by decide) rfl (fun ls hl => ?_)
        refine lv_goto (pc := 29) (tgt := 2) hx hb dX7_growsAt_29 (by decide) ?_
        exact ih1 _ _ _ _ _ (lv_sub hl [0, 1] rfl) hw hF hK1
      refine lv_aload_n (pc := 16) hx hb dX7_growsAt_16 rfl (lv_at hl 1 rfl) ?_
      refine lv_iload_n (pc := 17) hx hb dX7_growsAt_17 rfl (lv_at hl 0 rfl) ?_
      obtain ⟨uq_3, huq_3, hF⟩ := Option.bind_eq_some_iff.mp hF
      refine cl_X7_choicesAt (pc := 18) hx hb hml hown hV hw huq_3 (gw_1157 hV) hl.1 (Nat.le_of_ble_eq_true rfl) (Nat.le_of_ble_eq_true rfl) (Nat.le_of_ble_eq_true rfl) dX7_growsAt_18 (fun H locs hw => ?_)
      refine gx_if_le (pc := 21) (tgt := 26) hx hb hF dX7_growsAt_21 (by decide) (fun hF => ?_) (fun hF => ?_)
      · refine lv_iinc (pc := 26) (v := (uv_1 + 1)) (lv' := [(1, .int (uv_1 + 1)), (0, .ref (G.2.1 58))]) hx hb dX7_growsAt_26 hl (k := 0) rfl rfl (by decide) rfl (fun ls hl => ?_)
        refine lv_goto (pc := 29) (tgt := 2) hx hb dX7_growsAt_29 (by decide) ?_
        exact ih1 _ _ _ _ _ (lv_sub hl [0, 1] rfl) hw hF hK1
      refine lv_iload_n (pc := 24) hx hb dX7_growsAt_24 rfl (lv_at hl 0 rfl) ?_
      cases hF
      exact gx_iret hx hb hr hlocks hw dX7_growsAt_25
  refine L1 1000 _ _ _ _ _ hl hw hF (fun uv_4 H locs ls hl hw hF => ?_)
  refine lv_iconst (pc := 32) (v := (-1)) hx hb dX7_growsAt_32 (by decide) ?_
  cases hF
  exact gx_iret hx hb hr hlocks hw dX7_growsAt_33
set_option maxRecDepth 100000 in
theorem cl_X7_growsAt {l : Launch} {G : gx_G} {C : gx_S} {o : Int64} {d : UInt64} {I V : gx_F} {p : Program} {e : Env} {R : Room} {s : State} {m : MethodId} {args : Array Value} {below : List Frame} {meth : Method} {c : Code} {H : Heap} {locs : List Loc} {cells slots : Nat} {Q : State → Prop} {cc : ByteArray} {pc nL index : Nat} {ls : Array Slot} {rest : List Value} {own : String} {out : Int32} (hx : p.tables.exec = Jvm.exec) (hb : c.code = cc) (hml : c.maxLocals = nL) (hown : s.vm.findClass own = some m.cls) (hV : gx_V G s) (hw : gx_at G C (I, V) o d s.heap H locs) (hF : f_X7_growsAt I V = some out) (hlink : (Cond.methodLink own index yX7_growsAt).before args s = true) (hsz : ls.size = nL) (hfr : 6 ≤ R.frames) (hlo : 137 ≤ R.locals) (hrest : (rest.map fun v => v.category).sum ≤ 8) (hdg : decode cc pc = .ok (.invokevirtual index, 3))
    (kk : ∀ (H1 : Heap) (locs1 : List Loc), gx_at G C (I, V) o d s.heap H1 locs1 → W p l e R s m args below meth c H1 locs1 cells slots Q (F0 m (pc + 3) ls (.int out :: rest))) (hc : cells ≤ R.cells := by exact Nat.zero_le _) (hs : slots ≤ R.slots := by exact Nat.zero_le _) : W p l e R s m args below meth c H locs cells slots Q (F0 m pc ls (.ref (G.2.1 58) :: rest)) :=
  gx_runi hw (va_runV (C := RX7) (As := []) (rest := rest) ⟨hx, hb, hml, hown, (fun _ h => nomatch h : ∀ w ∈ ([] : List Cond), w.before args s = true)⟩ (k_X7_growsAt hF) ⟨gx_callB (n := 0) rfl rfl hlink (gw_56 hV) (gw_1156 hV) (by decide +kernel) ⟨hfr, hlo⟩, gw_1155 hV, gw_28 hV⟩ (gx_recv (k := 58) (ci := 9) (T := TX7) hV hw (by decide) rfl rfl) rfl rfl hsz rfl (lv_room hrest) hdg ⟨hc, hs⟩) kk
set_option maxHeartbeats 4000000 in
set_option maxRecDepth 100000 in
theorem k_X7_growsWith {l : Launch} {G : gx_G} {C : gx_S} {o : Int64} {d : UInt64} {I V : gx_F} {x1 : Int32} {out : Int32} (hF : f_X7_growsWith x1 I V = some out) : gx_K l yX7_growsWith cX7_growsWith 4 (some .int) { frames := 4, cells := 0, slots := 0, locals := 93 } [.ref (G.2.1 58), .int x1] G C (I, V) o d (gx_Qi G out C (I, V) o d) 0 0 := by
  refine gx_begin (by decide +kernel) (Nat.le_of_ble_eq_true rfl) ?_
  intro p e s m below meth c hx hb hr hml hown hlocks hV hw ls hl
  have hown : s.vm.findClass RX7 = some m.cls := hown
  have hl : lv_has ls 4 [(0, .ref (G.2.1 58)), (1, .int x1)] := hl
  unfold f_X7_growsWith at hF
  refine lv_iconst (pc := 0) (v := (-1)) hx hb dX7_growsWith_0 (by decide) ?_
  refine lv_istore_n (pc := 1) (lv' := [(2, .int (-1)), (0, .ref (G.2.1 58)), (1, .int x1)]) hx hb dX7_growsWith_1 rfl hl (by decide) rfl (fun ls hl => ?_)
  refine lv_iconst (pc := 2) (v := 0) hx hb dX7_growsWith_2 (by decide) ?_
  refine lv_istore_n (pc := 3) (lv' := [(3, .int 0), (2, .int (-1)), (0, .ref (G.2.1 58)), (1, .int x1)]) hx hb dX7_growsWith_3 rfl hl (by decide) rfl (fun ls hl => ?_)
  have L1 : ∀ (n : Nat) (K1 : Int32 → Int32 → Option Int32) (uv_1 : Int32) (uv_2 : Int32) (H : Heap) (locs : List Loc) (ls : Array Slot), lv_has ls 4 [(3, .int uv_2), (2, .int uv_1), (0, .ref (G.2.1 58)), (1, .int x1)] → gx_at G C (I, V) o d s.heap H locs → f_X7_growsWith_L1 x1 I V K1 n uv_1 uv_2 = some out → (∀ (uv_1 : Int32) (uv_2 : Int32) (H : Heap) (locs : List Loc) (ls : Array Slot), lv_has ls 4 [(3, .int uv_2), (2, .int uv_1), (0, .ref (G.2.1 58)), (1, .int x1)] → gx_at G C (I, V) o d s.heap H locs → K1 uv_1 uv_2 = some out → W p l e ({ frames := 4, cells := 0, slots := 0, locals := 93 } : Room) s m ([.ref (G.2.1 58), .int x1] : List Value).toArray below meth c H locs 0 0 (MQ below (gx_Qi G out C (I, V) o d) ([.ref (G.2.1 58), .int x1] : List Value).toArray s 0 0 (gx_A G)) (F0 m 52 ls [])) → W p l e ({ frames := 4, cells := 0, slots := 0, locals := 93 } : Room) s m ([.ref (G.2.1 58), .int x1] : List Value).toArray below meth c H locs 0 0 (MQ below (gx_Qi G out C (I, V) o d) ([.ref (G.2.1 58), .int x1] : List Value).toArray s 0 0 (gx_A G)) (F0 m 4 ls []) := by
    intro n
    induction n with
    | zero =>
      intro K1 uv_1 uv_2 H locs ls hl hw hF hK
      rw [f_X7_growsWith_L1] at hF
      cases hF
    | succ n ih1 =>
      intro K1 uv_1 uv_2 H locs ls hl hw hF hK1
      rw [f_X7_growsWith_L1] at hF
      refine lv_iload_n (pc := 4) hx hb dX7_growsWith_4 rfl (lv_at hl 0 rfl) ?_
      refine lv_iconst (pc := 5) (v := 4) hx hb dX7_growsWith_5 (by decide) ?_
      refine lv_aload_n (pc := 6) hx hb dX7_growsWith_6 rfl (lv_at hl 2 rfl) ?_
      refine gg_X7_0 (pc := 7) hx hb hown hV hw (gw_1018 hV) dX7_growsWith_7 ?_
      refine lv_iconst (pc := 10) (v := 0) hx hb dX7_growsWith_10 (by decide) ?_
      refine ga_59_ld (pc := 11) hx hb hV hw hF dX7_growsWith_11 (fun _ hF => ?_)
      refine lv_imul (pc := 12) hx hb dX7_growsWith_12 ?_
      refine gx_icmp_ge (pc := 13) (tgt := 52) hx hb hF dX7_growsWith_13 (by decide) (fun hF => ?_) (fun hF => ?_)
      · exact hK1 _ _ _ _ _ (lv_sub hl [0, 1, 2, 3] rfl) hw hF
      refine lv_aload_n (pc := 16) hx hb dX7_growsWith_16 rfl (lv_at hl 2 rfl) ?_
      refine lv_iload_n (pc := 17) hx hb dX7_growsWith_17 rfl (lv_at hl 3 rfl) ?_
      refine lv_iload_n (pc := 18) hx hb dX7_growsWith_18 rfl (lv_at hl 0 rfl) ?_
      obtain ⟨uq_3, huq_3, hF⟩ := Option.bind_eq_some_iff.mp hF
      refine cl_X7_fits (pc := 19) hx hb hml hown hV hw huq_3 (gw_1161 hV) hl.1 (Nat.le_of_ble_eq_true rfl) (Nat.le_of_ble_eq_true rfl) (Nat.le_of_ble_eq_true rfl) dX7_growsWith_19 (fun H locs hw => ?_)
      refine gx_if_eq (pc := 22) (tgt := 46) hx hb hF dX7_growsWith_22 (by decide) (fun hF => ?_) (fun hF => ?_)
      · refine lv_iinc (pc := 46) (v := (uv_2 + 1)) (lv' := [(3, .int (uv_2 + 1)), (2, .int uv_1), (0, .ref (G.2.1 58)), (1, .int x1)]) hx hb dX7_growsWith_46 hl (k := 0) rfl rfl (by decide) rfl (fun ls hl => ?_)
        refine lv_goto (pc := 49) (tgt := 4) hx hb dX7_growsWith_49 (by decide) ?_
        exact ih1 _ _ _ _ _ _ (lv_sub hl [0, 1, 2, 3] rfl) hw hF hK1
      refine lv_iload_n (pc := 25) hx hb dX7_growsWith_25 rfl (lv_at hl 1 rfl) ?_
      refine gx_if_lt (pc := 26) (tgt := 44) hx hb hF dX7_growsWith_26 (by decide) (fun hF => ?_) (fun hF => ?_)
      · refine lv_iload_n (pc := 44) hx hb dX7_growsWith_44 rfl (lv_at hl 0 rfl) ?_
        refine lv_istore_n (pc := 45) (lv' := [(2, .int uv_2), (3, .int uv_2), (0, .ref (G.2.1 58)), (1, .int x1)]) hx hb dX7_growsWith_45 rfl hl (by decide) rfl (fun ls hl => ?_)
        refine lv_iinc (pc := 46) (v := (uv_2 + 1)) (lv' := [(3, .int (uv_2 + 1)), (2, .int uv_2), (0, .ref (G.2.1 58)), (1, .int x1)]) hx hb dX7_growsWith_46 hl (k := 1) rfl rfl (by decide) rfl (fun ls hl => ?_)
        refine lv_goto (pc := 49) (tgt := 4) hx hb dX7_growsWith_49 (by decide) ?_
        exact ih1 _ _ _ _ _ _ (lv_sub hl [0, 1, 2, 3] rfl) hw hF hK1
      refine lv_aload_n (pc := 29) hx hb dX7_growsWith_29 rfl (lv_at hl 2 rfl) ?_
      refine lv_iload_n (pc := 30) hx hb dX7_growsWith_30 rfl (lv_at hl 3 rfl) ?_
      refine lv_iload_n (pc := 31) hx hb dX7_growsWith_31 rfl (lv_at hl 0 rfl) ?_
      obtain ⟨uq_4, huq_4, hF⟩ := Option.bind_eq_some_iff.mp hF
      refine cl_X7_held (pc := 32) hx hb hml hown hV hw huq_4 (gw_1122 hV) hl.1 (Nat.le_of_ble_eq_true rfl) (Nat.le_of_ble_eq_true rfl) (Nat.le_of_ble_eq_true rfl) dX7_growsWith_32 (fun H locs hw => ?_)
      refine lv_aload_n (pc := 35) hx hb dX7_growsWith_35 rfl (lv_at hl 2 rfl) ?_
      refine lv_iload_n (pc := 36) hx hb dX7_growsWith_36 rfl (lv_at hl 3 rfl) ?_
      refine lv_iload_n (pc := 37) hx hb dX7_growsWith_37 rfl (lv_at hl 1 rfl) ?_
      obtain ⟨uq_5, huq_5, hF⟩ := Option.bind_eq_some_iff.mp hF
      refine cl_X7_held (pc := 38) hx hb hml hown hV hw huq_5 (gw_1122 hV) hl.1 (Nat.le_of_ble_eq_true rfl) (Nat.le_of_ble_eq_true rfl) (Nat.le_of_ble_eq_true rfl) dX7_growsWith_38 (fun H locs hw => ?_)
      refine gx_icmp_le (pc := 41) (tgt := 46) hx hb hF dX7_growsWith_41 (by decide) (fun hF => ?_) (fun hF => ?_)
      · refine lv_iinc (pc := 46) (v := (uv_2 + 1)) (lv' := [(3, .int (uv_2 + 1)), (2, .int uv_1), (0, .ref (G.2.1 58)), (1, .int x1)]) hx hb dX7_growsWith_46 hl (k := 0) rfl rfl (by decide) rfl (fun ls hl => ?_)
        refine lv_goto (pc := 49) (tgt := 4) hx hb dX7_growsWith_49 (by decide) ?_
        exact ih1 _ _ _ _ _ _ (lv_sub hl [0, 1, 2, 3] rfl) hw hF hK1
      refine lv_iload_n (pc := 44) hx hb dX7_growsWith_44 rfl (lv_at hl 0 rfl) ?_
      refine lv_istore_n (pc := 45) (lv' := [(2, .int uv_2), (3, .int uv_2), (0, .ref (G.2.1 58)), (1, .int x1)]) hx hb dX7_growsWith_45 rfl hl (by decide) rfl (fun ls hl => ?_)
      refine lv_iinc (pc := 46) (v := (uv_2 + 1)) (lv' := [(3, .int (uv_2 + 1)), (2, .int uv_2), (0, .ref (G.2.1 58)), (1, .int x1)]) hx hb dX7_growsWith_46 hl (k := 1) rfl rfl (by decide) rfl (fun ls hl => ?_)
      refine lv_goto (pc := 49) (tgt := 4) hx hb dX7_growsWith_49 (by decide) ?_
      exact ih1 _ _ _ _ _ _ (lv_sub hl [0, 1, 2, 3] rfl) hw hF hK1
  refine L1 1000 _ _ _ _ _ _ hl hw hF (fun uv_6 uv_7 H locs ls hl hw hF => ?_)
  refine lv_iload_n (pc := 52) hx hb dX7_growsWith_52 rfl (lv_at hl 1 rfl) ?_
  cases hF
  exact gx_iret hx hb hr hlocks hw dX7_growsWith_53
set_option maxRecDepth 100000 in
theorem cl_X7_growsWith {l : Launch} {G : gx_G} {C : gx_S} {o : Int64} {d : UInt64} {I V : gx_F} {p : Program} {e : Env} {R : Room} {s : State} {m : MethodId} {args : Array Value} {below : List Frame} {meth : Method} {c : Code} {H : Heap} {locs : List Loc} {cells slots : Nat} {Q : State → Prop} {cc : ByteArray} {pc nL index : Nat} {ls : Array Slot} {rest : List Value} {own : String} {x1 : Int32} {out : Int32} (hx : p.tables.exec = Jvm.exec) (hb : c.code = cc) (hml : c.maxLocals = nL) (hown : s.vm.findClass own = some m.cls) (hV : gx_V G s) (hw : gx_at G C (I, V) o d s.heap H locs) (hF : f_X7_growsWith x1 I V = some out) (hlink : (Cond.methodLink own index yX7_growsWith).before args s = true) (hsz : ls.size = nL) (hfr : 5 ≤ R.frames) (hlo : 116 ≤ R.locals) (hrest : (rest.map fun v => v.category).sum ≤ 8) (hdg : decode cc pc = .ok (.invokevirtual index, 3))
    (kk : ∀ (H1 : Heap) (locs1 : List Loc), gx_at G C (I, V) o d s.heap H1 locs1 → W p l e R s m args below meth c H1 locs1 cells slots Q (F0 m (pc + 3) ls (.int out :: rest))) (hc : cells ≤ R.cells := by exact Nat.zero_le _) (hs : slots ≤ R.slots := by exact Nat.zero_le _) : W p l e R s m args below meth c H locs cells slots Q (F0 m pc ls (.int x1 :: .ref (G.2.1 58) :: rest)) :=
  gx_runi hw (va_runV (C := RX7) (As := [.int x1]) (rest := rest) ⟨hx, hb, hml, hown, (fun _ h => nomatch h : ∀ w ∈ ([] : List Cond), w.before args s = true)⟩ (k_X7_growsWith hF) ⟨gx_callB (n := 1) rfl rfl hlink (gw_56 hV) (gw_1180 hV) (by decide +kernel) ⟨hfr, hlo⟩, gw_1179 hV, gw_34 hV⟩ (gx_recv (k := 58) (ci := 9) (T := TX7) hV hw (by decide) rfl rfl) rfl rfl hsz rfl (lv_room hrest) hdg ⟨hc, hs⟩) kk
set_option maxHeartbeats 4000000 in
set_option maxRecDepth 100000 in
theorem k_X7_growsBy {l : Launch} {G : gx_G} {C : gx_S} {o : Int64} {d : UInt64} {I V : gx_F} {x1 : Int32} {out : (Int32 × gx_F × gx_F)} (hF : f_X7_growsBy x1 I V = some out) : gx_K l yX7_growsBy cX7_growsBy 4 (some .int) { frames := 6, cells := 0, slots := 0, locals := 137 } [.ref (G.2.1 58), .int x1] G C (I, V) o d (gx_Qi G out.1 C (out.2.1, out.2.2) o d) 0 0 := by
  refine gx_begin (by decide +kernel) (Nat.le_of_ble_eq_true rfl) ?_
  intro p e s m below meth c hx hb hr hml hown hlocks hV hw ls hl
  have hown : s.vm.findClass RX7 = some m.cls := hown
  have hl : lv_has ls 4 [(0, .ref (G.2.1 58)), (1, .int x1)] := hl
  unfold f_X7_growsBy at hF
  refine lv_iconst (pc := 0) (v := 0) hx hb dX7_growsBy_0 (by decide) ?_
  refine lv_istore_n (pc := 1) (lv' := [(2, .int 0), (0, .ref (G.2.1 58)), (1, .int x1)]) hx hb dX7_growsBy_1 rfl hl (by decide) rfl (fun ls hl => ?_)
  refine lv_aload_n (pc := 2) hx hb dX7_growsBy_2 rfl (lv_at hl 1 rfl) ?_
  obtain ⟨uq_1, huq_1, hF⟩ := Option.bind_eq_some_iff.mp hF
  refine cl_X7_growsAt (pc := 3) hx hb hml hown hV hw huq_1 (gw_1153 hV) hl.1 (Nat.le_of_ble_eq_true rfl) (Nat.le_of_ble_eq_true rfl) (Nat.le_of_ble_eq_true rfl) dX7_growsBy_3 (fun H locs hw => ?_)
  refine lv_istore_n (pc := 6) (lv' := [(3, .int uq_1), (2, .int 0), (0, .ref (G.2.1 58)), (1, .int x1)]) hx hb dX7_growsBy_6 rfl hl (by decide) rfl (fun ls hl => ?_)
  have L1 : ∀ (n : Nat) (K1 : Int32 → Int32 → gx_F → gx_F → Option (Int32 × gx_F × gx_F)) (uv_2 : Int32) (uv_3 : Int32) (uI_4 : gx_F) (uV_5 : gx_F) (H : Heap) (locs : List Loc) (ls : Array Slot), lv_has ls 4 [(3, .int uv_3), (2, .int uv_2), (0, .ref (G.2.1 58)), (1, .int x1)] → gx_at G C (uI_4, uV_5) o d s.heap H locs → f_X7_growsBy_L1 x1 K1 n uv_2 uv_3 uI_4 uV_5 = some out → (∀ (uv_2 : Int32) (uv_3 : Int32) (uI_4 : gx_F) (uV_5 : gx_F) (H : Heap) (locs : List Loc) (ls : Array Slot), lv_has ls 4 [(3, .int uv_3), (2, .int uv_2), (0, .ref (G.2.1 58)), (1, .int x1)] → gx_at G C (uI_4, uV_5) o d s.heap H locs → K1 uv_2 uv_3 uI_4 uV_5 = some out → W p l e ({ frames := 6, cells := 0, slots := 0, locals := 137 } : Room) s m ([.ref (G.2.1 58), .int x1] : List Value).toArray below meth c H locs 0 0 (MQ below (gx_Qi G out.1 C (out.2.1, out.2.2) o d) ([.ref (G.2.1 58), .int x1] : List Value).toArray s 0 0 (gx_A G)) (F0 m 61 ls [])) → W p l e ({ frames := 6, cells := 0, slots := 0, locals := 137 } : Room) s m ([.ref (G.2.1 58), .int x1] : List Value).toArray below meth c H locs 0 0 (MQ below (gx_Qi G out.1 C (out.2.1, out.2.2) o d) ([.ref (G.2.1 58), .int x1] : List Value).toArray s 0 0 (gx_A G)) (F0 m 7 ls []) := by
    intro n
    induction n with
    | zero =>
      intro K1 uv_2 uv_3 uI_4 uV_5 H locs ls hl hw hF hK
      rw [f_X7_growsBy_L1] at hF
      cases hF
    | succ n ih1 =>
      intro K1 uv_2 uv_3 uI_4 uV_5 H locs ls hl hw hF hK1
      rw [f_X7_growsBy_L1] at hF
      refine lv_iload_n (pc := 7) hx hb dX7_growsBy_7 rfl (lv_at hl 1 rfl) ?_
      refine lv_iload_n (pc := 8) hx hb dX7_growsBy_8 rfl (lv_at hl 3 rfl) ?_
      refine gx_icmp_ge (pc := 9) (tgt := 61) hx hb hF dX7_growsBy_9 (by decide) (fun hF => ?_) (fun hF => ?_)
      · exact hK1 _ _ _ _ _ _ _ (lv_sub hl [0, 1, 2, 3] rfl) hw hF
      refine lv_iload_n (pc := 12) hx hb dX7_growsBy_12 rfl (lv_at hl 0 rfl) ?_
      refine gx_if_lt (pc := 13) (tgt := 61) hx hb hF dX7_growsBy_13 (by decide) (fun hF => ?_) (fun hF => ?_)
      · exact hK1 _ _ _ _ _ _ _ (lv_sub hl [0, 1, 2, 3] rfl) hw hF
      refine lv_aload_n (pc := 16) hx hb dX7_growsBy_16 rfl (lv_at hl 2 rfl) ?_
      refine gg_X7_0 (pc := 17) hx hb hown hV hw (gw_1018 hV) dX7_growsBy_17 ?_
      refine lv_bipush (pc := 20) (v := 45) hx hb dX7_growsBy_20 (by decide) ?_
      refine lv_iload_n (pc := 22) hx hb dX7_growsBy_22 rfl (lv_at hl 0 rfl) ?_
      refine lv_iadd (pc := 23) hx hb dX7_growsBy_23 ?_
      refine lv_aload_n (pc := 24) hx hb dX7_growsBy_24 rfl (lv_at hl 2 rfl) ?_
      refine lv_iload_n (pc := 25) hx hb dX7_growsBy_25 rfl (lv_at hl 0 rfl) ?_
      obtain ⟨uq_6, huq_6, hF⟩ := Option.bind_eq_some_iff.mp hF
      refine cl_X7_growsWith (pc := 26) hx hb hml hown hV hw huq_6 (gw_1177 hV) hl.1 (Nat.le_of_ble_eq_true rfl) (Nat.le_of_ble_eq_true rfl) (Nat.le_of_ble_eq_true rfl) dX7_growsBy_26 (fun H locs hw => ?_)
      refine ga_59_st (pc := 29) hx hb hV hw hF dX7_growsBy_29 (fun H locs hw hF => ?_)
      refine lv_aload_n (pc := 30) hx hb dX7_growsBy_30 rfl (lv_at hl 2 rfl) ?_
      refine gg_X7_0 (pc := 31) hx hb hown hV hw (gw_1018 hV) dX7_growsBy_31 ?_
      refine lv_iconst (pc := 34) (v := 3) hx hb dX7_growsBy_34 (by decide) ?_
      refine lv_dup2_11 (pc := 35) hx hb dX7_growsBy_35 rfl rfl ?_
      refine ga_59_ld (pc := 36) hx hb hV hw hF dX7_growsBy_36 (fun _ hF => ?_)
      refine lv_iconst (pc := 37) (v := 1) hx hb dX7_growsBy_37 (by decide) ?_
      refine lv_iadd (pc := 38) hx hb dX7_growsBy_38 ?_
      refine ga_59_st (pc := 39) hx hb hV hw hF dX7_growsBy_39 (fun H locs hw hF => ?_)
      refine lv_aload_n (pc := 40) hx hb dX7_growsBy_40 rfl (lv_at hl 2 rfl) ?_
      refine gg_X7_0 (pc := 41) hx hb hown hV hw (gw_1018 hV) dX7_growsBy_41 ?_
      refine lv_iconst (pc := 44) (v := 4) hx hb dX7_growsBy_44 (by decide) ?_
      refine lv_dup2_11 (pc := 45) hx hb dX7_growsBy_45 rfl rfl ?_
      refine ga_59_ld (pc := 46) hx hb hV hw hF dX7_growsBy_46 (fun _ hF => ?_)
      refine lv_iconst (pc := 47) (v := 1) hx hb dX7_growsBy_47 (by decide) ?_
      refine lv_iadd (pc := 48) hx hb dX7_growsBy_48 ?_
      refine ga_59_st (pc := 49) hx hb hV hw hF dX7_growsBy_49 (fun H locs hw hF => ?_)
      refine lv_iinc (pc := 50) (v := (uv_2 + 1)) (lv' := [(2, .int (uv_2 + 1)), (3, .int uv_3), (0, .ref (G.2.1 58)), (1, .int x1)]) hx hb dX7_growsBy_50 hl (k := 1) rfl rfl (by decide) rfl (fun ls hl => ?_)
      refine lv_aload_n (pc := 53) hx hb dX7_growsBy_53 rfl (lv_at hl 2 rfl) ?_
      obtain ⟨uq_7, huq_7, hF⟩ := Option.bind_eq_some_iff.mp hF
      refine cl_X7_growsAt (pc := 54) hx hb hml hown hV hw huq_7 (gw_1153 hV) hl.1 (Nat.le_of_ble_eq_true rfl) (Nat.le_of_ble_eq_true rfl) (Nat.le_of_ble_eq_true rfl) dX7_growsBy_54 (fun H locs hw => ?_)
      refine lv_istore_n (pc := 57) (lv' := [(3, .int uq_7), (2, .int (uv_2 + 1)), (0, .ref (G.2.1 58)), (1, .int x1)]) hx hb dX7_growsBy_57 rfl hl (by decide) rfl (fun ls hl => ?_)
      refine lv_goto (pc := 58) (tgt := 7) hx hb dX7_growsBy_58 (by decide) ?_
      exact ih1 _ _ _ _ _ _ _ _ (lv_sub hl [0, 1, 2, 3] rfl) hw hF hK1
  refine L1 1000 _ _ _ _ _ _ _ _ hl hw hF (fun uv_8 uv_9 uI_10 uV_11 H locs ls hl hw hF => ?_)
  refine lv_iload_n (pc := 61) hx hb dX7_growsBy_61 rfl (lv_at hl 1 rfl) ?_
  cases hF
  exact gx_iret hx hb hr hlocks hw dX7_growsBy_62
set_option maxRecDepth 100000 in
theorem cl_X7_growsBy {l : Launch} {G : gx_G} {C : gx_S} {o : Int64} {d : UInt64} {I V : gx_F} {p : Program} {e : Env} {R : Room} {s : State} {m : MethodId} {args : Array Value} {below : List Frame} {meth : Method} {c : Code} {H : Heap} {locs : List Loc} {cells slots : Nat} {Q : State → Prop} {cc : ByteArray} {pc nL index : Nat} {ls : Array Slot} {rest : List Value} {own : String} {x1 : Int32} {out : (Int32 × gx_F × gx_F)} (hx : p.tables.exec = Jvm.exec) (hb : c.code = cc) (hml : c.maxLocals = nL) (hown : s.vm.findClass own = some m.cls) (hV : gx_V G s) (hw : gx_at G C (I, V) o d s.heap H locs) (hF : f_X7_growsBy x1 I V = some out) (hlink : (Cond.methodLink own index yX7_growsBy).before args s = true) (hsz : ls.size = nL) (hfr : 7 ≤ R.frames) (hlo : 160 ≤ R.locals) (hrest : (rest.map fun v => v.category).sum ≤ 8) (hdg : decode cc pc = .ok (.invokevirtual index, 3))
    (kk : ∀ (H1 : Heap) (locs1 : List Loc), gx_at G C (out.2.1, out.2.2) o d s.heap H1 locs1 → W p l e R s m args below meth c H1 locs1 cells slots Q (F0 m (pc + 3) ls (.int out.1 :: rest))) (hc : cells ≤ R.cells := by exact Nat.zero_le _) (hs : slots ≤ R.slots := by exact Nat.zero_le _) : W p l e R s m args below meth c H locs cells slots Q (F0 m pc ls (.int x1 :: .ref (G.2.1 58) :: rest)) :=
  gx_runi hw (va_runV (C := RX7) (As := [.int x1]) (rest := rest) ⟨hx, hb, hml, hown, (fun _ h => nomatch h : ∀ w ∈ ([] : List Cond), w.before args s = true)⟩ (k_X7_growsBy hF) ⟨gx_callB (n := 1) rfl rfl hlink (gw_56 hV) (gw_1176 hV) (by decide +kernel) ⟨hfr, hlo⟩, gw_1175 hV, gw_33 hV⟩ (gx_recv (k := 58) (ci := 9) (T := TX7) hV hw (by decide) rfl rfl) rfl rfl hsz rfl (lv_room hrest) hdg ⟨hc, hs⟩) kk
set_option maxHeartbeats 4000000 in
set_option maxRecDepth 100000 in
theorem k_X7_stuckNow {l : Launch} {G : gx_G} {C : gx_S} {o : Int64} {d : UInt64} {I V : gx_F} {out : Int32} (hF : f_X7_stuckNow I V = some out) : gx_K l yX7_stuckNow cX7_stuckNow 5 (some .int) { frames := 5, cells := 0, slots := 0, locals := 116 } [.ref (G.2.1 58)] G C (I, V) o d (gx_Qi G out C (I, V) o d) 0 0 := by
  refine gx_begin (by decide +kernel) (Nat.le_of_ble_eq_true rfl) ?_
  intro p e s m below meth c hx hb hr hml hown hlocks hV hw ls hl
  have hown : s.vm.findClass RX7 = some m.cls := hown
  have hl : lv_has ls 5 [(0, .ref (G.2.1 58))] := hl
  unfold f_X7_stuckNow at hF
  refine lv_iconst (pc := 0) (v := 0) hx hb dX7_stuckNow_0 (by decide) ?_
  refine lv_istore_n (pc := 1) (lv' := [(1, .int 0), (0, .ref (G.2.1 58))]) hx hb dX7_stuckNow_1 rfl hl (by decide) rfl (fun ls hl => ?_)
  refine lv_iconst (pc := 2) (v := 0) hx hb dX7_stuckNow_2 (by decide) ?_
  refine lv_istore_n (pc := 3) (lv' := [(2, .int 0), (1, .int 0), (0, .ref (G.2.1 58))]) hx hb dX7_stuckNow_3 rfl hl (by decide) rfl (fun ls hl => ?_)
  have L1 : ∀ (n : Nat) (K1 : Int32 → Int32 → Option Int32) (uv_1 : Int32) (uv_2 : Int32) (H : Heap) (locs : List Loc) (ls : Array Slot), lv_has ls 5 [(2, .int uv_2), (1, .int uv_1), (0, .ref (G.2.1 58))] → gx_at G C (I, V) o d s.heap H locs → f_X7_stuckNow_L1 I V K1 n uv_1 uv_2 = some out → (∀ (uv_1 : Int32) (uv_2 : Int32) (H : Heap) (locs : List Loc) (ls : Array Slot), lv_has ls 5 [(2, .int uv_2), (1, .int uv_1), (0, .ref (G.2.1 58))] → gx_at G C (I, V) o d s.heap H locs → K1 uv_1 uv_2 = some out → W p l e ({ frames := 5, cells := 0, slots := 0, locals := 116 } : Room) s m ([.ref (G.2.1 58)] : List Value).toArray below meth c H locs 0 0 (MQ below (gx_Qi G out C (I, V) o d) ([.ref (G.2.1 58)] : List Value).toArray s 0 0 (gx_A G)) (F0 m 91 ls [])) → W p l e ({ frames := 5, cells := 0, slots := 0, locals := 116 } : Room) s m ([.ref (G.2.1 58)] : List Value).toArray below meth c H locs 0 0 (MQ below (gx_Qi G out C (I, V) o d) ([.ref (G.2.1 58)] : List Value).toArray s 0 0 (gx_A G)) (F0 m 4 ls []) := by
    intro n
    induction n with
    | zero =>
      intro K1 uv_1 uv_2 H locs ls hl hw hF hK
      rw [f_X7_stuckNow_L1] at hF
      cases hF
    | succ n ih1 =>
      intro K1 uv_1 uv_2 H locs ls hl hw hF hK1
      rw [f_X7_stuckNow_L1] at hF
      refine lv_iload_n (pc := 4) hx hb dX7_stuckNow_4 rfl (lv_at hl 0 rfl) ?_
      refine lv_bipush (pc := 5) (v := 42) hx hb dX7_stuckNow_5 (by decide) ?_
      refine gx_icmp_ge (pc := 7) (tgt := 91) hx hb hF dX7_stuckNow_7 (by decide) (fun hF => ?_) (fun hF => ?_)
      · exact hK1 _ _ _ _ _ (lv_sub hl [0, 1, 2] rfl) hw hF
      refine lv_iconst (pc := 10) (v := 0) hx hb dX7_stuckNow_10 (by decide) ?_
      refine lv_istore_n (pc := 11) (lv' := [(3, .int 0), (2, .int uv_2), (1, .int uv_1), (0, .ref (G.2.1 58))]) hx hb dX7_stuckNow_11 rfl hl (by decide) rfl (fun ls hl => ?_)
      refine lv_iconst (pc := 12) (v := 0) hx hb dX7_stuckNow_12 (by decide) ?_
      refine lv_istore (pc := 13) (lv' := [(4, .int 0), (3, .int 0), (2, .int uv_2), (1, .int uv_1), (0, .ref (G.2.1 58))]) hx hb dX7_stuckNow_13 hl (by decide) rfl (fun ls hl => ?_)
      have L2 : ∀ (n : Nat) (K2 : Int32 → Int32 → Option Int32) (uv_3 : Int32) (uv_4 : Int32) (H : Heap) (locs : List Loc) (ls : Array Slot), lv_has ls 5 [(4, .int uv_4), (3, .int uv_3), (2, .int uv_2), (1, .int uv_1), (0, .ref (G.2.1 58))] → gx_at G C (I, V) o d s.heap H locs → f_X7_stuckNow_L2 I V uv_2 K2 n uv_3 uv_4 = some out → (∀ (uv_3 : Int32) (uv_4 : Int32) (H : Heap) (locs : List Loc) (ls : Array Slot), lv_has ls 5 [(4, .int uv_4), (3, .int uv_3), (2, .int uv_2), (1, .int uv_1), (0, .ref (G.2.1 58))] → gx_at G C (I, V) o d s.heap H locs → K2 uv_3 uv_4 = some out → W p l e ({ frames := 5, cells := 0, slots := 0, locals := 116 } : Room) s m ([.ref (G.2.1 58)] : List Value).toArray below meth c H locs 0 0 (MQ below (gx_Qi G out C (I, V) o d) ([.ref (G.2.1 58)] : List Value).toArray s 0 0 (gx_A G)) (F0 m 57 ls [])) → W p l e ({ frames := 5, cells := 0, slots := 0, locals := 116 } : Room) s m ([.ref (G.2.1 58)] : List Value).toArray below meth c H locs 0 0 (MQ below (gx_Qi G out C (I, V) o d) ([.ref (G.2.1 58)] : List Value).toArray s 0 0 (gx_A G)) (F0 m 15 ls []) := by
        intro n
        induction n with
        | zero =>
          intro K2 uv_3 uv_4 H locs ls hl hw hF hK
          rw [f_X7_stuckNow_L2] at hF
          cases hF
        | succ n ih2 =>
          intro K2 uv_3 uv_4 H locs ls hl hw hF hK2
          rw [f_X7_stuckNow_L2] at hF
          refine lv_iload (pc := 15) hx hb dX7_stuckNow_15 (lv_at hl 0 rfl) ?_
          refine lv_iconst (pc := 17) (v := 4) hx hb dX7_stuckNow_17 (by decide) ?_
          refine gx_icmp_ge (pc := 18) (tgt := 57) hx hb hF dX7_stuckNow_18 (by decide) (fun hF => ?_) (fun hF => ?_)
          · exact hK2 _ _ _ _ _ (lv_sub hl [0, 1, 2, 3, 4] rfl) hw hF
          refine lv_iload_n (pc := 21) hx hb dX7_stuckNow_21 rfl (lv_at hl 1 rfl) ?_
          refine lv_iload_n (pc := 22) hx hb dX7_stuckNow_22 rfl (lv_at hl 2 rfl) ?_
          refine lv_iload (pc := 23) hx hb dX7_stuckNow_23 (lv_at hl 0 rfl) ?_
          obtain ⟨uq_5, huq_5, hF⟩ := Option.bind_eq_some_iff.mp hF
          refine cl_X7_beside (pc := 25) hx hb hml hown hV hw huq_5 (gw_1130 hV) hl.1 (Nat.le_of_ble_eq_true rfl) (Nat.le_of_ble_eq_true rfl) (Nat.le_of_ble_eq_true rfl) dX7_stuckNow_25 (fun H locs hw => ?_)
          refine gx_if_lt (pc := 28) (tgt := 48) hx hb hF dX7_stuckNow_28 (by decide) (fun hF => ?_) (fun hF => ?_)
          · refine lv_iconst (pc := 48) (v := 0) hx hb dX7_stuckNow_48 (by decide) ?_
            refine lv_ior (pc := 49) hx hb dX7_stuckNow_49 ?_
            refine lv_istore_n (pc := 50) (lv' := [(3, .int (uv_3 ||| 0)), (4, .int uv_4), (2, .int uv_2), (1, .int uv_1), (0, .ref (G.2.1 58))]) hx hb dX7_stuckNow_50 rfl hl (by decide) rfl (fun ls hl => ?_)
            refine lv_iinc (pc := 51) (v := (uv_4 + 1)) (lv' := [(4, .int (uv_4 + 1)), (3, .int (uv_3 ||| 0)), (2, .int uv_2), (1, .int uv_1), (0, .ref (G.2.1 58))]) hx hb dX7_stuckNow_51 hl (k := 1) rfl rfl (by decide) rfl (fun ls hl => ?_)
            refine lv_goto (pc := 54) (tgt := 15) hx hb dX7_stuckNow_54 (by decide) ?_
            exact ih2 _ _ _ _ _ _ (lv_sub hl [0, 1, 2, 3, 4] rfl) hw hF hK2
          refine lv_aload_n (pc := 31) hx hb dX7_stuckNow_31 rfl (lv_at hl 4 rfl) ?_
          refine lv_iload_n (pc := 32) hx hb dX7_stuckNow_32 rfl (lv_at hl 2 rfl) ?_
          refine lv_iload (pc := 33) hx hb dX7_stuckNow_33 (lv_at hl 0 rfl) ?_
          obtain ⟨uq_6, huq_6, hF⟩ := Option.bind_eq_some_iff.mp hF
          refine cl_X7_beside (pc := 35) hx hb hml hown hV hw huq_6 (gw_1130 hV) hl.1 (Nat.le_of_ble_eq_true rfl) (Nat.le_of_ble_eq_true rfl) (Nat.le_of_ble_eq_true rfl) dX7_stuckNow_35 (fun H locs hw => ?_)
          obtain ⟨uq_7, huq_7, hF⟩ := Option.bind_eq_some_iff.mp hF
          refine cl_X7_isFree (pc := 38) hx hb hml hown hV hw huq_7 (gw_1118 hV) hl.1 (Nat.le_of_ble_eq_true rfl) (Nat.le_of_ble_eq_true rfl) (Nat.le_of_ble_eq_true rfl) dX7_stuckNow_38 (fun H locs hw => ?_)
          refine gx_if_ne (pc := 41) (tgt := 48) hx hb hF dX7_stuckNow_41 (by decide) (fun hF => ?_) (fun hF => ?_)
          · refine lv_iconst (pc := 48) (v := 0) hx hb dX7_stuckNow_48 (by decide) ?_
            refine lv_ior (pc := 49) hx hb dX7_stuckNow_49 ?_
            refine lv_istore_n (pc := 50) (lv' := [(3, .int (uv_3 ||| 0)), (4, .int uv_4), (2, .int uv_2), (1, .int uv_1), (0, .ref (G.2.1 58))]) hx hb dX7_stuckNow_50 rfl hl (by decide) rfl (fun ls hl => ?_)
            refine lv_iinc (pc := 51) (v := (uv_4 + 1)) (lv' := [(4, .int (uv_4 + 1)), (3, .int (uv_3 ||| 0)), (2, .int uv_2), (1, .int uv_1), (0, .ref (G.2.1 58))]) hx hb dX7_stuckNow_51 hl (k := 1) rfl rfl (by decide) rfl (fun ls hl => ?_)
            refine lv_goto (pc := 54) (tgt := 15) hx hb dX7_stuckNow_54 (by decide) ?_
            exact ih2 _ _ _ _ _ _ (lv_sub hl [0, 1, 2, 3, 4] rfl) hw hF hK2
          refine lv_iconst (pc := 44) (v := 1) hx hb dX7_stuckNow_44 (by decide) ?_
          refine lv_goto (pc := 45) (tgt := 49) hx hb dX7_stuckNow_45 (by decide) ?_
          refine lv_ior (pc := 49) hx hb dX7_stuckNow_49 ?_
          refine lv_istore_n (pc := 50) (lv' := [(3, .int (uv_3 ||| 1)), (4, .int uv_4), (2, .int uv_2), (1, .int uv_1), (0, .ref (G.2.1 58))]) hx hb dX7_stuckNow_50 rfl hl (by decide) rfl (fun ls hl => ?_)
          refine lv_iinc (pc := 51) (v := (uv_4 + 1)) (lv' := [(4, .int (uv_4 + 1)), (3, .int (uv_3 ||| 1)), (2, .int uv_2), (1, .int uv_1), (0, .ref (G.2.1 58))]) hx hb dX7_stuckNow_51 hl (k := 1) rfl rfl (by decide) rfl (fun ls hl => ?_)
          refine lv_goto (pc := 54) (tgt := 15) hx hb dX7_stuckNow_54 (by decide) ?_
          exact ih2 _ _ _ _ _ _ (lv_sub hl [0, 1, 2, 3, 4] rfl) hw hF hK2
      refine L2 1000 _ _ _ _ _ _ hl hw hF (fun uv_8 uv_9 H locs ls hl hw hF => ?_)
      refine lv_iload_n (pc := 57) hx hb dX7_stuckNow_57 rfl (lv_at hl 3 rfl) ?_
      refine lv_aload_n (pc := 58) hx hb dX7_stuckNow_58 rfl (lv_at hl 4 rfl) ?_
      refine lv_iload_n (pc := 59) hx hb dX7_stuckNow_59 rfl (lv_at hl 2 rfl) ?_
      obtain ⟨uq_10, huq_10, hF⟩ := Option.bind_eq_some_iff.mp hF
      refine cl_X7_isFree (pc := 60) hx hb hml hown hV hw huq_10 (gw_1118 hV) hl.1 (Nat.le_of_ble_eq_true rfl) (Nat.le_of_ble_eq_true rfl) (Nat.le_of_ble_eq_true rfl) dX7_stuckNow_60 (fun H locs hw => ?_)
      refine gx_if_eq (pc := 63) (tgt := 82) hx hb hF dX7_stuckNow_63 (by decide) (fun hF => ?_) (fun hF => ?_)
      · refine lv_iconst (pc := 82) (v := 0) hx hb dX7_stuckNow_82 (by decide) ?_
        refine lv_iadd (pc := 83) hx hb dX7_stuckNow_83 ?_
        refine lv_istore_n (pc := 84) (lv' := [(1, .int (uv_1 + 0)), (4, .int uv_9), (3, .int uv_8), (2, .int uv_2), (0, .ref (G.2.1 58))]) hx hb dX7_stuckNow_84 rfl hl (by decide) rfl (fun ls hl => ?_)
        refine lv_iinc (pc := 85) (v := (uv_2 + 1)) (lv' := [(2, .int (uv_2 + 1)), (1, .int (uv_1 + 0)), (4, .int uv_9), (3, .int uv_8), (0, .ref (G.2.1 58))]) hx hb dX7_stuckNow_85 hl (k := 3) rfl rfl (by decide) rfl (fun ls hl => ?_)
        refine lv_goto (pc := 88) (tgt := 4) hx hb dX7_stuckNow_88 (by decide) ?_
        exact ih1 _ _ _ _ _ _ (lv_sub hl [0, 1, 4] rfl) hw hF hK1
      refine lv_iload_n (pc := 66) hx hb dX7_stuckNow_66 rfl (lv_at hl 1 rfl) ?_
      refine gx_if_eq (pc := 67) (tgt := 82) hx hb hF dX7_stuckNow_67 (by decide) (fun hF => ?_) (fun hF => ?_)
      · refine lv_iconst (pc := 82) (v := 0) hx hb dX7_stuckNow_82 (by decide) ?_
        refine lv_iadd (pc := 83) hx hb dX7_stuckNow_83 ?_
        refine lv_istore_n (pc := 84) (lv' := [(1, .int (uv_1 + 0)), (4, .int uv_9), (3, .int uv_8), (2, .int uv_2), (0, .ref (G.2.1 58))]) hx hb dX7_stuckNow_84 rfl hl (by decide) rfl (fun ls hl => ?_)
        refine lv_iinc (pc := 85) (v := (uv_2 + 1)) (lv' := [(2, .int (uv_2 + 1)), (1, .int (uv_1 + 0)), (4, .int uv_9), (3, .int uv_8), (0, .ref (G.2.1 58))]) hx hb dX7_stuckNow_85 hl (k := 3) rfl rfl (by decide) rfl (fun ls hl => ?_)
        refine lv_goto (pc := 88) (tgt := 4) hx hb dX7_stuckNow_88 (by decide) ?_
        exact ih1 _ _ _ _ _ _ (lv_sub hl [0, 1, 4] rfl) hw hF hK1
      refine lv_aload_n (pc := 70) hx hb dX7_stuckNow_70 rfl (lv_at hl 4 rfl) ?_
      refine lv_iload_n (pc := 71) hx hb dX7_stuckNow_71 rfl (lv_at hl 2 rfl) ?_
      obtain ⟨uq_11, huq_11, hF⟩ := Option.bind_eq_some_iff.mp hF
      refine cl_X7_choicesAt (pc := 72) hx hb hml hown hV hw huq_11 (gw_1157 hV) hl.1 (Nat.le_of_ble_eq_true rfl) (Nat.le_of_ble_eq_true rfl) (Nat.le_of_ble_eq_true rfl) dX7_stuckNow_72 (fun H locs hw => ?_)
      refine gx_if_ne (pc := 75) (tgt := 82) hx hb hF dX7_stuckNow_75 (by decide) (fun hF => ?_) (fun hF => ?_)
      · refine lv_iconst (pc := 82) (v := 0) hx hb dX7_stuckNow_82 (by decide) ?_
        refine lv_iadd (pc := 83) hx hb dX7_stuckNow_83 ?_
        refine lv_istore_n (pc := 84) (lv' := [(1, .int (uv_1 + 0)), (4, .int uv_9), (3, .int uv_8), (2, .int uv_2), (0, .ref (G.2.1 58))]) hx hb dX7_stuckNow_84 rfl hl (by decide) rfl (fun ls hl => ?_)
        refine lv_iinc (pc := 85) (v := (uv_2 + 1)) (lv' := [(2, .int (uv_2 + 1)), (1, .int (uv_1 + 0)), (4, .int uv_9), (3, .int uv_8), (0, .ref (G.2.1 58))]) hx hb dX7_stuckNow_85 hl (k := 3) rfl rfl (by decide) rfl (fun ls hl => ?_)
        refine lv_goto (pc := 88) (tgt := 4) hx hb dX7_stuckNow_88 (by decide) ?_
        exact ih1 _ _ _ _ _ _ (lv_sub hl [0, 1, 4] rfl) hw hF hK1
      refine lv_iconst (pc := 78) (v := 1) hx hb dX7_stuckNow_78 (by decide) ?_
      refine lv_goto (pc := 79) (tgt := 83) hx hb dX7_stuckNow_79 (by decide) ?_
      refine lv_iadd (pc := 83) hx hb dX7_stuckNow_83 ?_
      refine lv_istore_n (pc := 84) (lv' := [(1, .int (uv_1 + 1)), (4, .int uv_9), (3, .int uv_8), (2, .int uv_2), (0, .ref (G.2.1 58))]) hx hb dX7_stuckNow_84 rfl hl (by decide) rfl (fun ls hl => ?_)
      refine lv_iinc (pc := 85) (v := (uv_2 + 1)) (lv' := [(2, .int (uv_2 + 1)), (1, .int (uv_1 + 1)), (4, .int uv_9), (3, .int uv_8), (0, .ref (G.2.1 58))]) hx hb dX7_stuckNow_85 hl (k := 3) rfl rfl (by decide) rfl (fun ls hl => ?_)
      refine lv_goto (pc := 88) (tgt := 4) hx hb dX7_stuckNow_88 (by decide) ?_
      exact ih1 _ _ _ _ _ _ (lv_sub hl [0, 1, 4] rfl) hw hF hK1
  refine L1 1000 _ _ _ _ _ _ hl hw hF (fun uv_12 uv_13 H locs ls hl hw hF => ?_)
  refine lv_iload_n (pc := 91) hx hb dX7_stuckNow_91 rfl (lv_at hl 1 rfl) ?_
  cases hF
  exact gx_iret hx hb hr hlocks hw dX7_stuckNow_92
set_option maxRecDepth 100000 in
theorem cl_X7_stuckNow {l : Launch} {G : gx_G} {C : gx_S} {o : Int64} {d : UInt64} {I V : gx_F} {p : Program} {e : Env} {R : Room} {s : State} {m : MethodId} {args : Array Value} {below : List Frame} {meth : Method} {c : Code} {H : Heap} {locs : List Loc} {cells slots : Nat} {Q : State → Prop} {cc : ByteArray} {pc nL index : Nat} {ls : Array Slot} {rest : List Value} {own : String} {out : Int32} (hx : p.tables.exec = Jvm.exec) (hb : c.code = cc) (hml : c.maxLocals = nL) (hown : s.vm.findClass own = some m.cls) (hV : gx_V G s) (hw : gx_at G C (I, V) o d s.heap H locs) (hF : f_X7_stuckNow I V = some out) (hlink : (Cond.methodLink own index yX7_stuckNow).before args s = true) (hsz : ls.size = nL) (hfr : 6 ≤ R.frames) (hlo : 140 ≤ R.locals) (hrest : (rest.map fun v => v.category).sum ≤ 8) (hdg : decode cc pc = .ok (.invokevirtual index, 3))
    (kk : ∀ (H1 : Heap) (locs1 : List Loc), gx_at G C (I, V) o d s.heap H1 locs1 → W p l e R s m args below meth c H1 locs1 cells slots Q (F0 m (pc + 3) ls (.int out :: rest))) (hc : cells ≤ R.cells := by exact Nat.zero_le _) (hs : slots ≤ R.slots := by exact Nat.zero_le _) : W p l e R s m args below meth c H locs cells slots Q (F0 m pc ls (.ref (G.2.1 58) :: rest)) :=
  gx_runi hw (va_runV (C := RX7) (As := []) (rest := rest) ⟨hx, hb, hml, hown, (fun _ h => nomatch h : ∀ w ∈ ([] : List Cond), w.before args s = true)⟩ (k_X7_stuckNow hF) ⟨gx_callB (n := 0) rfl rfl hlink (gw_56 hV) (gw_1172 hV) (by decide +kernel) ⟨hfr, hlo⟩, gw_1171 hV, gw_32 hV⟩ (gx_recv (k := 58) (ci := 9) (T := TX7) hV hw (by decide) rfl rfl) rfl rfl hsz rfl (lv_room hrest) hdg ⟨hc, hs⟩) kk
set_option maxHeartbeats 4000000 in
set_option maxRecDepth 100000 in
theorem k_X7_grow {l : Launch} {G : gx_G} {C : gx_S} {o : Int64} {d : UInt64} {I V : gx_F} {x1 : Int32} {out : (Int32 × gx_F × gx_F)} (hF : f_X7_grow x1 I V = some out) : gx_K l yX7_grow cX7_grow 2 (some .int) { frames := 7, cells := 0, slots := 0, locals := 160 } [.ref (G.2.1 58), .int x1] G C (I, V) o d (gx_Qi G out.1 C (out.2.1, out.2.2) o d) 0 0 := by
  refine gx_begin (by decide +kernel) (Nat.le_of_ble_eq_true rfl) ?_
  intro p e s m below meth c hx hb hr hml hown hlocks hV hw ls hl
  have hown : s.vm.findClass RX7 = some m.cls := hown
  have hl : lv_has ls 2 [(0, .ref (G.2.1 58)), (1, .int x1)] := hl
  unfold f_X7_grow at hF
  refine lv_iload_n (pc := 0) hx hb dX7_grow_0 rfl (lv_at hl 1 rfl) ?_
  refine lv_iconst (pc := 1) (v := 1) hx hb dX7_grow_1 (by decide) ?_
  refine lv_bipush (pc := 2) (v := 42) hx hb dX7_grow_2 (by decide) ?_
  obtain ⟨uq_1, huq_1, hF⟩ := Option.bind_eq_some_iff.mp hF
  refine cl_X7_in (pc := 4) hx hb hml hown hV hw huq_1 (gw_1093 hV) hl.1 (Nat.le_of_ble_eq_true rfl) (Nat.le_of_ble_eq_true rfl) (Nat.le_of_ble_eq_true rfl) dX7_grow_4 (fun H locs hw => ?_)
  refine gx_if_ne (pc := 7) (tgt := 17) hx hb hF dX7_grow_7 (by decide) (fun hF => ?_) (fun hF => ?_)
  · refine lv_aload_n (pc := 17) hx hb dX7_grow_17 rfl (lv_at hl 0 rfl) ?_
    obtain ⟨uq_2, huq_2, hF⟩ := Option.bind_eq_some_iff.mp hF
    refine cl_X7_growsAt (pc := 18) hx hb hml hown hV hw huq_2 (gw_1153 hV) hl.1 (Nat.le_of_ble_eq_true rfl) (Nat.le_of_ble_eq_true rfl) (Nat.le_of_ble_eq_true rfl) dX7_grow_18 (fun H locs hw => ?_)
    refine gx_if_ge (pc := 21) (tgt := 35) hx hb hF dX7_grow_21 (by decide) (fun hF => ?_) (fun hF => ?_)
    · refine lv_aload_n (pc := 35) hx hb dX7_grow_35 rfl (lv_at hl 0 rfl) ?_
      refine lv_aload_n (pc := 36) hx hb dX7_grow_36 rfl (lv_at hl 0 rfl) ?_
      refine gg_X7_0 (pc := 37) hx hb hown hV hw (gw_1018 hV) dX7_grow_37 ?_
      obtain ⟨uq_3, huq_3, hF⟩ := Option.bind_eq_some_iff.mp hF
      refine cl_X7_keeps (pc := 40) hx hb hml hown hV hw gx_a59 huq_3 (gw_1100 hV) hl.1 (Nat.le_of_ble_eq_true rfl) (Nat.le_of_ble_eq_true rfl) (Nat.le_of_ble_eq_true rfl) dX7_grow_40 (fun H locs hw => ?_)
      refine lv_aload_n (pc := 43) hx hb dX7_grow_43 rfl (lv_at hl 0 rfl) ?_
      refine lv_iload_n (pc := 44) hx hb dX7_grow_44 rfl (lv_at hl 1 rfl) ?_
      obtain ⟨uq_4, huq_4, hF⟩ := Option.bind_eq_some_iff.mp hF
      refine cl_X7_growsBy (pc := 45) hx hb hml hown hV hw huq_4 (gw_1173 hV) hl.1 (Nat.le_of_ble_eq_true rfl) (Nat.le_of_ble_eq_true rfl) (Nat.le_of_ble_eq_true rfl) dX7_grow_45 (fun H locs hw => ?_)
      cases hF
      exact gx_iret hx hb hr hlocks hw dX7_grow_48
    refine lv_aload_n (pc := 24) hx hb dX7_grow_24 rfl (lv_at hl 0 rfl) ?_
    refine lv_bipush (pc := 25) (v := 8) hx hb dX7_grow_25 (by decide) ?_
    refine lv_aload_n (pc := 27) hx hb dX7_grow_27 rfl (lv_at hl 0 rfl) ?_
    obtain ⟨uq_5, huq_5, hF⟩ := Option.bind_eq_some_iff.mp hF
    refine cl_X7_stuckNow (pc := 28) hx hb hml hown hV hw huq_5 (gw_1169 hV) hl.1 (Nat.le_of_ble_eq_true rfl) (Nat.le_of_ble_eq_true rfl) (Nat.le_of_ble_eq_true rfl) dX7_grow_28 (fun H locs hw => ?_)
    obtain ⟨uq_6, huq_6, hF⟩ := Option.bind_eq_some_iff.mp hF
    refine cl_X7_refuses (pc := 31) hx hb hml hown hV hw huq_6 (gw_1096 hV) hl.1 (Nat.le_of_ble_eq_true rfl) (Nat.le_of_ble_eq_true rfl) (Nat.le_of_ble_eq_true rfl) dX7_grow_31 (fun H locs hw => ?_)
    cases hF
    exact gx_iret hx hb hr hlocks hw dX7_grow_34
  refine lv_aload_n (pc := 10) hx hb dX7_grow_10 rfl (lv_at hl 0 rfl) ?_
  refine lv_iconst (pc := 11) (v := 1) hx hb dX7_grow_11 (by decide) ?_
  refine lv_iconst (pc := 12) (v := 0) hx hb dX7_grow_12 (by decide) ?_
  obtain ⟨uq_7, huq_7, hF⟩ := Option.bind_eq_some_iff.mp hF
  refine cl_X7_refuses (pc := 13) hx hb hml hown hV hw huq_7 (gw_1096 hV) hl.1 (Nat.le_of_ble_eq_true rfl) (Nat.le_of_ble_eq_true rfl) (Nat.le_of_ble_eq_true rfl) dX7_grow_13 (fun H locs hw => ?_)
  cases hF
  exact gx_iret hx hb hr hlocks hw dX7_grow_16
set_option maxRecDepth 100000 in
theorem cl_X7_grow {l : Launch} {G : gx_G} {C : gx_S} {o : Int64} {d : UInt64} {I V : gx_F} {p : Program} {e : Env} {R : Room} {s : State} {m : MethodId} {args : Array Value} {below : List Frame} {meth : Method} {c : Code} {H : Heap} {locs : List Loc} {cells slots : Nat} {Q : State → Prop} {cc : ByteArray} {pc nL index : Nat} {ls : Array Slot} {rest : List Value} {own : String} {x1 : Int32} {out : (Int32 × gx_F × gx_F)} (hx : p.tables.exec = Jvm.exec) (hb : c.code = cc) (hml : c.maxLocals = nL) (hown : s.vm.findClass own = some m.cls) (hV : gx_V G s) (hw : gx_at G C (I, V) o d s.heap H locs) (hF : f_X7_grow x1 I V = some out) (hlink : (Cond.methodLink own index yX7_grow).before args s = true) (hsz : ls.size = nL) (hfr : 8 ≤ R.frames) (hlo : 181 ≤ R.locals) (hrest : (rest.map fun v => v.category).sum ≤ 8) (hdg : decode cc pc = .ok (.invokevirtual index, 3))
    (kk : ∀ (H1 : Heap) (locs1 : List Loc), gx_at G C (out.2.1, out.2.2) o d s.heap H1 locs1 → W p l e R s m args below meth c H1 locs1 cells slots Q (F0 m (pc + 3) ls (.int out.1 :: rest))) (hc : cells ≤ R.cells := by exact Nat.zero_le _) (hs : slots ≤ R.slots := by exact Nat.zero_le _) : W p l e R s m args below meth c H locs cells slots Q (F0 m pc ls (.int x1 :: .ref (G.2.1 58) :: rest)) :=
  gx_runi hw (va_runV (C := RX7) (As := [.int x1]) (rest := rest) ⟨hx, hb, hml, hown, (fun _ h => nomatch h : ∀ w ∈ ([] : List Cond), w.before args s = true)⟩ (k_X7_grow hF) ⟨gx_callB (n := 1) rfl rfl hlink (gw_56 hV) (gw_1152 hV) (by decide +kernel) ⟨hfr, hlo⟩, gw_1150 hV, gw_1151 hV⟩ (gx_recv (k := 58) (ci := 9) (T := TX7) hV hw (by decide) rfl rfl) rfl rfl hsz rfl (lv_room hrest) hdg ⟨hc, hs⟩) kk
set_option maxHeartbeats 4000000 in
set_option maxRecDepth 100000 in
theorem k_X7_strength {l : Launch} {G : gx_G} {C : gx_S} {o : Int64} {d : UInt64} {I V : gx_F} {x1 : Int32} {x2 : Int32} {out : (Int32 × gx_F × gx_F)} (hF : f_X7_strength x1 x2 I V = some out) : gx_K l yX7_strength cX7_strength 4 (some .int) { frames := 2, cells := 0, slots := 0, locals := 46 } [.ref (G.2.1 58), .int x1, .int x2] G C (I, V) o d (gx_Qi G out.1 C (out.2.1, out.2.2) o d) 0 0 := by
  refine gx_begin (by decide +kernel) (Nat.le_of_ble_eq_true rfl) ?_
  intro p e s m below meth c hx hb hr hml hown hlocks hV hw ls hl
  have hown : s.vm.findClass RX7 = some m.cls := hown
  have hl : lv_has ls 4 [(0, .ref (G.2.1 58)), (1, .int x1), (2, .int x2)] := hl
  unfold f_X7_strength at hF
  refine lv_iload_n (pc := 0) hx hb dX7_strength_0 rfl (lv_at hl 1 rfl) ?_
  refine lv_iconst (pc := 1) (v := 1) hx hb dX7_strength_1 (by decide) ?_
  refine lv_bipush (pc := 2) (v := 6) hx hb dX7_strength_2 (by decide) ?_
  obtain ⟨uq_1, huq_1, hF⟩ := Option.bind_eq_some_iff.mp hF
  refine cl_X7_in (pc := 4) hx hb hml hown hV hw huq_1 (gw_1093 hV) hl.1 (Nat.le_of_ble_eq_true rfl) (Nat.le_of_ble_eq_true rfl) (Nat.le_of_ble_eq_true rfl) dX7_strength_4 (fun H locs hw => ?_)
  refine gx_if_eq (pc := 7) (tgt := 19) hx hb hF dX7_strength_7 (by decide) (fun hF => ?_) (fun hF => ?_)
  · refine lv_aload_n (pc := 19) hx hb dX7_strength_19 rfl (lv_at hl 0 rfl) ?_
    refine lv_iconst (pc := 20) (v := 1) hx hb dX7_strength_20 (by decide) ?_
    refine lv_iconst (pc := 21) (v := 0) hx hb dX7_strength_21 (by decide) ?_
    obtain ⟨uq_2, huq_2, hF⟩ := Option.bind_eq_some_iff.mp hF
    refine cl_X7_refuses (pc := 22) hx hb hml hown hV hw huq_2 (gw_1096 hV) hl.1 (Nat.le_of_ble_eq_true rfl) (Nat.le_of_ble_eq_true rfl) (Nat.le_of_ble_eq_true rfl) dX7_strength_22 (fun H locs hw => ?_)
    cases hF
    exact gx_iret hx hb hr hlocks hw dX7_strength_25
  refine lv_iload_n (pc := 10) hx hb dX7_strength_10 rfl (lv_at hl 2 rfl) ?_
  refine lv_iconst (pc := 11) (v := 0) hx hb dX7_strength_11 (by decide) ?_
  refine lv_iconst (pc := 12) (v := 3) hx hb dX7_strength_12 (by decide) ?_
  obtain ⟨uq_3, huq_3, hF⟩ := Option.bind_eq_some_iff.mp hF
  refine cl_X7_in (pc := 13) hx hb hml hown hV hw huq_3 (gw_1093 hV) hl.1 (Nat.le_of_ble_eq_true rfl) (Nat.le_of_ble_eq_true rfl) (Nat.le_of_ble_eq_true rfl) dX7_strength_13 (fun H locs hw => ?_)
  refine gx_if_ne (pc := 16) (tgt := 26) hx hb hF dX7_strength_16 (by decide) (fun hF => ?_) (fun hF => ?_)
  · refine lv_aload_n (pc := 26) hx hb dX7_strength_26 rfl (lv_at hl 0 rfl) ?_
    refine gg_X7_0 (pc := 27) hx hb hown hV hw (gw_1018 hV) dX7_strength_27 ?_
    refine lv_bipush (pc := 30) (v := 6) hx hb dX7_strength_30 (by decide) ?_
    refine lv_iload_n (pc := 32) hx hb dX7_strength_32 rfl (lv_at hl 1 rfl) ?_
    refine lv_iadd (pc := 33) hx hb dX7_strength_33 ?_
    refine ga_59_ld (pc := 34) hx hb hV hw hF dX7_strength_34 (fun _ hF => ?_)
    refine lv_istore_n (pc := 35) (lv' := [(3, .int (V 59 (6 + x1).toNatClampNeg)), (0, .ref (G.2.1 58)), (1, .int x1), (2, .int x2)]) hx hb dX7_strength_35 rfl hl (by decide) rfl (fun ls hl => ?_)
    refine lv_iload_n (pc := 36) hx hb dX7_strength_36 rfl (lv_at hl 0 rfl) ?_
    refine lv_iload_n (pc := 37) hx hb dX7_strength_37 rfl (lv_at hl 3 rfl) ?_
    refine gx_icmp_ne (pc := 38) (tgt := 49) hx hb hF dX7_strength_38 (by decide) (fun hF => ?_) (fun hF => ?_)
    · refine lv_aload_n (pc := 49) hx hb dX7_strength_49 rfl (lv_at hl 1 rfl) ?_
      refine lv_aload_n (pc := 50) hx hb dX7_strength_50 rfl (lv_at hl 1 rfl) ?_
      refine gg_X7_0 (pc := 51) hx hb hown hV hw (gw_1018 hV) dX7_strength_51 ?_
      obtain ⟨uq_4, huq_4, hF⟩ := Option.bind_eq_some_iff.mp hF
      refine cl_X7_keeps (pc := 54) hx hb hml hown hV hw gx_a59 huq_4 (gw_1100 hV) hl.1 (Nat.le_of_ble_eq_true rfl) (Nat.le_of_ble_eq_true rfl) (Nat.le_of_ble_eq_true rfl) dX7_strength_54 (fun H locs hw => ?_)
      refine lv_aload_n (pc := 57) hx hb dX7_strength_57 rfl (lv_at hl 1 rfl) ?_
      refine gg_X7_0 (pc := 58) hx hb hown hV hw (gw_1018 hV) dX7_strength_58 ?_
      refine lv_bipush (pc := 61) (v := 6) hx hb dX7_strength_61 (by decide) ?_
      refine lv_iload_n (pc := 63) hx hb dX7_strength_63 rfl (lv_at hl 2 rfl) ?_
      refine lv_iadd (pc := 64) hx hb dX7_strength_64 ?_
      refine lv_iload_n (pc := 65) hx hb dX7_strength_65 rfl (lv_at hl 3 rfl) ?_
      refine ga_59_st (pc := 66) hx hb hV hw hF dX7_strength_66 (fun H locs hw hF => ?_)
      refine lv_iload_n (pc := 67) hx hb dX7_strength_67 rfl (lv_at hl 0 rfl) ?_
      cases hF
      exact gx_iret hx hb hr hlocks hw dX7_strength_68
    refine lv_aload_n (pc := 41) hx hb dX7_strength_41 rfl (lv_at hl 1 rfl) ?_
    refine lv_bipush (pc := 42) (v := 9) hx hb dX7_strength_42 (by decide) ?_
    refine lv_iconst (pc := 44) (v := 0) hx hb dX7_strength_44 (by decide) ?_
    obtain ⟨uq_5, huq_5, hF⟩ := Option.bind_eq_some_iff.mp hF
    refine cl_X7_refuses (pc := 45) hx hb hml hown hV hw huq_5 (gw_1096 hV) hl.1 (Nat.le_of_ble_eq_true rfl) (Nat.le_of_ble_eq_true rfl) (Nat.le_of_ble_eq_true rfl) dX7_strength_45 (fun H locs hw => ?_)
    cases hF
    exact gx_iret hx hb hr hlocks hw dX7_strength_48
  refine lv_aload_n (pc := 19) hx hb dX7_strength_19 rfl (lv_at hl 0 rfl) ?_
  refine lv_iconst (pc := 20) (v := 1) hx hb dX7_strength_20 (by decide) ?_
  refine lv_iconst (pc := 21) (v := 0) hx hb dX7_strength_21 (by decide) ?_
  obtain ⟨uq_6, huq_6, hF⟩ := Option.bind_eq_some_iff.mp hF
  refine cl_X7_refuses (pc := 22) hx hb hml hown hV hw huq_6 (gw_1096 hV) hl.1 (Nat.le_of_ble_eq_true rfl) (Nat.le_of_ble_eq_true rfl) (Nat.le_of_ble_eq_true rfl) dX7_strength_22 (fun H locs hw => ?_)
  cases hF
  exact gx_iret hx hb hr hlocks hw dX7_strength_25
set_option maxRecDepth 100000 in
theorem cl_X7_strength {l : Launch} {G : gx_G} {C : gx_S} {o : Int64} {d : UInt64} {I V : gx_F} {p : Program} {e : Env} {R : Room} {s : State} {m : MethodId} {args : Array Value} {below : List Frame} {meth : Method} {c : Code} {H : Heap} {locs : List Loc} {cells slots : Nat} {Q : State → Prop} {cc : ByteArray} {pc nL index : Nat} {ls : Array Slot} {rest : List Value} {own : String} {x1 : Int32} {x2 : Int32} {out : (Int32 × gx_F × gx_F)} (hx : p.tables.exec = Jvm.exec) (hb : c.code = cc) (hml : c.maxLocals = nL) (hown : s.vm.findClass own = some m.cls) (hV : gx_V G s) (hw : gx_at G C (I, V) o d s.heap H locs) (hF : f_X7_strength x1 x2 I V = some out) (hlink : (Cond.methodLink own index yX7_strength).before args s = true) (hsz : ls.size = nL) (hfr : 3 ≤ R.frames) (hlo : 69 ≤ R.locals) (hrest : (rest.map fun v => v.category).sum ≤ 8) (hdg : decode cc pc = .ok (.invokevirtual index, 3))
    (kk : ∀ (H1 : Heap) (locs1 : List Loc), gx_at G C (out.2.1, out.2.2) o d s.heap H1 locs1 → W p l e R s m args below meth c H1 locs1 cells slots Q (F0 m (pc + 3) ls (.int out.1 :: rest))) (hc : cells ≤ R.cells := by exact Nat.zero_le _) (hs : slots ≤ R.slots := by exact Nat.zero_le _) : W p l e R s m args below meth c H locs cells slots Q (F0 m pc ls (.int x2 :: .int x1 :: .ref (G.2.1 58) :: rest)) :=
  gx_runi hw (va_runV (C := RX7) (As := [.int x1, .int x2]) (rest := rest) ⟨hx, hb, hml, hown, (fun _ h => nomatch h : ∀ w ∈ ([] : List Cond), w.before args s = true)⟩ (k_X7_strength hF) ⟨gx_callB (n := 2) rfl rfl hlink (gw_56 hV) (gw_1184 hV) (by decide +kernel) ⟨hfr, hlo⟩, gw_1182 hV, gw_1183 hV⟩ (gx_recv (k := 58) (ci := 9) (T := TX7) hV hw (by decide) rfl rfl) rfl rfl hsz rfl (lv_room hrest) hdg ⟨hc, hs⟩) kk
set_option maxHeartbeats 4000000 in
set_option maxRecDepth 100000 in
theorem k_X7_need {l : Launch} {G : gx_G} {C : gx_S} {o : Int64} {d : UInt64} {I V : gx_F} {x1 : Int32} {out : (Int32 × gx_F × gx_F)} (hF : f_X7_need x1 I V = some out) : gx_K l yX7_need cX7_need 3 (some .int) { frames := 2, cells := 0, slots := 0, locals := 46 } [.ref (G.2.1 58), .int x1] G C (I, V) o d (gx_Qi G out.1 C (out.2.1, out.2.2) o d) 0 0 := by
  refine gx_begin (by decide +kernel) (Nat.le_of_ble_eq_true rfl) ?_
  intro p e s m below meth c hx hb hr hml hown hlocks hV hw ls hl
  have hown : s.vm.findClass RX7 = some m.cls := hown
  have hl : lv_has ls 3 [(0, .ref (G.2.1 58)), (1, .int x1)] := hl
  unfold f_X7_need at hF
  refine lv_iload_n (pc := 0) hx hb dX7_need_0 rfl (lv_at hl 1 rfl) ?_
  refine lv_iconst (pc := 1) (v := 1) hx hb dX7_need_1 (by decide) ?_
  refine lv_bipush (pc := 2) (v := 6) hx hb dX7_need_2 (by decide) ?_
  obtain ⟨uq_1, huq_1, hF⟩ := Option.bind_eq_some_iff.mp hF
  refine cl_X7_in (pc := 4) hx hb hml hown hV hw huq_1 (gw_1093 hV) hl.1 (Nat.le_of_ble_eq_true rfl) (Nat.le_of_ble_eq_true rfl) (Nat.le_of_ble_eq_true rfl) dX7_need_4 (fun H locs hw => ?_)
  refine gx_if_ne (pc := 7) (tgt := 17) hx hb hF dX7_need_7 (by decide) (fun hF => ?_) (fun hF => ?_)
  · refine lv_iload_n (pc := 17) hx hb dX7_need_17 rfl (lv_at hl 1 rfl) ?_
    refine lv_aload_n (pc := 18) hx hb dX7_need_18 rfl (lv_at hl 0 rfl) ?_
    refine gg_X7_0 (pc := 19) hx hb hown hV hw (gw_1018 hV) dX7_need_19 ?_
    refine lv_iconst (pc := 22) (v := 2) hx hb dX7_need_22 (by decide) ?_
    refine ga_59_ld (pc := 23) hx hb hV hw hF dX7_need_23 (fun _ hF => ?_)
    refine gx_icmp_ne (pc := 24) (tgt := 35) hx hb hF dX7_need_24 (by decide) (fun hF => ?_) (fun hF => ?_)
    · refine lv_aload_n (pc := 35) hx hb dX7_need_35 rfl (lv_at hl 0 rfl) ?_
      refine lv_aload_n (pc := 36) hx hb dX7_need_36 rfl (lv_at hl 0 rfl) ?_
      refine gg_X7_0 (pc := 37) hx hb hown hV hw (gw_1018 hV) dX7_need_37 ?_
      obtain ⟨uq_2, huq_2, hF⟩ := Option.bind_eq_some_iff.mp hF
      refine cl_X7_keeps (pc := 40) hx hb hml hown hV hw gx_a59 huq_2 (gw_1100 hV) hl.1 (Nat.le_of_ble_eq_true rfl) (Nat.le_of_ble_eq_true rfl) (Nat.le_of_ble_eq_true rfl) dX7_need_40 (fun H locs hw => ?_)
      refine lv_aload_n (pc := 43) hx hb dX7_need_43 rfl (lv_at hl 0 rfl) ?_
      refine gg_X7_0 (pc := 44) hx hb hown hV hw (gw_1018 hV) dX7_need_44 ?_
      refine lv_iconst (pc := 47) (v := 2) hx hb dX7_need_47 (by decide) ?_
      refine ga_59_ld (pc := 48) hx hb hV hw hF dX7_need_48 (fun _ hF => ?_)
      refine lv_istore_n (pc := 49) (lv' := [(2, .int (uq_2.2 59 (2 : Int32).toNatClampNeg)), (0, .ref (G.2.1 58)), (1, .int x1)]) hx hb dX7_need_49 rfl hl (by decide) rfl (fun ls hl => ?_)
      refine lv_aload_n (pc := 50) hx hb dX7_need_50 rfl (lv_at hl 1 rfl) ?_
      refine gg_X7_0 (pc := 51) hx hb hown hV hw (gw_1018 hV) dX7_need_51 ?_
      refine lv_iconst (pc := 54) (v := 2) hx hb dX7_need_54 (by decide) ?_
      refine lv_iload_n (pc := 55) hx hb dX7_need_55 rfl (lv_at hl 2 rfl) ?_
      refine ga_59_st (pc := 56) hx hb hV hw hF dX7_need_56 (fun H locs hw hF => ?_)
      refine lv_iload_n (pc := 57) hx hb dX7_need_57 rfl (lv_at hl 0 rfl) ?_
      cases hF
      exact gx_iret hx hb hr hlocks hw dX7_need_58
    refine lv_aload_n (pc := 27) hx hb dX7_need_27 rfl (lv_at hl 0 rfl) ?_
    refine lv_bipush (pc := 28) (v := 9) hx hb dX7_need_28 (by decide) ?_
    refine lv_iconst (pc := 30) (v := 0) hx hb dX7_need_30 (by decide) ?_
    obtain ⟨uq_3, huq_3, hF⟩ := Option.bind_eq_some_iff.mp hF
    refine cl_X7_refuses (pc := 31) hx hb hml hown hV hw huq_3 (gw_1096 hV) hl.1 (Nat.le_of_ble_eq_true rfl) (Nat.le_of_ble_eq_true rfl) (Nat.le_of_ble_eq_true rfl) dX7_need_31 (fun H locs hw => ?_)
    cases hF
    exact gx_iret hx hb hr hlocks hw dX7_need_34
  refine lv_aload_n (pc := 10) hx hb dX7_need_10 rfl (lv_at hl 0 rfl) ?_
  refine lv_iconst (pc := 11) (v := 1) hx hb dX7_need_11 (by decide) ?_
  refine lv_iconst (pc := 12) (v := 0) hx hb dX7_need_12 (by decide) ?_
  obtain ⟨uq_4, huq_4, hF⟩ := Option.bind_eq_some_iff.mp hF
  refine cl_X7_refuses (pc := 13) hx hb hml hown hV hw huq_4 (gw_1096 hV) hl.1 (Nat.le_of_ble_eq_true rfl) (Nat.le_of_ble_eq_true rfl) (Nat.le_of_ble_eq_true rfl) dX7_need_13 (fun H locs hw => ?_)
  cases hF
  exact gx_iret hx hb hr hlocks hw dX7_need_16
set_option maxRecDepth 100000 in
theorem cl_X7_need {l : Launch} {G : gx_G} {C : gx_S} {o : Int64} {d : UInt64} {I V : gx_F} {p : Program} {e : Env} {R : Room} {s : State} {m : MethodId} {args : Array Value} {below : List Frame} {meth : Method} {c : Code} {H : Heap} {locs : List Loc} {cells slots : Nat} {Q : State → Prop} {cc : ByteArray} {pc nL index : Nat} {ls : Array Slot} {rest : List Value} {own : String} {x1 : Int32} {out : (Int32 × gx_F × gx_F)} (hx : p.tables.exec = Jvm.exec) (hb : c.code = cc) (hml : c.maxLocals = nL) (hown : s.vm.findClass own = some m.cls) (hV : gx_V G s) (hw : gx_at G C (I, V) o d s.heap H locs) (hF : f_X7_need x1 I V = some out) (hlink : (Cond.methodLink own index yX7_need).before args s = true) (hsz : ls.size = nL) (hfr : 3 ≤ R.frames) (hlo : 68 ≤ R.locals) (hrest : (rest.map fun v => v.category).sum ≤ 8) (hdg : decode cc pc = .ok (.invokevirtual index, 3))
    (kk : ∀ (H1 : Heap) (locs1 : List Loc), gx_at G C (out.2.1, out.2.2) o d s.heap H1 locs1 → W p l e R s m args below meth c H1 locs1 cells slots Q (F0 m (pc + 3) ls (.int out.1 :: rest))) (hc : cells ≤ R.cells := by exact Nat.zero_le _) (hs : slots ≤ R.slots := by exact Nat.zero_le _) : W p l e R s m args below meth c H locs cells slots Q (F0 m pc ls (.int x1 :: .ref (G.2.1 58) :: rest)) :=
  gx_runi hw (va_runV (C := RX7) (As := [.int x1]) (rest := rest) ⟨hx, hb, hml, hown, (fun _ h => nomatch h : ∀ w ∈ ([] : List Cond), w.before args s = true)⟩ (k_X7_need hF) ⟨gx_callB (n := 1) rfl rfl hlink (gw_56 hV) (gw_1188 hV) (by decide +kernel) ⟨hfr, hlo⟩, gw_1186 hV, gw_1187 hV⟩ (gx_recv (k := 58) (ci := 9) (T := TX7) hV hw (by decide) rfl rfl) rfl rfl hsz rfl (lv_room hrest) hdg ⟨hc, hs⟩) kk
set_option maxHeartbeats 4000000 in
set_option maxRecDepth 100000 in
theorem k_X7_glueOf {l : Launch} {G : gx_G} {C : gx_S} {o : Int64} {d : UInt64} {I V : gx_F} {x1 : Int32} {x2 : Int32} {x3 : Int32} {out : (Int32 × gx_F × gx_F)} (hF : f_X7_glueOf x1 x2 x3 I V = some out) : gx_K l yX7_glueOf cX7_glueOf 4 (some .int) { frames := 2, cells := 0, slots := 0, locals := 43 } [.ref (G.2.1 58), .int x1, .int x2, .int x3] G C (I, V) o d (gx_Qi G out.1 C (out.2.1, out.2.2) o d) 0 0 := by
  refine gx_begin (by decide +kernel) (Nat.le_of_ble_eq_true rfl) ?_
  intro p e s m below meth c hx hb hr hml hown hlocks hV hw ls hl
  have hown : s.vm.findClass RX7 = some m.cls := hown
  have hl : lv_has ls 4 [(0, .ref (G.2.1 58)), (1, .int x1), (2, .int x2), (3, .int x3)] := hl
  unfold f_X7_glueOf at hF
  refine lv_aload_n (pc := 0) hx hb dX7_glueOf_0 rfl (lv_at hl 0 rfl) ?_
  refine lv_aload_n (pc := 1) hx hb dX7_glueOf_1 rfl (lv_at hl 0 rfl) ?_
  refine lv_iload_n (pc := 2) hx hb dX7_glueOf_2 rfl (lv_at hl 1 rfl) ?_
  obtain ⟨uq_1, huq_1, hF⟩ := Option.bind_eq_some_iff.mp hF
  refine cl_X7_isKind (pc := 3) hx hb hml hown hV hw huq_1 (gw_1114 hV) hl.1 (Nat.le_of_ble_eq_true rfl) (Nat.le_of_ble_eq_true rfl) (Nat.le_of_ble_eq_true rfl) dX7_glueOf_3 (fun H locs hw => ?_)
  refine gx_if_ne (pc := 6) (tgt := 13) hx hb hF dX7_glueOf_6 (by decide) (fun hF => ?_) (fun hF => ?_)
  · refine lv_iload_n (pc := 13) hx hb dX7_glueOf_13 rfl (lv_at hl 2 rfl) ?_
    refine lv_iconst (pc := 14) (v := 0) hx hb dX7_glueOf_14 (by decide) ?_
    refine lv_iconst (pc := 15) (v := 3) hx hb dX7_glueOf_15 (by decide) ?_
    obtain ⟨uq_2, huq_2, hF⟩ := Option.bind_eq_some_iff.mp hF
    refine cl_X7_in (pc := 16) hx hb hml hown hV hw huq_2 (gw_1093 hV) hl.1 (Nat.le_of_ble_eq_true rfl) (Nat.le_of_ble_eq_true rfl) (Nat.le_of_ble_eq_true rfl) dX7_glueOf_16 (fun H locs hw => ?_)
    refine gx_if_eq (pc := 19) (tgt := 35) hx hb hF dX7_glueOf_19 (by decide) (fun hF => ?_) (fun hF => ?_)
    · refine lv_iconst (pc := 35) (v := 2) hx hb dX7_glueOf_35 (by decide) ?_
      obtain ⟨uq_3, huq_3, hF⟩ := Option.bind_eq_some_iff.mp hF
      refine cl_X7_fails (pc := 36) hx hb hml hown hV hw huq_3 (gw_1193 hV) hl.1 (Nat.le_of_ble_eq_true rfl) (Nat.le_of_ble_eq_true rfl) (Nat.le_of_ble_eq_true rfl) dX7_glueOf_36 (fun H locs hw => ?_)
      refine gx_if_eq (pc := 39) (tgt := 46) hx hb hF dX7_glueOf_39 (by decide) (fun hF => ?_) (fun hF => ?_)
      · refine lv_aload_n (pc := 46) hx hb dX7_glueOf_46 rfl (lv_at hl 0 rfl) ?_
        refine lv_iconst (pc := 47) (v := 4) hx hb dX7_glueOf_47 (by decide) ?_
        refine lv_iload_n (pc := 48) hx hb dX7_glueOf_48 rfl (lv_at hl 1 rfl) ?_
        refine lv_imul (pc := 49) hx hb dX7_glueOf_49 ?_
        refine lv_iload_n (pc := 50) hx hb dX7_glueOf_50 rfl (lv_at hl 2 rfl) ?_
        refine lv_iadd (pc := 51) hx hb dX7_glueOf_51 ?_
        refine lv_iload_n (pc := 52) hx hb dX7_glueOf_52 rfl (lv_at hl 3 rfl) ?_
        obtain ⟨uq_4, huq_4, hF⟩ := Option.bind_eq_some_iff.mp hF
        refine cl_X7_glue (pc := 53) hx hb hml hown hV hw huq_4 (gw_1133 hV) hl.1 (Nat.le_of_ble_eq_true rfl) (Nat.le_of_ble_eq_true rfl) (Nat.le_of_ble_eq_true rfl) dX7_glueOf_53 (fun H locs hw => ?_)
        cases hF
        exact gx_iret hx hb hr hlocks hw dX7_glueOf_56
      refine lv_iconst (pc := 42) (v := 0) hx hb dX7_glueOf_42 (by decide) ?_
      refine lv_goto (pc := 43) (tgt := 56) hx hb dX7_glueOf_43 (by decide) ?_
      cases hF
      exact gx_iret hx hb hr hlocks hw dX7_glueOf_56
    refine lv_iload_n (pc := 22) hx hb dX7_glueOf_22 rfl (lv_at hl 3 rfl) ?_
    refine lv_iconst (pc := 23) (v := 0) hx hb dX7_glueOf_23 (by decide) ?_
    refine lv_iconst (pc := 24) (v := 3) hx hb dX7_glueOf_24 (by decide) ?_
    obtain ⟨uq_5, huq_5, hF⟩ := Option.bind_eq_some_iff.mp hF
    refine cl_X7_in (pc := 25) hx hb hml hown hV hw huq_5 (gw_1093 hV) hl.1 (Nat.le_of_ble_eq_true rfl) (Nat.le_of_ble_eq_true rfl) (Nat.le_of_ble_eq_true rfl) dX7_glueOf_25 (fun H locs hw => ?_)
    refine gx_if_eq (pc := 28) (tgt := 35) hx hb hF dX7_glueOf_28 (by decide) (fun hF => ?_) (fun hF => ?_)
    · refine lv_iconst (pc := 35) (v := 2) hx hb dX7_glueOf_35 (by decide) ?_
      obtain ⟨uq_6, huq_6, hF⟩ := Option.bind_eq_some_iff.mp hF
      refine cl_X7_fails (pc := 36) hx hb hml hown hV hw huq_6 (gw_1193 hV) hl.1 (Nat.le_of_ble_eq_true rfl) (Nat.le_of_ble_eq_true rfl) (Nat.le_of_ble_eq_true rfl) dX7_glueOf_36 (fun H locs hw => ?_)
      refine gx_if_eq (pc := 39) (tgt := 46) hx hb hF dX7_glueOf_39 (by decide) (fun hF => ?_) (fun hF => ?_)
      · refine lv_aload_n (pc := 46) hx hb dX7_glueOf_46 rfl (lv_at hl 0 rfl) ?_
        refine lv_iconst (pc := 47) (v := 4) hx hb dX7_glueOf_47 (by decide) ?_
        refine lv_iload_n (pc := 48) hx hb dX7_glueOf_48 rfl (lv_at hl 1 rfl) ?_
        refine lv_imul (pc := 49) hx hb dX7_glueOf_49 ?_
        refine lv_iload_n (pc := 50) hx hb dX7_glueOf_50 rfl (lv_at hl 2 rfl) ?_
        refine lv_iadd (pc := 51) hx hb dX7_glueOf_51 ?_
        refine lv_iload_n (pc := 52) hx hb dX7_glueOf_52 rfl (lv_at hl 3 rfl) ?_
        obtain ⟨uq_7, huq_7, hF⟩ := Option.bind_eq_some_iff.mp hF
        refine cl_X7_glue (pc := 53) hx hb hml hown hV hw huq_7 (gw_1133 hV) hl.1 (Nat.le_of_ble_eq_true rfl) (Nat.le_of_ble_eq_true rfl) (Nat.le_of_ble_eq_true rfl) dX7_glueOf_53 (fun H locs hw => ?_)
        cases hF
        exact gx_iret hx hb hr hlocks hw dX7_glueOf_56
      refine lv_iconst (pc := 42) (v := 0) hx hb dX7_glueOf_42 (by decide) ?_
      refine lv_goto (pc := 43) (tgt := 56) hx hb dX7_glueOf_43 (by decide) ?_
      cases hF
      exact gx_iret hx hb hr hlocks hw dX7_glueOf_56
    refine lv_iconst (pc := 31) (v := 0) hx hb dX7_glueOf_31 (by decide) ?_
    refine lv_goto (pc := 32) (tgt := 36) hx hb dX7_glueOf_32 (by decide) ?_
    obtain ⟨uq_8, huq_8, hF⟩ := Option.bind_eq_some_iff.mp hF
    refine cl_X7_fails (pc := 36) hx hb hml hown hV hw huq_8 (gw_1193 hV) hl.1 (Nat.le_of_ble_eq_true rfl) (Nat.le_of_ble_eq_true rfl) (Nat.le_of_ble_eq_true rfl) dX7_glueOf_36 (fun H locs hw => ?_)
    refine gx_if_eq (pc := 39) (tgt := 46) hx hb hF dX7_glueOf_39 (by decide) (fun hF => ?_) (fun hF => ?_)
    · refine lv_aload_n (pc := 46) hx hb dX7_glueOf_46 rfl (lv_at hl 0 rfl) ?_
      refine lv_iconst (pc := 47) (v := 4) hx hb dX7_glueOf_47 (by decide) ?_
      refine lv_iload_n (pc := 48) hx hb dX7_glueOf_48 rfl (lv_at hl 1 rfl) ?_
      refine lv_imul (pc := 49) hx hb dX7_glueOf_49 ?_
      refine lv_iload_n (pc := 50) hx hb dX7_glueOf_50 rfl (lv_at hl 2 rfl) ?_
      refine lv_iadd (pc := 51) hx hb dX7_glueOf_51 ?_
      refine lv_iload_n (pc := 52) hx hb dX7_glueOf_52 rfl (lv_at hl 3 rfl) ?_
      obtain ⟨uq_9, huq_9, hF⟩ := Option.bind_eq_some_iff.mp hF
      refine cl_X7_glue (pc := 53) hx hb hml hown hV hw huq_9 (gw_1133 hV) hl.1 (Nat.le_of_ble_eq_true rfl) (Nat.le_of_ble_eq_true rfl) (Nat.le_of_ble_eq_true rfl) dX7_glueOf_53 (fun H locs hw => ?_)
      cases hF
      exact gx_iret hx hb hr hlocks hw dX7_glueOf_56
    refine lv_iconst (pc := 42) (v := 0) hx hb dX7_glueOf_42 (by decide) ?_
    refine lv_goto (pc := 43) (tgt := 56) hx hb dX7_glueOf_43 (by decide) ?_
    cases hF
    exact gx_iret hx hb hr hlocks hw dX7_glueOf_56
  refine lv_iconst (pc := 9) (v := 1) hx hb dX7_glueOf_9 (by decide) ?_
  refine lv_goto (pc := 10) (tgt := 36) hx hb dX7_glueOf_10 (by decide) ?_
  obtain ⟨uq_10, huq_10, hF⟩ := Option.bind_eq_some_iff.mp hF
  refine cl_X7_fails (pc := 36) hx hb hml hown hV hw huq_10 (gw_1193 hV) hl.1 (Nat.le_of_ble_eq_true rfl) (Nat.le_of_ble_eq_true rfl) (Nat.le_of_ble_eq_true rfl) dX7_glueOf_36 (fun H locs hw => ?_)
  refine gx_if_eq (pc := 39) (tgt := 46) hx hb hF dX7_glueOf_39 (by decide) (fun hF => ?_) (fun hF => ?_)
  · refine lv_aload_n (pc := 46) hx hb dX7_glueOf_46 rfl (lv_at hl 0 rfl) ?_
    refine lv_iconst (pc := 47) (v := 4) hx hb dX7_glueOf_47 (by decide) ?_
    refine lv_iload_n (pc := 48) hx hb dX7_glueOf_48 rfl (lv_at hl 1 rfl) ?_
    refine lv_imul (pc := 49) hx hb dX7_glueOf_49 ?_
    refine lv_iload_n (pc := 50) hx hb dX7_glueOf_50 rfl (lv_at hl 2 rfl) ?_
    refine lv_iadd (pc := 51) hx hb dX7_glueOf_51 ?_
    refine lv_iload_n (pc := 52) hx hb dX7_glueOf_52 rfl (lv_at hl 3 rfl) ?_
    obtain ⟨uq_11, huq_11, hF⟩ := Option.bind_eq_some_iff.mp hF
    refine cl_X7_glue (pc := 53) hx hb hml hown hV hw huq_11 (gw_1133 hV) hl.1 (Nat.le_of_ble_eq_true rfl) (Nat.le_of_ble_eq_true rfl) (Nat.le_of_ble_eq_true rfl) dX7_glueOf_53 (fun H locs hw => ?_)
    cases hF
    exact gx_iret hx hb hr hlocks hw dX7_glueOf_56
  refine lv_iconst (pc := 42) (v := 0) hx hb dX7_glueOf_42 (by decide) ?_
  refine lv_goto (pc := 43) (tgt := 56) hx hb dX7_glueOf_43 (by decide) ?_
  cases hF
  exact gx_iret hx hb hr hlocks hw dX7_glueOf_56
set_option maxRecDepth 100000 in
theorem cl_X7_glueOf {l : Launch} {G : gx_G} {C : gx_S} {o : Int64} {d : UInt64} {I V : gx_F} {p : Program} {e : Env} {R : Room} {s : State} {m : MethodId} {args : Array Value} {below : List Frame} {meth : Method} {c : Code} {H : Heap} {locs : List Loc} {cells slots : Nat} {Q : State → Prop} {cc : ByteArray} {pc nL index : Nat} {ls : Array Slot} {rest : List Value} {own : String} {x1 : Int32} {x2 : Int32} {x3 : Int32} {out : (Int32 × gx_F × gx_F)} (hx : p.tables.exec = Jvm.exec) (hb : c.code = cc) (hml : c.maxLocals = nL) (hown : s.vm.findClass own = some m.cls) (hV : gx_V G s) (hw : gx_at G C (I, V) o d s.heap H locs) (hF : f_X7_glueOf x1 x2 x3 I V = some out) (hlink : (Cond.methodLink own index yX7_glueOf).before args s = true) (hsz : ls.size = nL) (hfr : 3 ≤ R.frames) (hlo : 66 ≤ R.locals) (hrest : (rest.map fun v => v.category).sum ≤ 8) (hdg : decode cc pc = .ok (.invokevirtual index, 3))
    (kk : ∀ (H1 : Heap) (locs1 : List Loc), gx_at G C (out.2.1, out.2.2) o d s.heap H1 locs1 → W p l e R s m args below meth c H1 locs1 cells slots Q (F0 m (pc + 3) ls (.int out.1 :: rest))) (hc : cells ≤ R.cells := by exact Nat.zero_le _) (hs : slots ≤ R.slots := by exact Nat.zero_le _) : W p l e R s m args below meth c H locs cells slots Q (F0 m pc ls (.int x3 :: .int x2 :: .int x1 :: .ref (G.2.1 58) :: rest)) :=
  gx_runi hw (va_runV (C := RX7) (As := [.int x1, .int x2, .int x3]) (rest := rest) ⟨hx, hb, hml, hown, (fun _ h => nomatch h : ∀ w ∈ ([] : List Cond), w.before args s = true)⟩ (k_X7_glueOf hF) ⟨gx_callB (n := 3) rfl rfl hlink (gw_56 hV) (gw_1192 hV) (by decide +kernel) ⟨hfr, hlo⟩, gw_1190 hV, gw_1191 hV⟩ (gx_recv (k := 58) (ci := 9) (T := TX7) hV hw (by decide) rfl rfl) rfl rfl hsz rfl (lv_room hrest) hdg ⟨hc, hs⟩) kk
set_option maxHeartbeats 4000000 in
set_option maxRecDepth 100000 in
theorem k_X7_strengthOf {l : Launch} {G : gx_G} {C : gx_S} {o : Int64} {d : UInt64} {I V : gx_F} {x1 : Int32} {out : (Int32 × gx_F × gx_F)} (hF : f_X7_strengthOf x1 I V = some out) : gx_K l yX7_strengthOf cX7_strengthOf 2 (some .int) { frames := 1, cells := 0, slots := 0, locals := 22 } [.ref (G.2.1 58), .int x1] G C (I, V) o d (gx_Qi G out.1 C (out.2.1, out.2.2) o d) 0 0 := by
  refine gx_begin (by decide +kernel) (Nat.le_of_ble_eq_true rfl) ?_
  intro p e s m below meth c hx hb hr hml hown hlocks hV hw ls hl
  have hown : s.vm.findClass RX7 = some m.cls := hown
  have hl : lv_has ls 2 [(0, .ref (G.2.1 58)), (1, .int x1)] := hl
  unfold f_X7_strengthOf at hF
  refine lv_aload_n (pc := 0) hx hb dX7_strengthOf_0 rfl (lv_at hl 0 rfl) ?_
  refine lv_iload_n (pc := 1) hx hb dX7_strengthOf_1 rfl (lv_at hl 1 rfl) ?_
  refine lv_iconst (pc := 2) (v := 0) hx hb dX7_strengthOf_2 (by decide) ?_
  refine lv_bipush (pc := 3) (v := 6) hx hb dX7_strengthOf_3 (by decide) ?_
  obtain ⟨uq_1, huq_1, hF⟩ := Option.bind_eq_some_iff.mp hF
  refine cl_X7_in (pc := 5) hx hb hml hown hV hw huq_1 (gw_1093 hV) hl.1 (Nat.le_of_ble_eq_true rfl) (Nat.le_of_ble_eq_true rfl) (Nat.le_of_ble_eq_true rfl) dX7_strengthOf_5 (fun H locs hw => ?_)
  refine gx_if_eq (pc := 8) (tgt := 15) hx hb hF dX7_strengthOf_8 (by decide) (fun hF => ?_) (fun hF => ?_)
  · refine lv_iconst (pc := 15) (v := 1) hx hb dX7_strengthOf_15 (by decide) ?_
    obtain ⟨uq_2, huq_2, hF⟩ := Option.bind_eq_some_iff.mp hF
    refine cl_X7_fails (pc := 16) hx hb hml hown hV hw huq_2 (gw_1193 hV) hl.1 (Nat.le_of_ble_eq_true rfl) (Nat.le_of_ble_eq_true rfl) (Nat.le_of_ble_eq_true rfl) dX7_strengthOf_16 (fun H locs hw => ?_)
    refine gx_if_eq (pc := 19) (tgt := 26) hx hb hF dX7_strengthOf_19 (by decide) (fun hF => ?_) (fun hF => ?_)
    · refine lv_aload_n (pc := 26) hx hb dX7_strengthOf_26 rfl (lv_at hl 0 rfl) ?_
      refine gg_X7_0 (pc := 27) hx hb hown hV hw (gw_1018 hV) dX7_strengthOf_27 ?_
      refine lv_bipush (pc := 30) (v := 6) hx hb dX7_strengthOf_30 (by decide) ?_
      refine lv_iload_n (pc := 32) hx hb dX7_strengthOf_32 rfl (lv_at hl 1 rfl) ?_
      refine lv_iadd (pc := 33) hx hb dX7_strengthOf_33 ?_
      refine ga_59_ld (pc := 34) hx hb hV hw hF dX7_strengthOf_34 (fun _ hF => ?_)
      cases hF
      exact gx_iret hx hb hr hlocks hw dX7_strengthOf_35
    refine lv_iconst (pc := 22) (v := 0) hx hb dX7_strengthOf_22 (by decide) ?_
    refine lv_goto (pc := 23) (tgt := 35) hx hb dX7_strengthOf_23 (by decide) ?_
    cases hF
    exact gx_iret hx hb hr hlocks hw dX7_strengthOf_35
  refine lv_iconst (pc := 11) (v := 0) hx hb dX7_strengthOf_11 (by decide) ?_
  refine lv_goto (pc := 12) (tgt := 16) hx hb dX7_strengthOf_12 (by decide) ?_
  obtain ⟨uq_3, huq_3, hF⟩ := Option.bind_eq_some_iff.mp hF
  refine cl_X7_fails (pc := 16) hx hb hml hown hV hw huq_3 (gw_1193 hV) hl.1 (Nat.le_of_ble_eq_true rfl) (Nat.le_of_ble_eq_true rfl) (Nat.le_of_ble_eq_true rfl) dX7_strengthOf_16 (fun H locs hw => ?_)
  refine gx_if_eq (pc := 19) (tgt := 26) hx hb hF dX7_strengthOf_19 (by decide) (fun hF => ?_) (fun hF => ?_)
  · refine lv_aload_n (pc := 26) hx hb dX7_strengthOf_26 rfl (lv_at hl 0 rfl) ?_
    refine gg_X7_0 (pc := 27) hx hb hown hV hw (gw_1018 hV) dX7_strengthOf_27 ?_
    refine lv_bipush (pc := 30) (v := 6) hx hb dX7_strengthOf_30 (by decide) ?_
    refine lv_iload_n (pc := 32) hx hb dX7_strengthOf_32 rfl (lv_at hl 1 rfl) ?_
    refine lv_iadd (pc := 33) hx hb dX7_strengthOf_33 ?_
    refine ga_59_ld (pc := 34) hx hb hV hw hF dX7_strengthOf_34 (fun _ hF => ?_)
    cases hF
    exact gx_iret hx hb hr hlocks hw dX7_strengthOf_35
  refine lv_iconst (pc := 22) (v := 0) hx hb dX7_strengthOf_22 (by decide) ?_
  refine lv_goto (pc := 23) (tgt := 35) hx hb dX7_strengthOf_23 (by decide) ?_
  cases hF
  exact gx_iret hx hb hr hlocks hw dX7_strengthOf_35
set_option maxRecDepth 100000 in
theorem cl_X7_strengthOf {l : Launch} {G : gx_G} {C : gx_S} {o : Int64} {d : UInt64} {I V : gx_F} {p : Program} {e : Env} {R : Room} {s : State} {m : MethodId} {args : Array Value} {below : List Frame} {meth : Method} {c : Code} {H : Heap} {locs : List Loc} {cells slots : Nat} {Q : State → Prop} {cc : ByteArray} {pc nL index : Nat} {ls : Array Slot} {rest : List Value} {own : String} {x1 : Int32} {out : (Int32 × gx_F × gx_F)} (hx : p.tables.exec = Jvm.exec) (hb : c.code = cc) (hml : c.maxLocals = nL) (hown : s.vm.findClass own = some m.cls) (hV : gx_V G s) (hw : gx_at G C (I, V) o d s.heap H locs) (hF : f_X7_strengthOf x1 I V = some out) (hlink : (Cond.methodLink own index yX7_strengthOf).before args s = true) (hsz : ls.size = nL) (hfr : 2 ≤ R.frames) (hlo : 43 ≤ R.locals) (hrest : (rest.map fun v => v.category).sum ≤ 8) (hdg : decode cc pc = .ok (.invokevirtual index, 3))
    (kk : ∀ (H1 : Heap) (locs1 : List Loc), gx_at G C (out.2.1, out.2.2) o d s.heap H1 locs1 → W p l e R s m args below meth c H1 locs1 cells slots Q (F0 m (pc + 3) ls (.int out.1 :: rest))) (hc : cells ≤ R.cells := by exact Nat.zero_le _) (hs : slots ≤ R.slots := by exact Nat.zero_le _) : W p l e R s m args below meth c H locs cells slots Q (F0 m pc ls (.int x1 :: .ref (G.2.1 58) :: rest)) :=
  gx_runi hw (va_runV (C := RX7) (As := [.int x1]) (rest := rest) ⟨hx, hb, hml, hown, (fun _ h => nomatch h : ∀ w ∈ ([] : List Cond), w.before args s = true)⟩ (k_X7_strengthOf hF) ⟨gx_callB (n := 1) rfl rfl hlink (gw_56 hV) (gw_1200 hV) (by decide +kernel) ⟨hfr, hlo⟩, gw_1198 hV, gw_1199 hV⟩ (gx_recv (k := 58) (ci := 9) (T := TX7) hV hw (by decide) rfl rfl) rfl rfl hsz rfl (lv_room hrest) hdg ⟨hc, hs⟩) kk
set_option maxHeartbeats 4000000 in
set_option maxRecDepth 100000 in
theorem k_X7_isNoBrick {l : Launch} {G : gx_G} {C : gx_S} {o : Int64} {d : UInt64} {I V : gx_F} {x1 : Int32} {out : (Bool × gx_F × gx_F)} (hF : f_X7_isNoBrick x1 I V = some out) : gx_K l yX7_isNoBrick cX7_isNoBrick 2 (some .boolean) { frames := 2, cells := 0, slots := 0, locals := 42 } [.ref (G.2.1 58), .int x1] G C (I, V) o d (gx_Qi G (gx_bi out.1) C (out.2.1, out.2.2) o d) 0 0 := by
  refine gx_begin (by decide +kernel) (Nat.le_of_ble_eq_true rfl) ?_
  intro p e s m below meth c hx hb hr hml hown hlocks hV hw ls hl
  have hown : s.vm.findClass RX7 = some m.cls := hown
  have hl : lv_has ls 2 [(0, .ref (G.2.1 58)), (1, .int x1)] := hl
  unfold f_X7_isNoBrick at hF
  refine lv_aload_n (pc := 0) hx hb dX7_isNoBrick_0 rfl (lv_at hl 0 rfl) ?_
  refine lv_iload_n (pc := 1) hx hb dX7_isNoBrick_1 rfl (lv_at hl 1 rfl) ?_
  obtain ⟨uq_1, huq_1, hF⟩ := Option.bind_eq_some_iff.mp hF
  refine cl_X7_isPlace (pc := 2) hx hb hml hown hV hw huq_1 (gw_1111 hV) hl.1 (Nat.le_of_ble_eq_true rfl) (Nat.le_of_ble_eq_true rfl) (Nat.le_of_ble_eq_true rfl) dX7_isNoBrick_2 (fun H locs hw => ?_)
  refine gx_if_ne (pc := 5) (tgt := 12) hx hb hF dX7_isNoBrick_5 (by decide) (fun hF => ?_) (fun hF => ?_)
  · refine lv_aload_n (pc := 12) hx hb dX7_isNoBrick_12 rfl (lv_at hl 0 rfl) ?_
    refine lv_iload_n (pc := 13) hx hb dX7_isNoBrick_13 rfl (lv_at hl 1 rfl) ?_
    obtain ⟨uq_2, huq_2, hF⟩ := Option.bind_eq_some_iff.mp hF
    refine cl_X7_isFree (pc := 14) hx hb hml hown hV hw huq_2 (gw_1118 hV) hl.1 (Nat.le_of_ble_eq_true rfl) (Nat.le_of_ble_eq_true rfl) (Nat.le_of_ble_eq_true rfl) dX7_isNoBrick_14 (fun H locs hw => ?_)
    refine gx_if_eq (pc := 17) (tgt := 24) hx hb hF dX7_isNoBrick_17 (by decide) (fun hF => ?_) (fun hF => ?_)
    · refine lv_iconst (pc := 24) (v := 0) hx hb dX7_isNoBrick_24 (by decide) ?_
      obtain ⟨uq_3, huq_3, hF⟩ := Option.bind_eq_some_iff.mp hF
      refine cl_X7_fails (pc := 25) hx hb hml hown hV hw huq_3 (gw_1193 hV) hl.1 (Nat.le_of_ble_eq_true rfl) (Nat.le_of_ble_eq_true rfl) (Nat.le_of_ble_eq_true rfl) dX7_isNoBrick_25 (fun H locs hw => ?_)
      cases hF
      exact gx_zret hx hb hr (gx_narb _) hlocks hw dX7_isNoBrick_28
    refine lv_iconst (pc := 20) (v := 2) hx hb dX7_isNoBrick_20 (by decide) ?_
    refine lv_goto (pc := 21) (tgt := 25) hx hb dX7_isNoBrick_21 (by decide) ?_
    obtain ⟨uq_4, huq_4, hF⟩ := Option.bind_eq_some_iff.mp hF
    refine cl_X7_fails (pc := 25) hx hb hml hown hV hw huq_4 (gw_1193 hV) hl.1 (Nat.le_of_ble_eq_true rfl) (Nat.le_of_ble_eq_true rfl) (Nat.le_of_ble_eq_true rfl) dX7_isNoBrick_25 (fun H locs hw => ?_)
    cases hF
    exact gx_zret hx hb hr (gx_narb _) hlocks hw dX7_isNoBrick_28
  refine lv_iconst (pc := 8) (v := 1) hx hb dX7_isNoBrick_8 (by decide) ?_
  refine lv_goto (pc := 9) (tgt := 25) hx hb dX7_isNoBrick_9 (by decide) ?_
  obtain ⟨uq_5, huq_5, hF⟩ := Option.bind_eq_some_iff.mp hF
  refine cl_X7_fails (pc := 25) hx hb hml hown hV hw huq_5 (gw_1193 hV) hl.1 (Nat.le_of_ble_eq_true rfl) (Nat.le_of_ble_eq_true rfl) (Nat.le_of_ble_eq_true rfl) dX7_isNoBrick_25 (fun H locs hw => ?_)
  cases hF
  exact gx_zret hx hb hr (gx_narb _) hlocks hw dX7_isNoBrick_28
set_option maxRecDepth 100000 in
theorem cl_X7_isNoBrick {l : Launch} {G : gx_G} {C : gx_S} {o : Int64} {d : UInt64} {I V : gx_F} {p : Program} {e : Env} {R : Room} {s : State} {m : MethodId} {args : Array Value} {below : List Frame} {meth : Method} {c : Code} {H : Heap} {locs : List Loc} {cells slots : Nat} {Q : State → Prop} {cc : ByteArray} {pc nL index : Nat} {ls : Array Slot} {rest : List Value} {own : String} {x1 : Int32} {out : (Bool × gx_F × gx_F)} (hx : p.tables.exec = Jvm.exec) (hb : c.code = cc) (hml : c.maxLocals = nL) (hown : s.vm.findClass own = some m.cls) (hV : gx_V G s) (hw : gx_at G C (I, V) o d s.heap H locs) (hF : f_X7_isNoBrick x1 I V = some out) (hlink : (Cond.methodLink own index yX7_isNoBrick).before args s = true) (hsz : ls.size = nL) (hfr : 3 ≤ R.frames) (hlo : 63 ≤ R.locals) (hrest : (rest.map fun v => v.category).sum ≤ 8) (hdg : decode cc pc = .ok (.invokevirtual index, 3))
    (kk : ∀ (H1 : Heap) (locs1 : List Loc), gx_at G C (out.2.1, out.2.2) o d s.heap H1 locs1 → W p l e R s m args below meth c H1 locs1 cells slots Q (F0 m (pc + 3) ls (.int (gx_bi out.1) :: rest))) (hc : cells ≤ R.cells := by exact Nat.zero_le _) (hs : slots ≤ R.slots := by exact Nat.zero_le _) : W p l e R s m args below meth c H locs cells slots Q (F0 m pc ls (.int x1 :: .ref (G.2.1 58) :: rest)) :=
  gx_runi hw (va_runV (C := RX7) (As := [.int x1]) (rest := rest) ⟨hx, hb, hml, hown, (fun _ h => nomatch h : ∀ w ∈ ([] : List Cond), w.before args s = true)⟩ (k_X7_isNoBrick hF) ⟨gx_callB (n := 1) rfl rfl hlink (gw_56 hV) (gw_1208 hV) (by decide +kernel) ⟨hfr, hlo⟩, gw_1207 hV, gw_36 hV⟩ (gx_recv (k := 58) (ci := 9) (T := TX7) hV hw (by decide) rfl rfl) rfl rfl hsz rfl (lv_room hrest) hdg ⟨hc, hs⟩) kk
set_option maxHeartbeats 4000000 in
set_option maxRecDepth 100000 in
theorem k_X7_brickAt {l : Launch} {G : gx_G} {C : gx_S} {o : Int64} {d : UInt64} {I V : gx_F} {x1 : Int32} {x2 : Int32} {out : (Int32 × gx_F × gx_F)} (hF : f_X7_brickAt x1 x2 I V = some out) : gx_K l yX7_brickAt cX7_brickAt 3 (some .int) { frames := 3, cells := 0, slots := 0, locals := 63 } [.ref (G.2.1 58), .int x1, .int x2] G C (I, V) o d (gx_Qi G out.1 C (out.2.1, out.2.2) o d) 0 0 := by
  refine gx_begin (by decide +kernel) (Nat.le_of_ble_eq_true rfl) ?_
  intro p e s m below meth c hx hb hr hml hown hlocks hV hw ls hl
  have hown : s.vm.findClass RX7 = some m.cls := hown
  have hl : lv_has ls 3 [(0, .ref (G.2.1 58)), (1, .int x1), (2, .int x2)] := hl
  unfold f_X7_brickAt at hF
  refine lv_aload_n (pc := 0) hx hb dX7_brickAt_0 rfl (lv_at hl 0 rfl) ?_
  refine lv_iload_n (pc := 1) hx hb dX7_brickAt_1 rfl (lv_at hl 1 rfl) ?_
  obtain ⟨uq_1, huq_1, hF⟩ := Option.bind_eq_some_iff.mp hF
  refine cl_X7_isNoBrick (pc := 2) hx hb hml hown hV hw huq_1 (gw_1205 hV) hl.1 (Nat.le_of_ble_eq_true rfl) (Nat.le_of_ble_eq_true rfl) (Nat.le_of_ble_eq_true rfl) dX7_brickAt_2 (fun H locs hw => ?_)
  refine gx_if_eq (pc := 5) (tgt := 12) hx hb hF dX7_brickAt_5 (by decide) (fun hF => ?_) (fun hF => ?_)
  · refine lv_iload_n (pc := 12) hx hb dX7_brickAt_12 rfl (lv_at hl 2 rfl) ?_
    refine gx_if_eq (pc := 13) (tgt := 30) hx hb hF dX7_brickAt_13 (by decide) (fun hF => ?_) (fun hF => ?_)
    · refine lv_aload_n (pc := 30) hx hb dX7_brickAt_30 rfl (lv_at hl 0 rfl) ?_
      refine gg_X7_0 (pc := 31) hx hb hown hV hw (gw_1018 hV) dX7_brickAt_31 ?_
      refine lv_bipush (pc := 34) (v := 45) hx hb dX7_brickAt_34 (by decide) ?_
      refine lv_iload_n (pc := 36) hx hb dX7_brickAt_36 rfl (lv_at hl 1 rfl) ?_
      refine lv_iadd (pc := 37) hx hb dX7_brickAt_37 ?_
      refine ga_59_ld (pc := 38) hx hb hV hw hF dX7_brickAt_38 (fun _ hF => ?_)
      refine lv_iconst (pc := 39) (v := 4) hx hb dX7_brickAt_39 (by decide) ?_
      refine lv_idiv (pc := 40) hx hb dX7_brickAt_40 (by decide) ?_
      cases hF
      exact gx_iret hx hb hr hlocks hw dX7_brickAt_41
    refine lv_aload_n (pc := 16) hx hb dX7_brickAt_16 rfl (lv_at hl 0 rfl) ?_
    refine gg_X7_0 (pc := 17) hx hb hown hV hw (gw_1018 hV) dX7_brickAt_17 ?_
    refine lv_bipush (pc := 20) (v := 45) hx hb dX7_brickAt_20 (by decide) ?_
    refine lv_iload_n (pc := 22) hx hb dX7_brickAt_22 rfl (lv_at hl 1 rfl) ?_
    refine lv_iadd (pc := 23) hx hb dX7_brickAt_23 ?_
    refine ga_59_ld (pc := 24) hx hb hV hw hF dX7_brickAt_24 (fun _ hF => ?_)
    refine lv_iconst (pc := 25) (v := 4) hx hb dX7_brickAt_25 (by decide) ?_
    refine lv_irem (pc := 26) hx hb dX7_brickAt_26 (by decide) ?_
    refine lv_goto (pc := 27) (tgt := 41) hx hb dX7_brickAt_27 (by decide) ?_
    cases hF
    exact gx_iret hx hb hr hlocks hw dX7_brickAt_41
  refine lv_iconst (pc := 8) (v := 0) hx hb dX7_brickAt_8 (by decide) ?_
  refine lv_goto (pc := 9) (tgt := 41) hx hb dX7_brickAt_9 (by decide) ?_
  cases hF
  exact gx_iret hx hb hr hlocks hw dX7_brickAt_41
set_option maxRecDepth 100000 in
theorem cl_X7_brickAt {l : Launch} {G : gx_G} {C : gx_S} {o : Int64} {d : UInt64} {I V : gx_F} {p : Program} {e : Env} {R : Room} {s : State} {m : MethodId} {args : Array Value} {below : List Frame} {meth : Method} {c : Code} {H : Heap} {locs : List Loc} {cells slots : Nat} {Q : State → Prop} {cc : ByteArray} {pc nL index : Nat} {ls : Array Slot} {rest : List Value} {own : String} {x1 : Int32} {x2 : Int32} {out : (Int32 × gx_F × gx_F)} (hx : p.tables.exec = Jvm.exec) (hb : c.code = cc) (hml : c.maxLocals = nL) (hown : s.vm.findClass own = some m.cls) (hV : gx_V G s) (hw : gx_at G C (I, V) o d s.heap H locs) (hF : f_X7_brickAt x1 x2 I V = some out) (hlink : (Cond.methodLink own index yX7_brickAt).before args s = true) (hsz : ls.size = nL) (hfr : 4 ≤ R.frames) (hlo : 85 ≤ R.locals) (hrest : (rest.map fun v => v.category).sum ≤ 8) (hdg : decode cc pc = .ok (.invokevirtual index, 3))
    (kk : ∀ (H1 : Heap) (locs1 : List Loc), gx_at G C (out.2.1, out.2.2) o d s.heap H1 locs1 → W p l e R s m args below meth c H1 locs1 cells slots Q (F0 m (pc + 3) ls (.int out.1 :: rest))) (hc : cells ≤ R.cells := by exact Nat.zero_le _) (hs : slots ≤ R.slots := by exact Nat.zero_le _) : W p l e R s m args below meth c H locs cells slots Q (F0 m pc ls (.int x2 :: .int x1 :: .ref (G.2.1 58) :: rest)) :=
  gx_runi hw (va_runV (C := RX7) (As := [.int x1, .int x2]) (rest := rest) ⟨hx, hb, hml, hown, (fun _ h => nomatch h : ∀ w ∈ ([] : List Cond), w.before args s = true)⟩ (k_X7_brickAt hF) ⟨gx_callB (n := 2) rfl rfl hlink (gw_56 hV) (gw_1204 hV) (by decide +kernel) ⟨hfr, hlo⟩, gw_1202 hV, gw_1203 hV⟩ (gx_recv (k := 58) (ci := 9) (T := TX7) hV hw (by decide) rfl rfl) rfl rfl hsz rfl (lv_room hrest) hdg ⟨hc, hs⟩) kk
set_option maxHeartbeats 4000000 in
set_option maxRecDepth 100000 in
theorem k_X7_seed {l : Launch} {G : gx_G} {C : gx_S} {o : Int64} {d : UInt64} {I V : gx_F} {out : (Int32 × gx_F × gx_F)} (hF : f_X7_seed I V = some out) : gx_K l yX7_seed cX7_seed 1 (some .int) { frames := 1, cells := 0, slots := 0, locals := 21 } [.ref (G.2.1 58)] G C (I, V) o d (gx_Qi G out.1 C (out.2.1, out.2.2) o d) 0 0 := by
  refine gx_begin (by decide +kernel) (Nat.le_of_ble_eq_true rfl) ?_
  intro p e s m below meth c hx hb hr hml hown hlocks hV hw ls hl
  have hown : s.vm.findClass RX7 = some m.cls := hown
  have hl : lv_has ls 1 [(0, .ref (G.2.1 58))] := hl
  unfold f_X7_seed at hF
  refine lv_aload_n (pc := 0) hx hb dX7_seed_0 rfl (lv_at hl 0 rfl) ?_
  refine lv_aload_n (pc := 1) hx hb dX7_seed_1 rfl (lv_at hl 0 rfl) ?_
  refine gg_X7_0 (pc := 2) hx hb hown hV hw (gw_1018 hV) dX7_seed_2 ?_
  refine lv_iconst (pc := 5) (v := 1) hx hb dX7_seed_5 (by decide) ?_
  refine ga_59_ld (pc := 6) hx hb hV hw hF dX7_seed_6 (fun _ hF => ?_)
  refine gx_if_ge (pc := 7) (tgt := 14) hx hb hF dX7_seed_7 (by decide) (fun hF => ?_) (fun hF => ?_)
  · refine lv_iconst (pc := 14) (v := 0) hx hb dX7_seed_14 (by decide) ?_
    obtain ⟨uq_1, huq_1, hF⟩ := Option.bind_eq_some_iff.mp hF
    refine cl_X7_fails (pc := 15) hx hb hml hown hV hw huq_1 (gw_1193 hV) hl.1 (Nat.le_of_ble_eq_true rfl) (Nat.le_of_ble_eq_true rfl) (Nat.le_of_ble_eq_true rfl) dX7_seed_15 (fun H locs hw => ?_)
    refine gx_if_eq (pc := 18) (tgt := 25) hx hb hF dX7_seed_18 (by decide) (fun hF => ?_) (fun hF => ?_)
    · refine lv_aload_n (pc := 25) hx hb dX7_seed_25 rfl (lv_at hl 0 rfl) ?_
      refine gg_X7_0 (pc := 26) hx hb hown hV hw (gw_1018 hV) dX7_seed_26 ?_
      refine lv_iconst (pc := 29) (v := 1) hx hb dX7_seed_29 (by decide) ?_
      refine ga_59_ld (pc := 30) hx hb hV hw hF dX7_seed_30 (fun _ hF => ?_)
      cases hF
      exact gx_iret hx hb hr hlocks hw dX7_seed_31
    refine lv_iconst (pc := 21) (v := 0) hx hb dX7_seed_21 (by decide) ?_
    refine lv_goto (pc := 22) (tgt := 31) hx hb dX7_seed_22 (by decide) ?_
    cases hF
    exact gx_iret hx hb hr hlocks hw dX7_seed_31
  refine lv_iconst (pc := 10) (v := 1) hx hb dX7_seed_10 (by decide) ?_
  refine lv_goto (pc := 11) (tgt := 15) hx hb dX7_seed_11 (by decide) ?_
  obtain ⟨uq_2, huq_2, hF⟩ := Option.bind_eq_some_iff.mp hF
  refine cl_X7_fails (pc := 15) hx hb hml hown hV hw huq_2 (gw_1193 hV) hl.1 (Nat.le_of_ble_eq_true rfl) (Nat.le_of_ble_eq_true rfl) (Nat.le_of_ble_eq_true rfl) dX7_seed_15 (fun H locs hw => ?_)
  refine gx_if_eq (pc := 18) (tgt := 25) hx hb hF dX7_seed_18 (by decide) (fun hF => ?_) (fun hF => ?_)
  · refine lv_aload_n (pc := 25) hx hb dX7_seed_25 rfl (lv_at hl 0 rfl) ?_
    refine gg_X7_0 (pc := 26) hx hb hown hV hw (gw_1018 hV) dX7_seed_26 ?_
    refine lv_iconst (pc := 29) (v := 1) hx hb dX7_seed_29 (by decide) ?_
    refine ga_59_ld (pc := 30) hx hb hV hw hF dX7_seed_30 (fun _ hF => ?_)
    cases hF
    exact gx_iret hx hb hr hlocks hw dX7_seed_31
  refine lv_iconst (pc := 21) (v := 0) hx hb dX7_seed_21 (by decide) ?_
  refine lv_goto (pc := 22) (tgt := 31) hx hb dX7_seed_22 (by decide) ?_
  cases hF
  exact gx_iret hx hb hr hlocks hw dX7_seed_31
set_option maxRecDepth 100000 in
theorem cl_X7_seed {l : Launch} {G : gx_G} {C : gx_S} {o : Int64} {d : UInt64} {I V : gx_F} {p : Program} {e : Env} {R : Room} {s : State} {m : MethodId} {args : Array Value} {below : List Frame} {meth : Method} {c : Code} {H : Heap} {locs : List Loc} {cells slots : Nat} {Q : State → Prop} {cc : ByteArray} {pc nL index : Nat} {ls : Array Slot} {rest : List Value} {own : String} {out : (Int32 × gx_F × gx_F)} (hx : p.tables.exec = Jvm.exec) (hb : c.code = cc) (hml : c.maxLocals = nL) (hown : s.vm.findClass own = some m.cls) (hV : gx_V G s) (hw : gx_at G C (I, V) o d s.heap H locs) (hF : f_X7_seed I V = some out) (hlink : (Cond.methodLink own index yX7_seed).before args s = true) (hsz : ls.size = nL) (hfr : 2 ≤ R.frames) (hlo : 41 ≤ R.locals) (hrest : (rest.map fun v => v.category).sum ≤ 8) (hdg : decode cc pc = .ok (.invokevirtual index, 3))
    (kk : ∀ (H1 : Heap) (locs1 : List Loc), gx_at G C (out.2.1, out.2.2) o d s.heap H1 locs1 → W p l e R s m args below meth c H1 locs1 cells slots Q (F0 m (pc + 3) ls (.int out.1 :: rest))) (hc : cells ≤ R.cells := by exact Nat.zero_le _) (hs : slots ≤ R.slots := by exact Nat.zero_le _) : W p l e R s m args below meth c H locs cells slots Q (F0 m pc ls (.ref (G.2.1 58) :: rest)) :=
  gx_runi hw (va_runV (C := RX7) (As := []) (rest := rest) ⟨hx, hb, hml, hown, (fun _ h => nomatch h : ∀ w ∈ ([] : List Cond), w.before args s = true)⟩ (k_X7_seed hF) ⟨gx_callB (n := 0) rfl rfl hlink (gw_56 hV) (gw_1212 hV) (by decide +kernel) ⟨hfr, hlo⟩, gw_1210 hV, gw_1211 hV⟩ (gx_recv (k := 58) (ci := 9) (T := TX7) hV hw (by decide) rfl rfl) rfl rfl hsz rfl (lv_room hrest) hdg ⟨hc, hs⟩) kk
set_option maxHeartbeats 4000000 in
set_option maxRecDepth 100000 in
theorem k_X7_hold {l : Launch} {G : gx_G} {C : gx_S} {o : Int64} {d : UInt64} {I V : gx_F} {x1 : Int32} {out : (Int32 × gx_F × gx_F)} (hF : f_X7_hold x1 I V = some out) : gx_K l yX7_hold cX7_hold 2 (some .int) { frames := 3, cells := 0, slots := 0, locals := 71 } [.ref (G.2.1 58), .int x1] G C (I, V) o d (gx_Qi G out.1 C (out.2.1, out.2.2) o d) 0 0 := by
  refine gx_begin (by decide +kernel) (Nat.le_of_ble_eq_true rfl) ?_
  intro p e s m below meth c hx hb hr hml hown hlocks hV hw ls hl
  have hown : s.vm.findClass RX7 = some m.cls := hown
  have hl : lv_has ls 2 [(0, .ref (G.2.1 58)), (1, .int x1)] := hl
  unfold f_X7_hold at hF
  refine lv_aload_n (pc := 0) hx hb dX7_hold_0 rfl (lv_at hl 0 rfl) ?_
  refine lv_iload_n (pc := 1) hx hb dX7_hold_1 rfl (lv_at hl 1 rfl) ?_
  obtain ⟨uq_1, huq_1, hF⟩ := Option.bind_eq_some_iff.mp hF
  refine cl_X7_isNoBrick (pc := 2) hx hb hml hown hV hw huq_1 (gw_1205 hV) hl.1 (Nat.le_of_ble_eq_true rfl) (Nat.le_of_ble_eq_true rfl) (Nat.le_of_ble_eq_true rfl) dX7_hold_2 (fun H locs hw => ?_)
  refine gx_if_eq (pc := 5) (tgt := 12) hx hb hF dX7_hold_5 (by decide) (fun hF => ?_) (fun hF => ?_)
  · refine lv_aload_n (pc := 12) hx hb dX7_hold_12 rfl (lv_at hl 0 rfl) ?_
    refine lv_iload_n (pc := 13) hx hb dX7_hold_13 rfl (lv_at hl 1 rfl) ?_
    refine lv_aload_n (pc := 14) hx hb dX7_hold_14 rfl (lv_at hl 0 rfl) ?_
    refine gg_X7_0 (pc := 15) hx hb hown hV hw (gw_1018 hV) dX7_hold_15 ?_
    refine lv_bipush (pc := 18) (v := 45) hx hb dX7_hold_18 (by decide) ?_
    refine lv_iload_n (pc := 20) hx hb dX7_hold_20 rfl (lv_at hl 1 rfl) ?_
    refine lv_iadd (pc := 21) hx hb dX7_hold_21 ?_
    refine ga_59_ld (pc := 22) hx hb hV hw hF dX7_hold_22 (fun _ hF => ?_)
    obtain ⟨uq_2, huq_2, hF⟩ := Option.bind_eq_some_iff.mp hF
    refine cl_X7_held (pc := 23) hx hb hml hown hV hw huq_2 (gw_1122 hV) hl.1 (Nat.le_of_ble_eq_true rfl) (Nat.le_of_ble_eq_true rfl) (Nat.le_of_ble_eq_true rfl) dX7_hold_23 (fun H locs hw => ?_)
    cases hF
    exact gx_iret hx hb hr hlocks hw dX7_hold_26
  refine lv_iconst (pc := 8) (v := 0) hx hb dX7_hold_8 (by decide) ?_
  refine lv_goto (pc := 9) (tgt := 26) hx hb dX7_hold_9 (by decide) ?_
  cases hF
  exact gx_iret hx hb hr hlocks hw dX7_hold_26
set_option maxRecDepth 100000 in
theorem cl_X7_hold {l : Launch} {G : gx_G} {C : gx_S} {o : Int64} {d : UInt64} {I V : gx_F} {p : Program} {e : Env} {R : Room} {s : State} {m : MethodId} {args : Array Value} {below : List Frame} {meth : Method} {c : Code} {H : Heap} {locs : List Loc} {cells slots : Nat} {Q : State → Prop} {cc : ByteArray} {pc nL index : Nat} {ls : Array Slot} {rest : List Value} {own : String} {x1 : Int32} {out : (Int32 × gx_F × gx_F)} (hx : p.tables.exec = Jvm.exec) (hb : c.code = cc) (hml : c.maxLocals = nL) (hown : s.vm.findClass own = some m.cls) (hV : gx_V G s) (hw : gx_at G C (I, V) o d s.heap H locs) (hF : f_X7_hold x1 I V = some out) (hlink : (Cond.methodLink own index yX7_hold).before args s = true) (hsz : ls.size = nL) (hfr : 4 ≤ R.frames) (hlo : 92 ≤ R.locals) (hrest : (rest.map fun v => v.category).sum ≤ 8) (hdg : decode cc pc = .ok (.invokevirtual index, 3))
    (kk : ∀ (H1 : Heap) (locs1 : List Loc), gx_at G C (out.2.1, out.2.2) o d s.heap H1 locs1 → W p l e R s m args below meth c H1 locs1 cells slots Q (F0 m (pc + 3) ls (.int out.1 :: rest))) (hc : cells ≤ R.cells := by exact Nat.zero_le _) (hs : slots ≤ R.slots := by exact Nat.zero_le _) : W p l e R s m args below meth c H locs cells slots Q (F0 m pc ls (.int x1 :: .ref (G.2.1 58) :: rest)) :=
  gx_runi hw (va_runV (C := RX7) (As := [.int x1]) (rest := rest) ⟨hx, hb, hml, hown, (fun _ h => nomatch h : ∀ w ∈ ([] : List Cond), w.before args s = true)⟩ (k_X7_hold hF) ⟨gx_callB (n := 1) rfl rfl hlink (gw_56 hV) (gw_1216 hV) (by decide +kernel) ⟨hfr, hlo⟩, gw_1214 hV, gw_1215 hV⟩ (gx_recv (k := 58) (ci := 9) (T := TX7) hV hw (by decide) rfl rfl) rfl rfl hsz rfl (lv_room hrest) hdg ⟨hc, hs⟩) kk
set_option maxHeartbeats 4000000 in
set_option maxRecDepth 100000 in
theorem k_X7_allHolds {l : Launch} {G : gx_G} {C : gx_S} {o : Int64} {d : UInt64} {I V : gx_F} {out : Int32} (hF : f_X7_allHolds I V = some out) : gx_K l yX7_allHolds cX7_allHolds 3 (some .int) { frames := 3, cells := 0, slots := 0, locals := 71 } [.ref (G.2.1 58)] G C (I, V) o d (gx_Qi G out C (I, V) o d) 0 0 := by
  refine gx_begin (by decide +kernel) (Nat.le_of_ble_eq_true rfl) ?_
  intro p e s m below meth c hx hb hr hml hown hlocks hV hw ls hl
  have hown : s.vm.findClass RX7 = some m.cls := hown
  have hl : lv_has ls 3 [(0, .ref (G.2.1 58))] := hl
  unfold f_X7_allHolds at hF
  refine lv_iconst (pc := 0) (v := 0) hx hb dX7_allHolds_0 (by decide) ?_
  refine lv_istore_n (pc := 1) (lv' := [(1, .int 0), (0, .ref (G.2.1 58))]) hx hb dX7_allHolds_1 rfl hl (by decide) rfl (fun ls hl => ?_)
  refine lv_iconst (pc := 2) (v := 0) hx hb dX7_allHolds_2 (by decide) ?_
  refine lv_istore_n (pc := 3) (lv' := [(2, .int 0), (1, .int 0), (0, .ref (G.2.1 58))]) hx hb dX7_allHolds_3 rfl hl (by decide) rfl (fun ls hl => ?_)
  have L1 : ∀ (n : Nat) (K1 : Int32 → Int32 → Option Int32) (uv_1 : Int32) (uv_2 : Int32) (H : Heap) (locs : List Loc) (ls : Array Slot), lv_has ls 3 [(2, .int uv_2), (1, .int uv_1), (0, .ref (G.2.1 58))] → gx_at G C (I, V) o d s.heap H locs → f_X7_allHolds_L1 I V K1 n uv_1 uv_2 = some out → (∀ (uv_1 : Int32) (uv_2 : Int32) (H : Heap) (locs : List Loc) (ls : Array Slot), lv_has ls 3 [(2, .int uv_2), (1, .int uv_1), (0, .ref (G.2.1 58))] → gx_at G C (I, V) o d s.heap H locs → K1 uv_1 uv_2 = some out → W p l e ({ frames := 3, cells := 0, slots := 0, locals := 71 } : Room) s m ([.ref (G.2.1 58)] : List Value).toArray below meth c H locs 0 0 (MQ below (gx_Qi G out C (I, V) o d) ([.ref (G.2.1 58)] : List Value).toArray s 0 0 (gx_A G)) (F0 m 45 ls [])) → W p l e ({ frames := 3, cells := 0, slots := 0, locals := 71 } : Room) s m ([.ref (G.2.1 58)] : List Value).toArray below meth c H locs 0 0 (MQ below (gx_Qi G out C (I, V) o d) ([.ref (G.2.1 58)] : List Value).toArray s 0 0 (gx_A G)) (F0 m 4 ls []) := by
    intro n
    induction n with
    | zero =>
      intro K1 uv_1 uv_2 H locs ls hl hw hF hK
      rw [f_X7_allHolds_L1] at hF
      cases hF
    | succ n ih1 =>
      intro K1 uv_1 uv_2 H locs ls hl hw hF hK1
      rw [f_X7_allHolds_L1] at hF
      refine lv_iload_n (pc := 4) hx hb dX7_allHolds_4 rfl (lv_at hl 0 rfl) ?_
      refine lv_bipush (pc := 5) (v := 42) hx hb dX7_allHolds_5 (by decide) ?_
      refine gx_icmp_ge (pc := 7) (tgt := 45) hx hb hF dX7_allHolds_7 (by decide) (fun hF => ?_) (fun hF => ?_)
      · exact hK1 _ _ _ _ _ (lv_sub hl [0, 1, 2] rfl) hw hF
      refine lv_iload_n (pc := 10) hx hb dX7_allHolds_10 rfl (lv_at hl 1 rfl) ?_
      refine lv_aload_n (pc := 11) hx hb dX7_allHolds_11 rfl (lv_at hl 2 rfl) ?_
      refine lv_iload_n (pc := 12) hx hb dX7_allHolds_12 rfl (lv_at hl 0 rfl) ?_
      obtain ⟨uq_3, huq_3, hF⟩ := Option.bind_eq_some_iff.mp hF
      refine cl_X7_isFree (pc := 13) hx hb hml hown hV hw huq_3 (gw_1118 hV) hl.1 (Nat.le_of_ble_eq_true rfl) (Nat.le_of_ble_eq_true rfl) (Nat.le_of_ble_eq_true rfl) dX7_allHolds_13 (fun H locs hw => ?_)
      refine gx_if_eq (pc := 16) (tgt := 23) hx hb hF dX7_allHolds_16 (by decide) (fun hF => ?_) (fun hF => ?_)
      · refine lv_aload_n (pc := 23) hx hb dX7_allHolds_23 rfl (lv_at hl 2 rfl) ?_
        refine lv_iload_n (pc := 24) hx hb dX7_allHolds_24 rfl (lv_at hl 0 rfl) ?_
        refine lv_aload_n (pc := 25) hx hb dX7_allHolds_25 rfl (lv_at hl 2 rfl) ?_
        refine gg_X7_0 (pc := 26) hx hb hown hV hw (gw_1018 hV) dX7_allHolds_26 ?_
        refine lv_bipush (pc := 29) (v := 45) hx hb dX7_allHolds_29 (by decide) ?_
        refine lv_iload_n (pc := 31) hx hb dX7_allHolds_31 rfl (lv_at hl 0 rfl) ?_
        refine lv_iadd (pc := 32) hx hb dX7_allHolds_32 ?_
        refine ga_59_ld (pc := 33) hx hb hV hw hF dX7_allHolds_33 (fun _ hF => ?_)
        obtain ⟨uq_4, huq_4, hF⟩ := Option.bind_eq_some_iff.mp hF
        refine cl_X7_held (pc := 34) hx hb hml hown hV hw huq_4 (gw_1122 hV) hl.1 (Nat.le_of_ble_eq_true rfl) (Nat.le_of_ble_eq_true rfl) (Nat.le_of_ble_eq_true rfl) dX7_allHolds_34 (fun H locs hw => ?_)
        refine lv_iadd (pc := 37) hx hb dX7_allHolds_37 ?_
        refine lv_istore_n (pc := 38) (lv' := [(1, .int (uv_1 + uq_4)), (2, .int uv_2), (0, .ref (G.2.1 58))]) hx hb dX7_allHolds_38 rfl hl (by decide) rfl (fun ls hl => ?_)
        refine lv_iinc (pc := 39) (v := (uv_2 + 1)) (lv' := [(2, .int (uv_2 + 1)), (1, .int (uv_1 + uq_4)), (0, .ref (G.2.1 58))]) hx hb dX7_allHolds_39 hl (k := 1) rfl rfl (by decide) rfl (fun ls hl => ?_)
        refine lv_goto (pc := 42) (tgt := 4) hx hb dX7_allHolds_42 (by decide) ?_
        exact ih1 _ _ _ _ _ _ (lv_sub hl [0, 1, 2] rfl) hw hF hK1
      refine lv_iconst (pc := 19) (v := 0) hx hb dX7_allHolds_19 (by decide) ?_
      refine lv_goto (pc := 20) (tgt := 37) hx hb dX7_allHolds_20 (by decide) ?_
      refine lv_iadd (pc := 37) hx hb dX7_allHolds_37 ?_
      refine lv_istore_n (pc := 38) (lv' := [(1, .int (uv_1 + 0)), (2, .int uv_2), (0, .ref (G.2.1 58))]) hx hb dX7_allHolds_38 rfl hl (by decide) rfl (fun ls hl => ?_)
      refine lv_iinc (pc := 39) (v := (uv_2 + 1)) (lv' := [(2, .int (uv_2 + 1)), (1, .int (uv_1 + 0)), (0, .ref (G.2.1 58))]) hx hb dX7_allHolds_39 hl (k := 1) rfl rfl (by decide) rfl (fun ls hl => ?_)
      refine lv_goto (pc := 42) (tgt := 4) hx hb dX7_allHolds_42 (by decide) ?_
      exact ih1 _ _ _ _ _ _ (lv_sub hl [0, 1, 2] rfl) hw hF hK1
  refine L1 1000 _ _ _ _ _ _ hl hw hF (fun uv_5 uv_6 H locs ls hl hw hF => ?_)
  refine lv_iload_n (pc := 45) hx hb dX7_allHolds_45 rfl (lv_at hl 1 rfl) ?_
  cases hF
  exact gx_iret hx hb hr hlocks hw dX7_allHolds_46
set_option maxRecDepth 100000 in
theorem cl_X7_allHolds {l : Launch} {G : gx_G} {C : gx_S} {o : Int64} {d : UInt64} {I V : gx_F} {p : Program} {e : Env} {R : Room} {s : State} {m : MethodId} {args : Array Value} {below : List Frame} {meth : Method} {c : Code} {H : Heap} {locs : List Loc} {cells slots : Nat} {Q : State → Prop} {cc : ByteArray} {pc nL index : Nat} {ls : Array Slot} {rest : List Value} {own : String} {out : Int32} (hx : p.tables.exec = Jvm.exec) (hb : c.code = cc) (hml : c.maxLocals = nL) (hown : s.vm.findClass own = some m.cls) (hV : gx_V G s) (hw : gx_at G C (I, V) o d s.heap H locs) (hF : f_X7_allHolds I V = some out) (hlink : (Cond.methodLink own index yX7_allHolds).before args s = true) (hsz : ls.size = nL) (hfr : 4 ≤ R.frames) (hlo : 93 ≤ R.locals) (hrest : (rest.map fun v => v.category).sum ≤ 8) (hdg : decode cc pc = .ok (.invokevirtual index, 3))
    (kk : ∀ (H1 : Heap) (locs1 : List Loc), gx_at G C (I, V) o d s.heap H1 locs1 → W p l e R s m args below meth c H1 locs1 cells slots Q (F0 m (pc + 3) ls (.int out :: rest))) (hc : cells ≤ R.cells := by exact Nat.zero_le _) (hs : slots ≤ R.slots := by exact Nat.zero_le _) : W p l e R s m args below meth c H locs cells slots Q (F0 m pc ls (.ref (G.2.1 58) :: rest)) :=
  gx_runi hw (va_runV (C := RX7) (As := []) (rest := rest) ⟨hx, hb, hml, hown, (fun _ h => nomatch h : ∀ w ∈ ([] : List Cond), w.before args s = true)⟩ (k_X7_allHolds hF) ⟨gx_callB (n := 0) rfl rfl hlink (gw_56 hV) (gw_1224 hV) (by decide +kernel) ⟨hfr, hlo⟩, gw_1223 hV, gw_37 hV⟩ (gx_recv (k := 58) (ci := 9) (T := TX7) hV hw (by decide) rfl rfl) rfl rfl hsz rfl (lv_room hrest) hdg ⟨hc, hs⟩) kk
set_option maxHeartbeats 4000000 in
set_option maxRecDepth 100000 in
theorem k_X7_holdAgain {l : Launch} {G : gx_G} {C : gx_S} {o : Int64} {d : UInt64} {I V : gx_F} {x1 : Int32} {out : (Int32 × gx_F × gx_F)} (hF : f_X7_holdAgain x1 I V = some out) : gx_K l yX7_holdAgain cX7_holdAgain 5 (some .int) { frames := 4, cells := 0, slots := 0, locals := 93 } [.ref (G.2.1 58), .int x1] G C (I, V) o d (gx_Qi G out.1 C (out.2.1, out.2.2) o d) 0 0 := by
  refine gx_begin (by decide +kernel) (Nat.le_of_ble_eq_true rfl) ?_
  intro p e s m below meth c hx hb hr hml hown hlocks hV hw ls hl
  have hown : s.vm.findClass RX7 = some m.cls := hown
  have hl : lv_has ls 5 [(0, .ref (G.2.1 58)), (1, .int x1)] := hl
  unfold f_X7_holdAgain at hF
  refine lv_aload_n (pc := 0) hx hb dX7_holdAgain_0 rfl (lv_at hl 0 rfl) ?_
  refine lv_iload_n (pc := 1) hx hb dX7_holdAgain_1 rfl (lv_at hl 1 rfl) ?_
  obtain ⟨uq_1, huq_1, hF⟩ := Option.bind_eq_some_iff.mp hF
  refine cl_X7_isNoBrick (pc := 2) hx hb hml hown hV hw huq_1 (gw_1205 hV) hl.1 (Nat.le_of_ble_eq_true rfl) (Nat.le_of_ble_eq_true rfl) (Nat.le_of_ble_eq_true rfl) dX7_holdAgain_2 (fun H locs hw => ?_)
  refine gx_if_eq (pc := 5) (tgt := 10) hx hb hF dX7_holdAgain_5 (by decide) (fun hF => ?_) (fun hF => ?_)
  · refine lv_aload_n (pc := 10) hx hb dX7_holdAgain_10 rfl (lv_at hl 0 rfl) ?_
    obtain ⟨uq_2, huq_2, hF⟩ := Option.bind_eq_some_iff.mp hF
    refine cl_X7_allHolds (pc := 11) hx hb hml hown hV hw huq_2 (gw_1221 hV) hl.1 (Nat.le_of_ble_eq_true rfl) (Nat.le_of_ble_eq_true rfl) (Nat.le_of_ble_eq_true rfl) dX7_holdAgain_11 (fun H locs hw => ?_)
    refine lv_istore_n (pc := 14) (lv' := [(2, .int uq_2), (0, .ref (G.2.1 58)), (1, .int x1)]) hx hb dX7_holdAgain_14 rfl hl (by decide) rfl (fun ls hl => ?_)
    refine lv_aload_n (pc := 15) hx hb dX7_holdAgain_15 rfl (lv_at hl 1 rfl) ?_
    refine gg_X7_0 (pc := 16) hx hb hown hV hw (gw_1018 hV) dX7_holdAgain_16 ?_
    refine lv_bipush (pc := 19) (v := 45) hx hb dX7_holdAgain_19 (by decide) ?_
    refine lv_iload_n (pc := 21) hx hb dX7_holdAgain_21 rfl (lv_at hl 2 rfl) ?_
    refine lv_iadd (pc := 22) hx hb dX7_holdAgain_22 ?_
    refine ga_59_ld (pc := 23) hx hb hV hw hF dX7_holdAgain_23 (fun _ hF => ?_)
    refine lv_istore_n (pc := 24) (lv' := [(3, .int (uq_1.2.2 59 (45 + x1).toNatClampNeg)), (2, .int uq_2), (0, .ref (G.2.1 58)), (1, .int x1)]) hx hb dX7_holdAgain_24 rfl hl (by decide) rfl (fun ls hl => ?_)
    refine lv_aload_n (pc := 25) hx hb dX7_holdAgain_25 rfl (lv_at hl 2 rfl) ?_
    refine gg_X7_0 (pc := 26) hx hb hown hV hw (gw_1018 hV) dX7_holdAgain_26 ?_
    refine lv_bipush (pc := 29) (v := 45) hx hb dX7_holdAgain_29 (by decide) ?_
    refine lv_iload_n (pc := 31) hx hb dX7_holdAgain_31 rfl (lv_at hl 3 rfl) ?_
    refine lv_iadd (pc := 32) hx hb dX7_holdAgain_32 ?_
    refine lv_iconst (pc := 33) (v := (-1)) hx hb dX7_holdAgain_33 (by decide) ?_
    refine ga_59_st (pc := 34) hx hb hV hw hF dX7_holdAgain_34 (fun H locs hw hF => ?_)
    refine lv_aload_n (pc := 35) hx hb dX7_holdAgain_35 rfl (lv_at hl 2 rfl) ?_
    obtain ⟨uq_3, huq_3, hF⟩ := Option.bind_eq_some_iff.mp hF
    refine cl_X7_allHolds (pc := 36) hx hb hml hown hV hw huq_3 (gw_1221 hV) hl.1 (Nat.le_of_ble_eq_true rfl) (Nat.le_of_ble_eq_true rfl) (Nat.le_of_ble_eq_true rfl) dX7_holdAgain_36 (fun H locs hw => ?_)
    refine lv_istore (pc := 39) (lv' := [(4, .int uq_3), (3, .int (uq_1.2.2 59 (45 + x1).toNatClampNeg)), (2, .int uq_2), (0, .ref (G.2.1 58)), (1, .int x1)]) hx hb dX7_holdAgain_39 hl (by decide) rfl (fun ls hl => ?_)
    refine lv_aload_n (pc := 41) hx hb dX7_holdAgain_41 rfl (lv_at hl 3 rfl) ?_
    refine gg_X7_0 (pc := 42) hx hb hown hV hw (gw_1018 hV) dX7_holdAgain_42 ?_
    refine lv_bipush (pc := 45) (v := 45) hx hb dX7_holdAgain_45 (by decide) ?_
    refine lv_iload_n (pc := 47) hx hb dX7_holdAgain_47 rfl (lv_at hl 4 rfl) ?_
    refine lv_iadd (pc := 48) hx hb dX7_holdAgain_48 ?_
    refine lv_iload_n (pc := 49) hx hb dX7_holdAgain_49 rfl (lv_at hl 1 rfl) ?_
    refine ga_59_st (pc := 50) hx hb hV hw hF dX7_holdAgain_50 (fun H locs hw hF => ?_)
    refine lv_iload_n (pc := 51) hx hb dX7_holdAgain_51 rfl (lv_at hl 2 rfl) ?_
    refine lv_iload (pc := 52) hx hb dX7_holdAgain_52 (lv_at hl 0 rfl) ?_
    refine lv_isub (pc := 54) hx hb dX7_holdAgain_54 ?_
    refine lv_iconst (pc := 55) (v := 2) hx hb dX7_holdAgain_55 (by decide) ?_
    refine lv_idiv (pc := 56) hx hb dX7_holdAgain_56 (by decide) ?_
    cases hF
    exact gx_iret hx hb hr hlocks hw dX7_holdAgain_57
  refine lv_iconst (pc := 8) (v := 0) hx hb dX7_holdAgain_8 (by decide) ?_
  cases hF
  exact gx_iret hx hb hr hlocks hw dX7_holdAgain_9
set_option maxRecDepth 100000 in
theorem cl_X7_holdAgain {l : Launch} {G : gx_G} {C : gx_S} {o : Int64} {d : UInt64} {I V : gx_F} {p : Program} {e : Env} {R : Room} {s : State} {m : MethodId} {args : Array Value} {below : List Frame} {meth : Method} {c : Code} {H : Heap} {locs : List Loc} {cells slots : Nat} {Q : State → Prop} {cc : ByteArray} {pc nL index : Nat} {ls : Array Slot} {rest : List Value} {own : String} {x1 : Int32} {out : (Int32 × gx_F × gx_F)} (hx : p.tables.exec = Jvm.exec) (hb : c.code = cc) (hml : c.maxLocals = nL) (hown : s.vm.findClass own = some m.cls) (hV : gx_V G s) (hw : gx_at G C (I, V) o d s.heap H locs) (hF : f_X7_holdAgain x1 I V = some out) (hlink : (Cond.methodLink own index yX7_holdAgain).before args s = true) (hsz : ls.size = nL) (hfr : 5 ≤ R.frames) (hlo : 117 ≤ R.locals) (hrest : (rest.map fun v => v.category).sum ≤ 8) (hdg : decode cc pc = .ok (.invokevirtual index, 3))
    (kk : ∀ (H1 : Heap) (locs1 : List Loc), gx_at G C (out.2.1, out.2.2) o d s.heap H1 locs1 → W p l e R s m args below meth c H1 locs1 cells slots Q (F0 m (pc + 3) ls (.int out.1 :: rest))) (hc : cells ≤ R.cells := by exact Nat.zero_le _) (hs : slots ≤ R.slots := by exact Nat.zero_le _) : W p l e R s m args below meth c H locs cells slots Q (F0 m pc ls (.int x1 :: .ref (G.2.1 58) :: rest)) :=
  gx_runi hw (va_runV (C := RX7) (As := [.int x1]) (rest := rest) ⟨hx, hb, hml, hown, (fun _ h => nomatch h : ∀ w ∈ ([] : List Cond), w.before args s = true)⟩ (k_X7_holdAgain hF) ⟨gx_callB (n := 1) rfl rfl hlink (gw_56 hV) (gw_1220 hV) (by decide +kernel) ⟨hfr, hlo⟩, gw_1218 hV, gw_1219 hV⟩ (gx_recv (k := 58) (ci := 9) (T := TX7) hV hw (by decide) rfl rfl) rfl rfl hsz rfl (lv_room hrest) hdg ⟨hc, hs⟩) kk
set_option maxHeartbeats 4000000 in
set_option maxRecDepth 100000 in
theorem k_X7_wouldHold {l : Launch} {G : gx_G} {C : gx_S} {o : Int64} {d : UInt64} {I V : gx_F} {x1 : Int32} {x2 : Int32} {x3 : Int32} {out : (Int32 × gx_F × gx_F)} (hF : f_X7_wouldHold x1 x2 x3 I V = some out) : gx_K l yX7_wouldHold cX7_wouldHold 4 (some .int) { frames := 3, cells := 0, slots := 0, locals := 71 } [.ref (G.2.1 58), .int x1, .int x2, .int x3] G C (I, V) o d (gx_Qi G out.1 C (out.2.1, out.2.2) o d) 0 0 := by
  refine gx_begin (by decide +kernel) (Nat.le_of_ble_eq_true rfl) ?_
  intro p e s m below meth c hx hb hr hml hown hlocks hV hw ls hl
  have hown : s.vm.findClass RX7 = some m.cls := hown
  have hl : lv_has ls 4 [(0, .ref (G.2.1 58)), (1, .int x1), (2, .int x2), (3, .int x3)] := hl
  unfold f_X7_wouldHold at hF
  refine lv_aload_n (pc := 0) hx hb dX7_wouldHold_0 rfl (lv_at hl 0 rfl) ?_
  refine lv_iload_n (pc := 1) hx hb dX7_wouldHold_1 rfl (lv_at hl 1 rfl) ?_
  obtain ⟨uq_1, huq_1, hF⟩ := Option.bind_eq_some_iff.mp hF
  refine cl_X7_isPlace (pc := 2) hx hb hml hown hV hw huq_1 (gw_1111 hV) hl.1 (Nat.le_of_ble_eq_true rfl) (Nat.le_of_ble_eq_true rfl) (Nat.le_of_ble_eq_true rfl) dX7_wouldHold_2 (fun H locs hw => ?_)
  refine gx_if_eq (pc := 5) (tgt := 16) hx hb hF dX7_wouldHold_5 (by decide) (fun hF => ?_) (fun hF => ?_)
  · refine lv_iconst (pc := 16) (v := 1) hx hb dX7_wouldHold_16 (by decide) ?_
    refine lv_goto (pc := 17) (tgt := 46) hx hb dX7_wouldHold_17 (by decide) ?_
    obtain ⟨uq_2, huq_2, hF⟩ := Option.bind_eq_some_iff.mp hF
    refine cl_X7_fails (pc := 46) hx hb hml hown hV hw huq_2 (gw_1193 hV) hl.1 (Nat.le_of_ble_eq_true rfl) (Nat.le_of_ble_eq_true rfl) (Nat.le_of_ble_eq_true rfl) dX7_wouldHold_46 (fun H locs hw => ?_)
    refine gx_if_eq (pc := 49) (tgt := 56) hx hb hF dX7_wouldHold_49 (by decide) (fun hF => ?_) (fun hF => ?_)
    · refine lv_aload_n (pc := 56) hx hb dX7_wouldHold_56 rfl (lv_at hl 0 rfl) ?_
      refine lv_iload_n (pc := 57) hx hb dX7_wouldHold_57 rfl (lv_at hl 1 rfl) ?_
      refine lv_iconst (pc := 58) (v := 4) hx hb dX7_wouldHold_58 (by decide) ?_
      refine lv_iload_n (pc := 59) hx hb dX7_wouldHold_59 rfl (lv_at hl 2 rfl) ?_
      refine lv_imul (pc := 60) hx hb dX7_wouldHold_60 ?_
      refine lv_iload_n (pc := 61) hx hb dX7_wouldHold_61 rfl (lv_at hl 3 rfl) ?_
      refine lv_iadd (pc := 62) hx hb dX7_wouldHold_62 ?_
      obtain ⟨uq_3, huq_3, hF⟩ := Option.bind_eq_some_iff.mp hF
      refine cl_X7_held (pc := 63) hx hb hml hown hV hw huq_3 (gw_1122 hV) hl.1 (Nat.le_of_ble_eq_true rfl) (Nat.le_of_ble_eq_true rfl) (Nat.le_of_ble_eq_true rfl) dX7_wouldHold_63 (fun H locs hw => ?_)
      cases hF
      exact gx_iret hx hb hr hlocks hw dX7_wouldHold_66
    refine lv_iconst (pc := 52) (v := 0) hx hb dX7_wouldHold_52 (by decide) ?_
    refine lv_goto (pc := 53) (tgt := 66) hx hb dX7_wouldHold_53 (by decide) ?_
    cases hF
    exact gx_iret hx hb hr hlocks hw dX7_wouldHold_66
  refine lv_aload_n (pc := 8) hx hb dX7_wouldHold_8 rfl (lv_at hl 0 rfl) ?_
  refine lv_iload_n (pc := 9) hx hb dX7_wouldHold_9 rfl (lv_at hl 2 rfl) ?_
  obtain ⟨uq_4, huq_4, hF⟩ := Option.bind_eq_some_iff.mp hF
  refine cl_X7_isKind (pc := 10) hx hb hml hown hV hw huq_4 (gw_1114 hV) hl.1 (Nat.le_of_ble_eq_true rfl) (Nat.le_of_ble_eq_true rfl) (Nat.le_of_ble_eq_true rfl) dX7_wouldHold_10 (fun H locs hw => ?_)
  refine gx_if_ne (pc := 13) (tgt := 20) hx hb hF dX7_wouldHold_13 (by decide) (fun hF => ?_) (fun hF => ?_)
  · refine lv_iload_n (pc := 20) hx hb dX7_wouldHold_20 rfl (lv_at hl 3 rfl) ?_
    refine lv_iconst (pc := 21) (v := 0) hx hb dX7_wouldHold_21 (by decide) ?_
    refine lv_iconst (pc := 22) (v := 3) hx hb dX7_wouldHold_22 (by decide) ?_
    obtain ⟨uq_5, huq_5, hF⟩ := Option.bind_eq_some_iff.mp hF
    refine cl_X7_in (pc := 23) hx hb hml hown hV hw huq_5 (gw_1093 hV) hl.1 (Nat.le_of_ble_eq_true rfl) (Nat.le_of_ble_eq_true rfl) (Nat.le_of_ble_eq_true rfl) dX7_wouldHold_23 (fun H locs hw => ?_)
    refine gx_if_ne (pc := 26) (tgt := 33) hx hb hF dX7_wouldHold_26 (by decide) (fun hF => ?_) (fun hF => ?_)
    · refine lv_aload_n (pc := 33) hx hb dX7_wouldHold_33 rfl (lv_at hl 0 rfl) ?_
      refine lv_iload_n (pc := 34) hx hb dX7_wouldHold_34 rfl (lv_at hl 1 rfl) ?_
      obtain ⟨uq_6, huq_6, hF⟩ := Option.bind_eq_some_iff.mp hF
      refine cl_X7_isFree (pc := 35) hx hb hml hown hV hw huq_6 (gw_1118 hV) hl.1 (Nat.le_of_ble_eq_true rfl) (Nat.le_of_ble_eq_true rfl) (Nat.le_of_ble_eq_true rfl) dX7_wouldHold_35 (fun H locs hw => ?_)
      refine gx_if_eq (pc := 38) (tgt := 45) hx hb hF dX7_wouldHold_38 (by decide) (fun hF => ?_) (fun hF => ?_)
      · refine lv_iconst (pc := 45) (v := 3) hx hb dX7_wouldHold_45 (by decide) ?_
        obtain ⟨uq_7, huq_7, hF⟩ := Option.bind_eq_some_iff.mp hF
        refine cl_X7_fails (pc := 46) hx hb hml hown hV hw huq_7 (gw_1193 hV) hl.1 (Nat.le_of_ble_eq_true rfl) (Nat.le_of_ble_eq_true rfl) (Nat.le_of_ble_eq_true rfl) dX7_wouldHold_46 (fun H locs hw => ?_)
        refine gx_if_eq (pc := 49) (tgt := 56) hx hb hF dX7_wouldHold_49 (by decide) (fun hF => ?_) (fun hF => ?_)
        · refine lv_aload_n (pc := 56) hx hb dX7_wouldHold_56 rfl (lv_at hl 0 rfl) ?_
          refine lv_iload_n (pc := 57) hx hb dX7_wouldHold_57 rfl (lv_at hl 1 rfl) ?_
          refine lv_iconst (pc := 58) (v := 4) hx hb dX7_wouldHold_58 (by decide) ?_
          refine lv_iload_n (pc := 59) hx hb dX7_wouldHold_59 rfl (lv_at hl 2 rfl) ?_
          refine lv_imul (pc := 60) hx hb dX7_wouldHold_60 ?_
          refine lv_iload_n (pc := 61) hx hb dX7_wouldHold_61 rfl (lv_at hl 3 rfl) ?_
          refine lv_iadd (pc := 62) hx hb dX7_wouldHold_62 ?_
          obtain ⟨uq_8, huq_8, hF⟩ := Option.bind_eq_some_iff.mp hF
          refine cl_X7_held (pc := 63) hx hb hml hown hV hw huq_8 (gw_1122 hV) hl.1 (Nat.le_of_ble_eq_true rfl) (Nat.le_of_ble_eq_true rfl) (Nat.le_of_ble_eq_true rfl) dX7_wouldHold_63 (fun H locs hw => ?_)
          cases hF
          exact gx_iret hx hb hr hlocks hw dX7_wouldHold_66
        refine lv_iconst (pc := 52) (v := 0) hx hb dX7_wouldHold_52 (by decide) ?_
        refine lv_goto (pc := 53) (tgt := 66) hx hb dX7_wouldHold_53 (by decide) ?_
        cases hF
        exact gx_iret hx hb hr hlocks hw dX7_wouldHold_66
      refine lv_iconst (pc := 41) (v := 0) hx hb dX7_wouldHold_41 (by decide) ?_
      refine lv_goto (pc := 42) (tgt := 46) hx hb dX7_wouldHold_42 (by decide) ?_
      obtain ⟨uq_9, huq_9, hF⟩ := Option.bind_eq_some_iff.mp hF
      refine cl_X7_fails (pc := 46) hx hb hml hown hV hw huq_9 (gw_1193 hV) hl.1 (Nat.le_of_ble_eq_true rfl) (Nat.le_of_ble_eq_true rfl) (Nat.le_of_ble_eq_true rfl) dX7_wouldHold_46 (fun H locs hw => ?_)
      refine gx_if_eq (pc := 49) (tgt := 56) hx hb hF dX7_wouldHold_49 (by decide) (fun hF => ?_) (fun hF => ?_)
      · refine lv_aload_n (pc := 56) hx hb dX7_wouldHold_56 rfl (lv_at hl 0 rfl) ?_
        refine lv_iload_n (pc := 57) hx hb dX7_wouldHold_57 rfl (lv_at hl 1 rfl) ?_
        refine lv_iconst (pc := 58) (v := 4) hx hb dX7_wouldHold_58 (by decide) ?_
        refine lv_iload_n (pc := 59) hx hb dX7_wouldHold_59 rfl (lv_at hl 2 rfl) ?_
        refine lv_imul (pc := 60) hx hb dX7_wouldHold_60 ?_
        refine lv_iload_n (pc := 61) hx hb dX7_wouldHold_61 rfl (lv_at hl 3 rfl) ?_
        refine lv_iadd (pc := 62) hx hb dX7_wouldHold_62 ?_
        obtain ⟨uq_10, huq_10, hF⟩ := Option.bind_eq_some_iff.mp hF
        refine cl_X7_held (pc := 63) hx hb hml hown hV hw huq_10 (gw_1122 hV) hl.1 (Nat.le_of_ble_eq_true rfl) (Nat.le_of_ble_eq_true rfl) (Nat.le_of_ble_eq_true rfl) dX7_wouldHold_63 (fun H locs hw => ?_)
        cases hF
        exact gx_iret hx hb hr hlocks hw dX7_wouldHold_66
      refine lv_iconst (pc := 52) (v := 0) hx hb dX7_wouldHold_52 (by decide) ?_
      refine lv_goto (pc := 53) (tgt := 66) hx hb dX7_wouldHold_53 (by decide) ?_
      cases hF
      exact gx_iret hx hb hr hlocks hw dX7_wouldHold_66
    refine lv_iconst (pc := 29) (v := 2) hx hb dX7_wouldHold_29 (by decide) ?_
    refine lv_goto (pc := 30) (tgt := 46) hx hb dX7_wouldHold_30 (by decide) ?_
    obtain ⟨uq_11, huq_11, hF⟩ := Option.bind_eq_some_iff.mp hF
    refine cl_X7_fails (pc := 46) hx hb hml hown hV hw huq_11 (gw_1193 hV) hl.1 (Nat.le_of_ble_eq_true rfl) (Nat.le_of_ble_eq_true rfl) (Nat.le_of_ble_eq_true rfl) dX7_wouldHold_46 (fun H locs hw => ?_)
    refine gx_if_eq (pc := 49) (tgt := 56) hx hb hF dX7_wouldHold_49 (by decide) (fun hF => ?_) (fun hF => ?_)
    · refine lv_aload_n (pc := 56) hx hb dX7_wouldHold_56 rfl (lv_at hl 0 rfl) ?_
      refine lv_iload_n (pc := 57) hx hb dX7_wouldHold_57 rfl (lv_at hl 1 rfl) ?_
      refine lv_iconst (pc := 58) (v := 4) hx hb dX7_wouldHold_58 (by decide) ?_
      refine lv_iload_n (pc := 59) hx hb dX7_wouldHold_59 rfl (lv_at hl 2 rfl) ?_
      refine lv_imul (pc := 60) hx hb dX7_wouldHold_60 ?_
      refine lv_iload_n (pc := 61) hx hb dX7_wouldHold_61 rfl (lv_at hl 3 rfl) ?_
      refine lv_iadd (pc := 62) hx hb dX7_wouldHold_62 ?_
      obtain ⟨uq_12, huq_12, hF⟩ := Option.bind_eq_some_iff.mp hF
      refine cl_X7_held (pc := 63) hx hb hml hown hV hw huq_12 (gw_1122 hV) hl.1 (Nat.le_of_ble_eq_true rfl) (Nat.le_of_ble_eq_true rfl) (Nat.le_of_ble_eq_true rfl) dX7_wouldHold_63 (fun H locs hw => ?_)
      cases hF
      exact gx_iret hx hb hr hlocks hw dX7_wouldHold_66
    refine lv_iconst (pc := 52) (v := 0) hx hb dX7_wouldHold_52 (by decide) ?_
    refine lv_goto (pc := 53) (tgt := 66) hx hb dX7_wouldHold_53 (by decide) ?_
    cases hF
    exact gx_iret hx hb hr hlocks hw dX7_wouldHold_66
  refine lv_iconst (pc := 16) (v := 1) hx hb dX7_wouldHold_16 (by decide) ?_
  refine lv_goto (pc := 17) (tgt := 46) hx hb dX7_wouldHold_17 (by decide) ?_
  obtain ⟨uq_13, huq_13, hF⟩ := Option.bind_eq_some_iff.mp hF
  refine cl_X7_fails (pc := 46) hx hb hml hown hV hw huq_13 (gw_1193 hV) hl.1 (Nat.le_of_ble_eq_true rfl) (Nat.le_of_ble_eq_true rfl) (Nat.le_of_ble_eq_true rfl) dX7_wouldHold_46 (fun H locs hw => ?_)
  refine gx_if_eq (pc := 49) (tgt := 56) hx hb hF dX7_wouldHold_49 (by decide) (fun hF => ?_) (fun hF => ?_)
  · refine lv_aload_n (pc := 56) hx hb dX7_wouldHold_56 rfl (lv_at hl 0 rfl) ?_
    refine lv_iload_n (pc := 57) hx hb dX7_wouldHold_57 rfl (lv_at hl 1 rfl) ?_
    refine lv_iconst (pc := 58) (v := 4) hx hb dX7_wouldHold_58 (by decide) ?_
    refine lv_iload_n (pc := 59) hx hb dX7_wouldHold_59 rfl (lv_at hl 2 rfl) ?_
    refine lv_imul (pc := 60) hx hb dX7_wouldHold_60 ?_
    refine lv_iload_n (pc := 61) hx hb dX7_wouldHold_61 rfl (lv_at hl 3 rfl) ?_
    refine lv_iadd (pc := 62) hx hb dX7_wouldHold_62 ?_
    obtain ⟨uq_14, huq_14, hF⟩ := Option.bind_eq_some_iff.mp hF
    refine cl_X7_held (pc := 63) hx hb hml hown hV hw huq_14 (gw_1122 hV) hl.1 (Nat.le_of_ble_eq_true rfl) (Nat.le_of_ble_eq_true rfl) (Nat.le_of_ble_eq_true rfl) dX7_wouldHold_63 (fun H locs hw => ?_)
    cases hF
    exact gx_iret hx hb hr hlocks hw dX7_wouldHold_66
  refine lv_iconst (pc := 52) (v := 0) hx hb dX7_wouldHold_52 (by decide) ?_
  refine lv_goto (pc := 53) (tgt := 66) hx hb dX7_wouldHold_53 (by decide) ?_
  cases hF
  exact gx_iret hx hb hr hlocks hw dX7_wouldHold_66
set_option maxRecDepth 100000 in
theorem cl_X7_wouldHold {l : Launch} {G : gx_G} {C : gx_S} {o : Int64} {d : UInt64} {I V : gx_F} {p : Program} {e : Env} {R : Room} {s : State} {m : MethodId} {args : Array Value} {below : List Frame} {meth : Method} {c : Code} {H : Heap} {locs : List Loc} {cells slots : Nat} {Q : State → Prop} {cc : ByteArray} {pc nL index : Nat} {ls : Array Slot} {rest : List Value} {own : String} {x1 : Int32} {x2 : Int32} {x3 : Int32} {out : (Int32 × gx_F × gx_F)} (hx : p.tables.exec = Jvm.exec) (hb : c.code = cc) (hml : c.maxLocals = nL) (hown : s.vm.findClass own = some m.cls) (hV : gx_V G s) (hw : gx_at G C (I, V) o d s.heap H locs) (hF : f_X7_wouldHold x1 x2 x3 I V = some out) (hlink : (Cond.methodLink own index yX7_wouldHold).before args s = true) (hsz : ls.size = nL) (hfr : 4 ≤ R.frames) (hlo : 94 ≤ R.locals) (hrest : (rest.map fun v => v.category).sum ≤ 8) (hdg : decode cc pc = .ok (.invokevirtual index, 3))
    (kk : ∀ (H1 : Heap) (locs1 : List Loc), gx_at G C (out.2.1, out.2.2) o d s.heap H1 locs1 → W p l e R s m args below meth c H1 locs1 cells slots Q (F0 m (pc + 3) ls (.int out.1 :: rest))) (hc : cells ≤ R.cells := by exact Nat.zero_le _) (hs : slots ≤ R.slots := by exact Nat.zero_le _) : W p l e R s m args below meth c H locs cells slots Q (F0 m pc ls (.int x3 :: .int x2 :: .int x1 :: .ref (G.2.1 58) :: rest)) :=
  gx_runi hw (va_runV (C := RX7) (As := [.int x1, .int x2, .int x3]) (rest := rest) ⟨hx, hb, hml, hown, (fun _ h => nomatch h : ∀ w ∈ ([] : List Cond), w.before args s = true)⟩ (k_X7_wouldHold hF) ⟨gx_callB (n := 3) rfl rfl hlink (gw_56 hV) (gw_1228 hV) (by decide +kernel) ⟨hfr, hlo⟩, gw_1226 hV, gw_1227 hV⟩ (gx_recv (k := 58) (ci := 9) (T := TX7) hV hw (by decide) rfl rfl) rfl rfl hsz rfl (lv_room hrest) hdg ⟨hc, hs⟩) kk
set_option maxHeartbeats 4000000 in
set_option maxRecDepth 100000 in
theorem k_X7_stands {l : Launch} {G : gx_G} {C : gx_S} {o : Int64} {d : UInt64} {I V : gx_F} {x1 : Int32} {out : (Bool × gx_F × gx_F)} (hF : f_X7_stands x1 I V = some out) : gx_K l yX7_stands cX7_stands 2 (some .boolean) { frames := 3, cells := 0, slots := 0, locals := 71 } [.ref (G.2.1 58), .int x1] G C (I, V) o d (gx_Qi G (gx_bi out.1) C (out.2.1, out.2.2) o d) 0 0 := by
  refine gx_begin (by decide +kernel) (Nat.le_of_ble_eq_true rfl) ?_
  intro p e s m below meth c hx hb hr hml hown hlocks hV hw ls hl
  have hown : s.vm.findClass RX7 = some m.cls := hown
  have hl : lv_has ls 2 [(0, .ref (G.2.1 58)), (1, .int x1)] := hl
  unfold f_X7_stands at hF
  refine lv_aload_n (pc := 0) hx hb dX7_stands_0 rfl (lv_at hl 0 rfl) ?_
  refine lv_iload_n (pc := 1) hx hb dX7_stands_1 rfl (lv_at hl 1 rfl) ?_
  obtain ⟨uq_1, huq_1, hF⟩ := Option.bind_eq_some_iff.mp hF
  refine cl_X7_isNoBrick (pc := 2) hx hb hml hown hV hw huq_1 (gw_1205 hV) hl.1 (Nat.le_of_ble_eq_true rfl) (Nat.le_of_ble_eq_true rfl) (Nat.le_of_ble_eq_true rfl) dX7_stands_2 (fun H locs hw => ?_)
  refine gx_if_eq (pc := 5) (tgt := 10) hx hb hF dX7_stands_5 (by decide) (fun hF => ?_) (fun hF => ?_)
  · refine lv_aload_n (pc := 10) hx hb dX7_stands_10 rfl (lv_at hl 0 rfl) ?_
    obtain ⟨uq_2, huq_2, hF⟩ := Option.bind_eq_some_iff.mp hF
    refine cl_X7_standing0 (pc := 11) hx hb hml hown hV hw huq_2 (gw_1145 hV) hl.1 (Nat.le_of_ble_eq_true rfl) (Nat.le_of_ble_eq_true rfl) (Nat.le_of_ble_eq_true rfl) dX7_stands_11 (fun H locs hw => ?_)
    refine gx_if_le (pc := 14) (tgt := 30) hx hb hF dX7_stands_14 (by decide) (fun hF => ?_) (fun hF => ?_)
    · refine lv_iconst (pc := 30) (v := 0) hx hb dX7_stands_30 (by decide) ?_
      cases hF
      exact gx_zret (r := gx_bi false) hx hb hr (gx_narb _) hlocks hw dX7_stands_31
    refine lv_aload_n (pc := 17) hx hb dX7_stands_17 rfl (lv_at hl 0 rfl) ?_
    refine gg_X7_18 (pc := 18) hx hb hown hV hw (gw_1036 hV) dX7_stands_18 ?_
    refine lv_iload_n (pc := 21) hx hb dX7_stands_21 rfl (lv_at hl 1 rfl) ?_
    refine ga_66_ld (pc := 22) hx hb hV hw hF dX7_stands_22 (fun _ hF => ?_)
    refine gx_if_eq (pc := 23) (tgt := 30) hx hb hF dX7_stands_23 (by decide) (fun hF => ?_) (fun hF => ?_)
    · refine lv_iconst (pc := 30) (v := 0) hx hb dX7_stands_30 (by decide) ?_
      cases hF
      exact gx_zret (r := gx_bi false) hx hb hr (gx_narb _) hlocks hw dX7_stands_31
    refine lv_iconst (pc := 26) (v := 1) hx hb dX7_stands_26 (by decide) ?_
    refine lv_goto (pc := 27) (tgt := 31) hx hb dX7_stands_27 (by decide) ?_
    cases hF
    exact gx_zret (r := gx_bi true) hx hb hr (gx_narb _) hlocks hw dX7_stands_31
  refine lv_iconst (pc := 8) (v := 0) hx hb dX7_stands_8 (by decide) ?_
  cases hF
  exact gx_zret (r := gx_bi false) hx hb hr (gx_narb _) hlocks hw dX7_stands_9
set_option maxRecDepth 100000 in
theorem cl_X7_stands {l : Launch} {G : gx_G} {C : gx_S} {o : Int64} {d : UInt64} {I V : gx_F} {p : Program} {e : Env} {R : Room} {s : State} {m : MethodId} {args : Array Value} {below : List Frame} {meth : Method} {c : Code} {H : Heap} {locs : List Loc} {cells slots : Nat} {Q : State → Prop} {cc : ByteArray} {pc nL index : Nat} {ls : Array Slot} {rest : List Value} {own : String} {x1 : Int32} {out : (Bool × gx_F × gx_F)} (hx : p.tables.exec = Jvm.exec) (hb : c.code = cc) (hml : c.maxLocals = nL) (hown : s.vm.findClass own = some m.cls) (hV : gx_V G s) (hw : gx_at G C (I, V) o d s.heap H locs) (hF : f_X7_stands x1 I V = some out) (hlink : (Cond.methodLink own index yX7_stands).before args s = true) (hsz : ls.size = nL) (hfr : 4 ≤ R.frames) (hlo : 92 ≤ R.locals) (hrest : (rest.map fun v => v.category).sum ≤ 8) (hdg : decode cc pc = .ok (.invokevirtual index, 3))
    (kk : ∀ (H1 : Heap) (locs1 : List Loc), gx_at G C (out.2.1, out.2.2) o d s.heap H1 locs1 → W p l e R s m args below meth c H1 locs1 cells slots Q (F0 m (pc + 3) ls (.int (gx_bi out.1) :: rest))) (hc : cells ≤ R.cells := by exact Nat.zero_le _) (hs : slots ≤ R.slots := by exact Nat.zero_le _) : W p l e R s m args below meth c H locs cells slots Q (F0 m pc ls (.int x1 :: .ref (G.2.1 58) :: rest)) :=
  gx_runi hw (va_runV (C := RX7) (As := [.int x1]) (rest := rest) ⟨hx, hb, hml, hown, (fun _ h => nomatch h : ∀ w ∈ ([] : List Cond), w.before args s = true)⟩ (k_X7_stands hF) ⟨gx_callB (n := 1) rfl rfl hlink (gw_56 hV) (gw_1232 hV) (by decide +kernel) ⟨hfr, hlo⟩, gw_1230 hV, gw_1231 hV⟩ (gx_recv (k := 58) (ci := 9) (T := TX7) hV hw (by decide) rfl rfl) rfl rfl hsz rfl (lv_room hrest) hdg ⟨hc, hs⟩) kk
set_option maxHeartbeats 4000000 in
set_option maxRecDepth 100000 in
theorem k_X7_fallen {l : Launch} {G : gx_G} {C : gx_S} {o : Int64} {d : UInt64} {I V : gx_F} {out : (Int32 × gx_F × gx_F)} (hF : f_X7_fallen I V = some out) : gx_K l yX7_fallen cX7_fallen 1 (some .int) { frames := 3, cells := 0, slots := 0, locals := 71 } [.ref (G.2.1 58)] G C (I, V) o d (gx_Qi G out.1 C (out.2.1, out.2.2) o d) 0 0 := by
  refine gx_begin (by decide +kernel) (Nat.le_of_ble_eq_true rfl) ?_
  intro p e s m below meth c hx hb hr hml hown hlocks hV hw ls hl
  have hown : s.vm.findClass RX7 = some m.cls := hown
  have hl : lv_has ls 1 [(0, .ref (G.2.1 58))] := hl
  unfold f_X7_fallen at hF
  refine lv_aload_n (pc := 0) hx hb dX7_fallen_0 rfl (lv_at hl 0 rfl) ?_
  refine lv_iconst (pc := 1) (v := 0) hx hb dX7_fallen_1 (by decide) ?_
  refine gp_X7_9 (pc := 2) hx hb hown hV hw (gw_1027 hV) dX7_fallen_2 (fun H locs hw => ?_)
  refine lv_aload_n (pc := 5) hx hb dX7_fallen_5 rfl (lv_at hl 0 rfl) ?_
  obtain ⟨uq_1, huq_1, hF⟩ := Option.bind_eq_some_iff.mp hF
  refine cl_X7_bricks (pc := 6) hx hb hml hown hV hw huq_1 (gw_1237 hV) hl.1 (Nat.le_of_ble_eq_true rfl) (Nat.le_of_ble_eq_true rfl) (Nat.le_of_ble_eq_true rfl) dX7_fallen_6 (fun H locs hw => ?_)
  refine lv_aload_n (pc := 9) hx hb dX7_fallen_9 rfl (lv_at hl 0 rfl) ?_
  obtain ⟨uq_2, huq_2, hF⟩ := Option.bind_eq_some_iff.mp hF
  refine cl_X7_standing0 (pc := 10) hx hb hml hown hV hw huq_2 (gw_1145 hV) hl.1 (Nat.le_of_ble_eq_true rfl) (Nat.le_of_ble_eq_true rfl) (Nat.le_of_ble_eq_true rfl) dX7_fallen_10 (fun H locs hw => ?_)
  refine lv_isub (pc := 13) hx hb dX7_fallen_13 ?_
  cases hF
  exact gx_iret hx hb hr hlocks hw dX7_fallen_14
set_option maxRecDepth 100000 in
theorem cl_X7_fallen {l : Launch} {G : gx_G} {C : gx_S} {o : Int64} {d : UInt64} {I V : gx_F} {p : Program} {e : Env} {R : Room} {s : State} {m : MethodId} {args : Array Value} {below : List Frame} {meth : Method} {c : Code} {H : Heap} {locs : List Loc} {cells slots : Nat} {Q : State → Prop} {cc : ByteArray} {pc nL index : Nat} {ls : Array Slot} {rest : List Value} {own : String} {out : (Int32 × gx_F × gx_F)} (hx : p.tables.exec = Jvm.exec) (hb : c.code = cc) (hml : c.maxLocals = nL) (hown : s.vm.findClass own = some m.cls) (hV : gx_V G s) (hw : gx_at G C (I, V) o d s.heap H locs) (hF : f_X7_fallen I V = some out) (hlink : (Cond.methodLink own index yX7_fallen).before args s = true) (hsz : ls.size = nL) (hfr : 4 ≤ R.frames) (hlo : 91 ≤ R.locals) (hrest : (rest.map fun v => v.category).sum ≤ 8) (hdg : decode cc pc = .ok (.invokevirtual index, 3))
    (kk : ∀ (H1 : Heap) (locs1 : List Loc), gx_at G C (out.2.1, out.2.2) o d s.heap H1 locs1 → W p l e R s m args below meth c H1 locs1 cells slots Q (F0 m (pc + 3) ls (.int out.1 :: rest))) (hc : cells ≤ R.cells := by exact Nat.zero_le _) (hs : slots ≤ R.slots := by exact Nat.zero_le _) : W p l e R s m args below meth c H locs cells slots Q (F0 m pc ls (.ref (G.2.1 58) :: rest)) :=
  gx_runi hw (va_runV (C := RX7) (As := []) (rest := rest) ⟨hx, hb, hml, hown, (fun _ h => nomatch h : ∀ w ∈ ([] : List Cond), w.before args s = true)⟩ (k_X7_fallen hF) ⟨gx_callB (n := 0) rfl rfl hlink (gw_56 hV) (gw_1236 hV) (by decide +kernel) ⟨hfr, hlo⟩, gw_1234 hV, gw_1235 hV⟩ (gx_recv (k := 58) (ci := 9) (T := TX7) hV hw (by decide) rfl rfl) rfl rfl hsz rfl (lv_room hrest) hdg ⟨hc, hs⟩) kk
set_option maxHeartbeats 4000000 in
set_option maxRecDepth 100000 in
theorem k_X7_falls {l : Launch} {G : gx_G} {C : gx_S} {o : Int64} {d : UInt64} {I V : gx_F} {x1 : Int32} {out : (Int32 × gx_F × gx_F)} (hF : f_X7_falls x1 I V = some out) : gx_K l yX7_falls cX7_falls 2 (some .int) { frames := 4, cells := 0, slots := 0, locals := 96 } [.ref (G.2.1 58), .int x1] G C (I, V) o d (gx_Qi G out.1 C (out.2.1, out.2.2) o d) 0 0 := by
  refine gx_begin (by decide +kernel) (Nat.le_of_ble_eq_true rfl) ?_
  intro p e s m below meth c hx hb hr hml hown hlocks hV hw ls hl
  have hown : s.vm.findClass RX7 = some m.cls := hown
  have hl : lv_has ls 2 [(0, .ref (G.2.1 58)), (1, .int x1)] := hl
  unfold f_X7_falls at hF
  refine lv_aload_n (pc := 0) hx hb dX7_falls_0 rfl (lv_at hl 0 rfl) ?_
  refine lv_iload_n (pc := 1) hx hb dX7_falls_1 rfl (lv_at hl 1 rfl) ?_
  obtain ⟨uq_1, huq_1, hF⟩ := Option.bind_eq_some_iff.mp hF
  refine cl_X7_isNoBrick (pc := 2) hx hb hml hown hV hw huq_1 (gw_1205 hV) hl.1 (Nat.le_of_ble_eq_true rfl) (Nat.le_of_ble_eq_true rfl) (Nat.le_of_ble_eq_true rfl) dX7_falls_2 (fun H locs hw => ?_)
  refine gx_if_eq (pc := 5) (tgt := 12) hx hb hF dX7_falls_5 (by decide) (fun hF => ?_) (fun hF => ?_)
  · refine lv_aload_n (pc := 12) hx hb dX7_falls_12 rfl (lv_at hl 0 rfl) ?_
    refine lv_iload_n (pc := 13) hx hb dX7_falls_13 rfl (lv_at hl 1 rfl) ?_
    obtain ⟨uq_2, huq_2, hF⟩ := Option.bind_eq_some_iff.mp hF
    refine cl_X7_fallsBy (pc := 14) hx hb hml hown hV hw huq_2 (gw_1141 hV) hl.1 (Nat.le_of_ble_eq_true rfl) (Nat.le_of_ble_eq_true rfl) (Nat.le_of_ble_eq_true rfl) dX7_falls_14 (fun H locs hw => ?_)
    cases hF
    exact gx_iret hx hb hr hlocks hw dX7_falls_17
  refine lv_iconst (pc := 8) (v := 0) hx hb dX7_falls_8 (by decide) ?_
  refine lv_goto (pc := 9) (tgt := 17) hx hb dX7_falls_9 (by decide) ?_
  cases hF
  exact gx_iret hx hb hr hlocks hw dX7_falls_17
set_option maxRecDepth 100000 in
theorem cl_X7_falls {l : Launch} {G : gx_G} {C : gx_S} {o : Int64} {d : UInt64} {I V : gx_F} {p : Program} {e : Env} {R : Room} {s : State} {m : MethodId} {args : Array Value} {below : List Frame} {meth : Method} {c : Code} {H : Heap} {locs : List Loc} {cells slots : Nat} {Q : State → Prop} {cc : ByteArray} {pc nL index : Nat} {ls : Array Slot} {rest : List Value} {own : String} {x1 : Int32} {out : (Int32 × gx_F × gx_F)} (hx : p.tables.exec = Jvm.exec) (hb : c.code = cc) (hml : c.maxLocals = nL) (hown : s.vm.findClass own = some m.cls) (hV : gx_V G s) (hw : gx_at G C (I, V) o d s.heap H locs) (hF : f_X7_falls x1 I V = some out) (hlink : (Cond.methodLink own index yX7_falls).before args s = true) (hsz : ls.size = nL) (hfr : 5 ≤ R.frames) (hlo : 117 ≤ R.locals) (hrest : (rest.map fun v => v.category).sum ≤ 8) (hdg : decode cc pc = .ok (.invokevirtual index, 3))
    (kk : ∀ (H1 : Heap) (locs1 : List Loc), gx_at G C (out.2.1, out.2.2) o d s.heap H1 locs1 → W p l e R s m args below meth c H1 locs1 cells slots Q (F0 m (pc + 3) ls (.int out.1 :: rest))) (hc : cells ≤ R.cells := by exact Nat.zero_le _) (hs : slots ≤ R.slots := by exact Nat.zero_le _) : W p l e R s m args below meth c H locs cells slots Q (F0 m pc ls (.int x1 :: .ref (G.2.1 58) :: rest)) :=
  gx_runi hw (va_runV (C := RX7) (As := [.int x1]) (rest := rest) ⟨hx, hb, hml, hown, (fun _ h => nomatch h : ∀ w ∈ ([] : List Cond), w.before args s = true)⟩ (k_X7_falls hF) ⟨gx_callB (n := 1) rfl rfl hlink (gw_56 hV) (gw_1244 hV) (by decide +kernel) ⟨hfr, hlo⟩, gw_1242 hV, gw_1243 hV⟩ (gx_recv (k := 58) (ci := 9) (T := TX7) hV hw (by decide) rfl rfl) rfl rfl hsz rfl (lv_room hrest) hdg ⟨hc, hs⟩) kk
set_option maxHeartbeats 4000000 in
set_option maxRecDepth 100000 in
theorem k_X7_errors {l : Launch} {G : gx_G} {C : gx_S} {o : Int64} {d : UInt64} {I V : gx_F} {out : (Int32 × gx_F × gx_F)} (hF : f_X7_errors I V = some out) : gx_K l yX7_errors cX7_errors 3 (some .int) { frames := 2, cells := 0, slots := 0, locals := 49 } [.ref (G.2.1 58)] G C (I, V) o d (gx_Qi G out.1 C (out.2.1, out.2.2) o d) 0 0 := by
  refine gx_begin (by decide +kernel) (Nat.le_of_ble_eq_true rfl) ?_
  intro p e s m below meth c hx hb hr hml hown hlocks hV hw ls hl
  have hown : s.vm.findClass RX7 = some m.cls := hown
  have hl : lv_has ls 3 [(0, .ref (G.2.1 58))] := hl
  unfold f_X7_errors at hF
  refine lv_aload_n (pc := 0) hx hb dX7_errors_0 rfl (lv_at hl 0 rfl) ?_
  refine lv_iconst (pc := 1) (v := 0) hx hb dX7_errors_1 (by decide) ?_
  refine gp_X7_9 (pc := 2) hx hb hown hV hw (gw_1027 hV) dX7_errors_2 (fun H locs hw => ?_)
  refine lv_iconst (pc := 5) (v := 0) hx hb dX7_errors_5 (by decide) ?_
  refine lv_istore_n (pc := 6) (lv' := [(1, .int 0), (0, .ref (G.2.1 58))]) hx hb dX7_errors_6 rfl hl (by decide) rfl (fun ls hl => ?_)
  refine lv_iconst (pc := 7) (v := 0) hx hb dX7_errors_7 (by decide) ?_
  refine lv_istore_n (pc := 8) (lv' := [(2, .int 0), (1, .int 0), (0, .ref (G.2.1 58))]) hx hb dX7_errors_8 rfl hl (by decide) rfl (fun ls hl => ?_)
  have L1 : ∀ (n : Nat) (K1 : Int32 → Int32 → Option (Int32 × gx_F × gx_F)) (uv_1 : Int32) (uv_2 : Int32) (H : Heap) (locs : List Loc) (ls : Array Slot), lv_has ls 3 [(2, .int uv_2), (1, .int uv_1), (0, .ref (G.2.1 58))] → gx_at G C ((gx_u I 58 9 0), V) o d s.heap H locs → f_X7_errors_L1 I V K1 n uv_1 uv_2 = some out → (∀ (uv_1 : Int32) (uv_2 : Int32) (H : Heap) (locs : List Loc) (ls : Array Slot), lv_has ls 3 [(2, .int uv_2), (1, .int uv_1), (0, .ref (G.2.1 58))] → gx_at G C ((gx_u I 58 9 0), V) o d s.heap H locs → K1 uv_1 uv_2 = some out → W p l e ({ frames := 2, cells := 0, slots := 0, locals := 49 } : Room) s m ([.ref (G.2.1 58)] : List Value).toArray below meth c H locs 0 0 (MQ below (gx_Qi G out.1 C (out.2.1, out.2.2) o d) ([.ref (G.2.1 58)] : List Value).toArray s 0 0 (gx_A G)) (F0 m 50 ls [])) → W p l e ({ frames := 2, cells := 0, slots := 0, locals := 49 } : Room) s m ([.ref (G.2.1 58)] : List Value).toArray below meth c H locs 0 0 (MQ below (gx_Qi G out.1 C (out.2.1, out.2.2) o d) ([.ref (G.2.1 58)] : List Value).toArray s 0 0 (gx_A G)) (F0 m 9 ls []) := by
    intro n
    induction n with
    | zero =>
      intro K1 uv_1 uv_2 H locs ls hl hw hF hK
      rw [f_X7_errors_L1] at hF
      cases hF
    | succ n ih1 =>
      intro K1 uv_1 uv_2 H locs ls hl hw hF hK1
      rw [f_X7_errors_L1] at hF
      refine lv_iload_n (pc := 9) hx hb dX7_errors_9 rfl (lv_at hl 0 rfl) ?_
      refine lv_bipush (pc := 10) (v := 42) hx hb dX7_errors_10 (by decide) ?_
      refine gx_icmp_ge (pc := 12) (tgt := 50) hx hb hF dX7_errors_12 (by decide) (fun hF => ?_) (fun hF => ?_)
      · exact hK1 _ _ _ _ _ (lv_sub hl [0, 1, 2] rfl) hw hF
      refine lv_iload_n (pc := 15) hx hb dX7_errors_15 rfl (lv_at hl 1 rfl) ?_
      refine lv_aload_n (pc := 16) hx hb dX7_errors_16 rfl (lv_at hl 2 rfl) ?_
      refine lv_iload_n (pc := 17) hx hb dX7_errors_17 rfl (lv_at hl 0 rfl) ?_
      obtain ⟨uq_3, huq_3, hF⟩ := Option.bind_eq_some_iff.mp hF
      refine cl_X7_isFree (pc := 18) hx hb hml hown hV hw huq_3 (gw_1118 hV) hl.1 (Nat.le_of_ble_eq_true rfl) (Nat.le_of_ble_eq_true rfl) (Nat.le_of_ble_eq_true rfl) dX7_errors_18 (fun H locs hw => ?_)
      refine gx_if_eq (pc := 21) (tgt := 28) hx hb hF dX7_errors_21 (by decide) (fun hF => ?_) (fun hF => ?_)
      · refine lv_aload_n (pc := 28) hx hb dX7_errors_28 rfl (lv_at hl 2 rfl) ?_
        refine lv_iload_n (pc := 29) hx hb dX7_errors_29 rfl (lv_at hl 0 rfl) ?_
        refine lv_aload_n (pc := 30) hx hb dX7_errors_30 rfl (lv_at hl 2 rfl) ?_
        refine gg_X7_0 (pc := 31) hx hb hown hV hw (gw_1018 hV) dX7_errors_31 ?_
        refine lv_bipush (pc := 34) (v := 45) hx hb dX7_errors_34 (by decide) ?_
        refine lv_iload_n (pc := 36) hx hb dX7_errors_36 rfl (lv_at hl 0 rfl) ?_
        refine lv_iadd (pc := 37) hx hb dX7_errors_37 ?_
        refine ga_59_ld (pc := 38) hx hb hV hw hF dX7_errors_38 (fun _ hF => ?_)
        obtain ⟨uq_4, huq_4, hF⟩ := Option.bind_eq_some_iff.mp hF
        refine cl_X7_errorsOf (pc := 39) hx hb hml hown hV hw huq_4 (gw_1165 hV) hl.1 (Nat.le_of_ble_eq_true rfl) (Nat.le_of_ble_eq_true rfl) (Nat.le_of_ble_eq_true rfl) dX7_errors_39 (fun H locs hw => ?_)
        refine lv_iadd (pc := 42) hx hb dX7_errors_42 ?_
        refine lv_istore_n (pc := 43) (lv' := [(1, .int (uv_1 + uq_4)), (2, .int uv_2), (0, .ref (G.2.1 58))]) hx hb dX7_errors_43 rfl hl (by decide) rfl (fun ls hl => ?_)
        refine lv_iinc (pc := 44) (v := (uv_2 + 1)) (lv' := [(2, .int (uv_2 + 1)), (1, .int (uv_1 + uq_4)), (0, .ref (G.2.1 58))]) hx hb dX7_errors_44 hl (k := 1) rfl rfl (by decide) rfl (fun ls hl => ?_)
        refine lv_goto (pc := 47) (tgt := 9) hx hb dX7_errors_47 (by decide) ?_
        exact ih1 _ _ _ _ _ _ (lv_sub hl [0, 1, 2] rfl) hw hF hK1
      refine lv_iconst (pc := 24) (v := 0) hx hb dX7_errors_24 (by decide) ?_
      refine lv_goto (pc := 25) (tgt := 42) hx hb dX7_errors_25 (by decide) ?_
      refine lv_iadd (pc := 42) hx hb dX7_errors_42 ?_
      refine lv_istore_n (pc := 43) (lv' := [(1, .int (uv_1 + 0)), (2, .int uv_2), (0, .ref (G.2.1 58))]) hx hb dX7_errors_43 rfl hl (by decide) rfl (fun ls hl => ?_)
      refine lv_iinc (pc := 44) (v := (uv_2 + 1)) (lv' := [(2, .int (uv_2 + 1)), (1, .int (uv_1 + 0)), (0, .ref (G.2.1 58))]) hx hb dX7_errors_44 hl (k := 1) rfl rfl (by decide) rfl (fun ls hl => ?_)
      refine lv_goto (pc := 47) (tgt := 9) hx hb dX7_errors_47 (by decide) ?_
      exact ih1 _ _ _ _ _ _ (lv_sub hl [0, 1, 2] rfl) hw hF hK1
  refine L1 1000 _ _ _ _ _ _ hl hw hF (fun uv_5 uv_6 H locs ls hl hw hF => ?_)
  refine lv_iload_n (pc := 50) hx hb dX7_errors_50 rfl (lv_at hl 1 rfl) ?_
  refine lv_iconst (pc := 51) (v := 2) hx hb dX7_errors_51 (by decide) ?_
  refine lv_idiv (pc := 52) hx hb dX7_errors_52 (by decide) ?_
  cases hF
  exact gx_iret hx hb hr hlocks hw dX7_errors_53
set_option maxRecDepth 100000 in
theorem cl_X7_errors {l : Launch} {G : gx_G} {C : gx_S} {o : Int64} {d : UInt64} {I V : gx_F} {p : Program} {e : Env} {R : Room} {s : State} {m : MethodId} {args : Array Value} {below : List Frame} {meth : Method} {c : Code} {H : Heap} {locs : List Loc} {cells slots : Nat} {Q : State → Prop} {cc : ByteArray} {pc nL index : Nat} {ls : Array Slot} {rest : List Value} {own : String} {out : (Int32 × gx_F × gx_F)} (hx : p.tables.exec = Jvm.exec) (hb : c.code = cc) (hml : c.maxLocals = nL) (hown : s.vm.findClass own = some m.cls) (hV : gx_V G s) (hw : gx_at G C (I, V) o d s.heap H locs) (hF : f_X7_errors I V = some out) (hlink : (Cond.methodLink own index yX7_errors).before args s = true) (hsz : ls.size = nL) (hfr : 3 ≤ R.frames) (hlo : 71 ≤ R.locals) (hrest : (rest.map fun v => v.category).sum ≤ 8) (hdg : decode cc pc = .ok (.invokevirtual index, 3))
    (kk : ∀ (H1 : Heap) (locs1 : List Loc), gx_at G C (out.2.1, out.2.2) o d s.heap H1 locs1 → W p l e R s m args below meth c H1 locs1 cells slots Q (F0 m (pc + 3) ls (.int out.1 :: rest))) (hc : cells ≤ R.cells := by exact Nat.zero_le _) (hs : slots ≤ R.slots := by exact Nat.zero_le _) : W p l e R s m args below meth c H locs cells slots Q (F0 m pc ls (.ref (G.2.1 58) :: rest)) :=
  gx_runi hw (va_runV (C := RX7) (As := []) (rest := rest) ⟨hx, hb, hml, hown, (fun _ h => nomatch h : ∀ w ∈ ([] : List Cond), w.before args s = true)⟩ (k_X7_errors hF) ⟨gx_callB (n := 0) rfl rfl hlink (gw_56 hV) (gw_1248 hV) (by decide +kernel) ⟨hfr, hlo⟩, gw_1246 hV, gw_1247 hV⟩ (gx_recv (k := 58) (ci := 9) (T := TX7) hV hw (by decide) rfl rfl) rfl rfl hsz rfl (lv_room hrest) hdg ⟨hc, hs⟩) kk
set_option maxHeartbeats 4000000 in
set_option maxRecDepth 100000 in
theorem k_X7_errorsAt {l : Launch} {G : gx_G} {C : gx_S} {o : Int64} {d : UInt64} {I V : gx_F} {x1 : Int32} {out : (Int32 × gx_F × gx_F)} (hF : f_X7_errorsAt x1 I V = some out) : gx_K l yX7_errorsAt cX7_errorsAt 2 (some .int) { frames := 3, cells := 0, slots := 0, locals := 63 } [.ref (G.2.1 58), .int x1] G C (I, V) o d (gx_Qi G out.1 C (out.2.1, out.2.2) o d) 0 0 := by
  refine gx_begin (by decide +kernel) (Nat.le_of_ble_eq_true rfl) ?_
  intro p e s m below meth c hx hb hr hml hown hlocks hV hw ls hl
  have hown : s.vm.findClass RX7 = some m.cls := hown
  have hl : lv_has ls 2 [(0, .ref (G.2.1 58)), (1, .int x1)] := hl
  unfold f_X7_errorsAt at hF
  refine lv_aload_n (pc := 0) hx hb dX7_errorsAt_0 rfl (lv_at hl 0 rfl) ?_
  refine lv_iload_n (pc := 1) hx hb dX7_errorsAt_1 rfl (lv_at hl 1 rfl) ?_
  obtain ⟨uq_1, huq_1, hF⟩ := Option.bind_eq_some_iff.mp hF
  refine cl_X7_isNoBrick (pc := 2) hx hb hml hown hV hw huq_1 (gw_1205 hV) hl.1 (Nat.le_of_ble_eq_true rfl) (Nat.le_of_ble_eq_true rfl) (Nat.le_of_ble_eq_true rfl) dX7_errorsAt_2 (fun H locs hw => ?_)
  refine gx_if_eq (pc := 5) (tgt := 12) hx hb hF dX7_errorsAt_5 (by decide) (fun hF => ?_) (fun hF => ?_)
  · refine lv_aload_n (pc := 12) hx hb dX7_errorsAt_12 rfl (lv_at hl 0 rfl) ?_
    refine lv_iload_n (pc := 13) hx hb dX7_errorsAt_13 rfl (lv_at hl 1 rfl) ?_
    refine lv_aload_n (pc := 14) hx hb dX7_errorsAt_14 rfl (lv_at hl 0 rfl) ?_
    refine gg_X7_0 (pc := 15) hx hb hown hV hw (gw_1018 hV) dX7_errorsAt_15 ?_
    refine lv_bipush (pc := 18) (v := 45) hx hb dX7_errorsAt_18 (by decide) ?_
    refine lv_iload_n (pc := 20) hx hb dX7_errorsAt_20 rfl (lv_at hl 1 rfl) ?_
    refine lv_iadd (pc := 21) hx hb dX7_errorsAt_21 ?_
    refine ga_59_ld (pc := 22) hx hb hV hw hF dX7_errorsAt_22 (fun _ hF => ?_)
    obtain ⟨uq_2, huq_2, hF⟩ := Option.bind_eq_some_iff.mp hF
    refine cl_X7_errorsOf (pc := 23) hx hb hml hown hV hw huq_2 (gw_1165 hV) hl.1 (Nat.le_of_ble_eq_true rfl) (Nat.le_of_ble_eq_true rfl) (Nat.le_of_ble_eq_true rfl) dX7_errorsAt_23 (fun H locs hw => ?_)
    cases hF
    exact gx_iret hx hb hr hlocks hw dX7_errorsAt_26
  refine lv_iconst (pc := 8) (v := 0) hx hb dX7_errorsAt_8 (by decide) ?_
  refine lv_goto (pc := 9) (tgt := 26) hx hb dX7_errorsAt_9 (by decide) ?_
  cases hF
  exact gx_iret hx hb hr hlocks hw dX7_errorsAt_26
set_option maxRecDepth 100000 in
theorem cl_X7_errorsAt {l : Launch} {G : gx_G} {C : gx_S} {o : Int64} {d : UInt64} {I V : gx_F} {p : Program} {e : Env} {R : Room} {s : State} {m : MethodId} {args : Array Value} {below : List Frame} {meth : Method} {c : Code} {H : Heap} {locs : List Loc} {cells slots : Nat} {Q : State → Prop} {cc : ByteArray} {pc nL index : Nat} {ls : Array Slot} {rest : List Value} {own : String} {x1 : Int32} {out : (Int32 × gx_F × gx_F)} (hx : p.tables.exec = Jvm.exec) (hb : c.code = cc) (hml : c.maxLocals = nL) (hown : s.vm.findClass own = some m.cls) (hV : gx_V G s) (hw : gx_at G C (I, V) o d s.heap H locs) (hF : f_X7_errorsAt x1 I V = some out) (hlink : (Cond.methodLink own index yX7_errorsAt).before args s = true) (hsz : ls.size = nL) (hfr : 4 ≤ R.frames) (hlo : 84 ≤ R.locals) (hrest : (rest.map fun v => v.category).sum ≤ 8) (hdg : decode cc pc = .ok (.invokevirtual index, 3))
    (kk : ∀ (H1 : Heap) (locs1 : List Loc), gx_at G C (out.2.1, out.2.2) o d s.heap H1 locs1 → W p l e R s m args below meth c H1 locs1 cells slots Q (F0 m (pc + 3) ls (.int out.1 :: rest))) (hc : cells ≤ R.cells := by exact Nat.zero_le _) (hs : slots ≤ R.slots := by exact Nat.zero_le _) : W p l e R s m args below meth c H locs cells slots Q (F0 m pc ls (.int x1 :: .ref (G.2.1 58) :: rest)) :=
  gx_runi hw (va_runV (C := RX7) (As := [.int x1]) (rest := rest) ⟨hx, hb, hml, hown, (fun _ h => nomatch h : ∀ w ∈ ([] : List Cond), w.before args s = true)⟩ (k_X7_errorsAt hF) ⟨gx_callB (n := 1) rfl rfl hlink (gw_56 hV) (gw_1252 hV) (by decide +kernel) ⟨hfr, hlo⟩, gw_1250 hV, gw_1251 hV⟩ (gx_recv (k := 58) (ci := 9) (T := TX7) hV hw (by decide) rfl rfl) rfl rfl hsz rfl (lv_room hrest) hdg ⟨hc, hs⟩) kk
set_option maxHeartbeats 4000000 in
set_option maxRecDepth 100000 in
theorem k_X7_nextPlace {l : Launch} {G : gx_G} {C : gx_S} {o : Int64} {d : UInt64} {I V : gx_F} {out : (Int32 × gx_F × gx_F)} (hF : f_X7_nextPlace I V = some out) : gx_K l yX7_nextPlace cX7_nextPlace 2 (some .int) { frames := 6, cells := 0, slots := 0, locals := 137 } [.ref (G.2.1 58)] G C (I, V) o d (gx_Qi G out.1 C (out.2.1, out.2.2) o d) 0 0 := by
  refine gx_begin (by decide +kernel) (Nat.le_of_ble_eq_true rfl) ?_
  intro p e s m below meth c hx hb hr hml hown hlocks hV hw ls hl
  have hown : s.vm.findClass RX7 = some m.cls := hown
  have hl : lv_has ls 2 [(0, .ref (G.2.1 58))] := hl
  unfold f_X7_nextPlace at hF
  refine lv_aload_n (pc := 0) hx hb dX7_nextPlace_0 rfl (lv_at hl 0 rfl) ?_
  obtain ⟨uq_1, huq_1, hF⟩ := Option.bind_eq_some_iff.mp hF
  refine cl_X7_growsAt (pc := 1) hx hb hml hown hV hw huq_1 (gw_1153 hV) hl.1 (Nat.le_of_ble_eq_true rfl) (Nat.le_of_ble_eq_true rfl) (Nat.le_of_ble_eq_true rfl) dX7_nextPlace_1 (fun H locs hw => ?_)
  refine lv_istore_n (pc := 4) (lv' := [(1, .int uq_1), (0, .ref (G.2.1 58))]) hx hb dX7_nextPlace_4 rfl hl (by decide) rfl (fun ls hl => ?_)
  refine lv_aload_n (pc := 5) hx hb dX7_nextPlace_5 rfl (lv_at hl 1 rfl) ?_
  refine lv_iload_n (pc := 6) hx hb dX7_nextPlace_6 rfl (lv_at hl 0 rfl) ?_
  refine gx_if_ge (pc := 7) (tgt := 14) hx hb hF dX7_nextPlace_7 (by decide) (fun hF => ?_) (fun hF => ?_)
  · refine lv_iconst (pc := 14) (v := 0) hx hb dX7_nextPlace_14 (by decide) ?_
    obtain ⟨uq_2, huq_2, hF⟩ := Option.bind_eq_some_iff.mp hF
    refine cl_X7_fails (pc := 15) hx hb hml hown hV hw huq_2 (gw_1193 hV) hl.1 (Nat.le_of_ble_eq_true rfl) (Nat.le_of_ble_eq_true rfl) (Nat.le_of_ble_eq_true rfl) dX7_nextPlace_15 (fun H locs hw => ?_)
    refine gx_if_eq (pc := 18) (tgt := 25) hx hb hF dX7_nextPlace_18 (by decide) (fun hF => ?_) (fun hF => ?_)
    · refine lv_iload_n (pc := 25) hx hb dX7_nextPlace_25 rfl (lv_at hl 0 rfl) ?_
      cases hF
      exact gx_iret hx hb hr hlocks hw dX7_nextPlace_26
    refine lv_iconst (pc := 21) (v := 0) hx hb dX7_nextPlace_21 (by decide) ?_
    refine lv_goto (pc := 22) (tgt := 26) hx hb dX7_nextPlace_22 (by decide) ?_
    cases hF
    exact gx_iret hx hb hr hlocks hw dX7_nextPlace_26
  refine lv_iconst (pc := 10) (v := 1) hx hb dX7_nextPlace_10 (by decide) ?_
  refine lv_goto (pc := 11) (tgt := 15) hx hb dX7_nextPlace_11 (by decide) ?_
  obtain ⟨uq_3, huq_3, hF⟩ := Option.bind_eq_some_iff.mp hF
  refine cl_X7_fails (pc := 15) hx hb hml hown hV hw huq_3 (gw_1193 hV) hl.1 (Nat.le_of_ble_eq_true rfl) (Nat.le_of_ble_eq_true rfl) (Nat.le_of_ble_eq_true rfl) dX7_nextPlace_15 (fun H locs hw => ?_)
  refine gx_if_eq (pc := 18) (tgt := 25) hx hb hF dX7_nextPlace_18 (by decide) (fun hF => ?_) (fun hF => ?_)
  · refine lv_iload_n (pc := 25) hx hb dX7_nextPlace_25 rfl (lv_at hl 0 rfl) ?_
    cases hF
    exact gx_iret hx hb hr hlocks hw dX7_nextPlace_26
  refine lv_iconst (pc := 21) (v := 0) hx hb dX7_nextPlace_21 (by decide) ?_
  refine lv_goto (pc := 22) (tgt := 26) hx hb dX7_nextPlace_22 (by decide) ?_
  cases hF
  exact gx_iret hx hb hr hlocks hw dX7_nextPlace_26
set_option maxRecDepth 100000 in
theorem cl_X7_nextPlace {l : Launch} {G : gx_G} {C : gx_S} {o : Int64} {d : UInt64} {I V : gx_F} {p : Program} {e : Env} {R : Room} {s : State} {m : MethodId} {args : Array Value} {below : List Frame} {meth : Method} {c : Code} {H : Heap} {locs : List Loc} {cells slots : Nat} {Q : State → Prop} {cc : ByteArray} {pc nL index : Nat} {ls : Array Slot} {rest : List Value} {own : String} {out : (Int32 × gx_F × gx_F)} (hx : p.tables.exec = Jvm.exec) (hb : c.code = cc) (hml : c.maxLocals = nL) (hown : s.vm.findClass own = some m.cls) (hV : gx_V G s) (hw : gx_at G C (I, V) o d s.heap H locs) (hF : f_X7_nextPlace I V = some out) (hlink : (Cond.methodLink own index yX7_nextPlace).before args s = true) (hsz : ls.size = nL) (hfr : 7 ≤ R.frames) (hlo : 158 ≤ R.locals) (hrest : (rest.map fun v => v.category).sum ≤ 8) (hdg : decode cc pc = .ok (.invokevirtual index, 3))
    (kk : ∀ (H1 : Heap) (locs1 : List Loc), gx_at G C (out.2.1, out.2.2) o d s.heap H1 locs1 → W p l e R s m args below meth c H1 locs1 cells slots Q (F0 m (pc + 3) ls (.int out.1 :: rest))) (hc : cells ≤ R.cells := by exact Nat.zero_le _) (hs : slots ≤ R.slots := by exact Nat.zero_le _) : W p l e R s m args below meth c H locs cells slots Q (F0 m pc ls (.ref (G.2.1 58) :: rest)) :=
  gx_runi hw (va_runV (C := RX7) (As := []) (rest := rest) ⟨hx, hb, hml, hown, (fun _ h => nomatch h : ∀ w ∈ ([] : List Cond), w.before args s = true)⟩ (k_X7_nextPlace hF) ⟨gx_callB (n := 0) rfl rfl hlink (gw_56 hV) (gw_1256 hV) (by decide +kernel) ⟨hfr, hlo⟩, gw_1254 hV, gw_1255 hV⟩ (gx_recv (k := 58) (ci := 9) (T := TX7) hV hw (by decide) rfl rfl) rfl rfl hsz rfl (lv_room hrest) hdg ⟨hc, hs⟩) kk
set_option maxHeartbeats 4000000 in
set_option maxRecDepth 100000 in
theorem k_X7_nextBrick {l : Launch} {G : gx_G} {C : gx_S} {o : Int64} {d : UInt64} {I V : gx_F} {out : (Int32 × gx_F × gx_F)} (hF : f_X7_nextBrick I V = some out) : gx_K l yX7_nextBrick cX7_nextBrick 2 (some .int) { frames := 6, cells := 0, slots := 0, locals := 137 } [.ref (G.2.1 58)] G C (I, V) o d (gx_Qi G out.1 C (out.2.1, out.2.2) o d) 0 0 := by
  refine gx_begin (by decide +kernel) (Nat.le_of_ble_eq_true rfl) ?_
  intro p e s m below meth c hx hb hr hml hown hlocks hV hw ls hl
  have hown : s.vm.findClass RX7 = some m.cls := hown
  have hl : lv_has ls 2 [(0, .ref (G.2.1 58))] := hl
  unfold f_X7_nextBrick at hF
  refine lv_aload_n (pc := 0) hx hb dX7_nextBrick_0 rfl (lv_at hl 0 rfl) ?_
  obtain ⟨uq_1, huq_1, hF⟩ := Option.bind_eq_some_iff.mp hF
  refine cl_X7_growsAt (pc := 1) hx hb hml hown hV hw huq_1 (gw_1153 hV) hl.1 (Nat.le_of_ble_eq_true rfl) (Nat.le_of_ble_eq_true rfl) (Nat.le_of_ble_eq_true rfl) dX7_nextBrick_1 (fun H locs hw => ?_)
  refine lv_istore_n (pc := 4) (lv' := [(1, .int uq_1), (0, .ref (G.2.1 58))]) hx hb dX7_nextBrick_4 rfl hl (by decide) rfl (fun ls hl => ?_)
  refine lv_aload_n (pc := 5) hx hb dX7_nextBrick_5 rfl (lv_at hl 1 rfl) ?_
  refine lv_iload_n (pc := 6) hx hb dX7_nextBrick_6 rfl (lv_at hl 0 rfl) ?_
  refine gx_if_ge (pc := 7) (tgt := 14) hx hb hF dX7_nextBrick_7 (by decide) (fun hF => ?_) (fun hF => ?_)
  · refine lv_iconst (pc := 14) (v := 0) hx hb dX7_nextBrick_14 (by decide) ?_
    obtain ⟨uq_2, huq_2, hF⟩ := Option.bind_eq_some_iff.mp hF
    refine cl_X7_fails (pc := 15) hx hb hml hown hV hw huq_2 (gw_1193 hV) hl.1 (Nat.le_of_ble_eq_true rfl) (Nat.le_of_ble_eq_true rfl) (Nat.le_of_ble_eq_true rfl) dX7_nextBrick_15 (fun H locs hw => ?_)
    refine gx_if_eq (pc := 18) (tgt := 25) hx hb hF dX7_nextBrick_18 (by decide) (fun hF => ?_) (fun hF => ?_)
    · refine lv_aload_n (pc := 25) hx hb dX7_nextBrick_25 rfl (lv_at hl 1 rfl) ?_
      refine lv_iload_n (pc := 26) hx hb dX7_nextBrick_26 rfl (lv_at hl 0 rfl) ?_
      obtain ⟨uq_3, huq_3, hF⟩ := Option.bind_eq_some_iff.mp hF
      refine cl_X7_growsWith (pc := 27) hx hb hml hown hV hw huq_3 (gw_1177 hV) hl.1 (Nat.le_of_ble_eq_true rfl) (Nat.le_of_ble_eq_true rfl) (Nat.le_of_ble_eq_true rfl) dX7_nextBrick_27 (fun H locs hw => ?_)
      cases hF
      exact gx_iret hx hb hr hlocks hw dX7_nextBrick_30
    refine lv_iconst (pc := 21) (v := 0) hx hb dX7_nextBrick_21 (by decide) ?_
    refine lv_goto (pc := 22) (tgt := 30) hx hb dX7_nextBrick_22 (by decide) ?_
    cases hF
    exact gx_iret hx hb hr hlocks hw dX7_nextBrick_30
  refine lv_iconst (pc := 10) (v := 1) hx hb dX7_nextBrick_10 (by decide) ?_
  refine lv_goto (pc := 11) (tgt := 15) hx hb dX7_nextBrick_11 (by decide) ?_
  obtain ⟨uq_4, huq_4, hF⟩ := Option.bind_eq_some_iff.mp hF
  refine cl_X7_fails (pc := 15) hx hb hml hown hV hw huq_4 (gw_1193 hV) hl.1 (Nat.le_of_ble_eq_true rfl) (Nat.le_of_ble_eq_true rfl) (Nat.le_of_ble_eq_true rfl) dX7_nextBrick_15 (fun H locs hw => ?_)
  refine gx_if_eq (pc := 18) (tgt := 25) hx hb hF dX7_nextBrick_18 (by decide) (fun hF => ?_) (fun hF => ?_)
  · refine lv_aload_n (pc := 25) hx hb dX7_nextBrick_25 rfl (lv_at hl 1 rfl) ?_
    refine lv_iload_n (pc := 26) hx hb dX7_nextBrick_26 rfl (lv_at hl 0 rfl) ?_
    obtain ⟨uq_5, huq_5, hF⟩ := Option.bind_eq_some_iff.mp hF
    refine cl_X7_growsWith (pc := 27) hx hb hml hown hV hw huq_5 (gw_1177 hV) hl.1 (Nat.le_of_ble_eq_true rfl) (Nat.le_of_ble_eq_true rfl) (Nat.le_of_ble_eq_true rfl) dX7_nextBrick_27 (fun H locs hw => ?_)
    cases hF
    exact gx_iret hx hb hr hlocks hw dX7_nextBrick_30
  refine lv_iconst (pc := 21) (v := 0) hx hb dX7_nextBrick_21 (by decide) ?_
  refine lv_goto (pc := 22) (tgt := 30) hx hb dX7_nextBrick_22 (by decide) ?_
  cases hF
  exact gx_iret hx hb hr hlocks hw dX7_nextBrick_30
set_option maxRecDepth 100000 in
theorem cl_X7_nextBrick {l : Launch} {G : gx_G} {C : gx_S} {o : Int64} {d : UInt64} {I V : gx_F} {p : Program} {e : Env} {R : Room} {s : State} {m : MethodId} {args : Array Value} {below : List Frame} {meth : Method} {c : Code} {H : Heap} {locs : List Loc} {cells slots : Nat} {Q : State → Prop} {cc : ByteArray} {pc nL index : Nat} {ls : Array Slot} {rest : List Value} {own : String} {out : (Int32 × gx_F × gx_F)} (hx : p.tables.exec = Jvm.exec) (hb : c.code = cc) (hml : c.maxLocals = nL) (hown : s.vm.findClass own = some m.cls) (hV : gx_V G s) (hw : gx_at G C (I, V) o d s.heap H locs) (hF : f_X7_nextBrick I V = some out) (hlink : (Cond.methodLink own index yX7_nextBrick).before args s = true) (hsz : ls.size = nL) (hfr : 7 ≤ R.frames) (hlo : 158 ≤ R.locals) (hrest : (rest.map fun v => v.category).sum ≤ 8) (hdg : decode cc pc = .ok (.invokevirtual index, 3))
    (kk : ∀ (H1 : Heap) (locs1 : List Loc), gx_at G C (out.2.1, out.2.2) o d s.heap H1 locs1 → W p l e R s m args below meth c H1 locs1 cells slots Q (F0 m (pc + 3) ls (.int out.1 :: rest))) (hc : cells ≤ R.cells := by exact Nat.zero_le _) (hs : slots ≤ R.slots := by exact Nat.zero_le _) : W p l e R s m args below meth c H locs cells slots Q (F0 m pc ls (.ref (G.2.1 58) :: rest)) :=
  gx_runi hw (va_runV (C := RX7) (As := []) (rest := rest) ⟨hx, hb, hml, hown, (fun _ h => nomatch h : ∀ w ∈ ([] : List Cond), w.before args s = true)⟩ (k_X7_nextBrick hF) ⟨gx_callB (n := 0) rfl rfl hlink (gw_56 hV) (gw_1260 hV) (by decide +kernel) ⟨hfr, hlo⟩, gw_1258 hV, gw_1259 hV⟩ (gx_recv (k := 58) (ci := 9) (T := TX7) hV hw (by decide) rfl rfl) rfl rfl hsz rfl (lv_room hrest) hdg ⟨hc, hs⟩) kk
set_option maxHeartbeats 4000000 in
set_option maxRecDepth 100000 in
theorem k_X7_choices {l : Launch} {G : gx_G} {C : gx_S} {o : Int64} {d : UInt64} {I V : gx_F} {x1 : Int32} {out : (Int32 × gx_F × gx_F)} (hF : f_X7_choices x1 I V = some out) : gx_K l yX7_choices cX7_choices 2 (some .int) { frames := 5, cells := 0, slots := 0, locals := 116 } [.ref (G.2.1 58), .int x1] G C (I, V) o d (gx_Qi G out.1 C (out.2.1, out.2.2) o d) 0 0 := by
  refine gx_begin (by decide +kernel) (Nat.le_of_ble_eq_true rfl) ?_
  intro p e s m below meth c hx hb hr hml hown hlocks hV hw ls hl
  have hown : s.vm.findClass RX7 = some m.cls := hown
  have hl : lv_has ls 2 [(0, .ref (G.2.1 58)), (1, .int x1)] := hl
  unfold f_X7_choices at hF
  refine lv_aload_n (pc := 0) hx hb dX7_choices_0 rfl (lv_at hl 0 rfl) ?_
  refine lv_iload_n (pc := 1) hx hb dX7_choices_1 rfl (lv_at hl 1 rfl) ?_
  obtain ⟨uq_1, huq_1, hF⟩ := Option.bind_eq_some_iff.mp hF
  refine cl_X7_isPlace (pc := 2) hx hb hml hown hV hw huq_1 (gw_1111 hV) hl.1 (Nat.le_of_ble_eq_true rfl) (Nat.le_of_ble_eq_true rfl) (Nat.le_of_ble_eq_true rfl) dX7_choices_2 (fun H locs hw => ?_)
  refine gx_if_ne (pc := 5) (tgt := 12) hx hb hF dX7_choices_5 (by decide) (fun hF => ?_) (fun hF => ?_)
  · refine lv_aload_n (pc := 12) hx hb dX7_choices_12 rfl (lv_at hl 0 rfl) ?_
    refine lv_iload_n (pc := 13) hx hb dX7_choices_13 rfl (lv_at hl 1 rfl) ?_
    obtain ⟨uq_2, huq_2, hF⟩ := Option.bind_eq_some_iff.mp hF
    refine cl_X7_isFree (pc := 14) hx hb hml hown hV hw huq_2 (gw_1118 hV) hl.1 (Nat.le_of_ble_eq_true rfl) (Nat.le_of_ble_eq_true rfl) (Nat.le_of_ble_eq_true rfl) dX7_choices_14 (fun H locs hw => ?_)
    refine gx_if_eq (pc := 17) (tgt := 24) hx hb hF dX7_choices_17 (by decide) (fun hF => ?_) (fun hF => ?_)
    · refine lv_iconst (pc := 24) (v := 2) hx hb dX7_choices_24 (by decide) ?_
      obtain ⟨uq_3, huq_3, hF⟩ := Option.bind_eq_some_iff.mp hF
      refine cl_X7_fails (pc := 25) hx hb hml hown hV hw huq_3 (gw_1193 hV) hl.1 (Nat.le_of_ble_eq_true rfl) (Nat.le_of_ble_eq_true rfl) (Nat.le_of_ble_eq_true rfl) dX7_choices_25 (fun H locs hw => ?_)
      refine gx_if_eq (pc := 28) (tgt := 35) hx hb hF dX7_choices_28 (by decide) (fun hF => ?_) (fun hF => ?_)
      · refine lv_aload_n (pc := 35) hx hb dX7_choices_35 rfl (lv_at hl 0 rfl) ?_
        refine lv_iload_n (pc := 36) hx hb dX7_choices_36 rfl (lv_at hl 1 rfl) ?_
        obtain ⟨uq_4, huq_4, hF⟩ := Option.bind_eq_some_iff.mp hF
        refine cl_X7_choicesAt (pc := 37) hx hb hml hown hV hw huq_4 (gw_1157 hV) hl.1 (Nat.le_of_ble_eq_true rfl) (Nat.le_of_ble_eq_true rfl) (Nat.le_of_ble_eq_true rfl) dX7_choices_37 (fun H locs hw => ?_)
        cases hF
        exact gx_iret hx hb hr hlocks hw dX7_choices_40
      refine lv_iconst (pc := 31) (v := 0) hx hb dX7_choices_31 (by decide) ?_
      refine lv_goto (pc := 32) (tgt := 40) hx hb dX7_choices_32 (by decide) ?_
      cases hF
      exact gx_iret hx hb hr hlocks hw dX7_choices_40
    refine lv_iconst (pc := 20) (v := 0) hx hb dX7_choices_20 (by decide) ?_
    refine lv_goto (pc := 21) (tgt := 25) hx hb dX7_choices_21 (by decide) ?_
    obtain ⟨uq_5, huq_5, hF⟩ := Option.bind_eq_some_iff.mp hF
    refine cl_X7_fails (pc := 25) hx hb hml hown hV hw huq_5 (gw_1193 hV) hl.1 (Nat.le_of_ble_eq_true rfl) (Nat.le_of_ble_eq_true rfl) (Nat.le_of_ble_eq_true rfl) dX7_choices_25 (fun H locs hw => ?_)
    refine gx_if_eq (pc := 28) (tgt := 35) hx hb hF dX7_choices_28 (by decide) (fun hF => ?_) (fun hF => ?_)
    · refine lv_aload_n (pc := 35) hx hb dX7_choices_35 rfl (lv_at hl 0 rfl) ?_
      refine lv_iload_n (pc := 36) hx hb dX7_choices_36 rfl (lv_at hl 1 rfl) ?_
      obtain ⟨uq_6, huq_6, hF⟩ := Option.bind_eq_some_iff.mp hF
      refine cl_X7_choicesAt (pc := 37) hx hb hml hown hV hw huq_6 (gw_1157 hV) hl.1 (Nat.le_of_ble_eq_true rfl) (Nat.le_of_ble_eq_true rfl) (Nat.le_of_ble_eq_true rfl) dX7_choices_37 (fun H locs hw => ?_)
      cases hF
      exact gx_iret hx hb hr hlocks hw dX7_choices_40
    refine lv_iconst (pc := 31) (v := 0) hx hb dX7_choices_31 (by decide) ?_
    refine lv_goto (pc := 32) (tgt := 40) hx hb dX7_choices_32 (by decide) ?_
    cases hF
    exact gx_iret hx hb hr hlocks hw dX7_choices_40
  refine lv_iconst (pc := 8) (v := 1) hx hb dX7_choices_8 (by decide) ?_
  refine lv_goto (pc := 9) (tgt := 25) hx hb dX7_choices_9 (by decide) ?_
  obtain ⟨uq_7, huq_7, hF⟩ := Option.bind_eq_some_iff.mp hF
  refine cl_X7_fails (pc := 25) hx hb hml hown hV hw huq_7 (gw_1193 hV) hl.1 (Nat.le_of_ble_eq_true rfl) (Nat.le_of_ble_eq_true rfl) (Nat.le_of_ble_eq_true rfl) dX7_choices_25 (fun H locs hw => ?_)
  refine gx_if_eq (pc := 28) (tgt := 35) hx hb hF dX7_choices_28 (by decide) (fun hF => ?_) (fun hF => ?_)
  · refine lv_aload_n (pc := 35) hx hb dX7_choices_35 rfl (lv_at hl 0 rfl) ?_
    refine lv_iload_n (pc := 36) hx hb dX7_choices_36 rfl (lv_at hl 1 rfl) ?_
    obtain ⟨uq_8, huq_8, hF⟩ := Option.bind_eq_some_iff.mp hF
    refine cl_X7_choicesAt (pc := 37) hx hb hml hown hV hw huq_8 (gw_1157 hV) hl.1 (Nat.le_of_ble_eq_true rfl) (Nat.le_of_ble_eq_true rfl) (Nat.le_of_ble_eq_true rfl) dX7_choices_37 (fun H locs hw => ?_)
    cases hF
    exact gx_iret hx hb hr hlocks hw dX7_choices_40
  refine lv_iconst (pc := 31) (v := 0) hx hb dX7_choices_31 (by decide) ?_
  refine lv_goto (pc := 32) (tgt := 40) hx hb dX7_choices_32 (by decide) ?_
  cases hF
  exact gx_iret hx hb hr hlocks hw dX7_choices_40
set_option maxRecDepth 100000 in
theorem cl_X7_choices {l : Launch} {G : gx_G} {C : gx_S} {o : Int64} {d : UInt64} {I V : gx_F} {p : Program} {e : Env} {R : Room} {s : State} {m : MethodId} {args : Array Value} {below : List Frame} {meth : Method} {c : Code} {H : Heap} {locs : List Loc} {cells slots : Nat} {Q : State → Prop} {cc : ByteArray} {pc nL index : Nat} {ls : Array Slot} {rest : List Value} {own : String} {x1 : Int32} {out : (Int32 × gx_F × gx_F)} (hx : p.tables.exec = Jvm.exec) (hb : c.code = cc) (hml : c.maxLocals = nL) (hown : s.vm.findClass own = some m.cls) (hV : gx_V G s) (hw : gx_at G C (I, V) o d s.heap H locs) (hF : f_X7_choices x1 I V = some out) (hlink : (Cond.methodLink own index yX7_choices).before args s = true) (hsz : ls.size = nL) (hfr : 6 ≤ R.frames) (hlo : 137 ≤ R.locals) (hrest : (rest.map fun v => v.category).sum ≤ 8) (hdg : decode cc pc = .ok (.invokevirtual index, 3))
    (kk : ∀ (H1 : Heap) (locs1 : List Loc), gx_at G C (out.2.1, out.2.2) o d s.heap H1 locs1 → W p l e R s m args below meth c H1 locs1 cells slots Q (F0 m (pc + 3) ls (.int out.1 :: rest))) (hc : cells ≤ R.cells := by exact Nat.zero_le _) (hs : slots ≤ R.slots := by exact Nat.zero_le _) : W p l e R s m args below meth c H locs cells slots Q (F0 m pc ls (.int x1 :: .ref (G.2.1 58) :: rest)) :=
  gx_runi hw (va_runV (C := RX7) (As := [.int x1]) (rest := rest) ⟨hx, hb, hml, hown, (fun _ h => nomatch h : ∀ w ∈ ([] : List Cond), w.before args s = true)⟩ (k_X7_choices hF) ⟨gx_callB (n := 1) rfl rfl hlink (gw_56 hV) (gw_1264 hV) (by decide +kernel) ⟨hfr, hlo⟩, gw_1262 hV, gw_1263 hV⟩ (gx_recv (k := 58) (ci := 9) (T := TX7) hV hw (by decide) rfl rfl) rfl rfl hsz rfl (lv_room hrest) hdg ⟨hc, hs⟩) kk
set_option maxHeartbeats 4000000 in
set_option maxRecDepth 100000 in
theorem k_X7_stuck {l : Launch} {G : gx_G} {C : gx_S} {o : Int64} {d : UInt64} {I V : gx_F} {out : (Int32 × gx_F × gx_F)} (hF : f_X7_stuck I V = some out) : gx_K l yX7_stuck cX7_stuck 1 (some .int) { frames := 6, cells := 0, slots := 0, locals := 140 } [.ref (G.2.1 58)] G C (I, V) o d (gx_Qi G out.1 C (out.2.1, out.2.2) o d) 0 0 := by
  refine gx_begin (by decide +kernel) (Nat.le_of_ble_eq_true rfl) ?_
  intro p e s m below meth c hx hb hr hml hown hlocks hV hw ls hl
  have hown : s.vm.findClass RX7 = some m.cls := hown
  have hl : lv_has ls 1 [(0, .ref (G.2.1 58))] := hl
  unfold f_X7_stuck at hF
  refine lv_aload_n (pc := 0) hx hb dX7_stuck_0 rfl (lv_at hl 0 rfl) ?_
  refine lv_iconst (pc := 1) (v := 0) hx hb dX7_stuck_1 (by decide) ?_
  refine gp_X7_9 (pc := 2) hx hb hown hV hw (gw_1027 hV) dX7_stuck_2 (fun H locs hw => ?_)
  refine lv_aload_n (pc := 5) hx hb dX7_stuck_5 rfl (lv_at hl 0 rfl) ?_
  obtain ⟨uq_1, huq_1, hF⟩ := Option.bind_eq_some_iff.mp hF
  refine cl_X7_stuckNow (pc := 6) hx hb hml hown hV hw huq_1 (gw_1169 hV) hl.1 (Nat.le_of_ble_eq_true rfl) (Nat.le_of_ble_eq_true rfl) (Nat.le_of_ble_eq_true rfl) dX7_stuck_6 (fun H locs hw => ?_)
  cases hF
  exact gx_iret hx hb hr hlocks hw dX7_stuck_9
set_option maxRecDepth 100000 in
theorem cl_X7_stuck {l : Launch} {G : gx_G} {C : gx_S} {o : Int64} {d : UInt64} {I V : gx_F} {p : Program} {e : Env} {R : Room} {s : State} {m : MethodId} {args : Array Value} {below : List Frame} {meth : Method} {c : Code} {H : Heap} {locs : List Loc} {cells slots : Nat} {Q : State → Prop} {cc : ByteArray} {pc nL index : Nat} {ls : Array Slot} {rest : List Value} {own : String} {out : (Int32 × gx_F × gx_F)} (hx : p.tables.exec = Jvm.exec) (hb : c.code = cc) (hml : c.maxLocals = nL) (hown : s.vm.findClass own = some m.cls) (hV : gx_V G s) (hw : gx_at G C (I, V) o d s.heap H locs) (hF : f_X7_stuck I V = some out) (hlink : (Cond.methodLink own index yX7_stuck).before args s = true) (hsz : ls.size = nL) (hfr : 7 ≤ R.frames) (hlo : 160 ≤ R.locals) (hrest : (rest.map fun v => v.category).sum ≤ 8) (hdg : decode cc pc = .ok (.invokevirtual index, 3))
    (kk : ∀ (H1 : Heap) (locs1 : List Loc), gx_at G C (out.2.1, out.2.2) o d s.heap H1 locs1 → W p l e R s m args below meth c H1 locs1 cells slots Q (F0 m (pc + 3) ls (.int out.1 :: rest))) (hc : cells ≤ R.cells := by exact Nat.zero_le _) (hs : slots ≤ R.slots := by exact Nat.zero_le _) : W p l e R s m args below meth c H locs cells slots Q (F0 m pc ls (.ref (G.2.1 58) :: rest)) :=
  gx_runi hw (va_runV (C := RX7) (As := []) (rest := rest) ⟨hx, hb, hml, hown, (fun _ h => nomatch h : ∀ w ∈ ([] : List Cond), w.before args s = true)⟩ (k_X7_stuck hF) ⟨gx_callB (n := 0) rfl rfl hlink (gw_56 hV) (gw_1268 hV) (by decide +kernel) ⟨hfr, hlo⟩, gw_1266 hV, gw_1267 hV⟩ (gx_recv (k := 58) (ci := 9) (T := TX7) hV hw (by decide) rfl rfl) rfl rfl hsz rfl (lv_room hrest) hdg ⟨hc, hs⟩) kk
set_option maxHeartbeats 4000000 in
set_option maxRecDepth 100000 in
theorem k_X7_growsTo {l : Launch} {G : gx_G} {C : gx_S} {o : Int64} {d : UInt64} {I V : gx_F} {out : (Int32 × gx_F × gx_F)} (hF : f_X7_growsTo I V = some out) : gx_K l yX7_growsTo cX7_growsTo 2 (some .int) { frames := 7, cells := 0, slots := 0, locals := 160 } [.ref (G.2.1 58)] G C (I, V) o d (gx_Qi G out.1 C (out.2.1, out.2.2) o d) 0 0 := by
  refine gx_begin (by decide +kernel) (Nat.le_of_ble_eq_true rfl) ?_
  intro p e s m below meth c hx hb hr hml hown hlocks hV hw ls hl
  have hown : s.vm.findClass RX7 = some m.cls := hown
  have hl : lv_has ls 2 [(0, .ref (G.2.1 58))] := hl
  unfold f_X7_growsTo at hF
  refine lv_aload_n (pc := 0) hx hb dX7_growsTo_0 rfl (lv_at hl 0 rfl) ?_
  refine lv_iconst (pc := 1) (v := 0) hx hb dX7_growsTo_1 (by decide) ?_
  refine gp_X7_9 (pc := 2) hx hb hown hV hw (gw_1027 hV) dX7_growsTo_2 (fun H locs hw => ?_)
  refine lv_aload_n (pc := 5) hx hb dX7_growsTo_5 rfl (lv_at hl 0 rfl) ?_
  refine gg_X7_0 (pc := 6) hx hb hown hV hw (gw_1018 hV) dX7_growsTo_6 ?_
  refine lv_iconst (pc := 9) (v := 0) hx hb dX7_growsTo_9 (by decide) ?_
  refine lv_aload_n (pc := 10) hx hb dX7_growsTo_10 rfl (lv_at hl 0 rfl) ?_
  refine gg_X7_4 (pc := 11) hx hb hown hV hw (gw_1022 hV) dX7_growsTo_11 ?_
  refine lv_iconst (pc := 14) (v := 0) hx hb dX7_growsTo_14 (by decide) ?_
  obtain ⟨uq_1, huq_1, hF⟩ := Option.bind_eq_some_iff.mp hF
  refine cl_X7_copies (pc := 15) hx hb hml hown hV hw gx_a59 gx_a63 huq_1 (gw_1104 hV) hl.1 (Nat.le_of_ble_eq_true rfl) (Nat.le_of_ble_eq_true rfl) (Nat.le_of_ble_eq_true rfl) dX7_growsTo_15 (fun H locs hw => ?_)
  refine lv_aload_n (pc := 18) hx hb dX7_growsTo_18 rfl (lv_at hl 0 rfl) ?_
  obtain ⟨uq_2, huq_2, hF⟩ := Option.bind_eq_some_iff.mp hF
  refine cl_X7_bricks (pc := 19) hx hb hml hown hV hw huq_2 (gw_1237 hV) hl.1 (Nat.le_of_ble_eq_true rfl) (Nat.le_of_ble_eq_true rfl) (Nat.le_of_ble_eq_true rfl) dX7_growsTo_19 (fun H locs hw => ?_)
  refine lv_aload_n (pc := 22) hx hb dX7_growsTo_22 rfl (lv_at hl 0 rfl) ?_
  refine lv_bipush (pc := 23) (v := 42) hx hb dX7_growsTo_23 (by decide) ?_
  obtain ⟨uq_3, huq_3, hF⟩ := Option.bind_eq_some_iff.mp hF
  refine cl_X7_growsBy (pc := 25) hx hb hml hown hV hw huq_3 (gw_1173 hV) hl.1 (Nat.le_of_ble_eq_true rfl) (Nat.le_of_ble_eq_true rfl) (Nat.le_of_ble_eq_true rfl) dX7_growsTo_25 (fun H locs hw => ?_)
  refine lv_iadd (pc := 28) hx hb dX7_growsTo_28 ?_
  refine lv_istore_n (pc := 29) (lv' := [(1, .int (uq_2 + uq_3.1)), (0, .ref (G.2.1 58))]) hx hb dX7_growsTo_29 rfl hl (by decide) rfl (fun ls hl => ?_)
  refine lv_aload_n (pc := 30) hx hb dX7_growsTo_30 rfl (lv_at hl 1 rfl) ?_
  refine gg_X7_4 (pc := 31) hx hb hown hV hw (gw_1022 hV) dX7_growsTo_31 ?_
  refine lv_iconst (pc := 34) (v := 0) hx hb dX7_growsTo_34 (by decide) ?_
  refine lv_aload_n (pc := 35) hx hb dX7_growsTo_35 rfl (lv_at hl 1 rfl) ?_
  refine gg_X7_0 (pc := 36) hx hb hown hV hw (gw_1018 hV) dX7_growsTo_36 ?_
  refine lv_iconst (pc := 39) (v := 0) hx hb dX7_growsTo_39 (by decide) ?_
  obtain ⟨uq_4, huq_4, hF⟩ := Option.bind_eq_some_iff.mp hF
  refine cl_X7_copies (pc := 40) hx hb hml hown hV hw gx_a63 gx_a59 huq_4 (gw_1104 hV) hl.1 (Nat.le_of_ble_eq_true rfl) (Nat.le_of_ble_eq_true rfl) (Nat.le_of_ble_eq_true rfl) dX7_growsTo_40 (fun H locs hw => ?_)
  refine lv_iload_n (pc := 43) hx hb dX7_growsTo_43 rfl (lv_at hl 0 rfl) ?_
  cases hF
  exact gx_iret hx hb hr hlocks hw dX7_growsTo_44
set_option maxRecDepth 100000 in
theorem cl_X7_growsTo {l : Launch} {G : gx_G} {C : gx_S} {o : Int64} {d : UInt64} {I V : gx_F} {p : Program} {e : Env} {R : Room} {s : State} {m : MethodId} {args : Array Value} {below : List Frame} {meth : Method} {c : Code} {H : Heap} {locs : List Loc} {cells slots : Nat} {Q : State → Prop} {cc : ByteArray} {pc nL index : Nat} {ls : Array Slot} {rest : List Value} {own : String} {out : (Int32 × gx_F × gx_F)} (hx : p.tables.exec = Jvm.exec) (hb : c.code = cc) (hml : c.maxLocals = nL) (hown : s.vm.findClass own = some m.cls) (hV : gx_V G s) (hw : gx_at G C (I, V) o d s.heap H locs) (hF : f_X7_growsTo I V = some out) (hlink : (Cond.methodLink own index yX7_growsTo).before args s = true) (hsz : ls.size = nL) (hfr : 8 ≤ R.frames) (hlo : 181 ≤ R.locals) (hrest : (rest.map fun v => v.category).sum ≤ 8) (hdg : decode cc pc = .ok (.invokevirtual index, 3))
    (kk : ∀ (H1 : Heap) (locs1 : List Loc), gx_at G C (out.2.1, out.2.2) o d s.heap H1 locs1 → W p l e R s m args below meth c H1 locs1 cells slots Q (F0 m (pc + 3) ls (.int out.1 :: rest))) (hc : cells ≤ R.cells := by exact Nat.zero_le _) (hs : slots ≤ R.slots := by exact Nat.zero_le _) : W p l e R s m args below meth c H locs cells slots Q (F0 m pc ls (.ref (G.2.1 58) :: rest)) :=
  gx_runi hw (va_runV (C := RX7) (As := []) (rest := rest) ⟨hx, hb, hml, hown, (fun _ h => nomatch h : ∀ w ∈ ([] : List Cond), w.before args s = true)⟩ (k_X7_growsTo hF) ⟨gx_callB (n := 0) rfl rfl hlink (gw_56 hV) (gw_1272 hV) (by decide +kernel) ⟨hfr, hlo⟩, gw_1270 hV, gw_1271 hV⟩ (gx_recv (k := 58) (ci := 9) (T := TX7) hV hw (by decide) rfl rfl) rfl rfl hsz rfl (lv_room hrest) hdg ⟨hc, hs⟩) kk
set_option maxHeartbeats 4000000 in
set_option maxRecDepth 100000 in
theorem k_X7_inRow {l : Launch} {G : gx_G} {C : gx_S} {o : Int64} {d : UInt64} {I V : gx_F} {x1 : Int32} {x2 : Int32} {out : (Int32 × gx_F × gx_F)} (hF : f_X7_inRow x1 x2 I V = some out) : gx_K l yX7_inRow cX7_inRow 5 (some .int) { frames := 1, cells := 0, slots := 0, locals := 22 } [.ref (G.2.1 58), .int x1, .int x2] G C (I, V) o d (gx_Qi G out.1 C (out.2.1, out.2.2) o d) 0 0 := by
  refine gx_begin (by decide +kernel) (Nat.le_of_ble_eq_true rfl) ?_
  intro p e s m below meth c hx hb hr hml hown hlocks hV hw ls hl
  have hown : s.vm.findClass RX7 = some m.cls := hown
  have hl : lv_has ls 5 [(0, .ref (G.2.1 58)), (1, .int x1), (2, .int x2)] := hl
  unfold f_X7_inRow at hF
  refine lv_aload_n (pc := 0) hx hb dX7_inRow_0 rfl (lv_at hl 0 rfl) ?_
  refine lv_iload_n (pc := 1) hx hb dX7_inRow_1 rfl (lv_at hl 1 rfl) ?_
  refine lv_iconst (pc := 2) (v := 0) hx hb dX7_inRow_2 (by decide) ?_
  refine lv_iload_n (pc := 3) hx hb dX7_inRow_3 rfl (lv_at hl 2 rfl) ?_
  refine gx_if_eq (pc := 4) (tgt := 12) hx hb hF dX7_inRow_4 (by decide) (fun hF => ?_) (fun hF => ?_)
  · refine lv_iconst (pc := 12) (v := 5) hx hb dX7_inRow_12 (by decide) ?_
    obtain ⟨uq_1, huq_1, hF⟩ := Option.bind_eq_some_iff.mp hF
    refine cl_X7_in (pc := 13) hx hb hml hown hV hw huq_1 (gw_1093 hV) hl.1 (Nat.le_of_ble_eq_true rfl) (Nat.le_of_ble_eq_true rfl) (Nat.le_of_ble_eq_true rfl) dX7_inRow_13 (fun H locs hw => ?_)
    refine gx_if_eq (pc := 16) (tgt := 23) hx hb hF dX7_inRow_16 (by decide) (fun hF => ?_) (fun hF => ?_)
    · refine lv_iconst (pc := 23) (v := 1) hx hb dX7_inRow_23 (by decide) ?_
      obtain ⟨uq_2, huq_2, hF⟩ := Option.bind_eq_some_iff.mp hF
      refine cl_X7_fails (pc := 24) hx hb hml hown hV hw huq_2 (gw_1193 hV) hl.1 (Nat.le_of_ble_eq_true rfl) (Nat.le_of_ble_eq_true rfl) (Nat.le_of_ble_eq_true rfl) dX7_inRow_24 (fun H locs hw => ?_)
      refine gx_if_eq (pc := 27) (tgt := 32) hx hb hF dX7_inRow_27 (by decide) (fun hF => ?_) (fun hF => ?_)
      · refine lv_iconst (pc := 32) (v := 0) hx hb dX7_inRow_32 (by decide) ?_
        refine lv_istore_n (pc := 33) (lv' := [(3, .int 0), (0, .ref (G.2.1 58)), (1, .int x1), (2, .int x2)]) hx hb dX7_inRow_33 rfl hl (by decide) rfl (fun ls hl => ?_)
        refine lv_iconst (pc := 34) (v := 0) hx hb dX7_inRow_34 (by decide) ?_
        refine lv_istore (pc := 35) (lv' := [(4, .int 0), (3, .int 0), (0, .ref (G.2.1 58)), (1, .int x1), (2, .int x2)]) hx hb dX7_inRow_35 hl (by decide) rfl (fun ls hl => ?_)
        have L1 : ∀ (n : Nat) (K1 : Int32 → Int32 → Option (Int32 × gx_F × gx_F)) (uv_3 : Int32) (uv_4 : Int32) (H : Heap) (locs : List Loc) (ls : Array Slot), lv_has ls 5 [(4, .int uv_4), (3, .int uv_3), (0, .ref (G.2.1 58)), (1, .int x1), (2, .int x2)] → gx_at G C (uq_2.2.1, uq_2.2.2) o d s.heap H locs → f_X7_inRow_L1 x1 x2 uq_2 K1 n uv_3 uv_4 = some out → (∀ (uv_3 : Int32) (uv_4 : Int32) (H : Heap) (locs : List Loc) (ls : Array Slot), lv_has ls 5 [(4, .int uv_4), (3, .int uv_3), (0, .ref (G.2.1 58)), (1, .int x1), (2, .int x2)] → gx_at G C (uq_2.2.1, uq_2.2.2) o d s.heap H locs → K1 uv_3 uv_4 = some out → W p l e ({ frames := 1, cells := 0, slots := 0, locals := 22 } : Room) s m ([.ref (G.2.1 58), .int x1, .int x2] : List Value).toArray below meth c H locs 0 0 (MQ below (gx_Qi G out.1 C (out.2.1, out.2.2) o d) ([.ref (G.2.1 58), .int x1, .int x2] : List Value).toArray s 0 0 (gx_A G)) (F0 m 88 ls [])) → W p l e ({ frames := 1, cells := 0, slots := 0, locals := 22 } : Room) s m ([.ref (G.2.1 58), .int x1, .int x2] : List Value).toArray below meth c H locs 0 0 (MQ below (gx_Qi G out.1 C (out.2.1, out.2.2) o d) ([.ref (G.2.1 58), .int x1, .int x2] : List Value).toArray s 0 0 (gx_A G)) (F0 m 37 ls []) := by
          intro n
          induction n with
          | zero =>
            intro K1 uv_3 uv_4 H locs ls hl hw hF hK
            rw [f_X7_inRow_L1] at hF
            cases hF
          | succ n ih1 =>
            intro K1 uv_3 uv_4 H locs ls hl hw hF hK1
            rw [f_X7_inRow_L1] at hF
            refine lv_iload (pc := 37) hx hb dX7_inRow_37 (lv_at hl 0 rfl) ?_
            refine lv_bipush (pc := 39) (v := 42) hx hb dX7_inRow_39 (by decide) ?_
            refine gx_icmp_ge (pc := 41) (tgt := 88) hx hb hF dX7_inRow_41 (by decide) (fun hF => ?_) (fun hF => ?_)
            · exact hK1 _ _ _ _ _ (lv_sub hl [0, 1, 2, 3, 4] rfl) hw hF
            refine lv_iload_n (pc := 44) hx hb dX7_inRow_44 rfl (lv_at hl 1 rfl) ?_
            refine lv_aload_n (pc := 45) hx hb dX7_inRow_45 rfl (lv_at hl 2 rfl) ?_
            refine lv_iload (pc := 46) hx hb dX7_inRow_46 (lv_at hl 0 rfl) ?_
            obtain ⟨uq_5, huq_5, hF⟩ := Option.bind_eq_some_iff.mp hF
            refine cl_X7_isFree (pc := 48) hx hb hml hown hV hw huq_5 (gw_1118 hV) hl.1 (Nat.le_of_ble_eq_true rfl) (Nat.le_of_ble_eq_true rfl) (Nat.le_of_ble_eq_true rfl) dX7_inRow_48 (fun H locs hw => ?_)
            refine gx_if_ne (pc := 51) (tgt := 79) hx hb hF dX7_inRow_51 (by decide) (fun hF => ?_) (fun hF => ?_)
            · refine lv_iconst (pc := 79) (v := 0) hx hb dX7_inRow_79 (by decide) ?_
              refine lv_iadd (pc := 80) hx hb dX7_inRow_80 ?_
              refine lv_istore_n (pc := 81) (lv' := [(3, .int (uv_3 + 0)), (4, .int uv_4), (0, .ref (G.2.1 58)), (1, .int x1), (2, .int x2)]) hx hb dX7_inRow_81 rfl hl (by decide) rfl (fun ls hl => ?_)
              refine lv_iinc (pc := 82) (v := (uv_4 + 1)) (lv' := [(4, .int (uv_4 + 1)), (3, .int (uv_3 + 0)), (0, .ref (G.2.1 58)), (1, .int x1), (2, .int x2)]) hx hb dX7_inRow_82 hl (k := 1) rfl rfl (by decide) rfl (fun ls hl => ?_)
              refine lv_goto (pc := 85) (tgt := 37) hx hb dX7_inRow_85 (by decide) ?_
              exact ih1 _ _ _ _ _ _ (lv_sub hl [0, 1, 2, 3, 4] rfl) hw hF hK1
            refine lv_iload_n (pc := 54) hx hb dX7_inRow_54 rfl (lv_at hl 4 rfl) ?_
            refine gx_if_eq (pc := 55) (tgt := 66) hx hb hF dX7_inRow_55 (by decide) (fun hF => ?_) (fun hF => ?_)
            · refine lv_iload (pc := 66) hx hb dX7_inRow_66 (lv_at hl 0 rfl) ?_
              refine lv_bipush (pc := 68) (v := 7) hx hb dX7_inRow_68 (by decide) ?_
              refine lv_idiv (pc := 70) hx hb dX7_inRow_70 (by decide) ?_
              refine lv_iload_n (pc := 71) hx hb dX7_inRow_71 rfl (lv_at hl 3 rfl) ?_
              refine gx_icmp_ne (pc := 72) (tgt := 79) hx hb hF dX7_inRow_72 (by decide) (fun hF => ?_) (fun hF => ?_)
              · refine lv_iconst (pc := 79) (v := 0) hx hb dX7_inRow_79 (by decide) ?_
                refine lv_iadd (pc := 80) hx hb dX7_inRow_80 ?_
                refine lv_istore_n (pc := 81) (lv' := [(3, .int (uv_3 + 0)), (4, .int uv_4), (0, .ref (G.2.1 58)), (1, .int x1), (2, .int x2)]) hx hb dX7_inRow_81 rfl hl (by decide) rfl (fun ls hl => ?_)
                refine lv_iinc (pc := 82) (v := (uv_4 + 1)) (lv' := [(4, .int (uv_4 + 1)), (3, .int (uv_3 + 0)), (0, .ref (G.2.1 58)), (1, .int x1), (2, .int x2)]) hx hb dX7_inRow_82 hl (k := 1) rfl rfl (by decide) rfl (fun ls hl => ?_)
                refine lv_goto (pc := 85) (tgt := 37) hx hb dX7_inRow_85 (by decide) ?_
                exact ih1 _ _ _ _ _ _ (lv_sub hl [0, 1, 2, 3, 4] rfl) hw hF hK1
              refine lv_iconst (pc := 75) (v := 1) hx hb dX7_inRow_75 (by decide) ?_
              refine lv_goto (pc := 76) (tgt := 80) hx hb dX7_inRow_76 (by decide) ?_
              refine lv_iadd (pc := 80) hx hb dX7_inRow_80 ?_
              refine lv_istore_n (pc := 81) (lv' := [(3, .int (uv_3 + 1)), (4, .int uv_4), (0, .ref (G.2.1 58)), (1, .int x1), (2, .int x2)]) hx hb dX7_inRow_81 rfl hl (by decide) rfl (fun ls hl => ?_)
              refine lv_iinc (pc := 82) (v := (uv_4 + 1)) (lv' := [(4, .int (uv_4 + 1)), (3, .int (uv_3 + 1)), (0, .ref (G.2.1 58)), (1, .int x1), (2, .int x2)]) hx hb dX7_inRow_82 hl (k := 1) rfl rfl (by decide) rfl (fun ls hl => ?_)
              refine lv_goto (pc := 85) (tgt := 37) hx hb dX7_inRow_85 (by decide) ?_
              exact ih1 _ _ _ _ _ _ (lv_sub hl [0, 1, 2, 3, 4] rfl) hw hF hK1
            refine lv_iload (pc := 58) hx hb dX7_inRow_58 (lv_at hl 0 rfl) ?_
            refine lv_bipush (pc := 60) (v := 7) hx hb dX7_inRow_60 (by decide) ?_
            refine lv_irem (pc := 62) hx hb dX7_inRow_62 (by decide) ?_
            refine lv_goto (pc := 63) (tgt := 71) hx hb dX7_inRow_63 (by decide) ?_
            refine lv_iload_n (pc := 71) hx hb dX7_inRow_71 rfl (lv_at hl 3 rfl) ?_
            refine gx_icmp_ne (pc := 72) (tgt := 79) hx hb hF dX7_inRow_72 (by decide) (fun hF => ?_) (fun hF => ?_)
            · refine lv_iconst (pc := 79) (v := 0) hx hb dX7_inRow_79 (by decide) ?_
              refine lv_iadd (pc := 80) hx hb dX7_inRow_80 ?_
              refine lv_istore_n (pc := 81) (lv' := [(3, .int (uv_3 + 0)), (4, .int uv_4), (0, .ref (G.2.1 58)), (1, .int x1), (2, .int x2)]) hx hb dX7_inRow_81 rfl hl (by decide) rfl (fun ls hl => ?_)
              refine lv_iinc (pc := 82) (v := (uv_4 + 1)) (lv' := [(4, .int (uv_4 + 1)), (3, .int (uv_3 + 0)), (0, .ref (G.2.1 58)), (1, .int x1), (2, .int x2)]) hx hb dX7_inRow_82 hl (k := 1) rfl rfl (by decide) rfl (fun ls hl => ?_)
              refine lv_goto (pc := 85) (tgt := 37) hx hb dX7_inRow_85 (by decide) ?_
              exact ih1 _ _ _ _ _ _ (lv_sub hl [0, 1, 2, 3, 4] rfl) hw hF hK1
            refine lv_iconst (pc := 75) (v := 1) hx hb dX7_inRow_75 (by decide) ?_
            refine lv_goto (pc := 76) (tgt := 80) hx hb dX7_inRow_76 (by decide) ?_
            refine lv_iadd (pc := 80) hx hb dX7_inRow_80 ?_
            refine lv_istore_n (pc := 81) (lv' := [(3, .int (uv_3 + 1)), (4, .int uv_4), (0, .ref (G.2.1 58)), (1, .int x1), (2, .int x2)]) hx hb dX7_inRow_81 rfl hl (by decide) rfl (fun ls hl => ?_)
            refine lv_iinc (pc := 82) (v := (uv_4 + 1)) (lv' := [(4, .int (uv_4 + 1)), (3, .int (uv_3 + 1)), (0, .ref (G.2.1 58)), (1, .int x1), (2, .int x2)]) hx hb dX7_inRow_82 hl (k := 1) rfl rfl (by decide) rfl (fun ls hl => ?_)
            refine lv_goto (pc := 85) (tgt := 37) hx hb dX7_inRow_85 (by decide) ?_
            exact ih1 _ _ _ _ _ _ (lv_sub hl [0, 1, 2, 3, 4] rfl) hw hF hK1
        refine L1 1000 _ _ _ _ _ _ hl hw hF (fun uv_6 uv_7 H locs ls hl hw hF => ?_)
        refine lv_iload_n (pc := 88) hx hb dX7_inRow_88 rfl (lv_at hl 1 rfl) ?_
        cases hF
        exact gx_iret hx hb hr hlocks hw dX7_inRow_89
      refine lv_iconst (pc := 30) (v := 0) hx hb dX7_inRow_30 (by decide) ?_
      cases hF
      exact gx_iret hx hb hr hlocks hw dX7_inRow_31
    refine lv_iconst (pc := 19) (v := 0) hx hb dX7_inRow_19 (by decide) ?_
    refine lv_goto (pc := 20) (tgt := 24) hx hb dX7_inRow_20 (by decide) ?_
    obtain ⟨uq_8, huq_8, hF⟩ := Option.bind_eq_some_iff.mp hF
    refine cl_X7_fails (pc := 24) hx hb hml hown hV hw huq_8 (gw_1193 hV) hl.1 (Nat.le_of_ble_eq_true rfl) (Nat.le_of_ble_eq_true rfl) (Nat.le_of_ble_eq_true rfl) dX7_inRow_24 (fun H locs hw => ?_)
    refine gx_if_eq (pc := 27) (tgt := 32) hx hb hF dX7_inRow_27 (by decide) (fun hF => ?_) (fun hF => ?_)
    · refine lv_iconst (pc := 32) (v := 0) hx hb dX7_inRow_32 (by decide) ?_
      refine lv_istore_n (pc := 33) (lv' := [(3, .int 0), (0, .ref (G.2.1 58)), (1, .int x1), (2, .int x2)]) hx hb dX7_inRow_33 rfl hl (by decide) rfl (fun ls hl => ?_)
      refine lv_iconst (pc := 34) (v := 0) hx hb dX7_inRow_34 (by decide) ?_
      refine lv_istore (pc := 35) (lv' := [(4, .int 0), (3, .int 0), (0, .ref (G.2.1 58)), (1, .int x1), (2, .int x2)]) hx hb dX7_inRow_35 hl (by decide) rfl (fun ls hl => ?_)
      have L2 : ∀ (n : Nat) (K2 : Int32 → Int32 → Option (Int32 × gx_F × gx_F)) (uv_9 : Int32) (uv_10 : Int32) (H : Heap) (locs : List Loc) (ls : Array Slot), lv_has ls 5 [(4, .int uv_10), (3, .int uv_9), (0, .ref (G.2.1 58)), (1, .int x1), (2, .int x2)] → gx_at G C (uq_8.2.1, uq_8.2.2) o d s.heap H locs → f_X7_inRow_L2 x1 x2 uq_8 K2 n uv_9 uv_10 = some out → (∀ (uv_9 : Int32) (uv_10 : Int32) (H : Heap) (locs : List Loc) (ls : Array Slot), lv_has ls 5 [(4, .int uv_10), (3, .int uv_9), (0, .ref (G.2.1 58)), (1, .int x1), (2, .int x2)] → gx_at G C (uq_8.2.1, uq_8.2.2) o d s.heap H locs → K2 uv_9 uv_10 = some out → W p l e ({ frames := 1, cells := 0, slots := 0, locals := 22 } : Room) s m ([.ref (G.2.1 58), .int x1, .int x2] : List Value).toArray below meth c H locs 0 0 (MQ below (gx_Qi G out.1 C (out.2.1, out.2.2) o d) ([.ref (G.2.1 58), .int x1, .int x2] : List Value).toArray s 0 0 (gx_A G)) (F0 m 88 ls [])) → W p l e ({ frames := 1, cells := 0, slots := 0, locals := 22 } : Room) s m ([.ref (G.2.1 58), .int x1, .int x2] : List Value).toArray below meth c H locs 0 0 (MQ below (gx_Qi G out.1 C (out.2.1, out.2.2) o d) ([.ref (G.2.1 58), .int x1, .int x2] : List Value).toArray s 0 0 (gx_A G)) (F0 m 37 ls []) := by
        intro n
        induction n with
        | zero =>
          intro K2 uv_9 uv_10 H locs ls hl hw hF hK
          rw [f_X7_inRow_L2] at hF
          cases hF
        | succ n ih2 =>
          intro K2 uv_9 uv_10 H locs ls hl hw hF hK2
          rw [f_X7_inRow_L2] at hF
          refine lv_iload (pc := 37) hx hb dX7_inRow_37 (lv_at hl 0 rfl) ?_
          refine lv_bipush (pc := 39) (v := 42) hx hb dX7_inRow_39 (by decide) ?_
          refine gx_icmp_ge (pc := 41) (tgt := 88) hx hb hF dX7_inRow_41 (by decide) (fun hF => ?_) (fun hF => ?_)
          · exact hK2 _ _ _ _ _ (lv_sub hl [0, 1, 2, 3, 4] rfl) hw hF
          refine lv_iload_n (pc := 44) hx hb dX7_inRow_44 rfl (lv_at hl 1 rfl) ?_
          refine lv_aload_n (pc := 45) hx hb dX7_inRow_45 rfl (lv_at hl 2 rfl) ?_
          refine lv_iload (pc := 46) hx hb dX7_inRow_46 (lv_at hl 0 rfl) ?_
          obtain ⟨uq_11, huq_11, hF⟩ := Option.bind_eq_some_iff.mp hF
          refine cl_X7_isFree (pc := 48) hx hb hml hown hV hw huq_11 (gw_1118 hV) hl.1 (Nat.le_of_ble_eq_true rfl) (Nat.le_of_ble_eq_true rfl) (Nat.le_of_ble_eq_true rfl) dX7_inRow_48 (fun H locs hw => ?_)
          refine gx_if_ne (pc := 51) (tgt := 79) hx hb hF dX7_inRow_51 (by decide) (fun hF => ?_) (fun hF => ?_)
          · refine lv_iconst (pc := 79) (v := 0) hx hb dX7_inRow_79 (by decide) ?_
            refine lv_iadd (pc := 80) hx hb dX7_inRow_80 ?_
            refine lv_istore_n (pc := 81) (lv' := [(3, .int (uv_9 + 0)), (4, .int uv_10), (0, .ref (G.2.1 58)), (1, .int x1), (2, .int x2)]) hx hb dX7_inRow_81 rfl hl (by decide) rfl (fun ls hl => ?_)
            refine lv_iinc (pc := 82) (v := (uv_10 + 1)) (lv' := [(4, .int (uv_10 + 1)), (3, .int (uv_9 + 0)), (0, .ref (G.2.1 58)), (1, .int x1), (2, .int x2)]) hx hb dX7_inRow_82 hl (k := 1) rfl rfl (by decide) rfl (fun ls hl => ?_)
            refine lv_goto (pc := 85) (tgt := 37) hx hb dX7_inRow_85 (by decide) ?_
            exact ih2 _ _ _ _ _ _ (lv_sub hl [0, 1, 2, 3, 4] rfl) hw hF hK2
          refine lv_iload_n (pc := 54) hx hb dX7_inRow_54 rfl (lv_at hl 4 rfl) ?_
          refine gx_if_eq (pc := 55) (tgt := 66) hx hb hF dX7_inRow_55 (by decide) (fun hF => ?_) (fun hF => ?_)
          · refine lv_iload (pc := 66) hx hb dX7_inRow_66 (lv_at hl 0 rfl) ?_
            refine lv_bipush (pc := 68) (v := 7) hx hb dX7_inRow_68 (by decide) ?_
            refine lv_idiv (pc := 70) hx hb dX7_inRow_70 (by decide) ?_
            refine lv_iload_n (pc := 71) hx hb dX7_inRow_71 rfl (lv_at hl 3 rfl) ?_
            refine gx_icmp_ne (pc := 72) (tgt := 79) hx hb hF dX7_inRow_72 (by decide) (fun hF => ?_) (fun hF => ?_)
            · refine lv_iconst (pc := 79) (v := 0) hx hb dX7_inRow_79 (by decide) ?_
              refine lv_iadd (pc := 80) hx hb dX7_inRow_80 ?_
              refine lv_istore_n (pc := 81) (lv' := [(3, .int (uv_9 + 0)), (4, .int uv_10), (0, .ref (G.2.1 58)), (1, .int x1), (2, .int x2)]) hx hb dX7_inRow_81 rfl hl (by decide) rfl (fun ls hl => ?_)
              refine lv_iinc (pc := 82) (v := (uv_10 + 1)) (lv' := [(4, .int (uv_10 + 1)), (3, .int (uv_9 + 0)), (0, .ref (G.2.1 58)), (1, .int x1), (2, .int x2)]) hx hb dX7_inRow_82 hl (k := 1) rfl rfl (by decide) rfl (fun ls hl => ?_)
              refine lv_goto (pc := 85) (tgt := 37) hx hb dX7_inRow_85 (by decide) ?_
              exact ih2 _ _ _ _ _ _ (lv_sub hl [0, 1, 2, 3, 4] rfl) hw hF hK2
            refine lv_iconst (pc := 75) (v := 1) hx hb dX7_inRow_75 (by decide) ?_
            refine lv_goto (pc := 76) (tgt := 80) hx hb dX7_inRow_76 (by decide) ?_
            refine lv_iadd (pc := 80) hx hb dX7_inRow_80 ?_
            refine lv_istore_n (pc := 81) (lv' := [(3, .int (uv_9 + 1)), (4, .int uv_10), (0, .ref (G.2.1 58)), (1, .int x1), (2, .int x2)]) hx hb dX7_inRow_81 rfl hl (by decide) rfl (fun ls hl => ?_)
            refine lv_iinc (pc := 82) (v := (uv_10 + 1)) (lv' := [(4, .int (uv_10 + 1)), (3, .int (uv_9 + 1)), (0, .ref (G.2.1 58)), (1, .int x1), (2, .int x2)]) hx hb dX7_inRow_82 hl (k := 1) rfl rfl (by decide) rfl (fun ls hl => ?_)
            refine lv_goto (pc := 85) (tgt := 37) hx hb dX7_inRow_85 (by decide) ?_
            exact ih2 _ _ _ _ _ _ (lv_sub hl [0, 1, 2, 3, 4] rfl) hw hF hK2
          refine lv_iload (pc := 58) hx hb dX7_inRow_58 (lv_at hl 0 rfl) ?_
          refine lv_bipush (pc := 60) (v := 7) hx hb dX7_inRow_60 (by decide) ?_
          refine lv_irem (pc := 62) hx hb dX7_inRow_62 (by decide) ?_
          refine lv_goto (pc := 63) (tgt := 71) hx hb dX7_inRow_63 (by decide) ?_
          refine lv_iload_n (pc := 71) hx hb dX7_inRow_71 rfl (lv_at hl 3 rfl) ?_
          refine gx_icmp_ne (pc := 72) (tgt := 79) hx hb hF dX7_inRow_72 (by decide) (fun hF => ?_) (fun hF => ?_)
          · refine lv_iconst (pc := 79) (v := 0) hx hb dX7_inRow_79 (by decide) ?_
            refine lv_iadd (pc := 80) hx hb dX7_inRow_80 ?_
            refine lv_istore_n (pc := 81) (lv' := [(3, .int (uv_9 + 0)), (4, .int uv_10), (0, .ref (G.2.1 58)), (1, .int x1), (2, .int x2)]) hx hb dX7_inRow_81 rfl hl (by decide) rfl (fun ls hl => ?_)
            refine lv_iinc (pc := 82) (v := (uv_10 + 1)) (lv' := [(4, .int (uv_10 + 1)), (3, .int (uv_9 + 0)), (0, .ref (G.2.1 58)), (1, .int x1), (2, .int x2)]) hx hb dX7_inRow_82 hl (k := 1) rfl rfl (by decide) rfl (fun ls hl => ?_)
            refine lv_goto (pc := 85) (tgt := 37) hx hb dX7_inRow_85 (by decide) ?_
            exact ih2 _ _ _ _ _ _ (lv_sub hl [0, 1, 2, 3, 4] rfl) hw hF hK2
          refine lv_iconst (pc := 75) (v := 1) hx hb dX7_inRow_75 (by decide) ?_
          refine lv_goto (pc := 76) (tgt := 80) hx hb dX7_inRow_76 (by decide) ?_
          refine lv_iadd (pc := 80) hx hb dX7_inRow_80 ?_
          refine lv_istore_n (pc := 81) (lv' := [(3, .int (uv_9 + 1)), (4, .int uv_10), (0, .ref (G.2.1 58)), (1, .int x1), (2, .int x2)]) hx hb dX7_inRow_81 rfl hl (by decide) rfl (fun ls hl => ?_)
          refine lv_iinc (pc := 82) (v := (uv_10 + 1)) (lv' := [(4, .int (uv_10 + 1)), (3, .int (uv_9 + 1)), (0, .ref (G.2.1 58)), (1, .int x1), (2, .int x2)]) hx hb dX7_inRow_82 hl (k := 1) rfl rfl (by decide) rfl (fun ls hl => ?_)
          refine lv_goto (pc := 85) (tgt := 37) hx hb dX7_inRow_85 (by decide) ?_
          exact ih2 _ _ _ _ _ _ (lv_sub hl [0, 1, 2, 3, 4] rfl) hw hF hK2
      refine L2 1000 _ _ _ _ _ _ hl hw hF (fun uv_12 uv_13 H locs ls hl hw hF => ?_)
      refine lv_iload_n (pc := 88) hx hb dX7_inRow_88 rfl (lv_at hl 1 rfl) ?_
      cases hF
      exact gx_iret hx hb hr hlocks hw dX7_inRow_89
    refine lv_iconst (pc := 30) (v := 0) hx hb dX7_inRow_30 (by decide) ?_
    cases hF
    exact gx_iret hx hb hr hlocks hw dX7_inRow_31
  refine lv_bipush (pc := 7) (v := 6) hx hb dX7_inRow_7 (by decide) ?_
  refine lv_goto (pc := 9) (tgt := 13) hx hb dX7_inRow_9 (by decide) ?_
  obtain ⟨uq_14, huq_14, hF⟩ := Option.bind_eq_some_iff.mp hF
  refine cl_X7_in (pc := 13) hx hb hml hown hV hw huq_14 (gw_1093 hV) hl.1 (Nat.le_of_ble_eq_true rfl) (Nat.le_of_ble_eq_true rfl) (Nat.le_of_ble_eq_true rfl) dX7_inRow_13 (fun H locs hw => ?_)
  refine gx_if_eq (pc := 16) (tgt := 23) hx hb hF dX7_inRow_16 (by decide) (fun hF => ?_) (fun hF => ?_)
  · refine lv_iconst (pc := 23) (v := 1) hx hb dX7_inRow_23 (by decide) ?_
    obtain ⟨uq_15, huq_15, hF⟩ := Option.bind_eq_some_iff.mp hF
    refine cl_X7_fails (pc := 24) hx hb hml hown hV hw huq_15 (gw_1193 hV) hl.1 (Nat.le_of_ble_eq_true rfl) (Nat.le_of_ble_eq_true rfl) (Nat.le_of_ble_eq_true rfl) dX7_inRow_24 (fun H locs hw => ?_)
    refine gx_if_eq (pc := 27) (tgt := 32) hx hb hF dX7_inRow_27 (by decide) (fun hF => ?_) (fun hF => ?_)
    · refine lv_iconst (pc := 32) (v := 0) hx hb dX7_inRow_32 (by decide) ?_
      refine lv_istore_n (pc := 33) (lv' := [(3, .int 0), (0, .ref (G.2.1 58)), (1, .int x1), (2, .int x2)]) hx hb dX7_inRow_33 rfl hl (by decide) rfl (fun ls hl => ?_)
      refine lv_iconst (pc := 34) (v := 0) hx hb dX7_inRow_34 (by decide) ?_
      refine lv_istore (pc := 35) (lv' := [(4, .int 0), (3, .int 0), (0, .ref (G.2.1 58)), (1, .int x1), (2, .int x2)]) hx hb dX7_inRow_35 hl (by decide) rfl (fun ls hl => ?_)
      have L3 : ∀ (n : Nat) (K3 : Int32 → Int32 → Option (Int32 × gx_F × gx_F)) (uv_16 : Int32) (uv_17 : Int32) (H : Heap) (locs : List Loc) (ls : Array Slot), lv_has ls 5 [(4, .int uv_17), (3, .int uv_16), (0, .ref (G.2.1 58)), (1, .int x1), (2, .int x2)] → gx_at G C (uq_15.2.1, uq_15.2.2) o d s.heap H locs → f_X7_inRow_L3 x1 x2 uq_15 K3 n uv_16 uv_17 = some out → (∀ (uv_16 : Int32) (uv_17 : Int32) (H : Heap) (locs : List Loc) (ls : Array Slot), lv_has ls 5 [(4, .int uv_17), (3, .int uv_16), (0, .ref (G.2.1 58)), (1, .int x1), (2, .int x2)] → gx_at G C (uq_15.2.1, uq_15.2.2) o d s.heap H locs → K3 uv_16 uv_17 = some out → W p l e ({ frames := 1, cells := 0, slots := 0, locals := 22 } : Room) s m ([.ref (G.2.1 58), .int x1, .int x2] : List Value).toArray below meth c H locs 0 0 (MQ below (gx_Qi G out.1 C (out.2.1, out.2.2) o d) ([.ref (G.2.1 58), .int x1, .int x2] : List Value).toArray s 0 0 (gx_A G)) (F0 m 88 ls [])) → W p l e ({ frames := 1, cells := 0, slots := 0, locals := 22 } : Room) s m ([.ref (G.2.1 58), .int x1, .int x2] : List Value).toArray below meth c H locs 0 0 (MQ below (gx_Qi G out.1 C (out.2.1, out.2.2) o d) ([.ref (G.2.1 58), .int x1, .int x2] : List Value).toArray s 0 0 (gx_A G)) (F0 m 37 ls []) := by
        intro n
        induction n with
        | zero =>
          intro K3 uv_16 uv_17 H locs ls hl hw hF hK
          rw [f_X7_inRow_L3] at hF
          cases hF
        | succ n ih3 =>
          intro K3 uv_16 uv_17 H locs ls hl hw hF hK3
          rw [f_X7_inRow_L3] at hF
          refine lv_iload (pc := 37) hx hb dX7_inRow_37 (lv_at hl 0 rfl) ?_
          refine lv_bipush (pc := 39) (v := 42) hx hb dX7_inRow_39 (by decide) ?_
          refine gx_icmp_ge (pc := 41) (tgt := 88) hx hb hF dX7_inRow_41 (by decide) (fun hF => ?_) (fun hF => ?_)
          · exact hK3 _ _ _ _ _ (lv_sub hl [0, 1, 2, 3, 4] rfl) hw hF
          refine lv_iload_n (pc := 44) hx hb dX7_inRow_44 rfl (lv_at hl 1 rfl) ?_
          refine lv_aload_n (pc := 45) hx hb dX7_inRow_45 rfl (lv_at hl 2 rfl) ?_
          refine lv_iload (pc := 46) hx hb dX7_inRow_46 (lv_at hl 0 rfl) ?_
          obtain ⟨uq_18, huq_18, hF⟩ := Option.bind_eq_some_iff.mp hF
          refine cl_X7_isFree (pc := 48) hx hb hml hown hV hw huq_18 (gw_1118 hV) hl.1 (Nat.le_of_ble_eq_true rfl) (Nat.le_of_ble_eq_true rfl) (Nat.le_of_ble_eq_true rfl) dX7_inRow_48 (fun H locs hw => ?_)
          refine gx_if_ne (pc := 51) (tgt := 79) hx hb hF dX7_inRow_51 (by decide) (fun hF => ?_) (fun hF => ?_)
          · refine lv_iconst (pc := 79) (v := 0) hx hb dX7_inRow_79 (by decide) ?_
            refine lv_iadd (pc := 80) hx hb dX7_inRow_80 ?_
            refine lv_istore_n (pc := 81) (lv' := [(3, .int (uv_16 + 0)), (4, .int uv_17), (0, .ref (G.2.1 58)), (1, .int x1), (2, .int x2)]) hx hb dX7_inRow_81 rfl hl (by decide) rfl (fun ls hl => ?_)
            refine lv_iinc (pc := 82) (v := (uv_17 + 1)) (lv' := [(4, .int (uv_17 + 1)), (3, .int (uv_16 + 0)), (0, .ref (G.2.1 58)), (1, .int x1), (2, .int x2)]) hx hb dX7_inRow_82 hl (k := 1) rfl rfl (by decide) rfl (fun ls hl => ?_)
            refine lv_goto (pc := 85) (tgt := 37) hx hb dX7_inRow_85 (by decide) ?_
            exact ih3 _ _ _ _ _ _ (lv_sub hl [0, 1, 2, 3, 4] rfl) hw hF hK3
          refine lv_iload_n (pc := 54) hx hb dX7_inRow_54 rfl (lv_at hl 4 rfl) ?_
          refine gx_if_eq (pc := 55) (tgt := 66) hx hb hF dX7_inRow_55 (by decide) (fun hF => ?_) (fun hF => ?_)
          · refine lv_iload (pc := 66) hx hb dX7_inRow_66 (lv_at hl 0 rfl) ?_
            refine lv_bipush (pc := 68) (v := 7) hx hb dX7_inRow_68 (by decide) ?_
            refine lv_idiv (pc := 70) hx hb dX7_inRow_70 (by decide) ?_
            refine lv_iload_n (pc := 71) hx hb dX7_inRow_71 rfl (lv_at hl 3 rfl) ?_
            refine gx_icmp_ne (pc := 72) (tgt := 79) hx hb hF dX7_inRow_72 (by decide) (fun hF => ?_) (fun hF => ?_)
            · refine lv_iconst (pc := 79) (v := 0) hx hb dX7_inRow_79 (by decide) ?_
              refine lv_iadd (pc := 80) hx hb dX7_inRow_80 ?_
              refine lv_istore_n (pc := 81) (lv' := [(3, .int (uv_16 + 0)), (4, .int uv_17), (0, .ref (G.2.1 58)), (1, .int x1), (2, .int x2)]) hx hb dX7_inRow_81 rfl hl (by decide) rfl (fun ls hl => ?_)
              refine lv_iinc (pc := 82) (v := (uv_17 + 1)) (lv' := [(4, .int (uv_17 + 1)), (3, .int (uv_16 + 0)), (0, .ref (G.2.1 58)), (1, .int x1), (2, .int x2)]) hx hb dX7_inRow_82 hl (k := 1) rfl rfl (by decide) rfl (fun ls hl => ?_)
              refine lv_goto (pc := 85) (tgt := 37) hx hb dX7_inRow_85 (by decide) ?_
              exact ih3 _ _ _ _ _ _ (lv_sub hl [0, 1, 2, 3, 4] rfl) hw hF hK3
            refine lv_iconst (pc := 75) (v := 1) hx hb dX7_inRow_75 (by decide) ?_
            refine lv_goto (pc := 76) (tgt := 80) hx hb dX7_inRow_76 (by decide) ?_
            refine lv_iadd (pc := 80) hx hb dX7_inRow_80 ?_
            refine lv_istore_n (pc := 81) (lv' := [(3, .int (uv_16 + 1)), (4, .int uv_17), (0, .ref (G.2.1 58)), (1, .int x1), (2, .int x2)]) hx hb dX7_inRow_81 rfl hl (by decide) rfl (fun ls hl => ?_)
            refine lv_iinc (pc := 82) (v := (uv_17 + 1)) (lv' := [(4, .int (uv_17 + 1)), (3, .int (uv_16 + 1)), (0, .ref (G.2.1 58)), (1, .int x1), (2, .int x2)]) hx hb dX7_inRow_82 hl (k := 1) rfl rfl (by decide) rfl (fun ls hl => ?_)
            refine lv_goto (pc := 85) (tgt := 37) hx hb dX7_inRow_85 (by decide) ?_
            exact ih3 _ _ _ _ _ _ (lv_sub hl [0, 1, 2, 3, 4] rfl) hw hF hK3
          refine lv_iload (pc := 58) hx hb dX7_inRow_58 (lv_at hl 0 rfl) ?_
          refine lv_bipush (pc := 60) (v := 7) hx hb dX7_inRow_60 (by decide) ?_
          refine lv_irem (pc := 62) hx hb dX7_inRow_62 (by decide) ?_
          refine lv_goto (pc := 63) (tgt := 71) hx hb dX7_inRow_63 (by decide) ?_
          refine lv_iload_n (pc := 71) hx hb dX7_inRow_71 rfl (lv_at hl 3 rfl) ?_
          refine gx_icmp_ne (pc := 72) (tgt := 79) hx hb hF dX7_inRow_72 (by decide) (fun hF => ?_) (fun hF => ?_)
          · refine lv_iconst (pc := 79) (v := 0) hx hb dX7_inRow_79 (by decide) ?_
            refine lv_iadd (pc := 80) hx hb dX7_inRow_80 ?_
            refine lv_istore_n (pc := 81) (lv' := [(3, .int (uv_16 + 0)), (4, .int uv_17), (0, .ref (G.2.1 58)), (1, .int x1), (2, .int x2)]) hx hb dX7_inRow_81 rfl hl (by decide) rfl (fun ls hl => ?_)
            refine lv_iinc (pc := 82) (v := (uv_17 + 1)) (lv' := [(4, .int (uv_17 + 1)), (3, .int (uv_16 + 0)), (0, .ref (G.2.1 58)), (1, .int x1), (2, .int x2)]) hx hb dX7_inRow_82 hl (k := 1) rfl rfl (by decide) rfl (fun ls hl => ?_)
            refine lv_goto (pc := 85) (tgt := 37) hx hb dX7_inRow_85 (by decide) ?_
            exact ih3 _ _ _ _ _ _ (lv_sub hl [0, 1, 2, 3, 4] rfl) hw hF hK3
          refine lv_iconst (pc := 75) (v := 1) hx hb dX7_inRow_75 (by decide) ?_
          refine lv_goto (pc := 76) (tgt := 80) hx hb dX7_inRow_76 (by decide) ?_
          refine lv_iadd (pc := 80) hx hb dX7_inRow_80 ?_
          refine lv_istore_n (pc := 81) (lv' := [(3, .int (uv_16 + 1)), (4, .int uv_17), (0, .ref (G.2.1 58)), (1, .int x1), (2, .int x2)]) hx hb dX7_inRow_81 rfl hl (by decide) rfl (fun ls hl => ?_)
          refine lv_iinc (pc := 82) (v := (uv_17 + 1)) (lv' := [(4, .int (uv_17 + 1)), (3, .int (uv_16 + 1)), (0, .ref (G.2.1 58)), (1, .int x1), (2, .int x2)]) hx hb dX7_inRow_82 hl (k := 1) rfl rfl (by decide) rfl (fun ls hl => ?_)
          refine lv_goto (pc := 85) (tgt := 37) hx hb dX7_inRow_85 (by decide) ?_
          exact ih3 _ _ _ _ _ _ (lv_sub hl [0, 1, 2, 3, 4] rfl) hw hF hK3
      refine L3 1000 _ _ _ _ _ _ hl hw hF (fun uv_19 uv_20 H locs ls hl hw hF => ?_)
      refine lv_iload_n (pc := 88) hx hb dX7_inRow_88 rfl (lv_at hl 1 rfl) ?_
      cases hF
      exact gx_iret hx hb hr hlocks hw dX7_inRow_89
    refine lv_iconst (pc := 30) (v := 0) hx hb dX7_inRow_30 (by decide) ?_
    cases hF
    exact gx_iret hx hb hr hlocks hw dX7_inRow_31
  refine lv_iconst (pc := 19) (v := 0) hx hb dX7_inRow_19 (by decide) ?_
  refine lv_goto (pc := 20) (tgt := 24) hx hb dX7_inRow_20 (by decide) ?_
  obtain ⟨uq_21, huq_21, hF⟩ := Option.bind_eq_some_iff.mp hF
  refine cl_X7_fails (pc := 24) hx hb hml hown hV hw huq_21 (gw_1193 hV) hl.1 (Nat.le_of_ble_eq_true rfl) (Nat.le_of_ble_eq_true rfl) (Nat.le_of_ble_eq_true rfl) dX7_inRow_24 (fun H locs hw => ?_)
  refine gx_if_eq (pc := 27) (tgt := 32) hx hb hF dX7_inRow_27 (by decide) (fun hF => ?_) (fun hF => ?_)
  · refine lv_iconst (pc := 32) (v := 0) hx hb dX7_inRow_32 (by decide) ?_
    refine lv_istore_n (pc := 33) (lv' := [(3, .int 0), (0, .ref (G.2.1 58)), (1, .int x1), (2, .int x2)]) hx hb dX7_inRow_33 rfl hl (by decide) rfl (fun ls hl => ?_)
    refine lv_iconst (pc := 34) (v := 0) hx hb dX7_inRow_34 (by decide) ?_
    refine lv_istore (pc := 35) (lv' := [(4, .int 0), (3, .int 0), (0, .ref (G.2.1 58)), (1, .int x1), (2, .int x2)]) hx hb dX7_inRow_35 hl (by decide) rfl (fun ls hl => ?_)
    have L4 : ∀ (n : Nat) (K4 : Int32 → Int32 → Option (Int32 × gx_F × gx_F)) (uv_22 : Int32) (uv_23 : Int32) (H : Heap) (locs : List Loc) (ls : Array Slot), lv_has ls 5 [(4, .int uv_23), (3, .int uv_22), (0, .ref (G.2.1 58)), (1, .int x1), (2, .int x2)] → gx_at G C (uq_21.2.1, uq_21.2.2) o d s.heap H locs → f_X7_inRow_L4 x1 x2 uq_21 K4 n uv_22 uv_23 = some out → (∀ (uv_22 : Int32) (uv_23 : Int32) (H : Heap) (locs : List Loc) (ls : Array Slot), lv_has ls 5 [(4, .int uv_23), (3, .int uv_22), (0, .ref (G.2.1 58)), (1, .int x1), (2, .int x2)] → gx_at G C (uq_21.2.1, uq_21.2.2) o d s.heap H locs → K4 uv_22 uv_23 = some out → W p l e ({ frames := 1, cells := 0, slots := 0, locals := 22 } : Room) s m ([.ref (G.2.1 58), .int x1, .int x2] : List Value).toArray below meth c H locs 0 0 (MQ below (gx_Qi G out.1 C (out.2.1, out.2.2) o d) ([.ref (G.2.1 58), .int x1, .int x2] : List Value).toArray s 0 0 (gx_A G)) (F0 m 88 ls [])) → W p l e ({ frames := 1, cells := 0, slots := 0, locals := 22 } : Room) s m ([.ref (G.2.1 58), .int x1, .int x2] : List Value).toArray below meth c H locs 0 0 (MQ below (gx_Qi G out.1 C (out.2.1, out.2.2) o d) ([.ref (G.2.1 58), .int x1, .int x2] : List Value).toArray s 0 0 (gx_A G)) (F0 m 37 ls []) := by
      intro n
      induction n with
      | zero =>
        intro K4 uv_22 uv_23 H locs ls hl hw hF hK
        rw [f_X7_inRow_L4] at hF
        cases hF
      | succ n ih4 =>
        intro K4 uv_22 uv_23 H locs ls hl hw hF hK4
        rw [f_X7_inRow_L4] at hF
        refine lv_iload (pc := 37) hx hb dX7_inRow_37 (lv_at hl 0 rfl) ?_
        refine lv_bipush (pc := 39) (v := 42) hx hb dX7_inRow_39 (by decide) ?_
        refine gx_icmp_ge (pc := 41) (tgt := 88) hx hb hF dX7_inRow_41 (by decide) (fun hF => ?_) (fun hF => ?_)
        · exact hK4 _ _ _ _ _ (lv_sub hl [0, 1, 2, 3, 4] rfl) hw hF
        refine lv_iload_n (pc := 44) hx hb dX7_inRow_44 rfl (lv_at hl 1 rfl) ?_
        refine lv_aload_n (pc := 45) hx hb dX7_inRow_45 rfl (lv_at hl 2 rfl) ?_
        refine lv_iload (pc := 46) hx hb dX7_inRow_46 (lv_at hl 0 rfl) ?_
        obtain ⟨uq_24, huq_24, hF⟩ := Option.bind_eq_some_iff.mp hF
        refine cl_X7_isFree (pc := 48) hx hb hml hown hV hw huq_24 (gw_1118 hV) hl.1 (Nat.le_of_ble_eq_true rfl) (Nat.le_of_ble_eq_true rfl) (Nat.le_of_ble_eq_true rfl) dX7_inRow_48 (fun H locs hw => ?_)
        refine gx_if_ne (pc := 51) (tgt := 79) hx hb hF dX7_inRow_51 (by decide) (fun hF => ?_) (fun hF => ?_)
        · refine lv_iconst (pc := 79) (v := 0) hx hb dX7_inRow_79 (by decide) ?_
          refine lv_iadd (pc := 80) hx hb dX7_inRow_80 ?_
          refine lv_istore_n (pc := 81) (lv' := [(3, .int (uv_22 + 0)), (4, .int uv_23), (0, .ref (G.2.1 58)), (1, .int x1), (2, .int x2)]) hx hb dX7_inRow_81 rfl hl (by decide) rfl (fun ls hl => ?_)
          refine lv_iinc (pc := 82) (v := (uv_23 + 1)) (lv' := [(4, .int (uv_23 + 1)), (3, .int (uv_22 + 0)), (0, .ref (G.2.1 58)), (1, .int x1), (2, .int x2)]) hx hb dX7_inRow_82 hl (k := 1) rfl rfl (by decide) rfl (fun ls hl => ?_)
          refine lv_goto (pc := 85) (tgt := 37) hx hb dX7_inRow_85 (by decide) ?_
          exact ih4 _ _ _ _ _ _ (lv_sub hl [0, 1, 2, 3, 4] rfl) hw hF hK4
        refine lv_iload_n (pc := 54) hx hb dX7_inRow_54 rfl (lv_at hl 4 rfl) ?_
        refine gx_if_eq (pc := 55) (tgt := 66) hx hb hF dX7_inRow_55 (by decide) (fun hF => ?_) (fun hF => ?_)
        · refine lv_iload (pc := 66) hx hb dX7_inRow_66 (lv_at hl 0 rfl) ?_
          refine lv_bipush (pc := 68) (v := 7) hx hb dX7_inRow_68 (by decide) ?_
          refine lv_idiv (pc := 70) hx hb dX7_inRow_70 (by decide) ?_
          refine lv_iload_n (pc := 71) hx hb dX7_inRow_71 rfl (lv_at hl 3 rfl) ?_
          refine gx_icmp_ne (pc := 72) (tgt := 79) hx hb hF dX7_inRow_72 (by decide) (fun hF => ?_) (fun hF => ?_)
          · refine lv_iconst (pc := 79) (v := 0) hx hb dX7_inRow_79 (by decide) ?_
            refine lv_iadd (pc := 80) hx hb dX7_inRow_80 ?_
            refine lv_istore_n (pc := 81) (lv' := [(3, .int (uv_22 + 0)), (4, .int uv_23), (0, .ref (G.2.1 58)), (1, .int x1), (2, .int x2)]) hx hb dX7_inRow_81 rfl hl (by decide) rfl (fun ls hl => ?_)
            refine lv_iinc (pc := 82) (v := (uv_23 + 1)) (lv' := [(4, .int (uv_23 + 1)), (3, .int (uv_22 + 0)), (0, .ref (G.2.1 58)), (1, .int x1), (2, .int x2)]) hx hb dX7_inRow_82 hl (k := 1) rfl rfl (by decide) rfl (fun ls hl => ?_)
            refine lv_goto (pc := 85) (tgt := 37) hx hb dX7_inRow_85 (by decide) ?_
            exact ih4 _ _ _ _ _ _ (lv_sub hl [0, 1, 2, 3, 4] rfl) hw hF hK4
          refine lv_iconst (pc := 75) (v := 1) hx hb dX7_inRow_75 (by decide) ?_
          refine lv_goto (pc := 76) (tgt := 80) hx hb dX7_inRow_76 (by decide) ?_
          refine lv_iadd (pc := 80) hx hb dX7_inRow_80 ?_
          refine lv_istore_n (pc := 81) (lv' := [(3, .int (uv_22 + 1)), (4, .int uv_23), (0, .ref (G.2.1 58)), (1, .int x1), (2, .int x2)]) hx hb dX7_inRow_81 rfl hl (by decide) rfl (fun ls hl => ?_)
          refine lv_iinc (pc := 82) (v := (uv_23 + 1)) (lv' := [(4, .int (uv_23 + 1)), (3, .int (uv_22 + 1)), (0, .ref (G.2.1 58)), (1, .int x1), (2, .int x2)]) hx hb dX7_inRow_82 hl (k := 1) rfl rfl (by decide) rfl (fun ls hl => ?_)
          refine lv_goto (pc := 85) (tgt := 37) hx hb dX7_inRow_85 (by decide) ?_
          exact ih4 _ _ _ _ _ _ (lv_sub hl [0, 1, 2, 3, 4] rfl) hw hF hK4
        refine lv_iload (pc := 58) hx hb dX7_inRow_58 (lv_at hl 0 rfl) ?_
        refine lv_bipush (pc := 60) (v := 7) hx hb dX7_inRow_60 (by decide) ?_
        refine lv_irem (pc := 62) hx hb dX7_inRow_62 (by decide) ?_
        refine lv_goto (pc := 63) (tgt := 71) hx hb dX7_inRow_63 (by decide) ?_
        refine lv_iload_n (pc := 71) hx hb dX7_inRow_71 rfl (lv_at hl 3 rfl) ?_
        refine gx_icmp_ne (pc := 72) (tgt := 79) hx hb hF dX7_inRow_72 (by decide) (fun hF => ?_) (fun hF => ?_)
        · refine lv_iconst (pc := 79) (v := 0) hx hb dX7_inRow_79 (by decide) ?_
          refine lv_iadd (pc := 80) hx hb dX7_inRow_80 ?_
          refine lv_istore_n (pc := 81) (lv' := [(3, .int (uv_22 + 0)), (4, .int uv_23), (0, .ref (G.2.1 58)), (1, .int x1), (2, .int x2)]) hx hb dX7_inRow_81 rfl hl (by decide) rfl (fun ls hl => ?_)
          refine lv_iinc (pc := 82) (v := (uv_23 + 1)) (lv' := [(4, .int (uv_23 + 1)), (3, .int (uv_22 + 0)), (0, .ref (G.2.1 58)), (1, .int x1), (2, .int x2)]) hx hb dX7_inRow_82 hl (k := 1) rfl rfl (by decide) rfl (fun ls hl => ?_)
          refine lv_goto (pc := 85) (tgt := 37) hx hb dX7_inRow_85 (by decide) ?_
          exact ih4 _ _ _ _ _ _ (lv_sub hl [0, 1, 2, 3, 4] rfl) hw hF hK4
        refine lv_iconst (pc := 75) (v := 1) hx hb dX7_inRow_75 (by decide) ?_
        refine lv_goto (pc := 76) (tgt := 80) hx hb dX7_inRow_76 (by decide) ?_
        refine lv_iadd (pc := 80) hx hb dX7_inRow_80 ?_
        refine lv_istore_n (pc := 81) (lv' := [(3, .int (uv_22 + 1)), (4, .int uv_23), (0, .ref (G.2.1 58)), (1, .int x1), (2, .int x2)]) hx hb dX7_inRow_81 rfl hl (by decide) rfl (fun ls hl => ?_)
        refine lv_iinc (pc := 82) (v := (uv_23 + 1)) (lv' := [(4, .int (uv_23 + 1)), (3, .int (uv_22 + 1)), (0, .ref (G.2.1 58)), (1, .int x1), (2, .int x2)]) hx hb dX7_inRow_82 hl (k := 1) rfl rfl (by decide) rfl (fun ls hl => ?_)
        refine lv_goto (pc := 85) (tgt := 37) hx hb dX7_inRow_85 (by decide) ?_
        exact ih4 _ _ _ _ _ _ (lv_sub hl [0, 1, 2, 3, 4] rfl) hw hF hK4
    refine L4 1000 _ _ _ _ _ _ hl hw hF (fun uv_25 uv_26 H locs ls hl hw hF => ?_)
    refine lv_iload_n (pc := 88) hx hb dX7_inRow_88 rfl (lv_at hl 1 rfl) ?_
    cases hF
    exact gx_iret hx hb hr hlocks hw dX7_inRow_89
  refine lv_iconst (pc := 30) (v := 0) hx hb dX7_inRow_30 (by decide) ?_
  cases hF
  exact gx_iret hx hb hr hlocks hw dX7_inRow_31
set_option maxRecDepth 100000 in
theorem cl_X7_inRow {l : Launch} {G : gx_G} {C : gx_S} {o : Int64} {d : UInt64} {I V : gx_F} {p : Program} {e : Env} {R : Room} {s : State} {m : MethodId} {args : Array Value} {below : List Frame} {meth : Method} {c : Code} {H : Heap} {locs : List Loc} {cells slots : Nat} {Q : State → Prop} {cc : ByteArray} {pc nL index : Nat} {ls : Array Slot} {rest : List Value} {own : String} {x1 : Int32} {x2 : Int32} {out : (Int32 × gx_F × gx_F)} (hx : p.tables.exec = Jvm.exec) (hb : c.code = cc) (hml : c.maxLocals = nL) (hown : s.vm.findClass own = some m.cls) (hV : gx_V G s) (hw : gx_at G C (I, V) o d s.heap H locs) (hF : f_X7_inRow x1 x2 I V = some out) (hlink : (Cond.methodLink own index yX7_inRow).before args s = true) (hsz : ls.size = nL) (hfr : 2 ≤ R.frames) (hlo : 46 ≤ R.locals) (hrest : (rest.map fun v => v.category).sum ≤ 8) (hdg : decode cc pc = .ok (.invokevirtual index, 3))
    (kk : ∀ (H1 : Heap) (locs1 : List Loc), gx_at G C (out.2.1, out.2.2) o d s.heap H1 locs1 → W p l e R s m args below meth c H1 locs1 cells slots Q (F0 m (pc + 3) ls (.int out.1 :: rest))) (hc : cells ≤ R.cells := by exact Nat.zero_le _) (hs : slots ≤ R.slots := by exact Nat.zero_le _) : W p l e R s m args below meth c H locs cells slots Q (F0 m pc ls (.int x2 :: .int x1 :: .ref (G.2.1 58) :: rest)) :=
  gx_runi hw (va_runV (C := RX7) (As := [.int x1, .int x2]) (rest := rest) ⟨hx, hb, hml, hown, (fun _ h => nomatch h : ∀ w ∈ ([] : List Cond), w.before args s = true)⟩ (k_X7_inRow hF) ⟨gx_callB (n := 2) rfl rfl hlink (gw_56 hV) (gw_1276 hV) (by decide +kernel) ⟨hfr, hlo⟩, gw_1274 hV, gw_1275 hV⟩ (gx_recv (k := 58) (ci := 9) (T := TX7) hV hw (by decide) rfl rfl) rfl rfl hsz rfl (lv_room hrest) hdg ⟨hc, hs⟩) kk
set_option maxHeartbeats 4000000 in
set_option maxRecDepth 100000 in
theorem k_X7_weakest {l : Launch} {G : gx_G} {C : gx_S} {o : Int64} {d : UInt64} {I V : gx_F} {x1 : Int32} {out : (Int32 × gx_F × gx_F)} (hF : f_X7_weakest x1 I V = some out) : gx_K l yX7_weakest cX7_weakest 7 (some .int) { frames := 3, cells := 0, slots := 0, locals := 71 } [.ref (G.2.1 58), .int x1] G C (I, V) o d (gx_Qi G out.1 C (out.2.1, out.2.2) o d) 0 0 := by
  refine gx_begin (by decide +kernel) (Nat.le_of_ble_eq_true rfl) ?_
  intro p e s m below meth c hx hb hr hml hown hlocks hV hw ls hl
  have hown : s.vm.findClass RX7 = some m.cls := hown
  have hl : lv_has ls 7 [(0, .ref (G.2.1 58)), (1, .int x1)] := hl
  unfold f_X7_weakest at hF
  refine lv_iconst (pc := 0) (v := 0) hx hb dX7_weakest_0 (by decide) ?_
  refine lv_istore_n (pc := 1) (lv' := [(2, .int 0), (0, .ref (G.2.1 58)), (1, .int x1)]) hx hb dX7_weakest_1 rfl hl (by decide) rfl (fun ls hl => ?_)
  have L1 : ∀ (n : Nat) (K1 : Int32 → Option (Int32 × gx_F × gx_F)) (uv_1 : Int32) (H : Heap) (locs : List Loc) (ls : Array Slot), lv_has ls 7 [(2, .int uv_1), (0, .ref (G.2.1 58)), (1, .int x1)] → gx_at G C (I, V) o d s.heap H locs → f_X7_weakest_L1 x1 I V K1 n uv_1 = some out → (∀ (uv_1 : Int32) (H : Heap) (locs : List Loc) (ls : Array Slot), lv_has ls 7 [(2, .int uv_1), (0, .ref (G.2.1 58)), (1, .int x1)] → gx_at G C (I, V) o d s.heap H locs → K1 uv_1 = some out → W p l e ({ frames := 3, cells := 0, slots := 0, locals := 71 } : Room) s m ([.ref (G.2.1 58), .int x1] : List Value).toArray below meth c H locs 0 0 (MQ below (gx_Qi G out.1 C (out.2.1, out.2.2) o d) ([.ref (G.2.1 58), .int x1] : List Value).toArray s 0 0 (gx_A G)) (F0 m 131 ls [])) → W p l e ({ frames := 3, cells := 0, slots := 0, locals := 71 } : Room) s m ([.ref (G.2.1 58), .int x1] : List Value).toArray below meth c H locs 0 0 (MQ below (gx_Qi G out.1 C (out.2.1, out.2.2) o d) ([.ref (G.2.1 58), .int x1] : List Value).toArray s 0 0 (gx_A G)) (F0 m 2 ls []) := by
    intro n
    induction n with
    | zero =>
      intro K1 uv_1 H locs ls hl hw hF hK
      rw [f_X7_weakest_L1] at hF
      cases hF
    | succ n ih1 =>
      intro K1 uv_1 H locs ls hl hw hF hK1
      rw [f_X7_weakest_L1] at hF
      refine lv_iload_n (pc := 2) hx hb dX7_weakest_2 rfl (lv_at hl 0 rfl) ?_
      refine lv_bipush (pc := 3) (v := 42) hx hb dX7_weakest_3 (by decide) ?_
      refine gx_icmp_ge (pc := 5) (tgt := 131) hx hb hF dX7_weakest_5 (by decide) (fun hF => ?_) (fun hF => ?_)
      · exact hK1 _ _ _ _ (lv_sub hl [0, 1, 2] rfl) hw hF
      refine lv_aload_n (pc := 8) hx hb dX7_weakest_8 rfl (lv_at hl 1 rfl) ?_
      refine lv_iload_n (pc := 9) hx hb dX7_weakest_9 rfl (lv_at hl 0 rfl) ?_
      obtain ⟨uq_2, huq_2, hF⟩ := Option.bind_eq_some_iff.mp hF
      refine cl_X7_isFree (pc := 10) hx hb hml hown hV hw huq_2 (gw_1118 hV) hl.1 (Nat.le_of_ble_eq_true rfl) (Nat.le_of_ble_eq_true rfl) (Nat.le_of_ble_eq_true rfl) dX7_weakest_10 (fun H locs hw => ?_)
      refine gx_if_eq (pc := 13) (tgt := 19) hx hb hF dX7_weakest_13 (by decide) (fun hF => ?_) (fun hF => ?_)
      · refine lv_iconst (pc := 19) (v := 0) hx hb dX7_weakest_19 (by decide) ?_
        refine lv_istore_n (pc := 20) (lv' := [(3, .int 0), (2, .int uv_1), (0, .ref (G.2.1 58)), (1, .int x1)]) hx hb dX7_weakest_20 rfl hl (by decide) rfl (fun ls hl => ?_)
        refine lv_aload_n (pc := 21) hx hb dX7_weakest_21 rfl (lv_at hl 2 rfl) ?_
        refine lv_iload_n (pc := 22) hx hb dX7_weakest_22 rfl (lv_at hl 1 rfl) ?_
        refine lv_aload_n (pc := 23) hx hb dX7_weakest_23 rfl (lv_at hl 2 rfl) ?_
        refine gg_X7_0 (pc := 24) hx hb hown hV hw (gw_1018 hV) dX7_weakest_24 ?_
        refine lv_bipush (pc := 27) (v := 45) hx hb dX7_weakest_27 (by decide) ?_
        refine lv_iload_n (pc := 29) hx hb dX7_weakest_29 rfl (lv_at hl 1 rfl) ?_
        refine lv_iadd (pc := 30) hx hb dX7_weakest_30 ?_
        refine ga_59_ld (pc := 31) hx hb hV hw hF dX7_weakest_31 (fun _ hF => ?_)
        obtain ⟨uq_3, huq_3, hF⟩ := Option.bind_eq_some_iff.mp hF
        refine cl_X7_held (pc := 32) hx hb hml hown hV hw huq_3 (gw_1122 hV) hl.1 (Nat.le_of_ble_eq_true rfl) (Nat.le_of_ble_eq_true rfl) (Nat.le_of_ble_eq_true rfl) dX7_weakest_32 (fun H locs hw => ?_)
        refine lv_istore (pc := 35) (lv' := [(4, .int uq_3), (3, .int 0), (2, .int uv_1), (0, .ref (G.2.1 58)), (1, .int x1)]) hx hb dX7_weakest_35 hl (by decide) rfl (fun ls hl => ?_)
        refine lv_iconst (pc := 37) (v := 0) hx hb dX7_weakest_37 (by decide) ?_
        refine lv_istore (pc := 38) (lv' := [(5, .int 0), (4, .int uq_3), (3, .int 0), (2, .int uv_1), (0, .ref (G.2.1 58)), (1, .int x1)]) hx hb dX7_weakest_38 hl (by decide) rfl (fun ls hl => ?_)
        have L2 : ∀ (n : Nat) (K2 : Int32 → Int32 → Option (Int32 × gx_F × gx_F)) (uv_4 : Int32) (uv_5 : Int32) (H : Heap) (locs : List Loc) (ls : Array Slot), lv_has ls 7 [(5, .int uv_5), (4, .int uq_3), (3, .int uv_4), (2, .int uv_1), (0, .ref (G.2.1 58)), (1, .int x1)] → gx_at G C (I, V) o d s.heap H locs → f_X7_weakest_L2 I V uv_1 uq_3 K2 n uv_4 uv_5 = some out → (∀ (uv_4 : Int32) (uv_5 : Int32) (H : Heap) (locs : List Loc) (ls : Array Slot), lv_has ls 7 [(5, .int uv_5), (4, .int uq_3), (3, .int uv_4), (2, .int uv_1), (0, .ref (G.2.1 58)), (1, .int x1)] → gx_at G C (I, V) o d s.heap H locs → K2 uv_4 uv_5 = some out → W p l e ({ frames := 3, cells := 0, slots := 0, locals := 71 } : Room) s m ([.ref (G.2.1 58), .int x1] : List Value).toArray below meth c H locs 0 0 (MQ below (gx_Qi G out.1 C (out.2.1, out.2.2) o d) ([.ref (G.2.1 58), .int x1] : List Value).toArray s 0 0 (gx_A G)) (F0 m 110 ls [])) → W p l e ({ frames := 3, cells := 0, slots := 0, locals := 71 } : Room) s m ([.ref (G.2.1 58), .int x1] : List Value).toArray below meth c H locs 0 0 (MQ below (gx_Qi G out.1 C (out.2.1, out.2.2) o d) ([.ref (G.2.1 58), .int x1] : List Value).toArray s 0 0 (gx_A G)) (F0 m 40 ls []) := by
          intro n
          induction n with
          | zero =>
            intro K2 uv_4 uv_5 H locs ls hl hw hF hK
            rw [f_X7_weakest_L2] at hF
            cases hF
          | succ n ih2 =>
            intro K2 uv_4 uv_5 H locs ls hl hw hF hK2
            rw [f_X7_weakest_L2] at hF
            refine lv_iload (pc := 40) hx hb dX7_weakest_40 (lv_at hl 0 rfl) ?_
            refine lv_bipush (pc := 42) (v := 42) hx hb dX7_weakest_42 (by decide) ?_
            refine gx_icmp_ge (pc := 44) (tgt := 110) hx hb hF dX7_weakest_44 (by decide) (fun hF => ?_) (fun hF => ?_)
            · exact hK2 _ _ _ _ _ (lv_sub hl [0, 1, 2, 3, 4, 5] rfl) hw hF
            refine lv_aload_n (pc := 47) hx hb dX7_weakest_47 rfl (lv_at hl 4 rfl) ?_
            refine lv_iload (pc := 48) hx hb dX7_weakest_48 (lv_at hl 0 rfl) ?_
            obtain ⟨uq_6, huq_6, hF⟩ := Option.bind_eq_some_iff.mp hF
            refine cl_X7_isFree (pc := 50) hx hb hml hown hV hw huq_6 (gw_1118 hV) hl.1 (Nat.le_of_ble_eq_true rfl) (Nat.le_of_ble_eq_true rfl) (Nat.le_of_ble_eq_true rfl) dX7_weakest_50 (fun H locs hw => ?_)
            refine gx_if_eq (pc := 53) (tgt := 59) hx hb hF dX7_weakest_53 (by decide) (fun hF => ?_) (fun hF => ?_)
            · refine lv_aload_n (pc := 59) hx hb dX7_weakest_59 rfl (lv_at hl 4 rfl) ?_
              refine lv_iload (pc := 60) hx hb dX7_weakest_60 (lv_at hl 0 rfl) ?_
              refine lv_aload_n (pc := 62) hx hb dX7_weakest_62 rfl (lv_at hl 4 rfl) ?_
              refine gg_X7_0 (pc := 63) hx hb hown hV hw (gw_1018 hV) dX7_weakest_63 ?_
              refine lv_bipush (pc := 66) (v := 45) hx hb dX7_weakest_66 (by decide) ?_
              refine lv_iload (pc := 68) hx hb dX7_weakest_68 (lv_at hl 0 rfl) ?_
              refine lv_iadd (pc := 70) hx hb dX7_weakest_70 ?_
              refine ga_59_ld (pc := 71) hx hb hV hw hF dX7_weakest_71 (fun _ hF => ?_)
              obtain ⟨uq_7, huq_7, hF⟩ := Option.bind_eq_some_iff.mp hF
              refine cl_X7_held (pc := 72) hx hb hml hown hV hw huq_7 (gw_1122 hV) hl.1 (Nat.le_of_ble_eq_true rfl) (Nat.le_of_ble_eq_true rfl) (Nat.le_of_ble_eq_true rfl) dX7_weakest_72 (fun H locs hw => ?_)
              refine lv_iload (pc := 75) hx hb dX7_weakest_75 (lv_at hl 1 rfl) ?_
              refine lv_isub (pc := 77) hx hb dX7_weakest_77 ?_
              refine lv_istore (pc := 78) (lv' := [(6, .int (uq_7 - uq_3)), (5, .int uv_5), (4, .int uq_3), (3, .int uv_4), (2, .int uv_1), (0, .ref (G.2.1 58)), (1, .int x1)]) hx hb dX7_weakest_78 hl (by decide) rfl (fun ls hl => ?_)
              refine lv_iload_n (pc := 80) hx hb dX7_weakest_80 rfl (lv_at hl 3 rfl) ?_
              refine lv_iload (pc := 81) hx hb dX7_weakest_81 (lv_at hl 0 rfl) ?_
              refine gx_if_lt (pc := 83) (tgt := 97) hx hb hF dX7_weakest_83 (by decide) (fun hF => ?_) (fun hF => ?_)
              · refine lv_iconst (pc := 97) (v := 1) hx hb dX7_weakest_97 (by decide) ?_
                refine lv_goto (pc := 98) (tgt := 102) hx hb dX7_weakest_98 (by decide) ?_
                refine lv_iadd (pc := 102) hx hb dX7_weakest_102 ?_
                refine lv_istore_n (pc := 103) (lv' := [(3, .int (uv_4 + 1)), (6, .int (uq_7 - uq_3)), (5, .int uv_5), (4, .int uq_3), (2, .int uv_1), (0, .ref (G.2.1 58)), (1, .int x1)]) hx hb dX7_weakest_103 rfl hl (by decide) rfl (fun ls hl => ?_)
                refine lv_iinc (pc := 104) (v := (uv_5 + 1)) (lv' := [(5, .int (uv_5 + 1)), (3, .int (uv_4 + 1)), (6, .int (uq_7 - uq_3)), (4, .int uq_3), (2, .int uv_1), (0, .ref (G.2.1 58)), (1, .int x1)]) hx hb dX7_weakest_104 hl (k := 2) rfl rfl (by decide) rfl (fun ls hl => ?_)
                refine lv_goto (pc := 107) (tgt := 40) hx hb dX7_weakest_107 (by decide) ?_
                exact ih2 _ _ _ _ _ _ (lv_sub hl [0, 3, 1, 4, 5, 6] rfl) hw hF hK2
              refine lv_iload (pc := 86) hx hb dX7_weakest_86 (lv_at hl 0 rfl) ?_
              refine gx_if_ne (pc := 88) (tgt := 101) hx hb hF dX7_weakest_88 (by decide) (fun hF => ?_) (fun hF => ?_)
              · refine lv_iconst (pc := 101) (v := 0) hx hb dX7_weakest_101 (by decide) ?_
                refine lv_iadd (pc := 102) hx hb dX7_weakest_102 ?_
                refine lv_istore_n (pc := 103) (lv' := [(3, .int (uv_4 + 0)), (6, .int (uq_7 - uq_3)), (5, .int uv_5), (4, .int uq_3), (2, .int uv_1), (0, .ref (G.2.1 58)), (1, .int x1)]) hx hb dX7_weakest_103 rfl hl (by decide) rfl (fun ls hl => ?_)
                refine lv_iinc (pc := 104) (v := (uv_5 + 1)) (lv' := [(5, .int (uv_5 + 1)), (3, .int (uv_4 + 0)), (6, .int (uq_7 - uq_3)), (4, .int uq_3), (2, .int uv_1), (0, .ref (G.2.1 58)), (1, .int x1)]) hx hb dX7_weakest_104 hl (k := 2) rfl rfl (by decide) rfl (fun ls hl => ?_)
                refine lv_goto (pc := 107) (tgt := 40) hx hb dX7_weakest_107 (by decide) ?_
                exact ih2 _ _ _ _ _ _ (lv_sub hl [0, 3, 1, 4, 5, 6] rfl) hw hF hK2
              refine lv_iload (pc := 91) hx hb dX7_weakest_91 (lv_at hl 1 rfl) ?_
              refine lv_iload_n (pc := 93) hx hb dX7_weakest_93 rfl (lv_at hl 4 rfl) ?_
              refine gx_icmp_ge (pc := 94) (tgt := 101) hx hb hF dX7_weakest_94 (by decide) (fun hF => ?_) (fun hF => ?_)
              · refine lv_iconst (pc := 101) (v := 0) hx hb dX7_weakest_101 (by decide) ?_
                refine lv_iadd (pc := 102) hx hb dX7_weakest_102 ?_
                refine lv_istore_n (pc := 103) (lv' := [(3, .int (uv_4 + 0)), (6, .int (uq_7 - uq_3)), (5, .int uv_5), (4, .int uq_3), (2, .int uv_1), (0, .ref (G.2.1 58)), (1, .int x1)]) hx hb dX7_weakest_103 rfl hl (by decide) rfl (fun ls hl => ?_)
                refine lv_iinc (pc := 104) (v := (uv_5 + 1)) (lv' := [(5, .int (uv_5 + 1)), (3, .int (uv_4 + 0)), (6, .int (uq_7 - uq_3)), (4, .int uq_3), (2, .int uv_1), (0, .ref (G.2.1 58)), (1, .int x1)]) hx hb dX7_weakest_104 hl (k := 2) rfl rfl (by decide) rfl (fun ls hl => ?_)
                refine lv_goto (pc := 107) (tgt := 40) hx hb dX7_weakest_107 (by decide) ?_
                exact ih2 _ _ _ _ _ _ (lv_sub hl [0, 3, 1, 4, 5, 6] rfl) hw hF hK2
              refine lv_iconst (pc := 97) (v := 1) hx hb dX7_weakest_97 (by decide) ?_
              refine lv_goto (pc := 98) (tgt := 102) hx hb dX7_weakest_98 (by decide) ?_
              refine lv_iadd (pc := 102) hx hb dX7_weakest_102 ?_
              refine lv_istore_n (pc := 103) (lv' := [(3, .int (uv_4 + 1)), (6, .int (uq_7 - uq_3)), (5, .int uv_5), (4, .int uq_3), (2, .int uv_1), (0, .ref (G.2.1 58)), (1, .int x1)]) hx hb dX7_weakest_103 rfl hl (by decide) rfl (fun ls hl => ?_)
              refine lv_iinc (pc := 104) (v := (uv_5 + 1)) (lv' := [(5, .int (uv_5 + 1)), (3, .int (uv_4 + 1)), (6, .int (uq_7 - uq_3)), (4, .int uq_3), (2, .int uv_1), (0, .ref (G.2.1 58)), (1, .int x1)]) hx hb dX7_weakest_104 hl (k := 2) rfl rfl (by decide) rfl (fun ls hl => ?_)
              refine lv_goto (pc := 107) (tgt := 40) hx hb dX7_weakest_107 (by decide) ?_
              exact ih2 _ _ _ _ _ _ (lv_sub hl [0, 3, 1, 4, 5, 6] rfl) hw hF hK2
            refine lv_goto (pc := 56) (tgt := 104) hx hb dX7_weakest_56 (by decide) ?_
            refine lv_iinc (pc := 104) (v := (uv_5 + 1)) (lv' := [(5, .int (uv_5 + 1)), (4, .int uq_3), (3, .int uv_4), (2, .int uv_1), (0, .ref (G.2.1 58)), (1, .int x1)]) hx hb dX7_weakest_104 hl (k := 0) rfl rfl (by decide) rfl (fun ls hl => ?_)
            refine lv_goto (pc := 107) (tgt := 40) hx hb dX7_weakest_107 (by decide) ?_
            exact ih2 _ _ _ _ _ _ (lv_sub hl [0, 1, 2, 3, 4, 5] rfl) hw hF hK2
        refine L2 1000 _ _ _ _ _ _ hl hw hF (fun uv_8 uv_9 H locs ls hl hw hF => ?_)
        refine lv_iload_n (pc := 110) hx hb dX7_weakest_110 rfl (lv_at hl 2 rfl) ?_
        refine lv_iload_n (pc := 111) hx hb dX7_weakest_111 rfl (lv_at hl 5 rfl) ?_
        refine gx_icmp_eq (pc := 112) (tgt := 118) hx hb hF dX7_weakest_112 (by decide) (fun hF => ?_) (fun hF => ?_)
        · refine lv_aload_n (pc := 118) hx hb dX7_weakest_118 rfl (lv_at hl 4 rfl) ?_
          refine lv_iconst (pc := 119) (v := 0) hx hb dX7_weakest_119 (by decide) ?_
          refine gp_X7_9 (pc := 120) hx hb hown hV hw (gw_1027 hV) dX7_weakest_120 (fun H locs hw => ?_)
          refine lv_iload_n (pc := 123) hx hb dX7_weakest_123 rfl (lv_at hl 3 rfl) ?_
          cases hF
          exact gx_iret hx hb hr hlocks hw dX7_weakest_124
        refine lv_goto (pc := 115) (tgt := 125) hx hb dX7_weakest_115 (by decide) ?_
        refine lv_iinc (pc := 125) (v := (uv_1 + 1)) (lv' := [(2, .int (uv_1 + 1)), (5, .int uv_9), (4, .int uq_3), (3, .int uv_8), (0, .ref (G.2.1 58)), (1, .int x1)]) hx hb dX7_weakest_125 hl (k := 3) rfl rfl (by decide) rfl (fun ls hl => ?_)
        refine lv_goto (pc := 128) (tgt := 2) hx hb dX7_weakest_128 (by decide) ?_
        exact ih1 _ _ _ _ _ (lv_sub hl [0, 4, 5] rfl) hw hF hK1
      refine lv_goto (pc := 16) (tgt := 125) hx hb dX7_weakest_16 (by decide) ?_
      refine lv_iinc (pc := 125) (v := (uv_1 + 1)) (lv' := [(2, .int (uv_1 + 1)), (0, .ref (G.2.1 58)), (1, .int x1)]) hx hb dX7_weakest_125 hl (k := 0) rfl rfl (by decide) rfl (fun ls hl => ?_)
      refine lv_goto (pc := 128) (tgt := 2) hx hb dX7_weakest_128 (by decide) ?_
      exact ih1 _ _ _ _ _ (lv_sub hl [0, 1, 2] rfl) hw hF hK1
  refine L1 1000 _ _ _ _ _ hl hw hF (fun uv_10 H locs ls hl hw hF => ?_)
  refine lv_aload_n (pc := 131) hx hb dX7_weakest_131 rfl (lv_at hl 1 rfl) ?_
  refine lv_iconst (pc := 132) (v := 1) hx hb dX7_weakest_132 (by decide) ?_
  refine gp_X7_9 (pc := 133) hx hb hown hV hw (gw_1027 hV) dX7_weakest_133 (fun H locs hw => ?_)
  refine lv_iconst (pc := 136) (v := 0) hx hb dX7_weakest_136 (by decide) ?_
  cases hF
  exact gx_iret hx hb hr hlocks hw dX7_weakest_137
set_option maxRecDepth 100000 in
theorem cl_X7_weakest {l : Launch} {G : gx_G} {C : gx_S} {o : Int64} {d : UInt64} {I V : gx_F} {p : Program} {e : Env} {R : Room} {s : State} {m : MethodId} {args : Array Value} {below : List Frame} {meth : Method} {c : Code} {H : Heap} {locs : List Loc} {cells slots : Nat} {Q : State → Prop} {cc : ByteArray} {pc nL index : Nat} {ls : Array Slot} {rest : List Value} {own : String} {x1 : Int32} {out : (Int32 × gx_F × gx_F)} (hx : p.tables.exec = Jvm.exec) (hb : c.code = cc) (hml : c.maxLocals = nL) (hown : s.vm.findClass own = some m.cls) (hV : gx_V G s) (hw : gx_at G C (I, V) o d s.heap H locs) (hF : f_X7_weakest x1 I V = some out) (hlink : (Cond.methodLink own index yX7_weakest).before args s = true) (hsz : ls.size = nL) (hfr : 4 ≤ R.frames) (hlo : 97 ≤ R.locals) (hrest : (rest.map fun v => v.category).sum ≤ 8) (hdg : decode cc pc = .ok (.invokevirtual index, 3))
    (kk : ∀ (H1 : Heap) (locs1 : List Loc), gx_at G C (out.2.1, out.2.2) o d s.heap H1 locs1 → W p l e R s m args below meth c H1 locs1 cells slots Q (F0 m (pc + 3) ls (.int out.1 :: rest))) (hc : cells ≤ R.cells := by exact Nat.zero_le _) (hs : slots ≤ R.slots := by exact Nat.zero_le _) : W p l e R s m args below meth c H locs cells slots Q (F0 m pc ls (.int x1 :: .ref (G.2.1 58) :: rest)) :=
  gx_runi hw (va_runV (C := RX7) (As := [.int x1]) (rest := rest) ⟨hx, hb, hml, hown, (fun _ h => nomatch h : ∀ w ∈ ([] : List Cond), w.before args s = true)⟩ (k_X7_weakest hF) ⟨gx_callB (n := 1) rfl rfl hlink (gw_56 hV) (gw_1280 hV) (by decide +kernel) ⟨hfr, hlo⟩, gw_1278 hV, gw_1279 hV⟩ (gx_recv (k := 58) (ci := 9) (T := TX7) hV hw (by decide) rfl rfl) rfl rfl hsz rfl (lv_room hrest) hdg ⟨hc, hs⟩) kk
set_option maxHeartbeats 4000000 in
set_option maxRecDepth 100000 in
theorem k_X7_append {l : Launch} {G : gx_G} {C : gx_S} {o : Int64} {d : UInt64} {I V : gx_F} {x1 : Int32} {out : (Int32 × gx_F × gx_F)} (hF : f_X7_append x1 I V = some out) : gx_K l yX7_append cX7_append 2 (some .int) { frames := 1, cells := 0, slots := 0, locals := 21 } [.ref (G.2.1 58), .int x1] G C (I, V) o d (gx_Qi G out.1 C (out.2.1, out.2.2) o d) 0 0 := by
  refine gx_begin (by decide +kernel) (Nat.le_of_ble_eq_true rfl) ?_
  intro p e s m below meth c hx hb hr hml hown hlocks hV hw ls hl
  have hown : s.vm.findClass RX7 = some m.cls := hown
  have hl : lv_has ls 2 [(0, .ref (G.2.1 58)), (1, .int x1)] := hl
  unfold f_X7_append at hF
  refine lv_aload_n (pc := 0) hx hb dX7_append_0 rfl (lv_at hl 0 rfl) ?_
  refine lv_aload_n (pc := 1) hx hb dX7_append_1 rfl (lv_at hl 0 rfl) ?_
  refine gg_X7_14 (pc := 2) hx hb hown hV hw (gw_1032 hV) dX7_append_2 ?_
  refine lv_bipush (pc := 5) (v := 60) hx hb dX7_append_5 (by decide) ?_
  refine gx_icmp_ne (pc := 7) (tgt := 14) hx hb hF dX7_append_7 (by decide) (fun hF => ?_) (fun hF => ?_)
  · refine lv_iconst (pc := 14) (v := 0) hx hb dX7_append_14 (by decide) ?_
    obtain ⟨uq_1, huq_1, hF⟩ := Option.bind_eq_some_iff.mp hF
    refine cl_X7_fails (pc := 15) hx hb hml hown hV hw huq_1 (gw_1193 hV) hl.1 (Nat.le_of_ble_eq_true rfl) (Nat.le_of_ble_eq_true rfl) (Nat.le_of_ble_eq_true rfl) dX7_append_15 (fun H locs hw => ?_)
    refine gx_if_eq (pc := 18) (tgt := 23) hx hb hF dX7_append_18 (by decide) (fun hF => ?_) (fun hF => ?_)
    · refine lv_aload_n (pc := 23) hx hb dX7_append_23 rfl (lv_at hl 0 rfl) ?_
      refine gg_X7_13 (pc := 24) hx hb hown hV hw (gw_1031 hV) dX7_append_24 ?_
      refine lv_aload_n (pc := 27) hx hb dX7_append_27 rfl (lv_at hl 0 rfl) ?_
      refine gg_X7_14 (pc := 28) hx hb hown hV hw (gw_1032 hV) dX7_append_28 ?_
      refine lv_iload_n (pc := 31) hx hb dX7_append_31 rfl (lv_at hl 1 rfl) ?_
      refine ga_64_st (pc := 32) hx hb hV hw hF dX7_append_32 (fun H locs hw hF => ?_)
      refine lv_aload_n (pc := 33) hx hb dX7_append_33 rfl (lv_at hl 0 rfl) ?_
      refine lv_dup (pc := 34) hx hb dX7_append_34 rfl ?_
      refine gg_X7_14 (pc := 35) hx hb hown hV hw (gw_1032 hV) dX7_append_35 ?_
      refine lv_iconst (pc := 38) (v := 1) hx hb dX7_append_38 (by decide) ?_
      refine lv_iadd (pc := 39) hx hb dX7_append_39 ?_
      refine gp_X7_14 (pc := 40) hx hb hown hV hw (gw_1032 hV) dX7_append_40 (fun H locs hw => ?_)
      refine lv_aload_n (pc := 43) hx hb dX7_append_43 rfl (lv_at hl 0 rfl) ?_
      refine gg_X7_14 (pc := 44) hx hb hown hV hw (gw_1032 hV) dX7_append_44 ?_
      cases hF
      exact gx_iret hx hb hr hlocks hw dX7_append_47
    refine lv_iconst (pc := 21) (v := 0) hx hb dX7_append_21 (by decide) ?_
    cases hF
    exact gx_iret hx hb hr hlocks hw dX7_append_22
  refine lv_iconst (pc := 10) (v := 1) hx hb dX7_append_10 (by decide) ?_
  refine lv_goto (pc := 11) (tgt := 15) hx hb dX7_append_11 (by decide) ?_
  obtain ⟨uq_2, huq_2, hF⟩ := Option.bind_eq_some_iff.mp hF
  refine cl_X7_fails (pc := 15) hx hb hml hown hV hw huq_2 (gw_1193 hV) hl.1 (Nat.le_of_ble_eq_true rfl) (Nat.le_of_ble_eq_true rfl) (Nat.le_of_ble_eq_true rfl) dX7_append_15 (fun H locs hw => ?_)
  refine gx_if_eq (pc := 18) (tgt := 23) hx hb hF dX7_append_18 (by decide) (fun hF => ?_) (fun hF => ?_)
  · refine lv_aload_n (pc := 23) hx hb dX7_append_23 rfl (lv_at hl 0 rfl) ?_
    refine gg_X7_13 (pc := 24) hx hb hown hV hw (gw_1031 hV) dX7_append_24 ?_
    refine lv_aload_n (pc := 27) hx hb dX7_append_27 rfl (lv_at hl 0 rfl) ?_
    refine gg_X7_14 (pc := 28) hx hb hown hV hw (gw_1032 hV) dX7_append_28 ?_
    refine lv_iload_n (pc := 31) hx hb dX7_append_31 rfl (lv_at hl 1 rfl) ?_
    refine ga_64_st (pc := 32) hx hb hV hw hF dX7_append_32 (fun H locs hw hF => ?_)
    refine lv_aload_n (pc := 33) hx hb dX7_append_33 rfl (lv_at hl 0 rfl) ?_
    refine lv_dup (pc := 34) hx hb dX7_append_34 rfl ?_
    refine gg_X7_14 (pc := 35) hx hb hown hV hw (gw_1032 hV) dX7_append_35 ?_
    refine lv_iconst (pc := 38) (v := 1) hx hb dX7_append_38 (by decide) ?_
    refine lv_iadd (pc := 39) hx hb dX7_append_39 ?_
    refine gp_X7_14 (pc := 40) hx hb hown hV hw (gw_1032 hV) dX7_append_40 (fun H locs hw => ?_)
    refine lv_aload_n (pc := 43) hx hb dX7_append_43 rfl (lv_at hl 0 rfl) ?_
    refine gg_X7_14 (pc := 44) hx hb hown hV hw (gw_1032 hV) dX7_append_44 ?_
    cases hF
    exact gx_iret hx hb hr hlocks hw dX7_append_47
  refine lv_iconst (pc := 21) (v := 0) hx hb dX7_append_21 (by decide) ?_
  cases hF
  exact gx_iret hx hb hr hlocks hw dX7_append_22
set_option maxRecDepth 100000 in
theorem cl_X7_append {l : Launch} {G : gx_G} {C : gx_S} {o : Int64} {d : UInt64} {I V : gx_F} {p : Program} {e : Env} {R : Room} {s : State} {m : MethodId} {args : Array Value} {below : List Frame} {meth : Method} {c : Code} {H : Heap} {locs : List Loc} {cells slots : Nat} {Q : State → Prop} {cc : ByteArray} {pc nL index : Nat} {ls : Array Slot} {rest : List Value} {own : String} {x1 : Int32} {out : (Int32 × gx_F × gx_F)} (hx : p.tables.exec = Jvm.exec) (hb : c.code = cc) (hml : c.maxLocals = nL) (hown : s.vm.findClass own = some m.cls) (hV : gx_V G s) (hw : gx_at G C (I, V) o d s.heap H locs) (hF : f_X7_append x1 I V = some out) (hlink : (Cond.methodLink own index yX7_append).before args s = true) (hsz : ls.size = nL) (hfr : 2 ≤ R.frames) (hlo : 42 ≤ R.locals) (hrest : (rest.map fun v => v.category).sum ≤ 8) (hdg : decode cc pc = .ok (.invokevirtual index, 3))
    (kk : ∀ (H1 : Heap) (locs1 : List Loc), gx_at G C (out.2.1, out.2.2) o d s.heap H1 locs1 → W p l e R s m args below meth c H1 locs1 cells slots Q (F0 m (pc + 3) ls (.int out.1 :: rest))) (hc : cells ≤ R.cells := by exact Nat.zero_le _) (hs : slots ≤ R.slots := by exact Nat.zero_le _) : W p l e R s m args below meth c H locs cells slots Q (F0 m pc ls (.int x1 :: .ref (G.2.1 58) :: rest)) :=
  gx_runi hw (va_runV (C := RX7) (As := [.int x1]) (rest := rest) ⟨hx, hb, hml, hown, (fun _ h => nomatch h : ∀ w ∈ ([] : List Cond), w.before args s = true)⟩ (k_X7_append hF) ⟨gx_callB (n := 1) rfl rfl hlink (gw_56 hV) (gw_1284 hV) (by decide +kernel) ⟨hfr, hlo⟩, gw_1282 hV, gw_1283 hV⟩ (gx_recv (k := 58) (ci := 9) (T := TX7) hV hw (by decide) rfl rfl) rfl rfl hsz rfl (lv_room hrest) hdg ⟨hc, hs⟩) kk
set_option maxHeartbeats 4000000 in
set_option maxRecDepth 100000 in
theorem k_X7_here {l : Launch} {G : gx_G} {C : gx_S} {o : Int64} {d : UInt64} {I V : gx_F} {out : Int32} (hF : f_X7_here I V = some out) : gx_K l yX7_here cX7_here 1 (some .int) { frames := 0, cells := 0, slots := 0, locals := 0 } [.ref (G.2.1 58)] G C (I, V) o d (gx_Qi G out C (I, V) o d) 0 0 := by
  refine gx_begin (by decide +kernel) (Nat.le_of_ble_eq_true rfl) ?_
  intro p e s m below meth c hx hb hr hml hown hlocks hV hw ls hl
  have hown : s.vm.findClass RX7 = some m.cls := hown
  have hl : lv_has ls 1 [(0, .ref (G.2.1 58))] := hl
  unfold f_X7_here at hF
  refine lv_aload_n (pc := 0) hx hb dX7_here_0 rfl (lv_at hl 0 rfl) ?_
  refine gg_X7_19 (pc := 1) hx hb hown hV hw (gw_1037 hV) dX7_here_1 ?_
  refine lv_aload_n (pc := 4) hx hb dX7_here_4 rfl (lv_at hl 0 rfl) ?_
  refine gg_X7_14 (pc := 5) hx hb hown hV hw (gw_1032 hV) dX7_here_5 ?_
  refine gx_icmp_ge (pc := 8) (tgt := 23) hx hb hF dX7_here_8 (by decide) (fun hF => ?_) (fun hF => ?_)
  · refine lv_iconst (pc := 23) (v := (-1)) hx hb dX7_here_23 (by decide) ?_
    cases hF
    exact gx_iret hx hb hr hlocks hw dX7_here_24
  refine lv_aload_n (pc := 11) hx hb dX7_here_11 rfl (lv_at hl 0 rfl) ?_
  refine gg_X7_13 (pc := 12) hx hb hown hV hw (gw_1031 hV) dX7_here_12 ?_
  refine lv_aload_n (pc := 15) hx hb dX7_here_15 rfl (lv_at hl 0 rfl) ?_
  refine gg_X7_19 (pc := 16) hx hb hown hV hw (gw_1037 hV) dX7_here_16 ?_
  refine ga_64_ld (pc := 19) hx hb hV hw hF dX7_here_19 (fun _ hF => ?_)
  refine lv_goto (pc := 20) (tgt := 24) hx hb dX7_here_20 (by decide) ?_
  cases hF
  exact gx_iret hx hb hr hlocks hw dX7_here_24
set_option maxRecDepth 100000 in
theorem cl_X7_here {l : Launch} {G : gx_G} {C : gx_S} {o : Int64} {d : UInt64} {I V : gx_F} {p : Program} {e : Env} {R : Room} {s : State} {m : MethodId} {args : Array Value} {below : List Frame} {meth : Method} {c : Code} {H : Heap} {locs : List Loc} {cells slots : Nat} {Q : State → Prop} {cc : ByteArray} {pc nL index : Nat} {ls : Array Slot} {rest : List Value} {own : String} {out : Int32} (hx : p.tables.exec = Jvm.exec) (hb : c.code = cc) (hml : c.maxLocals = nL) (hown : s.vm.findClass own = some m.cls) (hV : gx_V G s) (hw : gx_at G C (I, V) o d s.heap H locs) (hF : f_X7_here I V = some out) (hlink : (Cond.methodLink own index yX7_here).before args s = true) (hsz : ls.size = nL) (hfr : 1 ≤ R.frames) (hlo : 20 ≤ R.locals) (hrest : (rest.map fun v => v.category).sum ≤ 8) (hdg : decode cc pc = .ok (.invokevirtual index, 3))
    (kk : ∀ (H1 : Heap) (locs1 : List Loc), gx_at G C (I, V) o d s.heap H1 locs1 → W p l e R s m args below meth c H1 locs1 cells slots Q (F0 m (pc + 3) ls (.int out :: rest))) (hc : cells ≤ R.cells := by exact Nat.zero_le _) (hs : slots ≤ R.slots := by exact Nat.zero_le _) : W p l e R s m args below meth c H locs cells slots Q (F0 m pc ls (.ref (G.2.1 58) :: rest)) :=
  gx_runi hw (va_runV (C := RX7) (As := []) (rest := rest) ⟨hx, hb, hml, hown, (fun _ h => nomatch h : ∀ w ∈ ([] : List Cond), w.before args s = true)⟩ (k_X7_here hF) ⟨gx_callB (n := 0) rfl rfl hlink (gw_56 hV) (gw_1300 hV) (by decide +kernel) ⟨hfr, hlo⟩, gw_1299 hV, gw_41 hV⟩ (gx_recv (k := 58) (ci := 9) (T := TX7) hV hw (by decide) rfl rfl) rfl rfl hsz rfl (lv_room hrest) hdg ⟨hc, hs⟩) kk
set_option maxHeartbeats 4000000 in
set_option maxRecDepth 100000 in
theorem k_X7_skips {l : Launch} {G : gx_G} {C : gx_S} {o : Int64} {d : UInt64} {I V : gx_F} {x1 : Int32} {out : (Bool × gx_F × gx_F)} (hF : f_X7_skips x1 I V = some out) : gx_K l yX7_skips cX7_skips 2 (some .boolean) { frames := 1, cells := 0, slots := 0, locals := 20 } [.ref (G.2.1 58), .int x1] G C (I, V) o d (gx_Qi G (gx_bi out.1) C (out.2.1, out.2.2) o d) 0 0 := by
  refine gx_begin (by decide +kernel) (Nat.le_of_ble_eq_true rfl) ?_
  intro p e s m below meth c hx hb hr hml hown hlocks hV hw ls hl
  have hown : s.vm.findClass RX7 = some m.cls := hown
  have hl : lv_has ls 2 [(0, .ref (G.2.1 58)), (1, .int x1)] := hl
  unfold f_X7_skips at hF
  refine lv_aload_n (pc := 0) hx hb dX7_skips_0 rfl (lv_at hl 0 rfl) ?_
  obtain ⟨uq_1, huq_1, hF⟩ := Option.bind_eq_some_iff.mp hF
  refine cl_X7_here (pc := 1) hx hb hml hown hV hw huq_1 (gw_1297 hV) hl.1 (Nat.le_of_ble_eq_true rfl) (Nat.le_of_ble_eq_true rfl) (Nat.le_of_ble_eq_true rfl) dX7_skips_1 (fun H locs hw => ?_)
  refine lv_iload_n (pc := 4) hx hb dX7_skips_4 rfl (lv_at hl 1 rfl) ?_
  refine gx_icmp_eq (pc := 5) (tgt := 10) hx hb hF dX7_skips_5 (by decide) (fun hF => ?_) (fun hF => ?_)
  · refine lv_aload_n (pc := 10) hx hb dX7_skips_10 rfl (lv_at hl 0 rfl) ?_
    refine lv_dup (pc := 11) hx hb dX7_skips_11 rfl ?_
    refine gg_X7_19 (pc := 12) hx hb hown hV hw (gw_1037 hV) dX7_skips_12 ?_
    refine lv_iconst (pc := 15) (v := 1) hx hb dX7_skips_15 (by decide) ?_
    refine lv_iadd (pc := 16) hx hb dX7_skips_16 ?_
    refine gp_X7_19 (pc := 17) hx hb hown hV hw (gw_1037 hV) dX7_skips_17 (fun H locs hw => ?_)
    refine lv_iconst (pc := 20) (v := 1) hx hb dX7_skips_20 (by decide) ?_
    cases hF
    exact gx_zret (r := gx_bi true) hx hb hr (gx_narb _) hlocks hw dX7_skips_21
  refine lv_iconst (pc := 8) (v := 0) hx hb dX7_skips_8 (by decide) ?_
  cases hF
  exact gx_zret (r := gx_bi false) hx hb hr (gx_narb _) hlocks hw dX7_skips_9
set_option maxRecDepth 100000 in
theorem cl_X7_skips {l : Launch} {G : gx_G} {C : gx_S} {o : Int64} {d : UInt64} {I V : gx_F} {p : Program} {e : Env} {R : Room} {s : State} {m : MethodId} {args : Array Value} {below : List Frame} {meth : Method} {c : Code} {H : Heap} {locs : List Loc} {cells slots : Nat} {Q : State → Prop} {cc : ByteArray} {pc nL index : Nat} {ls : Array Slot} {rest : List Value} {own : String} {x1 : Int32} {out : (Bool × gx_F × gx_F)} (hx : p.tables.exec = Jvm.exec) (hb : c.code = cc) (hml : c.maxLocals = nL) (hown : s.vm.findClass own = some m.cls) (hV : gx_V G s) (hw : gx_at G C (I, V) o d s.heap H locs) (hF : f_X7_skips x1 I V = some out) (hlink : (Cond.methodLink own index yX7_skips).before args s = true) (hsz : ls.size = nL) (hfr : 2 ≤ R.frames) (hlo : 41 ≤ R.locals) (hrest : (rest.map fun v => v.category).sum ≤ 8) (hdg : decode cc pc = .ok (.invokevirtual index, 3))
    (kk : ∀ (H1 : Heap) (locs1 : List Loc), gx_at G C (out.2.1, out.2.2) o d s.heap H1 locs1 → W p l e R s m args below meth c H1 locs1 cells slots Q (F0 m (pc + 3) ls (.int (gx_bi out.1) :: rest))) (hc : cells ≤ R.cells := by exact Nat.zero_le _) (hs : slots ≤ R.slots := by exact Nat.zero_le _) : W p l e R s m args below meth c H locs cells slots Q (F0 m pc ls (.int x1 :: .ref (G.2.1 58) :: rest)) :=
  gx_runi hw (va_runV (C := RX7) (As := [.int x1]) (rest := rest) ⟨hx, hb, hml, hown, (fun _ h => nomatch h : ∀ w ∈ ([] : List Cond), w.before args s = true)⟩ (k_X7_skips hF) ⟨gx_callB (n := 1) rfl rfl hlink (gw_56 hV) (gw_1304 hV) (by decide +kernel) ⟨hfr, hlo⟩, gw_1303 hV, gw_42 hV⟩ (gx_recv (k := 58) (ci := 9) (T := TX7) hV hw (by decide) rfl rfl) rfl rfl hsz rfl (lv_room hrest) hdg ⟨hc, hs⟩) kk
set_option maxHeartbeats 4000000 in
set_option maxRecDepth 100000 in
theorem k_X7_figures {l : Launch} {G : gx_G} {C : gx_S} {o : Int64} {d : UInt64} {I V : gx_F} {x1 : Int32} {x2 : Int32} {out : (Bool × gx_F × gx_F)} (hF : f_X7_figures x1 x2 I V = some out) : gx_K l yX7_figures cX7_figures 4 (some .boolean) { frames := 1, cells := 0, slots := 0, locals := 22 } [.ref (G.2.1 58), .int x1, .int x2] G C (I, V) o d (gx_Qi G (gx_bi out.1) C (out.2.1, out.2.2) o d) 0 0 := by
  refine gx_begin (by decide +kernel) (Nat.le_of_ble_eq_true rfl) ?_
  intro p e s m below meth c hx hb hr hml hown hlocks hV hw ls hl
  have hown : s.vm.findClass RX7 = some m.cls := hown
  have hl : lv_has ls 4 [(0, .ref (G.2.1 58)), (1, .int x1), (2, .int x2)] := hl
  unfold f_X7_figures at hF
  refine lv_aload_n (pc := 0) hx hb dX7_figures_0 rfl (lv_at hl 0 rfl) ?_
  obtain ⟨uq_1, huq_1, hF⟩ := Option.bind_eq_some_iff.mp hF
  refine cl_X7_here (pc := 1) hx hb hml hown hV hw huq_1 (gw_1297 hV) hl.1 (Nat.le_of_ble_eq_true rfl) (Nat.le_of_ble_eq_true rfl) (Nat.le_of_ble_eq_true rfl) dX7_figures_1 (fun H locs hw => ?_)
  refine lv_bipush (pc := 4) (v := 48) hx hb dX7_figures_4 (by decide) ?_
  refine lv_bipush (pc := 6) (v := 57) hx hb dX7_figures_6 (by decide) ?_
  obtain ⟨uq_2, huq_2, hF⟩ := Option.bind_eq_some_iff.mp hF
  refine cl_X7_in (pc := 8) hx hb hml hown hV hw huq_2 (gw_1093 hV) hl.1 (Nat.le_of_ble_eq_true rfl) (Nat.le_of_ble_eq_true rfl) (Nat.le_of_ble_eq_true rfl) dX7_figures_8 (fun H locs hw => ?_)
  refine gx_if_ne (pc := 11) (tgt := 16) hx hb hF dX7_figures_11 (by decide) (fun hF => ?_) (fun hF => ?_)
  · refine lv_aload_n (pc := 16) hx hb dX7_figures_16 rfl (lv_at hl 0 rfl) ?_
    refine gg_X7_20 (pc := 17) hx hb hown hV hw (gw_1038 hV) dX7_figures_17 ?_
    refine lv_iload_n (pc := 20) hx hb dX7_figures_20 rfl (lv_at hl 1 rfl) ?_
    refine lv_iconst (pc := 21) (v := 0) hx hb dX7_figures_21 (by decide) ?_
    refine ga_67_st (pc := 22) hx hb hV hw hF dX7_figures_22 (fun H locs hw hF => ?_)
    refine lv_iconst (pc := 23) (v := 0) hx hb dX7_figures_23 (by decide) ?_
    refine lv_istore_n (pc := 24) (lv' := [(3, .int 0), (0, .ref (G.2.1 58)), (1, .int x1), (2, .int x2)]) hx hb dX7_figures_24 rfl hl (by decide) rfl (fun ls hl => ?_)
    have L1 : ∀ (n : Nat) (K1 : Int32 → gx_F → gx_F → Option (Bool × gx_F × gx_F)) (uv_3 : Int32) (uI_4 : gx_F) (uV_5 : gx_F) (H : Heap) (locs : List Loc) (ls : Array Slot), lv_has ls 4 [(3, .int uv_3), (0, .ref (G.2.1 58)), (1, .int x1), (2, .int x2)] → gx_at G C (uI_4, uV_5) o d s.heap H locs → f_X7_figures_L1 x1 x2 K1 n uv_3 uI_4 uV_5 = some out → (∀ (uv_3 : Int32) (uI_4 : gx_F) (uV_5 : gx_F) (H : Heap) (locs : List Loc) (ls : Array Slot), lv_has ls 4 [(3, .int uv_3), (0, .ref (G.2.1 58)), (1, .int x1), (2, .int x2)] → gx_at G C (uI_4, uV_5) o d s.heap H locs → K1 uv_3 uI_4 uV_5 = some out → W p l e ({ frames := 1, cells := 0, slots := 0, locals := 22 } : Room) s m ([.ref (G.2.1 58), .int x1, .int x2] : List Value).toArray below meth c H locs 0 0 (MQ below (gx_Qi G (gx_bi out.1) C (out.2.1, out.2.2) o d) ([.ref (G.2.1 58), .int x1, .int x2] : List Value).toArray s 0 0 (gx_A G)) (F0 m 83 ls [])) → W p l e ({ frames := 1, cells := 0, slots := 0, locals := 22 } : Room) s m ([.ref (G.2.1 58), .int x1, .int x2] : List Value).toArray below meth c H locs 0 0 (MQ below (gx_Qi G (gx_bi out.1) C (out.2.1, out.2.2) o d) ([.ref (G.2.1 58), .int x1, .int x2] : List Value).toArray s 0 0 (gx_A G)) (F0 m 25 ls []) := by
      intro n
      induction n with
      | zero =>
        intro K1 uv_3 uI_4 uV_5 H locs ls hl hw hF hK
        rw [f_X7_figures_L1] at hF
        cases hF
      | succ n ih1 =>
        intro K1 uv_3 uI_4 uV_5 H locs ls hl hw hF hK1
        rw [f_X7_figures_L1] at hF
        refine lv_iload_n (pc := 25) hx hb dX7_figures_25 rfl (lv_at hl 0 rfl) ?_
        refine lv_iload_n (pc := 26) hx hb dX7_figures_26 rfl (lv_at hl 3 rfl) ?_
        refine gx_icmp_ge (pc := 27) (tgt := 83) hx hb hF dX7_figures_27 (by decide) (fun hF => ?_) (fun hF => ?_)
        · exact hK1 _ _ _ _ _ _ (lv_sub hl [0, 1, 2, 3] rfl) hw hF
        refine lv_aload_n (pc := 30) hx hb dX7_figures_30 rfl (lv_at hl 1 rfl) ?_
        obtain ⟨uq_6, huq_6, hF⟩ := Option.bind_eq_some_iff.mp hF
        refine cl_X7_here (pc := 31) hx hb hml hown hV hw huq_6 (gw_1297 hV) hl.1 (Nat.le_of_ble_eq_true rfl) (Nat.le_of_ble_eq_true rfl) (Nat.le_of_ble_eq_true rfl) dX7_figures_31 (fun H locs hw => ?_)
        refine lv_bipush (pc := 34) (v := 48) hx hb dX7_figures_34 (by decide) ?_
        refine lv_bipush (pc := 36) (v := 57) hx hb dX7_figures_36 (by decide) ?_
        obtain ⟨uq_7, huq_7, hF⟩ := Option.bind_eq_some_iff.mp hF
        refine cl_X7_in (pc := 38) hx hb hml hown hV hw huq_7 (gw_1093 hV) hl.1 (Nat.le_of_ble_eq_true rfl) (Nat.le_of_ble_eq_true rfl) (Nat.le_of_ble_eq_true rfl) dX7_figures_38 (fun H locs hw => ?_)
        refine gx_if_eq (pc := 41) (tgt := 83) hx hb hF dX7_figures_41 (by decide) (fun hF => ?_) (fun hF => ?_)
        · exact hK1 _ _ _ _ _ _ (lv_sub hl [0, 1, 2, 3] rfl) hw hF
        refine lv_aload_n (pc := 44) hx hb dX7_figures_44 rfl (lv_at hl 1 rfl) ?_
        refine gg_X7_20 (pc := 45) hx hb hown hV hw (gw_1038 hV) dX7_figures_45 ?_
        refine lv_iload_n (pc := 48) hx hb dX7_figures_48 rfl (lv_at hl 2 rfl) ?_
        refine lv_bipush (pc := 49) (v := 10) hx hb dX7_figures_49 (by decide) ?_
        refine lv_aload_n (pc := 51) hx hb dX7_figures_51 rfl (lv_at hl 1 rfl) ?_
        refine gg_X7_20 (pc := 52) hx hb hown hV hw (gw_1038 hV) dX7_figures_52 ?_
        refine lv_iload_n (pc := 55) hx hb dX7_figures_55 rfl (lv_at hl 2 rfl) ?_
        refine ga_67_ld (pc := 56) hx hb hV hw hF dX7_figures_56 (fun _ hF => ?_)
        refine lv_imul (pc := 57) hx hb dX7_figures_57 ?_
        refine lv_aload_n (pc := 58) hx hb dX7_figures_58 rfl (lv_at hl 1 rfl) ?_
        obtain ⟨uq_8, huq_8, hF⟩ := Option.bind_eq_some_iff.mp hF
        refine cl_X7_here (pc := 59) hx hb hml hown hV hw huq_8 (gw_1297 hV) hl.1 (Nat.le_of_ble_eq_true rfl) (Nat.le_of_ble_eq_true rfl) (Nat.le_of_ble_eq_true rfl) dX7_figures_59 (fun H locs hw => ?_)
        refine lv_iadd (pc := 62) hx hb dX7_figures_62 ?_
        refine lv_bipush (pc := 63) (v := 48) hx hb dX7_figures_63 (by decide) ?_
        refine lv_isub (pc := 65) hx hb dX7_figures_65 ?_
        refine ga_67_st (pc := 66) hx hb hV hw hF dX7_figures_66 (fun H locs hw hF => ?_)
        refine lv_aload_n (pc := 67) hx hb dX7_figures_67 rfl (lv_at hl 1 rfl) ?_
        refine lv_dup (pc := 68) hx hb dX7_figures_68 rfl ?_
        refine gg_X7_19 (pc := 69) hx hb hown hV hw (gw_1037 hV) dX7_figures_69 ?_
        refine lv_iconst (pc := 72) (v := 1) hx hb dX7_figures_72 (by decide) ?_
        refine lv_iadd (pc := 73) hx hb dX7_figures_73 ?_
        refine gp_X7_19 (pc := 74) hx hb hown hV hw (gw_1037 hV) dX7_figures_74 (fun H locs hw => ?_)
        refine lv_iinc (pc := 77) (v := (uv_3 + 1)) (lv' := [(3, .int (uv_3 + 1)), (0, .ref (G.2.1 58)), (1, .int x1), (2, .int x2)]) hx hb dX7_figures_77 hl (k := 0) rfl rfl (by decide) rfl (fun ls hl => ?_)
        refine lv_goto (pc := 80) (tgt := 25) hx hb dX7_figures_80 (by decide) ?_
        exact ih1 _ _ _ _ _ _ _ (lv_sub hl [0, 1, 2, 3] rfl) hw hF hK1
    refine L1 1000 _ _ _ _ _ _ _ hl hw hF (fun uv_9 uI_10 uV_11 H locs ls hl hw hF => ?_)
    refine lv_iconst (pc := 83) (v := 1) hx hb dX7_figures_83 (by decide) ?_
    cases hF
    exact gx_zret (r := gx_bi true) hx hb hr (gx_narb _) hlocks hw dX7_figures_84
  refine lv_iconst (pc := 14) (v := 0) hx hb dX7_figures_14 (by decide) ?_
  cases hF
  exact gx_zret (r := gx_bi false) hx hb hr (gx_narb _) hlocks hw dX7_figures_15
set_option maxRecDepth 100000 in
theorem cl_X7_figures {l : Launch} {G : gx_G} {C : gx_S} {o : Int64} {d : UInt64} {I V : gx_F} {p : Program} {e : Env} {R : Room} {s : State} {m : MethodId} {args : Array Value} {below : List Frame} {meth : Method} {c : Code} {H : Heap} {locs : List Loc} {cells slots : Nat} {Q : State → Prop} {cc : ByteArray} {pc nL index : Nat} {ls : Array Slot} {rest : List Value} {own : String} {x1 : Int32} {x2 : Int32} {out : (Bool × gx_F × gx_F)} (hx : p.tables.exec = Jvm.exec) (hb : c.code = cc) (hml : c.maxLocals = nL) (hown : s.vm.findClass own = some m.cls) (hV : gx_V G s) (hw : gx_at G C (I, V) o d s.heap H locs) (hF : f_X7_figures x1 x2 I V = some out) (hlink : (Cond.methodLink own index yX7_figures).before args s = true) (hsz : ls.size = nL) (hfr : 2 ≤ R.frames) (hlo : 45 ≤ R.locals) (hrest : (rest.map fun v => v.category).sum ≤ 8) (hdg : decode cc pc = .ok (.invokevirtual index, 3))
    (kk : ∀ (H1 : Heap) (locs1 : List Loc), gx_at G C (out.2.1, out.2.2) o d s.heap H1 locs1 → W p l e R s m args below meth c H1 locs1 cells slots Q (F0 m (pc + 3) ls (.int (gx_bi out.1) :: rest))) (hc : cells ≤ R.cells := by exact Nat.zero_le _) (hs : slots ≤ R.slots := by exact Nat.zero_le _) : W p l e R s m args below meth c H locs cells slots Q (F0 m pc ls (.int x2 :: .int x1 :: .ref (G.2.1 58) :: rest)) :=
  gx_runi hw (va_runV (C := RX7) (As := [.int x1, .int x2]) (rest := rest) ⟨hx, hb, hml, hown, (fun _ h => nomatch h : ∀ w ∈ ([] : List Cond), w.before args s = true)⟩ (k_X7_figures hF) ⟨gx_callB (n := 2) rfl rfl hlink (gw_56 hV) (gw_1308 hV) (by decide +kernel) ⟨hfr, hlo⟩, gw_1307 hV, gw_43 hV⟩ (gx_recv (k := 58) (ci := 9) (T := TX7) hV hw (by decide) rfl rfl) rfl rfl hsz rfl (lv_room hrest) hdg ⟨hc, hs⟩) kk
set_option maxHeartbeats 4000000 in
set_option maxRecDepth 100000 in
theorem k_X7_layHere {l : Launch} {G : gx_G} {C : gx_S} {o : Int64} {d : UInt64} {I V : gx_F} {x1 : Int32} {out : (Bool × gx_F × gx_F)} (hF : f_X7_layHere x1 I V = some out) : gx_K l yX7_layHere cX7_layHere 2 (some .boolean) { frames := 2, cells := 0, slots := 0, locals := 45 } [.ref (G.2.1 58), .int x1] G C (I, V) o d (gx_Qi G (gx_bi out.1) C (out.2.1, out.2.2) o d) 0 0 := by
  refine gx_begin (by decide +kernel) (Nat.le_of_ble_eq_true rfl) ?_
  intro p e s m below meth c hx hb hr hml hown hlocks hV hw ls hl
  have hown : s.vm.findClass RX7 = some m.cls := hown
  have hl : lv_has ls 2 [(0, .ref (G.2.1 58)), (1, .int x1)] := hl
  unfold f_X7_layHere at hF
  refine lv_aload_n (pc := 0) hx hb dX7_layHere_0 rfl (lv_at hl 0 rfl) ?_
  refine lv_iload_n (pc := 1) hx hb dX7_layHere_1 rfl (lv_at hl 1 rfl) ?_
  refine lv_iconst (pc := 2) (v := 1) hx hb dX7_layHere_2 (by decide) ?_
  refine lv_iadd (pc := 3) hx hb dX7_layHere_3 ?_
  refine lv_iconst (pc := 4) (v := 2) hx hb dX7_layHere_4 (by decide) ?_
  obtain ⟨uq_1, huq_1, hF⟩ := Option.bind_eq_some_iff.mp hF
  refine cl_X7_figures (pc := 5) hx hb hml hown hV hw huq_1 (gw_1305 hV) hl.1 (Nat.le_of_ble_eq_true rfl) (Nat.le_of_ble_eq_true rfl) (Nat.le_of_ble_eq_true rfl) dX7_layHere_5 (fun H locs hw => ?_)
  refine gx_if_eq (pc := 8) (tgt := 31) hx hb hF dX7_layHere_8 (by decide) (fun hF => ?_) (fun hF => ?_)
  · refine lv_iconst (pc := 31) (v := 0) hx hb dX7_layHere_31 (by decide) ?_
    cases hF
    exact gx_zret (r := gx_bi false) hx hb hr (gx_narb _) hlocks hw dX7_layHere_32
  refine lv_aload_n (pc := 11) hx hb dX7_layHere_11 rfl (lv_at hl 0 rfl) ?_
  refine lv_bipush (pc := 12) (v := 58) hx hb dX7_layHere_12 (by decide) ?_
  obtain ⟨uq_2, huq_2, hF⟩ := Option.bind_eq_some_iff.mp hF
  refine cl_X7_skips (pc := 14) hx hb hml hown hV hw huq_2 (gw_1301 hV) hl.1 (Nat.le_of_ble_eq_true rfl) (Nat.le_of_ble_eq_true rfl) (Nat.le_of_ble_eq_true rfl) dX7_layHere_14 (fun H locs hw => ?_)
  refine gx_if_eq (pc := 17) (tgt := 31) hx hb hF dX7_layHere_17 (by decide) (fun hF => ?_) (fun hF => ?_)
  · refine lv_iconst (pc := 31) (v := 0) hx hb dX7_layHere_31 (by decide) ?_
    cases hF
    exact gx_zret (r := gx_bi false) hx hb hr (gx_narb _) hlocks hw dX7_layHere_32
  refine lv_aload_n (pc := 20) hx hb dX7_layHere_20 rfl (lv_at hl 0 rfl) ?_
  refine lv_iload_n (pc := 21) hx hb dX7_layHere_21 rfl (lv_at hl 1 rfl) ?_
  refine lv_iconst (pc := 22) (v := 2) hx hb dX7_layHere_22 (by decide) ?_
  refine lv_iadd (pc := 23) hx hb dX7_layHere_23 ?_
  refine lv_iconst (pc := 24) (v := 1) hx hb dX7_layHere_24 (by decide) ?_
  obtain ⟨uq_3, huq_3, hF⟩ := Option.bind_eq_some_iff.mp hF
  refine cl_X7_figures (pc := 25) hx hb hml hown hV hw huq_3 (gw_1305 hV) hl.1 (Nat.le_of_ble_eq_true rfl) (Nat.le_of_ble_eq_true rfl) (Nat.le_of_ble_eq_true rfl) dX7_layHere_25 (fun H locs hw => ?_)
  refine gx_if_ne (pc := 28) (tgt := 33) hx hb hF dX7_layHere_28 (by decide) (fun hF => ?_) (fun hF => ?_)
  · refine lv_aload_n (pc := 33) hx hb dX7_layHere_33 rfl (lv_at hl 0 rfl) ?_
    refine gg_X7_20 (pc := 34) hx hb hown hV hw (gw_1038 hV) dX7_layHere_34 ?_
    refine lv_iload_n (pc := 37) hx hb dX7_layHere_37 rfl (lv_at hl 1 rfl) ?_
    refine lv_iconst (pc := 38) (v := 3) hx hb dX7_layHere_38 (by decide) ?_
    refine lv_iadd (pc := 39) hx hb dX7_layHere_39 ?_
    refine lv_iconst (pc := 40) (v := 0) hx hb dX7_layHere_40 (by decide) ?_
    refine ga_67_st (pc := 41) hx hb hV hw hF dX7_layHere_41 (fun H locs hw hF => ?_)
    have L1 : ∀ (n : Nat) (K1 : gx_F → gx_F → Option (Bool × gx_F × gx_F)) (uI_4 : gx_F) (uV_5 : gx_F) (H : Heap) (locs : List Loc) (ls : Array Slot), lv_has ls 2 [(0, .ref (G.2.1 58)), (1, .int x1)] → gx_at G C (uI_4, uV_5) o d s.heap H locs → f_X7_layHere_L1 x1 K1 n uI_4 uV_5 = some out → (∀ (uI_4 : gx_F) (uV_5 : gx_F) (H : Heap) (locs : List Loc) (ls : Array Slot), lv_has ls 2 [(0, .ref (G.2.1 58)), (1, .int x1)] → gx_at G C (uI_4, uV_5) o d s.heap H locs → K1 uI_4 uV_5 = some out → W p l e ({ frames := 2, cells := 0, slots := 0, locals := 45 } : Room) s m ([.ref (G.2.1 58), .int x1] : List Value).toArray below meth c H locs 0 0 (MQ below (gx_Qi G (gx_bi out.1) C (out.2.1, out.2.2) o d) ([.ref (G.2.1 58), .int x1] : List Value).toArray s 0 0 (gx_A G)) (F0 m 78 ls [])) → W p l e ({ frames := 2, cells := 0, slots := 0, locals := 45 } : Room) s m ([.ref (G.2.1 58), .int x1] : List Value).toArray below meth c H locs 0 0 (MQ below (gx_Qi G (gx_bi out.1) C (out.2.1, out.2.2) o d) ([.ref (G.2.1 58), .int x1] : List Value).toArray s 0 0 (gx_A G)) (F0 m 42 ls []) := by
      intro n
      induction n with
      | zero =>
        intro K1 uI_4 uV_5 H locs ls hl hw hF hK
        rw [f_X7_layHere_L1] at hF
        cases hF
      | succ n ih1 =>
        intro K1 uI_4 uV_5 H locs ls hl hw hF hK1
        rw [f_X7_layHere_L1] at hF
        refine lv_aload_n (pc := 42) hx hb dX7_layHere_42 rfl (lv_at hl 0 rfl) ?_
        refine gg_X7_20 (pc := 43) hx hb hown hV hw (gw_1038 hV) dX7_layHere_43 ?_
        refine lv_iload_n (pc := 46) hx hb dX7_layHere_46 rfl (lv_at hl 1 rfl) ?_
        refine lv_iconst (pc := 47) (v := 3) hx hb dX7_layHere_47 (by decide) ?_
        refine lv_iadd (pc := 48) hx hb dX7_layHere_48 ?_
        refine ga_67_ld (pc := 49) hx hb hV hw hF dX7_layHere_49 (fun _ hF => ?_)
        refine lv_iconst (pc := 50) (v := 3) hx hb dX7_layHere_50 (by decide) ?_
        refine gx_icmp_ge (pc := 51) (tgt := 78) hx hb hF dX7_layHere_51 (by decide) (fun hF => ?_) (fun hF => ?_)
        · exact hK1 _ _ _ _ _ (lv_sub hl [0, 1] rfl) hw hF
        refine lv_aload_n (pc := 54) hx hb dX7_layHere_54 rfl (lv_at hl 0 rfl) ?_
        refine lv_bipush (pc := 55) (v := 42) hx hb dX7_layHere_55 (by decide) ?_
        obtain ⟨uq_6, huq_6, hF⟩ := Option.bind_eq_some_iff.mp hF
        refine cl_X7_skips (pc := 57) hx hb hml hown hV hw huq_6 (gw_1301 hV) hl.1 (Nat.le_of_ble_eq_true rfl) (Nat.le_of_ble_eq_true rfl) (Nat.le_of_ble_eq_true rfl) dX7_layHere_57 (fun H locs hw => ?_)
        refine gx_if_eq (pc := 60) (tgt := 78) hx hb hF dX7_layHere_60 (by decide) (fun hF => ?_) (fun hF => ?_)
        · exact hK1 _ _ _ _ _ (lv_sub hl [0, 1] rfl) hw hF
        refine lv_aload_n (pc := 63) hx hb dX7_layHere_63 rfl (lv_at hl 0 rfl) ?_
        refine gg_X7_20 (pc := 64) hx hb hown hV hw (gw_1038 hV) dX7_layHere_64 ?_
        refine lv_iload_n (pc := 67) hx hb dX7_layHere_67 rfl (lv_at hl 1 rfl) ?_
        refine lv_iconst (pc := 68) (v := 3) hx hb dX7_layHere_68 (by decide) ?_
        refine lv_iadd (pc := 69) hx hb dX7_layHere_69 ?_
        refine lv_dup2_11 (pc := 70) hx hb dX7_layHere_70 rfl rfl ?_
        refine ga_67_ld (pc := 71) hx hb hV hw hF dX7_layHere_71 (fun _ hF => ?_)
        refine lv_iconst (pc := 72) (v := 1) hx hb dX7_layHere_72 (by decide) ?_
        refine lv_iadd (pc := 73) hx hb dX7_layHere_73 ?_
        refine ga_67_st (pc := 74) hx hb hV hw hF dX7_layHere_74 (fun H locs hw hF => ?_)
        refine lv_goto (pc := 75) (tgt := 42) hx hb dX7_layHere_75 (by decide) ?_
        exact ih1 _ _ _ _ _ _ (lv_sub hl [0, 1] rfl) hw hF hK1
    refine L1 1000 _ _ _ _ _ _ hl hw hF (fun uI_7 uV_8 H locs ls hl hw hF => ?_)
    refine lv_iconst (pc := 78) (v := 1) hx hb dX7_layHere_78 (by decide) ?_
    cases hF
    exact gx_zret (r := gx_bi true) hx hb hr (gx_narb _) hlocks hw dX7_layHere_79
  refine lv_iconst (pc := 31) (v := 0) hx hb dX7_layHere_31 (by decide) ?_
  cases hF
  exact gx_zret (r := gx_bi false) hx hb hr (gx_narb _) hlocks hw dX7_layHere_32
set_option maxRecDepth 100000 in
theorem cl_X7_layHere {l : Launch} {G : gx_G} {C : gx_S} {o : Int64} {d : UInt64} {I V : gx_F} {p : Program} {e : Env} {R : Room} {s : State} {m : MethodId} {args : Array Value} {below : List Frame} {meth : Method} {c : Code} {H : Heap} {locs : List Loc} {cells slots : Nat} {Q : State → Prop} {cc : ByteArray} {pc nL index : Nat} {ls : Array Slot} {rest : List Value} {own : String} {x1 : Int32} {out : (Bool × gx_F × gx_F)} (hx : p.tables.exec = Jvm.exec) (hb : c.code = cc) (hml : c.maxLocals = nL) (hown : s.vm.findClass own = some m.cls) (hV : gx_V G s) (hw : gx_at G C (I, V) o d s.heap H locs) (hF : f_X7_layHere x1 I V = some out) (hlink : (Cond.methodLink own index yX7_layHere).before args s = true) (hsz : ls.size = nL) (hfr : 3 ≤ R.frames) (hlo : 66 ≤ R.locals) (hrest : (rest.map fun v => v.category).sum ≤ 8) (hdg : decode cc pc = .ok (.invokevirtual index, 3))
    (kk : ∀ (H1 : Heap) (locs1 : List Loc), gx_at G C (out.2.1, out.2.2) o d s.heap H1 locs1 → W p l e R s m args below meth c H1 locs1 cells slots Q (F0 m (pc + 3) ls (.int (gx_bi out.1) :: rest))) (hc : cells ≤ R.cells := by exact Nat.zero_le _) (hs : slots ≤ R.slots := by exact Nat.zero_le _) : W p l e R s m args below meth c H locs cells slots Q (F0 m pc ls (.int x1 :: .ref (G.2.1 58) :: rest)) :=
  gx_runi hw (va_runV (C := RX7) (As := [.int x1]) (rest := rest) ⟨hx, hb, hml, hown, (fun _ h => nomatch h : ∀ w ∈ ([] : List Cond), w.before args s = true)⟩ (k_X7_layHere hF) ⟨gx_callB (n := 1) rfl rfl hlink (gw_56 hV) (gw_1312 hV) (by decide +kernel) ⟨hfr, hlo⟩, gw_1311 hV, gw_44 hV⟩ (gx_recv (k := 58) (ci := 9) (T := TX7) hV hw (by decide) rfl rfl) rfl rfl hsz rfl (lv_room hrest) hdg ⟨hc, hs⟩) kk
set_option maxHeartbeats 4000000 in
set_option maxRecDepth 100000 in
theorem k_X7_commandHere {l : Launch} {G : gx_G} {C : gx_S} {o : Int64} {d : UInt64} {I V : gx_F} {out : (Bool × gx_F × gx_F)} (hF : f_X7_commandHere I V = some out) : gx_K l yX7_commandHere cX7_commandHere 2 (some .boolean) { frames := 3, cells := 0, slots := 0, locals := 66 } [.ref (G.2.1 58)] G C (I, V) o d (gx_Qi G (gx_bi out.1) C (out.2.1, out.2.2) o d) 0 0 := by
  refine gx_begin (by decide +kernel) (Nat.le_of_ble_eq_true rfl) ?_
  intro p e s m below meth c hx hb hr hml hown hlocks hV hw ls hl
  have hown : s.vm.findClass RX7 = some m.cls := hown
  have hl : lv_has ls 2 [(0, .ref (G.2.1 58))] := hl
  unfold f_X7_commandHere at hF
  refine lv_bipush (pc := 0) (v := 6) hx hb dX7_commandHere_0 (by decide) ?_
  refine lv_aload_n (pc := 2) hx hb dX7_commandHere_2 rfl (lv_at hl 0 rfl) ?_
  refine gg_X7_21 (pc := 3) hx hb hown hV hw (gw_1039 hV) dX7_commandHere_3 ?_
  refine lv_imul (pc := 6) hx hb dX7_commandHere_6 ?_
  refine lv_istore_n (pc := 7) (lv' := [(1, .int (6 * (I 58 21))), (0, .ref (G.2.1 58))]) hx hb dX7_commandHere_7 rfl hl (by decide) rfl (fun ls hl => ?_)
  refine lv_aload_n (pc := 8) hx hb dX7_commandHere_8 rfl (lv_at hl 1 rfl) ?_
  refine gg_X7_20 (pc := 9) hx hb hown hV hw (gw_1038 hV) dX7_commandHere_9 ?_
  refine lv_iload_n (pc := 12) hx hb dX7_commandHere_12 rfl (lv_at hl 0 rfl) ?_
  refine lv_aload_n (pc := 13) hx hb dX7_commandHere_13 rfl (lv_at hl 1 rfl) ?_
  obtain ⟨uq_1, huq_1, hF⟩ := Option.bind_eq_some_iff.mp hF
  refine cl_X7_here (pc := 14) hx hb hml hown hV hw huq_1 (gw_1297 hV) hl.1 (Nat.le_of_ble_eq_true rfl) (Nat.le_of_ble_eq_true rfl) (Nat.le_of_ble_eq_true rfl) dX7_commandHere_14 (fun H locs hw => ?_)
  refine ga_67_st (pc := 17) hx hb hV hw hF dX7_commandHere_17 (fun H locs hw hF => ?_)
  refine lv_aload_n (pc := 18) hx hb dX7_commandHere_18 rfl (lv_at hl 1 rfl) ?_
  refine lv_bipush (pc := 19) (v := 107) hx hb dX7_commandHere_19 (by decide) ?_
  obtain ⟨uq_2, huq_2, hF⟩ := Option.bind_eq_some_iff.mp hF
  refine cl_X7_skips (pc := 21) hx hb hml hown hV hw huq_2 (gw_1301 hV) hl.1 (Nat.le_of_ble_eq_true rfl) (Nat.le_of_ble_eq_true rfl) (Nat.le_of_ble_eq_true rfl) dX7_commandHere_21 (fun H locs hw => ?_)
  refine gx_if_eq (pc := 24) (tgt := 77) hx hb hF dX7_commandHere_24 (by decide) (fun hF => ?_) (fun hF => ?_)
  · refine lv_aload_n (pc := 77) hx hb dX7_commandHere_77 rfl (lv_at hl 1 rfl) ?_
    refine lv_bipush (pc := 78) (v := 108) hx hb dX7_commandHere_78 (by decide) ?_
    obtain ⟨uq_3, huq_3, hF⟩ := Option.bind_eq_some_iff.mp hF
    refine cl_X7_skips (pc := 80) hx hb hml hown hV hw huq_3 (gw_1301 hV) hl.1 (Nat.le_of_ble_eq_true rfl) (Nat.le_of_ble_eq_true rfl) (Nat.le_of_ble_eq_true rfl) dX7_commandHere_80 (fun H locs hw => ?_)
    refine gx_if_eq (pc := 83) (tgt := 92) hx hb hF dX7_commandHere_83 (by decide) (fun hF => ?_) (fun hF => ?_)
    · refine lv_aload_n (pc := 92) hx hb dX7_commandHere_92 rfl (lv_at hl 1 rfl) ?_
      refine lv_bipush (pc := 93) (v := 115) hx hb dX7_commandHere_93 (by decide) ?_
      obtain ⟨uq_4, huq_4, hF⟩ := Option.bind_eq_some_iff.mp hF
      refine cl_X7_skips (pc := 95) hx hb hml hown hV hw huq_4 (gw_1301 hV) hl.1 (Nat.le_of_ble_eq_true rfl) (Nat.le_of_ble_eq_true rfl) (Nat.le_of_ble_eq_true rfl) dX7_commandHere_95 (fun H locs hw => ?_)
      refine gx_if_eq (pc := 98) (tgt := 129) hx hb hF dX7_commandHere_98 (by decide) (fun hF => ?_) (fun hF => ?_)
      · refine lv_aload_n (pc := 129) hx hb dX7_commandHere_129 rfl (lv_at hl 1 rfl) ?_
        refine lv_bipush (pc := 130) (v := 110) hx hb dX7_commandHere_130 (by decide) ?_
        obtain ⟨uq_5, huq_5, hF⟩ := Option.bind_eq_some_iff.mp hF
        refine cl_X7_skips (pc := 132) hx hb hml hown hV hw huq_5 (gw_1301 hV) hl.1 (Nat.le_of_ble_eq_true rfl) (Nat.le_of_ble_eq_true rfl) (Nat.le_of_ble_eq_true rfl) dX7_commandHere_132 (fun H locs hw => ?_)
        refine gx_if_eq (pc := 135) (tgt := 147) hx hb hF dX7_commandHere_135 (by decide) (fun hF => ?_) (fun hF => ?_)
        · refine lv_aload_n (pc := 147) hx hb dX7_commandHere_147 rfl (lv_at hl 1 rfl) ?_
          refine lv_bipush (pc := 148) (v := 116) hx hb dX7_commandHere_148 (by decide) ?_
          obtain ⟨uq_6, huq_6, hF⟩ := Option.bind_eq_some_iff.mp hF
          refine cl_X7_skips (pc := 150) hx hb hml hown hV hw huq_6 (gw_1301 hV) hl.1 (Nat.le_of_ble_eq_true rfl) (Nat.le_of_ble_eq_true rfl) (Nat.le_of_ble_eq_true rfl) dX7_commandHere_150 (fun H locs hw => ?_)
          refine gx_if_ne (pc := 153) (tgt := 165) hx hb hF dX7_commandHere_153 (by decide) (fun hF => ?_) (fun hF => ?_)
          · refine lv_aload_n (pc := 165) hx hb dX7_commandHere_165 rfl (lv_at hl 1 rfl) ?_
            refine lv_iload_n (pc := 166) hx hb dX7_commandHere_166 rfl (lv_at hl 0 rfl) ?_
            refine lv_iconst (pc := 167) (v := 1) hx hb dX7_commandHere_167 (by decide) ?_
            refine lv_iadd (pc := 168) hx hb dX7_commandHere_168 ?_
            refine lv_iconst (pc := 169) (v := 2) hx hb dX7_commandHere_169 (by decide) ?_
            obtain ⟨uq_7, huq_7, hF⟩ := Option.bind_eq_some_iff.mp hF
            refine cl_X7_figures (pc := 170) hx hb hml hown hV hw huq_7 (gw_1305 hV) hl.1 (Nat.le_of_ble_eq_true rfl) (Nat.le_of_ble_eq_true rfl) (Nat.le_of_ble_eq_true rfl) dX7_commandHere_170 (fun H locs hw => ?_)
            refine gx_if_eq (pc := 173) (tgt := 180) hx hb hF dX7_commandHere_173 (by decide) (fun hF => ?_) (fun hF => ?_)
            · refine lv_iconst (pc := 180) (v := 0) hx hb dX7_commandHere_180 (by decide) ?_
              cases hF
              exact gx_zret (r := gx_bi false) hx hb hr (gx_narb _) hlocks hw dX7_commandHere_181
            refine lv_iconst (pc := 176) (v := 1) hx hb dX7_commandHere_176 (by decide) ?_
            refine lv_goto (pc := 177) (tgt := 181) hx hb dX7_commandHere_177 (by decide) ?_
            cases hF
            exact gx_zret (r := gx_bi true) hx hb hr (gx_narb _) hlocks hw dX7_commandHere_181
          refine lv_aload_n (pc := 156) hx hb dX7_commandHere_156 rfl (lv_at hl 1 rfl) ?_
          refine lv_bipush (pc := 157) (v := 103) hx hb dX7_commandHere_157 (by decide) ?_
          obtain ⟨uq_8, huq_8, hF⟩ := Option.bind_eq_some_iff.mp hF
          refine cl_X7_skips (pc := 159) hx hb hml hown hV hw huq_8 (gw_1301 hV) hl.1 (Nat.le_of_ble_eq_true rfl) (Nat.le_of_ble_eq_true rfl) (Nat.le_of_ble_eq_true rfl) dX7_commandHere_159 (fun H locs hw => ?_)
          refine gx_if_eq (pc := 162) (tgt := 180) hx hb hF dX7_commandHere_162 (by decide) (fun hF => ?_) (fun hF => ?_)
          · refine lv_iconst (pc := 180) (v := 0) hx hb dX7_commandHere_180 (by decide) ?_
            cases hF
            exact gx_zret (r := gx_bi false) hx hb hr (gx_narb _) hlocks hw dX7_commandHere_181
          refine lv_aload_n (pc := 165) hx hb dX7_commandHere_165 rfl (lv_at hl 1 rfl) ?_
          refine lv_iload_n (pc := 166) hx hb dX7_commandHere_166 rfl (lv_at hl 0 rfl) ?_
          refine lv_iconst (pc := 167) (v := 1) hx hb dX7_commandHere_167 (by decide) ?_
          refine lv_iadd (pc := 168) hx hb dX7_commandHere_168 ?_
          refine lv_iconst (pc := 169) (v := 2) hx hb dX7_commandHere_169 (by decide) ?_
          obtain ⟨uq_9, huq_9, hF⟩ := Option.bind_eq_some_iff.mp hF
          refine cl_X7_figures (pc := 170) hx hb hml hown hV hw huq_9 (gw_1305 hV) hl.1 (Nat.le_of_ble_eq_true rfl) (Nat.le_of_ble_eq_true rfl) (Nat.le_of_ble_eq_true rfl) dX7_commandHere_170 (fun H locs hw => ?_)
          refine gx_if_eq (pc := 173) (tgt := 180) hx hb hF dX7_commandHere_173 (by decide) (fun hF => ?_) (fun hF => ?_)
          · refine lv_iconst (pc := 180) (v := 0) hx hb dX7_commandHere_180 (by decide) ?_
            cases hF
            exact gx_zret (r := gx_bi false) hx hb hr (gx_narb _) hlocks hw dX7_commandHere_181
          refine lv_iconst (pc := 176) (v := 1) hx hb dX7_commandHere_176 (by decide) ?_
          refine lv_goto (pc := 177) (tgt := 181) hx hb dX7_commandHere_177 (by decide) ?_
          cases hF
          exact gx_zret (r := gx_bi true) hx hb hr (gx_narb _) hlocks hw dX7_commandHere_181
        refine lv_aload_n (pc := 138) hx hb dX7_commandHere_138 rfl (lv_at hl 1 rfl) ?_
        refine lv_iload_n (pc := 139) hx hb dX7_commandHere_139 rfl (lv_at hl 0 rfl) ?_
        refine lv_iconst (pc := 140) (v := 1) hx hb dX7_commandHere_140 (by decide) ?_
        refine lv_iadd (pc := 141) hx hb dX7_commandHere_141 ?_
        refine lv_iconst (pc := 142) (v := 1) hx hb dX7_commandHere_142 (by decide) ?_
        obtain ⟨uq_10, huq_10, hF⟩ := Option.bind_eq_some_iff.mp hF
        refine cl_X7_figures (pc := 143) hx hb hml hown hV hw huq_10 (gw_1305 hV) hl.1 (Nat.le_of_ble_eq_true rfl) (Nat.le_of_ble_eq_true rfl) (Nat.le_of_ble_eq_true rfl) dX7_commandHere_143 (fun H locs hw => ?_)
        cases hF
        exact gx_zret hx hb hr (gx_narb _) hlocks hw dX7_commandHere_146
      refine lv_aload_n (pc := 101) hx hb dX7_commandHere_101 rfl (lv_at hl 1 rfl) ?_
      refine lv_iload_n (pc := 102) hx hb dX7_commandHere_102 rfl (lv_at hl 0 rfl) ?_
      refine lv_iconst (pc := 103) (v := 1) hx hb dX7_commandHere_103 (by decide) ?_
      refine lv_iadd (pc := 104) hx hb dX7_commandHere_104 ?_
      refine lv_iconst (pc := 105) (v := 1) hx hb dX7_commandHere_105 (by decide) ?_
      obtain ⟨uq_11, huq_11, hF⟩ := Option.bind_eq_some_iff.mp hF
      refine cl_X7_figures (pc := 106) hx hb hml hown hV hw huq_11 (gw_1305 hV) hl.1 (Nat.le_of_ble_eq_true rfl) (Nat.le_of_ble_eq_true rfl) (Nat.le_of_ble_eq_true rfl) dX7_commandHere_106 (fun H locs hw => ?_)
      refine gx_if_eq (pc := 109) (tgt := 127) hx hb hF dX7_commandHere_109 (by decide) (fun hF => ?_) (fun hF => ?_)
      · refine lv_iconst (pc := 127) (v := 0) hx hb dX7_commandHere_127 (by decide) ?_
        cases hF
        exact gx_zret (r := gx_bi false) hx hb hr (gx_narb _) hlocks hw dX7_commandHere_128
      refine lv_aload_n (pc := 112) hx hb dX7_commandHere_112 rfl (lv_at hl 1 rfl) ?_
      refine lv_iload_n (pc := 113) hx hb dX7_commandHere_113 rfl (lv_at hl 0 rfl) ?_
      refine lv_iconst (pc := 114) (v := 2) hx hb dX7_commandHere_114 (by decide) ?_
      refine lv_iadd (pc := 115) hx hb dX7_commandHere_115 ?_
      refine lv_iconst (pc := 116) (v := 1) hx hb dX7_commandHere_116 (by decide) ?_
      obtain ⟨uq_12, huq_12, hF⟩ := Option.bind_eq_some_iff.mp hF
      refine cl_X7_figures (pc := 117) hx hb hml hown hV hw huq_12 (gw_1305 hV) hl.1 (Nat.le_of_ble_eq_true rfl) (Nat.le_of_ble_eq_true rfl) (Nat.le_of_ble_eq_true rfl) dX7_commandHere_117 (fun H locs hw => ?_)
      refine gx_if_eq (pc := 120) (tgt := 127) hx hb hF dX7_commandHere_120 (by decide) (fun hF => ?_) (fun hF => ?_)
      · refine lv_iconst (pc := 127) (v := 0) hx hb dX7_commandHere_127 (by decide) ?_
        cases hF
        exact gx_zret (r := gx_bi false) hx hb hr (gx_narb _) hlocks hw dX7_commandHere_128
      refine lv_iconst (pc := 123) (v := 1) hx hb dX7_commandHere_123 (by decide) ?_
      refine lv_goto (pc := 124) (tgt := 128) hx hb dX7_commandHere_124 (by decide) ?_
      cases hF
      exact gx_zret (r := gx_bi true) hx hb hr (gx_narb _) hlocks hw dX7_commandHere_128
    refine lv_aload_n (pc := 86) hx hb dX7_commandHere_86 rfl (lv_at hl 1 rfl) ?_
    refine lv_iload_n (pc := 87) hx hb dX7_commandHere_87 rfl (lv_at hl 0 rfl) ?_
    obtain ⟨uq_13, huq_13, hF⟩ := Option.bind_eq_some_iff.mp hF
    refine cl_X7_layHere (pc := 88) hx hb hml hown hV hw huq_13 (gw_1309 hV) hl.1 (Nat.le_of_ble_eq_true rfl) (Nat.le_of_ble_eq_true rfl) (Nat.le_of_ble_eq_true rfl) dX7_commandHere_88 (fun H locs hw => ?_)
    cases hF
    exact gx_zret hx hb hr (gx_narb _) hlocks hw dX7_commandHere_91
  refine lv_aload_n (pc := 27) hx hb dX7_commandHere_27 rfl (lv_at hl 1 rfl) ?_
  refine lv_iload_n (pc := 28) hx hb dX7_commandHere_28 rfl (lv_at hl 0 rfl) ?_
  refine lv_iconst (pc := 29) (v := 1) hx hb dX7_commandHere_29 (by decide) ?_
  refine lv_iadd (pc := 30) hx hb dX7_commandHere_30 ?_
  refine lv_iconst (pc := 31) (v := 1) hx hb dX7_commandHere_31 (by decide) ?_
  obtain ⟨uq_14, huq_14, hF⟩ := Option.bind_eq_some_iff.mp hF
  refine cl_X7_figures (pc := 32) hx hb hml hown hV hw huq_14 (gw_1305 hV) hl.1 (Nat.le_of_ble_eq_true rfl) (Nat.le_of_ble_eq_true rfl) (Nat.le_of_ble_eq_true rfl) dX7_commandHere_32 (fun H locs hw => ?_)
  refine gx_if_eq (pc := 35) (tgt := 75) hx hb hF dX7_commandHere_35 (by decide) (fun hF => ?_) (fun hF => ?_)
  · refine lv_iconst (pc := 75) (v := 0) hx hb dX7_commandHere_75 (by decide) ?_
    cases hF
    exact gx_zret (r := gx_bi false) hx hb hr (gx_narb _) hlocks hw dX7_commandHere_76
  refine lv_aload_n (pc := 38) hx hb dX7_commandHere_38 rfl (lv_at hl 1 rfl) ?_
  refine lv_iload_n (pc := 39) hx hb dX7_commandHere_39 rfl (lv_at hl 0 rfl) ?_
  refine lv_iconst (pc := 40) (v := 2) hx hb dX7_commandHere_40 (by decide) ?_
  refine lv_iadd (pc := 41) hx hb dX7_commandHere_41 ?_
  refine lv_iconst (pc := 42) (v := 1) hx hb dX7_commandHere_42 (by decide) ?_
  obtain ⟨uq_15, huq_15, hF⟩ := Option.bind_eq_some_iff.mp hF
  refine cl_X7_figures (pc := 43) hx hb hml hown hV hw huq_15 (gw_1305 hV) hl.1 (Nat.le_of_ble_eq_true rfl) (Nat.le_of_ble_eq_true rfl) (Nat.le_of_ble_eq_true rfl) dX7_commandHere_43 (fun H locs hw => ?_)
  refine gx_if_eq (pc := 46) (tgt := 75) hx hb hF dX7_commandHere_46 (by decide) (fun hF => ?_) (fun hF => ?_)
  · refine lv_iconst (pc := 75) (v := 0) hx hb dX7_commandHere_75 (by decide) ?_
    cases hF
    exact gx_zret (r := gx_bi false) hx hb hr (gx_narb _) hlocks hw dX7_commandHere_76
  refine lv_aload_n (pc := 49) hx hb dX7_commandHere_49 rfl (lv_at hl 1 rfl) ?_
  refine lv_iload_n (pc := 50) hx hb dX7_commandHere_50 rfl (lv_at hl 0 rfl) ?_
  refine lv_iconst (pc := 51) (v := 3) hx hb dX7_commandHere_51 (by decide) ?_
  refine lv_iadd (pc := 52) hx hb dX7_commandHere_52 ?_
  refine lv_iconst (pc := 53) (v := 1) hx hb dX7_commandHere_53 (by decide) ?_
  obtain ⟨uq_16, huq_16, hF⟩ := Option.bind_eq_some_iff.mp hF
  refine cl_X7_figures (pc := 54) hx hb hml hown hV hw huq_16 (gw_1305 hV) hl.1 (Nat.le_of_ble_eq_true rfl) (Nat.le_of_ble_eq_true rfl) (Nat.le_of_ble_eq_true rfl) dX7_commandHere_54 (fun H locs hw => ?_)
  refine gx_if_eq (pc := 57) (tgt := 75) hx hb hF dX7_commandHere_57 (by decide) (fun hF => ?_) (fun hF => ?_)
  · refine lv_iconst (pc := 75) (v := 0) hx hb dX7_commandHere_75 (by decide) ?_
    cases hF
    exact gx_zret (r := gx_bi false) hx hb hr (gx_narb _) hlocks hw dX7_commandHere_76
  refine lv_aload_n (pc := 60) hx hb dX7_commandHere_60 rfl (lv_at hl 1 rfl) ?_
  refine lv_iload_n (pc := 61) hx hb dX7_commandHere_61 rfl (lv_at hl 0 rfl) ?_
  refine lv_iconst (pc := 62) (v := 4) hx hb dX7_commandHere_62 (by decide) ?_
  refine lv_iadd (pc := 63) hx hb dX7_commandHere_63 ?_
  refine lv_iconst (pc := 64) (v := 1) hx hb dX7_commandHere_64 (by decide) ?_
  obtain ⟨uq_17, huq_17, hF⟩ := Option.bind_eq_some_iff.mp hF
  refine cl_X7_figures (pc := 65) hx hb hml hown hV hw huq_17 (gw_1305 hV) hl.1 (Nat.le_of_ble_eq_true rfl) (Nat.le_of_ble_eq_true rfl) (Nat.le_of_ble_eq_true rfl) dX7_commandHere_65 (fun H locs hw => ?_)
  refine gx_if_eq (pc := 68) (tgt := 75) hx hb hF dX7_commandHere_68 (by decide) (fun hF => ?_) (fun hF => ?_)
  · refine lv_iconst (pc := 75) (v := 0) hx hb dX7_commandHere_75 (by decide) ?_
    cases hF
    exact gx_zret (r := gx_bi false) hx hb hr (gx_narb _) hlocks hw dX7_commandHere_76
  refine lv_iconst (pc := 71) (v := 1) hx hb dX7_commandHere_71 (by decide) ?_
  refine lv_goto (pc := 72) (tgt := 76) hx hb dX7_commandHere_72 (by decide) ?_
  cases hF
  exact gx_zret (r := gx_bi true) hx hb hr (gx_narb _) hlocks hw dX7_commandHere_76
set_option maxRecDepth 100000 in
theorem cl_X7_commandHere {l : Launch} {G : gx_G} {C : gx_S} {o : Int64} {d : UInt64} {I V : gx_F} {p : Program} {e : Env} {R : Room} {s : State} {m : MethodId} {args : Array Value} {below : List Frame} {meth : Method} {c : Code} {H : Heap} {locs : List Loc} {cells slots : Nat} {Q : State → Prop} {cc : ByteArray} {pc nL index : Nat} {ls : Array Slot} {rest : List Value} {own : String} {out : (Bool × gx_F × gx_F)} (hx : p.tables.exec = Jvm.exec) (hb : c.code = cc) (hml : c.maxLocals = nL) (hown : s.vm.findClass own = some m.cls) (hV : gx_V G s) (hw : gx_at G C (I, V) o d s.heap H locs) (hF : f_X7_commandHere I V = some out) (hlink : (Cond.methodLink own index yX7_commandHere).before args s = true) (hsz : ls.size = nL) (hfr : 4 ≤ R.frames) (hlo : 87 ≤ R.locals) (hrest : (rest.map fun v => v.category).sum ≤ 8) (hdg : decode cc pc = .ok (.invokevirtual index, 3))
    (kk : ∀ (H1 : Heap) (locs1 : List Loc), gx_at G C (out.2.1, out.2.2) o d s.heap H1 locs1 → W p l e R s m args below meth c H1 locs1 cells slots Q (F0 m (pc + 3) ls (.int (gx_bi out.1) :: rest))) (hc : cells ≤ R.cells := by exact Nat.zero_le _) (hs : slots ≤ R.slots := by exact Nat.zero_le _) : W p l e R s m args below meth c H locs cells slots Q (F0 m pc ls (.ref (G.2.1 58) :: rest)) :=
  gx_runi hw (va_runV (C := RX7) (As := []) (rest := rest) ⟨hx, hb, hml, hown, (fun _ h => nomatch h : ∀ w ∈ ([] : List Cond), w.before args s = true)⟩ (k_X7_commandHere hF) ⟨gx_callB (n := 0) rfl rfl hlink (gw_56 hV) (gw_1296 hV) (by decide +kernel) ⟨hfr, hlo⟩, gw_1295 hV, gw_40 hV⟩ (gx_recv (k := 58) (ci := 9) (T := TX7) hV hw (by decide) rfl rfl) rfl rfl hsz rfl (lv_room hrest) hdg ⟨hc, hs⟩) kk
set_option maxHeartbeats 4000000 in
set_option maxRecDepth 100000 in
theorem k_X7_isText {l : Launch} {G : gx_G} {C : gx_S} {o : Int64} {d : UInt64} {I V : gx_F} {out : (Bool × gx_F × gx_F)} (hF : f_X7_isText I V = some out) : gx_K l yX7_isText cX7_isText 1 (some .boolean) { frames := 4, cells := 0, slots := 0, locals := 87 } [.ref (G.2.1 58)] G C (I, V) o d (gx_Qi G (gx_bi out.1) C (out.2.1, out.2.2) o d) 0 0 := by
  refine gx_begin (by decide +kernel) (Nat.le_of_ble_eq_true rfl) ?_
  intro p e s m below meth c hx hb hr hml hown hlocks hV hw ls hl
  have hown : s.vm.findClass RX7 = some m.cls := hown
  have hl : lv_has ls 1 [(0, .ref (G.2.1 58))] := hl
  unfold f_X7_isText at hF
  refine lv_aload_n (pc := 0) hx hb dX7_isText_0 rfl (lv_at hl 0 rfl) ?_
  refine lv_iconst (pc := 1) (v := 0) hx hb dX7_isText_1 (by decide) ?_
  refine gp_X7_19 (pc := 2) hx hb hown hV hw (gw_1037 hV) dX7_isText_2 (fun H locs hw => ?_)
  refine lv_aload_n (pc := 5) hx hb dX7_isText_5 rfl (lv_at hl 0 rfl) ?_
  refine lv_iconst (pc := 6) (v := 0) hx hb dX7_isText_6 (by decide) ?_
  refine gp_X7_21 (pc := 7) hx hb hown hV hw (gw_1039 hV) dX7_isText_7 (fun H locs hw => ?_)
  have L1 : ∀ (n : Nat) (K1 : gx_F → gx_F → Option (Bool × gx_F × gx_F)) (uI_1 : gx_F) (uV_2 : gx_F) (H : Heap) (locs : List Loc) (ls : Array Slot), lv_has ls 1 [(0, .ref (G.2.1 58))] → gx_at G C (uI_1, uV_2) o d s.heap H locs → f_X7_isText_L1 K1 n uI_1 uV_2 = some out → (∀ (uI_1 : gx_F) (uV_2 : gx_F) (H : Heap) (locs : List Loc) (ls : Array Slot), lv_has ls 1 [(0, .ref (G.2.1 58))] → gx_at G C (uI_1, uV_2) o d s.heap H locs → K1 uI_1 uV_2 = some out → W p l e ({ frames := 4, cells := 0, slots := 0, locals := 87 } : Room) s m ([.ref (G.2.1 58)] : List Value).toArray below meth c H locs 0 0 (MQ below (gx_Qi G (gx_bi out.1) C (out.2.1, out.2.2) o d) ([.ref (G.2.1 58)] : List Value).toArray s 0 0 (gx_A G)) (F0 m 38 ls [])) → W p l e ({ frames := 4, cells := 0, slots := 0, locals := 87 } : Room) s m ([.ref (G.2.1 58)] : List Value).toArray below meth c H locs 0 0 (MQ below (gx_Qi G (gx_bi out.1) C (out.2.1, out.2.2) o d) ([.ref (G.2.1 58)] : List Value).toArray s 0 0 (gx_A G)) (F0 m 10 ls []) := by
    intro n
    induction n with
    | zero =>
      intro K1 uI_1 uV_2 H locs ls hl hw hF hK
      rw [f_X7_isText_L1] at hF
      cases hF
    | succ n ih1 =>
      intro K1 uI_1 uV_2 H locs ls hl hw hF hK1
      rw [f_X7_isText_L1] at hF
      refine lv_aload_n (pc := 10) hx hb dX7_isText_10 rfl (lv_at hl 0 rfl) ?_
      obtain ⟨uq_3, huq_3, hF⟩ := Option.bind_eq_some_iff.mp hF
      refine cl_X7_commandHere (pc := 11) hx hb hml hown hV hw huq_3 (gw_1293 hV) hl.1 (Nat.le_of_ble_eq_true rfl) (Nat.le_of_ble_eq_true rfl) (Nat.le_of_ble_eq_true rfl) dX7_isText_11 (fun H locs hw => ?_)
      refine gx_if_ne (pc := 14) (tgt := 19) hx hb hF dX7_isText_14 (by decide) (fun hF => ?_) (fun hF => ?_)
      · refine lv_aload_n (pc := 19) hx hb dX7_isText_19 rfl (lv_at hl 0 rfl) ?_
        refine lv_dup (pc := 20) hx hb dX7_isText_20 rfl ?_
        refine gg_X7_21 (pc := 21) hx hb hown hV hw (gw_1039 hV) dX7_isText_21 ?_
        refine lv_iconst (pc := 24) (v := 1) hx hb dX7_isText_24 (by decide) ?_
        refine lv_iadd (pc := 25) hx hb dX7_isText_25 ?_
        refine gp_X7_21 (pc := 26) hx hb hown hV hw (gw_1039 hV) dX7_isText_26 (fun H locs hw => ?_)
        refine lv_aload_n (pc := 29) hx hb dX7_isText_29 rfl (lv_at hl 0 rfl) ?_
        refine lv_bipush (pc := 30) (v := 59) hx hb dX7_isText_30 (by decide) ?_
        obtain ⟨uq_4, huq_4, hF⟩ := Option.bind_eq_some_iff.mp hF
        refine cl_X7_skips (pc := 32) hx hb hml hown hV hw huq_4 (gw_1301 hV) hl.1 (Nat.le_of_ble_eq_true rfl) (Nat.le_of_ble_eq_true rfl) (Nat.le_of_ble_eq_true rfl) dX7_isText_32 (fun H locs hw => ?_)
        refine gx_if_ne (pc := 35) (tgt := 10) hx hb hF dX7_isText_35 (by decide) (fun hF => ?_) (fun hF => ?_)
        · exact ih1 _ _ _ _ _ _ (lv_sub hl [0] rfl) hw hF hK1
        exact hK1 _ _ _ _ _ (lv_sub hl [0] rfl) hw hF
      refine lv_iconst (pc := 17) (v := 0) hx hb dX7_isText_17 (by decide) ?_
      cases hF
      exact gx_zret (r := gx_bi false) hx hb hr (gx_narb _) hlocks hw dX7_isText_18
  refine L1 1000 _ _ _ _ _ _ hl hw hF (fun uI_5 uV_6 H locs ls hl hw hF => ?_)
  refine lv_aload_n (pc := 38) hx hb dX7_isText_38 rfl (lv_at hl 0 rfl) ?_
  refine gg_X7_19 (pc := 39) hx hb hown hV hw (gw_1037 hV) dX7_isText_39 ?_
  refine lv_aload_n (pc := 42) hx hb dX7_isText_42 rfl (lv_at hl 0 rfl) ?_
  refine gg_X7_14 (pc := 43) hx hb hown hV hw (gw_1032 hV) dX7_isText_43 ?_
  refine gx_icmp_ne (pc := 46) (tgt := 53) hx hb hF dX7_isText_46 (by decide) (fun hF => ?_) (fun hF => ?_)
  · refine lv_iconst (pc := 53) (v := 0) hx hb dX7_isText_53 (by decide) ?_
    cases hF
    exact gx_zret (r := gx_bi false) hx hb hr (gx_narb _) hlocks hw dX7_isText_54
  refine lv_iconst (pc := 49) (v := 1) hx hb dX7_isText_49 (by decide) ?_
  refine lv_goto (pc := 50) (tgt := 54) hx hb dX7_isText_50 (by decide) ?_
  cases hF
  exact gx_zret (r := gx_bi true) hx hb hr (gx_narb _) hlocks hw dX7_isText_54
set_option maxRecDepth 100000 in
theorem cl_X7_isText {l : Launch} {G : gx_G} {C : gx_S} {o : Int64} {d : UInt64} {I V : gx_F} {p : Program} {e : Env} {R : Room} {s : State} {m : MethodId} {args : Array Value} {below : List Frame} {meth : Method} {c : Code} {H : Heap} {locs : List Loc} {cells slots : Nat} {Q : State → Prop} {cc : ByteArray} {pc nL index : Nat} {ls : Array Slot} {rest : List Value} {own : String} {out : (Bool × gx_F × gx_F)} (hx : p.tables.exec = Jvm.exec) (hb : c.code = cc) (hml : c.maxLocals = nL) (hown : s.vm.findClass own = some m.cls) (hV : gx_V G s) (hw : gx_at G C (I, V) o d s.heap H locs) (hF : f_X7_isText I V = some out) (hlink : (Cond.methodLink own index yX7_isText).before args s = true) (hsz : ls.size = nL) (hfr : 5 ≤ R.frames) (hlo : 107 ≤ R.locals) (hrest : (rest.map fun v => v.category).sum ≤ 8) (hdg : decode cc pc = .ok (.invokevirtual index, 3))
    (kk : ∀ (H1 : Heap) (locs1 : List Loc), gx_at G C (out.2.1, out.2.2) o d s.heap H1 locs1 → W p l e R s m args below meth c H1 locs1 cells slots Q (F0 m (pc + 3) ls (.int (gx_bi out.1) :: rest))) (hc : cells ≤ R.cells := by exact Nat.zero_le _) (hs : slots ≤ R.slots := by exact Nat.zero_le _) : W p l e R s m args below meth c H locs cells slots Q (F0 m pc ls (.ref (G.2.1 58) :: rest)) :=
  gx_runi hw (va_runV (C := RX7) (As := []) (rest := rest) ⟨hx, hb, hml, hown, (fun _ h => nomatch h : ∀ w ∈ ([] : List Cond), w.before args s = true)⟩ (k_X7_isText hF) ⟨gx_callB (n := 0) rfl rfl hlink (gw_56 hV) (gw_1292 hV) (by decide +kernel) ⟨hfr, hlo⟩, gw_1291 hV, gw_39 hV⟩ (gx_recv (k := 58) (ci := 9) (T := TX7) hV hw (by decide) rfl rfl) rfl rfl hsz rfl (lv_room hrest) hdg ⟨hc, hs⟩) kk
set_option maxHeartbeats 4000000 in
set_option maxRecDepth 100000 in
theorem k_X7_carries {l : Launch} {G : gx_G} {C : gx_S} {o : Int64} {d : UInt64} {I V : gx_F} {x1 : Int32} {out : (Int32 × gx_F × gx_F)} (hF : f_X7_carries x1 I V = some out) : gx_K l yX7_carries cX7_carries 2 (some .int) { frames := 8, cells := 0, slots := 0, locals := 181 } [.ref (G.2.1 58), .int x1] G C (I, V) o d (gx_Qi G out.1 C (out.2.1, out.2.2) o d) 0 0 := by
  refine gx_begin (by decide +kernel) (Nat.le_of_ble_eq_true rfl) ?_
  intro p e s m below meth c hx hb hr hml hown hlocks hV hw ls hl
  have hown : s.vm.findClass RX7 = some m.cls := hown
  have hl : lv_has ls 2 [(0, .ref (G.2.1 58)), (1, .int x1)] := hl
  unfold f_X7_carries at hF
  refine lv_aload_n (pc := 0) hx hb dX7_carries_0 rfl (lv_at hl 0 rfl) ?_
  refine gg_X7_20 (pc := 1) hx hb hown hV hw (gw_1038 hV) dX7_carries_1 ?_
  refine lv_iload_n (pc := 4) hx hb dX7_carries_4 rfl (lv_at hl 1 rfl) ?_
  refine ga_67_ld (pc := 5) hx hb hV hw hF dX7_carries_5 (fun _ hF => ?_)
  by_cases hs107 : (V 67 x1.toNatClampNeg) = 107
  · rw [if_pos hs107] at hF
    refine lv_tableIn (pc := 6) (off := 54) (tgt := 60) hx hb dX7_carries_6 (by rw [hs107]; decide) (by rw [hs107]; decide) (by rw [hs107]; rfl) (by decide) ?_
    refine lv_aload_n (pc := 60) hx hb dX7_carries_60 rfl (lv_at hl 0 rfl) ?_
    refine lv_aload_n (pc := 61) hx hb dX7_carries_61 rfl (lv_at hl 0 rfl) ?_
    refine gg_X7_20 (pc := 62) hx hb hown hV hw (gw_1038 hV) dX7_carries_62 ?_
    refine lv_iload_n (pc := 65) hx hb dX7_carries_65 rfl (lv_at hl 1 rfl) ?_
    refine lv_iconst (pc := 66) (v := 1) hx hb dX7_carries_66 (by decide) ?_
    refine lv_iadd (pc := 67) hx hb dX7_carries_67 ?_
    refine ga_67_ld (pc := 68) hx hb hV hw hF dX7_carries_68 (fun _ hF => ?_)
    refine lv_aload_n (pc := 69) hx hb dX7_carries_69 rfl (lv_at hl 0 rfl) ?_
    refine gg_X7_20 (pc := 70) hx hb hown hV hw (gw_1038 hV) dX7_carries_70 ?_
    refine lv_iload_n (pc := 73) hx hb dX7_carries_73 rfl (lv_at hl 1 rfl) ?_
    refine lv_iconst (pc := 74) (v := 2) hx hb dX7_carries_74 (by decide) ?_
    refine lv_iadd (pc := 75) hx hb dX7_carries_75 ?_
    refine ga_67_ld (pc := 76) hx hb hV hw hF dX7_carries_76 (fun _ hF => ?_)
    refine lv_aload_n (pc := 77) hx hb dX7_carries_77 rfl (lv_at hl 0 rfl) ?_
    refine gg_X7_20 (pc := 78) hx hb hown hV hw (gw_1038 hV) dX7_carries_78 ?_
    refine lv_iload_n (pc := 81) hx hb dX7_carries_81 rfl (lv_at hl 1 rfl) ?_
    refine lv_iconst (pc := 82) (v := 3) hx hb dX7_carries_82 (by decide) ?_
    refine lv_iadd (pc := 83) hx hb dX7_carries_83 ?_
    refine ga_67_ld (pc := 84) hx hb hV hw hF dX7_carries_84 (fun _ hF => ?_)
    refine lv_aload_n (pc := 85) hx hb dX7_carries_85 rfl (lv_at hl 0 rfl) ?_
    refine gg_X7_20 (pc := 86) hx hb hown hV hw (gw_1038 hV) dX7_carries_86 ?_
    refine lv_iload_n (pc := 89) hx hb dX7_carries_89 rfl (lv_at hl 1 rfl) ?_
    refine lv_iconst (pc := 90) (v := 4) hx hb dX7_carries_90 (by decide) ?_
    refine lv_iadd (pc := 91) hx hb dX7_carries_91 ?_
    refine ga_67_ld (pc := 92) hx hb hV hw hF dX7_carries_92 (fun _ hF => ?_)
    obtain ⟨uq_1, huq_1, hF⟩ := Option.bind_eq_some_iff.mp hF
    refine cl_X7_kind (pc := 93) hx hb hml hown hV hw huq_1 (gw_1317 hV) hl.1 (Nat.le_of_ble_eq_true rfl) (Nat.le_of_ble_eq_true rfl) (Nat.le_of_ble_eq_true rfl) dX7_carries_93 (fun H locs hw => ?_)
    cases hF
    exact gx_iret hx hb hr hlocks hw dX7_carries_96
  rw [if_neg hs107] at hF
  by_cases hs108 : (V 67 x1.toNatClampNeg) = 108
  · rw [if_pos hs108] at hF
    refine lv_tableIn (pc := 6) (off := 91) (tgt := 97) hx hb dX7_carries_6 (by rw [hs108]; decide) (by rw [hs108]; decide) (by rw [hs108]; rfl) (by decide) ?_
    refine lv_aload_n (pc := 97) hx hb dX7_carries_97 rfl (lv_at hl 0 rfl) ?_
    refine lv_aload_n (pc := 98) hx hb dX7_carries_98 rfl (lv_at hl 0 rfl) ?_
    refine gg_X7_20 (pc := 99) hx hb hown hV hw (gw_1038 hV) dX7_carries_99 ?_
    refine lv_iload_n (pc := 102) hx hb dX7_carries_102 rfl (lv_at hl 1 rfl) ?_
    refine lv_iconst (pc := 103) (v := 1) hx hb dX7_carries_103 (by decide) ?_
    refine lv_iadd (pc := 104) hx hb dX7_carries_104 ?_
    refine ga_67_ld (pc := 105) hx hb hV hw hF dX7_carries_105 (fun _ hF => ?_)
    refine lv_aload_n (pc := 106) hx hb dX7_carries_106 rfl (lv_at hl 0 rfl) ?_
    refine gg_X7_20 (pc := 107) hx hb hown hV hw (gw_1038 hV) dX7_carries_107 ?_
    refine lv_iload_n (pc := 110) hx hb dX7_carries_110 rfl (lv_at hl 1 rfl) ?_
    refine lv_iconst (pc := 111) (v := 2) hx hb dX7_carries_111 (by decide) ?_
    refine lv_iadd (pc := 112) hx hb dX7_carries_112 ?_
    refine ga_67_ld (pc := 113) hx hb hV hw hF dX7_carries_113 (fun _ hF => ?_)
    refine lv_aload_n (pc := 114) hx hb dX7_carries_114 rfl (lv_at hl 0 rfl) ?_
    refine gg_X7_20 (pc := 115) hx hb hown hV hw (gw_1038 hV) dX7_carries_115 ?_
    refine lv_iload_n (pc := 118) hx hb dX7_carries_118 rfl (lv_at hl 1 rfl) ?_
    refine lv_iconst (pc := 119) (v := 3) hx hb dX7_carries_119 (by decide) ?_
    refine lv_iadd (pc := 120) hx hb dX7_carries_120 ?_
    refine ga_67_ld (pc := 121) hx hb hV hw hF dX7_carries_121 (fun _ hF => ?_)
    obtain ⟨uq_2, huq_2, hF⟩ := Option.bind_eq_some_iff.mp hF
    refine cl_X7_lay (pc := 122) hx hb hml hown hV hw huq_2 (gw_1318 hV) hl.1 (Nat.le_of_ble_eq_true rfl) (Nat.le_of_ble_eq_true rfl) (Nat.le_of_ble_eq_true rfl) dX7_carries_122 (fun H locs hw => ?_)
    cases hF
    exact gx_iret hx hb hr hlocks hw dX7_carries_125
  rw [if_neg hs108] at hF
  by_cases hs110 : (V 67 x1.toNatClampNeg) = 110
  · rw [if_pos hs110] at hF
    refine lv_tableIn (pc := 6) (off := 141) (tgt := 147) hx hb dX7_carries_6 (by rw [hs110]; decide) (by rw [hs110]; decide) (by rw [hs110]; rfl) (by decide) ?_
    refine lv_aload_n (pc := 147) hx hb dX7_carries_147 rfl (lv_at hl 0 rfl) ?_
    refine lv_aload_n (pc := 148) hx hb dX7_carries_148 rfl (lv_at hl 0 rfl) ?_
    refine gg_X7_20 (pc := 149) hx hb hown hV hw (gw_1038 hV) dX7_carries_149 ?_
    refine lv_iload_n (pc := 152) hx hb dX7_carries_152 rfl (lv_at hl 1 rfl) ?_
    refine lv_iconst (pc := 153) (v := 1) hx hb dX7_carries_153 (by decide) ?_
    refine lv_iadd (pc := 154) hx hb dX7_carries_154 ?_
    refine ga_67_ld (pc := 155) hx hb hV hw hF dX7_carries_155 (fun _ hF => ?_)
    obtain ⟨uq_3, huq_3, hF⟩ := Option.bind_eq_some_iff.mp hF
    refine cl_X7_need (pc := 156) hx hb hml hown hV hw huq_3 (gw_1320 hV) hl.1 (Nat.le_of_ble_eq_true rfl) (Nat.le_of_ble_eq_true rfl) (Nat.le_of_ble_eq_true rfl) dX7_carries_156 (fun H locs hw => ?_)
    cases hF
    exact gx_iret hx hb hr hlocks hw dX7_carries_159
  rw [if_neg hs110] at hF
  by_cases hs115 : (V 67 x1.toNatClampNeg) = 115
  · rw [if_pos hs115] at hF
    refine lv_tableIn (pc := 6) (off := 120) (tgt := 126) hx hb dX7_carries_6 (by rw [hs115]; decide) (by rw [hs115]; decide) (by rw [hs115]; rfl) (by decide) ?_
    refine lv_aload_n (pc := 126) hx hb dX7_carries_126 rfl (lv_at hl 0 rfl) ?_
    refine lv_aload_n (pc := 127) hx hb dX7_carries_127 rfl (lv_at hl 0 rfl) ?_
    refine gg_X7_20 (pc := 128) hx hb hown hV hw (gw_1038 hV) dX7_carries_128 ?_
    refine lv_iload_n (pc := 131) hx hb dX7_carries_131 rfl (lv_at hl 1 rfl) ?_
    refine lv_iconst (pc := 132) (v := 1) hx hb dX7_carries_132 (by decide) ?_
    refine lv_iadd (pc := 133) hx hb dX7_carries_133 ?_
    refine ga_67_ld (pc := 134) hx hb hV hw hF dX7_carries_134 (fun _ hF => ?_)
    refine lv_aload_n (pc := 135) hx hb dX7_carries_135 rfl (lv_at hl 0 rfl) ?_
    refine gg_X7_20 (pc := 136) hx hb hown hV hw (gw_1038 hV) dX7_carries_136 ?_
    refine lv_iload_n (pc := 139) hx hb dX7_carries_139 rfl (lv_at hl 1 rfl) ?_
    refine lv_iconst (pc := 140) (v := 2) hx hb dX7_carries_140 (by decide) ?_
    refine lv_iadd (pc := 141) hx hb dX7_carries_141 ?_
    refine ga_67_ld (pc := 142) hx hb hV hw hF dX7_carries_142 (fun _ hF => ?_)
    obtain ⟨uq_4, huq_4, hF⟩ := Option.bind_eq_some_iff.mp hF
    refine cl_X7_strength (pc := 143) hx hb hml hown hV hw huq_4 (gw_1319 hV) hl.1 (Nat.le_of_ble_eq_true rfl) (Nat.le_of_ble_eq_true rfl) (Nat.le_of_ble_eq_true rfl) dX7_carries_143 (fun H locs hw => ?_)
    cases hF
    exact gx_iret hx hb hr hlocks hw dX7_carries_146
  rw [if_neg hs115] at hF
  by_cases hs116 : (V 67 x1.toNatClampNeg) = 116
  · rw [if_pos hs116] at hF
    refine lv_tableIn (pc := 6) (off := 154) (tgt := 160) hx hb dX7_carries_6 (by rw [hs116]; decide) (by rw [hs116]; decide) (by rw [hs116]; rfl) (by decide) ?_
    refine lv_aload_n (pc := 160) hx hb dX7_carries_160 rfl (lv_at hl 0 rfl) ?_
    refine lv_aload_n (pc := 161) hx hb dX7_carries_161 rfl (lv_at hl 0 rfl) ?_
    refine gg_X7_20 (pc := 162) hx hb hown hV hw (gw_1038 hV) dX7_carries_162 ?_
    refine lv_iload_n (pc := 165) hx hb dX7_carries_165 rfl (lv_at hl 1 rfl) ?_
    refine lv_iconst (pc := 166) (v := 1) hx hb dX7_carries_166 (by decide) ?_
    refine lv_iadd (pc := 167) hx hb dX7_carries_167 ?_
    refine ga_67_ld (pc := 168) hx hb hV hw hF dX7_carries_168 (fun _ hF => ?_)
    obtain ⟨uq_5, huq_5, hF⟩ := Option.bind_eq_some_iff.mp hF
    refine cl_X7_takeOut (pc := 169) hx hb hml hown hV hw huq_5 (gw_1321 hV) hl.1 (Nat.le_of_ble_eq_true rfl) (Nat.le_of_ble_eq_true rfl) (Nat.le_of_ble_eq_true rfl) dX7_carries_169 (fun H locs hw => ?_)
    cases hF
    exact gx_iret hx hb hr hlocks hw dX7_carries_172
  rw [if_neg hs116] at hF
  refine gx_tableD (pc := 6) (tgt := 173) hx hb dX7_carries_6 [107, 108, 110, 115, 116] (List.forall_mem_cons.mpr ⟨hs107, (List.forall_mem_cons.mpr ⟨hs108, (List.forall_mem_cons.mpr ⟨hs110, (List.forall_mem_cons.mpr ⟨hs115, (List.forall_mem_cons.mpr ⟨hs116, (fun _ h => nomatch h)⟩)⟩)⟩)⟩)⟩) (by decide) (by decide) (by decide) ?_
  refine lv_aload_n (pc := 173) hx hb dX7_carries_173 rfl (lv_at hl 0 rfl) ?_
  refine lv_aload_n (pc := 174) hx hb dX7_carries_174 rfl (lv_at hl 0 rfl) ?_
  refine gg_X7_20 (pc := 175) hx hb hown hV hw (gw_1038 hV) dX7_carries_175 ?_
  refine lv_iload_n (pc := 178) hx hb dX7_carries_178 rfl (lv_at hl 1 rfl) ?_
  refine lv_iconst (pc := 179) (v := 1) hx hb dX7_carries_179 (by decide) ?_
  refine lv_iadd (pc := 180) hx hb dX7_carries_180 ?_
  refine ga_67_ld (pc := 181) hx hb hV hw hF dX7_carries_181 (fun _ hF => ?_)
  obtain ⟨uq_6, huq_6, hF⟩ := Option.bind_eq_some_iff.mp hF
  refine cl_X7_grow (pc := 182) hx hb hml hown hV hw huq_6 (gw_1322 hV) hl.1 (Nat.le_of_ble_eq_true rfl) (Nat.le_of_ble_eq_true rfl) (Nat.le_of_ble_eq_true rfl) dX7_carries_182 (fun H locs hw => ?_)
  cases hF
  exact gx_iret hx hb hr hlocks hw dX7_carries_185
set_option maxRecDepth 100000 in
theorem cl_X7_carries {l : Launch} {G : gx_G} {C : gx_S} {o : Int64} {d : UInt64} {I V : gx_F} {p : Program} {e : Env} {R : Room} {s : State} {m : MethodId} {args : Array Value} {below : List Frame} {meth : Method} {c : Code} {H : Heap} {locs : List Loc} {cells slots : Nat} {Q : State → Prop} {cc : ByteArray} {pc nL index : Nat} {ls : Array Slot} {rest : List Value} {own : String} {x1 : Int32} {out : (Int32 × gx_F × gx_F)} (hx : p.tables.exec = Jvm.exec) (hb : c.code = cc) (hml : c.maxLocals = nL) (hown : s.vm.findClass own = some m.cls) (hV : gx_V G s) (hw : gx_at G C (I, V) o d s.heap H locs) (hF : f_X7_carries x1 I V = some out) (hlink : (Cond.methodLink own index yX7_carries).before args s = true) (hsz : ls.size = nL) (hfr : 9 ≤ R.frames) (hlo : 202 ≤ R.locals) (hrest : (rest.map fun v => v.category).sum ≤ 8) (hdg : decode cc pc = .ok (.invokevirtual index, 3))
    (kk : ∀ (H1 : Heap) (locs1 : List Loc), gx_at G C (out.2.1, out.2.2) o d s.heap H1 locs1 → W p l e R s m args below meth c H1 locs1 cells slots Q (F0 m (pc + 3) ls (.int out.1 :: rest))) (hc : cells ≤ R.cells := by exact Nat.zero_le _) (hs : slots ≤ R.slots := by exact Nat.zero_le _) : W p l e R s m args below meth c H locs cells slots Q (F0 m pc ls (.int x1 :: .ref (G.2.1 58) :: rest)) :=
  gx_runi hw (va_runV (C := RX7) (As := [.int x1]) (rest := rest) ⟨hx, hb, hml, hown, (fun _ h => nomatch h : ∀ w ∈ ([] : List Cond), w.before args s = true)⟩ (k_X7_carries hF) ⟨gx_callB (n := 1) rfl rfl hlink (gw_56 hV) (gw_1316 hV) (by decide +kernel) ⟨hfr, hlo⟩, gw_1315 hV, gw_45 hV⟩ (gx_recv (k := 58) (ci := 9) (T := TX7) hV hw (by decide) rfl rfl) rfl rfl hsz rfl (lv_room hrest) hdg ⟨hc, hs⟩) kk
set_option maxHeartbeats 4000000 in
set_option maxRecDepth 100000 in
theorem k_X7_commands {l : Launch} {G : gx_G} {C : gx_S} {o : Int64} {d : UInt64} {I V : gx_F} {out : (Int32 × gx_F × gx_F)} (hF : f_X7_commands I V = some out) : gx_K l yX7_commands cX7_commands 3 (some .int) { frames := 9, cells := 0, slots := 0, locals := 202 } [.ref (G.2.1 58)] G C (I, V) o d (gx_Qi G out.1 C (out.2.1, out.2.2) o d) 0 0 := by
  refine gx_begin (by decide +kernel) (Nat.le_of_ble_eq_true rfl) ?_
  intro p e s m below meth c hx hb hr hml hown hlocks hV hw ls hl
  have hown : s.vm.findClass RX7 = some m.cls := hown
  have hl : lv_has ls 3 [(0, .ref (G.2.1 58))] := hl
  unfold f_X7_commands at hF
  refine lv_aload_n (pc := 0) hx hb dX7_commands_0 rfl (lv_at hl 0 rfl) ?_
  obtain ⟨uq_1, huq_1, hF⟩ := Option.bind_eq_some_iff.mp hF
  refine cl_X7_isText (pc := 1) hx hb hml hown hV hw huq_1 (gw_1289 hV) hl.1 (Nat.le_of_ble_eq_true rfl) (Nat.le_of_ble_eq_true rfl) (Nat.le_of_ble_eq_true rfl) dX7_commands_1 (fun H locs hw => ?_)
  refine lv_istore_n (pc := 4) (lv' := [(1, .int (gx_bi uq_1.1)), (0, .ref (G.2.1 58))]) hx hb dX7_commands_4 rfl hl (by decide) rfl (fun ls hl => ?_)
  refine lv_aload_n (pc := 5) hx hb dX7_commands_5 rfl (lv_at hl 1 rfl) ?_
  refine lv_iload_n (pc := 6) hx hb dX7_commands_6 rfl (lv_at hl 0 rfl) ?_
  refine gx_if_eq (pc := 7) (tgt := 14) hx hb hF dX7_commands_7 (by decide) (fun hF => ?_) (fun hF => ?_)
  · refine lv_aload_n (pc := 14) hx hb dX7_commands_14 rfl (lv_at hl 1 rfl) ?_
    refine gg_X7_19 (pc := 15) hx hb hown hV hw (gw_1037 hV) dX7_commands_15 ?_
    refine gp_X7_15 (pc := 18) hx hb hown hV hw (gw_1033 hV) dX7_commands_18 (fun H locs hw => ?_)
    refine lv_aload_n (pc := 21) hx hb dX7_commands_21 rfl (lv_at hl 1 rfl) ?_
    refine lv_iconst (pc := 22) (v := 0) hx hb dX7_commands_22 (by decide) ?_
    refine gp_X7_14 (pc := 23) hx hb hown hV hw (gw_1032 hV) dX7_commands_23 (fun H locs hw => ?_)
    refine lv_aload_n (pc := 26) hx hb dX7_commands_26 rfl (lv_at hl 1 rfl) ?_
    refine lv_iload_n (pc := 27) hx hb dX7_commands_27 rfl (lv_at hl 0 rfl) ?_
    refine gx_if_eq (pc := 28) (tgt := 35) hx hb hF dX7_commands_28 (by decide) (fun hF => ?_) (fun hF => ?_)
    · refine lv_iconst (pc := 35) (v := 1) hx hb dX7_commands_35 (by decide) ?_
      obtain ⟨uq_2, huq_2, hF⟩ := Option.bind_eq_some_iff.mp hF
      refine cl_X7_fails (pc := 36) hx hb hml hown hV hw huq_2 (gw_1193 hV) hl.1 (Nat.le_of_ble_eq_true rfl) (Nat.le_of_ble_eq_true rfl) (Nat.le_of_ble_eq_true rfl) dX7_commands_36 (fun H locs hw => ?_)
      refine gx_if_eq (pc := 39) (tgt := 44) hx hb hF dX7_commands_39 (by decide) (fun hF => ?_) (fun hF => ?_)
      · refine lv_aload_n (pc := 44) hx hb dX7_commands_44 rfl (lv_at hl 1 rfl) ?_
        refine gg_X7_0 (pc := 45) hx hb hown hV hw (gw_1018 hV) dX7_commands_45 ?_
        refine lv_iconst (pc := 48) (v := 0) hx hb dX7_commands_48 (by decide) ?_
        refine lv_aload_n (pc := 49) hx hb dX7_commands_49 rfl (lv_at hl 1 rfl) ?_
        refine gg_X7_3 (pc := 50) hx hb hown hV hw (gw_1021 hV) dX7_commands_50 ?_
        refine lv_iconst (pc := 53) (v := 0) hx hb dX7_commands_53 (by decide) ?_
        obtain ⟨uq_3, huq_3, hF⟩ := Option.bind_eq_some_iff.mp hF
        refine cl_X7_copies (pc := 54) hx hb hml hown hV hw gx_a59 gx_a62 huq_3 (gw_1104 hV) hl.1 (Nat.le_of_ble_eq_true rfl) (Nat.le_of_ble_eq_true rfl) (Nat.le_of_ble_eq_true rfl) dX7_commands_54 (fun H locs hw => ?_)
        refine lv_aload_n (pc := 57) hx hb dX7_commands_57 rfl (lv_at hl 1 rfl) ?_
        refine lv_iconst (pc := 58) (v := 1) hx hb dX7_commands_58 (by decide) ?_
        refine gp_X7_7 (pc := 59) hx hb hown hV hw rfl rfl (gw_1025 hV) dX7_commands_59 (fun H locs hw => ?_)
        refine lv_aload_n (pc := 62) hx hb dX7_commands_62 rfl (lv_at hl 1 rfl) ?_
        refine lv_iconst (pc := 63) (v := 0) hx hb dX7_commands_63 (by decide) ?_
        refine gp_X7_8 (pc := 64) hx hb hown hV hw (gw_1026 hV) dX7_commands_64 (fun H locs hw => ?_)
        refine lv_iconst (pc := 67) (v := 0) hx hb dX7_commands_67 (by decide) ?_
        refine lv_istore_n (pc := 68) (lv' := [(2, .int 0), (1, .int (gx_bi uq_1.1)), (0, .ref (G.2.1 58))]) hx hb dX7_commands_68 rfl hl (by decide) rfl (fun ls hl => ?_)
        have L1 : ∀ (n : Nat) (K1 : Int32 → gx_F → gx_F → Option (Int32 × gx_F × gx_F)) (uv_4 : Int32) (uI_5 : gx_F) (uV_6 : gx_F) (H : Heap) (locs : List Loc) (ls : Array Slot), lv_has ls 3 [(2, .int uv_4), (1, .int (gx_bi uq_1.1)), (0, .ref (G.2.1 58))] → gx_at G C (uI_5, uV_6) o d s.heap H locs → f_X7_commands_L1 K1 n uv_4 uI_5 uV_6 = some out → (∀ (uv_4 : Int32) (uI_5 : gx_F) (uV_6 : gx_F) (H : Heap) (locs : List Loc) (ls : Array Slot), lv_has ls 3 [(2, .int uv_4), (1, .int (gx_bi uq_1.1)), (0, .ref (G.2.1 58))] → gx_at G C (uI_5, uV_6) o d s.heap H locs → K1 uv_4 uI_5 uV_6 = some out → W p l e ({ frames := 9, cells := 0, slots := 0, locals := 202 } : Room) s m ([.ref (G.2.1 58)] : List Value).toArray below meth c H locs 0 0 (MQ below (gx_Qi G out.1 C (out.2.1, out.2.2) o d) ([.ref (G.2.1 58)] : List Value).toArray s 0 0 (gx_A G)) (F0 m 119 ls [])) → W p l e ({ frames := 9, cells := 0, slots := 0, locals := 202 } : Room) s m ([.ref (G.2.1 58)] : List Value).toArray below meth c H locs 0 0 (MQ below (gx_Qi G out.1 C (out.2.1, out.2.2) o d) ([.ref (G.2.1 58)] : List Value).toArray s 0 0 (gx_A G)) (F0 m 69 ls []) := by
          intro n
          induction n with
          | zero =>
            intro K1 uv_4 uI_5 uV_6 H locs ls hl hw hF hK
            rw [f_X7_commands_L1] at hF
            cases hF
          | succ n ih1 =>
            intro K1 uv_4 uI_5 uV_6 H locs ls hl hw hF hK1
            rw [f_X7_commands_L1] at hF
            refine lv_aload_n (pc := 69) hx hb dX7_commands_69 rfl (lv_at hl 2 rfl) ?_
            refine gg_X7_8 (pc := 70) hx hb hown hV hw (gw_1026 hV) dX7_commands_70 ?_
            refine lv_aload_n (pc := 73) hx hb dX7_commands_73 rfl (lv_at hl 2 rfl) ?_
            refine gg_X7_21 (pc := 74) hx hb hown hV hw (gw_1039 hV) dX7_commands_74 ?_
            refine gx_icmp_ge (pc := 77) (tgt := 119) hx hb hF dX7_commands_77 (by decide) (fun hF => ?_) (fun hF => ?_)
            · exact hK1 _ _ _ _ _ _ (lv_sub hl [0, 1, 2] rfl) hw hF
            refine lv_aload_n (pc := 80) hx hb dX7_commands_80 rfl (lv_at hl 2 rfl) ?_
            refine gg_X7_9 (pc := 81) hx hb hown hV hw (gw_1027 hV) dX7_commands_81 ?_
            refine gx_if_ne (pc := 84) (tgt := 119) hx hb hF dX7_commands_84 (by decide) (fun hF => ?_) (fun hF => ?_)
            · exact hK1 _ _ _ _ _ _ (lv_sub hl [0, 1, 2] rfl) hw hF
            refine lv_aload_n (pc := 87) hx hb dX7_commands_87 rfl (lv_at hl 2 rfl) ?_
            refine lv_bipush (pc := 88) (v := 6) hx hb dX7_commands_88 (by decide) ?_
            refine lv_aload_n (pc := 90) hx hb dX7_commands_90 rfl (lv_at hl 2 rfl) ?_
            refine gg_X7_8 (pc := 91) hx hb hown hV hw (gw_1026 hV) dX7_commands_91 ?_
            refine lv_imul (pc := 94) hx hb dX7_commands_94 ?_
            obtain ⟨uq_7, huq_7, hF⟩ := Option.bind_eq_some_iff.mp hF
            refine cl_X7_carries (pc := 95) hx hb hml hown hV hw huq_7 (gw_1313 hV) hl.1 (Nat.le_of_ble_eq_true rfl) (Nat.le_of_ble_eq_true rfl) (Nat.le_of_ble_eq_true rfl) dX7_commands_95 (fun H locs hw => ?_)
            refine lv_istore_n (pc := 98) (lv' := [(2, .int uq_7.1), (1, .int (gx_bi uq_1.1)), (0, .ref (G.2.1 58))]) hx hb dX7_commands_98 rfl hl (by decide) rfl (fun ls hl => ?_)
            refine lv_aload_n (pc := 99) hx hb dX7_commands_99 rfl (lv_at hl 2 rfl) ?_
            refine gg_X7_9 (pc := 100) hx hb hown hV hw (gw_1027 hV) dX7_commands_100 ?_
            refine gx_if_ne (pc := 103) (tgt := 69) hx hb hF dX7_commands_103 (by decide) (fun hF => ?_) (fun hF => ?_)
            · exact ih1 _ _ _ _ _ _ _ (lv_sub hl [0, 1, 2] rfl) hw hF hK1
            refine lv_aload_n (pc := 106) hx hb dX7_commands_106 rfl (lv_at hl 2 rfl) ?_
            refine lv_dup (pc := 107) hx hb dX7_commands_107 rfl ?_
            refine gg_X7_8 (pc := 108) hx hb hown hV hw (gw_1026 hV) dX7_commands_108 ?_
            refine lv_iconst (pc := 111) (v := 1) hx hb dX7_commands_111 (by decide) ?_
            refine lv_iadd (pc := 112) hx hb dX7_commands_112 ?_
            refine gp_X7_8 (pc := 113) hx hb hown hV hw (gw_1026 hV) dX7_commands_113 (fun H locs hw => ?_)
            refine lv_goto (pc := 116) (tgt := 69) hx hb dX7_commands_116 (by decide) ?_
            exact ih1 _ _ _ _ _ _ _ (lv_sub hl [0, 1, 2] rfl) hw hF hK1
        refine L1 1000 _ _ _ _ _ _ _ hl hw hF (fun uv_8 uI_9 uV_10 H locs ls hl hw hF => ?_)
        refine lv_aload_n (pc := 119) hx hb dX7_commands_119 rfl (lv_at hl 2 rfl) ?_
        refine lv_iconst (pc := 120) (v := 0) hx hb dX7_commands_120 (by decide) ?_
        refine gp_X7_7 (pc := 121) hx hb hown hV hw rfl rfl (gw_1025 hV) dX7_commands_121 (fun H locs hw => ?_)
        refine lv_aload_n (pc := 124) hx hb dX7_commands_124 rfl (lv_at hl 2 rfl) ?_
        refine gg_X7_9 (pc := 125) hx hb hown hV hw (gw_1027 hV) dX7_commands_125 ?_
        refine gx_if_le (pc := 128) (tgt := 159) hx hb hF dX7_commands_128 (by decide) (fun hF => ?_) (fun hF => ?_)
        · refine lv_aload_n (pc := 159) hx hb dX7_commands_159 rfl (lv_at hl 2 rfl) ?_
          refine lv_aload_n (pc := 160) hx hb dX7_commands_160 rfl (lv_at hl 2 rfl) ?_
          refine gg_X7_3 (pc := 161) hx hb hown hV hw (gw_1021 hV) dX7_commands_161 ?_
          obtain ⟨uq_11, huq_11, hF⟩ := Option.bind_eq_some_iff.mp hF
          refine cl_X7_keeps (pc := 164) hx hb hml hown hV hw gx_a62 huq_11 (gw_1100 hV) hl.1 (Nat.le_of_ble_eq_true rfl) (Nat.le_of_ble_eq_true rfl) (Nat.le_of_ble_eq_true rfl) dX7_commands_164 (fun H locs hw => ?_)
          refine lv_aload_n (pc := 167) hx hb dX7_commands_167 rfl (lv_at hl 2 rfl) ?_
          refine gg_X7_21 (pc := 168) hx hb hown hV hw (gw_1039 hV) dX7_commands_168 ?_
          cases hF
          exact gx_iret hx hb hr hlocks hw dX7_commands_171
        refine lv_aload_n (pc := 131) hx hb dX7_commands_131 rfl (lv_at hl 2 rfl) ?_
        refine gg_X7_3 (pc := 132) hx hb hown hV hw (gw_1021 hV) dX7_commands_132 ?_
        refine lv_iconst (pc := 135) (v := 0) hx hb dX7_commands_135 (by decide) ?_
        refine lv_aload_n (pc := 136) hx hb dX7_commands_136 rfl (lv_at hl 2 rfl) ?_
        refine gg_X7_0 (pc := 137) hx hb hown hV hw (gw_1018 hV) dX7_commands_137 ?_
        refine lv_iconst (pc := 140) (v := 0) hx hb dX7_commands_140 (by decide) ?_
        obtain ⟨uq_12, huq_12, hF⟩ := Option.bind_eq_some_iff.mp hF
        refine cl_X7_copies (pc := 141) hx hb hml hown hV hw gx_a62 gx_a59 huq_12 (gw_1104 hV) hl.1 (Nat.le_of_ble_eq_true rfl) (Nat.le_of_ble_eq_true rfl) (Nat.le_of_ble_eq_true rfl) dX7_commands_141 (fun H locs hw => ?_)
        refine lv_aload_n (pc := 144) hx hb dX7_commands_144 rfl (lv_at hl 2 rfl) ?_
        refine lv_iconst (pc := 145) (v := 2) hx hb dX7_commands_145 (by decide) ?_
        refine gp_X7_9 (pc := 146) hx hb hown hV hw (gw_1027 hV) dX7_commands_146 (fun H locs hw => ?_)
        refine lv_iload_n (pc := 149) hx hb dX7_commands_149 rfl (lv_at hl 0 rfl) ?_
        refine gx_if_le (pc := 150) (tgt := 157) hx hb hF dX7_commands_150 (by decide) (fun hF => ?_) (fun hF => ?_)
        · refine lv_iload_n (pc := 157) hx hb dX7_commands_157 rfl (lv_at hl 0 rfl) ?_
          cases hF
          exact gx_iret hx hb hr hlocks hw dX7_commands_158
        refine lv_iconst (pc := 153) (v := 0) hx hb dX7_commands_153 (by decide) ?_
        refine lv_goto (pc := 154) (tgt := 158) hx hb dX7_commands_154 (by decide) ?_
        cases hF
        exact gx_iret hx hb hr hlocks hw dX7_commands_158
      refine lv_iconst (pc := 42) (v := 0) hx hb dX7_commands_42 (by decide) ?_
      cases hF
      exact gx_iret hx hb hr hlocks hw dX7_commands_43
    refine lv_iconst (pc := 31) (v := 0) hx hb dX7_commands_31 (by decide) ?_
    refine lv_goto (pc := 32) (tgt := 36) hx hb dX7_commands_32 (by decide) ?_
    obtain ⟨uq_13, huq_13, hF⟩ := Option.bind_eq_some_iff.mp hF
    refine cl_X7_fails (pc := 36) hx hb hml hown hV hw huq_13 (gw_1193 hV) hl.1 (Nat.le_of_ble_eq_true rfl) (Nat.le_of_ble_eq_true rfl) (Nat.le_of_ble_eq_true rfl) dX7_commands_36 (fun H locs hw => ?_)
    refine gx_if_eq (pc := 39) (tgt := 44) hx hb hF dX7_commands_39 (by decide) (fun hF => ?_) (fun hF => ?_)
    · refine lv_aload_n (pc := 44) hx hb dX7_commands_44 rfl (lv_at hl 1 rfl) ?_
      refine gg_X7_0 (pc := 45) hx hb hown hV hw (gw_1018 hV) dX7_commands_45 ?_
      refine lv_iconst (pc := 48) (v := 0) hx hb dX7_commands_48 (by decide) ?_
      refine lv_aload_n (pc := 49) hx hb dX7_commands_49 rfl (lv_at hl 1 rfl) ?_
      refine gg_X7_3 (pc := 50) hx hb hown hV hw (gw_1021 hV) dX7_commands_50 ?_
      refine lv_iconst (pc := 53) (v := 0) hx hb dX7_commands_53 (by decide) ?_
      obtain ⟨uq_14, huq_14, hF⟩ := Option.bind_eq_some_iff.mp hF
      refine cl_X7_copies (pc := 54) hx hb hml hown hV hw gx_a59 gx_a62 huq_14 (gw_1104 hV) hl.1 (Nat.le_of_ble_eq_true rfl) (Nat.le_of_ble_eq_true rfl) (Nat.le_of_ble_eq_true rfl) dX7_commands_54 (fun H locs hw => ?_)
      refine lv_aload_n (pc := 57) hx hb dX7_commands_57 rfl (lv_at hl 1 rfl) ?_
      refine lv_iconst (pc := 58) (v := 1) hx hb dX7_commands_58 (by decide) ?_
      refine gp_X7_7 (pc := 59) hx hb hown hV hw rfl rfl (gw_1025 hV) dX7_commands_59 (fun H locs hw => ?_)
      refine lv_aload_n (pc := 62) hx hb dX7_commands_62 rfl (lv_at hl 1 rfl) ?_
      refine lv_iconst (pc := 63) (v := 0) hx hb dX7_commands_63 (by decide) ?_
      refine gp_X7_8 (pc := 64) hx hb hown hV hw (gw_1026 hV) dX7_commands_64 (fun H locs hw => ?_)
      refine lv_iconst (pc := 67) (v := 0) hx hb dX7_commands_67 (by decide) ?_
      refine lv_istore_n (pc := 68) (lv' := [(2, .int 0), (1, .int (gx_bi uq_1.1)), (0, .ref (G.2.1 58))]) hx hb dX7_commands_68 rfl hl (by decide) rfl (fun ls hl => ?_)
      have L2 : ∀ (n : Nat) (K2 : Int32 → gx_F → gx_F → Option (Int32 × gx_F × gx_F)) (uv_15 : Int32) (uI_16 : gx_F) (uV_17 : gx_F) (H : Heap) (locs : List Loc) (ls : Array Slot), lv_has ls 3 [(2, .int uv_15), (1, .int (gx_bi uq_1.1)), (0, .ref (G.2.1 58))] → gx_at G C (uI_16, uV_17) o d s.heap H locs → f_X7_commands_L2 K2 n uv_15 uI_16 uV_17 = some out → (∀ (uv_15 : Int32) (uI_16 : gx_F) (uV_17 : gx_F) (H : Heap) (locs : List Loc) (ls : Array Slot), lv_has ls 3 [(2, .int uv_15), (1, .int (gx_bi uq_1.1)), (0, .ref (G.2.1 58))] → gx_at G C (uI_16, uV_17) o d s.heap H locs → K2 uv_15 uI_16 uV_17 = some out → W p l e ({ frames := 9, cells := 0, slots := 0, locals := 202 } : Room) s m ([.ref (G.2.1 58)] : List Value).toArray below meth c H locs 0 0 (MQ below (gx_Qi G out.1 C (out.2.1, out.2.2) o d) ([.ref (G.2.1 58)] : List Value).toArray s 0 0 (gx_A G)) (F0 m 119 ls [])) → W p l e ({ frames := 9, cells := 0, slots := 0, locals := 202 } : Room) s m ([.ref (G.2.1 58)] : List Value).toArray below meth c H locs 0 0 (MQ below (gx_Qi G out.1 C (out.2.1, out.2.2) o d) ([.ref (G.2.1 58)] : List Value).toArray s 0 0 (gx_A G)) (F0 m 69 ls []) := by
        intro n
        induction n with
        | zero =>
          intro K2 uv_15 uI_16 uV_17 H locs ls hl hw hF hK
          rw [f_X7_commands_L2] at hF
          cases hF
        | succ n ih2 =>
          intro K2 uv_15 uI_16 uV_17 H locs ls hl hw hF hK2
          rw [f_X7_commands_L2] at hF
          refine lv_aload_n (pc := 69) hx hb dX7_commands_69 rfl (lv_at hl 2 rfl) ?_
          refine gg_X7_8 (pc := 70) hx hb hown hV hw (gw_1026 hV) dX7_commands_70 ?_
          refine lv_aload_n (pc := 73) hx hb dX7_commands_73 rfl (lv_at hl 2 rfl) ?_
          refine gg_X7_21 (pc := 74) hx hb hown hV hw (gw_1039 hV) dX7_commands_74 ?_
          refine gx_icmp_ge (pc := 77) (tgt := 119) hx hb hF dX7_commands_77 (by decide) (fun hF => ?_) (fun hF => ?_)
          · exact hK2 _ _ _ _ _ _ (lv_sub hl [0, 1, 2] rfl) hw hF
          refine lv_aload_n (pc := 80) hx hb dX7_commands_80 rfl (lv_at hl 2 rfl) ?_
          refine gg_X7_9 (pc := 81) hx hb hown hV hw (gw_1027 hV) dX7_commands_81 ?_
          refine gx_if_ne (pc := 84) (tgt := 119) hx hb hF dX7_commands_84 (by decide) (fun hF => ?_) (fun hF => ?_)
          · exact hK2 _ _ _ _ _ _ (lv_sub hl [0, 1, 2] rfl) hw hF
          refine lv_aload_n (pc := 87) hx hb dX7_commands_87 rfl (lv_at hl 2 rfl) ?_
          refine lv_bipush (pc := 88) (v := 6) hx hb dX7_commands_88 (by decide) ?_
          refine lv_aload_n (pc := 90) hx hb dX7_commands_90 rfl (lv_at hl 2 rfl) ?_
          refine gg_X7_8 (pc := 91) hx hb hown hV hw (gw_1026 hV) dX7_commands_91 ?_
          refine lv_imul (pc := 94) hx hb dX7_commands_94 ?_
          obtain ⟨uq_18, huq_18, hF⟩ := Option.bind_eq_some_iff.mp hF
          refine cl_X7_carries (pc := 95) hx hb hml hown hV hw huq_18 (gw_1313 hV) hl.1 (Nat.le_of_ble_eq_true rfl) (Nat.le_of_ble_eq_true rfl) (Nat.le_of_ble_eq_true rfl) dX7_commands_95 (fun H locs hw => ?_)
          refine lv_istore_n (pc := 98) (lv' := [(2, .int uq_18.1), (1, .int (gx_bi uq_1.1)), (0, .ref (G.2.1 58))]) hx hb dX7_commands_98 rfl hl (by decide) rfl (fun ls hl => ?_)
          refine lv_aload_n (pc := 99) hx hb dX7_commands_99 rfl (lv_at hl 2 rfl) ?_
          refine gg_X7_9 (pc := 100) hx hb hown hV hw (gw_1027 hV) dX7_commands_100 ?_
          refine gx_if_ne (pc := 103) (tgt := 69) hx hb hF dX7_commands_103 (by decide) (fun hF => ?_) (fun hF => ?_)
          · exact ih2 _ _ _ _ _ _ _ (lv_sub hl [0, 1, 2] rfl) hw hF hK2
          refine lv_aload_n (pc := 106) hx hb dX7_commands_106 rfl (lv_at hl 2 rfl) ?_
          refine lv_dup (pc := 107) hx hb dX7_commands_107 rfl ?_
          refine gg_X7_8 (pc := 108) hx hb hown hV hw (gw_1026 hV) dX7_commands_108 ?_
          refine lv_iconst (pc := 111) (v := 1) hx hb dX7_commands_111 (by decide) ?_
          refine lv_iadd (pc := 112) hx hb dX7_commands_112 ?_
          refine gp_X7_8 (pc := 113) hx hb hown hV hw (gw_1026 hV) dX7_commands_113 (fun H locs hw => ?_)
          refine lv_goto (pc := 116) (tgt := 69) hx hb dX7_commands_116 (by decide) ?_
          exact ih2 _ _ _ _ _ _ _ (lv_sub hl [0, 1, 2] rfl) hw hF hK2
      refine L2 1000 _ _ _ _ _ _ _ hl hw hF (fun uv_19 uI_20 uV_21 H locs ls hl hw hF => ?_)
      refine lv_aload_n (pc := 119) hx hb dX7_commands_119 rfl (lv_at hl 2 rfl) ?_
      refine lv_iconst (pc := 120) (v := 0) hx hb dX7_commands_120 (by decide) ?_
      refine gp_X7_7 (pc := 121) hx hb hown hV hw rfl rfl (gw_1025 hV) dX7_commands_121 (fun H locs hw => ?_)
      refine lv_aload_n (pc := 124) hx hb dX7_commands_124 rfl (lv_at hl 2 rfl) ?_
      refine gg_X7_9 (pc := 125) hx hb hown hV hw (gw_1027 hV) dX7_commands_125 ?_
      refine gx_if_le (pc := 128) (tgt := 159) hx hb hF dX7_commands_128 (by decide) (fun hF => ?_) (fun hF => ?_)
      · refine lv_aload_n (pc := 159) hx hb dX7_commands_159 rfl (lv_at hl 2 rfl) ?_
        refine lv_aload_n (pc := 160) hx hb dX7_commands_160 rfl (lv_at hl 2 rfl) ?_
        refine gg_X7_3 (pc := 161) hx hb hown hV hw (gw_1021 hV) dX7_commands_161 ?_
        obtain ⟨uq_22, huq_22, hF⟩ := Option.bind_eq_some_iff.mp hF
        refine cl_X7_keeps (pc := 164) hx hb hml hown hV hw gx_a62 huq_22 (gw_1100 hV) hl.1 (Nat.le_of_ble_eq_true rfl) (Nat.le_of_ble_eq_true rfl) (Nat.le_of_ble_eq_true rfl) dX7_commands_164 (fun H locs hw => ?_)
        refine lv_aload_n (pc := 167) hx hb dX7_commands_167 rfl (lv_at hl 2 rfl) ?_
        refine gg_X7_21 (pc := 168) hx hb hown hV hw (gw_1039 hV) dX7_commands_168 ?_
        cases hF
        exact gx_iret hx hb hr hlocks hw dX7_commands_171
      refine lv_aload_n (pc := 131) hx hb dX7_commands_131 rfl (lv_at hl 2 rfl) ?_
      refine gg_X7_3 (pc := 132) hx hb hown hV hw (gw_1021 hV) dX7_commands_132 ?_
      refine lv_iconst (pc := 135) (v := 0) hx hb dX7_commands_135 (by decide) ?_
      refine lv_aload_n (pc := 136) hx hb dX7_commands_136 rfl (lv_at hl 2 rfl) ?_
      refine gg_X7_0 (pc := 137) hx hb hown hV hw (gw_1018 hV) dX7_commands_137 ?_
      refine lv_iconst (pc := 140) (v := 0) hx hb dX7_commands_140 (by decide) ?_
      obtain ⟨uq_23, huq_23, hF⟩ := Option.bind_eq_some_iff.mp hF
      refine cl_X7_copies (pc := 141) hx hb hml hown hV hw gx_a62 gx_a59 huq_23 (gw_1104 hV) hl.1 (Nat.le_of_ble_eq_true rfl) (Nat.le_of_ble_eq_true rfl) (Nat.le_of_ble_eq_true rfl) dX7_commands_141 (fun H locs hw => ?_)
      refine lv_aload_n (pc := 144) hx hb dX7_commands_144 rfl (lv_at hl 2 rfl) ?_
      refine lv_iconst (pc := 145) (v := 2) hx hb dX7_commands_145 (by decide) ?_
      refine gp_X7_9 (pc := 146) hx hb hown hV hw (gw_1027 hV) dX7_commands_146 (fun H locs hw => ?_)
      refine lv_iload_n (pc := 149) hx hb dX7_commands_149 rfl (lv_at hl 0 rfl) ?_
      refine gx_if_le (pc := 150) (tgt := 157) hx hb hF dX7_commands_150 (by decide) (fun hF => ?_) (fun hF => ?_)
      · refine lv_iload_n (pc := 157) hx hb dX7_commands_157 rfl (lv_at hl 0 rfl) ?_
        cases hF
        exact gx_iret hx hb hr hlocks hw dX7_commands_158
      refine lv_iconst (pc := 153) (v := 0) hx hb dX7_commands_153 (by decide) ?_
      refine lv_goto (pc := 154) (tgt := 158) hx hb dX7_commands_154 (by decide) ?_
      cases hF
      exact gx_iret hx hb hr hlocks hw dX7_commands_158
    refine lv_iconst (pc := 42) (v := 0) hx hb dX7_commands_42 (by decide) ?_
    cases hF
    exact gx_iret hx hb hr hlocks hw dX7_commands_43
  refine lv_iconst (pc := 10) (v := (-1)) hx hb dX7_commands_10 (by decide) ?_
  refine lv_goto (pc := 11) (tgt := 18) hx hb dX7_commands_11 (by decide) ?_
  refine gp_X7_15 (pc := 18) hx hb hown hV hw (gw_1033 hV) dX7_commands_18 (fun H locs hw => ?_)
  refine lv_aload_n (pc := 21) hx hb dX7_commands_21 rfl (lv_at hl 1 rfl) ?_
  refine lv_iconst (pc := 22) (v := 0) hx hb dX7_commands_22 (by decide) ?_
  refine gp_X7_14 (pc := 23) hx hb hown hV hw (gw_1032 hV) dX7_commands_23 (fun H locs hw => ?_)
  refine lv_aload_n (pc := 26) hx hb dX7_commands_26 rfl (lv_at hl 1 rfl) ?_
  refine lv_iload_n (pc := 27) hx hb dX7_commands_27 rfl (lv_at hl 0 rfl) ?_
  refine gx_if_eq (pc := 28) (tgt := 35) hx hb hF dX7_commands_28 (by decide) (fun hF => ?_) (fun hF => ?_)
  · refine lv_iconst (pc := 35) (v := 1) hx hb dX7_commands_35 (by decide) ?_
    obtain ⟨uq_24, huq_24, hF⟩ := Option.bind_eq_some_iff.mp hF
    refine cl_X7_fails (pc := 36) hx hb hml hown hV hw huq_24 (gw_1193 hV) hl.1 (Nat.le_of_ble_eq_true rfl) (Nat.le_of_ble_eq_true rfl) (Nat.le_of_ble_eq_true rfl) dX7_commands_36 (fun H locs hw => ?_)
    refine gx_if_eq (pc := 39) (tgt := 44) hx hb hF dX7_commands_39 (by decide) (fun hF => ?_) (fun hF => ?_)
    · refine lv_aload_n (pc := 44) hx hb dX7_commands_44 rfl (lv_at hl 1 rfl) ?_
      refine gg_X7_0 (pc := 45) hx hb hown hV hw (gw_1018 hV) dX7_commands_45 ?_
      refine lv_iconst (pc := 48) (v := 0) hx hb dX7_commands_48 (by decide) ?_
      refine lv_aload_n (pc := 49) hx hb dX7_commands_49 rfl (lv_at hl 1 rfl) ?_
      refine gg_X7_3 (pc := 50) hx hb hown hV hw (gw_1021 hV) dX7_commands_50 ?_
      refine lv_iconst (pc := 53) (v := 0) hx hb dX7_commands_53 (by decide) ?_
      obtain ⟨uq_25, huq_25, hF⟩ := Option.bind_eq_some_iff.mp hF
      refine cl_X7_copies (pc := 54) hx hb hml hown hV hw gx_a59 gx_a62 huq_25 (gw_1104 hV) hl.1 (Nat.le_of_ble_eq_true rfl) (Nat.le_of_ble_eq_true rfl) (Nat.le_of_ble_eq_true rfl) dX7_commands_54 (fun H locs hw => ?_)
      refine lv_aload_n (pc := 57) hx hb dX7_commands_57 rfl (lv_at hl 1 rfl) ?_
      refine lv_iconst (pc := 58) (v := 1) hx hb dX7_commands_58 (by decide) ?_
      refine gp_X7_7 (pc := 59) hx hb hown hV hw rfl rfl (gw_1025 hV) dX7_commands_59 (fun H locs hw => ?_)
      refine lv_aload_n (pc := 62) hx hb dX7_commands_62 rfl (lv_at hl 1 rfl) ?_
      refine lv_iconst (pc := 63) (v := 0) hx hb dX7_commands_63 (by decide) ?_
      refine gp_X7_8 (pc := 64) hx hb hown hV hw (gw_1026 hV) dX7_commands_64 (fun H locs hw => ?_)
      refine lv_iconst (pc := 67) (v := 0) hx hb dX7_commands_67 (by decide) ?_
      refine lv_istore_n (pc := 68) (lv' := [(2, .int 0), (1, .int (gx_bi uq_1.1)), (0, .ref (G.2.1 58))]) hx hb dX7_commands_68 rfl hl (by decide) rfl (fun ls hl => ?_)
      have L3 : ∀ (n : Nat) (K3 : Int32 → gx_F → gx_F → Option (Int32 × gx_F × gx_F)) (uv_26 : Int32) (uI_27 : gx_F) (uV_28 : gx_F) (H : Heap) (locs : List Loc) (ls : Array Slot), lv_has ls 3 [(2, .int uv_26), (1, .int (gx_bi uq_1.1)), (0, .ref (G.2.1 58))] → gx_at G C (uI_27, uV_28) o d s.heap H locs → f_X7_commands_L3 K3 n uv_26 uI_27 uV_28 = some out → (∀ (uv_26 : Int32) (uI_27 : gx_F) (uV_28 : gx_F) (H : Heap) (locs : List Loc) (ls : Array Slot), lv_has ls 3 [(2, .int uv_26), (1, .int (gx_bi uq_1.1)), (0, .ref (G.2.1 58))] → gx_at G C (uI_27, uV_28) o d s.heap H locs → K3 uv_26 uI_27 uV_28 = some out → W p l e ({ frames := 9, cells := 0, slots := 0, locals := 202 } : Room) s m ([.ref (G.2.1 58)] : List Value).toArray below meth c H locs 0 0 (MQ below (gx_Qi G out.1 C (out.2.1, out.2.2) o d) ([.ref (G.2.1 58)] : List Value).toArray s 0 0 (gx_A G)) (F0 m 119 ls [])) → W p l e ({ frames := 9, cells := 0, slots := 0, locals := 202 } : Room) s m ([.ref (G.2.1 58)] : List Value).toArray below meth c H locs 0 0 (MQ below (gx_Qi G out.1 C (out.2.1, out.2.2) o d) ([.ref (G.2.1 58)] : List Value).toArray s 0 0 (gx_A G)) (F0 m 69 ls []) := by
        intro n
        induction n with
        | zero =>
          intro K3 uv_26 uI_27 uV_28 H locs ls hl hw hF hK
          rw [f_X7_commands_L3] at hF
          cases hF
        | succ n ih3 =>
          intro K3 uv_26 uI_27 uV_28 H locs ls hl hw hF hK3
          rw [f_X7_commands_L3] at hF
          refine lv_aload_n (pc := 69) hx hb dX7_commands_69 rfl (lv_at hl 2 rfl) ?_
          refine gg_X7_8 (pc := 70) hx hb hown hV hw (gw_1026 hV) dX7_commands_70 ?_
          refine lv_aload_n (pc := 73) hx hb dX7_commands_73 rfl (lv_at hl 2 rfl) ?_
          refine gg_X7_21 (pc := 74) hx hb hown hV hw (gw_1039 hV) dX7_commands_74 ?_
          refine gx_icmp_ge (pc := 77) (tgt := 119) hx hb hF dX7_commands_77 (by decide) (fun hF => ?_) (fun hF => ?_)
          · exact hK3 _ _ _ _ _ _ (lv_sub hl [0, 1, 2] rfl) hw hF
          refine lv_aload_n (pc := 80) hx hb dX7_commands_80 rfl (lv_at hl 2 rfl) ?_
          refine gg_X7_9 (pc := 81) hx hb hown hV hw (gw_1027 hV) dX7_commands_81 ?_
          refine gx_if_ne (pc := 84) (tgt := 119) hx hb hF dX7_commands_84 (by decide) (fun hF => ?_) (fun hF => ?_)
          · exact hK3 _ _ _ _ _ _ (lv_sub hl [0, 1, 2] rfl) hw hF
          refine lv_aload_n (pc := 87) hx hb dX7_commands_87 rfl (lv_at hl 2 rfl) ?_
          refine lv_bipush (pc := 88) (v := 6) hx hb dX7_commands_88 (by decide) ?_
          refine lv_aload_n (pc := 90) hx hb dX7_commands_90 rfl (lv_at hl 2 rfl) ?_
          refine gg_X7_8 (pc := 91) hx hb hown hV hw (gw_1026 hV) dX7_commands_91 ?_
          refine lv_imul (pc := 94) hx hb dX7_commands_94 ?_
          obtain ⟨uq_29, huq_29, hF⟩ := Option.bind_eq_some_iff.mp hF
          refine cl_X7_carries (pc := 95) hx hb hml hown hV hw huq_29 (gw_1313 hV) hl.1 (Nat.le_of_ble_eq_true rfl) (Nat.le_of_ble_eq_true rfl) (Nat.le_of_ble_eq_true rfl) dX7_commands_95 (fun H locs hw => ?_)
          refine lv_istore_n (pc := 98) (lv' := [(2, .int uq_29.1), (1, .int (gx_bi uq_1.1)), (0, .ref (G.2.1 58))]) hx hb dX7_commands_98 rfl hl (by decide) rfl (fun ls hl => ?_)
          refine lv_aload_n (pc := 99) hx hb dX7_commands_99 rfl (lv_at hl 2 rfl) ?_
          refine gg_X7_9 (pc := 100) hx hb hown hV hw (gw_1027 hV) dX7_commands_100 ?_
          refine gx_if_ne (pc := 103) (tgt := 69) hx hb hF dX7_commands_103 (by decide) (fun hF => ?_) (fun hF => ?_)
          · exact ih3 _ _ _ _ _ _ _ (lv_sub hl [0, 1, 2] rfl) hw hF hK3
          refine lv_aload_n (pc := 106) hx hb dX7_commands_106 rfl (lv_at hl 2 rfl) ?_
          refine lv_dup (pc := 107) hx hb dX7_commands_107 rfl ?_
          refine gg_X7_8 (pc := 108) hx hb hown hV hw (gw_1026 hV) dX7_commands_108 ?_
          refine lv_iconst (pc := 111) (v := 1) hx hb dX7_commands_111 (by decide) ?_
          refine lv_iadd (pc := 112) hx hb dX7_commands_112 ?_
          refine gp_X7_8 (pc := 113) hx hb hown hV hw (gw_1026 hV) dX7_commands_113 (fun H locs hw => ?_)
          refine lv_goto (pc := 116) (tgt := 69) hx hb dX7_commands_116 (by decide) ?_
          exact ih3 _ _ _ _ _ _ _ (lv_sub hl [0, 1, 2] rfl) hw hF hK3
      refine L3 1000 _ _ _ _ _ _ _ hl hw hF (fun uv_30 uI_31 uV_32 H locs ls hl hw hF => ?_)
      refine lv_aload_n (pc := 119) hx hb dX7_commands_119 rfl (lv_at hl 2 rfl) ?_
      refine lv_iconst (pc := 120) (v := 0) hx hb dX7_commands_120 (by decide) ?_
      refine gp_X7_7 (pc := 121) hx hb hown hV hw rfl rfl (gw_1025 hV) dX7_commands_121 (fun H locs hw => ?_)
      refine lv_aload_n (pc := 124) hx hb dX7_commands_124 rfl (lv_at hl 2 rfl) ?_
      refine gg_X7_9 (pc := 125) hx hb hown hV hw (gw_1027 hV) dX7_commands_125 ?_
      refine gx_if_le (pc := 128) (tgt := 159) hx hb hF dX7_commands_128 (by decide) (fun hF => ?_) (fun hF => ?_)
      · refine lv_aload_n (pc := 159) hx hb dX7_commands_159 rfl (lv_at hl 2 rfl) ?_
        refine lv_aload_n (pc := 160) hx hb dX7_commands_160 rfl (lv_at hl 2 rfl) ?_
        refine gg_X7_3 (pc := 161) hx hb hown hV hw (gw_1021 hV) dX7_commands_161 ?_
        obtain ⟨uq_33, huq_33, hF⟩ := Option.bind_eq_some_iff.mp hF
        refine cl_X7_keeps (pc := 164) hx hb hml hown hV hw gx_a62 huq_33 (gw_1100 hV) hl.1 (Nat.le_of_ble_eq_true rfl) (Nat.le_of_ble_eq_true rfl) (Nat.le_of_ble_eq_true rfl) dX7_commands_164 (fun H locs hw => ?_)
        refine lv_aload_n (pc := 167) hx hb dX7_commands_167 rfl (lv_at hl 2 rfl) ?_
        refine gg_X7_21 (pc := 168) hx hb hown hV hw (gw_1039 hV) dX7_commands_168 ?_
        cases hF
        exact gx_iret hx hb hr hlocks hw dX7_commands_171
      refine lv_aload_n (pc := 131) hx hb dX7_commands_131 rfl (lv_at hl 2 rfl) ?_
      refine gg_X7_3 (pc := 132) hx hb hown hV hw (gw_1021 hV) dX7_commands_132 ?_
      refine lv_iconst (pc := 135) (v := 0) hx hb dX7_commands_135 (by decide) ?_
      refine lv_aload_n (pc := 136) hx hb dX7_commands_136 rfl (lv_at hl 2 rfl) ?_
      refine gg_X7_0 (pc := 137) hx hb hown hV hw (gw_1018 hV) dX7_commands_137 ?_
      refine lv_iconst (pc := 140) (v := 0) hx hb dX7_commands_140 (by decide) ?_
      obtain ⟨uq_34, huq_34, hF⟩ := Option.bind_eq_some_iff.mp hF
      refine cl_X7_copies (pc := 141) hx hb hml hown hV hw gx_a62 gx_a59 huq_34 (gw_1104 hV) hl.1 (Nat.le_of_ble_eq_true rfl) (Nat.le_of_ble_eq_true rfl) (Nat.le_of_ble_eq_true rfl) dX7_commands_141 (fun H locs hw => ?_)
      refine lv_aload_n (pc := 144) hx hb dX7_commands_144 rfl (lv_at hl 2 rfl) ?_
      refine lv_iconst (pc := 145) (v := 2) hx hb dX7_commands_145 (by decide) ?_
      refine gp_X7_9 (pc := 146) hx hb hown hV hw (gw_1027 hV) dX7_commands_146 (fun H locs hw => ?_)
      refine lv_iload_n (pc := 149) hx hb dX7_commands_149 rfl (lv_at hl 0 rfl) ?_
      refine gx_if_le (pc := 150) (tgt := 157) hx hb hF dX7_commands_150 (by decide) (fun hF => ?_) (fun hF => ?_)
      · refine lv_iload_n (pc := 157) hx hb dX7_commands_157 rfl (lv_at hl 0 rfl) ?_
        cases hF
        exact gx_iret hx hb hr hlocks hw dX7_commands_158
      refine lv_iconst (pc := 153) (v := 0) hx hb dX7_commands_153 (by decide) ?_
      refine lv_goto (pc := 154) (tgt := 158) hx hb dX7_commands_154 (by decide) ?_
      cases hF
      exact gx_iret hx hb hr hlocks hw dX7_commands_158
    refine lv_iconst (pc := 42) (v := 0) hx hb dX7_commands_42 (by decide) ?_
    cases hF
    exact gx_iret hx hb hr hlocks hw dX7_commands_43
  refine lv_iconst (pc := 31) (v := 0) hx hb dX7_commands_31 (by decide) ?_
  refine lv_goto (pc := 32) (tgt := 36) hx hb dX7_commands_32 (by decide) ?_
  obtain ⟨uq_35, huq_35, hF⟩ := Option.bind_eq_some_iff.mp hF
  refine cl_X7_fails (pc := 36) hx hb hml hown hV hw huq_35 (gw_1193 hV) hl.1 (Nat.le_of_ble_eq_true rfl) (Nat.le_of_ble_eq_true rfl) (Nat.le_of_ble_eq_true rfl) dX7_commands_36 (fun H locs hw => ?_)
  refine gx_if_eq (pc := 39) (tgt := 44) hx hb hF dX7_commands_39 (by decide) (fun hF => ?_) (fun hF => ?_)
  · refine lv_aload_n (pc := 44) hx hb dX7_commands_44 rfl (lv_at hl 1 rfl) ?_
    refine gg_X7_0 (pc := 45) hx hb hown hV hw (gw_1018 hV) dX7_commands_45 ?_
    refine lv_iconst (pc := 48) (v := 0) hx hb dX7_commands_48 (by decide) ?_
    refine lv_aload_n (pc := 49) hx hb dX7_commands_49 rfl (lv_at hl 1 rfl) ?_
    refine gg_X7_3 (pc := 50) hx hb hown hV hw (gw_1021 hV) dX7_commands_50 ?_
    refine lv_iconst (pc := 53) (v := 0) hx hb dX7_commands_53 (by decide) ?_
    obtain ⟨uq_36, huq_36, hF⟩ := Option.bind_eq_some_iff.mp hF
    refine cl_X7_copies (pc := 54) hx hb hml hown hV hw gx_a59 gx_a62 huq_36 (gw_1104 hV) hl.1 (Nat.le_of_ble_eq_true rfl) (Nat.le_of_ble_eq_true rfl) (Nat.le_of_ble_eq_true rfl) dX7_commands_54 (fun H locs hw => ?_)
    refine lv_aload_n (pc := 57) hx hb dX7_commands_57 rfl (lv_at hl 1 rfl) ?_
    refine lv_iconst (pc := 58) (v := 1) hx hb dX7_commands_58 (by decide) ?_
    refine gp_X7_7 (pc := 59) hx hb hown hV hw rfl rfl (gw_1025 hV) dX7_commands_59 (fun H locs hw => ?_)
    refine lv_aload_n (pc := 62) hx hb dX7_commands_62 rfl (lv_at hl 1 rfl) ?_
    refine lv_iconst (pc := 63) (v := 0) hx hb dX7_commands_63 (by decide) ?_
    refine gp_X7_8 (pc := 64) hx hb hown hV hw (gw_1026 hV) dX7_commands_64 (fun H locs hw => ?_)
    refine lv_iconst (pc := 67) (v := 0) hx hb dX7_commands_67 (by decide) ?_
    refine lv_istore_n (pc := 68) (lv' := [(2, .int 0), (1, .int (gx_bi uq_1.1)), (0, .ref (G.2.1 58))]) hx hb dX7_commands_68 rfl hl (by decide) rfl (fun ls hl => ?_)
    have L4 : ∀ (n : Nat) (K4 : Int32 → gx_F → gx_F → Option (Int32 × gx_F × gx_F)) (uv_37 : Int32) (uI_38 : gx_F) (uV_39 : gx_F) (H : Heap) (locs : List Loc) (ls : Array Slot), lv_has ls 3 [(2, .int uv_37), (1, .int (gx_bi uq_1.1)), (0, .ref (G.2.1 58))] → gx_at G C (uI_38, uV_39) o d s.heap H locs → f_X7_commands_L4 K4 n uv_37 uI_38 uV_39 = some out → (∀ (uv_37 : Int32) (uI_38 : gx_F) (uV_39 : gx_F) (H : Heap) (locs : List Loc) (ls : Array Slot), lv_has ls 3 [(2, .int uv_37), (1, .int (gx_bi uq_1.1)), (0, .ref (G.2.1 58))] → gx_at G C (uI_38, uV_39) o d s.heap H locs → K4 uv_37 uI_38 uV_39 = some out → W p l e ({ frames := 9, cells := 0, slots := 0, locals := 202 } : Room) s m ([.ref (G.2.1 58)] : List Value).toArray below meth c H locs 0 0 (MQ below (gx_Qi G out.1 C (out.2.1, out.2.2) o d) ([.ref (G.2.1 58)] : List Value).toArray s 0 0 (gx_A G)) (F0 m 119 ls [])) → W p l e ({ frames := 9, cells := 0, slots := 0, locals := 202 } : Room) s m ([.ref (G.2.1 58)] : List Value).toArray below meth c H locs 0 0 (MQ below (gx_Qi G out.1 C (out.2.1, out.2.2) o d) ([.ref (G.2.1 58)] : List Value).toArray s 0 0 (gx_A G)) (F0 m 69 ls []) := by
      intro n
      induction n with
      | zero =>
        intro K4 uv_37 uI_38 uV_39 H locs ls hl hw hF hK
        rw [f_X7_commands_L4] at hF
        cases hF
      | succ n ih4 =>
        intro K4 uv_37 uI_38 uV_39 H locs ls hl hw hF hK4
        rw [f_X7_commands_L4] at hF
        refine lv_aload_n (pc := 69) hx hb dX7_commands_69 rfl (lv_at hl 2 rfl) ?_
        refine gg_X7_8 (pc := 70) hx hb hown hV hw (gw_1026 hV) dX7_commands_70 ?_
        refine lv_aload_n (pc := 73) hx hb dX7_commands_73 rfl (lv_at hl 2 rfl) ?_
        refine gg_X7_21 (pc := 74) hx hb hown hV hw (gw_1039 hV) dX7_commands_74 ?_
        refine gx_icmp_ge (pc := 77) (tgt := 119) hx hb hF dX7_commands_77 (by decide) (fun hF => ?_) (fun hF => ?_)
        · exact hK4 _ _ _ _ _ _ (lv_sub hl [0, 1, 2] rfl) hw hF
        refine lv_aload_n (pc := 80) hx hb dX7_commands_80 rfl (lv_at hl 2 rfl) ?_
        refine gg_X7_9 (pc := 81) hx hb hown hV hw (gw_1027 hV) dX7_commands_81 ?_
        refine gx_if_ne (pc := 84) (tgt := 119) hx hb hF dX7_commands_84 (by decide) (fun hF => ?_) (fun hF => ?_)
        · exact hK4 _ _ _ _ _ _ (lv_sub hl [0, 1, 2] rfl) hw hF
        refine lv_aload_n (pc := 87) hx hb dX7_commands_87 rfl (lv_at hl 2 rfl) ?_
        refine lv_bipush (pc := 88) (v := 6) hx hb dX7_commands_88 (by decide) ?_
        refine lv_aload_n (pc := 90) hx hb dX7_commands_90 rfl (lv_at hl 2 rfl) ?_
        refine gg_X7_8 (pc := 91) hx hb hown hV hw (gw_1026 hV) dX7_commands_91 ?_
        refine lv_imul (pc := 94) hx hb dX7_commands_94 ?_
        obtain ⟨uq_40, huq_40, hF⟩ := Option.bind_eq_some_iff.mp hF
        refine cl_X7_carries (pc := 95) hx hb hml hown hV hw huq_40 (gw_1313 hV) hl.1 (Nat.le_of_ble_eq_true rfl) (Nat.le_of_ble_eq_true rfl) (Nat.le_of_ble_eq_true rfl) dX7_commands_95 (fun H locs hw => ?_)
        refine lv_istore_n (pc := 98) (lv' := [(2, .int uq_40.1), (1, .int (gx_bi uq_1.1)), (0, .ref (G.2.1 58))]) hx hb dX7_commands_98 rfl hl (by decide) rfl (fun ls hl => ?_)
        refine lv_aload_n (pc := 99) hx hb dX7_commands_99 rfl (lv_at hl 2 rfl) ?_
        refine gg_X7_9 (pc := 100) hx hb hown hV hw (gw_1027 hV) dX7_commands_100 ?_
        refine gx_if_ne (pc := 103) (tgt := 69) hx hb hF dX7_commands_103 (by decide) (fun hF => ?_) (fun hF => ?_)
        · exact ih4 _ _ _ _ _ _ _ (lv_sub hl [0, 1, 2] rfl) hw hF hK4
        refine lv_aload_n (pc := 106) hx hb dX7_commands_106 rfl (lv_at hl 2 rfl) ?_
        refine lv_dup (pc := 107) hx hb dX7_commands_107 rfl ?_
        refine gg_X7_8 (pc := 108) hx hb hown hV hw (gw_1026 hV) dX7_commands_108 ?_
        refine lv_iconst (pc := 111) (v := 1) hx hb dX7_commands_111 (by decide) ?_
        refine lv_iadd (pc := 112) hx hb dX7_commands_112 ?_
        refine gp_X7_8 (pc := 113) hx hb hown hV hw (gw_1026 hV) dX7_commands_113 (fun H locs hw => ?_)
        refine lv_goto (pc := 116) (tgt := 69) hx hb dX7_commands_116 (by decide) ?_
        exact ih4 _ _ _ _ _ _ _ (lv_sub hl [0, 1, 2] rfl) hw hF hK4
    refine L4 1000 _ _ _ _ _ _ _ hl hw hF (fun uv_41 uI_42 uV_43 H locs ls hl hw hF => ?_)
    refine lv_aload_n (pc := 119) hx hb dX7_commands_119 rfl (lv_at hl 2 rfl) ?_
    refine lv_iconst (pc := 120) (v := 0) hx hb dX7_commands_120 (by decide) ?_
    refine gp_X7_7 (pc := 121) hx hb hown hV hw rfl rfl (gw_1025 hV) dX7_commands_121 (fun H locs hw => ?_)
    refine lv_aload_n (pc := 124) hx hb dX7_commands_124 rfl (lv_at hl 2 rfl) ?_
    refine gg_X7_9 (pc := 125) hx hb hown hV hw (gw_1027 hV) dX7_commands_125 ?_
    refine gx_if_le (pc := 128) (tgt := 159) hx hb hF dX7_commands_128 (by decide) (fun hF => ?_) (fun hF => ?_)
    · refine lv_aload_n (pc := 159) hx hb dX7_commands_159 rfl (lv_at hl 2 rfl) ?_
      refine lv_aload_n (pc := 160) hx hb dX7_commands_160 rfl (lv_at hl 2 rfl) ?_
      refine gg_X7_3 (pc := 161) hx hb hown hV hw (gw_1021 hV) dX7_commands_161 ?_
      obtain ⟨uq_44, huq_44, hF⟩ := Option.bind_eq_some_iff.mp hF
      refine cl_X7_keeps (pc := 164) hx hb hml hown hV hw gx_a62 huq_44 (gw_1100 hV) hl.1 (Nat.le_of_ble_eq_true rfl) (Nat.le_of_ble_eq_true rfl) (Nat.le_of_ble_eq_true rfl) dX7_commands_164 (fun H locs hw => ?_)
      refine lv_aload_n (pc := 167) hx hb dX7_commands_167 rfl (lv_at hl 2 rfl) ?_
      refine gg_X7_21 (pc := 168) hx hb hown hV hw (gw_1039 hV) dX7_commands_168 ?_
      cases hF
      exact gx_iret hx hb hr hlocks hw dX7_commands_171
    refine lv_aload_n (pc := 131) hx hb dX7_commands_131 rfl (lv_at hl 2 rfl) ?_
    refine gg_X7_3 (pc := 132) hx hb hown hV hw (gw_1021 hV) dX7_commands_132 ?_
    refine lv_iconst (pc := 135) (v := 0) hx hb dX7_commands_135 (by decide) ?_
    refine lv_aload_n (pc := 136) hx hb dX7_commands_136 rfl (lv_at hl 2 rfl) ?_
    refine gg_X7_0 (pc := 137) hx hb hown hV hw (gw_1018 hV) dX7_commands_137 ?_
    refine lv_iconst (pc := 140) (v := 0) hx hb dX7_commands_140 (by decide) ?_
    obtain ⟨uq_45, huq_45, hF⟩ := Option.bind_eq_some_iff.mp hF
    refine cl_X7_copies (pc := 141) hx hb hml hown hV hw gx_a62 gx_a59 huq_45 (gw_1104 hV) hl.1 (Nat.le_of_ble_eq_true rfl) (Nat.le_of_ble_eq_true rfl) (Nat.le_of_ble_eq_true rfl) dX7_commands_141 (fun H locs hw => ?_)
    refine lv_aload_n (pc := 144) hx hb dX7_commands_144 rfl (lv_at hl 2 rfl) ?_
    refine lv_iconst (pc := 145) (v := 2) hx hb dX7_commands_145 (by decide) ?_
    refine gp_X7_9 (pc := 146) hx hb hown hV hw (gw_1027 hV) dX7_commands_146 (fun H locs hw => ?_)
    refine lv_iload_n (pc := 149) hx hb dX7_commands_149 rfl (lv_at hl 0 rfl) ?_
    refine gx_if_le (pc := 150) (tgt := 157) hx hb hF dX7_commands_150 (by decide) (fun hF => ?_) (fun hF => ?_)
    · refine lv_iload_n (pc := 157) hx hb dX7_commands_157 rfl (lv_at hl 0 rfl) ?_
      cases hF
      exact gx_iret hx hb hr hlocks hw dX7_commands_158
    refine lv_iconst (pc := 153) (v := 0) hx hb dX7_commands_153 (by decide) ?_
    refine lv_goto (pc := 154) (tgt := 158) hx hb dX7_commands_154 (by decide) ?_
    cases hF
    exact gx_iret hx hb hr hlocks hw dX7_commands_158
  refine lv_iconst (pc := 42) (v := 0) hx hb dX7_commands_42 (by decide) ?_
  cases hF
  exact gx_iret hx hb hr hlocks hw dX7_commands_43
set_option maxRecDepth 100000 in
theorem cl_X7_commands {l : Launch} {G : gx_G} {C : gx_S} {o : Int64} {d : UInt64} {I V : gx_F} {p : Program} {e : Env} {R : Room} {s : State} {m : MethodId} {args : Array Value} {below : List Frame} {meth : Method} {c : Code} {H : Heap} {locs : List Loc} {cells slots : Nat} {Q : State → Prop} {cc : ByteArray} {pc nL index : Nat} {ls : Array Slot} {rest : List Value} {own : String} {out : (Int32 × gx_F × gx_F)} (hx : p.tables.exec = Jvm.exec) (hb : c.code = cc) (hml : c.maxLocals = nL) (hown : s.vm.findClass own = some m.cls) (hV : gx_V G s) (hw : gx_at G C (I, V) o d s.heap H locs) (hF : f_X7_commands I V = some out) (hlink : (Cond.methodLink own index yX7_commands).before args s = true) (hsz : ls.size = nL) (hfr : 10 ≤ R.frames) (hlo : 224 ≤ R.locals) (hrest : (rest.map fun v => v.category).sum ≤ 8) (hdg : decode cc pc = .ok (.invokevirtual index, 3))
    (kk : ∀ (H1 : Heap) (locs1 : List Loc), gx_at G C (out.2.1, out.2.2) o d s.heap H1 locs1 → W p l e R s m args below meth c H1 locs1 cells slots Q (F0 m (pc + 3) ls (.int out.1 :: rest))) (hc : cells ≤ R.cells := by exact Nat.zero_le _) (hs : slots ≤ R.slots := by exact Nat.zero_le _) : W p l e R s m args below meth c H locs cells slots Q (F0 m pc ls (.ref (G.2.1 58) :: rest)) :=
  gx_runi hw (va_runV (C := RX7) (As := []) (rest := rest) ⟨hx, hb, hml, hown, (fun _ h => nomatch h : ∀ w ∈ ([] : List Cond), w.before args s = true)⟩ (k_X7_commands hF) ⟨gx_callB (n := 0) rfl rfl hlink (gw_56 hV) (gw_1288 hV) (by decide +kernel) ⟨hfr, hlo⟩, gw_1286 hV, gw_1287 hV⟩ (gx_recv (k := 58) (ci := 9) (T := TX7) hV hw (by decide) rfl rfl) rfl rfl hsz rfl (lv_room hrest) hdg ⟨hc, hs⟩) kk
set_option maxHeartbeats 4000000 in
set_option maxRecDepth 100000 in
theorem k_X7_faultPosition {l : Launch} {G : gx_G} {C : gx_S} {o : Int64} {d : UInt64} {I V : gx_F} {out : (Int32 × gx_F × gx_F)} (hF : f_X7_faultPosition I V = some out) : gx_K l yX7_faultPosition cX7_faultPosition 1 (some .int) { frames := 0, cells := 0, slots := 0, locals := 0 } [.ref (G.2.1 58)] G C (I, V) o d (gx_Qi G out.1 C (out.2.1, out.2.2) o d) 0 0 := by
  refine gx_begin (by decide +kernel) (Nat.le_of_ble_eq_true rfl) ?_
  intro p e s m below meth c hx hb hr hml hown hlocks hV hw ls hl
  have hown : s.vm.findClass RX7 = some m.cls := hown
  have hl : lv_has ls 1 [(0, .ref (G.2.1 58))] := hl
  unfold f_X7_faultPosition at hF
  refine lv_aload_n (pc := 0) hx hb dX7_faultPosition_0 rfl (lv_at hl 0 rfl) ?_
  refine lv_iconst (pc := 1) (v := 0) hx hb dX7_faultPosition_1 (by decide) ?_
  refine gp_X7_9 (pc := 2) hx hb hown hV hw (gw_1027 hV) dX7_faultPosition_2 (fun H locs hw => ?_)
  refine lv_aload_n (pc := 5) hx hb dX7_faultPosition_5 rfl (lv_at hl 0 rfl) ?_
  refine gg_X7_15 (pc := 6) hx hb hown hV hw (gw_1033 hV) dX7_faultPosition_6 ?_
  cases hF
  exact gx_iret hx hb hr hlocks hw dX7_faultPosition_9
set_option maxRecDepth 100000 in
theorem cl_X7_faultPosition {l : Launch} {G : gx_G} {C : gx_S} {o : Int64} {d : UInt64} {I V : gx_F} {p : Program} {e : Env} {R : Room} {s : State} {m : MethodId} {args : Array Value} {below : List Frame} {meth : Method} {c : Code} {H : Heap} {locs : List Loc} {cells slots : Nat} {Q : State → Prop} {cc : ByteArray} {pc nL index : Nat} {ls : Array Slot} {rest : List Value} {own : String} {out : (Int32 × gx_F × gx_F)} (hx : p.tables.exec = Jvm.exec) (hb : c.code = cc) (hml : c.maxLocals = nL) (hown : s.vm.findClass own = some m.cls) (hV : gx_V G s) (hw : gx_at G C (I, V) o d s.heap H locs) (hF : f_X7_faultPosition I V = some out) (hlink : (Cond.methodLink own index yX7_faultPosition).before args s = true) (hsz : ls.size = nL) (hfr : 1 ≤ R.frames) (hlo : 20 ≤ R.locals) (hrest : (rest.map fun v => v.category).sum ≤ 8) (hdg : decode cc pc = .ok (.invokevirtual index, 3))
    (kk : ∀ (H1 : Heap) (locs1 : List Loc), gx_at G C (out.2.1, out.2.2) o d s.heap H1 locs1 → W p l e R s m args below meth c H1 locs1 cells slots Q (F0 m (pc + 3) ls (.int out.1 :: rest))) (hc : cells ≤ R.cells := by exact Nat.zero_le _) (hs : slots ≤ R.slots := by exact Nat.zero_le _) : W p l e R s m args below meth c H locs cells slots Q (F0 m pc ls (.ref (G.2.1 58) :: rest)) :=
  gx_runi hw (va_runV (C := RX7) (As := []) (rest := rest) ⟨hx, hb, hml, hown, (fun _ h => nomatch h : ∀ w ∈ ([] : List Cond), w.before args s = true)⟩ (k_X7_faultPosition hF) ⟨gx_callB (n := 0) rfl rfl hlink (gw_56 hV) (gw_1326 hV) (by decide +kernel) ⟨hfr, hlo⟩, gw_1324 hV, gw_1325 hV⟩ (gx_recv (k := 58) (ci := 9) (T := TX7) hV hw (by decide) rfl rfl) rfl rfl hsz rfl (lv_room hrest) hdg ⟨hc, hs⟩) kk
set_option maxHeartbeats 4000000 in
set_option maxRecDepth 100000 in
theorem k_X7_reason {l : Launch} {G : gx_G} {C : gx_S} {o : Int64} {d : UInt64} {I V : gx_F} {x1 : Int32} {out : (Int32 × gx_F × gx_F)} (hF : f_X7_reason x1 I V = some out) : gx_K l yX7_reason cX7_reason 2 (some .int) { frames := 1, cells := 0, slots := 0, locals := 22 } [.ref (G.2.1 58), .int x1] G C (I, V) o d (gx_Qi G out.1 C (out.2.1, out.2.2) o d) 0 0 := by
  refine gx_begin (by decide +kernel) (Nat.le_of_ble_eq_true rfl) ?_
  intro p e s m below meth c hx hb hr hml hown hlocks hV hw ls hl
  have hown : s.vm.findClass RX7 = some m.cls := hown
  have hl : lv_has ls 2 [(0, .ref (G.2.1 58)), (1, .int x1)] := hl
  unfold f_X7_reason at hF
  refine lv_aload_n (pc := 0) hx hb dX7_reason_0 rfl (lv_at hl 0 rfl) ?_
  refine lv_iload_n (pc := 1) hx hb dX7_reason_1 rfl (lv_at hl 1 rfl) ?_
  refine lv_iconst (pc := 2) (v := 0) hx hb dX7_reason_2 (by decide) ?_
  refine lv_iconst (pc := 3) (v := 2) hx hb dX7_reason_3 (by decide) ?_
  obtain ⟨uq_1, huq_1, hF⟩ := Option.bind_eq_some_iff.mp hF
  refine cl_X7_in (pc := 4) hx hb hml hown hV hw huq_1 (gw_1093 hV) hl.1 (Nat.le_of_ble_eq_true rfl) (Nat.le_of_ble_eq_true rfl) (Nat.le_of_ble_eq_true rfl) dX7_reason_4 (fun H locs hw => ?_)
  refine gx_if_ne (pc := 7) (tgt := 14) hx hb hF dX7_reason_7 (by decide) (fun hF => ?_) (fun hF => ?_)
  · refine lv_aload_n (pc := 14) hx hb dX7_reason_14 rfl (lv_at hl 0 rfl) ?_
    refine gg_X7_10 (pc := 15) hx hb hown hV hw (gw_1028 hV) dX7_reason_15 ?_
    refine gx_if_ne (pc := 18) (tgt := 25) hx hb hF dX7_reason_18 (by decide) (fun hF => ?_) (fun hF => ?_)
    · refine lv_iconst (pc := 25) (v := 0) hx hb dX7_reason_25 (by decide) ?_
      obtain ⟨uq_2, huq_2, hF⟩ := Option.bind_eq_some_iff.mp hF
      refine cl_X7_fails (pc := 26) hx hb hml hown hV hw huq_2 (gw_1193 hV) hl.1 (Nat.le_of_ble_eq_true rfl) (Nat.le_of_ble_eq_true rfl) (Nat.le_of_ble_eq_true rfl) dX7_reason_26 (fun H locs hw => ?_)
      refine gx_if_eq (pc := 29) (tgt := 36) hx hb hF dX7_reason_29 (by decide) (fun hF => ?_) (fun hF => ?_)
      · refine lv_iload_n (pc := 36) hx hb dX7_reason_36 rfl (lv_at hl 1 rfl) ?_
        refine gx_if_ne (pc := 37) (tgt := 47) hx hb hF dX7_reason_37 (by decide) (fun hF => ?_) (fun hF => ?_)
        · refine lv_iload_n (pc := 47) hx hb dX7_reason_47 rfl (lv_at hl 1 rfl) ?_
          refine lv_iconst (pc := 48) (v := 1) hx hb dX7_reason_48 (by decide) ?_
          refine gx_icmp_ne (pc := 49) (tgt := 59) hx hb hF dX7_reason_49 (by decide) (fun hF => ?_) (fun hF => ?_)
          · refine lv_aload_n (pc := 59) hx hb dX7_reason_59 rfl (lv_at hl 0 rfl) ?_
            refine gg_X7_12 (pc := 60) hx hb hown hV hw (gw_1030 hV) dX7_reason_60 ?_
            cases hF
            exact gx_iret hx hb hr hlocks hw dX7_reason_63
          refine lv_aload_n (pc := 52) hx hb dX7_reason_52 rfl (lv_at hl 0 rfl) ?_
          refine gg_X7_11 (pc := 53) hx hb hown hV hw (gw_1029 hV) dX7_reason_53 ?_
          refine lv_goto (pc := 56) (tgt := 63) hx hb dX7_reason_56 (by decide) ?_
          cases hF
          exact gx_iret hx hb hr hlocks hw dX7_reason_63
        refine lv_aload_n (pc := 40) hx hb dX7_reason_40 rfl (lv_at hl 0 rfl) ?_
        refine gg_X7_10 (pc := 41) hx hb hown hV hw (gw_1028 hV) dX7_reason_41 ?_
        refine lv_goto (pc := 44) (tgt := 63) hx hb dX7_reason_44 (by decide) ?_
        cases hF
        exact gx_iret hx hb hr hlocks hw dX7_reason_63
      refine lv_iconst (pc := 32) (v := 0) hx hb dX7_reason_32 (by decide) ?_
      refine lv_goto (pc := 33) (tgt := 63) hx hb dX7_reason_33 (by decide) ?_
      cases hF
      exact gx_iret hx hb hr hlocks hw dX7_reason_63
    refine lv_iconst (pc := 21) (v := 2) hx hb dX7_reason_21 (by decide) ?_
    refine lv_goto (pc := 22) (tgt := 26) hx hb dX7_reason_22 (by decide) ?_
    obtain ⟨uq_3, huq_3, hF⟩ := Option.bind_eq_some_iff.mp hF
    refine cl_X7_fails (pc := 26) hx hb hml hown hV hw huq_3 (gw_1193 hV) hl.1 (Nat.le_of_ble_eq_true rfl) (Nat.le_of_ble_eq_true rfl) (Nat.le_of_ble_eq_true rfl) dX7_reason_26 (fun H locs hw => ?_)
    refine gx_if_eq (pc := 29) (tgt := 36) hx hb hF dX7_reason_29 (by decide) (fun hF => ?_) (fun hF => ?_)
    · refine lv_iload_n (pc := 36) hx hb dX7_reason_36 rfl (lv_at hl 1 rfl) ?_
      refine gx_if_ne (pc := 37) (tgt := 47) hx hb hF dX7_reason_37 (by decide) (fun hF => ?_) (fun hF => ?_)
      · refine lv_iload_n (pc := 47) hx hb dX7_reason_47 rfl (lv_at hl 1 rfl) ?_
        refine lv_iconst (pc := 48) (v := 1) hx hb dX7_reason_48 (by decide) ?_
        refine gx_icmp_ne (pc := 49) (tgt := 59) hx hb hF dX7_reason_49 (by decide) (fun hF => ?_) (fun hF => ?_)
        · refine lv_aload_n (pc := 59) hx hb dX7_reason_59 rfl (lv_at hl 0 rfl) ?_
          refine gg_X7_12 (pc := 60) hx hb hown hV hw (gw_1030 hV) dX7_reason_60 ?_
          cases hF
          exact gx_iret hx hb hr hlocks hw dX7_reason_63
        refine lv_aload_n (pc := 52) hx hb dX7_reason_52 rfl (lv_at hl 0 rfl) ?_
        refine gg_X7_11 (pc := 53) hx hb hown hV hw (gw_1029 hV) dX7_reason_53 ?_
        refine lv_goto (pc := 56) (tgt := 63) hx hb dX7_reason_56 (by decide) ?_
        cases hF
        exact gx_iret hx hb hr hlocks hw dX7_reason_63
      refine lv_aload_n (pc := 40) hx hb dX7_reason_40 rfl (lv_at hl 0 rfl) ?_
      refine gg_X7_10 (pc := 41) hx hb hown hV hw (gw_1028 hV) dX7_reason_41 ?_
      refine lv_goto (pc := 44) (tgt := 63) hx hb dX7_reason_44 (by decide) ?_
      cases hF
      exact gx_iret hx hb hr hlocks hw dX7_reason_63
    refine lv_iconst (pc := 32) (v := 0) hx hb dX7_reason_32 (by decide) ?_
    refine lv_goto (pc := 33) (tgt := 63) hx hb dX7_reason_33 (by decide) ?_
    cases hF
    exact gx_iret hx hb hr hlocks hw dX7_reason_63
  refine lv_iconst (pc := 10) (v := 1) hx hb dX7_reason_10 (by decide) ?_
  refine lv_goto (pc := 11) (tgt := 26) hx hb dX7_reason_11 (by decide) ?_
  obtain ⟨uq_4, huq_4, hF⟩ := Option.bind_eq_some_iff.mp hF
  refine cl_X7_fails (pc := 26) hx hb hml hown hV hw huq_4 (gw_1193 hV) hl.1 (Nat.le_of_ble_eq_true rfl) (Nat.le_of_ble_eq_true rfl) (Nat.le_of_ble_eq_true rfl) dX7_reason_26 (fun H locs hw => ?_)
  refine gx_if_eq (pc := 29) (tgt := 36) hx hb hF dX7_reason_29 (by decide) (fun hF => ?_) (fun hF => ?_)
  · refine lv_iload_n (pc := 36) hx hb dX7_reason_36 rfl (lv_at hl 1 rfl) ?_
    refine gx_if_ne (pc := 37) (tgt := 47) hx hb hF dX7_reason_37 (by decide) (fun hF => ?_) (fun hF => ?_)
    · refine lv_iload_n (pc := 47) hx hb dX7_reason_47 rfl (lv_at hl 1 rfl) ?_
      refine lv_iconst (pc := 48) (v := 1) hx hb dX7_reason_48 (by decide) ?_
      refine gx_icmp_ne (pc := 49) (tgt := 59) hx hb hF dX7_reason_49 (by decide) (fun hF => ?_) (fun hF => ?_)
      · refine lv_aload_n (pc := 59) hx hb dX7_reason_59 rfl (lv_at hl 0 rfl) ?_
        refine gg_X7_12 (pc := 60) hx hb hown hV hw (gw_1030 hV) dX7_reason_60 ?_
        cases hF
        exact gx_iret hx hb hr hlocks hw dX7_reason_63
      refine lv_aload_n (pc := 52) hx hb dX7_reason_52 rfl (lv_at hl 0 rfl) ?_
      refine gg_X7_11 (pc := 53) hx hb hown hV hw (gw_1029 hV) dX7_reason_53 ?_
      refine lv_goto (pc := 56) (tgt := 63) hx hb dX7_reason_56 (by decide) ?_
      cases hF
      exact gx_iret hx hb hr hlocks hw dX7_reason_63
    refine lv_aload_n (pc := 40) hx hb dX7_reason_40 rfl (lv_at hl 0 rfl) ?_
    refine gg_X7_10 (pc := 41) hx hb hown hV hw (gw_1028 hV) dX7_reason_41 ?_
    refine lv_goto (pc := 44) (tgt := 63) hx hb dX7_reason_44 (by decide) ?_
    cases hF
    exact gx_iret hx hb hr hlocks hw dX7_reason_63
  refine lv_iconst (pc := 32) (v := 0) hx hb dX7_reason_32 (by decide) ?_
  refine lv_goto (pc := 33) (tgt := 63) hx hb dX7_reason_33 (by decide) ?_
  cases hF
  exact gx_iret hx hb hr hlocks hw dX7_reason_63
set_option maxRecDepth 100000 in
theorem cl_X7_reason {l : Launch} {G : gx_G} {C : gx_S} {o : Int64} {d : UInt64} {I V : gx_F} {p : Program} {e : Env} {R : Room} {s : State} {m : MethodId} {args : Array Value} {below : List Frame} {meth : Method} {c : Code} {H : Heap} {locs : List Loc} {cells slots : Nat} {Q : State → Prop} {cc : ByteArray} {pc nL index : Nat} {ls : Array Slot} {rest : List Value} {own : String} {x1 : Int32} {out : (Int32 × gx_F × gx_F)} (hx : p.tables.exec = Jvm.exec) (hb : c.code = cc) (hml : c.maxLocals = nL) (hown : s.vm.findClass own = some m.cls) (hV : gx_V G s) (hw : gx_at G C (I, V) o d s.heap H locs) (hF : f_X7_reason x1 I V = some out) (hlink : (Cond.methodLink own index yX7_reason).before args s = true) (hsz : ls.size = nL) (hfr : 2 ≤ R.frames) (hlo : 43 ≤ R.locals) (hrest : (rest.map fun v => v.category).sum ≤ 8) (hdg : decode cc pc = .ok (.invokevirtual index, 3))
    (kk : ∀ (H1 : Heap) (locs1 : List Loc), gx_at G C (out.2.1, out.2.2) o d s.heap H1 locs1 → W p l e R s m args below meth c H1 locs1 cells slots Q (F0 m (pc + 3) ls (.int out.1 :: rest))) (hc : cells ≤ R.cells := by exact Nat.zero_le _) (hs : slots ≤ R.slots := by exact Nat.zero_le _) : W p l e R s m args below meth c H locs cells slots Q (F0 m pc ls (.int x1 :: .ref (G.2.1 58) :: rest)) :=
  gx_runi hw (va_runV (C := RX7) (As := [.int x1]) (rest := rest) ⟨hx, hb, hml, hown, (fun _ h => nomatch h : ∀ w ∈ ([] : List Cond), w.before args s = true)⟩ (k_X7_reason hF) ⟨gx_callB (n := 1) rfl rfl hlink (gw_56 hV) (gw_1330 hV) (by decide +kernel) ⟨hfr, hlo⟩, gw_1328 hV, gw_1329 hV⟩ (gx_recv (k := 58) (ci := 9) (T := TX7) hV hw (by decide) rfl rfl) rfl rfl hsz rfl (lv_room hrest) hdg ⟨hc, hs⟩) kk
set_option maxHeartbeats 4000000 in
set_option maxRecDepth 100000 in
theorem k_X7_writes {l : Launch} {G : gx_G} {C : gx_S} {o : Int64} {d : UInt64} {I V : gx_F} {x1 : Int32} {out : (gx_F × gx_F)} (hF : f_X7_writes x1 I V = some out) : gx_K l yX7_writes cX7_writes 2 none { frames := 0, cells := 0, slots := 0, locals := 0 } [.ref (G.2.1 58), .int x1] G C (I, V) o d (gx_Qv G C (out.1, out.2) o d) 0 0 := by
  refine gx_begin (by decide +kernel) (Nat.le_of_ble_eq_true rfl) ?_
  intro p e s m below meth c hx hb hr hml hown hlocks hV hw ls hl
  have hown : s.vm.findClass RX7 = some m.cls := hown
  have hl : lv_has ls 2 [(0, .ref (G.2.1 58)), (1, .int x1)] := hl
  unfold f_X7_writes at hF
  refine lv_aload_n (pc := 0) hx hb dX7_writes_0 rfl (lv_at hl 0 rfl) ?_
  refine gg_X7_16 (pc := 1) hx hb hown hV hw (gw_1034 hV) dX7_writes_1 ?_
  refine lv_aload_n (pc := 4) hx hb dX7_writes_4 rfl (lv_at hl 0 rfl) ?_
  refine gg_X7_17 (pc := 5) hx hb hown hV hw (gw_1035 hV) dX7_writes_5 ?_
  refine lv_iload_n (pc := 8) hx hb dX7_writes_8 rfl (lv_at hl 1 rfl) ?_
  refine lv_i2c (pc := 9) (v := (gx_i2c x1)) hx hb dX7_writes_9 rfl ?_
  refine ga_65_st (pc := 10) hx hb hV hw hF dX7_writes_10 (fun H locs hw hF => ?_)
  refine lv_aload_n (pc := 11) hx hb dX7_writes_11 rfl (lv_at hl 0 rfl) ?_
  refine lv_dup (pc := 12) hx hb dX7_writes_12 rfl ?_
  refine gg_X7_17 (pc := 13) hx hb hown hV hw (gw_1035 hV) dX7_writes_13 ?_
  refine lv_iconst (pc := 16) (v := 1) hx hb dX7_writes_16 (by decide) ?_
  refine lv_iadd (pc := 17) hx hb dX7_writes_17 ?_
  refine gp_X7_17 (pc := 18) hx hb hown hV hw (gw_1035 hV) dX7_writes_18 (fun H locs hw => ?_)
  cases hF
  exact gx_vret hx hb hr hlocks hw dX7_writes_21
set_option maxRecDepth 100000 in
theorem cl_X7_writes {l : Launch} {G : gx_G} {C : gx_S} {o : Int64} {d : UInt64} {I V : gx_F} {p : Program} {e : Env} {R : Room} {s : State} {m : MethodId} {args : Array Value} {below : List Frame} {meth : Method} {c : Code} {H : Heap} {locs : List Loc} {cells slots : Nat} {Q : State → Prop} {cc : ByteArray} {pc nL index : Nat} {ls : Array Slot} {rest : List Value} {own : String} {x1 : Int32} {out : (gx_F × gx_F)} (hx : p.tables.exec = Jvm.exec) (hb : c.code = cc) (hml : c.maxLocals = nL) (hown : s.vm.findClass own = some m.cls) (hV : gx_V G s) (hw : gx_at G C (I, V) o d s.heap H locs) (hF : f_X7_writes x1 I V = some out) (hlink : (Cond.methodLink own index yX7_writes).before args s = true) (hsz : ls.size = nL) (hfr : 1 ≤ R.frames) (hlo : 21 ≤ R.locals) (hrest : (rest.map fun v => v.category).sum ≤ 8) (hdg : decode cc pc = .ok (.invokevirtual index, 3))
    (kk : ∀ (H1 : Heap) (locs1 : List Loc), gx_at G C (out.1, out.2) o d s.heap H1 locs1 → W p l e R s m args below meth c H1 locs1 cells slots Q (F0 m (pc + 3) ls (rest))) (hc : cells ≤ R.cells := by exact Nat.zero_le _) (hs : slots ≤ R.slots := by exact Nat.zero_le _) : W p l e R s m args below meth c H locs cells slots Q (F0 m pc ls (.int x1 :: .ref (G.2.1 58) :: rest)) :=
  gx_runv hw (va_runV (C := RX7) (As := [.int x1]) (rest := rest) ⟨hx, hb, hml, hown, (fun _ h => nomatch h : ∀ w ∈ ([] : List Cond), w.before args s = true)⟩ (k_X7_writes hF) ⟨gx_callB (n := 1) rfl rfl hlink (gw_56 hV) (gw_1338 hV) (by decide +kernel) ⟨hfr, hlo⟩, gw_1337 hV, gw_46 hV⟩ (gx_recv (k := 58) (ci := 9) (T := TX7) hV hw (by decide) rfl rfl) rfl rfl hsz rfl (lv_room hrest) hdg ⟨hc, hs⟩) kk
set_option maxHeartbeats 4000000 in
set_option maxRecDepth 100000 in
theorem k_X7_line {l : Launch} {G : gx_G} {C : gx_S} {o : Int64} {d : UInt64} {I V : gx_F} {x1 : Int32} {out : (Int32 × gx_F × gx_F)} (hF : f_X7_line x1 I V = some out) : gx_K l yX7_line cX7_line 4 (some .int) { frames := 1, cells := 0, slots := 0, locals := 22 } [.ref (G.2.1 58), .int x1] G C (I, V) o d (gx_Qi G out.1 C (out.2.1, out.2.2) o d) 0 0 := by
  refine gx_begin (by decide +kernel) (Nat.le_of_ble_eq_true rfl) ?_
  intro p e s m below meth c hx hb hr hml hown hlocks hV hw ls hl
  have hown : s.vm.findClass RX7 = some m.cls := hown
  have hl : lv_has ls 4 [(0, .ref (G.2.1 58)), (1, .int x1)] := hl
  unfold f_X7_line at hF
  refine lv_aload_n (pc := 0) hx hb dX7_line_0 rfl (lv_at hl 0 rfl) ?_
  refine lv_iload_n (pc := 1) hx hb dX7_line_1 rfl (lv_at hl 1 rfl) ?_
  refine lv_iconst (pc := 2) (v := 0) hx hb dX7_line_2 (by decide) ?_
  refine lv_iconst (pc := 3) (v := 5) hx hb dX7_line_3 (by decide) ?_
  obtain ⟨uq_1, huq_1, hF⟩ := Option.bind_eq_some_iff.mp hF
  refine cl_X7_in (pc := 4) hx hb hml hown hV hw huq_1 (gw_1093 hV) hl.1 (Nat.le_of_ble_eq_true rfl) (Nat.le_of_ble_eq_true rfl) (Nat.le_of_ble_eq_true rfl) dX7_line_4 (fun H locs hw => ?_)
  refine gx_if_eq (pc := 7) (tgt := 14) hx hb hF dX7_line_7 (by decide) (fun hF => ?_) (fun hF => ?_)
  · refine lv_iconst (pc := 14) (v := 1) hx hb dX7_line_14 (by decide) ?_
    obtain ⟨uq_2, huq_2, hF⟩ := Option.bind_eq_some_iff.mp hF
    refine cl_X7_fails (pc := 15) hx hb hml hown hV hw huq_2 (gw_1193 hV) hl.1 (Nat.le_of_ble_eq_true rfl) (Nat.le_of_ble_eq_true rfl) (Nat.le_of_ble_eq_true rfl) dX7_line_15 (fun H locs hw => ?_)
    refine gx_if_eq (pc := 18) (tgt := 23) hx hb hF dX7_line_18 (by decide) (fun hF => ?_) (fun hF => ?_)
    · refine lv_aload_n (pc := 23) hx hb dX7_line_23 rfl (lv_at hl 0 rfl) ?_
      refine lv_iconst (pc := 24) (v := 0) hx hb dX7_line_24 (by decide) ?_
      refine gp_X7_17 (pc := 25) hx hb hown hV hw (gw_1035 hV) dX7_line_25 (fun H locs hw => ?_)
      refine lv_bipush (pc := 28) (v := 7) hx hb dX7_line_28 (by decide) ?_
      refine lv_iload_n (pc := 30) hx hb dX7_line_30 rfl (lv_at hl 1 rfl) ?_
      refine lv_imul (pc := 31) hx hb dX7_line_31 ?_
      refine lv_istore_n (pc := 32) (lv' := [(2, .int (7 * x1)), (0, .ref (G.2.1 58)), (1, .int x1)]) hx hb dX7_line_32 rfl hl (by decide) rfl (fun ls hl => ?_)
      have L1 : ∀ (n : Nat) (K1 : Int32 → gx_F → gx_F → Option (Int32 × gx_F × gx_F)) (uv_3 : Int32) (uI_4 : gx_F) (uV_5 : gx_F) (H : Heap) (locs : List Loc) (ls : Array Slot), lv_has ls 4 [(2, .int uv_3), (0, .ref (G.2.1 58)), (1, .int x1)] → gx_at G C (uI_4, uV_5) o d s.heap H locs → f_X7_line_L1 x1 K1 n uv_3 uI_4 uV_5 = some out → (∀ (uv_3 : Int32) (uI_4 : gx_F) (uV_5 : gx_F) (H : Heap) (locs : List Loc) (ls : Array Slot), lv_has ls 4 [(2, .int uv_3), (0, .ref (G.2.1 58)), (1, .int x1)] → gx_at G C (uI_4, uV_5) o d s.heap H locs → K1 uv_3 uI_4 uV_5 = some out → W p l e ({ frames := 1, cells := 0, slots := 0, locals := 22 } : Room) s m ([.ref (G.2.1 58), .int x1] : List Value).toArray below meth c H locs 0 0 (MQ below (gx_Qi G out.1 C (out.2.1, out.2.2) o d) ([.ref (G.2.1 58), .int x1] : List Value).toArray s 0 0 (gx_A G)) (F0 m 118 ls [])) → W p l e ({ frames := 1, cells := 0, slots := 0, locals := 22 } : Room) s m ([.ref (G.2.1 58), .int x1] : List Value).toArray below meth c H locs 0 0 (MQ below (gx_Qi G out.1 C (out.2.1, out.2.2) o d) ([.ref (G.2.1 58), .int x1] : List Value).toArray s 0 0 (gx_A G)) (F0 m 33 ls []) := by
        intro n
        induction n with
        | zero =>
          intro K1 uv_3 uI_4 uV_5 H locs ls hl hw hF hK
          rw [f_X7_line_L1] at hF
          cases hF
        | succ n ih1 =>
          intro K1 uv_3 uI_4 uV_5 H locs ls hl hw hF hK1
          rw [f_X7_line_L1] at hF
          refine lv_iload_n (pc := 33) hx hb dX7_line_33 rfl (lv_at hl 0 rfl) ?_
          refine lv_bipush (pc := 34) (v := 7) hx hb dX7_line_34 (by decide) ?_
          refine lv_iload_n (pc := 36) hx hb dX7_line_36 rfl (lv_at hl 2 rfl) ?_
          refine lv_imul (pc := 37) hx hb dX7_line_37 ?_
          refine lv_bipush (pc := 38) (v := 7) hx hb dX7_line_38 (by decide) ?_
          refine lv_iadd (pc := 40) hx hb dX7_line_40 ?_
          refine gx_icmp_ge (pc := 41) (tgt := 118) hx hb hF dX7_line_41 (by decide) (fun hF => ?_) (fun hF => ?_)
          · exact hK1 _ _ _ _ _ _ (lv_sub hl [0, 1, 2] rfl) hw hF
          refine lv_aload_n (pc := 44) hx hb dX7_line_44 rfl (lv_at hl 1 rfl) ?_
          refine lv_aload_n (pc := 45) hx hb dX7_line_45 rfl (lv_at hl 1 rfl) ?_
          refine lv_iload_n (pc := 46) hx hb dX7_line_46 rfl (lv_at hl 0 rfl) ?_
          obtain ⟨uq_6, huq_6, hF⟩ := Option.bind_eq_some_iff.mp hF
          refine cl_X7_isFree (pc := 47) hx hb hml hown hV hw huq_6 (gw_1118 hV) hl.1 (Nat.le_of_ble_eq_true rfl) (Nat.le_of_ble_eq_true rfl) (Nat.le_of_ble_eq_true rfl) dX7_line_47 (fun H locs hw => ?_)
          refine gx_if_eq (pc := 50) (tgt := 58) hx hb hF dX7_line_50 (by decide) (fun hF => ?_) (fun hF => ?_)
          · refine lv_bipush (pc := 58) (v := 48) hx hb dX7_line_58 (by decide) ?_
            refine lv_aload_n (pc := 60) hx hb dX7_line_60 rfl (lv_at hl 1 rfl) ?_
            refine gg_X7_0 (pc := 61) hx hb hown hV hw (gw_1018 hV) dX7_line_61 ?_
            refine lv_bipush (pc := 64) (v := 45) hx hb dX7_line_64 (by decide) ?_
            refine lv_iload_n (pc := 66) hx hb dX7_line_66 rfl (lv_at hl 0 rfl) ?_
            refine lv_iadd (pc := 67) hx hb dX7_line_67 ?_
            refine ga_59_ld (pc := 68) hx hb hV hw hF dX7_line_68 (fun _ hF => ?_)
            refine lv_iconst (pc := 69) (v := 4) hx hb dX7_line_69 (by decide) ?_
            refine lv_idiv (pc := 70) hx hb dX7_line_70 (by decide) ?_
            refine lv_iadd (pc := 71) hx hb dX7_line_71 ?_
            obtain ⟨uq_7, huq_7, hF⟩ := Option.bind_eq_some_iff.mp hF
            refine cl_X7_writes (pc := 72) hx hb hml hown hV hw huq_7 (gw_1335 hV) hl.1 (Nat.le_of_ble_eq_true rfl) (Nat.le_of_ble_eq_true rfl) (Nat.le_of_ble_eq_true rfl) dX7_line_72 (fun H locs hw => ?_)
            refine lv_iconst (pc := 75) (v := 0) hx hb dX7_line_75 (by decide) ?_
            refine lv_istore_n (pc := 76) (lv' := [(3, .int 0), (2, .int uv_3), (0, .ref (G.2.1 58)), (1, .int x1)]) hx hb dX7_line_76 rfl hl (by decide) rfl (fun ls hl => ?_)
            have L2 : ∀ (n : Nat) (K2 : Int32 → gx_F → gx_F → Option (Int32 × gx_F × gx_F)) (uv_8 : Int32) (uI_9 : gx_F) (uV_10 : gx_F) (H : Heap) (locs : List Loc) (ls : Array Slot), lv_has ls 4 [(3, .int uv_8), (2, .int uv_3), (0, .ref (G.2.1 58)), (1, .int x1)] → gx_at G C (uI_9, uV_10) o d s.heap H locs → f_X7_line_L2 uv_3 K2 n uv_8 uI_9 uV_10 = some out → (∀ (uv_8 : Int32) (uI_9 : gx_F) (uV_10 : gx_F) (H : Heap) (locs : List Loc) (ls : Array Slot), lv_has ls 4 [(3, .int uv_8), (2, .int uv_3), (0, .ref (G.2.1 58)), (1, .int x1)] → gx_at G C (uI_9, uV_10) o d s.heap H locs → K2 uv_8 uI_9 uV_10 = some out → W p l e ({ frames := 1, cells := 0, slots := 0, locals := 22 } : Room) s m ([.ref (G.2.1 58), .int x1] : List Value).toArray below meth c H locs 0 0 (MQ below (gx_Qi G out.1 C (out.2.1, out.2.2) o d) ([.ref (G.2.1 58), .int x1] : List Value).toArray s 0 0 (gx_A G)) (F0 m 112 ls [])) → W p l e ({ frames := 1, cells := 0, slots := 0, locals := 22 } : Room) s m ([.ref (G.2.1 58), .int x1] : List Value).toArray below meth c H locs 0 0 (MQ below (gx_Qi G out.1 C (out.2.1, out.2.2) o d) ([.ref (G.2.1 58), .int x1] : List Value).toArray s 0 0 (gx_A G)) (F0 m 77 ls []) := by
              intro n
              induction n with
              | zero =>
                intro K2 uv_8 uI_9 uV_10 H locs ls hl hw hF hK
                rw [f_X7_line_L2] at hF
                cases hF
              | succ n ih2 =>
                intro K2 uv_8 uI_9 uV_10 H locs ls hl hw hF hK2
                rw [f_X7_line_L2] at hF
                refine lv_aload_n (pc := 77) hx hb dX7_line_77 rfl (lv_at hl 2 rfl) ?_
                refine lv_iload_n (pc := 78) hx hb dX7_line_78 rfl (lv_at hl 1 rfl) ?_
                obtain ⟨uq_11, huq_11, hF⟩ := Option.bind_eq_some_iff.mp hF
                refine cl_X7_isFree (pc := 79) hx hb hml hown hV hw huq_11 (gw_1118 hV) hl.1 (Nat.le_of_ble_eq_true rfl) (Nat.le_of_ble_eq_true rfl) (Nat.le_of_ble_eq_true rfl) dX7_line_79 (fun H locs hw => ?_)
                refine gx_if_ne (pc := 82) (tgt := 112) hx hb hF dX7_line_82 (by decide) (fun hF => ?_) (fun hF => ?_)
                · exact hK2 _ _ _ _ _ _ (lv_sub hl [0, 1, 2, 3] rfl) hw hF
                refine lv_iload_n (pc := 85) hx hb dX7_line_85 rfl (lv_at hl 0 rfl) ?_
                refine lv_aload_n (pc := 86) hx hb dX7_line_86 rfl (lv_at hl 2 rfl) ?_
                refine gg_X7_0 (pc := 87) hx hb hown hV hw (gw_1018 hV) dX7_line_87 ?_
                refine lv_bipush (pc := 90) (v := 45) hx hb dX7_line_90 (by decide) ?_
                refine lv_iload_n (pc := 92) hx hb dX7_line_92 rfl (lv_at hl 1 rfl) ?_
                refine lv_iadd (pc := 93) hx hb dX7_line_93 ?_
                refine ga_59_ld (pc := 94) hx hb hV hw hF dX7_line_94 (fun _ hF => ?_)
                refine lv_iconst (pc := 95) (v := 4) hx hb dX7_line_95 (by decide) ?_
                refine lv_irem (pc := 96) hx hb dX7_line_96 (by decide) ?_
                refine gx_icmp_ge (pc := 97) (tgt := 112) hx hb hF dX7_line_97 (by decide) (fun hF => ?_) (fun hF => ?_)
                · exact hK2 _ _ _ _ _ _ (lv_sub hl [0, 1, 2, 3] rfl) hw hF
                refine lv_aload_n (pc := 100) hx hb dX7_line_100 rfl (lv_at hl 2 rfl) ?_
                refine lv_bipush (pc := 101) (v := 42) hx hb dX7_line_101 (by decide) ?_
                obtain ⟨uq_12, huq_12, hF⟩ := Option.bind_eq_some_iff.mp hF
                refine cl_X7_writes (pc := 103) hx hb hml hown hV hw huq_12 (gw_1335 hV) hl.1 (Nat.le_of_ble_eq_true rfl) (Nat.le_of_ble_eq_true rfl) (Nat.le_of_ble_eq_true rfl) dX7_line_103 (fun H locs hw => ?_)
                refine lv_iinc (pc := 106) (v := (uv_8 + 1)) (lv' := [(3, .int (uv_8 + 1)), (2, .int uv_3), (0, .ref (G.2.1 58)), (1, .int x1)]) hx hb dX7_line_106 hl (k := 0) rfl rfl (by decide) rfl (fun ls hl => ?_)
                refine lv_goto (pc := 109) (tgt := 77) hx hb dX7_line_109 (by decide) ?_
                exact ih2 _ _ _ _ _ _ _ (lv_sub hl [0, 1, 2, 3] rfl) hw hF hK2
            refine L2 1000 _ _ _ _ _ _ _ hl hw hF (fun uv_13 uI_14 uV_15 H locs ls hl hw hF => ?_)
            refine lv_iinc (pc := 112) (v := (uv_3 + 1)) (lv' := [(2, .int (uv_3 + 1)), (3, .int uv_13), (0, .ref (G.2.1 58)), (1, .int x1)]) hx hb dX7_line_112 hl (k := 1) rfl rfl (by decide) rfl (fun ls hl => ?_)
            refine lv_goto (pc := 115) (tgt := 33) hx hb dX7_line_115 (by decide) ?_
            exact ih1 _ _ _ _ _ _ _ (lv_sub hl [0, 2, 3] rfl) hw hF hK1
          refine lv_bipush (pc := 53) (v := 46) hx hb dX7_line_53 (by decide) ?_
          refine lv_goto (pc := 55) (tgt := 72) hx hb dX7_line_55 (by decide) ?_
          obtain ⟨uq_16, huq_16, hF⟩ := Option.bind_eq_some_iff.mp hF
          refine cl_X7_writes (pc := 72) hx hb hml hown hV hw huq_16 (gw_1335 hV) hl.1 (Nat.le_of_ble_eq_true rfl) (Nat.le_of_ble_eq_true rfl) (Nat.le_of_ble_eq_true rfl) dX7_line_72 (fun H locs hw => ?_)
          refine lv_iconst (pc := 75) (v := 0) hx hb dX7_line_75 (by decide) ?_
          refine lv_istore_n (pc := 76) (lv' := [(3, .int 0), (2, .int uv_3), (0, .ref (G.2.1 58)), (1, .int x1)]) hx hb dX7_line_76 rfl hl (by decide) rfl (fun ls hl => ?_)
          have L3 : ∀ (n : Nat) (K3 : Int32 → gx_F → gx_F → Option (Int32 × gx_F × gx_F)) (uv_17 : Int32) (uI_18 : gx_F) (uV_19 : gx_F) (H : Heap) (locs : List Loc) (ls : Array Slot), lv_has ls 4 [(3, .int uv_17), (2, .int uv_3), (0, .ref (G.2.1 58)), (1, .int x1)] → gx_at G C (uI_18, uV_19) o d s.heap H locs → f_X7_line_L3 uv_3 K3 n uv_17 uI_18 uV_19 = some out → (∀ (uv_17 : Int32) (uI_18 : gx_F) (uV_19 : gx_F) (H : Heap) (locs : List Loc) (ls : Array Slot), lv_has ls 4 [(3, .int uv_17), (2, .int uv_3), (0, .ref (G.2.1 58)), (1, .int x1)] → gx_at G C (uI_18, uV_19) o d s.heap H locs → K3 uv_17 uI_18 uV_19 = some out → W p l e ({ frames := 1, cells := 0, slots := 0, locals := 22 } : Room) s m ([.ref (G.2.1 58), .int x1] : List Value).toArray below meth c H locs 0 0 (MQ below (gx_Qi G out.1 C (out.2.1, out.2.2) o d) ([.ref (G.2.1 58), .int x1] : List Value).toArray s 0 0 (gx_A G)) (F0 m 112 ls [])) → W p l e ({ frames := 1, cells := 0, slots := 0, locals := 22 } : Room) s m ([.ref (G.2.1 58), .int x1] : List Value).toArray below meth c H locs 0 0 (MQ below (gx_Qi G out.1 C (out.2.1, out.2.2) o d) ([.ref (G.2.1 58), .int x1] : List Value).toArray s 0 0 (gx_A G)) (F0 m 77 ls []) := by
            intro n
            induction n with
            | zero =>
              intro K3 uv_17 uI_18 uV_19 H locs ls hl hw hF hK
              rw [f_X7_line_L3] at hF
              cases hF
            | succ n ih3 =>
              intro K3 uv_17 uI_18 uV_19 H locs ls hl hw hF hK3
              rw [f_X7_line_L3] at hF
              refine lv_aload_n (pc := 77) hx hb dX7_line_77 rfl (lv_at hl 2 rfl) ?_
              refine lv_iload_n (pc := 78) hx hb dX7_line_78 rfl (lv_at hl 1 rfl) ?_
              obtain ⟨uq_20, huq_20, hF⟩ := Option.bind_eq_some_iff.mp hF
              refine cl_X7_isFree (pc := 79) hx hb hml hown hV hw huq_20 (gw_1118 hV) hl.1 (Nat.le_of_ble_eq_true rfl) (Nat.le_of_ble_eq_true rfl) (Nat.le_of_ble_eq_true rfl) dX7_line_79 (fun H locs hw => ?_)
              refine gx_if_ne (pc := 82) (tgt := 112) hx hb hF dX7_line_82 (by decide) (fun hF => ?_) (fun hF => ?_)
              · exact hK3 _ _ _ _ _ _ (lv_sub hl [0, 1, 2, 3] rfl) hw hF
              refine lv_iload_n (pc := 85) hx hb dX7_line_85 rfl (lv_at hl 0 rfl) ?_
              refine lv_aload_n (pc := 86) hx hb dX7_line_86 rfl (lv_at hl 2 rfl) ?_
              refine gg_X7_0 (pc := 87) hx hb hown hV hw (gw_1018 hV) dX7_line_87 ?_
              refine lv_bipush (pc := 90) (v := 45) hx hb dX7_line_90 (by decide) ?_
              refine lv_iload_n (pc := 92) hx hb dX7_line_92 rfl (lv_at hl 1 rfl) ?_
              refine lv_iadd (pc := 93) hx hb dX7_line_93 ?_
              refine ga_59_ld (pc := 94) hx hb hV hw hF dX7_line_94 (fun _ hF => ?_)
              refine lv_iconst (pc := 95) (v := 4) hx hb dX7_line_95 (by decide) ?_
              refine lv_irem (pc := 96) hx hb dX7_line_96 (by decide) ?_
              refine gx_icmp_ge (pc := 97) (tgt := 112) hx hb hF dX7_line_97 (by decide) (fun hF => ?_) (fun hF => ?_)
              · exact hK3 _ _ _ _ _ _ (lv_sub hl [0, 1, 2, 3] rfl) hw hF
              refine lv_aload_n (pc := 100) hx hb dX7_line_100 rfl (lv_at hl 2 rfl) ?_
              refine lv_bipush (pc := 101) (v := 42) hx hb dX7_line_101 (by decide) ?_
              obtain ⟨uq_21, huq_21, hF⟩ := Option.bind_eq_some_iff.mp hF
              refine cl_X7_writes (pc := 103) hx hb hml hown hV hw huq_21 (gw_1335 hV) hl.1 (Nat.le_of_ble_eq_true rfl) (Nat.le_of_ble_eq_true rfl) (Nat.le_of_ble_eq_true rfl) dX7_line_103 (fun H locs hw => ?_)
              refine lv_iinc (pc := 106) (v := (uv_17 + 1)) (lv' := [(3, .int (uv_17 + 1)), (2, .int uv_3), (0, .ref (G.2.1 58)), (1, .int x1)]) hx hb dX7_line_106 hl (k := 0) rfl rfl (by decide) rfl (fun ls hl => ?_)
              refine lv_goto (pc := 109) (tgt := 77) hx hb dX7_line_109 (by decide) ?_
              exact ih3 _ _ _ _ _ _ _ (lv_sub hl [0, 1, 2, 3] rfl) hw hF hK3
          refine L3 1000 _ _ _ _ _ _ _ hl hw hF (fun uv_22 uI_23 uV_24 H locs ls hl hw hF => ?_)
          refine lv_iinc (pc := 112) (v := (uv_3 + 1)) (lv' := [(2, .int (uv_3 + 1)), (3, .int uv_22), (0, .ref (G.2.1 58)), (1, .int x1)]) hx hb dX7_line_112 hl (k := 1) rfl rfl (by decide) rfl (fun ls hl => ?_)
          refine lv_goto (pc := 115) (tgt := 33) hx hb dX7_line_115 (by decide) ?_
          exact ih1 _ _ _ _ _ _ _ (lv_sub hl [0, 2, 3] rfl) hw hF hK1
      refine L1 1000 _ _ _ _ _ _ _ hl hw hF (fun uv_25 uI_26 uV_27 H locs ls hl hw hF => ?_)
      refine lv_aload_n (pc := 118) hx hb dX7_line_118 rfl (lv_at hl 1 rfl) ?_
      refine gg_X7_17 (pc := 119) hx hb hown hV hw (gw_1035 hV) dX7_line_119 ?_
      cases hF
      exact gx_iret hx hb hr hlocks hw dX7_line_122
    refine lv_iconst (pc := 21) (v := 0) hx hb dX7_line_21 (by decide) ?_
    cases hF
    exact gx_iret hx hb hr hlocks hw dX7_line_22
  refine lv_iconst (pc := 10) (v := 0) hx hb dX7_line_10 (by decide) ?_
  refine lv_goto (pc := 11) (tgt := 15) hx hb dX7_line_11 (by decide) ?_
  obtain ⟨uq_28, huq_28, hF⟩ := Option.bind_eq_some_iff.mp hF
  refine cl_X7_fails (pc := 15) hx hb hml hown hV hw huq_28 (gw_1193 hV) hl.1 (Nat.le_of_ble_eq_true rfl) (Nat.le_of_ble_eq_true rfl) (Nat.le_of_ble_eq_true rfl) dX7_line_15 (fun H locs hw => ?_)
  refine gx_if_eq (pc := 18) (tgt := 23) hx hb hF dX7_line_18 (by decide) (fun hF => ?_) (fun hF => ?_)
  · refine lv_aload_n (pc := 23) hx hb dX7_line_23 rfl (lv_at hl 0 rfl) ?_
    refine lv_iconst (pc := 24) (v := 0) hx hb dX7_line_24 (by decide) ?_
    refine gp_X7_17 (pc := 25) hx hb hown hV hw (gw_1035 hV) dX7_line_25 (fun H locs hw => ?_)
    refine lv_bipush (pc := 28) (v := 7) hx hb dX7_line_28 (by decide) ?_
    refine lv_iload_n (pc := 30) hx hb dX7_line_30 rfl (lv_at hl 1 rfl) ?_
    refine lv_imul (pc := 31) hx hb dX7_line_31 ?_
    refine lv_istore_n (pc := 32) (lv' := [(2, .int (7 * x1)), (0, .ref (G.2.1 58)), (1, .int x1)]) hx hb dX7_line_32 rfl hl (by decide) rfl (fun ls hl => ?_)
    have L4 : ∀ (n : Nat) (K4 : Int32 → gx_F → gx_F → Option (Int32 × gx_F × gx_F)) (uv_29 : Int32) (uI_30 : gx_F) (uV_31 : gx_F) (H : Heap) (locs : List Loc) (ls : Array Slot), lv_has ls 4 [(2, .int uv_29), (0, .ref (G.2.1 58)), (1, .int x1)] → gx_at G C (uI_30, uV_31) o d s.heap H locs → f_X7_line_L4 x1 K4 n uv_29 uI_30 uV_31 = some out → (∀ (uv_29 : Int32) (uI_30 : gx_F) (uV_31 : gx_F) (H : Heap) (locs : List Loc) (ls : Array Slot), lv_has ls 4 [(2, .int uv_29), (0, .ref (G.2.1 58)), (1, .int x1)] → gx_at G C (uI_30, uV_31) o d s.heap H locs → K4 uv_29 uI_30 uV_31 = some out → W p l e ({ frames := 1, cells := 0, slots := 0, locals := 22 } : Room) s m ([.ref (G.2.1 58), .int x1] : List Value).toArray below meth c H locs 0 0 (MQ below (gx_Qi G out.1 C (out.2.1, out.2.2) o d) ([.ref (G.2.1 58), .int x1] : List Value).toArray s 0 0 (gx_A G)) (F0 m 118 ls [])) → W p l e ({ frames := 1, cells := 0, slots := 0, locals := 22 } : Room) s m ([.ref (G.2.1 58), .int x1] : List Value).toArray below meth c H locs 0 0 (MQ below (gx_Qi G out.1 C (out.2.1, out.2.2) o d) ([.ref (G.2.1 58), .int x1] : List Value).toArray s 0 0 (gx_A G)) (F0 m 33 ls []) := by
      intro n
      induction n with
      | zero =>
        intro K4 uv_29 uI_30 uV_31 H locs ls hl hw hF hK
        rw [f_X7_line_L4] at hF
        cases hF
      | succ n ih4 =>
        intro K4 uv_29 uI_30 uV_31 H locs ls hl hw hF hK4
        rw [f_X7_line_L4] at hF
        refine lv_iload_n (pc := 33) hx hb dX7_line_33 rfl (lv_at hl 0 rfl) ?_
        refine lv_bipush (pc := 34) (v := 7) hx hb dX7_line_34 (by decide) ?_
        refine lv_iload_n (pc := 36) hx hb dX7_line_36 rfl (lv_at hl 2 rfl) ?_
        refine lv_imul (pc := 37) hx hb dX7_line_37 ?_
        refine lv_bipush (pc := 38) (v := 7) hx hb dX7_line_38 (by decide) ?_
        refine lv_iadd (pc := 40) hx hb dX7_line_40 ?_
        refine gx_icmp_ge (pc := 41) (tgt := 118) hx hb hF dX7_line_41 (by decide) (fun hF => ?_) (fun hF => ?_)
        · exact hK4 _ _ _ _ _ _ (lv_sub hl [0, 1, 2] rfl) hw hF
        refine lv_aload_n (pc := 44) hx hb dX7_line_44 rfl (lv_at hl 1 rfl) ?_
        refine lv_aload_n (pc := 45) hx hb dX7_line_45 rfl (lv_at hl 1 rfl) ?_
        refine lv_iload_n (pc := 46) hx hb dX7_line_46 rfl (lv_at hl 0 rfl) ?_
        obtain ⟨uq_32, huq_32, hF⟩ := Option.bind_eq_some_iff.mp hF
        refine cl_X7_isFree (pc := 47) hx hb hml hown hV hw huq_32 (gw_1118 hV) hl.1 (Nat.le_of_ble_eq_true rfl) (Nat.le_of_ble_eq_true rfl) (Nat.le_of_ble_eq_true rfl) dX7_line_47 (fun H locs hw => ?_)
        refine gx_if_eq (pc := 50) (tgt := 58) hx hb hF dX7_line_50 (by decide) (fun hF => ?_) (fun hF => ?_)
        · refine lv_bipush (pc := 58) (v := 48) hx hb dX7_line_58 (by decide) ?_
          refine lv_aload_n (pc := 60) hx hb dX7_line_60 rfl (lv_at hl 1 rfl) ?_
          refine gg_X7_0 (pc := 61) hx hb hown hV hw (gw_1018 hV) dX7_line_61 ?_
          refine lv_bipush (pc := 64) (v := 45) hx hb dX7_line_64 (by decide) ?_
          refine lv_iload_n (pc := 66) hx hb dX7_line_66 rfl (lv_at hl 0 rfl) ?_
          refine lv_iadd (pc := 67) hx hb dX7_line_67 ?_
          refine ga_59_ld (pc := 68) hx hb hV hw hF dX7_line_68 (fun _ hF => ?_)
          refine lv_iconst (pc := 69) (v := 4) hx hb dX7_line_69 (by decide) ?_
          refine lv_idiv (pc := 70) hx hb dX7_line_70 (by decide) ?_
          refine lv_iadd (pc := 71) hx hb dX7_line_71 ?_
          obtain ⟨uq_33, huq_33, hF⟩ := Option.bind_eq_some_iff.mp hF
          refine cl_X7_writes (pc := 72) hx hb hml hown hV hw huq_33 (gw_1335 hV) hl.1 (Nat.le_of_ble_eq_true rfl) (Nat.le_of_ble_eq_true rfl) (Nat.le_of_ble_eq_true rfl) dX7_line_72 (fun H locs hw => ?_)
          refine lv_iconst (pc := 75) (v := 0) hx hb dX7_line_75 (by decide) ?_
          refine lv_istore_n (pc := 76) (lv' := [(3, .int 0), (2, .int uv_29), (0, .ref (G.2.1 58)), (1, .int x1)]) hx hb dX7_line_76 rfl hl (by decide) rfl (fun ls hl => ?_)
          have L5 : ∀ (n : Nat) (K5 : Int32 → gx_F → gx_F → Option (Int32 × gx_F × gx_F)) (uv_34 : Int32) (uI_35 : gx_F) (uV_36 : gx_F) (H : Heap) (locs : List Loc) (ls : Array Slot), lv_has ls 4 [(3, .int uv_34), (2, .int uv_29), (0, .ref (G.2.1 58)), (1, .int x1)] → gx_at G C (uI_35, uV_36) o d s.heap H locs → f_X7_line_L5 uv_29 K5 n uv_34 uI_35 uV_36 = some out → (∀ (uv_34 : Int32) (uI_35 : gx_F) (uV_36 : gx_F) (H : Heap) (locs : List Loc) (ls : Array Slot), lv_has ls 4 [(3, .int uv_34), (2, .int uv_29), (0, .ref (G.2.1 58)), (1, .int x1)] → gx_at G C (uI_35, uV_36) o d s.heap H locs → K5 uv_34 uI_35 uV_36 = some out → W p l e ({ frames := 1, cells := 0, slots := 0, locals := 22 } : Room) s m ([.ref (G.2.1 58), .int x1] : List Value).toArray below meth c H locs 0 0 (MQ below (gx_Qi G out.1 C (out.2.1, out.2.2) o d) ([.ref (G.2.1 58), .int x1] : List Value).toArray s 0 0 (gx_A G)) (F0 m 112 ls [])) → W p l e ({ frames := 1, cells := 0, slots := 0, locals := 22 } : Room) s m ([.ref (G.2.1 58), .int x1] : List Value).toArray below meth c H locs 0 0 (MQ below (gx_Qi G out.1 C (out.2.1, out.2.2) o d) ([.ref (G.2.1 58), .int x1] : List Value).toArray s 0 0 (gx_A G)) (F0 m 77 ls []) := by
            intro n
            induction n with
            | zero =>
              intro K5 uv_34 uI_35 uV_36 H locs ls hl hw hF hK
              rw [f_X7_line_L5] at hF
              cases hF
            | succ n ih5 =>
              intro K5 uv_34 uI_35 uV_36 H locs ls hl hw hF hK5
              rw [f_X7_line_L5] at hF
              refine lv_aload_n (pc := 77) hx hb dX7_line_77 rfl (lv_at hl 2 rfl) ?_
              refine lv_iload_n (pc := 78) hx hb dX7_line_78 rfl (lv_at hl 1 rfl) ?_
              obtain ⟨uq_37, huq_37, hF⟩ := Option.bind_eq_some_iff.mp hF
              refine cl_X7_isFree (pc := 79) hx hb hml hown hV hw huq_37 (gw_1118 hV) hl.1 (Nat.le_of_ble_eq_true rfl) (Nat.le_of_ble_eq_true rfl) (Nat.le_of_ble_eq_true rfl) dX7_line_79 (fun H locs hw => ?_)
              refine gx_if_ne (pc := 82) (tgt := 112) hx hb hF dX7_line_82 (by decide) (fun hF => ?_) (fun hF => ?_)
              · exact hK5 _ _ _ _ _ _ (lv_sub hl [0, 1, 2, 3] rfl) hw hF
              refine lv_iload_n (pc := 85) hx hb dX7_line_85 rfl (lv_at hl 0 rfl) ?_
              refine lv_aload_n (pc := 86) hx hb dX7_line_86 rfl (lv_at hl 2 rfl) ?_
              refine gg_X7_0 (pc := 87) hx hb hown hV hw (gw_1018 hV) dX7_line_87 ?_
              refine lv_bipush (pc := 90) (v := 45) hx hb dX7_line_90 (by decide) ?_
              refine lv_iload_n (pc := 92) hx hb dX7_line_92 rfl (lv_at hl 1 rfl) ?_
              refine lv_iadd (pc := 93) hx hb dX7_line_93 ?_
              refine ga_59_ld (pc := 94) hx hb hV hw hF dX7_line_94 (fun _ hF => ?_)
              refine lv_iconst (pc := 95) (v := 4) hx hb dX7_line_95 (by decide) ?_
              refine lv_irem (pc := 96) hx hb dX7_line_96 (by decide) ?_
              refine gx_icmp_ge (pc := 97) (tgt := 112) hx hb hF dX7_line_97 (by decide) (fun hF => ?_) (fun hF => ?_)
              · exact hK5 _ _ _ _ _ _ (lv_sub hl [0, 1, 2, 3] rfl) hw hF
              refine lv_aload_n (pc := 100) hx hb dX7_line_100 rfl (lv_at hl 2 rfl) ?_
              refine lv_bipush (pc := 101) (v := 42) hx hb dX7_line_101 (by decide) ?_
              obtain ⟨uq_38, huq_38, hF⟩ := Option.bind_eq_some_iff.mp hF
              refine cl_X7_writes (pc := 103) hx hb hml hown hV hw huq_38 (gw_1335 hV) hl.1 (Nat.le_of_ble_eq_true rfl) (Nat.le_of_ble_eq_true rfl) (Nat.le_of_ble_eq_true rfl) dX7_line_103 (fun H locs hw => ?_)
              refine lv_iinc (pc := 106) (v := (uv_34 + 1)) (lv' := [(3, .int (uv_34 + 1)), (2, .int uv_29), (0, .ref (G.2.1 58)), (1, .int x1)]) hx hb dX7_line_106 hl (k := 0) rfl rfl (by decide) rfl (fun ls hl => ?_)
              refine lv_goto (pc := 109) (tgt := 77) hx hb dX7_line_109 (by decide) ?_
              exact ih5 _ _ _ _ _ _ _ (lv_sub hl [0, 1, 2, 3] rfl) hw hF hK5
          refine L5 1000 _ _ _ _ _ _ _ hl hw hF (fun uv_39 uI_40 uV_41 H locs ls hl hw hF => ?_)
          refine lv_iinc (pc := 112) (v := (uv_29 + 1)) (lv' := [(2, .int (uv_29 + 1)), (3, .int uv_39), (0, .ref (G.2.1 58)), (1, .int x1)]) hx hb dX7_line_112 hl (k := 1) rfl rfl (by decide) rfl (fun ls hl => ?_)
          refine lv_goto (pc := 115) (tgt := 33) hx hb dX7_line_115 (by decide) ?_
          exact ih4 _ _ _ _ _ _ _ (lv_sub hl [0, 2, 3] rfl) hw hF hK4
        refine lv_bipush (pc := 53) (v := 46) hx hb dX7_line_53 (by decide) ?_
        refine lv_goto (pc := 55) (tgt := 72) hx hb dX7_line_55 (by decide) ?_
        obtain ⟨uq_42, huq_42, hF⟩ := Option.bind_eq_some_iff.mp hF
        refine cl_X7_writes (pc := 72) hx hb hml hown hV hw huq_42 (gw_1335 hV) hl.1 (Nat.le_of_ble_eq_true rfl) (Nat.le_of_ble_eq_true rfl) (Nat.le_of_ble_eq_true rfl) dX7_line_72 (fun H locs hw => ?_)
        refine lv_iconst (pc := 75) (v := 0) hx hb dX7_line_75 (by decide) ?_
        refine lv_istore_n (pc := 76) (lv' := [(3, .int 0), (2, .int uv_29), (0, .ref (G.2.1 58)), (1, .int x1)]) hx hb dX7_line_76 rfl hl (by decide) rfl (fun ls hl => ?_)
        have L6 : ∀ (n : Nat) (K6 : Int32 → gx_F → gx_F → Option (Int32 × gx_F × gx_F)) (uv_43 : Int32) (uI_44 : gx_F) (uV_45 : gx_F) (H : Heap) (locs : List Loc) (ls : Array Slot), lv_has ls 4 [(3, .int uv_43), (2, .int uv_29), (0, .ref (G.2.1 58)), (1, .int x1)] → gx_at G C (uI_44, uV_45) o d s.heap H locs → f_X7_line_L6 uv_29 K6 n uv_43 uI_44 uV_45 = some out → (∀ (uv_43 : Int32) (uI_44 : gx_F) (uV_45 : gx_F) (H : Heap) (locs : List Loc) (ls : Array Slot), lv_has ls 4 [(3, .int uv_43), (2, .int uv_29), (0, .ref (G.2.1 58)), (1, .int x1)] → gx_at G C (uI_44, uV_45) o d s.heap H locs → K6 uv_43 uI_44 uV_45 = some out → W p l e ({ frames := 1, cells := 0, slots := 0, locals := 22 } : Room) s m ([.ref (G.2.1 58), .int x1] : List Value).toArray below meth c H locs 0 0 (MQ below (gx_Qi G out.1 C (out.2.1, out.2.2) o d) ([.ref (G.2.1 58), .int x1] : List Value).toArray s 0 0 (gx_A G)) (F0 m 112 ls [])) → W p l e ({ frames := 1, cells := 0, slots := 0, locals := 22 } : Room) s m ([.ref (G.2.1 58), .int x1] : List Value).toArray below meth c H locs 0 0 (MQ below (gx_Qi G out.1 C (out.2.1, out.2.2) o d) ([.ref (G.2.1 58), .int x1] : List Value).toArray s 0 0 (gx_A G)) (F0 m 77 ls []) := by
          intro n
          induction n with
          | zero =>
            intro K6 uv_43 uI_44 uV_45 H locs ls hl hw hF hK
            rw [f_X7_line_L6] at hF
            cases hF
          | succ n ih6 =>
            intro K6 uv_43 uI_44 uV_45 H locs ls hl hw hF hK6
            rw [f_X7_line_L6] at hF
            refine lv_aload_n (pc := 77) hx hb dX7_line_77 rfl (lv_at hl 2 rfl) ?_
            refine lv_iload_n (pc := 78) hx hb dX7_line_78 rfl (lv_at hl 1 rfl) ?_
            obtain ⟨uq_46, huq_46, hF⟩ := Option.bind_eq_some_iff.mp hF
            refine cl_X7_isFree (pc := 79) hx hb hml hown hV hw huq_46 (gw_1118 hV) hl.1 (Nat.le_of_ble_eq_true rfl) (Nat.le_of_ble_eq_true rfl) (Nat.le_of_ble_eq_true rfl) dX7_line_79 (fun H locs hw => ?_)
            refine gx_if_ne (pc := 82) (tgt := 112) hx hb hF dX7_line_82 (by decide) (fun hF => ?_) (fun hF => ?_)
            · exact hK6 _ _ _ _ _ _ (lv_sub hl [0, 1, 2, 3] rfl) hw hF
            refine lv_iload_n (pc := 85) hx hb dX7_line_85 rfl (lv_at hl 0 rfl) ?_
            refine lv_aload_n (pc := 86) hx hb dX7_line_86 rfl (lv_at hl 2 rfl) ?_
            refine gg_X7_0 (pc := 87) hx hb hown hV hw (gw_1018 hV) dX7_line_87 ?_
            refine lv_bipush (pc := 90) (v := 45) hx hb dX7_line_90 (by decide) ?_
            refine lv_iload_n (pc := 92) hx hb dX7_line_92 rfl (lv_at hl 1 rfl) ?_
            refine lv_iadd (pc := 93) hx hb dX7_line_93 ?_
            refine ga_59_ld (pc := 94) hx hb hV hw hF dX7_line_94 (fun _ hF => ?_)
            refine lv_iconst (pc := 95) (v := 4) hx hb dX7_line_95 (by decide) ?_
            refine lv_irem (pc := 96) hx hb dX7_line_96 (by decide) ?_
            refine gx_icmp_ge (pc := 97) (tgt := 112) hx hb hF dX7_line_97 (by decide) (fun hF => ?_) (fun hF => ?_)
            · exact hK6 _ _ _ _ _ _ (lv_sub hl [0, 1, 2, 3] rfl) hw hF
            refine lv_aload_n (pc := 100) hx hb dX7_line_100 rfl (lv_at hl 2 rfl) ?_
            refine lv_bipush (pc := 101) (v := 42) hx hb dX7_line_101 (by decide) ?_
            obtain ⟨uq_47, huq_47, hF⟩ := Option.bind_eq_some_iff.mp hF
            refine cl_X7_writes (pc := 103) hx hb hml hown hV hw huq_47 (gw_1335 hV) hl.1 (Nat.le_of_ble_eq_true rfl) (Nat.le_of_ble_eq_true rfl) (Nat.le_of_ble_eq_true rfl) dX7_line_103 (fun H locs hw => ?_)
            refine lv_iinc (pc := 106) (v := (uv_43 + 1)) (lv' := [(3, .int (uv_43 + 1)), (2, .int uv_29), (0, .ref (G.2.1 58)), (1, .int x1)]) hx hb dX7_line_106 hl (k := 0) rfl rfl (by decide) rfl (fun ls hl => ?_)
            refine lv_goto (pc := 109) (tgt := 77) hx hb dX7_line_109 (by decide) ?_
            exact ih6 _ _ _ _ _ _ _ (lv_sub hl [0, 1, 2, 3] rfl) hw hF hK6
        refine L6 1000 _ _ _ _ _ _ _ hl hw hF (fun uv_48 uI_49 uV_50 H locs ls hl hw hF => ?_)
        refine lv_iinc (pc := 112) (v := (uv_29 + 1)) (lv' := [(2, .int (uv_29 + 1)), (3, .int uv_48), (0, .ref (G.2.1 58)), (1, .int x1)]) hx hb dX7_line_112 hl (k := 1) rfl rfl (by decide) rfl (fun ls hl => ?_)
        refine lv_goto (pc := 115) (tgt := 33) hx hb dX7_line_115 (by decide) ?_
        exact ih4 _ _ _ _ _ _ _ (lv_sub hl [0, 2, 3] rfl) hw hF hK4
    refine L4 1000 _ _ _ _ _ _ _ hl hw hF (fun uv_51 uI_52 uV_53 H locs ls hl hw hF => ?_)
    refine lv_aload_n (pc := 118) hx hb dX7_line_118 rfl (lv_at hl 1 rfl) ?_
    refine gg_X7_17 (pc := 119) hx hb hown hV hw (gw_1035 hV) dX7_line_119 ?_
    cases hF
    exact gx_iret hx hb hr hlocks hw dX7_line_122
  refine lv_iconst (pc := 21) (v := 0) hx hb dX7_line_21 (by decide) ?_
  cases hF
  exact gx_iret hx hb hr hlocks hw dX7_line_22
set_option maxRecDepth 100000 in
theorem cl_X7_line {l : Launch} {G : gx_G} {C : gx_S} {o : Int64} {d : UInt64} {I V : gx_F} {p : Program} {e : Env} {R : Room} {s : State} {m : MethodId} {args : Array Value} {below : List Frame} {meth : Method} {c : Code} {H : Heap} {locs : List Loc} {cells slots : Nat} {Q : State → Prop} {cc : ByteArray} {pc nL index : Nat} {ls : Array Slot} {rest : List Value} {own : String} {x1 : Int32} {out : (Int32 × gx_F × gx_F)} (hx : p.tables.exec = Jvm.exec) (hb : c.code = cc) (hml : c.maxLocals = nL) (hown : s.vm.findClass own = some m.cls) (hV : gx_V G s) (hw : gx_at G C (I, V) o d s.heap H locs) (hF : f_X7_line x1 I V = some out) (hlink : (Cond.methodLink own index yX7_line).before args s = true) (hsz : ls.size = nL) (hfr : 2 ≤ R.frames) (hlo : 45 ≤ R.locals) (hrest : (rest.map fun v => v.category).sum ≤ 8) (hdg : decode cc pc = .ok (.invokevirtual index, 3))
    (kk : ∀ (H1 : Heap) (locs1 : List Loc), gx_at G C (out.2.1, out.2.2) o d s.heap H1 locs1 → W p l e R s m args below meth c H1 locs1 cells slots Q (F0 m (pc + 3) ls (.int out.1 :: rest))) (hc : cells ≤ R.cells := by exact Nat.zero_le _) (hs : slots ≤ R.slots := by exact Nat.zero_le _) : W p l e R s m args below meth c H locs cells slots Q (F0 m pc ls (.int x1 :: .ref (G.2.1 58) :: rest)) :=
  gx_runi hw (va_runV (C := RX7) (As := [.int x1]) (rest := rest) ⟨hx, hb, hml, hown, (fun _ h => nomatch h : ∀ w ∈ ([] : List Cond), w.before args s = true)⟩ (k_X7_line hF) ⟨gx_callB (n := 1) rfl rfl hlink (gw_56 hV) (gw_1334 hV) (by decide +kernel) ⟨hfr, hlo⟩, gw_1332 hV, gw_1333 hV⟩ (gx_recv (k := 58) (ci := 9) (T := TX7) hV hw (by decide) rfl rfl) rfl rfl hsz rfl (lv_room hrest) hdg ⟨hc, hs⟩) kk
set_option maxHeartbeats 4000000 in
set_option maxRecDepth 100000 in
theorem k_X7_character {l : Launch} {G : gx_G} {C : gx_S} {o : Int64} {d : UInt64} {I V : gx_F} {x1 : Int32} {out : (Int32 × gx_F × gx_F)} (hF : f_X7_character x1 I V = some out) : gx_K l yX7_character cX7_character 2 (some .char) { frames := 1, cells := 0, slots := 0, locals := 22 } [.ref (G.2.1 58), .int x1] G C (I, V) o d (gx_Qi G out.1 C (out.2.1, out.2.2) o d) 0 0 := by
  refine gx_begin (by decide +kernel) (Nat.le_of_ble_eq_true rfl) ?_
  intro p e s m below meth c hx hb hr hml hown hlocks hV hw ls hl
  have hown : s.vm.findClass RX7 = some m.cls := hown
  have hl : lv_has ls 2 [(0, .ref (G.2.1 58)), (1, .int x1)] := hl
  unfold f_X7_character at hF
  refine lv_aload_n (pc := 0) hx hb dX7_character_0 rfl (lv_at hl 0 rfl) ?_
  refine lv_iload_n (pc := 1) hx hb dX7_character_1 rfl (lv_at hl 1 rfl) ?_
  refine lv_iconst (pc := 2) (v := 0) hx hb dX7_character_2 (by decide) ?_
  refine lv_aload_n (pc := 3) hx hb dX7_character_3 rfl (lv_at hl 0 rfl) ?_
  refine gg_X7_17 (pc := 4) hx hb hown hV hw (gw_1035 hV) dX7_character_4 ?_
  refine lv_iconst (pc := 7) (v := 1) hx hb dX7_character_7 (by decide) ?_
  refine lv_isub (pc := 8) hx hb dX7_character_8 ?_
  obtain ⟨uq_1, huq_1, hF⟩ := Option.bind_eq_some_iff.mp hF
  refine cl_X7_in (pc := 9) hx hb hml hown hV hw huq_1 (gw_1093 hV) hl.1 (Nat.le_of_ble_eq_true rfl) (Nat.le_of_ble_eq_true rfl) (Nat.le_of_ble_eq_true rfl) dX7_character_9 (fun H locs hw => ?_)
  refine gx_if_eq (pc := 12) (tgt := 19) hx hb hF dX7_character_12 (by decide) (fun hF => ?_) (fun hF => ?_)
  · refine lv_iconst (pc := 19) (v := 1) hx hb dX7_character_19 (by decide) ?_
    obtain ⟨uq_2, huq_2, hF⟩ := Option.bind_eq_some_iff.mp hF
    refine cl_X7_fails (pc := 20) hx hb hml hown hV hw huq_2 (gw_1193 hV) hl.1 (Nat.le_of_ble_eq_true rfl) (Nat.le_of_ble_eq_true rfl) (Nat.le_of_ble_eq_true rfl) dX7_character_20 (fun H locs hw => ?_)
    refine gx_if_eq (pc := 23) (tgt := 31) hx hb hF dX7_character_23 (by decide) (fun hF => ?_) (fun hF => ?_)
    · refine lv_aload_n (pc := 31) hx hb dX7_character_31 rfl (lv_at hl 0 rfl) ?_
      refine gg_X7_16 (pc := 32) hx hb hown hV hw (gw_1034 hV) dX7_character_32 ?_
      refine lv_iload_n (pc := 35) hx hb dX7_character_35 rfl (lv_at hl 1 rfl) ?_
      refine ga_65_ld (pc := 36) hx hb hV hw hF dX7_character_36 (fun _ hF => ?_)
      cases hF
      exact gx_zret hx hb hr (gx_narc _) hlocks hw dX7_character_37
    refine lv_bipush (pc := 26) (v := 32) hx hb dX7_character_26 (by decide) ?_
    refine lv_goto (pc := 28) (tgt := 37) hx hb dX7_character_28 (by decide) ?_
    cases hF
    exact gx_zret hx hb hr (rfl) hlocks hw dX7_character_37
  refine lv_iconst (pc := 15) (v := 0) hx hb dX7_character_15 (by decide) ?_
  refine lv_goto (pc := 16) (tgt := 20) hx hb dX7_character_16 (by decide) ?_
  obtain ⟨uq_3, huq_3, hF⟩ := Option.bind_eq_some_iff.mp hF
  refine cl_X7_fails (pc := 20) hx hb hml hown hV hw huq_3 (gw_1193 hV) hl.1 (Nat.le_of_ble_eq_true rfl) (Nat.le_of_ble_eq_true rfl) (Nat.le_of_ble_eq_true rfl) dX7_character_20 (fun H locs hw => ?_)
  refine gx_if_eq (pc := 23) (tgt := 31) hx hb hF dX7_character_23 (by decide) (fun hF => ?_) (fun hF => ?_)
  · refine lv_aload_n (pc := 31) hx hb dX7_character_31 rfl (lv_at hl 0 rfl) ?_
    refine gg_X7_16 (pc := 32) hx hb hown hV hw (gw_1034 hV) dX7_character_32 ?_
    refine lv_iload_n (pc := 35) hx hb dX7_character_35 rfl (lv_at hl 1 rfl) ?_
    refine ga_65_ld (pc := 36) hx hb hV hw hF dX7_character_36 (fun _ hF => ?_)
    cases hF
    exact gx_zret hx hb hr (gx_narc _) hlocks hw dX7_character_37
  refine lv_bipush (pc := 26) (v := 32) hx hb dX7_character_26 (by decide) ?_
  refine lv_goto (pc := 28) (tgt := 37) hx hb dX7_character_28 (by decide) ?_
  cases hF
  exact gx_zret hx hb hr (rfl) hlocks hw dX7_character_37
set_option maxRecDepth 100000 in
theorem cl_X7_character {l : Launch} {G : gx_G} {C : gx_S} {o : Int64} {d : UInt64} {I V : gx_F} {p : Program} {e : Env} {R : Room} {s : State} {m : MethodId} {args : Array Value} {below : List Frame} {meth : Method} {c : Code} {H : Heap} {locs : List Loc} {cells slots : Nat} {Q : State → Prop} {cc : ByteArray} {pc nL index : Nat} {ls : Array Slot} {rest : List Value} {own : String} {x1 : Int32} {out : (Int32 × gx_F × gx_F)} (hx : p.tables.exec = Jvm.exec) (hb : c.code = cc) (hml : c.maxLocals = nL) (hown : s.vm.findClass own = some m.cls) (hV : gx_V G s) (hw : gx_at G C (I, V) o d s.heap H locs) (hF : f_X7_character x1 I V = some out) (hlink : (Cond.methodLink own index yX7_character).before args s = true) (hsz : ls.size = nL) (hfr : 2 ≤ R.frames) (hlo : 43 ≤ R.locals) (hrest : (rest.map fun v => v.category).sum ≤ 8) (hdg : decode cc pc = .ok (.invokevirtual index, 3))
    (kk : ∀ (H1 : Heap) (locs1 : List Loc), gx_at G C (out.2.1, out.2.2) o d s.heap H1 locs1 → W p l e R s m args below meth c H1 locs1 cells slots Q (F0 m (pc + 3) ls (.int out.1 :: rest))) (hc : cells ≤ R.cells := by exact Nat.zero_le _) (hs : slots ≤ R.slots := by exact Nat.zero_le _) : W p l e R s m args below meth c H locs cells slots Q (F0 m pc ls (.int x1 :: .ref (G.2.1 58) :: rest)) :=
  gx_runi hw (va_runV (C := RX7) (As := [.int x1]) (rest := rest) ⟨hx, hb, hml, hown, (fun _ h => nomatch h : ∀ w ∈ ([] : List Cond), w.before args s = true)⟩ (k_X7_character hF) ⟨gx_callB (n := 1) rfl rfl hlink (gw_56 hV) (gw_1342 hV) (by decide +kernel) ⟨hfr, hlo⟩, gw_1340 hV, gw_1341 hV⟩ (gx_recv (k := 58) (ci := 9) (T := TX7) hV hw (by decide) rfl rfl) rfl rfl hsz rfl (lv_room hrest) hdg ⟨hc, hs⟩) kk
set_option maxHeartbeats 4000000 in
set_option maxRecDepth 100000 in
theorem k_X7_meanHold {l : Launch} {G : gx_G} {C : gx_S} {o : Int64} {d : UInt64} {I V : gx_F} {out : (UInt64 × gx_F × gx_F)} (hF : f_X7_meanHold I V = some out) : gx_K l yX7_meanHold cX7_meanHold 1 (some .double) { frames := 4, cells := 0, slots := 0, locals := 93 } [.ref (G.2.1 58)] G C (I, V) o d (gx_Qd G out.1 C (out.2.1, out.2.2) o d) 0 0 := by
  refine gx_begin (by decide +kernel) (Nat.le_of_ble_eq_true rfl) ?_
  intro p e s m below meth c hx hb hr hml hown hlocks hV hw ls hl
  have hown : s.vm.findClass RX7 = some m.cls := hown
  have hl : lv_has ls 1 [(0, .ref (G.2.1 58))] := hl
  unfold f_X7_meanHold at hF
  refine lv_aload_n (pc := 0) hx hb dX7_meanHold_0 rfl (lv_at hl 0 rfl) ?_
  refine lv_aload_n (pc := 1) hx hb dX7_meanHold_1 rfl (lv_at hl 0 rfl) ?_
  obtain ⟨uq_1, huq_1, hF⟩ := Option.bind_eq_some_iff.mp hF
  refine cl_X7_bricks (pc := 2) hx hb hml hown hV hw huq_1 (gw_1237 hV) hl.1 (Nat.le_of_ble_eq_true rfl) (Nat.le_of_ble_eq_true rfl) (Nat.le_of_ble_eq_true rfl) dX7_meanHold_2 (fun H locs hw => ?_)
  refine gx_if_ne (pc := 5) (tgt := 12) hx hb hF dX7_meanHold_5 (by decide) (fun hF => ?_) (fun hF => ?_)
  · refine lv_iconst (pc := 12) (v := 0) hx hb dX7_meanHold_12 (by decide) ?_
    obtain ⟨uq_2, huq_2, hF⟩ := Option.bind_eq_some_iff.mp hF
    refine cl_X7_fails (pc := 13) hx hb hml hown hV hw huq_2 (gw_1193 hV) hl.1 (Nat.le_of_ble_eq_true rfl) (Nat.le_of_ble_eq_true rfl) (Nat.le_of_ble_eq_true rfl) dX7_meanHold_13 (fun H locs hw => ?_)
    refine gx_if_eq (pc := 16) (tgt := 23) hx hb hF dX7_meanHold_16 (by decide) (fun hF => ?_) (fun hF => ?_)
    · refine lv_aload_n (pc := 23) hx hb dX7_meanHold_23 rfl (lv_at hl 0 rfl) ?_
      obtain ⟨uq_3, huq_3, hF⟩ := Option.bind_eq_some_iff.mp hF
      refine cl_X7_allHolds (pc := 24) hx hb hml hown hV hw huq_3 (gw_1221 hV) hl.1 (Nat.le_of_ble_eq_true rfl) (Nat.le_of_ble_eq_true rfl) (Nat.le_of_ble_eq_true rfl) dX7_meanHold_24 (fun H locs hw => ?_)
      refine lv_i2d (pc := 27) hx hb dX7_meanHold_27 ?_
      refine lv_aload_n (pc := 28) hx hb dX7_meanHold_28 rfl (lv_at hl 0 rfl) ?_
      obtain ⟨uq_4, huq_4, hF⟩ := Option.bind_eq_some_iff.mp hF
      refine cl_X7_bricks (pc := 29) hx hb hml hown hV hw huq_4 (gw_1237 hV) hl.1 (Nat.le_of_ble_eq_true rfl) (Nat.le_of_ble_eq_true rfl) (Nat.le_of_ble_eq_true rfl) dX7_meanHold_29 (fun H locs hw => ?_)
      refine lv_i2d (pc := 32) hx hb dX7_meanHold_32 ?_
      refine gx_ddiv (pc := 33) hx hb hF dX7_meanHold_33 (fun hF => ?_)
      cases hF
      exact gx_dret hx hb hr hlocks hw dX7_meanHold_34
    refine lv_dconst0 (pc := 19) hx hb dX7_meanHold_19 ?_
    refine lv_goto (pc := 20) (tgt := 34) hx hb dX7_meanHold_20 (by decide) ?_
    cases hF
    exact gx_dret hx hb hr hlocks hw dX7_meanHold_34
  refine lv_iconst (pc := 8) (v := 1) hx hb dX7_meanHold_8 (by decide) ?_
  refine lv_goto (pc := 9) (tgt := 13) hx hb dX7_meanHold_9 (by decide) ?_
  obtain ⟨uq_5, huq_5, hF⟩ := Option.bind_eq_some_iff.mp hF
  refine cl_X7_fails (pc := 13) hx hb hml hown hV hw huq_5 (gw_1193 hV) hl.1 (Nat.le_of_ble_eq_true rfl) (Nat.le_of_ble_eq_true rfl) (Nat.le_of_ble_eq_true rfl) dX7_meanHold_13 (fun H locs hw => ?_)
  refine gx_if_eq (pc := 16) (tgt := 23) hx hb hF dX7_meanHold_16 (by decide) (fun hF => ?_) (fun hF => ?_)
  · refine lv_aload_n (pc := 23) hx hb dX7_meanHold_23 rfl (lv_at hl 0 rfl) ?_
    obtain ⟨uq_6, huq_6, hF⟩ := Option.bind_eq_some_iff.mp hF
    refine cl_X7_allHolds (pc := 24) hx hb hml hown hV hw huq_6 (gw_1221 hV) hl.1 (Nat.le_of_ble_eq_true rfl) (Nat.le_of_ble_eq_true rfl) (Nat.le_of_ble_eq_true rfl) dX7_meanHold_24 (fun H locs hw => ?_)
    refine lv_i2d (pc := 27) hx hb dX7_meanHold_27 ?_
    refine lv_aload_n (pc := 28) hx hb dX7_meanHold_28 rfl (lv_at hl 0 rfl) ?_
    obtain ⟨uq_7, huq_7, hF⟩ := Option.bind_eq_some_iff.mp hF
    refine cl_X7_bricks (pc := 29) hx hb hml hown hV hw huq_7 (gw_1237 hV) hl.1 (Nat.le_of_ble_eq_true rfl) (Nat.le_of_ble_eq_true rfl) (Nat.le_of_ble_eq_true rfl) dX7_meanHold_29 (fun H locs hw => ?_)
    refine lv_i2d (pc := 32) hx hb dX7_meanHold_32 ?_
    refine gx_ddiv (pc := 33) hx hb hF dX7_meanHold_33 (fun hF => ?_)
    cases hF
    exact gx_dret hx hb hr hlocks hw dX7_meanHold_34
  refine lv_dconst0 (pc := 19) hx hb dX7_meanHold_19 ?_
  refine lv_goto (pc := 20) (tgt := 34) hx hb dX7_meanHold_20 (by decide) ?_
  cases hF
  exact gx_dret hx hb hr hlocks hw dX7_meanHold_34
set_option maxRecDepth 100000 in
theorem cl_X7_meanHold {l : Launch} {G : gx_G} {C : gx_S} {o : Int64} {d : UInt64} {I V : gx_F} {p : Program} {e : Env} {R : Room} {s : State} {m : MethodId} {args : Array Value} {below : List Frame} {meth : Method} {c : Code} {H : Heap} {locs : List Loc} {cells slots : Nat} {Q : State → Prop} {cc : ByteArray} {pc nL index : Nat} {ls : Array Slot} {rest : List Value} {own : String} {out : (UInt64 × gx_F × gx_F)} (hx : p.tables.exec = Jvm.exec) (hb : c.code = cc) (hml : c.maxLocals = nL) (hown : s.vm.findClass own = some m.cls) (hV : gx_V G s) (hw : gx_at G C (I, V) o d s.heap H locs) (hF : f_X7_meanHold I V = some out) (hlink : (Cond.methodLink own index yX7_meanHold).before args s = true) (hsz : ls.size = nL) (hfr : 5 ≤ R.frames) (hlo : 113 ≤ R.locals) (hrest : (rest.map fun v => v.category).sum ≤ 8) (hdg : decode cc pc = .ok (.invokevirtual index, 3))
    (kk : ∀ (H1 : Heap) (locs1 : List Loc), gx_at G C (out.2.1, out.2.2) o d s.heap H1 locs1 → W p l e R s m args below meth c H1 locs1 cells slots Q (F0 m (pc + 3) ls (.double out.1 :: rest))) (hc : cells ≤ R.cells := by exact Nat.zero_le _) (hs : slots ≤ R.slots := by exact Nat.zero_le _) : W p l e R s m args below meth c H locs cells slots Q (F0 m pc ls (.ref (G.2.1 58) :: rest)) :=
  gx_rund hw (va_runV (C := RX7) (As := []) (rest := rest) ⟨hx, hb, hml, hown, (fun _ h => nomatch h : ∀ w ∈ ([] : List Cond), w.before args s = true)⟩ (k_X7_meanHold hF) ⟨gx_callB (n := 0) rfl rfl hlink (gw_56 hV) (gw_1346 hV) (by decide +kernel) ⟨hfr, hlo⟩, gw_1344 hV, gw_1345 hV⟩ (gx_recv (k := 58) (ci := 9) (T := TX7) hV hw (by decide) rfl rfl) rfl rfl hsz rfl (lv_room hrest) hdg ⟨hc, hs⟩) kk
set_option maxHeartbeats 4000000 in
set_option maxRecDepth 100000 in
theorem k_X7_standing {l : Launch} {G : gx_G} {C : gx_S} {o : Int64} {d : UInt64} {I V : gx_F} {out : (UInt32 × gx_F × gx_F)} (hF : f_X7_standing I V = some out) : gx_K l yX7_standing cX7_standing 1 (some .float) { frames := 3, cells := 0, slots := 0, locals := 71 } [.ref (G.2.1 58)] G C (I, V) o d (gx_Qf G out.1 C (out.2.1, out.2.2) o d) 0 0 := by
  refine gx_begin (by decide +kernel) (Nat.le_of_ble_eq_true rfl) ?_
  intro p e s m below meth c hx hb hr hml hown hlocks hV hw ls hl
  have hown : s.vm.findClass RX7 = some m.cls := hown
  have hl : lv_has ls 1 [(0, .ref (G.2.1 58))] := hl
  unfold f_X7_standing at hF
  refine lv_aload_n (pc := 0) hx hb dX7_standing_0 rfl (lv_at hl 0 rfl) ?_
  refine lv_aload_n (pc := 1) hx hb dX7_standing_1 rfl (lv_at hl 0 rfl) ?_
  obtain ⟨uq_1, huq_1, hF⟩ := Option.bind_eq_some_iff.mp hF
  refine cl_X7_bricks (pc := 2) hx hb hml hown hV hw huq_1 (gw_1237 hV) hl.1 (Nat.le_of_ble_eq_true rfl) (Nat.le_of_ble_eq_true rfl) (Nat.le_of_ble_eq_true rfl) dX7_standing_2 (fun H locs hw => ?_)
  refine gx_if_ne (pc := 5) (tgt := 12) hx hb hF dX7_standing_5 (by decide) (fun hF => ?_) (fun hF => ?_)
  · refine lv_iconst (pc := 12) (v := 0) hx hb dX7_standing_12 (by decide) ?_
    obtain ⟨uq_2, huq_2, hF⟩ := Option.bind_eq_some_iff.mp hF
    refine cl_X7_fails (pc := 13) hx hb hml hown hV hw huq_2 (gw_1193 hV) hl.1 (Nat.le_of_ble_eq_true rfl) (Nat.le_of_ble_eq_true rfl) (Nat.le_of_ble_eq_true rfl) dX7_standing_13 (fun H locs hw => ?_)
    refine gx_if_eq (pc := 16) (tgt := 23) hx hb hF dX7_standing_16 (by decide) (fun hF => ?_) (fun hF => ?_)
    · refine lv_aload_n (pc := 23) hx hb dX7_standing_23 rfl (lv_at hl 0 rfl) ?_
      obtain ⟨uq_3, huq_3, hF⟩ := Option.bind_eq_some_iff.mp hF
      refine cl_X7_standing0 (pc := 24) hx hb hml hown hV hw huq_3 (gw_1145 hV) hl.1 (Nat.le_of_ble_eq_true rfl) (Nat.le_of_ble_eq_true rfl) (Nat.le_of_ble_eq_true rfl) dX7_standing_24 (fun H locs hw => ?_)
      refine lv_i2f (pc := 27) hx hb dX7_standing_27 ?_
      refine lv_aload_n (pc := 28) hx hb dX7_standing_28 rfl (lv_at hl 0 rfl) ?_
      obtain ⟨uq_4, huq_4, hF⟩ := Option.bind_eq_some_iff.mp hF
      refine cl_X7_bricks (pc := 29) hx hb hml hown hV hw huq_4 (gw_1237 hV) hl.1 (Nat.le_of_ble_eq_true rfl) (Nat.le_of_ble_eq_true rfl) (Nat.le_of_ble_eq_true rfl) dX7_standing_29 (fun H locs hw => ?_)
      refine lv_i2f (pc := 32) hx hb dX7_standing_32 ?_
      refine gx_fdiv (pc := 33) hx hb hF dX7_standing_33 (fun hF => ?_)
      cases hF
      exact gx_fret hx hb hr hlocks hw dX7_standing_34
    refine lv_fconst0 (pc := 19) hx hb dX7_standing_19 ?_
    refine lv_goto (pc := 20) (tgt := 34) hx hb dX7_standing_20 (by decide) ?_
    cases hF
    exact gx_fret hx hb hr hlocks hw dX7_standing_34
  refine lv_iconst (pc := 8) (v := 1) hx hb dX7_standing_8 (by decide) ?_
  refine lv_goto (pc := 9) (tgt := 13) hx hb dX7_standing_9 (by decide) ?_
  obtain ⟨uq_5, huq_5, hF⟩ := Option.bind_eq_some_iff.mp hF
  refine cl_X7_fails (pc := 13) hx hb hml hown hV hw huq_5 (gw_1193 hV) hl.1 (Nat.le_of_ble_eq_true rfl) (Nat.le_of_ble_eq_true rfl) (Nat.le_of_ble_eq_true rfl) dX7_standing_13 (fun H locs hw => ?_)
  refine gx_if_eq (pc := 16) (tgt := 23) hx hb hF dX7_standing_16 (by decide) (fun hF => ?_) (fun hF => ?_)
  · refine lv_aload_n (pc := 23) hx hb dX7_standing_23 rfl (lv_at hl 0 rfl) ?_
    obtain ⟨uq_6, huq_6, hF⟩ := Option.bind_eq_some_iff.mp hF
    refine cl_X7_standing0 (pc := 24) hx hb hml hown hV hw huq_6 (gw_1145 hV) hl.1 (Nat.le_of_ble_eq_true rfl) (Nat.le_of_ble_eq_true rfl) (Nat.le_of_ble_eq_true rfl) dX7_standing_24 (fun H locs hw => ?_)
    refine lv_i2f (pc := 27) hx hb dX7_standing_27 ?_
    refine lv_aload_n (pc := 28) hx hb dX7_standing_28 rfl (lv_at hl 0 rfl) ?_
    obtain ⟨uq_7, huq_7, hF⟩ := Option.bind_eq_some_iff.mp hF
    refine cl_X7_bricks (pc := 29) hx hb hml hown hV hw huq_7 (gw_1237 hV) hl.1 (Nat.le_of_ble_eq_true rfl) (Nat.le_of_ble_eq_true rfl) (Nat.le_of_ble_eq_true rfl) dX7_standing_29 (fun H locs hw => ?_)
    refine lv_i2f (pc := 32) hx hb dX7_standing_32 ?_
    refine gx_fdiv (pc := 33) hx hb hF dX7_standing_33 (fun hF => ?_)
    cases hF
    exact gx_fret hx hb hr hlocks hw dX7_standing_34
  refine lv_fconst0 (pc := 19) hx hb dX7_standing_19 ?_
  refine lv_goto (pc := 20) (tgt := 34) hx hb dX7_standing_20 (by decide) ?_
  cases hF
  exact gx_fret hx hb hr hlocks hw dX7_standing_34
set_option maxRecDepth 100000 in
theorem cl_X7_standing {l : Launch} {G : gx_G} {C : gx_S} {o : Int64} {d : UInt64} {I V : gx_F} {p : Program} {e : Env} {R : Room} {s : State} {m : MethodId} {args : Array Value} {below : List Frame} {meth : Method} {c : Code} {H : Heap} {locs : List Loc} {cells slots : Nat} {Q : State → Prop} {cc : ByteArray} {pc nL index : Nat} {ls : Array Slot} {rest : List Value} {own : String} {out : (UInt32 × gx_F × gx_F)} (hx : p.tables.exec = Jvm.exec) (hb : c.code = cc) (hml : c.maxLocals = nL) (hown : s.vm.findClass own = some m.cls) (hV : gx_V G s) (hw : gx_at G C (I, V) o d s.heap H locs) (hF : f_X7_standing I V = some out) (hlink : (Cond.methodLink own index yX7_standing).before args s = true) (hsz : ls.size = nL) (hfr : 4 ≤ R.frames) (hlo : 91 ≤ R.locals) (hrest : (rest.map fun v => v.category).sum ≤ 8) (hdg : decode cc pc = .ok (.invokevirtual index, 3))
    (kk : ∀ (H1 : Heap) (locs1 : List Loc), gx_at G C (out.2.1, out.2.2) o d s.heap H1 locs1 → W p l e R s m args below meth c H1 locs1 cells slots Q (F0 m (pc + 3) ls (.float out.1 :: rest))) (hc : cells ≤ R.cells := by exact Nat.zero_le _) (hs : slots ≤ R.slots := by exact Nat.zero_le _) : W p l e R s m args below meth c H locs cells slots Q (F0 m pc ls (.ref (G.2.1 58) :: rest)) :=
  gx_runf hw (va_runV (C := RX7) (As := []) (rest := rest) ⟨hx, hb, hml, hown, (fun _ h => nomatch h : ∀ w ∈ ([] : List Cond), w.before args s = true)⟩ (k_X7_standing hF) ⟨gx_callB (n := 0) rfl rfl hlink (gw_56 hV) (gw_1350 hV) (by decide +kernel) ⟨hfr, hlo⟩, gw_1348 hV, gw_1349 hV⟩ (gx_recv (k := 58) (ci := 9) (T := TX7) hV hw (by decide) rfl rfl) rfl rfl hsz rfl (lv_room hrest) hdg ⟨hc, hs⟩) kk
set_option maxHeartbeats 4000000 in
set_option maxRecDepth 100000 in
theorem k_X7_pairs {l : Launch} {G : gx_G} {C : gx_S} {o : Int64} {d : UInt64} {I V : gx_F} {out : Int32} (hF : f_X7_pairs I V = some out) : gx_K l yX7_pairs cX7_pairs 4 (some .int) { frames := 1, cells := 0, slots := 0, locals := 21 } [.ref (G.2.1 58)] G C (I, V) o d (gx_Qi G out C (I, V) o d) 0 0 := by
  refine gx_begin (by decide +kernel) (Nat.le_of_ble_eq_true rfl) ?_
  intro p e s m below meth c hx hb hr hml hown hlocks hV hw ls hl
  have hown : s.vm.findClass RX7 = some m.cls := hown
  have hl : lv_has ls 4 [(0, .ref (G.2.1 58))] := hl
  unfold f_X7_pairs at hF
  refine lv_iconst (pc := 0) (v := 0) hx hb dX7_pairs_0 (by decide) ?_
  refine lv_istore_n (pc := 1) (lv' := [(1, .int 0), (0, .ref (G.2.1 58))]) hx hb dX7_pairs_1 rfl hl (by decide) rfl (fun ls hl => ?_)
  refine lv_iconst (pc := 2) (v := 0) hx hb dX7_pairs_2 (by decide) ?_
  refine lv_istore_n (pc := 3) (lv' := [(2, .int 0), (1, .int 0), (0, .ref (G.2.1 58))]) hx hb dX7_pairs_3 rfl hl (by decide) rfl (fun ls hl => ?_)
  have L1 : ∀ (n : Nat) (K1 : Int32 → Int32 → Option Int32) (uv_1 : Int32) (uv_2 : Int32) (H : Heap) (locs : List Loc) (ls : Array Slot), lv_has ls 4 [(2, .int uv_2), (1, .int uv_1), (0, .ref (G.2.1 58))] → gx_at G C (I, V) o d s.heap H locs → f_X7_pairs_L1 I V K1 n uv_1 uv_2 = some out → (∀ (uv_1 : Int32) (uv_2 : Int32) (H : Heap) (locs : List Loc) (ls : Array Slot), lv_has ls 4 [(2, .int uv_2), (1, .int uv_1), (0, .ref (G.2.1 58))] → gx_at G C (I, V) o d s.heap H locs → K1 uv_1 uv_2 = some out → W p l e ({ frames := 1, cells := 0, slots := 0, locals := 21 } : Room) s m ([.ref (G.2.1 58)] : List Value).toArray below meth c H locs 0 0 (MQ below (gx_Qi G out C (I, V) o d) ([.ref (G.2.1 58)] : List Value).toArray s 0 0 (gx_A G)) (F0 m 65 ls [])) → W p l e ({ frames := 1, cells := 0, slots := 0, locals := 21 } : Room) s m ([.ref (G.2.1 58)] : List Value).toArray below meth c H locs 0 0 (MQ below (gx_Qi G out C (I, V) o d) ([.ref (G.2.1 58)] : List Value).toArray s 0 0 (gx_A G)) (F0 m 4 ls []) := by
    intro n
    induction n with
    | zero =>
      intro K1 uv_1 uv_2 H locs ls hl hw hF hK
      rw [f_X7_pairs_L1] at hF
      cases hF
    | succ n ih1 =>
      intro K1 uv_1 uv_2 H locs ls hl hw hF hK1
      rw [f_X7_pairs_L1] at hF
      refine lv_iload_n (pc := 4) hx hb dX7_pairs_4 rfl (lv_at hl 0 rfl) ?_
      refine lv_bipush (pc := 5) (v := 42) hx hb dX7_pairs_5 (by decide) ?_
      refine gx_icmp_ge (pc := 7) (tgt := 65) hx hb hF dX7_pairs_7 (by decide) (fun hF => ?_) (fun hF => ?_)
      · exact hK1 _ _ _ _ _ (lv_sub hl [0, 1, 2] rfl) hw hF
      refine lv_iconst (pc := 10) (v := 1) hx hb dX7_pairs_10 (by decide) ?_
      refine lv_istore_n (pc := 11) (lv' := [(3, .int 1), (2, .int uv_2), (1, .int uv_1), (0, .ref (G.2.1 58))]) hx hb dX7_pairs_11 rfl hl (by decide) rfl (fun ls hl => ?_)
      have L2 : ∀ (n : Nat) (K2 : Int32 → Int32 → Option Int32) (uv_3 : Int32) (uv_4 : Int32) (H : Heap) (locs : List Loc) (ls : Array Slot), lv_has ls 4 [(3, .int uv_4), (2, .int uv_2), (1, .int uv_3), (0, .ref (G.2.1 58))] → gx_at G C (I, V) o d s.heap H locs → f_X7_pairs_L2 I V uv_2 K2 n uv_3 uv_4 = some out → (∀ (uv_3 : Int32) (uv_4 : Int32) (H : Heap) (locs : List Loc) (ls : Array Slot), lv_has ls 4 [(3, .int uv_4), (2, .int uv_2), (1, .int uv_3), (0, .ref (G.2.1 58))] → gx_at G C (I, V) o d s.heap H locs → K2 uv_3 uv_4 = some out → W p l e ({ frames := 1, cells := 0, slots := 0, locals := 21 } : Room) s m ([.ref (G.2.1 58)] : List Value).toArray below meth c H locs 0 0 (MQ below (gx_Qi G out C (I, V) o d) ([.ref (G.2.1 58)] : List Value).toArray s 0 0 (gx_A G)) (F0 m 59 ls [])) → W p l e ({ frames := 1, cells := 0, slots := 0, locals := 21 } : Room) s m ([.ref (G.2.1 58)] : List Value).toArray below meth c H locs 0 0 (MQ below (gx_Qi G out C (I, V) o d) ([.ref (G.2.1 58)] : List Value).toArray s 0 0 (gx_A G)) (F0 m 12 ls []) := by
        intro n
        induction n with
        | zero =>
          intro K2 uv_3 uv_4 H locs ls hl hw hF hK
          rw [f_X7_pairs_L2] at hF
          cases hF
        | succ n ih2 =>
          intro K2 uv_3 uv_4 H locs ls hl hw hF hK2
          rw [f_X7_pairs_L2] at hF
          refine lv_iload_n (pc := 12) hx hb dX7_pairs_12 rfl (lv_at hl 0 rfl) ?_
          refine lv_iconst (pc := 13) (v := 3) hx hb dX7_pairs_13 (by decide) ?_
          refine gx_icmp_ge (pc := 14) (tgt := 59) hx hb hF dX7_pairs_14 (by decide) (fun hF => ?_) (fun hF => ?_)
          · exact hK2 _ _ _ _ _ (lv_sub hl [0, 1, 2, 3] rfl) hw hF
          refine lv_iload_n (pc := 17) hx hb dX7_pairs_17 rfl (lv_at hl 2 rfl) ?_
          refine lv_aload_n (pc := 18) hx hb dX7_pairs_18 rfl (lv_at hl 3 rfl) ?_
          refine lv_iload_n (pc := 19) hx hb dX7_pairs_19 rfl (lv_at hl 1 rfl) ?_
          obtain ⟨uq_5, huq_5, hF⟩ := Option.bind_eq_some_iff.mp hF
          refine cl_X7_isFree (pc := 20) hx hb hml hown hV hw huq_5 (gw_1118 hV) hl.1 (Nat.le_of_ble_eq_true rfl) (Nat.le_of_ble_eq_true rfl) (Nat.le_of_ble_eq_true rfl) dX7_pairs_20 (fun H locs hw => ?_)
          refine gx_if_ne (pc := 23) (tgt := 50) hx hb hF dX7_pairs_23 (by decide) (fun hF => ?_) (fun hF => ?_)
          · refine lv_iconst (pc := 50) (v := 0) hx hb dX7_pairs_50 (by decide) ?_
            refine lv_iadd (pc := 51) hx hb dX7_pairs_51 ?_
            refine lv_istore_n (pc := 52) (lv' := [(1, .int (uv_3 + 0)), (3, .int uv_4), (2, .int uv_2), (0, .ref (G.2.1 58))]) hx hb dX7_pairs_52 rfl hl (by decide) rfl (fun ls hl => ?_)
            refine lv_iinc (pc := 53) (v := (uv_4 + 1)) (lv' := [(3, .int (uv_4 + 1)), (1, .int (uv_3 + 0)), (2, .int uv_2), (0, .ref (G.2.1 58))]) hx hb dX7_pairs_53 hl (k := 1) rfl rfl (by decide) rfl (fun ls hl => ?_)
            refine lv_goto (pc := 56) (tgt := 12) hx hb dX7_pairs_56 (by decide) ?_
            exact ih2 _ _ _ _ _ _ (lv_sub hl [0, 2, 1, 3] rfl) hw hF hK2
          refine lv_iload_n (pc := 26) hx hb dX7_pairs_26 rfl (lv_at hl 1 rfl) ?_
          refine lv_iload_n (pc := 27) hx hb dX7_pairs_27 rfl (lv_at hl 0 rfl) ?_
          obtain ⟨uq_6, huq_6, hF⟩ := Option.bind_eq_some_iff.mp hF
          refine cl_X7_beside (pc := 28) hx hb hml hown hV hw huq_6 (gw_1130 hV) hl.1 (Nat.le_of_ble_eq_true rfl) (Nat.le_of_ble_eq_true rfl) (Nat.le_of_ble_eq_true rfl) dX7_pairs_28 (fun H locs hw => ?_)
          refine gx_if_lt (pc := 31) (tgt := 50) hx hb hF dX7_pairs_31 (by decide) (fun hF => ?_) (fun hF => ?_)
          · refine lv_iconst (pc := 50) (v := 0) hx hb dX7_pairs_50 (by decide) ?_
            refine lv_iadd (pc := 51) hx hb dX7_pairs_51 ?_
            refine lv_istore_n (pc := 52) (lv' := [(1, .int (uv_3 + 0)), (3, .int uv_4), (2, .int uv_2), (0, .ref (G.2.1 58))]) hx hb dX7_pairs_52 rfl hl (by decide) rfl (fun ls hl => ?_)
            refine lv_iinc (pc := 53) (v := (uv_4 + 1)) (lv' := [(3, .int (uv_4 + 1)), (1, .int (uv_3 + 0)), (2, .int uv_2), (0, .ref (G.2.1 58))]) hx hb dX7_pairs_53 hl (k := 1) rfl rfl (by decide) rfl (fun ls hl => ?_)
            refine lv_goto (pc := 56) (tgt := 12) hx hb dX7_pairs_56 (by decide) ?_
            exact ih2 _ _ _ _ _ _ (lv_sub hl [0, 2, 1, 3] rfl) hw hF hK2
          refine lv_aload_n (pc := 34) hx hb dX7_pairs_34 rfl (lv_at hl 3 rfl) ?_
          refine lv_iload_n (pc := 35) hx hb dX7_pairs_35 rfl (lv_at hl 1 rfl) ?_
          refine lv_iload_n (pc := 36) hx hb dX7_pairs_36 rfl (lv_at hl 0 rfl) ?_
          obtain ⟨uq_7, huq_7, hF⟩ := Option.bind_eq_some_iff.mp hF
          refine cl_X7_beside (pc := 37) hx hb hml hown hV hw huq_7 (gw_1130 hV) hl.1 (Nat.le_of_ble_eq_true rfl) (Nat.le_of_ble_eq_true rfl) (Nat.le_of_ble_eq_true rfl) dX7_pairs_37 (fun H locs hw => ?_)
          obtain ⟨uq_8, huq_8, hF⟩ := Option.bind_eq_some_iff.mp hF
          refine cl_X7_isFree (pc := 40) hx hb hml hown hV hw huq_8 (gw_1118 hV) hl.1 (Nat.le_of_ble_eq_true rfl) (Nat.le_of_ble_eq_true rfl) (Nat.le_of_ble_eq_true rfl) dX7_pairs_40 (fun H locs hw => ?_)
          refine gx_if_ne (pc := 43) (tgt := 50) hx hb hF dX7_pairs_43 (by decide) (fun hF => ?_) (fun hF => ?_)
          · refine lv_iconst (pc := 50) (v := 0) hx hb dX7_pairs_50 (by decide) ?_
            refine lv_iadd (pc := 51) hx hb dX7_pairs_51 ?_
            refine lv_istore_n (pc := 52) (lv' := [(1, .int (uv_3 + 0)), (3, .int uv_4), (2, .int uv_2), (0, .ref (G.2.1 58))]) hx hb dX7_pairs_52 rfl hl (by decide) rfl (fun ls hl => ?_)
            refine lv_iinc (pc := 53) (v := (uv_4 + 1)) (lv' := [(3, .int (uv_4 + 1)), (1, .int (uv_3 + 0)), (2, .int uv_2), (0, .ref (G.2.1 58))]) hx hb dX7_pairs_53 hl (k := 1) rfl rfl (by decide) rfl (fun ls hl => ?_)
            refine lv_goto (pc := 56) (tgt := 12) hx hb dX7_pairs_56 (by decide) ?_
            exact ih2 _ _ _ _ _ _ (lv_sub hl [0, 2, 1, 3] rfl) hw hF hK2
          refine lv_iconst (pc := 46) (v := 1) hx hb dX7_pairs_46 (by decide) ?_
          refine lv_goto (pc := 47) (tgt := 51) hx hb dX7_pairs_47 (by decide) ?_
          refine lv_iadd (pc := 51) hx hb dX7_pairs_51 ?_
          refine lv_istore_n (pc := 52) (lv' := [(1, .int (uv_3 + 1)), (3, .int uv_4), (2, .int uv_2), (0, .ref (G.2.1 58))]) hx hb dX7_pairs_52 rfl hl (by decide) rfl (fun ls hl => ?_)
          refine lv_iinc (pc := 53) (v := (uv_4 + 1)) (lv' := [(3, .int (uv_4 + 1)), (1, .int (uv_3 + 1)), (2, .int uv_2), (0, .ref (G.2.1 58))]) hx hb dX7_pairs_53 hl (k := 1) rfl rfl (by decide) rfl (fun ls hl => ?_)
          refine lv_goto (pc := 56) (tgt := 12) hx hb dX7_pairs_56 (by decide) ?_
          exact ih2 _ _ _ _ _ _ (lv_sub hl [0, 2, 1, 3] rfl) hw hF hK2
      refine L2 1000 _ _ _ _ _ _ hl hw hF (fun uv_9 uv_10 H locs ls hl hw hF => ?_)
      refine lv_iinc (pc := 59) (v := (uv_2 + 1)) (lv' := [(2, .int (uv_2 + 1)), (3, .int uv_10), (1, .int uv_9), (0, .ref (G.2.1 58))]) hx hb dX7_pairs_59 hl (k := 1) rfl rfl (by decide) rfl (fun ls hl => ?_)
      refine lv_goto (pc := 62) (tgt := 4) hx hb dX7_pairs_62 (by decide) ?_
      exact ih1 _ _ _ _ _ _ (lv_sub hl [0, 2, 3] rfl) hw hF hK1
  refine L1 1000 _ _ _ _ _ _ hl hw hF (fun uv_11 uv_12 H locs ls hl hw hF => ?_)
  refine lv_iload_n (pc := 65) hx hb dX7_pairs_65 rfl (lv_at hl 1 rfl) ?_
  cases hF
  exact gx_iret hx hb hr hlocks hw dX7_pairs_66
set_option maxRecDepth 100000 in
theorem cl_X7_pairs {l : Launch} {G : gx_G} {C : gx_S} {o : Int64} {d : UInt64} {I V : gx_F} {p : Program} {e : Env} {R : Room} {s : State} {m : MethodId} {args : Array Value} {below : List Frame} {meth : Method} {c : Code} {H : Heap} {locs : List Loc} {cells slots : Nat} {Q : State → Prop} {cc : ByteArray} {pc nL index : Nat} {ls : Array Slot} {rest : List Value} {own : String} {out : Int32} (hx : p.tables.exec = Jvm.exec) (hb : c.code = cc) (hml : c.maxLocals = nL) (hown : s.vm.findClass own = some m.cls) (hV : gx_V G s) (hw : gx_at G C (I, V) o d s.heap H locs) (hF : f_X7_pairs I V = some out) (hlink : (Cond.methodLink own index yX7_pairs).before args s = true) (hsz : ls.size = nL) (hfr : 2 ≤ R.frames) (hlo : 44 ≤ R.locals) (hrest : (rest.map fun v => v.category).sum ≤ 8) (hdg : decode cc pc = .ok (.invokevirtual index, 3))
    (kk : ∀ (H1 : Heap) (locs1 : List Loc), gx_at G C (I, V) o d s.heap H1 locs1 → W p l e R s m args below meth c H1 locs1 cells slots Q (F0 m (pc + 3) ls (.int out :: rest))) (hc : cells ≤ R.cells := by exact Nat.zero_le _) (hs : slots ≤ R.slots := by exact Nat.zero_le _) : W p l e R s m args below meth c H locs cells slots Q (F0 m pc ls (.ref (G.2.1 58) :: rest)) :=
  gx_runi hw (va_runV (C := RX7) (As := []) (rest := rest) ⟨hx, hb, hml, hown, (fun _ h => nomatch h : ∀ w ∈ ([] : List Cond), w.before args s = true)⟩ (k_X7_pairs hF) ⟨gx_callB (n := 0) rfl rfl hlink (gw_56 hV) (gw_1358 hV) (by decide +kernel) ⟨hfr, hlo⟩, gw_1357 hV, gw_47 hV⟩ (gx_recv (k := 58) (ci := 9) (T := TX7) hV hw (by decide) rfl rfl) rfl rfl hsz rfl (lv_room hrest) hdg ⟨hc, hs⟩) kk
set_option maxHeartbeats 4000000 in
set_option maxRecDepth 100000 in
theorem k_X7_account {l : Launch} {G : gx_G} {C : gx_S} {o : Int64} {d : UInt64} {I V : gx_F} {x1 : Int32} {out : (Int32 × gx_F × gx_F)} (hF : f_X7_account x1 I V = some out) : gx_K l yX7_account cX7_account 2 (some .int) { frames := 4, cells := 0, slots := 0, locals := 93 } [.ref (G.2.1 58), .int x1] G C (I, V) o d (gx_Qi G out.1 C (out.2.1, out.2.2) o d) 0 0 := by
  refine gx_begin (by decide +kernel) (Nat.le_of_ble_eq_true rfl) ?_
  intro p e s m below meth c hx hb hr hml hown hlocks hV hw ls hl
  have hown : s.vm.findClass RX7 = some m.cls := hown
  have hl : lv_has ls 2 [(0, .ref (G.2.1 58)), (1, .int x1)] := hl
  unfold f_X7_account at hF
  refine lv_aload_n (pc := 0) hx hb dX7_account_0 rfl (lv_at hl 0 rfl) ?_
  refine lv_iload_n (pc := 1) hx hb dX7_account_1 rfl (lv_at hl 1 rfl) ?_
  refine lv_iconst (pc := 2) (v := 0) hx hb dX7_account_2 (by decide) ?_
  refine lv_bipush (pc := 3) (v := 9) hx hb dX7_account_3 (by decide) ?_
  obtain ⟨uq_1, huq_1, hF⟩ := Option.bind_eq_some_iff.mp hF
  refine cl_X7_in (pc := 5) hx hb hml hown hV hw huq_1 (gw_1093 hV) hl.1 (Nat.le_of_ble_eq_true rfl) (Nat.le_of_ble_eq_true rfl) (Nat.le_of_ble_eq_true rfl) dX7_account_5 (fun H locs hw => ?_)
  refine gx_if_eq (pc := 8) (tgt := 15) hx hb hF dX7_account_8 (by decide) (fun hF => ?_) (fun hF => ?_)
  · refine lv_iconst (pc := 15) (v := 1) hx hb dX7_account_15 (by decide) ?_
    obtain ⟨uq_2, huq_2, hF⟩ := Option.bind_eq_some_iff.mp hF
    refine cl_X7_fails (pc := 16) hx hb hml hown hV hw huq_2 (gw_1193 hV) hl.1 (Nat.le_of_ble_eq_true rfl) (Nat.le_of_ble_eq_true rfl) (Nat.le_of_ble_eq_true rfl) dX7_account_16 (fun H locs hw => ?_)
    refine gx_if_eq (pc := 19) (tgt := 24) hx hb hF dX7_account_19 (by decide) (fun hF => ?_) (fun hF => ?_)
    · refine lv_iload_n (pc := 24) hx hb dX7_account_24 rfl (lv_at hl 1 rfl) ?_
      by_cases hs0 : x1 = 0
      · rw [if_pos hs0] at hF
        refine lv_tableIn (pc := 25) (off := 55) (tgt := 80) hx hb dX7_account_25 (by rw [hs0]; decide) (by rw [hs0]; decide) (by rw [hs0]; rfl) (by decide) ?_
        refine lv_aload_n (pc := 80) hx hb dX7_account_80 rfl (lv_at hl 0 rfl) ?_
        refine gg_X7_0 (pc := 81) hx hb hown hV hw (gw_1018 hV) dX7_account_81 ?_
        refine lv_iconst (pc := 84) (v := 0) hx hb dX7_account_84 (by decide) ?_
        refine ga_59_ld (pc := 85) hx hb hV hw hF dX7_account_85 (fun _ hF => ?_)
        cases hF
        exact gx_iret hx hb hr hlocks hw dX7_account_86
      rw [if_neg hs0] at hF
      by_cases hs1 : x1 = 1
      · rw [if_pos hs1] at hF
        refine lv_tableIn (pc := 25) (off := 62) (tgt := 87) hx hb dX7_account_25 (by rw [hs1]; decide) (by rw [hs1]; decide) (by rw [hs1]; rfl) (by decide) ?_
        refine lv_aload_n (pc := 87) hx hb dX7_account_87 rfl (lv_at hl 0 rfl) ?_
        obtain ⟨uq_3, huq_3, hF⟩ := Option.bind_eq_some_iff.mp hF
        refine cl_X7_bricks (pc := 88) hx hb hml hown hV hw huq_3 (gw_1237 hV) hl.1 (Nat.le_of_ble_eq_true rfl) (Nat.le_of_ble_eq_true rfl) (Nat.le_of_ble_eq_true rfl) dX7_account_88 (fun H locs hw => ?_)
        cases hF
        exact gx_iret hx hb hr hlocks hw dX7_account_91
      rw [if_neg hs1] at hF
      by_cases hs6 : x1 = 6
      · rw [if_pos hs6] at hF
        refine lv_tableIn (pc := 25) (off := 67) (tgt := 92) hx hb dX7_account_25 (by rw [hs6]; decide) (by rw [hs6]; decide) (by rw [hs6]; rfl) (by decide) ?_
        refine lv_aload_n (pc := 92) hx hb dX7_account_92 rfl (lv_at hl 0 rfl) ?_
        obtain ⟨uq_4, huq_4, hF⟩ := Option.bind_eq_some_iff.mp hF
        refine cl_X7_allHolds (pc := 93) hx hb hml hown hV hw huq_4 (gw_1221 hV) hl.1 (Nat.le_of_ble_eq_true rfl) (Nat.le_of_ble_eq_true rfl) (Nat.le_of_ble_eq_true rfl) dX7_account_93 (fun H locs hw => ?_)
        cases hF
        exact gx_iret hx hb hr hlocks hw dX7_account_96
      rw [if_neg hs6] at hF
      by_cases hs7 : x1 = 7
      · rw [if_pos hs7] at hF
        refine lv_tableIn (pc := 25) (off := 72) (tgt := 97) hx hb dX7_account_25 (by rw [hs7]; decide) (by rw [hs7]; decide) (by rw [hs7]; rfl) (by decide) ?_
        refine lv_aload_n (pc := 97) hx hb dX7_account_97 rfl (lv_at hl 0 rfl) ?_
        obtain ⟨uq_5, huq_5, hF⟩ := Option.bind_eq_some_iff.mp hF
        refine cl_X7_pairs (pc := 98) hx hb hml hown hV hw huq_5 (gw_1355 hV) hl.1 (Nat.le_of_ble_eq_true rfl) (Nat.le_of_ble_eq_true rfl) (Nat.le_of_ble_eq_true rfl) dX7_account_98 (fun H locs hw => ?_)
        cases hF
        exact gx_iret hx hb hr hlocks hw dX7_account_101
      rw [if_neg hs7] at hF
      by_cases hs8 : x1 = 8
      · rw [if_pos hs8] at hF
        refine lv_tableIn (pc := 25) (off := 77) (tgt := 102) hx hb dX7_account_25 (by rw [hs8]; decide) (by rw [hs8]; decide) (by rw [hs8]; rfl) (by decide) ?_
        refine lv_aload_n (pc := 102) hx hb dX7_account_102 rfl (lv_at hl 0 rfl) ?_
        refine gg_X7_6 (pc := 103) hx hb hown hV hw (gw_1024 hV) dX7_account_103 ?_
        cases hF
        exact gx_iret hx hb hr hlocks hw dX7_account_106
      rw [if_neg hs8] at hF
      by_cases hs9 : x1 = 9
      · rw [if_pos hs9] at hF
        refine lv_tableIn (pc := 25) (off := 82) (tgt := 107) hx hb dX7_account_25 (by rw [hs9]; decide) (by rw [hs9]; decide) (by rw [hs9]; rfl) (by decide) ?_
        refine lv_aload_n (pc := 107) hx hb dX7_account_107 rfl (lv_at hl 0 rfl) ?_
        refine gg_X7_14 (pc := 108) hx hb hown hV hw (gw_1032 hV) dX7_account_108 ?_
        cases hF
        exact gx_iret hx hb hr hlocks hw dX7_account_111
      rw [if_neg hs9] at hF
      refine gx_tableD (pc := 25) (tgt := 112) hx hb dX7_account_25 [0, 1, 6, 7, 8, 9] (List.forall_mem_cons.mpr ⟨hs0, (List.forall_mem_cons.mpr ⟨hs1, (List.forall_mem_cons.mpr ⟨hs6, (List.forall_mem_cons.mpr ⟨hs7, (List.forall_mem_cons.mpr ⟨hs8, (List.forall_mem_cons.mpr ⟨hs9, (fun _ h => nomatch h)⟩)⟩)⟩)⟩)⟩)⟩) (by decide) (by decide) (by decide) ?_
      refine lv_aload_n (pc := 112) hx hb dX7_account_112 rfl (lv_at hl 0 rfl) ?_
      refine gg_X7_0 (pc := 113) hx hb hown hV hw (gw_1018 hV) dX7_account_113 ?_
      refine lv_iload_n (pc := 116) hx hb dX7_account_116 rfl (lv_at hl 1 rfl) ?_
      refine ga_59_ld (pc := 117) hx hb hV hw hF dX7_account_117 (fun _ hF => ?_)
      cases hF
      exact gx_iret hx hb hr hlocks hw dX7_account_118
    refine lv_iconst (pc := 22) (v := 0) hx hb dX7_account_22 (by decide) ?_
    cases hF
    exact gx_iret hx hb hr hlocks hw dX7_account_23
  refine lv_iconst (pc := 11) (v := 0) hx hb dX7_account_11 (by decide) ?_
  refine lv_goto (pc := 12) (tgt := 16) hx hb dX7_account_12 (by decide) ?_
  obtain ⟨uq_6, huq_6, hF⟩ := Option.bind_eq_some_iff.mp hF
  refine cl_X7_fails (pc := 16) hx hb hml hown hV hw huq_6 (gw_1193 hV) hl.1 (Nat.le_of_ble_eq_true rfl) (Nat.le_of_ble_eq_true rfl) (Nat.le_of_ble_eq_true rfl) dX7_account_16 (fun H locs hw => ?_)
  refine gx_if_eq (pc := 19) (tgt := 24) hx hb hF dX7_account_19 (by decide) (fun hF => ?_) (fun hF => ?_)
  · refine lv_iload_n (pc := 24) hx hb dX7_account_24 rfl (lv_at hl 1 rfl) ?_
    by_cases hs0 : x1 = 0
    · rw [if_pos hs0] at hF
      refine lv_tableIn (pc := 25) (off := 55) (tgt := 80) hx hb dX7_account_25 (by rw [hs0]; decide) (by rw [hs0]; decide) (by rw [hs0]; rfl) (by decide) ?_
      refine lv_aload_n (pc := 80) hx hb dX7_account_80 rfl (lv_at hl 0 rfl) ?_
      refine gg_X7_0 (pc := 81) hx hb hown hV hw (gw_1018 hV) dX7_account_81 ?_
      refine lv_iconst (pc := 84) (v := 0) hx hb dX7_account_84 (by decide) ?_
      refine ga_59_ld (pc := 85) hx hb hV hw hF dX7_account_85 (fun _ hF => ?_)
      cases hF
      exact gx_iret hx hb hr hlocks hw dX7_account_86
    rw [if_neg hs0] at hF
    by_cases hs1 : x1 = 1
    · rw [if_pos hs1] at hF
      refine lv_tableIn (pc := 25) (off := 62) (tgt := 87) hx hb dX7_account_25 (by rw [hs1]; decide) (by rw [hs1]; decide) (by rw [hs1]; rfl) (by decide) ?_
      refine lv_aload_n (pc := 87) hx hb dX7_account_87 rfl (lv_at hl 0 rfl) ?_
      obtain ⟨uq_7, huq_7, hF⟩ := Option.bind_eq_some_iff.mp hF
      refine cl_X7_bricks (pc := 88) hx hb hml hown hV hw huq_7 (gw_1237 hV) hl.1 (Nat.le_of_ble_eq_true rfl) (Nat.le_of_ble_eq_true rfl) (Nat.le_of_ble_eq_true rfl) dX7_account_88 (fun H locs hw => ?_)
      cases hF
      exact gx_iret hx hb hr hlocks hw dX7_account_91
    rw [if_neg hs1] at hF
    by_cases hs6 : x1 = 6
    · rw [if_pos hs6] at hF
      refine lv_tableIn (pc := 25) (off := 67) (tgt := 92) hx hb dX7_account_25 (by rw [hs6]; decide) (by rw [hs6]; decide) (by rw [hs6]; rfl) (by decide) ?_
      refine lv_aload_n (pc := 92) hx hb dX7_account_92 rfl (lv_at hl 0 rfl) ?_
      obtain ⟨uq_8, huq_8, hF⟩ := Option.bind_eq_some_iff.mp hF
      refine cl_X7_allHolds (pc := 93) hx hb hml hown hV hw huq_8 (gw_1221 hV) hl.1 (Nat.le_of_ble_eq_true rfl) (Nat.le_of_ble_eq_true rfl) (Nat.le_of_ble_eq_true rfl) dX7_account_93 (fun H locs hw => ?_)
      cases hF
      exact gx_iret hx hb hr hlocks hw dX7_account_96
    rw [if_neg hs6] at hF
    by_cases hs7 : x1 = 7
    · rw [if_pos hs7] at hF
      refine lv_tableIn (pc := 25) (off := 72) (tgt := 97) hx hb dX7_account_25 (by rw [hs7]; decide) (by rw [hs7]; decide) (by rw [hs7]; rfl) (by decide) ?_
      refine lv_aload_n (pc := 97) hx hb dX7_account_97 rfl (lv_at hl 0 rfl) ?_
      obtain ⟨uq_9, huq_9, hF⟩ := Option.bind_eq_some_iff.mp hF
      refine cl_X7_pairs (pc := 98) hx hb hml hown hV hw huq_9 (gw_1355 hV) hl.1 (Nat.le_of_ble_eq_true rfl) (Nat.le_of_ble_eq_true rfl) (Nat.le_of_ble_eq_true rfl) dX7_account_98 (fun H locs hw => ?_)
      cases hF
      exact gx_iret hx hb hr hlocks hw dX7_account_101
    rw [if_neg hs7] at hF
    by_cases hs8 : x1 = 8
    · rw [if_pos hs8] at hF
      refine lv_tableIn (pc := 25) (off := 77) (tgt := 102) hx hb dX7_account_25 (by rw [hs8]; decide) (by rw [hs8]; decide) (by rw [hs8]; rfl) (by decide) ?_
      refine lv_aload_n (pc := 102) hx hb dX7_account_102 rfl (lv_at hl 0 rfl) ?_
      refine gg_X7_6 (pc := 103) hx hb hown hV hw (gw_1024 hV) dX7_account_103 ?_
      cases hF
      exact gx_iret hx hb hr hlocks hw dX7_account_106
    rw [if_neg hs8] at hF
    by_cases hs9 : x1 = 9
    · rw [if_pos hs9] at hF
      refine lv_tableIn (pc := 25) (off := 82) (tgt := 107) hx hb dX7_account_25 (by rw [hs9]; decide) (by rw [hs9]; decide) (by rw [hs9]; rfl) (by decide) ?_
      refine lv_aload_n (pc := 107) hx hb dX7_account_107 rfl (lv_at hl 0 rfl) ?_
      refine gg_X7_14 (pc := 108) hx hb hown hV hw (gw_1032 hV) dX7_account_108 ?_
      cases hF
      exact gx_iret hx hb hr hlocks hw dX7_account_111
    rw [if_neg hs9] at hF
    refine gx_tableD (pc := 25) (tgt := 112) hx hb dX7_account_25 [0, 1, 6, 7, 8, 9] (List.forall_mem_cons.mpr ⟨hs0, (List.forall_mem_cons.mpr ⟨hs1, (List.forall_mem_cons.mpr ⟨hs6, (List.forall_mem_cons.mpr ⟨hs7, (List.forall_mem_cons.mpr ⟨hs8, (List.forall_mem_cons.mpr ⟨hs9, (fun _ h => nomatch h)⟩)⟩)⟩)⟩)⟩)⟩) (by decide) (by decide) (by decide) ?_
    refine lv_aload_n (pc := 112) hx hb dX7_account_112 rfl (lv_at hl 0 rfl) ?_
    refine gg_X7_0 (pc := 113) hx hb hown hV hw (gw_1018 hV) dX7_account_113 ?_
    refine lv_iload_n (pc := 116) hx hb dX7_account_116 rfl (lv_at hl 1 rfl) ?_
    refine ga_59_ld (pc := 117) hx hb hV hw hF dX7_account_117 (fun _ hF => ?_)
    cases hF
    exact gx_iret hx hb hr hlocks hw dX7_account_118
  refine lv_iconst (pc := 22) (v := 0) hx hb dX7_account_22 (by decide) ?_
  cases hF
  exact gx_iret hx hb hr hlocks hw dX7_account_23
set_option maxRecDepth 100000 in
theorem cl_X7_account {l : Launch} {G : gx_G} {C : gx_S} {o : Int64} {d : UInt64} {I V : gx_F} {p : Program} {e : Env} {R : Room} {s : State} {m : MethodId} {args : Array Value} {below : List Frame} {meth : Method} {c : Code} {H : Heap} {locs : List Loc} {cells slots : Nat} {Q : State → Prop} {cc : ByteArray} {pc nL index : Nat} {ls : Array Slot} {rest : List Value} {own : String} {x1 : Int32} {out : (Int32 × gx_F × gx_F)} (hx : p.tables.exec = Jvm.exec) (hb : c.code = cc) (hml : c.maxLocals = nL) (hown : s.vm.findClass own = some m.cls) (hV : gx_V G s) (hw : gx_at G C (I, V) o d s.heap H locs) (hF : f_X7_account x1 I V = some out) (hlink : (Cond.methodLink own index yX7_account).before args s = true) (hsz : ls.size = nL) (hfr : 5 ≤ R.frames) (hlo : 114 ≤ R.locals) (hrest : (rest.map fun v => v.category).sum ≤ 8) (hdg : decode cc pc = .ok (.invokevirtual index, 3))
    (kk : ∀ (H1 : Heap) (locs1 : List Loc), gx_at G C (out.2.1, out.2.2) o d s.heap H1 locs1 → W p l e R s m args below meth c H1 locs1 cells slots Q (F0 m (pc + 3) ls (.int out.1 :: rest))) (hc : cells ≤ R.cells := by exact Nat.zero_le _) (hs : slots ≤ R.slots := by exact Nat.zero_le _) : W p l e R s m args below meth c H locs cells slots Q (F0 m pc ls (.int x1 :: .ref (G.2.1 58) :: rest)) :=
  gx_runi hw (va_runV (C := RX7) (As := [.int x1]) (rest := rest) ⟨hx, hb, hml, hown, (fun _ h => nomatch h : ∀ w ∈ ([] : List Cond), w.before args s = true)⟩ (k_X7_account hF) ⟨gx_callB (n := 1) rfl rfl hlink (gw_56 hV) (gw_1354 hV) (by decide +kernel) ⟨hfr, hlo⟩, gw_1352 hV, gw_1353 hV⟩ (gx_recv (k := 58) (ci := 9) (T := TX7) hV hw (by decide) rfl rfl) rfl rfl hsz rfl (lv_room hrest) hdg ⟨hc, hs⟩) kk
set_option maxHeartbeats 4000000 in
set_option maxRecDepth 100000 in
theorem k_X7_undo {l : Launch} {G : gx_G} {C : gx_S} {o : Int64} {d : UInt64} {I V : gx_F} {out : (Int32 × gx_F × gx_F)} (hF : f_X7_undo I V = some out) : gx_K l yX7_undo cX7_undo 1 (some .int) { frames := 1, cells := 0, slots := 0, locals := 24 } [.ref (G.2.1 58)] G C (I, V) o d (gx_Qi G out.1 C (out.2.1, out.2.2) o d) 0 0 := by
  refine gx_begin (by decide +kernel) (Nat.le_of_ble_eq_true rfl) ?_
  intro p e s m below meth c hx hb hr hml hown hlocks hV hw ls hl
  have hown : s.vm.findClass RX7 = some m.cls := hown
  have hl : lv_has ls 1 [(0, .ref (G.2.1 58))] := hl
  unfold f_X7_undo at hF
  refine lv_aload_n (pc := 0) hx hb dX7_undo_0 rfl (lv_at hl 0 rfl) ?_
  refine lv_aload_n (pc := 1) hx hb dX7_undo_1 rfl (lv_at hl 0 rfl) ?_
  refine gg_X7_6 (pc := 2) hx hb hown hV hw (gw_1024 hV) dX7_undo_2 ?_
  refine gx_if_ne (pc := 5) (tgt := 12) hx hb hF dX7_undo_5 (by decide) (fun hF => ?_) (fun hF => ?_)
  · refine lv_iconst (pc := 12) (v := 0) hx hb dX7_undo_12 (by decide) ?_
    obtain ⟨uq_1, huq_1, hF⟩ := Option.bind_eq_some_iff.mp hF
    refine cl_X7_fails (pc := 13) hx hb hml hown hV hw huq_1 (gw_1193 hV) hl.1 (Nat.le_of_ble_eq_true rfl) (Nat.le_of_ble_eq_true rfl) (Nat.le_of_ble_eq_true rfl) dX7_undo_13 (fun H locs hw => ?_)
    refine gx_if_eq (pc := 16) (tgt := 21) hx hb hF dX7_undo_16 (by decide) (fun hF => ?_) (fun hF => ?_)
    · refine lv_aload_n (pc := 21) hx hb dX7_undo_21 rfl (lv_at hl 0 rfl) ?_
      refine lv_dup (pc := 22) hx hb dX7_undo_22 rfl ?_
      refine gg_X7_6 (pc := 23) hx hb hown hV hw (gw_1024 hV) dX7_undo_23 ?_
      refine lv_iconst (pc := 26) (v := 1) hx hb dX7_undo_26 (by decide) ?_
      refine lv_isub (pc := 27) hx hb dX7_undo_27 ?_
      refine gp_X7_6 (pc := 28) hx hb hown hV hw (gw_1024 hV) dX7_undo_28 (fun H locs hw => ?_)
      refine lv_aload_n (pc := 31) hx hb dX7_undo_31 rfl (lv_at hl 0 rfl) ?_
      refine gg_X7_1 (pc := 32) hx hb hown hV hw (gw_1019 hV) dX7_undo_32 ?_
      refine lv_bipush (pc := 35) (v := 87) hx hb dX7_undo_35 (by decide) ?_
      refine lv_aload_n (pc := 37) hx hb dX7_undo_37 rfl (lv_at hl 0 rfl) ?_
      refine gg_X7_6 (pc := 38) hx hb hown hV hw (gw_1024 hV) dX7_undo_38 ?_
      refine lv_imul (pc := 41) hx hb dX7_undo_41 ?_
      refine lv_aload_n (pc := 42) hx hb dX7_undo_42 rfl (lv_at hl 0 rfl) ?_
      refine gg_X7_0 (pc := 43) hx hb hown hV hw (gw_1018 hV) dX7_undo_43 ?_
      refine lv_iconst (pc := 46) (v := 0) hx hb dX7_undo_46 (by decide) ?_
      obtain ⟨uq_2, huq_2, hF⟩ := Option.bind_eq_some_iff.mp hF
      refine cl_X7_copies (pc := 47) hx hb hml hown hV hw gx_a60 gx_a59 huq_2 (gw_1104 hV) hl.1 (Nat.le_of_ble_eq_true rfl) (Nat.le_of_ble_eq_true rfl) (Nat.le_of_ble_eq_true rfl) dX7_undo_47 (fun H locs hw => ?_)
      refine lv_aload_n (pc := 50) hx hb dX7_undo_50 rfl (lv_at hl 0 rfl) ?_
      refine gg_X7_6 (pc := 51) hx hb hown hV hw (gw_1024 hV) dX7_undo_51 ?_
      cases hF
      exact gx_iret hx hb hr hlocks hw dX7_undo_54
    refine lv_iconst (pc := 19) (v := 0) hx hb dX7_undo_19 (by decide) ?_
    cases hF
    exact gx_iret hx hb hr hlocks hw dX7_undo_20
  refine lv_iconst (pc := 8) (v := 1) hx hb dX7_undo_8 (by decide) ?_
  refine lv_goto (pc := 9) (tgt := 13) hx hb dX7_undo_9 (by decide) ?_
  obtain ⟨uq_3, huq_3, hF⟩ := Option.bind_eq_some_iff.mp hF
  refine cl_X7_fails (pc := 13) hx hb hml hown hV hw huq_3 (gw_1193 hV) hl.1 (Nat.le_of_ble_eq_true rfl) (Nat.le_of_ble_eq_true rfl) (Nat.le_of_ble_eq_true rfl) dX7_undo_13 (fun H locs hw => ?_)
  refine gx_if_eq (pc := 16) (tgt := 21) hx hb hF dX7_undo_16 (by decide) (fun hF => ?_) (fun hF => ?_)
  · refine lv_aload_n (pc := 21) hx hb dX7_undo_21 rfl (lv_at hl 0 rfl) ?_
    refine lv_dup (pc := 22) hx hb dX7_undo_22 rfl ?_
    refine gg_X7_6 (pc := 23) hx hb hown hV hw (gw_1024 hV) dX7_undo_23 ?_
    refine lv_iconst (pc := 26) (v := 1) hx hb dX7_undo_26 (by decide) ?_
    refine lv_isub (pc := 27) hx hb dX7_undo_27 ?_
    refine gp_X7_6 (pc := 28) hx hb hown hV hw (gw_1024 hV) dX7_undo_28 (fun H locs hw => ?_)
    refine lv_aload_n (pc := 31) hx hb dX7_undo_31 rfl (lv_at hl 0 rfl) ?_
    refine gg_X7_1 (pc := 32) hx hb hown hV hw (gw_1019 hV) dX7_undo_32 ?_
    refine lv_bipush (pc := 35) (v := 87) hx hb dX7_undo_35 (by decide) ?_
    refine lv_aload_n (pc := 37) hx hb dX7_undo_37 rfl (lv_at hl 0 rfl) ?_
    refine gg_X7_6 (pc := 38) hx hb hown hV hw (gw_1024 hV) dX7_undo_38 ?_
    refine lv_imul (pc := 41) hx hb dX7_undo_41 ?_
    refine lv_aload_n (pc := 42) hx hb dX7_undo_42 rfl (lv_at hl 0 rfl) ?_
    refine gg_X7_0 (pc := 43) hx hb hown hV hw (gw_1018 hV) dX7_undo_43 ?_
    refine lv_iconst (pc := 46) (v := 0) hx hb dX7_undo_46 (by decide) ?_
    obtain ⟨uq_4, huq_4, hF⟩ := Option.bind_eq_some_iff.mp hF
    refine cl_X7_copies (pc := 47) hx hb hml hown hV hw gx_a60 gx_a59 huq_4 (gw_1104 hV) hl.1 (Nat.le_of_ble_eq_true rfl) (Nat.le_of_ble_eq_true rfl) (Nat.le_of_ble_eq_true rfl) dX7_undo_47 (fun H locs hw => ?_)
    refine lv_aload_n (pc := 50) hx hb dX7_undo_50 rfl (lv_at hl 0 rfl) ?_
    refine gg_X7_6 (pc := 51) hx hb hown hV hw (gw_1024 hV) dX7_undo_51 ?_
    cases hF
    exact gx_iret hx hb hr hlocks hw dX7_undo_54
  refine lv_iconst (pc := 19) (v := 0) hx hb dX7_undo_19 (by decide) ?_
  cases hF
  exact gx_iret hx hb hr hlocks hw dX7_undo_20
set_option maxRecDepth 100000 in
theorem cl_X7_undo {l : Launch} {G : gx_G} {C : gx_S} {o : Int64} {d : UInt64} {I V : gx_F} {p : Program} {e : Env} {R : Room} {s : State} {m : MethodId} {args : Array Value} {below : List Frame} {meth : Method} {c : Code} {H : Heap} {locs : List Loc} {cells slots : Nat} {Q : State → Prop} {cc : ByteArray} {pc nL index : Nat} {ls : Array Slot} {rest : List Value} {own : String} {out : (Int32 × gx_F × gx_F)} (hx : p.tables.exec = Jvm.exec) (hb : c.code = cc) (hml : c.maxLocals = nL) (hown : s.vm.findClass own = some m.cls) (hV : gx_V G s) (hw : gx_at G C (I, V) o d s.heap H locs) (hF : f_X7_undo I V = some out) (hlink : (Cond.methodLink own index yX7_undo).before args s = true) (hsz : ls.size = nL) (hfr : 2 ≤ R.frames) (hlo : 44 ≤ R.locals) (hrest : (rest.map fun v => v.category).sum ≤ 8) (hdg : decode cc pc = .ok (.invokevirtual index, 3))
    (kk : ∀ (H1 : Heap) (locs1 : List Loc), gx_at G C (out.2.1, out.2.2) o d s.heap H1 locs1 → W p l e R s m args below meth c H1 locs1 cells slots Q (F0 m (pc + 3) ls (.int out.1 :: rest))) (hc : cells ≤ R.cells := by exact Nat.zero_le _) (hs : slots ≤ R.slots := by exact Nat.zero_le _) : W p l e R s m args below meth c H locs cells slots Q (F0 m pc ls (.ref (G.2.1 58) :: rest)) :=
  gx_runi hw (va_runV (C := RX7) (As := []) (rest := rest) ⟨hx, hb, hml, hown, (fun _ h => nomatch h : ∀ w ∈ ([] : List Cond), w.before args s = true)⟩ (k_X7_undo hF) ⟨gx_callB (n := 0) rfl rfl hlink (gw_56 hV) (gw_1362 hV) (by decide +kernel) ⟨hfr, hlo⟩, gw_1360 hV, gw_1361 hV⟩ (gx_recv (k := 58) (ci := 9) (T := TX7) hV hw (by decide) rfl rfl) rfl rfl hsz rfl (lv_room hrest) hdg ⟨hc, hs⟩) kk
set_option maxHeartbeats 4000000 in
set_option maxRecDepth 100000 in
theorem k_X7_save {l : Launch} {G : gx_G} {C : gx_S} {o : Int64} {d : UInt64} {I V : gx_F} {out : (Int32 × gx_F × gx_F)} (hF : f_X7_save I V = some out) : gx_K l yX7_save cX7_save 1 (some .int) { frames := 2, cells := 0, slots := 0, locals := 43 } [.ref (G.2.1 58)] G C (I, V) o d (gx_Qi G out.1 C (out.2.1, out.2.2) o d) 0 0 := by
  refine gx_begin (by decide +kernel) (Nat.le_of_ble_eq_true rfl) ?_
  intro p e s m below meth c hx hb hr hml hown hlocks hV hw ls hl
  have hown : s.vm.findClass RX7 = some m.cls := hown
  have hl : lv_has ls 1 [(0, .ref (G.2.1 58))] := hl
  unfold f_X7_save at hF
  refine lv_aload_n (pc := 0) hx hb dX7_save_0 rfl (lv_at hl 0 rfl) ?_
  refine lv_iconst (pc := 1) (v := 0) hx hb dX7_save_1 (by decide) ?_
  refine gp_X7_9 (pc := 2) hx hb hown hV hw (gw_1027 hV) dX7_save_2 (fun H locs hw => ?_)
  refine lv_aload_n (pc := 5) hx hb dX7_save_5 rfl (lv_at hl 0 rfl) ?_
  refine lv_iconst (pc := 6) (v := 1) hx hb dX7_save_6 (by decide) ?_
  refine gp_X7_5 (pc := 7) hx hb hown hV hw rfl rfl (gw_1023 hV) dX7_save_7 (fun H locs hw => ?_)
  refine lv_aload_n (pc := 10) hx hb dX7_save_10 rfl (lv_at hl 0 rfl) ?_
  refine gg_X7_0 (pc := 11) hx hb hown hV hw (gw_1018 hV) dX7_save_11 ?_
  refine lv_iconst (pc := 14) (v := 0) hx hb dX7_save_14 (by decide) ?_
  refine lv_aload_n (pc := 15) hx hb dX7_save_15 rfl (lv_at hl 0 rfl) ?_
  refine gg_X7_2 (pc := 16) hx hb hown hV hw (gw_1020 hV) dX7_save_16 ?_
  refine lv_iconst (pc := 19) (v := 0) hx hb dX7_save_19 (by decide) ?_
  obtain ⟨uq_1, huq_1, hF⟩ := Option.bind_eq_some_iff.mp hF
  refine cl_X7_copies (pc := 20) hx hb hml hown hV hw gx_a59 gx_a61 huq_1 (gw_1104 hV) hl.1 (Nat.le_of_ble_eq_true rfl) (Nat.le_of_ble_eq_true rfl) (Nat.le_of_ble_eq_true rfl) dX7_save_20 (fun H locs hw => ?_)
  refine lv_aload_n (pc := 23) hx hb dX7_save_23 rfl (lv_at hl 0 rfl) ?_
  obtain ⟨uq_2, huq_2, hF⟩ := Option.bind_eq_some_iff.mp hF
  refine cl_X7_bricks (pc := 24) hx hb hml hown hV hw huq_2 (gw_1237 hV) hl.1 (Nat.le_of_ble_eq_true rfl) (Nat.le_of_ble_eq_true rfl) (Nat.le_of_ble_eq_true rfl) dX7_save_24 (fun H locs hw => ?_)
  cases hF
  exact gx_iret hx hb hr hlocks hw dX7_save_27
set_option maxRecDepth 100000 in
theorem cl_X7_save {l : Launch} {G : gx_G} {C : gx_S} {o : Int64} {d : UInt64} {I V : gx_F} {p : Program} {e : Env} {R : Room} {s : State} {m : MethodId} {args : Array Value} {below : List Frame} {meth : Method} {c : Code} {H : Heap} {locs : List Loc} {cells slots : Nat} {Q : State → Prop} {cc : ByteArray} {pc nL index : Nat} {ls : Array Slot} {rest : List Value} {own : String} {out : (Int32 × gx_F × gx_F)} (hx : p.tables.exec = Jvm.exec) (hb : c.code = cc) (hml : c.maxLocals = nL) (hown : s.vm.findClass own = some m.cls) (hV : gx_V G s) (hw : gx_at G C (I, V) o d s.heap H locs) (hF : f_X7_save I V = some out) (hlink : (Cond.methodLink own index yX7_save).before args s = true) (hsz : ls.size = nL) (hfr : 3 ≤ R.frames) (hlo : 63 ≤ R.locals) (hrest : (rest.map fun v => v.category).sum ≤ 8) (hdg : decode cc pc = .ok (.invokevirtual index, 3))
    (kk : ∀ (H1 : Heap) (locs1 : List Loc), gx_at G C (out.2.1, out.2.2) o d s.heap H1 locs1 → W p l e R s m args below meth c H1 locs1 cells slots Q (F0 m (pc + 3) ls (.int out.1 :: rest))) (hc : cells ≤ R.cells := by exact Nat.zero_le _) (hs : slots ≤ R.slots := by exact Nat.zero_le _) : W p l e R s m args below meth c H locs cells slots Q (F0 m pc ls (.ref (G.2.1 58) :: rest)) :=
  gx_runi hw (va_runV (C := RX7) (As := []) (rest := rest) ⟨hx, hb, hml, hown, (fun _ h => nomatch h : ∀ w ∈ ([] : List Cond), w.before args s = true)⟩ (k_X7_save hF) ⟨gx_callB (n := 0) rfl rfl hlink (gw_56 hV) (gw_1366 hV) (by decide +kernel) ⟨hfr, hlo⟩, gw_1364 hV, gw_1365 hV⟩ (gx_recv (k := 58) (ci := 9) (T := TX7) hV hw (by decide) rfl rfl) rfl rfl hsz rfl (lv_room hrest) hdg ⟨hc, hs⟩) kk
set_option maxHeartbeats 4000000 in
set_option maxRecDepth 100000 in
theorem k_X7_restore {l : Launch} {G : gx_G} {C : gx_S} {o : Int64} {d : UInt64} {I V : gx_F} {out : (Int32 × gx_F × gx_F)} (hF : f_X7_restore I V = some out) : gx_K l yX7_restore cX7_restore 1 (some .int) { frames := 2, cells := 0, slots := 0, locals := 43 } [.ref (G.2.1 58)] G C (I, V) o d (gx_Qi G out.1 C (out.2.1, out.2.2) o d) 0 0 := by
  refine gx_begin (by decide +kernel) (Nat.le_of_ble_eq_true rfl) ?_
  intro p e s m below meth c hx hb hr hml hown hlocks hV hw ls hl
  have hown : s.vm.findClass RX7 = some m.cls := hown
  have hl : lv_has ls 1 [(0, .ref (G.2.1 58))] := hl
  unfold f_X7_restore at hF
  refine lv_aload_n (pc := 0) hx hb dX7_restore_0 rfl (lv_at hl 0 rfl) ?_
  refine lv_aload_n (pc := 1) hx hb dX7_restore_1 rfl (lv_at hl 0 rfl) ?_
  refine gg_X7_5 (pc := 2) hx hb hown hV hw (gw_1023 hV) dX7_restore_2 ?_
  refine gx_if_eq (pc := 5) (tgt := 12) hx hb hF dX7_restore_5 (by decide) (fun hF => ?_) (fun hF => ?_)
  · refine lv_iconst (pc := 12) (v := 1) hx hb dX7_restore_12 (by decide) ?_
    obtain ⟨uq_1, huq_1, hF⟩ := Option.bind_eq_some_iff.mp hF
    refine cl_X7_fails (pc := 13) hx hb hml hown hV hw huq_1 (gw_1193 hV) hl.1 (Nat.le_of_ble_eq_true rfl) (Nat.le_of_ble_eq_true rfl) (Nat.le_of_ble_eq_true rfl) dX7_restore_13 (fun H locs hw => ?_)
    refine gx_if_eq (pc := 16) (tgt := 21) hx hb hF dX7_restore_16 (by decide) (fun hF => ?_) (fun hF => ?_)
    · refine lv_aload_n (pc := 21) hx hb dX7_restore_21 rfl (lv_at hl 0 rfl) ?_
      refine gg_X7_2 (pc := 22) hx hb hown hV hw (gw_1020 hV) dX7_restore_22 ?_
      refine lv_iconst (pc := 25) (v := 0) hx hb dX7_restore_25 (by decide) ?_
      refine lv_aload_n (pc := 26) hx hb dX7_restore_26 rfl (lv_at hl 0 rfl) ?_
      refine gg_X7_0 (pc := 27) hx hb hown hV hw (gw_1018 hV) dX7_restore_27 ?_
      refine lv_iconst (pc := 30) (v := 0) hx hb dX7_restore_30 (by decide) ?_
      obtain ⟨uq_2, huq_2, hF⟩ := Option.bind_eq_some_iff.mp hF
      refine cl_X7_copies (pc := 31) hx hb hml hown hV hw gx_a61 gx_a59 huq_2 (gw_1104 hV) hl.1 (Nat.le_of_ble_eq_true rfl) (Nat.le_of_ble_eq_true rfl) (Nat.le_of_ble_eq_true rfl) dX7_restore_31 (fun H locs hw => ?_)
      refine lv_aload_n (pc := 34) hx hb dX7_restore_34 rfl (lv_at hl 0 rfl) ?_
      refine lv_iconst (pc := 35) (v := 0) hx hb dX7_restore_35 (by decide) ?_
      refine gp_X7_6 (pc := 36) hx hb hown hV hw (gw_1024 hV) dX7_restore_36 (fun H locs hw => ?_)
      refine lv_aload_n (pc := 39) hx hb dX7_restore_39 rfl (lv_at hl 0 rfl) ?_
      obtain ⟨uq_3, huq_3, hF⟩ := Option.bind_eq_some_iff.mp hF
      refine cl_X7_bricks (pc := 40) hx hb hml hown hV hw huq_3 (gw_1237 hV) hl.1 (Nat.le_of_ble_eq_true rfl) (Nat.le_of_ble_eq_true rfl) (Nat.le_of_ble_eq_true rfl) dX7_restore_40 (fun H locs hw => ?_)
      cases hF
      exact gx_iret hx hb hr hlocks hw dX7_restore_43
    refine lv_iconst (pc := 19) (v := 0) hx hb dX7_restore_19 (by decide) ?_
    cases hF
    exact gx_iret hx hb hr hlocks hw dX7_restore_20
  refine lv_iconst (pc := 8) (v := 0) hx hb dX7_restore_8 (by decide) ?_
  refine lv_goto (pc := 9) (tgt := 13) hx hb dX7_restore_9 (by decide) ?_
  obtain ⟨uq_4, huq_4, hF⟩ := Option.bind_eq_some_iff.mp hF
  refine cl_X7_fails (pc := 13) hx hb hml hown hV hw huq_4 (gw_1193 hV) hl.1 (Nat.le_of_ble_eq_true rfl) (Nat.le_of_ble_eq_true rfl) (Nat.le_of_ble_eq_true rfl) dX7_restore_13 (fun H locs hw => ?_)
  refine gx_if_eq (pc := 16) (tgt := 21) hx hb hF dX7_restore_16 (by decide) (fun hF => ?_) (fun hF => ?_)
  · refine lv_aload_n (pc := 21) hx hb dX7_restore_21 rfl (lv_at hl 0 rfl) ?_
    refine gg_X7_2 (pc := 22) hx hb hown hV hw (gw_1020 hV) dX7_restore_22 ?_
    refine lv_iconst (pc := 25) (v := 0) hx hb dX7_restore_25 (by decide) ?_
    refine lv_aload_n (pc := 26) hx hb dX7_restore_26 rfl (lv_at hl 0 rfl) ?_
    refine gg_X7_0 (pc := 27) hx hb hown hV hw (gw_1018 hV) dX7_restore_27 ?_
    refine lv_iconst (pc := 30) (v := 0) hx hb dX7_restore_30 (by decide) ?_
    obtain ⟨uq_5, huq_5, hF⟩ := Option.bind_eq_some_iff.mp hF
    refine cl_X7_copies (pc := 31) hx hb hml hown hV hw gx_a61 gx_a59 huq_5 (gw_1104 hV) hl.1 (Nat.le_of_ble_eq_true rfl) (Nat.le_of_ble_eq_true rfl) (Nat.le_of_ble_eq_true rfl) dX7_restore_31 (fun H locs hw => ?_)
    refine lv_aload_n (pc := 34) hx hb dX7_restore_34 rfl (lv_at hl 0 rfl) ?_
    refine lv_iconst (pc := 35) (v := 0) hx hb dX7_restore_35 (by decide) ?_
    refine gp_X7_6 (pc := 36) hx hb hown hV hw (gw_1024 hV) dX7_restore_36 (fun H locs hw => ?_)
    refine lv_aload_n (pc := 39) hx hb dX7_restore_39 rfl (lv_at hl 0 rfl) ?_
    obtain ⟨uq_6, huq_6, hF⟩ := Option.bind_eq_some_iff.mp hF
    refine cl_X7_bricks (pc := 40) hx hb hml hown hV hw huq_6 (gw_1237 hV) hl.1 (Nat.le_of_ble_eq_true rfl) (Nat.le_of_ble_eq_true rfl) (Nat.le_of_ble_eq_true rfl) dX7_restore_40 (fun H locs hw => ?_)
    cases hF
    exact gx_iret hx hb hr hlocks hw dX7_restore_43
  refine lv_iconst (pc := 19) (v := 0) hx hb dX7_restore_19 (by decide) ?_
  cases hF
  exact gx_iret hx hb hr hlocks hw dX7_restore_20
set_option maxRecDepth 100000 in
theorem cl_X7_restore {l : Launch} {G : gx_G} {C : gx_S} {o : Int64} {d : UInt64} {I V : gx_F} {p : Program} {e : Env} {R : Room} {s : State} {m : MethodId} {args : Array Value} {below : List Frame} {meth : Method} {c : Code} {H : Heap} {locs : List Loc} {cells slots : Nat} {Q : State → Prop} {cc : ByteArray} {pc nL index : Nat} {ls : Array Slot} {rest : List Value} {own : String} {out : (Int32 × gx_F × gx_F)} (hx : p.tables.exec = Jvm.exec) (hb : c.code = cc) (hml : c.maxLocals = nL) (hown : s.vm.findClass own = some m.cls) (hV : gx_V G s) (hw : gx_at G C (I, V) o d s.heap H locs) (hF : f_X7_restore I V = some out) (hlink : (Cond.methodLink own index yX7_restore).before args s = true) (hsz : ls.size = nL) (hfr : 3 ≤ R.frames) (hlo : 63 ≤ R.locals) (hrest : (rest.map fun v => v.category).sum ≤ 8) (hdg : decode cc pc = .ok (.invokevirtual index, 3))
    (kk : ∀ (H1 : Heap) (locs1 : List Loc), gx_at G C (out.2.1, out.2.2) o d s.heap H1 locs1 → W p l e R s m args below meth c H1 locs1 cells slots Q (F0 m (pc + 3) ls (.int out.1 :: rest))) (hc : cells ≤ R.cells := by exact Nat.zero_le _) (hs : slots ≤ R.slots := by exact Nat.zero_le _) : W p l e R s m args below meth c H locs cells slots Q (F0 m pc ls (.ref (G.2.1 58) :: rest)) :=
  gx_runi hw (va_runV (C := RX7) (As := []) (rest := rest) ⟨hx, hb, hml, hown, (fun _ h => nomatch h : ∀ w ∈ ([] : List Cond), w.before args s = true)⟩ (k_X7_restore hF) ⟨gx_callB (n := 0) rfl rfl hlink (gw_56 hV) (gw_1370 hV) (by decide +kernel) ⟨hfr, hlo⟩, gw_1368 hV, gw_1369 hV⟩ (gx_recv (k := 58) (ci := 9) (T := TX7) hV hw (by decide) rfl rfl) rfl rfl hsz rfl (lv_room hrest) hdg ⟨hc, hs⟩) kk
