set_option maxHeartbeats 4000000 in
set_option maxRecDepth 100000 in
theorem k_X6_isPlace {l : Launch} {G : gx_G} {M : gx_S} {o : Int64} {d : UInt64} {I V : gx_F} {x0 : Int32} {out : Bool} (hF : f_X6_isPlace x0 I V = some out) : gx_K l yX6_isPlace cX6_isPlace 1 (some .boolean) { frames := 0, cells := 0, slots := 0, locals := 0 } [.int x0] G (I, V) M o d (gx_Qi G (gx_bi out) (I, V) M o d) 0 0 := by
  refine gx_begin (by decide +kernel) (Nat.le_of_ble_eq_true rfl) ?_
  intro p e s m below meth c hx hb hr hml hown hlocks hV hw ls hl
  have hown : s.vm.findClass RX6 = some m.cls := hown
  have hl : lv_has ls 1 [(0, .int x0)] := hl
  unfold f_X6_isPlace at hF
  refine lv_iload_n (pc := 0) hx hb dX6_isPlace_0 rfl (lv_at hl 0 rfl) ?_
  refine gx_if_lt (pc := 1) (tgt := 14) hx hb hF dX6_isPlace_1 (by decide) (fun hF => ?_) (fun hF => ?_)
  · refine lv_iconst (pc := 14) (v := 0) hx hb dX6_isPlace_14 (by decide) ?_
    cases hF
    exact gx_zret (r := gx_bi false) hx hb hr (gx_narb _) hlocks hw dX6_isPlace_15
  refine lv_iload_n (pc := 4) hx hb dX6_isPlace_4 rfl (lv_at hl 0 rfl) ?_
  refine lv_bipush (pc := 5) (v := 42) hx hb dX6_isPlace_5 (by decide) ?_
  refine gx_icmp_ge (pc := 7) (tgt := 14) hx hb hF dX6_isPlace_7 (by decide) (fun hF => ?_) (fun hF => ?_)
  · refine lv_iconst (pc := 14) (v := 0) hx hb dX6_isPlace_14 (by decide) ?_
    cases hF
    exact gx_zret (r := gx_bi false) hx hb hr (gx_narb _) hlocks hw dX6_isPlace_15
  refine lv_iconst (pc := 10) (v := 1) hx hb dX6_isPlace_10 (by decide) ?_
  refine lv_goto (pc := 11) (tgt := 15) hx hb dX6_isPlace_11 (by decide) ?_
  cases hF
  exact gx_zret (r := gx_bi true) hx hb hr (gx_narb _) hlocks hw dX6_isPlace_15
set_option maxRecDepth 100000 in
theorem cl_X6_isPlace {l : Launch} {G : gx_G} {M : gx_S} {o : Int64} {d : UInt64} {I V : gx_F} {p : Program} {e : Env} {R : Room} {s : State} {m : MethodId} {args : Array Value} {below : List Frame} {meth : Method} {c : Code} {H : Heap} {locs : List Loc} {cells slots : Nat} {Q : State → Prop} {cc : ByteArray} {pc nL index : Nat} {ls : Array Slot} {rest : List Value} {own : String} {x0 : Int32} {out : Bool} (hx : p.tables.exec = Jvm.exec) (hb : c.code = cc) (hml : c.maxLocals = nL) (hown : s.vm.findClass own = some m.cls) (hV : gx_V G s) (hw : gx_at G (I, V) M o d s.heap H locs) (hF : f_X6_isPlace x0 I V = some out) (hlink : (Cond.methodLink own index yX6_isPlace).before args s = true) (hsz : ls.size = nL) (hfr : 1 ≤ R.frames) (hlo : 20 ≤ R.locals) (hrest : (rest.map fun v => v.category).sum ≤ 8) (hdg : decode cc pc = .ok (.invokestatic index, 3))
    (kk : ∀ (H1 : Heap) (locs1 : List Loc), gx_at G (I, V) M o d s.heap H1 locs1 → W p l e R s m args below meth c H1 locs1 cells slots Q (F0 m (pc + 3) ls (.int (gx_bi out) :: rest))) (hc : cells ≤ R.cells := by exact Nat.zero_le _) (hs : slots ≤ R.slots := by exact Nat.zero_le _) : W p l e R s m args below meth c H locs cells slots Q (F0 m pc ls (.int x0 :: rest)) :=
  gx_runi hw (va_runS (As := [.int x0]) (rest := rest) ⟨hx, hb, hml, hown, (fun _ h => nomatch h : ∀ w ∈ ([] : List Cond), w.before args s = true)⟩ (k_X6_isPlace hF) ⟨gx_callB (n := 1) rfl rfl hlink (gw_49 hV) (gw_299 hV) (by decide +kernel) ⟨hfr, hlo⟩, gw_298 hV⟩ (gx_pre hV hw) rfl rfl hsz rfl (lv_room hrest) hdg ⟨hc, hs⟩) kk
set_option maxRecDepth 100000 in
theorem cn_X6_isPlace {l : Launch} {G : gx_G} {M : gx_S} {o : Int64} {d : UInt64} {I V : gx_F} {p : Program} {e : Env} {R : Room} {s : State} {m : MethodId} {args : Array Value} {below : List Frame} {meth : Method} {c : Code} {H : Heap} {locs : List Loc} {cells slots : Nat} {Q : State → Prop} {cc : ByteArray} {pc nL index : Nat} {ls : Array Slot} {rest : List Value} {own : String} {x0 : Int32} {out : Bool} (hx : p.tables.exec = Jvm.exec) (hb : c.code = cc) (hml : c.maxLocals = nL) (hown : s.vm.findClass own = some m.cls) (hV : gx_V G s) (hw : gx_at G (I, V) M o d s.heap H locs) (hF : f_X6_isPlace x0 I V = some out) (hlink : (Cond.methodLinkNest own index yX6_isPlace "GluedWall").before args s = true) (hsz : ls.size = nL) (hfr : 1 ≤ R.frames) (hlo : 20 ≤ R.locals) (hrest : (rest.map fun v => v.category).sum ≤ 8) (hdg : decode cc pc = .ok (.invokestatic index, 3))
    (kk : ∀ (H1 : Heap) (locs1 : List Loc), gx_at G (I, V) M o d s.heap H1 locs1 → W p l e R s m args below meth c H1 locs1 cells slots Q (F0 m (pc + 3) ls (.int (gx_bi out) :: rest))) (hc : cells ≤ R.cells := by exact Nat.zero_le _) (hs : slots ≤ R.slots := by exact Nat.zero_le _) : W p l e R s m args below meth c H locs cells slots Q (F0 m pc ls (.int x0 :: rest)) :=
  gx_runi hw (va_runSN (As := [.int x0]) (rest := rest) ⟨hx, hb, hml, hown, (fun _ h => nomatch h : ∀ w ∈ ([] : List Cond), w.before args s = true)⟩ (k_X6_isPlace hF) ⟨gx_callN (n := 1) rfl rfl hlink (gw_49 hV) (gw_299 hV) (by decide +kernel) ⟨hfr, hlo⟩, gw_298 hV, trivial⟩ (gx_pre hV hw) rfl rfl hsz rfl (lv_room hrest) hdg ⟨hc, hs⟩) kk
set_option maxHeartbeats 4000000 in
set_option maxRecDepth 100000 in
theorem k_X6_beside {l : Launch} {G : gx_G} {M : gx_S} {o : Int64} {d : UInt64} {I V : gx_F} {x0 : Int32} {x1 : Int32} {out : Int32} (hF : f_X6_beside x0 x1 I V = some out) : gx_K l yX6_beside cX6_beside 3 (some .int) { frames := 0, cells := 0, slots := 0, locals := 0 } [.int x0, .int x1] G (I, V) M o d (gx_Qi G out (I, V) M o d) 0 0 := by
  refine gx_begin (by decide +kernel) (Nat.le_of_ble_eq_true rfl) ?_
  intro p e s m below meth c hx hb hr hml hown hlocks hV hw ls hl
  have hown : s.vm.findClass RX6 = some m.cls := hown
  have hl : lv_has ls 3 [(0, .int x0), (1, .int x1)] := hl
  unfold f_X6_beside at hF
  refine lv_iload_n (pc := 0) hx hb dX6_beside_0 rfl (lv_at hl 0 rfl) ?_
  refine lv_bipush (pc := 1) (v := 7) hx hb dX6_beside_1 (by decide) ?_
  refine lv_irem (pc := 3) hx hb dX6_beside_3 (by decide) ?_
  refine lv_istore_n (pc := 4) (lv' := [(2, .int (gx_rem x0 7)), (0, .int x0), (1, .int x1)]) hx hb dX6_beside_4 rfl hl (by decide) rfl (fun ls hl => ?_)
  refine lv_iload_n (pc := 5) hx hb dX6_beside_5 rfl (lv_at hl 2 rfl) ?_
  by_cases hs0 : x1 = 0
  · rw [if_pos hs0] at hF
    refine lv_tableIn (pc := 6) (off := 26) (tgt := 32) hx hb dX6_beside_6 (by rw [hs0]; decide) (by rw [hs0]; decide) (by rw [hs0]; rfl) (by decide) ?_
    refine lv_iload_n (pc := 32) hx hb dX6_beside_32 rfl (lv_at hl 1 rfl) ?_
    refine lv_bipush (pc := 33) (v := 7) hx hb dX6_beside_33 (by decide) ?_
    refine gx_icmp_ge (pc := 35) (tgt := 42) hx hb hF dX6_beside_35 (by decide) (fun hF => ?_) (fun hF => ?_)
    · refine lv_iload_n (pc := 42) hx hb dX6_beside_42 rfl (lv_at hl 1 rfl) ?_
      refine lv_bipush (pc := 43) (v := 7) hx hb dX6_beside_43 (by decide) ?_
      refine lv_isub (pc := 45) hx hb dX6_beside_45 ?_
      cases hF
      exact gx_iret hx hb hr hlocks hw dX6_beside_46
    refine lv_iconst (pc := 38) (v := (-1)) hx hb dX6_beside_38 (by decide) ?_
    refine lv_goto (pc := 39) (tgt := 46) hx hb dX6_beside_39 (by decide) ?_
    cases hF
    exact gx_iret hx hb hr hlocks hw dX6_beside_46
  rw [if_neg hs0] at hF
  by_cases hs1 : x1 = 1
  · rw [if_pos hs1] at hF
    refine lv_tableIn (pc := 6) (off := 41) (tgt := 47) hx hb dX6_beside_6 (by rw [hs1]; decide) (by rw [hs1]; decide) (by rw [hs1]; rfl) (by decide) ?_
    refine lv_iload_n (pc := 47) hx hb dX6_beside_47 rfl (lv_at hl 0 rfl) ?_
    refine lv_bipush (pc := 48) (v := 6) hx hb dX6_beside_48 (by decide) ?_
    refine gx_icmp_ne (pc := 50) (tgt := 57) hx hb hF dX6_beside_50 (by decide) (fun hF => ?_) (fun hF => ?_)
    · refine lv_iload_n (pc := 57) hx hb dX6_beside_57 rfl (lv_at hl 1 rfl) ?_
      refine lv_iconst (pc := 58) (v := 1) hx hb dX6_beside_58 (by decide) ?_
      refine lv_iadd (pc := 59) hx hb dX6_beside_59 ?_
      cases hF
      exact gx_iret hx hb hr hlocks hw dX6_beside_60
    refine lv_iconst (pc := 53) (v := (-1)) hx hb dX6_beside_53 (by decide) ?_
    refine lv_goto (pc := 54) (tgt := 60) hx hb dX6_beside_54 (by decide) ?_
    cases hF
    exact gx_iret hx hb hr hlocks hw dX6_beside_60
  rw [if_neg hs1] at hF
  by_cases hs2 : x1 = 2
  · rw [if_pos hs2] at hF
    refine lv_tableIn (pc := 6) (off := 55) (tgt := 61) hx hb dX6_beside_6 (by rw [hs2]; decide) (by rw [hs2]; decide) (by rw [hs2]; rfl) (by decide) ?_
    refine lv_iload_n (pc := 61) hx hb dX6_beside_61 rfl (lv_at hl 1 rfl) ?_
    refine lv_bipush (pc := 62) (v := 35) hx hb dX6_beside_62 (by decide) ?_
    refine gx_icmp_lt (pc := 64) (tgt := 71) hx hb hF dX6_beside_64 (by decide) (fun hF => ?_) (fun hF => ?_)
    · refine lv_iload_n (pc := 71) hx hb dX6_beside_71 rfl (lv_at hl 1 rfl) ?_
      refine lv_bipush (pc := 72) (v := 7) hx hb dX6_beside_72 (by decide) ?_
      refine lv_iadd (pc := 74) hx hb dX6_beside_74 ?_
      cases hF
      exact gx_iret hx hb hr hlocks hw dX6_beside_75
    refine lv_iconst (pc := 67) (v := (-1)) hx hb dX6_beside_67 (by decide) ?_
    refine lv_goto (pc := 68) (tgt := 75) hx hb dX6_beside_68 (by decide) ?_
    cases hF
    exact gx_iret hx hb hr hlocks hw dX6_beside_75
  rw [if_neg hs2] at hF
  refine gx_tableD (pc := 6) (tgt := 76) hx hb dX6_beside_6 [0, 1, 2] (List.forall_mem_cons.mpr ⟨hs0, (List.forall_mem_cons.mpr ⟨hs1, (List.forall_mem_cons.mpr ⟨hs2, (fun _ h => nomatch h)⟩)⟩)⟩) (by decide) (by decide) (by decide) ?_
  refine lv_iload_n (pc := 76) hx hb dX6_beside_76 rfl (lv_at hl 0 rfl) ?_
  refine gx_if_ne (pc := 77) (tgt := 84) hx hb hF dX6_beside_77 (by decide) (fun hF => ?_) (fun hF => ?_)
  · refine lv_iload_n (pc := 84) hx hb dX6_beside_84 rfl (lv_at hl 1 rfl) ?_
    refine lv_iconst (pc := 85) (v := 1) hx hb dX6_beside_85 (by decide) ?_
    refine lv_isub (pc := 86) hx hb dX6_beside_86 ?_
    cases hF
    exact gx_iret hx hb hr hlocks hw dX6_beside_87
  refine lv_iconst (pc := 80) (v := (-1)) hx hb dX6_beside_80 (by decide) ?_
  refine lv_goto (pc := 81) (tgt := 87) hx hb dX6_beside_81 (by decide) ?_
  cases hF
  exact gx_iret hx hb hr hlocks hw dX6_beside_87
set_option maxRecDepth 100000 in
theorem cn_X6_beside {l : Launch} {G : gx_G} {M : gx_S} {o : Int64} {d : UInt64} {I V : gx_F} {p : Program} {e : Env} {R : Room} {s : State} {m : MethodId} {args : Array Value} {below : List Frame} {meth : Method} {c : Code} {H : Heap} {locs : List Loc} {cells slots : Nat} {Q : State → Prop} {cc : ByteArray} {pc nL index : Nat} {ls : Array Slot} {rest : List Value} {own : String} {x0 : Int32} {x1 : Int32} {out : Int32} (hx : p.tables.exec = Jvm.exec) (hb : c.code = cc) (hml : c.maxLocals = nL) (hown : s.vm.findClass own = some m.cls) (hV : gx_V G s) (hw : gx_at G (I, V) M o d s.heap H locs) (hF : f_X6_beside x0 x1 I V = some out) (hlink : (Cond.methodLinkNest own index yX6_beside "GluedWall").before args s = true) (hsz : ls.size = nL) (hfr : 1 ≤ R.frames) (hlo : 22 ≤ R.locals) (hrest : (rest.map fun v => v.category).sum ≤ 8) (hdg : decode cc pc = .ok (.invokestatic index, 3))
    (kk : ∀ (H1 : Heap) (locs1 : List Loc), gx_at G (I, V) M o d s.heap H1 locs1 → W p l e R s m args below meth c H1 locs1 cells slots Q (F0 m (pc + 3) ls (.int out :: rest))) (hc : cells ≤ R.cells := by exact Nat.zero_le _) (hs : slots ≤ R.slots := by exact Nat.zero_le _) : W p l e R s m args below meth c H locs cells slots Q (F0 m pc ls (.int x1 :: .int x0 :: rest)) :=
  gx_runi hw (va_runSN (As := [.int x0, .int x1]) (rest := rest) ⟨hx, hb, hml, hown, (fun _ h => nomatch h : ∀ w ∈ ([] : List Cond), w.before args s = true)⟩ (k_X6_beside hF) ⟨gx_callN (n := 2) rfl rfl hlink (gw_49 hV) (gw_302 hV) (by decide +kernel) ⟨hfr, hlo⟩, gw_301 hV, trivial⟩ (gx_pre hV hw) rfl rfl hsz rfl (lv_room hrest) hdg ⟨hc, hs⟩) kk
set_option maxHeartbeats 4000000 in
set_option maxRecDepth 100000 in
theorem k_X5_brickOn {l : Launch} {G : gx_G} {M : gx_S} {o : Int64} {d : UInt64} {I V : gx_F} {k0 : Nat} {x1 : Int32} (hk0 : gx_isW k0) {out : Int32} (hF : f_X5_brickOn k0 x1 I V = some out) : gx_K l yX5_brickOn cX5_brickOn 2 (some .int) { frames := 0, cells := 0, slots := 0, locals := 0 } [.ref (G.2.1 k0), .int x1] G (I, V) M o d (gx_Qi G out (I, V) M o d) 0 0 := by
  refine gx_begin (by decide +kernel) (Nat.le_of_ble_eq_true rfl) ?_
  intro p e s m below meth c hx hb hr hml hown hlocks hV hw ls hl
  have hown : s.vm.findClass RX5 = some m.cls := hown
  have hl : lv_has ls 2 [(0, .ref (G.2.1 k0)), (1, .int x1)] := hl
  unfold f_X5_brickOn at hF
  refine lv_iload_n (pc := 0) hx hb dX5_brickOn_0 rfl (lv_at hl 1 rfl) ?_
  refine gx_if_lt (pc := 1) (tgt := 19) hx hb hF dX5_brickOn_1 (by decide) (fun hF => ?_) (fun hF => ?_)
  · refine lv_iconst (pc := 19) (v := (-1)) hx hb dX5_brickOn_19 (by decide) ?_
    cases hF
    exact gx_iret hx hb hr hlocks hw dX5_brickOn_20
  refine lv_iload_n (pc := 4) hx hb dX5_brickOn_4 rfl (lv_at hl 1 rfl) ?_
  refine lv_bipush (pc := 5) (v := 42) hx hb dX5_brickOn_5 (by decide) ?_
  refine gx_icmp_ge (pc := 7) (tgt := 19) hx hb hF dX5_brickOn_7 (by decide) (fun hF => ?_) (fun hF => ?_)
  · refine lv_iconst (pc := 19) (v := (-1)) hx hb dX5_brickOn_19 (by decide) ?_
    cases hF
    exact gx_iret hx hb hr hlocks hw dX5_brickOn_20
  refine lv_aload_n (pc := 10) hx hb dX5_brickOn_10 rfl (lv_at hl 0 rfl) ?_
  refine gg_X5_2 (pc := 11) hx hb hown hV hw hk0 (gw_89 hV) dX5_brickOn_11 ?_
  refine lv_iload_n (pc := 14) hx hb dX5_brickOn_14 rfl (lv_at hl 1 rfl) ?_
  refine ga_w3_ld (pc := 15) hx hb hV hw hk0 hF dX5_brickOn_15 (fun _ hF => ?_)
  refine lv_goto (pc := 16) (tgt := 20) hx hb dX5_brickOn_16 (by decide) ?_
  cases hF
  exact gx_iret hx hb hr hlocks hw dX5_brickOn_20
set_option maxRecDepth 100000 in
theorem cl_X5_brickOn {l : Launch} {G : gx_G} {M : gx_S} {o : Int64} {d : UInt64} {I V : gx_F} {p : Program} {e : Env} {R : Room} {s : State} {m : MethodId} {args : Array Value} {below : List Frame} {meth : Method} {c : Code} {H : Heap} {locs : List Loc} {cells slots : Nat} {Q : State → Prop} {cc : ByteArray} {pc nL index : Nat} {ls : Array Slot} {rest : List Value} {own : String} {k0 : Nat} {x1 : Int32} {out : Int32} (hx : p.tables.exec = Jvm.exec) (hb : c.code = cc) (hml : c.maxLocals = nL) (hown : s.vm.findClass own = some m.cls) (hV : gx_V G s) (hw : gx_at G (I, V) M o d s.heap H locs) (hk0 : gx_isW k0) (hF : f_X5_brickOn k0 x1 I V = some out) (hlink : (Cond.methodLink own index yX5_brickOn).before args s = true) (hsz : ls.size = nL) (hfr : 1 ≤ R.frames) (hlo : 21 ≤ R.locals) (hrest : (rest.map fun v => v.category).sum ≤ 8) (hdg : decode cc pc = .ok (.invokevirtual index, 3))
    (kk : ∀ (H1 : Heap) (locs1 : List Loc), gx_at G (I, V) M o d s.heap H1 locs1 → W p l e R s m args below meth c H1 locs1 cells slots Q (F0 m (pc + 3) ls (.int out :: rest))) (hc : cells ≤ R.cells := by exact Nat.zero_le _) (hs : slots ≤ R.slots := by exact Nat.zero_le _) : W p l e R s m args below meth c H locs cells slots Q (F0 m pc ls (.int x1 :: .ref (G.2.1 k0) :: rest)) :=
  gx_runi hw (va_runV (C := RX5) (As := [.int x1]) (rest := rest) ⟨hx, hb, hml, hown, (fun _ h => nomatch h : ∀ w ∈ ([] : List Cond), w.before args s = true)⟩ (k_X5_brickOn hk0 hF) ⟨gx_callB (n := 1) rfl rfl hlink (gw_50 hV) (gw_288 hV) (by decide +kernel) ⟨hfr, hlo⟩, gw_286 hV, gw_287 hV⟩ (gx_recv (k := k0) (ci := 7) (T := TX5) hV hw (gx_Wk hk0) (gc_W hk0) rfl) rfl rfl hsz rfl (lv_room hrest) hdg ⟨hc, hs⟩) kk
set_option maxHeartbeats 4000000 in
set_option maxRecDepth 100000 in
theorem k_X5_glueOn {l : Launch} {G : gx_G} {M : gx_S} {o : Int64} {d : UInt64} {I V : gx_F} {k0 : Nat} {x1 : Int32} {x2 : Int32} (hk0 : gx_isW k0) {out : Int32} (hF : f_X5_glueOn k0 x1 x2 I V = some out) : gx_K l yX5_glueOn cX5_glueOn 5 (some .int) { frames := 0, cells := 0, slots := 0, locals := 0 } [.ref (G.2.1 k0), .int x1, .int x2] G (I, V) M o d (gx_Qi G out (I, V) M o d) 0 0 := by
  refine gx_begin (by decide +kernel) (Nat.le_of_ble_eq_true rfl) ?_
  intro p e s m below meth c hx hb hr hml hown hlocks hV hw ls hl
  have hown : s.vm.findClass RX5 = some m.cls := hown
  have hl : lv_has ls 5 [(0, .ref (G.2.1 k0)), (1, .int x1), (2, .int x2)] := hl
  unfold f_X5_glueOn at hF
  refine lv_iload_n (pc := 0) hx hb dX5_glueOn_0 rfl (lv_at hl 1 rfl) ?_
  refine gx_if_lt (pc := 1) (tgt := 10) hx hb hF dX5_glueOn_1 (by decide) (fun hF => ?_) (fun hF => ?_)
  · refine lv_iconst (pc := 10) (v := (-1)) hx hb dX5_glueOn_10 (by decide) ?_
    cases hF
    exact gx_iret hx hb hr hlocks hw dX5_glueOn_11
  refine lv_iload_n (pc := 4) hx hb dX5_glueOn_4 rfl (lv_at hl 1 rfl) ?_
  refine lv_bipush (pc := 5) (v := 32) hx hb dX5_glueOn_5 (by decide) ?_
  refine gx_icmp_lt (pc := 7) (tgt := 12) hx hb hF dX5_glueOn_7 (by decide) (fun hF => ?_) (fun hF => ?_)
  · refine lv_iload_n (pc := 12) hx hb dX5_glueOn_12 rfl (lv_at hl 1 rfl) ?_
    refine lv_iconst (pc := 13) (v := 4) hx hb dX5_glueOn_13 (by decide) ?_
    refine lv_idiv (pc := 14) hx hb dX5_glueOn_14 (by decide) ?_
    refine lv_istore_n (pc := 15) (lv' := [(3, .int (x1 / 4)), (0, .ref (G.2.1 k0)), (1, .int x1), (2, .int x2)]) hx hb dX5_glueOn_15 rfl hl (by decide) rfl (fun ls hl => ?_)
    refine lv_iload_n (pc := 16) hx hb dX5_glueOn_16 rfl (lv_at hl 2 rfl) ?_
    refine lv_iconst (pc := 17) (v := 4) hx hb dX5_glueOn_17 (by decide) ?_
    refine lv_irem (pc := 18) hx hb dX5_glueOn_18 (by decide) ?_
    refine lv_istore (pc := 19) (lv' := [(4, .int (gx_rem x1 4)), (3, .int (x1 / 4)), (0, .ref (G.2.1 k0)), (1, .int x1), (2, .int x2)]) hx hb dX5_glueOn_19 hl (by decide) rfl (fun ls hl => ?_)
    refine lv_aload_n (pc := 21) hx hb dX5_glueOn_21 rfl (lv_at hl 2 rfl) ?_
    refine gg_X5_0 (pc := 22) hx hb hown hV hw hk0 (gw_84 hV) dX5_glueOn_22 ?_
    refine lv_iload_n (pc := 25) hx hb dX5_glueOn_25 rfl (lv_at hl 1 rfl) ?_
    refine lv_iconst (pc := 26) (v := 4) hx hb dX5_glueOn_26 (by decide) ?_
    refine lv_imul (pc := 27) hx hb dX5_glueOn_27 ?_
    refine lv_iload_n (pc := 28) hx hb dX5_glueOn_28 rfl (lv_at hl 4 rfl) ?_
    refine lv_iload (pc := 29) hx hb dX5_glueOn_29 (lv_at hl 0 rfl) ?_
    refine lv_isub (pc := 31) hx hb dX5_glueOn_31 ?_
    refine lv_iconst (pc := 32) (v := 3) hx hb dX5_glueOn_32 (by decide) ?_
    refine lv_iand (pc := 33) hx hb dX5_glueOn_33 ?_
    refine lv_iadd (pc := 34) hx hb dX5_glueOn_34 ?_
    refine ga_w1_ld (pc := 35) hx hb hV hw hk0 hF dX5_glueOn_35 (fun _ hF => ?_)
    cases hF
    exact gx_iret hx hb hr hlocks hw dX5_glueOn_36
  refine lv_iconst (pc := 10) (v := (-1)) hx hb dX5_glueOn_10 (by decide) ?_
  cases hF
  exact gx_iret hx hb hr hlocks hw dX5_glueOn_11
set_option maxRecDepth 100000 in
theorem cl_X5_glueOn {l : Launch} {G : gx_G} {M : gx_S} {o : Int64} {d : UInt64} {I V : gx_F} {p : Program} {e : Env} {R : Room} {s : State} {m : MethodId} {args : Array Value} {below : List Frame} {meth : Method} {c : Code} {H : Heap} {locs : List Loc} {cells slots : Nat} {Q : State → Prop} {cc : ByteArray} {pc nL index : Nat} {ls : Array Slot} {rest : List Value} {own : String} {k0 : Nat} {x1 : Int32} {x2 : Int32} {out : Int32} (hx : p.tables.exec = Jvm.exec) (hb : c.code = cc) (hml : c.maxLocals = nL) (hown : s.vm.findClass own = some m.cls) (hV : gx_V G s) (hw : gx_at G (I, V) M o d s.heap H locs) (hk0 : gx_isW k0) (hF : f_X5_glueOn k0 x1 x2 I V = some out) (hlink : (Cond.methodLink own index yX5_glueOn).before args s = true) (hsz : ls.size = nL) (hfr : 1 ≤ R.frames) (hlo : 24 ≤ R.locals) (hrest : (rest.map fun v => v.category).sum ≤ 8) (hdg : decode cc pc = .ok (.invokevirtual index, 3))
    (kk : ∀ (H1 : Heap) (locs1 : List Loc), gx_at G (I, V) M o d s.heap H1 locs1 → W p l e R s m args below meth c H1 locs1 cells slots Q (F0 m (pc + 3) ls (.int out :: rest))) (hc : cells ≤ R.cells := by exact Nat.zero_le _) (hs : slots ≤ R.slots := by exact Nat.zero_le _) : W p l e R s m args below meth c H locs cells slots Q (F0 m pc ls (.int x2 :: .int x1 :: .ref (G.2.1 k0) :: rest)) :=
  gx_runi hw (va_runV (C := RX5) (As := [.int x1, .int x2]) (rest := rest) ⟨hx, hb, hml, hown, (fun _ h => nomatch h : ∀ w ∈ ([] : List Cond), w.before args s = true)⟩ (k_X5_glueOn hk0 hF) ⟨gx_callB (n := 2) rfl rfl hlink (gw_50 hV) (gw_310 hV) (by decide +kernel) ⟨hfr, hlo⟩, gw_308 hV, gw_309 hV⟩ (gx_recv (k := k0) (ci := 7) (T := TX5) hV hw (gx_Wk hk0) (gc_W hk0) rfl) rfl rfl hsz rfl (lv_room hrest) hdg ⟨hc, hs⟩) kk
set_option maxHeartbeats 4000000 in
set_option maxRecDepth 100000 in
theorem k_X6_opposite {l : Launch} {G : gx_G} {M : gx_S} {o : Int64} {d : UInt64} {I V : gx_F} {x0 : Int32} {out : Int32} (hF : f_X6_opposite x0 I V = some out) : gx_K l yX6_opposite cX6_opposite 1 (some .int) { frames := 0, cells := 0, slots := 0, locals := 0 } [.int x0] G (I, V) M o d (gx_Qi G out (I, V) M o d) 0 0 := by
  refine gx_begin (by decide +kernel) (Nat.le_of_ble_eq_true rfl) ?_
  intro p e s m below meth c hx hb hr hml hown hlocks hV hw ls hl
  have hown : s.vm.findClass RX6 = some m.cls := hown
  have hl : lv_has ls 1 [(0, .int x0)] := hl
  unfold f_X6_opposite at hF
  refine lv_iload_n (pc := 0) hx hb dX6_opposite_0 rfl (lv_at hl 0 rfl) ?_
  refine lv_iconst (pc := 1) (v := 2) hx hb dX6_opposite_1 (by decide) ?_
  refine lv_iadd (pc := 2) hx hb dX6_opposite_2 ?_
  refine lv_iconst (pc := 3) (v := 4) hx hb dX6_opposite_3 (by decide) ?_
  refine lv_irem (pc := 4) hx hb dX6_opposite_4 (by decide) ?_
  cases hF
  exact gx_iret hx hb hr hlocks hw dX6_opposite_5
set_option maxRecDepth 100000 in
theorem cn_X6_opposite {l : Launch} {G : gx_G} {M : gx_S} {o : Int64} {d : UInt64} {I V : gx_F} {p : Program} {e : Env} {R : Room} {s : State} {m : MethodId} {args : Array Value} {below : List Frame} {meth : Method} {c : Code} {H : Heap} {locs : List Loc} {cells slots : Nat} {Q : State → Prop} {cc : ByteArray} {pc nL index : Nat} {ls : Array Slot} {rest : List Value} {own : String} {x0 : Int32} {out : Int32} (hx : p.tables.exec = Jvm.exec) (hb : c.code = cc) (hml : c.maxLocals = nL) (hown : s.vm.findClass own = some m.cls) (hV : gx_V G s) (hw : gx_at G (I, V) M o d s.heap H locs) (hF : f_X6_opposite x0 I V = some out) (hlink : (Cond.methodLinkNest own index yX6_opposite "GluedWall").before args s = true) (hsz : ls.size = nL) (hfr : 1 ≤ R.frames) (hlo : 20 ≤ R.locals) (hrest : (rest.map fun v => v.category).sum ≤ 8) (hdg : decode cc pc = .ok (.invokestatic index, 3))
    (kk : ∀ (H1 : Heap) (locs1 : List Loc), gx_at G (I, V) M o d s.heap H1 locs1 → W p l e R s m args below meth c H1 locs1 cells slots Q (F0 m (pc + 3) ls (.int out :: rest))) (hc : cells ≤ R.cells := by exact Nat.zero_le _) (hs : slots ≤ R.slots := by exact Nat.zero_le _) : W p l e R s m args below meth c H locs cells slots Q (F0 m pc ls (.int x0 :: rest)) :=
  gx_runi hw (va_runSN (As := [.int x0]) (rest := rest) ⟨hx, hb, hml, hown, (fun _ h => nomatch h : ∀ w ∈ ([] : List Cond), w.before args s = true)⟩ (k_X6_opposite hF) ⟨gx_callN (n := 1) rfl rfl hlink (gw_49 hV) (gw_318 hV) (by decide +kernel) ⟨hfr, hlo⟩, gw_317 hV, trivial⟩ (gx_pre hV hw) rfl rfl hsz rfl (lv_room hrest) hdg ⟨hc, hs⟩) kk
set_option maxHeartbeats 4000000 in
set_option maxRecDepth 100000 in
theorem k_X5_glueFacing {l : Launch} {G : gx_G} {M : gx_S} {o : Int64} {d : UInt64} {I V : gx_F} {k0 : Nat} {x1 : Int32} {x2 : Int32} (hk0 : gx_isW k0) {out : Int32} (hF : f_X5_glueFacing k0 x1 x2 I V = some out) : gx_K l yX5_glueFacing cX5_glueFacing 3 (some .int) { frames := 1, cells := 0, slots := 0, locals := 24 } [.ref (G.2.1 k0), .int x1, .int x2] G (I, V) M o d (gx_Qi G out (I, V) M o d) 0 0 := by
  refine gx_begin (by decide +kernel) (Nat.le_of_ble_eq_true rfl) ?_
  intro p e s m below meth c hx hb hr hml hown hlocks hV hw ls hl
  have hown : s.vm.findClass RX5 = some m.cls := hown
  have hl : lv_has ls 3 [(0, .ref (G.2.1 k0)), (1, .int x1), (2, .int x2)] := hl
  unfold f_X5_glueFacing at hF
  refine lv_aload_n (pc := 0) hx hb dX5_glueFacing_0 rfl (lv_at hl 0 rfl) ?_
  refine lv_aload_n (pc := 1) hx hb dX5_glueFacing_1 rfl (lv_at hl 0 rfl) ?_
  refine lv_iload_n (pc := 2) hx hb dX5_glueFacing_2 rfl (lv_at hl 1 rfl) ?_
  refine lv_iload_n (pc := 3) hx hb dX5_glueFacing_3 rfl (lv_at hl 2 rfl) ?_
  obtain ⟨uq_1, huq_1, hF⟩ := Option.bind_eq_some_iff.mp hF
  refine cn_X6_beside (pc := 4) hx hb hml hown hV hw huq_1 (gw_315 hV) hl.1 (Nat.le_of_ble_eq_true rfl) (Nat.le_of_ble_eq_true rfl) (Nat.le_of_ble_eq_true rfl) dX5_glueFacing_4 (fun H locs hw => ?_)
  obtain ⟨uq_2, huq_2, hF⟩ := Option.bind_eq_some_iff.mp hF
  refine cl_X5_brickOn (pc := 7) hx hb hml hown hV hw hk0 huq_2 (gw_285 hV) hl.1 (Nat.le_of_ble_eq_true rfl) (Nat.le_of_ble_eq_true rfl) (Nat.le_of_ble_eq_true rfl) dX5_glueFacing_7 (fun H locs hw => ?_)
  refine lv_iload_n (pc := 10) hx hb dX5_glueFacing_10 rfl (lv_at hl 2 rfl) ?_
  obtain ⟨uq_3, huq_3, hF⟩ := Option.bind_eq_some_iff.mp hF
  refine cn_X6_opposite (pc := 11) hx hb hml hown hV hw huq_3 (gw_316 hV) hl.1 (Nat.le_of_ble_eq_true rfl) (Nat.le_of_ble_eq_true rfl) (Nat.le_of_ble_eq_true rfl) dX5_glueFacing_11 (fun H locs hw => ?_)
  obtain ⟨uq_4, huq_4, hF⟩ := Option.bind_eq_some_iff.mp hF
  refine cl_X5_glueOn (pc := 14) hx hb hml hown hV hw hk0 huq_4 (gw_307 hV) hl.1 (Nat.le_of_ble_eq_true rfl) (Nat.le_of_ble_eq_true rfl) (Nat.le_of_ble_eq_true rfl) dX5_glueFacing_14 (fun H locs hw => ?_)
  cases hF
  exact gx_iret hx hb hr hlocks hw dX5_glueFacing_17
set_option maxRecDepth 100000 in
theorem cl_X5_glueFacing {l : Launch} {G : gx_G} {M : gx_S} {o : Int64} {d : UInt64} {I V : gx_F} {p : Program} {e : Env} {R : Room} {s : State} {m : MethodId} {args : Array Value} {below : List Frame} {meth : Method} {c : Code} {H : Heap} {locs : List Loc} {cells slots : Nat} {Q : State → Prop} {cc : ByteArray} {pc nL index : Nat} {ls : Array Slot} {rest : List Value} {own : String} {k0 : Nat} {x1 : Int32} {x2 : Int32} {out : Int32} (hx : p.tables.exec = Jvm.exec) (hb : c.code = cc) (hml : c.maxLocals = nL) (hown : s.vm.findClass own = some m.cls) (hV : gx_V G s) (hw : gx_at G (I, V) M o d s.heap H locs) (hk0 : gx_isW k0) (hF : f_X5_glueFacing k0 x1 x2 I V = some out) (hlink : (Cond.methodLink own index yX5_glueFacing).before args s = true) (hsz : ls.size = nL) (hfr : 2 ≤ R.frames) (hlo : 46 ≤ R.locals) (hrest : (rest.map fun v => v.category).sum ≤ 8) (hdg : decode cc pc = .ok (.invokevirtual index, 3))
    (kk : ∀ (H1 : Heap) (locs1 : List Loc), gx_at G (I, V) M o d s.heap H1 locs1 → W p l e R s m args below meth c H1 locs1 cells slots Q (F0 m (pc + 3) ls (.int out :: rest))) (hc : cells ≤ R.cells := by exact Nat.zero_le _) (hs : slots ≤ R.slots := by exact Nat.zero_le _) : W p l e R s m args below meth c H locs cells slots Q (F0 m pc ls (.int x2 :: .int x1 :: .ref (G.2.1 k0) :: rest)) :=
  gx_runi hw (va_runV (C := RX5) (As := [.int x1, .int x2]) (rest := rest) ⟨hx, hb, hml, hown, (fun _ h => nomatch h : ∀ w ∈ ([] : List Cond), w.before args s = true)⟩ (k_X5_glueFacing hk0 hF) ⟨gx_callB (n := 2) rfl rfl hlink (gw_50 hV) (gw_314 hV) (by decide +kernel) ⟨hfr, hlo⟩, gw_312 hV, gw_313 hV⟩ (gx_recv (k := k0) (ci := 7) (T := TX5) hV hw (gx_Wk hk0) (gc_W hk0) rfl) rfl rfl hsz rfl (lv_room hrest) hdg ⟨hc, hs⟩) kk
set_option maxHeartbeats 4000000 in
set_option maxRecDepth 100000 in
theorem k_X5_strengthBetween {l : Launch} {G : gx_G} {M : gx_S} {o : Int64} {d : UInt64} {I V : gx_F} {k0 : Nat} {x1 : Int32} {x2 : Int32} (hk0 : gx_isW k0) {out : Int32} (hF : f_X5_strengthBetween k0 x1 x2 I V = some out) : gx_K l yX5_strengthBetween cX5_strengthBetween 3 (some .int) { frames := 0, cells := 0, slots := 0, locals := 0 } [.ref (G.2.1 k0), .int x1, .int x2] G (I, V) M o d (gx_Qi G out (I, V) M o d) 0 0 := by
  refine gx_begin (by decide +kernel) (Nat.le_of_ble_eq_true rfl) ?_
  intro p e s m below meth c hx hb hr hml hown hlocks hV hw ls hl
  have hown : s.vm.findClass RX5 = some m.cls := hown
  have hl : lv_has ls 3 [(0, .ref (G.2.1 k0)), (1, .int x1), (2, .int x2)] := hl
  unfold f_X5_strengthBetween at hF
  refine lv_iload_n (pc := 0) hx hb dX5_strengthBetween_0 rfl (lv_at hl 1 rfl) ?_
  refine lv_iload_n (pc := 1) hx hb dX5_strengthBetween_1 rfl (lv_at hl 2 rfl) ?_
  refine gx_icmp_ne (pc := 2) (tgt := 24) hx hb hF dX5_strengthBetween_2 (by decide) (fun hF => ?_) (fun hF => ?_)
  · refine lv_iconst (pc := 24) (v := 0) hx hb dX5_strengthBetween_24 (by decide) ?_
    cases hF
    exact gx_iret hx hb hr hlocks hw dX5_strengthBetween_25
  refine lv_iload_n (pc := 5) hx hb dX5_strengthBetween_5 rfl (lv_at hl 1 rfl) ?_
  refine gx_if_le (pc := 6) (tgt := 24) hx hb hF dX5_strengthBetween_6 (by decide) (fun hF => ?_) (fun hF => ?_)
  · refine lv_iconst (pc := 24) (v := 0) hx hb dX5_strengthBetween_24 (by decide) ?_
    cases hF
    exact gx_iret hx hb hr hlocks hw dX5_strengthBetween_25
  refine lv_iload_n (pc := 9) hx hb dX5_strengthBetween_9 rfl (lv_at hl 1 rfl) ?_
  refine lv_bipush (pc := 10) (v := 6) hx hb dX5_strengthBetween_10 (by decide) ?_
  refine gx_icmp_gt (pc := 12) (tgt := 24) hx hb hF dX5_strengthBetween_12 (by decide) (fun hF => ?_) (fun hF => ?_)
  · refine lv_iconst (pc := 24) (v := 0) hx hb dX5_strengthBetween_24 (by decide) ?_
    cases hF
    exact gx_iret hx hb hr hlocks hw dX5_strengthBetween_25
  refine lv_aload_n (pc := 15) hx hb dX5_strengthBetween_15 rfl (lv_at hl 0 rfl) ?_
  refine gg_X5_1 (pc := 16) hx hb hown hV hw hk0 (gw_86 hV) dX5_strengthBetween_16 ?_
  refine lv_iload_n (pc := 19) hx hb dX5_strengthBetween_19 rfl (lv_at hl 1 rfl) ?_
  refine ga_w2_ld (pc := 20) hx hb hV hw hk0 hF dX5_strengthBetween_20 (fun _ hF => ?_)
  refine lv_goto (pc := 21) (tgt := 25) hx hb dX5_strengthBetween_21 (by decide) ?_
  cases hF
  exact gx_iret hx hb hr hlocks hw dX5_strengthBetween_25
set_option maxRecDepth 100000 in
theorem cl_X5_strengthBetween {l : Launch} {G : gx_G} {M : gx_S} {o : Int64} {d : UInt64} {I V : gx_F} {p : Program} {e : Env} {R : Room} {s : State} {m : MethodId} {args : Array Value} {below : List Frame} {meth : Method} {c : Code} {H : Heap} {locs : List Loc} {cells slots : Nat} {Q : State → Prop} {cc : ByteArray} {pc nL index : Nat} {ls : Array Slot} {rest : List Value} {own : String} {k0 : Nat} {x1 : Int32} {x2 : Int32} {out : Int32} (hx : p.tables.exec = Jvm.exec) (hb : c.code = cc) (hml : c.maxLocals = nL) (hown : s.vm.findClass own = some m.cls) (hV : gx_V G s) (hw : gx_at G (I, V) M o d s.heap H locs) (hk0 : gx_isW k0) (hF : f_X5_strengthBetween k0 x1 x2 I V = some out) (hlink : (Cond.methodLink own index yX5_strengthBetween).before args s = true) (hsz : ls.size = nL) (hfr : 1 ≤ R.frames) (hlo : 22 ≤ R.locals) (hrest : (rest.map fun v => v.category).sum ≤ 8) (hdg : decode cc pc = .ok (.invokevirtual index, 3))
    (kk : ∀ (H1 : Heap) (locs1 : List Loc), gx_at G (I, V) M o d s.heap H1 locs1 → W p l e R s m args below meth c H1 locs1 cells slots Q (F0 m (pc + 3) ls (.int out :: rest))) (hc : cells ≤ R.cells := by exact Nat.zero_le _) (hs : slots ≤ R.slots := by exact Nat.zero_le _) : W p l e R s m args below meth c H locs cells slots Q (F0 m pc ls (.int x2 :: .int x1 :: .ref (G.2.1 k0) :: rest)) :=
  gx_runi hw (va_runV (C := RX5) (As := [.int x1, .int x2]) (rest := rest) ⟨hx, hb, hml, hown, (fun _ h => nomatch h : ∀ w ∈ ([] : List Cond), w.before args s = true)⟩ (k_X5_strengthBetween hk0 hF) ⟨gx_callB (n := 2) rfl rfl hlink (gw_50 hV) (gw_322 hV) (by decide +kernel) ⟨hfr, hlo⟩, gw_320 hV, gw_321 hV⟩ (gx_recv (k := k0) (ci := 7) (T := TX5) hV hw (gx_Wk hk0) (gc_W hk0) rfl) rfl rfl hsz rfl (lv_room hrest) hdg ⟨hc, hs⟩) kk
set_option maxHeartbeats 4000000 in
set_option maxRecDepth 100000 in
theorem k_X5_strengthToward {l : Launch} {G : gx_G} {M : gx_S} {o : Int64} {d : UInt64} {I V : gx_F} {k0 : Nat} {x1 : Int32} {x2 : Int32} (hk0 : gx_isW k0) {out : Int32} (hF : f_X5_strengthToward k0 x1 x2 I V = some out) : gx_K l yX5_strengthToward cX5_strengthToward 3 (some .int) { frames := 2, cells := 0, slots := 0, locals := 46 } [.ref (G.2.1 k0), .int x1, .int x2] G (I, V) M o d (gx_Qi G out (I, V) M o d) 0 0 := by
  refine gx_begin (by decide +kernel) (Nat.le_of_ble_eq_true rfl) ?_
  intro p e s m below meth c hx hb hr hml hown hlocks hV hw ls hl
  have hown : s.vm.findClass RX5 = some m.cls := hown
  have hl : lv_has ls 3 [(0, .ref (G.2.1 k0)), (1, .int x1), (2, .int x2)] := hl
  unfold f_X5_strengthToward at hF
  refine lv_aload_n (pc := 0) hx hb dX5_strengthToward_0 rfl (lv_at hl 0 rfl) ?_
  refine lv_aload_n (pc := 1) hx hb dX5_strengthToward_1 rfl (lv_at hl 0 rfl) ?_
  refine lv_aload_n (pc := 2) hx hb dX5_strengthToward_2 rfl (lv_at hl 0 rfl) ?_
  refine lv_iload_n (pc := 3) hx hb dX5_strengthToward_3 rfl (lv_at hl 1 rfl) ?_
  obtain ⟨uq_1, huq_1, hF⟩ := Option.bind_eq_some_iff.mp hF
  refine cl_X5_brickOn (pc := 4) hx hb hml hown hV hw hk0 huq_1 (gw_285 hV) hl.1 (Nat.le_of_ble_eq_true rfl) (Nat.le_of_ble_eq_true rfl) (Nat.le_of_ble_eq_true rfl) dX5_strengthToward_4 (fun H locs hw => ?_)
  refine lv_iload_n (pc := 7) hx hb dX5_strengthToward_7 rfl (lv_at hl 2 rfl) ?_
  obtain ⟨uq_2, huq_2, hF⟩ := Option.bind_eq_some_iff.mp hF
  refine cl_X5_glueOn (pc := 8) hx hb hml hown hV hw hk0 huq_2 (gw_307 hV) hl.1 (Nat.le_of_ble_eq_true rfl) (Nat.le_of_ble_eq_true rfl) (Nat.le_of_ble_eq_true rfl) dX5_strengthToward_8 (fun H locs hw => ?_)
  refine lv_aload_n (pc := 11) hx hb dX5_strengthToward_11 rfl (lv_at hl 0 rfl) ?_
  refine lv_iload_n (pc := 12) hx hb dX5_strengthToward_12 rfl (lv_at hl 1 rfl) ?_
  refine lv_iload_n (pc := 13) hx hb dX5_strengthToward_13 rfl (lv_at hl 2 rfl) ?_
  obtain ⟨uq_3, huq_3, hF⟩ := Option.bind_eq_some_iff.mp hF
  refine cl_X5_glueFacing (pc := 14) hx hb hml hown hV hw hk0 huq_3 (gw_311 hV) hl.1 (Nat.le_of_ble_eq_true rfl) (Nat.le_of_ble_eq_true rfl) (Nat.le_of_ble_eq_true rfl) dX5_strengthToward_14 (fun H locs hw => ?_)
  obtain ⟨uq_4, huq_4, hF⟩ := Option.bind_eq_some_iff.mp hF
  refine cl_X5_strengthBetween (pc := 17) hx hb hml hown hV hw hk0 huq_4 (gw_319 hV) hl.1 (Nat.le_of_ble_eq_true rfl) (Nat.le_of_ble_eq_true rfl) (Nat.le_of_ble_eq_true rfl) dX5_strengthToward_17 (fun H locs hw => ?_)
  cases hF
  exact gx_iret hx hb hr hlocks hw dX5_strengthToward_20
set_option maxRecDepth 100000 in
theorem cl_X5_strengthToward {l : Launch} {G : gx_G} {M : gx_S} {o : Int64} {d : UInt64} {I V : gx_F} {p : Program} {e : Env} {R : Room} {s : State} {m : MethodId} {args : Array Value} {below : List Frame} {meth : Method} {c : Code} {H : Heap} {locs : List Loc} {cells slots : Nat} {Q : State → Prop} {cc : ByteArray} {pc nL index : Nat} {ls : Array Slot} {rest : List Value} {own : String} {k0 : Nat} {x1 : Int32} {x2 : Int32} {out : Int32} (hx : p.tables.exec = Jvm.exec) (hb : c.code = cc) (hml : c.maxLocals = nL) (hown : s.vm.findClass own = some m.cls) (hV : gx_V G s) (hw : gx_at G (I, V) M o d s.heap H locs) (hk0 : gx_isW k0) (hF : f_X5_strengthToward k0 x1 x2 I V = some out) (hlink : (Cond.methodLink own index yX5_strengthToward).before args s = true) (hsz : ls.size = nL) (hfr : 3 ≤ R.frames) (hlo : 68 ≤ R.locals) (hrest : (rest.map fun v => v.category).sum ≤ 8) (hdg : decode cc pc = .ok (.invokevirtual index, 3))
    (kk : ∀ (H1 : Heap) (locs1 : List Loc), gx_at G (I, V) M o d s.heap H1 locs1 → W p l e R s m args below meth c H1 locs1 cells slots Q (F0 m (pc + 3) ls (.int out :: rest))) (hc : cells ≤ R.cells := by exact Nat.zero_le _) (hs : slots ≤ R.slots := by exact Nat.zero_le _) : W p l e R s m args below meth c H locs cells slots Q (F0 m pc ls (.int x2 :: .int x1 :: .ref (G.2.1 k0) :: rest)) :=
  gx_runi hw (va_runV (C := RX5) (As := [.int x1, .int x2]) (rest := rest) ⟨hx, hb, hml, hown, (fun _ h => nomatch h : ∀ w ∈ ([] : List Cond), w.before args s = true)⟩ (k_X5_strengthToward hk0 hF) ⟨gx_callB (n := 2) rfl rfl hlink (gw_50 hV) (gw_306 hV) (by decide +kernel) ⟨hfr, hlo⟩, gw_304 hV, gw_305 hV⟩ (gx_recv (k := k0) (ci := 7) (T := TX5) hV hw (gx_Wk hk0) (gc_W hk0) rfl) rfl rfl hsz rfl (lv_room hrest) hdg ⟨hc, hs⟩) kk
set_option maxHeartbeats 4000000 in
set_option maxRecDepth 100000 in
theorem k_X5_isFree {l : Launch} {G : gx_G} {M : gx_S} {o : Int64} {d : UInt64} {I V : gx_F} {k0 : Nat} {x1 : Int32} (hk0 : gx_isW k0) {out : Bool} (hF : f_X5_isFree k0 x1 I V = some out) : gx_K l yX5_isFree cX5_isFree 2 (some .boolean) { frames := 1, cells := 0, slots := 0, locals := 21 } [.ref (G.2.1 k0), .int x1] G (I, V) M o d (gx_Qi G (gx_bi out) (I, V) M o d) 0 0 := by
  refine gx_begin (by decide +kernel) (Nat.le_of_ble_eq_true rfl) ?_
  intro p e s m below meth c hx hb hr hml hown hlocks hV hw ls hl
  have hown : s.vm.findClass RX5 = some m.cls := hown
  have hl : lv_has ls 2 [(0, .ref (G.2.1 k0)), (1, .int x1)] := hl
  unfold f_X5_isFree at hF
  refine lv_aload_n (pc := 0) hx hb dX5_isFree_0 rfl (lv_at hl 0 rfl) ?_
  refine lv_iload_n (pc := 1) hx hb dX5_isFree_1 rfl (lv_at hl 1 rfl) ?_
  obtain ⟨uq_1, huq_1, hF⟩ := Option.bind_eq_some_iff.mp hF
  refine cl_X5_brickOn (pc := 2) hx hb hml hown hV hw hk0 huq_1 (gw_285 hV) hl.1 (Nat.le_of_ble_eq_true rfl) (Nat.le_of_ble_eq_true rfl) (Nat.le_of_ble_eq_true rfl) dX5_isFree_2 (fun H locs hw => ?_)
  refine lv_iconst (pc := 5) (v := (-1)) hx hb dX5_isFree_5 (by decide) ?_
  refine gx_icmp_ne (pc := 6) (tgt := 13) hx hb hF dX5_isFree_6 (by decide) (fun hF => ?_) (fun hF => ?_)
  · refine lv_iconst (pc := 13) (v := 0) hx hb dX5_isFree_13 (by decide) ?_
    cases hF
    exact gx_zret (r := gx_bi false) hx hb hr (gx_narb _) hlocks hw dX5_isFree_14
  refine lv_iconst (pc := 9) (v := 1) hx hb dX5_isFree_9 (by decide) ?_
  refine lv_goto (pc := 10) (tgt := 14) hx hb dX5_isFree_10 (by decide) ?_
  cases hF
  exact gx_zret (r := gx_bi true) hx hb hr (gx_narb _) hlocks hw dX5_isFree_14
set_option maxRecDepth 100000 in
theorem cl_X5_isFree {l : Launch} {G : gx_G} {M : gx_S} {o : Int64} {d : UInt64} {I V : gx_F} {p : Program} {e : Env} {R : Room} {s : State} {m : MethodId} {args : Array Value} {below : List Frame} {meth : Method} {c : Code} {H : Heap} {locs : List Loc} {cells slots : Nat} {Q : State → Prop} {cc : ByteArray} {pc nL index : Nat} {ls : Array Slot} {rest : List Value} {own : String} {k0 : Nat} {x1 : Int32} {out : Bool} (hx : p.tables.exec = Jvm.exec) (hb : c.code = cc) (hml : c.maxLocals = nL) (hown : s.vm.findClass own = some m.cls) (hV : gx_V G s) (hw : gx_at G (I, V) M o d s.heap H locs) (hk0 : gx_isW k0) (hF : f_X5_isFree k0 x1 I V = some out) (hlink : (Cond.methodLink own index yX5_isFree).before args s = true) (hsz : ls.size = nL) (hfr : 2 ≤ R.frames) (hlo : 42 ≤ R.locals) (hrest : (rest.map fun v => v.category).sum ≤ 8) (hdg : decode cc pc = .ok (.invokevirtual index, 3))
    (kk : ∀ (H1 : Heap) (locs1 : List Loc), gx_at G (I, V) M o d s.heap H1 locs1 → W p l e R s m args below meth c H1 locs1 cells slots Q (F0 m (pc + 3) ls (.int (gx_bi out) :: rest))) (hc : cells ≤ R.cells := by exact Nat.zero_le _) (hs : slots ≤ R.slots := by exact Nat.zero_le _) : W p l e R s m args below meth c H locs cells slots Q (F0 m pc ls (.int x1 :: .ref (G.2.1 k0) :: rest)) :=
  gx_runi hw (va_runV (C := RX5) (As := [.int x1]) (rest := rest) ⟨hx, hb, hml, hown, (fun _ h => nomatch h : ∀ w ∈ ([] : List Cond), w.before args s = true)⟩ (k_X5_isFree hk0 hF) ⟨gx_callB (n := 1) rfl rfl hlink (gw_50 hV) (gw_284 hV) (by decide +kernel) ⟨hfr, hlo⟩, gw_282 hV, gw_283 hV⟩ (gx_recv (k := k0) (ci := 7) (T := TX5) hV hw (gx_Wk hk0) (gc_W hk0) rfl) rfl rfl hsz rfl (lv_room hrest) hdg ⟨hc, hs⟩) kk
set_option maxHeartbeats 4000000 in
set_option maxRecDepth 100000 in
theorem k_X5_areAtOdds {l : Launch} {G : gx_G} {M : gx_S} {o : Int64} {d : UInt64} {I V : gx_F} {x0 : Int32} {x1 : Int32} {out : Bool} (hF : f_X5_areAtOdds x0 x1 I V = some out) : gx_K l yX5_areAtOdds cX5_areAtOdds 2 (some .boolean) { frames := 0, cells := 0, slots := 0, locals := 0 } [.int x0, .int x1] G (I, V) M o d (gx_Qi G (gx_bi out) (I, V) M o d) 0 0 := by
  refine gx_begin (by decide +kernel) (Nat.le_of_ble_eq_true rfl) ?_
  intro p e s m below meth c hx hb hr hml hown hlocks hV hw ls hl
  have hown : s.vm.findClass RX5 = some m.cls := hown
  have hl : lv_has ls 2 [(0, .int x0), (1, .int x1)] := hl
  unfold f_X5_areAtOdds at hF
  refine lv_iload_n (pc := 0) hx hb dX5_areAtOdds_0 rfl (lv_at hl 0 rfl) ?_
  refine gx_if_le (pc := 1) (tgt := 17) hx hb hF dX5_areAtOdds_1 (by decide) (fun hF => ?_) (fun hF => ?_)
  · refine lv_iconst (pc := 17) (v := 0) hx hb dX5_areAtOdds_17 (by decide) ?_
    cases hF
    exact gx_zret (r := gx_bi false) hx hb hr (gx_narb _) hlocks hw dX5_areAtOdds_18
  refine lv_iload_n (pc := 4) hx hb dX5_areAtOdds_4 rfl (lv_at hl 1 rfl) ?_
  refine gx_if_le (pc := 5) (tgt := 17) hx hb hF dX5_areAtOdds_5 (by decide) (fun hF => ?_) (fun hF => ?_)
  · refine lv_iconst (pc := 17) (v := 0) hx hb dX5_areAtOdds_17 (by decide) ?_
    cases hF
    exact gx_zret (r := gx_bi false) hx hb hr (gx_narb _) hlocks hw dX5_areAtOdds_18
  refine lv_iload_n (pc := 8) hx hb dX5_areAtOdds_8 rfl (lv_at hl 0 rfl) ?_
  refine lv_iload_n (pc := 9) hx hb dX5_areAtOdds_9 rfl (lv_at hl 1 rfl) ?_
  refine gx_icmp_eq (pc := 10) (tgt := 17) hx hb hF dX5_areAtOdds_10 (by decide) (fun hF => ?_) (fun hF => ?_)
  · refine lv_iconst (pc := 17) (v := 0) hx hb dX5_areAtOdds_17 (by decide) ?_
    cases hF
    exact gx_zret (r := gx_bi false) hx hb hr (gx_narb _) hlocks hw dX5_areAtOdds_18
  refine lv_iconst (pc := 13) (v := 1) hx hb dX5_areAtOdds_13 (by decide) ?_
  refine lv_goto (pc := 14) (tgt := 18) hx hb dX5_areAtOdds_14 (by decide) ?_
  cases hF
  exact gx_zret (r := gx_bi true) hx hb hr (gx_narb _) hlocks hw dX5_areAtOdds_18
set_option maxRecDepth 100000 in
theorem cl_X5_areAtOdds {l : Launch} {G : gx_G} {M : gx_S} {o : Int64} {d : UInt64} {I V : gx_F} {p : Program} {e : Env} {R : Room} {s : State} {m : MethodId} {args : Array Value} {below : List Frame} {meth : Method} {c : Code} {H : Heap} {locs : List Loc} {cells slots : Nat} {Q : State → Prop} {cc : ByteArray} {pc nL index : Nat} {ls : Array Slot} {rest : List Value} {own : String} {x0 : Int32} {x1 : Int32} {out : Bool} (hx : p.tables.exec = Jvm.exec) (hb : c.code = cc) (hml : c.maxLocals = nL) (hown : s.vm.findClass own = some m.cls) (hV : gx_V G s) (hw : gx_at G (I, V) M o d s.heap H locs) (hF : f_X5_areAtOdds x0 x1 I V = some out) (hlink : (Cond.methodLink own index yX5_areAtOdds).before args s = true) (hsz : ls.size = nL) (hfr : 1 ≤ R.frames) (hlo : 21 ≤ R.locals) (hrest : (rest.map fun v => v.category).sum ≤ 8) (hdg : decode cc pc = .ok (.invokestatic index, 3))
    (kk : ∀ (H1 : Heap) (locs1 : List Loc), gx_at G (I, V) M o d s.heap H1 locs1 → W p l e R s m args below meth c H1 locs1 cells slots Q (F0 m (pc + 3) ls (.int (gx_bi out) :: rest))) (hc : cells ≤ R.cells := by exact Nat.zero_le _) (hs : slots ≤ R.slots := by exact Nat.zero_le _) : W p l e R s m args below meth c H locs cells slots Q (F0 m pc ls (.int x1 :: .int x0 :: rest)) :=
  gx_runi hw (va_runS (As := [.int x0, .int x1]) (rest := rest) ⟨hx, hb, hml, hown, (fun _ h => nomatch h : ∀ w ∈ ([] : List Cond), w.before args s = true)⟩ (k_X5_areAtOdds hF) ⟨gx_callB (n := 2) rfl rfl hlink (gw_50 hV) (gw_337 hV) (by decide +kernel) ⟨hfr, hlo⟩, gw_336 hV⟩ (gx_pre hV hw) rfl rfl hsz rfl (lv_room hrest) hdg ⟨hc, hs⟩) kk
set_option maxHeartbeats 4000000 in
set_option maxRecDepth 100000 in
theorem k_X5_put {l : Launch} {G : gx_G} {M : gx_S} {o : Int64} {d : UInt64} {I V : gx_F} {k0 : Nat} {x1 : Int32} {x2 : Int32} (hk0 : gx_isW k0) {out : (gx_F × gx_F)} (hF : f_X5_put k0 x1 x2 I V = some out) : gx_K l yX5_put cX5_put 3 none { frames := 1, cells := 0, slots := 0, locals := 20 } [.ref (G.2.1 k0), .int x1, .int x2] G (I, V) M o d (gx_Qv G (out.1, out.2) M o d) 0 0 := by
  refine gx_begin (by decide +kernel) (Nat.le_of_ble_eq_true rfl) ?_
  intro p e s m below meth c hx hb hr hml hown hlocks hV hw ls hl
  have hown : s.vm.findClass RX5 = some m.cls := hown
  have hl : lv_has ls 3 [(0, .ref (G.2.1 k0)), (1, .int x1), (2, .int x2)] := hl
  unfold f_X5_put at hF
  refine lv_iload_n (pc := 0) hx hb dX5_put_0 rfl (lv_at hl 1 rfl) ?_
  obtain ⟨uq_1, huq_1, hF⟩ := Option.bind_eq_some_iff.mp hF
  refine cn_X6_isPlace (pc := 1) hx hb hml hown hV hw huq_1 (gw_388 hV) hl.1 (Nat.le_of_ble_eq_true rfl) (Nat.le_of_ble_eq_true rfl) (Nat.le_of_ble_eq_true rfl) dX5_put_1 (fun H locs hw => ?_)
  refine gx_if_eq (pc := 4) (tgt := 24) hx hb hF dX5_put_4 (by decide) (fun hF => ?_) (fun hF => ?_)
  · cases hF
    exact gx_vret hx hb hr hlocks hw dX5_put_24
  refine lv_aload_n (pc := 7) hx hb dX5_put_7 rfl (lv_at hl 0 rfl) ?_
  refine gg_X5_2 (pc := 8) hx hb hown hV hw hk0 (gw_89 hV) dX5_put_8 ?_
  refine lv_iload_n (pc := 11) hx hb dX5_put_11 rfl (lv_at hl 1 rfl) ?_
  refine lv_iload_n (pc := 12) hx hb dX5_put_12 rfl (lv_at hl 2 rfl) ?_
  refine ga_w3_st (pc := 13) hx hb hV hw hk0 hF dX5_put_13 (fun H locs hw hF => ?_)
  refine lv_aload_n (pc := 14) hx hb dX5_put_14 rfl (lv_at hl 0 rfl) ?_
  refine lv_dup (pc := 15) hx hb dX5_put_15 rfl ?_
  refine gg_X5_6 (pc := 16) hx hb hown hV hw hk0 (gw_102 hV) dX5_put_16 ?_
  refine lv_iconst (pc := 19) (v := 1) hx hb dX5_put_19 (by decide) ?_
  refine lv_iadd (pc := 20) hx hb dX5_put_20 ?_
  refine gp_X5_6 (pc := 21) hx hb hown hV hw hk0 (gw_102 hV) dX5_put_21 (fun H locs hw => ?_)
  cases hF
  exact gx_vret hx hb hr hlocks hw dX5_put_24
set_option maxRecDepth 100000 in
theorem cl_X5_put {l : Launch} {G : gx_G} {M : gx_S} {o : Int64} {d : UInt64} {I V : gx_F} {p : Program} {e : Env} {R : Room} {s : State} {m : MethodId} {args : Array Value} {below : List Frame} {meth : Method} {c : Code} {H : Heap} {locs : List Loc} {cells slots : Nat} {Q : State → Prop} {cc : ByteArray} {pc nL index : Nat} {ls : Array Slot} {rest : List Value} {own : String} {k0 : Nat} {x1 : Int32} {x2 : Int32} {out : (gx_F × gx_F)} (hx : p.tables.exec = Jvm.exec) (hb : c.code = cc) (hml : c.maxLocals = nL) (hown : s.vm.findClass own = some m.cls) (hV : gx_V G s) (hw : gx_at G (I, V) M o d s.heap H locs) (hk0 : gx_isW k0) (hF : f_X5_put k0 x1 x2 I V = some out) (hlink : (Cond.methodLink own index yX5_put).before args s = true) (hsz : ls.size = nL) (hfr : 2 ≤ R.frames) (hlo : 42 ≤ R.locals) (hrest : (rest.map fun v => v.category).sum ≤ 8) (hdg : decode cc pc = .ok (.invokevirtual index, 3))
    (kk : ∀ (H1 : Heap) (locs1 : List Loc), gx_at G (out.1, out.2) M o d s.heap H1 locs1 → W p l e R s m args below meth c H1 locs1 cells slots Q (F0 m (pc + 3) ls (rest))) (hc : cells ≤ R.cells := by exact Nat.zero_le _) (hs : slots ≤ R.slots := by exact Nat.zero_le _) : W p l e R s m args below meth c H locs cells slots Q (F0 m pc ls (.int x2 :: .int x1 :: .ref (G.2.1 k0) :: rest)) :=
  gx_runv hw (va_runV (C := RX5) (As := [.int x1, .int x2]) (rest := rest) ⟨hx, hb, hml, hown, (fun _ h => nomatch h : ∀ w ∈ ([] : List Cond), w.before args s = true)⟩ (k_X5_put hk0 hF) ⟨gx_callB (n := 2) rfl rfl hlink (gw_50 hV) (gw_387 hV) (by decide +kernel) ⟨hfr, hlo⟩, gw_385 hV, gw_386 hV⟩ (gx_recv (k := k0) (ci := 7) (T := TX5) hV hw (gx_Wk hk0) (gc_W hk0) rfl) rfl rfl hsz rfl (lv_room hrest) hdg ⟨hc, hs⟩) kk
set_option maxHeartbeats 4000000 in
set_option maxRecDepth 100000 in
theorem k_X5_copyFrom {l : Launch} {G : gx_G} {M : gx_S} {o : Int64} {d : UInt64} {I V : gx_F} {k0 : Nat} {k1 : Nat} (hk0 : gx_isW k0) (hk1 : gx_isW k1) {out : (gx_F × gx_F)} (hF : f_X5_copyFrom k0 k1 I V = some out) : gx_K l yX5_copyFrom cX5_copyFrom 2 none { frames := 1, cells := 0, slots := 0, locals := 80 } [.ref (G.2.1 k0), .ref (G.2.1 k1)] G (I, V) M o d (gx_Qv G (out.1, out.2) M o d) 0 0 := by
  refine gx_begin (by decide +kernel) (Nat.le_of_ble_eq_true rfl) ?_
  intro p e s m below meth c hx hb hr hml hown hlocks hV hw ls hl
  have hown : s.vm.findClass RX5 = some m.cls := hown
  have hl : lv_has ls 2 [(0, .ref (G.2.1 k0)), (1, .ref (G.2.1 k1))] := hl
  unfold f_X5_copyFrom at hF
  refine lv_aload_n (pc := 0) hx hb dX5_copyFrom_0 rfl (lv_at hl 1 rfl) ?_
  refine gg_X5_0 (pc := 1) hx hb hown hV hw hk1 (gw_84 hV) dX5_copyFrom_1 ?_
  refine lv_iconst (pc := 4) (v := 0) hx hb dX5_copyFrom_4 (by decide) ?_
  refine lv_aload_n (pc := 5) hx hb dX5_copyFrom_5 rfl (lv_at hl 0 rfl) ?_
  refine gg_X5_0 (pc := 6) hx hb hown hV hw hk0 (gw_84 hV) dX5_copyFrom_6 ?_
  refine lv_iconst (pc := 9) (v := 0) hx hb dX5_copyFrom_9 (by decide) ?_
  refine lv_bipush (pc := 10) (v := 32) hx hb dX5_copyFrom_10 (by decide) ?_
  refine gx_copy1 (pc := 12) hx hb (hml.trans hl.1.symm) hown hV hw hk1 hk0 (gw_373 hV) (gw_375 hV) (gw_374 hV) (gw_57 hV) (by decide) (Nat.le_of_ble_eq_true rfl) dX5_copyFrom_12 (fun H locs hw => ?_)
  refine lv_aload_n (pc := 15) hx hb dX5_copyFrom_15 rfl (lv_at hl 1 rfl) ?_
  refine gg_X5_1 (pc := 16) hx hb hown hV hw hk1 (gw_86 hV) dX5_copyFrom_16 ?_
  refine lv_iconst (pc := 19) (v := 0) hx hb dX5_copyFrom_19 (by decide) ?_
  refine lv_aload_n (pc := 20) hx hb dX5_copyFrom_20 rfl (lv_at hl 0 rfl) ?_
  refine gg_X5_1 (pc := 21) hx hb hown hV hw hk0 (gw_86 hV) dX5_copyFrom_21 ?_
  refine lv_iconst (pc := 24) (v := 0) hx hb dX5_copyFrom_24 (by decide) ?_
  refine lv_bipush (pc := 25) (v := 7) hx hb dX5_copyFrom_25 (by decide) ?_
  refine gx_copy2 (pc := 27) hx hb (hml.trans hl.1.symm) hown hV hw hk1 hk0 (gw_373 hV) (gw_375 hV) (gw_374 hV) (gw_57 hV) (by decide) (Nat.le_of_ble_eq_true rfl) dX5_copyFrom_27 (fun H locs hw => ?_)
  refine lv_aload_n (pc := 30) hx hb dX5_copyFrom_30 rfl (lv_at hl 1 rfl) ?_
  refine gg_X5_2 (pc := 31) hx hb hown hV hw hk1 (gw_89 hV) dX5_copyFrom_31 ?_
  refine lv_iconst (pc := 34) (v := 0) hx hb dX5_copyFrom_34 (by decide) ?_
  refine lv_aload_n (pc := 35) hx hb dX5_copyFrom_35 rfl (lv_at hl 0 rfl) ?_
  refine gg_X5_2 (pc := 36) hx hb hown hV hw hk0 (gw_89 hV) dX5_copyFrom_36 ?_
  refine lv_iconst (pc := 39) (v := 0) hx hb dX5_copyFrom_39 (by decide) ?_
  refine lv_bipush (pc := 40) (v := 42) hx hb dX5_copyFrom_40 (by decide) ?_
  refine gx_copy3 (pc := 42) hx hb (hml.trans hl.1.symm) hown hV hw hk1 hk0 (gw_373 hV) (gw_375 hV) (gw_374 hV) (gw_57 hV) (by decide) (Nat.le_of_ble_eq_true rfl) dX5_copyFrom_42 (fun H locs hw => ?_)
  refine lv_aload_n (pc := 45) hx hb dX5_copyFrom_45 rfl (lv_at hl 0 rfl) ?_
  refine lv_aload_n (pc := 46) hx hb dX5_copyFrom_46 rfl (lv_at hl 1 rfl) ?_
  refine gg_X5_3 (pc := 47) hx hb hown hV hw hk1 (gw_90 hV) dX5_copyFrom_47 ?_
  refine gp_X5_3 (pc := 50) hx hb hown hV hw hk0 (gw_90 hV) dX5_copyFrom_50 (fun H locs hw => ?_)
  refine lv_aload_n (pc := 53) hx hb dX5_copyFrom_53 rfl (lv_at hl 0 rfl) ?_
  refine lv_aload_n (pc := 54) hx hb dX5_copyFrom_54 rfl (lv_at hl 1 rfl) ?_
  refine gg_X5_4 (pc := 55) hx hb hown hV hw hk1 (gw_94 hV) dX5_copyFrom_55 ?_
  refine gp_X5_4 (pc := 58) hx hb hown hV hw hk0 (gw_94 hV) dX5_copyFrom_58 (fun H locs hw => ?_)
  refine lv_aload_n (pc := 61) hx hb dX5_copyFrom_61 rfl (lv_at hl 0 rfl) ?_
  refine lv_aload_n (pc := 62) hx hb dX5_copyFrom_62 rfl (lv_at hl 1 rfl) ?_
  refine gg_X5_5 (pc := 63) hx hb hown hV hw hk1 (gw_98 hV) dX5_copyFrom_63 ?_
  refine gp_X5_5 (pc := 66) hx hb hown hV hw hk0 (gw_98 hV) dX5_copyFrom_66 (fun H locs hw => ?_)
  refine lv_aload_n (pc := 69) hx hb dX5_copyFrom_69 rfl (lv_at hl 0 rfl) ?_
  refine lv_aload_n (pc := 70) hx hb dX5_copyFrom_70 rfl (lv_at hl 1 rfl) ?_
  refine gg_X5_6 (pc := 71) hx hb hown hV hw hk1 (gw_102 hV) dX5_copyFrom_71 ?_
  refine gp_X5_6 (pc := 74) hx hb hown hV hw hk0 (gw_102 hV) dX5_copyFrom_74 (fun H locs hw => ?_)
  refine lv_aload_n (pc := 77) hx hb dX5_copyFrom_77 rfl (lv_at hl 0 rfl) ?_
  refine lv_aload_n (pc := 78) hx hb dX5_copyFrom_78 rfl (lv_at hl 1 rfl) ?_
  refine gg_X5_7 (pc := 79) hx hb hown hV hw hk1 (gw_104 hV) dX5_copyFrom_79 ?_
  refine gp_X5_7 (pc := 82) hx hb hown hV hw hk0 (gw_104 hV) dX5_copyFrom_82 (fun H locs hw => ?_)
  refine lv_aload_n (pc := 85) hx hb dX5_copyFrom_85 rfl (lv_at hl 0 rfl) ?_
  refine lv_aload_n (pc := 86) hx hb dX5_copyFrom_86 rfl (lv_at hl 1 rfl) ?_
  refine gg_X5_8 (pc := 87) hx hb hown hV hw hk1 (gw_107 hV) dX5_copyFrom_87 ?_
  refine gp_X5_8 (pc := 90) hx hb hown hV hw hk0 (gw_107 hV) dX5_copyFrom_90 (fun H locs hw => ?_)
  cases hF
  exact gx_vret hx hb hr hlocks hw dX5_copyFrom_93
set_option maxRecDepth 100000 in
theorem cl_X5_copyFrom {l : Launch} {G : gx_G} {M : gx_S} {o : Int64} {d : UInt64} {I V : gx_F} {p : Program} {e : Env} {R : Room} {s : State} {m : MethodId} {args : Array Value} {below : List Frame} {meth : Method} {c : Code} {H : Heap} {locs : List Loc} {cells slots : Nat} {Q : State → Prop} {cc : ByteArray} {pc nL index : Nat} {ls : Array Slot} {rest : List Value} {own : String} {k0 : Nat} {k1 : Nat} {out : (gx_F × gx_F)} (hx : p.tables.exec = Jvm.exec) (hb : c.code = cc) (hml : c.maxLocals = nL) (hown : s.vm.findClass own = some m.cls) (hV : gx_V G s) (hw : gx_at G (I, V) M o d s.heap H locs) (hk0 : gx_isW k0) (hk1 : gx_isW k1) (hF : f_X5_copyFrom k0 k1 I V = some out) (hlink : (Cond.methodLink own index yX5_copyFrom).before args s = true) (hsz : ls.size = nL) (hfr : 2 ≤ R.frames) (hlo : 101 ≤ R.locals) (hrest : (rest.map fun v => v.category).sum ≤ 8) (hdg : decode cc pc = .ok (.invokevirtual index, 3))
    (kk : ∀ (H1 : Heap) (locs1 : List Loc), gx_at G (out.1, out.2) M o d s.heap H1 locs1 → W p l e R s m args below meth c H1 locs1 cells slots Q (F0 m (pc + 3) ls (rest))) (hc : cells ≤ R.cells := by exact Nat.zero_le _) (hs : slots ≤ R.slots := by exact Nat.zero_le _) : W p l e R s m args below meth c H locs cells slots Q (F0 m pc ls (.ref (G.2.1 k1) :: .ref (G.2.1 k0) :: rest)) :=
  gx_runv hw (va_runV (C := RX5) (As := [.ref (G.2.1 k1)]) (rest := rest) ⟨hx, hb, hml, hown, (fun _ h => nomatch h : ∀ w ∈ ([] : List Cond), w.before args s = true)⟩ (k_X5_copyFrom hk0 hk1 hF) ⟨gx_callB (n := 1) rfl rfl hlink (gw_50 hV) (gw_372 hV) (by decide +kernel) ⟨hfr, hlo⟩, gw_370 hV, gw_371 hV⟩ (gx_recv (k := k0) (ci := 7) (T := TX5) hV hw (gx_Wk hk0) (gc_W hk0) rfl) rfl rfl hsz rfl (lv_room hrest) hdg ⟨hc, hs⟩) kk
set_option maxHeartbeats 4000000 in
set_option maxRecDepth 100000 in
theorem k_X6_isTurnOrSide {l : Launch} {G : gx_G} {M : gx_S} {o : Int64} {d : UInt64} {I V : gx_F} {x0 : Int32} {out : Bool} (hF : f_X6_isTurnOrSide x0 I V = some out) : gx_K l yX6_isTurnOrSide cX6_isTurnOrSide 1 (some .boolean) { frames := 0, cells := 0, slots := 0, locals := 0 } [.int x0] G (I, V) M o d (gx_Qi G (gx_bi out) (I, V) M o d) 0 0 := by
  refine gx_begin (by decide +kernel) (Nat.le_of_ble_eq_true rfl) ?_
  intro p e s m below meth c hx hb hr hml hown hlocks hV hw ls hl
  have hown : s.vm.findClass RX6 = some m.cls := hown
  have hl : lv_has ls 1 [(0, .int x0)] := hl
  unfold f_X6_isTurnOrSide at hF
  refine lv_iload_n (pc := 0) hx hb dX6_isTurnOrSide_0 rfl (lv_at hl 0 rfl) ?_
  refine gx_if_lt (pc := 1) (tgt := 13) hx hb hF dX6_isTurnOrSide_1 (by decide) (fun hF => ?_) (fun hF => ?_)
  · refine lv_iconst (pc := 13) (v := 0) hx hb dX6_isTurnOrSide_13 (by decide) ?_
    cases hF
    exact gx_zret (r := gx_bi false) hx hb hr (gx_narb _) hlocks hw dX6_isTurnOrSide_14
  refine lv_iload_n (pc := 4) hx hb dX6_isTurnOrSide_4 rfl (lv_at hl 0 rfl) ?_
  refine lv_iconst (pc := 5) (v := 4) hx hb dX6_isTurnOrSide_5 (by decide) ?_
  refine gx_icmp_ge (pc := 6) (tgt := 13) hx hb hF dX6_isTurnOrSide_6 (by decide) (fun hF => ?_) (fun hF => ?_)
  · refine lv_iconst (pc := 13) (v := 0) hx hb dX6_isTurnOrSide_13 (by decide) ?_
    cases hF
    exact gx_zret (r := gx_bi false) hx hb hr (gx_narb _) hlocks hw dX6_isTurnOrSide_14
  refine lv_iconst (pc := 9) (v := 1) hx hb dX6_isTurnOrSide_9 (by decide) ?_
  refine lv_goto (pc := 10) (tgt := 14) hx hb dX6_isTurnOrSide_10 (by decide) ?_
  cases hF
  exact gx_zret (r := gx_bi true) hx hb hr (gx_narb _) hlocks hw dX6_isTurnOrSide_14
set_option maxRecDepth 100000 in
theorem cl_X6_isTurnOrSide {l : Launch} {G : gx_G} {M : gx_S} {o : Int64} {d : UInt64} {I V : gx_F} {p : Program} {e : Env} {R : Room} {s : State} {m : MethodId} {args : Array Value} {below : List Frame} {meth : Method} {c : Code} {H : Heap} {locs : List Loc} {cells slots : Nat} {Q : State → Prop} {cc : ByteArray} {pc nL index : Nat} {ls : Array Slot} {rest : List Value} {own : String} {x0 : Int32} {out : Bool} (hx : p.tables.exec = Jvm.exec) (hb : c.code = cc) (hml : c.maxLocals = nL) (hown : s.vm.findClass own = some m.cls) (hV : gx_V G s) (hw : gx_at G (I, V) M o d s.heap H locs) (hF : f_X6_isTurnOrSide x0 I V = some out) (hlink : (Cond.methodLink own index yX6_isTurnOrSide).before args s = true) (hsz : ls.size = nL) (hfr : 1 ≤ R.frames) (hlo : 20 ≤ R.locals) (hrest : (rest.map fun v => v.category).sum ≤ 8) (hdg : decode cc pc = .ok (.invokestatic index, 3))
    (kk : ∀ (H1 : Heap) (locs1 : List Loc), gx_at G (I, V) M o d s.heap H1 locs1 → W p l e R s m args below meth c H1 locs1 cells slots Q (F0 m (pc + 3) ls (.int (gx_bi out) :: rest))) (hc : cells ≤ R.cells := by exact Nat.zero_le _) (hs : slots ≤ R.slots := by exact Nat.zero_le _) : W p l e R s m args below meth c H locs cells slots Q (F0 m pc ls (.int x0 :: rest)) :=
  gx_runi hw (va_runS (As := [.int x0]) (rest := rest) ⟨hx, hb, hml, hown, (fun _ h => nomatch h : ∀ w ∈ ([] : List Cond), w.before args s = true)⟩ (k_X6_isTurnOrSide hF) ⟨gx_callB (n := 1) rfl rfl hlink (gw_49 hV) (gw_514 hV) (by decide +kernel) ⟨hfr, hlo⟩, gw_513 hV⟩ (gx_pre hV hw) rfl rfl hsz rfl (lv_room hrest) hdg ⟨hc, hs⟩) kk
set_option maxRecDepth 100000 in
theorem cn_X6_isTurnOrSide {l : Launch} {G : gx_G} {M : gx_S} {o : Int64} {d : UInt64} {I V : gx_F} {p : Program} {e : Env} {R : Room} {s : State} {m : MethodId} {args : Array Value} {below : List Frame} {meth : Method} {c : Code} {H : Heap} {locs : List Loc} {cells slots : Nat} {Q : State → Prop} {cc : ByteArray} {pc nL index : Nat} {ls : Array Slot} {rest : List Value} {own : String} {x0 : Int32} {out : Bool} (hx : p.tables.exec = Jvm.exec) (hb : c.code = cc) (hml : c.maxLocals = nL) (hown : s.vm.findClass own = some m.cls) (hV : gx_V G s) (hw : gx_at G (I, V) M o d s.heap H locs) (hF : f_X6_isTurnOrSide x0 I V = some out) (hlink : (Cond.methodLinkNest own index yX6_isTurnOrSide "GluedWall").before args s = true) (hsz : ls.size = nL) (hfr : 1 ≤ R.frames) (hlo : 20 ≤ R.locals) (hrest : (rest.map fun v => v.category).sum ≤ 8) (hdg : decode cc pc = .ok (.invokestatic index, 3))
    (kk : ∀ (H1 : Heap) (locs1 : List Loc), gx_at G (I, V) M o d s.heap H1 locs1 → W p l e R s m args below meth c H1 locs1 cells slots Q (F0 m (pc + 3) ls (.int (gx_bi out) :: rest))) (hc : cells ≤ R.cells := by exact Nat.zero_le _) (hs : slots ≤ R.slots := by exact Nat.zero_le _) : W p l e R s m args below meth c H locs cells slots Q (F0 m pc ls (.int x0 :: rest)) :=
  gx_runi hw (va_runSN (As := [.int x0]) (rest := rest) ⟨hx, hb, hml, hown, (fun _ h => nomatch h : ∀ w ∈ ([] : List Cond), w.before args s = true)⟩ (k_X6_isTurnOrSide hF) ⟨gx_callN (n := 1) rfl rfl hlink (gw_49 hV) (gw_514 hV) (by decide +kernel) ⟨hfr, hlo⟩, gw_513 hV, trivial⟩ (gx_pre hV hw) rfl rfl hsz rfl (lv_room hrest) hdg ⟨hc, hs⟩) kk
set_option maxHeartbeats 4000000 in
set_option maxRecDepth 100000 in
theorem k_X5_hasKind {l : Launch} {G : gx_G} {M : gx_S} {o : Int64} {d : UInt64} {I V : gx_F} {k0 : Nat} {x1 : Int32} (hk0 : gx_isW k0) {out : Bool} (hF : f_X5_hasKind k0 x1 I V = some out) : gx_K l yX5_hasKind cX5_hasKind 2 (some .boolean) { frames := 0, cells := 0, slots := 0, locals := 0 } [.ref (G.2.1 k0), .int x1] G (I, V) M o d (gx_Qi G (gx_bi out) (I, V) M o d) 0 0 := by
  refine gx_begin (by decide +kernel) (Nat.le_of_ble_eq_true rfl) ?_
  intro p e s m below meth c hx hb hr hml hown hlocks hV hw ls hl
  have hown : s.vm.findClass RX5 = some m.cls := hown
  have hl : lv_has ls 2 [(0, .ref (G.2.1 k0)), (1, .int x1)] := hl
  unfold f_X5_hasKind at hF
  refine lv_iload_n (pc := 0) hx hb dX5_hasKind_0 rfl (lv_at hl 1 rfl) ?_
  refine gx_if_lt (pc := 1) (tgt := 16) hx hb hF dX5_hasKind_1 (by decide) (fun hF => ?_) (fun hF => ?_)
  · refine lv_iconst (pc := 16) (v := 0) hx hb dX5_hasKind_16 (by decide) ?_
    cases hF
    exact gx_zret (r := gx_bi false) hx hb hr (gx_narb _) hlocks hw dX5_hasKind_17
  refine lv_iload_n (pc := 4) hx hb dX5_hasKind_4 rfl (lv_at hl 1 rfl) ?_
  refine lv_aload_n (pc := 5) hx hb dX5_hasKind_5 rfl (lv_at hl 0 rfl) ?_
  refine gg_X5_3 (pc := 6) hx hb hown hV hw hk0 (gw_90 hV) dX5_hasKind_6 ?_
  refine gx_icmp_ge (pc := 9) (tgt := 16) hx hb hF dX5_hasKind_9 (by decide) (fun hF => ?_) (fun hF => ?_)
  · refine lv_iconst (pc := 16) (v := 0) hx hb dX5_hasKind_16 (by decide) ?_
    cases hF
    exact gx_zret (r := gx_bi false) hx hb hr (gx_narb _) hlocks hw dX5_hasKind_17
  refine lv_iconst (pc := 12) (v := 1) hx hb dX5_hasKind_12 (by decide) ?_
  refine lv_goto (pc := 13) (tgt := 17) hx hb dX5_hasKind_13 (by decide) ?_
  cases hF
  exact gx_zret (r := gx_bi true) hx hb hr (gx_narb _) hlocks hw dX5_hasKind_17
set_option maxRecDepth 100000 in
theorem cl_X5_hasKind {l : Launch} {G : gx_G} {M : gx_S} {o : Int64} {d : UInt64} {I V : gx_F} {p : Program} {e : Env} {R : Room} {s : State} {m : MethodId} {args : Array Value} {below : List Frame} {meth : Method} {c : Code} {H : Heap} {locs : List Loc} {cells slots : Nat} {Q : State → Prop} {cc : ByteArray} {pc nL index : Nat} {ls : Array Slot} {rest : List Value} {own : String} {k0 : Nat} {x1 : Int32} {out : Bool} (hx : p.tables.exec = Jvm.exec) (hb : c.code = cc) (hml : c.maxLocals = nL) (hown : s.vm.findClass own = some m.cls) (hV : gx_V G s) (hw : gx_at G (I, V) M o d s.heap H locs) (hk0 : gx_isW k0) (hF : f_X5_hasKind k0 x1 I V = some out) (hlink : (Cond.methodLink own index yX5_hasKind).before args s = true) (hsz : ls.size = nL) (hfr : 1 ≤ R.frames) (hlo : 21 ≤ R.locals) (hrest : (rest.map fun v => v.category).sum ≤ 8) (hdg : decode cc pc = .ok (.invokevirtual index, 3))
    (kk : ∀ (H1 : Heap) (locs1 : List Loc), gx_at G (I, V) M o d s.heap H1 locs1 → W p l e R s m args below meth c H1 locs1 cells slots Q (F0 m (pc + 3) ls (.int (gx_bi out) :: rest))) (hc : cells ≤ R.cells := by exact Nat.zero_le _) (hs : slots ≤ R.slots := by exact Nat.zero_le _) : W p l e R s m args below meth c H locs cells slots Q (F0 m pc ls (.int x1 :: .ref (G.2.1 k0) :: rest)) :=
  gx_runi hw (va_runV (C := RX5) (As := [.int x1]) (rest := rest) ⟨hx, hb, hml, hown, (fun _ h => nomatch h : ∀ w ∈ ([] : List Cond), w.before args s = true)⟩ (k_X5_hasKind hk0 hF) ⟨gx_callB (n := 1) rfl rfl hlink (gw_50 hV) (gw_518 hV) (by decide +kernel) ⟨hfr, hlo⟩, gw_516 hV, gw_517 hV⟩ (gx_recv (k := k0) (ci := 7) (T := TX5) hV hw (gx_Wk hk0) (gc_W hk0) rfl) rfl rfl hsz rfl (lv_room hrest) hdg ⟨hc, hs⟩) kk
set_option maxHeartbeats 4000000 in
set_option maxRecDepth 100000 in
theorem k_X6_kindOf {l : Launch} {G : gx_G} {M : gx_S} {o : Int64} {d : UInt64} {I V : gx_F} {x0 : Int32} {out : Int32} (hF : f_X6_kindOf x0 I V = some out) : gx_K l yX6_kindOf cX6_kindOf 1 (some .int) { frames := 0, cells := 0, slots := 0, locals := 0 } [.int x0] G (I, V) M o d (gx_Qi G out (I, V) M o d) 0 0 := by
  refine gx_begin (by decide +kernel) (Nat.le_of_ble_eq_true rfl) ?_
  intro p e s m below meth c hx hb hr hml hown hlocks hV hw ls hl
  have hown : s.vm.findClass RX6 = some m.cls := hown
  have hl : lv_has ls 1 [(0, .int x0)] := hl
  unfold f_X6_kindOf at hF
  refine lv_iload_n (pc := 0) hx hb dX6_kindOf_0 rfl (lv_at hl 0 rfl) ?_
  refine lv_iconst (pc := 1) (v := 4) hx hb dX6_kindOf_1 (by decide) ?_
  refine lv_idiv (pc := 2) hx hb dX6_kindOf_2 (by decide) ?_
  cases hF
  exact gx_iret hx hb hr hlocks hw dX6_kindOf_3
set_option maxRecDepth 100000 in
theorem cl_X6_kindOf {l : Launch} {G : gx_G} {M : gx_S} {o : Int64} {d : UInt64} {I V : gx_F} {p : Program} {e : Env} {R : Room} {s : State} {m : MethodId} {args : Array Value} {below : List Frame} {meth : Method} {c : Code} {H : Heap} {locs : List Loc} {cells slots : Nat} {Q : State → Prop} {cc : ByteArray} {pc nL index : Nat} {ls : Array Slot} {rest : List Value} {own : String} {x0 : Int32} {out : Int32} (hx : p.tables.exec = Jvm.exec) (hb : c.code = cc) (hml : c.maxLocals = nL) (hown : s.vm.findClass own = some m.cls) (hV : gx_V G s) (hw : gx_at G (I, V) M o d s.heap H locs) (hF : f_X6_kindOf x0 I V = some out) (hlink : (Cond.methodLink own index yX6_kindOf).before args s = true) (hsz : ls.size = nL) (hfr : 1 ≤ R.frames) (hlo : 20 ≤ R.locals) (hrest : (rest.map fun v => v.category).sum ≤ 8) (hdg : decode cc pc = .ok (.invokestatic index, 3))
    (kk : ∀ (H1 : Heap) (locs1 : List Loc), gx_at G (I, V) M o d s.heap H1 locs1 → W p l e R s m args below meth c H1 locs1 cells slots Q (F0 m (pc + 3) ls (.int out :: rest))) (hc : cells ≤ R.cells := by exact Nat.zero_le _) (hs : slots ≤ R.slots := by exact Nat.zero_le _) : W p l e R s m args below meth c H locs cells slots Q (F0 m pc ls (.int x0 :: rest)) :=
  gx_runi hw (va_runS (As := [.int x0]) (rest := rest) ⟨hx, hb, hml, hown, (fun _ h => nomatch h : ∀ w ∈ ([] : List Cond), w.before args s = true)⟩ (k_X6_kindOf hF) ⟨gx_callB (n := 1) rfl rfl hlink (gw_49 hV) (gw_523 hV) (by decide +kernel) ⟨hfr, hlo⟩, gw_522 hV⟩ (gx_pre hV hw) rfl rfl hsz rfl (lv_room hrest) hdg ⟨hc, hs⟩) kk
set_option maxRecDepth 100000 in
theorem cn_X6_kindOf {l : Launch} {G : gx_G} {M : gx_S} {o : Int64} {d : UInt64} {I V : gx_F} {p : Program} {e : Env} {R : Room} {s : State} {m : MethodId} {args : Array Value} {below : List Frame} {meth : Method} {c : Code} {H : Heap} {locs : List Loc} {cells slots : Nat} {Q : State → Prop} {cc : ByteArray} {pc nL index : Nat} {ls : Array Slot} {rest : List Value} {own : String} {x0 : Int32} {out : Int32} (hx : p.tables.exec = Jvm.exec) (hb : c.code = cc) (hml : c.maxLocals = nL) (hown : s.vm.findClass own = some m.cls) (hV : gx_V G s) (hw : gx_at G (I, V) M o d s.heap H locs) (hF : f_X6_kindOf x0 I V = some out) (hlink : (Cond.methodLinkNest own index yX6_kindOf "GluedWall").before args s = true) (hsz : ls.size = nL) (hfr : 1 ≤ R.frames) (hlo : 20 ≤ R.locals) (hrest : (rest.map fun v => v.category).sum ≤ 8) (hdg : decode cc pc = .ok (.invokestatic index, 3))
    (kk : ∀ (H1 : Heap) (locs1 : List Loc), gx_at G (I, V) M o d s.heap H1 locs1 → W p l e R s m args below meth c H1 locs1 cells slots Q (F0 m (pc + 3) ls (.int out :: rest))) (hc : cells ≤ R.cells := by exact Nat.zero_le _) (hs : slots ≤ R.slots := by exact Nat.zero_le _) : W p l e R s m args below meth c H locs cells slots Q (F0 m pc ls (.int x0 :: rest)) :=
  gx_runi hw (va_runSN (As := [.int x0]) (rest := rest) ⟨hx, hb, hml, hown, (fun _ h => nomatch h : ∀ w ∈ ([] : List Cond), w.before args s = true)⟩ (k_X6_kindOf hF) ⟨gx_callN (n := 1) rfl rfl hlink (gw_49 hV) (gw_523 hV) (by decide +kernel) ⟨hfr, hlo⟩, gw_522 hV, trivial⟩ (gx_pre hV hw) rfl rfl hsz rfl (lv_room hrest) hdg ⟨hc, hs⟩) kk
set_option maxHeartbeats 4000000 in
set_option maxRecDepth 100000 in
theorem k_X6_brickOf {l : Launch} {G : gx_G} {M : gx_S} {o : Int64} {d : UInt64} {I V : gx_F} {x0 : Int32} {x1 : Int32} {out : Int32} (hF : f_X6_brickOf x0 x1 I V = some out) : gx_K l yX6_brickOf cX6_brickOf 2 (some .int) { frames := 0, cells := 0, slots := 0, locals := 0 } [.int x0, .int x1] G (I, V) M o d (gx_Qi G out (I, V) M o d) 0 0 := by
  refine gx_begin (by decide +kernel) (Nat.le_of_ble_eq_true rfl) ?_
  intro p e s m below meth c hx hb hr hml hown hlocks hV hw ls hl
  have hown : s.vm.findClass RX6 = some m.cls := hown
  have hl : lv_has ls 2 [(0, .int x0), (1, .int x1)] := hl
  unfold f_X6_brickOf at hF
  refine lv_iload_n (pc := 0) hx hb dX6_brickOf_0 rfl (lv_at hl 0 rfl) ?_
  refine lv_iconst (pc := 1) (v := 4) hx hb dX6_brickOf_1 (by decide) ?_
  refine lv_imul (pc := 2) hx hb dX6_brickOf_2 ?_
  refine lv_iload_n (pc := 3) hx hb dX6_brickOf_3 rfl (lv_at hl 1 rfl) ?_
  refine lv_iadd (pc := 4) hx hb dX6_brickOf_4 ?_
  cases hF
  exact gx_iret hx hb hr hlocks hw dX6_brickOf_5
set_option maxRecDepth 100000 in
theorem cl_X6_brickOf {l : Launch} {G : gx_G} {M : gx_S} {o : Int64} {d : UInt64} {I V : gx_F} {p : Program} {e : Env} {R : Room} {s : State} {m : MethodId} {args : Array Value} {below : List Frame} {meth : Method} {c : Code} {H : Heap} {locs : List Loc} {cells slots : Nat} {Q : State → Prop} {cc : ByteArray} {pc nL index : Nat} {ls : Array Slot} {rest : List Value} {own : String} {x0 : Int32} {x1 : Int32} {out : Int32} (hx : p.tables.exec = Jvm.exec) (hb : c.code = cc) (hml : c.maxLocals = nL) (hown : s.vm.findClass own = some m.cls) (hV : gx_V G s) (hw : gx_at G (I, V) M o d s.heap H locs) (hF : f_X6_brickOf x0 x1 I V = some out) (hlink : (Cond.methodLink own index yX6_brickOf).before args s = true) (hsz : ls.size = nL) (hfr : 1 ≤ R.frames) (hlo : 21 ≤ R.locals) (hrest : (rest.map fun v => v.category).sum ≤ 8) (hdg : decode cc pc = .ok (.invokestatic index, 3))
    (kk : ∀ (H1 : Heap) (locs1 : List Loc), gx_at G (I, V) M o d s.heap H1 locs1 → W p l e R s m args below meth c H1 locs1 cells slots Q (F0 m (pc + 3) ls (.int out :: rest))) (hc : cells ≤ R.cells := by exact Nat.zero_le _) (hs : slots ≤ R.slots := by exact Nat.zero_le _) : W p l e R s m args below meth c H locs cells slots Q (F0 m pc ls (.int x1 :: .int x0 :: rest)) :=
  gx_runi hw (va_runS (As := [.int x0, .int x1]) (rest := rest) ⟨hx, hb, hml, hown, (fun _ h => nomatch h : ∀ w ∈ ([] : List Cond), w.before args s = true)⟩ (k_X6_brickOf hF) ⟨gx_callB (n := 2) rfl rfl hlink (gw_49 hV) (gw_526 hV) (by decide +kernel) ⟨hfr, hlo⟩, gw_525 hV⟩ (gx_pre hV hw) rfl rfl hsz rfl (lv_room hrest) hdg ⟨hc, hs⟩) kk
set_option maxRecDepth 100000 in
theorem cn_X6_brickOf {l : Launch} {G : gx_G} {M : gx_S} {o : Int64} {d : UInt64} {I V : gx_F} {p : Program} {e : Env} {R : Room} {s : State} {m : MethodId} {args : Array Value} {below : List Frame} {meth : Method} {c : Code} {H : Heap} {locs : List Loc} {cells slots : Nat} {Q : State → Prop} {cc : ByteArray} {pc nL index : Nat} {ls : Array Slot} {rest : List Value} {own : String} {x0 : Int32} {x1 : Int32} {out : Int32} (hx : p.tables.exec = Jvm.exec) (hb : c.code = cc) (hml : c.maxLocals = nL) (hown : s.vm.findClass own = some m.cls) (hV : gx_V G s) (hw : gx_at G (I, V) M o d s.heap H locs) (hF : f_X6_brickOf x0 x1 I V = some out) (hlink : (Cond.methodLinkNest own index yX6_brickOf "GluedWall").before args s = true) (hsz : ls.size = nL) (hfr : 1 ≤ R.frames) (hlo : 21 ≤ R.locals) (hrest : (rest.map fun v => v.category).sum ≤ 8) (hdg : decode cc pc = .ok (.invokestatic index, 3))
    (kk : ∀ (H1 : Heap) (locs1 : List Loc), gx_at G (I, V) M o d s.heap H1 locs1 → W p l e R s m args below meth c H1 locs1 cells slots Q (F0 m (pc + 3) ls (.int out :: rest))) (hc : cells ≤ R.cells := by exact Nat.zero_le _) (hs : slots ≤ R.slots := by exact Nat.zero_le _) : W p l e R s m args below meth c H locs cells slots Q (F0 m pc ls (.int x1 :: .int x0 :: rest)) :=
  gx_runi hw (va_runSN (As := [.int x0, .int x1]) (rest := rest) ⟨hx, hb, hml, hown, (fun _ h => nomatch h : ∀ w ∈ ([] : List Cond), w.before args s = true)⟩ (k_X6_brickOf hF) ⟨gx_callN (n := 2) rfl rfl hlink (gw_49 hV) (gw_526 hV) (by decide +kernel) ⟨hfr, hlo⟩, gw_525 hV, trivial⟩ (gx_pre hV hw) rfl rfl hsz rfl (lv_room hrest) hdg ⟨hc, hs⟩) kk
set_option maxHeartbeats 4000000 in
set_option maxRecDepth 100000 in
theorem k_X5_holdFor {l : Launch} {G : gx_G} {M : gx_S} {o : Int64} {d : UInt64} {I V : gx_F} {k0 : Nat} {x1 : Int32} {x2 : Int32} (hk0 : gx_isW k0) {out : Int32} (hF : f_X5_holdFor k0 x1 x2 I V = some out) : gx_K l yX5_holdFor cX5_holdFor 5 (some .int) { frames := 2, cells := 0, slots := 0, locals := 46 } [.ref (G.2.1 k0), .int x1, .int x2] G (I, V) M o d (gx_Qi G out (I, V) M o d) 0 0 := by
  refine gx_begin (by decide +kernel) (Nat.le_of_ble_eq_true rfl) ?_
  intro p e s m below meth c hx hb hr hml hown hlocks hV hw ls hl
  have hown : s.vm.findClass RX5 = some m.cls := hown
  have hl : lv_has ls 5 [(0, .ref (G.2.1 k0)), (1, .int x1), (2, .int x2)] := hl
  unfold f_X5_holdFor at hF
  refine lv_iconst (pc := 0) (v := 0) hx hb dX5_holdFor_0 (by decide) ?_
  refine lv_istore_n (pc := 1) (lv' := [(3, .int 0), (0, .ref (G.2.1 k0)), (1, .int x1), (2, .int x2)]) hx hb dX5_holdFor_1 rfl hl (by decide) rfl (fun ls hl => ?_)
  refine lv_iconst (pc := 2) (v := 0) hx hb dX5_holdFor_2 (by decide) ?_
  refine lv_istore (pc := 3) (lv' := [(4, .int 0), (3, .int 0), (0, .ref (G.2.1 k0)), (1, .int x1), (2, .int x2)]) hx hb dX5_holdFor_3 hl (by decide) rfl (fun ls hl => ?_)
  have L1 : ∀ (n : Nat) (K1 : Int32 → Int32 → Option Int32) (uv_1 : Int32) (uv_2 : Int32) (H : Heap) (locs : List Loc) (ls : Array Slot), lv_has ls 5 [(4, .int uv_2), (3, .int uv_1), (0, .ref (G.2.1 k0)), (1, .int x1), (2, .int x2)] → gx_at G (I, V) M o d s.heap H locs → f_X5_holdFor_L1 k0 x1 x2 I V K1 n uv_1 uv_2 = some out → (∀ (uv_1 : Int32) (uv_2 : Int32) (H : Heap) (locs : List Loc) (ls : Array Slot), lv_has ls 5 [(4, .int uv_2), (3, .int uv_1), (0, .ref (G.2.1 k0)), (1, .int x1), (2, .int x2)] → gx_at G (I, V) M o d s.heap H locs → K1 uv_1 uv_2 = some out → W p l e ({ frames := 2, cells := 0, slots := 0, locals := 46 } : Room) s m ([.ref (G.2.1 k0), .int x1, .int x2] : List Value).toArray below meth c H locs 0 0 (MQ below (gx_Qi G out (I, V) M o d) ([.ref (G.2.1 k0), .int x1, .int x2] : List Value).toArray s 0 0 (gx_A G)) (F0 m 38 ls [])) → W p l e ({ frames := 2, cells := 0, slots := 0, locals := 46 } : Room) s m ([.ref (G.2.1 k0), .int x1, .int x2] : List Value).toArray below meth c H locs 0 0 (MQ below (gx_Qi G out (I, V) M o d) ([.ref (G.2.1 k0), .int x1, .int x2] : List Value).toArray s 0 0 (gx_A G)) (F0 m 5 ls []) := by
    intro n
    induction n with
    | zero =>
      intro K1 uv_1 uv_2 H locs ls hl hw hF hK
      rw [f_X5_holdFor_L1] at hF
      cases hF
    | succ n ih1 =>
      intro K1 uv_1 uv_2 H locs ls hl hw hF hK1
      rw [f_X5_holdFor_L1] at hF
      refine lv_iload (pc := 5) hx hb dX5_holdFor_5 (lv_at hl 0 rfl) ?_
      refine lv_iconst (pc := 7) (v := 4) hx hb dX5_holdFor_7 (by decide) ?_
      refine gx_icmp_ge (pc := 8) (tgt := 38) hx hb hF dX5_holdFor_8 (by decide) (fun hF => ?_) (fun hF => ?_)
      · exact hK1 _ _ _ _ _ (lv_sub hl [0, 1, 2, 3, 4] rfl) hw hF
      refine lv_iload_n (pc := 11) hx hb dX5_holdFor_11 rfl (lv_at hl 1 rfl) ?_
      refine lv_aload_n (pc := 12) hx hb dX5_holdFor_12 rfl (lv_at hl 2 rfl) ?_
      refine lv_aload_n (pc := 13) hx hb dX5_holdFor_13 rfl (lv_at hl 2 rfl) ?_
      refine lv_iload_n (pc := 14) hx hb dX5_holdFor_14 rfl (lv_at hl 3 rfl) ?_
      refine lv_iload (pc := 15) hx hb dX5_holdFor_15 (lv_at hl 0 rfl) ?_
      obtain ⟨uq_3, huq_3, hF⟩ := Option.bind_eq_some_iff.mp hF
      refine cl_X5_glueOn (pc := 17) hx hb hml hown hV hw hk0 huq_3 (gw_307 hV) hl.1 (Nat.le_of_ble_eq_true rfl) (Nat.le_of_ble_eq_true rfl) (Nat.le_of_ble_eq_true rfl) dX5_holdFor_17 (fun H locs hw => ?_)
      refine lv_aload_n (pc := 20) hx hb dX5_holdFor_20 rfl (lv_at hl 2 rfl) ?_
      refine lv_iload_n (pc := 21) hx hb dX5_holdFor_21 rfl (lv_at hl 4 rfl) ?_
      refine lv_iload (pc := 22) hx hb dX5_holdFor_22 (lv_at hl 0 rfl) ?_
      obtain ⟨uq_4, huq_4, hF⟩ := Option.bind_eq_some_iff.mp hF
      refine cl_X5_glueFacing (pc := 24) hx hb hml hown hV hw hk0 huq_4 (gw_311 hV) hl.1 (Nat.le_of_ble_eq_true rfl) (Nat.le_of_ble_eq_true rfl) (Nat.le_of_ble_eq_true rfl) dX5_holdFor_24 (fun H locs hw => ?_)
      obtain ⟨uq_5, huq_5, hF⟩ := Option.bind_eq_some_iff.mp hF
      refine cl_X5_strengthBetween (pc := 27) hx hb hml hown hV hw hk0 huq_5 (gw_319 hV) hl.1 (Nat.le_of_ble_eq_true rfl) (Nat.le_of_ble_eq_true rfl) (Nat.le_of_ble_eq_true rfl) dX5_holdFor_27 (fun H locs hw => ?_)
      refine lv_iadd (pc := 30) hx hb dX5_holdFor_30 ?_
      refine lv_istore_n (pc := 31) (lv' := [(3, .int (uv_1 + uq_5)), (4, .int uv_2), (0, .ref (G.2.1 k0)), (1, .int x1), (2, .int x2)]) hx hb dX5_holdFor_31 rfl hl (by decide) rfl (fun ls hl => ?_)
      refine lv_iinc (pc := 32) (v := (uv_2 + 1)) (lv' := [(4, .int (uv_2 + 1)), (3, .int (uv_1 + uq_5)), (0, .ref (G.2.1 k0)), (1, .int x1), (2, .int x2)]) hx hb dX5_holdFor_32 hl (k := 1) rfl rfl (by decide) rfl (fun ls hl => ?_)
      refine lv_goto (pc := 35) (tgt := 5) hx hb dX5_holdFor_35 (by decide) ?_
      exact ih1 _ _ _ _ _ _ (lv_sub hl [0, 1, 2, 3, 4] rfl) hw hF hK1
  refine L1 1000 _ _ _ _ _ _ hl hw hF (fun uv_6 uv_7 H locs ls hl hw hF => ?_)
  refine lv_iload_n (pc := 38) hx hb dX5_holdFor_38 rfl (lv_at hl 1 rfl) ?_
  cases hF
  exact gx_iret hx hb hr hlocks hw dX5_holdFor_39
set_option maxRecDepth 100000 in
theorem cl_X5_holdFor {l : Launch} {G : gx_G} {M : gx_S} {o : Int64} {d : UInt64} {I V : gx_F} {p : Program} {e : Env} {R : Room} {s : State} {m : MethodId} {args : Array Value} {below : List Frame} {meth : Method} {c : Code} {H : Heap} {locs : List Loc} {cells slots : Nat} {Q : State → Prop} {cc : ByteArray} {pc nL index : Nat} {ls : Array Slot} {rest : List Value} {own : String} {k0 : Nat} {x1 : Int32} {x2 : Int32} {out : Int32} (hx : p.tables.exec = Jvm.exec) (hb : c.code = cc) (hml : c.maxLocals = nL) (hown : s.vm.findClass own = some m.cls) (hV : gx_V G s) (hw : gx_at G (I, V) M o d s.heap H locs) (hk0 : gx_isW k0) (hF : f_X5_holdFor k0 x1 x2 I V = some out) (hlink : (Cond.methodLink own index yX5_holdFor).before args s = true) (hsz : ls.size = nL) (hfr : 3 ≤ R.frames) (hlo : 70 ≤ R.locals) (hrest : (rest.map fun v => v.category).sum ≤ 8) (hdg : decode cc pc = .ok (.invokevirtual index, 3))
    (kk : ∀ (H1 : Heap) (locs1 : List Loc), gx_at G (I, V) M o d s.heap H1 locs1 → W p l e R s m args below meth c H1 locs1 cells slots Q (F0 m (pc + 3) ls (.int out :: rest))) (hc : cells ≤ R.cells := by exact Nat.zero_le _) (hs : slots ≤ R.slots := by exact Nat.zero_le _) : W p l e R s m args below meth c H locs cells slots Q (F0 m pc ls (.int x2 :: .int x1 :: .ref (G.2.1 k0) :: rest)) :=
  gx_runi hw (va_runV (C := RX5) (As := [.int x1, .int x2]) (rest := rest) ⟨hx, hb, hml, hown, (fun _ h => nomatch h : ∀ w ∈ ([] : List Cond), w.before args s = true)⟩ (k_X5_holdFor hk0 hF) ⟨gx_callB (n := 2) rfl rfl hlink (gw_50 hV) (gw_531 hV) (by decide +kernel) ⟨hfr, hlo⟩, gw_529 hV, gw_530 hV⟩ (gx_recv (k := k0) (ci := 7) (T := TX5) hV hw (gx_Wk hk0) (gc_W hk0) rfl) rfl rfl hsz rfl (lv_room hrest) hdg ⟨hc, hs⟩) kk
set_option maxHeartbeats 4000000 in
set_option maxRecDepth 100000 in
theorem k_X5_free {l : Launch} {G : gx_G} {M : gx_S} {o : Int64} {d : UInt64} {I V : gx_F} {k0 : Nat} {x1 : Int32} (hk0 : gx_isW k0) {out : (gx_F × gx_F)} (hF : f_X5_free k0 x1 I V = some out) : gx_K l yX5_free cX5_free 2 none { frames := 1, cells := 0, slots := 0, locals := 20 } [.ref (G.2.1 k0), .int x1] G (I, V) M o d (gx_Qv G (out.1, out.2) M o d) 0 0 := by
  refine gx_begin (by decide +kernel) (Nat.le_of_ble_eq_true rfl) ?_
  intro p e s m below meth c hx hb hr hml hown hlocks hV hw ls hl
  have hown : s.vm.findClass RX5 = some m.cls := hown
  have hl : lv_has ls 2 [(0, .ref (G.2.1 k0)), (1, .int x1)] := hl
  unfold f_X5_free at hF
  refine lv_iload_n (pc := 0) hx hb dX5_free_0 rfl (lv_at hl 1 rfl) ?_
  obtain ⟨uq_1, huq_1, hF⟩ := Option.bind_eq_some_iff.mp hF
  refine cn_X6_isPlace (pc := 1) hx hb hml hown hV hw huq_1 (gw_388 hV) hl.1 (Nat.le_of_ble_eq_true rfl) (Nat.le_of_ble_eq_true rfl) (Nat.le_of_ble_eq_true rfl) dX5_free_1 (fun H locs hw => ?_)
  refine gx_if_eq (pc := 4) (tgt := 24) hx hb hF dX5_free_4 (by decide) (fun hF => ?_) (fun hF => ?_)
  · refine lv_iload_n (pc := 24) hx hb dX5_free_24 rfl (lv_at hl 1 rfl) ?_
    refine lv_aload_n (pc := 25) hx hb dX5_free_25 rfl (lv_at hl 0 rfl) ?_
    refine gg_X5_5 (pc := 26) hx hb hown hV hw hk0 (gw_98 hV) dX5_free_26 ?_
    refine gx_icmp_ne (pc := 29) (tgt := 37) hx hb hF dX5_free_29 (by decide) (fun hF => ?_) (fun hF => ?_)
    · cases hF
      exact gx_vret hx hb hr hlocks hw dX5_free_37
    refine lv_aload_n (pc := 32) hx hb dX5_free_32 rfl (lv_at hl 0 rfl) ?_
    refine lv_iconst (pc := 33) (v := (-1)) hx hb dX5_free_33 (by decide) ?_
    refine gp_X5_5 (pc := 34) hx hb hown hV hw hk0 (gw_98 hV) dX5_free_34 (fun H locs hw => ?_)
    cases hF
    exact gx_vret hx hb hr hlocks hw dX5_free_37
  refine lv_aload_n (pc := 7) hx hb dX5_free_7 rfl (lv_at hl 0 rfl) ?_
  refine gg_X5_2 (pc := 8) hx hb hown hV hw hk0 (gw_89 hV) dX5_free_8 ?_
  refine lv_iload_n (pc := 11) hx hb dX5_free_11 rfl (lv_at hl 1 rfl) ?_
  refine lv_iconst (pc := 12) (v := (-1)) hx hb dX5_free_12 (by decide) ?_
  refine ga_w3_st (pc := 13) hx hb hV hw hk0 hF dX5_free_13 (fun H locs hw hF => ?_)
  refine lv_aload_n (pc := 14) hx hb dX5_free_14 rfl (lv_at hl 0 rfl) ?_
  refine lv_dup (pc := 15) hx hb dX5_free_15 rfl ?_
  refine gg_X5_8 (pc := 16) hx hb hown hV hw hk0 (gw_107 hV) dX5_free_16 ?_
  refine lv_iconst (pc := 19) (v := 1) hx hb dX5_free_19 (by decide) ?_
  refine lv_iadd (pc := 20) hx hb dX5_free_20 ?_
  refine gp_X5_8 (pc := 21) hx hb hown hV hw hk0 (gw_107 hV) dX5_free_21 (fun H locs hw => ?_)
  refine lv_iload_n (pc := 24) hx hb dX5_free_24 rfl (lv_at hl 1 rfl) ?_
  refine lv_aload_n (pc := 25) hx hb dX5_free_25 rfl (lv_at hl 0 rfl) ?_
  refine gg_X5_5 (pc := 26) hx hb hown hV hw hk0 (gw_98 hV) dX5_free_26 ?_
  refine gx_icmp_ne (pc := 29) (tgt := 37) hx hb hF dX5_free_29 (by decide) (fun hF => ?_) (fun hF => ?_)
  · cases hF
    exact gx_vret hx hb hr hlocks hw dX5_free_37
  refine lv_aload_n (pc := 32) hx hb dX5_free_32 rfl (lv_at hl 0 rfl) ?_
  refine lv_iconst (pc := 33) (v := (-1)) hx hb dX5_free_33 (by decide) ?_
  refine gp_X5_5 (pc := 34) hx hb hown hV hw hk0 (gw_98 hV) dX5_free_34 (fun H locs hw => ?_)
  cases hF
  exact gx_vret hx hb hr hlocks hw dX5_free_37
set_option maxRecDepth 100000 in
theorem cl_X5_free {l : Launch} {G : gx_G} {M : gx_S} {o : Int64} {d : UInt64} {I V : gx_F} {p : Program} {e : Env} {R : Room} {s : State} {m : MethodId} {args : Array Value} {below : List Frame} {meth : Method} {c : Code} {H : Heap} {locs : List Loc} {cells slots : Nat} {Q : State → Prop} {cc : ByteArray} {pc nL index : Nat} {ls : Array Slot} {rest : List Value} {own : String} {k0 : Nat} {x1 : Int32} {out : (gx_F × gx_F)} (hx : p.tables.exec = Jvm.exec) (hb : c.code = cc) (hml : c.maxLocals = nL) (hown : s.vm.findClass own = some m.cls) (hV : gx_V G s) (hw : gx_at G (I, V) M o d s.heap H locs) (hk0 : gx_isW k0) (hF : f_X5_free k0 x1 I V = some out) (hlink : (Cond.methodLink own index yX5_free).before args s = true) (hsz : ls.size = nL) (hfr : 2 ≤ R.frames) (hlo : 41 ≤ R.locals) (hrest : (rest.map fun v => v.category).sum ≤ 8) (hdg : decode cc pc = .ok (.invokevirtual index, 3))
    (kk : ∀ (H1 : Heap) (locs1 : List Loc), gx_at G (out.1, out.2) M o d s.heap H1 locs1 → W p l e R s m args below meth c H1 locs1 cells slots Q (F0 m (pc + 3) ls (rest))) (hc : cells ≤ R.cells := by exact Nat.zero_le _) (hs : slots ≤ R.slots := by exact Nat.zero_le _) : W p l e R s m args below meth c H locs cells slots Q (F0 m pc ls (.int x1 :: .ref (G.2.1 k0) :: rest)) :=
  gx_runv hw (va_runV (C := RX5) (As := [.int x1]) (rest := rest) ⟨hx, hb, hml, hown, (fun _ h => nomatch h : ∀ w ∈ ([] : List Cond), w.before args s = true)⟩ (k_X5_free hk0 hF) ⟨gx_callB (n := 1) rfl rfl hlink (gw_50 hV) (gw_556 hV) (by decide +kernel) ⟨hfr, hlo⟩, gw_554 hV, gw_555 hV⟩ (gx_recv (k := k0) (ci := 7) (T := TX5) hV hw (gx_Wk hk0) (gc_W hk0) rfl) rfl rfl hsz rfl (lv_room hrest) hdg ⟨hc, hs⟩) kk
set_option maxHeartbeats 4000000 in
set_option maxRecDepth 100000 in
theorem k_X4_isFull {l : Launch} {G : gx_G} {M : gx_S} {o : Int64} {d : UInt64} {I V : gx_F} {out : Bool} (hF : f_X4_isFull I V = some out) : gx_K l yX4_isFull cX4_isFull 1 (some .boolean) { frames := 0, cells := 0, slots := 0, locals := 0 } [.ref (G.2.1 54)] G (I, V) M o d (gx_Qi G (gx_bi out) (I, V) M o d) 0 0 := by
  refine gx_begin (by decide +kernel) (Nat.le_of_ble_eq_true rfl) ?_
  intro p e s m below meth c hx hb hr hml hown hlocks hV hw ls hl
  have hown : s.vm.findClass RX4 = some m.cls := hown
  have hl : lv_has ls 1 [(0, .ref (G.2.1 54))] := hl
  unfold f_X4_isFull at hF
  refine lv_aload_n (pc := 0) hx hb dX4_isFull_0 rfl (lv_at hl 0 rfl) ?_
  refine gg_X4_4 (pc := 1) hx hb hown hV hw (gw_215 hV) dX4_isFull_1 ?_
  refine lv_bipush (pc := 4) (v := 60) hx hb dX4_isFull_4 (by decide) ?_
  refine gx_icmp_lt (pc := 6) (tgt := 13) hx hb hF dX4_isFull_6 (by decide) (fun hF => ?_) (fun hF => ?_)
  · refine lv_iconst (pc := 13) (v := 0) hx hb dX4_isFull_13 (by decide) ?_
    cases hF
    exact gx_zret (r := gx_bi false) hx hb hr (gx_narb _) hlocks hw dX4_isFull_14
  refine lv_iconst (pc := 9) (v := 1) hx hb dX4_isFull_9 (by decide) ?_
  refine lv_goto (pc := 10) (tgt := 14) hx hb dX4_isFull_10 (by decide) ?_
  cases hF
  exact gx_zret (r := gx_bi true) hx hb hr (gx_narb _) hlocks hw dX4_isFull_14
set_option maxRecDepth 100000 in
theorem cl_X4_isFull {l : Launch} {G : gx_G} {M : gx_S} {o : Int64} {d : UInt64} {I V : gx_F} {p : Program} {e : Env} {R : Room} {s : State} {m : MethodId} {args : Array Value} {below : List Frame} {meth : Method} {c : Code} {H : Heap} {locs : List Loc} {cells slots : Nat} {Q : State → Prop} {cc : ByteArray} {pc nL index : Nat} {ls : Array Slot} {rest : List Value} {own : String} {out : Bool} (hx : p.tables.exec = Jvm.exec) (hb : c.code = cc) (hml : c.maxLocals = nL) (hown : s.vm.findClass own = some m.cls) (hV : gx_V G s) (hw : gx_at G (I, V) M o d s.heap H locs) (hF : f_X4_isFull I V = some out) (hlink : (Cond.methodLink own index yX4_isFull).before args s = true) (hsz : ls.size = nL) (hfr : 1 ≤ R.frames) (hlo : 20 ≤ R.locals) (hrest : (rest.map fun v => v.category).sum ≤ 8) (hdg : decode cc pc = .ok (.invokevirtual index, 3))
    (kk : ∀ (H1 : Heap) (locs1 : List Loc), gx_at G (I, V) M o d s.heap H1 locs1 → W p l e R s m args below meth c H1 locs1 cells slots Q (F0 m (pc + 3) ls (.int (gx_bi out) :: rest))) (hc : cells ≤ R.cells := by exact Nat.zero_le _) (hs : slots ≤ R.slots := by exact Nat.zero_le _) : W p l e R s m args below meth c H locs cells slots Q (F0 m pc ls (.ref (G.2.1 54) :: rest)) :=
  gx_runi hw (va_runV (C := RX4) (As := []) (rest := rest) ⟨hx, hb, hml, hown, (fun _ h => nomatch h : ∀ w ∈ ([] : List Cond), w.before args s = true)⟩ (k_X4_isFull hF) ⟨gx_callB (n := 0) rfl rfl hlink (gw_55 hV) (gw_824 hV) (by decide +kernel) ⟨hfr, hlo⟩, gw_822 hV, gw_823 hV⟩ (gx_recv (k := 54) (ci := 6) (T := TX4) hV hw (by decide) rfl rfl) rfl rfl hsz rfl (lv_room hrest) hdg ⟨hc, hs⟩) kk
set_option maxHeartbeats 4000000 in
set_option maxRecDepth 100000 in
theorem k_X4_add {l : Launch} {G : gx_G} {M : gx_S} {o : Int64} {d : UInt64} {I V : gx_F} {x1 : Int32} {out : (Int32 × gx_F × gx_F)} (hF : f_X4_add x1 I V = some out) : gx_K l yX4_add cX4_add 2 (some .int) { frames := 1, cells := 0, slots := 0, locals := 20 } [.ref (G.2.1 54), .int x1] G (I, V) M o d (gx_Qi G out.1 (out.2.1, out.2.2) M o d) 0 0 := by
  refine gx_begin (by decide +kernel) (Nat.le_of_ble_eq_true rfl) ?_
  intro p e s m below meth c hx hb hr hml hown hlocks hV hw ls hl
  have hown : s.vm.findClass RX4 = some m.cls := hown
  have hl : lv_has ls 2 [(0, .ref (G.2.1 54)), (1, .int x1)] := hl
  unfold f_X4_add at hF
  refine lv_aload_n (pc := 0) hx hb dX4_add_0 rfl (lv_at hl 0 rfl) ?_
  obtain ⟨uq_1, huq_1, hF⟩ := Option.bind_eq_some_iff.mp hF
  refine cl_X4_isFull (pc := 1) hx hb hml hown hV hw huq_1 (gw_845 hV) hl.1 (Nat.le_of_ble_eq_true rfl) (Nat.le_of_ble_eq_true rfl) (Nat.le_of_ble_eq_true rfl) dX4_add_1 (fun H locs hw => ?_)
  refine gx_if_ne (pc := 4) (tgt := 27) hx hb hF dX4_add_4 (by decide) (fun hF => ?_) (fun hF => ?_)
  · refine lv_aload_n (pc := 27) hx hb dX4_add_27 rfl (lv_at hl 0 rfl) ?_
    refine gg_X4_4 (pc := 28) hx hb hown hV hw (gw_215 hV) dX4_add_28 ?_
    cases hF
    exact gx_iret hx hb hr hlocks hw dX4_add_31
  refine lv_aload_n (pc := 7) hx hb dX4_add_7 rfl (lv_at hl 0 rfl) ?_
  refine gg_X4_0 (pc := 8) hx hb hown hV hw (gw_211 hV) dX4_add_8 ?_
  refine lv_aload_n (pc := 11) hx hb dX4_add_11 rfl (lv_at hl 0 rfl) ?_
  refine gg_X4_4 (pc := 12) hx hb hown hV hw (gw_215 hV) dX4_add_12 ?_
  refine lv_iload_n (pc := 15) hx hb dX4_add_15 rfl (lv_at hl 1 rfl) ?_
  refine ga_55_st (pc := 16) hx hb hV hw hF dX4_add_16 (fun H locs hw hF => ?_)
  refine lv_aload_n (pc := 17) hx hb dX4_add_17 rfl (lv_at hl 0 rfl) ?_
  refine lv_dup (pc := 18) hx hb dX4_add_18 rfl ?_
  refine gg_X4_4 (pc := 19) hx hb hown hV hw (gw_215 hV) dX4_add_19 ?_
  refine lv_iconst (pc := 22) (v := 1) hx hb dX4_add_22 (by decide) ?_
  refine lv_iadd (pc := 23) hx hb dX4_add_23 ?_
  refine gp_X4_4 (pc := 24) hx hb hown hV hw (gw_215 hV) dX4_add_24 (fun H locs hw => ?_)
  refine lv_aload_n (pc := 27) hx hb dX4_add_27 rfl (lv_at hl 0 rfl) ?_
  refine gg_X4_4 (pc := 28) hx hb hown hV hw (gw_215 hV) dX4_add_28 ?_
  cases hF
  exact gx_iret hx hb hr hlocks hw dX4_add_31
set_option maxRecDepth 100000 in
theorem cl_X4_add {l : Launch} {G : gx_G} {M : gx_S} {o : Int64} {d : UInt64} {I V : gx_F} {p : Program} {e : Env} {R : Room} {s : State} {m : MethodId} {args : Array Value} {below : List Frame} {meth : Method} {c : Code} {H : Heap} {locs : List Loc} {cells slots : Nat} {Q : State → Prop} {cc : ByteArray} {pc nL index : Nat} {ls : Array Slot} {rest : List Value} {own : String} {x1 : Int32} {out : (Int32 × gx_F × gx_F)} (hx : p.tables.exec = Jvm.exec) (hb : c.code = cc) (hml : c.maxLocals = nL) (hown : s.vm.findClass own = some m.cls) (hV : gx_V G s) (hw : gx_at G (I, V) M o d s.heap H locs) (hF : f_X4_add x1 I V = some out) (hlink : (Cond.methodLink own index yX4_add).before args s = true) (hsz : ls.size = nL) (hfr : 2 ≤ R.frames) (hlo : 41 ≤ R.locals) (hrest : (rest.map fun v => v.category).sum ≤ 8) (hdg : decode cc pc = .ok (.invokevirtual index, 3))
    (kk : ∀ (H1 : Heap) (locs1 : List Loc), gx_at G (out.2.1, out.2.2) M o d s.heap H1 locs1 → W p l e R s m args below meth c H1 locs1 cells slots Q (F0 m (pc + 3) ls (.int out.1 :: rest))) (hc : cells ≤ R.cells := by exact Nat.zero_le _) (hs : slots ≤ R.slots := by exact Nat.zero_le _) : W p l e R s m args below meth c H locs cells slots Q (F0 m pc ls (.int x1 :: .ref (G.2.1 54) :: rest)) :=
  gx_runi hw (va_runV (C := RX4) (As := [.int x1]) (rest := rest) ⟨hx, hb, hml, hown, (fun _ h => nomatch h : ∀ w ∈ ([] : List Cond), w.before args s = true)⟩ (k_X4_add hF) ⟨gx_callB (n := 1) rfl rfl hlink (gw_55 hV) (gw_844 hV) (by decide +kernel) ⟨hfr, hlo⟩, gw_842 hV, gw_843 hV⟩ (gx_recv (k := 54) (ci := 6) (T := TX4) hV hw (by decide) rfl rfl) rfl rfl hsz rfl (lv_room hrest) hdg ⟨hc, hs⟩) kk
set_option maxHeartbeats 4000000 in
set_option maxRecDepth 100000 in
theorem k_X4_clear {l : Launch} {G : gx_G} {M : gx_S} {o : Int64} {d : UInt64} {I V : gx_F} {out : (gx_F × gx_F)} (hF : f_X4_clear I V = some out) : gx_K l yX4_clear cX4_clear 1 none { frames := 0, cells := 0, slots := 0, locals := 0 } [.ref (G.2.1 54)] G (I, V) M o d (gx_Qv G (out.1, out.2) M o d) 0 0 := by
  refine gx_begin (by decide +kernel) (Nat.le_of_ble_eq_true rfl) ?_
  intro p e s m below meth c hx hb hr hml hown hlocks hV hw ls hl
  have hown : s.vm.findClass RX4 = some m.cls := hown
  have hl : lv_has ls 1 [(0, .ref (G.2.1 54))] := hl
  unfold f_X4_clear at hF
  refine lv_aload_n (pc := 0) hx hb dX4_clear_0 rfl (lv_at hl 0 rfl) ?_
  refine lv_iconst (pc := 1) (v := 0) hx hb dX4_clear_1 (by decide) ?_
  refine gp_X4_4 (pc := 2) hx hb hown hV hw (gw_215 hV) dX4_clear_2 (fun H locs hw => ?_)
  cases hF
  exact gx_vret hx hb hr hlocks hw dX4_clear_5
set_option maxRecDepth 100000 in
theorem cl_X4_clear {l : Launch} {G : gx_G} {M : gx_S} {o : Int64} {d : UInt64} {I V : gx_F} {p : Program} {e : Env} {R : Room} {s : State} {m : MethodId} {args : Array Value} {below : List Frame} {meth : Method} {c : Code} {H : Heap} {locs : List Loc} {cells slots : Nat} {Q : State → Prop} {cc : ByteArray} {pc nL index : Nat} {ls : Array Slot} {rest : List Value} {own : String} {out : (gx_F × gx_F)} (hx : p.tables.exec = Jvm.exec) (hb : c.code = cc) (hml : c.maxLocals = nL) (hown : s.vm.findClass own = some m.cls) (hV : gx_V G s) (hw : gx_at G (I, V) M o d s.heap H locs) (hF : f_X4_clear I V = some out) (hlink : (Cond.methodLink own index yX4_clear).before args s = true) (hsz : ls.size = nL) (hfr : 1 ≤ R.frames) (hlo : 20 ≤ R.locals) (hrest : (rest.map fun v => v.category).sum ≤ 8) (hdg : decode cc pc = .ok (.invokevirtual index, 3))
    (kk : ∀ (H1 : Heap) (locs1 : List Loc), gx_at G (out.1, out.2) M o d s.heap H1 locs1 → W p l e R s m args below meth c H1 locs1 cells slots Q (F0 m (pc + 3) ls (rest))) (hc : cells ≤ R.cells := by exact Nat.zero_le _) (hs : slots ≤ R.slots := by exact Nat.zero_le _) : W p l e R s m args below meth c H locs cells slots Q (F0 m pc ls (.ref (G.2.1 54) :: rest)) :=
  gx_runv hw (va_runV (C := RX4) (As := []) (rest := rest) ⟨hx, hb, hml, hown, (fun _ h => nomatch h : ∀ w ∈ ([] : List Cond), w.before args s = true)⟩ (k_X4_clear hF) ⟨gx_callB (n := 0) rfl rfl hlink (gw_55 hV) (gw_896 hV) (by decide +kernel) ⟨hfr, hlo⟩, gw_894 hV, gw_895 hV⟩ (gx_recv (k := 54) (ci := 6) (T := TX4) hV hw (by decide) rfl rfl) rfl rfl hsz rfl (lv_room hrest) hdg ⟨hc, hs⟩) kk
set_option maxHeartbeats 4000000 in
set_option maxRecDepth 100000 in
theorem k_X4_deedOf {l : Launch} {G : gx_G} {M : gx_S} {o : Int64} {d : UInt64} {I V : gx_F} {x1 : Int32} {out : Int32} (hF : f_X4_deedOf x1 I V = some out) : gx_K l yX4_deedOf cX4_deedOf 2 (some .char) { frames := 0, cells := 0, slots := 0, locals := 0 } [.ref (G.2.1 54), .int x1] G (I, V) M o d (gx_Qi G out (I, V) M o d) 0 0 := by
  refine gx_begin (by decide +kernel) (Nat.le_of_ble_eq_true rfl) ?_
  intro p e s m below meth c hx hb hr hml hown hlocks hV hw ls hl
  have hown : s.vm.findClass RX4 = some m.cls := hown
  have hl : lv_has ls 2 [(0, .ref (G.2.1 54)), (1, .int x1)] := hl
  unfold f_X4_deedOf at hF
  refine lv_iload_n (pc := 0) hx hb dX4_deedOf_0 rfl (lv_at hl 1 rfl) ?_
  refine gx_if_lt (pc := 1) (tgt := 19) hx hb hF dX4_deedOf_1 (by decide) (fun hF => ?_) (fun hF => ?_)
  · refine lv_bipush (pc := 19) (v := 32) hx hb dX4_deedOf_19 (by decide) ?_
    cases hF
    exact gx_zret hx hb hr (rfl) hlocks hw dX4_deedOf_21
  refine lv_iload_n (pc := 4) hx hb dX4_deedOf_4 rfl (lv_at hl 1 rfl) ?_
  refine lv_bipush (pc := 5) (v := 30) hx hb dX4_deedOf_5 (by decide) ?_
  refine gx_icmp_ge (pc := 7) (tgt := 19) hx hb hF dX4_deedOf_7 (by decide) (fun hF => ?_) (fun hF => ?_)
  · refine lv_bipush (pc := 19) (v := 32) hx hb dX4_deedOf_19 (by decide) ?_
    cases hF
    exact gx_zret hx hb hr (rfl) hlocks hw dX4_deedOf_21
  refine lv_aload_n (pc := 10) hx hb dX4_deedOf_10 rfl (lv_at hl 0 rfl) ?_
  refine gg_X4_1 (pc := 11) hx hb hown hV hw (gw_212 hV) dX4_deedOf_11 ?_
  refine lv_iload_n (pc := 14) hx hb dX4_deedOf_14 rfl (lv_at hl 1 rfl) ?_
  refine ga_56_ld (pc := 15) hx hb hV hw hF dX4_deedOf_15 (fun _ hF => ?_)
  refine lv_goto (pc := 16) (tgt := 21) hx hb dX4_deedOf_16 (by decide) ?_
  cases hF
  exact gx_zret hx hb hr (gx_narc _) hlocks hw dX4_deedOf_21
set_option maxRecDepth 100000 in
theorem cl_X4_deedOf {l : Launch} {G : gx_G} {M : gx_S} {o : Int64} {d : UInt64} {I V : gx_F} {p : Program} {e : Env} {R : Room} {s : State} {m : MethodId} {args : Array Value} {below : List Frame} {meth : Method} {c : Code} {H : Heap} {locs : List Loc} {cells slots : Nat} {Q : State → Prop} {cc : ByteArray} {pc nL index : Nat} {ls : Array Slot} {rest : List Value} {own : String} {x1 : Int32} {out : Int32} (hx : p.tables.exec = Jvm.exec) (hb : c.code = cc) (hml : c.maxLocals = nL) (hown : s.vm.findClass own = some m.cls) (hV : gx_V G s) (hw : gx_at G (I, V) M o d s.heap H locs) (hF : f_X4_deedOf x1 I V = some out) (hlink : (Cond.methodLink own index yX4_deedOf).before args s = true) (hsz : ls.size = nL) (hfr : 1 ≤ R.frames) (hlo : 21 ≤ R.locals) (hrest : (rest.map fun v => v.category).sum ≤ 8) (hdg : decode cc pc = .ok (.invokevirtual index, 3))
    (kk : ∀ (H1 : Heap) (locs1 : List Loc), gx_at G (I, V) M o d s.heap H1 locs1 → W p l e R s m args below meth c H1 locs1 cells slots Q (F0 m (pc + 3) ls (.int out :: rest))) (hc : cells ≤ R.cells := by exact Nat.zero_le _) (hs : slots ≤ R.slots := by exact Nat.zero_le _) : W p l e R s m args below meth c H locs cells slots Q (F0 m pc ls (.int x1 :: .ref (G.2.1 54) :: rest)) :=
  gx_runi hw (va_runV (C := RX4) (As := [.int x1]) (rest := rest) ⟨hx, hb, hml, hown, (fun _ h => nomatch h : ∀ w ∈ ([] : List Cond), w.before args s = true)⟩ (k_X4_deedOf hF) ⟨gx_callB (n := 1) rfl rfl hlink (gw_55 hV) (gw_906 hV) (by decide +kernel) ⟨hfr, hlo⟩, gw_904 hV, gw_905 hV⟩ (gx_recv (k := 54) (ci := 6) (T := TX4) hV hw (by decide) rfl rfl) rfl rfl hsz rfl (lv_room hrest) hdg ⟨hc, hs⟩) kk
set_option maxHeartbeats 4000000 in
set_option maxRecDepth 100000 in
theorem k_X4_numberOf {l : Launch} {G : gx_G} {M : gx_S} {o : Int64} {d : UInt64} {I V : gx_F} {x1 : Int32} {x2 : Int32} {out : Int32} (hF : f_X4_numberOf x1 x2 I V = some out) : gx_K l yX4_numberOf cX4_numberOf 4 (some .int) { frames := 0, cells := 0, slots := 0, locals := 0 } [.ref (G.2.1 54), .int x1, .int x2] G (I, V) M o d (gx_Qi G out (I, V) M o d) 0 0 := by
  refine gx_begin (by decide +kernel) (Nat.le_of_ble_eq_true rfl) ?_
  intro p e s m below meth c hx hb hr hml hown hlocks hV hw ls hl
  have hown : s.vm.findClass RX4 = some m.cls := hown
  have hl : lv_has ls 4 [(0, .ref (G.2.1 54)), (1, .int x1), (2, .int x2)] := hl
  unfold f_X4_numberOf at hF
  refine lv_iload_n (pc := 0) hx hb dX4_numberOf_0 rfl (lv_at hl 1 rfl) ?_
  refine lv_iconst (pc := 1) (v := 4) hx hb dX4_numberOf_1 (by decide) ?_
  refine lv_imul (pc := 2) hx hb dX4_numberOf_2 ?_
  refine lv_iload_n (pc := 3) hx hb dX4_numberOf_3 rfl (lv_at hl 2 rfl) ?_
  refine lv_iadd (pc := 4) hx hb dX4_numberOf_4 ?_
  refine lv_istore_n (pc := 5) (lv' := [(3, .int ((x1 * 4) + x2)), (0, .ref (G.2.1 54)), (1, .int x1), (2, .int x2)]) hx hb dX4_numberOf_5 rfl hl (by decide) rfl (fun ls hl => ?_)
  refine lv_iload_n (pc := 6) hx hb dX4_numberOf_6 rfl (lv_at hl 0 rfl) ?_
  refine gx_if_lt (pc := 7) (tgt := 25) hx hb hF dX4_numberOf_7 (by decide) (fun hF => ?_) (fun hF => ?_)
  · refine lv_iconst (pc := 25) (v := 0) hx hb dX4_numberOf_25 (by decide) ?_
    cases hF
    exact gx_iret hx hb hr hlocks hw dX4_numberOf_26
  refine lv_iload_n (pc := 10) hx hb dX4_numberOf_10 rfl (lv_at hl 0 rfl) ?_
  refine lv_bipush (pc := 11) (v := 120) hx hb dX4_numberOf_11 (by decide) ?_
  refine gx_icmp_ge (pc := 13) (tgt := 25) hx hb hF dX4_numberOf_13 (by decide) (fun hF => ?_) (fun hF => ?_)
  · refine lv_iconst (pc := 25) (v := 0) hx hb dX4_numberOf_25 (by decide) ?_
    cases hF
    exact gx_iret hx hb hr hlocks hw dX4_numberOf_26
  refine lv_aload_n (pc := 16) hx hb dX4_numberOf_16 rfl (lv_at hl 1 rfl) ?_
  refine gg_X4_2 (pc := 17) hx hb hown hV hw (gw_213 hV) dX4_numberOf_17 ?_
  refine lv_iload_n (pc := 20) hx hb dX4_numberOf_20 rfl (lv_at hl 0 rfl) ?_
  refine ga_57_ld (pc := 21) hx hb hV hw hF dX4_numberOf_21 (fun _ hF => ?_)
  refine lv_goto (pc := 22) (tgt := 26) hx hb dX4_numberOf_22 (by decide) ?_
  cases hF
  exact gx_iret hx hb hr hlocks hw dX4_numberOf_26
set_option maxRecDepth 100000 in
theorem cl_X4_numberOf {l : Launch} {G : gx_G} {M : gx_S} {o : Int64} {d : UInt64} {I V : gx_F} {p : Program} {e : Env} {R : Room} {s : State} {m : MethodId} {args : Array Value} {below : List Frame} {meth : Method} {c : Code} {H : Heap} {locs : List Loc} {cells slots : Nat} {Q : State → Prop} {cc : ByteArray} {pc nL index : Nat} {ls : Array Slot} {rest : List Value} {own : String} {x1 : Int32} {x2 : Int32} {out : Int32} (hx : p.tables.exec = Jvm.exec) (hb : c.code = cc) (hml : c.maxLocals = nL) (hown : s.vm.findClass own = some m.cls) (hV : gx_V G s) (hw : gx_at G (I, V) M o d s.heap H locs) (hF : f_X4_numberOf x1 x2 I V = some out) (hlink : (Cond.methodLink own index yX4_numberOf).before args s = true) (hsz : ls.size = nL) (hfr : 1 ≤ R.frames) (hlo : 23 ≤ R.locals) (hrest : (rest.map fun v => v.category).sum ≤ 8) (hdg : decode cc pc = .ok (.invokevirtual index, 3))
    (kk : ∀ (H1 : Heap) (locs1 : List Loc), gx_at G (I, V) M o d s.heap H1 locs1 → W p l e R s m args below meth c H1 locs1 cells slots Q (F0 m (pc + 3) ls (.int out :: rest))) (hc : cells ≤ R.cells := by exact Nat.zero_le _) (hs : slots ≤ R.slots := by exact Nat.zero_le _) : W p l e R s m args below meth c H locs cells slots Q (F0 m pc ls (.int x2 :: .int x1 :: .ref (G.2.1 54) :: rest)) :=
  gx_runi hw (va_runV (C := RX4) (As := [.int x1, .int x2]) (rest := rest) ⟨hx, hb, hml, hown, (fun _ h => nomatch h : ∀ w ∈ ([] : List Cond), w.before args s = true)⟩ (k_X4_numberOf hF) ⟨gx_callB (n := 2) rfl rfl hlink (gw_55 hV) (gw_888 hV) (by decide +kernel) ⟨hfr, hlo⟩, gw_886 hV, gw_887 hV⟩ (gx_recv (k := 54) (ci := 6) (T := TX4) hV hw (by decide) rfl rfl) rfl rfl hsz rfl (lv_room hrest) hdg ⟨hc, hs⟩) kk
set_option maxHeartbeats 4000000 in
set_option maxRecDepth 100000 in
theorem k_X4_here {l : Launch} {G : gx_G} {M : gx_S} {o : Int64} {d : UInt64} {I V : gx_F} {out : Int32} (hF : f_X4_here I V = some out) : gx_K l yX4_here cX4_here 1 (some .char) { frames := 0, cells := 0, slots := 0, locals := 0 } [.ref (G.2.1 54)] G (I, V) M o d (gx_Qi G out (I, V) M o d) 0 0 := by
  refine gx_begin (by decide +kernel) (Nat.le_of_ble_eq_true rfl) ?_
  intro p e s m below meth c hx hb hr hml hown hlocks hV hw ls hl
  have hown : s.vm.findClass RX4 = some m.cls := hown
  have hl : lv_has ls 1 [(0, .ref (G.2.1 54))] := hl
  unfold f_X4_here at hF
  refine lv_aload_n (pc := 0) hx hb dX4_here_0 rfl (lv_at hl 0 rfl) ?_
  refine gg_X4_3 (pc := 1) hx hb hown hV hw (gw_214 hV) dX4_here_1 ?_
  refine lv_aload_n (pc := 4) hx hb dX4_here_4 rfl (lv_at hl 0 rfl) ?_
  refine gg_X4_4 (pc := 5) hx hb hown hV hw (gw_215 hV) dX4_here_5 ?_
  refine gx_icmp_ge (pc := 8) (tgt := 32) hx hb hF dX4_here_8 (by decide) (fun hF => ?_) (fun hF => ?_)
  · refine lv_bipush (pc := 32) (v := 32) hx hb dX4_here_32 (by decide) ?_
    cases hF
    exact gx_zret hx hb hr (rfl) hlocks hw dX4_here_34
  refine lv_aload_n (pc := 11) hx hb dX4_here_11 rfl (lv_at hl 0 rfl) ?_
  refine gg_X4_3 (pc := 12) hx hb hown hV hw (gw_214 hV) dX4_here_12 ?_
  refine lv_bipush (pc := 15) (v := 60) hx hb dX4_here_15 (by decide) ?_
  refine gx_icmp_ge (pc := 17) (tgt := 32) hx hb hF dX4_here_17 (by decide) (fun hF => ?_) (fun hF => ?_)
  · refine lv_bipush (pc := 32) (v := 32) hx hb dX4_here_32 (by decide) ?_
    cases hF
    exact gx_zret hx hb hr (rfl) hlocks hw dX4_here_34
  refine lv_aload_n (pc := 20) hx hb dX4_here_20 rfl (lv_at hl 0 rfl) ?_
  refine gg_X4_0 (pc := 21) hx hb hown hV hw (gw_211 hV) dX4_here_21 ?_
  refine lv_aload_n (pc := 24) hx hb dX4_here_24 rfl (lv_at hl 0 rfl) ?_
  refine gg_X4_3 (pc := 25) hx hb hown hV hw (gw_214 hV) dX4_here_25 ?_
  refine ga_55_ld (pc := 28) hx hb hV hw hF dX4_here_28 (fun _ hF => ?_)
  refine lv_goto (pc := 29) (tgt := 34) hx hb dX4_here_29 (by decide) ?_
  cases hF
  exact gx_zret hx hb hr (gx_narc _) hlocks hw dX4_here_34
set_option maxRecDepth 100000 in
theorem cl_X4_here {l : Launch} {G : gx_G} {M : gx_S} {o : Int64} {d : UInt64} {I V : gx_F} {p : Program} {e : Env} {R : Room} {s : State} {m : MethodId} {args : Array Value} {below : List Frame} {meth : Method} {c : Code} {H : Heap} {locs : List Loc} {cells slots : Nat} {Q : State → Prop} {cc : ByteArray} {pc nL index : Nat} {ls : Array Slot} {rest : List Value} {own : String} {out : Int32} (hx : p.tables.exec = Jvm.exec) (hb : c.code = cc) (hml : c.maxLocals = nL) (hown : s.vm.findClass own = some m.cls) (hV : gx_V G s) (hw : gx_at G (I, V) M o d s.heap H locs) (hF : f_X4_here I V = some out) (hlink : (Cond.methodLink own index yX4_here).before args s = true) (hsz : ls.size = nL) (hfr : 1 ≤ R.frames) (hlo : 20 ≤ R.locals) (hrest : (rest.map fun v => v.category).sum ≤ 8) (hdg : decode cc pc = .ok (.invokevirtual index, 3))
    (kk : ∀ (H1 : Heap) (locs1 : List Loc), gx_at G (I, V) M o d s.heap H1 locs1 → W p l e R s m args below meth c H1 locs1 cells slots Q (F0 m (pc + 3) ls (.int out :: rest))) (hc : cells ≤ R.cells := by exact Nat.zero_le _) (hs : slots ≤ R.slots := by exact Nat.zero_le _) : W p l e R s m args below meth c H locs cells slots Q (F0 m pc ls (.ref (G.2.1 54) :: rest)) :=
  gx_runi hw (va_runV (C := RX4) (As := []) (rest := rest) ⟨hx, hb, hml, hown, (fun _ h => nomatch h : ∀ w ∈ ([] : List Cond), w.before args s = true)⟩ (k_X4_here hF) ⟨gx_callB (n := 0) rfl rfl hlink (gw_55 hV) (gw_864 hV) (by decide +kernel) ⟨hfr, hlo⟩, gw_863 hV, gw_9 hV⟩ (gx_recv (k := 54) (ci := 6) (T := TX4) hV hw (by decide) rfl rfl) rfl rfl hsz rfl (lv_room hrest) hdg ⟨hc, hs⟩) kk
set_option maxHeartbeats 4000000 in
set_option maxRecDepth 100000 in
theorem k_X4_note {l : Launch} {G : gx_G} {M : gx_S} {o : Int64} {d : UInt64} {I V : gx_F} {x1 : Int32} {x2 : Int32} {out : (gx_F × gx_F)} (hF : f_X4_note x1 x2 I V = some out) : gx_K l yX4_note cX4_note 4 none { frames := 0, cells := 0, slots := 0, locals := 0 } [.ref (G.2.1 54), .int x1, .int x2] G (I, V) M o d (gx_Qv G (out.1, out.2) M o d) 0 0 := by
  refine gx_begin (by decide +kernel) (Nat.le_of_ble_eq_true rfl) ?_
  intro p e s m below meth c hx hb hr hml hown hlocks hV hw ls hl
  have hown : s.vm.findClass RX4 = some m.cls := hown
  have hl : lv_has ls 4 [(0, .ref (G.2.1 54)), (1, .int x1), (2, .int x2)] := hl
  unfold f_X4_note at hF
  refine lv_aload_n (pc := 0) hx hb dX4_note_0 rfl (lv_at hl 0 rfl) ?_
  refine gg_X4_5 (pc := 1) hx hb hown hV hw (gw_217 hV) dX4_note_1 ?_
  refine lv_iconst (pc := 4) (v := 4) hx hb dX4_note_4 (by decide) ?_
  refine lv_imul (pc := 5) hx hb dX4_note_5 ?_
  refine lv_iload_n (pc := 6) hx hb dX4_note_6 rfl (lv_at hl 1 rfl) ?_
  refine lv_iadd (pc := 7) hx hb dX4_note_7 ?_
  refine lv_istore_n (pc := 8) (lv' := [(3, .int (((I 54 5) * 4) + x1)), (0, .ref (G.2.1 54)), (1, .int x1), (2, .int x2)]) hx hb dX4_note_8 rfl hl (by decide) rfl (fun ls hl => ?_)
  refine lv_iload_n (pc := 9) hx hb dX4_note_9 rfl (lv_at hl 0 rfl) ?_
  refine gx_if_lt (pc := 10) (tgt := 26) hx hb hF dX4_note_10 (by decide) (fun hF => ?_) (fun hF => ?_)
  · cases hF
    exact gx_vret hx hb hr hlocks hw dX4_note_26
  refine lv_iload_n (pc := 13) hx hb dX4_note_13 rfl (lv_at hl 0 rfl) ?_
  refine lv_bipush (pc := 14) (v := 120) hx hb dX4_note_14 (by decide) ?_
  refine gx_icmp_ge (pc := 16) (tgt := 26) hx hb hF dX4_note_16 (by decide) (fun hF => ?_) (fun hF => ?_)
  · cases hF
    exact gx_vret hx hb hr hlocks hw dX4_note_26
  refine lv_aload_n (pc := 19) hx hb dX4_note_19 rfl (lv_at hl 1 rfl) ?_
  refine gg_X4_2 (pc := 20) hx hb hown hV hw (gw_213 hV) dX4_note_20 ?_
  refine lv_iload_n (pc := 23) hx hb dX4_note_23 rfl (lv_at hl 0 rfl) ?_
  refine lv_iload_n (pc := 24) hx hb dX4_note_24 rfl (lv_at hl 3 rfl) ?_
  refine ga_57_st (pc := 25) hx hb hV hw hF dX4_note_25 (fun H locs hw hF => ?_)
  cases hF
  exact gx_vret hx hb hr hlocks hw dX4_note_26
set_option maxRecDepth 100000 in
theorem cl_X4_note {l : Launch} {G : gx_G} {M : gx_S} {o : Int64} {d : UInt64} {I V : gx_F} {p : Program} {e : Env} {R : Room} {s : State} {m : MethodId} {args : Array Value} {below : List Frame} {meth : Method} {c : Code} {H : Heap} {locs : List Loc} {cells slots : Nat} {Q : State → Prop} {cc : ByteArray} {pc nL index : Nat} {ls : Array Slot} {rest : List Value} {own : String} {x1 : Int32} {x2 : Int32} {out : (gx_F × gx_F)} (hx : p.tables.exec = Jvm.exec) (hb : c.code = cc) (hml : c.maxLocals = nL) (hown : s.vm.findClass own = some m.cls) (hV : gx_V G s) (hw : gx_at G (I, V) M o d s.heap H locs) (hF : f_X4_note x1 x2 I V = some out) (hlink : (Cond.methodLink own index yX4_note).before args s = true) (hsz : ls.size = nL) (hfr : 1 ≤ R.frames) (hlo : 23 ≤ R.locals) (hrest : (rest.map fun v => v.category).sum ≤ 8) (hdg : decode cc pc = .ok (.invokevirtual index, 3))
    (kk : ∀ (H1 : Heap) (locs1 : List Loc), gx_at G (out.1, out.2) M o d s.heap H1 locs1 → W p l e R s m args below meth c H1 locs1 cells slots Q (F0 m (pc + 3) ls (rest))) (hc : cells ≤ R.cells := by exact Nat.zero_le _) (hs : slots ≤ R.slots := by exact Nat.zero_le _) : W p l e R s m args below meth c H locs cells slots Q (F0 m pc ls (.int x2 :: .int x1 :: .ref (G.2.1 54) :: rest)) :=
  gx_runv hw (va_runV (C := RX4) (As := [.int x1, .int x2]) (rest := rest) ⟨hx, hb, hml, hown, (fun _ h => nomatch h : ∀ w ∈ ([] : List Cond), w.before args s = true)⟩ (k_X4_note hF) ⟨gx_callB (n := 2) rfl rfl hlink (gw_55 hV) (gw_876 hV) (by decide +kernel) ⟨hfr, hlo⟩, gw_875 hV, gw_12 hV⟩ (gx_recv (k := 54) (ci := 6) (T := TX4) hV hw (by decide) rfl rfl) rfl rfl hsz rfl (lv_room hrest) hdg ⟨hc, hs⟩) kk
set_option maxHeartbeats 4000000 in
set_option maxRecDepth 100000 in
theorem k_X4_readDigit {l : Launch} {G : gx_G} {M : gx_S} {o : Int64} {d : UInt64} {I V : gx_F} {x1 : Int32} {out : (Bool × gx_F × gx_F)} (hF : f_X4_readDigit x1 I V = some out) : gx_K l yX4_readDigit cX4_readDigit 3 (some .boolean) { frames := 1, cells := 0, slots := 0, locals := 23 } [.ref (G.2.1 54), .int x1] G (I, V) M o d (gx_Qi G (gx_bi out.1) (out.2.1, out.2.2) M o d) 0 0 := by
  refine gx_begin (by decide +kernel) (Nat.le_of_ble_eq_true rfl) ?_
  intro p e s m below meth c hx hb hr hml hown hlocks hV hw ls hl
  have hown : s.vm.findClass RX4 = some m.cls := hown
  have hl : lv_has ls 3 [(0, .ref (G.2.1 54)), (1, .int x1)] := hl
  unfold f_X4_readDigit at hF
  refine lv_aload_n (pc := 0) hx hb dX4_readDigit_0 rfl (lv_at hl 0 rfl) ?_
  obtain ⟨uq_1, huq_1, hF⟩ := Option.bind_eq_some_iff.mp hF
  refine cl_X4_here (pc := 1) hx hb hml hown hV hw huq_1 (gw_861 hV) hl.1 (Nat.le_of_ble_eq_true rfl) (Nat.le_of_ble_eq_true rfl) (Nat.le_of_ble_eq_true rfl) dX4_readDigit_1 (fun H locs hw => ?_)
  refine lv_istore_n (pc := 4) (lv' := [(2, .int uq_1), (0, .ref (G.2.1 54)), (1, .int x1)]) hx hb dX4_readDigit_4 rfl hl (by decide) rfl (fun ls hl => ?_)
  refine lv_iload_n (pc := 5) hx hb dX4_readDigit_5 rfl (lv_at hl 0 rfl) ?_
  refine lv_bipush (pc := 6) (v := 48) hx hb dX4_readDigit_6 (by decide) ?_
  refine gx_icmp_lt (pc := 8) (tgt := 17) hx hb hF dX4_readDigit_8 (by decide) (fun hF => ?_) (fun hF => ?_)
  · refine lv_iconst (pc := 17) (v := 0) hx hb dX4_readDigit_17 (by decide) ?_
    cases hF
    exact gx_zret (r := gx_bi false) hx hb hr (gx_narb _) hlocks hw dX4_readDigit_18
  refine lv_iload_n (pc := 11) hx hb dX4_readDigit_11 rfl (lv_at hl 0 rfl) ?_
  refine lv_bipush (pc := 12) (v := 57) hx hb dX4_readDigit_12 (by decide) ?_
  refine gx_icmp_le (pc := 14) (tgt := 19) hx hb hF dX4_readDigit_14 (by decide) (fun hF => ?_) (fun hF => ?_)
  · refine lv_aload_n (pc := 19) hx hb dX4_readDigit_19 rfl (lv_at hl 1 rfl) ?_
    refine lv_iload_n (pc := 20) hx hb dX4_readDigit_20 rfl (lv_at hl 2 rfl) ?_
    refine lv_iload_n (pc := 21) hx hb dX4_readDigit_21 rfl (lv_at hl 0 rfl) ?_
    refine lv_bipush (pc := 22) (v := 48) hx hb dX4_readDigit_22 (by decide) ?_
    refine lv_isub (pc := 24) hx hb dX4_readDigit_24 ?_
    obtain ⟨uq_2, huq_2, hF⟩ := Option.bind_eq_some_iff.mp hF
    refine cl_X4_note (pc := 25) hx hb hml hown hV hw huq_2 (gw_873 hV) hl.1 (Nat.le_of_ble_eq_true rfl) (Nat.le_of_ble_eq_true rfl) (Nat.le_of_ble_eq_true rfl) dX4_readDigit_25 (fun H locs hw => ?_)
    refine lv_aload_n (pc := 28) hx hb dX4_readDigit_28 rfl (lv_at hl 1 rfl) ?_
    refine lv_dup (pc := 29) hx hb dX4_readDigit_29 rfl ?_
    refine gg_X4_3 (pc := 30) hx hb hown hV hw (gw_214 hV) dX4_readDigit_30 ?_
    refine lv_iconst (pc := 33) (v := 1) hx hb dX4_readDigit_33 (by decide) ?_
    refine lv_iadd (pc := 34) hx hb dX4_readDigit_34 ?_
    refine gp_X4_3 (pc := 35) hx hb hown hV hw (gw_214 hV) dX4_readDigit_35 (fun H locs hw => ?_)
    refine lv_iconst (pc := 38) (v := 1) hx hb dX4_readDigit_38 (by decide) ?_
    cases hF
    exact gx_zret (r := gx_bi true) hx hb hr (gx_narb _) hlocks hw dX4_readDigit_39
  refine lv_iconst (pc := 17) (v := 0) hx hb dX4_readDigit_17 (by decide) ?_
  cases hF
  exact gx_zret (r := gx_bi false) hx hb hr (gx_narb _) hlocks hw dX4_readDigit_18
set_option maxRecDepth 100000 in
theorem cl_X4_readDigit {l : Launch} {G : gx_G} {M : gx_S} {o : Int64} {d : UInt64} {I V : gx_F} {p : Program} {e : Env} {R : Room} {s : State} {m : MethodId} {args : Array Value} {below : List Frame} {meth : Method} {c : Code} {H : Heap} {locs : List Loc} {cells slots : Nat} {Q : State → Prop} {cc : ByteArray} {pc nL index : Nat} {ls : Array Slot} {rest : List Value} {own : String} {x1 : Int32} {out : (Bool × gx_F × gx_F)} (hx : p.tables.exec = Jvm.exec) (hb : c.code = cc) (hml : c.maxLocals = nL) (hown : s.vm.findClass own = some m.cls) (hV : gx_V G s) (hw : gx_at G (I, V) M o d s.heap H locs) (hF : f_X4_readDigit x1 I V = some out) (hlink : (Cond.methodLink own index yX4_readDigit).before args s = true) (hsz : ls.size = nL) (hfr : 2 ≤ R.frames) (hlo : 45 ≤ R.locals) (hrest : (rest.map fun v => v.category).sum ≤ 8) (hdg : decode cc pc = .ok (.invokevirtual index, 3))
    (kk : ∀ (H1 : Heap) (locs1 : List Loc), gx_at G (out.2.1, out.2.2) M o d s.heap H1 locs1 → W p l e R s m args below meth c H1 locs1 cells slots Q (F0 m (pc + 3) ls (.int (gx_bi out.1) :: rest))) (hc : cells ≤ R.cells := by exact Nat.zero_le _) (hs : slots ≤ R.slots := by exact Nat.zero_le _) : W p l e R s m args below meth c H locs cells slots Q (F0 m pc ls (.int x1 :: .ref (G.2.1 54) :: rest)) :=
  gx_runi hw (va_runV (C := RX4) (As := [.int x1]) (rest := rest) ⟨hx, hb, hml, hown, (fun _ h => nomatch h : ∀ w ∈ ([] : List Cond), w.before args s = true)⟩ (k_X4_readDigit hF) ⟨gx_callB (n := 1) rfl rfl hlink (gw_55 hV) (gw_872 hV) (by decide +kernel) ⟨hfr, hlo⟩, gw_871 hV, gw_11 hV⟩ (gx_recv (k := 54) (ci := 6) (T := TX4) hV hw (by decide) rfl rfl) rfl rfl hsz rfl (lv_room hrest) hdg ⟨hc, hs⟩) kk
set_option maxHeartbeats 4000000 in
set_option maxRecDepth 100000 in
theorem k_X4_readDigits {l : Launch} {G : gx_G} {M : gx_S} {o : Int64} {d : UInt64} {I V : gx_F} {x1 : Int32} {out : (Bool × gx_F × gx_F)} (hF : f_X4_readDigits x1 I V = some out) : gx_K l yX4_readDigits cX4_readDigits 3 (some .boolean) { frames := 2, cells := 0, slots := 0, locals := 45 } [.ref (G.2.1 54), .int x1] G (I, V) M o d (gx_Qi G (gx_bi out.1) (out.2.1, out.2.2) M o d) 0 0 := by
  refine gx_begin (by decide +kernel) (Nat.le_of_ble_eq_true rfl) ?_
  intro p e s m below meth c hx hb hr hml hown hlocks hV hw ls hl
  have hown : s.vm.findClass RX4 = some m.cls := hown
  have hl : lv_has ls 3 [(0, .ref (G.2.1 54)), (1, .int x1)] := hl
  unfold f_X4_readDigits at hF
  refine lv_iconst (pc := 0) (v := 0) hx hb dX4_readDigits_0 (by decide) ?_
  refine lv_istore_n (pc := 1) (lv' := [(2, .int 0), (0, .ref (G.2.1 54)), (1, .int x1)]) hx hb dX4_readDigits_1 rfl hl (by decide) rfl (fun ls hl => ?_)
  have L1 : ∀ (n : Nat) (K1 : Int32 → gx_F → gx_F → Option (Bool × gx_F × gx_F)) (uv_1 : Int32) (uI_2 : gx_F) (uV_3 : gx_F) (H : Heap) (locs : List Loc) (ls : Array Slot), lv_has ls 3 [(2, .int uv_1), (0, .ref (G.2.1 54)), (1, .int x1)] → gx_at G (uI_2, uV_3) M o d s.heap H locs → f_X4_readDigits_L1 x1 K1 n uv_1 uI_2 uV_3 = some out → (∀ (uv_1 : Int32) (uI_2 : gx_F) (uV_3 : gx_F) (H : Heap) (locs : List Loc) (ls : Array Slot), lv_has ls 3 [(2, .int uv_1), (0, .ref (G.2.1 54)), (1, .int x1)] → gx_at G (uI_2, uV_3) M o d s.heap H locs → K1 uv_1 uI_2 uV_3 = some out → W p l e ({ frames := 2, cells := 0, slots := 0, locals := 45 } : Room) s m ([.ref (G.2.1 54), .int x1] : List Value).toArray below meth c H locs 0 0 (MQ below (gx_Qi G (gx_bi out.1) (out.2.1, out.2.2) M o d) ([.ref (G.2.1 54), .int x1] : List Value).toArray s 0 0 (gx_A G)) (F0 m 23 ls [])) → W p l e ({ frames := 2, cells := 0, slots := 0, locals := 45 } : Room) s m ([.ref (G.2.1 54), .int x1] : List Value).toArray below meth c H locs 0 0 (MQ below (gx_Qi G (gx_bi out.1) (out.2.1, out.2.2) M o d) ([.ref (G.2.1 54), .int x1] : List Value).toArray s 0 0 (gx_A G)) (F0 m 2 ls []) := by
    intro n
    induction n with
    | zero =>
      intro K1 uv_1 uI_2 uV_3 H locs ls hl hw hF hK
      rw [f_X4_readDigits_L1] at hF
      cases hF
    | succ n ih1 =>
      intro K1 uv_1 uI_2 uV_3 H locs ls hl hw hF hK1
      rw [f_X4_readDigits_L1] at hF
      refine lv_iload_n (pc := 2) hx hb dX4_readDigits_2 rfl (lv_at hl 0 rfl) ?_
      refine lv_iload_n (pc := 3) hx hb dX4_readDigits_3 rfl (lv_at hl 2 rfl) ?_
      refine gx_icmp_ge (pc := 4) (tgt := 23) hx hb hF dX4_readDigits_4 (by decide) (fun hF => ?_) (fun hF => ?_)
      · exact hK1 _ _ _ _ _ _ (lv_sub hl [0, 1, 2] rfl) hw hF
      refine lv_aload_n (pc := 7) hx hb dX4_readDigits_7 rfl (lv_at hl 1 rfl) ?_
      refine lv_iload_n (pc := 8) hx hb dX4_readDigits_8 rfl (lv_at hl 0 rfl) ?_
      obtain ⟨uq_4, huq_4, hF⟩ := Option.bind_eq_some_iff.mp hF
      refine cl_X4_readDigit (pc := 9) hx hb hml hown hV hw huq_4 (gw_869 hV) hl.1 (Nat.le_of_ble_eq_true rfl) (Nat.le_of_ble_eq_true rfl) (Nat.le_of_ble_eq_true rfl) dX4_readDigits_9 (fun H locs hw => ?_)
      refine gx_if_ne (pc := 12) (tgt := 17) hx hb hF dX4_readDigits_12 (by decide) (fun hF => ?_) (fun hF => ?_)
      · refine lv_iinc (pc := 17) (v := (uv_1 + 1)) (lv' := [(2, .int (uv_1 + 1)), (0, .ref (G.2.1 54)), (1, .int x1)]) hx hb dX4_readDigits_17 hl (k := 0) rfl rfl (by decide) rfl (fun ls hl => ?_)
        refine lv_goto (pc := 20) (tgt := 2) hx hb dX4_readDigits_20 (by decide) ?_
        exact ih1 _ _ _ _ _ _ _ (lv_sub hl [0, 1, 2] rfl) hw hF hK1
      refine lv_iconst (pc := 15) (v := 0) hx hb dX4_readDigits_15 (by decide) ?_
      cases hF
      exact gx_zret (r := gx_bi false) hx hb hr (gx_narb _) hlocks hw dX4_readDigits_16
  refine L1 1000 _ _ _ _ _ _ _ hl hw hF (fun uv_5 uI_6 uV_7 H locs ls hl hw hF => ?_)
  refine lv_iconst (pc := 23) (v := 1) hx hb dX4_readDigits_23 (by decide) ?_
  cases hF
  exact gx_zret (r := gx_bi true) hx hb hr (gx_narb _) hlocks hw dX4_readDigits_24
set_option maxRecDepth 100000 in
theorem cl_X4_readDigits {l : Launch} {G : gx_G} {M : gx_S} {o : Int64} {d : UInt64} {I V : gx_F} {p : Program} {e : Env} {R : Room} {s : State} {m : MethodId} {args : Array Value} {below : List Frame} {meth : Method} {c : Code} {H : Heap} {locs : List Loc} {cells slots : Nat} {Q : State → Prop} {cc : ByteArray} {pc nL index : Nat} {ls : Array Slot} {rest : List Value} {own : String} {x1 : Int32} {out : (Bool × gx_F × gx_F)} (hx : p.tables.exec = Jvm.exec) (hb : c.code = cc) (hml : c.maxLocals = nL) (hown : s.vm.findClass own = some m.cls) (hV : gx_V G s) (hw : gx_at G (I, V) M o d s.heap H locs) (hF : f_X4_readDigits x1 I V = some out) (hlink : (Cond.methodLink own index yX4_readDigits).before args s = true) (hsz : ls.size = nL) (hfr : 3 ≤ R.frames) (hlo : 67 ≤ R.locals) (hrest : (rest.map fun v => v.category).sum ≤ 8) (hdg : decode cc pc = .ok (.invokevirtual index, 3))
    (kk : ∀ (H1 : Heap) (locs1 : List Loc), gx_at G (out.2.1, out.2.2) M o d s.heap H1 locs1 → W p l e R s m args below meth c H1 locs1 cells slots Q (F0 m (pc + 3) ls (.int (gx_bi out.1) :: rest))) (hc : cells ≤ R.cells := by exact Nat.zero_le _) (hs : slots ≤ R.slots := by exact Nat.zero_le _) : W p l e R s m args below meth c H locs cells slots Q (F0 m pc ls (.int x1 :: .ref (G.2.1 54) :: rest)) :=
  gx_runi hw (va_runV (C := RX4) (As := [.int x1]) (rest := rest) ⟨hx, hb, hml, hown, (fun _ h => nomatch h : ∀ w ∈ ([] : List Cond), w.before args s = true)⟩ (k_X4_readDigits hF) ⟨gx_callB (n := 1) rfl rfl hlink (gw_55 hV) (gw_868 hV) (by decide +kernel) ⟨hfr, hlo⟩, gw_867 hV, gw_10 hV⟩ (gx_recv (k := 54) (ci := 6) (T := TX4) hV hw (by decide) rfl rfl) rfl rfl hsz rfl (lv_room hrest) hdg ⟨hc, hs⟩) kk
set_option maxHeartbeats 4000000 in
set_option maxRecDepth 100000 in
theorem k_X4_readNumber {l : Launch} {G : gx_G} {M : gx_S} {o : Int64} {d : UInt64} {I V : gx_F} {x1 : Int32} {out : (Bool × gx_F × gx_F)} (hF : f_X4_readNumber x1 I V = some out) : gx_K l yX4_readNumber cX4_readNumber 3 (some .boolean) { frames := 2, cells := 0, slots := 0, locals := 45 } [.ref (G.2.1 54), .int x1] G (I, V) M o d (gx_Qi G (gx_bi out.1) (out.2.1, out.2.2) M o d) 0 0 := by
  refine gx_begin (by decide +kernel) (Nat.le_of_ble_eq_true rfl) ?_
  intro p e s m below meth c hx hb hr hml hown hlocks hV hw ls hl
  have hown : s.vm.findClass RX4 = some m.cls := hown
  have hl : lv_has ls 3 [(0, .ref (G.2.1 54)), (1, .int x1)] := hl
  unfold f_X4_readNumber at hF
  refine lv_aload_n (pc := 0) hx hb dX4_readNumber_0 rfl (lv_at hl 0 rfl) ?_
  refine lv_iload_n (pc := 1) hx hb dX4_readNumber_1 rfl (lv_at hl 1 rfl) ?_
  obtain ⟨uq_1, huq_1, hF⟩ := Option.bind_eq_some_iff.mp hF
  refine cl_X4_readDigit (pc := 2) hx hb hml hown hV hw huq_1 (gw_869 hV) hl.1 (Nat.le_of_ble_eq_true rfl) (Nat.le_of_ble_eq_true rfl) (Nat.le_of_ble_eq_true rfl) dX4_readNumber_2 (fun H locs hw => ?_)
  refine gx_if_ne (pc := 5) (tgt := 10) hx hb hF dX4_readNumber_5 (by decide) (fun hF => ?_) (fun hF => ?_)
  · refine lv_aload_n (pc := 10) hx hb dX4_readNumber_10 rfl (lv_at hl 0 rfl) ?_
    refine lv_aload_n (pc := 11) hx hb dX4_readNumber_11 rfl (lv_at hl 0 rfl) ?_
    refine gg_X4_5 (pc := 12) hx hb hown hV hw (gw_217 hV) dX4_readNumber_12 ?_
    refine lv_iload_n (pc := 15) hx hb dX4_readNumber_15 rfl (lv_at hl 1 rfl) ?_
    obtain ⟨uq_2, huq_2, hF⟩ := Option.bind_eq_some_iff.mp hF
    refine cl_X4_numberOf (pc := 16) hx hb hml hown hV hw huq_2 (gw_885 hV) hl.1 (Nat.le_of_ble_eq_true rfl) (Nat.le_of_ble_eq_true rfl) (Nat.le_of_ble_eq_true rfl) dX4_readNumber_16 (fun H locs hw => ?_)
    refine lv_istore_n (pc := 19) (lv' := [(2, .int uq_2), (0, .ref (G.2.1 54)), (1, .int x1)]) hx hb dX4_readNumber_19 rfl hl (by decide) rfl (fun ls hl => ?_)
    refine lv_aload_n (pc := 20) hx hb dX4_readNumber_20 rfl (lv_at hl 1 rfl) ?_
    refine lv_iload_n (pc := 21) hx hb dX4_readNumber_21 rfl (lv_at hl 2 rfl) ?_
    obtain ⟨uq_3, huq_3, hF⟩ := Option.bind_eq_some_iff.mp hF
    refine cl_X4_readDigit (pc := 22) hx hb hml hown hV hw huq_3 (gw_869 hV) hl.1 (Nat.le_of_ble_eq_true rfl) (Nat.le_of_ble_eq_true rfl) (Nat.le_of_ble_eq_true rfl) dX4_readNumber_22 (fun H locs hw => ?_)
    refine gx_if_eq (pc := 25) (tgt := 47) hx hb hF dX4_readNumber_25 (by decide) (fun hF => ?_) (fun hF => ?_)
    · refine lv_iconst (pc := 47) (v := 1) hx hb dX4_readNumber_47 (by decide) ?_
      cases hF
      exact gx_zret (r := gx_bi true) hx hb hr (gx_narb _) hlocks hw dX4_readNumber_48
    refine lv_aload_n (pc := 28) hx hb dX4_readNumber_28 rfl (lv_at hl 1 rfl) ?_
    refine lv_iload_n (pc := 29) hx hb dX4_readNumber_29 rfl (lv_at hl 2 rfl) ?_
    refine lv_bipush (pc := 30) (v := 10) hx hb dX4_readNumber_30 (by decide) ?_
    refine lv_iload_n (pc := 32) hx hb dX4_readNumber_32 rfl (lv_at hl 0 rfl) ?_
    refine lv_imul (pc := 33) hx hb dX4_readNumber_33 ?_
    refine lv_aload_n (pc := 34) hx hb dX4_readNumber_34 rfl (lv_at hl 1 rfl) ?_
    refine lv_aload_n (pc := 35) hx hb dX4_readNumber_35 rfl (lv_at hl 1 rfl) ?_
    refine gg_X4_5 (pc := 36) hx hb hown hV hw (gw_217 hV) dX4_readNumber_36 ?_
    refine lv_iload_n (pc := 39) hx hb dX4_readNumber_39 rfl (lv_at hl 2 rfl) ?_
    obtain ⟨uq_4, huq_4, hF⟩ := Option.bind_eq_some_iff.mp hF
    refine cl_X4_numberOf (pc := 40) hx hb hml hown hV hw huq_4 (gw_885 hV) hl.1 (Nat.le_of_ble_eq_true rfl) (Nat.le_of_ble_eq_true rfl) (Nat.le_of_ble_eq_true rfl) dX4_readNumber_40 (fun H locs hw => ?_)
    refine lv_iadd (pc := 43) hx hb dX4_readNumber_43 ?_
    obtain ⟨uq_5, huq_5, hF⟩ := Option.bind_eq_some_iff.mp hF
    refine cl_X4_note (pc := 44) hx hb hml hown hV hw huq_5 (gw_873 hV) hl.1 (Nat.le_of_ble_eq_true rfl) (Nat.le_of_ble_eq_true rfl) (Nat.le_of_ble_eq_true rfl) dX4_readNumber_44 (fun H locs hw => ?_)
    refine lv_iconst (pc := 47) (v := 1) hx hb dX4_readNumber_47 (by decide) ?_
    cases hF
    exact gx_zret (r := gx_bi true) hx hb hr (gx_narb _) hlocks hw dX4_readNumber_48
  refine lv_iconst (pc := 8) (v := 0) hx hb dX4_readNumber_8 (by decide) ?_
  cases hF
  exact gx_zret (r := gx_bi false) hx hb hr (gx_narb _) hlocks hw dX4_readNumber_9
set_option maxRecDepth 100000 in
theorem cl_X4_readNumber {l : Launch} {G : gx_G} {M : gx_S} {o : Int64} {d : UInt64} {I V : gx_F} {p : Program} {e : Env} {R : Room} {s : State} {m : MethodId} {args : Array Value} {below : List Frame} {meth : Method} {c : Code} {H : Heap} {locs : List Loc} {cells slots : Nat} {Q : State → Prop} {cc : ByteArray} {pc nL index : Nat} {ls : Array Slot} {rest : List Value} {own : String} {x1 : Int32} {out : (Bool × gx_F × gx_F)} (hx : p.tables.exec = Jvm.exec) (hb : c.code = cc) (hml : c.maxLocals = nL) (hown : s.vm.findClass own = some m.cls) (hV : gx_V G s) (hw : gx_at G (I, V) M o d s.heap H locs) (hF : f_X4_readNumber x1 I V = some out) (hlink : (Cond.methodLink own index yX4_readNumber).before args s = true) (hsz : ls.size = nL) (hfr : 3 ≤ R.frames) (hlo : 67 ≤ R.locals) (hrest : (rest.map fun v => v.category).sum ≤ 8) (hdg : decode cc pc = .ok (.invokevirtual index, 3))
    (kk : ∀ (H1 : Heap) (locs1 : List Loc), gx_at G (out.2.1, out.2.2) M o d s.heap H1 locs1 → W p l e R s m args below meth c H1 locs1 cells slots Q (F0 m (pc + 3) ls (.int (gx_bi out.1) :: rest))) (hc : cells ≤ R.cells := by exact Nat.zero_le _) (hs : slots ≤ R.slots := by exact Nat.zero_le _) : W p l e R s m args below meth c H locs cells slots Q (F0 m pc ls (.int x1 :: .ref (G.2.1 54) :: rest)) :=
  gx_runi hw (va_runV (C := RX4) (As := [.int x1]) (rest := rest) ⟨hx, hb, hml, hown, (fun _ h => nomatch h : ∀ w ∈ ([] : List Cond), w.before args s = true)⟩ (k_X4_readNumber hF) ⟨gx_callB (n := 1) rfl rfl hlink (gw_55 hV) (gw_884 hV) (by decide +kernel) ⟨hfr, hlo⟩, gw_883 hV, gw_14 hV⟩ (gx_recv (k := 54) (ci := 6) (T := TX4) hV hw (by decide) rfl rfl) rfl rfl hsz rfl (lv_room hrest) hdg ⟨hc, hs⟩) kk
set_option maxHeartbeats 4000000 in
set_option maxRecDepth 100000 in
theorem k_X4_skip {l : Launch} {G : gx_G} {M : gx_S} {o : Int64} {d : UInt64} {I V : gx_F} {x1 : Int32} {out : (Bool × gx_F × gx_F)} (hF : f_X4_skip x1 I V = some out) : gx_K l yX4_skip cX4_skip 2 (some .boolean) { frames := 1, cells := 0, slots := 0, locals := 20 } [.ref (G.2.1 54), .int x1] G (I, V) M o d (gx_Qi G (gx_bi out.1) (out.2.1, out.2.2) M o d) 0 0 := by
  refine gx_begin (by decide +kernel) (Nat.le_of_ble_eq_true rfl) ?_
  intro p e s m below meth c hx hb hr hml hown hlocks hV hw ls hl
  have hown : s.vm.findClass RX4 = some m.cls := hown
  have hl : lv_has ls 2 [(0, .ref (G.2.1 54)), (1, .int x1)] := hl
  unfold f_X4_skip at hF
  refine lv_aload_n (pc := 0) hx hb dX4_skip_0 rfl (lv_at hl 0 rfl) ?_
  obtain ⟨uq_1, huq_1, hF⟩ := Option.bind_eq_some_iff.mp hF
  refine cl_X4_here (pc := 1) hx hb hml hown hV hw huq_1 (gw_861 hV) hl.1 (Nat.le_of_ble_eq_true rfl) (Nat.le_of_ble_eq_true rfl) (Nat.le_of_ble_eq_true rfl) dX4_skip_1 (fun H locs hw => ?_)
  refine lv_iload_n (pc := 4) hx hb dX4_skip_4 rfl (lv_at hl 1 rfl) ?_
  refine gx_icmp_eq (pc := 5) (tgt := 10) hx hb hF dX4_skip_5 (by decide) (fun hF => ?_) (fun hF => ?_)
  · refine lv_aload_n (pc := 10) hx hb dX4_skip_10 rfl (lv_at hl 0 rfl) ?_
    refine lv_dup (pc := 11) hx hb dX4_skip_11 rfl ?_
    refine gg_X4_3 (pc := 12) hx hb hown hV hw (gw_214 hV) dX4_skip_12 ?_
    refine lv_iconst (pc := 15) (v := 1) hx hb dX4_skip_15 (by decide) ?_
    refine lv_iadd (pc := 16) hx hb dX4_skip_16 ?_
    refine gp_X4_3 (pc := 17) hx hb hown hV hw (gw_214 hV) dX4_skip_17 (fun H locs hw => ?_)
    refine lv_iconst (pc := 20) (v := 1) hx hb dX4_skip_20 (by decide) ?_
    cases hF
    exact gx_zret (r := gx_bi true) hx hb hr (gx_narb _) hlocks hw dX4_skip_21
  refine lv_iconst (pc := 8) (v := 0) hx hb dX4_skip_8 (by decide) ?_
  cases hF
  exact gx_zret (r := gx_bi false) hx hb hr (gx_narb _) hlocks hw dX4_skip_9
set_option maxRecDepth 100000 in
theorem cl_X4_skip {l : Launch} {G : gx_G} {M : gx_S} {o : Int64} {d : UInt64} {I V : gx_F} {p : Program} {e : Env} {R : Room} {s : State} {m : MethodId} {args : Array Value} {below : List Frame} {meth : Method} {c : Code} {H : Heap} {locs : List Loc} {cells slots : Nat} {Q : State → Prop} {cc : ByteArray} {pc nL index : Nat} {ls : Array Slot} {rest : List Value} {own : String} {x1 : Int32} {out : (Bool × gx_F × gx_F)} (hx : p.tables.exec = Jvm.exec) (hb : c.code = cc) (hml : c.maxLocals = nL) (hown : s.vm.findClass own = some m.cls) (hV : gx_V G s) (hw : gx_at G (I, V) M o d s.heap H locs) (hF : f_X4_skip x1 I V = some out) (hlink : (Cond.methodLink own index yX4_skip).before args s = true) (hsz : ls.size = nL) (hfr : 2 ≤ R.frames) (hlo : 41 ≤ R.locals) (hrest : (rest.map fun v => v.category).sum ≤ 8) (hdg : decode cc pc = .ok (.invokevirtual index, 3))
    (kk : ∀ (H1 : Heap) (locs1 : List Loc), gx_at G (out.2.1, out.2.2) M o d s.heap H1 locs1 → W p l e R s m args below meth c H1 locs1 cells slots Q (F0 m (pc + 3) ls (.int (gx_bi out.1) :: rest))) (hc : cells ≤ R.cells := by exact Nat.zero_le _) (hs : slots ≤ R.slots := by exact Nat.zero_le _) : W p l e R s m args below meth c H locs cells slots Q (F0 m pc ls (.int x1 :: .ref (G.2.1 54) :: rest)) :=
  gx_runi hw (va_runV (C := RX4) (As := [.int x1]) (rest := rest) ⟨hx, hb, hml, hown, (fun _ h => nomatch h : ∀ w ∈ ([] : List Cond), w.before args s = true)⟩ (k_X4_skip hF) ⟨gx_callB (n := 1) rfl rfl hlink (gw_55 hV) (gw_892 hV) (by decide +kernel) ⟨hfr, hlo⟩, gw_891 hV, gw_15 hV⟩ (gx_recv (k := 54) (ci := 6) (T := TX4) hV hw (by decide) rfl rfl) rfl rfl hsz rfl (lv_room hrest) hdg ⟨hc, hs⟩) kk
set_option maxHeartbeats 4000000 in
set_option maxRecDepth 100000 in
theorem k_X4_readPlaceAndBrick {l : Launch} {G : gx_G} {M : gx_S} {o : Int64} {d : UInt64} {I V : gx_F} {out : (Bool × gx_F × gx_F)} (hF : f_X4_readPlaceAndBrick I V = some out) : gx_K l yX4_readPlaceAndBrick cX4_readPlaceAndBrick 2 (some .boolean) { frames := 3, cells := 0, slots := 0, locals := 67 } [.ref (G.2.1 54)] G (I, V) M o d (gx_Qi G (gx_bi out.1) (out.2.1, out.2.2) M o d) 0 0 := by
  refine gx_begin (by decide +kernel) (Nat.le_of_ble_eq_true rfl) ?_
  intro p e s m below meth c hx hb hr hml hown hlocks hV hw ls hl
  have hown : s.vm.findClass RX4 = some m.cls := hown
  have hl : lv_has ls 2 [(0, .ref (G.2.1 54))] := hl
  unfold f_X4_readPlaceAndBrick at hF
  refine lv_aload_n (pc := 0) hx hb dX4_readPlaceAndBrick_0 rfl (lv_at hl 0 rfl) ?_
  refine lv_iconst (pc := 1) (v := 0) hx hb dX4_readPlaceAndBrick_1 (by decide) ?_
  obtain ⟨uq_1, huq_1, hF⟩ := Option.bind_eq_some_iff.mp hF
  refine cl_X4_readNumber (pc := 2) hx hb hml hown hV hw huq_1 (gw_881 hV) hl.1 (Nat.le_of_ble_eq_true rfl) (Nat.le_of_ble_eq_true rfl) (Nat.le_of_ble_eq_true rfl) dX4_readPlaceAndBrick_2 (fun H locs hw => ?_)
  refine gx_if_eq (pc := 5) (tgt := 25) hx hb hF dX4_readPlaceAndBrick_5 (by decide) (fun hF => ?_) (fun hF => ?_)
  · refine lv_iconst (pc := 25) (v := 0) hx hb dX4_readPlaceAndBrick_25 (by decide) ?_
    cases hF
    exact gx_zret (r := gx_bi false) hx hb hr (gx_narb _) hlocks hw dX4_readPlaceAndBrick_26
  refine lv_aload_n (pc := 8) hx hb dX4_readPlaceAndBrick_8 rfl (lv_at hl 0 rfl) ?_
  refine lv_bipush (pc := 9) (v := 58) hx hb dX4_readPlaceAndBrick_9 (by decide) ?_
  obtain ⟨uq_2, huq_2, hF⟩ := Option.bind_eq_some_iff.mp hF
  refine cl_X4_skip (pc := 11) hx hb hml hown hV hw huq_2 (gw_889 hV) hl.1 (Nat.le_of_ble_eq_true rfl) (Nat.le_of_ble_eq_true rfl) (Nat.le_of_ble_eq_true rfl) dX4_readPlaceAndBrick_11 (fun H locs hw => ?_)
  refine gx_if_eq (pc := 14) (tgt := 25) hx hb hF dX4_readPlaceAndBrick_14 (by decide) (fun hF => ?_) (fun hF => ?_)
  · refine lv_iconst (pc := 25) (v := 0) hx hb dX4_readPlaceAndBrick_25 (by decide) ?_
    cases hF
    exact gx_zret (r := gx_bi false) hx hb hr (gx_narb _) hlocks hw dX4_readPlaceAndBrick_26
  refine lv_aload_n (pc := 17) hx hb dX4_readPlaceAndBrick_17 rfl (lv_at hl 0 rfl) ?_
  refine lv_iconst (pc := 18) (v := 1) hx hb dX4_readPlaceAndBrick_18 (by decide) ?_
  obtain ⟨uq_3, huq_3, hF⟩ := Option.bind_eq_some_iff.mp hF
  refine cl_X4_readDigit (pc := 19) hx hb hml hown hV hw huq_3 (gw_869 hV) hl.1 (Nat.le_of_ble_eq_true rfl) (Nat.le_of_ble_eq_true rfl) (Nat.le_of_ble_eq_true rfl) dX4_readPlaceAndBrick_19 (fun H locs hw => ?_)
  refine gx_if_ne (pc := 22) (tgt := 27) hx hb hF dX4_readPlaceAndBrick_22 (by decide) (fun hF => ?_) (fun hF => ?_)
  · refine lv_iconst (pc := 27) (v := 0) hx hb dX4_readPlaceAndBrick_27 (by decide) ?_
    refine lv_istore_n (pc := 28) (lv' := [(1, .int 0), (0, .ref (G.2.1 54))]) hx hb dX4_readPlaceAndBrick_28 rfl hl (by decide) rfl (fun ls hl => ?_)
    have L1 : ∀ (n : Nat) (K1 : Int32 → gx_F → gx_F → Option (Bool × gx_F × gx_F)) (uv_4 : Int32) (uI_5 : gx_F) (uV_6 : gx_F) (H : Heap) (locs : List Loc) (ls : Array Slot), lv_has ls 2 [(1, .int uv_4), (0, .ref (G.2.1 54))] → gx_at G (uI_5, uV_6) M o d s.heap H locs → f_X4_readPlaceAndBrick_L1 K1 n uv_4 uI_5 uV_6 = some out → (∀ (uv_4 : Int32) (uI_5 : gx_F) (uV_6 : gx_F) (H : Heap) (locs : List Loc) (ls : Array Slot), lv_has ls 2 [(1, .int uv_4), (0, .ref (G.2.1 54))] → gx_at G (uI_5, uV_6) M o d s.heap H locs → K1 uv_4 uI_5 uV_6 = some out → W p l e ({ frames := 3, cells := 0, slots := 0, locals := 67 } : Room) s m ([.ref (G.2.1 54)] : List Value).toArray below meth c H locs 0 0 (MQ below (gx_Qi G (gx_bi out.1) (out.2.1, out.2.2) M o d) ([.ref (G.2.1 54)] : List Value).toArray s 0 0 (gx_A G)) (F0 m 49 ls [])) → W p l e ({ frames := 3, cells := 0, slots := 0, locals := 67 } : Room) s m ([.ref (G.2.1 54)] : List Value).toArray below meth c H locs 0 0 (MQ below (gx_Qi G (gx_bi out.1) (out.2.1, out.2.2) M o d) ([.ref (G.2.1 54)] : List Value).toArray s 0 0 (gx_A G)) (F0 m 29 ls []) := by
      intro n
      induction n with
      | zero =>
        intro K1 uv_4 uI_5 uV_6 H locs ls hl hw hF hK
        rw [f_X4_readPlaceAndBrick_L1] at hF
        cases hF
      | succ n ih1 =>
        intro K1 uv_4 uI_5 uV_6 H locs ls hl hw hF hK1
        rw [f_X4_readPlaceAndBrick_L1] at hF
        refine lv_iload_n (pc := 29) hx hb dX4_readPlaceAndBrick_29 rfl (lv_at hl 0 rfl) ?_
        refine lv_iconst (pc := 30) (v := 3) hx hb dX4_readPlaceAndBrick_30 (by decide) ?_
        refine gx_icmp_ge (pc := 31) (tgt := 49) hx hb hF dX4_readPlaceAndBrick_31 (by decide) (fun hF => ?_) (fun hF => ?_)
        · exact hK1 _ _ _ _ _ _ (lv_sub hl [0, 1] rfl) hw hF
        refine lv_aload_n (pc := 34) hx hb dX4_readPlaceAndBrick_34 rfl (lv_at hl 1 rfl) ?_
        refine lv_bipush (pc := 35) (v := 42) hx hb dX4_readPlaceAndBrick_35 (by decide) ?_
        obtain ⟨uq_7, huq_7, hF⟩ := Option.bind_eq_some_iff.mp hF
        refine cl_X4_skip (pc := 37) hx hb hml hown hV hw huq_7 (gw_889 hV) hl.1 (Nat.le_of_ble_eq_true rfl) (Nat.le_of_ble_eq_true rfl) (Nat.le_of_ble_eq_true rfl) dX4_readPlaceAndBrick_37 (fun H locs hw => ?_)
        refine gx_if_eq (pc := 40) (tgt := 49) hx hb hF dX4_readPlaceAndBrick_40 (by decide) (fun hF => ?_) (fun hF => ?_)
        · exact hK1 _ _ _ _ _ _ (lv_sub hl [0, 1] rfl) hw hF
        refine lv_iinc (pc := 43) (v := (uv_4 + 1)) (lv' := [(1, .int (uv_4 + 1)), (0, .ref (G.2.1 54))]) hx hb dX4_readPlaceAndBrick_43 hl (k := 0) rfl rfl (by decide) rfl (fun ls hl => ?_)
        refine lv_goto (pc := 46) (tgt := 29) hx hb dX4_readPlaceAndBrick_46 (by decide) ?_
        exact ih1 _ _ _ _ _ _ _ (lv_sub hl [0, 1] rfl) hw hF hK1
    refine L1 1000 _ _ _ _ _ _ _ hl hw hF (fun uv_8 uI_9 uV_10 H locs ls hl hw hF => ?_)
    refine lv_aload_n (pc := 49) hx hb dX4_readPlaceAndBrick_49 rfl (lv_at hl 1 rfl) ?_
    refine lv_iconst (pc := 50) (v := 2) hx hb dX4_readPlaceAndBrick_50 (by decide) ?_
    refine lv_iload_n (pc := 51) hx hb dX4_readPlaceAndBrick_51 rfl (lv_at hl 0 rfl) ?_
    obtain ⟨uq_11, huq_11, hF⟩ := Option.bind_eq_some_iff.mp hF
    refine cl_X4_note (pc := 52) hx hb hml hown hV hw huq_11 (gw_873 hV) hl.1 (Nat.le_of_ble_eq_true rfl) (Nat.le_of_ble_eq_true rfl) (Nat.le_of_ble_eq_true rfl) dX4_readPlaceAndBrick_52 (fun H locs hw => ?_)
    refine lv_iconst (pc := 55) (v := 1) hx hb dX4_readPlaceAndBrick_55 (by decide) ?_
    cases hF
    exact gx_zret (r := gx_bi true) hx hb hr (gx_narb _) hlocks hw dX4_readPlaceAndBrick_56
  refine lv_iconst (pc := 25) (v := 0) hx hb dX4_readPlaceAndBrick_25 (by decide) ?_
  cases hF
  exact gx_zret (r := gx_bi false) hx hb hr (gx_narb _) hlocks hw dX4_readPlaceAndBrick_26
set_option maxRecDepth 100000 in
theorem cl_X4_readPlaceAndBrick {l : Launch} {G : gx_G} {M : gx_S} {o : Int64} {d : UInt64} {I V : gx_F} {p : Program} {e : Env} {R : Room} {s : State} {m : MethodId} {args : Array Value} {below : List Frame} {meth : Method} {c : Code} {H : Heap} {locs : List Loc} {cells slots : Nat} {Q : State → Prop} {cc : ByteArray} {pc nL index : Nat} {ls : Array Slot} {rest : List Value} {own : String} {out : (Bool × gx_F × gx_F)} (hx : p.tables.exec = Jvm.exec) (hb : c.code = cc) (hml : c.maxLocals = nL) (hown : s.vm.findClass own = some m.cls) (hV : gx_V G s) (hw : gx_at G (I, V) M o d s.heap H locs) (hF : f_X4_readPlaceAndBrick I V = some out) (hlink : (Cond.methodLink own index yX4_readPlaceAndBrick).before args s = true) (hsz : ls.size = nL) (hfr : 4 ≤ R.frames) (hlo : 88 ≤ R.locals) (hrest : (rest.map fun v => v.category).sum ≤ 8) (hdg : decode cc pc = .ok (.invokevirtual index, 3))
    (kk : ∀ (H1 : Heap) (locs1 : List Loc), gx_at G (out.2.1, out.2.2) M o d s.heap H1 locs1 → W p l e R s m args below meth c H1 locs1 cells slots Q (F0 m (pc + 3) ls (.int (gx_bi out.1) :: rest))) (hc : cells ≤ R.cells := by exact Nat.zero_le _) (hs : slots ≤ R.slots := by exact Nat.zero_le _) : W p l e R s m args below meth c H locs cells slots Q (F0 m pc ls (.ref (G.2.1 54) :: rest)) :=
  gx_runi hw (va_runV (C := RX4) (As := []) (rest := rest) ⟨hx, hb, hml, hown, (fun _ h => nomatch h : ∀ w ∈ ([] : List Cond), w.before args s = true)⟩ (k_X4_readPlaceAndBrick hF) ⟨gx_callB (n := 0) rfl rfl hlink (gw_55 hV) (gw_880 hV) (by decide +kernel) ⟨hfr, hlo⟩, gw_879 hV, gw_13 hV⟩ (gx_recv (k := 54) (ci := 6) (T := TX4) hV hw (by decide) rfl rfl) rfl rfl hsz rfl (lv_room hrest) hdg ⟨hc, hs⟩) kk
set_option maxHeartbeats 4000000 in
set_option maxRecDepth 100000 in
theorem k_X4_readCommand {l : Launch} {G : gx_G} {M : gx_S} {o : Int64} {d : UInt64} {I V : gx_F} {out : (Bool × gx_F × gx_F)} (hF : f_X4_readCommand I V = some out) : gx_K l yX4_readCommand cX4_readCommand 2 (some .boolean) { frames := 4, cells := 0, slots := 0, locals := 88 } [.ref (G.2.1 54)] G (I, V) M o d (gx_Qi G (gx_bi out.1) (out.2.1, out.2.2) M o d) 0 0 := by
  refine gx_begin (by decide +kernel) (Nat.le_of_ble_eq_true rfl) ?_
  intro p e s m below meth c hx hb hr hml hown hlocks hV hw ls hl
  have hown : s.vm.findClass RX4 = some m.cls := hown
  have hl : lv_has ls 2 [(0, .ref (G.2.1 54))] := hl
  unfold f_X4_readCommand at hF
  refine lv_aload_n (pc := 0) hx hb dX4_readCommand_0 rfl (lv_at hl 0 rfl) ?_
  obtain ⟨uq_1, huq_1, hF⟩ := Option.bind_eq_some_iff.mp hF
  refine cl_X4_here (pc := 1) hx hb hml hown hV hw huq_1 (gw_861 hV) hl.1 (Nat.le_of_ble_eq_true rfl) (Nat.le_of_ble_eq_true rfl) (Nat.le_of_ble_eq_true rfl) dX4_readCommand_1 (fun H locs hw => ?_)
  refine lv_istore_n (pc := 4) (lv' := [(1, .int uq_1), (0, .ref (G.2.1 54))]) hx hb dX4_readCommand_4 rfl hl (by decide) rfl (fun ls hl => ?_)
  refine lv_aload_n (pc := 5) hx hb dX4_readCommand_5 rfl (lv_at hl 1 rfl) ?_
  refine gg_X4_1 (pc := 6) hx hb hown hV hw (gw_212 hV) dX4_readCommand_6 ?_
  refine lv_aload_n (pc := 9) hx hb dX4_readCommand_9 rfl (lv_at hl 1 rfl) ?_
  refine gg_X4_5 (pc := 10) hx hb hown hV hw (gw_217 hV) dX4_readCommand_10 ?_
  refine lv_iload_n (pc := 13) hx hb dX4_readCommand_13 rfl (lv_at hl 0 rfl) ?_
  refine ga_56_st (pc := 14) hx hb hV hw hF dX4_readCommand_14 (fun H locs hw hF => ?_)
  refine lv_iload_n (pc := 15) hx hb dX4_readCommand_15 rfl (lv_at hl 0 rfl) ?_
  by_cases hs103 : uq_1 = 103
  · rw [if_pos hs103] at hF
    refine lv_tableIn (pc := 16) (off := 103) (tgt := 119) hx hb dX4_readCommand_16 (by rw [hs103]; decide) (by rw [hs103]; decide) (by rw [hs103]; rfl) (by decide) ?_
    refine lv_aload_n (pc := 119) hx hb dX4_readCommand_119 rfl (lv_at hl 1 rfl) ?_
    refine lv_dup (pc := 120) hx hb dX4_readCommand_120 rfl ?_
    refine gg_X4_3 (pc := 121) hx hb hown hV hw (gw_214 hV) dX4_readCommand_121 ?_
    refine lv_iconst (pc := 124) (v := 1) hx hb dX4_readCommand_124 (by decide) ?_
    refine lv_iadd (pc := 125) hx hb dX4_readCommand_125 ?_
    refine gp_X4_3 (pc := 126) hx hb hown hV hw (gw_214 hV) dX4_readCommand_126 (fun H locs hw => ?_)
    refine lv_aload_n (pc := 129) hx hb dX4_readCommand_129 rfl (lv_at hl 1 rfl) ?_
    refine lv_iconst (pc := 130) (v := 0) hx hb dX4_readCommand_130 (by decide) ?_
    obtain ⟨uq_2, huq_2, hF⟩ := Option.bind_eq_some_iff.mp hF
    refine cl_X4_readNumber (pc := 131) hx hb hml hown hV hw huq_2 (gw_881 hV) hl.1 (Nat.le_of_ble_eq_true rfl) (Nat.le_of_ble_eq_true rfl) (Nat.le_of_ble_eq_true rfl) dX4_readCommand_131 (fun H locs hw => ?_)
    cases hF
    exact gx_zret hx hb hr (gx_narb _) hlocks hw dX4_readCommand_134
  rw [if_neg hs103] at hF
  by_cases hs107 : uq_1 = 107
  · rw [if_pos hs107] at hF
    refine lv_tableIn (pc := 16) (off := 72) (tgt := 88) hx hb dX4_readCommand_16 (by rw [hs107]; decide) (by rw [hs107]; decide) (by rw [hs107]; rfl) (by decide) ?_
    refine lv_aload_n (pc := 88) hx hb dX4_readCommand_88 rfl (lv_at hl 1 rfl) ?_
    refine lv_dup (pc := 89) hx hb dX4_readCommand_89 rfl ?_
    refine gg_X4_3 (pc := 90) hx hb hown hV hw (gw_214 hV) dX4_readCommand_90 ?_
    refine lv_iconst (pc := 93) (v := 1) hx hb dX4_readCommand_93 (by decide) ?_
    refine lv_iadd (pc := 94) hx hb dX4_readCommand_94 ?_
    refine gp_X4_3 (pc := 95) hx hb hown hV hw (gw_214 hV) dX4_readCommand_95 (fun H locs hw => ?_)
    refine lv_aload_n (pc := 98) hx hb dX4_readCommand_98 rfl (lv_at hl 1 rfl) ?_
    refine lv_iconst (pc := 99) (v := 4) hx hb dX4_readCommand_99 (by decide) ?_
    obtain ⟨uq_3, huq_3, hF⟩ := Option.bind_eq_some_iff.mp hF
    refine cl_X4_readDigits (pc := 100) hx hb hml hown hV hw huq_3 (gw_865 hV) hl.1 (Nat.le_of_ble_eq_true rfl) (Nat.le_of_ble_eq_true rfl) (Nat.le_of_ble_eq_true rfl) dX4_readCommand_100 (fun H locs hw => ?_)
    cases hF
    exact gx_zret hx hb hr (gx_narb _) hlocks hw dX4_readCommand_103
  rw [if_neg hs107] at hF
  by_cases hs108 : uq_1 = 108
  · rw [if_pos hs108] at hF
    refine lv_tableIn (pc := 16) (off := 88) (tgt := 104) hx hb dX4_readCommand_16 (by rw [hs108]; decide) (by rw [hs108]; decide) (by rw [hs108]; rfl) (by decide) ?_
    refine lv_aload_n (pc := 104) hx hb dX4_readCommand_104 rfl (lv_at hl 1 rfl) ?_
    refine lv_dup (pc := 105) hx hb dX4_readCommand_105 rfl ?_
    refine gg_X4_3 (pc := 106) hx hb hown hV hw (gw_214 hV) dX4_readCommand_106 ?_
    refine lv_iconst (pc := 109) (v := 1) hx hb dX4_readCommand_109 (by decide) ?_
    refine lv_iadd (pc := 110) hx hb dX4_readCommand_110 ?_
    refine gp_X4_3 (pc := 111) hx hb hown hV hw (gw_214 hV) dX4_readCommand_111 (fun H locs hw => ?_)
    refine lv_aload_n (pc := 114) hx hb dX4_readCommand_114 rfl (lv_at hl 1 rfl) ?_
    obtain ⟨uq_4, huq_4, hF⟩ := Option.bind_eq_some_iff.mp hF
    refine cl_X4_readPlaceAndBrick (pc := 115) hx hb hml hown hV hw huq_4 (gw_877 hV) hl.1 (Nat.le_of_ble_eq_true rfl) (Nat.le_of_ble_eq_true rfl) (Nat.le_of_ble_eq_true rfl) dX4_readCommand_115 (fun H locs hw => ?_)
    cases hF
    exact gx_zret hx hb hr (gx_narb _) hlocks hw dX4_readCommand_118
  rw [if_neg hs108] at hF
  by_cases hs110 : uq_1 = 110
  · rw [if_pos hs110] at hF
    refine lv_tableIn (pc := 16) (off := 135) (tgt := 151) hx hb dX4_readCommand_16 (by rw [hs110]; decide) (by rw [hs110]; decide) (by rw [hs110]; rfl) (by decide) ?_
    refine lv_aload_n (pc := 151) hx hb dX4_readCommand_151 rfl (lv_at hl 1 rfl) ?_
    refine lv_dup (pc := 152) hx hb dX4_readCommand_152 rfl ?_
    refine gg_X4_3 (pc := 153) hx hb hown hV hw (gw_214 hV) dX4_readCommand_153 ?_
    refine lv_iconst (pc := 156) (v := 1) hx hb dX4_readCommand_156 (by decide) ?_
    refine lv_iadd (pc := 157) hx hb dX4_readCommand_157 ?_
    refine gp_X4_3 (pc := 158) hx hb hown hV hw (gw_214 hV) dX4_readCommand_158 (fun H locs hw => ?_)
    refine lv_aload_n (pc := 161) hx hb dX4_readCommand_161 rfl (lv_at hl 1 rfl) ?_
    refine lv_iconst (pc := 162) (v := 1) hx hb dX4_readCommand_162 (by decide) ?_
    obtain ⟨uq_5, huq_5, hF⟩ := Option.bind_eq_some_iff.mp hF
    refine cl_X4_readDigits (pc := 163) hx hb hml hown hV hw huq_5 (gw_865 hV) hl.1 (Nat.le_of_ble_eq_true rfl) (Nat.le_of_ble_eq_true rfl) (Nat.le_of_ble_eq_true rfl) dX4_readCommand_163 (fun H locs hw => ?_)
    cases hF
    exact gx_zret hx hb hr (gx_narb _) hlocks hw dX4_readCommand_166
  rw [if_neg hs110] at hF
  by_cases hs115 : uq_1 = 115
  · rw [if_pos hs115] at hF
    refine lv_tableIn (pc := 16) (off := 119) (tgt := 135) hx hb dX4_readCommand_16 (by rw [hs115]; decide) (by rw [hs115]; decide) (by rw [hs115]; rfl) (by decide) ?_
    refine lv_aload_n (pc := 135) hx hb dX4_readCommand_135 rfl (lv_at hl 1 rfl) ?_
    refine lv_dup (pc := 136) hx hb dX4_readCommand_136 rfl ?_
    refine gg_X4_3 (pc := 137) hx hb hown hV hw (gw_214 hV) dX4_readCommand_137 ?_
    refine lv_iconst (pc := 140) (v := 1) hx hb dX4_readCommand_140 (by decide) ?_
    refine lv_iadd (pc := 141) hx hb dX4_readCommand_141 ?_
    refine gp_X4_3 (pc := 142) hx hb hown hV hw (gw_214 hV) dX4_readCommand_142 (fun H locs hw => ?_)
    refine lv_aload_n (pc := 145) hx hb dX4_readCommand_145 rfl (lv_at hl 1 rfl) ?_
    refine lv_iconst (pc := 146) (v := 2) hx hb dX4_readCommand_146 (by decide) ?_
    obtain ⟨uq_6, huq_6, hF⟩ := Option.bind_eq_some_iff.mp hF
    refine cl_X4_readDigits (pc := 147) hx hb hml hown hV hw huq_6 (gw_865 hV) hl.1 (Nat.le_of_ble_eq_true rfl) (Nat.le_of_ble_eq_true rfl) (Nat.le_of_ble_eq_true rfl) dX4_readCommand_147 (fun H locs hw => ?_)
    cases hF
    exact gx_zret hx hb hr (gx_narb _) hlocks hw dX4_readCommand_150
  rw [if_neg hs115] at hF
  by_cases hs116 : uq_1 = 116
  · rw [if_pos hs116] at hF
    refine lv_tableIn (pc := 16) (off := 103) (tgt := 119) hx hb dX4_readCommand_16 (by rw [hs116]; decide) (by rw [hs116]; decide) (by rw [hs116]; rfl) (by decide) ?_
    refine lv_aload_n (pc := 119) hx hb dX4_readCommand_119 rfl (lv_at hl 1 rfl) ?_
    refine lv_dup (pc := 120) hx hb dX4_readCommand_120 rfl ?_
    refine gg_X4_3 (pc := 121) hx hb hown hV hw (gw_214 hV) dX4_readCommand_121 ?_
    refine lv_iconst (pc := 124) (v := 1) hx hb dX4_readCommand_124 (by decide) ?_
    refine lv_iadd (pc := 125) hx hb dX4_readCommand_125 ?_
    refine gp_X4_3 (pc := 126) hx hb hown hV hw (gw_214 hV) dX4_readCommand_126 (fun H locs hw => ?_)
    refine lv_aload_n (pc := 129) hx hb dX4_readCommand_129 rfl (lv_at hl 1 rfl) ?_
    refine lv_iconst (pc := 130) (v := 0) hx hb dX4_readCommand_130 (by decide) ?_
    obtain ⟨uq_7, huq_7, hF⟩ := Option.bind_eq_some_iff.mp hF
    refine cl_X4_readNumber (pc := 131) hx hb hml hown hV hw huq_7 (gw_881 hV) hl.1 (Nat.le_of_ble_eq_true rfl) (Nat.le_of_ble_eq_true rfl) (Nat.le_of_ble_eq_true rfl) dX4_readCommand_131 (fun H locs hw => ?_)
    cases hF
    exact gx_zret hx hb hr (gx_narb _) hlocks hw dX4_readCommand_134
  rw [if_neg hs116] at hF
  refine gx_tableD (pc := 16) (tgt := 167) hx hb dX4_readCommand_16 [103, 107, 108, 110, 115, 116] (List.forall_mem_cons.mpr ⟨hs103, (List.forall_mem_cons.mpr ⟨hs107, (List.forall_mem_cons.mpr ⟨hs108, (List.forall_mem_cons.mpr ⟨hs110, (List.forall_mem_cons.mpr ⟨hs115, (List.forall_mem_cons.mpr ⟨hs116, (fun _ h => nomatch h)⟩)⟩)⟩)⟩)⟩)⟩) (by decide) (by decide) (by decide) ?_
  refine lv_iconst (pc := 167) (v := 0) hx hb dX4_readCommand_167 (by decide) ?_
  cases hF
  exact gx_zret (r := gx_bi false) hx hb hr (gx_narb _) hlocks hw dX4_readCommand_168
set_option maxRecDepth 100000 in
theorem cl_X4_readCommand {l : Launch} {G : gx_G} {M : gx_S} {o : Int64} {d : UInt64} {I V : gx_F} {p : Program} {e : Env} {R : Room} {s : State} {m : MethodId} {args : Array Value} {below : List Frame} {meth : Method} {c : Code} {H : Heap} {locs : List Loc} {cells slots : Nat} {Q : State → Prop} {cc : ByteArray} {pc nL index : Nat} {ls : Array Slot} {rest : List Value} {own : String} {out : (Bool × gx_F × gx_F)} (hx : p.tables.exec = Jvm.exec) (hb : c.code = cc) (hml : c.maxLocals = nL) (hown : s.vm.findClass own = some m.cls) (hV : gx_V G s) (hw : gx_at G (I, V) M o d s.heap H locs) (hF : f_X4_readCommand I V = some out) (hlink : (Cond.methodLink own index yX4_readCommand).before args s = true) (hsz : ls.size = nL) (hfr : 5 ≤ R.frames) (hlo : 109 ≤ R.locals) (hrest : (rest.map fun v => v.category).sum ≤ 8) (hdg : decode cc pc = .ok (.invokevirtual index, 3))
    (kk : ∀ (H1 : Heap) (locs1 : List Loc), gx_at G (out.2.1, out.2.2) M o d s.heap H1 locs1 → W p l e R s m args below meth c H1 locs1 cells slots Q (F0 m (pc + 3) ls (.int (gx_bi out.1) :: rest))) (hc : cells ≤ R.cells := by exact Nat.zero_le _) (hs : slots ≤ R.slots := by exact Nat.zero_le _) : W p l e R s m args below meth c H locs cells slots Q (F0 m pc ls (.ref (G.2.1 54) :: rest)) :=
  gx_runi hw (va_runV (C := RX4) (As := []) (rest := rest) ⟨hx, hb, hml, hown, (fun _ h => nomatch h : ∀ w ∈ ([] : List Cond), w.before args s = true)⟩ (k_X4_readCommand hF) ⟨gx_callB (n := 0) rfl rfl hlink (gw_55 hV) (gw_860 hV) (by decide +kernel) ⟨hfr, hlo⟩, gw_859 hV, gw_8 hV⟩ (gx_recv (k := 54) (ci := 6) (T := TX4) hV hw (by decide) rfl rfl) rfl rfl hsz rfl (lv_room hrest) hdg ⟨hc, hs⟩) kk
set_option maxHeartbeats 4000000 in
set_option maxRecDepth 100000 in
theorem k_X4_read {l : Launch} {G : gx_G} {M : gx_S} {o : Int64} {d : UInt64} {I V : gx_F} {out : (Int32 × gx_F × gx_F)} (hF : f_X4_read I V = some out) : gx_K l yX4_read cX4_read 1 (some .int) { frames := 5, cells := 0, slots := 0, locals := 109 } [.ref (G.2.1 54)] G (I, V) M o d (gx_Qi G out.1 (out.2.1, out.2.2) M o d) 0 0 := by
  refine gx_begin (by decide +kernel) (Nat.le_of_ble_eq_true rfl) ?_
  intro p e s m below meth c hx hb hr hml hown hlocks hV hw ls hl
  have hown : s.vm.findClass RX4 = some m.cls := hown
  have hl : lv_has ls 1 [(0, .ref (G.2.1 54))] := hl
  unfold f_X4_read at hF
  refine lv_aload_n (pc := 0) hx hb dX4_read_0 rfl (lv_at hl 0 rfl) ?_
  refine lv_iconst (pc := 1) (v := 0) hx hb dX4_read_1 (by decide) ?_
  refine gp_X4_3 (pc := 2) hx hb hown hV hw (gw_214 hV) dX4_read_2 (fun H locs hw => ?_)
  refine lv_aload_n (pc := 5) hx hb dX4_read_5 rfl (lv_at hl 0 rfl) ?_
  refine lv_iconst (pc := 6) (v := 0) hx hb dX4_read_6 (by decide) ?_
  refine gp_X4_5 (pc := 7) hx hb hown hV hw (gw_217 hV) dX4_read_7 (fun H locs hw => ?_)
  have L1 : ∀ (n : Nat) (K1 : gx_F → gx_F → Option (Int32 × gx_F × gx_F)) (uI_1 : gx_F) (uV_2 : gx_F) (H : Heap) (locs : List Loc) (ls : Array Slot), lv_has ls 1 [(0, .ref (G.2.1 54))] → gx_at G (uI_1, uV_2) M o d s.heap H locs → f_X4_read_L1 K1 n uI_1 uV_2 = some out → (∀ (uI_1 : gx_F) (uV_2 : gx_F) (H : Heap) (locs : List Loc) (ls : Array Slot), lv_has ls 1 [(0, .ref (G.2.1 54))] → gx_at G (uI_1, uV_2) M o d s.heap H locs → K1 uI_1 uV_2 = some out → W p l e ({ frames := 5, cells := 0, slots := 0, locals := 109 } : Room) s m ([.ref (G.2.1 54)] : List Value).toArray below meth c H locs 0 0 (MQ below (gx_Qi G out.1 (out.2.1, out.2.2) M o d) ([.ref (G.2.1 54)] : List Value).toArray s 0 0 (gx_A G)) (F0 m 68 ls [])) → W p l e ({ frames := 5, cells := 0, slots := 0, locals := 109 } : Room) s m ([.ref (G.2.1 54)] : List Value).toArray below meth c H locs 0 0 (MQ below (gx_Qi G out.1 (out.2.1, out.2.2) M o d) ([.ref (G.2.1 54)] : List Value).toArray s 0 0 (gx_A G)) (F0 m 10 ls []) := by
    intro n
    induction n with
    | zero =>
      intro K1 uI_1 uV_2 H locs ls hl hw hF hK
      rw [f_X4_read_L1] at hF
      cases hF
    | succ n ih1 =>
      intro K1 uI_1 uV_2 H locs ls hl hw hF hK1
      rw [f_X4_read_L1] at hF
      refine lv_aload_n (pc := 10) hx hb dX4_read_10 rfl (lv_at hl 0 rfl) ?_
      refine gg_X4_5 (pc := 11) hx hb hown hV hw (gw_217 hV) dX4_read_11 ?_
      refine lv_bipush (pc := 14) (v := 30) hx hb dX4_read_14 (by decide) ?_
      refine gx_icmp_ge (pc := 16) (tgt := 68) hx hb hF dX4_read_16 (by decide) (fun hF => ?_) (fun hF => ?_)
      · exact hK1 _ _ _ _ _ (lv_sub hl [0] rfl) hw hF
      refine lv_aload_n (pc := 19) hx hb dX4_read_19 rfl (lv_at hl 0 rfl) ?_
      obtain ⟨uq_3, huq_3, hF⟩ := Option.bind_eq_some_iff.mp hF
      refine cl_X4_readCommand (pc := 20) hx hb hml hown hV hw huq_3 (gw_857 hV) hl.1 (Nat.le_of_ble_eq_true rfl) (Nat.le_of_ble_eq_true rfl) (Nat.le_of_ble_eq_true rfl) dX4_read_20 (fun H locs hw => ?_)
      refine gx_if_ne (pc := 23) (tgt := 31) hx hb hF dX4_read_23 (by decide) (fun hF => ?_) (fun hF => ?_)
      · refine lv_aload_n (pc := 31) hx hb dX4_read_31 rfl (lv_at hl 0 rfl) ?_
        refine lv_dup (pc := 32) hx hb dX4_read_32 rfl ?_
        refine gg_X4_5 (pc := 33) hx hb hown hV hw (gw_217 hV) dX4_read_33 ?_
        refine lv_iconst (pc := 36) (v := 1) hx hb dX4_read_36 (by decide) ?_
        refine lv_iadd (pc := 37) hx hb dX4_read_37 ?_
        refine gp_X4_5 (pc := 38) hx hb hown hV hw (gw_217 hV) dX4_read_38 (fun H locs hw => ?_)
        refine lv_aload_n (pc := 41) hx hb dX4_read_41 rfl (lv_at hl 0 rfl) ?_
        refine gg_X4_3 (pc := 42) hx hb hown hV hw (gw_214 hV) dX4_read_42 ?_
        refine lv_aload_n (pc := 45) hx hb dX4_read_45 rfl (lv_at hl 0 rfl) ?_
        refine gg_X4_4 (pc := 46) hx hb hown hV hw (gw_215 hV) dX4_read_46 ?_
        refine gx_icmp_ne (pc := 49) (tgt := 54) hx hb hF dX4_read_49 (by decide) (fun hF => ?_) (fun hF => ?_)
        · refine lv_aload_n (pc := 54) hx hb dX4_read_54 rfl (lv_at hl 0 rfl) ?_
          refine lv_bipush (pc := 55) (v := 59) hx hb dX4_read_55 (by decide) ?_
          obtain ⟨uq_4, huq_4, hF⟩ := Option.bind_eq_some_iff.mp hF
          refine cl_X4_skip (pc := 57) hx hb hml hown hV hw huq_4 (gw_889 hV) hl.1 (Nat.le_of_ble_eq_true rfl) (Nat.le_of_ble_eq_true rfl) (Nat.le_of_ble_eq_true rfl) dX4_read_57 (fun H locs hw => ?_)
          refine gx_if_ne (pc := 60) (tgt := 10) hx hb hF dX4_read_60 (by decide) (fun hF => ?_) (fun hF => ?_)
          · exact ih1 _ _ _ _ _ _ (lv_sub hl [0] rfl) hw hF hK1
          refine lv_aload_n (pc := 63) hx hb dX4_read_63 rfl (lv_at hl 0 rfl) ?_
          refine gg_X4_3 (pc := 64) hx hb hown hV hw (gw_214 hV) dX4_read_64 ?_
          cases hF
          exact gx_iret hx hb hr hlocks hw dX4_read_67
        refine lv_iconst (pc := 52) (v := (-1)) hx hb dX4_read_52 (by decide) ?_
        cases hF
        exact gx_iret hx hb hr hlocks hw dX4_read_53
      refine lv_aload_n (pc := 26) hx hb dX4_read_26 rfl (lv_at hl 0 rfl) ?_
      refine gg_X4_3 (pc := 27) hx hb hown hV hw (gw_214 hV) dX4_read_27 ?_
      cases hF
      exact gx_iret hx hb hr hlocks hw dX4_read_30
  refine L1 1000 _ _ _ _ _ _ hl hw hF (fun uI_5 uV_6 H locs ls hl hw hF => ?_)
  refine lv_aload_n (pc := 68) hx hb dX4_read_68 rfl (lv_at hl 0 rfl) ?_
  refine gg_X4_3 (pc := 69) hx hb hown hV hw (gw_214 hV) dX4_read_69 ?_
  cases hF
  exact gx_iret hx hb hr hlocks hw dX4_read_72
set_option maxRecDepth 100000 in
theorem cl_X4_read {l : Launch} {G : gx_G} {M : gx_S} {o : Int64} {d : UInt64} {I V : gx_F} {p : Program} {e : Env} {R : Room} {s : State} {m : MethodId} {args : Array Value} {below : List Frame} {meth : Method} {c : Code} {H : Heap} {locs : List Loc} {cells slots : Nat} {Q : State → Prop} {cc : ByteArray} {pc nL index : Nat} {ls : Array Slot} {rest : List Value} {own : String} {out : (Int32 × gx_F × gx_F)} (hx : p.tables.exec = Jvm.exec) (hb : c.code = cc) (hml : c.maxLocals = nL) (hown : s.vm.findClass own = some m.cls) (hV : gx_V G s) (hw : gx_at G (I, V) M o d s.heap H locs) (hF : f_X4_read I V = some out) (hlink : (Cond.methodLink own index yX4_read).before args s = true) (hsz : ls.size = nL) (hfr : 6 ≤ R.frames) (hlo : 129 ≤ R.locals) (hrest : (rest.map fun v => v.category).sum ≤ 8) (hdg : decode cc pc = .ok (.invokevirtual index, 3))
    (kk : ∀ (H1 : Heap) (locs1 : List Loc), gx_at G (out.2.1, out.2.2) M o d s.heap H1 locs1 → W p l e R s m args below meth c H1 locs1 cells slots Q (F0 m (pc + 3) ls (.int out.1 :: rest))) (hc : cells ≤ R.cells := by exact Nat.zero_le _) (hs : slots ≤ R.slots := by exact Nat.zero_le _) : W p l e R s m args below meth c H locs cells slots Q (F0 m pc ls (.ref (G.2.1 54) :: rest)) :=
  gx_runi hw (va_runV (C := RX4) (As := []) (rest := rest) ⟨hx, hb, hml, hown, (fun _ h => nomatch h : ∀ w ∈ ([] : List Cond), w.before args s = true)⟩ (k_X4_read hF) ⟨gx_callB (n := 0) rfl rfl hlink (gw_55 hV) (gw_856 hV) (by decide +kernel) ⟨hfr, hlo⟩, gw_854 hV, gw_855 hV⟩ (gx_recv (k := 54) (ci := 6) (T := TX4) hV hw (by decide) rfl rfl) rfl rfl hsz rfl (lv_room hrest) hdg ⟨hc, hs⟩) kk
set_option maxHeartbeats 4000000 in
set_option maxRecDepth 100000 in
theorem k_X5_isErrorToward {l : Launch} {G : gx_G} {M : gx_S} {o : Int64} {d : UInt64} {I V : gx_F} {k0 : Nat} {x1 : Int32} {x2 : Int32} (hk0 : gx_isW k0) {out : Bool} (hF : f_X5_isErrorToward k0 x1 x2 I V = some out) : gx_K l yX5_isErrorToward cX5_isErrorToward 3 (some .boolean) { frames := 2, cells := 0, slots := 0, locals := 46 } [.ref (G.2.1 k0), .int x1, .int x2] G (I, V) M o d (gx_Qi G (gx_bi out) (I, V) M o d) 0 0 := by
  refine gx_begin (by decide +kernel) (Nat.le_of_ble_eq_true rfl) ?_
  intro p e s m below meth c hx hb hr hml hown hlocks hV hw ls hl
  have hown : s.vm.findClass RX5 = some m.cls := hown
  have hl : lv_has ls 3 [(0, .ref (G.2.1 k0)), (1, .int x1), (2, .int x2)] := hl
  unfold f_X5_isErrorToward at hF
  refine lv_aload_n (pc := 0) hx hb dX5_isErrorToward_0 rfl (lv_at hl 0 rfl) ?_
  refine lv_aload_n (pc := 1) hx hb dX5_isErrorToward_1 rfl (lv_at hl 0 rfl) ?_
  refine lv_iload_n (pc := 2) hx hb dX5_isErrorToward_2 rfl (lv_at hl 1 rfl) ?_
  obtain ⟨uq_1, huq_1, hF⟩ := Option.bind_eq_some_iff.mp hF
  refine cl_X5_brickOn (pc := 3) hx hb hml hown hV hw hk0 huq_1 (gw_285 hV) hl.1 (Nat.le_of_ble_eq_true rfl) (Nat.le_of_ble_eq_true rfl) (Nat.le_of_ble_eq_true rfl) dX5_isErrorToward_3 (fun H locs hw => ?_)
  refine lv_iload_n (pc := 6) hx hb dX5_isErrorToward_6 rfl (lv_at hl 2 rfl) ?_
  obtain ⟨uq_2, huq_2, hF⟩ := Option.bind_eq_some_iff.mp hF
  refine cl_X5_glueOn (pc := 7) hx hb hml hown hV hw hk0 huq_2 (gw_307 hV) hl.1 (Nat.le_of_ble_eq_true rfl) (Nat.le_of_ble_eq_true rfl) (Nat.le_of_ble_eq_true rfl) dX5_isErrorToward_7 (fun H locs hw => ?_)
  refine lv_aload_n (pc := 10) hx hb dX5_isErrorToward_10 rfl (lv_at hl 0 rfl) ?_
  refine lv_iload_n (pc := 11) hx hb dX5_isErrorToward_11 rfl (lv_at hl 1 rfl) ?_
  refine lv_iload_n (pc := 12) hx hb dX5_isErrorToward_12 rfl (lv_at hl 2 rfl) ?_
  obtain ⟨uq_3, huq_3, hF⟩ := Option.bind_eq_some_iff.mp hF
  refine cl_X5_glueFacing (pc := 13) hx hb hml hown hV hw hk0 huq_3 (gw_311 hV) hl.1 (Nat.le_of_ble_eq_true rfl) (Nat.le_of_ble_eq_true rfl) (Nat.le_of_ble_eq_true rfl) dX5_isErrorToward_13 (fun H locs hw => ?_)
  obtain ⟨uq_4, huq_4, hF⟩ := Option.bind_eq_some_iff.mp hF
  refine cl_X5_areAtOdds (pc := 16) hx hb hml hown hV hw huq_4 (gw_335 hV) hl.1 (Nat.le_of_ble_eq_true rfl) (Nat.le_of_ble_eq_true rfl) (Nat.le_of_ble_eq_true rfl) dX5_isErrorToward_16 (fun H locs hw => ?_)
  cases hF
  exact gx_zret hx hb hr (gx_narb _) hlocks hw dX5_isErrorToward_19
set_option maxRecDepth 100000 in
theorem cl_X5_isErrorToward {l : Launch} {G : gx_G} {M : gx_S} {o : Int64} {d : UInt64} {I V : gx_F} {p : Program} {e : Env} {R : Room} {s : State} {m : MethodId} {args : Array Value} {below : List Frame} {meth : Method} {c : Code} {H : Heap} {locs : List Loc} {cells slots : Nat} {Q : State → Prop} {cc : ByteArray} {pc nL index : Nat} {ls : Array Slot} {rest : List Value} {own : String} {k0 : Nat} {x1 : Int32} {x2 : Int32} {out : Bool} (hx : p.tables.exec = Jvm.exec) (hb : c.code = cc) (hml : c.maxLocals = nL) (hown : s.vm.findClass own = some m.cls) (hV : gx_V G s) (hw : gx_at G (I, V) M o d s.heap H locs) (hk0 : gx_isW k0) (hF : f_X5_isErrorToward k0 x1 x2 I V = some out) (hlink : (Cond.methodLink own index yX5_isErrorToward).before args s = true) (hsz : ls.size = nL) (hfr : 3 ≤ R.frames) (hlo : 68 ≤ R.locals) (hrest : (rest.map fun v => v.category).sum ≤ 8) (hdg : decode cc pc = .ok (.invokevirtual index, 3))
    (kk : ∀ (H1 : Heap) (locs1 : List Loc), gx_at G (I, V) M o d s.heap H1 locs1 → W p l e R s m args below meth c H1 locs1 cells slots Q (F0 m (pc + 3) ls (.int (gx_bi out) :: rest))) (hc : cells ≤ R.cells := by exact Nat.zero_le _) (hs : slots ≤ R.slots := by exact Nat.zero_le _) : W p l e R s m args below meth c H locs cells slots Q (F0 m pc ls (.int x2 :: .int x1 :: .ref (G.2.1 k0) :: rest)) :=
  gx_runi hw (va_runV (C := RX5) (As := [.int x1, .int x2]) (rest := rest) ⟨hx, hb, hml, hown, (fun _ h => nomatch h : ∀ w ∈ ([] : List Cond), w.before args s = true)⟩ (k_X5_isErrorToward hk0 hF) ⟨gx_callB (n := 2) rfl rfl hlink (gw_50 hV) (gw_334 hV) (by decide +kernel) ⟨hfr, hlo⟩, gw_332 hV, gw_333 hV⟩ (gx_recv (k := k0) (ci := 7) (T := TX5) hV hw (gx_Wk hk0) (gc_W hk0) rfl) rfl rfl hsz rfl (lv_room hrest) hdg ⟨hc, hs⟩) kk
set_option maxHeartbeats 4000000 in
set_option maxRecDepth 100000 in
theorem k_X5_isNeighbourToward {l : Launch} {G : gx_G} {M : gx_S} {o : Int64} {d : UInt64} {I V : gx_F} {k0 : Nat} {x1 : Int32} {x2 : Int32} (hk0 : gx_isW k0) {out : Bool} (hF : f_X5_isNeighbourToward k0 x1 x2 I V = some out) : gx_K l yX5_isNeighbourToward cX5_isNeighbourToward 3 (some .boolean) { frames := 2, cells := 0, slots := 0, locals := 42 } [.ref (G.2.1 k0), .int x1, .int x2] G (I, V) M o d (gx_Qi G (gx_bi out) (I, V) M o d) 0 0 := by
  refine gx_begin (by decide +kernel) (Nat.le_of_ble_eq_true rfl) ?_
  intro p e s m below meth c hx hb hr hml hown hlocks hV hw ls hl
  have hown : s.vm.findClass RX5 = some m.cls := hown
  have hl : lv_has ls 3 [(0, .ref (G.2.1 k0)), (1, .int x1), (2, .int x2)] := hl
  unfold f_X5_isNeighbourToward at hF
  refine lv_aload_n (pc := 0) hx hb dX5_isNeighbourToward_0 rfl (lv_at hl 0 rfl) ?_
  refine lv_iload_n (pc := 1) hx hb dX5_isNeighbourToward_1 rfl (lv_at hl 1 rfl) ?_
  refine lv_iload_n (pc := 2) hx hb dX5_isNeighbourToward_2 rfl (lv_at hl 2 rfl) ?_
  obtain ⟨uq_1, huq_1, hF⟩ := Option.bind_eq_some_iff.mp hF
  refine cn_X6_beside (pc := 3) hx hb hml hown hV hw huq_1 (gw_315 hV) hl.1 (Nat.le_of_ble_eq_true rfl) (Nat.le_of_ble_eq_true rfl) (Nat.le_of_ble_eq_true rfl) dX5_isNeighbourToward_3 (fun H locs hw => ?_)
  obtain ⟨uq_2, huq_2, hF⟩ := Option.bind_eq_some_iff.mp hF
  refine cl_X5_isFree (pc := 6) hx hb hml hown hV hw hk0 huq_2 (gw_281 hV) hl.1 (Nat.le_of_ble_eq_true rfl) (Nat.le_of_ble_eq_true rfl) (Nat.le_of_ble_eq_true rfl) dX5_isNeighbourToward_6 (fun H locs hw => ?_)
  refine gx_if_ne (pc := 9) (tgt := 16) hx hb hF dX5_isNeighbourToward_9 (by decide) (fun hF => ?_) (fun hF => ?_)
  · refine lv_iconst (pc := 16) (v := 0) hx hb dX5_isNeighbourToward_16 (by decide) ?_
    cases hF
    exact gx_zret (r := gx_bi false) hx hb hr (gx_narb _) hlocks hw dX5_isNeighbourToward_17
  refine lv_iconst (pc := 12) (v := 1) hx hb dX5_isNeighbourToward_12 (by decide) ?_
  refine lv_goto (pc := 13) (tgt := 17) hx hb dX5_isNeighbourToward_13 (by decide) ?_
  cases hF
  exact gx_zret (r := gx_bi true) hx hb hr (gx_narb _) hlocks hw dX5_isNeighbourToward_17
set_option maxRecDepth 100000 in
theorem cl_X5_isNeighbourToward {l : Launch} {G : gx_G} {M : gx_S} {o : Int64} {d : UInt64} {I V : gx_F} {p : Program} {e : Env} {R : Room} {s : State} {m : MethodId} {args : Array Value} {below : List Frame} {meth : Method} {c : Code} {H : Heap} {locs : List Loc} {cells slots : Nat} {Q : State → Prop} {cc : ByteArray} {pc nL index : Nat} {ls : Array Slot} {rest : List Value} {own : String} {k0 : Nat} {x1 : Int32} {x2 : Int32} {out : Bool} (hx : p.tables.exec = Jvm.exec) (hb : c.code = cc) (hml : c.maxLocals = nL) (hown : s.vm.findClass own = some m.cls) (hV : gx_V G s) (hw : gx_at G (I, V) M o d s.heap H locs) (hk0 : gx_isW k0) (hF : f_X5_isNeighbourToward k0 x1 x2 I V = some out) (hlink : (Cond.methodLink own index yX5_isNeighbourToward).before args s = true) (hsz : ls.size = nL) (hfr : 3 ≤ R.frames) (hlo : 64 ≤ R.locals) (hrest : (rest.map fun v => v.category).sum ≤ 8) (hdg : decode cc pc = .ok (.invokevirtual index, 3))
    (kk : ∀ (H1 : Heap) (locs1 : List Loc), gx_at G (I, V) M o d s.heap H1 locs1 → W p l e R s m args below meth c H1 locs1 cells slots Q (F0 m (pc + 3) ls (.int (gx_bi out) :: rest))) (hc : cells ≤ R.cells := by exact Nat.zero_le _) (hs : slots ≤ R.slots := by exact Nat.zero_le _) : W p l e R s m args below meth c H locs cells slots Q (F0 m pc ls (.int x2 :: .int x1 :: .ref (G.2.1 k0) :: rest)) :=
  gx_runi hw (va_runV (C := RX5) (As := [.int x1, .int x2]) (rest := rest) ⟨hx, hb, hml, hown, (fun _ h => nomatch h : ∀ w ∈ ([] : List Cond), w.before args s = true)⟩ (k_X5_isNeighbourToward hk0 hF) ⟨gx_callB (n := 2) rfl rfl hlink (gw_50 hV) (gw_986 hV) (by decide +kernel) ⟨hfr, hlo⟩, gw_984 hV, gw_985 hV⟩ (gx_recv (k := k0) (ci := 7) (T := TX5) hV hw (gx_Wk hk0) (gc_W hk0) rfl) rfl rfl hsz rfl (lv_room hrest) hdg ⟨hc, hs⟩) kk
set_option maxHeartbeats 4000000 in
set_option maxRecDepth 100000 in
theorem k_X5_allHolds {l : Launch} {G : gx_G} {M : gx_S} {o : Int64} {d : UInt64} {I V : gx_F} {k0 : Nat} {x1 : Int32} (hk0 : gx_isW k0) {out : Int32} (hF : f_X5_allHolds k0 x1 I V = some out) : gx_K l yX5_allHolds cX5_allHolds 5 (some .int) { frames := 3, cells := 0, slots := 0, locals := 68 } [.ref (G.2.1 k0), .int x1] G (I, V) M o d (gx_Qi G out (I, V) M o d) 0 0 := by
  refine gx_begin (by decide +kernel) (Nat.le_of_ble_eq_true rfl) ?_
  intro p e s m below meth c hx hb hr hml hown hlocks hV hw ls hl
  have hown : s.vm.findClass RX5 = some m.cls := hown
  have hl : lv_has ls 5 [(0, .ref (G.2.1 k0)), (1, .int x1)] := hl
  unfold f_X5_allHolds at hF
  refine lv_iconst (pc := 0) (v := 0) hx hb dX5_allHolds_0 (by decide) ?_
  refine lv_istore_n (pc := 1) (lv' := [(2, .int 0), (0, .ref (G.2.1 k0)), (1, .int x1)]) hx hb dX5_allHolds_1 rfl hl (by decide) rfl (fun ls hl => ?_)
  refine lv_iconst (pc := 2) (v := 0) hx hb dX5_allHolds_2 (by decide) ?_
  refine lv_istore_n (pc := 3) (lv' := [(3, .int 0), (2, .int 0), (0, .ref (G.2.1 k0)), (1, .int x1)]) hx hb dX5_allHolds_3 rfl hl (by decide) rfl (fun ls hl => ?_)
  have L1 : ∀ (n : Nat) (K1 : Int32 → Int32 → Option Int32) (uv_1 : Int32) (uv_2 : Int32) (H : Heap) (locs : List Loc) (ls : Array Slot), lv_has ls 5 [(3, .int uv_2), (2, .int uv_1), (0, .ref (G.2.1 k0)), (1, .int x1)] → gx_at G (I, V) M o d s.heap H locs → f_X5_allHolds_L1 k0 x1 I V K1 n uv_1 uv_2 = some out → (∀ (uv_1 : Int32) (uv_2 : Int32) (H : Heap) (locs : List Loc) (ls : Array Slot), lv_has ls 5 [(3, .int uv_2), (2, .int uv_1), (0, .ref (G.2.1 k0)), (1, .int x1)] → gx_at G (I, V) M o d s.heap H locs → K1 uv_1 uv_2 = some out → W p l e ({ frames := 3, cells := 0, slots := 0, locals := 68 } : Room) s m ([.ref (G.2.1 k0), .int x1] : List Value).toArray below meth c H locs 0 0 (MQ below (gx_Qi G out (I, V) M o d) ([.ref (G.2.1 k0), .int x1] : List Value).toArray s 0 0 (gx_A G)) (F0 m 56 ls [])) → W p l e ({ frames := 3, cells := 0, slots := 0, locals := 68 } : Room) s m ([.ref (G.2.1 k0), .int x1] : List Value).toArray below meth c H locs 0 0 (MQ below (gx_Qi G out (I, V) M o d) ([.ref (G.2.1 k0), .int x1] : List Value).toArray s 0 0 (gx_A G)) (F0 m 4 ls []) := by
    intro n
    induction n with
    | zero =>
      intro K1 uv_1 uv_2 H locs ls hl hw hF hK
      rw [f_X5_allHolds_L1] at hF
      cases hF
    | succ n ih1 =>
      intro K1 uv_1 uv_2 H locs ls hl hw hF hK1
      rw [f_X5_allHolds_L1] at hF
      refine lv_iload_n (pc := 4) hx hb dX5_allHolds_4 rfl (lv_at hl 0 rfl) ?_
      refine lv_bipush (pc := 5) (v := 42) hx hb dX5_allHolds_5 (by decide) ?_
      refine gx_icmp_ge (pc := 7) (tgt := 56) hx hb hF dX5_allHolds_7 (by decide) (fun hF => ?_) (fun hF => ?_)
      · exact hK1 _ _ _ _ _ (lv_sub hl [0, 1, 2, 3] rfl) hw hF
      refine lv_iconst (pc := 10) (v := 1) hx hb dX5_allHolds_10 (by decide) ?_
      refine lv_istore (pc := 11) (lv' := [(4, .int 1), (3, .int uv_2), (2, .int uv_1), (0, .ref (G.2.1 k0)), (1, .int x1)]) hx hb dX5_allHolds_11 hl (by decide) rfl (fun ls hl => ?_)
      have L2 : ∀ (n : Nat) (K2 : Int32 → Int32 → Option Int32) (uv_3 : Int32) (uv_4 : Int32) (H : Heap) (locs : List Loc) (ls : Array Slot), lv_has ls 5 [(4, .int uv_4), (3, .int uv_2), (2, .int uv_3), (0, .ref (G.2.1 k0)), (1, .int x1)] → gx_at G (I, V) M o d s.heap H locs → f_X5_allHolds_L2 k0 x1 I V uv_2 K2 n uv_3 uv_4 = some out → (∀ (uv_3 : Int32) (uv_4 : Int32) (H : Heap) (locs : List Loc) (ls : Array Slot), lv_has ls 5 [(4, .int uv_4), (3, .int uv_2), (2, .int uv_3), (0, .ref (G.2.1 k0)), (1, .int x1)] → gx_at G (I, V) M o d s.heap H locs → K2 uv_3 uv_4 = some out → W p l e ({ frames := 3, cells := 0, slots := 0, locals := 68 } : Room) s m ([.ref (G.2.1 k0), .int x1] : List Value).toArray below meth c H locs 0 0 (MQ below (gx_Qi G out (I, V) M o d) ([.ref (G.2.1 k0), .int x1] : List Value).toArray s 0 0 (gx_A G)) (F0 m 50 ls [])) → W p l e ({ frames := 3, cells := 0, slots := 0, locals := 68 } : Room) s m ([.ref (G.2.1 k0), .int x1] : List Value).toArray below meth c H locs 0 0 (MQ below (gx_Qi G out (I, V) M o d) ([.ref (G.2.1 k0), .int x1] : List Value).toArray s 0 0 (gx_A G)) (F0 m 13 ls []) := by
        intro n
        induction n with
        | zero =>
          intro K2 uv_3 uv_4 H locs ls hl hw hF hK
          rw [f_X5_allHolds_L2] at hF
          cases hF
        | succ n ih2 =>
          intro K2 uv_3 uv_4 H locs ls hl hw hF hK2
          rw [f_X5_allHolds_L2] at hF
          refine lv_iload (pc := 13) hx hb dX5_allHolds_13 (lv_at hl 0 rfl) ?_
          refine lv_iconst (pc := 15) (v := 2) hx hb dX5_allHolds_15 (by decide) ?_
          refine gx_icmp_gt (pc := 16) (tgt := 50) hx hb hF dX5_allHolds_16 (by decide) (fun hF => ?_) (fun hF => ?_)
          · exact hK2 _ _ _ _ _ (lv_sub hl [0, 1, 2, 3, 4] rfl) hw hF
          refine lv_iload_n (pc := 19) hx hb dX5_allHolds_19 rfl (lv_at hl 1 rfl) ?_
          refine lv_iload_n (pc := 20) hx hb dX5_allHolds_20 rfl (lv_at hl 4 rfl) ?_
          refine gx_icmp_eq (pc := 21) (tgt := 44) hx hb hF dX5_allHolds_21 (by decide) (fun hF => ?_) (fun hF => ?_)
          · refine lv_iinc (pc := 44) (v := (uv_4 + 1)) (lv' := [(4, .int (uv_4 + 1)), (3, .int uv_2), (2, .int uv_3), (0, .ref (G.2.1 k0)), (1, .int x1)]) hx hb dX5_allHolds_44 hl (k := 0) rfl rfl (by decide) rfl (fun ls hl => ?_)
            refine lv_goto (pc := 47) (tgt := 13) hx hb dX5_allHolds_47 (by decide) ?_
            exact ih2 _ _ _ _ _ _ (lv_sub hl [0, 1, 2, 3, 4] rfl) hw hF hK2
          refine lv_iload_n (pc := 24) hx hb dX5_allHolds_24 rfl (lv_at hl 1 rfl) ?_
          refine lv_iload (pc := 25) hx hb dX5_allHolds_25 (lv_at hl 0 rfl) ?_
          obtain ⟨uq_5, huq_5, hF⟩ := Option.bind_eq_some_iff.mp hF
          refine cn_X6_beside (pc := 27) hx hb hml hown hV hw huq_5 (gw_315 hV) hl.1 (Nat.le_of_ble_eq_true rfl) (Nat.le_of_ble_eq_true rfl) (Nat.le_of_ble_eq_true rfl) dX5_allHolds_27 (fun H locs hw => ?_)
          refine lv_iload_n (pc := 30) hx hb dX5_allHolds_30 rfl (lv_at hl 4 rfl) ?_
          refine gx_icmp_eq (pc := 31) (tgt := 44) hx hb hF dX5_allHolds_31 (by decide) (fun hF => ?_) (fun hF => ?_)
          · refine lv_iinc (pc := 44) (v := (uv_4 + 1)) (lv' := [(4, .int (uv_4 + 1)), (3, .int uv_2), (2, .int uv_3), (0, .ref (G.2.1 k0)), (1, .int x1)]) hx hb dX5_allHolds_44 hl (k := 0) rfl rfl (by decide) rfl (fun ls hl => ?_)
            refine lv_goto (pc := 47) (tgt := 13) hx hb dX5_allHolds_47 (by decide) ?_
            exact ih2 _ _ _ _ _ _ (lv_sub hl [0, 1, 2, 3, 4] rfl) hw hF hK2
          refine lv_iload_n (pc := 34) hx hb dX5_allHolds_34 rfl (lv_at hl 2 rfl) ?_
          refine lv_aload_n (pc := 35) hx hb dX5_allHolds_35 rfl (lv_at hl 3 rfl) ?_
          refine lv_iload_n (pc := 36) hx hb dX5_allHolds_36 rfl (lv_at hl 1 rfl) ?_
          refine lv_iload (pc := 37) hx hb dX5_allHolds_37 (lv_at hl 0 rfl) ?_
          obtain ⟨uq_6, huq_6, hF⟩ := Option.bind_eq_some_iff.mp hF
          refine cl_X5_strengthToward (pc := 39) hx hb hml hown hV hw hk0 huq_6 (gw_728 hV) hl.1 (Nat.le_of_ble_eq_true rfl) (Nat.le_of_ble_eq_true rfl) (Nat.le_of_ble_eq_true rfl) dX5_allHolds_39 (fun H locs hw => ?_)
          refine lv_iadd (pc := 42) hx hb dX5_allHolds_42 ?_
          refine lv_istore_n (pc := 43) (lv' := [(2, .int (uv_3 + uq_6)), (4, .int uv_4), (3, .int uv_2), (0, .ref (G.2.1 k0)), (1, .int x1)]) hx hb dX5_allHolds_43 rfl hl (by decide) rfl (fun ls hl => ?_)
          refine lv_iinc (pc := 44) (v := (uv_4 + 1)) (lv' := [(4, .int (uv_4 + 1)), (2, .int (uv_3 + uq_6)), (3, .int uv_2), (0, .ref (G.2.1 k0)), (1, .int x1)]) hx hb dX5_allHolds_44 hl (k := 1) rfl rfl (by decide) rfl (fun ls hl => ?_)
          refine lv_goto (pc := 47) (tgt := 13) hx hb dX5_allHolds_47 (by decide) ?_
          exact ih2 _ _ _ _ _ _ (lv_sub hl [0, 2, 1, 3, 4] rfl) hw hF hK2
      refine L2 1000 _ _ _ _ _ _ hl hw hF (fun uv_7 uv_8 H locs ls hl hw hF => ?_)
      refine lv_iinc (pc := 50) (v := (uv_2 + 1)) (lv' := [(3, .int (uv_2 + 1)), (4, .int uv_8), (2, .int uv_7), (0, .ref (G.2.1 k0)), (1, .int x1)]) hx hb dX5_allHolds_50 hl (k := 1) rfl rfl (by decide) rfl (fun ls hl => ?_)
      refine lv_goto (pc := 53) (tgt := 4) hx hb dX5_allHolds_53 (by decide) ?_
      exact ih1 _ _ _ _ _ _ (lv_sub hl [0, 2, 3, 4] rfl) hw hF hK1
  refine L1 1000 _ _ _ _ _ _ hl hw hF (fun uv_9 uv_10 H locs ls hl hw hF => ?_)
  refine lv_iconst (pc := 56) (v := 2) hx hb dX5_allHolds_56 (by decide) ?_
  refine lv_iload_n (pc := 57) hx hb dX5_allHolds_57 rfl (lv_at hl 1 rfl) ?_
  refine lv_imul (pc := 58) hx hb dX5_allHolds_58 ?_
  cases hF
  exact gx_iret hx hb hr hlocks hw dX5_allHolds_59
set_option maxRecDepth 100000 in
theorem cl_X5_allHolds {l : Launch} {G : gx_G} {M : gx_S} {o : Int64} {d : UInt64} {I V : gx_F} {p : Program} {e : Env} {R : Room} {s : State} {m : MethodId} {args : Array Value} {below : List Frame} {meth : Method} {c : Code} {H : Heap} {locs : List Loc} {cells slots : Nat} {Q : State → Prop} {cc : ByteArray} {pc nL index : Nat} {ls : Array Slot} {rest : List Value} {own : String} {k0 : Nat} {x1 : Int32} {out : Int32} (hx : p.tables.exec = Jvm.exec) (hb : c.code = cc) (hml : c.maxLocals = nL) (hown : s.vm.findClass own = some m.cls) (hV : gx_V G s) (hw : gx_at G (I, V) M o d s.heap H locs) (hk0 : gx_isW k0) (hF : f_X5_allHolds k0 x1 I V = some out) (hlink : (Cond.methodLink own index yX5_allHolds).before args s = true) (hsz : ls.size = nL) (hfr : 4 ≤ R.frames) (hlo : 92 ≤ R.locals) (hrest : (rest.map fun v => v.category).sum ≤ 8) (hdg : decode cc pc = .ok (.invokevirtual index, 3))
    (kk : ∀ (H1 : Heap) (locs1 : List Loc), gx_at G (I, V) M o d s.heap H1 locs1 → W p l e R s m args below meth c H1 locs1 cells slots Q (F0 m (pc + 3) ls (.int out :: rest))) (hc : cells ≤ R.cells := by exact Nat.zero_le _) (hs : slots ≤ R.slots := by exact Nat.zero_le _) : W p l e R s m args below meth c H locs cells slots Q (F0 m pc ls (.int x1 :: .ref (G.2.1 k0) :: rest)) :=
  gx_runi hw (va_runV (C := RX5) (As := [.int x1]) (rest := rest) ⟨hx, hb, hml, hown, (fun _ h => nomatch h : ∀ w ∈ ([] : List Cond), w.before args s = true)⟩ (k_X5_allHolds hk0 hF) ⟨gx_callB (n := 1) rfl rfl hlink (gw_50 hV) (gw_727 hV) (by decide +kernel) ⟨hfr, hlo⟩, gw_725 hV, gw_726 hV⟩ (gx_recv (k := k0) (ci := 7) (T := TX5) hV hw (gx_Wk hk0) (gc_W hk0) rfl) rfl rfl hsz rfl (lv_room hrest) hdg ⟨hc, hs⟩) kk
set_option maxHeartbeats 4000000 in
set_option maxRecDepth 100000 in
theorem k_X5_errorsOf {l : Launch} {G : gx_G} {M : gx_S} {o : Int64} {d : UInt64} {I V : gx_F} {k0 : Nat} {x1 : Int32} (hk0 : gx_isW k0) {out : Int32} (hF : f_X5_errorsOf k0 x1 I V = some out) : gx_K l yX5_errorsOf cX5_errorsOf 4 (some .int) { frames := 3, cells := 0, slots := 0, locals := 68 } [.ref (G.2.1 k0), .int x1] G (I, V) M o d (gx_Qi G out (I, V) M o d) 0 0 := by
  refine gx_begin (by decide +kernel) (Nat.le_of_ble_eq_true rfl) ?_
  intro p e s m below meth c hx hb hr hml hown hlocks hV hw ls hl
  have hown : s.vm.findClass RX5 = some m.cls := hown
  have hl : lv_has ls 4 [(0, .ref (G.2.1 k0)), (1, .int x1)] := hl
  unfold f_X5_errorsOf at hF
  refine lv_iconst (pc := 0) (v := 0) hx hb dX5_errorsOf_0 (by decide) ?_
  refine lv_istore_n (pc := 1) (lv' := [(2, .int 0), (0, .ref (G.2.1 k0)), (1, .int x1)]) hx hb dX5_errorsOf_1 rfl hl (by decide) rfl (fun ls hl => ?_)
  refine lv_iconst (pc := 2) (v := 0) hx hb dX5_errorsOf_2 (by decide) ?_
  refine lv_istore_n (pc := 3) (lv' := [(3, .int 0), (2, .int 0), (0, .ref (G.2.1 k0)), (1, .int x1)]) hx hb dX5_errorsOf_3 rfl hl (by decide) rfl (fun ls hl => ?_)
  have L1 : ∀ (n : Nat) (K1 : Int32 → Int32 → Option Int32) (uv_1 : Int32) (uv_2 : Int32) (H : Heap) (locs : List Loc) (ls : Array Slot), lv_has ls 4 [(3, .int uv_2), (2, .int uv_1), (0, .ref (G.2.1 k0)), (1, .int x1)] → gx_at G (I, V) M o d s.heap H locs → f_X5_errorsOf_L1 k0 x1 I V K1 n uv_1 uv_2 = some out → (∀ (uv_1 : Int32) (uv_2 : Int32) (H : Heap) (locs : List Loc) (ls : Array Slot), lv_has ls 4 [(3, .int uv_2), (2, .int uv_1), (0, .ref (G.2.1 k0)), (1, .int x1)] → gx_at G (I, V) M o d s.heap H locs → K1 uv_1 uv_2 = some out → W p l e ({ frames := 3, cells := 0, slots := 0, locals := 68 } : Room) s m ([.ref (G.2.1 k0), .int x1] : List Value).toArray below meth c H locs 0 0 (MQ below (gx_Qi G out (I, V) M o d) ([.ref (G.2.1 k0), .int x1] : List Value).toArray s 0 0 (gx_A G)) (F0 m 27 ls [])) → W p l e ({ frames := 3, cells := 0, slots := 0, locals := 68 } : Room) s m ([.ref (G.2.1 k0), .int x1] : List Value).toArray below meth c H locs 0 0 (MQ below (gx_Qi G out (I, V) M o d) ([.ref (G.2.1 k0), .int x1] : List Value).toArray s 0 0 (gx_A G)) (F0 m 4 ls []) := by
    intro n
    induction n with
    | zero =>
      intro K1 uv_1 uv_2 H locs ls hl hw hF hK
      rw [f_X5_errorsOf_L1] at hF
      cases hF
    | succ n ih1 =>
      intro K1 uv_1 uv_2 H locs ls hl hw hF hK1
      rw [f_X5_errorsOf_L1] at hF
      refine lv_iload_n (pc := 4) hx hb dX5_errorsOf_4 rfl (lv_at hl 0 rfl) ?_
      refine lv_iconst (pc := 5) (v := 4) hx hb dX5_errorsOf_5 (by decide) ?_
      refine gx_icmp_ge (pc := 6) (tgt := 27) hx hb hF dX5_errorsOf_6 (by decide) (fun hF => ?_) (fun hF => ?_)
      · exact hK1 _ _ _ _ _ (lv_sub hl [0, 1, 2, 3] rfl) hw hF
      refine lv_aload_n (pc := 9) hx hb dX5_errorsOf_9 rfl (lv_at hl 2 rfl) ?_
      refine lv_iload_n (pc := 10) hx hb dX5_errorsOf_10 rfl (lv_at hl 3 rfl) ?_
      refine lv_iload_n (pc := 11) hx hb dX5_errorsOf_11 rfl (lv_at hl 0 rfl) ?_
      obtain ⟨uq_3, huq_3, hF⟩ := Option.bind_eq_some_iff.mp hF
      refine cl_X5_isErrorToward (pc := 12) hx hb hml hown hV hw hk0 huq_3 (gw_331 hV) hl.1 (Nat.le_of_ble_eq_true rfl) (Nat.le_of_ble_eq_true rfl) (Nat.le_of_ble_eq_true rfl) dX5_errorsOf_12 (fun H locs hw => ?_)
      refine gx_if_eq (pc := 15) (tgt := 21) hx hb hF dX5_errorsOf_15 (by decide) (fun hF => ?_) (fun hF => ?_)
      · refine lv_iinc (pc := 21) (v := (uv_2 + 1)) (lv' := [(3, .int (uv_2 + 1)), (2, .int uv_1), (0, .ref (G.2.1 k0)), (1, .int x1)]) hx hb dX5_errorsOf_21 hl (k := 0) rfl rfl (by decide) rfl (fun ls hl => ?_)
        refine lv_goto (pc := 24) (tgt := 4) hx hb dX5_errorsOf_24 (by decide) ?_
        exact ih1 _ _ _ _ _ _ (lv_sub hl [0, 1, 2, 3] rfl) hw hF hK1
      refine lv_iinc (pc := 18) (v := (uv_1 + 1)) (lv' := [(2, .int (uv_1 + 1)), (3, .int uv_2), (0, .ref (G.2.1 k0)), (1, .int x1)]) hx hb dX5_errorsOf_18 hl (k := 1) rfl rfl (by decide) rfl (fun ls hl => ?_)
      refine lv_iinc (pc := 21) (v := (uv_2 + 1)) (lv' := [(3, .int (uv_2 + 1)), (2, .int (uv_1 + 1)), (0, .ref (G.2.1 k0)), (1, .int x1)]) hx hb dX5_errorsOf_21 hl (k := 1) rfl rfl (by decide) rfl (fun ls hl => ?_)
      refine lv_goto (pc := 24) (tgt := 4) hx hb dX5_errorsOf_24 (by decide) ?_
      exact ih1 _ _ _ _ _ _ (lv_sub hl [0, 1, 2, 3] rfl) hw hF hK1
  refine L1 1000 _ _ _ _ _ _ hl hw hF (fun uv_4 uv_5 H locs ls hl hw hF => ?_)
  refine lv_iload_n (pc := 27) hx hb dX5_errorsOf_27 rfl (lv_at hl 1 rfl) ?_
  cases hF
  exact gx_iret hx hb hr hlocks hw dX5_errorsOf_28
set_option maxRecDepth 100000 in
theorem cl_X5_errorsOf {l : Launch} {G : gx_G} {M : gx_S} {o : Int64} {d : UInt64} {I V : gx_F} {p : Program} {e : Env} {R : Room} {s : State} {m : MethodId} {args : Array Value} {below : List Frame} {meth : Method} {c : Code} {H : Heap} {locs : List Loc} {cells slots : Nat} {Q : State → Prop} {cc : ByteArray} {pc nL index : Nat} {ls : Array Slot} {rest : List Value} {own : String} {k0 : Nat} {x1 : Int32} {out : Int32} (hx : p.tables.exec = Jvm.exec) (hb : c.code = cc) (hml : c.maxLocals = nL) (hown : s.vm.findClass own = some m.cls) (hV : gx_V G s) (hw : gx_at G (I, V) M o d s.heap H locs) (hk0 : gx_isW k0) (hF : f_X5_errorsOf k0 x1 I V = some out) (hlink : (Cond.methodLink own index yX5_errorsOf).before args s = true) (hsz : ls.size = nL) (hfr : 4 ≤ R.frames) (hlo : 91 ≤ R.locals) (hrest : (rest.map fun v => v.category).sum ≤ 8) (hdg : decode cc pc = .ok (.invokevirtual index, 3))
    (kk : ∀ (H1 : Heap) (locs1 : List Loc), gx_at G (I, V) M o d s.heap H1 locs1 → W p l e R s m args below meth c H1 locs1 cells slots Q (F0 m (pc + 3) ls (.int out :: rest))) (hc : cells ≤ R.cells := by exact Nat.zero_le _) (hs : slots ≤ R.slots := by exact Nat.zero_le _) : W p l e R s m args below meth c H locs cells slots Q (F0 m pc ls (.int x1 :: .ref (G.2.1 k0) :: rest)) :=
  gx_runi hw (va_runV (C := RX5) (As := [.int x1]) (rest := rest) ⟨hx, hb, hml, hown, (fun _ h => nomatch h : ∀ w ∈ ([] : List Cond), w.before args s = true)⟩ (k_X5_errorsOf hk0 hF) ⟨gx_callB (n := 1) rfl rfl hlink (gw_50 hV) (gw_765 hV) (by decide +kernel) ⟨hfr, hlo⟩, gw_763 hV, gw_764 hV⟩ (gx_recv (k := k0) (ci := 7) (T := TX5) hV hw (gx_Wk hk0) (gc_W hk0) rfl) rfl rfl hsz rfl (lv_room hrest) hdg ⟨hc, hs⟩) kk
set_option maxHeartbeats 4000000 in
set_option maxRecDepth 100000 in
theorem k_X5_errorPairs {l : Launch} {G : gx_G} {M : gx_S} {o : Int64} {d : UInt64} {I V : gx_F} {k0 : Nat} (hk0 : gx_isW k0) {out : Int32} (hF : f_X5_errorPairs k0 I V = some out) : gx_K l yX5_errorPairs cX5_errorPairs 4 (some .int) { frames := 3, cells := 0, slots := 0, locals := 68 } [.ref (G.2.1 k0)] G (I, V) M o d (gx_Qi G out (I, V) M o d) 0 0 := by
  refine gx_begin (by decide +kernel) (Nat.le_of_ble_eq_true rfl) ?_
  intro p e s m below meth c hx hb hr hml hown hlocks hV hw ls hl
  have hown : s.vm.findClass RX5 = some m.cls := hown
  have hl : lv_has ls 4 [(0, .ref (G.2.1 k0))] := hl
  unfold f_X5_errorPairs at hF
  refine lv_iconst (pc := 0) (v := 0) hx hb dX5_errorPairs_0 (by decide) ?_
  refine lv_istore_n (pc := 1) (lv' := [(1, .int 0), (0, .ref (G.2.1 k0))]) hx hb dX5_errorPairs_1 rfl hl (by decide) rfl (fun ls hl => ?_)
  refine lv_iconst (pc := 2) (v := 0) hx hb dX5_errorPairs_2 (by decide) ?_
  refine lv_istore_n (pc := 3) (lv' := [(2, .int 0), (1, .int 0), (0, .ref (G.2.1 k0))]) hx hb dX5_errorPairs_3 rfl hl (by decide) rfl (fun ls hl => ?_)
  have L1 : ∀ (n : Nat) (K1 : Int32 → Int32 → Option Int32) (uv_1 : Int32) (uv_2 : Int32) (H : Heap) (locs : List Loc) (ls : Array Slot), lv_has ls 4 [(2, .int uv_2), (1, .int uv_1), (0, .ref (G.2.1 k0))] → gx_at G (I, V) M o d s.heap H locs → f_X5_errorPairs_L1 k0 I V K1 n uv_1 uv_2 = some out → (∀ (uv_1 : Int32) (uv_2 : Int32) (H : Heap) (locs : List Loc) (ls : Array Slot), lv_has ls 4 [(2, .int uv_2), (1, .int uv_1), (0, .ref (G.2.1 k0))] → gx_at G (I, V) M o d s.heap H locs → K1 uv_1 uv_2 = some out → W p l e ({ frames := 3, cells := 0, slots := 0, locals := 68 } : Room) s m ([.ref (G.2.1 k0)] : List Value).toArray below meth c H locs 0 0 (MQ below (gx_Qi G out (I, V) M o d) ([.ref (G.2.1 k0)] : List Value).toArray s 0 0 (gx_A G)) (F0 m 41 ls [])) → W p l e ({ frames := 3, cells := 0, slots := 0, locals := 68 } : Room) s m ([.ref (G.2.1 k0)] : List Value).toArray below meth c H locs 0 0 (MQ below (gx_Qi G out (I, V) M o d) ([.ref (G.2.1 k0)] : List Value).toArray s 0 0 (gx_A G)) (F0 m 4 ls []) := by
    intro n
    induction n with
    | zero =>
      intro K1 uv_1 uv_2 H locs ls hl hw hF hK
      rw [f_X5_errorPairs_L1] at hF
      cases hF
    | succ n ih1 =>
      intro K1 uv_1 uv_2 H locs ls hl hw hF hK1
      rw [f_X5_errorPairs_L1] at hF
      refine lv_iload_n (pc := 4) hx hb dX5_errorPairs_4 rfl (lv_at hl 0 rfl) ?_
      refine lv_bipush (pc := 5) (v := 42) hx hb dX5_errorPairs_5 (by decide) ?_
      refine gx_icmp_ge (pc := 7) (tgt := 41) hx hb hF dX5_errorPairs_7 (by decide) (fun hF => ?_) (fun hF => ?_)
      · exact hK1 _ _ _ _ _ (lv_sub hl [0, 1, 2] rfl) hw hF
      refine lv_iconst (pc := 10) (v := 1) hx hb dX5_errorPairs_10 (by decide) ?_
      refine lv_istore_n (pc := 11) (lv' := [(3, .int 1), (2, .int uv_2), (1, .int uv_1), (0, .ref (G.2.1 k0))]) hx hb dX5_errorPairs_11 rfl hl (by decide) rfl (fun ls hl => ?_)
      have L2 : ∀ (n : Nat) (K2 : Int32 → Int32 → Option Int32) (uv_3 : Int32) (uv_4 : Int32) (H : Heap) (locs : List Loc) (ls : Array Slot), lv_has ls 4 [(3, .int uv_4), (2, .int uv_2), (1, .int uv_3), (0, .ref (G.2.1 k0))] → gx_at G (I, V) M o d s.heap H locs → f_X5_errorPairs_L2 k0 I V uv_2 K2 n uv_3 uv_4 = some out → (∀ (uv_3 : Int32) (uv_4 : Int32) (H : Heap) (locs : List Loc) (ls : Array Slot), lv_has ls 4 [(3, .int uv_4), (2, .int uv_2), (1, .int uv_3), (0, .ref (G.2.1 k0))] → gx_at G (I, V) M o d s.heap H locs → K2 uv_3 uv_4 = some out → W p l e ({ frames := 3, cells := 0, slots := 0, locals := 68 } : Room) s m ([.ref (G.2.1 k0)] : List Value).toArray below meth c H locs 0 0 (MQ below (gx_Qi G out (I, V) M o d) ([.ref (G.2.1 k0)] : List Value).toArray s 0 0 (gx_A G)) (F0 m 35 ls [])) → W p l e ({ frames := 3, cells := 0, slots := 0, locals := 68 } : Room) s m ([.ref (G.2.1 k0)] : List Value).toArray below meth c H locs 0 0 (MQ below (gx_Qi G out (I, V) M o d) ([.ref (G.2.1 k0)] : List Value).toArray s 0 0 (gx_A G)) (F0 m 12 ls []) := by
        intro n
        induction n with
        | zero =>
          intro K2 uv_3 uv_4 H locs ls hl hw hF hK
          rw [f_X5_errorPairs_L2] at hF
          cases hF
        | succ n ih2 =>
          intro K2 uv_3 uv_4 H locs ls hl hw hF hK2
          rw [f_X5_errorPairs_L2] at hF
          refine lv_iload_n (pc := 12) hx hb dX5_errorPairs_12 rfl (lv_at hl 0 rfl) ?_
          refine lv_iconst (pc := 13) (v := 2) hx hb dX5_errorPairs_13 (by decide) ?_
          refine gx_icmp_gt (pc := 14) (tgt := 35) hx hb hF dX5_errorPairs_14 (by decide) (fun hF => ?_) (fun hF => ?_)
          · exact hK2 _ _ _ _ _ (lv_sub hl [0, 1, 2, 3] rfl) hw hF
          refine lv_aload_n (pc := 17) hx hb dX5_errorPairs_17 rfl (lv_at hl 3 rfl) ?_
          refine lv_iload_n (pc := 18) hx hb dX5_errorPairs_18 rfl (lv_at hl 1 rfl) ?_
          refine lv_iload_n (pc := 19) hx hb dX5_errorPairs_19 rfl (lv_at hl 0 rfl) ?_
          obtain ⟨uq_5, huq_5, hF⟩ := Option.bind_eq_some_iff.mp hF
          refine cl_X5_isErrorToward (pc := 20) hx hb hml hown hV hw hk0 huq_5 (gw_331 hV) hl.1 (Nat.le_of_ble_eq_true rfl) (Nat.le_of_ble_eq_true rfl) (Nat.le_of_ble_eq_true rfl) dX5_errorPairs_20 (fun H locs hw => ?_)
          refine gx_if_eq (pc := 23) (tgt := 29) hx hb hF dX5_errorPairs_23 (by decide) (fun hF => ?_) (fun hF => ?_)
          · refine lv_iinc (pc := 29) (v := (uv_4 + 1)) (lv' := [(3, .int (uv_4 + 1)), (2, .int uv_2), (1, .int uv_3), (0, .ref (G.2.1 k0))]) hx hb dX5_errorPairs_29 hl (k := 0) rfl rfl (by decide) rfl (fun ls hl => ?_)
            refine lv_goto (pc := 32) (tgt := 12) hx hb dX5_errorPairs_32 (by decide) ?_
            exact ih2 _ _ _ _ _ _ (lv_sub hl [0, 1, 2, 3] rfl) hw hF hK2
          refine lv_iinc (pc := 26) (v := (uv_3 + 1)) (lv' := [(1, .int (uv_3 + 1)), (3, .int uv_4), (2, .int uv_2), (0, .ref (G.2.1 k0))]) hx hb dX5_errorPairs_26 hl (k := 2) rfl rfl (by decide) rfl (fun ls hl => ?_)
          refine lv_iinc (pc := 29) (v := (uv_4 + 1)) (lv' := [(3, .int (uv_4 + 1)), (1, .int (uv_3 + 1)), (2, .int uv_2), (0, .ref (G.2.1 k0))]) hx hb dX5_errorPairs_29 hl (k := 1) rfl rfl (by decide) rfl (fun ls hl => ?_)
          refine lv_goto (pc := 32) (tgt := 12) hx hb dX5_errorPairs_32 (by decide) ?_
          exact ih2 _ _ _ _ _ _ (lv_sub hl [0, 2, 1, 3] rfl) hw hF hK2
      refine L2 1000 _ _ _ _ _ _ hl hw hF (fun uv_6 uv_7 H locs ls hl hw hF => ?_)
      refine lv_iinc (pc := 35) (v := (uv_2 + 1)) (lv' := [(2, .int (uv_2 + 1)), (3, .int uv_7), (1, .int uv_6), (0, .ref (G.2.1 k0))]) hx hb dX5_errorPairs_35 hl (k := 1) rfl rfl (by decide) rfl (fun ls hl => ?_)
      refine lv_goto (pc := 38) (tgt := 4) hx hb dX5_errorPairs_38 (by decide) ?_
      exact ih1 _ _ _ _ _ _ (lv_sub hl [0, 2, 3] rfl) hw hF hK1
  refine L1 1000 _ _ _ _ _ _ hl hw hF (fun uv_8 uv_9 H locs ls hl hw hF => ?_)
  refine lv_iload_n (pc := 41) hx hb dX5_errorPairs_41 rfl (lv_at hl 1 rfl) ?_
  cases hF
  exact gx_iret hx hb hr hlocks hw dX5_errorPairs_42
set_option maxRecDepth 100000 in
theorem cl_X5_errorPairs {l : Launch} {G : gx_G} {M : gx_S} {o : Int64} {d : UInt64} {I V : gx_F} {p : Program} {e : Env} {R : Room} {s : State} {m : MethodId} {args : Array Value} {below : List Frame} {meth : Method} {c : Code} {H : Heap} {locs : List Loc} {cells slots : Nat} {Q : State → Prop} {cc : ByteArray} {pc nL index : Nat} {ls : Array Slot} {rest : List Value} {own : String} {k0 : Nat} {out : Int32} (hx : p.tables.exec = Jvm.exec) (hb : c.code = cc) (hml : c.maxLocals = nL) (hown : s.vm.findClass own = some m.cls) (hV : gx_V G s) (hw : gx_at G (I, V) M o d s.heap H locs) (hk0 : gx_isW k0) (hF : f_X5_errorPairs k0 I V = some out) (hlink : (Cond.methodLink own index yX5_errorPairs).before args s = true) (hsz : ls.size = nL) (hfr : 4 ≤ R.frames) (hlo : 91 ≤ R.locals) (hrest : (rest.map fun v => v.category).sum ≤ 8) (hdg : decode cc pc = .ok (.invokevirtual index, 3))
    (kk : ∀ (H1 : Heap) (locs1 : List Loc), gx_at G (I, V) M o d s.heap H1 locs1 → W p l e R s m args below meth c H1 locs1 cells slots Q (F0 m (pc + 3) ls (.int out :: rest))) (hc : cells ≤ R.cells := by exact Nat.zero_le _) (hs : slots ≤ R.slots := by exact Nat.zero_le _) : W p l e R s m args below meth c H locs cells slots Q (F0 m pc ls (.ref (G.2.1 k0) :: rest)) :=
  gx_runi hw (va_runV (C := RX5) (As := []) (rest := rest) ⟨hx, hb, hml, hown, (fun _ h => nomatch h : ∀ w ∈ ([] : List Cond), w.before args s = true)⟩ (k_X5_errorPairs hk0 hF) ⟨gx_callB (n := 0) rfl rfl hlink (gw_50 hV) (gw_330 hV) (by decide +kernel) ⟨hfr, hlo⟩, gw_328 hV, gw_329 hV⟩ (gx_recv (k := k0) (ci := 7) (T := TX5) hV hw (gx_Wk hk0) (gc_W hk0) rfl) rfl rfl hsz rfl (lv_room hrest) hdg ⟨hc, hs⟩) kk
set_option maxHeartbeats 4000000 in
set_option maxRecDepth 100000 in
theorem k_X5_neighbourPairs {l : Launch} {G : gx_G} {M : gx_S} {o : Int64} {d : UInt64} {I V : gx_F} {k0 : Nat} (hk0 : gx_isW k0) {out : Int32} (hF : f_X5_neighbourPairs k0 I V = some out) : gx_K l yX5_neighbourPairs cX5_neighbourPairs 4 (some .int) { frames := 3, cells := 0, slots := 0, locals := 64 } [.ref (G.2.1 k0)] G (I, V) M o d (gx_Qi G out (I, V) M o d) 0 0 := by
  refine gx_begin (by decide +kernel) (Nat.le_of_ble_eq_true rfl) ?_
  intro p e s m below meth c hx hb hr hml hown hlocks hV hw ls hl
  have hown : s.vm.findClass RX5 = some m.cls := hown
  have hl : lv_has ls 4 [(0, .ref (G.2.1 k0))] := hl
  unfold f_X5_neighbourPairs at hF
  refine lv_iconst (pc := 0) (v := 0) hx hb dX5_neighbourPairs_0 (by decide) ?_
  refine lv_istore_n (pc := 1) (lv' := [(1, .int 0), (0, .ref (G.2.1 k0))]) hx hb dX5_neighbourPairs_1 rfl hl (by decide) rfl (fun ls hl => ?_)
  refine lv_iconst (pc := 2) (v := 0) hx hb dX5_neighbourPairs_2 (by decide) ?_
  refine lv_istore_n (pc := 3) (lv' := [(2, .int 0), (1, .int 0), (0, .ref (G.2.1 k0))]) hx hb dX5_neighbourPairs_3 rfl hl (by decide) rfl (fun ls hl => ?_)
  have L1 : ∀ (n : Nat) (K1 : Int32 → Int32 → Option Int32) (uv_1 : Int32) (uv_2 : Int32) (H : Heap) (locs : List Loc) (ls : Array Slot), lv_has ls 4 [(2, .int uv_2), (1, .int uv_1), (0, .ref (G.2.1 k0))] → gx_at G (I, V) M o d s.heap H locs → f_X5_neighbourPairs_L1 k0 I V K1 n uv_1 uv_2 = some out → (∀ (uv_1 : Int32) (uv_2 : Int32) (H : Heap) (locs : List Loc) (ls : Array Slot), lv_has ls 4 [(2, .int uv_2), (1, .int uv_1), (0, .ref (G.2.1 k0))] → gx_at G (I, V) M o d s.heap H locs → K1 uv_1 uv_2 = some out → W p l e ({ frames := 3, cells := 0, slots := 0, locals := 64 } : Room) s m ([.ref (G.2.1 k0)] : List Value).toArray below meth c H locs 0 0 (MQ below (gx_Qi G out (I, V) M o d) ([.ref (G.2.1 k0)] : List Value).toArray s 0 0 (gx_A G)) (F0 m 49 ls [])) → W p l e ({ frames := 3, cells := 0, slots := 0, locals := 64 } : Room) s m ([.ref (G.2.1 k0)] : List Value).toArray below meth c H locs 0 0 (MQ below (gx_Qi G out (I, V) M o d) ([.ref (G.2.1 k0)] : List Value).toArray s 0 0 (gx_A G)) (F0 m 4 ls []) := by
    intro n
    induction n with
    | zero =>
      intro K1 uv_1 uv_2 H locs ls hl hw hF hK
      rw [f_X5_neighbourPairs_L1] at hF
      cases hF
    | succ n ih1 =>
      intro K1 uv_1 uv_2 H locs ls hl hw hF hK1
      rw [f_X5_neighbourPairs_L1] at hF
      refine lv_iload_n (pc := 4) hx hb dX5_neighbourPairs_4 rfl (lv_at hl 0 rfl) ?_
      refine lv_bipush (pc := 5) (v := 42) hx hb dX5_neighbourPairs_5 (by decide) ?_
      refine gx_icmp_ge (pc := 7) (tgt := 49) hx hb hF dX5_neighbourPairs_7 (by decide) (fun hF => ?_) (fun hF => ?_)
      · exact hK1 _ _ _ _ _ (lv_sub hl [0, 1, 2] rfl) hw hF
      refine lv_iconst (pc := 10) (v := 1) hx hb dX5_neighbourPairs_10 (by decide) ?_
      refine lv_istore_n (pc := 11) (lv' := [(3, .int 1), (2, .int uv_2), (1, .int uv_1), (0, .ref (G.2.1 k0))]) hx hb dX5_neighbourPairs_11 rfl hl (by decide) rfl (fun ls hl => ?_)
      have L2 : ∀ (n : Nat) (K2 : Int32 → Int32 → Option Int32) (uv_3 : Int32) (uv_4 : Int32) (H : Heap) (locs : List Loc) (ls : Array Slot), lv_has ls 4 [(3, .int uv_4), (2, .int uv_2), (1, .int uv_3), (0, .ref (G.2.1 k0))] → gx_at G (I, V) M o d s.heap H locs → f_X5_neighbourPairs_L2 k0 I V uv_2 K2 n uv_3 uv_4 = some out → (∀ (uv_3 : Int32) (uv_4 : Int32) (H : Heap) (locs : List Loc) (ls : Array Slot), lv_has ls 4 [(3, .int uv_4), (2, .int uv_2), (1, .int uv_3), (0, .ref (G.2.1 k0))] → gx_at G (I, V) M o d s.heap H locs → K2 uv_3 uv_4 = some out → W p l e ({ frames := 3, cells := 0, slots := 0, locals := 64 } : Room) s m ([.ref (G.2.1 k0)] : List Value).toArray below meth c H locs 0 0 (MQ below (gx_Qi G out (I, V) M o d) ([.ref (G.2.1 k0)] : List Value).toArray s 0 0 (gx_A G)) (F0 m 43 ls [])) → W p l e ({ frames := 3, cells := 0, slots := 0, locals := 64 } : Room) s m ([.ref (G.2.1 k0)] : List Value).toArray below meth c H locs 0 0 (MQ below (gx_Qi G out (I, V) M o d) ([.ref (G.2.1 k0)] : List Value).toArray s 0 0 (gx_A G)) (F0 m 12 ls []) := by
        intro n
        induction n with
        | zero =>
          intro K2 uv_3 uv_4 H locs ls hl hw hF hK
          rw [f_X5_neighbourPairs_L2] at hF
          cases hF
        | succ n ih2 =>
          intro K2 uv_3 uv_4 H locs ls hl hw hF hK2
          rw [f_X5_neighbourPairs_L2] at hF
          refine lv_iload_n (pc := 12) hx hb dX5_neighbourPairs_12 rfl (lv_at hl 0 rfl) ?_
          refine lv_iconst (pc := 13) (v := 2) hx hb dX5_neighbourPairs_13 (by decide) ?_
          refine gx_icmp_gt (pc := 14) (tgt := 43) hx hb hF dX5_neighbourPairs_14 (by decide) (fun hF => ?_) (fun hF => ?_)
          · exact hK2 _ _ _ _ _ (lv_sub hl [0, 1, 2, 3] rfl) hw hF
          refine lv_aload_n (pc := 17) hx hb dX5_neighbourPairs_17 rfl (lv_at hl 3 rfl) ?_
          refine lv_iload_n (pc := 18) hx hb dX5_neighbourPairs_18 rfl (lv_at hl 1 rfl) ?_
          obtain ⟨uq_5, huq_5, hF⟩ := Option.bind_eq_some_iff.mp hF
          refine cl_X5_isFree (pc := 19) hx hb hml hown hV hw hk0 huq_5 (gw_281 hV) hl.1 (Nat.le_of_ble_eq_true rfl) (Nat.le_of_ble_eq_true rfl) (Nat.le_of_ble_eq_true rfl) dX5_neighbourPairs_19 (fun H locs hw => ?_)
          refine gx_if_ne (pc := 22) (tgt := 37) hx hb hF dX5_neighbourPairs_22 (by decide) (fun hF => ?_) (fun hF => ?_)
          · refine lv_iinc (pc := 37) (v := (uv_4 + 1)) (lv' := [(3, .int (uv_4 + 1)), (2, .int uv_2), (1, .int uv_3), (0, .ref (G.2.1 k0))]) hx hb dX5_neighbourPairs_37 hl (k := 0) rfl rfl (by decide) rfl (fun ls hl => ?_)
            refine lv_goto (pc := 40) (tgt := 12) hx hb dX5_neighbourPairs_40 (by decide) ?_
            exact ih2 _ _ _ _ _ _ (lv_sub hl [0, 1, 2, 3] rfl) hw hF hK2
          refine lv_aload_n (pc := 25) hx hb dX5_neighbourPairs_25 rfl (lv_at hl 3 rfl) ?_
          refine lv_iload_n (pc := 26) hx hb dX5_neighbourPairs_26 rfl (lv_at hl 1 rfl) ?_
          refine lv_iload_n (pc := 27) hx hb dX5_neighbourPairs_27 rfl (lv_at hl 0 rfl) ?_
          obtain ⟨uq_6, huq_6, hF⟩ := Option.bind_eq_some_iff.mp hF
          refine cl_X5_isNeighbourToward (pc := 28) hx hb hml hown hV hw hk0 huq_6 (gw_983 hV) hl.1 (Nat.le_of_ble_eq_true rfl) (Nat.le_of_ble_eq_true rfl) (Nat.le_of_ble_eq_true rfl) dX5_neighbourPairs_28 (fun H locs hw => ?_)
          refine gx_if_eq (pc := 31) (tgt := 37) hx hb hF dX5_neighbourPairs_31 (by decide) (fun hF => ?_) (fun hF => ?_)
          · refine lv_iinc (pc := 37) (v := (uv_4 + 1)) (lv' := [(3, .int (uv_4 + 1)), (2, .int uv_2), (1, .int uv_3), (0, .ref (G.2.1 k0))]) hx hb dX5_neighbourPairs_37 hl (k := 0) rfl rfl (by decide) rfl (fun ls hl => ?_)
            refine lv_goto (pc := 40) (tgt := 12) hx hb dX5_neighbourPairs_40 (by decide) ?_
            exact ih2 _ _ _ _ _ _ (lv_sub hl [0, 1, 2, 3] rfl) hw hF hK2
          refine lv_iinc (pc := 34) (v := (uv_3 + 1)) (lv' := [(1, .int (uv_3 + 1)), (3, .int uv_4), (2, .int uv_2), (0, .ref (G.2.1 k0))]) hx hb dX5_neighbourPairs_34 hl (k := 2) rfl rfl (by decide) rfl (fun ls hl => ?_)
          refine lv_iinc (pc := 37) (v := (uv_4 + 1)) (lv' := [(3, .int (uv_4 + 1)), (1, .int (uv_3 + 1)), (2, .int uv_2), (0, .ref (G.2.1 k0))]) hx hb dX5_neighbourPairs_37 hl (k := 1) rfl rfl (by decide) rfl (fun ls hl => ?_)
          refine lv_goto (pc := 40) (tgt := 12) hx hb dX5_neighbourPairs_40 (by decide) ?_
          exact ih2 _ _ _ _ _ _ (lv_sub hl [0, 2, 1, 3] rfl) hw hF hK2
      refine L2 1000 _ _ _ _ _ _ hl hw hF (fun uv_7 uv_8 H locs ls hl hw hF => ?_)
      refine lv_iinc (pc := 43) (v := (uv_2 + 1)) (lv' := [(2, .int (uv_2 + 1)), (3, .int uv_8), (1, .int uv_7), (0, .ref (G.2.1 k0))]) hx hb dX5_neighbourPairs_43 hl (k := 1) rfl rfl (by decide) rfl (fun ls hl => ?_)
      refine lv_goto (pc := 46) (tgt := 4) hx hb dX5_neighbourPairs_46 (by decide) ?_
      exact ih1 _ _ _ _ _ _ (lv_sub hl [0, 2, 3] rfl) hw hF hK1
  refine L1 1000 _ _ _ _ _ _ hl hw hF (fun uv_9 uv_10 H locs ls hl hw hF => ?_)
  refine lv_iload_n (pc := 49) hx hb dX5_neighbourPairs_49 rfl (lv_at hl 1 rfl) ?_
  cases hF
  exact gx_iret hx hb hr hlocks hw dX5_neighbourPairs_50
set_option maxRecDepth 100000 in
theorem cl_X5_neighbourPairs {l : Launch} {G : gx_G} {M : gx_S} {o : Int64} {d : UInt64} {I V : gx_F} {p : Program} {e : Env} {R : Room} {s : State} {m : MethodId} {args : Array Value} {below : List Frame} {meth : Method} {c : Code} {H : Heap} {locs : List Loc} {cells slots : Nat} {Q : State → Prop} {cc : ByteArray} {pc nL index : Nat} {ls : Array Slot} {rest : List Value} {own : String} {k0 : Nat} {out : Int32} (hx : p.tables.exec = Jvm.exec) (hb : c.code = cc) (hml : c.maxLocals = nL) (hown : s.vm.findClass own = some m.cls) (hV : gx_V G s) (hw : gx_at G (I, V) M o d s.heap H locs) (hk0 : gx_isW k0) (hF : f_X5_neighbourPairs k0 I V = some out) (hlink : (Cond.methodLink own index yX5_neighbourPairs).before args s = true) (hsz : ls.size = nL) (hfr : 4 ≤ R.frames) (hlo : 87 ≤ R.locals) (hrest : (rest.map fun v => v.category).sum ≤ 8) (hdg : decode cc pc = .ok (.invokevirtual index, 3))
    (kk : ∀ (H1 : Heap) (locs1 : List Loc), gx_at G (I, V) M o d s.heap H1 locs1 → W p l e R s m args below meth c H1 locs1 cells slots Q (F0 m (pc + 3) ls (.int out :: rest))) (hc : cells ≤ R.cells := by exact Nat.zero_le _) (hs : slots ≤ R.slots := by exact Nat.zero_le _) : W p l e R s m args below meth c H locs cells slots Q (F0 m pc ls (.ref (G.2.1 k0) :: rest)) :=
  gx_runi hw (va_runV (C := RX5) (As := []) (rest := rest) ⟨hx, hb, hml, hown, (fun _ h => nomatch h : ∀ w ∈ ([] : List Cond), w.before args s = true)⟩ (k_X5_neighbourPairs hk0 hF) ⟨gx_callB (n := 0) rfl rfl hlink (gw_50 hV) (gw_982 hV) (by decide +kernel) ⟨hfr, hlo⟩, gw_980 hV, gw_981 hV⟩ (gx_recv (k := k0) (ci := 7) (T := TX5) hV hw (gx_Wk hk0) (gc_W hk0) rfl) rfl rfl hsz rfl (lv_room hrest) hdg ⟨hc, hs⟩) kk
set_option maxHeartbeats 4000000 in
set_option maxRecDepth 100000 in
theorem k_X5_brickCount {l : Launch} {G : gx_G} {M : gx_S} {o : Int64} {d : UInt64} {I V : gx_F} {k0 : Nat} (hk0 : gx_isW k0) {out : Int32} (hF : f_X5_brickCount k0 I V = some out) : gx_K l yX5_brickCount cX5_brickCount 3 (some .int) { frames := 2, cells := 0, slots := 0, locals := 42 } [.ref (G.2.1 k0)] G (I, V) M o d (gx_Qi G out (I, V) M o d) 0 0 := by
  refine gx_begin (by decide +kernel) (Nat.le_of_ble_eq_true rfl) ?_
  intro p e s m below meth c hx hb hr hml hown hlocks hV hw ls hl
  have hown : s.vm.findClass RX5 = some m.cls := hown
  have hl : lv_has ls 3 [(0, .ref (G.2.1 k0))] := hl
  unfold f_X5_brickCount at hF
  refine lv_iconst (pc := 0) (v := 0) hx hb dX5_brickCount_0 (by decide) ?_
  refine lv_istore_n (pc := 1) (lv' := [(1, .int 0), (0, .ref (G.2.1 k0))]) hx hb dX5_brickCount_1 rfl hl (by decide) rfl (fun ls hl => ?_)
  refine lv_iconst (pc := 2) (v := 0) hx hb dX5_brickCount_2 (by decide) ?_
  refine lv_istore_n (pc := 3) (lv' := [(2, .int 0), (1, .int 0), (0, .ref (G.2.1 k0))]) hx hb dX5_brickCount_3 rfl hl (by decide) rfl (fun ls hl => ?_)
  have L1 : ∀ (n : Nat) (K1 : Int32 → Int32 → Option Int32) (uv_1 : Int32) (uv_2 : Int32) (H : Heap) (locs : List Loc) (ls : Array Slot), lv_has ls 3 [(2, .int uv_2), (1, .int uv_1), (0, .ref (G.2.1 k0))] → gx_at G (I, V) M o d s.heap H locs → f_X5_brickCount_L1 k0 I V K1 n uv_1 uv_2 = some out → (∀ (uv_1 : Int32) (uv_2 : Int32) (H : Heap) (locs : List Loc) (ls : Array Slot), lv_has ls 3 [(2, .int uv_2), (1, .int uv_1), (0, .ref (G.2.1 k0))] → gx_at G (I, V) M o d s.heap H locs → K1 uv_1 uv_2 = some out → W p l e ({ frames := 2, cells := 0, slots := 0, locals := 42 } : Room) s m ([.ref (G.2.1 k0)] : List Value).toArray below meth c H locs 0 0 (MQ below (gx_Qi G out (I, V) M o d) ([.ref (G.2.1 k0)] : List Value).toArray s 0 0 (gx_A G)) (F0 m 27 ls [])) → W p l e ({ frames := 2, cells := 0, slots := 0, locals := 42 } : Room) s m ([.ref (G.2.1 k0)] : List Value).toArray below meth c H locs 0 0 (MQ below (gx_Qi G out (I, V) M o d) ([.ref (G.2.1 k0)] : List Value).toArray s 0 0 (gx_A G)) (F0 m 4 ls []) := by
    intro n
    induction n with
    | zero =>
      intro K1 uv_1 uv_2 H locs ls hl hw hF hK
      rw [f_X5_brickCount_L1] at hF
      cases hF
    | succ n ih1 =>
      intro K1 uv_1 uv_2 H locs ls hl hw hF hK1
      rw [f_X5_brickCount_L1] at hF
      refine lv_iload_n (pc := 4) hx hb dX5_brickCount_4 rfl (lv_at hl 0 rfl) ?_
      refine lv_bipush (pc := 5) (v := 42) hx hb dX5_brickCount_5 (by decide) ?_
      refine gx_icmp_ge (pc := 7) (tgt := 27) hx hb hF dX5_brickCount_7 (by decide) (fun hF => ?_) (fun hF => ?_)
      · exact hK1 _ _ _ _ _ (lv_sub hl [0, 1, 2] rfl) hw hF
      refine lv_aload_n (pc := 10) hx hb dX5_brickCount_10 rfl (lv_at hl 2 rfl) ?_
      refine lv_iload_n (pc := 11) hx hb dX5_brickCount_11 rfl (lv_at hl 0 rfl) ?_
      obtain ⟨uq_3, huq_3, hF⟩ := Option.bind_eq_some_iff.mp hF
      refine cl_X5_isFree (pc := 12) hx hb hml hown hV hw hk0 huq_3 (gw_281 hV) hl.1 (Nat.le_of_ble_eq_true rfl) (Nat.le_of_ble_eq_true rfl) (Nat.le_of_ble_eq_true rfl) dX5_brickCount_12 (fun H locs hw => ?_)
      refine gx_if_ne (pc := 15) (tgt := 21) hx hb hF dX5_brickCount_15 (by decide) (fun hF => ?_) (fun hF => ?_)
      · refine lv_iinc (pc := 21) (v := (uv_2 + 1)) (lv' := [(2, .int (uv_2 + 1)), (1, .int uv_1), (0, .ref (G.2.1 k0))]) hx hb dX5_brickCount_21 hl (k := 0) rfl rfl (by decide) rfl (fun ls hl => ?_)
        refine lv_goto (pc := 24) (tgt := 4) hx hb dX5_brickCount_24 (by decide) ?_
        exact ih1 _ _ _ _ _ _ (lv_sub hl [0, 1, 2] rfl) hw hF hK1
      refine lv_iinc (pc := 18) (v := (uv_1 + 1)) (lv' := [(1, .int (uv_1 + 1)), (2, .int uv_2), (0, .ref (G.2.1 k0))]) hx hb dX5_brickCount_18 hl (k := 1) rfl rfl (by decide) rfl (fun ls hl => ?_)
      refine lv_iinc (pc := 21) (v := (uv_2 + 1)) (lv' := [(2, .int (uv_2 + 1)), (1, .int (uv_1 + 1)), (0, .ref (G.2.1 k0))]) hx hb dX5_brickCount_21 hl (k := 1) rfl rfl (by decide) rfl (fun ls hl => ?_)
      refine lv_goto (pc := 24) (tgt := 4) hx hb dX5_brickCount_24 (by decide) ?_
      exact ih1 _ _ _ _ _ _ (lv_sub hl [0, 1, 2] rfl) hw hF hK1
  refine L1 1000 _ _ _ _ _ _ hl hw hF (fun uv_4 uv_5 H locs ls hl hw hF => ?_)
  refine lv_iload_n (pc := 27) hx hb dX5_brickCount_27 rfl (lv_at hl 1 rfl) ?_
  cases hF
  exact gx_iret hx hb hr hlocks hw dX5_brickCount_28
set_option maxRecDepth 100000 in
theorem cl_X5_brickCount {l : Launch} {G : gx_G} {M : gx_S} {o : Int64} {d : UInt64} {I V : gx_F} {p : Program} {e : Env} {R : Room} {s : State} {m : MethodId} {args : Array Value} {below : List Frame} {meth : Method} {c : Code} {H : Heap} {locs : List Loc} {cells slots : Nat} {Q : State → Prop} {cc : ByteArray} {pc nL index : Nat} {ls : Array Slot} {rest : List Value} {own : String} {k0 : Nat} {out : Int32} (hx : p.tables.exec = Jvm.exec) (hb : c.code = cc) (hml : c.maxLocals = nL) (hown : s.vm.findClass own = some m.cls) (hV : gx_V G s) (hw : gx_at G (I, V) M o d s.heap H locs) (hk0 : gx_isW k0) (hF : f_X5_brickCount k0 I V = some out) (hlink : (Cond.methodLink own index yX5_brickCount).before args s = true) (hsz : ls.size = nL) (hfr : 3 ≤ R.frames) (hlo : 64 ≤ R.locals) (hrest : (rest.map fun v => v.category).sum ≤ 8) (hdg : decode cc pc = .ok (.invokevirtual index, 3))
    (kk : ∀ (H1 : Heap) (locs1 : List Loc), gx_at G (I, V) M o d s.heap H1 locs1 → W p l e R s m args below meth c H1 locs1 cells slots Q (F0 m (pc + 3) ls (.int out :: rest))) (hc : cells ≤ R.cells := by exact Nat.zero_le _) (hs : slots ≤ R.slots := by exact Nat.zero_le _) : W p l e R s m args below meth c H locs cells slots Q (F0 m pc ls (.ref (G.2.1 k0) :: rest)) :=
  gx_runi hw (va_runV (C := RX5) (As := []) (rest := rest) ⟨hx, hb, hml, hown, (fun _ h => nomatch h : ∀ w ∈ ([] : List Cond), w.before args s = true)⟩ (k_X5_brickCount hk0 hF) ⟨gx_callB (n := 0) rfl rfl hlink (gw_50 hV) (gw_280 hV) (by decide +kernel) ⟨hfr, hlo⟩, gw_278 hV, gw_279 hV⟩ (gx_recv (k := k0) (ci := 7) (T := TX5) hV hw (gx_Wk hk0) (gc_W hk0) rfl) rfl rfl hsz rfl (lv_room hrest) hdg ⟨hc, hs⟩) kk
set_option maxHeartbeats 4000000 in
set_option maxRecDepth 100000 in
theorem k_X6_turnOf {l : Launch} {G : gx_G} {M : gx_S} {o : Int64} {d : UInt64} {I V : gx_F} {x0 : Int32} {out : Int32} (hF : f_X6_turnOf x0 I V = some out) : gx_K l yX6_turnOf cX6_turnOf 1 (some .int) { frames := 0, cells := 0, slots := 0, locals := 0 } [.int x0] G (I, V) M o d (gx_Qi G out (I, V) M o d) 0 0 := by
  refine gx_begin (by decide +kernel) (Nat.le_of_ble_eq_true rfl) ?_
  intro p e s m below meth c hx hb hr hml hown hlocks hV hw ls hl
  have hown : s.vm.findClass RX6 = some m.cls := hown
  have hl : lv_has ls 1 [(0, .int x0)] := hl
  unfold f_X6_turnOf at hF
  refine lv_iload_n (pc := 0) hx hb dX6_turnOf_0 rfl (lv_at hl 0 rfl) ?_
  refine lv_iconst (pc := 1) (v := 4) hx hb dX6_turnOf_1 (by decide) ?_
  refine lv_irem (pc := 2) hx hb dX6_turnOf_2 (by decide) ?_
  cases hF
  exact gx_iret hx hb hr hlocks hw dX6_turnOf_3
set_option maxRecDepth 100000 in
theorem cl_X6_turnOf {l : Launch} {G : gx_G} {M : gx_S} {o : Int64} {d : UInt64} {I V : gx_F} {p : Program} {e : Env} {R : Room} {s : State} {m : MethodId} {args : Array Value} {below : List Frame} {meth : Method} {c : Code} {H : Heap} {locs : List Loc} {cells slots : Nat} {Q : State → Prop} {cc : ByteArray} {pc nL index : Nat} {ls : Array Slot} {rest : List Value} {own : String} {x0 : Int32} {out : Int32} (hx : p.tables.exec = Jvm.exec) (hb : c.code = cc) (hml : c.maxLocals = nL) (hown : s.vm.findClass own = some m.cls) (hV : gx_V G s) (hw : gx_at G (I, V) M o d s.heap H locs) (hF : f_X6_turnOf x0 I V = some out) (hlink : (Cond.methodLink own index yX6_turnOf).before args s = true) (hsz : ls.size = nL) (hfr : 1 ≤ R.frames) (hlo : 20 ≤ R.locals) (hrest : (rest.map fun v => v.category).sum ≤ 8) (hdg : decode cc pc = .ok (.invokestatic index, 3))
    (kk : ∀ (H1 : Heap) (locs1 : List Loc), gx_at G (I, V) M o d s.heap H1 locs1 → W p l e R s m args below meth c H1 locs1 cells slots Q (F0 m (pc + 3) ls (.int out :: rest))) (hc : cells ≤ R.cells := by exact Nat.zero_le _) (hs : slots ≤ R.slots := by exact Nat.zero_le _) : W p l e R s m args below meth c H locs cells slots Q (F0 m pc ls (.int x0 :: rest)) :=
  gx_runi hw (va_runS (As := [.int x0]) (rest := rest) ⟨hx, hb, hml, hown, (fun _ h => nomatch h : ∀ w ∈ ([] : List Cond), w.before args s = true)⟩ (k_X6_turnOf hF) ⟨gx_callB (n := 1) rfl rfl hlink (gw_49 hV) (gw_698 hV) (by decide +kernel) ⟨hfr, hlo⟩, gw_697 hV⟩ (gx_pre hV hw) rfl rfl hsz rfl (lv_room hrest) hdg ⟨hc, hs⟩) kk
