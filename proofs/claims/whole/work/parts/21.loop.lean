/-! THE LAW'S LOOP over its cases -/
noncomputable def f_law_sel (xs : Nat → Int32) (L : Nat) (v : Int32) (K : gx_F → gx_F → gx_F → gx_F → Int64 → UInt64 → Option Int32) (I V J U : gx_F) (o : Int64) (d : UInt64) : Option Int32 := (if xs v.toNatClampNeg &&& 63 = 0 then f_law_c0 xs L v K I V J U o d else (if xs v.toNatClampNeg &&& 63 = 1 then f_law_c1 xs L v K I V J U o d else (if xs v.toNatClampNeg &&& 63 = 2 then f_law_c2 xs L v K I V J U o d else (if xs v.toNatClampNeg &&& 63 = 3 then f_law_c3 xs L v K I V J U o d else (if xs v.toNatClampNeg &&& 63 = 4 then f_law_c4 xs L v K I V J U o d else (if xs v.toNatClampNeg &&& 63 = 5 then f_law_c5 xs L v K I V J U o d else (if xs v.toNatClampNeg &&& 63 = 6 then f_law_c6 xs L v K I V J U o d else (if xs v.toNatClampNeg &&& 63 = 7 then f_law_c7 xs L v K I V J U o d else (if xs v.toNatClampNeg &&& 63 = 8 then f_law_c8 xs L v K I V J U o d else (if xs v.toNatClampNeg &&& 63 = 9 then f_law_c9 xs L v K I V J U o d else (if xs v.toNatClampNeg &&& 63 = 10 then f_law_c10 xs L v K I V J U o d else (if xs v.toNatClampNeg &&& 63 = 11 then f_law_c11 xs L v K I V J U o d else (if xs v.toNatClampNeg &&& 63 = 12 then f_law_c12 xs L v K I V J U o d else (if xs v.toNatClampNeg &&& 63 = 13 then f_law_c13 xs L v K I V J U o d else (if xs v.toNatClampNeg &&& 63 = 14 then f_law_c14 xs L v K I V J U o d else (if xs v.toNatClampNeg &&& 63 = 15 then f_law_c15 xs L v K I V J U o d else (if xs v.toNatClampNeg &&& 63 = 16 then f_law_c16 xs L v K I V J U o d else (if xs v.toNatClampNeg &&& 63 = 17 then f_law_c17 xs L v K I V J U o d else (if xs v.toNatClampNeg &&& 63 = 18 then f_law_c18 xs L v K I V J U o d else (if xs v.toNatClampNeg &&& 63 = 19 then f_law_c19 xs L v K I V J U o d else (if xs v.toNatClampNeg &&& 63 = 20 then f_law_c20 xs L v K I V J U o d else (if xs v.toNatClampNeg &&& 63 = 21 then f_law_c21 xs L v K I V J U o d else (if xs v.toNatClampNeg &&& 63 = 22 then f_law_c22 xs L v K I V J U o d else (if xs v.toNatClampNeg &&& 63 = 23 then f_law_c23 xs L v K I V J U o d else (if xs v.toNatClampNeg &&& 63 = 24 then f_law_c24 xs L v K I V J U o d else (if xs v.toNatClampNeg &&& 63 = 25 then f_law_c25 xs L v K I V J U o d else (if xs v.toNatClampNeg &&& 63 = 26 then f_law_c26 xs L v K I V J U o d else (if xs v.toNatClampNeg &&& 63 = 27 then f_law_c27 xs L v K I V J U o d else (if xs v.toNatClampNeg &&& 63 = 28 then f_law_c28 xs L v K I V J U o d else (if xs v.toNatClampNeg &&& 63 = 29 then f_law_c29 xs L v K I V J U o d else (if xs v.toNatClampNeg &&& 63 = 30 then f_law_c30 xs L v K I V J U o d else (if xs v.toNatClampNeg &&& 63 = 31 then f_law_c31 xs L v K I V J U o d else (if xs v.toNatClampNeg &&& 63 = 32 then f_law_c32 xs L v K I V J U o d else (if xs v.toNatClampNeg &&& 63 = 33 then f_law_c33 xs L v K I V J U o d else (if xs v.toNatClampNeg &&& 63 = 34 then f_law_c34 xs L v K I V J U o d else (if xs v.toNatClampNeg &&& 63 = 35 then f_law_c35 xs L v K I V J U o d else (if xs v.toNatClampNeg &&& 63 = 36 then f_law_c36 xs L v K I V J U o d else K I V J U o d)))))))))))))))))))))))))))))))))))))
noncomputable def f_law_L (xs : Nat → Int32) (L : Nat) : Nat → Int32 → gx_F → gx_F → gx_F → gx_F → Int64 → UInt64 → Option Int32
  | 0, _, _, _, _, _, _, _ => none
  | n + 1, v, I, V, J, U, o, d => (if (Int32.ofNat L - 5) < v then some 1 else (gx_ck (gx_in v L) (f_law_sel xs L v (fun I V J U o d => f_law_L xs L n (v + 5) I V J U o d) I V J U o d)))
theorem gx_slen {p : Program} {l : Launch} {e : Env} {R : Room} {s : State} {m : MethodId} {args : Array Value} {below : List Frame} {meth : Method} {c : Code} {H : Heap} {locs : List Loc} {cells slots : Nat} {Q : State → Prop} {cc : ByteArray} {pc : Nat} {ls : Array Slot} {rest : List Value} {G : gx_G} {C M : gx_S} {o : Int64} {d : UInt64} (hx : p.tables.exec = Jvm.exec) (hb : c.code = cc) {b L : Nat} {xs : Nat → Int32} (hX : va_X b L xs s s.heap) (hbl : b < s.heap.size) (hbA : ¬ gx_A G b) (hw : gx_at G C M o d s.heap H locs) (hdg : decode cc pc = .ok (.arraylength, 1))
    (kk : W p l e R s m args below meth c H locs cells slots Q (F0 m (pc + 1) ls (.int (Int32.ofNat L) :: rest))) : W p l e R s m args below meth c H locs cells slots Q (F0 m pc ls (.ref b :: rest)) :=
  va_slen hx hb hX hbl hbA hw.2.1 hdg kk
set_option maxHeartbeats 4000000 in
set_option maxRecDepth 100000 in
theorem w_law_sel {p : Program} {l : Launch} {e : Env} {s : State} {m : MethodId} {A9 : Array Value} {below : List Frame} {meth : Method} {c : Code} {H : Heap} {locs : List Loc} {cells slots : Nat} {Q : State → Prop} {ls : Array Slot} {G : gx_G} {I V J U : gx_F} {o : Int64} {d : UInt64} {b L : Nat} {xs : Nat → Int32} {v : Int32} {K : gx_F → gx_F → gx_F → gx_F → Int64 → UInt64 → Option Int32} (hl9 : l.stackTraces = false) (hx : p.tables.exec = Jvm.exec) (hb : c.code = cL_law) (hml : c.maxLocals = 9) (hown : s.vm.findClass RL = some m.cls) (hV : gx_V G s) (hZ : gx_Z G s s.heap) (hX : va_X b L xs s s.heap) (hbl : b < s.heap.size) (hbA : ¬ gx_A G b) (hc1 : cells + 1 ≤ room_1.cells) (hs1 : slots + 6 ≤ room_1.slots) (hl : lv_has ls 9 [(0, .ref b), (1, .ref (G.2.1 44)), (2, .ref (G.2.1 58)), (3, .ref (G.2.1 68)), (4, .ref (G.2.1 69)), (5, .int v)]) (hw : gx_at G (I, V) (J, U) o d s.heap H locs) (hF : f_law_sel xs L v K I V J U o d = some 1)
    (hK : ∀ (I V J U : gx_F) (o : Int64) (d : UInt64) (H : Heap) (locs : List Loc) (ls : Array Slot), lv_has ls 9 [(0, .ref b), (1, .ref (G.2.1 44)), (2, .ref (G.2.1 58)), (3, .ref (G.2.1 68)), (4, .ref (G.2.1 69)), (5, .int v)] → gx_at G (I, V) (J, U) o d s.heap H locs → K I V J U o d = some 1 → W p l e room_1 s m A9 below meth c H locs (cells + 1) (slots + 6) Q (F0 m 2154 ls [])) : W p l e room_1 s m A9 below meth c H locs cells slots Q (F0 m 44 ls [.int (xs v.toNatClampNeg &&& 63)]) := by
  unfold f_law_sel at hF
  by_cases hz0 : xs v.toNatClampNeg &&& 63 = 0
  · rw [if_pos hz0] at hF
    refine lv_tableIn (pc := 44) (off := 164) (tgt := 208) hx hb dL_law_44 (by rw [hz0]; decide) (by rw [hz0]; decide) (by rw [hz0]; rfl) (by decide) ?_
    exact w_law_c0 hl9 hx hb hml hown hV hZ hX hbl hbA hc1 hs1 hl hw hF hK
  rw [if_neg hz0] at hF
  by_cases hz1 : xs v.toNatClampNeg &&& 63 = 1
  · rw [if_pos hz1] at hF
    refine lv_tableIn (pc := 44) (off := 256) (tgt := 300) hx hb dL_law_44 (by rw [hz1]; decide) (by rw [hz1]; decide) (by rw [hz1]; rfl) (by decide) ?_
    exact w_law_c1 hl9 hx hb hml hown hV hZ hX hbl hbA hc1 hs1 hl hw hF hK
  rw [if_neg hz1] at hF
  by_cases hz2 : xs v.toNatClampNeg &&& 63 = 2
  · rw [if_pos hz2] at hF
    refine lv_tableIn (pc := 44) (off := 336) (tgt := 380) hx hb dL_law_44 (by rw [hz2]; decide) (by rw [hz2]; decide) (by rw [hz2]; rfl) (by decide) ?_
    exact w_law_c2 hl9 hx hb hml hown hV hZ hX hbl hbA hc1 hs1 hl hw hF hK
  rw [if_neg hz2] at hF
  by_cases hz3 : xs v.toNatClampNeg &&& 63 = 3
  · rw [if_pos hz3] at hF
    refine lv_tableIn (pc := 44) (off := 392) (tgt := 436) hx hb dL_law_44 (by rw [hz3]; decide) (by rw [hz3]; decide) (by rw [hz3]; rfl) (by decide) ?_
    exact w_law_c3 hl9 hx hb hml hown hV hZ hX hbl hbA hc1 hs1 hl hw hF hK
  rw [if_neg hz3] at hF
  by_cases hz4 : xs v.toNatClampNeg &&& 63 = 4
  · rw [if_pos hz4] at hF
    refine lv_tableIn (pc := 44) (off := 448) (tgt := 492) hx hb dL_law_44 (by rw [hz4]; decide) (by rw [hz4]; decide) (by rw [hz4]; rfl) (by decide) ?_
    exact w_law_c4 hl9 hx hb hml hown hV hZ hX hbl hbA hc1 hs1 hl hw hF hK
  rw [if_neg hz4] at hF
  by_cases hz5 : xs v.toNatClampNeg &&& 63 = 5
  · rw [if_pos hz5] at hF
    refine lv_tableIn (pc := 44) (off := 516) (tgt := 560) hx hb dL_law_44 (by rw [hz5]; decide) (by rw [hz5]; decide) (by rw [hz5]; rfl) (by decide) ?_
    exact w_law_c5 hl9 hx hb hml hown hV hZ hX hbl hbA hc1 hs1 hl hw hF hK
  rw [if_neg hz5] at hF
  by_cases hz6 : xs v.toNatClampNeg &&& 63 = 6
  · rw [if_pos hz6] at hF
    refine lv_tableIn (pc := 44) (off := 572) (tgt := 616) hx hb dL_law_44 (by rw [hz6]; decide) (by rw [hz6]; decide) (by rw [hz6]; rfl) (by decide) ?_
    exact w_law_c6 hl9 hx hb hml hown hV hZ hX hbl hbA hc1 hs1 hl hw hF hK
  rw [if_neg hz6] at hF
  by_cases hz7 : xs v.toNatClampNeg &&& 63 = 7
  · rw [if_pos hz7] at hF
    refine lv_tableIn (pc := 44) (off := 652) (tgt := 696) hx hb dL_law_44 (by rw [hz7]; decide) (by rw [hz7]; decide) (by rw [hz7]; rfl) (by decide) ?_
    exact w_law_c7 hl9 hx hb hml hown hV hZ hX hbl hbA hc1 hs1 hl hw hF hK
  rw [if_neg hz7] at hF
  by_cases hz8 : xs v.toNatClampNeg &&& 63 = 8
  · rw [if_pos hz8] at hF
    refine lv_tableIn (pc := 44) (off := 708) (tgt := 752) hx hb dL_law_44 (by rw [hz8]; decide) (by rw [hz8]; decide) (by rw [hz8]; rfl) (by decide) ?_
    exact w_law_c8 hl9 hx hb hml hown hV hZ hX hbl hbA hc1 hs1 hl hw hF hK
  rw [if_neg hz8] at hF
  by_cases hz9 : xs v.toNatClampNeg &&& 63 = 9
  · rw [if_pos hz9] at hF
    refine lv_tableIn (pc := 44) (off := 792) (tgt := 836) hx hb dL_law_44 (by rw [hz9]; decide) (by rw [hz9]; decide) (by rw [hz9]; rfl) (by decide) ?_
    exact w_law_c9 hl9 hx hb hml hown hV hZ hX hbl hbA hc1 hs1 hl hw hF hK
  rw [if_neg hz9] at hF
  by_cases hz10 : xs v.toNatClampNeg &&& 63 = 10
  · rw [if_pos hz10] at hF
    refine lv_tableIn (pc := 44) (off := 836) (tgt := 880) hx hb dL_law_44 (by rw [hz10]; decide) (by rw [hz10]; decide) (by rw [hz10]; rfl) (by decide) ?_
    exact w_law_c10 hl9 hx hb hml hown hV hZ hX hbl hbA hc1 hs1 hl hw hF hK
  rw [if_neg hz10] at hF
  by_cases hz11 : xs v.toNatClampNeg &&& 63 = 11
  · rw [if_pos hz11] at hF
    refine lv_tableIn (pc := 44) (off := 892) (tgt := 936) hx hb dL_law_44 (by rw [hz11]; decide) (by rw [hz11]; decide) (by rw [hz11]; rfl) (by decide) ?_
    exact w_law_c11 hl9 hx hb hml hown hV hZ hX hbl hbA hc1 hs1 hl hw hF hK
  rw [if_neg hz11] at hF
  by_cases hz12 : xs v.toNatClampNeg &&& 63 = 12
  · rw [if_pos hz12] at hF
    refine lv_tableIn (pc := 44) (off := 948) (tgt := 992) hx hb dL_law_44 (by rw [hz12]; decide) (by rw [hz12]; decide) (by rw [hz12]; rfl) (by decide) ?_
    exact w_law_c12 hl9 hx hb hml hown hV hZ hX hbl hbA hc1 hs1 hl hw hF hK
  rw [if_neg hz12] at hF
  by_cases hz13 : xs v.toNatClampNeg &&& 63 = 13
  · rw [if_pos hz13] at hF
    refine lv_tableIn (pc := 44) (off := 1028) (tgt := 1072) hx hb dL_law_44 (by rw [hz13]; decide) (by rw [hz13]; decide) (by rw [hz13]; rfl) (by decide) ?_
    exact w_law_c13 hl9 hx hb hml hown hV hZ hX hbl hbA hc1 hs1 hl hw hF hK
  rw [if_neg hz13] at hF
  by_cases hz14 : xs v.toNatClampNeg &&& 63 = 14
  · rw [if_pos hz14] at hF
    refine lv_tableIn (pc := 44) (off := 1091) (tgt := 1135) hx hb dL_law_44 (by rw [hz14]; decide) (by rw [hz14]; decide) (by rw [hz14]; rfl) (by decide) ?_
    exact w_law_c14 hl9 hx hb hml hown hV hZ hX hbl hbA hc1 hs1 hl hw hF hK
  rw [if_neg hz14] at hF
  by_cases hz15 : xs v.toNatClampNeg &&& 63 = 15
  · rw [if_pos hz15] at hF
    refine lv_tableIn (pc := 44) (off := 1104) (tgt := 1148) hx hb dL_law_44 (by rw [hz15]; decide) (by rw [hz15]; decide) (by rw [hz15]; rfl) (by decide) ?_
    exact w_law_c15 hl9 hx hb hml hown hV hZ hX hbl hbA hc1 hs1 hl hw hF hK
  rw [if_neg hz15] at hF
  by_cases hz16 : xs v.toNatClampNeg &&& 63 = 16
  · rw [if_pos hz16] at hF
    refine lv_tableIn (pc := 44) (off := 1160) (tgt := 1204) hx hb dL_law_44 (by rw [hz16]; decide) (by rw [hz16]; decide) (by rw [hz16]; rfl) (by decide) ?_
    exact w_law_c16 hl9 hx hb hml hown hV hZ hX hbl hbA hc1 hs1 hl hw hF hK
  rw [if_neg hz16] at hF
  by_cases hz17 : xs v.toNatClampNeg &&& 63 = 17
  · rw [if_pos hz17] at hF
    refine lv_tableIn (pc := 44) (off := 1173) (tgt := 1217) hx hb dL_law_44 (by rw [hz17]; decide) (by rw [hz17]; decide) (by rw [hz17]; rfl) (by decide) ?_
    exact w_law_c17 hl9 hx hb hml hown hV hZ hX hbl hbA hc1 hs1 hl hw hF hK
  rw [if_neg hz17] at hF
  by_cases hz18 : xs v.toNatClampNeg &&& 63 = 18
  · rw [if_pos hz18] at hF
    refine lv_tableIn (pc := 44) (off := 1229) (tgt := 1273) hx hb dL_law_44 (by rw [hz18]; decide) (by rw [hz18]; decide) (by rw [hz18]; rfl) (by decide) ?_
    exact w_law_c18 hl9 hx hb hml hown hV hZ hX hbl hbA hc1 hs1 hl hw hF hK
  rw [if_neg hz18] at hF
  by_cases hz19 : xs v.toNatClampNeg &&& 63 = 19
  · rw [if_pos hz19] at hF
    refine lv_tableIn (pc := 44) (off := 1273) (tgt := 1317) hx hb dL_law_44 (by rw [hz19]; decide) (by rw [hz19]; decide) (by rw [hz19]; rfl) (by decide) ?_
    exact w_law_c19 hl9 hx hb hml hown hV hZ hX hbl hbA hc1 hs1 hl hw hF hK
  rw [if_neg hz19] at hF
  by_cases hz20 : xs v.toNatClampNeg &&& 63 = 20
  · rw [if_pos hz20] at hF
    refine lv_tableIn (pc := 44) (off := 1317) (tgt := 1361) hx hb dL_law_44 (by rw [hz20]; decide) (by rw [hz20]; decide) (by rw [hz20]; rfl) (by decide) ?_
    exact w_law_c20 hl9 hx hb hml hown hV hZ hX hbl hbA hc1 hs1 hl hw hF hK
  rw [if_neg hz20] at hF
  by_cases hz21 : xs v.toNatClampNeg &&& 63 = 21
  · rw [if_pos hz21] at hF
    refine lv_tableIn (pc := 44) (off := 1373) (tgt := 1417) hx hb dL_law_44 (by rw [hz21]; decide) (by rw [hz21]; decide) (by rw [hz21]; rfl) (by decide) ?_
    exact w_law_c21 hl9 hx hb hml hown hV hZ hX hbl hbA hc1 hs1 hl hw hF hK
  rw [if_neg hz21] at hF
  by_cases hz22 : xs v.toNatClampNeg &&& 63 = 22
  · rw [if_pos hz22] at hF
    refine lv_tableIn (pc := 44) (off := 1386) (tgt := 1430) hx hb dL_law_44 (by rw [hz22]; decide) (by rw [hz22]; decide) (by rw [hz22]; rfl) (by decide) ?_
    exact w_law_c22 hl9 hx hb hml hown hV hZ hX hbl hbA hc1 hs1 hl hw hF hK
  rw [if_neg hz22] at hF
  by_cases hz23 : xs v.toNatClampNeg &&& 63 = 23
  · rw [if_pos hz23] at hF
    refine lv_tableIn (pc := 44) (off := 1399) (tgt := 1443) hx hb dL_law_44 (by rw [hz23]; decide) (by rw [hz23]; decide) (by rw [hz23]; rfl) (by decide) ?_
    exact w_law_c23 hl9 hx hb hml hown hV hZ hX hbl hbA hc1 hs1 hl hw hF hK
  rw [if_neg hz23] at hF
  by_cases hz24 : xs v.toNatClampNeg &&& 63 = 24
  · rw [if_pos hz24] at hF
    refine lv_tableIn (pc := 44) (off := 1483) (tgt := 1527) hx hb dL_law_44 (by rw [hz24]; decide) (by rw [hz24]; decide) (by rw [hz24]; rfl) (by decide) ?_
    exact w_law_c24 hl9 hx hb hml hown hV hZ hX hbl hbA hc1 hs1 hl hw hF hK
  rw [if_neg hz24] at hF
  by_cases hz25 : xs v.toNatClampNeg &&& 63 = 25
  · rw [if_pos hz25] at hF
    refine lv_tableIn (pc := 44) (off := 1539) (tgt := 1583) hx hb dL_law_44 (by rw [hz25]; decide) (by rw [hz25]; decide) (by rw [hz25]; rfl) (by decide) ?_
    exact w_law_c25 hl9 hx hb hml hown hV hZ hX hbl hbA hc1 hs1 hl hw hF hK
  rw [if_neg hz25] at hF
  by_cases hz26 : xs v.toNatClampNeg &&& 63 = 26
  · rw [if_pos hz26] at hF
    refine lv_tableIn (pc := 44) (off := 1597) (tgt := 1641) hx hb dL_law_44 (by rw [hz26]; decide) (by rw [hz26]; decide) (by rw [hz26]; rfl) (by decide) ?_
    exact w_law_c26 hl9 hx hb hml hown hV hZ hX hbl hbA hc1 hs1 hl hw hF hK
  rw [if_neg hz26] at hF
  by_cases hz27 : xs v.toNatClampNeg &&& 63 = 27
  · rw [if_pos hz27] at hF
    refine lv_tableIn (pc := 44) (off := 1641) (tgt := 1685) hx hb dL_law_44 (by rw [hz27]; decide) (by rw [hz27]; decide) (by rw [hz27]; rfl) (by decide) ?_
    exact w_law_c27 hl9 hx hb hml hown hV hZ hX hbl hbA hc1 hs1 hl hw hF hK
  rw [if_neg hz27] at hF
  by_cases hz28 : xs v.toNatClampNeg &&& 63 = 28
  · rw [if_pos hz28] at hF
    refine lv_tableIn (pc := 44) (off := 1654) (tgt := 1698) hx hb dL_law_44 (by rw [hz28]; decide) (by rw [hz28]; decide) (by rw [hz28]; rfl) (by decide) ?_
    exact w_law_c28 hl9 hx hb hml hown hV hZ hX hbl hbA hc1 hs1 hl hw hF hK
  rw [if_neg hz28] at hF
  by_cases hz29 : xs v.toNatClampNeg &&& 63 = 29
  · rw [if_pos hz29] at hF
    refine lv_tableIn (pc := 44) (off := 1710) (tgt := 1754) hx hb dL_law_44 (by rw [hz29]; decide) (by rw [hz29]; decide) (by rw [hz29]; rfl) (by decide) ?_
    exact w_law_c29 hl9 hx hb hml hown hV hZ hX hbl hbA hc1 hs1 hl hw hF hK
  rw [if_neg hz29] at hF
  by_cases hz30 : xs v.toNatClampNeg &&& 63 = 30
  · rw [if_pos hz30] at hF
    refine lv_tableIn (pc := 44) (off := 1766) (tgt := 1810) hx hb dL_law_44 (by rw [hz30]; decide) (by rw [hz30]; decide) (by rw [hz30]; rfl) (by decide) ?_
    exact w_law_c30 hl9 hx hb hml hown hV hZ hX hbl hbA hc1 hs1 hl hw hF hK
  rw [if_neg hz30] at hF
  by_cases hz31 : xs v.toNatClampNeg &&& 63 = 31
  · rw [if_pos hz31] at hF
    refine lv_tableIn (pc := 44) (off := 1822) (tgt := 1866) hx hb dL_law_44 (by rw [hz31]; decide) (by rw [hz31]; decide) (by rw [hz31]; rfl) (by decide) ?_
    exact w_law_c31 hl9 hx hb hml hown hV hZ hX hbl hbA hc1 hs1 hl hw hF hK
  rw [if_neg hz31] at hF
  by_cases hz32 : xs v.toNatClampNeg &&& 63 = 32
  · rw [if_pos hz32] at hF
    refine lv_tableIn (pc := 44) (off := 1887) (tgt := 1931) hx hb dL_law_44 (by rw [hz32]; decide) (by rw [hz32]; decide) (by rw [hz32]; rfl) (by decide) ?_
    exact w_law_c32 hl9 hx hb hml hown hV hZ hX hbl hbA hc1 hs1 hl hw hF hK
  rw [if_neg hz32] at hF
  by_cases hz33 : xs v.toNatClampNeg &&& 63 = 33
  · rw [if_pos hz33] at hF
    refine lv_tableIn (pc := 44) (off := 1953) (tgt := 1997) hx hb dL_law_44 (by rw [hz33]; decide) (by rw [hz33]; decide) (by rw [hz33]; rfl) (by decide) ?_
    exact w_law_c33 hl9 hx hb hml hown hV hZ hX hbl hbA hc1 hs1 hl hw hF hK
  rw [if_neg hz33] at hF
  by_cases hz34 : xs v.toNatClampNeg &&& 63 = 34
  · rw [if_pos hz34] at hF
    refine lv_tableIn (pc := 44) (off := 2009) (tgt := 2053) hx hb dL_law_44 (by rw [hz34]; decide) (by rw [hz34]; decide) (by rw [hz34]; rfl) (by decide) ?_
    exact w_law_c34 hl9 hx hb hml hown hV hZ hX hbl hbA hc1 hs1 hl hw hF hK
  rw [if_neg hz34] at hF
  by_cases hz35 : xs v.toNatClampNeg &&& 63 = 35
  · rw [if_pos hz35] at hF
    refine lv_tableIn (pc := 44) (off := 2053) (tgt := 2097) hx hb dL_law_44 (by rw [hz35]; decide) (by rw [hz35]; decide) (by rw [hz35]; rfl) (by decide) ?_
    exact w_law_c35 hl9 hx hb hml hown hV hZ hX hbl hbA hc1 hs1 hl hw hF hK
  rw [if_neg hz35] at hF
  by_cases hz36 : xs v.toNatClampNeg &&& 63 = 36
  · rw [if_pos hz36] at hF
    refine lv_tableIn (pc := 44) (off := 2066) (tgt := 2110) hx hb dL_law_44 (by rw [hz36]; decide) (by rw [hz36]; decide) (by rw [hz36]; rfl) (by decide) ?_
    exact w_law_c36 hl9 hx hb hml hown hV hZ hX hbl hbA hc1 hs1 hl hw hF hK
  rw [if_neg hz36] at hF
  refine gx_tableD (pc := 44) (tgt := 2154) hx hb dL_law_44 [0, 1, 2, 3, 4, 5, 6, 7, 8, 9, 10, 11, 12, 13, 14, 15, 16, 17, 18, 19, 20, 21, 22, 23, 24, 25, 26, 27, 28, 29, 30, 31, 32, 33, 34, 35, 36] (List.forall_mem_cons.mpr ⟨hz0, (List.forall_mem_cons.mpr ⟨hz1, (List.forall_mem_cons.mpr ⟨hz2, (List.forall_mem_cons.mpr ⟨hz3, (List.forall_mem_cons.mpr ⟨hz4, (List.forall_mem_cons.mpr ⟨hz5, (List.forall_mem_cons.mpr ⟨hz6, (List.forall_mem_cons.mpr ⟨hz7, (List.forall_mem_cons.mpr ⟨hz8, (List.forall_mem_cons.mpr ⟨hz9, (List.forall_mem_cons.mpr ⟨hz10, (List.forall_mem_cons.mpr ⟨hz11, (List.forall_mem_cons.mpr ⟨hz12, (List.forall_mem_cons.mpr ⟨hz13, (List.forall_mem_cons.mpr ⟨hz14, (List.forall_mem_cons.mpr ⟨hz15, (List.forall_mem_cons.mpr ⟨hz16, (List.forall_mem_cons.mpr ⟨hz17, (List.forall_mem_cons.mpr ⟨hz18, (List.forall_mem_cons.mpr ⟨hz19, (List.forall_mem_cons.mpr ⟨hz20, (List.forall_mem_cons.mpr ⟨hz21, (List.forall_mem_cons.mpr ⟨hz22, (List.forall_mem_cons.mpr ⟨hz23, (List.forall_mem_cons.mpr ⟨hz24, (List.forall_mem_cons.mpr ⟨hz25, (List.forall_mem_cons.mpr ⟨hz26, (List.forall_mem_cons.mpr ⟨hz27, (List.forall_mem_cons.mpr ⟨hz28, (List.forall_mem_cons.mpr ⟨hz29, (List.forall_mem_cons.mpr ⟨hz30, (List.forall_mem_cons.mpr ⟨hz31, (List.forall_mem_cons.mpr ⟨hz32, (List.forall_mem_cons.mpr ⟨hz33, (List.forall_mem_cons.mpr ⟨hz34, (List.forall_mem_cons.mpr ⟨hz35, (List.forall_mem_cons.mpr ⟨hz36, (fun _ h => nomatch h)⟩)⟩)⟩)⟩)⟩)⟩)⟩)⟩)⟩)⟩)⟩)⟩)⟩)⟩)⟩)⟩)⟩)⟩)⟩)⟩)⟩)⟩)⟩)⟩)⟩)⟩)⟩)⟩)⟩)⟩)⟩)⟩)⟩)⟩)⟩)⟩)⟩) (by decide) (by decide) (by decide) ?_
  refine W.widen (k := cells + 1) (n := slots + 6) (Nat.le_add_right _ _) (Nat.le_add_right _ _) ?_
  exact hK _ _ _ _ _ _ _ _ _ hl hw hF
set_option maxHeartbeats 4000000 in
set_option maxRecDepth 100000 in
theorem w_law_L {p : Program} {l : Launch} {e : Env} {s : State} {m : MethodId} {below : List Frame} {meth : Method} {c : Code} {G : gx_G} {b L : Nat} {xs : Nat → Int32} (hl9 : l.stackTraces = false) (hx : p.tables.exec = Jvm.exec) (hb : c.code = cL_law) (hr : meth.sig.returnType = ret) (hlocks : meth.locks = false) (hml : c.maxLocals = 9) (hown : s.vm.findClass RL = some m.cls) (hV : gx_V G s) (hZ : gx_Z G s s.heap) (hX : va_X b L xs s s.heap) (hbl : b < s.heap.size) (hbA : ¬ gx_A G b) (hAs : ∀ q, gx_A G q → s.heap.size ≤ q) :
    ∀ (n : Nat) (v : Int32) (I V J U : gx_F) (o : Int64) (d : UInt64) (H : Heap) (locs : List Loc) (ls : Array Slot) (cells slots : Nat), cells + n ≤ 603072 → slots + 6 * n ≤ 7219306 → lv_has ls 9 [(0, .ref b), (1, .ref (G.2.1 44)), (2, .ref (G.2.1 58)), (3, .ref (G.2.1 68)), (4, .ref (G.2.1 69)), (5, .int v)] → gx_at G (I, V) (J, U) o d s.heap H locs → f_law_L xs L n v I V J U o d = some 1 →
      W p l e room_1 s m #[Value.ref b] below meth c H locs cells slots (lw_Z below #[Value.ref b] s) (F0 m 28 ls []) := by
  intro n
  induction n with
  | zero =>
    intro v I V J U o d H locs ls cells slots hcn hsn hl hw hF
    rw [f_law_L] at hF
    cases hF
  | succ n ih =>
    intro v I V J U o d H locs ls cells slots hcn hsn hl hw hF
    rw [f_law_L] at hF
    refine lv_iload (pc := 28) hx hb dL_law_28 (lv_at hl 5 rfl) ?_
    refine lv_aload_n (pc := 30) hx hb dL_law_30 rfl (lv_at hl 0 rfl) ?_
    refine gx_slen (pc := 31) hx hb hX hbl hbA hw dL_law_31 ?_
    refine lv_iconst (pc := 32) (v := 5) hx hb dL_law_32 (by decide) ?_
    refine lv_isub (pc := 33) hx hb dL_law_33 ?_
    refine gx_icmp_gt (pc := 34) (tgt := 2160) hx hb hF dL_law_34 (by decide) (fun hF => ?_) (fun hF => ?_)
    · refine lv_iconst (pc := 2160) (v := 1) hx hb dL_law_2160 (by decide) ?_
      refine va_forget (fun q hq => hAs _ (hw.2.1.2.2 q hq)) ?_
      refine W.widen (k := 603072) (n := 7219306) (by omega) (by omega) ?_
      exact lw_ret (d0 := s.drawn) (Drawn.sameBut.refl _ _) hx hb hr hlocks dL_law_2161
    refine lv_aload_n (pc := 37) hx hb dL_law_37 rfl (lv_at hl 0 rfl) ?_
    refine lv_iload (pc := 38) hx hb dL_law_38 (lv_at hl 5 rfl) ?_
    refine gx_sld (pc := 40) hx hb hX hbl hbA hw hF dL_law_40 (fun _ hF => ?_)
    refine lv_bipush (pc := 41) (v := 63) hx hb dL_law_41 (by decide) ?_
    refine lv_iand (pc := 43) hx hb dL_law_43 ?_
    refine w_law_sel hl9 hx hb hml hown hV hZ hX hbl hbA (show cells + 1 ≤ 603072 by omega) (show slots + 6 ≤ 7219306 by omega) hl hw hF (fun I V J U o d H locs ls hl hw hF => ?_)
    refine lv_iinc (pc := 2154) (v := (v + 5)) (lv' := [(5, .int (v + 5)), (0, .ref b), (1, .ref (G.2.1 44)), (2, .ref (G.2.1 58)), (3, .ref (G.2.1 68)), (4, .ref (G.2.1 69))]) hx hb dL_law_2154 hl (k := 5) rfl rfl (by decide) rfl (fun ls hl => ?_)
    refine lv_goto (pc := 2157) (tgt := 28) hx hb dL_law_2157 (by decide) ?_
    exact ih (v + 5) I V J U o d H locs ls (cells + 1) (slots + 6) (by omega) (by omega) (lv_sub hl [1, 2, 3, 4, 5, 0] rfl) hw hF
