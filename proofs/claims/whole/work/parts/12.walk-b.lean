set_option maxHeartbeats 4000000 in
set_option maxRecDepth 100000 in
theorem k_X0_reach {l : Launch} {G : gx_G} {M : gx_S} {o : Int64} {d : UInt64} {I V : gx_F} {x1 : Int32} {out : (gx_F × gx_F)} (hF : f_X0_reach x1 I V = some out) : gx_K l yX0_reach cX0_reach 2 none { frames := 1, cells := 0, slots := 0, locals := 20 } [.ref (G.2.1 48), .int x1] G (I, V) M o d (gx_Qv G (out.1, out.2) M o d) 0 0 := by
  refine gx_begin (by decide +kernel) (Nat.le_of_ble_eq_true rfl) ?_
  intro p e s m below meth c hx hb hr hml hown hlocks hV hw ls hl
  have hown : s.vm.findClass RX0 = some m.cls := hown
  have hl : lv_has ls 2 [(0, .ref (G.2.1 48)), (1, .int x1)] := hl
  unfold f_X0_reach at hF
  refine lv_iload_n (pc := 0) hx hb dX0_reach_0 rfl (lv_at hl 1 rfl) ?_
  obtain ⟨uq_1, huq_1, hF⟩ := Option.bind_eq_some_iff.mp hF
  refine cn_X6_isPlace (pc := 1) hx hb hml hown hV hw huq_1 (gw_297 hV) hl.1 (Nat.le_of_ble_eq_true rfl) (Nat.le_of_ble_eq_true rfl) (Nat.le_of_ble_eq_true rfl) dX0_reach_1 (fun H locs hw => ?_)
  refine gx_if_eq (pc := 4) (tgt := 52) hx hb hF dX0_reach_4 (by decide) (fun hF => ?_) (fun hF => ?_)
  · cases hF
    exact gx_vret hx hb hr hlocks hw dX0_reach_52
  refine lv_aload_n (pc := 7) hx hb dX0_reach_7 rfl (lv_at hl 0 rfl) ?_
  refine gg_X0_0 (pc := 8) hx hb hown hV hw (gw_155 hV) dX0_reach_8 ?_
  refine lv_iload_n (pc := 11) hx hb dX0_reach_11 rfl (lv_at hl 1 rfl) ?_
  refine ga_49_ld (pc := 12) hx hb hV hw hF dX0_reach_12 (fun _ hF => ?_)
  refine gx_if_ne (pc := 13) (tgt := 52) hx hb hF dX0_reach_13 (by decide) (fun hF => ?_) (fun hF => ?_)
  · cases hF
    exact gx_vret hx hb hr hlocks hw dX0_reach_52
  refine lv_aload_n (pc := 16) hx hb dX0_reach_16 rfl (lv_at hl 0 rfl) ?_
  refine gg_X0_2 (pc := 17) hx hb hown hV hw (gw_157 hV) dX0_reach_17 ?_
  refine lv_bipush (pc := 20) (v := 42) hx hb dX0_reach_20 (by decide) ?_
  refine gx_icmp_ge (pc := 22) (tgt := 52) hx hb hF dX0_reach_22 (by decide) (fun hF => ?_) (fun hF => ?_)
  · cases hF
    exact gx_vret hx hb hr hlocks hw dX0_reach_52
  refine lv_aload_n (pc := 25) hx hb dX0_reach_25 rfl (lv_at hl 0 rfl) ?_
  refine gg_X0_0 (pc := 26) hx hb hown hV hw (gw_155 hV) dX0_reach_26 ?_
  refine lv_iload_n (pc := 29) hx hb dX0_reach_29 rfl (lv_at hl 1 rfl) ?_
  refine lv_iconst (pc := 30) (v := 1) hx hb dX0_reach_30 (by decide) ?_
  refine ga_49_st (pc := 31) hx hb hV hw hF dX0_reach_31 (fun H locs hw hF => ?_)
  refine lv_aload_n (pc := 32) hx hb dX0_reach_32 rfl (lv_at hl 0 rfl) ?_
  refine gg_X0_1 (pc := 33) hx hb hown hV hw (gw_156 hV) dX0_reach_33 ?_
  refine lv_aload_n (pc := 36) hx hb dX0_reach_36 rfl (lv_at hl 0 rfl) ?_
  refine gg_X0_2 (pc := 37) hx hb hown hV hw (gw_157 hV) dX0_reach_37 ?_
  refine lv_iload_n (pc := 40) hx hb dX0_reach_40 rfl (lv_at hl 1 rfl) ?_
  refine ga_50_st (pc := 41) hx hb hV hw hF dX0_reach_41 (fun H locs hw hF => ?_)
  refine lv_aload_n (pc := 42) hx hb dX0_reach_42 rfl (lv_at hl 0 rfl) ?_
  refine lv_dup (pc := 43) hx hb dX0_reach_43 rfl ?_
  refine gg_X0_2 (pc := 44) hx hb hown hV hw (gw_157 hV) dX0_reach_44 ?_
  refine lv_iconst (pc := 47) (v := 1) hx hb dX0_reach_47 (by decide) ?_
  refine lv_iadd (pc := 48) hx hb dX0_reach_48 ?_
  refine gp_X0_2 (pc := 49) hx hb hown hV hw (gw_157 hV) dX0_reach_49 (fun H locs hw => ?_)
  cases hF
  exact gx_vret hx hb hr hlocks hw dX0_reach_52
set_option maxRecDepth 100000 in
theorem cl_X0_reach {l : Launch} {G : gx_G} {M : gx_S} {o : Int64} {d : UInt64} {I V : gx_F} {p : Program} {e : Env} {R : Room} {s : State} {m : MethodId} {args : Array Value} {below : List Frame} {meth : Method} {c : Code} {H : Heap} {locs : List Loc} {cells slots : Nat} {Q : State → Prop} {cc : ByteArray} {pc nL index : Nat} {ls : Array Slot} {rest : List Value} {own : String} {x1 : Int32} {out : (gx_F × gx_F)} (hx : p.tables.exec = Jvm.exec) (hb : c.code = cc) (hml : c.maxLocals = nL) (hown : s.vm.findClass own = some m.cls) (hV : gx_V G s) (hw : gx_at G (I, V) M o d s.heap H locs) (hF : f_X0_reach x1 I V = some out) (hlink : (Cond.methodLink own index yX0_reach).before args s = true) (hsz : ls.size = nL) (hfr : 2 ≤ R.frames) (hlo : 41 ≤ R.locals) (hrest : (rest.map fun v => v.category).sum ≤ 8) (hdg : decode cc pc = .ok (.invokevirtual index, 3))
    (kk : ∀ (H1 : Heap) (locs1 : List Loc), gx_at G (out.1, out.2) M o d s.heap H1 locs1 → W p l e R s m args below meth c H1 locs1 cells slots Q (F0 m (pc + 3) ls (rest))) (hc : cells ≤ R.cells := by exact Nat.zero_le _) (hs : slots ≤ R.slots := by exact Nat.zero_le _) : W p l e R s m args below meth c H locs cells slots Q (F0 m pc ls (.int x1 :: .ref (G.2.1 48) :: rest)) :=
  gx_runv hw (va_runV (C := RX0) (As := [.int x1]) (rest := rest) ⟨hx, hb, hml, hown, (fun _ h => nomatch h : ∀ w ∈ ([] : List Cond), w.before args s = true)⟩ (k_X0_reach hF) ⟨gx_callB (n := 1) rfl rfl hlink (gw_52 hV) (gw_296 hV) (by decide +kernel) ⟨hfr, hlo⟩, gw_295 hV, gw_0 hV⟩ (gx_recv (k := 48) (ci := 2) (T := TX0) hV hw (by decide) rfl rfl) rfl rfl hsz rfl (lv_room hrest) hdg ⟨hc, hs⟩) kk
set_option maxHeartbeats 4000000 in
set_option maxRecDepth 100000 in
theorem k_X0_countWithout {l : Launch} {G : gx_G} {M : gx_S} {o : Int64} {d : UInt64} {I V : gx_F} {k1 : Nat} {x2 : Int32} (hk1 : gx_isW k1) {out : (Int32 × gx_F × gx_F)} (hF : f_X0_countWithout k1 x2 I V = some out) : gx_K l yX0_countWithout cX0_countWithout 7 (some .int) { frames := 3, cells := 0, slots := 0, locals := 68 } [.ref (G.2.1 48), .ref (G.2.1 k1), .int x2] G (I, V) M o d (gx_Qi G out.1 (out.2.1, out.2.2) M o d) 0 0 := by
  refine gx_begin (by decide +kernel) (Nat.le_of_ble_eq_true rfl) ?_
  intro p e s m below meth c hx hb hr hml hown hlocks hV hw ls hl
  have hown : s.vm.findClass RX0 = some m.cls := hown
  have hl : lv_has ls 7 [(0, .ref (G.2.1 48)), (1, .ref (G.2.1 k1)), (2, .int x2)] := hl
  unfold f_X0_countWithout at hF
  refine lv_iconst (pc := 0) (v := 0) hx hb dX0_countWithout_0 (by decide) ?_
  refine lv_istore_n (pc := 1) (lv' := [(3, .int 0), (0, .ref (G.2.1 48)), (1, .ref (G.2.1 k1)), (2, .int x2)]) hx hb dX0_countWithout_1 rfl hl (by decide) rfl (fun ls hl => ?_)
  have L1 : ∀ (n : Nat) (K1 : Int32 → gx_F → gx_F → Option (Int32 × gx_F × gx_F)) (uv_1 : Int32) (uI_2 : gx_F) (uV_3 : gx_F) (H : Heap) (locs : List Loc) (ls : Array Slot), lv_has ls 7 [(3, .int uv_1), (0, .ref (G.2.1 48)), (1, .ref (G.2.1 k1)), (2, .int x2)] → gx_at G (uI_2, uV_3) M o d s.heap H locs → f_X0_countWithout_L1 K1 n uv_1 uI_2 uV_3 = some out → (∀ (uv_1 : Int32) (uI_2 : gx_F) (uV_3 : gx_F) (H : Heap) (locs : List Loc) (ls : Array Slot), lv_has ls 7 [(3, .int uv_1), (0, .ref (G.2.1 48)), (1, .ref (G.2.1 k1)), (2, .int x2)] → gx_at G (uI_2, uV_3) M o d s.heap H locs → K1 uv_1 uI_2 uV_3 = some out → W p l e ({ frames := 3, cells := 0, slots := 0, locals := 68 } : Room) s m ([.ref (G.2.1 48), .ref (G.2.1 k1), .int x2] : List Value).toArray below meth c H locs 0 0 (MQ below (gx_Qi G out.1 (out.2.1, out.2.2) M o d) ([.ref (G.2.1 48), .ref (G.2.1 k1), .int x2] : List Value).toArray s 0 0 (gx_A G)) (F0 m 21 ls [])) → W p l e ({ frames := 3, cells := 0, slots := 0, locals := 68 } : Room) s m ([.ref (G.2.1 48), .ref (G.2.1 k1), .int x2] : List Value).toArray below meth c H locs 0 0 (MQ below (gx_Qi G out.1 (out.2.1, out.2.2) M o d) ([.ref (G.2.1 48), .ref (G.2.1 k1), .int x2] : List Value).toArray s 0 0 (gx_A G)) (F0 m 2 ls []) := by
    intro n
    induction n with
    | zero =>
      intro K1 uv_1 uI_2 uV_3 H locs ls hl hw hF hK
      rw [f_X0_countWithout_L1] at hF
      cases hF
    | succ n ih1 =>
      intro K1 uv_1 uI_2 uV_3 H locs ls hl hw hF hK1
      rw [f_X0_countWithout_L1] at hF
      refine lv_iload_n (pc := 2) hx hb dX0_countWithout_2 rfl (lv_at hl 0 rfl) ?_
      refine lv_bipush (pc := 3) (v := 42) hx hb dX0_countWithout_3 (by decide) ?_
      refine gx_icmp_ge (pc := 5) (tgt := 21) hx hb hF dX0_countWithout_5 (by decide) (fun hF => ?_) (fun hF => ?_)
      · exact hK1 _ _ _ _ _ _ (lv_sub hl [0, 1, 2, 3] rfl) hw hF
      refine lv_aload_n (pc := 8) hx hb dX0_countWithout_8 rfl (lv_at hl 1 rfl) ?_
      refine gg_X0_0 (pc := 9) hx hb hown hV hw (gw_155 hV) dX0_countWithout_9 ?_
      refine lv_iload_n (pc := 12) hx hb dX0_countWithout_12 rfl (lv_at hl 0 rfl) ?_
      refine lv_iconst (pc := 13) (v := 0) hx hb dX0_countWithout_13 (by decide) ?_
      refine ga_49_st (pc := 14) hx hb hV hw hF dX0_countWithout_14 (fun H locs hw hF => ?_)
      refine lv_iinc (pc := 15) (v := (uv_1 + 1)) (lv' := [(3, .int (uv_1 + 1)), (0, .ref (G.2.1 48)), (1, .ref (G.2.1 k1)), (2, .int x2)]) hx hb dX0_countWithout_15 hl (k := 0) rfl rfl (by decide) rfl (fun ls hl => ?_)
      refine lv_goto (pc := 18) (tgt := 2) hx hb dX0_countWithout_18 (by decide) ?_
      exact ih1 _ _ _ _ _ _ _ (lv_sub hl [0, 1, 2, 3] rfl) hw hF hK1
  refine L1 1000 _ _ _ _ _ _ _ hl hw hF (fun uv_4 uI_5 uV_6 H locs ls hl hw hF => ?_)
  refine lv_aload_n (pc := 21) hx hb dX0_countWithout_21 rfl (lv_at hl 1 rfl) ?_
  refine lv_iconst (pc := 22) (v := 0) hx hb dX0_countWithout_22 (by decide) ?_
  refine gp_X0_2 (pc := 23) hx hb hown hV hw (gw_157 hV) dX0_countWithout_23 (fun H locs hw => ?_)
  refine lv_aload_n (pc := 26) hx hb dX0_countWithout_26 rfl (lv_at hl 2 rfl) ?_
  refine gg_X5_5 (pc := 27) hx hb hown hV hw hk1 (gw_99 hV) dX0_countWithout_27 ?_
  refine lv_iload_n (pc := 30) hx hb dX0_countWithout_30 rfl (lv_at hl 3 rfl) ?_
  refine gx_icmp_eq (pc := 31) (tgt := 42) hx hb hF dX0_countWithout_31 (by decide) (fun hF => ?_) (fun hF => ?_)
  · refine lv_iconst (pc := 42) (v := 0) hx hb dX0_countWithout_42 (by decide) ?_
    refine lv_istore_n (pc := 43) (lv' := [(3, .int 0), (0, .ref (G.2.1 48)), (1, .ref (G.2.1 k1)), (2, .int x2)]) hx hb dX0_countWithout_43 rfl hl (by decide) rfl (fun ls hl => ?_)
    have L2 : ∀ (n : Nat) (K2 : Int32 → gx_F → gx_F → Option (Int32 × gx_F × gx_F)) (uv_7 : Int32) (uI_8 : gx_F) (uV_9 : gx_F) (H : Heap) (locs : List Loc) (ls : Array Slot), lv_has ls 7 [(3, .int uv_7), (0, .ref (G.2.1 48)), (1, .ref (G.2.1 k1)), (2, .int x2)] → gx_at G (uI_8, uV_9) M o d s.heap H locs → f_X0_countWithout_L2 k1 x2 K2 n uv_7 uI_8 uV_9 = some out → (∀ (uv_7 : Int32) (uI_8 : gx_F) (uV_9 : gx_F) (H : Heap) (locs : List Loc) (ls : Array Slot), lv_has ls 7 [(3, .int uv_7), (0, .ref (G.2.1 48)), (1, .ref (G.2.1 k1)), (2, .int x2)] → gx_at G (uI_8, uV_9) M o d s.heap H locs → K2 uv_7 uI_8 uV_9 = some out → W p l e ({ frames := 3, cells := 0, slots := 0, locals := 68 } : Room) s m ([.ref (G.2.1 48), .ref (G.2.1 k1), .int x2] : List Value).toArray below meth c H locs 0 0 (MQ below (gx_Qi G out.1 (out.2.1, out.2.2) M o d) ([.ref (G.2.1 48), .ref (G.2.1 k1), .int x2] : List Value).toArray s 0 0 (gx_A G)) (F0 m 119 ls [])) → W p l e ({ frames := 3, cells := 0, slots := 0, locals := 68 } : Room) s m ([.ref (G.2.1 48), .ref (G.2.1 k1), .int x2] : List Value).toArray below meth c H locs 0 0 (MQ below (gx_Qi G out.1 (out.2.1, out.2.2) M o d) ([.ref (G.2.1 48), .ref (G.2.1 k1), .int x2] : List Value).toArray s 0 0 (gx_A G)) (F0 m 44 ls []) := by
      intro n
      induction n with
      | zero =>
        intro K2 uv_7 uI_8 uV_9 H locs ls hl hw hF hK
        rw [f_X0_countWithout_L2] at hF
        cases hF
      | succ n ih2 =>
        intro K2 uv_7 uI_8 uV_9 H locs ls hl hw hF hK2
        rw [f_X0_countWithout_L2] at hF
        refine lv_iload_n (pc := 44) hx hb dX0_countWithout_44 rfl (lv_at hl 0 rfl) ?_
        refine lv_aload_n (pc := 45) hx hb dX0_countWithout_45 rfl (lv_at hl 1 rfl) ?_
        refine gg_X0_2 (pc := 46) hx hb hown hV hw (gw_157 hV) dX0_countWithout_46 ?_
        refine gx_icmp_ge (pc := 49) (tgt := 119) hx hb hF dX0_countWithout_49 (by decide) (fun hF => ?_) (fun hF => ?_)
        · exact hK2 _ _ _ _ _ _ (lv_sub hl [0, 1, 2, 3] rfl) hw hF
        refine lv_iload_n (pc := 52) hx hb dX0_countWithout_52 rfl (lv_at hl 0 rfl) ?_
        refine lv_bipush (pc := 53) (v := 42) hx hb dX0_countWithout_53 (by decide) ?_
        refine gx_icmp_ge (pc := 55) (tgt := 119) hx hb hF dX0_countWithout_55 (by decide) (fun hF => ?_) (fun hF => ?_)
        · exact hK2 _ _ _ _ _ _ (lv_sub hl [0, 1, 2, 3] rfl) hw hF
        refine lv_aload_n (pc := 58) hx hb dX0_countWithout_58 rfl (lv_at hl 1 rfl) ?_
        refine gg_X0_1 (pc := 59) hx hb hown hV hw (gw_156 hV) dX0_countWithout_59 ?_
        refine lv_iload_n (pc := 62) hx hb dX0_countWithout_62 rfl (lv_at hl 0 rfl) ?_
        refine ga_50_ld (pc := 63) hx hb hV hw hF dX0_countWithout_63 (fun _ hF => ?_)
        refine lv_istore (pc := 64) (lv' := [(4, .int (uV_9 50 uv_7.toNatClampNeg)), (3, .int uv_7), (0, .ref (G.2.1 48)), (1, .ref (G.2.1 k1)), (2, .int x2)]) hx hb dX0_countWithout_64 hl (by decide) rfl (fun ls hl => ?_)
        refine lv_iconst (pc := 66) (v := 0) hx hb dX0_countWithout_66 (by decide) ?_
        refine lv_istore (pc := 67) (lv' := [(5, .int 0), (4, .int (uV_9 50 uv_7.toNatClampNeg)), (3, .int uv_7), (0, .ref (G.2.1 48)), (1, .ref (G.2.1 k1)), (2, .int x2)]) hx hb dX0_countWithout_67 hl (by decide) rfl (fun ls hl => ?_)
        have L3 : ∀ (n : Nat) (K3 : Int32 → gx_F → gx_F → Option (Int32 × gx_F × gx_F)) (uv_10 : Int32) (uI_11 : gx_F) (uV_12 : gx_F) (H : Heap) (locs : List Loc) (ls : Array Slot), lv_has ls 7 [(5, .int uv_10), (4, .int (uV_9 50 uv_7.toNatClampNeg)), (3, .int uv_7), (0, .ref (G.2.1 48)), (1, .ref (G.2.1 k1)), (2, .int x2)] → gx_at G (uI_11, uV_12) M o d s.heap H locs → f_X0_countWithout_L3 k1 x2 uv_7 uV_9 K3 n uv_10 uI_11 uV_12 = some out → (∀ (uv_10 : Int32) (uI_11 : gx_F) (uV_12 : gx_F) (H : Heap) (locs : List Loc) (ls : Array Slot), lv_has ls 7 [(5, .int uv_10), (4, .int (uV_9 50 uv_7.toNatClampNeg)), (3, .int uv_7), (0, .ref (G.2.1 48)), (1, .ref (G.2.1 k1)), (2, .int x2)] → gx_at G (uI_11, uV_12) M o d s.heap H locs → K3 uv_10 uI_11 uV_12 = some out → W p l e ({ frames := 3, cells := 0, slots := 0, locals := 68 } : Room) s m ([.ref (G.2.1 48), .ref (G.2.1 k1), .int x2] : List Value).toArray below meth c H locs 0 0 (MQ below (gx_Qi G out.1 (out.2.1, out.2.2) M o d) ([.ref (G.2.1 48), .ref (G.2.1 k1), .int x2] : List Value).toArray s 0 0 (gx_A G)) (F0 m 113 ls [])) → W p l e ({ frames := 3, cells := 0, slots := 0, locals := 68 } : Room) s m ([.ref (G.2.1 48), .ref (G.2.1 k1), .int x2] : List Value).toArray below meth c H locs 0 0 (MQ below (gx_Qi G out.1 (out.2.1, out.2.2) M o d) ([.ref (G.2.1 48), .ref (G.2.1 k1), .int x2] : List Value).toArray s 0 0 (gx_A G)) (F0 m 69 ls []) := by
          intro n
          induction n with
          | zero =>
            intro K3 uv_10 uI_11 uV_12 H locs ls hl hw hF hK
            rw [f_X0_countWithout_L3] at hF
            cases hF
          | succ n ih3 =>
            intro K3 uv_10 uI_11 uV_12 H locs ls hl hw hF hK3
            rw [f_X0_countWithout_L3] at hF
            refine lv_iload (pc := 69) hx hb dX0_countWithout_69 (lv_at hl 0 rfl) ?_
            refine lv_iconst (pc := 71) (v := 4) hx hb dX0_countWithout_71 (by decide) ?_
            refine gx_icmp_ge (pc := 72) (tgt := 113) hx hb hF dX0_countWithout_72 (by decide) (fun hF => ?_) (fun hF => ?_)
            · exact hK3 _ _ _ _ _ _ (lv_sub hl [0, 1, 2, 3, 4, 5] rfl) hw hF
            refine lv_iload (pc := 75) hx hb dX0_countWithout_75 (lv_at hl 1 rfl) ?_
            refine lv_iload (pc := 77) hx hb dX0_countWithout_77 (lv_at hl 0 rfl) ?_
            obtain ⟨uq_13, huq_13, hF⟩ := Option.bind_eq_some_iff.mp hF
            refine cn_X6_beside (pc := 79) hx hb hml hown hV hw huq_13 (gw_300 hV) hl.1 (Nat.le_of_ble_eq_true rfl) (Nat.le_of_ble_eq_true rfl) (Nat.le_of_ble_eq_true rfl) dX0_countWithout_79 (fun H locs hw => ?_)
            refine lv_istore (pc := 82) (lv' := [(6, .int uq_13), (5, .int uv_10), (4, .int (uV_9 50 uv_7.toNatClampNeg)), (3, .int uv_7), (0, .ref (G.2.1 48)), (1, .ref (G.2.1 k1)), (2, .int x2)]) hx hb dX0_countWithout_82 hl (by decide) rfl (fun ls hl => ?_)
            refine lv_iload (pc := 84) hx hb dX0_countWithout_84 (lv_at hl 0 rfl) ?_
            refine lv_iload_n (pc := 86) hx hb dX0_countWithout_86 rfl (lv_at hl 6 rfl) ?_
            refine gx_icmp_eq (pc := 87) (tgt := 107) hx hb hF dX0_countWithout_87 (by decide) (fun hF => ?_) (fun hF => ?_)
            · refine lv_iinc (pc := 107) (v := (uv_10 + 1)) (lv' := [(5, .int (uv_10 + 1)), (6, .int uq_13), (4, .int (uV_9 50 uv_7.toNatClampNeg)), (3, .int uv_7), (0, .ref (G.2.1 48)), (1, .ref (G.2.1 k1)), (2, .int x2)]) hx hb dX0_countWithout_107 hl (k := 1) rfl rfl (by decide) rfl (fun ls hl => ?_)
              refine lv_goto (pc := 110) (tgt := 69) hx hb dX0_countWithout_110 (by decide) ?_
              exact ih3 _ _ _ _ _ _ _ (lv_sub hl [0, 2, 3, 4, 5, 6] rfl) hw hF hK3
            refine lv_aload_n (pc := 90) hx hb dX0_countWithout_90 rfl (lv_at hl 5 rfl) ?_
            refine lv_iload (pc := 91) hx hb dX0_countWithout_91 (lv_at hl 2 rfl) ?_
            refine lv_iload (pc := 93) hx hb dX0_countWithout_93 (lv_at hl 1 rfl) ?_
            obtain ⟨uq_14, huq_14, hF⟩ := Option.bind_eq_some_iff.mp hF
            refine cl_X5_strengthToward (pc := 95) hx hb hml hown hV hw hk1 huq_14 (gw_303 hV) hl.1 (Nat.le_of_ble_eq_true rfl) (Nat.le_of_ble_eq_true rfl) (Nat.le_of_ble_eq_true rfl) dX0_countWithout_95 (fun H locs hw => ?_)
            refine gx_if_le (pc := 98) (tgt := 107) hx hb hF dX0_countWithout_98 (by decide) (fun hF => ?_) (fun hF => ?_)
            · refine lv_iinc (pc := 107) (v := (uv_10 + 1)) (lv' := [(5, .int (uv_10 + 1)), (6, .int uq_13), (4, .int (uV_9 50 uv_7.toNatClampNeg)), (3, .int uv_7), (0, .ref (G.2.1 48)), (1, .ref (G.2.1 k1)), (2, .int x2)]) hx hb dX0_countWithout_107 hl (k := 1) rfl rfl (by decide) rfl (fun ls hl => ?_)
              refine lv_goto (pc := 110) (tgt := 69) hx hb dX0_countWithout_110 (by decide) ?_
              exact ih3 _ _ _ _ _ _ _ (lv_sub hl [0, 2, 3, 4, 5, 6] rfl) hw hF hK3
            refine lv_aload_n (pc := 101) hx hb dX0_countWithout_101 rfl (lv_at hl 4 rfl) ?_
            refine lv_iload (pc := 102) hx hb dX0_countWithout_102 (lv_at hl 0 rfl) ?_
            obtain ⟨uq_15, huq_15, hF⟩ := Option.bind_eq_some_iff.mp hF
            refine cl_X0_reach (pc := 104) hx hb hml hown hV hw huq_15 (gw_293 hV) hl.1 (Nat.le_of_ble_eq_true rfl) (Nat.le_of_ble_eq_true rfl) (Nat.le_of_ble_eq_true rfl) dX0_countWithout_104 (fun H locs hw => ?_)
            refine lv_iinc (pc := 107) (v := (uv_10 + 1)) (lv' := [(5, .int (uv_10 + 1)), (6, .int uq_13), (4, .int (uV_9 50 uv_7.toNatClampNeg)), (3, .int uv_7), (0, .ref (G.2.1 48)), (1, .ref (G.2.1 k1)), (2, .int x2)]) hx hb dX0_countWithout_107 hl (k := 1) rfl rfl (by decide) rfl (fun ls hl => ?_)
            refine lv_goto (pc := 110) (tgt := 69) hx hb dX0_countWithout_110 (by decide) ?_
            exact ih3 _ _ _ _ _ _ _ (lv_sub hl [0, 2, 3, 4, 5, 6] rfl) hw hF hK3
        refine L3 1000 _ _ _ _ _ _ _ hl hw hF (fun uv_16 uI_17 uV_18 H locs ls hl hw hF => ?_)
        refine lv_iinc (pc := 113) (v := (uv_7 + 1)) (lv' := [(3, .int (uv_7 + 1)), (5, .int uv_16), (4, .int (uV_9 50 uv_7.toNatClampNeg)), (0, .ref (G.2.1 48)), (1, .ref (G.2.1 k1)), (2, .int x2)]) hx hb dX0_countWithout_113 hl (k := 2) rfl rfl (by decide) rfl (fun ls hl => ?_)
        refine lv_goto (pc := 116) (tgt := 44) hx hb dX0_countWithout_116 (by decide) ?_
        exact ih2 _ _ _ _ _ _ _ (lv_sub hl [0, 3, 4, 5] rfl) hw hF hK2
    refine L2 1000 _ _ _ _ _ _ _ hl hw hF (fun uv_19 uI_20 uV_21 H locs ls hl hw hF => ?_)
    refine lv_aload_n (pc := 119) hx hb dX0_countWithout_119 rfl (lv_at hl 1 rfl) ?_
    refine gg_X0_2 (pc := 120) hx hb hown hV hw (gw_157 hV) dX0_countWithout_120 ?_
    cases hF
    exact gx_iret hx hb hr hlocks hw dX0_countWithout_123
  refine lv_aload_n (pc := 34) hx hb dX0_countWithout_34 rfl (lv_at hl 1 rfl) ?_
  refine lv_aload_n (pc := 35) hx hb dX0_countWithout_35 rfl (lv_at hl 2 rfl) ?_
  refine gg_X5_5 (pc := 36) hx hb hown hV hw hk1 (gw_99 hV) dX0_countWithout_36 ?_
  obtain ⟨uq_22, huq_22, hF⟩ := Option.bind_eq_some_iff.mp hF
  refine cl_X0_reach (pc := 39) hx hb hml hown hV hw huq_22 (gw_293 hV) hl.1 (Nat.le_of_ble_eq_true rfl) (Nat.le_of_ble_eq_true rfl) (Nat.le_of_ble_eq_true rfl) dX0_countWithout_39 (fun H locs hw => ?_)
  refine lv_iconst (pc := 42) (v := 0) hx hb dX0_countWithout_42 (by decide) ?_
  refine lv_istore_n (pc := 43) (lv' := [(3, .int 0), (0, .ref (G.2.1 48)), (1, .ref (G.2.1 k1)), (2, .int x2)]) hx hb dX0_countWithout_43 rfl hl (by decide) rfl (fun ls hl => ?_)
  have L4 : ∀ (n : Nat) (K4 : Int32 → gx_F → gx_F → Option (Int32 × gx_F × gx_F)) (uv_23 : Int32) (uI_24 : gx_F) (uV_25 : gx_F) (H : Heap) (locs : List Loc) (ls : Array Slot), lv_has ls 7 [(3, .int uv_23), (0, .ref (G.2.1 48)), (1, .ref (G.2.1 k1)), (2, .int x2)] → gx_at G (uI_24, uV_25) M o d s.heap H locs → f_X0_countWithout_L4 k1 x2 K4 n uv_23 uI_24 uV_25 = some out → (∀ (uv_23 : Int32) (uI_24 : gx_F) (uV_25 : gx_F) (H : Heap) (locs : List Loc) (ls : Array Slot), lv_has ls 7 [(3, .int uv_23), (0, .ref (G.2.1 48)), (1, .ref (G.2.1 k1)), (2, .int x2)] → gx_at G (uI_24, uV_25) M o d s.heap H locs → K4 uv_23 uI_24 uV_25 = some out → W p l e ({ frames := 3, cells := 0, slots := 0, locals := 68 } : Room) s m ([.ref (G.2.1 48), .ref (G.2.1 k1), .int x2] : List Value).toArray below meth c H locs 0 0 (MQ below (gx_Qi G out.1 (out.2.1, out.2.2) M o d) ([.ref (G.2.1 48), .ref (G.2.1 k1), .int x2] : List Value).toArray s 0 0 (gx_A G)) (F0 m 119 ls [])) → W p l e ({ frames := 3, cells := 0, slots := 0, locals := 68 } : Room) s m ([.ref (G.2.1 48), .ref (G.2.1 k1), .int x2] : List Value).toArray below meth c H locs 0 0 (MQ below (gx_Qi G out.1 (out.2.1, out.2.2) M o d) ([.ref (G.2.1 48), .ref (G.2.1 k1), .int x2] : List Value).toArray s 0 0 (gx_A G)) (F0 m 44 ls []) := by
    intro n
    induction n with
    | zero =>
      intro K4 uv_23 uI_24 uV_25 H locs ls hl hw hF hK
      rw [f_X0_countWithout_L4] at hF
      cases hF
    | succ n ih4 =>
      intro K4 uv_23 uI_24 uV_25 H locs ls hl hw hF hK4
      rw [f_X0_countWithout_L4] at hF
      refine lv_iload_n (pc := 44) hx hb dX0_countWithout_44 rfl (lv_at hl 0 rfl) ?_
      refine lv_aload_n (pc := 45) hx hb dX0_countWithout_45 rfl (lv_at hl 1 rfl) ?_
      refine gg_X0_2 (pc := 46) hx hb hown hV hw (gw_157 hV) dX0_countWithout_46 ?_
      refine gx_icmp_ge (pc := 49) (tgt := 119) hx hb hF dX0_countWithout_49 (by decide) (fun hF => ?_) (fun hF => ?_)
      · exact hK4 _ _ _ _ _ _ (lv_sub hl [0, 1, 2, 3] rfl) hw hF
      refine lv_iload_n (pc := 52) hx hb dX0_countWithout_52 rfl (lv_at hl 0 rfl) ?_
      refine lv_bipush (pc := 53) (v := 42) hx hb dX0_countWithout_53 (by decide) ?_
      refine gx_icmp_ge (pc := 55) (tgt := 119) hx hb hF dX0_countWithout_55 (by decide) (fun hF => ?_) (fun hF => ?_)
      · exact hK4 _ _ _ _ _ _ (lv_sub hl [0, 1, 2, 3] rfl) hw hF
      refine lv_aload_n (pc := 58) hx hb dX0_countWithout_58 rfl (lv_at hl 1 rfl) ?_
      refine gg_X0_1 (pc := 59) hx hb hown hV hw (gw_156 hV) dX0_countWithout_59 ?_
      refine lv_iload_n (pc := 62) hx hb dX0_countWithout_62 rfl (lv_at hl 0 rfl) ?_
      refine ga_50_ld (pc := 63) hx hb hV hw hF dX0_countWithout_63 (fun _ hF => ?_)
      refine lv_istore (pc := 64) (lv' := [(4, .int (uV_25 50 uv_23.toNatClampNeg)), (3, .int uv_23), (0, .ref (G.2.1 48)), (1, .ref (G.2.1 k1)), (2, .int x2)]) hx hb dX0_countWithout_64 hl (by decide) rfl (fun ls hl => ?_)
      refine lv_iconst (pc := 66) (v := 0) hx hb dX0_countWithout_66 (by decide) ?_
      refine lv_istore (pc := 67) (lv' := [(5, .int 0), (4, .int (uV_25 50 uv_23.toNatClampNeg)), (3, .int uv_23), (0, .ref (G.2.1 48)), (1, .ref (G.2.1 k1)), (2, .int x2)]) hx hb dX0_countWithout_67 hl (by decide) rfl (fun ls hl => ?_)
      have L5 : ∀ (n : Nat) (K5 : Int32 → gx_F → gx_F → Option (Int32 × gx_F × gx_F)) (uv_26 : Int32) (uI_27 : gx_F) (uV_28 : gx_F) (H : Heap) (locs : List Loc) (ls : Array Slot), lv_has ls 7 [(5, .int uv_26), (4, .int (uV_25 50 uv_23.toNatClampNeg)), (3, .int uv_23), (0, .ref (G.2.1 48)), (1, .ref (G.2.1 k1)), (2, .int x2)] → gx_at G (uI_27, uV_28) M o d s.heap H locs → f_X0_countWithout_L5 k1 x2 uv_23 uV_25 K5 n uv_26 uI_27 uV_28 = some out → (∀ (uv_26 : Int32) (uI_27 : gx_F) (uV_28 : gx_F) (H : Heap) (locs : List Loc) (ls : Array Slot), lv_has ls 7 [(5, .int uv_26), (4, .int (uV_25 50 uv_23.toNatClampNeg)), (3, .int uv_23), (0, .ref (G.2.1 48)), (1, .ref (G.2.1 k1)), (2, .int x2)] → gx_at G (uI_27, uV_28) M o d s.heap H locs → K5 uv_26 uI_27 uV_28 = some out → W p l e ({ frames := 3, cells := 0, slots := 0, locals := 68 } : Room) s m ([.ref (G.2.1 48), .ref (G.2.1 k1), .int x2] : List Value).toArray below meth c H locs 0 0 (MQ below (gx_Qi G out.1 (out.2.1, out.2.2) M o d) ([.ref (G.2.1 48), .ref (G.2.1 k1), .int x2] : List Value).toArray s 0 0 (gx_A G)) (F0 m 113 ls [])) → W p l e ({ frames := 3, cells := 0, slots := 0, locals := 68 } : Room) s m ([.ref (G.2.1 48), .ref (G.2.1 k1), .int x2] : List Value).toArray below meth c H locs 0 0 (MQ below (gx_Qi G out.1 (out.2.1, out.2.2) M o d) ([.ref (G.2.1 48), .ref (G.2.1 k1), .int x2] : List Value).toArray s 0 0 (gx_A G)) (F0 m 69 ls []) := by
        intro n
        induction n with
        | zero =>
          intro K5 uv_26 uI_27 uV_28 H locs ls hl hw hF hK
          rw [f_X0_countWithout_L5] at hF
          cases hF
        | succ n ih5 =>
          intro K5 uv_26 uI_27 uV_28 H locs ls hl hw hF hK5
          rw [f_X0_countWithout_L5] at hF
          refine lv_iload (pc := 69) hx hb dX0_countWithout_69 (lv_at hl 0 rfl) ?_
          refine lv_iconst (pc := 71) (v := 4) hx hb dX0_countWithout_71 (by decide) ?_
          refine gx_icmp_ge (pc := 72) (tgt := 113) hx hb hF dX0_countWithout_72 (by decide) (fun hF => ?_) (fun hF => ?_)
          · exact hK5 _ _ _ _ _ _ (lv_sub hl [0, 1, 2, 3, 4, 5] rfl) hw hF
          refine lv_iload (pc := 75) hx hb dX0_countWithout_75 (lv_at hl 1 rfl) ?_
          refine lv_iload (pc := 77) hx hb dX0_countWithout_77 (lv_at hl 0 rfl) ?_
          obtain ⟨uq_29, huq_29, hF⟩ := Option.bind_eq_some_iff.mp hF
          refine cn_X6_beside (pc := 79) hx hb hml hown hV hw huq_29 (gw_300 hV) hl.1 (Nat.le_of_ble_eq_true rfl) (Nat.le_of_ble_eq_true rfl) (Nat.le_of_ble_eq_true rfl) dX0_countWithout_79 (fun H locs hw => ?_)
          refine lv_istore (pc := 82) (lv' := [(6, .int uq_29), (5, .int uv_26), (4, .int (uV_25 50 uv_23.toNatClampNeg)), (3, .int uv_23), (0, .ref (G.2.1 48)), (1, .ref (G.2.1 k1)), (2, .int x2)]) hx hb dX0_countWithout_82 hl (by decide) rfl (fun ls hl => ?_)
          refine lv_iload (pc := 84) hx hb dX0_countWithout_84 (lv_at hl 0 rfl) ?_
          refine lv_iload_n (pc := 86) hx hb dX0_countWithout_86 rfl (lv_at hl 6 rfl) ?_
          refine gx_icmp_eq (pc := 87) (tgt := 107) hx hb hF dX0_countWithout_87 (by decide) (fun hF => ?_) (fun hF => ?_)
          · refine lv_iinc (pc := 107) (v := (uv_26 + 1)) (lv' := [(5, .int (uv_26 + 1)), (6, .int uq_29), (4, .int (uV_25 50 uv_23.toNatClampNeg)), (3, .int uv_23), (0, .ref (G.2.1 48)), (1, .ref (G.2.1 k1)), (2, .int x2)]) hx hb dX0_countWithout_107 hl (k := 1) rfl rfl (by decide) rfl (fun ls hl => ?_)
            refine lv_goto (pc := 110) (tgt := 69) hx hb dX0_countWithout_110 (by decide) ?_
            exact ih5 _ _ _ _ _ _ _ (lv_sub hl [0, 2, 3, 4, 5, 6] rfl) hw hF hK5
          refine lv_aload_n (pc := 90) hx hb dX0_countWithout_90 rfl (lv_at hl 5 rfl) ?_
          refine lv_iload (pc := 91) hx hb dX0_countWithout_91 (lv_at hl 2 rfl) ?_
          refine lv_iload (pc := 93) hx hb dX0_countWithout_93 (lv_at hl 1 rfl) ?_
          obtain ⟨uq_30, huq_30, hF⟩ := Option.bind_eq_some_iff.mp hF
          refine cl_X5_strengthToward (pc := 95) hx hb hml hown hV hw hk1 huq_30 (gw_303 hV) hl.1 (Nat.le_of_ble_eq_true rfl) (Nat.le_of_ble_eq_true rfl) (Nat.le_of_ble_eq_true rfl) dX0_countWithout_95 (fun H locs hw => ?_)
          refine gx_if_le (pc := 98) (tgt := 107) hx hb hF dX0_countWithout_98 (by decide) (fun hF => ?_) (fun hF => ?_)
          · refine lv_iinc (pc := 107) (v := (uv_26 + 1)) (lv' := [(5, .int (uv_26 + 1)), (6, .int uq_29), (4, .int (uV_25 50 uv_23.toNatClampNeg)), (3, .int uv_23), (0, .ref (G.2.1 48)), (1, .ref (G.2.1 k1)), (2, .int x2)]) hx hb dX0_countWithout_107 hl (k := 1) rfl rfl (by decide) rfl (fun ls hl => ?_)
            refine lv_goto (pc := 110) (tgt := 69) hx hb dX0_countWithout_110 (by decide) ?_
            exact ih5 _ _ _ _ _ _ _ (lv_sub hl [0, 2, 3, 4, 5, 6] rfl) hw hF hK5
          refine lv_aload_n (pc := 101) hx hb dX0_countWithout_101 rfl (lv_at hl 4 rfl) ?_
          refine lv_iload (pc := 102) hx hb dX0_countWithout_102 (lv_at hl 0 rfl) ?_
          obtain ⟨uq_31, huq_31, hF⟩ := Option.bind_eq_some_iff.mp hF
          refine cl_X0_reach (pc := 104) hx hb hml hown hV hw huq_31 (gw_293 hV) hl.1 (Nat.le_of_ble_eq_true rfl) (Nat.le_of_ble_eq_true rfl) (Nat.le_of_ble_eq_true rfl) dX0_countWithout_104 (fun H locs hw => ?_)
          refine lv_iinc (pc := 107) (v := (uv_26 + 1)) (lv' := [(5, .int (uv_26 + 1)), (6, .int uq_29), (4, .int (uV_25 50 uv_23.toNatClampNeg)), (3, .int uv_23), (0, .ref (G.2.1 48)), (1, .ref (G.2.1 k1)), (2, .int x2)]) hx hb dX0_countWithout_107 hl (k := 1) rfl rfl (by decide) rfl (fun ls hl => ?_)
          refine lv_goto (pc := 110) (tgt := 69) hx hb dX0_countWithout_110 (by decide) ?_
          exact ih5 _ _ _ _ _ _ _ (lv_sub hl [0, 2, 3, 4, 5, 6] rfl) hw hF hK5
      refine L5 1000 _ _ _ _ _ _ _ hl hw hF (fun uv_32 uI_33 uV_34 H locs ls hl hw hF => ?_)
      refine lv_iinc (pc := 113) (v := (uv_23 + 1)) (lv' := [(3, .int (uv_23 + 1)), (5, .int uv_32), (4, .int (uV_25 50 uv_23.toNatClampNeg)), (0, .ref (G.2.1 48)), (1, .ref (G.2.1 k1)), (2, .int x2)]) hx hb dX0_countWithout_113 hl (k := 2) rfl rfl (by decide) rfl (fun ls hl => ?_)
      refine lv_goto (pc := 116) (tgt := 44) hx hb dX0_countWithout_116 (by decide) ?_
      exact ih4 _ _ _ _ _ _ _ (lv_sub hl [0, 3, 4, 5] rfl) hw hF hK4
  refine L4 1000 _ _ _ _ _ _ _ hl hw hF (fun uv_35 uI_36 uV_37 H locs ls hl hw hF => ?_)
  refine lv_aload_n (pc := 119) hx hb dX0_countWithout_119 rfl (lv_at hl 1 rfl) ?_
  refine gg_X0_2 (pc := 120) hx hb hown hV hw (gw_157 hV) dX0_countWithout_120 ?_
  cases hF
  exact gx_iret hx hb hr hlocks hw dX0_countWithout_123
set_option maxRecDepth 100000 in
theorem cl_X0_countWithout {l : Launch} {G : gx_G} {M : gx_S} {o : Int64} {d : UInt64} {I V : gx_F} {p : Program} {e : Env} {R : Room} {s : State} {m : MethodId} {args : Array Value} {below : List Frame} {meth : Method} {c : Code} {H : Heap} {locs : List Loc} {cells slots : Nat} {Q : State → Prop} {cc : ByteArray} {pc nL index : Nat} {ls : Array Slot} {rest : List Value} {own : String} {k1 : Nat} {x2 : Int32} {out : (Int32 × gx_F × gx_F)} (hx : p.tables.exec = Jvm.exec) (hb : c.code = cc) (hml : c.maxLocals = nL) (hown : s.vm.findClass own = some m.cls) (hV : gx_V G s) (hw : gx_at G (I, V) M o d s.heap H locs) (hk1 : gx_isW k1) (hF : f_X0_countWithout k1 x2 I V = some out) (hlink : (Cond.methodLink own index yX0_countWithout).before args s = true) (hsz : ls.size = nL) (hfr : 4 ≤ R.frames) (hlo : 94 ≤ R.locals) (hrest : (rest.map fun v => v.category).sum ≤ 8) (hdg : decode cc pc = .ok (.invokevirtual index, 3))
    (kk : ∀ (H1 : Heap) (locs1 : List Loc), gx_at G (out.2.1, out.2.2) M o d s.heap H1 locs1 → W p l e R s m args below meth c H1 locs1 cells slots Q (F0 m (pc + 3) ls (.int out.1 :: rest))) (hc : cells ≤ R.cells := by exact Nat.zero_le _) (hs : slots ≤ R.slots := by exact Nat.zero_le _) : W p l e R s m args below meth c H locs cells slots Q (F0 m pc ls (.int x2 :: .ref (G.2.1 k1) :: .ref (G.2.1 48) :: rest)) :=
  gx_runi hw (va_runV (C := RX0) (As := [.ref (G.2.1 k1), .int x2]) (rest := rest) ⟨hx, hb, hml, hown, (fun _ h => nomatch h : ∀ w ∈ ([] : List Cond), w.before args s = true)⟩ (k_X0_countWithout hk1 hF) ⟨gx_callB (n := 2) rfl rfl hlink (gw_52 hV) (gw_292 hV) (by decide +kernel) ⟨hfr, hlo⟩, gw_290 hV, gw_291 hV⟩ (gx_recv (k := 48) (ci := 2) (T := TX0) hV hw (by decide) rfl rfl) rfl rfl hsz rfl (lv_room hrest) hdg ⟨hc, hs⟩) kk
set_option maxHeartbeats 4000000 in
set_option maxRecDepth 100000 in
theorem k_X0_isReached {l : Launch} {G : gx_G} {M : gx_S} {o : Int64} {d : UInt64} {I V : gx_F} {x1 : Int32} {out : Bool} (hF : f_X0_isReached x1 I V = some out) : gx_K l yX0_isReached cX0_isReached 2 (some .boolean) { frames := 1, cells := 0, slots := 0, locals := 20 } [.ref (G.2.1 48), .int x1] G (I, V) M o d (gx_Qi G (gx_bi out) (I, V) M o d) 0 0 := by
  refine gx_begin (by decide +kernel) (Nat.le_of_ble_eq_true rfl) ?_
  intro p e s m below meth c hx hb hr hml hown hlocks hV hw ls hl
  have hown : s.vm.findClass RX0 = some m.cls := hown
  have hl : lv_has ls 2 [(0, .ref (G.2.1 48)), (1, .int x1)] := hl
  unfold f_X0_isReached at hF
  refine lv_iload_n (pc := 0) hx hb dX0_isReached_0 rfl (lv_at hl 1 rfl) ?_
  obtain ⟨uq_1, huq_1, hF⟩ := Option.bind_eq_some_iff.mp hF
  refine cn_X6_isPlace (pc := 1) hx hb hml hown hV hw huq_1 (gw_297 hV) hl.1 (Nat.le_of_ble_eq_true rfl) (Nat.le_of_ble_eq_true rfl) (Nat.le_of_ble_eq_true rfl) dX0_isReached_1 (fun H locs hw => ?_)
  refine gx_if_eq (pc := 4) (tgt := 20) hx hb hF dX0_isReached_4 (by decide) (fun hF => ?_) (fun hF => ?_)
  · refine lv_iconst (pc := 20) (v := 0) hx hb dX0_isReached_20 (by decide) ?_
    cases hF
    exact gx_zret (r := gx_bi false) hx hb hr (gx_narb _) hlocks hw dX0_isReached_21
  refine lv_aload_n (pc := 7) hx hb dX0_isReached_7 rfl (lv_at hl 0 rfl) ?_
  refine gg_X0_0 (pc := 8) hx hb hown hV hw (gw_155 hV) dX0_isReached_8 ?_
  refine lv_iload_n (pc := 11) hx hb dX0_isReached_11 rfl (lv_at hl 1 rfl) ?_
  refine ga_49_ld (pc := 12) hx hb hV hw hF dX0_isReached_12 (fun _ hF => ?_)
  refine gx_if_eq (pc := 13) (tgt := 20) hx hb hF dX0_isReached_13 (by decide) (fun hF => ?_) (fun hF => ?_)
  · refine lv_iconst (pc := 20) (v := 0) hx hb dX0_isReached_20 (by decide) ?_
    cases hF
    exact gx_zret (r := gx_bi false) hx hb hr (gx_narb _) hlocks hw dX0_isReached_21
  refine lv_iconst (pc := 16) (v := 1) hx hb dX0_isReached_16 (by decide) ?_
  refine lv_goto (pc := 17) (tgt := 21) hx hb dX0_isReached_17 (by decide) ?_
  cases hF
  exact gx_zret (r := gx_bi true) hx hb hr (gx_narb _) hlocks hw dX0_isReached_21
set_option maxRecDepth 100000 in
theorem cl_X0_isReached {l : Launch} {G : gx_G} {M : gx_S} {o : Int64} {d : UInt64} {I V : gx_F} {p : Program} {e : Env} {R : Room} {s : State} {m : MethodId} {args : Array Value} {below : List Frame} {meth : Method} {c : Code} {H : Heap} {locs : List Loc} {cells slots : Nat} {Q : State → Prop} {cc : ByteArray} {pc nL index : Nat} {ls : Array Slot} {rest : List Value} {own : String} {x1 : Int32} {out : Bool} (hx : p.tables.exec = Jvm.exec) (hb : c.code = cc) (hml : c.maxLocals = nL) (hown : s.vm.findClass own = some m.cls) (hV : gx_V G s) (hw : gx_at G (I, V) M o d s.heap H locs) (hF : f_X0_isReached x1 I V = some out) (hlink : (Cond.methodLink own index yX0_isReached).before args s = true) (hsz : ls.size = nL) (hfr : 2 ≤ R.frames) (hlo : 41 ≤ R.locals) (hrest : (rest.map fun v => v.category).sum ≤ 8) (hdg : decode cc pc = .ok (.invokevirtual index, 3))
    (kk : ∀ (H1 : Heap) (locs1 : List Loc), gx_at G (I, V) M o d s.heap H1 locs1 → W p l e R s m args below meth c H1 locs1 cells slots Q (F0 m (pc + 3) ls (.int (gx_bi out) :: rest))) (hc : cells ≤ R.cells := by exact Nat.zero_le _) (hs : slots ≤ R.slots := by exact Nat.zero_le _) : W p l e R s m args below meth c H locs cells slots Q (F0 m pc ls (.int x1 :: .ref (G.2.1 48) :: rest)) :=
  gx_runi hw (va_runV (C := RX0) (As := [.int x1]) (rest := rest) ⟨hx, hb, hml, hown, (fun _ h => nomatch h : ∀ w ∈ ([] : List Cond), w.before args s = true)⟩ (k_X0_isReached hF) ⟨gx_callB (n := 1) rfl rfl hlink (gw_52 hV) (gw_552 hV) (by decide +kernel) ⟨hfr, hlo⟩, gw_550 hV, gw_551 hV⟩ (gx_recv (k := 48) (ci := 2) (T := TX0) hV hw (by decide) rfl rfl) rfl rfl hsz rfl (lv_room hrest) hdg ⟨hc, hs⟩) kk
set_option maxHeartbeats 4000000 in
set_option maxRecDepth 100000 in
theorem k_X0_fallingWithout {l : Launch} {G : gx_G} {M : gx_S} {o : Int64} {d : UInt64} {I V : gx_F} {k1 : Nat} {x2 : Int32} (hk1 : gx_isW k1) {out : (Int32 × gx_F × gx_F)} (hF : f_X0_fallingWithout k1 x2 I V = some out) : gx_K l yX0_fallingWithout cX0_fallingWithout 4 (some .int) { frames := 4, cells := 0, slots := 0, locals := 94 } [.ref (G.2.1 48), .ref (G.2.1 k1), .int x2] G (I, V) M o d (gx_Qi G out.1 (out.2.1, out.2.2) M o d) 0 0 := by
  refine gx_begin (by decide +kernel) (Nat.le_of_ble_eq_true rfl) ?_
  intro p e s m below meth c hx hb hr hml hown hlocks hV hw ls hl
  have hown : s.vm.findClass RX0 = some m.cls := hown
  have hl : lv_has ls 4 [(0, .ref (G.2.1 48)), (1, .ref (G.2.1 k1)), (2, .int x2)] := hl
  unfold f_X0_fallingWithout at hF
  refine lv_aload_n (pc := 0) hx hb dX0_fallingWithout_0 rfl (lv_at hl 0 rfl) ?_
  refine lv_aload_n (pc := 1) hx hb dX0_fallingWithout_1 rfl (lv_at hl 1 rfl) ?_
  refine lv_iconst (pc := 2) (v := (-1)) hx hb dX0_fallingWithout_2 (by decide) ?_
  obtain ⟨uq_1, huq_1, hF⟩ := Option.bind_eq_some_iff.mp hF
  refine cl_X0_countWithout (pc := 3) hx hb hml hown hV hw hk1 huq_1 (gw_548 hV) hl.1 (Nat.le_of_ble_eq_true rfl) (Nat.le_of_ble_eq_true rfl) (Nat.le_of_ble_eq_true rfl) dX0_fallingWithout_3 (fun H locs hw => ?_)
  refine lv_istore_n (pc := 6) (lv' := [(3, .int uq_1.1), (0, .ref (G.2.1 48)), (1, .ref (G.2.1 k1)), (2, .int x2)]) hx hb dX0_fallingWithout_6 rfl hl (by decide) rfl (fun ls hl => ?_)
  refine lv_aload_n (pc := 7) hx hb dX0_fallingWithout_7 rfl (lv_at hl 1 rfl) ?_
  refine lv_iload_n (pc := 8) hx hb dX0_fallingWithout_8 rfl (lv_at hl 3 rfl) ?_
  obtain ⟨uq_2, huq_2, hF⟩ := Option.bind_eq_some_iff.mp hF
  refine cl_X0_isReached (pc := 9) hx hb hml hown hV hw huq_2 (gw_549 hV) hl.1 (Nat.le_of_ble_eq_true rfl) (Nat.le_of_ble_eq_true rfl) (Nat.le_of_ble_eq_true rfl) dX0_fallingWithout_9 (fun H locs hw => ?_)
  refine gx_if_ne (pc := 12) (tgt := 17) hx hb hF dX0_fallingWithout_12 (by decide) (fun hF => ?_) (fun hF => ?_)
  · refine lv_iload_n (pc := 17) hx hb dX0_fallingWithout_17 rfl (lv_at hl 0 rfl) ?_
    refine lv_iconst (pc := 18) (v := 1) hx hb dX0_fallingWithout_18 (by decide) ?_
    refine lv_isub (pc := 19) hx hb dX0_fallingWithout_19 ?_
    refine lv_aload_n (pc := 20) hx hb dX0_fallingWithout_20 rfl (lv_at hl 1 rfl) ?_
    refine lv_aload_n (pc := 21) hx hb dX0_fallingWithout_21 rfl (lv_at hl 2 rfl) ?_
    refine lv_iload_n (pc := 22) hx hb dX0_fallingWithout_22 rfl (lv_at hl 3 rfl) ?_
    obtain ⟨uq_3, huq_3, hF⟩ := Option.bind_eq_some_iff.mp hF
    refine cl_X0_countWithout (pc := 23) hx hb hml hown hV hw hk1 huq_3 (gw_548 hV) hl.1 (Nat.le_of_ble_eq_true rfl) (Nat.le_of_ble_eq_true rfl) (Nat.le_of_ble_eq_true rfl) dX0_fallingWithout_23 (fun H locs hw => ?_)
    refine lv_isub (pc := 26) hx hb dX0_fallingWithout_26 ?_
    cases hF
    exact gx_iret hx hb hr hlocks hw dX0_fallingWithout_27
  refine lv_iconst (pc := 15) (v := 0) hx hb dX0_fallingWithout_15 (by decide) ?_
  cases hF
  exact gx_iret hx hb hr hlocks hw dX0_fallingWithout_16
set_option maxRecDepth 100000 in
theorem cl_X0_fallingWithout {l : Launch} {G : gx_G} {M : gx_S} {o : Int64} {d : UInt64} {I V : gx_F} {p : Program} {e : Env} {R : Room} {s : State} {m : MethodId} {args : Array Value} {below : List Frame} {meth : Method} {c : Code} {H : Heap} {locs : List Loc} {cells slots : Nat} {Q : State → Prop} {cc : ByteArray} {pc nL index : Nat} {ls : Array Slot} {rest : List Value} {own : String} {k1 : Nat} {x2 : Int32} {out : (Int32 × gx_F × gx_F)} (hx : p.tables.exec = Jvm.exec) (hb : c.code = cc) (hml : c.maxLocals = nL) (hown : s.vm.findClass own = some m.cls) (hV : gx_V G s) (hw : gx_at G (I, V) M o d s.heap H locs) (hk1 : gx_isW k1) (hF : f_X0_fallingWithout k1 x2 I V = some out) (hlink : (Cond.methodLink own index yX0_fallingWithout).before args s = true) (hsz : ls.size = nL) (hfr : 5 ≤ R.frames) (hlo : 117 ≤ R.locals) (hrest : (rest.map fun v => v.category).sum ≤ 8) (hdg : decode cc pc = .ok (.invokevirtual index, 3))
    (kk : ∀ (H1 : Heap) (locs1 : List Loc), gx_at G (out.2.1, out.2.2) M o d s.heap H1 locs1 → W p l e R s m args below meth c H1 locs1 cells slots Q (F0 m (pc + 3) ls (.int out.1 :: rest))) (hc : cells ≤ R.cells := by exact Nat.zero_le _) (hs : slots ≤ R.slots := by exact Nat.zero_le _) : W p l e R s m args below meth c H locs cells slots Q (F0 m pc ls (.int x2 :: .ref (G.2.1 k1) :: .ref (G.2.1 48) :: rest)) :=
  gx_runi hw (va_runV (C := RX0) (As := [.ref (G.2.1 k1), .int x2]) (rest := rest) ⟨hx, hb, hml, hown, (fun _ h => nomatch h : ∀ w ∈ ([] : List Cond), w.before args s = true)⟩ (k_X0_fallingWithout hk1 hF) ⟨gx_callB (n := 2) rfl rfl hlink (gw_52 hV) (gw_547 hV) (by decide +kernel) ⟨hfr, hlo⟩, gw_545 hV, gw_546 hV⟩ (gx_recv (k := 48) (ci := 2) (T := TX0) hV hw (by decide) rfl rfl) rfl rfl hsz rfl (lv_room hrest) hdg ⟨hc, hs⟩) kk
set_option maxHeartbeats 4000000 in
set_option maxRecDepth 100000 in
theorem k_X1_lookAround {l : Launch} {G : gx_G} {M : gx_S} {o : Int64} {d : UInt64} {I V : gx_F} {k1 : Nat} {x2 : Int32} (hk1 : gx_isW k1) {out : (Bool × gx_F × gx_F)} (hF : f_X1_lookAround k1 x2 I V = some out) : gx_K l yX1_lookAround cX1_lookAround 6 (some .boolean) { frames := 1, cells := 0, slots := 0, locals := 24 } [.ref (G.2.1 51), .ref (G.2.1 k1), .int x2] G (I, V) M o d (gx_Qi G (gx_bi out.1) (out.2.1, out.2.2) M o d) 0 0 := by
  refine gx_begin (by decide +kernel) (Nat.le_of_ble_eq_true rfl) ?_
  intro p e s m below meth c hx hb hr hml hown hlocks hV hw ls hl
  have hown : s.vm.findClass RX1 = some m.cls := hown
  have hl : lv_has ls 6 [(0, .ref (G.2.1 51)), (1, .ref (G.2.1 k1)), (2, .int x2)] := hl
  unfold f_X1_lookAround at hF
  refine lv_iconst (pc := 0) (v := 0) hx hb dX1_lookAround_0 (by decide) ?_
  refine lv_istore_n (pc := 1) (lv' := [(3, .int 0), (0, .ref (G.2.1 51)), (1, .ref (G.2.1 k1)), (2, .int x2)]) hx hb dX1_lookAround_1 rfl hl (by decide) rfl (fun ls hl => ?_)
  refine lv_iconst (pc := 2) (v := 0) hx hb dX1_lookAround_2 (by decide) ?_
  refine lv_istore (pc := 3) (lv' := [(4, .int 0), (3, .int 0), (0, .ref (G.2.1 51)), (1, .ref (G.2.1 k1)), (2, .int x2)]) hx hb dX1_lookAround_3 hl (by decide) rfl (fun ls hl => ?_)
  have L1 : ∀ (n : Nat) (K1 : Int32 → Int32 → gx_F → gx_F → Option (Bool × gx_F × gx_F)) (uv_1 : Int32) (uv_2 : Int32) (uI_3 : gx_F) (uV_4 : gx_F) (H : Heap) (locs : List Loc) (ls : Array Slot), lv_has ls 6 [(4, .int uv_2), (3, .int uv_1), (0, .ref (G.2.1 51)), (1, .ref (G.2.1 k1)), (2, .int x2)] → gx_at G (uI_3, uV_4) M o d s.heap H locs → f_X1_lookAround_L1 k1 x2 K1 n uv_1 uv_2 uI_3 uV_4 = some out → (∀ (uv_1 : Int32) (uv_2 : Int32) (uI_3 : gx_F) (uV_4 : gx_F) (H : Heap) (locs : List Loc) (ls : Array Slot), lv_has ls 6 [(4, .int uv_2), (3, .int uv_1), (0, .ref (G.2.1 51)), (1, .ref (G.2.1 k1)), (2, .int x2)] → gx_at G (uI_3, uV_4) M o d s.heap H locs → K1 uv_1 uv_2 uI_3 uV_4 = some out → W p l e ({ frames := 1, cells := 0, slots := 0, locals := 24 } : Room) s m ([.ref (G.2.1 51), .ref (G.2.1 k1), .int x2] : List Value).toArray below meth c H locs 0 0 (MQ below (gx_Qi G (gx_bi out.1) (out.2.1, out.2.2) M o d) ([.ref (G.2.1 51), .ref (G.2.1 k1), .int x2] : List Value).toArray s 0 0 (gx_A G)) (F0 m 63 ls [])) → W p l e ({ frames := 1, cells := 0, slots := 0, locals := 24 } : Room) s m ([.ref (G.2.1 51), .ref (G.2.1 k1), .int x2] : List Value).toArray below meth c H locs 0 0 (MQ below (gx_Qi G (gx_bi out.1) (out.2.1, out.2.2) M o d) ([.ref (G.2.1 51), .ref (G.2.1 k1), .int x2] : List Value).toArray s 0 0 (gx_A G)) (F0 m 5 ls []) := by
    intro n
    induction n with
    | zero =>
      intro K1 uv_1 uv_2 uI_3 uV_4 H locs ls hl hw hF hK
      rw [f_X1_lookAround_L1] at hF
      cases hF
    | succ n ih1 =>
      intro K1 uv_1 uv_2 uI_3 uV_4 H locs ls hl hw hF hK1
      rw [f_X1_lookAround_L1] at hF
      refine lv_iload (pc := 5) hx hb dX1_lookAround_5 (lv_at hl 0 rfl) ?_
      refine lv_iconst (pc := 7) (v := 4) hx hb dX1_lookAround_7 (by decide) ?_
      refine gx_icmp_ge (pc := 8) (tgt := 63) hx hb hF dX1_lookAround_8 (by decide) (fun hF => ?_) (fun hF => ?_)
      · exact hK1 _ _ _ _ _ _ _ (lv_sub hl [0, 1, 2, 3, 4] rfl) hw hF
      refine lv_aload_n (pc := 11) hx hb dX1_lookAround_11 rfl (lv_at hl 3 rfl) ?_
      refine lv_iload_n (pc := 12) hx hb dX1_lookAround_12 rfl (lv_at hl 4 rfl) ?_
      refine lv_iload (pc := 13) hx hb dX1_lookAround_13 (lv_at hl 0 rfl) ?_
      obtain ⟨uq_5, huq_5, hF⟩ := Option.bind_eq_some_iff.mp hF
      refine cn_X6_beside (pc := 15) hx hb hml hown hV hw huq_5 (gw_351 hV) hl.1 (Nat.le_of_ble_eq_true rfl) (Nat.le_of_ble_eq_true rfl) (Nat.le_of_ble_eq_true rfl) dX1_lookAround_15 (fun H locs hw => ?_)
      obtain ⟨uq_6, huq_6, hF⟩ := Option.bind_eq_some_iff.mp hF
      refine cl_X5_brickOn (pc := 18) hx hb hml hown hV hw hk1 huq_6 (gw_352 hV) hl.1 (Nat.le_of_ble_eq_true rfl) (Nat.le_of_ble_eq_true rfl) (Nat.le_of_ble_eq_true rfl) dX1_lookAround_18 (fun H locs hw => ?_)
      refine lv_istore (pc := 21) (lv' := [(5, .int uq_6), (4, .int uv_2), (3, .int uv_1), (0, .ref (G.2.1 51)), (1, .ref (G.2.1 k1)), (2, .int x2)]) hx hb dX1_lookAround_21 hl (by decide) rfl (fun ls hl => ?_)
      refine lv_aload_n (pc := 23) hx hb dX1_lookAround_23 rfl (lv_at hl 3 rfl) ?_
      refine gg_X1_0 (pc := 24) hx hb hown hV hw (gw_172 hV) dX1_lookAround_24 ?_
      refine lv_iload (pc := 27) hx hb dX1_lookAround_27 (lv_at hl 1 rfl) ?_
      refine lv_aload_n (pc := 29) hx hb dX1_lookAround_29 rfl (lv_at hl 4 rfl) ?_
      refine lv_iload (pc := 30) hx hb dX1_lookAround_30 (lv_at hl 0 rfl) ?_
      refine lv_iload (pc := 32) hx hb dX1_lookAround_32 (lv_at hl 1 rfl) ?_
      obtain ⟨uq_7, huq_7, hF⟩ := Option.bind_eq_some_iff.mp hF
      refine cn_X6_opposite (pc := 34) hx hb hml hown hV hw huq_7 (gw_353 hV) hl.1 (Nat.le_of_ble_eq_true rfl) (Nat.le_of_ble_eq_true rfl) (Nat.le_of_ble_eq_true rfl) dX1_lookAround_34 (fun H locs hw => ?_)
      obtain ⟨uq_8, huq_8, hF⟩ := Option.bind_eq_some_iff.mp hF
      refine cl_X5_glueOn (pc := 37) hx hb hml hown hV hw hk1 huq_8 (gw_354 hV) hl.1 (Nat.le_of_ble_eq_true rfl) (Nat.le_of_ble_eq_true rfl) (Nat.le_of_ble_eq_true rfl) dX1_lookAround_37 (fun H locs hw => ?_)
      refine ga_52_st (pc := 40) hx hb hV hw hF dX1_lookAround_40 (fun H locs hw hF => ?_)
      refine lv_iload_n (pc := 41) hx hb dX1_lookAround_41 rfl (lv_at hl 2 rfl) ?_
      refine gx_if_ne (pc := 42) (tgt := 51) hx hb hF dX1_lookAround_42 (by decide) (fun hF => ?_) (fun hF => ?_)
      · refine lv_iconst (pc := 51) (v := 1) hx hb dX1_lookAround_51 (by decide) ?_
        refine lv_goto (pc := 52) (tgt := 56) hx hb dX1_lookAround_52 (by decide) ?_
        refine lv_istore_n (pc := 56) (lv' := [(3, .int 1), (5, .int uq_6), (4, .int uv_2), (0, .ref (G.2.1 51)), (1, .ref (G.2.1 k1)), (2, .int x2)]) hx hb dX1_lookAround_56 rfl hl (by decide) rfl (fun ls hl => ?_)
        refine lv_iinc (pc := 57) (v := (uv_2 + 1)) (lv' := [(4, .int (uv_2 + 1)), (3, .int 1), (5, .int uq_6), (0, .ref (G.2.1 51)), (1, .ref (G.2.1 k1)), (2, .int x2)]) hx hb dX1_lookAround_57 hl (k := 2) rfl rfl (by decide) rfl (fun ls hl => ?_)
        refine lv_goto (pc := 60) (tgt := 5) hx hb dX1_lookAround_60 (by decide) ?_
        exact ih1 _ _ _ _ _ _ _ _ (lv_sub hl [0, 1, 3, 4, 5] rfl) hw hF hK1
      refine lv_iload (pc := 45) hx hb dX1_lookAround_45 (lv_at hl 0 rfl) ?_
      refine lv_iconst (pc := 47) (v := (-1)) hx hb dX1_lookAround_47 (by decide) ?_
      refine gx_icmp_eq (pc := 48) (tgt := 55) hx hb hF dX1_lookAround_48 (by decide) (fun hF => ?_) (fun hF => ?_)
      · refine lv_iconst (pc := 55) (v := 0) hx hb dX1_lookAround_55 (by decide) ?_
        refine lv_istore_n (pc := 56) (lv' := [(3, .int 0), (5, .int uq_6), (4, .int uv_2), (0, .ref (G.2.1 51)), (1, .ref (G.2.1 k1)), (2, .int x2)]) hx hb dX1_lookAround_56 rfl hl (by decide) rfl (fun ls hl => ?_)
        refine lv_iinc (pc := 57) (v := (uv_2 + 1)) (lv' := [(4, .int (uv_2 + 1)), (3, .int 0), (5, .int uq_6), (0, .ref (G.2.1 51)), (1, .ref (G.2.1 k1)), (2, .int x2)]) hx hb dX1_lookAround_57 hl (k := 2) rfl rfl (by decide) rfl (fun ls hl => ?_)
        refine lv_goto (pc := 60) (tgt := 5) hx hb dX1_lookAround_60 (by decide) ?_
        exact ih1 _ _ _ _ _ _ _ _ (lv_sub hl [0, 1, 3, 4, 5] rfl) hw hF hK1
      refine lv_iconst (pc := 51) (v := 1) hx hb dX1_lookAround_51 (by decide) ?_
      refine lv_goto (pc := 52) (tgt := 56) hx hb dX1_lookAround_52 (by decide) ?_
      refine lv_istore_n (pc := 56) (lv' := [(3, .int 1), (5, .int uq_6), (4, .int uv_2), (0, .ref (G.2.1 51)), (1, .ref (G.2.1 k1)), (2, .int x2)]) hx hb dX1_lookAround_56 rfl hl (by decide) rfl (fun ls hl => ?_)
      refine lv_iinc (pc := 57) (v := (uv_2 + 1)) (lv' := [(4, .int (uv_2 + 1)), (3, .int 1), (5, .int uq_6), (0, .ref (G.2.1 51)), (1, .ref (G.2.1 k1)), (2, .int x2)]) hx hb dX1_lookAround_57 hl (k := 2) rfl rfl (by decide) rfl (fun ls hl => ?_)
      refine lv_goto (pc := 60) (tgt := 5) hx hb dX1_lookAround_60 (by decide) ?_
      exact ih1 _ _ _ _ _ _ _ _ (lv_sub hl [0, 1, 3, 4, 5] rfl) hw hF hK1
  refine L1 1000 _ _ _ _ _ _ _ _ hl hw hF (fun uv_9 uv_10 uI_11 uV_12 H locs ls hl hw hF => ?_)
  refine lv_iload_n (pc := 63) hx hb dX1_lookAround_63 rfl (lv_at hl 1 rfl) ?_
  obtain ⟨hB, hF⟩ := gx_ck_of hF
  cases hF
  exact gx_zretB hB hx hb hr (gx_narb _) hlocks hw dX1_lookAround_64
set_option maxRecDepth 100000 in
theorem cl_X1_lookAround {l : Launch} {G : gx_G} {M : gx_S} {o : Int64} {d : UInt64} {I V : gx_F} {p : Program} {e : Env} {R : Room} {s : State} {m : MethodId} {args : Array Value} {below : List Frame} {meth : Method} {c : Code} {H : Heap} {locs : List Loc} {cells slots : Nat} {Q : State → Prop} {cc : ByteArray} {pc nL index : Nat} {ls : Array Slot} {rest : List Value} {own : String} {k1 : Nat} {x2 : Int32} {out : (Bool × gx_F × gx_F)} (hx : p.tables.exec = Jvm.exec) (hb : c.code = cc) (hml : c.maxLocals = nL) (hown : s.vm.findClass own = some m.cls) (hV : gx_V G s) (hw : gx_at G (I, V) M o d s.heap H locs) (hk1 : gx_isW k1) (hF : f_X1_lookAround k1 x2 I V = some out) (hlink : (Cond.methodLink own index yX1_lookAround).before args s = true) (hsz : ls.size = nL) (hfr : 2 ≤ R.frames) (hlo : 49 ≤ R.locals) (hrest : (rest.map fun v => v.category).sum ≤ 8) (hdg : decode cc pc = .ok (.invokevirtual index, 3))
    (kk : ∀ (H1 : Heap) (locs1 : List Loc), gx_at G (out.2.1, out.2.2) M o d s.heap H1 locs1 → W p l e R s m args below meth c H1 locs1 cells slots Q (F0 m (pc + 3) ls (.int (gx_bi out.1) :: rest))) (hc : cells ≤ R.cells := by exact Nat.zero_le _) (hs : slots ≤ R.slots := by exact Nat.zero_le _) : W p l e R s m args below meth c H locs cells slots Q (F0 m pc ls (.int x2 :: .ref (G.2.1 k1) :: .ref (G.2.1 51) :: rest)) :=
  gx_runi hw (va_runV (C := RX1) (As := [.ref (G.2.1 k1), .int x2]) (rest := rest) ⟨hx, hb, hml, hown, (fun _ h => nomatch h : ∀ w ∈ ([] : List Cond), w.before args s = true)⟩ (k_X1_lookAround hk1 hF) ⟨gx_callB (n := 2) rfl rfl hlink (gw_53 hV) (gw_350 hV) (by decide +kernel) ⟨hfr, hlo⟩, gw_349 hV, gw_1 hV⟩ (gx_recv (k := 51) (ci := 3) (T := TX1) hV hw (by decide) rfl rfl) rfl rfl hsz rfl (lv_room hrest) hdg ⟨hc, hs⟩) kk
set_option maxHeartbeats 4000000 in
set_option maxRecDepth 100000 in
theorem k_X1_holdIfFit {l : Launch} {G : gx_G} {M : gx_S} {o : Int64} {d : UInt64} {I V : gx_F} {k1 : Nat} {x2 : Int32} (hk1 : gx_isW k1) {out : Int32} (hF : f_X1_holdIfFit k1 x2 I V = some out) : gx_K l yX1_holdIfFit cX1_holdIfFit 6 (some .int) { frames := 1, cells := 0, slots := 0, locals := 24 } [.ref (G.2.1 51), .ref (G.2.1 k1), .int x2] G (I, V) M o d (gx_Qi G out (I, V) M o d) 0 0 := by
  refine gx_begin (by decide +kernel) (Nat.le_of_ble_eq_true rfl) ?_
  intro p e s m below meth c hx hb hr hml hown hlocks hV hw ls hl
  have hown : s.vm.findClass RX1 = some m.cls := hown
  have hl : lv_has ls 6 [(0, .ref (G.2.1 51)), (1, .ref (G.2.1 k1)), (2, .int x2)] := hl
  unfold f_X1_holdIfFit at hF
  refine lv_iconst (pc := 0) (v := 0) hx hb dX1_holdIfFit_0 (by decide) ?_
  refine lv_istore_n (pc := 1) (lv' := [(3, .int 0), (0, .ref (G.2.1 51)), (1, .ref (G.2.1 k1)), (2, .int x2)]) hx hb dX1_holdIfFit_1 rfl hl (by decide) rfl (fun ls hl => ?_)
  refine lv_iconst (pc := 2) (v := 0) hx hb dX1_holdIfFit_2 (by decide) ?_
  refine lv_istore (pc := 3) (lv' := [(4, .int 0), (3, .int 0), (0, .ref (G.2.1 51)), (1, .ref (G.2.1 k1)), (2, .int x2)]) hx hb dX1_holdIfFit_3 hl (by decide) rfl (fun ls hl => ?_)
  have L1 : ∀ (n : Nat) (K1 : Int32 → Int32 → Option Int32) (uv_1 : Int32) (uv_2 : Int32) (H : Heap) (locs : List Loc) (ls : Array Slot), lv_has ls 6 [(4, .int uv_2), (3, .int uv_1), (0, .ref (G.2.1 51)), (1, .ref (G.2.1 k1)), (2, .int x2)] → gx_at G (I, V) M o d s.heap H locs → f_X1_holdIfFit_L1 k1 x2 I V K1 n uv_1 uv_2 = some out → (∀ (uv_1 : Int32) (uv_2 : Int32) (H : Heap) (locs : List Loc) (ls : Array Slot), lv_has ls 6 [(4, .int uv_2), (3, .int uv_1), (0, .ref (G.2.1 51)), (1, .ref (G.2.1 k1)), (2, .int x2)] → gx_at G (I, V) M o d s.heap H locs → K1 uv_1 uv_2 = some out → W p l e ({ frames := 1, cells := 0, slots := 0, locals := 24 } : Room) s m ([.ref (G.2.1 51), .ref (G.2.1 k1), .int x2] : List Value).toArray below meth c H locs 0 0 (MQ below (gx_Qi G out (I, V) M o d) ([.ref (G.2.1 51), .ref (G.2.1 k1), .int x2] : List Value).toArray s 0 0 (gx_A G)) (F0 m 70 ls [])) → W p l e ({ frames := 1, cells := 0, slots := 0, locals := 24 } : Room) s m ([.ref (G.2.1 51), .ref (G.2.1 k1), .int x2] : List Value).toArray below meth c H locs 0 0 (MQ below (gx_Qi G out (I, V) M o d) ([.ref (G.2.1 51), .ref (G.2.1 k1), .int x2] : List Value).toArray s 0 0 (gx_A G)) (F0 m 5 ls []) := by
    intro n
    induction n with
    | zero =>
      intro K1 uv_1 uv_2 H locs ls hl hw hF hK
      rw [f_X1_holdIfFit_L1] at hF
      cases hF
    | succ n ih1 =>
      intro K1 uv_1 uv_2 H locs ls hl hw hF hK1
      rw [f_X1_holdIfFit_L1] at hF
      refine lv_iload (pc := 5) hx hb dX1_holdIfFit_5 (lv_at hl 0 rfl) ?_
      refine lv_iconst (pc := 7) (v := 4) hx hb dX1_holdIfFit_7 (by decide) ?_
      refine gx_icmp_ge (pc := 8) (tgt := 70) hx hb hF dX1_holdIfFit_8 (by decide) (fun hF => ?_) (fun hF => ?_)
      · exact hK1 _ _ _ _ _ (lv_sub hl [0, 1, 2, 3, 4] rfl) hw hF
      refine lv_aload_n (pc := 11) hx hb dX1_holdIfFit_11 rfl (lv_at hl 2 rfl) ?_
      refine gg_X1_0 (pc := 12) hx hb hown hV hw (gw_172 hV) dX1_holdIfFit_12 ?_
      refine lv_iload (pc := 15) hx hb dX1_holdIfFit_15 (lv_at hl 0 rfl) ?_
      refine ga_52_ld (pc := 17) hx hb hV hw hF dX1_holdIfFit_17 (fun _ hF => ?_)
      refine lv_iconst (pc := 18) (v := (-1)) hx hb dX1_holdIfFit_18 (by decide) ?_
      refine gx_icmp_eq (pc := 19) (tgt := 64) hx hb hF dX1_holdIfFit_19 (by decide) (fun hF => ?_) (fun hF => ?_)
      · refine lv_iinc (pc := 64) (v := (uv_2 + 1)) (lv' := [(4, .int (uv_2 + 1)), (3, .int uv_1), (0, .ref (G.2.1 51)), (1, .ref (G.2.1 k1)), (2, .int x2)]) hx hb dX1_holdIfFit_64 hl (k := 0) rfl rfl (by decide) rfl (fun ls hl => ?_)
        refine lv_goto (pc := 67) (tgt := 5) hx hb dX1_holdIfFit_67 (by decide) ?_
        exact ih1 _ _ _ _ _ _ (lv_sub hl [0, 1, 2, 3, 4] rfl) hw hF hK1
      refine lv_aload_n (pc := 22) hx hb dX1_holdIfFit_22 rfl (lv_at hl 3 rfl) ?_
      refine lv_iload_n (pc := 23) hx hb dX1_holdIfFit_23 rfl (lv_at hl 4 rfl) ?_
      refine lv_iload (pc := 24) hx hb dX1_holdIfFit_24 (lv_at hl 0 rfl) ?_
      obtain ⟨uq_3, huq_3, hF⟩ := Option.bind_eq_some_iff.mp hF
      refine cl_X5_glueOn (pc := 26) hx hb hml hown hV hw hk1 huq_3 (gw_354 hV) hl.1 (Nat.le_of_ble_eq_true rfl) (Nat.le_of_ble_eq_true rfl) (Nat.le_of_ble_eq_true rfl) dX1_holdIfFit_26 (fun H locs hw => ?_)
      refine lv_istore (pc := 29) (lv' := [(5, .int uq_3), (4, .int uv_2), (3, .int uv_1), (0, .ref (G.2.1 51)), (1, .ref (G.2.1 k1)), (2, .int x2)]) hx hb dX1_holdIfFit_29 hl (by decide) rfl (fun ls hl => ?_)
      refine lv_iload (pc := 31) hx hb dX1_holdIfFit_31 (lv_at hl 0 rfl) ?_
      refine lv_aload_n (pc := 33) hx hb dX1_holdIfFit_33 rfl (lv_at hl 3 rfl) ?_
      refine gg_X1_0 (pc := 34) hx hb hown hV hw (gw_172 hV) dX1_holdIfFit_34 ?_
      refine lv_iload (pc := 37) hx hb dX1_holdIfFit_37 (lv_at hl 1 rfl) ?_
      refine ga_52_ld (pc := 39) hx hb hV hw hF dX1_holdIfFit_39 (fun _ hF => ?_)
      obtain ⟨uq_4, huq_4, hF⟩ := Option.bind_eq_some_iff.mp hF
      refine cl_X5_areAtOdds (pc := 40) hx hb hml hown hV hw huq_4 (gw_363 hV) hl.1 (Nat.le_of_ble_eq_true rfl) (Nat.le_of_ble_eq_true rfl) (Nat.le_of_ble_eq_true rfl) dX1_holdIfFit_40 (fun H locs hw => ?_)
      refine gx_if_eq (pc := 43) (tgt := 48) hx hb hF dX1_holdIfFit_43 (by decide) (fun hF => ?_) (fun hF => ?_)
      · refine lv_iload_n (pc := 48) hx hb dX1_holdIfFit_48 rfl (lv_at hl 2 rfl) ?_
        refine lv_aload_n (pc := 49) hx hb dX1_holdIfFit_49 rfl (lv_at hl 4 rfl) ?_
        refine lv_iload (pc := 50) hx hb dX1_holdIfFit_50 (lv_at hl 0 rfl) ?_
        refine lv_aload_n (pc := 52) hx hb dX1_holdIfFit_52 rfl (lv_at hl 3 rfl) ?_
        refine gg_X1_0 (pc := 53) hx hb hown hV hw (gw_172 hV) dX1_holdIfFit_53 ?_
        refine lv_iload (pc := 56) hx hb dX1_holdIfFit_56 (lv_at hl 1 rfl) ?_
        refine ga_52_ld (pc := 58) hx hb hV hw hF dX1_holdIfFit_58 (fun _ hF => ?_)
        obtain ⟨uq_5, huq_5, hF⟩ := Option.bind_eq_some_iff.mp hF
        refine cl_X5_strengthBetween (pc := 59) hx hb hml hown hV hw hk1 huq_5 (gw_364 hV) hl.1 (Nat.le_of_ble_eq_true rfl) (Nat.le_of_ble_eq_true rfl) (Nat.le_of_ble_eq_true rfl) dX1_holdIfFit_59 (fun H locs hw => ?_)
        refine lv_iadd (pc := 62) hx hb dX1_holdIfFit_62 ?_
        refine lv_istore_n (pc := 63) (lv' := [(3, .int (uv_1 + uq_5)), (5, .int uq_3), (4, .int uv_2), (0, .ref (G.2.1 51)), (1, .ref (G.2.1 k1)), (2, .int x2)]) hx hb dX1_holdIfFit_63 rfl hl (by decide) rfl (fun ls hl => ?_)
        refine lv_iinc (pc := 64) (v := (uv_2 + 1)) (lv' := [(4, .int (uv_2 + 1)), (3, .int (uv_1 + uq_5)), (5, .int uq_3), (0, .ref (G.2.1 51)), (1, .ref (G.2.1 k1)), (2, .int x2)]) hx hb dX1_holdIfFit_64 hl (k := 2) rfl rfl (by decide) rfl (fun ls hl => ?_)
        refine lv_goto (pc := 67) (tgt := 5) hx hb dX1_holdIfFit_67 (by decide) ?_
        exact ih1 _ _ _ _ _ _ (lv_sub hl [0, 1, 3, 4, 5] rfl) hw hF hK1
      refine lv_iconst (pc := 46) (v := (-1)) hx hb dX1_holdIfFit_46 (by decide) ?_
      cases hF
      exact gx_iret hx hb hr hlocks hw dX1_holdIfFit_47
  refine L1 1000 _ _ _ _ _ _ hl hw hF (fun uv_6 uv_7 H locs ls hl hw hF => ?_)
  refine lv_iload_n (pc := 70) hx hb dX1_holdIfFit_70 rfl (lv_at hl 1 rfl) ?_
  cases hF
  exact gx_iret hx hb hr hlocks hw dX1_holdIfFit_71
set_option maxRecDepth 100000 in
theorem cl_X1_holdIfFit {l : Launch} {G : gx_G} {M : gx_S} {o : Int64} {d : UInt64} {I V : gx_F} {p : Program} {e : Env} {R : Room} {s : State} {m : MethodId} {args : Array Value} {below : List Frame} {meth : Method} {c : Code} {H : Heap} {locs : List Loc} {cells slots : Nat} {Q : State → Prop} {cc : ByteArray} {pc nL index : Nat} {ls : Array Slot} {rest : List Value} {own : String} {k1 : Nat} {x2 : Int32} {out : Int32} (hx : p.tables.exec = Jvm.exec) (hb : c.code = cc) (hml : c.maxLocals = nL) (hown : s.vm.findClass own = some m.cls) (hV : gx_V G s) (hw : gx_at G (I, V) M o d s.heap H locs) (hk1 : gx_isW k1) (hF : f_X1_holdIfFit k1 x2 I V = some out) (hlink : (Cond.methodLink own index yX1_holdIfFit).before args s = true) (hsz : ls.size = nL) (hfr : 2 ≤ R.frames) (hlo : 49 ≤ R.locals) (hrest : (rest.map fun v => v.category).sum ≤ 8) (hdg : decode cc pc = .ok (.invokevirtual index, 3))
    (kk : ∀ (H1 : Heap) (locs1 : List Loc), gx_at G (I, V) M o d s.heap H1 locs1 → W p l e R s m args below meth c H1 locs1 cells slots Q (F0 m (pc + 3) ls (.int out :: rest))) (hc : cells ≤ R.cells := by exact Nat.zero_le _) (hs : slots ≤ R.slots := by exact Nat.zero_le _) : W p l e R s m args below meth c H locs cells slots Q (F0 m pc ls (.int x2 :: .ref (G.2.1 k1) :: .ref (G.2.1 51) :: rest)) :=
  gx_runi hw (va_runV (C := RX1) (As := [.ref (G.2.1 k1), .int x2]) (rest := rest) ⟨hx, hb, hml, hown, (fun _ h => nomatch h : ∀ w ∈ ([] : List Cond), w.before args s = true)⟩ (k_X1_holdIfFit hk1 hF) ⟨gx_callB (n := 2) rfl rfl hlink (gw_53 hV) (gw_362 hV) (by decide +kernel) ⟨hfr, hlo⟩, gw_361 hV, gw_3 hV⟩ (gx_recv (k := 51) (ci := 3) (T := TX1) hV hw (by decide) rfl rfl) rfl rfl hsz rfl (lv_room hrest) hdg ⟨hc, hs⟩) kk
set_option maxHeartbeats 4000000 in
set_option maxRecDepth 100000 in
theorem k_X1_bestFor {l : Launch} {G : gx_G} {M : gx_S} {o : Int64} {d : UInt64} {I V : gx_F} {k1 : Nat} {x2 : Int32} (hk1 : gx_isW k1) {out : (Int32 × gx_F × gx_F)} (hF : f_X1_bestFor k1 x2 I V = some out) : gx_K l yX1_bestFor cX1_bestFor 7 (some .int) { frames := 2, cells := 0, slots := 0, locals := 49 } [.ref (G.2.1 51), .ref (G.2.1 k1), .int x2] G (I, V) M o d (gx_Qi G out.1 (out.2.1, out.2.2) M o d) 0 0 := by
  refine gx_begin (by decide +kernel) (Nat.le_of_ble_eq_true rfl) ?_
  intro p e s m below meth c hx hb hr hml hown hlocks hV hw ls hl
  have hown : s.vm.findClass RX1 = some m.cls := hown
  have hl : lv_has ls 7 [(0, .ref (G.2.1 51)), (1, .ref (G.2.1 k1)), (2, .int x2)] := hl
  unfold f_X1_bestFor at hF
  refine lv_aload_n (pc := 0) hx hb dX1_bestFor_0 rfl (lv_at hl 1 rfl) ?_
  refine lv_iload_n (pc := 1) hx hb dX1_bestFor_1 rfl (lv_at hl 2 rfl) ?_
  obtain ⟨uq_1, huq_1, hF⟩ := Option.bind_eq_some_iff.mp hF
  refine cl_X5_isFree (pc := 2) hx hb hml hown hV hw hk1 huq_1 (gw_346 hV) hl.1 (Nat.le_of_ble_eq_true rfl) (Nat.le_of_ble_eq_true rfl) (Nat.le_of_ble_eq_true rfl) dX1_bestFor_2 (fun H locs hw => ?_)
  refine gx_if_eq (pc := 5) (tgt := 17) hx hb hF dX1_bestFor_5 (by decide) (fun hF => ?_) (fun hF => ?_)
  · refine lv_iconst (pc := 17) (v := (-1)) hx hb dX1_bestFor_17 (by decide) ?_
    cases hF
    exact gx_iret hx hb hr hlocks hw dX1_bestFor_18
  refine lv_aload_n (pc := 8) hx hb dX1_bestFor_8 rfl (lv_at hl 0 rfl) ?_
  refine lv_aload_n (pc := 9) hx hb dX1_bestFor_9 rfl (lv_at hl 1 rfl) ?_
  refine lv_iload_n (pc := 10) hx hb dX1_bestFor_10 rfl (lv_at hl 2 rfl) ?_
  obtain ⟨uq_2, huq_2, hF⟩ := Option.bind_eq_some_iff.mp hF
  refine cl_X1_lookAround (pc := 11) hx hb hml hown hV hw hk1 huq_2 (gw_347 hV) hl.1 (Nat.le_of_ble_eq_true rfl) (Nat.le_of_ble_eq_true rfl) (Nat.le_of_ble_eq_true rfl) dX1_bestFor_11 (fun H locs hw => ?_)
  refine gx_if_ne (pc := 14) (tgt := 19) hx hb hF dX1_bestFor_14 (by decide) (fun hF => ?_) (fun hF => ?_)
  · refine lv_iconst (pc := 19) (v := (-1)) hx hb dX1_bestFor_19 (by decide) ?_
    refine lv_istore_n (pc := 20) (lv' := [(3, .int (-1)), (0, .ref (G.2.1 51)), (1, .ref (G.2.1 k1)), (2, .int x2)]) hx hb dX1_bestFor_20 rfl hl (by decide) rfl (fun ls hl => ?_)
    refine lv_aload_n (pc := 21) hx hb dX1_bestFor_21 rfl (lv_at hl 2 rfl) ?_
    refine gg_X5_4 (pc := 22) hx hb hown hV hw hk1 (gw_96 hV) dX1_bestFor_22 ?_
    refine lv_iconst (pc := 25) (v := 1) hx hb dX1_bestFor_25 (by decide) ?_
    refine lv_isub (pc := 26) hx hb dX1_bestFor_26 ?_
    refine lv_istore (pc := 27) (lv' := [(4, .int ((uq_2.2.1 k1 4) - 1)), (3, .int (-1)), (0, .ref (G.2.1 51)), (1, .ref (G.2.1 k1)), (2, .int x2)]) hx hb dX1_bestFor_27 hl (by decide) rfl (fun ls hl => ?_)
    refine lv_iconst (pc := 29) (v := 0) hx hb dX1_bestFor_29 (by decide) ?_
    refine lv_istore (pc := 30) (lv' := [(5, .int 0), (4, .int ((uq_2.2.1 k1 4) - 1)), (3, .int (-1)), (0, .ref (G.2.1 51)), (1, .ref (G.2.1 k1)), (2, .int x2)]) hx hb dX1_bestFor_30 hl (by decide) rfl (fun ls hl => ?_)
    have L1 : ∀ (n : Nat) (K1 : Int32 → Int32 → Int32 → Option (Int32 × gx_F × gx_F)) (uv_3 : Int32) (uv_4 : Int32) (uv_5 : Int32) (H : Heap) (locs : List Loc) (ls : Array Slot), lv_has ls 7 [(5, .int uv_5), (4, .int uv_4), (3, .int uv_3), (0, .ref (G.2.1 51)), (1, .ref (G.2.1 k1)), (2, .int x2)] → gx_at G (uq_2.2.1, uq_2.2.2) M o d s.heap H locs → f_X1_bestFor_L1 k1 uq_2 K1 n uv_3 uv_4 uv_5 = some out → (∀ (uv_3 : Int32) (uv_4 : Int32) (uv_5 : Int32) (H : Heap) (locs : List Loc) (ls : Array Slot), lv_has ls 7 [(5, .int uv_5), (4, .int uv_4), (3, .int uv_3), (0, .ref (G.2.1 51)), (1, .ref (G.2.1 k1)), (2, .int x2)] → gx_at G (uq_2.2.1, uq_2.2.2) M o d s.heap H locs → K1 uv_3 uv_4 uv_5 = some out → W p l e ({ frames := 2, cells := 0, slots := 0, locals := 49 } : Room) s m ([.ref (G.2.1 51), .ref (G.2.1 k1), .int x2] : List Value).toArray below meth c H locs 0 0 (MQ below (gx_Qi G out.1 (out.2.1, out.2.2) M o d) ([.ref (G.2.1 51), .ref (G.2.1 k1), .int x2] : List Value).toArray s 0 0 (gx_A G)) (F0 m 72 ls [])) → W p l e ({ frames := 2, cells := 0, slots := 0, locals := 49 } : Room) s m ([.ref (G.2.1 51), .ref (G.2.1 k1), .int x2] : List Value).toArray below meth c H locs 0 0 (MQ below (gx_Qi G out.1 (out.2.1, out.2.2) M o d) ([.ref (G.2.1 51), .ref (G.2.1 k1), .int x2] : List Value).toArray s 0 0 (gx_A G)) (F0 m 32 ls []) := by
      intro n
      induction n with
      | zero =>
        intro K1 uv_3 uv_4 uv_5 H locs ls hl hw hF hK
        rw [f_X1_bestFor_L1] at hF
        cases hF
      | succ n ih1 =>
        intro K1 uv_3 uv_4 uv_5 H locs ls hl hw hF hK1
        rw [f_X1_bestFor_L1] at hF
        refine lv_iload (pc := 32) hx hb dX1_bestFor_32 (lv_at hl 0 rfl) ?_
        refine lv_aload_n (pc := 34) hx hb dX1_bestFor_34 rfl (lv_at hl 4 rfl) ?_
        refine gg_X5_3 (pc := 35) hx hb hown hV hw hk1 (gw_92 hV) dX1_bestFor_35 ?_
        refine lv_iconst (pc := 38) (v := 4) hx hb dX1_bestFor_38 (by decide) ?_
        refine lv_imul (pc := 39) hx hb dX1_bestFor_39 ?_
        refine gx_icmp_ge (pc := 40) (tgt := 72) hx hb hF dX1_bestFor_40 (by decide) (fun hF => ?_) (fun hF => ?_)
        · exact hK1 _ _ _ _ _ _ (lv_sub hl [0, 1, 2, 3, 4, 5] rfl) hw hF
        refine lv_aload_n (pc := 43) hx hb dX1_bestFor_43 rfl (lv_at hl 3 rfl) ?_
        refine lv_aload_n (pc := 44) hx hb dX1_bestFor_44 rfl (lv_at hl 4 rfl) ?_
        refine lv_iload (pc := 45) hx hb dX1_bestFor_45 (lv_at hl 0 rfl) ?_
        obtain ⟨uq_6, huq_6, hF⟩ := Option.bind_eq_some_iff.mp hF
        refine cl_X1_holdIfFit (pc := 47) hx hb hml hown hV hw hk1 huq_6 (gw_359 hV) hl.1 (Nat.le_of_ble_eq_true rfl) (Nat.le_of_ble_eq_true rfl) (Nat.le_of_ble_eq_true rfl) dX1_bestFor_47 (fun H locs hw => ?_)
        refine lv_istore (pc := 50) (lv' := [(6, .int uq_6), (5, .int uv_5), (4, .int uv_4), (3, .int uv_3), (0, .ref (G.2.1 51)), (1, .ref (G.2.1 k1)), (2, .int x2)]) hx hb dX1_bestFor_50 hl (by decide) rfl (fun ls hl => ?_)
        refine lv_iload (pc := 52) hx hb dX1_bestFor_52 (lv_at hl 0 rfl) ?_
        refine lv_iload (pc := 54) hx hb dX1_bestFor_54 (lv_at hl 2 rfl) ?_
        refine gx_icmp_le (pc := 56) (tgt := 66) hx hb hF dX1_bestFor_56 (by decide) (fun hF => ?_) (fun hF => ?_)
        · refine lv_iinc (pc := 66) (v := (uv_5 + 1)) (lv' := [(5, .int (uv_5 + 1)), (6, .int uq_6), (4, .int uv_4), (3, .int uv_3), (0, .ref (G.2.1 51)), (1, .ref (G.2.1 k1)), (2, .int x2)]) hx hb dX1_bestFor_66 hl (k := 1) rfl rfl (by decide) rfl (fun ls hl => ?_)
          refine lv_goto (pc := 69) (tgt := 32) hx hb dX1_bestFor_69 (by decide) ?_
          exact ih1 _ _ _ _ _ _ _ (lv_sub hl [0, 2, 3, 4, 5, 6] rfl) hw hF hK1
        refine lv_iload (pc := 59) hx hb dX1_bestFor_59 (lv_at hl 1 rfl) ?_
        refine lv_istore_n (pc := 61) (lv' := [(3, .int uv_5), (6, .int uq_6), (5, .int uv_5), (4, .int uv_4), (0, .ref (G.2.1 51)), (1, .ref (G.2.1 k1)), (2, .int x2)]) hx hb dX1_bestFor_61 rfl hl (by decide) rfl (fun ls hl => ?_)
        refine lv_iload (pc := 62) hx hb dX1_bestFor_62 (lv_at hl 1 rfl) ?_
        refine lv_istore (pc := 64) (lv' := [(4, .int uq_6), (3, .int uv_5), (6, .int uq_6), (5, .int uv_5), (0, .ref (G.2.1 51)), (1, .ref (G.2.1 k1)), (2, .int x2)]) hx hb dX1_bestFor_64 hl (by decide) rfl (fun ls hl => ?_)
        refine lv_iinc (pc := 66) (v := (uv_5 + 1)) (lv' := [(5, .int (uv_5 + 1)), (4, .int uq_6), (3, .int uv_5), (6, .int uq_6), (0, .ref (G.2.1 51)), (1, .ref (G.2.1 k1)), (2, .int x2)]) hx hb dX1_bestFor_66 hl (k := 3) rfl rfl (by decide) rfl (fun ls hl => ?_)
        refine lv_goto (pc := 69) (tgt := 32) hx hb dX1_bestFor_69 (by decide) ?_
        exact ih1 _ _ _ _ _ _ _ (lv_sub hl [0, 1, 2, 4, 5, 6] rfl) hw hF hK1
    refine L1 1000 _ _ _ _ _ _ _ hl hw hF (fun uv_7 uv_8 uv_9 H locs ls hl hw hF => ?_)
    refine lv_iload_n (pc := 72) hx hb dX1_bestFor_72 rfl (lv_at hl 2 rfl) ?_
    cases hF
    exact gx_iret hx hb hr hlocks hw dX1_bestFor_73
  refine lv_iconst (pc := 17) (v := (-1)) hx hb dX1_bestFor_17 (by decide) ?_
  cases hF
  exact gx_iret hx hb hr hlocks hw dX1_bestFor_18
set_option maxRecDepth 100000 in
theorem cl_X1_bestFor {l : Launch} {G : gx_G} {M : gx_S} {o : Int64} {d : UInt64} {I V : gx_F} {p : Program} {e : Env} {R : Room} {s : State} {m : MethodId} {args : Array Value} {below : List Frame} {meth : Method} {c : Code} {H : Heap} {locs : List Loc} {cells slots : Nat} {Q : State → Prop} {cc : ByteArray} {pc nL index : Nat} {ls : Array Slot} {rest : List Value} {own : String} {k1 : Nat} {x2 : Int32} {out : (Int32 × gx_F × gx_F)} (hx : p.tables.exec = Jvm.exec) (hb : c.code = cc) (hml : c.maxLocals = nL) (hown : s.vm.findClass own = some m.cls) (hV : gx_V G s) (hw : gx_at G (I, V) M o d s.heap H locs) (hk1 : gx_isW k1) (hF : f_X1_bestFor k1 x2 I V = some out) (hlink : (Cond.methodLink own index yX1_bestFor).before args s = true) (hsz : ls.size = nL) (hfr : 3 ≤ R.frames) (hlo : 75 ≤ R.locals) (hrest : (rest.map fun v => v.category).sum ≤ 8) (hdg : decode cc pc = .ok (.invokevirtual index, 3))
    (kk : ∀ (H1 : Heap) (locs1 : List Loc), gx_at G (out.2.1, out.2.2) M o d s.heap H1 locs1 → W p l e R s m args below meth c H1 locs1 cells slots Q (F0 m (pc + 3) ls (.int out.1 :: rest))) (hc : cells ≤ R.cells := by exact Nat.zero_le _) (hs : slots ≤ R.slots := by exact Nat.zero_le _) : W p l e R s m args below meth c H locs cells slots Q (F0 m pc ls (.int x2 :: .ref (G.2.1 k1) :: .ref (G.2.1 51) :: rest)) :=
  gx_runi hw (va_runV (C := RX1) (As := [.ref (G.2.1 k1), .int x2]) (rest := rest) ⟨hx, hb, hml, hown, (fun _ h => nomatch h : ∀ w ∈ ([] : List Cond), w.before args s = true)⟩ (k_X1_bestFor hk1 hF) ⟨gx_callB (n := 2) rfl rfl hlink (gw_53 hV) (gw_358 hV) (by decide +kernel) ⟨hfr, hlo⟩, gw_357 hV, gw_2 hV⟩ (gx_recv (k := 51) (ci := 3) (T := TX1) hV hw (by decide) rfl rfl) rfl rfl hsz rfl (lv_room hrest) hdg ⟨hc, hs⟩) kk
set_option maxHeartbeats 4000000 in
set_option maxRecDepth 100000 in
theorem k_X1_findFrom {l : Launch} {G : gx_G} {M : gx_S} {o : Int64} {d : UInt64} {I V : gx_F} {k1 : Nat} {x2 : Int32} (hk1 : gx_isW k1) {out : (Bool × gx_F × gx_F)} (hF : f_X1_findFrom k1 x2 I V = some out) : gx_K l yX1_findFrom cX1_findFrom 5 (some .boolean) { frames := 3, cells := 0, slots := 0, locals := 75 } [.ref (G.2.1 51), .ref (G.2.1 k1), .int x2] G (I, V) M o d (gx_Qi G (gx_bi out.1) (out.2.1, out.2.2) M o d) 0 0 := by
  refine gx_begin (by decide +kernel) (Nat.le_of_ble_eq_true rfl) ?_
  intro p e s m below meth c hx hb hr hml hown hlocks hV hw ls hl
  have hown : s.vm.findClass RX1 = some m.cls := hown
  have hl : lv_has ls 5 [(0, .ref (G.2.1 51)), (1, .ref (G.2.1 k1)), (2, .int x2)] := hl
  unfold f_X1_findFrom at hF
  refine lv_iload_n (pc := 0) hx hb dX1_findFrom_0 rfl (lv_at hl 2 rfl) ?_
  refine gx_if_ge (pc := 1) (tgt := 8) hx hb hF dX1_findFrom_1 (by decide) (fun hF => ?_) (fun hF => ?_)
  · refine lv_iload_n (pc := 8) hx hb dX1_findFrom_8 rfl (lv_at hl 2 rfl) ?_
    refine lv_istore_n (pc := 9) (lv' := [(3, .int x2), (0, .ref (G.2.1 51)), (1, .ref (G.2.1 k1)), (2, .int x2)]) hx hb dX1_findFrom_9 rfl hl (by decide) rfl (fun ls hl => ?_)
    have L1 : ∀ (n : Nat) (K1 : Int32 → gx_F → gx_F → Option (Bool × gx_F × gx_F)) (uv_1 : Int32) (uI_2 : gx_F) (uV_3 : gx_F) (H : Heap) (locs : List Loc) (ls : Array Slot), lv_has ls 5 [(3, .int uv_1), (0, .ref (G.2.1 51)), (1, .ref (G.2.1 k1)), (2, .int x2)] → gx_at G (uI_2, uV_3) M o d s.heap H locs → f_X1_findFrom_L1 k1 K1 n uv_1 uI_2 uV_3 = some out → (∀ (uv_1 : Int32) (uI_2 : gx_F) (uV_3 : gx_F) (H : Heap) (locs : List Loc) (ls : Array Slot), lv_has ls 5 [(3, .int uv_1), (0, .ref (G.2.1 51)), (1, .ref (G.2.1 k1)), (2, .int x2)] → gx_at G (uI_2, uV_3) M o d s.heap H locs → K1 uv_1 uI_2 uV_3 = some out → W p l e ({ frames := 3, cells := 0, slots := 0, locals := 75 } : Room) s m ([.ref (G.2.1 51), .ref (G.2.1 k1), .int x2] : List Value).toArray below meth c H locs 0 0 (MQ below (gx_Qi G (gx_bi out.1) (out.2.1, out.2.2) M o d) ([.ref (G.2.1 51), .ref (G.2.1 k1), .int x2] : List Value).toArray s 0 0 (gx_A G)) (F0 m 49 ls [])) → W p l e ({ frames := 3, cells := 0, slots := 0, locals := 75 } : Room) s m ([.ref (G.2.1 51), .ref (G.2.1 k1), .int x2] : List Value).toArray below meth c H locs 0 0 (MQ below (gx_Qi G (gx_bi out.1) (out.2.1, out.2.2) M o d) ([.ref (G.2.1 51), .ref (G.2.1 k1), .int x2] : List Value).toArray s 0 0 (gx_A G)) (F0 m 10 ls []) := by
      intro n
      induction n with
      | zero =>
        intro K1 uv_1 uI_2 uV_3 H locs ls hl hw hF hK
        rw [f_X1_findFrom_L1] at hF
        cases hF
      | succ n ih1 =>
        intro K1 uv_1 uI_2 uV_3 H locs ls hl hw hF hK1
        rw [f_X1_findFrom_L1] at hF
        refine lv_iload_n (pc := 10) hx hb dX1_findFrom_10 rfl (lv_at hl 0 rfl) ?_
        refine lv_bipush (pc := 11) (v := 42) hx hb dX1_findFrom_11 (by decide) ?_
        refine gx_icmp_ge (pc := 13) (tgt := 49) hx hb hF dX1_findFrom_13 (by decide) (fun hF => ?_) (fun hF => ?_)
        · exact hK1 _ _ _ _ _ _ (lv_sub hl [0, 1, 2, 3] rfl) hw hF
        refine lv_aload_n (pc := 16) hx hb dX1_findFrom_16 rfl (lv_at hl 1 rfl) ?_
        refine lv_aload_n (pc := 17) hx hb dX1_findFrom_17 rfl (lv_at hl 2 rfl) ?_
        refine lv_iload_n (pc := 18) hx hb dX1_findFrom_18 rfl (lv_at hl 0 rfl) ?_
        obtain ⟨uq_4, huq_4, hF⟩ := Option.bind_eq_some_iff.mp hF
        refine cl_X1_bestFor (pc := 19) hx hb hml hown hV hw hk1 huq_4 (gw_355 hV) hl.1 (Nat.le_of_ble_eq_true rfl) (Nat.le_of_ble_eq_true rfl) (Nat.le_of_ble_eq_true rfl) dX1_findFrom_19 (fun H locs hw => ?_)
        refine lv_istore (pc := 22) (lv' := [(4, .int uq_4.1), (3, .int uv_1), (0, .ref (G.2.1 51)), (1, .ref (G.2.1 k1)), (2, .int x2)]) hx hb dX1_findFrom_22 hl (by decide) rfl (fun ls hl => ?_)
        refine lv_iload (pc := 24) hx hb dX1_findFrom_24 (lv_at hl 0 rfl) ?_
        refine lv_iconst (pc := 26) (v := (-1)) hx hb dX1_findFrom_26 (by decide) ?_
        refine gx_icmp_eq (pc := 27) (tgt := 43) hx hb hF dX1_findFrom_27 (by decide) (fun hF => ?_) (fun hF => ?_)
        · refine lv_iinc (pc := 43) (v := (uv_1 + 1)) (lv' := [(3, .int (uv_1 + 1)), (4, .int uq_4.1), (0, .ref (G.2.1 51)), (1, .ref (G.2.1 k1)), (2, .int x2)]) hx hb dX1_findFrom_43 hl (k := 1) rfl rfl (by decide) rfl (fun ls hl => ?_)
          refine lv_goto (pc := 46) (tgt := 10) hx hb dX1_findFrom_46 (by decide) ?_
          exact ih1 _ _ _ _ _ _ _ (lv_sub hl [0, 2, 3, 4] rfl) hw hF hK1
        refine lv_aload_n (pc := 30) hx hb dX1_findFrom_30 rfl (lv_at hl 2 rfl) ?_
        refine lv_iload_n (pc := 31) hx hb dX1_findFrom_31 rfl (lv_at hl 1 rfl) ?_
        refine gp_X1_1 (pc := 32) hx hb hown hV hw (gw_173 hV) dX1_findFrom_32 (fun H locs hw => ?_)
        refine lv_aload_n (pc := 35) hx hb dX1_findFrom_35 rfl (lv_at hl 2 rfl) ?_
        refine lv_iload (pc := 36) hx hb dX1_findFrom_36 (lv_at hl 0 rfl) ?_
        refine gp_X1_2 (pc := 38) hx hb hown hV hw (gw_175 hV) dX1_findFrom_38 (fun H locs hw => ?_)
        refine lv_iconst (pc := 41) (v := 1) hx hb dX1_findFrom_41 (by decide) ?_
        cases hF
        exact gx_zret (r := gx_bi true) hx hb hr (gx_narb _) hlocks hw dX1_findFrom_42
    refine L1 1000 _ _ _ _ _ _ _ hl hw hF (fun uv_5 uI_6 uV_7 H locs ls hl hw hF => ?_)
    refine lv_iconst (pc := 49) (v := 0) hx hb dX1_findFrom_49 (by decide) ?_
    cases hF
    exact gx_zret (r := gx_bi false) hx hb hr (gx_narb _) hlocks hw dX1_findFrom_50
  refine lv_iconst (pc := 4) (v := 0) hx hb dX1_findFrom_4 (by decide) ?_
  refine lv_goto (pc := 5) (tgt := 9) hx hb dX1_findFrom_5 (by decide) ?_
  refine lv_istore_n (pc := 9) (lv' := [(3, .int 0), (0, .ref (G.2.1 51)), (1, .ref (G.2.1 k1)), (2, .int x2)]) hx hb dX1_findFrom_9 rfl hl (by decide) rfl (fun ls hl => ?_)
  have L2 : ∀ (n : Nat) (K2 : Int32 → gx_F → gx_F → Option (Bool × gx_F × gx_F)) (uv_8 : Int32) (uI_9 : gx_F) (uV_10 : gx_F) (H : Heap) (locs : List Loc) (ls : Array Slot), lv_has ls 5 [(3, .int uv_8), (0, .ref (G.2.1 51)), (1, .ref (G.2.1 k1)), (2, .int x2)] → gx_at G (uI_9, uV_10) M o d s.heap H locs → f_X1_findFrom_L2 k1 K2 n uv_8 uI_9 uV_10 = some out → (∀ (uv_8 : Int32) (uI_9 : gx_F) (uV_10 : gx_F) (H : Heap) (locs : List Loc) (ls : Array Slot), lv_has ls 5 [(3, .int uv_8), (0, .ref (G.2.1 51)), (1, .ref (G.2.1 k1)), (2, .int x2)] → gx_at G (uI_9, uV_10) M o d s.heap H locs → K2 uv_8 uI_9 uV_10 = some out → W p l e ({ frames := 3, cells := 0, slots := 0, locals := 75 } : Room) s m ([.ref (G.2.1 51), .ref (G.2.1 k1), .int x2] : List Value).toArray below meth c H locs 0 0 (MQ below (gx_Qi G (gx_bi out.1) (out.2.1, out.2.2) M o d) ([.ref (G.2.1 51), .ref (G.2.1 k1), .int x2] : List Value).toArray s 0 0 (gx_A G)) (F0 m 49 ls [])) → W p l e ({ frames := 3, cells := 0, slots := 0, locals := 75 } : Room) s m ([.ref (G.2.1 51), .ref (G.2.1 k1), .int x2] : List Value).toArray below meth c H locs 0 0 (MQ below (gx_Qi G (gx_bi out.1) (out.2.1, out.2.2) M o d) ([.ref (G.2.1 51), .ref (G.2.1 k1), .int x2] : List Value).toArray s 0 0 (gx_A G)) (F0 m 10 ls []) := by
    intro n
    induction n with
    | zero =>
      intro K2 uv_8 uI_9 uV_10 H locs ls hl hw hF hK
      rw [f_X1_findFrom_L2] at hF
      cases hF
    | succ n ih2 =>
      intro K2 uv_8 uI_9 uV_10 H locs ls hl hw hF hK2
      rw [f_X1_findFrom_L2] at hF
      refine lv_iload_n (pc := 10) hx hb dX1_findFrom_10 rfl (lv_at hl 0 rfl) ?_
      refine lv_bipush (pc := 11) (v := 42) hx hb dX1_findFrom_11 (by decide) ?_
      refine gx_icmp_ge (pc := 13) (tgt := 49) hx hb hF dX1_findFrom_13 (by decide) (fun hF => ?_) (fun hF => ?_)
      · exact hK2 _ _ _ _ _ _ (lv_sub hl [0, 1, 2, 3] rfl) hw hF
      refine lv_aload_n (pc := 16) hx hb dX1_findFrom_16 rfl (lv_at hl 1 rfl) ?_
      refine lv_aload_n (pc := 17) hx hb dX1_findFrom_17 rfl (lv_at hl 2 rfl) ?_
      refine lv_iload_n (pc := 18) hx hb dX1_findFrom_18 rfl (lv_at hl 0 rfl) ?_
      obtain ⟨uq_11, huq_11, hF⟩ := Option.bind_eq_some_iff.mp hF
      refine cl_X1_bestFor (pc := 19) hx hb hml hown hV hw hk1 huq_11 (gw_355 hV) hl.1 (Nat.le_of_ble_eq_true rfl) (Nat.le_of_ble_eq_true rfl) (Nat.le_of_ble_eq_true rfl) dX1_findFrom_19 (fun H locs hw => ?_)
      refine lv_istore (pc := 22) (lv' := [(4, .int uq_11.1), (3, .int uv_8), (0, .ref (G.2.1 51)), (1, .ref (G.2.1 k1)), (2, .int x2)]) hx hb dX1_findFrom_22 hl (by decide) rfl (fun ls hl => ?_)
      refine lv_iload (pc := 24) hx hb dX1_findFrom_24 (lv_at hl 0 rfl) ?_
      refine lv_iconst (pc := 26) (v := (-1)) hx hb dX1_findFrom_26 (by decide) ?_
      refine gx_icmp_eq (pc := 27) (tgt := 43) hx hb hF dX1_findFrom_27 (by decide) (fun hF => ?_) (fun hF => ?_)
      · refine lv_iinc (pc := 43) (v := (uv_8 + 1)) (lv' := [(3, .int (uv_8 + 1)), (4, .int uq_11.1), (0, .ref (G.2.1 51)), (1, .ref (G.2.1 k1)), (2, .int x2)]) hx hb dX1_findFrom_43 hl (k := 1) rfl rfl (by decide) rfl (fun ls hl => ?_)
        refine lv_goto (pc := 46) (tgt := 10) hx hb dX1_findFrom_46 (by decide) ?_
        exact ih2 _ _ _ _ _ _ _ (lv_sub hl [0, 2, 3, 4] rfl) hw hF hK2
      refine lv_aload_n (pc := 30) hx hb dX1_findFrom_30 rfl (lv_at hl 2 rfl) ?_
      refine lv_iload_n (pc := 31) hx hb dX1_findFrom_31 rfl (lv_at hl 1 rfl) ?_
      refine gp_X1_1 (pc := 32) hx hb hown hV hw (gw_173 hV) dX1_findFrom_32 (fun H locs hw => ?_)
      refine lv_aload_n (pc := 35) hx hb dX1_findFrom_35 rfl (lv_at hl 2 rfl) ?_
      refine lv_iload (pc := 36) hx hb dX1_findFrom_36 (lv_at hl 0 rfl) ?_
      refine gp_X1_2 (pc := 38) hx hb hown hV hw (gw_175 hV) dX1_findFrom_38 (fun H locs hw => ?_)
      refine lv_iconst (pc := 41) (v := 1) hx hb dX1_findFrom_41 (by decide) ?_
      cases hF
      exact gx_zret (r := gx_bi true) hx hb hr (gx_narb _) hlocks hw dX1_findFrom_42
  refine L2 1000 _ _ _ _ _ _ _ hl hw hF (fun uv_12 uI_13 uV_14 H locs ls hl hw hF => ?_)
  refine lv_iconst (pc := 49) (v := 0) hx hb dX1_findFrom_49 (by decide) ?_
  cases hF
  exact gx_zret (r := gx_bi false) hx hb hr (gx_narb _) hlocks hw dX1_findFrom_50
set_option maxRecDepth 100000 in
theorem cl_X1_findFrom {l : Launch} {G : gx_G} {M : gx_S} {o : Int64} {d : UInt64} {I V : gx_F} {p : Program} {e : Env} {R : Room} {s : State} {m : MethodId} {args : Array Value} {below : List Frame} {meth : Method} {c : Code} {H : Heap} {locs : List Loc} {cells slots : Nat} {Q : State → Prop} {cc : ByteArray} {pc nL index : Nat} {ls : Array Slot} {rest : List Value} {own : String} {k1 : Nat} {x2 : Int32} {out : (Bool × gx_F × gx_F)} (hx : p.tables.exec = Jvm.exec) (hb : c.code = cc) (hml : c.maxLocals = nL) (hown : s.vm.findClass own = some m.cls) (hV : gx_V G s) (hw : gx_at G (I, V) M o d s.heap H locs) (hk1 : gx_isW k1) (hF : f_X1_findFrom k1 x2 I V = some out) (hlink : (Cond.methodLink own index yX1_findFrom).before args s = true) (hsz : ls.size = nL) (hfr : 4 ≤ R.frames) (hlo : 99 ≤ R.locals) (hrest : (rest.map fun v => v.category).sum ≤ 8) (hdg : decode cc pc = .ok (.invokevirtual index, 3))
    (kk : ∀ (H1 : Heap) (locs1 : List Loc), gx_at G (out.2.1, out.2.2) M o d s.heap H1 locs1 → W p l e R s m args below meth c H1 locs1 cells slots Q (F0 m (pc + 3) ls (.int (gx_bi out.1) :: rest))) (hc : cells ≤ R.cells := by exact Nat.zero_le _) (hs : slots ≤ R.slots := by exact Nat.zero_le _) : W p l e R s m args below meth c H locs cells slots Q (F0 m pc ls (.int x2 :: .ref (G.2.1 k1) :: .ref (G.2.1 51) :: rest)) :=
  gx_runi hw (va_runV (C := RX1) (As := [.ref (G.2.1 k1), .int x2]) (rest := rest) ⟨hx, hb, hml, hown, (fun _ h => nomatch h : ∀ w ∈ ([] : List Cond), w.before args s = true)⟩ (k_X1_findFrom hk1 hF) ⟨gx_callB (n := 2) rfl rfl hlink (gw_53 hV) (gw_383 hV) (by decide +kernel) ⟨hfr, hlo⟩, gw_381 hV, gw_382 hV⟩ (gx_recv (k := 51) (ci := 3) (T := TX1) hV hw (by decide) rfl rfl) rfl rfl hsz rfl (lv_room hrest) hdg ⟨hc, hs⟩) kk
set_option maxHeartbeats 4000000 in
set_option maxRecDepth 100000 in
theorem k_X1_letGrow {l : Launch} {G : gx_G} {M : gx_S} {o : Int64} {d : UInt64} {I V : gx_F} {k1 : Nat} {x2 : Int32} (hk1 : gx_isW k1) {out : (Int32 × gx_F × gx_F)} (hF : f_X1_letGrow k1 x2 I V = some out) : gx_K l yX1_letGrow cX1_letGrow 5 (some .int) { frames := 4, cells := 0, slots := 0, locals := 99 } [.ref (G.2.1 51), .ref (G.2.1 k1), .int x2] G (I, V) M o d (gx_Qi G out.1 (out.2.1, out.2.2) M o d) 0 0 := by
  refine gx_begin (by decide +kernel) (Nat.le_of_ble_eq_true rfl) ?_
  intro p e s m below meth c hx hb hr hml hown hlocks hV hw ls hl
  have hown : s.vm.findClass RX1 = some m.cls := hown
  have hl : lv_has ls 5 [(0, .ref (G.2.1 51)), (1, .ref (G.2.1 k1)), (2, .int x2)] := hl
  unfold f_X1_letGrow at hF
  refine lv_iconst (pc := 0) (v := 0) hx hb dX1_letGrow_0 (by decide) ?_
  refine lv_istore_n (pc := 1) (lv' := [(3, .int 0), (0, .ref (G.2.1 51)), (1, .ref (G.2.1 k1)), (2, .int x2)]) hx hb dX1_letGrow_1 rfl hl (by decide) rfl (fun ls hl => ?_)
  refine lv_iconst (pc := 2) (v := 0) hx hb dX1_letGrow_2 (by decide) ?_
  refine lv_istore (pc := 3) (lv' := [(4, .int 0), (3, .int 0), (0, .ref (G.2.1 51)), (1, .ref (G.2.1 k1)), (2, .int x2)]) hx hb dX1_letGrow_3 hl (by decide) rfl (fun ls hl => ?_)
  have L1 : ∀ (n : Nat) (K1 : Int32 → Int32 → gx_F → gx_F → Option (Int32 × gx_F × gx_F)) (uv_1 : Int32) (uv_2 : Int32) (uI_3 : gx_F) (uV_4 : gx_F) (H : Heap) (locs : List Loc) (ls : Array Slot), lv_has ls 5 [(4, .int uv_2), (3, .int uv_1), (0, .ref (G.2.1 51)), (1, .ref (G.2.1 k1)), (2, .int x2)] → gx_at G (uI_3, uV_4) M o d s.heap H locs → f_X1_letGrow_L1 k1 x2 K1 n uv_1 uv_2 uI_3 uV_4 = some out → (∀ (uv_1 : Int32) (uv_2 : Int32) (uI_3 : gx_F) (uV_4 : gx_F) (H : Heap) (locs : List Loc) (ls : Array Slot), lv_has ls 5 [(4, .int uv_2), (3, .int uv_1), (0, .ref (G.2.1 51)), (1, .ref (G.2.1 k1)), (2, .int x2)] → gx_at G (uI_3, uV_4) M o d s.heap H locs → K1 uv_1 uv_2 uI_3 uV_4 = some out → W p l e ({ frames := 4, cells := 0, slots := 0, locals := 99 } : Room) s m ([.ref (G.2.1 51), .ref (G.2.1 k1), .int x2] : List Value).toArray below meth c H locs 0 0 (MQ below (gx_Qi G out.1 (out.2.1, out.2.2) M o d) ([.ref (G.2.1 51), .ref (G.2.1 k1), .int x2] : List Value).toArray s 0 0 (gx_A G)) (F0 m 56 ls [])) → W p l e ({ frames := 4, cells := 0, slots := 0, locals := 99 } : Room) s m ([.ref (G.2.1 51), .ref (G.2.1 k1), .int x2] : List Value).toArray below meth c H locs 0 0 (MQ below (gx_Qi G out.1 (out.2.1, out.2.2) M o d) ([.ref (G.2.1 51), .ref (G.2.1 k1), .int x2] : List Value).toArray s 0 0 (gx_A G)) (F0 m 5 ls []) := by
    intro n
    induction n with
    | zero =>
      intro K1 uv_1 uv_2 uI_3 uV_4 H locs ls hl hw hF hK
      rw [f_X1_letGrow_L1] at hF
      cases hF
    | succ n ih1 =>
      intro K1 uv_1 uv_2 uI_3 uV_4 H locs ls hl hw hF hK1
      rw [f_X1_letGrow_L1] at hF
      refine lv_iload (pc := 5) hx hb dX1_letGrow_5 (lv_at hl 0 rfl) ?_
      refine lv_iload_n (pc := 7) hx hb dX1_letGrow_7 rfl (lv_at hl 4 rfl) ?_
      refine gx_icmp_ge (pc := 8) (tgt := 56) hx hb hF dX1_letGrow_8 (by decide) (fun hF => ?_) (fun hF => ?_)
      · exact hK1 _ _ _ _ _ _ _ (lv_sub hl [0, 1, 2, 3, 4] rfl) hw hF
      refine lv_aload_n (pc := 11) hx hb dX1_letGrow_11 rfl (lv_at hl 2 rfl) ?_
      refine lv_aload_n (pc := 12) hx hb dX1_letGrow_12 rfl (lv_at hl 3 rfl) ?_
      refine lv_iload_n (pc := 13) hx hb dX1_letGrow_13 rfl (lv_at hl 1 rfl) ?_
      obtain ⟨uq_5, huq_5, hF⟩ := Option.bind_eq_some_iff.mp hF
      refine cl_X1_findFrom (pc := 14) hx hb hml hown hV hw hk1 huq_5 (gw_380 hV) hl.1 (Nat.le_of_ble_eq_true rfl) (Nat.le_of_ble_eq_true rfl) (Nat.le_of_ble_eq_true rfl) dX1_letGrow_14 (fun H locs hw => ?_)
      refine gx_if_eq (pc := 17) (tgt := 56) hx hb hF dX1_letGrow_17 (by decide) (fun hF => ?_) (fun hF => ?_)
      · exact hK1 _ _ _ _ _ _ _ (lv_sub hl [0, 1, 2, 3, 4] rfl) hw hF
      refine lv_aload_n (pc := 20) hx hb dX1_letGrow_20 rfl (lv_at hl 3 rfl) ?_
      refine lv_aload_n (pc := 21) hx hb dX1_letGrow_21 rfl (lv_at hl 2 rfl) ?_
      refine gg_X1_1 (pc := 22) hx hb hown hV hw (gw_173 hV) dX1_letGrow_22 ?_
      refine lv_aload_n (pc := 25) hx hb dX1_letGrow_25 rfl (lv_at hl 2 rfl) ?_
      refine gg_X1_2 (pc := 26) hx hb hown hV hw (gw_175 hV) dX1_letGrow_26 ?_
      obtain ⟨uq_6, huq_6, hF⟩ := Option.bind_eq_some_iff.mp hF
      refine cl_X5_put (pc := 29) hx hb hml hown hV hw hk1 huq_6 (gw_384 hV) hl.1 (Nat.le_of_ble_eq_true rfl) (Nat.le_of_ble_eq_true rfl) (Nat.le_of_ble_eq_true rfl) dX1_letGrow_29 (fun H locs hw => ?_)
      refine lv_aload_n (pc := 32) hx hb dX1_letGrow_32 rfl (lv_at hl 3 rfl) ?_
      refine lv_dup (pc := 33) hx hb dX1_letGrow_33 rfl ?_
      refine gg_X5_7 (pc := 34) hx hb hown hV hw hk1 (gw_105 hV) dX1_letGrow_34 ?_
      refine lv_iconst (pc := 37) (v := 1) hx hb dX1_letGrow_37 (by decide) ?_
      refine lv_iadd (pc := 38) hx hb dX1_letGrow_38 ?_
      refine gp_X5_7 (pc := 39) hx hb hown hV hw hk1 (gw_105 hV) dX1_letGrow_39 (fun H locs hw => ?_)
      refine lv_iinc (pc := 42) (v := (uv_2 + 1)) (lv' := [(4, .int (uv_2 + 1)), (3, .int uv_1), (0, .ref (G.2.1 51)), (1, .ref (G.2.1 k1)), (2, .int x2)]) hx hb dX1_letGrow_42 hl (k := 0) rfl rfl (by decide) rfl (fun ls hl => ?_)
      refine lv_aload_n (pc := 45) hx hb dX1_letGrow_45 rfl (lv_at hl 2 rfl) ?_
      refine gg_X1_1 (pc := 46) hx hb hown hV hw (gw_173 hV) dX1_letGrow_46 ?_
      refine lv_bipush (pc := 49) (v := 7) hx hb dX1_letGrow_49 (by decide) ?_
      refine lv_isub (pc := 51) hx hb dX1_letGrow_51 ?_
      refine lv_istore_n (pc := 52) (lv' := [(3, .int (((gx_u uq_6.1 k1 7 ((uq_6.1 k1 7) + 1)) 51 1) - 7)), (4, .int (uv_2 + 1)), (0, .ref (G.2.1 51)), (1, .ref (G.2.1 k1)), (2, .int x2)]) hx hb dX1_letGrow_52 rfl hl (by decide) rfl (fun ls hl => ?_)
      refine lv_goto (pc := 53) (tgt := 5) hx hb dX1_letGrow_53 (by decide) ?_
      exact ih1 _ _ _ _ _ _ _ _ (lv_sub hl [1, 0, 2, 3, 4] rfl) hw hF hK1
  refine L1 1000 _ _ _ _ _ _ _ _ hl hw hF (fun uv_7 uv_8 uI_9 uV_10 H locs ls hl hw hF => ?_)
  refine lv_iload (pc := 56) hx hb dX1_letGrow_56 (lv_at hl 0 rfl) ?_
  cases hF
  exact gx_iret hx hb hr hlocks hw dX1_letGrow_58
set_option maxRecDepth 100000 in
theorem cl_X1_letGrow {l : Launch} {G : gx_G} {M : gx_S} {o : Int64} {d : UInt64} {I V : gx_F} {p : Program} {e : Env} {R : Room} {s : State} {m : MethodId} {args : Array Value} {below : List Frame} {meth : Method} {c : Code} {H : Heap} {locs : List Loc} {cells slots : Nat} {Q : State → Prop} {cc : ByteArray} {pc nL index : Nat} {ls : Array Slot} {rest : List Value} {own : String} {k1 : Nat} {x2 : Int32} {out : (Int32 × gx_F × gx_F)} (hx : p.tables.exec = Jvm.exec) (hb : c.code = cc) (hml : c.maxLocals = nL) (hown : s.vm.findClass own = some m.cls) (hV : gx_V G s) (hw : gx_at G (I, V) M o d s.heap H locs) (hk1 : gx_isW k1) (hF : f_X1_letGrow k1 x2 I V = some out) (hlink : (Cond.methodLink own index yX1_letGrow).before args s = true) (hsz : ls.size = nL) (hfr : 5 ≤ R.frames) (hlo : 123 ≤ R.locals) (hrest : (rest.map fun v => v.category).sum ≤ 8) (hdg : decode cc pc = .ok (.invokevirtual index, 3))
    (kk : ∀ (H1 : Heap) (locs1 : List Loc), gx_at G (out.2.1, out.2.2) M o d s.heap H1 locs1 → W p l e R s m args below meth c H1 locs1 cells slots Q (F0 m (pc + 3) ls (.int out.1 :: rest))) (hc : cells ≤ R.cells := by exact Nat.zero_le _) (hs : slots ≤ R.slots := by exact Nat.zero_le _) : W p l e R s m args below meth c H locs cells slots Q (F0 m pc ls (.int x2 :: .ref (G.2.1 k1) :: .ref (G.2.1 51) :: rest)) :=
  gx_runi hw (va_runV (C := RX1) (As := [.ref (G.2.1 k1), .int x2]) (rest := rest) ⟨hx, hb, hml, hown, (fun _ h => nomatch h : ∀ w ∈ ([] : List Cond), w.before args s = true)⟩ (k_X1_letGrow hk1 hF) ⟨gx_callB (n := 2) rfl rfl hlink (gw_53 hV) (gw_379 hV) (by decide +kernel) ⟨hfr, hlo⟩, gw_377 hV, gw_378 hV⟩ (gx_recv (k := 51) (ci := 3) (T := TX1) hV hw (by decide) rfl rfl) rfl rfl hsz rfl (lv_room hrest) hdg ⟨hc, hs⟩) kk
set_option maxHeartbeats 4000000 in
set_option maxRecDepth 100000 in
theorem k_X1_choicesFor {l : Launch} {G : gx_G} {M : gx_S} {o : Int64} {d : UInt64} {I V : gx_F} {k1 : Nat} {x2 : Int32} (hk1 : gx_isW k1) {out : (Int32 × gx_F × gx_F)} (hF : f_X1_choicesFor k1 x2 I V = some out) : gx_K l yX1_choicesFor cX1_choicesFor 5 (some .int) { frames := 2, cells := 0, slots := 0, locals := 49 } [.ref (G.2.1 51), .ref (G.2.1 k1), .int x2] G (I, V) M o d (gx_Qi G out.1 (out.2.1, out.2.2) M o d) 0 0 := by
  refine gx_begin (by decide +kernel) (Nat.le_of_ble_eq_true rfl) ?_
  intro p e s m below meth c hx hb hr hml hown hlocks hV hw ls hl
  have hown : s.vm.findClass RX1 = some m.cls := hown
  have hl : lv_has ls 5 [(0, .ref (G.2.1 51)), (1, .ref (G.2.1 k1)), (2, .int x2)] := hl
  unfold f_X1_choicesFor at hF
  refine lv_aload_n (pc := 0) hx hb dX1_choicesFor_0 rfl (lv_at hl 0 rfl) ?_
  refine lv_aload_n (pc := 1) hx hb dX1_choicesFor_1 rfl (lv_at hl 1 rfl) ?_
  refine lv_iload_n (pc := 2) hx hb dX1_choicesFor_2 rfl (lv_at hl 2 rfl) ?_
  obtain ⟨uq_1, huq_1, hF⟩ := Option.bind_eq_some_iff.mp hF
  refine cl_X1_lookAround (pc := 3) hx hb hml hown hV hw hk1 huq_1 (gw_347 hV) hl.1 (Nat.le_of_ble_eq_true rfl) (Nat.le_of_ble_eq_true rfl) (Nat.le_of_ble_eq_true rfl) dX1_choicesFor_3 (fun H locs hw => ?_)
  refine lv_pop (pc := 6) hx hb dX1_choicesFor_6 rfl ?_
  refine lv_iconst (pc := 7) (v := 0) hx hb dX1_choicesFor_7 (by decide) ?_
  refine lv_istore_n (pc := 8) (lv' := [(3, .int 0), (0, .ref (G.2.1 51)), (1, .ref (G.2.1 k1)), (2, .int x2)]) hx hb dX1_choicesFor_8 rfl hl (by decide) rfl (fun ls hl => ?_)
  refine lv_iconst (pc := 9) (v := 0) hx hb dX1_choicesFor_9 (by decide) ?_
  refine lv_istore (pc := 10) (lv' := [(4, .int 0), (3, .int 0), (0, .ref (G.2.1 51)), (1, .ref (G.2.1 k1)), (2, .int x2)]) hx hb dX1_choicesFor_10 hl (by decide) rfl (fun ls hl => ?_)
  have L1 : ∀ (n : Nat) (K1 : Int32 → Int32 → Option (Int32 × gx_F × gx_F)) (uv_2 : Int32) (uv_3 : Int32) (H : Heap) (locs : List Loc) (ls : Array Slot), lv_has ls 5 [(4, .int uv_3), (3, .int uv_2), (0, .ref (G.2.1 51)), (1, .ref (G.2.1 k1)), (2, .int x2)] → gx_at G (uq_1.2.1, uq_1.2.2) M o d s.heap H locs → f_X1_choicesFor_L1 k1 uq_1 K1 n uv_2 uv_3 = some out → (∀ (uv_2 : Int32) (uv_3 : Int32) (H : Heap) (locs : List Loc) (ls : Array Slot), lv_has ls 5 [(4, .int uv_3), (3, .int uv_2), (0, .ref (G.2.1 51)), (1, .ref (G.2.1 k1)), (2, .int x2)] → gx_at G (uq_1.2.1, uq_1.2.2) M o d s.heap H locs → K1 uv_2 uv_3 = some out → W p l e ({ frames := 2, cells := 0, slots := 0, locals := 49 } : Room) s m ([.ref (G.2.1 51), .ref (G.2.1 k1), .int x2] : List Value).toArray below meth c H locs 0 0 (MQ below (gx_Qi G out.1 (out.2.1, out.2.2) M o d) ([.ref (G.2.1 51), .ref (G.2.1 k1), .int x2] : List Value).toArray s 0 0 (gx_A G)) (F0 m 46 ls [])) → W p l e ({ frames := 2, cells := 0, slots := 0, locals := 49 } : Room) s m ([.ref (G.2.1 51), .ref (G.2.1 k1), .int x2] : List Value).toArray below meth c H locs 0 0 (MQ below (gx_Qi G out.1 (out.2.1, out.2.2) M o d) ([.ref (G.2.1 51), .ref (G.2.1 k1), .int x2] : List Value).toArray s 0 0 (gx_A G)) (F0 m 12 ls []) := by
    intro n
    induction n with
    | zero =>
      intro K1 uv_2 uv_3 H locs ls hl hw hF hK
      rw [f_X1_choicesFor_L1] at hF
      cases hF
    | succ n ih1 =>
      intro K1 uv_2 uv_3 H locs ls hl hw hF hK1
      rw [f_X1_choicesFor_L1] at hF
      refine lv_iload (pc := 12) hx hb dX1_choicesFor_12 (lv_at hl 0 rfl) ?_
      refine lv_aload_n (pc := 14) hx hb dX1_choicesFor_14 rfl (lv_at hl 3 rfl) ?_
      refine gg_X5_3 (pc := 15) hx hb hown hV hw hk1 (gw_92 hV) dX1_choicesFor_15 ?_
      refine lv_iconst (pc := 18) (v := 4) hx hb dX1_choicesFor_18 (by decide) ?_
      refine lv_imul (pc := 19) hx hb dX1_choicesFor_19 ?_
      refine gx_icmp_ge (pc := 20) (tgt := 46) hx hb hF dX1_choicesFor_20 (by decide) (fun hF => ?_) (fun hF => ?_)
      · exact hK1 _ _ _ _ _ (lv_sub hl [0, 1, 2, 3, 4] rfl) hw hF
      refine lv_aload_n (pc := 23) hx hb dX1_choicesFor_23 rfl (lv_at hl 2 rfl) ?_
      refine lv_aload_n (pc := 24) hx hb dX1_choicesFor_24 rfl (lv_at hl 3 rfl) ?_
      refine lv_iload (pc := 25) hx hb dX1_choicesFor_25 (lv_at hl 0 rfl) ?_
      obtain ⟨uq_4, huq_4, hF⟩ := Option.bind_eq_some_iff.mp hF
      refine cl_X1_holdIfFit (pc := 27) hx hb hml hown hV hw hk1 huq_4 (gw_359 hV) hl.1 (Nat.le_of_ble_eq_true rfl) (Nat.le_of_ble_eq_true rfl) (Nat.le_of_ble_eq_true rfl) dX1_choicesFor_27 (fun H locs hw => ?_)
      refine lv_aload_n (pc := 30) hx hb dX1_choicesFor_30 rfl (lv_at hl 3 rfl) ?_
      refine gg_X5_4 (pc := 31) hx hb hown hV hw hk1 (gw_96 hV) dX1_choicesFor_31 ?_
      refine gx_icmp_lt (pc := 34) (tgt := 40) hx hb hF dX1_choicesFor_34 (by decide) (fun hF => ?_) (fun hF => ?_)
      · refine lv_iinc (pc := 40) (v := (uv_3 + 1)) (lv' := [(4, .int (uv_3 + 1)), (3, .int uv_2), (0, .ref (G.2.1 51)), (1, .ref (G.2.1 k1)), (2, .int x2)]) hx hb dX1_choicesFor_40 hl (k := 0) rfl rfl (by decide) rfl (fun ls hl => ?_)
        refine lv_goto (pc := 43) (tgt := 12) hx hb dX1_choicesFor_43 (by decide) ?_
        exact ih1 _ _ _ _ _ _ (lv_sub hl [0, 1, 2, 3, 4] rfl) hw hF hK1
      refine lv_iinc (pc := 37) (v := (uv_2 + 1)) (lv' := [(3, .int (uv_2 + 1)), (4, .int uv_3), (0, .ref (G.2.1 51)), (1, .ref (G.2.1 k1)), (2, .int x2)]) hx hb dX1_choicesFor_37 hl (k := 1) rfl rfl (by decide) rfl (fun ls hl => ?_)
      refine lv_iinc (pc := 40) (v := (uv_3 + 1)) (lv' := [(4, .int (uv_3 + 1)), (3, .int (uv_2 + 1)), (0, .ref (G.2.1 51)), (1, .ref (G.2.1 k1)), (2, .int x2)]) hx hb dX1_choicesFor_40 hl (k := 1) rfl rfl (by decide) rfl (fun ls hl => ?_)
      refine lv_goto (pc := 43) (tgt := 12) hx hb dX1_choicesFor_43 (by decide) ?_
      exact ih1 _ _ _ _ _ _ (lv_sub hl [0, 1, 2, 3, 4] rfl) hw hF hK1
  refine L1 1000 _ _ _ _ _ _ hl hw hF (fun uv_5 uv_6 H locs ls hl hw hF => ?_)
  refine lv_iload_n (pc := 46) hx hb dX1_choicesFor_46 rfl (lv_at hl 1 rfl) ?_
  cases hF
  exact gx_iret hx hb hr hlocks hw dX1_choicesFor_47
set_option maxRecDepth 100000 in
theorem cl_X1_choicesFor {l : Launch} {G : gx_G} {M : gx_S} {o : Int64} {d : UInt64} {I V : gx_F} {p : Program} {e : Env} {R : Room} {s : State} {m : MethodId} {args : Array Value} {below : List Frame} {meth : Method} {c : Code} {H : Heap} {locs : List Loc} {cells slots : Nat} {Q : State → Prop} {cc : ByteArray} {pc nL index : Nat} {ls : Array Slot} {rest : List Value} {own : String} {k1 : Nat} {x2 : Int32} {out : (Int32 × gx_F × gx_F)} (hx : p.tables.exec = Jvm.exec) (hb : c.code = cc) (hml : c.maxLocals = nL) (hown : s.vm.findClass own = some m.cls) (hV : gx_V G s) (hw : gx_at G (I, V) M o d s.heap H locs) (hk1 : gx_isW k1) (hF : f_X1_choicesFor k1 x2 I V = some out) (hlink : (Cond.methodLink own index yX1_choicesFor).before args s = true) (hsz : ls.size = nL) (hfr : 3 ≤ R.frames) (hlo : 73 ≤ R.locals) (hrest : (rest.map fun v => v.category).sum ≤ 8) (hdg : decode cc pc = .ok (.invokevirtual index, 3))
    (kk : ∀ (H1 : Heap) (locs1 : List Loc), gx_at G (out.2.1, out.2.2) M o d s.heap H1 locs1 → W p l e R s m args below meth c H1 locs1 cells slots Q (F0 m (pc + 3) ls (.int out.1 :: rest))) (hc : cells ≤ R.cells := by exact Nat.zero_le _) (hs : slots ≤ R.slots := by exact Nat.zero_le _) : W p l e R s m args below meth c H locs cells slots Q (F0 m pc ls (.int x2 :: .ref (G.2.1 k1) :: .ref (G.2.1 51) :: rest)) :=
  gx_runi hw (va_runV (C := RX1) (As := [.ref (G.2.1 k1), .int x2]) (rest := rest) ⟨hx, hb, hml, hown, (fun _ h => nomatch h : ∀ w ∈ ([] : List Cond), w.before args s = true)⟩ (k_X1_choicesFor hk1 hF) ⟨gx_callB (n := 2) rfl rfl hlink (gw_53 hV) (gw_792 hV) (by decide +kernel) ⟨hfr, hlo⟩, gw_790 hV, gw_791 hV⟩ (gx_recv (k := 51) (ci := 3) (T := TX1) hV hw (by decide) rfl rfl) rfl rfl hsz rfl (lv_room hrest) hdg ⟨hc, hs⟩) kk
set_option maxHeartbeats 4000000 in
set_option maxRecDepth 100000 in
theorem k_X1_stuckPlaces {l : Launch} {G : gx_G} {M : gx_S} {o : Int64} {d : UInt64} {I V : gx_F} {k1 : Nat} (hk1 : gx_isW k1) {out : (Int32 × gx_F × gx_F)} (hF : f_X1_stuckPlaces k1 I V = some out) : gx_K l yX1_stuckPlaces cX1_stuckPlaces 4 (some .int) { frames := 3, cells := 0, slots := 0, locals := 75 } [.ref (G.2.1 51), .ref (G.2.1 k1)] G (I, V) M o d (gx_Qi G out.1 (out.2.1, out.2.2) M o d) 0 0 := by
  refine gx_begin (by decide +kernel) (Nat.le_of_ble_eq_true rfl) ?_
  intro p e s m below meth c hx hb hr hml hown hlocks hV hw ls hl
  have hown : s.vm.findClass RX1 = some m.cls := hown
  have hl : lv_has ls 4 [(0, .ref (G.2.1 51)), (1, .ref (G.2.1 k1))] := hl
  unfold f_X1_stuckPlaces at hF
  refine lv_iconst (pc := 0) (v := 0) hx hb dX1_stuckPlaces_0 (by decide) ?_
  refine lv_istore_n (pc := 1) (lv' := [(2, .int 0), (0, .ref (G.2.1 51)), (1, .ref (G.2.1 k1))]) hx hb dX1_stuckPlaces_1 rfl hl (by decide) rfl (fun ls hl => ?_)
  refine lv_iconst (pc := 2) (v := 0) hx hb dX1_stuckPlaces_2 (by decide) ?_
  refine lv_istore_n (pc := 3) (lv' := [(3, .int 0), (2, .int 0), (0, .ref (G.2.1 51)), (1, .ref (G.2.1 k1))]) hx hb dX1_stuckPlaces_3 rfl hl (by decide) rfl (fun ls hl => ?_)
  have L1 : ∀ (n : Nat) (K1 : Int32 → Int32 → gx_F → gx_F → Option (Int32 × gx_F × gx_F)) (uv_1 : Int32) (uv_2 : Int32) (uI_3 : gx_F) (uV_4 : gx_F) (H : Heap) (locs : List Loc) (ls : Array Slot), lv_has ls 4 [(3, .int uv_2), (2, .int uv_1), (0, .ref (G.2.1 51)), (1, .ref (G.2.1 k1))] → gx_at G (uI_3, uV_4) M o d s.heap H locs → f_X1_stuckPlaces_L1 k1 K1 n uv_1 uv_2 uI_3 uV_4 = some out → (∀ (uv_1 : Int32) (uv_2 : Int32) (uI_3 : gx_F) (uV_4 : gx_F) (H : Heap) (locs : List Loc) (ls : Array Slot), lv_has ls 4 [(3, .int uv_2), (2, .int uv_1), (0, .ref (G.2.1 51)), (1, .ref (G.2.1 k1))] → gx_at G (uI_3, uV_4) M o d s.heap H locs → K1 uv_1 uv_2 uI_3 uV_4 = some out → W p l e ({ frames := 3, cells := 0, slots := 0, locals := 75 } : Room) s m ([.ref (G.2.1 51), .ref (G.2.1 k1)] : List Value).toArray below meth c H locs 0 0 (MQ below (gx_Qi G out.1 (out.2.1, out.2.2) M o d) ([.ref (G.2.1 51), .ref (G.2.1 k1)] : List Value).toArray s 0 0 (gx_A G)) (F0 m 46 ls [])) → W p l e ({ frames := 3, cells := 0, slots := 0, locals := 75 } : Room) s m ([.ref (G.2.1 51), .ref (G.2.1 k1)] : List Value).toArray below meth c H locs 0 0 (MQ below (gx_Qi G out.1 (out.2.1, out.2.2) M o d) ([.ref (G.2.1 51), .ref (G.2.1 k1)] : List Value).toArray s 0 0 (gx_A G)) (F0 m 4 ls []) := by
    intro n
    induction n with
    | zero =>
      intro K1 uv_1 uv_2 uI_3 uV_4 H locs ls hl hw hF hK
      rw [f_X1_stuckPlaces_L1] at hF
      cases hF
    | succ n ih1 =>
      intro K1 uv_1 uv_2 uI_3 uV_4 H locs ls hl hw hF hK1
      rw [f_X1_stuckPlaces_L1] at hF
      refine lv_iload_n (pc := 4) hx hb dX1_stuckPlaces_4 rfl (lv_at hl 0 rfl) ?_
      refine lv_bipush (pc := 5) (v := 42) hx hb dX1_stuckPlaces_5 (by decide) ?_
      refine gx_icmp_ge (pc := 7) (tgt := 46) hx hb hF dX1_stuckPlaces_7 (by decide) (fun hF => ?_) (fun hF => ?_)
      · exact hK1 _ _ _ _ _ _ _ (lv_sub hl [0, 1, 2, 3] rfl) hw hF
      refine lv_aload_n (pc := 10) hx hb dX1_stuckPlaces_10 rfl (lv_at hl 3 rfl) ?_
      refine lv_iload_n (pc := 11) hx hb dX1_stuckPlaces_11 rfl (lv_at hl 0 rfl) ?_
      obtain ⟨uq_5, huq_5, hF⟩ := Option.bind_eq_some_iff.mp hF
      refine cl_X5_isFree (pc := 12) hx hb hml hown hV hw hk1 huq_5 (gw_346 hV) hl.1 (Nat.le_of_ble_eq_true rfl) (Nat.le_of_ble_eq_true rfl) (Nat.le_of_ble_eq_true rfl) dX1_stuckPlaces_12 (fun H locs hw => ?_)
      refine gx_if_eq (pc := 15) (tgt := 40) hx hb hF dX1_stuckPlaces_15 (by decide) (fun hF => ?_) (fun hF => ?_)
      · refine lv_iinc (pc := 40) (v := (uv_2 + 1)) (lv' := [(3, .int (uv_2 + 1)), (2, .int uv_1), (0, .ref (G.2.1 51)), (1, .ref (G.2.1 k1))]) hx hb dX1_stuckPlaces_40 hl (k := 0) rfl rfl (by decide) rfl (fun ls hl => ?_)
        refine lv_goto (pc := 43) (tgt := 4) hx hb dX1_stuckPlaces_43 (by decide) ?_
        exact ih1 _ _ _ _ _ _ _ _ (lv_sub hl [0, 1, 2, 3] rfl) hw hF hK1
      refine lv_aload_n (pc := 18) hx hb dX1_stuckPlaces_18 rfl (lv_at hl 2 rfl) ?_
      refine lv_aload_n (pc := 19) hx hb dX1_stuckPlaces_19 rfl (lv_at hl 3 rfl) ?_
      refine lv_iload_n (pc := 20) hx hb dX1_stuckPlaces_20 rfl (lv_at hl 0 rfl) ?_
      obtain ⟨uq_6, huq_6, hF⟩ := Option.bind_eq_some_iff.mp hF
      refine cl_X1_lookAround (pc := 21) hx hb hml hown hV hw hk1 huq_6 (gw_347 hV) hl.1 (Nat.le_of_ble_eq_true rfl) (Nat.le_of_ble_eq_true rfl) (Nat.le_of_ble_eq_true rfl) dX1_stuckPlaces_21 (fun H locs hw => ?_)
      refine gx_if_eq (pc := 24) (tgt := 40) hx hb hF dX1_stuckPlaces_24 (by decide) (fun hF => ?_) (fun hF => ?_)
      · refine lv_iinc (pc := 40) (v := (uv_2 + 1)) (lv' := [(3, .int (uv_2 + 1)), (2, .int uv_1), (0, .ref (G.2.1 51)), (1, .ref (G.2.1 k1))]) hx hb dX1_stuckPlaces_40 hl (k := 0) rfl rfl (by decide) rfl (fun ls hl => ?_)
        refine lv_goto (pc := 43) (tgt := 4) hx hb dX1_stuckPlaces_43 (by decide) ?_
        exact ih1 _ _ _ _ _ _ _ _ (lv_sub hl [0, 1, 2, 3] rfl) hw hF hK1
      refine lv_aload_n (pc := 27) hx hb dX1_stuckPlaces_27 rfl (lv_at hl 2 rfl) ?_
      refine lv_aload_n (pc := 28) hx hb dX1_stuckPlaces_28 rfl (lv_at hl 3 rfl) ?_
      refine lv_iload_n (pc := 29) hx hb dX1_stuckPlaces_29 rfl (lv_at hl 0 rfl) ?_
      obtain ⟨uq_7, huq_7, hF⟩ := Option.bind_eq_some_iff.mp hF
      refine cl_X1_bestFor (pc := 30) hx hb hml hown hV hw hk1 huq_7 (gw_355 hV) hl.1 (Nat.le_of_ble_eq_true rfl) (Nat.le_of_ble_eq_true rfl) (Nat.le_of_ble_eq_true rfl) dX1_stuckPlaces_30 (fun H locs hw => ?_)
      refine lv_iconst (pc := 33) (v := (-1)) hx hb dX1_stuckPlaces_33 (by decide) ?_
      refine gx_icmp_ne (pc := 34) (tgt := 40) hx hb hF dX1_stuckPlaces_34 (by decide) (fun hF => ?_) (fun hF => ?_)
      · refine lv_iinc (pc := 40) (v := (uv_2 + 1)) (lv' := [(3, .int (uv_2 + 1)), (2, .int uv_1), (0, .ref (G.2.1 51)), (1, .ref (G.2.1 k1))]) hx hb dX1_stuckPlaces_40 hl (k := 0) rfl rfl (by decide) rfl (fun ls hl => ?_)
        refine lv_goto (pc := 43) (tgt := 4) hx hb dX1_stuckPlaces_43 (by decide) ?_
        exact ih1 _ _ _ _ _ _ _ _ (lv_sub hl [0, 1, 2, 3] rfl) hw hF hK1
      refine lv_iinc (pc := 37) (v := (uv_1 + 1)) (lv' := [(2, .int (uv_1 + 1)), (3, .int uv_2), (0, .ref (G.2.1 51)), (1, .ref (G.2.1 k1))]) hx hb dX1_stuckPlaces_37 hl (k := 1) rfl rfl (by decide) rfl (fun ls hl => ?_)
      refine lv_iinc (pc := 40) (v := (uv_2 + 1)) (lv' := [(3, .int (uv_2 + 1)), (2, .int (uv_1 + 1)), (0, .ref (G.2.1 51)), (1, .ref (G.2.1 k1))]) hx hb dX1_stuckPlaces_40 hl (k := 1) rfl rfl (by decide) rfl (fun ls hl => ?_)
      refine lv_goto (pc := 43) (tgt := 4) hx hb dX1_stuckPlaces_43 (by decide) ?_
      exact ih1 _ _ _ _ _ _ _ _ (lv_sub hl [0, 1, 2, 3] rfl) hw hF hK1
  refine L1 1000 _ _ _ _ _ _ _ _ hl hw hF (fun uv_8 uv_9 uI_10 uV_11 H locs ls hl hw hF => ?_)
  refine lv_iload_n (pc := 46) hx hb dX1_stuckPlaces_46 rfl (lv_at hl 1 rfl) ?_
  cases hF
  exact gx_iret hx hb hr hlocks hw dX1_stuckPlaces_47
set_option maxRecDepth 100000 in
theorem cl_X1_stuckPlaces {l : Launch} {G : gx_G} {M : gx_S} {o : Int64} {d : UInt64} {I V : gx_F} {p : Program} {e : Env} {R : Room} {s : State} {m : MethodId} {args : Array Value} {below : List Frame} {meth : Method} {c : Code} {H : Heap} {locs : List Loc} {cells slots : Nat} {Q : State → Prop} {cc : ByteArray} {pc nL index : Nat} {ls : Array Slot} {rest : List Value} {own : String} {k1 : Nat} {out : (Int32 × gx_F × gx_F)} (hx : p.tables.exec = Jvm.exec) (hb : c.code = cc) (hml : c.maxLocals = nL) (hown : s.vm.findClass own = some m.cls) (hV : gx_V G s) (hw : gx_at G (I, V) M o d s.heap H locs) (hk1 : gx_isW k1) (hF : f_X1_stuckPlaces k1 I V = some out) (hlink : (Cond.methodLink own index yX1_stuckPlaces).before args s = true) (hsz : ls.size = nL) (hfr : 4 ≤ R.frames) (hlo : 98 ≤ R.locals) (hrest : (rest.map fun v => v.category).sum ≤ 8) (hdg : decode cc pc = .ok (.invokevirtual index, 3))
    (kk : ∀ (H1 : Heap) (locs1 : List Loc), gx_at G (out.2.1, out.2.2) M o d s.heap H1 locs1 → W p l e R s m args below meth c H1 locs1 cells slots Q (F0 m (pc + 3) ls (.int out.1 :: rest))) (hc : cells ≤ R.cells := by exact Nat.zero_le _) (hs : slots ≤ R.slots := by exact Nat.zero_le _) : W p l e R s m args below meth c H locs cells slots Q (F0 m pc ls (.ref (G.2.1 k1) :: .ref (G.2.1 51) :: rest)) :=
  gx_runi hw (va_runV (C := RX1) (As := [.ref (G.2.1 k1)]) (rest := rest) ⟨hx, hb, hml, hown, (fun _ h => nomatch h : ∀ w ∈ ([] : List Cond), w.before args s = true)⟩ (k_X1_stuckPlaces hk1 hF) ⟨gx_callB (n := 1) rfl rfl hlink (gw_53 hV) (gw_345 hV) (by decide +kernel) ⟨hfr, hlo⟩, gw_343 hV, gw_344 hV⟩ (gx_recv (k := 51) (ci := 3) (T := TX1) hV hw (by decide) rfl rfl) rfl rfl hsz rfl (lv_room hrest) hdg ⟨hc, hs⟩) kk
set_option maxHeartbeats 4000000 in
set_option maxRecDepth 100000 in
theorem k_X2_push {l : Launch} {G : gx_G} {M : gx_S} {o : Int64} {d : UInt64} {I V : gx_F} {k1 : Nat} (hk1 : gx_isW k1) {out : (gx_F × gx_F)} (hF : f_X2_push k1 I V = some out) : gx_K l yX2_push cX2_push 2 none { frames := 2, cells := 0, slots := 0, locals := 101 } [.ref (G.2.1 46), .ref (G.2.1 k1)] G (I, V) M o d (gx_Qv G (out.1, out.2) M o d) 0 0 := by
  refine gx_begin (by decide +kernel) (Nat.le_of_ble_eq_true rfl) ?_
  intro p e s m below meth c hx hb hr hml hown hlocks hV hw ls hl
  have hown : s.vm.findClass RX2 = some m.cls := hown
  have hl : lv_has ls 2 [(0, .ref (G.2.1 46)), (1, .ref (G.2.1 k1))] := hl
  unfold f_X2_push at hF
  refine lv_aload_n (pc := 0) hx hb dX2_push_0 rfl (lv_at hl 0 rfl) ?_
  refine gg_X2_0 (pc := 1) hx hb hown hV hw (gw_138 hV) dX2_push_1 ?_
  refine lv_aload_n (pc := 4) hx hb dX2_push_4 rfl (lv_at hl 0 rfl) ?_
  refine gg_X2_1 (pc := 5) hx hb hown hV hw (gw_139 hV) dX2_push_5 ?_
  refine gx_walls (pc := 8) hx hb hV hw hF dX2_push_8 (fun uhq_1 hF => ?_)
  refine lv_aload_n (pc := 9) hx hb dX2_push_9 rfl (lv_at hl 1 rfl) ?_
  obtain ⟨uq_2, huq_2, hF⟩ := Option.bind_eq_some_iff.mp hF
  refine cl_X5_copyFrom (pc := 10) hx hb hml hown hV hw uhq_1 hk1 huq_2 (gw_424 hV) hl.1 (Nat.le_of_ble_eq_true rfl) (Nat.le_of_ble_eq_true rfl) (Nat.le_of_ble_eq_true rfl) dX2_push_10 (fun H locs hw => ?_)
  refine lv_aload_n (pc := 13) hx hb dX2_push_13 rfl (lv_at hl 0 rfl) ?_
  refine lv_aload_n (pc := 14) hx hb dX2_push_14 rfl (lv_at hl 0 rfl) ?_
  refine gg_X2_1 (pc := 15) hx hb hown hV hw (gw_139 hV) dX2_push_15 ?_
  refine lv_iconst (pc := 18) (v := 1) hx hb dX2_push_18 (by decide) ?_
  refine lv_iadd (pc := 19) hx hb dX2_push_19 ?_
  refine lv_bipush (pc := 20) (v := 8) hx hb dX2_push_20 (by decide) ?_
  refine lv_irem (pc := 22) hx hb dX2_push_22 (by decide) ?_
  refine gp_X2_1 (pc := 23) hx hb hown hV hw (gw_139 hV) dX2_push_23 (fun H locs hw => ?_)
  refine lv_aload_n (pc := 26) hx hb dX2_push_26 rfl (lv_at hl 0 rfl) ?_
  refine lv_aload_n (pc := 27) hx hb dX2_push_27 rfl (lv_at hl 0 rfl) ?_
  refine gg_X2_2 (pc := 28) hx hb hown hV hw (gw_140 hV) dX2_push_28 ?_
  refine lv_iconst (pc := 31) (v := 1) hx hb dX2_push_31 (by decide) ?_
  refine lv_iadd (pc := 32) hx hb dX2_push_32 ?_
  refine lv_bipush (pc := 33) (v := 8) hx hb dX2_push_33 (by decide) ?_
  refine va_mmin (pc := 35) hx hb (hml.trans hl.1.symm) hown (gw_425 hV) (gw_426 hV) (gw_58 hV) (gw_427 hV) (by decide) (Nat.le_of_ble_eq_true rfl) (Nat.zero_le _) (Nat.zero_le _) dX2_push_35 ?_
  refine gp_X2_2 (pc := 38) hx hb hown hV hw (gw_140 hV) dX2_push_38 (fun H locs hw => ?_)
  cases hF
  exact gx_vret hx hb hr hlocks hw dX2_push_41
set_option maxRecDepth 100000 in
theorem cl_X2_push {l : Launch} {G : gx_G} {M : gx_S} {o : Int64} {d : UInt64} {I V : gx_F} {p : Program} {e : Env} {R : Room} {s : State} {m : MethodId} {args : Array Value} {below : List Frame} {meth : Method} {c : Code} {H : Heap} {locs : List Loc} {cells slots : Nat} {Q : State → Prop} {cc : ByteArray} {pc nL index : Nat} {ls : Array Slot} {rest : List Value} {own : String} {k1 : Nat} {out : (gx_F × gx_F)} (hx : p.tables.exec = Jvm.exec) (hb : c.code = cc) (hml : c.maxLocals = nL) (hown : s.vm.findClass own = some m.cls) (hV : gx_V G s) (hw : gx_at G (I, V) M o d s.heap H locs) (hk1 : gx_isW k1) (hF : f_X2_push k1 I V = some out) (hlink : (Cond.methodLink own index yX2_push).before args s = true) (hsz : ls.size = nL) (hfr : 3 ≤ R.frames) (hlo : 122 ≤ R.locals) (hrest : (rest.map fun v => v.category).sum ≤ 8) (hdg : decode cc pc = .ok (.invokevirtual index, 3))
    (kk : ∀ (H1 : Heap) (locs1 : List Loc), gx_at G (out.1, out.2) M o d s.heap H1 locs1 → W p l e R s m args below meth c H1 locs1 cells slots Q (F0 m (pc + 3) ls (rest))) (hc : cells ≤ R.cells := by exact Nat.zero_le _) (hs : slots ≤ R.slots := by exact Nat.zero_le _) : W p l e R s m args below meth c H locs cells slots Q (F0 m pc ls (.ref (G.2.1 k1) :: .ref (G.2.1 46) :: rest)) :=
  gx_runv hw (va_runV (C := RX2) (As := [.ref (G.2.1 k1)]) (rest := rest) ⟨hx, hb, hml, hown, (fun _ h => nomatch h : ∀ w ∈ ([] : List Cond), w.before args s = true)⟩ (k_X2_push hk1 hF) ⟨gx_callB (n := 1) rfl rfl hlink (gw_51 hV) (gw_423 hV) (by decide +kernel) ⟨hfr, hlo⟩, gw_421 hV, gw_422 hV⟩ (gx_recv (k := 46) (ci := 4) (T := TX2) hV hw (by decide) rfl rfl) rfl rfl hsz rfl (lv_room hrest) hdg ⟨hc, hs⟩) kk
set_option maxHeartbeats 4000000 in
set_option maxRecDepth 100000 in
theorem k_X2_popInto {l : Launch} {G : gx_G} {M : gx_S} {o : Int64} {d : UInt64} {I V : gx_F} {k1 : Nat} (hk1 : gx_isW k1) {out : (gx_F × gx_F)} (hF : f_X2_popInto k1 I V = some out) : gx_K l yX2_popInto cX2_popInto 2 none { frames := 2, cells := 0, slots := 0, locals := 101 } [.ref (G.2.1 46), .ref (G.2.1 k1)] G (I, V) M o d (gx_Qv G (out.1, out.2) M o d) 0 0 := by
  refine gx_begin (by decide +kernel) (Nat.le_of_ble_eq_true rfl) ?_
  intro p e s m below meth c hx hb hr hml hown hlocks hV hw ls hl
  have hown : s.vm.findClass RX2 = some m.cls := hown
  have hl : lv_has ls 2 [(0, .ref (G.2.1 46)), (1, .ref (G.2.1 k1))] := hl
  unfold f_X2_popInto at hF
  refine lv_aload_n (pc := 0) hx hb dX2_popInto_0 rfl (lv_at hl 0 rfl) ?_
  refine gg_X2_2 (pc := 1) hx hb hown hV hw (gw_140 hV) dX2_popInto_1 ?_
  refine gx_if_le (pc := 4) (tgt := 46) hx hb hF dX2_popInto_4 (by decide) (fun hF => ?_) (fun hF => ?_)
  · cases hF
    exact gx_vret hx hb hr hlocks hw dX2_popInto_46
  refine lv_aload_n (pc := 7) hx hb dX2_popInto_7 rfl (lv_at hl 0 rfl) ?_
  refine lv_aload_n (pc := 8) hx hb dX2_popInto_8 rfl (lv_at hl 0 rfl) ?_
  refine gg_X2_1 (pc := 9) hx hb hown hV hw (gw_139 hV) dX2_popInto_9 ?_
  refine lv_bipush (pc := 12) (v := 8) hx hb dX2_popInto_12 (by decide) ?_
  refine lv_iadd (pc := 14) hx hb dX2_popInto_14 ?_
  refine lv_iconst (pc := 15) (v := 1) hx hb dX2_popInto_15 (by decide) ?_
  refine lv_isub (pc := 16) hx hb dX2_popInto_16 ?_
  refine lv_bipush (pc := 17) (v := 8) hx hb dX2_popInto_17 (by decide) ?_
  refine lv_irem (pc := 19) hx hb dX2_popInto_19 (by decide) ?_
  refine gp_X2_1 (pc := 20) hx hb hown hV hw (gw_139 hV) dX2_popInto_20 (fun H locs hw => ?_)
  refine lv_aload_n (pc := 23) hx hb dX2_popInto_23 rfl (lv_at hl 0 rfl) ?_
  refine lv_dup (pc := 24) hx hb dX2_popInto_24 rfl ?_
  refine gg_X2_2 (pc := 25) hx hb hown hV hw (gw_140 hV) dX2_popInto_25 ?_
  refine lv_iconst (pc := 28) (v := 1) hx hb dX2_popInto_28 (by decide) ?_
  refine lv_isub (pc := 29) hx hb dX2_popInto_29 ?_
  refine gp_X2_2 (pc := 30) hx hb hown hV hw (gw_140 hV) dX2_popInto_30 (fun H locs hw => ?_)
  refine lv_aload_n (pc := 33) hx hb dX2_popInto_33 rfl (lv_at hl 1 rfl) ?_
  refine lv_aload_n (pc := 34) hx hb dX2_popInto_34 rfl (lv_at hl 0 rfl) ?_
  refine gg_X2_0 (pc := 35) hx hb hown hV hw (gw_138 hV) dX2_popInto_35 ?_
  refine lv_aload_n (pc := 38) hx hb dX2_popInto_38 rfl (lv_at hl 0 rfl) ?_
  refine gg_X2_1 (pc := 39) hx hb hown hV hw (gw_139 hV) dX2_popInto_39 ?_
  refine gx_walls (pc := 42) hx hb hV hw hF dX2_popInto_42 (fun uhq_1 hF => ?_)
  obtain ⟨uq_2, huq_2, hF⟩ := Option.bind_eq_some_iff.mp hF
  refine cl_X5_copyFrom (pc := 43) hx hb hml hown hV hw hk1 uhq_1 huq_2 (gw_424 hV) hl.1 (Nat.le_of_ble_eq_true rfl) (Nat.le_of_ble_eq_true rfl) (Nat.le_of_ble_eq_true rfl) dX2_popInto_43 (fun H locs hw => ?_)
  cases hF
  exact gx_vret hx hb hr hlocks hw dX2_popInto_46
set_option maxRecDepth 100000 in
theorem cl_X2_popInto {l : Launch} {G : gx_G} {M : gx_S} {o : Int64} {d : UInt64} {I V : gx_F} {p : Program} {e : Env} {R : Room} {s : State} {m : MethodId} {args : Array Value} {below : List Frame} {meth : Method} {c : Code} {H : Heap} {locs : List Loc} {cells slots : Nat} {Q : State → Prop} {cc : ByteArray} {pc nL index : Nat} {ls : Array Slot} {rest : List Value} {own : String} {k1 : Nat} {out : (gx_F × gx_F)} (hx : p.tables.exec = Jvm.exec) (hb : c.code = cc) (hml : c.maxLocals = nL) (hown : s.vm.findClass own = some m.cls) (hV : gx_V G s) (hw : gx_at G (I, V) M o d s.heap H locs) (hk1 : gx_isW k1) (hF : f_X2_popInto k1 I V = some out) (hlink : (Cond.methodLink own index yX2_popInto).before args s = true) (hsz : ls.size = nL) (hfr : 3 ≤ R.frames) (hlo : 122 ≤ R.locals) (hrest : (rest.map fun v => v.category).sum ≤ 8) (hdg : decode cc pc = .ok (.invokevirtual index, 3))
    (kk : ∀ (H1 : Heap) (locs1 : List Loc), gx_at G (out.1, out.2) M o d s.heap H1 locs1 → W p l e R s m args below meth c H1 locs1 cells slots Q (F0 m (pc + 3) ls (rest))) (hc : cells ≤ R.cells := by exact Nat.zero_le _) (hs : slots ≤ R.slots := by exact Nat.zero_le _) : W p l e R s m args below meth c H locs cells slots Q (F0 m pc ls (.ref (G.2.1 k1) :: .ref (G.2.1 46) :: rest)) :=
  gx_runv hw (va_runV (C := RX2) (As := [.ref (G.2.1 k1)]) (rest := rest) ⟨hx, hb, hml, hown, (fun _ h => nomatch h : ∀ w ∈ ([] : List Cond), w.before args s = true)⟩ (k_X2_popInto hk1 hF) ⟨gx_callB (n := 1) rfl rfl hlink (gw_51 hV) (gw_999 hV) (by decide +kernel) ⟨hfr, hlo⟩, gw_997 hV, gw_998 hV⟩ (gx_recv (k := 46) (ci := 4) (T := TX2) hV hw (by decide) rfl rfl) rfl rfl hsz rfl (lv_room hrest) hdg ⟨hc, hs⟩) kk
set_option maxHeartbeats 4000000 in
set_option maxRecDepth 100000 in
theorem k_X2_forget {l : Launch} {G : gx_G} {M : gx_S} {o : Int64} {d : UInt64} {I V : gx_F} {out : (gx_F × gx_F)} (hF : f_X2_forget I V = some out) : gx_K l yX2_forget cX2_forget 1 none { frames := 0, cells := 0, slots := 0, locals := 0 } [.ref (G.2.1 46)] G (I, V) M o d (gx_Qv G (out.1, out.2) M o d) 0 0 := by
  refine gx_begin (by decide +kernel) (Nat.le_of_ble_eq_true rfl) ?_
  intro p e s m below meth c hx hb hr hml hown hlocks hV hw ls hl
  have hown : s.vm.findClass RX2 = some m.cls := hown
  have hl : lv_has ls 1 [(0, .ref (G.2.1 46))] := hl
  unfold f_X2_forget at hF
  refine lv_aload_n (pc := 0) hx hb dX2_forget_0 rfl (lv_at hl 0 rfl) ?_
  refine lv_iconst (pc := 1) (v := 0) hx hb dX2_forget_1 (by decide) ?_
  refine gp_X2_2 (pc := 2) hx hb hown hV hw (gw_140 hV) dX2_forget_2 (fun H locs hw => ?_)
  cases hF
  exact gx_vret hx hb hr hlocks hw dX2_forget_5
set_option maxRecDepth 100000 in
theorem cl_X2_forget {l : Launch} {G : gx_G} {M : gx_S} {o : Int64} {d : UInt64} {I V : gx_F} {p : Program} {e : Env} {R : Room} {s : State} {m : MethodId} {args : Array Value} {below : List Frame} {meth : Method} {c : Code} {H : Heap} {locs : List Loc} {cells slots : Nat} {Q : State → Prop} {cc : ByteArray} {pc nL index : Nat} {ls : Array Slot} {rest : List Value} {own : String} {out : (gx_F × gx_F)} (hx : p.tables.exec = Jvm.exec) (hb : c.code = cc) (hml : c.maxLocals = nL) (hown : s.vm.findClass own = some m.cls) (hV : gx_V G s) (hw : gx_at G (I, V) M o d s.heap H locs) (hF : f_X2_forget I V = some out) (hlink : (Cond.methodLink own index yX2_forget).before args s = true) (hsz : ls.size = nL) (hfr : 1 ≤ R.frames) (hlo : 20 ≤ R.locals) (hrest : (rest.map fun v => v.category).sum ≤ 8) (hdg : decode cc pc = .ok (.invokevirtual index, 3))
    (kk : ∀ (H1 : Heap) (locs1 : List Loc), gx_at G (out.1, out.2) M o d s.heap H1 locs1 → W p l e R s m args below meth c H1 locs1 cells slots Q (F0 m (pc + 3) ls (rest))) (hc : cells ≤ R.cells := by exact Nat.zero_le _) (hs : slots ≤ R.slots := by exact Nat.zero_le _) : W p l e R s m args below meth c H locs cells slots Q (F0 m pc ls (.ref (G.2.1 46) :: rest)) :=
  gx_runv hw (va_runV (C := RX2) (As := []) (rest := rest) ⟨hx, hb, hml, hown, (fun _ h => nomatch h : ∀ w ∈ ([] : List Cond), w.before args s = true)⟩ (k_X2_forget hF) ⟨gx_callB (n := 0) rfl rfl hlink (gw_51 hV) (gw_1011 hV) (by decide +kernel) ⟨hfr, hlo⟩, gw_1009 hV, gw_1010 hV⟩ (gx_recv (k := 46) (ci := 4) (T := TX2) hV hw (by decide) rfl rfl) rfl rfl hsz rfl (lv_room hrest) hdg ⟨hc, hs⟩) kk
set_option maxHeartbeats 4000000 in
set_option maxRecDepth 100000 in
theorem k_X3_isGlue {l : Launch} {G : gx_G} {M : gx_S} {o : Int64} {d : UInt64} {I V : gx_F} {x0 : Int32} {out : Bool} (hF : f_X3_isGlue x0 I V = some out) : gx_K l yX3_isGlue cX3_isGlue 1 (some .boolean) { frames := 0, cells := 0, slots := 0, locals := 0 } [.int x0] G (I, V) M o d (gx_Qi G (gx_bi out) (I, V) M o d) 0 0 := by
  refine gx_begin (by decide +kernel) (Nat.le_of_ble_eq_true rfl) ?_
  intro p e s m below meth c hx hb hr hml hown hlocks hV hw ls hl
  have hown : s.vm.findClass RX3 = some m.cls := hown
  have hl : lv_has ls 1 [(0, .int x0)] := hl
  unfold f_X3_isGlue at hF
  refine lv_iload_n (pc := 0) hx hb dX3_isGlue_0 rfl (lv_at hl 0 rfl) ?_
  refine gx_if_lt (pc := 1) (tgt := 14) hx hb hF dX3_isGlue_1 (by decide) (fun hF => ?_) (fun hF => ?_)
  · refine lv_iconst (pc := 14) (v := 0) hx hb dX3_isGlue_14 (by decide) ?_
    cases hF
    exact gx_zret (r := gx_bi false) hx hb hr (gx_narb _) hlocks hw dX3_isGlue_15
  refine lv_iload_n (pc := 4) hx hb dX3_isGlue_4 rfl (lv_at hl 0 rfl) ?_
  refine lv_bipush (pc := 5) (v := 6) hx hb dX3_isGlue_5 (by decide) ?_
  refine gx_icmp_gt (pc := 7) (tgt := 14) hx hb hF dX3_isGlue_7 (by decide) (fun hF => ?_) (fun hF => ?_)
  · refine lv_iconst (pc := 14) (v := 0) hx hb dX3_isGlue_14 (by decide) ?_
    cases hF
    exact gx_zret (r := gx_bi false) hx hb hr (gx_narb _) hlocks hw dX3_isGlue_15
  refine lv_iconst (pc := 10) (v := 1) hx hb dX3_isGlue_10 (by decide) ?_
  refine lv_goto (pc := 11) (tgt := 15) hx hb dX3_isGlue_11 (by decide) ?_
  cases hF
  exact gx_zret (r := gx_bi true) hx hb hr (gx_narb _) hlocks hw dX3_isGlue_15
set_option maxRecDepth 100000 in
theorem cl_X3_isGlue {l : Launch} {G : gx_G} {M : gx_S} {o : Int64} {d : UInt64} {I V : gx_F} {p : Program} {e : Env} {R : Room} {s : State} {m : MethodId} {args : Array Value} {below : List Frame} {meth : Method} {c : Code} {H : Heap} {locs : List Loc} {cells slots : Nat} {Q : State → Prop} {cc : ByteArray} {pc nL index : Nat} {ls : Array Slot} {rest : List Value} {own : String} {x0 : Int32} {out : Bool} (hx : p.tables.exec = Jvm.exec) (hb : c.code = cc) (hml : c.maxLocals = nL) (hown : s.vm.findClass own = some m.cls) (hV : gx_V G s) (hw : gx_at G (I, V) M o d s.heap H locs) (hF : f_X3_isGlue x0 I V = some out) (hlink : (Cond.methodLink own index yX3_isGlue).before args s = true) (hsz : ls.size = nL) (hfr : 1 ≤ R.frames) (hlo : 20 ≤ R.locals) (hrest : (rest.map fun v => v.category).sum ≤ 8) (hdg : decode cc pc = .ok (.invokestatic index, 3))
    (kk : ∀ (H1 : Heap) (locs1 : List Loc), gx_at G (I, V) M o d s.heap H1 locs1 → W p l e R s m args below meth c H1 locs1 cells slots Q (F0 m (pc + 3) ls (.int (gx_bi out) :: rest))) (hc : cells ≤ R.cells := by exact Nat.zero_le _) (hs : slots ≤ R.slots := by exact Nat.zero_le _) : W p l e R s m args below meth c H locs cells slots Q (F0 m pc ls (.int x0 :: rest)) :=
  gx_runi hw (va_runS (As := [.int x0]) (rest := rest) ⟨hx, hb, hml, hown, (fun _ h => nomatch h : ∀ w ∈ ([] : List Cond), w.before args s = true)⟩ (k_X3_isGlue hF) ⟨gx_callB (n := 1) rfl rfl hlink (gw_54 hV) (gw_411 hV) (by decide +kernel) ⟨hfr, hlo⟩, gw_410 hV⟩ (gx_pre hV hw) rfl rfl hsz rfl (lv_room hrest) hdg ⟨hc, hs⟩) kk
set_option maxHeartbeats 4000000 in
set_option maxRecDepth 100000 in
theorem k_X3_refuse {l : Launch} {G : gx_G} {M : gx_S} {o : Int64} {d : UInt64} {I V : gx_F} {x1 : Int32} {x2 : Int32} {out : (Int32 × gx_F × gx_F)} (hF : f_X3_refuse x1 x2 I V = some out) : gx_K l yX3_refuse cX3_refuse 3 (some .int) { frames := 0, cells := 0, slots := 0, locals := 0 } [.ref (G.2.1 53), .int x1, .int x2] G (I, V) M o d (gx_Qi G out.1 (out.2.1, out.2.2) M o d) 0 0 := by
  refine gx_begin (by decide +kernel) (Nat.le_of_ble_eq_true rfl) ?_
  intro p e s m below meth c hx hb hr hml hown hlocks hV hw ls hl
  have hown : s.vm.findClass RX3 = some m.cls := hown
  have hl : lv_has ls 3 [(0, .ref (G.2.1 53)), (1, .int x1), (2, .int x2)] := hl
  unfold f_X3_refuse at hF
  refine lv_aload_n (pc := 0) hx hb dX3_refuse_0 rfl (lv_at hl 0 rfl) ?_
  refine lv_iload_n (pc := 1) hx hb dX3_refuse_1 rfl (lv_at hl 1 rfl) ?_
  refine gp_X3_2 (pc := 2) hx hb hown hV hw (gw_192 hV) dX3_refuse_2 (fun H locs hw => ?_)
  refine lv_aload_n (pc := 5) hx hb dX3_refuse_5 rfl (lv_at hl 0 rfl) ?_
  refine lv_iload_n (pc := 6) hx hb dX3_refuse_6 rfl (lv_at hl 2 rfl) ?_
  refine gp_X3_3 (pc := 7) hx hb hown hV hw (gw_194 hV) dX3_refuse_7 (fun H locs hw => ?_)
  refine lv_iconst (pc := 10) (v := (-1)) hx hb dX3_refuse_10 (by decide) ?_
  cases hF
  exact gx_iret hx hb hr hlocks hw dX3_refuse_11
set_option maxRecDepth 100000 in
theorem cl_X3_refuse {l : Launch} {G : gx_G} {M : gx_S} {o : Int64} {d : UInt64} {I V : gx_F} {p : Program} {e : Env} {R : Room} {s : State} {m : MethodId} {args : Array Value} {below : List Frame} {meth : Method} {c : Code} {H : Heap} {locs : List Loc} {cells slots : Nat} {Q : State → Prop} {cc : ByteArray} {pc nL index : Nat} {ls : Array Slot} {rest : List Value} {own : String} {x1 : Int32} {x2 : Int32} {out : (Int32 × gx_F × gx_F)} (hx : p.tables.exec = Jvm.exec) (hb : c.code = cc) (hml : c.maxLocals = nL) (hown : s.vm.findClass own = some m.cls) (hV : gx_V G s) (hw : gx_at G (I, V) M o d s.heap H locs) (hF : f_X3_refuse x1 x2 I V = some out) (hlink : (Cond.methodLink own index yX3_refuse).before args s = true) (hsz : ls.size = nL) (hfr : 1 ≤ R.frames) (hlo : 22 ≤ R.locals) (hrest : (rest.map fun v => v.category).sum ≤ 8) (hdg : decode cc pc = .ok (.invokevirtual index, 3))
    (kk : ∀ (H1 : Heap) (locs1 : List Loc), gx_at G (out.2.1, out.2.2) M o d s.heap H1 locs1 → W p l e R s m args below meth c H1 locs1 cells slots Q (F0 m (pc + 3) ls (.int out.1 :: rest))) (hc : cells ≤ R.cells := by exact Nat.zero_le _) (hs : slots ≤ R.slots := by exact Nat.zero_le _) : W p l e R s m args below meth c H locs cells slots Q (F0 m pc ls (.int x2 :: .int x1 :: .ref (G.2.1 53) :: rest)) :=
  gx_runi hw (va_runV (C := RX3) (As := [.int x1, .int x2]) (rest := rest) ⟨hx, hb, hml, hown, (fun _ h => nomatch h : ∀ w ∈ ([] : List Cond), w.before args s = true)⟩ (k_X3_refuse hF) ⟨gx_callB (n := 2) rfl rfl hlink (gw_54 hV) (gw_415 hV) (by decide +kernel) ⟨hfr, hlo⟩, gw_414 hV, gw_4 hV⟩ (gx_recv (k := 53) (ci := 5) (T := TX3) hV hw (by decide) rfl rfl) rfl rfl hsz rfl (lv_room hrest) hdg ⟨hc, hs⟩) kk
set_option maxHeartbeats 4000000 in
set_option maxRecDepth 100000 in
theorem k_X3_tellKind {l : Launch} {G : gx_G} {M : gx_S} {o : Int64} {d : UInt64} {I V : gx_F} {k1 : Nat} {x2 : Int32} {x3 : Int32} {x4 : Int32} {x5 : Int32} (hk1 : gx_isW k1) {out : (Int32 × gx_F × gx_F)} (hF : f_X3_tellKind k1 x2 x3 x4 x5 I V = some out) : gx_K l yX3_tellKind cX3_tellKind 7 (some .int) { frames := 1, cells := 0, slots := 0, locals := 22 } [.ref (G.2.1 53), .ref (G.2.1 k1), .int x2, .int x3, .int x4, .int x5] G (I, V) M o d (gx_Qi G out.1 (out.2.1, out.2.2) M o d) 0 0 := by
  refine gx_begin (by decide +kernel) (Nat.le_of_ble_eq_true rfl) ?_
  intro p e s m below meth c hx hb hr hml hown hlocks hV hw ls hl
  have hown : s.vm.findClass RX3 = some m.cls := hown
  have hl : lv_has ls 7 [(0, .ref (G.2.1 53)), (1, .ref (G.2.1 k1)), (2, .int x2), (3, .int x3), (4, .int x4), (5, .int x5)] := hl
  unfold f_X3_tellKind at hF
  refine lv_iload_n (pc := 0) hx hb dX3_tellKind_0 rfl (lv_at hl 2 rfl) ?_
  obtain ⟨uq_1, huq_1, hF⟩ := Option.bind_eq_some_iff.mp hF
  refine cl_X3_isGlue (pc := 1) hx hb hml hown hV hw huq_1 (gw_409 hV) hl.1 (Nat.le_of_ble_eq_true rfl) (Nat.le_of_ble_eq_true rfl) (Nat.le_of_ble_eq_true rfl) dX3_tellKind_1 (fun H locs hw => ?_)
  refine gx_if_eq (pc := 4) (tgt := 30) hx hb hF dX3_tellKind_4 (by decide) (fun hF => ?_) (fun hF => ?_)
  · refine lv_aload_n (pc := 30) hx hb dX3_tellKind_30 rfl (lv_at hl 0 rfl) ?_
    refine lv_iconst (pc := 31) (v := 1) hx hb dX3_tellKind_31 (by decide) ?_
    refine lv_iconst (pc := 32) (v := 0) hx hb dX3_tellKind_32 (by decide) ?_
    obtain ⟨uq_2, huq_2, hF⟩ := Option.bind_eq_some_iff.mp hF
    refine cl_X3_refuse (pc := 33) hx hb hml hown hV hw huq_2 (gw_412 hV) hl.1 (Nat.le_of_ble_eq_true rfl) (Nat.le_of_ble_eq_true rfl) (Nat.le_of_ble_eq_true rfl) dX3_tellKind_33 (fun H locs hw => ?_)
    cases hF
    exact gx_iret hx hb hr hlocks hw dX3_tellKind_36
  refine lv_iload_n (pc := 7) hx hb dX3_tellKind_7 rfl (lv_at hl 3 rfl) ?_
  obtain ⟨uq_3, huq_3, hF⟩ := Option.bind_eq_some_iff.mp hF
  refine cl_X3_isGlue (pc := 8) hx hb hml hown hV hw huq_3 (gw_409 hV) hl.1 (Nat.le_of_ble_eq_true rfl) (Nat.le_of_ble_eq_true rfl) (Nat.le_of_ble_eq_true rfl) dX3_tellKind_8 (fun H locs hw => ?_)
  refine gx_if_eq (pc := 11) (tgt := 30) hx hb hF dX3_tellKind_11 (by decide) (fun hF => ?_) (fun hF => ?_)
  · refine lv_aload_n (pc := 30) hx hb dX3_tellKind_30 rfl (lv_at hl 0 rfl) ?_
    refine lv_iconst (pc := 31) (v := 1) hx hb dX3_tellKind_31 (by decide) ?_
    refine lv_iconst (pc := 32) (v := 0) hx hb dX3_tellKind_32 (by decide) ?_
    obtain ⟨uq_4, huq_4, hF⟩ := Option.bind_eq_some_iff.mp hF
    refine cl_X3_refuse (pc := 33) hx hb hml hown hV hw huq_4 (gw_412 hV) hl.1 (Nat.le_of_ble_eq_true rfl) (Nat.le_of_ble_eq_true rfl) (Nat.le_of_ble_eq_true rfl) dX3_tellKind_33 (fun H locs hw => ?_)
    cases hF
    exact gx_iret hx hb hr hlocks hw dX3_tellKind_36
  refine lv_iload (pc := 14) hx hb dX3_tellKind_14 (lv_at hl 4 rfl) ?_
  obtain ⟨uq_5, huq_5, hF⟩ := Option.bind_eq_some_iff.mp hF
  refine cl_X3_isGlue (pc := 16) hx hb hml hown hV hw huq_5 (gw_409 hV) hl.1 (Nat.le_of_ble_eq_true rfl) (Nat.le_of_ble_eq_true rfl) (Nat.le_of_ble_eq_true rfl) dX3_tellKind_16 (fun H locs hw => ?_)
  refine gx_if_eq (pc := 19) (tgt := 30) hx hb hF dX3_tellKind_19 (by decide) (fun hF => ?_) (fun hF => ?_)
  · refine lv_aload_n (pc := 30) hx hb dX3_tellKind_30 rfl (lv_at hl 0 rfl) ?_
    refine lv_iconst (pc := 31) (v := 1) hx hb dX3_tellKind_31 (by decide) ?_
    refine lv_iconst (pc := 32) (v := 0) hx hb dX3_tellKind_32 (by decide) ?_
    obtain ⟨uq_6, huq_6, hF⟩ := Option.bind_eq_some_iff.mp hF
    refine cl_X3_refuse (pc := 33) hx hb hml hown hV hw huq_6 (gw_412 hV) hl.1 (Nat.le_of_ble_eq_true rfl) (Nat.le_of_ble_eq_true rfl) (Nat.le_of_ble_eq_true rfl) dX3_tellKind_33 (fun H locs hw => ?_)
    cases hF
    exact gx_iret hx hb hr hlocks hw dX3_tellKind_36
  refine lv_iload (pc := 22) hx hb dX3_tellKind_22 (lv_at hl 5 rfl) ?_
  obtain ⟨uq_7, huq_7, hF⟩ := Option.bind_eq_some_iff.mp hF
  refine cl_X3_isGlue (pc := 24) hx hb hml hown hV hw huq_7 (gw_409 hV) hl.1 (Nat.le_of_ble_eq_true rfl) (Nat.le_of_ble_eq_true rfl) (Nat.le_of_ble_eq_true rfl) dX3_tellKind_24 (fun H locs hw => ?_)
  refine gx_if_ne (pc := 27) (tgt := 37) hx hb hF dX3_tellKind_27 (by decide) (fun hF => ?_) (fun hF => ?_)
  · refine lv_aload_n (pc := 37) hx hb dX3_tellKind_37 rfl (lv_at hl 1 rfl) ?_
    refine gg_X5_3 (pc := 38) hx hb hown hV hw hk1 (gw_91 hV) dX3_tellKind_38 ?_
    refine lv_bipush (pc := 41) (v := 8) hx hb dX3_tellKind_41 (by decide) ?_
    refine gx_icmp_lt (pc := 43) (tgt := 54) hx hb hF dX3_tellKind_43 (by decide) (fun hF => ?_) (fun hF => ?_)
    · refine lv_aload_n (pc := 54) hx hb dX3_tellKind_54 rfl (lv_at hl 1 rfl) ?_
      refine gg_X5_3 (pc := 55) hx hb hown hV hw hk1 (gw_91 hV) dX3_tellKind_55 ?_
      refine lv_iconst (pc := 58) (v := 4) hx hb dX3_tellKind_58 (by decide) ?_
      refine lv_imul (pc := 59) hx hb dX3_tellKind_59 ?_
      refine lv_istore (pc := 60) (lv' := [(6, .int ((I k1 3) * 4)), (0, .ref (G.2.1 53)), (1, .ref (G.2.1 k1)), (2, .int x2), (3, .int x3), (4, .int x4), (5, .int x5)]) hx hb dX3_tellKind_60 hl (by decide) rfl (fun ls hl => ?_)
      refine lv_aload_n (pc := 62) hx hb dX3_tellKind_62 rfl (lv_at hl 2 rfl) ?_
      refine gg_X5_0 (pc := 63) hx hb hown hV hw hk1 (gw_85 hV) dX3_tellKind_63 ?_
      refine lv_iload (pc := 66) hx hb dX3_tellKind_66 (lv_at hl 0 rfl) ?_
      refine lv_iload_n (pc := 68) hx hb dX3_tellKind_68 rfl (lv_at hl 3 rfl) ?_
      refine ga_w1_st (pc := 69) hx hb hV hw hk1 hF dX3_tellKind_69 (fun H locs hw hF => ?_)
      refine lv_aload_n (pc := 70) hx hb dX3_tellKind_70 rfl (lv_at hl 2 rfl) ?_
      refine gg_X5_0 (pc := 71) hx hb hown hV hw hk1 (gw_85 hV) dX3_tellKind_71 ?_
      refine lv_iload (pc := 74) hx hb dX3_tellKind_74 (lv_at hl 0 rfl) ?_
      refine lv_iconst (pc := 76) (v := 1) hx hb dX3_tellKind_76 (by decide) ?_
      refine lv_iadd (pc := 77) hx hb dX3_tellKind_77 ?_
      refine lv_iload_n (pc := 78) hx hb dX3_tellKind_78 rfl (lv_at hl 4 rfl) ?_
      refine ga_w1_st (pc := 79) hx hb hV hw hk1 hF dX3_tellKind_79 (fun H locs hw hF => ?_)
      refine lv_aload_n (pc := 80) hx hb dX3_tellKind_80 rfl (lv_at hl 2 rfl) ?_
      refine gg_X5_0 (pc := 81) hx hb hown hV hw hk1 (gw_85 hV) dX3_tellKind_81 ?_
      refine lv_iload (pc := 84) hx hb dX3_tellKind_84 (lv_at hl 0 rfl) ?_
      refine lv_iconst (pc := 86) (v := 2) hx hb dX3_tellKind_86 (by decide) ?_
      refine lv_iadd (pc := 87) hx hb dX3_tellKind_87 ?_
      refine lv_iload (pc := 88) hx hb dX3_tellKind_88 (lv_at hl 5 rfl) ?_
      refine ga_w1_st (pc := 90) hx hb hV hw hk1 hF dX3_tellKind_90 (fun H locs hw hF => ?_)
      refine lv_aload_n (pc := 91) hx hb dX3_tellKind_91 rfl (lv_at hl 2 rfl) ?_
      refine gg_X5_0 (pc := 92) hx hb hown hV hw hk1 (gw_85 hV) dX3_tellKind_92 ?_
      refine lv_iload (pc := 95) hx hb dX3_tellKind_95 (lv_at hl 0 rfl) ?_
      refine lv_iconst (pc := 97) (v := 3) hx hb dX3_tellKind_97 (by decide) ?_
      refine lv_iadd (pc := 98) hx hb dX3_tellKind_98 ?_
      refine lv_iload (pc := 99) hx hb dX3_tellKind_99 (lv_at hl 6 rfl) ?_
      refine ga_w1_st (pc := 101) hx hb hV hw hk1 hF dX3_tellKind_101 (fun H locs hw hF => ?_)
      refine lv_aload_n (pc := 102) hx hb dX3_tellKind_102 rfl (lv_at hl 2 rfl) ?_
      refine lv_dup (pc := 103) hx hb dX3_tellKind_103 rfl ?_
      refine gg_X5_3 (pc := 104) hx hb hown hV hw hk1 (gw_91 hV) dX3_tellKind_104 ?_
      refine lv_iconst (pc := 107) (v := 1) hx hb dX3_tellKind_107 (by decide) ?_
      refine lv_iadd (pc := 108) hx hb dX3_tellKind_108 ?_
      refine gp_X5_3 (pc := 109) hx hb hown hV hw hk1 (gw_91 hV) dX3_tellKind_109 (fun H locs hw => ?_)
      refine lv_aload_n (pc := 112) hx hb dX3_tellKind_112 rfl (lv_at hl 2 rfl) ?_
      refine gg_X5_3 (pc := 113) hx hb hown hV hw hk1 (gw_91 hV) dX3_tellKind_113 ?_
      refine lv_iconst (pc := 116) (v := 1) hx hb dX3_tellKind_116 (by decide) ?_
      refine lv_isub (pc := 117) hx hb dX3_tellKind_117 ?_
      cases hF
      exact gx_iret hx hb hr hlocks hw dX3_tellKind_118
    refine lv_aload_n (pc := 46) hx hb dX3_tellKind_46 rfl (lv_at hl 0 rfl) ?_
    refine lv_iconst (pc := 47) (v := 2) hx hb dX3_tellKind_47 (by decide) ?_
    refine lv_bipush (pc := 48) (v := 8) hx hb dX3_tellKind_48 (by decide) ?_
    obtain ⟨uq_8, huq_8, hF⟩ := Option.bind_eq_some_iff.mp hF
    refine cl_X3_refuse (pc := 50) hx hb hml hown hV hw huq_8 (gw_412 hV) hl.1 (Nat.le_of_ble_eq_true rfl) (Nat.le_of_ble_eq_true rfl) (Nat.le_of_ble_eq_true rfl) dX3_tellKind_50 (fun H locs hw => ?_)
    cases hF
    exact gx_iret hx hb hr hlocks hw dX3_tellKind_53
  refine lv_aload_n (pc := 30) hx hb dX3_tellKind_30 rfl (lv_at hl 0 rfl) ?_
  refine lv_iconst (pc := 31) (v := 1) hx hb dX3_tellKind_31 (by decide) ?_
  refine lv_iconst (pc := 32) (v := 0) hx hb dX3_tellKind_32 (by decide) ?_
  obtain ⟨uq_9, huq_9, hF⟩ := Option.bind_eq_some_iff.mp hF
  refine cl_X3_refuse (pc := 33) hx hb hml hown hV hw huq_9 (gw_412 hV) hl.1 (Nat.le_of_ble_eq_true rfl) (Nat.le_of_ble_eq_true rfl) (Nat.le_of_ble_eq_true rfl) dX3_tellKind_33 (fun H locs hw => ?_)
  cases hF
  exact gx_iret hx hb hr hlocks hw dX3_tellKind_36
set_option maxRecDepth 100000 in
theorem cl_X3_tellKind {l : Launch} {G : gx_G} {M : gx_S} {o : Int64} {d : UInt64} {I V : gx_F} {p : Program} {e : Env} {R : Room} {s : State} {m : MethodId} {args : Array Value} {below : List Frame} {meth : Method} {c : Code} {H : Heap} {locs : List Loc} {cells slots : Nat} {Q : State → Prop} {cc : ByteArray} {pc nL index : Nat} {ls : Array Slot} {rest : List Value} {own : String} {k1 : Nat} {x2 : Int32} {x3 : Int32} {x4 : Int32} {x5 : Int32} {out : (Int32 × gx_F × gx_F)} (hx : p.tables.exec = Jvm.exec) (hb : c.code = cc) (hml : c.maxLocals = nL) (hown : s.vm.findClass own = some m.cls) (hV : gx_V G s) (hw : gx_at G (I, V) M o d s.heap H locs) (hk1 : gx_isW k1) (hF : f_X3_tellKind k1 x2 x3 x4 x5 I V = some out) (hlink : (Cond.methodLink own index yX3_tellKind).before args s = true) (hsz : ls.size = nL) (hfr : 2 ≤ R.frames) (hlo : 48 ≤ R.locals) (hrest : (rest.map fun v => v.category).sum ≤ 8) (hdg : decode cc pc = .ok (.invokevirtual index, 3))
    (kk : ∀ (H1 : Heap) (locs1 : List Loc), gx_at G (out.2.1, out.2.2) M o d s.heap H1 locs1 → W p l e R s m args below meth c H1 locs1 cells slots Q (F0 m (pc + 3) ls (.int out.1 :: rest))) (hc : cells ≤ R.cells := by exact Nat.zero_le _) (hs : slots ≤ R.slots := by exact Nat.zero_le _) : W p l e R s m args below meth c H locs cells slots Q (F0 m pc ls (.int x5 :: .int x4 :: .int x3 :: .int x2 :: .ref (G.2.1 k1) :: .ref (G.2.1 53) :: rest)) :=
  gx_runi hw (va_runV (C := RX3) (As := [.ref (G.2.1 k1), .int x2, .int x3, .int x4, .int x5]) (rest := rest) ⟨hx, hb, hml, hown, (fun _ h => nomatch h : ∀ w ∈ ([] : List Cond), w.before args s = true)⟩ (k_X3_tellKind hk1 hF) ⟨gx_callB (n := 5) rfl rfl hlink (gw_54 hV) (gw_408 hV) (by decide +kernel) ⟨hfr, hlo⟩, gw_406 hV, gw_407 hV⟩ (gx_recv (k := 53) (ci := 5) (T := TX3) hV hw (by decide) rfl rfl) rfl rfl hsz rfl (lv_room hrest) hdg ⟨hc, hs⟩) kk
set_option maxHeartbeats 4000000 in
set_option maxRecDepth 100000 in
theorem k_X3_layBrick {l : Launch} {G : gx_G} {M : gx_S} {o : Int64} {d : UInt64} {I V : gx_F} {k1 : Nat} {x2 : Int32} {x3 : Int32} {x4 : Int32} (hk1 : gx_isW k1) {out : (Int32 × gx_F × gx_F)} (hF : f_X3_layBrick k1 x2 x3 x4 I V = some out) : gx_K l yX3_layBrick cX3_layBrick 7 (some .int) { frames := 3, cells := 0, slots := 0, locals := 70 } [.ref (G.2.1 53), .ref (G.2.1 k1), .int x2, .int x3, .int x4] G (I, V) M o d (gx_Qi G out.1 (out.2.1, out.2.2) M o d) 0 0 := by
  refine gx_begin (by decide +kernel) (Nat.le_of_ble_eq_true rfl) ?_
  intro p e s m below meth c hx hb hr hml hown hlocks hV hw ls hl
  have hown : s.vm.findClass RX3 = some m.cls := hown
  have hl : lv_has ls 7 [(0, .ref (G.2.1 53)), (1, .ref (G.2.1 k1)), (2, .int x2), (3, .int x3), (4, .int x4)] := hl
  unfold f_X3_layBrick at hF
  refine lv_iload_n (pc := 0) hx hb dX3_layBrick_0 rfl (lv_at hl 2 rfl) ?_
  obtain ⟨uq_1, huq_1, hF⟩ := Option.bind_eq_some_iff.mp hF
  refine cn_X6_isPlace (pc := 1) hx hb hml hown hV hw huq_1 (gw_511 hV) hl.1 (Nat.le_of_ble_eq_true rfl) (Nat.le_of_ble_eq_true rfl) (Nat.le_of_ble_eq_true rfl) dX3_layBrick_1 (fun H locs hw => ?_)
  refine gx_if_eq (pc := 4) (tgt := 15) hx hb hF dX3_layBrick_4 (by decide) (fun hF => ?_) (fun hF => ?_)
  · refine lv_aload_n (pc := 15) hx hb dX3_layBrick_15 rfl (lv_at hl 0 rfl) ?_
    refine lv_iconst (pc := 16) (v := 1) hx hb dX3_layBrick_16 (by decide) ?_
    refine lv_iconst (pc := 17) (v := 0) hx hb dX3_layBrick_17 (by decide) ?_
    obtain ⟨uq_2, huq_2, hF⟩ := Option.bind_eq_some_iff.mp hF
    refine cl_X3_refuse (pc := 18) hx hb hml hown hV hw huq_2 (gw_412 hV) hl.1 (Nat.le_of_ble_eq_true rfl) (Nat.le_of_ble_eq_true rfl) (Nat.le_of_ble_eq_true rfl) dX3_layBrick_18 (fun H locs hw => ?_)
    cases hF
    exact gx_iret hx hb hr hlocks hw dX3_layBrick_21
  refine lv_iload (pc := 7) hx hb dX3_layBrick_7 (lv_at hl 4 rfl) ?_
  obtain ⟨uq_3, huq_3, hF⟩ := Option.bind_eq_some_iff.mp hF
  refine cn_X6_isTurnOrSide (pc := 9) hx hb hml hown hV hw huq_3 (gw_512 hV) hl.1 (Nat.le_of_ble_eq_true rfl) (Nat.le_of_ble_eq_true rfl) (Nat.le_of_ble_eq_true rfl) dX3_layBrick_9 (fun H locs hw => ?_)
  refine gx_if_ne (pc := 12) (tgt := 22) hx hb hF dX3_layBrick_12 (by decide) (fun hF => ?_) (fun hF => ?_)
  · refine lv_aload_n (pc := 22) hx hb dX3_layBrick_22 rfl (lv_at hl 1 rfl) ?_
    refine lv_iload_n (pc := 23) hx hb dX3_layBrick_23 rfl (lv_at hl 3 rfl) ?_
    obtain ⟨uq_4, huq_4, hF⟩ := Option.bind_eq_some_iff.mp hF
    refine cl_X5_hasKind (pc := 24) hx hb hml hown hV hw hk1 huq_4 (gw_515 hV) hl.1 (Nat.le_of_ble_eq_true rfl) (Nat.le_of_ble_eq_true rfl) (Nat.le_of_ble_eq_true rfl) dX3_layBrick_24 (fun H locs hw => ?_)
    refine gx_if_ne (pc := 27) (tgt := 37) hx hb hF dX3_layBrick_27 (by decide) (fun hF => ?_) (fun hF => ?_)
    · refine lv_aload_n (pc := 37) hx hb dX3_layBrick_37 rfl (lv_at hl 1 rfl) ?_
      refine lv_iload_n (pc := 38) hx hb dX3_layBrick_38 rfl (lv_at hl 2 rfl) ?_
      obtain ⟨uq_5, huq_5, hF⟩ := Option.bind_eq_some_iff.mp hF
      refine cl_X5_isFree (pc := 39) hx hb hml hown hV hw hk1 huq_5 (gw_519 hV) hl.1 (Nat.le_of_ble_eq_true rfl) (Nat.le_of_ble_eq_true rfl) (Nat.le_of_ble_eq_true rfl) dX3_layBrick_39 (fun H locs hw => ?_)
      refine gx_if_ne (pc := 42) (tgt := 59) hx hb hF dX3_layBrick_42 (by decide) (fun hF => ?_) (fun hF => ?_)
      · refine lv_iload_n (pc := 59) hx hb dX3_layBrick_59 rfl (lv_at hl 3 rfl) ?_
        refine lv_iload (pc := 60) hx hb dX3_layBrick_60 (lv_at hl 4 rfl) ?_
        obtain ⟨uq_6, huq_6, hF⟩ := Option.bind_eq_some_iff.mp hF
        refine cn_X6_brickOf (pc := 62) hx hb hml hown hV hw huq_6 (gw_524 hV) hl.1 (Nat.le_of_ble_eq_true rfl) (Nat.le_of_ble_eq_true rfl) (Nat.le_of_ble_eq_true rfl) dX3_layBrick_62 (fun H locs hw => ?_)
        refine lv_istore (pc := 65) (lv' := [(5, .int uq_6), (0, .ref (G.2.1 53)), (1, .ref (G.2.1 k1)), (2, .int x2), (3, .int x3), (4, .int x4)]) hx hb dX3_layBrick_65 hl (by decide) rfl (fun ls hl => ?_)
        refine lv_aload_n (pc := 67) hx hb dX3_layBrick_67 rfl (lv_at hl 2 rfl) ?_
        refine gg_X5_5 (pc := 68) hx hb hown hV hw hk1 (gw_100 hV) dX3_layBrick_68 ?_
        refine lv_iconst (pc := 71) (v := (-1)) hx hb dX3_layBrick_71 (by decide) ?_
        refine gx_icmp_ne (pc := 72) (tgt := 89) hx hb hF dX3_layBrick_72 (by decide) (fun hF => ?_) (fun hF => ?_)
        · refine lv_aload_n (pc := 89) hx hb dX3_layBrick_89 rfl (lv_at hl 2 rfl) ?_
          refine lv_iload (pc := 90) hx hb dX3_layBrick_90 (lv_at hl 0 rfl) ?_
          refine lv_iload_n (pc := 92) hx hb dX3_layBrick_92 rfl (lv_at hl 3 rfl) ?_
          obtain ⟨uq_7, huq_7, hF⟩ := Option.bind_eq_some_iff.mp hF
          refine cl_X5_holdFor (pc := 93) hx hb hml hown hV hw hk1 huq_7 (gw_528 hV) hl.1 (Nat.le_of_ble_eq_true rfl) (Nat.le_of_ble_eq_true rfl) (Nat.le_of_ble_eq_true rfl) dX3_layBrick_93 (fun H locs hw => ?_)
          refine lv_istore (pc := 96) (lv' := [(6, .int uq_7), (5, .int uq_6), (0, .ref (G.2.1 53)), (1, .ref (G.2.1 k1)), (2, .int x2), (3, .int x3), (4, .int x4)]) hx hb dX3_layBrick_96 hl (by decide) rfl (fun ls hl => ?_)
          refine lv_iload (pc := 98) hx hb dX3_layBrick_98 (lv_at hl 0 rfl) ?_
          refine lv_aload_n (pc := 100) hx hb dX3_layBrick_100 rfl (lv_at hl 3 rfl) ?_
          refine gg_X5_4 (pc := 101) hx hb hown hV hw hk1 (gw_95 hV) dX3_layBrick_101 ?_
          refine gx_icmp_ge (pc := 104) (tgt := 120) hx hb hF dX3_layBrick_104 (by decide) (fun hF => ?_) (fun hF => ?_)
          · refine lv_aload_n (pc := 120) hx hb dX3_layBrick_120 rfl (lv_at hl 3 rfl) ?_
            refine lv_iload_n (pc := 121) hx hb dX3_layBrick_121 rfl (lv_at hl 4 rfl) ?_
            refine lv_iload (pc := 122) hx hb dX3_layBrick_122 (lv_at hl 1 rfl) ?_
            obtain ⟨uq_8, huq_8, hF⟩ := Option.bind_eq_some_iff.mp hF
            refine cl_X5_put (pc := 124) hx hb hml hown hV hw hk1 huq_8 (gw_527 hV) hl.1 (Nat.le_of_ble_eq_true rfl) (Nat.le_of_ble_eq_true rfl) (Nat.le_of_ble_eq_true rfl) dX3_layBrick_124 (fun H locs hw => ?_)
            refine lv_iload (pc := 127) hx hb dX3_layBrick_127 (lv_at hl 0 rfl) ?_
            cases hF
            exact gx_iret hx hb hr hlocks hw dX3_layBrick_129
          refine lv_aload_n (pc := 107) hx hb dX3_layBrick_107 rfl (lv_at hl 2 rfl) ?_
          refine lv_iconst (pc := 108) (v := 5) hx hb dX3_layBrick_108 (by decide) ?_
          refine lv_aload_n (pc := 109) hx hb dX3_layBrick_109 rfl (lv_at hl 3 rfl) ?_
          refine gg_X5_4 (pc := 110) hx hb hown hV hw hk1 (gw_95 hV) dX3_layBrick_110 ?_
          refine lv_iload (pc := 113) hx hb dX3_layBrick_113 (lv_at hl 0 rfl) ?_
          refine lv_isub (pc := 115) hx hb dX3_layBrick_115 ?_
          obtain ⟨uq_9, huq_9, hF⟩ := Option.bind_eq_some_iff.mp hF
          refine cl_X3_refuse (pc := 116) hx hb hml hown hV hw huq_9 (gw_412 hV) hl.1 (Nat.le_of_ble_eq_true rfl) (Nat.le_of_ble_eq_true rfl) (Nat.le_of_ble_eq_true rfl) dX3_layBrick_116 (fun H locs hw => ?_)
          cases hF
          exact gx_iret hx hb hr hlocks hw dX3_layBrick_119
        refine lv_aload_n (pc := 75) hx hb dX3_layBrick_75 rfl (lv_at hl 2 rfl) ?_
        refine lv_iload_n (pc := 76) hx hb dX3_layBrick_76 rfl (lv_at hl 3 rfl) ?_
        refine lv_iload (pc := 77) hx hb dX3_layBrick_77 (lv_at hl 0 rfl) ?_
        obtain ⟨uq_10, huq_10, hF⟩ := Option.bind_eq_some_iff.mp hF
        refine cl_X5_put (pc := 79) hx hb hml hown hV hw hk1 huq_10 (gw_527 hV) hl.1 (Nat.le_of_ble_eq_true rfl) (Nat.le_of_ble_eq_true rfl) (Nat.le_of_ble_eq_true rfl) dX3_layBrick_79 (fun H locs hw => ?_)
        refine lv_aload_n (pc := 82) hx hb dX3_layBrick_82 rfl (lv_at hl 2 rfl) ?_
        refine lv_iload_n (pc := 83) hx hb dX3_layBrick_83 rfl (lv_at hl 3 rfl) ?_
        refine gp_X5_5 (pc := 84) hx hb hown hV hw hk1 (gw_100 hV) dX3_layBrick_84 (fun H locs hw => ?_)
        refine lv_iconst (pc := 87) (v := 0) hx hb dX3_layBrick_87 (by decide) ?_
        cases hF
        exact gx_iret hx hb hr hlocks hw dX3_layBrick_88
      refine lv_aload_n (pc := 45) hx hb dX3_layBrick_45 rfl (lv_at hl 0 rfl) ?_
      refine lv_iconst (pc := 46) (v := 4) hx hb dX3_layBrick_46 (by decide) ?_
      refine lv_aload_n (pc := 47) hx hb dX3_layBrick_47 rfl (lv_at hl 1 rfl) ?_
      refine lv_iload_n (pc := 48) hx hb dX3_layBrick_48 rfl (lv_at hl 2 rfl) ?_
      obtain ⟨uq_11, huq_11, hF⟩ := Option.bind_eq_some_iff.mp hF
      refine cl_X5_brickOn (pc := 49) hx hb hml hown hV hw hk1 huq_11 (gw_520 hV) hl.1 (Nat.le_of_ble_eq_true rfl) (Nat.le_of_ble_eq_true rfl) (Nat.le_of_ble_eq_true rfl) dX3_layBrick_49 (fun H locs hw => ?_)
      obtain ⟨uq_12, huq_12, hF⟩ := Option.bind_eq_some_iff.mp hF
      refine cn_X6_kindOf (pc := 52) hx hb hml hown hV hw huq_12 (gw_521 hV) hl.1 (Nat.le_of_ble_eq_true rfl) (Nat.le_of_ble_eq_true rfl) (Nat.le_of_ble_eq_true rfl) dX3_layBrick_52 (fun H locs hw => ?_)
      obtain ⟨uq_13, huq_13, hF⟩ := Option.bind_eq_some_iff.mp hF
      refine cl_X3_refuse (pc := 55) hx hb hml hown hV hw huq_13 (gw_412 hV) hl.1 (Nat.le_of_ble_eq_true rfl) (Nat.le_of_ble_eq_true rfl) (Nat.le_of_ble_eq_true rfl) dX3_layBrick_55 (fun H locs hw => ?_)
      cases hF
      exact gx_iret hx hb hr hlocks hw dX3_layBrick_58
    refine lv_aload_n (pc := 30) hx hb dX3_layBrick_30 rfl (lv_at hl 0 rfl) ?_
    refine lv_iconst (pc := 31) (v := 3) hx hb dX3_layBrick_31 (by decide) ?_
    refine lv_iload_n (pc := 32) hx hb dX3_layBrick_32 rfl (lv_at hl 3 rfl) ?_
    obtain ⟨uq_14, huq_14, hF⟩ := Option.bind_eq_some_iff.mp hF
    refine cl_X3_refuse (pc := 33) hx hb hml hown hV hw huq_14 (gw_412 hV) hl.1 (Nat.le_of_ble_eq_true rfl) (Nat.le_of_ble_eq_true rfl) (Nat.le_of_ble_eq_true rfl) dX3_layBrick_33 (fun H locs hw => ?_)
    cases hF
    exact gx_iret hx hb hr hlocks hw dX3_layBrick_36
  refine lv_aload_n (pc := 15) hx hb dX3_layBrick_15 rfl (lv_at hl 0 rfl) ?_
  refine lv_iconst (pc := 16) (v := 1) hx hb dX3_layBrick_16 (by decide) ?_
  refine lv_iconst (pc := 17) (v := 0) hx hb dX3_layBrick_17 (by decide) ?_
  obtain ⟨uq_15, huq_15, hF⟩ := Option.bind_eq_some_iff.mp hF
  refine cl_X3_refuse (pc := 18) hx hb hml hown hV hw huq_15 (gw_412 hV) hl.1 (Nat.le_of_ble_eq_true rfl) (Nat.le_of_ble_eq_true rfl) (Nat.le_of_ble_eq_true rfl) dX3_layBrick_18 (fun H locs hw => ?_)
  cases hF
  exact gx_iret hx hb hr hlocks hw dX3_layBrick_21
set_option maxRecDepth 100000 in
theorem cl_X3_layBrick {l : Launch} {G : gx_G} {M : gx_S} {o : Int64} {d : UInt64} {I V : gx_F} {p : Program} {e : Env} {R : Room} {s : State} {m : MethodId} {args : Array Value} {below : List Frame} {meth : Method} {c : Code} {H : Heap} {locs : List Loc} {cells slots : Nat} {Q : State → Prop} {cc : ByteArray} {pc nL index : Nat} {ls : Array Slot} {rest : List Value} {own : String} {k1 : Nat} {x2 : Int32} {x3 : Int32} {x4 : Int32} {out : (Int32 × gx_F × gx_F)} (hx : p.tables.exec = Jvm.exec) (hb : c.code = cc) (hml : c.maxLocals = nL) (hown : s.vm.findClass own = some m.cls) (hV : gx_V G s) (hw : gx_at G (I, V) M o d s.heap H locs) (hk1 : gx_isW k1) (hF : f_X3_layBrick k1 x2 x3 x4 I V = some out) (hlink : (Cond.methodLink own index yX3_layBrick).before args s = true) (hsz : ls.size = nL) (hfr : 4 ≤ R.frames) (hlo : 96 ≤ R.locals) (hrest : (rest.map fun v => v.category).sum ≤ 8) (hdg : decode cc pc = .ok (.invokevirtual index, 3))
    (kk : ∀ (H1 : Heap) (locs1 : List Loc), gx_at G (out.2.1, out.2.2) M o d s.heap H1 locs1 → W p l e R s m args below meth c H1 locs1 cells slots Q (F0 m (pc + 3) ls (.int out.1 :: rest))) (hc : cells ≤ R.cells := by exact Nat.zero_le _) (hs : slots ≤ R.slots := by exact Nat.zero_le _) : W p l e R s m args below meth c H locs cells slots Q (F0 m pc ls (.int x4 :: .int x3 :: .int x2 :: .ref (G.2.1 k1) :: .ref (G.2.1 53) :: rest)) :=
  gx_runi hw (va_runV (C := RX3) (As := [.ref (G.2.1 k1), .int x2, .int x3, .int x4]) (rest := rest) ⟨hx, hb, hml, hown, (fun _ h => nomatch h : ∀ w ∈ ([] : List Cond), w.before args s = true)⟩ (k_X3_layBrick hk1 hF) ⟨gx_callB (n := 4) rfl rfl hlink (gw_54 hV) (gw_510 hV) (by decide +kernel) ⟨hfr, hlo⟩, gw_508 hV, gw_509 hV⟩ (gx_recv (k := 53) (ci := 5) (T := TX3) hV hw (by decide) rfl rfl) rfl rfl hsz rfl (lv_room hrest) hdg ⟨hc, hs⟩) kk
set_option maxHeartbeats 4000000 in
set_option maxRecDepth 100000 in
theorem k_X3_takeBrick {l : Launch} {G : gx_G} {M : gx_S} {o : Int64} {d : UInt64} {I V : gx_F} {k1 : Nat} {x2 : Int32} (hk1 : gx_isW k1) {out : (Int32 × gx_F × gx_F)} (hF : f_X3_takeBrick k1 x2 I V = some out) : gx_K l yX3_takeBrick cX3_takeBrick 5 (some .int) { frames := 5, cells := 0, slots := 0, locals := 117 } [.ref (G.2.1 53), .ref (G.2.1 k1), .int x2] G (I, V) M o d (gx_Qi G out.1 (out.2.1, out.2.2) M o d) 0 0 := by
  refine gx_begin (by decide +kernel) (Nat.le_of_ble_eq_true rfl) ?_
  intro p e s m below meth c hx hb hr hml hown hlocks hV hw ls hl
  have hown : s.vm.findClass RX3 = some m.cls := hown
  have hl : lv_has ls 5 [(0, .ref (G.2.1 53)), (1, .ref (G.2.1 k1)), (2, .int x2)] := hl
  unfold f_X3_takeBrick at hF
  refine lv_iload_n (pc := 0) hx hb dX3_takeBrick_0 rfl (lv_at hl 2 rfl) ?_
  obtain ⟨uq_1, huq_1, hF⟩ := Option.bind_eq_some_iff.mp hF
  refine cn_X6_isPlace (pc := 1) hx hb hml hown hV hw huq_1 (gw_511 hV) hl.1 (Nat.le_of_ble_eq_true rfl) (Nat.le_of_ble_eq_true rfl) (Nat.le_of_ble_eq_true rfl) dX3_takeBrick_1 (fun H locs hw => ?_)
  refine gx_if_ne (pc := 4) (tgt := 14) hx hb hF dX3_takeBrick_4 (by decide) (fun hF => ?_) (fun hF => ?_)
  · refine lv_aload_n (pc := 14) hx hb dX3_takeBrick_14 rfl (lv_at hl 1 rfl) ?_
    refine lv_iload_n (pc := 15) hx hb dX3_takeBrick_15 rfl (lv_at hl 2 rfl) ?_
    obtain ⟨uq_2, huq_2, hF⟩ := Option.bind_eq_some_iff.mp hF
    refine cl_X5_isFree (pc := 16) hx hb hml hown hV hw hk1 huq_2 (gw_519 hV) hl.1 (Nat.le_of_ble_eq_true rfl) (Nat.le_of_ble_eq_true rfl) (Nat.le_of_ble_eq_true rfl) dX3_takeBrick_16 (fun H locs hw => ?_)
    refine gx_if_eq (pc := 19) (tgt := 30) hx hb hF dX3_takeBrick_19 (by decide) (fun hF => ?_) (fun hF => ?_)
    · refine lv_aload_n (pc := 30) hx hb dX3_takeBrick_30 rfl (lv_at hl 0 rfl) ?_
      refine gg_X3_0 (pc := 31) hx hb hown hV hw (gw_190 hV) dX3_takeBrick_31 ?_
      refine lv_aload_n (pc := 34) hx hb dX3_takeBrick_34 rfl (lv_at hl 1 rfl) ?_
      refine lv_iload_n (pc := 35) hx hb dX3_takeBrick_35 rfl (lv_at hl 2 rfl) ?_
      obtain ⟨uq_3, huq_3, hF⟩ := Option.bind_eq_some_iff.mp hF
      refine cl_X0_fallingWithout (pc := 36) hx hb hml hown hV hw hk1 huq_3 (gw_544 hV) hl.1 (Nat.le_of_ble_eq_true rfl) (Nat.le_of_ble_eq_true rfl) (Nat.le_of_ble_eq_true rfl) dX3_takeBrick_36 (fun H locs hw => ?_)
      refine lv_istore_n (pc := 39) (lv' := [(3, .int uq_3.1), (0, .ref (G.2.1 53)), (1, .ref (G.2.1 k1)), (2, .int x2)]) hx hb dX3_takeBrick_39 rfl hl (by decide) rfl (fun ls hl => ?_)
      refine lv_iload_n (pc := 40) hx hb dX3_takeBrick_40 rfl (lv_at hl 0 rfl) ?_
      refine gx_if_le (pc := 41) (tgt := 52) hx hb hF dX3_takeBrick_41 (by decide) (fun hF => ?_) (fun hF => ?_)
      · refine lv_aload_n (pc := 52) hx hb dX3_takeBrick_52 rfl (lv_at hl 2 rfl) ?_
        refine lv_iload_n (pc := 53) hx hb dX3_takeBrick_53 rfl (lv_at hl 3 rfl) ?_
        obtain ⟨uq_4, huq_4, hF⟩ := Option.bind_eq_some_iff.mp hF
        refine cl_X5_brickOn (pc := 54) hx hb hml hown hV hw hk1 huq_4 (gw_520 hV) hl.1 (Nat.le_of_ble_eq_true rfl) (Nat.le_of_ble_eq_true rfl) (Nat.le_of_ble_eq_true rfl) dX3_takeBrick_54 (fun H locs hw => ?_)
        obtain ⟨uq_5, huq_5, hF⟩ := Option.bind_eq_some_iff.mp hF
        refine cn_X6_kindOf (pc := 57) hx hb hml hown hV hw huq_5 (gw_521 hV) hl.1 (Nat.le_of_ble_eq_true rfl) (Nat.le_of_ble_eq_true rfl) (Nat.le_of_ble_eq_true rfl) dX3_takeBrick_57 (fun H locs hw => ?_)
        refine lv_istore (pc := 60) (lv' := [(4, .int uq_5), (3, .int uq_3.1), (0, .ref (G.2.1 53)), (1, .ref (G.2.1 k1)), (2, .int x2)]) hx hb dX3_takeBrick_60 hl (by decide) rfl (fun ls hl => ?_)
        refine lv_aload_n (pc := 62) hx hb dX3_takeBrick_62 rfl (lv_at hl 3 rfl) ?_
        refine lv_iload_n (pc := 63) hx hb dX3_takeBrick_63 rfl (lv_at hl 4 rfl) ?_
        obtain ⟨uq_6, huq_6, hF⟩ := Option.bind_eq_some_iff.mp hF
        refine cl_X5_free (pc := 64) hx hb hml hown hV hw hk1 huq_6 (gw_553 hV) hl.1 (Nat.le_of_ble_eq_true rfl) (Nat.le_of_ble_eq_true rfl) (Nat.le_of_ble_eq_true rfl) dX3_takeBrick_64 (fun H locs hw => ?_)
        refine lv_iload (pc := 67) hx hb dX3_takeBrick_67 (lv_at hl 0 rfl) ?_
        cases hF
        exact gx_iret hx hb hr hlocks hw dX3_takeBrick_69
      refine lv_aload_n (pc := 44) hx hb dX3_takeBrick_44 rfl (lv_at hl 1 rfl) ?_
      refine lv_bipush (pc := 45) (v := 7) hx hb dX3_takeBrick_45 (by decide) ?_
      refine lv_iload_n (pc := 47) hx hb dX3_takeBrick_47 rfl (lv_at hl 0 rfl) ?_
      obtain ⟨uq_7, huq_7, hF⟩ := Option.bind_eq_some_iff.mp hF
      refine cl_X3_refuse (pc := 48) hx hb hml hown hV hw huq_7 (gw_412 hV) hl.1 (Nat.le_of_ble_eq_true rfl) (Nat.le_of_ble_eq_true rfl) (Nat.le_of_ble_eq_true rfl) dX3_takeBrick_48 (fun H locs hw => ?_)
      cases hF
      exact gx_iret hx hb hr hlocks hw dX3_takeBrick_51
    refine lv_aload_n (pc := 22) hx hb dX3_takeBrick_22 rfl (lv_at hl 0 rfl) ?_
    refine lv_bipush (pc := 23) (v := 6) hx hb dX3_takeBrick_23 (by decide) ?_
    refine lv_iload_n (pc := 25) hx hb dX3_takeBrick_25 rfl (lv_at hl 2 rfl) ?_
    obtain ⟨uq_8, huq_8, hF⟩ := Option.bind_eq_some_iff.mp hF
    refine cl_X3_refuse (pc := 26) hx hb hml hown hV hw huq_8 (gw_412 hV) hl.1 (Nat.le_of_ble_eq_true rfl) (Nat.le_of_ble_eq_true rfl) (Nat.le_of_ble_eq_true rfl) dX3_takeBrick_26 (fun H locs hw => ?_)
    cases hF
    exact gx_iret hx hb hr hlocks hw dX3_takeBrick_29
  refine lv_aload_n (pc := 7) hx hb dX3_takeBrick_7 rfl (lv_at hl 0 rfl) ?_
  refine lv_iconst (pc := 8) (v := 1) hx hb dX3_takeBrick_8 (by decide) ?_
  refine lv_iconst (pc := 9) (v := 0) hx hb dX3_takeBrick_9 (by decide) ?_
  obtain ⟨uq_9, huq_9, hF⟩ := Option.bind_eq_some_iff.mp hF
  refine cl_X3_refuse (pc := 10) hx hb hml hown hV hw huq_9 (gw_412 hV) hl.1 (Nat.le_of_ble_eq_true rfl) (Nat.le_of_ble_eq_true rfl) (Nat.le_of_ble_eq_true rfl) dX3_takeBrick_10 (fun H locs hw => ?_)
  cases hF
  exact gx_iret hx hb hr hlocks hw dX3_takeBrick_13
set_option maxRecDepth 100000 in
theorem cl_X3_takeBrick {l : Launch} {G : gx_G} {M : gx_S} {o : Int64} {d : UInt64} {I V : gx_F} {p : Program} {e : Env} {R : Room} {s : State} {m : MethodId} {args : Array Value} {below : List Frame} {meth : Method} {c : Code} {H : Heap} {locs : List Loc} {cells slots : Nat} {Q : State → Prop} {cc : ByteArray} {pc nL index : Nat} {ls : Array Slot} {rest : List Value} {own : String} {k1 : Nat} {x2 : Int32} {out : (Int32 × gx_F × gx_F)} (hx : p.tables.exec = Jvm.exec) (hb : c.code = cc) (hml : c.maxLocals = nL) (hown : s.vm.findClass own = some m.cls) (hV : gx_V G s) (hw : gx_at G (I, V) M o d s.heap H locs) (hk1 : gx_isW k1) (hF : f_X3_takeBrick k1 x2 I V = some out) (hlink : (Cond.methodLink own index yX3_takeBrick).before args s = true) (hsz : ls.size = nL) (hfr : 6 ≤ R.frames) (hlo : 141 ≤ R.locals) (hrest : (rest.map fun v => v.category).sum ≤ 8) (hdg : decode cc pc = .ok (.invokevirtual index, 3))
    (kk : ∀ (H1 : Heap) (locs1 : List Loc), gx_at G (out.2.1, out.2.2) M o d s.heap H1 locs1 → W p l e R s m args below meth c H1 locs1 cells slots Q (F0 m (pc + 3) ls (.int out.1 :: rest))) (hc : cells ≤ R.cells := by exact Nat.zero_le _) (hs : slots ≤ R.slots := by exact Nat.zero_le _) : W p l e R s m args below meth c H locs cells slots Q (F0 m pc ls (.int x2 :: .ref (G.2.1 k1) :: .ref (G.2.1 53) :: rest)) :=
  gx_runi hw (va_runV (C := RX3) (As := [.ref (G.2.1 k1), .int x2]) (rest := rest) ⟨hx, hb, hml, hown, (fun _ h => nomatch h : ∀ w ∈ ([] : List Cond), w.before args s = true)⟩ (k_X3_takeBrick hk1 hF) ⟨gx_callB (n := 2) rfl rfl hlink (gw_54 hV) (gw_543 hV) (by decide +kernel) ⟨hfr, hlo⟩, gw_541 hV, gw_542 hV⟩ (gx_recv (k := 53) (ci := 5) (T := TX3) hV hw (by decide) rfl rfl) rfl rfl hsz rfl (lv_room hrest) hdg ⟨hc, hs⟩) kk
set_option maxHeartbeats 4000000 in
set_option maxRecDepth 100000 in
theorem k_X3_growBricks {l : Launch} {G : gx_G} {M : gx_S} {o : Int64} {d : UInt64} {I V : gx_F} {k1 : Nat} {x2 : Int32} (hk1 : gx_isW k1) {out : (Int32 × gx_F × gx_F)} (hF : f_X3_growBricks k1 x2 I V = some out) : gx_K l yX3_growBricks cX3_growBricks 4 (some .int) { frames := 5, cells := 0, slots := 0, locals := 123 } [.ref (G.2.1 53), .ref (G.2.1 k1), .int x2] G (I, V) M o d (gx_Qi G out.1 (out.2.1, out.2.2) M o d) 0 0 := by
  refine gx_begin (by decide +kernel) (Nat.le_of_ble_eq_true rfl) ?_
  intro p e s m below meth c hx hb hr hml hown hlocks hV hw ls hl
  have hown : s.vm.findClass RX3 = some m.cls := hown
  have hl : lv_has ls 4 [(0, .ref (G.2.1 53)), (1, .ref (G.2.1 k1)), (2, .int x2)] := hl
  unfold f_X3_growBricks at hF
  refine lv_iload_n (pc := 0) hx hb dX3_growBricks_0 rfl (lv_at hl 2 rfl) ?_
  refine lv_iconst (pc := 1) (v := 1) hx hb dX3_growBricks_1 (by decide) ?_
  refine gx_icmp_lt (pc := 2) (tgt := 11) hx hb hF dX3_growBricks_2 (by decide) (fun hF => ?_) (fun hF => ?_)
  · refine lv_aload_n (pc := 11) hx hb dX3_growBricks_11 rfl (lv_at hl 0 rfl) ?_
    refine lv_iconst (pc := 12) (v := 1) hx hb dX3_growBricks_12 (by decide) ?_
    refine lv_iconst (pc := 13) (v := 0) hx hb dX3_growBricks_13 (by decide) ?_
    obtain ⟨uq_1, huq_1, hF⟩ := Option.bind_eq_some_iff.mp hF
    refine cl_X3_refuse (pc := 14) hx hb hml hown hV hw huq_1 (gw_412 hV) hl.1 (Nat.le_of_ble_eq_true rfl) (Nat.le_of_ble_eq_true rfl) (Nat.le_of_ble_eq_true rfl) dX3_growBricks_14 (fun H locs hw => ?_)
    cases hF
    exact gx_iret hx hb hr hlocks hw dX3_growBricks_17
  refine lv_iload_n (pc := 5) hx hb dX3_growBricks_5 rfl (lv_at hl 2 rfl) ?_
  refine lv_bipush (pc := 6) (v := 42) hx hb dX3_growBricks_6 (by decide) ?_
  refine gx_icmp_le (pc := 8) (tgt := 18) hx hb hF dX3_growBricks_8 (by decide) (fun hF => ?_) (fun hF => ?_)
  · refine lv_aload_n (pc := 18) hx hb dX3_growBricks_18 rfl (lv_at hl 0 rfl) ?_
    refine gg_X3_1 (pc := 19) hx hb hown hV hw (gw_191 hV) dX3_growBricks_19 ?_
    refine lv_aload_n (pc := 22) hx hb dX3_growBricks_22 rfl (lv_at hl 1 rfl) ?_
    refine lv_iload_n (pc := 23) hx hb dX3_growBricks_23 rfl (lv_at hl 2 rfl) ?_
    obtain ⟨uq_2, huq_2, hF⟩ := Option.bind_eq_some_iff.mp hF
    refine cl_X1_letGrow (pc := 24) hx hb hml hown hV hw hk1 huq_2 (gw_569 hV) hl.1 (Nat.le_of_ble_eq_true rfl) (Nat.le_of_ble_eq_true rfl) (Nat.le_of_ble_eq_true rfl) dX3_growBricks_24 (fun H locs hw => ?_)
    refine lv_istore_n (pc := 27) (lv' := [(3, .int uq_2.1), (0, .ref (G.2.1 53)), (1, .ref (G.2.1 k1)), (2, .int x2)]) hx hb dX3_growBricks_27 rfl hl (by decide) rfl (fun ls hl => ?_)
    refine lv_iload_n (pc := 28) hx hb dX3_growBricks_28 rfl (lv_at hl 0 rfl) ?_
    refine gx_if_ne (pc := 29) (tgt := 47) hx hb hF dX3_growBricks_29 (by decide) (fun hF => ?_) (fun hF => ?_)
    · refine lv_iload_n (pc := 47) hx hb dX3_growBricks_47 rfl (lv_at hl 0 rfl) ?_
      cases hF
      exact gx_iret hx hb hr hlocks hw dX3_growBricks_48
    refine lv_aload_n (pc := 32) hx hb dX3_growBricks_32 rfl (lv_at hl 1 rfl) ?_
    refine lv_bipush (pc := 33) (v := 8) hx hb dX3_growBricks_33 (by decide) ?_
    refine lv_aload_n (pc := 35) hx hb dX3_growBricks_35 rfl (lv_at hl 1 rfl) ?_
    refine gg_X3_1 (pc := 36) hx hb hown hV hw (gw_191 hV) dX3_growBricks_36 ?_
    refine lv_aload_n (pc := 39) hx hb dX3_growBricks_39 rfl (lv_at hl 2 rfl) ?_
    obtain ⟨uq_3, huq_3, hF⟩ := Option.bind_eq_some_iff.mp hF
    refine cl_X1_stuckPlaces (pc := 40) hx hb hml hown hV hw hk1 huq_3 (gw_570 hV) hl.1 (Nat.le_of_ble_eq_true rfl) (Nat.le_of_ble_eq_true rfl) (Nat.le_of_ble_eq_true rfl) dX3_growBricks_40 (fun H locs hw => ?_)
    obtain ⟨uq_4, huq_4, hF⟩ := Option.bind_eq_some_iff.mp hF
    refine cl_X3_refuse (pc := 43) hx hb hml hown hV hw huq_4 (gw_412 hV) hl.1 (Nat.le_of_ble_eq_true rfl) (Nat.le_of_ble_eq_true rfl) (Nat.le_of_ble_eq_true rfl) dX3_growBricks_43 (fun H locs hw => ?_)
    cases hF
    exact gx_iret hx hb hr hlocks hw dX3_growBricks_46
  refine lv_aload_n (pc := 11) hx hb dX3_growBricks_11 rfl (lv_at hl 0 rfl) ?_
  refine lv_iconst (pc := 12) (v := 1) hx hb dX3_growBricks_12 (by decide) ?_
  refine lv_iconst (pc := 13) (v := 0) hx hb dX3_growBricks_13 (by decide) ?_
  obtain ⟨uq_5, huq_5, hF⟩ := Option.bind_eq_some_iff.mp hF
  refine cl_X3_refuse (pc := 14) hx hb hml hown hV hw huq_5 (gw_412 hV) hl.1 (Nat.le_of_ble_eq_true rfl) (Nat.le_of_ble_eq_true rfl) (Nat.le_of_ble_eq_true rfl) dX3_growBricks_14 (fun H locs hw => ?_)
  cases hF
  exact gx_iret hx hb hr hlocks hw dX3_growBricks_17
set_option maxRecDepth 100000 in
theorem cl_X3_growBricks {l : Launch} {G : gx_G} {M : gx_S} {o : Int64} {d : UInt64} {I V : gx_F} {p : Program} {e : Env} {R : Room} {s : State} {m : MethodId} {args : Array Value} {below : List Frame} {meth : Method} {c : Code} {H : Heap} {locs : List Loc} {cells slots : Nat} {Q : State → Prop} {cc : ByteArray} {pc nL index : Nat} {ls : Array Slot} {rest : List Value} {own : String} {k1 : Nat} {x2 : Int32} {out : (Int32 × gx_F × gx_F)} (hx : p.tables.exec = Jvm.exec) (hb : c.code = cc) (hml : c.maxLocals = nL) (hown : s.vm.findClass own = some m.cls) (hV : gx_V G s) (hw : gx_at G (I, V) M o d s.heap H locs) (hk1 : gx_isW k1) (hF : f_X3_growBricks k1 x2 I V = some out) (hlink : (Cond.methodLink own index yX3_growBricks).before args s = true) (hsz : ls.size = nL) (hfr : 6 ≤ R.frames) (hlo : 146 ≤ R.locals) (hrest : (rest.map fun v => v.category).sum ≤ 8) (hdg : decode cc pc = .ok (.invokevirtual index, 3))
    (kk : ∀ (H1 : Heap) (locs1 : List Loc), gx_at G (out.2.1, out.2.2) M o d s.heap H1 locs1 → W p l e R s m args below meth c H1 locs1 cells slots Q (F0 m (pc + 3) ls (.int out.1 :: rest))) (hc : cells ≤ R.cells := by exact Nat.zero_le _) (hs : slots ≤ R.slots := by exact Nat.zero_le _) : W p l e R s m args below meth c H locs cells slots Q (F0 m pc ls (.int x2 :: .ref (G.2.1 k1) :: .ref (G.2.1 53) :: rest)) :=
  gx_runi hw (va_runV (C := RX3) (As := [.ref (G.2.1 k1), .int x2]) (rest := rest) ⟨hx, hb, hml, hown, (fun _ h => nomatch h : ∀ w ∈ ([] : List Cond), w.before args s = true)⟩ (k_X3_growBricks hk1 hF) ⟨gx_callB (n := 2) rfl rfl hlink (gw_54 hV) (gw_568 hV) (by decide +kernel) ⟨hfr, hlo⟩, gw_566 hV, gw_567 hV⟩ (gx_recv (k := 53) (ci := 5) (T := TX3) hV hw (by decide) rfl rfl) rfl rfl hsz rfl (lv_room hrest) hdg ⟨hc, hs⟩) kk
set_option maxHeartbeats 4000000 in
set_option maxRecDepth 100000 in
theorem k_X3_setStrength {l : Launch} {G : gx_G} {M : gx_S} {o : Int64} {d : UInt64} {I V : gx_F} {k1 : Nat} {x2 : Int32} {x3 : Int32} (hk1 : gx_isW k1) {out : (Int32 × gx_F × gx_F)} (hF : f_X3_setStrength k1 x2 x3 I V = some out) : gx_K l yX3_setStrength cX3_setStrength 5 (some .int) { frames := 1, cells := 0, slots := 0, locals := 22 } [.ref (G.2.1 53), .ref (G.2.1 k1), .int x2, .int x3] G (I, V) M o d (gx_Qi G out.1 (out.2.1, out.2.2) M o d) 0 0 := by
  refine gx_begin (by decide +kernel) (Nat.le_of_ble_eq_true rfl) ?_
  intro p e s m below meth c hx hb hr hml hown hlocks hV hw ls hl
  have hown : s.vm.findClass RX3 = some m.cls := hown
  have hl : lv_has ls 5 [(0, .ref (G.2.1 53)), (1, .ref (G.2.1 k1)), (2, .int x2), (3, .int x3)] := hl
  unfold f_X3_setStrength at hF
  refine lv_iload_n (pc := 0) hx hb dX3_setStrength_0 rfl (lv_at hl 2 rfl) ?_
  refine lv_iconst (pc := 1) (v := 1) hx hb dX3_setStrength_1 (by decide) ?_
  refine gx_icmp_lt (pc := 2) (tgt := 20) hx hb hF dX3_setStrength_2 (by decide) (fun hF => ?_) (fun hF => ?_)
  · refine lv_aload_n (pc := 20) hx hb dX3_setStrength_20 rfl (lv_at hl 0 rfl) ?_
    refine lv_iconst (pc := 21) (v := 1) hx hb dX3_setStrength_21 (by decide) ?_
    refine lv_iconst (pc := 22) (v := 0) hx hb dX3_setStrength_22 (by decide) ?_
    obtain ⟨uq_1, huq_1, hF⟩ := Option.bind_eq_some_iff.mp hF
    refine cl_X3_refuse (pc := 23) hx hb hml hown hV hw huq_1 (gw_412 hV) hl.1 (Nat.le_of_ble_eq_true rfl) (Nat.le_of_ble_eq_true rfl) (Nat.le_of_ble_eq_true rfl) dX3_setStrength_23 (fun H locs hw => ?_)
    cases hF
    exact gx_iret hx hb hr hlocks hw dX3_setStrength_26
  refine lv_iload_n (pc := 5) hx hb dX3_setStrength_5 rfl (lv_at hl 2 rfl) ?_
  refine lv_bipush (pc := 6) (v := 6) hx hb dX3_setStrength_6 (by decide) ?_
  refine gx_icmp_gt (pc := 8) (tgt := 20) hx hb hF dX3_setStrength_8 (by decide) (fun hF => ?_) (fun hF => ?_)
  · refine lv_aload_n (pc := 20) hx hb dX3_setStrength_20 rfl (lv_at hl 0 rfl) ?_
    refine lv_iconst (pc := 21) (v := 1) hx hb dX3_setStrength_21 (by decide) ?_
    refine lv_iconst (pc := 22) (v := 0) hx hb dX3_setStrength_22 (by decide) ?_
    obtain ⟨uq_2, huq_2, hF⟩ := Option.bind_eq_some_iff.mp hF
    refine cl_X3_refuse (pc := 23) hx hb hml hown hV hw huq_2 (gw_412 hV) hl.1 (Nat.le_of_ble_eq_true rfl) (Nat.le_of_ble_eq_true rfl) (Nat.le_of_ble_eq_true rfl) dX3_setStrength_23 (fun H locs hw => ?_)
    cases hF
    exact gx_iret hx hb hr hlocks hw dX3_setStrength_26
  refine lv_iload_n (pc := 11) hx hb dX3_setStrength_11 rfl (lv_at hl 3 rfl) ?_
  refine gx_if_lt (pc := 12) (tgt := 20) hx hb hF dX3_setStrength_12 (by decide) (fun hF => ?_) (fun hF => ?_)
  · refine lv_aload_n (pc := 20) hx hb dX3_setStrength_20 rfl (lv_at hl 0 rfl) ?_
    refine lv_iconst (pc := 21) (v := 1) hx hb dX3_setStrength_21 (by decide) ?_
    refine lv_iconst (pc := 22) (v := 0) hx hb dX3_setStrength_22 (by decide) ?_
    obtain ⟨uq_3, huq_3, hF⟩ := Option.bind_eq_some_iff.mp hF
    refine cl_X3_refuse (pc := 23) hx hb hml hown hV hw huq_3 (gw_412 hV) hl.1 (Nat.le_of_ble_eq_true rfl) (Nat.le_of_ble_eq_true rfl) (Nat.le_of_ble_eq_true rfl) dX3_setStrength_23 (fun H locs hw => ?_)
    cases hF
    exact gx_iret hx hb hr hlocks hw dX3_setStrength_26
  refine lv_iload_n (pc := 15) hx hb dX3_setStrength_15 rfl (lv_at hl 3 rfl) ?_
  refine lv_iconst (pc := 16) (v := 3) hx hb dX3_setStrength_16 (by decide) ?_
  refine gx_icmp_le (pc := 17) (tgt := 27) hx hb hF dX3_setStrength_17 (by decide) (fun hF => ?_) (fun hF => ?_)
  · refine lv_aload_n (pc := 27) hx hb dX3_setStrength_27 rfl (lv_at hl 1 rfl) ?_
    refine gg_X5_1 (pc := 28) hx hb hown hV hw hk1 (gw_87 hV) dX3_setStrength_28 ?_
    refine lv_iload_n (pc := 31) hx hb dX3_setStrength_31 rfl (lv_at hl 2 rfl) ?_
    refine ga_w2_ld (pc := 32) hx hb hV hw hk1 hF dX3_setStrength_32 (fun _ hF => ?_)
    refine lv_istore (pc := 33) (lv' := [(4, .int (V (k1 + 2) x2.toNatClampNeg)), (0, .ref (G.2.1 53)), (1, .ref (G.2.1 k1)), (2, .int x2), (3, .int x3)]) hx hb dX3_setStrength_33 hl (by decide) rfl (fun ls hl => ?_)
    refine lv_iload (pc := 35) hx hb dX3_setStrength_35 (lv_at hl 0 rfl) ?_
    refine lv_iload_n (pc := 37) hx hb dX3_setStrength_37 rfl (lv_at hl 4 rfl) ?_
    refine gx_icmp_ne (pc := 38) (tgt := 49) hx hb hF dX3_setStrength_38 (by decide) (fun hF => ?_) (fun hF => ?_)
    · refine lv_aload_n (pc := 49) hx hb dX3_setStrength_49 rfl (lv_at hl 2 rfl) ?_
      refine gg_X5_1 (pc := 50) hx hb hown hV hw hk1 (gw_87 hV) dX3_setStrength_50 ?_
      refine lv_iload_n (pc := 53) hx hb dX3_setStrength_53 rfl (lv_at hl 3 rfl) ?_
      refine lv_iload_n (pc := 54) hx hb dX3_setStrength_54 rfl (lv_at hl 4 rfl) ?_
      refine ga_w2_st (pc := 55) hx hb hV hw hk1 hF dX3_setStrength_55 (fun H locs hw hF => ?_)
      refine lv_iload (pc := 56) hx hb dX3_setStrength_56 (lv_at hl 0 rfl) ?_
      cases hF
      exact gx_iret hx hb hr hlocks hw dX3_setStrength_58
    refine lv_aload_n (pc := 41) hx hb dX3_setStrength_41 rfl (lv_at hl 1 rfl) ?_
    refine lv_bipush (pc := 42) (v := 9) hx hb dX3_setStrength_42 (by decide) ?_
    refine lv_iconst (pc := 44) (v := 0) hx hb dX3_setStrength_44 (by decide) ?_
    obtain ⟨uq_4, huq_4, hF⟩ := Option.bind_eq_some_iff.mp hF
    refine cl_X3_refuse (pc := 45) hx hb hml hown hV hw huq_4 (gw_412 hV) hl.1 (Nat.le_of_ble_eq_true rfl) (Nat.le_of_ble_eq_true rfl) (Nat.le_of_ble_eq_true rfl) dX3_setStrength_45 (fun H locs hw => ?_)
    cases hF
    exact gx_iret hx hb hr hlocks hw dX3_setStrength_48
  refine lv_aload_n (pc := 20) hx hb dX3_setStrength_20 rfl (lv_at hl 0 rfl) ?_
  refine lv_iconst (pc := 21) (v := 1) hx hb dX3_setStrength_21 (by decide) ?_
  refine lv_iconst (pc := 22) (v := 0) hx hb dX3_setStrength_22 (by decide) ?_
  obtain ⟨uq_5, huq_5, hF⟩ := Option.bind_eq_some_iff.mp hF
  refine cl_X3_refuse (pc := 23) hx hb hml hown hV hw huq_5 (gw_412 hV) hl.1 (Nat.le_of_ble_eq_true rfl) (Nat.le_of_ble_eq_true rfl) (Nat.le_of_ble_eq_true rfl) dX3_setStrength_23 (fun H locs hw => ?_)
  cases hF
  exact gx_iret hx hb hr hlocks hw dX3_setStrength_26
set_option maxRecDepth 100000 in
theorem cl_X3_setStrength {l : Launch} {G : gx_G} {M : gx_S} {o : Int64} {d : UInt64} {I V : gx_F} {p : Program} {e : Env} {R : Room} {s : State} {m : MethodId} {args : Array Value} {below : List Frame} {meth : Method} {c : Code} {H : Heap} {locs : List Loc} {cells slots : Nat} {Q : State → Prop} {cc : ByteArray} {pc nL index : Nat} {ls : Array Slot} {rest : List Value} {own : String} {k1 : Nat} {x2 : Int32} {x3 : Int32} {out : (Int32 × gx_F × gx_F)} (hx : p.tables.exec = Jvm.exec) (hb : c.code = cc) (hml : c.maxLocals = nL) (hown : s.vm.findClass own = some m.cls) (hV : gx_V G s) (hw : gx_at G (I, V) M o d s.heap H locs) (hk1 : gx_isW k1) (hF : f_X3_setStrength k1 x2 x3 I V = some out) (hlink : (Cond.methodLink own index yX3_setStrength).before args s = true) (hsz : ls.size = nL) (hfr : 2 ≤ R.frames) (hlo : 46 ≤ R.locals) (hrest : (rest.map fun v => v.category).sum ≤ 8) (hdg : decode cc pc = .ok (.invokevirtual index, 3))
    (kk : ∀ (H1 : Heap) (locs1 : List Loc), gx_at G (out.2.1, out.2.2) M o d s.heap H1 locs1 → W p l e R s m args below meth c H1 locs1 cells slots Q (F0 m (pc + 3) ls (.int out.1 :: rest))) (hc : cells ≤ R.cells := by exact Nat.zero_le _) (hs : slots ≤ R.slots := by exact Nat.zero_le _) : W p l e R s m args below meth c H locs cells slots Q (F0 m pc ls (.int x3 :: .int x2 :: .ref (G.2.1 k1) :: .ref (G.2.1 53) :: rest)) :=
  gx_runi hw (va_runV (C := RX3) (As := [.ref (G.2.1 k1), .int x2, .int x3]) (rest := rest) ⟨hx, hb, hml, hown, (fun _ h => nomatch h : ∀ w ∈ ([] : List Cond), w.before args s = true)⟩ (k_X3_setStrength hk1 hF) ⟨gx_callB (n := 3) rfl rfl hlink (gw_54 hV) (gw_582 hV) (by decide +kernel) ⟨hfr, hlo⟩, gw_580 hV, gw_581 hV⟩ (gx_recv (k := 53) (ci := 5) (T := TX3) hV hw (by decide) rfl rfl) rfl rfl hsz rfl (lv_room hrest) hdg ⟨hc, hs⟩) kk
set_option maxHeartbeats 4000000 in
set_option maxRecDepth 100000 in
theorem k_X3_setNeed {l : Launch} {G : gx_G} {M : gx_S} {o : Int64} {d : UInt64} {I V : gx_F} {k1 : Nat} {x2 : Int32} (hk1 : gx_isW k1) {out : (Int32 × gx_F × gx_F)} (hF : f_X3_setNeed k1 x2 I V = some out) : gx_K l yX3_setNeed cX3_setNeed 4 (some .int) { frames := 1, cells := 0, slots := 0, locals := 22 } [.ref (G.2.1 53), .ref (G.2.1 k1), .int x2] G (I, V) M o d (gx_Qi G out.1 (out.2.1, out.2.2) M o d) 0 0 := by
  refine gx_begin (by decide +kernel) (Nat.le_of_ble_eq_true rfl) ?_
  intro p e s m below meth c hx hb hr hml hown hlocks hV hw ls hl
  have hown : s.vm.findClass RX3 = some m.cls := hown
  have hl : lv_has ls 4 [(0, .ref (G.2.1 53)), (1, .ref (G.2.1 k1)), (2, .int x2)] := hl
  unfold f_X3_setNeed at hF
  refine lv_iload_n (pc := 0) hx hb dX3_setNeed_0 rfl (lv_at hl 2 rfl) ?_
  refine lv_iconst (pc := 1) (v := 1) hx hb dX3_setNeed_1 (by decide) ?_
  refine gx_icmp_lt (pc := 2) (tgt := 11) hx hb hF dX3_setNeed_2 (by decide) (fun hF => ?_) (fun hF => ?_)
  · refine lv_aload_n (pc := 11) hx hb dX3_setNeed_11 rfl (lv_at hl 0 rfl) ?_
    refine lv_iconst (pc := 12) (v := 1) hx hb dX3_setNeed_12 (by decide) ?_
    refine lv_iconst (pc := 13) (v := 0) hx hb dX3_setNeed_13 (by decide) ?_
    obtain ⟨uq_1, huq_1, hF⟩ := Option.bind_eq_some_iff.mp hF
    refine cl_X3_refuse (pc := 14) hx hb hml hown hV hw huq_1 (gw_412 hV) hl.1 (Nat.le_of_ble_eq_true rfl) (Nat.le_of_ble_eq_true rfl) (Nat.le_of_ble_eq_true rfl) dX3_setNeed_14 (fun H locs hw => ?_)
    cases hF
    exact gx_iret hx hb hr hlocks hw dX3_setNeed_17
  refine lv_iload_n (pc := 5) hx hb dX3_setNeed_5 rfl (lv_at hl 2 rfl) ?_
  refine lv_bipush (pc := 6) (v := 6) hx hb dX3_setNeed_6 (by decide) ?_
  refine gx_icmp_le (pc := 8) (tgt := 18) hx hb hF dX3_setNeed_8 (by decide) (fun hF => ?_) (fun hF => ?_)
  · refine lv_aload_n (pc := 18) hx hb dX3_setNeed_18 rfl (lv_at hl 1 rfl) ?_
    refine gg_X5_4 (pc := 19) hx hb hown hV hw hk1 (gw_95 hV) dX3_setNeed_19 ?_
    refine lv_istore_n (pc := 22) (lv' := [(3, .int (I k1 4)), (0, .ref (G.2.1 53)), (1, .ref (G.2.1 k1)), (2, .int x2)]) hx hb dX3_setNeed_22 rfl hl (by decide) rfl (fun ls hl => ?_)
    refine lv_iload_n (pc := 23) hx hb dX3_setNeed_23 rfl (lv_at hl 0 rfl) ?_
    refine lv_iload_n (pc := 24) hx hb dX3_setNeed_24 rfl (lv_at hl 3 rfl) ?_
    refine gx_icmp_ne (pc := 25) (tgt := 36) hx hb hF dX3_setNeed_25 (by decide) (fun hF => ?_) (fun hF => ?_)
    · refine lv_aload_n (pc := 36) hx hb dX3_setNeed_36 rfl (lv_at hl 2 rfl) ?_
      refine lv_iload_n (pc := 37) hx hb dX3_setNeed_37 rfl (lv_at hl 3 rfl) ?_
      refine gp_X5_4 (pc := 38) hx hb hown hV hw hk1 (gw_95 hV) dX3_setNeed_38 (fun H locs hw => ?_)
      refine lv_iload_n (pc := 41) hx hb dX3_setNeed_41 rfl (lv_at hl 0 rfl) ?_
      cases hF
      exact gx_iret hx hb hr hlocks hw dX3_setNeed_42
    refine lv_aload_n (pc := 28) hx hb dX3_setNeed_28 rfl (lv_at hl 1 rfl) ?_
    refine lv_bipush (pc := 29) (v := 9) hx hb dX3_setNeed_29 (by decide) ?_
    refine lv_iconst (pc := 31) (v := 0) hx hb dX3_setNeed_31 (by decide) ?_
    obtain ⟨uq_2, huq_2, hF⟩ := Option.bind_eq_some_iff.mp hF
    refine cl_X3_refuse (pc := 32) hx hb hml hown hV hw huq_2 (gw_412 hV) hl.1 (Nat.le_of_ble_eq_true rfl) (Nat.le_of_ble_eq_true rfl) (Nat.le_of_ble_eq_true rfl) dX3_setNeed_32 (fun H locs hw => ?_)
    cases hF
    exact gx_iret hx hb hr hlocks hw dX3_setNeed_35
  refine lv_aload_n (pc := 11) hx hb dX3_setNeed_11 rfl (lv_at hl 0 rfl) ?_
  refine lv_iconst (pc := 12) (v := 1) hx hb dX3_setNeed_12 (by decide) ?_
  refine lv_iconst (pc := 13) (v := 0) hx hb dX3_setNeed_13 (by decide) ?_
  obtain ⟨uq_3, huq_3, hF⟩ := Option.bind_eq_some_iff.mp hF
  refine cl_X3_refuse (pc := 14) hx hb hml hown hV hw huq_3 (gw_412 hV) hl.1 (Nat.le_of_ble_eq_true rfl) (Nat.le_of_ble_eq_true rfl) (Nat.le_of_ble_eq_true rfl) dX3_setNeed_14 (fun H locs hw => ?_)
  cases hF
  exact gx_iret hx hb hr hlocks hw dX3_setNeed_17
set_option maxRecDepth 100000 in
theorem cl_X3_setNeed {l : Launch} {G : gx_G} {M : gx_S} {o : Int64} {d : UInt64} {I V : gx_F} {p : Program} {e : Env} {R : Room} {s : State} {m : MethodId} {args : Array Value} {below : List Frame} {meth : Method} {c : Code} {H : Heap} {locs : List Loc} {cells slots : Nat} {Q : State → Prop} {cc : ByteArray} {pc nL index : Nat} {ls : Array Slot} {rest : List Value} {own : String} {k1 : Nat} {x2 : Int32} {out : (Int32 × gx_F × gx_F)} (hx : p.tables.exec = Jvm.exec) (hb : c.code = cc) (hml : c.maxLocals = nL) (hown : s.vm.findClass own = some m.cls) (hV : gx_V G s) (hw : gx_at G (I, V) M o d s.heap H locs) (hk1 : gx_isW k1) (hF : f_X3_setNeed k1 x2 I V = some out) (hlink : (Cond.methodLink own index yX3_setNeed).before args s = true) (hsz : ls.size = nL) (hfr : 2 ≤ R.frames) (hlo : 45 ≤ R.locals) (hrest : (rest.map fun v => v.category).sum ≤ 8) (hdg : decode cc pc = .ok (.invokevirtual index, 3))
    (kk : ∀ (H1 : Heap) (locs1 : List Loc), gx_at G (out.2.1, out.2.2) M o d s.heap H1 locs1 → W p l e R s m args below meth c H1 locs1 cells slots Q (F0 m (pc + 3) ls (.int out.1 :: rest))) (hc : cells ≤ R.cells := by exact Nat.zero_le _) (hs : slots ≤ R.slots := by exact Nat.zero_le _) : W p l e R s m args below meth c H locs cells slots Q (F0 m pc ls (.int x2 :: .ref (G.2.1 k1) :: .ref (G.2.1 53) :: rest)) :=
  gx_runi hw (va_runV (C := RX3) (As := [.ref (G.2.1 k1), .int x2]) (rest := rest) ⟨hx, hb, hml, hown, (fun _ h => nomatch h : ∀ w ∈ ([] : List Cond), w.before args s = true)⟩ (k_X3_setNeed hk1 hF) ⟨gx_callB (n := 2) rfl rfl hlink (gw_54 hV) (gw_594 hV) (by decide +kernel) ⟨hfr, hlo⟩, gw_592 hV, gw_593 hV⟩ (gx_recv (k := 53) (ci := 5) (T := TX3) hV hw (by decide) rfl rfl) rfl rfl hsz rfl (lv_room hrest) hdg ⟨hc, hs⟩) kk
