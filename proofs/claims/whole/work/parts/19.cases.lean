/-! THE LAW'S CASES (gen6.py): from the label to the step of the loop; where a comparison fails the pure function answers some 0 -/
theorem gx_sld {α : Type} {p : Program} {l : Launch} {e : Env} {R : Room} {s : State} {m : MethodId} {args : Array Value} {below : List Frame} {meth : Method} {c : Code} {H : Heap} {locs : List Loc} {cells slots : Nat} {Q : State → Prop} {cc : ByteArray} {pc : Nat} {ls : Array Slot} {rest : List Value} {G : gx_G} {C M : gx_S} {o : Int64} {d : UInt64} {X : Option α} {out : α} (hx : p.tables.exec = Jvm.exec) (hb : c.code = cc) {b L : Nat} {xs : Nat → Int32} (hX : va_X b L xs s s.heap) (hbl : b < s.heap.size) (hbA : ¬ gx_A G b) (hw : gx_at G C M o d s.heap H locs) {i : Int32} (hF : gx_ck (gx_in i L) X = some out) (hdg : decode cc pc = .ok (.iaload, 1))
    (kk : gx_in i L = true → X = some out → W p l e R s m args below meth c H locs cells slots Q (F0 m (pc + 1) ls (.int (xs i.toNatClampNeg) :: rest))) : W p l e R s m args below meth c H locs cells slots Q (F0 m pc ls (.int i :: .ref b :: rest)) :=
  va_sld hx hb hX hbl hbA hw.2.1 (gx_in_vp (gx_ck_of hF).1) hdg (kk (gx_ck_of hF).1 (gx_ck_of hF).2)
theorem gx_lald {p : Program} {l : Launch} {e : Env} {R : Room} {s : State} {m : MethodId} {args : Array Value} {below : List Frame} {meth : Method} {c : Code} {H : Heap} {locs : List Loc} {cells slots : Nat} {Q : State → Prop} {cc : ByteArray} {pc : Nat} {ls : Array Slot} {rest : List Value} {G : gx_G} {C M : gx_S} {o : Int64} {d : UInt64} (hx : p.tables.exec = Jvm.exec) (hb : c.code = cc) (hV : gx_V G s) (hw : gx_at G C M o d s.heap H locs) (hdg : decode cc pc = .ok (.laload, 1))
    (kk : W p l e R s m args below meth c H locs cells slots Q (F0 m (pc + 1) ls (.long o :: rest))) : W p l e R s m args below meth c H locs cells slots Q (F0 m pc ls (.int 0 :: .ref (G.2.1 68) :: rest)) :=
  va_lald (n := 1) (f := fun _ => o) hx hb hV.2.1 hw.1 68 4 ((gx_ws_get (by decide)).trans rfl) rfl (gx_in_vp (by decide)) hdg kk
theorem gx_dald {p : Program} {l : Launch} {e : Env} {R : Room} {s : State} {m : MethodId} {args : Array Value} {below : List Frame} {meth : Method} {c : Code} {H : Heap} {locs : List Loc} {cells slots : Nat} {Q : State → Prop} {cc : ByteArray} {pc : Nat} {ls : Array Slot} {rest : List Value} {G : gx_G} {C M : gx_S} {o : Int64} {d : UInt64} (hx : p.tables.exec = Jvm.exec) (hb : c.code = cc) (hV : gx_V G s) (hw : gx_at G C M o d s.heap H locs) (hdg : decode cc pc = .ok (.daload, 1))
    (kk : W p l e R s m args below meth c H locs cells slots Q (F0 m (pc + 1) ls (.double d :: rest))) : W p l e R s m args below meth c H locs cells slots Q (F0 m pc ls (.int 0 :: .ref (G.2.1 69) :: rest)) :=
  va_dald (n := 1) (f := fun _ => d) hx hb hV.2.1 hw.1 69 5 ((gx_ws_get (by decide)).trans rfl) rfl (gx_in_vp (by decide)) hdg kk
noncomputable def f_law_c0 (xs : Nat → Int32) (L : Nat) (v : Int32) (K : gx_F → gx_F → gx_F → gx_F → Int64 → UInt64 → Option Int32) (I V J U : gx_F) (o : Int64) (d : UInt64) : Option Int32 := (gx_ck (gx_in (v + 1) L) (gx_ck (gx_in (v + 2) L) (gx_ck (gx_in (v + 3) L) (gx_ck (gx_in (v + 4) L) (Option.bind (f_L_kind (xs (v + 1).toNatClampNeg) (xs (v + 2).toNatClampNeg) (xs (v + 3).toNatClampNeg) (xs (v + 4).toNatClampNeg) I V o) fun uq_1 => (gx_ck (gx_in (v + 1) L) (gx_ck (gx_in (v + 2) L) (gx_ck (gx_in (v + 3) L) (gx_ck (gx_in (v + 4) L) (Option.bind (f_X7_kind (xs (v + 1).toNatClampNeg) (xs (v + 2).toNatClampNeg) (xs (v + 3).toNatClampNeg) (xs (v + 4).toNatClampNeg) J U) fun uq_2 => (Option.bind (f_X7_thrown uq_2.2.1 uq_2.2.2) fun uq_3 => (if uq_3 = uq_1.1 then (if uq_1.1 = 0 then (if (lg_cmp uq_1.2.2.2 uq_2.1.toInt64) = 0 then (K uq_1.2.1 uq_1.2.2.1 uq_2.2.1 uq_2.2.2 uq_1.2.2.2 d) else (some 0)) else (K uq_1.2.1 uq_1.2.2.1 uq_2.2.1 uq_2.2.2 uq_1.2.2.2 d)) else (some 0)))))))))))))
set_option maxHeartbeats 4000000 in
set_option maxRecDepth 100000 in
theorem w_law_c0 {p : Program} {l : Launch} {e : Env} {s : State} {m : MethodId} {A9 : Array Value} {below : List Frame} {meth : Method} {c : Code} {H : Heap} {locs : List Loc} {cells slots : Nat} {Q : State → Prop} {ls : Array Slot} {G : gx_G} {I V J U : gx_F} {o : Int64} {d : UInt64} {b L : Nat} {xs : Nat → Int32} {v : Int32} {K : gx_F → gx_F → gx_F → gx_F → Int64 → UInt64 → Option Int32} (hl9 : l.stackTraces = false) (hx : p.tables.exec = Jvm.exec) (hb : c.code = cL_law) (hml : c.maxLocals = 9) (hown : s.vm.findClass RL = some m.cls) (hV : gx_V G s) (hZ : gx_Z G s s.heap) (hX : va_X b L xs s s.heap) (hbl : b < s.heap.size) (hbA : ¬ gx_A G b) (hc1 : cells + 1 ≤ room_1.cells) (hs1 : slots + 6 ≤ room_1.slots) (hl : lv_has ls 9 [(0, .ref b), (1, .ref (G.2.1 44)), (2, .ref (G.2.1 58)), (3, .ref (G.2.1 68)), (4, .ref (G.2.1 69)), (5, .int v)]) (hw : gx_at G (I, V) (J, U) o d s.heap H locs) (hF : f_law_c0 xs L v K I V J U o d = some 1)
    (hK : ∀ (I V J U : gx_F) (o : Int64) (d : UInt64) (H : Heap) (locs : List Loc) (ls : Array Slot), lv_has ls 9 [(0, .ref b), (1, .ref (G.2.1 44)), (2, .ref (G.2.1 58)), (3, .ref (G.2.1 68)), (4, .ref (G.2.1 69)), (5, .int v)] → gx_at G (I, V) (J, U) o d s.heap H locs → K I V J U o d = some 1 → W p l e room_1 s m A9 below meth c H locs (cells + 1) (slots + 6) Q (F0 m 2154 ls [])) : W p l e room_1 s m A9 below meth c H locs cells slots Q (F0 m 208 ls []) := by
  have hc0 : cells ≤ room_1.cells := Nat.le_trans (Nat.le_add_right _ _) hc1
  have hs0 : slots ≤ room_1.slots := Nat.le_trans (Nat.le_add_right _ _) hs1
  unfold f_law_c0 at hF
  refine lv_aload_n (pc := 208) hx hb dL_law_208 rfl (lv_at hl 1 rfl) ?_
  refine lv_aload_n (pc := 209) hx hb dL_law_209 rfl (lv_at hl 0 rfl) ?_
  refine lv_iload (pc := 210) hx hb dL_law_210 (lv_at hl 5 rfl) ?_
  refine lv_iconst (pc := 212) (v := 1) hx hb dL_law_212 (by decide) ?_
  refine lv_iadd (pc := 213) hx hb dL_law_213 ?_
  refine gx_sld (pc := 214) hx hb hX hbl hbA hw hF dL_law_214 (fun _ hF => ?_)
  refine lv_aload_n (pc := 215) hx hb dL_law_215 rfl (lv_at hl 0 rfl) ?_
  refine lv_iload (pc := 216) hx hb dL_law_216 (lv_at hl 5 rfl) ?_
  refine lv_iconst (pc := 218) (v := 2) hx hb dL_law_218 (by decide) ?_
  refine lv_iadd (pc := 219) hx hb dL_law_219 ?_
  refine gx_sld (pc := 220) hx hb hX hbl hbA hw hF dL_law_220 (fun _ hF => ?_)
  refine lv_aload_n (pc := 221) hx hb dL_law_221 rfl (lv_at hl 0 rfl) ?_
  refine lv_iload (pc := 222) hx hb dL_law_222 (lv_at hl 5 rfl) ?_
  refine lv_iconst (pc := 224) (v := 3) hx hb dL_law_224 (by decide) ?_
  refine lv_iadd (pc := 225) hx hb dL_law_225 ?_
  refine gx_sld (pc := 226) hx hb hX hbl hbA hw hF dL_law_226 (fun _ hF => ?_)
  refine lv_aload_n (pc := 227) hx hb dL_law_227 rfl (lv_at hl 0 rfl) ?_
  refine lv_iload (pc := 228) hx hb dL_law_228 (lv_at hl 5 rfl) ?_
  refine lv_iconst (pc := 230) (v := 4) hx hb dL_law_230 (by decide) ?_
  refine lv_iadd (pc := 231) hx hb dL_law_231 ?_
  refine gx_sld (pc := 232) hx hb hX hbl hbA hw hF dL_law_232 (fun _ hF => ?_)
  refine lv_aload_n (pc := 233) hx hb dL_law_233 rfl (lv_at hl 3 rfl) ?_
  obtain ⟨uq_1, huq_1, hF⟩ := Option.bind_eq_some_iff.mp hF
  refine cl_L_kind (pc := 234) hl9 hx hb hml hown hV hZ hw huq_1 (gw_397 hV) hl.1 (Nat.le_of_ble_eq_true rfl) (Nat.le_of_ble_eq_true rfl) (Nat.le_of_ble_eq_true rfl) hc1 hs1 dL_law_234 (fun H locs hw => ?_)
  refine lv_istore (pc := 237) (lv' := [(6, .int uq_1.1), (0, .ref b), (1, .ref (G.2.1 44)), (2, .ref (G.2.1 58)), (3, .ref (G.2.1 68)), (4, .ref (G.2.1 69)), (5, .int v)]) hx hb dL_law_237 hl (by decide) rfl (fun ls hl => ?_)
  refine lv_aload_n (pc := 239) hx hb dL_law_239 rfl (lv_at hl 3 rfl) ?_
  refine lv_aload_n (pc := 240) hx hb dL_law_240 rfl (lv_at hl 1 rfl) ?_
  refine lv_iload (pc := 241) hx hb dL_law_241 (lv_at hl 6 rfl) ?_
  refine lv_iconst (pc := 243) (v := 1) hx hb dL_law_243 (by decide) ?_
  refine lv_iadd (pc := 244) hx hb dL_law_244 ?_
  refine gx_sld (pc := 245) hx hb hX hbl hbA hw hF dL_law_245 (fun _ hF => ?_)
  refine lv_aload_n (pc := 246) hx hb dL_law_246 rfl (lv_at hl 1 rfl) ?_
  refine lv_iload (pc := 247) hx hb dL_law_247 (lv_at hl 6 rfl) ?_
  refine lv_iconst (pc := 249) (v := 2) hx hb dL_law_249 (by decide) ?_
  refine lv_iadd (pc := 250) hx hb dL_law_250 ?_
  refine gx_sld (pc := 251) hx hb hX hbl hbA hw hF dL_law_251 (fun _ hF => ?_)
  refine lv_aload_n (pc := 252) hx hb dL_law_252 rfl (lv_at hl 1 rfl) ?_
  refine lv_iload (pc := 253) hx hb dL_law_253 (lv_at hl 6 rfl) ?_
  refine lv_iconst (pc := 255) (v := 3) hx hb dL_law_255 (by decide) ?_
  refine lv_iadd (pc := 256) hx hb dL_law_256 ?_
  refine gx_sld (pc := 257) hx hb hX hbl hbA hw hF dL_law_257 (fun _ hF => ?_)
  refine lv_aload_n (pc := 258) hx hb dL_law_258 rfl (lv_at hl 1 rfl) ?_
  refine lv_iload (pc := 259) hx hb dL_law_259 (lv_at hl 6 rfl) ?_
  refine lv_iconst (pc := 261) (v := 4) hx hb dL_law_261 (by decide) ?_
  refine lv_iadd (pc := 262) hx hb dL_law_262 ?_
  refine gx_sld (pc := 263) hx hb hX hbl hbA hw hF dL_law_263 (fun _ hF => ?_)
  obtain ⟨uq_2, huq_2, hF⟩ := Option.bind_eq_some_iff.mp hF
  refine cl_X7_kind (pc := 264) hx hb hml hown hV hw huq_2 (gw_1089 hV) hl.1 (Nat.le_of_ble_eq_true rfl) (Nat.le_of_ble_eq_true rfl) (Nat.le_of_ble_eq_true rfl) dL_law_264 (fun H locs hw => ?_) (hc := hc1) (hs := hs1)
  refine lv_istore (pc := 267) (lv' := [(7, .int uq_2.1), (6, .int uq_1.1), (0, .ref b), (1, .ref (G.2.1 44)), (2, .ref (G.2.1 58)), (3, .ref (G.2.1 68)), (4, .ref (G.2.1 69)), (5, .int v)]) hx hb dL_law_267 hl (by decide) rfl (fun ls hl => ?_)
  refine lv_aload_n (pc := 269) hx hb dL_law_269 rfl (lv_at hl 4 rfl) ?_
  obtain ⟨uq_3, huq_3, hF⟩ := Option.bind_eq_some_iff.mp hF
  refine cl_X7_thrown (pc := 270) hx hb hml hown hV hw huq_3 (gw_1085 hV) hl.1 (Nat.le_of_ble_eq_true rfl) (Nat.le_of_ble_eq_true rfl) (Nat.le_of_ble_eq_true rfl) dL_law_270 (fun H locs hw => ?_) (hc := hc1) (hs := hs1)
  refine lv_iload (pc := 273) hx hb dL_law_273 (lv_at hl 1 rfl) ?_
  refine gx_icmp_eq (pc := 275) (tgt := 280) hx hb hF dL_law_275 (by decide) (fun hF => ?_) (fun hF => ?_)
  · refine lv_iload (pc := 280) hx hb dL_law_280 (lv_at hl 1 rfl) ?_
    refine gx_if_ne (pc := 282) (tgt := 297) hx hb hF dL_law_282 (by decide) (fun hF => ?_) (fun hF => ?_)
    · refine lv_goto (pc := 297) (tgt := 2154) hx hb dL_law_297 (by decide) ?_
      exact hK _ _ _ _ _ _ _ _ _ (lv_sub hl [2, 3, 4, 5, 6, 7] rfl) hw hF
    refine lv_aload_n (pc := 285) hx hb dL_law_285 rfl (lv_at hl 5 rfl) ?_
    refine lv_iconst (pc := 286) (v := 0) hx hb dL_law_286 (by decide) ?_
    refine gx_lald (pc := 287) hx hb hV hw dL_law_287 ?_
    refine lv_iload (pc := 288) hx hb dL_law_288 (lv_at hl 0 rfl) ?_
    refine lv_i2l (pc := 290) (v := uq_2.1.toInt64) hx hb dL_law_290 rfl ?_
    refine W.lcmp (pc := 291) hx hb dL_law_291 ?_
    refine gx_if_eq (pc := 292) (tgt := 297) hx hb hF dL_law_292 (by decide) (fun hF => ?_) (fun hF => ?_)
    · refine lv_goto (pc := 297) (tgt := 2154) hx hb dL_law_297 (by decide) ?_
      exact hK _ _ _ _ _ _ _ _ _ (lv_sub hl [2, 3, 4, 5, 6, 7] rfl) hw hF
    refine lv_iconst (pc := 295) (v := 0) hx hb dL_law_295 (by decide) ?_
    exact absurd hF (by decide)
  refine lv_iconst (pc := 278) (v := 0) hx hb dL_law_278 (by decide) ?_
  exact absurd hF (by decide)
noncomputable def f_law_c1 (xs : Nat → Int32) (L : Nat) (v : Int32) (K : gx_F → gx_F → gx_F → gx_F → Int64 → UInt64 → Option Int32) (I V J U : gx_F) (o : Int64) (d : UInt64) : Option Int32 := (gx_ck (gx_in (v + 1) L) (gx_ck (gx_in (v + 2) L) (gx_ck (gx_in (v + 3) L) (Option.bind (f_L_lay (xs (v + 1).toNatClampNeg) (xs (v + 2).toNatClampNeg) (xs (v + 3).toNatClampNeg) I V o) fun uq_1 => (gx_ck (gx_in (v + 1) L) (gx_ck (gx_in (v + 2) L) (gx_ck (gx_in (v + 3) L) (Option.bind (f_X7_lay (xs (v + 1).toNatClampNeg) (xs (v + 2).toNatClampNeg) (xs (v + 3).toNatClampNeg) J U) fun uq_2 => (Option.bind (f_X7_thrown uq_2.2.1 uq_2.2.2) fun uq_3 => (if uq_3 = uq_1.1 then (if uq_1.1 = 0 then (if (lg_cmp uq_1.2.2.2 uq_2.1.toInt64) = 0 then (K uq_1.2.1 uq_1.2.2.1 uq_2.2.1 uq_2.2.2 uq_1.2.2.2 d) else (some 0)) else (K uq_1.2.1 uq_1.2.2.1 uq_2.2.1 uq_2.2.2 uq_1.2.2.2 d)) else (some 0)))))))))))
set_option maxHeartbeats 4000000 in
set_option maxRecDepth 100000 in
theorem w_law_c1 {p : Program} {l : Launch} {e : Env} {s : State} {m : MethodId} {A9 : Array Value} {below : List Frame} {meth : Method} {c : Code} {H : Heap} {locs : List Loc} {cells slots : Nat} {Q : State → Prop} {ls : Array Slot} {G : gx_G} {I V J U : gx_F} {o : Int64} {d : UInt64} {b L : Nat} {xs : Nat → Int32} {v : Int32} {K : gx_F → gx_F → gx_F → gx_F → Int64 → UInt64 → Option Int32} (hl9 : l.stackTraces = false) (hx : p.tables.exec = Jvm.exec) (hb : c.code = cL_law) (hml : c.maxLocals = 9) (hown : s.vm.findClass RL = some m.cls) (hV : gx_V G s) (hZ : gx_Z G s s.heap) (hX : va_X b L xs s s.heap) (hbl : b < s.heap.size) (hbA : ¬ gx_A G b) (hc1 : cells + 1 ≤ room_1.cells) (hs1 : slots + 6 ≤ room_1.slots) (hl : lv_has ls 9 [(0, .ref b), (1, .ref (G.2.1 44)), (2, .ref (G.2.1 58)), (3, .ref (G.2.1 68)), (4, .ref (G.2.1 69)), (5, .int v)]) (hw : gx_at G (I, V) (J, U) o d s.heap H locs) (hF : f_law_c1 xs L v K I V J U o d = some 1)
    (hK : ∀ (I V J U : gx_F) (o : Int64) (d : UInt64) (H : Heap) (locs : List Loc) (ls : Array Slot), lv_has ls 9 [(0, .ref b), (1, .ref (G.2.1 44)), (2, .ref (G.2.1 58)), (3, .ref (G.2.1 68)), (4, .ref (G.2.1 69)), (5, .int v)] → gx_at G (I, V) (J, U) o d s.heap H locs → K I V J U o d = some 1 → W p l e room_1 s m A9 below meth c H locs (cells + 1) (slots + 6) Q (F0 m 2154 ls [])) : W p l e room_1 s m A9 below meth c H locs cells slots Q (F0 m 300 ls []) := by
  have hc0 : cells ≤ room_1.cells := Nat.le_trans (Nat.le_add_right _ _) hc1
  have hs0 : slots ≤ room_1.slots := Nat.le_trans (Nat.le_add_right _ _) hs1
  unfold f_law_c1 at hF
  refine lv_aload_n (pc := 300) hx hb dL_law_300 rfl (lv_at hl 1 rfl) ?_
  refine lv_aload_n (pc := 301) hx hb dL_law_301 rfl (lv_at hl 0 rfl) ?_
  refine lv_iload (pc := 302) hx hb dL_law_302 (lv_at hl 5 rfl) ?_
  refine lv_iconst (pc := 304) (v := 1) hx hb dL_law_304 (by decide) ?_
  refine lv_iadd (pc := 305) hx hb dL_law_305 ?_
  refine gx_sld (pc := 306) hx hb hX hbl hbA hw hF dL_law_306 (fun _ hF => ?_)
  refine lv_aload_n (pc := 307) hx hb dL_law_307 rfl (lv_at hl 0 rfl) ?_
  refine lv_iload (pc := 308) hx hb dL_law_308 (lv_at hl 5 rfl) ?_
  refine lv_iconst (pc := 310) (v := 2) hx hb dL_law_310 (by decide) ?_
  refine lv_iadd (pc := 311) hx hb dL_law_311 ?_
  refine gx_sld (pc := 312) hx hb hX hbl hbA hw hF dL_law_312 (fun _ hF => ?_)
  refine lv_aload_n (pc := 313) hx hb dL_law_313 rfl (lv_at hl 0 rfl) ?_
  refine lv_iload (pc := 314) hx hb dL_law_314 (lv_at hl 5 rfl) ?_
  refine lv_iconst (pc := 316) (v := 3) hx hb dL_law_316 (by decide) ?_
  refine lv_iadd (pc := 317) hx hb dL_law_317 ?_
  refine gx_sld (pc := 318) hx hb hX hbl hbA hw hF dL_law_318 (fun _ hF => ?_)
  refine lv_aload_n (pc := 319) hx hb dL_law_319 rfl (lv_at hl 3 rfl) ?_
  obtain ⟨uq_1, huq_1, hF⟩ := Option.bind_eq_some_iff.mp hF
  refine cl_L_lay (pc := 320) hl9 hx hb hml hown hV hZ hw huq_1 (gw_500 hV) hl.1 (Nat.le_of_ble_eq_true rfl) (Nat.le_of_ble_eq_true rfl) (Nat.le_of_ble_eq_true rfl) hc1 hs1 dL_law_320 (fun H locs hw => ?_)
  refine lv_istore (pc := 323) (lv' := [(6, .int uq_1.1), (0, .ref b), (1, .ref (G.2.1 44)), (2, .ref (G.2.1 58)), (3, .ref (G.2.1 68)), (4, .ref (G.2.1 69)), (5, .int v)]) hx hb dL_law_323 hl (by decide) rfl (fun ls hl => ?_)
  refine lv_aload_n (pc := 325) hx hb dL_law_325 rfl (lv_at hl 3 rfl) ?_
  refine lv_aload_n (pc := 326) hx hb dL_law_326 rfl (lv_at hl 1 rfl) ?_
  refine lv_iload (pc := 327) hx hb dL_law_327 (lv_at hl 6 rfl) ?_
  refine lv_iconst (pc := 329) (v := 1) hx hb dL_law_329 (by decide) ?_
  refine lv_iadd (pc := 330) hx hb dL_law_330 ?_
  refine gx_sld (pc := 331) hx hb hX hbl hbA hw hF dL_law_331 (fun _ hF => ?_)
  refine lv_aload_n (pc := 332) hx hb dL_law_332 rfl (lv_at hl 1 rfl) ?_
  refine lv_iload (pc := 333) hx hb dL_law_333 (lv_at hl 6 rfl) ?_
  refine lv_iconst (pc := 335) (v := 2) hx hb dL_law_335 (by decide) ?_
  refine lv_iadd (pc := 336) hx hb dL_law_336 ?_
  refine gx_sld (pc := 337) hx hb hX hbl hbA hw hF dL_law_337 (fun _ hF => ?_)
  refine lv_aload_n (pc := 338) hx hb dL_law_338 rfl (lv_at hl 1 rfl) ?_
  refine lv_iload (pc := 339) hx hb dL_law_339 (lv_at hl 6 rfl) ?_
  refine lv_iconst (pc := 341) (v := 3) hx hb dL_law_341 (by decide) ?_
  refine lv_iadd (pc := 342) hx hb dL_law_342 ?_
  refine gx_sld (pc := 343) hx hb hX hbl hbA hw hF dL_law_343 (fun _ hF => ?_)
  obtain ⟨uq_2, huq_2, hF⟩ := Option.bind_eq_some_iff.mp hF
  refine cl_X7_lay (pc := 344) hx hb hml hown hV hw huq_2 (gw_1107 hV) hl.1 (Nat.le_of_ble_eq_true rfl) (Nat.le_of_ble_eq_true rfl) (Nat.le_of_ble_eq_true rfl) dL_law_344 (fun H locs hw => ?_) (hc := hc1) (hs := hs1)
  refine lv_istore (pc := 347) (lv' := [(7, .int uq_2.1), (6, .int uq_1.1), (0, .ref b), (1, .ref (G.2.1 44)), (2, .ref (G.2.1 58)), (3, .ref (G.2.1 68)), (4, .ref (G.2.1 69)), (5, .int v)]) hx hb dL_law_347 hl (by decide) rfl (fun ls hl => ?_)
  refine lv_aload_n (pc := 349) hx hb dL_law_349 rfl (lv_at hl 4 rfl) ?_
  obtain ⟨uq_3, huq_3, hF⟩ := Option.bind_eq_some_iff.mp hF
  refine cl_X7_thrown (pc := 350) hx hb hml hown hV hw huq_3 (gw_1085 hV) hl.1 (Nat.le_of_ble_eq_true rfl) (Nat.le_of_ble_eq_true rfl) (Nat.le_of_ble_eq_true rfl) dL_law_350 (fun H locs hw => ?_) (hc := hc1) (hs := hs1)
  refine lv_iload (pc := 353) hx hb dL_law_353 (lv_at hl 1 rfl) ?_
  refine gx_icmp_eq (pc := 355) (tgt := 360) hx hb hF dL_law_355 (by decide) (fun hF => ?_) (fun hF => ?_)
  · refine lv_iload (pc := 360) hx hb dL_law_360 (lv_at hl 1 rfl) ?_
    refine gx_if_ne (pc := 362) (tgt := 377) hx hb hF dL_law_362 (by decide) (fun hF => ?_) (fun hF => ?_)
    · refine lv_goto (pc := 377) (tgt := 2154) hx hb dL_law_377 (by decide) ?_
      exact hK _ _ _ _ _ _ _ _ _ (lv_sub hl [2, 3, 4, 5, 6, 7] rfl) hw hF
    refine lv_aload_n (pc := 365) hx hb dL_law_365 rfl (lv_at hl 5 rfl) ?_
    refine lv_iconst (pc := 366) (v := 0) hx hb dL_law_366 (by decide) ?_
    refine gx_lald (pc := 367) hx hb hV hw dL_law_367 ?_
    refine lv_iload (pc := 368) hx hb dL_law_368 (lv_at hl 0 rfl) ?_
    refine lv_i2l (pc := 370) (v := uq_2.1.toInt64) hx hb dL_law_370 rfl ?_
    refine W.lcmp (pc := 371) hx hb dL_law_371 ?_
    refine gx_if_eq (pc := 372) (tgt := 377) hx hb hF dL_law_372 (by decide) (fun hF => ?_) (fun hF => ?_)
    · refine lv_goto (pc := 377) (tgt := 2154) hx hb dL_law_377 (by decide) ?_
      exact hK _ _ _ _ _ _ _ _ _ (lv_sub hl [2, 3, 4, 5, 6, 7] rfl) hw hF
    refine lv_iconst (pc := 375) (v := 0) hx hb dL_law_375 (by decide) ?_
    exact absurd hF (by decide)
  refine lv_iconst (pc := 358) (v := 0) hx hb dL_law_358 (by decide) ?_
  exact absurd hF (by decide)
noncomputable def f_law_c2 (xs : Nat → Int32) (L : Nat) (v : Int32) (K : gx_F → gx_F → gx_F → gx_F → Int64 → UInt64 → Option Int32) (I V J U : gx_F) (o : Int64) (d : UInt64) : Option Int32 := (gx_ck (gx_in (v + 1) L) (Option.bind (f_L_takeOut (xs (v + 1).toNatClampNeg) I V o) fun uq_1 => (gx_ck (gx_in (v + 1) L) (Option.bind (f_X7_takeOut (xs (v + 1).toNatClampNeg) J U) fun uq_2 => (Option.bind (f_X7_thrown uq_2.2.1 uq_2.2.2) fun uq_3 => (if uq_3 = uq_1.1 then (if uq_1.1 = 0 then (if (lg_cmp uq_1.2.2.2 uq_2.1.toInt64) = 0 then (K uq_1.2.1 uq_1.2.2.1 uq_2.2.1 uq_2.2.2 uq_1.2.2.2 d) else (some 0)) else (K uq_1.2.1 uq_1.2.2.1 uq_2.2.1 uq_2.2.2 uq_1.2.2.2 d)) else (some 0)))))))
set_option maxHeartbeats 4000000 in
set_option maxRecDepth 100000 in
theorem w_law_c2 {p : Program} {l : Launch} {e : Env} {s : State} {m : MethodId} {A9 : Array Value} {below : List Frame} {meth : Method} {c : Code} {H : Heap} {locs : List Loc} {cells slots : Nat} {Q : State → Prop} {ls : Array Slot} {G : gx_G} {I V J U : gx_F} {o : Int64} {d : UInt64} {b L : Nat} {xs : Nat → Int32} {v : Int32} {K : gx_F → gx_F → gx_F → gx_F → Int64 → UInt64 → Option Int32} (hl9 : l.stackTraces = false) (hx : p.tables.exec = Jvm.exec) (hb : c.code = cL_law) (hml : c.maxLocals = 9) (hown : s.vm.findClass RL = some m.cls) (hV : gx_V G s) (hZ : gx_Z G s s.heap) (hX : va_X b L xs s s.heap) (hbl : b < s.heap.size) (hbA : ¬ gx_A G b) (hc1 : cells + 1 ≤ room_1.cells) (hs1 : slots + 6 ≤ room_1.slots) (hl : lv_has ls 9 [(0, .ref b), (1, .ref (G.2.1 44)), (2, .ref (G.2.1 58)), (3, .ref (G.2.1 68)), (4, .ref (G.2.1 69)), (5, .int v)]) (hw : gx_at G (I, V) (J, U) o d s.heap H locs) (hF : f_law_c2 xs L v K I V J U o d = some 1)
    (hK : ∀ (I V J U : gx_F) (o : Int64) (d : UInt64) (H : Heap) (locs : List Loc) (ls : Array Slot), lv_has ls 9 [(0, .ref b), (1, .ref (G.2.1 44)), (2, .ref (G.2.1 58)), (3, .ref (G.2.1 68)), (4, .ref (G.2.1 69)), (5, .int v)] → gx_at G (I, V) (J, U) o d s.heap H locs → K I V J U o d = some 1 → W p l e room_1 s m A9 below meth c H locs (cells + 1) (slots + 6) Q (F0 m 2154 ls [])) : W p l e room_1 s m A9 below meth c H locs cells slots Q (F0 m 380 ls []) := by
  have hc0 : cells ≤ room_1.cells := Nat.le_trans (Nat.le_add_right _ _) hc1
  have hs0 : slots ≤ room_1.slots := Nat.le_trans (Nat.le_add_right _ _) hs1
  unfold f_law_c2 at hF
  refine lv_aload_n (pc := 380) hx hb dL_law_380 rfl (lv_at hl 1 rfl) ?_
  refine lv_aload_n (pc := 381) hx hb dL_law_381 rfl (lv_at hl 0 rfl) ?_
  refine lv_iload (pc := 382) hx hb dL_law_382 (lv_at hl 5 rfl) ?_
  refine lv_iconst (pc := 384) (v := 1) hx hb dL_law_384 (by decide) ?_
  refine lv_iadd (pc := 385) hx hb dL_law_385 ?_
  refine gx_sld (pc := 386) hx hb hX hbl hbA hw hF dL_law_386 (fun _ hF => ?_)
  refine lv_aload_n (pc := 387) hx hb dL_law_387 rfl (lv_at hl 3 rfl) ?_
  obtain ⟨uq_1, huq_1, hF⟩ := Option.bind_eq_some_iff.mp hF
  refine cl_L_takeOut (pc := 388) hl9 hx hb hml hown hV hZ hw huq_1 (gw_533 hV) hl.1 (Nat.le_of_ble_eq_true rfl) (Nat.le_of_ble_eq_true rfl) (Nat.le_of_ble_eq_true rfl) hc1 hs1 dL_law_388 (fun H locs hw => ?_)
  refine lv_istore (pc := 391) (lv' := [(6, .int uq_1.1), (0, .ref b), (1, .ref (G.2.1 44)), (2, .ref (G.2.1 58)), (3, .ref (G.2.1 68)), (4, .ref (G.2.1 69)), (5, .int v)]) hx hb dL_law_391 hl (by decide) rfl (fun ls hl => ?_)
  refine lv_aload_n (pc := 393) hx hb dL_law_393 rfl (lv_at hl 3 rfl) ?_
  refine lv_aload_n (pc := 394) hx hb dL_law_394 rfl (lv_at hl 1 rfl) ?_
  refine lv_iload (pc := 395) hx hb dL_law_395 (lv_at hl 6 rfl) ?_
  refine lv_iconst (pc := 397) (v := 1) hx hb dL_law_397 (by decide) ?_
  refine lv_iadd (pc := 398) hx hb dL_law_398 ?_
  refine gx_sld (pc := 399) hx hb hX hbl hbA hw hF dL_law_399 (fun _ hF => ?_)
  obtain ⟨uq_2, huq_2, hF⟩ := Option.bind_eq_some_iff.mp hF
  refine cl_X7_takeOut (pc := 400) hx hb hml hown hV hw huq_2 (gw_1137 hV) hl.1 (Nat.le_of_ble_eq_true rfl) (Nat.le_of_ble_eq_true rfl) (Nat.le_of_ble_eq_true rfl) dL_law_400 (fun H locs hw => ?_) (hc := hc1) (hs := hs1)
  refine lv_istore (pc := 403) (lv' := [(7, .int uq_2.1), (6, .int uq_1.1), (0, .ref b), (1, .ref (G.2.1 44)), (2, .ref (G.2.1 58)), (3, .ref (G.2.1 68)), (4, .ref (G.2.1 69)), (5, .int v)]) hx hb dL_law_403 hl (by decide) rfl (fun ls hl => ?_)
  refine lv_aload_n (pc := 405) hx hb dL_law_405 rfl (lv_at hl 4 rfl) ?_
  obtain ⟨uq_3, huq_3, hF⟩ := Option.bind_eq_some_iff.mp hF
  refine cl_X7_thrown (pc := 406) hx hb hml hown hV hw huq_3 (gw_1085 hV) hl.1 (Nat.le_of_ble_eq_true rfl) (Nat.le_of_ble_eq_true rfl) (Nat.le_of_ble_eq_true rfl) dL_law_406 (fun H locs hw => ?_) (hc := hc1) (hs := hs1)
  refine lv_iload (pc := 409) hx hb dL_law_409 (lv_at hl 1 rfl) ?_
  refine gx_icmp_eq (pc := 411) (tgt := 416) hx hb hF dL_law_411 (by decide) (fun hF => ?_) (fun hF => ?_)
  · refine lv_iload (pc := 416) hx hb dL_law_416 (lv_at hl 1 rfl) ?_
    refine gx_if_ne (pc := 418) (tgt := 433) hx hb hF dL_law_418 (by decide) (fun hF => ?_) (fun hF => ?_)
    · refine lv_goto (pc := 433) (tgt := 2154) hx hb dL_law_433 (by decide) ?_
      exact hK _ _ _ _ _ _ _ _ _ (lv_sub hl [2, 3, 4, 5, 6, 7] rfl) hw hF
    refine lv_aload_n (pc := 421) hx hb dL_law_421 rfl (lv_at hl 5 rfl) ?_
    refine lv_iconst (pc := 422) (v := 0) hx hb dL_law_422 (by decide) ?_
    refine gx_lald (pc := 423) hx hb hV hw dL_law_423 ?_
    refine lv_iload (pc := 424) hx hb dL_law_424 (lv_at hl 0 rfl) ?_
    refine lv_i2l (pc := 426) (v := uq_2.1.toInt64) hx hb dL_law_426 rfl ?_
    refine W.lcmp (pc := 427) hx hb dL_law_427 ?_
    refine gx_if_eq (pc := 428) (tgt := 433) hx hb hF dL_law_428 (by decide) (fun hF => ?_) (fun hF => ?_)
    · refine lv_goto (pc := 433) (tgt := 2154) hx hb dL_law_433 (by decide) ?_
      exact hK _ _ _ _ _ _ _ _ _ (lv_sub hl [2, 3, 4, 5, 6, 7] rfl) hw hF
    refine lv_iconst (pc := 431) (v := 0) hx hb dL_law_431 (by decide) ?_
    exact absurd hF (by decide)
  refine lv_iconst (pc := 414) (v := 0) hx hb dL_law_414 (by decide) ?_
  exact absurd hF (by decide)
noncomputable def f_law_c3 (xs : Nat → Int32) (L : Nat) (v : Int32) (K : gx_F → gx_F → gx_F → gx_F → Int64 → UInt64 → Option Int32) (I V J U : gx_F) (o : Int64) (d : UInt64) : Option Int32 := (gx_ck (gx_in (v + 1) L) (Option.bind (f_L_grow (xs (v + 1).toNatClampNeg) I V o) fun uq_1 => (gx_ck (gx_in (v + 1) L) (Option.bind (f_X7_grow (xs (v + 1).toNatClampNeg) J U) fun uq_2 => (Option.bind (f_X7_thrown uq_2.2.1 uq_2.2.2) fun uq_3 => (if uq_3 = uq_1.1 then (if uq_1.1 = 0 then (if (lg_cmp uq_1.2.2.2 uq_2.1.toInt64) = 0 then (K uq_1.2.1 uq_1.2.2.1 uq_2.2.1 uq_2.2.2 uq_1.2.2.2 d) else (some 0)) else (K uq_1.2.1 uq_1.2.2.1 uq_2.2.1 uq_2.2.2 uq_1.2.2.2 d)) else (some 0)))))))
set_option maxHeartbeats 4000000 in
set_option maxRecDepth 100000 in
theorem w_law_c3 {p : Program} {l : Launch} {e : Env} {s : State} {m : MethodId} {A9 : Array Value} {below : List Frame} {meth : Method} {c : Code} {H : Heap} {locs : List Loc} {cells slots : Nat} {Q : State → Prop} {ls : Array Slot} {G : gx_G} {I V J U : gx_F} {o : Int64} {d : UInt64} {b L : Nat} {xs : Nat → Int32} {v : Int32} {K : gx_F → gx_F → gx_F → gx_F → Int64 → UInt64 → Option Int32} (hl9 : l.stackTraces = false) (hx : p.tables.exec = Jvm.exec) (hb : c.code = cL_law) (hml : c.maxLocals = 9) (hown : s.vm.findClass RL = some m.cls) (hV : gx_V G s) (hZ : gx_Z G s s.heap) (hX : va_X b L xs s s.heap) (hbl : b < s.heap.size) (hbA : ¬ gx_A G b) (hc1 : cells + 1 ≤ room_1.cells) (hs1 : slots + 6 ≤ room_1.slots) (hl : lv_has ls 9 [(0, .ref b), (1, .ref (G.2.1 44)), (2, .ref (G.2.1 58)), (3, .ref (G.2.1 68)), (4, .ref (G.2.1 69)), (5, .int v)]) (hw : gx_at G (I, V) (J, U) o d s.heap H locs) (hF : f_law_c3 xs L v K I V J U o d = some 1)
    (hK : ∀ (I V J U : gx_F) (o : Int64) (d : UInt64) (H : Heap) (locs : List Loc) (ls : Array Slot), lv_has ls 9 [(0, .ref b), (1, .ref (G.2.1 44)), (2, .ref (G.2.1 58)), (3, .ref (G.2.1 68)), (4, .ref (G.2.1 69)), (5, .int v)] → gx_at G (I, V) (J, U) o d s.heap H locs → K I V J U o d = some 1 → W p l e room_1 s m A9 below meth c H locs (cells + 1) (slots + 6) Q (F0 m 2154 ls [])) : W p l e room_1 s m A9 below meth c H locs cells slots Q (F0 m 436 ls []) := by
  have hc0 : cells ≤ room_1.cells := Nat.le_trans (Nat.le_add_right _ _) hc1
  have hs0 : slots ≤ room_1.slots := Nat.le_trans (Nat.le_add_right _ _) hs1
  unfold f_law_c3 at hF
  refine lv_aload_n (pc := 436) hx hb dL_law_436 rfl (lv_at hl 1 rfl) ?_
  refine lv_aload_n (pc := 437) hx hb dL_law_437 rfl (lv_at hl 0 rfl) ?_
  refine lv_iload (pc := 438) hx hb dL_law_438 (lv_at hl 5 rfl) ?_
  refine lv_iconst (pc := 440) (v := 1) hx hb dL_law_440 (by decide) ?_
  refine lv_iadd (pc := 441) hx hb dL_law_441 ?_
  refine gx_sld (pc := 442) hx hb hX hbl hbA hw hF dL_law_442 (fun _ hF => ?_)
  refine lv_aload_n (pc := 443) hx hb dL_law_443 rfl (lv_at hl 3 rfl) ?_
  obtain ⟨uq_1, huq_1, hF⟩ := Option.bind_eq_some_iff.mp hF
  refine cl_L_grow (pc := 444) hl9 hx hb hml hown hV hZ hw huq_1 (gw_558 hV) hl.1 (Nat.le_of_ble_eq_true rfl) (Nat.le_of_ble_eq_true rfl) (Nat.le_of_ble_eq_true rfl) hc1 hs1 dL_law_444 (fun H locs hw => ?_)
  refine lv_istore (pc := 447) (lv' := [(6, .int uq_1.1), (0, .ref b), (1, .ref (G.2.1 44)), (2, .ref (G.2.1 58)), (3, .ref (G.2.1 68)), (4, .ref (G.2.1 69)), (5, .int v)]) hx hb dL_law_447 hl (by decide) rfl (fun ls hl => ?_)
  refine lv_aload_n (pc := 449) hx hb dL_law_449 rfl (lv_at hl 3 rfl) ?_
  refine lv_aload_n (pc := 450) hx hb dL_law_450 rfl (lv_at hl 1 rfl) ?_
  refine lv_iload (pc := 451) hx hb dL_law_451 (lv_at hl 6 rfl) ?_
  refine lv_iconst (pc := 453) (v := 1) hx hb dL_law_453 (by decide) ?_
  refine lv_iadd (pc := 454) hx hb dL_law_454 ?_
  refine gx_sld (pc := 455) hx hb hX hbl hbA hw hF dL_law_455 (fun _ hF => ?_)
  obtain ⟨uq_2, huq_2, hF⟩ := Option.bind_eq_some_iff.mp hF
  refine cl_X7_grow (pc := 456) hx hb hml hown hV hw huq_2 (gw_1149 hV) hl.1 (Nat.le_of_ble_eq_true rfl) (Nat.le_of_ble_eq_true rfl) (Nat.le_of_ble_eq_true rfl) dL_law_456 (fun H locs hw => ?_) (hc := hc1) (hs := hs1)
  refine lv_istore (pc := 459) (lv' := [(7, .int uq_2.1), (6, .int uq_1.1), (0, .ref b), (1, .ref (G.2.1 44)), (2, .ref (G.2.1 58)), (3, .ref (G.2.1 68)), (4, .ref (G.2.1 69)), (5, .int v)]) hx hb dL_law_459 hl (by decide) rfl (fun ls hl => ?_)
  refine lv_aload_n (pc := 461) hx hb dL_law_461 rfl (lv_at hl 4 rfl) ?_
  obtain ⟨uq_3, huq_3, hF⟩ := Option.bind_eq_some_iff.mp hF
  refine cl_X7_thrown (pc := 462) hx hb hml hown hV hw huq_3 (gw_1085 hV) hl.1 (Nat.le_of_ble_eq_true rfl) (Nat.le_of_ble_eq_true rfl) (Nat.le_of_ble_eq_true rfl) dL_law_462 (fun H locs hw => ?_) (hc := hc1) (hs := hs1)
  refine lv_iload (pc := 465) hx hb dL_law_465 (lv_at hl 1 rfl) ?_
  refine gx_icmp_eq (pc := 467) (tgt := 472) hx hb hF dL_law_467 (by decide) (fun hF => ?_) (fun hF => ?_)
  · refine lv_iload (pc := 472) hx hb dL_law_472 (lv_at hl 1 rfl) ?_
    refine gx_if_ne (pc := 474) (tgt := 489) hx hb hF dL_law_474 (by decide) (fun hF => ?_) (fun hF => ?_)
    · refine lv_goto (pc := 489) (tgt := 2154) hx hb dL_law_489 (by decide) ?_
      exact hK _ _ _ _ _ _ _ _ _ (lv_sub hl [2, 3, 4, 5, 6, 7] rfl) hw hF
    refine lv_aload_n (pc := 477) hx hb dL_law_477 rfl (lv_at hl 5 rfl) ?_
    refine lv_iconst (pc := 478) (v := 0) hx hb dL_law_478 (by decide) ?_
    refine gx_lald (pc := 479) hx hb hV hw dL_law_479 ?_
    refine lv_iload (pc := 480) hx hb dL_law_480 (lv_at hl 0 rfl) ?_
    refine lv_i2l (pc := 482) (v := uq_2.1.toInt64) hx hb dL_law_482 rfl ?_
    refine W.lcmp (pc := 483) hx hb dL_law_483 ?_
    refine gx_if_eq (pc := 484) (tgt := 489) hx hb hF dL_law_484 (by decide) (fun hF => ?_) (fun hF => ?_)
    · refine lv_goto (pc := 489) (tgt := 2154) hx hb dL_law_489 (by decide) ?_
      exact hK _ _ _ _ _ _ _ _ _ (lv_sub hl [2, 3, 4, 5, 6, 7] rfl) hw hF
    refine lv_iconst (pc := 487) (v := 0) hx hb dL_law_487 (by decide) ?_
    exact absurd hF (by decide)
  refine lv_iconst (pc := 470) (v := 0) hx hb dL_law_470 (by decide) ?_
  exact absurd hF (by decide)
noncomputable def f_law_c4 (xs : Nat → Int32) (L : Nat) (v : Int32) (K : gx_F → gx_F → gx_F → gx_F → Int64 → UInt64 → Option Int32) (I V J U : gx_F) (o : Int64) (d : UInt64) : Option Int32 := (gx_ck (gx_in (v + 1) L) (gx_ck (gx_in (v + 2) L) (Option.bind (f_L_strength (xs (v + 1).toNatClampNeg) (xs (v + 2).toNatClampNeg) I V o) fun uq_1 => (gx_ck (gx_in (v + 1) L) (gx_ck (gx_in (v + 2) L) (Option.bind (f_X7_strength (xs (v + 1).toNatClampNeg) (xs (v + 2).toNatClampNeg) J U) fun uq_2 => (Option.bind (f_X7_thrown uq_2.2.1 uq_2.2.2) fun uq_3 => (if uq_3 = uq_1.1 then (if uq_1.1 = 0 then (if (lg_cmp uq_1.2.2.2 uq_2.1.toInt64) = 0 then (K uq_1.2.1 uq_1.2.2.1 uq_2.2.1 uq_2.2.2 uq_1.2.2.2 d) else (some 0)) else (K uq_1.2.1 uq_1.2.2.1 uq_2.2.1 uq_2.2.2 uq_1.2.2.2 d)) else (some 0)))))))))
set_option maxHeartbeats 4000000 in
set_option maxRecDepth 100000 in
theorem w_law_c4 {p : Program} {l : Launch} {e : Env} {s : State} {m : MethodId} {A9 : Array Value} {below : List Frame} {meth : Method} {c : Code} {H : Heap} {locs : List Loc} {cells slots : Nat} {Q : State → Prop} {ls : Array Slot} {G : gx_G} {I V J U : gx_F} {o : Int64} {d : UInt64} {b L : Nat} {xs : Nat → Int32} {v : Int32} {K : gx_F → gx_F → gx_F → gx_F → Int64 → UInt64 → Option Int32} (hl9 : l.stackTraces = false) (hx : p.tables.exec = Jvm.exec) (hb : c.code = cL_law) (hml : c.maxLocals = 9) (hown : s.vm.findClass RL = some m.cls) (hV : gx_V G s) (hZ : gx_Z G s s.heap) (hX : va_X b L xs s s.heap) (hbl : b < s.heap.size) (hbA : ¬ gx_A G b) (hc1 : cells + 1 ≤ room_1.cells) (hs1 : slots + 6 ≤ room_1.slots) (hl : lv_has ls 9 [(0, .ref b), (1, .ref (G.2.1 44)), (2, .ref (G.2.1 58)), (3, .ref (G.2.1 68)), (4, .ref (G.2.1 69)), (5, .int v)]) (hw : gx_at G (I, V) (J, U) o d s.heap H locs) (hF : f_law_c4 xs L v K I V J U o d = some 1)
    (hK : ∀ (I V J U : gx_F) (o : Int64) (d : UInt64) (H : Heap) (locs : List Loc) (ls : Array Slot), lv_has ls 9 [(0, .ref b), (1, .ref (G.2.1 44)), (2, .ref (G.2.1 58)), (3, .ref (G.2.1 68)), (4, .ref (G.2.1 69)), (5, .int v)] → gx_at G (I, V) (J, U) o d s.heap H locs → K I V J U o d = some 1 → W p l e room_1 s m A9 below meth c H locs (cells + 1) (slots + 6) Q (F0 m 2154 ls [])) : W p l e room_1 s m A9 below meth c H locs cells slots Q (F0 m 492 ls []) := by
  have hc0 : cells ≤ room_1.cells := Nat.le_trans (Nat.le_add_right _ _) hc1
  have hs0 : slots ≤ room_1.slots := Nat.le_trans (Nat.le_add_right _ _) hs1
  unfold f_law_c4 at hF
  refine lv_aload_n (pc := 492) hx hb dL_law_492 rfl (lv_at hl 1 rfl) ?_
  refine lv_aload_n (pc := 493) hx hb dL_law_493 rfl (lv_at hl 0 rfl) ?_
  refine lv_iload (pc := 494) hx hb dL_law_494 (lv_at hl 5 rfl) ?_
  refine lv_iconst (pc := 496) (v := 1) hx hb dL_law_496 (by decide) ?_
  refine lv_iadd (pc := 497) hx hb dL_law_497 ?_
  refine gx_sld (pc := 498) hx hb hX hbl hbA hw hF dL_law_498 (fun _ hF => ?_)
  refine lv_aload_n (pc := 499) hx hb dL_law_499 rfl (lv_at hl 0 rfl) ?_
  refine lv_iload (pc := 500) hx hb dL_law_500 (lv_at hl 5 rfl) ?_
  refine lv_iconst (pc := 502) (v := 2) hx hb dL_law_502 (by decide) ?_
  refine lv_iadd (pc := 503) hx hb dL_law_503 ?_
  refine gx_sld (pc := 504) hx hb hX hbl hbA hw hF dL_law_504 (fun _ hF => ?_)
  refine lv_aload_n (pc := 505) hx hb dL_law_505 rfl (lv_at hl 3 rfl) ?_
  obtain ⟨uq_1, huq_1, hF⟩ := Option.bind_eq_some_iff.mp hF
  refine cl_L_strength (pc := 506) hl9 hx hb hml hown hV hZ hw huq_1 (gw_572 hV) hl.1 (Nat.le_of_ble_eq_true rfl) (Nat.le_of_ble_eq_true rfl) (Nat.le_of_ble_eq_true rfl) hc1 hs1 dL_law_506 (fun H locs hw => ?_)
  refine lv_istore (pc := 509) (lv' := [(6, .int uq_1.1), (0, .ref b), (1, .ref (G.2.1 44)), (2, .ref (G.2.1 58)), (3, .ref (G.2.1 68)), (4, .ref (G.2.1 69)), (5, .int v)]) hx hb dL_law_509 hl (by decide) rfl (fun ls hl => ?_)
  refine lv_aload_n (pc := 511) hx hb dL_law_511 rfl (lv_at hl 3 rfl) ?_
  refine lv_aload_n (pc := 512) hx hb dL_law_512 rfl (lv_at hl 1 rfl) ?_
  refine lv_iload (pc := 513) hx hb dL_law_513 (lv_at hl 6 rfl) ?_
  refine lv_iconst (pc := 515) (v := 1) hx hb dL_law_515 (by decide) ?_
  refine lv_iadd (pc := 516) hx hb dL_law_516 ?_
  refine gx_sld (pc := 517) hx hb hX hbl hbA hw hF dL_law_517 (fun _ hF => ?_)
  refine lv_aload_n (pc := 518) hx hb dL_law_518 rfl (lv_at hl 1 rfl) ?_
  refine lv_iload (pc := 519) hx hb dL_law_519 (lv_at hl 6 rfl) ?_
  refine lv_iconst (pc := 521) (v := 2) hx hb dL_law_521 (by decide) ?_
  refine lv_iadd (pc := 522) hx hb dL_law_522 ?_
  refine gx_sld (pc := 523) hx hb hX hbl hbA hw hF dL_law_523 (fun _ hF => ?_)
  obtain ⟨uq_2, huq_2, hF⟩ := Option.bind_eq_some_iff.mp hF
  refine cl_X7_strength (pc := 524) hx hb hml hown hV hw huq_2 (gw_1181 hV) hl.1 (Nat.le_of_ble_eq_true rfl) (Nat.le_of_ble_eq_true rfl) (Nat.le_of_ble_eq_true rfl) dL_law_524 (fun H locs hw => ?_) (hc := hc1) (hs := hs1)
  refine lv_istore (pc := 527) (lv' := [(7, .int uq_2.1), (6, .int uq_1.1), (0, .ref b), (1, .ref (G.2.1 44)), (2, .ref (G.2.1 58)), (3, .ref (G.2.1 68)), (4, .ref (G.2.1 69)), (5, .int v)]) hx hb dL_law_527 hl (by decide) rfl (fun ls hl => ?_)
  refine lv_aload_n (pc := 529) hx hb dL_law_529 rfl (lv_at hl 4 rfl) ?_
  obtain ⟨uq_3, huq_3, hF⟩ := Option.bind_eq_some_iff.mp hF
  refine cl_X7_thrown (pc := 530) hx hb hml hown hV hw huq_3 (gw_1085 hV) hl.1 (Nat.le_of_ble_eq_true rfl) (Nat.le_of_ble_eq_true rfl) (Nat.le_of_ble_eq_true rfl) dL_law_530 (fun H locs hw => ?_) (hc := hc1) (hs := hs1)
  refine lv_iload (pc := 533) hx hb dL_law_533 (lv_at hl 1 rfl) ?_
  refine gx_icmp_eq (pc := 535) (tgt := 540) hx hb hF dL_law_535 (by decide) (fun hF => ?_) (fun hF => ?_)
  · refine lv_iload (pc := 540) hx hb dL_law_540 (lv_at hl 1 rfl) ?_
    refine gx_if_ne (pc := 542) (tgt := 557) hx hb hF dL_law_542 (by decide) (fun hF => ?_) (fun hF => ?_)
    · refine lv_goto (pc := 557) (tgt := 2154) hx hb dL_law_557 (by decide) ?_
      exact hK _ _ _ _ _ _ _ _ _ (lv_sub hl [2, 3, 4, 5, 6, 7] rfl) hw hF
    refine lv_aload_n (pc := 545) hx hb dL_law_545 rfl (lv_at hl 5 rfl) ?_
    refine lv_iconst (pc := 546) (v := 0) hx hb dL_law_546 (by decide) ?_
    refine gx_lald (pc := 547) hx hb hV hw dL_law_547 ?_
    refine lv_iload (pc := 548) hx hb dL_law_548 (lv_at hl 0 rfl) ?_
    refine lv_i2l (pc := 550) (v := uq_2.1.toInt64) hx hb dL_law_550 rfl ?_
    refine W.lcmp (pc := 551) hx hb dL_law_551 ?_
    refine gx_if_eq (pc := 552) (tgt := 557) hx hb hF dL_law_552 (by decide) (fun hF => ?_) (fun hF => ?_)
    · refine lv_goto (pc := 557) (tgt := 2154) hx hb dL_law_557 (by decide) ?_
      exact hK _ _ _ _ _ _ _ _ _ (lv_sub hl [2, 3, 4, 5, 6, 7] rfl) hw hF
    refine lv_iconst (pc := 555) (v := 0) hx hb dL_law_555 (by decide) ?_
    exact absurd hF (by decide)
  refine lv_iconst (pc := 538) (v := 0) hx hb dL_law_538 (by decide) ?_
  exact absurd hF (by decide)
noncomputable def f_law_c5 (xs : Nat → Int32) (L : Nat) (v : Int32) (K : gx_F → gx_F → gx_F → gx_F → Int64 → UInt64 → Option Int32) (I V J U : gx_F) (o : Int64) (d : UInt64) : Option Int32 := (gx_ck (gx_in (v + 1) L) (Option.bind (f_L_need (xs (v + 1).toNatClampNeg) I V o) fun uq_1 => (gx_ck (gx_in (v + 1) L) (Option.bind (f_X7_need (xs (v + 1).toNatClampNeg) J U) fun uq_2 => (Option.bind (f_X7_thrown uq_2.2.1 uq_2.2.2) fun uq_3 => (if uq_3 = uq_1.1 then (if uq_1.1 = 0 then (if (lg_cmp uq_1.2.2.2 uq_2.1.toInt64) = 0 then (K uq_1.2.1 uq_1.2.2.1 uq_2.2.1 uq_2.2.2 uq_1.2.2.2 d) else (some 0)) else (K uq_1.2.1 uq_1.2.2.1 uq_2.2.1 uq_2.2.2 uq_1.2.2.2 d)) else (some 0)))))))
set_option maxHeartbeats 4000000 in
set_option maxRecDepth 100000 in
theorem w_law_c5 {p : Program} {l : Launch} {e : Env} {s : State} {m : MethodId} {A9 : Array Value} {below : List Frame} {meth : Method} {c : Code} {H : Heap} {locs : List Loc} {cells slots : Nat} {Q : State → Prop} {ls : Array Slot} {G : gx_G} {I V J U : gx_F} {o : Int64} {d : UInt64} {b L : Nat} {xs : Nat → Int32} {v : Int32} {K : gx_F → gx_F → gx_F → gx_F → Int64 → UInt64 → Option Int32} (hl9 : l.stackTraces = false) (hx : p.tables.exec = Jvm.exec) (hb : c.code = cL_law) (hml : c.maxLocals = 9) (hown : s.vm.findClass RL = some m.cls) (hV : gx_V G s) (hZ : gx_Z G s s.heap) (hX : va_X b L xs s s.heap) (hbl : b < s.heap.size) (hbA : ¬ gx_A G b) (hc1 : cells + 1 ≤ room_1.cells) (hs1 : slots + 6 ≤ room_1.slots) (hl : lv_has ls 9 [(0, .ref b), (1, .ref (G.2.1 44)), (2, .ref (G.2.1 58)), (3, .ref (G.2.1 68)), (4, .ref (G.2.1 69)), (5, .int v)]) (hw : gx_at G (I, V) (J, U) o d s.heap H locs) (hF : f_law_c5 xs L v K I V J U o d = some 1)
    (hK : ∀ (I V J U : gx_F) (o : Int64) (d : UInt64) (H : Heap) (locs : List Loc) (ls : Array Slot), lv_has ls 9 [(0, .ref b), (1, .ref (G.2.1 44)), (2, .ref (G.2.1 58)), (3, .ref (G.2.1 68)), (4, .ref (G.2.1 69)), (5, .int v)] → gx_at G (I, V) (J, U) o d s.heap H locs → K I V J U o d = some 1 → W p l e room_1 s m A9 below meth c H locs (cells + 1) (slots + 6) Q (F0 m 2154 ls [])) : W p l e room_1 s m A9 below meth c H locs cells slots Q (F0 m 560 ls []) := by
  have hc0 : cells ≤ room_1.cells := Nat.le_trans (Nat.le_add_right _ _) hc1
  have hs0 : slots ≤ room_1.slots := Nat.le_trans (Nat.le_add_right _ _) hs1
  unfold f_law_c5 at hF
  refine lv_aload_n (pc := 560) hx hb dL_law_560 rfl (lv_at hl 1 rfl) ?_
  refine lv_aload_n (pc := 561) hx hb dL_law_561 rfl (lv_at hl 0 rfl) ?_
  refine lv_iload (pc := 562) hx hb dL_law_562 (lv_at hl 5 rfl) ?_
  refine lv_iconst (pc := 564) (v := 1) hx hb dL_law_564 (by decide) ?_
  refine lv_iadd (pc := 565) hx hb dL_law_565 ?_
  refine gx_sld (pc := 566) hx hb hX hbl hbA hw hF dL_law_566 (fun _ hF => ?_)
  refine lv_aload_n (pc := 567) hx hb dL_law_567 rfl (lv_at hl 3 rfl) ?_
  obtain ⟨uq_1, huq_1, hF⟩ := Option.bind_eq_some_iff.mp hF
  refine cl_L_need (pc := 568) hl9 hx hb hml hown hV hZ hw huq_1 (gw_584 hV) hl.1 (Nat.le_of_ble_eq_true rfl) (Nat.le_of_ble_eq_true rfl) (Nat.le_of_ble_eq_true rfl) hc1 hs1 dL_law_568 (fun H locs hw => ?_)
  refine lv_istore (pc := 571) (lv' := [(6, .int uq_1.1), (0, .ref b), (1, .ref (G.2.1 44)), (2, .ref (G.2.1 58)), (3, .ref (G.2.1 68)), (4, .ref (G.2.1 69)), (5, .int v)]) hx hb dL_law_571 hl (by decide) rfl (fun ls hl => ?_)
  refine lv_aload_n (pc := 573) hx hb dL_law_573 rfl (lv_at hl 3 rfl) ?_
  refine lv_aload_n (pc := 574) hx hb dL_law_574 rfl (lv_at hl 1 rfl) ?_
  refine lv_iload (pc := 575) hx hb dL_law_575 (lv_at hl 6 rfl) ?_
  refine lv_iconst (pc := 577) (v := 1) hx hb dL_law_577 (by decide) ?_
  refine lv_iadd (pc := 578) hx hb dL_law_578 ?_
  refine gx_sld (pc := 579) hx hb hX hbl hbA hw hF dL_law_579 (fun _ hF => ?_)
  obtain ⟨uq_2, huq_2, hF⟩ := Option.bind_eq_some_iff.mp hF
  refine cl_X7_need (pc := 580) hx hb hml hown hV hw huq_2 (gw_1185 hV) hl.1 (Nat.le_of_ble_eq_true rfl) (Nat.le_of_ble_eq_true rfl) (Nat.le_of_ble_eq_true rfl) dL_law_580 (fun H locs hw => ?_) (hc := hc1) (hs := hs1)
  refine lv_istore (pc := 583) (lv' := [(7, .int uq_2.1), (6, .int uq_1.1), (0, .ref b), (1, .ref (G.2.1 44)), (2, .ref (G.2.1 58)), (3, .ref (G.2.1 68)), (4, .ref (G.2.1 69)), (5, .int v)]) hx hb dL_law_583 hl (by decide) rfl (fun ls hl => ?_)
  refine lv_aload_n (pc := 585) hx hb dL_law_585 rfl (lv_at hl 4 rfl) ?_
  obtain ⟨uq_3, huq_3, hF⟩ := Option.bind_eq_some_iff.mp hF
  refine cl_X7_thrown (pc := 586) hx hb hml hown hV hw huq_3 (gw_1085 hV) hl.1 (Nat.le_of_ble_eq_true rfl) (Nat.le_of_ble_eq_true rfl) (Nat.le_of_ble_eq_true rfl) dL_law_586 (fun H locs hw => ?_) (hc := hc1) (hs := hs1)
  refine lv_iload (pc := 589) hx hb dL_law_589 (lv_at hl 1 rfl) ?_
  refine gx_icmp_eq (pc := 591) (tgt := 596) hx hb hF dL_law_591 (by decide) (fun hF => ?_) (fun hF => ?_)
  · refine lv_iload (pc := 596) hx hb dL_law_596 (lv_at hl 1 rfl) ?_
    refine gx_if_ne (pc := 598) (tgt := 613) hx hb hF dL_law_598 (by decide) (fun hF => ?_) (fun hF => ?_)
    · refine lv_goto (pc := 613) (tgt := 2154) hx hb dL_law_613 (by decide) ?_
      exact hK _ _ _ _ _ _ _ _ _ (lv_sub hl [2, 3, 4, 5, 6, 7] rfl) hw hF
    refine lv_aload_n (pc := 601) hx hb dL_law_601 rfl (lv_at hl 5 rfl) ?_
    refine lv_iconst (pc := 602) (v := 0) hx hb dL_law_602 (by decide) ?_
    refine gx_lald (pc := 603) hx hb hV hw dL_law_603 ?_
    refine lv_iload (pc := 604) hx hb dL_law_604 (lv_at hl 0 rfl) ?_
    refine lv_i2l (pc := 606) (v := uq_2.1.toInt64) hx hb dL_law_606 rfl ?_
    refine W.lcmp (pc := 607) hx hb dL_law_607 ?_
    refine gx_if_eq (pc := 608) (tgt := 613) hx hb hF dL_law_608 (by decide) (fun hF => ?_) (fun hF => ?_)
    · refine lv_goto (pc := 613) (tgt := 2154) hx hb dL_law_613 (by decide) ?_
      exact hK _ _ _ _ _ _ _ _ _ (lv_sub hl [2, 3, 4, 5, 6, 7] rfl) hw hF
    refine lv_iconst (pc := 611) (v := 0) hx hb dL_law_611 (by decide) ?_
    exact absurd hF (by decide)
  refine lv_iconst (pc := 594) (v := 0) hx hb dL_law_594 (by decide) ?_
  exact absurd hF (by decide)
noncomputable def f_law_c6 (xs : Nat → Int32) (L : Nat) (v : Int32) (K : gx_F → gx_F → gx_F → gx_F → Int64 → UInt64 → Option Int32) (I V J U : gx_F) (o : Int64) (d : UInt64) : Option Int32 := (gx_ck (gx_in (v + 1) L) (gx_ck (gx_in (v + 2) L) (gx_ck (gx_in (v + 3) L) (Option.bind (f_L_glueOf (xs (v + 1).toNatClampNeg) (xs (v + 2).toNatClampNeg) (xs (v + 3).toNatClampNeg) I V o) fun uq_1 => (gx_ck (gx_in (v + 1) L) (gx_ck (gx_in (v + 2) L) (gx_ck (gx_in (v + 3) L) (Option.bind (f_X7_glueOf (xs (v + 1).toNatClampNeg) (xs (v + 2).toNatClampNeg) (xs (v + 3).toNatClampNeg) J U) fun uq_2 => (Option.bind (f_X7_thrown uq_2.2.1 uq_2.2.2) fun uq_3 => (if uq_3 = uq_1.1 then (if uq_1.1 = 0 then (if (lg_cmp uq_1.2.2.2 uq_2.1.toInt64) = 0 then (K uq_1.2.1 uq_1.2.2.1 uq_2.2.1 uq_2.2.2 uq_1.2.2.2 d) else (some 0)) else (K uq_1.2.1 uq_1.2.2.1 uq_2.2.1 uq_2.2.2 uq_1.2.2.2 d)) else (some 0)))))))))))
set_option maxHeartbeats 4000000 in
set_option maxRecDepth 100000 in
theorem w_law_c6 {p : Program} {l : Launch} {e : Env} {s : State} {m : MethodId} {A9 : Array Value} {below : List Frame} {meth : Method} {c : Code} {H : Heap} {locs : List Loc} {cells slots : Nat} {Q : State → Prop} {ls : Array Slot} {G : gx_G} {I V J U : gx_F} {o : Int64} {d : UInt64} {b L : Nat} {xs : Nat → Int32} {v : Int32} {K : gx_F → gx_F → gx_F → gx_F → Int64 → UInt64 → Option Int32} (hl9 : l.stackTraces = false) (hx : p.tables.exec = Jvm.exec) (hb : c.code = cL_law) (hml : c.maxLocals = 9) (hown : s.vm.findClass RL = some m.cls) (hV : gx_V G s) (hZ : gx_Z G s s.heap) (hX : va_X b L xs s s.heap) (hbl : b < s.heap.size) (hbA : ¬ gx_A G b) (hc1 : cells + 1 ≤ room_1.cells) (hs1 : slots + 6 ≤ room_1.slots) (hl : lv_has ls 9 [(0, .ref b), (1, .ref (G.2.1 44)), (2, .ref (G.2.1 58)), (3, .ref (G.2.1 68)), (4, .ref (G.2.1 69)), (5, .int v)]) (hw : gx_at G (I, V) (J, U) o d s.heap H locs) (hF : f_law_c6 xs L v K I V J U o d = some 1)
    (hK : ∀ (I V J U : gx_F) (o : Int64) (d : UInt64) (H : Heap) (locs : List Loc) (ls : Array Slot), lv_has ls 9 [(0, .ref b), (1, .ref (G.2.1 44)), (2, .ref (G.2.1 58)), (3, .ref (G.2.1 68)), (4, .ref (G.2.1 69)), (5, .int v)] → gx_at G (I, V) (J, U) o d s.heap H locs → K I V J U o d = some 1 → W p l e room_1 s m A9 below meth c H locs (cells + 1) (slots + 6) Q (F0 m 2154 ls [])) : W p l e room_1 s m A9 below meth c H locs cells slots Q (F0 m 616 ls []) := by
  have hc0 : cells ≤ room_1.cells := Nat.le_trans (Nat.le_add_right _ _) hc1
  have hs0 : slots ≤ room_1.slots := Nat.le_trans (Nat.le_add_right _ _) hs1
  unfold f_law_c6 at hF
  refine lv_aload_n (pc := 616) hx hb dL_law_616 rfl (lv_at hl 1 rfl) ?_
  refine lv_aload_n (pc := 617) hx hb dL_law_617 rfl (lv_at hl 0 rfl) ?_
  refine lv_iload (pc := 618) hx hb dL_law_618 (lv_at hl 5 rfl) ?_
  refine lv_iconst (pc := 620) (v := 1) hx hb dL_law_620 (by decide) ?_
  refine lv_iadd (pc := 621) hx hb dL_law_621 ?_
  refine gx_sld (pc := 622) hx hb hX hbl hbA hw hF dL_law_622 (fun _ hF => ?_)
  refine lv_aload_n (pc := 623) hx hb dL_law_623 rfl (lv_at hl 0 rfl) ?_
  refine lv_iload (pc := 624) hx hb dL_law_624 (lv_at hl 5 rfl) ?_
  refine lv_iconst (pc := 626) (v := 2) hx hb dL_law_626 (by decide) ?_
  refine lv_iadd (pc := 627) hx hb dL_law_627 ?_
  refine gx_sld (pc := 628) hx hb hX hbl hbA hw hF dL_law_628 (fun _ hF => ?_)
  refine lv_aload_n (pc := 629) hx hb dL_law_629 rfl (lv_at hl 0 rfl) ?_
  refine lv_iload (pc := 630) hx hb dL_law_630 (lv_at hl 5 rfl) ?_
  refine lv_iconst (pc := 632) (v := 3) hx hb dL_law_632 (by decide) ?_
  refine lv_iadd (pc := 633) hx hb dL_law_633 ?_
  refine gx_sld (pc := 634) hx hb hX hbl hbA hw hF dL_law_634 (fun _ hF => ?_)
  refine lv_aload_n (pc := 635) hx hb dL_law_635 rfl (lv_at hl 3 rfl) ?_
  obtain ⟨uq_1, huq_1, hF⟩ := Option.bind_eq_some_iff.mp hF
  refine cl_L_glueOf (pc := 636) hl9 hx hb hml hown hV hZ hw huq_1 (gw_596 hV) hl.1 (Nat.le_of_ble_eq_true rfl) (Nat.le_of_ble_eq_true rfl) (Nat.le_of_ble_eq_true rfl) hc1 hs1 dL_law_636 (fun H locs hw => ?_)
  refine lv_istore (pc := 639) (lv' := [(6, .int uq_1.1), (0, .ref b), (1, .ref (G.2.1 44)), (2, .ref (G.2.1 58)), (3, .ref (G.2.1 68)), (4, .ref (G.2.1 69)), (5, .int v)]) hx hb dL_law_639 hl (by decide) rfl (fun ls hl => ?_)
  refine lv_aload_n (pc := 641) hx hb dL_law_641 rfl (lv_at hl 3 rfl) ?_
  refine lv_aload_n (pc := 642) hx hb dL_law_642 rfl (lv_at hl 1 rfl) ?_
  refine lv_iload (pc := 643) hx hb dL_law_643 (lv_at hl 6 rfl) ?_
  refine lv_iconst (pc := 645) (v := 1) hx hb dL_law_645 (by decide) ?_
  refine lv_iadd (pc := 646) hx hb dL_law_646 ?_
  refine gx_sld (pc := 647) hx hb hX hbl hbA hw hF dL_law_647 (fun _ hF => ?_)
  refine lv_aload_n (pc := 648) hx hb dL_law_648 rfl (lv_at hl 1 rfl) ?_
  refine lv_iload (pc := 649) hx hb dL_law_649 (lv_at hl 6 rfl) ?_
  refine lv_iconst (pc := 651) (v := 2) hx hb dL_law_651 (by decide) ?_
  refine lv_iadd (pc := 652) hx hb dL_law_652 ?_
  refine gx_sld (pc := 653) hx hb hX hbl hbA hw hF dL_law_653 (fun _ hF => ?_)
  refine lv_aload_n (pc := 654) hx hb dL_law_654 rfl (lv_at hl 1 rfl) ?_
  refine lv_iload (pc := 655) hx hb dL_law_655 (lv_at hl 6 rfl) ?_
  refine lv_iconst (pc := 657) (v := 3) hx hb dL_law_657 (by decide) ?_
  refine lv_iadd (pc := 658) hx hb dL_law_658 ?_
  refine gx_sld (pc := 659) hx hb hX hbl hbA hw hF dL_law_659 (fun _ hF => ?_)
  obtain ⟨uq_2, huq_2, hF⟩ := Option.bind_eq_some_iff.mp hF
  refine cl_X7_glueOf (pc := 660) hx hb hml hown hV hw huq_2 (gw_1189 hV) hl.1 (Nat.le_of_ble_eq_true rfl) (Nat.le_of_ble_eq_true rfl) (Nat.le_of_ble_eq_true rfl) dL_law_660 (fun H locs hw => ?_) (hc := hc1) (hs := hs1)
  refine lv_istore (pc := 663) (lv' := [(7, .int uq_2.1), (6, .int uq_1.1), (0, .ref b), (1, .ref (G.2.1 44)), (2, .ref (G.2.1 58)), (3, .ref (G.2.1 68)), (4, .ref (G.2.1 69)), (5, .int v)]) hx hb dL_law_663 hl (by decide) rfl (fun ls hl => ?_)
  refine lv_aload_n (pc := 665) hx hb dL_law_665 rfl (lv_at hl 4 rfl) ?_
  obtain ⟨uq_3, huq_3, hF⟩ := Option.bind_eq_some_iff.mp hF
  refine cl_X7_thrown (pc := 666) hx hb hml hown hV hw huq_3 (gw_1085 hV) hl.1 (Nat.le_of_ble_eq_true rfl) (Nat.le_of_ble_eq_true rfl) (Nat.le_of_ble_eq_true rfl) dL_law_666 (fun H locs hw => ?_) (hc := hc1) (hs := hs1)
  refine lv_iload (pc := 669) hx hb dL_law_669 (lv_at hl 1 rfl) ?_
  refine gx_icmp_eq (pc := 671) (tgt := 676) hx hb hF dL_law_671 (by decide) (fun hF => ?_) (fun hF => ?_)
  · refine lv_iload (pc := 676) hx hb dL_law_676 (lv_at hl 1 rfl) ?_
    refine gx_if_ne (pc := 678) (tgt := 693) hx hb hF dL_law_678 (by decide) (fun hF => ?_) (fun hF => ?_)
    · refine lv_goto (pc := 693) (tgt := 2154) hx hb dL_law_693 (by decide) ?_
      exact hK _ _ _ _ _ _ _ _ _ (lv_sub hl [2, 3, 4, 5, 6, 7] rfl) hw hF
    refine lv_aload_n (pc := 681) hx hb dL_law_681 rfl (lv_at hl 5 rfl) ?_
    refine lv_iconst (pc := 682) (v := 0) hx hb dL_law_682 (by decide) ?_
    refine gx_lald (pc := 683) hx hb hV hw dL_law_683 ?_
    refine lv_iload (pc := 684) hx hb dL_law_684 (lv_at hl 0 rfl) ?_
    refine lv_i2l (pc := 686) (v := uq_2.1.toInt64) hx hb dL_law_686 rfl ?_
    refine W.lcmp (pc := 687) hx hb dL_law_687 ?_
    refine gx_if_eq (pc := 688) (tgt := 693) hx hb hF dL_law_688 (by decide) (fun hF => ?_) (fun hF => ?_)
    · refine lv_goto (pc := 693) (tgt := 2154) hx hb dL_law_693 (by decide) ?_
      exact hK _ _ _ _ _ _ _ _ _ (lv_sub hl [2, 3, 4, 5, 6, 7] rfl) hw hF
    refine lv_iconst (pc := 691) (v := 0) hx hb dL_law_691 (by decide) ?_
    exact absurd hF (by decide)
  refine lv_iconst (pc := 674) (v := 0) hx hb dL_law_674 (by decide) ?_
  exact absurd hF (by decide)
noncomputable def f_law_c7 (xs : Nat → Int32) (L : Nat) (v : Int32) (K : gx_F → gx_F → gx_F → gx_F → Int64 → UInt64 → Option Int32) (I V J U : gx_F) (o : Int64) (d : UInt64) : Option Int32 := (gx_ck (gx_in (v + 1) L) (Option.bind (f_L_strengthOf (xs (v + 1).toNatClampNeg) I V o) fun uq_1 => (gx_ck (gx_in (v + 1) L) (Option.bind (f_X7_strengthOf (xs (v + 1).toNatClampNeg) J U) fun uq_2 => (Option.bind (f_X7_thrown uq_2.2.1 uq_2.2.2) fun uq_3 => (if uq_3 = uq_1.1 then (if uq_1.1 = 0 then (if (lg_cmp uq_1.2.2.2 uq_2.1.toInt64) = 0 then (K uq_1.2.1 uq_1.2.2.1 uq_2.2.1 uq_2.2.2 uq_1.2.2.2 d) else (some 0)) else (K uq_1.2.1 uq_1.2.2.1 uq_2.2.1 uq_2.2.2 uq_1.2.2.2 d)) else (some 0)))))))
set_option maxHeartbeats 4000000 in
set_option maxRecDepth 100000 in
theorem w_law_c7 {p : Program} {l : Launch} {e : Env} {s : State} {m : MethodId} {A9 : Array Value} {below : List Frame} {meth : Method} {c : Code} {H : Heap} {locs : List Loc} {cells slots : Nat} {Q : State → Prop} {ls : Array Slot} {G : gx_G} {I V J U : gx_F} {o : Int64} {d : UInt64} {b L : Nat} {xs : Nat → Int32} {v : Int32} {K : gx_F → gx_F → gx_F → gx_F → Int64 → UInt64 → Option Int32} (hl9 : l.stackTraces = false) (hx : p.tables.exec = Jvm.exec) (hb : c.code = cL_law) (hml : c.maxLocals = 9) (hown : s.vm.findClass RL = some m.cls) (hV : gx_V G s) (hZ : gx_Z G s s.heap) (hX : va_X b L xs s s.heap) (hbl : b < s.heap.size) (hbA : ¬ gx_A G b) (hc1 : cells + 1 ≤ room_1.cells) (hs1 : slots + 6 ≤ room_1.slots) (hl : lv_has ls 9 [(0, .ref b), (1, .ref (G.2.1 44)), (2, .ref (G.2.1 58)), (3, .ref (G.2.1 68)), (4, .ref (G.2.1 69)), (5, .int v)]) (hw : gx_at G (I, V) (J, U) o d s.heap H locs) (hF : f_law_c7 xs L v K I V J U o d = some 1)
    (hK : ∀ (I V J U : gx_F) (o : Int64) (d : UInt64) (H : Heap) (locs : List Loc) (ls : Array Slot), lv_has ls 9 [(0, .ref b), (1, .ref (G.2.1 44)), (2, .ref (G.2.1 58)), (3, .ref (G.2.1 68)), (4, .ref (G.2.1 69)), (5, .int v)] → gx_at G (I, V) (J, U) o d s.heap H locs → K I V J U o d = some 1 → W p l e room_1 s m A9 below meth c H locs (cells + 1) (slots + 6) Q (F0 m 2154 ls [])) : W p l e room_1 s m A9 below meth c H locs cells slots Q (F0 m 696 ls []) := by
  have hc0 : cells ≤ room_1.cells := Nat.le_trans (Nat.le_add_right _ _) hc1
  have hs0 : slots ≤ room_1.slots := Nat.le_trans (Nat.le_add_right _ _) hs1
  unfold f_law_c7 at hF
  refine lv_aload_n (pc := 696) hx hb dL_law_696 rfl (lv_at hl 1 rfl) ?_
  refine lv_aload_n (pc := 697) hx hb dL_law_697 rfl (lv_at hl 0 rfl) ?_
  refine lv_iload (pc := 698) hx hb dL_law_698 (lv_at hl 5 rfl) ?_
  refine lv_iconst (pc := 700) (v := 1) hx hb dL_law_700 (by decide) ?_
  refine lv_iadd (pc := 701) hx hb dL_law_701 ?_
  refine gx_sld (pc := 702) hx hb hX hbl hbA hw hF dL_law_702 (fun _ hF => ?_)
  refine lv_aload_n (pc := 703) hx hb dL_law_703 rfl (lv_at hl 3 rfl) ?_
  obtain ⟨uq_1, huq_1, hF⟩ := Option.bind_eq_some_iff.mp hF
  refine cl_L_strengthOf (pc := 704) hl9 hx hb hml hown hV hZ hw huq_1 (gw_661 hV) hl.1 (Nat.le_of_ble_eq_true rfl) (Nat.le_of_ble_eq_true rfl) (Nat.le_of_ble_eq_true rfl) hc1 hs1 dL_law_704 (fun H locs hw => ?_)
  refine lv_istore (pc := 707) (lv' := [(6, .int uq_1.1), (0, .ref b), (1, .ref (G.2.1 44)), (2, .ref (G.2.1 58)), (3, .ref (G.2.1 68)), (4, .ref (G.2.1 69)), (5, .int v)]) hx hb dL_law_707 hl (by decide) rfl (fun ls hl => ?_)
  refine lv_aload_n (pc := 709) hx hb dL_law_709 rfl (lv_at hl 3 rfl) ?_
  refine lv_aload_n (pc := 710) hx hb dL_law_710 rfl (lv_at hl 1 rfl) ?_
  refine lv_iload (pc := 711) hx hb dL_law_711 (lv_at hl 6 rfl) ?_
  refine lv_iconst (pc := 713) (v := 1) hx hb dL_law_713 (by decide) ?_
  refine lv_iadd (pc := 714) hx hb dL_law_714 ?_
  refine gx_sld (pc := 715) hx hb hX hbl hbA hw hF dL_law_715 (fun _ hF => ?_)
  obtain ⟨uq_2, huq_2, hF⟩ := Option.bind_eq_some_iff.mp hF
  refine cl_X7_strengthOf (pc := 716) hx hb hml hown hV hw huq_2 (gw_1197 hV) hl.1 (Nat.le_of_ble_eq_true rfl) (Nat.le_of_ble_eq_true rfl) (Nat.le_of_ble_eq_true rfl) dL_law_716 (fun H locs hw => ?_) (hc := hc1) (hs := hs1)
  refine lv_istore (pc := 719) (lv' := [(7, .int uq_2.1), (6, .int uq_1.1), (0, .ref b), (1, .ref (G.2.1 44)), (2, .ref (G.2.1 58)), (3, .ref (G.2.1 68)), (4, .ref (G.2.1 69)), (5, .int v)]) hx hb dL_law_719 hl (by decide) rfl (fun ls hl => ?_)
  refine lv_aload_n (pc := 721) hx hb dL_law_721 rfl (lv_at hl 4 rfl) ?_
  obtain ⟨uq_3, huq_3, hF⟩ := Option.bind_eq_some_iff.mp hF
  refine cl_X7_thrown (pc := 722) hx hb hml hown hV hw huq_3 (gw_1085 hV) hl.1 (Nat.le_of_ble_eq_true rfl) (Nat.le_of_ble_eq_true rfl) (Nat.le_of_ble_eq_true rfl) dL_law_722 (fun H locs hw => ?_) (hc := hc1) (hs := hs1)
  refine lv_iload (pc := 725) hx hb dL_law_725 (lv_at hl 1 rfl) ?_
  refine gx_icmp_eq (pc := 727) (tgt := 732) hx hb hF dL_law_727 (by decide) (fun hF => ?_) (fun hF => ?_)
  · refine lv_iload (pc := 732) hx hb dL_law_732 (lv_at hl 1 rfl) ?_
    refine gx_if_ne (pc := 734) (tgt := 749) hx hb hF dL_law_734 (by decide) (fun hF => ?_) (fun hF => ?_)
    · refine lv_goto (pc := 749) (tgt := 2154) hx hb dL_law_749 (by decide) ?_
      exact hK _ _ _ _ _ _ _ _ _ (lv_sub hl [2, 3, 4, 5, 6, 7] rfl) hw hF
    refine lv_aload_n (pc := 737) hx hb dL_law_737 rfl (lv_at hl 5 rfl) ?_
    refine lv_iconst (pc := 738) (v := 0) hx hb dL_law_738 (by decide) ?_
    refine gx_lald (pc := 739) hx hb hV hw dL_law_739 ?_
    refine lv_iload (pc := 740) hx hb dL_law_740 (lv_at hl 0 rfl) ?_
    refine lv_i2l (pc := 742) (v := uq_2.1.toInt64) hx hb dL_law_742 rfl ?_
    refine W.lcmp (pc := 743) hx hb dL_law_743 ?_
    refine gx_if_eq (pc := 744) (tgt := 749) hx hb hF dL_law_744 (by decide) (fun hF => ?_) (fun hF => ?_)
    · refine lv_goto (pc := 749) (tgt := 2154) hx hb dL_law_749 (by decide) ?_
      exact hK _ _ _ _ _ _ _ _ _ (lv_sub hl [2, 3, 4, 5, 6, 7] rfl) hw hF
    refine lv_iconst (pc := 747) (v := 0) hx hb dL_law_747 (by decide) ?_
    exact absurd hF (by decide)
  refine lv_iconst (pc := 730) (v := 0) hx hb dL_law_730 (by decide) ?_
  exact absurd hF (by decide)
noncomputable def f_law_c8 (xs : Nat → Int32) (L : Nat) (v : Int32) (K : gx_F → gx_F → gx_F → gx_F → Int64 → UInt64 → Option Int32) (I V J U : gx_F) (o : Int64) (d : UInt64) : Option Int32 := (gx_ck (gx_in (v + 1) L) (gx_ck (gx_in (v + 2) L) (if (xs (v + 2).toNatClampNeg) = 0 then (Option.bind (f_L_brickAt (xs (v + 1).toNatClampNeg) 0 I V o) fun uq_1 => (gx_ck (gx_in (v + 1) L) (gx_ck (gx_in (v + 2) L) (if (xs (v + 2).toNatClampNeg) = 0 then (Option.bind (f_X7_brickAt (xs (v + 1).toNatClampNeg) 0 J U) fun uq_2 => (Option.bind (f_X7_thrown uq_2.2.1 uq_2.2.2) fun uq_3 => (if uq_3 = uq_1.1 then (if uq_1.1 = 0 then (if (lg_cmp uq_1.2.2.2 uq_2.1.toInt64) = 0 then (K uq_1.2.1 uq_1.2.2.1 uq_2.2.1 uq_2.2.2 uq_1.2.2.2 d) else (some 0)) else (K uq_1.2.1 uq_1.2.2.1 uq_2.2.1 uq_2.2.2 uq_1.2.2.2 d)) else (some 0)))) else (Option.bind (f_X7_brickAt (xs (v + 1).toNatClampNeg) 1 J U) fun uq_4 => (Option.bind (f_X7_thrown uq_4.2.1 uq_4.2.2) fun uq_5 => (if uq_5 = uq_1.1 then (if uq_1.1 = 0 then (if (lg_cmp uq_1.2.2.2 uq_4.1.toInt64) = 0 then (K uq_1.2.1 uq_1.2.2.1 uq_4.2.1 uq_4.2.2 uq_1.2.2.2 d) else (some 0)) else (K uq_1.2.1 uq_1.2.2.1 uq_4.2.1 uq_4.2.2 uq_1.2.2.2 d)) else (some 0)))))))) else (Option.bind (f_L_brickAt (xs (v + 1).toNatClampNeg) 1 I V o) fun uq_6 => (gx_ck (gx_in (v + 1) L) (gx_ck (gx_in (v + 2) L) (if (xs (v + 2).toNatClampNeg) = 0 then (Option.bind (f_X7_brickAt (xs (v + 1).toNatClampNeg) 0 J U) fun uq_7 => (Option.bind (f_X7_thrown uq_7.2.1 uq_7.2.2) fun uq_8 => (if uq_8 = uq_6.1 then (if uq_6.1 = 0 then (if (lg_cmp uq_6.2.2.2 uq_7.1.toInt64) = 0 then (K uq_6.2.1 uq_6.2.2.1 uq_7.2.1 uq_7.2.2 uq_6.2.2.2 d) else (some 0)) else (K uq_6.2.1 uq_6.2.2.1 uq_7.2.1 uq_7.2.2 uq_6.2.2.2 d)) else (some 0)))) else (Option.bind (f_X7_brickAt (xs (v + 1).toNatClampNeg) 1 J U) fun uq_9 => (Option.bind (f_X7_thrown uq_9.2.1 uq_9.2.2) fun uq_10 => (if uq_10 = uq_6.1 then (if uq_6.1 = 0 then (if (lg_cmp uq_6.2.2.2 uq_9.1.toInt64) = 0 then (K uq_6.2.1 uq_6.2.2.1 uq_9.2.1 uq_9.2.2 uq_6.2.2.2 d) else (some 0)) else (K uq_6.2.1 uq_6.2.2.1 uq_9.2.1 uq_9.2.2 uq_6.2.2.2 d)) else (some 0)))))))))))
set_option maxHeartbeats 4000000 in
set_option maxRecDepth 100000 in
theorem w_law_c8 {p : Program} {l : Launch} {e : Env} {s : State} {m : MethodId} {A9 : Array Value} {below : List Frame} {meth : Method} {c : Code} {H : Heap} {locs : List Loc} {cells slots : Nat} {Q : State → Prop} {ls : Array Slot} {G : gx_G} {I V J U : gx_F} {o : Int64} {d : UInt64} {b L : Nat} {xs : Nat → Int32} {v : Int32} {K : gx_F → gx_F → gx_F → gx_F → Int64 → UInt64 → Option Int32} (hl9 : l.stackTraces = false) (hx : p.tables.exec = Jvm.exec) (hb : c.code = cL_law) (hml : c.maxLocals = 9) (hown : s.vm.findClass RL = some m.cls) (hV : gx_V G s) (hZ : gx_Z G s s.heap) (hX : va_X b L xs s s.heap) (hbl : b < s.heap.size) (hbA : ¬ gx_A G b) (hc1 : cells + 1 ≤ room_1.cells) (hs1 : slots + 6 ≤ room_1.slots) (hl : lv_has ls 9 [(0, .ref b), (1, .ref (G.2.1 44)), (2, .ref (G.2.1 58)), (3, .ref (G.2.1 68)), (4, .ref (G.2.1 69)), (5, .int v)]) (hw : gx_at G (I, V) (J, U) o d s.heap H locs) (hF : f_law_c8 xs L v K I V J U o d = some 1)
    (hK : ∀ (I V J U : gx_F) (o : Int64) (d : UInt64) (H : Heap) (locs : List Loc) (ls : Array Slot), lv_has ls 9 [(0, .ref b), (1, .ref (G.2.1 44)), (2, .ref (G.2.1 58)), (3, .ref (G.2.1 68)), (4, .ref (G.2.1 69)), (5, .int v)] → gx_at G (I, V) (J, U) o d s.heap H locs → K I V J U o d = some 1 → W p l e room_1 s m A9 below meth c H locs (cells + 1) (slots + 6) Q (F0 m 2154 ls [])) : W p l e room_1 s m A9 below meth c H locs cells slots Q (F0 m 752 ls []) := by
  have hc0 : cells ≤ room_1.cells := Nat.le_trans (Nat.le_add_right _ _) hc1
  have hs0 : slots ≤ room_1.slots := Nat.le_trans (Nat.le_add_right _ _) hs1
  unfold f_law_c8 at hF
  refine lv_aload_n (pc := 752) hx hb dL_law_752 rfl (lv_at hl 1 rfl) ?_
  refine lv_aload_n (pc := 753) hx hb dL_law_753 rfl (lv_at hl 0 rfl) ?_
  refine lv_iload (pc := 754) hx hb dL_law_754 (lv_at hl 5 rfl) ?_
  refine lv_iconst (pc := 756) (v := 1) hx hb dL_law_756 (by decide) ?_
  refine lv_iadd (pc := 757) hx hb dL_law_757 ?_
  refine gx_sld (pc := 758) hx hb hX hbl hbA hw hF dL_law_758 (fun _ hF => ?_)
  refine lv_aload_n (pc := 759) hx hb dL_law_759 rfl (lv_at hl 0 rfl) ?_
  refine lv_iload (pc := 760) hx hb dL_law_760 (lv_at hl 5 rfl) ?_
  refine lv_iconst (pc := 762) (v := 2) hx hb dL_law_762 (by decide) ?_
  refine lv_iadd (pc := 763) hx hb dL_law_763 ?_
  refine gx_sld (pc := 764) hx hb hX hbl hbA hw hF dL_law_764 (fun _ hF => ?_)
  refine gx_if_eq (pc := 765) (tgt := 772) hx hb hF dL_law_765 (by decide) (fun hF => ?_) (fun hF => ?_)
  · refine lv_iconst (pc := 772) (v := 0) hx hb dL_law_772 (by decide) ?_
    refine lv_aload_n (pc := 773) hx hb dL_law_773 rfl (lv_at hl 3 rfl) ?_
    obtain ⟨uq_1, huq_1, hF⟩ := Option.bind_eq_some_iff.mp hF
    refine cl_L_brickAt (pc := 774) hl9 hx hb hml hown hV hZ hw huq_1 (gw_669 hV) hl.1 (Nat.le_of_ble_eq_true rfl) (Nat.le_of_ble_eq_true rfl) (Nat.le_of_ble_eq_true rfl) hc1 hs1 dL_law_774 (fun H locs hw => ?_)
    refine lv_istore (pc := 777) (lv' := [(6, .int uq_1.1), (0, .ref b), (1, .ref (G.2.1 44)), (2, .ref (G.2.1 58)), (3, .ref (G.2.1 68)), (4, .ref (G.2.1 69)), (5, .int v)]) hx hb dL_law_777 hl (by decide) rfl (fun ls hl => ?_)
    refine lv_aload_n (pc := 779) hx hb dL_law_779 rfl (lv_at hl 3 rfl) ?_
    refine lv_aload_n (pc := 780) hx hb dL_law_780 rfl (lv_at hl 1 rfl) ?_
    refine lv_iload (pc := 781) hx hb dL_law_781 (lv_at hl 6 rfl) ?_
    refine lv_iconst (pc := 783) (v := 1) hx hb dL_law_783 (by decide) ?_
    refine lv_iadd (pc := 784) hx hb dL_law_784 ?_
    refine gx_sld (pc := 785) hx hb hX hbl hbA hw hF dL_law_785 (fun _ hF => ?_)
    refine lv_aload_n (pc := 786) hx hb dL_law_786 rfl (lv_at hl 1 rfl) ?_
    refine lv_iload (pc := 787) hx hb dL_law_787 (lv_at hl 6 rfl) ?_
    refine lv_iconst (pc := 789) (v := 2) hx hb dL_law_789 (by decide) ?_
    refine lv_iadd (pc := 790) hx hb dL_law_790 ?_
    refine gx_sld (pc := 791) hx hb hX hbl hbA hw hF dL_law_791 (fun _ hF => ?_)
    refine gx_if_eq (pc := 792) (tgt := 799) hx hb hF dL_law_792 (by decide) (fun hF => ?_) (fun hF => ?_)
    · refine lv_iconst (pc := 799) (v := 0) hx hb dL_law_799 (by decide) ?_
      obtain ⟨uq_2, huq_2, hF⟩ := Option.bind_eq_some_iff.mp hF
      refine cl_X7_brickAt (pc := 800) hx hb hml hown hV hw huq_2 (gw_1201 hV) hl.1 (Nat.le_of_ble_eq_true rfl) (Nat.le_of_ble_eq_true rfl) (Nat.le_of_ble_eq_true rfl) dL_law_800 (fun H locs hw => ?_) (hc := hc1) (hs := hs1)
      refine lv_istore (pc := 803) (lv' := [(7, .int uq_2.1), (6, .int uq_1.1), (0, .ref b), (1, .ref (G.2.1 44)), (2, .ref (G.2.1 58)), (3, .ref (G.2.1 68)), (4, .ref (G.2.1 69)), (5, .int v)]) hx hb dL_law_803 hl (by decide) rfl (fun ls hl => ?_)
      refine lv_aload_n (pc := 805) hx hb dL_law_805 rfl (lv_at hl 4 rfl) ?_
      obtain ⟨uq_3, huq_3, hF⟩ := Option.bind_eq_some_iff.mp hF
      refine cl_X7_thrown (pc := 806) hx hb hml hown hV hw huq_3 (gw_1085 hV) hl.1 (Nat.le_of_ble_eq_true rfl) (Nat.le_of_ble_eq_true rfl) (Nat.le_of_ble_eq_true rfl) dL_law_806 (fun H locs hw => ?_) (hc := hc1) (hs := hs1)
      refine lv_iload (pc := 809) hx hb dL_law_809 (lv_at hl 1 rfl) ?_
      refine gx_icmp_eq (pc := 811) (tgt := 816) hx hb hF dL_law_811 (by decide) (fun hF => ?_) (fun hF => ?_)
      · refine lv_iload (pc := 816) hx hb dL_law_816 (lv_at hl 1 rfl) ?_
        refine gx_if_ne (pc := 818) (tgt := 833) hx hb hF dL_law_818 (by decide) (fun hF => ?_) (fun hF => ?_)
        · refine lv_goto (pc := 833) (tgt := 2154) hx hb dL_law_833 (by decide) ?_
          exact hK _ _ _ _ _ _ _ _ _ (lv_sub hl [2, 3, 4, 5, 6, 7] rfl) hw hF
        refine lv_aload_n (pc := 821) hx hb dL_law_821 rfl (lv_at hl 5 rfl) ?_
        refine lv_iconst (pc := 822) (v := 0) hx hb dL_law_822 (by decide) ?_
        refine gx_lald (pc := 823) hx hb hV hw dL_law_823 ?_
        refine lv_iload (pc := 824) hx hb dL_law_824 (lv_at hl 0 rfl) ?_
        refine lv_i2l (pc := 826) (v := uq_2.1.toInt64) hx hb dL_law_826 rfl ?_
        refine W.lcmp (pc := 827) hx hb dL_law_827 ?_
        refine gx_if_eq (pc := 828) (tgt := 833) hx hb hF dL_law_828 (by decide) (fun hF => ?_) (fun hF => ?_)
        · refine lv_goto (pc := 833) (tgt := 2154) hx hb dL_law_833 (by decide) ?_
          exact hK _ _ _ _ _ _ _ _ _ (lv_sub hl [2, 3, 4, 5, 6, 7] rfl) hw hF
        refine lv_iconst (pc := 831) (v := 0) hx hb dL_law_831 (by decide) ?_
        exact absurd hF (by decide)
      refine lv_iconst (pc := 814) (v := 0) hx hb dL_law_814 (by decide) ?_
      exact absurd hF (by decide)
    refine lv_iconst (pc := 795) (v := 1) hx hb dL_law_795 (by decide) ?_
    refine lv_goto (pc := 796) (tgt := 800) hx hb dL_law_796 (by decide) ?_
    obtain ⟨uq_4, huq_4, hF⟩ := Option.bind_eq_some_iff.mp hF
    refine cl_X7_brickAt (pc := 800) hx hb hml hown hV hw huq_4 (gw_1201 hV) hl.1 (Nat.le_of_ble_eq_true rfl) (Nat.le_of_ble_eq_true rfl) (Nat.le_of_ble_eq_true rfl) dL_law_800 (fun H locs hw => ?_) (hc := hc1) (hs := hs1)
    refine lv_istore (pc := 803) (lv' := [(7, .int uq_4.1), (6, .int uq_1.1), (0, .ref b), (1, .ref (G.2.1 44)), (2, .ref (G.2.1 58)), (3, .ref (G.2.1 68)), (4, .ref (G.2.1 69)), (5, .int v)]) hx hb dL_law_803 hl (by decide) rfl (fun ls hl => ?_)
    refine lv_aload_n (pc := 805) hx hb dL_law_805 rfl (lv_at hl 4 rfl) ?_
    obtain ⟨uq_5, huq_5, hF⟩ := Option.bind_eq_some_iff.mp hF
    refine cl_X7_thrown (pc := 806) hx hb hml hown hV hw huq_5 (gw_1085 hV) hl.1 (Nat.le_of_ble_eq_true rfl) (Nat.le_of_ble_eq_true rfl) (Nat.le_of_ble_eq_true rfl) dL_law_806 (fun H locs hw => ?_) (hc := hc1) (hs := hs1)
    refine lv_iload (pc := 809) hx hb dL_law_809 (lv_at hl 1 rfl) ?_
    refine gx_icmp_eq (pc := 811) (tgt := 816) hx hb hF dL_law_811 (by decide) (fun hF => ?_) (fun hF => ?_)
    · refine lv_iload (pc := 816) hx hb dL_law_816 (lv_at hl 1 rfl) ?_
      refine gx_if_ne (pc := 818) (tgt := 833) hx hb hF dL_law_818 (by decide) (fun hF => ?_) (fun hF => ?_)
      · refine lv_goto (pc := 833) (tgt := 2154) hx hb dL_law_833 (by decide) ?_
        exact hK _ _ _ _ _ _ _ _ _ (lv_sub hl [2, 3, 4, 5, 6, 7] rfl) hw hF
      refine lv_aload_n (pc := 821) hx hb dL_law_821 rfl (lv_at hl 5 rfl) ?_
      refine lv_iconst (pc := 822) (v := 0) hx hb dL_law_822 (by decide) ?_
      refine gx_lald (pc := 823) hx hb hV hw dL_law_823 ?_
      refine lv_iload (pc := 824) hx hb dL_law_824 (lv_at hl 0 rfl) ?_
      refine lv_i2l (pc := 826) (v := uq_4.1.toInt64) hx hb dL_law_826 rfl ?_
      refine W.lcmp (pc := 827) hx hb dL_law_827 ?_
      refine gx_if_eq (pc := 828) (tgt := 833) hx hb hF dL_law_828 (by decide) (fun hF => ?_) (fun hF => ?_)
      · refine lv_goto (pc := 833) (tgt := 2154) hx hb dL_law_833 (by decide) ?_
        exact hK _ _ _ _ _ _ _ _ _ (lv_sub hl [2, 3, 4, 5, 6, 7] rfl) hw hF
      refine lv_iconst (pc := 831) (v := 0) hx hb dL_law_831 (by decide) ?_
      exact absurd hF (by decide)
    refine lv_iconst (pc := 814) (v := 0) hx hb dL_law_814 (by decide) ?_
    exact absurd hF (by decide)
  refine lv_iconst (pc := 768) (v := 1) hx hb dL_law_768 (by decide) ?_
  refine lv_goto (pc := 769) (tgt := 773) hx hb dL_law_769 (by decide) ?_
  refine lv_aload_n (pc := 773) hx hb dL_law_773 rfl (lv_at hl 3 rfl) ?_
  obtain ⟨uq_6, huq_6, hF⟩ := Option.bind_eq_some_iff.mp hF
  refine cl_L_brickAt (pc := 774) hl9 hx hb hml hown hV hZ hw huq_6 (gw_669 hV) hl.1 (Nat.le_of_ble_eq_true rfl) (Nat.le_of_ble_eq_true rfl) (Nat.le_of_ble_eq_true rfl) hc1 hs1 dL_law_774 (fun H locs hw => ?_)
  refine lv_istore (pc := 777) (lv' := [(6, .int uq_6.1), (0, .ref b), (1, .ref (G.2.1 44)), (2, .ref (G.2.1 58)), (3, .ref (G.2.1 68)), (4, .ref (G.2.1 69)), (5, .int v)]) hx hb dL_law_777 hl (by decide) rfl (fun ls hl => ?_)
  refine lv_aload_n (pc := 779) hx hb dL_law_779 rfl (lv_at hl 3 rfl) ?_
  refine lv_aload_n (pc := 780) hx hb dL_law_780 rfl (lv_at hl 1 rfl) ?_
  refine lv_iload (pc := 781) hx hb dL_law_781 (lv_at hl 6 rfl) ?_
  refine lv_iconst (pc := 783) (v := 1) hx hb dL_law_783 (by decide) ?_
  refine lv_iadd (pc := 784) hx hb dL_law_784 ?_
  refine gx_sld (pc := 785) hx hb hX hbl hbA hw hF dL_law_785 (fun _ hF => ?_)
  refine lv_aload_n (pc := 786) hx hb dL_law_786 rfl (lv_at hl 1 rfl) ?_
  refine lv_iload (pc := 787) hx hb dL_law_787 (lv_at hl 6 rfl) ?_
  refine lv_iconst (pc := 789) (v := 2) hx hb dL_law_789 (by decide) ?_
  refine lv_iadd (pc := 790) hx hb dL_law_790 ?_
  refine gx_sld (pc := 791) hx hb hX hbl hbA hw hF dL_law_791 (fun _ hF => ?_)
  refine gx_if_eq (pc := 792) (tgt := 799) hx hb hF dL_law_792 (by decide) (fun hF => ?_) (fun hF => ?_)
  · refine lv_iconst (pc := 799) (v := 0) hx hb dL_law_799 (by decide) ?_
    obtain ⟨uq_7, huq_7, hF⟩ := Option.bind_eq_some_iff.mp hF
    refine cl_X7_brickAt (pc := 800) hx hb hml hown hV hw huq_7 (gw_1201 hV) hl.1 (Nat.le_of_ble_eq_true rfl) (Nat.le_of_ble_eq_true rfl) (Nat.le_of_ble_eq_true rfl) dL_law_800 (fun H locs hw => ?_) (hc := hc1) (hs := hs1)
    refine lv_istore (pc := 803) (lv' := [(7, .int uq_7.1), (6, .int uq_6.1), (0, .ref b), (1, .ref (G.2.1 44)), (2, .ref (G.2.1 58)), (3, .ref (G.2.1 68)), (4, .ref (G.2.1 69)), (5, .int v)]) hx hb dL_law_803 hl (by decide) rfl (fun ls hl => ?_)
    refine lv_aload_n (pc := 805) hx hb dL_law_805 rfl (lv_at hl 4 rfl) ?_
    obtain ⟨uq_8, huq_8, hF⟩ := Option.bind_eq_some_iff.mp hF
    refine cl_X7_thrown (pc := 806) hx hb hml hown hV hw huq_8 (gw_1085 hV) hl.1 (Nat.le_of_ble_eq_true rfl) (Nat.le_of_ble_eq_true rfl) (Nat.le_of_ble_eq_true rfl) dL_law_806 (fun H locs hw => ?_) (hc := hc1) (hs := hs1)
    refine lv_iload (pc := 809) hx hb dL_law_809 (lv_at hl 1 rfl) ?_
    refine gx_icmp_eq (pc := 811) (tgt := 816) hx hb hF dL_law_811 (by decide) (fun hF => ?_) (fun hF => ?_)
    · refine lv_iload (pc := 816) hx hb dL_law_816 (lv_at hl 1 rfl) ?_
      refine gx_if_ne (pc := 818) (tgt := 833) hx hb hF dL_law_818 (by decide) (fun hF => ?_) (fun hF => ?_)
      · refine lv_goto (pc := 833) (tgt := 2154) hx hb dL_law_833 (by decide) ?_
        exact hK _ _ _ _ _ _ _ _ _ (lv_sub hl [2, 3, 4, 5, 6, 7] rfl) hw hF
      refine lv_aload_n (pc := 821) hx hb dL_law_821 rfl (lv_at hl 5 rfl) ?_
      refine lv_iconst (pc := 822) (v := 0) hx hb dL_law_822 (by decide) ?_
      refine gx_lald (pc := 823) hx hb hV hw dL_law_823 ?_
      refine lv_iload (pc := 824) hx hb dL_law_824 (lv_at hl 0 rfl) ?_
      refine lv_i2l (pc := 826) (v := uq_7.1.toInt64) hx hb dL_law_826 rfl ?_
      refine W.lcmp (pc := 827) hx hb dL_law_827 ?_
      refine gx_if_eq (pc := 828) (tgt := 833) hx hb hF dL_law_828 (by decide) (fun hF => ?_) (fun hF => ?_)
      · refine lv_goto (pc := 833) (tgt := 2154) hx hb dL_law_833 (by decide) ?_
        exact hK _ _ _ _ _ _ _ _ _ (lv_sub hl [2, 3, 4, 5, 6, 7] rfl) hw hF
      refine lv_iconst (pc := 831) (v := 0) hx hb dL_law_831 (by decide) ?_
      exact absurd hF (by decide)
    refine lv_iconst (pc := 814) (v := 0) hx hb dL_law_814 (by decide) ?_
    exact absurd hF (by decide)
  refine lv_iconst (pc := 795) (v := 1) hx hb dL_law_795 (by decide) ?_
  refine lv_goto (pc := 796) (tgt := 800) hx hb dL_law_796 (by decide) ?_
  obtain ⟨uq_9, huq_9, hF⟩ := Option.bind_eq_some_iff.mp hF
  refine cl_X7_brickAt (pc := 800) hx hb hml hown hV hw huq_9 (gw_1201 hV) hl.1 (Nat.le_of_ble_eq_true rfl) (Nat.le_of_ble_eq_true rfl) (Nat.le_of_ble_eq_true rfl) dL_law_800 (fun H locs hw => ?_) (hc := hc1) (hs := hs1)
  refine lv_istore (pc := 803) (lv' := [(7, .int uq_9.1), (6, .int uq_6.1), (0, .ref b), (1, .ref (G.2.1 44)), (2, .ref (G.2.1 58)), (3, .ref (G.2.1 68)), (4, .ref (G.2.1 69)), (5, .int v)]) hx hb dL_law_803 hl (by decide) rfl (fun ls hl => ?_)
  refine lv_aload_n (pc := 805) hx hb dL_law_805 rfl (lv_at hl 4 rfl) ?_
  obtain ⟨uq_10, huq_10, hF⟩ := Option.bind_eq_some_iff.mp hF
  refine cl_X7_thrown (pc := 806) hx hb hml hown hV hw huq_10 (gw_1085 hV) hl.1 (Nat.le_of_ble_eq_true rfl) (Nat.le_of_ble_eq_true rfl) (Nat.le_of_ble_eq_true rfl) dL_law_806 (fun H locs hw => ?_) (hc := hc1) (hs := hs1)
  refine lv_iload (pc := 809) hx hb dL_law_809 (lv_at hl 1 rfl) ?_
  refine gx_icmp_eq (pc := 811) (tgt := 816) hx hb hF dL_law_811 (by decide) (fun hF => ?_) (fun hF => ?_)
  · refine lv_iload (pc := 816) hx hb dL_law_816 (lv_at hl 1 rfl) ?_
    refine gx_if_ne (pc := 818) (tgt := 833) hx hb hF dL_law_818 (by decide) (fun hF => ?_) (fun hF => ?_)
    · refine lv_goto (pc := 833) (tgt := 2154) hx hb dL_law_833 (by decide) ?_
      exact hK _ _ _ _ _ _ _ _ _ (lv_sub hl [2, 3, 4, 5, 6, 7] rfl) hw hF
    refine lv_aload_n (pc := 821) hx hb dL_law_821 rfl (lv_at hl 5 rfl) ?_
    refine lv_iconst (pc := 822) (v := 0) hx hb dL_law_822 (by decide) ?_
    refine gx_lald (pc := 823) hx hb hV hw dL_law_823 ?_
    refine lv_iload (pc := 824) hx hb dL_law_824 (lv_at hl 0 rfl) ?_
    refine lv_i2l (pc := 826) (v := uq_9.1.toInt64) hx hb dL_law_826 rfl ?_
    refine W.lcmp (pc := 827) hx hb dL_law_827 ?_
    refine gx_if_eq (pc := 828) (tgt := 833) hx hb hF dL_law_828 (by decide) (fun hF => ?_) (fun hF => ?_)
    · refine lv_goto (pc := 833) (tgt := 2154) hx hb dL_law_833 (by decide) ?_
      exact hK _ _ _ _ _ _ _ _ _ (lv_sub hl [2, 3, 4, 5, 6, 7] rfl) hw hF
    refine lv_iconst (pc := 831) (v := 0) hx hb dL_law_831 (by decide) ?_
    exact absurd hF (by decide)
  refine lv_iconst (pc := 814) (v := 0) hx hb dL_law_814 (by decide) ?_
  exact absurd hF (by decide)
noncomputable def f_law_c9 (xs : Nat → Int32) (L : Nat) (v : Int32) (K : gx_F → gx_F → gx_F → gx_F → Int64 → UInt64 → Option Int32) (I V J U : gx_F) (o : Int64) (d : UInt64) : Option Int32 := (Option.bind (f_L_seed I V o) fun uq_1 => (Option.bind (f_X7_seed J U) fun uq_2 => (Option.bind (f_X7_thrown uq_2.2.1 uq_2.2.2) fun uq_3 => (if uq_3 = uq_1.1 then (if uq_1.1 = 0 then (if (lg_cmp uq_1.2.2.2 uq_2.1.toInt64) = 0 then (K uq_1.2.1 uq_1.2.2.1 uq_2.2.1 uq_2.2.2 uq_1.2.2.2 d) else (some 0)) else (K uq_1.2.1 uq_1.2.2.1 uq_2.2.1 uq_2.2.2 uq_1.2.2.2 d)) else (some 0)))))
set_option maxHeartbeats 4000000 in
set_option maxRecDepth 100000 in
theorem w_law_c9 {p : Program} {l : Launch} {e : Env} {s : State} {m : MethodId} {A9 : Array Value} {below : List Frame} {meth : Method} {c : Code} {H : Heap} {locs : List Loc} {cells slots : Nat} {Q : State → Prop} {ls : Array Slot} {G : gx_G} {I V J U : gx_F} {o : Int64} {d : UInt64} {b L : Nat} {xs : Nat → Int32} {v : Int32} {K : gx_F → gx_F → gx_F → gx_F → Int64 → UInt64 → Option Int32} (hl9 : l.stackTraces = false) (hx : p.tables.exec = Jvm.exec) (hb : c.code = cL_law) (hml : c.maxLocals = 9) (hown : s.vm.findClass RL = some m.cls) (hV : gx_V G s) (hZ : gx_Z G s s.heap) (hX : va_X b L xs s s.heap) (hbl : b < s.heap.size) (hbA : ¬ gx_A G b) (hc1 : cells + 1 ≤ room_1.cells) (hs1 : slots + 6 ≤ room_1.slots) (hl : lv_has ls 9 [(0, .ref b), (1, .ref (G.2.1 44)), (2, .ref (G.2.1 58)), (3, .ref (G.2.1 68)), (4, .ref (G.2.1 69)), (5, .int v)]) (hw : gx_at G (I, V) (J, U) o d s.heap H locs) (hF : f_law_c9 xs L v K I V J U o d = some 1)
    (hK : ∀ (I V J U : gx_F) (o : Int64) (d : UInt64) (H : Heap) (locs : List Loc) (ls : Array Slot), lv_has ls 9 [(0, .ref b), (1, .ref (G.2.1 44)), (2, .ref (G.2.1 58)), (3, .ref (G.2.1 68)), (4, .ref (G.2.1 69)), (5, .int v)] → gx_at G (I, V) (J, U) o d s.heap H locs → K I V J U o d = some 1 → W p l e room_1 s m A9 below meth c H locs (cells + 1) (slots + 6) Q (F0 m 2154 ls [])) : W p l e room_1 s m A9 below meth c H locs cells slots Q (F0 m 836 ls []) := by
  have hc0 : cells ≤ room_1.cells := Nat.le_trans (Nat.le_add_right _ _) hc1
  have hs0 : slots ≤ room_1.slots := Nat.le_trans (Nat.le_add_right _ _) hs1
  unfold f_law_c9 at hF
  refine lv_aload_n (pc := 836) hx hb dL_law_836 rfl (lv_at hl 1 rfl) ?_
  refine lv_aload_n (pc := 837) hx hb dL_law_837 rfl (lv_at hl 3 rfl) ?_
  obtain ⟨uq_1, huq_1, hF⟩ := Option.bind_eq_some_iff.mp hF
  refine cl_L_seed (pc := 838) hl9 hx hb hml hown hV hZ hw huq_1 (gw_700 hV) hl.1 (Nat.le_of_ble_eq_true rfl) (Nat.le_of_ble_eq_true rfl) (Nat.le_of_ble_eq_true rfl) hc1 hs1 dL_law_838 (fun H locs hw => ?_)
  refine lv_istore (pc := 841) (lv' := [(6, .int uq_1.1), (0, .ref b), (1, .ref (G.2.1 44)), (2, .ref (G.2.1 58)), (3, .ref (G.2.1 68)), (4, .ref (G.2.1 69)), (5, .int v)]) hx hb dL_law_841 hl (by decide) rfl (fun ls hl => ?_)
  refine lv_aload_n (pc := 843) hx hb dL_law_843 rfl (lv_at hl 3 rfl) ?_
  obtain ⟨uq_2, huq_2, hF⟩ := Option.bind_eq_some_iff.mp hF
  refine cl_X7_seed (pc := 844) hx hb hml hown hV hw huq_2 (gw_1209 hV) hl.1 (Nat.le_of_ble_eq_true rfl) (Nat.le_of_ble_eq_true rfl) (Nat.le_of_ble_eq_true rfl) dL_law_844 (fun H locs hw => ?_) (hc := hc1) (hs := hs1)
  refine lv_istore (pc := 847) (lv' := [(7, .int uq_2.1), (6, .int uq_1.1), (0, .ref b), (1, .ref (G.2.1 44)), (2, .ref (G.2.1 58)), (3, .ref (G.2.1 68)), (4, .ref (G.2.1 69)), (5, .int v)]) hx hb dL_law_847 hl (by decide) rfl (fun ls hl => ?_)
  refine lv_aload_n (pc := 849) hx hb dL_law_849 rfl (lv_at hl 4 rfl) ?_
  obtain ⟨uq_3, huq_3, hF⟩ := Option.bind_eq_some_iff.mp hF
  refine cl_X7_thrown (pc := 850) hx hb hml hown hV hw huq_3 (gw_1085 hV) hl.1 (Nat.le_of_ble_eq_true rfl) (Nat.le_of_ble_eq_true rfl) (Nat.le_of_ble_eq_true rfl) dL_law_850 (fun H locs hw => ?_) (hc := hc1) (hs := hs1)
  refine lv_iload (pc := 853) hx hb dL_law_853 (lv_at hl 1 rfl) ?_
  refine gx_icmp_eq (pc := 855) (tgt := 860) hx hb hF dL_law_855 (by decide) (fun hF => ?_) (fun hF => ?_)
  · refine lv_iload (pc := 860) hx hb dL_law_860 (lv_at hl 1 rfl) ?_
    refine gx_if_ne (pc := 862) (tgt := 877) hx hb hF dL_law_862 (by decide) (fun hF => ?_) (fun hF => ?_)
    · refine lv_goto (pc := 877) (tgt := 2154) hx hb dL_law_877 (by decide) ?_
      exact hK _ _ _ _ _ _ _ _ _ (lv_sub hl [2, 3, 4, 5, 6, 7] rfl) hw hF
    refine lv_aload_n (pc := 865) hx hb dL_law_865 rfl (lv_at hl 5 rfl) ?_
    refine lv_iconst (pc := 866) (v := 0) hx hb dL_law_866 (by decide) ?_
    refine gx_lald (pc := 867) hx hb hV hw dL_law_867 ?_
    refine lv_iload (pc := 868) hx hb dL_law_868 (lv_at hl 0 rfl) ?_
    refine lv_i2l (pc := 870) (v := uq_2.1.toInt64) hx hb dL_law_870 rfl ?_
    refine W.lcmp (pc := 871) hx hb dL_law_871 ?_
    refine gx_if_eq (pc := 872) (tgt := 877) hx hb hF dL_law_872 (by decide) (fun hF => ?_) (fun hF => ?_)
    · refine lv_goto (pc := 877) (tgt := 2154) hx hb dL_law_877 (by decide) ?_
      exact hK _ _ _ _ _ _ _ _ _ (lv_sub hl [2, 3, 4, 5, 6, 7] rfl) hw hF
    refine lv_iconst (pc := 875) (v := 0) hx hb dL_law_875 (by decide) ?_
    exact absurd hF (by decide)
  refine lv_iconst (pc := 858) (v := 0) hx hb dL_law_858 (by decide) ?_
  exact absurd hF (by decide)
noncomputable def f_law_c10 (xs : Nat → Int32) (L : Nat) (v : Int32) (K : gx_F → gx_F → gx_F → gx_F → Int64 → UInt64 → Option Int32) (I V J U : gx_F) (o : Int64) (d : UInt64) : Option Int32 := (gx_ck (gx_in (v + 1) L) (Option.bind (f_L_hold (xs (v + 1).toNatClampNeg) I V o) fun uq_1 => (gx_ck (gx_in (v + 1) L) (Option.bind (f_X7_hold (xs (v + 1).toNatClampNeg) J U) fun uq_2 => (Option.bind (f_X7_thrown uq_2.2.1 uq_2.2.2) fun uq_3 => (if uq_3 = uq_1.1 then (if uq_1.1 = 0 then (if (lg_cmp uq_1.2.2.2 uq_2.1.toInt64) = 0 then (K uq_1.2.1 uq_1.2.2.1 uq_2.2.1 uq_2.2.2 uq_1.2.2.2 d) else (some 0)) else (K uq_1.2.1 uq_1.2.2.1 uq_2.2.1 uq_2.2.2 uq_1.2.2.2 d)) else (some 0)))))))
set_option maxHeartbeats 4000000 in
set_option maxRecDepth 100000 in
theorem w_law_c10 {p : Program} {l : Launch} {e : Env} {s : State} {m : MethodId} {A9 : Array Value} {below : List Frame} {meth : Method} {c : Code} {H : Heap} {locs : List Loc} {cells slots : Nat} {Q : State → Prop} {ls : Array Slot} {G : gx_G} {I V J U : gx_F} {o : Int64} {d : UInt64} {b L : Nat} {xs : Nat → Int32} {v : Int32} {K : gx_F → gx_F → gx_F → gx_F → Int64 → UInt64 → Option Int32} (hl9 : l.stackTraces = false) (hx : p.tables.exec = Jvm.exec) (hb : c.code = cL_law) (hml : c.maxLocals = 9) (hown : s.vm.findClass RL = some m.cls) (hV : gx_V G s) (hZ : gx_Z G s s.heap) (hX : va_X b L xs s s.heap) (hbl : b < s.heap.size) (hbA : ¬ gx_A G b) (hc1 : cells + 1 ≤ room_1.cells) (hs1 : slots + 6 ≤ room_1.slots) (hl : lv_has ls 9 [(0, .ref b), (1, .ref (G.2.1 44)), (2, .ref (G.2.1 58)), (3, .ref (G.2.1 68)), (4, .ref (G.2.1 69)), (5, .int v)]) (hw : gx_at G (I, V) (J, U) o d s.heap H locs) (hF : f_law_c10 xs L v K I V J U o d = some 1)
    (hK : ∀ (I V J U : gx_F) (o : Int64) (d : UInt64) (H : Heap) (locs : List Loc) (ls : Array Slot), lv_has ls 9 [(0, .ref b), (1, .ref (G.2.1 44)), (2, .ref (G.2.1 58)), (3, .ref (G.2.1 68)), (4, .ref (G.2.1 69)), (5, .int v)] → gx_at G (I, V) (J, U) o d s.heap H locs → K I V J U o d = some 1 → W p l e room_1 s m A9 below meth c H locs (cells + 1) (slots + 6) Q (F0 m 2154 ls [])) : W p l e room_1 s m A9 below meth c H locs cells slots Q (F0 m 880 ls []) := by
  have hc0 : cells ≤ room_1.cells := Nat.le_trans (Nat.le_add_right _ _) hc1
  have hs0 : slots ≤ room_1.slots := Nat.le_trans (Nat.le_add_right _ _) hs1
  unfold f_law_c10 at hF
  refine lv_aload_n (pc := 880) hx hb dL_law_880 rfl (lv_at hl 1 rfl) ?_
  refine lv_aload_n (pc := 881) hx hb dL_law_881 rfl (lv_at hl 0 rfl) ?_
  refine lv_iload (pc := 882) hx hb dL_law_882 (lv_at hl 5 rfl) ?_
  refine lv_iconst (pc := 884) (v := 1) hx hb dL_law_884 (by decide) ?_
  refine lv_iadd (pc := 885) hx hb dL_law_885 ?_
  refine gx_sld (pc := 886) hx hb hX hbl hbA hw hF dL_law_886 (fun _ hF => ?_)
  refine lv_aload_n (pc := 887) hx hb dL_law_887 rfl (lv_at hl 3 rfl) ?_
  obtain ⟨uq_1, huq_1, hF⟩ := Option.bind_eq_some_iff.mp hF
  refine cl_L_hold (pc := 888) hl9 hx hb hml hown hV hZ hw huq_1 (gw_708 hV) hl.1 (Nat.le_of_ble_eq_true rfl) (Nat.le_of_ble_eq_true rfl) (Nat.le_of_ble_eq_true rfl) hc1 hs1 dL_law_888 (fun H locs hw => ?_)
  refine lv_istore (pc := 891) (lv' := [(6, .int uq_1.1), (0, .ref b), (1, .ref (G.2.1 44)), (2, .ref (G.2.1 58)), (3, .ref (G.2.1 68)), (4, .ref (G.2.1 69)), (5, .int v)]) hx hb dL_law_891 hl (by decide) rfl (fun ls hl => ?_)
  refine lv_aload_n (pc := 893) hx hb dL_law_893 rfl (lv_at hl 3 rfl) ?_
  refine lv_aload_n (pc := 894) hx hb dL_law_894 rfl (lv_at hl 1 rfl) ?_
  refine lv_iload (pc := 895) hx hb dL_law_895 (lv_at hl 6 rfl) ?_
  refine lv_iconst (pc := 897) (v := 1) hx hb dL_law_897 (by decide) ?_
  refine lv_iadd (pc := 898) hx hb dL_law_898 ?_
  refine gx_sld (pc := 899) hx hb hX hbl hbA hw hF dL_law_899 (fun _ hF => ?_)
  obtain ⟨uq_2, huq_2, hF⟩ := Option.bind_eq_some_iff.mp hF
  refine cl_X7_hold (pc := 900) hx hb hml hown hV hw huq_2 (gw_1213 hV) hl.1 (Nat.le_of_ble_eq_true rfl) (Nat.le_of_ble_eq_true rfl) (Nat.le_of_ble_eq_true rfl) dL_law_900 (fun H locs hw => ?_) (hc := hc1) (hs := hs1)
  refine lv_istore (pc := 903) (lv' := [(7, .int uq_2.1), (6, .int uq_1.1), (0, .ref b), (1, .ref (G.2.1 44)), (2, .ref (G.2.1 58)), (3, .ref (G.2.1 68)), (4, .ref (G.2.1 69)), (5, .int v)]) hx hb dL_law_903 hl (by decide) rfl (fun ls hl => ?_)
  refine lv_aload_n (pc := 905) hx hb dL_law_905 rfl (lv_at hl 4 rfl) ?_
  obtain ⟨uq_3, huq_3, hF⟩ := Option.bind_eq_some_iff.mp hF
  refine cl_X7_thrown (pc := 906) hx hb hml hown hV hw huq_3 (gw_1085 hV) hl.1 (Nat.le_of_ble_eq_true rfl) (Nat.le_of_ble_eq_true rfl) (Nat.le_of_ble_eq_true rfl) dL_law_906 (fun H locs hw => ?_) (hc := hc1) (hs := hs1)
  refine lv_iload (pc := 909) hx hb dL_law_909 (lv_at hl 1 rfl) ?_
  refine gx_icmp_eq (pc := 911) (tgt := 916) hx hb hF dL_law_911 (by decide) (fun hF => ?_) (fun hF => ?_)
  · refine lv_iload (pc := 916) hx hb dL_law_916 (lv_at hl 1 rfl) ?_
    refine gx_if_ne (pc := 918) (tgt := 933) hx hb hF dL_law_918 (by decide) (fun hF => ?_) (fun hF => ?_)
    · refine lv_goto (pc := 933) (tgt := 2154) hx hb dL_law_933 (by decide) ?_
      exact hK _ _ _ _ _ _ _ _ _ (lv_sub hl [2, 3, 4, 5, 6, 7] rfl) hw hF
    refine lv_aload_n (pc := 921) hx hb dL_law_921 rfl (lv_at hl 5 rfl) ?_
    refine lv_iconst (pc := 922) (v := 0) hx hb dL_law_922 (by decide) ?_
    refine gx_lald (pc := 923) hx hb hV hw dL_law_923 ?_
    refine lv_iload (pc := 924) hx hb dL_law_924 (lv_at hl 0 rfl) ?_
    refine lv_i2l (pc := 926) (v := uq_2.1.toInt64) hx hb dL_law_926 rfl ?_
    refine W.lcmp (pc := 927) hx hb dL_law_927 ?_
    refine gx_if_eq (pc := 928) (tgt := 933) hx hb hF dL_law_928 (by decide) (fun hF => ?_) (fun hF => ?_)
    · refine lv_goto (pc := 933) (tgt := 2154) hx hb dL_law_933 (by decide) ?_
      exact hK _ _ _ _ _ _ _ _ _ (lv_sub hl [2, 3, 4, 5, 6, 7] rfl) hw hF
    refine lv_iconst (pc := 931) (v := 0) hx hb dL_law_931 (by decide) ?_
    exact absurd hF (by decide)
  refine lv_iconst (pc := 914) (v := 0) hx hb dL_law_914 (by decide) ?_
  exact absurd hF (by decide)
noncomputable def f_law_c11 (xs : Nat → Int32) (L : Nat) (v : Int32) (K : gx_F → gx_F → gx_F → gx_F → Int64 → UInt64 → Option Int32) (I V J U : gx_F) (o : Int64) (d : UInt64) : Option Int32 := (gx_ck (gx_in (v + 1) L) (Option.bind (f_L_holdAgain (xs (v + 1).toNatClampNeg) I V o) fun uq_1 => (gx_ck (gx_in (v + 1) L) (Option.bind (f_X7_holdAgain (xs (v + 1).toNatClampNeg) J U) fun uq_2 => (Option.bind (f_X7_thrown uq_2.2.1 uq_2.2.2) fun uq_3 => (if uq_3 = uq_1.1 then (if uq_1.1 = 0 then (if (lg_cmp uq_1.2.2.2 uq_2.1.toInt64) = 0 then (K uq_1.2.1 uq_1.2.2.1 uq_2.2.1 uq_2.2.2 uq_1.2.2.2 d) else (some 0)) else (K uq_1.2.1 uq_1.2.2.1 uq_2.2.1 uq_2.2.2 uq_1.2.2.2 d)) else (some 0)))))))
set_option maxHeartbeats 4000000 in
set_option maxRecDepth 100000 in
theorem w_law_c11 {p : Program} {l : Launch} {e : Env} {s : State} {m : MethodId} {A9 : Array Value} {below : List Frame} {meth : Method} {c : Code} {H : Heap} {locs : List Loc} {cells slots : Nat} {Q : State → Prop} {ls : Array Slot} {G : gx_G} {I V J U : gx_F} {o : Int64} {d : UInt64} {b L : Nat} {xs : Nat → Int32} {v : Int32} {K : gx_F → gx_F → gx_F → gx_F → Int64 → UInt64 → Option Int32} (hl9 : l.stackTraces = false) (hx : p.tables.exec = Jvm.exec) (hb : c.code = cL_law) (hml : c.maxLocals = 9) (hown : s.vm.findClass RL = some m.cls) (hV : gx_V G s) (hZ : gx_Z G s s.heap) (hX : va_X b L xs s s.heap) (hbl : b < s.heap.size) (hbA : ¬ gx_A G b) (hc1 : cells + 1 ≤ room_1.cells) (hs1 : slots + 6 ≤ room_1.slots) (hl : lv_has ls 9 [(0, .ref b), (1, .ref (G.2.1 44)), (2, .ref (G.2.1 58)), (3, .ref (G.2.1 68)), (4, .ref (G.2.1 69)), (5, .int v)]) (hw : gx_at G (I, V) (J, U) o d s.heap H locs) (hF : f_law_c11 xs L v K I V J U o d = some 1)
    (hK : ∀ (I V J U : gx_F) (o : Int64) (d : UInt64) (H : Heap) (locs : List Loc) (ls : Array Slot), lv_has ls 9 [(0, .ref b), (1, .ref (G.2.1 44)), (2, .ref (G.2.1 58)), (3, .ref (G.2.1 68)), (4, .ref (G.2.1 69)), (5, .int v)] → gx_at G (I, V) (J, U) o d s.heap H locs → K I V J U o d = some 1 → W p l e room_1 s m A9 below meth c H locs (cells + 1) (slots + 6) Q (F0 m 2154 ls [])) : W p l e room_1 s m A9 below meth c H locs cells slots Q (F0 m 936 ls []) := by
  have hc0 : cells ≤ room_1.cells := Nat.le_trans (Nat.le_add_right _ _) hc1
  have hs0 : slots ≤ room_1.slots := Nat.le_trans (Nat.le_add_right _ _) hs1
  unfold f_law_c11 at hF
  refine lv_aload_n (pc := 936) hx hb dL_law_936 rfl (lv_at hl 1 rfl) ?_
  refine lv_aload_n (pc := 937) hx hb dL_law_937 rfl (lv_at hl 0 rfl) ?_
  refine lv_iload (pc := 938) hx hb dL_law_938 (lv_at hl 5 rfl) ?_
  refine lv_iconst (pc := 940) (v := 1) hx hb dL_law_940 (by decide) ?_
  refine lv_iadd (pc := 941) hx hb dL_law_941 ?_
  refine gx_sld (pc := 942) hx hb hX hbl hbA hw hF dL_law_942 (fun _ hF => ?_)
  refine lv_aload_n (pc := 943) hx hb dL_law_943 rfl (lv_at hl 3 rfl) ?_
  obtain ⟨uq_1, huq_1, hF⟩ := Option.bind_eq_some_iff.mp hF
  refine cl_L_holdAgain (pc := 944) hl9 hx hb hml hown hV hZ hw huq_1 (gw_716 hV) hl.1 (Nat.le_of_ble_eq_true rfl) (Nat.le_of_ble_eq_true rfl) (Nat.le_of_ble_eq_true rfl) hc1 hs1 dL_law_944 (fun H locs hw => ?_)
  refine lv_istore (pc := 947) (lv' := [(6, .int uq_1.1), (0, .ref b), (1, .ref (G.2.1 44)), (2, .ref (G.2.1 58)), (3, .ref (G.2.1 68)), (4, .ref (G.2.1 69)), (5, .int v)]) hx hb dL_law_947 hl (by decide) rfl (fun ls hl => ?_)
  refine lv_aload_n (pc := 949) hx hb dL_law_949 rfl (lv_at hl 3 rfl) ?_
  refine lv_aload_n (pc := 950) hx hb dL_law_950 rfl (lv_at hl 1 rfl) ?_
  refine lv_iload (pc := 951) hx hb dL_law_951 (lv_at hl 6 rfl) ?_
  refine lv_iconst (pc := 953) (v := 1) hx hb dL_law_953 (by decide) ?_
  refine lv_iadd (pc := 954) hx hb dL_law_954 ?_
  refine gx_sld (pc := 955) hx hb hX hbl hbA hw hF dL_law_955 (fun _ hF => ?_)
  obtain ⟨uq_2, huq_2, hF⟩ := Option.bind_eq_some_iff.mp hF
  refine cl_X7_holdAgain (pc := 956) hx hb hml hown hV hw huq_2 (gw_1217 hV) hl.1 (Nat.le_of_ble_eq_true rfl) (Nat.le_of_ble_eq_true rfl) (Nat.le_of_ble_eq_true rfl) dL_law_956 (fun H locs hw => ?_) (hc := hc1) (hs := hs1)
  refine lv_istore (pc := 959) (lv' := [(7, .int uq_2.1), (6, .int uq_1.1), (0, .ref b), (1, .ref (G.2.1 44)), (2, .ref (G.2.1 58)), (3, .ref (G.2.1 68)), (4, .ref (G.2.1 69)), (5, .int v)]) hx hb dL_law_959 hl (by decide) rfl (fun ls hl => ?_)
  refine lv_aload_n (pc := 961) hx hb dL_law_961 rfl (lv_at hl 4 rfl) ?_
  obtain ⟨uq_3, huq_3, hF⟩ := Option.bind_eq_some_iff.mp hF
  refine cl_X7_thrown (pc := 962) hx hb hml hown hV hw huq_3 (gw_1085 hV) hl.1 (Nat.le_of_ble_eq_true rfl) (Nat.le_of_ble_eq_true rfl) (Nat.le_of_ble_eq_true rfl) dL_law_962 (fun H locs hw => ?_) (hc := hc1) (hs := hs1)
  refine lv_iload (pc := 965) hx hb dL_law_965 (lv_at hl 1 rfl) ?_
  refine gx_icmp_eq (pc := 967) (tgt := 972) hx hb hF dL_law_967 (by decide) (fun hF => ?_) (fun hF => ?_)
  · refine lv_iload (pc := 972) hx hb dL_law_972 (lv_at hl 1 rfl) ?_
    refine gx_if_ne (pc := 974) (tgt := 989) hx hb hF dL_law_974 (by decide) (fun hF => ?_) (fun hF => ?_)
    · refine lv_goto (pc := 989) (tgt := 2154) hx hb dL_law_989 (by decide) ?_
      exact hK _ _ _ _ _ _ _ _ _ (lv_sub hl [2, 3, 4, 5, 6, 7] rfl) hw hF
    refine lv_aload_n (pc := 977) hx hb dL_law_977 rfl (lv_at hl 5 rfl) ?_
    refine lv_iconst (pc := 978) (v := 0) hx hb dL_law_978 (by decide) ?_
    refine gx_lald (pc := 979) hx hb hV hw dL_law_979 ?_
    refine lv_iload (pc := 980) hx hb dL_law_980 (lv_at hl 0 rfl) ?_
    refine lv_i2l (pc := 982) (v := uq_2.1.toInt64) hx hb dL_law_982 rfl ?_
    refine W.lcmp (pc := 983) hx hb dL_law_983 ?_
    refine gx_if_eq (pc := 984) (tgt := 989) hx hb hF dL_law_984 (by decide) (fun hF => ?_) (fun hF => ?_)
    · refine lv_goto (pc := 989) (tgt := 2154) hx hb dL_law_989 (by decide) ?_
      exact hK _ _ _ _ _ _ _ _ _ (lv_sub hl [2, 3, 4, 5, 6, 7] rfl) hw hF
    refine lv_iconst (pc := 987) (v := 0) hx hb dL_law_987 (by decide) ?_
    exact absurd hF (by decide)
  refine lv_iconst (pc := 970) (v := 0) hx hb dL_law_970 (by decide) ?_
  exact absurd hF (by decide)
noncomputable def f_law_c12 (xs : Nat → Int32) (L : Nat) (v : Int32) (K : gx_F → gx_F → gx_F → gx_F → Int64 → UInt64 → Option Int32) (I V J U : gx_F) (o : Int64) (d : UInt64) : Option Int32 := (gx_ck (gx_in (v + 1) L) (gx_ck (gx_in (v + 2) L) (gx_ck (gx_in (v + 3) L) (Option.bind (f_L_wouldHold (xs (v + 1).toNatClampNeg) (xs (v + 2).toNatClampNeg) (xs (v + 3).toNatClampNeg) I V o) fun uq_1 => (gx_ck (gx_in (v + 1) L) (gx_ck (gx_in (v + 2) L) (gx_ck (gx_in (v + 3) L) (Option.bind (f_X7_wouldHold (xs (v + 1).toNatClampNeg) (xs (v + 2).toNatClampNeg) (xs (v + 3).toNatClampNeg) J U) fun uq_2 => (Option.bind (f_X7_thrown uq_2.2.1 uq_2.2.2) fun uq_3 => (if uq_3 = uq_1.1 then (if uq_1.1 = 0 then (if (lg_cmp uq_1.2.2.2 uq_2.1.toInt64) = 0 then (K uq_1.2.1 uq_1.2.2.1 uq_2.2.1 uq_2.2.2 uq_1.2.2.2 d) else (some 0)) else (K uq_1.2.1 uq_1.2.2.1 uq_2.2.1 uq_2.2.2 uq_1.2.2.2 d)) else (some 0)))))))))))
set_option maxHeartbeats 4000000 in
set_option maxRecDepth 100000 in
theorem w_law_c12 {p : Program} {l : Launch} {e : Env} {s : State} {m : MethodId} {A9 : Array Value} {below : List Frame} {meth : Method} {c : Code} {H : Heap} {locs : List Loc} {cells slots : Nat} {Q : State → Prop} {ls : Array Slot} {G : gx_G} {I V J U : gx_F} {o : Int64} {d : UInt64} {b L : Nat} {xs : Nat → Int32} {v : Int32} {K : gx_F → gx_F → gx_F → gx_F → Int64 → UInt64 → Option Int32} (hl9 : l.stackTraces = false) (hx : p.tables.exec = Jvm.exec) (hb : c.code = cL_law) (hml : c.maxLocals = 9) (hown : s.vm.findClass RL = some m.cls) (hV : gx_V G s) (hZ : gx_Z G s s.heap) (hX : va_X b L xs s s.heap) (hbl : b < s.heap.size) (hbA : ¬ gx_A G b) (hc1 : cells + 1 ≤ room_1.cells) (hs1 : slots + 6 ≤ room_1.slots) (hl : lv_has ls 9 [(0, .ref b), (1, .ref (G.2.1 44)), (2, .ref (G.2.1 58)), (3, .ref (G.2.1 68)), (4, .ref (G.2.1 69)), (5, .int v)]) (hw : gx_at G (I, V) (J, U) o d s.heap H locs) (hF : f_law_c12 xs L v K I V J U o d = some 1)
    (hK : ∀ (I V J U : gx_F) (o : Int64) (d : UInt64) (H : Heap) (locs : List Loc) (ls : Array Slot), lv_has ls 9 [(0, .ref b), (1, .ref (G.2.1 44)), (2, .ref (G.2.1 58)), (3, .ref (G.2.1 68)), (4, .ref (G.2.1 69)), (5, .int v)] → gx_at G (I, V) (J, U) o d s.heap H locs → K I V J U o d = some 1 → W p l e room_1 s m A9 below meth c H locs (cells + 1) (slots + 6) Q (F0 m 2154 ls [])) : W p l e room_1 s m A9 below meth c H locs cells slots Q (F0 m 992 ls []) := by
  have hc0 : cells ≤ room_1.cells := Nat.le_trans (Nat.le_add_right _ _) hc1
  have hs0 : slots ≤ room_1.slots := Nat.le_trans (Nat.le_add_right _ _) hs1
  unfold f_law_c12 at hF
  refine lv_aload_n (pc := 992) hx hb dL_law_992 rfl (lv_at hl 1 rfl) ?_
  refine lv_aload_n (pc := 993) hx hb dL_law_993 rfl (lv_at hl 0 rfl) ?_
  refine lv_iload (pc := 994) hx hb dL_law_994 (lv_at hl 5 rfl) ?_
  refine lv_iconst (pc := 996) (v := 1) hx hb dL_law_996 (by decide) ?_
  refine lv_iadd (pc := 997) hx hb dL_law_997 ?_
  refine gx_sld (pc := 998) hx hb hX hbl hbA hw hF dL_law_998 (fun _ hF => ?_)
  refine lv_aload_n (pc := 999) hx hb dL_law_999 rfl (lv_at hl 0 rfl) ?_
  refine lv_iload (pc := 1000) hx hb dL_law_1000 (lv_at hl 5 rfl) ?_
  refine lv_iconst (pc := 1002) (v := 2) hx hb dL_law_1002 (by decide) ?_
  refine lv_iadd (pc := 1003) hx hb dL_law_1003 ?_
  refine gx_sld (pc := 1004) hx hb hX hbl hbA hw hF dL_law_1004 (fun _ hF => ?_)
  refine lv_aload_n (pc := 1005) hx hb dL_law_1005 rfl (lv_at hl 0 rfl) ?_
  refine lv_iload (pc := 1006) hx hb dL_law_1006 (lv_at hl 5 rfl) ?_
  refine lv_iconst (pc := 1008) (v := 3) hx hb dL_law_1008 (by decide) ?_
  refine lv_iadd (pc := 1009) hx hb dL_law_1009 ?_
  refine gx_sld (pc := 1010) hx hb hX hbl hbA hw hF dL_law_1010 (fun _ hF => ?_)
  refine lv_aload_n (pc := 1011) hx hb dL_law_1011 rfl (lv_at hl 3 rfl) ?_
  obtain ⟨uq_1, huq_1, hF⟩ := Option.bind_eq_some_iff.mp hF
  refine cl_L_wouldHold (pc := 1012) hl9 hx hb hml hown hV hZ hw huq_1 (gw_729 hV) hl.1 (Nat.le_of_ble_eq_true rfl) (Nat.le_of_ble_eq_true rfl) (Nat.le_of_ble_eq_true rfl) hc1 hs1 dL_law_1012 (fun H locs hw => ?_)
  refine lv_istore (pc := 1015) (lv' := [(6, .int uq_1.1), (0, .ref b), (1, .ref (G.2.1 44)), (2, .ref (G.2.1 58)), (3, .ref (G.2.1 68)), (4, .ref (G.2.1 69)), (5, .int v)]) hx hb dL_law_1015 hl (by decide) rfl (fun ls hl => ?_)
  refine lv_aload_n (pc := 1017) hx hb dL_law_1017 rfl (lv_at hl 3 rfl) ?_
  refine lv_aload_n (pc := 1018) hx hb dL_law_1018 rfl (lv_at hl 1 rfl) ?_
  refine lv_iload (pc := 1019) hx hb dL_law_1019 (lv_at hl 6 rfl) ?_
  refine lv_iconst (pc := 1021) (v := 1) hx hb dL_law_1021 (by decide) ?_
  refine lv_iadd (pc := 1022) hx hb dL_law_1022 ?_
  refine gx_sld (pc := 1023) hx hb hX hbl hbA hw hF dL_law_1023 (fun _ hF => ?_)
  refine lv_aload_n (pc := 1024) hx hb dL_law_1024 rfl (lv_at hl 1 rfl) ?_
  refine lv_iload (pc := 1025) hx hb dL_law_1025 (lv_at hl 6 rfl) ?_
  refine lv_iconst (pc := 1027) (v := 2) hx hb dL_law_1027 (by decide) ?_
  refine lv_iadd (pc := 1028) hx hb dL_law_1028 ?_
  refine gx_sld (pc := 1029) hx hb hX hbl hbA hw hF dL_law_1029 (fun _ hF => ?_)
  refine lv_aload_n (pc := 1030) hx hb dL_law_1030 rfl (lv_at hl 1 rfl) ?_
  refine lv_iload (pc := 1031) hx hb dL_law_1031 (lv_at hl 6 rfl) ?_
  refine lv_iconst (pc := 1033) (v := 3) hx hb dL_law_1033 (by decide) ?_
  refine lv_iadd (pc := 1034) hx hb dL_law_1034 ?_
  refine gx_sld (pc := 1035) hx hb hX hbl hbA hw hF dL_law_1035 (fun _ hF => ?_)
  obtain ⟨uq_2, huq_2, hF⟩ := Option.bind_eq_some_iff.mp hF
  refine cl_X7_wouldHold (pc := 1036) hx hb hml hown hV hw huq_2 (gw_1225 hV) hl.1 (Nat.le_of_ble_eq_true rfl) (Nat.le_of_ble_eq_true rfl) (Nat.le_of_ble_eq_true rfl) dL_law_1036 (fun H locs hw => ?_) (hc := hc1) (hs := hs1)
  refine lv_istore (pc := 1039) (lv' := [(7, .int uq_2.1), (6, .int uq_1.1), (0, .ref b), (1, .ref (G.2.1 44)), (2, .ref (G.2.1 58)), (3, .ref (G.2.1 68)), (4, .ref (G.2.1 69)), (5, .int v)]) hx hb dL_law_1039 hl (by decide) rfl (fun ls hl => ?_)
  refine lv_aload_n (pc := 1041) hx hb dL_law_1041 rfl (lv_at hl 4 rfl) ?_
  obtain ⟨uq_3, huq_3, hF⟩ := Option.bind_eq_some_iff.mp hF
  refine cl_X7_thrown (pc := 1042) hx hb hml hown hV hw huq_3 (gw_1085 hV) hl.1 (Nat.le_of_ble_eq_true rfl) (Nat.le_of_ble_eq_true rfl) (Nat.le_of_ble_eq_true rfl) dL_law_1042 (fun H locs hw => ?_) (hc := hc1) (hs := hs1)
  refine lv_iload (pc := 1045) hx hb dL_law_1045 (lv_at hl 1 rfl) ?_
  refine gx_icmp_eq (pc := 1047) (tgt := 1052) hx hb hF dL_law_1047 (by decide) (fun hF => ?_) (fun hF => ?_)
  · refine lv_iload (pc := 1052) hx hb dL_law_1052 (lv_at hl 1 rfl) ?_
    refine gx_if_ne (pc := 1054) (tgt := 1069) hx hb hF dL_law_1054 (by decide) (fun hF => ?_) (fun hF => ?_)
    · refine lv_goto (pc := 1069) (tgt := 2154) hx hb dL_law_1069 (by decide) ?_
      exact hK _ _ _ _ _ _ _ _ _ (lv_sub hl [2, 3, 4, 5, 6, 7] rfl) hw hF
    refine lv_aload_n (pc := 1057) hx hb dL_law_1057 rfl (lv_at hl 5 rfl) ?_
    refine lv_iconst (pc := 1058) (v := 0) hx hb dL_law_1058 (by decide) ?_
    refine gx_lald (pc := 1059) hx hb hV hw dL_law_1059 ?_
    refine lv_iload (pc := 1060) hx hb dL_law_1060 (lv_at hl 0 rfl) ?_
    refine lv_i2l (pc := 1062) (v := uq_2.1.toInt64) hx hb dL_law_1062 rfl ?_
    refine W.lcmp (pc := 1063) hx hb dL_law_1063 ?_
    refine gx_if_eq (pc := 1064) (tgt := 1069) hx hb hF dL_law_1064 (by decide) (fun hF => ?_) (fun hF => ?_)
    · refine lv_goto (pc := 1069) (tgt := 2154) hx hb dL_law_1069 (by decide) ?_
      exact hK _ _ _ _ _ _ _ _ _ (lv_sub hl [2, 3, 4, 5, 6, 7] rfl) hw hF
    refine lv_iconst (pc := 1067) (v := 0) hx hb dL_law_1067 (by decide) ?_
    exact absurd hF (by decide)
  refine lv_iconst (pc := 1050) (v := 0) hx hb dL_law_1050 (by decide) ?_
  exact absurd hF (by decide)
noncomputable def f_law_c13 (xs : Nat → Int32) (L : Nat) (v : Int32) (K : gx_F → gx_F → gx_F → gx_F → Int64 → UInt64 → Option Int32) (I V J U : gx_F) (o : Int64) (d : UInt64) : Option Int32 := (gx_ck (gx_in (v + 1) L) (Option.bind (f_L_stands (xs (v + 1).toNatClampNeg) I V o) fun uq_1 => (gx_ck (gx_in (v + 1) L) (Option.bind (f_X7_stands (xs (v + 1).toNatClampNeg) J U) fun uq_2 => (Option.bind (f_X7_thrown uq_2.2.1 uq_2.2.2) fun uq_3 => (if uq_3 = uq_1.1 then (if uq_1.1 = 0 then (if (gx_bi uq_2.1) = 0 then (if (lg_cmp uq_1.2.2.2 (0 : Int64)) = 0 then (K uq_1.2.1 uq_1.2.2.1 uq_2.2.1 uq_2.2.2 uq_1.2.2.2 d) else (some 0)) else (if (lg_cmp uq_1.2.2.2 (1 : Int64)) = 0 then (K uq_1.2.1 uq_1.2.2.1 uq_2.2.1 uq_2.2.2 uq_1.2.2.2 d) else (some 0))) else (K uq_1.2.1 uq_1.2.2.1 uq_2.2.1 uq_2.2.2 uq_1.2.2.2 d)) else (some 0)))))))
set_option maxHeartbeats 4000000 in
set_option maxRecDepth 100000 in
theorem w_law_c13 {p : Program} {l : Launch} {e : Env} {s : State} {m : MethodId} {A9 : Array Value} {below : List Frame} {meth : Method} {c : Code} {H : Heap} {locs : List Loc} {cells slots : Nat} {Q : State → Prop} {ls : Array Slot} {G : gx_G} {I V J U : gx_F} {o : Int64} {d : UInt64} {b L : Nat} {xs : Nat → Int32} {v : Int32} {K : gx_F → gx_F → gx_F → gx_F → Int64 → UInt64 → Option Int32} (hl9 : l.stackTraces = false) (hx : p.tables.exec = Jvm.exec) (hb : c.code = cL_law) (hml : c.maxLocals = 9) (hown : s.vm.findClass RL = some m.cls) (hV : gx_V G s) (hZ : gx_Z G s s.heap) (hX : va_X b L xs s s.heap) (hbl : b < s.heap.size) (hbA : ¬ gx_A G b) (hc1 : cells + 1 ≤ room_1.cells) (hs1 : slots + 6 ≤ room_1.slots) (hl : lv_has ls 9 [(0, .ref b), (1, .ref (G.2.1 44)), (2, .ref (G.2.1 58)), (3, .ref (G.2.1 68)), (4, .ref (G.2.1 69)), (5, .int v)]) (hw : gx_at G (I, V) (J, U) o d s.heap H locs) (hF : f_law_c13 xs L v K I V J U o d = some 1)
    (hK : ∀ (I V J U : gx_F) (o : Int64) (d : UInt64) (H : Heap) (locs : List Loc) (ls : Array Slot), lv_has ls 9 [(0, .ref b), (1, .ref (G.2.1 44)), (2, .ref (G.2.1 58)), (3, .ref (G.2.1 68)), (4, .ref (G.2.1 69)), (5, .int v)] → gx_at G (I, V) (J, U) o d s.heap H locs → K I V J U o d = some 1 → W p l e room_1 s m A9 below meth c H locs (cells + 1) (slots + 6) Q (F0 m 2154 ls [])) : W p l e room_1 s m A9 below meth c H locs cells slots Q (F0 m 1072 ls []) := by
  have hc0 : cells ≤ room_1.cells := Nat.le_trans (Nat.le_add_right _ _) hc1
  have hs0 : slots ≤ room_1.slots := Nat.le_trans (Nat.le_add_right _ _) hs1
  unfold f_law_c13 at hF
  refine lv_aload_n (pc := 1072) hx hb dL_law_1072 rfl (lv_at hl 1 rfl) ?_
  refine lv_aload_n (pc := 1073) hx hb dL_law_1073 rfl (lv_at hl 0 rfl) ?_
  refine lv_iload (pc := 1074) hx hb dL_law_1074 (lv_at hl 5 rfl) ?_
  refine lv_iconst (pc := 1076) (v := 1) hx hb dL_law_1076 (by decide) ?_
  refine lv_iadd (pc := 1077) hx hb dL_law_1077 ?_
  refine gx_sld (pc := 1078) hx hb hX hbl hbA hw hF dL_law_1078 (fun _ hF => ?_)
  refine lv_aload_n (pc := 1079) hx hb dL_law_1079 rfl (lv_at hl 3 rfl) ?_
  obtain ⟨uq_1, huq_1, hF⟩ := Option.bind_eq_some_iff.mp hF
  refine cl_L_stands (pc := 1080) hl9 hx hb hml hown hV hZ hw huq_1 (gw_739 hV) hl.1 (Nat.le_of_ble_eq_true rfl) (Nat.le_of_ble_eq_true rfl) (Nat.le_of_ble_eq_true rfl) hc1 hs1 dL_law_1080 (fun H locs hw => ?_)
  refine lv_istore (pc := 1083) (lv' := [(6, .int uq_1.1), (0, .ref b), (1, .ref (G.2.1 44)), (2, .ref (G.2.1 58)), (3, .ref (G.2.1 68)), (4, .ref (G.2.1 69)), (5, .int v)]) hx hb dL_law_1083 hl (by decide) rfl (fun ls hl => ?_)
  refine lv_aload_n (pc := 1085) hx hb dL_law_1085 rfl (lv_at hl 3 rfl) ?_
  refine lv_aload_n (pc := 1086) hx hb dL_law_1086 rfl (lv_at hl 1 rfl) ?_
  refine lv_iload (pc := 1087) hx hb dL_law_1087 (lv_at hl 6 rfl) ?_
  refine lv_iconst (pc := 1089) (v := 1) hx hb dL_law_1089 (by decide) ?_
  refine lv_iadd (pc := 1090) hx hb dL_law_1090 ?_
  refine gx_sld (pc := 1091) hx hb hX hbl hbA hw hF dL_law_1091 (fun _ hF => ?_)
  obtain ⟨uq_2, huq_2, hF⟩ := Option.bind_eq_some_iff.mp hF
  refine cl_X7_stands (pc := 1092) hx hb hml hown hV hw huq_2 (gw_1229 hV) hl.1 (Nat.le_of_ble_eq_true rfl) (Nat.le_of_ble_eq_true rfl) (Nat.le_of_ble_eq_true rfl) dL_law_1092 (fun H locs hw => ?_) (hc := hc1) (hs := hs1)
  refine lv_istore (pc := 1095) (lv' := [(7, .int (gx_bi uq_2.1)), (6, .int uq_1.1), (0, .ref b), (1, .ref (G.2.1 44)), (2, .ref (G.2.1 58)), (3, .ref (G.2.1 68)), (4, .ref (G.2.1 69)), (5, .int v)]) hx hb dL_law_1095 hl (by decide) rfl (fun ls hl => ?_)
  refine lv_aload_n (pc := 1097) hx hb dL_law_1097 rfl (lv_at hl 4 rfl) ?_
  obtain ⟨uq_3, huq_3, hF⟩ := Option.bind_eq_some_iff.mp hF
  refine cl_X7_thrown (pc := 1098) hx hb hml hown hV hw huq_3 (gw_1085 hV) hl.1 (Nat.le_of_ble_eq_true rfl) (Nat.le_of_ble_eq_true rfl) (Nat.le_of_ble_eq_true rfl) dL_law_1098 (fun H locs hw => ?_) (hc := hc1) (hs := hs1)
  refine lv_iload (pc := 1101) hx hb dL_law_1101 (lv_at hl 1 rfl) ?_
  refine gx_icmp_eq (pc := 1103) (tgt := 1108) hx hb hF dL_law_1103 (by decide) (fun hF => ?_) (fun hF => ?_)
  · refine lv_iload (pc := 1108) hx hb dL_law_1108 (lv_at hl 1 rfl) ?_
    refine gx_if_ne (pc := 1110) (tgt := 1132) hx hb hF dL_law_1110 (by decide) (fun hF => ?_) (fun hF => ?_)
    · refine lv_goto (pc := 1132) (tgt := 2154) hx hb dL_law_1132 (by decide) ?_
      exact hK _ _ _ _ _ _ _ _ _ (lv_sub hl [2, 3, 4, 5, 6, 7] rfl) hw hF
    refine lv_aload_n (pc := 1113) hx hb dL_law_1113 rfl (lv_at hl 5 rfl) ?_
    refine lv_iconst (pc := 1114) (v := 0) hx hb dL_law_1114 (by decide) ?_
    refine gx_lald (pc := 1115) hx hb hV hw dL_law_1115 ?_
    refine lv_iload (pc := 1116) hx hb dL_law_1116 (lv_at hl 0 rfl) ?_
    refine gx_if_eq (pc := 1118) (tgt := 1125) hx hb hF dL_law_1118 (by decide) (fun hF => ?_) (fun hF => ?_)
    · refine lv_lconst (pc := 1125) (v := 0) hx hb dL_law_1125 rfl ?_
      refine W.lcmp (pc := 1126) hx hb dL_law_1126 ?_
      refine gx_if_eq (pc := 1127) (tgt := 1132) hx hb hF dL_law_1127 (by decide) (fun hF => ?_) (fun hF => ?_)
      · refine lv_goto (pc := 1132) (tgt := 2154) hx hb dL_law_1132 (by decide) ?_
        exact hK _ _ _ _ _ _ _ _ _ (lv_sub hl [2, 3, 4, 5, 6, 7] rfl) hw hF
      refine lv_iconst (pc := 1130) (v := 0) hx hb dL_law_1130 (by decide) ?_
      exact absurd hF (by decide)
    refine lv_lconst (pc := 1121) (v := 1) hx hb dL_law_1121 rfl ?_
    refine lv_goto (pc := 1122) (tgt := 1126) hx hb dL_law_1122 (by decide) ?_
    refine W.lcmp (pc := 1126) hx hb dL_law_1126 ?_
    refine gx_if_eq (pc := 1127) (tgt := 1132) hx hb hF dL_law_1127 (by decide) (fun hF => ?_) (fun hF => ?_)
    · refine lv_goto (pc := 1132) (tgt := 2154) hx hb dL_law_1132 (by decide) ?_
      exact hK _ _ _ _ _ _ _ _ _ (lv_sub hl [2, 3, 4, 5, 6, 7] rfl) hw hF
    refine lv_iconst (pc := 1130) (v := 0) hx hb dL_law_1130 (by decide) ?_
    exact absurd hF (by decide)
  refine lv_iconst (pc := 1106) (v := 0) hx hb dL_law_1106 (by decide) ?_
  exact absurd hF (by decide)
noncomputable def f_law_c14 (xs : Nat → Int32) (L : Nat) (v : Int32) (K : gx_F → gx_F → gx_F → gx_F → Int64 → UInt64 → Option Int32) (I V J U : gx_F) (o : Int64) (d : UInt64) : Option Int32 := (Option.bind (f_X6_fallen I V) fun uq_1 => (Option.bind (f_X7_fallen J U) fun uq_2 => (if uq_1.1 = uq_2.1 then (K uq_1.2.1 uq_1.2.2 uq_2.2.1 uq_2.2.2 o d) else (some 0))))
set_option maxHeartbeats 4000000 in
set_option maxRecDepth 100000 in
theorem w_law_c14 {p : Program} {l : Launch} {e : Env} {s : State} {m : MethodId} {A9 : Array Value} {below : List Frame} {meth : Method} {c : Code} {H : Heap} {locs : List Loc} {cells slots : Nat} {Q : State → Prop} {ls : Array Slot} {G : gx_G} {I V J U : gx_F} {o : Int64} {d : UInt64} {b L : Nat} {xs : Nat → Int32} {v : Int32} {K : gx_F → gx_F → gx_F → gx_F → Int64 → UInt64 → Option Int32} (hl9 : l.stackTraces = false) (hx : p.tables.exec = Jvm.exec) (hb : c.code = cL_law) (hml : c.maxLocals = 9) (hown : s.vm.findClass RL = some m.cls) (hV : gx_V G s) (hZ : gx_Z G s s.heap) (hX : va_X b L xs s s.heap) (hbl : b < s.heap.size) (hbA : ¬ gx_A G b) (hc1 : cells + 1 ≤ room_1.cells) (hs1 : slots + 6 ≤ room_1.slots) (hl : lv_has ls 9 [(0, .ref b), (1, .ref (G.2.1 44)), (2, .ref (G.2.1 58)), (3, .ref (G.2.1 68)), (4, .ref (G.2.1 69)), (5, .int v)]) (hw : gx_at G (I, V) (J, U) o d s.heap H locs) (hF : f_law_c14 xs L v K I V J U o d = some 1)
    (hK : ∀ (I V J U : gx_F) (o : Int64) (d : UInt64) (H : Heap) (locs : List Loc) (ls : Array Slot), lv_has ls 9 [(0, .ref b), (1, .ref (G.2.1 44)), (2, .ref (G.2.1 58)), (3, .ref (G.2.1 68)), (4, .ref (G.2.1 69)), (5, .int v)] → gx_at G (I, V) (J, U) o d s.heap H locs → K I V J U o d = some 1 → W p l e room_1 s m A9 below meth c H locs (cells + 1) (slots + 6) Q (F0 m 2154 ls [])) : W p l e room_1 s m A9 below meth c H locs cells slots Q (F0 m 1135 ls []) := by
  have hc0 : cells ≤ room_1.cells := Nat.le_trans (Nat.le_add_right _ _) hc1
  have hs0 : slots ≤ room_1.slots := Nat.le_trans (Nat.le_add_right _ _) hs1
  unfold f_law_c14 at hF
  refine lv_aload_n (pc := 1135) hx hb dL_law_1135 rfl (lv_at hl 1 rfl) ?_
  obtain ⟨uq_1, huq_1, hF⟩ := Option.bind_eq_some_iff.mp hF
  refine cl_X6_fallen (pc := 1136) hx hb hml hown hV hw huq_1 (gw_273 hV) hl.1 (Nat.le_of_ble_eq_true rfl) (Nat.le_of_ble_eq_true rfl) (Nat.le_of_ble_eq_true rfl) dL_law_1136 (fun H locs hw => ?_) (hc := hc0) (hs := hs0)
  refine lv_aload_n (pc := 1139) hx hb dL_law_1139 rfl (lv_at hl 2 rfl) ?_
  obtain ⟨uq_2, huq_2, hF⟩ := Option.bind_eq_some_iff.mp hF
  refine cl_X7_fallen (pc := 1140) hx hb hml hown hV hw huq_2 (gw_1233 hV) hl.1 (Nat.le_of_ble_eq_true rfl) (Nat.le_of_ble_eq_true rfl) (Nat.le_of_ble_eq_true rfl) dL_law_1140 (fun H locs hw => ?_) (hc := hc0) (hs := hs0)
  refine gx_icmp_eq (pc := 1143) (tgt := 2154) hx hb hF dL_law_1143 (by decide) (fun hF => ?_) (fun hF => ?_)
  · refine W.widen (k := cells + 1) (n := slots + 6) (Nat.le_add_right _ _) (Nat.le_add_right _ _) ?_
    exact hK _ _ _ _ _ _ _ _ _ (lv_sub hl [0, 1, 2, 3, 4, 5] rfl) hw hF
  refine lv_iconst (pc := 1146) (v := 0) hx hb dL_law_1146 (by decide) ?_
  exact absurd hF (by decide)
noncomputable def f_law_c15 (xs : Nat → Int32) (L : Nat) (v : Int32) (K : gx_F → gx_F → gx_F → gx_F → Int64 → UInt64 → Option Int32) (I V J U : gx_F) (o : Int64) (d : UInt64) : Option Int32 := (gx_ck (gx_in (v + 1) L) (Option.bind (f_L_falls (xs (v + 1).toNatClampNeg) I V o) fun uq_1 => (gx_ck (gx_in (v + 1) L) (Option.bind (f_X7_falls (xs (v + 1).toNatClampNeg) J U) fun uq_2 => (Option.bind (f_X7_thrown uq_2.2.1 uq_2.2.2) fun uq_3 => (if uq_3 = uq_1.1 then (if uq_1.1 = 0 then (if (lg_cmp uq_1.2.2.2 uq_2.1.toInt64) = 0 then (K uq_1.2.1 uq_1.2.2.1 uq_2.2.1 uq_2.2.2 uq_1.2.2.2 d) else (some 0)) else (K uq_1.2.1 uq_1.2.2.1 uq_2.2.1 uq_2.2.2 uq_1.2.2.2 d)) else (some 0)))))))
set_option maxHeartbeats 4000000 in
set_option maxRecDepth 100000 in
theorem w_law_c15 {p : Program} {l : Launch} {e : Env} {s : State} {m : MethodId} {A9 : Array Value} {below : List Frame} {meth : Method} {c : Code} {H : Heap} {locs : List Loc} {cells slots : Nat} {Q : State → Prop} {ls : Array Slot} {G : gx_G} {I V J U : gx_F} {o : Int64} {d : UInt64} {b L : Nat} {xs : Nat → Int32} {v : Int32} {K : gx_F → gx_F → gx_F → gx_F → Int64 → UInt64 → Option Int32} (hl9 : l.stackTraces = false) (hx : p.tables.exec = Jvm.exec) (hb : c.code = cL_law) (hml : c.maxLocals = 9) (hown : s.vm.findClass RL = some m.cls) (hV : gx_V G s) (hZ : gx_Z G s s.heap) (hX : va_X b L xs s s.heap) (hbl : b < s.heap.size) (hbA : ¬ gx_A G b) (hc1 : cells + 1 ≤ room_1.cells) (hs1 : slots + 6 ≤ room_1.slots) (hl : lv_has ls 9 [(0, .ref b), (1, .ref (G.2.1 44)), (2, .ref (G.2.1 58)), (3, .ref (G.2.1 68)), (4, .ref (G.2.1 69)), (5, .int v)]) (hw : gx_at G (I, V) (J, U) o d s.heap H locs) (hF : f_law_c15 xs L v K I V J U o d = some 1)
    (hK : ∀ (I V J U : gx_F) (o : Int64) (d : UInt64) (H : Heap) (locs : List Loc) (ls : Array Slot), lv_has ls 9 [(0, .ref b), (1, .ref (G.2.1 44)), (2, .ref (G.2.1 58)), (3, .ref (G.2.1 68)), (4, .ref (G.2.1 69)), (5, .int v)] → gx_at G (I, V) (J, U) o d s.heap H locs → K I V J U o d = some 1 → W p l e room_1 s m A9 below meth c H locs (cells + 1) (slots + 6) Q (F0 m 2154 ls [])) : W p l e room_1 s m A9 below meth c H locs cells slots Q (F0 m 1148 ls []) := by
  have hc0 : cells ≤ room_1.cells := Nat.le_trans (Nat.le_add_right _ _) hc1
  have hs0 : slots ≤ room_1.slots := Nat.le_trans (Nat.le_add_right _ _) hs1
  unfold f_law_c15 at hF
  refine lv_aload_n (pc := 1148) hx hb dL_law_1148 rfl (lv_at hl 1 rfl) ?_
  refine lv_aload_n (pc := 1149) hx hb dL_law_1149 rfl (lv_at hl 0 rfl) ?_
  refine lv_iload (pc := 1150) hx hb dL_law_1150 (lv_at hl 5 rfl) ?_
  refine lv_iconst (pc := 1152) (v := 1) hx hb dL_law_1152 (by decide) ?_
  refine lv_iadd (pc := 1153) hx hb dL_law_1153 ?_
  refine gx_sld (pc := 1154) hx hb hX hbl hbA hw hF dL_law_1154 (fun _ hF => ?_)
  refine lv_aload_n (pc := 1155) hx hb dL_law_1155 rfl (lv_at hl 3 rfl) ?_
  obtain ⟨uq_1, huq_1, hF⟩ := Option.bind_eq_some_iff.mp hF
  refine cl_L_falls (pc := 1156) hl9 hx hb hml hown hV hZ hw huq_1 (gw_747 hV) hl.1 (Nat.le_of_ble_eq_true rfl) (Nat.le_of_ble_eq_true rfl) (Nat.le_of_ble_eq_true rfl) hc1 hs1 dL_law_1156 (fun H locs hw => ?_)
  refine lv_istore (pc := 1159) (lv' := [(6, .int uq_1.1), (0, .ref b), (1, .ref (G.2.1 44)), (2, .ref (G.2.1 58)), (3, .ref (G.2.1 68)), (4, .ref (G.2.1 69)), (5, .int v)]) hx hb dL_law_1159 hl (by decide) rfl (fun ls hl => ?_)
  refine lv_aload_n (pc := 1161) hx hb dL_law_1161 rfl (lv_at hl 3 rfl) ?_
  refine lv_aload_n (pc := 1162) hx hb dL_law_1162 rfl (lv_at hl 1 rfl) ?_
  refine lv_iload (pc := 1163) hx hb dL_law_1163 (lv_at hl 6 rfl) ?_
  refine lv_iconst (pc := 1165) (v := 1) hx hb dL_law_1165 (by decide) ?_
  refine lv_iadd (pc := 1166) hx hb dL_law_1166 ?_
  refine gx_sld (pc := 1167) hx hb hX hbl hbA hw hF dL_law_1167 (fun _ hF => ?_)
  obtain ⟨uq_2, huq_2, hF⟩ := Option.bind_eq_some_iff.mp hF
  refine cl_X7_falls (pc := 1168) hx hb hml hown hV hw huq_2 (gw_1241 hV) hl.1 (Nat.le_of_ble_eq_true rfl) (Nat.le_of_ble_eq_true rfl) (Nat.le_of_ble_eq_true rfl) dL_law_1168 (fun H locs hw => ?_) (hc := hc1) (hs := hs1)
  refine lv_istore (pc := 1171) (lv' := [(7, .int uq_2.1), (6, .int uq_1.1), (0, .ref b), (1, .ref (G.2.1 44)), (2, .ref (G.2.1 58)), (3, .ref (G.2.1 68)), (4, .ref (G.2.1 69)), (5, .int v)]) hx hb dL_law_1171 hl (by decide) rfl (fun ls hl => ?_)
  refine lv_aload_n (pc := 1173) hx hb dL_law_1173 rfl (lv_at hl 4 rfl) ?_
  obtain ⟨uq_3, huq_3, hF⟩ := Option.bind_eq_some_iff.mp hF
  refine cl_X7_thrown (pc := 1174) hx hb hml hown hV hw huq_3 (gw_1085 hV) hl.1 (Nat.le_of_ble_eq_true rfl) (Nat.le_of_ble_eq_true rfl) (Nat.le_of_ble_eq_true rfl) dL_law_1174 (fun H locs hw => ?_) (hc := hc1) (hs := hs1)
  refine lv_iload (pc := 1177) hx hb dL_law_1177 (lv_at hl 1 rfl) ?_
  refine gx_icmp_eq (pc := 1179) (tgt := 1184) hx hb hF dL_law_1179 (by decide) (fun hF => ?_) (fun hF => ?_)
  · refine lv_iload (pc := 1184) hx hb dL_law_1184 (lv_at hl 1 rfl) ?_
    refine gx_if_ne (pc := 1186) (tgt := 1201) hx hb hF dL_law_1186 (by decide) (fun hF => ?_) (fun hF => ?_)
    · refine lv_goto (pc := 1201) (tgt := 2154) hx hb dL_law_1201 (by decide) ?_
      exact hK _ _ _ _ _ _ _ _ _ (lv_sub hl [2, 3, 4, 5, 6, 7] rfl) hw hF
    refine lv_aload_n (pc := 1189) hx hb dL_law_1189 rfl (lv_at hl 5 rfl) ?_
    refine lv_iconst (pc := 1190) (v := 0) hx hb dL_law_1190 (by decide) ?_
    refine gx_lald (pc := 1191) hx hb hV hw dL_law_1191 ?_
    refine lv_iload (pc := 1192) hx hb dL_law_1192 (lv_at hl 0 rfl) ?_
    refine lv_i2l (pc := 1194) (v := uq_2.1.toInt64) hx hb dL_law_1194 rfl ?_
    refine W.lcmp (pc := 1195) hx hb dL_law_1195 ?_
    refine gx_if_eq (pc := 1196) (tgt := 1201) hx hb hF dL_law_1196 (by decide) (fun hF => ?_) (fun hF => ?_)
    · refine lv_goto (pc := 1201) (tgt := 2154) hx hb dL_law_1201 (by decide) ?_
      exact hK _ _ _ _ _ _ _ _ _ (lv_sub hl [2, 3, 4, 5, 6, 7] rfl) hw hF
    refine lv_iconst (pc := 1199) (v := 0) hx hb dL_law_1199 (by decide) ?_
    exact absurd hF (by decide)
  refine lv_iconst (pc := 1182) (v := 0) hx hb dL_law_1182 (by decide) ?_
  exact absurd hF (by decide)
noncomputable def f_law_c16 (xs : Nat → Int32) (L : Nat) (v : Int32) (K : gx_F → gx_F → gx_F → gx_F → Int64 → UInt64 → Option Int32) (I V J U : gx_F) (o : Int64) (d : UInt64) : Option Int32 := (Option.bind (f_X6_errors I V) fun uq_1 => (Option.bind (f_X7_errors J U) fun uq_2 => (if uq_1 = uq_2.1 then (K I V uq_2.2.1 uq_2.2.2 o d) else (some 0))))
set_option maxHeartbeats 4000000 in
set_option maxRecDepth 100000 in
theorem w_law_c16 {p : Program} {l : Launch} {e : Env} {s : State} {m : MethodId} {A9 : Array Value} {below : List Frame} {meth : Method} {c : Code} {H : Heap} {locs : List Loc} {cells slots : Nat} {Q : State → Prop} {ls : Array Slot} {G : gx_G} {I V J U : gx_F} {o : Int64} {d : UInt64} {b L : Nat} {xs : Nat → Int32} {v : Int32} {K : gx_F → gx_F → gx_F → gx_F → Int64 → UInt64 → Option Int32} (hl9 : l.stackTraces = false) (hx : p.tables.exec = Jvm.exec) (hb : c.code = cL_law) (hml : c.maxLocals = 9) (hown : s.vm.findClass RL = some m.cls) (hV : gx_V G s) (hZ : gx_Z G s s.heap) (hX : va_X b L xs s s.heap) (hbl : b < s.heap.size) (hbA : ¬ gx_A G b) (hc1 : cells + 1 ≤ room_1.cells) (hs1 : slots + 6 ≤ room_1.slots) (hl : lv_has ls 9 [(0, .ref b), (1, .ref (G.2.1 44)), (2, .ref (G.2.1 58)), (3, .ref (G.2.1 68)), (4, .ref (G.2.1 69)), (5, .int v)]) (hw : gx_at G (I, V) (J, U) o d s.heap H locs) (hF : f_law_c16 xs L v K I V J U o d = some 1)
    (hK : ∀ (I V J U : gx_F) (o : Int64) (d : UInt64) (H : Heap) (locs : List Loc) (ls : Array Slot), lv_has ls 9 [(0, .ref b), (1, .ref (G.2.1 44)), (2, .ref (G.2.1 58)), (3, .ref (G.2.1 68)), (4, .ref (G.2.1 69)), (5, .int v)] → gx_at G (I, V) (J, U) o d s.heap H locs → K I V J U o d = some 1 → W p l e room_1 s m A9 below meth c H locs (cells + 1) (slots + 6) Q (F0 m 2154 ls [])) : W p l e room_1 s m A9 below meth c H locs cells slots Q (F0 m 1204 ls []) := by
  have hc0 : cells ≤ room_1.cells := Nat.le_trans (Nat.le_add_right _ _) hc1
  have hs0 : slots ≤ room_1.slots := Nat.le_trans (Nat.le_add_right _ _) hs1
  unfold f_law_c16 at hF
  refine lv_aload_n (pc := 1204) hx hb dL_law_1204 rfl (lv_at hl 1 rfl) ?_
  obtain ⟨uq_1, huq_1, hF⟩ := Option.bind_eq_some_iff.mp hF
  refine cl_X6_errors (pc := 1205) hx hb hml hown hV hw huq_1 (gw_323 hV) hl.1 (Nat.le_of_ble_eq_true rfl) (Nat.le_of_ble_eq_true rfl) (Nat.le_of_ble_eq_true rfl) dL_law_1205 (fun H locs hw => ?_) (hc := hc0) (hs := hs0)
  refine lv_aload_n (pc := 1208) hx hb dL_law_1208 rfl (lv_at hl 2 rfl) ?_
  obtain ⟨uq_2, huq_2, hF⟩ := Option.bind_eq_some_iff.mp hF
  refine cl_X7_errors (pc := 1209) hx hb hml hown hV hw huq_2 (gw_1245 hV) hl.1 (Nat.le_of_ble_eq_true rfl) (Nat.le_of_ble_eq_true rfl) (Nat.le_of_ble_eq_true rfl) dL_law_1209 (fun H locs hw => ?_) (hc := hc0) (hs := hs0)
  refine gx_icmp_eq (pc := 1212) (tgt := 2154) hx hb hF dL_law_1212 (by decide) (fun hF => ?_) (fun hF => ?_)
  · refine W.widen (k := cells + 1) (n := slots + 6) (Nat.le_add_right _ _) (Nat.le_add_right _ _) ?_
    exact hK _ _ _ _ _ _ _ _ _ (lv_sub hl [0, 1, 2, 3, 4, 5] rfl) hw hF
  refine lv_iconst (pc := 1215) (v := 0) hx hb dL_law_1215 (by decide) ?_
  exact absurd hF (by decide)
noncomputable def f_law_c17 (xs : Nat → Int32) (L : Nat) (v : Int32) (K : gx_F → gx_F → gx_F → gx_F → Int64 → UInt64 → Option Int32) (I V J U : gx_F) (o : Int64) (d : UInt64) : Option Int32 := (gx_ck (gx_in (v + 1) L) (Option.bind (f_L_errorsAt (xs (v + 1).toNatClampNeg) I V o) fun uq_1 => (gx_ck (gx_in (v + 1) L) (Option.bind (f_X7_errorsAt (xs (v + 1).toNatClampNeg) J U) fun uq_2 => (Option.bind (f_X7_thrown uq_2.2.1 uq_2.2.2) fun uq_3 => (if uq_3 = uq_1.1 then (if uq_1.1 = 0 then (if (lg_cmp uq_1.2.2.2 uq_2.1.toInt64) = 0 then (K uq_1.2.1 uq_1.2.2.1 uq_2.2.1 uq_2.2.2 uq_1.2.2.2 d) else (some 0)) else (K uq_1.2.1 uq_1.2.2.1 uq_2.2.1 uq_2.2.2 uq_1.2.2.2 d)) else (some 0)))))))
set_option maxHeartbeats 4000000 in
set_option maxRecDepth 100000 in
theorem w_law_c17 {p : Program} {l : Launch} {e : Env} {s : State} {m : MethodId} {A9 : Array Value} {below : List Frame} {meth : Method} {c : Code} {H : Heap} {locs : List Loc} {cells slots : Nat} {Q : State → Prop} {ls : Array Slot} {G : gx_G} {I V J U : gx_F} {o : Int64} {d : UInt64} {b L : Nat} {xs : Nat → Int32} {v : Int32} {K : gx_F → gx_F → gx_F → gx_F → Int64 → UInt64 → Option Int32} (hl9 : l.stackTraces = false) (hx : p.tables.exec = Jvm.exec) (hb : c.code = cL_law) (hml : c.maxLocals = 9) (hown : s.vm.findClass RL = some m.cls) (hV : gx_V G s) (hZ : gx_Z G s s.heap) (hX : va_X b L xs s s.heap) (hbl : b < s.heap.size) (hbA : ¬ gx_A G b) (hc1 : cells + 1 ≤ room_1.cells) (hs1 : slots + 6 ≤ room_1.slots) (hl : lv_has ls 9 [(0, .ref b), (1, .ref (G.2.1 44)), (2, .ref (G.2.1 58)), (3, .ref (G.2.1 68)), (4, .ref (G.2.1 69)), (5, .int v)]) (hw : gx_at G (I, V) (J, U) o d s.heap H locs) (hF : f_law_c17 xs L v K I V J U o d = some 1)
    (hK : ∀ (I V J U : gx_F) (o : Int64) (d : UInt64) (H : Heap) (locs : List Loc) (ls : Array Slot), lv_has ls 9 [(0, .ref b), (1, .ref (G.2.1 44)), (2, .ref (G.2.1 58)), (3, .ref (G.2.1 68)), (4, .ref (G.2.1 69)), (5, .int v)] → gx_at G (I, V) (J, U) o d s.heap H locs → K I V J U o d = some 1 → W p l e room_1 s m A9 below meth c H locs (cells + 1) (slots + 6) Q (F0 m 2154 ls [])) : W p l e room_1 s m A9 below meth c H locs cells slots Q (F0 m 1217 ls []) := by
  have hc0 : cells ≤ room_1.cells := Nat.le_trans (Nat.le_add_right _ _) hc1
  have hs0 : slots ≤ room_1.slots := Nat.le_trans (Nat.le_add_right _ _) hs1
  unfold f_law_c17 at hF
  refine lv_aload_n (pc := 1217) hx hb dL_law_1217 rfl (lv_at hl 1 rfl) ?_
  refine lv_aload_n (pc := 1218) hx hb dL_law_1218 rfl (lv_at hl 0 rfl) ?_
  refine lv_iload (pc := 1219) hx hb dL_law_1219 (lv_at hl 5 rfl) ?_
  refine lv_iconst (pc := 1221) (v := 1) hx hb dL_law_1221 (by decide) ?_
  refine lv_iadd (pc := 1222) hx hb dL_law_1222 ?_
  refine gx_sld (pc := 1223) hx hb hX hbl hbA hw hF dL_law_1223 (fun _ hF => ?_)
  refine lv_aload_n (pc := 1224) hx hb dL_law_1224 rfl (lv_at hl 3 rfl) ?_
  obtain ⟨uq_1, huq_1, hF⟩ := Option.bind_eq_some_iff.mp hF
  refine cl_L_errorsAt (pc := 1225) hl9 hx hb hml hown hV hZ hw huq_1 (gw_755 hV) hl.1 (Nat.le_of_ble_eq_true rfl) (Nat.le_of_ble_eq_true rfl) (Nat.le_of_ble_eq_true rfl) hc1 hs1 dL_law_1225 (fun H locs hw => ?_)
  refine lv_istore (pc := 1228) (lv' := [(6, .int uq_1.1), (0, .ref b), (1, .ref (G.2.1 44)), (2, .ref (G.2.1 58)), (3, .ref (G.2.1 68)), (4, .ref (G.2.1 69)), (5, .int v)]) hx hb dL_law_1228 hl (by decide) rfl (fun ls hl => ?_)
  refine lv_aload_n (pc := 1230) hx hb dL_law_1230 rfl (lv_at hl 3 rfl) ?_
  refine lv_aload_n (pc := 1231) hx hb dL_law_1231 rfl (lv_at hl 1 rfl) ?_
  refine lv_iload (pc := 1232) hx hb dL_law_1232 (lv_at hl 6 rfl) ?_
  refine lv_iconst (pc := 1234) (v := 1) hx hb dL_law_1234 (by decide) ?_
  refine lv_iadd (pc := 1235) hx hb dL_law_1235 ?_
  refine gx_sld (pc := 1236) hx hb hX hbl hbA hw hF dL_law_1236 (fun _ hF => ?_)
  obtain ⟨uq_2, huq_2, hF⟩ := Option.bind_eq_some_iff.mp hF
  refine cl_X7_errorsAt (pc := 1237) hx hb hml hown hV hw huq_2 (gw_1249 hV) hl.1 (Nat.le_of_ble_eq_true rfl) (Nat.le_of_ble_eq_true rfl) (Nat.le_of_ble_eq_true rfl) dL_law_1237 (fun H locs hw => ?_) (hc := hc1) (hs := hs1)
  refine lv_istore (pc := 1240) (lv' := [(7, .int uq_2.1), (6, .int uq_1.1), (0, .ref b), (1, .ref (G.2.1 44)), (2, .ref (G.2.1 58)), (3, .ref (G.2.1 68)), (4, .ref (G.2.1 69)), (5, .int v)]) hx hb dL_law_1240 hl (by decide) rfl (fun ls hl => ?_)
  refine lv_aload_n (pc := 1242) hx hb dL_law_1242 rfl (lv_at hl 4 rfl) ?_
  obtain ⟨uq_3, huq_3, hF⟩ := Option.bind_eq_some_iff.mp hF
  refine cl_X7_thrown (pc := 1243) hx hb hml hown hV hw huq_3 (gw_1085 hV) hl.1 (Nat.le_of_ble_eq_true rfl) (Nat.le_of_ble_eq_true rfl) (Nat.le_of_ble_eq_true rfl) dL_law_1243 (fun H locs hw => ?_) (hc := hc1) (hs := hs1)
  refine lv_iload (pc := 1246) hx hb dL_law_1246 (lv_at hl 1 rfl) ?_
  refine gx_icmp_eq (pc := 1248) (tgt := 1253) hx hb hF dL_law_1248 (by decide) (fun hF => ?_) (fun hF => ?_)
  · refine lv_iload (pc := 1253) hx hb dL_law_1253 (lv_at hl 1 rfl) ?_
    refine gx_if_ne (pc := 1255) (tgt := 1270) hx hb hF dL_law_1255 (by decide) (fun hF => ?_) (fun hF => ?_)
    · refine lv_goto (pc := 1270) (tgt := 2154) hx hb dL_law_1270 (by decide) ?_
      exact hK _ _ _ _ _ _ _ _ _ (lv_sub hl [2, 3, 4, 5, 6, 7] rfl) hw hF
    refine lv_aload_n (pc := 1258) hx hb dL_law_1258 rfl (lv_at hl 5 rfl) ?_
    refine lv_iconst (pc := 1259) (v := 0) hx hb dL_law_1259 (by decide) ?_
    refine gx_lald (pc := 1260) hx hb hV hw dL_law_1260 ?_
    refine lv_iload (pc := 1261) hx hb dL_law_1261 (lv_at hl 0 rfl) ?_
    refine lv_i2l (pc := 1263) (v := uq_2.1.toInt64) hx hb dL_law_1263 rfl ?_
    refine W.lcmp (pc := 1264) hx hb dL_law_1264 ?_
    refine gx_if_eq (pc := 1265) (tgt := 1270) hx hb hF dL_law_1265 (by decide) (fun hF => ?_) (fun hF => ?_)
    · refine lv_goto (pc := 1270) (tgt := 2154) hx hb dL_law_1270 (by decide) ?_
      exact hK _ _ _ _ _ _ _ _ _ (lv_sub hl [2, 3, 4, 5, 6, 7] rfl) hw hF
    refine lv_iconst (pc := 1268) (v := 0) hx hb dL_law_1268 (by decide) ?_
    exact absurd hF (by decide)
  refine lv_iconst (pc := 1251) (v := 0) hx hb dL_law_1251 (by decide) ?_
  exact absurd hF (by decide)
noncomputable def f_law_c18 (xs : Nat → Int32) (L : Nat) (v : Int32) (K : gx_F → gx_F → gx_F → gx_F → Int64 → UInt64 → Option Int32) (I V J U : gx_F) (o : Int64) (d : UInt64) : Option Int32 := (Option.bind (f_L_nextPlace I V o) fun uq_1 => (Option.bind (f_X7_nextPlace J U) fun uq_2 => (Option.bind (f_X7_thrown uq_2.2.1 uq_2.2.2) fun uq_3 => (if uq_3 = uq_1.1 then (if uq_1.1 = 0 then (if (lg_cmp uq_1.2.2.2 uq_2.1.toInt64) = 0 then (K uq_1.2.1 uq_1.2.2.1 uq_2.2.1 uq_2.2.2 uq_1.2.2.2 d) else (some 0)) else (K uq_1.2.1 uq_1.2.2.1 uq_2.2.1 uq_2.2.2 uq_1.2.2.2 d)) else (some 0)))))
set_option maxHeartbeats 4000000 in
set_option maxRecDepth 100000 in
theorem w_law_c18 {p : Program} {l : Launch} {e : Env} {s : State} {m : MethodId} {A9 : Array Value} {below : List Frame} {meth : Method} {c : Code} {H : Heap} {locs : List Loc} {cells slots : Nat} {Q : State → Prop} {ls : Array Slot} {G : gx_G} {I V J U : gx_F} {o : Int64} {d : UInt64} {b L : Nat} {xs : Nat → Int32} {v : Int32} {K : gx_F → gx_F → gx_F → gx_F → Int64 → UInt64 → Option Int32} (hl9 : l.stackTraces = false) (hx : p.tables.exec = Jvm.exec) (hb : c.code = cL_law) (hml : c.maxLocals = 9) (hown : s.vm.findClass RL = some m.cls) (hV : gx_V G s) (hZ : gx_Z G s s.heap) (hX : va_X b L xs s s.heap) (hbl : b < s.heap.size) (hbA : ¬ gx_A G b) (hc1 : cells + 1 ≤ room_1.cells) (hs1 : slots + 6 ≤ room_1.slots) (hl : lv_has ls 9 [(0, .ref b), (1, .ref (G.2.1 44)), (2, .ref (G.2.1 58)), (3, .ref (G.2.1 68)), (4, .ref (G.2.1 69)), (5, .int v)]) (hw : gx_at G (I, V) (J, U) o d s.heap H locs) (hF : f_law_c18 xs L v K I V J U o d = some 1)
    (hK : ∀ (I V J U : gx_F) (o : Int64) (d : UInt64) (H : Heap) (locs : List Loc) (ls : Array Slot), lv_has ls 9 [(0, .ref b), (1, .ref (G.2.1 44)), (2, .ref (G.2.1 58)), (3, .ref (G.2.1 68)), (4, .ref (G.2.1 69)), (5, .int v)] → gx_at G (I, V) (J, U) o d s.heap H locs → K I V J U o d = some 1 → W p l e room_1 s m A9 below meth c H locs (cells + 1) (slots + 6) Q (F0 m 2154 ls [])) : W p l e room_1 s m A9 below meth c H locs cells slots Q (F0 m 1273 ls []) := by
  have hc0 : cells ≤ room_1.cells := Nat.le_trans (Nat.le_add_right _ _) hc1
  have hs0 : slots ≤ room_1.slots := Nat.le_trans (Nat.le_add_right _ _) hs1
  unfold f_law_c18 at hF
  refine lv_aload_n (pc := 1273) hx hb dL_law_1273 rfl (lv_at hl 1 rfl) ?_
  refine lv_aload_n (pc := 1274) hx hb dL_law_1274 rfl (lv_at hl 3 rfl) ?_
  obtain ⟨uq_1, huq_1, hF⟩ := Option.bind_eq_some_iff.mp hF
  refine cl_L_nextPlace (pc := 1275) hl9 hx hb hml hown hV hZ hw huq_1 (gw_766 hV) hl.1 (Nat.le_of_ble_eq_true rfl) (Nat.le_of_ble_eq_true rfl) (Nat.le_of_ble_eq_true rfl) hc1 hs1 dL_law_1275 (fun H locs hw => ?_)
  refine lv_istore (pc := 1278) (lv' := [(6, .int uq_1.1), (0, .ref b), (1, .ref (G.2.1 44)), (2, .ref (G.2.1 58)), (3, .ref (G.2.1 68)), (4, .ref (G.2.1 69)), (5, .int v)]) hx hb dL_law_1278 hl (by decide) rfl (fun ls hl => ?_)
  refine lv_aload_n (pc := 1280) hx hb dL_law_1280 rfl (lv_at hl 3 rfl) ?_
  obtain ⟨uq_2, huq_2, hF⟩ := Option.bind_eq_some_iff.mp hF
  refine cl_X7_nextPlace (pc := 1281) hx hb hml hown hV hw huq_2 (gw_1253 hV) hl.1 (Nat.le_of_ble_eq_true rfl) (Nat.le_of_ble_eq_true rfl) (Nat.le_of_ble_eq_true rfl) dL_law_1281 (fun H locs hw => ?_) (hc := hc1) (hs := hs1)
  refine lv_istore (pc := 1284) (lv' := [(7, .int uq_2.1), (6, .int uq_1.1), (0, .ref b), (1, .ref (G.2.1 44)), (2, .ref (G.2.1 58)), (3, .ref (G.2.1 68)), (4, .ref (G.2.1 69)), (5, .int v)]) hx hb dL_law_1284 hl (by decide) rfl (fun ls hl => ?_)
  refine lv_aload_n (pc := 1286) hx hb dL_law_1286 rfl (lv_at hl 4 rfl) ?_
  obtain ⟨uq_3, huq_3, hF⟩ := Option.bind_eq_some_iff.mp hF
  refine cl_X7_thrown (pc := 1287) hx hb hml hown hV hw huq_3 (gw_1085 hV) hl.1 (Nat.le_of_ble_eq_true rfl) (Nat.le_of_ble_eq_true rfl) (Nat.le_of_ble_eq_true rfl) dL_law_1287 (fun H locs hw => ?_) (hc := hc1) (hs := hs1)
  refine lv_iload (pc := 1290) hx hb dL_law_1290 (lv_at hl 1 rfl) ?_
  refine gx_icmp_eq (pc := 1292) (tgt := 1297) hx hb hF dL_law_1292 (by decide) (fun hF => ?_) (fun hF => ?_)
  · refine lv_iload (pc := 1297) hx hb dL_law_1297 (lv_at hl 1 rfl) ?_
    refine gx_if_ne (pc := 1299) (tgt := 1314) hx hb hF dL_law_1299 (by decide) (fun hF => ?_) (fun hF => ?_)
    · refine lv_goto (pc := 1314) (tgt := 2154) hx hb dL_law_1314 (by decide) ?_
      exact hK _ _ _ _ _ _ _ _ _ (lv_sub hl [2, 3, 4, 5, 6, 7] rfl) hw hF
    refine lv_aload_n (pc := 1302) hx hb dL_law_1302 rfl (lv_at hl 5 rfl) ?_
    refine lv_iconst (pc := 1303) (v := 0) hx hb dL_law_1303 (by decide) ?_
    refine gx_lald (pc := 1304) hx hb hV hw dL_law_1304 ?_
    refine lv_iload (pc := 1305) hx hb dL_law_1305 (lv_at hl 0 rfl) ?_
    refine lv_i2l (pc := 1307) (v := uq_2.1.toInt64) hx hb dL_law_1307 rfl ?_
    refine W.lcmp (pc := 1308) hx hb dL_law_1308 ?_
    refine gx_if_eq (pc := 1309) (tgt := 1314) hx hb hF dL_law_1309 (by decide) (fun hF => ?_) (fun hF => ?_)
    · refine lv_goto (pc := 1314) (tgt := 2154) hx hb dL_law_1314 (by decide) ?_
      exact hK _ _ _ _ _ _ _ _ _ (lv_sub hl [2, 3, 4, 5, 6, 7] rfl) hw hF
    refine lv_iconst (pc := 1312) (v := 0) hx hb dL_law_1312 (by decide) ?_
    exact absurd hF (by decide)
  refine lv_iconst (pc := 1295) (v := 0) hx hb dL_law_1295 (by decide) ?_
  exact absurd hF (by decide)
noncomputable def f_law_c19 (xs : Nat → Int32) (L : Nat) (v : Int32) (K : gx_F → gx_F → gx_F → gx_F → Int64 → UInt64 → Option Int32) (I V J U : gx_F) (o : Int64) (d : UInt64) : Option Int32 := (Option.bind (f_L_nextBrick I V o) fun uq_1 => (Option.bind (f_X7_nextBrick J U) fun uq_2 => (Option.bind (f_X7_thrown uq_2.2.1 uq_2.2.2) fun uq_3 => (if uq_3 = uq_1.1 then (if uq_1.1 = 0 then (if (lg_cmp uq_1.2.2.2 uq_2.1.toInt64) = 0 then (K uq_1.2.1 uq_1.2.2.1 uq_2.2.1 uq_2.2.2 uq_1.2.2.2 d) else (some 0)) else (K uq_1.2.1 uq_1.2.2.1 uq_2.2.1 uq_2.2.2 uq_1.2.2.2 d)) else (some 0)))))
set_option maxHeartbeats 4000000 in
set_option maxRecDepth 100000 in
theorem w_law_c19 {p : Program} {l : Launch} {e : Env} {s : State} {m : MethodId} {A9 : Array Value} {below : List Frame} {meth : Method} {c : Code} {H : Heap} {locs : List Loc} {cells slots : Nat} {Q : State → Prop} {ls : Array Slot} {G : gx_G} {I V J U : gx_F} {o : Int64} {d : UInt64} {b L : Nat} {xs : Nat → Int32} {v : Int32} {K : gx_F → gx_F → gx_F → gx_F → Int64 → UInt64 → Option Int32} (hl9 : l.stackTraces = false) (hx : p.tables.exec = Jvm.exec) (hb : c.code = cL_law) (hml : c.maxLocals = 9) (hown : s.vm.findClass RL = some m.cls) (hV : gx_V G s) (hZ : gx_Z G s s.heap) (hX : va_X b L xs s s.heap) (hbl : b < s.heap.size) (hbA : ¬ gx_A G b) (hc1 : cells + 1 ≤ room_1.cells) (hs1 : slots + 6 ≤ room_1.slots) (hl : lv_has ls 9 [(0, .ref b), (1, .ref (G.2.1 44)), (2, .ref (G.2.1 58)), (3, .ref (G.2.1 68)), (4, .ref (G.2.1 69)), (5, .int v)]) (hw : gx_at G (I, V) (J, U) o d s.heap H locs) (hF : f_law_c19 xs L v K I V J U o d = some 1)
    (hK : ∀ (I V J U : gx_F) (o : Int64) (d : UInt64) (H : Heap) (locs : List Loc) (ls : Array Slot), lv_has ls 9 [(0, .ref b), (1, .ref (G.2.1 44)), (2, .ref (G.2.1 58)), (3, .ref (G.2.1 68)), (4, .ref (G.2.1 69)), (5, .int v)] → gx_at G (I, V) (J, U) o d s.heap H locs → K I V J U o d = some 1 → W p l e room_1 s m A9 below meth c H locs (cells + 1) (slots + 6) Q (F0 m 2154 ls [])) : W p l e room_1 s m A9 below meth c H locs cells slots Q (F0 m 1317 ls []) := by
  have hc0 : cells ≤ room_1.cells := Nat.le_trans (Nat.le_add_right _ _) hc1
  have hs0 : slots ≤ room_1.slots := Nat.le_trans (Nat.le_add_right _ _) hs1
  unfold f_law_c19 at hF
  refine lv_aload_n (pc := 1317) hx hb dL_law_1317 rfl (lv_at hl 1 rfl) ?_
  refine lv_aload_n (pc := 1318) hx hb dL_law_1318 rfl (lv_at hl 3 rfl) ?_
  obtain ⟨uq_1, huq_1, hF⟩ := Option.bind_eq_some_iff.mp hF
  refine cl_L_nextBrick (pc := 1319) hl9 hx hb hml hown hV hZ hw huq_1 (gw_775 hV) hl.1 (Nat.le_of_ble_eq_true rfl) (Nat.le_of_ble_eq_true rfl) (Nat.le_of_ble_eq_true rfl) hc1 hs1 dL_law_1319 (fun H locs hw => ?_)
  refine lv_istore (pc := 1322) (lv' := [(6, .int uq_1.1), (0, .ref b), (1, .ref (G.2.1 44)), (2, .ref (G.2.1 58)), (3, .ref (G.2.1 68)), (4, .ref (G.2.1 69)), (5, .int v)]) hx hb dL_law_1322 hl (by decide) rfl (fun ls hl => ?_)
  refine lv_aload_n (pc := 1324) hx hb dL_law_1324 rfl (lv_at hl 3 rfl) ?_
  obtain ⟨uq_2, huq_2, hF⟩ := Option.bind_eq_some_iff.mp hF
  refine cl_X7_nextBrick (pc := 1325) hx hb hml hown hV hw huq_2 (gw_1257 hV) hl.1 (Nat.le_of_ble_eq_true rfl) (Nat.le_of_ble_eq_true rfl) (Nat.le_of_ble_eq_true rfl) dL_law_1325 (fun H locs hw => ?_) (hc := hc1) (hs := hs1)
  refine lv_istore (pc := 1328) (lv' := [(7, .int uq_2.1), (6, .int uq_1.1), (0, .ref b), (1, .ref (G.2.1 44)), (2, .ref (G.2.1 58)), (3, .ref (G.2.1 68)), (4, .ref (G.2.1 69)), (5, .int v)]) hx hb dL_law_1328 hl (by decide) rfl (fun ls hl => ?_)
  refine lv_aload_n (pc := 1330) hx hb dL_law_1330 rfl (lv_at hl 4 rfl) ?_
  obtain ⟨uq_3, huq_3, hF⟩ := Option.bind_eq_some_iff.mp hF
  refine cl_X7_thrown (pc := 1331) hx hb hml hown hV hw huq_3 (gw_1085 hV) hl.1 (Nat.le_of_ble_eq_true rfl) (Nat.le_of_ble_eq_true rfl) (Nat.le_of_ble_eq_true rfl) dL_law_1331 (fun H locs hw => ?_) (hc := hc1) (hs := hs1)
  refine lv_iload (pc := 1334) hx hb dL_law_1334 (lv_at hl 1 rfl) ?_
  refine gx_icmp_eq (pc := 1336) (tgt := 1341) hx hb hF dL_law_1336 (by decide) (fun hF => ?_) (fun hF => ?_)
  · refine lv_iload (pc := 1341) hx hb dL_law_1341 (lv_at hl 1 rfl) ?_
    refine gx_if_ne (pc := 1343) (tgt := 1358) hx hb hF dL_law_1343 (by decide) (fun hF => ?_) (fun hF => ?_)
    · refine lv_goto (pc := 1358) (tgt := 2154) hx hb dL_law_1358 (by decide) ?_
      exact hK _ _ _ _ _ _ _ _ _ (lv_sub hl [2, 3, 4, 5, 6, 7] rfl) hw hF
    refine lv_aload_n (pc := 1346) hx hb dL_law_1346 rfl (lv_at hl 5 rfl) ?_
    refine lv_iconst (pc := 1347) (v := 0) hx hb dL_law_1347 (by decide) ?_
    refine gx_lald (pc := 1348) hx hb hV hw dL_law_1348 ?_
    refine lv_iload (pc := 1349) hx hb dL_law_1349 (lv_at hl 0 rfl) ?_
    refine lv_i2l (pc := 1351) (v := uq_2.1.toInt64) hx hb dL_law_1351 rfl ?_
    refine W.lcmp (pc := 1352) hx hb dL_law_1352 ?_
    refine gx_if_eq (pc := 1353) (tgt := 1358) hx hb hF dL_law_1353 (by decide) (fun hF => ?_) (fun hF => ?_)
    · refine lv_goto (pc := 1358) (tgt := 2154) hx hb dL_law_1358 (by decide) ?_
      exact hK _ _ _ _ _ _ _ _ _ (lv_sub hl [2, 3, 4, 5, 6, 7] rfl) hw hF
    refine lv_iconst (pc := 1356) (v := 0) hx hb dL_law_1356 (by decide) ?_
    exact absurd hF (by decide)
  refine lv_iconst (pc := 1339) (v := 0) hx hb dL_law_1339 (by decide) ?_
  exact absurd hF (by decide)
noncomputable def f_law_c20 (xs : Nat → Int32) (L : Nat) (v : Int32) (K : gx_F → gx_F → gx_F → gx_F → Int64 → UInt64 → Option Int32) (I V J U : gx_F) (o : Int64) (d : UInt64) : Option Int32 := (gx_ck (gx_in (v + 1) L) (Option.bind (f_L_choices (xs (v + 1).toNatClampNeg) I V o) fun uq_1 => (gx_ck (gx_in (v + 1) L) (Option.bind (f_X7_choices (xs (v + 1).toNatClampNeg) J U) fun uq_2 => (Option.bind (f_X7_thrown uq_2.2.1 uq_2.2.2) fun uq_3 => (if uq_3 = uq_1.1 then (if uq_1.1 = 0 then (if (lg_cmp uq_1.2.2.2 uq_2.1.toInt64) = 0 then (K uq_1.2.1 uq_1.2.2.1 uq_2.2.1 uq_2.2.2 uq_1.2.2.2 d) else (some 0)) else (K uq_1.2.1 uq_1.2.2.1 uq_2.2.1 uq_2.2.2 uq_1.2.2.2 d)) else (some 0)))))))
set_option maxHeartbeats 4000000 in
set_option maxRecDepth 100000 in
theorem w_law_c20 {p : Program} {l : Launch} {e : Env} {s : State} {m : MethodId} {A9 : Array Value} {below : List Frame} {meth : Method} {c : Code} {H : Heap} {locs : List Loc} {cells slots : Nat} {Q : State → Prop} {ls : Array Slot} {G : gx_G} {I V J U : gx_F} {o : Int64} {d : UInt64} {b L : Nat} {xs : Nat → Int32} {v : Int32} {K : gx_F → gx_F → gx_F → gx_F → Int64 → UInt64 → Option Int32} (hl9 : l.stackTraces = false) (hx : p.tables.exec = Jvm.exec) (hb : c.code = cL_law) (hml : c.maxLocals = 9) (hown : s.vm.findClass RL = some m.cls) (hV : gx_V G s) (hZ : gx_Z G s s.heap) (hX : va_X b L xs s s.heap) (hbl : b < s.heap.size) (hbA : ¬ gx_A G b) (hc1 : cells + 1 ≤ room_1.cells) (hs1 : slots + 6 ≤ room_1.slots) (hl : lv_has ls 9 [(0, .ref b), (1, .ref (G.2.1 44)), (2, .ref (G.2.1 58)), (3, .ref (G.2.1 68)), (4, .ref (G.2.1 69)), (5, .int v)]) (hw : gx_at G (I, V) (J, U) o d s.heap H locs) (hF : f_law_c20 xs L v K I V J U o d = some 1)
    (hK : ∀ (I V J U : gx_F) (o : Int64) (d : UInt64) (H : Heap) (locs : List Loc) (ls : Array Slot), lv_has ls 9 [(0, .ref b), (1, .ref (G.2.1 44)), (2, .ref (G.2.1 58)), (3, .ref (G.2.1 68)), (4, .ref (G.2.1 69)), (5, .int v)] → gx_at G (I, V) (J, U) o d s.heap H locs → K I V J U o d = some 1 → W p l e room_1 s m A9 below meth c H locs (cells + 1) (slots + 6) Q (F0 m 2154 ls [])) : W p l e room_1 s m A9 below meth c H locs cells slots Q (F0 m 1361 ls []) := by
  have hc0 : cells ≤ room_1.cells := Nat.le_trans (Nat.le_add_right _ _) hc1
  have hs0 : slots ≤ room_1.slots := Nat.le_trans (Nat.le_add_right _ _) hs1
  unfold f_law_c20 at hF
  refine lv_aload_n (pc := 1361) hx hb dL_law_1361 rfl (lv_at hl 1 rfl) ?_
  refine lv_aload_n (pc := 1362) hx hb dL_law_1362 rfl (lv_at hl 0 rfl) ?_
  refine lv_iload (pc := 1363) hx hb dL_law_1363 (lv_at hl 5 rfl) ?_
  refine lv_iconst (pc := 1365) (v := 1) hx hb dL_law_1365 (by decide) ?_
  refine lv_iadd (pc := 1366) hx hb dL_law_1366 ?_
  refine gx_sld (pc := 1367) hx hb hX hbl hbA hw hF dL_law_1367 (fun _ hF => ?_)
  refine lv_aload_n (pc := 1368) hx hb dL_law_1368 rfl (lv_at hl 3 rfl) ?_
  obtain ⟨uq_1, huq_1, hF⟩ := Option.bind_eq_some_iff.mp hF
  refine cl_L_choices (pc := 1369) hl9 hx hb hml hown hV hZ hw huq_1 (gw_782 hV) hl.1 (Nat.le_of_ble_eq_true rfl) (Nat.le_of_ble_eq_true rfl) (Nat.le_of_ble_eq_true rfl) hc1 hs1 dL_law_1369 (fun H locs hw => ?_)
  refine lv_istore (pc := 1372) (lv' := [(6, .int uq_1.1), (0, .ref b), (1, .ref (G.2.1 44)), (2, .ref (G.2.1 58)), (3, .ref (G.2.1 68)), (4, .ref (G.2.1 69)), (5, .int v)]) hx hb dL_law_1372 hl (by decide) rfl (fun ls hl => ?_)
  refine lv_aload_n (pc := 1374) hx hb dL_law_1374 rfl (lv_at hl 3 rfl) ?_
  refine lv_aload_n (pc := 1375) hx hb dL_law_1375 rfl (lv_at hl 1 rfl) ?_
  refine lv_iload (pc := 1376) hx hb dL_law_1376 (lv_at hl 6 rfl) ?_
  refine lv_iconst (pc := 1378) (v := 1) hx hb dL_law_1378 (by decide) ?_
  refine lv_iadd (pc := 1379) hx hb dL_law_1379 ?_
  refine gx_sld (pc := 1380) hx hb hX hbl hbA hw hF dL_law_1380 (fun _ hF => ?_)
  obtain ⟨uq_2, huq_2, hF⟩ := Option.bind_eq_some_iff.mp hF
  refine cl_X7_choices (pc := 1381) hx hb hml hown hV hw huq_2 (gw_1261 hV) hl.1 (Nat.le_of_ble_eq_true rfl) (Nat.le_of_ble_eq_true rfl) (Nat.le_of_ble_eq_true rfl) dL_law_1381 (fun H locs hw => ?_) (hc := hc1) (hs := hs1)
  refine lv_istore (pc := 1384) (lv' := [(7, .int uq_2.1), (6, .int uq_1.1), (0, .ref b), (1, .ref (G.2.1 44)), (2, .ref (G.2.1 58)), (3, .ref (G.2.1 68)), (4, .ref (G.2.1 69)), (5, .int v)]) hx hb dL_law_1384 hl (by decide) rfl (fun ls hl => ?_)
  refine lv_aload_n (pc := 1386) hx hb dL_law_1386 rfl (lv_at hl 4 rfl) ?_
  obtain ⟨uq_3, huq_3, hF⟩ := Option.bind_eq_some_iff.mp hF
  refine cl_X7_thrown (pc := 1387) hx hb hml hown hV hw huq_3 (gw_1085 hV) hl.1 (Nat.le_of_ble_eq_true rfl) (Nat.le_of_ble_eq_true rfl) (Nat.le_of_ble_eq_true rfl) dL_law_1387 (fun H locs hw => ?_) (hc := hc1) (hs := hs1)
  refine lv_iload (pc := 1390) hx hb dL_law_1390 (lv_at hl 1 rfl) ?_
  refine gx_icmp_eq (pc := 1392) (tgt := 1397) hx hb hF dL_law_1392 (by decide) (fun hF => ?_) (fun hF => ?_)
  · refine lv_iload (pc := 1397) hx hb dL_law_1397 (lv_at hl 1 rfl) ?_
    refine gx_if_ne (pc := 1399) (tgt := 1414) hx hb hF dL_law_1399 (by decide) (fun hF => ?_) (fun hF => ?_)
    · refine lv_goto (pc := 1414) (tgt := 2154) hx hb dL_law_1414 (by decide) ?_
      exact hK _ _ _ _ _ _ _ _ _ (lv_sub hl [2, 3, 4, 5, 6, 7] rfl) hw hF
    refine lv_aload_n (pc := 1402) hx hb dL_law_1402 rfl (lv_at hl 5 rfl) ?_
    refine lv_iconst (pc := 1403) (v := 0) hx hb dL_law_1403 (by decide) ?_
    refine gx_lald (pc := 1404) hx hb hV hw dL_law_1404 ?_
    refine lv_iload (pc := 1405) hx hb dL_law_1405 (lv_at hl 0 rfl) ?_
    refine lv_i2l (pc := 1407) (v := uq_2.1.toInt64) hx hb dL_law_1407 rfl ?_
    refine W.lcmp (pc := 1408) hx hb dL_law_1408 ?_
    refine gx_if_eq (pc := 1409) (tgt := 1414) hx hb hF dL_law_1409 (by decide) (fun hF => ?_) (fun hF => ?_)
    · refine lv_goto (pc := 1414) (tgt := 2154) hx hb dL_law_1414 (by decide) ?_
      exact hK _ _ _ _ _ _ _ _ _ (lv_sub hl [2, 3, 4, 5, 6, 7] rfl) hw hF
    refine lv_iconst (pc := 1412) (v := 0) hx hb dL_law_1412 (by decide) ?_
    exact absurd hF (by decide)
  refine lv_iconst (pc := 1395) (v := 0) hx hb dL_law_1395 (by decide) ?_
  exact absurd hF (by decide)
noncomputable def f_law_c21 (xs : Nat → Int32) (L : Nat) (v : Int32) (K : gx_F → gx_F → gx_F → gx_F → Int64 → UInt64 → Option Int32) (I V J U : gx_F) (o : Int64) (d : UInt64) : Option Int32 := (Option.bind (f_X6_stuck I V) fun uq_1 => (Option.bind (f_X7_stuck J U) fun uq_2 => (if uq_1.1 = uq_2.1 then (K uq_1.2.1 uq_1.2.2 uq_2.2.1 uq_2.2.2 o d) else (some 0))))
set_option maxHeartbeats 4000000 in
set_option maxRecDepth 100000 in
theorem w_law_c21 {p : Program} {l : Launch} {e : Env} {s : State} {m : MethodId} {A9 : Array Value} {below : List Frame} {meth : Method} {c : Code} {H : Heap} {locs : List Loc} {cells slots : Nat} {Q : State → Prop} {ls : Array Slot} {G : gx_G} {I V J U : gx_F} {o : Int64} {d : UInt64} {b L : Nat} {xs : Nat → Int32} {v : Int32} {K : gx_F → gx_F → gx_F → gx_F → Int64 → UInt64 → Option Int32} (hl9 : l.stackTraces = false) (hx : p.tables.exec = Jvm.exec) (hb : c.code = cL_law) (hml : c.maxLocals = 9) (hown : s.vm.findClass RL = some m.cls) (hV : gx_V G s) (hZ : gx_Z G s s.heap) (hX : va_X b L xs s s.heap) (hbl : b < s.heap.size) (hbA : ¬ gx_A G b) (hc1 : cells + 1 ≤ room_1.cells) (hs1 : slots + 6 ≤ room_1.slots) (hl : lv_has ls 9 [(0, .ref b), (1, .ref (G.2.1 44)), (2, .ref (G.2.1 58)), (3, .ref (G.2.1 68)), (4, .ref (G.2.1 69)), (5, .int v)]) (hw : gx_at G (I, V) (J, U) o d s.heap H locs) (hF : f_law_c21 xs L v K I V J U o d = some 1)
    (hK : ∀ (I V J U : gx_F) (o : Int64) (d : UInt64) (H : Heap) (locs : List Loc) (ls : Array Slot), lv_has ls 9 [(0, .ref b), (1, .ref (G.2.1 44)), (2, .ref (G.2.1 58)), (3, .ref (G.2.1 68)), (4, .ref (G.2.1 69)), (5, .int v)] → gx_at G (I, V) (J, U) o d s.heap H locs → K I V J U o d = some 1 → W p l e room_1 s m A9 below meth c H locs (cells + 1) (slots + 6) Q (F0 m 2154 ls [])) : W p l e room_1 s m A9 below meth c H locs cells slots Q (F0 m 1417 ls []) := by
  have hc0 : cells ≤ room_1.cells := Nat.le_trans (Nat.le_add_right _ _) hc1
  have hs0 : slots ≤ room_1.slots := Nat.le_trans (Nat.le_add_right _ _) hs1
  unfold f_law_c21 at hF
  refine lv_aload_n (pc := 1417) hx hb dL_law_1417 rfl (lv_at hl 1 rfl) ?_
  obtain ⟨uq_1, huq_1, hF⟩ := Option.bind_eq_some_iff.mp hF
  refine cl_X6_stuck (pc := 1418) hx hb hml hown hV hw huq_1 (gw_338 hV) hl.1 (Nat.le_of_ble_eq_true rfl) (Nat.le_of_ble_eq_true rfl) (Nat.le_of_ble_eq_true rfl) dL_law_1418 (fun H locs hw => ?_) (hc := hc0) (hs := hs0)
  refine lv_aload_n (pc := 1421) hx hb dL_law_1421 rfl (lv_at hl 2 rfl) ?_
  obtain ⟨uq_2, huq_2, hF⟩ := Option.bind_eq_some_iff.mp hF
  refine cl_X7_stuck (pc := 1422) hx hb hml hown hV hw huq_2 (gw_1265 hV) hl.1 (Nat.le_of_ble_eq_true rfl) (Nat.le_of_ble_eq_true rfl) (Nat.le_of_ble_eq_true rfl) dL_law_1422 (fun H locs hw => ?_) (hc := hc0) (hs := hs0)
  refine gx_icmp_eq (pc := 1425) (tgt := 2154) hx hb hF dL_law_1425 (by decide) (fun hF => ?_) (fun hF => ?_)
  · refine W.widen (k := cells + 1) (n := slots + 6) (Nat.le_add_right _ _) (Nat.le_add_right _ _) ?_
    exact hK _ _ _ _ _ _ _ _ _ (lv_sub hl [0, 1, 2, 3, 4, 5] rfl) hw hF
  refine lv_iconst (pc := 1428) (v := 0) hx hb dL_law_1428 (by decide) ?_
  exact absurd hF (by decide)
noncomputable def f_law_c22 (xs : Nat → Int32) (L : Nat) (v : Int32) (K : gx_F → gx_F → gx_F → gx_F → Int64 → UInt64 → Option Int32) (I V J U : gx_F) (o : Int64) (d : UInt64) : Option Int32 := (Option.bind (f_X6_growsTo I V) fun uq_1 => (Option.bind (f_X7_growsTo J U) fun uq_2 => (if uq_1.1 = uq_2.1 then (K uq_1.2.1 uq_1.2.2 uq_2.2.1 uq_2.2.2 o d) else (some 0))))
set_option maxHeartbeats 4000000 in
set_option maxRecDepth 100000 in
theorem w_law_c22 {p : Program} {l : Launch} {e : Env} {s : State} {m : MethodId} {A9 : Array Value} {below : List Frame} {meth : Method} {c : Code} {H : Heap} {locs : List Loc} {cells slots : Nat} {Q : State → Prop} {ls : Array Slot} {G : gx_G} {I V J U : gx_F} {o : Int64} {d : UInt64} {b L : Nat} {xs : Nat → Int32} {v : Int32} {K : gx_F → gx_F → gx_F → gx_F → Int64 → UInt64 → Option Int32} (hl9 : l.stackTraces = false) (hx : p.tables.exec = Jvm.exec) (hb : c.code = cL_law) (hml : c.maxLocals = 9) (hown : s.vm.findClass RL = some m.cls) (hV : gx_V G s) (hZ : gx_Z G s s.heap) (hX : va_X b L xs s s.heap) (hbl : b < s.heap.size) (hbA : ¬ gx_A G b) (hc1 : cells + 1 ≤ room_1.cells) (hs1 : slots + 6 ≤ room_1.slots) (hl : lv_has ls 9 [(0, .ref b), (1, .ref (G.2.1 44)), (2, .ref (G.2.1 58)), (3, .ref (G.2.1 68)), (4, .ref (G.2.1 69)), (5, .int v)]) (hw : gx_at G (I, V) (J, U) o d s.heap H locs) (hF : f_law_c22 xs L v K I V J U o d = some 1)
    (hK : ∀ (I V J U : gx_F) (o : Int64) (d : UInt64) (H : Heap) (locs : List Loc) (ls : Array Slot), lv_has ls 9 [(0, .ref b), (1, .ref (G.2.1 44)), (2, .ref (G.2.1 58)), (3, .ref (G.2.1 68)), (4, .ref (G.2.1 69)), (5, .int v)] → gx_at G (I, V) (J, U) o d s.heap H locs → K I V J U o d = some 1 → W p l e room_1 s m A9 below meth c H locs (cells + 1) (slots + 6) Q (F0 m 2154 ls [])) : W p l e room_1 s m A9 below meth c H locs cells slots Q (F0 m 1430 ls []) := by
  have hc0 : cells ≤ room_1.cells := Nat.le_trans (Nat.le_add_right _ _) hc1
  have hs0 : slots ≤ room_1.slots := Nat.le_trans (Nat.le_add_right _ _) hs1
  unfold f_law_c22 at hF
  refine lv_aload_n (pc := 1430) hx hb dL_law_1430 rfl (lv_at hl 1 rfl) ?_
  obtain ⟨uq_1, huq_1, hF⟩ := Option.bind_eq_some_iff.mp hF
  refine cl_X6_growsTo (pc := 1431) hx hb hml hown hV hw huq_1 (gw_365 hV) hl.1 (Nat.le_of_ble_eq_true rfl) (Nat.le_of_ble_eq_true rfl) (Nat.le_of_ble_eq_true rfl) dL_law_1431 (fun H locs hw => ?_) (hc := hc0) (hs := hs0)
  refine lv_aload_n (pc := 1434) hx hb dL_law_1434 rfl (lv_at hl 2 rfl) ?_
  obtain ⟨uq_2, huq_2, hF⟩ := Option.bind_eq_some_iff.mp hF
  refine cl_X7_growsTo (pc := 1435) hx hb hml hown hV hw huq_2 (gw_1269 hV) hl.1 (Nat.le_of_ble_eq_true rfl) (Nat.le_of_ble_eq_true rfl) (Nat.le_of_ble_eq_true rfl) dL_law_1435 (fun H locs hw => ?_) (hc := hc0) (hs := hs0)
  refine gx_icmp_eq (pc := 1438) (tgt := 2154) hx hb hF dL_law_1438 (by decide) (fun hF => ?_) (fun hF => ?_)
  · refine W.widen (k := cells + 1) (n := slots + 6) (Nat.le_add_right _ _) (Nat.le_add_right _ _) ?_
    exact hK _ _ _ _ _ _ _ _ _ (lv_sub hl [0, 1, 2, 3, 4, 5] rfl) hw hF
  refine lv_iconst (pc := 1441) (v := 0) hx hb dL_law_1441 (by decide) ?_
  exact absurd hF (by decide)
noncomputable def f_law_c23 (xs : Nat → Int32) (L : Nat) (v : Int32) (K : gx_F → gx_F → gx_F → gx_F → Int64 → UInt64 → Option Int32) (I V J U : gx_F) (o : Int64) (d : UInt64) : Option Int32 := (gx_ck (gx_in (v + 1) L) (gx_ck (gx_in (v + 2) L) (if (xs (v + 2).toNatClampNeg) = 0 then (Option.bind (f_L_inRow (xs (v + 1).toNatClampNeg) 0 I V o) fun uq_1 => (gx_ck (gx_in (v + 1) L) (gx_ck (gx_in (v + 2) L) (if (xs (v + 2).toNatClampNeg) = 0 then (Option.bind (f_X7_inRow (xs (v + 1).toNatClampNeg) 0 J U) fun uq_2 => (Option.bind (f_X7_thrown uq_2.2.1 uq_2.2.2) fun uq_3 => (if uq_3 = uq_1.1 then (if uq_1.1 = 0 then (if (lg_cmp uq_1.2.2.2 uq_2.1.toInt64) = 0 then (K uq_1.2.1 uq_1.2.2.1 uq_2.2.1 uq_2.2.2 uq_1.2.2.2 d) else (some 0)) else (K uq_1.2.1 uq_1.2.2.1 uq_2.2.1 uq_2.2.2 uq_1.2.2.2 d)) else (some 0)))) else (Option.bind (f_X7_inRow (xs (v + 1).toNatClampNeg) 1 J U) fun uq_4 => (Option.bind (f_X7_thrown uq_4.2.1 uq_4.2.2) fun uq_5 => (if uq_5 = uq_1.1 then (if uq_1.1 = 0 then (if (lg_cmp uq_1.2.2.2 uq_4.1.toInt64) = 0 then (K uq_1.2.1 uq_1.2.2.1 uq_4.2.1 uq_4.2.2 uq_1.2.2.2 d) else (some 0)) else (K uq_1.2.1 uq_1.2.2.1 uq_4.2.1 uq_4.2.2 uq_1.2.2.2 d)) else (some 0)))))))) else (Option.bind (f_L_inRow (xs (v + 1).toNatClampNeg) 1 I V o) fun uq_6 => (gx_ck (gx_in (v + 1) L) (gx_ck (gx_in (v + 2) L) (if (xs (v + 2).toNatClampNeg) = 0 then (Option.bind (f_X7_inRow (xs (v + 1).toNatClampNeg) 0 J U) fun uq_7 => (Option.bind (f_X7_thrown uq_7.2.1 uq_7.2.2) fun uq_8 => (if uq_8 = uq_6.1 then (if uq_6.1 = 0 then (if (lg_cmp uq_6.2.2.2 uq_7.1.toInt64) = 0 then (K uq_6.2.1 uq_6.2.2.1 uq_7.2.1 uq_7.2.2 uq_6.2.2.2 d) else (some 0)) else (K uq_6.2.1 uq_6.2.2.1 uq_7.2.1 uq_7.2.2 uq_6.2.2.2 d)) else (some 0)))) else (Option.bind (f_X7_inRow (xs (v + 1).toNatClampNeg) 1 J U) fun uq_9 => (Option.bind (f_X7_thrown uq_9.2.1 uq_9.2.2) fun uq_10 => (if uq_10 = uq_6.1 then (if uq_6.1 = 0 then (if (lg_cmp uq_6.2.2.2 uq_9.1.toInt64) = 0 then (K uq_6.2.1 uq_6.2.2.1 uq_9.2.1 uq_9.2.2 uq_6.2.2.2 d) else (some 0)) else (K uq_6.2.1 uq_6.2.2.1 uq_9.2.1 uq_9.2.2 uq_6.2.2.2 d)) else (some 0)))))))))))
set_option maxHeartbeats 4000000 in
set_option maxRecDepth 100000 in
theorem w_law_c23 {p : Program} {l : Launch} {e : Env} {s : State} {m : MethodId} {A9 : Array Value} {below : List Frame} {meth : Method} {c : Code} {H : Heap} {locs : List Loc} {cells slots : Nat} {Q : State → Prop} {ls : Array Slot} {G : gx_G} {I V J U : gx_F} {o : Int64} {d : UInt64} {b L : Nat} {xs : Nat → Int32} {v : Int32} {K : gx_F → gx_F → gx_F → gx_F → Int64 → UInt64 → Option Int32} (hl9 : l.stackTraces = false) (hx : p.tables.exec = Jvm.exec) (hb : c.code = cL_law) (hml : c.maxLocals = 9) (hown : s.vm.findClass RL = some m.cls) (hV : gx_V G s) (hZ : gx_Z G s s.heap) (hX : va_X b L xs s s.heap) (hbl : b < s.heap.size) (hbA : ¬ gx_A G b) (hc1 : cells + 1 ≤ room_1.cells) (hs1 : slots + 6 ≤ room_1.slots) (hl : lv_has ls 9 [(0, .ref b), (1, .ref (G.2.1 44)), (2, .ref (G.2.1 58)), (3, .ref (G.2.1 68)), (4, .ref (G.2.1 69)), (5, .int v)]) (hw : gx_at G (I, V) (J, U) o d s.heap H locs) (hF : f_law_c23 xs L v K I V J U o d = some 1)
    (hK : ∀ (I V J U : gx_F) (o : Int64) (d : UInt64) (H : Heap) (locs : List Loc) (ls : Array Slot), lv_has ls 9 [(0, .ref b), (1, .ref (G.2.1 44)), (2, .ref (G.2.1 58)), (3, .ref (G.2.1 68)), (4, .ref (G.2.1 69)), (5, .int v)] → gx_at G (I, V) (J, U) o d s.heap H locs → K I V J U o d = some 1 → W p l e room_1 s m A9 below meth c H locs (cells + 1) (slots + 6) Q (F0 m 2154 ls [])) : W p l e room_1 s m A9 below meth c H locs cells slots Q (F0 m 1443 ls []) := by
  have hc0 : cells ≤ room_1.cells := Nat.le_trans (Nat.le_add_right _ _) hc1
  have hs0 : slots ≤ room_1.slots := Nat.le_trans (Nat.le_add_right _ _) hs1
  unfold f_law_c23 at hF
  refine lv_aload_n (pc := 1443) hx hb dL_law_1443 rfl (lv_at hl 1 rfl) ?_
  refine lv_aload_n (pc := 1444) hx hb dL_law_1444 rfl (lv_at hl 0 rfl) ?_
  refine lv_iload (pc := 1445) hx hb dL_law_1445 (lv_at hl 5 rfl) ?_
  refine lv_iconst (pc := 1447) (v := 1) hx hb dL_law_1447 (by decide) ?_
  refine lv_iadd (pc := 1448) hx hb dL_law_1448 ?_
  refine gx_sld (pc := 1449) hx hb hX hbl hbA hw hF dL_law_1449 (fun _ hF => ?_)
  refine lv_aload_n (pc := 1450) hx hb dL_law_1450 rfl (lv_at hl 0 rfl) ?_
  refine lv_iload (pc := 1451) hx hb dL_law_1451 (lv_at hl 5 rfl) ?_
  refine lv_iconst (pc := 1453) (v := 2) hx hb dL_law_1453 (by decide) ?_
  refine lv_iadd (pc := 1454) hx hb dL_law_1454 ?_
  refine gx_sld (pc := 1455) hx hb hX hbl hbA hw hF dL_law_1455 (fun _ hF => ?_)
  refine gx_if_eq (pc := 1456) (tgt := 1463) hx hb hF dL_law_1456 (by decide) (fun hF => ?_) (fun hF => ?_)
  · refine lv_iconst (pc := 1463) (v := 0) hx hb dL_law_1463 (by decide) ?_
    refine lv_aload_n (pc := 1464) hx hb dL_law_1464 rfl (lv_at hl 3 rfl) ?_
    obtain ⟨uq_1, huq_1, hF⟩ := Option.bind_eq_some_iff.mp hF
    refine cl_L_inRow (pc := 1465) hl9 hx hb hml hown hV hZ hw huq_1 (gw_793 hV) hl.1 (Nat.le_of_ble_eq_true rfl) (Nat.le_of_ble_eq_true rfl) (Nat.le_of_ble_eq_true rfl) hc1 hs1 dL_law_1465 (fun H locs hw => ?_)
    refine lv_istore (pc := 1468) (lv' := [(6, .int uq_1.1), (0, .ref b), (1, .ref (G.2.1 44)), (2, .ref (G.2.1 58)), (3, .ref (G.2.1 68)), (4, .ref (G.2.1 69)), (5, .int v)]) hx hb dL_law_1468 hl (by decide) rfl (fun ls hl => ?_)
    refine lv_aload_n (pc := 1470) hx hb dL_law_1470 rfl (lv_at hl 3 rfl) ?_
    refine lv_aload_n (pc := 1471) hx hb dL_law_1471 rfl (lv_at hl 1 rfl) ?_
    refine lv_iload (pc := 1472) hx hb dL_law_1472 (lv_at hl 6 rfl) ?_
    refine lv_iconst (pc := 1474) (v := 1) hx hb dL_law_1474 (by decide) ?_
    refine lv_iadd (pc := 1475) hx hb dL_law_1475 ?_
    refine gx_sld (pc := 1476) hx hb hX hbl hbA hw hF dL_law_1476 (fun _ hF => ?_)
    refine lv_aload_n (pc := 1477) hx hb dL_law_1477 rfl (lv_at hl 1 rfl) ?_
    refine lv_iload (pc := 1478) hx hb dL_law_1478 (lv_at hl 6 rfl) ?_
    refine lv_iconst (pc := 1480) (v := 2) hx hb dL_law_1480 (by decide) ?_
    refine lv_iadd (pc := 1481) hx hb dL_law_1481 ?_
    refine gx_sld (pc := 1482) hx hb hX hbl hbA hw hF dL_law_1482 (fun _ hF => ?_)
    refine gx_if_eq (pc := 1483) (tgt := 1490) hx hb hF dL_law_1483 (by decide) (fun hF => ?_) (fun hF => ?_)
    · refine lv_iconst (pc := 1490) (v := 0) hx hb dL_law_1490 (by decide) ?_
      obtain ⟨uq_2, huq_2, hF⟩ := Option.bind_eq_some_iff.mp hF
      refine cl_X7_inRow (pc := 1491) hx hb hml hown hV hw huq_2 (gw_1273 hV) hl.1 (Nat.le_of_ble_eq_true rfl) (Nat.le_of_ble_eq_true rfl) (Nat.le_of_ble_eq_true rfl) dL_law_1491 (fun H locs hw => ?_) (hc := hc1) (hs := hs1)
      refine lv_istore (pc := 1494) (lv' := [(7, .int uq_2.1), (6, .int uq_1.1), (0, .ref b), (1, .ref (G.2.1 44)), (2, .ref (G.2.1 58)), (3, .ref (G.2.1 68)), (4, .ref (G.2.1 69)), (5, .int v)]) hx hb dL_law_1494 hl (by decide) rfl (fun ls hl => ?_)
      refine lv_aload_n (pc := 1496) hx hb dL_law_1496 rfl (lv_at hl 4 rfl) ?_
      obtain ⟨uq_3, huq_3, hF⟩ := Option.bind_eq_some_iff.mp hF
      refine cl_X7_thrown (pc := 1497) hx hb hml hown hV hw huq_3 (gw_1085 hV) hl.1 (Nat.le_of_ble_eq_true rfl) (Nat.le_of_ble_eq_true rfl) (Nat.le_of_ble_eq_true rfl) dL_law_1497 (fun H locs hw => ?_) (hc := hc1) (hs := hs1)
      refine lv_iload (pc := 1500) hx hb dL_law_1500 (lv_at hl 1 rfl) ?_
      refine gx_icmp_eq (pc := 1502) (tgt := 1507) hx hb hF dL_law_1502 (by decide) (fun hF => ?_) (fun hF => ?_)
      · refine lv_iload (pc := 1507) hx hb dL_law_1507 (lv_at hl 1 rfl) ?_
        refine gx_if_ne (pc := 1509) (tgt := 1524) hx hb hF dL_law_1509 (by decide) (fun hF => ?_) (fun hF => ?_)
        · refine lv_goto (pc := 1524) (tgt := 2154) hx hb dL_law_1524 (by decide) ?_
          exact hK _ _ _ _ _ _ _ _ _ (lv_sub hl [2, 3, 4, 5, 6, 7] rfl) hw hF
        refine lv_aload_n (pc := 1512) hx hb dL_law_1512 rfl (lv_at hl 5 rfl) ?_
        refine lv_iconst (pc := 1513) (v := 0) hx hb dL_law_1513 (by decide) ?_
        refine gx_lald (pc := 1514) hx hb hV hw dL_law_1514 ?_
        refine lv_iload (pc := 1515) hx hb dL_law_1515 (lv_at hl 0 rfl) ?_
        refine lv_i2l (pc := 1517) (v := uq_2.1.toInt64) hx hb dL_law_1517 rfl ?_
        refine W.lcmp (pc := 1518) hx hb dL_law_1518 ?_
        refine gx_if_eq (pc := 1519) (tgt := 1524) hx hb hF dL_law_1519 (by decide) (fun hF => ?_) (fun hF => ?_)
        · refine lv_goto (pc := 1524) (tgt := 2154) hx hb dL_law_1524 (by decide) ?_
          exact hK _ _ _ _ _ _ _ _ _ (lv_sub hl [2, 3, 4, 5, 6, 7] rfl) hw hF
        refine lv_iconst (pc := 1522) (v := 0) hx hb dL_law_1522 (by decide) ?_
        exact absurd hF (by decide)
      refine lv_iconst (pc := 1505) (v := 0) hx hb dL_law_1505 (by decide) ?_
      exact absurd hF (by decide)
    refine lv_iconst (pc := 1486) (v := 1) hx hb dL_law_1486 (by decide) ?_
    refine lv_goto (pc := 1487) (tgt := 1491) hx hb dL_law_1487 (by decide) ?_
    obtain ⟨uq_4, huq_4, hF⟩ := Option.bind_eq_some_iff.mp hF
    refine cl_X7_inRow (pc := 1491) hx hb hml hown hV hw huq_4 (gw_1273 hV) hl.1 (Nat.le_of_ble_eq_true rfl) (Nat.le_of_ble_eq_true rfl) (Nat.le_of_ble_eq_true rfl) dL_law_1491 (fun H locs hw => ?_) (hc := hc1) (hs := hs1)
    refine lv_istore (pc := 1494) (lv' := [(7, .int uq_4.1), (6, .int uq_1.1), (0, .ref b), (1, .ref (G.2.1 44)), (2, .ref (G.2.1 58)), (3, .ref (G.2.1 68)), (4, .ref (G.2.1 69)), (5, .int v)]) hx hb dL_law_1494 hl (by decide) rfl (fun ls hl => ?_)
    refine lv_aload_n (pc := 1496) hx hb dL_law_1496 rfl (lv_at hl 4 rfl) ?_
    obtain ⟨uq_5, huq_5, hF⟩ := Option.bind_eq_some_iff.mp hF
    refine cl_X7_thrown (pc := 1497) hx hb hml hown hV hw huq_5 (gw_1085 hV) hl.1 (Nat.le_of_ble_eq_true rfl) (Nat.le_of_ble_eq_true rfl) (Nat.le_of_ble_eq_true rfl) dL_law_1497 (fun H locs hw => ?_) (hc := hc1) (hs := hs1)
    refine lv_iload (pc := 1500) hx hb dL_law_1500 (lv_at hl 1 rfl) ?_
    refine gx_icmp_eq (pc := 1502) (tgt := 1507) hx hb hF dL_law_1502 (by decide) (fun hF => ?_) (fun hF => ?_)
    · refine lv_iload (pc := 1507) hx hb dL_law_1507 (lv_at hl 1 rfl) ?_
      refine gx_if_ne (pc := 1509) (tgt := 1524) hx hb hF dL_law_1509 (by decide) (fun hF => ?_) (fun hF => ?_)
      · refine lv_goto (pc := 1524) (tgt := 2154) hx hb dL_law_1524 (by decide) ?_
        exact hK _ _ _ _ _ _ _ _ _ (lv_sub hl [2, 3, 4, 5, 6, 7] rfl) hw hF
      refine lv_aload_n (pc := 1512) hx hb dL_law_1512 rfl (lv_at hl 5 rfl) ?_
      refine lv_iconst (pc := 1513) (v := 0) hx hb dL_law_1513 (by decide) ?_
      refine gx_lald (pc := 1514) hx hb hV hw dL_law_1514 ?_
      refine lv_iload (pc := 1515) hx hb dL_law_1515 (lv_at hl 0 rfl) ?_
      refine lv_i2l (pc := 1517) (v := uq_4.1.toInt64) hx hb dL_law_1517 rfl ?_
      refine W.lcmp (pc := 1518) hx hb dL_law_1518 ?_
      refine gx_if_eq (pc := 1519) (tgt := 1524) hx hb hF dL_law_1519 (by decide) (fun hF => ?_) (fun hF => ?_)
      · refine lv_goto (pc := 1524) (tgt := 2154) hx hb dL_law_1524 (by decide) ?_
        exact hK _ _ _ _ _ _ _ _ _ (lv_sub hl [2, 3, 4, 5, 6, 7] rfl) hw hF
      refine lv_iconst (pc := 1522) (v := 0) hx hb dL_law_1522 (by decide) ?_
      exact absurd hF (by decide)
    refine lv_iconst (pc := 1505) (v := 0) hx hb dL_law_1505 (by decide) ?_
    exact absurd hF (by decide)
  refine lv_iconst (pc := 1459) (v := 1) hx hb dL_law_1459 (by decide) ?_
  refine lv_goto (pc := 1460) (tgt := 1464) hx hb dL_law_1460 (by decide) ?_
  refine lv_aload_n (pc := 1464) hx hb dL_law_1464 rfl (lv_at hl 3 rfl) ?_
  obtain ⟨uq_6, huq_6, hF⟩ := Option.bind_eq_some_iff.mp hF
  refine cl_L_inRow (pc := 1465) hl9 hx hb hml hown hV hZ hw huq_6 (gw_793 hV) hl.1 (Nat.le_of_ble_eq_true rfl) (Nat.le_of_ble_eq_true rfl) (Nat.le_of_ble_eq_true rfl) hc1 hs1 dL_law_1465 (fun H locs hw => ?_)
  refine lv_istore (pc := 1468) (lv' := [(6, .int uq_6.1), (0, .ref b), (1, .ref (G.2.1 44)), (2, .ref (G.2.1 58)), (3, .ref (G.2.1 68)), (4, .ref (G.2.1 69)), (5, .int v)]) hx hb dL_law_1468 hl (by decide) rfl (fun ls hl => ?_)
  refine lv_aload_n (pc := 1470) hx hb dL_law_1470 rfl (lv_at hl 3 rfl) ?_
  refine lv_aload_n (pc := 1471) hx hb dL_law_1471 rfl (lv_at hl 1 rfl) ?_
  refine lv_iload (pc := 1472) hx hb dL_law_1472 (lv_at hl 6 rfl) ?_
  refine lv_iconst (pc := 1474) (v := 1) hx hb dL_law_1474 (by decide) ?_
  refine lv_iadd (pc := 1475) hx hb dL_law_1475 ?_
  refine gx_sld (pc := 1476) hx hb hX hbl hbA hw hF dL_law_1476 (fun _ hF => ?_)
  refine lv_aload_n (pc := 1477) hx hb dL_law_1477 rfl (lv_at hl 1 rfl) ?_
  refine lv_iload (pc := 1478) hx hb dL_law_1478 (lv_at hl 6 rfl) ?_
  refine lv_iconst (pc := 1480) (v := 2) hx hb dL_law_1480 (by decide) ?_
  refine lv_iadd (pc := 1481) hx hb dL_law_1481 ?_
  refine gx_sld (pc := 1482) hx hb hX hbl hbA hw hF dL_law_1482 (fun _ hF => ?_)
  refine gx_if_eq (pc := 1483) (tgt := 1490) hx hb hF dL_law_1483 (by decide) (fun hF => ?_) (fun hF => ?_)
  · refine lv_iconst (pc := 1490) (v := 0) hx hb dL_law_1490 (by decide) ?_
    obtain ⟨uq_7, huq_7, hF⟩ := Option.bind_eq_some_iff.mp hF
    refine cl_X7_inRow (pc := 1491) hx hb hml hown hV hw huq_7 (gw_1273 hV) hl.1 (Nat.le_of_ble_eq_true rfl) (Nat.le_of_ble_eq_true rfl) (Nat.le_of_ble_eq_true rfl) dL_law_1491 (fun H locs hw => ?_) (hc := hc1) (hs := hs1)
    refine lv_istore (pc := 1494) (lv' := [(7, .int uq_7.1), (6, .int uq_6.1), (0, .ref b), (1, .ref (G.2.1 44)), (2, .ref (G.2.1 58)), (3, .ref (G.2.1 68)), (4, .ref (G.2.1 69)), (5, .int v)]) hx hb dL_law_1494 hl (by decide) rfl (fun ls hl => ?_)
    refine lv_aload_n (pc := 1496) hx hb dL_law_1496 rfl (lv_at hl 4 rfl) ?_
    obtain ⟨uq_8, huq_8, hF⟩ := Option.bind_eq_some_iff.mp hF
    refine cl_X7_thrown (pc := 1497) hx hb hml hown hV hw huq_8 (gw_1085 hV) hl.1 (Nat.le_of_ble_eq_true rfl) (Nat.le_of_ble_eq_true rfl) (Nat.le_of_ble_eq_true rfl) dL_law_1497 (fun H locs hw => ?_) (hc := hc1) (hs := hs1)
    refine lv_iload (pc := 1500) hx hb dL_law_1500 (lv_at hl 1 rfl) ?_
    refine gx_icmp_eq (pc := 1502) (tgt := 1507) hx hb hF dL_law_1502 (by decide) (fun hF => ?_) (fun hF => ?_)
    · refine lv_iload (pc := 1507) hx hb dL_law_1507 (lv_at hl 1 rfl) ?_
      refine gx_if_ne (pc := 1509) (tgt := 1524) hx hb hF dL_law_1509 (by decide) (fun hF => ?_) (fun hF => ?_)
      · refine lv_goto (pc := 1524) (tgt := 2154) hx hb dL_law_1524 (by decide) ?_
        exact hK _ _ _ _ _ _ _ _ _ (lv_sub hl [2, 3, 4, 5, 6, 7] rfl) hw hF
      refine lv_aload_n (pc := 1512) hx hb dL_law_1512 rfl (lv_at hl 5 rfl) ?_
      refine lv_iconst (pc := 1513) (v := 0) hx hb dL_law_1513 (by decide) ?_
      refine gx_lald (pc := 1514) hx hb hV hw dL_law_1514 ?_
      refine lv_iload (pc := 1515) hx hb dL_law_1515 (lv_at hl 0 rfl) ?_
      refine lv_i2l (pc := 1517) (v := uq_7.1.toInt64) hx hb dL_law_1517 rfl ?_
      refine W.lcmp (pc := 1518) hx hb dL_law_1518 ?_
      refine gx_if_eq (pc := 1519) (tgt := 1524) hx hb hF dL_law_1519 (by decide) (fun hF => ?_) (fun hF => ?_)
      · refine lv_goto (pc := 1524) (tgt := 2154) hx hb dL_law_1524 (by decide) ?_
        exact hK _ _ _ _ _ _ _ _ _ (lv_sub hl [2, 3, 4, 5, 6, 7] rfl) hw hF
      refine lv_iconst (pc := 1522) (v := 0) hx hb dL_law_1522 (by decide) ?_
      exact absurd hF (by decide)
    refine lv_iconst (pc := 1505) (v := 0) hx hb dL_law_1505 (by decide) ?_
    exact absurd hF (by decide)
  refine lv_iconst (pc := 1486) (v := 1) hx hb dL_law_1486 (by decide) ?_
  refine lv_goto (pc := 1487) (tgt := 1491) hx hb dL_law_1487 (by decide) ?_
  obtain ⟨uq_9, huq_9, hF⟩ := Option.bind_eq_some_iff.mp hF
  refine cl_X7_inRow (pc := 1491) hx hb hml hown hV hw huq_9 (gw_1273 hV) hl.1 (Nat.le_of_ble_eq_true rfl) (Nat.le_of_ble_eq_true rfl) (Nat.le_of_ble_eq_true rfl) dL_law_1491 (fun H locs hw => ?_) (hc := hc1) (hs := hs1)
  refine lv_istore (pc := 1494) (lv' := [(7, .int uq_9.1), (6, .int uq_6.1), (0, .ref b), (1, .ref (G.2.1 44)), (2, .ref (G.2.1 58)), (3, .ref (G.2.1 68)), (4, .ref (G.2.1 69)), (5, .int v)]) hx hb dL_law_1494 hl (by decide) rfl (fun ls hl => ?_)
  refine lv_aload_n (pc := 1496) hx hb dL_law_1496 rfl (lv_at hl 4 rfl) ?_
  obtain ⟨uq_10, huq_10, hF⟩ := Option.bind_eq_some_iff.mp hF
  refine cl_X7_thrown (pc := 1497) hx hb hml hown hV hw huq_10 (gw_1085 hV) hl.1 (Nat.le_of_ble_eq_true rfl) (Nat.le_of_ble_eq_true rfl) (Nat.le_of_ble_eq_true rfl) dL_law_1497 (fun H locs hw => ?_) (hc := hc1) (hs := hs1)
  refine lv_iload (pc := 1500) hx hb dL_law_1500 (lv_at hl 1 rfl) ?_
  refine gx_icmp_eq (pc := 1502) (tgt := 1507) hx hb hF dL_law_1502 (by decide) (fun hF => ?_) (fun hF => ?_)
  · refine lv_iload (pc := 1507) hx hb dL_law_1507 (lv_at hl 1 rfl) ?_
    refine gx_if_ne (pc := 1509) (tgt := 1524) hx hb hF dL_law_1509 (by decide) (fun hF => ?_) (fun hF => ?_)
    · refine lv_goto (pc := 1524) (tgt := 2154) hx hb dL_law_1524 (by decide) ?_
      exact hK _ _ _ _ _ _ _ _ _ (lv_sub hl [2, 3, 4, 5, 6, 7] rfl) hw hF
    refine lv_aload_n (pc := 1512) hx hb dL_law_1512 rfl (lv_at hl 5 rfl) ?_
    refine lv_iconst (pc := 1513) (v := 0) hx hb dL_law_1513 (by decide) ?_
    refine gx_lald (pc := 1514) hx hb hV hw dL_law_1514 ?_
    refine lv_iload (pc := 1515) hx hb dL_law_1515 (lv_at hl 0 rfl) ?_
    refine lv_i2l (pc := 1517) (v := uq_9.1.toInt64) hx hb dL_law_1517 rfl ?_
    refine W.lcmp (pc := 1518) hx hb dL_law_1518 ?_
    refine gx_if_eq (pc := 1519) (tgt := 1524) hx hb hF dL_law_1519 (by decide) (fun hF => ?_) (fun hF => ?_)
    · refine lv_goto (pc := 1524) (tgt := 2154) hx hb dL_law_1524 (by decide) ?_
      exact hK _ _ _ _ _ _ _ _ _ (lv_sub hl [2, 3, 4, 5, 6, 7] rfl) hw hF
    refine lv_iconst (pc := 1522) (v := 0) hx hb dL_law_1522 (by decide) ?_
    exact absurd hF (by decide)
  refine lv_iconst (pc := 1505) (v := 0) hx hb dL_law_1505 (by decide) ?_
  exact absurd hF (by decide)
noncomputable def f_law_c24 (xs : Nat → Int32) (L : Nat) (v : Int32) (K : gx_F → gx_F → gx_F → gx_F → Int64 → UInt64 → Option Int32) (I V J U : gx_F) (o : Int64) (d : UInt64) : Option Int32 := (gx_ck (gx_in (v + 1) L) (Option.bind (f_L_weakest (xs (v + 1).toNatClampNeg) I V o) fun uq_1 => (gx_ck (gx_in (v + 1) L) (Option.bind (f_X7_weakest (xs (v + 1).toNatClampNeg) J U) fun uq_2 => (Option.bind (f_X7_thrown uq_2.2.1 uq_2.2.2) fun uq_3 => (if uq_3 = uq_1.1 then (if uq_1.1 = 0 then (if (lg_cmp uq_1.2.2.2 uq_2.1.toInt64) = 0 then (K uq_1.2.1 uq_1.2.2.1 uq_2.2.1 uq_2.2.2 uq_1.2.2.2 d) else (some 0)) else (K uq_1.2.1 uq_1.2.2.1 uq_2.2.1 uq_2.2.2 uq_1.2.2.2 d)) else (some 0)))))))
set_option maxHeartbeats 4000000 in
set_option maxRecDepth 100000 in
theorem w_law_c24 {p : Program} {l : Launch} {e : Env} {s : State} {m : MethodId} {A9 : Array Value} {below : List Frame} {meth : Method} {c : Code} {H : Heap} {locs : List Loc} {cells slots : Nat} {Q : State → Prop} {ls : Array Slot} {G : gx_G} {I V J U : gx_F} {o : Int64} {d : UInt64} {b L : Nat} {xs : Nat → Int32} {v : Int32} {K : gx_F → gx_F → gx_F → gx_F → Int64 → UInt64 → Option Int32} (hl9 : l.stackTraces = false) (hx : p.tables.exec = Jvm.exec) (hb : c.code = cL_law) (hml : c.maxLocals = 9) (hown : s.vm.findClass RL = some m.cls) (hV : gx_V G s) (hZ : gx_Z G s s.heap) (hX : va_X b L xs s s.heap) (hbl : b < s.heap.size) (hbA : ¬ gx_A G b) (hc1 : cells + 1 ≤ room_1.cells) (hs1 : slots + 6 ≤ room_1.slots) (hl : lv_has ls 9 [(0, .ref b), (1, .ref (G.2.1 44)), (2, .ref (G.2.1 58)), (3, .ref (G.2.1 68)), (4, .ref (G.2.1 69)), (5, .int v)]) (hw : gx_at G (I, V) (J, U) o d s.heap H locs) (hF : f_law_c24 xs L v K I V J U o d = some 1)
    (hK : ∀ (I V J U : gx_F) (o : Int64) (d : UInt64) (H : Heap) (locs : List Loc) (ls : Array Slot), lv_has ls 9 [(0, .ref b), (1, .ref (G.2.1 44)), (2, .ref (G.2.1 58)), (3, .ref (G.2.1 68)), (4, .ref (G.2.1 69)), (5, .int v)] → gx_at G (I, V) (J, U) o d s.heap H locs → K I V J U o d = some 1 → W p l e room_1 s m A9 below meth c H locs (cells + 1) (slots + 6) Q (F0 m 2154 ls [])) : W p l e room_1 s m A9 below meth c H locs cells slots Q (F0 m 1527 ls []) := by
  have hc0 : cells ≤ room_1.cells := Nat.le_trans (Nat.le_add_right _ _) hc1
  have hs0 : slots ≤ room_1.slots := Nat.le_trans (Nat.le_add_right _ _) hs1
  unfold f_law_c24 at hF
  refine lv_aload_n (pc := 1527) hx hb dL_law_1527 rfl (lv_at hl 1 rfl) ?_
  refine lv_aload_n (pc := 1528) hx hb dL_law_1528 rfl (lv_at hl 0 rfl) ?_
  refine lv_iload (pc := 1529) hx hb dL_law_1529 (lv_at hl 5 rfl) ?_
  refine lv_iconst (pc := 1531) (v := 1) hx hb dL_law_1531 (by decide) ?_
  refine lv_iadd (pc := 1532) hx hb dL_law_1532 ?_
  refine gx_sld (pc := 1533) hx hb hX hbl hbA hw hF dL_law_1533 (fun _ hF => ?_)
  refine lv_aload_n (pc := 1534) hx hb dL_law_1534 rfl (lv_at hl 3 rfl) ?_
  obtain ⟨uq_1, huq_1, hF⟩ := Option.bind_eq_some_iff.mp hF
  refine cl_L_weakest (pc := 1535) hl9 hx hb hml hown hV hZ hw huq_1 (gw_801 hV) hl.1 (Nat.le_of_ble_eq_true rfl) (Nat.le_of_ble_eq_true rfl) (Nat.le_of_ble_eq_true rfl) hc1 hs1 dL_law_1535 (fun H locs hw => ?_)
  refine lv_istore (pc := 1538) (lv' := [(6, .int uq_1.1), (0, .ref b), (1, .ref (G.2.1 44)), (2, .ref (G.2.1 58)), (3, .ref (G.2.1 68)), (4, .ref (G.2.1 69)), (5, .int v)]) hx hb dL_law_1538 hl (by decide) rfl (fun ls hl => ?_)
  refine lv_aload_n (pc := 1540) hx hb dL_law_1540 rfl (lv_at hl 3 rfl) ?_
  refine lv_aload_n (pc := 1541) hx hb dL_law_1541 rfl (lv_at hl 1 rfl) ?_
  refine lv_iload (pc := 1542) hx hb dL_law_1542 (lv_at hl 6 rfl) ?_
  refine lv_iconst (pc := 1544) (v := 1) hx hb dL_law_1544 (by decide) ?_
  refine lv_iadd (pc := 1545) hx hb dL_law_1545 ?_
  refine gx_sld (pc := 1546) hx hb hX hbl hbA hw hF dL_law_1546 (fun _ hF => ?_)
  obtain ⟨uq_2, huq_2, hF⟩ := Option.bind_eq_some_iff.mp hF
  refine cl_X7_weakest (pc := 1547) hx hb hml hown hV hw huq_2 (gw_1277 hV) hl.1 (Nat.le_of_ble_eq_true rfl) (Nat.le_of_ble_eq_true rfl) (Nat.le_of_ble_eq_true rfl) dL_law_1547 (fun H locs hw => ?_) (hc := hc1) (hs := hs1)
  refine lv_istore (pc := 1550) (lv' := [(7, .int uq_2.1), (6, .int uq_1.1), (0, .ref b), (1, .ref (G.2.1 44)), (2, .ref (G.2.1 58)), (3, .ref (G.2.1 68)), (4, .ref (G.2.1 69)), (5, .int v)]) hx hb dL_law_1550 hl (by decide) rfl (fun ls hl => ?_)
  refine lv_aload_n (pc := 1552) hx hb dL_law_1552 rfl (lv_at hl 4 rfl) ?_
  obtain ⟨uq_3, huq_3, hF⟩ := Option.bind_eq_some_iff.mp hF
  refine cl_X7_thrown (pc := 1553) hx hb hml hown hV hw huq_3 (gw_1085 hV) hl.1 (Nat.le_of_ble_eq_true rfl) (Nat.le_of_ble_eq_true rfl) (Nat.le_of_ble_eq_true rfl) dL_law_1553 (fun H locs hw => ?_) (hc := hc1) (hs := hs1)
  refine lv_iload (pc := 1556) hx hb dL_law_1556 (lv_at hl 1 rfl) ?_
  refine gx_icmp_eq (pc := 1558) (tgt := 1563) hx hb hF dL_law_1558 (by decide) (fun hF => ?_) (fun hF => ?_)
  · refine lv_iload (pc := 1563) hx hb dL_law_1563 (lv_at hl 1 rfl) ?_
    refine gx_if_ne (pc := 1565) (tgt := 1580) hx hb hF dL_law_1565 (by decide) (fun hF => ?_) (fun hF => ?_)
    · refine lv_goto (pc := 1580) (tgt := 2154) hx hb dL_law_1580 (by decide) ?_
      exact hK _ _ _ _ _ _ _ _ _ (lv_sub hl [2, 3, 4, 5, 6, 7] rfl) hw hF
    refine lv_aload_n (pc := 1568) hx hb dL_law_1568 rfl (lv_at hl 5 rfl) ?_
    refine lv_iconst (pc := 1569) (v := 0) hx hb dL_law_1569 (by decide) ?_
    refine gx_lald (pc := 1570) hx hb hV hw dL_law_1570 ?_
    refine lv_iload (pc := 1571) hx hb dL_law_1571 (lv_at hl 0 rfl) ?_
    refine lv_i2l (pc := 1573) (v := uq_2.1.toInt64) hx hb dL_law_1573 rfl ?_
    refine W.lcmp (pc := 1574) hx hb dL_law_1574 ?_
    refine gx_if_eq (pc := 1575) (tgt := 1580) hx hb hF dL_law_1575 (by decide) (fun hF => ?_) (fun hF => ?_)
    · refine lv_goto (pc := 1580) (tgt := 2154) hx hb dL_law_1580 (by decide) ?_
      exact hK _ _ _ _ _ _ _ _ _ (lv_sub hl [2, 3, 4, 5, 6, 7] rfl) hw hF
    refine lv_iconst (pc := 1578) (v := 0) hx hb dL_law_1578 (by decide) ?_
    exact absurd hF (by decide)
  refine lv_iconst (pc := 1561) (v := 0) hx hb dL_law_1561 (by decide) ?_
  exact absurd hF (by decide)
noncomputable def f_law_c25 (xs : Nat → Int32) (L : Nat) (v : Int32) (K : gx_F → gx_F → gx_F → gx_F → Int64 → UInt64 → Option Int32) (I V J U : gx_F) (o : Int64) (d : UInt64) : Option Int32 := (gx_ck (gx_in (v + 1) L) (Option.bind (f_L_append (gx_i2c (xs (v + 1).toNatClampNeg)) I V o) fun uq_1 => (gx_ck (gx_in (v + 1) L) (Option.bind (f_X7_append (gx_i2c (xs (v + 1).toNatClampNeg)) J U) fun uq_2 => (Option.bind (f_X7_thrown uq_2.2.1 uq_2.2.2) fun uq_3 => (if uq_3 = uq_1.1 then (if uq_1.1 = 0 then (if (lg_cmp uq_1.2.2.2 uq_2.1.toInt64) = 0 then (K uq_1.2.1 uq_1.2.2.1 uq_2.2.1 uq_2.2.2 uq_1.2.2.2 d) else (some 0)) else (K uq_1.2.1 uq_1.2.2.1 uq_2.2.1 uq_2.2.2 uq_1.2.2.2 d)) else (some 0)))))))
set_option maxHeartbeats 4000000 in
set_option maxRecDepth 100000 in
theorem w_law_c25 {p : Program} {l : Launch} {e : Env} {s : State} {m : MethodId} {A9 : Array Value} {below : List Frame} {meth : Method} {c : Code} {H : Heap} {locs : List Loc} {cells slots : Nat} {Q : State → Prop} {ls : Array Slot} {G : gx_G} {I V J U : gx_F} {o : Int64} {d : UInt64} {b L : Nat} {xs : Nat → Int32} {v : Int32} {K : gx_F → gx_F → gx_F → gx_F → Int64 → UInt64 → Option Int32} (hl9 : l.stackTraces = false) (hx : p.tables.exec = Jvm.exec) (hb : c.code = cL_law) (hml : c.maxLocals = 9) (hown : s.vm.findClass RL = some m.cls) (hV : gx_V G s) (hZ : gx_Z G s s.heap) (hX : va_X b L xs s s.heap) (hbl : b < s.heap.size) (hbA : ¬ gx_A G b) (hc1 : cells + 1 ≤ room_1.cells) (hs1 : slots + 6 ≤ room_1.slots) (hl : lv_has ls 9 [(0, .ref b), (1, .ref (G.2.1 44)), (2, .ref (G.2.1 58)), (3, .ref (G.2.1 68)), (4, .ref (G.2.1 69)), (5, .int v)]) (hw : gx_at G (I, V) (J, U) o d s.heap H locs) (hF : f_law_c25 xs L v K I V J U o d = some 1)
    (hK : ∀ (I V J U : gx_F) (o : Int64) (d : UInt64) (H : Heap) (locs : List Loc) (ls : Array Slot), lv_has ls 9 [(0, .ref b), (1, .ref (G.2.1 44)), (2, .ref (G.2.1 58)), (3, .ref (G.2.1 68)), (4, .ref (G.2.1 69)), (5, .int v)] → gx_at G (I, V) (J, U) o d s.heap H locs → K I V J U o d = some 1 → W p l e room_1 s m A9 below meth c H locs (cells + 1) (slots + 6) Q (F0 m 2154 ls [])) : W p l e room_1 s m A9 below meth c H locs cells slots Q (F0 m 1583 ls []) := by
  have hc0 : cells ≤ room_1.cells := Nat.le_trans (Nat.le_add_right _ _) hc1
  have hs0 : slots ≤ room_1.slots := Nat.le_trans (Nat.le_add_right _ _) hs1
  unfold f_law_c25 at hF
  refine lv_aload_n (pc := 1583) hx hb dL_law_1583 rfl (lv_at hl 1 rfl) ?_
  refine lv_aload_n (pc := 1584) hx hb dL_law_1584 rfl (lv_at hl 0 rfl) ?_
  refine lv_iload (pc := 1585) hx hb dL_law_1585 (lv_at hl 5 rfl) ?_
  refine lv_iconst (pc := 1587) (v := 1) hx hb dL_law_1587 (by decide) ?_
  refine lv_iadd (pc := 1588) hx hb dL_law_1588 ?_
  refine gx_sld (pc := 1589) hx hb hX hbl hbA hw hF dL_law_1589 (fun _ hF => ?_)
  refine lv_i2c (pc := 1590) (v := (gx_i2c (xs (v + 1).toNatClampNeg))) hx hb dL_law_1590 rfl ?_
  refine lv_aload_n (pc := 1591) hx hb dL_law_1591 rfl (lv_at hl 3 rfl) ?_
  obtain ⟨uq_1, huq_1, hF⟩ := Option.bind_eq_some_iff.mp hF
  refine cl_L_append (pc := 1592) hl9 hx hb hml hown hV hZ hw huq_1 (gw_813 hV) hl.1 (Nat.le_of_ble_eq_true rfl) (Nat.le_of_ble_eq_true rfl) (Nat.le_of_ble_eq_true rfl) hc1 hs1 dL_law_1592 (fun H locs hw => ?_)
  refine lv_istore (pc := 1595) (lv' := [(6, .int uq_1.1), (0, .ref b), (1, .ref (G.2.1 44)), (2, .ref (G.2.1 58)), (3, .ref (G.2.1 68)), (4, .ref (G.2.1 69)), (5, .int v)]) hx hb dL_law_1595 hl (by decide) rfl (fun ls hl => ?_)
  refine lv_aload_n (pc := 1597) hx hb dL_law_1597 rfl (lv_at hl 3 rfl) ?_
  refine lv_aload_n (pc := 1598) hx hb dL_law_1598 rfl (lv_at hl 1 rfl) ?_
  refine lv_iload (pc := 1599) hx hb dL_law_1599 (lv_at hl 6 rfl) ?_
  refine lv_iconst (pc := 1601) (v := 1) hx hb dL_law_1601 (by decide) ?_
  refine lv_iadd (pc := 1602) hx hb dL_law_1602 ?_
  refine gx_sld (pc := 1603) hx hb hX hbl hbA hw hF dL_law_1603 (fun _ hF => ?_)
  refine lv_i2c (pc := 1604) (v := (gx_i2c (xs (v + 1).toNatClampNeg))) hx hb dL_law_1604 rfl ?_
  obtain ⟨uq_2, huq_2, hF⟩ := Option.bind_eq_some_iff.mp hF
  refine cl_X7_append (pc := 1605) hx hb hml hown hV hw huq_2 (gw_1281 hV) hl.1 (Nat.le_of_ble_eq_true rfl) (Nat.le_of_ble_eq_true rfl) (Nat.le_of_ble_eq_true rfl) dL_law_1605 (fun H locs hw => ?_) (hc := hc1) (hs := hs1)
  refine lv_istore (pc := 1608) (lv' := [(7, .int uq_2.1), (6, .int uq_1.1), (0, .ref b), (1, .ref (G.2.1 44)), (2, .ref (G.2.1 58)), (3, .ref (G.2.1 68)), (4, .ref (G.2.1 69)), (5, .int v)]) hx hb dL_law_1608 hl (by decide) rfl (fun ls hl => ?_)
  refine lv_aload_n (pc := 1610) hx hb dL_law_1610 rfl (lv_at hl 4 rfl) ?_
  obtain ⟨uq_3, huq_3, hF⟩ := Option.bind_eq_some_iff.mp hF
  refine cl_X7_thrown (pc := 1611) hx hb hml hown hV hw huq_3 (gw_1085 hV) hl.1 (Nat.le_of_ble_eq_true rfl) (Nat.le_of_ble_eq_true rfl) (Nat.le_of_ble_eq_true rfl) dL_law_1611 (fun H locs hw => ?_) (hc := hc1) (hs := hs1)
  refine lv_iload (pc := 1614) hx hb dL_law_1614 (lv_at hl 1 rfl) ?_
  refine gx_icmp_eq (pc := 1616) (tgt := 1621) hx hb hF dL_law_1616 (by decide) (fun hF => ?_) (fun hF => ?_)
  · refine lv_iload (pc := 1621) hx hb dL_law_1621 (lv_at hl 1 rfl) ?_
    refine gx_if_ne (pc := 1623) (tgt := 1638) hx hb hF dL_law_1623 (by decide) (fun hF => ?_) (fun hF => ?_)
    · refine lv_goto (pc := 1638) (tgt := 2154) hx hb dL_law_1638 (by decide) ?_
      exact hK _ _ _ _ _ _ _ _ _ (lv_sub hl [2, 3, 4, 5, 6, 7] rfl) hw hF
    refine lv_aload_n (pc := 1626) hx hb dL_law_1626 rfl (lv_at hl 5 rfl) ?_
    refine lv_iconst (pc := 1627) (v := 0) hx hb dL_law_1627 (by decide) ?_
    refine gx_lald (pc := 1628) hx hb hV hw dL_law_1628 ?_
    refine lv_iload (pc := 1629) hx hb dL_law_1629 (lv_at hl 0 rfl) ?_
    refine lv_i2l (pc := 1631) (v := uq_2.1.toInt64) hx hb dL_law_1631 rfl ?_
    refine W.lcmp (pc := 1632) hx hb dL_law_1632 ?_
    refine gx_if_eq (pc := 1633) (tgt := 1638) hx hb hF dL_law_1633 (by decide) (fun hF => ?_) (fun hF => ?_)
    · refine lv_goto (pc := 1638) (tgt := 2154) hx hb dL_law_1638 (by decide) ?_
      exact hK _ _ _ _ _ _ _ _ _ (lv_sub hl [2, 3, 4, 5, 6, 7] rfl) hw hF
    refine lv_iconst (pc := 1636) (v := 0) hx hb dL_law_1636 (by decide) ?_
    exact absurd hF (by decide)
  refine lv_iconst (pc := 1619) (v := 0) hx hb dL_law_1619 (by decide) ?_
  exact absurd hF (by decide)
noncomputable def f_law_c26 (xs : Nat → Int32) (L : Nat) (v : Int32) (K : gx_F → gx_F → gx_F → gx_F → Int64 → UInt64 → Option Int32) (I V J U : gx_F) (o : Int64) (d : UInt64) : Option Int32 := (Option.bind (f_L_commands I V o) fun uq_1 => (Option.bind (f_X7_commands J U) fun uq_2 => (Option.bind (f_X7_thrown uq_2.2.1 uq_2.2.2) fun uq_3 => (if uq_3 = uq_1.1 then (if uq_1.1 = 0 then (if (lg_cmp uq_1.2.2.2 uq_2.1.toInt64) = 0 then (K uq_1.2.1 uq_1.2.2.1 uq_2.2.1 uq_2.2.2 uq_1.2.2.2 d) else (some 0)) else (K uq_1.2.1 uq_1.2.2.1 uq_2.2.1 uq_2.2.2 uq_1.2.2.2 d)) else (some 0)))))
set_option maxHeartbeats 4000000 in
set_option maxRecDepth 100000 in
theorem w_law_c26 {p : Program} {l : Launch} {e : Env} {s : State} {m : MethodId} {A9 : Array Value} {below : List Frame} {meth : Method} {c : Code} {H : Heap} {locs : List Loc} {cells slots : Nat} {Q : State → Prop} {ls : Array Slot} {G : gx_G} {I V J U : gx_F} {o : Int64} {d : UInt64} {b L : Nat} {xs : Nat → Int32} {v : Int32} {K : gx_F → gx_F → gx_F → gx_F → Int64 → UInt64 → Option Int32} (hl9 : l.stackTraces = false) (hx : p.tables.exec = Jvm.exec) (hb : c.code = cL_law) (hml : c.maxLocals = 9) (hown : s.vm.findClass RL = some m.cls) (hV : gx_V G s) (hZ : gx_Z G s s.heap) (hX : va_X b L xs s s.heap) (hbl : b < s.heap.size) (hbA : ¬ gx_A G b) (hc1 : cells + 1 ≤ room_1.cells) (hs1 : slots + 6 ≤ room_1.slots) (hl : lv_has ls 9 [(0, .ref b), (1, .ref (G.2.1 44)), (2, .ref (G.2.1 58)), (3, .ref (G.2.1 68)), (4, .ref (G.2.1 69)), (5, .int v)]) (hw : gx_at G (I, V) (J, U) o d s.heap H locs) (hF : f_law_c26 xs L v K I V J U o d = some 1)
    (hK : ∀ (I V J U : gx_F) (o : Int64) (d : UInt64) (H : Heap) (locs : List Loc) (ls : Array Slot), lv_has ls 9 [(0, .ref b), (1, .ref (G.2.1 44)), (2, .ref (G.2.1 58)), (3, .ref (G.2.1 68)), (4, .ref (G.2.1 69)), (5, .int v)] → gx_at G (I, V) (J, U) o d s.heap H locs → K I V J U o d = some 1 → W p l e room_1 s m A9 below meth c H locs (cells + 1) (slots + 6) Q (F0 m 2154 ls [])) : W p l e room_1 s m A9 below meth c H locs cells slots Q (F0 m 1641 ls []) := by
  have hc0 : cells ≤ room_1.cells := Nat.le_trans (Nat.le_add_right _ _) hc1
  have hs0 : slots ≤ room_1.slots := Nat.le_trans (Nat.le_add_right _ _) hs1
  unfold f_law_c26 at hF
  refine lv_aload_n (pc := 1641) hx hb dL_law_1641 rfl (lv_at hl 1 rfl) ?_
  refine lv_aload_n (pc := 1642) hx hb dL_law_1642 rfl (lv_at hl 3 rfl) ?_
  obtain ⟨uq_1, huq_1, hF⟩ := Option.bind_eq_some_iff.mp hF
  refine cl_L_commands (pc := 1643) hl9 hx hb hml hown hV hZ hw huq_1 (gw_846 hV) hl.1 (Nat.le_of_ble_eq_true rfl) (Nat.le_of_ble_eq_true rfl) (Nat.le_of_ble_eq_true rfl) hc1 hs1 dL_law_1643 (fun H locs hw => ?_)
  refine lv_istore (pc := 1646) (lv' := [(6, .int uq_1.1), (0, .ref b), (1, .ref (G.2.1 44)), (2, .ref (G.2.1 58)), (3, .ref (G.2.1 68)), (4, .ref (G.2.1 69)), (5, .int v)]) hx hb dL_law_1646 hl (by decide) rfl (fun ls hl => ?_)
  refine lv_aload_n (pc := 1648) hx hb dL_law_1648 rfl (lv_at hl 3 rfl) ?_
  obtain ⟨uq_2, huq_2, hF⟩ := Option.bind_eq_some_iff.mp hF
  refine cl_X7_commands (pc := 1649) hx hb hml hown hV hw huq_2 (gw_1285 hV) hl.1 (Nat.le_of_ble_eq_true rfl) (Nat.le_of_ble_eq_true rfl) (Nat.le_of_ble_eq_true rfl) dL_law_1649 (fun H locs hw => ?_) (hc := hc1) (hs := hs1)
  refine lv_istore (pc := 1652) (lv' := [(7, .int uq_2.1), (6, .int uq_1.1), (0, .ref b), (1, .ref (G.2.1 44)), (2, .ref (G.2.1 58)), (3, .ref (G.2.1 68)), (4, .ref (G.2.1 69)), (5, .int v)]) hx hb dL_law_1652 hl (by decide) rfl (fun ls hl => ?_)
  refine lv_aload_n (pc := 1654) hx hb dL_law_1654 rfl (lv_at hl 4 rfl) ?_
  obtain ⟨uq_3, huq_3, hF⟩ := Option.bind_eq_some_iff.mp hF
  refine cl_X7_thrown (pc := 1655) hx hb hml hown hV hw huq_3 (gw_1085 hV) hl.1 (Nat.le_of_ble_eq_true rfl) (Nat.le_of_ble_eq_true rfl) (Nat.le_of_ble_eq_true rfl) dL_law_1655 (fun H locs hw => ?_) (hc := hc1) (hs := hs1)
  refine lv_iload (pc := 1658) hx hb dL_law_1658 (lv_at hl 1 rfl) ?_
  refine gx_icmp_eq (pc := 1660) (tgt := 1665) hx hb hF dL_law_1660 (by decide) (fun hF => ?_) (fun hF => ?_)
  · refine lv_iload (pc := 1665) hx hb dL_law_1665 (lv_at hl 1 rfl) ?_
    refine gx_if_ne (pc := 1667) (tgt := 1682) hx hb hF dL_law_1667 (by decide) (fun hF => ?_) (fun hF => ?_)
    · refine lv_goto (pc := 1682) (tgt := 2154) hx hb dL_law_1682 (by decide) ?_
      exact hK _ _ _ _ _ _ _ _ _ (lv_sub hl [2, 3, 4, 5, 6, 7] rfl) hw hF
    refine lv_aload_n (pc := 1670) hx hb dL_law_1670 rfl (lv_at hl 5 rfl) ?_
    refine lv_iconst (pc := 1671) (v := 0) hx hb dL_law_1671 (by decide) ?_
    refine gx_lald (pc := 1672) hx hb hV hw dL_law_1672 ?_
    refine lv_iload (pc := 1673) hx hb dL_law_1673 (lv_at hl 0 rfl) ?_
    refine lv_i2l (pc := 1675) (v := uq_2.1.toInt64) hx hb dL_law_1675 rfl ?_
    refine W.lcmp (pc := 1676) hx hb dL_law_1676 ?_
    refine gx_if_eq (pc := 1677) (tgt := 1682) hx hb hF dL_law_1677 (by decide) (fun hF => ?_) (fun hF => ?_)
    · refine lv_goto (pc := 1682) (tgt := 2154) hx hb dL_law_1682 (by decide) ?_
      exact hK _ _ _ _ _ _ _ _ _ (lv_sub hl [2, 3, 4, 5, 6, 7] rfl) hw hF
    refine lv_iconst (pc := 1680) (v := 0) hx hb dL_law_1680 (by decide) ?_
    exact absurd hF (by decide)
  refine lv_iconst (pc := 1663) (v := 0) hx hb dL_law_1663 (by decide) ?_
  exact absurd hF (by decide)
noncomputable def f_law_c27 (xs : Nat → Int32) (L : Nat) (v : Int32) (K : gx_F → gx_F → gx_F → gx_F → Int64 → UInt64 → Option Int32) (I V J U : gx_F) (o : Int64) (d : UInt64) : Option Int32 := (Option.bind (f_X6_faultPosition I V) fun uq_1 => (Option.bind (f_X7_faultPosition J U) fun uq_2 => (if uq_1 = uq_2.1 then (K I V uq_2.2.1 uq_2.2.2 o d) else (some 0))))
set_option maxHeartbeats 4000000 in
set_option maxRecDepth 100000 in
theorem w_law_c27 {p : Program} {l : Launch} {e : Env} {s : State} {m : MethodId} {A9 : Array Value} {below : List Frame} {meth : Method} {c : Code} {H : Heap} {locs : List Loc} {cells slots : Nat} {Q : State → Prop} {ls : Array Slot} {G : gx_G} {I V J U : gx_F} {o : Int64} {d : UInt64} {b L : Nat} {xs : Nat → Int32} {v : Int32} {K : gx_F → gx_F → gx_F → gx_F → Int64 → UInt64 → Option Int32} (hl9 : l.stackTraces = false) (hx : p.tables.exec = Jvm.exec) (hb : c.code = cL_law) (hml : c.maxLocals = 9) (hown : s.vm.findClass RL = some m.cls) (hV : gx_V G s) (hZ : gx_Z G s s.heap) (hX : va_X b L xs s s.heap) (hbl : b < s.heap.size) (hbA : ¬ gx_A G b) (hc1 : cells + 1 ≤ room_1.cells) (hs1 : slots + 6 ≤ room_1.slots) (hl : lv_has ls 9 [(0, .ref b), (1, .ref (G.2.1 44)), (2, .ref (G.2.1 58)), (3, .ref (G.2.1 68)), (4, .ref (G.2.1 69)), (5, .int v)]) (hw : gx_at G (I, V) (J, U) o d s.heap H locs) (hF : f_law_c27 xs L v K I V J U o d = some 1)
    (hK : ∀ (I V J U : gx_F) (o : Int64) (d : UInt64) (H : Heap) (locs : List Loc) (ls : Array Slot), lv_has ls 9 [(0, .ref b), (1, .ref (G.2.1 44)), (2, .ref (G.2.1 58)), (3, .ref (G.2.1 68)), (4, .ref (G.2.1 69)), (5, .int v)] → gx_at G (I, V) (J, U) o d s.heap H locs → K I V J U o d = some 1 → W p l e room_1 s m A9 below meth c H locs (cells + 1) (slots + 6) Q (F0 m 2154 ls [])) : W p l e room_1 s m A9 below meth c H locs cells slots Q (F0 m 1685 ls []) := by
  have hc0 : cells ≤ room_1.cells := Nat.le_trans (Nat.le_add_right _ _) hc1
  have hs0 : slots ≤ room_1.slots := Nat.le_trans (Nat.le_add_right _ _) hs1
  unfold f_law_c27 at hF
  refine lv_aload_n (pc := 1685) hx hb dL_law_1685 rfl (lv_at hl 1 rfl) ?_
  obtain ⟨uq_1, huq_1, hF⟩ := Option.bind_eq_some_iff.mp hF
  refine cl_X6_faultPosition (pc := 1686) hx hb hml hown hV hw huq_1 (gw_389 hV) hl.1 (Nat.le_of_ble_eq_true rfl) (Nat.le_of_ble_eq_true rfl) (Nat.le_of_ble_eq_true rfl) dL_law_1686 (fun H locs hw => ?_) (hc := hc0) (hs := hs0)
  refine lv_aload_n (pc := 1689) hx hb dL_law_1689 rfl (lv_at hl 2 rfl) ?_
  obtain ⟨uq_2, huq_2, hF⟩ := Option.bind_eq_some_iff.mp hF
  refine cl_X7_faultPosition (pc := 1690) hx hb hml hown hV hw huq_2 (gw_1323 hV) hl.1 (Nat.le_of_ble_eq_true rfl) (Nat.le_of_ble_eq_true rfl) (Nat.le_of_ble_eq_true rfl) dL_law_1690 (fun H locs hw => ?_) (hc := hc0) (hs := hs0)
  refine gx_icmp_eq (pc := 1693) (tgt := 2154) hx hb hF dL_law_1693 (by decide) (fun hF => ?_) (fun hF => ?_)
  · refine W.widen (k := cells + 1) (n := slots + 6) (Nat.le_add_right _ _) (Nat.le_add_right _ _) ?_
    exact hK _ _ _ _ _ _ _ _ _ (lv_sub hl [0, 1, 2, 3, 4, 5] rfl) hw hF
  refine lv_iconst (pc := 1696) (v := 0) hx hb dL_law_1696 (by decide) ?_
  exact absurd hF (by decide)
noncomputable def f_law_c28 (xs : Nat → Int32) (L : Nat) (v : Int32) (K : gx_F → gx_F → gx_F → gx_F → Int64 → UInt64 → Option Int32) (I V J U : gx_F) (o : Int64) (d : UInt64) : Option Int32 := (gx_ck (gx_in (v + 1) L) (Option.bind (f_L_reason (xs (v + 1).toNatClampNeg) I V o) fun uq_1 => (gx_ck (gx_in (v + 1) L) (Option.bind (f_X7_reason (xs (v + 1).toNatClampNeg) J U) fun uq_2 => (Option.bind (f_X7_thrown uq_2.2.1 uq_2.2.2) fun uq_3 => (if uq_3 = uq_1.1 then (if uq_1.1 = 0 then (if (lg_cmp uq_1.2.2.2 uq_2.1.toInt64) = 0 then (K uq_1.2.1 uq_1.2.2.1 uq_2.2.1 uq_2.2.2 uq_1.2.2.2 d) else (some 0)) else (K uq_1.2.1 uq_1.2.2.1 uq_2.2.1 uq_2.2.2 uq_1.2.2.2 d)) else (some 0)))))))
set_option maxHeartbeats 4000000 in
set_option maxRecDepth 100000 in
theorem w_law_c28 {p : Program} {l : Launch} {e : Env} {s : State} {m : MethodId} {A9 : Array Value} {below : List Frame} {meth : Method} {c : Code} {H : Heap} {locs : List Loc} {cells slots : Nat} {Q : State → Prop} {ls : Array Slot} {G : gx_G} {I V J U : gx_F} {o : Int64} {d : UInt64} {b L : Nat} {xs : Nat → Int32} {v : Int32} {K : gx_F → gx_F → gx_F → gx_F → Int64 → UInt64 → Option Int32} (hl9 : l.stackTraces = false) (hx : p.tables.exec = Jvm.exec) (hb : c.code = cL_law) (hml : c.maxLocals = 9) (hown : s.vm.findClass RL = some m.cls) (hV : gx_V G s) (hZ : gx_Z G s s.heap) (hX : va_X b L xs s s.heap) (hbl : b < s.heap.size) (hbA : ¬ gx_A G b) (hc1 : cells + 1 ≤ room_1.cells) (hs1 : slots + 6 ≤ room_1.slots) (hl : lv_has ls 9 [(0, .ref b), (1, .ref (G.2.1 44)), (2, .ref (G.2.1 58)), (3, .ref (G.2.1 68)), (4, .ref (G.2.1 69)), (5, .int v)]) (hw : gx_at G (I, V) (J, U) o d s.heap H locs) (hF : f_law_c28 xs L v K I V J U o d = some 1)
    (hK : ∀ (I V J U : gx_F) (o : Int64) (d : UInt64) (H : Heap) (locs : List Loc) (ls : Array Slot), lv_has ls 9 [(0, .ref b), (1, .ref (G.2.1 44)), (2, .ref (G.2.1 58)), (3, .ref (G.2.1 68)), (4, .ref (G.2.1 69)), (5, .int v)] → gx_at G (I, V) (J, U) o d s.heap H locs → K I V J U o d = some 1 → W p l e room_1 s m A9 below meth c H locs (cells + 1) (slots + 6) Q (F0 m 2154 ls [])) : W p l e room_1 s m A9 below meth c H locs cells slots Q (F0 m 1698 ls []) := by
  have hc0 : cells ≤ room_1.cells := Nat.le_trans (Nat.le_add_right _ _) hc1
  have hs0 : slots ≤ room_1.slots := Nat.le_trans (Nat.le_add_right _ _) hs1
  unfold f_law_c28 at hF
  refine lv_aload_n (pc := 1698) hx hb dL_law_1698 rfl (lv_at hl 1 rfl) ?_
  refine lv_aload_n (pc := 1699) hx hb dL_law_1699 rfl (lv_at hl 0 rfl) ?_
  refine lv_iload (pc := 1700) hx hb dL_law_1700 (lv_at hl 5 rfl) ?_
  refine lv_iconst (pc := 1702) (v := 1) hx hb dL_law_1702 (by decide) ?_
  refine lv_iadd (pc := 1703) hx hb dL_law_1703 ?_
  refine gx_sld (pc := 1704) hx hb hX hbl hbA hw hF dL_law_1704 (fun _ hF => ?_)
  refine lv_aload_n (pc := 1705) hx hb dL_law_1705 rfl (lv_at hl 3 rfl) ?_
  obtain ⟨uq_1, huq_1, hF⟩ := Option.bind_eq_some_iff.mp hF
  refine cl_L_reason (pc := 1706) hl9 hx hb hml hown hV hZ hw huq_1 (gw_908 hV) hl.1 (Nat.le_of_ble_eq_true rfl) (Nat.le_of_ble_eq_true rfl) (Nat.le_of_ble_eq_true rfl) hc1 hs1 dL_law_1706 (fun H locs hw => ?_)
  refine lv_istore (pc := 1709) (lv' := [(6, .int uq_1.1), (0, .ref b), (1, .ref (G.2.1 44)), (2, .ref (G.2.1 58)), (3, .ref (G.2.1 68)), (4, .ref (G.2.1 69)), (5, .int v)]) hx hb dL_law_1709 hl (by decide) rfl (fun ls hl => ?_)
  refine lv_aload_n (pc := 1711) hx hb dL_law_1711 rfl (lv_at hl 3 rfl) ?_
  refine lv_aload_n (pc := 1712) hx hb dL_law_1712 rfl (lv_at hl 1 rfl) ?_
  refine lv_iload (pc := 1713) hx hb dL_law_1713 (lv_at hl 6 rfl) ?_
  refine lv_iconst (pc := 1715) (v := 1) hx hb dL_law_1715 (by decide) ?_
  refine lv_iadd (pc := 1716) hx hb dL_law_1716 ?_
  refine gx_sld (pc := 1717) hx hb hX hbl hbA hw hF dL_law_1717 (fun _ hF => ?_)
  obtain ⟨uq_2, huq_2, hF⟩ := Option.bind_eq_some_iff.mp hF
  refine cl_X7_reason (pc := 1718) hx hb hml hown hV hw huq_2 (gw_1327 hV) hl.1 (Nat.le_of_ble_eq_true rfl) (Nat.le_of_ble_eq_true rfl) (Nat.le_of_ble_eq_true rfl) dL_law_1718 (fun H locs hw => ?_) (hc := hc1) (hs := hs1)
  refine lv_istore (pc := 1721) (lv' := [(7, .int uq_2.1), (6, .int uq_1.1), (0, .ref b), (1, .ref (G.2.1 44)), (2, .ref (G.2.1 58)), (3, .ref (G.2.1 68)), (4, .ref (G.2.1 69)), (5, .int v)]) hx hb dL_law_1721 hl (by decide) rfl (fun ls hl => ?_)
  refine lv_aload_n (pc := 1723) hx hb dL_law_1723 rfl (lv_at hl 4 rfl) ?_
  obtain ⟨uq_3, huq_3, hF⟩ := Option.bind_eq_some_iff.mp hF
  refine cl_X7_thrown (pc := 1724) hx hb hml hown hV hw huq_3 (gw_1085 hV) hl.1 (Nat.le_of_ble_eq_true rfl) (Nat.le_of_ble_eq_true rfl) (Nat.le_of_ble_eq_true rfl) dL_law_1724 (fun H locs hw => ?_) (hc := hc1) (hs := hs1)
  refine lv_iload (pc := 1727) hx hb dL_law_1727 (lv_at hl 1 rfl) ?_
  refine gx_icmp_eq (pc := 1729) (tgt := 1734) hx hb hF dL_law_1729 (by decide) (fun hF => ?_) (fun hF => ?_)
  · refine lv_iload (pc := 1734) hx hb dL_law_1734 (lv_at hl 1 rfl) ?_
    refine gx_if_ne (pc := 1736) (tgt := 1751) hx hb hF dL_law_1736 (by decide) (fun hF => ?_) (fun hF => ?_)
    · refine lv_goto (pc := 1751) (tgt := 2154) hx hb dL_law_1751 (by decide) ?_
      exact hK _ _ _ _ _ _ _ _ _ (lv_sub hl [2, 3, 4, 5, 6, 7] rfl) hw hF
    refine lv_aload_n (pc := 1739) hx hb dL_law_1739 rfl (lv_at hl 5 rfl) ?_
    refine lv_iconst (pc := 1740) (v := 0) hx hb dL_law_1740 (by decide) ?_
    refine gx_lald (pc := 1741) hx hb hV hw dL_law_1741 ?_
    refine lv_iload (pc := 1742) hx hb dL_law_1742 (lv_at hl 0 rfl) ?_
    refine lv_i2l (pc := 1744) (v := uq_2.1.toInt64) hx hb dL_law_1744 rfl ?_
    refine W.lcmp (pc := 1745) hx hb dL_law_1745 ?_
    refine gx_if_eq (pc := 1746) (tgt := 1751) hx hb hF dL_law_1746 (by decide) (fun hF => ?_) (fun hF => ?_)
    · refine lv_goto (pc := 1751) (tgt := 2154) hx hb dL_law_1751 (by decide) ?_
      exact hK _ _ _ _ _ _ _ _ _ (lv_sub hl [2, 3, 4, 5, 6, 7] rfl) hw hF
    refine lv_iconst (pc := 1749) (v := 0) hx hb dL_law_1749 (by decide) ?_
    exact absurd hF (by decide)
  refine lv_iconst (pc := 1732) (v := 0) hx hb dL_law_1732 (by decide) ?_
  exact absurd hF (by decide)
noncomputable def f_law_c29 (xs : Nat → Int32) (L : Nat) (v : Int32) (K : gx_F → gx_F → gx_F → gx_F → Int64 → UInt64 → Option Int32) (I V J U : gx_F) (o : Int64) (d : UInt64) : Option Int32 := (gx_ck (gx_in (v + 1) L) (Option.bind (f_L_line (xs (v + 1).toNatClampNeg) I V o) fun uq_1 => (gx_ck (gx_in (v + 1) L) (Option.bind (f_X7_line (xs (v + 1).toNatClampNeg) J U) fun uq_2 => (Option.bind (f_X7_thrown uq_2.2.1 uq_2.2.2) fun uq_3 => (if uq_3 = uq_1.1 then (if uq_1.1 = 0 then (if (lg_cmp uq_1.2.2.2 uq_2.1.toInt64) = 0 then (K uq_1.2.1 uq_1.2.2.1 uq_2.2.1 uq_2.2.2 uq_1.2.2.2 d) else (some 0)) else (K uq_1.2.1 uq_1.2.2.1 uq_2.2.1 uq_2.2.2 uq_1.2.2.2 d)) else (some 0)))))))
set_option maxHeartbeats 4000000 in
set_option maxRecDepth 100000 in
theorem w_law_c29 {p : Program} {l : Launch} {e : Env} {s : State} {m : MethodId} {A9 : Array Value} {below : List Frame} {meth : Method} {c : Code} {H : Heap} {locs : List Loc} {cells slots : Nat} {Q : State → Prop} {ls : Array Slot} {G : gx_G} {I V J U : gx_F} {o : Int64} {d : UInt64} {b L : Nat} {xs : Nat → Int32} {v : Int32} {K : gx_F → gx_F → gx_F → gx_F → Int64 → UInt64 → Option Int32} (hl9 : l.stackTraces = false) (hx : p.tables.exec = Jvm.exec) (hb : c.code = cL_law) (hml : c.maxLocals = 9) (hown : s.vm.findClass RL = some m.cls) (hV : gx_V G s) (hZ : gx_Z G s s.heap) (hX : va_X b L xs s s.heap) (hbl : b < s.heap.size) (hbA : ¬ gx_A G b) (hc1 : cells + 1 ≤ room_1.cells) (hs1 : slots + 6 ≤ room_1.slots) (hl : lv_has ls 9 [(0, .ref b), (1, .ref (G.2.1 44)), (2, .ref (G.2.1 58)), (3, .ref (G.2.1 68)), (4, .ref (G.2.1 69)), (5, .int v)]) (hw : gx_at G (I, V) (J, U) o d s.heap H locs) (hF : f_law_c29 xs L v K I V J U o d = some 1)
    (hK : ∀ (I V J U : gx_F) (o : Int64) (d : UInt64) (H : Heap) (locs : List Loc) (ls : Array Slot), lv_has ls 9 [(0, .ref b), (1, .ref (G.2.1 44)), (2, .ref (G.2.1 58)), (3, .ref (G.2.1 68)), (4, .ref (G.2.1 69)), (5, .int v)] → gx_at G (I, V) (J, U) o d s.heap H locs → K I V J U o d = some 1 → W p l e room_1 s m A9 below meth c H locs (cells + 1) (slots + 6) Q (F0 m 2154 ls [])) : W p l e room_1 s m A9 below meth c H locs cells slots Q (F0 m 1754 ls []) := by
  have hc0 : cells ≤ room_1.cells := Nat.le_trans (Nat.le_add_right _ _) hc1
  have hs0 : slots ≤ room_1.slots := Nat.le_trans (Nat.le_add_right _ _) hs1
  unfold f_law_c29 at hF
  refine lv_aload_n (pc := 1754) hx hb dL_law_1754 rfl (lv_at hl 1 rfl) ?_
  refine lv_aload_n (pc := 1755) hx hb dL_law_1755 rfl (lv_at hl 0 rfl) ?_
  refine lv_iload (pc := 1756) hx hb dL_law_1756 (lv_at hl 5 rfl) ?_
  refine lv_iconst (pc := 1758) (v := 1) hx hb dL_law_1758 (by decide) ?_
  refine lv_iadd (pc := 1759) hx hb dL_law_1759 ?_
  refine gx_sld (pc := 1760) hx hb hX hbl hbA hw hF dL_law_1760 (fun _ hF => ?_)
  refine lv_aload_n (pc := 1761) hx hb dL_law_1761 rfl (lv_at hl 3 rfl) ?_
  obtain ⟨uq_1, huq_1, hF⟩ := Option.bind_eq_some_iff.mp hF
  refine cl_L_line (pc := 1762) hl9 hx hb hml hown hV hZ hw huq_1 (gw_917 hV) hl.1 (Nat.le_of_ble_eq_true rfl) (Nat.le_of_ble_eq_true rfl) (Nat.le_of_ble_eq_true rfl) hc1 hs1 dL_law_1762 (fun H locs hw => ?_)
  refine lv_istore (pc := 1765) (lv' := [(6, .int uq_1.1), (0, .ref b), (1, .ref (G.2.1 44)), (2, .ref (G.2.1 58)), (3, .ref (G.2.1 68)), (4, .ref (G.2.1 69)), (5, .int v)]) hx hb dL_law_1765 hl (by decide) rfl (fun ls hl => ?_)
  refine lv_aload_n (pc := 1767) hx hb dL_law_1767 rfl (lv_at hl 3 rfl) ?_
  refine lv_aload_n (pc := 1768) hx hb dL_law_1768 rfl (lv_at hl 1 rfl) ?_
  refine lv_iload (pc := 1769) hx hb dL_law_1769 (lv_at hl 6 rfl) ?_
  refine lv_iconst (pc := 1771) (v := 1) hx hb dL_law_1771 (by decide) ?_
  refine lv_iadd (pc := 1772) hx hb dL_law_1772 ?_
  refine gx_sld (pc := 1773) hx hb hX hbl hbA hw hF dL_law_1773 (fun _ hF => ?_)
  obtain ⟨uq_2, huq_2, hF⟩ := Option.bind_eq_some_iff.mp hF
  refine cl_X7_line (pc := 1774) hx hb hml hown hV hw huq_2 (gw_1331 hV) hl.1 (Nat.le_of_ble_eq_true rfl) (Nat.le_of_ble_eq_true rfl) (Nat.le_of_ble_eq_true rfl) dL_law_1774 (fun H locs hw => ?_) (hc := hc1) (hs := hs1)
  refine lv_istore (pc := 1777) (lv' := [(7, .int uq_2.1), (6, .int uq_1.1), (0, .ref b), (1, .ref (G.2.1 44)), (2, .ref (G.2.1 58)), (3, .ref (G.2.1 68)), (4, .ref (G.2.1 69)), (5, .int v)]) hx hb dL_law_1777 hl (by decide) rfl (fun ls hl => ?_)
  refine lv_aload_n (pc := 1779) hx hb dL_law_1779 rfl (lv_at hl 4 rfl) ?_
  obtain ⟨uq_3, huq_3, hF⟩ := Option.bind_eq_some_iff.mp hF
  refine cl_X7_thrown (pc := 1780) hx hb hml hown hV hw huq_3 (gw_1085 hV) hl.1 (Nat.le_of_ble_eq_true rfl) (Nat.le_of_ble_eq_true rfl) (Nat.le_of_ble_eq_true rfl) dL_law_1780 (fun H locs hw => ?_) (hc := hc1) (hs := hs1)
  refine lv_iload (pc := 1783) hx hb dL_law_1783 (lv_at hl 1 rfl) ?_
  refine gx_icmp_eq (pc := 1785) (tgt := 1790) hx hb hF dL_law_1785 (by decide) (fun hF => ?_) (fun hF => ?_)
  · refine lv_iload (pc := 1790) hx hb dL_law_1790 (lv_at hl 1 rfl) ?_
    refine gx_if_ne (pc := 1792) (tgt := 1807) hx hb hF dL_law_1792 (by decide) (fun hF => ?_) (fun hF => ?_)
    · refine lv_goto (pc := 1807) (tgt := 2154) hx hb dL_law_1807 (by decide) ?_
      exact hK _ _ _ _ _ _ _ _ _ (lv_sub hl [2, 3, 4, 5, 6, 7] rfl) hw hF
    refine lv_aload_n (pc := 1795) hx hb dL_law_1795 rfl (lv_at hl 5 rfl) ?_
    refine lv_iconst (pc := 1796) (v := 0) hx hb dL_law_1796 (by decide) ?_
    refine gx_lald (pc := 1797) hx hb hV hw dL_law_1797 ?_
    refine lv_iload (pc := 1798) hx hb dL_law_1798 (lv_at hl 0 rfl) ?_
    refine lv_i2l (pc := 1800) (v := uq_2.1.toInt64) hx hb dL_law_1800 rfl ?_
    refine W.lcmp (pc := 1801) hx hb dL_law_1801 ?_
    refine gx_if_eq (pc := 1802) (tgt := 1807) hx hb hF dL_law_1802 (by decide) (fun hF => ?_) (fun hF => ?_)
    · refine lv_goto (pc := 1807) (tgt := 2154) hx hb dL_law_1807 (by decide) ?_
      exact hK _ _ _ _ _ _ _ _ _ (lv_sub hl [2, 3, 4, 5, 6, 7] rfl) hw hF
    refine lv_iconst (pc := 1805) (v := 0) hx hb dL_law_1805 (by decide) ?_
    exact absurd hF (by decide)
  refine lv_iconst (pc := 1788) (v := 0) hx hb dL_law_1788 (by decide) ?_
  exact absurd hF (by decide)
noncomputable def f_law_c30 (xs : Nat → Int32) (L : Nat) (v : Int32) (K : gx_F → gx_F → gx_F → gx_F → Int64 → UInt64 → Option Int32) (I V J U : gx_F) (o : Int64) (d : UInt64) : Option Int32 := (gx_ck (gx_in (v + 1) L) (Option.bind (f_L_character (xs (v + 1).toNatClampNeg) I V o) fun uq_1 => (gx_ck (gx_in (v + 1) L) (Option.bind (f_X7_character (xs (v + 1).toNatClampNeg) J U) fun uq_2 => (Option.bind (f_X7_thrown uq_2.2.1 uq_2.2.2) fun uq_3 => (if uq_3 = uq_1.1 then (if uq_1.1 = 0 then (if (lg_cmp uq_1.2.2.2 uq_2.1.toInt64) = 0 then (K uq_1.2.1 uq_1.2.2.1 uq_2.2.1 uq_2.2.2 uq_1.2.2.2 d) else (some 0)) else (K uq_1.2.1 uq_1.2.2.1 uq_2.2.1 uq_2.2.2 uq_1.2.2.2 d)) else (some 0)))))))
set_option maxHeartbeats 4000000 in
set_option maxRecDepth 100000 in
theorem w_law_c30 {p : Program} {l : Launch} {e : Env} {s : State} {m : MethodId} {A9 : Array Value} {below : List Frame} {meth : Method} {c : Code} {H : Heap} {locs : List Loc} {cells slots : Nat} {Q : State → Prop} {ls : Array Slot} {G : gx_G} {I V J U : gx_F} {o : Int64} {d : UInt64} {b L : Nat} {xs : Nat → Int32} {v : Int32} {K : gx_F → gx_F → gx_F → gx_F → Int64 → UInt64 → Option Int32} (hl9 : l.stackTraces = false) (hx : p.tables.exec = Jvm.exec) (hb : c.code = cL_law) (hml : c.maxLocals = 9) (hown : s.vm.findClass RL = some m.cls) (hV : gx_V G s) (hZ : gx_Z G s s.heap) (hX : va_X b L xs s s.heap) (hbl : b < s.heap.size) (hbA : ¬ gx_A G b) (hc1 : cells + 1 ≤ room_1.cells) (hs1 : slots + 6 ≤ room_1.slots) (hl : lv_has ls 9 [(0, .ref b), (1, .ref (G.2.1 44)), (2, .ref (G.2.1 58)), (3, .ref (G.2.1 68)), (4, .ref (G.2.1 69)), (5, .int v)]) (hw : gx_at G (I, V) (J, U) o d s.heap H locs) (hF : f_law_c30 xs L v K I V J U o d = some 1)
    (hK : ∀ (I V J U : gx_F) (o : Int64) (d : UInt64) (H : Heap) (locs : List Loc) (ls : Array Slot), lv_has ls 9 [(0, .ref b), (1, .ref (G.2.1 44)), (2, .ref (G.2.1 58)), (3, .ref (G.2.1 68)), (4, .ref (G.2.1 69)), (5, .int v)] → gx_at G (I, V) (J, U) o d s.heap H locs → K I V J U o d = some 1 → W p l e room_1 s m A9 below meth c H locs (cells + 1) (slots + 6) Q (F0 m 2154 ls [])) : W p l e room_1 s m A9 below meth c H locs cells slots Q (F0 m 1810 ls []) := by
  have hc0 : cells ≤ room_1.cells := Nat.le_trans (Nat.le_add_right _ _) hc1
  have hs0 : slots ≤ room_1.slots := Nat.le_trans (Nat.le_add_right _ _) hs1
  unfold f_law_c30 at hF
  refine lv_aload_n (pc := 1810) hx hb dL_law_1810 rfl (lv_at hl 1 rfl) ?_
  refine lv_aload_n (pc := 1811) hx hb dL_law_1811 rfl (lv_at hl 0 rfl) ?_
  refine lv_iload (pc := 1812) hx hb dL_law_1812 (lv_at hl 5 rfl) ?_
  refine lv_iconst (pc := 1814) (v := 1) hx hb dL_law_1814 (by decide) ?_
  refine lv_iadd (pc := 1815) hx hb dL_law_1815 ?_
  refine gx_sld (pc := 1816) hx hb hX hbl hbA hw hF dL_law_1816 (fun _ hF => ?_)
  refine lv_aload_n (pc := 1817) hx hb dL_law_1817 rfl (lv_at hl 3 rfl) ?_
  obtain ⟨uq_1, huq_1, hF⟩ := Option.bind_eq_some_iff.mp hF
  refine cl_L_character (pc := 1818) hl9 hx hb hml hown hV hZ hw huq_1 (gw_933 hV) hl.1 (Nat.le_of_ble_eq_true rfl) (Nat.le_of_ble_eq_true rfl) (Nat.le_of_ble_eq_true rfl) hc1 hs1 dL_law_1818 (fun H locs hw => ?_)
  refine lv_istore (pc := 1821) (lv' := [(6, .int uq_1.1), (0, .ref b), (1, .ref (G.2.1 44)), (2, .ref (G.2.1 58)), (3, .ref (G.2.1 68)), (4, .ref (G.2.1 69)), (5, .int v)]) hx hb dL_law_1821 hl (by decide) rfl (fun ls hl => ?_)
  refine lv_aload_n (pc := 1823) hx hb dL_law_1823 rfl (lv_at hl 3 rfl) ?_
  refine lv_aload_n (pc := 1824) hx hb dL_law_1824 rfl (lv_at hl 1 rfl) ?_
  refine lv_iload (pc := 1825) hx hb dL_law_1825 (lv_at hl 6 rfl) ?_
  refine lv_iconst (pc := 1827) (v := 1) hx hb dL_law_1827 (by decide) ?_
  refine lv_iadd (pc := 1828) hx hb dL_law_1828 ?_
  refine gx_sld (pc := 1829) hx hb hX hbl hbA hw hF dL_law_1829 (fun _ hF => ?_)
  obtain ⟨uq_2, huq_2, hF⟩ := Option.bind_eq_some_iff.mp hF
  refine cl_X7_character (pc := 1830) hx hb hml hown hV hw huq_2 (gw_1339 hV) hl.1 (Nat.le_of_ble_eq_true rfl) (Nat.le_of_ble_eq_true rfl) (Nat.le_of_ble_eq_true rfl) dL_law_1830 (fun H locs hw => ?_) (hc := hc1) (hs := hs1)
  refine lv_istore (pc := 1833) (lv' := [(7, .int uq_2.1), (6, .int uq_1.1), (0, .ref b), (1, .ref (G.2.1 44)), (2, .ref (G.2.1 58)), (3, .ref (G.2.1 68)), (4, .ref (G.2.1 69)), (5, .int v)]) hx hb dL_law_1833 hl (by decide) rfl (fun ls hl => ?_)
  refine lv_aload_n (pc := 1835) hx hb dL_law_1835 rfl (lv_at hl 4 rfl) ?_
  obtain ⟨uq_3, huq_3, hF⟩ := Option.bind_eq_some_iff.mp hF
  refine cl_X7_thrown (pc := 1836) hx hb hml hown hV hw huq_3 (gw_1085 hV) hl.1 (Nat.le_of_ble_eq_true rfl) (Nat.le_of_ble_eq_true rfl) (Nat.le_of_ble_eq_true rfl) dL_law_1836 (fun H locs hw => ?_) (hc := hc1) (hs := hs1)
  refine lv_iload (pc := 1839) hx hb dL_law_1839 (lv_at hl 1 rfl) ?_
  refine gx_icmp_eq (pc := 1841) (tgt := 1846) hx hb hF dL_law_1841 (by decide) (fun hF => ?_) (fun hF => ?_)
  · refine lv_iload (pc := 1846) hx hb dL_law_1846 (lv_at hl 1 rfl) ?_
    refine gx_if_ne (pc := 1848) (tgt := 1863) hx hb hF dL_law_1848 (by decide) (fun hF => ?_) (fun hF => ?_)
    · refine lv_goto (pc := 1863) (tgt := 2154) hx hb dL_law_1863 (by decide) ?_
      exact hK _ _ _ _ _ _ _ _ _ (lv_sub hl [2, 3, 4, 5, 6, 7] rfl) hw hF
    refine lv_aload_n (pc := 1851) hx hb dL_law_1851 rfl (lv_at hl 5 rfl) ?_
    refine lv_iconst (pc := 1852) (v := 0) hx hb dL_law_1852 (by decide) ?_
    refine gx_lald (pc := 1853) hx hb hV hw dL_law_1853 ?_
    refine lv_iload (pc := 1854) hx hb dL_law_1854 (lv_at hl 0 rfl) ?_
    refine lv_i2l (pc := 1856) (v := uq_2.1.toInt64) hx hb dL_law_1856 rfl ?_
    refine W.lcmp (pc := 1857) hx hb dL_law_1857 ?_
    refine gx_if_eq (pc := 1858) (tgt := 1863) hx hb hF dL_law_1858 (by decide) (fun hF => ?_) (fun hF => ?_)
    · refine lv_goto (pc := 1863) (tgt := 2154) hx hb dL_law_1863 (by decide) ?_
      exact hK _ _ _ _ _ _ _ _ _ (lv_sub hl [2, 3, 4, 5, 6, 7] rfl) hw hF
    refine lv_iconst (pc := 1861) (v := 0) hx hb dL_law_1861 (by decide) ?_
    exact absurd hF (by decide)
  refine lv_iconst (pc := 1844) (v := 0) hx hb dL_law_1844 (by decide) ?_
  exact absurd hF (by decide)
noncomputable def f_law_c31 (xs : Nat → Int32) (L : Nat) (v : Int32) (K : gx_F → gx_F → gx_F → gx_F → Int64 → UInt64 → Option Int32) (I V J U : gx_F) (o : Int64) (d : UInt64) : Option Int32 := (Option.bind (f_L_meanHold I V d) fun uq_1 => (Option.bind (f_X7_meanHold J U) fun uq_2 => (Option.bind (f_X7_thrown uq_2.2.1 uq_2.2.2) fun uq_3 => (if uq_3 = uq_1.1 then (if uq_1.1 = 0 then (if (Op.cmpValue (FP.dcmp uq_1.2.2.2 uq_2.1) .l) = 0 then (K uq_1.2.1 uq_1.2.2.1 uq_2.2.1 uq_2.2.2 o uq_1.2.2.2) else (if (Op.cmpValue (FP.dcmp uq_1.2.2.2 uq_1.2.2.2) .l) = 0 then (some 0) else (if (Op.cmpValue (FP.dcmp uq_2.1 uq_2.1) .l) = 0 then (some 0) else (K uq_1.2.1 uq_1.2.2.1 uq_2.2.1 uq_2.2.2 o uq_1.2.2.2)))) else (K uq_1.2.1 uq_1.2.2.1 uq_2.2.1 uq_2.2.2 o uq_1.2.2.2)) else (some 0)))))
set_option maxHeartbeats 4000000 in
set_option maxRecDepth 100000 in
theorem w_law_c31 {p : Program} {l : Launch} {e : Env} {s : State} {m : MethodId} {A9 : Array Value} {below : List Frame} {meth : Method} {c : Code} {H : Heap} {locs : List Loc} {cells slots : Nat} {Q : State → Prop} {ls : Array Slot} {G : gx_G} {I V J U : gx_F} {o : Int64} {d : UInt64} {b L : Nat} {xs : Nat → Int32} {v : Int32} {K : gx_F → gx_F → gx_F → gx_F → Int64 → UInt64 → Option Int32} (hl9 : l.stackTraces = false) (hx : p.tables.exec = Jvm.exec) (hb : c.code = cL_law) (hml : c.maxLocals = 9) (hown : s.vm.findClass RL = some m.cls) (hV : gx_V G s) (hZ : gx_Z G s s.heap) (hX : va_X b L xs s s.heap) (hbl : b < s.heap.size) (hbA : ¬ gx_A G b) (hc1 : cells + 1 ≤ room_1.cells) (hs1 : slots + 6 ≤ room_1.slots) (hl : lv_has ls 9 [(0, .ref b), (1, .ref (G.2.1 44)), (2, .ref (G.2.1 58)), (3, .ref (G.2.1 68)), (4, .ref (G.2.1 69)), (5, .int v)]) (hw : gx_at G (I, V) (J, U) o d s.heap H locs) (hF : f_law_c31 xs L v K I V J U o d = some 1)
    (hK : ∀ (I V J U : gx_F) (o : Int64) (d : UInt64) (H : Heap) (locs : List Loc) (ls : Array Slot), lv_has ls 9 [(0, .ref b), (1, .ref (G.2.1 44)), (2, .ref (G.2.1 58)), (3, .ref (G.2.1 68)), (4, .ref (G.2.1 69)), (5, .int v)] → gx_at G (I, V) (J, U) o d s.heap H locs → K I V J U o d = some 1 → W p l e room_1 s m A9 below meth c H locs (cells + 1) (slots + 6) Q (F0 m 2154 ls [])) : W p l e room_1 s m A9 below meth c H locs cells slots Q (F0 m 1866 ls []) := by
  have hc0 : cells ≤ room_1.cells := Nat.le_trans (Nat.le_add_right _ _) hc1
  have hs0 : slots ≤ room_1.slots := Nat.le_trans (Nat.le_add_right _ _) hs1
  unfold f_law_c31 at hF
  refine lv_aload_n (pc := 1866) hx hb dL_law_1866 rfl (lv_at hl 1 rfl) ?_
  refine lv_aload (pc := 1867) hx hb dL_law_1867 (lv_at hl 4 rfl) ?_
  obtain ⟨uq_1, huq_1, hF⟩ := Option.bind_eq_some_iff.mp hF
  refine cl_L_meanHold (pc := 1869) hl9 hx hb hml hown hV hZ hw huq_1 (gw_941 hV) hl.1 (Nat.le_of_ble_eq_true rfl) (Nat.le_of_ble_eq_true rfl) (Nat.le_of_ble_eq_true rfl) hc1 hs1 dL_law_1869 (fun H locs hw => ?_)
  refine lv_istore (pc := 1872) (lv' := [(6, .int uq_1.1), (0, .ref b), (1, .ref (G.2.1 44)), (2, .ref (G.2.1 58)), (3, .ref (G.2.1 68)), (4, .ref (G.2.1 69)), (5, .int v)]) hx hb dL_law_1872 hl (by decide) rfl (fun ls hl => ?_)
  refine lv_aload_n (pc := 1874) hx hb dL_law_1874 rfl (lv_at hl 3 rfl) ?_
  obtain ⟨uq_2, huq_2, hF⟩ := Option.bind_eq_some_iff.mp hF
  refine cl_X7_meanHold (pc := 1875) hx hb hml hown hV hw huq_2 (gw_1343 hV) hl.1 (Nat.le_of_ble_eq_true rfl) (Nat.le_of_ble_eq_true rfl) (Nat.le_of_ble_eq_true rfl) dL_law_1875 (fun H locs hw => ?_) (hc := hc1) (hs := hs1)
  refine lv_dstore (pc := 1878) (lv' := [(7, .double uq_2.1), (6, .int uq_1.1), (0, .ref b), (1, .ref (G.2.1 44)), (2, .ref (G.2.1 58)), (3, .ref (G.2.1 68)), (4, .ref (G.2.1 69)), (5, .int v)]) hx hb dL_law_1878 hl (by decide) rfl (fun ls hl => ?_)
  refine lv_aload_n (pc := 1880) hx hb dL_law_1880 rfl (lv_at hl 4 rfl) ?_
  obtain ⟨uq_3, huq_3, hF⟩ := Option.bind_eq_some_iff.mp hF
  refine cl_X7_thrown (pc := 1881) hx hb hml hown hV hw huq_3 (gw_1085 hV) hl.1 (Nat.le_of_ble_eq_true rfl) (Nat.le_of_ble_eq_true rfl) (Nat.le_of_ble_eq_true rfl) dL_law_1881 (fun H locs hw => ?_) (hc := hc1) (hs := hs1)
  refine lv_iload (pc := 1884) hx hb dL_law_1884 (lv_at hl 1 rfl) ?_
  refine gx_icmp_eq (pc := 1886) (tgt := 1891) hx hb hF dL_law_1886 (by decide) (fun hF => ?_) (fun hF => ?_)
  · refine lv_iload (pc := 1891) hx hb dL_law_1891 (lv_at hl 1 rfl) ?_
    refine gx_if_ne (pc := 1893) (tgt := 1928) hx hb hF dL_law_1893 (by decide) (fun hF => ?_) (fun hF => ?_)
    · refine lv_goto (pc := 1928) (tgt := 2154) hx hb dL_law_1928 (by decide) ?_
      exact hK _ _ _ _ _ _ _ _ _ (lv_sub hl [2, 3, 4, 5, 6, 7] rfl) hw hF
    refine lv_aload (pc := 1896) hx hb dL_law_1896 (lv_at hl 6 rfl) ?_
    refine lv_iconst (pc := 1898) (v := 0) hx hb dL_law_1898 (by decide) ?_
    refine gx_dald (pc := 1899) hx hb hV hw dL_law_1899 ?_
    refine lv_dload (pc := 1900) hx hb dL_law_1900 (lv_at hl 0 rfl) ?_
    refine lv_dcmp (pc := 1902) hx hb dL_law_1902 ?_
    refine gx_if_eq (pc := 1903) (tgt := 1928) hx hb hF dL_law_1903 (by decide) (fun hF => ?_) (fun hF => ?_)
    · refine lv_goto (pc := 1928) (tgt := 2154) hx hb dL_law_1928 (by decide) ?_
      exact hK _ _ _ _ _ _ _ _ _ (lv_sub hl [2, 3, 4, 5, 6, 7] rfl) hw hF
    refine lv_aload (pc := 1906) hx hb dL_law_1906 (lv_at hl 6 rfl) ?_
    refine lv_iconst (pc := 1908) (v := 0) hx hb dL_law_1908 (by decide) ?_
    refine gx_dald (pc := 1909) hx hb hV hw dL_law_1909 ?_
    refine lv_aload (pc := 1910) hx hb dL_law_1910 (lv_at hl 6 rfl) ?_
    refine lv_iconst (pc := 1912) (v := 0) hx hb dL_law_1912 (by decide) ?_
    refine gx_dald (pc := 1913) hx hb hV hw dL_law_1913 ?_
    refine lv_dcmp (pc := 1914) hx hb dL_law_1914 ?_
    refine gx_if_eq (pc := 1915) (tgt := 1926) hx hb hF dL_law_1915 (by decide) (fun hF => ?_) (fun hF => ?_)
    · refine lv_iconst (pc := 1926) (v := 0) hx hb dL_law_1926 (by decide) ?_
      exact absurd hF (by decide)
    refine lv_dload (pc := 1918) hx hb dL_law_1918 (lv_at hl 0 rfl) ?_
    refine lv_dload (pc := 1920) hx hb dL_law_1920 (lv_at hl 0 rfl) ?_
    refine lv_dcmp (pc := 1922) hx hb dL_law_1922 ?_
    refine gx_if_ne (pc := 1923) (tgt := 1928) hx hb hF dL_law_1923 (by decide) (fun hF => ?_) (fun hF => ?_)
    · refine lv_goto (pc := 1928) (tgt := 2154) hx hb dL_law_1928 (by decide) ?_
      exact hK _ _ _ _ _ _ _ _ _ (lv_sub hl [2, 3, 4, 5, 6, 7] rfl) hw hF
    refine lv_iconst (pc := 1926) (v := 0) hx hb dL_law_1926 (by decide) ?_
    exact absurd hF (by decide)
  refine lv_iconst (pc := 1889) (v := 0) hx hb dL_law_1889 (by decide) ?_
  exact absurd hF (by decide)
noncomputable def f_law_c32 (xs : Nat → Int32) (L : Nat) (v : Int32) (K : gx_F → gx_F → gx_F → gx_F → Int64 → UInt64 → Option Int32) (I V J U : gx_F) (o : Int64) (d : UInt64) : Option Int32 := (Option.bind (f_L_standing I V d) fun uq_1 => (Option.bind (f_X7_standing J U) fun uq_2 => (Option.bind (f_X7_thrown uq_2.2.1 uq_2.2.2) fun uq_3 => (if uq_3 = uq_1.1 then (if uq_1.1 = 0 then (gx_ck (gx_n64 (FP.f2d uq_2.1)) (if (Op.cmpValue (FP.dcmp uq_1.2.2.2 (FP.f2d uq_2.1)) .l) = 0 then (K uq_1.2.1 uq_1.2.2.1 uq_2.2.1 uq_2.2.2 o uq_1.2.2.2) else (if (Op.cmpValue (FP.dcmp uq_1.2.2.2 uq_1.2.2.2) .l) = 0 then (some 0) else (if (Op.cmpValue (FP.fcmp uq_2.1 uq_2.1) .l) = 0 then (some 0) else (K uq_1.2.1 uq_1.2.2.1 uq_2.2.1 uq_2.2.2 o uq_1.2.2.2))))) else (K uq_1.2.1 uq_1.2.2.1 uq_2.2.1 uq_2.2.2 o uq_1.2.2.2)) else (some 0)))))
set_option maxHeartbeats 4000000 in
set_option maxRecDepth 100000 in
theorem w_law_c32 {p : Program} {l : Launch} {e : Env} {s : State} {m : MethodId} {A9 : Array Value} {below : List Frame} {meth : Method} {c : Code} {H : Heap} {locs : List Loc} {cells slots : Nat} {Q : State → Prop} {ls : Array Slot} {G : gx_G} {I V J U : gx_F} {o : Int64} {d : UInt64} {b L : Nat} {xs : Nat → Int32} {v : Int32} {K : gx_F → gx_F → gx_F → gx_F → Int64 → UInt64 → Option Int32} (hl9 : l.stackTraces = false) (hx : p.tables.exec = Jvm.exec) (hb : c.code = cL_law) (hml : c.maxLocals = 9) (hown : s.vm.findClass RL = some m.cls) (hV : gx_V G s) (hZ : gx_Z G s s.heap) (hX : va_X b L xs s s.heap) (hbl : b < s.heap.size) (hbA : ¬ gx_A G b) (hc1 : cells + 1 ≤ room_1.cells) (hs1 : slots + 6 ≤ room_1.slots) (hl : lv_has ls 9 [(0, .ref b), (1, .ref (G.2.1 44)), (2, .ref (G.2.1 58)), (3, .ref (G.2.1 68)), (4, .ref (G.2.1 69)), (5, .int v)]) (hw : gx_at G (I, V) (J, U) o d s.heap H locs) (hF : f_law_c32 xs L v K I V J U o d = some 1)
    (hK : ∀ (I V J U : gx_F) (o : Int64) (d : UInt64) (H : Heap) (locs : List Loc) (ls : Array Slot), lv_has ls 9 [(0, .ref b), (1, .ref (G.2.1 44)), (2, .ref (G.2.1 58)), (3, .ref (G.2.1 68)), (4, .ref (G.2.1 69)), (5, .int v)] → gx_at G (I, V) (J, U) o d s.heap H locs → K I V J U o d = some 1 → W p l e room_1 s m A9 below meth c H locs (cells + 1) (slots + 6) Q (F0 m 2154 ls [])) : W p l e room_1 s m A9 below meth c H locs cells slots Q (F0 m 1931 ls []) := by
  have hc0 : cells ≤ room_1.cells := Nat.le_trans (Nat.le_add_right _ _) hc1
  have hs0 : slots ≤ room_1.slots := Nat.le_trans (Nat.le_add_right _ _) hs1
  unfold f_law_c32 at hF
  refine lv_aload_n (pc := 1931) hx hb dL_law_1931 rfl (lv_at hl 1 rfl) ?_
  refine lv_aload (pc := 1932) hx hb dL_law_1932 (lv_at hl 4 rfl) ?_
  obtain ⟨uq_1, huq_1, hF⟩ := Option.bind_eq_some_iff.mp hF
  refine cl_L_standing (pc := 1934) hl9 hx hb hml hown hV hZ hw huq_1 (gw_965 hV) hl.1 (Nat.le_of_ble_eq_true rfl) (Nat.le_of_ble_eq_true rfl) (Nat.le_of_ble_eq_true rfl) hc1 hs1 dL_law_1934 (fun H locs hw => ?_)
  refine lv_istore (pc := 1937) (lv' := [(6, .int uq_1.1), (0, .ref b), (1, .ref (G.2.1 44)), (2, .ref (G.2.1 58)), (3, .ref (G.2.1 68)), (4, .ref (G.2.1 69)), (5, .int v)]) hx hb dL_law_1937 hl (by decide) rfl (fun ls hl => ?_)
  refine lv_aload_n (pc := 1939) hx hb dL_law_1939 rfl (lv_at hl 3 rfl) ?_
  obtain ⟨uq_2, huq_2, hF⟩ := Option.bind_eq_some_iff.mp hF
  refine cl_X7_standing (pc := 1940) hx hb hml hown hV hw huq_2 (gw_1347 hV) hl.1 (Nat.le_of_ble_eq_true rfl) (Nat.le_of_ble_eq_true rfl) (Nat.le_of_ble_eq_true rfl) dL_law_1940 (fun H locs hw => ?_) (hc := hc1) (hs := hs1)
  refine lv_fstore (pc := 1943) (lv' := [(7, .float uq_2.1), (6, .int uq_1.1), (0, .ref b), (1, .ref (G.2.1 44)), (2, .ref (G.2.1 58)), (3, .ref (G.2.1 68)), (4, .ref (G.2.1 69)), (5, .int v)]) hx hb dL_law_1943 hl (by decide) rfl (fun ls hl => ?_)
  refine lv_aload_n (pc := 1945) hx hb dL_law_1945 rfl (lv_at hl 4 rfl) ?_
  obtain ⟨uq_3, huq_3, hF⟩ := Option.bind_eq_some_iff.mp hF
  refine cl_X7_thrown (pc := 1946) hx hb hml hown hV hw huq_3 (gw_1085 hV) hl.1 (Nat.le_of_ble_eq_true rfl) (Nat.le_of_ble_eq_true rfl) (Nat.le_of_ble_eq_true rfl) dL_law_1946 (fun H locs hw => ?_) (hc := hc1) (hs := hs1)
  refine lv_iload (pc := 1949) hx hb dL_law_1949 (lv_at hl 1 rfl) ?_
  refine gx_icmp_eq (pc := 1951) (tgt := 1956) hx hb hF dL_law_1951 (by decide) (fun hF => ?_) (fun hF => ?_)
  · refine lv_iload (pc := 1956) hx hb dL_law_1956 (lv_at hl 1 rfl) ?_
    refine gx_if_ne (pc := 1958) (tgt := 1994) hx hb hF dL_law_1958 (by decide) (fun hF => ?_) (fun hF => ?_)
    · refine lv_goto (pc := 1994) (tgt := 2154) hx hb dL_law_1994 (by decide) ?_
      exact hK _ _ _ _ _ _ _ _ _ (lv_sub hl [2, 3, 4, 5, 6, 7] rfl) hw hF
    refine lv_aload (pc := 1961) hx hb dL_law_1961 (lv_at hl 6 rfl) ?_
    refine lv_iconst (pc := 1963) (v := 0) hx hb dL_law_1963 (by decide) ?_
    refine gx_dald (pc := 1964) hx hb hV hw dL_law_1964 ?_
    refine lv_fload (pc := 1965) hx hb dL_law_1965 (lv_at hl 0 rfl) ?_
    refine gx_f2d (pc := 1967) hx hb hF dL_law_1967 (fun hF => ?_)
    refine lv_dcmp (pc := 1968) hx hb dL_law_1968 ?_
    refine gx_if_eq (pc := 1969) (tgt := 1994) hx hb hF dL_law_1969 (by decide) (fun hF => ?_) (fun hF => ?_)
    · refine lv_goto (pc := 1994) (tgt := 2154) hx hb dL_law_1994 (by decide) ?_
      exact hK _ _ _ _ _ _ _ _ _ (lv_sub hl [2, 3, 4, 5, 6, 7] rfl) hw hF
    refine lv_aload (pc := 1972) hx hb dL_law_1972 (lv_at hl 6 rfl) ?_
    refine lv_iconst (pc := 1974) (v := 0) hx hb dL_law_1974 (by decide) ?_
    refine gx_dald (pc := 1975) hx hb hV hw dL_law_1975 ?_
    refine lv_aload (pc := 1976) hx hb dL_law_1976 (lv_at hl 6 rfl) ?_
    refine lv_iconst (pc := 1978) (v := 0) hx hb dL_law_1978 (by decide) ?_
    refine gx_dald (pc := 1979) hx hb hV hw dL_law_1979 ?_
    refine lv_dcmp (pc := 1980) hx hb dL_law_1980 ?_
    refine gx_if_eq (pc := 1981) (tgt := 1992) hx hb hF dL_law_1981 (by decide) (fun hF => ?_) (fun hF => ?_)
    · refine lv_iconst (pc := 1992) (v := 0) hx hb dL_law_1992 (by decide) ?_
      exact absurd hF (by decide)
    refine lv_fload (pc := 1984) hx hb dL_law_1984 (lv_at hl 0 rfl) ?_
    refine lv_fload (pc := 1986) hx hb dL_law_1986 (lv_at hl 0 rfl) ?_
    refine lv_fcmp (pc := 1988) hx hb dL_law_1988 ?_
    refine gx_if_ne (pc := 1989) (tgt := 1994) hx hb hF dL_law_1989 (by decide) (fun hF => ?_) (fun hF => ?_)
    · refine lv_goto (pc := 1994) (tgt := 2154) hx hb dL_law_1994 (by decide) ?_
      exact hK _ _ _ _ _ _ _ _ _ (lv_sub hl [2, 3, 4, 5, 6, 7] rfl) hw hF
    refine lv_iconst (pc := 1992) (v := 0) hx hb dL_law_1992 (by decide) ?_
    exact absurd hF (by decide)
  refine lv_iconst (pc := 1954) (v := 0) hx hb dL_law_1954 (by decide) ?_
  exact absurd hF (by decide)
noncomputable def f_law_c33 (xs : Nat → Int32) (L : Nat) (v : Int32) (K : gx_F → gx_F → gx_F → gx_F → Int64 → UInt64 → Option Int32) (I V J U : gx_F) (o : Int64) (d : UInt64) : Option Int32 := (gx_ck (gx_in (v + 1) L) (Option.bind (f_L_account (xs (v + 1).toNatClampNeg) I V o) fun uq_1 => (gx_ck (gx_in (v + 1) L) (Option.bind (f_X7_account (xs (v + 1).toNatClampNeg) J U) fun uq_2 => (Option.bind (f_X7_thrown uq_2.2.1 uq_2.2.2) fun uq_3 => (if uq_3 = uq_1.1 then (if uq_1.1 = 0 then (if (lg_cmp uq_1.2.2.2 uq_2.1.toInt64) = 0 then (K uq_1.2.1 uq_1.2.2.1 uq_2.2.1 uq_2.2.2 uq_1.2.2.2 d) else (some 0)) else (K uq_1.2.1 uq_1.2.2.1 uq_2.2.1 uq_2.2.2 uq_1.2.2.2 d)) else (some 0)))))))
set_option maxHeartbeats 4000000 in
set_option maxRecDepth 100000 in
theorem w_law_c33 {p : Program} {l : Launch} {e : Env} {s : State} {m : MethodId} {A9 : Array Value} {below : List Frame} {meth : Method} {c : Code} {H : Heap} {locs : List Loc} {cells slots : Nat} {Q : State → Prop} {ls : Array Slot} {G : gx_G} {I V J U : gx_F} {o : Int64} {d : UInt64} {b L : Nat} {xs : Nat → Int32} {v : Int32} {K : gx_F → gx_F → gx_F → gx_F → Int64 → UInt64 → Option Int32} (hl9 : l.stackTraces = false) (hx : p.tables.exec = Jvm.exec) (hb : c.code = cL_law) (hml : c.maxLocals = 9) (hown : s.vm.findClass RL = some m.cls) (hV : gx_V G s) (hZ : gx_Z G s s.heap) (hX : va_X b L xs s s.heap) (hbl : b < s.heap.size) (hbA : ¬ gx_A G b) (hc1 : cells + 1 ≤ room_1.cells) (hs1 : slots + 6 ≤ room_1.slots) (hl : lv_has ls 9 [(0, .ref b), (1, .ref (G.2.1 44)), (2, .ref (G.2.1 58)), (3, .ref (G.2.1 68)), (4, .ref (G.2.1 69)), (5, .int v)]) (hw : gx_at G (I, V) (J, U) o d s.heap H locs) (hF : f_law_c33 xs L v K I V J U o d = some 1)
    (hK : ∀ (I V J U : gx_F) (o : Int64) (d : UInt64) (H : Heap) (locs : List Loc) (ls : Array Slot), lv_has ls 9 [(0, .ref b), (1, .ref (G.2.1 44)), (2, .ref (G.2.1 58)), (3, .ref (G.2.1 68)), (4, .ref (G.2.1 69)), (5, .int v)] → gx_at G (I, V) (J, U) o d s.heap H locs → K I V J U o d = some 1 → W p l e room_1 s m A9 below meth c H locs (cells + 1) (slots + 6) Q (F0 m 2154 ls [])) : W p l e room_1 s m A9 below meth c H locs cells slots Q (F0 m 1997 ls []) := by
  have hc0 : cells ≤ room_1.cells := Nat.le_trans (Nat.le_add_right _ _) hc1
  have hs0 : slots ≤ room_1.slots := Nat.le_trans (Nat.le_add_right _ _) hs1
  unfold f_law_c33 at hF
  refine lv_aload_n (pc := 1997) hx hb dL_law_1997 rfl (lv_at hl 1 rfl) ?_
  refine lv_aload_n (pc := 1998) hx hb dL_law_1998 rfl (lv_at hl 0 rfl) ?_
  refine lv_iload (pc := 1999) hx hb dL_law_1999 (lv_at hl 5 rfl) ?_
  refine lv_iconst (pc := 2001) (v := 1) hx hb dL_law_2001 (by decide) ?_
  refine lv_iadd (pc := 2002) hx hb dL_law_2002 ?_
  refine gx_sld (pc := 2003) hx hb hX hbl hbA hw hF dL_law_2003 (fun _ hF => ?_)
  refine lv_aload_n (pc := 2004) hx hb dL_law_2004 rfl (lv_at hl 3 rfl) ?_
  obtain ⟨uq_1, huq_1, hF⟩ := Option.bind_eq_some_iff.mp hF
  refine cl_L_account (pc := 2005) hl9 hx hb hml hown hV hZ hw huq_1 (gw_972 hV) hl.1 (Nat.le_of_ble_eq_true rfl) (Nat.le_of_ble_eq_true rfl) (Nat.le_of_ble_eq_true rfl) hc1 hs1 dL_law_2005 (fun H locs hw => ?_)
  refine lv_istore (pc := 2008) (lv' := [(6, .int uq_1.1), (0, .ref b), (1, .ref (G.2.1 44)), (2, .ref (G.2.1 58)), (3, .ref (G.2.1 68)), (4, .ref (G.2.1 69)), (5, .int v)]) hx hb dL_law_2008 hl (by decide) rfl (fun ls hl => ?_)
  refine lv_aload_n (pc := 2010) hx hb dL_law_2010 rfl (lv_at hl 3 rfl) ?_
  refine lv_aload_n (pc := 2011) hx hb dL_law_2011 rfl (lv_at hl 1 rfl) ?_
  refine lv_iload (pc := 2012) hx hb dL_law_2012 (lv_at hl 6 rfl) ?_
  refine lv_iconst (pc := 2014) (v := 1) hx hb dL_law_2014 (by decide) ?_
  refine lv_iadd (pc := 2015) hx hb dL_law_2015 ?_
  refine gx_sld (pc := 2016) hx hb hX hbl hbA hw hF dL_law_2016 (fun _ hF => ?_)
  obtain ⟨uq_2, huq_2, hF⟩ := Option.bind_eq_some_iff.mp hF
  refine cl_X7_account (pc := 2017) hx hb hml hown hV hw huq_2 (gw_1351 hV) hl.1 (Nat.le_of_ble_eq_true rfl) (Nat.le_of_ble_eq_true rfl) (Nat.le_of_ble_eq_true rfl) dL_law_2017 (fun H locs hw => ?_) (hc := hc1) (hs := hs1)
  refine lv_istore (pc := 2020) (lv' := [(7, .int uq_2.1), (6, .int uq_1.1), (0, .ref b), (1, .ref (G.2.1 44)), (2, .ref (G.2.1 58)), (3, .ref (G.2.1 68)), (4, .ref (G.2.1 69)), (5, .int v)]) hx hb dL_law_2020 hl (by decide) rfl (fun ls hl => ?_)
  refine lv_aload_n (pc := 2022) hx hb dL_law_2022 rfl (lv_at hl 4 rfl) ?_
  obtain ⟨uq_3, huq_3, hF⟩ := Option.bind_eq_some_iff.mp hF
  refine cl_X7_thrown (pc := 2023) hx hb hml hown hV hw huq_3 (gw_1085 hV) hl.1 (Nat.le_of_ble_eq_true rfl) (Nat.le_of_ble_eq_true rfl) (Nat.le_of_ble_eq_true rfl) dL_law_2023 (fun H locs hw => ?_) (hc := hc1) (hs := hs1)
  refine lv_iload (pc := 2026) hx hb dL_law_2026 (lv_at hl 1 rfl) ?_
  refine gx_icmp_eq (pc := 2028) (tgt := 2033) hx hb hF dL_law_2028 (by decide) (fun hF => ?_) (fun hF => ?_)
  · refine lv_iload (pc := 2033) hx hb dL_law_2033 (lv_at hl 1 rfl) ?_
    refine gx_if_ne (pc := 2035) (tgt := 2050) hx hb hF dL_law_2035 (by decide) (fun hF => ?_) (fun hF => ?_)
    · refine lv_goto (pc := 2050) (tgt := 2154) hx hb dL_law_2050 (by decide) ?_
      exact hK _ _ _ _ _ _ _ _ _ (lv_sub hl [2, 3, 4, 5, 6, 7] rfl) hw hF
    refine lv_aload_n (pc := 2038) hx hb dL_law_2038 rfl (lv_at hl 5 rfl) ?_
    refine lv_iconst (pc := 2039) (v := 0) hx hb dL_law_2039 (by decide) ?_
    refine gx_lald (pc := 2040) hx hb hV hw dL_law_2040 ?_
    refine lv_iload (pc := 2041) hx hb dL_law_2041 (lv_at hl 0 rfl) ?_
    refine lv_i2l (pc := 2043) (v := uq_2.1.toInt64) hx hb dL_law_2043 rfl ?_
    refine W.lcmp (pc := 2044) hx hb dL_law_2044 ?_
    refine gx_if_eq (pc := 2045) (tgt := 2050) hx hb hF dL_law_2045 (by decide) (fun hF => ?_) (fun hF => ?_)
    · refine lv_goto (pc := 2050) (tgt := 2154) hx hb dL_law_2050 (by decide) ?_
      exact hK _ _ _ _ _ _ _ _ _ (lv_sub hl [2, 3, 4, 5, 6, 7] rfl) hw hF
    refine lv_iconst (pc := 2048) (v := 0) hx hb dL_law_2048 (by decide) ?_
    exact absurd hF (by decide)
  refine lv_iconst (pc := 2031) (v := 0) hx hb dL_law_2031 (by decide) ?_
  exact absurd hF (by decide)
noncomputable def f_law_c34 (xs : Nat → Int32) (L : Nat) (v : Int32) (K : gx_F → gx_F → gx_F → gx_F → Int64 → UInt64 → Option Int32) (I V J U : gx_F) (o : Int64) (d : UInt64) : Option Int32 := (Option.bind (f_L_undo I V o) fun uq_1 => (Option.bind (f_X7_undo J U) fun uq_2 => (Option.bind (f_X7_thrown uq_2.2.1 uq_2.2.2) fun uq_3 => (if uq_3 = uq_1.1 then (if uq_1.1 = 0 then (if (lg_cmp uq_1.2.2.2 uq_2.1.toInt64) = 0 then (K uq_1.2.1 uq_1.2.2.1 uq_2.2.1 uq_2.2.2 uq_1.2.2.2 d) else (some 0)) else (K uq_1.2.1 uq_1.2.2.1 uq_2.2.1 uq_2.2.2 uq_1.2.2.2 d)) else (some 0)))))
set_option maxHeartbeats 4000000 in
set_option maxRecDepth 100000 in
theorem w_law_c34 {p : Program} {l : Launch} {e : Env} {s : State} {m : MethodId} {A9 : Array Value} {below : List Frame} {meth : Method} {c : Code} {H : Heap} {locs : List Loc} {cells slots : Nat} {Q : State → Prop} {ls : Array Slot} {G : gx_G} {I V J U : gx_F} {o : Int64} {d : UInt64} {b L : Nat} {xs : Nat → Int32} {v : Int32} {K : gx_F → gx_F → gx_F → gx_F → Int64 → UInt64 → Option Int32} (hl9 : l.stackTraces = false) (hx : p.tables.exec = Jvm.exec) (hb : c.code = cL_law) (hml : c.maxLocals = 9) (hown : s.vm.findClass RL = some m.cls) (hV : gx_V G s) (hZ : gx_Z G s s.heap) (hX : va_X b L xs s s.heap) (hbl : b < s.heap.size) (hbA : ¬ gx_A G b) (hc1 : cells + 1 ≤ room_1.cells) (hs1 : slots + 6 ≤ room_1.slots) (hl : lv_has ls 9 [(0, .ref b), (1, .ref (G.2.1 44)), (2, .ref (G.2.1 58)), (3, .ref (G.2.1 68)), (4, .ref (G.2.1 69)), (5, .int v)]) (hw : gx_at G (I, V) (J, U) o d s.heap H locs) (hF : f_law_c34 xs L v K I V J U o d = some 1)
    (hK : ∀ (I V J U : gx_F) (o : Int64) (d : UInt64) (H : Heap) (locs : List Loc) (ls : Array Slot), lv_has ls 9 [(0, .ref b), (1, .ref (G.2.1 44)), (2, .ref (G.2.1 58)), (3, .ref (G.2.1 68)), (4, .ref (G.2.1 69)), (5, .int v)] → gx_at G (I, V) (J, U) o d s.heap H locs → K I V J U o d = some 1 → W p l e room_1 s m A9 below meth c H locs (cells + 1) (slots + 6) Q (F0 m 2154 ls [])) : W p l e room_1 s m A9 below meth c H locs cells slots Q (F0 m 2053 ls []) := by
  have hc0 : cells ≤ room_1.cells := Nat.le_trans (Nat.le_add_right _ _) hc1
  have hs0 : slots ≤ room_1.slots := Nat.le_trans (Nat.le_add_right _ _) hs1
  unfold f_law_c34 at hF
  refine lv_aload_n (pc := 2053) hx hb dL_law_2053 rfl (lv_at hl 1 rfl) ?_
  refine lv_aload_n (pc := 2054) hx hb dL_law_2054 rfl (lv_at hl 3 rfl) ?_
  obtain ⟨uq_1, huq_1, hF⟩ := Option.bind_eq_some_iff.mp hF
  refine cl_L_undo (pc := 2055) hl9 hx hb hml hown hV hZ hw huq_1 (gw_988 hV) hl.1 (Nat.le_of_ble_eq_true rfl) (Nat.le_of_ble_eq_true rfl) (Nat.le_of_ble_eq_true rfl) hc1 hs1 dL_law_2055 (fun H locs hw => ?_)
  refine lv_istore (pc := 2058) (lv' := [(6, .int uq_1.1), (0, .ref b), (1, .ref (G.2.1 44)), (2, .ref (G.2.1 58)), (3, .ref (G.2.1 68)), (4, .ref (G.2.1 69)), (5, .int v)]) hx hb dL_law_2058 hl (by decide) rfl (fun ls hl => ?_)
  refine lv_aload_n (pc := 2060) hx hb dL_law_2060 rfl (lv_at hl 3 rfl) ?_
  obtain ⟨uq_2, huq_2, hF⟩ := Option.bind_eq_some_iff.mp hF
  refine cl_X7_undo (pc := 2061) hx hb hml hown hV hw huq_2 (gw_1359 hV) hl.1 (Nat.le_of_ble_eq_true rfl) (Nat.le_of_ble_eq_true rfl) (Nat.le_of_ble_eq_true rfl) dL_law_2061 (fun H locs hw => ?_) (hc := hc1) (hs := hs1)
  refine lv_istore (pc := 2064) (lv' := [(7, .int uq_2.1), (6, .int uq_1.1), (0, .ref b), (1, .ref (G.2.1 44)), (2, .ref (G.2.1 58)), (3, .ref (G.2.1 68)), (4, .ref (G.2.1 69)), (5, .int v)]) hx hb dL_law_2064 hl (by decide) rfl (fun ls hl => ?_)
  refine lv_aload_n (pc := 2066) hx hb dL_law_2066 rfl (lv_at hl 4 rfl) ?_
  obtain ⟨uq_3, huq_3, hF⟩ := Option.bind_eq_some_iff.mp hF
  refine cl_X7_thrown (pc := 2067) hx hb hml hown hV hw huq_3 (gw_1085 hV) hl.1 (Nat.le_of_ble_eq_true rfl) (Nat.le_of_ble_eq_true rfl) (Nat.le_of_ble_eq_true rfl) dL_law_2067 (fun H locs hw => ?_) (hc := hc1) (hs := hs1)
  refine lv_iload (pc := 2070) hx hb dL_law_2070 (lv_at hl 1 rfl) ?_
  refine gx_icmp_eq (pc := 2072) (tgt := 2077) hx hb hF dL_law_2072 (by decide) (fun hF => ?_) (fun hF => ?_)
  · refine lv_iload (pc := 2077) hx hb dL_law_2077 (lv_at hl 1 rfl) ?_
    refine gx_if_ne (pc := 2079) (tgt := 2094) hx hb hF dL_law_2079 (by decide) (fun hF => ?_) (fun hF => ?_)
    · refine lv_goto (pc := 2094) (tgt := 2154) hx hb dL_law_2094 (by decide) ?_
      exact hK _ _ _ _ _ _ _ _ _ (lv_sub hl [2, 3, 4, 5, 6, 7] rfl) hw hF
    refine lv_aload_n (pc := 2082) hx hb dL_law_2082 rfl (lv_at hl 5 rfl) ?_
    refine lv_iconst (pc := 2083) (v := 0) hx hb dL_law_2083 (by decide) ?_
    refine gx_lald (pc := 2084) hx hb hV hw dL_law_2084 ?_
    refine lv_iload (pc := 2085) hx hb dL_law_2085 (lv_at hl 0 rfl) ?_
    refine lv_i2l (pc := 2087) (v := uq_2.1.toInt64) hx hb dL_law_2087 rfl ?_
    refine W.lcmp (pc := 2088) hx hb dL_law_2088 ?_
    refine gx_if_eq (pc := 2089) (tgt := 2094) hx hb hF dL_law_2089 (by decide) (fun hF => ?_) (fun hF => ?_)
    · refine lv_goto (pc := 2094) (tgt := 2154) hx hb dL_law_2094 (by decide) ?_
      exact hK _ _ _ _ _ _ _ _ _ (lv_sub hl [2, 3, 4, 5, 6, 7] rfl) hw hF
    refine lv_iconst (pc := 2092) (v := 0) hx hb dL_law_2092 (by decide) ?_
    exact absurd hF (by decide)
  refine lv_iconst (pc := 2075) (v := 0) hx hb dL_law_2075 (by decide) ?_
  exact absurd hF (by decide)
noncomputable def f_law_c35 (xs : Nat → Int32) (L : Nat) (v : Int32) (K : gx_F → gx_F → gx_F → gx_F → Int64 → UInt64 → Option Int32) (I V J U : gx_F) (o : Int64) (d : UInt64) : Option Int32 := (Option.bind (f_X6_save I V) fun uq_1 => (Option.bind (f_X7_save J U) fun uq_2 => (if uq_1.1 = uq_2.1 then (K uq_1.2.1 uq_1.2.2 uq_2.2.1 uq_2.2.2 o d) else (some 0))))
set_option maxHeartbeats 4000000 in
set_option maxRecDepth 100000 in
theorem w_law_c35 {p : Program} {l : Launch} {e : Env} {s : State} {m : MethodId} {A9 : Array Value} {below : List Frame} {meth : Method} {c : Code} {H : Heap} {locs : List Loc} {cells slots : Nat} {Q : State → Prop} {ls : Array Slot} {G : gx_G} {I V J U : gx_F} {o : Int64} {d : UInt64} {b L : Nat} {xs : Nat → Int32} {v : Int32} {K : gx_F → gx_F → gx_F → gx_F → Int64 → UInt64 → Option Int32} (hl9 : l.stackTraces = false) (hx : p.tables.exec = Jvm.exec) (hb : c.code = cL_law) (hml : c.maxLocals = 9) (hown : s.vm.findClass RL = some m.cls) (hV : gx_V G s) (hZ : gx_Z G s s.heap) (hX : va_X b L xs s s.heap) (hbl : b < s.heap.size) (hbA : ¬ gx_A G b) (hc1 : cells + 1 ≤ room_1.cells) (hs1 : slots + 6 ≤ room_1.slots) (hl : lv_has ls 9 [(0, .ref b), (1, .ref (G.2.1 44)), (2, .ref (G.2.1 58)), (3, .ref (G.2.1 68)), (4, .ref (G.2.1 69)), (5, .int v)]) (hw : gx_at G (I, V) (J, U) o d s.heap H locs) (hF : f_law_c35 xs L v K I V J U o d = some 1)
    (hK : ∀ (I V J U : gx_F) (o : Int64) (d : UInt64) (H : Heap) (locs : List Loc) (ls : Array Slot), lv_has ls 9 [(0, .ref b), (1, .ref (G.2.1 44)), (2, .ref (G.2.1 58)), (3, .ref (G.2.1 68)), (4, .ref (G.2.1 69)), (5, .int v)] → gx_at G (I, V) (J, U) o d s.heap H locs → K I V J U o d = some 1 → W p l e room_1 s m A9 below meth c H locs (cells + 1) (slots + 6) Q (F0 m 2154 ls [])) : W p l e room_1 s m A9 below meth c H locs cells slots Q (F0 m 2097 ls []) := by
  have hc0 : cells ≤ room_1.cells := Nat.le_trans (Nat.le_add_right _ _) hc1
  have hs0 : slots ≤ room_1.slots := Nat.le_trans (Nat.le_add_right _ _) hs1
  unfold f_law_c35 at hF
  refine lv_aload_n (pc := 2097) hx hb dL_law_2097 rfl (lv_at hl 1 rfl) ?_
  obtain ⟨uq_1, huq_1, hF⟩ := Option.bind_eq_some_iff.mp hF
  refine cl_X6_save (pc := 2098) hx hb hml hown hV hw huq_1 (gw_393 hV) hl.1 (Nat.le_of_ble_eq_true rfl) (Nat.le_of_ble_eq_true rfl) (Nat.le_of_ble_eq_true rfl) dL_law_2098 (fun H locs hw => ?_) (hc := hc0) (hs := hs0)
  refine lv_aload_n (pc := 2101) hx hb dL_law_2101 rfl (lv_at hl 2 rfl) ?_
  obtain ⟨uq_2, huq_2, hF⟩ := Option.bind_eq_some_iff.mp hF
  refine cl_X7_save (pc := 2102) hx hb hml hown hV hw huq_2 (gw_1363 hV) hl.1 (Nat.le_of_ble_eq_true rfl) (Nat.le_of_ble_eq_true rfl) (Nat.le_of_ble_eq_true rfl) dL_law_2102 (fun H locs hw => ?_) (hc := hc0) (hs := hs0)
  refine gx_icmp_eq (pc := 2105) (tgt := 2154) hx hb hF dL_law_2105 (by decide) (fun hF => ?_) (fun hF => ?_)
  · refine W.widen (k := cells + 1) (n := slots + 6) (Nat.le_add_right _ _) (Nat.le_add_right _ _) ?_
    exact hK _ _ _ _ _ _ _ _ _ (lv_sub hl [0, 1, 2, 3, 4, 5] rfl) hw hF
  refine lv_iconst (pc := 2108) (v := 0) hx hb dL_law_2108 (by decide) ?_
  exact absurd hF (by decide)
noncomputable def f_law_c36 (xs : Nat → Int32) (L : Nat) (v : Int32) (K : gx_F → gx_F → gx_F → gx_F → Int64 → UInt64 → Option Int32) (I V J U : gx_F) (o : Int64) (d : UInt64) : Option Int32 := (Option.bind (f_L_restore I V o) fun uq_1 => (Option.bind (f_X7_restore J U) fun uq_2 => (Option.bind (f_X7_thrown uq_2.2.1 uq_2.2.2) fun uq_3 => (if uq_3 = uq_1.1 then (if uq_1.1 = 0 then (if (lg_cmp uq_1.2.2.2 uq_2.1.toInt64) = 0 then (K uq_1.2.1 uq_1.2.2.1 uq_2.2.1 uq_2.2.2 uq_1.2.2.2 d) else (some 0)) else (K uq_1.2.1 uq_1.2.2.1 uq_2.2.1 uq_2.2.2 uq_1.2.2.2 d)) else (some 0)))))
set_option maxHeartbeats 4000000 in
set_option maxRecDepth 100000 in
theorem w_law_c36 {p : Program} {l : Launch} {e : Env} {s : State} {m : MethodId} {A9 : Array Value} {below : List Frame} {meth : Method} {c : Code} {H : Heap} {locs : List Loc} {cells slots : Nat} {Q : State → Prop} {ls : Array Slot} {G : gx_G} {I V J U : gx_F} {o : Int64} {d : UInt64} {b L : Nat} {xs : Nat → Int32} {v : Int32} {K : gx_F → gx_F → gx_F → gx_F → Int64 → UInt64 → Option Int32} (hl9 : l.stackTraces = false) (hx : p.tables.exec = Jvm.exec) (hb : c.code = cL_law) (hml : c.maxLocals = 9) (hown : s.vm.findClass RL = some m.cls) (hV : gx_V G s) (hZ : gx_Z G s s.heap) (hX : va_X b L xs s s.heap) (hbl : b < s.heap.size) (hbA : ¬ gx_A G b) (hc1 : cells + 1 ≤ room_1.cells) (hs1 : slots + 6 ≤ room_1.slots) (hl : lv_has ls 9 [(0, .ref b), (1, .ref (G.2.1 44)), (2, .ref (G.2.1 58)), (3, .ref (G.2.1 68)), (4, .ref (G.2.1 69)), (5, .int v)]) (hw : gx_at G (I, V) (J, U) o d s.heap H locs) (hF : f_law_c36 xs L v K I V J U o d = some 1)
    (hK : ∀ (I V J U : gx_F) (o : Int64) (d : UInt64) (H : Heap) (locs : List Loc) (ls : Array Slot), lv_has ls 9 [(0, .ref b), (1, .ref (G.2.1 44)), (2, .ref (G.2.1 58)), (3, .ref (G.2.1 68)), (4, .ref (G.2.1 69)), (5, .int v)] → gx_at G (I, V) (J, U) o d s.heap H locs → K I V J U o d = some 1 → W p l e room_1 s m A9 below meth c H locs (cells + 1) (slots + 6) Q (F0 m 2154 ls [])) : W p l e room_1 s m A9 below meth c H locs cells slots Q (F0 m 2110 ls []) := by
  have hc0 : cells ≤ room_1.cells := Nat.le_trans (Nat.le_add_right _ _) hc1
  have hs0 : slots ≤ room_1.slots := Nat.le_trans (Nat.le_add_right _ _) hs1
  unfold f_law_c36 at hF
  refine lv_aload_n (pc := 2110) hx hb dL_law_2110 rfl (lv_at hl 1 rfl) ?_
  refine lv_aload_n (pc := 2111) hx hb dL_law_2111 rfl (lv_at hl 3 rfl) ?_
  obtain ⟨uq_1, huq_1, hF⟩ := Option.bind_eq_some_iff.mp hF
  refine cl_L_restore (pc := 2112) hl9 hx hb hml hown hV hZ hw huq_1 (gw_1000 hV) hl.1 (Nat.le_of_ble_eq_true rfl) (Nat.le_of_ble_eq_true rfl) (Nat.le_of_ble_eq_true rfl) hc1 hs1 dL_law_2112 (fun H locs hw => ?_)
  refine lv_istore (pc := 2115) (lv' := [(6, .int uq_1.1), (0, .ref b), (1, .ref (G.2.1 44)), (2, .ref (G.2.1 58)), (3, .ref (G.2.1 68)), (4, .ref (G.2.1 69)), (5, .int v)]) hx hb dL_law_2115 hl (by decide) rfl (fun ls hl => ?_)
  refine lv_aload_n (pc := 2117) hx hb dL_law_2117 rfl (lv_at hl 3 rfl) ?_
  obtain ⟨uq_2, huq_2, hF⟩ := Option.bind_eq_some_iff.mp hF
  refine cl_X7_restore (pc := 2118) hx hb hml hown hV hw huq_2 (gw_1367 hV) hl.1 (Nat.le_of_ble_eq_true rfl) (Nat.le_of_ble_eq_true rfl) (Nat.le_of_ble_eq_true rfl) dL_law_2118 (fun H locs hw => ?_) (hc := hc1) (hs := hs1)
  refine lv_istore (pc := 2121) (lv' := [(7, .int uq_2.1), (6, .int uq_1.1), (0, .ref b), (1, .ref (G.2.1 44)), (2, .ref (G.2.1 58)), (3, .ref (G.2.1 68)), (4, .ref (G.2.1 69)), (5, .int v)]) hx hb dL_law_2121 hl (by decide) rfl (fun ls hl => ?_)
  refine lv_aload_n (pc := 2123) hx hb dL_law_2123 rfl (lv_at hl 4 rfl) ?_
  obtain ⟨uq_3, huq_3, hF⟩ := Option.bind_eq_some_iff.mp hF
  refine cl_X7_thrown (pc := 2124) hx hb hml hown hV hw huq_3 (gw_1085 hV) hl.1 (Nat.le_of_ble_eq_true rfl) (Nat.le_of_ble_eq_true rfl) (Nat.le_of_ble_eq_true rfl) dL_law_2124 (fun H locs hw => ?_) (hc := hc1) (hs := hs1)
  refine lv_iload (pc := 2127) hx hb dL_law_2127 (lv_at hl 1 rfl) ?_
  refine gx_icmp_eq (pc := 2129) (tgt := 2134) hx hb hF dL_law_2129 (by decide) (fun hF => ?_) (fun hF => ?_)
  · refine lv_iload (pc := 2134) hx hb dL_law_2134 (lv_at hl 1 rfl) ?_
    refine gx_if_ne (pc := 2136) (tgt := 2151) hx hb hF dL_law_2136 (by decide) (fun hF => ?_) (fun hF => ?_)
    · refine lv_goto (pc := 2151) (tgt := 2154) hx hb dL_law_2151 (by decide) ?_
      exact hK _ _ _ _ _ _ _ _ _ (lv_sub hl [2, 3, 4, 5, 6, 7] rfl) hw hF
    refine lv_aload_n (pc := 2139) hx hb dL_law_2139 rfl (lv_at hl 5 rfl) ?_
    refine lv_iconst (pc := 2140) (v := 0) hx hb dL_law_2140 (by decide) ?_
    refine gx_lald (pc := 2141) hx hb hV hw dL_law_2141 ?_
    refine lv_iload (pc := 2142) hx hb dL_law_2142 (lv_at hl 0 rfl) ?_
    refine lv_i2l (pc := 2144) (v := uq_2.1.toInt64) hx hb dL_law_2144 rfl ?_
    refine W.lcmp (pc := 2145) hx hb dL_law_2145 ?_
    refine gx_if_eq (pc := 2146) (tgt := 2151) hx hb hF dL_law_2146 (by decide) (fun hF => ?_) (fun hF => ?_)
    · refine lv_goto (pc := 2151) (tgt := 2154) hx hb dL_law_2151 (by decide) ?_
      exact hK _ _ _ _ _ _ _ _ _ (lv_sub hl [2, 3, 4, 5, 6, 7] rfl) hw hF
    refine lv_iconst (pc := 2149) (v := 0) hx hb dL_law_2149 (by decide) ?_
    exact absurd hF (by decide)
  refine lv_iconst (pc := 2132) (v := 0) hx hb dL_law_2132 (by decide) ?_
  exact absurd hF (by decide)
