/-! THE START: the law from its entry to its loop (gen8.py) -/
def gx_adr (L3 K KM : List Nat) (c0 c1 c2 c3 : Nat) (k : Nat) : Nat := gx_ad [gx_ad K 0, gx_ad K 1, gx_ad K 2, gx_ad K 3, gx_ad K 4, gx_ad K 5, gx_ad K 6, gx_ad K 7, gx_ad K 8, gx_ad K 9, gx_ad K 10, gx_ad K 11, gx_ad L3 0, gx_ad L3 1, gx_ad L3 2, gx_ad L3 3, gx_ad L3 4, gx_ad L3 5, gx_ad L3 6, gx_ad L3 7, gx_ad L3 8, gx_ad L3 9, gx_ad L3 10, gx_ad L3 11, gx_ad L3 12, gx_ad L3 13, gx_ad L3 14, gx_ad L3 15, gx_ad L3 16, gx_ad L3 17, gx_ad L3 18, gx_ad L3 19, gx_ad L3 20, gx_ad L3 21, gx_ad L3 22, gx_ad L3 23, gx_ad L3 24, gx_ad L3 25, gx_ad L3 26, gx_ad L3 27, gx_ad L3 28, gx_ad L3 29, gx_ad L3 30, gx_ad L3 31, c0, gx_ad K 24, gx_ad K 12, gx_ad K 13, gx_ad K 14, gx_ad K 15, gx_ad K 16, gx_ad K 17, gx_ad K 18, gx_ad K 19, gx_ad K 20, gx_ad K 21, gx_ad K 22, gx_ad K 23, c1, gx_ad KM 0, gx_ad KM 1, gx_ad KM 2, gx_ad KM 3, gx_ad KM 4, gx_ad KM 5, gx_ad KM 6, gx_ad KM 7, gx_ad KM 8, c2, c3] k
def gx_prm : List Nat := [1, 2, 3, 4, 5, 6, 7, 8, 9, 10, 11, 12, 15, 16, 17, 18, 19, 20, 21, 22, 23, 24, 25, 26, 27, 28, 29, 30, 31, 32, 33, 34, 35, 36, 37, 38, 39, 40, 41, 42, 43, 44, 45, 46, 0, 57, 13, 14, 47, 48, 49, 50, 51, 52, 53, 54, 55, 56, 58, 59, 60, 61, 62, 63, 64, 65, 66, 67, 68, 69]
set_option maxHeartbeats 1000000 in
set_option maxRecDepth 100000 in
theorem gx_prm_ok (D : va_G) (cls : Nat → ClassId) (L3 K KM : List Nat) (c0 c1 c2 c3 sz : Nat) : gx_prm.filterMap (fun i => (((([] ++ gx_gl (D, (fun _ => 0), cls, 0) c0 L3 K) ++ gx_ml (D, (fun _ => 0), cls, 0) c1 KM) ++ [(c2, .inl (cls 4, 1, .inr (.inl (fun _ => 0))))]) ++ [(c3, .inl (cls 5, 1, .inr (.inr (.inr (.inl (fun _ => 0))))))] : va_W)[i]?) = gx_ws (D, gx_adr L3 K KM c0 c1 c2 c3, cls, sz) (gx_I0, gx_V0s) (gx_J0, gx_U0) 0 0 ∧ gx_prm.map (fun i => (((([] ++ gx_gl (D, (fun _ => 0), cls, 0) c0 L3 K) ++ gx_ml (D, (fun _ => 0), cls, 0) c1 KM) ++ [(c2, .inl (cls 4, 1, .inr (.inl (fun _ => 0))))]) ++ [(c3, .inl (cls 5, 1, .inr (.inr (.inr (.inl (fun _ => 0))))))] : va_W)[i]?) = (gx_ws (D, gx_adr L3 K KM c0 c1 c2 c3, cls, sz) (gx_I0, gx_V0s) (gx_J0, gx_U0) 0 0).map some := ⟨rfl, rfl⟩
theorem gx_K0 {s : State} {A : Array Value} (hts : ∀ w ∈ lw_tbl, w.before A s = true) : ∃ (D : va_G) (cls : Nat → ClassId), va_K D vwCl (gx_tys (D, (fun _ => 0), cls, 0)) s := by
  obtain ⟨c0, i0, k0⟩ := u_known (C := RJ0) (T := TJ0) (N := 2) (n := 4) hts (by decide +kernel) (hts (.instantiable RJ0 4) (by decide +kernel))
  obtain ⟨c1, i1, k1⟩ := u_known (C := RJx00060) (T := TJx00060) (N := 6) (n := 6) hts (by decide +kernel) (hts (.instantiable RJx00060 6) (by decide +kernel))
  obtain ⟨c2, i2, k2⟩ := u_known (C := RX0) (T := TX0) (N := 3) (n := 3) hts (by decide +kernel) (hts (.instantiable RX0 3) (by decide +kernel))
  obtain ⟨c3, i3, k3⟩ := u_known (C := RX1) (T := TX1) (N := 3) (n := 3) hts (by decide +kernel) (hts (.instantiable RX1 3) (by decide +kernel))
  obtain ⟨c4, i4, k4⟩ := u_known (C := RX2) (T := TX2) (N := 3) (n := 3) hts (by decide +kernel) (hts (.instantiable RX2 3) (by decide +kernel))
  obtain ⟨c5, i5, k5⟩ := u_known (C := RX3) (T := TX3) (N := 4) (n := 4) hts (by decide +kernel) (hts (.instantiable RX3 4) (by decide +kernel))
  obtain ⟨c6, i6, k6⟩ := u_known (C := RX4) (T := TX4) (N := 6) (n := 6) hts (by decide +kernel) (hts (.instantiable RX4 6) (by decide +kernel))
  obtain ⟨c7, i7, k7⟩ := u_known (C := RX5) (T := TX5) (N := 9) (n := 9) hts (by decide +kernel) (hts (.instantiable RX5 9) (by decide +kernel))
  obtain ⟨c8, i8, k8⟩ := u_known (C := RX6) (T := TX6) (N := 13) (n := 13) hts (by decide +kernel) (hts (.instantiable RX6 13) (by decide +kernel))
  obtain ⟨c9, i9, k9⟩ := u_known (C := RX7) (T := TX7) (N := 22) (n := 22) hts (by decide +kernel) (hts (.instantiable RX7 22) (by decide +kernel))
  obtain ⟨a0, ka0, co0, p0, q0, r0⟩ := Cond.arrayClass_spec (hts (.arrayClass .int) (by decide +kernel))
  obtain ⟨a1, ka1, co1, p1, q1, r1⟩ := Cond.arrayClass_spec (hts (.arrayClass .char) (by decide +kernel))
  obtain ⟨a2, ka2, co2, p2, q2, r2⟩ := Cond.arrayClass_spec (hts (.arrayClass .boolean) (by decide +kernel))
  obtain ⟨a4, ka4, co4, p4, q4, r4⟩ := Cond.arrayClass_spec (hts (.arrayClass .long) (by decide +kernel))
  obtain ⟨a5, ka5, co5, p5, q5, r5⟩ := Cond.arrayClass_spec (hts (.arrayClass .double) (by decide +kernel))
  obtain ⟨comp, a3, ka3, p3, -, q3, r3, s3⟩ := Cond.arrayOver_spec (hts (.arrayOver (.object "GluedWall$Wall")) (by decide +kernel))
  refine ⟨((fun k => [c0, c1, c2, c3, c4, c5, c6, c7, c8, c9].getD k 0), (fun k => [i0, i1, i2, i3, i4, i5, i6, i7, i8, i9].getD k (fun _ => 0))), (fun k => [a0, a1, a2, a3, a4, a5].getD k 0), fun k q hq => ?_, fun k q hq => ?_⟩
  · match k, hq with
    | 0, hq => cases hq; exact k0
    | 1, hq => cases hq; exact k1
    | 2, hq => cases hq; exact k2
    | 3, hq => cases hq; exact k3
    | 4, hq => cases hq; exact k4
    | 5, hq => cases hq; exact k5
    | 6, hq => cases hq; exact k6
    | 7, hq => cases hq; exact k7
    | 8, hq => cases hq; exact k8
    | 9, hq => cases hq; exact k9
    | k + 10, hq => simp [vwCl] at hq
  · match k, hq with
    | 0, hq => cases hq; exact ⟨fun n z => ⟨fun k h => (by cases h), ka0, q0, co0, r0⟩, p0⟩
    | 1, hq => cases hq; exact ⟨fun n z => ⟨fun k h => (by cases h), ka1, q1, co1, r1⟩, p1⟩
    | 2, hq => cases hq; exact ⟨fun n z => ⟨fun k h => (by cases h), ka2, q2, co2, r2⟩, p2⟩
    | 3, hq => cases hq; exact ⟨fun n z => ⟨fun k h => (by cases h), ka3, q3, comp, r3⟩, ka3, comp, q3, r3, p3, s3⟩
    | 4, hq => cases hq; exact ⟨fun n z => ⟨fun k h => (by cases h), ka4, q4, co4, r4⟩, p4⟩
    | 5, hq => cases hq; exact ⟨fun n z => ⟨fun k h => (by cases h), ka5, q5, co5, r5⟩, p5⟩
    | k + 6, hq => simp [gx_tys] at hq
theorem gx_Z0 {G : gx_G} {s : State} {b : Nat} (hts : ∀ w ∈ lw_tbl, w.before #[Value.ref b] s = true) (hgv : (Jvm.Cond.and given_1 narrow_1).before #[Value.ref b] s = true) (hnA : ∀ a : Nat, a < s.heap.size → ¬ gx_A G a) : gx_Z G s s.heap := by
  have hs := flat_of_before _ hgv
  refine ⟨vx_Zqof (hts _ (show Cond.laysStatic Bundle.tN "UNASSIGNED_STACK" Bundle.steD ∈ lw_tbl by decide +kernel)) (hts _ (show Cond.initialized Bundle.tN ∈ lw_tbl by decide +kernel)) (hs _ (show Cond.isRef (.static Bundle.tN "UNASSIGNED_STACK" Bundle.steD) ∈ _ by decide +kernel)) hnA, vx_Zqof (hts _ (show Cond.laysStatic Bundle.tN "SUPPRESSED_SENTINEL" Bundle.listD ∈ lw_tbl by decide +kernel)) (hts _ (show Cond.initialized Bundle.tN ∈ lw_tbl by decide +kernel)) (hs _ (show Cond.isRef (.static Bundle.tN "SUPPRESSED_SENTINEL" Bundle.listD) ∈ _ by decide +kernel)) hnA, fun q hq => ?_, fun q hq => ?_⟩
  · have h1 : Cond.stringRef RX6 q.1 q.2 ∈ lw_tbl := (show ∀ q ∈ gx_strs, Cond.stringRef RX6 q.1 q.2 ∈ lw_tbl by decide +kernel) q hq
    have h2 := hs (Cond.exactly (.string RX6 q.1) "java/lang/String") ((show ∀ q ∈ gx_strs, Cond.exactly (.string RX6 q.1) "java/lang/String" ∈ flatC (Jvm.Cond.and given_1 narrow_1) by decide +kernel) q hq)
    obtain ⟨a, c, cA, kA, q1, -⟩ := Cond.exactly_spec h2
    exact ⟨a, vk_R.of (hts _ h1) q1⟩
  · exact va_Nc.of (hs _ ((show ∀ q ∈ gx_ncs, Cond.not (.castable q.1 q.2) ∈ flatC (Jvm.Cond.and given_1 narrow_1) by decide +kernel) q hq))
theorem gv_49 {G : gx_G} {s : State} (hV : gx_V0 G s) {args : Array Value} : (Cond.initialized RX6).before args s = true := hV.w (List.mem_of_getElem? (i := 49) (by decide +kernel)) (by decide +kernel)
theorem gv_56 {G : gx_G} {s : State} (hV : gx_V0 G s) {args : Array Value} : (Cond.initialized RX7).before args s = true := hV.w (List.mem_of_getElem? (i := 56) (by decide +kernel)) (by decide +kernel)
theorem gv_70 {G : gx_G} {s : State} (hV : gx_V0 G s) {args : Array Value} : (Cond.classLink RL 8 RX6).before args s = true := hV.w (List.mem_of_getElem? (i := 70) (by decide +kernel)) (by decide +kernel)
theorem gv_71 {G : gx_G} {s : State} (hV : gx_V0 G s) {args : Array Value} : (Cond.instantiable RX6 13).before args s = true := hV.w (List.mem_of_getElem? (i := 71) (by decide +kernel)) (by decide +kernel)
theorem gv_72 {G : gx_G} {s : State} (hV : gx_V0 G s) {args : Array Value} : (Cond.methodLink RL 125 yX6_init).before args s = true := hV.w (List.mem_of_getElem? (i := 72) (by decide +kernel)) (by decide +kernel)
theorem gv_73 {G : gx_G} {s : State} (hV : gx_V0 G s) {args : Array Value} : (Cond.instanceMethod yX6_init).before args s = true := hV.w (List.mem_of_getElem? (i := 73) (by decide +kernel)) (by decide +kernel)
theorem gv_74 {G : gx_G} {s : State} (hV : gx_V0 G s) {args : Array Value} : (Cond.code yX6_init cX6_init 1 none).before args s = true := hV.w (List.mem_of_getElem? (i := 74) (by decide +kernel)) (by decide +kernel)
theorem gv_1012 {G : gx_G} {s : State} (hV : gx_V0 G s) {args : Array Value} : (Cond.classLink RL 126 RX7).before args s = true := hV.w (List.mem_of_getElem? (i := 1012) (by decide +kernel)) (by decide +kernel)
theorem gv_1013 {G : gx_G} {s : State} (hV : gx_V0 G s) {args : Array Value} : (Cond.instantiable RX7 22).before args s = true := hV.w (List.mem_of_getElem? (i := 1013) (by decide +kernel)) (by decide +kernel)
theorem gv_1014 {G : gx_G} {s : State} (hV : gx_V0 G s) {args : Array Value} : (Cond.methodLink RL 128 yX7_init).before args s = true := hV.w (List.mem_of_getElem? (i := 1014) (by decide +kernel)) (by decide +kernel)
theorem gv_1015 {G : gx_G} {s : State} (hV : gx_V0 G s) {args : Array Value} : (Cond.instanceMethod yX7_init).before args s = true := hV.w (List.mem_of_getElem? (i := 1015) (by decide +kernel)) (by decide +kernel)
theorem gv_1016 {G : gx_G} {s : State} (hV : gx_V0 G s) {args : Array Value} : (Cond.code yX7_init cX7_init 2 none).before args s = true := hV.w (List.mem_of_getElem? (i := 1016) (by decide +kernel)) (by decide +kernel)
set_option maxHeartbeats 1000000 in
set_option maxRecDepth 100000 in
theorem whole_start {p : Program} {e : Env} {s : State} {m : MethodId} {below : List Frame} {meth : Method} {c : Code} (l : Launch) (hflags : l.flags = flags0) {b L : Nat} {xs : Nat → Int32} (hL : L ≤ 2560) (C0 : lw_At p s m meth c b L xs) : W p l e room_1 s m #[Value.ref b] below meth c s.heap [] 0 0 (lw_Z below #[Value.ref b] s) (entryFrame m ([Value.ref b] : List Value).toArray 9) := by
  obtain ⟨hx, hb, hr, hml, hown, hts, hX, hbl, hlocks, hgv⟩ := id C0
  have hl9 : l.stackTraces = false := by unfold Launch.stackTraces; rw [hflags]; decide +kernel
  have hA : ∀ q : Nat, s.heap.size ≤ q → (fun q : Nat => s.heap.size ≤ q) q := fun _ h => h
  have hwd : ∀ w ∈ lw_tbl, gx_ok w = true → w.before #[] s = true := fun w hm ho => va_tabs (gx_ok_on ho) rfl (hts w hm)
  obtain ⟨D, cls, hK0⟩ := gx_K0 hts
  have hV : gx_V0 (D, (fun _ => 0), cls, 0) s := ⟨hwd, hK0, va_AO.of (hts (.arrayOver (.object "GluedWall$Wall")) (by decide +kernel))⟩
  have hS : va_S (fun q : Nat => s.heap.size ≤ q) s.heap s.heap [] := va_S.rf
  have hP : va_P D vwCl [] s.heap := fun k q h => by simp at h
  have hD : va_D (fun q : Nat => s.heap.size ≤ q) [] := ⟨fun i j p q h => by simp at h, fun k q h => by simp at h⟩
  have hl := lv_entry ([.ref b]) (n := 9) (Nat.le_of_ble_eq_true rfl)
  rw [lg_entry_eq]
  generalize (lg_sl ([.ref b]) ++ List.replicate (9 - (lg_sl ([.ref b])).length) Slot.unset).toArray = ls at hl ⊢
  have hl : lv_has ls 9 [(0, .ref b)] := hl
  refine va_new (pc := 0) (args := _) (Ts := u_ws RX6 TX6 13) (ci := 8) (fs := [.null, .null, .null, .int 0, .null, .null, .null, .null, .int 0, .null, .int 0, .null, .int 0]) hx hb (fun w h => hV.w (gl_X6 w h).1 (gl_X6 w h).2) (fun _ h => h) tyX6 tyX6_ok hown (gv_70 hV) (gv_71 hV) (gv_49 hV) hV.K hP hD hS hA rfl hfs_X6 (Nat.le_of_ble_eq_true rfl) (Nat.le_of_ble_eq_true rfl) dL_law_0 (fun c0 H hP hD hS => ?_)
  have hP : va_P D vwCl (([] : va_W) ++ [(c0, .inr (8, [.null, .null, .null, .int 0, .null, .null, .null, .null, .int 0, .null, .int 0, .null, .int 0]))]) H := hP
  refine W.widen (k := 1) (n := 13) (by omega) (by omega) ?_
  refine lv_dup (pc := 3) hx hb dL_law_3 rfl ?_
  refine gx_runI (G := (D, (fun _ => 0), cls, 0)) (pc := 4) (wr := ([] : va_W)) (wc := [(c0, .inr (8, [.null, .null, .null, .int 0, .null, .null, .null, .null, .int 0, .null, .int 0, .null, .int 0]))]) (va_runI (As := []) (rest := [.ref c0]) ⟨hx, hb, hml, hown, (fun _ h => nomatch h : ∀ w ∈ ([] : List Cond), w.before _ s = true)⟩ (i_X6 l ((D, (fun _ => 0), cls, 0) : gx_G) c0  H.size) ⟨gx_callB (n := 0) rfl rfl (gv_72 hV) (gv_49 hV) (gv_74 hV) (by decide +kernel) ⟨Nat.le_of_ble_eq_true rfl, Nat.le_of_ble_eq_true rfl⟩, rfl, (gv_73 hV)⟩ (gx_preI hV hP hD) rfl rfl hl.1 rfl (lv_room (Nat.le_of_ble_eq_true rfl)) dL_law_4 ⟨Nat.le_of_ble_eq_true rfl, Nat.le_of_ble_eq_true rfl⟩) hP hD hS hA (fun w H locs hw hP hD hS => ?_)
  obtain ⟨L3, K, rfl⟩ := hw
  refine W.widen (k := 58) (n := 1356) (by omega) (by omega) ?_
  refine lv_astore_n (pc := 7) (lv' := [(1, .ref c0), (0, .ref b)]) hx hb dL_law_7 rfl hl (by decide) rfl (fun ls hl => ?_)
  refine va_new (pc := 8) (args := _) (Ts := u_ws RX7 TX7 22) (ci := 9) (fs := [.null, .null, .null, .null, .null, .int 0, .int 0, .int 0, .int 0, .int 0, .int 0, .int 0, .int 0, .null, .int 0, .int 0, .null, .int 0, .null, .int 0, .null, .int 0]) hx hb (fun w h => hV.w (gl_X7 w h).1 (gl_X7 w h).2) (fun _ h => h) tyX7 tyX7_ok hown (gv_1012 hV) (gv_1013 hV) (gv_56 hV) hV.K hP hD hS hA rfl hfs_X7 (Nat.le_of_ble_eq_true rfl) (Nat.le_of_ble_eq_true rfl) dL_law_8 (fun c1 H hP hD hS => ?_)
  refine W.widen (k := 59) (n := 1378) (by omega) (by omega) ?_
  refine lv_dup (pc := 11) hx hb dL_law_11 rfl ?_
  refine gx_runI (G := (D, (fun _ => 0), cls, 0)) (pc := 12) (wr := ([] ++ gx_gl (D, (fun _ => 0), cls, 0) c0 L3 K)) (wc := [(c1, .inr (9, [.null, .null, .null, .null, .null, .int 0, .int 0, .int 0, .int 0, .int 0, .int 0, .int 0, .int 0, .null, .int 0, .int 0, .null, .int 0, .null, .int 0, .null, .int 0]))]) (va_runI (As := []) (rest := [.ref c1]) ⟨hx, hb, hml, hown, (fun _ h => nomatch h : ∀ w ∈ ([] : List Cond), w.before _ s = true)⟩ (i_X7 l ((D, (fun _ => 0), cls, 0) : gx_G) c1  H.size) ⟨gx_callB (n := 0) rfl rfl (gv_1014 hV) (gv_56 hV) (gv_1016 hV) (by decide +kernel) ⟨Nat.le_of_ble_eq_true rfl, Nat.le_of_ble_eq_true rfl⟩, rfl, (gv_1015 hV)⟩ (gx_preI hV hP hD) rfl rfl hl.1 rfl (lv_room (Nat.le_of_ble_eq_true rfl)) dL_law_12 ⟨Nat.le_of_ble_eq_true rfl, Nat.le_of_ble_eq_true rfl⟩) hP hD hS hA (fun w H locs hw hP hD hS => ?_)
  obtain ⟨KM, rfl⟩ := hw
  refine W.widen (k := 68) (n := 2742) (by omega) (by omega) ?_
  refine lv_astore_n (pc := 15) (lv' := [(2, .ref c1), (1, .ref c0), (0, .ref b)]) hx hb dL_law_15 rfl hl (by decide) rfl (fun ls hl => ?_)
  refine lv_iconst (pc := 16) (v := 1) hx hb dL_law_16 (by decide) ?_
  refine gx_newa (pc := 17) (ty := .long) (N' := 1) (a0 := (1, .inr (.inl (fun _ => 0)))) hx hb (gx_ac4 hV) rfl hV.K hP hD hS hA 4 rfl (fun _ => rfl) (by decide) (by decide) (by decide) (Nat.le_of_ble_eq_true rfl) (Nat.le_of_ble_eq_true rfl) dL_law_17 (fun c2 H hP hD hS => ?_)
  refine W.widen (k := 69) (n := 2743) (by omega) (by omega) ?_
  refine lv_astore_n (pc := 19) (lv' := [(3, .ref c2), (2, .ref c1), (1, .ref c0), (0, .ref b)]) hx hb dL_law_19 rfl hl (by decide) rfl (fun ls hl => ?_)
  refine lv_iconst (pc := 20) (v := 1) hx hb dL_law_20 (by decide) ?_
  refine gx_newa (pc := 21) (ty := .double) (N' := 1) (a0 := (1, .inr (.inr (.inr (.inl (fun _ => 0)))))) hx hb (gx_ac5 hV) rfl hV.K hP hD hS hA 5 rfl (fun _ => rfl) (by decide) (by decide) (by decide) (Nat.le_of_ble_eq_true rfl) (Nat.le_of_ble_eq_true rfl) dL_law_21 (fun c3 H hP hD hS => ?_)
  refine W.widen (k := 70) (n := 2744) (by omega) (by omega) ?_
  refine lv_astore (pc := 23) (lv' := [(4, .ref c3), (3, .ref c2), (2, .ref c1), (1, .ref c0), (0, .ref b)]) hx hb dL_law_23 hl (by decide) rfl (fun ls hl => ?_)
  refine lv_iconst (pc := 25) (v := 0) hx hb dL_law_25 (by decide) ?_
  refine lv_istore (pc := 26) (lv' := [(5, .int 0), (4, .ref c3), (3, .ref c2), (2, .ref c1), (1, .ref c0), (0, .ref b)]) hx hb dL_law_26 hl (by decide) rfl (fun ls hl => ?_)
  have hPw := hP.sub (ws' := gx_ws (D, gx_adr L3 K KM c0 c1 c2 c3, cls, s.heap.size) (gx_I0, gx_V0s) (gx_J0, gx_U0) 0 0) gx_prm (gx_prm_ok _ _ _ _ _ _ _ _ _ _).1
  have hDw := hD.sub (ws' := gx_ws (D, gx_adr L3 K KM c0 c1 c2 c3, cls, s.heap.size) (gx_I0, gx_V0s) (gx_J0, gx_U0) 0 0) gx_prm (by decide) (gx_prm_ok _ _ _ _ _ _ _ _ _ _).2
  obtain ⟨G, hG⟩ : ∃ G : gx_G, G = (D, gx_adr L3 K KM c0 c1 c2 c3, cls, s.heap.size) := ⟨_, rfl⟩
  rw [← hG] at hPw hDw
  have hG1 : G.1 = D := by rw [hG]
  have hG2 : G.2.2.2 = s.heap.size := by rw [hG]
  have hgD : gx_D G := fun j k hj hk h => hDw.1 j k _ _ (gx_ws_get hj) (gx_ws_get hk) h
  have hAs : ∀ q, gx_A G q → s.heap.size ≤ q := by
    intro q hq
    rcases hq with ⟨k, hk, rfl⟩ | hq
    · exact hDw.2 k _ (gx_ws_get hk)
    · rw [hG2] at hq; exact hq
  have hnA : ∀ a : Nat, a < s.heap.size → ¬ gx_A G a := fun a ha h => absurd (hAs a h) (Nat.not_le.mpr ha)
  have hgV : gx_V G s := ⟨hwd, by rw [hG]; exact hK0, hgD⟩
  have hgZ : gx_Z G s s.heap := gx_Z0 hts hgv hnA
  have hat : gx_at G (gx_I0, gx_V0s) (gx_J0, gx_U0) 0 0 s.heap H _ := ⟨by rw [hG1]; exact hPw, ⟨hS.1, fun q h1 _ => hS.2.1 q h1 (Nat.not_le.mpr h1), fun l hl => Or.inr (by rw [hG2]; exact hS.2.2 l hl)⟩, by rw [hG2]; exact Nat.le_refl _⟩
  have hl : lv_has ls 9 [(0, .ref b), (1, .ref (G.2.1 44)), (2, .ref (G.2.1 58)), (3, .ref (G.2.1 68)), (4, .ref (G.2.1 69)), (5, .int 0)] := by rw [hG]; exact lv_sub hl [5, 4, 3, 2, 1, 0] rfl
  exact w_law_L hl9 hx hb hr hlocks hml hown hgV hgZ hX hbl (hnA b hbl) hAs 1000 0 gx_I0 gx_V0s gx_J0 gx_U0 0 0 H _ ls 70 2744 (by omega) (by omega) hl hat (gx_math xs L hL)
