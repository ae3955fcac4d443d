/-! CONTRACTS of methods over the world, how one is begun, called and ended -/
abbrev gx_K (l : Launch) (y : MethodName) (bytes : ByteArray) (maxL : Nat) (ret : Option FieldType) (rm : Room) (av : List Value) (G : gx_G) (C M : gx_S) (o : Int64) (d : UInt64) (Qc : Array Value → State → Outcome → State → Prop) (mc ms : Nat) : Prop := Met l y [.code y bytes maxL ret] rm (va_Pc av (gx_U G C M o d)) Qc mc ms (gx_A G)
def gx_Qi (G : gx_G) (r : Int32) (C M : gx_S) (o : Int64) (d : UInt64) : Array Value → State → Outcome → State → Prop := va_Qi (fun r' (_ : Unit) => r' = r) (fun _ t => gx_H G C M o d t.heap) (gx_A G)
def gx_Qd (G : gx_G) (r : UInt64) (C M : gx_S) (o : Int64) (d : UInt64) : Array Value → State → Outcome → State → Prop := va_Qd (fun r' (_ : Unit) => r' = r) (fun _ t => gx_H G C M o d t.heap) (gx_A G)
def gx_Qf (G : gx_G) (r : UInt32) (C M : gx_S) (o : Int64) (d : UInt64) : Array Value → State → Outcome → State → Prop := va_Qf (fun r' (_ : Unit) => r' = r) (fun _ t => gx_H G C M o d t.heap) (gx_A G)
def gx_Qv (G : gx_G) (C M : gx_S) (o : Int64) (d : UInt64) : Array Value → State → Outcome → State → Prop := va_Qv (fun (_ : Unit) => True) (fun _ t => gx_H G C M o d t.heap) (gx_A G)
theorem gx_bi_0 : gx_bi false = 0 := rfl
theorem gx_bi_1 : gx_bi true = 1 := rfl
theorem gx_bi_eq {b : Bool} : gx_bi b = 0 ↔ b = false := by cases b <;> simp [gx_bi]
theorem gx_narb (b : Bool) : narrow .boolean (.int (gx_bi b)) = .int (gx_bi b) := by cases b <;> rfl
theorem gx_nari (x : Int32) : narrow .int (.int x) = .int x := rfl
theorem gx_hz {x : Int32} (h : gx_boo x = x) : narrow .boolean (.int x) = .int x := by
  have h1 : narrow .boolean (.int x) = .int (gx_boo x) := rfl
  rw [h1, h]
theorem gx_narc (x : Int32) : narrow .char (.int (gx_chr x)) = .int (gx_chr x) := by
  have h1 : ∀ y : Int32, gx_chr y = y.toUInt32.toUInt16.toUInt32.toInt32 := fun _ => rfl
  have h2 : narrow .char (.int (gx_chr x)) = .int ((gx_chr x).toUInt32.toUInt16.toUInt32.toInt32) := rfl
  rw [h2, h1]
  simp
  have h3 : x.toUInt32 % 65536 % 65536 = x.toUInt32 % 65536 := by
    apply UInt32.toNat_inj.mp
    rw [UInt32.toNat_mod, UInt32.toNat_mod]
    exact Nat.mod_mod _ _
  rw [h3]
def gx_n64 (r : UInt64) : Bool := decide (r &&& 0x7fffffffffffffff ≤ 0x7ff0000000000000)
def gx_n32 (r : UInt32) : Bool := decide (r &&& 0x7fffffff ≤ 0x7f800000)
theorem gx_n64_of {r : UInt64} (h : gx_n64 r = true) : vf_n64 r := by
  show r &&& 0x7fffffffffffffff ≤ 0x7ff0000000000000
  exact of_decide_eq_true h
theorem gx_n32_of {r : UInt32} (h : gx_n32 r = true) : vf_n32 r := by
  show r &&& 0x7fffffff ≤ 0x7f800000
  exact of_decide_eq_true h
def gx_isB (x : Int32) : Bool := decide (x = 0) || decide (x = 1)
def gx_tb (x : Int32) : Bool := decide (x = 1)
theorem gx_isB_eq {x : Int32} (h : gx_isB x = true) : x = gx_bi (gx_tb x) := by
  simp only [gx_isB, Bool.or_eq_true, decide_eq_true_eq] at h
  rcases h with rfl | rfl <;> rfl
def gx_i2c (x : Int32) : Int32 := (x.toUInt32 % 65536).toInt32
section GXC
variable {α : Type} {p : Program} {l : Launch} {e : Env} {R : Room} {s : State} {m : MethodId} {args : Array Value} {below : List Frame} {meth : Method} {c : Code} {H : Heap} {locs : List Loc} {cells slots : Nat} {Q : State → Prop}
variable {cc : ByteArray} {pc : Nat} {ls : Array Slot} {rest : List Value} {G : gx_G} {C M C' M' : gx_S} {o o' : Int64} {d d' : UInt64} {own : String} {X Y : Option α} {out : α}
/-- what stands in the tables of a call -/
theorem gx_callB {y : MethodName} {bytes : ByteArray} {maxL mc ms n index : Nat} {ret : Option FieldType} {rm : Room} (hrc : rm.cells = mc) (hrs : rm.slots = ms) (hlink : (Cond.methodLink own index y).before args s = true) (hini : (Cond.initialized y.cls).before args s = true) (hcode : (Cond.code y bytes maxL ret).before args s = true)
    (hd : y.cls ≠ "java/lang/invoke/MethodHandle" ∧ y.cls ≠ "java/lang/invoke/VarHandle" ∧ (parseMethodDescriptor y.desc).map (fun d => d.parameters.length) = some n) (hR : rm.frames + 1 ≤ R.frames ∧ 8 + (maxL + 11) + rm.locals ≤ R.locals) :
    CallB R s args own index y bytes maxL ret [.code y bytes maxL ret] rm mc ms n := by
  refine ⟨hrc, hrs, hR.1, hR.2, fun w hw a' U hW => ?_, List.mem_cons_self, hcode, hini, ⟨hd.1, hd.2.1⟩, fun sig h => ?_, hlink⟩
  · rw [List.mem_singleton.mp hw]
    exact word_at hW (Or.inl (by first | rfl | simp [Cond.onTables, Cond.keeps, Cond.steady])) hcode
  · have h2 := hd.2.2
    rw [h] at h2
    exact (Option.some.inj h2).symm
/-- what stands in the tables of a call of a nest mate's private method -/
theorem gx_callN {y : MethodName} {bytes : ByteArray} {maxL mc ms n index : Nat} {ret : Option FieldType} {rm : Room} {host : String} (hrc : rm.cells = mc) (hrs : rm.slots = ms) (hlink : (Cond.methodLinkNest own index y host).before args s = true) (hini : (Cond.initialized y.cls).before args s = true) (hcode : (Cond.code y bytes maxL ret).before args s = true)
    (hd : y.cls ≠ "java/lang/invoke/MethodHandle" ∧ y.cls ≠ "java/lang/invoke/VarHandle" ∧ (parseMethodDescriptor y.desc).map (fun d => d.parameters.length) = some n) (hR : rm.frames + 1 ≤ R.frames ∧ 8 + (maxL + 11) + rm.locals ≤ R.locals) :
    va_CN R s args own index y host bytes maxL ret [.code y bytes maxL ret] rm mc ms n := by
  refine ⟨⟨hrc, hrs, hR.1, hR.2, fun w hw a' U hW => ?_, List.mem_cons_self⟩, hcode, hini, ⟨hd.1, hd.2.1⟩, fun sig h => ?_, hlink⟩
  · rw [List.mem_singleton.mp hw]
    exact word_at hW (Or.inl (by first | rfl | simp [Cond.onTables, Cond.keeps, Cond.steady])) hcode
  · have h2 := hd.2.2
    rw [h] at h2
    exact (Option.some.inj h2).symm
/-- the receiver is there -/
theorem gx_recv {av : List Value} (hV : gx_V G s) (hw : gx_at G C M o d s.heap H locs) {k ci N : Nat} {Cn : String} {T : u_T} {fs : List Value} (hk : k < 70) (hcell : gx_cell G C M o d k = .inr (ci, fs)) (hcl : vwCl[ci]? = some (Cn, T, N)) : PreV s H Cn (G.2.1 k) (va_Pc (.ref (G.2.1 k) :: av) (gx_U G C M o d)) av := by
  refine ⟨gx_blind, ?_, fun U hU hW => ⟨rfl, gx_go hV hw U hU hW⟩⟩
  have h := hw.1 k _ (gx_ws_get hk)
  rw [hcell] at h
  obtain ⟨r, h1, cell, q1, q2, q3, q4⟩ := h
  have hr : r = (Cn, T, N) := Option.some.inj (h1.symm.trans hcl)
  subst hr
  obtain ⟨hS, hfc, kC, hkC, hkind⟩ := hV.2.1.1 ci _ hcl
  exact ⟨cell, q1, by rw [q3]; rfl, by rw [q2]; exact hfc⟩
theorem gx_pre {av : List Value} (hV : gx_V G s) (hw : gx_at G C M o d s.heap H locs) : PreS s H (va_Pc av (gx_U G C M o d)) av := ⟨gx_blind, fun U hU hW => ⟨rfl, gx_go hV hw U hU hW⟩⟩
theorem gx_back {t : State} {H1 : Heap} {locs1 : List Loc} (hw : gx_at G C M o d s.heap H locs) (ht : t.heap = H1) (hB : gx_H G C' M' o' d' t.heap) (hS : va_S (gx_A G) s.heap H1 locs1) : gx_at G C' M' o' d' s.heap H1 locs1 := ⟨by rw [← ht]; exact hB.1, hS, hw.2.2⟩
theorem gx_runi {a : Array Value} {st0 : List Value} {mc ms : Nat} {r : Int32} (hw : gx_at G C M o d s.heap H locs) (hr : va_Run p l e R s m args below meth c H locs cells slots mc ms (F0 m pc ls st0) rest (gx_Qi G r C' M' o' d' a) (gx_A G))
    (kk : ∀ (H1 : Heap) (locs1 : List Loc), gx_at G C' M' o' d' s.heap H1 locs1 → W p l e R s m args below meth c H1 locs1 (cells + mc) (slots + ms) Q (F0 m (pc + 3) ls (.int r :: rest))) : W p l e R s m args below meth c H locs cells slots Q (F0 m pc ls st0) :=
  va_calli hr hw.2.1 (fun _ _ h => h) (fun _ h => h) (fun r' _ t H1 locs1 ht _ hp hB _ _ hS => by subst hp; exact kk H1 locs1 (gx_back hw ht hB hS))
theorem gx_rund {a : Array Value} {st0 : List Value} {mc ms : Nat} {r : UInt64} (hw : gx_at G C M o d s.heap H locs) (hr : va_Run p l e R s m args below meth c H locs cells slots mc ms (F0 m pc ls st0) rest (gx_Qd G r C' M' o' d' a) (gx_A G))
    (kk : ∀ (H1 : Heap) (locs1 : List Loc), gx_at G C' M' o' d' s.heap H1 locs1 → W p l e R s m args below meth c H1 locs1 (cells + mc) (slots + ms) Q (F0 m (pc + 3) ls (.double r :: rest))) : W p l e R s m args below meth c H locs cells slots Q (F0 m pc ls st0) :=
  va_calld hr hw.2.1 (fun _ _ h => h) (fun _ h => h) (fun r' _ t H1 locs1 ht _ hp hB _ _ hS => by subst hp; exact kk H1 locs1 (gx_back hw ht hB hS))
theorem gx_runf {a : Array Value} {st0 : List Value} {mc ms : Nat} {r : UInt32} (hw : gx_at G C M o d s.heap H locs) (hr : va_Run p l e R s m args below meth c H locs cells slots mc ms (F0 m pc ls st0) rest (gx_Qf G r C' M' o' d' a) (gx_A G))
    (kk : ∀ (H1 : Heap) (locs1 : List Loc), gx_at G C' M' o' d' s.heap H1 locs1 → W p l e R s m args below meth c H1 locs1 (cells + mc) (slots + ms) Q (F0 m (pc + 3) ls (.float r :: rest))) : W p l e R s m args below meth c H locs cells slots Q (F0 m pc ls st0) :=
  va_callf hr hw.2.1 (fun _ _ h => h) (fun _ h => h) (fun r' _ t H1 locs1 ht _ hp hB _ _ hS => by subst hp; exact kk H1 locs1 (gx_back hw ht hB hS))
theorem gx_runv {a : Array Value} {st0 : List Value} {mc ms : Nat} (hw : gx_at G C M o d s.heap H locs) (hr : va_Run p l e R s m args below meth c H locs cells slots mc ms (F0 m pc ls st0) rest (gx_Qv G C' M' o' d' a) (gx_A G))
    (kk : ∀ (H1 : Heap) (locs1 : List Loc), gx_at G C' M' o' d' s.heap H1 locs1 → W p l e R s m args below meth c H1 locs1 (cells + mc) (slots + ms) Q (F0 m (pc + 3) ls rest)) : W p l e R s m args below meth c H locs cells slots Q (F0 m pc ls st0) :=
  va_callv hr hw.2.1 (fun _ _ h => h) (fun _ h => h) (fun _ t H1 locs1 ht _ _ hB _ _ hS => kk H1 locs1 (gx_back hw ht hB hS))
/-- ends -/
theorem gx_iret {r : Int32} (hx : p.tables.exec = Jvm.exec) (hb : c.code = cc) (hr : meth.sig.returnType = some .int) (hlocks : meth.locks = false) (hw : gx_at G C M o d s.heap H locs) (hdg : decode cc pc = .ok (.ireturn, 1)) : W p l e R s m args below meth c H locs cells slots (MQ below (gx_Qi G r C M o d) args s cells slots (gx_A G)) (F0 m pc ls [.int r]) :=
  W.iret hx hb hr (fun t ht _ => ⟨⟨r, (), rfl, rfl, by show gx_H G C M o d t.heap; rw [ht]; exact hw.H⟩, hw.2.1.F ht⟩) hw.2.1.2.2 hdg hlocks
theorem gx_zret {r : Int32} {ty : FieldType} (hx : p.tables.exec = Jvm.exec) (hb : c.code = cc) (hr : meth.sig.returnType = some ty) (hn : narrow ty (.int r) = .int r) (hlocks : meth.locks = false) (hw : gx_at G C M o d s.heap H locs) (hdg : decode cc pc = .ok (.ireturn, 1)) : W p l e R s m args below meth c H locs cells slots (MQ below (gx_Qi G r C M o d) args s cells slots (gx_A G)) (F0 m pc ls [.int r]) :=
  W.zret hx hb hr hn (fun t ht _ => ⟨⟨r, (), rfl, rfl, by show gx_H G C M o d t.heap; rw [ht]; exact hw.H⟩, hw.2.1.F ht⟩) hw.2.1.2.2 hdg hlocks
theorem gx_vret (hx : p.tables.exec = Jvm.exec) (hb : c.code = cc) (hr : meth.sig.returnType = none) (hlocks : meth.locks = false) (hw : gx_at G C M o d s.heap H locs) (hdg : decode cc pc = .ok (.return_, 1)) : W p l e R s m args below meth c H locs cells slots (MQ below (gx_Qv G C M o d) args s cells slots (gx_A G)) (F0 m pc ls []) :=
  W.vret hx hb hr (fun t ht _ => ⟨⟨(), rfl, trivial, by show gx_H G C M o d t.heap; rw [ht]; exact hw.H⟩, hw.2.1.F ht⟩) hw.2.1.2.2 hdg hlocks
theorem gx_zretB {v : Int32} {ty : FieldType} (hB : gx_isB v = true) (hx : p.tables.exec = Jvm.exec) (hb : c.code = cc) (hr : meth.sig.returnType = some ty) (hn : narrow ty (.int (gx_bi (gx_tb v))) = .int (gx_bi (gx_tb v))) (hlocks : meth.locks = false) (hw : gx_at G C M o d s.heap H locs) (hdg : decode cc pc = .ok (.ireturn, 1)) : W p l e R s m args below meth c H locs cells slots (MQ below (gx_Qi G (gx_bi (gx_tb v)) C M o d) args s cells slots (gx_A G)) (F0 m pc ls [.int v]) := by
  rw [show F0 m pc ls [.int v] = F0 m pc ls [.int (gx_bi (gx_tb v))] by rw [← gx_isB_eq hB]]
  exact gx_zret hx hb hr hn hlocks hw hdg
theorem gx_dret {r : UInt64} (hx : p.tables.exec = Jvm.exec) (hb : c.code = cc) (hr : meth.sig.returnType = some .double) (hlocks : meth.locks = false) (hw : gx_at G C M o d s.heap H locs) (hdg : decode cc pc = .ok (.dreturn, 1)) : W p l e R s m args below meth c H locs cells slots (MQ below (gx_Qd G r C M o d) args s cells slots (gx_A G)) (F0 m pc ls [.double r]) :=
  W.dret hx hb hr (fun t ht _ => ⟨⟨r, (), rfl, rfl, by show gx_H G C M o d t.heap; rw [ht]; exact hw.H⟩, hw.2.1.F ht⟩) hw.2.1.2.2 hdg hlocks
theorem gx_fret {r : UInt32} (hx : p.tables.exec = Jvm.exec) (hb : c.code = cc) (hr : meth.sig.returnType = some .float) (hlocks : meth.locks = false) (hw : gx_at G C M o d s.heap H locs) (hdg : decode cc pc = .ok (.freturn, 1)) : W p l e R s m args below meth c H locs cells slots (MQ below (gx_Qf G r C M o d) args s cells slots (gx_A G)) (F0 m pc ls [.float r]) :=
  W.fret hx hb hr (fun t ht _ => ⟨⟨r, (), rfl, rfl, by show gx_H G C M o d t.heap; rw [ht]; exact hw.H⟩, hw.2.1.F ht⟩) hw.2.1.2.2 hdg hlocks
theorem gx_ddiv {x y : UInt64} (hx : p.tables.exec = Jvm.exec) (hb : c.code = cc) (hF : gx_ck (gx_n64 (FP.ddiv x y)) X = some out) (hdg : decode cc pc = .ok (.ddiv, 1)) (k : X = some out → W p l e R s m args below meth c H locs cells slots Q (F0 m (pc + 1) ls (.double (FP.ddiv x y) :: rest))) : W p l e R s m args below meth c H locs cells slots Q (F0 m pc ls (.double y :: .double x :: rest)) :=
  lv_ddiv hx hb hdg (gx_n64_of (gx_ck_of hF).1) (k (gx_ck_of hF).2)
theorem gx_fdiv {x y : UInt32} (hx : p.tables.exec = Jvm.exec) (hb : c.code = cc) (hF : gx_ck (gx_n32 (FP.fdiv x y)) X = some out) (hdg : decode cc pc = .ok (.fdiv, 1)) (k : X = some out → W p l e R s m args below meth c H locs cells slots Q (F0 m (pc + 1) ls (.float (FP.fdiv x y) :: rest))) : W p l e R s m args below meth c H locs cells slots Q (F0 m pc ls (.float y :: .float x :: rest)) :=
  lv_fdiv hx hb hdg (gx_n32_of (gx_ck_of hF).1) (k (gx_ck_of hF).2)
/-- a switch by table, none of whose values was met -/
theorem gx_tableD {x : Int32} {dflt lo hi : Int} {offs : Array Int} {len tgt : Nat} (hx : p.tables.exec = Jvm.exec) (hb : c.code = cc) (hdg : decode cc pc = .ok (.tableswitch dflt lo hi offs, len)) (vals : List Int32) (hv : ∀ v ∈ vals, ¬ x = v) (hall : (List.range offs.size).all (fun i => decide (offs[i]? = some dflt) || vals.any (fun v => decide (v.toInt = lo + (i : Int)))) = true) (hhi : hi = lo + (offs.size : Int) - 1) (ht : (pc : Int) + dflt = (tgt : Int))
    (k : W p l e R s m args below meth c H locs cells slots Q (F0 m tgt ls rest)) : W p l e R s m args below meth c H locs cells slots Q (F0 m pc ls (.int x :: rest)) := by
  by_cases h1 : x.toInt < lo
  · exact lv_tableOut hx hb hdg (Or.inl h1) ht k
  · by_cases h2 : hi < x.toInt
    · exact lv_tableOut hx hb hdg (Or.inr h2) ht k
    · have hi2 : (x.toInt - lo).toNat < offs.size := by omega
      have h3 := List.all_eq_true.mp hall _ (List.mem_range.mpr hi2)
      simp only [Bool.or_eq_true, decide_eq_true_eq, List.any_eq_true] at h3
      rcases h3 with h3 | ⟨v, hm, h3⟩
      · exact lv_tableIn hx hb hdg h1 h2 h3 ht k
      · exact absurd (Int32.toInt_inj.mp (by omega)) (hv v hm)
end GXC
theorem gx_begin {l : Launch} {y : MethodName} {cc : ByteArray} {maxL : Nat} {ret : Option FieldType} {rm : Room} {av : List Value} {G : gx_G} {C M : gx_S} {o : Int64} {d : UInt64} {Qc : Array Value → State → Outcome → State → Prop} {mc ms : Nat} (hy : plainName y.cls = true) (hlen : (lg_sl av).length ≤ maxL)
    (body : ∀ (p : Program) (e : Env) (s : State) (m : MethodId) (below : List Frame) (meth : Method) (c : Code), p.tables.exec = Jvm.exec → c.code = cc → meth.sig.returnType = ret → c.maxLocals = maxL → s.vm.findClass y.cls = some m.cls → meth.locks = false → gx_V G s → gx_at G C M o d s.heap s.heap [] → ∀ ls : Array Slot, lv_has ls maxL (lv_args 0 av) → W p l e rm s m av.toArray below meth c s.heap [] 0 0 (MQ below Qc av.toArray s mc ms (gx_A G)) (F0 m 0 ls [])) : gx_K l y cc maxL ret rm av G C M o d Qc mc ms := by
  refine Met.ofW (cc := cc) (maxL := maxL) (ret := ret) hy rfl ?_
  intro p e s m args below meth c s₁ B hml hv
  obtain ⟨rfl, hU⟩ := hv
  rw [lg_entry_eq]
  exact body p e s m below meth c B.exec B.bytes B.returns hml (findClass_of_methodNamed B.named) B.notSynchronized hU.1 hU.at _ (lv_entry av hlen)
