/-! THE WORLD: 70 cells at addresses that are given (G.2.1), made once and never again; what they hold by two functions a side: C of the class, M of the reference: .1 an object's numbers (by cell, by slot), .2 a row's (by cell, by place); o, d the law's two rows of one -/
abbrev gx_F : Type := Nat → Nat → Int32
abbrev gx_S : Type := (Nat → Nat → Int32) × (Nat → Nat → Int32)
abbrev gx_G : Type := va_G × (Nat → Nat) × (Nat → ClassId) × Nat
def gx_chr (x : Int32) : Int32 := vp_nar .char x
def gx_boo (x : Int32) : Int32 := vp_nar .boolean x
def gx_bi (b : Bool) : Int32 := if b = true then 1 else 0
def gx_u (F : Nat → Nat → Int32) (k n : Nat) (x : Int32) : Nat → Nat → Int32 := fun a b => if a = k then (if b = n then x else F a b) else F a b
def gx_cp (F : Nat → Nat → Int32) (k0 k1 sp dp n : Nat) : Nat → Nat → Int32 := fun a b => if a = k1 then (if dp ≤ b ∧ b < dp + n then F k0 (sp + (b - dp)) else F a b) else F a b
theorem gx_u_ne {F : Nat → Nat → Int32} {k n j : Nat} {x : Int32} (h : j ≠ k) : gx_u F k n x j = F j := by
  funext b
  unfold gx_u
  rw [if_neg h]
theorem gx_cp_ne {F : Nat → Nat → Int32} {k0 k1 sp dp n j : Nat} (h : j ≠ k1) : gx_cp F k0 k1 sp dp n j = F j := by
  funext b
  unfold gx_cp
  rw [if_neg h]
/-- the rows of ints of the reference: cell, length -/
def gx_mlen (k : Nat) : Nat := if k = 60 then 696 else if k = 64 then 60 else if k = 67 then 186 else 87
def gx_isW (k : Nat) : Prop := k < 44 ∧ k % 4 = 0
def gx_isM (k : Nat) : Prop := k = 59 ∨ k = 60 ∨ k = 61 ∨ k = 62 ∨ k = 63 ∨ k = 64 ∨ k = 67
def gx_cell (G : gx_G) (C M : gx_S) (o : Int64) (d : UInt64) (k : Nat) : va_E :=
  if k < 44 then
    (if k % 4 = 0 then .inr (7, [.ref (G.2.1 (k + 1)), .ref (G.2.1 (k + 2)), .ref (G.2.1 (k + 3)), .int (C.1 k 3), .int (C.1 k 4), .int (C.1 k 5), .int (C.1 k 6), .int (C.1 k 7), .int (C.1 k 8)])
     else .inl (G.2.2.1 0, (if k % 4 = 1 then 32 else if k % 4 = 2 then 7 else 42), .inl (C.2 k)))
  else if k = 44 then .inr (8, [.ref (G.2.1 0), .ref (G.2.1 4), .ref (G.2.1 8), .int (gx_boo (C.1 k 3)), .ref (G.2.1 46), .ref (G.2.1 48), .ref (G.2.1 51), .ref (G.2.1 53), .int (C.1 k 8), .ref (G.2.1 54), .int (C.1 k 10), .ref (G.2.1 45), .int (C.1 k 12)])
  else if k = 45 then .inl (G.2.2.1 1, 28, .inl (fun n => gx_chr (C.2 k n)))
  else if k = 46 then .inr (4, [.ref (G.2.1 47), .int (C.1 k 1), .int (C.1 k 2)])
  else if k = 47 then .inl (G.2.2.1 3, 8, .inr (.inr (.inr (.inr (fun n => some (G.2.1 (12 + 4 * n)))))))
  else if k = 48 then .inr (2, [.ref (G.2.1 49), .ref (G.2.1 50), .int (C.1 k 2)])
  else if k = 49 then .inl (G.2.2.1 2, 42, .inl (fun n => gx_boo (C.2 k n)))
  else if k = 50 then .inl (G.2.2.1 0, 42, .inl (C.2 k))
  else if k = 51 then .inr (3, [.ref (G.2.1 52), .int (C.1 k 1), .int (C.1 k 2)])
  else if k = 52 then .inl (G.2.2.1 0, 4, .inl (C.2 k))
  else if k = 53 then .inr (5, [.ref (G.2.1 48), .ref (G.2.1 51), .int (C.1 k 2), .int (C.1 k 3)])
  else if k = 54 then .inr (6, [.ref (G.2.1 55), .ref (G.2.1 56), .ref (G.2.1 57), .int (C.1 k 3), .int (C.1 k 4), .int (C.1 k 5)])
  else if k = 55 then .inl (G.2.2.1 1, 60, .inl (fun n => gx_chr (C.2 k n)))
  else if k = 56 then .inl (G.2.2.1 1, 30, .inl (fun n => gx_chr (C.2 k n)))
  else if k = 57 then .inl (G.2.2.1 0, 120, .inl (C.2 k))
  else if k = 58 then .inr (9, [.ref (G.2.1 59), .ref (G.2.1 60), .ref (G.2.1 61), .ref (G.2.1 62), .ref (G.2.1 63), .int (gx_boo (M.1 k 5)), .int (M.1 k 6), .int (gx_boo (M.1 k 7)), .int (M.1 k 8), .int (M.1 k 9), .int (M.1 k 10), .int (M.1 k 11), .int (M.1 k 12), .ref (G.2.1 64), .int (M.1 k 14), .int (M.1 k 15), .ref (G.2.1 65), .int (M.1 k 17), .ref (G.2.1 66), .int (M.1 k 19), .ref (G.2.1 67), .int (M.1 k 21)])
  else if k = 65 then .inl (G.2.2.1 1, 32, .inl (fun n => gx_chr (M.2 k n)))
  else if k = 66 then .inl (G.2.2.1 2, 42, .inl (fun n => gx_boo (M.2 k n)))
  else if k = 68 then .inl (G.2.2.1 4, 1, .inr (.inl (fun _ => o)))
  else if k = 69 then .inl (G.2.2.1 5, 1, .inr (.inr (.inr (.inl (fun _ => d)))))
  else .inl (G.2.2.1 0, gx_mlen k, .inl (M.2 k))
def gx_ws (G : gx_G) (C M : gx_S) (o : Int64) (d : UInt64) : va_W := (List.range 70).map fun k => (G.2.1 k, gx_cell G C M o d k)
theorem gx_ws_get {G : gx_G} {C M : gx_S} {o : Int64} {d : UInt64} {k : Nat} (hk : k < 70) : (gx_ws G C M o d)[k]? = some (G.2.1 k, gx_cell G C M o d k) := by
  simp [gx_ws, hk]
theorem gx_ws_of {G : gx_G} {C M : gx_S} {o : Int64} {d : UInt64} {k : Nat} {q : Nat × va_E} (h : (gx_ws G C M o d)[k]? = some q) : k < 70 ∧ q = (G.2.1 k, gx_cell G C M o d k) := by
  have hk : k < 70 := by
    have := (List.getElem?_eq_some_iff.mp h).1
    simpa [gx_ws] using this
  rw [gx_ws_get hk] at h
  exact ⟨hk, (Option.some.inj h).symm⟩
theorem gx_ws_set {G : gx_G} {C M C' M' : gx_S} {o o' : Int64} {d d' : UInt64} {k : Nat} {x : va_E} (h1 : x = gx_cell G C' M' o' d' k) (h2 : ∀ j, j ≠ k → gx_cell G C' M' o' d' j = gx_cell G C M o d j) : (gx_ws G C M o d).set k (G.2.1 k, x) = gx_ws G C' M' o' d' := by
  apply List.ext_getElem?
  intro i
  by_cases hi : i < 70
  · rw [gx_ws_get hi]
    by_cases hik : i = k
    · subst hik
      rw [List.getElem?_set_self (by simpa [gx_ws] using hi), h1]
    · rw [List.getElem?_set_ne (Ne.symm hik), gx_ws_get hi, h2 i hik]
  · have l1 : ((gx_ws G C M o d).set k (G.2.1 k, x)).length ≤ i := by simp [gx_ws]; omega
    have l2 : (gx_ws G C' M' o' d').length ≤ i := by simp [gx_ws]; omega
    rw [List.getElem?_eq_none l1, List.getElem?_eq_none l2]
theorem gx_c1 {G : gx_G} {I V : Nat → Nat → Int32} {M : gx_S} {o : Int64} {d : UInt64} {k n j : Nat} {x : Int32} (h : j ≠ k) : gx_cell G (gx_u I k n x, V) M o d j = gx_cell G (I, V) M o d j := by
  simp only [gx_cell, gx_u_ne h]
theorem gx_c2 {G : gx_G} {I V : Nat → Nat → Int32} {M : gx_S} {o : Int64} {d : UInt64} {k n j : Nat} {x : Int32} (h : j ≠ k) : gx_cell G (I, gx_u V k n x) M o d j = gx_cell G (I, V) M o d j := by
  simp only [gx_cell, gx_u_ne h]
theorem gx_c2c {G : gx_G} {I V : Nat → Nat → Int32} {M : gx_S} {o : Int64} {d : UInt64} {k0 k sp dp n j : Nat} (h : j ≠ k) : gx_cell G (I, gx_cp V k0 k sp dp n) M o d j = gx_cell G (I, V) M o d j := by
  simp only [gx_cell, gx_cp_ne h]
theorem gx_m1 {G : gx_G} {I V : Nat → Nat → Int32} {C : gx_S} {o : Int64} {d : UInt64} {k n j : Nat} {x : Int32} (h : j ≠ k) : gx_cell G C (gx_u I k n x, V) o d j = gx_cell G C (I, V) o d j := by
  simp only [gx_cell, gx_u_ne h]
theorem gx_m2 {G : gx_G} {I V : Nat → Nat → Int32} {C : gx_S} {o : Int64} {d : UInt64} {k n j : Nat} {x : Int32} (h : j ≠ k) : gx_cell G C (I, gx_u V k n x) o d j = gx_cell G C (I, V) o d j := by
  simp only [gx_cell, gx_u_ne h]
/-- which cells may change: the world's, and what comes -/
def gx_A (G : gx_G) : Nat → Prop := fun q => (∃ k, k < 70 ∧ q = G.2.1 k) ∨ G.2.2.2 ≤ q
def gx_D (G : gx_G) : Prop := ∀ j k, j < 70 → k < 70 → G.2.1 j = G.2.1 k → j = k
theorem gx_D.va {G : gx_G} (h : gx_D G) (C M : gx_S) (o : Int64) (d : UInt64) : va_D (gx_A G) (gx_ws G C M o d) := by
  refine ⟨fun i j x y hi hj hxy => ?_, fun k q hq => ?_⟩
  · obtain ⟨h1, rfl⟩ := gx_ws_of hi
    obtain ⟨h2, rfl⟩ := gx_ws_of hj
    exact h i j h1 h2 hxy
  · obtain ⟨h1, rfl⟩ := gx_ws_of hq
    exact Or.inl ⟨k, h1, rfl⟩
abbrev gx_tys (G : gx_G) : List (ClassId × FieldType) := [(G.2.2.1 0, .int), (G.2.2.1 1, .char), (G.2.2.1 2, .boolean), (G.2.2.1 3, .object "GluedWall$Wall"), (G.2.2.1 4, .long), (G.2.2.1 5, .double)]
/-- the tables' words that stay -/
def gx_x (w : Cond) : Bool := match w with
  | .declares _ => true
  | .castable _ _ => true
  | _ => false
def gx_ok (w : Cond) : Bool := w.onTables && (w.keepsH || gx_x w)
theorem gx_ok_on {w : Cond} (h : gx_ok w = true) : w.onTables = true := by
  simp only [gx_ok, Bool.and_eq_true] at h
  exact h.1
theorem gx_x_warm {w : Cond} {s U : State} (h : gx_x w = true) (hW : s.WarmedH U.vm) (hZ : va_Nw w s) : va_Nw w U := by
  cases w <;> first | exact va_Nw.warmD hW hZ | exact va_Nw.warmC hW hZ | cases h
theorem gx_ok_warm {w : Cond} {s U : State} (h : gx_ok w = true) (hW : s.WarmedH U.vm) (hZ : va_Nw w s) : va_Nw w U := by
  simp only [gx_ok, Bool.and_eq_true, Bool.or_eq_true] at h
  rcases h.2 with h2 | h2
  · have h3 := Cond.onTables_warmH (T := U) (args' := #[]) hW h.1 h2 hZ
    rwa [State.setVm_self] at h3
  · exact gx_x_warm h2 hW hZ
def gx_V (G : gx_G) (U : State) : Prop := (∀ w ∈ lw_tbl, gx_ok w = true → w.before #[] U = true) ∧ va_K G.1 vwCl (gx_tys G) U ∧ gx_D G
theorem gx_V.w {G : gx_G} {U : State} (h : gx_V G U) {A : Array Value} {w : Cond} (hm : w ∈ lw_tbl) (ho : gx_ok w = true) : w.before A U = true :=
  va_tabs (gx_ok_on ho) rfl (h.1 w hm ho)
theorem gx_V.same {G : gx_G} {u U : State} (hv : u.vm = U.vm) (h : gx_V G u) : gx_V G U :=
  ⟨fun w hm ho => va_tabs (gx_ok_on ho) hv (h.1 w hm ho), va_K.moved (by rw [hv]; exact Vm.Alike.refl _) h.2.1, h.2.2⟩
theorem gx_V.warm {G : gx_G} {u U : State} (hW : u.WarmedH U.vm) (h : gx_V G u) : gx_V G U :=
  ⟨fun w hm ho => gx_ok_warm ho hW (h.1 w hm ho), va_K.moved hW.alike h.2.1, h.2.2⟩
def gx_H (G : gx_G) (C M : gx_S) (o : Int64) (d : UInt64) (H : Heap) : Prop := va_P G.1 vwCl (gx_ws G C M o d) H ∧ G.2.2.2 ≤ H.size
/-- the world at a state -/
def gx_U (G : gx_G) (C M : gx_S) (o : Int64) (d : UInt64) (U : State) : Prop := gx_V G U ∧ gx_H G C M o d U.heap
/-- the world at a point of a walk that began with the heap H0 -/
def gx_at (G : gx_G) (C M : gx_S) (o : Int64) (d : UInt64) (H0 H : Heap) (locs : List Loc) : Prop := va_P G.1 vwCl (gx_ws G C M o d) H ∧ va_S (gx_A G) H0 H locs ∧ G.2.2.2 ≤ H0.size
theorem gx_at.H {G : gx_G} {C M : gx_S} {o : Int64} {d : UInt64} {H0 H : Heap} {locs : List Loc} (h : gx_at G C M o d H0 H locs) : gx_H G C M o d H := ⟨h.1, Nat.le_trans h.2.2 h.2.1.1⟩
theorem gx_U.at {G : gx_G} {C M : gx_S} {o : Int64} {d : UInt64} {U : State} (h : gx_U G C M o d U) : gx_at G C M o d U.heap U.heap [] := ⟨h.2.1, va_S.rf, h.2.2⟩
theorem gx_blind {G : gx_G} {C M : gx_S} {o : Int64} {d : UInt64} {av : List Value} : FrameBlind (va_Pc av (gx_U G C M o d)) := fun _ U g mk q => ⟨q.1, gx_V.same (u := U) (U := U.calling g mk _) rfl q.2.1, q.2.2⟩
theorem gx_go {G : gx_G} {C M : gx_S} {o : Int64} {d : UInt64} {s : State} {H : Heap} {locs : List Loc} (hV : gx_V G s) (hw : gx_at G C M o d s.heap H locs) (U : State) (hU : U.heap = H) (hW : s.WarmedH U.vm) : gx_U G C M o d U := ⟨gx_V.warm hW hV, by rw [hU]; exact hw.H⟩
