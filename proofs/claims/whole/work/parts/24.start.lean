/-! THE START: the law from its entry to its loop (gen8.py) -/
def gx_adr (L3 K KM : List Nat) (c0 c1 c2 c3 : Nat) (k : Nat) : Nat := gx_ad [gx_ad K 0, gx_ad K 1, gx_ad K 2, gx_ad K 3, gx_ad K 4, gx_ad K 5, gx_ad K 6, gx_ad K 7, gx_ad K 8, gx_ad K 9, gx_ad K 10, gx_ad K 11, gx_ad L3 0, gx_ad L3 1, gx_ad L3 2, gx_ad L3 3, gx_ad L3 4, gx_ad L3 5, gx_ad L3 6, gx_ad L3 7, gx_ad L3 8, gx_ad L3 9, gx_ad L3 10, gx_ad L3 11, gx_ad L3 12, gx_ad L3 13, gx_ad L3 14, gx_ad L3 15, gx_ad L3 16, gx_ad L3 17, gx_ad L3 18, gx_ad L3 19, gx_ad L3 20, gx_ad L3 21, gx_ad L3 22, gx_ad L3 23, gx_ad L3 24, gx_ad L3 25, gx_ad L3 26, gx_ad L3 27, gx_ad L3 28, gx_ad L3 29, gx_ad L3 30, gx_ad L3 31, c0, gx_ad K 24, gx_ad K 12, gx_ad K 13, gx_ad K 14, gx_ad K 15, gx_ad K 16, gx_ad K 17, gx_ad K 18, gx_ad K 19, gx_ad K 20, gx_ad K 21, gx_ad K 22, gx_ad K 23, c1, gx_ad KM 0, gx_ad KM 1, gx_ad KM 2, gx_ad KM 3, gx_ad KM 4, gx_ad KM 5, gx_ad KM 6, gx_ad KM 7, gx_ad KM 8, c2, c3] k
def gx_prm : List Nat := [1, 2, 3, 4, 5, 6, 7, 8, 9, 10, 11, 12, 15, 16, 17, 18, 19, 20, 21, 22, 23, 24, 25, 26, 27, 28, 29, 30, 31, 32, 33, 34, 35, 36, 37, 38, 39, 40, 41, 42, 43, 44, 45, 46, 0, 57, 13, 14, 47, 48, 49, 50, 51, 52, 53, 54, 55, 56, 58, 59, 60, 61, 62, 63, 64, 65, 66, 67, 68, 69]
def gx_fw (D : va_G) (cls : Nat → ClassId) (L3 K KM : List Nat) (c0 c1 c2 c3 : Nat) : va_W := (((([] ++ gx_gl (D, (fun _ => 0), cls, 0) c0 L3 K) ++ gx_ml (D, (fun _ => 0), cls, 0) c1 KM) ++ [(c2, .inl (cls 4, 1, .inr (.inl (fun _ => 0))))]) ++ [(c3, .inl (cls 5, 1, .inr (.inr (.inr (.inl (fun _ => 0))))))] : va_W).set 14 (gx_ad K 13, .inl (cls 3, 8, .inr (.inr (.inr (.inr (fun n => some (gx_adr L3 K KM c0 c1 c2 c3 (12 + 4 * n))))))))
def gx_fx (D : va_G) (cls : Nat → ClassId) (L3 K KM : List Nat) (c0 c1 c2 c3 : Nat) : va_W := [(c0, .inr (8, [.ref (gx_ad K 0), .ref (gx_ad K 4), .ref (gx_ad K 8), .int (gx_boo 0), .ref (gx_ad K 12), .ref (gx_ad K 14), .ref (gx_ad K 17), .ref (gx_ad K 19), .int 0, .ref (gx_ad K 20), .int (-1), .ref (gx_ad K 24), .int 0])), (gx_ad K 0, .inr (7, [.ref (gx_ad K 1), .ref (gx_ad K 2), .ref (gx_ad K 3), .int 0, .int 2, .int (-1), .int 0, .int 0, .int 0])), (gx_ad K 1, .inl (cls 0, 32, .inl (fun _ => 0))), (gx_ad K 2, .inl (cls 0, 7, .inl (fun n => gx_str n))), (gx_ad K 3, .inl (cls 0, 42, .inl (fun _ => -1))), (gx_ad K 4, .inr (7, [.ref (gx_ad K 5), .ref (gx_ad K 6), .ref (gx_ad K 7), .int 0, .int 2, .int (-1), .int 0, .int 0, .int 0])), (gx_ad K 5, .inl (cls 0, 32, .inl (fun _ => 0))), (gx_ad K 6, .inl (cls 0, 7, .inl (fun n => gx_str n))), (gx_ad K 7, .inl (cls 0, 42, .inl (fun _ => -1))), (gx_ad K 8, .inr (7, [.ref (gx_ad K 9), .ref (gx_ad K 10), .ref (gx_ad K 11), .int 0, .int 2, .int (-1), .int 0, .int 0, .int 0])), (gx_ad K 9, .inl (cls 0, 32, .inl (fun _ => 0))), (gx_ad K 10, .inl (cls 0, 7, .inl (fun n => gx_str n))), (gx_ad K 11, .inl (cls 0, 42, .inl (fun _ => -1))), (gx_ad K 12, .inr (4, [.ref (gx_ad K 13), .int 0, .int 0])), (gx_ad K 13, .inl (cls 3, 8, .inr (.inr (.inr (.inr (fun n => some (gx_adr L3 K KM c0 c1 c2 c3 (12 + 4 * n)))))))), (gx_ad L3 0, .inr (7, [.ref (gx_ad L3 1), .ref (gx_ad L3 2), .ref (gx_ad L3 3), .int 0, .int 2, .int (-1), .int 0, .int 0, .int 0])), (gx_ad L3 1, .inl (cls 0, 32, .inl (fun _ => 0))), (gx_ad L3 2, .inl (cls 0, 7, .inl (fun n => gx_str n))), (gx_ad L3 3, .inl (cls 0, 42, .inl (fun _ => -1))), (gx_ad L3 4, .inr (7, [.ref (gx_ad L3 5), .ref (gx_ad L3 6), .ref (gx_ad L3 7), .int 0, .int 2, .int (-1), .int 0, .int 0, .int 0])), (gx_ad L3 5, .inl (cls 0, 32, .inl (fun _ => 0))), (gx_ad L3 6, .inl (cls 0, 7, .inl (fun n => gx_str n))), (gx_ad L3 7, .inl (cls 0, 42, .inl (fun _ => -1))), (gx_ad L3 8, .inr (7, [.ref (gx_ad L3 9), .ref (gx_ad L3 10), .ref (gx_ad L3 11), .int 0, .int 2, .int (-1), .int 0, .int 0, .int 0])), (gx_ad L3 9, .inl (cls 0, 32, .inl (fun _ => 0))), (gx_ad L3 10, .inl (cls 0, 7, .inl (fun n => gx_str n))), (gx_ad L3 11, .inl (cls 0, 42, .inl (fun _ => -1))), (gx_ad L3 12, .inr (7, [.ref (gx_ad L3 13), .ref (gx_ad L3 14), .ref (gx_ad L3 15), .int 0, .int 2, .int (-1), .int 0, .int 0, .int 0])), (gx_ad L3 13, .inl (cls 0, 32, .inl (fun _ => 0))), (gx_ad L3 14, .inl (cls 0, 7, .inl (fun n => gx_str n))), (gx_ad L3 15, .inl (cls 0, 42, .inl (fun _ => -1))), (gx_ad L3 16, .inr (7, [.ref (gx_ad L3 17), .ref (gx_ad L3 18), .ref (gx_ad L3 19), .int 0, .int 2, .int (-1), .int 0, .int 0, .int 0])), (gx_ad L3 17, .inl (cls 0, 32, .inl (fun _ => 0))), (gx_ad L3 18, .inl (cls 0, 7, .inl (fun n => gx_str n))), (gx_ad L3 19, .inl (cls 0, 42, .inl (fun _ => -1))), (gx_ad L3 20, .inr (7, [.ref (gx_ad L3 21), .ref (gx_ad L3 22), .ref (gx_ad L3 23), .int 0, .int 2, .int (-1), .int 0, .int 0, .int 0])), (gx_ad L3 21, .inl (cls 0, 32, .inl (fun _ => 0))), (gx_ad L3 22, .inl (cls 0, 7, .inl (fun n => gx_str n))), (gx_ad L3 23, .inl (cls 0, 42, .inl (fun _ => -1))), (gx_ad L3 24, .inr (7, [.ref (gx_ad L3 25), .ref (gx_ad L3 26), .ref (gx_ad L3 27), .int 0, .int 2, .int (-1), .int 0, .int 0, .int 0])), (gx_ad L3 25, .inl (cls 0, 32, .inl (fun _ => 0))), (gx_ad L3 26, .inl (cls 0, 7, .inl (fun n => gx_str n))), (gx_ad L3 27, .inl (cls 0, 42, .inl (fun _ => -1))), (gx_ad L3 28, .inr (7, [.ref (gx_ad L3 29), .ref (gx_ad L3 30), .ref (gx_ad L3 31), .int 0, .int 2, .int (-1), .int 0, .int 0, .int 0])), (gx_ad L3 29, .inl (cls 0, 32, .inl (fun _ => 0))), (gx_ad L3 30, .inl (cls 0, 7, .inl (fun n => gx_str n))), (gx_ad L3 31, .inl (cls 0, 42, .inl (fun _ => -1))), (gx_ad K 14, .inr (2, [.ref (gx_ad K 15), .ref (gx_ad K 16), .int 0])), (gx_ad K 15, .inl (cls 2, 42, .inl (fun _ => gx_boo 0))), (gx_ad K 16, .inl (cls 0, 42, .inl (fun _ => 0))), (gx_ad K 17, .inr (3, [.ref (gx_ad K 18), .int (-1), .int (-1)])), (gx_ad K 18, .inl (cls 0, 4, .inl (fun _ => 0))), (gx_ad K 19, .inr (5, [.ref (gx_ad K 14), .ref (gx_ad K 17), .int 0, .int 0])), (gx_ad K 20, .inr (6, [.ref (gx_ad K 21), .ref (gx_ad K 22), .ref (gx_ad K 23), .int 0, .int 0, .int 0])), (gx_ad K 21, .inl (cls 1, 60, .inl (fun _ => gx_chr 0))), (gx_ad K 22, .inl (cls 1, 30, .inl (fun _ => gx_chr 0))), (gx_ad K 23, .inl (cls 0, 120, .inl (fun _ => 0))), (gx_ad K 24, .inl (cls 1, 28, .inl (fun _ => gx_chr 0))), (c1, .inr (9, [.ref (gx_ad KM 0), .ref (gx_ad KM 1), .ref (gx_ad KM 2), .ref (gx_ad KM 3), .ref (gx_ad KM 4), .int (gx_boo 0), .int 0, .int (gx_boo 0), .int 0, .int 0, .int 0, .int 0, .int 0, .ref (gx_ad KM 5), .int 0, .int (-1), .ref (gx_ad KM 6), .int 0, .ref (gx_ad KM 7), .int 0, .ref (gx_ad KM 8), .int 0])), (gx_ad KM 0, .inl (cls 0, 87, .inl (fun n => gx_g0 n))), (gx_ad KM 1, .inl (cls 0, 696, .inl (fun _ => 0))), (gx_ad KM 2, .inl (cls 0, 87, .inl (fun _ => 0))), (gx_ad KM 3, .inl (cls 0, 87, .inl (fun _ => 0))), (gx_ad KM 4, .inl (cls 0, 87, .inl (fun _ => 0))), (gx_ad KM 5, .inl (cls 0, 60, .inl (fun _ => 0))), (gx_ad KM 6, .inl (cls 1, 32, .inl (fun _ => gx_chr 0))), (gx_ad KM 7, .inl (cls 2, 42, .inl (fun _ => gx_boo 0))), (gx_ad KM 8, .inl (cls 0, 186, .inl (fun _ => 0))), (c2, .inl (cls 4, 1, .inr (.inl (fun _ => 0)))), (c3, .inl (cls 5, 1, .inr (.inr (.inr (.inl (fun _ => 0))))))]
set_option maxRecDepth 100000 in
theorem gx_fx_eq (D : va_G) (cls : Nat → ClassId) (L3 K KM : List Nat) (c0 c1 c2 c3 : Nat) : gx_fw D cls L3 K KM c0 c1 c2 c3 = gx_fx D cls L3 K KM c0 c1 c2 c3 := by
  simp only [gx_fw, gx_fx, gx_gl, gx_hl, gx_wl, gx_ml, List.nil_append, List.cons_append, List.append_assoc, List.set_cons_succ, List.set_cons_zero]
theorem gx_pm0 (D : va_G) (cls : Nat → ClassId) (L3 K KM : List Nat) (c0 c1 c2 c3 sz : Nat) : (gx_fx D cls L3 K KM c0 c1 c2 c3)[1]? = some (gx_adr L3 K KM c0 c1 c2 c3 0, gx_cell (D, gx_adr L3 K KM c0 c1 c2 c3, cls, sz) (gx_I0, gx_V0s) (gx_J0, gx_U0) 0 0 0) := by
  rw [show gx_cell (D, gx_adr L3 K KM c0 c1 c2 c3, cls, sz) (gx_I0, gx_V0s) (gx_J0, gx_U0) 0 0 0 = .inr (7, [.ref (gx_adr L3 K KM c0 c1 c2 c3 1), .ref (gx_adr L3 K KM c0 c1 c2 c3 2), .ref (gx_adr L3 K KM c0 c1 c2 c3 3), .int 0, .int 2, .int (-1), .int 0, .int 0, .int 0]) by simp [gx_cell, gx_I0, gx_V0s, gx_J0, gx_U0, gx_mlen]]
  rfl
theorem gx_pm1 (D : va_G) (cls : Nat → ClassId) (L3 K KM : List Nat) (c0 c1 c2 c3 sz : Nat) : (gx_fx D cls L3 K KM c0 c1 c2 c3)[2]? = some (gx_adr L3 K KM c0 c1 c2 c3 1, gx_cell (D, gx_adr L3 K KM c0 c1 c2 c3, cls, sz) (gx_I0, gx_V0s) (gx_J0, gx_U0) 0 0 1) := by
  rw [show gx_cell (D, gx_adr L3 K KM c0 c1 c2 c3, cls, sz) (gx_I0, gx_V0s) (gx_J0, gx_U0) 0 0 1 = .inl (cls 0, 32, .inl (fun _ => 0)) by simp [gx_cell, gx_I0, gx_V0s, gx_J0, gx_U0, gx_mlen]; funext n; simp [gx_V0s, gx_U0]]
  rfl
theorem gx_pm2 (D : va_G) (cls : Nat → ClassId) (L3 K KM : List Nat) (c0 c1 c2 c3 sz : Nat) : (gx_fx D cls L3 K KM c0 c1 c2 c3)[3]? = some (gx_adr L3 K KM c0 c1 c2 c3 2, gx_cell (D, gx_adr L3 K KM c0 c1 c2 c3, cls, sz) (gx_I0, gx_V0s) (gx_J0, gx_U0) 0 0 2) := by
  rw [show gx_cell (D, gx_adr L3 K KM c0 c1 c2 c3, cls, sz) (gx_I0, gx_V0s) (gx_J0, gx_U0) 0 0 2 = .inl (cls 0, 7, .inl (fun n => gx_str n)) by simp [gx_cell, gx_I0, gx_V0s, gx_J0, gx_U0, gx_mlen]; funext n; simp [gx_V0s, gx_U0]]
  rfl
theorem gx_pm3 (D : va_G) (cls : Nat → ClassId) (L3 K KM : List Nat) (c0 c1 c2 c3 sz : Nat) : (gx_fx D cls L3 K KM c0 c1 c2 c3)[4]? = some (gx_adr L3 K KM c0 c1 c2 c3 3, gx_cell (D, gx_adr L3 K KM c0 c1 c2 c3, cls, sz) (gx_I0, gx_V0s) (gx_J0, gx_U0) 0 0 3) := by
  rw [show gx_cell (D, gx_adr L3 K KM c0 c1 c2 c3, cls, sz) (gx_I0, gx_V0s) (gx_J0, gx_U0) 0 0 3 = .inl (cls 0, 42, .inl (fun _ => -1)) by simp [gx_cell, gx_I0, gx_V0s, gx_J0, gx_U0, gx_mlen]; funext n; simp [gx_V0s, gx_U0]]
  rfl
theorem gx_pm4 (D : va_G) (cls : Nat → ClassId) (L3 K KM : List Nat) (c0 c1 c2 c3 sz : Nat) : (gx_fx D cls L3 K KM c0 c1 c2 c3)[5]? = some (gx_adr L3 K KM c0 c1 c2 c3 4, gx_cell (D, gx_adr L3 K KM c0 c1 c2 c3, cls, sz) (gx_I0, gx_V0s) (gx_J0, gx_U0) 0 0 4) := by
  rw [show gx_cell (D, gx_adr L3 K KM c0 c1 c2 c3, cls, sz) (gx_I0, gx_V0s) (gx_J0, gx_U0) 0 0 4 = .inr (7, [.ref (gx_adr L3 K KM c0 c1 c2 c3 5), .ref (gx_adr L3 K KM c0 c1 c2 c3 6), .ref (gx_adr L3 K KM c0 c1 c2 c3 7), .int 0, .int 2, .int (-1), .int 0, .int 0, .int 0]) by simp [gx_cell, gx_I0, gx_V0s, gx_J0, gx_U0, gx_mlen]]
  rfl
theorem gx_pm5 (D : va_G) (cls : Nat → ClassId) (L3 K KM : List Nat) (c0 c1 c2 c3 sz : Nat) : (gx_fx D cls L3 K KM c0 c1 c2 c3)[6]? = some (gx_adr L3 K KM c0 c1 c2 c3 5, gx_cell (D, gx_adr L3 K KM c0 c1 c2 c3, cls, sz) (gx_I0, gx_V0s) (gx_J0, gx_U0) 0 0 5) := by
  rw [show gx_cell (D, gx_adr L3 K KM c0 c1 c2 c3, cls, sz) (gx_I0, gx_V0s) (gx_J0, gx_U0) 0 0 5 = .inl (cls 0, 32, .inl (fun _ => 0)) by simp [gx_cell, gx_I0, gx_V0s, gx_J0, gx_U0, gx_mlen]; funext n; simp [gx_V0s, gx_U0]]
  rfl
theorem gx_pm6 (D : va_G) (cls : Nat → ClassId) (L3 K KM : List Nat) (c0 c1 c2 c3 sz : Nat) : (gx_fx D cls L3 K KM c0 c1 c2 c3)[7]? = some (gx_adr L3 K KM c0 c1 c2 c3 6, gx_cell (D, gx_adr L3 K KM c0 c1 c2 c3, cls, sz) (gx_I0, gx_V0s) (gx_J0, gx_U0) 0 0 6) := by
  rw [show gx_cell (D, gx_adr L3 K KM c0 c1 c2 c3, cls, sz) (gx_I0, gx_V0s) (gx_J0, gx_U0) 0 0 6 = .inl (cls 0, 7, .inl (fun n => gx_str n)) by simp [gx_cell, gx_I0, gx_V0s, gx_J0, gx_U0, gx_mlen]; funext n; simp [gx_V0s, gx_U0]]
  rfl
theorem gx_pm7 (D : va_G) (cls : Nat → ClassId) (L3 K KM : List Nat) (c0 c1 c2 c3 sz : Nat) : (gx_fx D cls L3 K KM c0 c1 c2 c3)[8]? = some (gx_adr L3 K KM c0 c1 c2 c3 7, gx_cell (D, gx_adr L3 K KM c0 c1 c2 c3, cls, sz) (gx_I0, gx_V0s) (gx_J0, gx_U0) 0 0 7) := by
  rw [show gx_cell (D, gx_adr L3 K KM c0 c1 c2 c3, cls, sz) (gx_I0, gx_V0s) (gx_J0, gx_U0) 0 0 7 = .inl (cls 0, 42, .inl (fun _ => -1)) by simp [gx_cell, gx_I0, gx_V0s, gx_J0, gx_U0, gx_mlen]; funext n; simp [gx_V0s, gx_U0]]
  rfl
theorem gx_pm8 (D : va_G) (cls : Nat → ClassId) (L3 K KM : List Nat) (c0 c1 c2 c3 sz : Nat) : (gx_fx D cls L3 K KM c0 c1 c2 c3)[9]? = some (gx_adr L3 K KM c0 c1 c2 c3 8, gx_cell (D, gx_adr L3 K KM c0 c1 c2 c3, cls, sz) (gx_I0, gx_V0s) (gx_J0, gx_U0) 0 0 8) := by
  rw [show gx_cell (D, gx_adr L3 K KM c0 c1 c2 c3, cls, sz) (gx_I0, gx_V0s) (gx_J0, gx_U0) 0 0 8 = .inr (7, [.ref (gx_adr L3 K KM c0 c1 c2 c3 9), .ref (gx_adr L3 K KM c0 c1 c2 c3 10), .ref (gx_adr L3 K KM c0 c1 c2 c3 11), .int 0, .int 2, .int (-1), .int 0, .int 0, .int 0]) by simp [gx_cell, gx_I0, gx_V0s, gx_J0, gx_U0, gx_mlen]]
  rfl
theorem gx_pm9 (D : va_G) (cls : Nat → ClassId) (L3 K KM : List Nat) (c0 c1 c2 c3 sz : Nat) : (gx_fx D cls L3 K KM c0 c1 c2 c3)[10]? = some (gx_adr L3 K KM c0 c1 c2 c3 9, gx_cell (D, gx_adr L3 K KM c0 c1 c2 c3, cls, sz) (gx_I0, gx_V0s) (gx_J0, gx_U0) 0 0 9) := by
  rw [show gx_cell (D, gx_adr L3 K KM c0 c1 c2 c3, cls, sz) (gx_I0, gx_V0s) (gx_J0, gx_U0) 0 0 9 = .inl (cls 0, 32, .inl (fun _ => 0)) by simp [gx_cell, gx_I0, gx_V0s, gx_J0, gx_U0, gx_mlen]; funext n; simp [gx_V0s, gx_U0]]
  rfl
theorem gx_pm10 (D : va_G) (cls : Nat → ClassId) (L3 K KM : List Nat) (c0 c1 c2 c3 sz : Nat) : (gx_fx D cls L3 K KM c0 c1 c2 c3)[11]? = some (gx_adr L3 K KM c0 c1 c2 c3 10, gx_cell (D, gx_adr L3 K KM c0 c1 c2 c3, cls, sz) (gx_I0, gx_V0s) (gx_J0, gx_U0) 0 0 10) := by
  rw [show gx_cell (D, gx_adr L3 K KM c0 c1 c2 c3, cls, sz) (gx_I0, gx_V0s) (gx_J0, gx_U0) 0 0 10 = .inl (cls 0, 7, .inl (fun n => gx_str n)) by simp [gx_cell, gx_I0, gx_V0s, gx_J0, gx_U0, gx_mlen]; funext n; simp [gx_V0s, gx_U0]]
  rfl
theorem gx_pm11 (D : va_G) (cls : Nat → ClassId) (L3 K KM : List Nat) (c0 c1 c2 c3 sz : Nat) : (gx_fx D cls L3 K KM c0 c1 c2 c3)[12]? = some (gx_adr L3 K KM c0 c1 c2 c3 11, gx_cell (D, gx_adr L3 K KM c0 c1 c2 c3, cls, sz) (gx_I0, gx_V0s) (gx_J0, gx_U0) 0 0 11) := by
  rw [show gx_cell (D, gx_adr L3 K KM c0 c1 c2 c3, cls, sz) (gx_I0, gx_V0s) (gx_J0, gx_U0) 0 0 11 = .inl (cls 0, 42, .inl (fun _ => -1)) by simp [gx_cell, gx_I0, gx_V0s, gx_J0, gx_U0, gx_mlen]; funext n; simp [gx_V0s, gx_U0]]
  rfl
theorem gx_pm12 (D : va_G) (cls : Nat → ClassId) (L3 K KM : List Nat) (c0 c1 c2 c3 sz : Nat) : (gx_fx D cls L3 K KM c0 c1 c2 c3)[15]? = some (gx_adr L3 K KM c0 c1 c2 c3 12, gx_cell (D, gx_adr L3 K KM c0 c1 c2 c3, cls, sz) (gx_I0, gx_V0s) (gx_J0, gx_U0) 0 0 12) := by
  rw [show gx_cell (D, gx_adr L3 K KM c0 c1 c2 c3, cls, sz) (gx_I0, gx_V0s) (gx_J0, gx_U0) 0 0 12 = .inr (7, [.ref (gx_adr L3 K KM c0 c1 c2 c3 13), .ref (gx_adr L3 K KM c0 c1 c2 c3 14), .ref (gx_adr L3 K KM c0 c1 c2 c3 15), .int 0, .int 2, .int (-1), .int 0, .int 0, .int 0]) by simp [gx_cell, gx_I0, gx_V0s, gx_J0, gx_U0, gx_mlen]]
  rfl
theorem gx_pm13 (D : va_G) (cls : Nat → ClassId) (L3 K KM : List Nat) (c0 c1 c2 c3 sz : Nat) : (gx_fx D cls L3 K KM c0 c1 c2 c3)[16]? = some (gx_adr L3 K KM c0 c1 c2 c3 13, gx_cell (D, gx_adr L3 K KM c0 c1 c2 c3, cls, sz) (gx_I0, gx_V0s) (gx_J0, gx_U0) 0 0 13) := by
  rw [show gx_cell (D, gx_adr L3 K KM c0 c1 c2 c3, cls, sz) (gx_I0, gx_V0s) (gx_J0, gx_U0) 0 0 13 = .inl (cls 0, 32, .inl (fun _ => 0)) by simp [gx_cell, gx_I0, gx_V0s, gx_J0, gx_U0, gx_mlen]; funext n; simp [gx_V0s, gx_U0]]
  rfl
theorem gx_pm14 (D : va_G) (cls : Nat → ClassId) (L3 K KM : List Nat) (c0 c1 c2 c3 sz : Nat) : (gx_fx D cls L3 K KM c0 c1 c2 c3)[17]? = some (gx_adr L3 K KM c0 c1 c2 c3 14, gx_cell (D, gx_adr L3 K KM c0 c1 c2 c3, cls, sz) (gx_I0, gx_V0s) (gx_J0, gx_U0) 0 0 14) := by
  rw [show gx_cell (D, gx_adr L3 K KM c0 c1 c2 c3, cls, sz) (gx_I0, gx_V0s) (gx_J0, gx_U0) 0 0 14 = .inl (cls 0, 7, .inl (fun n => gx_str n)) by simp [gx_cell, gx_I0, gx_V0s, gx_J0, gx_U0, gx_mlen]; funext n; simp [gx_V0s, gx_U0]]
  rfl
theorem gx_pm15 (D : va_G) (cls : Nat → ClassId) (L3 K KM : List Nat) (c0 c1 c2 c3 sz : Nat) : (gx_fx D cls L3 K KM c0 c1 c2 c3)[18]? = some (gx_adr L3 K KM c0 c1 c2 c3 15, gx_cell (D, gx_adr L3 K KM c0 c1 c2 c3, cls, sz) (gx_I0, gx_V0s) (gx_J0, gx_U0) 0 0 15) := by
  rw [show gx_cell (D, gx_adr L3 K KM c0 c1 c2 c3, cls, sz) (gx_I0, gx_V0s) (gx_J0, gx_U0) 0 0 15 = .inl (cls 0, 42, .inl (fun _ => -1)) by simp [gx_cell, gx_I0, gx_V0s, gx_J0, gx_U0, gx_mlen]; funext n; simp [gx_V0s, gx_U0]]
  rfl
theorem gx_pm16 (D : va_G) (cls : Nat → ClassId) (L3 K KM : List Nat) (c0 c1 c2 c3 sz : Nat) : (gx_fx D cls L3 K KM c0 c1 c2 c3)[19]? = some (gx_adr L3 K KM c0 c1 c2 c3 16, gx_cell (D, gx_adr L3 K KM c0 c1 c2 c3, cls, sz) (gx_I0, gx_V0s) (gx_J0, gx_U0) 0 0 16) := by
  rw [show gx_cell (D, gx_adr L3 K KM c0 c1 c2 c3, cls, sz) (gx_I0, gx_V0s) (gx_J0, gx_U0) 0 0 16 = .inr (7, [.ref (gx_adr L3 K KM c0 c1 c2 c3 17), .ref (gx_adr L3 K KM c0 c1 c2 c3 18), .ref (gx_adr L3 K KM c0 c1 c2 c3 19), .int 0, .int 2, .int (-1), .int 0, .int 0, .int 0]) by simp [gx_cell, gx_I0, gx_V0s, gx_J0, gx_U0, gx_mlen]]
  rfl
theorem gx_pm17 (D : va_G) (cls : Nat → ClassId) (L3 K KM : List Nat) (c0 c1 c2 c3 sz : Nat) : (gx_fx D cls L3 K KM c0 c1 c2 c3)[20]? = some (gx_adr L3 K KM c0 c1 c2 c3 17, gx_cell (D, gx_adr L3 K KM c0 c1 c2 c3, cls, sz) (gx_I0, gx_V0s) (gx_J0, gx_U0) 0 0 17) := by
  rw [show gx_cell (D, gx_adr L3 K KM c0 c1 c2 c3, cls, sz) (gx_I0, gx_V0s) (gx_J0, gx_U0) 0 0 17 = .inl (cls 0, 32, .inl (fun _ => 0)) by simp [gx_cell, gx_I0, gx_V0s, gx_J0, gx_U0, gx_mlen]; funext n; simp [gx_V0s, gx_U0]]
  rfl
theorem gx_pm18 (D : va_G) (cls : Nat → ClassId) (L3 K KM : List Nat) (c0 c1 c2 c3 sz : Nat) : (gx_fx D cls L3 K KM c0 c1 c2 c3)[21]? = some (gx_adr L3 K KM c0 c1 c2 c3 18, gx_cell (D, gx_adr L3 K KM c0 c1 c2 c3, cls, sz) (gx_I0, gx_V0s) (gx_J0, gx_U0) 0 0 18) := by
  rw [show gx_cell (D, gx_adr L3 K KM c0 c1 c2 c3, cls, sz) (gx_I0, gx_V0s) (gx_J0, gx_U0) 0 0 18 = .inl (cls 0, 7, .inl (fun n => gx_str n)) by simp [gx_cell, gx_I0, gx_V0s, gx_J0, gx_U0, gx_mlen]; funext n; simp [gx_V0s, gx_U0]]
  rfl
theorem gx_pm19 (D : va_G) (cls : Nat → ClassId) (L3 K KM : List Nat) (c0 c1 c2 c3 sz : Nat) : (gx_fx D cls L3 K KM c0 c1 c2 c3)[22]? = some (gx_adr L3 K KM c0 c1 c2 c3 19, gx_cell (D, gx_adr L3 K KM c0 c1 c2 c3, cls, sz) (gx_I0, gx_V0s) (gx_J0, gx_U0) 0 0 19) := by
  rw [show gx_cell (D, gx_adr L3 K KM c0 c1 c2 c3, cls, sz) (gx_I0, gx_V0s) (gx_J0, gx_U0) 0 0 19 = .inl (cls 0, 42, .inl (fun _ => -1)) by simp [gx_cell, gx_I0, gx_V0s, gx_J0, gx_U0, gx_mlen]; funext n; simp [gx_V0s, gx_U0]]
  rfl
theorem gx_pm20 (D : va_G) (cls : Nat → ClassId) (L3 K KM : List Nat) (c0 c1 c2 c3 sz : Nat) : (gx_fx D cls L3 K KM c0 c1 c2 c3)[23]? = some (gx_adr L3 K KM c0 c1 c2 c3 20, gx_cell (D, gx_adr L3 K KM c0 c1 c2 c3, cls, sz) (gx_I0, gx_V0s) (gx_J0, gx_U0) 0 0 20) := by
  rw [show gx_cell (D, gx_adr L3 K KM c0 c1 c2 c3, cls, sz) (gx_I0, gx_V0s) (gx_J0, gx_U0) 0 0 20 = .inr (7, [.ref (gx_adr L3 K KM c0 c1 c2 c3 21), .ref (gx_adr L3 K KM c0 c1 c2 c3 22), .ref (gx_adr L3 K KM c0 c1 c2 c3 23), .int 0, .int 2, .int (-1), .int 0, .int 0, .int 0]) by simp [gx_cell, gx_I0, gx_V0s, gx_J0, gx_U0, gx_mlen]]
  rfl
theorem gx_pm21 (D : va_G) (cls : Nat → ClassId) (L3 K KM : List Nat) (c0 c1 c2 c3 sz : Nat) : (gx_fx D cls L3 K KM c0 c1 c2 c3)[24]? = some (gx_adr L3 K KM c0 c1 c2 c3 21, gx_cell (D, gx_adr L3 K KM c0 c1 c2 c3, cls, sz) (gx_I0, gx_V0s) (gx_J0, gx_U0) 0 0 21) := by
  rw [show gx_cell (D, gx_adr L3 K KM c0 c1 c2 c3, cls, sz) (gx_I0, gx_V0s) (gx_J0, gx_U0) 0 0 21 = .inl (cls 0, 32, .inl (fun _ => 0)) by simp [gx_cell, gx_I0, gx_V0s, gx_J0, gx_U0, gx_mlen]; funext n; simp [gx_V0s, gx_U0]]
  rfl
theorem gx_pm22 (D : va_G) (cls : Nat → ClassId) (L3 K KM : List Nat) (c0 c1 c2 c3 sz : Nat) : (gx_fx D cls L3 K KM c0 c1 c2 c3)[25]? = some (gx_adr L3 K KM c0 c1 c2 c3 22, gx_cell (D, gx_adr L3 K KM c0 c1 c2 c3, cls, sz) (gx_I0, gx_V0s) (gx_J0, gx_U0) 0 0 22) := by
  rw [show gx_cell (D, gx_adr L3 K KM c0 c1 c2 c3, cls, sz) (gx_I0, gx_V0s) (gx_J0, gx_U0) 0 0 22 = .inl (cls 0, 7, .inl (fun n => gx_str n)) by simp [gx_cell, gx_I0, gx_V0s, gx_J0, gx_U0, gx_mlen]; funext n; simp [gx_V0s, gx_U0]]
  rfl
theorem gx_pm23 (D : va_G) (cls : Nat → ClassId) (L3 K KM : List Nat) (c0 c1 c2 c3 sz : Nat) : (gx_fx D cls L3 K KM c0 c1 c2 c3)[26]? = some (gx_adr L3 K KM c0 c1 c2 c3 23, gx_cell (D, gx_adr L3 K KM c0 c1 c2 c3, cls, sz) (gx_I0, gx_V0s) (gx_J0, gx_U0) 0 0 23) := by
  rw [show gx_cell (D, gx_adr L3 K KM c0 c1 c2 c3, cls, sz) (gx_I0, gx_V0s) (gx_J0, gx_U0) 0 0 23 = .inl (cls 0, 42, .inl (fun _ => -1)) by simp [gx_cell, gx_I0, gx_V0s, gx_J0, gx_U0, gx_mlen]; funext n; simp [gx_V0s, gx_U0]]
  rfl
theorem gx_pm24 (D : va_G) (cls : Nat → ClassId) (L3 K KM : List Nat) (c0 c1 c2 c3 sz : Nat) : (gx_fx D cls L3 K KM c0 c1 c2 c3)[27]? = some (gx_adr L3 K KM c0 c1 c2 c3 24, gx_cell (D, gx_adr L3 K KM c0 c1 c2 c3, cls, sz) (gx_I0, gx_V0s) (gx_J0, gx_U0) 0 0 24) := by
  rw [show gx_cell (D, gx_adr L3 K KM c0 c1 c2 c3, cls, sz) (gx_I0, gx_V0s) (gx_J0, gx_U0) 0 0 24 = .inr (7, [.ref (gx_adr L3 K KM c0 c1 c2 c3 25), .ref (gx_adr L3 K KM c0 c1 c2 c3 26), .ref (gx_adr L3 K KM c0 c1 c2 c3 27), .int 0, .int 2, .int (-1), .int 0, .int 0, .int 0]) by simp [gx_cell, gx_I0, gx_V0s, gx_J0, gx_U0, gx_mlen]]
  rfl
theorem gx_pm25 (D : va_G) (cls : Nat → ClassId) (L3 K KM : List Nat) (c0 c1 c2 c3 sz : Nat) : (gx_fx D cls L3 K KM c0 c1 c2 c3)[28]? = some (gx_adr L3 K KM c0 c1 c2 c3 25, gx_cell (D, gx_adr L3 K KM c0 c1 c2 c3, cls, sz) (gx_I0, gx_V0s) (gx_J0, gx_U0) 0 0 25) := by
  rw [show gx_cell (D, gx_adr L3 K KM c0 c1 c2 c3, cls, sz) (gx_I0, gx_V0s) (gx_J0, gx_U0) 0 0 25 = .inl (cls 0, 32, .inl (fun _ => 0)) by simp [gx_cell, gx_I0, gx_V0s, gx_J0, gx_U0, gx_mlen]; funext n; simp [gx_V0s, gx_U0]]
  rfl
theorem gx_pm26 (D : va_G) (cls : Nat → ClassId) (L3 K KM : List Nat) (c0 c1 c2 c3 sz : Nat) : (gx_fx D cls L3 K KM c0 c1 c2 c3)[29]? = some (gx_adr L3 K KM c0 c1 c2 c3 26, gx_cell (D, gx_adr L3 K KM c0 c1 c2 c3, cls, sz) (gx_I0, gx_V0s) (gx_J0, gx_U0) 0 0 26) := by
  rw [show gx_cell (D, gx_adr L3 K KM c0 c1 c2 c3, cls, sz) (gx_I0, gx_V0s) (gx_J0, gx_U0) 0 0 26 = .inl (cls 0, 7, .inl (fun n => gx_str n)) by simp [gx_cell, gx_I0, gx_V0s, gx_J0, gx_U0, gx_mlen]; funext n; simp [gx_V0s, gx_U0]]
  rfl
theorem gx_pm27 (D : va_G) (cls : Nat → ClassId) (L3 K KM : List Nat) (c0 c1 c2 c3 sz : Nat) : (gx_fx D cls L3 K KM c0 c1 c2 c3)[30]? = some (gx_adr L3 K KM c0 c1 c2 c3 27, gx_cell (D, gx_adr L3 K KM c0 c1 c2 c3, cls, sz) (gx_I0, gx_V0s) (gx_J0, gx_U0) 0 0 27) := by
  rw [show gx_cell (D, gx_adr L3 K KM c0 c1 c2 c3, cls, sz) (gx_I0, gx_V0s) (gx_J0, gx_U0) 0 0 27 = .inl (cls 0, 42, .inl (fun _ => -1)) by simp [gx_cell, gx_I0, gx_V0s, gx_J0, gx_U0, gx_mlen]; funext n; simp [gx_V0s, gx_U0]]
  rfl
theorem gx_pm28 (D : va_G) (cls : Nat → ClassId) (L3 K KM : List Nat) (c0 c1 c2 c3 sz : Nat) : (gx_fx D cls L3 K KM c0 c1 c2 c3)[31]? = some (gx_adr L3 K KM c0 c1 c2 c3 28, gx_cell (D, gx_adr L3 K KM c0 c1 c2 c3, cls, sz) (gx_I0, gx_V0s) (gx_J0, gx_U0) 0 0 28) := by
  rw [show gx_cell (D, gx_adr L3 K KM c0 c1 c2 c3, cls, sz) (gx_I0, gx_V0s) (gx_J0, gx_U0) 0 0 28 = .inr (7, [.ref (gx_adr L3 K KM c0 c1 c2 c3 29), .ref (gx_adr L3 K KM c0 c1 c2 c3 30), .ref (gx_adr L3 K KM c0 c1 c2 c3 31), .int 0, .int 2, .int (-1), .int 0, .int 0, .int 0]) by simp [gx_cell, gx_I0, gx_V0s, gx_J0, gx_U0, gx_mlen]]
  rfl
theorem gx_pm29 (D : va_G) (cls : Nat → ClassId) (L3 K KM : List Nat) (c0 c1 c2 c3 sz : Nat) : (gx_fx D cls L3 K KM c0 c1 c2 c3)[32]? = some (gx_adr L3 K KM c0 c1 c2 c3 29, gx_cell (D, gx_adr L3 K KM c0 c1 c2 c3, cls, sz) (gx_I0, gx_V0s) (gx_J0, gx_U0) 0 0 29) := by
  rw [show gx_cell (D, gx_adr L3 K KM c0 c1 c2 c3, cls, sz) (gx_I0, gx_V0s) (gx_J0, gx_U0) 0 0 29 = .inl (cls 0, 32, .inl (fun _ => 0)) by simp [gx_cell, gx_I0, gx_V0s, gx_J0, gx_U0, gx_mlen]; funext n; simp [gx_V0s, gx_U0]]
  rfl
theorem gx_pm30 (D : va_G) (cls : Nat → ClassId) (L3 K KM : List Nat) (c0 c1 c2 c3 sz : Nat) : (gx_fx D cls L3 K KM c0 c1 c2 c3)[33]? = some (gx_adr L3 K KM c0 c1 c2 c3 30, gx_cell (D, gx_adr L3 K KM c0 c1 c2 c3, cls, sz) (gx_I0, gx_V0s) (gx_J0, gx_U0) 0 0 30) := by
  rw [show gx_cell (D, gx_adr L3 K KM c0 c1 c2 c3, cls, sz) (gx_I0, gx_V0s) (gx_J0, gx_U0) 0 0 30 = .inl (cls 0, 7, .inl (fun n => gx_str n)) by simp [gx_cell, gx_I0, gx_V0s, gx_J0, gx_U0, gx_mlen]; funext n; simp [gx_V0s, gx_U0]]
  rfl
theorem gx_pm31 (D : va_G) (cls : Nat → ClassId) (L3 K KM : List Nat) (c0 c1 c2 c3 sz : Nat) : (gx_fx D cls L3 K KM c0 c1 c2 c3)[34]? = some (gx_adr L3 K KM c0 c1 c2 c3 31, gx_cell (D, gx_adr L3 K KM c0 c1 c2 c3, cls, sz) (gx_I0, gx_V0s) (gx_J0, gx_U0) 0 0 31) := by
  rw [show gx_cell (D, gx_adr L3 K KM c0 c1 c2 c3, cls, sz) (gx_I0, gx_V0s) (gx_J0, gx_U0) 0 0 31 = .inl (cls 0, 42, .inl (fun _ => -1)) by simp [gx_cell, gx_I0, gx_V0s, gx_J0, gx_U0, gx_mlen]; funext n; simp [gx_V0s, gx_U0]]
  rfl
theorem gx_pm32 (D : va_G) (cls : Nat → ClassId) (L3 K KM : List Nat) (c0 c1 c2 c3 sz : Nat) : (gx_fx D cls L3 K KM c0 c1 c2 c3)[35]? = some (gx_adr L3 K KM c0 c1 c2 c3 32, gx_cell (D, gx_adr L3 K KM c0 c1 c2 c3, cls, sz) (gx_I0, gx_V0s) (gx_J0, gx_U0) 0 0 32) := by
  rw [show gx_cell (D, gx_adr L3 K KM c0 c1 c2 c3, cls, sz) (gx_I0, gx_V0s) (gx_J0, gx_U0) 0 0 32 = .inr (7, [.ref (gx_adr L3 K KM c0 c1 c2 c3 33), .ref (gx_adr L3 K KM c0 c1 c2 c3 34), .ref (gx_adr L3 K KM c0 c1 c2 c3 35), .int 0, .int 2, .int (-1), .int 0, .int 0, .int 0]) by simp [gx_cell, gx_I0, gx_V0s, gx_J0, gx_U0, gx_mlen]]
  rfl
theorem gx_pm33 (D : va_G) (cls : Nat → ClassId) (L3 K KM : List Nat) (c0 c1 c2 c3 sz : Nat) : (gx_fx D cls L3 K KM c0 c1 c2 c3)[36]? = some (gx_adr L3 K KM c0 c1 c2 c3 33, gx_cell (D, gx_adr L3 K KM c0 c1 c2 c3, cls, sz) (gx_I0, gx_V0s) (gx_J0, gx_U0) 0 0 33) := by
  rw [show gx_cell (D, gx_adr L3 K KM c0 c1 c2 c3, cls, sz) (gx_I0, gx_V0s) (gx_J0, gx_U0) 0 0 33 = .inl (cls 0, 32, .inl (fun _ => 0)) by simp [gx_cell, gx_I0, gx_V0s, gx_J0, gx_U0, gx_mlen]; funext n; simp [gx_V0s, gx_U0]]
  rfl
theorem gx_pm34 (D : va_G) (cls : Nat → ClassId) (L3 K KM : List Nat) (c0 c1 c2 c3 sz : Nat) : (gx_fx D cls L3 K KM c0 c1 c2 c3)[37]? = some (gx_adr L3 K KM c0 c1 c2 c3 34, gx_cell (D, gx_adr L3 K KM c0 c1 c2 c3, cls, sz) (gx_I0, gx_V0s) (gx_J0, gx_U0) 0 0 34) := by
  rw [show gx_cell (D, gx_adr L3 K KM c0 c1 c2 c3, cls, sz) (gx_I0, gx_V0s) (gx_J0, gx_U0) 0 0 34 = .inl (cls 0, 7, .inl (fun n => gx_str n)) by simp [gx_cell, gx_I0, gx_V0s, gx_J0, gx_U0, gx_mlen]; funext n; simp [gx_V0s, gx_U0]]
  rfl
theorem gx_pm35 (D : va_G) (cls : Nat → ClassId) (L3 K KM : List Nat) (c0 c1 c2 c3 sz : Nat) : (gx_fx D cls L3 K KM c0 c1 c2 c3)[38]? = some (gx_adr L3 K KM c0 c1 c2 c3 35, gx_cell (D, gx_adr L3 K KM c0 c1 c2 c3, cls, sz) (gx_I0, gx_V0s) (gx_J0, gx_U0) 0 0 35) := by
  rw [show gx_cell (D, gx_adr L3 K KM c0 c1 c2 c3, cls, sz) (gx_I0, gx_V0s) (gx_J0, gx_U0) 0 0 35 = .inl (cls 0, 42, .inl (fun _ => -1)) by simp [gx_cell, gx_I0, gx_V0s, gx_J0, gx_U0, gx_mlen]; funext n; simp [gx_V0s, gx_U0]]
  rfl
theorem gx_pm36 (D : va_G) (cls : Nat → ClassId) (L3 K KM : List Nat) (c0 c1 c2 c3 sz : Nat) : (gx_fx D cls L3 K KM c0 c1 c2 c3)[39]? = some (gx_adr L3 K KM c0 c1 c2 c3 36, gx_cell (D, gx_adr L3 K KM c0 c1 c2 c3, cls, sz) (gx_I0, gx_V0s) (gx_J0, gx_U0) 0 0 36) := by
  rw [show gx_cell (D, gx_adr L3 K KM c0 c1 c2 c3, cls, sz) (gx_I0, gx_V0s) (gx_J0, gx_U0) 0 0 36 = .inr (7, [.ref (gx_adr L3 K KM c0 c1 c2 c3 37), .ref (gx_adr L3 K KM c0 c1 c2 c3 38), .ref (gx_adr L3 K KM c0 c1 c2 c3 39), .int 0, .int 2, .int (-1), .int 0, .int 0, .int 0]) by simp [gx_cell, gx_I0, gx_V0s, gx_J0, gx_U0, gx_mlen]]
  rfl
theorem gx_pm37 (D : va_G) (cls : Nat → ClassId) (L3 K KM : List Nat) (c0 c1 c2 c3 sz : Nat) : (gx_fx D cls L3 K KM c0 c1 c2 c3)[40]? = some (gx_adr L3 K KM c0 c1 c2 c3 37, gx_cell (D, gx_adr L3 K KM c0 c1 c2 c3, cls, sz) (gx_I0, gx_V0s) (gx_J0, gx_U0) 0 0 37) := by
  rw [show gx_cell (D, gx_adr L3 K KM c0 c1 c2 c3, cls, sz) (gx_I0, gx_V0s) (gx_J0, gx_U0) 0 0 37 = .inl (cls 0, 32, .inl (fun _ => 0)) by simp [gx_cell, gx_I0, gx_V0s, gx_J0, gx_U0, gx_mlen]; funext n; simp [gx_V0s, gx_U0]]
  rfl
theorem gx_pm38 (D : va_G) (cls : Nat → ClassId) (L3 K KM : List Nat) (c0 c1 c2 c3 sz : Nat) : (gx_fx D cls L3 K KM c0 c1 c2 c3)[41]? = some (gx_adr L3 K KM c0 c1 c2 c3 38, gx_cell (D, gx_adr L3 K KM c0 c1 c2 c3, cls, sz) (gx_I0, gx_V0s) (gx_J0, gx_U0) 0 0 38) := by
  rw [show gx_cell (D, gx_adr L3 K KM c0 c1 c2 c3, cls, sz) (gx_I0, gx_V0s) (gx_J0, gx_U0) 0 0 38 = .inl (cls 0, 7, .inl (fun n => gx_str n)) by simp [gx_cell, gx_I0, gx_V0s, gx_J0, gx_U0, gx_mlen]; funext n; simp [gx_V0s, gx_U0]]
  rfl
theorem gx_pm39 (D : va_G) (cls : Nat → ClassId) (L3 K KM : List Nat) (c0 c1 c2 c3 sz : Nat) : (gx_fx D cls L3 K KM c0 c1 c2 c3)[42]? = some (gx_adr L3 K KM c0 c1 c2 c3 39, gx_cell (D, gx_adr L3 K KM c0 c1 c2 c3, cls, sz) (gx_I0, gx_V0s) (gx_J0, gx_U0) 0 0 39) := by
  rw [show gx_cell (D, gx_adr L3 K KM c0 c1 c2 c3, cls, sz) (gx_I0, gx_V0s) (gx_J0, gx_U0) 0 0 39 = .inl (cls 0, 42, .inl (fun _ => -1)) by simp [gx_cell, gx_I0, gx_V0s, gx_J0, gx_U0, gx_mlen]; funext n; simp [gx_V0s, gx_U0]]
  rfl
theorem gx_pm40 (D : va_G) (cls : Nat → ClassId) (L3 K KM : List Nat) (c0 c1 c2 c3 sz : Nat) : (gx_fx D cls L3 K KM c0 c1 c2 c3)[43]? = some (gx_adr L3 K KM c0 c1 c2 c3 40, gx_cell (D, gx_adr L3 K KM c0 c1 c2 c3, cls, sz) (gx_I0, gx_V0s) (gx_J0, gx_U0) 0 0 40) := by
  rw [show gx_cell (D, gx_adr L3 K KM c0 c1 c2 c3, cls, sz) (gx_I0, gx_V0s) (gx_J0, gx_U0) 0 0 40 = .inr (7, [.ref (gx_adr L3 K KM c0 c1 c2 c3 41), .ref (gx_adr L3 K KM c0 c1 c2 c3 42), .ref (gx_adr L3 K KM c0 c1 c2 c3 43), .int 0, .int 2, .int (-1), .int 0, .int 0, .int 0]) by simp [gx_cell, gx_I0, gx_V0s, gx_J0, gx_U0, gx_mlen]]
  rfl
theorem gx_pm41 (D : va_G) (cls : Nat → ClassId) (L3 K KM : List Nat) (c0 c1 c2 c3 sz : Nat) : (gx_fx D cls L3 K KM c0 c1 c2 c3)[44]? = some (gx_adr L3 K KM c0 c1 c2 c3 41, gx_cell (D, gx_adr L3 K KM c0 c1 c2 c3, cls, sz) (gx_I0, gx_V0s) (gx_J0, gx_U0) 0 0 41) := by
  rw [show gx_cell (D, gx_adr L3 K KM c0 c1 c2 c3, cls, sz) (gx_I0, gx_V0s) (gx_J0, gx_U0) 0 0 41 = .inl (cls 0, 32, .inl (fun _ => 0)) by simp [gx_cell, gx_I0, gx_V0s, gx_J0, gx_U0, gx_mlen]; funext n; simp [gx_V0s, gx_U0]]
  rfl
theorem gx_pm42 (D : va_G) (cls : Nat → ClassId) (L3 K KM : List Nat) (c0 c1 c2 c3 sz : Nat) : (gx_fx D cls L3 K KM c0 c1 c2 c3)[45]? = some (gx_adr L3 K KM c0 c1 c2 c3 42, gx_cell (D, gx_adr L3 K KM c0 c1 c2 c3, cls, sz) (gx_I0, gx_V0s) (gx_J0, gx_U0) 0 0 42) := by
  rw [show gx_cell (D, gx_adr L3 K KM c0 c1 c2 c3, cls, sz) (gx_I0, gx_V0s) (gx_J0, gx_U0) 0 0 42 = .inl (cls 0, 7, .inl (fun n => gx_str n)) by simp [gx_cell, gx_I0, gx_V0s, gx_J0, gx_U0, gx_mlen]; funext n; simp [gx_V0s, gx_U0]]
  rfl
theorem gx_pm43 (D : va_G) (cls : Nat → ClassId) (L3 K KM : List Nat) (c0 c1 c2 c3 sz : Nat) : (gx_fx D cls L3 K KM c0 c1 c2 c3)[46]? = some (gx_adr L3 K KM c0 c1 c2 c3 43, gx_cell (D, gx_adr L3 K KM c0 c1 c2 c3, cls, sz) (gx_I0, gx_V0s) (gx_J0, gx_U0) 0 0 43) := by
  rw [show gx_cell (D, gx_adr L3 K KM c0 c1 c2 c3, cls, sz) (gx_I0, gx_V0s) (gx_J0, gx_U0) 0 0 43 = .inl (cls 0, 42, .inl (fun _ => -1)) by simp [gx_cell, gx_I0, gx_V0s, gx_J0, gx_U0, gx_mlen]; funext n; simp [gx_V0s, gx_U0]]
  rfl
theorem gx_pm44 (D : va_G) (cls : Nat → ClassId) (L3 K KM : List Nat) (c0 c1 c2 c3 sz : Nat) : (gx_fx D cls L3 K KM c0 c1 c2 c3)[0]? = some (gx_adr L3 K KM c0 c1 c2 c3 44, gx_cell (D, gx_adr L3 K KM c0 c1 c2 c3, cls, sz) (gx_I0, gx_V0s) (gx_J0, gx_U0) 0 0 44) := by
  rw [show gx_cell (D, gx_adr L3 K KM c0 c1 c2 c3, cls, sz) (gx_I0, gx_V0s) (gx_J0, gx_U0) 0 0 44 = .inr (8, [.ref (gx_adr L3 K KM c0 c1 c2 c3 0), .ref (gx_adr L3 K KM c0 c1 c2 c3 4), .ref (gx_adr L3 K KM c0 c1 c2 c3 8), .int (gx_boo 0), .ref (gx_adr L3 K KM c0 c1 c2 c3 46), .ref (gx_adr L3 K KM c0 c1 c2 c3 48), .ref (gx_adr L3 K KM c0 c1 c2 c3 51), .ref (gx_adr L3 K KM c0 c1 c2 c3 53), .int 0, .ref (gx_adr L3 K KM c0 c1 c2 c3 54), .int (-1), .ref (gx_adr L3 K KM c0 c1 c2 c3 45), .int 0]) by simp [gx_cell, gx_I0, gx_V0s, gx_J0, gx_U0, gx_mlen]]
  rfl
theorem gx_pm45 (D : va_G) (cls : Nat → ClassId) (L3 K KM : List Nat) (c0 c1 c2 c3 sz : Nat) : (gx_fx D cls L3 K KM c0 c1 c2 c3)[57]? = some (gx_adr L3 K KM c0 c1 c2 c3 45, gx_cell (D, gx_adr L3 K KM c0 c1 c2 c3, cls, sz) (gx_I0, gx_V0s) (gx_J0, gx_U0) 0 0 45) := by
  rw [show gx_cell (D, gx_adr L3 K KM c0 c1 c2 c3, cls, sz) (gx_I0, gx_V0s) (gx_J0, gx_U0) 0 0 45 = .inl (cls 1, 28, .inl (fun _ => gx_chr 0)) by simp [gx_cell, gx_I0, gx_V0s, gx_J0, gx_U0, gx_mlen]]
  rfl
theorem gx_pm46 (D : va_G) (cls : Nat → ClassId) (L3 K KM : List Nat) (c0 c1 c2 c3 sz : Nat) : (gx_fx D cls L3 K KM c0 c1 c2 c3)[13]? = some (gx_adr L3 K KM c0 c1 c2 c3 46, gx_cell (D, gx_adr L3 K KM c0 c1 c2 c3, cls, sz) (gx_I0, gx_V0s) (gx_J0, gx_U0) 0 0 46) := by
  rw [show gx_cell (D, gx_adr L3 K KM c0 c1 c2 c3, cls, sz) (gx_I0, gx_V0s) (gx_J0, gx_U0) 0 0 46 = .inr (4, [.ref (gx_adr L3 K KM c0 c1 c2 c3 47), .int 0, .int 0]) by simp [gx_cell, gx_I0, gx_V0s, gx_J0, gx_U0, gx_mlen]]
  rfl
theorem gx_pm47 (D : va_G) (cls : Nat → ClassId) (L3 K KM : List Nat) (c0 c1 c2 c3 sz : Nat) : (gx_fx D cls L3 K KM c0 c1 c2 c3)[14]? = some (gx_adr L3 K KM c0 c1 c2 c3 47, gx_cell (D, gx_adr L3 K KM c0 c1 c2 c3, cls, sz) (gx_I0, gx_V0s) (gx_J0, gx_U0) 0 0 47) := by
  rw [show gx_cell (D, gx_adr L3 K KM c0 c1 c2 c3, cls, sz) (gx_I0, gx_V0s) (gx_J0, gx_U0) 0 0 47 = .inl (cls 3, 8, .inr (.inr (.inr (.inr (fun n => some (gx_adr L3 K KM c0 c1 c2 c3 (12 + 4 * n))))))) by simp [gx_cell, gx_I0, gx_V0s, gx_J0, gx_U0, gx_mlen]]
  rfl
theorem gx_pm48 (D : va_G) (cls : Nat → ClassId) (L3 K KM : List Nat) (c0 c1 c2 c3 sz : Nat) : (gx_fx D cls L3 K KM c0 c1 c2 c3)[47]? = some (gx_adr L3 K KM c0 c1 c2 c3 48, gx_cell (D, gx_adr L3 K KM c0 c1 c2 c3, cls, sz) (gx_I0, gx_V0s) (gx_J0, gx_U0) 0 0 48) := by
  rw [show gx_cell (D, gx_adr L3 K KM c0 c1 c2 c3, cls, sz) (gx_I0, gx_V0s) (gx_J0, gx_U0) 0 0 48 = .inr (2, [.ref (gx_adr L3 K KM c0 c1 c2 c3 49), .ref (gx_adr L3 K KM c0 c1 c2 c3 50), .int 0]) by simp [gx_cell, gx_I0, gx_V0s, gx_J0, gx_U0, gx_mlen]]
  rfl
theorem gx_pm49 (D : va_G) (cls : Nat → ClassId) (L3 K KM : List Nat) (c0 c1 c2 c3 sz : Nat) : (gx_fx D cls L3 K KM c0 c1 c2 c3)[48]? = some (gx_adr L3 K KM c0 c1 c2 c3 49, gx_cell (D, gx_adr L3 K KM c0 c1 c2 c3, cls, sz) (gx_I0, gx_V0s) (gx_J0, gx_U0) 0 0 49) := by
  rw [show gx_cell (D, gx_adr L3 K KM c0 c1 c2 c3, cls, sz) (gx_I0, gx_V0s) (gx_J0, gx_U0) 0 0 49 = .inl (cls 2, 42, .inl (fun _ => gx_boo 0)) by simp [gx_cell, gx_I0, gx_V0s, gx_J0, gx_U0, gx_mlen]]
  rfl
theorem gx_pm50 (D : va_G) (cls : Nat → ClassId) (L3 K KM : List Nat) (c0 c1 c2 c3 sz : Nat) : (gx_fx D cls L3 K KM c0 c1 c2 c3)[49]? = some (gx_adr L3 K KM c0 c1 c2 c3 50, gx_cell (D, gx_adr L3 K KM c0 c1 c2 c3, cls, sz) (gx_I0, gx_V0s) (gx_J0, gx_U0) 0 0 50) := by
  rw [show gx_cell (D, gx_adr L3 K KM c0 c1 c2 c3, cls, sz) (gx_I0, gx_V0s) (gx_J0, gx_U0) 0 0 50 = .inl (cls 0, 42, .inl (fun _ => 0)) by simp [gx_cell, gx_I0, gx_V0s, gx_J0, gx_U0, gx_mlen]; funext n; simp [gx_V0s, gx_U0]]
  rfl
theorem gx_pm51 (D : va_G) (cls : Nat → ClassId) (L3 K KM : List Nat) (c0 c1 c2 c3 sz : Nat) : (gx_fx D cls L3 K KM c0 c1 c2 c3)[50]? = some (gx_adr L3 K KM c0 c1 c2 c3 51, gx_cell (D, gx_adr L3 K KM c0 c1 c2 c3, cls, sz) (gx_I0, gx_V0s) (gx_J0, gx_U0) 0 0 51) := by
  rw [show gx_cell (D, gx_adr L3 K KM c0 c1 c2 c3, cls, sz) (gx_I0, gx_V0s) (gx_J0, gx_U0) 0 0 51 = .inr (3, [.ref (gx_adr L3 K KM c0 c1 c2 c3 52), .int (-1), .int (-1)]) by simp [gx_cell, gx_I0, gx_V0s, gx_J0, gx_U0, gx_mlen]]
  rfl
theorem gx_pm52 (D : va_G) (cls : Nat → ClassId) (L3 K KM : List Nat) (c0 c1 c2 c3 sz : Nat) : (gx_fx D cls L3 K KM c0 c1 c2 c3)[51]? = some (gx_adr L3 K KM c0 c1 c2 c3 52, gx_cell (D, gx_adr L3 K KM c0 c1 c2 c3, cls, sz) (gx_I0, gx_V0s) (gx_J0, gx_U0) 0 0 52) := by
  rw [show gx_cell (D, gx_adr L3 K KM c0 c1 c2 c3, cls, sz) (gx_I0, gx_V0s) (gx_J0, gx_U0) 0 0 52 = .inl (cls 0, 4, .inl (fun _ => 0)) by simp [gx_cell, gx_I0, gx_V0s, gx_J0, gx_U0, gx_mlen]; funext n; simp [gx_V0s, gx_U0]]
  rfl
theorem gx_pm53 (D : va_G) (cls : Nat → ClassId) (L3 K KM : List Nat) (c0 c1 c2 c3 sz : Nat) : (gx_fx D cls L3 K KM c0 c1 c2 c3)[52]? = some (gx_adr L3 K KM c0 c1 c2 c3 53, gx_cell (D, gx_adr L3 K KM c0 c1 c2 c3, cls, sz) (gx_I0, gx_V0s) (gx_J0, gx_U0) 0 0 53) := by
  rw [show gx_cell (D, gx_adr L3 K KM c0 c1 c2 c3, cls, sz) (gx_I0, gx_V0s) (gx_J0, gx_U0) 0 0 53 = .inr (5, [.ref (gx_adr L3 K KM c0 c1 c2 c3 48), .ref (gx_adr L3 K KM c0 c1 c2 c3 51), .int 0, .int 0]) by simp [gx_cell, gx_I0, gx_V0s, gx_J0, gx_U0, gx_mlen]]
  rfl
theorem gx_pm54 (D : va_G) (cls : Nat → ClassId) (L3 K KM : List Nat) (c0 c1 c2 c3 sz : Nat) : (gx_fx D cls L3 K KM c0 c1 c2 c3)[53]? = some (gx_adr L3 K KM c0 c1 c2 c3 54, gx_cell (D, gx_adr L3 K KM c0 c1 c2 c3, cls, sz) (gx_I0, gx_V0s) (gx_J0, gx_U0) 0 0 54) := by
  rw [show gx_cell (D, gx_adr L3 K KM c0 c1 c2 c3, cls, sz) (gx_I0, gx_V0s) (gx_J0, gx_U0) 0 0 54 = .inr (6, [.ref (gx_adr L3 K KM c0 c1 c2 c3 55), .ref (gx_adr L3 K KM c0 c1 c2 c3 56), .ref (gx_adr L3 K KM c0 c1 c2 c3 57), .int 0, .int 0, .int 0]) by simp [gx_cell, gx_I0, gx_V0s, gx_J0, gx_U0, gx_mlen]]
  rfl
theorem gx_pm55 (D : va_G) (cls : Nat → ClassId) (L3 K KM : List Nat) (c0 c1 c2 c3 sz : Nat) : (gx_fx D cls L3 K KM c0 c1 c2 c3)[54]? = some (gx_adr L3 K KM c0 c1 c2 c3 55, gx_cell (D, gx_adr L3 K KM c0 c1 c2 c3, cls, sz) (gx_I0, gx_V0s) (gx_J0, gx_U0) 0 0 55) := by
  rw [show gx_cell (D, gx_adr L3 K KM c0 c1 c2 c3, cls, sz) (gx_I0, gx_V0s) (gx_J0, gx_U0) 0 0 55 = .inl (cls 1, 60, .inl (fun _ => gx_chr 0)) by simp [gx_cell, gx_I0, gx_V0s, gx_J0, gx_U0, gx_mlen]]
  rfl
theorem gx_pm56 (D : va_G) (cls : Nat → ClassId) (L3 K KM : List Nat) (c0 c1 c2 c3 sz : Nat) : (gx_fx D cls L3 K KM c0 c1 c2 c3)[55]? = some (gx_adr L3 K KM c0 c1 c2 c3 56, gx_cell (D, gx_adr L3 K KM c0 c1 c2 c3, cls, sz) (gx_I0, gx_V0s) (gx_J0, gx_U0) 0 0 56) := by
  rw [show gx_cell (D, gx_adr L3 K KM c0 c1 c2 c3, cls, sz) (gx_I0, gx_V0s) (gx_J0, gx_U0) 0 0 56 = .inl (cls 1, 30, .inl (fun _ => gx_chr 0)) by simp [gx_cell, gx_I0, gx_V0s, gx_J0, gx_U0, gx_mlen]]
  rfl
theorem gx_pm57 (D : va_G) (cls : Nat → ClassId) (L3 K KM : List Nat) (c0 c1 c2 c3 sz : Nat) : (gx_fx D cls L3 K KM c0 c1 c2 c3)[56]? = some (gx_adr L3 K KM c0 c1 c2 c3 57, gx_cell (D, gx_adr L3 K KM c0 c1 c2 c3, cls, sz) (gx_I0, gx_V0s) (gx_J0, gx_U0) 0 0 57) := by
  rw [show gx_cell (D, gx_adr L3 K KM c0 c1 c2 c3, cls, sz) (gx_I0, gx_V0s) (gx_J0, gx_U0) 0 0 57 = .inl (cls 0, 120, .inl (fun _ => 0)) by simp [gx_cell, gx_I0, gx_V0s, gx_J0, gx_U0, gx_mlen]; funext n; simp [gx_V0s, gx_U0]]
  rfl
theorem gx_pm58 (D : va_G) (cls : Nat → ClassId) (L3 K KM : List Nat) (c0 c1 c2 c3 sz : Nat) : (gx_fx D cls L3 K KM c0 c1 c2 c3)[58]? = some (gx_adr L3 K KM c0 c1 c2 c3 58, gx_cell (D, gx_adr L3 K KM c0 c1 c2 c3, cls, sz) (gx_I0, gx_V0s) (gx_J0, gx_U0) 0 0 58) := by
  rw [show gx_cell (D, gx_adr L3 K KM c0 c1 c2 c3, cls, sz) (gx_I0, gx_V0s) (gx_J0, gx_U0) 0 0 58 = .inr (9, [.ref (gx_adr L3 K KM c0 c1 c2 c3 59), .ref (gx_adr L3 K KM c0 c1 c2 c3 60), .ref (gx_adr L3 K KM c0 c1 c2 c3 61), .ref (gx_adr L3 K KM c0 c1 c2 c3 62), .ref (gx_adr L3 K KM c0 c1 c2 c3 63), .int (gx_boo 0), .int 0, .int (gx_boo 0), .int 0, .int 0, .int 0, .int 0, .int 0, .ref (gx_adr L3 K KM c0 c1 c2 c3 64), .int 0, .int (-1), .ref (gx_adr L3 K KM c0 c1 c2 c3 65), .int 0, .ref (gx_adr L3 K KM c0 c1 c2 c3 66), .int 0, .ref (gx_adr L3 K KM c0 c1 c2 c3 67), .int 0]) by simp [gx_cell, gx_I0, gx_V0s, gx_J0, gx_U0, gx_mlen]]
  rfl
theorem gx_pm59 (D : va_G) (cls : Nat → ClassId) (L3 K KM : List Nat) (c0 c1 c2 c3 sz : Nat) : (gx_fx D cls L3 K KM c0 c1 c2 c3)[59]? = some (gx_adr L3 K KM c0 c1 c2 c3 59, gx_cell (D, gx_adr L3 K KM c0 c1 c2 c3, cls, sz) (gx_I0, gx_V0s) (gx_J0, gx_U0) 0 0 59) := by
  rw [show gx_cell (D, gx_adr L3 K KM c0 c1 c2 c3, cls, sz) (gx_I0, gx_V0s) (gx_J0, gx_U0) 0 0 59 = .inl (cls 0, 87, .inl (fun n => gx_g0 n)) by simp [gx_cell, gx_I0, gx_V0s, gx_J0, gx_U0, gx_mlen]; funext n; simp [gx_V0s, gx_U0]]
  rfl
theorem gx_pm60 (D : va_G) (cls : Nat → ClassId) (L3 K KM : List Nat) (c0 c1 c2 c3 sz : Nat) : (gx_fx D cls L3 K KM c0 c1 c2 c3)[60]? = some (gx_adr L3 K KM c0 c1 c2 c3 60, gx_cell (D, gx_adr L3 K KM c0 c1 c2 c3, cls, sz) (gx_I0, gx_V0s) (gx_J0, gx_U0) 0 0 60) := by
  rw [show gx_cell (D, gx_adr L3 K KM c0 c1 c2 c3, cls, sz) (gx_I0, gx_V0s) (gx_J0, gx_U0) 0 0 60 = .inl (cls 0, 696, .inl (fun _ => 0)) by simp [gx_cell, gx_I0, gx_V0s, gx_J0, gx_U0, gx_mlen]; funext n; simp [gx_V0s, gx_U0]]
  rfl
theorem gx_pm61 (D : va_G) (cls : Nat → ClassId) (L3 K KM : List Nat) (c0 c1 c2 c3 sz : Nat) : (gx_fx D cls L3 K KM c0 c1 c2 c3)[61]? = some (gx_adr L3 K KM c0 c1 c2 c3 61, gx_cell (D, gx_adr L3 K KM c0 c1 c2 c3, cls, sz) (gx_I0, gx_V0s) (gx_J0, gx_U0) 0 0 61) := by
  rw [show gx_cell (D, gx_adr L3 K KM c0 c1 c2 c3, cls, sz) (gx_I0, gx_V0s) (gx_J0, gx_U0) 0 0 61 = .inl (cls 0, 87, .inl (fun _ => 0)) by simp [gx_cell, gx_I0, gx_V0s, gx_J0, gx_U0, gx_mlen]; funext n; simp [gx_V0s, gx_U0]]
  rfl
theorem gx_pm62 (D : va_G) (cls : Nat → ClassId) (L3 K KM : List Nat) (c0 c1 c2 c3 sz : Nat) : (gx_fx D cls L3 K KM c0 c1 c2 c3)[62]? = some (gx_adr L3 K KM c0 c1 c2 c3 62, gx_cell (D, gx_adr L3 K KM c0 c1 c2 c3, cls, sz) (gx_I0, gx_V0s) (gx_J0, gx_U0) 0 0 62) := by
  rw [show gx_cell (D, gx_adr L3 K KM c0 c1 c2 c3, cls, sz) (gx_I0, gx_V0s) (gx_J0, gx_U0) 0 0 62 = .inl (cls 0, 87, .inl (fun _ => 0)) by simp [gx_cell, gx_I0, gx_V0s, gx_J0, gx_U0, gx_mlen]; funext n; simp [gx_V0s, gx_U0]]
  rfl
theorem gx_pm63 (D : va_G) (cls : Nat → ClassId) (L3 K KM : List Nat) (c0 c1 c2 c3 sz : Nat) : (gx_fx D cls L3 K KM c0 c1 c2 c3)[63]? = some (gx_adr L3 K KM c0 c1 c2 c3 63, gx_cell (D, gx_adr L3 K KM c0 c1 c2 c3, cls, sz) (gx_I0, gx_V0s) (gx_J0, gx_U0) 0 0 63) := by
  rw [show gx_cell (D, gx_adr L3 K KM c0 c1 c2 c3, cls, sz) (gx_I0, gx_V0s) (gx_J0, gx_U0) 0 0 63 = .inl (cls 0, 87, .inl (fun _ => 0)) by simp [gx_cell, gx_I0, gx_V0s, gx_J0, gx_U0, gx_mlen]; funext n; simp [gx_V0s, gx_U0]]
  rfl
theorem gx_pm64 (D : va_G) (cls : Nat → ClassId) (L3 K KM : List Nat) (c0 c1 c2 c3 sz : Nat) : (gx_fx D cls L3 K KM c0 c1 c2 c3)[64]? = some (gx_adr L3 K KM c0 c1 c2 c3 64, gx_cell (D, gx_adr L3 K KM c0 c1 c2 c3, cls, sz) (gx_I0, gx_V0s) (gx_J0, gx_U0) 0 0 64) := by
  rw [show gx_cell (D, gx_adr L3 K KM c0 c1 c2 c3, cls, sz) (gx_I0, gx_V0s) (gx_J0, gx_U0) 0 0 64 = .inl (cls 0, 60, .inl (fun _ => 0)) by simp [gx_cell, gx_I0, gx_V0s, gx_J0, gx_U0, gx_mlen]; funext n; simp [gx_V0s, gx_U0]]
  rfl
theorem gx_pm65 (D : va_G) (cls : Nat → ClassId) (L3 K KM : List Nat) (c0 c1 c2 c3 sz : Nat) : (gx_fx D cls L3 K KM c0 c1 c2 c3)[65]? = some (gx_adr L3 K KM c0 c1 c2 c3 65, gx_cell (D, gx_adr L3 K KM c0 c1 c2 c3, cls, sz) (gx_I0, gx_V0s) (gx_J0, gx_U0) 0 0 65) := by
  rw [show gx_cell (D, gx_adr L3 K KM c0 c1 c2 c3, cls, sz) (gx_I0, gx_V0s) (gx_J0, gx_U0) 0 0 65 = .inl (cls 1, 32, .inl (fun _ => gx_chr 0)) by simp [gx_cell, gx_I0, gx_V0s, gx_J0, gx_U0, gx_mlen]]
  rfl
theorem gx_pm66 (D : va_G) (cls : Nat → ClassId) (L3 K KM : List Nat) (c0 c1 c2 c3 sz : Nat) : (gx_fx D cls L3 K KM c0 c1 c2 c3)[66]? = some (gx_adr L3 K KM c0 c1 c2 c3 66, gx_cell (D, gx_adr L3 K KM c0 c1 c2 c3, cls, sz) (gx_I0, gx_V0s) (gx_J0, gx_U0) 0 0 66) := by
  rw [show gx_cell (D, gx_adr L3 K KM c0 c1 c2 c3, cls, sz) (gx_I0, gx_V0s) (gx_J0, gx_U0) 0 0 66 = .inl (cls 2, 42, .inl (fun _ => gx_boo 0)) by simp [gx_cell, gx_I0, gx_V0s, gx_J0, gx_U0, gx_mlen]]
  rfl
theorem gx_pm67 (D : va_G) (cls : Nat → ClassId) (L3 K KM : List Nat) (c0 c1 c2 c3 sz : Nat) : (gx_fx D cls L3 K KM c0 c1 c2 c3)[67]? = some (gx_adr L3 K KM c0 c1 c2 c3 67, gx_cell (D, gx_adr L3 K KM c0 c1 c2 c3, cls, sz) (gx_I0, gx_V0s) (gx_J0, gx_U0) 0 0 67) := by
  rw [show gx_cell (D, gx_adr L3 K KM c0 c1 c2 c3, cls, sz) (gx_I0, gx_V0s) (gx_J0, gx_U0) 0 0 67 = .inl (cls 0, 186, .inl (fun _ => 0)) by simp [gx_cell, gx_I0, gx_V0s, gx_J0, gx_U0, gx_mlen]; funext n; simp [gx_V0s, gx_U0]]
  rfl
theorem gx_pm68 (D : va_G) (cls : Nat → ClassId) (L3 K KM : List Nat) (c0 c1 c2 c3 sz : Nat) : (gx_fx D cls L3 K KM c0 c1 c2 c3)[68]? = some (gx_adr L3 K KM c0 c1 c2 c3 68, gx_cell (D, gx_adr L3 K KM c0 c1 c2 c3, cls, sz) (gx_I0, gx_V0s) (gx_J0, gx_U0) 0 0 68) := by
  rw [show gx_cell (D, gx_adr L3 K KM c0 c1 c2 c3, cls, sz) (gx_I0, gx_V0s) (gx_J0, gx_U0) 0 0 68 = .inl (cls 4, 1, .inr (.inl (fun _ => 0))) by simp [gx_cell, gx_I0, gx_V0s, gx_J0, gx_U0, gx_mlen]]
  rfl
theorem gx_pm69 (D : va_G) (cls : Nat → ClassId) (L3 K KM : List Nat) (c0 c1 c2 c3 sz : Nat) : (gx_fx D cls L3 K KM c0 c1 c2 c3)[69]? = some (gx_adr L3 K KM c0 c1 c2 c3 69, gx_cell (D, gx_adr L3 K KM c0 c1 c2 c3, cls, sz) (gx_I0, gx_V0s) (gx_J0, gx_U0) 0 0 69) := by
  rw [show gx_cell (D, gx_adr L3 K KM c0 c1 c2 c3, cls, sz) (gx_I0, gx_V0s) (gx_J0, gx_U0) 0 0 69 = .inl (cls 5, 1, .inr (.inr (.inr (.inl (fun _ => 0))))) by simp [gx_cell, gx_I0, gx_V0s, gx_J0, gx_U0, gx_mlen]]
  rfl
set_option maxHeartbeats 1000000 in
set_option maxRecDepth 100000 in
theorem gx_prm_map (D : va_G) (cls : Nat → ClassId) (L3 K KM : List Nat) (c0 c1 c2 c3 sz : Nat) : gx_prm.map (fun i => (gx_fx D cls L3 K KM c0 c1 c2 c3)[i]?) = (gx_ws (D, gx_adr L3 K KM c0 c1 c2 c3, cls, sz) (gx_I0, gx_V0s) (gx_J0, gx_U0) 0 0).map some := by
  apply List.ext_getElem?
  intro i
  by_cases hi : i < 70
  · rw [List.getElem?_map, List.getElem?_map, gx_ws_get hi]
    match i, hi with
    | 0, _ => exact congrArg some (gx_pm0 D cls L3 K KM c0 c1 c2 c3 sz)
    | 1, _ => exact congrArg some (gx_pm1 D cls L3 K KM c0 c1 c2 c3 sz)
    | 2, _ => exact congrArg some (gx_pm2 D cls L3 K KM c0 c1 c2 c3 sz)
    | 3, _ => exact congrArg some (gx_pm3 D cls L3 K KM c0 c1 c2 c3 sz)
    | 4, _ => exact congrArg some (gx_pm4 D cls L3 K KM c0 c1 c2 c3 sz)
    | 5, _ => exact congrArg some (gx_pm5 D cls L3 K KM c0 c1 c2 c3 sz)
    | 6, _ => exact congrArg some (gx_pm6 D cls L3 K KM c0 c1 c2 c3 sz)
    | 7, _ => exact congrArg some (gx_pm7 D cls L3 K KM c0 c1 c2 c3 sz)
    | 8, _ => exact congrArg some (gx_pm8 D cls L3 K KM c0 c1 c2 c3 sz)
    | 9, _ => exact congrArg some (gx_pm9 D cls L3 K KM c0 c1 c2 c3 sz)
    | 10, _ => exact congrArg some (gx_pm10 D cls L3 K KM c0 c1 c2 c3 sz)
    | 11, _ => exact congrArg some (gx_pm11 D cls L3 K KM c0 c1 c2 c3 sz)
    | 12, _ => exact congrArg some (gx_pm12 D cls L3 K KM c0 c1 c2 c3 sz)
    | 13, _ => exact congrArg some (gx_pm13 D cls L3 K KM c0 c1 c2 c3 sz)
    | 14, _ => exact congrArg some (gx_pm14 D cls L3 K KM c0 c1 c2 c3 sz)
    | 15, _ => exact congrArg some (gx_pm15 D cls L3 K KM c0 c1 c2 c3 sz)
    | 16, _ => exact congrArg some (gx_pm16 D cls L3 K KM c0 c1 c2 c3 sz)
    | 17, _ => exact congrArg some (gx_pm17 D cls L3 K KM c0 c1 c2 c3 sz)
    | 18, _ => exact congrArg some (gx_pm18 D cls L3 K KM c0 c1 c2 c3 sz)
    | 19, _ => exact congrArg some (gx_pm19 D cls L3 K KM c0 c1 c2 c3 sz)
    | 20, _ => exact congrArg some (gx_pm20 D cls L3 K KM c0 c1 c2 c3 sz)
    | 21, _ => exact congrArg some (gx_pm21 D cls L3 K KM c0 c1 c2 c3 sz)
    | 22, _ => exact congrArg some (gx_pm22 D cls L3 K KM c0 c1 c2 c3 sz)
    | 23, _ => exact congrArg some (gx_pm23 D cls L3 K KM c0 c1 c2 c3 sz)
    | 24, _ => exact congrArg some (gx_pm24 D cls L3 K KM c0 c1 c2 c3 sz)
    | 25, _ => exact congrArg some (gx_pm25 D cls L3 K KM c0 c1 c2 c3 sz)
    | 26, _ => exact congrArg some (gx_pm26 D cls L3 K KM c0 c1 c2 c3 sz)
    | 27, _ => exact congrArg some (gx_pm27 D cls L3 K KM c0 c1 c2 c3 sz)
    | 28, _ => exact congrArg some (gx_pm28 D cls L3 K KM c0 c1 c2 c3 sz)
    | 29, _ => exact congrArg some (gx_pm29 D cls L3 K KM c0 c1 c2 c3 sz)
    | 30, _ => exact congrArg some (gx_pm30 D cls L3 K KM c0 c1 c2 c3 sz)
    | 31, _ => exact congrArg some (gx_pm31 D cls L3 K KM c0 c1 c2 c3 sz)
    | 32, _ => exact congrArg some (gx_pm32 D cls L3 K KM c0 c1 c2 c3 sz)
    | 33, _ => exact congrArg some (gx_pm33 D cls L3 K KM c0 c1 c2 c3 sz)
    | 34, _ => exact congrArg some (gx_pm34 D cls L3 K KM c0 c1 c2 c3 sz)
    | 35, _ => exact congrArg some (gx_pm35 D cls L3 K KM c0 c1 c2 c3 sz)
    | 36, _ => exact congrArg some (gx_pm36 D cls L3 K KM c0 c1 c2 c3 sz)
    | 37, _ => exact congrArg some (gx_pm37 D cls L3 K KM c0 c1 c2 c3 sz)
    | 38, _ => exact congrArg some (gx_pm38 D cls L3 K KM c0 c1 c2 c3 sz)
    | 39, _ => exact congrArg some (gx_pm39 D cls L3 K KM c0 c1 c2 c3 sz)
    | 40, _ => exact congrArg some (gx_pm40 D cls L3 K KM c0 c1 c2 c3 sz)
    | 41, _ => exact congrArg some (gx_pm41 D cls L3 K KM c0 c1 c2 c3 sz)
    | 42, _ => exact congrArg some (gx_pm42 D cls L3 K KM c0 c1 c2 c3 sz)
    | 43, _ => exact congrArg some (gx_pm43 D cls L3 K KM c0 c1 c2 c3 sz)
    | 44, _ => exact congrArg some (gx_pm44 D cls L3 K KM c0 c1 c2 c3 sz)
    | 45, _ => exact congrArg some (gx_pm45 D cls L3 K KM c0 c1 c2 c3 sz)
    | 46, _ => exact congrArg some (gx_pm46 D cls L3 K KM c0 c1 c2 c3 sz)
    | 47, _ => exact congrArg some (gx_pm47 D cls L3 K KM c0 c1 c2 c3 sz)
    | 48, _ => exact congrArg some (gx_pm48 D cls L3 K KM c0 c1 c2 c3 sz)
    | 49, _ => exact congrArg some (gx_pm49 D cls L3 K KM c0 c1 c2 c3 sz)
    | 50, _ => exact congrArg some (gx_pm50 D cls L3 K KM c0 c1 c2 c3 sz)
    | 51, _ => exact congrArg some (gx_pm51 D cls L3 K KM c0 c1 c2 c3 sz)
    | 52, _ => exact congrArg some (gx_pm52 D cls L3 K KM c0 c1 c2 c3 sz)
    | 53, _ => exact congrArg some (gx_pm53 D cls L3 K KM c0 c1 c2 c3 sz)
    | 54, _ => exact congrArg some (gx_pm54 D cls L3 K KM c0 c1 c2 c3 sz)
    | 55, _ => exact congrArg some (gx_pm55 D cls L3 K KM c0 c1 c2 c3 sz)
    | 56, _ => exact congrArg some (gx_pm56 D cls L3 K KM c0 c1 c2 c3 sz)
    | 57, _ => exact congrArg some (gx_pm57 D cls L3 K KM c0 c1 c2 c3 sz)
    | 58, _ => exact congrArg some (gx_pm58 D cls L3 K KM c0 c1 c2 c3 sz)
    | 59, _ => exact congrArg some (gx_pm59 D cls L3 K KM c0 c1 c2 c3 sz)
    | 60, _ => exact congrArg some (gx_pm60 D cls L3 K KM c0 c1 c2 c3 sz)
    | 61, _ => exact congrArg some (gx_pm61 D cls L3 K KM c0 c1 c2 c3 sz)
    | 62, _ => exact congrArg some (gx_pm62 D cls L3 K KM c0 c1 c2 c3 sz)
    | 63, _ => exact congrArg some (gx_pm63 D cls L3 K KM c0 c1 c2 c3 sz)
    | 64, _ => exact congrArg some (gx_pm64 D cls L3 K KM c0 c1 c2 c3 sz)
    | 65, _ => exact congrArg some (gx_pm65 D cls L3 K KM c0 c1 c2 c3 sz)
    | 66, _ => exact congrArg some (gx_pm66 D cls L3 K KM c0 c1 c2 c3 sz)
    | 67, _ => exact congrArg some (gx_pm67 D cls L3 K KM c0 c1 c2 c3 sz)
    | 68, _ => exact congrArg some (gx_pm68 D cls L3 K KM c0 c1 c2 c3 sz)
    | 69, _ => exact congrArg some (gx_pm69 D cls L3 K KM c0 c1 c2 c3 sz)
    | n + 70, h => exact absurd h (by omega)
  · rw [List.getElem?_eq_none (by rw [List.length_map]; show 70 ≤ i; omega), List.getElem?_eq_none (by rw [List.length_map]; simp [gx_ws]; omega)]
theorem gx_prm_fm (D : va_G) (cls : Nat → ClassId) (L3 K KM : List Nat) (c0 c1 c2 c3 sz : Nat) : gx_prm.filterMap (fun i => (gx_fx D cls L3 K KM c0 c1 c2 c3)[i]?) = gx_ws (D, gx_adr L3 K KM c0 c1 c2 c3, cls, sz) (gx_I0, gx_V0s) (gx_J0, gx_U0) 0 0 := by
  have h := congrArg (List.filterMap id) (gx_prm_map D cls L3 K KM c0 c1 c2 c3 sz)
  rw [List.filterMap_map, List.filterMap_map] at h
  refine Eq.trans (show _ = _ from ?_) (h.trans ?_)
  · rfl
  · exact List.filterMap_some
theorem gx_K0 {s : State} {A : Array Value} (hts : ∀ w ∈ lw_tbl, w.before A s = true) : ∃ (D : va_G) (cls : Nat → ClassId), va_K D vwCl (gx_tys (D, (fun _ => 0), cls, 0)) s := by
  obtain ⟨c0, i0, k0⟩ := u_known (C := RJ0) (T := TJ0) (N := 2) (n := 4) hts (by decide +kernel) (hts (.instantiable RJ0 4) (by decide +kernel))
  obtain ⟨c1, i1, k1⟩ := u_known (C := RJx00060) (T := TJx00060) (N := 6) (n := 6) hts (by decide +kernel) (hts (.instantiable RJx00060 6) (by decide +kernel))
  obtain ⟨c2, i2, k2⟩ := u_known (C := RX0) (T := TX0) (N := 3) (n := 3) hts (by decide +kernel) (hts (.instantiable RX0 3) (by decide +kernel))
  obtain ⟨c3, i3, k3⟩ := u_known (C := RX1) (T := TX1) (N := 3) (n := 3) hts (by decide +kernel) (hts (.instantiable RX1 3) (by decide +kernel))
  obtain ⟨c4, i4, k4⟩ := u_known (C := RX2) (T := TX2) (N := 3) (n := 3) hts (by decide +kernel) (hts (.instantiable RX2 3) (by decide +kernel))
  obtain ⟨c5, i5, k5⟩ := u_known (C := RX3) (T := TX3) (N := 4) (n := 4) hts (by decide +kernel) (hts (.instantiable RX3 4) (by decide +kernel))
  obtain ⟨c6, i6, k6⟩ := u_known (C := RX4) (T := TX4) (N := 6) (n := 6) hts (by decide +kernel) (hts (.instantiable RX4 6) (by decide +kernel))
  obtain ⟨c7, i7, k7⟩ := u_known (C := RX5) (T := TX5) (N := 9) (n := 9) hts (by decide +kernel) (hts (.instantiable RX5 9) (by decide +kernel))
  obtain ⟨c8, i8, k8⟩ := u_known (C := RX6) (T := TX6) (N := 13) (n := 13) hts (by decide +kernel) (hts (.instantiable RX6 13) (by decide +kernel))
  obtain ⟨c9, i9, k9⟩ := u_known (C := RX7) (T := TX7) (N := 22) (n := 22) hts (by decide +kernel) (hts (.instantiable RX7 22) (by decide +kernel))
  obtain ⟨a0, ka0, co0, p0, q0, r0⟩ := Cond.arrayClass_spec (hts (.arrayClass .int) (by decide +kernel))
  obtain ⟨a1, ka1, co1, p1, q1, r1⟩ := Cond.arrayClass_spec (hts (.arrayClass .char) (by decide +kernel))
  obtain ⟨a2, ka2, co2, p2, q2, r2⟩ := Cond.arrayClass_spec (hts (.arrayClass .boolean) (by decide +kernel))
  obtain ⟨a4, ka4, co4, p4, q4, r4⟩ := Cond.arrayClass_spec (hts (.arrayClass .long) (by decide +kernel))
  obtain ⟨a5, ka5, co5, p5, q5, r5⟩ := Cond.arrayClass_spec (hts (.arrayClass .double) (by decide +kernel))
  obtain ⟨comp, a3, ka3, p3, -, q3, r3, s3⟩ := Cond.arrayOver_spec (hts (.arrayOver (.object "GluedWall$Wall")) (by decide +kernel))
  refine ⟨((fun k => [c0, c1, c2, c3, c4, c5, c6, c7, c8, c9].getD k 0), (fun k => [i0, i1, i2, i3, i4, i5, i6, i7, i8, i9].getD k (fun _ => 0))), (fun k => [a0, a1, a2, a3, a4, a5].getD k 0), fun k q hq => ?_, fun k q hq => ?_⟩
  · match k, hq with
    | 0, hq => cases hq; exact k0
    | 1, hq => cases hq; exact k1
    | 2, hq => cases hq; exact k2
    | 3, hq => cases hq; exact k3
    | 4, hq => cases hq; exact k4
    | 5, hq => cases hq; exact k5
    | 6, hq => cases hq; exact k6
    | 7, hq => cases hq; exact k7
    | 8, hq => cases hq; exact k8
    | 9, hq => cases hq; exact k9
    | k + 10, hq => simp [vwCl] at hq
  · match k, hq with
    | 0, hq => cases hq; exact ⟨fun n z => ⟨fun k h => (by cases h), ka0, q0, co0, r0⟩, p0⟩
    | 1, hq => cases hq; exact ⟨fun n z => ⟨fun k h => (by cases h), ka1, q1, co1, r1⟩, p1⟩
    | 2, hq => cases hq; exact ⟨fun n z => ⟨fun k h => (by cases h), ka2, q2, co2, r2⟩, p2⟩
    | 3, hq => cases hq; exact ⟨fun n z => ⟨fun k h => (by cases h), ka3, q3, comp, r3⟩, ka3, comp, q3, r3, p3, s3⟩
    | 4, hq => cases hq; exact ⟨fun n z => ⟨fun k h => (by cases h), ka4, q4, co4, r4⟩, p4⟩
    | 5, hq => cases hq; exact ⟨fun n z => ⟨fun k h => (by cases h), ka5, q5, co5, r5⟩, p5⟩
    | k + 6, hq => simp [gx_tys] at hq
theorem gx_Z0 {G : gx_G} {s : State} {b : Nat} (hts : ∀ w ∈ lw_tbl, w.before #[Value.ref b] s = true) (hgv : (Jvm.Cond.and given_1 narrow_1).before #[Value.ref b] s = true) (hnA : ∀ a : Nat, a < s.heap.size → ¬ gx_A G a) : gx_Z G s s.heap := by
  have hs := flat_of_before _ hgv
  refine ⟨vx_Zqof (hts _ (show Cond.laysStatic Bundle.tN "UNASSIGNED_STACK" Bundle.steD ∈ lw_tbl by decide +kernel)) (hts _ (show Cond.initialized Bundle.tN ∈ lw_tbl by decide +kernel)) (hs _ (show Cond.isRef (.static Bundle.tN "UNASSIGNED_STACK" Bundle.steD) ∈ _ by decide +kernel)) hnA, vx_Zqof (hts _ (show Cond.laysStatic Bundle.tN "SUPPRESSED_SENTINEL" Bundle.listD ∈ lw_tbl by decide +kernel)) (hts _ (show Cond.initialized Bundle.tN ∈ lw_tbl by decide +kernel)) (hs _ (show Cond.isRef (.static Bundle.tN "SUPPRESSED_SENTINEL" Bundle.listD) ∈ _ by decide +kernel)) hnA, fun q hq => ?_, fun q hq => ?_⟩
  · have h1 : Cond.stringRef RX6 q.1 q.2 ∈ lw_tbl := (show ∀ q ∈ gx_strs, Cond.stringRef RX6 q.1 q.2 ∈ lw_tbl by decide +kernel) q hq
    have h2 := hs (Cond.exactly (.string RX6 q.1) "java/lang/String") ((show ∀ q ∈ gx_strs, Cond.exactly (.string RX6 q.1) "java/lang/String" ∈ flatC (Jvm.Cond.and given_1 narrow_1) by decide +kernel) q hq)
    obtain ⟨a, c, cA, kA, q1, -⟩ := Cond.exactly_spec h2
    exact ⟨a, vk_R.of (hts _ h1) q1⟩
  · exact va_Nc.of (hs _ ((show ∀ q ∈ gx_ncs, Cond.not (.castable q.1 q.2) ∈ flatC (Jvm.Cond.and given_1 narrow_1) by decide +kernel) q hq))
theorem gv_49 {G : gx_G} {s : State} (hV : gx_V0 G s) {args : Array Value} : (Cond.initialized RX6).before args s = true := hV.w (List.mem_of_getElem? (i := 49) (by decide +kernel)) (by decide +kernel)
theorem gv_56 {G : gx_G} {s : State} (hV : gx_V0 G s) {args : Array Value} : (Cond.initialized RX7).before args s = true := hV.w (List.mem_of_getElem? (i := 56) (by decide +kernel)) (by decide +kernel)
theorem gv_70 {G : gx_G} {s : State} (hV : gx_V0 G s) {args : Array Value} : (Cond.classLink RL 8 RX6).before args s = true := hV.w (List.mem_of_getElem? (i := 70) (by decide +kernel)) (by decide +kernel)
theorem gv_71 {G : gx_G} {s : State} (hV : gx_V0 G s) {args : Array Value} : (Cond.instantiable RX6 13).before args s = true := hV.w (List.mem_of_getElem? (i := 71) (by decide +kernel)) (by decide +kernel)
theorem gv_72 {G : gx_G} {s : State} (hV : gx_V0 G s) {args : Array Value} : (Cond.methodLink RL 125 yX6_init).before args s = true := hV.w (List.mem_of_getElem? (i := 72) (by decide +kernel)) (by decide +kernel)
theorem gv_73 {G : gx_G} {s : State} (hV : gx_V0 G s) {args : Array Value} : (Cond.instanceMethod yX6_init).before args s = true := hV.w (List.mem_of_getElem? (i := 73) (by decide +kernel)) (by decide +kernel)
theorem gv_74 {G : gx_G} {s : State} (hV : gx_V0 G s) {args : Array Value} : (Cond.code yX6_init cX6_init 1 none).before args s = true := hV.w (List.mem_of_getElem? (i := 74) (by decide +kernel)) (by decide +kernel)
theorem gv_1012 {G : gx_G} {s : State} (hV : gx_V0 G s) {args : Array Value} : (Cond.classLink RL 126 RX7).before args s = true := hV.w (List.mem_of_getElem? (i := 1012) (by decide +kernel)) (by decide +kernel)
theorem gv_1013 {G : gx_G} {s : State} (hV : gx_V0 G s) {args : Array Value} : (Cond.instantiable RX7 22).before args s = true := hV.w (List.mem_of_getElem? (i := 1013) (by decide +kernel)) (by decide +kernel)
theorem gv_1014 {G : gx_G} {s : State} (hV : gx_V0 G s) {args : Array Value} : (Cond.methodLink RL 128 yX7_init).before args s = true := hV.w (List.mem_of_getElem? (i := 1014) (by decide +kernel)) (by decide +kernel)
theorem gv_1015 {G : gx_G} {s : State} (hV : gx_V0 G s) {args : Array Value} : (Cond.instanceMethod yX7_init).before args s = true := hV.w (List.mem_of_getElem? (i := 1015) (by decide +kernel)) (by decide +kernel)
theorem gv_1016 {G : gx_G} {s : State} (hV : gx_V0 G s) {args : Array Value} : (Cond.code yX7_init cX7_init 2 none).before args s = true := hV.w (List.mem_of_getElem? (i := 1016) (by decide +kernel)) (by decide +kernel)
set_option maxHeartbeats 1000000 in
set_option maxRecDepth 100000 in
theorem whole_start {p : Program} {e : Env} {s : State} {m : MethodId} {below : List Frame} {meth : Method} {c : Code} (l : Launch) (hflags : l.flags = flags0) {b L : Nat} {xs : Nat → Int32} (hL : L ≤ 2560) (C0 : lw_At p s m meth c b L xs) : W p l e room_1 s m #[Value.ref b] below meth c s.heap [] 0 0 (lw_Z below #[Value.ref b] s) (entryFrame m ([Value.ref b] : List Value).toArray 9) := by
  obtain ⟨hx, hb, hr, hml, hown, hts, hX, hbl, hlocks, hgv⟩ := id C0
  have hl9 : l.stackTraces = false := by unfold Launch.stackTraces; rw [hflags]; decide +kernel
  have hA : ∀ q : Nat, s.heap.size ≤ q → (fun q : Nat => s.heap.size ≤ q) q := fun _ h => h
  have hwd : ∀ w ∈ lw_tbl, gx_ok w = true → w.before #[] s = true := fun w hm ho => va_tabs (gx_ok_on ho) rfl (hts w hm)
  obtain ⟨D, cls, hK0⟩ := gx_K0 hts
  have hV : gx_V0 (D, (fun _ => 0), cls, 0) s := ⟨hwd, hK0, va_AO.of (hts (.arrayOver (.object "GluedWall$Wall")) (by decide +kernel))⟩
  have hS : va_S (fun q : Nat => s.heap.size ≤ q) s.heap s.heap [] := va_S.rf
  have hP : va_P D vwCl [] s.heap := fun k q h => by simp at h
  have hD : va_D (fun q : Nat => s.heap.size ≤ q) [] := ⟨fun i j p q h => by simp at h, fun k q h => by simp at h⟩
  have hl := lv_entry ([.ref b]) (n := 9) (Nat.le_of_ble_eq_true rfl)
  rw [lg_entry_eq]
  generalize (lg_sl ([.ref b]) ++ List.replicate (9 - (lg_sl ([.ref b])).length) Slot.unset).toArray = ls at hl ⊢
  have hl : lv_has ls 9 [(0, .ref b)] := hl
  refine va_new (pc := 0) (args := _) (Ts := u_ws RX6 TX6 13) (ci := 8) (fs := [.null, .null, .null, .int 0, .null, .null, .null, .null, .int 0, .null, .int 0, .null, .int 0]) hx hb (fun w h => hV.w (gl_X6 w h).1 (gl_X6 w h).2) (fun _ h => h) tyX6 tyX6_ok hown (gv_70 hV) (gv_71 hV) (gv_49 hV) hV.K hP hD hS hA rfl hfs_X6 (Nat.le_of_ble_eq_true rfl) (Nat.le_of_ble_eq_true rfl) dL_law_0 (fun c0 H hP hD hS => ?_)
  have hP : va_P D vwCl (([] : va_W) ++ [(c0, .inr (8, [.null, .null, .null, .int 0, .null, .null, .null, .null, .int 0, .null, .int 0, .null, .int 0]))]) H := hP
  refine W.widen (k := 1) (n := 13) (by omega) (by omega) ?_
  refine lv_dup (pc := 3) hx hb dL_law_3 rfl ?_
  refine gx_runI (G := (D, (fun _ => 0), cls, 0)) (pc := 4) (wr := ([] : va_W)) (wc := [(c0, .inr (8, [.null, .null, .null, .int 0, .null, .null, .null, .null, .int 0, .null, .int 0, .null, .int 0]))]) (va_runI (As := []) (rest := [.ref c0]) ⟨hx, hb, hml, hown, (fun _ h => nomatch h : ∀ w ∈ ([] : List Cond), w.before _ s = true)⟩ (i_X6 l ((D, (fun _ => 0), cls, 0) : gx_G) c0  H.size) ⟨gx_callB (n := 0) rfl rfl (gv_72 hV) (gv_49 hV) (gv_74 hV) (by decide +kernel) ⟨Nat.le_of_ble_eq_true rfl, Nat.le_of_ble_eq_true rfl⟩, rfl, (gv_73 hV)⟩ (gx_preI hV hP hD) rfl rfl hl.1 rfl (lv_room (Nat.le_of_ble_eq_true rfl)) dL_law_4 ⟨Nat.le_of_ble_eq_true rfl, Nat.le_of_ble_eq_true rfl⟩) hP hD hS hA (fun w H locs hw hP hD hS => ?_)
  obtain ⟨L3, K, rfl⟩ := hw
  refine W.widen (k := 58) (n := 1356) (by omega) (by omega) ?_
  refine lv_astore_n (pc := 7) (lv' := [(1, .ref c0), (0, .ref b)]) hx hb dL_law_7 rfl hl (by decide) rfl (fun ls hl => ?_)
  refine va_new (pc := 8) (args := _) (Ts := u_ws RX7 TX7 22) (ci := 9) (fs := [.null, .null, .null, .null, .null, .int 0, .int 0, .int 0, .int 0, .int 0, .int 0, .int 0, .int 0, .null, .int 0, .int 0, .null, .int 0, .null, .int 0, .null, .int 0]) hx hb (fun w h => hV.w (gl_X7 w h).1 (gl_X7 w h).2) (fun _ h => h) tyX7 tyX7_ok hown (gv_1012 hV) (gv_1013 hV) (gv_56 hV) hV.K hP hD hS hA rfl hfs_X7 (Nat.le_of_ble_eq_true rfl) (Nat.le_of_ble_eq_true rfl) dL_law_8 (fun c1 H hP hD hS => ?_)
  refine W.widen (k := 59) (n := 1378) (by omega) (by omega) ?_
  refine lv_dup (pc := 11) hx hb dL_law_11 rfl ?_
  refine gx_runI (G := (D, (fun _ => 0), cls, 0)) (pc := 12) (wr := ([] ++ gx_gl (D, (fun _ => 0), cls, 0) c0 L3 K)) (wc := [(c1, .inr (9, [.null, .null, .null, .null, .null, .int 0, .int 0, .int 0, .int 0, .int 0, .int 0, .int 0, .int 0, .null, .int 0, .int 0, .null, .int 0, .null, .int 0, .null, .int 0]))]) (va_runI (As := []) (rest := [.ref c1]) ⟨hx, hb, hml, hown, (fun _ h => nomatch h : ∀ w ∈ ([] : List Cond), w.before _ s = true)⟩ (i_X7 l ((D, (fun _ => 0), cls, 0) : gx_G) c1  H.size) ⟨gx_callB (n := 0) rfl rfl (gv_1014 hV) (gv_56 hV) (gv_1016 hV) (by decide +kernel) ⟨Nat.le_of_ble_eq_true rfl, Nat.le_of_ble_eq_true rfl⟩, rfl, (gv_1015 hV)⟩ (gx_preI hV hP hD) rfl rfl hl.1 rfl (lv_room (Nat.le_of_ble_eq_true rfl)) dL_law_12 ⟨Nat.le_of_ble_eq_true rfl, Nat.le_of_ble_eq_true rfl⟩) hP hD hS hA (fun w H locs hw hP hD hS => ?_)
  obtain ⟨KM, rfl⟩ := hw
  refine W.widen (k := 68) (n := 2742) (by omega) (by omega) ?_
  refine lv_astore_n (pc := 15) (lv' := [(2, .ref c1), (1, .ref c0), (0, .ref b)]) hx hb dL_law_15 rfl hl (by decide) rfl (fun ls hl => ?_)
  refine lv_iconst (pc := 16) (v := 1) hx hb dL_law_16 (by decide) ?_
  refine gx_newa (pc := 17) (ty := .long) (N' := 1) (a0 := (1, .inr (.inl (fun _ => 0)))) hx hb (gx_ac4 hV) rfl hV.K hP hD hS hA 4 rfl (fun _ => rfl) (by decide) (by decide) (by decide) (Nat.le_of_ble_eq_true rfl) (Nat.le_of_ble_eq_true rfl) dL_law_17 (fun c2 H hP hD hS => ?_)
  refine W.widen (k := 69) (n := 2743) (by omega) (by omega) ?_
  refine lv_astore_n (pc := 19) (lv' := [(3, .ref c2), (2, .ref c1), (1, .ref c0), (0, .ref b)]) hx hb dL_law_19 rfl hl (by decide) rfl (fun ls hl => ?_)
  refine lv_iconst (pc := 20) (v := 1) hx hb dL_law_20 (by decide) ?_
  refine gx_newa (pc := 21) (ty := .double) (N' := 1) (a0 := (1, .inr (.inr (.inr (.inl (fun _ => 0)))))) hx hb (gx_ac5 hV) rfl hV.K hP hD hS hA 5 rfl (fun _ => rfl) (by decide) (by decide) (by decide) (Nat.le_of_ble_eq_true rfl) (Nat.le_of_ble_eq_true rfl) dL_law_21 (fun c3 H hP hD hS => ?_)
  refine W.widen (k := 70) (n := 2744) (by omega) (by omega) ?_
  refine lv_astore (pc := 23) (lv' := [(4, .ref c3), (3, .ref c2), (2, .ref c1), (1, .ref c0), (0, .ref b)]) hx hb dL_law_23 hl (by decide) rfl (fun ls hl => ?_)
  refine lv_iconst (pc := 25) (v := 0) hx hb dL_law_25 (by decide) ?_
  refine lv_istore (pc := 26) (lv' := [(5, .int 0), (4, .ref c3), (3, .ref c2), (2, .ref c1), (1, .ref c0), (0, .ref b)]) hx hb dL_law_26 hl (by decide) rfl (fun ls hl => ?_)
  obtain ⟨hP, hD⟩ := gx_swap hP hD 14 (a := gx_ad K 13) rfl (gx_atq (g := fun n => some (gx_adr L3 K KM c0 c1 c2 c3 (12 + 4 * n))) (fun j hj => by rcases (show j = 0 ∨ j = 1 ∨ j = 2 ∨ j = 3 ∨ j = 4 ∨ j = 5 ∨ j = 6 ∨ j = 7 by omega) with rfl | rfl | rfl | rfl | rfl | rfl | rfl | rfl <;> rfl))
  have hP : va_P D vwCl (gx_fw D cls L3 K KM c0 c1 c2 c3) H := hP
  have hD : va_D (fun q : Nat => s.heap.size ≤ q) (gx_fw D cls L3 K KM c0 c1 c2 c3) := hD
  rw [gx_fx_eq] at hP hD
  have hPw := hP.sub gx_prm (gx_prm_fm D cls L3 K KM c0 c1 c2 c3 s.heap.size)
  have hDw := hD.sub gx_prm (by decide) (gx_prm_map D cls L3 K KM c0 c1 c2 c3 s.heap.size)
  obtain ⟨G, hG⟩ : ∃ G : gx_G, G = (D, gx_adr L3 K KM c0 c1 c2 c3, cls, s.heap.size) := ⟨_, rfl⟩
  rw [← hG] at hPw hDw
  have hG1 : G.1 = D := by rw [hG]
  have hG2 : G.2.2.2 = s.heap.size := by rw [hG]
  have hgD : gx_D G := fun j k hj hk h => hDw.1 j k _ _ (gx_ws_get hj) (gx_ws_get hk) h
  have hAs : ∀ q, gx_A G q → s.heap.size ≤ q := by
    intro q hq
    rcases hq with ⟨k, hk, rfl⟩ | hq
    · exact hDw.2 k _ (gx_ws_get hk)
    · rw [hG2] at hq; exact hq
  have hnA : ∀ a : Nat, a < s.heap.size → ¬ gx_A G a := fun a ha h => absurd (hAs a h) (Nat.not_le.mpr ha)
  have hgV : gx_V G s := ⟨hwd, by rw [hG]; exact hK0, hgD⟩
  have hgZ : gx_Z G s s.heap := gx_Z0 hts hgv hnA
  have hat : gx_at G (gx_I0, gx_V0s) (gx_J0, gx_U0) 0 0 s.heap H _ := ⟨by rw [hG1]; exact hPw, ⟨hS.1, fun q h1 _ => hS.2.1 q h1 (Nat.not_le.mpr h1), fun l hl => Or.inr (by rw [hG2]; exact hS.2.2 l hl)⟩, by rw [hG2]; exact Nat.le_refl _⟩
  have hl : lv_has ls 9 [(0, .ref b), (1, .ref (G.2.1 44)), (2, .ref (G.2.1 58)), (3, .ref (G.2.1 68)), (4, .ref (G.2.1 69)), (5, .int 0)] := by rw [hG]; exact lv_sub hl [5, 4, 3, 2, 1, 0] rfl
  exact w_law_L hl9 hx hb hr hlocks hml hown hgV hgZ hX hbl (hnA b hbl) hAs 1000 0 gx_I0 gx_V0s gx_J0 gx_U0 0 0 H _ ls 70 2744 (by omega) (by omega) hl hat (gx_math xs L hL)
