/-! X5.checkVersion -/
def xx5_checkVersion (u : swU) (x1 : Int32) : Option (Nat) :=
  if x1 < 0 then (some 1) else (if x1 < (u.1 0 6) then (some 0) else (some 1))

abbrev rmX5_checkVersion : Room := { frames := 6, cells := 1, slots := 6, locals := 90 }

set_option maxHeartbeats 4000000 in
set_option maxRecDepth 100000 in
theorem xm5_checkVersion (l : Launch) (hst : l.stackTraces = false) (D : va_G) (cy : Nat → ClassId) (ad : Nat → Nat) (u : swU) (x1 : Int32) (k0 : Nat) (h : xx5_checkVersion u x1 = some k0) : vx_Met l yX5_checkVersion wsX5_checkVersion rmX5_checkVersion (xwCK D cy ad u [.ref (ad 0), .int x1]) (xwKv k0) (xwKx k0) 1 6 (fun _ => False) := by
  refine vx_ofW (cc := cX5_checkVersion) (maxL := 2) (ret := none) (by decide) rfl ?_
  intro p e s m args below meth c s₁ B hml hex hv
  obtain ⟨ha, hP, hK, hX⟩ := hv
  have hout : ∀ (q : Nat), ∀ x ∈ c.exceptionTable.toList, covers x q = false := fun q x hx => (hex x hx).elim
  have hx := B.exec
  have hb := B.bytes
  have hr := B.returns
  have hlocks := B.notSynchronized
  have hts := atoms_spec (ws := wsX5_checkVersion) B.pre
  have hown : s.vm.findClass RX5 = some m.cls := findClass_of_methodNamed B.named
  have hin5 : ∀ w ∈ wsX50, w ∈ wsX5_checkVersion := by decide +kernel
  have f48 : (Cond.fieldLink RX5 48 "Slidewarden" "versionCount" "I").before args s = true := hts _ (by decide +kernel)
  have fi1 : (Cond.initialized "java/lang/IndexOutOfBoundsException").before args s = true := hts _ (by decide +kernel)
  have fk76 : (Cond.classLink RX5 76 "java/lang/IndexOutOfBoundsException").before args s = true := hts _ (by decide +kernel)
  have hm80 : ∀ w ∈ (vx_atS RX5 80 "java/lang/IndexOutOfBoundsException" swNs).filter goodWord, w ∈ wsX5_checkVersion := fun w h => by first | exact List.mem_cons_of_mem _ (List.mem_append_right _ h) | exact List.mem_cons_of_mem _ (List.mem_append_left _ (List.mem_append_right _ h)) | exact List.mem_cons_of_mem _ (List.mem_append_left _ (List.mem_append_left _ (List.mem_append_right _ h)))
  have hS : va_S (fun _ => False) s.heap s.heap [] := va_S.rf
  obtain ⟨ls, hl, hent⟩ := sw_entry m (n := 2) ha (Nat.le_of_ble_eq_true rfl)
  rw [hent]
  have hl : lv_has ls 2 [(0, .ref (ad 0)), (1, .int x1)] := hl
  unfold xx5_checkVersion at h
  refine lv_iload_n hx hb dX5_checkVersion_0 rfl (lv_at hl 1 rfl) ?_
  refine lv_if_lt (tgt := 12) hx hb dX5_checkVersion_1 (by decide) (fun cc => ?_) (fun cc => ?_)
  · replace h := sw_t h cc
    exact xw_thr1W (text := "no such version") hx hb hst hts hm80 hown fk76 fi1 hX (by decide +kernel) hS (fun _ _ h => h.elim) (hl.1.trans hml.symm) dX5_checkVersion_12 dX5_checkVersion_15 dX5_checkVersion_16 dX5_checkVersion_19 dX5_checkVersion_22 hout (by decide) (Nat.le_of_ble_eq_true rfl) (by decide) (by decide) hlocks (xw_xK h (by decide)) hS.2.2 (by decide) (by decide)
  · replace h := sw_f h cc
    refine lv_iload_n hx hb dX5_checkVersion_4 rfl (lv_at hl 1 rfl) ?_
    refine lv_aload_n hx hb dX5_checkVersion_5 rfl (lv_at hl 0 rfl) ?_
    refine xw_getO hx hb hts hin5 hown hK hP 6 (by decide) f48 rfl dX5_checkVersion_6 ?_
    refine lv_icmp_lt (tgt := 23) hx hb dX5_checkVersion_9 (by decide) (fun cc => ?_) (fun cc => ?_)
    · replace h := sw_t h cc
      refine W.widen (k := 1) (n := 6) (Nat.le_of_ble_eq_true rfl) (Nat.le_of_ble_eq_true rfl) ?_
      exact vx_ret (W.vret hx hb hr (fun t ht hW => ⟨⟨(), rfl, (sw_in1 h).symm, trivial⟩, hS.F ht⟩) hS.2.2 dX5_checkVersion_23 hlocks)
    · replace h := sw_f h cc
      exact xw_thr1W (text := "no such version") hx hb hst hts hm80 hown fk76 fi1 hX (by decide +kernel) hS (fun _ _ h => h.elim) (hl.1.trans hml.symm) dX5_checkVersion_12 dX5_checkVersion_15 dX5_checkVersion_16 dX5_checkVersion_19 dX5_checkVersion_22 hout (by decide) (Nat.le_of_ble_eq_true rfl) (by decide) (by decide) hlocks (xw_xK h (by decide)) hS.2.2 (by decide) (by decide)

/-! X5.checkBranch -/
def xx5_checkBranch (u : swU) (x1 : Int32) : Option (Nat) :=
  if x1 < 0 then (some 1) else (if x1 < (u.1 0 7) then (some 0) else (some 1))

abbrev rmX5_checkBranch : Room := { frames := 6, cells := 1, slots := 6, locals := 90 }

set_option maxHeartbeats 4000000 in
set_option maxRecDepth 100000 in
theorem xm5_checkBranch (l : Launch) (hst : l.stackTraces = false) (D : va_G) (cy : Nat → ClassId) (ad : Nat → Nat) (u : swU) (x1 : Int32) (k0 : Nat) (h : xx5_checkBranch u x1 = some k0) : vx_Met l yX5_checkBranch wsX5_checkBranch rmX5_checkBranch (xwCK D cy ad u [.ref (ad 0), .int x1]) (xwKv k0) (xwKx k0) 1 6 (fun _ => False) := by
  refine vx_ofW (cc := cX5_checkBranch) (maxL := 2) (ret := none) (by decide) rfl ?_
  intro p e s m args below meth c s₁ B hml hex hv
  obtain ⟨ha, hP, hK, hX⟩ := hv
  have hout : ∀ (q : Nat), ∀ x ∈ c.exceptionTable.toList, covers x q = false := fun q x hx => (hex x hx).elim
  have hx := B.exec
  have hb := B.bytes
  have hr := B.returns
  have hlocks := B.notSynchronized
  have hts := atoms_spec (ws := wsX5_checkBranch) B.pre
  have hown : s.vm.findClass RX5 = some m.cls := findClass_of_methodNamed B.named
  have hin5 : ∀ w ∈ wsX50, w ∈ wsX5_checkBranch := by decide +kernel
  have f52 : (Cond.fieldLink RX5 52 "Slidewarden" "branchCount" "I").before args s = true := hts _ (by decide +kernel)
  have fi1 : (Cond.initialized "java/lang/IndexOutOfBoundsException").before args s = true := hts _ (by decide +kernel)
  have fk76 : (Cond.classLink RX5 76 "java/lang/IndexOutOfBoundsException").before args s = true := hts _ (by decide +kernel)
  have hm80 : ∀ w ∈ (vx_atS RX5 80 "java/lang/IndexOutOfBoundsException" swNs).filter goodWord, w ∈ wsX5_checkBranch := fun w h => by first | exact List.mem_cons_of_mem _ (List.mem_append_right _ h) | exact List.mem_cons_of_mem _ (List.mem_append_left _ (List.mem_append_right _ h)) | exact List.mem_cons_of_mem _ (List.mem_append_left _ (List.mem_append_left _ (List.mem_append_right _ h)))
  have hS : va_S (fun _ => False) s.heap s.heap [] := va_S.rf
  obtain ⟨ls, hl, hent⟩ := sw_entry m (n := 2) ha (Nat.le_of_ble_eq_true rfl)
  rw [hent]
  have hl : lv_has ls 2 [(0, .ref (ad 0)), (1, .int x1)] := hl
  unfold xx5_checkBranch at h
  refine lv_iload_n hx hb dX5_checkBranch_0 rfl (lv_at hl 1 rfl) ?_
  refine lv_if_lt (tgt := 12) hx hb dX5_checkBranch_1 (by decide) (fun cc => ?_) (fun cc => ?_)
  · replace h := sw_t h cc
    exact xw_thr1W (text := "no such branch") hx hb hst hts hm80 hown fk76 fi1 hX (by decide +kernel) hS (fun _ _ h => h.elim) (hl.1.trans hml.symm) dX5_checkBranch_12 dX5_checkBranch_15 dX5_checkBranch_16 dX5_checkBranch_19 dX5_checkBranch_22 hout (by decide) (Nat.le_of_ble_eq_true rfl) (by decide) (by decide) hlocks (xw_xK h (by decide)) hS.2.2 (by decide) (by decide)
  · replace h := sw_f h cc
    refine lv_iload_n hx hb dX5_checkBranch_4 rfl (lv_at hl 1 rfl) ?_
    refine lv_aload_n hx hb dX5_checkBranch_5 rfl (lv_at hl 0 rfl) ?_
    refine xw_getO hx hb hts hin5 hown hK hP 7 (by decide) f52 rfl dX5_checkBranch_6 ?_
    refine lv_icmp_lt (tgt := 23) hx hb dX5_checkBranch_9 (by decide) (fun cc => ?_) (fun cc => ?_)
    · replace h := sw_t h cc
      refine W.widen (k := 1) (n := 6) (Nat.le_of_ble_eq_true rfl) (Nat.le_of_ble_eq_true rfl) ?_
      exact vx_ret (W.vret hx hb hr (fun t ht hW => ⟨⟨(), rfl, (sw_in1 h).symm, trivial⟩, hS.F ht⟩) hS.2.2 dX5_checkBranch_23 hlocks)
    · replace h := sw_f h cc
      exact xw_thr1W (text := "no such branch") hx hb hst hts hm80 hown fk76 fi1 hX (by decide +kernel) hS (fun _ _ h => h.elim) (hl.1.trans hml.symm) dX5_checkBranch_12 dX5_checkBranch_15 dX5_checkBranch_16 dX5_checkBranch_19 dX5_checkBranch_22 hout (by decide) (Nat.le_of_ble_eq_true rfl) (by decide) (by decide) hlocks (xw_xK h (by decide)) hS.2.2 (by decide) (by decide)

/-! X5.checkSlide -/
def xx5_checkSlide (u : swU) (x1 : Int32) : Option (Nat) :=
  if x1 < 0 then (some 1) else (if x1 < (u.1 0 8) then (some 0) else (some 1))

abbrev rmX5_checkSlide : Room := { frames := 6, cells := 1, slots := 6, locals := 90 }

set_option maxHeartbeats 4000000 in
set_option maxRecDepth 100000 in
theorem xm5_checkSlide (l : Launch) (hst : l.stackTraces = false) (D : va_G) (cy : Nat → ClassId) (ad : Nat → Nat) (u : swU) (x1 : Int32) (k0 : Nat) (h : xx5_checkSlide u x1 = some k0) : vx_Met l yX5_checkSlide wsX5_checkSlide rmX5_checkSlide (xwCK D cy ad u [.ref (ad 0), .int x1]) (xwKv k0) (xwKx k0) 1 6 (fun _ => False) := by
  refine vx_ofW (cc := cX5_checkSlide) (maxL := 2) (ret := none) (by decide) rfl ?_
  intro p e s m args below meth c s₁ B hml hex hv
  obtain ⟨ha, hP, hK, hX⟩ := hv
  have hout : ∀ (q : Nat), ∀ x ∈ c.exceptionTable.toList, covers x q = false := fun q x hx => (hex x hx).elim
  have hx := B.exec
  have hb := B.bytes
  have hr := B.returns
  have hlocks := B.notSynchronized
  have hts := atoms_spec (ws := wsX5_checkSlide) B.pre
  have hown : s.vm.findClass RX5 = some m.cls := findClass_of_methodNamed B.named
  have hin5 : ∀ w ∈ wsX50, w ∈ wsX5_checkSlide := by decide +kernel
  have f83 : (Cond.fieldLink RX5 83 "Slidewarden" "slideCount" "I").before args s = true := hts _ (by decide +kernel)
  have fi1 : (Cond.initialized "java/lang/IndexOutOfBoundsException").before args s = true := hts _ (by decide +kernel)
  have fk76 : (Cond.classLink RX5 76 "java/lang/IndexOutOfBoundsException").before args s = true := hts _ (by decide +kernel)
  have hm80 : ∀ w ∈ (vx_atS RX5 80 "java/lang/IndexOutOfBoundsException" swNs).filter goodWord, w ∈ wsX5_checkSlide := fun w h => by first | exact List.mem_cons_of_mem _ (List.mem_append_right _ h) | exact List.mem_cons_of_mem _ (List.mem_append_left _ (List.mem_append_right _ h)) | exact List.mem_cons_of_mem _ (List.mem_append_left _ (List.mem_append_left _ (List.mem_append_right _ h)))
  have hS : va_S (fun _ => False) s.heap s.heap [] := va_S.rf
  obtain ⟨ls, hl, hent⟩ := sw_entry m (n := 2) ha (Nat.le_of_ble_eq_true rfl)
  rw [hent]
  have hl : lv_has ls 2 [(0, .ref (ad 0)), (1, .int x1)] := hl
  unfold xx5_checkSlide at h
  refine lv_iload_n hx hb dX5_checkSlide_0 rfl (lv_at hl 1 rfl) ?_
  refine lv_if_lt (tgt := 12) hx hb dX5_checkSlide_1 (by decide) (fun cc => ?_) (fun cc => ?_)
  · replace h := sw_t h cc
    exact xw_thr1W (text := "no such slide") hx hb hst hts hm80 hown fk76 fi1 hX (by decide +kernel) hS (fun _ _ h => h.elim) (hl.1.trans hml.symm) dX5_checkSlide_12 dX5_checkSlide_15 dX5_checkSlide_16 dX5_checkSlide_19 dX5_checkSlide_22 hout (by decide) (Nat.le_of_ble_eq_true rfl) (by decide) (by decide) hlocks (xw_xK h (by decide)) hS.2.2 (by decide) (by decide)
  · replace h := sw_f h cc
    refine lv_iload_n hx hb dX5_checkSlide_4 rfl (lv_at hl 1 rfl) ?_
    refine lv_aload_n hx hb dX5_checkSlide_5 rfl (lv_at hl 0 rfl) ?_
    refine xw_getO hx hb hts hin5 hown hK hP 8 (by decide) f83 rfl dX5_checkSlide_6 ?_
    refine lv_icmp_lt (tgt := 23) hx hb dX5_checkSlide_9 (by decide) (fun cc => ?_) (fun cc => ?_)
    · replace h := sw_t h cc
      refine W.widen (k := 1) (n := 6) (Nat.le_of_ble_eq_true rfl) (Nat.le_of_ble_eq_true rfl) ?_
      exact vx_ret (W.vret hx hb hr (fun t ht hW => ⟨⟨(), rfl, (sw_in1 h).symm, trivial⟩, hS.F ht⟩) hS.2.2 dX5_checkSlide_23 hlocks)
    · replace h := sw_f h cc
      exact xw_thr1W (text := "no such slide") hx hb hst hts hm80 hown fk76 fi1 hX (by decide +kernel) hS (fun _ _ h => h.elim) (hl.1.trans hml.symm) dX5_checkSlide_12 dX5_checkSlide_15 dX5_checkSlide_16 dX5_checkSlide_19 dX5_checkSlide_22 hout (by decide) (Nat.le_of_ble_eq_true rfl) (by decide) (by decide) hlocks (xw_xK h (by decide)) hS.2.2 (by decide) (by decide)

/-! X5.checkObject -/
def xx5_checkObject (u : swU) (x0 : Int32) : Option (Nat) :=
  if x0 < 0 then (some 1) else (if x0 < 4 then (some 0) else (some 1))

abbrev rmX5_checkObject : Room := { frames := 6, cells := 1, slots := 6, locals := 90 }

set_option maxHeartbeats 4000000 in
set_option maxRecDepth 100000 in
theorem xm5_checkObject (l : Launch) (hst : l.stackTraces = false) (D : va_G) (cy : Nat → ClassId) (ad : Nat → Nat) (u : swU) (x0 : Int32) (k0 : Nat) (h : xx5_checkObject u x0 = some k0) : vx_Met l yX5_checkObject wsX5_checkObject rmX5_checkObject (xwCK D cy ad u [.int x0]) (xwKv k0) (xwKx k0) 1 6 (fun _ => False) := by
  refine vx_ofW (cc := cX5_checkObject) (maxL := 1) (ret := none) (by decide) rfl ?_
  intro p e s m args below meth c s₁ B hml hex hv
  obtain ⟨ha, hP, hK, hX⟩ := hv
  have hout : ∀ (q : Nat), ∀ x ∈ c.exceptionTable.toList, covers x q = false := fun q x hx => (hex x hx).elim
  have hx := B.exec
  have hb := B.bytes
  have hr := B.returns
  have hlocks := B.notSynchronized
  have hts := atoms_spec (ws := wsX5_checkObject) B.pre
  have hown : s.vm.findClass RX5 = some m.cls := findClass_of_methodNamed B.named
  have fi1 : (Cond.initialized "java/lang/IndexOutOfBoundsException").before args s = true := hts _ (by decide +kernel)
  have fk76 : (Cond.classLink RX5 76 "java/lang/IndexOutOfBoundsException").before args s = true := hts _ (by decide +kernel)
  have hm80 : ∀ w ∈ (vx_atS RX5 80 "java/lang/IndexOutOfBoundsException" swNs).filter goodWord, w ∈ wsX5_checkObject := fun w h => by first | exact List.mem_cons_of_mem _ (List.mem_append_right _ h) | exact List.mem_cons_of_mem _ (List.mem_append_left _ (List.mem_append_right _ h)) | exact List.mem_cons_of_mem _ (List.mem_append_left _ (List.mem_append_left _ (List.mem_append_right _ h)))
  have hS : va_S (fun _ => False) s.heap s.heap [] := va_S.rf
  obtain ⟨ls, hl, hent⟩ := sw_entry m (n := 1) ha (Nat.le_of_ble_eq_true rfl)
  rw [hent]
  have hl : lv_has ls 1 [(0, .int x0)] := hl
  unfold xx5_checkObject at h
  refine lv_iload_n hx hb dX5_checkObject_0 rfl (lv_at hl 0 rfl) ?_
  refine lv_if_lt (tgt := 9) hx hb dX5_checkObject_1 (by decide) (fun cc => ?_) (fun cc => ?_)
  · replace h := sw_t h cc
    exact xw_thr1W (text := "no such object") hx hb hst hts hm80 hown fk76 fi1 hX (by decide +kernel) hS (fun _ _ h => h.elim) (hl.1.trans hml.symm) dX5_checkObject_9 dX5_checkObject_12 dX5_checkObject_13 dX5_checkObject_16 dX5_checkObject_19 hout (by decide) (Nat.le_of_ble_eq_true rfl) (by decide) (by decide) hlocks (xw_xK h (by decide)) hS.2.2 (by decide) (by decide)
  · replace h := sw_f h cc
    refine lv_iload_n hx hb dX5_checkObject_4 rfl (lv_at hl 0 rfl) ?_
    refine lv_iconst (v := 4) hx hb dX5_checkObject_5 (by decide) ?_
    refine lv_icmp_lt (tgt := 20) hx hb dX5_checkObject_6 (by decide) (fun cc => ?_) (fun cc => ?_)
    · replace h := sw_t h cc
      refine W.widen (k := 1) (n := 6) (Nat.le_of_ble_eq_true rfl) (Nat.le_of_ble_eq_true rfl) ?_
      exact vx_ret (W.vret hx hb hr (fun t ht hW => ⟨⟨(), rfl, (sw_in1 h).symm, trivial⟩, hS.F ht⟩) hS.2.2 dX5_checkObject_20 hlocks)
    · replace h := sw_f h cc
      exact xw_thr1W (text := "no such object") hx hb hst hts hm80 hown fk76 fi1 hX (by decide +kernel) hS (fun _ _ h => h.elim) (hl.1.trans hml.symm) dX5_checkObject_9 dX5_checkObject_12 dX5_checkObject_13 dX5_checkObject_16 dX5_checkObject_19 hout (by decide) (Nat.le_of_ble_eq_true rfl) (by decide) (by decide) hlocks (xw_xK h (by decide)) hS.2.2 (by decide) (by decide)

/-! X5.checkRule -/
def xx5_checkRule (u : swU) (x1 : Int32) : Option (Nat) :=
  if x1 < 0 then (some 1) else (if x1 < (u.1 0 9) then (some 0) else (some 1))

abbrev rmX5_checkRule : Room := { frames := 6, cells := 1, slots := 6, locals := 90 }

set_option maxHeartbeats 4000000 in
set_option maxRecDepth 100000 in
theorem xm5_checkRule (l : Launch) (hst : l.stackTraces = false) (D : va_G) (cy : Nat → ClassId) (ad : Nat → Nat) (u : swU) (x1 : Int32) (k0 : Nat) (h : xx5_checkRule u x1 = some k0) : vx_Met l yX5_checkRule wsX5_checkRule rmX5_checkRule (xwCK D cy ad u [.ref (ad 0), .int x1]) (xwKv k0) (xwKx k0) 1 6 (fun _ => False) := by
  refine vx_ofW (cc := cX5_checkRule) (maxL := 2) (ret := none) (by decide) rfl ?_
  intro p e s m args below meth c s₁ B hml hex hv
  obtain ⟨ha, hP, hK, hX⟩ := hv
  have hout : ∀ (q : Nat), ∀ x ∈ c.exceptionTable.toList, covers x q = false := fun q x hx => (hex x hx).elim
  have hx := B.exec
  have hb := B.bytes
  have hr := B.returns
  have hlocks := B.notSynchronized
  have hts := atoms_spec (ws := wsX5_checkRule) B.pre
  have hown : s.vm.findClass RX5 = some m.cls := findClass_of_methodNamed B.named
  have hin5 : ∀ w ∈ wsX50, w ∈ wsX5_checkRule := by decide +kernel
  have f199 : (Cond.fieldLink RX5 199 "Slidewarden" "ruleCount" "I").before args s = true := hts _ (by decide +kernel)
  have fi1 : (Cond.initialized "java/lang/IndexOutOfBoundsException").before args s = true := hts _ (by decide +kernel)
  have fk76 : (Cond.classLink RX5 76 "java/lang/IndexOutOfBoundsException").before args s = true := hts _ (by decide +kernel)
  have hm80 : ∀ w ∈ (vx_atS RX5 80 "java/lang/IndexOutOfBoundsException" swNs).filter goodWord, w ∈ wsX5_checkRule := fun w h => by first | exact List.mem_cons_of_mem _ (List.mem_append_right _ h) | exact List.mem_cons_of_mem _ (List.mem_append_left _ (List.mem_append_right _ h)) | exact List.mem_cons_of_mem _ (List.mem_append_left _ (List.mem_append_left _ (List.mem_append_right _ h)))
  have hS : va_S (fun _ => False) s.heap s.heap [] := va_S.rf
  obtain ⟨ls, hl, hent⟩ := sw_entry m (n := 2) ha (Nat.le_of_ble_eq_true rfl)
  rw [hent]
  have hl : lv_has ls 2 [(0, .ref (ad 0)), (1, .int x1)] := hl
  unfold xx5_checkRule at h
  refine lv_iload_n hx hb dX5_checkRule_0 rfl (lv_at hl 1 rfl) ?_
  refine lv_if_lt (tgt := 12) hx hb dX5_checkRule_1 (by decide) (fun cc => ?_) (fun cc => ?_)
  · replace h := sw_t h cc
    exact xw_thr1W (text := "no such rule") hx hb hst hts hm80 hown fk76 fi1 hX (by decide +kernel) hS (fun _ _ h => h.elim) (hl.1.trans hml.symm) dX5_checkRule_12 dX5_checkRule_15 dX5_checkRule_16 dX5_checkRule_19 dX5_checkRule_22 hout (by decide) (Nat.le_of_ble_eq_true rfl) (by decide) (by decide) hlocks (xw_xK h (by decide)) hS.2.2 (by decide) (by decide)
  · replace h := sw_f h cc
    refine lv_iload_n hx hb dX5_checkRule_4 rfl (lv_at hl 1 rfl) ?_
    refine lv_aload_n hx hb dX5_checkRule_5 rfl (lv_at hl 0 rfl) ?_
    refine xw_getO hx hb hts hin5 hown hK hP 9 (by decide) f199 rfl dX5_checkRule_6 ?_
    refine lv_icmp_lt (tgt := 23) hx hb dX5_checkRule_9 (by decide) (fun cc => ?_) (fun cc => ?_)
    · replace h := sw_t h cc
      refine W.widen (k := 1) (n := 6) (Nat.le_of_ble_eq_true rfl) (Nat.le_of_ble_eq_true rfl) ?_
      exact vx_ret (W.vret hx hb hr (fun t ht hW => ⟨⟨(), rfl, (sw_in1 h).symm, trivial⟩, hS.F ht⟩) hS.2.2 dX5_checkRule_23 hlocks)
    · replace h := sw_f h cc
      exact xw_thr1W (text := "no such rule") hx hb hst hts hm80 hown fk76 fi1 hX (by decide +kernel) hS (fun _ _ h => h.elim) (hl.1.trans hml.symm) dX5_checkRule_12 dX5_checkRule_15 dX5_checkRule_16 dX5_checkRule_19 dX5_checkRule_22 hout (by decide) (Nat.le_of_ble_eq_true rfl) (by decide) (by decide) hlocks (xw_xK h (by decide)) hS.2.2 (by decide) (by decide)

/-! X5.checkDifferent -/
def xx5_checkDifferent (u : swU) (x0 : Int32) (x1 : Int32) : Option (Nat) :=
  if x0 = x1 then (some 2) else (some 0)

abbrev rmX5_checkDifferent : Room := { frames := 6, cells := 1, slots := 6, locals := 90 }

set_option maxHeartbeats 4000000 in
set_option maxRecDepth 100000 in
theorem xm5_checkDifferent (l : Launch) (hst : l.stackTraces = false) (D : va_G) (cy : Nat → ClassId) (ad : Nat → Nat) (u : swU) (x0 : Int32) (x1 : Int32) (k0 : Nat) (h : xx5_checkDifferent u x0 x1 = some k0) : vx_Met l yX5_checkDifferent wsX5_checkDifferent rmX5_checkDifferent (xwCK D cy ad u [.int x0, .int x1]) (xwKv k0) (xwKx k0) 1 6 (fun _ => False) := by
  refine vx_ofW (cc := cX5_checkDifferent) (maxL := 2) (ret := none) (by decide) rfl ?_
  intro p e s m args below meth c s₁ B hml hex hv
  obtain ⟨ha, hP, hK, hX⟩ := hv
  have hout : ∀ (q : Nat), ∀ x ∈ c.exceptionTable.toList, covers x q = false := fun q x hx => (hex x hx).elim
  have hx := B.exec
  have hb := B.bytes
  have hr := B.returns
  have hlocks := B.notSynchronized
  have hts := atoms_spec (ws := wsX5_checkDifferent) B.pre
  have hown : s.vm.findClass RX5 = some m.cls := findClass_of_methodNamed B.named
  have fi2 : (Cond.initialized "java/lang/IllegalArgumentException").before args s = true := hts _ (by decide +kernel)
  have fk106 : (Cond.classLink RX5 106 "java/lang/IllegalArgumentException").before args s = true := hts _ (by decide +kernel)
  have hm110 : ∀ w ∈ (vx_atS RX5 110 "java/lang/IllegalArgumentException" swNs).filter goodWord, w ∈ wsX5_checkDifferent := fun w h => by first | exact List.mem_cons_of_mem _ (List.mem_append_right _ h) | exact List.mem_cons_of_mem _ (List.mem_append_left _ (List.mem_append_right _ h)) | exact List.mem_cons_of_mem _ (List.mem_append_left _ (List.mem_append_left _ (List.mem_append_right _ h)))
  have hS : va_S (fun _ => False) s.heap s.heap [] := va_S.rf
  obtain ⟨ls, hl, hent⟩ := sw_entry m (n := 2) ha (Nat.le_of_ble_eq_true rfl)
  rw [hent]
  have hl : lv_has ls 2 [(0, .int x0), (1, .int x1)] := hl
  unfold xx5_checkDifferent at h
  refine lv_iload_n hx hb dX5_checkDifferent_0 rfl (lv_at hl 0 rfl) ?_
  refine lv_iload_n hx hb dX5_checkDifferent_1 rfl (lv_at hl 1 rfl) ?_
  refine lv_icmp_ne (tgt := 16) hx hb dX5_checkDifferent_2 (by decide) (fun cc => ?_) (fun cc => ?_)
  · replace h := sw_f h cc
    refine W.widen (k := 1) (n := 6) (Nat.le_of_ble_eq_true rfl) (Nat.le_of_ble_eq_true rfl) ?_
    exact vx_ret (W.vret hx hb hr (fun t ht hW => ⟨⟨(), rfl, (sw_in1 h).symm, trivial⟩, hS.F ht⟩) hS.2.2 dX5_checkDifferent_16 hlocks)
  · replace h := sw_t h cc
    exact xw_thr2W (text := "both branches are the same") hx hb hst hts hm110 hown fk106 fi2 hX (by decide +kernel) hS (fun _ _ h => h.elim) (hl.1.trans hml.symm) dX5_checkDifferent_5 dX5_checkDifferent_8 dX5_checkDifferent_9 dX5_checkDifferent_12 dX5_checkDifferent_15 hout (by decide) (Nat.le_of_ble_eq_true rfl) (by decide) (by decide) hlocks (xw_xK h (by decide)) hS.2.2 (by decide) (by decide)

/-! X5.checkRoomForVersion -/
def xx5_checkRoomForVersion (u : swU) : Option (Nat) :=
  if (u.1 0 6) < 40 then (some 0) else (some 3)

abbrev rmX5_checkRoomForVersion : Room := { frames := 6, cells := 1, slots := 6, locals := 90 }

set_option maxHeartbeats 4000000 in
set_option maxRecDepth 100000 in
theorem xm5_checkRoomForVersion (l : Launch) (hst : l.stackTraces = false) (D : va_G) (cy : Nat → ClassId) (ad : Nat → Nat) (u : swU) (k0 : Nat) (h : xx5_checkRoomForVersion u = some k0) : vx_Met l yX5_checkRoomForVersion wsX5_checkRoomForVersion rmX5_checkRoomForVersion (xwCK D cy ad u [.ref (ad 0)]) (xwKv k0) (xwKx k0) 1 6 (fun _ => False) := by
  refine vx_ofW (cc := cX5_checkRoomForVersion) (maxL := 1) (ret := none) (by decide) rfl ?_
  intro p e s m args below meth c s₁ B hml hex hv
  obtain ⟨ha, hP, hK, hX⟩ := hv
  have hout : ∀ (q : Nat), ∀ x ∈ c.exceptionTable.toList, covers x q = false := fun q x hx => (hex x hx).elim
  have hx := B.exec
  have hb := B.bytes
  have hr := B.returns
  have hlocks := B.notSynchronized
  have hts := atoms_spec (ws := wsX5_checkRoomForVersion) B.pre
  have hown : s.vm.findClass RX5 = some m.cls := findClass_of_methodNamed B.named
  have hin5 : ∀ w ∈ wsX50, w ∈ wsX5_checkRoomForVersion := by decide +kernel
  have f48 : (Cond.fieldLink RX5 48 "Slidewarden" "versionCount" "I").before args s = true := hts _ (by decide +kernel)
  have fi3 : (Cond.initialized "java/lang/IllegalStateException").before args s = true := hts _ (by decide +kernel)
  have fk59 : (Cond.classLink RX5 59 "java/lang/IllegalStateException").before args s = true := hts _ (by decide +kernel)
  have hm63 : ∀ w ∈ (vx_atS RX5 63 "java/lang/IllegalStateException" swNs).filter goodWord, w ∈ wsX5_checkRoomForVersion := fun w h => by first | exact List.mem_cons_of_mem _ (List.mem_append_right _ h) | exact List.mem_cons_of_mem _ (List.mem_append_left _ (List.mem_append_right _ h)) | exact List.mem_cons_of_mem _ (List.mem_append_left _ (List.mem_append_left _ (List.mem_append_right _ h)))
  have hS : va_S (fun _ => False) s.heap s.heap [] := va_S.rf
  obtain ⟨ls, hl, hent⟩ := sw_entry m (n := 1) ha (Nat.le_of_ble_eq_true rfl)
  rw [hent]
  have hl : lv_has ls 1 [(0, .ref (ad 0))] := hl
  unfold xx5_checkRoomForVersion at h
  refine lv_aload_n hx hb dX5_checkRoomForVersion_0 rfl (lv_at hl 0 rfl) ?_
  refine xw_getO hx hb hts hin5 hown hK hP 6 (by decide) f48 rfl dX5_checkRoomForVersion_1 ?_
  refine lv_bipush (v := 40) hx hb dX5_checkRoomForVersion_4 (by decide) ?_
  refine lv_icmp_lt (tgt := 20) hx hb dX5_checkRoomForVersion_6 (by decide) (fun cc => ?_) (fun cc => ?_)
  · replace h := sw_t h cc
    refine W.widen (k := 1) (n := 6) (Nat.le_of_ble_eq_true rfl) (Nat.le_of_ble_eq_true rfl) ?_
    exact vx_ret (W.vret hx hb hr (fun t ht hW => ⟨⟨(), rfl, (sw_in1 h).symm, trivial⟩, hS.F ht⟩) hS.2.2 dX5_checkRoomForVersion_20 hlocks)
  · replace h := sw_f h cc
    exact xw_thr3W (text := "there are 40 versions") hx hb hst hts hm63 hown fk59 fi3 hX (by decide +kernel) hS (fun _ _ h => h.elim) (hl.1.trans hml.symm) dX5_checkRoomForVersion_9 dX5_checkRoomForVersion_12 dX5_checkRoomForVersion_13 dX5_checkRoomForVersion_16 dX5_checkRoomForVersion_19 hout (by decide) (Nat.le_of_ble_eq_true rfl) (by decide) (by decide) hlocks (xw_xK h (by decide)) hS.2.2 (by decide) (by decide)

/-! X5.placeInHead -/
def xx5_placeInHead (u : swU) (x1 : Int32) (x2 : Int32) : Option (Nat × Int32) :=
  swbd (xx5_headDeck u x1) fun r2 => swbd (xx0_placeOf u r2 x2) fun r6 => if r6 = (-1) then (some (1, 0)) else (some (0, r6))

abbrev rmX5_placeInHead : Room := { frames := 6, cells := 1, slots := 6, locals := 90 }

set_option maxHeartbeats 4000000 in
set_option maxRecDepth 100000 in
theorem xm5_placeInHead (l : Launch) (hst : l.stackTraces = false) (D : va_G) (cy : Nat → ClassId) (ad : Nat → Nat) (u : swU) (x1 : Int32) (x2 : Int32) (k0 : Nat) (r0 : Int32) (h : xx5_placeInHead u x1 x2 = some (k0, r0)) : vx_Met l yX5_placeInHead wsX5_placeInHead rmX5_placeInHead (xwCK D cy ad u [.ref (ad 0), .int x1, .int x2]) (xwKi k0 r0) (xwKx k0) 1 6 (fun _ => False) := by
  refine vx_ofW (cc := cX5_placeInHead) (maxL := 4) (ret := (some .int)) (by decide) rfl ?_
  intro p e s m args below meth c s₁ B hml hex hv
  obtain ⟨ha, hP, hK, hX⟩ := hv
  have hout : ∀ (q : Nat), ∀ x ∈ c.exceptionTable.toList, covers x q = false := fun q x hx => (hex x hx).elim
  have hx := B.exec
  have hb := B.bytes
  have hr := B.returns
  have hlocks := B.notSynchronized
  have hts := atoms_spec (ws := wsX5_placeInHead) B.pre
  have hown : s.vm.findClass RX5 = some m.cls := findClass_of_methodNamed B.named
  have E : CallFix p m c cX5_placeInHead 4 s args wsX5_placeInHead RX5 := ⟨hx, hb, hml, hown, hts⟩
  have fi1 : (Cond.initialized "java/lang/IndexOutOfBoundsException").before args s = true := hts _ (by decide +kernel)
  have fk76 : (Cond.classLink RX5 76 "java/lang/IndexOutOfBoundsException").before args s = true := hts _ (by decide +kernel)
  have hm80 : ∀ w ∈ (vx_atS RX5 80 "java/lang/IndexOutOfBoundsException" swNs).filter goodWord, w ∈ wsX5_placeInHead := fun w h => by first | exact List.mem_cons_of_mem _ (List.mem_append_right _ h) | exact List.mem_cons_of_mem _ (List.mem_append_left _ (List.mem_append_right _ h)) | exact List.mem_cons_of_mem _ (List.mem_append_left _ (List.mem_append_left _ (List.mem_append_right _ h)))
  have hS : va_S (fun _ => False) s.heap s.heap [] := va_S.rf
  obtain ⟨ls, hl, hent⟩ := sw_entry m (n := 4) ha (Nat.le_of_ble_eq_true rfl)
  rw [hent]
  have hl : lv_has ls 4 [(0, .ref (ad 0)), (1, .int x1), (2, .int x2)] := hl
  unfold xx5_placeInHead at h
  refine lv_aload_n hx hb dX5_placeInHead_0 rfl (lv_at hl 0 rfl) ?_
  refine lv_iload_n hx hb dX5_placeInHead_1 rfl (lv_at hl 1 rfl) ?_
  obtain ⟨r2, er2, h⟩ := swbd_s h
  refine xw_callr (As := [.int x1]) (rest := []) E (xm5_headDeck l D cy ad u x1 _ er2) (cwV 1 hts gX5_placeInHead_X5_headDeck rfl rfl rfl (by decide +kernel) ⟨Nat.le_of_ble_eq_true rfl, Nat.le_of_ble_eq_true rfl⟩) hK hP (xw_rO hK hP) ⟨Nat.le_of_ble_eq_true rfl, Nat.le_of_ble_eq_true rfl⟩ rfl hl.1 rfl (Nat.le_of_ble_eq_true rfl) dX5_placeInHead_2 (fun hr2 => ?_)
  refine lv_iload_n hx hb dX5_placeInHead_5 rfl (lv_at hl 2 rfl) ?_
  obtain ⟨r6, er6, h⟩ := swbd_s h
  refine xw_calli (As := [.int x2]) (rest := []) E (xm0_placeOf l D cy ad u r2 x2 hr2 _ er6) (cwV 1 hts gX5_placeInHead_X0_placeOf rfl rfl rfl (by decide +kernel) ⟨Nat.le_of_ble_eq_true rfl, Nat.le_of_ble_eq_true rfl⟩) hK hP (xw_rD hK hP hr2) ⟨Nat.le_of_ble_eq_true rfl, Nat.le_of_ble_eq_true rfl⟩ rfl hl.1 rfl (Nat.le_of_ble_eq_true rfl) dX5_placeInHead_6 ?_
  refine lv_istore_n (lv' := [(3, .int r6), (0, .ref (ad 0)), (1, .int x1), (2, .int x2)]) hx hb dX5_placeInHead_9 rfl hl (by decide) rfl (fun ls hl => ?_)
  refine lv_iload_n hx hb dX5_placeInHead_10 rfl (lv_at hl 0 rfl) ?_
  refine lv_iconst (v := (-1)) hx hb dX5_placeInHead_11 (by decide) ?_
  refine lv_icmp_ne (tgt := 26) hx hb dX5_placeInHead_12 (by decide) (fun cc => ?_) (fun cc => ?_)
  · replace h := sw_f h cc
    refine lv_iload_n hx hb dX5_placeInHead_26 rfl (lv_at hl 0 rfl) ?_
    refine W.widen (k := 1) (n := 6) (Nat.le_of_ble_eq_true rfl) (Nat.le_of_ble_eq_true rfl) ?_
    exact vx_ret (W.iret hx hb hr (fun t ht hW => ⟨⟨_, (), rfl, ⟨(sw_inj h).1.symm, (sw_inj h).2⟩, trivial⟩, hS.F ht⟩) hS.2.2 dX5_placeInHead_27 hlocks)
  · replace h := sw_t h cc
    exact xw_thr1W (text := "no such slide in the head") hx hb hst hts hm80 hown fk76 fi1 hX (by decide +kernel) hS (fun _ _ h => h.elim) (hl.1.trans hml.symm) dX5_placeInHead_15 dX5_placeInHead_18 dX5_placeInHead_19 dX5_placeInHead_22 dX5_placeInHead_25 hout (by decide) (Nat.le_of_ble_eq_true rfl) (by decide) (by decide) hlocks (xw_xK2 h (by decide)) hS.2.2 (by decide) (by decide)

/-! X5.branch -/
def xx5_branch (u : swU) (x1 : Int32) : Option (Nat × Int32 × swU) :=
  swck (xx5_checkVersion u x1) (fun k => some (k, 0, u)) <| if (u.1 0 7) < 6 then (swlt (u.1 0 7) fun y28 => swgd (swix y28 6) <| swlt (swI u 1 y28.toNatClampNeg x1) fun u35 => swlt (swI u35 0 7 (y28 + 1)) fun u40 => some (0, y28, u40)) else (some (3, 0, u))

abbrev rmX5_branch : Room := { frames := 7, cells := 2, slots := 12, locals := 111 }

set_option maxHeartbeats 4000000 in
set_option maxRecDepth 100000 in
theorem xm5_branch (l : Launch) (hst : l.stackTraces = false) (D : va_G) (cy : Nat → ClassId) (ad : Nat → Nat) (hJ : swJ xw_N ad) (u : swU) (x1 : Int32) (sz : Nat) (k0 : Nat) (r0 : Int32) (u0 : swU) (h : xx5_branch u x1 = some (k0, r0, u0)) : vx_Met l yX5_branch wsX5_branch rmX5_branch (xwCX D cy ad u sz [.ref (ad 0), .int x1]) (xwPi D cy ad sz k0 r0 u0) (xwPx D cy ad sz k0 u0) 2 12 (xwA ad sz) := by
  refine vx_ofW (cc := cX5_branch) (maxL := 3) (ret := (some .int)) (by decide) rfl ?_
  intro p e s m args below meth c s₁ B hml hex hv
  obtain ⟨ha, hP, hK, hX, hsz⟩ := hv
  have hout : ∀ (q : Nat), ∀ x ∈ c.exceptionTable.toList, covers x q = false := fun q x hx => (hex x hx).elim
  have hx := B.exec
  have hb := B.bytes
  have hr := B.returns
  have hlocks := B.notSynchronized
  have hts := atoms_spec (ws := wsX5_branch) B.pre
  have hown : s.vm.findClass RX5 = some m.cls := findClass_of_methodNamed B.named
  have E : CallFix p m c cX5_branch 3 s args wsX5_branch RX5 := ⟨hx, hb, hml, hown, hts⟩
  have hin5 : ∀ w ∈ wsX50, w ∈ wsX5_branch := by decide +kernel
  have f15 : (Cond.fieldLink RX5 15 "Slidewarden" "heads" "[I").before args s = true := hts _ (by decide +kernel)
  have f52 : (Cond.fieldLink RX5 52 "Slidewarden" "branchCount" "I").before args s = true := hts _ (by decide +kernel)
  have fi3 : (Cond.initialized "java/lang/IllegalStateException").before args s = true := hts _ (by decide +kernel)
  have fk59 : (Cond.classLink RX5 59 "java/lang/IllegalStateException").before args s = true := hts _ (by decide +kernel)
  have hm63 : ∀ w ∈ (vx_atS RX5 63 "java/lang/IllegalStateException" swNs).filter goodWord, w ∈ wsX5_branch := fun w h => by first | exact List.mem_cons_of_mem _ (List.mem_append_right _ h) | exact List.mem_cons_of_mem _ (List.mem_append_left _ (List.mem_append_right _ h)) | exact List.mem_cons_of_mem _ (List.mem_append_left _ (List.mem_append_left _ (List.mem_append_right _ h)))
  have hS : va_S (xwA ad sz) s.heap s.heap [] := va_S.rf
  have hsz2 : ∀ q : Nat, s.heap.size ≤ q → xwA ad sz q := fun q hq => Or.inr (by rw [← hsz]; exact hq)
  obtain ⟨ls, hl, hent⟩ := sw_entry m (n := 3) ha (Nat.le_of_ble_eq_true rfl)
  rw [hent]
  have hl : lv_has ls 3 [(0, .ref (ad 0)), (1, .int x1)] := hl
  unfold xx5_branch at h
  refine lv_aload_n hx hb dX5_branch_0 rfl (lv_at hl 0 rfl) ?_
  refine lv_iload_n hx hb dX5_branch_1 rfl (lv_at hl 1 rfl) ?_
  obtain ⟨n2, en2, hq2, hex⟩ := swck_s h
  refine xw_ckv (As := [.int x1]) (rest := []) E (xm5_checkVersion l hst D cy ad u x1 _ en2) (cwV 1 hts gX5_branch_X5_checkVersion rfl rfl rfl (by decide +kernel) ⟨Nat.le_of_ble_eq_true rfl, Nat.le_of_ble_eq_true rfl⟩) hK hP hX (xw_frP hS hsz) hS ⟨Nat.le_of_ble_eq_true rfl, Nat.le_of_ble_eq_true rfl⟩ rfl hl.1 rfl (Nat.le_of_ble_eq_true rfl) dX5_branch_2 (fun hn ce q9 H locs hP hS hc hv hcl => xw_outP (hex hn) hn hout hlocks hc hv hcl hP hS (by decide) (by decide)) (fun hn H locs hP hS => ?_)
  replace h := hq2 hn
  refine lv_aload_n hx hb dX5_branch_5 rfl (lv_at hl 0 rfl) ?_
  refine xw_getO hx hb hts hin5 hown hK hP 7 (by decide) f52 rfl dX5_branch_6 ?_
  refine lv_bipush (v := 6) hx hb dX5_branch_9 (by decide) ?_
  refine lv_icmp_lt (tgt := 24) hx hb dX5_branch_11 (by decide) (fun cc => ?_) (fun cc => ?_)
  · replace h := sw_t h cc
    refine lv_aload_n hx hb dX5_branch_24 rfl (lv_at hl 0 rfl) ?_
    refine xw_getO hx hb hts hin5 hown hK hP 7 (by decide) f52 rfl dX5_branch_25 ?_
    obtain ⟨y28, ey28, h⟩ := swlt_s h
    refine sw_top ey28 ?_
    refine lv_istore_n (lv' := [(2, .int y28), (0, .ref (ad 0)), (1, .int x1)]) hx hb dX5_branch_28 rfl hl (by decide) rfl (fun ls hl => ?_)
    refine lv_aload_n hx hb dX5_branch_29 rfl (lv_at hl 1 rfl) ?_
    refine xw_getO hx hb hts hin5 hown hK hP 1 (by decide) f15 rfl dX5_branch_30 ?_
    refine lv_iload_n hx hb dX5_branch_33 rfl (lv_at hl 0 rfl) ?_
    refine lv_iload_n hx hb dX5_branch_34 rfl (lv_at hl 2 rfl) ?_
    obtain ⟨iu35, h⟩ := swgd_s h
    obtain ⟨u35, eu35, h⟩ := swlt_s h
    refine xw_ast hx hb hK hJ xw_A1 hP hS (by decide) (fun _ => rfl) (swix_s iu35) eu35 dX5_branch_35 (fun H locs hP hS => ?_)
    refine lv_aload_n hx hb dX5_branch_36 rfl (lv_at hl 1 rfl) ?_
    refine lv_iload_n hx hb dX5_branch_37 rfl (lv_at hl 0 rfl) ?_
    refine lv_iconst (v := 1) hx hb dX5_branch_38 (by decide) ?_
    refine lv_iadd hx hb dX5_branch_39 ?_
    obtain ⟨u40, eu40, h⟩ := swlt_s h
    refine xw_putO hx hb hts hin5 hown hK hJ xw_A1 hP hS 7 (by decide) f52 eu40 dX5_branch_40 (fun H locs hP hS => ?_)
    refine lv_iload_n hx hb dX5_branch_43 rfl (lv_at hl 0 rfl) ?_
    refine W.widen (k := 2) (n := 12) (Nat.le_of_ble_eq_true rfl) (Nat.le_of_ble_eq_true rfl) ?_
    exact vx_ret (W.iret hx hb hr (fun t ht hW => ⟨⟨_, (), rfl, ⟨(sw_inj3 h).1.symm, (sw_inj3 h).2.1⟩, xw_end hP ht (sw_inj3 h).2.2⟩, hS.F ht⟩) hS.2.2 dX5_branch_44 hlocks)
  · replace h := sw_f h cc
    exact xw_thr3 (text := "there are 6 branches") hx hb hst hts hm63 hown fk59 fi3 hX (by decide +kernel) hS (xw_hAP hsz) (hl.1.trans hml.symm) dX5_branch_14 dX5_branch_17 dX5_branch_18 dX5_branch_20 dX5_branch_23 hout (by decide) (Nat.le_of_ble_eq_true rfl) (by decide) (by decide) hlocks (xw_xP h (by decide) hP hS) hS.2.2 (by decide) (by decide)

/-! X5.add -/
def xx5_add (u : swU) (x1 : Int32) (x2 : Int32) : Option (Nat × Int32 × swU) :=
  swck (xx5_checkBranch u x1) (fun k => some (k, 0, u)) <| swbd (xx5_headDeck u x1) fun r7 => swlt (u.1 r7 2) fun y13 => if x2 < 0 then (some (1, 0, u)) else (if x2 ≤ y13 then (if y13 < 8 then (if (u.1 0 8) < 20 then (swck (xx5_checkRoomForVersion u) (fun k => some (k, 0, u)) <| swlt (u.1 0 8) fun y76 => swlt (swI u 0 8 (y76 + 1)) fun u83 => swbd (xx5_makeVersion u83 x1 (-1)) fun z89 => match z89 with | (r89, u89) => swbd (xx0_insert u89 r89 x2 y76) fun u95 => some (0, y76, u95)) else (some (3, 0, u))) else (some (3, 0, u))) else (some (1, 0, u)))

abbrev rmX5_add : Room := { frames := 7, cells := 2, slots := 12, locals := 111 }

set_option maxHeartbeats 4000000 in
set_option maxRecDepth 100000 in
theorem xm5_add (l : Launch) (hst : l.stackTraces = false) (D : va_G) (cy : Nat → ClassId) (ad : Nat → Nat) (hJ : swJ xw_N ad) (u : swU) (x1 : Int32) (x2 : Int32) (sz : Nat) (k0 : Nat) (r0 : Int32) (u0 : swU) (h : xx5_add u x1 x2 = some (k0, r0, u0)) : vx_Met l yX5_add wsX5_add rmX5_add (xwCX D cy ad u sz [.ref (ad 0), .int x1, .int x2]) (xwPi D cy ad sz k0 r0 u0) (xwPx D cy ad sz k0 u0) 2 12 (xwA ad sz) := by
  refine vx_ofW (cc := cX5_add) (maxL := 5) (ret := (some .int)) (by decide) rfl ?_
  intro p e s m args below meth c s₁ B hml hex hv
  obtain ⟨ha, hP, hK, hX, hsz⟩ := hv
  have hout : ∀ (q : Nat), ∀ x ∈ c.exceptionTable.toList, covers x q = false := fun q x hx => (hex x hx).elim
  have hx := B.exec
  have hb := B.bytes
  have hr := B.returns
  have hlocks := B.notSynchronized
  have hts := atoms_spec (ws := wsX5_add) B.pre
  have hown : s.vm.findClass RX5 = some m.cls := findClass_of_methodNamed B.named
  have E : CallFix p m c cX5_add 5 s args wsX5_add RX5 := ⟨hx, hb, hml, hown, hts⟩
  have hin0 : ∀ w ∈ wsX00, w ∈ wsX5_add := by decide +kernel
  have hin5 : ∀ w ∈ wsX50, w ∈ wsX5_add := by decide +kernel
  have f73 : (Cond.fieldLink RX5 73 "Slidewarden$Deck" "size" "I").before args s = true := hts _ (by decide +kernel)
  have f83 : (Cond.fieldLink RX5 83 "Slidewarden" "slideCount" "I").before args s = true := hts _ (by decide +kernel)
  have fi1 : (Cond.initialized "java/lang/IndexOutOfBoundsException").before args s = true := hts _ (by decide +kernel)
  have fi3 : (Cond.initialized "java/lang/IllegalStateException").before args s = true := hts _ (by decide +kernel)
  have fk59 : (Cond.classLink RX5 59 "java/lang/IllegalStateException").before args s = true := hts _ (by decide +kernel)
  have fk76 : (Cond.classLink RX5 76 "java/lang/IndexOutOfBoundsException").before args s = true := hts _ (by decide +kernel)
  have hm63 : ∀ w ∈ (vx_atS RX5 63 "java/lang/IllegalStateException" swNs).filter goodWord, w ∈ wsX5_add := fun w h => by first | exact List.mem_cons_of_mem _ (List.mem_append_right _ h) | exact List.mem_cons_of_mem _ (List.mem_append_left _ (List.mem_append_right _ h)) | exact List.mem_cons_of_mem _ (List.mem_append_left _ (List.mem_append_left _ (List.mem_append_right _ h)))
  have hm80 : ∀ w ∈ (vx_atS RX5 80 "java/lang/IndexOutOfBoundsException" swNs).filter goodWord, w ∈ wsX5_add := fun w h => by first | exact List.mem_cons_of_mem _ (List.mem_append_right _ h) | exact List.mem_cons_of_mem _ (List.mem_append_left _ (List.mem_append_right _ h)) | exact List.mem_cons_of_mem _ (List.mem_append_left _ (List.mem_append_left _ (List.mem_append_right _ h)))
  have hS : va_S (xwA ad sz) s.heap s.heap [] := va_S.rf
  have hsz2 : ∀ q : Nat, s.heap.size ≤ q → xwA ad sz q := fun q hq => Or.inr (by rw [← hsz]; exact hq)
  obtain ⟨ls, hl, hent⟩ := sw_entry m (n := 5) ha (Nat.le_of_ble_eq_true rfl)
  rw [hent]
  have hl : lv_has ls 5 [(0, .ref (ad 0)), (1, .int x1), (2, .int x2)] := hl
  unfold xx5_add at h
  refine lv_aload_n hx hb dX5_add_0 rfl (lv_at hl 0 rfl) ?_
  refine lv_iload_n hx hb dX5_add_1 rfl (lv_at hl 1 rfl) ?_
  obtain ⟨n2, en2, hq2, hex⟩ := swck_s h
  refine xw_ckv (As := [.int x1]) (rest := []) E (xm5_checkBranch l hst D cy ad u x1 _ en2) (cwV 1 hts gX5_add_X5_checkBranch rfl rfl rfl (by decide +kernel) ⟨Nat.le_of_ble_eq_true rfl, Nat.le_of_ble_eq_true rfl⟩) hK hP hX (xw_frP hS hsz) hS ⟨Nat.le_of_ble_eq_true rfl, Nat.le_of_ble_eq_true rfl⟩ rfl hl.1 rfl (Nat.le_of_ble_eq_true rfl) dX5_add_2 (fun hn ce q9 H locs hP hS hc hv hcl => xw_outP (hex hn) hn hout hlocks hc hv hcl hP hS (by decide) (by decide)) (fun hn H locs hP hS => ?_)
  replace h := hq2 hn
  refine lv_aload_n hx hb dX5_add_5 rfl (lv_at hl 0 rfl) ?_
  refine lv_iload_n hx hb dX5_add_6 rfl (lv_at hl 1 rfl) ?_
  obtain ⟨r7, er7, h⟩ := swbd_s h
  refine xw_callr (As := [.int x1]) (rest := []) E (xm5_headDeck l D cy ad u x1 _ er7) (cwV 1 hts gX5_add_X5_headDeck rfl rfl rfl (by decide +kernel) ⟨Nat.le_of_ble_eq_true rfl, Nat.le_of_ble_eq_true rfl⟩) hK hP (xw_rO hK hP) ⟨Nat.le_of_ble_eq_true rfl, Nat.le_of_ble_eq_true rfl⟩ rfl hl.1 rfl (Nat.le_of_ble_eq_true rfl) dX5_add_7 (fun hr7 => ?_)
  refine xw_getD hx hb hts hin0 hown hK hP hr7 2 (by decide) f73 rfl dX5_add_10 ?_
  obtain ⟨y13, ey13, h⟩ := swlt_s h
  refine sw_top ey13 ?_
  refine lv_istore_n (lv' := [(3, .int y13), (0, .ref (ad 0)), (1, .int x1), (2, .int x2)]) hx hb dX5_add_13 rfl hl (by decide) rfl (fun ls hl => ?_)
  refine lv_iload_n hx hb dX5_add_14 rfl (lv_at hl 3 rfl) ?_
  refine lv_if_lt (tgt := 23) hx hb dX5_add_15 (by decide) (fun cc => ?_) (fun cc => ?_)
  · replace h := sw_t h cc
    exact xw_thr1 (text := "no such place") hx hb hst hts hm80 hown fk76 fi1 hX (by decide +kernel) hS (xw_hAP hsz) (hl.1.trans hml.symm) dX5_add_23 dX5_add_26 dX5_add_27 dX5_add_29 dX5_add_32 hout (by decide) (Nat.le_of_ble_eq_true rfl) (by decide) (by decide) hlocks (xw_xP h (by decide) hP hS) hS.2.2 (by decide) (by decide)
  · replace h := sw_f h cc
    refine lv_iload_n hx hb dX5_add_18 rfl (lv_at hl 3 rfl) ?_
    refine lv_iload_n hx hb dX5_add_19 rfl (lv_at hl 0 rfl) ?_
    refine lv_icmp_le (tgt := 33) hx hb dX5_add_20 (by decide) (fun cc => ?_) (fun cc => ?_)
    · replace h := sw_t h cc
      refine lv_iload_n hx hb dX5_add_33 rfl (lv_at hl 0 rfl) ?_
      refine lv_bipush (v := 8) hx hb dX5_add_34 (by decide) ?_
      refine lv_icmp_lt (tgt := 49) hx hb dX5_add_36 (by decide) (fun cc => ?_) (fun cc => ?_)
      · replace h := sw_t h cc
        refine lv_aload_n hx hb dX5_add_49 rfl (lv_at hl 1 rfl) ?_
        refine xw_getO hx hb hts hin5 hown hK hP 8 (by decide) f83 rfl dX5_add_50 ?_
        refine lv_bipush (v := 20) hx hb dX5_add_53 (by decide) ?_
        refine lv_icmp_lt (tgt := 68) hx hb dX5_add_55 (by decide) (fun cc => ?_) (fun cc => ?_)
        · replace h := sw_t h cc
          refine lv_aload_n hx hb dX5_add_68 rfl (lv_at hl 1 rfl) ?_
          obtain ⟨n69, en69, hq69, hex⟩ := swck_s h
          refine xw_ckv (As := []) (rest := []) E (xm5_checkRoomForVersion l hst D cy ad u _ en69) (cwV 0 hts gX5_add_X5_checkRoomForVersion rfl rfl rfl (by decide +kernel) ⟨Nat.le_of_ble_eq_true rfl, Nat.le_of_ble_eq_true rfl⟩) hK hP hX (xw_frP hS hsz) hS ⟨Nat.le_of_ble_eq_true rfl, Nat.le_of_ble_eq_true rfl⟩ rfl hl.1 rfl (Nat.le_of_ble_eq_true rfl) dX5_add_69 (fun hn ce q9 H locs hP hS hc hv hcl => xw_outP (hex hn) hn hout hlocks hc hv hcl hP hS (by decide) (by decide)) (fun hn H locs hP hS => ?_)
          replace h := hq69 hn
          refine lv_aload_n hx hb dX5_add_72 rfl (lv_at hl 1 rfl) ?_
          refine xw_getO hx hb hts hin5 hown hK hP 8 (by decide) f83 rfl dX5_add_73 ?_
          obtain ⟨y76, ey76, h⟩ := swlt_s h
          refine sw_top ey76 ?_
          refine lv_istore (lv' := [(4, .int y76), (3, .int y13), (0, .ref (ad 0)), (1, .int x1), (2, .int x2)]) hx hb dX5_add_76 hl (by decide) rfl (fun ls hl => ?_)
          refine lv_aload_n hx hb dX5_add_78 rfl (lv_at hl 2 rfl) ?_
          refine lv_iload hx hb dX5_add_79 (lv_at hl 0 rfl) ?_
          refine lv_iconst (v := 1) hx hb dX5_add_81 (by decide) ?_
          refine lv_iadd hx hb dX5_add_82 ?_
          obtain ⟨u83, eu83, h⟩ := swlt_s h
          refine xw_putO hx hb hts hin5 hown hK hJ xw_A1 hP hS 8 (by decide) f83 eu83 dX5_add_83 (fun H locs hP hS => ?_)
          refine lv_aload_n hx hb dX5_add_86 rfl (lv_at hl 2 rfl) ?_
          refine lv_iload_n hx hb dX5_add_87 rfl (lv_at hl 3 rfl) ?_
          refine lv_iconst (v := (-1)) hx hb dX5_add_88 (by decide) ?_
          obtain ⟨⟨r89, u89⟩, er89, h⟩ := swbd_s h
          refine xw_callWr (As := [.int x1, .int (-1)]) (rest := []) E (xm5_makeVersion l D cy ad hJ u83 x1 (-1) _ _ er89) (cwV 2 hts gX5_add_X5_makeVersion rfl rfl rfl (by decide +kernel) ⟨Nat.le_of_ble_eq_true rfl, Nat.le_of_ble_eq_true rfl⟩) hK hP hS xw_A1 (xw_rO hK hP) ⟨Nat.le_of_ble_eq_true rfl, Nat.le_of_ble_eq_true rfl⟩ rfl hl.1 rfl (Nat.le_of_ble_eq_true rfl) dX5_add_89 (fun H locs hr89 hP hS => ?_)
          refine lv_iload_n hx hb dX5_add_92 rfl (lv_at hl 4 rfl) ?_
          refine lv_iload hx hb dX5_add_93 (lv_at hl 0 rfl) ?_
          obtain ⟨u95, er95, h⟩ := swbd_s h
          refine xw_callWv (As := [.int x2, .int y76]) (rest := []) E (xm0_insert l D cy ad hJ u89 r89 x2 y76 hr89 _ er95) (cwV 2 hts gX5_add_X0_insert rfl rfl rfl (by decide +kernel) ⟨Nat.le_of_ble_eq_true rfl, Nat.le_of_ble_eq_true rfl⟩) hK hP hS xw_A1 (xw_rD hK hP hr89) ⟨Nat.le_of_ble_eq_true rfl, Nat.le_of_ble_eq_true rfl⟩ rfl hl.1 rfl (Nat.le_of_ble_eq_true rfl) dX5_add_95 (fun H locs hP hS _ _ => ?_)
          refine lv_iload hx hb dX5_add_98 (lv_at hl 0 rfl) ?_
          refine W.widen (k := 2) (n := 12) (Nat.le_of_ble_eq_true rfl) (Nat.le_of_ble_eq_true rfl) ?_
          exact vx_ret (W.iret hx hb hr (fun t ht hW => ⟨⟨_, (), rfl, ⟨(sw_inj3 h).1.symm, (sw_inj3 h).2.1⟩, xw_end hP ht (sw_inj3 h).2.2⟩, hS.F ht⟩) hS.2.2 dX5_add_100 hlocks)
        · replace h := sw_f h cc
          exact xw_thr3 (text := "there were 20 slides") hx hb hst hts hm63 hown fk59 fi3 hX (by decide +kernel) hS (xw_hAP hsz) (hl.1.trans hml.symm) dX5_add_58 dX5_add_61 dX5_add_62 dX5_add_64 dX5_add_67 hout (by decide) (Nat.le_of_ble_eq_true rfl) (by decide) (by decide) hlocks (xw_xP h (by decide) hP hS) hS.2.2 (by decide) (by decide)
      · replace h := sw_f h cc
        exact xw_thr3 (text := "the head has 8 slides") hx hb hst hts hm63 hown fk59 fi3 hX (by decide +kernel) hS (xw_hAP hsz) (hl.1.trans hml.symm) dX5_add_39 dX5_add_42 dX5_add_43 dX5_add_45 dX5_add_48 hout (by decide) (Nat.le_of_ble_eq_true rfl) (by decide) (by decide) hlocks (xw_xP h (by decide) hP hS) hS.2.2 (by decide) (by decide)
    · replace h := sw_f h cc
      exact xw_thr1 (text := "no such place") hx hb hst hts hm80 hown fk76 fi1 hX (by decide +kernel) hS (xw_hAP hsz) (hl.1.trans hml.symm) dX5_add_23 dX5_add_26 dX5_add_27 dX5_add_29 dX5_add_32 hout (by decide) (Nat.le_of_ble_eq_true rfl) (by decide) (by decide) hlocks (xw_xP h (by decide) hP hS) hS.2.2 (by decide) (by decide)

/-! X5.set -/
def xx5_set (u : swU) (x1 : Int32) (x2 : Int32) (x3 : Int32) (x4 : Int32) : Option (Nat × Int32 × swU) :=
  swck (xx5_checkBranch u x1) (fun k => some (k, 0, u)) <| swcki (xx5_placeInHead u x1 x2) (fun k => some (k, 0, u)) fun r8 => swck (xx5_checkObject u x3) (fun k => some (k, 0, u)) <| if x4 < 0 then (some (2, 0, u)) else (if x4 ≤ 999 then (swck (xx5_checkRoomForVersion u) (fun k => some (k, 0, u)) <| swbd (xx5_makeVersion u x1 (-1)) fun z47 => match z47 with | (r47, u47) => swbd (xx0_valueAt u47 r47 r8 x3) fun r57 => swbd (xx0_put u47 r47 r8 x3 x4) fun u69 => some (0, r57, u69)) else (some (2, 0, u)))

abbrev rmX5_set : Room := { frames := 7, cells := 4, slots := 24, locals := 113 }

set_option maxHeartbeats 4000000 in
set_option maxRecDepth 100000 in
theorem xm5_set (l : Launch) (hst : l.stackTraces = false) (D : va_G) (cy : Nat → ClassId) (ad : Nat → Nat) (hJ : swJ xw_N ad) (u : swU) (x1 : Int32) (x2 : Int32) (x3 : Int32) (x4 : Int32) (sz : Nat) (k0 : Nat) (r0 : Int32) (u0 : swU) (h : xx5_set u x1 x2 x3 x4 = some (k0, r0, u0)) : vx_Met l yX5_set wsX5_set rmX5_set (xwCX D cy ad u sz [.ref (ad 0), .int x1, .int x2, .int x3, .int x4]) (xwPi D cy ad sz k0 r0 u0) (xwPx D cy ad sz k0 u0) 4 24 (xwA ad sz) := by
  refine vx_ofW (cc := cX5_set) (maxL := 8) (ret := (some .int)) (by decide) rfl ?_
  intro p e s m args below meth c s₁ B hml hex hv
  obtain ⟨ha, hP, hK, hX, hsz⟩ := hv
  have hout : ∀ (q : Nat), ∀ x ∈ c.exceptionTable.toList, covers x q = false := fun q x hx => (hex x hx).elim
  have hx := B.exec
  have hb := B.bytes
  have hr := B.returns
  have hlocks := B.notSynchronized
  have hts := atoms_spec (ws := wsX5_set) B.pre
  have hown : s.vm.findClass RX5 = some m.cls := findClass_of_methodNamed B.named
  have E : CallFix p m c cX5_set 8 s args wsX5_set RX5 := ⟨hx, hb, hml, hown, hts⟩
  have fi2 : (Cond.initialized "java/lang/IllegalArgumentException").before args s = true := hts _ (by decide +kernel)
  have fk106 : (Cond.classLink RX5 106 "java/lang/IllegalArgumentException").before args s = true := hts _ (by decide +kernel)
  have hm110 : ∀ w ∈ (vx_atS RX5 110 "java/lang/IllegalArgumentException" swNs).filter goodWord, w ∈ wsX5_set := fun w h => by first | exact List.mem_cons_of_mem _ (List.mem_append_right _ h) | exact List.mem_cons_of_mem _ (List.mem_append_left _ (List.mem_append_right _ h)) | exact List.mem_cons_of_mem _ (List.mem_append_left _ (List.mem_append_left _ (List.mem_append_right _ h)))
  have hS : va_S (xwA ad sz) s.heap s.heap [] := va_S.rf
  have hsz2 : ∀ q : Nat, s.heap.size ≤ q → xwA ad sz q := fun q hq => Or.inr (by rw [← hsz]; exact hq)
  obtain ⟨ls, hl, hent⟩ := sw_entry m (n := 8) ha (Nat.le_of_ble_eq_true rfl)
  rw [hent]
  have hl : lv_has ls 8 [(0, .ref (ad 0)), (1, .int x1), (2, .int x2), (3, .int x3), (4, .int x4)] := hl
  unfold xx5_set at h
  refine lv_aload_n hx hb dX5_set_0 rfl (lv_at hl 0 rfl) ?_
  refine lv_iload_n hx hb dX5_set_1 rfl (lv_at hl 1 rfl) ?_
  obtain ⟨n2, en2, hq2, hex⟩ := swck_s h
  refine xw_ckv (As := [.int x1]) (rest := []) E (xm5_checkBranch l hst D cy ad u x1 _ en2) (cwV 1 hts gX5_set_X5_checkBranch rfl rfl rfl (by decide +kernel) ⟨Nat.le_of_ble_eq_true rfl, Nat.le_of_ble_eq_true rfl⟩) hK hP hX (xw_frP hS hsz) hS ⟨Nat.le_of_ble_eq_true rfl, Nat.le_of_ble_eq_true rfl⟩ rfl hl.1 rfl (Nat.le_of_ble_eq_true rfl) dX5_set_2 (fun hn ce q9 H locs hP hS hc hv hcl => xw_outP (hex hn) hn hout hlocks hc hv hcl hP hS (by decide) (by decide)) (fun hn H locs hP hS => ?_)
  replace h := hq2 hn
  refine lv_aload_n hx hb dX5_set_5 rfl (lv_at hl 0 rfl) ?_
  refine lv_iload_n hx hb dX5_set_6 rfl (lv_at hl 1 rfl) ?_
  refine lv_iload_n hx hb dX5_set_7 rfl (lv_at hl 2 rfl) ?_
  obtain ⟨n8, r8, en8, hq8, hex⟩ := swcki_s h
  refine xw_cki (As := [.int x1, .int x2]) (rest := []) E (xm5_placeInHead l hst D cy ad u x1 x2 _ _ en8) (cwV 2 hts gX5_set_X5_placeInHead rfl rfl rfl (by decide +kernel) ⟨Nat.le_of_ble_eq_true rfl, Nat.le_of_ble_eq_true rfl⟩) hK hP hX (xw_frP hS hsz) hS ⟨Nat.le_of_ble_eq_true rfl, Nat.le_of_ble_eq_true rfl⟩ rfl hl.1 rfl (Nat.le_of_ble_eq_true rfl) dX5_set_8 (fun hn ce q9 H locs hP hS hc hv hcl => xw_outP (hex hn) hn hout hlocks hc hv hcl hP hS (by decide) (by decide)) (fun hn H locs hP hS => ?_)
  replace h := hq8 hn
  refine lv_istore (lv' := [(5, .int r8), (0, .ref (ad 0)), (1, .int x1), (2, .int x2), (3, .int x3), (4, .int x4)]) hx hb dX5_set_11 hl (by decide) rfl (fun ls hl => ?_)
  refine lv_iload_n hx hb dX5_set_13 rfl (lv_at hl 4 rfl) ?_
  obtain ⟨n14, en14, hq14, hex⟩ := swck_s h
  refine xw_ckS (As := [.int x3]) (rest := []) E (xm5_checkObject l hst D cy ad u x3 _ en14) (va_cwS 1 hts gX5_set_X5_checkObject rfl rfl rfl (by decide +kernel) ⟨Nat.le_of_ble_eq_true rfl, Nat.le_of_ble_eq_true rfl⟩) hK hP hX (xw_frP hS hsz) hS ⟨Nat.le_of_ble_eq_true rfl, Nat.le_of_ble_eq_true rfl⟩ rfl hl.1 rfl (Nat.le_of_ble_eq_true rfl) dX5_set_14 (fun hn ce q9 H locs hP hS hc hv hcl => xw_outP (hex hn) hn hout hlocks hc hv hcl hP hS (by decide) (by decide)) (fun hn H locs hP hS => ?_)
  replace h := hq14 hn
  refine lv_iload hx hb dX5_set_17 (lv_at hl 5 rfl) ?_
  refine lv_if_lt (tgt := 30) hx hb dX5_set_19 (by decide) (fun cc => ?_) (fun cc => ?_)
  · replace h := sw_t h cc
    exact xw_thr2 (text := "the value is out of range") hx hb hst hts hm110 hown fk106 fi2 hX (by decide +kernel) hS (xw_hAP hsz) (hl.1.trans hml.symm) dX5_set_30 dX5_set_33 dX5_set_34 dX5_set_36 dX5_set_39 hout (by decide) (Nat.le_of_ble_eq_true rfl) (by decide) (by decide) hlocks (xw_xP h (by decide) hP hS) hS.2.2 (by decide) (by decide)
  · replace h := sw_f h cc
    refine lv_iload hx hb dX5_set_22 (lv_at hl 5 rfl) ?_
    refine lv_sipush (v := 999) hx hb dX5_set_24 (by decide) ?_
    refine lv_icmp_le (tgt := 40) hx hb dX5_set_27 (by decide) (fun cc => ?_) (fun cc => ?_)
    · replace h := sw_t h cc
      refine lv_aload_n hx hb dX5_set_40 rfl (lv_at hl 1 rfl) ?_
      obtain ⟨n41, en41, hq41, hex⟩ := swck_s h
      refine xw_ckv (As := []) (rest := []) E (xm5_checkRoomForVersion l hst D cy ad u _ en41) (cwV 0 hts gX5_set_X5_checkRoomForVersion rfl rfl rfl (by decide +kernel) ⟨Nat.le_of_ble_eq_true rfl, Nat.le_of_ble_eq_true rfl⟩) hK hP hX (xw_frP hS hsz) hS ⟨Nat.le_of_ble_eq_true rfl, Nat.le_of_ble_eq_true rfl⟩ rfl hl.1 rfl (Nat.le_of_ble_eq_true rfl) dX5_set_41 (fun hn ce q9 H locs hP hS hc hv hcl => xw_outP (hex hn) hn hout hlocks hc hv hcl hP hS (by decide) (by decide)) (fun hn H locs hP hS => ?_)
      replace h := hq41 hn
      refine lv_aload_n hx hb dX5_set_44 rfl (lv_at hl 1 rfl) ?_
      refine lv_iload_n hx hb dX5_set_45 rfl (lv_at hl 2 rfl) ?_
      refine lv_iconst (v := (-1)) hx hb dX5_set_46 (by decide) ?_
      obtain ⟨⟨r47, u47⟩, er47, h⟩ := swbd_s h
      refine xw_callWr (As := [.int x1, .int (-1)]) (rest := []) E (xm5_makeVersion l D cy ad hJ u x1 (-1) _ _ er47) (cwV 2 hts gX5_set_X5_makeVersion rfl rfl rfl (by decide +kernel) ⟨Nat.le_of_ble_eq_true rfl, Nat.le_of_ble_eq_true rfl⟩) hK hP hS xw_A1 (xw_rO hK hP) ⟨Nat.le_of_ble_eq_true rfl, Nat.le_of_ble_eq_true rfl⟩ rfl hl.1 rfl (Nat.le_of_ble_eq_true rfl) dX5_set_47 (fun H locs hr47 hP hS => ?_)
      refine lv_astore (lv' := [(6, .ref (ad r47)), (5, .int r8), (0, .ref (ad 0)), (1, .int x1), (2, .int x2), (3, .int x3), (4, .int x4)]) hx hb dX5_set_50 hl (by decide) rfl (fun ls hl => ?_)
      refine lv_aload hx hb dX5_set_52 (lv_at hl 0 rfl) ?_
      refine lv_iload hx hb dX5_set_54 (lv_at hl 1 rfl) ?_
      refine lv_iload_n hx hb dX5_set_56 rfl (lv_at hl 5 rfl) ?_
      obtain ⟨r57, er57, h⟩ := swbd_s h
      refine xw_calli (As := [.int r8, .int x3]) (rest := []) E (xm0_valueAt l D cy ad u47 r47 r8 x3 hr47 _ er57) (cwV 2 hts gX5_set_X0_valueAt rfl rfl rfl (by decide +kernel) ⟨Nat.le_of_ble_eq_true rfl, Nat.le_of_ble_eq_true rfl⟩) hK hP (xw_rD hK hP hr47) ⟨Nat.le_of_ble_eq_true rfl, Nat.le_of_ble_eq_true rfl⟩ rfl hl.1 rfl (Nat.le_of_ble_eq_true rfl) dX5_set_57 ?_
      refine lv_istore (lv' := [(7, .int r57), (6, .ref (ad r47)), (5, .int r8), (0, .ref (ad 0)), (1, .int x1), (2, .int x2), (3, .int x3), (4, .int x4)]) hx hb dX5_set_60 hl (by decide) rfl (fun ls hl => ?_)
      refine lv_aload hx hb dX5_set_62 (lv_at hl 1 rfl) ?_
      refine lv_iload hx hb dX5_set_64 (lv_at hl 2 rfl) ?_
      refine lv_iload_n hx hb dX5_set_66 rfl (lv_at hl 6 rfl) ?_
      refine lv_iload hx hb dX5_set_67 (lv_at hl 7 rfl) ?_
      obtain ⟨u69, er69, h⟩ := swbd_s h
      refine xw_callWv (As := [.int r8, .int x3, .int x4]) (rest := []) E (xm0_put l D cy ad hJ u47 r47 r8 x3 x4 hr47 _ er69) (cwV 3 hts gX5_set_X0_put rfl rfl rfl (by decide +kernel) ⟨Nat.le_of_ble_eq_true rfl, Nat.le_of_ble_eq_true rfl⟩) hK hP hS xw_A1 (xw_rD hK hP hr47) ⟨Nat.le_of_ble_eq_true rfl, Nat.le_of_ble_eq_true rfl⟩ rfl hl.1 rfl (Nat.le_of_ble_eq_true rfl) dX5_set_69 (fun H locs hP hS _ _ => ?_)
      refine lv_iload hx hb dX5_set_72 (lv_at hl 0 rfl) ?_
      refine W.widen (k := 4) (n := 24) (Nat.le_of_ble_eq_true rfl) (Nat.le_of_ble_eq_true rfl) ?_
      exact vx_ret (W.iret hx hb hr (fun t ht hW => ⟨⟨_, (), rfl, ⟨(sw_inj3 h).1.symm, (sw_inj3 h).2.1⟩, xw_end hP ht (sw_inj3 h).2.2⟩, hS.F ht⟩) hS.2.2 dX5_set_74 hlocks)
    · replace h := sw_f h cc
      exact xw_thr2 (text := "the value is out of range") hx hb hst hts hm110 hown fk106 fi2 hX (by decide +kernel) hS (xw_hAP hsz) (hl.1.trans hml.symm) dX5_set_30 dX5_set_33 dX5_set_34 dX5_set_36 dX5_set_39 hout (by decide) (Nat.le_of_ble_eq_true rfl) (by decide) (by decide) hlocks (xw_xP h (by decide) hP hS) hS.2.2 (by decide) (by decide)

/-! X5.drop -/
def xx5_drop (u : swU) (x1 : Int32) (x2 : Int32) : Option (Nat × Int32 × swU) :=
  swck (xx5_checkBranch u x1) (fun k => some (k, 0, u)) <| swcki (xx5_placeInHead u x1 x2) (fun k => some (k, 0, u)) fun r8 => swck (xx5_checkRoomForVersion u) (fun k => some (k, 0, u)) <| swbd (xx5_makeVersion u x1 (-1)) fun z19 => match z19 with | (r19, u19) => swbd (xx0_removeAt u19 r19 r8) fun u23 => swrd 6 (u23.1 1) x1 fun a31 => some (0, a31, u23)

abbrev rmX5_drop : Room := { frames := 7, cells := 3, slots := 18, locals := 113 }

set_option maxHeartbeats 4000000 in
set_option maxRecDepth 100000 in
theorem xm5_drop (l : Launch) (hst : l.stackTraces = false) (D : va_G) (cy : Nat → ClassId) (ad : Nat → Nat) (hJ : swJ xw_N ad) (u : swU) (x1 : Int32) (x2 : Int32) (sz : Nat) (k0 : Nat) (r0 : Int32) (u0 : swU) (h : xx5_drop u x1 x2 = some (k0, r0, u0)) : vx_Met l yX5_drop wsX5_drop rmX5_drop (xwCX D cy ad u sz [.ref (ad 0), .int x1, .int x2]) (xwPi D cy ad sz k0 r0 u0) (xwPx D cy ad sz k0 u0) 3 18 (xwA ad sz) := by
  refine vx_ofW (cc := cX5_drop) (maxL := 4) (ret := (some .int)) (by decide) rfl ?_
  intro p e s m args below meth c s₁ B hml hex hv
  obtain ⟨ha, hP, hK, hX, hsz⟩ := hv
  have hout : ∀ (q : Nat), ∀ x ∈ c.exceptionTable.toList, covers x q = false := fun q x hx => (hex x hx).elim
  have hx := B.exec
  have hb := B.bytes
  have hr := B.returns
  have hlocks := B.notSynchronized
  have hts := atoms_spec (ws := wsX5_drop) B.pre
  have hown : s.vm.findClass RX5 = some m.cls := findClass_of_methodNamed B.named
  have E : CallFix p m c cX5_drop 4 s args wsX5_drop RX5 := ⟨hx, hb, hml, hown, hts⟩
  have hin5 : ∀ w ∈ wsX50, w ∈ wsX5_drop := by decide +kernel
  have f15 : (Cond.fieldLink RX5 15 "Slidewarden" "heads" "[I").before args s = true := hts _ (by decide +kernel)
  have hS : va_S (xwA ad sz) s.heap s.heap [] := va_S.rf
  have hsz2 : ∀ q : Nat, s.heap.size ≤ q → xwA ad sz q := fun q hq => Or.inr (by rw [← hsz]; exact hq)
  obtain ⟨ls, hl, hent⟩ := sw_entry m (n := 4) ha (Nat.le_of_ble_eq_true rfl)
  rw [hent]
  have hl : lv_has ls 4 [(0, .ref (ad 0)), (1, .int x1), (2, .int x2)] := hl
  unfold xx5_drop at h
  refine lv_aload_n hx hb dX5_drop_0 rfl (lv_at hl 0 rfl) ?_
  refine lv_iload_n hx hb dX5_drop_1 rfl (lv_at hl 1 rfl) ?_
  obtain ⟨n2, en2, hq2, hex⟩ := swck_s h
  refine xw_ckv (As := [.int x1]) (rest := []) E (xm5_checkBranch l hst D cy ad u x1 _ en2) (cwV 1 hts gX5_drop_X5_checkBranch rfl rfl rfl (by decide +kernel) ⟨Nat.le_of_ble_eq_true rfl, Nat.le_of_ble_eq_true rfl⟩) hK hP hX (xw_frP hS hsz) hS ⟨Nat.le_of_ble_eq_true rfl, Nat.le_of_ble_eq_true rfl⟩ rfl hl.1 rfl (Nat.le_of_ble_eq_true rfl) dX5_drop_2 (fun hn ce q9 H locs hP hS hc hv hcl => xw_outP (hex hn) hn hout hlocks hc hv hcl hP hS (by decide) (by decide)) (fun hn H locs hP hS => ?_)
  replace h := hq2 hn
  refine lv_aload_n hx hb dX5_drop_5 rfl (lv_at hl 0 rfl) ?_
  refine lv_iload_n hx hb dX5_drop_6 rfl (lv_at hl 1 rfl) ?_
  refine lv_iload_n hx hb dX5_drop_7 rfl (lv_at hl 2 rfl) ?_
  obtain ⟨n8, r8, en8, hq8, hex⟩ := swcki_s h
  refine xw_cki (As := [.int x1, .int x2]) (rest := []) E (xm5_placeInHead l hst D cy ad u x1 x2 _ _ en8) (cwV 2 hts gX5_drop_X5_placeInHead rfl rfl rfl (by decide +kernel) ⟨Nat.le_of_ble_eq_true rfl, Nat.le_of_ble_eq_true rfl⟩) hK hP hX (xw_frP hS hsz) hS ⟨Nat.le_of_ble_eq_true rfl, Nat.le_of_ble_eq_true rfl⟩ rfl hl.1 rfl (Nat.le_of_ble_eq_true rfl) dX5_drop_8 (fun hn ce q9 H locs hP hS hc hv hcl => xw_outP (hex hn) hn hout hlocks hc hv hcl hP hS (by decide) (by decide)) (fun hn H locs hP hS => ?_)
  replace h := hq8 hn
  refine lv_istore_n (lv' := [(3, .int r8), (0, .ref (ad 0)), (1, .int x1), (2, .int x2)]) hx hb dX5_drop_11 rfl hl (by decide) rfl (fun ls hl => ?_)
  refine lv_aload_n hx hb dX5_drop_12 rfl (lv_at hl 1 rfl) ?_
  obtain ⟨n13, en13, hq13, hex⟩ := swck_s h
  refine xw_ckv (As := []) (rest := []) E (xm5_checkRoomForVersion l hst D cy ad u _ en13) (cwV 0 hts gX5_drop_X5_checkRoomForVersion rfl rfl rfl (by decide +kernel) ⟨Nat.le_of_ble_eq_true rfl, Nat.le_of_ble_eq_true rfl⟩) hK hP hX (xw_frP hS hsz) hS ⟨Nat.le_of_ble_eq_true rfl, Nat.le_of_ble_eq_true rfl⟩ rfl hl.1 rfl (Nat.le_of_ble_eq_true rfl) dX5_drop_13 (fun hn ce q9 H locs hP hS hc hv hcl => xw_outP (hex hn) hn hout hlocks hc hv hcl hP hS (by decide) (by decide)) (fun hn H locs hP hS => ?_)
  replace h := hq13 hn
  refine lv_aload_n hx hb dX5_drop_16 rfl (lv_at hl 1 rfl) ?_
  refine lv_iload_n hx hb dX5_drop_17 rfl (lv_at hl 2 rfl) ?_
  refine lv_iconst (v := (-1)) hx hb dX5_drop_18 (by decide) ?_
  obtain ⟨⟨r19, u19⟩, er19, h⟩ := swbd_s h
  refine xw_callWr (As := [.int x1, .int (-1)]) (rest := []) E (xm5_makeVersion l D cy ad hJ u x1 (-1) _ _ er19) (cwV 2 hts gX5_drop_X5_makeVersion rfl rfl rfl (by decide +kernel) ⟨Nat.le_of_ble_eq_true rfl, Nat.le_of_ble_eq_true rfl⟩) hK hP hS xw_A1 (xw_rO hK hP) ⟨Nat.le_of_ble_eq_true rfl, Nat.le_of_ble_eq_true rfl⟩ rfl hl.1 rfl (Nat.le_of_ble_eq_true rfl) dX5_drop_19 (fun H locs hr19 hP hS => ?_)
  refine lv_iload_n hx hb dX5_drop_22 rfl (lv_at hl 0 rfl) ?_
  obtain ⟨u23, er23, h⟩ := swbd_s h
  refine xw_callWv (As := [.int r8]) (rest := []) E (xm0_removeAt l D cy ad hJ u19 r19 r8 hr19 _ er23) (cwV 1 hts gX5_drop_X0_removeAt rfl rfl rfl (by decide +kernel) ⟨Nat.le_of_ble_eq_true rfl, Nat.le_of_ble_eq_true rfl⟩) hK hP hS xw_A1 (xw_rD hK hP hr19) ⟨Nat.le_of_ble_eq_true rfl, Nat.le_of_ble_eq_true rfl⟩ rfl hl.1 rfl (Nat.le_of_ble_eq_true rfl) dX5_drop_23 (fun H locs hP hS _ _ => ?_)
  refine lv_aload_n hx hb dX5_drop_26 rfl (lv_at hl 1 rfl) ?_
  refine xw_getO hx hb hts hin5 hown hK hP 1 (by decide) f15 rfl dX5_drop_27 ?_
  refine lv_iload_n hx hb dX5_drop_30 rfl (lv_at hl 2 rfl) ?_
  obtain ⟨a31, ea31, ia31, h⟩ := swrd_s h
  refine xw_ald hx hb hK hP (by decide) rfl ia31 dX5_drop_31 ea31 ?_
  refine W.widen (k := 3) (n := 18) (Nat.le_of_ble_eq_true rfl) (Nat.le_of_ble_eq_true rfl) ?_
  exact vx_ret (W.iret hx hb hr (fun t ht hW => ⟨⟨_, (), rfl, ⟨(sw_inj3 h).1.symm, (sw_inj3 h).2.1⟩, xw_end hP ht (sw_inj3 h).2.2⟩, hS.F ht⟩) hS.2.2 dX5_drop_32 hlocks)

/-! X5.head -/
def xx5_head (u : swU) (x1 : Int32) : Option (Nat × Int32 × swU) :=
  swck (xx5_checkBranch u x1) (fun k => some (k, 0, u)) <| swrd 6 (u.1 1) x1 fun a10 => some (0, a10, u)

abbrev rmX5_head : Room := { frames := 7, cells := 1, slots := 6, locals := 111 }

set_option maxHeartbeats 4000000 in
set_option maxRecDepth 100000 in
theorem xm5_head (l : Launch) (hst : l.stackTraces = false) (D : va_G) (cy : Nat → ClassId) (ad : Nat → Nat) (hJ : swJ xw_N ad) (u : swU) (x1 : Int32) (sz : Nat) (k0 : Nat) (r0 : Int32) (u0 : swU) (h : xx5_head u x1 = some (k0, r0, u0)) : vx_Met l yX5_head wsX5_head rmX5_head (xwCX D cy ad u sz [.ref (ad 0), .int x1]) (xwPi D cy ad sz k0 r0 u0) (xwPx D cy ad sz k0 u0) 1 6 (xwA ad sz) := by
  refine vx_ofW (cc := cX5_head) (maxL := 2) (ret := (some .int)) (by decide) rfl ?_
  intro p e s m args below meth c s₁ B hml hex hv
  obtain ⟨ha, hP, hK, hX, hsz⟩ := hv
  have hout : ∀ (q : Nat), ∀ x ∈ c.exceptionTable.toList, covers x q = false := fun q x hx => (hex x hx).elim
  have hx := B.exec
  have hb := B.bytes
  have hr := B.returns
  have hlocks := B.notSynchronized
  have hts := atoms_spec (ws := wsX5_head) B.pre
  have hown : s.vm.findClass RX5 = some m.cls := findClass_of_methodNamed B.named
  have E : CallFix p m c cX5_head 2 s args wsX5_head RX5 := ⟨hx, hb, hml, hown, hts⟩
  have hin5 : ∀ w ∈ wsX50, w ∈ wsX5_head := by decide +kernel
  have f15 : (Cond.fieldLink RX5 15 "Slidewarden" "heads" "[I").before args s = true := hts _ (by decide +kernel)
  have hS : va_S (xwA ad sz) s.heap s.heap [] := va_S.rf
  have hsz2 : ∀ q : Nat, s.heap.size ≤ q → xwA ad sz q := fun q hq => Or.inr (by rw [← hsz]; exact hq)
  obtain ⟨ls, hl, hent⟩ := sw_entry m (n := 2) ha (Nat.le_of_ble_eq_true rfl)
  rw [hent]
  have hl : lv_has ls 2 [(0, .ref (ad 0)), (1, .int x1)] := hl
  unfold xx5_head at h
  refine lv_aload_n hx hb dX5_head_0 rfl (lv_at hl 0 rfl) ?_
  refine lv_iload_n hx hb dX5_head_1 rfl (lv_at hl 1 rfl) ?_
  obtain ⟨n2, en2, hq2, hex⟩ := swck_s h
  refine xw_ckv (As := [.int x1]) (rest := []) E (xm5_checkBranch l hst D cy ad u x1 _ en2) (cwV 1 hts gX5_head_X5_checkBranch rfl rfl rfl (by decide +kernel) ⟨Nat.le_of_ble_eq_true rfl, Nat.le_of_ble_eq_true rfl⟩) hK hP hX (xw_frP hS hsz) hS ⟨Nat.le_of_ble_eq_true rfl, Nat.le_of_ble_eq_true rfl⟩ rfl hl.1 rfl (Nat.le_of_ble_eq_true rfl) dX5_head_2 (fun hn ce q9 H locs hP hS hc hv hcl => xw_outP (hex hn) hn hout hlocks hc hv hcl hP hS (by decide) (by decide)) (fun hn H locs hP hS => ?_)
  replace h := hq2 hn
  refine lv_aload_n hx hb dX5_head_5 rfl (lv_at hl 0 rfl) ?_
  refine xw_getO hx hb hts hin5 hown hK hP 1 (by decide) f15 rfl dX5_head_6 ?_
  refine lv_iload_n hx hb dX5_head_9 rfl (lv_at hl 1 rfl) ?_
  obtain ⟨a10, ea10, ia10, h⟩ := swrd_s h
  refine xw_ald hx hb hK hP (by decide) rfl ia10 dX5_head_10 ea10 ?_
  refine W.widen (k := 1) (n := 6) (Nat.le_of_ble_eq_true rfl) (Nat.le_of_ble_eq_true rfl) ?_
  exact vx_ret (W.iret hx hb hr (fun t ht hW => ⟨⟨_, (), rfl, ⟨(sw_inj3 h).1.symm, (sw_inj3 h).2.1⟩, xw_end hP ht (sw_inj3 h).2.2⟩, hS.F ht⟩) hS.2.2 dX5_head_11 hlocks)

/-! X5.about -/
def xx5_about (u : swU) (x1 : Int32) (x2 : Int32) : Option (Nat × Int32 × swU) :=
  swck (xx5_checkVersion u x1) (fun k => some (k, 0, u)) <| swgd (swix x1 40) <| swlt (100 + x1.toNatClampNeg) fun c10_ => if x2 = 0 then (some (0, (u.1 c10_ 1), u)) else (if x2 = 1 then (some (0, (u.1 c10_ 2), u)) else (if x2 = 2 then (some (0, (u.1 c10_ 3), u)) else (if x2 = 3 then (swlt (c10_ + 100) fun d64_ => some (0, (u.1 d64_ 2), u)) else (if x2 = 4 then (swlt (swBC (u.2 c10_)) fun r75 => some (0, r75, u)) else (some (2, 0, u))))))

abbrev rmX5_about : Room := { frames := 7, cells := 2, slots := 12, locals := 111 }

set_option maxHeartbeats 4000000 in
set_option maxRecDepth 100000 in
theorem xm5_about (l : Launch) (hst : l.stackTraces = false) (D : va_G) (cy : Nat → ClassId) (ad : Nat → Nat) (hJ : swJ xw_N ad) (u : swU) (x1 : Int32) (x2 : Int32) (sz : Nat) (k0 : Nat) (r0 : Int32) (u0 : swU) (h : xx5_about u x1 x2 = some (k0, r0, u0)) : vx_Met l yX5_about wsX5_about rmX5_about (xwCX D cy ad u sz [.ref (ad 0), .int x1, .int x2]) (xwPi D cy ad sz k0 r0 u0) (xwPx D cy ad sz k0 u0) 2 12 (xwA ad sz) := by
  refine vx_ofW (cc := cX5_about) (maxL := 4) (ret := (some .int)) (by decide) rfl ?_
  intro p e s m args below meth c s₁ B hml hex hv
  obtain ⟨ha, hP, hK, hX, hsz⟩ := hv
  have hout : ∀ (q : Nat), ∀ x ∈ c.exceptionTable.toList, covers x q = false := fun q x hx => (hex x hx).elim
  have hx := B.exec
  have hb := B.bytes
  have hr := B.returns
  have hlocks := B.notSynchronized
  have hts := atoms_spec (ws := wsX5_about) B.pre
  have hown : s.vm.findClass RX5 = some m.cls := findClass_of_methodNamed B.named
  have E : CallFix p m c cX5_about 4 s args wsX5_about RX5 := ⟨hx, hb, hml, hown, hts⟩
  have hin0 : ∀ w ∈ wsX00, w ∈ wsX5_about := by decide +kernel
  have hin3 : ∀ w ∈ wsX30, w ∈ wsX5_about := by decide +kernel
  have hin5 : ∀ w ∈ wsX50, w ∈ wsX5_about := by decide +kernel
  have f11 : (Cond.fieldLink RX5 11 "Slidewarden" "versions" "[LSlidewarden$Version;").before args s = true := hts _ (by decide +kernel)
  have f121 : (Cond.fieldLink RX5 121 "Slidewarden$Version" "madeOn" "I").before args s = true := hts _ (by decide +kernel)
  have f124 : (Cond.fieldLink RX5 124 "Slidewarden$Version" "cameFrom" "I").before args s = true := hts _ (by decide +kernel)
  have f127 : (Cond.fieldLink RX5 127 "Slidewarden$Version" "mergedFrom" "I").before args s = true := hts _ (by decide +kernel)
  have f130 : (Cond.fieldLink RX5 130 "Slidewarden$Version" "deck" "LSlidewarden$Deck;").before args s = true := hts _ (by decide +kernel)
  have f44 : (Cond.fieldLink RX5 44 "Slidewarden$Version" "ancestors" "J").before args s = true := hts _ (by decide +kernel)
  have f73 : (Cond.fieldLink RX5 73 "Slidewarden$Deck" "size" "I").before args s = true := hts _ (by decide +kernel)
  have fi2 : (Cond.initialized "java/lang/IllegalArgumentException").before args s = true := hts _ (by decide +kernel)
  have fk106 : (Cond.classLink RX5 106 "java/lang/IllegalArgumentException").before args s = true := hts _ (by decide +kernel)
  have hm110 : ∀ w ∈ (vx_atS RX5 110 "java/lang/IllegalArgumentException" swNs).filter goodWord, w ∈ wsX5_about := fun w h => by first | exact List.mem_cons_of_mem _ (List.mem_append_right _ h) | exact List.mem_cons_of_mem _ (List.mem_append_left _ (List.mem_append_right _ h)) | exact List.mem_cons_of_mem _ (List.mem_append_left _ (List.mem_append_left _ (List.mem_append_right _ h)))
  have hS : va_S (xwA ad sz) s.heap s.heap [] := va_S.rf
  have hsz2 : ∀ q : Nat, s.heap.size ≤ q → xwA ad sz q := fun q hq => Or.inr (by rw [← hsz]; exact hq)
  obtain ⟨ls, hl, hent⟩ := sw_entry m (n := 4) ha (Nat.le_of_ble_eq_true rfl)
  rw [hent]
  have hl : lv_has ls 4 [(0, .ref (ad 0)), (1, .int x1), (2, .int x2)] := hl
  unfold xx5_about at h
  refine lv_aload_n hx hb dX5_about_0 rfl (lv_at hl 0 rfl) ?_
  refine lv_iload_n hx hb dX5_about_1 rfl (lv_at hl 1 rfl) ?_
  obtain ⟨n2, en2, hq2, hex⟩ := swck_s h
  refine xw_ckv (As := [.int x1]) (rest := []) E (xm5_checkVersion l hst D cy ad u x1 _ en2) (cwV 1 hts gX5_about_X5_checkVersion rfl rfl rfl (by decide +kernel) ⟨Nat.le_of_ble_eq_true rfl, Nat.le_of_ble_eq_true rfl⟩) hK hP hX (xw_frP hS hsz) hS ⟨Nat.le_of_ble_eq_true rfl, Nat.le_of_ble_eq_true rfl⟩ rfl hl.1 rfl (Nat.le_of_ble_eq_true rfl) dX5_about_2 (fun hn ce q9 H locs hP hS hc hv hcl => xw_outP (hex hn) hn hout hlocks hc hv hcl hP hS (by decide) (by decide)) (fun hn H locs hP hS => ?_)
  replace h := hq2 hn
  refine lv_aload_n hx hb dX5_about_5 rfl (lv_at hl 0 rfl) ?_
  refine xw_getO hx hb hts hin5 hown hK hP 0 (by decide) f11 rfl dX5_about_6 ?_
  refine lv_iload_n hx hb dX5_about_9 rfl (lv_at hl 1 rfl) ?_
  obtain ⟨ic10_, h⟩ := swgd_s h
  obtain ⟨c10_, ec10_, h⟩ := swlt_s h
  have hc10_ := xw_Vof (swix_s ic10_) ec10_
  refine xw_aldV hx hb hK hP (swix_s ic10_) dX5_about_10 ec10_ ?_
  refine lv_astore_n (lv' := [(3, .ref (ad c10_)), (0, .ref (ad 0)), (1, .int x1), (2, .int x2)]) hx hb dX5_about_11 rfl hl (by decide) rfl (fun ls hl => ?_)
  refine lv_iload_n hx hb dX5_about_12 rfl (lv_at hl 3 rfl) ?_
  by_cases c13_0 : x2 = 0
  · replace h := sw_t h c13_0
    refine lv_tableIn (tgt := 48) (off := 35) hx hb dX5_about_13 (by rw [c13_0]; decide) (by rw [c13_0]; decide) (by rw [c13_0]; rfl) (by decide) ?_
    refine lv_aload_n hx hb dX5_about_48 rfl (lv_at hl 0 rfl) ?_
    refine xw_getV hx hb hts hin3 hown hK hP hc10_ 1 (by decide) f121 rfl dX5_about_49 ?_
    refine W.widen (k := 2) (n := 12) (Nat.le_of_ble_eq_true rfl) (Nat.le_of_ble_eq_true rfl) ?_
    exact vx_ret (W.iret hx hb hr (fun t ht hW => ⟨⟨_, (), rfl, ⟨(sw_inj3 h).1.symm, (sw_inj3 h).2.1⟩, xw_end hP ht (sw_inj3 h).2.2⟩, hS.F ht⟩) hS.2.2 dX5_about_52 hlocks)
  · replace h := sw_f h c13_0
    by_cases c13_1 : x2 = 1
    · replace h := sw_t h c13_1
      refine lv_tableIn (tgt := 53) (off := 40) hx hb dX5_about_13 (by rw [c13_1]; decide) (by rw [c13_1]; decide) (by rw [c13_1]; rfl) (by decide) ?_
      refine lv_aload_n hx hb dX5_about_53 rfl (lv_at hl 0 rfl) ?_
      refine xw_getV hx hb hts hin3 hown hK hP hc10_ 2 (by decide) f124 rfl dX5_about_54 ?_
      refine W.widen (k := 2) (n := 12) (Nat.le_of_ble_eq_true rfl) (Nat.le_of_ble_eq_true rfl) ?_
      exact vx_ret (W.iret hx hb hr (fun t ht hW => ⟨⟨_, (), rfl, ⟨(sw_inj3 h).1.symm, (sw_inj3 h).2.1⟩, xw_end hP ht (sw_inj3 h).2.2⟩, hS.F ht⟩) hS.2.2 dX5_about_57 hlocks)
    · replace h := sw_f h c13_1
      by_cases c13_2 : x2 = 2
      · replace h := sw_t h c13_2
        refine lv_tableIn (tgt := 58) (off := 45) hx hb dX5_about_13 (by rw [c13_2]; decide) (by rw [c13_2]; decide) (by rw [c13_2]; rfl) (by decide) ?_
        refine lv_aload_n hx hb dX5_about_58 rfl (lv_at hl 0 rfl) ?_
        refine xw_getV hx hb hts hin3 hown hK hP hc10_ 3 (by decide) f127 rfl dX5_about_59 ?_
        refine W.widen (k := 2) (n := 12) (Nat.le_of_ble_eq_true rfl) (Nat.le_of_ble_eq_true rfl) ?_
        exact vx_ret (W.iret hx hb hr (fun t ht hW => ⟨⟨_, (), rfl, ⟨(sw_inj3 h).1.symm, (sw_inj3 h).2.1⟩, xw_end hP ht (sw_inj3 h).2.2⟩, hS.F ht⟩) hS.2.2 dX5_about_62 hlocks)
      · replace h := sw_f h c13_2
        by_cases c13_3 : x2 = 3
        · replace h := sw_t h c13_3
          refine lv_tableIn (tgt := 63) (off := 50) hx hb dX5_about_13 (by rw [c13_3]; decide) (by rw [c13_3]; decide) (by rw [c13_3]; rfl) (by decide) ?_
          refine lv_aload_n hx hb dX5_about_63 rfl (lv_at hl 0 rfl) ?_
          obtain ⟨d64_, ed64_, h⟩ := swlt_s h
          have hd64_ : xw_D d64_ := by rw [ed64_]; exact xw_VD hc10_
          refine xw_getV (v := .ref (ad d64_)) hx hb hts hin3 hown hK hP hc10_ 0 (by decide) f130 (by rw [ed64_]; rfl) dX5_about_64 ?_
          refine xw_getD hx hb hts hin0 hown hK hP hd64_ 2 (by decide) f73 rfl dX5_about_67 ?_
          refine W.widen (k := 2) (n := 12) (Nat.le_of_ble_eq_true rfl) (Nat.le_of_ble_eq_true rfl) ?_
          exact vx_ret (W.iret hx hb hr (fun t ht hW => ⟨⟨_, (), rfl, ⟨(sw_inj3 h).1.symm, (sw_inj3 h).2.1⟩, xw_end hP ht (sw_inj3 h).2.2⟩, hS.F ht⟩) hS.2.2 dX5_about_70 hlocks)
        · replace h := sw_f h c13_3
          by_cases c13_4 : x2 = 4
          · replace h := sw_t h c13_4
            refine lv_tableIn (tgt := 71) (off := 58) hx hb dX5_about_13 (by rw [c13_4]; decide) (by rw [c13_4]; decide) (by rw [c13_4]; rfl) (by decide) ?_
            refine lv_aload_n hx hb dX5_about_71 rfl (lv_at hl 0 rfl) ?_
            refine xw_getV hx hb hts hin3 hown hK hP hc10_ 4 (by decide) f44 rfl dX5_about_72 ?_
            obtain ⟨r75, er75, h⟩ := swlt_s h
            refine xw_callSi (As := [.long (u.2 c10_)]) (rest := []) E (xmJ_bitCount l _ r75 er75) (va_cwS 1 hts gX5_about_J13_bitCount_95d88 rfl rfl rfl (by decide +kernel) ⟨Nat.le_of_ble_eq_true rfl, Nat.le_of_ble_eq_true rfl⟩) ⟨Nat.le_of_ble_eq_true rfl, Nat.le_of_ble_eq_true rfl⟩ rfl hl.1 rfl (Nat.le_of_ble_eq_true rfl) dX5_about_75 ?_
            refine W.widen (k := 2) (n := 12) (Nat.le_of_ble_eq_true rfl) (Nat.le_of_ble_eq_true rfl) ?_
            exact vx_ret (W.iret hx hb hr (fun t ht hW => ⟨⟨_, (), rfl, ⟨(sw_inj3 h).1.symm, (sw_inj3 h).2.1⟩, xw_end hP ht (sw_inj3 h).2.2⟩, hS.F ht⟩) hS.2.2 dX5_about_78 hlocks)
          · replace h := sw_f h c13_4
            refine lv_tableOut (tgt := 79) hx hb dX5_about_13 (by have := lv_neT c13_0 (a := 0) rfl; have := lv_neT c13_1 (a := 1) rfl; have := lv_neT c13_2 (a := 2) rfl; have := lv_neT c13_3 (a := 3) rfl; have := lv_neT c13_4 (a := 4) rfl; omega) (by decide) ?_
            exact xw_thr2 (text := "what is out of range") hx hb hst hts hm110 hown fk106 fi2 hX (by decide +kernel) hS (xw_hAP hsz) (hl.1.trans hml.symm) dX5_about_79 dX5_about_82 dX5_about_83 dX5_about_85 dX5_about_88 hout (by decide) (Nat.le_of_ble_eq_true rfl) (by decide) (by decide) hlocks (xw_xP h (by decide) hP hS) hS.2.2 (by decide) (by decide)

/-! X5.value -/
def xx5_value (u : swU) (x1 : Int32) (x2 : Int32) (x3 : Int32) : Option (Nat × Int32 × swU) :=
  swck (xx5_checkVersion u x1) (fun k => some (k, 0, u)) <| swck (xx5_checkSlide u x2) (fun k => some (k, 0, u)) <| swck (xx5_checkObject u x3) (fun k => some (k, 0, u)) <| swgd (swix x1 40) <| swlt (100 + x1.toNatClampNeg) fun c19_ => swlt (c19_ + 100) fun d20_ => swbd (xx0_valueOf u d20_ x2 x3) fun r25 => some (0, r25, u)

abbrev rmX5_value : Room := { frames := 7, cells := 3, slots := 18, locals := 111 }

set_option maxHeartbeats 4000000 in
set_option maxRecDepth 100000 in
theorem xm5_value (l : Launch) (hst : l.stackTraces = false) (D : va_G) (cy : Nat → ClassId) (ad : Nat → Nat) (hJ : swJ xw_N ad) (u : swU) (x1 : Int32) (x2 : Int32) (x3 : Int32) (sz : Nat) (k0 : Nat) (r0 : Int32) (u0 : swU) (h : xx5_value u x1 x2 x3 = some (k0, r0, u0)) : vx_Met l yX5_value wsX5_value rmX5_value (xwCX D cy ad u sz [.ref (ad 0), .int x1, .int x2, .int x3]) (xwPi D cy ad sz k0 r0 u0) (xwPx D cy ad sz k0 u0) 3 18 (xwA ad sz) := by
  refine vx_ofW (cc := cX5_value) (maxL := 4) (ret := (some .int)) (by decide) rfl ?_
  intro p e s m args below meth c s₁ B hml hex hv
  obtain ⟨ha, hP, hK, hX, hsz⟩ := hv
  have hout : ∀ (q : Nat), ∀ x ∈ c.exceptionTable.toList, covers x q = false := fun q x hx => (hex x hx).elim
  have hx := B.exec
  have hb := B.bytes
  have hr := B.returns
  have hlocks := B.notSynchronized
  have hts := atoms_spec (ws := wsX5_value) B.pre
  have hown : s.vm.findClass RX5 = some m.cls := findClass_of_methodNamed B.named
  have E : CallFix p m c cX5_value 4 s args wsX5_value RX5 := ⟨hx, hb, hml, hown, hts⟩
  have hin3 : ∀ w ∈ wsX30, w ∈ wsX5_value := by decide +kernel
  have hin5 : ∀ w ∈ wsX50, w ∈ wsX5_value := by decide +kernel
  have f11 : (Cond.fieldLink RX5 11 "Slidewarden" "versions" "[LSlidewarden$Version;").before args s = true := hts _ (by decide +kernel)
  have f130 : (Cond.fieldLink RX5 130 "Slidewarden$Version" "deck" "LSlidewarden$Deck;").before args s = true := hts _ (by decide +kernel)
  have hS : va_S (xwA ad sz) s.heap s.heap [] := va_S.rf
  have hsz2 : ∀ q : Nat, s.heap.size ≤ q → xwA ad sz q := fun q hq => Or.inr (by rw [← hsz]; exact hq)
  obtain ⟨ls, hl, hent⟩ := sw_entry m (n := 4) ha (Nat.le_of_ble_eq_true rfl)
  rw [hent]
  have hl : lv_has ls 4 [(0, .ref (ad 0)), (1, .int x1), (2, .int x2), (3, .int x3)] := hl
  unfold xx5_value at h
  refine lv_aload_n hx hb dX5_value_0 rfl (lv_at hl 0 rfl) ?_
  refine lv_iload_n hx hb dX5_value_1 rfl (lv_at hl 1 rfl) ?_
  obtain ⟨n2, en2, hq2, hex⟩ := swck_s h
  refine xw_ckv (As := [.int x1]) (rest := []) E (xm5_checkVersion l hst D cy ad u x1 _ en2) (cwV 1 hts gX5_value_X5_checkVersion rfl rfl rfl (by decide +kernel) ⟨Nat.le_of_ble_eq_true rfl, Nat.le_of_ble_eq_true rfl⟩) hK hP hX (xw_frP hS hsz) hS ⟨Nat.le_of_ble_eq_true rfl, Nat.le_of_ble_eq_true rfl⟩ rfl hl.1 rfl (Nat.le_of_ble_eq_true rfl) dX5_value_2 (fun hn ce q9 H locs hP hS hc hv hcl => xw_outP (hex hn) hn hout hlocks hc hv hcl hP hS (by decide) (by decide)) (fun hn H locs hP hS => ?_)
  replace h := hq2 hn
  refine lv_aload_n hx hb dX5_value_5 rfl (lv_at hl 0 rfl) ?_
  refine lv_iload_n hx hb dX5_value_6 rfl (lv_at hl 2 rfl) ?_
  obtain ⟨n7, en7, hq7, hex⟩ := swck_s h
  refine xw_ckv (As := [.int x2]) (rest := []) E (xm5_checkSlide l hst D cy ad u x2 _ en7) (cwV 1 hts gX5_value_X5_checkSlide rfl rfl rfl (by decide +kernel) ⟨Nat.le_of_ble_eq_true rfl, Nat.le_of_ble_eq_true rfl⟩) hK hP hX (xw_frP hS hsz) hS ⟨Nat.le_of_ble_eq_true rfl, Nat.le_of_ble_eq_true rfl⟩ rfl hl.1 rfl (Nat.le_of_ble_eq_true rfl) dX5_value_7 (fun hn ce q9 H locs hP hS hc hv hcl => xw_outP (hex hn) hn hout hlocks hc hv hcl hP hS (by decide) (by decide)) (fun hn H locs hP hS => ?_)
  replace h := hq7 hn
  refine lv_iload_n hx hb dX5_value_10 rfl (lv_at hl 3 rfl) ?_
  obtain ⟨n11, en11, hq11, hex⟩ := swck_s h
  refine xw_ckS (As := [.int x3]) (rest := []) E (xm5_checkObject l hst D cy ad u x3 _ en11) (va_cwS 1 hts gX5_value_X5_checkObject rfl rfl rfl (by decide +kernel) ⟨Nat.le_of_ble_eq_true rfl, Nat.le_of_ble_eq_true rfl⟩) hK hP hX (xw_frP hS hsz) hS ⟨Nat.le_of_ble_eq_true rfl, Nat.le_of_ble_eq_true rfl⟩ rfl hl.1 rfl (Nat.le_of_ble_eq_true rfl) dX5_value_11 (fun hn ce q9 H locs hP hS hc hv hcl => xw_outP (hex hn) hn hout hlocks hc hv hcl hP hS (by decide) (by decide)) (fun hn H locs hP hS => ?_)
  replace h := hq11 hn
  refine lv_aload_n hx hb dX5_value_14 rfl (lv_at hl 0 rfl) ?_
  refine xw_getO hx hb hts hin5 hown hK hP 0 (by decide) f11 rfl dX5_value_15 ?_
  refine lv_iload_n hx hb dX5_value_18 rfl (lv_at hl 1 rfl) ?_
  obtain ⟨ic19_, h⟩ := swgd_s h
  obtain ⟨c19_, ec19_, h⟩ := swlt_s h
  have hc19_ := xw_Vof (swix_s ic19_) ec19_
  refine xw_aldV hx hb hK hP (swix_s ic19_) dX5_value_19 ec19_ ?_
  obtain ⟨d20_, ed20_, h⟩ := swlt_s h
  have hd20_ : xw_D d20_ := by rw [ed20_]; exact xw_VD hc19_
  refine xw_getV (v := .ref (ad d20_)) hx hb hts hin3 hown hK hP hc19_ 0 (by decide) f130 (by rw [ed20_]; rfl) dX5_value_20 ?_
  refine lv_iload_n hx hb dX5_value_23 rfl (lv_at hl 2 rfl) ?_
  refine lv_iload_n hx hb dX5_value_24 rfl (lv_at hl 3 rfl) ?_
  obtain ⟨r25, er25, h⟩ := swbd_s h
  refine xw_calli (As := [.int x2, .int x3]) (rest := []) E (xm0_valueOf l D cy ad u d20_ x2 x3 hd20_ _ er25) (cwV 2 hts gX5_value_X0_valueOf rfl rfl rfl (by decide +kernel) ⟨Nat.le_of_ble_eq_true rfl, Nat.le_of_ble_eq_true rfl⟩) hK hP (xw_rD hK hP hd20_) ⟨Nat.le_of_ble_eq_true rfl, Nat.le_of_ble_eq_true rfl⟩ rfl hl.1 rfl (Nat.le_of_ble_eq_true rfl) dX5_value_25 ?_
  refine W.widen (k := 3) (n := 18) (Nat.le_of_ble_eq_true rfl) (Nat.le_of_ble_eq_true rfl) ?_
  exact vx_ret (W.iret hx hb hr (fun t ht hW => ⟨⟨_, (), rfl, ⟨(sw_inj3 h).1.symm, (sw_inj3 h).2.1⟩, xw_end hP ht (sw_inj3 h).2.2⟩, hS.F ht⟩) hS.2.2 dX5_value_28 hlocks)

/-! X5.slideAt -/
def xx5_slideAt (u : swU) (x1 : Int32) (x2 : Int32) : Option (Nat × Int32 × swU) :=
  swck (xx5_checkVersion u x1) (fun k => some (k, 0, u)) <| if 0 ≤ x2 then (swgd (swix x1 40) <| swlt (100 + x1.toNatClampNeg) fun c24_ => swlt (c24_ + 100) fun d25_ => if (u.1 d25_ 2) ≤ x2 then (some (0, (-1), u)) else (swrd 8 (u.1 (d25_ + 100)) x2 fun a42 => some (0, a42, u))) else (some (1, 0, u))

abbrev rmX5_slideAt : Room := { frames := 7, cells := 2, slots := 12, locals := 111 }

set_option maxHeartbeats 4000000 in
set_option maxRecDepth 100000 in
theorem xm5_slideAt (l : Launch) (hst : l.stackTraces = false) (D : va_G) (cy : Nat → ClassId) (ad : Nat → Nat) (hJ : swJ xw_N ad) (u : swU) (x1 : Int32) (x2 : Int32) (sz : Nat) (k0 : Nat) (r0 : Int32) (u0 : swU) (h : xx5_slideAt u x1 x2 = some (k0, r0, u0)) : vx_Met l yX5_slideAt wsX5_slideAt rmX5_slideAt (xwCX D cy ad u sz [.ref (ad 0), .int x1, .int x2]) (xwPi D cy ad sz k0 r0 u0) (xwPx D cy ad sz k0 u0) 2 12 (xwA ad sz) := by
  refine vx_ofW (cc := cX5_slideAt) (maxL := 4) (ret := (some .int)) (by decide) rfl ?_
  intro p e s m args below meth c s₁ B hml hex hv
  obtain ⟨ha, hP, hK, hX, hsz⟩ := hv
  have hout : ∀ (q : Nat), ∀ x ∈ c.exceptionTable.toList, covers x q = false := fun q x hx => (hex x hx).elim
  have hx := B.exec
  have hb := B.bytes
  have hr := B.returns
  have hlocks := B.notSynchronized
  have hts := atoms_spec (ws := wsX5_slideAt) B.pre
  have hown : s.vm.findClass RX5 = some m.cls := findClass_of_methodNamed B.named
  have E : CallFix p m c cX5_slideAt 4 s args wsX5_slideAt RX5 := ⟨hx, hb, hml, hown, hts⟩
  have hin0 : ∀ w ∈ wsX00, w ∈ wsX5_slideAt := by decide +kernel
  have hin3 : ∀ w ∈ wsX30, w ∈ wsX5_slideAt := by decide +kernel
  have hin5 : ∀ w ∈ wsX50, w ∈ wsX5_slideAt := by decide +kernel
  have f11 : (Cond.fieldLink RX5 11 "Slidewarden" "versions" "[LSlidewarden$Version;").before args s = true := hts _ (by decide +kernel)
  have f130 : (Cond.fieldLink RX5 130 "Slidewarden$Version" "deck" "LSlidewarden$Deck;").before args s = true := hts _ (by decide +kernel)
  have f149 : (Cond.fieldLink RX5 149 "Slidewarden$Deck" "slides" "[I").before args s = true := hts _ (by decide +kernel)
  have f73 : (Cond.fieldLink RX5 73 "Slidewarden$Deck" "size" "I").before args s = true := hts _ (by decide +kernel)
  have fi1 : (Cond.initialized "java/lang/IndexOutOfBoundsException").before args s = true := hts _ (by decide +kernel)
  have fk76 : (Cond.classLink RX5 76 "java/lang/IndexOutOfBoundsException").before args s = true := hts _ (by decide +kernel)
  have hm80 : ∀ w ∈ (vx_atS RX5 80 "java/lang/IndexOutOfBoundsException" swNs).filter goodWord, w ∈ wsX5_slideAt := fun w h => by first | exact List.mem_cons_of_mem _ (List.mem_append_right _ h) | exact List.mem_cons_of_mem _ (List.mem_append_left _ (List.mem_append_right _ h)) | exact List.mem_cons_of_mem _ (List.mem_append_left _ (List.mem_append_left _ (List.mem_append_right _ h)))
  have hS : va_S (xwA ad sz) s.heap s.heap [] := va_S.rf
  have hsz2 : ∀ q : Nat, s.heap.size ≤ q → xwA ad sz q := fun q hq => Or.inr (by rw [← hsz]; exact hq)
  obtain ⟨ls, hl, hent⟩ := sw_entry m (n := 4) ha (Nat.le_of_ble_eq_true rfl)
  rw [hent]
  have hl : lv_has ls 4 [(0, .ref (ad 0)), (1, .int x1), (2, .int x2)] := hl
  unfold xx5_slideAt at h
  refine lv_aload_n hx hb dX5_slideAt_0 rfl (lv_at hl 0 rfl) ?_
  refine lv_iload_n hx hb dX5_slideAt_1 rfl (lv_at hl 1 rfl) ?_
  obtain ⟨n2, en2, hq2, hex⟩ := swck_s h
  refine xw_ckv (As := [.int x1]) (rest := []) E (xm5_checkVersion l hst D cy ad u x1 _ en2) (cwV 1 hts gX5_slideAt_X5_checkVersion rfl rfl rfl (by decide +kernel) ⟨Nat.le_of_ble_eq_true rfl, Nat.le_of_ble_eq_true rfl⟩) hK hP hX (xw_frP hS hsz) hS ⟨Nat.le_of_ble_eq_true rfl, Nat.le_of_ble_eq_true rfl⟩ rfl hl.1 rfl (Nat.le_of_ble_eq_true rfl) dX5_slideAt_2 (fun hn ce q9 H locs hP hS hc hv hcl => xw_outP (hex hn) hn hout hlocks hc hv hcl hP hS (by decide) (by decide)) (fun hn H locs hP hS => ?_)
  replace h := hq2 hn
  refine lv_iload_n hx hb dX5_slideAt_5 rfl (lv_at hl 2 rfl) ?_
  refine lv_if_ge (tgt := 19) hx hb dX5_slideAt_6 (by decide) (fun cc => ?_) (fun cc => ?_)
  · replace h := sw_t h cc
    refine lv_aload_n hx hb dX5_slideAt_19 rfl (lv_at hl 0 rfl) ?_
    refine xw_getO hx hb hts hin5 hown hK hP 0 (by decide) f11 rfl dX5_slideAt_20 ?_
    refine lv_iload_n hx hb dX5_slideAt_23 rfl (lv_at hl 1 rfl) ?_
    obtain ⟨ic24_, h⟩ := swgd_s h
    obtain ⟨c24_, ec24_, h⟩ := swlt_s h
    have hc24_ := xw_Vof (swix_s ic24_) ec24_
    refine xw_aldV hx hb hK hP (swix_s ic24_) dX5_slideAt_24 ec24_ ?_
    obtain ⟨d25_, ed25_, h⟩ := swlt_s h
    have hd25_ : xw_D d25_ := by rw [ed25_]; exact xw_VD hc24_
    refine xw_getV (v := .ref (ad d25_)) hx hb hts hin3 hown hK hP hc24_ 0 (by decide) f130 (by rw [ed25_]; rfl) dX5_slideAt_25 ?_
    refine lv_astore_n (lv' := [(3, .ref (ad d25_)), (0, .ref (ad 0)), (1, .int x1), (2, .int x2)]) hx hb dX5_slideAt_28 rfl hl (by decide) rfl (fun ls hl => ?_)
    refine lv_iload_n hx hb dX5_slideAt_29 rfl (lv_at hl 3 rfl) ?_
    refine lv_aload_n hx hb dX5_slideAt_30 rfl (lv_at hl 0 rfl) ?_
    refine xw_getD hx hb hts hin0 hown hK hP hd25_ 2 (by decide) f73 rfl dX5_slideAt_31 ?_
    refine lv_icmp_ge (tgt := 46) hx hb dX5_slideAt_34 (by decide) (fun cc => ?_) (fun cc => ?_)
    · replace h := sw_t h cc
      refine lv_iconst (v := (-1)) hx hb dX5_slideAt_46 (by decide) ?_
      refine W.widen (k := 2) (n := 12) (Nat.le_of_ble_eq_true rfl) (Nat.le_of_ble_eq_true rfl) ?_
      exact vx_ret (W.iret hx hb hr (fun t ht hW => ⟨⟨_, (), rfl, ⟨(sw_inj3 h).1.symm, (sw_inj3 h).2.1⟩, xw_end hP ht (sw_inj3 h).2.2⟩, hS.F ht⟩) hS.2.2 dX5_slideAt_47 hlocks)
    · replace h := sw_f h cc
      refine lv_aload_n hx hb dX5_slideAt_37 rfl (lv_at hl 0 rfl) ?_
      refine xw_getD hx hb hts hin0 hown hK hP hd25_ 0 (by decide) f149 rfl dX5_slideAt_38 ?_
      refine lv_iload_n hx hb dX5_slideAt_41 rfl (lv_at hl 3 rfl) ?_
      obtain ⟨a42, ea42, ia42, h⟩ := swrd_s h
      refine xw_ald hx hb hK hP (xw_NS hd25_) (xw_celS hd25_) ia42 dX5_slideAt_42 ea42 ?_
      refine lv_goto (tgt := 47) hx hb dX5_slideAt_43 (by decide) ?_
      refine W.widen (k := 2) (n := 12) (Nat.le_of_ble_eq_true rfl) (Nat.le_of_ble_eq_true rfl) ?_
      exact vx_ret (W.iret hx hb hr (fun t ht hW => ⟨⟨_, (), rfl, ⟨(sw_inj3 h).1.symm, (sw_inj3 h).2.1⟩, xw_end hP ht (sw_inj3 h).2.2⟩, hS.F ht⟩) hS.2.2 dX5_slideAt_47 hlocks)
  · replace h := sw_f h cc
    exact xw_thr1 (text := "the place is below 0") hx hb hst hts hm80 hown fk76 fi1 hX (by decide +kernel) hS (xw_hAP hsz) (hl.1.trans hml.symm) dX5_slideAt_9 dX5_slideAt_12 dX5_slideAt_13 dX5_slideAt_15 dX5_slideAt_18 hout (by decide) (Nat.le_of_ble_eq_true rfl) (by decide) (by decide) hlocks (xw_xP h (by decide) hP hS) hS.2.2 (by decide) (by decide)

/-! X5.base -/
def xx5_base (u : swU) (x1 : Int32) (x2 : Int32) : Option (Nat × Int32 × swU) :=
  swck (xx5_checkBranch u x1) (fun k => some (k, 0, u)) <| swck (xx5_checkBranch u x2) (fun k => some (k, 0, u)) <| swck (xx5_checkDifferent u x1 x2) (fun k => some (k, 0, u)) <| swbd (xx5_baseOf u x1 x2) fun r18 => some (0, r18, u)

abbrev rmX5_base : Room := { frames := 7, cells := 3, slots := 18, locals := 111 }

set_option maxHeartbeats 4000000 in
set_option maxRecDepth 100000 in
theorem xm5_base (l : Launch) (hst : l.stackTraces = false) (D : va_G) (cy : Nat → ClassId) (ad : Nat → Nat) (hJ : swJ xw_N ad) (u : swU) (x1 : Int32) (x2 : Int32) (sz : Nat) (k0 : Nat) (r0 : Int32) (u0 : swU) (h : xx5_base u x1 x2 = some (k0, r0, u0)) : vx_Met l yX5_base wsX5_base rmX5_base (xwCX D cy ad u sz [.ref (ad 0), .int x1, .int x2]) (xwPi D cy ad sz k0 r0 u0) (xwPx D cy ad sz k0 u0) 3 18 (xwA ad sz) := by
  refine vx_ofW (cc := cX5_base) (maxL := 3) (ret := (some .int)) (by decide) rfl ?_
  intro p e s m args below meth c s₁ B hml hex hv
  obtain ⟨ha, hP, hK, hX, hsz⟩ := hv
  have hout : ∀ (q : Nat), ∀ x ∈ c.exceptionTable.toList, covers x q = false := fun q x hx => (hex x hx).elim
  have hx := B.exec
  have hb := B.bytes
  have hr := B.returns
  have hlocks := B.notSynchronized
  have hts := atoms_spec (ws := wsX5_base) B.pre
  have hown : s.vm.findClass RX5 = some m.cls := findClass_of_methodNamed B.named
  have E : CallFix p m c cX5_base 3 s args wsX5_base RX5 := ⟨hx, hb, hml, hown, hts⟩
  have hS : va_S (xwA ad sz) s.heap s.heap [] := va_S.rf
  have hsz2 : ∀ q : Nat, s.heap.size ≤ q → xwA ad sz q := fun q hq => Or.inr (by rw [← hsz]; exact hq)
  obtain ⟨ls, hl, hent⟩ := sw_entry m (n := 3) ha (Nat.le_of_ble_eq_true rfl)
  rw [hent]
  have hl : lv_has ls 3 [(0, .ref (ad 0)), (1, .int x1), (2, .int x2)] := hl
  unfold xx5_base at h
  refine lv_aload_n hx hb dX5_base_0 rfl (lv_at hl 0 rfl) ?_
  refine lv_iload_n hx hb dX5_base_1 rfl (lv_at hl 1 rfl) ?_
  obtain ⟨n2, en2, hq2, hex⟩ := swck_s h
  refine xw_ckv (As := [.int x1]) (rest := []) E (xm5_checkBranch l hst D cy ad u x1 _ en2) (cwV 1 hts gX5_base_X5_checkBranch rfl rfl rfl (by decide +kernel) ⟨Nat.le_of_ble_eq_true rfl, Nat.le_of_ble_eq_true rfl⟩) hK hP hX (xw_frP hS hsz) hS ⟨Nat.le_of_ble_eq_true rfl, Nat.le_of_ble_eq_true rfl⟩ rfl hl.1 rfl (Nat.le_of_ble_eq_true rfl) dX5_base_2 (fun hn ce q9 H locs hP hS hc hv hcl => xw_outP (hex hn) hn hout hlocks hc hv hcl hP hS (by decide) (by decide)) (fun hn H locs hP hS => ?_)
  replace h := hq2 hn
  refine lv_aload_n hx hb dX5_base_5 rfl (lv_at hl 0 rfl) ?_
  refine lv_iload_n hx hb dX5_base_6 rfl (lv_at hl 2 rfl) ?_
  obtain ⟨n7, en7, hq7, hex⟩ := swck_s h
  refine xw_ckv (As := [.int x2]) (rest := []) E (xm5_checkBranch l hst D cy ad u x2 _ en7) (cwV 1 hts gX5_base_X5_checkBranch rfl rfl rfl (by decide +kernel) ⟨Nat.le_of_ble_eq_true rfl, Nat.le_of_ble_eq_true rfl⟩) hK hP hX (xw_frP hS hsz) hS ⟨Nat.le_of_ble_eq_true rfl, Nat.le_of_ble_eq_true rfl⟩ rfl hl.1 rfl (Nat.le_of_ble_eq_true rfl) dX5_base_7 (fun hn ce q9 H locs hP hS hc hv hcl => xw_outP (hex hn) hn hout hlocks hc hv hcl hP hS (by decide) (by decide)) (fun hn H locs hP hS => ?_)
  replace h := hq7 hn
  refine lv_iload_n hx hb dX5_base_10 rfl (lv_at hl 1 rfl) ?_
  refine lv_iload_n hx hb dX5_base_11 rfl (lv_at hl 2 rfl) ?_
  obtain ⟨n12, en12, hq12, hex⟩ := swck_s h
  refine xw_ckS (As := [.int x1, .int x2]) (rest := []) E (xm5_checkDifferent l hst D cy ad u x1 x2 _ en12) (va_cwS 2 hts gX5_base_X5_checkDifferent rfl rfl rfl (by decide +kernel) ⟨Nat.le_of_ble_eq_true rfl, Nat.le_of_ble_eq_true rfl⟩) hK hP hX (xw_frP hS hsz) hS ⟨Nat.le_of_ble_eq_true rfl, Nat.le_of_ble_eq_true rfl⟩ rfl hl.1 rfl (Nat.le_of_ble_eq_true rfl) dX5_base_12 (fun hn ce q9 H locs hP hS hc hv hcl => xw_outP (hex hn) hn hout hlocks hc hv hcl hP hS (by decide) (by decide)) (fun hn H locs hP hS => ?_)
  replace h := hq12 hn
  refine lv_aload_n hx hb dX5_base_15 rfl (lv_at hl 0 rfl) ?_
  refine lv_iload_n hx hb dX5_base_16 rfl (lv_at hl 1 rfl) ?_
  refine lv_iload_n hx hb dX5_base_17 rfl (lv_at hl 2 rfl) ?_
  obtain ⟨r18, er18, h⟩ := swbd_s h
  refine xw_calli (As := [.int x1, .int x2]) (rest := []) E (xm5_baseOf l D cy ad u x1 x2 _ er18) (cwV 2 hts gX5_base_X5_baseOf rfl rfl rfl (by decide +kernel) ⟨Nat.le_of_ble_eq_true rfl, Nat.le_of_ble_eq_true rfl⟩) hK hP (xw_rO hK hP) ⟨Nat.le_of_ble_eq_true rfl, Nat.le_of_ble_eq_true rfl⟩ rfl hl.1 rfl (Nat.le_of_ble_eq_true rfl) dX5_base_18 ?_
  refine W.widen (k := 3) (n := 18) (Nat.le_of_ble_eq_true rfl) (Nat.le_of_ble_eq_true rfl) ?_
  exact vx_ret (W.iret hx hb hr (fun t ht hW => ⟨⟨_, (), rfl, ⟨(sw_inj3 h).1.symm, (sw_inj3 h).2.1⟩, xw_end hP ht (sw_inj3 h).2.2⟩, hS.F ht⟩) hS.2.2 dX5_base_21 hlocks)

/-! X5.clashes -/
def xx5_clashes (u : swU) (x1 : Int32) (x2 : Int32) : Option (Nat × Int32 × swU) :=
  swck (xx5_checkBranch u x1) (fun k => some (k, 0, u)) <| swck (xx5_checkBranch u x2) (fun k => some (k, 0, u)) <| swck (xx5_checkDifferent u x1 x2) (fun k => some (k, 0, u)) <| swbd (xx5_mergeOf u x1 x2) fun z18 => match z18 with | (co18, ca18, cb18) => swbd (xx1_countClashes u co18 ca18 cb18 (u.1 0 8)) fun r25 => some (0, r25, u)

abbrev rmX5_clashes : Room := { frames := 7, cells := 4, slots := 21, locals := 111 }

set_option maxHeartbeats 4000000 in
set_option maxRecDepth 100000 in
theorem xm5_clashes (l : Launch) (hst : l.stackTraces = false) (D : va_G) (cy : Nat → ClassId) (ad : Nat → Nat) (hJ : swJ xw_N ad) (u : swU) (x1 : Int32) (x2 : Int32) (sz : Nat) (k0 : Nat) (r0 : Int32) (u0 : swU) (h : xx5_clashes u x1 x2 = some (k0, r0, u0)) : vx_Met l yX5_clashes wsX5_clashes rmX5_clashes (xwCX D cy ad u sz [.ref (ad 0), .int x1, .int x2]) (xwPi D cy ad sz k0 r0 u0) (xwPx D cy ad sz k0 u0) 4 21 (xwA ad sz) := by
  refine vx_ofW (cc := cX5_clashes) (maxL := 3) (ret := (some .int)) (by decide) rfl ?_
  intro p e s m args below meth c s₁ B hml hex hv
  obtain ⟨ha, hP, hK, hX, hsz⟩ := hv
  have hout : ∀ (q : Nat), ∀ x ∈ c.exceptionTable.toList, covers x q = false := fun q x hx => (hex x hx).elim
  have hx := B.exec
  have hb := B.bytes
  have hr := B.returns
  have hlocks := B.notSynchronized
  have hts := atoms_spec (ws := wsX5_clashes) B.pre
  have hown : s.vm.findClass RX5 = some m.cls := findClass_of_methodNamed B.named
  have E : CallFix p m c cX5_clashes 3 s args wsX5_clashes RX5 := ⟨hx, hb, hml, hown, hts⟩
  have hin5 : ∀ w ∈ wsX50, w ∈ wsX5_clashes := by decide +kernel
  have f83 : (Cond.fieldLink RX5 83 "Slidewarden" "slideCount" "I").before args s = true := hts _ (by decide +kernel)
  have hS : va_S (xwA ad sz) s.heap s.heap [] := va_S.rf
  have hsz2 : ∀ q : Nat, s.heap.size ≤ q → xwA ad sz q := fun q hq => Or.inr (by rw [← hsz]; exact hq)
  obtain ⟨ls, hl, hent⟩ := sw_entry m (n := 3) ha (Nat.le_of_ble_eq_true rfl)
  rw [hent]
  have hl : lv_has ls 3 [(0, .ref (ad 0)), (1, .int x1), (2, .int x2)] := hl
  unfold xx5_clashes at h
  refine lv_aload_n hx hb dX5_clashes_0 rfl (lv_at hl 0 rfl) ?_
  refine lv_iload_n hx hb dX5_clashes_1 rfl (lv_at hl 1 rfl) ?_
  obtain ⟨n2, en2, hq2, hex⟩ := swck_s h
  refine xw_ckv (As := [.int x1]) (rest := []) E (xm5_checkBranch l hst D cy ad u x1 _ en2) (cwV 1 hts gX5_clashes_X5_checkBranch rfl rfl rfl (by decide +kernel) ⟨Nat.le_of_ble_eq_true rfl, Nat.le_of_ble_eq_true rfl⟩) hK hP hX (xw_frP hS hsz) hS ⟨Nat.le_of_ble_eq_true rfl, Nat.le_of_ble_eq_true rfl⟩ rfl hl.1 rfl (Nat.le_of_ble_eq_true rfl) dX5_clashes_2 (fun hn ce q9 H locs hP hS hc hv hcl => xw_outP (hex hn) hn hout hlocks hc hv hcl hP hS (by decide) (by decide)) (fun hn H locs hP hS => ?_)
  replace h := hq2 hn
  refine lv_aload_n hx hb dX5_clashes_5 rfl (lv_at hl 0 rfl) ?_
  refine lv_iload_n hx hb dX5_clashes_6 rfl (lv_at hl 2 rfl) ?_
  obtain ⟨n7, en7, hq7, hex⟩ := swck_s h
  refine xw_ckv (As := [.int x2]) (rest := []) E (xm5_checkBranch l hst D cy ad u x2 _ en7) (cwV 1 hts gX5_clashes_X5_checkBranch rfl rfl rfl (by decide +kernel) ⟨Nat.le_of_ble_eq_true rfl, Nat.le_of_ble_eq_true rfl⟩) hK hP hX (xw_frP hS hsz) hS ⟨Nat.le_of_ble_eq_true rfl, Nat.le_of_ble_eq_true rfl⟩ rfl hl.1 rfl (Nat.le_of_ble_eq_true rfl) dX5_clashes_7 (fun hn ce q9 H locs hP hS hc hv hcl => xw_outP (hex hn) hn hout hlocks hc hv hcl hP hS (by decide) (by decide)) (fun hn H locs hP hS => ?_)
  replace h := hq7 hn
  refine lv_iload_n hx hb dX5_clashes_10 rfl (lv_at hl 1 rfl) ?_
  refine lv_iload_n hx hb dX5_clashes_11 rfl (lv_at hl 2 rfl) ?_
  obtain ⟨n12, en12, hq12, hex⟩ := swck_s h
  refine xw_ckS (As := [.int x1, .int x2]) (rest := []) E (xm5_checkDifferent l hst D cy ad u x1 x2 _ en12) (va_cwS 2 hts gX5_clashes_X5_checkDifferent rfl rfl rfl (by decide +kernel) ⟨Nat.le_of_ble_eq_true rfl, Nat.le_of_ble_eq_true rfl⟩) hK hP hX (xw_frP hS hsz) hS ⟨Nat.le_of_ble_eq_true rfl, Nat.le_of_ble_eq_true rfl⟩ rfl hl.1 rfl (Nat.le_of_ble_eq_true rfl) dX5_clashes_12 (fun hn ce q9 H locs hP hS hc hv hcl => xw_outP (hex hn) hn hout hlocks hc hv hcl hP hS (by decide) (by decide)) (fun hn H locs hP hS => ?_)
  replace h := hq12 hn
  refine lv_aload_n hx hb dX5_clashes_15 rfl (lv_at hl 0 rfl) ?_
  refine lv_iload_n hx hb dX5_clashes_16 rfl (lv_at hl 1 rfl) ?_
  refine lv_iload_n hx hb dX5_clashes_17 rfl (lv_at hl 2 rfl) ?_
  obtain ⟨⟨co18, ca18, cb18⟩, eg18, h⟩ := swbd_s h
  refine xw_callMo (As := [.int x1, .int x2]) (rest := []) E (xm5_mergeOf l D cy ad u x1 x2 _ _ _ _ eg18) (cwV 2 hts gX5_clashes_X5_mergeOf rfl rfl rfl (by decide +kernel) ⟨Nat.le_of_ble_eq_true rfl, Nat.le_of_ble_eq_true rfl⟩) hK hP hS hsz2 ⟨Nat.le_of_ble_eq_true rfl, Nat.le_of_ble_eq_true rfl⟩ rfl hl.1 rfl (Nat.le_of_ble_eq_true rfl) dX5_clashes_18 (fun g18 H locs hP hS hG hg hco18 hca18 hcb18 => ?_)
  refine lv_aload_n hx hb dX5_clashes_21 rfl (lv_at hl 0 rfl) ?_
  refine xw_getO hx hb hts hin5 hown hK hP 8 (by decide) f83 rfl dX5_clashes_22 ?_
  obtain ⟨r25, er25, h⟩ := swbd_s h
  refine xw_calliM (As := [.int (u.1 0 8)]) (rest := []) E (xm1_countClashes l D cy ad g18 u co18 ca18 cb18 (u.1 0 8) hco18 hca18 hcb18 _ er25) (cwV 1 hts gX5_clashes_X1_countClashes rfl rfl rfl (by decide +kernel) ⟨Nat.le_of_ble_eq_true rfl, Nat.le_of_ble_eq_true rfl⟩) hK hP hG ⟨Nat.le_of_ble_eq_true rfl, Nat.le_of_ble_eq_true rfl⟩ rfl hl.1 rfl (Nat.le_of_ble_eq_true rfl) dX5_clashes_25 ?_
  refine W.widen (k := 4) (n := 21) (Nat.le_of_ble_eq_true rfl) (Nat.le_of_ble_eq_true rfl) ?_
  exact vx_ret (W.iret hx hb hr (fun t ht hW => ⟨⟨_, (), rfl, ⟨(sw_inj3 h).1.symm, (sw_inj3 h).2.1⟩, xw_end hP ht (sw_inj3 h).2.2⟩, hS.F ht⟩) hS.2.2 dX5_clashes_28 hlocks)

/-! X5.merged -/
def xx5_merged (u : swU) (x1 : Int32) (x2 : Int32) (x3 : Int32) (x4 : Int32) (x5 : Int32) : Option (Nat × Int32 × swU) :=
  swck (xx5_checkBranch u x1) (fun k => some (k, 0, u)) <| swck (xx5_checkBranch u x2) (fun k => some (k, 0, u)) <| swck (xx5_checkSlide u x3) (fun k => some (k, 0, u)) <| swck (xx5_checkObject u x4) (fun k => some (k, 0, u)) <| swck (xx5_checkDifferent u x1 x2) (fun k => some (k, 0, u)) <| if x5 = 0 then (swbd (xx5_mergeOf u x1 x2) fun z49 => match z49 with | (co49, ca49, cb49) => swbd (xx1_resultOf u co49 ca49 cb49 x3 x4 x5) fun r57 => some (0, r57, u)) else (if x5 = 1 then (swbd (xx5_mergeOf u x1 x2) fun z49 => match z49 with | (co49, ca49, cb49) => swbd (xx1_resultOf u co49 ca49 cb49 x3 x4 x5) fun r57 => some (0, r57, u)) else (some (2, 0, u)))

abbrev rmX5_merged : Room := { frames := 7, cells := 6, slots := 36, locals := 118 }

set_option maxHeartbeats 4000000 in
set_option maxRecDepth 100000 in
theorem xm5_merged (l : Launch) (hst : l.stackTraces = false) (D : va_G) (cy : Nat → ClassId) (ad : Nat → Nat) (hJ : swJ xw_N ad) (u : swU) (x1 : Int32) (x2 : Int32) (x3 : Int32) (x4 : Int32) (x5 : Int32) (sz : Nat) (k0 : Nat) (r0 : Int32) (u0 : swU) (h : xx5_merged u x1 x2 x3 x4 x5 = some (k0, r0, u0)) : vx_Met l yX5_merged wsX5_merged rmX5_merged (xwCX D cy ad u sz [.ref (ad 0), .int x1, .int x2, .int x3, .int x4, .int x5]) (xwPi D cy ad sz k0 r0 u0) (xwPx D cy ad sz k0 u0) 6 36 (xwA ad sz) := by
  refine vx_ofW (cc := cX5_merged) (maxL := 6) (ret := (some .int)) (by decide) rfl ?_
  intro p e s m args below meth c s₁ B hml hex hv
  obtain ⟨ha, hP, hK, hX, hsz⟩ := hv
  have hout : ∀ (q : Nat), ∀ x ∈ c.exceptionTable.toList, covers x q = false := fun q x hx => (hex x hx).elim
  have hx := B.exec
  have hb := B.bytes
  have hr := B.returns
  have hlocks := B.notSynchronized
  have hts := atoms_spec (ws := wsX5_merged) B.pre
  have hown : s.vm.findClass RX5 = some m.cls := findClass_of_methodNamed B.named
  have E : CallFix p m c cX5_merged 6 s args wsX5_merged RX5 := ⟨hx, hb, hml, hown, hts⟩
  have fi2 : (Cond.initialized "java/lang/IllegalArgumentException").before args s = true := hts _ (by decide +kernel)
  have fk106 : (Cond.classLink RX5 106 "java/lang/IllegalArgumentException").before args s = true := hts _ (by decide +kernel)
  have hm110 : ∀ w ∈ (vx_atS RX5 110 "java/lang/IllegalArgumentException" swNs).filter goodWord, w ∈ wsX5_merged := fun w h => by first | exact List.mem_cons_of_mem _ (List.mem_append_right _ h) | exact List.mem_cons_of_mem _ (List.mem_append_left _ (List.mem_append_right _ h)) | exact List.mem_cons_of_mem _ (List.mem_append_left _ (List.mem_append_left _ (List.mem_append_right _ h)))
  have hS : va_S (xwA ad sz) s.heap s.heap [] := va_S.rf
  have hsz2 : ∀ q : Nat, s.heap.size ≤ q → xwA ad sz q := fun q hq => Or.inr (by rw [← hsz]; exact hq)
  obtain ⟨ls, hl, hent⟩ := sw_entry m (n := 6) ha (Nat.le_of_ble_eq_true rfl)
  rw [hent]
  have hl : lv_has ls 6 [(0, .ref (ad 0)), (1, .int x1), (2, .int x2), (3, .int x3), (4, .int x4), (5, .int x5)] := hl
  unfold xx5_merged at h
  refine lv_aload_n hx hb dX5_merged_0 rfl (lv_at hl 0 rfl) ?_
  refine lv_iload_n hx hb dX5_merged_1 rfl (lv_at hl 1 rfl) ?_
  obtain ⟨n2, en2, hq2, hex⟩ := swck_s h
  refine xw_ckv (As := [.int x1]) (rest := []) E (xm5_checkBranch l hst D cy ad u x1 _ en2) (cwV 1 hts gX5_merged_X5_checkBranch rfl rfl rfl (by decide +kernel) ⟨Nat.le_of_ble_eq_true rfl, Nat.le_of_ble_eq_true rfl⟩) hK hP hX (xw_frP hS hsz) hS ⟨Nat.le_of_ble_eq_true rfl, Nat.le_of_ble_eq_true rfl⟩ rfl hl.1 rfl (Nat.le_of_ble_eq_true rfl) dX5_merged_2 (fun hn ce q9 H locs hP hS hc hv hcl => xw_outP (hex hn) hn hout hlocks hc hv hcl hP hS (by decide) (by decide)) (fun hn H locs hP hS => ?_)
  replace h := hq2 hn
  refine lv_aload_n hx hb dX5_merged_5 rfl (lv_at hl 0 rfl) ?_
  refine lv_iload_n hx hb dX5_merged_6 rfl (lv_at hl 2 rfl) ?_
  obtain ⟨n7, en7, hq7, hex⟩ := swck_s h
  refine xw_ckv (As := [.int x2]) (rest := []) E (xm5_checkBranch l hst D cy ad u x2 _ en7) (cwV 1 hts gX5_merged_X5_checkBranch rfl rfl rfl (by decide +kernel) ⟨Nat.le_of_ble_eq_true rfl, Nat.le_of_ble_eq_true rfl⟩) hK hP hX (xw_frP hS hsz) hS ⟨Nat.le_of_ble_eq_true rfl, Nat.le_of_ble_eq_true rfl⟩ rfl hl.1 rfl (Nat.le_of_ble_eq_true rfl) dX5_merged_7 (fun hn ce q9 H locs hP hS hc hv hcl => xw_outP (hex hn) hn hout hlocks hc hv hcl hP hS (by decide) (by decide)) (fun hn H locs hP hS => ?_)
  replace h := hq7 hn
  refine lv_aload_n hx hb dX5_merged_10 rfl (lv_at hl 0 rfl) ?_
  refine lv_iload_n hx hb dX5_merged_11 rfl (lv_at hl 3 rfl) ?_
  obtain ⟨n12, en12, hq12, hex⟩ := swck_s h
  refine xw_ckv (As := [.int x3]) (rest := []) E (xm5_checkSlide l hst D cy ad u x3 _ en12) (cwV 1 hts gX5_merged_X5_checkSlide rfl rfl rfl (by decide +kernel) ⟨Nat.le_of_ble_eq_true rfl, Nat.le_of_ble_eq_true rfl⟩) hK hP hX (xw_frP hS hsz) hS ⟨Nat.le_of_ble_eq_true rfl, Nat.le_of_ble_eq_true rfl⟩ rfl hl.1 rfl (Nat.le_of_ble_eq_true rfl) dX5_merged_12 (fun hn ce q9 H locs hP hS hc hv hcl => xw_outP (hex hn) hn hout hlocks hc hv hcl hP hS (by decide) (by decide)) (fun hn H locs hP hS => ?_)
  replace h := hq12 hn
  refine lv_iload hx hb dX5_merged_15 (lv_at hl 4 rfl) ?_
  obtain ⟨n17, en17, hq17, hex⟩ := swck_s h
  refine xw_ckS (As := [.int x4]) (rest := []) E (xm5_checkObject l hst D cy ad u x4 _ en17) (va_cwS 1 hts gX5_merged_X5_checkObject rfl rfl rfl (by decide +kernel) ⟨Nat.le_of_ble_eq_true rfl, Nat.le_of_ble_eq_true rfl⟩) hK hP hX (xw_frP hS hsz) hS ⟨Nat.le_of_ble_eq_true rfl, Nat.le_of_ble_eq_true rfl⟩ rfl hl.1 rfl (Nat.le_of_ble_eq_true rfl) dX5_merged_17 (fun hn ce q9 H locs hP hS hc hv hcl => xw_outP (hex hn) hn hout hlocks hc hv hcl hP hS (by decide) (by decide)) (fun hn H locs hP hS => ?_)
  replace h := hq17 hn
  refine lv_iload_n hx hb dX5_merged_20 rfl (lv_at hl 1 rfl) ?_
  refine lv_iload_n hx hb dX5_merged_21 rfl (lv_at hl 2 rfl) ?_
  obtain ⟨n22, en22, hq22, hex⟩ := swck_s h
  refine xw_ckS (As := [.int x1, .int x2]) (rest := []) E (xm5_checkDifferent l hst D cy ad u x1 x2 _ en22) (va_cwS 2 hts gX5_merged_X5_checkDifferent rfl rfl rfl (by decide +kernel) ⟨Nat.le_of_ble_eq_true rfl, Nat.le_of_ble_eq_true rfl⟩) hK hP hX (xw_frP hS hsz) hS ⟨Nat.le_of_ble_eq_true rfl, Nat.le_of_ble_eq_true rfl⟩ rfl hl.1 rfl (Nat.le_of_ble_eq_true rfl) dX5_merged_22 (fun hn ce q9 H locs hP hS hc hv hcl => xw_outP (hex hn) hn hout hlocks hc hv hcl hP hS (by decide) (by decide)) (fun hn H locs hP hS => ?_)
  replace h := hq22 hn
  refine lv_iload hx hb dX5_merged_25 (lv_at hl 5 rfl) ?_
  refine lv_if_eq (tgt := 46) hx hb dX5_merged_27 (by decide) (fun cc => ?_) (fun cc => ?_)
  · replace h := sw_t h cc
    refine lv_aload_n hx hb dX5_merged_46 rfl (lv_at hl 0 rfl) ?_
    refine lv_iload_n hx hb dX5_merged_47 rfl (lv_at hl 1 rfl) ?_
    refine lv_iload_n hx hb dX5_merged_48 rfl (lv_at hl 2 rfl) ?_
    obtain ⟨⟨co49, ca49, cb49⟩, eg49, h⟩ := swbd_s h
    refine xw_callMo (As := [.int x1, .int x2]) (rest := []) E (xm5_mergeOf l D cy ad u x1 x2 _ _ _ _ eg49) (cwV 2 hts gX5_merged_X5_mergeOf rfl rfl rfl (by decide +kernel) ⟨Nat.le_of_ble_eq_true rfl, Nat.le_of_ble_eq_true rfl⟩) hK hP hS hsz2 ⟨Nat.le_of_ble_eq_true rfl, Nat.le_of_ble_eq_true rfl⟩ rfl hl.1 rfl (Nat.le_of_ble_eq_true rfl) dX5_merged_49 (fun g49 H locs hP hS hG hg hco49 hca49 hcb49 => ?_)
    refine lv_iload_n hx hb dX5_merged_52 rfl (lv_at hl 3 rfl) ?_
    refine lv_iload hx hb dX5_merged_53 (lv_at hl 4 rfl) ?_
    refine lv_iload hx hb dX5_merged_55 (lv_at hl 5 rfl) ?_
    obtain ⟨r57, er57, h⟩ := swbd_s h
    refine xw_calliM (As := [.int x3, .int x4, .int x5]) (rest := []) E (xm1_resultOf l D cy ad g49 u co49 ca49 cb49 x3 x4 x5 hco49 hca49 hcb49 _ er57) (cwV 3 hts gX5_merged_X1_resultOf rfl rfl rfl (by decide +kernel) ⟨Nat.le_of_ble_eq_true rfl, Nat.le_of_ble_eq_true rfl⟩) hK hP hG ⟨Nat.le_of_ble_eq_true rfl, Nat.le_of_ble_eq_true rfl⟩ rfl hl.1 rfl (Nat.le_of_ble_eq_true rfl) dX5_merged_57 ?_
    refine W.widen (k := 6) (n := 36) (Nat.le_of_ble_eq_true rfl) (Nat.le_of_ble_eq_true rfl) ?_
    exact vx_ret (W.iret hx hb hr (fun t ht hW => ⟨⟨_, (), rfl, ⟨(sw_inj3 h).1.symm, (sw_inj3 h).2.1⟩, xw_end hP ht (sw_inj3 h).2.2⟩, hS.F ht⟩) hS.2.2 dX5_merged_60 hlocks)
  · replace h := sw_f h cc
    refine lv_iload hx hb dX5_merged_30 (lv_at hl 5 rfl) ?_
    refine lv_iconst (v := 1) hx hb dX5_merged_32 (by decide) ?_
    refine lv_icmp_eq (tgt := 46) hx hb dX5_merged_33 (by decide) (fun cc => ?_) (fun cc => ?_)
    · replace h := sw_t h cc
      refine lv_aload_n hx hb dX5_merged_46 rfl (lv_at hl 0 rfl) ?_
      refine lv_iload_n hx hb dX5_merged_47 rfl (lv_at hl 1 rfl) ?_
      refine lv_iload_n hx hb dX5_merged_48 rfl (lv_at hl 2 rfl) ?_
      obtain ⟨⟨co49, ca49, cb49⟩, eg49, h⟩ := swbd_s h
      refine xw_callMo (As := [.int x1, .int x2]) (rest := []) E (xm5_mergeOf l D cy ad u x1 x2 _ _ _ _ eg49) (cwV 2 hts gX5_merged_X5_mergeOf rfl rfl rfl (by decide +kernel) ⟨Nat.le_of_ble_eq_true rfl, Nat.le_of_ble_eq_true rfl⟩) hK hP hS hsz2 ⟨Nat.le_of_ble_eq_true rfl, Nat.le_of_ble_eq_true rfl⟩ rfl hl.1 rfl (Nat.le_of_ble_eq_true rfl) dX5_merged_49 (fun g49 H locs hP hS hG hg hco49 hca49 hcb49 => ?_)
      refine lv_iload_n hx hb dX5_merged_52 rfl (lv_at hl 3 rfl) ?_
      refine lv_iload hx hb dX5_merged_53 (lv_at hl 4 rfl) ?_
      refine lv_iload hx hb dX5_merged_55 (lv_at hl 5 rfl) ?_
      obtain ⟨r57, er57, h⟩ := swbd_s h
      refine xw_calliM (As := [.int x3, .int x4, .int x5]) (rest := []) E (xm1_resultOf l D cy ad g49 u co49 ca49 cb49 x3 x4 x5 hco49 hca49 hcb49 _ er57) (cwV 3 hts gX5_merged_X1_resultOf rfl rfl rfl (by decide +kernel) ⟨Nat.le_of_ble_eq_true rfl, Nat.le_of_ble_eq_true rfl⟩) hK hP hG ⟨Nat.le_of_ble_eq_true rfl, Nat.le_of_ble_eq_true rfl⟩ rfl hl.1 rfl (Nat.le_of_ble_eq_true rfl) dX5_merged_57 ?_
      refine W.widen (k := 6) (n := 36) (Nat.le_of_ble_eq_true rfl) (Nat.le_of_ble_eq_true rfl) ?_
      exact vx_ret (W.iret hx hb hr (fun t ht hW => ⟨⟨_, (), rfl, ⟨(sw_inj3 h).1.symm, (sw_inj3 h).2.1⟩, xw_end hP ht (sw_inj3 h).2.2⟩, hS.F ht⟩) hS.2.2 dX5_merged_60 hlocks)
    · replace h := sw_f h cc
      exact xw_thr2 (text := "settled is out of range") hx hb hst hts hm110 hown fk106 fi2 hX (by decide +kernel) hS (xw_hAP hsz) (hl.1.trans hml.symm) dX5_merged_36 dX5_merged_39 dX5_merged_40 dX5_merged_42 dX5_merged_45 hout (by decide) (Nat.le_of_ble_eq_true rfl) (by decide) (by decide) hlocks (xw_xP h (by decide) hP hS) hS.2.2 (by decide) (by decide)

/-! X5.merge -/
def xx5_merge (u : swU) (x1 : Int32) (x2 : Int32) (x3 : Int32) : Option (Nat × Int32 × swU) :=
  swck (xx5_checkBranch u x1) (fun k => some (k, 0, u)) <| swck (xx5_checkBranch u x2) (fun k => some (k, 0, u)) <| swck (xx5_checkDifferent u x1 x2) (fun k => some (k, 0, u)) <| if x3 = 0 then (swbd (xx5_mergeOf u x1 x2) fun z42 => match z42 with | (co42, ca42, cb42) => if x3 = (-1) then (swbd (xx1_countClashes u co42 ca42 cb42 (u.1 0 8)) fun r58 => if r58 ≤ 0 then (swbd (xx1_countSlides u co42 ca42 cb42 (u.1 0 8) x3) fun r81 => if r81 ≤ 8 then (swbd (xx1_fill u co42 ca42 cb42 240 x3) fun u106 => swbd (xx5_countBlocks u106 240) fun r114 => if r114 ≤ 0 then (swck (xx5_checkRoomForVersion u106) (fun k => some (k, 0, u106)) <| swrd 6 (u106.1 1) x2 fun a141 => swbd (xx5_makeVersion u106 x1 a141) fun z142 => match z142 with | (r142, u142) => swbd (xx0_copyFrom u142 r142 240) fun u149 => swrd 6 (u149.1 1) x1 fun a157 => some (0, a157, u149)) else (some (3, 0, u106))) else (some (3, 0, u))) else (some (3, 0, u))) else (swbd (xx1_countSlides u co42 ca42 cb42 (u.1 0 8) x3) fun r81 => if r81 ≤ 8 then (swbd (xx1_fill u co42 ca42 cb42 240 x3) fun u106 => swbd (xx5_countBlocks u106 240) fun r114 => if r114 ≤ 0 then (swck (xx5_checkRoomForVersion u106) (fun k => some (k, 0, u106)) <| swrd 6 (u106.1 1) x2 fun a141 => swbd (xx5_makeVersion u106 x1 a141) fun z142 => match z142 with | (r142, u142) => swbd (xx0_copyFrom u142 r142 240) fun u149 => swrd 6 (u149.1 1) x1 fun a157 => some (0, a157, u149)) else (some (3, 0, u106))) else (some (3, 0, u)))) else (if x3 = 1 then (swbd (xx5_mergeOf u x1 x2) fun z42 => match z42 with | (co42, ca42, cb42) => if x3 = (-1) then (swbd (xx1_countClashes u co42 ca42 cb42 (u.1 0 8)) fun r58 => if r58 ≤ 0 then (swbd (xx1_countSlides u co42 ca42 cb42 (u.1 0 8) x3) fun r81 => if r81 ≤ 8 then (swbd (xx1_fill u co42 ca42 cb42 240 x3) fun u106 => swbd (xx5_countBlocks u106 240) fun r114 => if r114 ≤ 0 then (swck (xx5_checkRoomForVersion u106) (fun k => some (k, 0, u106)) <| swrd 6 (u106.1 1) x2 fun a141 => swbd (xx5_makeVersion u106 x1 a141) fun z142 => match z142 with | (r142, u142) => swbd (xx0_copyFrom u142 r142 240) fun u149 => swrd 6 (u149.1 1) x1 fun a157 => some (0, a157, u149)) else (some (3, 0, u106))) else (some (3, 0, u))) else (some (3, 0, u))) else (swbd (xx1_countSlides u co42 ca42 cb42 (u.1 0 8) x3) fun r81 => if r81 ≤ 8 then (swbd (xx1_fill u co42 ca42 cb42 240 x3) fun u106 => swbd (xx5_countBlocks u106 240) fun r114 => if r114 ≤ 0 then (swck (xx5_checkRoomForVersion u106) (fun k => some (k, 0, u106)) <| swrd 6 (u106.1 1) x2 fun a141 => swbd (xx5_makeVersion u106 x1 a141) fun z142 => match z142 with | (r142, u142) => swbd (xx0_copyFrom u142 r142 240) fun u149 => swrd 6 (u149.1 1) x1 fun a157 => some (0, a157, u149)) else (some (3, 0, u106))) else (some (3, 0, u)))) else (if x3 = (-1) then (swbd (xx5_mergeOf u x1 x2) fun z42 => match z42 with | (co42, ca42, cb42) => if x3 = (-1) then (swbd (xx1_countClashes u co42 ca42 cb42 (u.1 0 8)) fun r58 => if r58 ≤ 0 then (swbd (xx1_countSlides u co42 ca42 cb42 (u.1 0 8) x3) fun r81 => if r81 ≤ 8 then (swbd (xx1_fill u co42 ca42 cb42 240 x3) fun u106 => swbd (xx5_countBlocks u106 240) fun r114 => if r114 ≤ 0 then (swck (xx5_checkRoomForVersion u106) (fun k => some (k, 0, u106)) <| swrd 6 (u106.1 1) x2 fun a141 => swbd (xx5_makeVersion u106 x1 a141) fun z142 => match z142 with | (r142, u142) => swbd (xx0_copyFrom u142 r142 240) fun u149 => swrd 6 (u149.1 1) x1 fun a157 => some (0, a157, u149)) else (some (3, 0, u106))) else (some (3, 0, u))) else (some (3, 0, u))) else (swbd (xx1_countSlides u co42 ca42 cb42 (u.1 0 8) x3) fun r81 => if r81 ≤ 8 then (swbd (xx1_fill u co42 ca42 cb42 240 x3) fun u106 => swbd (xx5_countBlocks u106 240) fun r114 => if r114 ≤ 0 then (swck (xx5_checkRoomForVersion u106) (fun k => some (k, 0, u106)) <| swrd 6 (u106.1 1) x2 fun a141 => swbd (xx5_makeVersion u106 x1 a141) fun z142 => match z142 with | (r142, u142) => swbd (xx0_copyFrom u142 r142 240) fun u149 => swrd 6 (u149.1 1) x1 fun a157 => some (0, a157, u149)) else (some (3, 0, u106))) else (some (3, 0, u)))) else (some (2, 0, u))))

abbrev rmX5_merge : Room := { frames := 7, cells := 5, slots := 27, locals := 144 }

set_option maxHeartbeats 4000000 in
set_option maxRecDepth 100000 in
theorem xm5_merge (l : Launch) (hst : l.stackTraces = false) (D : va_G) (cy : Nat → ClassId) (ad : Nat → Nat) (hJ : swJ xw_N ad) (u : swU) (x1 : Int32) (x2 : Int32) (x3 : Int32) (sz : Nat) (k0 : Nat) (r0 : Int32) (u0 : swU) (h : xx5_merge u x1 x2 x3 = some (k0, r0, u0)) : vx_Met l yX5_merge wsX5_merge rmX5_merge (xwCX D cy ad u sz [.ref (ad 0), .int x1, .int x2, .int x3]) (xwPi D cy ad sz k0 r0 u0) (xwPx D cy ad sz k0 u0) 5 27 (xwA ad sz) := by
  refine vx_ofW (cc := cX5_merge) (maxL := 5) (ret := (some .int)) (by decide) rfl ?_
  intro p e s m args below meth c s₁ B hml hex hv
  obtain ⟨ha, hP, hK, hX, hsz⟩ := hv
  have hout : ∀ (q : Nat), ∀ x ∈ c.exceptionTable.toList, covers x q = false := fun q x hx => (hex x hx).elim
  have hx := B.exec
  have hb := B.bytes
  have hr := B.returns
  have hlocks := B.notSynchronized
  have hts := atoms_spec (ws := wsX5_merge) B.pre
  have hown : s.vm.findClass RX5 = some m.cls := findClass_of_methodNamed B.named
  have E : CallFix p m c cX5_merge 5 s args wsX5_merge RX5 := ⟨hx, hb, hml, hown, hts⟩
  have hin5 : ∀ w ∈ wsX50, w ∈ wsX5_merge := by decide +kernel
  have f15 : (Cond.fieldLink RX5 15 "Slidewarden" "heads" "[I").before args s = true := hts _ (by decide +kernel)
  have f37 : (Cond.fieldLink RX5 37 "Slidewarden" "trial" "LSlidewarden$Deck;").before args s = true := hts _ (by decide +kernel)
  have f83 : (Cond.fieldLink RX5 83 "Slidewarden" "slideCount" "I").before args s = true := hts _ (by decide +kernel)
  have fi2 : (Cond.initialized "java/lang/IllegalArgumentException").before args s = true := hts _ (by decide +kernel)
  have fi3 : (Cond.initialized "java/lang/IllegalStateException").before args s = true := hts _ (by decide +kernel)
  have fk106 : (Cond.classLink RX5 106 "java/lang/IllegalArgumentException").before args s = true := hts _ (by decide +kernel)
  have fk59 : (Cond.classLink RX5 59 "java/lang/IllegalStateException").before args s = true := hts _ (by decide +kernel)
  have hm63 : ∀ w ∈ (vx_atS RX5 63 "java/lang/IllegalStateException" swNs).filter goodWord, w ∈ wsX5_merge := fun w h => by first | exact List.mem_cons_of_mem _ (List.mem_append_right _ h) | exact List.mem_cons_of_mem _ (List.mem_append_left _ (List.mem_append_right _ h)) | exact List.mem_cons_of_mem _ (List.mem_append_left _ (List.mem_append_left _ (List.mem_append_right _ h)))
  have hm110 : ∀ w ∈ (vx_atS RX5 110 "java/lang/IllegalArgumentException" swNs).filter goodWord, w ∈ wsX5_merge := fun w h => by first | exact List.mem_cons_of_mem _ (List.mem_append_right _ h) | exact List.mem_cons_of_mem _ (List.mem_append_left _ (List.mem_append_right _ h)) | exact List.mem_cons_of_mem _ (List.mem_append_left _ (List.mem_append_left _ (List.mem_append_right _ h)))
  have hS : va_S (xwA ad sz) s.heap s.heap [] := va_S.rf
  have hsz2 : ∀ q : Nat, s.heap.size ≤ q → xwA ad sz q := fun q hq => Or.inr (by rw [← hsz]; exact hq)
  obtain ⟨ls, hl, hent⟩ := sw_entry m (n := 5) ha (Nat.le_of_ble_eq_true rfl)
  rw [hent]
  have hl : lv_has ls 5 [(0, .ref (ad 0)), (1, .int x1), (2, .int x2), (3, .int x3)] := hl
  unfold xx5_merge at h
  refine lv_aload_n hx hb dX5_merge_0 rfl (lv_at hl 0 rfl) ?_
  refine lv_iload_n hx hb dX5_merge_1 rfl (lv_at hl 1 rfl) ?_
  obtain ⟨n2, en2, hq2, hex⟩ := swck_s h
  refine xw_ckv (As := [.int x1]) (rest := []) E (xm5_checkBranch l hst D cy ad u x1 _ en2) (cwV 1 hts gX5_merge_X5_checkBranch rfl rfl rfl (by decide +kernel) ⟨Nat.le_of_ble_eq_true rfl, Nat.le_of_ble_eq_true rfl⟩) hK hP hX (xw_frP hS hsz) hS ⟨Nat.le_of_ble_eq_true rfl, Nat.le_of_ble_eq_true rfl⟩ rfl hl.1 rfl (Nat.le_of_ble_eq_true rfl) dX5_merge_2 (fun hn ce q9 H locs hP hS hc hv hcl => xw_outP (hex hn) hn hout hlocks hc hv hcl hP hS (by decide) (by decide)) (fun hn H locs hP hS => ?_)
  replace h := hq2 hn
  refine lv_aload_n hx hb dX5_merge_5 rfl (lv_at hl 0 rfl) ?_
  refine lv_iload_n hx hb dX5_merge_6 rfl (lv_at hl 2 rfl) ?_
  obtain ⟨n7, en7, hq7, hex⟩ := swck_s h
  refine xw_ckv (As := [.int x2]) (rest := []) E (xm5_checkBranch l hst D cy ad u x2 _ en7) (cwV 1 hts gX5_merge_X5_checkBranch rfl rfl rfl (by decide +kernel) ⟨Nat.le_of_ble_eq_true rfl, Nat.le_of_ble_eq_true rfl⟩) hK hP hX (xw_frP hS hsz) hS ⟨Nat.le_of_ble_eq_true rfl, Nat.le_of_ble_eq_true rfl⟩ rfl hl.1 rfl (Nat.le_of_ble_eq_true rfl) dX5_merge_7 (fun hn ce q9 H locs hP hS hc hv hcl => xw_outP (hex hn) hn hout hlocks hc hv hcl hP hS (by decide) (by decide)) (fun hn H locs hP hS => ?_)
  replace h := hq7 hn
  refine lv_iload_n hx hb dX5_merge_10 rfl (lv_at hl 1 rfl) ?_
  refine lv_iload_n hx hb dX5_merge_11 rfl (lv_at hl 2 rfl) ?_
  obtain ⟨n12, en12, hq12, hex⟩ := swck_s h
  refine xw_ckS (As := [.int x1, .int x2]) (rest := []) E (xm5_checkDifferent l hst D cy ad u x1 x2 _ en12) (va_cwS 2 hts gX5_merge_X5_checkDifferent rfl rfl rfl (by decide +kernel) ⟨Nat.le_of_ble_eq_true rfl, Nat.le_of_ble_eq_true rfl⟩) hK hP hX (xw_frP hS hsz) hS ⟨Nat.le_of_ble_eq_true rfl, Nat.le_of_ble_eq_true rfl⟩ rfl hl.1 rfl (Nat.le_of_ble_eq_true rfl) dX5_merge_12 (fun hn ce q9 H locs hP hS hc hv hcl => xw_outP (hex hn) hn hout hlocks hc hv hcl hP hS (by decide) (by decide)) (fun hn H locs hP hS => ?_)
  replace h := hq12 hn
  refine lv_iload_n hx hb dX5_merge_15 rfl (lv_at hl 3 rfl) ?_
  refine lv_if_eq (tgt := 39) hx hb dX5_merge_16 (by decide) (fun cc => ?_) (fun cc => ?_)
  · replace h := sw_t h cc
    refine lv_aload_n hx hb dX5_merge_39 rfl (lv_at hl 0 rfl) ?_
    refine lv_iload_n hx hb dX5_merge_40 rfl (lv_at hl 1 rfl) ?_
    refine lv_iload_n hx hb dX5_merge_41 rfl (lv_at hl 2 rfl) ?_
    obtain ⟨⟨co42, ca42, cb42⟩, eg42, h⟩ := swbd_s h
    refine xw_callMo (As := [.int x1, .int x2]) (rest := []) E (xm5_mergeOf l D cy ad u x1 x2 _ _ _ _ eg42) (cwV 2 hts gX5_merge_X5_mergeOf rfl rfl rfl (by decide +kernel) ⟨Nat.le_of_ble_eq_true rfl, Nat.le_of_ble_eq_true rfl⟩) hK hP hS hsz2 ⟨Nat.le_of_ble_eq_true rfl, Nat.le_of_ble_eq_true rfl⟩ rfl hl.1 rfl (Nat.le_of_ble_eq_true rfl) dX5_merge_42 (fun g42 H locs hP hS hG hg hco42 hca42 hcb42 => ?_)
    refine lv_astore (lv' := [(4, .ref g42), (0, .ref (ad 0)), (1, .int x1), (2, .int x2), (3, .int x3)]) hx hb dX5_merge_45 hl (by decide) rfl (fun ls hl => ?_)
    refine lv_iload_n hx hb dX5_merge_47 rfl (lv_at hl 4 rfl) ?_
    refine lv_iconst (v := (-1)) hx hb dX5_merge_48 (by decide) ?_
    refine lv_icmp_ne (tgt := 74) hx hb dX5_merge_49 (by decide) (fun cc => ?_) (fun cc => ?_)
    · replace h := sw_f h cc
      refine lv_aload hx hb dX5_merge_74 (lv_at hl 0 rfl) ?_
      refine lv_aload_n hx hb dX5_merge_76 rfl (lv_at hl 1 rfl) ?_
      refine xw_getO hx hb hts hin5 hown hK hP 8 (by decide) f83 rfl dX5_merge_77 ?_
      refine lv_iload_n hx hb dX5_merge_80 rfl (lv_at hl 4 rfl) ?_
      obtain ⟨r81, er81, h⟩ := swbd_s h
      refine xw_calliM (As := [.int (u.1 0 8), .int x3]) (rest := []) E (xm1_countSlides l D cy ad g42 u co42 ca42 cb42 (u.1 0 8) x3 hco42 hca42 hcb42 _ er81) (cwV 2 hts gX5_merge_X1_countSlides rfl rfl rfl (by decide +kernel) ⟨Nat.le_of_ble_eq_true rfl, Nat.le_of_ble_eq_true rfl⟩) hK hP hG ⟨Nat.le_of_ble_eq_true rfl, Nat.le_of_ble_eq_true rfl⟩ rfl hl.1 rfl (Nat.le_of_ble_eq_true rfl) dX5_merge_81 ?_
      refine lv_bipush (v := 8) hx hb dX5_merge_84 (by decide) ?_
      refine lv_icmp_le (tgt := 99) hx hb dX5_merge_86 (by decide) (fun cc => ?_) (fun cc => ?_)
      · replace h := sw_t h cc
        refine lv_aload hx hb dX5_merge_99 (lv_at hl 0 rfl) ?_
        refine lv_aload_n hx hb dX5_merge_101 rfl (lv_at hl 1 rfl) ?_
        refine xw_getO hx hb hts hin5 hown hK hP 5 (by decide) f37 rfl dX5_merge_102 ?_
        refine lv_iload_n hx hb dX5_merge_105 rfl (lv_at hl 4 rfl) ?_
        obtain ⟨u106, er106, h⟩ := swbd_s h
        refine xw_callWvM (As := [.ref (ad 240), .int x3]) (rest := []) E (xm1_fill l D cy ad hJ g42 hg u co42 ca42 cb42 240 x3 hco42 hca42 hcb42 xw_D240 _ er106) (cwV 2 hts gX5_merge_X1_fill rfl rfl rfl (by decide +kernel) ⟨Nat.le_of_ble_eq_true rfl, Nat.le_of_ble_eq_true rfl⟩) hK hP hG hS xw_A1 ⟨Nat.le_of_ble_eq_true rfl, Nat.le_of_ble_eq_true rfl⟩ rfl hl.1 rfl (Nat.le_of_ble_eq_true rfl) dX5_merge_106 (fun H locs hP hS hzz hkk => ?_)
        refine lv_aload_n hx hb dX5_merge_109 rfl (lv_at hl 1 rfl) ?_
        refine lv_aload_n hx hb dX5_merge_110 rfl (lv_at hl 1 rfl) ?_
        refine xw_getO hx hb hts hin5 hown hK hP 5 (by decide) f37 rfl dX5_merge_111 ?_
        obtain ⟨r114, er114, h⟩ := swbd_s h
        refine xw_calli (As := [.ref (ad 240)]) (rest := []) E (xm5_countBlocks l D cy ad u106 240 xw_D240 _ er114) (cwV 1 hts gX5_merge_X5_countBlocks rfl rfl rfl (by decide +kernel) ⟨Nat.le_of_ble_eq_true rfl, Nat.le_of_ble_eq_true rfl⟩) hK hP (xw_rO hK hP) ⟨Nat.le_of_ble_eq_true rfl, Nat.le_of_ble_eq_true rfl⟩ rfl hl.1 rfl (Nat.le_of_ble_eq_true rfl) dX5_merge_114 ?_
        refine lv_if_le (tgt := 130) hx hb dX5_merge_117 (by decide) (fun cc => ?_) (fun cc => ?_)
        · replace h := sw_t h cc
          refine lv_aload_n hx hb dX5_merge_130 rfl (lv_at hl 1 rfl) ?_
          obtain ⟨n131, en131, hq131, hex⟩ := swck_s h
          refine xw_ckv (As := []) (rest := []) E (xm5_checkRoomForVersion l hst D cy ad u106 _ en131) (cwV 0 hts gX5_merge_X5_checkRoomForVersion rfl rfl rfl (by decide +kernel) ⟨Nat.le_of_ble_eq_true rfl, Nat.le_of_ble_eq_true rfl⟩) hK hP hX (xw_frP hS hsz) hS ⟨Nat.le_of_ble_eq_true rfl, Nat.le_of_ble_eq_true rfl⟩ rfl hl.1 rfl (Nat.le_of_ble_eq_true rfl) dX5_merge_131 (fun hn ce q9 H locs hP hS hc hv hcl => xw_outP (hex hn) hn hout hlocks hc hv hcl hP hS (by decide) (by decide)) (fun hn H locs hP hS => ?_)
          replace h := hq131 hn
          refine lv_aload_n hx hb dX5_merge_134 rfl (lv_at hl 1 rfl) ?_
          refine lv_iload_n hx hb dX5_merge_135 rfl (lv_at hl 2 rfl) ?_
          refine lv_aload_n hx hb dX5_merge_136 rfl (lv_at hl 1 rfl) ?_
          refine xw_getO hx hb hts hin5 hown hK hP 1 (by decide) f15 rfl dX5_merge_137 ?_
          refine lv_iload_n hx hb dX5_merge_140 rfl (lv_at hl 3 rfl) ?_
          obtain ⟨a141, ea141, ia141, h⟩ := swrd_s h
          refine xw_ald hx hb hK hP (by decide) rfl ia141 dX5_merge_141 ea141 ?_
          obtain ⟨⟨r142, u142⟩, er142, h⟩ := swbd_s h
          refine xw_callWr (As := [.int x1, .int a141]) (rest := []) E (xm5_makeVersion l D cy ad hJ u106 x1 a141 _ _ er142) (cwV 2 hts gX5_merge_X5_makeVersion rfl rfl rfl (by decide +kernel) ⟨Nat.le_of_ble_eq_true rfl, Nat.le_of_ble_eq_true rfl⟩) hK hP hS xw_A1 (xw_rO hK hP) ⟨Nat.le_of_ble_eq_true rfl, Nat.le_of_ble_eq_true rfl⟩ rfl hl.1 rfl (Nat.le_of_ble_eq_true rfl) dX5_merge_142 (fun H locs hr142 hP hS => ?_)
          refine lv_aload_n hx hb dX5_merge_145 rfl (lv_at hl 1 rfl) ?_
          refine xw_getO hx hb hts hin5 hown hK hP 5 (by decide) f37 rfl dX5_merge_146 ?_
          obtain ⟨u149, er149, h⟩ := swbd_s h
          refine xw_callWv (As := [.ref (ad 240)]) (rest := []) E (xm0_copyFrom l D cy ad hJ u142 r142 240 hr142 xw_D240 _ er149) (cwV 1 hts gX5_merge_X0_copyFrom rfl rfl rfl (by decide +kernel) ⟨Nat.le_of_ble_eq_true rfl, Nat.le_of_ble_eq_true rfl⟩) hK hP hS xw_A1 (xw_rD hK hP hr142) ⟨Nat.le_of_ble_eq_true rfl, Nat.le_of_ble_eq_true rfl⟩ rfl hl.1 rfl (Nat.le_of_ble_eq_true rfl) dX5_merge_149 (fun H locs hP hS _ _ => ?_)
          refine lv_aload_n hx hb dX5_merge_152 rfl (lv_at hl 1 rfl) ?_
          refine xw_getO hx hb hts hin5 hown hK hP 1 (by decide) f15 rfl dX5_merge_153 ?_
          refine lv_iload_n hx hb dX5_merge_156 rfl (lv_at hl 2 rfl) ?_
          obtain ⟨a157, ea157, ia157, h⟩ := swrd_s h
          refine xw_ald hx hb hK hP (by decide) rfl ia157 dX5_merge_157 ea157 ?_
          refine W.widen (k := 5) (n := 27) (Nat.le_of_ble_eq_true rfl) (Nat.le_of_ble_eq_true rfl) ?_
          exact vx_ret (W.iret hx hb hr (fun t ht hW => ⟨⟨_, (), rfl, ⟨(sw_inj3 h).1.symm, (sw_inj3 h).2.1⟩, xw_end hP ht (sw_inj3 h).2.2⟩, hS.F ht⟩) hS.2.2 dX5_merge_158 hlocks)
        · replace h := sw_f h cc
          exact xw_thr3 (text := "the deck would be blocked") hx hb hst hts hm63 hown fk59 fi3 hX (by decide +kernel) hS (xw_hAP hsz) (hl.1.trans hml.symm) dX5_merge_120 dX5_merge_123 dX5_merge_124 dX5_merge_126 dX5_merge_129 hout (by decide) (Nat.le_of_ble_eq_true rfl) (by decide) (by decide) hlocks (xw_xP h (by decide) hP hS) hS.2.2 (by decide) (by decide)
      · replace h := sw_f h cc
        exact xw_thr3 (text := "the deck would have more than 8 slides") hx hb hst hts hm63 hown fk59 fi3 hX (by decide +kernel) hS (xw_hAP hsz) (hl.1.trans hml.symm) dX5_merge_89 dX5_merge_92 dX5_merge_93 dX5_merge_95 dX5_merge_98 hout (by decide) (Nat.le_of_ble_eq_true rfl) (by decide) (by decide) hlocks (xw_xP h (by decide) hP hS) hS.2.2 (by decide) (by decide)
    · replace h := sw_t h cc
      refine lv_aload hx hb dX5_merge_52 (lv_at hl 0 rfl) ?_
      refine lv_aload_n hx hb dX5_merge_54 rfl (lv_at hl 1 rfl) ?_
      refine xw_getO hx hb hts hin5 hown hK hP 8 (by decide) f83 rfl dX5_merge_55 ?_
      obtain ⟨r58, er58, h⟩ := swbd_s h
      refine xw_calliM (As := [.int (u.1 0 8)]) (rest := []) E (xm1_countClashes l D cy ad g42 u co42 ca42 cb42 (u.1 0 8) hco42 hca42 hcb42 _ er58) (cwV 1 hts gX5_merge_X1_countClashes rfl rfl rfl (by decide +kernel) ⟨Nat.le_of_ble_eq_true rfl, Nat.le_of_ble_eq_true rfl⟩) hK hP hG ⟨Nat.le_of_ble_eq_true rfl, Nat.le_of_ble_eq_true rfl⟩ rfl hl.1 rfl (Nat.le_of_ble_eq_true rfl) dX5_merge_58 ?_
      refine lv_if_le (tgt := 74) hx hb dX5_merge_61 (by decide) (fun cc => ?_) (fun cc => ?_)
      · replace h := sw_t h cc
        refine lv_aload hx hb dX5_merge_74 (lv_at hl 0 rfl) ?_
        refine lv_aload_n hx hb dX5_merge_76 rfl (lv_at hl 1 rfl) ?_
        refine xw_getO hx hb hts hin5 hown hK hP 8 (by decide) f83 rfl dX5_merge_77 ?_
        refine lv_iload_n hx hb dX5_merge_80 rfl (lv_at hl 4 rfl) ?_
        obtain ⟨r81, er81, h⟩ := swbd_s h
        refine xw_calliM (As := [.int (u.1 0 8), .int x3]) (rest := []) E (xm1_countSlides l D cy ad g42 u co42 ca42 cb42 (u.1 0 8) x3 hco42 hca42 hcb42 _ er81) (cwV 2 hts gX5_merge_X1_countSlides rfl rfl rfl (by decide +kernel) ⟨Nat.le_of_ble_eq_true rfl, Nat.le_of_ble_eq_true rfl⟩) hK hP hG ⟨Nat.le_of_ble_eq_true rfl, Nat.le_of_ble_eq_true rfl⟩ rfl hl.1 rfl (Nat.le_of_ble_eq_true rfl) dX5_merge_81 ?_
        refine lv_bipush (v := 8) hx hb dX5_merge_84 (by decide) ?_
        refine lv_icmp_le (tgt := 99) hx hb dX5_merge_86 (by decide) (fun cc => ?_) (fun cc => ?_)
        · replace h := sw_t h cc
          refine lv_aload hx hb dX5_merge_99 (lv_at hl 0 rfl) ?_
          refine lv_aload_n hx hb dX5_merge_101 rfl (lv_at hl 1 rfl) ?_
          refine xw_getO hx hb hts hin5 hown hK hP 5 (by decide) f37 rfl dX5_merge_102 ?_
          refine lv_iload_n hx hb dX5_merge_105 rfl (lv_at hl 4 rfl) ?_
          obtain ⟨u106, er106, h⟩ := swbd_s h
          refine xw_callWvM (As := [.ref (ad 240), .int x3]) (rest := []) E (xm1_fill l D cy ad hJ g42 hg u co42 ca42 cb42 240 x3 hco42 hca42 hcb42 xw_D240 _ er106) (cwV 2 hts gX5_merge_X1_fill rfl rfl rfl (by decide +kernel) ⟨Nat.le_of_ble_eq_true rfl, Nat.le_of_ble_eq_true rfl⟩) hK hP hG hS xw_A1 ⟨Nat.le_of_ble_eq_true rfl, Nat.le_of_ble_eq_true rfl⟩ rfl hl.1 rfl (Nat.le_of_ble_eq_true rfl) dX5_merge_106 (fun H locs hP hS hzz hkk => ?_)
          refine lv_aload_n hx hb dX5_merge_109 rfl (lv_at hl 1 rfl) ?_
          refine lv_aload_n hx hb dX5_merge_110 rfl (lv_at hl 1 rfl) ?_
          refine xw_getO hx hb hts hin5 hown hK hP 5 (by decide) f37 rfl dX5_merge_111 ?_
          obtain ⟨r114, er114, h⟩ := swbd_s h
          refine xw_calli (As := [.ref (ad 240)]) (rest := []) E (xm5_countBlocks l D cy ad u106 240 xw_D240 _ er114) (cwV 1 hts gX5_merge_X5_countBlocks rfl rfl rfl (by decide +kernel) ⟨Nat.le_of_ble_eq_true rfl, Nat.le_of_ble_eq_true rfl⟩) hK hP (xw_rO hK hP) ⟨Nat.le_of_ble_eq_true rfl, Nat.le_of_ble_eq_true rfl⟩ rfl hl.1 rfl (Nat.le_of_ble_eq_true rfl) dX5_merge_114 ?_
          refine lv_if_le (tgt := 130) hx hb dX5_merge_117 (by decide) (fun cc => ?_) (fun cc => ?_)
          · replace h := sw_t h cc
            refine lv_aload_n hx hb dX5_merge_130 rfl (lv_at hl 1 rfl) ?_
            obtain ⟨n131, en131, hq131, hex⟩ := swck_s h
            refine xw_ckv (As := []) (rest := []) E (xm5_checkRoomForVersion l hst D cy ad u106 _ en131) (cwV 0 hts gX5_merge_X5_checkRoomForVersion rfl rfl rfl (by decide +kernel) ⟨Nat.le_of_ble_eq_true rfl, Nat.le_of_ble_eq_true rfl⟩) hK hP hX (xw_frP hS hsz) hS ⟨Nat.le_of_ble_eq_true rfl, Nat.le_of_ble_eq_true rfl⟩ rfl hl.1 rfl (Nat.le_of_ble_eq_true rfl) dX5_merge_131 (fun hn ce q9 H locs hP hS hc hv hcl => xw_outP (hex hn) hn hout hlocks hc hv hcl hP hS (by decide) (by decide)) (fun hn H locs hP hS => ?_)
            replace h := hq131 hn
            refine lv_aload_n hx hb dX5_merge_134 rfl (lv_at hl 1 rfl) ?_
            refine lv_iload_n hx hb dX5_merge_135 rfl (lv_at hl 2 rfl) ?_
            refine lv_aload_n hx hb dX5_merge_136 rfl (lv_at hl 1 rfl) ?_
            refine xw_getO hx hb hts hin5 hown hK hP 1 (by decide) f15 rfl dX5_merge_137 ?_
            refine lv_iload_n hx hb dX5_merge_140 rfl (lv_at hl 3 rfl) ?_
            obtain ⟨a141, ea141, ia141, h⟩ := swrd_s h
            refine xw_ald hx hb hK hP (by decide) rfl ia141 dX5_merge_141 ea141 ?_
            obtain ⟨⟨r142, u142⟩, er142, h⟩ := swbd_s h
            refine xw_callWr (As := [.int x1, .int a141]) (rest := []) E (xm5_makeVersion l D cy ad hJ u106 x1 a141 _ _ er142) (cwV 2 hts gX5_merge_X5_makeVersion rfl rfl rfl (by decide +kernel) ⟨Nat.le_of_ble_eq_true rfl, Nat.le_of_ble_eq_true rfl⟩) hK hP hS xw_A1 (xw_rO hK hP) ⟨Nat.le_of_ble_eq_true rfl, Nat.le_of_ble_eq_true rfl⟩ rfl hl.1 rfl (Nat.le_of_ble_eq_true rfl) dX5_merge_142 (fun H locs hr142 hP hS => ?_)
            refine lv_aload_n hx hb dX5_merge_145 rfl (lv_at hl 1 rfl) ?_
            refine xw_getO hx hb hts hin5 hown hK hP 5 (by decide) f37 rfl dX5_merge_146 ?_
            obtain ⟨u149, er149, h⟩ := swbd_s h
            refine xw_callWv (As := [.ref (ad 240)]) (rest := []) E (xm0_copyFrom l D cy ad hJ u142 r142 240 hr142 xw_D240 _ er149) (cwV 1 hts gX5_merge_X0_copyFrom rfl rfl rfl (by decide +kernel) ⟨Nat.le_of_ble_eq_true rfl, Nat.le_of_ble_eq_true rfl⟩) hK hP hS xw_A1 (xw_rD hK hP hr142) ⟨Nat.le_of_ble_eq_true rfl, Nat.le_of_ble_eq_true rfl⟩ rfl hl.1 rfl (Nat.le_of_ble_eq_true rfl) dX5_merge_149 (fun H locs hP hS _ _ => ?_)
            refine lv_aload_n hx hb dX5_merge_152 rfl (lv_at hl 1 rfl) ?_
            refine xw_getO hx hb hts hin5 hown hK hP 1 (by decide) f15 rfl dX5_merge_153 ?_
            refine lv_iload_n hx hb dX5_merge_156 rfl (lv_at hl 2 rfl) ?_
            obtain ⟨a157, ea157, ia157, h⟩ := swrd_s h
            refine xw_ald hx hb hK hP (by decide) rfl ia157 dX5_merge_157 ea157 ?_
            refine W.widen (k := 5) (n := 27) (Nat.le_of_ble_eq_true rfl) (Nat.le_of_ble_eq_true rfl) ?_
            exact vx_ret (W.iret hx hb hr (fun t ht hW => ⟨⟨_, (), rfl, ⟨(sw_inj3 h).1.symm, (sw_inj3 h).2.1⟩, xw_end hP ht (sw_inj3 h).2.2⟩, hS.F ht⟩) hS.2.2 dX5_merge_158 hlocks)
          · replace h := sw_f h cc
            exact xw_thr3 (text := "the deck would be blocked") hx hb hst hts hm63 hown fk59 fi3 hX (by decide +kernel) hS (xw_hAP hsz) (hl.1.trans hml.symm) dX5_merge_120 dX5_merge_123 dX5_merge_124 dX5_merge_126 dX5_merge_129 hout (by decide) (Nat.le_of_ble_eq_true rfl) (by decide) (by decide) hlocks (xw_xP h (by decide) hP hS) hS.2.2 (by decide) (by decide)
        · replace h := sw_f h cc
          exact xw_thr3 (text := "the deck would have more than 8 slides") hx hb hst hts hm63 hown fk59 fi3 hX (by decide +kernel) hS (xw_hAP hsz) (hl.1.trans hml.symm) dX5_merge_89 dX5_merge_92 dX5_merge_93 dX5_merge_95 dX5_merge_98 hout (by decide) (Nat.le_of_ble_eq_true rfl) (by decide) (by decide) hlocks (xw_xP h (by decide) hP hS) hS.2.2 (by decide) (by decide)
      · replace h := sw_f h cc
        exact xw_thr3 (text := "there are clashes that are not settled") hx hb hst hts hm63 hown fk59 fi3 hX (by decide +kernel) hS (xw_hAP hsz) (hl.1.trans hml.symm) dX5_merge_64 dX5_merge_67 dX5_merge_68 dX5_merge_70 dX5_merge_73 hout (by decide) (Nat.le_of_ble_eq_true rfl) (by decide) (by decide) hlocks (xw_xP h (by decide) hP hS) hS.2.2 (by decide) (by decide)
  · replace h := sw_f h cc
    refine lv_iload_n hx hb dX5_merge_19 rfl (lv_at hl 3 rfl) ?_
    refine lv_iconst (v := 1) hx hb dX5_merge_20 (by decide) ?_
    refine lv_icmp_eq (tgt := 39) hx hb dX5_merge_21 (by decide) (fun cc => ?_) (fun cc => ?_)
    · replace h := sw_t h cc
      refine lv_aload_n hx hb dX5_merge_39 rfl (lv_at hl 0 rfl) ?_
      refine lv_iload_n hx hb dX5_merge_40 rfl (lv_at hl 1 rfl) ?_
      refine lv_iload_n hx hb dX5_merge_41 rfl (lv_at hl 2 rfl) ?_
      obtain ⟨⟨co42, ca42, cb42⟩, eg42, h⟩ := swbd_s h
      refine xw_callMo (As := [.int x1, .int x2]) (rest := []) E (xm5_mergeOf l D cy ad u x1 x2 _ _ _ _ eg42) (cwV 2 hts gX5_merge_X5_mergeOf rfl rfl rfl (by decide +kernel) ⟨Nat.le_of_ble_eq_true rfl, Nat.le_of_ble_eq_true rfl⟩) hK hP hS hsz2 ⟨Nat.le_of_ble_eq_true rfl, Nat.le_of_ble_eq_true rfl⟩ rfl hl.1 rfl (Nat.le_of_ble_eq_true rfl) dX5_merge_42 (fun g42 H locs hP hS hG hg hco42 hca42 hcb42 => ?_)
      refine lv_astore (lv' := [(4, .ref g42), (0, .ref (ad 0)), (1, .int x1), (2, .int x2), (3, .int x3)]) hx hb dX5_merge_45 hl (by decide) rfl (fun ls hl => ?_)
      refine lv_iload_n hx hb dX5_merge_47 rfl (lv_at hl 4 rfl) ?_
      refine lv_iconst (v := (-1)) hx hb dX5_merge_48 (by decide) ?_
      refine lv_icmp_ne (tgt := 74) hx hb dX5_merge_49 (by decide) (fun cc => ?_) (fun cc => ?_)
      · replace h := sw_f h cc
        refine lv_aload hx hb dX5_merge_74 (lv_at hl 0 rfl) ?_
        refine lv_aload_n hx hb dX5_merge_76 rfl (lv_at hl 1 rfl) ?_
        refine xw_getO hx hb hts hin5 hown hK hP 8 (by decide) f83 rfl dX5_merge_77 ?_
        refine lv_iload_n hx hb dX5_merge_80 rfl (lv_at hl 4 rfl) ?_
        obtain ⟨r81, er81, h⟩ := swbd_s h
        refine xw_calliM (As := [.int (u.1 0 8), .int x3]) (rest := []) E (xm1_countSlides l D cy ad g42 u co42 ca42 cb42 (u.1 0 8) x3 hco42 hca42 hcb42 _ er81) (cwV 2 hts gX5_merge_X1_countSlides rfl rfl rfl (by decide +kernel) ⟨Nat.le_of_ble_eq_true rfl, Nat.le_of_ble_eq_true rfl⟩) hK hP hG ⟨Nat.le_of_ble_eq_true rfl, Nat.le_of_ble_eq_true rfl⟩ rfl hl.1 rfl (Nat.le_of_ble_eq_true rfl) dX5_merge_81 ?_
        refine lv_bipush (v := 8) hx hb dX5_merge_84 (by decide) ?_
        refine lv_icmp_le (tgt := 99) hx hb dX5_merge_86 (by decide) (fun cc => ?_) (fun cc => ?_)
        · replace h := sw_t h cc
          refine lv_aload hx hb dX5_merge_99 (lv_at hl 0 rfl) ?_
          refine lv_aload_n hx hb dX5_merge_101 rfl (lv_at hl 1 rfl) ?_
          refine xw_getO hx hb hts hin5 hown hK hP 5 (by decide) f37 rfl dX5_merge_102 ?_
          refine lv_iload_n hx hb dX5_merge_105 rfl (lv_at hl 4 rfl) ?_
          obtain ⟨u106, er106, h⟩ := swbd_s h
          refine xw_callWvM (As := [.ref (ad 240), .int x3]) (rest := []) E (xm1_fill l D cy ad hJ g42 hg u co42 ca42 cb42 240 x3 hco42 hca42 hcb42 xw_D240 _ er106) (cwV 2 hts gX5_merge_X1_fill rfl rfl rfl (by decide +kernel) ⟨Nat.le_of_ble_eq_true rfl, Nat.le_of_ble_eq_true rfl⟩) hK hP hG hS xw_A1 ⟨Nat.le_of_ble_eq_true rfl, Nat.le_of_ble_eq_true rfl⟩ rfl hl.1 rfl (Nat.le_of_ble_eq_true rfl) dX5_merge_106 (fun H locs hP hS hzz hkk => ?_)
          refine lv_aload_n hx hb dX5_merge_109 rfl (lv_at hl 1 rfl) ?_
          refine lv_aload_n hx hb dX5_merge_110 rfl (lv_at hl 1 rfl) ?_
          refine xw_getO hx hb hts hin5 hown hK hP 5 (by decide) f37 rfl dX5_merge_111 ?_
          obtain ⟨r114, er114, h⟩ := swbd_s h
          refine xw_calli (As := [.ref (ad 240)]) (rest := []) E (xm5_countBlocks l D cy ad u106 240 xw_D240 _ er114) (cwV 1 hts gX5_merge_X5_countBlocks rfl rfl rfl (by decide +kernel) ⟨Nat.le_of_ble_eq_true rfl, Nat.le_of_ble_eq_true rfl⟩) hK hP (xw_rO hK hP) ⟨Nat.le_of_ble_eq_true rfl, Nat.le_of_ble_eq_true rfl⟩ rfl hl.1 rfl (Nat.le_of_ble_eq_true rfl) dX5_merge_114 ?_
          refine lv_if_le (tgt := 130) hx hb dX5_merge_117 (by decide) (fun cc => ?_) (fun cc => ?_)
          · replace h := sw_t h cc
            refine lv_aload_n hx hb dX5_merge_130 rfl (lv_at hl 1 rfl) ?_
            obtain ⟨n131, en131, hq131, hex⟩ := swck_s h
            refine xw_ckv (As := []) (rest := []) E (xm5_checkRoomForVersion l hst D cy ad u106 _ en131) (cwV 0 hts gX5_merge_X5_checkRoomForVersion rfl rfl rfl (by decide +kernel) ⟨Nat.le_of_ble_eq_true rfl, Nat.le_of_ble_eq_true rfl⟩) hK hP hX (xw_frP hS hsz) hS ⟨Nat.le_of_ble_eq_true rfl, Nat.le_of_ble_eq_true rfl⟩ rfl hl.1 rfl (Nat.le_of_ble_eq_true rfl) dX5_merge_131 (fun hn ce q9 H locs hP hS hc hv hcl => xw_outP (hex hn) hn hout hlocks hc hv hcl hP hS (by decide) (by decide)) (fun hn H locs hP hS => ?_)
            replace h := hq131 hn
            refine lv_aload_n hx hb dX5_merge_134 rfl (lv_at hl 1 rfl) ?_
            refine lv_iload_n hx hb dX5_merge_135 rfl (lv_at hl 2 rfl) ?_
            refine lv_aload_n hx hb dX5_merge_136 rfl (lv_at hl 1 rfl) ?_
            refine xw_getO hx hb hts hin5 hown hK hP 1 (by decide) f15 rfl dX5_merge_137 ?_
            refine lv_iload_n hx hb dX5_merge_140 rfl (lv_at hl 3 rfl) ?_
            obtain ⟨a141, ea141, ia141, h⟩ := swrd_s h
            refine xw_ald hx hb hK hP (by decide) rfl ia141 dX5_merge_141 ea141 ?_
            obtain ⟨⟨r142, u142⟩, er142, h⟩ := swbd_s h
            refine xw_callWr (As := [.int x1, .int a141]) (rest := []) E (xm5_makeVersion l D cy ad hJ u106 x1 a141 _ _ er142) (cwV 2 hts gX5_merge_X5_makeVersion rfl rfl rfl (by decide +kernel) ⟨Nat.le_of_ble_eq_true rfl, Nat.le_of_ble_eq_true rfl⟩) hK hP hS xw_A1 (xw_rO hK hP) ⟨Nat.le_of_ble_eq_true rfl, Nat.le_of_ble_eq_true rfl⟩ rfl hl.1 rfl (Nat.le_of_ble_eq_true rfl) dX5_merge_142 (fun H locs hr142 hP hS => ?_)
            refine lv_aload_n hx hb dX5_merge_145 rfl (lv_at hl 1 rfl) ?_
            refine xw_getO hx hb hts hin5 hown hK hP 5 (by decide) f37 rfl dX5_merge_146 ?_
            obtain ⟨u149, er149, h⟩ := swbd_s h
            refine xw_callWv (As := [.ref (ad 240)]) (rest := []) E (xm0_copyFrom l D cy ad hJ u142 r142 240 hr142 xw_D240 _ er149) (cwV 1 hts gX5_merge_X0_copyFrom rfl rfl rfl (by decide +kernel) ⟨Nat.le_of_ble_eq_true rfl, Nat.le_of_ble_eq_true rfl⟩) hK hP hS xw_A1 (xw_rD hK hP hr142) ⟨Nat.le_of_ble_eq_true rfl, Nat.le_of_ble_eq_true rfl⟩ rfl hl.1 rfl (Nat.le_of_ble_eq_true rfl) dX5_merge_149 (fun H locs hP hS _ _ => ?_)
            refine lv_aload_n hx hb dX5_merge_152 rfl (lv_at hl 1 rfl) ?_
            refine xw_getO hx hb hts hin5 hown hK hP 1 (by decide) f15 rfl dX5_merge_153 ?_
            refine lv_iload_n hx hb dX5_merge_156 rfl (lv_at hl 2 rfl) ?_
            obtain ⟨a157, ea157, ia157, h⟩ := swrd_s h
            refine xw_ald hx hb hK hP (by decide) rfl ia157 dX5_merge_157 ea157 ?_
            refine W.widen (k := 5) (n := 27) (Nat.le_of_ble_eq_true rfl) (Nat.le_of_ble_eq_true rfl) ?_
            exact vx_ret (W.iret hx hb hr (fun t ht hW => ⟨⟨_, (), rfl, ⟨(sw_inj3 h).1.symm, (sw_inj3 h).2.1⟩, xw_end hP ht (sw_inj3 h).2.2⟩, hS.F ht⟩) hS.2.2 dX5_merge_158 hlocks)
          · replace h := sw_f h cc
            exact xw_thr3 (text := "the deck would be blocked") hx hb hst hts hm63 hown fk59 fi3 hX (by decide +kernel) hS (xw_hAP hsz) (hl.1.trans hml.symm) dX5_merge_120 dX5_merge_123 dX5_merge_124 dX5_merge_126 dX5_merge_129 hout (by decide) (Nat.le_of_ble_eq_true rfl) (by decide) (by decide) hlocks (xw_xP h (by decide) hP hS) hS.2.2 (by decide) (by decide)
        · replace h := sw_f h cc
          exact xw_thr3 (text := "the deck would have more than 8 slides") hx hb hst hts hm63 hown fk59 fi3 hX (by decide +kernel) hS (xw_hAP hsz) (hl.1.trans hml.symm) dX5_merge_89 dX5_merge_92 dX5_merge_93 dX5_merge_95 dX5_merge_98 hout (by decide) (Nat.le_of_ble_eq_true rfl) (by decide) (by decide) hlocks (xw_xP h (by decide) hP hS) hS.2.2 (by decide) (by decide)
      · replace h := sw_t h cc
        refine lv_aload hx hb dX5_merge_52 (lv_at hl 0 rfl) ?_
        refine lv_aload_n hx hb dX5_merge_54 rfl (lv_at hl 1 rfl) ?_
        refine xw_getO hx hb hts hin5 hown hK hP 8 (by decide) f83 rfl dX5_merge_55 ?_
        obtain ⟨r58, er58, h⟩ := swbd_s h
        refine xw_calliM (As := [.int (u.1 0 8)]) (rest := []) E (xm1_countClashes l D cy ad g42 u co42 ca42 cb42 (u.1 0 8) hco42 hca42 hcb42 _ er58) (cwV 1 hts gX5_merge_X1_countClashes rfl rfl rfl (by decide +kernel) ⟨Nat.le_of_ble_eq_true rfl, Nat.le_of_ble_eq_true rfl⟩) hK hP hG ⟨Nat.le_of_ble_eq_true rfl, Nat.le_of_ble_eq_true rfl⟩ rfl hl.1 rfl (Nat.le_of_ble_eq_true rfl) dX5_merge_58 ?_
        refine lv_if_le (tgt := 74) hx hb dX5_merge_61 (by decide) (fun cc => ?_) (fun cc => ?_)
        · replace h := sw_t h cc
          refine lv_aload hx hb dX5_merge_74 (lv_at hl 0 rfl) ?_
          refine lv_aload_n hx hb dX5_merge_76 rfl (lv_at hl 1 rfl) ?_
          refine xw_getO hx hb hts hin5 hown hK hP 8 (by decide) f83 rfl dX5_merge_77 ?_
          refine lv_iload_n hx hb dX5_merge_80 rfl (lv_at hl 4 rfl) ?_
          obtain ⟨r81, er81, h⟩ := swbd_s h
          refine xw_calliM (As := [.int (u.1 0 8), .int x3]) (rest := []) E (xm1_countSlides l D cy ad g42 u co42 ca42 cb42 (u.1 0 8) x3 hco42 hca42 hcb42 _ er81) (cwV 2 hts gX5_merge_X1_countSlides rfl rfl rfl (by decide +kernel) ⟨Nat.le_of_ble_eq_true rfl, Nat.le_of_ble_eq_true rfl⟩) hK hP hG ⟨Nat.le_of_ble_eq_true rfl, Nat.le_of_ble_eq_true rfl⟩ rfl hl.1 rfl (Nat.le_of_ble_eq_true rfl) dX5_merge_81 ?_
          refine lv_bipush (v := 8) hx hb dX5_merge_84 (by decide) ?_
          refine lv_icmp_le (tgt := 99) hx hb dX5_merge_86 (by decide) (fun cc => ?_) (fun cc => ?_)
          · replace h := sw_t h cc
            refine lv_aload hx hb dX5_merge_99 (lv_at hl 0 rfl) ?_
            refine lv_aload_n hx hb dX5_merge_101 rfl (lv_at hl 1 rfl) ?_
            refine xw_getO hx hb hts hin5 hown hK hP 5 (by decide) f37 rfl dX5_merge_102 ?_
            refine lv_iload_n hx hb dX5_merge_105 rfl (lv_at hl 4 rfl) ?_
            obtain ⟨u106, er106, h⟩ := swbd_s h
            refine xw_callWvM (As := [.ref (ad 240), .int x3]) (rest := []) E (xm1_fill l D cy ad hJ g42 hg u co42 ca42 cb42 240 x3 hco42 hca42 hcb42 xw_D240 _ er106) (cwV 2 hts gX5_merge_X1_fill rfl rfl rfl (by decide +kernel) ⟨Nat.le_of_ble_eq_true rfl, Nat.le_of_ble_eq_true rfl⟩) hK hP hG hS xw_A1 ⟨Nat.le_of_ble_eq_true rfl, Nat.le_of_ble_eq_true rfl⟩ rfl hl.1 rfl (Nat.le_of_ble_eq_true rfl) dX5_merge_106 (fun H locs hP hS hzz hkk => ?_)
            refine lv_aload_n hx hb dX5_merge_109 rfl (lv_at hl 1 rfl) ?_
            refine lv_aload_n hx hb dX5_merge_110 rfl (lv_at hl 1 rfl) ?_
            refine xw_getO hx hb hts hin5 hown hK hP 5 (by decide) f37 rfl dX5_merge_111 ?_
            obtain ⟨r114, er114, h⟩ := swbd_s h
            refine xw_calli (As := [.ref (ad 240)]) (rest := []) E (xm5_countBlocks l D cy ad u106 240 xw_D240 _ er114) (cwV 1 hts gX5_merge_X5_countBlocks rfl rfl rfl (by decide +kernel) ⟨Nat.le_of_ble_eq_true rfl, Nat.le_of_ble_eq_true rfl⟩) hK hP (xw_rO hK hP) ⟨Nat.le_of_ble_eq_true rfl, Nat.le_of_ble_eq_true rfl⟩ rfl hl.1 rfl (Nat.le_of_ble_eq_true rfl) dX5_merge_114 ?_
            refine lv_if_le (tgt := 130) hx hb dX5_merge_117 (by decide) (fun cc => ?_) (fun cc => ?_)
            · replace h := sw_t h cc
              refine lv_aload_n hx hb dX5_merge_130 rfl (lv_at hl 1 rfl) ?_
              obtain ⟨n131, en131, hq131, hex⟩ := swck_s h
              refine xw_ckv (As := []) (rest := []) E (xm5_checkRoomForVersion l hst D cy ad u106 _ en131) (cwV 0 hts gX5_merge_X5_checkRoomForVersion rfl rfl rfl (by decide +kernel) ⟨Nat.le_of_ble_eq_true rfl, Nat.le_of_ble_eq_true rfl⟩) hK hP hX (xw_frP hS hsz) hS ⟨Nat.le_of_ble_eq_true rfl, Nat.le_of_ble_eq_true rfl⟩ rfl hl.1 rfl (Nat.le_of_ble_eq_true rfl) dX5_merge_131 (fun hn ce q9 H locs hP hS hc hv hcl => xw_outP (hex hn) hn hout hlocks hc hv hcl hP hS (by decide) (by decide)) (fun hn H locs hP hS => ?_)
              replace h := hq131 hn
              refine lv_aload_n hx hb dX5_merge_134 rfl (lv_at hl 1 rfl) ?_
              refine lv_iload_n hx hb dX5_merge_135 rfl (lv_at hl 2 rfl) ?_
              refine lv_aload_n hx hb dX5_merge_136 rfl (lv_at hl 1 rfl) ?_
              refine xw_getO hx hb hts hin5 hown hK hP 1 (by decide) f15 rfl dX5_merge_137 ?_
              refine lv_iload_n hx hb dX5_merge_140 rfl (lv_at hl 3 rfl) ?_
              obtain ⟨a141, ea141, ia141, h⟩ := swrd_s h
              refine xw_ald hx hb hK hP (by decide) rfl ia141 dX5_merge_141 ea141 ?_
              obtain ⟨⟨r142, u142⟩, er142, h⟩ := swbd_s h
              refine xw_callWr (As := [.int x1, .int a141]) (rest := []) E (xm5_makeVersion l D cy ad hJ u106 x1 a141 _ _ er142) (cwV 2 hts gX5_merge_X5_makeVersion rfl rfl rfl (by decide +kernel) ⟨Nat.le_of_ble_eq_true rfl, Nat.le_of_ble_eq_true rfl⟩) hK hP hS xw_A1 (xw_rO hK hP) ⟨Nat.le_of_ble_eq_true rfl, Nat.le_of_ble_eq_true rfl⟩ rfl hl.1 rfl (Nat.le_of_ble_eq_true rfl) dX5_merge_142 (fun H locs hr142 hP hS => ?_)
              refine lv_aload_n hx hb dX5_merge_145 rfl (lv_at hl 1 rfl) ?_
              refine xw_getO hx hb hts hin5 hown hK hP 5 (by decide) f37 rfl dX5_merge_146 ?_
              obtain ⟨u149, er149, h⟩ := swbd_s h
              refine xw_callWv (As := [.ref (ad 240)]) (rest := []) E (xm0_copyFrom l D cy ad hJ u142 r142 240 hr142 xw_D240 _ er149) (cwV 1 hts gX5_merge_X0_copyFrom rfl rfl rfl (by decide +kernel) ⟨Nat.le_of_ble_eq_true rfl, Nat.le_of_ble_eq_true rfl⟩) hK hP hS xw_A1 (xw_rD hK hP hr142) ⟨Nat.le_of_ble_eq_true rfl, Nat.le_of_ble_eq_true rfl⟩ rfl hl.1 rfl (Nat.le_of_ble_eq_true rfl) dX5_merge_149 (fun H locs hP hS _ _ => ?_)
              refine lv_aload_n hx hb dX5_merge_152 rfl (lv_at hl 1 rfl) ?_
              refine xw_getO hx hb hts hin5 hown hK hP 1 (by decide) f15 rfl dX5_merge_153 ?_
              refine lv_iload_n hx hb dX5_merge_156 rfl (lv_at hl 2 rfl) ?_
              obtain ⟨a157, ea157, ia157, h⟩ := swrd_s h
              refine xw_ald hx hb hK hP (by decide) rfl ia157 dX5_merge_157 ea157 ?_
              refine W.widen (k := 5) (n := 27) (Nat.le_of_ble_eq_true rfl) (Nat.le_of_ble_eq_true rfl) ?_
              exact vx_ret (W.iret hx hb hr (fun t ht hW => ⟨⟨_, (), rfl, ⟨(sw_inj3 h).1.symm, (sw_inj3 h).2.1⟩, xw_end hP ht (sw_inj3 h).2.2⟩, hS.F ht⟩) hS.2.2 dX5_merge_158 hlocks)
            · replace h := sw_f h cc
              exact xw_thr3 (text := "the deck would be blocked") hx hb hst hts hm63 hown fk59 fi3 hX (by decide +kernel) hS (xw_hAP hsz) (hl.1.trans hml.symm) dX5_merge_120 dX5_merge_123 dX5_merge_124 dX5_merge_126 dX5_merge_129 hout (by decide) (Nat.le_of_ble_eq_true rfl) (by decide) (by decide) hlocks (xw_xP h (by decide) hP hS) hS.2.2 (by decide) (by decide)
          · replace h := sw_f h cc
            exact xw_thr3 (text := "the deck would have more than 8 slides") hx hb hst hts hm63 hown fk59 fi3 hX (by decide +kernel) hS (xw_hAP hsz) (hl.1.trans hml.symm) dX5_merge_89 dX5_merge_92 dX5_merge_93 dX5_merge_95 dX5_merge_98 hout (by decide) (Nat.le_of_ble_eq_true rfl) (by decide) (by decide) hlocks (xw_xP h (by decide) hP hS) hS.2.2 (by decide) (by decide)
        · replace h := sw_f h cc
          exact xw_thr3 (text := "there are clashes that are not settled") hx hb hst hts hm63 hown fk59 fi3 hX (by decide +kernel) hS (xw_hAP hsz) (hl.1.trans hml.symm) dX5_merge_64 dX5_merge_67 dX5_merge_68 dX5_merge_70 dX5_merge_73 hout (by decide) (Nat.le_of_ble_eq_true rfl) (by decide) (by decide) hlocks (xw_xP h (by decide) hP hS) hS.2.2 (by decide) (by decide)
    · replace h := sw_f h cc
      refine lv_iload_n hx hb dX5_merge_24 rfl (lv_at hl 3 rfl) ?_
      refine lv_iconst (v := (-1)) hx hb dX5_merge_25 (by decide) ?_
      refine lv_icmp_eq (tgt := 39) hx hb dX5_merge_26 (by decide) (fun cc => ?_) (fun cc => ?_)
      · replace h := sw_t h cc
        refine lv_aload_n hx hb dX5_merge_39 rfl (lv_at hl 0 rfl) ?_
        refine lv_iload_n hx hb dX5_merge_40 rfl (lv_at hl 1 rfl) ?_
        refine lv_iload_n hx hb dX5_merge_41 rfl (lv_at hl 2 rfl) ?_
        obtain ⟨⟨co42, ca42, cb42⟩, eg42, h⟩ := swbd_s h
        refine xw_callMo (As := [.int x1, .int x2]) (rest := []) E (xm5_mergeOf l D cy ad u x1 x2 _ _ _ _ eg42) (cwV 2 hts gX5_merge_X5_mergeOf rfl rfl rfl (by decide +kernel) ⟨Nat.le_of_ble_eq_true rfl, Nat.le_of_ble_eq_true rfl⟩) hK hP hS hsz2 ⟨Nat.le_of_ble_eq_true rfl, Nat.le_of_ble_eq_true rfl⟩ rfl hl.1 rfl (Nat.le_of_ble_eq_true rfl) dX5_merge_42 (fun g42 H locs hP hS hG hg hco42 hca42 hcb42 => ?_)
        refine lv_astore (lv' := [(4, .ref g42), (0, .ref (ad 0)), (1, .int x1), (2, .int x2), (3, .int x3)]) hx hb dX5_merge_45 hl (by decide) rfl (fun ls hl => ?_)
        refine lv_iload_n hx hb dX5_merge_47 rfl (lv_at hl 4 rfl) ?_
        refine lv_iconst (v := (-1)) hx hb dX5_merge_48 (by decide) ?_
        refine lv_icmp_ne (tgt := 74) hx hb dX5_merge_49 (by decide) (fun cc => ?_) (fun cc => ?_)
        · replace h := sw_f h cc
          refine lv_aload hx hb dX5_merge_74 (lv_at hl 0 rfl) ?_
          refine lv_aload_n hx hb dX5_merge_76 rfl (lv_at hl 1 rfl) ?_
          refine xw_getO hx hb hts hin5 hown hK hP 8 (by decide) f83 rfl dX5_merge_77 ?_
          refine lv_iload_n hx hb dX5_merge_80 rfl (lv_at hl 4 rfl) ?_
          obtain ⟨r81, er81, h⟩ := swbd_s h
          refine xw_calliM (As := [.int (u.1 0 8), .int x3]) (rest := []) E (xm1_countSlides l D cy ad g42 u co42 ca42 cb42 (u.1 0 8) x3 hco42 hca42 hcb42 _ er81) (cwV 2 hts gX5_merge_X1_countSlides rfl rfl rfl (by decide +kernel) ⟨Nat.le_of_ble_eq_true rfl, Nat.le_of_ble_eq_true rfl⟩) hK hP hG ⟨Nat.le_of_ble_eq_true rfl, Nat.le_of_ble_eq_true rfl⟩ rfl hl.1 rfl (Nat.le_of_ble_eq_true rfl) dX5_merge_81 ?_
          refine lv_bipush (v := 8) hx hb dX5_merge_84 (by decide) ?_
          refine lv_icmp_le (tgt := 99) hx hb dX5_merge_86 (by decide) (fun cc => ?_) (fun cc => ?_)
          · replace h := sw_t h cc
            refine lv_aload hx hb dX5_merge_99 (lv_at hl 0 rfl) ?_
            refine lv_aload_n hx hb dX5_merge_101 rfl (lv_at hl 1 rfl) ?_
            refine xw_getO hx hb hts hin5 hown hK hP 5 (by decide) f37 rfl dX5_merge_102 ?_
            refine lv_iload_n hx hb dX5_merge_105 rfl (lv_at hl 4 rfl) ?_
            obtain ⟨u106, er106, h⟩ := swbd_s h
            refine xw_callWvM (As := [.ref (ad 240), .int x3]) (rest := []) E (xm1_fill l D cy ad hJ g42 hg u co42 ca42 cb42 240 x3 hco42 hca42 hcb42 xw_D240 _ er106) (cwV 2 hts gX5_merge_X1_fill rfl rfl rfl (by decide +kernel) ⟨Nat.le_of_ble_eq_true rfl, Nat.le_of_ble_eq_true rfl⟩) hK hP hG hS xw_A1 ⟨Nat.le_of_ble_eq_true rfl, Nat.le_of_ble_eq_true rfl⟩ rfl hl.1 rfl (Nat.le_of_ble_eq_true rfl) dX5_merge_106 (fun H locs hP hS hzz hkk => ?_)
            refine lv_aload_n hx hb dX5_merge_109 rfl (lv_at hl 1 rfl) ?_
            refine lv_aload_n hx hb dX5_merge_110 rfl (lv_at hl 1 rfl) ?_
            refine xw_getO hx hb hts hin5 hown hK hP 5 (by decide) f37 rfl dX5_merge_111 ?_
            obtain ⟨r114, er114, h⟩ := swbd_s h
            refine xw_calli (As := [.ref (ad 240)]) (rest := []) E (xm5_countBlocks l D cy ad u106 240 xw_D240 _ er114) (cwV 1 hts gX5_merge_X5_countBlocks rfl rfl rfl (by decide +kernel) ⟨Nat.le_of_ble_eq_true rfl, Nat.le_of_ble_eq_true rfl⟩) hK hP (xw_rO hK hP) ⟨Nat.le_of_ble_eq_true rfl, Nat.le_of_ble_eq_true rfl⟩ rfl hl.1 rfl (Nat.le_of_ble_eq_true rfl) dX5_merge_114 ?_
            refine lv_if_le (tgt := 130) hx hb dX5_merge_117 (by decide) (fun cc => ?_) (fun cc => ?_)
            · replace h := sw_t h cc
              refine lv_aload_n hx hb dX5_merge_130 rfl (lv_at hl 1 rfl) ?_
              obtain ⟨n131, en131, hq131, hex⟩ := swck_s h
              refine xw_ckv (As := []) (rest := []) E (xm5_checkRoomForVersion l hst D cy ad u106 _ en131) (cwV 0 hts gX5_merge_X5_checkRoomForVersion rfl rfl rfl (by decide +kernel) ⟨Nat.le_of_ble_eq_true rfl, Nat.le_of_ble_eq_true rfl⟩) hK hP hX (xw_frP hS hsz) hS ⟨Nat.le_of_ble_eq_true rfl, Nat.le_of_ble_eq_true rfl⟩ rfl hl.1 rfl (Nat.le_of_ble_eq_true rfl) dX5_merge_131 (fun hn ce q9 H locs hP hS hc hv hcl => xw_outP (hex hn) hn hout hlocks hc hv hcl hP hS (by decide) (by decide)) (fun hn H locs hP hS => ?_)
              replace h := hq131 hn
              refine lv_aload_n hx hb dX5_merge_134 rfl (lv_at hl 1 rfl) ?_
              refine lv_iload_n hx hb dX5_merge_135 rfl (lv_at hl 2 rfl) ?_
              refine lv_aload_n hx hb dX5_merge_136 rfl (lv_at hl 1 rfl) ?_
              refine xw_getO hx hb hts hin5 hown hK hP 1 (by decide) f15 rfl dX5_merge_137 ?_
              refine lv_iload_n hx hb dX5_merge_140 rfl (lv_at hl 3 rfl) ?_
              obtain ⟨a141, ea141, ia141, h⟩ := swrd_s h
              refine xw_ald hx hb hK hP (by decide) rfl ia141 dX5_merge_141 ea141 ?_
              obtain ⟨⟨r142, u142⟩, er142, h⟩ := swbd_s h
              refine xw_callWr (As := [.int x1, .int a141]) (rest := []) E (xm5_makeVersion l D cy ad hJ u106 x1 a141 _ _ er142) (cwV 2 hts gX5_merge_X5_makeVersion rfl rfl rfl (by decide +kernel) ⟨Nat.le_of_ble_eq_true rfl, Nat.le_of_ble_eq_true rfl⟩) hK hP hS xw_A1 (xw_rO hK hP) ⟨Nat.le_of_ble_eq_true rfl, Nat.le_of_ble_eq_true rfl⟩ rfl hl.1 rfl (Nat.le_of_ble_eq_true rfl) dX5_merge_142 (fun H locs hr142 hP hS => ?_)
              refine lv_aload_n hx hb dX5_merge_145 rfl (lv_at hl 1 rfl) ?_
              refine xw_getO hx hb hts hin5 hown hK hP 5 (by decide) f37 rfl dX5_merge_146 ?_
              obtain ⟨u149, er149, h⟩ := swbd_s h
              refine xw_callWv (As := [.ref (ad 240)]) (rest := []) E (xm0_copyFrom l D cy ad hJ u142 r142 240 hr142 xw_D240 _ er149) (cwV 1 hts gX5_merge_X0_copyFrom rfl rfl rfl (by decide +kernel) ⟨Nat.le_of_ble_eq_true rfl, Nat.le_of_ble_eq_true rfl⟩) hK hP hS xw_A1 (xw_rD hK hP hr142) ⟨Nat.le_of_ble_eq_true rfl, Nat.le_of_ble_eq_true rfl⟩ rfl hl.1 rfl (Nat.le_of_ble_eq_true rfl) dX5_merge_149 (fun H locs hP hS _ _ => ?_)
              refine lv_aload_n hx hb dX5_merge_152 rfl (lv_at hl 1 rfl) ?_
              refine xw_getO hx hb hts hin5 hown hK hP 1 (by decide) f15 rfl dX5_merge_153 ?_
              refine lv_iload_n hx hb dX5_merge_156 rfl (lv_at hl 2 rfl) ?_
              obtain ⟨a157, ea157, ia157, h⟩ := swrd_s h
              refine xw_ald hx hb hK hP (by decide) rfl ia157 dX5_merge_157 ea157 ?_
              refine W.widen (k := 5) (n := 27) (Nat.le_of_ble_eq_true rfl) (Nat.le_of_ble_eq_true rfl) ?_
              exact vx_ret (W.iret hx hb hr (fun t ht hW => ⟨⟨_, (), rfl, ⟨(sw_inj3 h).1.symm, (sw_inj3 h).2.1⟩, xw_end hP ht (sw_inj3 h).2.2⟩, hS.F ht⟩) hS.2.2 dX5_merge_158 hlocks)
            · replace h := sw_f h cc
              exact xw_thr3 (text := "the deck would be blocked") hx hb hst hts hm63 hown fk59 fi3 hX (by decide +kernel) hS (xw_hAP hsz) (hl.1.trans hml.symm) dX5_merge_120 dX5_merge_123 dX5_merge_124 dX5_merge_126 dX5_merge_129 hout (by decide) (Nat.le_of_ble_eq_true rfl) (by decide) (by decide) hlocks (xw_xP h (by decide) hP hS) hS.2.2 (by decide) (by decide)
          · replace h := sw_f h cc
            exact xw_thr3 (text := "the deck would have more than 8 slides") hx hb hst hts hm63 hown fk59 fi3 hX (by decide +kernel) hS (xw_hAP hsz) (hl.1.trans hml.symm) dX5_merge_89 dX5_merge_92 dX5_merge_93 dX5_merge_95 dX5_merge_98 hout (by decide) (Nat.le_of_ble_eq_true rfl) (by decide) (by decide) hlocks (xw_xP h (by decide) hP hS) hS.2.2 (by decide) (by decide)
        · replace h := sw_t h cc
          refine lv_aload hx hb dX5_merge_52 (lv_at hl 0 rfl) ?_
          refine lv_aload_n hx hb dX5_merge_54 rfl (lv_at hl 1 rfl) ?_
          refine xw_getO hx hb hts hin5 hown hK hP 8 (by decide) f83 rfl dX5_merge_55 ?_
          obtain ⟨r58, er58, h⟩ := swbd_s h
          refine xw_calliM (As := [.int (u.1 0 8)]) (rest := []) E (xm1_countClashes l D cy ad g42 u co42 ca42 cb42 (u.1 0 8) hco42 hca42 hcb42 _ er58) (cwV 1 hts gX5_merge_X1_countClashes rfl rfl rfl (by decide +kernel) ⟨Nat.le_of_ble_eq_true rfl, Nat.le_of_ble_eq_true rfl⟩) hK hP hG ⟨Nat.le_of_ble_eq_true rfl, Nat.le_of_ble_eq_true rfl⟩ rfl hl.1 rfl (Nat.le_of_ble_eq_true rfl) dX5_merge_58 ?_
          refine lv_if_le (tgt := 74) hx hb dX5_merge_61 (by decide) (fun cc => ?_) (fun cc => ?_)
          · replace h := sw_t h cc
            refine lv_aload hx hb dX5_merge_74 (lv_at hl 0 rfl) ?_
            refine lv_aload_n hx hb dX5_merge_76 rfl (lv_at hl 1 rfl) ?_
            refine xw_getO hx hb hts hin5 hown hK hP 8 (by decide) f83 rfl dX5_merge_77 ?_
            refine lv_iload_n hx hb dX5_merge_80 rfl (lv_at hl 4 rfl) ?_
            obtain ⟨r81, er81, h⟩ := swbd_s h
            refine xw_calliM (As := [.int (u.1 0 8), .int x3]) (rest := []) E (xm1_countSlides l D cy ad g42 u co42 ca42 cb42 (u.1 0 8) x3 hco42 hca42 hcb42 _ er81) (cwV 2 hts gX5_merge_X1_countSlides rfl rfl rfl (by decide +kernel) ⟨Nat.le_of_ble_eq_true rfl, Nat.le_of_ble_eq_true rfl⟩) hK hP hG ⟨Nat.le_of_ble_eq_true rfl, Nat.le_of_ble_eq_true rfl⟩ rfl hl.1 rfl (Nat.le_of_ble_eq_true rfl) dX5_merge_81 ?_
            refine lv_bipush (v := 8) hx hb dX5_merge_84 (by decide) ?_
            refine lv_icmp_le (tgt := 99) hx hb dX5_merge_86 (by decide) (fun cc => ?_) (fun cc => ?_)
            · replace h := sw_t h cc
              refine lv_aload hx hb dX5_merge_99 (lv_at hl 0 rfl) ?_
              refine lv_aload_n hx hb dX5_merge_101 rfl (lv_at hl 1 rfl) ?_
              refine xw_getO hx hb hts hin5 hown hK hP 5 (by decide) f37 rfl dX5_merge_102 ?_
              refine lv_iload_n hx hb dX5_merge_105 rfl (lv_at hl 4 rfl) ?_
              obtain ⟨u106, er106, h⟩ := swbd_s h
              refine xw_callWvM (As := [.ref (ad 240), .int x3]) (rest := []) E (xm1_fill l D cy ad hJ g42 hg u co42 ca42 cb42 240 x3 hco42 hca42 hcb42 xw_D240 _ er106) (cwV 2 hts gX5_merge_X1_fill rfl rfl rfl (by decide +kernel) ⟨Nat.le_of_ble_eq_true rfl, Nat.le_of_ble_eq_true rfl⟩) hK hP hG hS xw_A1 ⟨Nat.le_of_ble_eq_true rfl, Nat.le_of_ble_eq_true rfl⟩ rfl hl.1 rfl (Nat.le_of_ble_eq_true rfl) dX5_merge_106 (fun H locs hP hS hzz hkk => ?_)
              refine lv_aload_n hx hb dX5_merge_109 rfl (lv_at hl 1 rfl) ?_
              refine lv_aload_n hx hb dX5_merge_110 rfl (lv_at hl 1 rfl) ?_
              refine xw_getO hx hb hts hin5 hown hK hP 5 (by decide) f37 rfl dX5_merge_111 ?_
              obtain ⟨r114, er114, h⟩ := swbd_s h
              refine xw_calli (As := [.ref (ad 240)]) (rest := []) E (xm5_countBlocks l D cy ad u106 240 xw_D240 _ er114) (cwV 1 hts gX5_merge_X5_countBlocks rfl rfl rfl (by decide +kernel) ⟨Nat.le_of_ble_eq_true rfl, Nat.le_of_ble_eq_true rfl⟩) hK hP (xw_rO hK hP) ⟨Nat.le_of_ble_eq_true rfl, Nat.le_of_ble_eq_true rfl⟩ rfl hl.1 rfl (Nat.le_of_ble_eq_true rfl) dX5_merge_114 ?_
              refine lv_if_le (tgt := 130) hx hb dX5_merge_117 (by decide) (fun cc => ?_) (fun cc => ?_)
              · replace h := sw_t h cc
                refine lv_aload_n hx hb dX5_merge_130 rfl (lv_at hl 1 rfl) ?_
                obtain ⟨n131, en131, hq131, hex⟩ := swck_s h
                refine xw_ckv (As := []) (rest := []) E (xm5_checkRoomForVersion l hst D cy ad u106 _ en131) (cwV 0 hts gX5_merge_X5_checkRoomForVersion rfl rfl rfl (by decide +kernel) ⟨Nat.le_of_ble_eq_true rfl, Nat.le_of_ble_eq_true rfl⟩) hK hP hX (xw_frP hS hsz) hS ⟨Nat.le_of_ble_eq_true rfl, Nat.le_of_ble_eq_true rfl⟩ rfl hl.1 rfl (Nat.le_of_ble_eq_true rfl) dX5_merge_131 (fun hn ce q9 H locs hP hS hc hv hcl => xw_outP (hex hn) hn hout hlocks hc hv hcl hP hS (by decide) (by decide)) (fun hn H locs hP hS => ?_)
                replace h := hq131 hn
                refine lv_aload_n hx hb dX5_merge_134 rfl (lv_at hl 1 rfl) ?_
                refine lv_iload_n hx hb dX5_merge_135 rfl (lv_at hl 2 rfl) ?_
                refine lv_aload_n hx hb dX5_merge_136 rfl (lv_at hl 1 rfl) ?_
                refine xw_getO hx hb hts hin5 hown hK hP 1 (by decide) f15 rfl dX5_merge_137 ?_
                refine lv_iload_n hx hb dX5_merge_140 rfl (lv_at hl 3 rfl) ?_
                obtain ⟨a141, ea141, ia141, h⟩ := swrd_s h
                refine xw_ald hx hb hK hP (by decide) rfl ia141 dX5_merge_141 ea141 ?_
                obtain ⟨⟨r142, u142⟩, er142, h⟩ := swbd_s h
                refine xw_callWr (As := [.int x1, .int a141]) (rest := []) E (xm5_makeVersion l D cy ad hJ u106 x1 a141 _ _ er142) (cwV 2 hts gX5_merge_X5_makeVersion rfl rfl rfl (by decide +kernel) ⟨Nat.le_of_ble_eq_true rfl, Nat.le_of_ble_eq_true rfl⟩) hK hP hS xw_A1 (xw_rO hK hP) ⟨Nat.le_of_ble_eq_true rfl, Nat.le_of_ble_eq_true rfl⟩ rfl hl.1 rfl (Nat.le_of_ble_eq_true rfl) dX5_merge_142 (fun H locs hr142 hP hS => ?_)
                refine lv_aload_n hx hb dX5_merge_145 rfl (lv_at hl 1 rfl) ?_
                refine xw_getO hx hb hts hin5 hown hK hP 5 (by decide) f37 rfl dX5_merge_146 ?_
                obtain ⟨u149, er149, h⟩ := swbd_s h
                refine xw_callWv (As := [.ref (ad 240)]) (rest := []) E (xm0_copyFrom l D cy ad hJ u142 r142 240 hr142 xw_D240 _ er149) (cwV 1 hts gX5_merge_X0_copyFrom rfl rfl rfl (by decide +kernel) ⟨Nat.le_of_ble_eq_true rfl, Nat.le_of_ble_eq_true rfl⟩) hK hP hS xw_A1 (xw_rD hK hP hr142) ⟨Nat.le_of_ble_eq_true rfl, Nat.le_of_ble_eq_true rfl⟩ rfl hl.1 rfl (Nat.le_of_ble_eq_true rfl) dX5_merge_149 (fun H locs hP hS _ _ => ?_)
                refine lv_aload_n hx hb dX5_merge_152 rfl (lv_at hl 1 rfl) ?_
                refine xw_getO hx hb hts hin5 hown hK hP 1 (by decide) f15 rfl dX5_merge_153 ?_
                refine lv_iload_n hx hb dX5_merge_156 rfl (lv_at hl 2 rfl) ?_
                obtain ⟨a157, ea157, ia157, h⟩ := swrd_s h
                refine xw_ald hx hb hK hP (by decide) rfl ia157 dX5_merge_157 ea157 ?_
                refine W.widen (k := 5) (n := 27) (Nat.le_of_ble_eq_true rfl) (Nat.le_of_ble_eq_true rfl) ?_
                exact vx_ret (W.iret hx hb hr (fun t ht hW => ⟨⟨_, (), rfl, ⟨(sw_inj3 h).1.symm, (sw_inj3 h).2.1⟩, xw_end hP ht (sw_inj3 h).2.2⟩, hS.F ht⟩) hS.2.2 dX5_merge_158 hlocks)
              · replace h := sw_f h cc
                exact xw_thr3 (text := "the deck would be blocked") hx hb hst hts hm63 hown fk59 fi3 hX (by decide +kernel) hS (xw_hAP hsz) (hl.1.trans hml.symm) dX5_merge_120 dX5_merge_123 dX5_merge_124 dX5_merge_126 dX5_merge_129 hout (by decide) (Nat.le_of_ble_eq_true rfl) (by decide) (by decide) hlocks (xw_xP h (by decide) hP hS) hS.2.2 (by decide) (by decide)
            · replace h := sw_f h cc
              exact xw_thr3 (text := "the deck would have more than 8 slides") hx hb hst hts hm63 hown fk59 fi3 hX (by decide +kernel) hS (xw_hAP hsz) (hl.1.trans hml.symm) dX5_merge_89 dX5_merge_92 dX5_merge_93 dX5_merge_95 dX5_merge_98 hout (by decide) (Nat.le_of_ble_eq_true rfl) (by decide) (by decide) hlocks (xw_xP h (by decide) hP hS) hS.2.2 (by decide) (by decide)
          · replace h := sw_f h cc
            exact xw_thr3 (text := "there are clashes that are not settled") hx hb hst hts hm63 hown fk59 fi3 hX (by decide +kernel) hS (xw_hAP hsz) (hl.1.trans hml.symm) dX5_merge_64 dX5_merge_67 dX5_merge_68 dX5_merge_70 dX5_merge_73 hout (by decide) (Nat.le_of_ble_eq_true rfl) (by decide) (by decide) hlocks (xw_xP h (by decide) hP hS) hS.2.2 (by decide) (by decide)
      · replace h := sw_f h cc
        exact xw_thr2 (text := "settled is out of range") hx hb hst hts hm110 hown fk106 fi2 hX (by decide +kernel) hS (xw_hAP hsz) (hl.1.trans hml.symm) dX5_merge_29 dX5_merge_32 dX5_merge_33 dX5_merge_35 dX5_merge_38 hout (by decide) (Nat.le_of_ble_eq_true rfl) (by decide) (by decide) hlocks (xw_xP h (by decide) hP hS) hS.2.2 (by decide) (by decide)

/-! X5.rule -/
def xx5_rule (u : swU) (x1 : Int32) (x2 : Int32) (x3 : Int32) (x4 : Int32) : Option (Nat × Int32 × swU) :=
  if x1 < 0 then (some (1, 0, u)) else (if x1 < 3 then (swck (xx5_checkObject u x2) (fun k => some (k, 0, u)) <| if x3 < 1 then (some (2, 0, u)) else (if 999 < x3 then (some (2, 0, u)) else (if x4 < x3 then (some (2, 0, u)) else (if x4 ≤ 999 then (if (u.1 0 9) < 8 then (swlt (u.1 0 9) fun y82 => swgd (swix y82 8) <| swlt (10 + y82.toNatClampNeg) fun c90_ => swlt (swI u c90_ 0 x1) fun u96 => swlt (swI u96 c90_ 1 x2) fun u102 => swlt (swI u102 c90_ 2 x3) fun u108 => swlt (swI u108 c90_ 3 x4) fun u115 => swlt (swI u115 0 9 (y82 + 1)) fun u123 => some (0, y82, u123)) else (some (3, 0, u))) else (some (2, 0, u)))))) else (some (1, 0, u)))

abbrev rmX5_rule : Room := { frames := 7, cells := 2, slots := 12, locals := 110 }

set_option maxHeartbeats 4000000 in
set_option maxRecDepth 100000 in
theorem xm5_rule (l : Launch) (hst : l.stackTraces = false) (D : va_G) (cy : Nat → ClassId) (ad : Nat → Nat) (hJ : swJ xw_N ad) (u : swU) (x1 : Int32) (x2 : Int32) (x3 : Int32) (x4 : Int32) (sz : Nat) (k0 : Nat) (r0 : Int32) (u0 : swU) (h : xx5_rule u x1 x2 x3 x4 = some (k0, r0, u0)) : vx_Met l yX5_rule wsX5_rule rmX5_rule (xwCX D cy ad u sz [.ref (ad 0), .int x1, .int x2, .int x3, .int x4]) (xwPi D cy ad sz k0 r0 u0) (xwPx D cy ad sz k0 u0) 2 12 (xwA ad sz) := by
  refine vx_ofW (cc := cX5_rule) (maxL := 7) (ret := (some .int)) (by decide) rfl ?_
  intro p e s m args below meth c s₁ B hml hex hv
  obtain ⟨ha, hP, hK, hX, hsz⟩ := hv
  have hout : ∀ (q : Nat), ∀ x ∈ c.exceptionTable.toList, covers x q = false := fun q x hx => (hex x hx).elim
  have hx := B.exec
  have hb := B.bytes
  have hr := B.returns
  have hlocks := B.notSynchronized
  have hts := atoms_spec (ws := wsX5_rule) B.pre
  have hown : s.vm.findClass RX5 = some m.cls := findClass_of_methodNamed B.named
  have E : CallFix p m c cX5_rule 7 s args wsX5_rule RX5 := ⟨hx, hb, hml, hown, hts⟩
  have hin2 : ∀ w ∈ wsX20, w ∈ wsX5_rule := by decide +kernel
  have hin5 : ∀ w ∈ wsX50, w ∈ wsX5_rule := by decide +kernel
  have f199 : (Cond.fieldLink RX5 199 "Slidewarden" "ruleCount" "I").before args s = true := hts _ (by decide +kernel)
  have f204 : (Cond.fieldLink RX5 204 "Slidewarden$Rule" "rank" "I").before args s = true := hts _ (by decide +kernel)
  have f207 : (Cond.fieldLink RX5 207 "Slidewarden$Rule" "object" "I").before args s = true := hts _ (by decide +kernel)
  have f210 : (Cond.fieldLink RX5 210 "Slidewarden$Rule" "least" "I").before args s = true := hts _ (by decide +kernel)
  have f213 : (Cond.fieldLink RX5 213 "Slidewarden$Rule" "most" "I").before args s = true := hts _ (by decide +kernel)
  have f24 : (Cond.fieldLink RX5 24 "Slidewarden" "rules" "[LSlidewarden$Rule;").before args s = true := hts _ (by decide +kernel)
  have fi1 : (Cond.initialized "java/lang/IndexOutOfBoundsException").before args s = true := hts _ (by decide +kernel)
  have fi2 : (Cond.initialized "java/lang/IllegalArgumentException").before args s = true := hts _ (by decide +kernel)
  have fi3 : (Cond.initialized "java/lang/IllegalStateException").before args s = true := hts _ (by decide +kernel)
  have fk106 : (Cond.classLink RX5 106 "java/lang/IllegalArgumentException").before args s = true := hts _ (by decide +kernel)
  have fk59 : (Cond.classLink RX5 59 "java/lang/IllegalStateException").before args s = true := hts _ (by decide +kernel)
  have fk76 : (Cond.classLink RX5 76 "java/lang/IndexOutOfBoundsException").before args s = true := hts _ (by decide +kernel)
  have hm63 : ∀ w ∈ (vx_atS RX5 63 "java/lang/IllegalStateException" swNs).filter goodWord, w ∈ wsX5_rule := fun w h => by first | exact List.mem_cons_of_mem _ (List.mem_append_right _ h) | exact List.mem_cons_of_mem _ (List.mem_append_left _ (List.mem_append_right _ h)) | exact List.mem_cons_of_mem _ (List.mem_append_left _ (List.mem_append_left _ (List.mem_append_right _ h)))
  have hm80 : ∀ w ∈ (vx_atS RX5 80 "java/lang/IndexOutOfBoundsException" swNs).filter goodWord, w ∈ wsX5_rule := fun w h => by first | exact List.mem_cons_of_mem _ (List.mem_append_right _ h) | exact List.mem_cons_of_mem _ (List.mem_append_left _ (List.mem_append_right _ h)) | exact List.mem_cons_of_mem _ (List.mem_append_left _ (List.mem_append_left _ (List.mem_append_right _ h)))
  have hm110 : ∀ w ∈ (vx_atS RX5 110 "java/lang/IllegalArgumentException" swNs).filter goodWord, w ∈ wsX5_rule := fun w h => by first | exact List.mem_cons_of_mem _ (List.mem_append_right _ h) | exact List.mem_cons_of_mem _ (List.mem_append_left _ (List.mem_append_right _ h)) | exact List.mem_cons_of_mem _ (List.mem_append_left _ (List.mem_append_left _ (List.mem_append_right _ h)))
  have hS : va_S (xwA ad sz) s.heap s.heap [] := va_S.rf
  have hsz2 : ∀ q : Nat, s.heap.size ≤ q → xwA ad sz q := fun q hq => Or.inr (by rw [← hsz]; exact hq)
  obtain ⟨ls, hl, hent⟩ := sw_entry m (n := 7) ha (Nat.le_of_ble_eq_true rfl)
  rw [hent]
  have hl : lv_has ls 7 [(0, .ref (ad 0)), (1, .int x1), (2, .int x2), (3, .int x3), (4, .int x4)] := hl
  unfold xx5_rule at h
  refine lv_iload_n hx hb dX5_rule_0 rfl (lv_at hl 1 rfl) ?_
  refine lv_if_lt (tgt := 9) hx hb dX5_rule_1 (by decide) (fun cc => ?_) (fun cc => ?_)
  · replace h := sw_t h cc
    exact xw_thr1 (text := "no such rank") hx hb hst hts hm80 hown fk76 fi1 hX (by decide +kernel) hS (xw_hAP hsz) (hl.1.trans hml.symm) dX5_rule_9 dX5_rule_12 dX5_rule_13 dX5_rule_15 dX5_rule_18 hout (by decide) (Nat.le_of_ble_eq_true rfl) (by decide) (by decide) hlocks (xw_xP h (by decide) hP hS) hS.2.2 (by decide) (by decide)
  · replace h := sw_f h cc
    refine lv_iload_n hx hb dX5_rule_4 rfl (lv_at hl 1 rfl) ?_
    refine lv_iconst (v := 3) hx hb dX5_rule_5 (by decide) ?_
    refine lv_icmp_lt (tgt := 19) hx hb dX5_rule_6 (by decide) (fun cc => ?_) (fun cc => ?_)
    · replace h := sw_t h cc
      refine lv_iload_n hx hb dX5_rule_19 rfl (lv_at hl 2 rfl) ?_
      obtain ⟨n20, en20, hq20, hex⟩ := swck_s h
      refine xw_ckS (As := [.int x2]) (rest := []) E (xm5_checkObject l hst D cy ad u x2 _ en20) (va_cwS 1 hts gX5_rule_X5_checkObject rfl rfl rfl (by decide +kernel) ⟨Nat.le_of_ble_eq_true rfl, Nat.le_of_ble_eq_true rfl⟩) hK hP hX (xw_frP hS hsz) hS ⟨Nat.le_of_ble_eq_true rfl, Nat.le_of_ble_eq_true rfl⟩ rfl hl.1 rfl (Nat.le_of_ble_eq_true rfl) dX5_rule_20 (fun hn ce q9 H locs hP hS hc hv hcl => xw_outP (hex hn) hn hout hlocks hc hv hcl hP hS (by decide) (by decide)) (fun hn H locs hP hS => ?_)
      replace h := hq20 hn
      refine lv_iload_n hx hb dX5_rule_23 rfl (lv_at hl 3 rfl) ?_
      refine lv_iconst (v := 1) hx hb dX5_rule_24 (by decide) ?_
      refine lv_icmp_lt (tgt := 49) hx hb dX5_rule_25 (by decide) (fun cc => ?_) (fun cc => ?_)
      · replace h := sw_t h cc
        exact xw_thr2 (text := "least or most is out of range") hx hb hst hts hm110 hown fk106 fi2 hX (by decide +kernel) hS (xw_hAP hsz) (hl.1.trans hml.symm) dX5_rule_49 dX5_rule_52 dX5_rule_53 dX5_rule_55 dX5_rule_58 hout (by decide) (Nat.le_of_ble_eq_true rfl) (by decide) (by decide) hlocks (xw_xP h (by decide) hP hS) hS.2.2 (by decide) (by decide)
      · replace h := sw_f h cc
        refine lv_iload_n hx hb dX5_rule_28 rfl (lv_at hl 3 rfl) ?_
        refine lv_sipush (v := 999) hx hb dX5_rule_29 (by decide) ?_
        refine lv_icmp_gt (tgt := 49) hx hb dX5_rule_32 (by decide) (fun cc => ?_) (fun cc => ?_)
        · replace h := sw_t h cc
          exact xw_thr2 (text := "least or most is out of range") hx hb hst hts hm110 hown fk106 fi2 hX (by decide +kernel) hS (xw_hAP hsz) (hl.1.trans hml.symm) dX5_rule_49 dX5_rule_52 dX5_rule_53 dX5_rule_55 dX5_rule_58 hout (by decide) (Nat.le_of_ble_eq_true rfl) (by decide) (by decide) hlocks (xw_xP h (by decide) hP hS) hS.2.2 (by decide) (by decide)
        · replace h := sw_f h cc
          refine lv_iload hx hb dX5_rule_35 (lv_at hl 4 rfl) ?_
          refine lv_iload_n hx hb dX5_rule_37 rfl (lv_at hl 3 rfl) ?_
          refine lv_icmp_lt (tgt := 49) hx hb dX5_rule_38 (by decide) (fun cc => ?_) (fun cc => ?_)
          · replace h := sw_t h cc
            exact xw_thr2 (text := "least or most is out of range") hx hb hst hts hm110 hown fk106 fi2 hX (by decide +kernel) hS (xw_hAP hsz) (hl.1.trans hml.symm) dX5_rule_49 dX5_rule_52 dX5_rule_53 dX5_rule_55 dX5_rule_58 hout (by decide) (Nat.le_of_ble_eq_true rfl) (by decide) (by decide) hlocks (xw_xP h (by decide) hP hS) hS.2.2 (by decide) (by decide)
          · replace h := sw_f h cc
            refine lv_iload hx hb dX5_rule_41 (lv_at hl 4 rfl) ?_
            refine lv_sipush (v := 999) hx hb dX5_rule_43 (by decide) ?_
            refine lv_icmp_le (tgt := 59) hx hb dX5_rule_46 (by decide) (fun cc => ?_) (fun cc => ?_)
            · replace h := sw_t h cc
              refine lv_aload_n hx hb dX5_rule_59 rfl (lv_at hl 0 rfl) ?_
              refine xw_getO hx hb hts hin5 hown hK hP 9 (by decide) f199 rfl dX5_rule_60 ?_
              refine lv_bipush (v := 8) hx hb dX5_rule_63 (by decide) ?_
              refine lv_icmp_lt (tgt := 78) hx hb dX5_rule_65 (by decide) (fun cc => ?_) (fun cc => ?_)
              · replace h := sw_t h cc
                refine lv_aload_n hx hb dX5_rule_78 rfl (lv_at hl 0 rfl) ?_
                refine xw_getO hx hb hts hin5 hown hK hP 9 (by decide) f199 rfl dX5_rule_79 ?_
                obtain ⟨y82, ey82, h⟩ := swlt_s h
                refine sw_top ey82 ?_
                refine lv_istore (lv' := [(5, .int y82), (0, .ref (ad 0)), (1, .int x1), (2, .int x2), (3, .int x3), (4, .int x4)]) hx hb dX5_rule_82 hl (by decide) rfl (fun ls hl => ?_)
                refine lv_aload_n hx hb dX5_rule_84 rfl (lv_at hl 1 rfl) ?_
                refine xw_getO hx hb hts hin5 hown hK hP 3 (by decide) f24 rfl dX5_rule_85 ?_
                refine lv_iload hx hb dX5_rule_88 (lv_at hl 0 rfl) ?_
                obtain ⟨ic90_, h⟩ := swgd_s h
                obtain ⟨c90_, ec90_, h⟩ := swlt_s h
                have hc90_ := xw_Rof (swix_s ic90_) ec90_
                refine xw_aldR hx hb hK hP (swix_s ic90_) dX5_rule_90 ec90_ ?_
                refine lv_astore (lv' := [(6, .ref (ad c90_)), (5, .int y82), (0, .ref (ad 0)), (1, .int x1), (2, .int x2), (3, .int x3), (4, .int x4)]) hx hb dX5_rule_91 hl (by decide) rfl (fun ls hl => ?_)
                refine lv_aload hx hb dX5_rule_93 (lv_at hl 0 rfl) ?_
                refine lv_iload_n hx hb dX5_rule_95 rfl (lv_at hl 3 rfl) ?_
                obtain ⟨u96, eu96, h⟩ := swlt_s h
                refine xw_putR hx hb hts hin2 hown hK hJ xw_A1 hP hS hc90_ 0 (by decide) f204 eu96 dX5_rule_96 (fun H locs hP hS => ?_)
                refine lv_aload hx hb dX5_rule_99 (lv_at hl 0 rfl) ?_
                refine lv_iload_n hx hb dX5_rule_101 rfl (lv_at hl 4 rfl) ?_
                obtain ⟨u102, eu102, h⟩ := swlt_s h
                refine xw_putR hx hb hts hin2 hown hK hJ xw_A1 hP hS hc90_ 1 (by decide) f207 eu102 dX5_rule_102 (fun H locs hP hS => ?_)
                refine lv_aload hx hb dX5_rule_105 (lv_at hl 0 rfl) ?_
                refine lv_iload_n hx hb dX5_rule_107 rfl (lv_at hl 5 rfl) ?_
                obtain ⟨u108, eu108, h⟩ := swlt_s h
                refine xw_putR hx hb hts hin2 hown hK hJ xw_A1 hP hS hc90_ 2 (by decide) f210 eu108 dX5_rule_108 (fun H locs hP hS => ?_)
                refine lv_aload hx hb dX5_rule_111 (lv_at hl 0 rfl) ?_
                refine lv_iload hx hb dX5_rule_113 (lv_at hl 6 rfl) ?_
                obtain ⟨u115, eu115, h⟩ := swlt_s h
                refine xw_putR hx hb hts hin2 hown hK hJ xw_A1 hP hS hc90_ 3 (by decide) f213 eu115 dX5_rule_115 (fun H locs hP hS => ?_)
                refine lv_aload_n hx hb dX5_rule_118 rfl (lv_at hl 2 rfl) ?_
                refine lv_iload hx hb dX5_rule_119 (lv_at hl 1 rfl) ?_
                refine lv_iconst (v := 1) hx hb dX5_rule_121 (by decide) ?_
                refine lv_iadd hx hb dX5_rule_122 ?_
                obtain ⟨u123, eu123, h⟩ := swlt_s h
                refine xw_putO hx hb hts hin5 hown hK hJ xw_A1 hP hS 9 (by decide) f199 eu123 dX5_rule_123 (fun H locs hP hS => ?_)
                refine lv_iload hx hb dX5_rule_126 (lv_at hl 1 rfl) ?_
                refine W.widen (k := 2) (n := 12) (Nat.le_of_ble_eq_true rfl) (Nat.le_of_ble_eq_true rfl) ?_
                exact vx_ret (W.iret hx hb hr (fun t ht hW => ⟨⟨_, (), rfl, ⟨(sw_inj3 h).1.symm, (sw_inj3 h).2.1⟩, xw_end hP ht (sw_inj3 h).2.2⟩, hS.F ht⟩) hS.2.2 dX5_rule_128 hlocks)
              · replace h := sw_f h cc
                exact xw_thr3 (text := "there are 8 rules") hx hb hst hts hm63 hown fk59 fi3 hX (by decide +kernel) hS (xw_hAP hsz) (hl.1.trans hml.symm) dX5_rule_68 dX5_rule_71 dX5_rule_72 dX5_rule_74 dX5_rule_77 hout (by decide) (Nat.le_of_ble_eq_true rfl) (by decide) (by decide) hlocks (xw_xP h (by decide) hP hS) hS.2.2 (by decide) (by decide)
            · replace h := sw_f h cc
              exact xw_thr2 (text := "least or most is out of range") hx hb hst hts hm110 hown fk106 fi2 hX (by decide +kernel) hS (xw_hAP hsz) (hl.1.trans hml.symm) dX5_rule_49 dX5_rule_52 dX5_rule_53 dX5_rule_55 dX5_rule_58 hout (by decide) (Nat.le_of_ble_eq_true rfl) (by decide) (by decide) hlocks (xw_xP h (by decide) hP hS) hS.2.2 (by decide) (by decide)
    · replace h := sw_f h cc
      exact xw_thr1 (text := "no such rank") hx hb hst hts hm80 hown fk76 fi1 hX (by decide +kernel) hS (xw_hAP hsz) (hl.1.trans hml.symm) dX5_rule_9 dX5_rule_12 dX5_rule_13 dX5_rule_15 dX5_rule_18 hout (by decide) (Nat.le_of_ble_eq_true rfl) (by decide) (by decide) hlocks (xw_xP h (by decide) hP hS) hS.2.2 (by decide) (by decide)

/-! X5.tighten -/
def xx5_tighten (u : swU) (x1 : Int32) (x2 : Int32) (x3 : Int32) : Option (Nat × Int32 × swU) :=
  swck (xx5_checkRule u x1) (fun k => some (k, 0, u)) <| swgd (swix x1 8) <| swlt (10 + x1.toNatClampNeg) fun c10_ => if x2 < (u.1 c10_ 2) then (some (2, 0, u)) else (if (u.1 c10_ 3) < x3 then (some (2, 0, u)) else (if x2 ≤ x3 then (swbd (xx5_blockedVersions u) fun r47 => swlt (swI u c10_ 2 x2) fun u55 => swlt (swI u55 c10_ 3 x3) fun u61 => swbd (xx5_blockedVersions u61) fun r65 => swlt (swBC ((r65 &&& (r47 ^^^ (-1 : Int64))))) fun r75 => some (0, r75, u61)) else (some (2, 0, u))))

abbrev rmX5_tighten : Room := { frames := 7, cells := 2, slots := 12, locals := 117 }

set_option maxHeartbeats 4000000 in
set_option maxRecDepth 100000 in
theorem xm5_tighten (l : Launch) (hst : l.stackTraces = false) (D : va_G) (cy : Nat → ClassId) (ad : Nat → Nat) (hJ : swJ xw_N ad) (u : swU) (x1 : Int32) (x2 : Int32) (x3 : Int32) (sz : Nat) (k0 : Nat) (r0 : Int32) (u0 : swU) (h : xx5_tighten u x1 x2 x3 = some (k0, r0, u0)) : vx_Met l yX5_tighten wsX5_tighten rmX5_tighten (xwCX D cy ad u sz [.ref (ad 0), .int x1, .int x2, .int x3]) (xwPi D cy ad sz k0 r0 u0) (xwPx D cy ad sz k0 u0) 2 12 (xwA ad sz) := by
  refine vx_ofW (cc := cX5_tighten) (maxL := 7) (ret := (some .int)) (by decide) rfl ?_
  intro p e s m args below meth c s₁ B hml hex hv
  obtain ⟨ha, hP, hK, hX, hsz⟩ := hv
  have hout : ∀ (q : Nat), ∀ x ∈ c.exceptionTable.toList, covers x q = false := fun q x hx => (hex x hx).elim
  have hx := B.exec
  have hb := B.bytes
  have hr := B.returns
  have hlocks := B.notSynchronized
  have hts := atoms_spec (ws := wsX5_tighten) B.pre
  have hown : s.vm.findClass RX5 = some m.cls := findClass_of_methodNamed B.named
  have E : CallFix p m c cX5_tighten 7 s args wsX5_tighten RX5 := ⟨hx, hb, hml, hown, hts⟩
  have hin2 : ∀ w ∈ wsX20, w ∈ wsX5_tighten := by decide +kernel
  have hin5 : ∀ w ∈ wsX50, w ∈ wsX5_tighten := by decide +kernel
  have f210 : (Cond.fieldLink RX5 210 "Slidewarden$Rule" "least" "I").before args s = true := hts _ (by decide +kernel)
  have f213 : (Cond.fieldLink RX5 213 "Slidewarden$Rule" "most" "I").before args s = true := hts _ (by decide +kernel)
  have f24 : (Cond.fieldLink RX5 24 "Slidewarden" "rules" "[LSlidewarden$Rule;").before args s = true := hts _ (by decide +kernel)
  have fi2 : (Cond.initialized "java/lang/IllegalArgumentException").before args s = true := hts _ (by decide +kernel)
  have fk106 : (Cond.classLink RX5 106 "java/lang/IllegalArgumentException").before args s = true := hts _ (by decide +kernel)
  have fl223 : (Cond.constantLong RX5 223 (-1)).before args s = true := hts _ (by decide +kernel)
  have hm110 : ∀ w ∈ (vx_atS RX5 110 "java/lang/IllegalArgumentException" swNs).filter goodWord, w ∈ wsX5_tighten := fun w h => by first | exact List.mem_cons_of_mem _ (List.mem_append_right _ h) | exact List.mem_cons_of_mem _ (List.mem_append_left _ (List.mem_append_right _ h)) | exact List.mem_cons_of_mem _ (List.mem_append_left _ (List.mem_append_left _ (List.mem_append_right _ h)))
  have hS : va_S (xwA ad sz) s.heap s.heap [] := va_S.rf
  have hsz2 : ∀ q : Nat, s.heap.size ≤ q → xwA ad sz q := fun q hq => Or.inr (by rw [← hsz]; exact hq)
  obtain ⟨ls, hl, hent⟩ := sw_entry m (n := 7) ha (Nat.le_of_ble_eq_true rfl)
  rw [hent]
  have hl : lv_has ls 7 [(0, .ref (ad 0)), (1, .int x1), (2, .int x2), (3, .int x3)] := hl
  unfold xx5_tighten at h
  refine lv_aload_n hx hb dX5_tighten_0 rfl (lv_at hl 0 rfl) ?_
  refine lv_iload_n hx hb dX5_tighten_1 rfl (lv_at hl 1 rfl) ?_
  obtain ⟨n2, en2, hq2, hex⟩ := swck_s h
  refine xw_ckv (As := [.int x1]) (rest := []) E (xm5_checkRule l hst D cy ad u x1 _ en2) (cwV 1 hts gX5_tighten_X5_checkRule rfl rfl rfl (by decide +kernel) ⟨Nat.le_of_ble_eq_true rfl, Nat.le_of_ble_eq_true rfl⟩) hK hP hX (xw_frP hS hsz) hS ⟨Nat.le_of_ble_eq_true rfl, Nat.le_of_ble_eq_true rfl⟩ rfl hl.1 rfl (Nat.le_of_ble_eq_true rfl) dX5_tighten_2 (fun hn ce q9 H locs hP hS hc hv hcl => xw_outP (hex hn) hn hout hlocks hc hv hcl hP hS (by decide) (by decide)) (fun hn H locs hP hS => ?_)
  replace h := hq2 hn
  refine lv_aload_n hx hb dX5_tighten_5 rfl (lv_at hl 0 rfl) ?_
  refine xw_getO hx hb hts hin5 hown hK hP 3 (by decide) f24 rfl dX5_tighten_6 ?_
  refine lv_iload_n hx hb dX5_tighten_9 rfl (lv_at hl 1 rfl) ?_
  obtain ⟨ic10_, h⟩ := swgd_s h
  obtain ⟨c10_, ec10_, h⟩ := swlt_s h
  have hc10_ := xw_Rof (swix_s ic10_) ec10_
  refine xw_aldR hx hb hK hP (swix_s ic10_) dX5_tighten_10 ec10_ ?_
  refine lv_astore (lv' := [(4, .ref (ad c10_)), (0, .ref (ad 0)), (1, .int x1), (2, .int x2), (3, .int x3)]) hx hb dX5_tighten_11 hl (by decide) rfl (fun ls hl => ?_)
  refine lv_iload_n hx hb dX5_tighten_13 rfl (lv_at hl 3 rfl) ?_
  refine lv_aload hx hb dX5_tighten_14 (lv_at hl 0 rfl) ?_
  refine xw_getR hx hb hts hin2 hown hK hP hc10_ 2 (by decide) f210 rfl dX5_tighten_16 ?_
  refine lv_icmp_lt (tgt := 36) hx hb dX5_tighten_19 (by decide) (fun cc => ?_) (fun cc => ?_)
  · replace h := sw_t h cc
    exact xw_thr2 (text := "least or most is out of range") hx hb hst hts hm110 hown fk106 fi2 hX (by decide +kernel) hS (xw_hAP hsz) (hl.1.trans hml.symm) dX5_tighten_36 dX5_tighten_39 dX5_tighten_40 dX5_tighten_42 dX5_tighten_45 hout (by decide) (Nat.le_of_ble_eq_true rfl) (by decide) (by decide) hlocks (xw_xP h (by decide) hP hS) hS.2.2 (by decide) (by decide)
  · replace h := sw_f h cc
    refine lv_iload_n hx hb dX5_tighten_22 rfl (lv_at hl 4 rfl) ?_
    refine lv_aload hx hb dX5_tighten_23 (lv_at hl 0 rfl) ?_
    refine xw_getR hx hb hts hin2 hown hK hP hc10_ 3 (by decide) f213 rfl dX5_tighten_25 ?_
    refine lv_icmp_gt (tgt := 36) hx hb dX5_tighten_28 (by decide) (fun cc => ?_) (fun cc => ?_)
    · replace h := sw_t h cc
      exact xw_thr2 (text := "least or most is out of range") hx hb hst hts hm110 hown fk106 fi2 hX (by decide +kernel) hS (xw_hAP hsz) (hl.1.trans hml.symm) dX5_tighten_36 dX5_tighten_39 dX5_tighten_40 dX5_tighten_42 dX5_tighten_45 hout (by decide) (Nat.le_of_ble_eq_true rfl) (by decide) (by decide) hlocks (xw_xP h (by decide) hP hS) hS.2.2 (by decide) (by decide)
    · replace h := sw_f h cc
      refine lv_iload_n hx hb dX5_tighten_31 rfl (lv_at hl 4 rfl) ?_
      refine lv_iload_n hx hb dX5_tighten_32 rfl (lv_at hl 3 rfl) ?_
      refine lv_icmp_ge (tgt := 46) hx hb dX5_tighten_33 (by decide) (fun cc => ?_) (fun cc => ?_)
      · replace h := sw_t h cc
        refine lv_aload_n hx hb dX5_tighten_46 rfl (lv_at hl 1 rfl) ?_
        obtain ⟨r47, er47, h⟩ := swbd_s h
        refine xw_calll (As := []) (rest := []) E (xm5_blockedVersions l D cy ad u _ er47) (cwV 0 hts gX5_tighten_X5_blockedVersions rfl rfl rfl (by decide +kernel) ⟨Nat.le_of_ble_eq_true rfl, Nat.le_of_ble_eq_true rfl⟩) hK hP (xw_rO hK hP) ⟨Nat.le_of_ble_eq_true rfl, Nat.le_of_ble_eq_true rfl⟩ rfl hl.1 rfl (Nat.le_of_ble_eq_true rfl) dX5_tighten_47 ?_
        refine lv_lstore (lv' := [(5, .long r47), (4, .ref (ad c10_)), (0, .ref (ad 0)), (1, .int x1), (2, .int x2), (3, .int x3)]) hx hb dX5_tighten_50 hl (by decide) rfl (fun ls hl => ?_)
        refine lv_aload hx hb dX5_tighten_52 (lv_at hl 1 rfl) ?_
        refine lv_iload_n hx hb dX5_tighten_54 rfl (lv_at hl 4 rfl) ?_
        obtain ⟨u55, eu55, h⟩ := swlt_s h
        refine xw_putR hx hb hts hin2 hown hK hJ xw_A1 hP hS hc10_ 2 (by decide) f210 eu55 dX5_tighten_55 (fun H locs hP hS => ?_)
        refine lv_aload hx hb dX5_tighten_58 (lv_at hl 1 rfl) ?_
        refine lv_iload_n hx hb dX5_tighten_60 rfl (lv_at hl 5 rfl) ?_
        obtain ⟨u61, eu61, h⟩ := swlt_s h
        refine xw_putR hx hb hts hin2 hown hK hJ xw_A1 hP hS hc10_ 3 (by decide) f213 eu61 dX5_tighten_61 (fun H locs hP hS => ?_)
        refine lv_aload_n hx hb dX5_tighten_64 rfl (lv_at hl 2 rfl) ?_
        obtain ⟨r65, er65, h⟩ := swbd_s h
        refine xw_calll (As := []) (rest := []) E (xm5_blockedVersions l D cy ad u61 _ er65) (cwV 0 hts gX5_tighten_X5_blockedVersions rfl rfl rfl (by decide +kernel) ⟨Nat.le_of_ble_eq_true rfl, Nat.le_of_ble_eq_true rfl⟩) hK hP (xw_rO hK hP) ⟨Nat.le_of_ble_eq_true rfl, Nat.le_of_ble_eq_true rfl⟩ rfl hl.1 rfl (Nat.le_of_ble_eq_true rfl) dX5_tighten_65 ?_
        refine lv_lload hx hb dX5_tighten_68 (lv_at hl 0 rfl) ?_
        refine lv_ldc2 (v := (-1)) hx hb hown fl223 dX5_tighten_70 ?_
        refine lv_lxor hx hb dX5_tighten_73 ?_
        refine lv_land hx hb dX5_tighten_74 ?_
        obtain ⟨r75, er75, h⟩ := swlt_s h
        refine xw_callSi (As := [.long ((r65 &&& (r47 ^^^ (-1 : Int64))))]) (rest := []) E (xmJ_bitCount l _ r75 er75) (va_cwS 1 hts gX5_tighten_J13_bitCount_95d88 rfl rfl rfl (by decide +kernel) ⟨Nat.le_of_ble_eq_true rfl, Nat.le_of_ble_eq_true rfl⟩) ⟨Nat.le_of_ble_eq_true rfl, Nat.le_of_ble_eq_true rfl⟩ rfl hl.1 rfl (Nat.le_of_ble_eq_true rfl) dX5_tighten_75 ?_
        refine W.widen (k := 2) (n := 12) (Nat.le_of_ble_eq_true rfl) (Nat.le_of_ble_eq_true rfl) ?_
        exact vx_ret (W.iret hx hb hr (fun t ht hW => ⟨⟨_, (), rfl, ⟨(sw_inj3 h).1.symm, (sw_inj3 h).2.1⟩, xw_end hP ht (sw_inj3 h).2.2⟩, hS.F ht⟩) hS.2.2 dX5_tighten_78 hlocks)
      · replace h := sw_f h cc
        exact xw_thr2 (text := "least or most is out of range") hx hb hst hts hm110 hown fk106 fi2 hX (by decide +kernel) hS (xw_hAP hsz) (hl.1.trans hml.symm) dX5_tighten_36 dX5_tighten_39 dX5_tighten_40 dX5_tighten_42 dX5_tighten_45 hout (by decide) (Nat.le_of_ble_eq_true rfl) (by decide) (by decide) hlocks (xw_xP h (by decide) hP hS) hS.2.2 (by decide) (by decide)

/-! X5.waive -/
def xx5_waive (u : swU) (x1 : Int32) (x2 : Int32) (x3 : Int32) : Option (Nat × Int32 × swU) :=
  swck (xx5_checkRule u x1) (fun k => some (k, 0, u)) <| swck (xx5_checkSlide u x2) (fun k => some (k, 0, u)) <| if x3 < (u.1 0 11) then (some (2, 0, u)) else (if x3 ≤ 999 then (swgd (swix x1 8) <| swlt (10 + x1.toNatClampNeg) fun c40_ => if (u.1 c40_ 0) = 1 then (if (u.1 0 10) < 12 then (swlt (u.1 0 10) fun y81 => swgd (swix y81 12) <| swlt (20 + y81.toNatClampNeg) fun c89_ => swlt (swI u c89_ 0 x1) fun u95 => swlt (swI u95 c89_ 1 x2) fun u101 => swlt (swI u101 c89_ 2 x3) fun u107 => swlt (swI u107 0 10 (y81 + 1)) fun u115 => some (0, y81, u115)) else (some (3, 0, u))) else (some (3, 0, u))) else (some (2, 0, u)))

abbrev rmX5_waive : Room := { frames := 7, cells := 3, slots := 18, locals := 111 }

set_option maxHeartbeats 4000000 in
set_option maxRecDepth 100000 in
theorem xm5_waive (l : Launch) (hst : l.stackTraces = false) (D : va_G) (cy : Nat → ClassId) (ad : Nat → Nat) (hJ : swJ xw_N ad) (u : swU) (x1 : Int32) (x2 : Int32) (x3 : Int32) (sz : Nat) (k0 : Nat) (r0 : Int32) (u0 : swU) (h : xx5_waive u x1 x2 x3 = some (k0, r0, u0)) : vx_Met l yX5_waive wsX5_waive rmX5_waive (xwCX D cy ad u sz [.ref (ad 0), .int x1, .int x2, .int x3]) (xwPi D cy ad sz k0 r0 u0) (xwPx D cy ad sz k0 u0) 3 18 (xwA ad sz) := by
  refine vx_ofW (cc := cX5_waive) (maxL := 6) (ret := (some .int)) (by decide) rfl ?_
  intro p e s m args below meth c s₁ B hml hex hv
  obtain ⟨ha, hP, hK, hX, hsz⟩ := hv
  have hout : ∀ (q : Nat), ∀ x ∈ c.exceptionTable.toList, covers x q = false := fun q x hx => (hex x hx).elim
  have hx := B.exec
  have hb := B.bytes
  have hr := B.returns
  have hlocks := B.notSynchronized
  have hts := atoms_spec (ws := wsX5_waive) B.pre
  have hown : s.vm.findClass RX5 = some m.cls := findClass_of_methodNamed B.named
  have E : CallFix p m c cX5_waive 6 s args wsX5_waive RX5 := ⟨hx, hb, hml, hown, hts⟩
  have hin2 : ∀ w ∈ wsX20, w ∈ wsX5_waive := by decide +kernel
  have hin4 : ∀ w ∈ wsX40, w ∈ wsX5_waive := by decide +kernel
  have hin5 : ∀ w ∈ wsX50, w ∈ wsX5_waive := by decide +kernel
  have f204 : (Cond.fieldLink RX5 204 "Slidewarden$Rule" "rank" "I").before args s = true := hts _ (by decide +kernel)
  have f225 : (Cond.fieldLink RX5 225 "Slidewarden" "day" "I").before args s = true := hts _ (by decide +kernel)
  have f232 : (Cond.fieldLink RX5 232 "Slidewarden" "waiverCount" "I").before args s = true := hts _ (by decide +kernel)
  have f237 : (Cond.fieldLink RX5 237 "Slidewarden$Waiver" "rule" "I").before args s = true := hts _ (by decide +kernel)
  have f24 : (Cond.fieldLink RX5 24 "Slidewarden" "rules" "[LSlidewarden$Rule;").before args s = true := hts _ (by decide +kernel)
  have f240 : (Cond.fieldLink RX5 240 "Slidewarden$Waiver" "slide" "I").before args s = true := hts _ (by decide +kernel)
  have f243 : (Cond.fieldLink RX5 243 "Slidewarden$Waiver" "until" "I").before args s = true := hts _ (by decide +kernel)
  have f30 : (Cond.fieldLink RX5 30 "Slidewarden" "waivers" "[LSlidewarden$Waiver;").before args s = true := hts _ (by decide +kernel)
  have fi2 : (Cond.initialized "java/lang/IllegalArgumentException").before args s = true := hts _ (by decide +kernel)
  have fi3 : (Cond.initialized "java/lang/IllegalStateException").before args s = true := hts _ (by decide +kernel)
  have fk106 : (Cond.classLink RX5 106 "java/lang/IllegalArgumentException").before args s = true := hts _ (by decide +kernel)
  have fk59 : (Cond.classLink RX5 59 "java/lang/IllegalStateException").before args s = true := hts _ (by decide +kernel)
  have hm63 : ∀ w ∈ (vx_atS RX5 63 "java/lang/IllegalStateException" swNs).filter goodWord, w ∈ wsX5_waive := fun w h => by first | exact List.mem_cons_of_mem _ (List.mem_append_right _ h) | exact List.mem_cons_of_mem _ (List.mem_append_left _ (List.mem_append_right _ h)) | exact List.mem_cons_of_mem _ (List.mem_append_left _ (List.mem_append_left _ (List.mem_append_right _ h)))
  have hm110 : ∀ w ∈ (vx_atS RX5 110 "java/lang/IllegalArgumentException" swNs).filter goodWord, w ∈ wsX5_waive := fun w h => by first | exact List.mem_cons_of_mem _ (List.mem_append_right _ h) | exact List.mem_cons_of_mem _ (List.mem_append_left _ (List.mem_append_right _ h)) | exact List.mem_cons_of_mem _ (List.mem_append_left _ (List.mem_append_left _ (List.mem_append_right _ h)))
  have hS : va_S (xwA ad sz) s.heap s.heap [] := va_S.rf
  have hsz2 : ∀ q : Nat, s.heap.size ≤ q → xwA ad sz q := fun q hq => Or.inr (by rw [← hsz]; exact hq)
  obtain ⟨ls, hl, hent⟩ := sw_entry m (n := 6) ha (Nat.le_of_ble_eq_true rfl)
  rw [hent]
  have hl : lv_has ls 6 [(0, .ref (ad 0)), (1, .int x1), (2, .int x2), (3, .int x3)] := hl
  unfold xx5_waive at h
  refine lv_aload_n hx hb dX5_waive_0 rfl (lv_at hl 0 rfl) ?_
  refine lv_iload_n hx hb dX5_waive_1 rfl (lv_at hl 1 rfl) ?_
  obtain ⟨n2, en2, hq2, hex⟩ := swck_s h
  refine xw_ckv (As := [.int x1]) (rest := []) E (xm5_checkRule l hst D cy ad u x1 _ en2) (cwV 1 hts gX5_waive_X5_checkRule rfl rfl rfl (by decide +kernel) ⟨Nat.le_of_ble_eq_true rfl, Nat.le_of_ble_eq_true rfl⟩) hK hP hX (xw_frP hS hsz) hS ⟨Nat.le_of_ble_eq_true rfl, Nat.le_of_ble_eq_true rfl⟩ rfl hl.1 rfl (Nat.le_of_ble_eq_true rfl) dX5_waive_2 (fun hn ce q9 H locs hP hS hc hv hcl => xw_outP (hex hn) hn hout hlocks hc hv hcl hP hS (by decide) (by decide)) (fun hn H locs hP hS => ?_)
  replace h := hq2 hn
  refine lv_aload_n hx hb dX5_waive_5 rfl (lv_at hl 0 rfl) ?_
  refine lv_iload_n hx hb dX5_waive_6 rfl (lv_at hl 2 rfl) ?_
  obtain ⟨n7, en7, hq7, hex⟩ := swck_s h
  refine xw_ckv (As := [.int x2]) (rest := []) E (xm5_checkSlide l hst D cy ad u x2 _ en7) (cwV 1 hts gX5_waive_X5_checkSlide rfl rfl rfl (by decide +kernel) ⟨Nat.le_of_ble_eq_true rfl, Nat.le_of_ble_eq_true rfl⟩) hK hP hX (xw_frP hS hsz) hS ⟨Nat.le_of_ble_eq_true rfl, Nat.le_of_ble_eq_true rfl⟩ rfl hl.1 rfl (Nat.le_of_ble_eq_true rfl) dX5_waive_7 (fun hn ce q9 H locs hP hS hc hv hcl => xw_outP (hex hn) hn hout hlocks hc hv hcl hP hS (by decide) (by decide)) (fun hn H locs hP hS => ?_)
  replace h := hq7 hn
  refine lv_iload_n hx hb dX5_waive_10 rfl (lv_at hl 3 rfl) ?_
  refine lv_aload_n hx hb dX5_waive_11 rfl (lv_at hl 0 rfl) ?_
  refine xw_getO hx hb hts hin5 hown hK hP 11 (by decide) f225 rfl dX5_waive_12 ?_
  refine lv_icmp_lt (tgt := 25) hx hb dX5_waive_15 (by decide) (fun cc => ?_) (fun cc => ?_)
  · replace h := sw_t h cc
    exact xw_thr2 (text := "until is out of range") hx hb hst hts hm110 hown fk106 fi2 hX (by decide +kernel) hS (xw_hAP hsz) (hl.1.trans hml.symm) dX5_waive_25 dX5_waive_28 dX5_waive_29 dX5_waive_31 dX5_waive_34 hout (by decide) (Nat.le_of_ble_eq_true rfl) (by decide) (by decide) hlocks (xw_xP h (by decide) hP hS) hS.2.2 (by decide) (by decide)
  · replace h := sw_f h cc
    refine lv_iload_n hx hb dX5_waive_18 rfl (lv_at hl 3 rfl) ?_
    refine lv_sipush (v := 999) hx hb dX5_waive_19 (by decide) ?_
    refine lv_icmp_le (tgt := 35) hx hb dX5_waive_22 (by decide) (fun cc => ?_) (fun cc => ?_)
    · replace h := sw_t h cc
      refine lv_aload_n hx hb dX5_waive_35 rfl (lv_at hl 0 rfl) ?_
      refine xw_getO hx hb hts hin5 hown hK hP 3 (by decide) f24 rfl dX5_waive_36 ?_
      refine lv_iload_n hx hb dX5_waive_39 rfl (lv_at hl 1 rfl) ?_
      obtain ⟨ic40_, h⟩ := swgd_s h
      obtain ⟨c40_, ec40_, h⟩ := swlt_s h
      have hc40_ := xw_Rof (swix_s ic40_) ec40_
      refine xw_aldR hx hb hK hP (swix_s ic40_) dX5_waive_40 ec40_ ?_
      refine xw_getR hx hb hts hin2 hown hK hP hc40_ 0 (by decide) f204 rfl dX5_waive_41 ?_
      refine lv_iconst (v := 1) hx hb dX5_waive_44 (by decide) ?_
      refine lv_icmp_eq (tgt := 58) hx hb dX5_waive_45 (by decide) (fun cc => ?_) (fun cc => ?_)
      · replace h := sw_t h cc
        refine lv_aload_n hx hb dX5_waive_58 rfl (lv_at hl 0 rfl) ?_
        refine xw_getO hx hb hts hin5 hown hK hP 10 (by decide) f232 rfl dX5_waive_59 ?_
        refine lv_bipush (v := 12) hx hb dX5_waive_62 (by decide) ?_
        refine lv_icmp_lt (tgt := 77) hx hb dX5_waive_64 (by decide) (fun cc => ?_) (fun cc => ?_)
        · replace h := sw_t h cc
          refine lv_aload_n hx hb dX5_waive_77 rfl (lv_at hl 0 rfl) ?_
          refine xw_getO hx hb hts hin5 hown hK hP 10 (by decide) f232 rfl dX5_waive_78 ?_
          obtain ⟨y81, ey81, h⟩ := swlt_s h
          refine sw_top ey81 ?_
          refine lv_istore (lv' := [(4, .int y81), (0, .ref (ad 0)), (1, .int x1), (2, .int x2), (3, .int x3)]) hx hb dX5_waive_81 hl (by decide) rfl (fun ls hl => ?_)
          refine lv_aload_n hx hb dX5_waive_83 rfl (lv_at hl 1 rfl) ?_
          refine xw_getO hx hb hts hin5 hown hK hP 4 (by decide) f30 rfl dX5_waive_84 ?_
          refine lv_iload hx hb dX5_waive_87 (lv_at hl 0 rfl) ?_
          obtain ⟨ic89_, h⟩ := swgd_s h
          obtain ⟨c89_, ec89_, h⟩ := swlt_s h
          have hc89_ := xw_Yof (swix_s ic89_) ec89_
          refine xw_aldY hx hb hK hP (swix_s ic89_) dX5_waive_89 ec89_ ?_
          refine lv_astore (lv' := [(5, .ref (ad c89_)), (4, .int y81), (0, .ref (ad 0)), (1, .int x1), (2, .int x2), (3, .int x3)]) hx hb dX5_waive_90 hl (by decide) rfl (fun ls hl => ?_)
          refine lv_aload hx hb dX5_waive_92 (lv_at hl 0 rfl) ?_
          refine lv_iload_n hx hb dX5_waive_94 rfl (lv_at hl 3 rfl) ?_
          obtain ⟨u95, eu95, h⟩ := swlt_s h
          refine xw_putY hx hb hts hin4 hown hK hJ xw_A1 hP hS hc89_ 0 (by decide) f237 eu95 dX5_waive_95 (fun H locs hP hS => ?_)
          refine lv_aload hx hb dX5_waive_98 (lv_at hl 0 rfl) ?_
          refine lv_iload_n hx hb dX5_waive_100 rfl (lv_at hl 4 rfl) ?_
          obtain ⟨u101, eu101, h⟩ := swlt_s h
          refine xw_putY hx hb hts hin4 hown hK hJ xw_A1 hP hS hc89_ 1 (by decide) f240 eu101 dX5_waive_101 (fun H locs hP hS => ?_)
          refine lv_aload hx hb dX5_waive_104 (lv_at hl 0 rfl) ?_
          refine lv_iload_n hx hb dX5_waive_106 rfl (lv_at hl 5 rfl) ?_
          obtain ⟨u107, eu107, h⟩ := swlt_s h
          refine xw_putY hx hb hts hin4 hown hK hJ xw_A1 hP hS hc89_ 2 (by decide) f243 eu107 dX5_waive_107 (fun H locs hP hS => ?_)
          refine lv_aload_n hx hb dX5_waive_110 rfl (lv_at hl 2 rfl) ?_
          refine lv_iload hx hb dX5_waive_111 (lv_at hl 1 rfl) ?_
          refine lv_iconst (v := 1) hx hb dX5_waive_113 (by decide) ?_
          refine lv_iadd hx hb dX5_waive_114 ?_
          obtain ⟨u115, eu115, h⟩ := swlt_s h
          refine xw_putO hx hb hts hin5 hown hK hJ xw_A1 hP hS 10 (by decide) f232 eu115 dX5_waive_115 (fun H locs hP hS => ?_)
          refine lv_iload hx hb dX5_waive_118 (lv_at hl 1 rfl) ?_
          refine W.widen (k := 3) (n := 18) (Nat.le_of_ble_eq_true rfl) (Nat.le_of_ble_eq_true rfl) ?_
          exact vx_ret (W.iret hx hb hr (fun t ht hW => ⟨⟨_, (), rfl, ⟨(sw_inj3 h).1.symm, (sw_inj3 h).2.1⟩, xw_end hP ht (sw_inj3 h).2.2⟩, hS.F ht⟩) hS.2.2 dX5_waive_120 hlocks)
        · replace h := sw_f h cc
          exact xw_thr3 (text := "there are 12 waivers") hx hb hst hts hm63 hown fk59 fi3 hX (by decide +kernel) hS (xw_hAP hsz) (hl.1.trans hml.symm) dX5_waive_67 dX5_waive_70 dX5_waive_71 dX5_waive_73 dX5_waive_76 hout (by decide) (Nat.le_of_ble_eq_true rfl) (by decide) (by decide) hlocks (xw_xP h (by decide) hP hS) hS.2.2 (by decide) (by decide)
      · replace h := sw_f h cc
        exact xw_thr3 (text := "the rank of the rule is not 1") hx hb hst hts hm63 hown fk59 fi3 hX (by decide +kernel) hS (xw_hAP hsz) (hl.1.trans hml.symm) dX5_waive_48 dX5_waive_51 dX5_waive_52 dX5_waive_54 dX5_waive_57 hout (by decide) (Nat.le_of_ble_eq_true rfl) (by decide) (by decide) hlocks (xw_xP h (by decide) hP hS) hS.2.2 (by decide) (by decide)
    · replace h := sw_f h cc
      exact xw_thr2 (text := "until is out of range") hx hb hst hts hm110 hown fk106 fi2 hX (by decide +kernel) hS (xw_hAP hsz) (hl.1.trans hml.symm) dX5_waive_25 dX5_waive_28 dX5_waive_29 dX5_waive_31 dX5_waive_34 hout (by decide) (Nat.le_of_ble_eq_true rfl) (by decide) (by decide) hlocks (xw_xP h (by decide) hP hS) hS.2.2 (by decide) (by decide)

/-! X5.blocks -/
def xx5_blocks (u : swU) (x1 : Int32) : Option (Nat × Int32 × swU) :=
  swck (xx5_checkVersion u x1) (fun k => some (k, 0, u)) <| swgd (swix x1 40) <| swlt (100 + x1.toNatClampNeg) fun c11_ => swlt (c11_ + 100) fun d12_ => swbd (xx5_countBlocks u d12_) fun r15 => some (0, r15, u)

abbrev rmX5_blocks : Room := { frames := 7, cells := 1, slots := 6, locals := 111 }

set_option maxHeartbeats 4000000 in
set_option maxRecDepth 100000 in
theorem xm5_blocks (l : Launch) (hst : l.stackTraces = false) (D : va_G) (cy : Nat → ClassId) (ad : Nat → Nat) (hJ : swJ xw_N ad) (u : swU) (x1 : Int32) (sz : Nat) (k0 : Nat) (r0 : Int32) (u0 : swU) (h : xx5_blocks u x1 = some (k0, r0, u0)) : vx_Met l yX5_blocks wsX5_blocks rmX5_blocks (xwCX D cy ad u sz [.ref (ad 0), .int x1]) (xwPi D cy ad sz k0 r0 u0) (xwPx D cy ad sz k0 u0) 1 6 (xwA ad sz) := by
  refine vx_ofW (cc := cX5_blocks) (maxL := 2) (ret := (some .int)) (by decide) rfl ?_
  intro p e s m args below meth c s₁ B hml hex hv
  obtain ⟨ha, hP, hK, hX, hsz⟩ := hv
  have hout : ∀ (q : Nat), ∀ x ∈ c.exceptionTable.toList, covers x q = false := fun q x hx => (hex x hx).elim
  have hx := B.exec
  have hb := B.bytes
  have hr := B.returns
  have hlocks := B.notSynchronized
  have hts := atoms_spec (ws := wsX5_blocks) B.pre
  have hown : s.vm.findClass RX5 = some m.cls := findClass_of_methodNamed B.named
  have E : CallFix p m c cX5_blocks 2 s args wsX5_blocks RX5 := ⟨hx, hb, hml, hown, hts⟩
  have hin3 : ∀ w ∈ wsX30, w ∈ wsX5_blocks := by decide +kernel
  have hin5 : ∀ w ∈ wsX50, w ∈ wsX5_blocks := by decide +kernel
  have f11 : (Cond.fieldLink RX5 11 "Slidewarden" "versions" "[LSlidewarden$Version;").before args s = true := hts _ (by decide +kernel)
  have f130 : (Cond.fieldLink RX5 130 "Slidewarden$Version" "deck" "LSlidewarden$Deck;").before args s = true := hts _ (by decide +kernel)
  have hS : va_S (xwA ad sz) s.heap s.heap [] := va_S.rf
  have hsz2 : ∀ q : Nat, s.heap.size ≤ q → xwA ad sz q := fun q hq => Or.inr (by rw [← hsz]; exact hq)
  obtain ⟨ls, hl, hent⟩ := sw_entry m (n := 2) ha (Nat.le_of_ble_eq_true rfl)
  rw [hent]
  have hl : lv_has ls 2 [(0, .ref (ad 0)), (1, .int x1)] := hl
  unfold xx5_blocks at h
  refine lv_aload_n hx hb dX5_blocks_0 rfl (lv_at hl 0 rfl) ?_
  refine lv_iload_n hx hb dX5_blocks_1 rfl (lv_at hl 1 rfl) ?_
  obtain ⟨n2, en2, hq2, hex⟩ := swck_s h
  refine xw_ckv (As := [.int x1]) (rest := []) E (xm5_checkVersion l hst D cy ad u x1 _ en2) (cwV 1 hts gX5_blocks_X5_checkVersion rfl rfl rfl (by decide +kernel) ⟨Nat.le_of_ble_eq_true rfl, Nat.le_of_ble_eq_true rfl⟩) hK hP hX (xw_frP hS hsz) hS ⟨Nat.le_of_ble_eq_true rfl, Nat.le_of_ble_eq_true rfl⟩ rfl hl.1 rfl (Nat.le_of_ble_eq_true rfl) dX5_blocks_2 (fun hn ce q9 H locs hP hS hc hv hcl => xw_outP (hex hn) hn hout hlocks hc hv hcl hP hS (by decide) (by decide)) (fun hn H locs hP hS => ?_)
  replace h := hq2 hn
  refine lv_aload_n hx hb dX5_blocks_5 rfl (lv_at hl 0 rfl) ?_
  refine lv_aload_n hx hb dX5_blocks_6 rfl (lv_at hl 0 rfl) ?_
  refine xw_getO hx hb hts hin5 hown hK hP 0 (by decide) f11 rfl dX5_blocks_7 ?_
  refine lv_iload_n hx hb dX5_blocks_10 rfl (lv_at hl 1 rfl) ?_
  obtain ⟨ic11_, h⟩ := swgd_s h
  obtain ⟨c11_, ec11_, h⟩ := swlt_s h
  have hc11_ := xw_Vof (swix_s ic11_) ec11_
  refine xw_aldV hx hb hK hP (swix_s ic11_) dX5_blocks_11 ec11_ ?_
  obtain ⟨d12_, ed12_, h⟩ := swlt_s h
  have hd12_ : xw_D d12_ := by rw [ed12_]; exact xw_VD hc11_
  refine xw_getV (v := .ref (ad d12_)) hx hb hts hin3 hown hK hP hc11_ 0 (by decide) f130 (by rw [ed12_]; rfl) dX5_blocks_12 ?_
  obtain ⟨r15, er15, h⟩ := swbd_s h
  refine xw_calli (As := [.ref (ad d12_)]) (rest := []) E (xm5_countBlocks l D cy ad u d12_ hd12_ _ er15) (cwV 1 hts gX5_blocks_X5_countBlocks rfl rfl rfl (by decide +kernel) ⟨Nat.le_of_ble_eq_true rfl, Nat.le_of_ble_eq_true rfl⟩) hK hP (xw_rO hK hP) ⟨Nat.le_of_ble_eq_true rfl, Nat.le_of_ble_eq_true rfl⟩ rfl hl.1 rfl (Nat.le_of_ble_eq_true rfl) dX5_blocks_15 ?_
  refine W.widen (k := 1) (n := 6) (Nat.le_of_ble_eq_true rfl) (Nat.le_of_ble_eq_true rfl) ?_
  exact vx_ret (W.iret hx hb hr (fun t ht hW => ⟨⟨_, (), rfl, ⟨(sw_inj3 h).1.symm, (sw_inj3 h).2.1⟩, xw_end hP ht (sw_inj3 h).2.2⟩, hS.F ht⟩) hS.2.2 dX5_blocks_18 hlocks)

/-! X5.warnings -/
def xx5_warnings_L32 (u : swU) (d11_ : Nat) (v4 : Int32) (kk : Int32 → Int32 → Option (Nat × Int32 × swU)) : Nat → Int32 → Int32 → Option (Nat × Int32 × swU)
  | 0, _, _ => none
  | n + 1, v3, v5 => if (u.1 0 9) ≤ v5 then (kk v3 v5) else (swgd (swix v5 8) <| swlt (10 + v5.toNatClampNeg) fun c47_ => if (u.1 c47_ 0) = 2 then (swgd (swix v5 8) <| swlt (10 + v5.toNatClampNeg) fun c61_ => swbd (xx2_isBrokenAt u c61_ d11_ v4) fun r65 => if (swB r65) = 0 then (xx5_warnings_L32 u d11_ v4 kk n v3 (v5 + 1)) else (xx5_warnings_L32 u d11_ v4 kk n (v3 + 1) (v5 + 1))) else (xx5_warnings_L32 u d11_ v4 kk n v3 (v5 + 1)))

def xx5_warnings_L20 (u : swU) (d11_ : Nat) (kk : Int32 → Int32 → Option (Nat × Int32 × swU)) : Nat → Int32 → Int32 → Option (Nat × Int32 × swU)
  | 0, _, _ => none
  | n + 1, v3, v4 => if (u.1 d11_ 2) ≤ v4 then (kk v3 v4) else (xx5_warnings_L32 u d11_ v4 (fun v3 v5 => xx5_warnings_L20 u d11_ kk n v3 (v4 + 1)) 64 v3 0)

def xx5_warnings (u : swU) (x1 : Int32) : Option (Nat × Int32 × swU) :=
  swck (xx5_checkVersion u x1) (fun k => some (k, 0, u)) <| swgd (swix x1 40) <| swlt (100 + x1.toNatClampNeg) fun c10_ => swlt (c10_ + 100) fun d11_ => xx5_warnings_L20 u d11_ (fun v3 v4 => some (0, v3, u)) 64 0 0

abbrev rmX5_warnings : Room := { frames := 7, cells := 1, slots := 6, locals := 111 }

set_option maxHeartbeats 4000000 in
set_option maxRecDepth 100000 in
theorem xm5_warnings (l : Launch) (hst : l.stackTraces = false) (D : va_G) (cy : Nat → ClassId) (ad : Nat → Nat) (hJ : swJ xw_N ad) (u : swU) (x1 : Int32) (sz : Nat) (k0 : Nat) (r0 : Int32) (u0 : swU) (h : xx5_warnings u x1 = some (k0, r0, u0)) : vx_Met l yX5_warnings wsX5_warnings rmX5_warnings (xwCX D cy ad u sz [.ref (ad 0), .int x1]) (xwPi D cy ad sz k0 r0 u0) (xwPx D cy ad sz k0 u0) 1 6 (xwA ad sz) := by
  refine vx_ofW (cc := cX5_warnings) (maxL := 6) (ret := (some .int)) (by decide) rfl ?_
  intro p e s m args below meth c s₁ B hml hex hv
  obtain ⟨ha, hP, hK, hX, hsz⟩ := hv
  have hout : ∀ (q : Nat), ∀ x ∈ c.exceptionTable.toList, covers x q = false := fun q x hx => (hex x hx).elim
  have hx := B.exec
  have hb := B.bytes
  have hr := B.returns
  have hlocks := B.notSynchronized
  have hts := atoms_spec (ws := wsX5_warnings) B.pre
  have hown : s.vm.findClass RX5 = some m.cls := findClass_of_methodNamed B.named
  have E : CallFix p m c cX5_warnings 6 s args wsX5_warnings RX5 := ⟨hx, hb, hml, hown, hts⟩
  have hin0 : ∀ w ∈ wsX00, w ∈ wsX5_warnings := by decide +kernel
  have hin2 : ∀ w ∈ wsX20, w ∈ wsX5_warnings := by decide +kernel
  have hin3 : ∀ w ∈ wsX30, w ∈ wsX5_warnings := by decide +kernel
  have hin5 : ∀ w ∈ wsX50, w ∈ wsX5_warnings := by decide +kernel
  have f11 : (Cond.fieldLink RX5 11 "Slidewarden" "versions" "[LSlidewarden$Version;").before args s = true := hts _ (by decide +kernel)
  have f130 : (Cond.fieldLink RX5 130 "Slidewarden$Version" "deck" "LSlidewarden$Deck;").before args s = true := hts _ (by decide +kernel)
  have f199 : (Cond.fieldLink RX5 199 "Slidewarden" "ruleCount" "I").before args s = true := hts _ (by decide +kernel)
  have f204 : (Cond.fieldLink RX5 204 "Slidewarden$Rule" "rank" "I").before args s = true := hts _ (by decide +kernel)
  have f24 : (Cond.fieldLink RX5 24 "Slidewarden" "rules" "[LSlidewarden$Rule;").before args s = true := hts _ (by decide +kernel)
  have f73 : (Cond.fieldLink RX5 73 "Slidewarden$Deck" "size" "I").before args s = true := hts _ (by decide +kernel)
  have hS : va_S (xwA ad sz) s.heap s.heap [] := va_S.rf
  have hsz2 : ∀ q : Nat, s.heap.size ≤ q → xwA ad sz q := fun q hq => Or.inr (by rw [← hsz]; exact hq)
  obtain ⟨ls, hl, hent⟩ := sw_entry m (n := 6) ha (Nat.le_of_ble_eq_true rfl)
  rw [hent]
  have hl : lv_has ls 6 [(0, .ref (ad 0)), (1, .int x1)] := hl
  unfold xx5_warnings at h
  refine lv_aload_n hx hb dX5_warnings_0 rfl (lv_at hl 0 rfl) ?_
  refine lv_iload_n hx hb dX5_warnings_1 rfl (lv_at hl 1 rfl) ?_
  obtain ⟨n2, en2, hq2, hex⟩ := swck_s h
  refine xw_ckv (As := [.int x1]) (rest := []) E (xm5_checkVersion l hst D cy ad u x1 _ en2) (cwV 1 hts gX5_warnings_X5_checkVersion rfl rfl rfl (by decide +kernel) ⟨Nat.le_of_ble_eq_true rfl, Nat.le_of_ble_eq_true rfl⟩) hK hP hX (xw_frP hS hsz) hS ⟨Nat.le_of_ble_eq_true rfl, Nat.le_of_ble_eq_true rfl⟩ rfl hl.1 rfl (Nat.le_of_ble_eq_true rfl) dX5_warnings_2 (fun hn ce q9 H locs hP hS hc hv hcl => xw_outP (hex hn) hn hout hlocks hc hv hcl hP hS (by decide) (by decide)) (fun hn H locs hP hS => ?_)
  replace h := hq2 hn
  refine lv_aload_n hx hb dX5_warnings_5 rfl (lv_at hl 0 rfl) ?_
  refine xw_getO hx hb hts hin5 hown hK hP 0 (by decide) f11 rfl dX5_warnings_6 ?_
  refine lv_iload_n hx hb dX5_warnings_9 rfl (lv_at hl 1 rfl) ?_
  obtain ⟨ic10_, h⟩ := swgd_s h
  obtain ⟨c10_, ec10_, h⟩ := swlt_s h
  have hc10_ := xw_Vof (swix_s ic10_) ec10_
  refine xw_aldV hx hb hK hP (swix_s ic10_) dX5_warnings_10 ec10_ ?_
  obtain ⟨d11_, ed11_, h⟩ := swlt_s h
  have hd11_ : xw_D d11_ := by rw [ed11_]; exact xw_VD hc10_
  refine xw_getV (v := .ref (ad d11_)) hx hb hts hin3 hown hK hP hc10_ 0 (by decide) f130 (by rw [ed11_]; rfl) dX5_warnings_11 ?_
  refine lv_astore_n (lv' := [(2, .ref (ad d11_)), (0, .ref (ad 0)), (1, .int x1)]) hx hb dX5_warnings_14 rfl hl (by decide) rfl (fun ls hl => ?_)
  refine lv_iconst (v := 0) hx hb dX5_warnings_15 (by decide) ?_
  refine lv_istore_n (lv' := [(3, .int 0), (2, .ref (ad d11_)), (0, .ref (ad 0)), (1, .int x1)]) hx hb dX5_warnings_16 rfl hl (by decide) rfl (fun ls hl => ?_)
  refine lv_iconst (v := 0) hx hb dX5_warnings_17 (by decide) ?_
  refine lv_istore (lv' := [(4, .int 0), (3, .int 0), (2, .ref (ad d11_)), (0, .ref (ad 0)), (1, .int x1)]) hx hb dX5_warnings_18 hl (by decide) rfl (fun ls hl => ?_)
  have L20 : ∀ (kk : Int32 → Int32 → Option (Nat × Int32 × swU)), (∀ (v3 : Int32) (v4 : Int32) (H : Heap) (locs : List Loc) (ls : Array Slot), kk v3 v4 = some (k0, r0, u0) → xwP D cy ad u H → va_S (xwA ad sz) s.heap H locs → lv_has ls 6 [(0, .ref (ad 0)), (1, .int x1), (2, .ref (ad d11_)), (3, .int v3), (4, .int v4)] → W p l e (headSpec wsX5_warnings rmX5_warnings).room s m args below meth c H locs 1 6 (vx_MQ below (xwPi D cy ad sz k0 r0 u0) (xwPx D cy ad sz k0 u0) args s 1 6 (xwA ad sz)) (F0 m 86 ls [])) → ∀ (n : Nat) (v3 : Int32) (v4 : Int32) (H : Heap) (locs : List Loc) (ls : Array Slot), xx5_warnings_L20 u d11_ kk n v3 v4 = some (k0, r0, u0) → xwP D cy ad u H → va_S (xwA ad sz) s.heap H locs → lv_has ls 6 [(0, .ref (ad 0)), (1, .int x1), (2, .ref (ad d11_)), (3, .int v3), (4, .int v4)] → W p l e (headSpec wsX5_warnings rmX5_warnings).room s m args below meth c H locs 1 6 (vx_MQ below (xwPi D cy ad sz k0 r0 u0) (xwPx D cy ad sz k0 u0) args s 1 6 (xwA ad sz)) (F0 m 20 ls []) := by
    intro kk hk20 n
    induction n with
    | zero => intro v3 v4 H locs ls h hP hS hl; rw [xx5_warnings_L20] at h; cases h
    | succ n ih20 =>
      intro v3 v4 H locs ls h hP hS hl
      rw [xx5_warnings_L20] at h
      refine lv_iload hx hb dX5_warnings_20 (lv_at hl 4 rfl) ?_
      refine lv_aload_n hx hb dX5_warnings_22 rfl (lv_at hl 2 rfl) ?_
      refine xw_getD hx hb hts hin0 hown hK hP hd11_ 2 (by decide) f73 rfl dX5_warnings_23 ?_
      refine lv_icmp_ge (tgt := 86) hx hb dX5_warnings_26 (by decide) (fun cc => ?_) (fun cc => ?_)
      · replace h := sw_t h cc
        exact hk20 _ _ _ _ _ h hP hS (lv_sub hl [0, 1, 2, 3, 4] rfl)
      · replace h := sw_f h cc
        refine lv_iconst (v := 0) hx hb dX5_warnings_29 (by decide) ?_
        refine lv_istore (lv' := [(5, .int 0), (0, .ref (ad 0)), (1, .int x1), (2, .ref (ad d11_)), (3, .int v3), (4, .int v4)]) hx hb dX5_warnings_30 hl (by decide) rfl (fun ls hl => ?_)
        have L32 : ∀ (kk : Int32 → Int32 → Option (Nat × Int32 × swU)), (∀ (v3 : Int32) (v5 : Int32) (H : Heap) (locs : List Loc) (ls : Array Slot), kk v3 v5 = some (k0, r0, u0) → xwP D cy ad u H → va_S (xwA ad sz) s.heap H locs → lv_has ls 6 [(0, .ref (ad 0)), (1, .int x1), (2, .ref (ad d11_)), (3, .int v3), (4, .int v4), (5, .int v5)] → W p l e (headSpec wsX5_warnings rmX5_warnings).room s m args below meth c H locs 1 6 (vx_MQ below (xwPi D cy ad sz k0 r0 u0) (xwPx D cy ad sz k0 u0) args s 1 6 (xwA ad sz)) (F0 m 80 ls [])) → ∀ (n : Nat) (v3 : Int32) (v5 : Int32) (H : Heap) (locs : List Loc) (ls : Array Slot), xx5_warnings_L32 u d11_ v4 kk n v3 v5 = some (k0, r0, u0) → xwP D cy ad u H → va_S (xwA ad sz) s.heap H locs → lv_has ls 6 [(0, .ref (ad 0)), (1, .int x1), (2, .ref (ad d11_)), (3, .int v3), (4, .int v4), (5, .int v5)] → W p l e (headSpec wsX5_warnings rmX5_warnings).room s m args below meth c H locs 1 6 (vx_MQ below (xwPi D cy ad sz k0 r0 u0) (xwPx D cy ad sz k0 u0) args s 1 6 (xwA ad sz)) (F0 m 32 ls []) := by
          intro kk hk32 n
          induction n with
          | zero => intro v3 v5 H locs ls h hP hS hl; rw [xx5_warnings_L32] at h; cases h
          | succ n ih32 =>
            intro v3 v5 H locs ls h hP hS hl
            rw [xx5_warnings_L32] at h
            refine lv_iload hx hb dX5_warnings_32 (lv_at hl 5 rfl) ?_
            refine lv_aload_n hx hb dX5_warnings_34 rfl (lv_at hl 0 rfl) ?_
            refine xw_getO hx hb hts hin5 hown hK hP 9 (by decide) f199 rfl dX5_warnings_35 ?_
            refine lv_icmp_ge (tgt := 80) hx hb dX5_warnings_38 (by decide) (fun cc => ?_) (fun cc => ?_)
            · replace h := sw_t h cc
              exact hk32 _ _ _ _ _ h hP hS (lv_sub hl [0, 1, 2, 3, 4, 5] rfl)
            · replace h := sw_f h cc
              refine lv_aload_n hx hb dX5_warnings_41 rfl (lv_at hl 0 rfl) ?_
              refine xw_getO hx hb hts hin5 hown hK hP 3 (by decide) f24 rfl dX5_warnings_42 ?_
              refine lv_iload hx hb dX5_warnings_45 (lv_at hl 5 rfl) ?_
              obtain ⟨ic47_, h⟩ := swgd_s h
              obtain ⟨c47_, ec47_, h⟩ := swlt_s h
              have hc47_ := xw_Rof (swix_s ic47_) ec47_
              refine xw_aldR hx hb hK hP (swix_s ic47_) dX5_warnings_47 ec47_ ?_
              refine xw_getR hx hb hts hin2 hown hK hP hc47_ 0 (by decide) f204 rfl dX5_warnings_48 ?_
              refine lv_iconst (v := 2) hx hb dX5_warnings_51 (by decide) ?_
              refine lv_icmp_ne (tgt := 74) hx hb dX5_warnings_52 (by decide) (fun cc => ?_) (fun cc => ?_)
              · replace h := sw_f h cc
                refine lv_iinc (v := (v5 + 1)) (lv' := [(5, .int (v5 + 1)), (0, .ref (ad 0)), (1, .int x1), (2, .ref (ad d11_)), (3, .int v3), (4, .int v4)]) hx hb dX5_warnings_74 hl (k := 5) rfl rfl (by decide) rfl (fun ls hl => ?_)
                refine lv_goto (tgt := 32) hx hb dX5_warnings_77 (by decide) ?_
                exact ih32 _ _ _ _ _ h hP hS (lv_sub hl [1, 2, 3, 4, 5, 0] rfl)
              · replace h := sw_t h cc
                refine lv_aload_n hx hb dX5_warnings_55 rfl (lv_at hl 0 rfl) ?_
                refine xw_getO hx hb hts hin5 hown hK hP 3 (by decide) f24 rfl dX5_warnings_56 ?_
                refine lv_iload hx hb dX5_warnings_59 (lv_at hl 5 rfl) ?_
                obtain ⟨ic61_, h⟩ := swgd_s h
                obtain ⟨c61_, ec61_, h⟩ := swlt_s h
                have hc61_ := xw_Rof (swix_s ic61_) ec61_
                refine xw_aldR hx hb hK hP (swix_s ic61_) dX5_warnings_61 ec61_ ?_
                refine lv_aload_n hx hb dX5_warnings_62 rfl (lv_at hl 2 rfl) ?_
                refine lv_iload hx hb dX5_warnings_63 (lv_at hl 4 rfl) ?_
                obtain ⟨r65, er65, h⟩ := swbd_s h
                refine xw_calli (As := [.ref (ad d11_), .int v4]) (rest := []) E (xm2_isBrokenAt l D cy ad u c61_ d11_ v4 hc61_ hd11_ _ er65) (cwV 2 hts gX5_warnings_X2_isBrokenAt rfl rfl rfl (by decide +kernel) ⟨Nat.le_of_ble_eq_true rfl, Nat.le_of_ble_eq_true rfl⟩) hK hP (xw_rR hK hP hc61_) ⟨Nat.le_of_ble_eq_true rfl, Nat.le_of_ble_eq_true rfl⟩ rfl hl.1 rfl (Nat.le_of_ble_eq_true rfl) dX5_warnings_65 ?_
                refine lv_if_eq (tgt := 74) hx hb dX5_warnings_68 (by decide) (fun cc => ?_) (fun cc => ?_)
                · replace h := sw_t h cc
                  refine lv_iinc (v := (v5 + 1)) (lv' := [(5, .int (v5 + 1)), (0, .ref (ad 0)), (1, .int x1), (2, .ref (ad d11_)), (3, .int v3), (4, .int v4)]) hx hb dX5_warnings_74 hl (k := 5) rfl rfl (by decide) rfl (fun ls hl => ?_)
                  refine lv_goto (tgt := 32) hx hb dX5_warnings_77 (by decide) ?_
                  exact ih32 _ _ _ _ _ h hP hS (lv_sub hl [1, 2, 3, 4, 5, 0] rfl)
                · replace h := sw_f h cc
                  refine lv_iinc (v := (v3 + 1)) (lv' := [(3, .int (v3 + 1)), (0, .ref (ad 0)), (1, .int x1), (2, .ref (ad d11_)), (4, .int v4), (5, .int v5)]) hx hb dX5_warnings_71 hl (k := 3) rfl rfl (by decide) rfl (fun ls hl => ?_)
                  refine lv_iinc (v := (v5 + 1)) (lv' := [(5, .int (v5 + 1)), (3, .int (v3 + 1)), (0, .ref (ad 0)), (1, .int x1), (2, .ref (ad d11_)), (4, .int v4)]) hx hb dX5_warnings_74 hl (k := 5) rfl rfl (by decide) rfl (fun ls hl => ?_)
                  refine lv_goto (tgt := 32) hx hb dX5_warnings_77 (by decide) ?_
                  exact ih32 _ _ _ _ _ h hP hS (lv_sub hl [2, 3, 4, 1, 5, 0] rfl)
        refine L32 _ (fun v3 v5 H locs ls h hP hS hl => ?_) 64 _ _ _ _ _ h hP hS (lv_sub hl [1, 2, 3, 4, 5, 0] rfl)
        refine lv_iinc (v := (v4 + 1)) (lv' := [(4, .int (v4 + 1)), (0, .ref (ad 0)), (1, .int x1), (2, .ref (ad d11_)), (3, .int v3), (5, .int v5)]) hx hb dX5_warnings_80 hl (k := 4) rfl rfl (by decide) rfl (fun ls hl => ?_)
        refine lv_goto (tgt := 20) hx hb dX5_warnings_83 (by decide) ?_
        exact ih20 _ _ _ _ _ h hP hS (lv_sub hl [1, 2, 3, 4, 0] rfl)
  refine L20 _ (fun v3 v4 H locs ls h hP hS hl => ?_) 64 _ _ _ _ _ h hP hS (lv_sub hl [3, 4, 2, 1, 0] rfl)
  refine lv_iload_n hx hb dX5_warnings_86 rfl (lv_at hl 3 rfl) ?_
  refine W.widen (k := 1) (n := 6) (Nat.le_of_ble_eq_true rfl) (Nat.le_of_ble_eq_true rfl) ?_
  exact vx_ret (W.iret hx hb hr (fun t ht hW => ⟨⟨_, (), rfl, ⟨(sw_inj3 h).1.symm, (sw_inj3 h).2.1⟩, xw_end hP ht (sw_inj3 h).2.2⟩, hS.F ht⟩) hS.2.2 dX5_warnings_87 hlocks)

/-! X5.firstBlock -/
def xx5_firstBlock_L17 (u : swU) (d11_ : Nat) (kk : Int32 → Option (Nat × Int32 × swU)) : Nat → Int32 → Option (Nat × Int32 × swU)
  | 0, _ => none
  | n + 1, v3 => if (u.1 d11_ 2) ≤ v3 then (kk v3) else (swbd (xx5_countBlocksAt u d11_ v3) fun r28 => if r28 ≤ 0 then (xx5_firstBlock_L17 u d11_ kk n (v3 + 1)) else (swrd 8 (u.1 (d11_ + 100)) v3 fun a39 => some (0, a39, u)))

def xx5_firstBlock (u : swU) (x1 : Int32) : Option (Nat × Int32 × swU) :=
  swck (xx5_checkVersion u x1) (fun k => some (k, 0, u)) <| swgd (swix x1 40) <| swlt (100 + x1.toNatClampNeg) fun c10_ => swlt (c10_ + 100) fun d11_ => xx5_firstBlock_L17 u d11_ (fun v3 => some (0, (-1), u)) 64 0

abbrev rmX5_firstBlock : Room := { frames := 7, cells := 1, slots := 6, locals := 111 }

set_option maxHeartbeats 4000000 in
set_option maxRecDepth 100000 in
theorem xm5_firstBlock (l : Launch) (hst : l.stackTraces = false) (D : va_G) (cy : Nat → ClassId) (ad : Nat → Nat) (hJ : swJ xw_N ad) (u : swU) (x1 : Int32) (sz : Nat) (k0 : Nat) (r0 : Int32) (u0 : swU) (h : xx5_firstBlock u x1 = some (k0, r0, u0)) : vx_Met l yX5_firstBlock wsX5_firstBlock rmX5_firstBlock (xwCX D cy ad u sz [.ref (ad 0), .int x1]) (xwPi D cy ad sz k0 r0 u0) (xwPx D cy ad sz k0 u0) 1 6 (xwA ad sz) := by
  refine vx_ofW (cc := cX5_firstBlock) (maxL := 4) (ret := (some .int)) (by decide) rfl ?_
  intro p e s m args below meth c s₁ B hml hex hv
  obtain ⟨ha, hP, hK, hX, hsz⟩ := hv
  have hout : ∀ (q : Nat), ∀ x ∈ c.exceptionTable.toList, covers x q = false := fun q x hx => (hex x hx).elim
  have hx := B.exec
  have hb := B.bytes
  have hr := B.returns
  have hlocks := B.notSynchronized
  have hts := atoms_spec (ws := wsX5_firstBlock) B.pre
  have hown : s.vm.findClass RX5 = some m.cls := findClass_of_methodNamed B.named
  have E : CallFix p m c cX5_firstBlock 4 s args wsX5_firstBlock RX5 := ⟨hx, hb, hml, hown, hts⟩
  have hin0 : ∀ w ∈ wsX00, w ∈ wsX5_firstBlock := by decide +kernel
  have hin3 : ∀ w ∈ wsX30, w ∈ wsX5_firstBlock := by decide +kernel
  have hin5 : ∀ w ∈ wsX50, w ∈ wsX5_firstBlock := by decide +kernel
  have f11 : (Cond.fieldLink RX5 11 "Slidewarden" "versions" "[LSlidewarden$Version;").before args s = true := hts _ (by decide +kernel)
  have f130 : (Cond.fieldLink RX5 130 "Slidewarden$Version" "deck" "LSlidewarden$Deck;").before args s = true := hts _ (by decide +kernel)
  have f149 : (Cond.fieldLink RX5 149 "Slidewarden$Deck" "slides" "[I").before args s = true := hts _ (by decide +kernel)
  have f73 : (Cond.fieldLink RX5 73 "Slidewarden$Deck" "size" "I").before args s = true := hts _ (by decide +kernel)
  have hS : va_S (xwA ad sz) s.heap s.heap [] := va_S.rf
  have hsz2 : ∀ q : Nat, s.heap.size ≤ q → xwA ad sz q := fun q hq => Or.inr (by rw [← hsz]; exact hq)
  obtain ⟨ls, hl, hent⟩ := sw_entry m (n := 4) ha (Nat.le_of_ble_eq_true rfl)
  rw [hent]
  have hl : lv_has ls 4 [(0, .ref (ad 0)), (1, .int x1)] := hl
  unfold xx5_firstBlock at h
  refine lv_aload_n hx hb dX5_firstBlock_0 rfl (lv_at hl 0 rfl) ?_
  refine lv_iload_n hx hb dX5_firstBlock_1 rfl (lv_at hl 1 rfl) ?_
  obtain ⟨n2, en2, hq2, hex⟩ := swck_s h
  refine xw_ckv (As := [.int x1]) (rest := []) E (xm5_checkVersion l hst D cy ad u x1 _ en2) (cwV 1 hts gX5_firstBlock_X5_checkVersion rfl rfl rfl (by decide +kernel) ⟨Nat.le_of_ble_eq_true rfl, Nat.le_of_ble_eq_true rfl⟩) hK hP hX (xw_frP hS hsz) hS ⟨Nat.le_of_ble_eq_true rfl, Nat.le_of_ble_eq_true rfl⟩ rfl hl.1 rfl (Nat.le_of_ble_eq_true rfl) dX5_firstBlock_2 (fun hn ce q9 H locs hP hS hc hv hcl => xw_outP (hex hn) hn hout hlocks hc hv hcl hP hS (by decide) (by decide)) (fun hn H locs hP hS => ?_)
  replace h := hq2 hn
  refine lv_aload_n hx hb dX5_firstBlock_5 rfl (lv_at hl 0 rfl) ?_
  refine xw_getO hx hb hts hin5 hown hK hP 0 (by decide) f11 rfl dX5_firstBlock_6 ?_
  refine lv_iload_n hx hb dX5_firstBlock_9 rfl (lv_at hl 1 rfl) ?_
  obtain ⟨ic10_, h⟩ := swgd_s h
  obtain ⟨c10_, ec10_, h⟩ := swlt_s h
  have hc10_ := xw_Vof (swix_s ic10_) ec10_
  refine xw_aldV hx hb hK hP (swix_s ic10_) dX5_firstBlock_10 ec10_ ?_
  obtain ⟨d11_, ed11_, h⟩ := swlt_s h
  have hd11_ : xw_D d11_ := by rw [ed11_]; exact xw_VD hc10_
  refine xw_getV (v := .ref (ad d11_)) hx hb hts hin3 hown hK hP hc10_ 0 (by decide) f130 (by rw [ed11_]; rfl) dX5_firstBlock_11 ?_
  refine lv_astore_n (lv' := [(2, .ref (ad d11_)), (0, .ref (ad 0)), (1, .int x1)]) hx hb dX5_firstBlock_14 rfl hl (by decide) rfl (fun ls hl => ?_)
  refine lv_iconst (v := 0) hx hb dX5_firstBlock_15 (by decide) ?_
  refine lv_istore_n (lv' := [(3, .int 0), (2, .ref (ad d11_)), (0, .ref (ad 0)), (1, .int x1)]) hx hb dX5_firstBlock_16 rfl hl (by decide) rfl (fun ls hl => ?_)
  have L17 : ∀ (kk : Int32 → Option (Nat × Int32 × swU)), (∀ (v3 : Int32) (H : Heap) (locs : List Loc) (ls : Array Slot), kk v3 = some (k0, r0, u0) → xwP D cy ad u H → va_S (xwA ad sz) s.heap H locs → lv_has ls 4 [(0, .ref (ad 0)), (1, .int x1), (2, .ref (ad d11_)), (3, .int v3)] → W p l e (headSpec wsX5_firstBlock rmX5_firstBlock).room s m args below meth c H locs 1 6 (vx_MQ below (xwPi D cy ad sz k0 r0 u0) (xwPx D cy ad sz k0 u0) args s 1 6 (xwA ad sz)) (F0 m 47 ls [])) → ∀ (n : Nat) (v3 : Int32) (H : Heap) (locs : List Loc) (ls : Array Slot), xx5_firstBlock_L17 u d11_ kk n v3 = some (k0, r0, u0) → xwP D cy ad u H → va_S (xwA ad sz) s.heap H locs → lv_has ls 4 [(0, .ref (ad 0)), (1, .int x1), (2, .ref (ad d11_)), (3, .int v3)] → W p l e (headSpec wsX5_firstBlock rmX5_firstBlock).room s m args below meth c H locs 1 6 (vx_MQ below (xwPi D cy ad sz k0 r0 u0) (xwPx D cy ad sz k0 u0) args s 1 6 (xwA ad sz)) (F0 m 17 ls []) := by
    intro kk hk17 n
    induction n with
    | zero => intro v3 H locs ls h hP hS hl; rw [xx5_firstBlock_L17] at h; cases h
    | succ n ih17 =>
      intro v3 H locs ls h hP hS hl
      rw [xx5_firstBlock_L17] at h
      refine lv_iload_n hx hb dX5_firstBlock_17 rfl (lv_at hl 3 rfl) ?_
      refine lv_aload_n hx hb dX5_firstBlock_18 rfl (lv_at hl 2 rfl) ?_
      refine xw_getD hx hb hts hin0 hown hK hP hd11_ 2 (by decide) f73 rfl dX5_firstBlock_19 ?_
      refine lv_icmp_ge (tgt := 47) hx hb dX5_firstBlock_22 (by decide) (fun cc => ?_) (fun cc => ?_)
      · replace h := sw_t h cc
        exact hk17 _ _ _ _ h hP hS (lv_sub hl [0, 1, 2, 3] rfl)
      · replace h := sw_f h cc
        refine lv_aload_n hx hb dX5_firstBlock_25 rfl (lv_at hl 0 rfl) ?_
        refine lv_aload_n hx hb dX5_firstBlock_26 rfl (lv_at hl 2 rfl) ?_
        refine lv_iload_n hx hb dX5_firstBlock_27 rfl (lv_at hl 3 rfl) ?_
        obtain ⟨r28, er28, h⟩ := swbd_s h
        refine xw_calli (As := [.ref (ad d11_), .int v3]) (rest := []) E (xm5_countBlocksAt l D cy ad u d11_ v3 hd11_ _ er28) (cwV 2 hts gX5_firstBlock_X5_countBlocksAt rfl rfl rfl (by decide +kernel) ⟨Nat.le_of_ble_eq_true rfl, Nat.le_of_ble_eq_true rfl⟩) hK hP (xw_rO hK hP) ⟨Nat.le_of_ble_eq_true rfl, Nat.le_of_ble_eq_true rfl⟩ rfl hl.1 rfl (Nat.le_of_ble_eq_true rfl) dX5_firstBlock_28 ?_
        refine lv_if_le (tgt := 41) hx hb dX5_firstBlock_31 (by decide) (fun cc => ?_) (fun cc => ?_)
        · replace h := sw_t h cc
          refine lv_iinc (v := (v3 + 1)) (lv' := [(3, .int (v3 + 1)), (0, .ref (ad 0)), (1, .int x1), (2, .ref (ad d11_))]) hx hb dX5_firstBlock_41 hl (k := 3) rfl rfl (by decide) rfl (fun ls hl => ?_)
          refine lv_goto (tgt := 17) hx hb dX5_firstBlock_44 (by decide) ?_
          exact ih17 _ _ _ _ h hP hS (lv_sub hl [1, 2, 3, 0] rfl)
        · replace h := sw_f h cc
          refine lv_aload_n hx hb dX5_firstBlock_34 rfl (lv_at hl 2 rfl) ?_
          refine xw_getD hx hb hts hin0 hown hK hP hd11_ 0 (by decide) f149 rfl dX5_firstBlock_35 ?_
          refine lv_iload_n hx hb dX5_firstBlock_38 rfl (lv_at hl 3 rfl) ?_
          obtain ⟨a39, ea39, ia39, h⟩ := swrd_s h
          refine xw_ald hx hb hK hP (xw_NS hd11_) (xw_celS hd11_) ia39 dX5_firstBlock_39 ea39 ?_
          refine W.widen (k := 1) (n := 6) (Nat.le_of_ble_eq_true rfl) (Nat.le_of_ble_eq_true rfl) ?_
          exact vx_ret (W.iret hx hb hr (fun t ht hW => ⟨⟨_, (), rfl, ⟨(sw_inj3 h).1.symm, (sw_inj3 h).2.1⟩, xw_end hP ht (sw_inj3 h).2.2⟩, hS.F ht⟩) hS.2.2 dX5_firstBlock_40 hlocks)
  refine L17 _ (fun v3 H locs ls h hP hS hl => ?_) 64 _ _ _ _ h hP hS (lv_sub hl [2, 3, 1, 0] rfl)
  refine lv_iconst (v := (-1)) hx hb dX5_firstBlock_47 (by decide) ?_
  refine W.widen (k := 1) (n := 6) (Nat.le_of_ble_eq_true rfl) (Nat.le_of_ble_eq_true rfl) ?_
  exact vx_ret (W.iret hx hb hr (fun t ht hW => ⟨⟨_, (), rfl, ⟨(sw_inj3 h).1.symm, (sw_inj3 h).2.1⟩, xw_end hP ht (sw_inj3 h).2.2⟩, hS.F ht⟩) hS.2.2 dX5_firstBlock_48 hlocks)

/-! X5.show -/
def xx5_show (u : swU) (x1 : Int32) : Option (Nat × Int32 × swU) :=
  swck (xx5_checkBranch u x1) (fun k => some (k, 0, u)) <| swbd (xx5_headDeck u x1) fun r8 => swbd (xx5_countBlocks u r8) fun r11 => if r11 ≤ 0 then (swrd 6 (u.1 1) x1 fun a37 => swgd (swix x1 6) <| swlt (swI u 2 x1.toNatClampNeg a37) fun u38 => swrd 6 (u38.1 1) x1 fun a44 => some (0, a44, u38)) else (some (3, 0, u))

abbrev rmX5_show : Room := { frames := 7, cells := 2, slots := 12, locals := 111 }

set_option maxHeartbeats 4000000 in
set_option maxRecDepth 100000 in
theorem xm5_show (l : Launch) (hst : l.stackTraces = false) (D : va_G) (cy : Nat → ClassId) (ad : Nat → Nat) (hJ : swJ xw_N ad) (u : swU) (x1 : Int32) (sz : Nat) (k0 : Nat) (r0 : Int32) (u0 : swU) (h : xx5_show u x1 = some (k0, r0, u0)) : vx_Met l yX5_show wsX5_show rmX5_show (xwCX D cy ad u sz [.ref (ad 0), .int x1]) (xwPi D cy ad sz k0 r0 u0) (xwPx D cy ad sz k0 u0) 2 12 (xwA ad sz) := by
  refine vx_ofW (cc := cX5_show) (maxL := 2) (ret := (some .int)) (by decide) rfl ?_
  intro p e s m args below meth c s₁ B hml hex hv
  obtain ⟨ha, hP, hK, hX, hsz⟩ := hv
  have hout : ∀ (q : Nat), ∀ x ∈ c.exceptionTable.toList, covers x q = false := fun q x hx => (hex x hx).elim
  have hx := B.exec
  have hb := B.bytes
  have hr := B.returns
  have hlocks := B.notSynchronized
  have hts := atoms_spec (ws := wsX5_show) B.pre
  have hown : s.vm.findClass RX5 = some m.cls := findClass_of_methodNamed B.named
  have E : CallFix p m c cX5_show 2 s args wsX5_show RX5 := ⟨hx, hb, hml, hown, hts⟩
  have hin5 : ∀ w ∈ wsX50, w ∈ wsX5_show := by decide +kernel
  have f15 : (Cond.fieldLink RX5 15 "Slidewarden" "heads" "[I").before args s = true := hts _ (by decide +kernel)
  have f19 : (Cond.fieldLink RX5 19 "Slidewarden" "shownVersions" "[I").before args s = true := hts _ (by decide +kernel)
  have fi3 : (Cond.initialized "java/lang/IllegalStateException").before args s = true := hts _ (by decide +kernel)
  have fk59 : (Cond.classLink RX5 59 "java/lang/IllegalStateException").before args s = true := hts _ (by decide +kernel)
  have hm63 : ∀ w ∈ (vx_atS RX5 63 "java/lang/IllegalStateException" swNs).filter goodWord, w ∈ wsX5_show := fun w h => by first | exact List.mem_cons_of_mem _ (List.mem_append_right _ h) | exact List.mem_cons_of_mem _ (List.mem_append_left _ (List.mem_append_right _ h)) | exact List.mem_cons_of_mem _ (List.mem_append_left _ (List.mem_append_left _ (List.mem_append_right _ h)))
  have hS : va_S (xwA ad sz) s.heap s.heap [] := va_S.rf
  have hsz2 : ∀ q : Nat, s.heap.size ≤ q → xwA ad sz q := fun q hq => Or.inr (by rw [← hsz]; exact hq)
  obtain ⟨ls, hl, hent⟩ := sw_entry m (n := 2) ha (Nat.le_of_ble_eq_true rfl)
  rw [hent]
  have hl : lv_has ls 2 [(0, .ref (ad 0)), (1, .int x1)] := hl
  unfold xx5_show at h
  refine lv_aload_n hx hb dX5_show_0 rfl (lv_at hl 0 rfl) ?_
  refine lv_iload_n hx hb dX5_show_1 rfl (lv_at hl 1 rfl) ?_
  obtain ⟨n2, en2, hq2, hex⟩ := swck_s h
  refine xw_ckv (As := [.int x1]) (rest := []) E (xm5_checkBranch l hst D cy ad u x1 _ en2) (cwV 1 hts gX5_show_X5_checkBranch rfl rfl rfl (by decide +kernel) ⟨Nat.le_of_ble_eq_true rfl, Nat.le_of_ble_eq_true rfl⟩) hK hP hX (xw_frP hS hsz) hS ⟨Nat.le_of_ble_eq_true rfl, Nat.le_of_ble_eq_true rfl⟩ rfl hl.1 rfl (Nat.le_of_ble_eq_true rfl) dX5_show_2 (fun hn ce q9 H locs hP hS hc hv hcl => xw_outP (hex hn) hn hout hlocks hc hv hcl hP hS (by decide) (by decide)) (fun hn H locs hP hS => ?_)
  replace h := hq2 hn
  refine lv_aload_n hx hb dX5_show_5 rfl (lv_at hl 0 rfl) ?_
  refine lv_aload_n hx hb dX5_show_6 rfl (lv_at hl 0 rfl) ?_
  refine lv_iload_n hx hb dX5_show_7 rfl (lv_at hl 1 rfl) ?_
  obtain ⟨r8, er8, h⟩ := swbd_s h
  refine xw_callr (As := [.int x1]) (rest := [.ref (ad 0)]) E (xm5_headDeck l D cy ad u x1 _ er8) (cwV 1 hts gX5_show_X5_headDeck rfl rfl rfl (by decide +kernel) ⟨Nat.le_of_ble_eq_true rfl, Nat.le_of_ble_eq_true rfl⟩) hK hP (xw_rO hK hP) ⟨Nat.le_of_ble_eq_true rfl, Nat.le_of_ble_eq_true rfl⟩ rfl hl.1 rfl (Nat.le_of_ble_eq_true rfl) dX5_show_8 (fun hr8 => ?_)
  obtain ⟨r11, er11, h⟩ := swbd_s h
  refine xw_calli (As := [.ref (ad r8)]) (rest := []) E (xm5_countBlocks l D cy ad u r8 hr8 _ er11) (cwV 1 hts gX5_show_X5_countBlocks rfl rfl rfl (by decide +kernel) ⟨Nat.le_of_ble_eq_true rfl, Nat.le_of_ble_eq_true rfl⟩) hK hP (xw_rO hK hP) ⟨Nat.le_of_ble_eq_true rfl, Nat.le_of_ble_eq_true rfl⟩ rfl hl.1 rfl (Nat.le_of_ble_eq_true rfl) dX5_show_11 ?_
  refine lv_if_le (tgt := 27) hx hb dX5_show_14 (by decide) (fun cc => ?_) (fun cc => ?_)
  · replace h := sw_t h cc
    refine lv_aload_n hx hb dX5_show_27 rfl (lv_at hl 0 rfl) ?_
    refine xw_getO hx hb hts hin5 hown hK hP 2 (by decide) f19 rfl dX5_show_28 ?_
    refine lv_iload_n hx hb dX5_show_31 rfl (lv_at hl 1 rfl) ?_
    refine lv_aload_n hx hb dX5_show_32 rfl (lv_at hl 0 rfl) ?_
    refine xw_getO hx hb hts hin5 hown hK hP 1 (by decide) f15 rfl dX5_show_33 ?_
    refine lv_iload_n hx hb dX5_show_36 rfl (lv_at hl 1 rfl) ?_
    obtain ⟨a37, ea37, ia37, h⟩ := swrd_s h
    refine xw_ald hx hb hK hP (by decide) rfl ia37 dX5_show_37 ea37 ?_
    obtain ⟨iu38, h⟩ := swgd_s h
    obtain ⟨u38, eu38, h⟩ := swlt_s h
    refine xw_ast hx hb hK hJ xw_A1 hP hS (by decide) (fun _ => rfl) (swix_s iu38) eu38 dX5_show_38 (fun H locs hP hS => ?_)
    refine lv_aload_n hx hb dX5_show_39 rfl (lv_at hl 0 rfl) ?_
    refine xw_getO hx hb hts hin5 hown hK hP 1 (by decide) f15 rfl dX5_show_40 ?_
    refine lv_iload_n hx hb dX5_show_43 rfl (lv_at hl 1 rfl) ?_
    obtain ⟨a44, ea44, ia44, h⟩ := swrd_s h
    refine xw_ald hx hb hK hP (by decide) rfl ia44 dX5_show_44 ea44 ?_
    refine W.widen (k := 2) (n := 12) (Nat.le_of_ble_eq_true rfl) (Nat.le_of_ble_eq_true rfl) ?_
    exact vx_ret (W.iret hx hb hr (fun t ht hW => ⟨⟨_, (), rfl, ⟨(sw_inj3 h).1.symm, (sw_inj3 h).2.1⟩, xw_end hP ht (sw_inj3 h).2.2⟩, hS.F ht⟩) hS.2.2 dX5_show_45 hlocks)
  · replace h := sw_f h cc
    exact xw_thr3 (text := "the head is blocked") hx hb hst hts hm63 hown fk59 fi3 hX (by decide +kernel) hS (xw_hAP hsz) (hl.1.trans hml.symm) dX5_show_17 dX5_show_20 dX5_show_21 dX5_show_23 dX5_show_26 hout (by decide) (Nat.le_of_ble_eq_true rfl) (by decide) (by decide) hlocks (xw_xP h (by decide) hP hS) hS.2.2 (by decide) (by decide)

/-! X5.shown -/
def xx5_shown (u : swU) (x1 : Int32) : Option (Nat × Int32 × swU) :=
  swck (xx5_checkBranch u x1) (fun k => some (k, 0, u)) <| swrd 6 (u.1 2) x1 fun a10 => if a10 = (-1) then (some (0, (-1), u)) else (swgd (swix a10 40) <| swlt (100 + a10.toNatClampNeg) fun c23_ => swlt (c23_ + 100) fun d24_ => swbd (xx5_countBlocks u d24_) fun r27 => if r27 ≤ 0 then (some (0, a10, u)) else (some (0, (-1), u)))

abbrev rmX5_shown : Room := { frames := 7, cells := 1, slots := 6, locals := 111 }

set_option maxHeartbeats 4000000 in
set_option maxRecDepth 100000 in
theorem xm5_shown (l : Launch) (hst : l.stackTraces = false) (D : va_G) (cy : Nat → ClassId) (ad : Nat → Nat) (hJ : swJ xw_N ad) (u : swU) (x1 : Int32) (sz : Nat) (k0 : Nat) (r0 : Int32) (u0 : swU) (h : xx5_shown u x1 = some (k0, r0, u0)) : vx_Met l yX5_shown wsX5_shown rmX5_shown (xwCX D cy ad u sz [.ref (ad 0), .int x1]) (xwPi D cy ad sz k0 r0 u0) (xwPx D cy ad sz k0 u0) 1 6 (xwA ad sz) := by
  refine vx_ofW (cc := cX5_shown) (maxL := 3) (ret := (some .int)) (by decide) rfl ?_
  intro p e s m args below meth c s₁ B hml hex hv
  obtain ⟨ha, hP, hK, hX, hsz⟩ := hv
  have hout : ∀ (q : Nat), ∀ x ∈ c.exceptionTable.toList, covers x q = false := fun q x hx => (hex x hx).elim
  have hx := B.exec
  have hb := B.bytes
  have hr := B.returns
  have hlocks := B.notSynchronized
  have hts := atoms_spec (ws := wsX5_shown) B.pre
  have hown : s.vm.findClass RX5 = some m.cls := findClass_of_methodNamed B.named
  have E : CallFix p m c cX5_shown 3 s args wsX5_shown RX5 := ⟨hx, hb, hml, hown, hts⟩
  have hin3 : ∀ w ∈ wsX30, w ∈ wsX5_shown := by decide +kernel
  have hin5 : ∀ w ∈ wsX50, w ∈ wsX5_shown := by decide +kernel
  have f11 : (Cond.fieldLink RX5 11 "Slidewarden" "versions" "[LSlidewarden$Version;").before args s = true := hts _ (by decide +kernel)
  have f130 : (Cond.fieldLink RX5 130 "Slidewarden$Version" "deck" "LSlidewarden$Deck;").before args s = true := hts _ (by decide +kernel)
  have f19 : (Cond.fieldLink RX5 19 "Slidewarden" "shownVersions" "[I").before args s = true := hts _ (by decide +kernel)
  have hS : va_S (xwA ad sz) s.heap s.heap [] := va_S.rf
  have hsz2 : ∀ q : Nat, s.heap.size ≤ q → xwA ad sz q := fun q hq => Or.inr (by rw [← hsz]; exact hq)
  obtain ⟨ls, hl, hent⟩ := sw_entry m (n := 3) ha (Nat.le_of_ble_eq_true rfl)
  rw [hent]
  have hl : lv_has ls 3 [(0, .ref (ad 0)), (1, .int x1)] := hl
  unfold xx5_shown at h
  refine lv_aload_n hx hb dX5_shown_0 rfl (lv_at hl 0 rfl) ?_
  refine lv_iload_n hx hb dX5_shown_1 rfl (lv_at hl 1 rfl) ?_
  obtain ⟨n2, en2, hq2, hex⟩ := swck_s h
  refine xw_ckv (As := [.int x1]) (rest := []) E (xm5_checkBranch l hst D cy ad u x1 _ en2) (cwV 1 hts gX5_shown_X5_checkBranch rfl rfl rfl (by decide +kernel) ⟨Nat.le_of_ble_eq_true rfl, Nat.le_of_ble_eq_true rfl⟩) hK hP hX (xw_frP hS hsz) hS ⟨Nat.le_of_ble_eq_true rfl, Nat.le_of_ble_eq_true rfl⟩ rfl hl.1 rfl (Nat.le_of_ble_eq_true rfl) dX5_shown_2 (fun hn ce q9 H locs hP hS hc hv hcl => xw_outP (hex hn) hn hout hlocks hc hv hcl hP hS (by decide) (by decide)) (fun hn H locs hP hS => ?_)
  replace h := hq2 hn
  refine lv_aload_n hx hb dX5_shown_5 rfl (lv_at hl 0 rfl) ?_
  refine xw_getO hx hb hts hin5 hown hK hP 2 (by decide) f19 rfl dX5_shown_6 ?_
  refine lv_iload_n hx hb dX5_shown_9 rfl (lv_at hl 1 rfl) ?_
  obtain ⟨a10, ea10, ia10, h⟩ := swrd_s h
  refine xw_ald hx hb hK hP (by decide) rfl ia10 dX5_shown_10 ea10 ?_
  refine lv_istore_n (lv' := [(2, .int a10), (0, .ref (ad 0)), (1, .int x1)]) hx hb dX5_shown_11 rfl hl (by decide) rfl (fun ls hl => ?_)
  refine lv_iload_n hx hb dX5_shown_12 rfl (lv_at hl 0 rfl) ?_
  refine lv_iconst (v := (-1)) hx hb dX5_shown_13 (by decide) ?_
  refine lv_icmp_eq (tgt := 33) hx hb dX5_shown_14 (by decide) (fun cc => ?_) (fun cc => ?_)
  · replace h := sw_t h cc
    refine lv_iconst (v := (-1)) hx hb dX5_shown_33 (by decide) ?_
    refine W.widen (k := 1) (n := 6) (Nat.le_of_ble_eq_true rfl) (Nat.le_of_ble_eq_true rfl) ?_
    exact vx_ret (W.iret hx hb hr (fun t ht hW => ⟨⟨_, (), rfl, ⟨(sw_inj3 h).1.symm, (sw_inj3 h).2.1⟩, xw_end hP ht (sw_inj3 h).2.2⟩, hS.F ht⟩) hS.2.2 dX5_shown_34 hlocks)
  · replace h := sw_f h cc
    refine lv_aload_n hx hb dX5_shown_17 rfl (lv_at hl 1 rfl) ?_
    refine lv_aload_n hx hb dX5_shown_18 rfl (lv_at hl 1 rfl) ?_
    refine xw_getO hx hb hts hin5 hown hK hP 0 (by decide) f11 rfl dX5_shown_19 ?_
    refine lv_iload_n hx hb dX5_shown_22 rfl (lv_at hl 0 rfl) ?_
    obtain ⟨ic23_, h⟩ := swgd_s h
    obtain ⟨c23_, ec23_, h⟩ := swlt_s h
    have hc23_ := xw_Vof (swix_s ic23_) ec23_
    refine xw_aldV hx hb hK hP (swix_s ic23_) dX5_shown_23 ec23_ ?_
    obtain ⟨d24_, ed24_, h⟩ := swlt_s h
    have hd24_ : xw_D d24_ := by rw [ed24_]; exact xw_VD hc23_
    refine xw_getV (v := .ref (ad d24_)) hx hb hts hin3 hown hK hP hc23_ 0 (by decide) f130 (by rw [ed24_]; rfl) dX5_shown_24 ?_
    obtain ⟨r27, er27, h⟩ := swbd_s h
    refine xw_calli (As := [.ref (ad d24_)]) (rest := []) E (xm5_countBlocks l D cy ad u d24_ hd24_ _ er27) (cwV 1 hts gX5_shown_X5_countBlocks rfl rfl rfl (by decide +kernel) ⟨Nat.le_of_ble_eq_true rfl, Nat.le_of_ble_eq_true rfl⟩) hK hP (xw_rO hK hP) ⟨Nat.le_of_ble_eq_true rfl, Nat.le_of_ble_eq_true rfl⟩ rfl hl.1 rfl (Nat.le_of_ble_eq_true rfl) dX5_shown_27 ?_
    refine lv_if_le (tgt := 35) hx hb dX5_shown_30 (by decide) (fun cc => ?_) (fun cc => ?_)
    · replace h := sw_t h cc
      refine lv_iload_n hx hb dX5_shown_35 rfl (lv_at hl 0 rfl) ?_
      refine W.widen (k := 1) (n := 6) (Nat.le_of_ble_eq_true rfl) (Nat.le_of_ble_eq_true rfl) ?_
      exact vx_ret (W.iret hx hb hr (fun t ht hW => ⟨⟨_, (), rfl, ⟨(sw_inj3 h).1.symm, (sw_inj3 h).2.1⟩, xw_end hP ht (sw_inj3 h).2.2⟩, hS.F ht⟩) hS.2.2 dX5_shown_36 hlocks)
    · replace h := sw_f h cc
      refine lv_iconst (v := (-1)) hx hb dX5_shown_33 (by decide) ?_
      refine W.widen (k := 1) (n := 6) (Nat.le_of_ble_eq_true rfl) (Nat.le_of_ble_eq_true rfl) ?_
      exact vx_ret (W.iret hx hb hr (fun t ht hW => ⟨⟨_, (), rfl, ⟨(sw_inj3 h).1.symm, (sw_inj3 h).2.1⟩, xw_end hP ht (sw_inj3 h).2.2⟩, hS.F ht⟩) hS.2.2 dX5_shown_34 hlocks)

/-! X5.pass -/
def xx5_pass (u : swU) (x1 : Int32) : Option (Nat × Int32 × swU) :=
  if x1 < 1 then (some (2, 0, u)) else (if x1 ≤ 100 then (if ((u.1 0 11) + x1) ≤ 999 then (swlt (swI u 0 11 (((u.1 0 11) + x1))) fun u52 => some (0, (u52.1 0 11), u52)) else (some (3, 0, u))) else (some (2, 0, u)))

abbrev rmX5_pass : Room := { frames := 6, cells := 1, slots := 6, locals := 90 }

set_option maxHeartbeats 4000000 in
set_option maxRecDepth 100000 in
theorem xm5_pass (l : Launch) (hst : l.stackTraces = false) (D : va_G) (cy : Nat → ClassId) (ad : Nat → Nat) (hJ : swJ xw_N ad) (u : swU) (x1 : Int32) (sz : Nat) (k0 : Nat) (r0 : Int32) (u0 : swU) (h : xx5_pass u x1 = some (k0, r0, u0)) : vx_Met l yX5_pass wsX5_pass rmX5_pass (xwCX D cy ad u sz [.ref (ad 0), .int x1]) (xwPi D cy ad sz k0 r0 u0) (xwPx D cy ad sz k0 u0) 1 6 (xwA ad sz) := by
  refine vx_ofW (cc := cX5_pass) (maxL := 2) (ret := (some .int)) (by decide) rfl ?_
  intro p e s m args below meth c s₁ B hml hex hv
  obtain ⟨ha, hP, hK, hX, hsz⟩ := hv
  have hout : ∀ (q : Nat), ∀ x ∈ c.exceptionTable.toList, covers x q = false := fun q x hx => (hex x hx).elim
  have hx := B.exec
  have hb := B.bytes
  have hr := B.returns
  have hlocks := B.notSynchronized
  have hts := atoms_spec (ws := wsX5_pass) B.pre
  have hown : s.vm.findClass RX5 = some m.cls := findClass_of_methodNamed B.named
  have hin5 : ∀ w ∈ wsX50, w ∈ wsX5_pass := by decide +kernel
  have f225 : (Cond.fieldLink RX5 225 "Slidewarden" "day" "I").before args s = true := hts _ (by decide +kernel)
  have fi2 : (Cond.initialized "java/lang/IllegalArgumentException").before args s = true := hts _ (by decide +kernel)
  have fi3 : (Cond.initialized "java/lang/IllegalStateException").before args s = true := hts _ (by decide +kernel)
  have fk106 : (Cond.classLink RX5 106 "java/lang/IllegalArgumentException").before args s = true := hts _ (by decide +kernel)
  have fk59 : (Cond.classLink RX5 59 "java/lang/IllegalStateException").before args s = true := hts _ (by decide +kernel)
  have hm63 : ∀ w ∈ (vx_atS RX5 63 "java/lang/IllegalStateException" swNs).filter goodWord, w ∈ wsX5_pass := fun w h => by first | exact List.mem_cons_of_mem _ (List.mem_append_right _ h) | exact List.mem_cons_of_mem _ (List.mem_append_left _ (List.mem_append_right _ h)) | exact List.mem_cons_of_mem _ (List.mem_append_left _ (List.mem_append_left _ (List.mem_append_right _ h)))
  have hm110 : ∀ w ∈ (vx_atS RX5 110 "java/lang/IllegalArgumentException" swNs).filter goodWord, w ∈ wsX5_pass := fun w h => by first | exact List.mem_cons_of_mem _ (List.mem_append_right _ h) | exact List.mem_cons_of_mem _ (List.mem_append_left _ (List.mem_append_right _ h)) | exact List.mem_cons_of_mem _ (List.mem_append_left _ (List.mem_append_left _ (List.mem_append_right _ h)))
  have hS : va_S (xwA ad sz) s.heap s.heap [] := va_S.rf
  have hsz2 : ∀ q : Nat, s.heap.size ≤ q → xwA ad sz q := fun q hq => Or.inr (by rw [← hsz]; exact hq)
  obtain ⟨ls, hl, hent⟩ := sw_entry m (n := 2) ha (Nat.le_of_ble_eq_true rfl)
  rw [hent]
  have hl : lv_has ls 2 [(0, .ref (ad 0)), (1, .int x1)] := hl
  unfold xx5_pass at h
  refine lv_iload_n hx hb dX5_pass_0 rfl (lv_at hl 1 rfl) ?_
  refine lv_iconst (v := 1) hx hb dX5_pass_1 (by decide) ?_
  refine lv_icmp_lt (tgt := 11) hx hb dX5_pass_2 (by decide) (fun cc => ?_) (fun cc => ?_)
  · replace h := sw_t h cc
    exact xw_thr2W (text := "days is out of range") hx hb hst hts hm110 hown fk106 fi2 hX (by decide +kernel) hS (xw_hAP hsz) (hl.1.trans hml.symm) dX5_pass_11 dX5_pass_14 dX5_pass_15 dX5_pass_18 dX5_pass_21 hout (by decide) (Nat.le_of_ble_eq_true rfl) (by decide) (by decide) hlocks (xw_xP h (by decide) hP hS) hS.2.2 (by decide) (by decide)
  · replace h := sw_f h cc
    refine lv_iload_n hx hb dX5_pass_5 rfl (lv_at hl 1 rfl) ?_
    refine lv_bipush (v := 100) hx hb dX5_pass_6 (by decide) ?_
    refine lv_icmp_le (tgt := 22) hx hb dX5_pass_8 (by decide) (fun cc => ?_) (fun cc => ?_)
    · replace h := sw_t h cc
      refine lv_aload_n hx hb dX5_pass_22 rfl (lv_at hl 0 rfl) ?_
      refine xw_getO hx hb hts hin5 hown hK hP 11 (by decide) f225 rfl dX5_pass_23 ?_
      refine lv_iload_n hx hb dX5_pass_26 rfl (lv_at hl 1 rfl) ?_
      refine lv_iadd hx hb dX5_pass_27 ?_
      refine lv_sipush (v := 999) hx hb dX5_pass_28 (by decide) ?_
      refine lv_icmp_le (tgt := 45) hx hb dX5_pass_31 (by decide) (fun cc => ?_) (fun cc => ?_)
      · replace h := sw_t h cc
        refine lv_aload_n hx hb dX5_pass_45 rfl (lv_at hl 0 rfl) ?_
        refine lv_dup hx hb dX5_pass_46 rfl ?_
        refine xw_getO hx hb hts hin5 hown hK hP 11 (by decide) f225 rfl dX5_pass_47 ?_
        refine lv_iload_n hx hb dX5_pass_50 rfl (lv_at hl 1 rfl) ?_
        refine lv_iadd hx hb dX5_pass_51 ?_
        obtain ⟨u52, eu52, h⟩ := swlt_s h
        refine xw_putO hx hb hts hin5 hown hK hJ xw_A1 hP hS 11 (by decide) f225 eu52 dX5_pass_52 (fun H locs hP hS => ?_)
        refine lv_aload_n hx hb dX5_pass_55 rfl (lv_at hl 0 rfl) ?_
        refine xw_getO hx hb hts hin5 hown hK hP 11 (by decide) f225 rfl dX5_pass_56 ?_
        refine W.widen (k := 1) (n := 6) (Nat.le_of_ble_eq_true rfl) (Nat.le_of_ble_eq_true rfl) ?_
        exact vx_ret (W.iret hx hb hr (fun t ht hW => ⟨⟨_, (), rfl, ⟨(sw_inj3 h).1.symm, (sw_inj3 h).2.1⟩, xw_end hP ht (sw_inj3 h).2.2⟩, hS.F ht⟩) hS.2.2 dX5_pass_59 hlocks)
      · replace h := sw_f h cc
        exact xw_thr3W (text := "the day would be above 999") hx hb hst hts hm63 hown fk59 fi3 hX (by decide +kernel) hS (xw_hAP hsz) (hl.1.trans hml.symm) dX5_pass_34 dX5_pass_37 dX5_pass_38 dX5_pass_41 dX5_pass_44 hout (by decide) (Nat.le_of_ble_eq_true rfl) (by decide) (by decide) hlocks (xw_xP h (by decide) hP hS) hS.2.2 (by decide) (by decide)
    · replace h := sw_f h cc
      exact xw_thr2W (text := "days is out of range") hx hb hst hts hm110 hown fk106 fi2 hX (by decide +kernel) hS (xw_hAP hsz) (hl.1.trans hml.symm) dX5_pass_11 dX5_pass_14 dX5_pass_15 dX5_pass_18 dX5_pass_21 hout (by decide) (Nat.le_of_ble_eq_true rfl) (by decide) (by decide) hlocks (xw_xP h (by decide) hP hS) hS.2.2 (by decide) (by decide)
