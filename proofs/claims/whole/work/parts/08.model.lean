/-! thrown -/
def mx_thrown (u : swU) : Option (Int32) :=
  some (u.1 0 0)

abbrev rmX6_thrown : Room := { frames := 0, cells := 0, slots := 0, locals := 0 }

set_option maxHeartbeats 4000000 in
set_option maxRecDepth 100000 in
theorem mm_thrown (l : Launch) (D : va_G) (cy : Nat → ClassId) (ad : Nat → Nat) (u : swU) (r0 : Int32) (h : mx_thrown u = some r0) : Met l yX6_thrown wsX6_thrown rmX6_thrown (mwC D cy ad u [.ref (ad 0)]) (vp_Si (fun r : Int32 => r = r0)) 0 0 (fun _ => False) := by
  refine Met.ofW (cc := cX6_thrown) (maxL := 1) (ret := (some .int)) (by decide) rfl ?_
  intro p e s m args below meth c s₁ B hml hv
  obtain ⟨ha, hP, hK⟩ := hv
  have hx := B.exec
  have hb := B.bytes
  have hr := B.returns
  have hlocks := B.notSynchronized
  have hts := atoms_spec (ws := wsX6_thrown) B.pre
  have hown : s.vm.findClass RX6 = some m.cls := findClass_of_methodNamed B.named
  have hin : ∀ w ∈ wsX60, w ∈ wsX6_thrown := by decide +kernel
  have f78 : (Cond.fieldLink RX6 78 "SlidewardenModel" "thrown" "I").before args s = true := hts _ (by decide +kernel)
  obtain ⟨ls, hl, hent⟩ := sw_entry m (n := 1) ha (Nat.le_of_ble_eq_true rfl)
  rw [hent]
  have hl : lv_has ls 1 [(0, .ref (ad 0))] := hl
  unfold mx_thrown at h
  refine lv_aload_n hx hb dX6_thrown_0 rfl (lv_at hl 0 rfl) ?_
  refine mw_get hx hb hts hin hown hK hP 0 (by decide) f78 rfl dX6_thrown_1 ?_
  exact W.iret hx hb hr (fun t ht hW => ⟨_, rfl, sw_in1 h, ht⟩) (fun q hq => by cases hq) dX6_thrown_4 hlocks

/-! in -/
def mx_in (x0 : Int32) (x1 : Int32) (x2 : Int32) : Option (Bool) :=
  if x0 < x1 then (some false) else (if x2 < x0 then (some false) else (some true))

abbrev rmX6_in : Room := { frames := 0, cells := 0, slots := 0, locals := 0 }

set_option maxHeartbeats 4000000 in
set_option maxRecDepth 100000 in
theorem mm_in (l : Launch) (x0 : Int32) (x1 : Int32) (x2 : Int32) (r0 : Bool) (h : mx_in x0 x1 x2 = some r0) : Met l yX6_in wsX6_in rmX6_in (va_Pc [.int x0, .int x1, .int x2] (fun _ => True)) (vp_Si (fun r : Int32 => r = swB r0)) 0 0 (fun _ => False) := by
  refine Met.ofW (cc := cX6_in) (maxL := 3) (ret := (some .boolean)) (by decide) rfl ?_
  intro p e s m args below meth c s₁ B hml hv
  obtain ⟨ha, -⟩ := hv
  have hx := B.exec
  have hb := B.bytes
  have hr := B.returns
  have hlocks := B.notSynchronized
  have hts := atoms_spec (ws := wsX6_in) B.pre
  have hown : s.vm.findClass RX6 = some m.cls := findClass_of_methodNamed B.named
  obtain ⟨ls, hl, hent⟩ := sw_entry m (n := 3) ha (Nat.le_of_ble_eq_true rfl)
  rw [hent]
  have hl : lv_has ls 3 [(0, .int x0), (1, .int x1), (2, .int x2)] := hl
  unfold mx_in at h
  refine lv_iload_n hx hb dX6_in_0 rfl (lv_at hl 0 rfl) ?_
  refine lv_iload_n hx hb dX6_in_1 rfl (lv_at hl 1 rfl) ?_
  refine lv_icmp_lt (tgt := 14) hx hb dX6_in_2 (by decide) (fun cc => ?_) (fun cc => ?_)
  · replace h := sw_t h cc
    refine lv_iconst (v := 0) hx hb dX6_in_14 (by decide) ?_
    exact W.zret (ty := .boolean) hx hb hr rfl (fun t ht hW => ⟨_, rfl, congrArg swB (sw_in1 h), ht⟩) (fun q hq => by cases hq) dX6_in_15 hlocks
  · replace h := sw_f h cc
    refine lv_iload_n hx hb dX6_in_5 rfl (lv_at hl 0 rfl) ?_
    refine lv_iload_n hx hb dX6_in_6 rfl (lv_at hl 2 rfl) ?_
    refine lv_icmp_gt (tgt := 14) hx hb dX6_in_7 (by decide) (fun cc => ?_) (fun cc => ?_)
    · replace h := sw_t h cc
      refine lv_iconst (v := 0) hx hb dX6_in_14 (by decide) ?_
      exact W.zret (ty := .boolean) hx hb hr rfl (fun t ht hW => ⟨_, rfl, congrArg swB (sw_in1 h), ht⟩) (fun q hq => by cases hq) dX6_in_15 hlocks
    · replace h := sw_f h cc
      refine lv_iconst (v := 1) hx hb dX6_in_10 (by decide) ?_
      refine lv_goto (tgt := 15) hx hb dX6_in_11 (by decide) ?_
      exact W.zret (ty := .boolean) hx hb hr rfl (fun t ht hW => ⟨_, rfl, congrArg swB (sw_in1 h), ht⟩) (fun q hq => by cases hq) dX6_in_15 hlocks

/-! isVersion -/
def mx_isVersion (u : swU) (x1 : Int32) : Option (Bool) :=
  swbd (mx_in x1 0 (((u.1 0 1) - 1))) fun r8 => some r8

abbrev rmX6_isVersion : Room := { frames := 1, cells := 0, slots := 0, locals := 22 }

set_option maxHeartbeats 4000000 in
set_option maxRecDepth 100000 in
theorem mm_isVersion (l : Launch) (D : va_G) (cy : Nat → ClassId) (ad : Nat → Nat) (u : swU) (x1 : Int32) (r0 : Bool) (h : mx_isVersion u x1 = some r0) : Met l yX6_isVersion wsX6_isVersion rmX6_isVersion (mwC D cy ad u [.ref (ad 0), .int x1]) (vp_Si (fun r : Int32 => r = swB r0)) 0 0 (fun _ => False) := by
  refine Met.ofW (cc := cX6_isVersion) (maxL := 2) (ret := (some .boolean)) (by decide) rfl ?_
  intro p e s m args below meth c s₁ B hml hv
  obtain ⟨ha, hP, hK⟩ := hv
  have hx := B.exec
  have hb := B.bytes
  have hr := B.returns
  have hlocks := B.notSynchronized
  have hts := atoms_spec (ws := wsX6_isVersion) B.pre
  have hown : s.vm.findClass RX6 = some m.cls := findClass_of_methodNamed B.named
  have E : CallFix p m c cX6_isVersion 2 s args wsX6_isVersion RX6 := ⟨hx, hb, hml, hown, hts⟩
  have hin : ∀ w ∈ wsX60, w ∈ wsX6_isVersion := by decide +kernel
  have f7 : (Cond.fieldLink RX6 7 "SlidewardenModel" "versions" "I").before args s = true := hts _ (by decide +kernel)
  obtain ⟨ls, hl, hent⟩ := sw_entry m (n := 2) ha (Nat.le_of_ble_eq_true rfl)
  rw [hent]
  have hl : lv_has ls 2 [(0, .ref (ad 0)), (1, .int x1)] := hl
  unfold mx_isVersion at h
  refine lv_iload_n hx hb dX6_isVersion_0 rfl (lv_at hl 1 rfl) ?_
  refine lv_iconst (v := 0) hx hb dX6_isVersion_1 (by decide) ?_
  refine lv_aload_n hx hb dX6_isVersion_2 rfl (lv_at hl 0 rfl) ?_
  refine mw_get hx hb hts hin hown hK hP 1 (by decide) f7 rfl dX6_isVersion_3 ?_
  refine lv_iconst (v := 1) hx hb dX6_isVersion_6 (by decide) ?_
  refine lv_isub hx hb dX6_isVersion_7 ?_
  obtain ⟨r8, er8, h⟩ := swbd_s h
  refine sw_callSi (As := [.int x1, .int 0, .int (((u.1 0 1) - 1))]) (rest := []) E (mm_in l x1 0 (((u.1 0 1) - 1)) _ er8) (va_cwS 3 hts gX6_isVersion_X6_in rfl rfl rfl (by decide +kernel) ⟨Nat.le_of_ble_eq_true rfl, Nat.le_of_ble_eq_true rfl⟩) rfl hl.1 rfl (Nat.le_of_ble_eq_true rfl) dX6_isVersion_8 ?_
  exact W.zret (ty := .boolean) hx hb hr (swB_nar _) (fun t ht hW => ⟨_, rfl, congrArg swB (sw_in1 h), ht⟩) (fun q hq => by cases hq) dX6_isVersion_11 hlocks

/-! isBranch -/
def mx_isBranch (u : swU) (x1 : Int32) : Option (Bool) :=
  swbd (mx_in x1 0 (((u.1 0 9) - 1))) fun r8 => some r8

abbrev rmX6_isBranch : Room := { frames := 1, cells := 0, slots := 0, locals := 22 }

set_option maxHeartbeats 4000000 in
set_option maxRecDepth 100000 in
theorem mm_isBranch (l : Launch) (D : va_G) (cy : Nat → ClassId) (ad : Nat → Nat) (u : swU) (x1 : Int32) (r0 : Bool) (h : mx_isBranch u x1 = some r0) : Met l yX6_isBranch wsX6_isBranch rmX6_isBranch (mwC D cy ad u [.ref (ad 0), .int x1]) (vp_Si (fun r : Int32 => r = swB r0)) 0 0 (fun _ => False) := by
  refine Met.ofW (cc := cX6_isBranch) (maxL := 2) (ret := (some .boolean)) (by decide) rfl ?_
  intro p e s m args below meth c s₁ B hml hv
  obtain ⟨ha, hP, hK⟩ := hv
  have hx := B.exec
  have hb := B.bytes
  have hr := B.returns
  have hlocks := B.notSynchronized
  have hts := atoms_spec (ws := wsX6_isBranch) B.pre
  have hown : s.vm.findClass RX6 = some m.cls := findClass_of_methodNamed B.named
  have E : CallFix p m c cX6_isBranch 2 s args wsX6_isBranch RX6 := ⟨hx, hb, hml, hown, hts⟩
  have hin : ∀ w ∈ wsX60, w ∈ wsX6_isBranch := by decide +kernel
  have f32 : (Cond.fieldLink RX6 32 "SlidewardenModel" "branches" "I").before args s = true := hts _ (by decide +kernel)
  obtain ⟨ls, hl, hent⟩ := sw_entry m (n := 2) ha (Nat.le_of_ble_eq_true rfl)
  rw [hent]
  have hl : lv_has ls 2 [(0, .ref (ad 0)), (1, .int x1)] := hl
  unfold mx_isBranch at h
  refine lv_iload_n hx hb dX6_isBranch_0 rfl (lv_at hl 1 rfl) ?_
  refine lv_iconst (v := 0) hx hb dX6_isBranch_1 (by decide) ?_
  refine lv_aload_n hx hb dX6_isBranch_2 rfl (lv_at hl 0 rfl) ?_
  refine mw_get hx hb hts hin hown hK hP 9 (by decide) f32 rfl dX6_isBranch_3 ?_
  refine lv_iconst (v := 1) hx hb dX6_isBranch_6 (by decide) ?_
  refine lv_isub hx hb dX6_isBranch_7 ?_
  obtain ⟨r8, er8, h⟩ := swbd_s h
  refine sw_callSi (As := [.int x1, .int 0, .int (((u.1 0 9) - 1))]) (rest := []) E (mm_in l x1 0 (((u.1 0 9) - 1)) _ er8) (va_cwS 3 hts gX6_isBranch_X6_in rfl rfl rfl (by decide +kernel) ⟨Nat.le_of_ble_eq_true rfl, Nat.le_of_ble_eq_true rfl⟩) rfl hl.1 rfl (Nat.le_of_ble_eq_true rfl) dX6_isBranch_8 ?_
  exact W.zret (ty := .boolean) hx hb hr (swB_nar _) (fun t ht hW => ⟨_, rfl, congrArg swB (sw_in1 h), ht⟩) (fun q hq => by cases hq) dX6_isBranch_11 hlocks

/-! isObject -/
def mx_isObject (x0 : Int32) : Option (Bool) :=
  swbd (mx_in x0 0 3) fun r3 => some r3

abbrev rmX6_isObject : Room := { frames := 1, cells := 0, slots := 0, locals := 22 }

set_option maxHeartbeats 4000000 in
set_option maxRecDepth 100000 in
theorem mm_isObject (l : Launch) (x0 : Int32) (r0 : Bool) (h : mx_isObject x0 = some r0) : Met l yX6_isObject wsX6_isObject rmX6_isObject (va_Pc [.int x0] (fun _ => True)) (vp_Si (fun r : Int32 => r = swB r0)) 0 0 (fun _ => False) := by
  refine Met.ofW (cc := cX6_isObject) (maxL := 1) (ret := (some .boolean)) (by decide) rfl ?_
  intro p e s m args below meth c s₁ B hml hv
  obtain ⟨ha, -⟩ := hv
  have hx := B.exec
  have hb := B.bytes
  have hr := B.returns
  have hlocks := B.notSynchronized
  have hts := atoms_spec (ws := wsX6_isObject) B.pre
  have hown : s.vm.findClass RX6 = some m.cls := findClass_of_methodNamed B.named
  have E : CallFix p m c cX6_isObject 1 s args wsX6_isObject RX6 := ⟨hx, hb, hml, hown, hts⟩
  obtain ⟨ls, hl, hent⟩ := sw_entry m (n := 1) ha (Nat.le_of_ble_eq_true rfl)
  rw [hent]
  have hl : lv_has ls 1 [(0, .int x0)] := hl
  unfold mx_isObject at h
  refine lv_iload_n hx hb dX6_isObject_0 rfl (lv_at hl 0 rfl) ?_
  refine lv_iconst (v := 0) hx hb dX6_isObject_1 (by decide) ?_
  refine lv_iconst (v := 3) hx hb dX6_isObject_2 (by decide) ?_
  obtain ⟨r3, er3, h⟩ := swbd_s h
  refine sw_callSi (As := [.int x0, .int 0, .int 3]) (rest := []) E (mm_in l x0 0 3 _ er3) (va_cwS 3 hts gX6_isObject_X6_in rfl rfl rfl (by decide +kernel) ⟨Nat.le_of_ble_eq_true rfl, Nat.le_of_ble_eq_true rfl⟩) rfl hl.1 rfl (Nat.le_of_ble_eq_true rfl) dX6_isObject_3 ?_
  exact W.zret (ty := .boolean) hx hb hr (swB_nar _) (fun t ht hW => ⟨_, rfl, congrArg swB (sw_in1 h), ht⟩) (fun q hq => by cases hq) dX6_isObject_6 hlocks

/-! placeOf -/
def mx_placeOf_L2 (u : swU) (x1 : Int32) (x2 : Int32) (kk : Int32 → Option (Int32)) : Nat → Int32 → Option (Int32)
  | 0, _ => none
  | n + 1, v3 => swrd 40 (u.1 5) x1 fun a8 => if a8 ≤ v3 then (kk v3) else (swrd 320 (u.1 6) (((8 * x1) + v3)) fun a22 => if a22 = x2 then (some v3) else (mx_placeOf_L2 u x1 x2 kk n (v3 + 1)))

def mx_placeOf (u : swU) (x1 : Int32) (x2 : Int32) : Option (Int32) :=
  mx_placeOf_L2 u x1 x2 (fun v3 => some (-1)) 64 0

abbrev rmX6_placeOf : Room := { frames := 0, cells := 0, slots := 0, locals := 0 }

set_option maxHeartbeats 4000000 in
set_option maxRecDepth 100000 in
theorem mm_placeOf (l : Launch) (D : va_G) (cy : Nat → ClassId) (ad : Nat → Nat) (u : swU) (x1 : Int32) (x2 : Int32) (r0 : Int32) (h : mx_placeOf u x1 x2 = some r0) : Met l yX6_placeOf wsX6_placeOf rmX6_placeOf (mwC D cy ad u [.ref (ad 0), .int x1, .int x2]) (vp_Si (fun r : Int32 => r = r0)) 0 0 (fun _ => False) := by
  refine Met.ofW (cc := cX6_placeOf) (maxL := 4) (ret := (some .int)) (by decide) rfl ?_
  intro p e s m args below meth c s₁ B hml hv
  obtain ⟨ha, hP, hK⟩ := hv
  have hx := B.exec
  have hb := B.bytes
  have hr := B.returns
  have hlocks := B.notSynchronized
  have hts := atoms_spec (ws := wsX6_placeOf) B.pre
  have hown : s.vm.findClass RX6 = some m.cls := findClass_of_methodNamed B.named
  have hin : ∀ w ∈ wsX60, w ∈ wsX6_placeOf := by decide +kernel
  have f23 : (Cond.fieldLink RX6 23 "SlidewardenModel" "many" "[I").before args s = true := hts _ (by decide +kernel)
  have f26 : (Cond.fieldLink RX6 26 "SlidewardenModel" "row" "[I").before args s = true := hts _ (by decide +kernel)
  obtain ⟨ls, hl, hent⟩ := sw_entry m (n := 4) ha (Nat.le_of_ble_eq_true rfl)
  rw [hent]
  have hl : lv_has ls 4 [(0, .ref (ad 0)), (1, .int x1), (2, .int x2)] := hl
  unfold mx_placeOf at h
  refine lv_iconst (v := 0) hx hb dX6_placeOf_0 (by decide) ?_
  refine lv_istore_n (lv' := [(3, .int 0), (0, .ref (ad 0)), (1, .int x1), (2, .int x2)]) hx hb dX6_placeOf_1 rfl hl (by decide) rfl (fun ls hl => ?_)
  have L2 : ∀ (kk : Int32 → Option (Int32)), (∀ (v3 : Int32) (ls : Array Slot), kk v3 = some r0 → lv_has ls 4 [(0, .ref (ad 0)), (1, .int x1), (2, .int x2), (3, .int v3)] → W p l e (headSpec wsX6_placeOf rmX6_placeOf).room s m args below meth c s.heap [] 0 0 (MQ below (vp_Si (fun r : Int32 => r = r0)) args s 0 0 (fun _ => False)) (F0 m 35 ls [])) → ∀ (n : Nat) (v3 : Int32) (ls : Array Slot), mx_placeOf_L2 u x1 x2 kk n v3 = some r0 → lv_has ls 4 [(0, .ref (ad 0)), (1, .int x1), (2, .int x2), (3, .int v3)] → W p l e (headSpec wsX6_placeOf rmX6_placeOf).room s m args below meth c s.heap [] 0 0 (MQ below (vp_Si (fun r : Int32 => r = r0)) args s 0 0 (fun _ => False)) (F0 m 2 ls []) := by
    intro kk hk2 n
    induction n with
    | zero => intro v3 ls h hl; rw [mx_placeOf_L2] at h; cases h
    | succ n ih2 =>
      intro v3 ls h hl
      rw [mx_placeOf_L2] at h
      refine lv_iload_n hx hb dX6_placeOf_2 rfl (lv_at hl 3 rfl) ?_
      refine lv_aload_n hx hb dX6_placeOf_3 rfl (lv_at hl 0 rfl) ?_
      refine mw_get hx hb hts hin hown hK hP 5 (by decide) f23 rfl dX6_placeOf_4 ?_
      refine lv_iload_n hx hb dX6_placeOf_7 rfl (lv_at hl 1 rfl) ?_
      obtain ⟨a8, ea8, ia8, h⟩ := swrd_s h
      refine mw_ald hx hb hK hP 5 40 rfl rfl ia8 dX6_placeOf_8 ea8 ?_
      refine lv_icmp_ge (tgt := 35) hx hb dX6_placeOf_9 (by decide) (fun cc => ?_) (fun cc => ?_)
      · replace h := sw_t h cc
        exact hk2 _ _ h (lv_sub hl [0, 1, 2, 3] rfl)
      · replace h := sw_f h cc
        refine lv_aload_n hx hb dX6_placeOf_12 rfl (lv_at hl 0 rfl) ?_
        refine mw_get hx hb hts hin hown hK hP 6 (by decide) f26 rfl dX6_placeOf_13 ?_
        refine lv_bipush (v := 8) hx hb dX6_placeOf_16 (by decide) ?_
        refine lv_iload_n hx hb dX6_placeOf_18 rfl (lv_at hl 1 rfl) ?_
        refine lv_imul hx hb dX6_placeOf_19 ?_
        refine lv_iload_n hx hb dX6_placeOf_20 rfl (lv_at hl 3 rfl) ?_
        refine lv_iadd hx hb dX6_placeOf_21 ?_
        obtain ⟨a22, ea22, ia22, h⟩ := swrd_s h
        refine mw_ald hx hb hK hP 6 320 rfl rfl ia22 dX6_placeOf_22 ea22 ?_
        refine lv_iload_n hx hb dX6_placeOf_23 rfl (lv_at hl 2 rfl) ?_
        refine lv_icmp_ne (tgt := 29) hx hb dX6_placeOf_24 (by decide) (fun cc => ?_) (fun cc => ?_)
        · replace h := sw_f h cc
          refine lv_iinc (v := (v3 + 1)) (lv' := [(3, .int (v3 + 1)), (0, .ref (ad 0)), (1, .int x1), (2, .int x2)]) hx hb dX6_placeOf_29 hl (k := 3) rfl rfl (by decide) rfl (fun ls hl => ?_)
          refine lv_goto (tgt := 2) hx hb dX6_placeOf_32 (by decide) ?_
          exact ih2 _ _ h (lv_sub hl [1, 2, 3, 0] rfl)
        · replace h := sw_t h cc
          refine lv_iload_n hx hb dX6_placeOf_27 rfl (lv_at hl 3 rfl) ?_
          exact W.iret hx hb hr (fun t ht hW => ⟨_, rfl, sw_in1 h, ht⟩) (fun q hq => by cases hq) dX6_placeOf_28 hlocks
  refine L2 _ (fun v3 ls h hl => ?_) 64 _ _ h (lv_sub hl [1, 2, 3, 0] rfl)
  refine lv_iconst (v := (-1)) hx hb dX6_placeOf_35 (by decide) ?_
  exact W.iret hx hb hr (fun t ht hW => ⟨_, rfl, sw_in1 h, ht⟩) (fun q hq => by cases hq) dX6_placeOf_36 hlocks

/-! valueOf -/
def mx_valueOf (u : swU) (x1 : Int32) (x2 : Int32) (x3 : Int32) : Option (Int32) :=
  swbd (mx_placeOf u x1 x2) fun r12 => swrd 1280 (u.1 7) (((4 * ((8 * x1) + r12)) + x3)) fun a19 => some a19

abbrev rmX6_valueOf : Room := { frames := 1, cells := 0, slots := 0, locals := 23 }

set_option maxHeartbeats 4000000 in
set_option maxRecDepth 100000 in
theorem mm_valueOf (l : Launch) (D : va_G) (cy : Nat → ClassId) (ad : Nat → Nat) (u : swU) (x1 : Int32) (x2 : Int32) (x3 : Int32) (r0 : Int32) (h : mx_valueOf u x1 x2 x3 = some r0) : Met l yX6_valueOf wsX6_valueOf rmX6_valueOf (mwC D cy ad u [.ref (ad 0), .int x1, .int x2, .int x3]) (vp_Si (fun r : Int32 => r = r0)) 0 0 (fun _ => False) := by
  refine Met.ofW (cc := cX6_valueOf) (maxL := 4) (ret := (some .int)) (by decide) rfl ?_
  intro p e s m args below meth c s₁ B hml hv
  obtain ⟨ha, hP, hK⟩ := hv
  have hx := B.exec
  have hb := B.bytes
  have hr := B.returns
  have hlocks := B.notSynchronized
  have hts := atoms_spec (ws := wsX6_valueOf) B.pre
  have hown : s.vm.findClass RX6 = some m.cls := findClass_of_methodNamed B.named
  have E : CallFix p m c cX6_valueOf 4 s args wsX6_valueOf RX6 := ⟨hx, hb, hml, hown, hts⟩
  have hin : ∀ w ∈ wsX60, w ∈ wsX6_valueOf := by decide +kernel
  have f29 : (Cond.fieldLink RX6 29 "SlidewardenModel" "value" "[I").before args s = true := hts _ (by decide +kernel)
  obtain ⟨ls, hl, hent⟩ := sw_entry m (n := 4) ha (Nat.le_of_ble_eq_true rfl)
  rw [hent]
  have hl : lv_has ls 4 [(0, .ref (ad 0)), (1, .int x1), (2, .int x2), (3, .int x3)] := hl
  unfold mx_valueOf at h
  refine lv_aload_n hx hb dX6_valueOf_0 rfl (lv_at hl 0 rfl) ?_
  refine mw_get hx hb hts hin hown hK hP 7 (by decide) f29 rfl dX6_valueOf_1 ?_
  refine lv_iconst (v := 4) hx hb dX6_valueOf_4 (by decide) ?_
  refine lv_bipush (v := 8) hx hb dX6_valueOf_5 (by decide) ?_
  refine lv_iload_n hx hb dX6_valueOf_7 rfl (lv_at hl 1 rfl) ?_
  refine lv_imul hx hb dX6_valueOf_8 ?_
  refine lv_aload_n hx hb dX6_valueOf_9 rfl (lv_at hl 0 rfl) ?_
  refine lv_iload_n hx hb dX6_valueOf_10 rfl (lv_at hl 1 rfl) ?_
  refine lv_iload_n hx hb dX6_valueOf_11 rfl (lv_at hl 2 rfl) ?_
  obtain ⟨r12, er12, h⟩ := swbd_s h
  refine mw_calli (As := [.int x1, .int x2]) (rest := [.int (8 * x1), .int 4, .ref (ad 7)]) E (mm_placeOf l D cy ad u x1 x2 _ er12) (cwV 2 hts gX6_valueOf_X6_placeOf rfl rfl rfl (by decide +kernel) ⟨Nat.le_of_ble_eq_true rfl, Nat.le_of_ble_eq_true rfl⟩) hK hP rfl hl.1 rfl (Nat.le_of_ble_eq_true rfl) dX6_valueOf_12 ?_
  refine lv_iadd hx hb dX6_valueOf_15 ?_
  refine lv_imul hx hb dX6_valueOf_16 ?_
  refine lv_iload_n hx hb dX6_valueOf_17 rfl (lv_at hl 3 rfl) ?_
  refine lv_iadd hx hb dX6_valueOf_18 ?_
  obtain ⟨a19, ea19, ia19, h⟩ := swrd_s h
  refine mw_ald hx hb hK hP 7 1280 rfl rfl ia19 dX6_valueOf_19 ea19 ?_
  exact W.iret hx hb hr (fun t ht hW => ⟨_, rfl, sw_in1 h, ht⟩) (fun q hq => by cases hq) dX6_valueOf_20 hlocks

/-! isInHead -/
def mx_isInHead (u : swU) (x1 : Int32) (x2 : Int32) : Option (Bool) :=
  swbd (mx_isBranch u x1) fun r2 => if (swB r2) = 0 then (some false) else (swrd 6 (u.1 10) x1 fun a14 => swbd (mx_placeOf u a14 x2) fun r16 => if r16 = (-1) then (some false) else (some true))

abbrev rmX6_isInHead : Room := { frames := 2, cells := 0, slots := 0, locals := 43 }

set_option maxHeartbeats 4000000 in
set_option maxRecDepth 100000 in
theorem mm_isInHead (l : Launch) (D : va_G) (cy : Nat → ClassId) (ad : Nat → Nat) (u : swU) (x1 : Int32) (x2 : Int32) (r0 : Bool) (h : mx_isInHead u x1 x2 = some r0) : Met l yX6_isInHead wsX6_isInHead rmX6_isInHead (mwC D cy ad u [.ref (ad 0), .int x1, .int x2]) (vp_Si (fun r : Int32 => r = swB r0)) 0 0 (fun _ => False) := by
  refine Met.ofW (cc := cX6_isInHead) (maxL := 3) (ret := (some .boolean)) (by decide) rfl ?_
  intro p e s m args below meth c s₁ B hml hv
  obtain ⟨ha, hP, hK⟩ := hv
  have hx := B.exec
  have hb := B.bytes
  have hr := B.returns
  have hlocks := B.notSynchronized
  have hts := atoms_spec (ws := wsX6_isInHead) B.pre
  have hown : s.vm.findClass RX6 = some m.cls := findClass_of_methodNamed B.named
  have E : CallFix p m c cX6_isInHead 3 s args wsX6_isInHead RX6 := ⟨hx, hb, hml, hown, hts⟩
  have hin : ∀ w ∈ wsX60, w ∈ wsX6_isInHead := by decide +kernel
  have f35 : (Cond.fieldLink RX6 35 "SlidewardenModel" "head" "[I").before args s = true := hts _ (by decide +kernel)
  obtain ⟨ls, hl, hent⟩ := sw_entry m (n := 3) ha (Nat.le_of_ble_eq_true rfl)
  rw [hent]
  have hl : lv_has ls 3 [(0, .ref (ad 0)), (1, .int x1), (2, .int x2)] := hl
  unfold mx_isInHead at h
  refine lv_aload_n hx hb dX6_isInHead_0 rfl (lv_at hl 0 rfl) ?_
  refine lv_iload_n hx hb dX6_isInHead_1 rfl (lv_at hl 1 rfl) ?_
  obtain ⟨r2, er2, h⟩ := swbd_s h
  refine mw_calli (As := [.int x1]) (rest := []) E (mm_isBranch l D cy ad u x1 _ er2) (cwV 1 hts gX6_isInHead_X6_isBranch rfl rfl rfl (by decide +kernel) ⟨Nat.le_of_ble_eq_true rfl, Nat.le_of_ble_eq_true rfl⟩) hK hP rfl hl.1 rfl (Nat.le_of_ble_eq_true rfl) dX6_isInHead_2 ?_
  refine lv_if_eq (tgt := 27) hx hb dX6_isInHead_5 (by decide) (fun cc => ?_) (fun cc => ?_)
  · replace h := sw_t h cc
    refine lv_iconst (v := 0) hx hb dX6_isInHead_27 (by decide) ?_
    exact W.zret (ty := .boolean) hx hb hr rfl (fun t ht hW => ⟨_, rfl, congrArg swB (sw_in1 h), ht⟩) (fun q hq => by cases hq) dX6_isInHead_28 hlocks
  · replace h := sw_f h cc
    refine lv_aload_n hx hb dX6_isInHead_8 rfl (lv_at hl 0 rfl) ?_
    refine lv_aload_n hx hb dX6_isInHead_9 rfl (lv_at hl 0 rfl) ?_
    refine mw_get hx hb hts hin hown hK hP 10 (by decide) f35 rfl dX6_isInHead_10 ?_
    refine lv_iload_n hx hb dX6_isInHead_13 rfl (lv_at hl 1 rfl) ?_
    obtain ⟨a14, ea14, ia14, h⟩ := swrd_s h
    refine mw_ald hx hb hK hP 10 6 rfl rfl ia14 dX6_isInHead_14 ea14 ?_
    refine lv_iload_n hx hb dX6_isInHead_15 rfl (lv_at hl 2 rfl) ?_
    obtain ⟨r16, er16, h⟩ := swbd_s h
    refine mw_calli (As := [.int a14, .int x2]) (rest := []) E (mm_placeOf l D cy ad u a14 x2 _ er16) (cwV 2 hts gX6_isInHead_X6_placeOf rfl rfl rfl (by decide +kernel) ⟨Nat.le_of_ble_eq_true rfl, Nat.le_of_ble_eq_true rfl⟩) hK hP rfl hl.1 rfl (Nat.le_of_ble_eq_true rfl) dX6_isInHead_16 ?_
    refine lv_iconst (v := (-1)) hx hb dX6_isInHead_19 (by decide) ?_
    refine lv_icmp_eq (tgt := 27) hx hb dX6_isInHead_20 (by decide) (fun cc => ?_) (fun cc => ?_)
    · replace h := sw_t h cc
      refine lv_iconst (v := 0) hx hb dX6_isInHead_27 (by decide) ?_
      exact W.zret (ty := .boolean) hx hb hr rfl (fun t ht hW => ⟨_, rfl, congrArg swB (sw_in1 h), ht⟩) (fun q hq => by cases hq) dX6_isInHead_28 hlocks
    · replace h := sw_f h cc
      refine lv_iconst (v := 1) hx hb dX6_isInHead_23 (by decide) ?_
      refine lv_goto (tgt := 28) hx hb dX6_isInHead_24 (by decide) ?_
      exact W.zret (ty := .boolean) hx hb hr rfl (fun t ht hW => ⟨_, rfl, congrArg swB (sw_in1 h), ht⟩) (fun q hq => by cases hq) dX6_isInHead_28 hlocks

/-! isSlide -/
def mx_isSlide (u : swU) (x1 : Int32) : Option (Bool) :=
  swbd (mx_in x1 0 (((u.1 0 8) - 1))) fun r8 => some r8

abbrev rmX6_isSlide : Room := { frames := 1, cells := 0, slots := 0, locals := 22 }

set_option maxHeartbeats 4000000 in
set_option maxRecDepth 100000 in
theorem mm_isSlide (l : Launch) (D : va_G) (cy : Nat → ClassId) (ad : Nat → Nat) (u : swU) (x1 : Int32) (r0 : Bool) (h : mx_isSlide u x1 = some r0) : Met l yX6_isSlide wsX6_isSlide rmX6_isSlide (mwC D cy ad u [.ref (ad 0), .int x1]) (vp_Si (fun r : Int32 => r = swB r0)) 0 0 (fun _ => False) := by
  refine Met.ofW (cc := cX6_isSlide) (maxL := 2) (ret := (some .boolean)) (by decide) rfl ?_
  intro p e s m args below meth c s₁ B hml hv
  obtain ⟨ha, hP, hK⟩ := hv
  have hx := B.exec
  have hb := B.bytes
  have hr := B.returns
  have hlocks := B.notSynchronized
  have hts := atoms_spec (ws := wsX6_isSlide) B.pre
  have hown : s.vm.findClass RX6 = some m.cls := findClass_of_methodNamed B.named
  have E : CallFix p m c cX6_isSlide 2 s args wsX6_isSlide RX6 := ⟨hx, hb, hml, hown, hts⟩
  have hin : ∀ w ∈ wsX60, w ∈ wsX6_isSlide := by decide +kernel
  have f96 : (Cond.fieldLink RX6 96 "SlidewardenModel" "slides" "I").before args s = true := hts _ (by decide +kernel)
  obtain ⟨ls, hl, hent⟩ := sw_entry m (n := 2) ha (Nat.le_of_ble_eq_true rfl)
  rw [hent]
  have hl : lv_has ls 2 [(0, .ref (ad 0)), (1, .int x1)] := hl
  unfold mx_isSlide at h
  refine lv_iload_n hx hb dX6_isSlide_0 rfl (lv_at hl 1 rfl) ?_
  refine lv_iconst (v := 0) hx hb dX6_isSlide_1 (by decide) ?_
  refine lv_aload_n hx hb dX6_isSlide_2 rfl (lv_at hl 0 rfl) ?_
  refine mw_get hx hb hts hin hown hK hP 8 (by decide) f96 rfl dX6_isSlide_3 ?_
  refine lv_iconst (v := 1) hx hb dX6_isSlide_6 (by decide) ?_
  refine lv_isub hx hb dX6_isSlide_7 ?_
  obtain ⟨r8, er8, h⟩ := swbd_s h
  refine sw_callSi (As := [.int x1, .int 0, .int (((u.1 0 8) - 1))]) (rest := []) E (mm_in l x1 0 (((u.1 0 8) - 1)) _ er8) (va_cwS 3 hts gX6_isSlide_X6_in rfl rfl rfl (by decide +kernel) ⟨Nat.le_of_ble_eq_true rfl, Nat.le_of_ble_eq_true rfl⟩) rfl hl.1 rfl (Nat.le_of_ble_eq_true rfl) dX6_isSlide_8 ?_
  exact W.zret (ty := .boolean) hx hb hr (swB_nar _) (fun t ht hW => ⟨_, rfl, congrArg swB (sw_in1 h), ht⟩) (fun q hq => by cases hq) dX6_isSlide_11 hlocks

/-! isAs -/
def mx_isAs_L6 (u : swU) (x1 : Int32) (x2 : Int32) (x3 : Int32) (kk : Bool → Int32 → Option (Bool)) : Nat → Bool → Int32 → Option (Bool)
  | 0, _, _ => none
  | n + 1, v4, v5 => if 4 ≤ v5 then (kk v4 v5) else (if (swB v4) = 0 then (mx_isAs_L6 u x1 x2 x3 kk n false (v5 + 1)) else (swbd (mx_valueOf u x1 x3 v5) fun r22 => swbd (mx_valueOf u x2 x3 v5) fun r30 => if r22 = r30 then (mx_isAs_L6 u x1 x2 x3 kk n true (v5 + 1)) else (mx_isAs_L6 u x1 x2 x3 kk n false (v5 + 1))))

def mx_isAs (u : swU) (x1 : Int32) (x2 : Int32) (x3 : Int32) : Option (Bool) :=
  mx_isAs_L6 u x1 x2 x3 (fun v4 v5 => some v4) 64 true 0

abbrev rmX6_isAs : Room := { frames := 2, cells := 0, slots := 0, locals := 46 }

set_option maxHeartbeats 4000000 in
set_option maxRecDepth 100000 in
theorem mm_isAs (l : Launch) (D : va_G) (cy : Nat → ClassId) (ad : Nat → Nat) (u : swU) (x1 : Int32) (x2 : Int32) (x3 : Int32) (r0 : Bool) (h : mx_isAs u x1 x2 x3 = some r0) : Met l yX6_isAs wsX6_isAs rmX6_isAs (mwC D cy ad u [.ref (ad 0), .int x1, .int x2, .int x3]) (vp_Si (fun r : Int32 => r = swB r0)) 0 0 (fun _ => False) := by
  refine Met.ofW (cc := cX6_isAs) (maxL := 6) (ret := (some .boolean)) (by decide) rfl ?_
  intro p e s m args below meth c s₁ B hml hv
  obtain ⟨ha, hP, hK⟩ := hv
  have hx := B.exec
  have hb := B.bytes
  have hr := B.returns
  have hlocks := B.notSynchronized
  have hts := atoms_spec (ws := wsX6_isAs) B.pre
  have hown : s.vm.findClass RX6 = some m.cls := findClass_of_methodNamed B.named
  have E : CallFix p m c cX6_isAs 6 s args wsX6_isAs RX6 := ⟨hx, hb, hml, hown, hts⟩
  obtain ⟨ls, hl, hent⟩ := sw_entry m (n := 6) ha (Nat.le_of_ble_eq_true rfl)
  rw [hent]
  have hl : lv_has ls 6 [(0, .ref (ad 0)), (1, .int x1), (2, .int x2), (3, .int x3)] := hl
  unfold mx_isAs at h
  refine lv_iconst (v := 1) hx hb dX6_isAs_0 (by decide) ?_
  refine lv_istore (lv' := [(4, .int 1), (0, .ref (ad 0)), (1, .int x1), (2, .int x2), (3, .int x3)]) hx hb dX6_isAs_1 hl (by decide) rfl (fun ls hl => ?_)
  refine lv_iconst (v := 0) hx hb dX6_isAs_3 (by decide) ?_
  refine lv_istore (lv' := [(5, .int 0), (4, .int 1), (0, .ref (ad 0)), (1, .int x1), (2, .int x2), (3, .int x3)]) hx hb dX6_isAs_4 hl (by decide) rfl (fun ls hl => ?_)
  have L6 : ∀ (kk : Bool → Int32 → Option (Bool)), (∀ (v4 : Bool) (v5 : Int32) (ls : Array Slot), kk v4 v5 = some r0 → lv_has ls 6 [(0, .ref (ad 0)), (1, .int x1), (2, .int x2), (3, .int x3), (4, .int (swB v4)), (5, .int v5)] → W p l e (headSpec wsX6_isAs rmX6_isAs).room s m args below meth c s.heap [] 0 0 (MQ below (vp_Si (fun r : Int32 => r = swB r0)) args s 0 0 (fun _ => False)) (F0 m 49 ls [])) → ∀ (n : Nat) (v4 : Bool) (v5 : Int32) (ls : Array Slot), mx_isAs_L6 u x1 x2 x3 kk n v4 v5 = some r0 → lv_has ls 6 [(0, .ref (ad 0)), (1, .int x1), (2, .int x2), (3, .int x3), (4, .int (swB v4)), (5, .int v5)] → W p l e (headSpec wsX6_isAs rmX6_isAs).room s m args below meth c s.heap [] 0 0 (MQ below (vp_Si (fun r : Int32 => r = swB r0)) args s 0 0 (fun _ => False)) (F0 m 6 ls []) := by
    intro kk hk6 n
    induction n with
    | zero => intro v4 v5 ls h hl; rw [mx_isAs_L6] at h; cases h
    | succ n ih6 =>
      intro v4 v5 ls h hl
      rw [mx_isAs_L6] at h
      refine lv_iload hx hb dX6_isAs_6 (lv_at hl 5 rfl) ?_
      refine lv_iconst (v := 4) hx hb dX6_isAs_8 (by decide) ?_
      refine lv_icmp_ge (tgt := 49) hx hb dX6_isAs_9 (by decide) (fun cc => ?_) (fun cc => ?_)
      · replace h := sw_t h cc
        exact hk6 _ _ _ h (lv_sub hl [0, 1, 2, 3, 4, 5] rfl)
      · replace h := sw_f h cc
        refine lv_iload hx hb dX6_isAs_12 (lv_at hl 4 rfl) ?_
        refine lv_if_eq (tgt := 40) hx hb dX6_isAs_14 (by decide) (fun cc => ?_) (fun cc => ?_)
        · replace h := sw_t h cc
          refine lv_iconst (v := 0) hx hb dX6_isAs_40 (by decide) ?_
          refine lv_istore (lv' := [(4, .int 0), (0, .ref (ad 0)), (1, .int x1), (2, .int x2), (3, .int x3), (5, .int v5)]) hx hb dX6_isAs_41 hl (by decide) rfl (fun ls hl => ?_)
          refine lv_iinc (v := (v5 + 1)) (lv' := [(5, .int (v5 + 1)), (4, .int 0), (0, .ref (ad 0)), (1, .int x1), (2, .int x2), (3, .int x3)]) hx hb dX6_isAs_43 hl (k := 5) rfl rfl (by decide) rfl (fun ls hl => ?_)
          refine lv_goto (tgt := 6) hx hb dX6_isAs_46 (by decide) ?_
          exact ih6 _ _ _ h (lv_sub hl [2, 3, 4, 5, 1, 0] rfl)
        · replace h := sw_f h cc
          refine lv_aload_n hx hb dX6_isAs_17 rfl (lv_at hl 0 rfl) ?_
          refine lv_iload_n hx hb dX6_isAs_18 rfl (lv_at hl 1 rfl) ?_
          refine lv_iload_n hx hb dX6_isAs_19 rfl (lv_at hl 3 rfl) ?_
          refine lv_iload hx hb dX6_isAs_20 (lv_at hl 5 rfl) ?_
          obtain ⟨r22, er22, h⟩ := swbd_s h
          refine mw_calli (As := [.int x1, .int x3, .int v5]) (rest := []) E (mm_valueOf l D cy ad u x1 x3 v5 _ er22) (cwV 3 hts gX6_isAs_X6_valueOf rfl rfl rfl (by decide +kernel) ⟨Nat.le_of_ble_eq_true rfl, Nat.le_of_ble_eq_true rfl⟩) hK hP rfl hl.1 rfl (Nat.le_of_ble_eq_true rfl) dX6_isAs_22 ?_
          refine lv_aload_n hx hb dX6_isAs_25 rfl (lv_at hl 0 rfl) ?_
          refine lv_iload_n hx hb dX6_isAs_26 rfl (lv_at hl 2 rfl) ?_
          refine lv_iload_n hx hb dX6_isAs_27 rfl (lv_at hl 3 rfl) ?_
          refine lv_iload hx hb dX6_isAs_28 (lv_at hl 5 rfl) ?_
          obtain ⟨r30, er30, h⟩ := swbd_s h
          refine mw_calli (As := [.int x2, .int x3, .int v5]) (rest := [.int r22]) E (mm_valueOf l D cy ad u x2 x3 v5 _ er30) (cwV 3 hts gX6_isAs_X6_valueOf rfl rfl rfl (by decide +kernel) ⟨Nat.le_of_ble_eq_true rfl, Nat.le_of_ble_eq_true rfl⟩) hK hP rfl hl.1 rfl (Nat.le_of_ble_eq_true rfl) dX6_isAs_30 ?_
          refine lv_icmp_ne (tgt := 40) hx hb dX6_isAs_33 (by decide) (fun cc => ?_) (fun cc => ?_)
          · replace h := sw_f h cc
            refine lv_iconst (v := 0) hx hb dX6_isAs_40 (by decide) ?_
            refine lv_istore (lv' := [(4, .int 0), (0, .ref (ad 0)), (1, .int x1), (2, .int x2), (3, .int x3), (5, .int v5)]) hx hb dX6_isAs_41 hl (by decide) rfl (fun ls hl => ?_)
            refine lv_iinc (v := (v5 + 1)) (lv' := [(5, .int (v5 + 1)), (4, .int 0), (0, .ref (ad 0)), (1, .int x1), (2, .int x2), (3, .int x3)]) hx hb dX6_isAs_43 hl (k := 5) rfl rfl (by decide) rfl (fun ls hl => ?_)
            refine lv_goto (tgt := 6) hx hb dX6_isAs_46 (by decide) ?_
            exact ih6 _ _ _ h (lv_sub hl [2, 3, 4, 5, 1, 0] rfl)
          · replace h := sw_t h cc
            refine lv_iconst (v := 1) hx hb dX6_isAs_36 (by decide) ?_
            refine lv_goto (tgt := 41) hx hb dX6_isAs_37 (by decide) ?_
            refine lv_istore (lv' := [(4, .int 1), (0, .ref (ad 0)), (1, .int x1), (2, .int x2), (3, .int x3), (5, .int v5)]) hx hb dX6_isAs_41 hl (by decide) rfl (fun ls hl => ?_)
            refine lv_iinc (v := (v5 + 1)) (lv' := [(5, .int (v5 + 1)), (4, .int 1), (0, .ref (ad 0)), (1, .int x1), (2, .int x2), (3, .int x3)]) hx hb dX6_isAs_43 hl (k := 5) rfl rfl (by decide) rfl (fun ls hl => ?_)
            refine lv_goto (tgt := 6) hx hb dX6_isAs_46 (by decide) ?_
            exact ih6 _ _ _ h (lv_sub hl [2, 3, 4, 5, 1, 0] rfl)
  refine L6 _ (fun v4 v5 ls h hl => ?_) 64 _ _ _ h (lv_sub hl [2, 3, 4, 5, 1, 0] rfl)
  refine lv_iload hx hb dX6_isAs_49 (lv_at hl 4 rfl) ?_
  exact W.zret (ty := .boolean) hx hb hr (swB_nar _) (fun t ht hW => ⟨_, rfl, congrArg swB (sw_in1 h), ht⟩) (fun q hq => by cases hq) dX6_isAs_51 hlocks

/-! fate -/
def mx_fate (u : swU) (x1 : Int32) (x2 : Int32) (x3 : Int32) (x4 : Int32) : Option (Int32) :=
  swbd (mx_placeOf u x2 x4) fun r4 => if r4 = (-1) then (swbd (mx_placeOf u x3 x4) fun r22 => if r22 = (-1) then (swbd (mx_placeOf u x1 x4) fun r40 => if r40 = (-1) then (some (-2)) else (some (-2))) else (swbd (mx_placeOf u x1 x4) fun r40 => if r40 = (-1) then (some 2) else (swbd (mx_isAs u x3 x1 x4) fun r118 => if (swB r118) = 0 then (some (-3)) else (some (-2))))) else (swbd (mx_placeOf u x3 x4) fun r22 => if r22 = (-1) then (swbd (mx_placeOf u x1 x4) fun r40 => if r40 = (-1) then (some 1) else (swbd (mx_isAs u x2 x1 x4) fun r118 => if (swB r118) = 0 then (some (-3)) else (some (-2)))) else (swbd (mx_placeOf u x1 x4) fun r40 => if r40 = (-1) then (some 3) else (some 4)))

abbrev rmX6_fate : Room := { frames := 3, cells := 0, slots := 0, locals := 71 }

set_option maxHeartbeats 4000000 in
set_option maxRecDepth 100000 in
theorem mm_fate (l : Launch) (D : va_G) (cy : Nat → ClassId) (ad : Nat → Nat) (u : swU) (x1 : Int32) (x2 : Int32) (x3 : Int32) (x4 : Int32) (r0 : Int32) (h : mx_fate u x1 x2 x3 x4 = some r0) : Met l yX6_fate wsX6_fate rmX6_fate (mwC D cy ad u [.ref (ad 0), .int x1, .int x2, .int x3, .int x4]) (vp_Si (fun r : Int32 => r = r0)) 0 0 (fun _ => False) := by
  refine Met.ofW (cc := cX6_fate) (maxL := 8) (ret := (some .int)) (by decide) rfl ?_
  intro p e s m args below meth c s₁ B hml hv
  obtain ⟨ha, hP, hK⟩ := hv
  have hx := B.exec
  have hb := B.bytes
  have hr := B.returns
  have hlocks := B.notSynchronized
  have hts := atoms_spec (ws := wsX6_fate) B.pre
  have hown : s.vm.findClass RX6 = some m.cls := findClass_of_methodNamed B.named
  have E : CallFix p m c cX6_fate 8 s args wsX6_fate RX6 := ⟨hx, hb, hml, hown, hts⟩
  obtain ⟨ls, hl, hent⟩ := sw_entry m (n := 8) ha (Nat.le_of_ble_eq_true rfl)
  rw [hent]
  have hl : lv_has ls 8 [(0, .ref (ad 0)), (1, .int x1), (2, .int x2), (3, .int x3), (4, .int x4)] := hl
  unfold mx_fate at h
  refine lv_aload_n hx hb dX6_fate_0 rfl (lv_at hl 0 rfl) ?_
  refine lv_iload_n hx hb dX6_fate_1 rfl (lv_at hl 2 rfl) ?_
  refine lv_iload hx hb dX6_fate_2 (lv_at hl 4 rfl) ?_
  obtain ⟨r4, er4, h⟩ := swbd_s h
  refine mw_calli (As := [.int x2, .int x4]) (rest := []) E (mm_placeOf l D cy ad u x2 x4 _ er4) (cwV 2 hts gX6_fate_X6_placeOf rfl rfl rfl (by decide +kernel) ⟨Nat.le_of_ble_eq_true rfl, Nat.le_of_ble_eq_true rfl⟩) hK hP rfl hl.1 rfl (Nat.le_of_ble_eq_true rfl) dX6_fate_4 ?_
  refine lv_iconst (v := (-1)) hx hb dX6_fate_7 (by decide) ?_
  refine lv_icmp_eq (tgt := 15) hx hb dX6_fate_8 (by decide) (fun cc => ?_) (fun cc => ?_)
  · replace h := sw_t h cc
    refine lv_iconst (v := 0) hx hb dX6_fate_15 (by decide) ?_
    refine lv_istore (lv' := [(5, .int 0), (0, .ref (ad 0)), (1, .int x1), (2, .int x2), (3, .int x3), (4, .int x4)]) hx hb dX6_fate_16 hl (by decide) rfl (fun ls hl => ?_)
    refine lv_aload_n hx hb dX6_fate_18 rfl (lv_at hl 1 rfl) ?_
    refine lv_iload_n hx hb dX6_fate_19 rfl (lv_at hl 4 rfl) ?_
    refine lv_iload hx hb dX6_fate_20 (lv_at hl 5 rfl) ?_
    obtain ⟨r22, er22, h⟩ := swbd_s h
    refine mw_calli (As := [.int x3, .int x4]) (rest := []) E (mm_placeOf l D cy ad u x3 x4 _ er22) (cwV 2 hts gX6_fate_X6_placeOf rfl rfl rfl (by decide +kernel) ⟨Nat.le_of_ble_eq_true rfl, Nat.le_of_ble_eq_true rfl⟩) hK hP rfl hl.1 rfl (Nat.le_of_ble_eq_true rfl) dX6_fate_22 ?_
    refine lv_iconst (v := (-1)) hx hb dX6_fate_25 (by decide) ?_
    refine lv_icmp_eq (tgt := 33) hx hb dX6_fate_26 (by decide) (fun cc => ?_) (fun cc => ?_)
    · replace h := sw_t h cc
      refine lv_iconst (v := 0) hx hb dX6_fate_33 (by decide) ?_
      refine lv_istore (lv' := [(6, .int 0), (5, .int 0), (0, .ref (ad 0)), (1, .int x1), (2, .int x2), (3, .int x3), (4, .int x4)]) hx hb dX6_fate_34 hl (by decide) rfl (fun ls hl => ?_)
      refine lv_aload_n hx hb dX6_fate_36 rfl (lv_at hl 2 rfl) ?_
      refine lv_iload_n hx hb dX6_fate_37 rfl (lv_at hl 3 rfl) ?_
      refine lv_iload hx hb dX6_fate_38 (lv_at hl 6 rfl) ?_
      obtain ⟨r40, er40, h⟩ := swbd_s h
      refine mw_calli (As := [.int x1, .int x4]) (rest := []) E (mm_placeOf l D cy ad u x1 x4 _ er40) (cwV 2 hts gX6_fate_X6_placeOf rfl rfl rfl (by decide +kernel) ⟨Nat.le_of_ble_eq_true rfl, Nat.le_of_ble_eq_true rfl⟩) hK hP rfl hl.1 rfl (Nat.le_of_ble_eq_true rfl) dX6_fate_40 ?_
      refine lv_iconst (v := (-1)) hx hb dX6_fate_43 (by decide) ?_
      refine lv_icmp_eq (tgt := 51) hx hb dX6_fate_44 (by decide) (fun cc => ?_) (fun cc => ?_)
      · replace h := sw_t h cc
        refine lv_iconst (v := 0) hx hb dX6_fate_51 (by decide) ?_
        refine lv_istore (lv' := [(7, .int 0), (6, .int 0), (5, .int 0), (0, .ref (ad 0)), (1, .int x1), (2, .int x2), (3, .int x3), (4, .int x4)]) hx hb dX6_fate_52 hl (by decide) rfl (fun ls hl => ?_)
        refine lv_iload hx hb dX6_fate_54 (lv_at hl 2 rfl) ?_
        refine lv_if_eq (tgt := 75) hx hb dX6_fate_56 (by decide) (fun cc => ?_) (fun cc => absurd (by decide) cc)
        refine lv_iload hx hb dX6_fate_75 (lv_at hl 2 rfl) ?_
        refine lv_if_ne (tgt := 88) hx hb dX6_fate_77 (by decide) (fun cc => absurd cc (by decide)) (fun cc => ?_)
        refine lv_iload hx hb dX6_fate_80 (lv_at hl 1 rfl) ?_
        refine lv_if_ne (tgt := 88) hx hb dX6_fate_82 (by decide) (fun cc => absurd cc (by decide)) (fun cc => ?_)
        refine lv_bipush (v := (-2)) hx hb dX6_fate_85 (by decide) ?_
        exact W.iret hx hb hr (fun t ht hW => ⟨_, rfl, sw_in1 h, ht⟩) (fun q hq => by cases hq) dX6_fate_87 hlocks
      · replace h := sw_f h cc
        refine lv_iconst (v := 1) hx hb dX6_fate_47 (by decide) ?_
        refine lv_goto (tgt := 52) hx hb dX6_fate_48 (by decide) ?_
        refine lv_istore (lv' := [(7, .int 1), (6, .int 0), (5, .int 0), (0, .ref (ad 0)), (1, .int x1), (2, .int x2), (3, .int x3), (4, .int x4)]) hx hb dX6_fate_52 hl (by decide) rfl (fun ls hl => ?_)
        refine lv_iload hx hb dX6_fate_54 (lv_at hl 2 rfl) ?_
        refine lv_if_eq (tgt := 75) hx hb dX6_fate_56 (by decide) (fun cc => ?_) (fun cc => absurd (by decide) cc)
        refine lv_iload hx hb dX6_fate_75 (lv_at hl 2 rfl) ?_
        refine lv_if_ne (tgt := 88) hx hb dX6_fate_77 (by decide) (fun cc => absurd cc (by decide)) (fun cc => ?_)
        refine lv_iload hx hb dX6_fate_80 (lv_at hl 1 rfl) ?_
        refine lv_if_ne (tgt := 88) hx hb dX6_fate_82 (by decide) (fun cc => absurd cc (by decide)) (fun cc => ?_)
        refine lv_bipush (v := (-2)) hx hb dX6_fate_85 (by decide) ?_
        exact W.iret hx hb hr (fun t ht hW => ⟨_, rfl, sw_in1 h, ht⟩) (fun q hq => by cases hq) dX6_fate_87 hlocks
    · replace h := sw_f h cc
      refine lv_iconst (v := 1) hx hb dX6_fate_29 (by decide) ?_
      refine lv_goto (tgt := 34) hx hb dX6_fate_30 (by decide) ?_
      refine lv_istore (lv' := [(6, .int 1), (5, .int 0), (0, .ref (ad 0)), (1, .int x1), (2, .int x2), (3, .int x3), (4, .int x4)]) hx hb dX6_fate_34 hl (by decide) rfl (fun ls hl => ?_)
      refine lv_aload_n hx hb dX6_fate_36 rfl (lv_at hl 2 rfl) ?_
      refine lv_iload_n hx hb dX6_fate_37 rfl (lv_at hl 3 rfl) ?_
      refine lv_iload hx hb dX6_fate_38 (lv_at hl 6 rfl) ?_
      obtain ⟨r40, er40, h⟩ := swbd_s h
      refine mw_calli (As := [.int x1, .int x4]) (rest := []) E (mm_placeOf l D cy ad u x1 x4 _ er40) (cwV 2 hts gX6_fate_X6_placeOf rfl rfl rfl (by decide +kernel) ⟨Nat.le_of_ble_eq_true rfl, Nat.le_of_ble_eq_true rfl⟩) hK hP rfl hl.1 rfl (Nat.le_of_ble_eq_true rfl) dX6_fate_40 ?_
      refine lv_iconst (v := (-1)) hx hb dX6_fate_43 (by decide) ?_
      refine lv_icmp_eq (tgt := 51) hx hb dX6_fate_44 (by decide) (fun cc => ?_) (fun cc => ?_)
      · replace h := sw_t h cc
        refine lv_iconst (v := 0) hx hb dX6_fate_51 (by decide) ?_
        refine lv_istore (lv' := [(7, .int 0), (6, .int 1), (5, .int 0), (0, .ref (ad 0)), (1, .int x1), (2, .int x2), (3, .int x3), (4, .int x4)]) hx hb dX6_fate_52 hl (by decide) rfl (fun ls hl => ?_)
        refine lv_iload hx hb dX6_fate_54 (lv_at hl 2 rfl) ?_
        refine lv_if_eq (tgt := 75) hx hb dX6_fate_56 (by decide) (fun cc => ?_) (fun cc => absurd (by decide) cc)
        refine lv_iload hx hb dX6_fate_75 (lv_at hl 2 rfl) ?_
        refine lv_if_ne (tgt := 88) hx hb dX6_fate_77 (by decide) (fun cc => absurd cc (by decide)) (fun cc => ?_)
        refine lv_iload hx hb dX6_fate_80 (lv_at hl 1 rfl) ?_
        refine lv_if_ne (tgt := 88) hx hb dX6_fate_82 (by decide) (fun cc => ?_) (fun cc => absurd cc (by decide))
        refine lv_iload hx hb dX6_fate_88 (lv_at hl 0 rfl) ?_
        refine lv_if_ne (tgt := 104) hx hb dX6_fate_90 (by decide) (fun cc => absurd cc (by decide)) (fun cc => ?_)
        refine lv_iload hx hb dX6_fate_93 (lv_at hl 2 rfl) ?_
        refine lv_if_eq (tgt := 102) hx hb dX6_fate_95 (by decide) (fun cc => ?_) (fun cc => absurd (by decide) cc)
        refine lv_iconst (v := 2) hx hb dX6_fate_102 (by decide) ?_
        exact W.iret hx hb hr (fun t ht hW => ⟨_, rfl, sw_in1 h, ht⟩) (fun q hq => by cases hq) dX6_fate_103 hlocks
      · replace h := sw_f h cc
        refine lv_iconst (v := 1) hx hb dX6_fate_47 (by decide) ?_
        refine lv_goto (tgt := 52) hx hb dX6_fate_48 (by decide) ?_
        refine lv_istore (lv' := [(7, .int 1), (6, .int 1), (5, .int 0), (0, .ref (ad 0)), (1, .int x1), (2, .int x2), (3, .int x3), (4, .int x4)]) hx hb dX6_fate_52 hl (by decide) rfl (fun ls hl => ?_)
        refine lv_iload hx hb dX6_fate_54 (lv_at hl 2 rfl) ?_
        refine lv_if_eq (tgt := 75) hx hb dX6_fate_56 (by decide) (fun cc => ?_) (fun cc => absurd (by decide) cc)
        refine lv_iload hx hb dX6_fate_75 (lv_at hl 2 rfl) ?_
        refine lv_if_ne (tgt := 88) hx hb dX6_fate_77 (by decide) (fun cc => absurd cc (by decide)) (fun cc => ?_)
        refine lv_iload hx hb dX6_fate_80 (lv_at hl 1 rfl) ?_
        refine lv_if_ne (tgt := 88) hx hb dX6_fate_82 (by decide) (fun cc => ?_) (fun cc => absurd cc (by decide))
        refine lv_iload hx hb dX6_fate_88 (lv_at hl 0 rfl) ?_
        refine lv_if_ne (tgt := 104) hx hb dX6_fate_90 (by decide) (fun cc => ?_) (fun cc => absurd cc (by decide))
        refine lv_aload_n hx hb dX6_fate_104 rfl (lv_at hl 3 rfl) ?_
        refine lv_iload hx hb dX6_fate_105 (lv_at hl 2 rfl) ?_
        refine lv_if_eq (tgt := 114) hx hb dX6_fate_107 (by decide) (fun cc => ?_) (fun cc => absurd (by decide) cc)
        refine lv_iload_n hx hb dX6_fate_114 rfl (lv_at hl 6 rfl) ?_
        refine lv_iload_n hx hb dX6_fate_115 rfl (lv_at hl 4 rfl) ?_
        refine lv_iload hx hb dX6_fate_116 (lv_at hl 7 rfl) ?_
        obtain ⟨r118, er118, h⟩ := swbd_s h
        refine mw_calli (As := [.int x3, .int x1, .int x4]) (rest := []) E (mm_isAs l D cy ad u x3 x1 x4 _ er118) (cwV 3 hts gX6_fate_X6_isAs rfl rfl rfl (by decide +kernel) ⟨Nat.le_of_ble_eq_true rfl, Nat.le_of_ble_eq_true rfl⟩) hK hP rfl hl.1 rfl (Nat.le_of_ble_eq_true rfl) dX6_fate_118 ?_
        refine lv_if_eq (tgt := 129) hx hb dX6_fate_121 (by decide) (fun cc => ?_) (fun cc => ?_)
        · replace h := sw_t h cc
          refine lv_bipush (v := (-3)) hx hb dX6_fate_129 (by decide) ?_
          exact W.iret hx hb hr (fun t ht hW => ⟨_, rfl, sw_in1 h, ht⟩) (fun q hq => by cases hq) dX6_fate_131 hlocks
        · replace h := sw_f h cc
          refine lv_bipush (v := (-2)) hx hb dX6_fate_124 (by decide) ?_
          refine lv_goto (tgt := 131) hx hb dX6_fate_126 (by decide) ?_
          exact W.iret hx hb hr (fun t ht hW => ⟨_, rfl, sw_in1 h, ht⟩) (fun q hq => by cases hq) dX6_fate_131 hlocks
  · replace h := sw_f h cc
    refine lv_iconst (v := 1) hx hb dX6_fate_11 (by decide) ?_
    refine lv_goto (tgt := 16) hx hb dX6_fate_12 (by decide) ?_
    refine lv_istore (lv' := [(5, .int 1), (0, .ref (ad 0)), (1, .int x1), (2, .int x2), (3, .int x3), (4, .int x4)]) hx hb dX6_fate_16 hl (by decide) rfl (fun ls hl => ?_)
    refine lv_aload_n hx hb dX6_fate_18 rfl (lv_at hl 1 rfl) ?_
    refine lv_iload_n hx hb dX6_fate_19 rfl (lv_at hl 4 rfl) ?_
    refine lv_iload hx hb dX6_fate_20 (lv_at hl 5 rfl) ?_
    obtain ⟨r22, er22, h⟩ := swbd_s h
    refine mw_calli (As := [.int x3, .int x4]) (rest := []) E (mm_placeOf l D cy ad u x3 x4 _ er22) (cwV 2 hts gX6_fate_X6_placeOf rfl rfl rfl (by decide +kernel) ⟨Nat.le_of_ble_eq_true rfl, Nat.le_of_ble_eq_true rfl⟩) hK hP rfl hl.1 rfl (Nat.le_of_ble_eq_true rfl) dX6_fate_22 ?_
    refine lv_iconst (v := (-1)) hx hb dX6_fate_25 (by decide) ?_
    refine lv_icmp_eq (tgt := 33) hx hb dX6_fate_26 (by decide) (fun cc => ?_) (fun cc => ?_)
    · replace h := sw_t h cc
      refine lv_iconst (v := 0) hx hb dX6_fate_33 (by decide) ?_
      refine lv_istore (lv' := [(6, .int 0), (5, .int 1), (0, .ref (ad 0)), (1, .int x1), (2, .int x2), (3, .int x3), (4, .int x4)]) hx hb dX6_fate_34 hl (by decide) rfl (fun ls hl => ?_)
      refine lv_aload_n hx hb dX6_fate_36 rfl (lv_at hl 2 rfl) ?_
      refine lv_iload_n hx hb dX6_fate_37 rfl (lv_at hl 3 rfl) ?_
      refine lv_iload hx hb dX6_fate_38 (lv_at hl 6 rfl) ?_
      obtain ⟨r40, er40, h⟩ := swbd_s h
      refine mw_calli (As := [.int x1, .int x4]) (rest := []) E (mm_placeOf l D cy ad u x1 x4 _ er40) (cwV 2 hts gX6_fate_X6_placeOf rfl rfl rfl (by decide +kernel) ⟨Nat.le_of_ble_eq_true rfl, Nat.le_of_ble_eq_true rfl⟩) hK hP rfl hl.1 rfl (Nat.le_of_ble_eq_true rfl) dX6_fate_40 ?_
      refine lv_iconst (v := (-1)) hx hb dX6_fate_43 (by decide) ?_
      refine lv_icmp_eq (tgt := 51) hx hb dX6_fate_44 (by decide) (fun cc => ?_) (fun cc => ?_)
      · replace h := sw_t h cc
        refine lv_iconst (v := 0) hx hb dX6_fate_51 (by decide) ?_
        refine lv_istore (lv' := [(7, .int 0), (6, .int 0), (5, .int 1), (0, .ref (ad 0)), (1, .int x1), (2, .int x2), (3, .int x3), (4, .int x4)]) hx hb dX6_fate_52 hl (by decide) rfl (fun ls hl => ?_)
        refine lv_iload hx hb dX6_fate_54 (lv_at hl 2 rfl) ?_
        refine lv_if_eq (tgt := 75) hx hb dX6_fate_56 (by decide) (fun cc => absurd cc (by decide)) (fun cc => ?_)
        refine lv_iload hx hb dX6_fate_59 (lv_at hl 1 rfl) ?_
        refine lv_if_eq (tgt := 75) hx hb dX6_fate_61 (by decide) (fun cc => ?_) (fun cc => absurd (by decide) cc)
        refine lv_iload hx hb dX6_fate_75 (lv_at hl 2 rfl) ?_
        refine lv_if_ne (tgt := 88) hx hb dX6_fate_77 (by decide) (fun cc => ?_) (fun cc => absurd cc (by decide))
        refine lv_iload hx hb dX6_fate_88 (lv_at hl 0 rfl) ?_
        refine lv_if_ne (tgt := 104) hx hb dX6_fate_90 (by decide) (fun cc => absurd cc (by decide)) (fun cc => ?_)
        refine lv_iload hx hb dX6_fate_93 (lv_at hl 2 rfl) ?_
        refine lv_if_eq (tgt := 102) hx hb dX6_fate_95 (by decide) (fun cc => absurd cc (by decide)) (fun cc => ?_)
        refine lv_iconst (v := 1) hx hb dX6_fate_98 (by decide) ?_
        refine lv_goto (tgt := 103) hx hb dX6_fate_99 (by decide) ?_
        exact W.iret hx hb hr (fun t ht hW => ⟨_, rfl, sw_in1 h, ht⟩) (fun q hq => by cases hq) dX6_fate_103 hlocks
      · replace h := sw_f h cc
        refine lv_iconst (v := 1) hx hb dX6_fate_47 (by decide) ?_
        refine lv_goto (tgt := 52) hx hb dX6_fate_48 (by decide) ?_
        refine lv_istore (lv' := [(7, .int 1), (6, .int 0), (5, .int 1), (0, .ref (ad 0)), (1, .int x1), (2, .int x2), (3, .int x3), (4, .int x4)]) hx hb dX6_fate_52 hl (by decide) rfl (fun ls hl => ?_)
        refine lv_iload hx hb dX6_fate_54 (lv_at hl 2 rfl) ?_
        refine lv_if_eq (tgt := 75) hx hb dX6_fate_56 (by decide) (fun cc => absurd cc (by decide)) (fun cc => ?_)
        refine lv_iload hx hb dX6_fate_59 (lv_at hl 1 rfl) ?_
        refine lv_if_eq (tgt := 75) hx hb dX6_fate_61 (by decide) (fun cc => ?_) (fun cc => absurd (by decide) cc)
        refine lv_iload hx hb dX6_fate_75 (lv_at hl 2 rfl) ?_
        refine lv_if_ne (tgt := 88) hx hb dX6_fate_77 (by decide) (fun cc => ?_) (fun cc => absurd cc (by decide))
        refine lv_iload hx hb dX6_fate_88 (lv_at hl 0 rfl) ?_
        refine lv_if_ne (tgt := 104) hx hb dX6_fate_90 (by decide) (fun cc => ?_) (fun cc => absurd cc (by decide))
        refine lv_aload_n hx hb dX6_fate_104 rfl (lv_at hl 3 rfl) ?_
        refine lv_iload hx hb dX6_fate_105 (lv_at hl 2 rfl) ?_
        refine lv_if_eq (tgt := 114) hx hb dX6_fate_107 (by decide) (fun cc => absurd cc (by decide)) (fun cc => ?_)
        refine lv_iload_n hx hb dX6_fate_110 rfl (lv_at hl 5 rfl) ?_
        refine lv_goto (tgt := 115) hx hb dX6_fate_111 (by decide) ?_
        refine lv_iload_n hx hb dX6_fate_115 rfl (lv_at hl 4 rfl) ?_
        refine lv_iload hx hb dX6_fate_116 (lv_at hl 7 rfl) ?_
        obtain ⟨r118, er118, h⟩ := swbd_s h
        refine mw_calli (As := [.int x2, .int x1, .int x4]) (rest := []) E (mm_isAs l D cy ad u x2 x1 x4 _ er118) (cwV 3 hts gX6_fate_X6_isAs rfl rfl rfl (by decide +kernel) ⟨Nat.le_of_ble_eq_true rfl, Nat.le_of_ble_eq_true rfl⟩) hK hP rfl hl.1 rfl (Nat.le_of_ble_eq_true rfl) dX6_fate_118 ?_
        refine lv_if_eq (tgt := 129) hx hb dX6_fate_121 (by decide) (fun cc => ?_) (fun cc => ?_)
        · replace h := sw_t h cc
          refine lv_bipush (v := (-3)) hx hb dX6_fate_129 (by decide) ?_
          exact W.iret hx hb hr (fun t ht hW => ⟨_, rfl, sw_in1 h, ht⟩) (fun q hq => by cases hq) dX6_fate_131 hlocks
        · replace h := sw_f h cc
          refine lv_bipush (v := (-2)) hx hb dX6_fate_124 (by decide) ?_
          refine lv_goto (tgt := 131) hx hb dX6_fate_126 (by decide) ?_
          exact W.iret hx hb hr (fun t ht hW => ⟨_, rfl, sw_in1 h, ht⟩) (fun q hq => by cases hq) dX6_fate_131 hlocks
    · replace h := sw_f h cc
      refine lv_iconst (v := 1) hx hb dX6_fate_29 (by decide) ?_
      refine lv_goto (tgt := 34) hx hb dX6_fate_30 (by decide) ?_
      refine lv_istore (lv' := [(6, .int 1), (5, .int 1), (0, .ref (ad 0)), (1, .int x1), (2, .int x2), (3, .int x3), (4, .int x4)]) hx hb dX6_fate_34 hl (by decide) rfl (fun ls hl => ?_)
      refine lv_aload_n hx hb dX6_fate_36 rfl (lv_at hl 2 rfl) ?_
      refine lv_iload_n hx hb dX6_fate_37 rfl (lv_at hl 3 rfl) ?_
      refine lv_iload hx hb dX6_fate_38 (lv_at hl 6 rfl) ?_
      obtain ⟨r40, er40, h⟩ := swbd_s h
      refine mw_calli (As := [.int x1, .int x4]) (rest := []) E (mm_placeOf l D cy ad u x1 x4 _ er40) (cwV 2 hts gX6_fate_X6_placeOf rfl rfl rfl (by decide +kernel) ⟨Nat.le_of_ble_eq_true rfl, Nat.le_of_ble_eq_true rfl⟩) hK hP rfl hl.1 rfl (Nat.le_of_ble_eq_true rfl) dX6_fate_40 ?_
      refine lv_iconst (v := (-1)) hx hb dX6_fate_43 (by decide) ?_
      refine lv_icmp_eq (tgt := 51) hx hb dX6_fate_44 (by decide) (fun cc => ?_) (fun cc => ?_)
      · replace h := sw_t h cc
        refine lv_iconst (v := 0) hx hb dX6_fate_51 (by decide) ?_
        refine lv_istore (lv' := [(7, .int 0), (6, .int 1), (5, .int 1), (0, .ref (ad 0)), (1, .int x1), (2, .int x2), (3, .int x3), (4, .int x4)]) hx hb dX6_fate_52 hl (by decide) rfl (fun ls hl => ?_)
        refine lv_iload hx hb dX6_fate_54 (lv_at hl 2 rfl) ?_
        refine lv_if_eq (tgt := 75) hx hb dX6_fate_56 (by decide) (fun cc => absurd cc (by decide)) (fun cc => ?_)
        refine lv_iload hx hb dX6_fate_59 (lv_at hl 1 rfl) ?_
        refine lv_if_eq (tgt := 75) hx hb dX6_fate_61 (by decide) (fun cc => absurd cc (by decide)) (fun cc => ?_)
        refine lv_iload hx hb dX6_fate_64 (lv_at hl 0 rfl) ?_
        refine lv_if_eq (tgt := 73) hx hb dX6_fate_66 (by decide) (fun cc => ?_) (fun cc => absurd (by decide) cc)
        refine lv_iconst (v := 3) hx hb dX6_fate_73 (by decide) ?_
        exact W.iret hx hb hr (fun t ht hW => ⟨_, rfl, sw_in1 h, ht⟩) (fun q hq => by cases hq) dX6_fate_74 hlocks
      · replace h := sw_f h cc
        refine lv_iconst (v := 1) hx hb dX6_fate_47 (by decide) ?_
        refine lv_goto (tgt := 52) hx hb dX6_fate_48 (by decide) ?_
        refine lv_istore (lv' := [(7, .int 1), (6, .int 1), (5, .int 1), (0, .ref (ad 0)), (1, .int x1), (2, .int x2), (3, .int x3), (4, .int x4)]) hx hb dX6_fate_52 hl (by decide) rfl (fun ls hl => ?_)
        refine lv_iload hx hb dX6_fate_54 (lv_at hl 2 rfl) ?_
        refine lv_if_eq (tgt := 75) hx hb dX6_fate_56 (by decide) (fun cc => absurd cc (by decide)) (fun cc => ?_)
        refine lv_iload hx hb dX6_fate_59 (lv_at hl 1 rfl) ?_
        refine lv_if_eq (tgt := 75) hx hb dX6_fate_61 (by decide) (fun cc => absurd cc (by decide)) (fun cc => ?_)
        refine lv_iload hx hb dX6_fate_64 (lv_at hl 0 rfl) ?_
        refine lv_if_eq (tgt := 73) hx hb dX6_fate_66 (by decide) (fun cc => absurd cc (by decide)) (fun cc => ?_)
        refine lv_iconst (v := 4) hx hb dX6_fate_69 (by decide) ?_
        refine lv_goto (tgt := 74) hx hb dX6_fate_70 (by decide) ?_
        exact W.iret hx hb hr (fun t ht hW => ⟨_, rfl, sw_in1 h, ht⟩) (fun q hq => by cases hq) dX6_fate_74 hlocks

/-! meets -/
def mx_meets (u : swU) (x1 : Int32) (x2 : Int32) (x3 : Int32) (x4 : Int32) (x5 : Int32) (x6 : Bool) : Option (Int32) :=
  swbd (mx_valueOf u x2 x4 x5) fun r6 => swbd (mx_valueOf u x3 x4 x5) fun r17 => if (swB x6) = 0 then (if r6 = r17 then (some r6) else (if r6 = (-1) then (some r17) else (if r17 = (-1) then (some r6) else (some (-3))))) else (swbd (mx_valueOf u x1 x4 x5) fun r33 => if r6 = r17 then (some r6) else (if r6 = r33 then (some r17) else (if r17 = r33 then (some r6) else (some (-3)))))

abbrev rmX6_meets : Room := { frames := 2, cells := 0, slots := 0, locals := 46 }

set_option maxHeartbeats 4000000 in
set_option maxRecDepth 100000 in
theorem mm_meets (l : Launch) (D : va_G) (cy : Nat → ClassId) (ad : Nat → Nat) (u : swU) (x1 : Int32) (x2 : Int32) (x3 : Int32) (x4 : Int32) (x5 : Int32) (x6 : Bool) (r0 : Int32) (h : mx_meets u x1 x2 x3 x4 x5 x6 = some r0) : Met l yX6_meets wsX6_meets rmX6_meets (mwC D cy ad u [.ref (ad 0), .int x1, .int x2, .int x3, .int x4, .int x5, .int (swB x6)]) (vp_Si (fun r : Int32 => r = r0)) 0 0 (fun _ => False) := by
  refine Met.ofW (cc := cX6_meets) (maxL := 10) (ret := (some .int)) (by decide) rfl ?_
  intro p e s m args below meth c s₁ B hml hv
  obtain ⟨ha, hP, hK⟩ := hv
  have hx := B.exec
  have hb := B.bytes
  have hr := B.returns
  have hlocks := B.notSynchronized
  have hts := atoms_spec (ws := wsX6_meets) B.pre
  have hown : s.vm.findClass RX6 = some m.cls := findClass_of_methodNamed B.named
  have E : CallFix p m c cX6_meets 10 s args wsX6_meets RX6 := ⟨hx, hb, hml, hown, hts⟩
  obtain ⟨ls, hl, hent⟩ := sw_entry m (n := 10) ha (Nat.le_of_ble_eq_true rfl)
  rw [hent]
  have hl : lv_has ls 10 [(0, .ref (ad 0)), (1, .int x1), (2, .int x2), (3, .int x3), (4, .int x4), (5, .int x5), (6, .int (swB x6))] := hl
  unfold mx_meets at h
  refine lv_aload_n hx hb dX6_meets_0 rfl (lv_at hl 0 rfl) ?_
  refine lv_iload_n hx hb dX6_meets_1 rfl (lv_at hl 2 rfl) ?_
  refine lv_iload hx hb dX6_meets_2 (lv_at hl 4 rfl) ?_
  refine lv_iload hx hb dX6_meets_4 (lv_at hl 5 rfl) ?_
  obtain ⟨r6, er6, h⟩ := swbd_s h
  refine mw_calli (As := [.int x2, .int x4, .int x5]) (rest := []) E (mm_valueOf l D cy ad u x2 x4 x5 _ er6) (cwV 3 hts gX6_meets_X6_valueOf rfl rfl rfl (by decide +kernel) ⟨Nat.le_of_ble_eq_true rfl, Nat.le_of_ble_eq_true rfl⟩) hK hP rfl hl.1 rfl (Nat.le_of_ble_eq_true rfl) dX6_meets_6 ?_
  refine lv_istore (lv' := [(7, .int r6), (0, .ref (ad 0)), (1, .int x1), (2, .int x2), (3, .int x3), (4, .int x4), (5, .int x5), (6, .int (swB x6))]) hx hb dX6_meets_9 hl (by decide) rfl (fun ls hl => ?_)
  refine lv_aload_n hx hb dX6_meets_11 rfl (lv_at hl 1 rfl) ?_
  refine lv_iload_n hx hb dX6_meets_12 rfl (lv_at hl 4 rfl) ?_
  refine lv_iload hx hb dX6_meets_13 (lv_at hl 5 rfl) ?_
  refine lv_iload hx hb dX6_meets_15 (lv_at hl 6 rfl) ?_
  obtain ⟨r17, er17, h⟩ := swbd_s h
  refine mw_calli (As := [.int x3, .int x4, .int x5]) (rest := []) E (mm_valueOf l D cy ad u x3 x4 x5 _ er17) (cwV 3 hts gX6_meets_X6_valueOf rfl rfl rfl (by decide +kernel) ⟨Nat.le_of_ble_eq_true rfl, Nat.le_of_ble_eq_true rfl⟩) hK hP rfl hl.1 rfl (Nat.le_of_ble_eq_true rfl) dX6_meets_17 ?_
  refine lv_istore (lv' := [(8, .int r17), (7, .int r6), (0, .ref (ad 0)), (1, .int x1), (2, .int x2), (3, .int x3), (4, .int x4), (5, .int x5), (6, .int (swB x6))]) hx hb dX6_meets_20 hl (by decide) rfl (fun ls hl => ?_)
  refine lv_iload hx hb dX6_meets_22 (lv_at hl 8 rfl) ?_
  refine lv_if_eq (tgt := 39) hx hb dX6_meets_24 (by decide) (fun cc => ?_) (fun cc => ?_)
  · replace h := sw_t h cc
    refine lv_iconst (v := (-1)) hx hb dX6_meets_39 (by decide) ?_
    refine lv_istore (lv' := [(9, .int (-1)), (8, .int r17), (7, .int r6), (0, .ref (ad 0)), (1, .int x1), (2, .int x2), (3, .int x3), (4, .int x4), (5, .int x5), (6, .int (swB x6))]) hx hb dX6_meets_40 hl (by decide) rfl (fun ls hl => ?_)
    refine lv_iload hx hb dX6_meets_42 (lv_at hl 2 rfl) ?_
    refine lv_iload hx hb dX6_meets_44 (lv_at hl 1 rfl) ?_
    refine lv_icmp_ne (tgt := 54) hx hb dX6_meets_46 (by decide) (fun cc => ?_) (fun cc => ?_)
    · replace h := sw_f h cc
      refine lv_iload hx hb dX6_meets_54 (lv_at hl 2 rfl) ?_
      refine lv_iload hx hb dX6_meets_56 (lv_at hl 0 rfl) ?_
      refine lv_icmp_ne (tgt := 66) hx hb dX6_meets_58 (by decide) (fun cc => ?_) (fun cc => ?_)
      · replace h := sw_f h cc
        refine lv_iload hx hb dX6_meets_66 (lv_at hl 1 rfl) ?_
        refine lv_iload hx hb dX6_meets_68 (lv_at hl 0 rfl) ?_
        refine lv_icmp_ne (tgt := 78) hx hb dX6_meets_70 (by decide) (fun cc => ?_) (fun cc => ?_)
        · replace h := sw_f h cc
          refine lv_bipush (v := (-3)) hx hb dX6_meets_78 (by decide) ?_
          exact W.iret hx hb hr (fun t ht hW => ⟨_, rfl, sw_in1 h, ht⟩) (fun q hq => by cases hq) dX6_meets_80 hlocks
        · replace h := sw_t h cc
          refine lv_iload hx hb dX6_meets_73 (lv_at hl 2 rfl) ?_
          refine lv_goto (tgt := 80) hx hb dX6_meets_75 (by decide) ?_
          exact W.iret hx hb hr (fun t ht hW => ⟨_, rfl, sw_in1 h, ht⟩) (fun q hq => by cases hq) dX6_meets_80 hlocks
      · replace h := sw_t h cc
        refine lv_iload hx hb dX6_meets_61 (lv_at hl 1 rfl) ?_
        refine lv_goto (tgt := 80) hx hb dX6_meets_63 (by decide) ?_
        exact W.iret hx hb hr (fun t ht hW => ⟨_, rfl, sw_in1 h, ht⟩) (fun q hq => by cases hq) dX6_meets_80 hlocks
    · replace h := sw_t h cc
      refine lv_iload hx hb dX6_meets_49 (lv_at hl 2 rfl) ?_
      refine lv_goto (tgt := 80) hx hb dX6_meets_51 (by decide) ?_
      exact W.iret hx hb hr (fun t ht hW => ⟨_, rfl, sw_in1 h, ht⟩) (fun q hq => by cases hq) dX6_meets_80 hlocks
  · replace h := sw_f h cc
    refine lv_aload_n hx hb dX6_meets_27 rfl (lv_at hl 2 rfl) ?_
    refine lv_iload_n hx hb dX6_meets_28 rfl (lv_at hl 3 rfl) ?_
    refine lv_iload hx hb dX6_meets_29 (lv_at hl 6 rfl) ?_
    refine lv_iload hx hb dX6_meets_31 (lv_at hl 7 rfl) ?_
    obtain ⟨r33, er33, h⟩ := swbd_s h
    refine mw_calli (As := [.int x1, .int x4, .int x5]) (rest := []) E (mm_valueOf l D cy ad u x1 x4 x5 _ er33) (cwV 3 hts gX6_meets_X6_valueOf rfl rfl rfl (by decide +kernel) ⟨Nat.le_of_ble_eq_true rfl, Nat.le_of_ble_eq_true rfl⟩) hK hP rfl hl.1 rfl (Nat.le_of_ble_eq_true rfl) dX6_meets_33 ?_
    refine lv_goto (tgt := 40) hx hb dX6_meets_36 (by decide) ?_
    refine lv_istore (lv' := [(9, .int r33), (8, .int r17), (7, .int r6), (0, .ref (ad 0)), (1, .int x1), (2, .int x2), (3, .int x3), (4, .int x4), (5, .int x5), (6, .int (swB x6))]) hx hb dX6_meets_40 hl (by decide) rfl (fun ls hl => ?_)
    refine lv_iload hx hb dX6_meets_42 (lv_at hl 2 rfl) ?_
    refine lv_iload hx hb dX6_meets_44 (lv_at hl 1 rfl) ?_
    refine lv_icmp_ne (tgt := 54) hx hb dX6_meets_46 (by decide) (fun cc => ?_) (fun cc => ?_)
    · replace h := sw_f h cc
      refine lv_iload hx hb dX6_meets_54 (lv_at hl 2 rfl) ?_
      refine lv_iload hx hb dX6_meets_56 (lv_at hl 0 rfl) ?_
      refine lv_icmp_ne (tgt := 66) hx hb dX6_meets_58 (by decide) (fun cc => ?_) (fun cc => ?_)
      · replace h := sw_f h cc
        refine lv_iload hx hb dX6_meets_66 (lv_at hl 1 rfl) ?_
        refine lv_iload hx hb dX6_meets_68 (lv_at hl 0 rfl) ?_
        refine lv_icmp_ne (tgt := 78) hx hb dX6_meets_70 (by decide) (fun cc => ?_) (fun cc => ?_)
        · replace h := sw_f h cc
          refine lv_bipush (v := (-3)) hx hb dX6_meets_78 (by decide) ?_
          exact W.iret hx hb hr (fun t ht hW => ⟨_, rfl, sw_in1 h, ht⟩) (fun q hq => by cases hq) dX6_meets_80 hlocks
        · replace h := sw_t h cc
          refine lv_iload hx hb dX6_meets_73 (lv_at hl 2 rfl) ?_
          refine lv_goto (tgt := 80) hx hb dX6_meets_75 (by decide) ?_
          exact W.iret hx hb hr (fun t ht hW => ⟨_, rfl, sw_in1 h, ht⟩) (fun q hq => by cases hq) dX6_meets_80 hlocks
      · replace h := sw_t h cc
        refine lv_iload hx hb dX6_meets_61 (lv_at hl 1 rfl) ?_
        refine lv_goto (tgt := 80) hx hb dX6_meets_63 (by decide) ?_
        exact W.iret hx hb hr (fun t ht hW => ⟨_, rfl, sw_in1 h, ht⟩) (fun q hq => by cases hq) dX6_meets_80 hlocks
    · replace h := sw_t h cc
      refine lv_iload hx hb dX6_meets_49 (lv_at hl 2 rfl) ?_
      refine lv_goto (tgt := 80) hx hb dX6_meets_51 (by decide) ?_
      exact W.iret hx hb hr (fun t ht hW => ⟨_, rfl, sw_in1 h, ht⟩) (fun q hq => by cases hq) dX6_meets_80 hlocks

/-! clashesOf -/
def mx_clashesOf_L46 (u : swU) (x1 : Int32) (x2 : Int32) (x3 : Int32) (v5 : Int32) (r21 : Int32) (kk : Int32 → Int32 → Option (Int32)) : Nat → Int32 → Int32 → Option (Int32)
  | 0, _, _ => none
  | n + 1, v4, v7 => if 4 ≤ v7 then (kk v4 v7) else (if r21 < 3 then (kk v4 v7) else (if r21 = 4 then (swbd (mx_meets u x1 x2 x3 v5 v7 true) fun r79 => if r79 = (-3) then (swlt (v4 + 1) fun y93 => mx_clashesOf_L46 u x1 x2 x3 v5 r21 kk n y93 (v7 + 1)) else (swlt (v4 + 0) fun y93 => mx_clashesOf_L46 u x1 x2 x3 v5 r21 kk n y93 (v7 + 1))) else (swbd (mx_meets u x1 x2 x3 v5 v7 false) fun r79 => if r79 = (-3) then (swlt (v4 + 1) fun y93 => mx_clashesOf_L46 u x1 x2 x3 v5 r21 kk n y93 (v7 + 1)) else (swlt (v4 + 0) fun y93 => mx_clashesOf_L46 u x1 x2 x3 v5 r21 kk n y93 (v7 + 1)))))

def mx_clashesOf_L6 (u : swU) (x1 : Int32) (x2 : Int32) (x3 : Int32) (kk : Int32 → Int32 → Option (Int32)) : Nat → Int32 → Int32 → Option (Int32)
  | 0, _, _ => none
  | n + 1, v4, v5 => if (u.1 0 8) ≤ v5 then (kk v4 v5) else (swbd (mx_fate u x1 x2 x3 v5) fun r21 => if r21 = (-3) then (swlt (v4 + 1) fun y41 => mx_clashesOf_L46 u x1 x2 x3 v5 r21 (fun v4 v7 => mx_clashesOf_L6 u x1 x2 x3 kk n v4 (v5 + 1)) 64 y41 0) else (swlt (v4 + 0) fun y41 => mx_clashesOf_L46 u x1 x2 x3 v5 r21 (fun v4 v7 => mx_clashesOf_L6 u x1 x2 x3 kk n v4 (v5 + 1)) 64 y41 0))

def mx_clashesOf (u : swU) (x1 : Int32) (x2 : Int32) (x3 : Int32) : Option (Int32) :=
  mx_clashesOf_L6 u x1 x2 x3 (fun v4 v5 => some v4) 64 0 0

abbrev rmX6_clashesOf : Room := { frames := 4, cells := 0, slots := 0, locals := 98 }

set_option maxHeartbeats 4000000 in
set_option maxRecDepth 100000 in
theorem mm_clashesOf (l : Launch) (D : va_G) (cy : Nat → ClassId) (ad : Nat → Nat) (u : swU) (x1 : Int32) (x2 : Int32) (x3 : Int32) (r0 : Int32) (h : mx_clashesOf u x1 x2 x3 = some r0) : Met l yX6_clashesOf wsX6_clashesOf rmX6_clashesOf (mwC D cy ad u [.ref (ad 0), .int x1, .int x2, .int x3]) (vp_Si (fun r : Int32 => r = r0)) 0 0 (fun _ => False) := by
  refine Met.ofW (cc := cX6_clashesOf) (maxL := 8) (ret := (some .int)) (by decide) rfl ?_
  intro p e s m args below meth c s₁ B hml hv
  obtain ⟨ha, hP, hK⟩ := hv
  have hx := B.exec
  have hb := B.bytes
  have hr := B.returns
  have hlocks := B.notSynchronized
  have hts := atoms_spec (ws := wsX6_clashesOf) B.pre
  have hown : s.vm.findClass RX6 = some m.cls := findClass_of_methodNamed B.named
  have E : CallFix p m c cX6_clashesOf 8 s args wsX6_clashesOf RX6 := ⟨hx, hb, hml, hown, hts⟩
  have hin : ∀ w ∈ wsX60, w ∈ wsX6_clashesOf := by decide +kernel
  have f96 : (Cond.fieldLink RX6 96 "SlidewardenModel" "slides" "I").before args s = true := hts _ (by decide +kernel)
  obtain ⟨ls, hl, hent⟩ := sw_entry m (n := 8) ha (Nat.le_of_ble_eq_true rfl)
  rw [hent]
  have hl : lv_has ls 8 [(0, .ref (ad 0)), (1, .int x1), (2, .int x2), (3, .int x3)] := hl
  unfold mx_clashesOf at h
  refine lv_iconst (v := 0) hx hb dX6_clashesOf_0 (by decide) ?_
  refine lv_istore (lv' := [(4, .int 0), (0, .ref (ad 0)), (1, .int x1), (2, .int x2), (3, .int x3)]) hx hb dX6_clashesOf_1 hl (by decide) rfl (fun ls hl => ?_)
  refine lv_iconst (v := 0) hx hb dX6_clashesOf_3 (by decide) ?_
  refine lv_istore (lv' := [(5, .int 0), (4, .int 0), (0, .ref (ad 0)), (1, .int x1), (2, .int x2), (3, .int x3)]) hx hb dX6_clashesOf_4 hl (by decide) rfl (fun ls hl => ?_)
  have L6 : ∀ (kk : Int32 → Int32 → Option (Int32)), (∀ (v4 : Int32) (v5 : Int32) (ls : Array Slot), kk v4 v5 = some r0 → lv_has ls 8 [(0, .ref (ad 0)), (1, .int x1), (2, .int x2), (3, .int x3), (4, .int v4), (5, .int v5)] → W p l e (headSpec wsX6_clashesOf rmX6_clashesOf).room s m args below meth c s.heap [] 0 0 (MQ below (vp_Si (fun r : Int32 => r = r0)) args s 0 0 (fun _ => False)) (F0 m 107 ls [])) → ∀ (n : Nat) (v4 : Int32) (v5 : Int32) (ls : Array Slot), mx_clashesOf_L6 u x1 x2 x3 kk n v4 v5 = some r0 → lv_has ls 8 [(0, .ref (ad 0)), (1, .int x1), (2, .int x2), (3, .int x3), (4, .int v4), (5, .int v5)] → W p l e (headSpec wsX6_clashesOf rmX6_clashesOf).room s m args below meth c s.heap [] 0 0 (MQ below (vp_Si (fun r : Int32 => r = r0)) args s 0 0 (fun _ => False)) (F0 m 6 ls []) := by
    intro kk hk6 n
    induction n with
    | zero => intro v4 v5 ls h hl; rw [mx_clashesOf_L6] at h; cases h
    | succ n ih6 =>
      intro v4 v5 ls h hl
      rw [mx_clashesOf_L6] at h
      refine lv_iload hx hb dX6_clashesOf_6 (lv_at hl 5 rfl) ?_
      refine lv_aload_n hx hb dX6_clashesOf_8 rfl (lv_at hl 0 rfl) ?_
      refine mw_get hx hb hts hin hown hK hP 8 (by decide) f96 rfl dX6_clashesOf_9 ?_
      refine lv_icmp_ge (tgt := 107) hx hb dX6_clashesOf_12 (by decide) (fun cc => ?_) (fun cc => ?_)
      · replace h := sw_t h cc
        exact hk6 _ _ _ h (lv_sub hl [0, 1, 2, 3, 4, 5] rfl)
      · replace h := sw_f h cc
        refine lv_aload_n hx hb dX6_clashesOf_15 rfl (lv_at hl 0 rfl) ?_
        refine lv_iload_n hx hb dX6_clashesOf_16 rfl (lv_at hl 1 rfl) ?_
        refine lv_iload_n hx hb dX6_clashesOf_17 rfl (lv_at hl 2 rfl) ?_
        refine lv_iload_n hx hb dX6_clashesOf_18 rfl (lv_at hl 3 rfl) ?_
        refine lv_iload hx hb dX6_clashesOf_19 (lv_at hl 5 rfl) ?_
        obtain ⟨r21, er21, h⟩ := swbd_s h
        refine mw_calli (As := [.int x1, .int x2, .int x3, .int v5]) (rest := []) E (mm_fate l D cy ad u x1 x2 x3 v5 _ er21) (cwV 4 hts gX6_clashesOf_X6_fate rfl rfl rfl (by decide +kernel) ⟨Nat.le_of_ble_eq_true rfl, Nat.le_of_ble_eq_true rfl⟩) hK hP rfl hl.1 rfl (Nat.le_of_ble_eq_true rfl) dX6_clashesOf_21 ?_
        refine lv_istore (lv' := [(6, .int r21), (0, .ref (ad 0)), (1, .int x1), (2, .int x2), (3, .int x3), (4, .int v4), (5, .int v5)]) hx hb dX6_clashesOf_24 hl (by decide) rfl (fun ls hl => ?_)
        refine lv_iload hx hb dX6_clashesOf_26 (lv_at hl 5 rfl) ?_
        refine lv_iload hx hb dX6_clashesOf_28 (lv_at hl 0 rfl) ?_
        refine lv_bipush (v := (-3)) hx hb dX6_clashesOf_30 (by decide) ?_
        refine lv_icmp_ne (tgt := 39) hx hb dX6_clashesOf_32 (by decide) (fun cc => ?_) (fun cc => ?_)
        · replace h := sw_f h cc
          refine lv_iconst (v := 0) hx hb dX6_clashesOf_39 (by decide) ?_
          refine lv_iadd hx hb dX6_clashesOf_40 ?_
          obtain ⟨y41, ey41, h⟩ := swlt_s h
          refine sw_top ey41 ?_
          refine lv_istore (lv' := [(4, .int y41), (6, .int r21), (0, .ref (ad 0)), (1, .int x1), (2, .int x2), (3, .int x3), (5, .int v5)]) hx hb dX6_clashesOf_41 hl (by decide) rfl (fun ls hl => ?_)
          refine lv_iconst (v := 0) hx hb dX6_clashesOf_43 (by decide) ?_
          refine lv_istore (lv' := [(7, .int 0), (4, .int y41), (6, .int r21), (0, .ref (ad 0)), (1, .int x1), (2, .int x2), (3, .int x3), (5, .int v5)]) hx hb dX6_clashesOf_44 hl (by decide) rfl (fun ls hl => ?_)
          have L46 : ∀ (kk : Int32 → Int32 → Option (Int32)), (∀ (v4 : Int32) (v7 : Int32) (ls : Array Slot), kk v4 v7 = some r0 → lv_has ls 8 [(0, .ref (ad 0)), (1, .int x1), (2, .int x2), (3, .int x3), (4, .int v4), (5, .int v5), (6, .int r21), (7, .int v7)] → W p l e (headSpec wsX6_clashesOf rmX6_clashesOf).room s m args below meth c s.heap [] 0 0 (MQ below (vp_Si (fun r : Int32 => r = r0)) args s 0 0 (fun _ => False)) (F0 m 101 ls [])) → ∀ (n : Nat) (v4 : Int32) (v7 : Int32) (ls : Array Slot), mx_clashesOf_L46 u x1 x2 x3 v5 r21 kk n v4 v7 = some r0 → lv_has ls 8 [(0, .ref (ad 0)), (1, .int x1), (2, .int x2), (3, .int x3), (4, .int v4), (5, .int v5), (6, .int r21), (7, .int v7)] → W p l e (headSpec wsX6_clashesOf rmX6_clashesOf).room s m args below meth c s.heap [] 0 0 (MQ below (vp_Si (fun r : Int32 => r = r0)) args s 0 0 (fun _ => False)) (F0 m 46 ls []) := by
            intro kk hk46 n
            induction n with
            | zero => intro v4 v7 ls h hl; rw [mx_clashesOf_L46] at h; cases h
            | succ n ih46 =>
              intro v4 v7 ls h hl
              rw [mx_clashesOf_L46] at h
              refine lv_iload hx hb dX6_clashesOf_46 (lv_at hl 7 rfl) ?_
              refine lv_iconst (v := 4) hx hb dX6_clashesOf_48 (by decide) ?_
              refine lv_icmp_ge (tgt := 101) hx hb dX6_clashesOf_49 (by decide) (fun cc => ?_) (fun cc => ?_)
              · replace h := sw_t h cc
                exact hk46 _ _ _ h (lv_sub hl [0, 1, 2, 3, 4, 5, 6, 7] rfl)
              · replace h := sw_f h cc
                refine lv_iload hx hb dX6_clashesOf_52 (lv_at hl 6 rfl) ?_
                refine lv_iconst (v := 3) hx hb dX6_clashesOf_54 (by decide) ?_
                refine lv_icmp_lt (tgt := 101) hx hb dX6_clashesOf_55 (by decide) (fun cc => ?_) (fun cc => ?_)
                · replace h := sw_t h cc
                  exact hk46 _ _ _ h (lv_sub hl [0, 1, 2, 3, 4, 5, 6, 7] rfl)
                · replace h := sw_f h cc
                  refine lv_iload hx hb dX6_clashesOf_58 (lv_at hl 4 rfl) ?_
                  refine lv_aload_n hx hb dX6_clashesOf_60 rfl (lv_at hl 0 rfl) ?_
                  refine lv_iload_n hx hb dX6_clashesOf_61 rfl (lv_at hl 1 rfl) ?_
                  refine lv_iload_n hx hb dX6_clashesOf_62 rfl (lv_at hl 2 rfl) ?_
                  refine lv_iload_n hx hb dX6_clashesOf_63 rfl (lv_at hl 3 rfl) ?_
                  refine lv_iload hx hb dX6_clashesOf_64 (lv_at hl 5 rfl) ?_
                  refine lv_iload hx hb dX6_clashesOf_66 (lv_at hl 7 rfl) ?_
                  refine lv_iload hx hb dX6_clashesOf_68 (lv_at hl 6 rfl) ?_
                  refine lv_iconst (v := 4) hx hb dX6_clashesOf_70 (by decide) ?_
                  refine lv_icmp_ne (tgt := 78) hx hb dX6_clashesOf_71 (by decide) (fun cc => ?_) (fun cc => ?_)
                  · replace h := sw_f h cc
                    refine lv_iconst (v := 0) hx hb dX6_clashesOf_78 (by decide) ?_
                    obtain ⟨r79, er79, h⟩ := swbd_s h
                    refine mw_calli (As := [.int x1, .int x2, .int x3, .int v5, .int v7, .int 0]) (rest := [.int v4]) E (mm_meets l D cy ad u x1 x2 x3 v5 v7 false _ er79) (cwV 6 hts gX6_clashesOf_X6_meets rfl rfl rfl (by decide +kernel) ⟨Nat.le_of_ble_eq_true rfl, Nat.le_of_ble_eq_true rfl⟩) hK hP rfl hl.1 rfl (Nat.le_of_ble_eq_true rfl) dX6_clashesOf_79 ?_
                    refine lv_bipush (v := (-3)) hx hb dX6_clashesOf_82 (by decide) ?_
                    refine lv_icmp_ne (tgt := 91) hx hb dX6_clashesOf_84 (by decide) (fun cc => ?_) (fun cc => ?_)
                    · replace h := sw_f h cc
                      refine lv_iconst (v := 0) hx hb dX6_clashesOf_91 (by decide) ?_
                      refine lv_iadd hx hb dX6_clashesOf_92 ?_
                      obtain ⟨y93, ey93, h⟩ := swlt_s h
                      refine sw_top ey93 ?_
                      refine lv_istore (lv' := [(4, .int y93), (0, .ref (ad 0)), (1, .int x1), (2, .int x2), (3, .int x3), (5, .int v5), (6, .int r21), (7, .int v7)]) hx hb dX6_clashesOf_93 hl (by decide) rfl (fun ls hl => ?_)
                      refine lv_iinc (v := (v7 + 1)) (lv' := [(7, .int (v7 + 1)), (4, .int y93), (0, .ref (ad 0)), (1, .int x1), (2, .int x2), (3, .int x3), (5, .int v5), (6, .int r21)]) hx hb dX6_clashesOf_95 hl (k := 7) rfl rfl (by decide) rfl (fun ls hl => ?_)
                      refine lv_goto (tgt := 46) hx hb dX6_clashesOf_98 (by decide) ?_
                      exact ih46 _ _ _ h (lv_sub hl [2, 3, 4, 5, 1, 6, 7, 0] rfl)
                    · replace h := sw_t h cc
                      refine lv_iconst (v := 1) hx hb dX6_clashesOf_87 (by decide) ?_
                      refine lv_goto (tgt := 92) hx hb dX6_clashesOf_88 (by decide) ?_
                      refine lv_iadd hx hb dX6_clashesOf_92 ?_
                      obtain ⟨y93, ey93, h⟩ := swlt_s h
                      refine sw_top ey93 ?_
                      refine lv_istore (lv' := [(4, .int y93), (0, .ref (ad 0)), (1, .int x1), (2, .int x2), (3, .int x3), (5, .int v5), (6, .int r21), (7, .int v7)]) hx hb dX6_clashesOf_93 hl (by decide) rfl (fun ls hl => ?_)
                      refine lv_iinc (v := (v7 + 1)) (lv' := [(7, .int (v7 + 1)), (4, .int y93), (0, .ref (ad 0)), (1, .int x1), (2, .int x2), (3, .int x3), (5, .int v5), (6, .int r21)]) hx hb dX6_clashesOf_95 hl (k := 7) rfl rfl (by decide) rfl (fun ls hl => ?_)
                      refine lv_goto (tgt := 46) hx hb dX6_clashesOf_98 (by decide) ?_
                      exact ih46 _ _ _ h (lv_sub hl [2, 3, 4, 5, 1, 6, 7, 0] rfl)
                  · replace h := sw_t h cc
                    refine lv_iconst (v := 1) hx hb dX6_clashesOf_74 (by decide) ?_
                    refine lv_goto (tgt := 79) hx hb dX6_clashesOf_75 (by decide) ?_
                    obtain ⟨r79, er79, h⟩ := swbd_s h
                    refine mw_calli (As := [.int x1, .int x2, .int x3, .int v5, .int v7, .int 1]) (rest := [.int v4]) E (mm_meets l D cy ad u x1 x2 x3 v5 v7 true _ er79) (cwV 6 hts gX6_clashesOf_X6_meets rfl rfl rfl (by decide +kernel) ⟨Nat.le_of_ble_eq_true rfl, Nat.le_of_ble_eq_true rfl⟩) hK hP rfl hl.1 rfl (Nat.le_of_ble_eq_true rfl) dX6_clashesOf_79 ?_
                    refine lv_bipush (v := (-3)) hx hb dX6_clashesOf_82 (by decide) ?_
                    refine lv_icmp_ne (tgt := 91) hx hb dX6_clashesOf_84 (by decide) (fun cc => ?_) (fun cc => ?_)
                    · replace h := sw_f h cc
                      refine lv_iconst (v := 0) hx hb dX6_clashesOf_91 (by decide) ?_
                      refine lv_iadd hx hb dX6_clashesOf_92 ?_
                      obtain ⟨y93, ey93, h⟩ := swlt_s h
                      refine sw_top ey93 ?_
                      refine lv_istore (lv' := [(4, .int y93), (0, .ref (ad 0)), (1, .int x1), (2, .int x2), (3, .int x3), (5, .int v5), (6, .int r21), (7, .int v7)]) hx hb dX6_clashesOf_93 hl (by decide) rfl (fun ls hl => ?_)
                      refine lv_iinc (v := (v7 + 1)) (lv' := [(7, .int (v7 + 1)), (4, .int y93), (0, .ref (ad 0)), (1, .int x1), (2, .int x2), (3, .int x3), (5, .int v5), (6, .int r21)]) hx hb dX6_clashesOf_95 hl (k := 7) rfl rfl (by decide) rfl (fun ls hl => ?_)
                      refine lv_goto (tgt := 46) hx hb dX6_clashesOf_98 (by decide) ?_
                      exact ih46 _ _ _ h (lv_sub hl [2, 3, 4, 5, 1, 6, 7, 0] rfl)
                    · replace h := sw_t h cc
                      refine lv_iconst (v := 1) hx hb dX6_clashesOf_87 (by decide) ?_
                      refine lv_goto (tgt := 92) hx hb dX6_clashesOf_88 (by decide) ?_
                      refine lv_iadd hx hb dX6_clashesOf_92 ?_
                      obtain ⟨y93, ey93, h⟩ := swlt_s h
                      refine sw_top ey93 ?_
                      refine lv_istore (lv' := [(4, .int y93), (0, .ref (ad 0)), (1, .int x1), (2, .int x2), (3, .int x3), (5, .int v5), (6, .int r21), (7, .int v7)]) hx hb dX6_clashesOf_93 hl (by decide) rfl (fun ls hl => ?_)
                      refine lv_iinc (v := (v7 + 1)) (lv' := [(7, .int (v7 + 1)), (4, .int y93), (0, .ref (ad 0)), (1, .int x1), (2, .int x2), (3, .int x3), (5, .int v5), (6, .int r21)]) hx hb dX6_clashesOf_95 hl (k := 7) rfl rfl (by decide) rfl (fun ls hl => ?_)
                      refine lv_goto (tgt := 46) hx hb dX6_clashesOf_98 (by decide) ?_
                      exact ih46 _ _ _ h (lv_sub hl [2, 3, 4, 5, 1, 6, 7, 0] rfl)
          refine L46 _ (fun v4 v7 ls h hl => ?_) 64 _ _ _ h (lv_sub hl [3, 4, 5, 6, 1, 7, 2, 0] rfl)
          refine lv_iinc (v := (v5 + 1)) (lv' := [(5, .int (v5 + 1)), (0, .ref (ad 0)), (1, .int x1), (2, .int x2), (3, .int x3), (4, .int v4), (6, .int r21), (7, .int v7)]) hx hb dX6_clashesOf_101 hl (k := 5) rfl rfl (by decide) rfl (fun ls hl => ?_)
          refine lv_goto (tgt := 6) hx hb dX6_clashesOf_104 (by decide) ?_
          exact ih6 _ _ _ h (lv_sub hl [1, 2, 3, 4, 5, 0] rfl)
        · replace h := sw_t h cc
          refine lv_iconst (v := 1) hx hb dX6_clashesOf_35 (by decide) ?_
          refine lv_goto (tgt := 40) hx hb dX6_clashesOf_36 (by decide) ?_
          refine lv_iadd hx hb dX6_clashesOf_40 ?_
          obtain ⟨y41, ey41, h⟩ := swlt_s h
          refine sw_top ey41 ?_
          refine lv_istore (lv' := [(4, .int y41), (6, .int r21), (0, .ref (ad 0)), (1, .int x1), (2, .int x2), (3, .int x3), (5, .int v5)]) hx hb dX6_clashesOf_41 hl (by decide) rfl (fun ls hl => ?_)
          refine lv_iconst (v := 0) hx hb dX6_clashesOf_43 (by decide) ?_
          refine lv_istore (lv' := [(7, .int 0), (4, .int y41), (6, .int r21), (0, .ref (ad 0)), (1, .int x1), (2, .int x2), (3, .int x3), (5, .int v5)]) hx hb dX6_clashesOf_44 hl (by decide) rfl (fun ls hl => ?_)
          have L46 : ∀ (kk : Int32 → Int32 → Option (Int32)), (∀ (v4 : Int32) (v7 : Int32) (ls : Array Slot), kk v4 v7 = some r0 → lv_has ls 8 [(0, .ref (ad 0)), (1, .int x1), (2, .int x2), (3, .int x3), (4, .int v4), (5, .int v5), (6, .int r21), (7, .int v7)] → W p l e (headSpec wsX6_clashesOf rmX6_clashesOf).room s m args below meth c s.heap [] 0 0 (MQ below (vp_Si (fun r : Int32 => r = r0)) args s 0 0 (fun _ => False)) (F0 m 101 ls [])) → ∀ (n : Nat) (v4 : Int32) (v7 : Int32) (ls : Array Slot), mx_clashesOf_L46 u x1 x2 x3 v5 r21 kk n v4 v7 = some r0 → lv_has ls 8 [(0, .ref (ad 0)), (1, .int x1), (2, .int x2), (3, .int x3), (4, .int v4), (5, .int v5), (6, .int r21), (7, .int v7)] → W p l e (headSpec wsX6_clashesOf rmX6_clashesOf).room s m args below meth c s.heap [] 0 0 (MQ below (vp_Si (fun r : Int32 => r = r0)) args s 0 0 (fun _ => False)) (F0 m 46 ls []) := by
            intro kk hk46 n
            induction n with
            | zero => intro v4 v7 ls h hl; rw [mx_clashesOf_L46] at h; cases h
            | succ n ih46 =>
              intro v4 v7 ls h hl
              rw [mx_clashesOf_L46] at h
              refine lv_iload hx hb dX6_clashesOf_46 (lv_at hl 7 rfl) ?_
              refine lv_iconst (v := 4) hx hb dX6_clashesOf_48 (by decide) ?_
              refine lv_icmp_ge (tgt := 101) hx hb dX6_clashesOf_49 (by decide) (fun cc => ?_) (fun cc => ?_)
              · replace h := sw_t h cc
                exact hk46 _ _ _ h (lv_sub hl [0, 1, 2, 3, 4, 5, 6, 7] rfl)
              · replace h := sw_f h cc
                refine lv_iload hx hb dX6_clashesOf_52 (lv_at hl 6 rfl) ?_
                refine lv_iconst (v := 3) hx hb dX6_clashesOf_54 (by decide) ?_
                refine lv_icmp_lt (tgt := 101) hx hb dX6_clashesOf_55 (by decide) (fun cc => ?_) (fun cc => ?_)
                · replace h := sw_t h cc
                  exact hk46 _ _ _ h (lv_sub hl [0, 1, 2, 3, 4, 5, 6, 7] rfl)
                · replace h := sw_f h cc
                  refine lv_iload hx hb dX6_clashesOf_58 (lv_at hl 4 rfl) ?_
                  refine lv_aload_n hx hb dX6_clashesOf_60 rfl (lv_at hl 0 rfl) ?_
                  refine lv_iload_n hx hb dX6_clashesOf_61 rfl (lv_at hl 1 rfl) ?_
                  refine lv_iload_n hx hb dX6_clashesOf_62 rfl (lv_at hl 2 rfl) ?_
                  refine lv_iload_n hx hb dX6_clashesOf_63 rfl (lv_at hl 3 rfl) ?_
                  refine lv_iload hx hb dX6_clashesOf_64 (lv_at hl 5 rfl) ?_
                  refine lv_iload hx hb dX6_clashesOf_66 (lv_at hl 7 rfl) ?_
                  refine lv_iload hx hb dX6_clashesOf_68 (lv_at hl 6 rfl) ?_
                  refine lv_iconst (v := 4) hx hb dX6_clashesOf_70 (by decide) ?_
                  refine lv_icmp_ne (tgt := 78) hx hb dX6_clashesOf_71 (by decide) (fun cc => ?_) (fun cc => ?_)
                  · replace h := sw_f h cc
                    refine lv_iconst (v := 0) hx hb dX6_clashesOf_78 (by decide) ?_
                    obtain ⟨r79, er79, h⟩ := swbd_s h
                    refine mw_calli (As := [.int x1, .int x2, .int x3, .int v5, .int v7, .int 0]) (rest := [.int v4]) E (mm_meets l D cy ad u x1 x2 x3 v5 v7 false _ er79) (cwV 6 hts gX6_clashesOf_X6_meets rfl rfl rfl (by decide +kernel) ⟨Nat.le_of_ble_eq_true rfl, Nat.le_of_ble_eq_true rfl⟩) hK hP rfl hl.1 rfl (Nat.le_of_ble_eq_true rfl) dX6_clashesOf_79 ?_
                    refine lv_bipush (v := (-3)) hx hb dX6_clashesOf_82 (by decide) ?_
                    refine lv_icmp_ne (tgt := 91) hx hb dX6_clashesOf_84 (by decide) (fun cc => ?_) (fun cc => ?_)
                    · replace h := sw_f h cc
                      refine lv_iconst (v := 0) hx hb dX6_clashesOf_91 (by decide) ?_
                      refine lv_iadd hx hb dX6_clashesOf_92 ?_
                      obtain ⟨y93, ey93, h⟩ := swlt_s h
                      refine sw_top ey93 ?_
                      refine lv_istore (lv' := [(4, .int y93), (0, .ref (ad 0)), (1, .int x1), (2, .int x2), (3, .int x3), (5, .int v5), (6, .int r21), (7, .int v7)]) hx hb dX6_clashesOf_93 hl (by decide) rfl (fun ls hl => ?_)
                      refine lv_iinc (v := (v7 + 1)) (lv' := [(7, .int (v7 + 1)), (4, .int y93), (0, .ref (ad 0)), (1, .int x1), (2, .int x2), (3, .int x3), (5, .int v5), (6, .int r21)]) hx hb dX6_clashesOf_95 hl (k := 7) rfl rfl (by decide) rfl (fun ls hl => ?_)
                      refine lv_goto (tgt := 46) hx hb dX6_clashesOf_98 (by decide) ?_
                      exact ih46 _ _ _ h (lv_sub hl [2, 3, 4, 5, 1, 6, 7, 0] rfl)
                    · replace h := sw_t h cc
                      refine lv_iconst (v := 1) hx hb dX6_clashesOf_87 (by decide) ?_
                      refine lv_goto (tgt := 92) hx hb dX6_clashesOf_88 (by decide) ?_
                      refine lv_iadd hx hb dX6_clashesOf_92 ?_
                      obtain ⟨y93, ey93, h⟩ := swlt_s h
                      refine sw_top ey93 ?_
                      refine lv_istore (lv' := [(4, .int y93), (0, .ref (ad 0)), (1, .int x1), (2, .int x2), (3, .int x3), (5, .int v5), (6, .int r21), (7, .int v7)]) hx hb dX6_clashesOf_93 hl (by decide) rfl (fun ls hl => ?_)
                      refine lv_iinc (v := (v7 + 1)) (lv' := [(7, .int (v7 + 1)), (4, .int y93), (0, .ref (ad 0)), (1, .int x1), (2, .int x2), (3, .int x3), (5, .int v5), (6, .int r21)]) hx hb dX6_clashesOf_95 hl (k := 7) rfl rfl (by decide) rfl (fun ls hl => ?_)
                      refine lv_goto (tgt := 46) hx hb dX6_clashesOf_98 (by decide) ?_
                      exact ih46 _ _ _ h (lv_sub hl [2, 3, 4, 5, 1, 6, 7, 0] rfl)
                  · replace h := sw_t h cc
                    refine lv_iconst (v := 1) hx hb dX6_clashesOf_74 (by decide) ?_
                    refine lv_goto (tgt := 79) hx hb dX6_clashesOf_75 (by decide) ?_
                    obtain ⟨r79, er79, h⟩ := swbd_s h
                    refine mw_calli (As := [.int x1, .int x2, .int x3, .int v5, .int v7, .int 1]) (rest := [.int v4]) E (mm_meets l D cy ad u x1 x2 x3 v5 v7 true _ er79) (cwV 6 hts gX6_clashesOf_X6_meets rfl rfl rfl (by decide +kernel) ⟨Nat.le_of_ble_eq_true rfl, Nat.le_of_ble_eq_true rfl⟩) hK hP rfl hl.1 rfl (Nat.le_of_ble_eq_true rfl) dX6_clashesOf_79 ?_
                    refine lv_bipush (v := (-3)) hx hb dX6_clashesOf_82 (by decide) ?_
                    refine lv_icmp_ne (tgt := 91) hx hb dX6_clashesOf_84 (by decide) (fun cc => ?_) (fun cc => ?_)
                    · replace h := sw_f h cc
                      refine lv_iconst (v := 0) hx hb dX6_clashesOf_91 (by decide) ?_
                      refine lv_iadd hx hb dX6_clashesOf_92 ?_
                      obtain ⟨y93, ey93, h⟩ := swlt_s h
                      refine sw_top ey93 ?_
                      refine lv_istore (lv' := [(4, .int y93), (0, .ref (ad 0)), (1, .int x1), (2, .int x2), (3, .int x3), (5, .int v5), (6, .int r21), (7, .int v7)]) hx hb dX6_clashesOf_93 hl (by decide) rfl (fun ls hl => ?_)
                      refine lv_iinc (v := (v7 + 1)) (lv' := [(7, .int (v7 + 1)), (4, .int y93), (0, .ref (ad 0)), (1, .int x1), (2, .int x2), (3, .int x3), (5, .int v5), (6, .int r21)]) hx hb dX6_clashesOf_95 hl (k := 7) rfl rfl (by decide) rfl (fun ls hl => ?_)
                      refine lv_goto (tgt := 46) hx hb dX6_clashesOf_98 (by decide) ?_
                      exact ih46 _ _ _ h (lv_sub hl [2, 3, 4, 5, 1, 6, 7, 0] rfl)
                    · replace h := sw_t h cc
                      refine lv_iconst (v := 1) hx hb dX6_clashesOf_87 (by decide) ?_
                      refine lv_goto (tgt := 92) hx hb dX6_clashesOf_88 (by decide) ?_
                      refine lv_iadd hx hb dX6_clashesOf_92 ?_
                      obtain ⟨y93, ey93, h⟩ := swlt_s h
                      refine sw_top ey93 ?_
                      refine lv_istore (lv' := [(4, .int y93), (0, .ref (ad 0)), (1, .int x1), (2, .int x2), (3, .int x3), (5, .int v5), (6, .int r21), (7, .int v7)]) hx hb dX6_clashesOf_93 hl (by decide) rfl (fun ls hl => ?_)
                      refine lv_iinc (v := (v7 + 1)) (lv' := [(7, .int (v7 + 1)), (4, .int y93), (0, .ref (ad 0)), (1, .int x1), (2, .int x2), (3, .int x3), (5, .int v5), (6, .int r21)]) hx hb dX6_clashesOf_95 hl (k := 7) rfl rfl (by decide) rfl (fun ls hl => ?_)
                      refine lv_goto (tgt := 46) hx hb dX6_clashesOf_98 (by decide) ?_
                      exact ih46 _ _ _ h (lv_sub hl [2, 3, 4, 5, 1, 6, 7, 0] rfl)
          refine L46 _ (fun v4 v7 ls h hl => ?_) 64 _ _ _ h (lv_sub hl [3, 4, 5, 6, 1, 7, 2, 0] rfl)
          refine lv_iinc (v := (v5 + 1)) (lv' := [(5, .int (v5 + 1)), (0, .ref (ad 0)), (1, .int x1), (2, .int x2), (3, .int x3), (4, .int v4), (6, .int r21), (7, .int v7)]) hx hb dX6_clashesOf_101 hl (k := 5) rfl rfl (by decide) rfl (fun ls hl => ?_)
          refine lv_goto (tgt := 6) hx hb dX6_clashesOf_104 (by decide) ?_
          exact ih6 _ _ _ h (lv_sub hl [1, 2, 3, 4, 5, 0] rfl)
  refine L6 _ (fun v4 v5 ls h hl => ?_) 64 _ _ _ h (lv_sub hl [2, 3, 4, 5, 1, 0] rfl)
  refine lv_iload hx hb dX6_clashesOf_107 (lv_at hl 4 rfl) ?_
  exact W.iret hx hb hr (fun t ht hW => ⟨_, rfl, sw_in1 h, ht⟩) (fun q hq => by cases hq) dX6_clashesOf_109 hlocks

/-! settles -/
def mx_settles (u : swU) (x1 : Int32) (x2 : Int32) (x3 : Int32) (x4 : Int32) (x5 : Int32) (x6 : Int32) : Option (Int32) :=
  swbd (mx_fate u x1 x2 x3 x4) fun r6 => if x6 = 0 then (if r6 = (-2) then (some (-1)) else (if r6 = (-3) then (swbd (mx_placeOf u x2 x4) fun r42 => if r42 = (-1) then (some (-1)) else (if r6 = 1 then (if r6 = 1 then (swbd (mx_valueOf u x2 x4 x5) fun r79 => some r79) else (swbd (mx_valueOf u x3 x4 x5) fun r79 => some r79)) else (if r6 = 2 then (if r6 = 1 then (swbd (mx_valueOf u x2 x4 x5) fun r79 => some r79) else (swbd (mx_valueOf u x3 x4 x5) fun r79 => some r79)) else (if r6 = (-3) then (swbd (mx_valueOf u x2 x4 x5) fun r133 => some r133) else (if r6 = 4 then (swbd (mx_meets u x1 x2 x3 x4 x5 true) fun r114 => if r114 = (-3) then (swbd (mx_valueOf u x2 x4 x5) fun r133 => some r133) else (some r114)) else (swbd (mx_meets u x1 x2 x3 x4 x5 false) fun r114 => if r114 = (-3) then (swbd (mx_valueOf u x2 x4 x5) fun r133 => some r133) else (some r114))))))) else (if r6 = 1 then (if r6 = 1 then (swbd (mx_valueOf u x2 x4 x5) fun r79 => some r79) else (swbd (mx_valueOf u x3 x4 x5) fun r79 => some r79)) else (if r6 = 2 then (if r6 = 1 then (swbd (mx_valueOf u x2 x4 x5) fun r79 => some r79) else (swbd (mx_valueOf u x3 x4 x5) fun r79 => some r79)) else (if r6 = (-3) then (swbd (mx_valueOf u x2 x4 x5) fun r133 => some r133) else (if r6 = 4 then (swbd (mx_meets u x1 x2 x3 x4 x5 true) fun r114 => if r114 = (-3) then (swbd (mx_valueOf u x2 x4 x5) fun r133 => some r133) else (some r114)) else (swbd (mx_meets u x1 x2 x3 x4 x5 false) fun r114 => if r114 = (-3) then (swbd (mx_valueOf u x2 x4 x5) fun r133 => some r133) else (some r114)))))))) else (if r6 = (-2) then (some (-1)) else (if r6 = (-3) then (swbd (mx_placeOf u x3 x4) fun r42 => if r42 = (-1) then (some (-1)) else (if r6 = 1 then (if r6 = 1 then (swbd (mx_valueOf u x2 x4 x5) fun r79 => some r79) else (swbd (mx_valueOf u x3 x4 x5) fun r79 => some r79)) else (if r6 = 2 then (if r6 = 1 then (swbd (mx_valueOf u x2 x4 x5) fun r79 => some r79) else (swbd (mx_valueOf u x3 x4 x5) fun r79 => some r79)) else (if r6 = (-3) then (swbd (mx_valueOf u x3 x4 x5) fun r133 => some r133) else (if r6 = 4 then (swbd (mx_meets u x1 x2 x3 x4 x5 true) fun r114 => if r114 = (-3) then (swbd (mx_valueOf u x3 x4 x5) fun r133 => some r133) else (some r114)) else (swbd (mx_meets u x1 x2 x3 x4 x5 false) fun r114 => if r114 = (-3) then (swbd (mx_valueOf u x3 x4 x5) fun r133 => some r133) else (some r114))))))) else (if r6 = 1 then (if r6 = 1 then (swbd (mx_valueOf u x2 x4 x5) fun r79 => some r79) else (swbd (mx_valueOf u x3 x4 x5) fun r79 => some r79)) else (if r6 = 2 then (if r6 = 1 then (swbd (mx_valueOf u x2 x4 x5) fun r79 => some r79) else (swbd (mx_valueOf u x3 x4 x5) fun r79 => some r79)) else (if r6 = (-3) then (swbd (mx_valueOf u x3 x4 x5) fun r133 => some r133) else (if r6 = 4 then (swbd (mx_meets u x1 x2 x3 x4 x5 true) fun r114 => if r114 = (-3) then (swbd (mx_valueOf u x3 x4 x5) fun r133 => some r133) else (some r114)) else (swbd (mx_meets u x1 x2 x3 x4 x5 false) fun r114 => if r114 = (-3) then (swbd (mx_valueOf u x3 x4 x5) fun r133 => some r133) else (some r114))))))))

abbrev rmX6_settles : Room := { frames := 4, cells := 0, slots := 0, locals := 98 }

set_option maxHeartbeats 4000000 in
set_option maxRecDepth 100000 in
theorem mm_settles (l : Launch) (D : va_G) (cy : Nat → ClassId) (ad : Nat → Nat) (u : swU) (x1 : Int32) (x2 : Int32) (x3 : Int32) (x4 : Int32) (x5 : Int32) (x6 : Int32) (r0 : Int32) (h : mx_settles u x1 x2 x3 x4 x5 x6 = some r0) : Met l yX6_settles wsX6_settles rmX6_settles (mwC D cy ad u [.ref (ad 0), .int x1, .int x2, .int x3, .int x4, .int x5, .int x6]) (vp_Si (fun r : Int32 => r = r0)) 0 0 (fun _ => False) := by
  refine Met.ofW (cc := cX6_settles) (maxL := 10) (ret := (some .int)) (by decide) rfl ?_
  intro p e s m args below meth c s₁ B hml hv
  obtain ⟨ha, hP, hK⟩ := hv
  have hx := B.exec
  have hb := B.bytes
  have hr := B.returns
  have hlocks := B.notSynchronized
  have hts := atoms_spec (ws := wsX6_settles) B.pre
  have hown : s.vm.findClass RX6 = some m.cls := findClass_of_methodNamed B.named
  have E : CallFix p m c cX6_settles 10 s args wsX6_settles RX6 := ⟨hx, hb, hml, hown, hts⟩
  obtain ⟨ls, hl, hent⟩ := sw_entry m (n := 10) ha (Nat.le_of_ble_eq_true rfl)
  rw [hent]
  have hl : lv_has ls 10 [(0, .ref (ad 0)), (1, .int x1), (2, .int x2), (3, .int x3), (4, .int x4), (5, .int x5), (6, .int x6)] := hl
  unfold mx_settles at h
  refine lv_aload_n hx hb dX6_settles_0 rfl (lv_at hl 0 rfl) ?_
  refine lv_iload_n hx hb dX6_settles_1 rfl (lv_at hl 1 rfl) ?_
  refine lv_iload_n hx hb dX6_settles_2 rfl (lv_at hl 2 rfl) ?_
  refine lv_iload_n hx hb dX6_settles_3 rfl (lv_at hl 3 rfl) ?_
  refine lv_iload hx hb dX6_settles_4 (lv_at hl 4 rfl) ?_
  obtain ⟨r6, er6, h⟩ := swbd_s h
  refine mw_calli (As := [.int x1, .int x2, .int x3, .int x4]) (rest := []) E (mm_fate l D cy ad u x1 x2 x3 x4 _ er6) (cwV 4 hts gX6_settles_X6_fate rfl rfl rfl (by decide +kernel) ⟨Nat.le_of_ble_eq_true rfl, Nat.le_of_ble_eq_true rfl⟩) hK hP rfl hl.1 rfl (Nat.le_of_ble_eq_true rfl) dX6_settles_6 ?_
  refine lv_istore (lv' := [(7, .int r6), (0, .ref (ad 0)), (1, .int x1), (2, .int x2), (3, .int x3), (4, .int x4), (5, .int x5), (6, .int x6)]) hx hb dX6_settles_9 hl (by decide) rfl (fun ls hl => ?_)
  refine lv_iload hx hb dX6_settles_11 (lv_at hl 7 rfl) ?_
  refine lv_if_ne (tgt := 20) hx hb dX6_settles_13 (by decide) (fun cc => ?_) (fun cc => ?_)
  · replace h := sw_f h cc
    refine lv_iload_n hx hb dX6_settles_20 rfl (lv_at hl 4 rfl) ?_
    refine lv_istore (lv' := [(8, .int x3), (7, .int r6), (0, .ref (ad 0)), (1, .int x1), (2, .int x2), (3, .int x3), (4, .int x4), (5, .int x5), (6, .int x6)]) hx hb dX6_settles_21 hl (by decide) rfl (fun ls hl => ?_)
    refine lv_iload hx hb dX6_settles_23 (lv_at hl 1 rfl) ?_
    refine lv_bipush (v := (-2)) hx hb dX6_settles_25 (by decide) ?_
    refine lv_icmp_eq (tgt := 49) hx hb dX6_settles_27 (by decide) (fun cc => ?_) (fun cc => ?_)
    · replace h := sw_t h cc
      refine lv_iconst (v := (-1)) hx hb dX6_settles_49 (by decide) ?_
      exact W.iret hx hb hr (fun t ht hW => ⟨_, rfl, sw_in1 h, ht⟩) (fun q hq => by cases hq) dX6_settles_50 hlocks
    · replace h := sw_f h cc
      refine lv_iload hx hb dX6_settles_30 (lv_at hl 1 rfl) ?_
      refine lv_bipush (v := (-3)) hx hb dX6_settles_32 (by decide) ?_
      refine lv_icmp_ne (tgt := 51) hx hb dX6_settles_34 (by decide) (fun cc => ?_) (fun cc => ?_)
      · replace h := sw_f h cc
        refine lv_iload hx hb dX6_settles_51 (lv_at hl 1 rfl) ?_
        refine lv_iconst (v := 1) hx hb dX6_settles_53 (by decide) ?_
        refine lv_icmp_eq (tgt := 63) hx hb dX6_settles_54 (by decide) (fun cc => ?_) (fun cc => ?_)
        · replace h := sw_t h cc
          refine lv_aload_n hx hb dX6_settles_63 rfl (lv_at hl 2 rfl) ?_
          refine lv_iload hx hb dX6_settles_64 (lv_at hl 1 rfl) ?_
          refine lv_iconst (v := 1) hx hb dX6_settles_66 (by decide) ?_
          refine lv_icmp_ne (tgt := 74) hx hb dX6_settles_67 (by decide) (fun cc => ?_) (fun cc => ?_)
          · replace h := sw_f h cc
            refine lv_iload_n hx hb dX6_settles_74 rfl (lv_at hl 5 rfl) ?_
            refine lv_iload hx hb dX6_settles_75 (lv_at hl 6 rfl) ?_
            refine lv_iload hx hb dX6_settles_77 (lv_at hl 7 rfl) ?_
            obtain ⟨r79, er79, h⟩ := swbd_s h
            refine mw_calli (As := [.int x3, .int x4, .int x5]) (rest := []) E (mm_valueOf l D cy ad u x3 x4 x5 _ er79) (cwV 3 hts gX6_settles_X6_valueOf rfl rfl rfl (by decide +kernel) ⟨Nat.le_of_ble_eq_true rfl, Nat.le_of_ble_eq_true rfl⟩) hK hP rfl hl.1 rfl (Nat.le_of_ble_eq_true rfl) dX6_settles_79 ?_
            exact W.iret hx hb hr (fun t ht hW => ⟨_, rfl, sw_in1 h, ht⟩) (fun q hq => by cases hq) dX6_settles_82 hlocks
          · replace h := sw_t h cc
            refine lv_iload_n hx hb dX6_settles_70 rfl (lv_at hl 4 rfl) ?_
            refine lv_goto (tgt := 75) hx hb dX6_settles_71 (by decide) ?_
            refine lv_iload hx hb dX6_settles_75 (lv_at hl 6 rfl) ?_
            refine lv_iload hx hb dX6_settles_77 (lv_at hl 7 rfl) ?_
            obtain ⟨r79, er79, h⟩ := swbd_s h
            refine mw_calli (As := [.int x2, .int x4, .int x5]) (rest := []) E (mm_valueOf l D cy ad u x2 x4 x5 _ er79) (cwV 3 hts gX6_settles_X6_valueOf rfl rfl rfl (by decide +kernel) ⟨Nat.le_of_ble_eq_true rfl, Nat.le_of_ble_eq_true rfl⟩) hK hP rfl hl.1 rfl (Nat.le_of_ble_eq_true rfl) dX6_settles_79 ?_
            exact W.iret hx hb hr (fun t ht hW => ⟨_, rfl, sw_in1 h, ht⟩) (fun q hq => by cases hq) dX6_settles_82 hlocks
        · replace h := sw_f h cc
          refine lv_iload hx hb dX6_settles_57 (lv_at hl 1 rfl) ?_
          refine lv_iconst (v := 2) hx hb dX6_settles_59 (by decide) ?_
          refine lv_icmp_ne (tgt := 83) hx hb dX6_settles_60 (by decide) (fun cc => ?_) (fun cc => ?_)
          · replace h := sw_f h cc
            refine lv_iload hx hb dX6_settles_83 (lv_at hl 1 rfl) ?_
            refine lv_bipush (v := (-3)) hx hb dX6_settles_85 (by decide) ?_
            refine lv_icmp_ne (tgt := 95) hx hb dX6_settles_87 (by decide) (fun cc => ?_) (fun cc => ?_)
            · replace h := sw_f h cc
              refine lv_aload_n hx hb dX6_settles_95 rfl (lv_at hl 2 rfl) ?_
              refine lv_iload_n hx hb dX6_settles_96 rfl (lv_at hl 3 rfl) ?_
              refine lv_iload_n hx hb dX6_settles_97 rfl (lv_at hl 4 rfl) ?_
              refine lv_iload_n hx hb dX6_settles_98 rfl (lv_at hl 5 rfl) ?_
              refine lv_iload hx hb dX6_settles_99 (lv_at hl 6 rfl) ?_
              refine lv_iload hx hb dX6_settles_101 (lv_at hl 7 rfl) ?_
              refine lv_iload hx hb dX6_settles_103 (lv_at hl 1 rfl) ?_
              refine lv_iconst (v := 4) hx hb dX6_settles_105 (by decide) ?_
              refine lv_icmp_ne (tgt := 113) hx hb dX6_settles_106 (by decide) (fun cc => ?_) (fun cc => ?_)
              · replace h := sw_f h cc
                refine lv_iconst (v := 0) hx hb dX6_settles_113 (by decide) ?_
                obtain ⟨r114, er114, h⟩ := swbd_s h
                refine mw_calli (As := [.int x1, .int x2, .int x3, .int x4, .int x5, .int 0]) (rest := []) E (mm_meets l D cy ad u x1 x2 x3 x4 x5 false _ er114) (cwV 6 hts gX6_settles_X6_meets rfl rfl rfl (by decide +kernel) ⟨Nat.le_of_ble_eq_true rfl, Nat.le_of_ble_eq_true rfl⟩) hK hP rfl hl.1 rfl (Nat.le_of_ble_eq_true rfl) dX6_settles_114 ?_
                refine lv_istore (lv' := [(9, .int r114), (8, .int x3), (7, .int r6), (0, .ref (ad 0)), (1, .int x1), (2, .int x2), (3, .int x3), (4, .int x4), (5, .int x5), (6, .int x6)]) hx hb dX6_settles_117 hl (by decide) rfl (fun ls hl => ?_)
                refine lv_iload hx hb dX6_settles_119 (lv_at hl 0 rfl) ?_
                refine lv_bipush (v := (-3)) hx hb dX6_settles_121 (by decide) ?_
                refine lv_icmp_ne (tgt := 139) hx hb dX6_settles_123 (by decide) (fun cc => ?_) (fun cc => ?_)
                · replace h := sw_f h cc
                  refine lv_iload hx hb dX6_settles_139 (lv_at hl 0 rfl) ?_
                  exact W.iret hx hb hr (fun t ht hW => ⟨_, rfl, sw_in1 h, ht⟩) (fun q hq => by cases hq) dX6_settles_141 hlocks
                · replace h := sw_t h cc
                  refine lv_aload_n hx hb dX6_settles_126 rfl (lv_at hl 3 rfl) ?_
                  refine lv_iload hx hb dX6_settles_127 (lv_at hl 1 rfl) ?_
                  refine lv_iload hx hb dX6_settles_129 (lv_at hl 7 rfl) ?_
                  refine lv_iload hx hb dX6_settles_131 (lv_at hl 8 rfl) ?_
                  obtain ⟨r133, er133, h⟩ := swbd_s h
                  refine mw_calli (As := [.int x3, .int x4, .int x5]) (rest := []) E (mm_valueOf l D cy ad u x3 x4 x5 _ er133) (cwV 3 hts gX6_settles_X6_valueOf rfl rfl rfl (by decide +kernel) ⟨Nat.le_of_ble_eq_true rfl, Nat.le_of_ble_eq_true rfl⟩) hK hP rfl hl.1 rfl (Nat.le_of_ble_eq_true rfl) dX6_settles_133 ?_
                  refine lv_goto (tgt := 141) hx hb dX6_settles_136 (by decide) ?_
                  exact W.iret hx hb hr (fun t ht hW => ⟨_, rfl, sw_in1 h, ht⟩) (fun q hq => by cases hq) dX6_settles_141 hlocks
              · replace h := sw_t h cc
                refine lv_iconst (v := 1) hx hb dX6_settles_109 (by decide) ?_
                refine lv_goto (tgt := 114) hx hb dX6_settles_110 (by decide) ?_
                obtain ⟨r114, er114, h⟩ := swbd_s h
                refine mw_calli (As := [.int x1, .int x2, .int x3, .int x4, .int x5, .int 1]) (rest := []) E (mm_meets l D cy ad u x1 x2 x3 x4 x5 true _ er114) (cwV 6 hts gX6_settles_X6_meets rfl rfl rfl (by decide +kernel) ⟨Nat.le_of_ble_eq_true rfl, Nat.le_of_ble_eq_true rfl⟩) hK hP rfl hl.1 rfl (Nat.le_of_ble_eq_true rfl) dX6_settles_114 ?_
                refine lv_istore (lv' := [(9, .int r114), (8, .int x3), (7, .int r6), (0, .ref (ad 0)), (1, .int x1), (2, .int x2), (3, .int x3), (4, .int x4), (5, .int x5), (6, .int x6)]) hx hb dX6_settles_117 hl (by decide) rfl (fun ls hl => ?_)
                refine lv_iload hx hb dX6_settles_119 (lv_at hl 0 rfl) ?_
                refine lv_bipush (v := (-3)) hx hb dX6_settles_121 (by decide) ?_
                refine lv_icmp_ne (tgt := 139) hx hb dX6_settles_123 (by decide) (fun cc => ?_) (fun cc => ?_)
                · replace h := sw_f h cc
                  refine lv_iload hx hb dX6_settles_139 (lv_at hl 0 rfl) ?_
                  exact W.iret hx hb hr (fun t ht hW => ⟨_, rfl, sw_in1 h, ht⟩) (fun q hq => by cases hq) dX6_settles_141 hlocks
                · replace h := sw_t h cc
                  refine lv_aload_n hx hb dX6_settles_126 rfl (lv_at hl 3 rfl) ?_
                  refine lv_iload hx hb dX6_settles_127 (lv_at hl 1 rfl) ?_
                  refine lv_iload hx hb dX6_settles_129 (lv_at hl 7 rfl) ?_
                  refine lv_iload hx hb dX6_settles_131 (lv_at hl 8 rfl) ?_
                  obtain ⟨r133, er133, h⟩ := swbd_s h
                  refine mw_calli (As := [.int x3, .int x4, .int x5]) (rest := []) E (mm_valueOf l D cy ad u x3 x4 x5 _ er133) (cwV 3 hts gX6_settles_X6_valueOf rfl rfl rfl (by decide +kernel) ⟨Nat.le_of_ble_eq_true rfl, Nat.le_of_ble_eq_true rfl⟩) hK hP rfl hl.1 rfl (Nat.le_of_ble_eq_true rfl) dX6_settles_133 ?_
                  refine lv_goto (tgt := 141) hx hb dX6_settles_136 (by decide) ?_
                  exact W.iret hx hb hr (fun t ht hW => ⟨_, rfl, sw_in1 h, ht⟩) (fun q hq => by cases hq) dX6_settles_141 hlocks
            · replace h := sw_t h cc
              refine lv_bipush (v := (-3)) hx hb dX6_settles_90 (by decide) ?_
              refine lv_goto (tgt := 117) hx hb dX6_settles_92 (by decide) ?_
              refine lv_istore (lv' := [(9, .int (-3)), (8, .int x3), (7, .int r6), (0, .ref (ad 0)), (1, .int x1), (2, .int x2), (3, .int x3), (4, .int x4), (5, .int x5), (6, .int x6)]) hx hb dX6_settles_117 hl (by decide) rfl (fun ls hl => ?_)
              refine lv_iload hx hb dX6_settles_119 (lv_at hl 0 rfl) ?_
              refine lv_bipush (v := (-3)) hx hb dX6_settles_121 (by decide) ?_
              refine lv_icmp_ne (tgt := 139) hx hb dX6_settles_123 (by decide) (fun cc => absurd cc (by decide)) (fun cc => ?_)
              refine lv_aload_n hx hb dX6_settles_126 rfl (lv_at hl 3 rfl) ?_
              refine lv_iload hx hb dX6_settles_127 (lv_at hl 1 rfl) ?_
              refine lv_iload hx hb dX6_settles_129 (lv_at hl 7 rfl) ?_
              refine lv_iload hx hb dX6_settles_131 (lv_at hl 8 rfl) ?_
              obtain ⟨r133, er133, h⟩ := swbd_s h
              refine mw_calli (As := [.int x3, .int x4, .int x5]) (rest := []) E (mm_valueOf l D cy ad u x3 x4 x5 _ er133) (cwV 3 hts gX6_settles_X6_valueOf rfl rfl rfl (by decide +kernel) ⟨Nat.le_of_ble_eq_true rfl, Nat.le_of_ble_eq_true rfl⟩) hK hP rfl hl.1 rfl (Nat.le_of_ble_eq_true rfl) dX6_settles_133 ?_
              refine lv_goto (tgt := 141) hx hb dX6_settles_136 (by decide) ?_
              exact W.iret hx hb hr (fun t ht hW => ⟨_, rfl, sw_in1 h, ht⟩) (fun q hq => by cases hq) dX6_settles_141 hlocks
          · replace h := sw_t h cc
            refine lv_aload_n hx hb dX6_settles_63 rfl (lv_at hl 2 rfl) ?_
            refine lv_iload hx hb dX6_settles_64 (lv_at hl 1 rfl) ?_
            refine lv_iconst (v := 1) hx hb dX6_settles_66 (by decide) ?_
            refine lv_icmp_ne (tgt := 74) hx hb dX6_settles_67 (by decide) (fun cc => ?_) (fun cc => ?_)
            · replace h := sw_f h cc
              refine lv_iload_n hx hb dX6_settles_74 rfl (lv_at hl 5 rfl) ?_
              refine lv_iload hx hb dX6_settles_75 (lv_at hl 6 rfl) ?_
              refine lv_iload hx hb dX6_settles_77 (lv_at hl 7 rfl) ?_
              obtain ⟨r79, er79, h⟩ := swbd_s h
              refine mw_calli (As := [.int x3, .int x4, .int x5]) (rest := []) E (mm_valueOf l D cy ad u x3 x4 x5 _ er79) (cwV 3 hts gX6_settles_X6_valueOf rfl rfl rfl (by decide +kernel) ⟨Nat.le_of_ble_eq_true rfl, Nat.le_of_ble_eq_true rfl⟩) hK hP rfl hl.1 rfl (Nat.le_of_ble_eq_true rfl) dX6_settles_79 ?_
              exact W.iret hx hb hr (fun t ht hW => ⟨_, rfl, sw_in1 h, ht⟩) (fun q hq => by cases hq) dX6_settles_82 hlocks
            · replace h := sw_t h cc
              refine lv_iload_n hx hb dX6_settles_70 rfl (lv_at hl 4 rfl) ?_
              refine lv_goto (tgt := 75) hx hb dX6_settles_71 (by decide) ?_
              refine lv_iload hx hb dX6_settles_75 (lv_at hl 6 rfl) ?_
              refine lv_iload hx hb dX6_settles_77 (lv_at hl 7 rfl) ?_
              obtain ⟨r79, er79, h⟩ := swbd_s h
              refine mw_calli (As := [.int x2, .int x4, .int x5]) (rest := []) E (mm_valueOf l D cy ad u x2 x4 x5 _ er79) (cwV 3 hts gX6_settles_X6_valueOf rfl rfl rfl (by decide +kernel) ⟨Nat.le_of_ble_eq_true rfl, Nat.le_of_ble_eq_true rfl⟩) hK hP rfl hl.1 rfl (Nat.le_of_ble_eq_true rfl) dX6_settles_79 ?_
              exact W.iret hx hb hr (fun t ht hW => ⟨_, rfl, sw_in1 h, ht⟩) (fun q hq => by cases hq) dX6_settles_82 hlocks
      · replace h := sw_t h cc
        refine lv_aload_n hx hb dX6_settles_37 rfl (lv_at hl 2 rfl) ?_
        refine lv_iload hx hb dX6_settles_38 (lv_at hl 0 rfl) ?_
        refine lv_iload hx hb dX6_settles_40 (lv_at hl 6 rfl) ?_
        obtain ⟨r42, er42, h⟩ := swbd_s h
        refine mw_calli (As := [.int x3, .int x4]) (rest := []) E (mm_placeOf l D cy ad u x3 x4 _ er42) (cwV 2 hts gX6_settles_X6_placeOf rfl rfl rfl (by decide +kernel) ⟨Nat.le_of_ble_eq_true rfl, Nat.le_of_ble_eq_true rfl⟩) hK hP rfl hl.1 rfl (Nat.le_of_ble_eq_true rfl) dX6_settles_42 ?_
        refine lv_iconst (v := (-1)) hx hb dX6_settles_45 (by decide) ?_
        refine lv_icmp_ne (tgt := 51) hx hb dX6_settles_46 (by decide) (fun cc => ?_) (fun cc => ?_)
        · replace h := sw_f h cc
          refine lv_iload hx hb dX6_settles_51 (lv_at hl 1 rfl) ?_
          refine lv_iconst (v := 1) hx hb dX6_settles_53 (by decide) ?_
          refine lv_icmp_eq (tgt := 63) hx hb dX6_settles_54 (by decide) (fun cc => ?_) (fun cc => ?_)
          · replace h := sw_t h cc
            refine lv_aload_n hx hb dX6_settles_63 rfl (lv_at hl 2 rfl) ?_
            refine lv_iload hx hb dX6_settles_64 (lv_at hl 1 rfl) ?_
            refine lv_iconst (v := 1) hx hb dX6_settles_66 (by decide) ?_
            refine lv_icmp_ne (tgt := 74) hx hb dX6_settles_67 (by decide) (fun cc => ?_) (fun cc => ?_)
            · replace h := sw_f h cc
              refine lv_iload_n hx hb dX6_settles_74 rfl (lv_at hl 5 rfl) ?_
              refine lv_iload hx hb dX6_settles_75 (lv_at hl 6 rfl) ?_
              refine lv_iload hx hb dX6_settles_77 (lv_at hl 7 rfl) ?_
              obtain ⟨r79, er79, h⟩ := swbd_s h
              refine mw_calli (As := [.int x3, .int x4, .int x5]) (rest := []) E (mm_valueOf l D cy ad u x3 x4 x5 _ er79) (cwV 3 hts gX6_settles_X6_valueOf rfl rfl rfl (by decide +kernel) ⟨Nat.le_of_ble_eq_true rfl, Nat.le_of_ble_eq_true rfl⟩) hK hP rfl hl.1 rfl (Nat.le_of_ble_eq_true rfl) dX6_settles_79 ?_
              exact W.iret hx hb hr (fun t ht hW => ⟨_, rfl, sw_in1 h, ht⟩) (fun q hq => by cases hq) dX6_settles_82 hlocks
            · replace h := sw_t h cc
              refine lv_iload_n hx hb dX6_settles_70 rfl (lv_at hl 4 rfl) ?_
              refine lv_goto (tgt := 75) hx hb dX6_settles_71 (by decide) ?_
              refine lv_iload hx hb dX6_settles_75 (lv_at hl 6 rfl) ?_
              refine lv_iload hx hb dX6_settles_77 (lv_at hl 7 rfl) ?_
              obtain ⟨r79, er79, h⟩ := swbd_s h
              refine mw_calli (As := [.int x2, .int x4, .int x5]) (rest := []) E (mm_valueOf l D cy ad u x2 x4 x5 _ er79) (cwV 3 hts gX6_settles_X6_valueOf rfl rfl rfl (by decide +kernel) ⟨Nat.le_of_ble_eq_true rfl, Nat.le_of_ble_eq_true rfl⟩) hK hP rfl hl.1 rfl (Nat.le_of_ble_eq_true rfl) dX6_settles_79 ?_
              exact W.iret hx hb hr (fun t ht hW => ⟨_, rfl, sw_in1 h, ht⟩) (fun q hq => by cases hq) dX6_settles_82 hlocks
          · replace h := sw_f h cc
            refine lv_iload hx hb dX6_settles_57 (lv_at hl 1 rfl) ?_
            refine lv_iconst (v := 2) hx hb dX6_settles_59 (by decide) ?_
            refine lv_icmp_ne (tgt := 83) hx hb dX6_settles_60 (by decide) (fun cc => ?_) (fun cc => ?_)
            · replace h := sw_f h cc
              refine lv_iload hx hb dX6_settles_83 (lv_at hl 1 rfl) ?_
              refine lv_bipush (v := (-3)) hx hb dX6_settles_85 (by decide) ?_
              refine lv_icmp_ne (tgt := 95) hx hb dX6_settles_87 (by decide) (fun cc => ?_) (fun cc => ?_)
              · replace h := sw_f h cc
                refine lv_aload_n hx hb dX6_settles_95 rfl (lv_at hl 2 rfl) ?_
                refine lv_iload_n hx hb dX6_settles_96 rfl (lv_at hl 3 rfl) ?_
                refine lv_iload_n hx hb dX6_settles_97 rfl (lv_at hl 4 rfl) ?_
                refine lv_iload_n hx hb dX6_settles_98 rfl (lv_at hl 5 rfl) ?_
                refine lv_iload hx hb dX6_settles_99 (lv_at hl 6 rfl) ?_
                refine lv_iload hx hb dX6_settles_101 (lv_at hl 7 rfl) ?_
                refine lv_iload hx hb dX6_settles_103 (lv_at hl 1 rfl) ?_
                refine lv_iconst (v := 4) hx hb dX6_settles_105 (by decide) ?_
                refine lv_icmp_ne (tgt := 113) hx hb dX6_settles_106 (by decide) (fun cc => ?_) (fun cc => ?_)
                · replace h := sw_f h cc
                  refine lv_iconst (v := 0) hx hb dX6_settles_113 (by decide) ?_
                  obtain ⟨r114, er114, h⟩ := swbd_s h
                  refine mw_calli (As := [.int x1, .int x2, .int x3, .int x4, .int x5, .int 0]) (rest := []) E (mm_meets l D cy ad u x1 x2 x3 x4 x5 false _ er114) (cwV 6 hts gX6_settles_X6_meets rfl rfl rfl (by decide +kernel) ⟨Nat.le_of_ble_eq_true rfl, Nat.le_of_ble_eq_true rfl⟩) hK hP rfl hl.1 rfl (Nat.le_of_ble_eq_true rfl) dX6_settles_114 ?_
                  refine lv_istore (lv' := [(9, .int r114), (8, .int x3), (7, .int r6), (0, .ref (ad 0)), (1, .int x1), (2, .int x2), (3, .int x3), (4, .int x4), (5, .int x5), (6, .int x6)]) hx hb dX6_settles_117 hl (by decide) rfl (fun ls hl => ?_)
                  refine lv_iload hx hb dX6_settles_119 (lv_at hl 0 rfl) ?_
                  refine lv_bipush (v := (-3)) hx hb dX6_settles_121 (by decide) ?_
                  refine lv_icmp_ne (tgt := 139) hx hb dX6_settles_123 (by decide) (fun cc => ?_) (fun cc => ?_)
                  · replace h := sw_f h cc
                    refine lv_iload hx hb dX6_settles_139 (lv_at hl 0 rfl) ?_
                    exact W.iret hx hb hr (fun t ht hW => ⟨_, rfl, sw_in1 h, ht⟩) (fun q hq => by cases hq) dX6_settles_141 hlocks
                  · replace h := sw_t h cc
                    refine lv_aload_n hx hb dX6_settles_126 rfl (lv_at hl 3 rfl) ?_
                    refine lv_iload hx hb dX6_settles_127 (lv_at hl 1 rfl) ?_
                    refine lv_iload hx hb dX6_settles_129 (lv_at hl 7 rfl) ?_
                    refine lv_iload hx hb dX6_settles_131 (lv_at hl 8 rfl) ?_
                    obtain ⟨r133, er133, h⟩ := swbd_s h
                    refine mw_calli (As := [.int x3, .int x4, .int x5]) (rest := []) E (mm_valueOf l D cy ad u x3 x4 x5 _ er133) (cwV 3 hts gX6_settles_X6_valueOf rfl rfl rfl (by decide +kernel) ⟨Nat.le_of_ble_eq_true rfl, Nat.le_of_ble_eq_true rfl⟩) hK hP rfl hl.1 rfl (Nat.le_of_ble_eq_true rfl) dX6_settles_133 ?_
                    refine lv_goto (tgt := 141) hx hb dX6_settles_136 (by decide) ?_
                    exact W.iret hx hb hr (fun t ht hW => ⟨_, rfl, sw_in1 h, ht⟩) (fun q hq => by cases hq) dX6_settles_141 hlocks
                · replace h := sw_t h cc
                  refine lv_iconst (v := 1) hx hb dX6_settles_109 (by decide) ?_
                  refine lv_goto (tgt := 114) hx hb dX6_settles_110 (by decide) ?_
                  obtain ⟨r114, er114, h⟩ := swbd_s h
                  refine mw_calli (As := [.int x1, .int x2, .int x3, .int x4, .int x5, .int 1]) (rest := []) E (mm_meets l D cy ad u x1 x2 x3 x4 x5 true _ er114) (cwV 6 hts gX6_settles_X6_meets rfl rfl rfl (by decide +kernel) ⟨Nat.le_of_ble_eq_true rfl, Nat.le_of_ble_eq_true rfl⟩) hK hP rfl hl.1 rfl (Nat.le_of_ble_eq_true rfl) dX6_settles_114 ?_
                  refine lv_istore (lv' := [(9, .int r114), (8, .int x3), (7, .int r6), (0, .ref (ad 0)), (1, .int x1), (2, .int x2), (3, .int x3), (4, .int x4), (5, .int x5), (6, .int x6)]) hx hb dX6_settles_117 hl (by decide) rfl (fun ls hl => ?_)
                  refine lv_iload hx hb dX6_settles_119 (lv_at hl 0 rfl) ?_
                  refine lv_bipush (v := (-3)) hx hb dX6_settles_121 (by decide) ?_
                  refine lv_icmp_ne (tgt := 139) hx hb dX6_settles_123 (by decide) (fun cc => ?_) (fun cc => ?_)
                  · replace h := sw_f h cc
                    refine lv_iload hx hb dX6_settles_139 (lv_at hl 0 rfl) ?_
                    exact W.iret hx hb hr (fun t ht hW => ⟨_, rfl, sw_in1 h, ht⟩) (fun q hq => by cases hq) dX6_settles_141 hlocks
                  · replace h := sw_t h cc
                    refine lv_aload_n hx hb dX6_settles_126 rfl (lv_at hl 3 rfl) ?_
                    refine lv_iload hx hb dX6_settles_127 (lv_at hl 1 rfl) ?_
                    refine lv_iload hx hb dX6_settles_129 (lv_at hl 7 rfl) ?_
                    refine lv_iload hx hb dX6_settles_131 (lv_at hl 8 rfl) ?_
                    obtain ⟨r133, er133, h⟩ := swbd_s h
                    refine mw_calli (As := [.int x3, .int x4, .int x5]) (rest := []) E (mm_valueOf l D cy ad u x3 x4 x5 _ er133) (cwV 3 hts gX6_settles_X6_valueOf rfl rfl rfl (by decide +kernel) ⟨Nat.le_of_ble_eq_true rfl, Nat.le_of_ble_eq_true rfl⟩) hK hP rfl hl.1 rfl (Nat.le_of_ble_eq_true rfl) dX6_settles_133 ?_
                    refine lv_goto (tgt := 141) hx hb dX6_settles_136 (by decide) ?_
                    exact W.iret hx hb hr (fun t ht hW => ⟨_, rfl, sw_in1 h, ht⟩) (fun q hq => by cases hq) dX6_settles_141 hlocks
              · replace h := sw_t h cc
                refine lv_bipush (v := (-3)) hx hb dX6_settles_90 (by decide) ?_
                refine lv_goto (tgt := 117) hx hb dX6_settles_92 (by decide) ?_
                refine lv_istore (lv' := [(9, .int (-3)), (8, .int x3), (7, .int r6), (0, .ref (ad 0)), (1, .int x1), (2, .int x2), (3, .int x3), (4, .int x4), (5, .int x5), (6, .int x6)]) hx hb dX6_settles_117 hl (by decide) rfl (fun ls hl => ?_)
                refine lv_iload hx hb dX6_settles_119 (lv_at hl 0 rfl) ?_
                refine lv_bipush (v := (-3)) hx hb dX6_settles_121 (by decide) ?_
                refine lv_icmp_ne (tgt := 139) hx hb dX6_settles_123 (by decide) (fun cc => absurd cc (by decide)) (fun cc => ?_)
                refine lv_aload_n hx hb dX6_settles_126 rfl (lv_at hl 3 rfl) ?_
                refine lv_iload hx hb dX6_settles_127 (lv_at hl 1 rfl) ?_
                refine lv_iload hx hb dX6_settles_129 (lv_at hl 7 rfl) ?_
                refine lv_iload hx hb dX6_settles_131 (lv_at hl 8 rfl) ?_
                obtain ⟨r133, er133, h⟩ := swbd_s h
                refine mw_calli (As := [.int x3, .int x4, .int x5]) (rest := []) E (mm_valueOf l D cy ad u x3 x4 x5 _ er133) (cwV 3 hts gX6_settles_X6_valueOf rfl rfl rfl (by decide +kernel) ⟨Nat.le_of_ble_eq_true rfl, Nat.le_of_ble_eq_true rfl⟩) hK hP rfl hl.1 rfl (Nat.le_of_ble_eq_true rfl) dX6_settles_133 ?_
                refine lv_goto (tgt := 141) hx hb dX6_settles_136 (by decide) ?_
                exact W.iret hx hb hr (fun t ht hW => ⟨_, rfl, sw_in1 h, ht⟩) (fun q hq => by cases hq) dX6_settles_141 hlocks
            · replace h := sw_t h cc
              refine lv_aload_n hx hb dX6_settles_63 rfl (lv_at hl 2 rfl) ?_
              refine lv_iload hx hb dX6_settles_64 (lv_at hl 1 rfl) ?_
              refine lv_iconst (v := 1) hx hb dX6_settles_66 (by decide) ?_
              refine lv_icmp_ne (tgt := 74) hx hb dX6_settles_67 (by decide) (fun cc => ?_) (fun cc => ?_)
              · replace h := sw_f h cc
                refine lv_iload_n hx hb dX6_settles_74 rfl (lv_at hl 5 rfl) ?_
                refine lv_iload hx hb dX6_settles_75 (lv_at hl 6 rfl) ?_
                refine lv_iload hx hb dX6_settles_77 (lv_at hl 7 rfl) ?_
                obtain ⟨r79, er79, h⟩ := swbd_s h
                refine mw_calli (As := [.int x3, .int x4, .int x5]) (rest := []) E (mm_valueOf l D cy ad u x3 x4 x5 _ er79) (cwV 3 hts gX6_settles_X6_valueOf rfl rfl rfl (by decide +kernel) ⟨Nat.le_of_ble_eq_true rfl, Nat.le_of_ble_eq_true rfl⟩) hK hP rfl hl.1 rfl (Nat.le_of_ble_eq_true rfl) dX6_settles_79 ?_
                exact W.iret hx hb hr (fun t ht hW => ⟨_, rfl, sw_in1 h, ht⟩) (fun q hq => by cases hq) dX6_settles_82 hlocks
              · replace h := sw_t h cc
                refine lv_iload_n hx hb dX6_settles_70 rfl (lv_at hl 4 rfl) ?_
                refine lv_goto (tgt := 75) hx hb dX6_settles_71 (by decide) ?_
                refine lv_iload hx hb dX6_settles_75 (lv_at hl 6 rfl) ?_
                refine lv_iload hx hb dX6_settles_77 (lv_at hl 7 rfl) ?_
                obtain ⟨r79, er79, h⟩ := swbd_s h
                refine mw_calli (As := [.int x2, .int x4, .int x5]) (rest := []) E (mm_valueOf l D cy ad u x2 x4 x5 _ er79) (cwV 3 hts gX6_settles_X6_valueOf rfl rfl rfl (by decide +kernel) ⟨Nat.le_of_ble_eq_true rfl, Nat.le_of_ble_eq_true rfl⟩) hK hP rfl hl.1 rfl (Nat.le_of_ble_eq_true rfl) dX6_settles_79 ?_
                exact W.iret hx hb hr (fun t ht hW => ⟨_, rfl, sw_in1 h, ht⟩) (fun q hq => by cases hq) dX6_settles_82 hlocks
        · replace h := sw_t h cc
          refine lv_iconst (v := (-1)) hx hb dX6_settles_49 (by decide) ?_
          exact W.iret hx hb hr (fun t ht hW => ⟨_, rfl, sw_in1 h, ht⟩) (fun q hq => by cases hq) dX6_settles_50 hlocks
  · replace h := sw_t h cc
    refine lv_iload_n hx hb dX6_settles_16 rfl (lv_at hl 3 rfl) ?_
    refine lv_goto (tgt := 21) hx hb dX6_settles_17 (by decide) ?_
    refine lv_istore (lv' := [(8, .int x2), (7, .int r6), (0, .ref (ad 0)), (1, .int x1), (2, .int x2), (3, .int x3), (4, .int x4), (5, .int x5), (6, .int x6)]) hx hb dX6_settles_21 hl (by decide) rfl (fun ls hl => ?_)
    refine lv_iload hx hb dX6_settles_23 (lv_at hl 1 rfl) ?_
    refine lv_bipush (v := (-2)) hx hb dX6_settles_25 (by decide) ?_
    refine lv_icmp_eq (tgt := 49) hx hb dX6_settles_27 (by decide) (fun cc => ?_) (fun cc => ?_)
    · replace h := sw_t h cc
      refine lv_iconst (v := (-1)) hx hb dX6_settles_49 (by decide) ?_
      exact W.iret hx hb hr (fun t ht hW => ⟨_, rfl, sw_in1 h, ht⟩) (fun q hq => by cases hq) dX6_settles_50 hlocks
    · replace h := sw_f h cc
      refine lv_iload hx hb dX6_settles_30 (lv_at hl 1 rfl) ?_
      refine lv_bipush (v := (-3)) hx hb dX6_settles_32 (by decide) ?_
      refine lv_icmp_ne (tgt := 51) hx hb dX6_settles_34 (by decide) (fun cc => ?_) (fun cc => ?_)
      · replace h := sw_f h cc
        refine lv_iload hx hb dX6_settles_51 (lv_at hl 1 rfl) ?_
        refine lv_iconst (v := 1) hx hb dX6_settles_53 (by decide) ?_
        refine lv_icmp_eq (tgt := 63) hx hb dX6_settles_54 (by decide) (fun cc => ?_) (fun cc => ?_)
        · replace h := sw_t h cc
          refine lv_aload_n hx hb dX6_settles_63 rfl (lv_at hl 2 rfl) ?_
          refine lv_iload hx hb dX6_settles_64 (lv_at hl 1 rfl) ?_
          refine lv_iconst (v := 1) hx hb dX6_settles_66 (by decide) ?_
          refine lv_icmp_ne (tgt := 74) hx hb dX6_settles_67 (by decide) (fun cc => ?_) (fun cc => ?_)
          · replace h := sw_f h cc
            refine lv_iload_n hx hb dX6_settles_74 rfl (lv_at hl 5 rfl) ?_
            refine lv_iload hx hb dX6_settles_75 (lv_at hl 6 rfl) ?_
            refine lv_iload hx hb dX6_settles_77 (lv_at hl 7 rfl) ?_
            obtain ⟨r79, er79, h⟩ := swbd_s h
            refine mw_calli (As := [.int x3, .int x4, .int x5]) (rest := []) E (mm_valueOf l D cy ad u x3 x4 x5 _ er79) (cwV 3 hts gX6_settles_X6_valueOf rfl rfl rfl (by decide +kernel) ⟨Nat.le_of_ble_eq_true rfl, Nat.le_of_ble_eq_true rfl⟩) hK hP rfl hl.1 rfl (Nat.le_of_ble_eq_true rfl) dX6_settles_79 ?_
            exact W.iret hx hb hr (fun t ht hW => ⟨_, rfl, sw_in1 h, ht⟩) (fun q hq => by cases hq) dX6_settles_82 hlocks
          · replace h := sw_t h cc
            refine lv_iload_n hx hb dX6_settles_70 rfl (lv_at hl 4 rfl) ?_
            refine lv_goto (tgt := 75) hx hb dX6_settles_71 (by decide) ?_
            refine lv_iload hx hb dX6_settles_75 (lv_at hl 6 rfl) ?_
            refine lv_iload hx hb dX6_settles_77 (lv_at hl 7 rfl) ?_
            obtain ⟨r79, er79, h⟩ := swbd_s h
            refine mw_calli (As := [.int x2, .int x4, .int x5]) (rest := []) E (mm_valueOf l D cy ad u x2 x4 x5 _ er79) (cwV 3 hts gX6_settles_X6_valueOf rfl rfl rfl (by decide +kernel) ⟨Nat.le_of_ble_eq_true rfl, Nat.le_of_ble_eq_true rfl⟩) hK hP rfl hl.1 rfl (Nat.le_of_ble_eq_true rfl) dX6_settles_79 ?_
            exact W.iret hx hb hr (fun t ht hW => ⟨_, rfl, sw_in1 h, ht⟩) (fun q hq => by cases hq) dX6_settles_82 hlocks
        · replace h := sw_f h cc
          refine lv_iload hx hb dX6_settles_57 (lv_at hl 1 rfl) ?_
          refine lv_iconst (v := 2) hx hb dX6_settles_59 (by decide) ?_
          refine lv_icmp_ne (tgt := 83) hx hb dX6_settles_60 (by decide) (fun cc => ?_) (fun cc => ?_)
          · replace h := sw_f h cc
            refine lv_iload hx hb dX6_settles_83 (lv_at hl 1 rfl) ?_
            refine lv_bipush (v := (-3)) hx hb dX6_settles_85 (by decide) ?_
            refine lv_icmp_ne (tgt := 95) hx hb dX6_settles_87 (by decide) (fun cc => ?_) (fun cc => ?_)
            · replace h := sw_f h cc
              refine lv_aload_n hx hb dX6_settles_95 rfl (lv_at hl 2 rfl) ?_
              refine lv_iload_n hx hb dX6_settles_96 rfl (lv_at hl 3 rfl) ?_
              refine lv_iload_n hx hb dX6_settles_97 rfl (lv_at hl 4 rfl) ?_
              refine lv_iload_n hx hb dX6_settles_98 rfl (lv_at hl 5 rfl) ?_
              refine lv_iload hx hb dX6_settles_99 (lv_at hl 6 rfl) ?_
              refine lv_iload hx hb dX6_settles_101 (lv_at hl 7 rfl) ?_
              refine lv_iload hx hb dX6_settles_103 (lv_at hl 1 rfl) ?_
              refine lv_iconst (v := 4) hx hb dX6_settles_105 (by decide) ?_
              refine lv_icmp_ne (tgt := 113) hx hb dX6_settles_106 (by decide) (fun cc => ?_) (fun cc => ?_)
              · replace h := sw_f h cc
                refine lv_iconst (v := 0) hx hb dX6_settles_113 (by decide) ?_
                obtain ⟨r114, er114, h⟩ := swbd_s h
                refine mw_calli (As := [.int x1, .int x2, .int x3, .int x4, .int x5, .int 0]) (rest := []) E (mm_meets l D cy ad u x1 x2 x3 x4 x5 false _ er114) (cwV 6 hts gX6_settles_X6_meets rfl rfl rfl (by decide +kernel) ⟨Nat.le_of_ble_eq_true rfl, Nat.le_of_ble_eq_true rfl⟩) hK hP rfl hl.1 rfl (Nat.le_of_ble_eq_true rfl) dX6_settles_114 ?_
                refine lv_istore (lv' := [(9, .int r114), (8, .int x2), (7, .int r6), (0, .ref (ad 0)), (1, .int x1), (2, .int x2), (3, .int x3), (4, .int x4), (5, .int x5), (6, .int x6)]) hx hb dX6_settles_117 hl (by decide) rfl (fun ls hl => ?_)
                refine lv_iload hx hb dX6_settles_119 (lv_at hl 0 rfl) ?_
                refine lv_bipush (v := (-3)) hx hb dX6_settles_121 (by decide) ?_
                refine lv_icmp_ne (tgt := 139) hx hb dX6_settles_123 (by decide) (fun cc => ?_) (fun cc => ?_)
                · replace h := sw_f h cc
                  refine lv_iload hx hb dX6_settles_139 (lv_at hl 0 rfl) ?_
                  exact W.iret hx hb hr (fun t ht hW => ⟨_, rfl, sw_in1 h, ht⟩) (fun q hq => by cases hq) dX6_settles_141 hlocks
                · replace h := sw_t h cc
                  refine lv_aload_n hx hb dX6_settles_126 rfl (lv_at hl 3 rfl) ?_
                  refine lv_iload hx hb dX6_settles_127 (lv_at hl 1 rfl) ?_
                  refine lv_iload hx hb dX6_settles_129 (lv_at hl 7 rfl) ?_
                  refine lv_iload hx hb dX6_settles_131 (lv_at hl 8 rfl) ?_
                  obtain ⟨r133, er133, h⟩ := swbd_s h
                  refine mw_calli (As := [.int x2, .int x4, .int x5]) (rest := []) E (mm_valueOf l D cy ad u x2 x4 x5 _ er133) (cwV 3 hts gX6_settles_X6_valueOf rfl rfl rfl (by decide +kernel) ⟨Nat.le_of_ble_eq_true rfl, Nat.le_of_ble_eq_true rfl⟩) hK hP rfl hl.1 rfl (Nat.le_of_ble_eq_true rfl) dX6_settles_133 ?_
                  refine lv_goto (tgt := 141) hx hb dX6_settles_136 (by decide) ?_
                  exact W.iret hx hb hr (fun t ht hW => ⟨_, rfl, sw_in1 h, ht⟩) (fun q hq => by cases hq) dX6_settles_141 hlocks
              · replace h := sw_t h cc
                refine lv_iconst (v := 1) hx hb dX6_settles_109 (by decide) ?_
                refine lv_goto (tgt := 114) hx hb dX6_settles_110 (by decide) ?_
                obtain ⟨r114, er114, h⟩ := swbd_s h
                refine mw_calli (As := [.int x1, .int x2, .int x3, .int x4, .int x5, .int 1]) (rest := []) E (mm_meets l D cy ad u x1 x2 x3 x4 x5 true _ er114) (cwV 6 hts gX6_settles_X6_meets rfl rfl rfl (by decide +kernel) ⟨Nat.le_of_ble_eq_true rfl, Nat.le_of_ble_eq_true rfl⟩) hK hP rfl hl.1 rfl (Nat.le_of_ble_eq_true rfl) dX6_settles_114 ?_
                refine lv_istore (lv' := [(9, .int r114), (8, .int x2), (7, .int r6), (0, .ref (ad 0)), (1, .int x1), (2, .int x2), (3, .int x3), (4, .int x4), (5, .int x5), (6, .int x6)]) hx hb dX6_settles_117 hl (by decide) rfl (fun ls hl => ?_)
                refine lv_iload hx hb dX6_settles_119 (lv_at hl 0 rfl) ?_
                refine lv_bipush (v := (-3)) hx hb dX6_settles_121 (by decide) ?_
                refine lv_icmp_ne (tgt := 139) hx hb dX6_settles_123 (by decide) (fun cc => ?_) (fun cc => ?_)
                · replace h := sw_f h cc
                  refine lv_iload hx hb dX6_settles_139 (lv_at hl 0 rfl) ?_
                  exact W.iret hx hb hr (fun t ht hW => ⟨_, rfl, sw_in1 h, ht⟩) (fun q hq => by cases hq) dX6_settles_141 hlocks
                · replace h := sw_t h cc
                  refine lv_aload_n hx hb dX6_settles_126 rfl (lv_at hl 3 rfl) ?_
                  refine lv_iload hx hb dX6_settles_127 (lv_at hl 1 rfl) ?_
                  refine lv_iload hx hb dX6_settles_129 (lv_at hl 7 rfl) ?_
                  refine lv_iload hx hb dX6_settles_131 (lv_at hl 8 rfl) ?_
                  obtain ⟨r133, er133, h⟩ := swbd_s h
                  refine mw_calli (As := [.int x2, .int x4, .int x5]) (rest := []) E (mm_valueOf l D cy ad u x2 x4 x5 _ er133) (cwV 3 hts gX6_settles_X6_valueOf rfl rfl rfl (by decide +kernel) ⟨Nat.le_of_ble_eq_true rfl, Nat.le_of_ble_eq_true rfl⟩) hK hP rfl hl.1 rfl (Nat.le_of_ble_eq_true rfl) dX6_settles_133 ?_
                  refine lv_goto (tgt := 141) hx hb dX6_settles_136 (by decide) ?_
                  exact W.iret hx hb hr (fun t ht hW => ⟨_, rfl, sw_in1 h, ht⟩) (fun q hq => by cases hq) dX6_settles_141 hlocks
            · replace h := sw_t h cc
              refine lv_bipush (v := (-3)) hx hb dX6_settles_90 (by decide) ?_
              refine lv_goto (tgt := 117) hx hb dX6_settles_92 (by decide) ?_
              refine lv_istore (lv' := [(9, .int (-3)), (8, .int x2), (7, .int r6), (0, .ref (ad 0)), (1, .int x1), (2, .int x2), (3, .int x3), (4, .int x4), (5, .int x5), (6, .int x6)]) hx hb dX6_settles_117 hl (by decide) rfl (fun ls hl => ?_)
              refine lv_iload hx hb dX6_settles_119 (lv_at hl 0 rfl) ?_
              refine lv_bipush (v := (-3)) hx hb dX6_settles_121 (by decide) ?_
              refine lv_icmp_ne (tgt := 139) hx hb dX6_settles_123 (by decide) (fun cc => absurd cc (by decide)) (fun cc => ?_)
              refine lv_aload_n hx hb dX6_settles_126 rfl (lv_at hl 3 rfl) ?_
              refine lv_iload hx hb dX6_settles_127 (lv_at hl 1 rfl) ?_
              refine lv_iload hx hb dX6_settles_129 (lv_at hl 7 rfl) ?_
              refine lv_iload hx hb dX6_settles_131 (lv_at hl 8 rfl) ?_
              obtain ⟨r133, er133, h⟩ := swbd_s h
              refine mw_calli (As := [.int x2, .int x4, .int x5]) (rest := []) E (mm_valueOf l D cy ad u x2 x4 x5 _ er133) (cwV 3 hts gX6_settles_X6_valueOf rfl rfl rfl (by decide +kernel) ⟨Nat.le_of_ble_eq_true rfl, Nat.le_of_ble_eq_true rfl⟩) hK hP rfl hl.1 rfl (Nat.le_of_ble_eq_true rfl) dX6_settles_133 ?_
              refine lv_goto (tgt := 141) hx hb dX6_settles_136 (by decide) ?_
              exact W.iret hx hb hr (fun t ht hW => ⟨_, rfl, sw_in1 h, ht⟩) (fun q hq => by cases hq) dX6_settles_141 hlocks
          · replace h := sw_t h cc
            refine lv_aload_n hx hb dX6_settles_63 rfl (lv_at hl 2 rfl) ?_
            refine lv_iload hx hb dX6_settles_64 (lv_at hl 1 rfl) ?_
            refine lv_iconst (v := 1) hx hb dX6_settles_66 (by decide) ?_
            refine lv_icmp_ne (tgt := 74) hx hb dX6_settles_67 (by decide) (fun cc => ?_) (fun cc => ?_)
            · replace h := sw_f h cc
              refine lv_iload_n hx hb dX6_settles_74 rfl (lv_at hl 5 rfl) ?_
              refine lv_iload hx hb dX6_settles_75 (lv_at hl 6 rfl) ?_
              refine lv_iload hx hb dX6_settles_77 (lv_at hl 7 rfl) ?_
              obtain ⟨r79, er79, h⟩ := swbd_s h
              refine mw_calli (As := [.int x3, .int x4, .int x5]) (rest := []) E (mm_valueOf l D cy ad u x3 x4 x5 _ er79) (cwV 3 hts gX6_settles_X6_valueOf rfl rfl rfl (by decide +kernel) ⟨Nat.le_of_ble_eq_true rfl, Nat.le_of_ble_eq_true rfl⟩) hK hP rfl hl.1 rfl (Nat.le_of_ble_eq_true rfl) dX6_settles_79 ?_
              exact W.iret hx hb hr (fun t ht hW => ⟨_, rfl, sw_in1 h, ht⟩) (fun q hq => by cases hq) dX6_settles_82 hlocks
            · replace h := sw_t h cc
              refine lv_iload_n hx hb dX6_settles_70 rfl (lv_at hl 4 rfl) ?_
              refine lv_goto (tgt := 75) hx hb dX6_settles_71 (by decide) ?_
              refine lv_iload hx hb dX6_settles_75 (lv_at hl 6 rfl) ?_
              refine lv_iload hx hb dX6_settles_77 (lv_at hl 7 rfl) ?_
              obtain ⟨r79, er79, h⟩ := swbd_s h
              refine mw_calli (As := [.int x2, .int x4, .int x5]) (rest := []) E (mm_valueOf l D cy ad u x2 x4 x5 _ er79) (cwV 3 hts gX6_settles_X6_valueOf rfl rfl rfl (by decide +kernel) ⟨Nat.le_of_ble_eq_true rfl, Nat.le_of_ble_eq_true rfl⟩) hK hP rfl hl.1 rfl (Nat.le_of_ble_eq_true rfl) dX6_settles_79 ?_
              exact W.iret hx hb hr (fun t ht hW => ⟨_, rfl, sw_in1 h, ht⟩) (fun q hq => by cases hq) dX6_settles_82 hlocks
      · replace h := sw_t h cc
        refine lv_aload_n hx hb dX6_settles_37 rfl (lv_at hl 2 rfl) ?_
        refine lv_iload hx hb dX6_settles_38 (lv_at hl 0 rfl) ?_
        refine lv_iload hx hb dX6_settles_40 (lv_at hl 6 rfl) ?_
        obtain ⟨r42, er42, h⟩ := swbd_s h
        refine mw_calli (As := [.int x2, .int x4]) (rest := []) E (mm_placeOf l D cy ad u x2 x4 _ er42) (cwV 2 hts gX6_settles_X6_placeOf rfl rfl rfl (by decide +kernel) ⟨Nat.le_of_ble_eq_true rfl, Nat.le_of_ble_eq_true rfl⟩) hK hP rfl hl.1 rfl (Nat.le_of_ble_eq_true rfl) dX6_settles_42 ?_
        refine lv_iconst (v := (-1)) hx hb dX6_settles_45 (by decide) ?_
        refine lv_icmp_ne (tgt := 51) hx hb dX6_settles_46 (by decide) (fun cc => ?_) (fun cc => ?_)
        · replace h := sw_f h cc
          refine lv_iload hx hb dX6_settles_51 (lv_at hl 1 rfl) ?_
          refine lv_iconst (v := 1) hx hb dX6_settles_53 (by decide) ?_
          refine lv_icmp_eq (tgt := 63) hx hb dX6_settles_54 (by decide) (fun cc => ?_) (fun cc => ?_)
          · replace h := sw_t h cc
            refine lv_aload_n hx hb dX6_settles_63 rfl (lv_at hl 2 rfl) ?_
            refine lv_iload hx hb dX6_settles_64 (lv_at hl 1 rfl) ?_
            refine lv_iconst (v := 1) hx hb dX6_settles_66 (by decide) ?_
            refine lv_icmp_ne (tgt := 74) hx hb dX6_settles_67 (by decide) (fun cc => ?_) (fun cc => ?_)
            · replace h := sw_f h cc
              refine lv_iload_n hx hb dX6_settles_74 rfl (lv_at hl 5 rfl) ?_
              refine lv_iload hx hb dX6_settles_75 (lv_at hl 6 rfl) ?_
              refine lv_iload hx hb dX6_settles_77 (lv_at hl 7 rfl) ?_
              obtain ⟨r79, er79, h⟩ := swbd_s h
              refine mw_calli (As := [.int x3, .int x4, .int x5]) (rest := []) E (mm_valueOf l D cy ad u x3 x4 x5 _ er79) (cwV 3 hts gX6_settles_X6_valueOf rfl rfl rfl (by decide +kernel) ⟨Nat.le_of_ble_eq_true rfl, Nat.le_of_ble_eq_true rfl⟩) hK hP rfl hl.1 rfl (Nat.le_of_ble_eq_true rfl) dX6_settles_79 ?_
              exact W.iret hx hb hr (fun t ht hW => ⟨_, rfl, sw_in1 h, ht⟩) (fun q hq => by cases hq) dX6_settles_82 hlocks
            · replace h := sw_t h cc
              refine lv_iload_n hx hb dX6_settles_70 rfl (lv_at hl 4 rfl) ?_
              refine lv_goto (tgt := 75) hx hb dX6_settles_71 (by decide) ?_
              refine lv_iload hx hb dX6_settles_75 (lv_at hl 6 rfl) ?_
              refine lv_iload hx hb dX6_settles_77 (lv_at hl 7 rfl) ?_
              obtain ⟨r79, er79, h⟩ := swbd_s h
              refine mw_calli (As := [.int x2, .int x4, .int x5]) (rest := []) E (mm_valueOf l D cy ad u x2 x4 x5 _ er79) (cwV 3 hts gX6_settles_X6_valueOf rfl rfl rfl (by decide +kernel) ⟨Nat.le_of_ble_eq_true rfl, Nat.le_of_ble_eq_true rfl⟩) hK hP rfl hl.1 rfl (Nat.le_of_ble_eq_true rfl) dX6_settles_79 ?_
              exact W.iret hx hb hr (fun t ht hW => ⟨_, rfl, sw_in1 h, ht⟩) (fun q hq => by cases hq) dX6_settles_82 hlocks
          · replace h := sw_f h cc
            refine lv_iload hx hb dX6_settles_57 (lv_at hl 1 rfl) ?_
            refine lv_iconst (v := 2) hx hb dX6_settles_59 (by decide) ?_
            refine lv_icmp_ne (tgt := 83) hx hb dX6_settles_60 (by decide) (fun cc => ?_) (fun cc => ?_)
            · replace h := sw_f h cc
              refine lv_iload hx hb dX6_settles_83 (lv_at hl 1 rfl) ?_
              refine lv_bipush (v := (-3)) hx hb dX6_settles_85 (by decide) ?_
              refine lv_icmp_ne (tgt := 95) hx hb dX6_settles_87 (by decide) (fun cc => ?_) (fun cc => ?_)
              · replace h := sw_f h cc
                refine lv_aload_n hx hb dX6_settles_95 rfl (lv_at hl 2 rfl) ?_
                refine lv_iload_n hx hb dX6_settles_96 rfl (lv_at hl 3 rfl) ?_
                refine lv_iload_n hx hb dX6_settles_97 rfl (lv_at hl 4 rfl) ?_
                refine lv_iload_n hx hb dX6_settles_98 rfl (lv_at hl 5 rfl) ?_
                refine lv_iload hx hb dX6_settles_99 (lv_at hl 6 rfl) ?_
                refine lv_iload hx hb dX6_settles_101 (lv_at hl 7 rfl) ?_
                refine lv_iload hx hb dX6_settles_103 (lv_at hl 1 rfl) ?_
                refine lv_iconst (v := 4) hx hb dX6_settles_105 (by decide) ?_
                refine lv_icmp_ne (tgt := 113) hx hb dX6_settles_106 (by decide) (fun cc => ?_) (fun cc => ?_)
                · replace h := sw_f h cc
                  refine lv_iconst (v := 0) hx hb dX6_settles_113 (by decide) ?_
                  obtain ⟨r114, er114, h⟩ := swbd_s h
                  refine mw_calli (As := [.int x1, .int x2, .int x3, .int x4, .int x5, .int 0]) (rest := []) E (mm_meets l D cy ad u x1 x2 x3 x4 x5 false _ er114) (cwV 6 hts gX6_settles_X6_meets rfl rfl rfl (by decide +kernel) ⟨Nat.le_of_ble_eq_true rfl, Nat.le_of_ble_eq_true rfl⟩) hK hP rfl hl.1 rfl (Nat.le_of_ble_eq_true rfl) dX6_settles_114 ?_
                  refine lv_istore (lv' := [(9, .int r114), (8, .int x2), (7, .int r6), (0, .ref (ad 0)), (1, .int x1), (2, .int x2), (3, .int x3), (4, .int x4), (5, .int x5), (6, .int x6)]) hx hb dX6_settles_117 hl (by decide) rfl (fun ls hl => ?_)
                  refine lv_iload hx hb dX6_settles_119 (lv_at hl 0 rfl) ?_
                  refine lv_bipush (v := (-3)) hx hb dX6_settles_121 (by decide) ?_
                  refine lv_icmp_ne (tgt := 139) hx hb dX6_settles_123 (by decide) (fun cc => ?_) (fun cc => ?_)
                  · replace h := sw_f h cc
                    refine lv_iload hx hb dX6_settles_139 (lv_at hl 0 rfl) ?_
                    exact W.iret hx hb hr (fun t ht hW => ⟨_, rfl, sw_in1 h, ht⟩) (fun q hq => by cases hq) dX6_settles_141 hlocks
                  · replace h := sw_t h cc
                    refine lv_aload_n hx hb dX6_settles_126 rfl (lv_at hl 3 rfl) ?_
                    refine lv_iload hx hb dX6_settles_127 (lv_at hl 1 rfl) ?_
                    refine lv_iload hx hb dX6_settles_129 (lv_at hl 7 rfl) ?_
                    refine lv_iload hx hb dX6_settles_131 (lv_at hl 8 rfl) ?_
                    obtain ⟨r133, er133, h⟩ := swbd_s h
                    refine mw_calli (As := [.int x2, .int x4, .int x5]) (rest := []) E (mm_valueOf l D cy ad u x2 x4 x5 _ er133) (cwV 3 hts gX6_settles_X6_valueOf rfl rfl rfl (by decide +kernel) ⟨Nat.le_of_ble_eq_true rfl, Nat.le_of_ble_eq_true rfl⟩) hK hP rfl hl.1 rfl (Nat.le_of_ble_eq_true rfl) dX6_settles_133 ?_
                    refine lv_goto (tgt := 141) hx hb dX6_settles_136 (by decide) ?_
                    exact W.iret hx hb hr (fun t ht hW => ⟨_, rfl, sw_in1 h, ht⟩) (fun q hq => by cases hq) dX6_settles_141 hlocks
                · replace h := sw_t h cc
                  refine lv_iconst (v := 1) hx hb dX6_settles_109 (by decide) ?_
                  refine lv_goto (tgt := 114) hx hb dX6_settles_110 (by decide) ?_
                  obtain ⟨r114, er114, h⟩ := swbd_s h
                  refine mw_calli (As := [.int x1, .int x2, .int x3, .int x4, .int x5, .int 1]) (rest := []) E (mm_meets l D cy ad u x1 x2 x3 x4 x5 true _ er114) (cwV 6 hts gX6_settles_X6_meets rfl rfl rfl (by decide +kernel) ⟨Nat.le_of_ble_eq_true rfl, Nat.le_of_ble_eq_true rfl⟩) hK hP rfl hl.1 rfl (Nat.le_of_ble_eq_true rfl) dX6_settles_114 ?_
                  refine lv_istore (lv' := [(9, .int r114), (8, .int x2), (7, .int r6), (0, .ref (ad 0)), (1, .int x1), (2, .int x2), (3, .int x3), (4, .int x4), (5, .int x5), (6, .int x6)]) hx hb dX6_settles_117 hl (by decide) rfl (fun ls hl => ?_)
                  refine lv_iload hx hb dX6_settles_119 (lv_at hl 0 rfl) ?_
                  refine lv_bipush (v := (-3)) hx hb dX6_settles_121 (by decide) ?_
                  refine lv_icmp_ne (tgt := 139) hx hb dX6_settles_123 (by decide) (fun cc => ?_) (fun cc => ?_)
                  · replace h := sw_f h cc
                    refine lv_iload hx hb dX6_settles_139 (lv_at hl 0 rfl) ?_
                    exact W.iret hx hb hr (fun t ht hW => ⟨_, rfl, sw_in1 h, ht⟩) (fun q hq => by cases hq) dX6_settles_141 hlocks
                  · replace h := sw_t h cc
                    refine lv_aload_n hx hb dX6_settles_126 rfl (lv_at hl 3 rfl) ?_
                    refine lv_iload hx hb dX6_settles_127 (lv_at hl 1 rfl) ?_
                    refine lv_iload hx hb dX6_settles_129 (lv_at hl 7 rfl) ?_
                    refine lv_iload hx hb dX6_settles_131 (lv_at hl 8 rfl) ?_
                    obtain ⟨r133, er133, h⟩ := swbd_s h
                    refine mw_calli (As := [.int x2, .int x4, .int x5]) (rest := []) E (mm_valueOf l D cy ad u x2 x4 x5 _ er133) (cwV 3 hts gX6_settles_X6_valueOf rfl rfl rfl (by decide +kernel) ⟨Nat.le_of_ble_eq_true rfl, Nat.le_of_ble_eq_true rfl⟩) hK hP rfl hl.1 rfl (Nat.le_of_ble_eq_true rfl) dX6_settles_133 ?_
                    refine lv_goto (tgt := 141) hx hb dX6_settles_136 (by decide) ?_
                    exact W.iret hx hb hr (fun t ht hW => ⟨_, rfl, sw_in1 h, ht⟩) (fun q hq => by cases hq) dX6_settles_141 hlocks
              · replace h := sw_t h cc
                refine lv_bipush (v := (-3)) hx hb dX6_settles_90 (by decide) ?_
                refine lv_goto (tgt := 117) hx hb dX6_settles_92 (by decide) ?_
                refine lv_istore (lv' := [(9, .int (-3)), (8, .int x2), (7, .int r6), (0, .ref (ad 0)), (1, .int x1), (2, .int x2), (3, .int x3), (4, .int x4), (5, .int x5), (6, .int x6)]) hx hb dX6_settles_117 hl (by decide) rfl (fun ls hl => ?_)
                refine lv_iload hx hb dX6_settles_119 (lv_at hl 0 rfl) ?_
                refine lv_bipush (v := (-3)) hx hb dX6_settles_121 (by decide) ?_
                refine lv_icmp_ne (tgt := 139) hx hb dX6_settles_123 (by decide) (fun cc => absurd cc (by decide)) (fun cc => ?_)
                refine lv_aload_n hx hb dX6_settles_126 rfl (lv_at hl 3 rfl) ?_
                refine lv_iload hx hb dX6_settles_127 (lv_at hl 1 rfl) ?_
                refine lv_iload hx hb dX6_settles_129 (lv_at hl 7 rfl) ?_
                refine lv_iload hx hb dX6_settles_131 (lv_at hl 8 rfl) ?_
                obtain ⟨r133, er133, h⟩ := swbd_s h
                refine mw_calli (As := [.int x2, .int x4, .int x5]) (rest := []) E (mm_valueOf l D cy ad u x2 x4 x5 _ er133) (cwV 3 hts gX6_settles_X6_valueOf rfl rfl rfl (by decide +kernel) ⟨Nat.le_of_ble_eq_true rfl, Nat.le_of_ble_eq_true rfl⟩) hK hP rfl hl.1 rfl (Nat.le_of_ble_eq_true rfl) dX6_settles_133 ?_
                refine lv_goto (tgt := 141) hx hb dX6_settles_136 (by decide) ?_
                exact W.iret hx hb hr (fun t ht hW => ⟨_, rfl, sw_in1 h, ht⟩) (fun q hq => by cases hq) dX6_settles_141 hlocks
            · replace h := sw_t h cc
              refine lv_aload_n hx hb dX6_settles_63 rfl (lv_at hl 2 rfl) ?_
              refine lv_iload hx hb dX6_settles_64 (lv_at hl 1 rfl) ?_
              refine lv_iconst (v := 1) hx hb dX6_settles_66 (by decide) ?_
              refine lv_icmp_ne (tgt := 74) hx hb dX6_settles_67 (by decide) (fun cc => ?_) (fun cc => ?_)
              · replace h := sw_f h cc
                refine lv_iload_n hx hb dX6_settles_74 rfl (lv_at hl 5 rfl) ?_
                refine lv_iload hx hb dX6_settles_75 (lv_at hl 6 rfl) ?_
                refine lv_iload hx hb dX6_settles_77 (lv_at hl 7 rfl) ?_
                obtain ⟨r79, er79, h⟩ := swbd_s h
                refine mw_calli (As := [.int x3, .int x4, .int x5]) (rest := []) E (mm_valueOf l D cy ad u x3 x4 x5 _ er79) (cwV 3 hts gX6_settles_X6_valueOf rfl rfl rfl (by decide +kernel) ⟨Nat.le_of_ble_eq_true rfl, Nat.le_of_ble_eq_true rfl⟩) hK hP rfl hl.1 rfl (Nat.le_of_ble_eq_true rfl) dX6_settles_79 ?_
                exact W.iret hx hb hr (fun t ht hW => ⟨_, rfl, sw_in1 h, ht⟩) (fun q hq => by cases hq) dX6_settles_82 hlocks
              · replace h := sw_t h cc
                refine lv_iload_n hx hb dX6_settles_70 rfl (lv_at hl 4 rfl) ?_
                refine lv_goto (tgt := 75) hx hb dX6_settles_71 (by decide) ?_
                refine lv_iload hx hb dX6_settles_75 (lv_at hl 6 rfl) ?_
                refine lv_iload hx hb dX6_settles_77 (lv_at hl 7 rfl) ?_
                obtain ⟨r79, er79, h⟩ := swbd_s h
                refine mw_calli (As := [.int x2, .int x4, .int x5]) (rest := []) E (mm_valueOf l D cy ad u x2 x4 x5 _ er79) (cwV 3 hts gX6_settles_X6_valueOf rfl rfl rfl (by decide +kernel) ⟨Nat.le_of_ble_eq_true rfl, Nat.le_of_ble_eq_true rfl⟩) hK hP rfl hl.1 rfl (Nat.le_of_ble_eq_true rfl) dX6_settles_79 ?_
                exact W.iret hx hb hr (fun t ht hW => ⟨_, rfl, sw_in1 h, ht⟩) (fun q hq => by cases hq) dX6_settles_82 hlocks
        · replace h := sw_t h cc
          refine lv_iconst (v := (-1)) hx hb dX6_settles_49 (by decide) ?_
          exact W.iret hx hb hr (fun t ht hW => ⟨_, rfl, sw_in1 h, ht⟩) (fun q hq => by cases hq) dX6_settles_50 hlocks

/-! wrong -/
def mx_wrong (u : swU) (x1 : Int32) (x2 : Int32) : Option (Int32) :=
  swbd (mx_isBranch u x1) fun r2 => if (swB r2) = 0 then (some 1) else (swbd (mx_isBranch u x2) fun r10 => if (swB r10) = 0 then (some 1) else (if x1 = x2 then (some 2) else (some 0)))

abbrev rmX6_wrong : Room := { frames := 2, cells := 0, slots := 0, locals := 43 }

set_option maxHeartbeats 4000000 in
set_option maxRecDepth 100000 in
theorem mm_wrong (l : Launch) (D : va_G) (cy : Nat → ClassId) (ad : Nat → Nat) (u : swU) (x1 : Int32) (x2 : Int32) (r0 : Int32) (h : mx_wrong u x1 x2 = some r0) : Met l yX6_wrong wsX6_wrong rmX6_wrong (mwC D cy ad u [.ref (ad 0), .int x1, .int x2]) (vp_Si (fun r : Int32 => r = r0)) 0 0 (fun _ => False) := by
  refine Met.ofW (cc := cX6_wrong) (maxL := 3) (ret := (some .int)) (by decide) rfl ?_
  intro p e s m args below meth c s₁ B hml hv
  obtain ⟨ha, hP, hK⟩ := hv
  have hx := B.exec
  have hb := B.bytes
  have hr := B.returns
  have hlocks := B.notSynchronized
  have hts := atoms_spec (ws := wsX6_wrong) B.pre
  have hown : s.vm.findClass RX6 = some m.cls := findClass_of_methodNamed B.named
  have E : CallFix p m c cX6_wrong 3 s args wsX6_wrong RX6 := ⟨hx, hb, hml, hown, hts⟩
  obtain ⟨ls, hl, hent⟩ := sw_entry m (n := 3) ha (Nat.le_of_ble_eq_true rfl)
  rw [hent]
  have hl : lv_has ls 3 [(0, .ref (ad 0)), (1, .int x1), (2, .int x2)] := hl
  unfold mx_wrong at h
  refine lv_aload_n hx hb dX6_wrong_0 rfl (lv_at hl 0 rfl) ?_
  refine lv_iload_n hx hb dX6_wrong_1 rfl (lv_at hl 1 rfl) ?_
  obtain ⟨r2, er2, h⟩ := swbd_s h
  refine mw_calli (As := [.int x1]) (rest := []) E (mm_isBranch l D cy ad u x1 _ er2) (cwV 1 hts gX6_wrong_X6_isBranch rfl rfl rfl (by decide +kernel) ⟨Nat.le_of_ble_eq_true rfl, Nat.le_of_ble_eq_true rfl⟩) hK hP rfl hl.1 rfl (Nat.le_of_ble_eq_true rfl) dX6_wrong_2 ?_
  refine lv_if_eq (tgt := 16) hx hb dX6_wrong_5 (by decide) (fun cc => ?_) (fun cc => ?_)
  · replace h := sw_t h cc
    refine lv_iconst (v := 1) hx hb dX6_wrong_16 (by decide) ?_
    refine lv_goto (tgt := 30) hx hb dX6_wrong_17 (by decide) ?_
    exact W.iret hx hb hr (fun t ht hW => ⟨_, rfl, sw_in1 h, ht⟩) (fun q hq => by cases hq) dX6_wrong_30 hlocks
  · replace h := sw_f h cc
    refine lv_aload_n hx hb dX6_wrong_8 rfl (lv_at hl 0 rfl) ?_
    refine lv_iload_n hx hb dX6_wrong_9 rfl (lv_at hl 2 rfl) ?_
    obtain ⟨r10, er10, h⟩ := swbd_s h
    refine mw_calli (As := [.int x2]) (rest := []) E (mm_isBranch l D cy ad u x2 _ er10) (cwV 1 hts gX6_wrong_X6_isBranch rfl rfl rfl (by decide +kernel) ⟨Nat.le_of_ble_eq_true rfl, Nat.le_of_ble_eq_true rfl⟩) hK hP rfl hl.1 rfl (Nat.le_of_ble_eq_true rfl) dX6_wrong_10 ?_
    refine lv_if_ne (tgt := 20) hx hb dX6_wrong_13 (by decide) (fun cc => ?_) (fun cc => ?_)
    · replace h := sw_f h cc
      refine lv_iload_n hx hb dX6_wrong_20 rfl (lv_at hl 1 rfl) ?_
      refine lv_iload_n hx hb dX6_wrong_21 rfl (lv_at hl 2 rfl) ?_
      refine lv_icmp_ne (tgt := 29) hx hb dX6_wrong_22 (by decide) (fun cc => ?_) (fun cc => ?_)
      · replace h := sw_f h cc
        refine lv_iconst (v := 0) hx hb dX6_wrong_29 (by decide) ?_
        exact W.iret hx hb hr (fun t ht hW => ⟨_, rfl, sw_in1 h, ht⟩) (fun q hq => by cases hq) dX6_wrong_30 hlocks
      · replace h := sw_t h cc
        refine lv_iconst (v := 2) hx hb dX6_wrong_25 (by decide) ?_
        refine lv_goto (tgt := 30) hx hb dX6_wrong_26 (by decide) ?_
        exact W.iret hx hb hr (fun t ht hW => ⟨_, rfl, sw_in1 h, ht⟩) (fun q hq => by cases hq) dX6_wrong_30 hlocks
    · replace h := sw_t h cc
      refine lv_iconst (v := 1) hx hb dX6_wrong_16 (by decide) ?_
      refine lv_goto (tgt := 30) hx hb dX6_wrong_17 (by decide) ?_
      exact W.iret hx hb hr (fun t ht hW => ⟨_, rfl, sw_in1 h, ht⟩) (fun q hq => by cases hq) dX6_wrong_30 hlocks

/-! breaks -/
def mx_breaks (u : swU) (x1 : Int32) (x2 : Int32) : Option (Bool) :=
  if x2 = 0 then (some false) else (swrd 8 (u.1 15) x1 fun a10 => swrd 8 (u.1 16) x1 fun a16 => swbd (mx_in x2 a10 a16) fun r17 => if (swB r17) = 0 then (some true) else (some false))

abbrev rmX6_breaks : Room := { frames := 1, cells := 0, slots := 0, locals := 22 }

set_option maxHeartbeats 4000000 in
set_option maxRecDepth 100000 in
theorem mm_breaks (l : Launch) (D : va_G) (cy : Nat → ClassId) (ad : Nat → Nat) (u : swU) (x1 : Int32) (x2 : Int32) (r0 : Bool) (h : mx_breaks u x1 x2 = some r0) : Met l yX6_breaks wsX6_breaks rmX6_breaks (mwC D cy ad u [.ref (ad 0), .int x1, .int x2]) (vp_Si (fun r : Int32 => r = swB r0)) 0 0 (fun _ => False) := by
  refine Met.ofW (cc := cX6_breaks) (maxL := 3) (ret := (some .boolean)) (by decide) rfl ?_
  intro p e s m args below meth c s₁ B hml hv
  obtain ⟨ha, hP, hK⟩ := hv
  have hx := B.exec
  have hb := B.bytes
  have hr := B.returns
  have hlocks := B.notSynchronized
  have hts := atoms_spec (ws := wsX6_breaks) B.pre
  have hown : s.vm.findClass RX6 = some m.cls := findClass_of_methodNamed B.named
  have E : CallFix p m c cX6_breaks 3 s args wsX6_breaks RX6 := ⟨hx, hb, hml, hown, hts⟩
  have hin : ∀ w ∈ wsX60, w ∈ wsX6_breaks := by decide +kernel
  have f47 : (Cond.fieldLink RX6 47 "SlidewardenModel" "least" "[I").before args s = true := hts _ (by decide +kernel)
  have f50 : (Cond.fieldLink RX6 50 "SlidewardenModel" "most" "[I").before args s = true := hts _ (by decide +kernel)
  obtain ⟨ls, hl, hent⟩ := sw_entry m (n := 3) ha (Nat.le_of_ble_eq_true rfl)
  rw [hent]
  have hl : lv_has ls 3 [(0, .ref (ad 0)), (1, .int x1), (2, .int x2)] := hl
  unfold mx_breaks at h
  refine lv_iload_n hx hb dX6_breaks_0 rfl (lv_at hl 2 rfl) ?_
  refine lv_if_eq (tgt := 27) hx hb dX6_breaks_1 (by decide) (fun cc => ?_) (fun cc => ?_)
  · replace h := sw_t h cc
    refine lv_iconst (v := 0) hx hb dX6_breaks_27 (by decide) ?_
    exact W.zret (ty := .boolean) hx hb hr rfl (fun t ht hW => ⟨_, rfl, congrArg swB (sw_in1 h), ht⟩) (fun q hq => by cases hq) dX6_breaks_28 hlocks
  · replace h := sw_f h cc
    refine lv_iload_n hx hb dX6_breaks_4 rfl (lv_at hl 2 rfl) ?_
    refine lv_aload_n hx hb dX6_breaks_5 rfl (lv_at hl 0 rfl) ?_
    refine mw_get hx hb hts hin hown hK hP 15 (by decide) f47 rfl dX6_breaks_6 ?_
    refine lv_iload_n hx hb dX6_breaks_9 rfl (lv_at hl 1 rfl) ?_
    obtain ⟨a10, ea10, ia10, h⟩ := swrd_s h
    refine mw_ald hx hb hK hP 15 8 rfl rfl ia10 dX6_breaks_10 ea10 ?_
    refine lv_aload_n hx hb dX6_breaks_11 rfl (lv_at hl 0 rfl) ?_
    refine mw_get hx hb hts hin hown hK hP 16 (by decide) f50 rfl dX6_breaks_12 ?_
    refine lv_iload_n hx hb dX6_breaks_15 rfl (lv_at hl 1 rfl) ?_
    obtain ⟨a16, ea16, ia16, h⟩ := swrd_s h
    refine mw_ald hx hb hK hP 16 8 rfl rfl ia16 dX6_breaks_16 ea16 ?_
    obtain ⟨r17, er17, h⟩ := swbd_s h
    refine sw_callSi (As := [.int x2, .int a10, .int a16]) (rest := []) E (mm_in l x2 a10 a16 _ er17) (va_cwS 3 hts gX6_breaks_X6_in rfl rfl rfl (by decide +kernel) ⟨Nat.le_of_ble_eq_true rfl, Nat.le_of_ble_eq_true rfl⟩) rfl hl.1 rfl (Nat.le_of_ble_eq_true rfl) dX6_breaks_17 ?_
    refine lv_if_ne (tgt := 27) hx hb dX6_breaks_20 (by decide) (fun cc => ?_) (fun cc => ?_)
    · replace h := sw_f h cc
      refine lv_iconst (v := 0) hx hb dX6_breaks_27 (by decide) ?_
      exact W.zret (ty := .boolean) hx hb hr rfl (fun t ht hW => ⟨_, rfl, congrArg swB (sw_in1 h), ht⟩) (fun q hq => by cases hq) dX6_breaks_28 hlocks
    · replace h := sw_t h cc
      refine lv_iconst (v := 1) hx hb dX6_breaks_23 (by decide) ?_
      refine lv_goto (tgt := 28) hx hb dX6_breaks_24 (by decide) ?_
      exact W.zret (ty := .boolean) hx hb hr rfl (fun t ht hW => ⟨_, rfl, congrArg swB (sw_in1 h), ht⟩) (fun q hq => by cases hq) dX6_breaks_28 hlocks

/-! isWaived -/
def mx_isWaived_L5 (u : swU) (x1 : Int32) (x2 : Int32) (kk : Bool → Int32 → Option (Bool)) : Nat → Bool → Int32 → Option (Bool)
  | 0, _, _ => none
  | n + 1, v3, v4 => if (u.1 0 17) ≤ v4 then (kk v3 v4) else (if (swB v3) = 0 then (swrd 12 (u.1 18) v4 fun a24 => if a24 = x1 then (swrd 12 (u.1 19) v4 fun a35 => if a35 = x2 then (swrd 12 (u.1 20) v4 fun a46 => if a46 < (u.1 0 21) then (mx_isWaived_L5 u x1 x2 kk n false (v4 + 1)) else (mx_isWaived_L5 u x1 x2 kk n true (v4 + 1))) else (mx_isWaived_L5 u x1 x2 kk n false (v4 + 1))) else (mx_isWaived_L5 u x1 x2 kk n false (v4 + 1))) else (mx_isWaived_L5 u x1 x2 kk n true (v4 + 1)))

def mx_isWaived (u : swU) (x1 : Int32) (x2 : Int32) : Option (Bool) :=
  mx_isWaived_L5 u x1 x2 (fun v3 v4 => some v3) 64 false 0

abbrev rmX6_isWaived : Room := { frames := 0, cells := 0, slots := 0, locals := 0 }

set_option maxHeartbeats 4000000 in
set_option maxRecDepth 100000 in
theorem mm_isWaived (l : Launch) (D : va_G) (cy : Nat → ClassId) (ad : Nat → Nat) (u : swU) (x1 : Int32) (x2 : Int32) (r0 : Bool) (h : mx_isWaived u x1 x2 = some r0) : Met l yX6_isWaived wsX6_isWaived rmX6_isWaived (mwC D cy ad u [.ref (ad 0), .int x1, .int x2]) (vp_Si (fun r : Int32 => r = swB r0)) 0 0 (fun _ => False) := by
  refine Met.ofW (cc := cX6_isWaived) (maxL := 5) (ret := (some .boolean)) (by decide) rfl ?_
  intro p e s m args below meth c s₁ B hml hv
  obtain ⟨ha, hP, hK⟩ := hv
  have hx := B.exec
  have hb := B.bytes
  have hr := B.returns
  have hlocks := B.notSynchronized
  have hts := atoms_spec (ws := wsX6_isWaived) B.pre
  have hown : s.vm.findClass RX6 = some m.cls := findClass_of_methodNamed B.named
  have hin : ∀ w ∈ wsX60, w ∈ wsX6_isWaived := by decide +kernel
  have f161 : (Cond.fieldLink RX6 161 "SlidewardenModel" "waivers" "I").before args s = true := hts _ (by decide +kernel)
  have f164 : (Cond.fieldLink RX6 164 "SlidewardenModel" "today" "I").before args s = true := hts _ (by decide +kernel)
  have f53 : (Cond.fieldLink RX6 53 "SlidewardenModel" "ruleOf" "[I").before args s = true := hts _ (by decide +kernel)
  have f56 : (Cond.fieldLink RX6 56 "SlidewardenModel" "slideOf" "[I").before args s = true := hts _ (by decide +kernel)
  have f59 : (Cond.fieldLink RX6 59 "SlidewardenModel" "until" "[I").before args s = true := hts _ (by decide +kernel)
  obtain ⟨ls, hl, hent⟩ := sw_entry m (n := 5) ha (Nat.le_of_ble_eq_true rfl)
  rw [hent]
  have hl : lv_has ls 5 [(0, .ref (ad 0)), (1, .int x1), (2, .int x2)] := hl
  unfold mx_isWaived at h
  refine lv_iconst (v := 0) hx hb dX6_isWaived_0 (by decide) ?_
  refine lv_istore_n (lv' := [(3, .int 0), (0, .ref (ad 0)), (1, .int x1), (2, .int x2)]) hx hb dX6_isWaived_1 rfl hl (by decide) rfl (fun ls hl => ?_)
  refine lv_iconst (v := 0) hx hb dX6_isWaived_2 (by decide) ?_
  refine lv_istore (lv' := [(4, .int 0), (3, .int 0), (0, .ref (ad 0)), (1, .int x1), (2, .int x2)]) hx hb dX6_isWaived_3 hl (by decide) rfl (fun ls hl => ?_)
  have L5 : ∀ (kk : Bool → Int32 → Option (Bool)), (∀ (v3 : Bool) (v4 : Int32) (ls : Array Slot), kk v3 v4 = some r0 → lv_has ls 5 [(0, .ref (ad 0)), (1, .int x1), (2, .int x2), (3, .int (swB v3)), (4, .int v4)] → W p l e (headSpec wsX6_isWaived rmX6_isWaived).room s m args below meth c s.heap [] 0 0 (MQ below (vp_Si (fun r : Int32 => r = swB r0)) args s 0 0 (fun _ => False)) (F0 m 66 ls [])) → ∀ (n : Nat) (v3 : Bool) (v4 : Int32) (ls : Array Slot), mx_isWaived_L5 u x1 x2 kk n v3 v4 = some r0 → lv_has ls 5 [(0, .ref (ad 0)), (1, .int x1), (2, .int x2), (3, .int (swB v3)), (4, .int v4)] → W p l e (headSpec wsX6_isWaived rmX6_isWaived).room s m args below meth c s.heap [] 0 0 (MQ below (vp_Si (fun r : Int32 => r = swB r0)) args s 0 0 (fun _ => False)) (F0 m 5 ls []) := by
    intro kk hk5 n
    induction n with
    | zero => intro v3 v4 ls h hl; rw [mx_isWaived_L5] at h; cases h
    | succ n ih5 =>
      intro v3 v4 ls h hl
      rw [mx_isWaived_L5] at h
      refine lv_iload hx hb dX6_isWaived_5 (lv_at hl 4 rfl) ?_
      refine lv_aload_n hx hb dX6_isWaived_7 rfl (lv_at hl 0 rfl) ?_
      refine mw_get hx hb hts hin hown hK hP 17 (by decide) f161 rfl dX6_isWaived_8 ?_
      refine lv_icmp_ge (tgt := 66) hx hb dX6_isWaived_11 (by decide) (fun cc => ?_) (fun cc => ?_)
      · replace h := sw_t h cc
        exact hk5 _ _ _ h (lv_sub hl [0, 1, 2, 3, 4] rfl)
      · replace h := sw_f h cc
        refine lv_iload_n hx hb dX6_isWaived_14 rfl (lv_at hl 3 rfl) ?_
        refine lv_if_ne (tgt := 54) hx hb dX6_isWaived_15 (by decide) (fun cc => ?_) (fun cc => ?_)
        · replace h := sw_f h cc
          refine lv_iconst (v := 1) hx hb dX6_isWaived_54 (by decide) ?_
          refine lv_goto (tgt := 59) hx hb dX6_isWaived_55 (by decide) ?_
          refine lv_istore_n (lv' := [(3, .int 1), (0, .ref (ad 0)), (1, .int x1), (2, .int x2), (4, .int v4)]) hx hb dX6_isWaived_59 rfl hl (by decide) rfl (fun ls hl => ?_)
          refine lv_iinc (v := (v4 + 1)) (lv' := [(4, .int (v4 + 1)), (3, .int 1), (0, .ref (ad 0)), (1, .int x1), (2, .int x2)]) hx hb dX6_isWaived_60 hl (k := 4) rfl rfl (by decide) rfl (fun ls hl => ?_)
          refine lv_goto (tgt := 5) hx hb dX6_isWaived_63 (by decide) ?_
          exact ih5 _ _ _ h (lv_sub hl [2, 3, 4, 1, 0] rfl)
        · replace h := sw_t h cc
          refine lv_aload_n hx hb dX6_isWaived_18 rfl (lv_at hl 0 rfl) ?_
          refine mw_get hx hb hts hin hown hK hP 18 (by decide) f53 rfl dX6_isWaived_19 ?_
          refine lv_iload hx hb dX6_isWaived_22 (lv_at hl 4 rfl) ?_
          obtain ⟨a24, ea24, ia24, h⟩ := swrd_s h
          refine mw_ald hx hb hK hP 18 12 rfl rfl ia24 dX6_isWaived_24 ea24 ?_
          refine lv_iload_n hx hb dX6_isWaived_25 rfl (lv_at hl 1 rfl) ?_
          refine lv_icmp_ne (tgt := 58) hx hb dX6_isWaived_26 (by decide) (fun cc => ?_) (fun cc => ?_)
          · replace h := sw_f h cc
            refine lv_iconst (v := 0) hx hb dX6_isWaived_58 (by decide) ?_
            refine lv_istore_n (lv' := [(3, .int 0), (0, .ref (ad 0)), (1, .int x1), (2, .int x2), (4, .int v4)]) hx hb dX6_isWaived_59 rfl hl (by decide) rfl (fun ls hl => ?_)
            refine lv_iinc (v := (v4 + 1)) (lv' := [(4, .int (v4 + 1)), (3, .int 0), (0, .ref (ad 0)), (1, .int x1), (2, .int x2)]) hx hb dX6_isWaived_60 hl (k := 4) rfl rfl (by decide) rfl (fun ls hl => ?_)
            refine lv_goto (tgt := 5) hx hb dX6_isWaived_63 (by decide) ?_
            exact ih5 _ _ _ h (lv_sub hl [2, 3, 4, 1, 0] rfl)
          · replace h := sw_t h cc
            refine lv_aload_n hx hb dX6_isWaived_29 rfl (lv_at hl 0 rfl) ?_
            refine mw_get hx hb hts hin hown hK hP 19 (by decide) f56 rfl dX6_isWaived_30 ?_
            refine lv_iload hx hb dX6_isWaived_33 (lv_at hl 4 rfl) ?_
            obtain ⟨a35, ea35, ia35, h⟩ := swrd_s h
            refine mw_ald hx hb hK hP 19 12 rfl rfl ia35 dX6_isWaived_35 ea35 ?_
            refine lv_iload_n hx hb dX6_isWaived_36 rfl (lv_at hl 2 rfl) ?_
            refine lv_icmp_ne (tgt := 58) hx hb dX6_isWaived_37 (by decide) (fun cc => ?_) (fun cc => ?_)
            · replace h := sw_f h cc
              refine lv_iconst (v := 0) hx hb dX6_isWaived_58 (by decide) ?_
              refine lv_istore_n (lv' := [(3, .int 0), (0, .ref (ad 0)), (1, .int x1), (2, .int x2), (4, .int v4)]) hx hb dX6_isWaived_59 rfl hl (by decide) rfl (fun ls hl => ?_)
              refine lv_iinc (v := (v4 + 1)) (lv' := [(4, .int (v4 + 1)), (3, .int 0), (0, .ref (ad 0)), (1, .int x1), (2, .int x2)]) hx hb dX6_isWaived_60 hl (k := 4) rfl rfl (by decide) rfl (fun ls hl => ?_)
              refine lv_goto (tgt := 5) hx hb dX6_isWaived_63 (by decide) ?_
              exact ih5 _ _ _ h (lv_sub hl [2, 3, 4, 1, 0] rfl)
            · replace h := sw_t h cc
              refine lv_aload_n hx hb dX6_isWaived_40 rfl (lv_at hl 0 rfl) ?_
              refine mw_get hx hb hts hin hown hK hP 20 (by decide) f59 rfl dX6_isWaived_41 ?_
              refine lv_iload hx hb dX6_isWaived_44 (lv_at hl 4 rfl) ?_
              obtain ⟨a46, ea46, ia46, h⟩ := swrd_s h
              refine mw_ald hx hb hK hP 20 12 rfl rfl ia46 dX6_isWaived_46 ea46 ?_
              refine lv_aload_n hx hb dX6_isWaived_47 rfl (lv_at hl 0 rfl) ?_
              refine mw_get hx hb hts hin hown hK hP 21 (by decide) f164 rfl dX6_isWaived_48 ?_
              refine lv_icmp_lt (tgt := 58) hx hb dX6_isWaived_51 (by decide) (fun cc => ?_) (fun cc => ?_)
              · replace h := sw_t h cc
                refine lv_iconst (v := 0) hx hb dX6_isWaived_58 (by decide) ?_
                refine lv_istore_n (lv' := [(3, .int 0), (0, .ref (ad 0)), (1, .int x1), (2, .int x2), (4, .int v4)]) hx hb dX6_isWaived_59 rfl hl (by decide) rfl (fun ls hl => ?_)
                refine lv_iinc (v := (v4 + 1)) (lv' := [(4, .int (v4 + 1)), (3, .int 0), (0, .ref (ad 0)), (1, .int x1), (2, .int x2)]) hx hb dX6_isWaived_60 hl (k := 4) rfl rfl (by decide) rfl (fun ls hl => ?_)
                refine lv_goto (tgt := 5) hx hb dX6_isWaived_63 (by decide) ?_
                exact ih5 _ _ _ h (lv_sub hl [2, 3, 4, 1, 0] rfl)
              · replace h := sw_f h cc
                refine lv_iconst (v := 1) hx hb dX6_isWaived_54 (by decide) ?_
                refine lv_goto (tgt := 59) hx hb dX6_isWaived_55 (by decide) ?_
                refine lv_istore_n (lv' := [(3, .int 1), (0, .ref (ad 0)), (1, .int x1), (2, .int x2), (4, .int v4)]) hx hb dX6_isWaived_59 rfl hl (by decide) rfl (fun ls hl => ?_)
                refine lv_iinc (v := (v4 + 1)) (lv' := [(4, .int (v4 + 1)), (3, .int 1), (0, .ref (ad 0)), (1, .int x1), (2, .int x2)]) hx hb dX6_isWaived_60 hl (k := 4) rfl rfl (by decide) rfl (fun ls hl => ?_)
                refine lv_goto (tgt := 5) hx hb dX6_isWaived_63 (by decide) ?_
                exact ih5 _ _ _ h (lv_sub hl [2, 3, 4, 1, 0] rfl)
  refine L5 _ (fun v3 v4 ls h hl => ?_) 64 _ _ _ h (lv_sub hl [2, 3, 4, 1, 0] rfl)
  refine lv_iload_n hx hb dX6_isWaived_66 rfl (lv_at hl 3 rfl) ?_
  exact W.zret (ty := .boolean) hx hb hr (swB_nar _) (fun t ht hW => ⟨_, rfl, congrArg swB (sw_in1 h), ht⟩) (fun q hq => by cases hq) dX6_isWaived_67 hlocks

/-! isBlocked -/
def mx_isBlocked (u : swU) (x1 : Int32) (x2 : Int32) (x3 : Int32) : Option (Bool) :=
  swbd (mx_breaks u x1 x3) fun r3 => if (swB r3) = 0 then (some false) else (swrd 8 (u.1 13) x1 fun a14 => if a14 = 0 then (some true) else (swrd 8 (u.1 13) x1 fun a23 => if a23 = 1 then (swbd (mx_isWaived u x1 x2) fun r31 => if (swB r31) = 0 then (some true) else (some false)) else (some false)))

abbrev rmX6_isBlocked : Room := { frames := 2, cells := 0, slots := 0, locals := 44 }

set_option maxHeartbeats 4000000 in
set_option maxRecDepth 100000 in
theorem mm_isBlocked (l : Launch) (D : va_G) (cy : Nat → ClassId) (ad : Nat → Nat) (u : swU) (x1 : Int32) (x2 : Int32) (x3 : Int32) (r0 : Bool) (h : mx_isBlocked u x1 x2 x3 = some r0) : Met l yX6_isBlocked wsX6_isBlocked rmX6_isBlocked (mwC D cy ad u [.ref (ad 0), .int x1, .int x2, .int x3]) (vp_Si (fun r : Int32 => r = swB r0)) 0 0 (fun _ => False) := by
  refine Met.ofW (cc := cX6_isBlocked) (maxL := 4) (ret := (some .boolean)) (by decide) rfl ?_
  intro p e s m args below meth c s₁ B hml hv
  obtain ⟨ha, hP, hK⟩ := hv
  have hx := B.exec
  have hb := B.bytes
  have hr := B.returns
  have hlocks := B.notSynchronized
  have hts := atoms_spec (ws := wsX6_isBlocked) B.pre
  have hown : s.vm.findClass RX6 = some m.cls := findClass_of_methodNamed B.named
  have E : CallFix p m c cX6_isBlocked 4 s args wsX6_isBlocked RX6 := ⟨hx, hb, hml, hown, hts⟩
  have hin : ∀ w ∈ wsX60, w ∈ wsX6_isBlocked := by decide +kernel
  have f41 : (Cond.fieldLink RX6 41 "SlidewardenModel" "rank" "[I").before args s = true := hts _ (by decide +kernel)
  obtain ⟨ls, hl, hent⟩ := sw_entry m (n := 4) ha (Nat.le_of_ble_eq_true rfl)
  rw [hent]
  have hl : lv_has ls 4 [(0, .ref (ad 0)), (1, .int x1), (2, .int x2), (3, .int x3)] := hl
  unfold mx_isBlocked at h
  refine lv_aload_n hx hb dX6_isBlocked_0 rfl (lv_at hl 0 rfl) ?_
  refine lv_iload_n hx hb dX6_isBlocked_1 rfl (lv_at hl 1 rfl) ?_
  refine lv_iload_n hx hb dX6_isBlocked_2 rfl (lv_at hl 3 rfl) ?_
  obtain ⟨r3, er3, h⟩ := swbd_s h
  refine mw_calli (As := [.int x1, .int x3]) (rest := []) E (mm_breaks l D cy ad u x1 x3 _ er3) (cwV 2 hts gX6_isBlocked_X6_breaks rfl rfl rfl (by decide +kernel) ⟨Nat.le_of_ble_eq_true rfl, Nat.le_of_ble_eq_true rfl⟩) hK hP rfl hl.1 rfl (Nat.le_of_ble_eq_true rfl) dX6_isBlocked_3 ?_
  refine lv_if_eq (tgt := 41) hx hb dX6_isBlocked_6 (by decide) (fun cc => ?_) (fun cc => ?_)
  · replace h := sw_t h cc
    refine lv_iconst (v := 0) hx hb dX6_isBlocked_41 (by decide) ?_
    exact W.zret (ty := .boolean) hx hb hr rfl (fun t ht hW => ⟨_, rfl, congrArg swB (sw_in1 h), ht⟩) (fun q hq => by cases hq) dX6_isBlocked_42 hlocks
  · replace h := sw_f h cc
    refine lv_aload_n hx hb dX6_isBlocked_9 rfl (lv_at hl 0 rfl) ?_
    refine mw_get hx hb hts hin hown hK hP 13 (by decide) f41 rfl dX6_isBlocked_10 ?_
    refine lv_iload_n hx hb dX6_isBlocked_13 rfl (lv_at hl 1 rfl) ?_
    obtain ⟨a14, ea14, ia14, h⟩ := swrd_s h
    refine mw_ald hx hb hK hP 13 8 rfl rfl ia14 dX6_isBlocked_14 ea14 ?_
    refine lv_if_eq (tgt := 37) hx hb dX6_isBlocked_15 (by decide) (fun cc => ?_) (fun cc => ?_)
    · replace h := sw_t h cc
      refine lv_iconst (v := 1) hx hb dX6_isBlocked_37 (by decide) ?_
      refine lv_goto (tgt := 42) hx hb dX6_isBlocked_38 (by decide) ?_
      exact W.zret (ty := .boolean) hx hb hr rfl (fun t ht hW => ⟨_, rfl, congrArg swB (sw_in1 h), ht⟩) (fun q hq => by cases hq) dX6_isBlocked_42 hlocks
    · replace h := sw_f h cc
      refine lv_aload_n hx hb dX6_isBlocked_18 rfl (lv_at hl 0 rfl) ?_
      refine mw_get hx hb hts hin hown hK hP 13 (by decide) f41 rfl dX6_isBlocked_19 ?_
      refine lv_iload_n hx hb dX6_isBlocked_22 rfl (lv_at hl 1 rfl) ?_
      obtain ⟨a23, ea23, ia23, h⟩ := swrd_s h
      refine mw_ald hx hb hK hP 13 8 rfl rfl ia23 dX6_isBlocked_23 ea23 ?_
      refine lv_iconst (v := 1) hx hb dX6_isBlocked_24 (by decide) ?_
      refine lv_icmp_ne (tgt := 41) hx hb dX6_isBlocked_25 (by decide) (fun cc => ?_) (fun cc => ?_)
      · replace h := sw_f h cc
        refine lv_iconst (v := 0) hx hb dX6_isBlocked_41 (by decide) ?_
        exact W.zret (ty := .boolean) hx hb hr rfl (fun t ht hW => ⟨_, rfl, congrArg swB (sw_in1 h), ht⟩) (fun q hq => by cases hq) dX6_isBlocked_42 hlocks
      · replace h := sw_t h cc
        refine lv_aload_n hx hb dX6_isBlocked_28 rfl (lv_at hl 0 rfl) ?_
        refine lv_iload_n hx hb dX6_isBlocked_29 rfl (lv_at hl 1 rfl) ?_
        refine lv_iload_n hx hb dX6_isBlocked_30 rfl (lv_at hl 2 rfl) ?_
        obtain ⟨r31, er31, h⟩ := swbd_s h
        refine mw_calli (As := [.int x1, .int x2]) (rest := []) E (mm_isWaived l D cy ad u x1 x2 _ er31) (cwV 2 hts gX6_isBlocked_X6_isWaived rfl rfl rfl (by decide +kernel) ⟨Nat.le_of_ble_eq_true rfl, Nat.le_of_ble_eq_true rfl⟩) hK hP rfl hl.1 rfl (Nat.le_of_ble_eq_true rfl) dX6_isBlocked_31 ?_
        refine lv_if_ne (tgt := 41) hx hb dX6_isBlocked_34 (by decide) (fun cc => ?_) (fun cc => ?_)
        · replace h := sw_f h cc
          refine lv_iconst (v := 0) hx hb dX6_isBlocked_41 (by decide) ?_
          exact W.zret (ty := .boolean) hx hb hr rfl (fun t ht hW => ⟨_, rfl, congrArg swB (sw_in1 h), ht⟩) (fun q hq => by cases hq) dX6_isBlocked_42 hlocks
        · replace h := sw_t h cc
          refine lv_iconst (v := 1) hx hb dX6_isBlocked_37 (by decide) ?_
          refine lv_goto (tgt := 42) hx hb dX6_isBlocked_38 (by decide) ?_
          exact W.zret (ty := .boolean) hx hb hr rfl (fun t ht hW => ⟨_, rfl, congrArg swB (sw_in1 h), ht⟩) (fun q hq => by cases hq) dX6_isBlocked_42 hlocks

/-! blocksOf -/
def mx_blocksOf_L17 (u : swU) (x1 : Int32) (v3 : Int32) (kk : Int32 → Int32 → Option (Int32)) : Nat → Int32 → Int32 → Option (Int32)
  | 0, _, _ => none
  | n + 1, v2, v4 => if (u.1 0 12) ≤ v4 then (kk v2 v4) else (swrd 320 (u.1 6) (((8 * x1) + v3)) fun a40 => swrd 8 (u.1 14) v4 fun a59 => swrd 1280 (u.1 7) (((4 * ((8 * x1) + v3)) + a59)) fun a61 => swbd (mx_isBlocked u v4 a40 a61) fun r62 => if (swB r62) = 0 then (swlt (v2 + 0) fun y74 => mx_blocksOf_L17 u x1 v3 kk n y74 (v4 + 1)) else (swlt (v2 + 1) fun y74 => mx_blocksOf_L17 u x1 v3 kk n y74 (v4 + 1)))

def mx_blocksOf_L4 (u : swU) (x1 : Int32) (kk : Int32 → Int32 → Option (Int32)) : Nat → Int32 → Int32 → Option (Int32)
  | 0, _, _ => none
  | n + 1, v2, v3 => swrd 40 (u.1 5) x1 fun a10 => if a10 ≤ v3 then (kk v2 v3) else (mx_blocksOf_L17 u x1 v3 (fun v2 v4 => mx_blocksOf_L4 u x1 kk n v2 (v3 + 1)) 64 v2 0)

def mx_blocksOf (u : swU) (x1 : Int32) : Option (Int32) :=
  mx_blocksOf_L4 u x1 (fun v2 v3 => some v2) 64 0 0

abbrev rmX6_blocksOf : Room := { frames := 3, cells := 0, slots := 0, locals := 67 }

set_option maxHeartbeats 4000000 in
set_option maxRecDepth 100000 in
theorem mm_blocksOf (l : Launch) (D : va_G) (cy : Nat → ClassId) (ad : Nat → Nat) (u : swU) (x1 : Int32) (r0 : Int32) (h : mx_blocksOf u x1 = some r0) : Met l yX6_blocksOf wsX6_blocksOf rmX6_blocksOf (mwC D cy ad u [.ref (ad 0), .int x1]) (vp_Si (fun r : Int32 => r = r0)) 0 0 (fun _ => False) := by
  refine Met.ofW (cc := cX6_blocksOf) (maxL := 5) (ret := (some .int)) (by decide) rfl ?_
  intro p e s m args below meth c s₁ B hml hv
  obtain ⟨ha, hP, hK⟩ := hv
  have hx := B.exec
  have hb := B.bytes
  have hr := B.returns
  have hlocks := B.notSynchronized
  have hts := atoms_spec (ws := wsX6_blocksOf) B.pre
  have hown : s.vm.findClass RX6 = some m.cls := findClass_of_methodNamed B.named
  have E : CallFix p m c cX6_blocksOf 5 s args wsX6_blocksOf RX6 := ⟨hx, hb, hml, hown, hts⟩
  have hin : ∀ w ∈ wsX60, w ∈ wsX6_blocksOf := by decide +kernel
  have f155 : (Cond.fieldLink RX6 155 "SlidewardenModel" "rules" "I").before args s = true := hts _ (by decide +kernel)
  have f23 : (Cond.fieldLink RX6 23 "SlidewardenModel" "many" "[I").before args s = true := hts _ (by decide +kernel)
  have f26 : (Cond.fieldLink RX6 26 "SlidewardenModel" "row" "[I").before args s = true := hts _ (by decide +kernel)
  have f29 : (Cond.fieldLink RX6 29 "SlidewardenModel" "value" "[I").before args s = true := hts _ (by decide +kernel)
  have f44 : (Cond.fieldLink RX6 44 "SlidewardenModel" "object" "[I").before args s = true := hts _ (by decide +kernel)
  obtain ⟨ls, hl, hent⟩ := sw_entry m (n := 5) ha (Nat.le_of_ble_eq_true rfl)
  rw [hent]
  have hl : lv_has ls 5 [(0, .ref (ad 0)), (1, .int x1)] := hl
  unfold mx_blocksOf at h
  refine lv_iconst (v := 0) hx hb dX6_blocksOf_0 (by decide) ?_
  refine lv_istore_n (lv' := [(2, .int 0), (0, .ref (ad 0)), (1, .int x1)]) hx hb dX6_blocksOf_1 rfl hl (by decide) rfl (fun ls hl => ?_)
  refine lv_iconst (v := 0) hx hb dX6_blocksOf_2 (by decide) ?_
  refine lv_istore_n (lv' := [(3, .int 0), (2, .int 0), (0, .ref (ad 0)), (1, .int x1)]) hx hb dX6_blocksOf_3 rfl hl (by decide) rfl (fun ls hl => ?_)
  have L4 : ∀ (kk : Int32 → Int32 → Option (Int32)), (∀ (v2 : Int32) (v3 : Int32) (ls : Array Slot), kk v2 v3 = some r0 → lv_has ls 5 [(0, .ref (ad 0)), (1, .int x1), (2, .int v2), (3, .int v3)] → W p l e (headSpec wsX6_blocksOf rmX6_blocksOf).room s m args below meth c s.heap [] 0 0 (MQ below (vp_Si (fun r : Int32 => r = r0)) args s 0 0 (fun _ => False)) (F0 m 87 ls [])) → ∀ (n : Nat) (v2 : Int32) (v3 : Int32) (ls : Array Slot), mx_blocksOf_L4 u x1 kk n v2 v3 = some r0 → lv_has ls 5 [(0, .ref (ad 0)), (1, .int x1), (2, .int v2), (3, .int v3)] → W p l e (headSpec wsX6_blocksOf rmX6_blocksOf).room s m args below meth c s.heap [] 0 0 (MQ below (vp_Si (fun r : Int32 => r = r0)) args s 0 0 (fun _ => False)) (F0 m 4 ls []) := by
    intro kk hk4 n
    induction n with
    | zero => intro v2 v3 ls h hl; rw [mx_blocksOf_L4] at h; cases h
    | succ n ih4 =>
      intro v2 v3 ls h hl
      rw [mx_blocksOf_L4] at h
      refine lv_iload_n hx hb dX6_blocksOf_4 rfl (lv_at hl 3 rfl) ?_
      refine lv_aload_n hx hb dX6_blocksOf_5 rfl (lv_at hl 0 rfl) ?_
      refine mw_get hx hb hts hin hown hK hP 5 (by decide) f23 rfl dX6_blocksOf_6 ?_
      refine lv_iload_n hx hb dX6_blocksOf_9 rfl (lv_at hl 1 rfl) ?_
      obtain ⟨a10, ea10, ia10, h⟩ := swrd_s h
      refine mw_ald hx hb hK hP 5 40 rfl rfl ia10 dX6_blocksOf_10 ea10 ?_
      refine lv_icmp_ge (tgt := 87) hx hb dX6_blocksOf_11 (by decide) (fun cc => ?_) (fun cc => ?_)
      · replace h := sw_t h cc
        exact hk4 _ _ _ h (lv_sub hl [0, 1, 2, 3] rfl)
      · replace h := sw_f h cc
        refine lv_iconst (v := 0) hx hb dX6_blocksOf_14 (by decide) ?_
        refine lv_istore (lv' := [(4, .int 0), (0, .ref (ad 0)), (1, .int x1), (2, .int v2), (3, .int v3)]) hx hb dX6_blocksOf_15 hl (by decide) rfl (fun ls hl => ?_)
        have L17 : ∀ (kk : Int32 → Int32 → Option (Int32)), (∀ (v2 : Int32) (v4 : Int32) (ls : Array Slot), kk v2 v4 = some r0 → lv_has ls 5 [(0, .ref (ad 0)), (1, .int x1), (2, .int v2), (3, .int v3), (4, .int v4)] → W p l e (headSpec wsX6_blocksOf rmX6_blocksOf).room s m args below meth c s.heap [] 0 0 (MQ below (vp_Si (fun r : Int32 => r = r0)) args s 0 0 (fun _ => False)) (F0 m 81 ls [])) → ∀ (n : Nat) (v2 : Int32) (v4 : Int32) (ls : Array Slot), mx_blocksOf_L17 u x1 v3 kk n v2 v4 = some r0 → lv_has ls 5 [(0, .ref (ad 0)), (1, .int x1), (2, .int v2), (3, .int v3), (4, .int v4)] → W p l e (headSpec wsX6_blocksOf rmX6_blocksOf).room s m args below meth c s.heap [] 0 0 (MQ below (vp_Si (fun r : Int32 => r = r0)) args s 0 0 (fun _ => False)) (F0 m 17 ls []) := by
          intro kk hk17 n
          induction n with
          | zero => intro v2 v4 ls h hl; rw [mx_blocksOf_L17] at h; cases h
          | succ n ih17 =>
            intro v2 v4 ls h hl
            rw [mx_blocksOf_L17] at h
            refine lv_iload hx hb dX6_blocksOf_17 (lv_at hl 4 rfl) ?_
            refine lv_aload_n hx hb dX6_blocksOf_19 rfl (lv_at hl 0 rfl) ?_
            refine mw_get hx hb hts hin hown hK hP 12 (by decide) f155 rfl dX6_blocksOf_20 ?_
            refine lv_icmp_ge (tgt := 81) hx hb dX6_blocksOf_23 (by decide) (fun cc => ?_) (fun cc => ?_)
            · replace h := sw_t h cc
              exact hk17 _ _ _ h (lv_sub hl [0, 1, 2, 3, 4] rfl)
            · replace h := sw_f h cc
              refine lv_iload_n hx hb dX6_blocksOf_26 rfl (lv_at hl 2 rfl) ?_
              refine lv_aload_n hx hb dX6_blocksOf_27 rfl (lv_at hl 0 rfl) ?_
              refine lv_iload hx hb dX6_blocksOf_28 (lv_at hl 4 rfl) ?_
              refine lv_aload_n hx hb dX6_blocksOf_30 rfl (lv_at hl 0 rfl) ?_
              refine mw_get hx hb hts hin hown hK hP 6 (by decide) f26 rfl dX6_blocksOf_31 ?_
              refine lv_bipush (v := 8) hx hb dX6_blocksOf_34 (by decide) ?_
              refine lv_iload_n hx hb dX6_blocksOf_36 rfl (lv_at hl 1 rfl) ?_
              refine lv_imul hx hb dX6_blocksOf_37 ?_
              refine lv_iload_n hx hb dX6_blocksOf_38 rfl (lv_at hl 3 rfl) ?_
              refine lv_iadd hx hb dX6_blocksOf_39 ?_
              obtain ⟨a40, ea40, ia40, h⟩ := swrd_s h
              refine mw_ald hx hb hK hP 6 320 rfl rfl ia40 dX6_blocksOf_40 ea40 ?_
              refine lv_aload_n hx hb dX6_blocksOf_41 rfl (lv_at hl 0 rfl) ?_
              refine mw_get hx hb hts hin hown hK hP 7 (by decide) f29 rfl dX6_blocksOf_42 ?_
              refine lv_iconst (v := 4) hx hb dX6_blocksOf_45 (by decide) ?_
              refine lv_bipush (v := 8) hx hb dX6_blocksOf_46 (by decide) ?_
              refine lv_iload_n hx hb dX6_blocksOf_48 rfl (lv_at hl 1 rfl) ?_
              refine lv_imul hx hb dX6_blocksOf_49 ?_
              refine lv_iload_n hx hb dX6_blocksOf_50 rfl (lv_at hl 3 rfl) ?_
              refine lv_iadd hx hb dX6_blocksOf_51 ?_
              refine lv_imul hx hb dX6_blocksOf_52 ?_
              refine lv_aload_n hx hb dX6_blocksOf_53 rfl (lv_at hl 0 rfl) ?_
              refine mw_get hx hb hts hin hown hK hP 14 (by decide) f44 rfl dX6_blocksOf_54 ?_
              refine lv_iload hx hb dX6_blocksOf_57 (lv_at hl 4 rfl) ?_
              obtain ⟨a59, ea59, ia59, h⟩ := swrd_s h
              refine mw_ald hx hb hK hP 14 8 rfl rfl ia59 dX6_blocksOf_59 ea59 ?_
              refine lv_iadd hx hb dX6_blocksOf_60 ?_
              obtain ⟨a61, ea61, ia61, h⟩ := swrd_s h
              refine mw_ald hx hb hK hP 7 1280 rfl rfl ia61 dX6_blocksOf_61 ea61 ?_
              obtain ⟨r62, er62, h⟩ := swbd_s h
              refine mw_calli (As := [.int v4, .int a40, .int a61]) (rest := [.int v2]) E (mm_isBlocked l D cy ad u v4 a40 a61 _ er62) (cwV 3 hts gX6_blocksOf_X6_isBlocked rfl rfl rfl (by decide +kernel) ⟨Nat.le_of_ble_eq_true rfl, Nat.le_of_ble_eq_true rfl⟩) hK hP rfl hl.1 rfl (Nat.le_of_ble_eq_true rfl) dX6_blocksOf_62 ?_
              refine lv_if_eq (tgt := 72) hx hb dX6_blocksOf_65 (by decide) (fun cc => ?_) (fun cc => ?_)
              · replace h := sw_t h cc
                refine lv_iconst (v := 0) hx hb dX6_blocksOf_72 (by decide) ?_
                refine lv_iadd hx hb dX6_blocksOf_73 ?_
                obtain ⟨y74, ey74, h⟩ := swlt_s h
                refine sw_top ey74 ?_
                refine lv_istore_n (lv' := [(2, .int y74), (0, .ref (ad 0)), (1, .int x1), (3, .int v3), (4, .int v4)]) hx hb dX6_blocksOf_74 rfl hl (by decide) rfl (fun ls hl => ?_)
                refine lv_iinc (v := (v4 + 1)) (lv' := [(4, .int (v4 + 1)), (2, .int y74), (0, .ref (ad 0)), (1, .int x1), (3, .int v3)]) hx hb dX6_blocksOf_75 hl (k := 4) rfl rfl (by decide) rfl (fun ls hl => ?_)
                refine lv_goto (tgt := 17) hx hb dX6_blocksOf_78 (by decide) ?_
                exact ih17 _ _ _ h (lv_sub hl [2, 3, 1, 4, 0] rfl)
              · replace h := sw_f h cc
                refine lv_iconst (v := 1) hx hb dX6_blocksOf_68 (by decide) ?_
                refine lv_goto (tgt := 73) hx hb dX6_blocksOf_69 (by decide) ?_
                refine lv_iadd hx hb dX6_blocksOf_73 ?_
                obtain ⟨y74, ey74, h⟩ := swlt_s h
                refine sw_top ey74 ?_
                refine lv_istore_n (lv' := [(2, .int y74), (0, .ref (ad 0)), (1, .int x1), (3, .int v3), (4, .int v4)]) hx hb dX6_blocksOf_74 rfl hl (by decide) rfl (fun ls hl => ?_)
                refine lv_iinc (v := (v4 + 1)) (lv' := [(4, .int (v4 + 1)), (2, .int y74), (0, .ref (ad 0)), (1, .int x1), (3, .int v3)]) hx hb dX6_blocksOf_75 hl (k := 4) rfl rfl (by decide) rfl (fun ls hl => ?_)
                refine lv_goto (tgt := 17) hx hb dX6_blocksOf_78 (by decide) ?_
                exact ih17 _ _ _ h (lv_sub hl [2, 3, 1, 4, 0] rfl)
        refine L17 _ (fun v2 v4 ls h hl => ?_) 64 _ _ _ h (lv_sub hl [1, 2, 3, 4, 0] rfl)
        refine lv_iinc (v := (v3 + 1)) (lv' := [(3, .int (v3 + 1)), (0, .ref (ad 0)), (1, .int x1), (2, .int v2), (4, .int v4)]) hx hb dX6_blocksOf_81 hl (k := 3) rfl rfl (by decide) rfl (fun ls hl => ?_)
        refine lv_goto (tgt := 4) hx hb dX6_blocksOf_84 (by decide) ?_
        exact ih4 _ _ _ h (lv_sub hl [1, 2, 3, 0] rfl)
  refine L4 _ (fun v2 v3 ls h hl => ?_) 64 _ _ _ h (lv_sub hl [2, 3, 1, 0] rfl)
  refine lv_iload_n hx hb dX6_blocksOf_87 rfl (lv_at hl 2 rfl) ?_
  exact W.iret hx hb hr (fun t ht hW => ⟨_, rfl, sw_in1 h, ht⟩) (fun q hq => by cases hq) dX6_blocksOf_88 hlocks

/-! branch -/
def mx_branch (u : swU) (x1 : Int32) : Option (Int32 × swU) :=
  swbd (mx_isVersion u x1) fun r3 => if (swB r3) = 0 then (swlt (swI u 0 0 1) fun u27 => some (0, u27)) else (if (u.1 0 9) = 6 then (swlt (swI u 0 0 2) fun u27 => some (0, u27)) else (swlt (swI u 0 0 0) fun u27 => swgd (swix (u27.1 0 9) 6) <| swlt (swI u27 10 (u27.1 0 9).toNatClampNeg x1) fun u48 => swlt (swI u48 0 9 (((u48.1 0 9) + 1))) fun u56 => some (((u56.1 0 9) - 1), u56)))

abbrev rmX6_branch : Room := { frames := 2, cells := 0, slots := 0, locals := 43 }

set_option maxHeartbeats 4000000 in
set_option maxRecDepth 100000 in
theorem mm_branch (l : Launch) (D : va_G) (cy : Nat → ClassId) (ad : Nat → Nat) (hJ : swJ mw_N ad) (u : swU) (x1 : Int32) (r0 : Int32) (u0 : swU) (h : mx_branch u x1 = some (r0, u0)) : Met l yX6_branch wsX6_branch rmX6_branch (mwC D cy ad u [.ref (ad 0), .int x1]) (mwQi D cy ad r0 u0) 0 0 (mwA ad) := by
  refine Met.ofW (cc := cX6_branch) (maxL := 2) (ret := (some .int)) (by decide) rfl ?_
  intro p e s m args below meth c s₁ B hml hv
  obtain ⟨ha, hP, hK⟩ := hv
  have hx := B.exec
  have hb := B.bytes
  have hr := B.returns
  have hlocks := B.notSynchronized
  have hts := atoms_spec (ws := wsX6_branch) B.pre
  have hown : s.vm.findClass RX6 = some m.cls := findClass_of_methodNamed B.named
  have E : CallFix p m c cX6_branch 2 s args wsX6_branch RX6 := ⟨hx, hb, hml, hown, hts⟩
  have hin : ∀ w ∈ wsX60, w ∈ wsX6_branch := by decide +kernel
  have f32 : (Cond.fieldLink RX6 32 "SlidewardenModel" "branches" "I").before args s = true := hts _ (by decide +kernel)
  have f35 : (Cond.fieldLink RX6 35 "SlidewardenModel" "head" "[I").before args s = true := hts _ (by decide +kernel)
  have f78 : (Cond.fieldLink RX6 78 "SlidewardenModel" "thrown" "I").before args s = true := hts _ (by decide +kernel)
  have hS : va_S (mwA ad) s.heap s.heap [] := va_S.rf
  obtain ⟨ls, hl, hent⟩ := sw_entry m (n := 2) ha (Nat.le_of_ble_eq_true rfl)
  rw [hent]
  have hl : lv_has ls 2 [(0, .ref (ad 0)), (1, .int x1)] := hl
  unfold mx_branch at h
  refine lv_aload_n hx hb dX6_branch_0 rfl (lv_at hl 0 rfl) ?_
  refine lv_aload_n hx hb dX6_branch_1 rfl (lv_at hl 0 rfl) ?_
  refine lv_iload_n hx hb dX6_branch_2 rfl (lv_at hl 1 rfl) ?_
  obtain ⟨r3, er3, h⟩ := swbd_s h
  refine mw_calli (As := [.int x1]) (rest := [.ref (ad 0)]) E (mm_isVersion l D cy ad u x1 _ er3) (cwV 1 hts gX6_branch_X6_isVersion rfl rfl rfl (by decide +kernel) ⟨Nat.le_of_ble_eq_true rfl, Nat.le_of_ble_eq_true rfl⟩) hK hP rfl hl.1 rfl (Nat.le_of_ble_eq_true rfl) dX6_branch_3 ?_
  refine lv_if_ne (tgt := 13) hx hb dX6_branch_6 (by decide) (fun cc => ?_) (fun cc => ?_)
  · replace h := sw_f h cc
    refine lv_aload_n hx hb dX6_branch_13 rfl (lv_at hl 0 rfl) ?_
    refine mw_get hx hb hts hin hown hK hP 9 (by decide) f32 rfl dX6_branch_14 ?_
    refine lv_bipush (v := 6) hx hb dX6_branch_17 (by decide) ?_
    refine lv_icmp_ne (tgt := 26) hx hb dX6_branch_19 (by decide) (fun cc => ?_) (fun cc => ?_)
    · replace h := sw_f h cc
      refine lv_iconst (v := 0) hx hb dX6_branch_26 (by decide) ?_
      obtain ⟨u27, eu27, h⟩ := swlt_s h
      refine mw_put hx hb hts hin hown hK hJ hP hS 0 (by decide) rfl f78 eu27 dX6_branch_27 (fun H locs hP hS => ?_)
      refine lv_aload_n hx hb dX6_branch_30 rfl (lv_at hl 0 rfl) ?_
      refine mw_get hx hb hts hin hown hK hP 0 (by decide) f78 rfl dX6_branch_31 ?_
      refine sw_top (x := 0) (by rw [eu27]; rfl) ?_
      refine lv_if_le (tgt := 39) hx hb dX6_branch_34 (by decide) (fun cc => ?_) (fun cc => absurd (by decide) cc)
      refine lv_aload_n hx hb dX6_branch_39 rfl (lv_at hl 0 rfl) ?_
      refine mw_get hx hb hts hin hown hK hP 10 (by decide) f35 rfl dX6_branch_40 ?_
      refine lv_aload_n hx hb dX6_branch_43 rfl (lv_at hl 0 rfl) ?_
      refine mw_get hx hb hts hin hown hK hP 9 (by decide) f32 rfl dX6_branch_44 ?_
      refine lv_iload_n hx hb dX6_branch_47 rfl (lv_at hl 1 rfl) ?_
      obtain ⟨iu48, h⟩ := swgd_s h
      obtain ⟨u48, eu48, h⟩ := swlt_s h
      refine mw_ast hx hb hK hJ hP hS 10 6 rfl (by decide) rfl rfl (swix_s iu48) eu48 dX6_branch_48 (fun H locs hP hS => ?_)
      refine lv_aload_n hx hb dX6_branch_49 rfl (lv_at hl 0 rfl) ?_
      refine lv_dup hx hb dX6_branch_50 rfl ?_
      refine mw_get hx hb hts hin hown hK hP 9 (by decide) f32 rfl dX6_branch_51 ?_
      refine lv_iconst (v := 1) hx hb dX6_branch_54 (by decide) ?_
      refine lv_iadd hx hb dX6_branch_55 ?_
      obtain ⟨u56, eu56, h⟩ := swlt_s h
      refine mw_put hx hb hts hin hown hK hJ hP hS 9 (by decide) rfl f32 eu56 dX6_branch_56 (fun H locs hP hS => ?_)
      refine lv_aload_n hx hb dX6_branch_59 rfl (lv_at hl 0 rfl) ?_
      refine mw_get hx hb hts hin hown hK hP 9 (by decide) f32 rfl dX6_branch_60 ?_
      refine lv_iconst (v := 1) hx hb dX6_branch_63 (by decide) ?_
      refine lv_isub hx hb dX6_branch_64 ?_
      exact W.iret hx hb hr (fun t ht hW => ⟨⟨_, (), rfl, (sw_inj h).1, mw_end hP ht (sw_inj h).2⟩, hS.F ht⟩) hS.2.2 dX6_branch_65 hlocks
    · replace h := sw_t h cc
      refine lv_iconst (v := 2) hx hb dX6_branch_22 (by decide) ?_
      refine lv_goto (tgt := 27) hx hb dX6_branch_23 (by decide) ?_
      obtain ⟨u27, eu27, h⟩ := swlt_s h
      refine mw_put hx hb hts hin hown hK hJ hP hS 0 (by decide) rfl f78 eu27 dX6_branch_27 (fun H locs hP hS => ?_)
      refine lv_aload_n hx hb dX6_branch_30 rfl (lv_at hl 0 rfl) ?_
      refine mw_get hx hb hts hin hown hK hP 0 (by decide) f78 rfl dX6_branch_31 ?_
      refine sw_top (x := 2) (by rw [eu27]; rfl) ?_
      refine lv_if_le (tgt := 39) hx hb dX6_branch_34 (by decide) (fun cc => absurd cc (by decide)) (fun cc => ?_)
      refine lv_iconst (v := 0) hx hb dX6_branch_37 (by decide) ?_
      exact W.iret hx hb hr (fun t ht hW => ⟨⟨_, (), rfl, (sw_inj h).1, mw_end hP ht (sw_inj h).2⟩, hS.F ht⟩) hS.2.2 dX6_branch_38 hlocks
  · replace h := sw_t h cc
    refine lv_iconst (v := 1) hx hb dX6_branch_9 (by decide) ?_
    refine lv_goto (tgt := 27) hx hb dX6_branch_10 (by decide) ?_
    obtain ⟨u27, eu27, h⟩ := swlt_s h
    refine mw_put hx hb hts hin hown hK hJ hP hS 0 (by decide) rfl f78 eu27 dX6_branch_27 (fun H locs hP hS => ?_)
    refine lv_aload_n hx hb dX6_branch_30 rfl (lv_at hl 0 rfl) ?_
    refine mw_get hx hb hts hin hown hK hP 0 (by decide) f78 rfl dX6_branch_31 ?_
    refine sw_top (x := 1) (by rw [eu27]; rfl) ?_
    refine lv_if_le (tgt := 39) hx hb dX6_branch_34 (by decide) (fun cc => absurd cc (by decide)) (fun cc => ?_)
    refine lv_iconst (v := 0) hx hb dX6_branch_37 (by decide) ?_
    exact W.iret hx hb hr (fun t ht hW => ⟨⟨_, (), rfl, (sw_inj h).1, mw_end hP ht (sw_inj h).2⟩, hS.F ht⟩) hS.2.2 dX6_branch_38 hlocks

/-! edits -/
def mx_edits_L109 (y4 : Int32) (a10 : Int32) (v5 : Int32) (kk : Int32 → swU → Option (Int32 × swU)) : Nat → Int32 → swU → Option (Int32 × swU)
  | 0, _, _ => none
  | n + 1, v7, w109 => if 4 ≤ v7 then (kk v7 w109) else (swrd 40 (w109.1 5) y4 fun a129 => swrd 1280 (w109.1 7) (((4 * ((8 * a10) + v5)) + v7)) fun a152 => swgd (swix (((4 * ((8 * y4) + a129)) + v7)) 1280) <| swlt (swI w109 7 (((4 * ((8 * y4) + a129)) + v7)).toNatClampNeg a152) fun u153 => mx_edits_L109 y4 a10 v5 kk n (v7 + 1) u153)

def mx_edits_L55 (x2 : Int32) (y4 : Int32) (a10 : Int32) (kk : Int32 → swU → Option (Int32 × swU)) : Nat → Int32 → swU → Option (Int32 × swU)
  | 0, _, _ => none
  | n + 1, v5, w55 => swrd 40 (w55.1 5) a10 fun a63 => if a63 ≤ v5 then (kk v5 w55) else (swrd 320 (w55.1 6) (((8 * a10) + v5)) fun a79 => if a79 = x2 then (mx_edits_L55 x2 y4 a10 kk n (v5 + 1) w55) else (swrd 40 (w55.1 5) y4 fun a101 => swgd (swix (((8 * y4) + a101)) 320) <| swlt (swI w55 6 (((8 * y4) + a101)).toNatClampNeg a79) fun u105 => mx_edits_L109 y4 a10 v5 (fun v7 w160 => swrd 40 (w160.1 5) y4 fun a166 => swgd (swix y4 40) <| swlt (swI w160 5 y4.toNatClampNeg (a166 + 1)) fun u169 => mx_edits_L55 x2 y4 a10 kk n (v5 + 1) u169) 64 0 u105))

def mx_edits (u : swU) (x1 : Int32) (x2 : Int32) : Option (Int32 × swU) :=
  swlt (u.1 0 1) fun y4 => swrd 6 (u.1 10) x1 fun a10 => swlt (swI u 0 1 (((u.1 0 1) + 1))) fun u20 => swgd (swix y4 40) <| swlt (swI u20 2 y4.toNatClampNeg x1) fun u29 => swgd (swix y4 40) <| swlt (swI u29 3 y4.toNatClampNeg a10) fun u37 => swgd (swix y4 40) <| swlt (swI u37 4 y4.toNatClampNeg (-1)) fun u44 => swgd (swix y4 40) <| swlt (swI u44 5 y4.toNatClampNeg 0) fun u51 => mx_edits_L55 x2 y4 a10 (fun v5 w176 => swgd (swix x1 6) <| swlt (swI w176 10 x1.toNatClampNeg y4) fun u182 => some (y4, u182)) 64 0 u51

abbrev rmX6_edits : Room := { frames := 0, cells := 0, slots := 0, locals := 0 }

set_option maxHeartbeats 4000000 in
set_option maxRecDepth 100000 in
theorem mm_edits (l : Launch) (D : va_G) (cy : Nat → ClassId) (ad : Nat → Nat) (hJ : swJ mw_N ad) (u : swU) (x1 : Int32) (x2 : Int32) (r0 : Int32) (u0 : swU) (h : mx_edits u x1 x2 = some (r0, u0)) : Met l yX6_edits wsX6_edits rmX6_edits (mwC D cy ad u [.ref (ad 0), .int x1, .int x2]) (mwQi D cy ad r0 u0) 0 0 (mwA ad) := by
  refine Met.ofW (cc := cX6_edits) (maxL := 8) (ret := (some .int)) (by decide) rfl ?_
  intro p e s m args below meth c s₁ B hml hv
  obtain ⟨ha, hP, hK⟩ := hv
  have hx := B.exec
  have hb := B.bytes
  have hr := B.returns
  have hlocks := B.notSynchronized
  have hts := atoms_spec (ws := wsX6_edits) B.pre
  have hown : s.vm.findClass RX6 = some m.cls := findClass_of_methodNamed B.named
  have hin : ∀ w ∈ wsX60, w ∈ wsX6_edits := by decide +kernel
  have f13 : (Cond.fieldLink RX6 13 "SlidewardenModel" "madeOn" "[I").before args s = true := hts _ (by decide +kernel)
  have f17 : (Cond.fieldLink RX6 17 "SlidewardenModel" "came" "[I").before args s = true := hts _ (by decide +kernel)
  have f20 : (Cond.fieldLink RX6 20 "SlidewardenModel" "other" "[I").before args s = true := hts _ (by decide +kernel)
  have f23 : (Cond.fieldLink RX6 23 "SlidewardenModel" "many" "[I").before args s = true := hts _ (by decide +kernel)
  have f26 : (Cond.fieldLink RX6 26 "SlidewardenModel" "row" "[I").before args s = true := hts _ (by decide +kernel)
  have f29 : (Cond.fieldLink RX6 29 "SlidewardenModel" "value" "[I").before args s = true := hts _ (by decide +kernel)
  have f35 : (Cond.fieldLink RX6 35 "SlidewardenModel" "head" "[I").before args s = true := hts _ (by decide +kernel)
  have f7 : (Cond.fieldLink RX6 7 "SlidewardenModel" "versions" "I").before args s = true := hts _ (by decide +kernel)
  have hS : va_S (mwA ad) s.heap s.heap [] := va_S.rf
  obtain ⟨ls, hl, hent⟩ := sw_entry m (n := 8) ha (Nat.le_of_ble_eq_true rfl)
  rw [hent]
  have hl : lv_has ls 8 [(0, .ref (ad 0)), (1, .int x1), (2, .int x2)] := hl
  unfold mx_edits at h
  refine lv_aload_n hx hb dX6_edits_0 rfl (lv_at hl 0 rfl) ?_
  refine mw_get hx hb hts hin hown hK hP 1 (by decide) f7 rfl dX6_edits_1 ?_
  obtain ⟨y4, ey4, h⟩ := swlt_s h
  refine sw_top ey4 ?_
  refine lv_istore_n (lv' := [(3, .int y4), (0, .ref (ad 0)), (1, .int x1), (2, .int x2)]) hx hb dX6_edits_4 rfl hl (by decide) rfl (fun ls hl => ?_)
  refine lv_aload_n hx hb dX6_edits_5 rfl (lv_at hl 1 rfl) ?_
  refine mw_get hx hb hts hin hown hK hP 10 (by decide) f35 rfl dX6_edits_6 ?_
  refine lv_iload_n hx hb dX6_edits_9 rfl (lv_at hl 2 rfl) ?_
  obtain ⟨a10, ea10, ia10, h⟩ := swrd_s h
  refine mw_ald hx hb hK hP 10 6 rfl rfl ia10 dX6_edits_10 ea10 ?_
  refine lv_istore (lv' := [(4, .int a10), (3, .int y4), (0, .ref (ad 0)), (1, .int x1), (2, .int x2)]) hx hb dX6_edits_11 hl (by decide) rfl (fun ls hl => ?_)
  refine lv_aload_n hx hb dX6_edits_13 rfl (lv_at hl 2 rfl) ?_
  refine lv_dup hx hb dX6_edits_14 rfl ?_
  refine mw_get hx hb hts hin hown hK hP 1 (by decide) f7 rfl dX6_edits_15 ?_
  refine lv_iconst (v := 1) hx hb dX6_edits_18 (by decide) ?_
  refine lv_iadd hx hb dX6_edits_19 ?_
  obtain ⟨u20, eu20, h⟩ := swlt_s h
  refine mw_put hx hb hts hin hown hK hJ hP hS 1 (by decide) rfl f7 eu20 dX6_edits_20 (fun H locs hP hS => ?_)
  refine lv_aload_n hx hb dX6_edits_23 rfl (lv_at hl 2 rfl) ?_
  refine mw_get hx hb hts hin hown hK hP 2 (by decide) f13 rfl dX6_edits_24 ?_
  refine lv_iload_n hx hb dX6_edits_27 rfl (lv_at hl 1 rfl) ?_
  refine lv_iload_n hx hb dX6_edits_28 rfl (lv_at hl 3 rfl) ?_
  obtain ⟨iu29, h⟩ := swgd_s h
  obtain ⟨u29, eu29, h⟩ := swlt_s h
  refine mw_ast hx hb hK hJ hP hS 2 40 rfl (by decide) rfl rfl (swix_s iu29) eu29 dX6_edits_29 (fun H locs hP hS => ?_)
  refine lv_aload_n hx hb dX6_edits_30 rfl (lv_at hl 2 rfl) ?_
  refine mw_get hx hb hts hin hown hK hP 3 (by decide) f17 rfl dX6_edits_31 ?_
  refine lv_iload_n hx hb dX6_edits_34 rfl (lv_at hl 1 rfl) ?_
  refine lv_iload hx hb dX6_edits_35 (lv_at hl 0 rfl) ?_
  obtain ⟨iu37, h⟩ := swgd_s h
  obtain ⟨u37, eu37, h⟩ := swlt_s h
  refine mw_ast hx hb hK hJ hP hS 3 40 rfl (by decide) rfl rfl (swix_s iu37) eu37 dX6_edits_37 (fun H locs hP hS => ?_)
  refine lv_aload_n hx hb dX6_edits_38 rfl (lv_at hl 2 rfl) ?_
  refine mw_get hx hb hts hin hown hK hP 4 (by decide) f20 rfl dX6_edits_39 ?_
  refine lv_iload_n hx hb dX6_edits_42 rfl (lv_at hl 1 rfl) ?_
  refine lv_iconst (v := (-1)) hx hb dX6_edits_43 (by decide) ?_
  obtain ⟨iu44, h⟩ := swgd_s h
  obtain ⟨u44, eu44, h⟩ := swlt_s h
  refine mw_ast hx hb hK hJ hP hS 4 40 rfl (by decide) rfl rfl (swix_s iu44) eu44 dX6_edits_44 (fun H locs hP hS => ?_)
  refine lv_aload_n hx hb dX6_edits_45 rfl (lv_at hl 2 rfl) ?_
  refine mw_get hx hb hts hin hown hK hP 5 (by decide) f23 rfl dX6_edits_46 ?_
  refine lv_iload_n hx hb dX6_edits_49 rfl (lv_at hl 1 rfl) ?_
  refine lv_iconst (v := 0) hx hb dX6_edits_50 (by decide) ?_
  obtain ⟨iu51, h⟩ := swgd_s h
  obtain ⟨u51, eu51, h⟩ := swlt_s h
  refine mw_ast hx hb hK hJ hP hS 5 40 rfl (by decide) rfl rfl (swix_s iu51) eu51 dX6_edits_51 (fun H locs hP hS => ?_)
  refine lv_iconst (v := 0) hx hb dX6_edits_52 (by decide) ?_
  refine lv_istore (lv' := [(5, .int 0), (4, .int a10), (3, .int y4), (0, .ref (ad 0)), (1, .int x1), (2, .int x2)]) hx hb dX6_edits_53 hl (by decide) rfl (fun ls hl => ?_)
  have L55 : ∀ (kk : Int32 → swU → Option (Int32 × swU)), (∀ (v5 : Int32) (w55 : swU) (H : Heap) (locs : List Loc) (ls : Array Slot), kk v5 w55 = some (r0, u0) → mwP D cy ad w55 H → va_S (mwA ad) s.heap H locs → lv_has ls 8 [(0, .ref (ad 0)), (1, .int x1), (2, .int x2), (3, .int y4), (4, .int a10), (5, .int v5)] → W p l e (headSpec wsX6_edits rmX6_edits).room s m args below meth c H locs 0 0 (MQ below (mwQi D cy ad r0 u0) args s 0 0 (mwA ad)) (F0 m 176 ls [])) → ∀ (n : Nat) (v5 : Int32) (w55 : swU) (H : Heap) (locs : List Loc) (ls : Array Slot), mx_edits_L55 x2 y4 a10 kk n v5 w55 = some (r0, u0) → mwP D cy ad w55 H → va_S (mwA ad) s.heap H locs → lv_has ls 8 [(0, .ref (ad 0)), (1, .int x1), (2, .int x2), (3, .int y4), (4, .int a10), (5, .int v5)] → W p l e (headSpec wsX6_edits rmX6_edits).room s m args below meth c H locs 0 0 (MQ below (mwQi D cy ad r0 u0) args s 0 0 (mwA ad)) (F0 m 55 ls []) := by
    intro kk hk55 n
    induction n with
    | zero => intro v5 w55 H locs ls h hP hS hl; rw [mx_edits_L55] at h; cases h
    | succ n ih55 =>
      intro v5 w55 H locs ls h hP hS hl
      rw [mx_edits_L55] at h
      refine lv_iload hx hb dX6_edits_55 (lv_at hl 5 rfl) ?_
      refine lv_aload_n hx hb dX6_edits_57 rfl (lv_at hl 0 rfl) ?_
      refine mw_get hx hb hts hin hown hK hP 5 (by decide) f23 rfl dX6_edits_58 ?_
      refine lv_iload hx hb dX6_edits_61 (lv_at hl 4 rfl) ?_
      obtain ⟨a63, ea63, ia63, h⟩ := swrd_s h
      refine mw_ald hx hb hK hP 5 40 rfl rfl ia63 dX6_edits_63 ea63 ?_
      refine lv_icmp_ge (tgt := 176) hx hb dX6_edits_64 (by decide) (fun cc => ?_) (fun cc => ?_)
      · replace h := sw_t h cc
        exact hk55 _ _ _ _ _ h hP hS (lv_sub hl [0, 1, 2, 3, 4, 5] rfl)
      · replace h := sw_f h cc
        refine lv_aload_n hx hb dX6_edits_67 rfl (lv_at hl 0 rfl) ?_
        refine mw_get hx hb hts hin hown hK hP 6 (by decide) f26 rfl dX6_edits_68 ?_
        refine lv_bipush (v := 8) hx hb dX6_edits_71 (by decide) ?_
        refine lv_iload hx hb dX6_edits_73 (lv_at hl 4 rfl) ?_
        refine lv_imul hx hb dX6_edits_75 ?_
        refine lv_iload hx hb dX6_edits_76 (lv_at hl 5 rfl) ?_
        refine lv_iadd hx hb dX6_edits_78 ?_
        obtain ⟨a79, ea79, ia79, h⟩ := swrd_s h
        refine mw_ald hx hb hK hP 6 320 rfl rfl ia79 dX6_edits_79 ea79 ?_
        refine lv_istore (lv' := [(6, .int a79), (0, .ref (ad 0)), (1, .int x1), (2, .int x2), (3, .int y4), (4, .int a10), (5, .int v5)]) hx hb dX6_edits_80 hl (by decide) rfl (fun ls hl => ?_)
        refine lv_iload hx hb dX6_edits_82 (lv_at hl 0 rfl) ?_
        refine lv_iload_n hx hb dX6_edits_84 rfl (lv_at hl 3 rfl) ?_
        refine lv_icmp_eq (tgt := 170) hx hb dX6_edits_85 (by decide) (fun cc => ?_) (fun cc => ?_)
        · replace h := sw_t h cc
          refine lv_iinc (v := (v5 + 1)) (lv' := [(5, .int (v5 + 1)), (6, .int a79), (0, .ref (ad 0)), (1, .int x1), (2, .int x2), (3, .int y4), (4, .int a10)]) hx hb dX6_edits_170 hl (k := 6) rfl rfl (by decide) rfl (fun ls hl => ?_)
          refine lv_goto (tgt := 55) hx hb dX6_edits_173 (by decide) ?_
          exact ih55 _ _ _ _ _ h hP hS (lv_sub hl [2, 3, 4, 5, 6, 0] rfl)
        · replace h := sw_f h cc
          refine lv_aload_n hx hb dX6_edits_88 rfl (lv_at hl 1 rfl) ?_
          refine mw_get hx hb hts hin hown hK hP 6 (by decide) f26 rfl dX6_edits_89 ?_
          refine lv_bipush (v := 8) hx hb dX6_edits_92 (by decide) ?_
          refine lv_iload_n hx hb dX6_edits_94 rfl (lv_at hl 4 rfl) ?_
          refine lv_imul hx hb dX6_edits_95 ?_
          refine lv_aload_n hx hb dX6_edits_96 rfl (lv_at hl 1 rfl) ?_
          refine mw_get hx hb hts hin hown hK hP 5 (by decide) f23 rfl dX6_edits_97 ?_
          refine lv_iload_n hx hb dX6_edits_100 rfl (lv_at hl 4 rfl) ?_
          obtain ⟨a101, ea101, ia101, h⟩ := swrd_s h
          refine mw_ald hx hb hK hP 5 40 rfl rfl ia101 dX6_edits_101 ea101 ?_
          refine lv_iadd hx hb dX6_edits_102 ?_
          refine lv_iload hx hb dX6_edits_103 (lv_at hl 0 rfl) ?_
          obtain ⟨iu105, h⟩ := swgd_s h
          obtain ⟨u105, eu105, h⟩ := swlt_s h
          refine mw_ast hx hb hK hJ hP hS 6 320 rfl (by decide) rfl rfl (swix_s iu105) eu105 dX6_edits_105 (fun H locs hP hS => ?_)
          refine lv_iconst (v := 0) hx hb dX6_edits_106 (by decide) ?_
          refine lv_istore (lv' := [(7, .int 0), (6, .int a79), (0, .ref (ad 0)), (1, .int x1), (2, .int x2), (3, .int y4), (4, .int a10), (5, .int v5)]) hx hb dX6_edits_107 hl (by decide) rfl (fun ls hl => ?_)
          have L109 : ∀ (kk : Int32 → swU → Option (Int32 × swU)), (∀ (v7 : Int32) (w109 : swU) (H : Heap) (locs : List Loc) (ls : Array Slot), kk v7 w109 = some (r0, u0) → mwP D cy ad w109 H → va_S (mwA ad) s.heap H locs → lv_has ls 8 [(0, .ref (ad 0)), (1, .int x1), (2, .int x2), (3, .int y4), (4, .int a10), (5, .int v5), (6, .int a79), (7, .int v7)] → W p l e (headSpec wsX6_edits rmX6_edits).room s m args below meth c H locs 0 0 (MQ below (mwQi D cy ad r0 u0) args s 0 0 (mwA ad)) (F0 m 160 ls [])) → ∀ (n : Nat) (v7 : Int32) (w109 : swU) (H : Heap) (locs : List Loc) (ls : Array Slot), mx_edits_L109 y4 a10 v5 kk n v7 w109 = some (r0, u0) → mwP D cy ad w109 H → va_S (mwA ad) s.heap H locs → lv_has ls 8 [(0, .ref (ad 0)), (1, .int x1), (2, .int x2), (3, .int y4), (4, .int a10), (5, .int v5), (6, .int a79), (7, .int v7)] → W p l e (headSpec wsX6_edits rmX6_edits).room s m args below meth c H locs 0 0 (MQ below (mwQi D cy ad r0 u0) args s 0 0 (mwA ad)) (F0 m 109 ls []) := by
            intro kk hk109 n
            induction n with
            | zero => intro v7 w109 H locs ls h hP hS hl; rw [mx_edits_L109] at h; cases h
            | succ n ih109 =>
              intro v7 w109 H locs ls h hP hS hl
              rw [mx_edits_L109] at h
              refine lv_iload hx hb dX6_edits_109 (lv_at hl 7 rfl) ?_
              refine lv_iconst (v := 4) hx hb dX6_edits_111 (by decide) ?_
              refine lv_icmp_ge (tgt := 160) hx hb dX6_edits_112 (by decide) (fun cc => ?_) (fun cc => ?_)
              · replace h := sw_t h cc
                exact hk109 _ _ _ _ _ h hP hS (lv_sub hl [0, 1, 2, 3, 4, 5, 6, 7] rfl)
              · replace h := sw_f h cc
                refine lv_aload_n hx hb dX6_edits_115 rfl (lv_at hl 0 rfl) ?_
                refine mw_get hx hb hts hin hown hK hP 7 (by decide) f29 rfl dX6_edits_116 ?_
                refine lv_iconst (v := 4) hx hb dX6_edits_119 (by decide) ?_
                refine lv_bipush (v := 8) hx hb dX6_edits_120 (by decide) ?_
                refine lv_iload_n hx hb dX6_edits_122 rfl (lv_at hl 3 rfl) ?_
                refine lv_imul hx hb dX6_edits_123 ?_
                refine lv_aload_n hx hb dX6_edits_124 rfl (lv_at hl 0 rfl) ?_
                refine mw_get hx hb hts hin hown hK hP 5 (by decide) f23 rfl dX6_edits_125 ?_
                refine lv_iload_n hx hb dX6_edits_128 rfl (lv_at hl 3 rfl) ?_
                obtain ⟨a129, ea129, ia129, h⟩ := swrd_s h
                refine mw_ald hx hb hK hP 5 40 rfl rfl ia129 dX6_edits_129 ea129 ?_
                refine lv_iadd hx hb dX6_edits_130 ?_
                refine lv_imul hx hb dX6_edits_131 ?_
                refine lv_iload hx hb dX6_edits_132 (lv_at hl 7 rfl) ?_
                refine lv_iadd hx hb dX6_edits_134 ?_
                refine lv_aload_n hx hb dX6_edits_135 rfl (lv_at hl 0 rfl) ?_
                refine mw_get hx hb hts hin hown hK hP 7 (by decide) f29 rfl dX6_edits_136 ?_
                refine lv_iconst (v := 4) hx hb dX6_edits_139 (by decide) ?_
                refine lv_bipush (v := 8) hx hb dX6_edits_140 (by decide) ?_
                refine lv_iload hx hb dX6_edits_142 (lv_at hl 4 rfl) ?_
                refine lv_imul hx hb dX6_edits_144 ?_
                refine lv_iload hx hb dX6_edits_145 (lv_at hl 5 rfl) ?_
                refine lv_iadd hx hb dX6_edits_147 ?_
                refine lv_imul hx hb dX6_edits_148 ?_
                refine lv_iload hx hb dX6_edits_149 (lv_at hl 7 rfl) ?_
                refine lv_iadd hx hb dX6_edits_151 ?_
                obtain ⟨a152, ea152, ia152, h⟩ := swrd_s h
                refine mw_ald hx hb hK hP 7 1280 rfl rfl ia152 dX6_edits_152 ea152 ?_
                obtain ⟨iu153, h⟩ := swgd_s h
                obtain ⟨u153, eu153, h⟩ := swlt_s h
                refine mw_ast hx hb hK hJ hP hS 7 1280 rfl (by decide) rfl rfl (swix_s iu153) eu153 dX6_edits_153 (fun H locs hP hS => ?_)
                refine lv_iinc (v := (v7 + 1)) (lv' := [(7, .int (v7 + 1)), (0, .ref (ad 0)), (1, .int x1), (2, .int x2), (3, .int y4), (4, .int a10), (5, .int v5), (6, .int a79)]) hx hb dX6_edits_154 hl (k := 7) rfl rfl (by decide) rfl (fun ls hl => ?_)
                refine lv_goto (tgt := 109) hx hb dX6_edits_157 (by decide) ?_
                exact ih109 _ _ _ _ _ h hP hS (lv_sub hl [1, 2, 3, 4, 5, 6, 7, 0] rfl)
          refine L109 _ (fun v7 w160 H locs ls h hP hS hl => ?_) 64 _ _ _ _ _ h hP hS (lv_sub hl [2, 3, 4, 5, 6, 7, 1, 0] rfl)
          refine lv_aload_n hx hb dX6_edits_160 rfl (lv_at hl 0 rfl) ?_
          refine mw_get hx hb hts hin hown hK hP 5 (by decide) f23 rfl dX6_edits_161 ?_
          refine lv_iload_n hx hb dX6_edits_164 rfl (lv_at hl 3 rfl) ?_
          refine lv_dup2_11 hx hb dX6_edits_165 rfl rfl ?_
          obtain ⟨a166, ea166, ia166, h⟩ := swrd_s h
          refine mw_ald hx hb hK hP 5 40 rfl rfl ia166 dX6_edits_166 ea166 ?_
          refine lv_iconst (v := 1) hx hb dX6_edits_167 (by decide) ?_
          refine lv_iadd hx hb dX6_edits_168 ?_
          obtain ⟨iu169, h⟩ := swgd_s h
          obtain ⟨u169, eu169, h⟩ := swlt_s h
          refine mw_ast hx hb hK hJ hP hS 5 40 rfl (by decide) rfl rfl (swix_s iu169) eu169 dX6_edits_169 (fun H locs hP hS => ?_)
          refine lv_iinc (v := (v5 + 1)) (lv' := [(5, .int (v5 + 1)), (0, .ref (ad 0)), (1, .int x1), (2, .int x2), (3, .int y4), (4, .int a10), (6, .int a79), (7, .int v7)]) hx hb dX6_edits_170 hl (k := 5) rfl rfl (by decide) rfl (fun ls hl => ?_)
          refine lv_goto (tgt := 55) hx hb dX6_edits_173 (by decide) ?_
          exact ih55 _ _ _ _ _ h hP hS (lv_sub hl [1, 2, 3, 4, 5, 0] rfl)
  refine L55 _ (fun v5 w176 H locs ls h hP hS hl => ?_) 64 _ _ _ _ _ h hP hS (lv_sub hl [3, 4, 5, 2, 1, 0] rfl)
  refine lv_aload_n hx hb dX6_edits_176 rfl (lv_at hl 0 rfl) ?_
  refine mw_get hx hb hts hin hown hK hP 10 (by decide) f35 rfl dX6_edits_177 ?_
  refine lv_iload_n hx hb dX6_edits_180 rfl (lv_at hl 1 rfl) ?_
  refine lv_iload_n hx hb dX6_edits_181 rfl (lv_at hl 3 rfl) ?_
  obtain ⟨iu182, h⟩ := swgd_s h
  obtain ⟨u182, eu182, h⟩ := swlt_s h
  refine mw_ast hx hb hK hJ hP hS 10 6 rfl (by decide) rfl rfl (swix_s iu182) eu182 dX6_edits_182 (fun H locs hP hS => ?_)
  refine lv_iload_n hx hb dX6_edits_183 rfl (lv_at hl 3 rfl) ?_
  exact W.iret hx hb hr (fun t ht hW => ⟨⟨_, (), rfl, (sw_inj h).1, mw_end hP ht (sw_inj h).2⟩, hS.F ht⟩) hS.2.2 dX6_edits_184 hlocks

/-! add -/
def mx_add_L133 (r86 : Int32) (v4 : Int32) (kk : Int32 → swU → Option (Int32 × swU)) : Nat → Int32 → swU → Option (Int32 × swU)
  | 0, _, _ => none
  | n + 1, v5, w133 => if 4 ≤ v5 then (kk v5 w133) else (swrd 1280 (w133.1 7) (((4 * (((8 * r86) + v4) - 1)) + v5)) fun a173 => swgd (swix (((4 * ((8 * r86) + v4)) + v5)) 1280) <| swlt (swI w133 7 (((4 * ((8 * r86) + v4)) + v5)).toNatClampNeg a173) fun u174 => mx_add_L133 r86 v4 kk n (v5 + 1) u174)

def mx_add_L98 (x2 : Int32) (r86 : Int32) (kk : Int32 → swU → Option (Int32 × swU)) : Nat → Int32 → swU → Option (Int32 × swU)
  | 0, _, _ => none
  | n + 1, v4, w98 => if v4 ≤ x2 then (kk v4 w98) else (swrd 320 (w98.1 6) ((((8 * r86) + v4) - 1)) fun a128 => swgd (swix (((8 * r86) + v4)) 320) <| swlt (swI w98 6 (((8 * r86) + v4)).toNatClampNeg a128) fun u129 => mx_add_L133 r86 v4 (fun v5 w181 => mx_add_L98 x2 r86 kk n ((v4 + (-1))) w181) 64 0 u129)

def mx_add_L205 (x2 : Int32) (r86 : Int32) (kk : Int32 → swU → Option (Int32 × swU)) : Nat → Int32 → swU → Option (Int32 × swU)
  | 0, _, _ => none
  | n + 1, v4, w205 => if 4 ≤ v4 then (kk v4 w205) else (swgd (swix (((4 * ((8 * r86) + x2)) + v4)) 1280) <| swlt (swI w205 7 (((4 * ((8 * r86) + x2)) + v4)).toNatClampNeg 0) fun u227 => mx_add_L205 x2 r86 kk n (v4 + 1) u227)

def mx_add (u : swU) (x1 : Int32) (x2 : Int32) : Option (Int32 × swU) :=
  swbd (mx_isBranch u x1) fun r3 => if (swB r3) = 0 then (swlt (swI u 0 0 1) fun u71 => some (0, u71)) else (swrd 6 (u.1 10) x1 fun a20 => swrd 40 (u.1 5) a20 fun a21 => swbd (mx_in x2 0 a21) fun r22 => if (swB r22) = 0 then (swlt (swI u 0 0 1) fun u71 => some (0, u71)) else (swrd 6 (u.1 10) x1 fun a41 => swrd 40 (u.1 5) a41 fun a42 => if a42 = 8 then (swlt (swI u 0 0 2) fun u71 => some (0, u71)) else (if (u.1 0 8) = 20 then (swlt (swI u 0 0 2) fun u71 => some (0, u71)) else (if (u.1 0 1) = 40 then (swlt (swI u 0 0 2) fun u71 => some (0, u71)) else (swlt (swI u 0 0 0) fun u71 => swbd (mx_edits u71 x1 (-1)) fun z86 => match z86 with | (r86, u86) => swrd 40 (u86.1 5) r86 fun a95 => mx_add_L98 x2 r86 (fun v4 w187 => swgd (swix (((8 * r86) + x2)) 320) <| swlt (swI w187 6 (((8 * r86) + x2)).toNatClampNeg (w187.1 0 8)) fun u201 => mx_add_L205 x2 r86 (fun v4 w234 => swrd 40 (w234.1 5) r86 fun a240 => swgd (swix r86 40) <| swlt (swI w234 5 r86.toNatClampNeg (a240 + 1)) fun u243 => swlt (swI u243 0 8 (((u243.1 0 8) + 1))) fun u251 => some (((u251.1 0 8) - 1), u251)) 64 0 u201) 64 a95 u86)))))

abbrev rmX6_add : Room := { frames := 2, cells := 0, slots := 0, locals := 43 }

set_option maxHeartbeats 4000000 in
set_option maxRecDepth 100000 in
theorem mm_add (l : Launch) (D : va_G) (cy : Nat → ClassId) (ad : Nat → Nat) (hJ : swJ mw_N ad) (u : swU) (x1 : Int32) (x2 : Int32) (r0 : Int32) (u0 : swU) (h : mx_add u x1 x2 = some (r0, u0)) : Met l yX6_add wsX6_add rmX6_add (mwC D cy ad u [.ref (ad 0), .int x1, .int x2]) (mwQi D cy ad r0 u0) 0 0 (mwA ad) := by
  refine Met.ofW (cc := cX6_add) (maxL := 6) (ret := (some .int)) (by decide) rfl ?_
  intro p e s m args below meth c s₁ B hml hv
  obtain ⟨ha, hP, hK⟩ := hv
  have hx := B.exec
  have hb := B.bytes
  have hr := B.returns
  have hlocks := B.notSynchronized
  have hts := atoms_spec (ws := wsX6_add) B.pre
  have hown : s.vm.findClass RX6 = some m.cls := findClass_of_methodNamed B.named
  have E : CallFix p m c cX6_add 6 s args wsX6_add RX6 := ⟨hx, hb, hml, hown, hts⟩
  have hin : ∀ w ∈ wsX60, w ∈ wsX6_add := by decide +kernel
  have f23 : (Cond.fieldLink RX6 23 "SlidewardenModel" "many" "[I").before args s = true := hts _ (by decide +kernel)
  have f26 : (Cond.fieldLink RX6 26 "SlidewardenModel" "row" "[I").before args s = true := hts _ (by decide +kernel)
  have f29 : (Cond.fieldLink RX6 29 "SlidewardenModel" "value" "[I").before args s = true := hts _ (by decide +kernel)
  have f35 : (Cond.fieldLink RX6 35 "SlidewardenModel" "head" "[I").before args s = true := hts _ (by decide +kernel)
  have f7 : (Cond.fieldLink RX6 7 "SlidewardenModel" "versions" "I").before args s = true := hts _ (by decide +kernel)
  have f78 : (Cond.fieldLink RX6 78 "SlidewardenModel" "thrown" "I").before args s = true := hts _ (by decide +kernel)
  have f96 : (Cond.fieldLink RX6 96 "SlidewardenModel" "slides" "I").before args s = true := hts _ (by decide +kernel)
  have hS : va_S (mwA ad) s.heap s.heap [] := va_S.rf
  obtain ⟨ls, hl, hent⟩ := sw_entry m (n := 6) ha (Nat.le_of_ble_eq_true rfl)
  rw [hent]
  have hl : lv_has ls 6 [(0, .ref (ad 0)), (1, .int x1), (2, .int x2)] := hl
  unfold mx_add at h
  refine lv_aload_n hx hb dX6_add_0 rfl (lv_at hl 0 rfl) ?_
  refine lv_aload_n hx hb dX6_add_1 rfl (lv_at hl 0 rfl) ?_
  refine lv_iload_n hx hb dX6_add_2 rfl (lv_at hl 1 rfl) ?_
  obtain ⟨r3, er3, h⟩ := swbd_s h
  refine mw_calli (As := [.int x1]) (rest := [.ref (ad 0)]) E (mm_isBranch l D cy ad u x1 _ er3) (cwV 1 hts gX6_add_X6_isBranch rfl rfl rfl (by decide +kernel) ⟨Nat.le_of_ble_eq_true rfl, Nat.le_of_ble_eq_true rfl⟩) hK hP rfl hl.1 rfl (Nat.le_of_ble_eq_true rfl) dX6_add_3 ?_
  refine lv_if_eq (tgt := 28) hx hb dX6_add_6 (by decide) (fun cc => ?_) (fun cc => ?_)
  · replace h := sw_t h cc
    refine lv_iconst (v := 1) hx hb dX6_add_28 (by decide) ?_
    refine lv_goto (tgt := 71) hx hb dX6_add_29 (by decide) ?_
    obtain ⟨u71, eu71, h⟩ := swlt_s h
    refine mw_put hx hb hts hin hown hK hJ hP hS 0 (by decide) rfl f78 eu71 dX6_add_71 (fun H locs hP hS => ?_)
    refine lv_aload_n hx hb dX6_add_74 rfl (lv_at hl 0 rfl) ?_
    refine mw_get hx hb hts hin hown hK hP 0 (by decide) f78 rfl dX6_add_75 ?_
    refine sw_top (x := 1) (by rw [eu71]; rfl) ?_
    refine lv_if_le (tgt := 83) hx hb dX6_add_78 (by decide) (fun cc => absurd cc (by decide)) (fun cc => ?_)
    refine lv_iconst (v := 0) hx hb dX6_add_81 (by decide) ?_
    exact W.iret hx hb hr (fun t ht hW => ⟨⟨_, (), rfl, (sw_inj h).1, mw_end hP ht (sw_inj h).2⟩, hS.F ht⟩) hS.2.2 dX6_add_82 hlocks
  · replace h := sw_f h cc
    refine lv_iload_n hx hb dX6_add_9 rfl (lv_at hl 2 rfl) ?_
    refine lv_iconst (v := 0) hx hb dX6_add_10 (by decide) ?_
    refine lv_aload_n hx hb dX6_add_11 rfl (lv_at hl 0 rfl) ?_
    refine mw_get hx hb hts hin hown hK hP 5 (by decide) f23 rfl dX6_add_12 ?_
    refine lv_aload_n hx hb dX6_add_15 rfl (lv_at hl 0 rfl) ?_
    refine mw_get hx hb hts hin hown hK hP 10 (by decide) f35 rfl dX6_add_16 ?_
    refine lv_iload_n hx hb dX6_add_19 rfl (lv_at hl 1 rfl) ?_
    obtain ⟨a20, ea20, ia20, h⟩ := swrd_s h
    refine mw_ald hx hb hK hP 10 6 rfl rfl ia20 dX6_add_20 ea20 ?_
    obtain ⟨a21, ea21, ia21, h⟩ := swrd_s h
    refine mw_ald hx hb hK hP 5 40 rfl rfl ia21 dX6_add_21 ea21 ?_
    obtain ⟨r22, er22, h⟩ := swbd_s h
    refine sw_callSi (As := [.int x2, .int 0, .int a21]) (rest := [.ref (ad 0)]) E (mm_in l x2 0 a21 _ er22) (va_cwS 3 hts gX6_add_X6_in rfl rfl rfl (by decide +kernel) ⟨Nat.le_of_ble_eq_true rfl, Nat.le_of_ble_eq_true rfl⟩) rfl hl.1 rfl (Nat.le_of_ble_eq_true rfl) dX6_add_22 ?_
    refine lv_if_ne (tgt := 32) hx hb dX6_add_25 (by decide) (fun cc => ?_) (fun cc => ?_)
    · replace h := sw_f h cc
      refine lv_aload_n hx hb dX6_add_32 rfl (lv_at hl 0 rfl) ?_
      refine mw_get hx hb hts hin hown hK hP 5 (by decide) f23 rfl dX6_add_33 ?_
      refine lv_aload_n hx hb dX6_add_36 rfl (lv_at hl 0 rfl) ?_
      refine mw_get hx hb hts hin hown hK hP 10 (by decide) f35 rfl dX6_add_37 ?_
      refine lv_iload_n hx hb dX6_add_40 rfl (lv_at hl 1 rfl) ?_
      obtain ⟨a41, ea41, ia41, h⟩ := swrd_s h
      refine mw_ald hx hb hK hP 10 6 rfl rfl ia41 dX6_add_41 ea41 ?_
      obtain ⟨a42, ea42, ia42, h⟩ := swrd_s h
      refine mw_ald hx hb hK hP 5 40 rfl rfl ia42 dX6_add_42 ea42 ?_
      refine lv_bipush (v := 8) hx hb dX6_add_43 (by decide) ?_
      refine lv_icmp_eq (tgt := 66) hx hb dX6_add_45 (by decide) (fun cc => ?_) (fun cc => ?_)
      · replace h := sw_t h cc
        refine lv_iconst (v := 2) hx hb dX6_add_66 (by decide) ?_
        refine lv_goto (tgt := 71) hx hb dX6_add_67 (by decide) ?_
        obtain ⟨u71, eu71, h⟩ := swlt_s h
        refine mw_put hx hb hts hin hown hK hJ hP hS 0 (by decide) rfl f78 eu71 dX6_add_71 (fun H locs hP hS => ?_)
        refine lv_aload_n hx hb dX6_add_74 rfl (lv_at hl 0 rfl) ?_
        refine mw_get hx hb hts hin hown hK hP 0 (by decide) f78 rfl dX6_add_75 ?_
        refine sw_top (x := 2) (by rw [eu71]; rfl) ?_
        refine lv_if_le (tgt := 83) hx hb dX6_add_78 (by decide) (fun cc => absurd cc (by decide)) (fun cc => ?_)
        refine lv_iconst (v := 0) hx hb dX6_add_81 (by decide) ?_
        exact W.iret hx hb hr (fun t ht hW => ⟨⟨_, (), rfl, (sw_inj h).1, mw_end hP ht (sw_inj h).2⟩, hS.F ht⟩) hS.2.2 dX6_add_82 hlocks
      · replace h := sw_f h cc
        refine lv_aload_n hx hb dX6_add_48 rfl (lv_at hl 0 rfl) ?_
        refine mw_get hx hb hts hin hown hK hP 8 (by decide) f96 rfl dX6_add_49 ?_
        refine lv_bipush (v := 20) hx hb dX6_add_52 (by decide) ?_
        refine lv_icmp_eq (tgt := 66) hx hb dX6_add_54 (by decide) (fun cc => ?_) (fun cc => ?_)
        · replace h := sw_t h cc
          refine lv_iconst (v := 2) hx hb dX6_add_66 (by decide) ?_
          refine lv_goto (tgt := 71) hx hb dX6_add_67 (by decide) ?_
          obtain ⟨u71, eu71, h⟩ := swlt_s h
          refine mw_put hx hb hts hin hown hK hJ hP hS 0 (by decide) rfl f78 eu71 dX6_add_71 (fun H locs hP hS => ?_)
          refine lv_aload_n hx hb dX6_add_74 rfl (lv_at hl 0 rfl) ?_
          refine mw_get hx hb hts hin hown hK hP 0 (by decide) f78 rfl dX6_add_75 ?_
          refine sw_top (x := 2) (by rw [eu71]; rfl) ?_
          refine lv_if_le (tgt := 83) hx hb dX6_add_78 (by decide) (fun cc => absurd cc (by decide)) (fun cc => ?_)
          refine lv_iconst (v := 0) hx hb dX6_add_81 (by decide) ?_
          exact W.iret hx hb hr (fun t ht hW => ⟨⟨_, (), rfl, (sw_inj h).1, mw_end hP ht (sw_inj h).2⟩, hS.F ht⟩) hS.2.2 dX6_add_82 hlocks
        · replace h := sw_f h cc
          refine lv_aload_n hx hb dX6_add_57 rfl (lv_at hl 0 rfl) ?_
          refine mw_get hx hb hts hin hown hK hP 1 (by decide) f7 rfl dX6_add_58 ?_
          refine lv_bipush (v := 40) hx hb dX6_add_61 (by decide) ?_
          refine lv_icmp_ne (tgt := 70) hx hb dX6_add_63 (by decide) (fun cc => ?_) (fun cc => ?_)
          · replace h := sw_f h cc
            refine lv_iconst (v := 0) hx hb dX6_add_70 (by decide) ?_
            obtain ⟨u71, eu71, h⟩ := swlt_s h
            refine mw_put hx hb hts hin hown hK hJ hP hS 0 (by decide) rfl f78 eu71 dX6_add_71 (fun H locs hP hS => ?_)
            refine lv_aload_n hx hb dX6_add_74 rfl (lv_at hl 0 rfl) ?_
            refine mw_get hx hb hts hin hown hK hP 0 (by decide) f78 rfl dX6_add_75 ?_
            refine sw_top (x := 0) (by rw [eu71]; rfl) ?_
            refine lv_if_le (tgt := 83) hx hb dX6_add_78 (by decide) (fun cc => ?_) (fun cc => absurd (by decide) cc)
            refine lv_aload_n hx hb dX6_add_83 rfl (lv_at hl 0 rfl) ?_
            refine lv_iload_n hx hb dX6_add_84 rfl (lv_at hl 1 rfl) ?_
            refine lv_iconst (v := (-1)) hx hb dX6_add_85 (by decide) ?_
            obtain ⟨⟨r86, u86⟩, er86, h⟩ := swbd_s h
            refine mw_callWi (As := [.int x1, .int (-1)]) (rest := []) E (mm_edits l D cy ad hJ u71 x1 (-1) _ _ er86) (cwV 2 hts gX6_add_X6_edits rfl rfl rfl (by decide +kernel) ⟨Nat.le_of_ble_eq_true rfl, Nat.le_of_ble_eq_true rfl⟩) hK hP hS rfl hl.1 rfl (Nat.le_of_ble_eq_true rfl) dX6_add_86 (fun H locs hP hS => ?_)
            refine lv_istore_n (lv' := [(3, .int r86), (0, .ref (ad 0)), (1, .int x1), (2, .int x2)]) hx hb dX6_add_89 rfl hl (by decide) rfl (fun ls hl => ?_)
            refine lv_aload_n hx hb dX6_add_90 rfl (lv_at hl 1 rfl) ?_
            refine mw_get hx hb hts hin hown hK hP 5 (by decide) f23 rfl dX6_add_91 ?_
            refine lv_iload_n hx hb dX6_add_94 rfl (lv_at hl 0 rfl) ?_
            obtain ⟨a95, ea95, ia95, h⟩ := swrd_s h
            refine mw_ald hx hb hK hP 5 40 rfl rfl ia95 dX6_add_95 ea95 ?_
            refine lv_istore (lv' := [(4, .int a95), (3, .int r86), (0, .ref (ad 0)), (1, .int x1), (2, .int x2)]) hx hb dX6_add_96 hl (by decide) rfl (fun ls hl => ?_)
            have L98 : ∀ (kk : Int32 → swU → Option (Int32 × swU)), (∀ (v4 : Int32) (w98 : swU) (H : Heap) (locs : List Loc) (ls : Array Slot), kk v4 w98 = some (r0, u0) → mwP D cy ad w98 H → va_S (mwA ad) s.heap H locs → lv_has ls 6 [(0, .ref (ad 0)), (1, .int x1), (2, .int x2), (3, .int r86), (4, .int v4)] → W p l e (headSpec wsX6_add rmX6_add).room s m args below meth c H locs 0 0 (MQ below (mwQi D cy ad r0 u0) args s 0 0 (mwA ad)) (F0 m 187 ls [])) → ∀ (n : Nat) (v4 : Int32) (w98 : swU) (H : Heap) (locs : List Loc) (ls : Array Slot), mx_add_L98 x2 r86 kk n v4 w98 = some (r0, u0) → mwP D cy ad w98 H → va_S (mwA ad) s.heap H locs → lv_has ls 6 [(0, .ref (ad 0)), (1, .int x1), (2, .int x2), (3, .int r86), (4, .int v4)] → W p l e (headSpec wsX6_add rmX6_add).room s m args below meth c H locs 0 0 (MQ below (mwQi D cy ad r0 u0) args s 0 0 (mwA ad)) (F0 m 98 ls []) := by
              intro kk hk98 n
              induction n with
              | zero => intro v4 w98 H locs ls h hP hS hl; rw [mx_add_L98] at h; cases h
              | succ n ih98 =>
                intro v4 w98 H locs ls h hP hS hl
                rw [mx_add_L98] at h
                refine lv_iload hx hb dX6_add_98 (lv_at hl 4 rfl) ?_
                refine lv_iload_n hx hb dX6_add_100 rfl (lv_at hl 2 rfl) ?_
                refine lv_icmp_le (tgt := 187) hx hb dX6_add_101 (by decide) (fun cc => ?_) (fun cc => ?_)
                · replace h := sw_t h cc
                  exact hk98 _ _ _ _ _ h hP hS (lv_sub hl [0, 1, 2, 3, 4] rfl)
                · replace h := sw_f h cc
                  refine lv_aload_n hx hb dX6_add_104 rfl (lv_at hl 0 rfl) ?_
                  refine mw_get hx hb hts hin hown hK hP 6 (by decide) f26 rfl dX6_add_105 ?_
                  refine lv_bipush (v := 8) hx hb dX6_add_108 (by decide) ?_
                  refine lv_iload_n hx hb dX6_add_110 rfl (lv_at hl 3 rfl) ?_
                  refine lv_imul hx hb dX6_add_111 ?_
                  refine lv_iload hx hb dX6_add_112 (lv_at hl 4 rfl) ?_
                  refine lv_iadd hx hb dX6_add_114 ?_
                  refine lv_aload_n hx hb dX6_add_115 rfl (lv_at hl 0 rfl) ?_
                  refine mw_get hx hb hts hin hown hK hP 6 (by decide) f26 rfl dX6_add_116 ?_
                  refine lv_bipush (v := 8) hx hb dX6_add_119 (by decide) ?_
                  refine lv_iload_n hx hb dX6_add_121 rfl (lv_at hl 3 rfl) ?_
                  refine lv_imul hx hb dX6_add_122 ?_
                  refine lv_iload hx hb dX6_add_123 (lv_at hl 4 rfl) ?_
                  refine lv_iadd hx hb dX6_add_125 ?_
                  refine lv_iconst (v := 1) hx hb dX6_add_126 (by decide) ?_
                  refine lv_isub hx hb dX6_add_127 ?_
                  obtain ⟨a128, ea128, ia128, h⟩ := swrd_s h
                  refine mw_ald hx hb hK hP 6 320 rfl rfl ia128 dX6_add_128 ea128 ?_
                  obtain ⟨iu129, h⟩ := swgd_s h
                  obtain ⟨u129, eu129, h⟩ := swlt_s h
                  refine mw_ast hx hb hK hJ hP hS 6 320 rfl (by decide) rfl rfl (swix_s iu129) eu129 dX6_add_129 (fun H locs hP hS => ?_)
                  refine lv_iconst (v := 0) hx hb dX6_add_130 (by decide) ?_
                  refine lv_istore (lv' := [(5, .int 0), (0, .ref (ad 0)), (1, .int x1), (2, .int x2), (3, .int r86), (4, .int v4)]) hx hb dX6_add_131 hl (by decide) rfl (fun ls hl => ?_)
                  have L133 : ∀ (kk : Int32 → swU → Option (Int32 × swU)), (∀ (v5 : Int32) (w133 : swU) (H : Heap) (locs : List Loc) (ls : Array Slot), kk v5 w133 = some (r0, u0) → mwP D cy ad w133 H → va_S (mwA ad) s.heap H locs → lv_has ls 6 [(0, .ref (ad 0)), (1, .int x1), (2, .int x2), (3, .int r86), (4, .int v4), (5, .int v5)] → W p l e (headSpec wsX6_add rmX6_add).room s m args below meth c H locs 0 0 (MQ below (mwQi D cy ad r0 u0) args s 0 0 (mwA ad)) (F0 m 181 ls [])) → ∀ (n : Nat) (v5 : Int32) (w133 : swU) (H : Heap) (locs : List Loc) (ls : Array Slot), mx_add_L133 r86 v4 kk n v5 w133 = some (r0, u0) → mwP D cy ad w133 H → va_S (mwA ad) s.heap H locs → lv_has ls 6 [(0, .ref (ad 0)), (1, .int x1), (2, .int x2), (3, .int r86), (4, .int v4), (5, .int v5)] → W p l e (headSpec wsX6_add rmX6_add).room s m args below meth c H locs 0 0 (MQ below (mwQi D cy ad r0 u0) args s 0 0 (mwA ad)) (F0 m 133 ls []) := by
                    intro kk hk133 n
                    induction n with
                    | zero => intro v5 w133 H locs ls h hP hS hl; rw [mx_add_L133] at h; cases h
                    | succ n ih133 =>
                      intro v5 w133 H locs ls h hP hS hl
                      rw [mx_add_L133] at h
                      refine lv_iload hx hb dX6_add_133 (lv_at hl 5 rfl) ?_
                      refine lv_iconst (v := 4) hx hb dX6_add_135 (by decide) ?_
                      refine lv_icmp_ge (tgt := 181) hx hb dX6_add_136 (by decide) (fun cc => ?_) (fun cc => ?_)
                      · replace h := sw_t h cc
                        exact hk133 _ _ _ _ _ h hP hS (lv_sub hl [0, 1, 2, 3, 4, 5] rfl)
                      · replace h := sw_f h cc
                        refine lv_aload_n hx hb dX6_add_139 rfl (lv_at hl 0 rfl) ?_
                        refine mw_get hx hb hts hin hown hK hP 7 (by decide) f29 rfl dX6_add_140 ?_
                        refine lv_iconst (v := 4) hx hb dX6_add_143 (by decide) ?_
                        refine lv_bipush (v := 8) hx hb dX6_add_144 (by decide) ?_
                        refine lv_iload_n hx hb dX6_add_146 rfl (lv_at hl 3 rfl) ?_
                        refine lv_imul hx hb dX6_add_147 ?_
                        refine lv_iload hx hb dX6_add_148 (lv_at hl 4 rfl) ?_
                        refine lv_iadd hx hb dX6_add_150 ?_
                        refine lv_imul hx hb dX6_add_151 ?_
                        refine lv_iload hx hb dX6_add_152 (lv_at hl 5 rfl) ?_
                        refine lv_iadd hx hb dX6_add_154 ?_
                        refine lv_aload_n hx hb dX6_add_155 rfl (lv_at hl 0 rfl) ?_
                        refine mw_get hx hb hts hin hown hK hP 7 (by decide) f29 rfl dX6_add_156 ?_
                        refine lv_iconst (v := 4) hx hb dX6_add_159 (by decide) ?_
                        refine lv_bipush (v := 8) hx hb dX6_add_160 (by decide) ?_
                        refine lv_iload_n hx hb dX6_add_162 rfl (lv_at hl 3 rfl) ?_
                        refine lv_imul hx hb dX6_add_163 ?_
                        refine lv_iload hx hb dX6_add_164 (lv_at hl 4 rfl) ?_
                        refine lv_iadd hx hb dX6_add_166 ?_
                        refine lv_iconst (v := 1) hx hb dX6_add_167 (by decide) ?_
                        refine lv_isub hx hb dX6_add_168 ?_
                        refine lv_imul hx hb dX6_add_169 ?_
                        refine lv_iload hx hb dX6_add_170 (lv_at hl 5 rfl) ?_
                        refine lv_iadd hx hb dX6_add_172 ?_
                        obtain ⟨a173, ea173, ia173, h⟩ := swrd_s h
                        refine mw_ald hx hb hK hP 7 1280 rfl rfl ia173 dX6_add_173 ea173 ?_
                        obtain ⟨iu174, h⟩ := swgd_s h
                        obtain ⟨u174, eu174, h⟩ := swlt_s h
                        refine mw_ast hx hb hK hJ hP hS 7 1280 rfl (by decide) rfl rfl (swix_s iu174) eu174 dX6_add_174 (fun H locs hP hS => ?_)
                        refine lv_iinc (v := (v5 + 1)) (lv' := [(5, .int (v5 + 1)), (0, .ref (ad 0)), (1, .int x1), (2, .int x2), (3, .int r86), (4, .int v4)]) hx hb dX6_add_175 hl (k := 5) rfl rfl (by decide) rfl (fun ls hl => ?_)
                        refine lv_goto (tgt := 133) hx hb dX6_add_178 (by decide) ?_
                        exact ih133 _ _ _ _ _ h hP hS (lv_sub hl [1, 2, 3, 4, 5, 0] rfl)
                  refine L133 _ (fun v5 w181 H locs ls h hP hS hl => ?_) 64 _ _ _ _ _ h hP hS (lv_sub hl [1, 2, 3, 4, 5, 0] rfl)
                  refine lv_iinc (v := (v4 + (-1))) (lv' := [(4, .int ((v4 + (-1)))), (0, .ref (ad 0)), (1, .int x1), (2, .int x2), (3, .int r86), (5, .int v5)]) hx hb dX6_add_181 hl (k := 4) rfl rfl (by decide) rfl (fun ls hl => ?_)
                  refine lv_goto (tgt := 98) hx hb dX6_add_184 (by decide) ?_
                  exact ih98 _ _ _ _ _ h hP hS (lv_sub hl [1, 2, 3, 4, 0] rfl)
            refine L98 _ (fun v4 w187 H locs ls h hP hS hl => ?_) 64 _ _ _ _ _ h hP hS (lv_sub hl [2, 3, 4, 1, 0] rfl)
            refine lv_aload_n hx hb dX6_add_187 rfl (lv_at hl 0 rfl) ?_
            refine mw_get hx hb hts hin hown hK hP 6 (by decide) f26 rfl dX6_add_188 ?_
            refine lv_bipush (v := 8) hx hb dX6_add_191 (by decide) ?_
            refine lv_iload_n hx hb dX6_add_193 rfl (lv_at hl 3 rfl) ?_
            refine lv_imul hx hb dX6_add_194 ?_
            refine lv_iload_n hx hb dX6_add_195 rfl (lv_at hl 2 rfl) ?_
            refine lv_iadd hx hb dX6_add_196 ?_
            refine lv_aload_n hx hb dX6_add_197 rfl (lv_at hl 0 rfl) ?_
            refine mw_get hx hb hts hin hown hK hP 8 (by decide) f96 rfl dX6_add_198 ?_
            obtain ⟨iu201, h⟩ := swgd_s h
            obtain ⟨u201, eu201, h⟩ := swlt_s h
            refine mw_ast hx hb hK hJ hP hS 6 320 rfl (by decide) rfl rfl (swix_s iu201) eu201 dX6_add_201 (fun H locs hP hS => ?_)
            refine lv_iconst (v := 0) hx hb dX6_add_202 (by decide) ?_
            refine lv_istore (lv' := [(4, .int 0), (0, .ref (ad 0)), (1, .int x1), (2, .int x2), (3, .int r86)]) hx hb dX6_add_203 hl (by decide) rfl (fun ls hl => ?_)
            have L205 : ∀ (kk : Int32 → swU → Option (Int32 × swU)), (∀ (v4 : Int32) (w205 : swU) (H : Heap) (locs : List Loc) (ls : Array Slot), kk v4 w205 = some (r0, u0) → mwP D cy ad w205 H → va_S (mwA ad) s.heap H locs → lv_has ls 6 [(0, .ref (ad 0)), (1, .int x1), (2, .int x2), (3, .int r86), (4, .int v4)] → W p l e (headSpec wsX6_add rmX6_add).room s m args below meth c H locs 0 0 (MQ below (mwQi D cy ad r0 u0) args s 0 0 (mwA ad)) (F0 m 234 ls [])) → ∀ (n : Nat) (v4 : Int32) (w205 : swU) (H : Heap) (locs : List Loc) (ls : Array Slot), mx_add_L205 x2 r86 kk n v4 w205 = some (r0, u0) → mwP D cy ad w205 H → va_S (mwA ad) s.heap H locs → lv_has ls 6 [(0, .ref (ad 0)), (1, .int x1), (2, .int x2), (3, .int r86), (4, .int v4)] → W p l e (headSpec wsX6_add rmX6_add).room s m args below meth c H locs 0 0 (MQ below (mwQi D cy ad r0 u0) args s 0 0 (mwA ad)) (F0 m 205 ls []) := by
              intro kk hk205 n
              induction n with
              | zero => intro v4 w205 H locs ls h hP hS hl; rw [mx_add_L205] at h; cases h
              | succ n ih205 =>
                intro v4 w205 H locs ls h hP hS hl
                rw [mx_add_L205] at h
                refine lv_iload hx hb dX6_add_205 (lv_at hl 4 rfl) ?_
                refine lv_iconst (v := 4) hx hb dX6_add_207 (by decide) ?_
                refine lv_icmp_ge (tgt := 234) hx hb dX6_add_208 (by decide) (fun cc => ?_) (fun cc => ?_)
                · replace h := sw_t h cc
                  exact hk205 _ _ _ _ _ h hP hS (lv_sub hl [0, 1, 2, 3, 4] rfl)
                · replace h := sw_f h cc
                  refine lv_aload_n hx hb dX6_add_211 rfl (lv_at hl 0 rfl) ?_
                  refine mw_get hx hb hts hin hown hK hP 7 (by decide) f29 rfl dX6_add_212 ?_
                  refine lv_iconst (v := 4) hx hb dX6_add_215 (by decide) ?_
                  refine lv_bipush (v := 8) hx hb dX6_add_216 (by decide) ?_
                  refine lv_iload_n hx hb dX6_add_218 rfl (lv_at hl 3 rfl) ?_
                  refine lv_imul hx hb dX6_add_219 ?_
                  refine lv_iload_n hx hb dX6_add_220 rfl (lv_at hl 2 rfl) ?_
                  refine lv_iadd hx hb dX6_add_221 ?_
                  refine lv_imul hx hb dX6_add_222 ?_
                  refine lv_iload hx hb dX6_add_223 (lv_at hl 4 rfl) ?_
                  refine lv_iadd hx hb dX6_add_225 ?_
                  refine lv_iconst (v := 0) hx hb dX6_add_226 (by decide) ?_
                  obtain ⟨iu227, h⟩ := swgd_s h
                  obtain ⟨u227, eu227, h⟩ := swlt_s h
                  refine mw_ast hx hb hK hJ hP hS 7 1280 rfl (by decide) rfl rfl (swix_s iu227) eu227 dX6_add_227 (fun H locs hP hS => ?_)
                  refine lv_iinc (v := (v4 + 1)) (lv' := [(4, .int (v4 + 1)), (0, .ref (ad 0)), (1, .int x1), (2, .int x2), (3, .int r86)]) hx hb dX6_add_228 hl (k := 4) rfl rfl (by decide) rfl (fun ls hl => ?_)
                  refine lv_goto (tgt := 205) hx hb dX6_add_231 (by decide) ?_
                  exact ih205 _ _ _ _ _ h hP hS (lv_sub hl [1, 2, 3, 4, 0] rfl)
            refine L205 _ (fun v4 w234 H locs ls h hP hS hl => ?_) 64 _ _ _ _ _ h hP hS (lv_sub hl [1, 2, 3, 4, 0] rfl)
            refine lv_aload_n hx hb dX6_add_234 rfl (lv_at hl 0 rfl) ?_
            refine mw_get hx hb hts hin hown hK hP 5 (by decide) f23 rfl dX6_add_235 ?_
            refine lv_iload_n hx hb dX6_add_238 rfl (lv_at hl 3 rfl) ?_
            refine lv_dup2_11 hx hb dX6_add_239 rfl rfl ?_
            obtain ⟨a240, ea240, ia240, h⟩ := swrd_s h
            refine mw_ald hx hb hK hP 5 40 rfl rfl ia240 dX6_add_240 ea240 ?_
            refine lv_iconst (v := 1) hx hb dX6_add_241 (by decide) ?_
            refine lv_iadd hx hb dX6_add_242 ?_
            obtain ⟨iu243, h⟩ := swgd_s h
            obtain ⟨u243, eu243, h⟩ := swlt_s h
            refine mw_ast hx hb hK hJ hP hS 5 40 rfl (by decide) rfl rfl (swix_s iu243) eu243 dX6_add_243 (fun H locs hP hS => ?_)
            refine lv_aload_n hx hb dX6_add_244 rfl (lv_at hl 0 rfl) ?_
            refine lv_dup hx hb dX6_add_245 rfl ?_
            refine mw_get hx hb hts hin hown hK hP 8 (by decide) f96 rfl dX6_add_246 ?_
            refine lv_iconst (v := 1) hx hb dX6_add_249 (by decide) ?_
            refine lv_iadd hx hb dX6_add_250 ?_
            obtain ⟨u251, eu251, h⟩ := swlt_s h
            refine mw_put hx hb hts hin hown hK hJ hP hS 8 (by decide) rfl f96 eu251 dX6_add_251 (fun H locs hP hS => ?_)
            refine lv_aload_n hx hb dX6_add_254 rfl (lv_at hl 0 rfl) ?_
            refine mw_get hx hb hts hin hown hK hP 8 (by decide) f96 rfl dX6_add_255 ?_
            refine lv_iconst (v := 1) hx hb dX6_add_258 (by decide) ?_
            refine lv_isub hx hb dX6_add_259 ?_
            exact W.iret hx hb hr (fun t ht hW => ⟨⟨_, (), rfl, (sw_inj h).1, mw_end hP ht (sw_inj h).2⟩, hS.F ht⟩) hS.2.2 dX6_add_260 hlocks
          · replace h := sw_t h cc
            refine lv_iconst (v := 2) hx hb dX6_add_66 (by decide) ?_
            refine lv_goto (tgt := 71) hx hb dX6_add_67 (by decide) ?_
            obtain ⟨u71, eu71, h⟩ := swlt_s h
            refine mw_put hx hb hts hin hown hK hJ hP hS 0 (by decide) rfl f78 eu71 dX6_add_71 (fun H locs hP hS => ?_)
            refine lv_aload_n hx hb dX6_add_74 rfl (lv_at hl 0 rfl) ?_
            refine mw_get hx hb hts hin hown hK hP 0 (by decide) f78 rfl dX6_add_75 ?_
            refine sw_top (x := 2) (by rw [eu71]; rfl) ?_
            refine lv_if_le (tgt := 83) hx hb dX6_add_78 (by decide) (fun cc => absurd cc (by decide)) (fun cc => ?_)
            refine lv_iconst (v := 0) hx hb dX6_add_81 (by decide) ?_
            exact W.iret hx hb hr (fun t ht hW => ⟨⟨_, (), rfl, (sw_inj h).1, mw_end hP ht (sw_inj h).2⟩, hS.F ht⟩) hS.2.2 dX6_add_82 hlocks
    · replace h := sw_t h cc
      refine lv_iconst (v := 1) hx hb dX6_add_28 (by decide) ?_
      refine lv_goto (tgt := 71) hx hb dX6_add_29 (by decide) ?_
      obtain ⟨u71, eu71, h⟩ := swlt_s h
      refine mw_put hx hb hts hin hown hK hJ hP hS 0 (by decide) rfl f78 eu71 dX6_add_71 (fun H locs hP hS => ?_)
      refine lv_aload_n hx hb dX6_add_74 rfl (lv_at hl 0 rfl) ?_
      refine mw_get hx hb hts hin hown hK hP 0 (by decide) f78 rfl dX6_add_75 ?_
      refine sw_top (x := 1) (by rw [eu71]; rfl) ?_
      refine lv_if_le (tgt := 83) hx hb dX6_add_78 (by decide) (fun cc => absurd cc (by decide)) (fun cc => ?_)
      refine lv_iconst (v := 0) hx hb dX6_add_81 (by decide) ?_
      exact W.iret hx hb hr (fun t ht hW => ⟨⟨_, (), rfl, (sw_inj h).1, mw_end hP ht (sw_inj h).2⟩, hS.F ht⟩) hS.2.2 dX6_add_82 hlocks

/-! set -/
def mx_set (u : swU) (x1 : Int32) (x2 : Int32) (x3 : Int32) (x4 : Int32) : Option (Int32 × swU) :=
  swbd (mx_isInHead u x1 x2) fun r4 => if (swB r4) = 0 then (swlt (swI u 0 0 1) fun u51 => some (0, u51)) else (swbd (mx_isObject x3) fun r11 => if (swB r11) = 0 then (swlt (swI u 0 0 1) fun u51 => some (0, u51)) else (swbd (mx_in x4 0 999) fun r27 => if (swB r27) = 0 then (swlt (swI u 0 0 2) fun u51 => some (0, u51)) else (if (u.1 0 1) = 40 then (swlt (swI u 0 0 3) fun u51 => some (0, u51)) else (swlt (swI u 0 0 0) fun u51 => swbd (mx_edits u51 x1 (-1)) fun z66 => match z66 with | (r66, u66) => swbd (mx_placeOf u66 r66 x2) fun r81 => swlt (((4 * ((8 * r66) + r81)) + x3)) fun y88 => swrd 1280 (u66.1 7) y88 fun a96 => swgd (swix y88 1280) <| swlt (swI u66 7 y88.toNatClampNeg x4) fun u107 => some (a96, u107)))))

abbrev rmX6_set : Room := { frames := 3, cells := 0, slots := 0, locals := 65 }

set_option maxHeartbeats 4000000 in
set_option maxRecDepth 100000 in
theorem mm_set (l : Launch) (D : va_G) (cy : Nat → ClassId) (ad : Nat → Nat) (hJ : swJ mw_N ad) (u : swU) (x1 : Int32) (x2 : Int32) (x3 : Int32) (x4 : Int32) (r0 : Int32) (u0 : swU) (h : mx_set u x1 x2 x3 x4 = some (r0, u0)) : Met l yX6_set wsX6_set rmX6_set (mwC D cy ad u [.ref (ad 0), .int x1, .int x2, .int x3, .int x4]) (mwQi D cy ad r0 u0) 0 0 (mwA ad) := by
  refine Met.ofW (cc := cX6_set) (maxL := 8) (ret := (some .int)) (by decide) rfl ?_
  intro p e s m args below meth c s₁ B hml hv
  obtain ⟨ha, hP, hK⟩ := hv
  have hx := B.exec
  have hb := B.bytes
  have hr := B.returns
  have hlocks := B.notSynchronized
  have hts := atoms_spec (ws := wsX6_set) B.pre
  have hown : s.vm.findClass RX6 = some m.cls := findClass_of_methodNamed B.named
  have E : CallFix p m c cX6_set 8 s args wsX6_set RX6 := ⟨hx, hb, hml, hown, hts⟩
  have hin : ∀ w ∈ wsX60, w ∈ wsX6_set := by decide +kernel
  have f29 : (Cond.fieldLink RX6 29 "SlidewardenModel" "value" "[I").before args s = true := hts _ (by decide +kernel)
  have f7 : (Cond.fieldLink RX6 7 "SlidewardenModel" "versions" "I").before args s = true := hts _ (by decide +kernel)
  have f78 : (Cond.fieldLink RX6 78 "SlidewardenModel" "thrown" "I").before args s = true := hts _ (by decide +kernel)
  have hS : va_S (mwA ad) s.heap s.heap [] := va_S.rf
  obtain ⟨ls, hl, hent⟩ := sw_entry m (n := 8) ha (Nat.le_of_ble_eq_true rfl)
  rw [hent]
  have hl : lv_has ls 8 [(0, .ref (ad 0)), (1, .int x1), (2, .int x2), (3, .int x3), (4, .int x4)] := hl
  unfold mx_set at h
  refine lv_aload_n hx hb dX6_set_0 rfl (lv_at hl 0 rfl) ?_
  refine lv_aload_n hx hb dX6_set_1 rfl (lv_at hl 0 rfl) ?_
  refine lv_iload_n hx hb dX6_set_2 rfl (lv_at hl 1 rfl) ?_
  refine lv_iload_n hx hb dX6_set_3 rfl (lv_at hl 2 rfl) ?_
  obtain ⟨r4, er4, h⟩ := swbd_s h
  refine mw_calli (As := [.int x1, .int x2]) (rest := [.ref (ad 0)]) E (mm_isInHead l D cy ad u x1 x2 _ er4) (cwV 2 hts gX6_set_X6_isInHead rfl rfl rfl (by decide +kernel) ⟨Nat.le_of_ble_eq_true rfl, Nat.le_of_ble_eq_true rfl⟩) hK hP rfl hl.1 rfl (Nat.le_of_ble_eq_true rfl) dX6_set_4 ?_
  refine lv_if_eq (tgt := 17) hx hb dX6_set_7 (by decide) (fun cc => ?_) (fun cc => ?_)
  · replace h := sw_t h cc
    refine lv_iconst (v := 1) hx hb dX6_set_17 (by decide) ?_
    refine lv_goto (tgt := 51) hx hb dX6_set_18 (by decide) ?_
    obtain ⟨u51, eu51, h⟩ := swlt_s h
    refine mw_put hx hb hts hin hown hK hJ hP hS 0 (by decide) rfl f78 eu51 dX6_set_51 (fun H locs hP hS => ?_)
    refine lv_aload_n hx hb dX6_set_54 rfl (lv_at hl 0 rfl) ?_
    refine mw_get hx hb hts hin hown hK hP 0 (by decide) f78 rfl dX6_set_55 ?_
    refine sw_top (x := 1) (by rw [eu51]; rfl) ?_
    refine lv_if_le (tgt := 63) hx hb dX6_set_58 (by decide) (fun cc => absurd cc (by decide)) (fun cc => ?_)
    refine lv_iconst (v := 0) hx hb dX6_set_61 (by decide) ?_
    exact W.iret hx hb hr (fun t ht hW => ⟨⟨_, (), rfl, (sw_inj h).1, mw_end hP ht (sw_inj h).2⟩, hS.F ht⟩) hS.2.2 dX6_set_62 hlocks
  · replace h := sw_f h cc
    refine lv_iload_n hx hb dX6_set_10 rfl (lv_at hl 3 rfl) ?_
    obtain ⟨r11, er11, h⟩ := swbd_s h
    refine sw_callSi (As := [.int x3]) (rest := [.ref (ad 0)]) E (mm_isObject l x3 _ er11) (va_cwS 1 hts gX6_set_X6_isObject rfl rfl rfl (by decide +kernel) ⟨Nat.le_of_ble_eq_true rfl, Nat.le_of_ble_eq_true rfl⟩) rfl hl.1 rfl (Nat.le_of_ble_eq_true rfl) dX6_set_11 ?_
    refine lv_if_ne (tgt := 21) hx hb dX6_set_14 (by decide) (fun cc => ?_) (fun cc => ?_)
    · replace h := sw_f h cc
      refine lv_iload hx hb dX6_set_21 (lv_at hl 4 rfl) ?_
      refine lv_iconst (v := 0) hx hb dX6_set_23 (by decide) ?_
      refine lv_sipush (v := 999) hx hb dX6_set_24 (by decide) ?_
      obtain ⟨r27, er27, h⟩ := swbd_s h
      refine sw_callSi (As := [.int x4, .int 0, .int 999]) (rest := [.ref (ad 0)]) E (mm_in l x4 0 999 _ er27) (va_cwS 3 hts gX6_set_X6_in rfl rfl rfl (by decide +kernel) ⟨Nat.le_of_ble_eq_true rfl, Nat.le_of_ble_eq_true rfl⟩) rfl hl.1 rfl (Nat.le_of_ble_eq_true rfl) dX6_set_27 ?_
      refine lv_if_ne (tgt := 37) hx hb dX6_set_30 (by decide) (fun cc => ?_) (fun cc => ?_)
      · replace h := sw_f h cc
        refine lv_aload_n hx hb dX6_set_37 rfl (lv_at hl 0 rfl) ?_
        refine mw_get hx hb hts hin hown hK hP 1 (by decide) f7 rfl dX6_set_38 ?_
        refine lv_bipush (v := 40) hx hb dX6_set_41 (by decide) ?_
        refine lv_icmp_ne (tgt := 50) hx hb dX6_set_43 (by decide) (fun cc => ?_) (fun cc => ?_)
        · replace h := sw_f h cc
          refine lv_iconst (v := 0) hx hb dX6_set_50 (by decide) ?_
          obtain ⟨u51, eu51, h⟩ := swlt_s h
          refine mw_put hx hb hts hin hown hK hJ hP hS 0 (by decide) rfl f78 eu51 dX6_set_51 (fun H locs hP hS => ?_)
          refine lv_aload_n hx hb dX6_set_54 rfl (lv_at hl 0 rfl) ?_
          refine mw_get hx hb hts hin hown hK hP 0 (by decide) f78 rfl dX6_set_55 ?_
          refine sw_top (x := 0) (by rw [eu51]; rfl) ?_
          refine lv_if_le (tgt := 63) hx hb dX6_set_58 (by decide) (fun cc => ?_) (fun cc => absurd (by decide) cc)
          refine lv_aload_n hx hb dX6_set_63 rfl (lv_at hl 0 rfl) ?_
          refine lv_iload_n hx hb dX6_set_64 rfl (lv_at hl 1 rfl) ?_
          refine lv_iconst (v := (-1)) hx hb dX6_set_65 (by decide) ?_
          obtain ⟨⟨r66, u66⟩, er66, h⟩ := swbd_s h
          refine mw_callWi (As := [.int x1, .int (-1)]) (rest := []) E (mm_edits l D cy ad hJ u51 x1 (-1) _ _ er66) (cwV 2 hts gX6_set_X6_edits rfl rfl rfl (by decide +kernel) ⟨Nat.le_of_ble_eq_true rfl, Nat.le_of_ble_eq_true rfl⟩) hK hP hS rfl hl.1 rfl (Nat.le_of_ble_eq_true rfl) dX6_set_66 (fun H locs hP hS => ?_)
          refine lv_istore (lv' := [(5, .int r66), (0, .ref (ad 0)), (1, .int x1), (2, .int x2), (3, .int x3), (4, .int x4)]) hx hb dX6_set_69 hl (by decide) rfl (fun ls hl => ?_)
          refine lv_iconst (v := 4) hx hb dX6_set_71 (by decide) ?_
          refine lv_bipush (v := 8) hx hb dX6_set_72 (by decide) ?_
          refine lv_iload hx hb dX6_set_74 (lv_at hl 0 rfl) ?_
          refine lv_imul hx hb dX6_set_76 ?_
          refine lv_aload_n hx hb dX6_set_77 rfl (lv_at hl 1 rfl) ?_
          refine lv_iload hx hb dX6_set_78 (lv_at hl 0 rfl) ?_
          refine lv_iload_n hx hb dX6_set_80 rfl (lv_at hl 3 rfl) ?_
          obtain ⟨r81, er81, h⟩ := swbd_s h
          refine mw_calli (As := [.int r66, .int x2]) (rest := [.int (8 * r66), .int 4]) E (mm_placeOf l D cy ad u66 r66 x2 _ er81) (cwV 2 hts gX6_set_X6_placeOf rfl rfl rfl (by decide +kernel) ⟨Nat.le_of_ble_eq_true rfl, Nat.le_of_ble_eq_true rfl⟩) hK hP rfl hl.1 rfl (Nat.le_of_ble_eq_true rfl) dX6_set_81 ?_
          refine lv_iadd hx hb dX6_set_84 ?_
          refine lv_imul hx hb dX6_set_85 ?_
          refine lv_iload_n hx hb dX6_set_86 rfl (lv_at hl 4 rfl) ?_
          refine lv_iadd hx hb dX6_set_87 ?_
          obtain ⟨y88, ey88, h⟩ := swlt_s h
          refine sw_top ey88 ?_
          refine lv_istore (lv' := [(6, .int y88), (5, .int r66), (0, .ref (ad 0)), (1, .int x1), (2, .int x2), (3, .int x3), (4, .int x4)]) hx hb dX6_set_88 hl (by decide) rfl (fun ls hl => ?_)
          refine lv_aload_n hx hb dX6_set_90 rfl (lv_at hl 2 rfl) ?_
          refine mw_get hx hb hts hin hown hK hP 7 (by decide) f29 rfl dX6_set_91 ?_
          refine lv_iload hx hb dX6_set_94 (lv_at hl 0 rfl) ?_
          obtain ⟨a96, ea96, ia96, h⟩ := swrd_s h
          refine mw_ald hx hb hK hP 7 1280 rfl rfl ia96 dX6_set_96 ea96 ?_
          refine lv_istore (lv' := [(7, .int a96), (6, .int y88), (5, .int r66), (0, .ref (ad 0)), (1, .int x1), (2, .int x2), (3, .int x3), (4, .int x4)]) hx hb dX6_set_97 hl (by decide) rfl (fun ls hl => ?_)
          refine lv_aload_n hx hb dX6_set_99 rfl (lv_at hl 3 rfl) ?_
          refine mw_get hx hb hts hin hown hK hP 7 (by decide) f29 rfl dX6_set_100 ?_
          refine lv_iload hx hb dX6_set_103 (lv_at hl 1 rfl) ?_
          refine lv_iload hx hb dX6_set_105 (lv_at hl 7 rfl) ?_
          obtain ⟨iu107, h⟩ := swgd_s h
          obtain ⟨u107, eu107, h⟩ := swlt_s h
          refine mw_ast hx hb hK hJ hP hS 7 1280 rfl (by decide) rfl rfl (swix_s iu107) eu107 dX6_set_107 (fun H locs hP hS => ?_)
          refine lv_iload hx hb dX6_set_108 (lv_at hl 0 rfl) ?_
          exact W.iret hx hb hr (fun t ht hW => ⟨⟨_, (), rfl, (sw_inj h).1, mw_end hP ht (sw_inj h).2⟩, hS.F ht⟩) hS.2.2 dX6_set_110 hlocks
        · replace h := sw_t h cc
          refine lv_iconst (v := 3) hx hb dX6_set_46 (by decide) ?_
          refine lv_goto (tgt := 51) hx hb dX6_set_47 (by decide) ?_
          obtain ⟨u51, eu51, h⟩ := swlt_s h
          refine mw_put hx hb hts hin hown hK hJ hP hS 0 (by decide) rfl f78 eu51 dX6_set_51 (fun H locs hP hS => ?_)
          refine lv_aload_n hx hb dX6_set_54 rfl (lv_at hl 0 rfl) ?_
          refine mw_get hx hb hts hin hown hK hP 0 (by decide) f78 rfl dX6_set_55 ?_
          refine sw_top (x := 3) (by rw [eu51]; rfl) ?_
          refine lv_if_le (tgt := 63) hx hb dX6_set_58 (by decide) (fun cc => absurd cc (by decide)) (fun cc => ?_)
          refine lv_iconst (v := 0) hx hb dX6_set_61 (by decide) ?_
          exact W.iret hx hb hr (fun t ht hW => ⟨⟨_, (), rfl, (sw_inj h).1, mw_end hP ht (sw_inj h).2⟩, hS.F ht⟩) hS.2.2 dX6_set_62 hlocks
      · replace h := sw_t h cc
        refine lv_iconst (v := 2) hx hb dX6_set_33 (by decide) ?_
        refine lv_goto (tgt := 51) hx hb dX6_set_34 (by decide) ?_
        obtain ⟨u51, eu51, h⟩ := swlt_s h
        refine mw_put hx hb hts hin hown hK hJ hP hS 0 (by decide) rfl f78 eu51 dX6_set_51 (fun H locs hP hS => ?_)
        refine lv_aload_n hx hb dX6_set_54 rfl (lv_at hl 0 rfl) ?_
        refine mw_get hx hb hts hin hown hK hP 0 (by decide) f78 rfl dX6_set_55 ?_
        refine sw_top (x := 2) (by rw [eu51]; rfl) ?_
        refine lv_if_le (tgt := 63) hx hb dX6_set_58 (by decide) (fun cc => absurd cc (by decide)) (fun cc => ?_)
        refine lv_iconst (v := 0) hx hb dX6_set_61 (by decide) ?_
        exact W.iret hx hb hr (fun t ht hW => ⟨⟨_, (), rfl, (sw_inj h).1, mw_end hP ht (sw_inj h).2⟩, hS.F ht⟩) hS.2.2 dX6_set_62 hlocks
    · replace h := sw_t h cc
      refine lv_iconst (v := 1) hx hb dX6_set_17 (by decide) ?_
      refine lv_goto (tgt := 51) hx hb dX6_set_18 (by decide) ?_
      obtain ⟨u51, eu51, h⟩ := swlt_s h
      refine mw_put hx hb hts hin hown hK hJ hP hS 0 (by decide) rfl f78 eu51 dX6_set_51 (fun H locs hP hS => ?_)
      refine lv_aload_n hx hb dX6_set_54 rfl (lv_at hl 0 rfl) ?_
      refine mw_get hx hb hts hin hown hK hP 0 (by decide) f78 rfl dX6_set_55 ?_
      refine sw_top (x := 1) (by rw [eu51]; rfl) ?_
      refine lv_if_le (tgt := 63) hx hb dX6_set_58 (by decide) (fun cc => absurd cc (by decide)) (fun cc => ?_)
      refine lv_iconst (v := 0) hx hb dX6_set_61 (by decide) ?_
      exact W.iret hx hb hr (fun t ht hW => ⟨⟨_, (), rfl, (sw_inj h).1, mw_end hP ht (sw_inj h).2⟩, hS.F ht⟩) hS.2.2 dX6_set_62 hlocks

/-! drop -/
def mx_drop (u : swU) (x1 : Int32) (x2 : Int32) : Option (Int32 × swU) :=
  swbd (mx_isInHead u x1 x2) fun r4 => if (swB r4) = 0 then (swlt (swI u 0 0 1) fun u28 => some (0, u28)) else (if (u.1 0 1) = 40 then (swlt (swI u 0 0 2) fun u28 => some (0, u28)) else (swlt (swI u 0 0 0) fun u28 => swbd (mx_edits u28 x1 x2) fun z45 => match z45 with | (r45, u45) => some (r45, u45)))

abbrev rmX6_drop : Room := { frames := 3, cells := 0, slots := 0, locals := 65 }

set_option maxHeartbeats 4000000 in
set_option maxRecDepth 100000 in
theorem mm_drop (l : Launch) (D : va_G) (cy : Nat → ClassId) (ad : Nat → Nat) (hJ : swJ mw_N ad) (u : swU) (x1 : Int32) (x2 : Int32) (r0 : Int32) (u0 : swU) (h : mx_drop u x1 x2 = some (r0, u0)) : Met l yX6_drop wsX6_drop rmX6_drop (mwC D cy ad u [.ref (ad 0), .int x1, .int x2]) (mwQi D cy ad r0 u0) 0 0 (mwA ad) := by
  refine Met.ofW (cc := cX6_drop) (maxL := 3) (ret := (some .int)) (by decide) rfl ?_
  intro p e s m args below meth c s₁ B hml hv
  obtain ⟨ha, hP, hK⟩ := hv
  have hx := B.exec
  have hb := B.bytes
  have hr := B.returns
  have hlocks := B.notSynchronized
  have hts := atoms_spec (ws := wsX6_drop) B.pre
  have hown : s.vm.findClass RX6 = some m.cls := findClass_of_methodNamed B.named
  have E : CallFix p m c cX6_drop 3 s args wsX6_drop RX6 := ⟨hx, hb, hml, hown, hts⟩
  have hin : ∀ w ∈ wsX60, w ∈ wsX6_drop := by decide +kernel
  have f7 : (Cond.fieldLink RX6 7 "SlidewardenModel" "versions" "I").before args s = true := hts _ (by decide +kernel)
  have f78 : (Cond.fieldLink RX6 78 "SlidewardenModel" "thrown" "I").before args s = true := hts _ (by decide +kernel)
  have hS : va_S (mwA ad) s.heap s.heap [] := va_S.rf
  obtain ⟨ls, hl, hent⟩ := sw_entry m (n := 3) ha (Nat.le_of_ble_eq_true rfl)
  rw [hent]
  have hl : lv_has ls 3 [(0, .ref (ad 0)), (1, .int x1), (2, .int x2)] := hl
  unfold mx_drop at h
  refine lv_aload_n hx hb dX6_drop_0 rfl (lv_at hl 0 rfl) ?_
  refine lv_aload_n hx hb dX6_drop_1 rfl (lv_at hl 0 rfl) ?_
  refine lv_iload_n hx hb dX6_drop_2 rfl (lv_at hl 1 rfl) ?_
  refine lv_iload_n hx hb dX6_drop_3 rfl (lv_at hl 2 rfl) ?_
  obtain ⟨r4, er4, h⟩ := swbd_s h
  refine mw_calli (As := [.int x1, .int x2]) (rest := [.ref (ad 0)]) E (mm_isInHead l D cy ad u x1 x2 _ er4) (cwV 2 hts gX6_drop_X6_isInHead rfl rfl rfl (by decide +kernel) ⟨Nat.le_of_ble_eq_true rfl, Nat.le_of_ble_eq_true rfl⟩) hK hP rfl hl.1 rfl (Nat.le_of_ble_eq_true rfl) dX6_drop_4 ?_
  refine lv_if_ne (tgt := 14) hx hb dX6_drop_7 (by decide) (fun cc => ?_) (fun cc => ?_)
  · replace h := sw_f h cc
    refine lv_aload_n hx hb dX6_drop_14 rfl (lv_at hl 0 rfl) ?_
    refine mw_get hx hb hts hin hown hK hP 1 (by decide) f7 rfl dX6_drop_15 ?_
    refine lv_bipush (v := 40) hx hb dX6_drop_18 (by decide) ?_
    refine lv_icmp_ne (tgt := 27) hx hb dX6_drop_20 (by decide) (fun cc => ?_) (fun cc => ?_)
    · replace h := sw_f h cc
      refine lv_iconst (v := 0) hx hb dX6_drop_27 (by decide) ?_
      obtain ⟨u28, eu28, h⟩ := swlt_s h
      refine mw_put hx hb hts hin hown hK hJ hP hS 0 (by decide) rfl f78 eu28 dX6_drop_28 (fun H locs hP hS => ?_)
      refine lv_aload_n hx hb dX6_drop_31 rfl (lv_at hl 0 rfl) ?_
      refine mw_get hx hb hts hin hown hK hP 0 (by decide) f78 rfl dX6_drop_32 ?_
      refine sw_top (x := 0) (by rw [eu28]; rfl) ?_
      refine lv_if_le (tgt := 42) hx hb dX6_drop_35 (by decide) (fun cc => ?_) (fun cc => absurd (by decide) cc)
      refine lv_aload_n hx hb dX6_drop_42 rfl (lv_at hl 0 rfl) ?_
      refine lv_iload_n hx hb dX6_drop_43 rfl (lv_at hl 1 rfl) ?_
      refine lv_iload_n hx hb dX6_drop_44 rfl (lv_at hl 2 rfl) ?_
      obtain ⟨⟨r45, u45⟩, er45, h⟩ := swbd_s h
      refine mw_callWi (As := [.int x1, .int x2]) (rest := []) E (mm_edits l D cy ad hJ u28 x1 x2 _ _ er45) (cwV 2 hts gX6_drop_X6_edits rfl rfl rfl (by decide +kernel) ⟨Nat.le_of_ble_eq_true rfl, Nat.le_of_ble_eq_true rfl⟩) hK hP hS rfl hl.1 rfl (Nat.le_of_ble_eq_true rfl) dX6_drop_45 (fun H locs hP hS => ?_)
      exact W.iret hx hb hr (fun t ht hW => ⟨⟨_, (), rfl, (sw_inj h).1, mw_end hP ht (sw_inj h).2⟩, hS.F ht⟩) hS.2.2 dX6_drop_48 hlocks
    · replace h := sw_t h cc
      refine lv_iconst (v := 2) hx hb dX6_drop_23 (by decide) ?_
      refine lv_goto (tgt := 28) hx hb dX6_drop_24 (by decide) ?_
      obtain ⟨u28, eu28, h⟩ := swlt_s h
      refine mw_put hx hb hts hin hown hK hJ hP hS 0 (by decide) rfl f78 eu28 dX6_drop_28 (fun H locs hP hS => ?_)
      refine lv_aload_n hx hb dX6_drop_31 rfl (lv_at hl 0 rfl) ?_
      refine mw_get hx hb hts hin hown hK hP 0 (by decide) f78 rfl dX6_drop_32 ?_
      refine sw_top (x := 2) (by rw [eu28]; rfl) ?_
      refine lv_if_le (tgt := 42) hx hb dX6_drop_35 (by decide) (fun cc => absurd cc (by decide)) (fun cc => ?_)
      refine lv_iconst (v := 0) hx hb dX6_drop_38 (by decide) ?_
      refine lv_goto (tgt := 48) hx hb dX6_drop_39 (by decide) ?_
      exact W.iret hx hb hr (fun t ht hW => ⟨⟨_, (), rfl, (sw_inj h).1, mw_end hP ht (sw_inj h).2⟩, hS.F ht⟩) hS.2.2 dX6_drop_48 hlocks
  · replace h := sw_t h cc
    refine lv_iconst (v := 1) hx hb dX6_drop_10 (by decide) ?_
    refine lv_goto (tgt := 28) hx hb dX6_drop_11 (by decide) ?_
    obtain ⟨u28, eu28, h⟩ := swlt_s h
    refine mw_put hx hb hts hin hown hK hJ hP hS 0 (by decide) rfl f78 eu28 dX6_drop_28 (fun H locs hP hS => ?_)
    refine lv_aload_n hx hb dX6_drop_31 rfl (lv_at hl 0 rfl) ?_
    refine mw_get hx hb hts hin hown hK hP 0 (by decide) f78 rfl dX6_drop_32 ?_
    refine sw_top (x := 1) (by rw [eu28]; rfl) ?_
    refine lv_if_le (tgt := 42) hx hb dX6_drop_35 (by decide) (fun cc => absurd cc (by decide)) (fun cc => ?_)
    refine lv_iconst (v := 0) hx hb dX6_drop_38 (by decide) ?_
    refine lv_goto (tgt := 48) hx hb dX6_drop_39 (by decide) ?_
    exact W.iret hx hb hr (fun t ht hW => ⟨⟨_, (), rfl, (sw_inj h).1, mw_end hP ht (sw_inj h).2⟩, hS.F ht⟩) hS.2.2 dX6_drop_48 hlocks

/-! head -/
def mx_head (u : swU) (x1 : Int32) : Option (Int32 × swU) :=
  swbd (mx_isBranch u x1) fun r3 => if (swB r3) = 0 then (swlt (swI u 0 0 1) fun u14 => some (0, u14)) else (swlt (swI u 0 0 0) fun u14 => swrd 6 (u14.1 10) x1 fun a33 => some (a33, u14))

abbrev rmX6_head : Room := { frames := 2, cells := 0, slots := 0, locals := 43 }

set_option maxHeartbeats 4000000 in
set_option maxRecDepth 100000 in
theorem mm_head (l : Launch) (D : va_G) (cy : Nat → ClassId) (ad : Nat → Nat) (hJ : swJ mw_N ad) (u : swU) (x1 : Int32) (r0 : Int32) (u0 : swU) (h : mx_head u x1 = some (r0, u0)) : Met l yX6_head wsX6_head rmX6_head (mwC D cy ad u [.ref (ad 0), .int x1]) (mwQi D cy ad r0 u0) 0 0 (mwA ad) := by
  refine Met.ofW (cc := cX6_head) (maxL := 2) (ret := (some .int)) (by decide) rfl ?_
  intro p e s m args below meth c s₁ B hml hv
  obtain ⟨ha, hP, hK⟩ := hv
  have hx := B.exec
  have hb := B.bytes
  have hr := B.returns
  have hlocks := B.notSynchronized
  have hts := atoms_spec (ws := wsX6_head) B.pre
  have hown : s.vm.findClass RX6 = some m.cls := findClass_of_methodNamed B.named
  have E : CallFix p m c cX6_head 2 s args wsX6_head RX6 := ⟨hx, hb, hml, hown, hts⟩
  have hin : ∀ w ∈ wsX60, w ∈ wsX6_head := by decide +kernel
  have f35 : (Cond.fieldLink RX6 35 "SlidewardenModel" "head" "[I").before args s = true := hts _ (by decide +kernel)
  have f78 : (Cond.fieldLink RX6 78 "SlidewardenModel" "thrown" "I").before args s = true := hts _ (by decide +kernel)
  have hS : va_S (mwA ad) s.heap s.heap [] := va_S.rf
  obtain ⟨ls, hl, hent⟩ := sw_entry m (n := 2) ha (Nat.le_of_ble_eq_true rfl)
  rw [hent]
  have hl : lv_has ls 2 [(0, .ref (ad 0)), (1, .int x1)] := hl
  unfold mx_head at h
  refine lv_aload_n hx hb dX6_head_0 rfl (lv_at hl 0 rfl) ?_
  refine lv_aload_n hx hb dX6_head_1 rfl (lv_at hl 0 rfl) ?_
  refine lv_iload_n hx hb dX6_head_2 rfl (lv_at hl 1 rfl) ?_
  obtain ⟨r3, er3, h⟩ := swbd_s h
  refine mw_calli (As := [.int x1]) (rest := [.ref (ad 0)]) E (mm_isBranch l D cy ad u x1 _ er3) (cwV 1 hts gX6_head_X6_isBranch rfl rfl rfl (by decide +kernel) ⟨Nat.le_of_ble_eq_true rfl, Nat.le_of_ble_eq_true rfl⟩) hK hP rfl hl.1 rfl (Nat.le_of_ble_eq_true rfl) dX6_head_3 ?_
  refine lv_if_eq (tgt := 13) hx hb dX6_head_6 (by decide) (fun cc => ?_) (fun cc => ?_)
  · replace h := sw_t h cc
    refine lv_iconst (v := 1) hx hb dX6_head_13 (by decide) ?_
    obtain ⟨u14, eu14, h⟩ := swlt_s h
    refine mw_put hx hb hts hin hown hK hJ hP hS 0 (by decide) rfl f78 eu14 dX6_head_14 (fun H locs hP hS => ?_)
    refine lv_aload_n hx hb dX6_head_17 rfl (lv_at hl 0 rfl) ?_
    refine mw_get hx hb hts hin hown hK hP 0 (by decide) f78 rfl dX6_head_18 ?_
    refine sw_top (x := 1) (by rw [eu14]; rfl) ?_
    refine lv_if_le (tgt := 28) hx hb dX6_head_21 (by decide) (fun cc => absurd cc (by decide)) (fun cc => ?_)
    refine lv_iconst (v := 0) hx hb dX6_head_24 (by decide) ?_
    refine lv_goto (tgt := 34) hx hb dX6_head_25 (by decide) ?_
    exact W.iret hx hb hr (fun t ht hW => ⟨⟨_, (), rfl, (sw_inj h).1, mw_end hP ht (sw_inj h).2⟩, hS.F ht⟩) hS.2.2 dX6_head_34 hlocks
  · replace h := sw_f h cc
    refine lv_iconst (v := 0) hx hb dX6_head_9 (by decide) ?_
    refine lv_goto (tgt := 14) hx hb dX6_head_10 (by decide) ?_
    obtain ⟨u14, eu14, h⟩ := swlt_s h
    refine mw_put hx hb hts hin hown hK hJ hP hS 0 (by decide) rfl f78 eu14 dX6_head_14 (fun H locs hP hS => ?_)
    refine lv_aload_n hx hb dX6_head_17 rfl (lv_at hl 0 rfl) ?_
    refine mw_get hx hb hts hin hown hK hP 0 (by decide) f78 rfl dX6_head_18 ?_
    refine sw_top (x := 0) (by rw [eu14]; rfl) ?_
    refine lv_if_le (tgt := 28) hx hb dX6_head_21 (by decide) (fun cc => ?_) (fun cc => absurd (by decide) cc)
    refine lv_aload_n hx hb dX6_head_28 rfl (lv_at hl 0 rfl) ?_
    refine mw_get hx hb hts hin hown hK hP 10 (by decide) f35 rfl dX6_head_29 ?_
    refine lv_iload_n hx hb dX6_head_32 rfl (lv_at hl 1 rfl) ?_
    obtain ⟨a33, ea33, ia33, h⟩ := swrd_s h
    refine mw_ald hx hb hK hP 10 6 rfl rfl ia33 dX6_head_33 ea33 ?_
    exact W.iret hx hb hr (fun t ht hW => ⟨⟨_, (), rfl, (sw_inj h).1, mw_end hP ht (sw_inj h).2⟩, hS.F ht⟩) hS.2.2 dX6_head_34 hlocks

/-! layAncestors -/
def mx_layAncestors_L30 (w6 : swU) (x2 : Bool) (v4 : Int32) (kk : Int32 → Int32 → Option (Int32 × swU)) : Nat → Int32 → Int32 → Option (Int32 × swU)
  | 0, _, _ => none
  | n + 1, v5, v6 => if (w6.1 0 1) ≤ v6 then (kk v5 v6) else (if (swB x2) = 0 then (swrd 40 (w6.1 25) v6 fun a59 => if v5 = 0 then (if a59 = 0 then (mx_layAncestors_L30 w6 x2 v4 kk n 0 (v6 + 1)) else (swrd 40 (w6.1 3) v6 fun a78 => if a78 = v4 then (mx_layAncestors_L30 w6 x2 v4 kk n 1 (v6 + 1)) else (swrd 40 (w6.1 4) v6 fun a90 => if a90 = v4 then (mx_layAncestors_L30 w6 x2 v4 kk n 1 (v6 + 1)) else (mx_layAncestors_L30 w6 x2 v4 kk n 0 (v6 + 1))))) else (mx_layAncestors_L30 w6 x2 v4 kk n 1 (v6 + 1))) else (swrd 40 (w6.1 26) v6 fun a49 => if v5 = 0 then (if a49 = 0 then (mx_layAncestors_L30 w6 x2 v4 kk n 0 (v6 + 1)) else (swrd 40 (w6.1 3) v6 fun a78 => if a78 = v4 then (mx_layAncestors_L30 w6 x2 v4 kk n 1 (v6 + 1)) else (swrd 40 (w6.1 4) v6 fun a90 => if a90 = v4 then (mx_layAncestors_L30 w6 x2 v4 kk n 1 (v6 + 1)) else (mx_layAncestors_L30 w6 x2 v4 kk n 0 (v6 + 1))))) else (mx_layAncestors_L30 w6 x2 v4 kk n 1 (v6 + 1))))

def mx_layAncestors_L6 (x1 : Int32) (x2 : Bool) (kk : Int32 → Int32 → swU → Option (Int32 × swU)) : Nat → Int32 → Int32 → swU → Option (Int32 × swU)
  | 0, _, _, _ => none
  | n + 1, v3, v4, w6 => if v4 < 0 then (kk v3 v4 w6) else (if v4 = x1 then (swlt (v4 + 1) fun y28 => mx_layAncestors_L30 w6 x2 v4 (fun v5 v6 => if (swB x2) = 0 then (swgd (swix v4 40) <| swlt (swI w6 25 v4.toNatClampNeg (swZ v5)) fun u131 => if (swB x2) = 0 then (swrd 40 (u131.1 26) v4 fun a153 => swgd (swix v4 40) <| swlt (swI u131 26 v4.toNatClampNeg (swZ a153)) fun u154 => if v5 = 0 then (swlt (v3 + 0) fun y167 => mx_layAncestors_L6 x1 x2 kk n y167 ((v4 + (-1))) u154) else (swlt (v3 + 1) fun y167 => mx_layAncestors_L6 x1 x2 kk n y167 ((v4 + (-1))) u154)) else (swgd (swix v4 40) <| swlt (swI u131 26 v4.toNatClampNeg (swZ v5)) fun u154 => if v5 = 0 then (swlt (v3 + 0) fun y167 => mx_layAncestors_L6 x1 x2 kk n y167 ((v4 + (-1))) u154) else (swlt (v3 + 1) fun y167 => mx_layAncestors_L6 x1 x2 kk n y167 ((v4 + (-1))) u154))) else (swrd 40 (w6.1 25) v4 fun a125 => swgd (swix v4 40) <| swlt (swI w6 25 v4.toNatClampNeg (swZ a125)) fun u131 => if (swB x2) = 0 then (swrd 40 (u131.1 26) v4 fun a153 => swgd (swix v4 40) <| swlt (swI u131 26 v4.toNatClampNeg (swZ a153)) fun u154 => if v5 = 0 then (swlt (v3 + 0) fun y167 => mx_layAncestors_L6 x1 x2 kk n y167 ((v4 + (-1))) u154) else (swlt (v3 + 1) fun y167 => mx_layAncestors_L6 x1 x2 kk n y167 ((v4 + (-1))) u154)) else (swgd (swix v4 40) <| swlt (swI u131 26 v4.toNatClampNeg (swZ v5)) fun u154 => if v5 = 0 then (swlt (v3 + 0) fun y167 => mx_layAncestors_L6 x1 x2 kk n y167 ((v4 + (-1))) u154) else (swlt (v3 + 1) fun y167 => mx_layAncestors_L6 x1 x2 kk n y167 ((v4 + (-1))) u154)))) 64 1 y28) else (swlt (v4 + 1) fun y28 => mx_layAncestors_L30 w6 x2 v4 (fun v5 v6 => if (swB x2) = 0 then (swgd (swix v4 40) <| swlt (swI w6 25 v4.toNatClampNeg (swZ v5)) fun u131 => if (swB x2) = 0 then (swrd 40 (u131.1 26) v4 fun a153 => swgd (swix v4 40) <| swlt (swI u131 26 v4.toNatClampNeg (swZ a153)) fun u154 => if v5 = 0 then (swlt (v3 + 0) fun y167 => mx_layAncestors_L6 x1 x2 kk n y167 ((v4 + (-1))) u154) else (swlt (v3 + 1) fun y167 => mx_layAncestors_L6 x1 x2 kk n y167 ((v4 + (-1))) u154)) else (swgd (swix v4 40) <| swlt (swI u131 26 v4.toNatClampNeg (swZ v5)) fun u154 => if v5 = 0 then (swlt (v3 + 0) fun y167 => mx_layAncestors_L6 x1 x2 kk n y167 ((v4 + (-1))) u154) else (swlt (v3 + 1) fun y167 => mx_layAncestors_L6 x1 x2 kk n y167 ((v4 + (-1))) u154))) else (swrd 40 (w6.1 25) v4 fun a125 => swgd (swix v4 40) <| swlt (swI w6 25 v4.toNatClampNeg (swZ a125)) fun u131 => if (swB x2) = 0 then (swrd 40 (u131.1 26) v4 fun a153 => swgd (swix v4 40) <| swlt (swI u131 26 v4.toNatClampNeg (swZ a153)) fun u154 => if v5 = 0 then (swlt (v3 + 0) fun y167 => mx_layAncestors_L6 x1 x2 kk n y167 ((v4 + (-1))) u154) else (swlt (v3 + 1) fun y167 => mx_layAncestors_L6 x1 x2 kk n y167 ((v4 + (-1))) u154)) else (swgd (swix v4 40) <| swlt (swI u131 26 v4.toNatClampNeg (swZ v5)) fun u154 => if v5 = 0 then (swlt (v3 + 0) fun y167 => mx_layAncestors_L6 x1 x2 kk n y167 ((v4 + (-1))) u154) else (swlt (v3 + 1) fun y167 => mx_layAncestors_L6 x1 x2 kk n y167 ((v4 + (-1))) u154)))) 64 0 y28))

def mx_layAncestors (u : swU) (x1 : Int32) (x2 : Bool) : Option (Int32 × swU) :=
  mx_layAncestors_L6 x1 x2 (fun v3 v4 w174 => some (v3, w174)) 64 0 39 u

abbrev rmX6_layAncestors : Room := { frames := 0, cells := 0, slots := 0, locals := 0 }

set_option maxHeartbeats 4000000 in
set_option maxRecDepth 100000 in
theorem mm_layAncestors (l : Launch) (D : va_G) (cy : Nat → ClassId) (ad : Nat → Nat) (hJ : swJ mw_N ad) (u : swU) (x1 : Int32) (x2 : Bool) (r0 : Int32) (u0 : swU) (h : mx_layAncestors u x1 x2 = some (r0, u0)) : Met l yX6_layAncestors wsX6_layAncestors rmX6_layAncestors (mwC D cy ad u [.ref (ad 0), .int x1, .int (swB x2)]) (mwQi D cy ad r0 u0) 0 0 (mwA ad) := by
  refine Met.ofW (cc := cX6_layAncestors) (maxL := 8) (ret := (some .int)) (by decide) rfl ?_
  intro p e s m args below meth c s₁ B hml hv
  obtain ⟨ha, hP, hK⟩ := hv
  have hx := B.exec
  have hb := B.bytes
  have hr := B.returns
  have hlocks := B.notSynchronized
  have hts := atoms_spec (ws := wsX6_layAncestors) B.pre
  have hown : s.vm.findClass RX6 = some m.cls := findClass_of_methodNamed B.named
  have hin : ∀ w ∈ wsX60, w ∈ wsX6_layAncestors := by decide +kernel
  have f17 : (Cond.fieldLink RX6 17 "SlidewardenModel" "came" "[I").before args s = true := hts _ (by decide +kernel)
  have f20 : (Cond.fieldLink RX6 20 "SlidewardenModel" "other" "[I").before args s = true := hts _ (by decide +kernel)
  have f68 : (Cond.fieldLink RX6 68 "SlidewardenModel" "isOf" "[Z").before args s = true := hts _ (by decide +kernel)
  have f7 : (Cond.fieldLink RX6 7 "SlidewardenModel" "versions" "I").before args s = true := hts _ (by decide +kernel)
  have f72 : (Cond.fieldLink RX6 72 "SlidewardenModel" "isOfOther" "[Z").before args s = true := hts _ (by decide +kernel)
  have hS : va_S (mwA ad) s.heap s.heap [] := va_S.rf
  obtain ⟨ls, hl, hent⟩ := sw_entry m (n := 8) ha (Nat.le_of_ble_eq_true rfl)
  rw [hent]
  have hl : lv_has ls 8 [(0, .ref (ad 0)), (1, .int x1), (2, .int (swB x2))] := hl
  unfold mx_layAncestors at h
  refine lv_iconst (v := 0) hx hb dX6_layAncestors_0 (by decide) ?_
  refine lv_istore_n (lv' := [(3, .int 0), (0, .ref (ad 0)), (1, .int x1), (2, .int (swB x2))]) hx hb dX6_layAncestors_1 rfl hl (by decide) rfl (fun ls hl => ?_)
  refine lv_bipush (v := 39) hx hb dX6_layAncestors_2 (by decide) ?_
  refine lv_istore (lv' := [(4, .int 39), (3, .int 0), (0, .ref (ad 0)), (1, .int x1), (2, .int (swB x2))]) hx hb dX6_layAncestors_4 hl (by decide) rfl (fun ls hl => ?_)
  have L6 : ∀ (kk : Int32 → Int32 → swU → Option (Int32 × swU)), (∀ (v3 : Int32) (v4 : Int32) (w6 : swU) (H : Heap) (locs : List Loc) (ls : Array Slot), kk v3 v4 w6 = some (r0, u0) → mwP D cy ad w6 H → va_S (mwA ad) s.heap H locs → lv_has ls 8 [(0, .ref (ad 0)), (1, .int x1), (2, .int (swB x2)), (3, .int v3), (4, .int v4)] → W p l e (headSpec wsX6_layAncestors rmX6_layAncestors).room s m args below meth c H locs 0 0 (MQ below (mwQi D cy ad r0 u0) args s 0 0 (mwA ad)) (F0 m 174 ls [])) → ∀ (n : Nat) (v3 : Int32) (v4 : Int32) (w6 : swU) (H : Heap) (locs : List Loc) (ls : Array Slot), mx_layAncestors_L6 x1 x2 kk n v3 v4 w6 = some (r0, u0) → mwP D cy ad w6 H → va_S (mwA ad) s.heap H locs → lv_has ls 8 [(0, .ref (ad 0)), (1, .int x1), (2, .int (swB x2)), (3, .int v3), (4, .int v4)] → W p l e (headSpec wsX6_layAncestors rmX6_layAncestors).room s m args below meth c H locs 0 0 (MQ below (mwQi D cy ad r0 u0) args s 0 0 (mwA ad)) (F0 m 6 ls []) := by
    intro kk hk6 n
    induction n with
    | zero => intro v3 v4 w6 H locs ls h hP hS hl; rw [mx_layAncestors_L6] at h; cases h
    | succ n ih6 =>
      intro v3 v4 w6 H locs ls h hP hS hl
      rw [mx_layAncestors_L6] at h
      refine lv_iload hx hb dX6_layAncestors_6 (lv_at hl 4 rfl) ?_
      refine lv_if_lt (tgt := 174) hx hb dX6_layAncestors_8 (by decide) (fun cc => ?_) (fun cc => ?_)
      · replace h := sw_t h cc
        exact hk6 _ _ _ _ _ _ h hP hS (lv_sub hl [0, 1, 2, 3, 4] rfl)
      · replace h := sw_f h cc
        refine lv_iload hx hb dX6_layAncestors_11 (lv_at hl 4 rfl) ?_
        refine lv_iload_n hx hb dX6_layAncestors_13 rfl (lv_at hl 1 rfl) ?_
        refine lv_icmp_ne (tgt := 21) hx hb dX6_layAncestors_14 (by decide) (fun cc => ?_) (fun cc => ?_)
        · replace h := sw_f h cc
          refine lv_iconst (v := 0) hx hb dX6_layAncestors_21 (by decide) ?_
          refine lv_istore (lv' := [(5, .int 0), (0, .ref (ad 0)), (1, .int x1), (2, .int (swB x2)), (3, .int v3), (4, .int v4)]) hx hb dX6_layAncestors_22 hl (by decide) rfl (fun ls hl => ?_)
          refine lv_iload hx hb dX6_layAncestors_24 (lv_at hl 5 rfl) ?_
          refine lv_iconst (v := 1) hx hb dX6_layAncestors_26 (by decide) ?_
          refine lv_iadd hx hb dX6_layAncestors_27 ?_
          obtain ⟨y28, ey28, h⟩ := swlt_s h
          refine sw_top ey28 ?_
          refine lv_istore (lv' := [(6, .int y28), (5, .int 0), (0, .ref (ad 0)), (1, .int x1), (2, .int (swB x2)), (3, .int v3), (4, .int v4)]) hx hb dX6_layAncestors_28 hl (by decide) rfl (fun ls hl => ?_)
          have L30 : ∀ (kk : Int32 → Int32 → Option (Int32 × swU)), (∀ (v5 : Int32) (v6 : Int32) (H : Heap) (locs : List Loc) (ls : Array Slot), kk v5 v6 = some (r0, u0) → mwP D cy ad w6 H → va_S (mwA ad) s.heap H locs → lv_has ls 8 [(0, .ref (ad 0)), (1, .int x1), (2, .int (swB x2)), (3, .int v3), (4, .int v4), (5, .int v5), (6, .int v6)] → W p l e (headSpec wsX6_layAncestors rmX6_layAncestors).room s m args below meth c H locs 0 0 (MQ below (mwQi D cy ad r0 u0) args s 0 0 (mwA ad)) (F0 m 109 ls [])) → ∀ (n : Nat) (v5 : Int32) (v6 : Int32) (H : Heap) (locs : List Loc) (ls : Array Slot), mx_layAncestors_L30 w6 x2 v4 kk n v5 v6 = some (r0, u0) → mwP D cy ad w6 H → va_S (mwA ad) s.heap H locs → lv_has ls 8 [(0, .ref (ad 0)), (1, .int x1), (2, .int (swB x2)), (3, .int v3), (4, .int v4), (5, .int v5), (6, .int v6)] → W p l e (headSpec wsX6_layAncestors rmX6_layAncestors).room s m args below meth c H locs 0 0 (MQ below (mwQi D cy ad r0 u0) args s 0 0 (mwA ad)) (F0 m 30 ls []) := by
            intro kk hk30 n
            induction n with
            | zero => intro v5 v6 H locs ls h hP hS hl; rw [mx_layAncestors_L30] at h; cases h
            | succ n ih30 =>
              intro v5 v6 H locs ls h hP hS hl
              rw [mx_layAncestors_L30] at h
              refine lv_iload hx hb dX6_layAncestors_30 (lv_at hl 6 rfl) ?_
              refine lv_aload_n hx hb dX6_layAncestors_32 rfl (lv_at hl 0 rfl) ?_
              refine mw_get hx hb hts hin hown hK hP 1 (by decide) f7 rfl dX6_layAncestors_33 ?_
              refine lv_icmp_ge (tgt := 109) hx hb dX6_layAncestors_36 (by decide) (fun cc => ?_) (fun cc => ?_)
              · replace h := sw_t h cc
                exact hk30 _ _ _ _ _ h hP hS (lv_sub hl [0, 1, 2, 3, 4, 5, 6] rfl)
              · replace h := sw_f h cc
                refine lv_iload_n hx hb dX6_layAncestors_39 rfl (lv_at hl 2 rfl) ?_
                refine lv_if_eq (tgt := 53) hx hb dX6_layAncestors_40 (by decide) (fun cc => ?_) (fun cc => ?_)
                · replace h := sw_t h cc
                  refine lv_aload_n hx hb dX6_layAncestors_53 rfl (lv_at hl 0 rfl) ?_
                  refine mw_get hx hb hts hin hown hK hP 25 (by decide) f68 rfl dX6_layAncestors_54 ?_
                  refine lv_iload hx hb dX6_layAncestors_57 (lv_at hl 6 rfl) ?_
                  obtain ⟨a59, ea59, ia59, h⟩ := swrd_s h
                  refine mw_zld hx hb hK hP 25 40 rfl rfl ia59 dX6_layAncestors_59 ea59 ?_
                  refine lv_istore (lv' := [(7, .int a59), (0, .ref (ad 0)), (1, .int x1), (2, .int (swB x2)), (3, .int v3), (4, .int v4), (5, .int v5), (6, .int v6)]) hx hb dX6_layAncestors_60 hl (by decide) rfl (fun ls hl => ?_)
                  refine lv_iload hx hb dX6_layAncestors_62 (lv_at hl 6 rfl) ?_
                  refine lv_if_ne (tgt := 96) hx hb dX6_layAncestors_64 (by decide) (fun cc => ?_) (fun cc => ?_)
                  · replace h := sw_f h cc
                    refine lv_iconst (v := 1) hx hb dX6_layAncestors_96 (by decide) ?_
                    refine lv_goto (tgt := 101) hx hb dX6_layAncestors_97 (by decide) ?_
                    refine lv_istore (lv' := [(5, .int 1), (7, .int a59), (0, .ref (ad 0)), (1, .int x1), (2, .int (swB x2)), (3, .int v3), (4, .int v4), (6, .int v6)]) hx hb dX6_layAncestors_101 hl (by decide) rfl (fun ls hl => ?_)
                    refine lv_iinc (v := (v6 + 1)) (lv' := [(6, .int (v6 + 1)), (5, .int 1), (7, .int a59), (0, .ref (ad 0)), (1, .int x1), (2, .int (swB x2)), (3, .int v3), (4, .int v4)]) hx hb dX6_layAncestors_103 hl (k := 7) rfl rfl (by decide) rfl (fun ls hl => ?_)
                    refine lv_goto (tgt := 30) hx hb dX6_layAncestors_106 (by decide) ?_
                    exact ih30 _ _ _ _ _ h hP hS (lv_sub hl [3, 4, 5, 6, 7, 1, 0] rfl)
                  · replace h := sw_t h cc
                    refine lv_iload hx hb dX6_layAncestors_67 (lv_at hl 0 rfl) ?_
                    refine lv_if_eq (tgt := 100) hx hb dX6_layAncestors_69 (by decide) (fun cc => ?_) (fun cc => ?_)
                    · replace h := sw_t h cc
                      refine lv_iconst (v := 0) hx hb dX6_layAncestors_100 (by decide) ?_
                      refine lv_istore (lv' := [(5, .int 0), (7, .int a59), (0, .ref (ad 0)), (1, .int x1), (2, .int (swB x2)), (3, .int v3), (4, .int v4), (6, .int v6)]) hx hb dX6_layAncestors_101 hl (by decide) rfl (fun ls hl => ?_)
                      refine lv_iinc (v := (v6 + 1)) (lv' := [(6, .int (v6 + 1)), (5, .int 0), (7, .int a59), (0, .ref (ad 0)), (1, .int x1), (2, .int (swB x2)), (3, .int v3), (4, .int v4)]) hx hb dX6_layAncestors_103 hl (k := 7) rfl rfl (by decide) rfl (fun ls hl => ?_)
                      refine lv_goto (tgt := 30) hx hb dX6_layAncestors_106 (by decide) ?_
                      exact ih30 _ _ _ _ _ h hP hS (lv_sub hl [3, 4, 5, 6, 7, 1, 0] rfl)
                    · replace h := sw_f h cc
                      refine lv_aload_n hx hb dX6_layAncestors_72 rfl (lv_at hl 1 rfl) ?_
                      refine mw_get hx hb hts hin hown hK hP 3 (by decide) f17 rfl dX6_layAncestors_73 ?_
                      refine lv_iload hx hb dX6_layAncestors_76 (lv_at hl 7 rfl) ?_
                      obtain ⟨a78, ea78, ia78, h⟩ := swrd_s h
                      refine mw_ald hx hb hK hP 3 40 rfl rfl ia78 dX6_layAncestors_78 ea78 ?_
                      refine lv_iload hx hb dX6_layAncestors_79 (lv_at hl 5 rfl) ?_
                      refine lv_icmp_eq (tgt := 96) hx hb dX6_layAncestors_81 (by decide) (fun cc => ?_) (fun cc => ?_)
                      · replace h := sw_t h cc
                        refine lv_iconst (v := 1) hx hb dX6_layAncestors_96 (by decide) ?_
                        refine lv_goto (tgt := 101) hx hb dX6_layAncestors_97 (by decide) ?_
                        refine lv_istore (lv' := [(5, .int 1), (7, .int a59), (0, .ref (ad 0)), (1, .int x1), (2, .int (swB x2)), (3, .int v3), (4, .int v4), (6, .int v6)]) hx hb dX6_layAncestors_101 hl (by decide) rfl (fun ls hl => ?_)
                        refine lv_iinc (v := (v6 + 1)) (lv' := [(6, .int (v6 + 1)), (5, .int 1), (7, .int a59), (0, .ref (ad 0)), (1, .int x1), (2, .int (swB x2)), (3, .int v3), (4, .int v4)]) hx hb dX6_layAncestors_103 hl (k := 7) rfl rfl (by decide) rfl (fun ls hl => ?_)
                        refine lv_goto (tgt := 30) hx hb dX6_layAncestors_106 (by decide) ?_
                        exact ih30 _ _ _ _ _ h hP hS (lv_sub hl [3, 4, 5, 6, 7, 1, 0] rfl)
                      · replace h := sw_f h cc
                        refine lv_aload_n hx hb dX6_layAncestors_84 rfl (lv_at hl 1 rfl) ?_
                        refine mw_get hx hb hts hin hown hK hP 4 (by decide) f20 rfl dX6_layAncestors_85 ?_
                        refine lv_iload hx hb dX6_layAncestors_88 (lv_at hl 7 rfl) ?_
                        obtain ⟨a90, ea90, ia90, h⟩ := swrd_s h
                        refine mw_ald hx hb hK hP 4 40 rfl rfl ia90 dX6_layAncestors_90 ea90 ?_
                        refine lv_iload hx hb dX6_layAncestors_91 (lv_at hl 5 rfl) ?_
                        refine lv_icmp_ne (tgt := 100) hx hb dX6_layAncestors_93 (by decide) (fun cc => ?_) (fun cc => ?_)
                        · replace h := sw_f h cc
                          refine lv_iconst (v := 0) hx hb dX6_layAncestors_100 (by decide) ?_
                          refine lv_istore (lv' := [(5, .int 0), (7, .int a59), (0, .ref (ad 0)), (1, .int x1), (2, .int (swB x2)), (3, .int v3), (4, .int v4), (6, .int v6)]) hx hb dX6_layAncestors_101 hl (by decide) rfl (fun ls hl => ?_)
                          refine lv_iinc (v := (v6 + 1)) (lv' := [(6, .int (v6 + 1)), (5, .int 0), (7, .int a59), (0, .ref (ad 0)), (1, .int x1), (2, .int (swB x2)), (3, .int v3), (4, .int v4)]) hx hb dX6_layAncestors_103 hl (k := 7) rfl rfl (by decide) rfl (fun ls hl => ?_)
                          refine lv_goto (tgt := 30) hx hb dX6_layAncestors_106 (by decide) ?_
                          exact ih30 _ _ _ _ _ h hP hS (lv_sub hl [3, 4, 5, 6, 7, 1, 0] rfl)
                        · replace h := sw_t h cc
                          refine lv_iconst (v := 1) hx hb dX6_layAncestors_96 (by decide) ?_
                          refine lv_goto (tgt := 101) hx hb dX6_layAncestors_97 (by decide) ?_
                          refine lv_istore (lv' := [(5, .int 1), (7, .int a59), (0, .ref (ad 0)), (1, .int x1), (2, .int (swB x2)), (3, .int v3), (4, .int v4), (6, .int v6)]) hx hb dX6_layAncestors_101 hl (by decide) rfl (fun ls hl => ?_)
                          refine lv_iinc (v := (v6 + 1)) (lv' := [(6, .int (v6 + 1)), (5, .int 1), (7, .int a59), (0, .ref (ad 0)), (1, .int x1), (2, .int (swB x2)), (3, .int v3), (4, .int v4)]) hx hb dX6_layAncestors_103 hl (k := 7) rfl rfl (by decide) rfl (fun ls hl => ?_)
                          refine lv_goto (tgt := 30) hx hb dX6_layAncestors_106 (by decide) ?_
                          exact ih30 _ _ _ _ _ h hP hS (lv_sub hl [3, 4, 5, 6, 7, 1, 0] rfl)
                · replace h := sw_f h cc
                  refine lv_aload_n hx hb dX6_layAncestors_43 rfl (lv_at hl 0 rfl) ?_
                  refine mw_get hx hb hts hin hown hK hP 26 (by decide) f72 rfl dX6_layAncestors_44 ?_
                  refine lv_iload hx hb dX6_layAncestors_47 (lv_at hl 6 rfl) ?_
                  obtain ⟨a49, ea49, ia49, h⟩ := swrd_s h
                  refine mw_zld hx hb hK hP 26 40 rfl rfl ia49 dX6_layAncestors_49 ea49 ?_
                  refine lv_goto (tgt := 60) hx hb dX6_layAncestors_50 (by decide) ?_
                  refine lv_istore (lv' := [(7, .int a49), (0, .ref (ad 0)), (1, .int x1), (2, .int (swB x2)), (3, .int v3), (4, .int v4), (5, .int v5), (6, .int v6)]) hx hb dX6_layAncestors_60 hl (by decide) rfl (fun ls hl => ?_)
                  refine lv_iload hx hb dX6_layAncestors_62 (lv_at hl 6 rfl) ?_
                  refine lv_if_ne (tgt := 96) hx hb dX6_layAncestors_64 (by decide) (fun cc => ?_) (fun cc => ?_)
                  · replace h := sw_f h cc
                    refine lv_iconst (v := 1) hx hb dX6_layAncestors_96 (by decide) ?_
                    refine lv_goto (tgt := 101) hx hb dX6_layAncestors_97 (by decide) ?_
                    refine lv_istore (lv' := [(5, .int 1), (7, .int a49), (0, .ref (ad 0)), (1, .int x1), (2, .int (swB x2)), (3, .int v3), (4, .int v4), (6, .int v6)]) hx hb dX6_layAncestors_101 hl (by decide) rfl (fun ls hl => ?_)
                    refine lv_iinc (v := (v6 + 1)) (lv' := [(6, .int (v6 + 1)), (5, .int 1), (7, .int a49), (0, .ref (ad 0)), (1, .int x1), (2, .int (swB x2)), (3, .int v3), (4, .int v4)]) hx hb dX6_layAncestors_103 hl (k := 7) rfl rfl (by decide) rfl (fun ls hl => ?_)
                    refine lv_goto (tgt := 30) hx hb dX6_layAncestors_106 (by decide) ?_
                    exact ih30 _ _ _ _ _ h hP hS (lv_sub hl [3, 4, 5, 6, 7, 1, 0] rfl)
                  · replace h := sw_t h cc
                    refine lv_iload hx hb dX6_layAncestors_67 (lv_at hl 0 rfl) ?_
                    refine lv_if_eq (tgt := 100) hx hb dX6_layAncestors_69 (by decide) (fun cc => ?_) (fun cc => ?_)
                    · replace h := sw_t h cc
                      refine lv_iconst (v := 0) hx hb dX6_layAncestors_100 (by decide) ?_
                      refine lv_istore (lv' := [(5, .int 0), (7, .int a49), (0, .ref (ad 0)), (1, .int x1), (2, .int (swB x2)), (3, .int v3), (4, .int v4), (6, .int v6)]) hx hb dX6_layAncestors_101 hl (by decide) rfl (fun ls hl => ?_)
                      refine lv_iinc (v := (v6 + 1)) (lv' := [(6, .int (v6 + 1)), (5, .int 0), (7, .int a49), (0, .ref (ad 0)), (1, .int x1), (2, .int (swB x2)), (3, .int v3), (4, .int v4)]) hx hb dX6_layAncestors_103 hl (k := 7) rfl rfl (by decide) rfl (fun ls hl => ?_)
                      refine lv_goto (tgt := 30) hx hb dX6_layAncestors_106 (by decide) ?_
                      exact ih30 _ _ _ _ _ h hP hS (lv_sub hl [3, 4, 5, 6, 7, 1, 0] rfl)
                    · replace h := sw_f h cc
                      refine lv_aload_n hx hb dX6_layAncestors_72 rfl (lv_at hl 1 rfl) ?_
                      refine mw_get hx hb hts hin hown hK hP 3 (by decide) f17 rfl dX6_layAncestors_73 ?_
                      refine lv_iload hx hb dX6_layAncestors_76 (lv_at hl 7 rfl) ?_
                      obtain ⟨a78, ea78, ia78, h⟩ := swrd_s h
                      refine mw_ald hx hb hK hP 3 40 rfl rfl ia78 dX6_layAncestors_78 ea78 ?_
                      refine lv_iload hx hb dX6_layAncestors_79 (lv_at hl 5 rfl) ?_
                      refine lv_icmp_eq (tgt := 96) hx hb dX6_layAncestors_81 (by decide) (fun cc => ?_) (fun cc => ?_)
                      · replace h := sw_t h cc
                        refine lv_iconst (v := 1) hx hb dX6_layAncestors_96 (by decide) ?_
                        refine lv_goto (tgt := 101) hx hb dX6_layAncestors_97 (by decide) ?_
                        refine lv_istore (lv' := [(5, .int 1), (7, .int a49), (0, .ref (ad 0)), (1, .int x1), (2, .int (swB x2)), (3, .int v3), (4, .int v4), (6, .int v6)]) hx hb dX6_layAncestors_101 hl (by decide) rfl (fun ls hl => ?_)
                        refine lv_iinc (v := (v6 + 1)) (lv' := [(6, .int (v6 + 1)), (5, .int 1), (7, .int a49), (0, .ref (ad 0)), (1, .int x1), (2, .int (swB x2)), (3, .int v3), (4, .int v4)]) hx hb dX6_layAncestors_103 hl (k := 7) rfl rfl (by decide) rfl (fun ls hl => ?_)
                        refine lv_goto (tgt := 30) hx hb dX6_layAncestors_106 (by decide) ?_
                        exact ih30 _ _ _ _ _ h hP hS (lv_sub hl [3, 4, 5, 6, 7, 1, 0] rfl)
                      · replace h := sw_f h cc
                        refine lv_aload_n hx hb dX6_layAncestors_84 rfl (lv_at hl 1 rfl) ?_
                        refine mw_get hx hb hts hin hown hK hP 4 (by decide) f20 rfl dX6_layAncestors_85 ?_
                        refine lv_iload hx hb dX6_layAncestors_88 (lv_at hl 7 rfl) ?_
                        obtain ⟨a90, ea90, ia90, h⟩ := swrd_s h
                        refine mw_ald hx hb hK hP 4 40 rfl rfl ia90 dX6_layAncestors_90 ea90 ?_
                        refine lv_iload hx hb dX6_layAncestors_91 (lv_at hl 5 rfl) ?_
                        refine lv_icmp_ne (tgt := 100) hx hb dX6_layAncestors_93 (by decide) (fun cc => ?_) (fun cc => ?_)
                        · replace h := sw_f h cc
                          refine lv_iconst (v := 0) hx hb dX6_layAncestors_100 (by decide) ?_
                          refine lv_istore (lv' := [(5, .int 0), (7, .int a49), (0, .ref (ad 0)), (1, .int x1), (2, .int (swB x2)), (3, .int v3), (4, .int v4), (6, .int v6)]) hx hb dX6_layAncestors_101 hl (by decide) rfl (fun ls hl => ?_)
                          refine lv_iinc (v := (v6 + 1)) (lv' := [(6, .int (v6 + 1)), (5, .int 0), (7, .int a49), (0, .ref (ad 0)), (1, .int x1), (2, .int (swB x2)), (3, .int v3), (4, .int v4)]) hx hb dX6_layAncestors_103 hl (k := 7) rfl rfl (by decide) rfl (fun ls hl => ?_)
                          refine lv_goto (tgt := 30) hx hb dX6_layAncestors_106 (by decide) ?_
                          exact ih30 _ _ _ _ _ h hP hS (lv_sub hl [3, 4, 5, 6, 7, 1, 0] rfl)
                        · replace h := sw_t h cc
                          refine lv_iconst (v := 1) hx hb dX6_layAncestors_96 (by decide) ?_
                          refine lv_goto (tgt := 101) hx hb dX6_layAncestors_97 (by decide) ?_
                          refine lv_istore (lv' := [(5, .int 1), (7, .int a49), (0, .ref (ad 0)), (1, .int x1), (2, .int (swB x2)), (3, .int v3), (4, .int v4), (6, .int v6)]) hx hb dX6_layAncestors_101 hl (by decide) rfl (fun ls hl => ?_)
                          refine lv_iinc (v := (v6 + 1)) (lv' := [(6, .int (v6 + 1)), (5, .int 1), (7, .int a49), (0, .ref (ad 0)), (1, .int x1), (2, .int (swB x2)), (3, .int v3), (4, .int v4)]) hx hb dX6_layAncestors_103 hl (k := 7) rfl rfl (by decide) rfl (fun ls hl => ?_)
                          refine lv_goto (tgt := 30) hx hb dX6_layAncestors_106 (by decide) ?_
                          exact ih30 _ _ _ _ _ h hP hS (lv_sub hl [3, 4, 5, 6, 7, 1, 0] rfl)
          refine L30 _ (fun v5 v6 H locs ls h hP hS hl => ?_) 64 _ _ _ _ _ h hP hS (lv_sub hl [2, 3, 4, 5, 6, 1, 0] rfl)
          refine lv_aload_n hx hb dX6_layAncestors_109 rfl (lv_at hl 0 rfl) ?_
          refine mw_get hx hb hts hin hown hK hP 25 (by decide) f68 rfl dX6_layAncestors_110 ?_
          refine lv_iload hx hb dX6_layAncestors_113 (lv_at hl 4 rfl) ?_
          refine lv_iload_n hx hb dX6_layAncestors_115 rfl (lv_at hl 2 rfl) ?_
          refine lv_if_eq (tgt := 129) hx hb dX6_layAncestors_116 (by decide) (fun cc => ?_) (fun cc => ?_)
          · replace h := sw_t h cc
            refine lv_iload hx hb dX6_layAncestors_129 (lv_at hl 5 rfl) ?_
            obtain ⟨iu131, h⟩ := swgd_s h
            obtain ⟨u131, eu131, h⟩ := swlt_s h
            refine mw_zst hx hb hK hJ hP hS 25 40 rfl (by decide) rfl rfl (swix_s iu131) eu131 dX6_layAncestors_131 (fun H locs hP hS => ?_)
            refine lv_aload_n hx hb dX6_layAncestors_132 rfl (lv_at hl 0 rfl) ?_
            refine mw_get hx hb hts hin hown hK hP 26 (by decide) f72 rfl dX6_layAncestors_133 ?_
            refine lv_iload hx hb dX6_layAncestors_136 (lv_at hl 4 rfl) ?_
            refine lv_iload_n hx hb dX6_layAncestors_138 rfl (lv_at hl 2 rfl) ?_
            refine lv_if_eq (tgt := 147) hx hb dX6_layAncestors_139 (by decide) (fun cc => ?_) (fun cc => ?_)
            · replace h := sw_t h cc
              refine lv_aload_n hx hb dX6_layAncestors_147 rfl (lv_at hl 0 rfl) ?_
              refine mw_get hx hb hts hin hown hK hP 26 (by decide) f72 rfl dX6_layAncestors_148 ?_
              refine lv_iload hx hb dX6_layAncestors_151 (lv_at hl 4 rfl) ?_
              obtain ⟨a153, ea153, ia153, h⟩ := swrd_s h
              refine mw_zld hx hb hK hP 26 40 rfl rfl ia153 dX6_layAncestors_153 ea153 ?_
              obtain ⟨iu154, h⟩ := swgd_s h
              obtain ⟨u154, eu154, h⟩ := swlt_s h
              refine mw_zst hx hb hK hJ hP hS 26 40 rfl (by decide) rfl rfl (swix_s iu154) eu154 dX6_layAncestors_154 (fun H locs hP hS => ?_)
              refine lv_iload_n hx hb dX6_layAncestors_155 rfl (lv_at hl 3 rfl) ?_
              refine lv_iload hx hb dX6_layAncestors_156 (lv_at hl 5 rfl) ?_
              refine lv_if_eq (tgt := 165) hx hb dX6_layAncestors_158 (by decide) (fun cc => ?_) (fun cc => ?_)
              · replace h := sw_t h cc
                refine lv_iconst (v := 0) hx hb dX6_layAncestors_165 (by decide) ?_
                refine lv_iadd hx hb dX6_layAncestors_166 ?_
                obtain ⟨y167, ey167, h⟩ := swlt_s h
                refine sw_top ey167 ?_
                refine lv_istore_n (lv' := [(3, .int y167), (0, .ref (ad 0)), (1, .int x1), (2, .int (swB x2)), (4, .int v4), (5, .int v5), (6, .int v6)]) hx hb dX6_layAncestors_167 rfl hl (by decide) rfl (fun ls hl => ?_)
                refine lv_iinc (v := (v4 + (-1))) (lv' := [(4, .int ((v4 + (-1)))), (3, .int y167), (0, .ref (ad 0)), (1, .int x1), (2, .int (swB x2)), (5, .int v5), (6, .int v6)]) hx hb dX6_layAncestors_168 hl (k := 4) rfl rfl (by decide) rfl (fun ls hl => ?_)
                refine lv_goto (tgt := 6) hx hb dX6_layAncestors_171 (by decide) ?_
                exact ih6 _ _ _ _ _ _ h hP hS (lv_sub hl [2, 3, 4, 1, 0] rfl)
              · replace h := sw_f h cc
                refine lv_iconst (v := 1) hx hb dX6_layAncestors_161 (by decide) ?_
                refine lv_goto (tgt := 166) hx hb dX6_layAncestors_162 (by decide) ?_
                refine lv_iadd hx hb dX6_layAncestors_166 ?_
                obtain ⟨y167, ey167, h⟩ := swlt_s h
                refine sw_top ey167 ?_
                refine lv_istore_n (lv' := [(3, .int y167), (0, .ref (ad 0)), (1, .int x1), (2, .int (swB x2)), (4, .int v4), (5, .int v5), (6, .int v6)]) hx hb dX6_layAncestors_167 rfl hl (by decide) rfl (fun ls hl => ?_)
                refine lv_iinc (v := (v4 + (-1))) (lv' := [(4, .int ((v4 + (-1)))), (3, .int y167), (0, .ref (ad 0)), (1, .int x1), (2, .int (swB x2)), (5, .int v5), (6, .int v6)]) hx hb dX6_layAncestors_168 hl (k := 4) rfl rfl (by decide) rfl (fun ls hl => ?_)
                refine lv_goto (tgt := 6) hx hb dX6_layAncestors_171 (by decide) ?_
                exact ih6 _ _ _ _ _ _ h hP hS (lv_sub hl [2, 3, 4, 1, 0] rfl)
            · replace h := sw_f h cc
              refine lv_iload hx hb dX6_layAncestors_142 (lv_at hl 5 rfl) ?_
              refine lv_goto (tgt := 154) hx hb dX6_layAncestors_144 (by decide) ?_
              obtain ⟨iu154, h⟩ := swgd_s h
              obtain ⟨u154, eu154, h⟩ := swlt_s h
              refine mw_zst hx hb hK hJ hP hS 26 40 rfl (by decide) rfl rfl (swix_s iu154) eu154 dX6_layAncestors_154 (fun H locs hP hS => ?_)
              refine lv_iload_n hx hb dX6_layAncestors_155 rfl (lv_at hl 3 rfl) ?_
              refine lv_iload hx hb dX6_layAncestors_156 (lv_at hl 5 rfl) ?_
              refine lv_if_eq (tgt := 165) hx hb dX6_layAncestors_158 (by decide) (fun cc => ?_) (fun cc => ?_)
              · replace h := sw_t h cc
                refine lv_iconst (v := 0) hx hb dX6_layAncestors_165 (by decide) ?_
                refine lv_iadd hx hb dX6_layAncestors_166 ?_
                obtain ⟨y167, ey167, h⟩ := swlt_s h
                refine sw_top ey167 ?_
                refine lv_istore_n (lv' := [(3, .int y167), (0, .ref (ad 0)), (1, .int x1), (2, .int (swB x2)), (4, .int v4), (5, .int v5), (6, .int v6)]) hx hb dX6_layAncestors_167 rfl hl (by decide) rfl (fun ls hl => ?_)
                refine lv_iinc (v := (v4 + (-1))) (lv' := [(4, .int ((v4 + (-1)))), (3, .int y167), (0, .ref (ad 0)), (1, .int x1), (2, .int (swB x2)), (5, .int v5), (6, .int v6)]) hx hb dX6_layAncestors_168 hl (k := 4) rfl rfl (by decide) rfl (fun ls hl => ?_)
                refine lv_goto (tgt := 6) hx hb dX6_layAncestors_171 (by decide) ?_
                exact ih6 _ _ _ _ _ _ h hP hS (lv_sub hl [2, 3, 4, 1, 0] rfl)
              · replace h := sw_f h cc
                refine lv_iconst (v := 1) hx hb dX6_layAncestors_161 (by decide) ?_
                refine lv_goto (tgt := 166) hx hb dX6_layAncestors_162 (by decide) ?_
                refine lv_iadd hx hb dX6_layAncestors_166 ?_
                obtain ⟨y167, ey167, h⟩ := swlt_s h
                refine sw_top ey167 ?_
                refine lv_istore_n (lv' := [(3, .int y167), (0, .ref (ad 0)), (1, .int x1), (2, .int (swB x2)), (4, .int v4), (5, .int v5), (6, .int v6)]) hx hb dX6_layAncestors_167 rfl hl (by decide) rfl (fun ls hl => ?_)
                refine lv_iinc (v := (v4 + (-1))) (lv' := [(4, .int ((v4 + (-1)))), (3, .int y167), (0, .ref (ad 0)), (1, .int x1), (2, .int (swB x2)), (5, .int v5), (6, .int v6)]) hx hb dX6_layAncestors_168 hl (k := 4) rfl rfl (by decide) rfl (fun ls hl => ?_)
                refine lv_goto (tgt := 6) hx hb dX6_layAncestors_171 (by decide) ?_
                exact ih6 _ _ _ _ _ _ h hP hS (lv_sub hl [2, 3, 4, 1, 0] rfl)
          · replace h := sw_f h cc
            refine lv_aload_n hx hb dX6_layAncestors_119 rfl (lv_at hl 0 rfl) ?_
            refine mw_get hx hb hts hin hown hK hP 25 (by decide) f68 rfl dX6_layAncestors_120 ?_
            refine lv_iload hx hb dX6_layAncestors_123 (lv_at hl 4 rfl) ?_
            obtain ⟨a125, ea125, ia125, h⟩ := swrd_s h
            refine mw_zld hx hb hK hP 25 40 rfl rfl ia125 dX6_layAncestors_125 ea125 ?_
            refine lv_goto (tgt := 131) hx hb dX6_layAncestors_126 (by decide) ?_
            obtain ⟨iu131, h⟩ := swgd_s h
            obtain ⟨u131, eu131, h⟩ := swlt_s h
            refine mw_zst hx hb hK hJ hP hS 25 40 rfl (by decide) rfl rfl (swix_s iu131) eu131 dX6_layAncestors_131 (fun H locs hP hS => ?_)
            refine lv_aload_n hx hb dX6_layAncestors_132 rfl (lv_at hl 0 rfl) ?_
            refine mw_get hx hb hts hin hown hK hP 26 (by decide) f72 rfl dX6_layAncestors_133 ?_
            refine lv_iload hx hb dX6_layAncestors_136 (lv_at hl 4 rfl) ?_
            refine lv_iload_n hx hb dX6_layAncestors_138 rfl (lv_at hl 2 rfl) ?_
            refine lv_if_eq (tgt := 147) hx hb dX6_layAncestors_139 (by decide) (fun cc => ?_) (fun cc => ?_)
            · replace h := sw_t h cc
              refine lv_aload_n hx hb dX6_layAncestors_147 rfl (lv_at hl 0 rfl) ?_
              refine mw_get hx hb hts hin hown hK hP 26 (by decide) f72 rfl dX6_layAncestors_148 ?_
              refine lv_iload hx hb dX6_layAncestors_151 (lv_at hl 4 rfl) ?_
              obtain ⟨a153, ea153, ia153, h⟩ := swrd_s h
              refine mw_zld hx hb hK hP 26 40 rfl rfl ia153 dX6_layAncestors_153 ea153 ?_
              obtain ⟨iu154, h⟩ := swgd_s h
              obtain ⟨u154, eu154, h⟩ := swlt_s h
              refine mw_zst hx hb hK hJ hP hS 26 40 rfl (by decide) rfl rfl (swix_s iu154) eu154 dX6_layAncestors_154 (fun H locs hP hS => ?_)
              refine lv_iload_n hx hb dX6_layAncestors_155 rfl (lv_at hl 3 rfl) ?_
              refine lv_iload hx hb dX6_layAncestors_156 (lv_at hl 5 rfl) ?_
              refine lv_if_eq (tgt := 165) hx hb dX6_layAncestors_158 (by decide) (fun cc => ?_) (fun cc => ?_)
              · replace h := sw_t h cc
                refine lv_iconst (v := 0) hx hb dX6_layAncestors_165 (by decide) ?_
                refine lv_iadd hx hb dX6_layAncestors_166 ?_
                obtain ⟨y167, ey167, h⟩ := swlt_s h
                refine sw_top ey167 ?_
                refine lv_istore_n (lv' := [(3, .int y167), (0, .ref (ad 0)), (1, .int x1), (2, .int (swB x2)), (4, .int v4), (5, .int v5), (6, .int v6)]) hx hb dX6_layAncestors_167 rfl hl (by decide) rfl (fun ls hl => ?_)
                refine lv_iinc (v := (v4 + (-1))) (lv' := [(4, .int ((v4 + (-1)))), (3, .int y167), (0, .ref (ad 0)), (1, .int x1), (2, .int (swB x2)), (5, .int v5), (6, .int v6)]) hx hb dX6_layAncestors_168 hl (k := 4) rfl rfl (by decide) rfl (fun ls hl => ?_)
                refine lv_goto (tgt := 6) hx hb dX6_layAncestors_171 (by decide) ?_
                exact ih6 _ _ _ _ _ _ h hP hS (lv_sub hl [2, 3, 4, 1, 0] rfl)
              · replace h := sw_f h cc
                refine lv_iconst (v := 1) hx hb dX6_layAncestors_161 (by decide) ?_
                refine lv_goto (tgt := 166) hx hb dX6_layAncestors_162 (by decide) ?_
                refine lv_iadd hx hb dX6_layAncestors_166 ?_
                obtain ⟨y167, ey167, h⟩ := swlt_s h
                refine sw_top ey167 ?_
                refine lv_istore_n (lv' := [(3, .int y167), (0, .ref (ad 0)), (1, .int x1), (2, .int (swB x2)), (4, .int v4), (5, .int v5), (6, .int v6)]) hx hb dX6_layAncestors_167 rfl hl (by decide) rfl (fun ls hl => ?_)
                refine lv_iinc (v := (v4 + (-1))) (lv' := [(4, .int ((v4 + (-1)))), (3, .int y167), (0, .ref (ad 0)), (1, .int x1), (2, .int (swB x2)), (5, .int v5), (6, .int v6)]) hx hb dX6_layAncestors_168 hl (k := 4) rfl rfl (by decide) rfl (fun ls hl => ?_)
                refine lv_goto (tgt := 6) hx hb dX6_layAncestors_171 (by decide) ?_
                exact ih6 _ _ _ _ _ _ h hP hS (lv_sub hl [2, 3, 4, 1, 0] rfl)
            · replace h := sw_f h cc
              refine lv_iload hx hb dX6_layAncestors_142 (lv_at hl 5 rfl) ?_
              refine lv_goto (tgt := 154) hx hb dX6_layAncestors_144 (by decide) ?_
              obtain ⟨iu154, h⟩ := swgd_s h
              obtain ⟨u154, eu154, h⟩ := swlt_s h
              refine mw_zst hx hb hK hJ hP hS 26 40 rfl (by decide) rfl rfl (swix_s iu154) eu154 dX6_layAncestors_154 (fun H locs hP hS => ?_)
              refine lv_iload_n hx hb dX6_layAncestors_155 rfl (lv_at hl 3 rfl) ?_
              refine lv_iload hx hb dX6_layAncestors_156 (lv_at hl 5 rfl) ?_
              refine lv_if_eq (tgt := 165) hx hb dX6_layAncestors_158 (by decide) (fun cc => ?_) (fun cc => ?_)
              · replace h := sw_t h cc
                refine lv_iconst (v := 0) hx hb dX6_layAncestors_165 (by decide) ?_
                refine lv_iadd hx hb dX6_layAncestors_166 ?_
                obtain ⟨y167, ey167, h⟩ := swlt_s h
                refine sw_top ey167 ?_
                refine lv_istore_n (lv' := [(3, .int y167), (0, .ref (ad 0)), (1, .int x1), (2, .int (swB x2)), (4, .int v4), (5, .int v5), (6, .int v6)]) hx hb dX6_layAncestors_167 rfl hl (by decide) rfl (fun ls hl => ?_)
                refine lv_iinc (v := (v4 + (-1))) (lv' := [(4, .int ((v4 + (-1)))), (3, .int y167), (0, .ref (ad 0)), (1, .int x1), (2, .int (swB x2)), (5, .int v5), (6, .int v6)]) hx hb dX6_layAncestors_168 hl (k := 4) rfl rfl (by decide) rfl (fun ls hl => ?_)
                refine lv_goto (tgt := 6) hx hb dX6_layAncestors_171 (by decide) ?_
                exact ih6 _ _ _ _ _ _ h hP hS (lv_sub hl [2, 3, 4, 1, 0] rfl)
              · replace h := sw_f h cc
                refine lv_iconst (v := 1) hx hb dX6_layAncestors_161 (by decide) ?_
                refine lv_goto (tgt := 166) hx hb dX6_layAncestors_162 (by decide) ?_
                refine lv_iadd hx hb dX6_layAncestors_166 ?_
                obtain ⟨y167, ey167, h⟩ := swlt_s h
                refine sw_top ey167 ?_
                refine lv_istore_n (lv' := [(3, .int y167), (0, .ref (ad 0)), (1, .int x1), (2, .int (swB x2)), (4, .int v4), (5, .int v5), (6, .int v6)]) hx hb dX6_layAncestors_167 rfl hl (by decide) rfl (fun ls hl => ?_)
                refine lv_iinc (v := (v4 + (-1))) (lv' := [(4, .int ((v4 + (-1)))), (3, .int y167), (0, .ref (ad 0)), (1, .int x1), (2, .int (swB x2)), (5, .int v5), (6, .int v6)]) hx hb dX6_layAncestors_168 hl (k := 4) rfl rfl (by decide) rfl (fun ls hl => ?_)
                refine lv_goto (tgt := 6) hx hb dX6_layAncestors_171 (by decide) ?_
                exact ih6 _ _ _ _ _ _ h hP hS (lv_sub hl [2, 3, 4, 1, 0] rfl)
        · replace h := sw_t h cc
          refine lv_iconst (v := 1) hx hb dX6_layAncestors_17 (by decide) ?_
          refine lv_goto (tgt := 22) hx hb dX6_layAncestors_18 (by decide) ?_
          refine lv_istore (lv' := [(5, .int 1), (0, .ref (ad 0)), (1, .int x1), (2, .int (swB x2)), (3, .int v3), (4, .int v4)]) hx hb dX6_layAncestors_22 hl (by decide) rfl (fun ls hl => ?_)
          refine lv_iload hx hb dX6_layAncestors_24 (lv_at hl 5 rfl) ?_
          refine lv_iconst (v := 1) hx hb dX6_layAncestors_26 (by decide) ?_
          refine lv_iadd hx hb dX6_layAncestors_27 ?_
          obtain ⟨y28, ey28, h⟩ := swlt_s h
          refine sw_top ey28 ?_
          refine lv_istore (lv' := [(6, .int y28), (5, .int 1), (0, .ref (ad 0)), (1, .int x1), (2, .int (swB x2)), (3, .int v3), (4, .int v4)]) hx hb dX6_layAncestors_28 hl (by decide) rfl (fun ls hl => ?_)
          have L30 : ∀ (kk : Int32 → Int32 → Option (Int32 × swU)), (∀ (v5 : Int32) (v6 : Int32) (H : Heap) (locs : List Loc) (ls : Array Slot), kk v5 v6 = some (r0, u0) → mwP D cy ad w6 H → va_S (mwA ad) s.heap H locs → lv_has ls 8 [(0, .ref (ad 0)), (1, .int x1), (2, .int (swB x2)), (3, .int v3), (4, .int v4), (5, .int v5), (6, .int v6)] → W p l e (headSpec wsX6_layAncestors rmX6_layAncestors).room s m args below meth c H locs 0 0 (MQ below (mwQi D cy ad r0 u0) args s 0 0 (mwA ad)) (F0 m 109 ls [])) → ∀ (n : Nat) (v5 : Int32) (v6 : Int32) (H : Heap) (locs : List Loc) (ls : Array Slot), mx_layAncestors_L30 w6 x2 v4 kk n v5 v6 = some (r0, u0) → mwP D cy ad w6 H → va_S (mwA ad) s.heap H locs → lv_has ls 8 [(0, .ref (ad 0)), (1, .int x1), (2, .int (swB x2)), (3, .int v3), (4, .int v4), (5, .int v5), (6, .int v6)] → W p l e (headSpec wsX6_layAncestors rmX6_layAncestors).room s m args below meth c H locs 0 0 (MQ below (mwQi D cy ad r0 u0) args s 0 0 (mwA ad)) (F0 m 30 ls []) := by
            intro kk hk30 n
            induction n with
            | zero => intro v5 v6 H locs ls h hP hS hl; rw [mx_layAncestors_L30] at h; cases h
            | succ n ih30 =>
              intro v5 v6 H locs ls h hP hS hl
              rw [mx_layAncestors_L30] at h
              refine lv_iload hx hb dX6_layAncestors_30 (lv_at hl 6 rfl) ?_
              refine lv_aload_n hx hb dX6_layAncestors_32 rfl (lv_at hl 0 rfl) ?_
              refine mw_get hx hb hts hin hown hK hP 1 (by decide) f7 rfl dX6_layAncestors_33 ?_
              refine lv_icmp_ge (tgt := 109) hx hb dX6_layAncestors_36 (by decide) (fun cc => ?_) (fun cc => ?_)
              · replace h := sw_t h cc
                exact hk30 _ _ _ _ _ h hP hS (lv_sub hl [0, 1, 2, 3, 4, 5, 6] rfl)
              · replace h := sw_f h cc
                refine lv_iload_n hx hb dX6_layAncestors_39 rfl (lv_at hl 2 rfl) ?_
                refine lv_if_eq (tgt := 53) hx hb dX6_layAncestors_40 (by decide) (fun cc => ?_) (fun cc => ?_)
                · replace h := sw_t h cc
                  refine lv_aload_n hx hb dX6_layAncestors_53 rfl (lv_at hl 0 rfl) ?_
                  refine mw_get hx hb hts hin hown hK hP 25 (by decide) f68 rfl dX6_layAncestors_54 ?_
                  refine lv_iload hx hb dX6_layAncestors_57 (lv_at hl 6 rfl) ?_
                  obtain ⟨a59, ea59, ia59, h⟩ := swrd_s h
                  refine mw_zld hx hb hK hP 25 40 rfl rfl ia59 dX6_layAncestors_59 ea59 ?_
                  refine lv_istore (lv' := [(7, .int a59), (0, .ref (ad 0)), (1, .int x1), (2, .int (swB x2)), (3, .int v3), (4, .int v4), (5, .int v5), (6, .int v6)]) hx hb dX6_layAncestors_60 hl (by decide) rfl (fun ls hl => ?_)
                  refine lv_iload hx hb dX6_layAncestors_62 (lv_at hl 6 rfl) ?_
                  refine lv_if_ne (tgt := 96) hx hb dX6_layAncestors_64 (by decide) (fun cc => ?_) (fun cc => ?_)
                  · replace h := sw_f h cc
                    refine lv_iconst (v := 1) hx hb dX6_layAncestors_96 (by decide) ?_
                    refine lv_goto (tgt := 101) hx hb dX6_layAncestors_97 (by decide) ?_
                    refine lv_istore (lv' := [(5, .int 1), (7, .int a59), (0, .ref (ad 0)), (1, .int x1), (2, .int (swB x2)), (3, .int v3), (4, .int v4), (6, .int v6)]) hx hb dX6_layAncestors_101 hl (by decide) rfl (fun ls hl => ?_)
                    refine lv_iinc (v := (v6 + 1)) (lv' := [(6, .int (v6 + 1)), (5, .int 1), (7, .int a59), (0, .ref (ad 0)), (1, .int x1), (2, .int (swB x2)), (3, .int v3), (4, .int v4)]) hx hb dX6_layAncestors_103 hl (k := 7) rfl rfl (by decide) rfl (fun ls hl => ?_)
                    refine lv_goto (tgt := 30) hx hb dX6_layAncestors_106 (by decide) ?_
                    exact ih30 _ _ _ _ _ h hP hS (lv_sub hl [3, 4, 5, 6, 7, 1, 0] rfl)
                  · replace h := sw_t h cc
                    refine lv_iload hx hb dX6_layAncestors_67 (lv_at hl 0 rfl) ?_
                    refine lv_if_eq (tgt := 100) hx hb dX6_layAncestors_69 (by decide) (fun cc => ?_) (fun cc => ?_)
                    · replace h := sw_t h cc
                      refine lv_iconst (v := 0) hx hb dX6_layAncestors_100 (by decide) ?_
                      refine lv_istore (lv' := [(5, .int 0), (7, .int a59), (0, .ref (ad 0)), (1, .int x1), (2, .int (swB x2)), (3, .int v3), (4, .int v4), (6, .int v6)]) hx hb dX6_layAncestors_101 hl (by decide) rfl (fun ls hl => ?_)
                      refine lv_iinc (v := (v6 + 1)) (lv' := [(6, .int (v6 + 1)), (5, .int 0), (7, .int a59), (0, .ref (ad 0)), (1, .int x1), (2, .int (swB x2)), (3, .int v3), (4, .int v4)]) hx hb dX6_layAncestors_103 hl (k := 7) rfl rfl (by decide) rfl (fun ls hl => ?_)
                      refine lv_goto (tgt := 30) hx hb dX6_layAncestors_106 (by decide) ?_
                      exact ih30 _ _ _ _ _ h hP hS (lv_sub hl [3, 4, 5, 6, 7, 1, 0] rfl)
                    · replace h := sw_f h cc
                      refine lv_aload_n hx hb dX6_layAncestors_72 rfl (lv_at hl 1 rfl) ?_
                      refine mw_get hx hb hts hin hown hK hP 3 (by decide) f17 rfl dX6_layAncestors_73 ?_
                      refine lv_iload hx hb dX6_layAncestors_76 (lv_at hl 7 rfl) ?_
                      obtain ⟨a78, ea78, ia78, h⟩ := swrd_s h
                      refine mw_ald hx hb hK hP 3 40 rfl rfl ia78 dX6_layAncestors_78 ea78 ?_
                      refine lv_iload hx hb dX6_layAncestors_79 (lv_at hl 5 rfl) ?_
                      refine lv_icmp_eq (tgt := 96) hx hb dX6_layAncestors_81 (by decide) (fun cc => ?_) (fun cc => ?_)
                      · replace h := sw_t h cc
                        refine lv_iconst (v := 1) hx hb dX6_layAncestors_96 (by decide) ?_
                        refine lv_goto (tgt := 101) hx hb dX6_layAncestors_97 (by decide) ?_
                        refine lv_istore (lv' := [(5, .int 1), (7, .int a59), (0, .ref (ad 0)), (1, .int x1), (2, .int (swB x2)), (3, .int v3), (4, .int v4), (6, .int v6)]) hx hb dX6_layAncestors_101 hl (by decide) rfl (fun ls hl => ?_)
                        refine lv_iinc (v := (v6 + 1)) (lv' := [(6, .int (v6 + 1)), (5, .int 1), (7, .int a59), (0, .ref (ad 0)), (1, .int x1), (2, .int (swB x2)), (3, .int v3), (4, .int v4)]) hx hb dX6_layAncestors_103 hl (k := 7) rfl rfl (by decide) rfl (fun ls hl => ?_)
                        refine lv_goto (tgt := 30) hx hb dX6_layAncestors_106 (by decide) ?_
                        exact ih30 _ _ _ _ _ h hP hS (lv_sub hl [3, 4, 5, 6, 7, 1, 0] rfl)
                      · replace h := sw_f h cc
                        refine lv_aload_n hx hb dX6_layAncestors_84 rfl (lv_at hl 1 rfl) ?_
                        refine mw_get hx hb hts hin hown hK hP 4 (by decide) f20 rfl dX6_layAncestors_85 ?_
                        refine lv_iload hx hb dX6_layAncestors_88 (lv_at hl 7 rfl) ?_
                        obtain ⟨a90, ea90, ia90, h⟩ := swrd_s h
                        refine mw_ald hx hb hK hP 4 40 rfl rfl ia90 dX6_layAncestors_90 ea90 ?_
                        refine lv_iload hx hb dX6_layAncestors_91 (lv_at hl 5 rfl) ?_
                        refine lv_icmp_ne (tgt := 100) hx hb dX6_layAncestors_93 (by decide) (fun cc => ?_) (fun cc => ?_)
                        · replace h := sw_f h cc
                          refine lv_iconst (v := 0) hx hb dX6_layAncestors_100 (by decide) ?_
                          refine lv_istore (lv' := [(5, .int 0), (7, .int a59), (0, .ref (ad 0)), (1, .int x1), (2, .int (swB x2)), (3, .int v3), (4, .int v4), (6, .int v6)]) hx hb dX6_layAncestors_101 hl (by decide) rfl (fun ls hl => ?_)
                          refine lv_iinc (v := (v6 + 1)) (lv' := [(6, .int (v6 + 1)), (5, .int 0), (7, .int a59), (0, .ref (ad 0)), (1, .int x1), (2, .int (swB x2)), (3, .int v3), (4, .int v4)]) hx hb dX6_layAncestors_103 hl (k := 7) rfl rfl (by decide) rfl (fun ls hl => ?_)
                          refine lv_goto (tgt := 30) hx hb dX6_layAncestors_106 (by decide) ?_
                          exact ih30 _ _ _ _ _ h hP hS (lv_sub hl [3, 4, 5, 6, 7, 1, 0] rfl)
                        · replace h := sw_t h cc
                          refine lv_iconst (v := 1) hx hb dX6_layAncestors_96 (by decide) ?_
                          refine lv_goto (tgt := 101) hx hb dX6_layAncestors_97 (by decide) ?_
                          refine lv_istore (lv' := [(5, .int 1), (7, .int a59), (0, .ref (ad 0)), (1, .int x1), (2, .int (swB x2)), (3, .int v3), (4, .int v4), (6, .int v6)]) hx hb dX6_layAncestors_101 hl (by decide) rfl (fun ls hl => ?_)
                          refine lv_iinc (v := (v6 + 1)) (lv' := [(6, .int (v6 + 1)), (5, .int 1), (7, .int a59), (0, .ref (ad 0)), (1, .int x1), (2, .int (swB x2)), (3, .int v3), (4, .int v4)]) hx hb dX6_layAncestors_103 hl (k := 7) rfl rfl (by decide) rfl (fun ls hl => ?_)
                          refine lv_goto (tgt := 30) hx hb dX6_layAncestors_106 (by decide) ?_
                          exact ih30 _ _ _ _ _ h hP hS (lv_sub hl [3, 4, 5, 6, 7, 1, 0] rfl)
                · replace h := sw_f h cc
                  refine lv_aload_n hx hb dX6_layAncestors_43 rfl (lv_at hl 0 rfl) ?_
                  refine mw_get hx hb hts hin hown hK hP 26 (by decide) f72 rfl dX6_layAncestors_44 ?_
                  refine lv_iload hx hb dX6_layAncestors_47 (lv_at hl 6 rfl) ?_
                  obtain ⟨a49, ea49, ia49, h⟩ := swrd_s h
                  refine mw_zld hx hb hK hP 26 40 rfl rfl ia49 dX6_layAncestors_49 ea49 ?_
                  refine lv_goto (tgt := 60) hx hb dX6_layAncestors_50 (by decide) ?_
                  refine lv_istore (lv' := [(7, .int a49), (0, .ref (ad 0)), (1, .int x1), (2, .int (swB x2)), (3, .int v3), (4, .int v4), (5, .int v5), (6, .int v6)]) hx hb dX6_layAncestors_60 hl (by decide) rfl (fun ls hl => ?_)
                  refine lv_iload hx hb dX6_layAncestors_62 (lv_at hl 6 rfl) ?_
                  refine lv_if_ne (tgt := 96) hx hb dX6_layAncestors_64 (by decide) (fun cc => ?_) (fun cc => ?_)
                  · replace h := sw_f h cc
                    refine lv_iconst (v := 1) hx hb dX6_layAncestors_96 (by decide) ?_
                    refine lv_goto (tgt := 101) hx hb dX6_layAncestors_97 (by decide) ?_
                    refine lv_istore (lv' := [(5, .int 1), (7, .int a49), (0, .ref (ad 0)), (1, .int x1), (2, .int (swB x2)), (3, .int v3), (4, .int v4), (6, .int v6)]) hx hb dX6_layAncestors_101 hl (by decide) rfl (fun ls hl => ?_)
                    refine lv_iinc (v := (v6 + 1)) (lv' := [(6, .int (v6 + 1)), (5, .int 1), (7, .int a49), (0, .ref (ad 0)), (1, .int x1), (2, .int (swB x2)), (3, .int v3), (4, .int v4)]) hx hb dX6_layAncestors_103 hl (k := 7) rfl rfl (by decide) rfl (fun ls hl => ?_)
                    refine lv_goto (tgt := 30) hx hb dX6_layAncestors_106 (by decide) ?_
                    exact ih30 _ _ _ _ _ h hP hS (lv_sub hl [3, 4, 5, 6, 7, 1, 0] rfl)
                  · replace h := sw_t h cc
                    refine lv_iload hx hb dX6_layAncestors_67 (lv_at hl 0 rfl) ?_
                    refine lv_if_eq (tgt := 100) hx hb dX6_layAncestors_69 (by decide) (fun cc => ?_) (fun cc => ?_)
                    · replace h := sw_t h cc
                      refine lv_iconst (v := 0) hx hb dX6_layAncestors_100 (by decide) ?_
                      refine lv_istore (lv' := [(5, .int 0), (7, .int a49), (0, .ref (ad 0)), (1, .int x1), (2, .int (swB x2)), (3, .int v3), (4, .int v4), (6, .int v6)]) hx hb dX6_layAncestors_101 hl (by decide) rfl (fun ls hl => ?_)
                      refine lv_iinc (v := (v6 + 1)) (lv' := [(6, .int (v6 + 1)), (5, .int 0), (7, .int a49), (0, .ref (ad 0)), (1, .int x1), (2, .int (swB x2)), (3, .int v3), (4, .int v4)]) hx hb dX6_layAncestors_103 hl (k := 7) rfl rfl (by decide) rfl (fun ls hl => ?_)
                      refine lv_goto (tgt := 30) hx hb dX6_layAncestors_106 (by decide) ?_
                      exact ih30 _ _ _ _ _ h hP hS (lv_sub hl [3, 4, 5, 6, 7, 1, 0] rfl)
                    · replace h := sw_f h cc
                      refine lv_aload_n hx hb dX6_layAncestors_72 rfl (lv_at hl 1 rfl) ?_
                      refine mw_get hx hb hts hin hown hK hP 3 (by decide) f17 rfl dX6_layAncestors_73 ?_
                      refine lv_iload hx hb dX6_layAncestors_76 (lv_at hl 7 rfl) ?_
                      obtain ⟨a78, ea78, ia78, h⟩ := swrd_s h
                      refine mw_ald hx hb hK hP 3 40 rfl rfl ia78 dX6_layAncestors_78 ea78 ?_
                      refine lv_iload hx hb dX6_layAncestors_79 (lv_at hl 5 rfl) ?_
                      refine lv_icmp_eq (tgt := 96) hx hb dX6_layAncestors_81 (by decide) (fun cc => ?_) (fun cc => ?_)
                      · replace h := sw_t h cc
                        refine lv_iconst (v := 1) hx hb dX6_layAncestors_96 (by decide) ?_
                        refine lv_goto (tgt := 101) hx hb dX6_layAncestors_97 (by decide) ?_
                        refine lv_istore (lv' := [(5, .int 1), (7, .int a49), (0, .ref (ad 0)), (1, .int x1), (2, .int (swB x2)), (3, .int v3), (4, .int v4), (6, .int v6)]) hx hb dX6_layAncestors_101 hl (by decide) rfl (fun ls hl => ?_)
                        refine lv_iinc (v := (v6 + 1)) (lv' := [(6, .int (v6 + 1)), (5, .int 1), (7, .int a49), (0, .ref (ad 0)), (1, .int x1), (2, .int (swB x2)), (3, .int v3), (4, .int v4)]) hx hb dX6_layAncestors_103 hl (k := 7) rfl rfl (by decide) rfl (fun ls hl => ?_)
                        refine lv_goto (tgt := 30) hx hb dX6_layAncestors_106 (by decide) ?_
                        exact ih30 _ _ _ _ _ h hP hS (lv_sub hl [3, 4, 5, 6, 7, 1, 0] rfl)
                      · replace h := sw_f h cc
                        refine lv_aload_n hx hb dX6_layAncestors_84 rfl (lv_at hl 1 rfl) ?_
                        refine mw_get hx hb hts hin hown hK hP 4 (by decide) f20 rfl dX6_layAncestors_85 ?_
                        refine lv_iload hx hb dX6_layAncestors_88 (lv_at hl 7 rfl) ?_
                        obtain ⟨a90, ea90, ia90, h⟩ := swrd_s h
                        refine mw_ald hx hb hK hP 4 40 rfl rfl ia90 dX6_layAncestors_90 ea90 ?_
                        refine lv_iload hx hb dX6_layAncestors_91 (lv_at hl 5 rfl) ?_
                        refine lv_icmp_ne (tgt := 100) hx hb dX6_layAncestors_93 (by decide) (fun cc => ?_) (fun cc => ?_)
                        · replace h := sw_f h cc
                          refine lv_iconst (v := 0) hx hb dX6_layAncestors_100 (by decide) ?_
                          refine lv_istore (lv' := [(5, .int 0), (7, .int a49), (0, .ref (ad 0)), (1, .int x1), (2, .int (swB x2)), (3, .int v3), (4, .int v4), (6, .int v6)]) hx hb dX6_layAncestors_101 hl (by decide) rfl (fun ls hl => ?_)
                          refine lv_iinc (v := (v6 + 1)) (lv' := [(6, .int (v6 + 1)), (5, .int 0), (7, .int a49), (0, .ref (ad 0)), (1, .int x1), (2, .int (swB x2)), (3, .int v3), (4, .int v4)]) hx hb dX6_layAncestors_103 hl (k := 7) rfl rfl (by decide) rfl (fun ls hl => ?_)
                          refine lv_goto (tgt := 30) hx hb dX6_layAncestors_106 (by decide) ?_
                          exact ih30 _ _ _ _ _ h hP hS (lv_sub hl [3, 4, 5, 6, 7, 1, 0] rfl)
                        · replace h := sw_t h cc
                          refine lv_iconst (v := 1) hx hb dX6_layAncestors_96 (by decide) ?_
                          refine lv_goto (tgt := 101) hx hb dX6_layAncestors_97 (by decide) ?_
                          refine lv_istore (lv' := [(5, .int 1), (7, .int a49), (0, .ref (ad 0)), (1, .int x1), (2, .int (swB x2)), (3, .int v3), (4, .int v4), (6, .int v6)]) hx hb dX6_layAncestors_101 hl (by decide) rfl (fun ls hl => ?_)
                          refine lv_iinc (v := (v6 + 1)) (lv' := [(6, .int (v6 + 1)), (5, .int 1), (7, .int a49), (0, .ref (ad 0)), (1, .int x1), (2, .int (swB x2)), (3, .int v3), (4, .int v4)]) hx hb dX6_layAncestors_103 hl (k := 7) rfl rfl (by decide) rfl (fun ls hl => ?_)
                          refine lv_goto (tgt := 30) hx hb dX6_layAncestors_106 (by decide) ?_
                          exact ih30 _ _ _ _ _ h hP hS (lv_sub hl [3, 4, 5, 6, 7, 1, 0] rfl)
          refine L30 _ (fun v5 v6 H locs ls h hP hS hl => ?_) 64 _ _ _ _ _ h hP hS (lv_sub hl [2, 3, 4, 5, 6, 1, 0] rfl)
          refine lv_aload_n hx hb dX6_layAncestors_109 rfl (lv_at hl 0 rfl) ?_
          refine mw_get hx hb hts hin hown hK hP 25 (by decide) f68 rfl dX6_layAncestors_110 ?_
          refine lv_iload hx hb dX6_layAncestors_113 (lv_at hl 4 rfl) ?_
          refine lv_iload_n hx hb dX6_layAncestors_115 rfl (lv_at hl 2 rfl) ?_
          refine lv_if_eq (tgt := 129) hx hb dX6_layAncestors_116 (by decide) (fun cc => ?_) (fun cc => ?_)
          · replace h := sw_t h cc
            refine lv_iload hx hb dX6_layAncestors_129 (lv_at hl 5 rfl) ?_
            obtain ⟨iu131, h⟩ := swgd_s h
            obtain ⟨u131, eu131, h⟩ := swlt_s h
            refine mw_zst hx hb hK hJ hP hS 25 40 rfl (by decide) rfl rfl (swix_s iu131) eu131 dX6_layAncestors_131 (fun H locs hP hS => ?_)
            refine lv_aload_n hx hb dX6_layAncestors_132 rfl (lv_at hl 0 rfl) ?_
            refine mw_get hx hb hts hin hown hK hP 26 (by decide) f72 rfl dX6_layAncestors_133 ?_
            refine lv_iload hx hb dX6_layAncestors_136 (lv_at hl 4 rfl) ?_
            refine lv_iload_n hx hb dX6_layAncestors_138 rfl (lv_at hl 2 rfl) ?_
            refine lv_if_eq (tgt := 147) hx hb dX6_layAncestors_139 (by decide) (fun cc => ?_) (fun cc => ?_)
            · replace h := sw_t h cc
              refine lv_aload_n hx hb dX6_layAncestors_147 rfl (lv_at hl 0 rfl) ?_
              refine mw_get hx hb hts hin hown hK hP 26 (by decide) f72 rfl dX6_layAncestors_148 ?_
              refine lv_iload hx hb dX6_layAncestors_151 (lv_at hl 4 rfl) ?_
              obtain ⟨a153, ea153, ia153, h⟩ := swrd_s h
              refine mw_zld hx hb hK hP 26 40 rfl rfl ia153 dX6_layAncestors_153 ea153 ?_
              obtain ⟨iu154, h⟩ := swgd_s h
              obtain ⟨u154, eu154, h⟩ := swlt_s h
              refine mw_zst hx hb hK hJ hP hS 26 40 rfl (by decide) rfl rfl (swix_s iu154) eu154 dX6_layAncestors_154 (fun H locs hP hS => ?_)
              refine lv_iload_n hx hb dX6_layAncestors_155 rfl (lv_at hl 3 rfl) ?_
              refine lv_iload hx hb dX6_layAncestors_156 (lv_at hl 5 rfl) ?_
              refine lv_if_eq (tgt := 165) hx hb dX6_layAncestors_158 (by decide) (fun cc => ?_) (fun cc => ?_)
              · replace h := sw_t h cc
                refine lv_iconst (v := 0) hx hb dX6_layAncestors_165 (by decide) ?_
                refine lv_iadd hx hb dX6_layAncestors_166 ?_
                obtain ⟨y167, ey167, h⟩ := swlt_s h
                refine sw_top ey167 ?_
                refine lv_istore_n (lv' := [(3, .int y167), (0, .ref (ad 0)), (1, .int x1), (2, .int (swB x2)), (4, .int v4), (5, .int v5), (6, .int v6)]) hx hb dX6_layAncestors_167 rfl hl (by decide) rfl (fun ls hl => ?_)
                refine lv_iinc (v := (v4 + (-1))) (lv' := [(4, .int ((v4 + (-1)))), (3, .int y167), (0, .ref (ad 0)), (1, .int x1), (2, .int (swB x2)), (5, .int v5), (6, .int v6)]) hx hb dX6_layAncestors_168 hl (k := 4) rfl rfl (by decide) rfl (fun ls hl => ?_)
                refine lv_goto (tgt := 6) hx hb dX6_layAncestors_171 (by decide) ?_
                exact ih6 _ _ _ _ _ _ h hP hS (lv_sub hl [2, 3, 4, 1, 0] rfl)
              · replace h := sw_f h cc
                refine lv_iconst (v := 1) hx hb dX6_layAncestors_161 (by decide) ?_
                refine lv_goto (tgt := 166) hx hb dX6_layAncestors_162 (by decide) ?_
                refine lv_iadd hx hb dX6_layAncestors_166 ?_
                obtain ⟨y167, ey167, h⟩ := swlt_s h
                refine sw_top ey167 ?_
                refine lv_istore_n (lv' := [(3, .int y167), (0, .ref (ad 0)), (1, .int x1), (2, .int (swB x2)), (4, .int v4), (5, .int v5), (6, .int v6)]) hx hb dX6_layAncestors_167 rfl hl (by decide) rfl (fun ls hl => ?_)
                refine lv_iinc (v := (v4 + (-1))) (lv' := [(4, .int ((v4 + (-1)))), (3, .int y167), (0, .ref (ad 0)), (1, .int x1), (2, .int (swB x2)), (5, .int v5), (6, .int v6)]) hx hb dX6_layAncestors_168 hl (k := 4) rfl rfl (by decide) rfl (fun ls hl => ?_)
                refine lv_goto (tgt := 6) hx hb dX6_layAncestors_171 (by decide) ?_
                exact ih6 _ _ _ _ _ _ h hP hS (lv_sub hl [2, 3, 4, 1, 0] rfl)
            · replace h := sw_f h cc
              refine lv_iload hx hb dX6_layAncestors_142 (lv_at hl 5 rfl) ?_
              refine lv_goto (tgt := 154) hx hb dX6_layAncestors_144 (by decide) ?_
              obtain ⟨iu154, h⟩ := swgd_s h
              obtain ⟨u154, eu154, h⟩ := swlt_s h
              refine mw_zst hx hb hK hJ hP hS 26 40 rfl (by decide) rfl rfl (swix_s iu154) eu154 dX6_layAncestors_154 (fun H locs hP hS => ?_)
              refine lv_iload_n hx hb dX6_layAncestors_155 rfl (lv_at hl 3 rfl) ?_
              refine lv_iload hx hb dX6_layAncestors_156 (lv_at hl 5 rfl) ?_
              refine lv_if_eq (tgt := 165) hx hb dX6_layAncestors_158 (by decide) (fun cc => ?_) (fun cc => ?_)
              · replace h := sw_t h cc
                refine lv_iconst (v := 0) hx hb dX6_layAncestors_165 (by decide) ?_
                refine lv_iadd hx hb dX6_layAncestors_166 ?_
                obtain ⟨y167, ey167, h⟩ := swlt_s h
                refine sw_top ey167 ?_
                refine lv_istore_n (lv' := [(3, .int y167), (0, .ref (ad 0)), (1, .int x1), (2, .int (swB x2)), (4, .int v4), (5, .int v5), (6, .int v6)]) hx hb dX6_layAncestors_167 rfl hl (by decide) rfl (fun ls hl => ?_)
                refine lv_iinc (v := (v4 + (-1))) (lv' := [(4, .int ((v4 + (-1)))), (3, .int y167), (0, .ref (ad 0)), (1, .int x1), (2, .int (swB x2)), (5, .int v5), (6, .int v6)]) hx hb dX6_layAncestors_168 hl (k := 4) rfl rfl (by decide) rfl (fun ls hl => ?_)
                refine lv_goto (tgt := 6) hx hb dX6_layAncestors_171 (by decide) ?_
                exact ih6 _ _ _ _ _ _ h hP hS (lv_sub hl [2, 3, 4, 1, 0] rfl)
              · replace h := sw_f h cc
                refine lv_iconst (v := 1) hx hb dX6_layAncestors_161 (by decide) ?_
                refine lv_goto (tgt := 166) hx hb dX6_layAncestors_162 (by decide) ?_
                refine lv_iadd hx hb dX6_layAncestors_166 ?_
                obtain ⟨y167, ey167, h⟩ := swlt_s h
                refine sw_top ey167 ?_
                refine lv_istore_n (lv' := [(3, .int y167), (0, .ref (ad 0)), (1, .int x1), (2, .int (swB x2)), (4, .int v4), (5, .int v5), (6, .int v6)]) hx hb dX6_layAncestors_167 rfl hl (by decide) rfl (fun ls hl => ?_)
                refine lv_iinc (v := (v4 + (-1))) (lv' := [(4, .int ((v4 + (-1)))), (3, .int y167), (0, .ref (ad 0)), (1, .int x1), (2, .int (swB x2)), (5, .int v5), (6, .int v6)]) hx hb dX6_layAncestors_168 hl (k := 4) rfl rfl (by decide) rfl (fun ls hl => ?_)
                refine lv_goto (tgt := 6) hx hb dX6_layAncestors_171 (by decide) ?_
                exact ih6 _ _ _ _ _ _ h hP hS (lv_sub hl [2, 3, 4, 1, 0] rfl)
          · replace h := sw_f h cc
            refine lv_aload_n hx hb dX6_layAncestors_119 rfl (lv_at hl 0 rfl) ?_
            refine mw_get hx hb hts hin hown hK hP 25 (by decide) f68 rfl dX6_layAncestors_120 ?_
            refine lv_iload hx hb dX6_layAncestors_123 (lv_at hl 4 rfl) ?_
            obtain ⟨a125, ea125, ia125, h⟩ := swrd_s h
            refine mw_zld hx hb hK hP 25 40 rfl rfl ia125 dX6_layAncestors_125 ea125 ?_
            refine lv_goto (tgt := 131) hx hb dX6_layAncestors_126 (by decide) ?_
            obtain ⟨iu131, h⟩ := swgd_s h
            obtain ⟨u131, eu131, h⟩ := swlt_s h
            refine mw_zst hx hb hK hJ hP hS 25 40 rfl (by decide) rfl rfl (swix_s iu131) eu131 dX6_layAncestors_131 (fun H locs hP hS => ?_)
            refine lv_aload_n hx hb dX6_layAncestors_132 rfl (lv_at hl 0 rfl) ?_
            refine mw_get hx hb hts hin hown hK hP 26 (by decide) f72 rfl dX6_layAncestors_133 ?_
            refine lv_iload hx hb dX6_layAncestors_136 (lv_at hl 4 rfl) ?_
            refine lv_iload_n hx hb dX6_layAncestors_138 rfl (lv_at hl 2 rfl) ?_
            refine lv_if_eq (tgt := 147) hx hb dX6_layAncestors_139 (by decide) (fun cc => ?_) (fun cc => ?_)
            · replace h := sw_t h cc
              refine lv_aload_n hx hb dX6_layAncestors_147 rfl (lv_at hl 0 rfl) ?_
              refine mw_get hx hb hts hin hown hK hP 26 (by decide) f72 rfl dX6_layAncestors_148 ?_
              refine lv_iload hx hb dX6_layAncestors_151 (lv_at hl 4 rfl) ?_
              obtain ⟨a153, ea153, ia153, h⟩ := swrd_s h
              refine mw_zld hx hb hK hP 26 40 rfl rfl ia153 dX6_layAncestors_153 ea153 ?_
              obtain ⟨iu154, h⟩ := swgd_s h
              obtain ⟨u154, eu154, h⟩ := swlt_s h
              refine mw_zst hx hb hK hJ hP hS 26 40 rfl (by decide) rfl rfl (swix_s iu154) eu154 dX6_layAncestors_154 (fun H locs hP hS => ?_)
              refine lv_iload_n hx hb dX6_layAncestors_155 rfl (lv_at hl 3 rfl) ?_
              refine lv_iload hx hb dX6_layAncestors_156 (lv_at hl 5 rfl) ?_
              refine lv_if_eq (tgt := 165) hx hb dX6_layAncestors_158 (by decide) (fun cc => ?_) (fun cc => ?_)
              · replace h := sw_t h cc
                refine lv_iconst (v := 0) hx hb dX6_layAncestors_165 (by decide) ?_
                refine lv_iadd hx hb dX6_layAncestors_166 ?_
                obtain ⟨y167, ey167, h⟩ := swlt_s h
                refine sw_top ey167 ?_
                refine lv_istore_n (lv' := [(3, .int y167), (0, .ref (ad 0)), (1, .int x1), (2, .int (swB x2)), (4, .int v4), (5, .int v5), (6, .int v6)]) hx hb dX6_layAncestors_167 rfl hl (by decide) rfl (fun ls hl => ?_)
                refine lv_iinc (v := (v4 + (-1))) (lv' := [(4, .int ((v4 + (-1)))), (3, .int y167), (0, .ref (ad 0)), (1, .int x1), (2, .int (swB x2)), (5, .int v5), (6, .int v6)]) hx hb dX6_layAncestors_168 hl (k := 4) rfl rfl (by decide) rfl (fun ls hl => ?_)
                refine lv_goto (tgt := 6) hx hb dX6_layAncestors_171 (by decide) ?_
                exact ih6 _ _ _ _ _ _ h hP hS (lv_sub hl [2, 3, 4, 1, 0] rfl)
              · replace h := sw_f h cc
                refine lv_iconst (v := 1) hx hb dX6_layAncestors_161 (by decide) ?_
                refine lv_goto (tgt := 166) hx hb dX6_layAncestors_162 (by decide) ?_
                refine lv_iadd hx hb dX6_layAncestors_166 ?_
                obtain ⟨y167, ey167, h⟩ := swlt_s h
                refine sw_top ey167 ?_
                refine lv_istore_n (lv' := [(3, .int y167), (0, .ref (ad 0)), (1, .int x1), (2, .int (swB x2)), (4, .int v4), (5, .int v5), (6, .int v6)]) hx hb dX6_layAncestors_167 rfl hl (by decide) rfl (fun ls hl => ?_)
                refine lv_iinc (v := (v4 + (-1))) (lv' := [(4, .int ((v4 + (-1)))), (3, .int y167), (0, .ref (ad 0)), (1, .int x1), (2, .int (swB x2)), (5, .int v5), (6, .int v6)]) hx hb dX6_layAncestors_168 hl (k := 4) rfl rfl (by decide) rfl (fun ls hl => ?_)
                refine lv_goto (tgt := 6) hx hb dX6_layAncestors_171 (by decide) ?_
                exact ih6 _ _ _ _ _ _ h hP hS (lv_sub hl [2, 3, 4, 1, 0] rfl)
            · replace h := sw_f h cc
              refine lv_iload hx hb dX6_layAncestors_142 (lv_at hl 5 rfl) ?_
              refine lv_goto (tgt := 154) hx hb dX6_layAncestors_144 (by decide) ?_
              obtain ⟨iu154, h⟩ := swgd_s h
              obtain ⟨u154, eu154, h⟩ := swlt_s h
              refine mw_zst hx hb hK hJ hP hS 26 40 rfl (by decide) rfl rfl (swix_s iu154) eu154 dX6_layAncestors_154 (fun H locs hP hS => ?_)
              refine lv_iload_n hx hb dX6_layAncestors_155 rfl (lv_at hl 3 rfl) ?_
              refine lv_iload hx hb dX6_layAncestors_156 (lv_at hl 5 rfl) ?_
              refine lv_if_eq (tgt := 165) hx hb dX6_layAncestors_158 (by decide) (fun cc => ?_) (fun cc => ?_)
              · replace h := sw_t h cc
                refine lv_iconst (v := 0) hx hb dX6_layAncestors_165 (by decide) ?_
                refine lv_iadd hx hb dX6_layAncestors_166 ?_
                obtain ⟨y167, ey167, h⟩ := swlt_s h
                refine sw_top ey167 ?_
                refine lv_istore_n (lv' := [(3, .int y167), (0, .ref (ad 0)), (1, .int x1), (2, .int (swB x2)), (4, .int v4), (5, .int v5), (6, .int v6)]) hx hb dX6_layAncestors_167 rfl hl (by decide) rfl (fun ls hl => ?_)
                refine lv_iinc (v := (v4 + (-1))) (lv' := [(4, .int ((v4 + (-1)))), (3, .int y167), (0, .ref (ad 0)), (1, .int x1), (2, .int (swB x2)), (5, .int v5), (6, .int v6)]) hx hb dX6_layAncestors_168 hl (k := 4) rfl rfl (by decide) rfl (fun ls hl => ?_)
                refine lv_goto (tgt := 6) hx hb dX6_layAncestors_171 (by decide) ?_
                exact ih6 _ _ _ _ _ _ h hP hS (lv_sub hl [2, 3, 4, 1, 0] rfl)
              · replace h := sw_f h cc
                refine lv_iconst (v := 1) hx hb dX6_layAncestors_161 (by decide) ?_
                refine lv_goto (tgt := 166) hx hb dX6_layAncestors_162 (by decide) ?_
                refine lv_iadd hx hb dX6_layAncestors_166 ?_
                obtain ⟨y167, ey167, h⟩ := swlt_s h
                refine sw_top ey167 ?_
                refine lv_istore_n (lv' := [(3, .int y167), (0, .ref (ad 0)), (1, .int x1), (2, .int (swB x2)), (4, .int v4), (5, .int v5), (6, .int v6)]) hx hb dX6_layAncestors_167 rfl hl (by decide) rfl (fun ls hl => ?_)
                refine lv_iinc (v := (v4 + (-1))) (lv' := [(4, .int ((v4 + (-1)))), (3, .int y167), (0, .ref (ad 0)), (1, .int x1), (2, .int (swB x2)), (5, .int v5), (6, .int v6)]) hx hb dX6_layAncestors_168 hl (k := 4) rfl rfl (by decide) rfl (fun ls hl => ?_)
                refine lv_goto (tgt := 6) hx hb dX6_layAncestors_171 (by decide) ?_
                exact ih6 _ _ _ _ _ _ h hP hS (lv_sub hl [2, 3, 4, 1, 0] rfl)
  refine L6 _ (fun v3 v4 w174 H locs ls h hP hS hl => ?_) 64 _ _ _ _ _ _ h hP hS (lv_sub hl [2, 3, 4, 1, 0] rfl)
  refine lv_iload_n hx hb dX6_layAncestors_174 rfl (lv_at hl 3 rfl) ?_
  exact W.iret hx hb hr (fun t ht hW => ⟨⟨_, (), rfl, (sw_inj h).1, mw_end hP ht (sw_inj h).2⟩, hS.F ht⟩) hS.2.2 dX6_layAncestors_175 hlocks

/-! about -/
def mx_about (u : swU) (x1 : Int32) (x2 : Int32) : Option (Int32 × swU) :=
  swbd (mx_isVersion u x1) fun r3 => if (swB r3) = 0 then (swlt (swI u 0 0 1) fun u27 => some (0, u27)) else (swbd (mx_in x2 0 4) fun r16 => if (swB r16) = 0 then (swlt (swI u 0 0 2) fun u27 => some (0, u27)) else (swlt (swI u 0 0 0) fun u27 => if x2 = 0 then (swrd 40 (u27.1 2) x1 fun a48 => some (a48, u27)) else (if x2 = 1 then (swrd 40 (u27.1 3) x1 fun a62 => some (a62, u27)) else (if x2 = 2 then (swrd 40 (u27.1 4) x1 fun a76 => some (a76, u27)) else (if x2 = 3 then (swrd 40 (u27.1 5) x1 fun a90 => some (a90, u27)) else (swbd (mx_layAncestors u27 x1 false) fun z97 => match z97 with | (r97, u97) => some (r97, u97)))))))

abbrev rmX6_about : Room := { frames := 2, cells := 0, slots := 0, locals := 43 }

set_option maxHeartbeats 4000000 in
set_option maxRecDepth 100000 in
theorem mm_about (l : Launch) (D : va_G) (cy : Nat → ClassId) (ad : Nat → Nat) (hJ : swJ mw_N ad) (u : swU) (x1 : Int32) (x2 : Int32) (r0 : Int32) (u0 : swU) (h : mx_about u x1 x2 = some (r0, u0)) : Met l yX6_about wsX6_about rmX6_about (mwC D cy ad u [.ref (ad 0), .int x1, .int x2]) (mwQi D cy ad r0 u0) 0 0 (mwA ad) := by
  refine Met.ofW (cc := cX6_about) (maxL := 3) (ret := (some .int)) (by decide) rfl ?_
  intro p e s m args below meth c s₁ B hml hv
  obtain ⟨ha, hP, hK⟩ := hv
  have hx := B.exec
  have hb := B.bytes
  have hr := B.returns
  have hlocks := B.notSynchronized
  have hts := atoms_spec (ws := wsX6_about) B.pre
  have hown : s.vm.findClass RX6 = some m.cls := findClass_of_methodNamed B.named
  have E : CallFix p m c cX6_about 3 s args wsX6_about RX6 := ⟨hx, hb, hml, hown, hts⟩
  have hin : ∀ w ∈ wsX60, w ∈ wsX6_about := by decide +kernel
  have f13 : (Cond.fieldLink RX6 13 "SlidewardenModel" "madeOn" "[I").before args s = true := hts _ (by decide +kernel)
  have f17 : (Cond.fieldLink RX6 17 "SlidewardenModel" "came" "[I").before args s = true := hts _ (by decide +kernel)
  have f20 : (Cond.fieldLink RX6 20 "SlidewardenModel" "other" "[I").before args s = true := hts _ (by decide +kernel)
  have f23 : (Cond.fieldLink RX6 23 "SlidewardenModel" "many" "[I").before args s = true := hts _ (by decide +kernel)
  have f78 : (Cond.fieldLink RX6 78 "SlidewardenModel" "thrown" "I").before args s = true := hts _ (by decide +kernel)
  have hS : va_S (mwA ad) s.heap s.heap [] := va_S.rf
  obtain ⟨ls, hl, hent⟩ := sw_entry m (n := 3) ha (Nat.le_of_ble_eq_true rfl)
  rw [hent]
  have hl : lv_has ls 3 [(0, .ref (ad 0)), (1, .int x1), (2, .int x2)] := hl
  unfold mx_about at h
  refine lv_aload_n hx hb dX6_about_0 rfl (lv_at hl 0 rfl) ?_
  refine lv_aload_n hx hb dX6_about_1 rfl (lv_at hl 0 rfl) ?_
  refine lv_iload_n hx hb dX6_about_2 rfl (lv_at hl 1 rfl) ?_
  obtain ⟨r3, er3, h⟩ := swbd_s h
  refine mw_calli (As := [.int x1]) (rest := [.ref (ad 0)]) E (mm_isVersion l D cy ad u x1 _ er3) (cwV 1 hts gX6_about_X6_isVersion rfl rfl rfl (by decide +kernel) ⟨Nat.le_of_ble_eq_true rfl, Nat.le_of_ble_eq_true rfl⟩) hK hP rfl hl.1 rfl (Nat.le_of_ble_eq_true rfl) dX6_about_3 ?_
  refine lv_if_ne (tgt := 13) hx hb dX6_about_6 (by decide) (fun cc => ?_) (fun cc => ?_)
  · replace h := sw_f h cc
    refine lv_iload_n hx hb dX6_about_13 rfl (lv_at hl 2 rfl) ?_
    refine lv_iconst (v := 0) hx hb dX6_about_14 (by decide) ?_
    refine lv_iconst (v := 4) hx hb dX6_about_15 (by decide) ?_
    obtain ⟨r16, er16, h⟩ := swbd_s h
    refine sw_callSi (As := [.int x2, .int 0, .int 4]) (rest := [.ref (ad 0)]) E (mm_in l x2 0 4 _ er16) (va_cwS 3 hts gX6_about_X6_in rfl rfl rfl (by decide +kernel) ⟨Nat.le_of_ble_eq_true rfl, Nat.le_of_ble_eq_true rfl⟩) rfl hl.1 rfl (Nat.le_of_ble_eq_true rfl) dX6_about_16 ?_
    refine lv_if_ne (tgt := 26) hx hb dX6_about_19 (by decide) (fun cc => ?_) (fun cc => ?_)
    · replace h := sw_f h cc
      refine lv_iconst (v := 0) hx hb dX6_about_26 (by decide) ?_
      obtain ⟨u27, eu27, h⟩ := swlt_s h
      refine mw_put hx hb hts hin hown hK hJ hP hS 0 (by decide) rfl f78 eu27 dX6_about_27 (fun H locs hP hS => ?_)
      refine lv_aload_n hx hb dX6_about_30 rfl (lv_at hl 0 rfl) ?_
      refine mw_get hx hb hts hin hown hK hP 0 (by decide) f78 rfl dX6_about_31 ?_
      refine sw_top (x := 0) (by rw [eu27]; rfl) ?_
      refine lv_if_le (tgt := 39) hx hb dX6_about_34 (by decide) (fun cc => ?_) (fun cc => absurd (by decide) cc)
      refine lv_iload_n hx hb dX6_about_39 rfl (lv_at hl 2 rfl) ?_
      refine lv_if_ne (tgt := 52) hx hb dX6_about_40 (by decide) (fun cc => ?_) (fun cc => ?_)
      · replace h := sw_f h cc
        refine lv_iload_n hx hb dX6_about_52 rfl (lv_at hl 2 rfl) ?_
        refine lv_iconst (v := 1) hx hb dX6_about_53 (by decide) ?_
        refine lv_icmp_ne (tgt := 66) hx hb dX6_about_54 (by decide) (fun cc => ?_) (fun cc => ?_)
        · replace h := sw_f h cc
          refine lv_iload_n hx hb dX6_about_66 rfl (lv_at hl 2 rfl) ?_
          refine lv_iconst (v := 2) hx hb dX6_about_67 (by decide) ?_
          refine lv_icmp_ne (tgt := 80) hx hb dX6_about_68 (by decide) (fun cc => ?_) (fun cc => ?_)
          · replace h := sw_f h cc
            refine lv_iload_n hx hb dX6_about_80 rfl (lv_at hl 2 rfl) ?_
            refine lv_iconst (v := 3) hx hb dX6_about_81 (by decide) ?_
            refine lv_icmp_ne (tgt := 94) hx hb dX6_about_82 (by decide) (fun cc => ?_) (fun cc => ?_)
            · replace h := sw_f h cc
              refine lv_aload_n hx hb dX6_about_94 rfl (lv_at hl 0 rfl) ?_
              refine lv_iload_n hx hb dX6_about_95 rfl (lv_at hl 1 rfl) ?_
              refine lv_iconst (v := 0) hx hb dX6_about_96 (by decide) ?_
              obtain ⟨⟨r97, u97⟩, er97, h⟩ := swbd_s h
              refine mw_callWi (As := [.int x1, .int 0]) (rest := []) E (mm_layAncestors l D cy ad hJ u27 x1 false _ _ er97) (cwV 2 hts gX6_about_X6_layAncestors rfl rfl rfl (by decide +kernel) ⟨Nat.le_of_ble_eq_true rfl, Nat.le_of_ble_eq_true rfl⟩) hK hP hS rfl hl.1 rfl (Nat.le_of_ble_eq_true rfl) dX6_about_97 (fun H locs hP hS => ?_)
              exact W.iret hx hb hr (fun t ht hW => ⟨⟨_, (), rfl, (sw_inj h).1, mw_end hP ht (sw_inj h).2⟩, hS.F ht⟩) hS.2.2 dX6_about_100 hlocks
            · replace h := sw_t h cc
              refine lv_aload_n hx hb dX6_about_85 rfl (lv_at hl 0 rfl) ?_
              refine mw_get hx hb hts hin hown hK hP 5 (by decide) f23 rfl dX6_about_86 ?_
              refine lv_iload_n hx hb dX6_about_89 rfl (lv_at hl 1 rfl) ?_
              obtain ⟨a90, ea90, ia90, h⟩ := swrd_s h
              refine mw_ald hx hb hK hP 5 40 rfl rfl ia90 dX6_about_90 ea90 ?_
              refine lv_goto (tgt := 100) hx hb dX6_about_91 (by decide) ?_
              exact W.iret hx hb hr (fun t ht hW => ⟨⟨_, (), rfl, (sw_inj h).1, mw_end hP ht (sw_inj h).2⟩, hS.F ht⟩) hS.2.2 dX6_about_100 hlocks
          · replace h := sw_t h cc
            refine lv_aload_n hx hb dX6_about_71 rfl (lv_at hl 0 rfl) ?_
            refine mw_get hx hb hts hin hown hK hP 4 (by decide) f20 rfl dX6_about_72 ?_
            refine lv_iload_n hx hb dX6_about_75 rfl (lv_at hl 1 rfl) ?_
            obtain ⟨a76, ea76, ia76, h⟩ := swrd_s h
            refine mw_ald hx hb hK hP 4 40 rfl rfl ia76 dX6_about_76 ea76 ?_
            refine lv_goto (tgt := 100) hx hb dX6_about_77 (by decide) ?_
            exact W.iret hx hb hr (fun t ht hW => ⟨⟨_, (), rfl, (sw_inj h).1, mw_end hP ht (sw_inj h).2⟩, hS.F ht⟩) hS.2.2 dX6_about_100 hlocks
        · replace h := sw_t h cc
          refine lv_aload_n hx hb dX6_about_57 rfl (lv_at hl 0 rfl) ?_
          refine mw_get hx hb hts hin hown hK hP 3 (by decide) f17 rfl dX6_about_58 ?_
          refine lv_iload_n hx hb dX6_about_61 rfl (lv_at hl 1 rfl) ?_
          obtain ⟨a62, ea62, ia62, h⟩ := swrd_s h
          refine mw_ald hx hb hK hP 3 40 rfl rfl ia62 dX6_about_62 ea62 ?_
          refine lv_goto (tgt := 100) hx hb dX6_about_63 (by decide) ?_
          exact W.iret hx hb hr (fun t ht hW => ⟨⟨_, (), rfl, (sw_inj h).1, mw_end hP ht (sw_inj h).2⟩, hS.F ht⟩) hS.2.2 dX6_about_100 hlocks
      · replace h := sw_t h cc
        refine lv_aload_n hx hb dX6_about_43 rfl (lv_at hl 0 rfl) ?_
        refine mw_get hx hb hts hin hown hK hP 2 (by decide) f13 rfl dX6_about_44 ?_
        refine lv_iload_n hx hb dX6_about_47 rfl (lv_at hl 1 rfl) ?_
        obtain ⟨a48, ea48, ia48, h⟩ := swrd_s h
        refine mw_ald hx hb hK hP 2 40 rfl rfl ia48 dX6_about_48 ea48 ?_
        refine lv_goto (tgt := 100) hx hb dX6_about_49 (by decide) ?_
        exact W.iret hx hb hr (fun t ht hW => ⟨⟨_, (), rfl, (sw_inj h).1, mw_end hP ht (sw_inj h).2⟩, hS.F ht⟩) hS.2.2 dX6_about_100 hlocks
    · replace h := sw_t h cc
      refine lv_iconst (v := 2) hx hb dX6_about_22 (by decide) ?_
      refine lv_goto (tgt := 27) hx hb dX6_about_23 (by decide) ?_
      obtain ⟨u27, eu27, h⟩ := swlt_s h
      refine mw_put hx hb hts hin hown hK hJ hP hS 0 (by decide) rfl f78 eu27 dX6_about_27 (fun H locs hP hS => ?_)
      refine lv_aload_n hx hb dX6_about_30 rfl (lv_at hl 0 rfl) ?_
      refine mw_get hx hb hts hin hown hK hP 0 (by decide) f78 rfl dX6_about_31 ?_
      refine sw_top (x := 2) (by rw [eu27]; rfl) ?_
      refine lv_if_le (tgt := 39) hx hb dX6_about_34 (by decide) (fun cc => absurd cc (by decide)) (fun cc => ?_)
      refine lv_iconst (v := 0) hx hb dX6_about_37 (by decide) ?_
      exact W.iret hx hb hr (fun t ht hW => ⟨⟨_, (), rfl, (sw_inj h).1, mw_end hP ht (sw_inj h).2⟩, hS.F ht⟩) hS.2.2 dX6_about_38 hlocks
  · replace h := sw_t h cc
    refine lv_iconst (v := 1) hx hb dX6_about_9 (by decide) ?_
    refine lv_goto (tgt := 27) hx hb dX6_about_10 (by decide) ?_
    obtain ⟨u27, eu27, h⟩ := swlt_s h
    refine mw_put hx hb hts hin hown hK hJ hP hS 0 (by decide) rfl f78 eu27 dX6_about_27 (fun H locs hP hS => ?_)
    refine lv_aload_n hx hb dX6_about_30 rfl (lv_at hl 0 rfl) ?_
    refine mw_get hx hb hts hin hown hK hP 0 (by decide) f78 rfl dX6_about_31 ?_
    refine sw_top (x := 1) (by rw [eu27]; rfl) ?_
    refine lv_if_le (tgt := 39) hx hb dX6_about_34 (by decide) (fun cc => absurd cc (by decide)) (fun cc => ?_)
    refine lv_iconst (v := 0) hx hb dX6_about_37 (by decide) ?_
    exact W.iret hx hb hr (fun t ht hW => ⟨⟨_, (), rfl, (sw_inj h).1, mw_end hP ht (sw_inj h).2⟩, hS.F ht⟩) hS.2.2 dX6_about_38 hlocks

/-! value -/
def mx_value (u : swU) (x1 : Int32) (x2 : Int32) (x3 : Int32) : Option (Int32 × swU) :=
  swbd (mx_isVersion u x1) fun r3 => if (swB r3) = 0 then (swlt (swI u 0 0 1) fun u29 => some (0, u29)) else (swbd (mx_isSlide u x2) fun r11 => if (swB r11) = 0 then (swlt (swI u 0 0 1) fun u29 => some (0, u29)) else (swbd (mx_isObject x3) fun r18 => if (swB r18) = 0 then (swlt (swI u 0 0 1) fun u29 => some (0, u29)) else (swlt (swI u 0 0 0) fun u29 => swbd (mx_placeOf u29 x1 x2) fun r44 => if r44 = (-1) then (some ((-1), u29)) else (swbd (mx_valueOf u29 x1 x2 x3) fun r59 => some (r59, u29)))))

abbrev rmX6_value : Room := { frames := 2, cells := 0, slots := 0, locals := 46 }

set_option maxHeartbeats 4000000 in
set_option maxRecDepth 100000 in
theorem mm_value (l : Launch) (D : va_G) (cy : Nat → ClassId) (ad : Nat → Nat) (hJ : swJ mw_N ad) (u : swU) (x1 : Int32) (x2 : Int32) (x3 : Int32) (r0 : Int32) (u0 : swU) (h : mx_value u x1 x2 x3 = some (r0, u0)) : Met l yX6_value wsX6_value rmX6_value (mwC D cy ad u [.ref (ad 0), .int x1, .int x2, .int x3]) (mwQi D cy ad r0 u0) 0 0 (mwA ad) := by
  refine Met.ofW (cc := cX6_value) (maxL := 4) (ret := (some .int)) (by decide) rfl ?_
  intro p e s m args below meth c s₁ B hml hv
  obtain ⟨ha, hP, hK⟩ := hv
  have hx := B.exec
  have hb := B.bytes
  have hr := B.returns
  have hlocks := B.notSynchronized
  have hts := atoms_spec (ws := wsX6_value) B.pre
  have hown : s.vm.findClass RX6 = some m.cls := findClass_of_methodNamed B.named
  have E : CallFix p m c cX6_value 4 s args wsX6_value RX6 := ⟨hx, hb, hml, hown, hts⟩
  have hin : ∀ w ∈ wsX60, w ∈ wsX6_value := by decide +kernel
  have f78 : (Cond.fieldLink RX6 78 "SlidewardenModel" "thrown" "I").before args s = true := hts _ (by decide +kernel)
  have hS : va_S (mwA ad) s.heap s.heap [] := va_S.rf
  obtain ⟨ls, hl, hent⟩ := sw_entry m (n := 4) ha (Nat.le_of_ble_eq_true rfl)
  rw [hent]
  have hl : lv_has ls 4 [(0, .ref (ad 0)), (1, .int x1), (2, .int x2), (3, .int x3)] := hl
  unfold mx_value at h
  refine lv_aload_n hx hb dX6_value_0 rfl (lv_at hl 0 rfl) ?_
  refine lv_aload_n hx hb dX6_value_1 rfl (lv_at hl 0 rfl) ?_
  refine lv_iload_n hx hb dX6_value_2 rfl (lv_at hl 1 rfl) ?_
  obtain ⟨r3, er3, h⟩ := swbd_s h
  refine mw_calli (As := [.int x1]) (rest := [.ref (ad 0)]) E (mm_isVersion l D cy ad u x1 _ er3) (cwV 1 hts gX6_value_X6_isVersion rfl rfl rfl (by decide +kernel) ⟨Nat.le_of_ble_eq_true rfl, Nat.le_of_ble_eq_true rfl⟩) hK hP rfl hl.1 rfl (Nat.le_of_ble_eq_true rfl) dX6_value_3 ?_
  refine lv_if_eq (tgt := 28) hx hb dX6_value_6 (by decide) (fun cc => ?_) (fun cc => ?_)
  · replace h := sw_t h cc
    refine lv_iconst (v := 1) hx hb dX6_value_28 (by decide) ?_
    obtain ⟨u29, eu29, h⟩ := swlt_s h
    refine mw_put hx hb hts hin hown hK hJ hP hS 0 (by decide) rfl f78 eu29 dX6_value_29 (fun H locs hP hS => ?_)
    refine lv_aload_n hx hb dX6_value_32 rfl (lv_at hl 0 rfl) ?_
    refine mw_get hx hb hts hin hown hK hP 0 (by decide) f78 rfl dX6_value_33 ?_
    refine sw_top (x := 1) (by rw [eu29]; rfl) ?_
    refine lv_if_le (tgt := 41) hx hb dX6_value_36 (by decide) (fun cc => absurd cc (by decide)) (fun cc => ?_)
    refine lv_iconst (v := 0) hx hb dX6_value_39 (by decide) ?_
    exact W.iret hx hb hr (fun t ht hW => ⟨⟨_, (), rfl, (sw_inj h).1, mw_end hP ht (sw_inj h).2⟩, hS.F ht⟩) hS.2.2 dX6_value_40 hlocks
  · replace h := sw_f h cc
    refine lv_aload_n hx hb dX6_value_9 rfl (lv_at hl 0 rfl) ?_
    refine lv_iload_n hx hb dX6_value_10 rfl (lv_at hl 2 rfl) ?_
    obtain ⟨r11, er11, h⟩ := swbd_s h
    refine mw_calli (As := [.int x2]) (rest := [.ref (ad 0)]) E (mm_isSlide l D cy ad u x2 _ er11) (cwV 1 hts gX6_value_X6_isSlide rfl rfl rfl (by decide +kernel) ⟨Nat.le_of_ble_eq_true rfl, Nat.le_of_ble_eq_true rfl⟩) hK hP rfl hl.1 rfl (Nat.le_of_ble_eq_true rfl) dX6_value_11 ?_
    refine lv_if_eq (tgt := 28) hx hb dX6_value_14 (by decide) (fun cc => ?_) (fun cc => ?_)
    · replace h := sw_t h cc
      refine lv_iconst (v := 1) hx hb dX6_value_28 (by decide) ?_
      obtain ⟨u29, eu29, h⟩ := swlt_s h
      refine mw_put hx hb hts hin hown hK hJ hP hS 0 (by decide) rfl f78 eu29 dX6_value_29 (fun H locs hP hS => ?_)
      refine lv_aload_n hx hb dX6_value_32 rfl (lv_at hl 0 rfl) ?_
      refine mw_get hx hb hts hin hown hK hP 0 (by decide) f78 rfl dX6_value_33 ?_
      refine sw_top (x := 1) (by rw [eu29]; rfl) ?_
      refine lv_if_le (tgt := 41) hx hb dX6_value_36 (by decide) (fun cc => absurd cc (by decide)) (fun cc => ?_)
      refine lv_iconst (v := 0) hx hb dX6_value_39 (by decide) ?_
      exact W.iret hx hb hr (fun t ht hW => ⟨⟨_, (), rfl, (sw_inj h).1, mw_end hP ht (sw_inj h).2⟩, hS.F ht⟩) hS.2.2 dX6_value_40 hlocks
    · replace h := sw_f h cc
      refine lv_iload_n hx hb dX6_value_17 rfl (lv_at hl 3 rfl) ?_
      obtain ⟨r18, er18, h⟩ := swbd_s h
      refine sw_callSi (As := [.int x3]) (rest := [.ref (ad 0)]) E (mm_isObject l x3 _ er18) (va_cwS 1 hts gX6_value_X6_isObject rfl rfl rfl (by decide +kernel) ⟨Nat.le_of_ble_eq_true rfl, Nat.le_of_ble_eq_true rfl⟩) rfl hl.1 rfl (Nat.le_of_ble_eq_true rfl) dX6_value_18 ?_
      refine lv_if_eq (tgt := 28) hx hb dX6_value_21 (by decide) (fun cc => ?_) (fun cc => ?_)
      · replace h := sw_t h cc
        refine lv_iconst (v := 1) hx hb dX6_value_28 (by decide) ?_
        obtain ⟨u29, eu29, h⟩ := swlt_s h
        refine mw_put hx hb hts hin hown hK hJ hP hS 0 (by decide) rfl f78 eu29 dX6_value_29 (fun H locs hP hS => ?_)
        refine lv_aload_n hx hb dX6_value_32 rfl (lv_at hl 0 rfl) ?_
        refine mw_get hx hb hts hin hown hK hP 0 (by decide) f78 rfl dX6_value_33 ?_
        refine sw_top (x := 1) (by rw [eu29]; rfl) ?_
        refine lv_if_le (tgt := 41) hx hb dX6_value_36 (by decide) (fun cc => absurd cc (by decide)) (fun cc => ?_)
        refine lv_iconst (v := 0) hx hb dX6_value_39 (by decide) ?_
        exact W.iret hx hb hr (fun t ht hW => ⟨⟨_, (), rfl, (sw_inj h).1, mw_end hP ht (sw_inj h).2⟩, hS.F ht⟩) hS.2.2 dX6_value_40 hlocks
      · replace h := sw_f h cc
        refine lv_iconst (v := 0) hx hb dX6_value_24 (by decide) ?_
        refine lv_goto (tgt := 29) hx hb dX6_value_25 (by decide) ?_
        obtain ⟨u29, eu29, h⟩ := swlt_s h
        refine mw_put hx hb hts hin hown hK hJ hP hS 0 (by decide) rfl f78 eu29 dX6_value_29 (fun H locs hP hS => ?_)
        refine lv_aload_n hx hb dX6_value_32 rfl (lv_at hl 0 rfl) ?_
        refine mw_get hx hb hts hin hown hK hP 0 (by decide) f78 rfl dX6_value_33 ?_
        refine sw_top (x := 0) (by rw [eu29]; rfl) ?_
        refine lv_if_le (tgt := 41) hx hb dX6_value_36 (by decide) (fun cc => ?_) (fun cc => absurd (by decide) cc)
        refine lv_aload_n hx hb dX6_value_41 rfl (lv_at hl 0 rfl) ?_
        refine lv_iload_n hx hb dX6_value_42 rfl (lv_at hl 1 rfl) ?_
        refine lv_iload_n hx hb dX6_value_43 rfl (lv_at hl 2 rfl) ?_
        obtain ⟨r44, er44, h⟩ := swbd_s h
        refine mw_calli (As := [.int x1, .int x2]) (rest := []) E (mm_placeOf l D cy ad u29 x1 x2 _ er44) (cwV 2 hts gX6_value_X6_placeOf rfl rfl rfl (by decide +kernel) ⟨Nat.le_of_ble_eq_true rfl, Nat.le_of_ble_eq_true rfl⟩) hK hP rfl hl.1 rfl (Nat.le_of_ble_eq_true rfl) dX6_value_44 ?_
        refine lv_iconst (v := (-1)) hx hb dX6_value_47 (by decide) ?_
        refine lv_icmp_ne (tgt := 55) hx hb dX6_value_48 (by decide) (fun cc => ?_) (fun cc => ?_)
        · replace h := sw_f h cc
          refine lv_aload_n hx hb dX6_value_55 rfl (lv_at hl 0 rfl) ?_
          refine lv_iload_n hx hb dX6_value_56 rfl (lv_at hl 1 rfl) ?_
          refine lv_iload_n hx hb dX6_value_57 rfl (lv_at hl 2 rfl) ?_
          refine lv_iload_n hx hb dX6_value_58 rfl (lv_at hl 3 rfl) ?_
          obtain ⟨r59, er59, h⟩ := swbd_s h
          refine mw_calli (As := [.int x1, .int x2, .int x3]) (rest := []) E (mm_valueOf l D cy ad u29 x1 x2 x3 _ er59) (cwV 3 hts gX6_value_X6_valueOf rfl rfl rfl (by decide +kernel) ⟨Nat.le_of_ble_eq_true rfl, Nat.le_of_ble_eq_true rfl⟩) hK hP rfl hl.1 rfl (Nat.le_of_ble_eq_true rfl) dX6_value_59 ?_
          exact W.iret hx hb hr (fun t ht hW => ⟨⟨_, (), rfl, (sw_inj h).1, mw_end hP ht (sw_inj h).2⟩, hS.F ht⟩) hS.2.2 dX6_value_62 hlocks
        · replace h := sw_t h cc
          refine lv_iconst (v := (-1)) hx hb dX6_value_51 (by decide) ?_
          refine lv_goto (tgt := 62) hx hb dX6_value_52 (by decide) ?_
          exact W.iret hx hb hr (fun t ht hW => ⟨⟨_, (), rfl, (sw_inj h).1, mw_end hP ht (sw_inj h).2⟩, hS.F ht⟩) hS.2.2 dX6_value_62 hlocks

/-! slideAt -/
def mx_slideAt (u : swU) (x1 : Int32) (x2 : Int32) : Option (Int32 × swU) :=
  swbd (mx_isVersion u x1) fun r3 => if (swB r3) = 0 then (swlt (swI u 0 0 1) fun u18 => some (0, u18)) else (if x2 < 0 then (swlt (swI u 0 0 1) fun u18 => some (0, u18)) else (swlt (swI u 0 0 0) fun u18 => swrd 40 (u18.1 5) x1 fun a36 => if a36 ≤ x2 then (some ((-1), u18)) else (swrd 320 (u18.1 6) (((8 * x1) + x2)) fun a50 => some (a50, u18))))

abbrev rmX6_slideAt : Room := { frames := 2, cells := 0, slots := 0, locals := 43 }

set_option maxHeartbeats 4000000 in
set_option maxRecDepth 100000 in
theorem mm_slideAt (l : Launch) (D : va_G) (cy : Nat → ClassId) (ad : Nat → Nat) (hJ : swJ mw_N ad) (u : swU) (x1 : Int32) (x2 : Int32) (r0 : Int32) (u0 : swU) (h : mx_slideAt u x1 x2 = some (r0, u0)) : Met l yX6_slideAt wsX6_slideAt rmX6_slideAt (mwC D cy ad u [.ref (ad 0), .int x1, .int x2]) (mwQi D cy ad r0 u0) 0 0 (mwA ad) := by
  refine Met.ofW (cc := cX6_slideAt) (maxL := 3) (ret := (some .int)) (by decide) rfl ?_
  intro p e s m args below meth c s₁ B hml hv
  obtain ⟨ha, hP, hK⟩ := hv
  have hx := B.exec
  have hb := B.bytes
  have hr := B.returns
  have hlocks := B.notSynchronized
  have hts := atoms_spec (ws := wsX6_slideAt) B.pre
  have hown : s.vm.findClass RX6 = some m.cls := findClass_of_methodNamed B.named
  have E : CallFix p m c cX6_slideAt 3 s args wsX6_slideAt RX6 := ⟨hx, hb, hml, hown, hts⟩
  have hin : ∀ w ∈ wsX60, w ∈ wsX6_slideAt := by decide +kernel
  have f23 : (Cond.fieldLink RX6 23 "SlidewardenModel" "many" "[I").before args s = true := hts _ (by decide +kernel)
  have f26 : (Cond.fieldLink RX6 26 "SlidewardenModel" "row" "[I").before args s = true := hts _ (by decide +kernel)
  have f78 : (Cond.fieldLink RX6 78 "SlidewardenModel" "thrown" "I").before args s = true := hts _ (by decide +kernel)
  have hS : va_S (mwA ad) s.heap s.heap [] := va_S.rf
  obtain ⟨ls, hl, hent⟩ := sw_entry m (n := 3) ha (Nat.le_of_ble_eq_true rfl)
  rw [hent]
  have hl : lv_has ls 3 [(0, .ref (ad 0)), (1, .int x1), (2, .int x2)] := hl
  unfold mx_slideAt at h
  refine lv_aload_n hx hb dX6_slideAt_0 rfl (lv_at hl 0 rfl) ?_
  refine lv_aload_n hx hb dX6_slideAt_1 rfl (lv_at hl 0 rfl) ?_
  refine lv_iload_n hx hb dX6_slideAt_2 rfl (lv_at hl 1 rfl) ?_
  obtain ⟨r3, er3, h⟩ := swbd_s h
  refine mw_calli (As := [.int x1]) (rest := [.ref (ad 0)]) E (mm_isVersion l D cy ad u x1 _ er3) (cwV 1 hts gX6_slideAt_X6_isVersion rfl rfl rfl (by decide +kernel) ⟨Nat.le_of_ble_eq_true rfl, Nat.le_of_ble_eq_true rfl⟩) hK hP rfl hl.1 rfl (Nat.le_of_ble_eq_true rfl) dX6_slideAt_3 ?_
  refine lv_if_eq (tgt := 17) hx hb dX6_slideAt_6 (by decide) (fun cc => ?_) (fun cc => ?_)
  · replace h := sw_t h cc
    refine lv_iconst (v := 1) hx hb dX6_slideAt_17 (by decide) ?_
    obtain ⟨u18, eu18, h⟩ := swlt_s h
    refine mw_put hx hb hts hin hown hK hJ hP hS 0 (by decide) rfl f78 eu18 dX6_slideAt_18 (fun H locs hP hS => ?_)
    refine lv_aload_n hx hb dX6_slideAt_21 rfl (lv_at hl 0 rfl) ?_
    refine mw_get hx hb hts hin hown hK hP 0 (by decide) f78 rfl dX6_slideAt_22 ?_
    refine sw_top (x := 1) (by rw [eu18]; rfl) ?_
    refine lv_if_le (tgt := 30) hx hb dX6_slideAt_25 (by decide) (fun cc => absurd cc (by decide)) (fun cc => ?_)
    refine lv_iconst (v := 0) hx hb dX6_slideAt_28 (by decide) ?_
    exact W.iret hx hb hr (fun t ht hW => ⟨⟨_, (), rfl, (sw_inj h).1, mw_end hP ht (sw_inj h).2⟩, hS.F ht⟩) hS.2.2 dX6_slideAt_29 hlocks
  · replace h := sw_f h cc
    refine lv_iload_n hx hb dX6_slideAt_9 rfl (lv_at hl 2 rfl) ?_
    refine lv_if_lt (tgt := 17) hx hb dX6_slideAt_10 (by decide) (fun cc => ?_) (fun cc => ?_)
    · replace h := sw_t h cc
      refine lv_iconst (v := 1) hx hb dX6_slideAt_17 (by decide) ?_
      obtain ⟨u18, eu18, h⟩ := swlt_s h
      refine mw_put hx hb hts hin hown hK hJ hP hS 0 (by decide) rfl f78 eu18 dX6_slideAt_18 (fun H locs hP hS => ?_)
      refine lv_aload_n hx hb dX6_slideAt_21 rfl (lv_at hl 0 rfl) ?_
      refine mw_get hx hb hts hin hown hK hP 0 (by decide) f78 rfl dX6_slideAt_22 ?_
      refine sw_top (x := 1) (by rw [eu18]; rfl) ?_
      refine lv_if_le (tgt := 30) hx hb dX6_slideAt_25 (by decide) (fun cc => absurd cc (by decide)) (fun cc => ?_)
      refine lv_iconst (v := 0) hx hb dX6_slideAt_28 (by decide) ?_
      exact W.iret hx hb hr (fun t ht hW => ⟨⟨_, (), rfl, (sw_inj h).1, mw_end hP ht (sw_inj h).2⟩, hS.F ht⟩) hS.2.2 dX6_slideAt_29 hlocks
    · replace h := sw_f h cc
      refine lv_iconst (v := 0) hx hb dX6_slideAt_13 (by decide) ?_
      refine lv_goto (tgt := 18) hx hb dX6_slideAt_14 (by decide) ?_
      obtain ⟨u18, eu18, h⟩ := swlt_s h
      refine mw_put hx hb hts hin hown hK hJ hP hS 0 (by decide) rfl f78 eu18 dX6_slideAt_18 (fun H locs hP hS => ?_)
      refine lv_aload_n hx hb dX6_slideAt_21 rfl (lv_at hl 0 rfl) ?_
      refine mw_get hx hb hts hin hown hK hP 0 (by decide) f78 rfl dX6_slideAt_22 ?_
      refine sw_top (x := 0) (by rw [eu18]; rfl) ?_
      refine lv_if_le (tgt := 30) hx hb dX6_slideAt_25 (by decide) (fun cc => ?_) (fun cc => absurd (by decide) cc)
      refine lv_iload_n hx hb dX6_slideAt_30 rfl (lv_at hl 2 rfl) ?_
      refine lv_aload_n hx hb dX6_slideAt_31 rfl (lv_at hl 0 rfl) ?_
      refine mw_get hx hb hts hin hown hK hP 5 (by decide) f23 rfl dX6_slideAt_32 ?_
      refine lv_iload_n hx hb dX6_slideAt_35 rfl (lv_at hl 1 rfl) ?_
      obtain ⟨a36, ea36, ia36, h⟩ := swrd_s h
      refine mw_ald hx hb hK hP 5 40 rfl rfl ia36 dX6_slideAt_36 ea36 ?_
      refine lv_icmp_ge (tgt := 54) hx hb dX6_slideAt_37 (by decide) (fun cc => ?_) (fun cc => ?_)
      · replace h := sw_t h cc
        refine lv_iconst (v := (-1)) hx hb dX6_slideAt_54 (by decide) ?_
        exact W.iret hx hb hr (fun t ht hW => ⟨⟨_, (), rfl, (sw_inj h).1, mw_end hP ht (sw_inj h).2⟩, hS.F ht⟩) hS.2.2 dX6_slideAt_55 hlocks
      · replace h := sw_f h cc
        refine lv_aload_n hx hb dX6_slideAt_40 rfl (lv_at hl 0 rfl) ?_
        refine mw_get hx hb hts hin hown hK hP 6 (by decide) f26 rfl dX6_slideAt_41 ?_
        refine lv_bipush (v := 8) hx hb dX6_slideAt_44 (by decide) ?_
        refine lv_iload_n hx hb dX6_slideAt_46 rfl (lv_at hl 1 rfl) ?_
        refine lv_imul hx hb dX6_slideAt_47 ?_
        refine lv_iload_n hx hb dX6_slideAt_48 rfl (lv_at hl 2 rfl) ?_
        refine lv_iadd hx hb dX6_slideAt_49 ?_
        obtain ⟨a50, ea50, ia50, h⟩ := swrd_s h
        refine mw_ald hx hb hK hP 6 320 rfl rfl ia50 dX6_slideAt_50 ea50 ?_
        refine lv_goto (tgt := 55) hx hb dX6_slideAt_51 (by decide) ?_
        exact W.iret hx hb hr (fun t ht hW => ⟨⟨_, (), rfl, (sw_inj h).1, mw_end hP ht (sw_inj h).2⟩, hS.F ht⟩) hS.2.2 dX6_slideAt_55 hlocks

/-! baseOf -/
def mx_baseOf_L38 (u19 : swU) (kk : Int32 → Int32 → Option (Int32 × swU)) : Nat → Int32 → Int32 → Option (Int32 × swU)
  | 0, _, _ => none
  | n + 1, v4, v5 => if (u19.1 0 1) ≤ v5 then (kk v4 v5) else (swrd 40 (u19.1 25) v5 fun a53 => if a53 = 0 then (mx_baseOf_L38 u19 kk n v4 (v5 + 1)) else (swrd 40 (u19.1 26) v5 fun a63 => if a63 = 0 then (mx_baseOf_L38 u19 kk n v4 (v5 + 1)) else (mx_baseOf_L38 u19 kk n v5 (v5 + 1))))

def mx_baseOf (u : swU) (x1 : Int32) (x2 : Int32) : Option (Int32 × swU) :=
  swrd 6 (u.1 10) x1 fun a6 => swbd (mx_layAncestors u a6 false) fun z8 => match z8 with | (r8, u8) => swrd 6 (u8.1 10) x2 fun a17 => swbd (mx_layAncestors u8 a17 true) fun z19 => match z19 with | (r19, u19) => swlt (r8 + r19) fun y23 => if y23 ≤ 0 then (mx_baseOf_L38 u19 (fun v4 v5 => some (v4, u19)) 64 (-1) 0) else (mx_baseOf_L38 u19 (fun v4 v5 => some (v4, u19)) 64 0 0)

abbrev rmX6_baseOf : Room := { frames := 1, cells := 0, slots := 0, locals := 27 }

set_option maxHeartbeats 4000000 in
set_option maxRecDepth 100000 in
theorem mm_baseOf (l : Launch) (D : va_G) (cy : Nat → ClassId) (ad : Nat → Nat) (hJ : swJ mw_N ad) (u : swU) (x1 : Int32) (x2 : Int32) (r0 : Int32) (u0 : swU) (h : mx_baseOf u x1 x2 = some (r0, u0)) : Met l yX6_baseOf wsX6_baseOf rmX6_baseOf (mwC D cy ad u [.ref (ad 0), .int x1, .int x2]) (mwQi D cy ad r0 u0) 0 0 (mwA ad) := by
  refine Met.ofW (cc := cX6_baseOf) (maxL := 6) (ret := (some .int)) (by decide) rfl ?_
  intro p e s m args below meth c s₁ B hml hv
  obtain ⟨ha, hP, hK⟩ := hv
  have hx := B.exec
  have hb := B.bytes
  have hr := B.returns
  have hlocks := B.notSynchronized
  have hts := atoms_spec (ws := wsX6_baseOf) B.pre
  have hown : s.vm.findClass RX6 = some m.cls := findClass_of_methodNamed B.named
  have E : CallFix p m c cX6_baseOf 6 s args wsX6_baseOf RX6 := ⟨hx, hb, hml, hown, hts⟩
  have hin : ∀ w ∈ wsX60, w ∈ wsX6_baseOf := by decide +kernel
  have f35 : (Cond.fieldLink RX6 35 "SlidewardenModel" "head" "[I").before args s = true := hts _ (by decide +kernel)
  have f68 : (Cond.fieldLink RX6 68 "SlidewardenModel" "isOf" "[Z").before args s = true := hts _ (by decide +kernel)
  have f7 : (Cond.fieldLink RX6 7 "SlidewardenModel" "versions" "I").before args s = true := hts _ (by decide +kernel)
  have f72 : (Cond.fieldLink RX6 72 "SlidewardenModel" "isOfOther" "[Z").before args s = true := hts _ (by decide +kernel)
  have hS : va_S (mwA ad) s.heap s.heap [] := va_S.rf
  obtain ⟨ls, hl, hent⟩ := sw_entry m (n := 6) ha (Nat.le_of_ble_eq_true rfl)
  rw [hent]
  have hl : lv_has ls 6 [(0, .ref (ad 0)), (1, .int x1), (2, .int x2)] := hl
  unfold mx_baseOf at h
  refine lv_aload_n hx hb dX6_baseOf_0 rfl (lv_at hl 0 rfl) ?_
  refine lv_aload_n hx hb dX6_baseOf_1 rfl (lv_at hl 0 rfl) ?_
  refine mw_get hx hb hts hin hown hK hP 10 (by decide) f35 rfl dX6_baseOf_2 ?_
  refine lv_iload_n hx hb dX6_baseOf_5 rfl (lv_at hl 1 rfl) ?_
  obtain ⟨a6, ea6, ia6, h⟩ := swrd_s h
  refine mw_ald hx hb hK hP 10 6 rfl rfl ia6 dX6_baseOf_6 ea6 ?_
  refine lv_iconst (v := 0) hx hb dX6_baseOf_7 (by decide) ?_
  obtain ⟨⟨r8, u8⟩, er8, h⟩ := swbd_s h
  refine mw_callWi (As := [.int a6, .int 0]) (rest := []) E (mm_layAncestors l D cy ad hJ u a6 false _ _ er8) (cwV 2 hts gX6_baseOf_X6_layAncestors rfl rfl rfl (by decide +kernel) ⟨Nat.le_of_ble_eq_true rfl, Nat.le_of_ble_eq_true rfl⟩) hK hP hS rfl hl.1 rfl (Nat.le_of_ble_eq_true rfl) dX6_baseOf_8 (fun H locs hP hS => ?_)
  refine lv_aload_n hx hb dX6_baseOf_11 rfl (lv_at hl 0 rfl) ?_
  refine lv_aload_n hx hb dX6_baseOf_12 rfl (lv_at hl 0 rfl) ?_
  refine mw_get hx hb hts hin hown hK hP 10 (by decide) f35 rfl dX6_baseOf_13 ?_
  refine lv_iload_n hx hb dX6_baseOf_16 rfl (lv_at hl 2 rfl) ?_
  obtain ⟨a17, ea17, ia17, h⟩ := swrd_s h
  refine mw_ald hx hb hK hP 10 6 rfl rfl ia17 dX6_baseOf_17 ea17 ?_
  refine lv_iconst (v := 1) hx hb dX6_baseOf_18 (by decide) ?_
  obtain ⟨⟨r19, u19⟩, er19, h⟩ := swbd_s h
  refine mw_callWi (As := [.int a17, .int 1]) (rest := [.int r8]) E (mm_layAncestors l D cy ad hJ u8 a17 true _ _ er19) (cwV 2 hts gX6_baseOf_X6_layAncestors rfl rfl rfl (by decide +kernel) ⟨Nat.le_of_ble_eq_true rfl, Nat.le_of_ble_eq_true rfl⟩) hK hP hS rfl hl.1 rfl (Nat.le_of_ble_eq_true rfl) dX6_baseOf_19 (fun H locs hP hS => ?_)
  refine lv_iadd hx hb dX6_baseOf_22 ?_
  obtain ⟨y23, ey23, h⟩ := swlt_s h
  refine sw_top ey23 ?_
  refine lv_istore_n (lv' := [(3, .int y23), (0, .ref (ad 0)), (1, .int x1), (2, .int x2)]) hx hb dX6_baseOf_23 rfl hl (by decide) rfl (fun ls hl => ?_)
  refine lv_iload_n hx hb dX6_baseOf_24 rfl (lv_at hl 0 rfl) ?_
  refine lv_if_le (tgt := 32) hx hb dX6_baseOf_25 (by decide) (fun cc => ?_) (fun cc => ?_)
  · replace h := sw_t h cc
    refine lv_iconst (v := (-1)) hx hb dX6_baseOf_32 (by decide) ?_
    refine lv_istore (lv' := [(4, .int (-1)), (3, .int y23), (0, .ref (ad 0)), (1, .int x1), (2, .int x2)]) hx hb dX6_baseOf_33 hl (by decide) rfl (fun ls hl => ?_)
    refine lv_iconst (v := 0) hx hb dX6_baseOf_35 (by decide) ?_
    refine lv_istore (lv' := [(5, .int 0), (4, .int (-1)), (3, .int y23), (0, .ref (ad 0)), (1, .int x1), (2, .int x2)]) hx hb dX6_baseOf_36 hl (by decide) rfl (fun ls hl => ?_)
    have L38 : ∀ (kk : Int32 → Int32 → Option (Int32 × swU)), (∀ (v4 : Int32) (v5 : Int32) (H : Heap) (locs : List Loc) (ls : Array Slot), kk v4 v5 = some (r0, u0) → mwP D cy ad u19 H → va_S (mwA ad) s.heap H locs → lv_has ls 6 [(0, .ref (ad 0)), (1, .int x1), (2, .int x2), (3, .int y23), (4, .int v4), (5, .int v5)] → W p l e (headSpec wsX6_baseOf rmX6_baseOf).room s m args below meth c H locs 0 0 (MQ below (mwQi D cy ad r0 u0) args s 0 0 (mwA ad)) (F0 m 82 ls [])) → ∀ (n : Nat) (v4 : Int32) (v5 : Int32) (H : Heap) (locs : List Loc) (ls : Array Slot), mx_baseOf_L38 u19 kk n v4 v5 = some (r0, u0) → mwP D cy ad u19 H → va_S (mwA ad) s.heap H locs → lv_has ls 6 [(0, .ref (ad 0)), (1, .int x1), (2, .int x2), (3, .int y23), (4, .int v4), (5, .int v5)] → W p l e (headSpec wsX6_baseOf rmX6_baseOf).room s m args below meth c H locs 0 0 (MQ below (mwQi D cy ad r0 u0) args s 0 0 (mwA ad)) (F0 m 38 ls []) := by
      intro kk hk38 n
      induction n with
      | zero => intro v4 v5 H locs ls h hP hS hl; rw [mx_baseOf_L38] at h; cases h
      | succ n ih38 =>
        intro v4 v5 H locs ls h hP hS hl
        rw [mx_baseOf_L38] at h
        refine lv_iload hx hb dX6_baseOf_38 (lv_at hl 5 rfl) ?_
        refine lv_aload_n hx hb dX6_baseOf_40 rfl (lv_at hl 0 rfl) ?_
        refine mw_get hx hb hts hin hown hK hP 1 (by decide) f7 rfl dX6_baseOf_41 ?_
        refine lv_icmp_ge (tgt := 82) hx hb dX6_baseOf_44 (by decide) (fun cc => ?_) (fun cc => ?_)
        · replace h := sw_t h cc
          exact hk38 _ _ _ _ _ h hP hS (lv_sub hl [0, 1, 2, 3, 4, 5] rfl)
        · replace h := sw_f h cc
          refine lv_aload_n hx hb dX6_baseOf_47 rfl (lv_at hl 0 rfl) ?_
          refine mw_get hx hb hts hin hown hK hP 25 (by decide) f68 rfl dX6_baseOf_48 ?_
          refine lv_iload hx hb dX6_baseOf_51 (lv_at hl 5 rfl) ?_
          obtain ⟨a53, ea53, ia53, h⟩ := swrd_s h
          refine mw_zld hx hb hK hP 25 40 rfl rfl ia53 dX6_baseOf_53 ea53 ?_
          refine lv_if_eq (tgt := 72) hx hb dX6_baseOf_54 (by decide) (fun cc => ?_) (fun cc => ?_)
          · replace h := sw_t h cc
            refine lv_iload hx hb dX6_baseOf_72 (lv_at hl 4 rfl) ?_
            refine lv_istore (lv' := [(4, .int v4), (0, .ref (ad 0)), (1, .int x1), (2, .int x2), (3, .int y23), (5, .int v5)]) hx hb dX6_baseOf_74 hl (by decide) rfl (fun ls hl => ?_)
            refine lv_iinc (v := (v5 + 1)) (lv' := [(5, .int (v5 + 1)), (4, .int v4), (0, .ref (ad 0)), (1, .int x1), (2, .int x2), (3, .int y23)]) hx hb dX6_baseOf_76 hl (k := 5) rfl rfl (by decide) rfl (fun ls hl => ?_)
            refine lv_goto (tgt := 38) hx hb dX6_baseOf_79 (by decide) ?_
            exact ih38 _ _ _ _ _ h hP hS (lv_sub hl [2, 3, 4, 5, 1, 0] rfl)
          · replace h := sw_f h cc
            refine lv_aload_n hx hb dX6_baseOf_57 rfl (lv_at hl 0 rfl) ?_
            refine mw_get hx hb hts hin hown hK hP 26 (by decide) f72 rfl dX6_baseOf_58 ?_
            refine lv_iload hx hb dX6_baseOf_61 (lv_at hl 5 rfl) ?_
            obtain ⟨a63, ea63, ia63, h⟩ := swrd_s h
            refine mw_zld hx hb hK hP 26 40 rfl rfl ia63 dX6_baseOf_63 ea63 ?_
            refine lv_if_eq (tgt := 72) hx hb dX6_baseOf_64 (by decide) (fun cc => ?_) (fun cc => ?_)
            · replace h := sw_t h cc
              refine lv_iload hx hb dX6_baseOf_72 (lv_at hl 4 rfl) ?_
              refine lv_istore (lv' := [(4, .int v4), (0, .ref (ad 0)), (1, .int x1), (2, .int x2), (3, .int y23), (5, .int v5)]) hx hb dX6_baseOf_74 hl (by decide) rfl (fun ls hl => ?_)
              refine lv_iinc (v := (v5 + 1)) (lv' := [(5, .int (v5 + 1)), (4, .int v4), (0, .ref (ad 0)), (1, .int x1), (2, .int x2), (3, .int y23)]) hx hb dX6_baseOf_76 hl (k := 5) rfl rfl (by decide) rfl (fun ls hl => ?_)
              refine lv_goto (tgt := 38) hx hb dX6_baseOf_79 (by decide) ?_
              exact ih38 _ _ _ _ _ h hP hS (lv_sub hl [2, 3, 4, 5, 1, 0] rfl)
            · replace h := sw_f h cc
              refine lv_iload hx hb dX6_baseOf_67 (lv_at hl 5 rfl) ?_
              refine lv_goto (tgt := 74) hx hb dX6_baseOf_69 (by decide) ?_
              refine lv_istore (lv' := [(4, .int v5), (0, .ref (ad 0)), (1, .int x1), (2, .int x2), (3, .int y23), (5, .int v5)]) hx hb dX6_baseOf_74 hl (by decide) rfl (fun ls hl => ?_)
              refine lv_iinc (v := (v5 + 1)) (lv' := [(5, .int (v5 + 1)), (4, .int v5), (0, .ref (ad 0)), (1, .int x1), (2, .int x2), (3, .int y23)]) hx hb dX6_baseOf_76 hl (k := 5) rfl rfl (by decide) rfl (fun ls hl => ?_)
              refine lv_goto (tgt := 38) hx hb dX6_baseOf_79 (by decide) ?_
              exact ih38 _ _ _ _ _ h hP hS (lv_sub hl [2, 3, 4, 5, 1, 0] rfl)
    refine L38 _ (fun v4 v5 H locs ls h hP hS hl => ?_) 64 _ _ _ _ _ h hP hS (lv_sub hl [3, 4, 5, 2, 1, 0] rfl)
    refine lv_iload hx hb dX6_baseOf_82 (lv_at hl 4 rfl) ?_
    exact W.iret hx hb hr (fun t ht hW => ⟨⟨_, (), rfl, (sw_inj h).1, mw_end hP ht (sw_inj h).2⟩, hS.F ht⟩) hS.2.2 dX6_baseOf_84 hlocks
  · replace h := sw_f h cc
    refine lv_iconst (v := 0) hx hb dX6_baseOf_28 (by decide) ?_
    refine lv_goto (tgt := 33) hx hb dX6_baseOf_29 (by decide) ?_
    refine lv_istore (lv' := [(4, .int 0), (3, .int y23), (0, .ref (ad 0)), (1, .int x1), (2, .int x2)]) hx hb dX6_baseOf_33 hl (by decide) rfl (fun ls hl => ?_)
    refine lv_iconst (v := 0) hx hb dX6_baseOf_35 (by decide) ?_
    refine lv_istore (lv' := [(5, .int 0), (4, .int 0), (3, .int y23), (0, .ref (ad 0)), (1, .int x1), (2, .int x2)]) hx hb dX6_baseOf_36 hl (by decide) rfl (fun ls hl => ?_)
    have L38 : ∀ (kk : Int32 → Int32 → Option (Int32 × swU)), (∀ (v4 : Int32) (v5 : Int32) (H : Heap) (locs : List Loc) (ls : Array Slot), kk v4 v5 = some (r0, u0) → mwP D cy ad u19 H → va_S (mwA ad) s.heap H locs → lv_has ls 6 [(0, .ref (ad 0)), (1, .int x1), (2, .int x2), (3, .int y23), (4, .int v4), (5, .int v5)] → W p l e (headSpec wsX6_baseOf rmX6_baseOf).room s m args below meth c H locs 0 0 (MQ below (mwQi D cy ad r0 u0) args s 0 0 (mwA ad)) (F0 m 82 ls [])) → ∀ (n : Nat) (v4 : Int32) (v5 : Int32) (H : Heap) (locs : List Loc) (ls : Array Slot), mx_baseOf_L38 u19 kk n v4 v5 = some (r0, u0) → mwP D cy ad u19 H → va_S (mwA ad) s.heap H locs → lv_has ls 6 [(0, .ref (ad 0)), (1, .int x1), (2, .int x2), (3, .int y23), (4, .int v4), (5, .int v5)] → W p l e (headSpec wsX6_baseOf rmX6_baseOf).room s m args below meth c H locs 0 0 (MQ below (mwQi D cy ad r0 u0) args s 0 0 (mwA ad)) (F0 m 38 ls []) := by
      intro kk hk38 n
      induction n with
      | zero => intro v4 v5 H locs ls h hP hS hl; rw [mx_baseOf_L38] at h; cases h
      | succ n ih38 =>
        intro v4 v5 H locs ls h hP hS hl
        rw [mx_baseOf_L38] at h
        refine lv_iload hx hb dX6_baseOf_38 (lv_at hl 5 rfl) ?_
        refine lv_aload_n hx hb dX6_baseOf_40 rfl (lv_at hl 0 rfl) ?_
        refine mw_get hx hb hts hin hown hK hP 1 (by decide) f7 rfl dX6_baseOf_41 ?_
        refine lv_icmp_ge (tgt := 82) hx hb dX6_baseOf_44 (by decide) (fun cc => ?_) (fun cc => ?_)
        · replace h := sw_t h cc
          exact hk38 _ _ _ _ _ h hP hS (lv_sub hl [0, 1, 2, 3, 4, 5] rfl)
        · replace h := sw_f h cc
          refine lv_aload_n hx hb dX6_baseOf_47 rfl (lv_at hl 0 rfl) ?_
          refine mw_get hx hb hts hin hown hK hP 25 (by decide) f68 rfl dX6_baseOf_48 ?_
          refine lv_iload hx hb dX6_baseOf_51 (lv_at hl 5 rfl) ?_
          obtain ⟨a53, ea53, ia53, h⟩ := swrd_s h
          refine mw_zld hx hb hK hP 25 40 rfl rfl ia53 dX6_baseOf_53 ea53 ?_
          refine lv_if_eq (tgt := 72) hx hb dX6_baseOf_54 (by decide) (fun cc => ?_) (fun cc => ?_)
          · replace h := sw_t h cc
            refine lv_iload hx hb dX6_baseOf_72 (lv_at hl 4 rfl) ?_
            refine lv_istore (lv' := [(4, .int v4), (0, .ref (ad 0)), (1, .int x1), (2, .int x2), (3, .int y23), (5, .int v5)]) hx hb dX6_baseOf_74 hl (by decide) rfl (fun ls hl => ?_)
            refine lv_iinc (v := (v5 + 1)) (lv' := [(5, .int (v5 + 1)), (4, .int v4), (0, .ref (ad 0)), (1, .int x1), (2, .int x2), (3, .int y23)]) hx hb dX6_baseOf_76 hl (k := 5) rfl rfl (by decide) rfl (fun ls hl => ?_)
            refine lv_goto (tgt := 38) hx hb dX6_baseOf_79 (by decide) ?_
            exact ih38 _ _ _ _ _ h hP hS (lv_sub hl [2, 3, 4, 5, 1, 0] rfl)
          · replace h := sw_f h cc
            refine lv_aload_n hx hb dX6_baseOf_57 rfl (lv_at hl 0 rfl) ?_
            refine mw_get hx hb hts hin hown hK hP 26 (by decide) f72 rfl dX6_baseOf_58 ?_
            refine lv_iload hx hb dX6_baseOf_61 (lv_at hl 5 rfl) ?_
            obtain ⟨a63, ea63, ia63, h⟩ := swrd_s h
            refine mw_zld hx hb hK hP 26 40 rfl rfl ia63 dX6_baseOf_63 ea63 ?_
            refine lv_if_eq (tgt := 72) hx hb dX6_baseOf_64 (by decide) (fun cc => ?_) (fun cc => ?_)
            · replace h := sw_t h cc
              refine lv_iload hx hb dX6_baseOf_72 (lv_at hl 4 rfl) ?_
              refine lv_istore (lv' := [(4, .int v4), (0, .ref (ad 0)), (1, .int x1), (2, .int x2), (3, .int y23), (5, .int v5)]) hx hb dX6_baseOf_74 hl (by decide) rfl (fun ls hl => ?_)
              refine lv_iinc (v := (v5 + 1)) (lv' := [(5, .int (v5 + 1)), (4, .int v4), (0, .ref (ad 0)), (1, .int x1), (2, .int x2), (3, .int y23)]) hx hb dX6_baseOf_76 hl (k := 5) rfl rfl (by decide) rfl (fun ls hl => ?_)
              refine lv_goto (tgt := 38) hx hb dX6_baseOf_79 (by decide) ?_
              exact ih38 _ _ _ _ _ h hP hS (lv_sub hl [2, 3, 4, 5, 1, 0] rfl)
            · replace h := sw_f h cc
              refine lv_iload hx hb dX6_baseOf_67 (lv_at hl 5 rfl) ?_
              refine lv_goto (tgt := 74) hx hb dX6_baseOf_69 (by decide) ?_
              refine lv_istore (lv' := [(4, .int v5), (0, .ref (ad 0)), (1, .int x1), (2, .int x2), (3, .int y23), (5, .int v5)]) hx hb dX6_baseOf_74 hl (by decide) rfl (fun ls hl => ?_)
              refine lv_iinc (v := (v5 + 1)) (lv' := [(5, .int (v5 + 1)), (4, .int v5), (0, .ref (ad 0)), (1, .int x1), (2, .int x2), (3, .int y23)]) hx hb dX6_baseOf_76 hl (k := 5) rfl rfl (by decide) rfl (fun ls hl => ?_)
              refine lv_goto (tgt := 38) hx hb dX6_baseOf_79 (by decide) ?_
              exact ih38 _ _ _ _ _ h hP hS (lv_sub hl [2, 3, 4, 5, 1, 0] rfl)
    refine L38 _ (fun v4 v5 H locs ls h hP hS hl => ?_) 64 _ _ _ _ _ h hP hS (lv_sub hl [3, 4, 5, 2, 1, 0] rfl)
    refine lv_iload hx hb dX6_baseOf_82 (lv_at hl 4 rfl) ?_
    exact W.iret hx hb hr (fun t ht hW => ⟨⟨_, (), rfl, (sw_inj h).1, mw_end hP ht (sw_inj h).2⟩, hS.F ht⟩) hS.2.2 dX6_baseOf_84 hlocks

/-! base -/
def mx_base (u : swU) (x1 : Int32) (x2 : Int32) : Option (Int32 × swU) :=
  swbd (mx_wrong u x1 x2) fun r4 => swlt (swI u 0 0 r4) fun u7 => if (u7.1 0 0) ≤ 0 then (swbd (mx_baseOf u7 x1 x2) fun z24 => match z24 with | (r24, u24) => some (r24, u24)) else (some (0, u7))

abbrev rmX6_base : Room := { frames := 3, cells := 0, slots := 0, locals := 65 }

set_option maxHeartbeats 4000000 in
set_option maxRecDepth 100000 in
theorem mm_base (l : Launch) (D : va_G) (cy : Nat → ClassId) (ad : Nat → Nat) (hJ : swJ mw_N ad) (u : swU) (x1 : Int32) (x2 : Int32) (r0 : Int32) (u0 : swU) (h : mx_base u x1 x2 = some (r0, u0)) : Met l yX6_base wsX6_base rmX6_base (mwC D cy ad u [.ref (ad 0), .int x1, .int x2]) (mwQi D cy ad r0 u0) 0 0 (mwA ad) := by
  refine Met.ofW (cc := cX6_base) (maxL := 3) (ret := (some .int)) (by decide) rfl ?_
  intro p e s m args below meth c s₁ B hml hv
  obtain ⟨ha, hP, hK⟩ := hv
  have hx := B.exec
  have hb := B.bytes
  have hr := B.returns
  have hlocks := B.notSynchronized
  have hts := atoms_spec (ws := wsX6_base) B.pre
  have hown : s.vm.findClass RX6 = some m.cls := findClass_of_methodNamed B.named
  have E : CallFix p m c cX6_base 3 s args wsX6_base RX6 := ⟨hx, hb, hml, hown, hts⟩
  have hin : ∀ w ∈ wsX60, w ∈ wsX6_base := by decide +kernel
  have f78 : (Cond.fieldLink RX6 78 "SlidewardenModel" "thrown" "I").before args s = true := hts _ (by decide +kernel)
  have hS : va_S (mwA ad) s.heap s.heap [] := va_S.rf
  obtain ⟨ls, hl, hent⟩ := sw_entry m (n := 3) ha (Nat.le_of_ble_eq_true rfl)
  rw [hent]
  have hl : lv_has ls 3 [(0, .ref (ad 0)), (1, .int x1), (2, .int x2)] := hl
  unfold mx_base at h
  refine lv_aload_n hx hb dX6_base_0 rfl (lv_at hl 0 rfl) ?_
  refine lv_aload_n hx hb dX6_base_1 rfl (lv_at hl 0 rfl) ?_
  refine lv_iload_n hx hb dX6_base_2 rfl (lv_at hl 1 rfl) ?_
  refine lv_iload_n hx hb dX6_base_3 rfl (lv_at hl 2 rfl) ?_
  obtain ⟨r4, er4, h⟩ := swbd_s h
  refine mw_calli (As := [.int x1, .int x2]) (rest := [.ref (ad 0)]) E (mm_wrong l D cy ad u x1 x2 _ er4) (cwV 2 hts gX6_base_X6_wrong rfl rfl rfl (by decide +kernel) ⟨Nat.le_of_ble_eq_true rfl, Nat.le_of_ble_eq_true rfl⟩) hK hP rfl hl.1 rfl (Nat.le_of_ble_eq_true rfl) dX6_base_4 ?_
  obtain ⟨u7, eu7, h⟩ := swlt_s h
  refine mw_put hx hb hts hin hown hK hJ hP hS 0 (by decide) rfl f78 eu7 dX6_base_7 (fun H locs hP hS => ?_)
  refine lv_aload_n hx hb dX6_base_10 rfl (lv_at hl 0 rfl) ?_
  refine mw_get hx hb hts hin hown hK hP 0 (by decide) f78 rfl dX6_base_11 ?_
  refine lv_if_le (tgt := 21) hx hb dX6_base_14 (by decide) (fun cc => ?_) (fun cc => ?_)
  · replace h := sw_t h cc
    refine lv_aload_n hx hb dX6_base_21 rfl (lv_at hl 0 rfl) ?_
    refine lv_iload_n hx hb dX6_base_22 rfl (lv_at hl 1 rfl) ?_
    refine lv_iload_n hx hb dX6_base_23 rfl (lv_at hl 2 rfl) ?_
    obtain ⟨⟨r24, u24⟩, er24, h⟩ := swbd_s h
    refine mw_callWi (As := [.int x1, .int x2]) (rest := []) E (mm_baseOf l D cy ad hJ u7 x1 x2 _ _ er24) (cwV 2 hts gX6_base_X6_baseOf rfl rfl rfl (by decide +kernel) ⟨Nat.le_of_ble_eq_true rfl, Nat.le_of_ble_eq_true rfl⟩) hK hP hS rfl hl.1 rfl (Nat.le_of_ble_eq_true rfl) dX6_base_24 (fun H locs hP hS => ?_)
    exact W.iret hx hb hr (fun t ht hW => ⟨⟨_, (), rfl, (sw_inj h).1, mw_end hP ht (sw_inj h).2⟩, hS.F ht⟩) hS.2.2 dX6_base_27 hlocks
  · replace h := sw_f h cc
    refine lv_iconst (v := 0) hx hb dX6_base_17 (by decide) ?_
    refine lv_goto (tgt := 27) hx hb dX6_base_18 (by decide) ?_
    exact W.iret hx hb hr (fun t ht hW => ⟨⟨_, (), rfl, (sw_inj h).1, mw_end hP ht (sw_inj h).2⟩, hS.F ht⟩) hS.2.2 dX6_base_27 hlocks

/-! clashes -/
def mx_clashes (u : swU) (x1 : Int32) (x2 : Int32) : Option (Int32 × swU) :=
  swbd (mx_wrong u x1 x2) fun r4 => swlt (swI u 0 0 r4) fun u7 => if (u7.1 0 0) ≤ 0 then (swbd (mx_baseOf u7 x1 x2) fun z25 => match z25 with | (r25, u25) => swrd 6 (u25.1 10) x1 fun a33 => swrd 6 (u25.1 10) x2 fun a39 => swbd (mx_clashesOf u25 r25 a33 a39) fun r40 => some (r40, u25)) else (some (0, u7))

abbrev rmX6_clashes : Room := { frames := 5, cells := 0, slots := 0, locals := 125 }

set_option maxHeartbeats 4000000 in
set_option maxRecDepth 100000 in
theorem mm_clashes (l : Launch) (D : va_G) (cy : Nat → ClassId) (ad : Nat → Nat) (hJ : swJ mw_N ad) (u : swU) (x1 : Int32) (x2 : Int32) (r0 : Int32) (u0 : swU) (h : mx_clashes u x1 x2 = some (r0, u0)) : Met l yX6_clashes wsX6_clashes rmX6_clashes (mwC D cy ad u [.ref (ad 0), .int x1, .int x2]) (mwQi D cy ad r0 u0) 0 0 (mwA ad) := by
  refine Met.ofW (cc := cX6_clashes) (maxL := 3) (ret := (some .int)) (by decide) rfl ?_
  intro p e s m args below meth c s₁ B hml hv
  obtain ⟨ha, hP, hK⟩ := hv
  have hx := B.exec
  have hb := B.bytes
  have hr := B.returns
  have hlocks := B.notSynchronized
  have hts := atoms_spec (ws := wsX6_clashes) B.pre
  have hown : s.vm.findClass RX6 = some m.cls := findClass_of_methodNamed B.named
  have E : CallFix p m c cX6_clashes 3 s args wsX6_clashes RX6 := ⟨hx, hb, hml, hown, hts⟩
  have hin : ∀ w ∈ wsX60, w ∈ wsX6_clashes := by decide +kernel
  have f35 : (Cond.fieldLink RX6 35 "SlidewardenModel" "head" "[I").before args s = true := hts _ (by decide +kernel)
  have f78 : (Cond.fieldLink RX6 78 "SlidewardenModel" "thrown" "I").before args s = true := hts _ (by decide +kernel)
  have hS : va_S (mwA ad) s.heap s.heap [] := va_S.rf
  obtain ⟨ls, hl, hent⟩ := sw_entry m (n := 3) ha (Nat.le_of_ble_eq_true rfl)
  rw [hent]
  have hl : lv_has ls 3 [(0, .ref (ad 0)), (1, .int x1), (2, .int x2)] := hl
  unfold mx_clashes at h
  refine lv_aload_n hx hb dX6_clashes_0 rfl (lv_at hl 0 rfl) ?_
  refine lv_aload_n hx hb dX6_clashes_1 rfl (lv_at hl 0 rfl) ?_
  refine lv_iload_n hx hb dX6_clashes_2 rfl (lv_at hl 1 rfl) ?_
  refine lv_iload_n hx hb dX6_clashes_3 rfl (lv_at hl 2 rfl) ?_
  obtain ⟨r4, er4, h⟩ := swbd_s h
  refine mw_calli (As := [.int x1, .int x2]) (rest := [.ref (ad 0)]) E (mm_wrong l D cy ad u x1 x2 _ er4) (cwV 2 hts gX6_clashes_X6_wrong rfl rfl rfl (by decide +kernel) ⟨Nat.le_of_ble_eq_true rfl, Nat.le_of_ble_eq_true rfl⟩) hK hP rfl hl.1 rfl (Nat.le_of_ble_eq_true rfl) dX6_clashes_4 ?_
  obtain ⟨u7, eu7, h⟩ := swlt_s h
  refine mw_put hx hb hts hin hown hK hJ hP hS 0 (by decide) rfl f78 eu7 dX6_clashes_7 (fun H locs hP hS => ?_)
  refine lv_aload_n hx hb dX6_clashes_10 rfl (lv_at hl 0 rfl) ?_
  refine mw_get hx hb hts hin hown hK hP 0 (by decide) f78 rfl dX6_clashes_11 ?_
  refine lv_if_le (tgt := 21) hx hb dX6_clashes_14 (by decide) (fun cc => ?_) (fun cc => ?_)
  · replace h := sw_t h cc
    refine lv_aload_n hx hb dX6_clashes_21 rfl (lv_at hl 0 rfl) ?_
    refine lv_aload_n hx hb dX6_clashes_22 rfl (lv_at hl 0 rfl) ?_
    refine lv_iload_n hx hb dX6_clashes_23 rfl (lv_at hl 1 rfl) ?_
    refine lv_iload_n hx hb dX6_clashes_24 rfl (lv_at hl 2 rfl) ?_
    obtain ⟨⟨r25, u25⟩, er25, h⟩ := swbd_s h
    refine mw_callWi (As := [.int x1, .int x2]) (rest := [.ref (ad 0)]) E (mm_baseOf l D cy ad hJ u7 x1 x2 _ _ er25) (cwV 2 hts gX6_clashes_X6_baseOf rfl rfl rfl (by decide +kernel) ⟨Nat.le_of_ble_eq_true rfl, Nat.le_of_ble_eq_true rfl⟩) hK hP hS rfl hl.1 rfl (Nat.le_of_ble_eq_true rfl) dX6_clashes_25 (fun H locs hP hS => ?_)
    refine lv_aload_n hx hb dX6_clashes_28 rfl (lv_at hl 0 rfl) ?_
    refine mw_get hx hb hts hin hown hK hP 10 (by decide) f35 rfl dX6_clashes_29 ?_
    refine lv_iload_n hx hb dX6_clashes_32 rfl (lv_at hl 1 rfl) ?_
    obtain ⟨a33, ea33, ia33, h⟩ := swrd_s h
    refine mw_ald hx hb hK hP 10 6 rfl rfl ia33 dX6_clashes_33 ea33 ?_
    refine lv_aload_n hx hb dX6_clashes_34 rfl (lv_at hl 0 rfl) ?_
    refine mw_get hx hb hts hin hown hK hP 10 (by decide) f35 rfl dX6_clashes_35 ?_
    refine lv_iload_n hx hb dX6_clashes_38 rfl (lv_at hl 2 rfl) ?_
    obtain ⟨a39, ea39, ia39, h⟩ := swrd_s h
    refine mw_ald hx hb hK hP 10 6 rfl rfl ia39 dX6_clashes_39 ea39 ?_
    obtain ⟨r40, er40, h⟩ := swbd_s h
    refine mw_calli (As := [.int r25, .int a33, .int a39]) (rest := []) E (mm_clashesOf l D cy ad u25 r25 a33 a39 _ er40) (cwV 3 hts gX6_clashes_X6_clashesOf rfl rfl rfl (by decide +kernel) ⟨Nat.le_of_ble_eq_true rfl, Nat.le_of_ble_eq_true rfl⟩) hK hP rfl hl.1 rfl (Nat.le_of_ble_eq_true rfl) dX6_clashes_40 ?_
    exact W.iret hx hb hr (fun t ht hW => ⟨⟨_, (), rfl, (sw_inj h).1, mw_end hP ht (sw_inj h).2⟩, hS.F ht⟩) hS.2.2 dX6_clashes_43 hlocks
  · replace h := sw_f h cc
    refine lv_iconst (v := 0) hx hb dX6_clashes_17 (by decide) ?_
    refine lv_goto (tgt := 43) hx hb dX6_clashes_18 (by decide) ?_
    exact W.iret hx hb hr (fun t ht hW => ⟨⟨_, (), rfl, (sw_inj h).1, mw_end hP ht (sw_inj h).2⟩, hS.F ht⟩) hS.2.2 dX6_clashes_43 hlocks

/-! merged -/
def mx_merged (u : swU) (x1 : Int32) (x2 : Int32) (x3 : Int32) (x4 : Int32) (x5 : Int32) : Option (Int32 × swU) :=
  swbd (mx_isBranch u x1) fun r3 => if (swB r3) = 0 then (swlt (swI u 0 0 1) fun u57 => some (0, u57)) else (swbd (mx_isBranch u x2) fun r11 => if (swB r11) = 0 then (swlt (swI u 0 0 1) fun u57 => some (0, u57)) else (swbd (mx_isSlide u x3) fun r19 => if (swB r19) = 0 then (swlt (swI u 0 0 1) fun u57 => some (0, u57)) else (swbd (mx_isObject x4) fun r27 => if (swB r27) = 0 then (swlt (swI u 0 0 1) fun u57 => some (0, u57)) else (if x1 = x2 then (swlt (swI u 0 0 2) fun u57 => some (0, u57)) else (swbd (mx_in x5 0 1) fun r46 => if (swB r46) = 0 then (swlt (swI u 0 0 2) fun u57 => some (0, u57)) else (swlt (swI u 0 0 0) fun u57 => swbd (mx_baseOf u57 x1 x2) fun z75 => match z75 with | (r75, u75) => swrd 6 (u75.1 10) x1 fun a83 => swrd 6 (u75.1 10) x2 fun a89 => swbd (mx_settles u75 r75 a83 a89 x3 x4 x5) fun r95 => some (r95, u75)))))))

abbrev rmX6_merged : Room := { frames := 5, cells := 0, slots := 0, locals := 127 }

set_option maxHeartbeats 4000000 in
set_option maxRecDepth 100000 in
theorem mm_merged (l : Launch) (D : va_G) (cy : Nat → ClassId) (ad : Nat → Nat) (hJ : swJ mw_N ad) (u : swU) (x1 : Int32) (x2 : Int32) (x3 : Int32) (x4 : Int32) (x5 : Int32) (r0 : Int32) (u0 : swU) (h : mx_merged u x1 x2 x3 x4 x5 = some (r0, u0)) : Met l yX6_merged wsX6_merged rmX6_merged (mwC D cy ad u [.ref (ad 0), .int x1, .int x2, .int x3, .int x4, .int x5]) (mwQi D cy ad r0 u0) 0 0 (mwA ad) := by
  refine Met.ofW (cc := cX6_merged) (maxL := 6) (ret := (some .int)) (by decide) rfl ?_
  intro p e s m args below meth c s₁ B hml hv
  obtain ⟨ha, hP, hK⟩ := hv
  have hx := B.exec
  have hb := B.bytes
  have hr := B.returns
  have hlocks := B.notSynchronized
  have hts := atoms_spec (ws := wsX6_merged) B.pre
  have hown : s.vm.findClass RX6 = some m.cls := findClass_of_methodNamed B.named
  have E : CallFix p m c cX6_merged 6 s args wsX6_merged RX6 := ⟨hx, hb, hml, hown, hts⟩
  have hin : ∀ w ∈ wsX60, w ∈ wsX6_merged := by decide +kernel
  have f35 : (Cond.fieldLink RX6 35 "SlidewardenModel" "head" "[I").before args s = true := hts _ (by decide +kernel)
  have f78 : (Cond.fieldLink RX6 78 "SlidewardenModel" "thrown" "I").before args s = true := hts _ (by decide +kernel)
  have hS : va_S (mwA ad) s.heap s.heap [] := va_S.rf
  obtain ⟨ls, hl, hent⟩ := sw_entry m (n := 6) ha (Nat.le_of_ble_eq_true rfl)
  rw [hent]
  have hl : lv_has ls 6 [(0, .ref (ad 0)), (1, .int x1), (2, .int x2), (3, .int x3), (4, .int x4), (5, .int x5)] := hl
  unfold mx_merged at h
  refine lv_aload_n hx hb dX6_merged_0 rfl (lv_at hl 0 rfl) ?_
  refine lv_aload_n hx hb dX6_merged_1 rfl (lv_at hl 0 rfl) ?_
  refine lv_iload_n hx hb dX6_merged_2 rfl (lv_at hl 1 rfl) ?_
  obtain ⟨r3, er3, h⟩ := swbd_s h
  refine mw_calli (As := [.int x1]) (rest := [.ref (ad 0)]) E (mm_isBranch l D cy ad u x1 _ er3) (cwV 1 hts gX6_merged_X6_isBranch rfl rfl rfl (by decide +kernel) ⟨Nat.le_of_ble_eq_true rfl, Nat.le_of_ble_eq_true rfl⟩) hK hP rfl hl.1 rfl (Nat.le_of_ble_eq_true rfl) dX6_merged_3 ?_
  refine lv_if_eq (tgt := 33) hx hb dX6_merged_6 (by decide) (fun cc => ?_) (fun cc => ?_)
  · replace h := sw_t h cc
    refine lv_iconst (v := 1) hx hb dX6_merged_33 (by decide) ?_
    refine lv_goto (tgt := 57) hx hb dX6_merged_34 (by decide) ?_
    obtain ⟨u57, eu57, h⟩ := swlt_s h
    refine mw_put hx hb hts hin hown hK hJ hP hS 0 (by decide) rfl f78 eu57 dX6_merged_57 (fun H locs hP hS => ?_)
    refine lv_aload_n hx hb dX6_merged_60 rfl (lv_at hl 0 rfl) ?_
    refine mw_get hx hb hts hin hown hK hP 0 (by decide) f78 rfl dX6_merged_61 ?_
    refine sw_top (x := 1) (by rw [eu57]; rfl) ?_
    refine lv_if_le (tgt := 71) hx hb dX6_merged_64 (by decide) (fun cc => absurd cc (by decide)) (fun cc => ?_)
    refine lv_iconst (v := 0) hx hb dX6_merged_67 (by decide) ?_
    refine lv_goto (tgt := 98) hx hb dX6_merged_68 (by decide) ?_
    exact W.iret hx hb hr (fun t ht hW => ⟨⟨_, (), rfl, (sw_inj h).1, mw_end hP ht (sw_inj h).2⟩, hS.F ht⟩) hS.2.2 dX6_merged_98 hlocks
  · replace h := sw_f h cc
    refine lv_aload_n hx hb dX6_merged_9 rfl (lv_at hl 0 rfl) ?_
    refine lv_iload_n hx hb dX6_merged_10 rfl (lv_at hl 2 rfl) ?_
    obtain ⟨r11, er11, h⟩ := swbd_s h
    refine mw_calli (As := [.int x2]) (rest := [.ref (ad 0)]) E (mm_isBranch l D cy ad u x2 _ er11) (cwV 1 hts gX6_merged_X6_isBranch rfl rfl rfl (by decide +kernel) ⟨Nat.le_of_ble_eq_true rfl, Nat.le_of_ble_eq_true rfl⟩) hK hP rfl hl.1 rfl (Nat.le_of_ble_eq_true rfl) dX6_merged_11 ?_
    refine lv_if_eq (tgt := 33) hx hb dX6_merged_14 (by decide) (fun cc => ?_) (fun cc => ?_)
    · replace h := sw_t h cc
      refine lv_iconst (v := 1) hx hb dX6_merged_33 (by decide) ?_
      refine lv_goto (tgt := 57) hx hb dX6_merged_34 (by decide) ?_
      obtain ⟨u57, eu57, h⟩ := swlt_s h
      refine mw_put hx hb hts hin hown hK hJ hP hS 0 (by decide) rfl f78 eu57 dX6_merged_57 (fun H locs hP hS => ?_)
      refine lv_aload_n hx hb dX6_merged_60 rfl (lv_at hl 0 rfl) ?_
      refine mw_get hx hb hts hin hown hK hP 0 (by decide) f78 rfl dX6_merged_61 ?_
      refine sw_top (x := 1) (by rw [eu57]; rfl) ?_
      refine lv_if_le (tgt := 71) hx hb dX6_merged_64 (by decide) (fun cc => absurd cc (by decide)) (fun cc => ?_)
      refine lv_iconst (v := 0) hx hb dX6_merged_67 (by decide) ?_
      refine lv_goto (tgt := 98) hx hb dX6_merged_68 (by decide) ?_
      exact W.iret hx hb hr (fun t ht hW => ⟨⟨_, (), rfl, (sw_inj h).1, mw_end hP ht (sw_inj h).2⟩, hS.F ht⟩) hS.2.2 dX6_merged_98 hlocks
    · replace h := sw_f h cc
      refine lv_aload_n hx hb dX6_merged_17 rfl (lv_at hl 0 rfl) ?_
      refine lv_iload_n hx hb dX6_merged_18 rfl (lv_at hl 3 rfl) ?_
      obtain ⟨r19, er19, h⟩ := swbd_s h
      refine mw_calli (As := [.int x3]) (rest := [.ref (ad 0)]) E (mm_isSlide l D cy ad u x3 _ er19) (cwV 1 hts gX6_merged_X6_isSlide rfl rfl rfl (by decide +kernel) ⟨Nat.le_of_ble_eq_true rfl, Nat.le_of_ble_eq_true rfl⟩) hK hP rfl hl.1 rfl (Nat.le_of_ble_eq_true rfl) dX6_merged_19 ?_
      refine lv_if_eq (tgt := 33) hx hb dX6_merged_22 (by decide) (fun cc => ?_) (fun cc => ?_)
      · replace h := sw_t h cc
        refine lv_iconst (v := 1) hx hb dX6_merged_33 (by decide) ?_
        refine lv_goto (tgt := 57) hx hb dX6_merged_34 (by decide) ?_
        obtain ⟨u57, eu57, h⟩ := swlt_s h
        refine mw_put hx hb hts hin hown hK hJ hP hS 0 (by decide) rfl f78 eu57 dX6_merged_57 (fun H locs hP hS => ?_)
        refine lv_aload_n hx hb dX6_merged_60 rfl (lv_at hl 0 rfl) ?_
        refine mw_get hx hb hts hin hown hK hP 0 (by decide) f78 rfl dX6_merged_61 ?_
        refine sw_top (x := 1) (by rw [eu57]; rfl) ?_
        refine lv_if_le (tgt := 71) hx hb dX6_merged_64 (by decide) (fun cc => absurd cc (by decide)) (fun cc => ?_)
        refine lv_iconst (v := 0) hx hb dX6_merged_67 (by decide) ?_
        refine lv_goto (tgt := 98) hx hb dX6_merged_68 (by decide) ?_
        exact W.iret hx hb hr (fun t ht hW => ⟨⟨_, (), rfl, (sw_inj h).1, mw_end hP ht (sw_inj h).2⟩, hS.F ht⟩) hS.2.2 dX6_merged_98 hlocks
      · replace h := sw_f h cc
        refine lv_iload hx hb dX6_merged_25 (lv_at hl 4 rfl) ?_
        obtain ⟨r27, er27, h⟩ := swbd_s h
        refine sw_callSi (As := [.int x4]) (rest := [.ref (ad 0)]) E (mm_isObject l x4 _ er27) (va_cwS 1 hts gX6_merged_X6_isObject rfl rfl rfl (by decide +kernel) ⟨Nat.le_of_ble_eq_true rfl, Nat.le_of_ble_eq_true rfl⟩) rfl hl.1 rfl (Nat.le_of_ble_eq_true rfl) dX6_merged_27 ?_
        refine lv_if_ne (tgt := 37) hx hb dX6_merged_30 (by decide) (fun cc => ?_) (fun cc => ?_)
        · replace h := sw_f h cc
          refine lv_iload_n hx hb dX6_merged_37 rfl (lv_at hl 1 rfl) ?_
          refine lv_iload_n hx hb dX6_merged_38 rfl (lv_at hl 2 rfl) ?_
          refine lv_icmp_eq (tgt := 52) hx hb dX6_merged_39 (by decide) (fun cc => ?_) (fun cc => ?_)
          · replace h := sw_t h cc
            refine lv_iconst (v := 2) hx hb dX6_merged_52 (by decide) ?_
            refine lv_goto (tgt := 57) hx hb dX6_merged_53 (by decide) ?_
            obtain ⟨u57, eu57, h⟩ := swlt_s h
            refine mw_put hx hb hts hin hown hK hJ hP hS 0 (by decide) rfl f78 eu57 dX6_merged_57 (fun H locs hP hS => ?_)
            refine lv_aload_n hx hb dX6_merged_60 rfl (lv_at hl 0 rfl) ?_
            refine mw_get hx hb hts hin hown hK hP 0 (by decide) f78 rfl dX6_merged_61 ?_
            refine sw_top (x := 2) (by rw [eu57]; rfl) ?_
            refine lv_if_le (tgt := 71) hx hb dX6_merged_64 (by decide) (fun cc => absurd cc (by decide)) (fun cc => ?_)
            refine lv_iconst (v := 0) hx hb dX6_merged_67 (by decide) ?_
            refine lv_goto (tgt := 98) hx hb dX6_merged_68 (by decide) ?_
            exact W.iret hx hb hr (fun t ht hW => ⟨⟨_, (), rfl, (sw_inj h).1, mw_end hP ht (sw_inj h).2⟩, hS.F ht⟩) hS.2.2 dX6_merged_98 hlocks
          · replace h := sw_f h cc
            refine lv_iload hx hb dX6_merged_42 (lv_at hl 5 rfl) ?_
            refine lv_iconst (v := 0) hx hb dX6_merged_44 (by decide) ?_
            refine lv_iconst (v := 1) hx hb dX6_merged_45 (by decide) ?_
            obtain ⟨r46, er46, h⟩ := swbd_s h
            refine sw_callSi (As := [.int x5, .int 0, .int 1]) (rest := [.ref (ad 0)]) E (mm_in l x5 0 1 _ er46) (va_cwS 3 hts gX6_merged_X6_in rfl rfl rfl (by decide +kernel) ⟨Nat.le_of_ble_eq_true rfl, Nat.le_of_ble_eq_true rfl⟩) rfl hl.1 rfl (Nat.le_of_ble_eq_true rfl) dX6_merged_46 ?_
            refine lv_if_ne (tgt := 56) hx hb dX6_merged_49 (by decide) (fun cc => ?_) (fun cc => ?_)
            · replace h := sw_f h cc
              refine lv_iconst (v := 0) hx hb dX6_merged_56 (by decide) ?_
              obtain ⟨u57, eu57, h⟩ := swlt_s h
              refine mw_put hx hb hts hin hown hK hJ hP hS 0 (by decide) rfl f78 eu57 dX6_merged_57 (fun H locs hP hS => ?_)
              refine lv_aload_n hx hb dX6_merged_60 rfl (lv_at hl 0 rfl) ?_
              refine mw_get hx hb hts hin hown hK hP 0 (by decide) f78 rfl dX6_merged_61 ?_
              refine sw_top (x := 0) (by rw [eu57]; rfl) ?_
              refine lv_if_le (tgt := 71) hx hb dX6_merged_64 (by decide) (fun cc => ?_) (fun cc => absurd (by decide) cc)
              refine lv_aload_n hx hb dX6_merged_71 rfl (lv_at hl 0 rfl) ?_
              refine lv_aload_n hx hb dX6_merged_72 rfl (lv_at hl 0 rfl) ?_
              refine lv_iload_n hx hb dX6_merged_73 rfl (lv_at hl 1 rfl) ?_
              refine lv_iload_n hx hb dX6_merged_74 rfl (lv_at hl 2 rfl) ?_
              obtain ⟨⟨r75, u75⟩, er75, h⟩ := swbd_s h
              refine mw_callWi (As := [.int x1, .int x2]) (rest := [.ref (ad 0)]) E (mm_baseOf l D cy ad hJ u57 x1 x2 _ _ er75) (cwV 2 hts gX6_merged_X6_baseOf rfl rfl rfl (by decide +kernel) ⟨Nat.le_of_ble_eq_true rfl, Nat.le_of_ble_eq_true rfl⟩) hK hP hS rfl hl.1 rfl (Nat.le_of_ble_eq_true rfl) dX6_merged_75 (fun H locs hP hS => ?_)
              refine lv_aload_n hx hb dX6_merged_78 rfl (lv_at hl 0 rfl) ?_
              refine mw_get hx hb hts hin hown hK hP 10 (by decide) f35 rfl dX6_merged_79 ?_
              refine lv_iload_n hx hb dX6_merged_82 rfl (lv_at hl 1 rfl) ?_
              obtain ⟨a83, ea83, ia83, h⟩ := swrd_s h
              refine mw_ald hx hb hK hP 10 6 rfl rfl ia83 dX6_merged_83 ea83 ?_
              refine lv_aload_n hx hb dX6_merged_84 rfl (lv_at hl 0 rfl) ?_
              refine mw_get hx hb hts hin hown hK hP 10 (by decide) f35 rfl dX6_merged_85 ?_
              refine lv_iload_n hx hb dX6_merged_88 rfl (lv_at hl 2 rfl) ?_
              obtain ⟨a89, ea89, ia89, h⟩ := swrd_s h
              refine mw_ald hx hb hK hP 10 6 rfl rfl ia89 dX6_merged_89 ea89 ?_
              refine lv_iload_n hx hb dX6_merged_90 rfl (lv_at hl 3 rfl) ?_
              refine lv_iload hx hb dX6_merged_91 (lv_at hl 4 rfl) ?_
              refine lv_iload hx hb dX6_merged_93 (lv_at hl 5 rfl) ?_
              obtain ⟨r95, er95, h⟩ := swbd_s h
              refine mw_calli (As := [.int r75, .int a83, .int a89, .int x3, .int x4, .int x5]) (rest := []) E (mm_settles l D cy ad u75 r75 a83 a89 x3 x4 x5 _ er95) (cwV 6 hts gX6_merged_X6_settles rfl rfl rfl (by decide +kernel) ⟨Nat.le_of_ble_eq_true rfl, Nat.le_of_ble_eq_true rfl⟩) hK hP rfl hl.1 rfl (Nat.le_of_ble_eq_true rfl) dX6_merged_95 ?_
              exact W.iret hx hb hr (fun t ht hW => ⟨⟨_, (), rfl, (sw_inj h).1, mw_end hP ht (sw_inj h).2⟩, hS.F ht⟩) hS.2.2 dX6_merged_98 hlocks
            · replace h := sw_t h cc
              refine lv_iconst (v := 2) hx hb dX6_merged_52 (by decide) ?_
              refine lv_goto (tgt := 57) hx hb dX6_merged_53 (by decide) ?_
              obtain ⟨u57, eu57, h⟩ := swlt_s h
              refine mw_put hx hb hts hin hown hK hJ hP hS 0 (by decide) rfl f78 eu57 dX6_merged_57 (fun H locs hP hS => ?_)
              refine lv_aload_n hx hb dX6_merged_60 rfl (lv_at hl 0 rfl) ?_
              refine mw_get hx hb hts hin hown hK hP 0 (by decide) f78 rfl dX6_merged_61 ?_
              refine sw_top (x := 2) (by rw [eu57]; rfl) ?_
              refine lv_if_le (tgt := 71) hx hb dX6_merged_64 (by decide) (fun cc => absurd cc (by decide)) (fun cc => ?_)
              refine lv_iconst (v := 0) hx hb dX6_merged_67 (by decide) ?_
              refine lv_goto (tgt := 98) hx hb dX6_merged_68 (by decide) ?_
              exact W.iret hx hb hr (fun t ht hW => ⟨⟨_, (), rfl, (sw_inj h).1, mw_end hP ht (sw_inj h).2⟩, hS.F ht⟩) hS.2.2 dX6_merged_98 hlocks
        · replace h := sw_t h cc
          refine lv_iconst (v := 1) hx hb dX6_merged_33 (by decide) ?_
          refine lv_goto (tgt := 57) hx hb dX6_merged_34 (by decide) ?_
          obtain ⟨u57, eu57, h⟩ := swlt_s h
          refine mw_put hx hb hts hin hown hK hJ hP hS 0 (by decide) rfl f78 eu57 dX6_merged_57 (fun H locs hP hS => ?_)
          refine lv_aload_n hx hb dX6_merged_60 rfl (lv_at hl 0 rfl) ?_
          refine mw_get hx hb hts hin hown hK hP 0 (by decide) f78 rfl dX6_merged_61 ?_
          refine sw_top (x := 1) (by rw [eu57]; rfl) ?_
          refine lv_if_le (tgt := 71) hx hb dX6_merged_64 (by decide) (fun cc => absurd cc (by decide)) (fun cc => ?_)
          refine lv_iconst (v := 0) hx hb dX6_merged_67 (by decide) ?_
          refine lv_goto (tgt := 98) hx hb dX6_merged_68 (by decide) ?_
          exact W.iret hx hb hr (fun t ht hW => ⟨⟨_, (), rfl, (sw_inj h).1, mw_end hP ht (sw_inj h).2⟩, hS.F ht⟩) hS.2.2 dX6_merged_98 hlocks

/-! lays -/
def mx_lays_L31 (x1 : Int32) (x2 : Int32) (x3 : Int32) (x4 : Int32) (x5 : Int32) (kk : Int32 → swU → Option (swU)) : Nat → Int32 → swU → Option (swU)
  | 0, _, _ => none
  | n + 1, v6, w31 => if 4 ≤ v6 then (kk v6 w31) else (swbd (mx_settles w31 x1 x2 x3 x4 v6 x5) fun r60 => swgd (swix (((4 * (w31.1 0 22)) + v6)) 80) <| swlt (swI w31 24 (((4 * (w31.1 0 22)) + v6)).toNatClampNeg r60) fun u63 => mx_lays_L31 x1 x2 x3 x4 x5 kk n (v6 + 1) u63)

def mx_lays (u : swU) (x1 : Int32) (x2 : Int32) (x3 : Int32) (x4 : Int32) (x5 : Int32) : Option (swU) :=
  swbd (mx_settles u x1 x2 x3 x4 0 x5) fun r9 => if r9 = (-1) then (some u) else (swgd (swix (u.1 0 22) 20) <| swlt (swI u 23 (u.1 0 22).toNatClampNeg x4) fun u27 => mx_lays_L31 x1 x2 x3 x4 x5 (fun v6 w70 => swlt (swI w70 0 22 (((w70.1 0 22) + 1))) fun u77 => some u77) 64 0 u27)

abbrev rmX6_lays : Room := { frames := 5, cells := 0, slots := 0, locals := 127 }

set_option maxHeartbeats 4000000 in
set_option maxRecDepth 100000 in
theorem mm_lays (l : Launch) (D : va_G) (cy : Nat → ClassId) (ad : Nat → Nat) (hJ : swJ mw_N ad) (u : swU) (x1 : Int32) (x2 : Int32) (x3 : Int32) (x4 : Int32) (x5 : Int32) (u0 : swU) (h : mx_lays u x1 x2 x3 x4 x5 = some u0) : Met l yX6_lays wsX6_lays rmX6_lays (mwC D cy ad u [.ref (ad 0), .int x1, .int x2, .int x3, .int x4, .int x5]) (mwQv D cy ad u0) 0 0 (mwA ad) := by
  refine Met.ofW (cc := cX6_lays) (maxL := 7) (ret := none) (by decide) rfl ?_
  intro p e s m args below meth c s₁ B hml hv
  obtain ⟨ha, hP, hK⟩ := hv
  have hx := B.exec
  have hb := B.bytes
  have hr := B.returns
  have hlocks := B.notSynchronized
  have hts := atoms_spec (ws := wsX6_lays) B.pre
  have hown : s.vm.findClass RX6 = some m.cls := findClass_of_methodNamed B.named
  have E : CallFix p m c cX6_lays 7 s args wsX6_lays RX6 := ⟨hx, hb, hml, hown, hts⟩
  have hin : ∀ w ∈ wsX60, w ∈ wsX6_lays := by decide +kernel
  have f144 : (Cond.fieldLink RX6 144 "SlidewardenModel" "deck" "I").before args s = true := hts _ (by decide +kernel)
  have f62 : (Cond.fieldLink RX6 62 "SlidewardenModel" "deckRow" "[I").before args s = true := hts _ (by decide +kernel)
  have f65 : (Cond.fieldLink RX6 65 "SlidewardenModel" "deckValue" "[I").before args s = true := hts _ (by decide +kernel)
  have hS : va_S (mwA ad) s.heap s.heap [] := va_S.rf
  obtain ⟨ls, hl, hent⟩ := sw_entry m (n := 7) ha (Nat.le_of_ble_eq_true rfl)
  rw [hent]
  have hl : lv_has ls 7 [(0, .ref (ad 0)), (1, .int x1), (2, .int x2), (3, .int x3), (4, .int x4), (5, .int x5)] := hl
  unfold mx_lays at h
  refine lv_aload_n hx hb dX6_lays_0 rfl (lv_at hl 0 rfl) ?_
  refine lv_iload_n hx hb dX6_lays_1 rfl (lv_at hl 1 rfl) ?_
  refine lv_iload_n hx hb dX6_lays_2 rfl (lv_at hl 2 rfl) ?_
  refine lv_iload_n hx hb dX6_lays_3 rfl (lv_at hl 3 rfl) ?_
  refine lv_iload hx hb dX6_lays_4 (lv_at hl 4 rfl) ?_
  refine lv_iconst (v := 0) hx hb dX6_lays_6 (by decide) ?_
  refine lv_iload hx hb dX6_lays_7 (lv_at hl 5 rfl) ?_
  obtain ⟨r9, er9, h⟩ := swbd_s h
  refine mw_calli (As := [.int x1, .int x2, .int x3, .int x4, .int 0, .int x5]) (rest := []) E (mm_settles l D cy ad u x1 x2 x3 x4 0 x5 _ er9) (cwV 6 hts gX6_lays_X6_settles rfl rfl rfl (by decide +kernel) ⟨Nat.le_of_ble_eq_true rfl, Nat.le_of_ble_eq_true rfl⟩) hK hP rfl hl.1 rfl (Nat.le_of_ble_eq_true rfl) dX6_lays_9 ?_
  refine lv_iconst (v := (-1)) hx hb dX6_lays_12 (by decide) ?_
  refine lv_icmp_ne (tgt := 17) hx hb dX6_lays_13 (by decide) (fun cc => ?_) (fun cc => ?_)
  · replace h := sw_f h cc
    refine lv_aload_n hx hb dX6_lays_17 rfl (lv_at hl 0 rfl) ?_
    refine mw_get hx hb hts hin hown hK hP 23 (by decide) f62 rfl dX6_lays_18 ?_
    refine lv_aload_n hx hb dX6_lays_21 rfl (lv_at hl 0 rfl) ?_
    refine mw_get hx hb hts hin hown hK hP 22 (by decide) f144 rfl dX6_lays_22 ?_
    refine lv_iload hx hb dX6_lays_25 (lv_at hl 4 rfl) ?_
    obtain ⟨iu27, h⟩ := swgd_s h
    obtain ⟨u27, eu27, h⟩ := swlt_s h
    refine mw_ast hx hb hK hJ hP hS 23 20 rfl (by decide) rfl rfl (swix_s iu27) eu27 dX6_lays_27 (fun H locs hP hS => ?_)
    refine lv_iconst (v := 0) hx hb dX6_lays_28 (by decide) ?_
    refine lv_istore (lv' := [(6, .int 0), (0, .ref (ad 0)), (1, .int x1), (2, .int x2), (3, .int x3), (4, .int x4), (5, .int x5)]) hx hb dX6_lays_29 hl (by decide) rfl (fun ls hl => ?_)
    have L31 : ∀ (kk : Int32 → swU → Option (swU)), (∀ (v6 : Int32) (w31 : swU) (H : Heap) (locs : List Loc) (ls : Array Slot), kk v6 w31 = some u0 → mwP D cy ad w31 H → va_S (mwA ad) s.heap H locs → lv_has ls 7 [(0, .ref (ad 0)), (1, .int x1), (2, .int x2), (3, .int x3), (4, .int x4), (5, .int x5), (6, .int v6)] → W p l e (headSpec wsX6_lays rmX6_lays).room s m args below meth c H locs 0 0 (MQ below (mwQv D cy ad u0) args s 0 0 (mwA ad)) (F0 m 70 ls [])) → ∀ (n : Nat) (v6 : Int32) (w31 : swU) (H : Heap) (locs : List Loc) (ls : Array Slot), mx_lays_L31 x1 x2 x3 x4 x5 kk n v6 w31 = some u0 → mwP D cy ad w31 H → va_S (mwA ad) s.heap H locs → lv_has ls 7 [(0, .ref (ad 0)), (1, .int x1), (2, .int x2), (3, .int x3), (4, .int x4), (5, .int x5), (6, .int v6)] → W p l e (headSpec wsX6_lays rmX6_lays).room s m args below meth c H locs 0 0 (MQ below (mwQv D cy ad u0) args s 0 0 (mwA ad)) (F0 m 31 ls []) := by
      intro kk hk31 n
      induction n with
      | zero => intro v6 w31 H locs ls h hP hS hl; rw [mx_lays_L31] at h; cases h
      | succ n ih31 =>
        intro v6 w31 H locs ls h hP hS hl
        rw [mx_lays_L31] at h
        refine lv_iload hx hb dX6_lays_31 (lv_at hl 6 rfl) ?_
        refine lv_iconst (v := 4) hx hb dX6_lays_33 (by decide) ?_
        refine lv_icmp_ge (tgt := 70) hx hb dX6_lays_34 (by decide) (fun cc => ?_) (fun cc => ?_)
        · replace h := sw_t h cc
          exact hk31 _ _ _ _ _ h hP hS (lv_sub hl [0, 1, 2, 3, 4, 5, 6] rfl)
        · replace h := sw_f h cc
          refine lv_aload_n hx hb dX6_lays_37 rfl (lv_at hl 0 rfl) ?_
          refine mw_get hx hb hts hin hown hK hP 24 (by decide) f65 rfl dX6_lays_38 ?_
          refine lv_iconst (v := 4) hx hb dX6_lays_41 (by decide) ?_
          refine lv_aload_n hx hb dX6_lays_42 rfl (lv_at hl 0 rfl) ?_
          refine mw_get hx hb hts hin hown hK hP 22 (by decide) f144 rfl dX6_lays_43 ?_
          refine lv_imul hx hb dX6_lays_46 ?_
          refine lv_iload hx hb dX6_lays_47 (lv_at hl 6 rfl) ?_
          refine lv_iadd hx hb dX6_lays_49 ?_
          refine lv_aload_n hx hb dX6_lays_50 rfl (lv_at hl 0 rfl) ?_
          refine lv_iload_n hx hb dX6_lays_51 rfl (lv_at hl 1 rfl) ?_
          refine lv_iload_n hx hb dX6_lays_52 rfl (lv_at hl 2 rfl) ?_
          refine lv_iload_n hx hb dX6_lays_53 rfl (lv_at hl 3 rfl) ?_
          refine lv_iload hx hb dX6_lays_54 (lv_at hl 4 rfl) ?_
          refine lv_iload hx hb dX6_lays_56 (lv_at hl 6 rfl) ?_
          refine lv_iload hx hb dX6_lays_58 (lv_at hl 5 rfl) ?_
          obtain ⟨r60, er60, h⟩ := swbd_s h
          refine mw_calli (As := [.int x1, .int x2, .int x3, .int x4, .int v6, .int x5]) (rest := [.int (((4 * (w31.1 0 22)) + v6)), .ref (ad 24)]) E (mm_settles l D cy ad w31 x1 x2 x3 x4 v6 x5 _ er60) (cwV 6 hts gX6_lays_X6_settles rfl rfl rfl (by decide +kernel) ⟨Nat.le_of_ble_eq_true rfl, Nat.le_of_ble_eq_true rfl⟩) hK hP rfl hl.1 rfl (Nat.le_of_ble_eq_true rfl) dX6_lays_60 ?_
          obtain ⟨iu63, h⟩ := swgd_s h
          obtain ⟨u63, eu63, h⟩ := swlt_s h
          refine mw_ast hx hb hK hJ hP hS 24 80 rfl (by decide) rfl rfl (swix_s iu63) eu63 dX6_lays_63 (fun H locs hP hS => ?_)
          refine lv_iinc (v := (v6 + 1)) (lv' := [(6, .int (v6 + 1)), (0, .ref (ad 0)), (1, .int x1), (2, .int x2), (3, .int x3), (4, .int x4), (5, .int x5)]) hx hb dX6_lays_64 hl (k := 6) rfl rfl (by decide) rfl (fun ls hl => ?_)
          refine lv_goto (tgt := 31) hx hb dX6_lays_67 (by decide) ?_
          exact ih31 _ _ _ _ _ h hP hS (lv_sub hl [1, 2, 3, 4, 5, 6, 0] rfl)
    refine L31 _ (fun v6 w70 H locs ls h hP hS hl => ?_) 64 _ _ _ _ _ h hP hS (lv_sub hl [1, 2, 3, 4, 5, 6, 0] rfl)
    refine lv_aload_n hx hb dX6_lays_70 rfl (lv_at hl 0 rfl) ?_
    refine lv_dup hx hb dX6_lays_71 rfl ?_
    refine mw_get hx hb hts hin hown hK hP 22 (by decide) f144 rfl dX6_lays_72 ?_
    refine lv_iconst (v := 1) hx hb dX6_lays_75 (by decide) ?_
    refine lv_iadd hx hb dX6_lays_76 ?_
    obtain ⟨u77, eu77, h⟩ := swlt_s h
    refine mw_put hx hb hts hin hown hK hJ hP hS 22 (by decide) rfl f144 eu77 dX6_lays_77 (fun H locs hP hS => ?_)
    exact W.vret hx hb hr (fun t ht hW => ⟨⟨(), rfl, trivial, mw_end hP ht (sw_in1 h)⟩, hS.F ht⟩) hS.2.2 dX6_lays_80 hlocks
  · replace h := sw_t h cc
    exact W.vret hx hb hr (fun t ht hW => ⟨⟨(), rfl, trivial, mw_end hP ht (sw_in1 h)⟩, hS.F ht⟩) hS.2.2 dX6_lays_16 hlocks

/-! layDeck -/
def mx_layDeck_L8 (x1 : Int32) (x2 : Int32) (x3 : Int32) (x4 : Int32) (kk : Int32 → swU → Option (swU)) : Nat → Int32 → swU → Option (swU)
  | 0, _, _ => none
  | n + 1, v5, w8 => swrd 40 (w8.1 5) x2 fun a15 => if a15 ≤ v5 then (kk v5 w8) else (swrd 320 (w8.1 6) (((8 * x2) + v5)) fun a34 => swbd (mx_lays w8 x1 x2 x3 a34 x4) fun u37 => mx_layDeck_L8 x1 x2 x3 x4 kk n (v5 + 1) u37)

def mx_layDeck_L49 (x1 : Int32) (x2 : Int32) (x3 : Int32) (x4 : Int32) (kk : Int32 → swU → Option (swU)) : Nat → Int32 → swU → Option (swU)
  | 0, _, _ => none
  | n + 1, v5, w49 => swrd 40 (w49.1 5) x3 fun a56 => if a56 ≤ v5 then (kk v5 w49) else (swrd 320 (w49.1 6) (((8 * x3) + v5)) fun a73 => swbd (mx_placeOf w49 x2 a73) fun r74 => if r74 = (-1) then (swrd 320 (w49.1 6) (((8 * x3) + v5)) fun a96 => swbd (mx_lays w49 x1 x2 x3 a96 x4) fun u99 => mx_layDeck_L49 x1 x2 x3 x4 kk n (v5 + 1) u99) else (mx_layDeck_L49 x1 x2 x3 x4 kk n (v5 + 1) w49))

def mx_layDeck (u : swU) (x1 : Int32) (x2 : Int32) (x3 : Int32) (x4 : Int32) : Option (swU) :=
  swlt (swI u 0 22 0) fun u2 => mx_layDeck_L8 x1 x2 x3 x4 (fun v5 w46 => mx_layDeck_L49 x1 x2 x3 x4 (fun v5 w108 => some w108) 64 0 w46) 64 0 u2

abbrev rmX6_layDeck : Room := { frames := 6, cells := 0, slots := 0, locals := 153 }

set_option maxHeartbeats 4000000 in
set_option maxRecDepth 100000 in
theorem mm_layDeck (l : Launch) (D : va_G) (cy : Nat → ClassId) (ad : Nat → Nat) (hJ : swJ mw_N ad) (u : swU) (x1 : Int32) (x2 : Int32) (x3 : Int32) (x4 : Int32) (u0 : swU) (h : mx_layDeck u x1 x2 x3 x4 = some u0) : Met l yX6_layDeck wsX6_layDeck rmX6_layDeck (mwC D cy ad u [.ref (ad 0), .int x1, .int x2, .int x3, .int x4]) (mwQv D cy ad u0) 0 0 (mwA ad) := by
  refine Met.ofW (cc := cX6_layDeck) (maxL := 6) (ret := none) (by decide) rfl ?_
  intro p e s m args below meth c s₁ B hml hv
  obtain ⟨ha, hP, hK⟩ := hv
  have hx := B.exec
  have hb := B.bytes
  have hr := B.returns
  have hlocks := B.notSynchronized
  have hts := atoms_spec (ws := wsX6_layDeck) B.pre
  have hown : s.vm.findClass RX6 = some m.cls := findClass_of_methodNamed B.named
  have E : CallFix p m c cX6_layDeck 6 s args wsX6_layDeck RX6 := ⟨hx, hb, hml, hown, hts⟩
  have hin : ∀ w ∈ wsX60, w ∈ wsX6_layDeck := by decide +kernel
  have f144 : (Cond.fieldLink RX6 144 "SlidewardenModel" "deck" "I").before args s = true := hts _ (by decide +kernel)
  have f23 : (Cond.fieldLink RX6 23 "SlidewardenModel" "many" "[I").before args s = true := hts _ (by decide +kernel)
  have f26 : (Cond.fieldLink RX6 26 "SlidewardenModel" "row" "[I").before args s = true := hts _ (by decide +kernel)
  have hS : va_S (mwA ad) s.heap s.heap [] := va_S.rf
  obtain ⟨ls, hl, hent⟩ := sw_entry m (n := 6) ha (Nat.le_of_ble_eq_true rfl)
  rw [hent]
  have hl : lv_has ls 6 [(0, .ref (ad 0)), (1, .int x1), (2, .int x2), (3, .int x3), (4, .int x4)] := hl
  unfold mx_layDeck at h
  refine lv_aload_n hx hb dX6_layDeck_0 rfl (lv_at hl 0 rfl) ?_
  refine lv_iconst (v := 0) hx hb dX6_layDeck_1 (by decide) ?_
  obtain ⟨u2, eu2, h⟩ := swlt_s h
  refine mw_put hx hb hts hin hown hK hJ hP hS 22 (by decide) rfl f144 eu2 dX6_layDeck_2 (fun H locs hP hS => ?_)
  refine lv_iconst (v := 0) hx hb dX6_layDeck_5 (by decide) ?_
  refine lv_istore (lv' := [(5, .int 0), (0, .ref (ad 0)), (1, .int x1), (2, .int x2), (3, .int x3), (4, .int x4)]) hx hb dX6_layDeck_6 hl (by decide) rfl (fun ls hl => ?_)
  have L8 : ∀ (kk : Int32 → swU → Option (swU)), (∀ (v5 : Int32) (w8 : swU) (H : Heap) (locs : List Loc) (ls : Array Slot), kk v5 w8 = some u0 → mwP D cy ad w8 H → va_S (mwA ad) s.heap H locs → lv_has ls 6 [(0, .ref (ad 0)), (1, .int x1), (2, .int x2), (3, .int x3), (4, .int x4), (5, .int v5)] → W p l e (headSpec wsX6_layDeck rmX6_layDeck).room s m args below meth c H locs 0 0 (MQ below (mwQv D cy ad u0) args s 0 0 (mwA ad)) (F0 m 46 ls [])) → ∀ (n : Nat) (v5 : Int32) (w8 : swU) (H : Heap) (locs : List Loc) (ls : Array Slot), mx_layDeck_L8 x1 x2 x3 x4 kk n v5 w8 = some u0 → mwP D cy ad w8 H → va_S (mwA ad) s.heap H locs → lv_has ls 6 [(0, .ref (ad 0)), (1, .int x1), (2, .int x2), (3, .int x3), (4, .int x4), (5, .int v5)] → W p l e (headSpec wsX6_layDeck rmX6_layDeck).room s m args below meth c H locs 0 0 (MQ below (mwQv D cy ad u0) args s 0 0 (mwA ad)) (F0 m 8 ls []) := by
    intro kk hk8 n
    induction n with
    | zero => intro v5 w8 H locs ls h hP hS hl; rw [mx_layDeck_L8] at h; cases h
    | succ n ih8 =>
      intro v5 w8 H locs ls h hP hS hl
      rw [mx_layDeck_L8] at h
      refine lv_iload hx hb dX6_layDeck_8 (lv_at hl 5 rfl) ?_
      refine lv_aload_n hx hb dX6_layDeck_10 rfl (lv_at hl 0 rfl) ?_
      refine mw_get hx hb hts hin hown hK hP 5 (by decide) f23 rfl dX6_layDeck_11 ?_
      refine lv_iload_n hx hb dX6_layDeck_14 rfl (lv_at hl 2 rfl) ?_
      obtain ⟨a15, ea15, ia15, h⟩ := swrd_s h
      refine mw_ald hx hb hK hP 5 40 rfl rfl ia15 dX6_layDeck_15 ea15 ?_
      refine lv_icmp_ge (tgt := 46) hx hb dX6_layDeck_16 (by decide) (fun cc => ?_) (fun cc => ?_)
      · replace h := sw_t h cc
        exact hk8 _ _ _ _ _ h hP hS (lv_sub hl [0, 1, 2, 3, 4, 5] rfl)
      · replace h := sw_f h cc
        refine lv_aload_n hx hb dX6_layDeck_19 rfl (lv_at hl 0 rfl) ?_
        refine lv_iload_n hx hb dX6_layDeck_20 rfl (lv_at hl 1 rfl) ?_
        refine lv_iload_n hx hb dX6_layDeck_21 rfl (lv_at hl 2 rfl) ?_
        refine lv_iload_n hx hb dX6_layDeck_22 rfl (lv_at hl 3 rfl) ?_
        refine lv_aload_n hx hb dX6_layDeck_23 rfl (lv_at hl 0 rfl) ?_
        refine mw_get hx hb hts hin hown hK hP 6 (by decide) f26 rfl dX6_layDeck_24 ?_
        refine lv_bipush (v := 8) hx hb dX6_layDeck_27 (by decide) ?_
        refine lv_iload_n hx hb dX6_layDeck_29 rfl (lv_at hl 2 rfl) ?_
        refine lv_imul hx hb dX6_layDeck_30 ?_
        refine lv_iload hx hb dX6_layDeck_31 (lv_at hl 5 rfl) ?_
        refine lv_iadd hx hb dX6_layDeck_33 ?_
        obtain ⟨a34, ea34, ia34, h⟩ := swrd_s h
        refine mw_ald hx hb hK hP 6 320 rfl rfl ia34 dX6_layDeck_34 ea34 ?_
        refine lv_iload hx hb dX6_layDeck_35 (lv_at hl 4 rfl) ?_
        obtain ⟨u37, er37, h⟩ := swbd_s h
        refine mw_callWv (As := [.int x1, .int x2, .int x3, .int a34, .int x4]) (rest := []) E (mm_lays l D cy ad hJ w8 x1 x2 x3 a34 x4 _ er37) (cwV 5 hts gX6_layDeck_X6_lays rfl rfl rfl (by decide +kernel) ⟨Nat.le_of_ble_eq_true rfl, Nat.le_of_ble_eq_true rfl⟩) hK hP hS rfl hl.1 rfl (Nat.le_of_ble_eq_true rfl) dX6_layDeck_37 (fun H locs hP hS => ?_)
        refine lv_iinc (v := (v5 + 1)) (lv' := [(5, .int (v5 + 1)), (0, .ref (ad 0)), (1, .int x1), (2, .int x2), (3, .int x3), (4, .int x4)]) hx hb dX6_layDeck_40 hl (k := 5) rfl rfl (by decide) rfl (fun ls hl => ?_)
        refine lv_goto (tgt := 8) hx hb dX6_layDeck_43 (by decide) ?_
        exact ih8 _ _ _ _ _ h hP hS (lv_sub hl [1, 2, 3, 4, 5, 0] rfl)
  refine L8 _ (fun v5 w46 H locs ls h hP hS hl => ?_) 64 _ _ _ _ _ h hP hS (lv_sub hl [1, 2, 3, 4, 5, 0] rfl)
  refine lv_iconst (v := 0) hx hb dX6_layDeck_46 (by decide) ?_
  refine lv_istore (lv' := [(5, .int 0), (0, .ref (ad 0)), (1, .int x1), (2, .int x2), (3, .int x3), (4, .int x4)]) hx hb dX6_layDeck_47 hl (by decide) rfl (fun ls hl => ?_)
  have L49 : ∀ (kk : Int32 → swU → Option (swU)), (∀ (v5 : Int32) (w49 : swU) (H : Heap) (locs : List Loc) (ls : Array Slot), kk v5 w49 = some u0 → mwP D cy ad w49 H → va_S (mwA ad) s.heap H locs → lv_has ls 6 [(0, .ref (ad 0)), (1, .int x1), (2, .int x2), (3, .int x3), (4, .int x4), (5, .int v5)] → W p l e (headSpec wsX6_layDeck rmX6_layDeck).room s m args below meth c H locs 0 0 (MQ below (mwQv D cy ad u0) args s 0 0 (mwA ad)) (F0 m 108 ls [])) → ∀ (n : Nat) (v5 : Int32) (w49 : swU) (H : Heap) (locs : List Loc) (ls : Array Slot), mx_layDeck_L49 x1 x2 x3 x4 kk n v5 w49 = some u0 → mwP D cy ad w49 H → va_S (mwA ad) s.heap H locs → lv_has ls 6 [(0, .ref (ad 0)), (1, .int x1), (2, .int x2), (3, .int x3), (4, .int x4), (5, .int v5)] → W p l e (headSpec wsX6_layDeck rmX6_layDeck).room s m args below meth c H locs 0 0 (MQ below (mwQv D cy ad u0) args s 0 0 (mwA ad)) (F0 m 49 ls []) := by
    intro kk hk49 n
    induction n with
    | zero => intro v5 w49 H locs ls h hP hS hl; rw [mx_layDeck_L49] at h; cases h
    | succ n ih49 =>
      intro v5 w49 H locs ls h hP hS hl
      rw [mx_layDeck_L49] at h
      refine lv_iload hx hb dX6_layDeck_49 (lv_at hl 5 rfl) ?_
      refine lv_aload_n hx hb dX6_layDeck_51 rfl (lv_at hl 0 rfl) ?_
      refine mw_get hx hb hts hin hown hK hP 5 (by decide) f23 rfl dX6_layDeck_52 ?_
      refine lv_iload_n hx hb dX6_layDeck_55 rfl (lv_at hl 3 rfl) ?_
      obtain ⟨a56, ea56, ia56, h⟩ := swrd_s h
      refine mw_ald hx hb hK hP 5 40 rfl rfl ia56 dX6_layDeck_56 ea56 ?_
      refine lv_icmp_ge (tgt := 108) hx hb dX6_layDeck_57 (by decide) (fun cc => ?_) (fun cc => ?_)
      · replace h := sw_t h cc
        exact hk49 _ _ _ _ _ h hP hS (lv_sub hl [0, 1, 2, 3, 4, 5] rfl)
      · replace h := sw_f h cc
        refine lv_aload_n hx hb dX6_layDeck_60 rfl (lv_at hl 0 rfl) ?_
        refine lv_iload_n hx hb dX6_layDeck_61 rfl (lv_at hl 2 rfl) ?_
        refine lv_aload_n hx hb dX6_layDeck_62 rfl (lv_at hl 0 rfl) ?_
        refine mw_get hx hb hts hin hown hK hP 6 (by decide) f26 rfl dX6_layDeck_63 ?_
        refine lv_bipush (v := 8) hx hb dX6_layDeck_66 (by decide) ?_
        refine lv_iload_n hx hb dX6_layDeck_68 rfl (lv_at hl 3 rfl) ?_
        refine lv_imul hx hb dX6_layDeck_69 ?_
        refine lv_iload hx hb dX6_layDeck_70 (lv_at hl 5 rfl) ?_
        refine lv_iadd hx hb dX6_layDeck_72 ?_
        obtain ⟨a73, ea73, ia73, h⟩ := swrd_s h
        refine mw_ald hx hb hK hP 6 320 rfl rfl ia73 dX6_layDeck_73 ea73 ?_
        obtain ⟨r74, er74, h⟩ := swbd_s h
        refine mw_calli (As := [.int x2, .int a73]) (rest := []) E (mm_placeOf l D cy ad w49 x2 a73 _ er74) (cwV 2 hts gX6_layDeck_X6_placeOf rfl rfl rfl (by decide +kernel) ⟨Nat.le_of_ble_eq_true rfl, Nat.le_of_ble_eq_true rfl⟩) hK hP rfl hl.1 rfl (Nat.le_of_ble_eq_true rfl) dX6_layDeck_74 ?_
        refine lv_iconst (v := (-1)) hx hb dX6_layDeck_77 (by decide) ?_
        refine lv_icmp_ne (tgt := 102) hx hb dX6_layDeck_78 (by decide) (fun cc => ?_) (fun cc => ?_)
        · replace h := sw_f h cc
          refine lv_iinc (v := (v5 + 1)) (lv' := [(5, .int (v5 + 1)), (0, .ref (ad 0)), (1, .int x1), (2, .int x2), (3, .int x3), (4, .int x4)]) hx hb dX6_layDeck_102 hl (k := 5) rfl rfl (by decide) rfl (fun ls hl => ?_)
          refine lv_goto (tgt := 49) hx hb dX6_layDeck_105 (by decide) ?_
          exact ih49 _ _ _ _ _ h hP hS (lv_sub hl [1, 2, 3, 4, 5, 0] rfl)
        · replace h := sw_t h cc
          refine lv_aload_n hx hb dX6_layDeck_81 rfl (lv_at hl 0 rfl) ?_
          refine lv_iload_n hx hb dX6_layDeck_82 rfl (lv_at hl 1 rfl) ?_
          refine lv_iload_n hx hb dX6_layDeck_83 rfl (lv_at hl 2 rfl) ?_
          refine lv_iload_n hx hb dX6_layDeck_84 rfl (lv_at hl 3 rfl) ?_
          refine lv_aload_n hx hb dX6_layDeck_85 rfl (lv_at hl 0 rfl) ?_
          refine mw_get hx hb hts hin hown hK hP 6 (by decide) f26 rfl dX6_layDeck_86 ?_
          refine lv_bipush (v := 8) hx hb dX6_layDeck_89 (by decide) ?_
          refine lv_iload_n hx hb dX6_layDeck_91 rfl (lv_at hl 3 rfl) ?_
          refine lv_imul hx hb dX6_layDeck_92 ?_
          refine lv_iload hx hb dX6_layDeck_93 (lv_at hl 5 rfl) ?_
          refine lv_iadd hx hb dX6_layDeck_95 ?_
          obtain ⟨a96, ea96, ia96, h⟩ := swrd_s h
          refine mw_ald hx hb hK hP 6 320 rfl rfl ia96 dX6_layDeck_96 ea96 ?_
          refine lv_iload hx hb dX6_layDeck_97 (lv_at hl 4 rfl) ?_
          obtain ⟨u99, er99, h⟩ := swbd_s h
          refine mw_callWv (As := [.int x1, .int x2, .int x3, .int a96, .int x4]) (rest := []) E (mm_lays l D cy ad hJ w49 x1 x2 x3 a96 x4 _ er99) (cwV 5 hts gX6_layDeck_X6_lays rfl rfl rfl (by decide +kernel) ⟨Nat.le_of_ble_eq_true rfl, Nat.le_of_ble_eq_true rfl⟩) hK hP hS rfl hl.1 rfl (Nat.le_of_ble_eq_true rfl) dX6_layDeck_99 (fun H locs hP hS => ?_)
          refine lv_iinc (v := (v5 + 1)) (lv' := [(5, .int (v5 + 1)), (0, .ref (ad 0)), (1, .int x1), (2, .int x2), (3, .int x3), (4, .int x4)]) hx hb dX6_layDeck_102 hl (k := 5) rfl rfl (by decide) rfl (fun ls hl => ?_)
          refine lv_goto (tgt := 49) hx hb dX6_layDeck_105 (by decide) ?_
          exact ih49 _ _ _ _ _ h hP hS (lv_sub hl [1, 2, 3, 4, 5, 0] rfl)
  refine L49 _ (fun v5 w108 H locs ls h hP hS hl => ?_) 64 _ _ _ _ _ h hP hS (lv_sub hl [1, 2, 3, 4, 5, 0] rfl)
  exact W.vret hx hb hr (fun t ht hW => ⟨⟨(), rfl, trivial, mw_end hP ht (sw_in1 h)⟩, hS.F ht⟩) hS.2.2 dX6_layDeck_108 hlocks

/-! merge -/
def mx_merge_L114 (u93 : swU) (v8 : Int32) (kk : Int32 → Int32 → Option (Int32 × swU)) : Nat → Int32 → Int32 → Option (Int32 × swU)
  | 0, _, _ => none
  | n + 1, v7, v9 => if (u93.1 0 12) ≤ v9 then (kk v7 v9) else (if v7 = 0 then (swrd 20 (u93.1 23) v8 fun a137 => swrd 8 (u93.1 14) v9 fun a152 => swrd 80 (u93.1 24) (((4 * v8) + a152)) fun a154 => swbd (mx_isBlocked u93 v9 a137 a154) fun r155 => if (swB r155) = 0 then (mx_merge_L114 u93 v8 kk n 0 (v9 + 1)) else (mx_merge_L114 u93 v8 kk n 1 (v9 + 1))) else (mx_merge_L114 u93 v8 kk n 1 (v9 + 1)))

def mx_merge_L102 (u93 : swU) (kk : Int32 → Int32 → Option (Int32 × swU)) : Nat → Int32 → Int32 → Option (Int32 × swU)
  | 0, _, _ => none
  | n + 1, v7, v8 => if (u93.1 0 22) ≤ v8 then (kk v7 v8) else (mx_merge_L114 u93 v8 (fun v7 v9 => mx_merge_L102 u93 kk n v7 (v8 + 1)) 64 v7 0)

def mx_merge_L302 (r242 : Int32) (v9 : Int32) (kk : Int32 → swU → Option (Int32 × swU)) : Nat → Int32 → swU → Option (Int32 × swU)
  | 0, _, _ => none
  | n + 1, v10, w302 => if 4 ≤ v10 then (kk v10 w302) else (swrd 80 (w302.1 24) (((4 * v9) + v10)) fun a336 => swgd (swix (((4 * ((8 * r242) + v9)) + v10)) 1280) <| swlt (swI w302 7 (((4 * ((8 * r242) + v9)) + v10)).toNatClampNeg a336) fun u337 => mx_merge_L302 r242 v9 kk n (v10 + 1) u337)

def mx_merge_L270 (r242 : Int32) (kk : Int32 → swU → Option (Int32 × swU)) : Nat → Int32 → swU → Option (Int32 × swU)
  | 0, _, _ => none
  | n + 1, v9, w270 => if (w270.1 0 22) ≤ v9 then (kk v9 w270) else (swrd 20 (w270.1 23) v9 fun a297 => swgd (swix (((8 * r242) + v9)) 320) <| swlt (swI w270 6 (((8 * r242) + v9)).toNatClampNeg a297) fun u298 => mx_merge_L302 r242 v9 (fun v10 w344 => mx_merge_L270 r242 kk n (v9 + 1) w344) 64 0 u298)

def mx_merge (u : swU) (x1 : Int32) (x2 : Int32) (x3 : Int32) : Option (Int32 × swU) :=
  swbd (mx_isBranch u x1) fun r3 => if (swB r3) = 0 then (swlt (swI u 0 0 1) fun u40 => some (0, u40)) else (swbd (mx_isBranch u x2) fun r11 => if (swB r11) = 0 then (swlt (swI u 0 0 1) fun u40 => some (0, u40)) else (if x1 = x2 then (swlt (swI u 0 0 2) fun u40 => some (0, u40)) else (swbd (mx_in x3 (-1) 1) fun r29 => if (swB r29) = 0 then (swlt (swI u 0 0 2) fun u40 => some (0, u40)) else (swlt (swI u 0 0 0) fun u40 => swbd (mx_baseOf u40 x1 x2) fun z55 => match z55 with | (r55, u55) => swrd 6 (u55.1 10) x1 fun a65 => swrd 6 (u55.1 10) x2 fun a73 => if x3 = (-1) then (swbd (mx_layDeck u55 r55 a65 a73 0) fun u93 => mx_merge_L102 u93 (fun v7 v8 => if x3 = (-1) then (swbd (mx_clashesOf u93 r55 a65 a73) fun r193 => if 0 < r193 then (swlt (swI u93 0 0 3) fun u227 => some (0, u227)) else (if 8 < (u93.1 0 22) then (swlt (swI u93 0 0 3) fun u227 => some (0, u227)) else (if v7 = 0 then (if (u93.1 0 1) = 40 then (swlt (swI u93 0 0 3) fun u227 => some (0, u227)) else (swlt (swI u93 0 0 0) fun u227 => swbd (mx_edits u227 x1 (-1)) fun z242 => match z242 with | (r242, u242) => swgd (swix r242 40) <| swlt (swI u242 4 r242.toNatClampNeg a73) fun u255 => swgd (swix r242 40) <| swlt (swI u255 5 r242.toNatClampNeg (u255.1 0 22)) fun u266 => mx_merge_L270 r242 (fun v9 w350 => some (r242, w350)) 64 0 u266)) else (swlt (swI u93 0 0 3) fun u227 => some (0, u227))))) else (if 8 < (u93.1 0 22) then (swlt (swI u93 0 0 3) fun u227 => some (0, u227)) else (if v7 = 0 then (if (u93.1 0 1) = 40 then (swlt (swI u93 0 0 3) fun u227 => some (0, u227)) else (swlt (swI u93 0 0 0) fun u227 => swbd (mx_edits u227 x1 (-1)) fun z242 => match z242 with | (r242, u242) => swgd (swix r242 40) <| swlt (swI u242 4 r242.toNatClampNeg a73) fun u255 => swgd (swix r242 40) <| swlt (swI u255 5 r242.toNatClampNeg (u255.1 0 22)) fun u266 => mx_merge_L270 r242 (fun v9 w350 => some (r242, w350)) 64 0 u266)) else (swlt (swI u93 0 0 3) fun u227 => some (0, u227))))) 64 0 0) else (swbd (mx_layDeck u55 r55 a65 a73 x3) fun u93 => mx_merge_L102 u93 (fun v7 v8 => if x3 = (-1) then (swbd (mx_clashesOf u93 r55 a65 a73) fun r193 => if 0 < r193 then (swlt (swI u93 0 0 3) fun u227 => some (0, u227)) else (if 8 < (u93.1 0 22) then (swlt (swI u93 0 0 3) fun u227 => some (0, u227)) else (if v7 = 0 then (if (u93.1 0 1) = 40 then (swlt (swI u93 0 0 3) fun u227 => some (0, u227)) else (swlt (swI u93 0 0 0) fun u227 => swbd (mx_edits u227 x1 (-1)) fun z242 => match z242 with | (r242, u242) => swgd (swix r242 40) <| swlt (swI u242 4 r242.toNatClampNeg a73) fun u255 => swgd (swix r242 40) <| swlt (swI u255 5 r242.toNatClampNeg (u255.1 0 22)) fun u266 => mx_merge_L270 r242 (fun v9 w350 => some (r242, w350)) 64 0 u266)) else (swlt (swI u93 0 0 3) fun u227 => some (0, u227))))) else (if 8 < (u93.1 0 22) then (swlt (swI u93 0 0 3) fun u227 => some (0, u227)) else (if v7 = 0 then (if (u93.1 0 1) = 40 then (swlt (swI u93 0 0 3) fun u227 => some (0, u227)) else (swlt (swI u93 0 0 0) fun u227 => swbd (mx_edits u227 x1 (-1)) fun z242 => match z242 with | (r242, u242) => swgd (swix r242 40) <| swlt (swI u242 4 r242.toNatClampNeg a73) fun u255 => swgd (swix r242 40) <| swlt (swI u255 5 r242.toNatClampNeg (u255.1 0 22)) fun u266 => mx_merge_L270 r242 (fun v9 w350 => some (r242, w350)) 64 0 u266)) else (swlt (swI u93 0 0 3) fun u227 => some (0, u227))))) 64 0 0)))))

abbrev rmX6_merge : Room := { frames := 7, cells := 0, slots := 0, locals := 178 }

set_option maxHeartbeats 4000000 in
set_option maxRecDepth 100000 in
theorem mm_merge (l : Launch) (D : va_G) (cy : Nat → ClassId) (ad : Nat → Nat) (hJ : swJ mw_N ad) (u : swU) (x1 : Int32) (x2 : Int32) (x3 : Int32) (r0 : Int32) (u0 : swU) (h : mx_merge u x1 x2 x3 = some (r0, u0)) : Met l yX6_merge wsX6_merge rmX6_merge (mwC D cy ad u [.ref (ad 0), .int x1, .int x2, .int x3]) (mwQi D cy ad r0 u0) 0 0 (mwA ad) := by
  refine Met.ofW (cc := cX6_merge) (maxL := 11) (ret := (some .int)) (by decide) rfl ?_
  intro p e s m args below meth c s₁ B hml hv
  obtain ⟨ha, hP, hK⟩ := hv
  have hx := B.exec
  have hb := B.bytes
  have hr := B.returns
  have hlocks := B.notSynchronized
  have hts := atoms_spec (ws := wsX6_merge) B.pre
  have hown : s.vm.findClass RX6 = some m.cls := findClass_of_methodNamed B.named
  have E : CallFix p m c cX6_merge 11 s args wsX6_merge RX6 := ⟨hx, hb, hml, hown, hts⟩
  have hin : ∀ w ∈ wsX60, w ∈ wsX6_merge := by decide +kernel
  have f144 : (Cond.fieldLink RX6 144 "SlidewardenModel" "deck" "I").before args s = true := hts _ (by decide +kernel)
  have f155 : (Cond.fieldLink RX6 155 "SlidewardenModel" "rules" "I").before args s = true := hts _ (by decide +kernel)
  have f20 : (Cond.fieldLink RX6 20 "SlidewardenModel" "other" "[I").before args s = true := hts _ (by decide +kernel)
  have f23 : (Cond.fieldLink RX6 23 "SlidewardenModel" "many" "[I").before args s = true := hts _ (by decide +kernel)
  have f26 : (Cond.fieldLink RX6 26 "SlidewardenModel" "row" "[I").before args s = true := hts _ (by decide +kernel)
  have f29 : (Cond.fieldLink RX6 29 "SlidewardenModel" "value" "[I").before args s = true := hts _ (by decide +kernel)
  have f35 : (Cond.fieldLink RX6 35 "SlidewardenModel" "head" "[I").before args s = true := hts _ (by decide +kernel)
  have f44 : (Cond.fieldLink RX6 44 "SlidewardenModel" "object" "[I").before args s = true := hts _ (by decide +kernel)
  have f62 : (Cond.fieldLink RX6 62 "SlidewardenModel" "deckRow" "[I").before args s = true := hts _ (by decide +kernel)
  have f65 : (Cond.fieldLink RX6 65 "SlidewardenModel" "deckValue" "[I").before args s = true := hts _ (by decide +kernel)
  have f7 : (Cond.fieldLink RX6 7 "SlidewardenModel" "versions" "I").before args s = true := hts _ (by decide +kernel)
  have f78 : (Cond.fieldLink RX6 78 "SlidewardenModel" "thrown" "I").before args s = true := hts _ (by decide +kernel)
  have hS : va_S (mwA ad) s.heap s.heap [] := va_S.rf
  obtain ⟨ls, hl, hent⟩ := sw_entry m (n := 11) ha (Nat.le_of_ble_eq_true rfl)
  rw [hent]
  have hl : lv_has ls 11 [(0, .ref (ad 0)), (1, .int x1), (2, .int x2), (3, .int x3)] := hl
  unfold mx_merge at h
  refine lv_aload_n hx hb dX6_merge_0 rfl (lv_at hl 0 rfl) ?_
  refine lv_aload_n hx hb dX6_merge_1 rfl (lv_at hl 0 rfl) ?_
  refine lv_iload_n hx hb dX6_merge_2 rfl (lv_at hl 1 rfl) ?_
  obtain ⟨r3, er3, h⟩ := swbd_s h
  refine mw_calli (As := [.int x1]) (rest := [.ref (ad 0)]) E (mm_isBranch l D cy ad u x1 _ er3) (cwV 1 hts gX6_merge_X6_isBranch rfl rfl rfl (by decide +kernel) ⟨Nat.le_of_ble_eq_true rfl, Nat.le_of_ble_eq_true rfl⟩) hK hP rfl hl.1 rfl (Nat.le_of_ble_eq_true rfl) dX6_merge_3 ?_
  refine lv_if_eq (tgt := 17) hx hb dX6_merge_6 (by decide) (fun cc => ?_) (fun cc => ?_)
  · replace h := sw_t h cc
    refine lv_iconst (v := 1) hx hb dX6_merge_17 (by decide) ?_
    refine lv_goto (tgt := 40) hx hb dX6_merge_18 (by decide) ?_
    obtain ⟨u40, eu40, h⟩ := swlt_s h
    refine mw_put hx hb hts hin hown hK hJ hP hS 0 (by decide) rfl f78 eu40 dX6_merge_40 (fun H locs hP hS => ?_)
    refine lv_aload_n hx hb dX6_merge_43 rfl (lv_at hl 0 rfl) ?_
    refine mw_get hx hb hts hin hown hK hP 0 (by decide) f78 rfl dX6_merge_44 ?_
    refine sw_top (x := 1) (by rw [eu40]; rfl) ?_
    refine lv_if_le (tgt := 52) hx hb dX6_merge_47 (by decide) (fun cc => absurd cc (by decide)) (fun cc => ?_)
    refine lv_iconst (v := 0) hx hb dX6_merge_50 (by decide) ?_
    exact W.iret hx hb hr (fun t ht hW => ⟨⟨_, (), rfl, (sw_inj h).1, mw_end hP ht (sw_inj h).2⟩, hS.F ht⟩) hS.2.2 dX6_merge_51 hlocks
  · replace h := sw_f h cc
    refine lv_aload_n hx hb dX6_merge_9 rfl (lv_at hl 0 rfl) ?_
    refine lv_iload_n hx hb dX6_merge_10 rfl (lv_at hl 2 rfl) ?_
    obtain ⟨r11, er11, h⟩ := swbd_s h
    refine mw_calli (As := [.int x2]) (rest := [.ref (ad 0)]) E (mm_isBranch l D cy ad u x2 _ er11) (cwV 1 hts gX6_merge_X6_isBranch rfl rfl rfl (by decide +kernel) ⟨Nat.le_of_ble_eq_true rfl, Nat.le_of_ble_eq_true rfl⟩) hK hP rfl hl.1 rfl (Nat.le_of_ble_eq_true rfl) dX6_merge_11 ?_
    refine lv_if_ne (tgt := 21) hx hb dX6_merge_14 (by decide) (fun cc => ?_) (fun cc => ?_)
    · replace h := sw_f h cc
      refine lv_iload_n hx hb dX6_merge_21 rfl (lv_at hl 1 rfl) ?_
      refine lv_iload_n hx hb dX6_merge_22 rfl (lv_at hl 2 rfl) ?_
      refine lv_icmp_eq (tgt := 35) hx hb dX6_merge_23 (by decide) (fun cc => ?_) (fun cc => ?_)
      · replace h := sw_t h cc
        refine lv_iconst (v := 2) hx hb dX6_merge_35 (by decide) ?_
        refine lv_goto (tgt := 40) hx hb dX6_merge_36 (by decide) ?_
        obtain ⟨u40, eu40, h⟩ := swlt_s h
        refine mw_put hx hb hts hin hown hK hJ hP hS 0 (by decide) rfl f78 eu40 dX6_merge_40 (fun H locs hP hS => ?_)
        refine lv_aload_n hx hb dX6_merge_43 rfl (lv_at hl 0 rfl) ?_
        refine mw_get hx hb hts hin hown hK hP 0 (by decide) f78 rfl dX6_merge_44 ?_
        refine sw_top (x := 2) (by rw [eu40]; rfl) ?_
        refine lv_if_le (tgt := 52) hx hb dX6_merge_47 (by decide) (fun cc => absurd cc (by decide)) (fun cc => ?_)
        refine lv_iconst (v := 0) hx hb dX6_merge_50 (by decide) ?_
        exact W.iret hx hb hr (fun t ht hW => ⟨⟨_, (), rfl, (sw_inj h).1, mw_end hP ht (sw_inj h).2⟩, hS.F ht⟩) hS.2.2 dX6_merge_51 hlocks
      · replace h := sw_f h cc
        refine lv_iload_n hx hb dX6_merge_26 rfl (lv_at hl 3 rfl) ?_
        refine lv_iconst (v := (-1)) hx hb dX6_merge_27 (by decide) ?_
        refine lv_iconst (v := 1) hx hb dX6_merge_28 (by decide) ?_
        obtain ⟨r29, er29, h⟩ := swbd_s h
        refine sw_callSi (As := [.int x3, .int (-1), .int 1]) (rest := [.ref (ad 0)]) E (mm_in l x3 (-1) 1 _ er29) (va_cwS 3 hts gX6_merge_X6_in rfl rfl rfl (by decide +kernel) ⟨Nat.le_of_ble_eq_true rfl, Nat.le_of_ble_eq_true rfl⟩) rfl hl.1 rfl (Nat.le_of_ble_eq_true rfl) dX6_merge_29 ?_
        refine lv_if_ne (tgt := 39) hx hb dX6_merge_32 (by decide) (fun cc => ?_) (fun cc => ?_)
        · replace h := sw_f h cc
          refine lv_iconst (v := 0) hx hb dX6_merge_39 (by decide) ?_
          obtain ⟨u40, eu40, h⟩ := swlt_s h
          refine mw_put hx hb hts hin hown hK hJ hP hS 0 (by decide) rfl f78 eu40 dX6_merge_40 (fun H locs hP hS => ?_)
          refine lv_aload_n hx hb dX6_merge_43 rfl (lv_at hl 0 rfl) ?_
          refine mw_get hx hb hts hin hown hK hP 0 (by decide) f78 rfl dX6_merge_44 ?_
          refine sw_top (x := 0) (by rw [eu40]; rfl) ?_
          refine lv_if_le (tgt := 52) hx hb dX6_merge_47 (by decide) (fun cc => ?_) (fun cc => absurd (by decide) cc)
          refine lv_aload_n hx hb dX6_merge_52 rfl (lv_at hl 0 rfl) ?_
          refine lv_iload_n hx hb dX6_merge_53 rfl (lv_at hl 1 rfl) ?_
          refine lv_iload_n hx hb dX6_merge_54 rfl (lv_at hl 2 rfl) ?_
          obtain ⟨⟨r55, u55⟩, er55, h⟩ := swbd_s h
          refine mw_callWi (As := [.int x1, .int x2]) (rest := []) E (mm_baseOf l D cy ad hJ u40 x1 x2 _ _ er55) (cwV 2 hts gX6_merge_X6_baseOf rfl rfl rfl (by decide +kernel) ⟨Nat.le_of_ble_eq_true rfl, Nat.le_of_ble_eq_true rfl⟩) hK hP hS rfl hl.1 rfl (Nat.le_of_ble_eq_true rfl) dX6_merge_55 (fun H locs hP hS => ?_)
          refine lv_istore (lv' := [(4, .int r55), (0, .ref (ad 0)), (1, .int x1), (2, .int x2), (3, .int x3)]) hx hb dX6_merge_58 hl (by decide) rfl (fun ls hl => ?_)
          refine lv_aload_n hx hb dX6_merge_60 rfl (lv_at hl 1 rfl) ?_
          refine mw_get hx hb hts hin hown hK hP 10 (by decide) f35 rfl dX6_merge_61 ?_
          refine lv_iload_n hx hb dX6_merge_64 rfl (lv_at hl 2 rfl) ?_
          obtain ⟨a65, ea65, ia65, h⟩ := swrd_s h
          refine mw_ald hx hb hK hP 10 6 rfl rfl ia65 dX6_merge_65 ea65 ?_
          refine lv_istore (lv' := [(5, .int a65), (4, .int r55), (0, .ref (ad 0)), (1, .int x1), (2, .int x2), (3, .int x3)]) hx hb dX6_merge_66 hl (by decide) rfl (fun ls hl => ?_)
          refine lv_aload_n hx hb dX6_merge_68 rfl (lv_at hl 2 rfl) ?_
          refine mw_get hx hb hts hin hown hK hP 10 (by decide) f35 rfl dX6_merge_69 ?_
          refine lv_iload_n hx hb dX6_merge_72 rfl (lv_at hl 4 rfl) ?_
          obtain ⟨a73, ea73, ia73, h⟩ := swrd_s h
          refine mw_ald hx hb hK hP 10 6 rfl rfl ia73 dX6_merge_73 ea73 ?_
          refine lv_istore (lv' := [(6, .int a73), (5, .int a65), (4, .int r55), (0, .ref (ad 0)), (1, .int x1), (2, .int x2), (3, .int x3)]) hx hb dX6_merge_74 hl (by decide) rfl (fun ls hl => ?_)
          refine lv_aload_n hx hb dX6_merge_76 rfl (lv_at hl 3 rfl) ?_
          refine lv_iload hx hb dX6_merge_77 (lv_at hl 2 rfl) ?_
          refine lv_iload hx hb dX6_merge_79 (lv_at hl 1 rfl) ?_
          refine lv_iload hx hb dX6_merge_81 (lv_at hl 0 rfl) ?_
          refine lv_iload_n hx hb dX6_merge_83 rfl (lv_at hl 6 rfl) ?_
          refine lv_iconst (v := (-1)) hx hb dX6_merge_84 (by decide) ?_
          refine lv_icmp_ne (tgt := 92) hx hb dX6_merge_85 (by decide) (fun cc => ?_) (fun cc => ?_)
          · replace h := sw_f h cc
            refine lv_iload_n hx hb dX6_merge_92 rfl (lv_at hl 6 rfl) ?_
            obtain ⟨u93, er93, h⟩ := swbd_s h
            refine mw_callWv (As := [.int r55, .int a65, .int a73, .int x3]) (rest := []) E (mm_layDeck l D cy ad hJ u55 r55 a65 a73 x3 _ er93) (cwV 4 hts gX6_merge_X6_layDeck rfl rfl rfl (by decide +kernel) ⟨Nat.le_of_ble_eq_true rfl, Nat.le_of_ble_eq_true rfl⟩) hK hP hS rfl hl.1 rfl (Nat.le_of_ble_eq_true rfl) dX6_merge_93 (fun H locs hP hS => ?_)
            refine lv_iconst (v := 0) hx hb dX6_merge_96 (by decide) ?_
            refine lv_istore (lv' := [(7, .int 0), (6, .int a73), (5, .int a65), (4, .int r55), (0, .ref (ad 0)), (1, .int x1), (2, .int x2), (3, .int x3)]) hx hb dX6_merge_97 hl (by decide) rfl (fun ls hl => ?_)
            refine lv_iconst (v := 0) hx hb dX6_merge_99 (by decide) ?_
            refine lv_istore (lv' := [(8, .int 0), (7, .int 0), (6, .int a73), (5, .int a65), (4, .int r55), (0, .ref (ad 0)), (1, .int x1), (2, .int x2), (3, .int x3)]) hx hb dX6_merge_100 hl (by decide) rfl (fun ls hl => ?_)
            have L102 : ∀ (kk : Int32 → Int32 → Option (Int32 × swU)), (∀ (v7 : Int32) (v8 : Int32) (H : Heap) (locs : List Loc) (ls : Array Slot), kk v7 v8 = some (r0, u0) → mwP D cy ad u93 H → va_S (mwA ad) s.heap H locs → lv_has ls 11 [(0, .ref (ad 0)), (1, .int x1), (2, .int x2), (3, .int x3), (4, .int r55), (5, .int a65), (6, .int a73), (7, .int v7), (8, .int v8)] → W p l e (headSpec wsX6_merge rmX6_merge).room s m args below meth c H locs 0 0 (MQ below (mwQi D cy ad r0 u0) args s 0 0 (mwA ad)) (F0 m 180 ls [])) → ∀ (n : Nat) (v7 : Int32) (v8 : Int32) (H : Heap) (locs : List Loc) (ls : Array Slot), mx_merge_L102 u93 kk n v7 v8 = some (r0, u0) → mwP D cy ad u93 H → va_S (mwA ad) s.heap H locs → lv_has ls 11 [(0, .ref (ad 0)), (1, .int x1), (2, .int x2), (3, .int x3), (4, .int r55), (5, .int a65), (6, .int a73), (7, .int v7), (8, .int v8)] → W p l e (headSpec wsX6_merge rmX6_merge).room s m args below meth c H locs 0 0 (MQ below (mwQi D cy ad r0 u0) args s 0 0 (mwA ad)) (F0 m 102 ls []) := by
              intro kk hk102 n
              induction n with
              | zero => intro v7 v8 H locs ls h hP hS hl; rw [mx_merge_L102] at h; cases h
              | succ n ih102 =>
                intro v7 v8 H locs ls h hP hS hl
                rw [mx_merge_L102] at h
                refine lv_iload hx hb dX6_merge_102 (lv_at hl 8 rfl) ?_
                refine lv_aload_n hx hb dX6_merge_104 rfl (lv_at hl 0 rfl) ?_
                refine mw_get hx hb hts hin hown hK hP 22 (by decide) f144 rfl dX6_merge_105 ?_
                refine lv_icmp_ge (tgt := 180) hx hb dX6_merge_108 (by decide) (fun cc => ?_) (fun cc => ?_)
                · replace h := sw_t h cc
                  exact hk102 _ _ _ _ _ h hP hS (lv_sub hl [0, 1, 2, 3, 4, 5, 6, 7, 8] rfl)
                · replace h := sw_f h cc
                  refine lv_iconst (v := 0) hx hb dX6_merge_111 (by decide) ?_
                  refine lv_istore (lv' := [(9, .int 0), (0, .ref (ad 0)), (1, .int x1), (2, .int x2), (3, .int x3), (4, .int r55), (5, .int a65), (6, .int a73), (7, .int v7), (8, .int v8)]) hx hb dX6_merge_112 hl (by decide) rfl (fun ls hl => ?_)
                  have L114 : ∀ (kk : Int32 → Int32 → Option (Int32 × swU)), (∀ (v7 : Int32) (v9 : Int32) (H : Heap) (locs : List Loc) (ls : Array Slot), kk v7 v9 = some (r0, u0) → mwP D cy ad u93 H → va_S (mwA ad) s.heap H locs → lv_has ls 11 [(0, .ref (ad 0)), (1, .int x1), (2, .int x2), (3, .int x3), (4, .int r55), (5, .int a65), (6, .int a73), (7, .int v7), (8, .int v8), (9, .int v9)] → W p l e (headSpec wsX6_merge rmX6_merge).room s m args below meth c H locs 0 0 (MQ below (mwQi D cy ad r0 u0) args s 0 0 (mwA ad)) (F0 m 174 ls [])) → ∀ (n : Nat) (v7 : Int32) (v9 : Int32) (H : Heap) (locs : List Loc) (ls : Array Slot), mx_merge_L114 u93 v8 kk n v7 v9 = some (r0, u0) → mwP D cy ad u93 H → va_S (mwA ad) s.heap H locs → lv_has ls 11 [(0, .ref (ad 0)), (1, .int x1), (2, .int x2), (3, .int x3), (4, .int r55), (5, .int a65), (6, .int a73), (7, .int v7), (8, .int v8), (9, .int v9)] → W p l e (headSpec wsX6_merge rmX6_merge).room s m args below meth c H locs 0 0 (MQ below (mwQi D cy ad r0 u0) args s 0 0 (mwA ad)) (F0 m 114 ls []) := by
                    intro kk hk114 n
                    induction n with
                    | zero => intro v7 v9 H locs ls h hP hS hl; rw [mx_merge_L114] at h; cases h
                    | succ n ih114 =>
                      intro v7 v9 H locs ls h hP hS hl
                      rw [mx_merge_L114] at h
                      refine lv_iload hx hb dX6_merge_114 (lv_at hl 9 rfl) ?_
                      refine lv_aload_n hx hb dX6_merge_116 rfl (lv_at hl 0 rfl) ?_
                      refine mw_get hx hb hts hin hown hK hP 12 (by decide) f155 rfl dX6_merge_117 ?_
                      refine lv_icmp_ge (tgt := 174) hx hb dX6_merge_120 (by decide) (fun cc => ?_) (fun cc => ?_)
                      · replace h := sw_t h cc
                        exact hk114 _ _ _ _ _ h hP hS (lv_sub hl [0, 1, 2, 3, 4, 5, 6, 7, 8, 9] rfl)
                      · replace h := sw_f h cc
                        refine lv_iload hx hb dX6_merge_123 (lv_at hl 7 rfl) ?_
                        refine lv_if_ne (tgt := 161) hx hb dX6_merge_125 (by decide) (fun cc => ?_) (fun cc => ?_)
                        · replace h := sw_f h cc
                          refine lv_iconst (v := 1) hx hb dX6_merge_161 (by decide) ?_
                          refine lv_goto (tgt := 166) hx hb dX6_merge_162 (by decide) ?_
                          refine lv_istore (lv' := [(7, .int 1), (0, .ref (ad 0)), (1, .int x1), (2, .int x2), (3, .int x3), (4, .int r55), (5, .int a65), (6, .int a73), (8, .int v8), (9, .int v9)]) hx hb dX6_merge_166 hl (by decide) rfl (fun ls hl => ?_)
                          refine lv_iinc (v := (v9 + 1)) (lv' := [(9, .int (v9 + 1)), (7, .int 1), (0, .ref (ad 0)), (1, .int x1), (2, .int x2), (3, .int x3), (4, .int r55), (5, .int a65), (6, .int a73), (8, .int v8)]) hx hb dX6_merge_168 hl (k := 9) rfl rfl (by decide) rfl (fun ls hl => ?_)
                          refine lv_goto (tgt := 114) hx hb dX6_merge_171 (by decide) ?_
                          exact ih114 _ _ _ _ _ h hP hS (lv_sub hl [2, 3, 4, 5, 6, 7, 8, 1, 9, 0] rfl)
                        · replace h := sw_t h cc
                          refine lv_aload_n hx hb dX6_merge_128 rfl (lv_at hl 0 rfl) ?_
                          refine lv_iload hx hb dX6_merge_129 (lv_at hl 9 rfl) ?_
                          refine lv_aload_n hx hb dX6_merge_131 rfl (lv_at hl 0 rfl) ?_
                          refine mw_get hx hb hts hin hown hK hP 23 (by decide) f62 rfl dX6_merge_132 ?_
                          refine lv_iload hx hb dX6_merge_135 (lv_at hl 8 rfl) ?_
                          obtain ⟨a137, ea137, ia137, h⟩ := swrd_s h
                          refine mw_ald hx hb hK hP 23 20 rfl rfl ia137 dX6_merge_137 ea137 ?_
                          refine lv_aload_n hx hb dX6_merge_138 rfl (lv_at hl 0 rfl) ?_
                          refine mw_get hx hb hts hin hown hK hP 24 (by decide) f65 rfl dX6_merge_139 ?_
                          refine lv_iconst (v := 4) hx hb dX6_merge_142 (by decide) ?_
                          refine lv_iload hx hb dX6_merge_143 (lv_at hl 8 rfl) ?_
                          refine lv_imul hx hb dX6_merge_145 ?_
                          refine lv_aload_n hx hb dX6_merge_146 rfl (lv_at hl 0 rfl) ?_
                          refine mw_get hx hb hts hin hown hK hP 14 (by decide) f44 rfl dX6_merge_147 ?_
                          refine lv_iload hx hb dX6_merge_150 (lv_at hl 9 rfl) ?_
                          obtain ⟨a152, ea152, ia152, h⟩ := swrd_s h
                          refine mw_ald hx hb hK hP 14 8 rfl rfl ia152 dX6_merge_152 ea152 ?_
                          refine lv_iadd hx hb dX6_merge_153 ?_
                          obtain ⟨a154, ea154, ia154, h⟩ := swrd_s h
                          refine mw_ald hx hb hK hP 24 80 rfl rfl ia154 dX6_merge_154 ea154 ?_
                          obtain ⟨r155, er155, h⟩ := swbd_s h
                          refine mw_calli (As := [.int v9, .int a137, .int a154]) (rest := []) E (mm_isBlocked l D cy ad u93 v9 a137 a154 _ er155) (cwV 3 hts gX6_merge_X6_isBlocked rfl rfl rfl (by decide +kernel) ⟨Nat.le_of_ble_eq_true rfl, Nat.le_of_ble_eq_true rfl⟩) hK hP rfl hl.1 rfl (Nat.le_of_ble_eq_true rfl) dX6_merge_155 ?_
                          refine lv_if_eq (tgt := 165) hx hb dX6_merge_158 (by decide) (fun cc => ?_) (fun cc => ?_)
                          · replace h := sw_t h cc
                            refine lv_iconst (v := 0) hx hb dX6_merge_165 (by decide) ?_
                            refine lv_istore (lv' := [(7, .int 0), (0, .ref (ad 0)), (1, .int x1), (2, .int x2), (3, .int x3), (4, .int r55), (5, .int a65), (6, .int a73), (8, .int v8), (9, .int v9)]) hx hb dX6_merge_166 hl (by decide) rfl (fun ls hl => ?_)
                            refine lv_iinc (v := (v9 + 1)) (lv' := [(9, .int (v9 + 1)), (7, .int 0), (0, .ref (ad 0)), (1, .int x1), (2, .int x2), (3, .int x3), (4, .int r55), (5, .int a65), (6, .int a73), (8, .int v8)]) hx hb dX6_merge_168 hl (k := 9) rfl rfl (by decide) rfl (fun ls hl => ?_)
                            refine lv_goto (tgt := 114) hx hb dX6_merge_171 (by decide) ?_
                            exact ih114 _ _ _ _ _ h hP hS (lv_sub hl [2, 3, 4, 5, 6, 7, 8, 1, 9, 0] rfl)
                          · replace h := sw_f h cc
                            refine lv_iconst (v := 1) hx hb dX6_merge_161 (by decide) ?_
                            refine lv_goto (tgt := 166) hx hb dX6_merge_162 (by decide) ?_
                            refine lv_istore (lv' := [(7, .int 1), (0, .ref (ad 0)), (1, .int x1), (2, .int x2), (3, .int x3), (4, .int r55), (5, .int a65), (6, .int a73), (8, .int v8), (9, .int v9)]) hx hb dX6_merge_166 hl (by decide) rfl (fun ls hl => ?_)
                            refine lv_iinc (v := (v9 + 1)) (lv' := [(9, .int (v9 + 1)), (7, .int 1), (0, .ref (ad 0)), (1, .int x1), (2, .int x2), (3, .int x3), (4, .int r55), (5, .int a65), (6, .int a73), (8, .int v8)]) hx hb dX6_merge_168 hl (k := 9) rfl rfl (by decide) rfl (fun ls hl => ?_)
                            refine lv_goto (tgt := 114) hx hb dX6_merge_171 (by decide) ?_
                            exact ih114 _ _ _ _ _ h hP hS (lv_sub hl [2, 3, 4, 5, 6, 7, 8, 1, 9, 0] rfl)
                  refine L114 _ (fun v7 v9 H locs ls h hP hS hl => ?_) 64 _ _ _ _ _ h hP hS (lv_sub hl [1, 2, 3, 4, 5, 6, 7, 8, 9, 0] rfl)
                  refine lv_iinc (v := (v8 + 1)) (lv' := [(8, .int (v8 + 1)), (0, .ref (ad 0)), (1, .int x1), (2, .int x2), (3, .int x3), (4, .int r55), (5, .int a65), (6, .int a73), (7, .int v7), (9, .int v9)]) hx hb dX6_merge_174 hl (k := 8) rfl rfl (by decide) rfl (fun ls hl => ?_)
                  refine lv_goto (tgt := 102) hx hb dX6_merge_177 (by decide) ?_
                  exact ih102 _ _ _ _ _ h hP hS (lv_sub hl [1, 2, 3, 4, 5, 6, 7, 8, 0] rfl)
            refine L102 _ (fun v7 v8 H locs ls h hP hS hl => ?_) 64 _ _ _ _ _ h hP hS (lv_sub hl [5, 6, 7, 8, 4, 3, 2, 1, 0] rfl)
            refine lv_aload_n hx hb dX6_merge_180 rfl (lv_at hl 0 rfl) ?_
            refine lv_iload_n hx hb dX6_merge_181 rfl (lv_at hl 3 rfl) ?_
            refine lv_iconst (v := (-1)) hx hb dX6_merge_182 (by decide) ?_
            refine lv_icmp_ne (tgt := 199) hx hb dX6_merge_183 (by decide) (fun cc => ?_) (fun cc => ?_)
            · replace h := sw_f h cc
              refine lv_aload_n hx hb dX6_merge_199 rfl (lv_at hl 0 rfl) ?_
              refine mw_get hx hb hts hin hown hK hP 22 (by decide) f144 rfl dX6_merge_200 ?_
              refine lv_bipush (v := 8) hx hb dX6_merge_203 (by decide) ?_
              refine lv_icmp_gt (tgt := 222) hx hb dX6_merge_205 (by decide) (fun cc => ?_) (fun cc => ?_)
              · replace h := sw_t h cc
                refine lv_iconst (v := 3) hx hb dX6_merge_222 (by decide) ?_
                refine lv_goto (tgt := 227) hx hb dX6_merge_223 (by decide) ?_
                obtain ⟨u227, eu227, h⟩ := swlt_s h
                refine mw_put hx hb hts hin hown hK hJ hP hS 0 (by decide) rfl f78 eu227 dX6_merge_227 (fun H locs hP hS => ?_)
                refine lv_aload_n hx hb dX6_merge_230 rfl (lv_at hl 0 rfl) ?_
                refine mw_get hx hb hts hin hown hK hP 0 (by decide) f78 rfl dX6_merge_231 ?_
                refine sw_top (x := 3) (by rw [eu227]; rfl) ?_
                refine lv_if_le (tgt := 239) hx hb dX6_merge_234 (by decide) (fun cc => absurd cc (by decide)) (fun cc => ?_)
                refine lv_iconst (v := 0) hx hb dX6_merge_237 (by decide) ?_
                exact W.iret hx hb hr (fun t ht hW => ⟨⟨_, (), rfl, (sw_inj h).1, mw_end hP ht (sw_inj h).2⟩, hS.F ht⟩) hS.2.2 dX6_merge_238 hlocks
              · replace h := sw_f h cc
                refine lv_iload hx hb dX6_merge_208 (lv_at hl 7 rfl) ?_
                refine lv_if_ne (tgt := 222) hx hb dX6_merge_210 (by decide) (fun cc => ?_) (fun cc => ?_)
                · replace h := sw_f h cc
                  refine lv_iconst (v := 3) hx hb dX6_merge_222 (by decide) ?_
                  refine lv_goto (tgt := 227) hx hb dX6_merge_223 (by decide) ?_
                  obtain ⟨u227, eu227, h⟩ := swlt_s h
                  refine mw_put hx hb hts hin hown hK hJ hP hS 0 (by decide) rfl f78 eu227 dX6_merge_227 (fun H locs hP hS => ?_)
                  refine lv_aload_n hx hb dX6_merge_230 rfl (lv_at hl 0 rfl) ?_
                  refine mw_get hx hb hts hin hown hK hP 0 (by decide) f78 rfl dX6_merge_231 ?_
                  refine sw_top (x := 3) (by rw [eu227]; rfl) ?_
                  refine lv_if_le (tgt := 239) hx hb dX6_merge_234 (by decide) (fun cc => absurd cc (by decide)) (fun cc => ?_)
                  refine lv_iconst (v := 0) hx hb dX6_merge_237 (by decide) ?_
                  exact W.iret hx hb hr (fun t ht hW => ⟨⟨_, (), rfl, (sw_inj h).1, mw_end hP ht (sw_inj h).2⟩, hS.F ht⟩) hS.2.2 dX6_merge_238 hlocks
                · replace h := sw_t h cc
                  refine lv_aload_n hx hb dX6_merge_213 rfl (lv_at hl 0 rfl) ?_
                  refine mw_get hx hb hts hin hown hK hP 1 (by decide) f7 rfl dX6_merge_214 ?_
                  refine lv_bipush (v := 40) hx hb dX6_merge_217 (by decide) ?_
                  refine lv_icmp_ne (tgt := 226) hx hb dX6_merge_219 (by decide) (fun cc => ?_) (fun cc => ?_)
                  · replace h := sw_f h cc
                    refine lv_iconst (v := 0) hx hb dX6_merge_226 (by decide) ?_
                    obtain ⟨u227, eu227, h⟩ := swlt_s h
                    refine mw_put hx hb hts hin hown hK hJ hP hS 0 (by decide) rfl f78 eu227 dX6_merge_227 (fun H locs hP hS => ?_)
                    refine lv_aload_n hx hb dX6_merge_230 rfl (lv_at hl 0 rfl) ?_
                    refine mw_get hx hb hts hin hown hK hP 0 (by decide) f78 rfl dX6_merge_231 ?_
                    refine sw_top (x := 0) (by rw [eu227]; rfl) ?_
                    refine lv_if_le (tgt := 239) hx hb dX6_merge_234 (by decide) (fun cc => ?_) (fun cc => absurd (by decide) cc)
                    refine lv_aload_n hx hb dX6_merge_239 rfl (lv_at hl 0 rfl) ?_
                    refine lv_iload_n hx hb dX6_merge_240 rfl (lv_at hl 1 rfl) ?_
                    refine lv_iconst (v := (-1)) hx hb dX6_merge_241 (by decide) ?_
                    obtain ⟨⟨r242, u242⟩, er242, h⟩ := swbd_s h
                    refine mw_callWi (As := [.int x1, .int (-1)]) (rest := []) E (mm_edits l D cy ad hJ u227 x1 (-1) _ _ er242) (cwV 2 hts gX6_merge_X6_edits rfl rfl rfl (by decide +kernel) ⟨Nat.le_of_ble_eq_true rfl, Nat.le_of_ble_eq_true rfl⟩) hK hP hS rfl hl.1 rfl (Nat.le_of_ble_eq_true rfl) dX6_merge_242 (fun H locs hP hS => ?_)
                    refine lv_istore (lv' := [(8, .int r242), (0, .ref (ad 0)), (1, .int x1), (2, .int x2), (3, .int x3), (4, .int r55), (5, .int a65), (6, .int a73), (7, .int v7)]) hx hb dX6_merge_245 hl (by decide) rfl (fun ls hl => ?_)
                    refine lv_aload_n hx hb dX6_merge_247 rfl (lv_at hl 1 rfl) ?_
                    refine mw_get hx hb hts hin hown hK hP 4 (by decide) f20 rfl dX6_merge_248 ?_
                    refine lv_iload hx hb dX6_merge_251 (lv_at hl 0 rfl) ?_
                    refine lv_iload hx hb dX6_merge_253 (lv_at hl 7 rfl) ?_
                    obtain ⟨iu255, h⟩ := swgd_s h
                    obtain ⟨u255, eu255, h⟩ := swlt_s h
                    refine mw_ast hx hb hK hJ hP hS 4 40 rfl (by decide) rfl rfl (swix_s iu255) eu255 dX6_merge_255 (fun H locs hP hS => ?_)
                    refine lv_aload_n hx hb dX6_merge_256 rfl (lv_at hl 1 rfl) ?_
                    refine mw_get hx hb hts hin hown hK hP 5 (by decide) f23 rfl dX6_merge_257 ?_
                    refine lv_iload hx hb dX6_merge_260 (lv_at hl 0 rfl) ?_
                    refine lv_aload_n hx hb dX6_merge_262 rfl (lv_at hl 1 rfl) ?_
                    refine mw_get hx hb hts hin hown hK hP 22 (by decide) f144 rfl dX6_merge_263 ?_
                    obtain ⟨iu266, h⟩ := swgd_s h
                    obtain ⟨u266, eu266, h⟩ := swlt_s h
                    refine mw_ast hx hb hK hJ hP hS 5 40 rfl (by decide) rfl rfl (swix_s iu266) eu266 dX6_merge_266 (fun H locs hP hS => ?_)
                    refine lv_iconst (v := 0) hx hb dX6_merge_267 (by decide) ?_
                    refine lv_istore (lv' := [(9, .int 0), (8, .int r242), (0, .ref (ad 0)), (1, .int x1), (2, .int x2), (3, .int x3), (4, .int r55), (5, .int a65), (6, .int a73), (7, .int v7)]) hx hb dX6_merge_268 hl (by decide) rfl (fun ls hl => ?_)
                    have L270 : ∀ (kk : Int32 → swU → Option (Int32 × swU)), (∀ (v9 : Int32) (w270 : swU) (H : Heap) (locs : List Loc) (ls : Array Slot), kk v9 w270 = some (r0, u0) → mwP D cy ad w270 H → va_S (mwA ad) s.heap H locs → lv_has ls 11 [(0, .ref (ad 0)), (1, .int x1), (2, .int x2), (3, .int x3), (4, .int r55), (5, .int a65), (6, .int a73), (7, .int v7), (8, .int r242), (9, .int v9)] → W p l e (headSpec wsX6_merge rmX6_merge).room s m args below meth c H locs 0 0 (MQ below (mwQi D cy ad r0 u0) args s 0 0 (mwA ad)) (F0 m 350 ls [])) → ∀ (n : Nat) (v9 : Int32) (w270 : swU) (H : Heap) (locs : List Loc) (ls : Array Slot), mx_merge_L270 r242 kk n v9 w270 = some (r0, u0) → mwP D cy ad w270 H → va_S (mwA ad) s.heap H locs → lv_has ls 11 [(0, .ref (ad 0)), (1, .int x1), (2, .int x2), (3, .int x3), (4, .int r55), (5, .int a65), (6, .int a73), (7, .int v7), (8, .int r242), (9, .int v9)] → W p l e (headSpec wsX6_merge rmX6_merge).room s m args below meth c H locs 0 0 (MQ below (mwQi D cy ad r0 u0) args s 0 0 (mwA ad)) (F0 m 270 ls []) := by
                      intro kk hk270 n
                      induction n with
                      | zero => intro v9 w270 H locs ls h hP hS hl; rw [mx_merge_L270] at h; cases h
                      | succ n ih270 =>
                        intro v9 w270 H locs ls h hP hS hl
                        rw [mx_merge_L270] at h
                        refine lv_iload hx hb dX6_merge_270 (lv_at hl 9 rfl) ?_
                        refine lv_aload_n hx hb dX6_merge_272 rfl (lv_at hl 0 rfl) ?_
                        refine mw_get hx hb hts hin hown hK hP 22 (by decide) f144 rfl dX6_merge_273 ?_
                        refine lv_icmp_ge (tgt := 350) hx hb dX6_merge_276 (by decide) (fun cc => ?_) (fun cc => ?_)
                        · replace h := sw_t h cc
                          exact hk270 _ _ _ _ _ h hP hS (lv_sub hl [0, 1, 2, 3, 4, 5, 6, 7, 8, 9] rfl)
                        · replace h := sw_f h cc
                          refine lv_aload_n hx hb dX6_merge_279 rfl (lv_at hl 0 rfl) ?_
                          refine mw_get hx hb hts hin hown hK hP 6 (by decide) f26 rfl dX6_merge_280 ?_
                          refine lv_bipush (v := 8) hx hb dX6_merge_283 (by decide) ?_
                          refine lv_iload hx hb dX6_merge_285 (lv_at hl 8 rfl) ?_
                          refine lv_imul hx hb dX6_merge_287 ?_
                          refine lv_iload hx hb dX6_merge_288 (lv_at hl 9 rfl) ?_
                          refine lv_iadd hx hb dX6_merge_290 ?_
                          refine lv_aload_n hx hb dX6_merge_291 rfl (lv_at hl 0 rfl) ?_
                          refine mw_get hx hb hts hin hown hK hP 23 (by decide) f62 rfl dX6_merge_292 ?_
                          refine lv_iload hx hb dX6_merge_295 (lv_at hl 9 rfl) ?_
                          obtain ⟨a297, ea297, ia297, h⟩ := swrd_s h
                          refine mw_ald hx hb hK hP 23 20 rfl rfl ia297 dX6_merge_297 ea297 ?_
                          obtain ⟨iu298, h⟩ := swgd_s h
                          obtain ⟨u298, eu298, h⟩ := swlt_s h
                          refine mw_ast hx hb hK hJ hP hS 6 320 rfl (by decide) rfl rfl (swix_s iu298) eu298 dX6_merge_298 (fun H locs hP hS => ?_)
                          refine lv_iconst (v := 0) hx hb dX6_merge_299 (by decide) ?_
                          refine lv_istore (lv' := [(10, .int 0), (0, .ref (ad 0)), (1, .int x1), (2, .int x2), (3, .int x3), (4, .int r55), (5, .int a65), (6, .int a73), (7, .int v7), (8, .int r242), (9, .int v9)]) hx hb dX6_merge_300 hl (by decide) rfl (fun ls hl => ?_)
                          have L302 : ∀ (kk : Int32 → swU → Option (Int32 × swU)), (∀ (v10 : Int32) (w302 : swU) (H : Heap) (locs : List Loc) (ls : Array Slot), kk v10 w302 = some (r0, u0) → mwP D cy ad w302 H → va_S (mwA ad) s.heap H locs → lv_has ls 11 [(0, .ref (ad 0)), (1, .int x1), (2, .int x2), (3, .int x3), (4, .int r55), (5, .int a65), (6, .int a73), (7, .int v7), (8, .int r242), (9, .int v9), (10, .int v10)] → W p l e (headSpec wsX6_merge rmX6_merge).room s m args below meth c H locs 0 0 (MQ below (mwQi D cy ad r0 u0) args s 0 0 (mwA ad)) (F0 m 344 ls [])) → ∀ (n : Nat) (v10 : Int32) (w302 : swU) (H : Heap) (locs : List Loc) (ls : Array Slot), mx_merge_L302 r242 v9 kk n v10 w302 = some (r0, u0) → mwP D cy ad w302 H → va_S (mwA ad) s.heap H locs → lv_has ls 11 [(0, .ref (ad 0)), (1, .int x1), (2, .int x2), (3, .int x3), (4, .int r55), (5, .int a65), (6, .int a73), (7, .int v7), (8, .int r242), (9, .int v9), (10, .int v10)] → W p l e (headSpec wsX6_merge rmX6_merge).room s m args below meth c H locs 0 0 (MQ below (mwQi D cy ad r0 u0) args s 0 0 (mwA ad)) (F0 m 302 ls []) := by
                            intro kk hk302 n
                            induction n with
                            | zero => intro v10 w302 H locs ls h hP hS hl; rw [mx_merge_L302] at h; cases h
                            | succ n ih302 =>
                              intro v10 w302 H locs ls h hP hS hl
                              rw [mx_merge_L302] at h
                              refine lv_iload hx hb dX6_merge_302 (lv_at hl 10 rfl) ?_
                              refine lv_iconst (v := 4) hx hb dX6_merge_304 (by decide) ?_
                              refine lv_icmp_ge (tgt := 344) hx hb dX6_merge_305 (by decide) (fun cc => ?_) (fun cc => ?_)
                              · replace h := sw_t h cc
                                exact hk302 _ _ _ _ _ h hP hS (lv_sub hl [0, 1, 2, 3, 4, 5, 6, 7, 8, 9, 10] rfl)
                              · replace h := sw_f h cc
                                refine lv_aload_n hx hb dX6_merge_308 rfl (lv_at hl 0 rfl) ?_
                                refine mw_get hx hb hts hin hown hK hP 7 (by decide) f29 rfl dX6_merge_309 ?_
                                refine lv_iconst (v := 4) hx hb dX6_merge_312 (by decide) ?_
                                refine lv_bipush (v := 8) hx hb dX6_merge_313 (by decide) ?_
                                refine lv_iload hx hb dX6_merge_315 (lv_at hl 8 rfl) ?_
                                refine lv_imul hx hb dX6_merge_317 ?_
                                refine lv_iload hx hb dX6_merge_318 (lv_at hl 9 rfl) ?_
                                refine lv_iadd hx hb dX6_merge_320 ?_
                                refine lv_imul hx hb dX6_merge_321 ?_
                                refine lv_iload hx hb dX6_merge_322 (lv_at hl 10 rfl) ?_
                                refine lv_iadd hx hb dX6_merge_324 ?_
                                refine lv_aload_n hx hb dX6_merge_325 rfl (lv_at hl 0 rfl) ?_
                                refine mw_get hx hb hts hin hown hK hP 24 (by decide) f65 rfl dX6_merge_326 ?_
                                refine lv_iconst (v := 4) hx hb dX6_merge_329 (by decide) ?_
                                refine lv_iload hx hb dX6_merge_330 (lv_at hl 9 rfl) ?_
                                refine lv_imul hx hb dX6_merge_332 ?_
                                refine lv_iload hx hb dX6_merge_333 (lv_at hl 10 rfl) ?_
                                refine lv_iadd hx hb dX6_merge_335 ?_
                                obtain ⟨a336, ea336, ia336, h⟩ := swrd_s h
                                refine mw_ald hx hb hK hP 24 80 rfl rfl ia336 dX6_merge_336 ea336 ?_
                                obtain ⟨iu337, h⟩ := swgd_s h
                                obtain ⟨u337, eu337, h⟩ := swlt_s h
                                refine mw_ast hx hb hK hJ hP hS 7 1280 rfl (by decide) rfl rfl (swix_s iu337) eu337 dX6_merge_337 (fun H locs hP hS => ?_)
                                refine lv_iinc (v := (v10 + 1)) (lv' := [(10, .int (v10 + 1)), (0, .ref (ad 0)), (1, .int x1), (2, .int x2), (3, .int x3), (4, .int r55), (5, .int a65), (6, .int a73), (7, .int v7), (8, .int r242), (9, .int v9)]) hx hb dX6_merge_338 hl (k := 10) rfl rfl (by decide) rfl (fun ls hl => ?_)
                                refine lv_goto (tgt := 302) hx hb dX6_merge_341 (by decide) ?_
                                exact ih302 _ _ _ _ _ h hP hS (lv_sub hl [1, 2, 3, 4, 5, 6, 7, 8, 9, 10, 0] rfl)
                          refine L302 _ (fun v10 w344 H locs ls h hP hS hl => ?_) 64 _ _ _ _ _ h hP hS (lv_sub hl [1, 2, 3, 4, 5, 6, 7, 8, 9, 10, 0] rfl)
                          refine lv_iinc (v := (v9 + 1)) (lv' := [(9, .int (v9 + 1)), (0, .ref (ad 0)), (1, .int x1), (2, .int x2), (3, .int x3), (4, .int r55), (5, .int a65), (6, .int a73), (7, .int v7), (8, .int r242), (10, .int v10)]) hx hb dX6_merge_344 hl (k := 9) rfl rfl (by decide) rfl (fun ls hl => ?_)
                          refine lv_goto (tgt := 270) hx hb dX6_merge_347 (by decide) ?_
                          exact ih270 _ _ _ _ _ h hP hS (lv_sub hl [1, 2, 3, 4, 5, 6, 7, 8, 9, 0] rfl)
                    refine L270 _ (fun v9 w350 H locs ls h hP hS hl => ?_) 64 _ _ _ _ _ h hP hS (lv_sub hl [2, 3, 4, 5, 6, 7, 8, 9, 1, 0] rfl)
                    refine lv_iload hx hb dX6_merge_350 (lv_at hl 8 rfl) ?_
                    exact W.iret hx hb hr (fun t ht hW => ⟨⟨_, (), rfl, (sw_inj h).1, mw_end hP ht (sw_inj h).2⟩, hS.F ht⟩) hS.2.2 dX6_merge_352 hlocks
                  · replace h := sw_t h cc
                    refine lv_iconst (v := 3) hx hb dX6_merge_222 (by decide) ?_
                    refine lv_goto (tgt := 227) hx hb dX6_merge_223 (by decide) ?_
                    obtain ⟨u227, eu227, h⟩ := swlt_s h
                    refine mw_put hx hb hts hin hown hK hJ hP hS 0 (by decide) rfl f78 eu227 dX6_merge_227 (fun H locs hP hS => ?_)
                    refine lv_aload_n hx hb dX6_merge_230 rfl (lv_at hl 0 rfl) ?_
                    refine mw_get hx hb hts hin hown hK hP 0 (by decide) f78 rfl dX6_merge_231 ?_
                    refine sw_top (x := 3) (by rw [eu227]; rfl) ?_
                    refine lv_if_le (tgt := 239) hx hb dX6_merge_234 (by decide) (fun cc => absurd cc (by decide)) (fun cc => ?_)
                    refine lv_iconst (v := 0) hx hb dX6_merge_237 (by decide) ?_
                    exact W.iret hx hb hr (fun t ht hW => ⟨⟨_, (), rfl, (sw_inj h).1, mw_end hP ht (sw_inj h).2⟩, hS.F ht⟩) hS.2.2 dX6_merge_238 hlocks
            · replace h := sw_t h cc
              refine lv_aload_n hx hb dX6_merge_186 rfl (lv_at hl 0 rfl) ?_
              refine lv_iload hx hb dX6_merge_187 (lv_at hl 4 rfl) ?_
              refine lv_iload hx hb dX6_merge_189 (lv_at hl 5 rfl) ?_
              refine lv_iload hx hb dX6_merge_191 (lv_at hl 6 rfl) ?_
              obtain ⟨r193, er193, h⟩ := swbd_s h
              refine mw_calli (As := [.int r55, .int a65, .int a73]) (rest := [.ref (ad 0)]) E (mm_clashesOf l D cy ad u93 r55 a65 a73 _ er193) (cwV 3 hts gX6_merge_X6_clashesOf rfl rfl rfl (by decide +kernel) ⟨Nat.le_of_ble_eq_true rfl, Nat.le_of_ble_eq_true rfl⟩) hK hP rfl hl.1 rfl (Nat.le_of_ble_eq_true rfl) dX6_merge_193 ?_
              refine lv_if_gt (tgt := 222) hx hb dX6_merge_196 (by decide) (fun cc => ?_) (fun cc => ?_)
              · replace h := sw_t h cc
                refine lv_iconst (v := 3) hx hb dX6_merge_222 (by decide) ?_
                refine lv_goto (tgt := 227) hx hb dX6_merge_223 (by decide) ?_
                obtain ⟨u227, eu227, h⟩ := swlt_s h
                refine mw_put hx hb hts hin hown hK hJ hP hS 0 (by decide) rfl f78 eu227 dX6_merge_227 (fun H locs hP hS => ?_)
                refine lv_aload_n hx hb dX6_merge_230 rfl (lv_at hl 0 rfl) ?_
                refine mw_get hx hb hts hin hown hK hP 0 (by decide) f78 rfl dX6_merge_231 ?_
                refine sw_top (x := 3) (by rw [eu227]; rfl) ?_
                refine lv_if_le (tgt := 239) hx hb dX6_merge_234 (by decide) (fun cc => absurd cc (by decide)) (fun cc => ?_)
                refine lv_iconst (v := 0) hx hb dX6_merge_237 (by decide) ?_
                exact W.iret hx hb hr (fun t ht hW => ⟨⟨_, (), rfl, (sw_inj h).1, mw_end hP ht (sw_inj h).2⟩, hS.F ht⟩) hS.2.2 dX6_merge_238 hlocks
              · replace h := sw_f h cc
                refine lv_aload_n hx hb dX6_merge_199 rfl (lv_at hl 0 rfl) ?_
                refine mw_get hx hb hts hin hown hK hP 22 (by decide) f144 rfl dX6_merge_200 ?_
                refine lv_bipush (v := 8) hx hb dX6_merge_203 (by decide) ?_
                refine lv_icmp_gt (tgt := 222) hx hb dX6_merge_205 (by decide) (fun cc => ?_) (fun cc => ?_)
                · replace h := sw_t h cc
                  refine lv_iconst (v := 3) hx hb dX6_merge_222 (by decide) ?_
                  refine lv_goto (tgt := 227) hx hb dX6_merge_223 (by decide) ?_
                  obtain ⟨u227, eu227, h⟩ := swlt_s h
                  refine mw_put hx hb hts hin hown hK hJ hP hS 0 (by decide) rfl f78 eu227 dX6_merge_227 (fun H locs hP hS => ?_)
                  refine lv_aload_n hx hb dX6_merge_230 rfl (lv_at hl 0 rfl) ?_
                  refine mw_get hx hb hts hin hown hK hP 0 (by decide) f78 rfl dX6_merge_231 ?_
                  refine sw_top (x := 3) (by rw [eu227]; rfl) ?_
                  refine lv_if_le (tgt := 239) hx hb dX6_merge_234 (by decide) (fun cc => absurd cc (by decide)) (fun cc => ?_)
                  refine lv_iconst (v := 0) hx hb dX6_merge_237 (by decide) ?_
                  exact W.iret hx hb hr (fun t ht hW => ⟨⟨_, (), rfl, (sw_inj h).1, mw_end hP ht (sw_inj h).2⟩, hS.F ht⟩) hS.2.2 dX6_merge_238 hlocks
                · replace h := sw_f h cc
                  refine lv_iload hx hb dX6_merge_208 (lv_at hl 7 rfl) ?_
                  refine lv_if_ne (tgt := 222) hx hb dX6_merge_210 (by decide) (fun cc => ?_) (fun cc => ?_)
                  · replace h := sw_f h cc
                    refine lv_iconst (v := 3) hx hb dX6_merge_222 (by decide) ?_
                    refine lv_goto (tgt := 227) hx hb dX6_merge_223 (by decide) ?_
                    obtain ⟨u227, eu227, h⟩ := swlt_s h
                    refine mw_put hx hb hts hin hown hK hJ hP hS 0 (by decide) rfl f78 eu227 dX6_merge_227 (fun H locs hP hS => ?_)
                    refine lv_aload_n hx hb dX6_merge_230 rfl (lv_at hl 0 rfl) ?_
                    refine mw_get hx hb hts hin hown hK hP 0 (by decide) f78 rfl dX6_merge_231 ?_
                    refine sw_top (x := 3) (by rw [eu227]; rfl) ?_
                    refine lv_if_le (tgt := 239) hx hb dX6_merge_234 (by decide) (fun cc => absurd cc (by decide)) (fun cc => ?_)
                    refine lv_iconst (v := 0) hx hb dX6_merge_237 (by decide) ?_
                    exact W.iret hx hb hr (fun t ht hW => ⟨⟨_, (), rfl, (sw_inj h).1, mw_end hP ht (sw_inj h).2⟩, hS.F ht⟩) hS.2.2 dX6_merge_238 hlocks
                  · replace h := sw_t h cc
                    refine lv_aload_n hx hb dX6_merge_213 rfl (lv_at hl 0 rfl) ?_
                    refine mw_get hx hb hts hin hown hK hP 1 (by decide) f7 rfl dX6_merge_214 ?_
                    refine lv_bipush (v := 40) hx hb dX6_merge_217 (by decide) ?_
                    refine lv_icmp_ne (tgt := 226) hx hb dX6_merge_219 (by decide) (fun cc => ?_) (fun cc => ?_)
                    · replace h := sw_f h cc
                      refine lv_iconst (v := 0) hx hb dX6_merge_226 (by decide) ?_
                      obtain ⟨u227, eu227, h⟩ := swlt_s h
                      refine mw_put hx hb hts hin hown hK hJ hP hS 0 (by decide) rfl f78 eu227 dX6_merge_227 (fun H locs hP hS => ?_)
                      refine lv_aload_n hx hb dX6_merge_230 rfl (lv_at hl 0 rfl) ?_
                      refine mw_get hx hb hts hin hown hK hP 0 (by decide) f78 rfl dX6_merge_231 ?_
                      refine sw_top (x := 0) (by rw [eu227]; rfl) ?_
                      refine lv_if_le (tgt := 239) hx hb dX6_merge_234 (by decide) (fun cc => ?_) (fun cc => absurd (by decide) cc)
                      refine lv_aload_n hx hb dX6_merge_239 rfl (lv_at hl 0 rfl) ?_
                      refine lv_iload_n hx hb dX6_merge_240 rfl (lv_at hl 1 rfl) ?_
                      refine lv_iconst (v := (-1)) hx hb dX6_merge_241 (by decide) ?_
                      obtain ⟨⟨r242, u242⟩, er242, h⟩ := swbd_s h
                      refine mw_callWi (As := [.int x1, .int (-1)]) (rest := []) E (mm_edits l D cy ad hJ u227 x1 (-1) _ _ er242) (cwV 2 hts gX6_merge_X6_edits rfl rfl rfl (by decide +kernel) ⟨Nat.le_of_ble_eq_true rfl, Nat.le_of_ble_eq_true rfl⟩) hK hP hS rfl hl.1 rfl (Nat.le_of_ble_eq_true rfl) dX6_merge_242 (fun H locs hP hS => ?_)
                      refine lv_istore (lv' := [(8, .int r242), (0, .ref (ad 0)), (1, .int x1), (2, .int x2), (3, .int x3), (4, .int r55), (5, .int a65), (6, .int a73), (7, .int v7)]) hx hb dX6_merge_245 hl (by decide) rfl (fun ls hl => ?_)
                      refine lv_aload_n hx hb dX6_merge_247 rfl (lv_at hl 1 rfl) ?_
                      refine mw_get hx hb hts hin hown hK hP 4 (by decide) f20 rfl dX6_merge_248 ?_
                      refine lv_iload hx hb dX6_merge_251 (lv_at hl 0 rfl) ?_
                      refine lv_iload hx hb dX6_merge_253 (lv_at hl 7 rfl) ?_
                      obtain ⟨iu255, h⟩ := swgd_s h
                      obtain ⟨u255, eu255, h⟩ := swlt_s h
                      refine mw_ast hx hb hK hJ hP hS 4 40 rfl (by decide) rfl rfl (swix_s iu255) eu255 dX6_merge_255 (fun H locs hP hS => ?_)
                      refine lv_aload_n hx hb dX6_merge_256 rfl (lv_at hl 1 rfl) ?_
                      refine mw_get hx hb hts hin hown hK hP 5 (by decide) f23 rfl dX6_merge_257 ?_
                      refine lv_iload hx hb dX6_merge_260 (lv_at hl 0 rfl) ?_
                      refine lv_aload_n hx hb dX6_merge_262 rfl (lv_at hl 1 rfl) ?_
                      refine mw_get hx hb hts hin hown hK hP 22 (by decide) f144 rfl dX6_merge_263 ?_
                      obtain ⟨iu266, h⟩ := swgd_s h
                      obtain ⟨u266, eu266, h⟩ := swlt_s h
                      refine mw_ast hx hb hK hJ hP hS 5 40 rfl (by decide) rfl rfl (swix_s iu266) eu266 dX6_merge_266 (fun H locs hP hS => ?_)
                      refine lv_iconst (v := 0) hx hb dX6_merge_267 (by decide) ?_
                      refine lv_istore (lv' := [(9, .int 0), (8, .int r242), (0, .ref (ad 0)), (1, .int x1), (2, .int x2), (3, .int x3), (4, .int r55), (5, .int a65), (6, .int a73), (7, .int v7)]) hx hb dX6_merge_268 hl (by decide) rfl (fun ls hl => ?_)
                      have L270 : ∀ (kk : Int32 → swU → Option (Int32 × swU)), (∀ (v9 : Int32) (w270 : swU) (H : Heap) (locs : List Loc) (ls : Array Slot), kk v9 w270 = some (r0, u0) → mwP D cy ad w270 H → va_S (mwA ad) s.heap H locs → lv_has ls 11 [(0, .ref (ad 0)), (1, .int x1), (2, .int x2), (3, .int x3), (4, .int r55), (5, .int a65), (6, .int a73), (7, .int v7), (8, .int r242), (9, .int v9)] → W p l e (headSpec wsX6_merge rmX6_merge).room s m args below meth c H locs 0 0 (MQ below (mwQi D cy ad r0 u0) args s 0 0 (mwA ad)) (F0 m 350 ls [])) → ∀ (n : Nat) (v9 : Int32) (w270 : swU) (H : Heap) (locs : List Loc) (ls : Array Slot), mx_merge_L270 r242 kk n v9 w270 = some (r0, u0) → mwP D cy ad w270 H → va_S (mwA ad) s.heap H locs → lv_has ls 11 [(0, .ref (ad 0)), (1, .int x1), (2, .int x2), (3, .int x3), (4, .int r55), (5, .int a65), (6, .int a73), (7, .int v7), (8, .int r242), (9, .int v9)] → W p l e (headSpec wsX6_merge rmX6_merge).room s m args below meth c H locs 0 0 (MQ below (mwQi D cy ad r0 u0) args s 0 0 (mwA ad)) (F0 m 270 ls []) := by
                        intro kk hk270 n
                        induction n with
                        | zero => intro v9 w270 H locs ls h hP hS hl; rw [mx_merge_L270] at h; cases h
                        | succ n ih270 =>
                          intro v9 w270 H locs ls h hP hS hl
                          rw [mx_merge_L270] at h
                          refine lv_iload hx hb dX6_merge_270 (lv_at hl 9 rfl) ?_
                          refine lv_aload_n hx hb dX6_merge_272 rfl (lv_at hl 0 rfl) ?_
                          refine mw_get hx hb hts hin hown hK hP 22 (by decide) f144 rfl dX6_merge_273 ?_
                          refine lv_icmp_ge (tgt := 350) hx hb dX6_merge_276 (by decide) (fun cc => ?_) (fun cc => ?_)
                          · replace h := sw_t h cc
                            exact hk270 _ _ _ _ _ h hP hS (lv_sub hl [0, 1, 2, 3, 4, 5, 6, 7, 8, 9] rfl)
                          · replace h := sw_f h cc
                            refine lv_aload_n hx hb dX6_merge_279 rfl (lv_at hl 0 rfl) ?_
                            refine mw_get hx hb hts hin hown hK hP 6 (by decide) f26 rfl dX6_merge_280 ?_
                            refine lv_bipush (v := 8) hx hb dX6_merge_283 (by decide) ?_
                            refine lv_iload hx hb dX6_merge_285 (lv_at hl 8 rfl) ?_
                            refine lv_imul hx hb dX6_merge_287 ?_
                            refine lv_iload hx hb dX6_merge_288 (lv_at hl 9 rfl) ?_
                            refine lv_iadd hx hb dX6_merge_290 ?_
                            refine lv_aload_n hx hb dX6_merge_291 rfl (lv_at hl 0 rfl) ?_
                            refine mw_get hx hb hts hin hown hK hP 23 (by decide) f62 rfl dX6_merge_292 ?_
                            refine lv_iload hx hb dX6_merge_295 (lv_at hl 9 rfl) ?_
                            obtain ⟨a297, ea297, ia297, h⟩ := swrd_s h
                            refine mw_ald hx hb hK hP 23 20 rfl rfl ia297 dX6_merge_297 ea297 ?_
                            obtain ⟨iu298, h⟩ := swgd_s h
                            obtain ⟨u298, eu298, h⟩ := swlt_s h
                            refine mw_ast hx hb hK hJ hP hS 6 320 rfl (by decide) rfl rfl (swix_s iu298) eu298 dX6_merge_298 (fun H locs hP hS => ?_)
                            refine lv_iconst (v := 0) hx hb dX6_merge_299 (by decide) ?_
                            refine lv_istore (lv' := [(10, .int 0), (0, .ref (ad 0)), (1, .int x1), (2, .int x2), (3, .int x3), (4, .int r55), (5, .int a65), (6, .int a73), (7, .int v7), (8, .int r242), (9, .int v9)]) hx hb dX6_merge_300 hl (by decide) rfl (fun ls hl => ?_)
                            have L302 : ∀ (kk : Int32 → swU → Option (Int32 × swU)), (∀ (v10 : Int32) (w302 : swU) (H : Heap) (locs : List Loc) (ls : Array Slot), kk v10 w302 = some (r0, u0) → mwP D cy ad w302 H → va_S (mwA ad) s.heap H locs → lv_has ls 11 [(0, .ref (ad 0)), (1, .int x1), (2, .int x2), (3, .int x3), (4, .int r55), (5, .int a65), (6, .int a73), (7, .int v7), (8, .int r242), (9, .int v9), (10, .int v10)] → W p l e (headSpec wsX6_merge rmX6_merge).room s m args below meth c H locs 0 0 (MQ below (mwQi D cy ad r0 u0) args s 0 0 (mwA ad)) (F0 m 344 ls [])) → ∀ (n : Nat) (v10 : Int32) (w302 : swU) (H : Heap) (locs : List Loc) (ls : Array Slot), mx_merge_L302 r242 v9 kk n v10 w302 = some (r0, u0) → mwP D cy ad w302 H → va_S (mwA ad) s.heap H locs → lv_has ls 11 [(0, .ref (ad 0)), (1, .int x1), (2, .int x2), (3, .int x3), (4, .int r55), (5, .int a65), (6, .int a73), (7, .int v7), (8, .int r242), (9, .int v9), (10, .int v10)] → W p l e (headSpec wsX6_merge rmX6_merge).room s m args below meth c H locs 0 0 (MQ below (mwQi D cy ad r0 u0) args s 0 0 (mwA ad)) (F0 m 302 ls []) := by
                              intro kk hk302 n
                              induction n with
                              | zero => intro v10 w302 H locs ls h hP hS hl; rw [mx_merge_L302] at h; cases h
                              | succ n ih302 =>
                                intro v10 w302 H locs ls h hP hS hl
                                rw [mx_merge_L302] at h
                                refine lv_iload hx hb dX6_merge_302 (lv_at hl 10 rfl) ?_
                                refine lv_iconst (v := 4) hx hb dX6_merge_304 (by decide) ?_
                                refine lv_icmp_ge (tgt := 344) hx hb dX6_merge_305 (by decide) (fun cc => ?_) (fun cc => ?_)
                                · replace h := sw_t h cc
                                  exact hk302 _ _ _ _ _ h hP hS (lv_sub hl [0, 1, 2, 3, 4, 5, 6, 7, 8, 9, 10] rfl)
                                · replace h := sw_f h cc
                                  refine lv_aload_n hx hb dX6_merge_308 rfl (lv_at hl 0 rfl) ?_
                                  refine mw_get hx hb hts hin hown hK hP 7 (by decide) f29 rfl dX6_merge_309 ?_
                                  refine lv_iconst (v := 4) hx hb dX6_merge_312 (by decide) ?_
                                  refine lv_bipush (v := 8) hx hb dX6_merge_313 (by decide) ?_
                                  refine lv_iload hx hb dX6_merge_315 (lv_at hl 8 rfl) ?_
                                  refine lv_imul hx hb dX6_merge_317 ?_
                                  refine lv_iload hx hb dX6_merge_318 (lv_at hl 9 rfl) ?_
                                  refine lv_iadd hx hb dX6_merge_320 ?_
                                  refine lv_imul hx hb dX6_merge_321 ?_
                                  refine lv_iload hx hb dX6_merge_322 (lv_at hl 10 rfl) ?_
                                  refine lv_iadd hx hb dX6_merge_324 ?_
                                  refine lv_aload_n hx hb dX6_merge_325 rfl (lv_at hl 0 rfl) ?_
                                  refine mw_get hx hb hts hin hown hK hP 24 (by decide) f65 rfl dX6_merge_326 ?_
                                  refine lv_iconst (v := 4) hx hb dX6_merge_329 (by decide) ?_
                                  refine lv_iload hx hb dX6_merge_330 (lv_at hl 9 rfl) ?_
                                  refine lv_imul hx hb dX6_merge_332 ?_
                                  refine lv_iload hx hb dX6_merge_333 (lv_at hl 10 rfl) ?_
                                  refine lv_iadd hx hb dX6_merge_335 ?_
                                  obtain ⟨a336, ea336, ia336, h⟩ := swrd_s h
                                  refine mw_ald hx hb hK hP 24 80 rfl rfl ia336 dX6_merge_336 ea336 ?_
                                  obtain ⟨iu337, h⟩ := swgd_s h
                                  obtain ⟨u337, eu337, h⟩ := swlt_s h
                                  refine mw_ast hx hb hK hJ hP hS 7 1280 rfl (by decide) rfl rfl (swix_s iu337) eu337 dX6_merge_337 (fun H locs hP hS => ?_)
                                  refine lv_iinc (v := (v10 + 1)) (lv' := [(10, .int (v10 + 1)), (0, .ref (ad 0)), (1, .int x1), (2, .int x2), (3, .int x3), (4, .int r55), (5, .int a65), (6, .int a73), (7, .int v7), (8, .int r242), (9, .int v9)]) hx hb dX6_merge_338 hl (k := 10) rfl rfl (by decide) rfl (fun ls hl => ?_)
                                  refine lv_goto (tgt := 302) hx hb dX6_merge_341 (by decide) ?_
                                  exact ih302 _ _ _ _ _ h hP hS (lv_sub hl [1, 2, 3, 4, 5, 6, 7, 8, 9, 10, 0] rfl)
                            refine L302 _ (fun v10 w344 H locs ls h hP hS hl => ?_) 64 _ _ _ _ _ h hP hS (lv_sub hl [1, 2, 3, 4, 5, 6, 7, 8, 9, 10, 0] rfl)
                            refine lv_iinc (v := (v9 + 1)) (lv' := [(9, .int (v9 + 1)), (0, .ref (ad 0)), (1, .int x1), (2, .int x2), (3, .int x3), (4, .int r55), (5, .int a65), (6, .int a73), (7, .int v7), (8, .int r242), (10, .int v10)]) hx hb dX6_merge_344 hl (k := 9) rfl rfl (by decide) rfl (fun ls hl => ?_)
                            refine lv_goto (tgt := 270) hx hb dX6_merge_347 (by decide) ?_
                            exact ih270 _ _ _ _ _ h hP hS (lv_sub hl [1, 2, 3, 4, 5, 6, 7, 8, 9, 0] rfl)
                      refine L270 _ (fun v9 w350 H locs ls h hP hS hl => ?_) 64 _ _ _ _ _ h hP hS (lv_sub hl [2, 3, 4, 5, 6, 7, 8, 9, 1, 0] rfl)
                      refine lv_iload hx hb dX6_merge_350 (lv_at hl 8 rfl) ?_
                      exact W.iret hx hb hr (fun t ht hW => ⟨⟨_, (), rfl, (sw_inj h).1, mw_end hP ht (sw_inj h).2⟩, hS.F ht⟩) hS.2.2 dX6_merge_352 hlocks
                    · replace h := sw_t h cc
                      refine lv_iconst (v := 3) hx hb dX6_merge_222 (by decide) ?_
                      refine lv_goto (tgt := 227) hx hb dX6_merge_223 (by decide) ?_
                      obtain ⟨u227, eu227, h⟩ := swlt_s h
                      refine mw_put hx hb hts hin hown hK hJ hP hS 0 (by decide) rfl f78 eu227 dX6_merge_227 (fun H locs hP hS => ?_)
                      refine lv_aload_n hx hb dX6_merge_230 rfl (lv_at hl 0 rfl) ?_
                      refine mw_get hx hb hts hin hown hK hP 0 (by decide) f78 rfl dX6_merge_231 ?_
                      refine sw_top (x := 3) (by rw [eu227]; rfl) ?_
                      refine lv_if_le (tgt := 239) hx hb dX6_merge_234 (by decide) (fun cc => absurd cc (by decide)) (fun cc => ?_)
                      refine lv_iconst (v := 0) hx hb dX6_merge_237 (by decide) ?_
                      exact W.iret hx hb hr (fun t ht hW => ⟨⟨_, (), rfl, (sw_inj h).1, mw_end hP ht (sw_inj h).2⟩, hS.F ht⟩) hS.2.2 dX6_merge_238 hlocks
          · replace h := sw_t h cc
            refine lv_iconst (v := 0) hx hb dX6_merge_88 (by decide) ?_
            refine lv_goto (tgt := 93) hx hb dX6_merge_89 (by decide) ?_
            obtain ⟨u93, er93, h⟩ := swbd_s h
            refine mw_callWv (As := [.int r55, .int a65, .int a73, .int 0]) (rest := []) E (mm_layDeck l D cy ad hJ u55 r55 a65 a73 0 _ er93) (cwV 4 hts gX6_merge_X6_layDeck rfl rfl rfl (by decide +kernel) ⟨Nat.le_of_ble_eq_true rfl, Nat.le_of_ble_eq_true rfl⟩) hK hP hS rfl hl.1 rfl (Nat.le_of_ble_eq_true rfl) dX6_merge_93 (fun H locs hP hS => ?_)
            refine lv_iconst (v := 0) hx hb dX6_merge_96 (by decide) ?_
            refine lv_istore (lv' := [(7, .int 0), (6, .int a73), (5, .int a65), (4, .int r55), (0, .ref (ad 0)), (1, .int x1), (2, .int x2), (3, .int x3)]) hx hb dX6_merge_97 hl (by decide) rfl (fun ls hl => ?_)
            refine lv_iconst (v := 0) hx hb dX6_merge_99 (by decide) ?_
            refine lv_istore (lv' := [(8, .int 0), (7, .int 0), (6, .int a73), (5, .int a65), (4, .int r55), (0, .ref (ad 0)), (1, .int x1), (2, .int x2), (3, .int x3)]) hx hb dX6_merge_100 hl (by decide) rfl (fun ls hl => ?_)
            have L102 : ∀ (kk : Int32 → Int32 → Option (Int32 × swU)), (∀ (v7 : Int32) (v8 : Int32) (H : Heap) (locs : List Loc) (ls : Array Slot), kk v7 v8 = some (r0, u0) → mwP D cy ad u93 H → va_S (mwA ad) s.heap H locs → lv_has ls 11 [(0, .ref (ad 0)), (1, .int x1), (2, .int x2), (3, .int x3), (4, .int r55), (5, .int a65), (6, .int a73), (7, .int v7), (8, .int v8)] → W p l e (headSpec wsX6_merge rmX6_merge).room s m args below meth c H locs 0 0 (MQ below (mwQi D cy ad r0 u0) args s 0 0 (mwA ad)) (F0 m 180 ls [])) → ∀ (n : Nat) (v7 : Int32) (v8 : Int32) (H : Heap) (locs : List Loc) (ls : Array Slot), mx_merge_L102 u93 kk n v7 v8 = some (r0, u0) → mwP D cy ad u93 H → va_S (mwA ad) s.heap H locs → lv_has ls 11 [(0, .ref (ad 0)), (1, .int x1), (2, .int x2), (3, .int x3), (4, .int r55), (5, .int a65), (6, .int a73), (7, .int v7), (8, .int v8)] → W p l e (headSpec wsX6_merge rmX6_merge).room s m args below meth c H locs 0 0 (MQ below (mwQi D cy ad r0 u0) args s 0 0 (mwA ad)) (F0 m 102 ls []) := by
              intro kk hk102 n
              induction n with
              | zero => intro v7 v8 H locs ls h hP hS hl; rw [mx_merge_L102] at h; cases h
              | succ n ih102 =>
                intro v7 v8 H locs ls h hP hS hl
                rw [mx_merge_L102] at h
                refine lv_iload hx hb dX6_merge_102 (lv_at hl 8 rfl) ?_
                refine lv_aload_n hx hb dX6_merge_104 rfl (lv_at hl 0 rfl) ?_
                refine mw_get hx hb hts hin hown hK hP 22 (by decide) f144 rfl dX6_merge_105 ?_
                refine lv_icmp_ge (tgt := 180) hx hb dX6_merge_108 (by decide) (fun cc => ?_) (fun cc => ?_)
                · replace h := sw_t h cc
                  exact hk102 _ _ _ _ _ h hP hS (lv_sub hl [0, 1, 2, 3, 4, 5, 6, 7, 8] rfl)
                · replace h := sw_f h cc
                  refine lv_iconst (v := 0) hx hb dX6_merge_111 (by decide) ?_
                  refine lv_istore (lv' := [(9, .int 0), (0, .ref (ad 0)), (1, .int x1), (2, .int x2), (3, .int x3), (4, .int r55), (5, .int a65), (6, .int a73), (7, .int v7), (8, .int v8)]) hx hb dX6_merge_112 hl (by decide) rfl (fun ls hl => ?_)
                  have L114 : ∀ (kk : Int32 → Int32 → Option (Int32 × swU)), (∀ (v7 : Int32) (v9 : Int32) (H : Heap) (locs : List Loc) (ls : Array Slot), kk v7 v9 = some (r0, u0) → mwP D cy ad u93 H → va_S (mwA ad) s.heap H locs → lv_has ls 11 [(0, .ref (ad 0)), (1, .int x1), (2, .int x2), (3, .int x3), (4, .int r55), (5, .int a65), (6, .int a73), (7, .int v7), (8, .int v8), (9, .int v9)] → W p l e (headSpec wsX6_merge rmX6_merge).room s m args below meth c H locs 0 0 (MQ below (mwQi D cy ad r0 u0) args s 0 0 (mwA ad)) (F0 m 174 ls [])) → ∀ (n : Nat) (v7 : Int32) (v9 : Int32) (H : Heap) (locs : List Loc) (ls : Array Slot), mx_merge_L114 u93 v8 kk n v7 v9 = some (r0, u0) → mwP D cy ad u93 H → va_S (mwA ad) s.heap H locs → lv_has ls 11 [(0, .ref (ad 0)), (1, .int x1), (2, .int x2), (3, .int x3), (4, .int r55), (5, .int a65), (6, .int a73), (7, .int v7), (8, .int v8), (9, .int v9)] → W p l e (headSpec wsX6_merge rmX6_merge).room s m args below meth c H locs 0 0 (MQ below (mwQi D cy ad r0 u0) args s 0 0 (mwA ad)) (F0 m 114 ls []) := by
                    intro kk hk114 n
                    induction n with
                    | zero => intro v7 v9 H locs ls h hP hS hl; rw [mx_merge_L114] at h; cases h
                    | succ n ih114 =>
                      intro v7 v9 H locs ls h hP hS hl
                      rw [mx_merge_L114] at h
                      refine lv_iload hx hb dX6_merge_114 (lv_at hl 9 rfl) ?_
                      refine lv_aload_n hx hb dX6_merge_116 rfl (lv_at hl 0 rfl) ?_
                      refine mw_get hx hb hts hin hown hK hP 12 (by decide) f155 rfl dX6_merge_117 ?_
                      refine lv_icmp_ge (tgt := 174) hx hb dX6_merge_120 (by decide) (fun cc => ?_) (fun cc => ?_)
                      · replace h := sw_t h cc
                        exact hk114 _ _ _ _ _ h hP hS (lv_sub hl [0, 1, 2, 3, 4, 5, 6, 7, 8, 9] rfl)
                      · replace h := sw_f h cc
                        refine lv_iload hx hb dX6_merge_123 (lv_at hl 7 rfl) ?_
                        refine lv_if_ne (tgt := 161) hx hb dX6_merge_125 (by decide) (fun cc => ?_) (fun cc => ?_)
                        · replace h := sw_f h cc
                          refine lv_iconst (v := 1) hx hb dX6_merge_161 (by decide) ?_
                          refine lv_goto (tgt := 166) hx hb dX6_merge_162 (by decide) ?_
                          refine lv_istore (lv' := [(7, .int 1), (0, .ref (ad 0)), (1, .int x1), (2, .int x2), (3, .int x3), (4, .int r55), (5, .int a65), (6, .int a73), (8, .int v8), (9, .int v9)]) hx hb dX6_merge_166 hl (by decide) rfl (fun ls hl => ?_)
                          refine lv_iinc (v := (v9 + 1)) (lv' := [(9, .int (v9 + 1)), (7, .int 1), (0, .ref (ad 0)), (1, .int x1), (2, .int x2), (3, .int x3), (4, .int r55), (5, .int a65), (6, .int a73), (8, .int v8)]) hx hb dX6_merge_168 hl (k := 9) rfl rfl (by decide) rfl (fun ls hl => ?_)
                          refine lv_goto (tgt := 114) hx hb dX6_merge_171 (by decide) ?_
                          exact ih114 _ _ _ _ _ h hP hS (lv_sub hl [2, 3, 4, 5, 6, 7, 8, 1, 9, 0] rfl)
                        · replace h := sw_t h cc
                          refine lv_aload_n hx hb dX6_merge_128 rfl (lv_at hl 0 rfl) ?_
                          refine lv_iload hx hb dX6_merge_129 (lv_at hl 9 rfl) ?_
                          refine lv_aload_n hx hb dX6_merge_131 rfl (lv_at hl 0 rfl) ?_
                          refine mw_get hx hb hts hin hown hK hP 23 (by decide) f62 rfl dX6_merge_132 ?_
                          refine lv_iload hx hb dX6_merge_135 (lv_at hl 8 rfl) ?_
                          obtain ⟨a137, ea137, ia137, h⟩ := swrd_s h
                          refine mw_ald hx hb hK hP 23 20 rfl rfl ia137 dX6_merge_137 ea137 ?_
                          refine lv_aload_n hx hb dX6_merge_138 rfl (lv_at hl 0 rfl) ?_
                          refine mw_get hx hb hts hin hown hK hP 24 (by decide) f65 rfl dX6_merge_139 ?_
                          refine lv_iconst (v := 4) hx hb dX6_merge_142 (by decide) ?_
                          refine lv_iload hx hb dX6_merge_143 (lv_at hl 8 rfl) ?_
                          refine lv_imul hx hb dX6_merge_145 ?_
                          refine lv_aload_n hx hb dX6_merge_146 rfl (lv_at hl 0 rfl) ?_
                          refine mw_get hx hb hts hin hown hK hP 14 (by decide) f44 rfl dX6_merge_147 ?_
                          refine lv_iload hx hb dX6_merge_150 (lv_at hl 9 rfl) ?_
                          obtain ⟨a152, ea152, ia152, h⟩ := swrd_s h
                          refine mw_ald hx hb hK hP 14 8 rfl rfl ia152 dX6_merge_152 ea152 ?_
                          refine lv_iadd hx hb dX6_merge_153 ?_
                          obtain ⟨a154, ea154, ia154, h⟩ := swrd_s h
                          refine mw_ald hx hb hK hP 24 80 rfl rfl ia154 dX6_merge_154 ea154 ?_
                          obtain ⟨r155, er155, h⟩ := swbd_s h
                          refine mw_calli (As := [.int v9, .int a137, .int a154]) (rest := []) E (mm_isBlocked l D cy ad u93 v9 a137 a154 _ er155) (cwV 3 hts gX6_merge_X6_isBlocked rfl rfl rfl (by decide +kernel) ⟨Nat.le_of_ble_eq_true rfl, Nat.le_of_ble_eq_true rfl⟩) hK hP rfl hl.1 rfl (Nat.le_of_ble_eq_true rfl) dX6_merge_155 ?_
                          refine lv_if_eq (tgt := 165) hx hb dX6_merge_158 (by decide) (fun cc => ?_) (fun cc => ?_)
                          · replace h := sw_t h cc
                            refine lv_iconst (v := 0) hx hb dX6_merge_165 (by decide) ?_
                            refine lv_istore (lv' := [(7, .int 0), (0, .ref (ad 0)), (1, .int x1), (2, .int x2), (3, .int x3), (4, .int r55), (5, .int a65), (6, .int a73), (8, .int v8), (9, .int v9)]) hx hb dX6_merge_166 hl (by decide) rfl (fun ls hl => ?_)
                            refine lv_iinc (v := (v9 + 1)) (lv' := [(9, .int (v9 + 1)), (7, .int 0), (0, .ref (ad 0)), (1, .int x1), (2, .int x2), (3, .int x3), (4, .int r55), (5, .int a65), (6, .int a73), (8, .int v8)]) hx hb dX6_merge_168 hl (k := 9) rfl rfl (by decide) rfl (fun ls hl => ?_)
                            refine lv_goto (tgt := 114) hx hb dX6_merge_171 (by decide) ?_
                            exact ih114 _ _ _ _ _ h hP hS (lv_sub hl [2, 3, 4, 5, 6, 7, 8, 1, 9, 0] rfl)
                          · replace h := sw_f h cc
                            refine lv_iconst (v := 1) hx hb dX6_merge_161 (by decide) ?_
                            refine lv_goto (tgt := 166) hx hb dX6_merge_162 (by decide) ?_
                            refine lv_istore (lv' := [(7, .int 1), (0, .ref (ad 0)), (1, .int x1), (2, .int x2), (3, .int x3), (4, .int r55), (5, .int a65), (6, .int a73), (8, .int v8), (9, .int v9)]) hx hb dX6_merge_166 hl (by decide) rfl (fun ls hl => ?_)
                            refine lv_iinc (v := (v9 + 1)) (lv' := [(9, .int (v9 + 1)), (7, .int 1), (0, .ref (ad 0)), (1, .int x1), (2, .int x2), (3, .int x3), (4, .int r55), (5, .int a65), (6, .int a73), (8, .int v8)]) hx hb dX6_merge_168 hl (k := 9) rfl rfl (by decide) rfl (fun ls hl => ?_)
                            refine lv_goto (tgt := 114) hx hb dX6_merge_171 (by decide) ?_
                            exact ih114 _ _ _ _ _ h hP hS (lv_sub hl [2, 3, 4, 5, 6, 7, 8, 1, 9, 0] rfl)
                  refine L114 _ (fun v7 v9 H locs ls h hP hS hl => ?_) 64 _ _ _ _ _ h hP hS (lv_sub hl [1, 2, 3, 4, 5, 6, 7, 8, 9, 0] rfl)
                  refine lv_iinc (v := (v8 + 1)) (lv' := [(8, .int (v8 + 1)), (0, .ref (ad 0)), (1, .int x1), (2, .int x2), (3, .int x3), (4, .int r55), (5, .int a65), (6, .int a73), (7, .int v7), (9, .int v9)]) hx hb dX6_merge_174 hl (k := 8) rfl rfl (by decide) rfl (fun ls hl => ?_)
                  refine lv_goto (tgt := 102) hx hb dX6_merge_177 (by decide) ?_
                  exact ih102 _ _ _ _ _ h hP hS (lv_sub hl [1, 2, 3, 4, 5, 6, 7, 8, 0] rfl)
            refine L102 _ (fun v7 v8 H locs ls h hP hS hl => ?_) 64 _ _ _ _ _ h hP hS (lv_sub hl [5, 6, 7, 8, 4, 3, 2, 1, 0] rfl)
            refine lv_aload_n hx hb dX6_merge_180 rfl (lv_at hl 0 rfl) ?_
            refine lv_iload_n hx hb dX6_merge_181 rfl (lv_at hl 3 rfl) ?_
            refine lv_iconst (v := (-1)) hx hb dX6_merge_182 (by decide) ?_
            refine lv_icmp_ne (tgt := 199) hx hb dX6_merge_183 (by decide) (fun cc => ?_) (fun cc => ?_)
            · replace h := sw_f h cc
              refine lv_aload_n hx hb dX6_merge_199 rfl (lv_at hl 0 rfl) ?_
              refine mw_get hx hb hts hin hown hK hP 22 (by decide) f144 rfl dX6_merge_200 ?_
              refine lv_bipush (v := 8) hx hb dX6_merge_203 (by decide) ?_
              refine lv_icmp_gt (tgt := 222) hx hb dX6_merge_205 (by decide) (fun cc => ?_) (fun cc => ?_)
              · replace h := sw_t h cc
                refine lv_iconst (v := 3) hx hb dX6_merge_222 (by decide) ?_
                refine lv_goto (tgt := 227) hx hb dX6_merge_223 (by decide) ?_
                obtain ⟨u227, eu227, h⟩ := swlt_s h
                refine mw_put hx hb hts hin hown hK hJ hP hS 0 (by decide) rfl f78 eu227 dX6_merge_227 (fun H locs hP hS => ?_)
                refine lv_aload_n hx hb dX6_merge_230 rfl (lv_at hl 0 rfl) ?_
                refine mw_get hx hb hts hin hown hK hP 0 (by decide) f78 rfl dX6_merge_231 ?_
                refine sw_top (x := 3) (by rw [eu227]; rfl) ?_
                refine lv_if_le (tgt := 239) hx hb dX6_merge_234 (by decide) (fun cc => absurd cc (by decide)) (fun cc => ?_)
                refine lv_iconst (v := 0) hx hb dX6_merge_237 (by decide) ?_
                exact W.iret hx hb hr (fun t ht hW => ⟨⟨_, (), rfl, (sw_inj h).1, mw_end hP ht (sw_inj h).2⟩, hS.F ht⟩) hS.2.2 dX6_merge_238 hlocks
              · replace h := sw_f h cc
                refine lv_iload hx hb dX6_merge_208 (lv_at hl 7 rfl) ?_
                refine lv_if_ne (tgt := 222) hx hb dX6_merge_210 (by decide) (fun cc => ?_) (fun cc => ?_)
                · replace h := sw_f h cc
                  refine lv_iconst (v := 3) hx hb dX6_merge_222 (by decide) ?_
                  refine lv_goto (tgt := 227) hx hb dX6_merge_223 (by decide) ?_
                  obtain ⟨u227, eu227, h⟩ := swlt_s h
                  refine mw_put hx hb hts hin hown hK hJ hP hS 0 (by decide) rfl f78 eu227 dX6_merge_227 (fun H locs hP hS => ?_)
                  refine lv_aload_n hx hb dX6_merge_230 rfl (lv_at hl 0 rfl) ?_
                  refine mw_get hx hb hts hin hown hK hP 0 (by decide) f78 rfl dX6_merge_231 ?_
                  refine sw_top (x := 3) (by rw [eu227]; rfl) ?_
                  refine lv_if_le (tgt := 239) hx hb dX6_merge_234 (by decide) (fun cc => absurd cc (by decide)) (fun cc => ?_)
                  refine lv_iconst (v := 0) hx hb dX6_merge_237 (by decide) ?_
                  exact W.iret hx hb hr (fun t ht hW => ⟨⟨_, (), rfl, (sw_inj h).1, mw_end hP ht (sw_inj h).2⟩, hS.F ht⟩) hS.2.2 dX6_merge_238 hlocks
                · replace h := sw_t h cc
                  refine lv_aload_n hx hb dX6_merge_213 rfl (lv_at hl 0 rfl) ?_
                  refine mw_get hx hb hts hin hown hK hP 1 (by decide) f7 rfl dX6_merge_214 ?_
                  refine lv_bipush (v := 40) hx hb dX6_merge_217 (by decide) ?_
                  refine lv_icmp_ne (tgt := 226) hx hb dX6_merge_219 (by decide) (fun cc => ?_) (fun cc => ?_)
                  · replace h := sw_f h cc
                    refine lv_iconst (v := 0) hx hb dX6_merge_226 (by decide) ?_
                    obtain ⟨u227, eu227, h⟩ := swlt_s h
                    refine mw_put hx hb hts hin hown hK hJ hP hS 0 (by decide) rfl f78 eu227 dX6_merge_227 (fun H locs hP hS => ?_)
                    refine lv_aload_n hx hb dX6_merge_230 rfl (lv_at hl 0 rfl) ?_
                    refine mw_get hx hb hts hin hown hK hP 0 (by decide) f78 rfl dX6_merge_231 ?_
                    refine sw_top (x := 0) (by rw [eu227]; rfl) ?_
                    refine lv_if_le (tgt := 239) hx hb dX6_merge_234 (by decide) (fun cc => ?_) (fun cc => absurd (by decide) cc)
                    refine lv_aload_n hx hb dX6_merge_239 rfl (lv_at hl 0 rfl) ?_
                    refine lv_iload_n hx hb dX6_merge_240 rfl (lv_at hl 1 rfl) ?_
                    refine lv_iconst (v := (-1)) hx hb dX6_merge_241 (by decide) ?_
                    obtain ⟨⟨r242, u242⟩, er242, h⟩ := swbd_s h
                    refine mw_callWi (As := [.int x1, .int (-1)]) (rest := []) E (mm_edits l D cy ad hJ u227 x1 (-1) _ _ er242) (cwV 2 hts gX6_merge_X6_edits rfl rfl rfl (by decide +kernel) ⟨Nat.le_of_ble_eq_true rfl, Nat.le_of_ble_eq_true rfl⟩) hK hP hS rfl hl.1 rfl (Nat.le_of_ble_eq_true rfl) dX6_merge_242 (fun H locs hP hS => ?_)
                    refine lv_istore (lv' := [(8, .int r242), (0, .ref (ad 0)), (1, .int x1), (2, .int x2), (3, .int x3), (4, .int r55), (5, .int a65), (6, .int a73), (7, .int v7)]) hx hb dX6_merge_245 hl (by decide) rfl (fun ls hl => ?_)
                    refine lv_aload_n hx hb dX6_merge_247 rfl (lv_at hl 1 rfl) ?_
                    refine mw_get hx hb hts hin hown hK hP 4 (by decide) f20 rfl dX6_merge_248 ?_
                    refine lv_iload hx hb dX6_merge_251 (lv_at hl 0 rfl) ?_
                    refine lv_iload hx hb dX6_merge_253 (lv_at hl 7 rfl) ?_
                    obtain ⟨iu255, h⟩ := swgd_s h
                    obtain ⟨u255, eu255, h⟩ := swlt_s h
                    refine mw_ast hx hb hK hJ hP hS 4 40 rfl (by decide) rfl rfl (swix_s iu255) eu255 dX6_merge_255 (fun H locs hP hS => ?_)
                    refine lv_aload_n hx hb dX6_merge_256 rfl (lv_at hl 1 rfl) ?_
                    refine mw_get hx hb hts hin hown hK hP 5 (by decide) f23 rfl dX6_merge_257 ?_
                    refine lv_iload hx hb dX6_merge_260 (lv_at hl 0 rfl) ?_
                    refine lv_aload_n hx hb dX6_merge_262 rfl (lv_at hl 1 rfl) ?_
                    refine mw_get hx hb hts hin hown hK hP 22 (by decide) f144 rfl dX6_merge_263 ?_
                    obtain ⟨iu266, h⟩ := swgd_s h
                    obtain ⟨u266, eu266, h⟩ := swlt_s h
                    refine mw_ast hx hb hK hJ hP hS 5 40 rfl (by decide) rfl rfl (swix_s iu266) eu266 dX6_merge_266 (fun H locs hP hS => ?_)
                    refine lv_iconst (v := 0) hx hb dX6_merge_267 (by decide) ?_
                    refine lv_istore (lv' := [(9, .int 0), (8, .int r242), (0, .ref (ad 0)), (1, .int x1), (2, .int x2), (3, .int x3), (4, .int r55), (5, .int a65), (6, .int a73), (7, .int v7)]) hx hb dX6_merge_268 hl (by decide) rfl (fun ls hl => ?_)
                    have L270 : ∀ (kk : Int32 → swU → Option (Int32 × swU)), (∀ (v9 : Int32) (w270 : swU) (H : Heap) (locs : List Loc) (ls : Array Slot), kk v9 w270 = some (r0, u0) → mwP D cy ad w270 H → va_S (mwA ad) s.heap H locs → lv_has ls 11 [(0, .ref (ad 0)), (1, .int x1), (2, .int x2), (3, .int x3), (4, .int r55), (5, .int a65), (6, .int a73), (7, .int v7), (8, .int r242), (9, .int v9)] → W p l e (headSpec wsX6_merge rmX6_merge).room s m args below meth c H locs 0 0 (MQ below (mwQi D cy ad r0 u0) args s 0 0 (mwA ad)) (F0 m 350 ls [])) → ∀ (n : Nat) (v9 : Int32) (w270 : swU) (H : Heap) (locs : List Loc) (ls : Array Slot), mx_merge_L270 r242 kk n v9 w270 = some (r0, u0) → mwP D cy ad w270 H → va_S (mwA ad) s.heap H locs → lv_has ls 11 [(0, .ref (ad 0)), (1, .int x1), (2, .int x2), (3, .int x3), (4, .int r55), (5, .int a65), (6, .int a73), (7, .int v7), (8, .int r242), (9, .int v9)] → W p l e (headSpec wsX6_merge rmX6_merge).room s m args below meth c H locs 0 0 (MQ below (mwQi D cy ad r0 u0) args s 0 0 (mwA ad)) (F0 m 270 ls []) := by
                      intro kk hk270 n
                      induction n with
                      | zero => intro v9 w270 H locs ls h hP hS hl; rw [mx_merge_L270] at h; cases h
                      | succ n ih270 =>
                        intro v9 w270 H locs ls h hP hS hl
                        rw [mx_merge_L270] at h
                        refine lv_iload hx hb dX6_merge_270 (lv_at hl 9 rfl) ?_
                        refine lv_aload_n hx hb dX6_merge_272 rfl (lv_at hl 0 rfl) ?_
                        refine mw_get hx hb hts hin hown hK hP 22 (by decide) f144 rfl dX6_merge_273 ?_
                        refine lv_icmp_ge (tgt := 350) hx hb dX6_merge_276 (by decide) (fun cc => ?_) (fun cc => ?_)
                        · replace h := sw_t h cc
                          exact hk270 _ _ _ _ _ h hP hS (lv_sub hl [0, 1, 2, 3, 4, 5, 6, 7, 8, 9] rfl)
                        · replace h := sw_f h cc
                          refine lv_aload_n hx hb dX6_merge_279 rfl (lv_at hl 0 rfl) ?_
                          refine mw_get hx hb hts hin hown hK hP 6 (by decide) f26 rfl dX6_merge_280 ?_
                          refine lv_bipush (v := 8) hx hb dX6_merge_283 (by decide) ?_
                          refine lv_iload hx hb dX6_merge_285 (lv_at hl 8 rfl) ?_
                          refine lv_imul hx hb dX6_merge_287 ?_
                          refine lv_iload hx hb dX6_merge_288 (lv_at hl 9 rfl) ?_
                          refine lv_iadd hx hb dX6_merge_290 ?_
                          refine lv_aload_n hx hb dX6_merge_291 rfl (lv_at hl 0 rfl) ?_
                          refine mw_get hx hb hts hin hown hK hP 23 (by decide) f62 rfl dX6_merge_292 ?_
                          refine lv_iload hx hb dX6_merge_295 (lv_at hl 9 rfl) ?_
                          obtain ⟨a297, ea297, ia297, h⟩ := swrd_s h
                          refine mw_ald hx hb hK hP 23 20 rfl rfl ia297 dX6_merge_297 ea297 ?_
                          obtain ⟨iu298, h⟩ := swgd_s h
                          obtain ⟨u298, eu298, h⟩ := swlt_s h
                          refine mw_ast hx hb hK hJ hP hS 6 320 rfl (by decide) rfl rfl (swix_s iu298) eu298 dX6_merge_298 (fun H locs hP hS => ?_)
                          refine lv_iconst (v := 0) hx hb dX6_merge_299 (by decide) ?_
                          refine lv_istore (lv' := [(10, .int 0), (0, .ref (ad 0)), (1, .int x1), (2, .int x2), (3, .int x3), (4, .int r55), (5, .int a65), (6, .int a73), (7, .int v7), (8, .int r242), (9, .int v9)]) hx hb dX6_merge_300 hl (by decide) rfl (fun ls hl => ?_)
                          have L302 : ∀ (kk : Int32 → swU → Option (Int32 × swU)), (∀ (v10 : Int32) (w302 : swU) (H : Heap) (locs : List Loc) (ls : Array Slot), kk v10 w302 = some (r0, u0) → mwP D cy ad w302 H → va_S (mwA ad) s.heap H locs → lv_has ls 11 [(0, .ref (ad 0)), (1, .int x1), (2, .int x2), (3, .int x3), (4, .int r55), (5, .int a65), (6, .int a73), (7, .int v7), (8, .int r242), (9, .int v9), (10, .int v10)] → W p l e (headSpec wsX6_merge rmX6_merge).room s m args below meth c H locs 0 0 (MQ below (mwQi D cy ad r0 u0) args s 0 0 (mwA ad)) (F0 m 344 ls [])) → ∀ (n : Nat) (v10 : Int32) (w302 : swU) (H : Heap) (locs : List Loc) (ls : Array Slot), mx_merge_L302 r242 v9 kk n v10 w302 = some (r0, u0) → mwP D cy ad w302 H → va_S (mwA ad) s.heap H locs → lv_has ls 11 [(0, .ref (ad 0)), (1, .int x1), (2, .int x2), (3, .int x3), (4, .int r55), (5, .int a65), (6, .int a73), (7, .int v7), (8, .int r242), (9, .int v9), (10, .int v10)] → W p l e (headSpec wsX6_merge rmX6_merge).room s m args below meth c H locs 0 0 (MQ below (mwQi D cy ad r0 u0) args s 0 0 (mwA ad)) (F0 m 302 ls []) := by
                            intro kk hk302 n
                            induction n with
                            | zero => intro v10 w302 H locs ls h hP hS hl; rw [mx_merge_L302] at h; cases h
                            | succ n ih302 =>
                              intro v10 w302 H locs ls h hP hS hl
                              rw [mx_merge_L302] at h
                              refine lv_iload hx hb dX6_merge_302 (lv_at hl 10 rfl) ?_
                              refine lv_iconst (v := 4) hx hb dX6_merge_304 (by decide) ?_
                              refine lv_icmp_ge (tgt := 344) hx hb dX6_merge_305 (by decide) (fun cc => ?_) (fun cc => ?_)
                              · replace h := sw_t h cc
                                exact hk302 _ _ _ _ _ h hP hS (lv_sub hl [0, 1, 2, 3, 4, 5, 6, 7, 8, 9, 10] rfl)
                              · replace h := sw_f h cc
                                refine lv_aload_n hx hb dX6_merge_308 rfl (lv_at hl 0 rfl) ?_
                                refine mw_get hx hb hts hin hown hK hP 7 (by decide) f29 rfl dX6_merge_309 ?_
                                refine lv_iconst (v := 4) hx hb dX6_merge_312 (by decide) ?_
                                refine lv_bipush (v := 8) hx hb dX6_merge_313 (by decide) ?_
                                refine lv_iload hx hb dX6_merge_315 (lv_at hl 8 rfl) ?_
                                refine lv_imul hx hb dX6_merge_317 ?_
                                refine lv_iload hx hb dX6_merge_318 (lv_at hl 9 rfl) ?_
                                refine lv_iadd hx hb dX6_merge_320 ?_
                                refine lv_imul hx hb dX6_merge_321 ?_
                                refine lv_iload hx hb dX6_merge_322 (lv_at hl 10 rfl) ?_
                                refine lv_iadd hx hb dX6_merge_324 ?_
                                refine lv_aload_n hx hb dX6_merge_325 rfl (lv_at hl 0 rfl) ?_
                                refine mw_get hx hb hts hin hown hK hP 24 (by decide) f65 rfl dX6_merge_326 ?_
                                refine lv_iconst (v := 4) hx hb dX6_merge_329 (by decide) ?_
                                refine lv_iload hx hb dX6_merge_330 (lv_at hl 9 rfl) ?_
                                refine lv_imul hx hb dX6_merge_332 ?_
                                refine lv_iload hx hb dX6_merge_333 (lv_at hl 10 rfl) ?_
                                refine lv_iadd hx hb dX6_merge_335 ?_
                                obtain ⟨a336, ea336, ia336, h⟩ := swrd_s h
                                refine mw_ald hx hb hK hP 24 80 rfl rfl ia336 dX6_merge_336 ea336 ?_
                                obtain ⟨iu337, h⟩ := swgd_s h
                                obtain ⟨u337, eu337, h⟩ := swlt_s h
                                refine mw_ast hx hb hK hJ hP hS 7 1280 rfl (by decide) rfl rfl (swix_s iu337) eu337 dX6_merge_337 (fun H locs hP hS => ?_)
                                refine lv_iinc (v := (v10 + 1)) (lv' := [(10, .int (v10 + 1)), (0, .ref (ad 0)), (1, .int x1), (2, .int x2), (3, .int x3), (4, .int r55), (5, .int a65), (6, .int a73), (7, .int v7), (8, .int r242), (9, .int v9)]) hx hb dX6_merge_338 hl (k := 10) rfl rfl (by decide) rfl (fun ls hl => ?_)
                                refine lv_goto (tgt := 302) hx hb dX6_merge_341 (by decide) ?_
                                exact ih302 _ _ _ _ _ h hP hS (lv_sub hl [1, 2, 3, 4, 5, 6, 7, 8, 9, 10, 0] rfl)
                          refine L302 _ (fun v10 w344 H locs ls h hP hS hl => ?_) 64 _ _ _ _ _ h hP hS (lv_sub hl [1, 2, 3, 4, 5, 6, 7, 8, 9, 10, 0] rfl)
                          refine lv_iinc (v := (v9 + 1)) (lv' := [(9, .int (v9 + 1)), (0, .ref (ad 0)), (1, .int x1), (2, .int x2), (3, .int x3), (4, .int r55), (5, .int a65), (6, .int a73), (7, .int v7), (8, .int r242), (10, .int v10)]) hx hb dX6_merge_344 hl (k := 9) rfl rfl (by decide) rfl (fun ls hl => ?_)
                          refine lv_goto (tgt := 270) hx hb dX6_merge_347 (by decide) ?_
                          exact ih270 _ _ _ _ _ h hP hS (lv_sub hl [1, 2, 3, 4, 5, 6, 7, 8, 9, 0] rfl)
                    refine L270 _ (fun v9 w350 H locs ls h hP hS hl => ?_) 64 _ _ _ _ _ h hP hS (lv_sub hl [2, 3, 4, 5, 6, 7, 8, 9, 1, 0] rfl)
                    refine lv_iload hx hb dX6_merge_350 (lv_at hl 8 rfl) ?_
                    exact W.iret hx hb hr (fun t ht hW => ⟨⟨_, (), rfl, (sw_inj h).1, mw_end hP ht (sw_inj h).2⟩, hS.F ht⟩) hS.2.2 dX6_merge_352 hlocks
                  · replace h := sw_t h cc
                    refine lv_iconst (v := 3) hx hb dX6_merge_222 (by decide) ?_
                    refine lv_goto (tgt := 227) hx hb dX6_merge_223 (by decide) ?_
                    obtain ⟨u227, eu227, h⟩ := swlt_s h
                    refine mw_put hx hb hts hin hown hK hJ hP hS 0 (by decide) rfl f78 eu227 dX6_merge_227 (fun H locs hP hS => ?_)
                    refine lv_aload_n hx hb dX6_merge_230 rfl (lv_at hl 0 rfl) ?_
                    refine mw_get hx hb hts hin hown hK hP 0 (by decide) f78 rfl dX6_merge_231 ?_
                    refine sw_top (x := 3) (by rw [eu227]; rfl) ?_
                    refine lv_if_le (tgt := 239) hx hb dX6_merge_234 (by decide) (fun cc => absurd cc (by decide)) (fun cc => ?_)
                    refine lv_iconst (v := 0) hx hb dX6_merge_237 (by decide) ?_
                    exact W.iret hx hb hr (fun t ht hW => ⟨⟨_, (), rfl, (sw_inj h).1, mw_end hP ht (sw_inj h).2⟩, hS.F ht⟩) hS.2.2 dX6_merge_238 hlocks
            · replace h := sw_t h cc
              refine lv_aload_n hx hb dX6_merge_186 rfl (lv_at hl 0 rfl) ?_
              refine lv_iload hx hb dX6_merge_187 (lv_at hl 4 rfl) ?_
              refine lv_iload hx hb dX6_merge_189 (lv_at hl 5 rfl) ?_
              refine lv_iload hx hb dX6_merge_191 (lv_at hl 6 rfl) ?_
              obtain ⟨r193, er193, h⟩ := swbd_s h
              refine mw_calli (As := [.int r55, .int a65, .int a73]) (rest := [.ref (ad 0)]) E (mm_clashesOf l D cy ad u93 r55 a65 a73 _ er193) (cwV 3 hts gX6_merge_X6_clashesOf rfl rfl rfl (by decide +kernel) ⟨Nat.le_of_ble_eq_true rfl, Nat.le_of_ble_eq_true rfl⟩) hK hP rfl hl.1 rfl (Nat.le_of_ble_eq_true rfl) dX6_merge_193 ?_
              refine lv_if_gt (tgt := 222) hx hb dX6_merge_196 (by decide) (fun cc => ?_) (fun cc => ?_)
              · replace h := sw_t h cc
                refine lv_iconst (v := 3) hx hb dX6_merge_222 (by decide) ?_
                refine lv_goto (tgt := 227) hx hb dX6_merge_223 (by decide) ?_
                obtain ⟨u227, eu227, h⟩ := swlt_s h
                refine mw_put hx hb hts hin hown hK hJ hP hS 0 (by decide) rfl f78 eu227 dX6_merge_227 (fun H locs hP hS => ?_)
                refine lv_aload_n hx hb dX6_merge_230 rfl (lv_at hl 0 rfl) ?_
                refine mw_get hx hb hts hin hown hK hP 0 (by decide) f78 rfl dX6_merge_231 ?_
                refine sw_top (x := 3) (by rw [eu227]; rfl) ?_
                refine lv_if_le (tgt := 239) hx hb dX6_merge_234 (by decide) (fun cc => absurd cc (by decide)) (fun cc => ?_)
                refine lv_iconst (v := 0) hx hb dX6_merge_237 (by decide) ?_
                exact W.iret hx hb hr (fun t ht hW => ⟨⟨_, (), rfl, (sw_inj h).1, mw_end hP ht (sw_inj h).2⟩, hS.F ht⟩) hS.2.2 dX6_merge_238 hlocks
              · replace h := sw_f h cc
                refine lv_aload_n hx hb dX6_merge_199 rfl (lv_at hl 0 rfl) ?_
                refine mw_get hx hb hts hin hown hK hP 22 (by decide) f144 rfl dX6_merge_200 ?_
                refine lv_bipush (v := 8) hx hb dX6_merge_203 (by decide) ?_
                refine lv_icmp_gt (tgt := 222) hx hb dX6_merge_205 (by decide) (fun cc => ?_) (fun cc => ?_)
                · replace h := sw_t h cc
                  refine lv_iconst (v := 3) hx hb dX6_merge_222 (by decide) ?_
                  refine lv_goto (tgt := 227) hx hb dX6_merge_223 (by decide) ?_
                  obtain ⟨u227, eu227, h⟩ := swlt_s h
                  refine mw_put hx hb hts hin hown hK hJ hP hS 0 (by decide) rfl f78 eu227 dX6_merge_227 (fun H locs hP hS => ?_)
                  refine lv_aload_n hx hb dX6_merge_230 rfl (lv_at hl 0 rfl) ?_
                  refine mw_get hx hb hts hin hown hK hP 0 (by decide) f78 rfl dX6_merge_231 ?_
                  refine sw_top (x := 3) (by rw [eu227]; rfl) ?_
                  refine lv_if_le (tgt := 239) hx hb dX6_merge_234 (by decide) (fun cc => absurd cc (by decide)) (fun cc => ?_)
                  refine lv_iconst (v := 0) hx hb dX6_merge_237 (by decide) ?_
                  exact W.iret hx hb hr (fun t ht hW => ⟨⟨_, (), rfl, (sw_inj h).1, mw_end hP ht (sw_inj h).2⟩, hS.F ht⟩) hS.2.2 dX6_merge_238 hlocks
                · replace h := sw_f h cc
                  refine lv_iload hx hb dX6_merge_208 (lv_at hl 7 rfl) ?_
                  refine lv_if_ne (tgt := 222) hx hb dX6_merge_210 (by decide) (fun cc => ?_) (fun cc => ?_)
                  · replace h := sw_f h cc
                    refine lv_iconst (v := 3) hx hb dX6_merge_222 (by decide) ?_
                    refine lv_goto (tgt := 227) hx hb dX6_merge_223 (by decide) ?_
                    obtain ⟨u227, eu227, h⟩ := swlt_s h
                    refine mw_put hx hb hts hin hown hK hJ hP hS 0 (by decide) rfl f78 eu227 dX6_merge_227 (fun H locs hP hS => ?_)
                    refine lv_aload_n hx hb dX6_merge_230 rfl (lv_at hl 0 rfl) ?_
                    refine mw_get hx hb hts hin hown hK hP 0 (by decide) f78 rfl dX6_merge_231 ?_
                    refine sw_top (x := 3) (by rw [eu227]; rfl) ?_
                    refine lv_if_le (tgt := 239) hx hb dX6_merge_234 (by decide) (fun cc => absurd cc (by decide)) (fun cc => ?_)
                    refine lv_iconst (v := 0) hx hb dX6_merge_237 (by decide) ?_
                    exact W.iret hx hb hr (fun t ht hW => ⟨⟨_, (), rfl, (sw_inj h).1, mw_end hP ht (sw_inj h).2⟩, hS.F ht⟩) hS.2.2 dX6_merge_238 hlocks
                  · replace h := sw_t h cc
                    refine lv_aload_n hx hb dX6_merge_213 rfl (lv_at hl 0 rfl) ?_
                    refine mw_get hx hb hts hin hown hK hP 1 (by decide) f7 rfl dX6_merge_214 ?_
                    refine lv_bipush (v := 40) hx hb dX6_merge_217 (by decide) ?_
                    refine lv_icmp_ne (tgt := 226) hx hb dX6_merge_219 (by decide) (fun cc => ?_) (fun cc => ?_)
                    · replace h := sw_f h cc
                      refine lv_iconst (v := 0) hx hb dX6_merge_226 (by decide) ?_
                      obtain ⟨u227, eu227, h⟩ := swlt_s h
                      refine mw_put hx hb hts hin hown hK hJ hP hS 0 (by decide) rfl f78 eu227 dX6_merge_227 (fun H locs hP hS => ?_)
                      refine lv_aload_n hx hb dX6_merge_230 rfl (lv_at hl 0 rfl) ?_
                      refine mw_get hx hb hts hin hown hK hP 0 (by decide) f78 rfl dX6_merge_231 ?_
                      refine sw_top (x := 0) (by rw [eu227]; rfl) ?_
                      refine lv_if_le (tgt := 239) hx hb dX6_merge_234 (by decide) (fun cc => ?_) (fun cc => absurd (by decide) cc)
                      refine lv_aload_n hx hb dX6_merge_239 rfl (lv_at hl 0 rfl) ?_
                      refine lv_iload_n hx hb dX6_merge_240 rfl (lv_at hl 1 rfl) ?_
                      refine lv_iconst (v := (-1)) hx hb dX6_merge_241 (by decide) ?_
                      obtain ⟨⟨r242, u242⟩, er242, h⟩ := swbd_s h
                      refine mw_callWi (As := [.int x1, .int (-1)]) (rest := []) E (mm_edits l D cy ad hJ u227 x1 (-1) _ _ er242) (cwV 2 hts gX6_merge_X6_edits rfl rfl rfl (by decide +kernel) ⟨Nat.le_of_ble_eq_true rfl, Nat.le_of_ble_eq_true rfl⟩) hK hP hS rfl hl.1 rfl (Nat.le_of_ble_eq_true rfl) dX6_merge_242 (fun H locs hP hS => ?_)
                      refine lv_istore (lv' := [(8, .int r242), (0, .ref (ad 0)), (1, .int x1), (2, .int x2), (3, .int x3), (4, .int r55), (5, .int a65), (6, .int a73), (7, .int v7)]) hx hb dX6_merge_245 hl (by decide) rfl (fun ls hl => ?_)
                      refine lv_aload_n hx hb dX6_merge_247 rfl (lv_at hl 1 rfl) ?_
                      refine mw_get hx hb hts hin hown hK hP 4 (by decide) f20 rfl dX6_merge_248 ?_
                      refine lv_iload hx hb dX6_merge_251 (lv_at hl 0 rfl) ?_
                      refine lv_iload hx hb dX6_merge_253 (lv_at hl 7 rfl) ?_
                      obtain ⟨iu255, h⟩ := swgd_s h
                      obtain ⟨u255, eu255, h⟩ := swlt_s h
                      refine mw_ast hx hb hK hJ hP hS 4 40 rfl (by decide) rfl rfl (swix_s iu255) eu255 dX6_merge_255 (fun H locs hP hS => ?_)
                      refine lv_aload_n hx hb dX6_merge_256 rfl (lv_at hl 1 rfl) ?_
                      refine mw_get hx hb hts hin hown hK hP 5 (by decide) f23 rfl dX6_merge_257 ?_
                      refine lv_iload hx hb dX6_merge_260 (lv_at hl 0 rfl) ?_
                      refine lv_aload_n hx hb dX6_merge_262 rfl (lv_at hl 1 rfl) ?_
                      refine mw_get hx hb hts hin hown hK hP 22 (by decide) f144 rfl dX6_merge_263 ?_
                      obtain ⟨iu266, h⟩ := swgd_s h
                      obtain ⟨u266, eu266, h⟩ := swlt_s h
                      refine mw_ast hx hb hK hJ hP hS 5 40 rfl (by decide) rfl rfl (swix_s iu266) eu266 dX6_merge_266 (fun H locs hP hS => ?_)
                      refine lv_iconst (v := 0) hx hb dX6_merge_267 (by decide) ?_
                      refine lv_istore (lv' := [(9, .int 0), (8, .int r242), (0, .ref (ad 0)), (1, .int x1), (2, .int x2), (3, .int x3), (4, .int r55), (5, .int a65), (6, .int a73), (7, .int v7)]) hx hb dX6_merge_268 hl (by decide) rfl (fun ls hl => ?_)
                      have L270 : ∀ (kk : Int32 → swU → Option (Int32 × swU)), (∀ (v9 : Int32) (w270 : swU) (H : Heap) (locs : List Loc) (ls : Array Slot), kk v9 w270 = some (r0, u0) → mwP D cy ad w270 H → va_S (mwA ad) s.heap H locs → lv_has ls 11 [(0, .ref (ad 0)), (1, .int x1), (2, .int x2), (3, .int x3), (4, .int r55), (5, .int a65), (6, .int a73), (7, .int v7), (8, .int r242), (9, .int v9)] → W p l e (headSpec wsX6_merge rmX6_merge).room s m args below meth c H locs 0 0 (MQ below (mwQi D cy ad r0 u0) args s 0 0 (mwA ad)) (F0 m 350 ls [])) → ∀ (n : Nat) (v9 : Int32) (w270 : swU) (H : Heap) (locs : List Loc) (ls : Array Slot), mx_merge_L270 r242 kk n v9 w270 = some (r0, u0) → mwP D cy ad w270 H → va_S (mwA ad) s.heap H locs → lv_has ls 11 [(0, .ref (ad 0)), (1, .int x1), (2, .int x2), (3, .int x3), (4, .int r55), (5, .int a65), (6, .int a73), (7, .int v7), (8, .int r242), (9, .int v9)] → W p l e (headSpec wsX6_merge rmX6_merge).room s m args below meth c H locs 0 0 (MQ below (mwQi D cy ad r0 u0) args s 0 0 (mwA ad)) (F0 m 270 ls []) := by
                        intro kk hk270 n
                        induction n with
                        | zero => intro v9 w270 H locs ls h hP hS hl; rw [mx_merge_L270] at h; cases h
                        | succ n ih270 =>
                          intro v9 w270 H locs ls h hP hS hl
                          rw [mx_merge_L270] at h
                          refine lv_iload hx hb dX6_merge_270 (lv_at hl 9 rfl) ?_
                          refine lv_aload_n hx hb dX6_merge_272 rfl (lv_at hl 0 rfl) ?_
                          refine mw_get hx hb hts hin hown hK hP 22 (by decide) f144 rfl dX6_merge_273 ?_
                          refine lv_icmp_ge (tgt := 350) hx hb dX6_merge_276 (by decide) (fun cc => ?_) (fun cc => ?_)
                          · replace h := sw_t h cc
                            exact hk270 _ _ _ _ _ h hP hS (lv_sub hl [0, 1, 2, 3, 4, 5, 6, 7, 8, 9] rfl)
                          · replace h := sw_f h cc
                            refine lv_aload_n hx hb dX6_merge_279 rfl (lv_at hl 0 rfl) ?_
                            refine mw_get hx hb hts hin hown hK hP 6 (by decide) f26 rfl dX6_merge_280 ?_
                            refine lv_bipush (v := 8) hx hb dX6_merge_283 (by decide) ?_
                            refine lv_iload hx hb dX6_merge_285 (lv_at hl 8 rfl) ?_
                            refine lv_imul hx hb dX6_merge_287 ?_
                            refine lv_iload hx hb dX6_merge_288 (lv_at hl 9 rfl) ?_
                            refine lv_iadd hx hb dX6_merge_290 ?_
                            refine lv_aload_n hx hb dX6_merge_291 rfl (lv_at hl 0 rfl) ?_
                            refine mw_get hx hb hts hin hown hK hP 23 (by decide) f62 rfl dX6_merge_292 ?_
                            refine lv_iload hx hb dX6_merge_295 (lv_at hl 9 rfl) ?_
                            obtain ⟨a297, ea297, ia297, h⟩ := swrd_s h
                            refine mw_ald hx hb hK hP 23 20 rfl rfl ia297 dX6_merge_297 ea297 ?_
                            obtain ⟨iu298, h⟩ := swgd_s h
                            obtain ⟨u298, eu298, h⟩ := swlt_s h
                            refine mw_ast hx hb hK hJ hP hS 6 320 rfl (by decide) rfl rfl (swix_s iu298) eu298 dX6_merge_298 (fun H locs hP hS => ?_)
                            refine lv_iconst (v := 0) hx hb dX6_merge_299 (by decide) ?_
                            refine lv_istore (lv' := [(10, .int 0), (0, .ref (ad 0)), (1, .int x1), (2, .int x2), (3, .int x3), (4, .int r55), (5, .int a65), (6, .int a73), (7, .int v7), (8, .int r242), (9, .int v9)]) hx hb dX6_merge_300 hl (by decide) rfl (fun ls hl => ?_)
                            have L302 : ∀ (kk : Int32 → swU → Option (Int32 × swU)), (∀ (v10 : Int32) (w302 : swU) (H : Heap) (locs : List Loc) (ls : Array Slot), kk v10 w302 = some (r0, u0) → mwP D cy ad w302 H → va_S (mwA ad) s.heap H locs → lv_has ls 11 [(0, .ref (ad 0)), (1, .int x1), (2, .int x2), (3, .int x3), (4, .int r55), (5, .int a65), (6, .int a73), (7, .int v7), (8, .int r242), (9, .int v9), (10, .int v10)] → W p l e (headSpec wsX6_merge rmX6_merge).room s m args below meth c H locs 0 0 (MQ below (mwQi D cy ad r0 u0) args s 0 0 (mwA ad)) (F0 m 344 ls [])) → ∀ (n : Nat) (v10 : Int32) (w302 : swU) (H : Heap) (locs : List Loc) (ls : Array Slot), mx_merge_L302 r242 v9 kk n v10 w302 = some (r0, u0) → mwP D cy ad w302 H → va_S (mwA ad) s.heap H locs → lv_has ls 11 [(0, .ref (ad 0)), (1, .int x1), (2, .int x2), (3, .int x3), (4, .int r55), (5, .int a65), (6, .int a73), (7, .int v7), (8, .int r242), (9, .int v9), (10, .int v10)] → W p l e (headSpec wsX6_merge rmX6_merge).room s m args below meth c H locs 0 0 (MQ below (mwQi D cy ad r0 u0) args s 0 0 (mwA ad)) (F0 m 302 ls []) := by
                              intro kk hk302 n
                              induction n with
                              | zero => intro v10 w302 H locs ls h hP hS hl; rw [mx_merge_L302] at h; cases h
                              | succ n ih302 =>
                                intro v10 w302 H locs ls h hP hS hl
                                rw [mx_merge_L302] at h
                                refine lv_iload hx hb dX6_merge_302 (lv_at hl 10 rfl) ?_
                                refine lv_iconst (v := 4) hx hb dX6_merge_304 (by decide) ?_
                                refine lv_icmp_ge (tgt := 344) hx hb dX6_merge_305 (by decide) (fun cc => ?_) (fun cc => ?_)
                                · replace h := sw_t h cc
                                  exact hk302 _ _ _ _ _ h hP hS (lv_sub hl [0, 1, 2, 3, 4, 5, 6, 7, 8, 9, 10] rfl)
                                · replace h := sw_f h cc
                                  refine lv_aload_n hx hb dX6_merge_308 rfl (lv_at hl 0 rfl) ?_
                                  refine mw_get hx hb hts hin hown hK hP 7 (by decide) f29 rfl dX6_merge_309 ?_
                                  refine lv_iconst (v := 4) hx hb dX6_merge_312 (by decide) ?_
                                  refine lv_bipush (v := 8) hx hb dX6_merge_313 (by decide) ?_
                                  refine lv_iload hx hb dX6_merge_315 (lv_at hl 8 rfl) ?_
                                  refine lv_imul hx hb dX6_merge_317 ?_
                                  refine lv_iload hx hb dX6_merge_318 (lv_at hl 9 rfl) ?_
                                  refine lv_iadd hx hb dX6_merge_320 ?_
                                  refine lv_imul hx hb dX6_merge_321 ?_
                                  refine lv_iload hx hb dX6_merge_322 (lv_at hl 10 rfl) ?_
                                  refine lv_iadd hx hb dX6_merge_324 ?_
                                  refine lv_aload_n hx hb dX6_merge_325 rfl (lv_at hl 0 rfl) ?_
                                  refine mw_get hx hb hts hin hown hK hP 24 (by decide) f65 rfl dX6_merge_326 ?_
                                  refine lv_iconst (v := 4) hx hb dX6_merge_329 (by decide) ?_
                                  refine lv_iload hx hb dX6_merge_330 (lv_at hl 9 rfl) ?_
                                  refine lv_imul hx hb dX6_merge_332 ?_
                                  refine lv_iload hx hb dX6_merge_333 (lv_at hl 10 rfl) ?_
                                  refine lv_iadd hx hb dX6_merge_335 ?_
                                  obtain ⟨a336, ea336, ia336, h⟩ := swrd_s h
                                  refine mw_ald hx hb hK hP 24 80 rfl rfl ia336 dX6_merge_336 ea336 ?_
                                  obtain ⟨iu337, h⟩ := swgd_s h
                                  obtain ⟨u337, eu337, h⟩ := swlt_s h
                                  refine mw_ast hx hb hK hJ hP hS 7 1280 rfl (by decide) rfl rfl (swix_s iu337) eu337 dX6_merge_337 (fun H locs hP hS => ?_)
                                  refine lv_iinc (v := (v10 + 1)) (lv' := [(10, .int (v10 + 1)), (0, .ref (ad 0)), (1, .int x1), (2, .int x2), (3, .int x3), (4, .int r55), (5, .int a65), (6, .int a73), (7, .int v7), (8, .int r242), (9, .int v9)]) hx hb dX6_merge_338 hl (k := 10) rfl rfl (by decide) rfl (fun ls hl => ?_)
                                  refine lv_goto (tgt := 302) hx hb dX6_merge_341 (by decide) ?_
                                  exact ih302 _ _ _ _ _ h hP hS (lv_sub hl [1, 2, 3, 4, 5, 6, 7, 8, 9, 10, 0] rfl)
                            refine L302 _ (fun v10 w344 H locs ls h hP hS hl => ?_) 64 _ _ _ _ _ h hP hS (lv_sub hl [1, 2, 3, 4, 5, 6, 7, 8, 9, 10, 0] rfl)
                            refine lv_iinc (v := (v9 + 1)) (lv' := [(9, .int (v9 + 1)), (0, .ref (ad 0)), (1, .int x1), (2, .int x2), (3, .int x3), (4, .int r55), (5, .int a65), (6, .int a73), (7, .int v7), (8, .int r242), (10, .int v10)]) hx hb dX6_merge_344 hl (k := 9) rfl rfl (by decide) rfl (fun ls hl => ?_)
                            refine lv_goto (tgt := 270) hx hb dX6_merge_347 (by decide) ?_
                            exact ih270 _ _ _ _ _ h hP hS (lv_sub hl [1, 2, 3, 4, 5, 6, 7, 8, 9, 0] rfl)
                      refine L270 _ (fun v9 w350 H locs ls h hP hS hl => ?_) 64 _ _ _ _ _ h hP hS (lv_sub hl [2, 3, 4, 5, 6, 7, 8, 9, 1, 0] rfl)
                      refine lv_iload hx hb dX6_merge_350 (lv_at hl 8 rfl) ?_
                      exact W.iret hx hb hr (fun t ht hW => ⟨⟨_, (), rfl, (sw_inj h).1, mw_end hP ht (sw_inj h).2⟩, hS.F ht⟩) hS.2.2 dX6_merge_352 hlocks
                    · replace h := sw_t h cc
                      refine lv_iconst (v := 3) hx hb dX6_merge_222 (by decide) ?_
                      refine lv_goto (tgt := 227) hx hb dX6_merge_223 (by decide) ?_
                      obtain ⟨u227, eu227, h⟩ := swlt_s h
                      refine mw_put hx hb hts hin hown hK hJ hP hS 0 (by decide) rfl f78 eu227 dX6_merge_227 (fun H locs hP hS => ?_)
                      refine lv_aload_n hx hb dX6_merge_230 rfl (lv_at hl 0 rfl) ?_
                      refine mw_get hx hb hts hin hown hK hP 0 (by decide) f78 rfl dX6_merge_231 ?_
                      refine sw_top (x := 3) (by rw [eu227]; rfl) ?_
                      refine lv_if_le (tgt := 239) hx hb dX6_merge_234 (by decide) (fun cc => absurd cc (by decide)) (fun cc => ?_)
                      refine lv_iconst (v := 0) hx hb dX6_merge_237 (by decide) ?_
                      exact W.iret hx hb hr (fun t ht hW => ⟨⟨_, (), rfl, (sw_inj h).1, mw_end hP ht (sw_inj h).2⟩, hS.F ht⟩) hS.2.2 dX6_merge_238 hlocks
        · replace h := sw_t h cc
          refine lv_iconst (v := 2) hx hb dX6_merge_35 (by decide) ?_
          refine lv_goto (tgt := 40) hx hb dX6_merge_36 (by decide) ?_
          obtain ⟨u40, eu40, h⟩ := swlt_s h
          refine mw_put hx hb hts hin hown hK hJ hP hS 0 (by decide) rfl f78 eu40 dX6_merge_40 (fun H locs hP hS => ?_)
          refine lv_aload_n hx hb dX6_merge_43 rfl (lv_at hl 0 rfl) ?_
          refine mw_get hx hb hts hin hown hK hP 0 (by decide) f78 rfl dX6_merge_44 ?_
          refine sw_top (x := 2) (by rw [eu40]; rfl) ?_
          refine lv_if_le (tgt := 52) hx hb dX6_merge_47 (by decide) (fun cc => absurd cc (by decide)) (fun cc => ?_)
          refine lv_iconst (v := 0) hx hb dX6_merge_50 (by decide) ?_
          exact W.iret hx hb hr (fun t ht hW => ⟨⟨_, (), rfl, (sw_inj h).1, mw_end hP ht (sw_inj h).2⟩, hS.F ht⟩) hS.2.2 dX6_merge_51 hlocks
    · replace h := sw_t h cc
      refine lv_iconst (v := 1) hx hb dX6_merge_17 (by decide) ?_
      refine lv_goto (tgt := 40) hx hb dX6_merge_18 (by decide) ?_
      obtain ⟨u40, eu40, h⟩ := swlt_s h
      refine mw_put hx hb hts hin hown hK hJ hP hS 0 (by decide) rfl f78 eu40 dX6_merge_40 (fun H locs hP hS => ?_)
      refine lv_aload_n hx hb dX6_merge_43 rfl (lv_at hl 0 rfl) ?_
      refine mw_get hx hb hts hin hown hK hP 0 (by decide) f78 rfl dX6_merge_44 ?_
      refine sw_top (x := 1) (by rw [eu40]; rfl) ?_
      refine lv_if_le (tgt := 52) hx hb dX6_merge_47 (by decide) (fun cc => absurd cc (by decide)) (fun cc => ?_)
      refine lv_iconst (v := 0) hx hb dX6_merge_50 (by decide) ?_
      exact W.iret hx hb hr (fun t ht hW => ⟨⟨_, (), rfl, (sw_inj h).1, mw_end hP ht (sw_inj h).2⟩, hS.F ht⟩) hS.2.2 dX6_merge_51 hlocks

/-! rule -/
def mx_rule (u : swU) (x1 : Int32) (x2 : Int32) (x3 : Int32) (x4 : Int32) : Option (Int32 × swU) :=
  swbd (mx_in x1 0 2) fun r4 => if (swB r4) = 0 then (swlt (swI u 0 0 1) fun u62 => some (0, u62)) else (swbd (mx_isObject x2) fun r11 => if (swB r11) = 0 then (swlt (swI u 0 0 1) fun u62 => some (0, u62)) else (swbd (mx_in x3 1 999) fun r26 => if (swB r26) = 0 then (swlt (swI u 0 0 2) fun u62 => some (0, u62)) else (swbd (mx_in x4 x3 999) fun r38 => if (swB r38) = 0 then (swlt (swI u 0 0 2) fun u62 => some (0, u62)) else (if (u.1 0 12) = 8 then (swlt (swI u 0 0 3) fun u62 => some (0, u62)) else (swlt (swI u 0 0 0) fun u62 => swgd (swix (u62.1 0 12) 8) <| swlt (swI u62 13 (u62.1 0 12).toNatClampNeg x1) fun u83 => swgd (swix (u83.1 0 12) 8) <| swlt (swI u83 14 (u83.1 0 12).toNatClampNeg x2) fun u93 => swgd (swix (u93.1 0 12) 8) <| swlt (swI u93 15 (u93.1 0 12).toNatClampNeg x3) fun u103 => swgd (swix (u103.1 0 12) 8) <| swlt (swI u103 16 (u103.1 0 12).toNatClampNeg x4) fun u114 => swlt (swI u114 0 12 (((u114.1 0 12) + 1))) fun u122 => some (((u122.1 0 12) - 1), u122))))))

abbrev rmX6_rule : Room := { frames := 2, cells := 0, slots := 0, locals := 42 }

set_option maxHeartbeats 4000000 in
set_option maxRecDepth 100000 in
theorem mm_rule (l : Launch) (D : va_G) (cy : Nat → ClassId) (ad : Nat → Nat) (hJ : swJ mw_N ad) (u : swU) (x1 : Int32) (x2 : Int32) (x3 : Int32) (x4 : Int32) (r0 : Int32) (u0 : swU) (h : mx_rule u x1 x2 x3 x4 = some (r0, u0)) : Met l yX6_rule wsX6_rule rmX6_rule (mwC D cy ad u [.ref (ad 0), .int x1, .int x2, .int x3, .int x4]) (mwQi D cy ad r0 u0) 0 0 (mwA ad) := by
  refine Met.ofW (cc := cX6_rule) (maxL := 5) (ret := (some .int)) (by decide) rfl ?_
  intro p e s m args below meth c s₁ B hml hv
  obtain ⟨ha, hP, hK⟩ := hv
  have hx := B.exec
  have hb := B.bytes
  have hr := B.returns
  have hlocks := B.notSynchronized
  have hts := atoms_spec (ws := wsX6_rule) B.pre
  have hown : s.vm.findClass RX6 = some m.cls := findClass_of_methodNamed B.named
  have E : CallFix p m c cX6_rule 5 s args wsX6_rule RX6 := ⟨hx, hb, hml, hown, hts⟩
  have hin : ∀ w ∈ wsX60, w ∈ wsX6_rule := by decide +kernel
  have f155 : (Cond.fieldLink RX6 155 "SlidewardenModel" "rules" "I").before args s = true := hts _ (by decide +kernel)
  have f41 : (Cond.fieldLink RX6 41 "SlidewardenModel" "rank" "[I").before args s = true := hts _ (by decide +kernel)
  have f44 : (Cond.fieldLink RX6 44 "SlidewardenModel" "object" "[I").before args s = true := hts _ (by decide +kernel)
  have f47 : (Cond.fieldLink RX6 47 "SlidewardenModel" "least" "[I").before args s = true := hts _ (by decide +kernel)
  have f50 : (Cond.fieldLink RX6 50 "SlidewardenModel" "most" "[I").before args s = true := hts _ (by decide +kernel)
  have f78 : (Cond.fieldLink RX6 78 "SlidewardenModel" "thrown" "I").before args s = true := hts _ (by decide +kernel)
  have hS : va_S (mwA ad) s.heap s.heap [] := va_S.rf
  obtain ⟨ls, hl, hent⟩ := sw_entry m (n := 5) ha (Nat.le_of_ble_eq_true rfl)
  rw [hent]
  have hl : lv_has ls 5 [(0, .ref (ad 0)), (1, .int x1), (2, .int x2), (3, .int x3), (4, .int x4)] := hl
  unfold mx_rule at h
  refine lv_aload_n hx hb dX6_rule_0 rfl (lv_at hl 0 rfl) ?_
  refine lv_iload_n hx hb dX6_rule_1 rfl (lv_at hl 1 rfl) ?_
  refine lv_iconst (v := 0) hx hb dX6_rule_2 (by decide) ?_
  refine lv_iconst (v := 2) hx hb dX6_rule_3 (by decide) ?_
  obtain ⟨r4, er4, h⟩ := swbd_s h
  refine sw_callSi (As := [.int x1, .int 0, .int 2]) (rest := [.ref (ad 0)]) E (mm_in l x1 0 2 _ er4) (va_cwS 3 hts gX6_rule_X6_in rfl rfl rfl (by decide +kernel) ⟨Nat.le_of_ble_eq_true rfl, Nat.le_of_ble_eq_true rfl⟩) rfl hl.1 rfl (Nat.le_of_ble_eq_true rfl) dX6_rule_4 ?_
  refine lv_if_eq (tgt := 17) hx hb dX6_rule_7 (by decide) (fun cc => ?_) (fun cc => ?_)
  · replace h := sw_t h cc
    refine lv_iconst (v := 1) hx hb dX6_rule_17 (by decide) ?_
    refine lv_goto (tgt := 62) hx hb dX6_rule_18 (by decide) ?_
    obtain ⟨u62, eu62, h⟩ := swlt_s h
    refine mw_put hx hb hts hin hown hK hJ hP hS 0 (by decide) rfl f78 eu62 dX6_rule_62 (fun H locs hP hS => ?_)
    refine lv_aload_n hx hb dX6_rule_65 rfl (lv_at hl 0 rfl) ?_
    refine mw_get hx hb hts hin hown hK hP 0 (by decide) f78 rfl dX6_rule_66 ?_
    refine sw_top (x := 1) (by rw [eu62]; rfl) ?_
    refine lv_if_le (tgt := 74) hx hb dX6_rule_69 (by decide) (fun cc => absurd cc (by decide)) (fun cc => ?_)
    refine lv_iconst (v := 0) hx hb dX6_rule_72 (by decide) ?_
    exact W.iret hx hb hr (fun t ht hW => ⟨⟨_, (), rfl, (sw_inj h).1, mw_end hP ht (sw_inj h).2⟩, hS.F ht⟩) hS.2.2 dX6_rule_73 hlocks
  · replace h := sw_f h cc
    refine lv_iload_n hx hb dX6_rule_10 rfl (lv_at hl 2 rfl) ?_
    obtain ⟨r11, er11, h⟩ := swbd_s h
    refine sw_callSi (As := [.int x2]) (rest := [.ref (ad 0)]) E (mm_isObject l x2 _ er11) (va_cwS 1 hts gX6_rule_X6_isObject rfl rfl rfl (by decide +kernel) ⟨Nat.le_of_ble_eq_true rfl, Nat.le_of_ble_eq_true rfl⟩) rfl hl.1 rfl (Nat.le_of_ble_eq_true rfl) dX6_rule_11 ?_
    refine lv_if_ne (tgt := 21) hx hb dX6_rule_14 (by decide) (fun cc => ?_) (fun cc => ?_)
    · replace h := sw_f h cc
      refine lv_iload_n hx hb dX6_rule_21 rfl (lv_at hl 3 rfl) ?_
      refine lv_iconst (v := 1) hx hb dX6_rule_22 (by decide) ?_
      refine lv_sipush (v := 999) hx hb dX6_rule_23 (by decide) ?_
      obtain ⟨r26, er26, h⟩ := swbd_s h
      refine sw_callSi (As := [.int x3, .int 1, .int 999]) (rest := [.ref (ad 0)]) E (mm_in l x3 1 999 _ er26) (va_cwS 3 hts gX6_rule_X6_in rfl rfl rfl (by decide +kernel) ⟨Nat.le_of_ble_eq_true rfl, Nat.le_of_ble_eq_true rfl⟩) rfl hl.1 rfl (Nat.le_of_ble_eq_true rfl) dX6_rule_26 ?_
      refine lv_if_eq (tgt := 44) hx hb dX6_rule_29 (by decide) (fun cc => ?_) (fun cc => ?_)
      · replace h := sw_t h cc
        refine lv_iconst (v := 2) hx hb dX6_rule_44 (by decide) ?_
        refine lv_goto (tgt := 62) hx hb dX6_rule_45 (by decide) ?_
        obtain ⟨u62, eu62, h⟩ := swlt_s h
        refine mw_put hx hb hts hin hown hK hJ hP hS 0 (by decide) rfl f78 eu62 dX6_rule_62 (fun H locs hP hS => ?_)
        refine lv_aload_n hx hb dX6_rule_65 rfl (lv_at hl 0 rfl) ?_
        refine mw_get hx hb hts hin hown hK hP 0 (by decide) f78 rfl dX6_rule_66 ?_
        refine sw_top (x := 2) (by rw [eu62]; rfl) ?_
        refine lv_if_le (tgt := 74) hx hb dX6_rule_69 (by decide) (fun cc => absurd cc (by decide)) (fun cc => ?_)
        refine lv_iconst (v := 0) hx hb dX6_rule_72 (by decide) ?_
        exact W.iret hx hb hr (fun t ht hW => ⟨⟨_, (), rfl, (sw_inj h).1, mw_end hP ht (sw_inj h).2⟩, hS.F ht⟩) hS.2.2 dX6_rule_73 hlocks
      · replace h := sw_f h cc
        refine lv_iload hx hb dX6_rule_32 (lv_at hl 4 rfl) ?_
        refine lv_iload_n hx hb dX6_rule_34 rfl (lv_at hl 3 rfl) ?_
        refine lv_sipush (v := 999) hx hb dX6_rule_35 (by decide) ?_
        obtain ⟨r38, er38, h⟩ := swbd_s h
        refine sw_callSi (As := [.int x4, .int x3, .int 999]) (rest := [.ref (ad 0)]) E (mm_in l x4 x3 999 _ er38) (va_cwS 3 hts gX6_rule_X6_in rfl rfl rfl (by decide +kernel) ⟨Nat.le_of_ble_eq_true rfl, Nat.le_of_ble_eq_true rfl⟩) rfl hl.1 rfl (Nat.le_of_ble_eq_true rfl) dX6_rule_38 ?_
        refine lv_if_ne (tgt := 48) hx hb dX6_rule_41 (by decide) (fun cc => ?_) (fun cc => ?_)
        · replace h := sw_f h cc
          refine lv_aload_n hx hb dX6_rule_48 rfl (lv_at hl 0 rfl) ?_
          refine mw_get hx hb hts hin hown hK hP 12 (by decide) f155 rfl dX6_rule_49 ?_
          refine lv_bipush (v := 8) hx hb dX6_rule_52 (by decide) ?_
          refine lv_icmp_ne (tgt := 61) hx hb dX6_rule_54 (by decide) (fun cc => ?_) (fun cc => ?_)
          · replace h := sw_f h cc
            refine lv_iconst (v := 0) hx hb dX6_rule_61 (by decide) ?_
            obtain ⟨u62, eu62, h⟩ := swlt_s h
            refine mw_put hx hb hts hin hown hK hJ hP hS 0 (by decide) rfl f78 eu62 dX6_rule_62 (fun H locs hP hS => ?_)
            refine lv_aload_n hx hb dX6_rule_65 rfl (lv_at hl 0 rfl) ?_
            refine mw_get hx hb hts hin hown hK hP 0 (by decide) f78 rfl dX6_rule_66 ?_
            refine sw_top (x := 0) (by rw [eu62]; rfl) ?_
            refine lv_if_le (tgt := 74) hx hb dX6_rule_69 (by decide) (fun cc => ?_) (fun cc => absurd (by decide) cc)
            refine lv_aload_n hx hb dX6_rule_74 rfl (lv_at hl 0 rfl) ?_
            refine mw_get hx hb hts hin hown hK hP 13 (by decide) f41 rfl dX6_rule_75 ?_
            refine lv_aload_n hx hb dX6_rule_78 rfl (lv_at hl 0 rfl) ?_
            refine mw_get hx hb hts hin hown hK hP 12 (by decide) f155 rfl dX6_rule_79 ?_
            refine lv_iload_n hx hb dX6_rule_82 rfl (lv_at hl 1 rfl) ?_
            obtain ⟨iu83, h⟩ := swgd_s h
            obtain ⟨u83, eu83, h⟩ := swlt_s h
            refine mw_ast hx hb hK hJ hP hS 13 8 rfl (by decide) rfl rfl (swix_s iu83) eu83 dX6_rule_83 (fun H locs hP hS => ?_)
            refine lv_aload_n hx hb dX6_rule_84 rfl (lv_at hl 0 rfl) ?_
            refine mw_get hx hb hts hin hown hK hP 14 (by decide) f44 rfl dX6_rule_85 ?_
            refine lv_aload_n hx hb dX6_rule_88 rfl (lv_at hl 0 rfl) ?_
            refine mw_get hx hb hts hin hown hK hP 12 (by decide) f155 rfl dX6_rule_89 ?_
            refine lv_iload_n hx hb dX6_rule_92 rfl (lv_at hl 2 rfl) ?_
            obtain ⟨iu93, h⟩ := swgd_s h
            obtain ⟨u93, eu93, h⟩ := swlt_s h
            refine mw_ast hx hb hK hJ hP hS 14 8 rfl (by decide) rfl rfl (swix_s iu93) eu93 dX6_rule_93 (fun H locs hP hS => ?_)
            refine lv_aload_n hx hb dX6_rule_94 rfl (lv_at hl 0 rfl) ?_
            refine mw_get hx hb hts hin hown hK hP 15 (by decide) f47 rfl dX6_rule_95 ?_
            refine lv_aload_n hx hb dX6_rule_98 rfl (lv_at hl 0 rfl) ?_
            refine mw_get hx hb hts hin hown hK hP 12 (by decide) f155 rfl dX6_rule_99 ?_
            refine lv_iload_n hx hb dX6_rule_102 rfl (lv_at hl 3 rfl) ?_
            obtain ⟨iu103, h⟩ := swgd_s h
            obtain ⟨u103, eu103, h⟩ := swlt_s h
            refine mw_ast hx hb hK hJ hP hS 15 8 rfl (by decide) rfl rfl (swix_s iu103) eu103 dX6_rule_103 (fun H locs hP hS => ?_)
            refine lv_aload_n hx hb dX6_rule_104 rfl (lv_at hl 0 rfl) ?_
            refine mw_get hx hb hts hin hown hK hP 16 (by decide) f50 rfl dX6_rule_105 ?_
            refine lv_aload_n hx hb dX6_rule_108 rfl (lv_at hl 0 rfl) ?_
            refine mw_get hx hb hts hin hown hK hP 12 (by decide) f155 rfl dX6_rule_109 ?_
            refine lv_iload hx hb dX6_rule_112 (lv_at hl 4 rfl) ?_
            obtain ⟨iu114, h⟩ := swgd_s h
            obtain ⟨u114, eu114, h⟩ := swlt_s h
            refine mw_ast hx hb hK hJ hP hS 16 8 rfl (by decide) rfl rfl (swix_s iu114) eu114 dX6_rule_114 (fun H locs hP hS => ?_)
            refine lv_aload_n hx hb dX6_rule_115 rfl (lv_at hl 0 rfl) ?_
            refine lv_dup hx hb dX6_rule_116 rfl ?_
            refine mw_get hx hb hts hin hown hK hP 12 (by decide) f155 rfl dX6_rule_117 ?_
            refine lv_iconst (v := 1) hx hb dX6_rule_120 (by decide) ?_
            refine lv_iadd hx hb dX6_rule_121 ?_
            obtain ⟨u122, eu122, h⟩ := swlt_s h
            refine mw_put hx hb hts hin hown hK hJ hP hS 12 (by decide) rfl f155 eu122 dX6_rule_122 (fun H locs hP hS => ?_)
            refine lv_aload_n hx hb dX6_rule_125 rfl (lv_at hl 0 rfl) ?_
            refine mw_get hx hb hts hin hown hK hP 12 (by decide) f155 rfl dX6_rule_126 ?_
            refine lv_iconst (v := 1) hx hb dX6_rule_129 (by decide) ?_
            refine lv_isub hx hb dX6_rule_130 ?_
            exact W.iret hx hb hr (fun t ht hW => ⟨⟨_, (), rfl, (sw_inj h).1, mw_end hP ht (sw_inj h).2⟩, hS.F ht⟩) hS.2.2 dX6_rule_131 hlocks
          · replace h := sw_t h cc
            refine lv_iconst (v := 3) hx hb dX6_rule_57 (by decide) ?_
            refine lv_goto (tgt := 62) hx hb dX6_rule_58 (by decide) ?_
            obtain ⟨u62, eu62, h⟩ := swlt_s h
            refine mw_put hx hb hts hin hown hK hJ hP hS 0 (by decide) rfl f78 eu62 dX6_rule_62 (fun H locs hP hS => ?_)
            refine lv_aload_n hx hb dX6_rule_65 rfl (lv_at hl 0 rfl) ?_
            refine mw_get hx hb hts hin hown hK hP 0 (by decide) f78 rfl dX6_rule_66 ?_
            refine sw_top (x := 3) (by rw [eu62]; rfl) ?_
            refine lv_if_le (tgt := 74) hx hb dX6_rule_69 (by decide) (fun cc => absurd cc (by decide)) (fun cc => ?_)
            refine lv_iconst (v := 0) hx hb dX6_rule_72 (by decide) ?_
            exact W.iret hx hb hr (fun t ht hW => ⟨⟨_, (), rfl, (sw_inj h).1, mw_end hP ht (sw_inj h).2⟩, hS.F ht⟩) hS.2.2 dX6_rule_73 hlocks
        · replace h := sw_t h cc
          refine lv_iconst (v := 2) hx hb dX6_rule_44 (by decide) ?_
          refine lv_goto (tgt := 62) hx hb dX6_rule_45 (by decide) ?_
          obtain ⟨u62, eu62, h⟩ := swlt_s h
          refine mw_put hx hb hts hin hown hK hJ hP hS 0 (by decide) rfl f78 eu62 dX6_rule_62 (fun H locs hP hS => ?_)
          refine lv_aload_n hx hb dX6_rule_65 rfl (lv_at hl 0 rfl) ?_
          refine mw_get hx hb hts hin hown hK hP 0 (by decide) f78 rfl dX6_rule_66 ?_
          refine sw_top (x := 2) (by rw [eu62]; rfl) ?_
          refine lv_if_le (tgt := 74) hx hb dX6_rule_69 (by decide) (fun cc => absurd cc (by decide)) (fun cc => ?_)
          refine lv_iconst (v := 0) hx hb dX6_rule_72 (by decide) ?_
          exact W.iret hx hb hr (fun t ht hW => ⟨⟨_, (), rfl, (sw_inj h).1, mw_end hP ht (sw_inj h).2⟩, hS.F ht⟩) hS.2.2 dX6_rule_73 hlocks
    · replace h := sw_t h cc
      refine lv_iconst (v := 1) hx hb dX6_rule_17 (by decide) ?_
      refine lv_goto (tgt := 62) hx hb dX6_rule_18 (by decide) ?_
      obtain ⟨u62, eu62, h⟩ := swlt_s h
      refine mw_put hx hb hts hin hown hK hJ hP hS 0 (by decide) rfl f78 eu62 dX6_rule_62 (fun H locs hP hS => ?_)
      refine lv_aload_n hx hb dX6_rule_65 rfl (lv_at hl 0 rfl) ?_
      refine mw_get hx hb hts hin hown hK hP 0 (by decide) f78 rfl dX6_rule_66 ?_
      refine sw_top (x := 1) (by rw [eu62]; rfl) ?_
      refine lv_if_le (tgt := 74) hx hb dX6_rule_69 (by decide) (fun cc => absurd cc (by decide)) (fun cc => ?_)
      refine lv_iconst (v := 0) hx hb dX6_rule_72 (by decide) ?_
      exact W.iret hx hb hr (fun t ht hW => ⟨⟨_, (), rfl, (sw_inj h).1, mw_end hP ht (sw_inj h).2⟩, hS.F ht⟩) hS.2.2 dX6_rule_73 hlocks

/-! tighten -/
def mx_tighten_L67 (kk : Int32 → swU → Option (Int32 × swU)) : Nat → Int32 → swU → Option (Int32 × swU)
  | 0, _, _ => none
  | n + 1, v4, w67 => if (w67.1 0 1) ≤ v4 then (kk v4 w67) else (swbd (mx_blocksOf w67 v4) fun r85 => if r85 ≤ 0 then (swgd (swix v4 40) <| swlt (swI w67 27 v4.toNatClampNeg (swZ 0)) fun u96 => mx_tighten_L67 kk n (v4 + 1) u96) else (swgd (swix v4 40) <| swlt (swI w67 27 v4.toNatClampNeg (swZ 1)) fun u96 => mx_tighten_L67 kk n (v4 + 1) u96))

def mx_tighten_L123 (u116 : swU) (kk : Int32 → Int32 → Option (Int32 × swU)) : Nat → Int32 → Int32 → Option (Int32 × swU)
  | 0, _, _ => none
  | n + 1, v4, v5 => if (u116.1 0 1) ≤ v5 then (kk v4 v5) else (swrd 40 (u116.1 27) v5 fun a140 => if a140 = 0 then (swbd (mx_blocksOf u116 v5) fun r147 => if r147 ≤ 0 then (swlt (v4 + 0) fun y159 => mx_tighten_L123 u116 kk n y159 (v5 + 1)) else (swlt (v4 + 1) fun y159 => mx_tighten_L123 u116 kk n y159 (v5 + 1))) else (swlt (v4 + 0) fun y159 => mx_tighten_L123 u116 kk n y159 (v5 + 1)))

def mx_tighten (u : swU) (x1 : Int32) (x2 : Int32) (x3 : Int32) : Option (Int32 × swU) :=
  swbd (mx_in x1 0 (((u.1 0 12) - 1))) fun r8 => if (swB r8) = 0 then (swlt (swI u 0 0 1) fun u16 => some (0, u16)) else (swrd 8 (u.1 15) x1 fun a28 => if x2 < a28 then (swlt (swI u 0 0 2) fun u52 => some (0, u52)) else (swrd 8 (u.1 16) x1 fun a38 => if a38 < x3 then (swlt (swI u 0 0 2) fun u52 => some (0, u52)) else (if x2 ≤ x3 then (swlt (swI u 0 0 0) fun u52 => mx_tighten_L67 (fun v4 w103 => swgd (swix x1 8) <| swlt (swI w103 15 x1.toNatClampNeg x2) fun u109 => swgd (swix x1 8) <| swlt (swI u109 16 x1.toNatClampNeg x3) fun u116 => mx_tighten_L123 u116 (fun v4 v5 => some (v4, u116)) 64 0 0) 64 0 u52) else (swlt (swI u 0 0 2) fun u52 => some (0, u52)))))

abbrev rmX6_tighten : Room := { frames := 4, cells := 0, slots := 0, locals := 91 }

set_option maxHeartbeats 4000000 in
set_option maxRecDepth 100000 in
theorem mm_tighten (l : Launch) (D : va_G) (cy : Nat → ClassId) (ad : Nat → Nat) (hJ : swJ mw_N ad) (u : swU) (x1 : Int32) (x2 : Int32) (x3 : Int32) (r0 : Int32) (u0 : swU) (h : mx_tighten u x1 x2 x3 = some (r0, u0)) : Met l yX6_tighten wsX6_tighten rmX6_tighten (mwC D cy ad u [.ref (ad 0), .int x1, .int x2, .int x3]) (mwQi D cy ad r0 u0) 0 0 (mwA ad) := by
  refine Met.ofW (cc := cX6_tighten) (maxL := 6) (ret := (some .int)) (by decide) rfl ?_
  intro p e s m args below meth c s₁ B hml hv
  obtain ⟨ha, hP, hK⟩ := hv
  have hx := B.exec
  have hb := B.bytes
  have hr := B.returns
  have hlocks := B.notSynchronized
  have hts := atoms_spec (ws := wsX6_tighten) B.pre
  have hown : s.vm.findClass RX6 = some m.cls := findClass_of_methodNamed B.named
  have E : CallFix p m c cX6_tighten 6 s args wsX6_tighten RX6 := ⟨hx, hb, hml, hown, hts⟩
  have hin : ∀ w ∈ wsX60, w ∈ wsX6_tighten := by decide +kernel
  have f155 : (Cond.fieldLink RX6 155 "SlidewardenModel" "rules" "I").before args s = true := hts _ (by decide +kernel)
  have f47 : (Cond.fieldLink RX6 47 "SlidewardenModel" "least" "[I").before args s = true := hts _ (by decide +kernel)
  have f50 : (Cond.fieldLink RX6 50 "SlidewardenModel" "most" "[I").before args s = true := hts _ (by decide +kernel)
  have f7 : (Cond.fieldLink RX6 7 "SlidewardenModel" "versions" "I").before args s = true := hts _ (by decide +kernel)
  have f75 : (Cond.fieldLink RX6 75 "SlidewardenModel" "was" "[Z").before args s = true := hts _ (by decide +kernel)
  have f78 : (Cond.fieldLink RX6 78 "SlidewardenModel" "thrown" "I").before args s = true := hts _ (by decide +kernel)
  have hS : va_S (mwA ad) s.heap s.heap [] := va_S.rf
  obtain ⟨ls, hl, hent⟩ := sw_entry m (n := 6) ha (Nat.le_of_ble_eq_true rfl)
  rw [hent]
  have hl : lv_has ls 6 [(0, .ref (ad 0)), (1, .int x1), (2, .int x2), (3, .int x3)] := hl
  unfold mx_tighten at h
  refine lv_iload_n hx hb dX6_tighten_0 rfl (lv_at hl 1 rfl) ?_
  refine lv_iconst (v := 0) hx hb dX6_tighten_1 (by decide) ?_
  refine lv_aload_n hx hb dX6_tighten_2 rfl (lv_at hl 0 rfl) ?_
  refine mw_get hx hb hts hin hown hK hP 12 (by decide) f155 rfl dX6_tighten_3 ?_
  refine lv_iconst (v := 1) hx hb dX6_tighten_6 (by decide) ?_
  refine lv_isub hx hb dX6_tighten_7 ?_
  obtain ⟨r8, er8, h⟩ := swbd_s h
  refine sw_callSi (As := [.int x1, .int 0, .int (((u.1 0 12) - 1))]) (rest := []) E (mm_in l x1 0 (((u.1 0 12) - 1)) _ er8) (va_cwS 3 hts gX6_tighten_X6_in rfl rfl rfl (by decide +kernel) ⟨Nat.le_of_ble_eq_true rfl, Nat.le_of_ble_eq_true rfl⟩) rfl hl.1 rfl (Nat.le_of_ble_eq_true rfl) dX6_tighten_8 ?_
  refine lv_if_ne (tgt := 21) hx hb dX6_tighten_11 (by decide) (fun cc => ?_) (fun cc => ?_)
  · replace h := sw_f h cc
    refine lv_aload_n hx hb dX6_tighten_21 rfl (lv_at hl 0 rfl) ?_
    refine lv_iload_n hx hb dX6_tighten_22 rfl (lv_at hl 2 rfl) ?_
    refine lv_aload_n hx hb dX6_tighten_23 rfl (lv_at hl 0 rfl) ?_
    refine mw_get hx hb hts hin hown hK hP 15 (by decide) f47 rfl dX6_tighten_24 ?_
    refine lv_iload_n hx hb dX6_tighten_27 rfl (lv_at hl 1 rfl) ?_
    obtain ⟨a28, ea28, ia28, h⟩ := swrd_s h
    refine mw_ald hx hb hK hP 15 8 rfl rfl ia28 dX6_tighten_28 ea28 ?_
    refine lv_icmp_lt (tgt := 47) hx hb dX6_tighten_29 (by decide) (fun cc => ?_) (fun cc => ?_)
    · replace h := sw_t h cc
      refine lv_iconst (v := 2) hx hb dX6_tighten_47 (by decide) ?_
      refine lv_goto (tgt := 52) hx hb dX6_tighten_48 (by decide) ?_
      obtain ⟨u52, eu52, h⟩ := swlt_s h
      refine mw_put hx hb hts hin hown hK hJ hP hS 0 (by decide) rfl f78 eu52 dX6_tighten_52 (fun H locs hP hS => ?_)
      refine lv_aload_n hx hb dX6_tighten_55 rfl (lv_at hl 0 rfl) ?_
      refine mw_get hx hb hts hin hown hK hP 0 (by decide) f78 rfl dX6_tighten_56 ?_
      refine sw_top (x := 2) (by rw [eu52]; rfl) ?_
      refine lv_if_le (tgt := 64) hx hb dX6_tighten_59 (by decide) (fun cc => absurd cc (by decide)) (fun cc => ?_)
      refine lv_iconst (v := 0) hx hb dX6_tighten_62 (by decide) ?_
      exact W.iret hx hb hr (fun t ht hW => ⟨⟨_, (), rfl, (sw_inj h).1, mw_end hP ht (sw_inj h).2⟩, hS.F ht⟩) hS.2.2 dX6_tighten_63 hlocks
    · replace h := sw_f h cc
      refine lv_iload_n hx hb dX6_tighten_32 rfl (lv_at hl 3 rfl) ?_
      refine lv_aload_n hx hb dX6_tighten_33 rfl (lv_at hl 0 rfl) ?_
      refine mw_get hx hb hts hin hown hK hP 16 (by decide) f50 rfl dX6_tighten_34 ?_
      refine lv_iload_n hx hb dX6_tighten_37 rfl (lv_at hl 1 rfl) ?_
      obtain ⟨a38, ea38, ia38, h⟩ := swrd_s h
      refine mw_ald hx hb hK hP 16 8 rfl rfl ia38 dX6_tighten_38 ea38 ?_
      refine lv_icmp_gt (tgt := 47) hx hb dX6_tighten_39 (by decide) (fun cc => ?_) (fun cc => ?_)
      · replace h := sw_t h cc
        refine lv_iconst (v := 2) hx hb dX6_tighten_47 (by decide) ?_
        refine lv_goto (tgt := 52) hx hb dX6_tighten_48 (by decide) ?_
        obtain ⟨u52, eu52, h⟩ := swlt_s h
        refine mw_put hx hb hts hin hown hK hJ hP hS 0 (by decide) rfl f78 eu52 dX6_tighten_52 (fun H locs hP hS => ?_)
        refine lv_aload_n hx hb dX6_tighten_55 rfl (lv_at hl 0 rfl) ?_
        refine mw_get hx hb hts hin hown hK hP 0 (by decide) f78 rfl dX6_tighten_56 ?_
        refine sw_top (x := 2) (by rw [eu52]; rfl) ?_
        refine lv_if_le (tgt := 64) hx hb dX6_tighten_59 (by decide) (fun cc => absurd cc (by decide)) (fun cc => ?_)
        refine lv_iconst (v := 0) hx hb dX6_tighten_62 (by decide) ?_
        exact W.iret hx hb hr (fun t ht hW => ⟨⟨_, (), rfl, (sw_inj h).1, mw_end hP ht (sw_inj h).2⟩, hS.F ht⟩) hS.2.2 dX6_tighten_63 hlocks
      · replace h := sw_f h cc
        refine lv_iload_n hx hb dX6_tighten_42 rfl (lv_at hl 2 rfl) ?_
        refine lv_iload_n hx hb dX6_tighten_43 rfl (lv_at hl 3 rfl) ?_
        refine lv_icmp_le (tgt := 51) hx hb dX6_tighten_44 (by decide) (fun cc => ?_) (fun cc => ?_)
        · replace h := sw_t h cc
          refine lv_iconst (v := 0) hx hb dX6_tighten_51 (by decide) ?_
          obtain ⟨u52, eu52, h⟩ := swlt_s h
          refine mw_put hx hb hts hin hown hK hJ hP hS 0 (by decide) rfl f78 eu52 dX6_tighten_52 (fun H locs hP hS => ?_)
          refine lv_aload_n hx hb dX6_tighten_55 rfl (lv_at hl 0 rfl) ?_
          refine mw_get hx hb hts hin hown hK hP 0 (by decide) f78 rfl dX6_tighten_56 ?_
          refine sw_top (x := 0) (by rw [eu52]; rfl) ?_
          refine lv_if_le (tgt := 64) hx hb dX6_tighten_59 (by decide) (fun cc => ?_) (fun cc => absurd (by decide) cc)
          refine lv_iconst (v := 0) hx hb dX6_tighten_64 (by decide) ?_
          refine lv_istore (lv' := [(4, .int 0), (0, .ref (ad 0)), (1, .int x1), (2, .int x2), (3, .int x3)]) hx hb dX6_tighten_65 hl (by decide) rfl (fun ls hl => ?_)
          have L67 : ∀ (kk : Int32 → swU → Option (Int32 × swU)), (∀ (v4 : Int32) (w67 : swU) (H : Heap) (locs : List Loc) (ls : Array Slot), kk v4 w67 = some (r0, u0) → mwP D cy ad w67 H → va_S (mwA ad) s.heap H locs → lv_has ls 6 [(0, .ref (ad 0)), (1, .int x1), (2, .int x2), (3, .int x3), (4, .int v4)] → W p l e (headSpec wsX6_tighten rmX6_tighten).room s m args below meth c H locs 0 0 (MQ below (mwQi D cy ad r0 u0) args s 0 0 (mwA ad)) (F0 m 103 ls [])) → ∀ (n : Nat) (v4 : Int32) (w67 : swU) (H : Heap) (locs : List Loc) (ls : Array Slot), mx_tighten_L67 kk n v4 w67 = some (r0, u0) → mwP D cy ad w67 H → va_S (mwA ad) s.heap H locs → lv_has ls 6 [(0, .ref (ad 0)), (1, .int x1), (2, .int x2), (3, .int x3), (4, .int v4)] → W p l e (headSpec wsX6_tighten rmX6_tighten).room s m args below meth c H locs 0 0 (MQ below (mwQi D cy ad r0 u0) args s 0 0 (mwA ad)) (F0 m 67 ls []) := by
            intro kk hk67 n
            induction n with
            | zero => intro v4 w67 H locs ls h hP hS hl; rw [mx_tighten_L67] at h; cases h
            | succ n ih67 =>
              intro v4 w67 H locs ls h hP hS hl
              rw [mx_tighten_L67] at h
              refine lv_iload hx hb dX6_tighten_67 (lv_at hl 4 rfl) ?_
              refine lv_aload_n hx hb dX6_tighten_69 rfl (lv_at hl 0 rfl) ?_
              refine mw_get hx hb hts hin hown hK hP 1 (by decide) f7 rfl dX6_tighten_70 ?_
              refine lv_icmp_ge (tgt := 103) hx hb dX6_tighten_73 (by decide) (fun cc => ?_) (fun cc => ?_)
              · replace h := sw_t h cc
                exact hk67 _ _ _ _ _ h hP hS (lv_sub hl [0, 1, 2, 3, 4] rfl)
              · replace h := sw_f h cc
                refine lv_aload_n hx hb dX6_tighten_76 rfl (lv_at hl 0 rfl) ?_
                refine mw_get hx hb hts hin hown hK hP 27 (by decide) f75 rfl dX6_tighten_77 ?_
                refine lv_iload hx hb dX6_tighten_80 (lv_at hl 4 rfl) ?_
                refine lv_aload_n hx hb dX6_tighten_82 rfl (lv_at hl 0 rfl) ?_
                refine lv_iload hx hb dX6_tighten_83 (lv_at hl 4 rfl) ?_
                obtain ⟨r85, er85, h⟩ := swbd_s h
                refine mw_calli (As := [.int v4]) (rest := [.int v4, .ref (ad 27)]) E (mm_blocksOf l D cy ad w67 v4 _ er85) (cwV 1 hts gX6_tighten_X6_blocksOf rfl rfl rfl (by decide +kernel) ⟨Nat.le_of_ble_eq_true rfl, Nat.le_of_ble_eq_true rfl⟩) hK hP rfl hl.1 rfl (Nat.le_of_ble_eq_true rfl) dX6_tighten_85 ?_
                refine lv_if_le (tgt := 95) hx hb dX6_tighten_88 (by decide) (fun cc => ?_) (fun cc => ?_)
                · replace h := sw_t h cc
                  refine lv_iconst (v := 0) hx hb dX6_tighten_95 (by decide) ?_
                  obtain ⟨iu96, h⟩ := swgd_s h
                  obtain ⟨u96, eu96, h⟩ := swlt_s h
                  refine mw_zst hx hb hK hJ hP hS 27 40 rfl (by decide) rfl rfl (swix_s iu96) eu96 dX6_tighten_96 (fun H locs hP hS => ?_)
                  refine lv_iinc (v := (v4 + 1)) (lv' := [(4, .int (v4 + 1)), (0, .ref (ad 0)), (1, .int x1), (2, .int x2), (3, .int x3)]) hx hb dX6_tighten_97 hl (k := 4) rfl rfl (by decide) rfl (fun ls hl => ?_)
                  refine lv_goto (tgt := 67) hx hb dX6_tighten_100 (by decide) ?_
                  exact ih67 _ _ _ _ _ h hP hS (lv_sub hl [1, 2, 3, 4, 0] rfl)
                · replace h := sw_f h cc
                  refine lv_iconst (v := 1) hx hb dX6_tighten_91 (by decide) ?_
                  refine lv_goto (tgt := 96) hx hb dX6_tighten_92 (by decide) ?_
                  obtain ⟨iu96, h⟩ := swgd_s h
                  obtain ⟨u96, eu96, h⟩ := swlt_s h
                  refine mw_zst hx hb hK hJ hP hS 27 40 rfl (by decide) rfl rfl (swix_s iu96) eu96 dX6_tighten_96 (fun H locs hP hS => ?_)
                  refine lv_iinc (v := (v4 + 1)) (lv' := [(4, .int (v4 + 1)), (0, .ref (ad 0)), (1, .int x1), (2, .int x2), (3, .int x3)]) hx hb dX6_tighten_97 hl (k := 4) rfl rfl (by decide) rfl (fun ls hl => ?_)
                  refine lv_goto (tgt := 67) hx hb dX6_tighten_100 (by decide) ?_
                  exact ih67 _ _ _ _ _ h hP hS (lv_sub hl [1, 2, 3, 4, 0] rfl)
          refine L67 _ (fun v4 w103 H locs ls h hP hS hl => ?_) 64 _ _ _ _ _ h hP hS (lv_sub hl [1, 2, 3, 4, 0] rfl)
          refine lv_aload_n hx hb dX6_tighten_103 rfl (lv_at hl 0 rfl) ?_
          refine mw_get hx hb hts hin hown hK hP 15 (by decide) f47 rfl dX6_tighten_104 ?_
          refine lv_iload_n hx hb dX6_tighten_107 rfl (lv_at hl 1 rfl) ?_
          refine lv_iload_n hx hb dX6_tighten_108 rfl (lv_at hl 2 rfl) ?_
          obtain ⟨iu109, h⟩ := swgd_s h
          obtain ⟨u109, eu109, h⟩ := swlt_s h
          refine mw_ast hx hb hK hJ hP hS 15 8 rfl (by decide) rfl rfl (swix_s iu109) eu109 dX6_tighten_109 (fun H locs hP hS => ?_)
          refine lv_aload_n hx hb dX6_tighten_110 rfl (lv_at hl 0 rfl) ?_
          refine mw_get hx hb hts hin hown hK hP 16 (by decide) f50 rfl dX6_tighten_111 ?_
          refine lv_iload_n hx hb dX6_tighten_114 rfl (lv_at hl 1 rfl) ?_
          refine lv_iload_n hx hb dX6_tighten_115 rfl (lv_at hl 3 rfl) ?_
          obtain ⟨iu116, h⟩ := swgd_s h
          obtain ⟨u116, eu116, h⟩ := swlt_s h
          refine mw_ast hx hb hK hJ hP hS 16 8 rfl (by decide) rfl rfl (swix_s iu116) eu116 dX6_tighten_116 (fun H locs hP hS => ?_)
          refine lv_iconst (v := 0) hx hb dX6_tighten_117 (by decide) ?_
          refine lv_istore (lv' := [(4, .int 0), (0, .ref (ad 0)), (1, .int x1), (2, .int x2), (3, .int x3)]) hx hb dX6_tighten_118 hl (by decide) rfl (fun ls hl => ?_)
          refine lv_iconst (v := 0) hx hb dX6_tighten_120 (by decide) ?_
          refine lv_istore (lv' := [(5, .int 0), (4, .int 0), (0, .ref (ad 0)), (1, .int x1), (2, .int x2), (3, .int x3)]) hx hb dX6_tighten_121 hl (by decide) rfl (fun ls hl => ?_)
          have L123 : ∀ (kk : Int32 → Int32 → Option (Int32 × swU)), (∀ (v4 : Int32) (v5 : Int32) (H : Heap) (locs : List Loc) (ls : Array Slot), kk v4 v5 = some (r0, u0) → mwP D cy ad u116 H → va_S (mwA ad) s.heap H locs → lv_has ls 6 [(0, .ref (ad 0)), (1, .int x1), (2, .int x2), (3, .int x3), (4, .int v4), (5, .int v5)] → W p l e (headSpec wsX6_tighten rmX6_tighten).room s m args below meth c H locs 0 0 (MQ below (mwQi D cy ad r0 u0) args s 0 0 (mwA ad)) (F0 m 167 ls [])) → ∀ (n : Nat) (v4 : Int32) (v5 : Int32) (H : Heap) (locs : List Loc) (ls : Array Slot), mx_tighten_L123 u116 kk n v4 v5 = some (r0, u0) → mwP D cy ad u116 H → va_S (mwA ad) s.heap H locs → lv_has ls 6 [(0, .ref (ad 0)), (1, .int x1), (2, .int x2), (3, .int x3), (4, .int v4), (5, .int v5)] → W p l e (headSpec wsX6_tighten rmX6_tighten).room s m args below meth c H locs 0 0 (MQ below (mwQi D cy ad r0 u0) args s 0 0 (mwA ad)) (F0 m 123 ls []) := by
            intro kk hk123 n
            induction n with
            | zero => intro v4 v5 H locs ls h hP hS hl; rw [mx_tighten_L123] at h; cases h
            | succ n ih123 =>
              intro v4 v5 H locs ls h hP hS hl
              rw [mx_tighten_L123] at h
              refine lv_iload hx hb dX6_tighten_123 (lv_at hl 5 rfl) ?_
              refine lv_aload_n hx hb dX6_tighten_125 rfl (lv_at hl 0 rfl) ?_
              refine mw_get hx hb hts hin hown hK hP 1 (by decide) f7 rfl dX6_tighten_126 ?_
              refine lv_icmp_ge (tgt := 167) hx hb dX6_tighten_129 (by decide) (fun cc => ?_) (fun cc => ?_)
              · replace h := sw_t h cc
                exact hk123 _ _ _ _ _ h hP hS (lv_sub hl [0, 1, 2, 3, 4, 5] rfl)
              · replace h := sw_f h cc
                refine lv_iload hx hb dX6_tighten_132 (lv_at hl 4 rfl) ?_
                refine lv_aload_n hx hb dX6_tighten_134 rfl (lv_at hl 0 rfl) ?_
                refine mw_get hx hb hts hin hown hK hP 27 (by decide) f75 rfl dX6_tighten_135 ?_
                refine lv_iload hx hb dX6_tighten_138 (lv_at hl 5 rfl) ?_
                obtain ⟨a140, ea140, ia140, h⟩ := swrd_s h
                refine mw_zld hx hb hK hP 27 40 rfl rfl ia140 dX6_tighten_140 ea140 ?_
                refine lv_if_ne (tgt := 157) hx hb dX6_tighten_141 (by decide) (fun cc => ?_) (fun cc => ?_)
                · replace h := sw_f h cc
                  refine lv_iconst (v := 0) hx hb dX6_tighten_157 (by decide) ?_
                  refine lv_iadd hx hb dX6_tighten_158 ?_
                  obtain ⟨y159, ey159, h⟩ := swlt_s h
                  refine sw_top ey159 ?_
                  refine lv_istore (lv' := [(4, .int y159), (0, .ref (ad 0)), (1, .int x1), (2, .int x2), (3, .int x3), (5, .int v5)]) hx hb dX6_tighten_159 hl (by decide) rfl (fun ls hl => ?_)
                  refine lv_iinc (v := (v5 + 1)) (lv' := [(5, .int (v5 + 1)), (4, .int y159), (0, .ref (ad 0)), (1, .int x1), (2, .int x2), (3, .int x3)]) hx hb dX6_tighten_161 hl (k := 5) rfl rfl (by decide) rfl (fun ls hl => ?_)
                  refine lv_goto (tgt := 123) hx hb dX6_tighten_164 (by decide) ?_
                  exact ih123 _ _ _ _ _ h hP hS (lv_sub hl [2, 3, 4, 5, 1, 0] rfl)
                · replace h := sw_t h cc
                  refine lv_aload_n hx hb dX6_tighten_144 rfl (lv_at hl 0 rfl) ?_
                  refine lv_iload hx hb dX6_tighten_145 (lv_at hl 5 rfl) ?_
                  obtain ⟨r147, er147, h⟩ := swbd_s h
                  refine mw_calli (As := [.int v5]) (rest := [.int v4]) E (mm_blocksOf l D cy ad u116 v5 _ er147) (cwV 1 hts gX6_tighten_X6_blocksOf rfl rfl rfl (by decide +kernel) ⟨Nat.le_of_ble_eq_true rfl, Nat.le_of_ble_eq_true rfl⟩) hK hP rfl hl.1 rfl (Nat.le_of_ble_eq_true rfl) dX6_tighten_147 ?_
                  refine lv_if_le (tgt := 157) hx hb dX6_tighten_150 (by decide) (fun cc => ?_) (fun cc => ?_)
                  · replace h := sw_t h cc
                    refine lv_iconst (v := 0) hx hb dX6_tighten_157 (by decide) ?_
                    refine lv_iadd hx hb dX6_tighten_158 ?_
                    obtain ⟨y159, ey159, h⟩ := swlt_s h
                    refine sw_top ey159 ?_
                    refine lv_istore (lv' := [(4, .int y159), (0, .ref (ad 0)), (1, .int x1), (2, .int x2), (3, .int x3), (5, .int v5)]) hx hb dX6_tighten_159 hl (by decide) rfl (fun ls hl => ?_)
                    refine lv_iinc (v := (v5 + 1)) (lv' := [(5, .int (v5 + 1)), (4, .int y159), (0, .ref (ad 0)), (1, .int x1), (2, .int x2), (3, .int x3)]) hx hb dX6_tighten_161 hl (k := 5) rfl rfl (by decide) rfl (fun ls hl => ?_)
                    refine lv_goto (tgt := 123) hx hb dX6_tighten_164 (by decide) ?_
                    exact ih123 _ _ _ _ _ h hP hS (lv_sub hl [2, 3, 4, 5, 1, 0] rfl)
                  · replace h := sw_f h cc
                    refine lv_iconst (v := 1) hx hb dX6_tighten_153 (by decide) ?_
                    refine lv_goto (tgt := 158) hx hb dX6_tighten_154 (by decide) ?_
                    refine lv_iadd hx hb dX6_tighten_158 ?_
                    obtain ⟨y159, ey159, h⟩ := swlt_s h
                    refine sw_top ey159 ?_
                    refine lv_istore (lv' := [(4, .int y159), (0, .ref (ad 0)), (1, .int x1), (2, .int x2), (3, .int x3), (5, .int v5)]) hx hb dX6_tighten_159 hl (by decide) rfl (fun ls hl => ?_)
                    refine lv_iinc (v := (v5 + 1)) (lv' := [(5, .int (v5 + 1)), (4, .int y159), (0, .ref (ad 0)), (1, .int x1), (2, .int x2), (3, .int x3)]) hx hb dX6_tighten_161 hl (k := 5) rfl rfl (by decide) rfl (fun ls hl => ?_)
                    refine lv_goto (tgt := 123) hx hb dX6_tighten_164 (by decide) ?_
                    exact ih123 _ _ _ _ _ h hP hS (lv_sub hl [2, 3, 4, 5, 1, 0] rfl)
          refine L123 _ (fun v4 v5 H locs ls h hP hS hl => ?_) 64 _ _ _ _ _ h hP hS (lv_sub hl [2, 3, 4, 5, 1, 0] rfl)
          refine lv_iload hx hb dX6_tighten_167 (lv_at hl 4 rfl) ?_
          exact W.iret hx hb hr (fun t ht hW => ⟨⟨_, (), rfl, (sw_inj h).1, mw_end hP ht (sw_inj h).2⟩, hS.F ht⟩) hS.2.2 dX6_tighten_169 hlocks
        · replace h := sw_f h cc
          refine lv_iconst (v := 2) hx hb dX6_tighten_47 (by decide) ?_
          refine lv_goto (tgt := 52) hx hb dX6_tighten_48 (by decide) ?_
          obtain ⟨u52, eu52, h⟩ := swlt_s h
          refine mw_put hx hb hts hin hown hK hJ hP hS 0 (by decide) rfl f78 eu52 dX6_tighten_52 (fun H locs hP hS => ?_)
          refine lv_aload_n hx hb dX6_tighten_55 rfl (lv_at hl 0 rfl) ?_
          refine mw_get hx hb hts hin hown hK hP 0 (by decide) f78 rfl dX6_tighten_56 ?_
          refine sw_top (x := 2) (by rw [eu52]; rfl) ?_
          refine lv_if_le (tgt := 64) hx hb dX6_tighten_59 (by decide) (fun cc => absurd cc (by decide)) (fun cc => ?_)
          refine lv_iconst (v := 0) hx hb dX6_tighten_62 (by decide) ?_
          exact W.iret hx hb hr (fun t ht hW => ⟨⟨_, (), rfl, (sw_inj h).1, mw_end hP ht (sw_inj h).2⟩, hS.F ht⟩) hS.2.2 dX6_tighten_63 hlocks
  · replace h := sw_t h cc
    refine lv_aload_n hx hb dX6_tighten_14 rfl (lv_at hl 0 rfl) ?_
    refine lv_iconst (v := 1) hx hb dX6_tighten_15 (by decide) ?_
    obtain ⟨u16, eu16, h⟩ := swlt_s h
    refine mw_put hx hb hts hin hown hK hJ hP hS 0 (by decide) rfl f78 eu16 dX6_tighten_16 (fun H locs hP hS => ?_)
    refine lv_iconst (v := 0) hx hb dX6_tighten_19 (by decide) ?_
    exact W.iret hx hb hr (fun t ht hW => ⟨⟨_, (), rfl, (sw_inj h).1, mw_end hP ht (sw_inj h).2⟩, hS.F ht⟩) hS.2.2 dX6_tighten_20 hlocks

/-! waive -/
def mx_waive (u : swU) (x1 : Int32) (x2 : Int32) (x3 : Int32) : Option (Int32 × swU) :=
  swbd (mx_in x1 0 (((u.1 0 12) - 1))) fun r9 => if (swB r9) = 0 then (swlt (swI u 0 0 1) fun u69 => some (0, u69)) else (swbd (mx_isSlide u x2) fun r17 => if (swB r17) = 0 then (swlt (swI u 0 0 1) fun u69 => some (0, u69)) else (swbd (mx_in x3 (u.1 0 21) 999) fun r35 => if (swB r35) = 0 then (swlt (swI u 0 0 2) fun u69 => some (0, u69)) else (swrd 8 (u.1 13) x1 fun a50 => if a50 = 1 then (if (u.1 0 17) = 12 then (swlt (swI u 0 0 3) fun u69 => some (0, u69)) else (swlt (swI u 0 0 0) fun u69 => swgd (swix (u69.1 0 17) 12) <| swlt (swI u69 18 (u69.1 0 17).toNatClampNeg x1) fun u90 => swgd (swix (u90.1 0 17) 12) <| swlt (swI u90 19 (u90.1 0 17).toNatClampNeg x2) fun u100 => swgd (swix (u100.1 0 17) 12) <| swlt (swI u100 20 (u100.1 0 17).toNatClampNeg x3) fun u110 => swlt (swI u110 0 17 (((u110.1 0 17) + 1))) fun u118 => some (((u118.1 0 17) - 1), u118))) else (swlt (swI u 0 0 3) fun u69 => some (0, u69)))))

abbrev rmX6_waive : Room := { frames := 2, cells := 0, slots := 0, locals := 43 }

set_option maxHeartbeats 4000000 in
set_option maxRecDepth 100000 in
theorem mm_waive (l : Launch) (D : va_G) (cy : Nat → ClassId) (ad : Nat → Nat) (hJ : swJ mw_N ad) (u : swU) (x1 : Int32) (x2 : Int32) (x3 : Int32) (r0 : Int32) (u0 : swU) (h : mx_waive u x1 x2 x3 = some (r0, u0)) : Met l yX6_waive wsX6_waive rmX6_waive (mwC D cy ad u [.ref (ad 0), .int x1, .int x2, .int x3]) (mwQi D cy ad r0 u0) 0 0 (mwA ad) := by
  refine Met.ofW (cc := cX6_waive) (maxL := 4) (ret := (some .int)) (by decide) rfl ?_
  intro p e s m args below meth c s₁ B hml hv
  obtain ⟨ha, hP, hK⟩ := hv
  have hx := B.exec
  have hb := B.bytes
  have hr := B.returns
  have hlocks := B.notSynchronized
  have hts := atoms_spec (ws := wsX6_waive) B.pre
  have hown : s.vm.findClass RX6 = some m.cls := findClass_of_methodNamed B.named
  have E : CallFix p m c cX6_waive 4 s args wsX6_waive RX6 := ⟨hx, hb, hml, hown, hts⟩
  have hin : ∀ w ∈ wsX60, w ∈ wsX6_waive := by decide +kernel
  have f155 : (Cond.fieldLink RX6 155 "SlidewardenModel" "rules" "I").before args s = true := hts _ (by decide +kernel)
  have f161 : (Cond.fieldLink RX6 161 "SlidewardenModel" "waivers" "I").before args s = true := hts _ (by decide +kernel)
  have f164 : (Cond.fieldLink RX6 164 "SlidewardenModel" "today" "I").before args s = true := hts _ (by decide +kernel)
  have f41 : (Cond.fieldLink RX6 41 "SlidewardenModel" "rank" "[I").before args s = true := hts _ (by decide +kernel)
  have f53 : (Cond.fieldLink RX6 53 "SlidewardenModel" "ruleOf" "[I").before args s = true := hts _ (by decide +kernel)
  have f56 : (Cond.fieldLink RX6 56 "SlidewardenModel" "slideOf" "[I").before args s = true := hts _ (by decide +kernel)
  have f59 : (Cond.fieldLink RX6 59 "SlidewardenModel" "until" "[I").before args s = true := hts _ (by decide +kernel)
  have f78 : (Cond.fieldLink RX6 78 "SlidewardenModel" "thrown" "I").before args s = true := hts _ (by decide +kernel)
  have hS : va_S (mwA ad) s.heap s.heap [] := va_S.rf
  obtain ⟨ls, hl, hent⟩ := sw_entry m (n := 4) ha (Nat.le_of_ble_eq_true rfl)
  rw [hent]
  have hl : lv_has ls 4 [(0, .ref (ad 0)), (1, .int x1), (2, .int x2), (3, .int x3)] := hl
  unfold mx_waive at h
  refine lv_aload_n hx hb dX6_waive_0 rfl (lv_at hl 0 rfl) ?_
  refine lv_iload_n hx hb dX6_waive_1 rfl (lv_at hl 1 rfl) ?_
  refine lv_iconst (v := 0) hx hb dX6_waive_2 (by decide) ?_
  refine lv_aload_n hx hb dX6_waive_3 rfl (lv_at hl 0 rfl) ?_
  refine mw_get hx hb hts hin hown hK hP 12 (by decide) f155 rfl dX6_waive_4 ?_
  refine lv_iconst (v := 1) hx hb dX6_waive_7 (by decide) ?_
  refine lv_isub hx hb dX6_waive_8 ?_
  obtain ⟨r9, er9, h⟩ := swbd_s h
  refine sw_callSi (As := [.int x1, .int 0, .int (((u.1 0 12) - 1))]) (rest := [.ref (ad 0)]) E (mm_in l x1 0 (((u.1 0 12) - 1)) _ er9) (va_cwS 3 hts gX6_waive_X6_in rfl rfl rfl (by decide +kernel) ⟨Nat.le_of_ble_eq_true rfl, Nat.le_of_ble_eq_true rfl⟩) rfl hl.1 rfl (Nat.le_of_ble_eq_true rfl) dX6_waive_9 ?_
  refine lv_if_eq (tgt := 23) hx hb dX6_waive_12 (by decide) (fun cc => ?_) (fun cc => ?_)
  · replace h := sw_t h cc
    refine lv_iconst (v := 1) hx hb dX6_waive_23 (by decide) ?_
    refine lv_goto (tgt := 69) hx hb dX6_waive_24 (by decide) ?_
    obtain ⟨u69, eu69, h⟩ := swlt_s h
    refine mw_put hx hb hts hin hown hK hJ hP hS 0 (by decide) rfl f78 eu69 dX6_waive_69 (fun H locs hP hS => ?_)
    refine lv_aload_n hx hb dX6_waive_72 rfl (lv_at hl 0 rfl) ?_
    refine mw_get hx hb hts hin hown hK hP 0 (by decide) f78 rfl dX6_waive_73 ?_
    refine sw_top (x := 1) (by rw [eu69]; rfl) ?_
    refine lv_if_le (tgt := 81) hx hb dX6_waive_76 (by decide) (fun cc => absurd cc (by decide)) (fun cc => ?_)
    refine lv_iconst (v := 0) hx hb dX6_waive_79 (by decide) ?_
    exact W.iret hx hb hr (fun t ht hW => ⟨⟨_, (), rfl, (sw_inj h).1, mw_end hP ht (sw_inj h).2⟩, hS.F ht⟩) hS.2.2 dX6_waive_80 hlocks
  · replace h := sw_f h cc
    refine lv_aload_n hx hb dX6_waive_15 rfl (lv_at hl 0 rfl) ?_
    refine lv_iload_n hx hb dX6_waive_16 rfl (lv_at hl 2 rfl) ?_
    obtain ⟨r17, er17, h⟩ := swbd_s h
    refine mw_calli (As := [.int x2]) (rest := [.ref (ad 0)]) E (mm_isSlide l D cy ad u x2 _ er17) (cwV 1 hts gX6_waive_X6_isSlide rfl rfl rfl (by decide +kernel) ⟨Nat.le_of_ble_eq_true rfl, Nat.le_of_ble_eq_true rfl⟩) hK hP rfl hl.1 rfl (Nat.le_of_ble_eq_true rfl) dX6_waive_17 ?_
    refine lv_if_ne (tgt := 27) hx hb dX6_waive_20 (by decide) (fun cc => ?_) (fun cc => ?_)
    · replace h := sw_f h cc
      refine lv_iload_n hx hb dX6_waive_27 rfl (lv_at hl 3 rfl) ?_
      refine lv_aload_n hx hb dX6_waive_28 rfl (lv_at hl 0 rfl) ?_
      refine mw_get hx hb hts hin hown hK hP 21 (by decide) f164 rfl dX6_waive_29 ?_
      refine lv_sipush (v := 999) hx hb dX6_waive_32 (by decide) ?_
      obtain ⟨r35, er35, h⟩ := swbd_s h
      refine sw_callSi (As := [.int x3, .int (u.1 0 21), .int 999]) (rest := [.ref (ad 0)]) E (mm_in l x3 (u.1 0 21) 999 _ er35) (va_cwS 3 hts gX6_waive_X6_in rfl rfl rfl (by decide +kernel) ⟨Nat.le_of_ble_eq_true rfl, Nat.le_of_ble_eq_true rfl⟩) rfl hl.1 rfl (Nat.le_of_ble_eq_true rfl) dX6_waive_35 ?_
      refine lv_if_ne (tgt := 45) hx hb dX6_waive_38 (by decide) (fun cc => ?_) (fun cc => ?_)
      · replace h := sw_f h cc
        refine lv_aload_n hx hb dX6_waive_45 rfl (lv_at hl 0 rfl) ?_
        refine mw_get hx hb hts hin hown hK hP 13 (by decide) f41 rfl dX6_waive_46 ?_
        refine lv_iload_n hx hb dX6_waive_49 rfl (lv_at hl 1 rfl) ?_
        obtain ⟨a50, ea50, ia50, h⟩ := swrd_s h
        refine mw_ald hx hb hK hP 13 8 rfl rfl ia50 dX6_waive_50 ea50 ?_
        refine lv_iconst (v := 1) hx hb dX6_waive_51 (by decide) ?_
        refine lv_icmp_ne (tgt := 64) hx hb dX6_waive_52 (by decide) (fun cc => ?_) (fun cc => ?_)
        · replace h := sw_f h cc
          refine lv_iconst (v := 3) hx hb dX6_waive_64 (by decide) ?_
          refine lv_goto (tgt := 69) hx hb dX6_waive_65 (by decide) ?_
          obtain ⟨u69, eu69, h⟩ := swlt_s h
          refine mw_put hx hb hts hin hown hK hJ hP hS 0 (by decide) rfl f78 eu69 dX6_waive_69 (fun H locs hP hS => ?_)
          refine lv_aload_n hx hb dX6_waive_72 rfl (lv_at hl 0 rfl) ?_
          refine mw_get hx hb hts hin hown hK hP 0 (by decide) f78 rfl dX6_waive_73 ?_
          refine sw_top (x := 3) (by rw [eu69]; rfl) ?_
          refine lv_if_le (tgt := 81) hx hb dX6_waive_76 (by decide) (fun cc => absurd cc (by decide)) (fun cc => ?_)
          refine lv_iconst (v := 0) hx hb dX6_waive_79 (by decide) ?_
          exact W.iret hx hb hr (fun t ht hW => ⟨⟨_, (), rfl, (sw_inj h).1, mw_end hP ht (sw_inj h).2⟩, hS.F ht⟩) hS.2.2 dX6_waive_80 hlocks
        · replace h := sw_t h cc
          refine lv_aload_n hx hb dX6_waive_55 rfl (lv_at hl 0 rfl) ?_
          refine mw_get hx hb hts hin hown hK hP 17 (by decide) f161 rfl dX6_waive_56 ?_
          refine lv_bipush (v := 12) hx hb dX6_waive_59 (by decide) ?_
          refine lv_icmp_ne (tgt := 68) hx hb dX6_waive_61 (by decide) (fun cc => ?_) (fun cc => ?_)
          · replace h := sw_f h cc
            refine lv_iconst (v := 0) hx hb dX6_waive_68 (by decide) ?_
            obtain ⟨u69, eu69, h⟩ := swlt_s h
            refine mw_put hx hb hts hin hown hK hJ hP hS 0 (by decide) rfl f78 eu69 dX6_waive_69 (fun H locs hP hS => ?_)
            refine lv_aload_n hx hb dX6_waive_72 rfl (lv_at hl 0 rfl) ?_
            refine mw_get hx hb hts hin hown hK hP 0 (by decide) f78 rfl dX6_waive_73 ?_
            refine sw_top (x := 0) (by rw [eu69]; rfl) ?_
            refine lv_if_le (tgt := 81) hx hb dX6_waive_76 (by decide) (fun cc => ?_) (fun cc => absurd (by decide) cc)
            refine lv_aload_n hx hb dX6_waive_81 rfl (lv_at hl 0 rfl) ?_
            refine mw_get hx hb hts hin hown hK hP 18 (by decide) f53 rfl dX6_waive_82 ?_
            refine lv_aload_n hx hb dX6_waive_85 rfl (lv_at hl 0 rfl) ?_
            refine mw_get hx hb hts hin hown hK hP 17 (by decide) f161 rfl dX6_waive_86 ?_
            refine lv_iload_n hx hb dX6_waive_89 rfl (lv_at hl 1 rfl) ?_
            obtain ⟨iu90, h⟩ := swgd_s h
            obtain ⟨u90, eu90, h⟩ := swlt_s h
            refine mw_ast hx hb hK hJ hP hS 18 12 rfl (by decide) rfl rfl (swix_s iu90) eu90 dX6_waive_90 (fun H locs hP hS => ?_)
            refine lv_aload_n hx hb dX6_waive_91 rfl (lv_at hl 0 rfl) ?_
            refine mw_get hx hb hts hin hown hK hP 19 (by decide) f56 rfl dX6_waive_92 ?_
            refine lv_aload_n hx hb dX6_waive_95 rfl (lv_at hl 0 rfl) ?_
            refine mw_get hx hb hts hin hown hK hP 17 (by decide) f161 rfl dX6_waive_96 ?_
            refine lv_iload_n hx hb dX6_waive_99 rfl (lv_at hl 2 rfl) ?_
            obtain ⟨iu100, h⟩ := swgd_s h
            obtain ⟨u100, eu100, h⟩ := swlt_s h
            refine mw_ast hx hb hK hJ hP hS 19 12 rfl (by decide) rfl rfl (swix_s iu100) eu100 dX6_waive_100 (fun H locs hP hS => ?_)
            refine lv_aload_n hx hb dX6_waive_101 rfl (lv_at hl 0 rfl) ?_
            refine mw_get hx hb hts hin hown hK hP 20 (by decide) f59 rfl dX6_waive_102 ?_
            refine lv_aload_n hx hb dX6_waive_105 rfl (lv_at hl 0 rfl) ?_
            refine mw_get hx hb hts hin hown hK hP 17 (by decide) f161 rfl dX6_waive_106 ?_
            refine lv_iload_n hx hb dX6_waive_109 rfl (lv_at hl 3 rfl) ?_
            obtain ⟨iu110, h⟩ := swgd_s h
            obtain ⟨u110, eu110, h⟩ := swlt_s h
            refine mw_ast hx hb hK hJ hP hS 20 12 rfl (by decide) rfl rfl (swix_s iu110) eu110 dX6_waive_110 (fun H locs hP hS => ?_)
            refine lv_aload_n hx hb dX6_waive_111 rfl (lv_at hl 0 rfl) ?_
            refine lv_dup hx hb dX6_waive_112 rfl ?_
            refine mw_get hx hb hts hin hown hK hP 17 (by decide) f161 rfl dX6_waive_113 ?_
            refine lv_iconst (v := 1) hx hb dX6_waive_116 (by decide) ?_
            refine lv_iadd hx hb dX6_waive_117 ?_
            obtain ⟨u118, eu118, h⟩ := swlt_s h
            refine mw_put hx hb hts hin hown hK hJ hP hS 17 (by decide) rfl f161 eu118 dX6_waive_118 (fun H locs hP hS => ?_)
            refine lv_aload_n hx hb dX6_waive_121 rfl (lv_at hl 0 rfl) ?_
            refine mw_get hx hb hts hin hown hK hP 17 (by decide) f161 rfl dX6_waive_122 ?_
            refine lv_iconst (v := 1) hx hb dX6_waive_125 (by decide) ?_
            refine lv_isub hx hb dX6_waive_126 ?_
            exact W.iret hx hb hr (fun t ht hW => ⟨⟨_, (), rfl, (sw_inj h).1, mw_end hP ht (sw_inj h).2⟩, hS.F ht⟩) hS.2.2 dX6_waive_127 hlocks
          · replace h := sw_t h cc
            refine lv_iconst (v := 3) hx hb dX6_waive_64 (by decide) ?_
            refine lv_goto (tgt := 69) hx hb dX6_waive_65 (by decide) ?_
            obtain ⟨u69, eu69, h⟩ := swlt_s h
            refine mw_put hx hb hts hin hown hK hJ hP hS 0 (by decide) rfl f78 eu69 dX6_waive_69 (fun H locs hP hS => ?_)
            refine lv_aload_n hx hb dX6_waive_72 rfl (lv_at hl 0 rfl) ?_
            refine mw_get hx hb hts hin hown hK hP 0 (by decide) f78 rfl dX6_waive_73 ?_
            refine sw_top (x := 3) (by rw [eu69]; rfl) ?_
            refine lv_if_le (tgt := 81) hx hb dX6_waive_76 (by decide) (fun cc => absurd cc (by decide)) (fun cc => ?_)
            refine lv_iconst (v := 0) hx hb dX6_waive_79 (by decide) ?_
            exact W.iret hx hb hr (fun t ht hW => ⟨⟨_, (), rfl, (sw_inj h).1, mw_end hP ht (sw_inj h).2⟩, hS.F ht⟩) hS.2.2 dX6_waive_80 hlocks
      · replace h := sw_t h cc
        refine lv_iconst (v := 2) hx hb dX6_waive_41 (by decide) ?_
        refine lv_goto (tgt := 69) hx hb dX6_waive_42 (by decide) ?_
        obtain ⟨u69, eu69, h⟩ := swlt_s h
        refine mw_put hx hb hts hin hown hK hJ hP hS 0 (by decide) rfl f78 eu69 dX6_waive_69 (fun H locs hP hS => ?_)
        refine lv_aload_n hx hb dX6_waive_72 rfl (lv_at hl 0 rfl) ?_
        refine mw_get hx hb hts hin hown hK hP 0 (by decide) f78 rfl dX6_waive_73 ?_
        refine sw_top (x := 2) (by rw [eu69]; rfl) ?_
        refine lv_if_le (tgt := 81) hx hb dX6_waive_76 (by decide) (fun cc => absurd cc (by decide)) (fun cc => ?_)
        refine lv_iconst (v := 0) hx hb dX6_waive_79 (by decide) ?_
        exact W.iret hx hb hr (fun t ht hW => ⟨⟨_, (), rfl, (sw_inj h).1, mw_end hP ht (sw_inj h).2⟩, hS.F ht⟩) hS.2.2 dX6_waive_80 hlocks
    · replace h := sw_t h cc
      refine lv_iconst (v := 1) hx hb dX6_waive_23 (by decide) ?_
      refine lv_goto (tgt := 69) hx hb dX6_waive_24 (by decide) ?_
      obtain ⟨u69, eu69, h⟩ := swlt_s h
      refine mw_put hx hb hts hin hown hK hJ hP hS 0 (by decide) rfl f78 eu69 dX6_waive_69 (fun H locs hP hS => ?_)
      refine lv_aload_n hx hb dX6_waive_72 rfl (lv_at hl 0 rfl) ?_
      refine mw_get hx hb hts hin hown hK hP 0 (by decide) f78 rfl dX6_waive_73 ?_
      refine sw_top (x := 1) (by rw [eu69]; rfl) ?_
      refine lv_if_le (tgt := 81) hx hb dX6_waive_76 (by decide) (fun cc => absurd cc (by decide)) (fun cc => ?_)
      refine lv_iconst (v := 0) hx hb dX6_waive_79 (by decide) ?_
      exact W.iret hx hb hr (fun t ht hW => ⟨⟨_, (), rfl, (sw_inj h).1, mw_end hP ht (sw_inj h).2⟩, hS.F ht⟩) hS.2.2 dX6_waive_80 hlocks

/-! blocks -/
def mx_blocks (u : swU) (x1 : Int32) : Option (Int32 × swU) :=
  swbd (mx_isVersion u x1) fun r3 => if (swB r3) = 0 then (swlt (swI u 0 0 1) fun u14 => some (0, u14)) else (swlt (swI u 0 0 0) fun u14 => swbd (mx_blocksOf u14 x1) fun r30 => some (r30, u14))

abbrev rmX6_blocks : Room := { frames := 4, cells := 0, slots := 0, locals := 91 }

set_option maxHeartbeats 4000000 in
set_option maxRecDepth 100000 in
theorem mm_blocks (l : Launch) (D : va_G) (cy : Nat → ClassId) (ad : Nat → Nat) (hJ : swJ mw_N ad) (u : swU) (x1 : Int32) (r0 : Int32) (u0 : swU) (h : mx_blocks u x1 = some (r0, u0)) : Met l yX6_blocks wsX6_blocks rmX6_blocks (mwC D cy ad u [.ref (ad 0), .int x1]) (mwQi D cy ad r0 u0) 0 0 (mwA ad) := by
  refine Met.ofW (cc := cX6_blocks) (maxL := 2) (ret := (some .int)) (by decide) rfl ?_
  intro p e s m args below meth c s₁ B hml hv
  obtain ⟨ha, hP, hK⟩ := hv
  have hx := B.exec
  have hb := B.bytes
  have hr := B.returns
  have hlocks := B.notSynchronized
  have hts := atoms_spec (ws := wsX6_blocks) B.pre
  have hown : s.vm.findClass RX6 = some m.cls := findClass_of_methodNamed B.named
  have E : CallFix p m c cX6_blocks 2 s args wsX6_blocks RX6 := ⟨hx, hb, hml, hown, hts⟩
  have hin : ∀ w ∈ wsX60, w ∈ wsX6_blocks := by decide +kernel
  have f78 : (Cond.fieldLink RX6 78 "SlidewardenModel" "thrown" "I").before args s = true := hts _ (by decide +kernel)
  have hS : va_S (mwA ad) s.heap s.heap [] := va_S.rf
  obtain ⟨ls, hl, hent⟩ := sw_entry m (n := 2) ha (Nat.le_of_ble_eq_true rfl)
  rw [hent]
  have hl : lv_has ls 2 [(0, .ref (ad 0)), (1, .int x1)] := hl
  unfold mx_blocks at h
  refine lv_aload_n hx hb dX6_blocks_0 rfl (lv_at hl 0 rfl) ?_
  refine lv_aload_n hx hb dX6_blocks_1 rfl (lv_at hl 0 rfl) ?_
  refine lv_iload_n hx hb dX6_blocks_2 rfl (lv_at hl 1 rfl) ?_
  obtain ⟨r3, er3, h⟩ := swbd_s h
  refine mw_calli (As := [.int x1]) (rest := [.ref (ad 0)]) E (mm_isVersion l D cy ad u x1 _ er3) (cwV 1 hts gX6_blocks_X6_isVersion rfl rfl rfl (by decide +kernel) ⟨Nat.le_of_ble_eq_true rfl, Nat.le_of_ble_eq_true rfl⟩) hK hP rfl hl.1 rfl (Nat.le_of_ble_eq_true rfl) dX6_blocks_3 ?_
  refine lv_if_eq (tgt := 13) hx hb dX6_blocks_6 (by decide) (fun cc => ?_) (fun cc => ?_)
  · replace h := sw_t h cc
    refine lv_iconst (v := 1) hx hb dX6_blocks_13 (by decide) ?_
    obtain ⟨u14, eu14, h⟩ := swlt_s h
    refine mw_put hx hb hts hin hown hK hJ hP hS 0 (by decide) rfl f78 eu14 dX6_blocks_14 (fun H locs hP hS => ?_)
    refine lv_aload_n hx hb dX6_blocks_17 rfl (lv_at hl 0 rfl) ?_
    refine mw_get hx hb hts hin hown hK hP 0 (by decide) f78 rfl dX6_blocks_18 ?_
    refine sw_top (x := 1) (by rw [eu14]; rfl) ?_
    refine lv_if_le (tgt := 28) hx hb dX6_blocks_21 (by decide) (fun cc => absurd cc (by decide)) (fun cc => ?_)
    refine lv_iconst (v := 0) hx hb dX6_blocks_24 (by decide) ?_
    refine lv_goto (tgt := 33) hx hb dX6_blocks_25 (by decide) ?_
    exact W.iret hx hb hr (fun t ht hW => ⟨⟨_, (), rfl, (sw_inj h).1, mw_end hP ht (sw_inj h).2⟩, hS.F ht⟩) hS.2.2 dX6_blocks_33 hlocks
  · replace h := sw_f h cc
    refine lv_iconst (v := 0) hx hb dX6_blocks_9 (by decide) ?_
    refine lv_goto (tgt := 14) hx hb dX6_blocks_10 (by decide) ?_
    obtain ⟨u14, eu14, h⟩ := swlt_s h
    refine mw_put hx hb hts hin hown hK hJ hP hS 0 (by decide) rfl f78 eu14 dX6_blocks_14 (fun H locs hP hS => ?_)
    refine lv_aload_n hx hb dX6_blocks_17 rfl (lv_at hl 0 rfl) ?_
    refine mw_get hx hb hts hin hown hK hP 0 (by decide) f78 rfl dX6_blocks_18 ?_
    refine sw_top (x := 0) (by rw [eu14]; rfl) ?_
    refine lv_if_le (tgt := 28) hx hb dX6_blocks_21 (by decide) (fun cc => ?_) (fun cc => absurd (by decide) cc)
    refine lv_aload_n hx hb dX6_blocks_28 rfl (lv_at hl 0 rfl) ?_
    refine lv_iload_n hx hb dX6_blocks_29 rfl (lv_at hl 1 rfl) ?_
    obtain ⟨r30, er30, h⟩ := swbd_s h
    refine mw_calli (As := [.int x1]) (rest := []) E (mm_blocksOf l D cy ad u14 x1 _ er30) (cwV 1 hts gX6_blocks_X6_blocksOf rfl rfl rfl (by decide +kernel) ⟨Nat.le_of_ble_eq_true rfl, Nat.le_of_ble_eq_true rfl⟩) hK hP rfl hl.1 rfl (Nat.le_of_ble_eq_true rfl) dX6_blocks_30 ?_
    exact W.iret hx hb hr (fun t ht hW => ⟨⟨_, (), rfl, (sw_inj h).1, mw_end hP ht (sw_inj h).2⟩, hS.F ht⟩) hS.2.2 dX6_blocks_33 hlocks

/-! warnings -/
def mx_warnings_L41 (u14 : swU) (x1 : Int32) (v3 : Int32) (kk : Int32 → Int32 → Option (Int32 × swU)) : Nat → Int32 → Int32 → Option (Int32 × swU)
  | 0, _, _ => none
  | n + 1, v2, v4 => if (u14.1 0 12) ≤ v4 then (kk v2 v4) else (swrd 8 (u14.1 13) v4 fun a57 => if a57 = 2 then (swrd 8 (u14.1 14) v4 fun a83 => swrd 1280 (u14.1 7) (((4 * ((8 * x1) + v3)) + a83)) fun a85 => swbd (mx_breaks u14 v4 a85) fun r86 => if (swB r86) = 0 then (swlt (v2 + 0) fun y98 => mx_warnings_L41 u14 x1 v3 kk n y98 (v4 + 1)) else (swlt (v2 + 1) fun y98 => mx_warnings_L41 u14 x1 v3 kk n y98 (v4 + 1))) else (swlt (v2 + 0) fun y98 => mx_warnings_L41 u14 x1 v3 kk n y98 (v4 + 1)))

def mx_warnings_L21 (u14 : swU) (x1 : Int32) (kk : Int32 → Int32 → Option (Int32 × swU)) : Nat → Int32 → Int32 → Option (Int32 × swU)
  | 0, _, _ => none
  | n + 1, v2, v3 => if (u14.1 0 0) = 0 then (swrd 40 (u14.1 5) x1 fun a34 => if a34 ≤ v3 then (kk v2 v3) else (mx_warnings_L41 u14 x1 v3 (fun v2 v4 => mx_warnings_L21 u14 x1 kk n v2 (v3 + 1)) 64 v2 0)) else (kk v2 v3)

def mx_warnings (u : swU) (x1 : Int32) : Option (Int32 × swU) :=
  swbd (mx_isVersion u x1) fun r3 => if (swB r3) = 0 then (swlt (swI u 0 0 1) fun u14 => mx_warnings_L21 u14 x1 (fun v2 v3 => some (v2, u14)) 64 0 0) else (swlt (swI u 0 0 0) fun u14 => mx_warnings_L21 u14 x1 (fun v2 v3 => some (v2, u14)) 64 0 0)

abbrev rmX6_warnings : Room := { frames := 2, cells := 0, slots := 0, locals := 44 }

set_option maxHeartbeats 4000000 in
set_option maxRecDepth 100000 in
theorem mm_warnings (l : Launch) (D : va_G) (cy : Nat → ClassId) (ad : Nat → Nat) (hJ : swJ mw_N ad) (u : swU) (x1 : Int32) (r0 : Int32) (u0 : swU) (h : mx_warnings u x1 = some (r0, u0)) : Met l yX6_warnings wsX6_warnings rmX6_warnings (mwC D cy ad u [.ref (ad 0), .int x1]) (mwQi D cy ad r0 u0) 0 0 (mwA ad) := by
  refine Met.ofW (cc := cX6_warnings) (maxL := 5) (ret := (some .int)) (by decide) rfl ?_
  intro p e s m args below meth c s₁ B hml hv
  obtain ⟨ha, hP, hK⟩ := hv
  have hx := B.exec
  have hb := B.bytes
  have hr := B.returns
  have hlocks := B.notSynchronized
  have hts := atoms_spec (ws := wsX6_warnings) B.pre
  have hown : s.vm.findClass RX6 = some m.cls := findClass_of_methodNamed B.named
  have E : CallFix p m c cX6_warnings 5 s args wsX6_warnings RX6 := ⟨hx, hb, hml, hown, hts⟩
  have hin : ∀ w ∈ wsX60, w ∈ wsX6_warnings := by decide +kernel
  have f155 : (Cond.fieldLink RX6 155 "SlidewardenModel" "rules" "I").before args s = true := hts _ (by decide +kernel)
  have f23 : (Cond.fieldLink RX6 23 "SlidewardenModel" "many" "[I").before args s = true := hts _ (by decide +kernel)
  have f29 : (Cond.fieldLink RX6 29 "SlidewardenModel" "value" "[I").before args s = true := hts _ (by decide +kernel)
  have f41 : (Cond.fieldLink RX6 41 "SlidewardenModel" "rank" "[I").before args s = true := hts _ (by decide +kernel)
  have f44 : (Cond.fieldLink RX6 44 "SlidewardenModel" "object" "[I").before args s = true := hts _ (by decide +kernel)
  have f78 : (Cond.fieldLink RX6 78 "SlidewardenModel" "thrown" "I").before args s = true := hts _ (by decide +kernel)
  have hS : va_S (mwA ad) s.heap s.heap [] := va_S.rf
  obtain ⟨ls, hl, hent⟩ := sw_entry m (n := 5) ha (Nat.le_of_ble_eq_true rfl)
  rw [hent]
  have hl : lv_has ls 5 [(0, .ref (ad 0)), (1, .int x1)] := hl
  unfold mx_warnings at h
  refine lv_aload_n hx hb dX6_warnings_0 rfl (lv_at hl 0 rfl) ?_
  refine lv_aload_n hx hb dX6_warnings_1 rfl (lv_at hl 0 rfl) ?_
  refine lv_iload_n hx hb dX6_warnings_2 rfl (lv_at hl 1 rfl) ?_
  obtain ⟨r3, er3, h⟩ := swbd_s h
  refine mw_calli (As := [.int x1]) (rest := [.ref (ad 0)]) E (mm_isVersion l D cy ad u x1 _ er3) (cwV 1 hts gX6_warnings_X6_isVersion rfl rfl rfl (by decide +kernel) ⟨Nat.le_of_ble_eq_true rfl, Nat.le_of_ble_eq_true rfl⟩) hK hP rfl hl.1 rfl (Nat.le_of_ble_eq_true rfl) dX6_warnings_3 ?_
  refine lv_if_eq (tgt := 13) hx hb dX6_warnings_6 (by decide) (fun cc => ?_) (fun cc => ?_)
  · replace h := sw_t h cc
    refine lv_iconst (v := 1) hx hb dX6_warnings_13 (by decide) ?_
    obtain ⟨u14, eu14, h⟩ := swlt_s h
    refine mw_put hx hb hts hin hown hK hJ hP hS 0 (by decide) rfl f78 eu14 dX6_warnings_14 (fun H locs hP hS => ?_)
    refine lv_iconst (v := 0) hx hb dX6_warnings_17 (by decide) ?_
    refine lv_istore_n (lv' := [(2, .int 0), (0, .ref (ad 0)), (1, .int x1)]) hx hb dX6_warnings_18 rfl hl (by decide) rfl (fun ls hl => ?_)
    refine lv_iconst (v := 0) hx hb dX6_warnings_19 (by decide) ?_
    refine lv_istore_n (lv' := [(3, .int 0), (2, .int 0), (0, .ref (ad 0)), (1, .int x1)]) hx hb dX6_warnings_20 rfl hl (by decide) rfl (fun ls hl => ?_)
    have L21 : ∀ (kk : Int32 → Int32 → Option (Int32 × swU)), (∀ (v2 : Int32) (v3 : Int32) (H : Heap) (locs : List Loc) (ls : Array Slot), kk v2 v3 = some (r0, u0) → mwP D cy ad u14 H → va_S (mwA ad) s.heap H locs → lv_has ls 5 [(0, .ref (ad 0)), (1, .int x1), (2, .int v2), (3, .int v3)] → W p l e (headSpec wsX6_warnings rmX6_warnings).room s m args below meth c H locs 0 0 (MQ below (mwQi D cy ad r0 u0) args s 0 0 (mwA ad)) (F0 m 111 ls [])) → ∀ (n : Nat) (v2 : Int32) (v3 : Int32) (H : Heap) (locs : List Loc) (ls : Array Slot), mx_warnings_L21 u14 x1 kk n v2 v3 = some (r0, u0) → mwP D cy ad u14 H → va_S (mwA ad) s.heap H locs → lv_has ls 5 [(0, .ref (ad 0)), (1, .int x1), (2, .int v2), (3, .int v3)] → W p l e (headSpec wsX6_warnings rmX6_warnings).room s m args below meth c H locs 0 0 (MQ below (mwQi D cy ad r0 u0) args s 0 0 (mwA ad)) (F0 m 21 ls []) := by
      intro kk hk21 n
      induction n with
      | zero => intro v2 v3 H locs ls h hP hS hl; rw [mx_warnings_L21] at h; cases h
      | succ n ih21 =>
        intro v2 v3 H locs ls h hP hS hl
        rw [mx_warnings_L21] at h
        refine lv_aload_n hx hb dX6_warnings_21 rfl (lv_at hl 0 rfl) ?_
        refine mw_get hx hb hts hin hown hK hP 0 (by decide) f78 rfl dX6_warnings_22 ?_
        refine lv_if_ne (tgt := 111) hx hb dX6_warnings_25 (by decide) (fun cc => ?_) (fun cc => ?_)
        · replace h := sw_f h cc
          exact hk21 _ _ _ _ _ h hP hS (lv_sub hl [0, 1, 2, 3] rfl)
        · replace h := sw_t h cc
          refine lv_iload_n hx hb dX6_warnings_28 rfl (lv_at hl 3 rfl) ?_
          refine lv_aload_n hx hb dX6_warnings_29 rfl (lv_at hl 0 rfl) ?_
          refine mw_get hx hb hts hin hown hK hP 5 (by decide) f23 rfl dX6_warnings_30 ?_
          refine lv_iload_n hx hb dX6_warnings_33 rfl (lv_at hl 1 rfl) ?_
          obtain ⟨a34, ea34, ia34, h⟩ := swrd_s h
          refine mw_ald hx hb hK hP 5 40 rfl rfl ia34 dX6_warnings_34 ea34 ?_
          refine lv_icmp_ge (tgt := 111) hx hb dX6_warnings_35 (by decide) (fun cc => ?_) (fun cc => ?_)
          · replace h := sw_t h cc
            exact hk21 _ _ _ _ _ h hP hS (lv_sub hl [0, 1, 2, 3] rfl)
          · replace h := sw_f h cc
            refine lv_iconst (v := 0) hx hb dX6_warnings_38 (by decide) ?_
            refine lv_istore (lv' := [(4, .int 0), (0, .ref (ad 0)), (1, .int x1), (2, .int v2), (3, .int v3)]) hx hb dX6_warnings_39 hl (by decide) rfl (fun ls hl => ?_)
            have L41 : ∀ (kk : Int32 → Int32 → Option (Int32 × swU)), (∀ (v2 : Int32) (v4 : Int32) (H : Heap) (locs : List Loc) (ls : Array Slot), kk v2 v4 = some (r0, u0) → mwP D cy ad u14 H → va_S (mwA ad) s.heap H locs → lv_has ls 5 [(0, .ref (ad 0)), (1, .int x1), (2, .int v2), (3, .int v3), (4, .int v4)] → W p l e (headSpec wsX6_warnings rmX6_warnings).room s m args below meth c H locs 0 0 (MQ below (mwQi D cy ad r0 u0) args s 0 0 (mwA ad)) (F0 m 105 ls [])) → ∀ (n : Nat) (v2 : Int32) (v4 : Int32) (H : Heap) (locs : List Loc) (ls : Array Slot), mx_warnings_L41 u14 x1 v3 kk n v2 v4 = some (r0, u0) → mwP D cy ad u14 H → va_S (mwA ad) s.heap H locs → lv_has ls 5 [(0, .ref (ad 0)), (1, .int x1), (2, .int v2), (3, .int v3), (4, .int v4)] → W p l e (headSpec wsX6_warnings rmX6_warnings).room s m args below meth c H locs 0 0 (MQ below (mwQi D cy ad r0 u0) args s 0 0 (mwA ad)) (F0 m 41 ls []) := by
              intro kk hk41 n
              induction n with
              | zero => intro v2 v4 H locs ls h hP hS hl; rw [mx_warnings_L41] at h; cases h
              | succ n ih41 =>
                intro v2 v4 H locs ls h hP hS hl
                rw [mx_warnings_L41] at h
                refine lv_iload hx hb dX6_warnings_41 (lv_at hl 4 rfl) ?_
                refine lv_aload_n hx hb dX6_warnings_43 rfl (lv_at hl 0 rfl) ?_
                refine mw_get hx hb hts hin hown hK hP 12 (by decide) f155 rfl dX6_warnings_44 ?_
                refine lv_icmp_ge (tgt := 105) hx hb dX6_warnings_47 (by decide) (fun cc => ?_) (fun cc => ?_)
                · replace h := sw_t h cc
                  exact hk41 _ _ _ _ _ h hP hS (lv_sub hl [0, 1, 2, 3, 4] rfl)
                · replace h := sw_f h cc
                  refine lv_iload_n hx hb dX6_warnings_50 rfl (lv_at hl 2 rfl) ?_
                  refine lv_aload_n hx hb dX6_warnings_51 rfl (lv_at hl 0 rfl) ?_
                  refine mw_get hx hb hts hin hown hK hP 13 (by decide) f41 rfl dX6_warnings_52 ?_
                  refine lv_iload hx hb dX6_warnings_55 (lv_at hl 4 rfl) ?_
                  obtain ⟨a57, ea57, ia57, h⟩ := swrd_s h
                  refine mw_ald hx hb hK hP 13 8 rfl rfl ia57 dX6_warnings_57 ea57 ?_
                  refine lv_iconst (v := 2) hx hb dX6_warnings_58 (by decide) ?_
                  refine lv_icmp_ne (tgt := 96) hx hb dX6_warnings_59 (by decide) (fun cc => ?_) (fun cc => ?_)
                  · replace h := sw_f h cc
                    refine lv_iconst (v := 0) hx hb dX6_warnings_96 (by decide) ?_
                    refine lv_iadd hx hb dX6_warnings_97 ?_
                    obtain ⟨y98, ey98, h⟩ := swlt_s h
                    refine sw_top ey98 ?_
                    refine lv_istore_n (lv' := [(2, .int y98), (0, .ref (ad 0)), (1, .int x1), (3, .int v3), (4, .int v4)]) hx hb dX6_warnings_98 rfl hl (by decide) rfl (fun ls hl => ?_)
                    refine lv_iinc (v := (v4 + 1)) (lv' := [(4, .int (v4 + 1)), (2, .int y98), (0, .ref (ad 0)), (1, .int x1), (3, .int v3)]) hx hb dX6_warnings_99 hl (k := 4) rfl rfl (by decide) rfl (fun ls hl => ?_)
                    refine lv_goto (tgt := 41) hx hb dX6_warnings_102 (by decide) ?_
                    exact ih41 _ _ _ _ _ h hP hS (lv_sub hl [2, 3, 1, 4, 0] rfl)
                  · replace h := sw_t h cc
                    refine lv_aload_n hx hb dX6_warnings_62 rfl (lv_at hl 0 rfl) ?_
                    refine lv_iload hx hb dX6_warnings_63 (lv_at hl 4 rfl) ?_
                    refine lv_aload_n hx hb dX6_warnings_65 rfl (lv_at hl 0 rfl) ?_
                    refine mw_get hx hb hts hin hown hK hP 7 (by decide) f29 rfl dX6_warnings_66 ?_
                    refine lv_iconst (v := 4) hx hb dX6_warnings_69 (by decide) ?_
                    refine lv_bipush (v := 8) hx hb dX6_warnings_70 (by decide) ?_
                    refine lv_iload_n hx hb dX6_warnings_72 rfl (lv_at hl 1 rfl) ?_
                    refine lv_imul hx hb dX6_warnings_73 ?_
                    refine lv_iload_n hx hb dX6_warnings_74 rfl (lv_at hl 3 rfl) ?_
                    refine lv_iadd hx hb dX6_warnings_75 ?_
                    refine lv_imul hx hb dX6_warnings_76 ?_
                    refine lv_aload_n hx hb dX6_warnings_77 rfl (lv_at hl 0 rfl) ?_
                    refine mw_get hx hb hts hin hown hK hP 14 (by decide) f44 rfl dX6_warnings_78 ?_
                    refine lv_iload hx hb dX6_warnings_81 (lv_at hl 4 rfl) ?_
                    obtain ⟨a83, ea83, ia83, h⟩ := swrd_s h
                    refine mw_ald hx hb hK hP 14 8 rfl rfl ia83 dX6_warnings_83 ea83 ?_
                    refine lv_iadd hx hb dX6_warnings_84 ?_
                    obtain ⟨a85, ea85, ia85, h⟩ := swrd_s h
                    refine mw_ald hx hb hK hP 7 1280 rfl rfl ia85 dX6_warnings_85 ea85 ?_
                    obtain ⟨r86, er86, h⟩ := swbd_s h
                    refine mw_calli (As := [.int v4, .int a85]) (rest := [.int v2]) E (mm_breaks l D cy ad u14 v4 a85 _ er86) (cwV 2 hts gX6_warnings_X6_breaks rfl rfl rfl (by decide +kernel) ⟨Nat.le_of_ble_eq_true rfl, Nat.le_of_ble_eq_true rfl⟩) hK hP rfl hl.1 rfl (Nat.le_of_ble_eq_true rfl) dX6_warnings_86 ?_
                    refine lv_if_eq (tgt := 96) hx hb dX6_warnings_89 (by decide) (fun cc => ?_) (fun cc => ?_)
                    · replace h := sw_t h cc
                      refine lv_iconst (v := 0) hx hb dX6_warnings_96 (by decide) ?_
                      refine lv_iadd hx hb dX6_warnings_97 ?_
                      obtain ⟨y98, ey98, h⟩ := swlt_s h
                      refine sw_top ey98 ?_
                      refine lv_istore_n (lv' := [(2, .int y98), (0, .ref (ad 0)), (1, .int x1), (3, .int v3), (4, .int v4)]) hx hb dX6_warnings_98 rfl hl (by decide) rfl (fun ls hl => ?_)
                      refine lv_iinc (v := (v4 + 1)) (lv' := [(4, .int (v4 + 1)), (2, .int y98), (0, .ref (ad 0)), (1, .int x1), (3, .int v3)]) hx hb dX6_warnings_99 hl (k := 4) rfl rfl (by decide) rfl (fun ls hl => ?_)
                      refine lv_goto (tgt := 41) hx hb dX6_warnings_102 (by decide) ?_
                      exact ih41 _ _ _ _ _ h hP hS (lv_sub hl [2, 3, 1, 4, 0] rfl)
                    · replace h := sw_f h cc
                      refine lv_iconst (v := 1) hx hb dX6_warnings_92 (by decide) ?_
                      refine lv_goto (tgt := 97) hx hb dX6_warnings_93 (by decide) ?_
                      refine lv_iadd hx hb dX6_warnings_97 ?_
                      obtain ⟨y98, ey98, h⟩ := swlt_s h
                      refine sw_top ey98 ?_
                      refine lv_istore_n (lv' := [(2, .int y98), (0, .ref (ad 0)), (1, .int x1), (3, .int v3), (4, .int v4)]) hx hb dX6_warnings_98 rfl hl (by decide) rfl (fun ls hl => ?_)
                      refine lv_iinc (v := (v4 + 1)) (lv' := [(4, .int (v4 + 1)), (2, .int y98), (0, .ref (ad 0)), (1, .int x1), (3, .int v3)]) hx hb dX6_warnings_99 hl (k := 4) rfl rfl (by decide) rfl (fun ls hl => ?_)
                      refine lv_goto (tgt := 41) hx hb dX6_warnings_102 (by decide) ?_
                      exact ih41 _ _ _ _ _ h hP hS (lv_sub hl [2, 3, 1, 4, 0] rfl)
            refine L41 _ (fun v2 v4 H locs ls h hP hS hl => ?_) 64 _ _ _ _ _ h hP hS (lv_sub hl [1, 2, 3, 4, 0] rfl)
            refine lv_iinc (v := (v3 + 1)) (lv' := [(3, .int (v3 + 1)), (0, .ref (ad 0)), (1, .int x1), (2, .int v2), (4, .int v4)]) hx hb dX6_warnings_105 hl (k := 3) rfl rfl (by decide) rfl (fun ls hl => ?_)
            refine lv_goto (tgt := 21) hx hb dX6_warnings_108 (by decide) ?_
            exact ih21 _ _ _ _ _ h hP hS (lv_sub hl [1, 2, 3, 0] rfl)
    refine L21 _ (fun v2 v3 H locs ls h hP hS hl => ?_) 64 _ _ _ _ _ h hP hS (lv_sub hl [2, 3, 1, 0] rfl)
    refine lv_iload_n hx hb dX6_warnings_111 rfl (lv_at hl 2 rfl) ?_
    exact W.iret hx hb hr (fun t ht hW => ⟨⟨_, (), rfl, (sw_inj h).1, mw_end hP ht (sw_inj h).2⟩, hS.F ht⟩) hS.2.2 dX6_warnings_112 hlocks
  · replace h := sw_f h cc
    refine lv_iconst (v := 0) hx hb dX6_warnings_9 (by decide) ?_
    refine lv_goto (tgt := 14) hx hb dX6_warnings_10 (by decide) ?_
    obtain ⟨u14, eu14, h⟩ := swlt_s h
    refine mw_put hx hb hts hin hown hK hJ hP hS 0 (by decide) rfl f78 eu14 dX6_warnings_14 (fun H locs hP hS => ?_)
    refine lv_iconst (v := 0) hx hb dX6_warnings_17 (by decide) ?_
    refine lv_istore_n (lv' := [(2, .int 0), (0, .ref (ad 0)), (1, .int x1)]) hx hb dX6_warnings_18 rfl hl (by decide) rfl (fun ls hl => ?_)
    refine lv_iconst (v := 0) hx hb dX6_warnings_19 (by decide) ?_
    refine lv_istore_n (lv' := [(3, .int 0), (2, .int 0), (0, .ref (ad 0)), (1, .int x1)]) hx hb dX6_warnings_20 rfl hl (by decide) rfl (fun ls hl => ?_)
    have L21 : ∀ (kk : Int32 → Int32 → Option (Int32 × swU)), (∀ (v2 : Int32) (v3 : Int32) (H : Heap) (locs : List Loc) (ls : Array Slot), kk v2 v3 = some (r0, u0) → mwP D cy ad u14 H → va_S (mwA ad) s.heap H locs → lv_has ls 5 [(0, .ref (ad 0)), (1, .int x1), (2, .int v2), (3, .int v3)] → W p l e (headSpec wsX6_warnings rmX6_warnings).room s m args below meth c H locs 0 0 (MQ below (mwQi D cy ad r0 u0) args s 0 0 (mwA ad)) (F0 m 111 ls [])) → ∀ (n : Nat) (v2 : Int32) (v3 : Int32) (H : Heap) (locs : List Loc) (ls : Array Slot), mx_warnings_L21 u14 x1 kk n v2 v3 = some (r0, u0) → mwP D cy ad u14 H → va_S (mwA ad) s.heap H locs → lv_has ls 5 [(0, .ref (ad 0)), (1, .int x1), (2, .int v2), (3, .int v3)] → W p l e (headSpec wsX6_warnings rmX6_warnings).room s m args below meth c H locs 0 0 (MQ below (mwQi D cy ad r0 u0) args s 0 0 (mwA ad)) (F0 m 21 ls []) := by
      intro kk hk21 n
      induction n with
      | zero => intro v2 v3 H locs ls h hP hS hl; rw [mx_warnings_L21] at h; cases h
      | succ n ih21 =>
        intro v2 v3 H locs ls h hP hS hl
        rw [mx_warnings_L21] at h
        refine lv_aload_n hx hb dX6_warnings_21 rfl (lv_at hl 0 rfl) ?_
        refine mw_get hx hb hts hin hown hK hP 0 (by decide) f78 rfl dX6_warnings_22 ?_
        refine lv_if_ne (tgt := 111) hx hb dX6_warnings_25 (by decide) (fun cc => ?_) (fun cc => ?_)
        · replace h := sw_f h cc
          exact hk21 _ _ _ _ _ h hP hS (lv_sub hl [0, 1, 2, 3] rfl)
        · replace h := sw_t h cc
          refine lv_iload_n hx hb dX6_warnings_28 rfl (lv_at hl 3 rfl) ?_
          refine lv_aload_n hx hb dX6_warnings_29 rfl (lv_at hl 0 rfl) ?_
          refine mw_get hx hb hts hin hown hK hP 5 (by decide) f23 rfl dX6_warnings_30 ?_
          refine lv_iload_n hx hb dX6_warnings_33 rfl (lv_at hl 1 rfl) ?_
          obtain ⟨a34, ea34, ia34, h⟩ := swrd_s h
          refine mw_ald hx hb hK hP 5 40 rfl rfl ia34 dX6_warnings_34 ea34 ?_
          refine lv_icmp_ge (tgt := 111) hx hb dX6_warnings_35 (by decide) (fun cc => ?_) (fun cc => ?_)
          · replace h := sw_t h cc
            exact hk21 _ _ _ _ _ h hP hS (lv_sub hl [0, 1, 2, 3] rfl)
          · replace h := sw_f h cc
            refine lv_iconst (v := 0) hx hb dX6_warnings_38 (by decide) ?_
            refine lv_istore (lv' := [(4, .int 0), (0, .ref (ad 0)), (1, .int x1), (2, .int v2), (3, .int v3)]) hx hb dX6_warnings_39 hl (by decide) rfl (fun ls hl => ?_)
            have L41 : ∀ (kk : Int32 → Int32 → Option (Int32 × swU)), (∀ (v2 : Int32) (v4 : Int32) (H : Heap) (locs : List Loc) (ls : Array Slot), kk v2 v4 = some (r0, u0) → mwP D cy ad u14 H → va_S (mwA ad) s.heap H locs → lv_has ls 5 [(0, .ref (ad 0)), (1, .int x1), (2, .int v2), (3, .int v3), (4, .int v4)] → W p l e (headSpec wsX6_warnings rmX6_warnings).room s m args below meth c H locs 0 0 (MQ below (mwQi D cy ad r0 u0) args s 0 0 (mwA ad)) (F0 m 105 ls [])) → ∀ (n : Nat) (v2 : Int32) (v4 : Int32) (H : Heap) (locs : List Loc) (ls : Array Slot), mx_warnings_L41 u14 x1 v3 kk n v2 v4 = some (r0, u0) → mwP D cy ad u14 H → va_S (mwA ad) s.heap H locs → lv_has ls 5 [(0, .ref (ad 0)), (1, .int x1), (2, .int v2), (3, .int v3), (4, .int v4)] → W p l e (headSpec wsX6_warnings rmX6_warnings).room s m args below meth c H locs 0 0 (MQ below (mwQi D cy ad r0 u0) args s 0 0 (mwA ad)) (F0 m 41 ls []) := by
              intro kk hk41 n
              induction n with
              | zero => intro v2 v4 H locs ls h hP hS hl; rw [mx_warnings_L41] at h; cases h
              | succ n ih41 =>
                intro v2 v4 H locs ls h hP hS hl
                rw [mx_warnings_L41] at h
                refine lv_iload hx hb dX6_warnings_41 (lv_at hl 4 rfl) ?_
                refine lv_aload_n hx hb dX6_warnings_43 rfl (lv_at hl 0 rfl) ?_
                refine mw_get hx hb hts hin hown hK hP 12 (by decide) f155 rfl dX6_warnings_44 ?_
                refine lv_icmp_ge (tgt := 105) hx hb dX6_warnings_47 (by decide) (fun cc => ?_) (fun cc => ?_)
                · replace h := sw_t h cc
                  exact hk41 _ _ _ _ _ h hP hS (lv_sub hl [0, 1, 2, 3, 4] rfl)
                · replace h := sw_f h cc
                  refine lv_iload_n hx hb dX6_warnings_50 rfl (lv_at hl 2 rfl) ?_
                  refine lv_aload_n hx hb dX6_warnings_51 rfl (lv_at hl 0 rfl) ?_
                  refine mw_get hx hb hts hin hown hK hP 13 (by decide) f41 rfl dX6_warnings_52 ?_
                  refine lv_iload hx hb dX6_warnings_55 (lv_at hl 4 rfl) ?_
                  obtain ⟨a57, ea57, ia57, h⟩ := swrd_s h
                  refine mw_ald hx hb hK hP 13 8 rfl rfl ia57 dX6_warnings_57 ea57 ?_
                  refine lv_iconst (v := 2) hx hb dX6_warnings_58 (by decide) ?_
                  refine lv_icmp_ne (tgt := 96) hx hb dX6_warnings_59 (by decide) (fun cc => ?_) (fun cc => ?_)
                  · replace h := sw_f h cc
                    refine lv_iconst (v := 0) hx hb dX6_warnings_96 (by decide) ?_
                    refine lv_iadd hx hb dX6_warnings_97 ?_
                    obtain ⟨y98, ey98, h⟩ := swlt_s h
                    refine sw_top ey98 ?_
                    refine lv_istore_n (lv' := [(2, .int y98), (0, .ref (ad 0)), (1, .int x1), (3, .int v3), (4, .int v4)]) hx hb dX6_warnings_98 rfl hl (by decide) rfl (fun ls hl => ?_)
                    refine lv_iinc (v := (v4 + 1)) (lv' := [(4, .int (v4 + 1)), (2, .int y98), (0, .ref (ad 0)), (1, .int x1), (3, .int v3)]) hx hb dX6_warnings_99 hl (k := 4) rfl rfl (by decide) rfl (fun ls hl => ?_)
                    refine lv_goto (tgt := 41) hx hb dX6_warnings_102 (by decide) ?_
                    exact ih41 _ _ _ _ _ h hP hS (lv_sub hl [2, 3, 1, 4, 0] rfl)
                  · replace h := sw_t h cc
                    refine lv_aload_n hx hb dX6_warnings_62 rfl (lv_at hl 0 rfl) ?_
                    refine lv_iload hx hb dX6_warnings_63 (lv_at hl 4 rfl) ?_
                    refine lv_aload_n hx hb dX6_warnings_65 rfl (lv_at hl 0 rfl) ?_
                    refine mw_get hx hb hts hin hown hK hP 7 (by decide) f29 rfl dX6_warnings_66 ?_
                    refine lv_iconst (v := 4) hx hb dX6_warnings_69 (by decide) ?_
                    refine lv_bipush (v := 8) hx hb dX6_warnings_70 (by decide) ?_
                    refine lv_iload_n hx hb dX6_warnings_72 rfl (lv_at hl 1 rfl) ?_
                    refine lv_imul hx hb dX6_warnings_73 ?_
                    refine lv_iload_n hx hb dX6_warnings_74 rfl (lv_at hl 3 rfl) ?_
                    refine lv_iadd hx hb dX6_warnings_75 ?_
                    refine lv_imul hx hb dX6_warnings_76 ?_
                    refine lv_aload_n hx hb dX6_warnings_77 rfl (lv_at hl 0 rfl) ?_
                    refine mw_get hx hb hts hin hown hK hP 14 (by decide) f44 rfl dX6_warnings_78 ?_
                    refine lv_iload hx hb dX6_warnings_81 (lv_at hl 4 rfl) ?_
                    obtain ⟨a83, ea83, ia83, h⟩ := swrd_s h
                    refine mw_ald hx hb hK hP 14 8 rfl rfl ia83 dX6_warnings_83 ea83 ?_
                    refine lv_iadd hx hb dX6_warnings_84 ?_
                    obtain ⟨a85, ea85, ia85, h⟩ := swrd_s h
                    refine mw_ald hx hb hK hP 7 1280 rfl rfl ia85 dX6_warnings_85 ea85 ?_
                    obtain ⟨r86, er86, h⟩ := swbd_s h
                    refine mw_calli (As := [.int v4, .int a85]) (rest := [.int v2]) E (mm_breaks l D cy ad u14 v4 a85 _ er86) (cwV 2 hts gX6_warnings_X6_breaks rfl rfl rfl (by decide +kernel) ⟨Nat.le_of_ble_eq_true rfl, Nat.le_of_ble_eq_true rfl⟩) hK hP rfl hl.1 rfl (Nat.le_of_ble_eq_true rfl) dX6_warnings_86 ?_
                    refine lv_if_eq (tgt := 96) hx hb dX6_warnings_89 (by decide) (fun cc => ?_) (fun cc => ?_)
                    · replace h := sw_t h cc
                      refine lv_iconst (v := 0) hx hb dX6_warnings_96 (by decide) ?_
                      refine lv_iadd hx hb dX6_warnings_97 ?_
                      obtain ⟨y98, ey98, h⟩ := swlt_s h
                      refine sw_top ey98 ?_
                      refine lv_istore_n (lv' := [(2, .int y98), (0, .ref (ad 0)), (1, .int x1), (3, .int v3), (4, .int v4)]) hx hb dX6_warnings_98 rfl hl (by decide) rfl (fun ls hl => ?_)
                      refine lv_iinc (v := (v4 + 1)) (lv' := [(4, .int (v4 + 1)), (2, .int y98), (0, .ref (ad 0)), (1, .int x1), (3, .int v3)]) hx hb dX6_warnings_99 hl (k := 4) rfl rfl (by decide) rfl (fun ls hl => ?_)
                      refine lv_goto (tgt := 41) hx hb dX6_warnings_102 (by decide) ?_
                      exact ih41 _ _ _ _ _ h hP hS (lv_sub hl [2, 3, 1, 4, 0] rfl)
                    · replace h := sw_f h cc
                      refine lv_iconst (v := 1) hx hb dX6_warnings_92 (by decide) ?_
                      refine lv_goto (tgt := 97) hx hb dX6_warnings_93 (by decide) ?_
                      refine lv_iadd hx hb dX6_warnings_97 ?_
                      obtain ⟨y98, ey98, h⟩ := swlt_s h
                      refine sw_top ey98 ?_
                      refine lv_istore_n (lv' := [(2, .int y98), (0, .ref (ad 0)), (1, .int x1), (3, .int v3), (4, .int v4)]) hx hb dX6_warnings_98 rfl hl (by decide) rfl (fun ls hl => ?_)
                      refine lv_iinc (v := (v4 + 1)) (lv' := [(4, .int (v4 + 1)), (2, .int y98), (0, .ref (ad 0)), (1, .int x1), (3, .int v3)]) hx hb dX6_warnings_99 hl (k := 4) rfl rfl (by decide) rfl (fun ls hl => ?_)
                      refine lv_goto (tgt := 41) hx hb dX6_warnings_102 (by decide) ?_
                      exact ih41 _ _ _ _ _ h hP hS (lv_sub hl [2, 3, 1, 4, 0] rfl)
            refine L41 _ (fun v2 v4 H locs ls h hP hS hl => ?_) 64 _ _ _ _ _ h hP hS (lv_sub hl [1, 2, 3, 4, 0] rfl)
            refine lv_iinc (v := (v3 + 1)) (lv' := [(3, .int (v3 + 1)), (0, .ref (ad 0)), (1, .int x1), (2, .int v2), (4, .int v4)]) hx hb dX6_warnings_105 hl (k := 3) rfl rfl (by decide) rfl (fun ls hl => ?_)
            refine lv_goto (tgt := 21) hx hb dX6_warnings_108 (by decide) ?_
            exact ih21 _ _ _ _ _ h hP hS (lv_sub hl [1, 2, 3, 0] rfl)
    refine L21 _ (fun v2 v3 H locs ls h hP hS hl => ?_) 64 _ _ _ _ _ h hP hS (lv_sub hl [2, 3, 1, 0] rfl)
    refine lv_iload_n hx hb dX6_warnings_111 rfl (lv_at hl 2 rfl) ?_
    exact W.iret hx hb hr (fun t ht hW => ⟨⟨_, (), rfl, (sw_inj h).1, mw_end hP ht (sw_inj h).2⟩, hS.F ht⟩) hS.2.2 dX6_warnings_112 hlocks

/-! firstBlock -/
def mx_firstBlock_L38 (u14 : swU) (x1 : Int32) (v2 : Int32) (kk : Int32 → Option (Int32 × swU)) : Nat → Int32 → Option (Int32 × swU)
  | 0, _ => none
  | n + 1, v3 => if (u14.1 0 12) ≤ v3 then (kk v3) else (swrd 320 (u14.1 6) (((8 * x1) + v2)) fun a58 => swrd 8 (u14.1 14) v3 fun a76 => swrd 1280 (u14.1 7) (((4 * ((8 * x1) + v2)) + a76)) fun a78 => swbd (mx_isBlocked u14 v3 a58 a78) fun r79 => if (swB r79) = 0 then (mx_firstBlock_L38 u14 x1 v2 kk n (v3 + 1)) else (swrd 320 (u14.1 6) (((8 * x1) + v2)) fun a95 => some (a95, u14)))

def mx_firstBlock_L19 (u14 : swU) (x1 : Int32) (kk : Int32 → Option (Int32 × swU)) : Nat → Int32 → Option (Int32 × swU)
  | 0, _ => none
  | n + 1, v2 => if (u14.1 0 0) = 0 then (swrd 40 (u14.1 5) x1 fun a32 => if a32 ≤ v2 then (kk v2) else (mx_firstBlock_L38 u14 x1 v2 (fun v3 => mx_firstBlock_L19 u14 x1 kk n (v2 + 1)) 64 0)) else (kk v2)

def mx_firstBlock (u : swU) (x1 : Int32) : Option (Int32 × swU) :=
  swbd (mx_isVersion u x1) fun r3 => if (swB r3) = 0 then (swlt (swI u 0 0 1) fun u14 => mx_firstBlock_L19 u14 x1 (fun v2 => if (u14.1 0 0) ≤ 0 then (some ((-1), u14)) else (some (0, u14))) 64 0) else (swlt (swI u 0 0 0) fun u14 => mx_firstBlock_L19 u14 x1 (fun v2 => if (u14.1 0 0) ≤ 0 then (some ((-1), u14)) else (some (0, u14))) 64 0)

abbrev rmX6_firstBlock : Room := { frames := 3, cells := 0, slots := 0, locals := 67 }

set_option maxHeartbeats 4000000 in
set_option maxRecDepth 100000 in
theorem mm_firstBlock (l : Launch) (D : va_G) (cy : Nat → ClassId) (ad : Nat → Nat) (hJ : swJ mw_N ad) (u : swU) (x1 : Int32) (r0 : Int32) (u0 : swU) (h : mx_firstBlock u x1 = some (r0, u0)) : Met l yX6_firstBlock wsX6_firstBlock rmX6_firstBlock (mwC D cy ad u [.ref (ad 0), .int x1]) (mwQi D cy ad r0 u0) 0 0 (mwA ad) := by
  refine Met.ofW (cc := cX6_firstBlock) (maxL := 4) (ret := (some .int)) (by decide) rfl ?_
  intro p e s m args below meth c s₁ B hml hv
  obtain ⟨ha, hP, hK⟩ := hv
  have hx := B.exec
  have hb := B.bytes
  have hr := B.returns
  have hlocks := B.notSynchronized
  have hts := atoms_spec (ws := wsX6_firstBlock) B.pre
  have hown : s.vm.findClass RX6 = some m.cls := findClass_of_methodNamed B.named
  have E : CallFix p m c cX6_firstBlock 4 s args wsX6_firstBlock RX6 := ⟨hx, hb, hml, hown, hts⟩
  have hin : ∀ w ∈ wsX60, w ∈ wsX6_firstBlock := by decide +kernel
  have f155 : (Cond.fieldLink RX6 155 "SlidewardenModel" "rules" "I").before args s = true := hts _ (by decide +kernel)
  have f23 : (Cond.fieldLink RX6 23 "SlidewardenModel" "many" "[I").before args s = true := hts _ (by decide +kernel)
  have f26 : (Cond.fieldLink RX6 26 "SlidewardenModel" "row" "[I").before args s = true := hts _ (by decide +kernel)
  have f29 : (Cond.fieldLink RX6 29 "SlidewardenModel" "value" "[I").before args s = true := hts _ (by decide +kernel)
  have f44 : (Cond.fieldLink RX6 44 "SlidewardenModel" "object" "[I").before args s = true := hts _ (by decide +kernel)
  have f78 : (Cond.fieldLink RX6 78 "SlidewardenModel" "thrown" "I").before args s = true := hts _ (by decide +kernel)
  have hS : va_S (mwA ad) s.heap s.heap [] := va_S.rf
  obtain ⟨ls, hl, hent⟩ := sw_entry m (n := 4) ha (Nat.le_of_ble_eq_true rfl)
  rw [hent]
  have hl : lv_has ls 4 [(0, .ref (ad 0)), (1, .int x1)] := hl
  unfold mx_firstBlock at h
  refine lv_aload_n hx hb dX6_firstBlock_0 rfl (lv_at hl 0 rfl) ?_
  refine lv_aload_n hx hb dX6_firstBlock_1 rfl (lv_at hl 0 rfl) ?_
  refine lv_iload_n hx hb dX6_firstBlock_2 rfl (lv_at hl 1 rfl) ?_
  obtain ⟨r3, er3, h⟩ := swbd_s h
  refine mw_calli (As := [.int x1]) (rest := [.ref (ad 0)]) E (mm_isVersion l D cy ad u x1 _ er3) (cwV 1 hts gX6_firstBlock_X6_isVersion rfl rfl rfl (by decide +kernel) ⟨Nat.le_of_ble_eq_true rfl, Nat.le_of_ble_eq_true rfl⟩) hK hP rfl hl.1 rfl (Nat.le_of_ble_eq_true rfl) dX6_firstBlock_3 ?_
  refine lv_if_eq (tgt := 13) hx hb dX6_firstBlock_6 (by decide) (fun cc => ?_) (fun cc => ?_)
  · replace h := sw_t h cc
    refine lv_iconst (v := 1) hx hb dX6_firstBlock_13 (by decide) ?_
    obtain ⟨u14, eu14, h⟩ := swlt_s h
    refine mw_put hx hb hts hin hown hK hJ hP hS 0 (by decide) rfl f78 eu14 dX6_firstBlock_14 (fun H locs hP hS => ?_)
    refine lv_iconst (v := 0) hx hb dX6_firstBlock_17 (by decide) ?_
    refine lv_istore_n (lv' := [(2, .int 0), (0, .ref (ad 0)), (1, .int x1)]) hx hb dX6_firstBlock_18 rfl hl (by decide) rfl (fun ls hl => ?_)
    have L19 : ∀ (kk : Int32 → Option (Int32 × swU)), (∀ (v2 : Int32) (H : Heap) (locs : List Loc) (ls : Array Slot), kk v2 = some (r0, u0) → mwP D cy ad u14 H → va_S (mwA ad) s.heap H locs → lv_has ls 4 [(0, .ref (ad 0)), (1, .int x1), (2, .int v2)] → W p l e (headSpec wsX6_firstBlock rmX6_firstBlock).room s m args below meth c H locs 0 0 (MQ below (mwQi D cy ad r0 u0) args s 0 0 (mwA ad)) (F0 m 109 ls [])) → ∀ (n : Nat) (v2 : Int32) (H : Heap) (locs : List Loc) (ls : Array Slot), mx_firstBlock_L19 u14 x1 kk n v2 = some (r0, u0) → mwP D cy ad u14 H → va_S (mwA ad) s.heap H locs → lv_has ls 4 [(0, .ref (ad 0)), (1, .int x1), (2, .int v2)] → W p l e (headSpec wsX6_firstBlock rmX6_firstBlock).room s m args below meth c H locs 0 0 (MQ below (mwQi D cy ad r0 u0) args s 0 0 (mwA ad)) (F0 m 19 ls []) := by
      intro kk hk19 n
      induction n with
      | zero => intro v2 H locs ls h hP hS hl; rw [mx_firstBlock_L19] at h; cases h
      | succ n ih19 =>
        intro v2 H locs ls h hP hS hl
        rw [mx_firstBlock_L19] at h
        refine lv_aload_n hx hb dX6_firstBlock_19 rfl (lv_at hl 0 rfl) ?_
        refine mw_get hx hb hts hin hown hK hP 0 (by decide) f78 rfl dX6_firstBlock_20 ?_
        refine lv_if_ne (tgt := 109) hx hb dX6_firstBlock_23 (by decide) (fun cc => ?_) (fun cc => ?_)
        · replace h := sw_f h cc
          exact hk19 _ _ _ _ h hP hS (lv_sub hl [0, 1, 2] rfl)
        · replace h := sw_t h cc
          refine lv_iload_n hx hb dX6_firstBlock_26 rfl (lv_at hl 2 rfl) ?_
          refine lv_aload_n hx hb dX6_firstBlock_27 rfl (lv_at hl 0 rfl) ?_
          refine mw_get hx hb hts hin hown hK hP 5 (by decide) f23 rfl dX6_firstBlock_28 ?_
          refine lv_iload_n hx hb dX6_firstBlock_31 rfl (lv_at hl 1 rfl) ?_
          obtain ⟨a32, ea32, ia32, h⟩ := swrd_s h
          refine mw_ald hx hb hK hP 5 40 rfl rfl ia32 dX6_firstBlock_32 ea32 ?_
          refine lv_icmp_ge (tgt := 109) hx hb dX6_firstBlock_33 (by decide) (fun cc => ?_) (fun cc => ?_)
          · replace h := sw_t h cc
            exact hk19 _ _ _ _ h hP hS (lv_sub hl [0, 1, 2] rfl)
          · replace h := sw_f h cc
            refine lv_iconst (v := 0) hx hb dX6_firstBlock_36 (by decide) ?_
            refine lv_istore_n (lv' := [(3, .int 0), (0, .ref (ad 0)), (1, .int x1), (2, .int v2)]) hx hb dX6_firstBlock_37 rfl hl (by decide) rfl (fun ls hl => ?_)
            have L38 : ∀ (kk : Int32 → Option (Int32 × swU)), (∀ (v3 : Int32) (H : Heap) (locs : List Loc) (ls : Array Slot), kk v3 = some (r0, u0) → mwP D cy ad u14 H → va_S (mwA ad) s.heap H locs → lv_has ls 4 [(0, .ref (ad 0)), (1, .int x1), (2, .int v2), (3, .int v3)] → W p l e (headSpec wsX6_firstBlock rmX6_firstBlock).room s m args below meth c H locs 0 0 (MQ below (mwQi D cy ad r0 u0) args s 0 0 (mwA ad)) (F0 m 103 ls [])) → ∀ (n : Nat) (v3 : Int32) (H : Heap) (locs : List Loc) (ls : Array Slot), mx_firstBlock_L38 u14 x1 v2 kk n v3 = some (r0, u0) → mwP D cy ad u14 H → va_S (mwA ad) s.heap H locs → lv_has ls 4 [(0, .ref (ad 0)), (1, .int x1), (2, .int v2), (3, .int v3)] → W p l e (headSpec wsX6_firstBlock rmX6_firstBlock).room s m args below meth c H locs 0 0 (MQ below (mwQi D cy ad r0 u0) args s 0 0 (mwA ad)) (F0 m 38 ls []) := by
              intro kk hk38 n
              induction n with
              | zero => intro v3 H locs ls h hP hS hl; rw [mx_firstBlock_L38] at h; cases h
              | succ n ih38 =>
                intro v3 H locs ls h hP hS hl
                rw [mx_firstBlock_L38] at h
                refine lv_iload_n hx hb dX6_firstBlock_38 rfl (lv_at hl 3 rfl) ?_
                refine lv_aload_n hx hb dX6_firstBlock_39 rfl (lv_at hl 0 rfl) ?_
                refine mw_get hx hb hts hin hown hK hP 12 (by decide) f155 rfl dX6_firstBlock_40 ?_
                refine lv_icmp_ge (tgt := 103) hx hb dX6_firstBlock_43 (by decide) (fun cc => ?_) (fun cc => ?_)
                · replace h := sw_t h cc
                  exact hk38 _ _ _ _ h hP hS (lv_sub hl [0, 1, 2, 3] rfl)
                · replace h := sw_f h cc
                  refine lv_aload_n hx hb dX6_firstBlock_46 rfl (lv_at hl 0 rfl) ?_
                  refine lv_iload_n hx hb dX6_firstBlock_47 rfl (lv_at hl 3 rfl) ?_
                  refine lv_aload_n hx hb dX6_firstBlock_48 rfl (lv_at hl 0 rfl) ?_
                  refine mw_get hx hb hts hin hown hK hP 6 (by decide) f26 rfl dX6_firstBlock_49 ?_
                  refine lv_bipush (v := 8) hx hb dX6_firstBlock_52 (by decide) ?_
                  refine lv_iload_n hx hb dX6_firstBlock_54 rfl (lv_at hl 1 rfl) ?_
                  refine lv_imul hx hb dX6_firstBlock_55 ?_
                  refine lv_iload_n hx hb dX6_firstBlock_56 rfl (lv_at hl 2 rfl) ?_
                  refine lv_iadd hx hb dX6_firstBlock_57 ?_
                  obtain ⟨a58, ea58, ia58, h⟩ := swrd_s h
                  refine mw_ald hx hb hK hP 6 320 rfl rfl ia58 dX6_firstBlock_58 ea58 ?_
                  refine lv_aload_n hx hb dX6_firstBlock_59 rfl (lv_at hl 0 rfl) ?_
                  refine mw_get hx hb hts hin hown hK hP 7 (by decide) f29 rfl dX6_firstBlock_60 ?_
                  refine lv_iconst (v := 4) hx hb dX6_firstBlock_63 (by decide) ?_
                  refine lv_bipush (v := 8) hx hb dX6_firstBlock_64 (by decide) ?_
                  refine lv_iload_n hx hb dX6_firstBlock_66 rfl (lv_at hl 1 rfl) ?_
                  refine lv_imul hx hb dX6_firstBlock_67 ?_
                  refine lv_iload_n hx hb dX6_firstBlock_68 rfl (lv_at hl 2 rfl) ?_
                  refine lv_iadd hx hb dX6_firstBlock_69 ?_
                  refine lv_imul hx hb dX6_firstBlock_70 ?_
                  refine lv_aload_n hx hb dX6_firstBlock_71 rfl (lv_at hl 0 rfl) ?_
                  refine mw_get hx hb hts hin hown hK hP 14 (by decide) f44 rfl dX6_firstBlock_72 ?_
                  refine lv_iload_n hx hb dX6_firstBlock_75 rfl (lv_at hl 3 rfl) ?_
                  obtain ⟨a76, ea76, ia76, h⟩ := swrd_s h
                  refine mw_ald hx hb hK hP 14 8 rfl rfl ia76 dX6_firstBlock_76 ea76 ?_
                  refine lv_iadd hx hb dX6_firstBlock_77 ?_
                  obtain ⟨a78, ea78, ia78, h⟩ := swrd_s h
                  refine mw_ald hx hb hK hP 7 1280 rfl rfl ia78 dX6_firstBlock_78 ea78 ?_
                  obtain ⟨r79, er79, h⟩ := swbd_s h
                  refine mw_calli (As := [.int v3, .int a58, .int a78]) (rest := []) E (mm_isBlocked l D cy ad u14 v3 a58 a78 _ er79) (cwV 3 hts gX6_firstBlock_X6_isBlocked rfl rfl rfl (by decide +kernel) ⟨Nat.le_of_ble_eq_true rfl, Nat.le_of_ble_eq_true rfl⟩) hK hP rfl hl.1 rfl (Nat.le_of_ble_eq_true rfl) dX6_firstBlock_79 ?_
                  refine lv_if_eq (tgt := 97) hx hb dX6_firstBlock_82 (by decide) (fun cc => ?_) (fun cc => ?_)
                  · replace h := sw_t h cc
                    refine lv_iinc (v := (v3 + 1)) (lv' := [(3, .int (v3 + 1)), (0, .ref (ad 0)), (1, .int x1), (2, .int v2)]) hx hb dX6_firstBlock_97 hl (k := 3) rfl rfl (by decide) rfl (fun ls hl => ?_)
                    refine lv_goto (tgt := 38) hx hb dX6_firstBlock_100 (by decide) ?_
                    exact ih38 _ _ _ _ h hP hS (lv_sub hl [1, 2, 3, 0] rfl)
                  · replace h := sw_f h cc
                    refine lv_aload_n hx hb dX6_firstBlock_85 rfl (lv_at hl 0 rfl) ?_
                    refine mw_get hx hb hts hin hown hK hP 6 (by decide) f26 rfl dX6_firstBlock_86 ?_
                    refine lv_bipush (v := 8) hx hb dX6_firstBlock_89 (by decide) ?_
                    refine lv_iload_n hx hb dX6_firstBlock_91 rfl (lv_at hl 1 rfl) ?_
                    refine lv_imul hx hb dX6_firstBlock_92 ?_
                    refine lv_iload_n hx hb dX6_firstBlock_93 rfl (lv_at hl 2 rfl) ?_
                    refine lv_iadd hx hb dX6_firstBlock_94 ?_
                    obtain ⟨a95, ea95, ia95, h⟩ := swrd_s h
                    refine mw_ald hx hb hK hP 6 320 rfl rfl ia95 dX6_firstBlock_95 ea95 ?_
                    exact W.iret hx hb hr (fun t ht hW => ⟨⟨_, (), rfl, (sw_inj h).1, mw_end hP ht (sw_inj h).2⟩, hS.F ht⟩) hS.2.2 dX6_firstBlock_96 hlocks
            refine L38 _ (fun v3 H locs ls h hP hS hl => ?_) 64 _ _ _ _ h hP hS (lv_sub hl [1, 2, 3, 0] rfl)
            refine lv_iinc (v := (v2 + 1)) (lv' := [(2, .int (v2 + 1)), (0, .ref (ad 0)), (1, .int x1), (3, .int v3)]) hx hb dX6_firstBlock_103 hl (k := 2) rfl rfl (by decide) rfl (fun ls hl => ?_)
            refine lv_goto (tgt := 19) hx hb dX6_firstBlock_106 (by decide) ?_
            exact ih19 _ _ _ _ h hP hS (lv_sub hl [1, 2, 0] rfl)
    refine L19 _ (fun v2 H locs ls h hP hS hl => ?_) 64 _ _ _ _ h hP hS (lv_sub hl [1, 2, 0] rfl)
    refine lv_aload_n hx hb dX6_firstBlock_109 rfl (lv_at hl 0 rfl) ?_
    refine mw_get hx hb hts hin hown hK hP 0 (by decide) f78 rfl dX6_firstBlock_110 ?_
    refine lv_if_le (tgt := 120) hx hb dX6_firstBlock_113 (by decide) (fun cc => ?_) (fun cc => ?_)
    · replace h := sw_t h cc
      refine lv_iconst (v := (-1)) hx hb dX6_firstBlock_120 (by decide) ?_
      exact W.iret hx hb hr (fun t ht hW => ⟨⟨_, (), rfl, (sw_inj h).1, mw_end hP ht (sw_inj h).2⟩, hS.F ht⟩) hS.2.2 dX6_firstBlock_121 hlocks
    · replace h := sw_f h cc
      refine lv_iconst (v := 0) hx hb dX6_firstBlock_116 (by decide) ?_
      refine lv_goto (tgt := 121) hx hb dX6_firstBlock_117 (by decide) ?_
      exact W.iret hx hb hr (fun t ht hW => ⟨⟨_, (), rfl, (sw_inj h).1, mw_end hP ht (sw_inj h).2⟩, hS.F ht⟩) hS.2.2 dX6_firstBlock_121 hlocks
  · replace h := sw_f h cc
    refine lv_iconst (v := 0) hx hb dX6_firstBlock_9 (by decide) ?_
    refine lv_goto (tgt := 14) hx hb dX6_firstBlock_10 (by decide) ?_
    obtain ⟨u14, eu14, h⟩ := swlt_s h
    refine mw_put hx hb hts hin hown hK hJ hP hS 0 (by decide) rfl f78 eu14 dX6_firstBlock_14 (fun H locs hP hS => ?_)
    refine lv_iconst (v := 0) hx hb dX6_firstBlock_17 (by decide) ?_
    refine lv_istore_n (lv' := [(2, .int 0), (0, .ref (ad 0)), (1, .int x1)]) hx hb dX6_firstBlock_18 rfl hl (by decide) rfl (fun ls hl => ?_)
    have L19 : ∀ (kk : Int32 → Option (Int32 × swU)), (∀ (v2 : Int32) (H : Heap) (locs : List Loc) (ls : Array Slot), kk v2 = some (r0, u0) → mwP D cy ad u14 H → va_S (mwA ad) s.heap H locs → lv_has ls 4 [(0, .ref (ad 0)), (1, .int x1), (2, .int v2)] → W p l e (headSpec wsX6_firstBlock rmX6_firstBlock).room s m args below meth c H locs 0 0 (MQ below (mwQi D cy ad r0 u0) args s 0 0 (mwA ad)) (F0 m 109 ls [])) → ∀ (n : Nat) (v2 : Int32) (H : Heap) (locs : List Loc) (ls : Array Slot), mx_firstBlock_L19 u14 x1 kk n v2 = some (r0, u0) → mwP D cy ad u14 H → va_S (mwA ad) s.heap H locs → lv_has ls 4 [(0, .ref (ad 0)), (1, .int x1), (2, .int v2)] → W p l e (headSpec wsX6_firstBlock rmX6_firstBlock).room s m args below meth c H locs 0 0 (MQ below (mwQi D cy ad r0 u0) args s 0 0 (mwA ad)) (F0 m 19 ls []) := by
      intro kk hk19 n
      induction n with
      | zero => intro v2 H locs ls h hP hS hl; rw [mx_firstBlock_L19] at h; cases h
      | succ n ih19 =>
        intro v2 H locs ls h hP hS hl
        rw [mx_firstBlock_L19] at h
        refine lv_aload_n hx hb dX6_firstBlock_19 rfl (lv_at hl 0 rfl) ?_
        refine mw_get hx hb hts hin hown hK hP 0 (by decide) f78 rfl dX6_firstBlock_20 ?_
        refine lv_if_ne (tgt := 109) hx hb dX6_firstBlock_23 (by decide) (fun cc => ?_) (fun cc => ?_)
        · replace h := sw_f h cc
          exact hk19 _ _ _ _ h hP hS (lv_sub hl [0, 1, 2] rfl)
        · replace h := sw_t h cc
          refine lv_iload_n hx hb dX6_firstBlock_26 rfl (lv_at hl 2 rfl) ?_
          refine lv_aload_n hx hb dX6_firstBlock_27 rfl (lv_at hl 0 rfl) ?_
          refine mw_get hx hb hts hin hown hK hP 5 (by decide) f23 rfl dX6_firstBlock_28 ?_
          refine lv_iload_n hx hb dX6_firstBlock_31 rfl (lv_at hl 1 rfl) ?_
          obtain ⟨a32, ea32, ia32, h⟩ := swrd_s h
          refine mw_ald hx hb hK hP 5 40 rfl rfl ia32 dX6_firstBlock_32 ea32 ?_
          refine lv_icmp_ge (tgt := 109) hx hb dX6_firstBlock_33 (by decide) (fun cc => ?_) (fun cc => ?_)
          · replace h := sw_t h cc
            exact hk19 _ _ _ _ h hP hS (lv_sub hl [0, 1, 2] rfl)
          · replace h := sw_f h cc
            refine lv_iconst (v := 0) hx hb dX6_firstBlock_36 (by decide) ?_
            refine lv_istore_n (lv' := [(3, .int 0), (0, .ref (ad 0)), (1, .int x1), (2, .int v2)]) hx hb dX6_firstBlock_37 rfl hl (by decide) rfl (fun ls hl => ?_)
            have L38 : ∀ (kk : Int32 → Option (Int32 × swU)), (∀ (v3 : Int32) (H : Heap) (locs : List Loc) (ls : Array Slot), kk v3 = some (r0, u0) → mwP D cy ad u14 H → va_S (mwA ad) s.heap H locs → lv_has ls 4 [(0, .ref (ad 0)), (1, .int x1), (2, .int v2), (3, .int v3)] → W p l e (headSpec wsX6_firstBlock rmX6_firstBlock).room s m args below meth c H locs 0 0 (MQ below (mwQi D cy ad r0 u0) args s 0 0 (mwA ad)) (F0 m 103 ls [])) → ∀ (n : Nat) (v3 : Int32) (H : Heap) (locs : List Loc) (ls : Array Slot), mx_firstBlock_L38 u14 x1 v2 kk n v3 = some (r0, u0) → mwP D cy ad u14 H → va_S (mwA ad) s.heap H locs → lv_has ls 4 [(0, .ref (ad 0)), (1, .int x1), (2, .int v2), (3, .int v3)] → W p l e (headSpec wsX6_firstBlock rmX6_firstBlock).room s m args below meth c H locs 0 0 (MQ below (mwQi D cy ad r0 u0) args s 0 0 (mwA ad)) (F0 m 38 ls []) := by
              intro kk hk38 n
              induction n with
              | zero => intro v3 H locs ls h hP hS hl; rw [mx_firstBlock_L38] at h; cases h
              | succ n ih38 =>
                intro v3 H locs ls h hP hS hl
                rw [mx_firstBlock_L38] at h
                refine lv_iload_n hx hb dX6_firstBlock_38 rfl (lv_at hl 3 rfl) ?_
                refine lv_aload_n hx hb dX6_firstBlock_39 rfl (lv_at hl 0 rfl) ?_
                refine mw_get hx hb hts hin hown hK hP 12 (by decide) f155 rfl dX6_firstBlock_40 ?_
                refine lv_icmp_ge (tgt := 103) hx hb dX6_firstBlock_43 (by decide) (fun cc => ?_) (fun cc => ?_)
                · replace h := sw_t h cc
                  exact hk38 _ _ _ _ h hP hS (lv_sub hl [0, 1, 2, 3] rfl)
                · replace h := sw_f h cc
                  refine lv_aload_n hx hb dX6_firstBlock_46 rfl (lv_at hl 0 rfl) ?_
                  refine lv_iload_n hx hb dX6_firstBlock_47 rfl (lv_at hl 3 rfl) ?_
                  refine lv_aload_n hx hb dX6_firstBlock_48 rfl (lv_at hl 0 rfl) ?_
                  refine mw_get hx hb hts hin hown hK hP 6 (by decide) f26 rfl dX6_firstBlock_49 ?_
                  refine lv_bipush (v := 8) hx hb dX6_firstBlock_52 (by decide) ?_
                  refine lv_iload_n hx hb dX6_firstBlock_54 rfl (lv_at hl 1 rfl) ?_
                  refine lv_imul hx hb dX6_firstBlock_55 ?_
                  refine lv_iload_n hx hb dX6_firstBlock_56 rfl (lv_at hl 2 rfl) ?_
                  refine lv_iadd hx hb dX6_firstBlock_57 ?_
                  obtain ⟨a58, ea58, ia58, h⟩ := swrd_s h
                  refine mw_ald hx hb hK hP 6 320 rfl rfl ia58 dX6_firstBlock_58 ea58 ?_
                  refine lv_aload_n hx hb dX6_firstBlock_59 rfl (lv_at hl 0 rfl) ?_
                  refine mw_get hx hb hts hin hown hK hP 7 (by decide) f29 rfl dX6_firstBlock_60 ?_
                  refine lv_iconst (v := 4) hx hb dX6_firstBlock_63 (by decide) ?_
                  refine lv_bipush (v := 8) hx hb dX6_firstBlock_64 (by decide) ?_
                  refine lv_iload_n hx hb dX6_firstBlock_66 rfl (lv_at hl 1 rfl) ?_
                  refine lv_imul hx hb dX6_firstBlock_67 ?_
                  refine lv_iload_n hx hb dX6_firstBlock_68 rfl (lv_at hl 2 rfl) ?_
                  refine lv_iadd hx hb dX6_firstBlock_69 ?_
                  refine lv_imul hx hb dX6_firstBlock_70 ?_
                  refine lv_aload_n hx hb dX6_firstBlock_71 rfl (lv_at hl 0 rfl) ?_
                  refine mw_get hx hb hts hin hown hK hP 14 (by decide) f44 rfl dX6_firstBlock_72 ?_
                  refine lv_iload_n hx hb dX6_firstBlock_75 rfl (lv_at hl 3 rfl) ?_
                  obtain ⟨a76, ea76, ia76, h⟩ := swrd_s h
                  refine mw_ald hx hb hK hP 14 8 rfl rfl ia76 dX6_firstBlock_76 ea76 ?_
                  refine lv_iadd hx hb dX6_firstBlock_77 ?_
                  obtain ⟨a78, ea78, ia78, h⟩ := swrd_s h
                  refine mw_ald hx hb hK hP 7 1280 rfl rfl ia78 dX6_firstBlock_78 ea78 ?_
                  obtain ⟨r79, er79, h⟩ := swbd_s h
                  refine mw_calli (As := [.int v3, .int a58, .int a78]) (rest := []) E (mm_isBlocked l D cy ad u14 v3 a58 a78 _ er79) (cwV 3 hts gX6_firstBlock_X6_isBlocked rfl rfl rfl (by decide +kernel) ⟨Nat.le_of_ble_eq_true rfl, Nat.le_of_ble_eq_true rfl⟩) hK hP rfl hl.1 rfl (Nat.le_of_ble_eq_true rfl) dX6_firstBlock_79 ?_
                  refine lv_if_eq (tgt := 97) hx hb dX6_firstBlock_82 (by decide) (fun cc => ?_) (fun cc => ?_)
                  · replace h := sw_t h cc
                    refine lv_iinc (v := (v3 + 1)) (lv' := [(3, .int (v3 + 1)), (0, .ref (ad 0)), (1, .int x1), (2, .int v2)]) hx hb dX6_firstBlock_97 hl (k := 3) rfl rfl (by decide) rfl (fun ls hl => ?_)
                    refine lv_goto (tgt := 38) hx hb dX6_firstBlock_100 (by decide) ?_
                    exact ih38 _ _ _ _ h hP hS (lv_sub hl [1, 2, 3, 0] rfl)
                  · replace h := sw_f h cc
                    refine lv_aload_n hx hb dX6_firstBlock_85 rfl (lv_at hl 0 rfl) ?_
                    refine mw_get hx hb hts hin hown hK hP 6 (by decide) f26 rfl dX6_firstBlock_86 ?_
                    refine lv_bipush (v := 8) hx hb dX6_firstBlock_89 (by decide) ?_
                    refine lv_iload_n hx hb dX6_firstBlock_91 rfl (lv_at hl 1 rfl) ?_
                    refine lv_imul hx hb dX6_firstBlock_92 ?_
                    refine lv_iload_n hx hb dX6_firstBlock_93 rfl (lv_at hl 2 rfl) ?_
                    refine lv_iadd hx hb dX6_firstBlock_94 ?_
                    obtain ⟨a95, ea95, ia95, h⟩ := swrd_s h
                    refine mw_ald hx hb hK hP 6 320 rfl rfl ia95 dX6_firstBlock_95 ea95 ?_
                    exact W.iret hx hb hr (fun t ht hW => ⟨⟨_, (), rfl, (sw_inj h).1, mw_end hP ht (sw_inj h).2⟩, hS.F ht⟩) hS.2.2 dX6_firstBlock_96 hlocks
            refine L38 _ (fun v3 H locs ls h hP hS hl => ?_) 64 _ _ _ _ h hP hS (lv_sub hl [1, 2, 3, 0] rfl)
            refine lv_iinc (v := (v2 + 1)) (lv' := [(2, .int (v2 + 1)), (0, .ref (ad 0)), (1, .int x1), (3, .int v3)]) hx hb dX6_firstBlock_103 hl (k := 2) rfl rfl (by decide) rfl (fun ls hl => ?_)
            refine lv_goto (tgt := 19) hx hb dX6_firstBlock_106 (by decide) ?_
            exact ih19 _ _ _ _ h hP hS (lv_sub hl [1, 2, 0] rfl)
    refine L19 _ (fun v2 H locs ls h hP hS hl => ?_) 64 _ _ _ _ h hP hS (lv_sub hl [1, 2, 0] rfl)
    refine lv_aload_n hx hb dX6_firstBlock_109 rfl (lv_at hl 0 rfl) ?_
    refine mw_get hx hb hts hin hown hK hP 0 (by decide) f78 rfl dX6_firstBlock_110 ?_
    refine lv_if_le (tgt := 120) hx hb dX6_firstBlock_113 (by decide) (fun cc => ?_) (fun cc => ?_)
    · replace h := sw_t h cc
      refine lv_iconst (v := (-1)) hx hb dX6_firstBlock_120 (by decide) ?_
      exact W.iret hx hb hr (fun t ht hW => ⟨⟨_, (), rfl, (sw_inj h).1, mw_end hP ht (sw_inj h).2⟩, hS.F ht⟩) hS.2.2 dX6_firstBlock_121 hlocks
    · replace h := sw_f h cc
      refine lv_iconst (v := 0) hx hb dX6_firstBlock_116 (by decide) ?_
      refine lv_goto (tgt := 121) hx hb dX6_firstBlock_117 (by decide) ?_
      exact W.iret hx hb hr (fun t ht hW => ⟨⟨_, (), rfl, (sw_inj h).1, mw_end hP ht (sw_inj h).2⟩, hS.F ht⟩) hS.2.2 dX6_firstBlock_121 hlocks

/-! show -/
def mx_show (u : swU) (x1 : Int32) : Option (Int32 × swU) :=
  swbd (mx_isBranch u x1) fun r3 => if (swB r3) = 0 then (swlt (swI u 0 0 1) fun u31 => some (0, u31)) else (swrd 6 (u.1 10) x1 fun a19 => swbd (mx_blocksOf u a19) fun r20 => if r20 ≤ 0 then (swlt (swI u 0 0 0) fun u31 => swrd 6 (u31.1 10) x1 fun a53 => swgd (swix x1 6) <| swlt (swI u31 11 x1.toNatClampNeg a53) fun u54 => swrd 6 (u54.1 10) x1 fun a60 => some (a60, u54)) else (swlt (swI u 0 0 2) fun u31 => some (0, u31)))

abbrev rmX6_show : Room := { frames := 4, cells := 0, slots := 0, locals := 91 }

set_option maxHeartbeats 4000000 in
set_option maxRecDepth 100000 in
theorem mm_show (l : Launch) (D : va_G) (cy : Nat → ClassId) (ad : Nat → Nat) (hJ : swJ mw_N ad) (u : swU) (x1 : Int32) (r0 : Int32) (u0 : swU) (h : mx_show u x1 = some (r0, u0)) : Met l yX6_show wsX6_show rmX6_show (mwC D cy ad u [.ref (ad 0), .int x1]) (mwQi D cy ad r0 u0) 0 0 (mwA ad) := by
  refine Met.ofW (cc := cX6_show) (maxL := 2) (ret := (some .int)) (by decide) rfl ?_
  intro p e s m args below meth c s₁ B hml hv
  obtain ⟨ha, hP, hK⟩ := hv
  have hx := B.exec
  have hb := B.bytes
  have hr := B.returns
  have hlocks := B.notSynchronized
  have hts := atoms_spec (ws := wsX6_show) B.pre
  have hown : s.vm.findClass RX6 = some m.cls := findClass_of_methodNamed B.named
  have E : CallFix p m c cX6_show 2 s args wsX6_show RX6 := ⟨hx, hb, hml, hown, hts⟩
  have hin : ∀ w ∈ wsX60, w ∈ wsX6_show := by decide +kernel
  have f35 : (Cond.fieldLink RX6 35 "SlidewardenModel" "head" "[I").before args s = true := hts _ (by decide +kernel)
  have f38 : (Cond.fieldLink RX6 38 "SlidewardenModel" "shown" "[I").before args s = true := hts _ (by decide +kernel)
  have f78 : (Cond.fieldLink RX6 78 "SlidewardenModel" "thrown" "I").before args s = true := hts _ (by decide +kernel)
  have hS : va_S (mwA ad) s.heap s.heap [] := va_S.rf
  obtain ⟨ls, hl, hent⟩ := sw_entry m (n := 2) ha (Nat.le_of_ble_eq_true rfl)
  rw [hent]
  have hl : lv_has ls 2 [(0, .ref (ad 0)), (1, .int x1)] := hl
  unfold mx_show at h
  refine lv_aload_n hx hb dX6_show_0 rfl (lv_at hl 0 rfl) ?_
  refine lv_aload_n hx hb dX6_show_1 rfl (lv_at hl 0 rfl) ?_
  refine lv_iload_n hx hb dX6_show_2 rfl (lv_at hl 1 rfl) ?_
  obtain ⟨r3, er3, h⟩ := swbd_s h
  refine mw_calli (As := [.int x1]) (rest := [.ref (ad 0)]) E (mm_isBranch l D cy ad u x1 _ er3) (cwV 1 hts gX6_show_X6_isBranch rfl rfl rfl (by decide +kernel) ⟨Nat.le_of_ble_eq_true rfl, Nat.le_of_ble_eq_true rfl⟩) hK hP rfl hl.1 rfl (Nat.le_of_ble_eq_true rfl) dX6_show_3 ?_
  refine lv_if_ne (tgt := 13) hx hb dX6_show_6 (by decide) (fun cc => ?_) (fun cc => ?_)
  · replace h := sw_f h cc
    refine lv_aload_n hx hb dX6_show_13 rfl (lv_at hl 0 rfl) ?_
    refine lv_aload_n hx hb dX6_show_14 rfl (lv_at hl 0 rfl) ?_
    refine mw_get hx hb hts hin hown hK hP 10 (by decide) f35 rfl dX6_show_15 ?_
    refine lv_iload_n hx hb dX6_show_18 rfl (lv_at hl 1 rfl) ?_
    obtain ⟨a19, ea19, ia19, h⟩ := swrd_s h
    refine mw_ald hx hb hK hP 10 6 rfl rfl ia19 dX6_show_19 ea19 ?_
    obtain ⟨r20, er20, h⟩ := swbd_s h
    refine mw_calli (As := [.int a19]) (rest := [.ref (ad 0)]) E (mm_blocksOf l D cy ad u a19 _ er20) (cwV 1 hts gX6_show_X6_blocksOf rfl rfl rfl (by decide +kernel) ⟨Nat.le_of_ble_eq_true rfl, Nat.le_of_ble_eq_true rfl⟩) hK hP rfl hl.1 rfl (Nat.le_of_ble_eq_true rfl) dX6_show_20 ?_
    refine lv_if_le (tgt := 30) hx hb dX6_show_23 (by decide) (fun cc => ?_) (fun cc => ?_)
    · replace h := sw_t h cc
      refine lv_iconst (v := 0) hx hb dX6_show_30 (by decide) ?_
      obtain ⟨u31, eu31, h⟩ := swlt_s h
      refine mw_put hx hb hts hin hown hK hJ hP hS 0 (by decide) rfl f78 eu31 dX6_show_31 (fun H locs hP hS => ?_)
      refine lv_aload_n hx hb dX6_show_34 rfl (lv_at hl 0 rfl) ?_
      refine mw_get hx hb hts hin hown hK hP 0 (by decide) f78 rfl dX6_show_35 ?_
      refine sw_top (x := 0) (by rw [eu31]; rfl) ?_
      refine lv_if_le (tgt := 43) hx hb dX6_show_38 (by decide) (fun cc => ?_) (fun cc => absurd (by decide) cc)
      refine lv_aload_n hx hb dX6_show_43 rfl (lv_at hl 0 rfl) ?_
      refine mw_get hx hb hts hin hown hK hP 11 (by decide) f38 rfl dX6_show_44 ?_
      refine lv_iload_n hx hb dX6_show_47 rfl (lv_at hl 1 rfl) ?_
      refine lv_aload_n hx hb dX6_show_48 rfl (lv_at hl 0 rfl) ?_
      refine mw_get hx hb hts hin hown hK hP 10 (by decide) f35 rfl dX6_show_49 ?_
      refine lv_iload_n hx hb dX6_show_52 rfl (lv_at hl 1 rfl) ?_
      obtain ⟨a53, ea53, ia53, h⟩ := swrd_s h
      refine mw_ald hx hb hK hP 10 6 rfl rfl ia53 dX6_show_53 ea53 ?_
      obtain ⟨iu54, h⟩ := swgd_s h
      obtain ⟨u54, eu54, h⟩ := swlt_s h
      refine mw_ast hx hb hK hJ hP hS 11 6 rfl (by decide) rfl rfl (swix_s iu54) eu54 dX6_show_54 (fun H locs hP hS => ?_)
      refine lv_aload_n hx hb dX6_show_55 rfl (lv_at hl 0 rfl) ?_
      refine mw_get hx hb hts hin hown hK hP 10 (by decide) f35 rfl dX6_show_56 ?_
      refine lv_iload_n hx hb dX6_show_59 rfl (lv_at hl 1 rfl) ?_
      obtain ⟨a60, ea60, ia60, h⟩ := swrd_s h
      refine mw_ald hx hb hK hP 10 6 rfl rfl ia60 dX6_show_60 ea60 ?_
      exact W.iret hx hb hr (fun t ht hW => ⟨⟨_, (), rfl, (sw_inj h).1, mw_end hP ht (sw_inj h).2⟩, hS.F ht⟩) hS.2.2 dX6_show_61 hlocks
    · replace h := sw_f h cc
      refine lv_iconst (v := 2) hx hb dX6_show_26 (by decide) ?_
      refine lv_goto (tgt := 31) hx hb dX6_show_27 (by decide) ?_
      obtain ⟨u31, eu31, h⟩ := swlt_s h
      refine mw_put hx hb hts hin hown hK hJ hP hS 0 (by decide) rfl f78 eu31 dX6_show_31 (fun H locs hP hS => ?_)
      refine lv_aload_n hx hb dX6_show_34 rfl (lv_at hl 0 rfl) ?_
      refine mw_get hx hb hts hin hown hK hP 0 (by decide) f78 rfl dX6_show_35 ?_
      refine sw_top (x := 2) (by rw [eu31]; rfl) ?_
      refine lv_if_le (tgt := 43) hx hb dX6_show_38 (by decide) (fun cc => absurd cc (by decide)) (fun cc => ?_)
      refine lv_iconst (v := 0) hx hb dX6_show_41 (by decide) ?_
      exact W.iret hx hb hr (fun t ht hW => ⟨⟨_, (), rfl, (sw_inj h).1, mw_end hP ht (sw_inj h).2⟩, hS.F ht⟩) hS.2.2 dX6_show_42 hlocks
  · replace h := sw_t h cc
    refine lv_iconst (v := 1) hx hb dX6_show_9 (by decide) ?_
    refine lv_goto (tgt := 31) hx hb dX6_show_10 (by decide) ?_
    obtain ⟨u31, eu31, h⟩ := swlt_s h
    refine mw_put hx hb hts hin hown hK hJ hP hS 0 (by decide) rfl f78 eu31 dX6_show_31 (fun H locs hP hS => ?_)
    refine lv_aload_n hx hb dX6_show_34 rfl (lv_at hl 0 rfl) ?_
    refine mw_get hx hb hts hin hown hK hP 0 (by decide) f78 rfl dX6_show_35 ?_
    refine sw_top (x := 1) (by rw [eu31]; rfl) ?_
    refine lv_if_le (tgt := 43) hx hb dX6_show_38 (by decide) (fun cc => absurd cc (by decide)) (fun cc => ?_)
    refine lv_iconst (v := 0) hx hb dX6_show_41 (by decide) ?_
    exact W.iret hx hb hr (fun t ht hW => ⟨⟨_, (), rfl, (sw_inj h).1, mw_end hP ht (sw_inj h).2⟩, hS.F ht⟩) hS.2.2 dX6_show_42 hlocks

/-! shown -/
def mx_shown (u : swU) (x1 : Int32) : Option (Int32 × swU) :=
  swbd (mx_isBranch u x1) fun r3 => if (swB r3) = 0 then (swlt (swI u 0 0 1) fun u14 => some (0, u14)) else (swlt (swI u 0 0 0) fun u14 => swrd 6 (u14.1 11) x1 fun a31 => if a31 = (-1) then (some ((-1), u14)) else (swrd 6 (u14.1 11) x1 fun a42 => swbd (mx_blocksOf u14 a42) fun r43 => if r43 ≤ 0 then (swrd 6 (u14.1 11) x1 fun a58 => some (a58, u14)) else (some ((-1), u14))))

abbrev rmX6_shown : Room := { frames := 4, cells := 0, slots := 0, locals := 91 }

set_option maxHeartbeats 4000000 in
set_option maxRecDepth 100000 in
theorem mm_shown (l : Launch) (D : va_G) (cy : Nat → ClassId) (ad : Nat → Nat) (hJ : swJ mw_N ad) (u : swU) (x1 : Int32) (r0 : Int32) (u0 : swU) (h : mx_shown u x1 = some (r0, u0)) : Met l yX6_shown wsX6_shown rmX6_shown (mwC D cy ad u [.ref (ad 0), .int x1]) (mwQi D cy ad r0 u0) 0 0 (mwA ad) := by
  refine Met.ofW (cc := cX6_shown) (maxL := 2) (ret := (some .int)) (by decide) rfl ?_
  intro p e s m args below meth c s₁ B hml hv
  obtain ⟨ha, hP, hK⟩ := hv
  have hx := B.exec
  have hb := B.bytes
  have hr := B.returns
  have hlocks := B.notSynchronized
  have hts := atoms_spec (ws := wsX6_shown) B.pre
  have hown : s.vm.findClass RX6 = some m.cls := findClass_of_methodNamed B.named
  have E : CallFix p m c cX6_shown 2 s args wsX6_shown RX6 := ⟨hx, hb, hml, hown, hts⟩
  have hin : ∀ w ∈ wsX60, w ∈ wsX6_shown := by decide +kernel
  have f38 : (Cond.fieldLink RX6 38 "SlidewardenModel" "shown" "[I").before args s = true := hts _ (by decide +kernel)
  have f78 : (Cond.fieldLink RX6 78 "SlidewardenModel" "thrown" "I").before args s = true := hts _ (by decide +kernel)
  have hS : va_S (mwA ad) s.heap s.heap [] := va_S.rf
  obtain ⟨ls, hl, hent⟩ := sw_entry m (n := 2) ha (Nat.le_of_ble_eq_true rfl)
  rw [hent]
  have hl : lv_has ls 2 [(0, .ref (ad 0)), (1, .int x1)] := hl
  unfold mx_shown at h
  refine lv_aload_n hx hb dX6_shown_0 rfl (lv_at hl 0 rfl) ?_
  refine lv_aload_n hx hb dX6_shown_1 rfl (lv_at hl 0 rfl) ?_
  refine lv_iload_n hx hb dX6_shown_2 rfl (lv_at hl 1 rfl) ?_
  obtain ⟨r3, er3, h⟩ := swbd_s h
  refine mw_calli (As := [.int x1]) (rest := [.ref (ad 0)]) E (mm_isBranch l D cy ad u x1 _ er3) (cwV 1 hts gX6_shown_X6_isBranch rfl rfl rfl (by decide +kernel) ⟨Nat.le_of_ble_eq_true rfl, Nat.le_of_ble_eq_true rfl⟩) hK hP rfl hl.1 rfl (Nat.le_of_ble_eq_true rfl) dX6_shown_3 ?_
  refine lv_if_eq (tgt := 13) hx hb dX6_shown_6 (by decide) (fun cc => ?_) (fun cc => ?_)
  · replace h := sw_t h cc
    refine lv_iconst (v := 1) hx hb dX6_shown_13 (by decide) ?_
    obtain ⟨u14, eu14, h⟩ := swlt_s h
    refine mw_put hx hb hts hin hown hK hJ hP hS 0 (by decide) rfl f78 eu14 dX6_shown_14 (fun H locs hP hS => ?_)
    refine lv_aload_n hx hb dX6_shown_17 rfl (lv_at hl 0 rfl) ?_
    refine mw_get hx hb hts hin hown hK hP 0 (by decide) f78 rfl dX6_shown_18 ?_
    refine sw_top (x := 1) (by rw [eu14]; rfl) ?_
    refine lv_if_le (tgt := 26) hx hb dX6_shown_21 (by decide) (fun cc => absurd cc (by decide)) (fun cc => ?_)
    refine lv_iconst (v := 0) hx hb dX6_shown_24 (by decide) ?_
    exact W.iret hx hb hr (fun t ht hW => ⟨⟨_, (), rfl, (sw_inj h).1, mw_end hP ht (sw_inj h).2⟩, hS.F ht⟩) hS.2.2 dX6_shown_25 hlocks
  · replace h := sw_f h cc
    refine lv_iconst (v := 0) hx hb dX6_shown_9 (by decide) ?_
    refine lv_goto (tgt := 14) hx hb dX6_shown_10 (by decide) ?_
    obtain ⟨u14, eu14, h⟩ := swlt_s h
    refine mw_put hx hb hts hin hown hK hJ hP hS 0 (by decide) rfl f78 eu14 dX6_shown_14 (fun H locs hP hS => ?_)
    refine lv_aload_n hx hb dX6_shown_17 rfl (lv_at hl 0 rfl) ?_
    refine mw_get hx hb hts hin hown hK hP 0 (by decide) f78 rfl dX6_shown_18 ?_
    refine sw_top (x := 0) (by rw [eu14]; rfl) ?_
    refine lv_if_le (tgt := 26) hx hb dX6_shown_21 (by decide) (fun cc => ?_) (fun cc => absurd (by decide) cc)
    refine lv_aload_n hx hb dX6_shown_26 rfl (lv_at hl 0 rfl) ?_
    refine mw_get hx hb hts hin hown hK hP 11 (by decide) f38 rfl dX6_shown_27 ?_
    refine lv_iload_n hx hb dX6_shown_30 rfl (lv_at hl 1 rfl) ?_
    obtain ⟨a31, ea31, ia31, h⟩ := swrd_s h
    refine mw_ald hx hb hK hP 11 6 rfl rfl ia31 dX6_shown_31 ea31 ?_
    refine lv_iconst (v := (-1)) hx hb dX6_shown_32 (by decide) ?_
    refine lv_icmp_eq (tgt := 49) hx hb dX6_shown_33 (by decide) (fun cc => ?_) (fun cc => ?_)
    · replace h := sw_t h cc
      refine lv_iconst (v := (-1)) hx hb dX6_shown_49 (by decide) ?_
      refine lv_goto (tgt := 59) hx hb dX6_shown_50 (by decide) ?_
      exact W.iret hx hb hr (fun t ht hW => ⟨⟨_, (), rfl, (sw_inj h).1, mw_end hP ht (sw_inj h).2⟩, hS.F ht⟩) hS.2.2 dX6_shown_59 hlocks
    · replace h := sw_f h cc
      refine lv_aload_n hx hb dX6_shown_36 rfl (lv_at hl 0 rfl) ?_
      refine lv_aload_n hx hb dX6_shown_37 rfl (lv_at hl 0 rfl) ?_
      refine mw_get hx hb hts hin hown hK hP 11 (by decide) f38 rfl dX6_shown_38 ?_
      refine lv_iload_n hx hb dX6_shown_41 rfl (lv_at hl 1 rfl) ?_
      obtain ⟨a42, ea42, ia42, h⟩ := swrd_s h
      refine mw_ald hx hb hK hP 11 6 rfl rfl ia42 dX6_shown_42 ea42 ?_
      obtain ⟨r43, er43, h⟩ := swbd_s h
      refine mw_calli (As := [.int a42]) (rest := []) E (mm_blocksOf l D cy ad u14 a42 _ er43) (cwV 1 hts gX6_shown_X6_blocksOf rfl rfl rfl (by decide +kernel) ⟨Nat.le_of_ble_eq_true rfl, Nat.le_of_ble_eq_true rfl⟩) hK hP rfl hl.1 rfl (Nat.le_of_ble_eq_true rfl) dX6_shown_43 ?_
      refine lv_if_le (tgt := 53) hx hb dX6_shown_46 (by decide) (fun cc => ?_) (fun cc => ?_)
      · replace h := sw_t h cc
        refine lv_aload_n hx hb dX6_shown_53 rfl (lv_at hl 0 rfl) ?_
        refine mw_get hx hb hts hin hown hK hP 11 (by decide) f38 rfl dX6_shown_54 ?_
        refine lv_iload_n hx hb dX6_shown_57 rfl (lv_at hl 1 rfl) ?_
        obtain ⟨a58, ea58, ia58, h⟩ := swrd_s h
        refine mw_ald hx hb hK hP 11 6 rfl rfl ia58 dX6_shown_58 ea58 ?_
        exact W.iret hx hb hr (fun t ht hW => ⟨⟨_, (), rfl, (sw_inj h).1, mw_end hP ht (sw_inj h).2⟩, hS.F ht⟩) hS.2.2 dX6_shown_59 hlocks
      · replace h := sw_f h cc
        refine lv_iconst (v := (-1)) hx hb dX6_shown_49 (by decide) ?_
        refine lv_goto (tgt := 59) hx hb dX6_shown_50 (by decide) ?_
        exact W.iret hx hb hr (fun t ht hW => ⟨⟨_, (), rfl, (sw_inj h).1, mw_end hP ht (sw_inj h).2⟩, hS.F ht⟩) hS.2.2 dX6_shown_59 hlocks

/-! pass -/
def mx_pass (u : swU) (x1 : Int32) : Option (Int32 × swU) :=
  swbd (mx_in x1 1 100) fun r5 => if (swB r5) = 0 then (swlt (swI u 0 0 1) fun u32 => some (0, u32)) else (if ((u.1 0 21) + x1) ≤ 999 then (swlt (swI u 0 0 0) fun u32 => swlt (swI u32 0 21 (((u32.1 0 21) + x1))) fun u51 => some ((u51.1 0 21), u51)) else (swlt (swI u 0 0 2) fun u32 => some (0, u32)))

abbrev rmX6_pass : Room := { frames := 1, cells := 0, slots := 0, locals := 22 }

set_option maxHeartbeats 4000000 in
set_option maxRecDepth 100000 in
theorem mm_pass (l : Launch) (D : va_G) (cy : Nat → ClassId) (ad : Nat → Nat) (hJ : swJ mw_N ad) (u : swU) (x1 : Int32) (r0 : Int32) (u0 : swU) (h : mx_pass u x1 = some (r0, u0)) : Met l yX6_pass wsX6_pass rmX6_pass (mwC D cy ad u [.ref (ad 0), .int x1]) (mwQi D cy ad r0 u0) 0 0 (mwA ad) := by
  refine Met.ofW (cc := cX6_pass) (maxL := 2) (ret := (some .int)) (by decide) rfl ?_
  intro p e s m args below meth c s₁ B hml hv
  obtain ⟨ha, hP, hK⟩ := hv
  have hx := B.exec
  have hb := B.bytes
  have hr := B.returns
  have hlocks := B.notSynchronized
  have hts := atoms_spec (ws := wsX6_pass) B.pre
  have hown : s.vm.findClass RX6 = some m.cls := findClass_of_methodNamed B.named
  have E : CallFix p m c cX6_pass 2 s args wsX6_pass RX6 := ⟨hx, hb, hml, hown, hts⟩
  have hin : ∀ w ∈ wsX60, w ∈ wsX6_pass := by decide +kernel
  have f164 : (Cond.fieldLink RX6 164 "SlidewardenModel" "today" "I").before args s = true := hts _ (by decide +kernel)
  have f78 : (Cond.fieldLink RX6 78 "SlidewardenModel" "thrown" "I").before args s = true := hts _ (by decide +kernel)
  have hS : va_S (mwA ad) s.heap s.heap [] := va_S.rf
  obtain ⟨ls, hl, hent⟩ := sw_entry m (n := 2) ha (Nat.le_of_ble_eq_true rfl)
  rw [hent]
  have hl : lv_has ls 2 [(0, .ref (ad 0)), (1, .int x1)] := hl
  unfold mx_pass at h
  refine lv_aload_n hx hb dX6_pass_0 rfl (lv_at hl 0 rfl) ?_
  refine lv_iload_n hx hb dX6_pass_1 rfl (lv_at hl 1 rfl) ?_
  refine lv_iconst (v := 1) hx hb dX6_pass_2 (by decide) ?_
  refine lv_bipush (v := 100) hx hb dX6_pass_3 (by decide) ?_
  obtain ⟨r5, er5, h⟩ := swbd_s h
  refine sw_callSi (As := [.int x1, .int 1, .int 100]) (rest := [.ref (ad 0)]) E (mm_in l x1 1 100 _ er5) (va_cwS 3 hts gX6_pass_X6_in rfl rfl rfl (by decide +kernel) ⟨Nat.le_of_ble_eq_true rfl, Nat.le_of_ble_eq_true rfl⟩) rfl hl.1 rfl (Nat.le_of_ble_eq_true rfl) dX6_pass_5 ?_
  refine lv_if_ne (tgt := 15) hx hb dX6_pass_8 (by decide) (fun cc => ?_) (fun cc => ?_)
  · replace h := sw_f h cc
    refine lv_aload_n hx hb dX6_pass_15 rfl (lv_at hl 0 rfl) ?_
    refine mw_get hx hb hts hin hown hK hP 21 (by decide) f164 rfl dX6_pass_16 ?_
    refine lv_iload_n hx hb dX6_pass_19 rfl (lv_at hl 1 rfl) ?_
    refine lv_iadd hx hb dX6_pass_20 ?_
    refine lv_sipush (v := 999) hx hb dX6_pass_21 (by decide) ?_
    refine lv_icmp_le (tgt := 31) hx hb dX6_pass_24 (by decide) (fun cc => ?_) (fun cc => ?_)
    · replace h := sw_t h cc
      refine lv_iconst (v := 0) hx hb dX6_pass_31 (by decide) ?_
      obtain ⟨u32, eu32, h⟩ := swlt_s h
      refine mw_put hx hb hts hin hown hK hJ hP hS 0 (by decide) rfl f78 eu32 dX6_pass_32 (fun H locs hP hS => ?_)
      refine lv_aload_n hx hb dX6_pass_35 rfl (lv_at hl 0 rfl) ?_
      refine mw_get hx hb hts hin hown hK hP 0 (by decide) f78 rfl dX6_pass_36 ?_
      refine sw_top (x := 0) (by rw [eu32]; rfl) ?_
      refine lv_if_le (tgt := 44) hx hb dX6_pass_39 (by decide) (fun cc => ?_) (fun cc => absurd (by decide) cc)
      refine lv_aload_n hx hb dX6_pass_44 rfl (lv_at hl 0 rfl) ?_
      refine lv_dup hx hb dX6_pass_45 rfl ?_
      refine mw_get hx hb hts hin hown hK hP 21 (by decide) f164 rfl dX6_pass_46 ?_
      refine lv_iload_n hx hb dX6_pass_49 rfl (lv_at hl 1 rfl) ?_
      refine lv_iadd hx hb dX6_pass_50 ?_
      obtain ⟨u51, eu51, h⟩ := swlt_s h
      refine mw_put hx hb hts hin hown hK hJ hP hS 21 (by decide) rfl f164 eu51 dX6_pass_51 (fun H locs hP hS => ?_)
      refine lv_aload_n hx hb dX6_pass_54 rfl (lv_at hl 0 rfl) ?_
      refine mw_get hx hb hts hin hown hK hP 21 (by decide) f164 rfl dX6_pass_55 ?_
      exact W.iret hx hb hr (fun t ht hW => ⟨⟨_, (), rfl, (sw_inj h).1, mw_end hP ht (sw_inj h).2⟩, hS.F ht⟩) hS.2.2 dX6_pass_58 hlocks
    · replace h := sw_f h cc
      refine lv_iconst (v := 2) hx hb dX6_pass_27 (by decide) ?_
      refine lv_goto (tgt := 32) hx hb dX6_pass_28 (by decide) ?_
      obtain ⟨u32, eu32, h⟩ := swlt_s h
      refine mw_put hx hb hts hin hown hK hJ hP hS 0 (by decide) rfl f78 eu32 dX6_pass_32 (fun H locs hP hS => ?_)
      refine lv_aload_n hx hb dX6_pass_35 rfl (lv_at hl 0 rfl) ?_
      refine mw_get hx hb hts hin hown hK hP 0 (by decide) f78 rfl dX6_pass_36 ?_
      refine sw_top (x := 2) (by rw [eu32]; rfl) ?_
      refine lv_if_le (tgt := 44) hx hb dX6_pass_39 (by decide) (fun cc => absurd cc (by decide)) (fun cc => ?_)
      refine lv_iconst (v := 0) hx hb dX6_pass_42 (by decide) ?_
      exact W.iret hx hb hr (fun t ht hW => ⟨⟨_, (), rfl, (sw_inj h).1, mw_end hP ht (sw_inj h).2⟩, hS.F ht⟩) hS.2.2 dX6_pass_43 hlocks
  · replace h := sw_t h cc
    refine lv_iconst (v := 1) hx hb dX6_pass_11 (by decide) ?_
    refine lv_goto (tgt := 32) hx hb dX6_pass_12 (by decide) ?_
    obtain ⟨u32, eu32, h⟩ := swlt_s h
    refine mw_put hx hb hts hin hown hK hJ hP hS 0 (by decide) rfl f78 eu32 dX6_pass_32 (fun H locs hP hS => ?_)
    refine lv_aload_n hx hb dX6_pass_35 rfl (lv_at hl 0 rfl) ?_
    refine mw_get hx hb hts hin hown hK hP 0 (by decide) f78 rfl dX6_pass_36 ?_
    refine sw_top (x := 1) (by rw [eu32]; rfl) ?_
    refine lv_if_le (tgt := 44) hx hb dX6_pass_39 (by decide) (fun cc => absurd cc (by decide)) (fun cc => ?_)
    refine lv_iconst (v := 0) hx hb dX6_pass_42 (by decide) ?_
    exact W.iret hx hb hr (fun t ht hW => ⟨⟨_, (), rfl, (sw_inj h).1, mw_end hP ht (sw_inj h).2⟩, hS.F ht⟩) hS.2.2 dX6_pass_43 hlocks
