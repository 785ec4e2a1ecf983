/-! X0.placeOf -/
def xx0_placeOf_L2 (u : swU) (cd : Nat) (x1 : Int32) (kk : Int32 → Option (Int32)) : Nat → Int32 → Option (Int32)
  | 0, _ => none
  | n + 1, v2 => if (u.1 cd 2) ≤ v2 then (kk v2) else (swrd 8 (u.1 (cd + 100)) v2 fun a15 => if a15 = x1 then (some v2) else (xx0_placeOf_L2 u cd x1 kk n (v2 + 1)))

def xx0_placeOf (u : swU) (cd : Nat) (x1 : Int32) : Option (Int32) :=
  xx0_placeOf_L2 u cd x1 (fun v2 => some (-1)) 64 0

abbrev rmX0_placeOf : Room := { frames := 0, cells := 0, slots := 0, locals := 0 }

set_option maxHeartbeats 4000000 in
set_option maxRecDepth 100000 in
theorem xm0_placeOf (l : Launch) (D : va_G) (cy : Nat → ClassId) (ad : Nat → Nat) (u : swU) (cd : Nat) (x1 : Int32) (hcd : xw_D cd) (r0 : Int32) (h : xx0_placeOf u cd x1 = some r0) : Met l yX0_placeOf wsX0_placeOf rmX0_placeOf (xwC D cy ad u [.ref (ad cd), .int x1]) (vp_Si (fun r : Int32 => r = r0)) 0 0 (fun _ => False) := by
  refine Met.ofW (cc := cX0_placeOf) (maxL := 3) (ret := (some .int)) (by decide) rfl ?_
  intro p e s m args below meth c s₁ B hml hv
  obtain ⟨ha, hP, hK⟩ := hv
  have hx := B.exec
  have hb := B.bytes
  have hr := B.returns
  have hlocks := B.notSynchronized
  have hts := atoms_spec (ws := wsX0_placeOf) B.pre
  have hown : s.vm.findClass RX0 = some m.cls := findClass_of_methodNamed B.named
  have hin0 : ∀ w ∈ wsX00, w ∈ wsX0_placeOf := by decide +kernel
  have f18 : (Cond.fieldLink RX0 18 "Slidewarden$Deck" "size" "I").before args s = true := hts _ (by decide +kernel)
  have f9 : (Cond.fieldLink RX0 9 "Slidewarden$Deck" "slides" "[I").before args s = true := hts _ (by decide +kernel)
  obtain ⟨ls, hl, hent⟩ := sw_entry m (n := 3) ha (Nat.le_of_ble_eq_true rfl)
  rw [hent]
  have hl : lv_has ls 3 [(0, .ref (ad cd)), (1, .int x1)] := hl
  unfold xx0_placeOf at h
  refine lv_iconst (v := 0) hx hb dX0_placeOf_0 (by decide) ?_
  refine lv_istore_n (lv' := [(2, .int 0), (0, .ref (ad cd)), (1, .int x1)]) hx hb dX0_placeOf_1 rfl hl (by decide) rfl (fun ls hl => ?_)
  have L2 : ∀ (kk : Int32 → Option (Int32)), (∀ (v2 : Int32) (ls : Array Slot), kk v2 = some r0 → lv_has ls 3 [(0, .ref (ad cd)), (1, .int x1), (2, .int v2)] → W p l e (headSpec wsX0_placeOf rmX0_placeOf).room s m args below meth c s.heap [] 0 0 (MQ below (vp_Si (fun r : Int32 => r = r0)) args s 0 0 (fun _ => False)) (F0 m 28 ls [])) → ∀ (n : Nat) (v2 : Int32) (ls : Array Slot), xx0_placeOf_L2 u cd x1 kk n v2 = some r0 → lv_has ls 3 [(0, .ref (ad cd)), (1, .int x1), (2, .int v2)] → W p l e (headSpec wsX0_placeOf rmX0_placeOf).room s m args below meth c s.heap [] 0 0 (MQ below (vp_Si (fun r : Int32 => r = r0)) args s 0 0 (fun _ => False)) (F0 m 2 ls []) := by
    intro kk hk2 n
    induction n with
    | zero => intro v2 ls h hl; rw [xx0_placeOf_L2] at h; cases h
    | succ n ih2 =>
      intro v2 ls h hl
      rw [xx0_placeOf_L2] at h
      refine lv_iload_n hx hb dX0_placeOf_2 rfl (lv_at hl 2 rfl) ?_
      refine lv_aload_n hx hb dX0_placeOf_3 rfl (lv_at hl 0 rfl) ?_
      refine xw_getD hx hb hts hin0 hown hK hP hcd 2 (by decide) f18 rfl dX0_placeOf_4 ?_
      refine lv_icmp_ge (tgt := 28) hx hb dX0_placeOf_7 (by decide) (fun cc => ?_) (fun cc => ?_)
      · replace h := sw_t h cc
        exact hk2 _ _ h (lv_sub hl [0, 1, 2] rfl)
      · replace h := sw_f h cc
        refine lv_aload_n hx hb dX0_placeOf_10 rfl (lv_at hl 0 rfl) ?_
        refine xw_getD hx hb hts hin0 hown hK hP hcd 0 (by decide) f9 rfl dX0_placeOf_11 ?_
        refine lv_iload_n hx hb dX0_placeOf_14 rfl (lv_at hl 2 rfl) ?_
        obtain ⟨a15, ea15, ia15, h⟩ := swrd_s h
        refine xw_ald hx hb hK hP (xw_NS hcd) (xw_celS hcd) ia15 dX0_placeOf_15 ea15 ?_
        refine lv_iload_n hx hb dX0_placeOf_16 rfl (lv_at hl 1 rfl) ?_
        refine lv_icmp_ne (tgt := 22) hx hb dX0_placeOf_17 (by decide) (fun cc => ?_) (fun cc => ?_)
        · replace h := sw_f h cc
          refine lv_iinc (v := (v2 + 1)) (lv' := [(2, .int (v2 + 1)), (0, .ref (ad cd)), (1, .int x1)]) hx hb dX0_placeOf_22 hl (k := 2) rfl rfl (by decide) rfl (fun ls hl => ?_)
          refine lv_goto (tgt := 2) hx hb dX0_placeOf_25 (by decide) ?_
          exact ih2 _ _ h (lv_sub hl [1, 2, 0] rfl)
        · replace h := sw_t h cc
          refine lv_iload_n hx hb dX0_placeOf_20 rfl (lv_at hl 2 rfl) ?_
          exact W.iret hx hb hr (fun t ht hW => ⟨_, rfl, sw_in1 h, ht⟩) (fun q hq => by cases hq) dX0_placeOf_21 hlocks
  refine L2 _ (fun v2 ls h hl => ?_) 64 _ _ h (lv_sub hl [1, 2, 0] rfl)
  refine lv_iconst (v := (-1)) hx hb dX0_placeOf_28 (by decide) ?_
  exact W.iret hx hb hr (fun t ht hW => ⟨_, rfl, sw_in1 h, ht⟩) (fun q hq => by cases hq) dX0_placeOf_29 hlocks

/-! X0.has -/
def xx0_has (u : swU) (cd : Nat) (x1 : Int32) : Option (Bool) :=
  swbd (xx0_placeOf u cd x1) fun r2 => if r2 = (-1) then (some false) else (some true)

abbrev rmX0_has : Room := { frames := 1, cells := 0, slots := 0, locals := 22 }

set_option maxHeartbeats 4000000 in
set_option maxRecDepth 100000 in
theorem xm0_has (l : Launch) (D : va_G) (cy : Nat → ClassId) (ad : Nat → Nat) (u : swU) (cd : Nat) (x1 : Int32) (hcd : xw_D cd) (r0 : Bool) (h : xx0_has u cd x1 = some r0) : Met l yX0_has wsX0_has rmX0_has (xwC D cy ad u [.ref (ad cd), .int x1]) (vp_Si (fun r : Int32 => r = swB r0)) 0 0 (fun _ => False) := by
  refine Met.ofW (cc := cX0_has) (maxL := 2) (ret := (some .boolean)) (by decide) rfl ?_
  intro p e s m args below meth c s₁ B hml hv
  obtain ⟨ha, hP, hK⟩ := hv
  have hx := B.exec
  have hb := B.bytes
  have hr := B.returns
  have hlocks := B.notSynchronized
  have hts := atoms_spec (ws := wsX0_has) B.pre
  have hown : s.vm.findClass RX0 = some m.cls := findClass_of_methodNamed B.named
  have E : CallFix p m c cX0_has 2 s args wsX0_has RX0 := ⟨hx, hb, hml, hown, hts⟩
  obtain ⟨ls, hl, hent⟩ := sw_entry m (n := 2) ha (Nat.le_of_ble_eq_true rfl)
  rw [hent]
  have hl : lv_has ls 2 [(0, .ref (ad cd)), (1, .int x1)] := hl
  unfold xx0_has at h
  refine lv_aload_n hx hb dX0_has_0 rfl (lv_at hl 0 rfl) ?_
  refine lv_iload_n hx hb dX0_has_1 rfl (lv_at hl 1 rfl) ?_
  obtain ⟨r2, er2, h⟩ := swbd_s h
  refine xw_calli (As := [.int x1]) (rest := []) E (xm0_placeOf l D cy ad u cd x1 hcd _ er2) (cwV 1 hts gX0_has_X0_placeOf rfl rfl rfl (by decide +kernel) ⟨Nat.le_of_ble_eq_true rfl, Nat.le_of_ble_eq_true rfl⟩) hK hP (xw_rD hK hP hcd) ⟨Nat.le_of_ble_eq_true rfl, Nat.le_of_ble_eq_true rfl⟩ rfl hl.1 rfl (Nat.le_of_ble_eq_true rfl) dX0_has_2 ?_
  refine lv_iconst (v := (-1)) hx hb dX0_has_5 (by decide) ?_
  refine lv_icmp_eq (tgt := 13) hx hb dX0_has_6 (by decide) (fun cc => ?_) (fun cc => ?_)
  · replace h := sw_t h cc
    refine lv_iconst (v := 0) hx hb dX0_has_13 (by decide) ?_
    exact W.zret (ty := .boolean) hx hb hr rfl (fun t ht hW => ⟨_, rfl, congrArg swB (sw_in1 h), ht⟩) (fun q hq => by cases hq) dX0_has_14 hlocks
  · replace h := sw_f h cc
    refine lv_iconst (v := 1) hx hb dX0_has_9 (by decide) ?_
    refine lv_goto (tgt := 14) hx hb dX0_has_10 (by decide) ?_
    exact W.zret (ty := .boolean) hx hb hr rfl (fun t ht hW => ⟨_, rfl, congrArg swB (sw_in1 h), ht⟩) (fun q hq => by cases hq) dX0_has_14 hlocks

/-! X0.valueAt -/
def xx0_valueAt (u : swU) (cd : Nat) (x1 : Int32) (x2 : Int32) : Option (Int32) :=
  swrd 32 (u.1 (cd + 200)) (((x1 * 4) + x2)) fun a9 => some a9

abbrev rmX0_valueAt : Room := { frames := 0, cells := 0, slots := 0, locals := 0 }

set_option maxHeartbeats 4000000 in
set_option maxRecDepth 100000 in
theorem xm0_valueAt (l : Launch) (D : va_G) (cy : Nat → ClassId) (ad : Nat → Nat) (u : swU) (cd : Nat) (x1 : Int32) (x2 : Int32) (hcd : xw_D cd) (r0 : Int32) (h : xx0_valueAt u cd x1 x2 = some r0) : Met l yX0_valueAt wsX0_valueAt rmX0_valueAt (xwC D cy ad u [.ref (ad cd), .int x1, .int x2]) (vp_Si (fun r : Int32 => r = r0)) 0 0 (fun _ => False) := by
  refine Met.ofW (cc := cX0_valueAt) (maxL := 3) (ret := (some .int)) (by decide) rfl ?_
  intro p e s m args below meth c s₁ B hml hv
  obtain ⟨ha, hP, hK⟩ := hv
  have hx := B.exec
  have hb := B.bytes
  have hr := B.returns
  have hlocks := B.notSynchronized
  have hts := atoms_spec (ws := wsX0_valueAt) B.pre
  have hown : s.vm.findClass RX0 = some m.cls := findClass_of_methodNamed B.named
  have hin0 : ∀ w ∈ wsX00, w ∈ wsX0_valueAt := by decide +kernel
  have f15 : (Cond.fieldLink RX0 15 "Slidewarden$Deck" "values" "[I").before args s = true := hts _ (by decide +kernel)
  obtain ⟨ls, hl, hent⟩ := sw_entry m (n := 3) ha (Nat.le_of_ble_eq_true rfl)
  rw [hent]
  have hl : lv_has ls 3 [(0, .ref (ad cd)), (1, .int x1), (2, .int x2)] := hl
  unfold xx0_valueAt at h
  refine lv_aload_n hx hb dX0_valueAt_0 rfl (lv_at hl 0 rfl) ?_
  refine xw_getD hx hb hts hin0 hown hK hP hcd 1 (by decide) f15 rfl dX0_valueAt_1 ?_
  refine lv_iload_n hx hb dX0_valueAt_4 rfl (lv_at hl 1 rfl) ?_
  refine lv_iconst (v := 4) hx hb dX0_valueAt_5 (by decide) ?_
  refine lv_imul hx hb dX0_valueAt_6 ?_
  refine lv_iload_n hx hb dX0_valueAt_7 rfl (lv_at hl 2 rfl) ?_
  refine lv_iadd hx hb dX0_valueAt_8 ?_
  obtain ⟨a9, ea9, ia9, h⟩ := swrd_s h
  refine xw_ald hx hb hK hP (xw_NL hcd) (xw_celL hcd) ia9 dX0_valueAt_9 ea9 ?_
  exact W.iret hx hb hr (fun t ht hW => ⟨_, rfl, sw_in1 h, ht⟩) (fun q hq => by cases hq) dX0_valueAt_10 hlocks

/-! X0.valueOf -/
def xx0_valueOf (u : swU) (cd : Nat) (x1 : Int32) (x2 : Int32) : Option (Int32) :=
  swbd (xx0_placeOf u cd x1) fun r2 => if r2 = (-1) then (some (-1)) else (swbd (xx0_valueAt u cd r2 x2) fun r18 => some r18)

abbrev rmX0_valueOf : Room := { frames := 1, cells := 0, slots := 0, locals := 22 }

set_option maxHeartbeats 4000000 in
set_option maxRecDepth 100000 in
theorem xm0_valueOf (l : Launch) (D : va_G) (cy : Nat → ClassId) (ad : Nat → Nat) (u : swU) (cd : Nat) (x1 : Int32) (x2 : Int32) (hcd : xw_D cd) (r0 : Int32) (h : xx0_valueOf u cd x1 x2 = some r0) : Met l yX0_valueOf wsX0_valueOf rmX0_valueOf (xwC D cy ad u [.ref (ad cd), .int x1, .int x2]) (vp_Si (fun r : Int32 => r = r0)) 0 0 (fun _ => False) := by
  refine Met.ofW (cc := cX0_valueOf) (maxL := 4) (ret := (some .int)) (by decide) rfl ?_
  intro p e s m args below meth c s₁ B hml hv
  obtain ⟨ha, hP, hK⟩ := hv
  have hx := B.exec
  have hb := B.bytes
  have hr := B.returns
  have hlocks := B.notSynchronized
  have hts := atoms_spec (ws := wsX0_valueOf) B.pre
  have hown : s.vm.findClass RX0 = some m.cls := findClass_of_methodNamed B.named
  have E : CallFix p m c cX0_valueOf 4 s args wsX0_valueOf RX0 := ⟨hx, hb, hml, hown, hts⟩
  obtain ⟨ls, hl, hent⟩ := sw_entry m (n := 4) ha (Nat.le_of_ble_eq_true rfl)
  rw [hent]
  have hl : lv_has ls 4 [(0, .ref (ad cd)), (1, .int x1), (2, .int x2)] := hl
  unfold xx0_valueOf at h
  refine lv_aload_n hx hb dX0_valueOf_0 rfl (lv_at hl 0 rfl) ?_
  refine lv_iload_n hx hb dX0_valueOf_1 rfl (lv_at hl 1 rfl) ?_
  obtain ⟨r2, er2, h⟩ := swbd_s h
  refine xw_calli (As := [.int x1]) (rest := []) E (xm0_placeOf l D cy ad u cd x1 hcd _ er2) (cwV 1 hts gX0_valueOf_X0_placeOf rfl rfl rfl (by decide +kernel) ⟨Nat.le_of_ble_eq_true rfl, Nat.le_of_ble_eq_true rfl⟩) hK hP (xw_rD hK hP hcd) ⟨Nat.le_of_ble_eq_true rfl, Nat.le_of_ble_eq_true rfl⟩ rfl hl.1 rfl (Nat.le_of_ble_eq_true rfl) dX0_valueOf_2 ?_
  refine lv_istore_n (lv' := [(3, .int r2), (0, .ref (ad cd)), (1, .int x1), (2, .int x2)]) hx hb dX0_valueOf_5 rfl hl (by decide) rfl (fun ls hl => ?_)
  refine lv_iload_n hx hb dX0_valueOf_6 rfl (lv_at hl 0 rfl) ?_
  refine lv_iconst (v := (-1)) hx hb dX0_valueOf_7 (by decide) ?_
  refine lv_icmp_ne (tgt := 15) hx hb dX0_valueOf_8 (by decide) (fun cc => ?_) (fun cc => ?_)
  · replace h := sw_f h cc
    refine lv_aload_n hx hb dX0_valueOf_15 rfl (lv_at hl 1 rfl) ?_
    refine lv_iload_n hx hb dX0_valueOf_16 rfl (lv_at hl 0 rfl) ?_
    refine lv_iload_n hx hb dX0_valueOf_17 rfl (lv_at hl 3 rfl) ?_
    obtain ⟨r18, er18, h⟩ := swbd_s h
    refine xw_calli (As := [.int r2, .int x2]) (rest := []) E (xm0_valueAt l D cy ad u cd r2 x2 hcd _ er18) (cwV 2 hts gX0_valueOf_X0_valueAt rfl rfl rfl (by decide +kernel) ⟨Nat.le_of_ble_eq_true rfl, Nat.le_of_ble_eq_true rfl⟩) hK hP (xw_rD hK hP hcd) ⟨Nat.le_of_ble_eq_true rfl, Nat.le_of_ble_eq_true rfl⟩ rfl hl.1 rfl (Nat.le_of_ble_eq_true rfl) dX0_valueOf_18 ?_
    exact W.iret hx hb hr (fun t ht hW => ⟨_, rfl, sw_in1 h, ht⟩) (fun q hq => by cases hq) dX0_valueOf_21 hlocks
  · replace h := sw_t h cc
    refine lv_iconst (v := (-1)) hx hb dX0_valueOf_11 (by decide) ?_
    refine lv_goto (tgt := 21) hx hb dX0_valueOf_12 (by decide) ?_
    exact W.iret hx hb hr (fun t ht hW => ⟨_, rfl, sw_in1 h, ht⟩) (fun q hq => by cases hq) dX0_valueOf_21 hlocks

/-! X0.isAlike -/
def xx0_isAlike_L29 (u : swU) (cd : Nat) (d1 : Nat) (r2 : Int32) (r8 : Int32) (kk : Int32 → Option (Bool)) : Nat → Int32 → Option (Bool)
  | 0, _ => none
  | n + 1, v5 => if 4 ≤ v5 then (kk v5) else (swbd (xx0_valueAt u cd r2 v5) fun r39 => swbd (xx0_valueAt u d1 r8 v5) fun r47 => if r39 = r47 then (xx0_isAlike_L29 u cd d1 r2 r8 kk n (v5 + 1)) else (some false))

def xx0_isAlike (u : swU) (cd : Nat) (d1 : Nat) (x2 : Int32) : Option (Bool) :=
  swbd (xx0_placeOf u cd x2) fun r2 => swbd (xx0_placeOf u d1 x2) fun r8 => if r2 = (-1) then (some false) else (if r8 = (-1) then (some false) else (xx0_isAlike_L29 u cd d1 r2 r8 (fun v5 => some true) 64 0))

abbrev rmX0_isAlike : Room := { frames := 1, cells := 0, slots := 0, locals := 22 }

set_option maxHeartbeats 4000000 in
set_option maxRecDepth 100000 in
theorem xm0_isAlike (l : Launch) (D : va_G) (cy : Nat → ClassId) (ad : Nat → Nat) (u : swU) (cd : Nat) (d1 : Nat) (x2 : Int32) (hcd : xw_D cd) (hd1 : xw_D d1) (r0 : Bool) (h : xx0_isAlike u cd d1 x2 = some r0) : Met l yX0_isAlike wsX0_isAlike rmX0_isAlike (xwC D cy ad u [.ref (ad cd), .ref (ad d1), .int x2]) (vp_Si (fun r : Int32 => r = swB r0)) 0 0 (fun _ => False) := by
  refine Met.ofW (cc := cX0_isAlike) (maxL := 6) (ret := (some .boolean)) (by decide) rfl ?_
  intro p e s m args below meth c s₁ B hml hv
  obtain ⟨ha, hP, hK⟩ := hv
  have hx := B.exec
  have hb := B.bytes
  have hr := B.returns
  have hlocks := B.notSynchronized
  have hts := atoms_spec (ws := wsX0_isAlike) B.pre
  have hown : s.vm.findClass RX0 = some m.cls := findClass_of_methodNamed B.named
  have E : CallFix p m c cX0_isAlike 6 s args wsX0_isAlike RX0 := ⟨hx, hb, hml, hown, hts⟩
  obtain ⟨ls, hl, hent⟩ := sw_entry m (n := 6) ha (Nat.le_of_ble_eq_true rfl)
  rw [hent]
  have hl : lv_has ls 6 [(0, .ref (ad cd)), (1, .ref (ad d1)), (2, .int x2)] := hl
  unfold xx0_isAlike at h
  refine lv_aload_n hx hb dX0_isAlike_0 rfl (lv_at hl 0 rfl) ?_
  refine lv_iload_n hx hb dX0_isAlike_1 rfl (lv_at hl 2 rfl) ?_
  obtain ⟨r2, er2, h⟩ := swbd_s h
  refine xw_calli (As := [.int x2]) (rest := []) E (xm0_placeOf l D cy ad u cd x2 hcd _ er2) (cwV 1 hts gX0_isAlike_X0_placeOf rfl rfl rfl (by decide +kernel) ⟨Nat.le_of_ble_eq_true rfl, Nat.le_of_ble_eq_true rfl⟩) hK hP (xw_rD hK hP hcd) ⟨Nat.le_of_ble_eq_true rfl, Nat.le_of_ble_eq_true rfl⟩ rfl hl.1 rfl (Nat.le_of_ble_eq_true rfl) dX0_isAlike_2 ?_
  refine lv_istore_n (lv' := [(3, .int r2), (0, .ref (ad cd)), (1, .ref (ad d1)), (2, .int x2)]) hx hb dX0_isAlike_5 rfl hl (by decide) rfl (fun ls hl => ?_)
  refine lv_aload_n hx hb dX0_isAlike_6 rfl (lv_at hl 2 rfl) ?_
  refine lv_iload_n hx hb dX0_isAlike_7 rfl (lv_at hl 3 rfl) ?_
  obtain ⟨r8, er8, h⟩ := swbd_s h
  refine xw_calli (As := [.int x2]) (rest := []) E (xm0_placeOf l D cy ad u d1 x2 hd1 _ er8) (cwV 1 hts gX0_isAlike_X0_placeOf rfl rfl rfl (by decide +kernel) ⟨Nat.le_of_ble_eq_true rfl, Nat.le_of_ble_eq_true rfl⟩) hK hP (xw_rD hK hP hd1) ⟨Nat.le_of_ble_eq_true rfl, Nat.le_of_ble_eq_true rfl⟩ rfl hl.1 rfl (Nat.le_of_ble_eq_true rfl) dX0_isAlike_8 ?_
  refine lv_istore (lv' := [(4, .int r8), (3, .int r2), (0, .ref (ad cd)), (1, .ref (ad d1)), (2, .int x2)]) hx hb dX0_isAlike_11 hl (by decide) rfl (fun ls hl => ?_)
  refine lv_iload_n hx hb dX0_isAlike_13 rfl (lv_at hl 1 rfl) ?_
  refine lv_iconst (v := (-1)) hx hb dX0_isAlike_14 (by decide) ?_
  refine lv_icmp_eq (tgt := 24) hx hb dX0_isAlike_15 (by decide) (fun cc => ?_) (fun cc => ?_)
  · replace h := sw_t h cc
    refine lv_iconst (v := 0) hx hb dX0_isAlike_24 (by decide) ?_
    exact W.zret (ty := .boolean) hx hb hr rfl (fun t ht hW => ⟨_, rfl, congrArg swB (sw_in1 h), ht⟩) (fun q hq => by cases hq) dX0_isAlike_25 hlocks
  · replace h := sw_f h cc
    refine lv_iload hx hb dX0_isAlike_18 (lv_at hl 0 rfl) ?_
    refine lv_iconst (v := (-1)) hx hb dX0_isAlike_20 (by decide) ?_
    refine lv_icmp_ne (tgt := 26) hx hb dX0_isAlike_21 (by decide) (fun cc => ?_) (fun cc => ?_)
    · replace h := sw_f h cc
      refine lv_iconst (v := 0) hx hb dX0_isAlike_26 (by decide) ?_
      refine lv_istore (lv' := [(5, .int 0), (4, .int r8), (3, .int r2), (0, .ref (ad cd)), (1, .ref (ad d1)), (2, .int x2)]) hx hb dX0_isAlike_27 hl (by decide) rfl (fun ls hl => ?_)
      have L29 : ∀ (kk : Int32 → Option (Bool)), (∀ (v5 : Int32) (ls : Array Slot), kk v5 = some r0 → lv_has ls 6 [(0, .ref (ad cd)), (1, .ref (ad d1)), (2, .int x2), (3, .int r2), (4, .int r8), (5, .int v5)] → W p l e (headSpec wsX0_isAlike rmX0_isAlike).room s m args below meth c s.heap [] 0 0 (MQ below (vp_Si (fun r : Int32 => r = swB r0)) args s 0 0 (fun _ => False)) (F0 m 61 ls [])) → ∀ (n : Nat) (v5 : Int32) (ls : Array Slot), xx0_isAlike_L29 u cd d1 r2 r8 kk n v5 = some r0 → lv_has ls 6 [(0, .ref (ad cd)), (1, .ref (ad d1)), (2, .int x2), (3, .int r2), (4, .int r8), (5, .int v5)] → W p l e (headSpec wsX0_isAlike rmX0_isAlike).room s m args below meth c s.heap [] 0 0 (MQ below (vp_Si (fun r : Int32 => r = swB r0)) args s 0 0 (fun _ => False)) (F0 m 29 ls []) := by
        intro kk hk29 n
        induction n with
        | zero => intro v5 ls h hl; rw [xx0_isAlike_L29] at h; cases h
        | succ n ih29 =>
          intro v5 ls h hl
          rw [xx0_isAlike_L29] at h
          refine lv_iload hx hb dX0_isAlike_29 (lv_at hl 5 rfl) ?_
          refine lv_iconst (v := 4) hx hb dX0_isAlike_31 (by decide) ?_
          refine lv_icmp_ge (tgt := 61) hx hb dX0_isAlike_32 (by decide) (fun cc => ?_) (fun cc => ?_)
          · replace h := sw_t h cc
            exact hk29 _ _ h (lv_sub hl [0, 1, 2, 3, 4, 5] rfl)
          · replace h := sw_f h cc
            refine lv_aload_n hx hb dX0_isAlike_35 rfl (lv_at hl 0 rfl) ?_
            refine lv_iload_n hx hb dX0_isAlike_36 rfl (lv_at hl 3 rfl) ?_
            refine lv_iload hx hb dX0_isAlike_37 (lv_at hl 5 rfl) ?_
            obtain ⟨r39, er39, h⟩ := swbd_s h
            refine xw_calli (As := [.int r2, .int v5]) (rest := []) E (xm0_valueAt l D cy ad u cd r2 v5 hcd _ er39) (cwV 2 hts gX0_isAlike_X0_valueAt rfl rfl rfl (by decide +kernel) ⟨Nat.le_of_ble_eq_true rfl, Nat.le_of_ble_eq_true rfl⟩) hK hP (xw_rD hK hP hcd) ⟨Nat.le_of_ble_eq_true rfl, Nat.le_of_ble_eq_true rfl⟩ rfl hl.1 rfl (Nat.le_of_ble_eq_true rfl) dX0_isAlike_39 ?_
            refine lv_aload_n hx hb dX0_isAlike_42 rfl (lv_at hl 1 rfl) ?_
            refine lv_iload hx hb dX0_isAlike_43 (lv_at hl 4 rfl) ?_
            refine lv_iload hx hb dX0_isAlike_45 (lv_at hl 5 rfl) ?_
            obtain ⟨r47, er47, h⟩ := swbd_s h
            refine xw_calli (As := [.int r8, .int v5]) (rest := [.int r39]) E (xm0_valueAt l D cy ad u d1 r8 v5 hd1 _ er47) (cwV 2 hts gX0_isAlike_X0_valueAt rfl rfl rfl (by decide +kernel) ⟨Nat.le_of_ble_eq_true rfl, Nat.le_of_ble_eq_true rfl⟩) hK hP (xw_rD hK hP hd1) ⟨Nat.le_of_ble_eq_true rfl, Nat.le_of_ble_eq_true rfl⟩ rfl hl.1 rfl (Nat.le_of_ble_eq_true rfl) dX0_isAlike_47 ?_
            refine lv_icmp_eq (tgt := 55) hx hb dX0_isAlike_50 (by decide) (fun cc => ?_) (fun cc => ?_)
            · replace h := sw_t h cc
              refine lv_iinc (v := (v5 + 1)) (lv' := [(5, .int (v5 + 1)), (0, .ref (ad cd)), (1, .ref (ad d1)), (2, .int x2), (3, .int r2), (4, .int r8)]) hx hb dX0_isAlike_55 hl (k := 5) rfl rfl (by decide) rfl (fun ls hl => ?_)
              refine lv_goto (tgt := 29) hx hb dX0_isAlike_58 (by decide) ?_
              exact ih29 _ _ h (lv_sub hl [1, 2, 3, 4, 5, 0] rfl)
            · replace h := sw_f h cc
              refine lv_iconst (v := 0) hx hb dX0_isAlike_53 (by decide) ?_
              exact W.zret (ty := .boolean) hx hb hr rfl (fun t ht hW => ⟨_, rfl, congrArg swB (sw_in1 h), ht⟩) (fun q hq => by cases hq) dX0_isAlike_54 hlocks
      refine L29 _ (fun v5 ls h hl => ?_) 64 _ _ h (lv_sub hl [3, 4, 5, 2, 1, 0] rfl)
      refine lv_iconst (v := 1) hx hb dX0_isAlike_61 (by decide) ?_
      exact W.zret (ty := .boolean) hx hb hr rfl (fun t ht hW => ⟨_, rfl, congrArg swB (sw_in1 h), ht⟩) (fun q hq => by cases hq) dX0_isAlike_62 hlocks
    · replace h := sw_t h cc
      refine lv_iconst (v := 0) hx hb dX0_isAlike_24 (by decide) ?_
      exact W.zret (ty := .boolean) hx hb hr rfl (fun t ht hW => ⟨_, rfl, congrArg swB (sw_in1 h), ht⟩) (fun q hq => by cases hq) dX0_isAlike_25 hlocks

/-! X0.put -/
def xx0_put (u : swU) (cd : Nat) (x1 : Int32) (x2 : Int32) (x3 : Int32) : Option (swU) :=
  swgd (swix (((x1 * 4) + x2)) 32) <| swlt (swI u (cd + 200) (((x1 * 4) + x2)).toNatClampNeg x3) fun u10 => some u10

abbrev rmX0_put : Room := { frames := 0, cells := 0, slots := 0, locals := 0 }

set_option maxHeartbeats 4000000 in
set_option maxRecDepth 100000 in
theorem xm0_put (l : Launch) (D : va_G) (cy : Nat → ClassId) (ad : Nat → Nat) (hJ : swJ xw_N ad) (u : swU) (cd : Nat) (x1 : Int32) (x2 : Int32) (x3 : Int32) (hcd : xw_D cd) (u0 : swU) (h : xx0_put u cd x1 x2 x3 = some u0) : Met l yX0_put wsX0_put rmX0_put (xwC D cy ad u [.ref (ad cd), .int x1, .int x2, .int x3]) (xwQv D cy ad u0) 0 0 (xwA0 ad) := by
  refine Met.ofW (cc := cX0_put) (maxL := 4) (ret := none) (by decide) rfl ?_
  intro p e s m args below meth c s₁ B hml hv
  obtain ⟨ha, hP, hK⟩ := hv
  have hx := B.exec
  have hb := B.bytes
  have hr := B.returns
  have hlocks := B.notSynchronized
  have hts := atoms_spec (ws := wsX0_put) B.pre
  have hown : s.vm.findClass RX0 = some m.cls := findClass_of_methodNamed B.named
  have hin0 : ∀ w ∈ wsX00, w ∈ wsX0_put := by decide +kernel
  have f15 : (Cond.fieldLink RX0 15 "Slidewarden$Deck" "values" "[I").before args s = true := hts _ (by decide +kernel)
  have hS : va_S (xwA0 ad) s.heap s.heap [] := va_S.rf
  obtain ⟨ls, hl, hent⟩ := sw_entry m (n := 4) ha (Nat.le_of_ble_eq_true rfl)
  rw [hent]
  have hl : lv_has ls 4 [(0, .ref (ad cd)), (1, .int x1), (2, .int x2), (3, .int x3)] := hl
  unfold xx0_put at h
  refine lv_aload_n hx hb dX0_put_0 rfl (lv_at hl 0 rfl) ?_
  refine xw_getD hx hb hts hin0 hown hK hP hcd 1 (by decide) f15 rfl dX0_put_1 ?_
  refine lv_iload_n hx hb dX0_put_4 rfl (lv_at hl 1 rfl) ?_
  refine lv_iconst (v := 4) hx hb dX0_put_5 (by decide) ?_
  refine lv_imul hx hb dX0_put_6 ?_
  refine lv_iload_n hx hb dX0_put_7 rfl (lv_at hl 2 rfl) ?_
  refine lv_iadd hx hb dX0_put_8 ?_
  refine lv_iload_n hx hb dX0_put_9 rfl (lv_at hl 3 rfl) ?_
  obtain ⟨iu10, h⟩ := swgd_s h
  obtain ⟨u10, eu10, h⟩ := swlt_s h
  refine xw_ast hx hb hK hJ xw_A0 hP hS (xw_NL hcd) (fun _ => xw_clL hcd) (swix_s iu10) eu10 dX0_put_10 (fun H locs hP hS => ?_)
  exact W.vret hx hb hr (fun t ht hW => ⟨⟨(), rfl, trivial, xw_end hP ht (sw_in1 h)⟩, hS.F ht⟩) hS.2.2 dX0_put_11 hlocks

/-! X0.move -/
def xx0_move_L14 (cd : Nat) (x1 : Int32) (x2 : Int32) (kk : Int32 → swU → Option (swU)) : Nat → Int32 → swU → Option (swU)
  | 0, _, _ => none
  | n + 1, v3, w14 => if 4 ≤ v3 then (kk v3 w14) else (swbd (xx0_valueAt w14 cd x1 v3) fun r25 => swbd (xx0_put w14 cd x2 v3 r25) fun u28 => xx0_move_L14 cd x1 x2 kk n (v3 + 1) u28)

def xx0_move (u : swU) (cd : Nat) (x1 : Int32) (x2 : Int32) : Option (swU) :=
  swrd 8 (u.1 (cd + 100)) x1 fun a10 => swgd (swix x2 8) <| swlt (swI u (cd + 100) x2.toNatClampNeg a10) fun u11 => xx0_move_L14 cd x1 x2 (fun v3 w37 => some w37) 64 0 u11

abbrev rmX0_move : Room := { frames := 1, cells := 0, slots := 0, locals := 23 }

set_option maxHeartbeats 4000000 in
set_option maxRecDepth 100000 in
theorem xm0_move (l : Launch) (D : va_G) (cy : Nat → ClassId) (ad : Nat → Nat) (hJ : swJ xw_N ad) (u : swU) (cd : Nat) (x1 : Int32) (x2 : Int32) (hcd : xw_D cd) (u0 : swU) (h : xx0_move u cd x1 x2 = some u0) : Met l yX0_move wsX0_move rmX0_move (xwC D cy ad u [.ref (ad cd), .int x1, .int x2]) (xwQv D cy ad u0) 0 0 (xwA0 ad) := by
  refine Met.ofW (cc := cX0_move) (maxL := 4) (ret := none) (by decide) rfl ?_
  intro p e s m args below meth c s₁ B hml hv
  obtain ⟨ha, hP, hK⟩ := hv
  have hx := B.exec
  have hb := B.bytes
  have hr := B.returns
  have hlocks := B.notSynchronized
  have hts := atoms_spec (ws := wsX0_move) B.pre
  have hown : s.vm.findClass RX0 = some m.cls := findClass_of_methodNamed B.named
  have E : CallFix p m c cX0_move 4 s args wsX0_move RX0 := ⟨hx, hb, hml, hown, hts⟩
  have hin0 : ∀ w ∈ wsX00, w ∈ wsX0_move := by decide +kernel
  have f9 : (Cond.fieldLink RX0 9 "Slidewarden$Deck" "slides" "[I").before args s = true := hts _ (by decide +kernel)
  have hS : va_S (xwA0 ad) s.heap s.heap [] := va_S.rf
  obtain ⟨ls, hl, hent⟩ := sw_entry m (n := 4) ha (Nat.le_of_ble_eq_true rfl)
  rw [hent]
  have hl : lv_has ls 4 [(0, .ref (ad cd)), (1, .int x1), (2, .int x2)] := hl
  unfold xx0_move at h
  refine lv_aload_n hx hb dX0_move_0 rfl (lv_at hl 0 rfl) ?_
  refine xw_getD hx hb hts hin0 hown hK hP hcd 0 (by decide) f9 rfl dX0_move_1 ?_
  refine lv_iload_n hx hb dX0_move_4 rfl (lv_at hl 2 rfl) ?_
  refine lv_aload_n hx hb dX0_move_5 rfl (lv_at hl 0 rfl) ?_
  refine xw_getD hx hb hts hin0 hown hK hP hcd 0 (by decide) f9 rfl dX0_move_6 ?_
  refine lv_iload_n hx hb dX0_move_9 rfl (lv_at hl 1 rfl) ?_
  obtain ⟨a10, ea10, ia10, h⟩ := swrd_s h
  refine xw_ald hx hb hK hP (xw_NS hcd) (xw_celS hcd) ia10 dX0_move_10 ea10 ?_
  obtain ⟨iu11, h⟩ := swgd_s h
  obtain ⟨u11, eu11, h⟩ := swlt_s h
  refine xw_ast hx hb hK hJ xw_A0 hP hS (xw_NS hcd) (fun _ => xw_clS hcd) (swix_s iu11) eu11 dX0_move_11 (fun H locs hP hS => ?_)
  refine lv_iconst (v := 0) hx hb dX0_move_12 (by decide) ?_
  refine lv_istore_n (lv' := [(3, .int 0), (0, .ref (ad cd)), (1, .int x1), (2, .int x2)]) hx hb dX0_move_13 rfl hl (by decide) rfl (fun ls hl => ?_)
  have L14 : ∀ (kk : Int32 → swU → Option (swU)), (∀ (v3 : Int32) (w14 : swU) (H : Heap) (locs : List Loc) (ls : Array Slot), kk v3 w14 = some u0 → xwP D cy ad w14 H → va_S (xwA0 ad) s.heap H locs → lv_has ls 4 [(0, .ref (ad cd)), (1, .int x1), (2, .int x2), (3, .int v3)] → W p l e (headSpec wsX0_move rmX0_move).room s m args below meth c H locs 0 0 (MQ below (xwQv D cy ad u0) args s 0 0 (xwA0 ad)) (F0 m 37 ls [])) → ∀ (n : Nat) (v3 : Int32) (w14 : swU) (H : Heap) (locs : List Loc) (ls : Array Slot), xx0_move_L14 cd x1 x2 kk n v3 w14 = some u0 → xwP D cy ad w14 H → va_S (xwA0 ad) s.heap H locs → lv_has ls 4 [(0, .ref (ad cd)), (1, .int x1), (2, .int x2), (3, .int v3)] → W p l e (headSpec wsX0_move rmX0_move).room s m args below meth c H locs 0 0 (MQ below (xwQv D cy ad u0) args s 0 0 (xwA0 ad)) (F0 m 14 ls []) := by
    intro kk hk14 n
    induction n with
    | zero => intro v3 w14 H locs ls h hP hS hl; rw [xx0_move_L14] at h; cases h
    | succ n ih14 =>
      intro v3 w14 H locs ls h hP hS hl
      rw [xx0_move_L14] at h
      refine lv_iload_n hx hb dX0_move_14 rfl (lv_at hl 3 rfl) ?_
      refine lv_iconst (v := 4) hx hb dX0_move_15 (by decide) ?_
      refine lv_icmp_ge (tgt := 37) hx hb dX0_move_16 (by decide) (fun cc => ?_) (fun cc => ?_)
      · replace h := sw_t h cc
        exact hk14 _ _ _ _ _ h hP hS (lv_sub hl [0, 1, 2, 3] rfl)
      · replace h := sw_f h cc
        refine lv_aload_n hx hb dX0_move_19 rfl (lv_at hl 0 rfl) ?_
        refine lv_iload_n hx hb dX0_move_20 rfl (lv_at hl 2 rfl) ?_
        refine lv_iload_n hx hb dX0_move_21 rfl (lv_at hl 3 rfl) ?_
        refine lv_aload_n hx hb dX0_move_22 rfl (lv_at hl 0 rfl) ?_
        refine lv_iload_n hx hb dX0_move_23 rfl (lv_at hl 1 rfl) ?_
        refine lv_iload_n hx hb dX0_move_24 rfl (lv_at hl 3 rfl) ?_
        obtain ⟨r25, er25, h⟩ := swbd_s h
        refine xw_calli (As := [.int x1, .int v3]) (rest := [.int v3, .int x2, .ref (ad cd)]) E (xm0_valueAt l D cy ad w14 cd x1 v3 hcd _ er25) (cwV 2 hts gX0_move_X0_valueAt rfl rfl rfl (by decide +kernel) ⟨Nat.le_of_ble_eq_true rfl, Nat.le_of_ble_eq_true rfl⟩) hK hP (xw_rD hK hP hcd) ⟨Nat.le_of_ble_eq_true rfl, Nat.le_of_ble_eq_true rfl⟩ rfl hl.1 rfl (Nat.le_of_ble_eq_true rfl) dX0_move_25 ?_
        obtain ⟨u28, er28, h⟩ := swbd_s h
        refine xw_callWv (As := [.int x2, .int v3, .int r25]) (rest := []) E (xm0_put l D cy ad hJ w14 cd x2 v3 r25 hcd _ er28) (cwV 3 hts gX0_move_X0_put rfl rfl rfl (by decide +kernel) ⟨Nat.le_of_ble_eq_true rfl, Nat.le_of_ble_eq_true rfl⟩) hK hP hS xw_A0 (xw_rD hK hP hcd) ⟨Nat.le_of_ble_eq_true rfl, Nat.le_of_ble_eq_true rfl⟩ rfl hl.1 rfl (Nat.le_of_ble_eq_true rfl) dX0_move_28 (fun H locs hP hS _ _ => ?_)
        refine lv_iinc (v := (v3 + 1)) (lv' := [(3, .int (v3 + 1)), (0, .ref (ad cd)), (1, .int x1), (2, .int x2)]) hx hb dX0_move_31 hl (k := 3) rfl rfl (by decide) rfl (fun ls hl => ?_)
        refine lv_goto (tgt := 14) hx hb dX0_move_34 (by decide) ?_
        exact ih14 _ _ _ _ _ h hP hS (lv_sub hl [1, 2, 3, 0] rfl)
  refine L14 _ (fun v3 w37 H locs ls h hP hS hl => ?_) 64 _ _ _ _ _ h hP hS (lv_sub hl [1, 2, 3, 0] rfl)
  exact W.vret hx hb hr (fun t ht hW => ⟨⟨(), rfl, trivial, xw_end hP ht (sw_in1 h)⟩, hS.F ht⟩) hS.2.2 dX0_move_37 hlocks

/-! X0.insert -/
def xx0_insert_L5 (cd : Nat) (x1 : Int32) (kk : Int32 → swU → Option (swU)) : Nat → Int32 → swU → Option (swU)
  | 0, _, _ => none
  | n + 1, v3, w5 => if v3 ≤ x1 then (kk v3 w5) else (swbd (xx0_move w5 cd (v3 - 1) v3) fun u15 => xx0_insert_L5 cd x1 kk n ((v3 + (-1))) u15)

def xx0_insert_L33 (cd : Nat) (x1 : Int32) (kk : Int32 → swU → Option (swU)) : Nat → Int32 → swU → Option (swU)
  | 0, _, _ => none
  | n + 1, v3, w33 => if 4 ≤ v3 then (kk v3 w33) else (swbd (xx0_put w33 cd x1 v3 0) fun u42 => xx0_insert_L33 cd x1 kk n (v3 + 1) u42)

def xx0_insert (u : swU) (cd : Nat) (x1 : Int32) (x2 : Int32) : Option (swU) :=
  swlt (u.1 cd 2) fun y4 => xx0_insert_L5 cd x1 (fun v3 w24 => swgd (swix x1 8) <| swlt (swI w24 (cd + 100) x1.toNatClampNeg x2) fun u30 => xx0_insert_L33 cd x1 (fun v3 w51 => swlt (swI w51 cd 2 (((w51.1 cd 2) + 1))) fun u58 => some u58) 64 0 u30) 64 y4 u

abbrev rmX0_insert : Room := { frames := 2, cells := 0, slots := 0, locals := 46 }

set_option maxHeartbeats 4000000 in
set_option maxRecDepth 100000 in
theorem xm0_insert (l : Launch) (D : va_G) (cy : Nat → ClassId) (ad : Nat → Nat) (hJ : swJ xw_N ad) (u : swU) (cd : Nat) (x1 : Int32) (x2 : Int32) (hcd : xw_D cd) (u0 : swU) (h : xx0_insert u cd x1 x2 = some u0) : Met l yX0_insert wsX0_insert rmX0_insert (xwC D cy ad u [.ref (ad cd), .int x1, .int x2]) (xwQv D cy ad u0) 0 0 (xwA0 ad) := by
  refine Met.ofW (cc := cX0_insert) (maxL := 4) (ret := none) (by decide) rfl ?_
  intro p e s m args below meth c s₁ B hml hv
  obtain ⟨ha, hP, hK⟩ := hv
  have hx := B.exec
  have hb := B.bytes
  have hr := B.returns
  have hlocks := B.notSynchronized
  have hts := atoms_spec (ws := wsX0_insert) B.pre
  have hown : s.vm.findClass RX0 = some m.cls := findClass_of_methodNamed B.named
  have E : CallFix p m c cX0_insert 4 s args wsX0_insert RX0 := ⟨hx, hb, hml, hown, hts⟩
  have hin0 : ∀ w ∈ wsX00, w ∈ wsX0_insert := by decide +kernel
  have f18 : (Cond.fieldLink RX0 18 "Slidewarden$Deck" "size" "I").before args s = true := hts _ (by decide +kernel)
  have f9 : (Cond.fieldLink RX0 9 "Slidewarden$Deck" "slides" "[I").before args s = true := hts _ (by decide +kernel)
  have hS : va_S (xwA0 ad) s.heap s.heap [] := va_S.rf
  obtain ⟨ls, hl, hent⟩ := sw_entry m (n := 4) ha (Nat.le_of_ble_eq_true rfl)
  rw [hent]
  have hl : lv_has ls 4 [(0, .ref (ad cd)), (1, .int x1), (2, .int x2)] := hl
  unfold xx0_insert at h
  refine lv_aload_n hx hb dX0_insert_0 rfl (lv_at hl 0 rfl) ?_
  refine xw_getD hx hb hts hin0 hown hK hP hcd 2 (by decide) f18 rfl dX0_insert_1 ?_
  obtain ⟨y4, ey4, h⟩ := swlt_s h
  refine sw_top ey4 ?_
  refine lv_istore_n (lv' := [(3, .int y4), (0, .ref (ad cd)), (1, .int x1), (2, .int x2)]) hx hb dX0_insert_4 rfl hl (by decide) rfl (fun ls hl => ?_)
  have L5 : ∀ (kk : Int32 → swU → Option (swU)), (∀ (v3 : Int32) (w5 : swU) (H : Heap) (locs : List Loc) (ls : Array Slot), kk v3 w5 = some u0 → xwP D cy ad w5 H → va_S (xwA0 ad) s.heap H locs → lv_has ls 4 [(0, .ref (ad cd)), (1, .int x1), (2, .int x2), (3, .int v3)] → W p l e (headSpec wsX0_insert rmX0_insert).room s m args below meth c H locs 0 0 (MQ below (xwQv D cy ad u0) args s 0 0 (xwA0 ad)) (F0 m 24 ls [])) → ∀ (n : Nat) (v3 : Int32) (w5 : swU) (H : Heap) (locs : List Loc) (ls : Array Slot), xx0_insert_L5 cd x1 kk n v3 w5 = some u0 → xwP D cy ad w5 H → va_S (xwA0 ad) s.heap H locs → lv_has ls 4 [(0, .ref (ad cd)), (1, .int x1), (2, .int x2), (3, .int v3)] → W p l e (headSpec wsX0_insert rmX0_insert).room s m args below meth c H locs 0 0 (MQ below (xwQv D cy ad u0) args s 0 0 (xwA0 ad)) (F0 m 5 ls []) := by
    intro kk hk5 n
    induction n with
    | zero => intro v3 w5 H locs ls h hP hS hl; rw [xx0_insert_L5] at h; cases h
    | succ n ih5 =>
      intro v3 w5 H locs ls h hP hS hl
      rw [xx0_insert_L5] at h
      refine lv_iload_n hx hb dX0_insert_5 rfl (lv_at hl 3 rfl) ?_
      refine lv_iload_n hx hb dX0_insert_6 rfl (lv_at hl 1 rfl) ?_
      refine lv_icmp_le (tgt := 24) hx hb dX0_insert_7 (by decide) (fun cc => ?_) (fun cc => ?_)
      · replace h := sw_t h cc
        exact hk5 _ _ _ _ _ h hP hS (lv_sub hl [0, 1, 2, 3] rfl)
      · replace h := sw_f h cc
        refine lv_aload_n hx hb dX0_insert_10 rfl (lv_at hl 0 rfl) ?_
        refine lv_iload_n hx hb dX0_insert_11 rfl (lv_at hl 3 rfl) ?_
        refine lv_iconst (v := 1) hx hb dX0_insert_12 (by decide) ?_
        refine lv_isub hx hb dX0_insert_13 ?_
        refine lv_iload_n hx hb dX0_insert_14 rfl (lv_at hl 3 rfl) ?_
        obtain ⟨u15, er15, h⟩ := swbd_s h
        refine xw_callWv (As := [.int (v3 - 1), .int v3]) (rest := []) E (xm0_move l D cy ad hJ w5 cd (v3 - 1) v3 hcd _ er15) (cwV 2 hts gX0_insert_X0_move rfl rfl rfl (by decide +kernel) ⟨Nat.le_of_ble_eq_true rfl, Nat.le_of_ble_eq_true rfl⟩) hK hP hS xw_A0 (xw_rD hK hP hcd) ⟨Nat.le_of_ble_eq_true rfl, Nat.le_of_ble_eq_true rfl⟩ rfl hl.1 rfl (Nat.le_of_ble_eq_true rfl) dX0_insert_15 (fun H locs hP hS _ _ => ?_)
        refine lv_iinc (v := (v3 + (-1))) (lv' := [(3, .int ((v3 + (-1)))), (0, .ref (ad cd)), (1, .int x1), (2, .int x2)]) hx hb dX0_insert_18 hl (k := 3) rfl rfl (by decide) rfl (fun ls hl => ?_)
        refine lv_goto (tgt := 5) hx hb dX0_insert_21 (by decide) ?_
        exact ih5 _ _ _ _ _ h hP hS (lv_sub hl [1, 2, 3, 0] rfl)
  refine L5 _ (fun v3 w24 H locs ls h hP hS hl => ?_) 64 _ _ _ _ _ h hP hS (lv_sub hl [1, 2, 3, 0] rfl)
  refine lv_aload_n hx hb dX0_insert_24 rfl (lv_at hl 0 rfl) ?_
  refine xw_getD hx hb hts hin0 hown hK hP hcd 0 (by decide) f9 rfl dX0_insert_25 ?_
  refine lv_iload_n hx hb dX0_insert_28 rfl (lv_at hl 1 rfl) ?_
  refine lv_iload_n hx hb dX0_insert_29 rfl (lv_at hl 2 rfl) ?_
  obtain ⟨iu30, h⟩ := swgd_s h
  obtain ⟨u30, eu30, h⟩ := swlt_s h
  refine xw_ast hx hb hK hJ xw_A0 hP hS (xw_NS hcd) (fun _ => xw_clS hcd) (swix_s iu30) eu30 dX0_insert_30 (fun H locs hP hS => ?_)
  refine lv_iconst (v := 0) hx hb dX0_insert_31 (by decide) ?_
  refine lv_istore_n (lv' := [(3, .int 0), (0, .ref (ad cd)), (1, .int x1), (2, .int x2)]) hx hb dX0_insert_32 rfl hl (by decide) rfl (fun ls hl => ?_)
  have L33 : ∀ (kk : Int32 → swU → Option (swU)), (∀ (v3 : Int32) (w33 : swU) (H : Heap) (locs : List Loc) (ls : Array Slot), kk v3 w33 = some u0 → xwP D cy ad w33 H → va_S (xwA0 ad) s.heap H locs → lv_has ls 4 [(0, .ref (ad cd)), (1, .int x1), (2, .int x2), (3, .int v3)] → W p l e (headSpec wsX0_insert rmX0_insert).room s m args below meth c H locs 0 0 (MQ below (xwQv D cy ad u0) args s 0 0 (xwA0 ad)) (F0 m 51 ls [])) → ∀ (n : Nat) (v3 : Int32) (w33 : swU) (H : Heap) (locs : List Loc) (ls : Array Slot), xx0_insert_L33 cd x1 kk n v3 w33 = some u0 → xwP D cy ad w33 H → va_S (xwA0 ad) s.heap H locs → lv_has ls 4 [(0, .ref (ad cd)), (1, .int x1), (2, .int x2), (3, .int v3)] → W p l e (headSpec wsX0_insert rmX0_insert).room s m args below meth c H locs 0 0 (MQ below (xwQv D cy ad u0) args s 0 0 (xwA0 ad)) (F0 m 33 ls []) := by
    intro kk hk33 n
    induction n with
    | zero => intro v3 w33 H locs ls h hP hS hl; rw [xx0_insert_L33] at h; cases h
    | succ n ih33 =>
      intro v3 w33 H locs ls h hP hS hl
      rw [xx0_insert_L33] at h
      refine lv_iload_n hx hb dX0_insert_33 rfl (lv_at hl 3 rfl) ?_
      refine lv_iconst (v := 4) hx hb dX0_insert_34 (by decide) ?_
      refine lv_icmp_ge (tgt := 51) hx hb dX0_insert_35 (by decide) (fun cc => ?_) (fun cc => ?_)
      · replace h := sw_t h cc
        exact hk33 _ _ _ _ _ h hP hS (lv_sub hl [0, 1, 2, 3] rfl)
      · replace h := sw_f h cc
        refine lv_aload_n hx hb dX0_insert_38 rfl (lv_at hl 0 rfl) ?_
        refine lv_iload_n hx hb dX0_insert_39 rfl (lv_at hl 1 rfl) ?_
        refine lv_iload_n hx hb dX0_insert_40 rfl (lv_at hl 3 rfl) ?_
        refine lv_iconst (v := 0) hx hb dX0_insert_41 (by decide) ?_
        obtain ⟨u42, er42, h⟩ := swbd_s h
        refine xw_callWv (As := [.int x1, .int v3, .int 0]) (rest := []) E (xm0_put l D cy ad hJ w33 cd x1 v3 0 hcd _ er42) (cwV 3 hts gX0_insert_X0_put rfl rfl rfl (by decide +kernel) ⟨Nat.le_of_ble_eq_true rfl, Nat.le_of_ble_eq_true rfl⟩) hK hP hS xw_A0 (xw_rD hK hP hcd) ⟨Nat.le_of_ble_eq_true rfl, Nat.le_of_ble_eq_true rfl⟩ rfl hl.1 rfl (Nat.le_of_ble_eq_true rfl) dX0_insert_42 (fun H locs hP hS _ _ => ?_)
        refine lv_iinc (v := (v3 + 1)) (lv' := [(3, .int (v3 + 1)), (0, .ref (ad cd)), (1, .int x1), (2, .int x2)]) hx hb dX0_insert_45 hl (k := 3) rfl rfl (by decide) rfl (fun ls hl => ?_)
        refine lv_goto (tgt := 33) hx hb dX0_insert_48 (by decide) ?_
        exact ih33 _ _ _ _ _ h hP hS (lv_sub hl [1, 2, 3, 0] rfl)
  refine L33 _ (fun v3 w51 H locs ls h hP hS hl => ?_) 64 _ _ _ _ _ h hP hS (lv_sub hl [1, 2, 3, 0] rfl)
  refine lv_aload_n hx hb dX0_insert_51 rfl (lv_at hl 0 rfl) ?_
  refine lv_dup hx hb dX0_insert_52 rfl ?_
  refine xw_getD hx hb hts hin0 hown hK hP hcd 2 (by decide) f18 rfl dX0_insert_53 ?_
  refine lv_iconst (v := 1) hx hb dX0_insert_56 (by decide) ?_
  refine lv_iadd hx hb dX0_insert_57 ?_
  obtain ⟨u58, eu58, h⟩ := swlt_s h
  refine xw_putD hx hb hts hin0 hown hK hJ xw_A0 hP hS hcd f18 eu58 dX0_insert_58 (fun H locs hP hS => ?_)
  exact W.vret hx hb hr (fun t ht hW => ⟨⟨(), rfl, trivial, xw_end hP ht (sw_in1 h)⟩, hS.F ht⟩) hS.2.2 dX0_insert_61 hlocks

/-! X0.removeAt -/
def xx0_removeAt_L4 (cd : Nat) (kk : Int32 → swU → Option (swU)) : Nat → Int32 → swU → Option (swU)
  | 0, _, _ => none
  | n + 1, v2, w4 => if (w4.1 cd 2) ≤ v2 then (kk v2 w4) else (swbd (xx0_move w4 cd v2 (v2 - 1)) fun u17 => xx0_removeAt_L4 cd kk n (v2 + 1) u17)

def xx0_removeAt (u : swU) (cd : Nat) (x1 : Int32) : Option (swU) :=
  swlt (x1 + 1) fun y3 => xx0_removeAt_L4 cd (fun v2 w26 => swlt (swI w26 cd 2 (((w26.1 cd 2) - 1))) fun u33 => some u33) 64 y3 u

abbrev rmX0_removeAt : Room := { frames := 2, cells := 0, slots := 0, locals := 46 }

set_option maxHeartbeats 4000000 in
set_option maxRecDepth 100000 in
theorem xm0_removeAt (l : Launch) (D : va_G) (cy : Nat → ClassId) (ad : Nat → Nat) (hJ : swJ xw_N ad) (u : swU) (cd : Nat) (x1 : Int32) (hcd : xw_D cd) (u0 : swU) (h : xx0_removeAt u cd x1 = some u0) : Met l yX0_removeAt wsX0_removeAt rmX0_removeAt (xwC D cy ad u [.ref (ad cd), .int x1]) (xwQv D cy ad u0) 0 0 (xwA0 ad) := by
  refine Met.ofW (cc := cX0_removeAt) (maxL := 3) (ret := none) (by decide) rfl ?_
  intro p e s m args below meth c s₁ B hml hv
  obtain ⟨ha, hP, hK⟩ := hv
  have hx := B.exec
  have hb := B.bytes
  have hr := B.returns
  have hlocks := B.notSynchronized
  have hts := atoms_spec (ws := wsX0_removeAt) B.pre
  have hown : s.vm.findClass RX0 = some m.cls := findClass_of_methodNamed B.named
  have E : CallFix p m c cX0_removeAt 3 s args wsX0_removeAt RX0 := ⟨hx, hb, hml, hown, hts⟩
  have hin0 : ∀ w ∈ wsX00, w ∈ wsX0_removeAt := by decide +kernel
  have f18 : (Cond.fieldLink RX0 18 "Slidewarden$Deck" "size" "I").before args s = true := hts _ (by decide +kernel)
  have hS : va_S (xwA0 ad) s.heap s.heap [] := va_S.rf
  obtain ⟨ls, hl, hent⟩ := sw_entry m (n := 3) ha (Nat.le_of_ble_eq_true rfl)
  rw [hent]
  have hl : lv_has ls 3 [(0, .ref (ad cd)), (1, .int x1)] := hl
  unfold xx0_removeAt at h
  refine lv_iload_n hx hb dX0_removeAt_0 rfl (lv_at hl 1 rfl) ?_
  refine lv_iconst (v := 1) hx hb dX0_removeAt_1 (by decide) ?_
  refine lv_iadd hx hb dX0_removeAt_2 ?_
  obtain ⟨y3, ey3, h⟩ := swlt_s h
  refine sw_top ey3 ?_
  refine lv_istore_n (lv' := [(2, .int y3), (0, .ref (ad cd)), (1, .int x1)]) hx hb dX0_removeAt_3 rfl hl (by decide) rfl (fun ls hl => ?_)
  have L4 : ∀ (kk : Int32 → swU → Option (swU)), (∀ (v2 : Int32) (w4 : swU) (H : Heap) (locs : List Loc) (ls : Array Slot), kk v2 w4 = some u0 → xwP D cy ad w4 H → va_S (xwA0 ad) s.heap H locs → lv_has ls 3 [(0, .ref (ad cd)), (1, .int x1), (2, .int v2)] → W p l e (headSpec wsX0_removeAt rmX0_removeAt).room s m args below meth c H locs 0 0 (MQ below (xwQv D cy ad u0) args s 0 0 (xwA0 ad)) (F0 m 26 ls [])) → ∀ (n : Nat) (v2 : Int32) (w4 : swU) (H : Heap) (locs : List Loc) (ls : Array Slot), xx0_removeAt_L4 cd kk n v2 w4 = some u0 → xwP D cy ad w4 H → va_S (xwA0 ad) s.heap H locs → lv_has ls 3 [(0, .ref (ad cd)), (1, .int x1), (2, .int v2)] → W p l e (headSpec wsX0_removeAt rmX0_removeAt).room s m args below meth c H locs 0 0 (MQ below (xwQv D cy ad u0) args s 0 0 (xwA0 ad)) (F0 m 4 ls []) := by
    intro kk hk4 n
    induction n with
    | zero => intro v2 w4 H locs ls h hP hS hl; rw [xx0_removeAt_L4] at h; cases h
    | succ n ih4 =>
      intro v2 w4 H locs ls h hP hS hl
      rw [xx0_removeAt_L4] at h
      refine lv_iload_n hx hb dX0_removeAt_4 rfl (lv_at hl 2 rfl) ?_
      refine lv_aload_n hx hb dX0_removeAt_5 rfl (lv_at hl 0 rfl) ?_
      refine xw_getD hx hb hts hin0 hown hK hP hcd 2 (by decide) f18 rfl dX0_removeAt_6 ?_
      refine lv_icmp_ge (tgt := 26) hx hb dX0_removeAt_9 (by decide) (fun cc => ?_) (fun cc => ?_)
      · replace h := sw_t h cc
        exact hk4 _ _ _ _ _ h hP hS (lv_sub hl [0, 1, 2] rfl)
      · replace h := sw_f h cc
        refine lv_aload_n hx hb dX0_removeAt_12 rfl (lv_at hl 0 rfl) ?_
        refine lv_iload_n hx hb dX0_removeAt_13 rfl (lv_at hl 2 rfl) ?_
        refine lv_iload_n hx hb dX0_removeAt_14 rfl (lv_at hl 2 rfl) ?_
        refine lv_iconst (v := 1) hx hb dX0_removeAt_15 (by decide) ?_
        refine lv_isub hx hb dX0_removeAt_16 ?_
        obtain ⟨u17, er17, h⟩ := swbd_s h
        refine xw_callWv (As := [.int v2, .int (v2 - 1)]) (rest := []) E (xm0_move l D cy ad hJ w4 cd v2 (v2 - 1) hcd _ er17) (cwV 2 hts gX0_removeAt_X0_move rfl rfl rfl (by decide +kernel) ⟨Nat.le_of_ble_eq_true rfl, Nat.le_of_ble_eq_true rfl⟩) hK hP hS xw_A0 (xw_rD hK hP hcd) ⟨Nat.le_of_ble_eq_true rfl, Nat.le_of_ble_eq_true rfl⟩ rfl hl.1 rfl (Nat.le_of_ble_eq_true rfl) dX0_removeAt_17 (fun H locs hP hS _ _ => ?_)
        refine lv_iinc (v := (v2 + 1)) (lv' := [(2, .int (v2 + 1)), (0, .ref (ad cd)), (1, .int x1)]) hx hb dX0_removeAt_20 hl (k := 2) rfl rfl (by decide) rfl (fun ls hl => ?_)
        refine lv_goto (tgt := 4) hx hb dX0_removeAt_23 (by decide) ?_
        exact ih4 _ _ _ _ _ h hP hS (lv_sub hl [1, 2, 0] rfl)
  refine L4 _ (fun v2 w26 H locs ls h hP hS hl => ?_) 64 _ _ _ _ _ h hP hS (lv_sub hl [1, 2, 0] rfl)
  refine lv_aload_n hx hb dX0_removeAt_26 rfl (lv_at hl 0 rfl) ?_
  refine lv_dup hx hb dX0_removeAt_27 rfl ?_
  refine xw_getD hx hb hts hin0 hown hK hP hcd 2 (by decide) f18 rfl dX0_removeAt_28 ?_
  refine lv_iconst (v := 1) hx hb dX0_removeAt_31 (by decide) ?_
  refine lv_isub hx hb dX0_removeAt_32 ?_
  obtain ⟨u33, eu33, h⟩ := swlt_s h
  refine xw_putD hx hb hts hin0 hown hK hJ xw_A0 hP hS hcd f18 eu33 dX0_removeAt_33 (fun H locs hP hS => ?_)
  exact W.vret hx hb hr (fun t ht hW => ⟨⟨(), rfl, trivial, xw_end hP ht (sw_in1 h)⟩, hS.F ht⟩) hS.2.2 dX0_removeAt_36 hlocks

/-! X1.isSlideClash -/
def xx1_isSlideClash (u : swU) (co : Nat) (ca : Nat) (cb : Nat) (x1 : Int32) : Option (Bool) :=
  swbd (xx0_has u ca x1) fun r5 => swbd (xx0_has u cb x1) fun r15 => if (swB r5) = (swB r15) then (some false) else (swbd (xx0_has u co x1) fun r26 => if (swB r26) = 0 then (some false) else (if (swB r5) = 0 then (swbd (xx0_isAlike u co cb x1) fun r54 => if (swB r54) = 0 then (some true) else (some false)) else (swbd (xx0_isAlike u co ca x1) fun r54 => if (swB r54) = 0 then (some true) else (some false))))

abbrev rmX1_isSlideClash : Room := { frames := 2, cells := 0, slots := 0, locals := 47 }

set_option maxHeartbeats 4000000 in
set_option maxRecDepth 100000 in
theorem xm1_isSlideClash (l : Launch) (D : va_G) (cy : Nat → ClassId) (ad : Nat → Nat) (g : Nat) (u : swU) (co : Nat) (ca : Nat) (cb : Nat) (x1 : Int32) (hco : xw_D co) (hca : xw_D ca) (hcb : xw_D cb) (r0 : Bool) (h : xx1_isSlideClash u co ca cb x1 = some r0) : Met l yX1_isSlideClash wsX1_isSlideClash rmX1_isSlideClash (xwCM D cy ad u g co ca cb [.ref g, .int x1]) (vp_Si (fun r : Int32 => r = swB r0)) 0 0 (fun _ => False) := by
  refine Met.ofW (cc := cX1_isSlideClash) (maxL := 3) (ret := (some .boolean)) (by decide) rfl ?_
  intro p e s m args below meth c s₁ B hml hv
  obtain ⟨ha, hP, hK, hG⟩ := hv
  have hx := B.exec
  have hb := B.bytes
  have hr := B.returns
  have hlocks := B.notSynchronized
  have hts := atoms_spec (ws := wsX1_isSlideClash) B.pre
  have hown : s.vm.findClass RX1 = some m.cls := findClass_of_methodNamed B.named
  have E : CallFix p m c cX1_isSlideClash 3 s args wsX1_isSlideClash RX1 := ⟨hx, hb, hml, hown, hts⟩
  have hin1 : ∀ w ∈ wsX10, w ∈ wsX1_isSlideClash := by decide +kernel
  have f15 : (Cond.fieldLink RX1 15 "Slidewarden$Merge" "ours" "LSlidewarden$Deck;").before args s = true := hts _ (by decide +kernel)
  have f18 : (Cond.fieldLink RX1 18 "Slidewarden$Merge" "theirs" "LSlidewarden$Deck;").before args s = true := hts _ (by decide +kernel)
  have f9 : (Cond.fieldLink RX1 9 "Slidewarden$Merge" "old" "LSlidewarden$Deck;").before args s = true := hts _ (by decide +kernel)
  obtain ⟨ls, hl, hent⟩ := sw_entry m (n := 3) ha (Nat.le_of_ble_eq_true rfl)
  rw [hent]
  have hl : lv_has ls 3 [(0, .ref g), (1, .int x1)] := hl
  unfold xx1_isSlideClash at h
  refine lv_aload_n hx hb dX1_isSlideClash_0 rfl (lv_at hl 0 rfl) ?_
  refine xw_getM hx hb hts hin1 hown hK hG 1 (by decide) f15 rfl dX1_isSlideClash_1 ?_
  refine lv_iload_n hx hb dX1_isSlideClash_4 rfl (lv_at hl 1 rfl) ?_
  obtain ⟨r5, er5, h⟩ := swbd_s h
  refine xw_calli (As := [.int x1]) (rest := []) E (xm0_has l D cy ad u ca x1 hca _ er5) (cwV 1 hts gX1_isSlideClash_X0_has rfl rfl rfl (by decide +kernel) ⟨Nat.le_of_ble_eq_true rfl, Nat.le_of_ble_eq_true rfl⟩) hK hP (xw_rD hK hP hca) ⟨Nat.le_of_ble_eq_true rfl, Nat.le_of_ble_eq_true rfl⟩ rfl hl.1 rfl (Nat.le_of_ble_eq_true rfl) dX1_isSlideClash_5 ?_
  refine lv_istore_n (lv' := [(2, .int (swB r5)), (0, .ref g), (1, .int x1)]) hx hb dX1_isSlideClash_8 rfl hl (by decide) rfl (fun ls hl => ?_)
  refine lv_iload_n hx hb dX1_isSlideClash_9 rfl (lv_at hl 0 rfl) ?_
  refine lv_aload_n hx hb dX1_isSlideClash_10 rfl (lv_at hl 1 rfl) ?_
  refine xw_getM hx hb hts hin1 hown hK hG 2 (by decide) f18 rfl dX1_isSlideClash_11 ?_
  refine lv_iload_n hx hb dX1_isSlideClash_14 rfl (lv_at hl 2 rfl) ?_
  obtain ⟨r15, er15, h⟩ := swbd_s h
  refine xw_calli (As := [.int x1]) (rest := [.int (swB r5)]) E (xm0_has l D cy ad u cb x1 hcb _ er15) (cwV 1 hts gX1_isSlideClash_X0_has rfl rfl rfl (by decide +kernel) ⟨Nat.le_of_ble_eq_true rfl, Nat.le_of_ble_eq_true rfl⟩) hK hP (xw_rD hK hP hcb) ⟨Nat.le_of_ble_eq_true rfl, Nat.le_of_ble_eq_true rfl⟩ rfl hl.1 rfl (Nat.le_of_ble_eq_true rfl) dX1_isSlideClash_15 ?_
  refine lv_icmp_eq (tgt := 32) hx hb dX1_isSlideClash_18 (by decide) (fun cc => ?_) (fun cc => ?_)
  · replace h := sw_t h cc
    refine lv_iconst (v := 0) hx hb dX1_isSlideClash_32 (by decide) ?_
    exact W.zret (ty := .boolean) hx hb hr rfl (fun t ht hW => ⟨_, rfl, congrArg swB (sw_in1 h), ht⟩) (fun q hq => by cases hq) dX1_isSlideClash_33 hlocks
  · replace h := sw_f h cc
    refine lv_aload_n hx hb dX1_isSlideClash_21 rfl (lv_at hl 1 rfl) ?_
    refine xw_getM hx hb hts hin1 hown hK hG 0 (by decide) f9 rfl dX1_isSlideClash_22 ?_
    refine lv_iload_n hx hb dX1_isSlideClash_25 rfl (lv_at hl 2 rfl) ?_
    obtain ⟨r26, er26, h⟩ := swbd_s h
    refine xw_calli (As := [.int x1]) (rest := []) E (xm0_has l D cy ad u co x1 hco _ er26) (cwV 1 hts gX1_isSlideClash_X0_has rfl rfl rfl (by decide +kernel) ⟨Nat.le_of_ble_eq_true rfl, Nat.le_of_ble_eq_true rfl⟩) hK hP (xw_rD hK hP hco) ⟨Nat.le_of_ble_eq_true rfl, Nat.le_of_ble_eq_true rfl⟩ rfl hl.1 rfl (Nat.le_of_ble_eq_true rfl) dX1_isSlideClash_26 ?_
    refine lv_if_ne (tgt := 34) hx hb dX1_isSlideClash_29 (by decide) (fun cc => ?_) (fun cc => ?_)
    · replace h := sw_f h cc
      refine lv_aload_n hx hb dX1_isSlideClash_34 rfl (lv_at hl 1 rfl) ?_
      refine xw_getM hx hb hts hin1 hown hK hG 0 (by decide) f9 rfl dX1_isSlideClash_35 ?_
      refine lv_iload_n hx hb dX1_isSlideClash_38 rfl (lv_at hl 0 rfl) ?_
      refine lv_if_eq (tgt := 49) hx hb dX1_isSlideClash_39 (by decide) (fun cc => ?_) (fun cc => ?_)
      · replace h := sw_t h cc
        refine lv_aload_n hx hb dX1_isSlideClash_49 rfl (lv_at hl 1 rfl) ?_
        refine xw_getM hx hb hts hin1 hown hK hG 2 (by decide) f18 rfl dX1_isSlideClash_50 ?_
        refine lv_iload_n hx hb dX1_isSlideClash_53 rfl (lv_at hl 2 rfl) ?_
        obtain ⟨r54, er54, h⟩ := swbd_s h
        refine xw_calli (As := [.ref (ad cb), .int x1]) (rest := []) E (xm0_isAlike l D cy ad u co cb x1 hco hcb _ er54) (cwV 2 hts gX1_isSlideClash_X0_isAlike rfl rfl rfl (by decide +kernel) ⟨Nat.le_of_ble_eq_true rfl, Nat.le_of_ble_eq_true rfl⟩) hK hP (xw_rD hK hP hco) ⟨Nat.le_of_ble_eq_true rfl, Nat.le_of_ble_eq_true rfl⟩ rfl hl.1 rfl (Nat.le_of_ble_eq_true rfl) dX1_isSlideClash_54 ?_
        refine lv_if_ne (tgt := 64) hx hb dX1_isSlideClash_57 (by decide) (fun cc => ?_) (fun cc => ?_)
        · replace h := sw_f h cc
          refine lv_iconst (v := 0) hx hb dX1_isSlideClash_64 (by decide) ?_
          exact W.zret (ty := .boolean) hx hb hr rfl (fun t ht hW => ⟨_, rfl, congrArg swB (sw_in1 h), ht⟩) (fun q hq => by cases hq) dX1_isSlideClash_65 hlocks
        · replace h := sw_t h cc
          refine lv_iconst (v := 1) hx hb dX1_isSlideClash_60 (by decide) ?_
          refine lv_goto (tgt := 65) hx hb dX1_isSlideClash_61 (by decide) ?_
          exact W.zret (ty := .boolean) hx hb hr rfl (fun t ht hW => ⟨_, rfl, congrArg swB (sw_in1 h), ht⟩) (fun q hq => by cases hq) dX1_isSlideClash_65 hlocks
      · replace h := sw_f h cc
        refine lv_aload_n hx hb dX1_isSlideClash_42 rfl (lv_at hl 1 rfl) ?_
        refine xw_getM hx hb hts hin1 hown hK hG 1 (by decide) f15 rfl dX1_isSlideClash_43 ?_
        refine lv_goto (tgt := 53) hx hb dX1_isSlideClash_46 (by decide) ?_
        refine lv_iload_n hx hb dX1_isSlideClash_53 rfl (lv_at hl 2 rfl) ?_
        obtain ⟨r54, er54, h⟩ := swbd_s h
        refine xw_calli (As := [.ref (ad ca), .int x1]) (rest := []) E (xm0_isAlike l D cy ad u co ca x1 hco hca _ er54) (cwV 2 hts gX1_isSlideClash_X0_isAlike rfl rfl rfl (by decide +kernel) ⟨Nat.le_of_ble_eq_true rfl, Nat.le_of_ble_eq_true rfl⟩) hK hP (xw_rD hK hP hco) ⟨Nat.le_of_ble_eq_true rfl, Nat.le_of_ble_eq_true rfl⟩ rfl hl.1 rfl (Nat.le_of_ble_eq_true rfl) dX1_isSlideClash_54 ?_
        refine lv_if_ne (tgt := 64) hx hb dX1_isSlideClash_57 (by decide) (fun cc => ?_) (fun cc => ?_)
        · replace h := sw_f h cc
          refine lv_iconst (v := 0) hx hb dX1_isSlideClash_64 (by decide) ?_
          exact W.zret (ty := .boolean) hx hb hr rfl (fun t ht hW => ⟨_, rfl, congrArg swB (sw_in1 h), ht⟩) (fun q hq => by cases hq) dX1_isSlideClash_65 hlocks
        · replace h := sw_t h cc
          refine lv_iconst (v := 1) hx hb dX1_isSlideClash_60 (by decide) ?_
          refine lv_goto (tgt := 65) hx hb dX1_isSlideClash_61 (by decide) ?_
          exact W.zret (ty := .boolean) hx hb hr rfl (fun t ht hW => ⟨_, rfl, congrArg swB (sw_in1 h), ht⟩) (fun q hq => by cases hq) dX1_isSlideClash_65 hlocks
    · replace h := sw_t h cc
      refine lv_iconst (v := 0) hx hb dX1_isSlideClash_32 (by decide) ?_
      exact W.zret (ty := .boolean) hx hb hr rfl (fun t ht hW => ⟨_, rfl, congrArg swB (sw_in1 h), ht⟩) (fun q hq => by cases hq) dX1_isSlideClash_33 hlocks

/-! X1.isObjectClash -/
def xx1_isObjectClash (u : swU) (co : Nat) (ca : Nat) (cb : Nat) (x1 : Int32) (x2 : Int32) : Option (Bool) :=
  swbd (xx0_has u ca x1) fun r5 => if (swB r5) = 0 then (some false) else (swbd (xx0_has u cb x1) fun r16 => if (swB r16) = 0 then (some false) else (swbd (xx0_valueOf u ca x1 x2) fun r30 => swbd (xx0_valueOf u cb x1 x2) fun r40 => swbd (xx0_valueOf u co x1 x2) fun r51 => if r30 = r40 then (some false) else (if r30 = r51 then (some false) else (if r40 = r51 then (some false) else (some true)))))

abbrev rmX1_isObjectClash : Room := { frames := 2, cells := 0, slots := 0, locals := 45 }

set_option maxHeartbeats 4000000 in
set_option maxRecDepth 100000 in
theorem xm1_isObjectClash (l : Launch) (D : va_G) (cy : Nat → ClassId) (ad : Nat → Nat) (g : Nat) (u : swU) (co : Nat) (ca : Nat) (cb : Nat) (x1 : Int32) (x2 : Int32) (hco : xw_D co) (hca : xw_D ca) (hcb : xw_D cb) (r0 : Bool) (h : xx1_isObjectClash u co ca cb x1 x2 = some r0) : Met l yX1_isObjectClash wsX1_isObjectClash rmX1_isObjectClash (xwCM D cy ad u g co ca cb [.ref g, .int x1, .int x2]) (vp_Si (fun r : Int32 => r = swB r0)) 0 0 (fun _ => False) := by
  refine Met.ofW (cc := cX1_isObjectClash) (maxL := 6) (ret := (some .boolean)) (by decide) rfl ?_
  intro p e s m args below meth c s₁ B hml hv
  obtain ⟨ha, hP, hK, hG⟩ := hv
  have hx := B.exec
  have hb := B.bytes
  have hr := B.returns
  have hlocks := B.notSynchronized
  have hts := atoms_spec (ws := wsX1_isObjectClash) B.pre
  have hown : s.vm.findClass RX1 = some m.cls := findClass_of_methodNamed B.named
  have E : CallFix p m c cX1_isObjectClash 6 s args wsX1_isObjectClash RX1 := ⟨hx, hb, hml, hown, hts⟩
  have hin1 : ∀ w ∈ wsX10, w ∈ wsX1_isObjectClash := by decide +kernel
  have f15 : (Cond.fieldLink RX1 15 "Slidewarden$Merge" "ours" "LSlidewarden$Deck;").before args s = true := hts _ (by decide +kernel)
  have f18 : (Cond.fieldLink RX1 18 "Slidewarden$Merge" "theirs" "LSlidewarden$Deck;").before args s = true := hts _ (by decide +kernel)
  have f9 : (Cond.fieldLink RX1 9 "Slidewarden$Merge" "old" "LSlidewarden$Deck;").before args s = true := hts _ (by decide +kernel)
  obtain ⟨ls, hl, hent⟩ := sw_entry m (n := 6) ha (Nat.le_of_ble_eq_true rfl)
  rw [hent]
  have hl : lv_has ls 6 [(0, .ref g), (1, .int x1), (2, .int x2)] := hl
  unfold xx1_isObjectClash at h
  refine lv_aload_n hx hb dX1_isObjectClash_0 rfl (lv_at hl 0 rfl) ?_
  refine xw_getM hx hb hts hin1 hown hK hG 1 (by decide) f15 rfl dX1_isObjectClash_1 ?_
  refine lv_iload_n hx hb dX1_isObjectClash_4 rfl (lv_at hl 1 rfl) ?_
  obtain ⟨r5, er5, h⟩ := swbd_s h
  refine xw_calli (As := [.int x1]) (rest := []) E (xm0_has l D cy ad u ca x1 hca _ er5) (cwV 1 hts gX1_isObjectClash_X0_has rfl rfl rfl (by decide +kernel) ⟨Nat.le_of_ble_eq_true rfl, Nat.le_of_ble_eq_true rfl⟩) hK hP (xw_rD hK hP hca) ⟨Nat.le_of_ble_eq_true rfl, Nat.le_of_ble_eq_true rfl⟩ rfl hl.1 rfl (Nat.le_of_ble_eq_true rfl) dX1_isObjectClash_5 ?_
  refine lv_if_eq (tgt := 22) hx hb dX1_isObjectClash_8 (by decide) (fun cc => ?_) (fun cc => ?_)
  · replace h := sw_t h cc
    refine lv_iconst (v := 0) hx hb dX1_isObjectClash_22 (by decide) ?_
    exact W.zret (ty := .boolean) hx hb hr rfl (fun t ht hW => ⟨_, rfl, congrArg swB (sw_in1 h), ht⟩) (fun q hq => by cases hq) dX1_isObjectClash_23 hlocks
  · replace h := sw_f h cc
    refine lv_aload_n hx hb dX1_isObjectClash_11 rfl (lv_at hl 0 rfl) ?_
    refine xw_getM hx hb hts hin1 hown hK hG 2 (by decide) f18 rfl dX1_isObjectClash_12 ?_
    refine lv_iload_n hx hb dX1_isObjectClash_15 rfl (lv_at hl 1 rfl) ?_
    obtain ⟨r16, er16, h⟩ := swbd_s h
    refine xw_calli (As := [.int x1]) (rest := []) E (xm0_has l D cy ad u cb x1 hcb _ er16) (cwV 1 hts gX1_isObjectClash_X0_has rfl rfl rfl (by decide +kernel) ⟨Nat.le_of_ble_eq_true rfl, Nat.le_of_ble_eq_true rfl⟩) hK hP (xw_rD hK hP hcb) ⟨Nat.le_of_ble_eq_true rfl, Nat.le_of_ble_eq_true rfl⟩ rfl hl.1 rfl (Nat.le_of_ble_eq_true rfl) dX1_isObjectClash_16 ?_
    refine lv_if_ne (tgt := 24) hx hb dX1_isObjectClash_19 (by decide) (fun cc => ?_) (fun cc => ?_)
    · replace h := sw_f h cc
      refine lv_aload_n hx hb dX1_isObjectClash_24 rfl (lv_at hl 0 rfl) ?_
      refine xw_getM hx hb hts hin1 hown hK hG 1 (by decide) f15 rfl dX1_isObjectClash_25 ?_
      refine lv_iload_n hx hb dX1_isObjectClash_28 rfl (lv_at hl 1 rfl) ?_
      refine lv_iload_n hx hb dX1_isObjectClash_29 rfl (lv_at hl 2 rfl) ?_
      obtain ⟨r30, er30, h⟩ := swbd_s h
      refine xw_calli (As := [.int x1, .int x2]) (rest := []) E (xm0_valueOf l D cy ad u ca x1 x2 hca _ er30) (cwV 2 hts gX1_isObjectClash_X0_valueOf rfl rfl rfl (by decide +kernel) ⟨Nat.le_of_ble_eq_true rfl, Nat.le_of_ble_eq_true rfl⟩) hK hP (xw_rD hK hP hca) ⟨Nat.le_of_ble_eq_true rfl, Nat.le_of_ble_eq_true rfl⟩ rfl hl.1 rfl (Nat.le_of_ble_eq_true rfl) dX1_isObjectClash_30 ?_
      refine lv_istore_n (lv' := [(3, .int r30), (0, .ref g), (1, .int x1), (2, .int x2)]) hx hb dX1_isObjectClash_33 rfl hl (by decide) rfl (fun ls hl => ?_)
      refine lv_aload_n hx hb dX1_isObjectClash_34 rfl (lv_at hl 1 rfl) ?_
      refine xw_getM hx hb hts hin1 hown hK hG 2 (by decide) f18 rfl dX1_isObjectClash_35 ?_
      refine lv_iload_n hx hb dX1_isObjectClash_38 rfl (lv_at hl 2 rfl) ?_
      refine lv_iload_n hx hb dX1_isObjectClash_39 rfl (lv_at hl 3 rfl) ?_
      obtain ⟨r40, er40, h⟩ := swbd_s h
      refine xw_calli (As := [.int x1, .int x2]) (rest := []) E (xm0_valueOf l D cy ad u cb x1 x2 hcb _ er40) (cwV 2 hts gX1_isObjectClash_X0_valueOf rfl rfl rfl (by decide +kernel) ⟨Nat.le_of_ble_eq_true rfl, Nat.le_of_ble_eq_true rfl⟩) hK hP (xw_rD hK hP hcb) ⟨Nat.le_of_ble_eq_true rfl, Nat.le_of_ble_eq_true rfl⟩ rfl hl.1 rfl (Nat.le_of_ble_eq_true rfl) dX1_isObjectClash_40 ?_
      refine lv_istore (lv' := [(4, .int r40), (3, .int r30), (0, .ref g), (1, .int x1), (2, .int x2)]) hx hb dX1_isObjectClash_43 hl (by decide) rfl (fun ls hl => ?_)
      refine lv_aload_n hx hb dX1_isObjectClash_45 rfl (lv_at hl 2 rfl) ?_
      refine xw_getM hx hb hts hin1 hown hK hG 0 (by decide) f9 rfl dX1_isObjectClash_46 ?_
      refine lv_iload_n hx hb dX1_isObjectClash_49 rfl (lv_at hl 3 rfl) ?_
      refine lv_iload_n hx hb dX1_isObjectClash_50 rfl (lv_at hl 4 rfl) ?_
      obtain ⟨r51, er51, h⟩ := swbd_s h
      refine xw_calli (As := [.int x1, .int x2]) (rest := []) E (xm0_valueOf l D cy ad u co x1 x2 hco _ er51) (cwV 2 hts gX1_isObjectClash_X0_valueOf rfl rfl rfl (by decide +kernel) ⟨Nat.le_of_ble_eq_true rfl, Nat.le_of_ble_eq_true rfl⟩) hK hP (xw_rD hK hP hco) ⟨Nat.le_of_ble_eq_true rfl, Nat.le_of_ble_eq_true rfl⟩ rfl hl.1 rfl (Nat.le_of_ble_eq_true rfl) dX1_isObjectClash_51 ?_
      refine lv_istore (lv' := [(5, .int r51), (4, .int r40), (3, .int r30), (0, .ref g), (1, .int x1), (2, .int x2)]) hx hb dX1_isObjectClash_54 hl (by decide) rfl (fun ls hl => ?_)
      refine lv_iload_n hx hb dX1_isObjectClash_56 rfl (lv_at hl 2 rfl) ?_
      refine lv_iload hx hb dX1_isObjectClash_57 (lv_at hl 1 rfl) ?_
      refine lv_icmp_eq (tgt := 79) hx hb dX1_isObjectClash_59 (by decide) (fun cc => ?_) (fun cc => ?_)
      · replace h := sw_t h cc
        refine lv_iconst (v := 0) hx hb dX1_isObjectClash_79 (by decide) ?_
        exact W.zret (ty := .boolean) hx hb hr rfl (fun t ht hW => ⟨_, rfl, congrArg swB (sw_in1 h), ht⟩) (fun q hq => by cases hq) dX1_isObjectClash_80 hlocks
      · replace h := sw_f h cc
        refine lv_iload_n hx hb dX1_isObjectClash_62 rfl (lv_at hl 2 rfl) ?_
        refine lv_iload hx hb dX1_isObjectClash_63 (lv_at hl 0 rfl) ?_
        refine lv_icmp_eq (tgt := 79) hx hb dX1_isObjectClash_65 (by decide) (fun cc => ?_) (fun cc => ?_)
        · replace h := sw_t h cc
          refine lv_iconst (v := 0) hx hb dX1_isObjectClash_79 (by decide) ?_
          exact W.zret (ty := .boolean) hx hb hr rfl (fun t ht hW => ⟨_, rfl, congrArg swB (sw_in1 h), ht⟩) (fun q hq => by cases hq) dX1_isObjectClash_80 hlocks
        · replace h := sw_f h cc
          refine lv_iload hx hb dX1_isObjectClash_68 (lv_at hl 1 rfl) ?_
          refine lv_iload hx hb dX1_isObjectClash_70 (lv_at hl 0 rfl) ?_
          refine lv_icmp_eq (tgt := 79) hx hb dX1_isObjectClash_72 (by decide) (fun cc => ?_) (fun cc => ?_)
          · replace h := sw_t h cc
            refine lv_iconst (v := 0) hx hb dX1_isObjectClash_79 (by decide) ?_
            exact W.zret (ty := .boolean) hx hb hr rfl (fun t ht hW => ⟨_, rfl, congrArg swB (sw_in1 h), ht⟩) (fun q hq => by cases hq) dX1_isObjectClash_80 hlocks
          · replace h := sw_f h cc
            refine lv_iconst (v := 1) hx hb dX1_isObjectClash_75 (by decide) ?_
            refine lv_goto (tgt := 80) hx hb dX1_isObjectClash_76 (by decide) ?_
            exact W.zret (ty := .boolean) hx hb hr rfl (fun t ht hW => ⟨_, rfl, congrArg swB (sw_in1 h), ht⟩) (fun q hq => by cases hq) dX1_isObjectClash_80 hlocks
    · replace h := sw_t h cc
      refine lv_iconst (v := 0) hx hb dX1_isObjectClash_22 (by decide) ?_
      exact W.zret (ty := .boolean) hx hb hr rfl (fun t ht hW => ⟨_, rfl, congrArg swB (sw_in1 h), ht⟩) (fun q hq => by cases hq) dX1_isObjectClash_23 hlocks

/-! X1.countClashes -/
def xx1_countClashes_L23 (u : swU) (co : Nat) (ca : Nat) (cb : Nat) (v3 : Int32) (kk : Int32 → Int32 → Option (Int32)) : Nat → Int32 → Int32 → Option (Int32)
  | 0, _, _ => none
  | n + 1, v2, v4 => if 4 ≤ v4 then (kk v2 v4) else (swbd (xx1_isObjectClash u co ca cb v3 v4) fun r33 => if (swB r33) = 0 then (xx1_countClashes_L23 u co ca cb v3 kk n v2 (v4 + 1)) else (xx1_countClashes_L23 u co ca cb v3 kk n (v2 + 1) (v4 + 1)))

def xx1_countClashes_L4 (u : swU) (co : Nat) (ca : Nat) (cb : Nat) (x1 : Int32) (kk : Int32 → Int32 → Option (Int32)) : Nat → Int32 → Int32 → Option (Int32)
  | 0, _, _ => none
  | n + 1, v2, v3 => if x1 ≤ v3 then (kk v2 v3) else (swbd (xx1_isSlideClash u co ca cb v3) fun r11 => if (swB r11) = 0 then (xx1_countClashes_L23 u co ca cb v3 (fun v2 v4 => xx1_countClashes_L4 u co ca cb x1 kk n v2 (v3 + 1)) 64 v2 0) else (xx1_countClashes_L23 u co ca cb v3 (fun v2 v4 => xx1_countClashes_L4 u co ca cb x1 kk n v2 (v3 + 1)) 64 (v2 + 1) 0))

def xx1_countClashes (u : swU) (co : Nat) (ca : Nat) (cb : Nat) (x1 : Int32) : Option (Int32) :=
  xx1_countClashes_L4 u co ca cb x1 (fun v2 v3 => some v2) 64 0 0

abbrev rmX1_countClashes : Room := { frames := 3, cells := 0, slots := 0, locals := 70 }

set_option maxHeartbeats 4000000 in
set_option maxRecDepth 100000 in
theorem xm1_countClashes (l : Launch) (D : va_G) (cy : Nat → ClassId) (ad : Nat → Nat) (g : Nat) (u : swU) (co : Nat) (ca : Nat) (cb : Nat) (x1 : Int32) (hco : xw_D co) (hca : xw_D ca) (hcb : xw_D cb) (r0 : Int32) (h : xx1_countClashes u co ca cb x1 = some r0) : Met l yX1_countClashes wsX1_countClashes rmX1_countClashes (xwCM D cy ad u g co ca cb [.ref g, .int x1]) (vp_Si (fun r : Int32 => r = r0)) 0 0 (fun _ => False) := by
  refine Met.ofW (cc := cX1_countClashes) (maxL := 5) (ret := (some .int)) (by decide) rfl ?_
  intro p e s m args below meth c s₁ B hml hv
  obtain ⟨ha, hP, hK, hG⟩ := hv
  have hx := B.exec
  have hb := B.bytes
  have hr := B.returns
  have hlocks := B.notSynchronized
  have hts := atoms_spec (ws := wsX1_countClashes) B.pre
  have hown : s.vm.findClass RX1 = some m.cls := findClass_of_methodNamed B.named
  have E : CallFix p m c cX1_countClashes 5 s args wsX1_countClashes RX1 := ⟨hx, hb, hml, hown, hts⟩
  obtain ⟨ls, hl, hent⟩ := sw_entry m (n := 5) ha (Nat.le_of_ble_eq_true rfl)
  rw [hent]
  have hl : lv_has ls 5 [(0, .ref g), (1, .int x1)] := hl
  unfold xx1_countClashes at h
  refine lv_iconst (v := 0) hx hb dX1_countClashes_0 (by decide) ?_
  refine lv_istore_n (lv' := [(2, .int 0), (0, .ref g), (1, .int x1)]) hx hb dX1_countClashes_1 rfl hl (by decide) rfl (fun ls hl => ?_)
  refine lv_iconst (v := 0) hx hb dX1_countClashes_2 (by decide) ?_
  refine lv_istore_n (lv' := [(3, .int 0), (2, .int 0), (0, .ref g), (1, .int x1)]) hx hb dX1_countClashes_3 rfl hl (by decide) rfl (fun ls hl => ?_)
  have L4 : ∀ (kk : Int32 → Int32 → Option (Int32)), (∀ (v2 : Int32) (v3 : Int32) (ls : Array Slot), kk v2 v3 = some r0 → lv_has ls 5 [(0, .ref g), (1, .int x1), (2, .int v2), (3, .int v3)] → W p l e (headSpec wsX1_countClashes rmX1_countClashes).room s m args below meth c s.heap [] 0 0 (MQ below (vp_Si (fun r : Int32 => r = r0)) args s 0 0 (fun _ => False)) (F0 m 54 ls [])) → ∀ (n : Nat) (v2 : Int32) (v3 : Int32) (ls : Array Slot), xx1_countClashes_L4 u co ca cb x1 kk n v2 v3 = some r0 → lv_has ls 5 [(0, .ref g), (1, .int x1), (2, .int v2), (3, .int v3)] → W p l e (headSpec wsX1_countClashes rmX1_countClashes).room s m args below meth c s.heap [] 0 0 (MQ below (vp_Si (fun r : Int32 => r = r0)) args s 0 0 (fun _ => False)) (F0 m 4 ls []) := by
    intro kk hk4 n
    induction n with
    | zero => intro v2 v3 ls h hl; rw [xx1_countClashes_L4] at h; cases h
    | succ n ih4 =>
      intro v2 v3 ls h hl
      rw [xx1_countClashes_L4] at h
      refine lv_iload_n hx hb dX1_countClashes_4 rfl (lv_at hl 3 rfl) ?_
      refine lv_iload_n hx hb dX1_countClashes_5 rfl (lv_at hl 1 rfl) ?_
      refine lv_icmp_ge (tgt := 54) hx hb dX1_countClashes_6 (by decide) (fun cc => ?_) (fun cc => ?_)
      · replace h := sw_t h cc
        exact hk4 _ _ _ h (lv_sub hl [0, 1, 2, 3] rfl)
      · replace h := sw_f h cc
        refine lv_aload_n hx hb dX1_countClashes_9 rfl (lv_at hl 0 rfl) ?_
        refine lv_iload_n hx hb dX1_countClashes_10 rfl (lv_at hl 3 rfl) ?_
        obtain ⟨r11, er11, h⟩ := swbd_s h
        refine xw_calliM (As := [.int v3]) (rest := []) E (xm1_isSlideClash l D cy ad g u co ca cb v3 hco hca hcb _ er11) (cwV 1 hts gX1_countClashes_X1_isSlideClash rfl rfl rfl (by decide +kernel) ⟨Nat.le_of_ble_eq_true rfl, Nat.le_of_ble_eq_true rfl⟩) hK hP hG ⟨Nat.le_of_ble_eq_true rfl, Nat.le_of_ble_eq_true rfl⟩ rfl hl.1 rfl (Nat.le_of_ble_eq_true rfl) dX1_countClashes_11 ?_
        refine lv_if_eq (tgt := 20) hx hb dX1_countClashes_14 (by decide) (fun cc => ?_) (fun cc => ?_)
        · replace h := sw_t h cc
          refine lv_iconst (v := 0) hx hb dX1_countClashes_20 (by decide) ?_
          refine lv_istore (lv' := [(4, .int 0), (0, .ref g), (1, .int x1), (2, .int v2), (3, .int v3)]) hx hb dX1_countClashes_21 hl (by decide) rfl (fun ls hl => ?_)
          have L23 : ∀ (kk : Int32 → Int32 → Option (Int32)), (∀ (v2 : Int32) (v4 : Int32) (ls : Array Slot), kk v2 v4 = some r0 → lv_has ls 5 [(0, .ref g), (1, .int x1), (2, .int v2), (3, .int v3), (4, .int v4)] → W p l e (headSpec wsX1_countClashes rmX1_countClashes).room s m args below meth c s.heap [] 0 0 (MQ below (vp_Si (fun r : Int32 => r = r0)) args s 0 0 (fun _ => False)) (F0 m 48 ls [])) → ∀ (n : Nat) (v2 : Int32) (v4 : Int32) (ls : Array Slot), xx1_countClashes_L23 u co ca cb v3 kk n v2 v4 = some r0 → lv_has ls 5 [(0, .ref g), (1, .int x1), (2, .int v2), (3, .int v3), (4, .int v4)] → W p l e (headSpec wsX1_countClashes rmX1_countClashes).room s m args below meth c s.heap [] 0 0 (MQ below (vp_Si (fun r : Int32 => r = r0)) args s 0 0 (fun _ => False)) (F0 m 23 ls []) := by
            intro kk hk23 n
            induction n with
            | zero => intro v2 v4 ls h hl; rw [xx1_countClashes_L23] at h; cases h
            | succ n ih23 =>
              intro v2 v4 ls h hl
              rw [xx1_countClashes_L23] at h
              refine lv_iload hx hb dX1_countClashes_23 (lv_at hl 4 rfl) ?_
              refine lv_iconst (v := 4) hx hb dX1_countClashes_25 (by decide) ?_
              refine lv_icmp_ge (tgt := 48) hx hb dX1_countClashes_26 (by decide) (fun cc => ?_) (fun cc => ?_)
              · replace h := sw_t h cc
                exact hk23 _ _ _ h (lv_sub hl [0, 1, 2, 3, 4] rfl)
              · replace h := sw_f h cc
                refine lv_aload_n hx hb dX1_countClashes_29 rfl (lv_at hl 0 rfl) ?_
                refine lv_iload_n hx hb dX1_countClashes_30 rfl (lv_at hl 3 rfl) ?_
                refine lv_iload hx hb dX1_countClashes_31 (lv_at hl 4 rfl) ?_
                obtain ⟨r33, er33, h⟩ := swbd_s h
                refine xw_calliM (As := [.int v3, .int v4]) (rest := []) E (xm1_isObjectClash l D cy ad g u co ca cb v3 v4 hco hca hcb _ er33) (cwV 2 hts gX1_countClashes_X1_isObjectClash rfl rfl rfl (by decide +kernel) ⟨Nat.le_of_ble_eq_true rfl, Nat.le_of_ble_eq_true rfl⟩) hK hP hG ⟨Nat.le_of_ble_eq_true rfl, Nat.le_of_ble_eq_true rfl⟩ rfl hl.1 rfl (Nat.le_of_ble_eq_true rfl) dX1_countClashes_33 ?_
                refine lv_if_eq (tgt := 42) hx hb dX1_countClashes_36 (by decide) (fun cc => ?_) (fun cc => ?_)
                · replace h := sw_t h cc
                  refine lv_iinc (v := (v4 + 1)) (lv' := [(4, .int (v4 + 1)), (0, .ref g), (1, .int x1), (2, .int v2), (3, .int v3)]) hx hb dX1_countClashes_42 hl (k := 4) rfl rfl (by decide) rfl (fun ls hl => ?_)
                  refine lv_goto (tgt := 23) hx hb dX1_countClashes_45 (by decide) ?_
                  exact ih23 _ _ _ h (lv_sub hl [1, 2, 3, 4, 0] rfl)
                · replace h := sw_f h cc
                  refine lv_iinc (v := (v2 + 1)) (lv' := [(2, .int (v2 + 1)), (0, .ref g), (1, .int x1), (3, .int v3), (4, .int v4)]) hx hb dX1_countClashes_39 hl (k := 2) rfl rfl (by decide) rfl (fun ls hl => ?_)
                  refine lv_iinc (v := (v4 + 1)) (lv' := [(4, .int (v4 + 1)), (2, .int (v2 + 1)), (0, .ref g), (1, .int x1), (3, .int v3)]) hx hb dX1_countClashes_42 hl (k := 4) rfl rfl (by decide) rfl (fun ls hl => ?_)
                  refine lv_goto (tgt := 23) hx hb dX1_countClashes_45 (by decide) ?_
                  exact ih23 _ _ _ h (lv_sub hl [2, 3, 1, 4, 0] rfl)
          refine L23 _ (fun v2 v4 ls h hl => ?_) 64 _ _ _ h (lv_sub hl [1, 2, 3, 4, 0] rfl)
          refine lv_iinc (v := (v3 + 1)) (lv' := [(3, .int (v3 + 1)), (0, .ref g), (1, .int x1), (2, .int v2), (4, .int v4)]) hx hb dX1_countClashes_48 hl (k := 3) rfl rfl (by decide) rfl (fun ls hl => ?_)
          refine lv_goto (tgt := 4) hx hb dX1_countClashes_51 (by decide) ?_
          exact ih4 _ _ _ h (lv_sub hl [1, 2, 3, 0] rfl)
        · replace h := sw_f h cc
          refine lv_iinc (v := (v2 + 1)) (lv' := [(2, .int (v2 + 1)), (0, .ref g), (1, .int x1), (3, .int v3)]) hx hb dX1_countClashes_17 hl (k := 2) rfl rfl (by decide) rfl (fun ls hl => ?_)
          refine lv_iconst (v := 0) hx hb dX1_countClashes_20 (by decide) ?_
          refine lv_istore (lv' := [(4, .int 0), (2, .int (v2 + 1)), (0, .ref g), (1, .int x1), (3, .int v3)]) hx hb dX1_countClashes_21 hl (by decide) rfl (fun ls hl => ?_)
          have L23 : ∀ (kk : Int32 → Int32 → Option (Int32)), (∀ (v2 : Int32) (v4 : Int32) (ls : Array Slot), kk v2 v4 = some r0 → lv_has ls 5 [(0, .ref g), (1, .int x1), (2, .int v2), (3, .int v3), (4, .int v4)] → W p l e (headSpec wsX1_countClashes rmX1_countClashes).room s m args below meth c s.heap [] 0 0 (MQ below (vp_Si (fun r : Int32 => r = r0)) args s 0 0 (fun _ => False)) (F0 m 48 ls [])) → ∀ (n : Nat) (v2 : Int32) (v4 : Int32) (ls : Array Slot), xx1_countClashes_L23 u co ca cb v3 kk n v2 v4 = some r0 → lv_has ls 5 [(0, .ref g), (1, .int x1), (2, .int v2), (3, .int v3), (4, .int v4)] → W p l e (headSpec wsX1_countClashes rmX1_countClashes).room s m args below meth c s.heap [] 0 0 (MQ below (vp_Si (fun r : Int32 => r = r0)) args s 0 0 (fun _ => False)) (F0 m 23 ls []) := by
            intro kk hk23 n
            induction n with
            | zero => intro v2 v4 ls h hl; rw [xx1_countClashes_L23] at h; cases h
            | succ n ih23 =>
              intro v2 v4 ls h hl
              rw [xx1_countClashes_L23] at h
              refine lv_iload hx hb dX1_countClashes_23 (lv_at hl 4 rfl) ?_
              refine lv_iconst (v := 4) hx hb dX1_countClashes_25 (by decide) ?_
              refine lv_icmp_ge (tgt := 48) hx hb dX1_countClashes_26 (by decide) (fun cc => ?_) (fun cc => ?_)
              · replace h := sw_t h cc
                exact hk23 _ _ _ h (lv_sub hl [0, 1, 2, 3, 4] rfl)
              · replace h := sw_f h cc
                refine lv_aload_n hx hb dX1_countClashes_29 rfl (lv_at hl 0 rfl) ?_
                refine lv_iload_n hx hb dX1_countClashes_30 rfl (lv_at hl 3 rfl) ?_
                refine lv_iload hx hb dX1_countClashes_31 (lv_at hl 4 rfl) ?_
                obtain ⟨r33, er33, h⟩ := swbd_s h
                refine xw_calliM (As := [.int v3, .int v4]) (rest := []) E (xm1_isObjectClash l D cy ad g u co ca cb v3 v4 hco hca hcb _ er33) (cwV 2 hts gX1_countClashes_X1_isObjectClash rfl rfl rfl (by decide +kernel) ⟨Nat.le_of_ble_eq_true rfl, Nat.le_of_ble_eq_true rfl⟩) hK hP hG ⟨Nat.le_of_ble_eq_true rfl, Nat.le_of_ble_eq_true rfl⟩ rfl hl.1 rfl (Nat.le_of_ble_eq_true rfl) dX1_countClashes_33 ?_
                refine lv_if_eq (tgt := 42) hx hb dX1_countClashes_36 (by decide) (fun cc => ?_) (fun cc => ?_)
                · replace h := sw_t h cc
                  refine lv_iinc (v := (v4 + 1)) (lv' := [(4, .int (v4 + 1)), (0, .ref g), (1, .int x1), (2, .int v2), (3, .int v3)]) hx hb dX1_countClashes_42 hl (k := 4) rfl rfl (by decide) rfl (fun ls hl => ?_)
                  refine lv_goto (tgt := 23) hx hb dX1_countClashes_45 (by decide) ?_
                  exact ih23 _ _ _ h (lv_sub hl [1, 2, 3, 4, 0] rfl)
                · replace h := sw_f h cc
                  refine lv_iinc (v := (v2 + 1)) (lv' := [(2, .int (v2 + 1)), (0, .ref g), (1, .int x1), (3, .int v3), (4, .int v4)]) hx hb dX1_countClashes_39 hl (k := 2) rfl rfl (by decide) rfl (fun ls hl => ?_)
                  refine lv_iinc (v := (v4 + 1)) (lv' := [(4, .int (v4 + 1)), (2, .int (v2 + 1)), (0, .ref g), (1, .int x1), (3, .int v3)]) hx hb dX1_countClashes_42 hl (k := 4) rfl rfl (by decide) rfl (fun ls hl => ?_)
                  refine lv_goto (tgt := 23) hx hb dX1_countClashes_45 (by decide) ?_
                  exact ih23 _ _ _ h (lv_sub hl [2, 3, 1, 4, 0] rfl)
          refine L23 _ (fun v2 v4 ls h hl => ?_) 64 _ _ _ h (lv_sub hl [2, 3, 1, 4, 0] rfl)
          refine lv_iinc (v := (v3 + 1)) (lv' := [(3, .int (v3 + 1)), (0, .ref g), (1, .int x1), (2, .int v2), (4, .int v4)]) hx hb dX1_countClashes_48 hl (k := 3) rfl rfl (by decide) rfl (fun ls hl => ?_)
          refine lv_goto (tgt := 4) hx hb dX1_countClashes_51 (by decide) ?_
          exact ih4 _ _ _ h (lv_sub hl [1, 2, 3, 0] rfl)
  refine L4 _ (fun v2 v3 ls h hl => ?_) 64 _ _ _ h (lv_sub hl [2, 3, 1, 0] rfl)
  refine lv_iload_n hx hb dX1_countClashes_54 rfl (lv_at hl 2 rfl) ?_
  exact W.iret hx hb hr (fun t ht hW => ⟨_, rfl, sw_in1 h, ht⟩) (fun q hq => by cases hq) dX1_countClashes_55 hlocks

/-! X1.isKept -/
def xx1_isKept (u : swU) (co : Nat) (ca : Nat) (cb : Nat) (x1 : Int32) (x2 : Int32) : Option (Bool) :=
  swbd (xx0_has u ca x1) fun r5 => swbd (xx0_has u cb x1) fun r14 => if (swB r5) = (swB r14) then (if (swB r5) = 0 then (if (swB r14) = 0 then (some false) else (some true)) else (some true)) else (swbd (xx0_has u co x1) fun r30 => if (swB r30) = 0 then (if (swB r5) = 0 then (if (swB r14) = 0 then (some false) else (some true)) else (some true)) else (swbd (xx1_isSlideClash u co ca cb x1) fun r53 => if (swB r53) = 0 then (some false) else (if x2 = 1 then (if (swB r14) = 0 then (some false) else (some true)) else (if (swB r5) = 0 then (some false) else (some true)))))

abbrev rmX1_isKept : Room := { frames := 3, cells := 0, slots := 0, locals := 69 }

set_option maxHeartbeats 4000000 in
set_option maxRecDepth 100000 in
theorem xm1_isKept (l : Launch) (D : va_G) (cy : Nat → ClassId) (ad : Nat → Nat) (g : Nat) (u : swU) (co : Nat) (ca : Nat) (cb : Nat) (x1 : Int32) (x2 : Int32) (hco : xw_D co) (hca : xw_D ca) (hcb : xw_D cb) (r0 : Bool) (h : xx1_isKept u co ca cb x1 x2 = some r0) : Met l yX1_isKept wsX1_isKept rmX1_isKept (xwCM D cy ad u g co ca cb [.ref g, .int x1, .int x2]) (vp_Si (fun r : Int32 => r = swB r0)) 0 0 (fun _ => False) := by
  refine Met.ofW (cc := cX1_isKept) (maxL := 5) (ret := (some .boolean)) (by decide) rfl ?_
  intro p e s m args below meth c s₁ B hml hv
  obtain ⟨ha, hP, hK, hG⟩ := hv
  have hx := B.exec
  have hb := B.bytes
  have hr := B.returns
  have hlocks := B.notSynchronized
  have hts := atoms_spec (ws := wsX1_isKept) B.pre
  have hown : s.vm.findClass RX1 = some m.cls := findClass_of_methodNamed B.named
  have E : CallFix p m c cX1_isKept 5 s args wsX1_isKept RX1 := ⟨hx, hb, hml, hown, hts⟩
  have hin1 : ∀ w ∈ wsX10, w ∈ wsX1_isKept := by decide +kernel
  have f15 : (Cond.fieldLink RX1 15 "Slidewarden$Merge" "ours" "LSlidewarden$Deck;").before args s = true := hts _ (by decide +kernel)
  have f18 : (Cond.fieldLink RX1 18 "Slidewarden$Merge" "theirs" "LSlidewarden$Deck;").before args s = true := hts _ (by decide +kernel)
  have f9 : (Cond.fieldLink RX1 9 "Slidewarden$Merge" "old" "LSlidewarden$Deck;").before args s = true := hts _ (by decide +kernel)
  obtain ⟨ls, hl, hent⟩ := sw_entry m (n := 5) ha (Nat.le_of_ble_eq_true rfl)
  rw [hent]
  have hl : lv_has ls 5 [(0, .ref g), (1, .int x1), (2, .int x2)] := hl
  unfold xx1_isKept at h
  refine lv_aload_n hx hb dX1_isKept_0 rfl (lv_at hl 0 rfl) ?_
  refine xw_getM hx hb hts hin1 hown hK hG 1 (by decide) f15 rfl dX1_isKept_1 ?_
  refine lv_iload_n hx hb dX1_isKept_4 rfl (lv_at hl 1 rfl) ?_
  obtain ⟨r5, er5, h⟩ := swbd_s h
  refine xw_calli (As := [.int x1]) (rest := []) E (xm0_has l D cy ad u ca x1 hca _ er5) (cwV 1 hts gX1_isKept_X0_has rfl rfl rfl (by decide +kernel) ⟨Nat.le_of_ble_eq_true rfl, Nat.le_of_ble_eq_true rfl⟩) hK hP (xw_rD hK hP hca) ⟨Nat.le_of_ble_eq_true rfl, Nat.le_of_ble_eq_true rfl⟩ rfl hl.1 rfl (Nat.le_of_ble_eq_true rfl) dX1_isKept_5 ?_
  refine lv_istore_n (lv' := [(3, .int (swB r5)), (0, .ref g), (1, .int x1), (2, .int x2)]) hx hb dX1_isKept_8 rfl hl (by decide) rfl (fun ls hl => ?_)
  refine lv_aload_n hx hb dX1_isKept_9 rfl (lv_at hl 1 rfl) ?_
  refine xw_getM hx hb hts hin1 hown hK hG 2 (by decide) f18 rfl dX1_isKept_10 ?_
  refine lv_iload_n hx hb dX1_isKept_13 rfl (lv_at hl 2 rfl) ?_
  obtain ⟨r14, er14, h⟩ := swbd_s h
  refine xw_calli (As := [.int x1]) (rest := []) E (xm0_has l D cy ad u cb x1 hcb _ er14) (cwV 1 hts gX1_isKept_X0_has rfl rfl rfl (by decide +kernel) ⟨Nat.le_of_ble_eq_true rfl, Nat.le_of_ble_eq_true rfl⟩) hK hP (xw_rD hK hP hcb) ⟨Nat.le_of_ble_eq_true rfl, Nat.le_of_ble_eq_true rfl⟩ rfl hl.1 rfl (Nat.le_of_ble_eq_true rfl) dX1_isKept_14 ?_
  refine lv_istore (lv' := [(4, .int (swB r14)), (3, .int (swB r5)), (0, .ref g), (1, .int x1), (2, .int x2)]) hx hb dX1_isKept_17 hl (by decide) rfl (fun ls hl => ?_)
  refine lv_iload_n hx hb dX1_isKept_19 rfl (lv_at hl 1 rfl) ?_
  refine lv_iload hx hb dX1_isKept_20 (lv_at hl 0 rfl) ?_
  refine lv_icmp_eq (tgt := 36) hx hb dX1_isKept_22 (by decide) (fun cc => ?_) (fun cc => ?_)
  · replace h := sw_t h cc
    refine lv_iload_n hx hb dX1_isKept_36 rfl (lv_at hl 1 rfl) ?_
    refine lv_if_ne (tgt := 45) hx hb dX1_isKept_37 (by decide) (fun cc => ?_) (fun cc => ?_)
    · replace h := sw_f h cc
      refine lv_iconst (v := 1) hx hb dX1_isKept_45 (by decide) ?_
      refine lv_goto (tgt := 50) hx hb dX1_isKept_46 (by decide) ?_
      exact W.zret (ty := .boolean) hx hb hr rfl (fun t ht hW => ⟨_, rfl, congrArg swB (sw_in1 h), ht⟩) (fun q hq => by cases hq) dX1_isKept_50 hlocks
    · replace h := sw_t h cc
      refine lv_iload hx hb dX1_isKept_40 (lv_at hl 0 rfl) ?_
      refine lv_if_eq (tgt := 49) hx hb dX1_isKept_42 (by decide) (fun cc => ?_) (fun cc => ?_)
      · replace h := sw_t h cc
        refine lv_iconst (v := 0) hx hb dX1_isKept_49 (by decide) ?_
        exact W.zret (ty := .boolean) hx hb hr rfl (fun t ht hW => ⟨_, rfl, congrArg swB (sw_in1 h), ht⟩) (fun q hq => by cases hq) dX1_isKept_50 hlocks
      · replace h := sw_f h cc
        refine lv_iconst (v := 1) hx hb dX1_isKept_45 (by decide) ?_
        refine lv_goto (tgt := 50) hx hb dX1_isKept_46 (by decide) ?_
        exact W.zret (ty := .boolean) hx hb hr rfl (fun t ht hW => ⟨_, rfl, congrArg swB (sw_in1 h), ht⟩) (fun q hq => by cases hq) dX1_isKept_50 hlocks
  · replace h := sw_f h cc
    refine lv_aload_n hx hb dX1_isKept_25 rfl (lv_at hl 2 rfl) ?_
    refine xw_getM hx hb hts hin1 hown hK hG 0 (by decide) f9 rfl dX1_isKept_26 ?_
    refine lv_iload_n hx hb dX1_isKept_29 rfl (lv_at hl 3 rfl) ?_
    obtain ⟨r30, er30, h⟩ := swbd_s h
    refine xw_calli (As := [.int x1]) (rest := []) E (xm0_has l D cy ad u co x1 hco _ er30) (cwV 1 hts gX1_isKept_X0_has rfl rfl rfl (by decide +kernel) ⟨Nat.le_of_ble_eq_true rfl, Nat.le_of_ble_eq_true rfl⟩) hK hP (xw_rD hK hP hco) ⟨Nat.le_of_ble_eq_true rfl, Nat.le_of_ble_eq_true rfl⟩ rfl hl.1 rfl (Nat.le_of_ble_eq_true rfl) dX1_isKept_30 ?_
    refine lv_if_ne (tgt := 51) hx hb dX1_isKept_33 (by decide) (fun cc => ?_) (fun cc => ?_)
    · replace h := sw_f h cc
      refine lv_aload_n hx hb dX1_isKept_51 rfl (lv_at hl 2 rfl) ?_
      refine lv_iload_n hx hb dX1_isKept_52 rfl (lv_at hl 3 rfl) ?_
      obtain ⟨r53, er53, h⟩ := swbd_s h
      refine xw_calliM (As := [.int x1]) (rest := []) E (xm1_isSlideClash l D cy ad g u co ca cb x1 hco hca hcb _ er53) (cwV 1 hts gX1_isKept_X1_isSlideClash rfl rfl rfl (by decide +kernel) ⟨Nat.le_of_ble_eq_true rfl, Nat.le_of_ble_eq_true rfl⟩) hK hP hG ⟨Nat.le_of_ble_eq_true rfl, Nat.le_of_ble_eq_true rfl⟩ rfl hl.1 rfl (Nat.le_of_ble_eq_true rfl) dX1_isKept_53 ?_
      refine lv_if_eq (tgt := 80) hx hb dX1_isKept_56 (by decide) (fun cc => ?_) (fun cc => ?_)
      · replace h := sw_t h cc
        refine lv_iconst (v := 0) hx hb dX1_isKept_80 (by decide) ?_
        exact W.zret (ty := .boolean) hx hb hr rfl (fun t ht hW => ⟨_, rfl, congrArg swB (sw_in1 h), ht⟩) (fun q hq => by cases hq) dX1_isKept_81 hlocks
      · replace h := sw_f h cc
        refine lv_iload_n hx hb dX1_isKept_59 rfl (lv_at hl 4 rfl) ?_
        refine lv_iconst (v := 1) hx hb dX1_isKept_60 (by decide) ?_
        refine lv_icmp_ne (tgt := 72) hx hb dX1_isKept_61 (by decide) (fun cc => ?_) (fun cc => ?_)
        · replace h := sw_f h cc
          refine lv_iload_n hx hb dX1_isKept_72 rfl (lv_at hl 1 rfl) ?_
          refine lv_if_eq (tgt := 80) hx hb dX1_isKept_73 (by decide) (fun cc => ?_) (fun cc => ?_)
          · replace h := sw_t h cc
            refine lv_iconst (v := 0) hx hb dX1_isKept_80 (by decide) ?_
            exact W.zret (ty := .boolean) hx hb hr rfl (fun t ht hW => ⟨_, rfl, congrArg swB (sw_in1 h), ht⟩) (fun q hq => by cases hq) dX1_isKept_81 hlocks
          · replace h := sw_f h cc
            refine lv_iconst (v := 1) hx hb dX1_isKept_76 (by decide) ?_
            refine lv_goto (tgt := 81) hx hb dX1_isKept_77 (by decide) ?_
            exact W.zret (ty := .boolean) hx hb hr rfl (fun t ht hW => ⟨_, rfl, congrArg swB (sw_in1 h), ht⟩) (fun q hq => by cases hq) dX1_isKept_81 hlocks
        · replace h := sw_t h cc
          refine lv_iload hx hb dX1_isKept_64 (lv_at hl 0 rfl) ?_
          refine lv_if_eq (tgt := 80) hx hb dX1_isKept_66 (by decide) (fun cc => ?_) (fun cc => ?_)
          · replace h := sw_t h cc
            refine lv_iconst (v := 0) hx hb dX1_isKept_80 (by decide) ?_
            exact W.zret (ty := .boolean) hx hb hr rfl (fun t ht hW => ⟨_, rfl, congrArg swB (sw_in1 h), ht⟩) (fun q hq => by cases hq) dX1_isKept_81 hlocks
          · replace h := sw_f h cc
            refine lv_goto (tgt := 76) hx hb dX1_isKept_69 (by decide) ?_
            refine lv_iconst (v := 1) hx hb dX1_isKept_76 (by decide) ?_
            refine lv_goto (tgt := 81) hx hb dX1_isKept_77 (by decide) ?_
            exact W.zret (ty := .boolean) hx hb hr rfl (fun t ht hW => ⟨_, rfl, congrArg swB (sw_in1 h), ht⟩) (fun q hq => by cases hq) dX1_isKept_81 hlocks
    · replace h := sw_t h cc
      refine lv_iload_n hx hb dX1_isKept_36 rfl (lv_at hl 1 rfl) ?_
      refine lv_if_ne (tgt := 45) hx hb dX1_isKept_37 (by decide) (fun cc => ?_) (fun cc => ?_)
      · replace h := sw_f h cc
        refine lv_iconst (v := 1) hx hb dX1_isKept_45 (by decide) ?_
        refine lv_goto (tgt := 50) hx hb dX1_isKept_46 (by decide) ?_
        exact W.zret (ty := .boolean) hx hb hr rfl (fun t ht hW => ⟨_, rfl, congrArg swB (sw_in1 h), ht⟩) (fun q hq => by cases hq) dX1_isKept_50 hlocks
      · replace h := sw_t h cc
        refine lv_iload hx hb dX1_isKept_40 (lv_at hl 0 rfl) ?_
        refine lv_if_eq (tgt := 49) hx hb dX1_isKept_42 (by decide) (fun cc => ?_) (fun cc => ?_)
        · replace h := sw_t h cc
          refine lv_iconst (v := 0) hx hb dX1_isKept_49 (by decide) ?_
          exact W.zret (ty := .boolean) hx hb hr rfl (fun t ht hW => ⟨_, rfl, congrArg swB (sw_in1 h), ht⟩) (fun q hq => by cases hq) dX1_isKept_50 hlocks
        · replace h := sw_f h cc
          refine lv_iconst (v := 1) hx hb dX1_isKept_45 (by decide) ?_
          refine lv_goto (tgt := 50) hx hb dX1_isKept_46 (by decide) ?_
          exact W.zret (ty := .boolean) hx hb hr rfl (fun t ht hW => ⟨_, rfl, congrArg swB (sw_in1 h), ht⟩) (fun q hq => by cases hq) dX1_isKept_50 hlocks

/-! X1.countSlides -/
def xx1_countSlides_L5 (u : swU) (co : Nat) (ca : Nat) (cb : Nat) (x1 : Int32) (x2 : Int32) (kk : Int32 → Int32 → Option (Int32)) : Nat → Int32 → Int32 → Option (Int32)
  | 0, _, _ => none
  | n + 1, v3, v4 => if x1 ≤ v4 then (kk v3 v4) else (swbd (xx1_isKept u co ca cb v4 x2) fun r15 => if (swB r15) = 0 then (xx1_countSlides_L5 u co ca cb x1 x2 kk n v3 (v4 + 1)) else (xx1_countSlides_L5 u co ca cb x1 x2 kk n (v3 + 1) (v4 + 1)))

def xx1_countSlides (u : swU) (co : Nat) (ca : Nat) (cb : Nat) (x1 : Int32) (x2 : Int32) : Option (Int32) :=
  xx1_countSlides_L5 u co ca cb x1 x2 (fun v3 v4 => some v3) 64 0 0

abbrev rmX1_countSlides : Room := { frames := 4, cells := 0, slots := 0, locals := 93 }

set_option maxHeartbeats 4000000 in
set_option maxRecDepth 100000 in
theorem xm1_countSlides (l : Launch) (D : va_G) (cy : Nat → ClassId) (ad : Nat → Nat) (g : Nat) (u : swU) (co : Nat) (ca : Nat) (cb : Nat) (x1 : Int32) (x2 : Int32) (hco : xw_D co) (hca : xw_D ca) (hcb : xw_D cb) (r0 : Int32) (h : xx1_countSlides u co ca cb x1 x2 = some r0) : Met l yX1_countSlides wsX1_countSlides rmX1_countSlides (xwCM D cy ad u g co ca cb [.ref g, .int x1, .int x2]) (vp_Si (fun r : Int32 => r = r0)) 0 0 (fun _ => False) := by
  refine Met.ofW (cc := cX1_countSlides) (maxL := 5) (ret := (some .int)) (by decide) rfl ?_
  intro p e s m args below meth c s₁ B hml hv
  obtain ⟨ha, hP, hK, hG⟩ := hv
  have hx := B.exec
  have hb := B.bytes
  have hr := B.returns
  have hlocks := B.notSynchronized
  have hts := atoms_spec (ws := wsX1_countSlides) B.pre
  have hown : s.vm.findClass RX1 = some m.cls := findClass_of_methodNamed B.named
  have E : CallFix p m c cX1_countSlides 5 s args wsX1_countSlides RX1 := ⟨hx, hb, hml, hown, hts⟩
  obtain ⟨ls, hl, hent⟩ := sw_entry m (n := 5) ha (Nat.le_of_ble_eq_true rfl)
  rw [hent]
  have hl : lv_has ls 5 [(0, .ref g), (1, .int x1), (2, .int x2)] := hl
  unfold xx1_countSlides at h
  refine lv_iconst (v := 0) hx hb dX1_countSlides_0 (by decide) ?_
  refine lv_istore_n (lv' := [(3, .int 0), (0, .ref g), (1, .int x1), (2, .int x2)]) hx hb dX1_countSlides_1 rfl hl (by decide) rfl (fun ls hl => ?_)
  refine lv_iconst (v := 0) hx hb dX1_countSlides_2 (by decide) ?_
  refine lv_istore (lv' := [(4, .int 0), (3, .int 0), (0, .ref g), (1, .int x1), (2, .int x2)]) hx hb dX1_countSlides_3 hl (by decide) rfl (fun ls hl => ?_)
  have L5 : ∀ (kk : Int32 → Int32 → Option (Int32)), (∀ (v3 : Int32) (v4 : Int32) (ls : Array Slot), kk v3 v4 = some r0 → lv_has ls 5 [(0, .ref g), (1, .int x1), (2, .int x2), (3, .int v3), (4, .int v4)] → W p l e (headSpec wsX1_countSlides rmX1_countSlides).room s m args below meth c s.heap [] 0 0 (MQ below (vp_Si (fun r : Int32 => r = r0)) args s 0 0 (fun _ => False)) (F0 m 30 ls [])) → ∀ (n : Nat) (v3 : Int32) (v4 : Int32) (ls : Array Slot), xx1_countSlides_L5 u co ca cb x1 x2 kk n v3 v4 = some r0 → lv_has ls 5 [(0, .ref g), (1, .int x1), (2, .int x2), (3, .int v3), (4, .int v4)] → W p l e (headSpec wsX1_countSlides rmX1_countSlides).room s m args below meth c s.heap [] 0 0 (MQ below (vp_Si (fun r : Int32 => r = r0)) args s 0 0 (fun _ => False)) (F0 m 5 ls []) := by
    intro kk hk5 n
    induction n with
    | zero => intro v3 v4 ls h hl; rw [xx1_countSlides_L5] at h; cases h
    | succ n ih5 =>
      intro v3 v4 ls h hl
      rw [xx1_countSlides_L5] at h
      refine lv_iload hx hb dX1_countSlides_5 (lv_at hl 4 rfl) ?_
      refine lv_iload_n hx hb dX1_countSlides_7 rfl (lv_at hl 1 rfl) ?_
      refine lv_icmp_ge (tgt := 30) hx hb dX1_countSlides_8 (by decide) (fun cc => ?_) (fun cc => ?_)
      · replace h := sw_t h cc
        exact hk5 _ _ _ h (lv_sub hl [0, 1, 2, 3, 4] rfl)
      · replace h := sw_f h cc
        refine lv_aload_n hx hb dX1_countSlides_11 rfl (lv_at hl 0 rfl) ?_
        refine lv_iload hx hb dX1_countSlides_12 (lv_at hl 4 rfl) ?_
        refine lv_iload_n hx hb dX1_countSlides_14 rfl (lv_at hl 2 rfl) ?_
        obtain ⟨r15, er15, h⟩ := swbd_s h
        refine xw_calliM (As := [.int v4, .int x2]) (rest := []) E (xm1_isKept l D cy ad g u co ca cb v4 x2 hco hca hcb _ er15) (cwV 2 hts gX1_countSlides_X1_isKept rfl rfl rfl (by decide +kernel) ⟨Nat.le_of_ble_eq_true rfl, Nat.le_of_ble_eq_true rfl⟩) hK hP hG ⟨Nat.le_of_ble_eq_true rfl, Nat.le_of_ble_eq_true rfl⟩ rfl hl.1 rfl (Nat.le_of_ble_eq_true rfl) dX1_countSlides_15 ?_
        refine lv_if_eq (tgt := 24) hx hb dX1_countSlides_18 (by decide) (fun cc => ?_) (fun cc => ?_)
        · replace h := sw_t h cc
          refine lv_iinc (v := (v4 + 1)) (lv' := [(4, .int (v4 + 1)), (0, .ref g), (1, .int x1), (2, .int x2), (3, .int v3)]) hx hb dX1_countSlides_24 hl (k := 4) rfl rfl (by decide) rfl (fun ls hl => ?_)
          refine lv_goto (tgt := 5) hx hb dX1_countSlides_27 (by decide) ?_
          exact ih5 _ _ _ h (lv_sub hl [1, 2, 3, 4, 0] rfl)
        · replace h := sw_f h cc
          refine lv_iinc (v := (v3 + 1)) (lv' := [(3, .int (v3 + 1)), (0, .ref g), (1, .int x1), (2, .int x2), (4, .int v4)]) hx hb dX1_countSlides_21 hl (k := 3) rfl rfl (by decide) rfl (fun ls hl => ?_)
          refine lv_iinc (v := (v4 + 1)) (lv' := [(4, .int (v4 + 1)), (3, .int (v3 + 1)), (0, .ref g), (1, .int x1), (2, .int x2)]) hx hb dX1_countSlides_24 hl (k := 4) rfl rfl (by decide) rfl (fun ls hl => ?_)
          refine lv_goto (tgt := 5) hx hb dX1_countSlides_27 (by decide) ?_
          exact ih5 _ _ _ h (lv_sub hl [2, 3, 4, 1, 0] rfl)
  refine L5 _ (fun v3 v4 ls h hl => ?_) 64 _ _ _ h (lv_sub hl [2, 3, 4, 1, 0] rfl)
  refine lv_iload_n hx hb dX1_countSlides_30 rfl (lv_at hl 3 rfl) ?_
  exact W.iret hx hb hr (fun t ht hW => ⟨_, rfl, sw_in1 h, ht⟩) (fun q hq => by cases hq) dX1_countSlides_31 hlocks

/-! X1.keptValue -/
def xx1_keptValue (u : swU) (co : Nat) (ca : Nat) (cb : Nat) (x1 : Int32) (x2 : Int32) (x3 : Int32) : Option (Int32) :=
  swbd (xx0_has u cb x1) fun r5 => if (swB r5) = 0 then (swbd (xx0_valueOf u ca x1 x2) fun r17 => some r17) else (swbd (xx0_has u ca x1) fun r26 => if (swB r26) = 0 then (swbd (xx0_valueOf u cb x1 x2) fun r38 => some r38) else (swbd (xx0_valueOf u ca x1 x2) fun r48 => swbd (xx0_valueOf u cb x1 x2) fun r59 => swbd (xx1_isObjectClash u co ca cb x1 x2) fun r67 => if (swB r67) = 0 then (swbd (xx0_valueOf u co x1 x2) fun r94 => if r48 = r94 then (some r59) else (some r48)) else (if x3 = 1 then (some r59) else (some r48))))

abbrev rmX1_keptValue : Room := { frames := 3, cells := 0, slots := 0, locals := 70 }

set_option maxHeartbeats 4000000 in
set_option maxRecDepth 100000 in
theorem xm1_keptValue (l : Launch) (D : va_G) (cy : Nat → ClassId) (ad : Nat → Nat) (g : Nat) (u : swU) (co : Nat) (ca : Nat) (cb : Nat) (x1 : Int32) (x2 : Int32) (x3 : Int32) (hco : xw_D co) (hca : xw_D ca) (hcb : xw_D cb) (r0 : Int32) (h : xx1_keptValue u co ca cb x1 x2 x3 = some r0) : Met l yX1_keptValue wsX1_keptValue rmX1_keptValue (xwCM D cy ad u g co ca cb [.ref g, .int x1, .int x2, .int x3]) (vp_Si (fun r : Int32 => r = r0)) 0 0 (fun _ => False) := by
  refine Met.ofW (cc := cX1_keptValue) (maxL := 6) (ret := (some .int)) (by decide) rfl ?_
  intro p e s m args below meth c s₁ B hml hv
  obtain ⟨ha, hP, hK, hG⟩ := hv
  have hx := B.exec
  have hb := B.bytes
  have hr := B.returns
  have hlocks := B.notSynchronized
  have hts := atoms_spec (ws := wsX1_keptValue) B.pre
  have hown : s.vm.findClass RX1 = some m.cls := findClass_of_methodNamed B.named
  have E : CallFix p m c cX1_keptValue 6 s args wsX1_keptValue RX1 := ⟨hx, hb, hml, hown, hts⟩
  have hin1 : ∀ w ∈ wsX10, w ∈ wsX1_keptValue := by decide +kernel
  have f15 : (Cond.fieldLink RX1 15 "Slidewarden$Merge" "ours" "LSlidewarden$Deck;").before args s = true := hts _ (by decide +kernel)
  have f18 : (Cond.fieldLink RX1 18 "Slidewarden$Merge" "theirs" "LSlidewarden$Deck;").before args s = true := hts _ (by decide +kernel)
  have f9 : (Cond.fieldLink RX1 9 "Slidewarden$Merge" "old" "LSlidewarden$Deck;").before args s = true := hts _ (by decide +kernel)
  obtain ⟨ls, hl, hent⟩ := sw_entry m (n := 6) ha (Nat.le_of_ble_eq_true rfl)
  rw [hent]
  have hl : lv_has ls 6 [(0, .ref g), (1, .int x1), (2, .int x2), (3, .int x3)] := hl
  unfold xx1_keptValue at h
  refine lv_aload_n hx hb dX1_keptValue_0 rfl (lv_at hl 0 rfl) ?_
  refine xw_getM hx hb hts hin1 hown hK hG 2 (by decide) f18 rfl dX1_keptValue_1 ?_
  refine lv_iload_n hx hb dX1_keptValue_4 rfl (lv_at hl 1 rfl) ?_
  obtain ⟨r5, er5, h⟩ := swbd_s h
  refine xw_calli (As := [.int x1]) (rest := []) E (xm0_has l D cy ad u cb x1 hcb _ er5) (cwV 1 hts gX1_keptValue_X0_has rfl rfl rfl (by decide +kernel) ⟨Nat.le_of_ble_eq_true rfl, Nat.le_of_ble_eq_true rfl⟩) hK hP (xw_rD hK hP hcb) ⟨Nat.le_of_ble_eq_true rfl, Nat.le_of_ble_eq_true rfl⟩ rfl hl.1 rfl (Nat.le_of_ble_eq_true rfl) dX1_keptValue_5 ?_
  refine lv_if_ne (tgt := 21) hx hb dX1_keptValue_8 (by decide) (fun cc => ?_) (fun cc => ?_)
  · replace h := sw_f h cc
    refine lv_aload_n hx hb dX1_keptValue_21 rfl (lv_at hl 0 rfl) ?_
    refine xw_getM hx hb hts hin1 hown hK hG 1 (by decide) f15 rfl dX1_keptValue_22 ?_
    refine lv_iload_n hx hb dX1_keptValue_25 rfl (lv_at hl 1 rfl) ?_
    obtain ⟨r26, er26, h⟩ := swbd_s h
    refine xw_calli (As := [.int x1]) (rest := []) E (xm0_has l D cy ad u ca x1 hca _ er26) (cwV 1 hts gX1_keptValue_X0_has rfl rfl rfl (by decide +kernel) ⟨Nat.le_of_ble_eq_true rfl, Nat.le_of_ble_eq_true rfl⟩) hK hP (xw_rD hK hP hca) ⟨Nat.le_of_ble_eq_true rfl, Nat.le_of_ble_eq_true rfl⟩ rfl hl.1 rfl (Nat.le_of_ble_eq_true rfl) dX1_keptValue_26 ?_
    refine lv_if_ne (tgt := 42) hx hb dX1_keptValue_29 (by decide) (fun cc => ?_) (fun cc => ?_)
    · replace h := sw_f h cc
      refine lv_aload_n hx hb dX1_keptValue_42 rfl (lv_at hl 0 rfl) ?_
      refine xw_getM hx hb hts hin1 hown hK hG 1 (by decide) f15 rfl dX1_keptValue_43 ?_
      refine lv_iload_n hx hb dX1_keptValue_46 rfl (lv_at hl 1 rfl) ?_
      refine lv_iload_n hx hb dX1_keptValue_47 rfl (lv_at hl 2 rfl) ?_
      obtain ⟨r48, er48, h⟩ := swbd_s h
      refine xw_calli (As := [.int x1, .int x2]) (rest := []) E (xm0_valueOf l D cy ad u ca x1 x2 hca _ er48) (cwV 2 hts gX1_keptValue_X0_valueOf rfl rfl rfl (by decide +kernel) ⟨Nat.le_of_ble_eq_true rfl, Nat.le_of_ble_eq_true rfl⟩) hK hP (xw_rD hK hP hca) ⟨Nat.le_of_ble_eq_true rfl, Nat.le_of_ble_eq_true rfl⟩ rfl hl.1 rfl (Nat.le_of_ble_eq_true rfl) dX1_keptValue_48 ?_
      refine lv_istore (lv' := [(4, .int r48), (0, .ref g), (1, .int x1), (2, .int x2), (3, .int x3)]) hx hb dX1_keptValue_51 hl (by decide) rfl (fun ls hl => ?_)
      refine lv_aload_n hx hb dX1_keptValue_53 rfl (lv_at hl 1 rfl) ?_
      refine xw_getM hx hb hts hin1 hown hK hG 2 (by decide) f18 rfl dX1_keptValue_54 ?_
      refine lv_iload_n hx hb dX1_keptValue_57 rfl (lv_at hl 2 rfl) ?_
      refine lv_iload_n hx hb dX1_keptValue_58 rfl (lv_at hl 3 rfl) ?_
      obtain ⟨r59, er59, h⟩ := swbd_s h
      refine xw_calli (As := [.int x1, .int x2]) (rest := []) E (xm0_valueOf l D cy ad u cb x1 x2 hcb _ er59) (cwV 2 hts gX1_keptValue_X0_valueOf rfl rfl rfl (by decide +kernel) ⟨Nat.le_of_ble_eq_true rfl, Nat.le_of_ble_eq_true rfl⟩) hK hP (xw_rD hK hP hcb) ⟨Nat.le_of_ble_eq_true rfl, Nat.le_of_ble_eq_true rfl⟩ rfl hl.1 rfl (Nat.le_of_ble_eq_true rfl) dX1_keptValue_59 ?_
      refine lv_istore (lv' := [(5, .int r59), (4, .int r48), (0, .ref g), (1, .int x1), (2, .int x2), (3, .int x3)]) hx hb dX1_keptValue_62 hl (by decide) rfl (fun ls hl => ?_)
      refine lv_aload_n hx hb dX1_keptValue_64 rfl (lv_at hl 2 rfl) ?_
      refine lv_iload_n hx hb dX1_keptValue_65 rfl (lv_at hl 3 rfl) ?_
      refine lv_iload_n hx hb dX1_keptValue_66 rfl (lv_at hl 4 rfl) ?_
      obtain ⟨r67, er67, h⟩ := swbd_s h
      refine xw_calliM (As := [.int x1, .int x2]) (rest := []) E (xm1_isObjectClash l D cy ad g u co ca cb x1 x2 hco hca hcb _ er67) (cwV 2 hts gX1_keptValue_X1_isObjectClash rfl rfl rfl (by decide +kernel) ⟨Nat.le_of_ble_eq_true rfl, Nat.le_of_ble_eq_true rfl⟩) hK hP hG ⟨Nat.le_of_ble_eq_true rfl, Nat.le_of_ble_eq_true rfl⟩ rfl hl.1 rfl (Nat.le_of_ble_eq_true rfl) dX1_keptValue_67 ?_
      refine lv_if_eq (tgt := 86) hx hb dX1_keptValue_70 (by decide) (fun cc => ?_) (fun cc => ?_)
      · replace h := sw_t h cc
        refine lv_iload hx hb dX1_keptValue_86 (lv_at hl 1 rfl) ?_
        refine lv_aload_n hx hb dX1_keptValue_88 rfl (lv_at hl 2 rfl) ?_
        refine xw_getM hx hb hts hin1 hown hK hG 0 (by decide) f9 rfl dX1_keptValue_89 ?_
        refine lv_iload_n hx hb dX1_keptValue_92 rfl (lv_at hl 3 rfl) ?_
        refine lv_iload_n hx hb dX1_keptValue_93 rfl (lv_at hl 4 rfl) ?_
        obtain ⟨r94, er94, h⟩ := swbd_s h
        refine xw_calli (As := [.int x1, .int x2]) (rest := [.int r48]) E (xm0_valueOf l D cy ad u co x1 x2 hco _ er94) (cwV 2 hts gX1_keptValue_X0_valueOf rfl rfl rfl (by decide +kernel) ⟨Nat.le_of_ble_eq_true rfl, Nat.le_of_ble_eq_true rfl⟩) hK hP (xw_rD hK hP hco) ⟨Nat.le_of_ble_eq_true rfl, Nat.le_of_ble_eq_true rfl⟩ rfl hl.1 rfl (Nat.le_of_ble_eq_true rfl) dX1_keptValue_94 ?_
        refine lv_icmp_ne (tgt := 105) hx hb dX1_keptValue_97 (by decide) (fun cc => ?_) (fun cc => ?_)
        · replace h := sw_f h cc
          refine lv_iload hx hb dX1_keptValue_105 (lv_at hl 1 rfl) ?_
          exact W.iret hx hb hr (fun t ht hW => ⟨_, rfl, sw_in1 h, ht⟩) (fun q hq => by cases hq) dX1_keptValue_107 hlocks
        · replace h := sw_t h cc
          refine lv_iload hx hb dX1_keptValue_100 (lv_at hl 0 rfl) ?_
          refine lv_goto (tgt := 107) hx hb dX1_keptValue_102 (by decide) ?_
          exact W.iret hx hb hr (fun t ht hW => ⟨_, rfl, sw_in1 h, ht⟩) (fun q hq => by cases hq) dX1_keptValue_107 hlocks
      · replace h := sw_f h cc
        refine lv_iload_n hx hb dX1_keptValue_73 rfl (lv_at hl 5 rfl) ?_
        refine lv_iconst (v := 1) hx hb dX1_keptValue_74 (by decide) ?_
        refine lv_icmp_ne (tgt := 83) hx hb dX1_keptValue_75 (by decide) (fun cc => ?_) (fun cc => ?_)
        · replace h := sw_f h cc
          refine lv_iload hx hb dX1_keptValue_83 (lv_at hl 1 rfl) ?_
          exact W.iret hx hb hr (fun t ht hW => ⟨_, rfl, sw_in1 h, ht⟩) (fun q hq => by cases hq) dX1_keptValue_85 hlocks
        · replace h := sw_t h cc
          refine lv_iload hx hb dX1_keptValue_78 (lv_at hl 0 rfl) ?_
          refine lv_goto (tgt := 85) hx hb dX1_keptValue_80 (by decide) ?_
          exact W.iret hx hb hr (fun t ht hW => ⟨_, rfl, sw_in1 h, ht⟩) (fun q hq => by cases hq) dX1_keptValue_85 hlocks
    · replace h := sw_t h cc
      refine lv_aload_n hx hb dX1_keptValue_32 rfl (lv_at hl 0 rfl) ?_
      refine xw_getM hx hb hts hin1 hown hK hG 2 (by decide) f18 rfl dX1_keptValue_33 ?_
      refine lv_iload_n hx hb dX1_keptValue_36 rfl (lv_at hl 1 rfl) ?_
      refine lv_iload_n hx hb dX1_keptValue_37 rfl (lv_at hl 2 rfl) ?_
      obtain ⟨r38, er38, h⟩ := swbd_s h
      refine xw_calli (As := [.int x1, .int x2]) (rest := []) E (xm0_valueOf l D cy ad u cb x1 x2 hcb _ er38) (cwV 2 hts gX1_keptValue_X0_valueOf rfl rfl rfl (by decide +kernel) ⟨Nat.le_of_ble_eq_true rfl, Nat.le_of_ble_eq_true rfl⟩) hK hP (xw_rD hK hP hcb) ⟨Nat.le_of_ble_eq_true rfl, Nat.le_of_ble_eq_true rfl⟩ rfl hl.1 rfl (Nat.le_of_ble_eq_true rfl) dX1_keptValue_38 ?_
      exact W.iret hx hb hr (fun t ht hW => ⟨_, rfl, sw_in1 h, ht⟩) (fun q hq => by cases hq) dX1_keptValue_41 hlocks
  · replace h := sw_t h cc
    refine lv_aload_n hx hb dX1_keptValue_11 rfl (lv_at hl 0 rfl) ?_
    refine xw_getM hx hb hts hin1 hown hK hG 1 (by decide) f15 rfl dX1_keptValue_12 ?_
    refine lv_iload_n hx hb dX1_keptValue_15 rfl (lv_at hl 1 rfl) ?_
    refine lv_iload_n hx hb dX1_keptValue_16 rfl (lv_at hl 2 rfl) ?_
    obtain ⟨r17, er17, h⟩ := swbd_s h
    refine xw_calli (As := [.int x1, .int x2]) (rest := []) E (xm0_valueOf l D cy ad u ca x1 x2 hca _ er17) (cwV 2 hts gX1_keptValue_X0_valueOf rfl rfl rfl (by decide +kernel) ⟨Nat.le_of_ble_eq_true rfl, Nat.le_of_ble_eq_true rfl⟩) hK hP (xw_rD hK hP hca) ⟨Nat.le_of_ble_eq_true rfl, Nat.le_of_ble_eq_true rfl⟩ rfl hl.1 rfl (Nat.le_of_ble_eq_true rfl) dX1_keptValue_17 ?_
    exact W.iret hx hb hr (fun t ht hW => ⟨_, rfl, sw_in1 h, ht⟩) (fun q hq => by cases hq) dX1_keptValue_20 hlocks

/-! X1.resultOf -/
def xx1_resultOf (u : swU) (co : Nat) (ca : Nat) (cb : Nat) (x1 : Int32) (x2 : Int32) (x3 : Int32) : Option (Int32) :=
  swbd (xx1_isKept u co ca cb x1 x3) fun r3 => if (swB r3) = 0 then (some (-1)) else (swbd (xx1_keptValue u co ca cb x1 x2 x3) fun r13 => some r13)

abbrev rmX1_resultOf : Room := { frames := 4, cells := 0, slots := 0, locals := 95 }

set_option maxHeartbeats 4000000 in
set_option maxRecDepth 100000 in
theorem xm1_resultOf (l : Launch) (D : va_G) (cy : Nat → ClassId) (ad : Nat → Nat) (g : Nat) (u : swU) (co : Nat) (ca : Nat) (cb : Nat) (x1 : Int32) (x2 : Int32) (x3 : Int32) (hco : xw_D co) (hca : xw_D ca) (hcb : xw_D cb) (r0 : Int32) (h : xx1_resultOf u co ca cb x1 x2 x3 = some r0) : Met l yX1_resultOf wsX1_resultOf rmX1_resultOf (xwCM D cy ad u g co ca cb [.ref g, .int x1, .int x2, .int x3]) (vp_Si (fun r : Int32 => r = r0)) 0 0 (fun _ => False) := by
  refine Met.ofW (cc := cX1_resultOf) (maxL := 4) (ret := (some .int)) (by decide) rfl ?_
  intro p e s m args below meth c s₁ B hml hv
  obtain ⟨ha, hP, hK, hG⟩ := hv
  have hx := B.exec
  have hb := B.bytes
  have hr := B.returns
  have hlocks := B.notSynchronized
  have hts := atoms_spec (ws := wsX1_resultOf) B.pre
  have hown : s.vm.findClass RX1 = some m.cls := findClass_of_methodNamed B.named
  have E : CallFix p m c cX1_resultOf 4 s args wsX1_resultOf RX1 := ⟨hx, hb, hml, hown, hts⟩
  obtain ⟨ls, hl, hent⟩ := sw_entry m (n := 4) ha (Nat.le_of_ble_eq_true rfl)
  rw [hent]
  have hl : lv_has ls 4 [(0, .ref g), (1, .int x1), (2, .int x2), (3, .int x3)] := hl
  unfold xx1_resultOf at h
  refine lv_aload_n hx hb dX1_resultOf_0 rfl (lv_at hl 0 rfl) ?_
  refine lv_iload_n hx hb dX1_resultOf_1 rfl (lv_at hl 1 rfl) ?_
  refine lv_iload_n hx hb dX1_resultOf_2 rfl (lv_at hl 3 rfl) ?_
  obtain ⟨r3, er3, h⟩ := swbd_s h
  refine xw_calliM (As := [.int x1, .int x3]) (rest := []) E (xm1_isKept l D cy ad g u co ca cb x1 x3 hco hca hcb _ er3) (cwV 2 hts gX1_resultOf_X1_isKept rfl rfl rfl (by decide +kernel) ⟨Nat.le_of_ble_eq_true rfl, Nat.le_of_ble_eq_true rfl⟩) hK hP hG ⟨Nat.le_of_ble_eq_true rfl, Nat.le_of_ble_eq_true rfl⟩ rfl hl.1 rfl (Nat.le_of_ble_eq_true rfl) dX1_resultOf_3 ?_
  refine lv_if_eq (tgt := 19) hx hb dX1_resultOf_6 (by decide) (fun cc => ?_) (fun cc => ?_)
  · replace h := sw_t h cc
    refine lv_iconst (v := (-1)) hx hb dX1_resultOf_19 (by decide) ?_
    exact W.iret hx hb hr (fun t ht hW => ⟨_, rfl, sw_in1 h, ht⟩) (fun q hq => by cases hq) dX1_resultOf_20 hlocks
  · replace h := sw_f h cc
    refine lv_aload_n hx hb dX1_resultOf_9 rfl (lv_at hl 0 rfl) ?_
    refine lv_iload_n hx hb dX1_resultOf_10 rfl (lv_at hl 1 rfl) ?_
    refine lv_iload_n hx hb dX1_resultOf_11 rfl (lv_at hl 2 rfl) ?_
    refine lv_iload_n hx hb dX1_resultOf_12 rfl (lv_at hl 3 rfl) ?_
    obtain ⟨r13, er13, h⟩ := swbd_s h
    refine xw_calliM (As := [.int x1, .int x2, .int x3]) (rest := []) E (xm1_keptValue l D cy ad g u co ca cb x1 x2 x3 hco hca hcb _ er13) (cwV 3 hts gX1_resultOf_X1_keptValue rfl rfl rfl (by decide +kernel) ⟨Nat.le_of_ble_eq_true rfl, Nat.le_of_ble_eq_true rfl⟩) hK hP hG ⟨Nat.le_of_ble_eq_true rfl, Nat.le_of_ble_eq_true rfl⟩ rfl hl.1 rfl (Nat.le_of_ble_eq_true rfl) dX1_resultOf_13 ?_
    refine lv_goto (tgt := 20) hx hb dX1_resultOf_16 (by decide) ?_
    exact W.iret hx hb hr (fun t ht hW => ⟨_, rfl, sw_in1 h, ht⟩) (fun q hq => by cases hq) dX1_resultOf_20 hlocks

/-! X1.append -/
def xx1_append_L16 (co : Nat) (ca : Nat) (cb : Nat) (d1 : Nat) (x2 : Int32) (x3 : Int32) (y4 : Int32) (kk : Int32 → swU → Option (swU)) : Nat → Int32 → swU → Option (swU)
  | 0, _, _ => none
  | n + 1, v5, w16 => if 4 ≤ v5 then (kk v5 w16) else (swbd (xx1_keptValue w16 co ca cb x2 v5 x3) fun r32 => swbd (xx0_put w16 d1 y4 v5 r32) fun u35 => xx1_append_L16 co ca cb d1 x2 x3 y4 kk n (v5 + 1) u35)

def xx1_append (u : swU) (co : Nat) (ca : Nat) (cb : Nat) (d1 : Nat) (x2 : Int32) (x3 : Int32) : Option (swU) :=
  swlt (u.1 d1 2) fun y4 => swbd (xx0_insert u d1 y4 x2) fun u10 => xx1_append_L16 co ca cb d1 x2 x3 y4 (fun v5 w44 => some w44) 64 0 u10

abbrev rmX1_append : Room := { frames := 4, cells := 0, slots := 0, locals := 95 }

set_option maxHeartbeats 4000000 in
set_option maxRecDepth 100000 in
theorem xm1_append (l : Launch) (D : va_G) (cy : Nat → ClassId) (ad : Nat → Nat) (hJ : swJ xw_N ad) (g : Nat) (hg : ∀ c, xw_N c = true → ad c ≠ g) (u : swU) (co : Nat) (ca : Nat) (cb : Nat) (d1 : Nat) (x2 : Int32) (x3 : Int32) (hco : xw_D co) (hca : xw_D ca) (hcb : xw_D cb) (hd1 : xw_D d1) (u0 : swU) (h : xx1_append u co ca cb d1 x2 x3 = some u0) : Met l yX1_append wsX1_append rmX1_append (xwCM D cy ad u g co ca cb [.ref g, .ref (ad d1), .int x2, .int x3]) (xwQv D cy ad u0) 0 0 (xwA0 ad) := by
  refine Met.ofW (cc := cX1_append) (maxL := 6) (ret := none) (by decide) rfl ?_
  intro p e s m args below meth c s₁ B hml hv
  obtain ⟨ha, hP, hK, hG⟩ := hv
  have hx := B.exec
  have hb := B.bytes
  have hr := B.returns
  have hlocks := B.notSynchronized
  have hts := atoms_spec (ws := wsX1_append) B.pre
  have hown : s.vm.findClass RX1 = some m.cls := findClass_of_methodNamed B.named
  have E : CallFix p m c cX1_append 6 s args wsX1_append RX1 := ⟨hx, hb, hml, hown, hts⟩
  have hin0 : ∀ w ∈ wsX00, w ∈ wsX1_append := by decide +kernel
  have f45 : (Cond.fieldLink RX1 45 "Slidewarden$Deck" "size" "I").before args s = true := hts _ (by decide +kernel)
  have hS : va_S (xwA0 ad) s.heap s.heap [] := va_S.rf
  obtain ⟨ls, hl, hent⟩ := sw_entry m (n := 6) ha (Nat.le_of_ble_eq_true rfl)
  rw [hent]
  have hl : lv_has ls 6 [(0, .ref g), (1, .ref (ad d1)), (2, .int x2), (3, .int x3)] := hl
  unfold xx1_append at h
  refine lv_aload_n hx hb dX1_append_0 rfl (lv_at hl 1 rfl) ?_
  refine xw_getD hx hb hts hin0 hown hK hP hd1 2 (by decide) f45 rfl dX1_append_1 ?_
  obtain ⟨y4, ey4, h⟩ := swlt_s h
  refine sw_top ey4 ?_
  refine lv_istore (lv' := [(4, .int y4), (0, .ref g), (1, .ref (ad d1)), (2, .int x2), (3, .int x3)]) hx hb dX1_append_4 hl (by decide) rfl (fun ls hl => ?_)
  refine lv_aload_n hx hb dX1_append_6 rfl (lv_at hl 2 rfl) ?_
  refine lv_iload hx hb dX1_append_7 (lv_at hl 0 rfl) ?_
  refine lv_iload_n hx hb dX1_append_9 rfl (lv_at hl 3 rfl) ?_
  obtain ⟨u10, er10, h⟩ := swbd_s h
  refine xw_callWv (As := [.int y4, .int x2]) (rest := []) E (xm0_insert l D cy ad hJ u d1 y4 x2 hd1 _ er10) (cwV 2 hts gX1_append_X0_insert rfl rfl rfl (by decide +kernel) ⟨Nat.le_of_ble_eq_true rfl, Nat.le_of_ble_eq_true rfl⟩) hK hP hS xw_A0 (xw_rD hK hP hd1) ⟨Nat.le_of_ble_eq_true rfl, Nat.le_of_ble_eq_true rfl⟩ rfl hl.1 rfl (Nat.le_of_ble_eq_true rfl) dX1_append_10 (fun H locs hP hS _ _ => ?_)
  refine lv_iconst (v := 0) hx hb dX1_append_13 (by decide) ?_
  refine lv_istore (lv' := [(5, .int 0), (4, .int y4), (0, .ref g), (1, .ref (ad d1)), (2, .int x2), (3, .int x3)]) hx hb dX1_append_14 hl (by decide) rfl (fun ls hl => ?_)
  have L16 : ∀ (kk : Int32 → swU → Option (swU)), (∀ (v5 : Int32) (w16 : swU) (H : Heap) (locs : List Loc) (ls : Array Slot), kk v5 w16 = some u0 → xwP D cy ad w16 H → va_S (xwA0 ad) s.heap H locs → lv_has ls 6 [(0, .ref g), (1, .ref (ad d1)), (2, .int x2), (3, .int x3), (4, .int y4), (5, .int v5)] → W p l e (headSpec wsX1_append rmX1_append).room s m args below meth c H locs 0 0 (MQ below (xwQv D cy ad u0) args s 0 0 (xwA0 ad)) (F0 m 44 ls [])) → ∀ (n : Nat) (v5 : Int32) (w16 : swU) (H : Heap) (locs : List Loc) (ls : Array Slot), xx1_append_L16 co ca cb d1 x2 x3 y4 kk n v5 w16 = some u0 → xwP D cy ad w16 H → va_S (xwA0 ad) s.heap H locs → lv_has ls 6 [(0, .ref g), (1, .ref (ad d1)), (2, .int x2), (3, .int x3), (4, .int y4), (5, .int v5)] → W p l e (headSpec wsX1_append rmX1_append).room s m args below meth c H locs 0 0 (MQ below (xwQv D cy ad u0) args s 0 0 (xwA0 ad)) (F0 m 16 ls []) := by
    intro kk hk16 n
    induction n with
    | zero => intro v5 w16 H locs ls h hP hS hl; rw [xx1_append_L16] at h; cases h
    | succ n ih16 =>
      intro v5 w16 H locs ls h hP hS hl
      rw [xx1_append_L16] at h
      refine lv_iload hx hb dX1_append_16 (lv_at hl 5 rfl) ?_
      refine lv_iconst (v := 4) hx hb dX1_append_18 (by decide) ?_
      refine lv_icmp_ge (tgt := 44) hx hb dX1_append_19 (by decide) (fun cc => ?_) (fun cc => ?_)
      · replace h := sw_t h cc
        exact hk16 _ _ _ _ _ h hP hS (lv_sub hl [0, 1, 2, 3, 4, 5] rfl)
      · replace h := sw_f h cc
        refine lv_aload_n hx hb dX1_append_22 rfl (lv_at hl 1 rfl) ?_
        refine lv_iload hx hb dX1_append_23 (lv_at hl 4 rfl) ?_
        refine lv_iload hx hb dX1_append_25 (lv_at hl 5 rfl) ?_
        refine lv_aload_n hx hb dX1_append_27 rfl (lv_at hl 0 rfl) ?_
        refine lv_iload_n hx hb dX1_append_28 rfl (lv_at hl 2 rfl) ?_
        refine lv_iload hx hb dX1_append_29 (lv_at hl 5 rfl) ?_
        refine lv_iload_n hx hb dX1_append_31 rfl (lv_at hl 3 rfl) ?_
        obtain ⟨r32, er32, h⟩ := swbd_s h
        refine xw_calliM (As := [.int x2, .int v5, .int x3]) (rest := [.int v5, .int y4, .ref (ad d1)]) E (xm1_keptValue l D cy ad g w16 co ca cb x2 v5 x3 hco hca hcb _ er32) (cwV 3 hts gX1_append_X1_keptValue rfl rfl rfl (by decide +kernel) ⟨Nat.le_of_ble_eq_true rfl, Nat.le_of_ble_eq_true rfl⟩) hK hP (xw_G hg hG hS) ⟨Nat.le_of_ble_eq_true rfl, Nat.le_of_ble_eq_true rfl⟩ rfl hl.1 rfl (Nat.le_of_ble_eq_true rfl) dX1_append_32 ?_
        obtain ⟨u35, er35, h⟩ := swbd_s h
        refine xw_callWv (As := [.int y4, .int v5, .int r32]) (rest := []) E (xm0_put l D cy ad hJ w16 d1 y4 v5 r32 hd1 _ er35) (cwV 3 hts gX1_append_X0_put rfl rfl rfl (by decide +kernel) ⟨Nat.le_of_ble_eq_true rfl, Nat.le_of_ble_eq_true rfl⟩) hK hP hS xw_A0 (xw_rD hK hP hd1) ⟨Nat.le_of_ble_eq_true rfl, Nat.le_of_ble_eq_true rfl⟩ rfl hl.1 rfl (Nat.le_of_ble_eq_true rfl) dX1_append_35 (fun H locs hP hS _ _ => ?_)
        refine lv_iinc (v := (v5 + 1)) (lv' := [(5, .int (v5 + 1)), (0, .ref g), (1, .ref (ad d1)), (2, .int x2), (3, .int x3), (4, .int y4)]) hx hb dX1_append_38 hl (k := 5) rfl rfl (by decide) rfl (fun ls hl => ?_)
        refine lv_goto (tgt := 16) hx hb dX1_append_41 (by decide) ?_
        exact ih16 _ _ _ _ _ h hP hS (lv_sub hl [1, 2, 3, 4, 5, 0] rfl)
  refine L16 _ (fun v5 w44 H locs ls h hP hS hl => ?_) 64 _ _ _ _ _ h hP hS (lv_sub hl [2, 3, 4, 5, 1, 0] rfl)
  exact W.vret hx hb hr (fun t ht hW => ⟨⟨(), rfl, trivial, xw_end hP ht (sw_in1 h)⟩, hS.F ht⟩) hS.2.2 dX1_append_44 hlocks

/-! X1.fill -/
def xx1_fill_L7 (co : Nat) (ca : Nat) (cb : Nat) (d1 : Nat) (x2 : Int32) (kk : Int32 → swU → Option (swU)) : Nat → Int32 → swU → Option (swU)
  | 0, _, _ => none
  | n + 1, v3, w7 => if (w7.1 ca 2) ≤ v3 then (kk v3 w7) else (swrd 8 (w7.1 (ca + 100)) v3 fun a26 => swbd (xx1_isKept w7 co ca cb a26 x2) fun r33 => if (swB r33) = 0 then (xx1_fill_L7 co ca cb d1 x2 kk n (v3 + 1) w7) else (swbd (xx1_append w7 co ca cb d1 a26 x2) fun u44 => xx1_fill_L7 co ca cb d1 x2 kk n (v3 + 1) u44))

def xx1_fill_L55 (co : Nat) (ca : Nat) (cb : Nat) (d1 : Nat) (x2 : Int32) (kk : Int32 → swU → Option (swU)) : Nat → Int32 → swU → Option (swU)
  | 0, _, _ => none
  | n + 1, v3, w55 => if (w55.1 cb 2) ≤ v3 then (kk v3 w55) else (swrd 8 (w55.1 (cb + 100)) v3 fun a74 => swbd (xx0_has w55 ca a74) fun r83 => if (swB r83) = 0 then (swbd (xx1_isKept w55 co ca cb a74 x2) fun r93 => if (swB r93) = 0 then (xx1_fill_L55 co ca cb d1 x2 kk n (v3 + 1) w55) else (swbd (xx1_append w55 co ca cb d1 a74 x2) fun u104 => xx1_fill_L55 co ca cb d1 x2 kk n (v3 + 1) u104)) else (xx1_fill_L55 co ca cb d1 x2 kk n (v3 + 1) w55))

def xx1_fill (u : swU) (co : Nat) (ca : Nat) (cb : Nat) (d1 : Nat) (x2 : Int32) : Option (swU) :=
  swlt (swI u d1 2 0) fun u2 => xx1_fill_L7 co ca cb d1 x2 (fun v3 w53 => xx1_fill_L55 co ca cb d1 x2 (fun v3 w113 => some w113) 64 0 w53) 64 0 u2

abbrev rmX1_fill : Room := { frames := 5, cells := 0, slots := 0, locals := 120 }

set_option maxHeartbeats 4000000 in
set_option maxRecDepth 100000 in
theorem xm1_fill (l : Launch) (D : va_G) (cy : Nat → ClassId) (ad : Nat → Nat) (hJ : swJ xw_N ad) (g : Nat) (hg : ∀ c, xw_N c = true → ad c ≠ g) (u : swU) (co : Nat) (ca : Nat) (cb : Nat) (d1 : Nat) (x2 : Int32) (hco : xw_D co) (hca : xw_D ca) (hcb : xw_D cb) (hd1 : xw_D d1) (u0 : swU) (h : xx1_fill u co ca cb d1 x2 = some u0) : Met l yX1_fill wsX1_fill rmX1_fill (xwCM D cy ad u g co ca cb [.ref g, .ref (ad d1), .int x2]) (xwQv D cy ad u0) 0 0 (xwA0 ad) := by
  refine Met.ofW (cc := cX1_fill) (maxL := 5) (ret := none) (by decide) rfl ?_
  intro p e s m args below meth c s₁ B hml hv
  obtain ⟨ha, hP, hK, hG⟩ := hv
  have hx := B.exec
  have hb := B.bytes
  have hr := B.returns
  have hlocks := B.notSynchronized
  have hts := atoms_spec (ws := wsX1_fill) B.pre
  have hown : s.vm.findClass RX1 = some m.cls := findClass_of_methodNamed B.named
  have E : CallFix p m c cX1_fill 5 s args wsX1_fill RX1 := ⟨hx, hb, hml, hown, hts⟩
  have hin0 : ∀ w ∈ wsX00, w ∈ wsX1_fill := by decide +kernel
  have hin1 : ∀ w ∈ wsX10, w ∈ wsX1_fill := by decide +kernel
  have f15 : (Cond.fieldLink RX1 15 "Slidewarden$Merge" "ours" "LSlidewarden$Deck;").before args s = true := hts _ (by decide +kernel)
  have f18 : (Cond.fieldLink RX1 18 "Slidewarden$Merge" "theirs" "LSlidewarden$Deck;").before args s = true := hts _ (by decide +kernel)
  have f45 : (Cond.fieldLink RX1 45 "Slidewarden$Deck" "size" "I").before args s = true := hts _ (by decide +kernel)
  have f49 : (Cond.fieldLink RX1 49 "Slidewarden$Deck" "slides" "[I").before args s = true := hts _ (by decide +kernel)
  have hS : va_S (xwA0 ad) s.heap s.heap [] := va_S.rf
  obtain ⟨ls, hl, hent⟩ := sw_entry m (n := 5) ha (Nat.le_of_ble_eq_true rfl)
  rw [hent]
  have hl : lv_has ls 5 [(0, .ref g), (1, .ref (ad d1)), (2, .int x2)] := hl
  unfold xx1_fill at h
  refine lv_aload_n hx hb dX1_fill_0 rfl (lv_at hl 1 rfl) ?_
  refine lv_iconst (v := 0) hx hb dX1_fill_1 (by decide) ?_
  obtain ⟨u2, eu2, h⟩ := swlt_s h
  refine xw_putD hx hb hts hin0 hown hK hJ xw_A0 hP hS hd1 f45 eu2 dX1_fill_2 (fun H locs hP hS => ?_)
  refine lv_iconst (v := 0) hx hb dX1_fill_5 (by decide) ?_
  refine lv_istore_n (lv' := [(3, .int 0), (0, .ref g), (1, .ref (ad d1)), (2, .int x2)]) hx hb dX1_fill_6 rfl hl (by decide) rfl (fun ls hl => ?_)
  have L7 : ∀ (kk : Int32 → swU → Option (swU)), (∀ (v3 : Int32) (w7 : swU) (H : Heap) (locs : List Loc) (ls : Array Slot), kk v3 w7 = some u0 → xwP D cy ad w7 H → va_S (xwA0 ad) s.heap H locs → lv_has ls 5 [(0, .ref g), (1, .ref (ad d1)), (2, .int x2), (3, .int v3)] → W p l e (headSpec wsX1_fill rmX1_fill).room s m args below meth c H locs 0 0 (MQ below (xwQv D cy ad u0) args s 0 0 (xwA0 ad)) (F0 m 53 ls [])) → ∀ (n : Nat) (v3 : Int32) (w7 : swU) (H : Heap) (locs : List Loc) (ls : Array Slot), xx1_fill_L7 co ca cb d1 x2 kk n v3 w7 = some u0 → xwP D cy ad w7 H → va_S (xwA0 ad) s.heap H locs → lv_has ls 5 [(0, .ref g), (1, .ref (ad d1)), (2, .int x2), (3, .int v3)] → W p l e (headSpec wsX1_fill rmX1_fill).room s m args below meth c H locs 0 0 (MQ below (xwQv D cy ad u0) args s 0 0 (xwA0 ad)) (F0 m 7 ls []) := by
    intro kk hk7 n
    induction n with
    | zero => intro v3 w7 H locs ls h hP hS hl; rw [xx1_fill_L7] at h; cases h
    | succ n ih7 =>
      intro v3 w7 H locs ls h hP hS hl
      rw [xx1_fill_L7] at h
      refine lv_iload_n hx hb dX1_fill_7 rfl (lv_at hl 3 rfl) ?_
      refine lv_aload_n hx hb dX1_fill_8 rfl (lv_at hl 0 rfl) ?_
      refine xw_getM hx hb hts hin1 hown hK (xw_G hg hG hS) 1 (by decide) f15 rfl dX1_fill_9 ?_
      refine xw_getD hx hb hts hin0 hown hK hP hca 2 (by decide) f45 rfl dX1_fill_12 ?_
      refine lv_icmp_ge (tgt := 53) hx hb dX1_fill_15 (by decide) (fun cc => ?_) (fun cc => ?_)
      · replace h := sw_t h cc
        exact hk7 _ _ _ _ _ h hP hS (lv_sub hl [0, 1, 2, 3] rfl)
      · replace h := sw_f h cc
        refine lv_aload_n hx hb dX1_fill_18 rfl (lv_at hl 0 rfl) ?_
        refine xw_getM hx hb hts hin1 hown hK (xw_G hg hG hS) 1 (by decide) f15 rfl dX1_fill_19 ?_
        refine xw_getD hx hb hts hin0 hown hK hP hca 0 (by decide) f49 rfl dX1_fill_22 ?_
        refine lv_iload_n hx hb dX1_fill_25 rfl (lv_at hl 3 rfl) ?_
        obtain ⟨a26, ea26, ia26, h⟩ := swrd_s h
        refine xw_ald hx hb hK hP (xw_NS hca) (xw_celS hca) ia26 dX1_fill_26 ea26 ?_
        refine lv_istore (lv' := [(4, .int a26), (0, .ref g), (1, .ref (ad d1)), (2, .int x2), (3, .int v3)]) hx hb dX1_fill_27 hl (by decide) rfl (fun ls hl => ?_)
        refine lv_aload_n hx hb dX1_fill_29 rfl (lv_at hl 1 rfl) ?_
        refine lv_iload hx hb dX1_fill_30 (lv_at hl 0 rfl) ?_
        refine lv_iload_n hx hb dX1_fill_32 rfl (lv_at hl 3 rfl) ?_
        obtain ⟨r33, er33, h⟩ := swbd_s h
        refine xw_calliM (As := [.int a26, .int x2]) (rest := []) E (xm1_isKept l D cy ad g w7 co ca cb a26 x2 hco hca hcb _ er33) (cwV 2 hts gX1_fill_X1_isKept rfl rfl rfl (by decide +kernel) ⟨Nat.le_of_ble_eq_true rfl, Nat.le_of_ble_eq_true rfl⟩) hK hP (xw_G hg hG hS) ⟨Nat.le_of_ble_eq_true rfl, Nat.le_of_ble_eq_true rfl⟩ rfl hl.1 rfl (Nat.le_of_ble_eq_true rfl) dX1_fill_33 ?_
        refine lv_if_eq (tgt := 47) hx hb dX1_fill_36 (by decide) (fun cc => ?_) (fun cc => ?_)
        · replace h := sw_t h cc
          refine lv_iinc (v := (v3 + 1)) (lv' := [(3, .int (v3 + 1)), (4, .int a26), (0, .ref g), (1, .ref (ad d1)), (2, .int x2)]) hx hb dX1_fill_47 hl (k := 4) rfl rfl (by decide) rfl (fun ls hl => ?_)
          refine lv_goto (tgt := 7) hx hb dX1_fill_50 (by decide) ?_
          exact ih7 _ _ _ _ _ h hP hS (lv_sub hl [2, 3, 4, 0] rfl)
        · replace h := sw_f h cc
          refine lv_aload_n hx hb dX1_fill_39 rfl (lv_at hl 1 rfl) ?_
          refine lv_aload_n hx hb dX1_fill_40 rfl (lv_at hl 2 rfl) ?_
          refine lv_iload hx hb dX1_fill_41 (lv_at hl 0 rfl) ?_
          refine lv_iload_n hx hb dX1_fill_43 rfl (lv_at hl 3 rfl) ?_
          obtain ⟨u44, er44, h⟩ := swbd_s h
          refine xw_callWvM (As := [.ref (ad d1), .int a26, .int x2]) (rest := []) E (xm1_append l D cy ad hJ g hg w7 co ca cb d1 a26 x2 hco hca hcb hd1 _ er44) (cwV 3 hts gX1_fill_X1_append rfl rfl rfl (by decide +kernel) ⟨Nat.le_of_ble_eq_true rfl, Nat.le_of_ble_eq_true rfl⟩) hK hP (xw_G hg hG hS) hS xw_A0 ⟨Nat.le_of_ble_eq_true rfl, Nat.le_of_ble_eq_true rfl⟩ rfl hl.1 rfl (Nat.le_of_ble_eq_true rfl) dX1_fill_44 (fun H locs hP hS hzz hkk => ?_)
          refine lv_iinc (v := (v3 + 1)) (lv' := [(3, .int (v3 + 1)), (4, .int a26), (0, .ref g), (1, .ref (ad d1)), (2, .int x2)]) hx hb dX1_fill_47 hl (k := 4) rfl rfl (by decide) rfl (fun ls hl => ?_)
          refine lv_goto (tgt := 7) hx hb dX1_fill_50 (by decide) ?_
          exact ih7 _ _ _ _ _ h hP hS (lv_sub hl [2, 3, 4, 0] rfl)
  refine L7 _ (fun v3 w53 H locs ls h hP hS hl => ?_) 64 _ _ _ _ _ h hP hS (lv_sub hl [1, 2, 3, 0] rfl)
  refine lv_iconst (v := 0) hx hb dX1_fill_53 (by decide) ?_
  refine lv_istore_n (lv' := [(3, .int 0), (0, .ref g), (1, .ref (ad d1)), (2, .int x2)]) hx hb dX1_fill_54 rfl hl (by decide) rfl (fun ls hl => ?_)
  have L55 : ∀ (kk : Int32 → swU → Option (swU)), (∀ (v3 : Int32) (w55 : swU) (H : Heap) (locs : List Loc) (ls : Array Slot), kk v3 w55 = some u0 → xwP D cy ad w55 H → va_S (xwA0 ad) s.heap H locs → lv_has ls 5 [(0, .ref g), (1, .ref (ad d1)), (2, .int x2), (3, .int v3)] → W p l e (headSpec wsX1_fill rmX1_fill).room s m args below meth c H locs 0 0 (MQ below (xwQv D cy ad u0) args s 0 0 (xwA0 ad)) (F0 m 113 ls [])) → ∀ (n : Nat) (v3 : Int32) (w55 : swU) (H : Heap) (locs : List Loc) (ls : Array Slot), xx1_fill_L55 co ca cb d1 x2 kk n v3 w55 = some u0 → xwP D cy ad w55 H → va_S (xwA0 ad) s.heap H locs → lv_has ls 5 [(0, .ref g), (1, .ref (ad d1)), (2, .int x2), (3, .int v3)] → W p l e (headSpec wsX1_fill rmX1_fill).room s m args below meth c H locs 0 0 (MQ below (xwQv D cy ad u0) args s 0 0 (xwA0 ad)) (F0 m 55 ls []) := by
    intro kk hk55 n
    induction n with
    | zero => intro v3 w55 H locs ls h hP hS hl; rw [xx1_fill_L55] at h; cases h
    | succ n ih55 =>
      intro v3 w55 H locs ls h hP hS hl
      rw [xx1_fill_L55] at h
      refine lv_iload_n hx hb dX1_fill_55 rfl (lv_at hl 3 rfl) ?_
      refine lv_aload_n hx hb dX1_fill_56 rfl (lv_at hl 0 rfl) ?_
      refine xw_getM hx hb hts hin1 hown hK (xw_G hg hG hS) 2 (by decide) f18 rfl dX1_fill_57 ?_
      refine xw_getD hx hb hts hin0 hown hK hP hcb 2 (by decide) f45 rfl dX1_fill_60 ?_
      refine lv_icmp_ge (tgt := 113) hx hb dX1_fill_63 (by decide) (fun cc => ?_) (fun cc => ?_)
      · replace h := sw_t h cc
        exact hk55 _ _ _ _ _ h hP hS (lv_sub hl [0, 1, 2, 3] rfl)
      · replace h := sw_f h cc
        refine lv_aload_n hx hb dX1_fill_66 rfl (lv_at hl 0 rfl) ?_
        refine xw_getM hx hb hts hin1 hown hK (xw_G hg hG hS) 2 (by decide) f18 rfl dX1_fill_67 ?_
        refine xw_getD hx hb hts hin0 hown hK hP hcb 0 (by decide) f49 rfl dX1_fill_70 ?_
        refine lv_iload_n hx hb dX1_fill_73 rfl (lv_at hl 3 rfl) ?_
        obtain ⟨a74, ea74, ia74, h⟩ := swrd_s h
        refine xw_ald hx hb hK hP (xw_NS hcb) (xw_celS hcb) ia74 dX1_fill_74 ea74 ?_
        refine lv_istore (lv' := [(4, .int a74), (0, .ref g), (1, .ref (ad d1)), (2, .int x2), (3, .int v3)]) hx hb dX1_fill_75 hl (by decide) rfl (fun ls hl => ?_)
        refine lv_aload_n hx hb dX1_fill_77 rfl (lv_at hl 1 rfl) ?_
        refine xw_getM hx hb hts hin1 hown hK (xw_G hg hG hS) 1 (by decide) f15 rfl dX1_fill_78 ?_
        refine lv_iload hx hb dX1_fill_81 (lv_at hl 0 rfl) ?_
        obtain ⟨r83, er83, h⟩ := swbd_s h
        refine xw_calli (As := [.int a74]) (rest := []) E (xm0_has l D cy ad w55 ca a74 hca _ er83) (cwV 1 hts gX1_fill_X0_has rfl rfl rfl (by decide +kernel) ⟨Nat.le_of_ble_eq_true rfl, Nat.le_of_ble_eq_true rfl⟩) hK hP (xw_rD hK hP hca) ⟨Nat.le_of_ble_eq_true rfl, Nat.le_of_ble_eq_true rfl⟩ rfl hl.1 rfl (Nat.le_of_ble_eq_true rfl) dX1_fill_83 ?_
        refine lv_if_ne (tgt := 107) hx hb dX1_fill_86 (by decide) (fun cc => ?_) (fun cc => ?_)
        · replace h := sw_f h cc
          refine lv_iinc (v := (v3 + 1)) (lv' := [(3, .int (v3 + 1)), (4, .int a74), (0, .ref g), (1, .ref (ad d1)), (2, .int x2)]) hx hb dX1_fill_107 hl (k := 4) rfl rfl (by decide) rfl (fun ls hl => ?_)
          refine lv_goto (tgt := 55) hx hb dX1_fill_110 (by decide) ?_
          exact ih55 _ _ _ _ _ h hP hS (lv_sub hl [2, 3, 4, 0] rfl)
        · replace h := sw_t h cc
          refine lv_aload_n hx hb dX1_fill_89 rfl (lv_at hl 1 rfl) ?_
          refine lv_iload hx hb dX1_fill_90 (lv_at hl 0 rfl) ?_
          refine lv_iload_n hx hb dX1_fill_92 rfl (lv_at hl 3 rfl) ?_
          obtain ⟨r93, er93, h⟩ := swbd_s h
          refine xw_calliM (As := [.int a74, .int x2]) (rest := []) E (xm1_isKept l D cy ad g w55 co ca cb a74 x2 hco hca hcb _ er93) (cwV 2 hts gX1_fill_X1_isKept rfl rfl rfl (by decide +kernel) ⟨Nat.le_of_ble_eq_true rfl, Nat.le_of_ble_eq_true rfl⟩) hK hP (xw_G hg hG hS) ⟨Nat.le_of_ble_eq_true rfl, Nat.le_of_ble_eq_true rfl⟩ rfl hl.1 rfl (Nat.le_of_ble_eq_true rfl) dX1_fill_93 ?_
          refine lv_if_eq (tgt := 107) hx hb dX1_fill_96 (by decide) (fun cc => ?_) (fun cc => ?_)
          · replace h := sw_t h cc
            refine lv_iinc (v := (v3 + 1)) (lv' := [(3, .int (v3 + 1)), (4, .int a74), (0, .ref g), (1, .ref (ad d1)), (2, .int x2)]) hx hb dX1_fill_107 hl (k := 4) rfl rfl (by decide) rfl (fun ls hl => ?_)
            refine lv_goto (tgt := 55) hx hb dX1_fill_110 (by decide) ?_
            exact ih55 _ _ _ _ _ h hP hS (lv_sub hl [2, 3, 4, 0] rfl)
          · replace h := sw_f h cc
            refine lv_aload_n hx hb dX1_fill_99 rfl (lv_at hl 1 rfl) ?_
            refine lv_aload_n hx hb dX1_fill_100 rfl (lv_at hl 2 rfl) ?_
            refine lv_iload hx hb dX1_fill_101 (lv_at hl 0 rfl) ?_
            refine lv_iload_n hx hb dX1_fill_103 rfl (lv_at hl 3 rfl) ?_
            obtain ⟨u104, er104, h⟩ := swbd_s h
            refine xw_callWvM (As := [.ref (ad d1), .int a74, .int x2]) (rest := []) E (xm1_append l D cy ad hJ g hg w55 co ca cb d1 a74 x2 hco hca hcb hd1 _ er104) (cwV 3 hts gX1_fill_X1_append rfl rfl rfl (by decide +kernel) ⟨Nat.le_of_ble_eq_true rfl, Nat.le_of_ble_eq_true rfl⟩) hK hP (xw_G hg hG hS) hS xw_A0 ⟨Nat.le_of_ble_eq_true rfl, Nat.le_of_ble_eq_true rfl⟩ rfl hl.1 rfl (Nat.le_of_ble_eq_true rfl) dX1_fill_104 (fun H locs hP hS hzz hkk => ?_)
            refine lv_iinc (v := (v3 + 1)) (lv' := [(3, .int (v3 + 1)), (4, .int a74), (0, .ref g), (1, .ref (ad d1)), (2, .int x2)]) hx hb dX1_fill_107 hl (k := 4) rfl rfl (by decide) rfl (fun ls hl => ?_)
            refine lv_goto (tgt := 55) hx hb dX1_fill_110 (by decide) ?_
            exact ih55 _ _ _ _ _ h hP hS (lv_sub hl [2, 3, 4, 0] rfl)
  refine L55 _ (fun v3 w113 H locs ls h hP hS hl => ?_) 64 _ _ _ _ _ h hP hS (lv_sub hl [1, 2, 3, 0] rfl)
  exact W.vret hx hb hr (fun t ht hW => ⟨⟨(), rfl, trivial, xw_end hP ht (sw_in1 h)⟩, hS.F ht⟩) hS.2.2 dX1_fill_113 hlocks

/-! X2.isBrokenAt -/
def xx2_isBrokenAt (u : swU) (cr : Nat) (d1 : Nat) (x2 : Int32) : Option (Bool) :=
  swbd (xx0_valueAt u d1 x2 (u.1 cr 1)) fun r6 => if r6 = 0 then (some false) else (if r6 < (u.1 cr 2) then (some true) else (if r6 ≤ (u.1 cr 3) then (some false) else (some true)))

abbrev rmX2_isBrokenAt : Room := { frames := 1, cells := 0, slots := 0, locals := 22 }

set_option maxHeartbeats 4000000 in
set_option maxRecDepth 100000 in
theorem xm2_isBrokenAt (l : Launch) (D : va_G) (cy : Nat → ClassId) (ad : Nat → Nat) (u : swU) (cr : Nat) (d1 : Nat) (x2 : Int32) (hcr : xw_R cr) (hd1 : xw_D d1) (r0 : Bool) (h : xx2_isBrokenAt u cr d1 x2 = some r0) : Met l yX2_isBrokenAt wsX2_isBrokenAt rmX2_isBrokenAt (xwC D cy ad u [.ref (ad cr), .ref (ad d1), .int x2]) (vp_Si (fun r : Int32 => r = swB r0)) 0 0 (fun _ => False) := by
  refine Met.ofW (cc := cX2_isBrokenAt) (maxL := 4) (ret := (some .boolean)) (by decide) rfl ?_
  intro p e s m args below meth c s₁ B hml hv
  obtain ⟨ha, hP, hK⟩ := hv
  have hx := B.exec
  have hb := B.bytes
  have hr := B.returns
  have hlocks := B.notSynchronized
  have hts := atoms_spec (ws := wsX2_isBrokenAt) B.pre
  have hown : s.vm.findClass RX2 = some m.cls := findClass_of_methodNamed B.named
  have E : CallFix p m c cX2_isBrokenAt 4 s args wsX2_isBrokenAt RX2 := ⟨hx, hb, hml, hown, hts⟩
  have hin2 : ∀ w ∈ wsX20, w ∈ wsX2_isBrokenAt := by decide +kernel
  have f19 : (Cond.fieldLink RX2 19 "Slidewarden$Rule" "least" "I").before args s = true := hts _ (by decide +kernel)
  have f22 : (Cond.fieldLink RX2 22 "Slidewarden$Rule" "most" "I").before args s = true := hts _ (by decide +kernel)
  have f7 : (Cond.fieldLink RX2 7 "Slidewarden$Rule" "object" "I").before args s = true := hts _ (by decide +kernel)
  obtain ⟨ls, hl, hent⟩ := sw_entry m (n := 4) ha (Nat.le_of_ble_eq_true rfl)
  rw [hent]
  have hl : lv_has ls 4 [(0, .ref (ad cr)), (1, .ref (ad d1)), (2, .int x2)] := hl
  unfold xx2_isBrokenAt at h
  refine lv_aload_n hx hb dX2_isBrokenAt_0 rfl (lv_at hl 1 rfl) ?_
  refine lv_iload_n hx hb dX2_isBrokenAt_1 rfl (lv_at hl 2 rfl) ?_
  refine lv_aload_n hx hb dX2_isBrokenAt_2 rfl (lv_at hl 0 rfl) ?_
  refine xw_getR hx hb hts hin2 hown hK hP hcr 1 (by decide) f7 rfl dX2_isBrokenAt_3 ?_
  obtain ⟨r6, er6, h⟩ := swbd_s h
  refine xw_calli (As := [.int x2, .int (u.1 cr 1)]) (rest := []) E (xm0_valueAt l D cy ad u d1 x2 (u.1 cr 1) hd1 _ er6) (cwV 2 hts gX2_isBrokenAt_X0_valueAt rfl rfl rfl (by decide +kernel) ⟨Nat.le_of_ble_eq_true rfl, Nat.le_of_ble_eq_true rfl⟩) hK hP (xw_rD hK hP hd1) ⟨Nat.le_of_ble_eq_true rfl, Nat.le_of_ble_eq_true rfl⟩ rfl hl.1 rfl (Nat.le_of_ble_eq_true rfl) dX2_isBrokenAt_6 ?_
  refine lv_istore_n (lv' := [(3, .int r6), (0, .ref (ad cr)), (1, .ref (ad d1)), (2, .int x2)]) hx hb dX2_isBrokenAt_9 rfl hl (by decide) rfl (fun ls hl => ?_)
  refine lv_iload_n hx hb dX2_isBrokenAt_10 rfl (lv_at hl 0 rfl) ?_
  refine lv_if_eq (tgt := 34) hx hb dX2_isBrokenAt_11 (by decide) (fun cc => ?_) (fun cc => ?_)
  · replace h := sw_t h cc
    refine lv_iconst (v := 0) hx hb dX2_isBrokenAt_34 (by decide) ?_
    exact W.zret (ty := .boolean) hx hb hr rfl (fun t ht hW => ⟨_, rfl, congrArg swB (sw_in1 h), ht⟩) (fun q hq => by cases hq) dX2_isBrokenAt_35 hlocks
  · replace h := sw_f h cc
    refine lv_iload_n hx hb dX2_isBrokenAt_14 rfl (lv_at hl 0 rfl) ?_
    refine lv_aload_n hx hb dX2_isBrokenAt_15 rfl (lv_at hl 1 rfl) ?_
    refine xw_getR hx hb hts hin2 hown hK hP hcr 2 (by decide) f19 rfl dX2_isBrokenAt_16 ?_
    refine lv_icmp_lt (tgt := 30) hx hb dX2_isBrokenAt_19 (by decide) (fun cc => ?_) (fun cc => ?_)
    · replace h := sw_t h cc
      refine lv_iconst (v := 1) hx hb dX2_isBrokenAt_30 (by decide) ?_
      refine lv_goto (tgt := 35) hx hb dX2_isBrokenAt_31 (by decide) ?_
      exact W.zret (ty := .boolean) hx hb hr rfl (fun t ht hW => ⟨_, rfl, congrArg swB (sw_in1 h), ht⟩) (fun q hq => by cases hq) dX2_isBrokenAt_35 hlocks
    · replace h := sw_f h cc
      refine lv_iload_n hx hb dX2_isBrokenAt_22 rfl (lv_at hl 0 rfl) ?_
      refine lv_aload_n hx hb dX2_isBrokenAt_23 rfl (lv_at hl 1 rfl) ?_
      refine xw_getR hx hb hts hin2 hown hK hP hcr 3 (by decide) f22 rfl dX2_isBrokenAt_24 ?_
      refine lv_icmp_le (tgt := 34) hx hb dX2_isBrokenAt_27 (by decide) (fun cc => ?_) (fun cc => ?_)
      · replace h := sw_t h cc
        refine lv_iconst (v := 0) hx hb dX2_isBrokenAt_34 (by decide) ?_
        exact W.zret (ty := .boolean) hx hb hr rfl (fun t ht hW => ⟨_, rfl, congrArg swB (sw_in1 h), ht⟩) (fun q hq => by cases hq) dX2_isBrokenAt_35 hlocks
      · replace h := sw_f h cc
        refine lv_iconst (v := 1) hx hb dX2_isBrokenAt_30 (by decide) ?_
        refine lv_goto (tgt := 35) hx hb dX2_isBrokenAt_31 (by decide) ?_
        exact W.zret (ty := .boolean) hx hb hr rfl (fun t ht hW => ⟨_, rfl, congrArg swB (sw_in1 h), ht⟩) (fun q hq => by cases hq) dX2_isBrokenAt_35 hlocks

/-! X5.headDeck -/
def xx5_headDeck (u : swU) (x1 : Int32) : Option (Nat) :=
  swrd 6 (u.1 1) x1 fun a9 => swgd (swix a9 40) <| swlt (100 + a9.toNatClampNeg) fun c10_ => swlt (c10_ + 100) fun d11_ => some d11_

abbrev rmX5_headDeck : Room := { frames := 0, cells := 0, slots := 0, locals := 0 }

set_option maxHeartbeats 4000000 in
set_option maxRecDepth 100000 in
theorem xm5_headDeck (l : Launch) (D : va_G) (cy : Nat → ClassId) (ad : Nat → Nat) (u : swU) (x1 : Int32) (r0 : Nat) (h : xx5_headDeck u x1 = some r0) : Met l yX5_headDeck wsX5_headDeck rmX5_headDeck (xwC D cy ad u [.ref (ad 0), .int x1]) (xwSr ad r0) 0 0 (fun _ => False) := by
  refine Met.ofW (cc := cX5_headDeck) (maxL := 2) (ret := (some (.object "Slidewarden$Deck"))) (by decide) rfl ?_
  intro p e s m args below meth c s₁ B hml hv
  obtain ⟨ha, hP, hK⟩ := hv
  have hx := B.exec
  have hb := B.bytes
  have hr := B.returns
  have hlocks := B.notSynchronized
  have hts := atoms_spec (ws := wsX5_headDeck) B.pre
  have hown : s.vm.findClass RX5 = some m.cls := findClass_of_methodNamed B.named
  have hin3 : ∀ w ∈ wsX30, w ∈ wsX5_headDeck := by decide +kernel
  have hin5 : ∀ w ∈ wsX50, w ∈ wsX5_headDeck := by decide +kernel
  have f11 : (Cond.fieldLink RX5 11 "Slidewarden" "versions" "[LSlidewarden$Version;").before args s = true := hts _ (by decide +kernel)
  have f130 : (Cond.fieldLink RX5 130 "Slidewarden$Version" "deck" "LSlidewarden$Deck;").before args s = true := hts _ (by decide +kernel)
  have f15 : (Cond.fieldLink RX5 15 "Slidewarden" "heads" "[I").before args s = true := hts _ (by decide +kernel)
  obtain ⟨ls, hl, hent⟩ := sw_entry m (n := 2) ha (Nat.le_of_ble_eq_true rfl)
  rw [hent]
  have hl : lv_has ls 2 [(0, .ref (ad 0)), (1, .int x1)] := hl
  unfold xx5_headDeck at h
  refine lv_aload_n hx hb dX5_headDeck_0 rfl (lv_at hl 0 rfl) ?_
  refine xw_getO hx hb hts hin5 hown hK hP 0 (by decide) f11 rfl dX5_headDeck_1 ?_
  refine lv_aload_n hx hb dX5_headDeck_4 rfl (lv_at hl 0 rfl) ?_
  refine xw_getO hx hb hts hin5 hown hK hP 1 (by decide) f15 rfl dX5_headDeck_5 ?_
  refine lv_iload_n hx hb dX5_headDeck_8 rfl (lv_at hl 1 rfl) ?_
  obtain ⟨a9, ea9, ia9, h⟩ := swrd_s h
  refine xw_ald hx hb hK hP (by decide) rfl ia9 dX5_headDeck_9 ea9 ?_
  obtain ⟨ic10_, h⟩ := swgd_s h
  obtain ⟨c10_, ec10_, h⟩ := swlt_s h
  have hc10_ := xw_Vof (swix_s ic10_) ec10_
  refine xw_aldV hx hb hK hP (swix_s ic10_) dX5_headDeck_10 ec10_ ?_
  obtain ⟨d11_, ed11_, h⟩ := swlt_s h
  have hd11_ : xw_D d11_ := by rw [ed11_]; exact xw_VD hc10_
  refine xw_getV (v := .ref (ad d11_)) hx hb hts hin3 hown hK hP hc10_ 0 (by decide) f130 (by rw [ed11_]; rfl) dX5_headDeck_11 ?_
  exact W.aret hx hb hr (Or.inl ⟨_, rfl⟩) (Or.inr ⟨_, rfl⟩) (fun t ht hW => ⟨_, rfl, ⟨sw_in1 h, hd11_⟩, ht⟩) (fun q hq => by cases hq) dX5_headDeck_14 hlocks

/-! X5.baseOf -/
def xx5_baseOf_L38 (u : swU) (y29 : Int64) (kk : Int32 → Option (Int32)) : Nat → Int32 → Option (Int32)
  | 0, _ => none
  | n + 1, v5 => if v5 ≤ 0 then (kk v5) else (if (lg_cmp (((y29 >>> (v5.toInt64 &&& 63)) &&& (1 : Int64))) (0 : Int64)) = 0 then (xx5_baseOf_L38 u y29 kk n ((v5 + (-1)))) else (kk v5))

def xx5_baseOf (u : swU) (x1 : Int32) (x2 : Int32) : Option (Int32) :=
  swrd 6 (u.1 1) x1 fun a9 => swgd (swix a9 40) <| swlt (100 + a9.toNatClampNeg) fun c10_ => swrd 6 (u.1 1) x2 fun a23 => swgd (swix a23 40) <| swlt (100 + a23.toNatClampNeg) fun c24_ => swlt (((u.2 c10_) &&& (u.2 c24_))) fun y29 => swlt (((u.1 0 6) - 1)) fun y36 => xx5_baseOf_L38 u y29 (fun v5 => some v5) 64 y36

abbrev rmX5_baseOf : Room := { frames := 0, cells := 0, slots := 0, locals := 0 }

set_option maxHeartbeats 4000000 in
set_option maxRecDepth 100000 in
theorem xm5_baseOf (l : Launch) (D : va_G) (cy : Nat → ClassId) (ad : Nat → Nat) (u : swU) (x1 : Int32) (x2 : Int32) (r0 : Int32) (h : xx5_baseOf u x1 x2 = some r0) : Met l yX5_baseOf wsX5_baseOf rmX5_baseOf (xwC D cy ad u [.ref (ad 0), .int x1, .int x2]) (vp_Si (fun r : Int32 => r = r0)) 0 0 (fun _ => False) := by
  refine Met.ofW (cc := cX5_baseOf) (maxL := 6) (ret := (some .int)) (by decide) rfl ?_
  intro p e s m args below meth c s₁ B hml hv
  obtain ⟨ha, hP, hK⟩ := hv
  have hx := B.exec
  have hb := B.bytes
  have hr := B.returns
  have hlocks := B.notSynchronized
  have hts := atoms_spec (ws := wsX5_baseOf) B.pre
  have hown : s.vm.findClass RX5 = some m.cls := findClass_of_methodNamed B.named
  have hin3 : ∀ w ∈ wsX30, w ∈ wsX5_baseOf := by decide +kernel
  have hin5 : ∀ w ∈ wsX50, w ∈ wsX5_baseOf := by decide +kernel
  have f11 : (Cond.fieldLink RX5 11 "Slidewarden" "versions" "[LSlidewarden$Version;").before args s = true := hts _ (by decide +kernel)
  have f15 : (Cond.fieldLink RX5 15 "Slidewarden" "heads" "[I").before args s = true := hts _ (by decide +kernel)
  have f44 : (Cond.fieldLink RX5 44 "Slidewarden$Version" "ancestors" "J").before args s = true := hts _ (by decide +kernel)
  have f48 : (Cond.fieldLink RX5 48 "Slidewarden" "versionCount" "I").before args s = true := hts _ (by decide +kernel)
  obtain ⟨ls, hl, hent⟩ := sw_entry m (n := 6) ha (Nat.le_of_ble_eq_true rfl)
  rw [hent]
  have hl : lv_has ls 6 [(0, .ref (ad 0)), (1, .int x1), (2, .int x2)] := hl
  unfold xx5_baseOf at h
  refine lv_aload_n hx hb dX5_baseOf_0 rfl (lv_at hl 0 rfl) ?_
  refine xw_getO hx hb hts hin5 hown hK hP 0 (by decide) f11 rfl dX5_baseOf_1 ?_
  refine lv_aload_n hx hb dX5_baseOf_4 rfl (lv_at hl 0 rfl) ?_
  refine xw_getO hx hb hts hin5 hown hK hP 1 (by decide) f15 rfl dX5_baseOf_5 ?_
  refine lv_iload_n hx hb dX5_baseOf_8 rfl (lv_at hl 1 rfl) ?_
  obtain ⟨a9, ea9, ia9, h⟩ := swrd_s h
  refine xw_ald hx hb hK hP (by decide) rfl ia9 dX5_baseOf_9 ea9 ?_
  obtain ⟨ic10_, h⟩ := swgd_s h
  obtain ⟨c10_, ec10_, h⟩ := swlt_s h
  have hc10_ := xw_Vof (swix_s ic10_) ec10_
  refine xw_aldV hx hb hK hP (swix_s ic10_) dX5_baseOf_10 ec10_ ?_
  refine xw_getV hx hb hts hin3 hown hK hP hc10_ 4 (by decide) f44 rfl dX5_baseOf_11 ?_
  refine lv_aload_n hx hb dX5_baseOf_14 rfl (lv_at hl 0 rfl) ?_
  refine xw_getO hx hb hts hin5 hown hK hP 0 (by decide) f11 rfl dX5_baseOf_15 ?_
  refine lv_aload_n hx hb dX5_baseOf_18 rfl (lv_at hl 0 rfl) ?_
  refine xw_getO hx hb hts hin5 hown hK hP 1 (by decide) f15 rfl dX5_baseOf_19 ?_
  refine lv_iload_n hx hb dX5_baseOf_22 rfl (lv_at hl 2 rfl) ?_
  obtain ⟨a23, ea23, ia23, h⟩ := swrd_s h
  refine xw_ald hx hb hK hP (by decide) rfl ia23 dX5_baseOf_23 ea23 ?_
  obtain ⟨ic24_, h⟩ := swgd_s h
  obtain ⟨c24_, ec24_, h⟩ := swlt_s h
  have hc24_ := xw_Vof (swix_s ic24_) ec24_
  refine xw_aldV hx hb hK hP (swix_s ic24_) dX5_baseOf_24 ec24_ ?_
  refine xw_getV hx hb hts hin3 hown hK hP hc24_ 4 (by decide) f44 rfl dX5_baseOf_25 ?_
  refine lv_land hx hb dX5_baseOf_28 ?_
  obtain ⟨y29, ey29, h⟩ := swlt_s h
  refine sw_topl ey29 ?_
  refine lv_lstore_n (lv' := [(3, .long y29), (0, .ref (ad 0)), (1, .int x1), (2, .int x2)]) hx hb dX5_baseOf_29 rfl hl (by decide) rfl (fun ls hl => ?_)
  refine lv_aload_n hx hb dX5_baseOf_30 rfl (lv_at hl 1 rfl) ?_
  refine xw_getO hx hb hts hin5 hown hK hP 6 (by decide) f48 rfl dX5_baseOf_31 ?_
  refine lv_iconst (v := 1) hx hb dX5_baseOf_34 (by decide) ?_
  refine lv_isub hx hb dX5_baseOf_35 ?_
  obtain ⟨y36, ey36, h⟩ := swlt_s h
  refine sw_top ey36 ?_
  refine lv_istore (lv' := [(5, .int y36), (3, .long y29), (0, .ref (ad 0)), (1, .int x1), (2, .int x2)]) hx hb dX5_baseOf_36 hl (by decide) rfl (fun ls hl => ?_)
  have L38 : ∀ (kk : Int32 → Option (Int32)), (∀ (v5 : Int32) (ls : Array Slot), kk v5 = some r0 → lv_has ls 6 [(0, .ref (ad 0)), (1, .int x1), (2, .int x2), (3, .long y29), (5, .int v5)] → W p l e (headSpec wsX5_baseOf rmX5_baseOf).room s m args below meth c s.heap [] 0 0 (MQ below (vp_Si (fun r : Int32 => r = r0)) args s 0 0 (fun _ => False)) (F0 m 60 ls [])) → ∀ (n : Nat) (v5 : Int32) (ls : Array Slot), xx5_baseOf_L38 u y29 kk n v5 = some r0 → lv_has ls 6 [(0, .ref (ad 0)), (1, .int x1), (2, .int x2), (3, .long y29), (5, .int v5)] → W p l e (headSpec wsX5_baseOf rmX5_baseOf).room s m args below meth c s.heap [] 0 0 (MQ below (vp_Si (fun r : Int32 => r = r0)) args s 0 0 (fun _ => False)) (F0 m 38 ls []) := by
    intro kk hk38 n
    induction n with
    | zero => intro v5 ls h hl; rw [xx5_baseOf_L38] at h; cases h
    | succ n ih38 =>
      intro v5 ls h hl
      rw [xx5_baseOf_L38] at h
      refine lv_iload hx hb dX5_baseOf_38 (lv_at hl 4 rfl) ?_
      refine lv_if_le (tgt := 60) hx hb dX5_baseOf_40 (by decide) (fun cc => ?_) (fun cc => ?_)
      · replace h := sw_t h cc
        exact hk38 _ _ h (lv_sub hl [0, 1, 2, 3, 4] rfl)
      · replace h := sw_f h cc
        refine lv_lload_n hx hb dX5_baseOf_43 rfl (lv_at hl 3 rfl) ?_
        refine lv_iload hx hb dX5_baseOf_44 (lv_at hl 4 rfl) ?_
        refine lv_lshr hx hb dX5_baseOf_46 rfl ?_
        refine lv_lconst (v := 1) hx hb dX5_baseOf_47 (by decide) ?_
        refine lv_land hx hb dX5_baseOf_48 ?_
        refine lv_lconst (v := 0) hx hb dX5_baseOf_49 (by decide) ?_
        refine W.lcmp hx hb dX5_baseOf_50 ?_
        refine lv_if_ne (tgt := 60) hx hb dX5_baseOf_51 (by decide) (fun cc => ?_) (fun cc => ?_)
        · replace h := sw_f h cc
          exact hk38 _ _ h (lv_sub hl [0, 1, 2, 3, 4] rfl)
        · replace h := sw_t h cc
          refine lv_iinc (v := (v5 + (-1))) (lv' := [(5, .int ((v5 + (-1)))), (0, .ref (ad 0)), (1, .int x1), (2, .int x2), (3, .long y29)]) hx hb dX5_baseOf_54 hl (k := 4) rfl rfl (by decide) rfl (fun ls hl => ?_)
          refine lv_goto (tgt := 38) hx hb dX5_baseOf_57 (by decide) ?_
          exact ih38 _ _ h (lv_sub hl [1, 2, 3, 4, 0] rfl)
  refine L38 _ (fun v5 ls h hl => ?_) 64 _ _ h (lv_sub hl [2, 3, 4, 1, 0] rfl)
  refine lv_iload hx hb dX5_baseOf_60 (lv_at hl 4 rfl) ?_
  exact W.iret hx hb hr (fun t ht hW => ⟨_, rfl, sw_in1 h, ht⟩) (fun q hq => by cases hq) dX5_baseOf_62 hlocks

/-! X5.isWaived -/
def xx5_isWaived_L2 (u : swU) (x1 : Int32) (x2 : Int32) (kk : Int32 → Option (Bool)) : Nat → Int32 → Option (Bool)
  | 0, _ => none
  | n + 1, v3 => if (u.1 0 10) ≤ v3 then (kk v3) else (swgd (swix v3 12) <| swlt (20 + v3.toNatClampNeg) fun c15_ => if (u.1 c15_ 0) = x1 then (if (u.1 c15_ 1) = x2 then (if (u.1 c15_ 2) < (u.1 0 11) then (xx5_isWaived_L2 u x1 x2 kk n (v3 + 1)) else (some true)) else (xx5_isWaived_L2 u x1 x2 kk n (v3 + 1))) else (xx5_isWaived_L2 u x1 x2 kk n (v3 + 1)))

def xx5_isWaived (u : swU) (x1 : Int32) (x2 : Int32) : Option (Bool) :=
  xx5_isWaived_L2 u x1 x2 (fun v3 => some false) 64 0

abbrev rmX5_isWaived : Room := { frames := 0, cells := 0, slots := 0, locals := 0 }

set_option maxHeartbeats 4000000 in
set_option maxRecDepth 100000 in
theorem xm5_isWaived (l : Launch) (D : va_G) (cy : Nat → ClassId) (ad : Nat → Nat) (u : swU) (x1 : Int32) (x2 : Int32) (r0 : Bool) (h : xx5_isWaived u x1 x2 = some r0) : Met l yX5_isWaived wsX5_isWaived rmX5_isWaived (xwC D cy ad u [.ref (ad 0), .int x1, .int x2]) (vp_Si (fun r : Int32 => r = swB r0)) 0 0 (fun _ => False) := by
  refine Met.ofW (cc := cX5_isWaived) (maxL := 5) (ret := (some .boolean)) (by decide) rfl ?_
  intro p e s m args below meth c s₁ B hml hv
  obtain ⟨ha, hP, hK⟩ := hv
  have hx := B.exec
  have hb := B.bytes
  have hr := B.returns
  have hlocks := B.notSynchronized
  have hts := atoms_spec (ws := wsX5_isWaived) B.pre
  have hown : s.vm.findClass RX5 = some m.cls := findClass_of_methodNamed B.named
  have hin4 : ∀ w ∈ wsX40, w ∈ wsX5_isWaived := by decide +kernel
  have hin5 : ∀ w ∈ wsX50, w ∈ wsX5_isWaived := by decide +kernel
  have f225 : (Cond.fieldLink RX5 225 "Slidewarden" "day" "I").before args s = true := hts _ (by decide +kernel)
  have f232 : (Cond.fieldLink RX5 232 "Slidewarden" "waiverCount" "I").before args s = true := hts _ (by decide +kernel)
  have f237 : (Cond.fieldLink RX5 237 "Slidewarden$Waiver" "rule" "I").before args s = true := hts _ (by decide +kernel)
  have f240 : (Cond.fieldLink RX5 240 "Slidewarden$Waiver" "slide" "I").before args s = true := hts _ (by decide +kernel)
  have f243 : (Cond.fieldLink RX5 243 "Slidewarden$Waiver" "until" "I").before args s = true := hts _ (by decide +kernel)
  have f30 : (Cond.fieldLink RX5 30 "Slidewarden" "waivers" "[LSlidewarden$Waiver;").before args s = true := hts _ (by decide +kernel)
  obtain ⟨ls, hl, hent⟩ := sw_entry m (n := 5) ha (Nat.le_of_ble_eq_true rfl)
  rw [hent]
  have hl : lv_has ls 5 [(0, .ref (ad 0)), (1, .int x1), (2, .int x2)] := hl
  unfold xx5_isWaived at h
  refine lv_iconst (v := 0) hx hb dX5_isWaived_0 (by decide) ?_
  refine lv_istore_n (lv' := [(3, .int 0), (0, .ref (ad 0)), (1, .int x1), (2, .int x2)]) hx hb dX5_isWaived_1 rfl hl (by decide) rfl (fun ls hl => ?_)
  have L2 : ∀ (kk : Int32 → Option (Bool)), (∀ (v3 : Int32) (ls : Array Slot), kk v3 = some r0 → lv_has ls 5 [(0, .ref (ad 0)), (1, .int x1), (2, .int x2), (3, .int v3)] → W p l e (headSpec wsX5_isWaived rmX5_isWaived).room s m args below meth c s.heap [] 0 0 (MQ below (vp_Si (fun r : Int32 => r = swB r0)) args s 0 0 (fun _ => False)) (F0 m 56 ls [])) → ∀ (n : Nat) (v3 : Int32) (ls : Array Slot), xx5_isWaived_L2 u x1 x2 kk n v3 = some r0 → lv_has ls 5 [(0, .ref (ad 0)), (1, .int x1), (2, .int x2), (3, .int v3)] → W p l e (headSpec wsX5_isWaived rmX5_isWaived).room s m args below meth c s.heap [] 0 0 (MQ below (vp_Si (fun r : Int32 => r = swB r0)) args s 0 0 (fun _ => False)) (F0 m 2 ls []) := by
    intro kk hk2 n
    induction n with
    | zero => intro v3 ls h hl; rw [xx5_isWaived_L2] at h; cases h
    | succ n ih2 =>
      intro v3 ls h hl
      rw [xx5_isWaived_L2] at h
      refine lv_iload_n hx hb dX5_isWaived_2 rfl (lv_at hl 3 rfl) ?_
      refine lv_aload_n hx hb dX5_isWaived_3 rfl (lv_at hl 0 rfl) ?_
      refine xw_getO hx hb hts hin5 hown hK hP 10 (by decide) f232 rfl dX5_isWaived_4 ?_
      refine lv_icmp_ge (tgt := 56) hx hb dX5_isWaived_7 (by decide) (fun cc => ?_) (fun cc => ?_)
      · replace h := sw_t h cc
        exact hk2 _ _ h (lv_sub hl [0, 1, 2, 3] rfl)
      · replace h := sw_f h cc
        refine lv_aload_n hx hb dX5_isWaived_10 rfl (lv_at hl 0 rfl) ?_
        refine xw_getO hx hb hts hin5 hown hK hP 4 (by decide) f30 rfl dX5_isWaived_11 ?_
        refine lv_iload_n hx hb dX5_isWaived_14 rfl (lv_at hl 3 rfl) ?_
        obtain ⟨ic15_, h⟩ := swgd_s h
        obtain ⟨c15_, ec15_, h⟩ := swlt_s h
        have hc15_ := xw_Yof (swix_s ic15_) ec15_
        refine xw_aldY hx hb hK hP (swix_s ic15_) dX5_isWaived_15 ec15_ ?_
        refine lv_astore (lv' := [(4, .ref (ad c15_)), (0, .ref (ad 0)), (1, .int x1), (2, .int x2), (3, .int v3)]) hx hb dX5_isWaived_16 hl (by decide) rfl (fun ls hl => ?_)
        refine lv_aload hx hb dX5_isWaived_18 (lv_at hl 0 rfl) ?_
        refine xw_getY hx hb hts hin4 hown hK hP hc15_ 0 (by decide) f237 rfl dX5_isWaived_20 ?_
        refine lv_iload_n hx hb dX5_isWaived_23 rfl (lv_at hl 2 rfl) ?_
        refine lv_icmp_ne (tgt := 50) hx hb dX5_isWaived_24 (by decide) (fun cc => ?_) (fun cc => ?_)
        · replace h := sw_f h cc
          refine lv_iinc (v := (v3 + 1)) (lv' := [(3, .int (v3 + 1)), (4, .ref (ad c15_)), (0, .ref (ad 0)), (1, .int x1), (2, .int x2)]) hx hb dX5_isWaived_50 hl (k := 4) rfl rfl (by decide) rfl (fun ls hl => ?_)
          refine lv_goto (tgt := 2) hx hb dX5_isWaived_53 (by decide) ?_
          exact ih2 _ _ h (lv_sub hl [2, 3, 4, 0] rfl)
        · replace h := sw_t h cc
          refine lv_aload hx hb dX5_isWaived_27 (lv_at hl 0 rfl) ?_
          refine xw_getY hx hb hts hin4 hown hK hP hc15_ 1 (by decide) f240 rfl dX5_isWaived_29 ?_
          refine lv_iload_n hx hb dX5_isWaived_32 rfl (lv_at hl 3 rfl) ?_
          refine lv_icmp_ne (tgt := 50) hx hb dX5_isWaived_33 (by decide) (fun cc => ?_) (fun cc => ?_)
          · replace h := sw_f h cc
            refine lv_iinc (v := (v3 + 1)) (lv' := [(3, .int (v3 + 1)), (4, .ref (ad c15_)), (0, .ref (ad 0)), (1, .int x1), (2, .int x2)]) hx hb dX5_isWaived_50 hl (k := 4) rfl rfl (by decide) rfl (fun ls hl => ?_)
            refine lv_goto (tgt := 2) hx hb dX5_isWaived_53 (by decide) ?_
            exact ih2 _ _ h (lv_sub hl [2, 3, 4, 0] rfl)
          · replace h := sw_t h cc
            refine lv_aload hx hb dX5_isWaived_36 (lv_at hl 0 rfl) ?_
            refine xw_getY hx hb hts hin4 hown hK hP hc15_ 2 (by decide) f243 rfl dX5_isWaived_38 ?_
            refine lv_aload_n hx hb dX5_isWaived_41 rfl (lv_at hl 1 rfl) ?_
            refine xw_getO hx hb hts hin5 hown hK hP 11 (by decide) f225 rfl dX5_isWaived_42 ?_
            refine lv_icmp_lt (tgt := 50) hx hb dX5_isWaived_45 (by decide) (fun cc => ?_) (fun cc => ?_)
            · replace h := sw_t h cc
              refine lv_iinc (v := (v3 + 1)) (lv' := [(3, .int (v3 + 1)), (4, .ref (ad c15_)), (0, .ref (ad 0)), (1, .int x1), (2, .int x2)]) hx hb dX5_isWaived_50 hl (k := 4) rfl rfl (by decide) rfl (fun ls hl => ?_)
              refine lv_goto (tgt := 2) hx hb dX5_isWaived_53 (by decide) ?_
              exact ih2 _ _ h (lv_sub hl [2, 3, 4, 0] rfl)
            · replace h := sw_f h cc
              refine lv_iconst (v := 1) hx hb dX5_isWaived_48 (by decide) ?_
              exact W.zret (ty := .boolean) hx hb hr rfl (fun t ht hW => ⟨_, rfl, congrArg swB (sw_in1 h), ht⟩) (fun q hq => by cases hq) dX5_isWaived_49 hlocks
  refine L2 _ (fun v3 ls h hl => ?_) 64 _ _ h (lv_sub hl [1, 2, 3, 0] rfl)
  refine lv_iconst (v := 0) hx hb dX5_isWaived_56 (by decide) ?_
  exact W.zret (ty := .boolean) hx hb hr rfl (fun t ht hW => ⟨_, rfl, congrArg swB (sw_in1 h), ht⟩) (fun q hq => by cases hq) dX5_isWaived_57 hlocks

/-! X5.isBlocking -/
def xx5_isBlocking (u : swU) (x1 : Int32) (x2 : Int32) : Option (Bool) :=
  swgd (swix x1 8) <| swlt (10 + x1.toNatClampNeg) fun c5_ => swlt (u.1 c5_ 0) fun y9 => if y9 = 0 then (some true) else (if y9 = 1 then (swbd (xx5_isWaived u x1 x2) fun r22 => if (swB r22) = 0 then (some true) else (some false)) else (some false))

abbrev rmX5_isBlocking : Room := { frames := 1, cells := 0, slots := 0, locals := 24 }

set_option maxHeartbeats 4000000 in
set_option maxRecDepth 100000 in
theorem xm5_isBlocking (l : Launch) (D : va_G) (cy : Nat → ClassId) (ad : Nat → Nat) (u : swU) (x1 : Int32) (x2 : Int32) (r0 : Bool) (h : xx5_isBlocking u x1 x2 = some r0) : Met l yX5_isBlocking wsX5_isBlocking rmX5_isBlocking (xwC D cy ad u [.ref (ad 0), .int x1, .int x2]) (vp_Si (fun r : Int32 => r = swB r0)) 0 0 (fun _ => False) := by
  refine Met.ofW (cc := cX5_isBlocking) (maxL := 4) (ret := (some .boolean)) (by decide) rfl ?_
  intro p e s m args below meth c s₁ B hml hv
  obtain ⟨ha, hP, hK⟩ := hv
  have hx := B.exec
  have hb := B.bytes
  have hr := B.returns
  have hlocks := B.notSynchronized
  have hts := atoms_spec (ws := wsX5_isBlocking) B.pre
  have hown : s.vm.findClass RX5 = some m.cls := findClass_of_methodNamed B.named
  have E : CallFix p m c cX5_isBlocking 4 s args wsX5_isBlocking RX5 := ⟨hx, hb, hml, hown, hts⟩
  have hin2 : ∀ w ∈ wsX20, w ∈ wsX5_isBlocking := by decide +kernel
  have hin5 : ∀ w ∈ wsX50, w ∈ wsX5_isBlocking := by decide +kernel
  have f204 : (Cond.fieldLink RX5 204 "Slidewarden$Rule" "rank" "I").before args s = true := hts _ (by decide +kernel)
  have f24 : (Cond.fieldLink RX5 24 "Slidewarden" "rules" "[LSlidewarden$Rule;").before args s = true := hts _ (by decide +kernel)
  obtain ⟨ls, hl, hent⟩ := sw_entry m (n := 4) ha (Nat.le_of_ble_eq_true rfl)
  rw [hent]
  have hl : lv_has ls 4 [(0, .ref (ad 0)), (1, .int x1), (2, .int x2)] := hl
  unfold xx5_isBlocking at h
  refine lv_aload_n hx hb dX5_isBlocking_0 rfl (lv_at hl 0 rfl) ?_
  refine xw_getO hx hb hts hin5 hown hK hP 3 (by decide) f24 rfl dX5_isBlocking_1 ?_
  refine lv_iload_n hx hb dX5_isBlocking_4 rfl (lv_at hl 1 rfl) ?_
  obtain ⟨ic5_, h⟩ := swgd_s h
  obtain ⟨c5_, ec5_, h⟩ := swlt_s h
  have hc5_ := xw_Rof (swix_s ic5_) ec5_
  refine xw_aldR hx hb hK hP (swix_s ic5_) dX5_isBlocking_5 ec5_ ?_
  refine xw_getR hx hb hts hin2 hown hK hP hc5_ 0 (by decide) f204 rfl dX5_isBlocking_6 ?_
  obtain ⟨y9, ey9, h⟩ := swlt_s h
  refine sw_top ey9 ?_
  refine lv_istore_n (lv' := [(3, .int y9), (0, .ref (ad 0)), (1, .int x1), (2, .int x2)]) hx hb dX5_isBlocking_9 rfl hl (by decide) rfl (fun ls hl => ?_)
  refine lv_iload_n hx hb dX5_isBlocking_10 rfl (lv_at hl 0 rfl) ?_
  refine lv_if_eq (tgt := 28) hx hb dX5_isBlocking_11 (by decide) (fun cc => ?_) (fun cc => ?_)
  · replace h := sw_t h cc
    refine lv_iconst (v := 1) hx hb dX5_isBlocking_28 (by decide) ?_
    refine lv_goto (tgt := 33) hx hb dX5_isBlocking_29 (by decide) ?_
    exact W.zret (ty := .boolean) hx hb hr rfl (fun t ht hW => ⟨_, rfl, congrArg swB (sw_in1 h), ht⟩) (fun q hq => by cases hq) dX5_isBlocking_33 hlocks
  · replace h := sw_f h cc
    refine lv_iload_n hx hb dX5_isBlocking_14 rfl (lv_at hl 0 rfl) ?_
    refine lv_iconst (v := 1) hx hb dX5_isBlocking_15 (by decide) ?_
    refine lv_icmp_ne (tgt := 32) hx hb dX5_isBlocking_16 (by decide) (fun cc => ?_) (fun cc => ?_)
    · replace h := sw_f h cc
      refine lv_iconst (v := 0) hx hb dX5_isBlocking_32 (by decide) ?_
      exact W.zret (ty := .boolean) hx hb hr rfl (fun t ht hW => ⟨_, rfl, congrArg swB (sw_in1 h), ht⟩) (fun q hq => by cases hq) dX5_isBlocking_33 hlocks
    · replace h := sw_t h cc
      refine lv_aload_n hx hb dX5_isBlocking_19 rfl (lv_at hl 1 rfl) ?_
      refine lv_iload_n hx hb dX5_isBlocking_20 rfl (lv_at hl 2 rfl) ?_
      refine lv_iload_n hx hb dX5_isBlocking_21 rfl (lv_at hl 3 rfl) ?_
      obtain ⟨r22, er22, h⟩ := swbd_s h
      refine xw_calli (As := [.int x1, .int x2]) (rest := []) E (xm5_isWaived l D cy ad u x1 x2 _ er22) (cwV 2 hts gX5_isBlocking_X5_isWaived rfl rfl rfl (by decide +kernel) ⟨Nat.le_of_ble_eq_true rfl, Nat.le_of_ble_eq_true rfl⟩) hK hP (xw_rO hK hP) ⟨Nat.le_of_ble_eq_true rfl, Nat.le_of_ble_eq_true rfl⟩ rfl hl.1 rfl (Nat.le_of_ble_eq_true rfl) dX5_isBlocking_22 ?_
      refine lv_if_ne (tgt := 32) hx hb dX5_isBlocking_25 (by decide) (fun cc => ?_) (fun cc => ?_)
      · replace h := sw_f h cc
        refine lv_iconst (v := 0) hx hb dX5_isBlocking_32 (by decide) ?_
        exact W.zret (ty := .boolean) hx hb hr rfl (fun t ht hW => ⟨_, rfl, congrArg swB (sw_in1 h), ht⟩) (fun q hq => by cases hq) dX5_isBlocking_33 hlocks
      · replace h := sw_t h cc
        refine lv_iconst (v := 1) hx hb dX5_isBlocking_28 (by decide) ?_
        refine lv_goto (tgt := 33) hx hb dX5_isBlocking_29 (by decide) ?_
        exact W.zret (ty := .boolean) hx hb hr rfl (fun t ht hW => ⟨_, rfl, congrArg swB (sw_in1 h), ht⟩) (fun q hq => by cases hq) dX5_isBlocking_33 hlocks

/-! X5.countBlocksAt -/
def xx5_countBlocksAt_L5 (u : swU) (d1 : Nat) (x2 : Int32) (kk : Int32 → Int32 → Option (Int32)) : Nat → Int32 → Int32 → Option (Int32)
  | 0, _, _ => none
  | n + 1, v3, v4 => if (u.1 0 9) ≤ v4 then (kk v3 v4) else (swgd (swix v4 8) <| swlt (10 + v4.toNatClampNeg) fun c20_ => swbd (xx2_isBrokenAt u c20_ d1 x2) fun r23 => if (swB r23) = 0 then (xx5_countBlocksAt_L5 u d1 x2 kk n v3 (v4 + 1)) else (swrd 8 (u.1 (d1 + 100)) x2 fun a37 => swbd (xx5_isBlocking u v4 a37) fun r38 => if (swB r38) = 0 then (xx5_countBlocksAt_L5 u d1 x2 kk n v3 (v4 + 1)) else (xx5_countBlocksAt_L5 u d1 x2 kk n (v3 + 1) (v4 + 1))))

def xx5_countBlocksAt (u : swU) (d1 : Nat) (x2 : Int32) : Option (Int32) :=
  xx5_countBlocksAt_L5 u d1 x2 (fun v3 v4 => some v3) 64 0 0

abbrev rmX5_countBlocksAt : Room := { frames := 2, cells := 0, slots := 0, locals := 47 }

set_option maxHeartbeats 4000000 in
set_option maxRecDepth 100000 in
theorem xm5_countBlocksAt (l : Launch) (D : va_G) (cy : Nat → ClassId) (ad : Nat → Nat) (u : swU) (d1 : Nat) (x2 : Int32) (hd1 : xw_D d1) (r0 : Int32) (h : xx5_countBlocksAt u d1 x2 = some r0) : Met l yX5_countBlocksAt wsX5_countBlocksAt rmX5_countBlocksAt (xwC D cy ad u [.ref (ad 0), .ref (ad d1), .int x2]) (vp_Si (fun r : Int32 => r = r0)) 0 0 (fun _ => False) := by
  refine Met.ofW (cc := cX5_countBlocksAt) (maxL := 5) (ret := (some .int)) (by decide) rfl ?_
  intro p e s m args below meth c s₁ B hml hv
  obtain ⟨ha, hP, hK⟩ := hv
  have hx := B.exec
  have hb := B.bytes
  have hr := B.returns
  have hlocks := B.notSynchronized
  have hts := atoms_spec (ws := wsX5_countBlocksAt) B.pre
  have hown : s.vm.findClass RX5 = some m.cls := findClass_of_methodNamed B.named
  have E : CallFix p m c cX5_countBlocksAt 5 s args wsX5_countBlocksAt RX5 := ⟨hx, hb, hml, hown, hts⟩
  have hin0 : ∀ w ∈ wsX00, w ∈ wsX5_countBlocksAt := by decide +kernel
  have hin5 : ∀ w ∈ wsX50, w ∈ wsX5_countBlocksAt := by decide +kernel
  have f149 : (Cond.fieldLink RX5 149 "Slidewarden$Deck" "slides" "[I").before args s = true := hts _ (by decide +kernel)
  have f199 : (Cond.fieldLink RX5 199 "Slidewarden" "ruleCount" "I").before args s = true := hts _ (by decide +kernel)
  have f24 : (Cond.fieldLink RX5 24 "Slidewarden" "rules" "[LSlidewarden$Rule;").before args s = true := hts _ (by decide +kernel)
  obtain ⟨ls, hl, hent⟩ := sw_entry m (n := 5) ha (Nat.le_of_ble_eq_true rfl)
  rw [hent]
  have hl : lv_has ls 5 [(0, .ref (ad 0)), (1, .ref (ad d1)), (2, .int x2)] := hl
  unfold xx5_countBlocksAt at h
  refine lv_iconst (v := 0) hx hb dX5_countBlocksAt_0 (by decide) ?_
  refine lv_istore_n (lv' := [(3, .int 0), (0, .ref (ad 0)), (1, .ref (ad d1)), (2, .int x2)]) hx hb dX5_countBlocksAt_1 rfl hl (by decide) rfl (fun ls hl => ?_)
  refine lv_iconst (v := 0) hx hb dX5_countBlocksAt_2 (by decide) ?_
  refine lv_istore (lv' := [(4, .int 0), (3, .int 0), (0, .ref (ad 0)), (1, .ref (ad d1)), (2, .int x2)]) hx hb dX5_countBlocksAt_3 hl (by decide) rfl (fun ls hl => ?_)
  have L5 : ∀ (kk : Int32 → Int32 → Option (Int32)), (∀ (v3 : Int32) (v4 : Int32) (ls : Array Slot), kk v3 v4 = some r0 → lv_has ls 5 [(0, .ref (ad 0)), (1, .ref (ad d1)), (2, .int x2), (3, .int v3), (4, .int v4)] → W p l e (headSpec wsX5_countBlocksAt rmX5_countBlocksAt).room s m args below meth c s.heap [] 0 0 (MQ below (vp_Si (fun r : Int32 => r = r0)) args s 0 0 (fun _ => False)) (F0 m 53 ls [])) → ∀ (n : Nat) (v3 : Int32) (v4 : Int32) (ls : Array Slot), xx5_countBlocksAt_L5 u d1 x2 kk n v3 v4 = some r0 → lv_has ls 5 [(0, .ref (ad 0)), (1, .ref (ad d1)), (2, .int x2), (3, .int v3), (4, .int v4)] → W p l e (headSpec wsX5_countBlocksAt rmX5_countBlocksAt).room s m args below meth c s.heap [] 0 0 (MQ below (vp_Si (fun r : Int32 => r = r0)) args s 0 0 (fun _ => False)) (F0 m 5 ls []) := by
    intro kk hk5 n
    induction n with
    | zero => intro v3 v4 ls h hl; rw [xx5_countBlocksAt_L5] at h; cases h
    | succ n ih5 =>
      intro v3 v4 ls h hl
      rw [xx5_countBlocksAt_L5] at h
      refine lv_iload hx hb dX5_countBlocksAt_5 (lv_at hl 4 rfl) ?_
      refine lv_aload_n hx hb dX5_countBlocksAt_7 rfl (lv_at hl 0 rfl) ?_
      refine xw_getO hx hb hts hin5 hown hK hP 9 (by decide) f199 rfl dX5_countBlocksAt_8 ?_
      refine lv_icmp_ge (tgt := 53) hx hb dX5_countBlocksAt_11 (by decide) (fun cc => ?_) (fun cc => ?_)
      · replace h := sw_t h cc
        exact hk5 _ _ _ h (lv_sub hl [0, 1, 2, 3, 4] rfl)
      · replace h := sw_f h cc
        refine lv_aload_n hx hb dX5_countBlocksAt_14 rfl (lv_at hl 0 rfl) ?_
        refine xw_getO hx hb hts hin5 hown hK hP 3 (by decide) f24 rfl dX5_countBlocksAt_15 ?_
        refine lv_iload hx hb dX5_countBlocksAt_18 (lv_at hl 4 rfl) ?_
        obtain ⟨ic20_, h⟩ := swgd_s h
        obtain ⟨c20_, ec20_, h⟩ := swlt_s h
        have hc20_ := xw_Rof (swix_s ic20_) ec20_
        refine xw_aldR hx hb hK hP (swix_s ic20_) dX5_countBlocksAt_20 ec20_ ?_
        refine lv_aload_n hx hb dX5_countBlocksAt_21 rfl (lv_at hl 1 rfl) ?_
        refine lv_iload_n hx hb dX5_countBlocksAt_22 rfl (lv_at hl 2 rfl) ?_
        obtain ⟨r23, er23, h⟩ := swbd_s h
        refine xw_calli (As := [.ref (ad d1), .int x2]) (rest := []) E (xm2_isBrokenAt l D cy ad u c20_ d1 x2 hc20_ hd1 _ er23) (cwV 2 hts gX5_countBlocksAt_X2_isBrokenAt rfl rfl rfl (by decide +kernel) ⟨Nat.le_of_ble_eq_true rfl, Nat.le_of_ble_eq_true rfl⟩) hK hP (xw_rR hK hP hc20_) ⟨Nat.le_of_ble_eq_true rfl, Nat.le_of_ble_eq_true rfl⟩ rfl hl.1 rfl (Nat.le_of_ble_eq_true rfl) dX5_countBlocksAt_23 ?_
        refine lv_if_eq (tgt := 47) hx hb dX5_countBlocksAt_26 (by decide) (fun cc => ?_) (fun cc => ?_)
        · replace h := sw_t h cc
          refine lv_iinc (v := (v4 + 1)) (lv' := [(4, .int (v4 + 1)), (0, .ref (ad 0)), (1, .ref (ad d1)), (2, .int x2), (3, .int v3)]) hx hb dX5_countBlocksAt_47 hl (k := 4) rfl rfl (by decide) rfl (fun ls hl => ?_)
          refine lv_goto (tgt := 5) hx hb dX5_countBlocksAt_50 (by decide) ?_
          exact ih5 _ _ _ h (lv_sub hl [1, 2, 3, 4, 0] rfl)
        · replace h := sw_f h cc
          refine lv_aload_n hx hb dX5_countBlocksAt_29 rfl (lv_at hl 0 rfl) ?_
          refine lv_iload hx hb dX5_countBlocksAt_30 (lv_at hl 4 rfl) ?_
          refine lv_aload_n hx hb dX5_countBlocksAt_32 rfl (lv_at hl 1 rfl) ?_
          refine xw_getD hx hb hts hin0 hown hK hP hd1 0 (by decide) f149 rfl dX5_countBlocksAt_33 ?_
          refine lv_iload_n hx hb dX5_countBlocksAt_36 rfl (lv_at hl 2 rfl) ?_
          obtain ⟨a37, ea37, ia37, h⟩ := swrd_s h
          refine xw_ald hx hb hK hP (xw_NS hd1) (xw_celS hd1) ia37 dX5_countBlocksAt_37 ea37 ?_
          obtain ⟨r38, er38, h⟩ := swbd_s h
          refine xw_calli (As := [.int v4, .int a37]) (rest := []) E (xm5_isBlocking l D cy ad u v4 a37 _ er38) (cwV 2 hts gX5_countBlocksAt_X5_isBlocking rfl rfl rfl (by decide +kernel) ⟨Nat.le_of_ble_eq_true rfl, Nat.le_of_ble_eq_true rfl⟩) hK hP (xw_rO hK hP) ⟨Nat.le_of_ble_eq_true rfl, Nat.le_of_ble_eq_true rfl⟩ rfl hl.1 rfl (Nat.le_of_ble_eq_true rfl) dX5_countBlocksAt_38 ?_
          refine lv_if_eq (tgt := 47) hx hb dX5_countBlocksAt_41 (by decide) (fun cc => ?_) (fun cc => ?_)
          · replace h := sw_t h cc
            refine lv_iinc (v := (v4 + 1)) (lv' := [(4, .int (v4 + 1)), (0, .ref (ad 0)), (1, .ref (ad d1)), (2, .int x2), (3, .int v3)]) hx hb dX5_countBlocksAt_47 hl (k := 4) rfl rfl (by decide) rfl (fun ls hl => ?_)
            refine lv_goto (tgt := 5) hx hb dX5_countBlocksAt_50 (by decide) ?_
            exact ih5 _ _ _ h (lv_sub hl [1, 2, 3, 4, 0] rfl)
          · replace h := sw_f h cc
            refine lv_iinc (v := (v3 + 1)) (lv' := [(3, .int (v3 + 1)), (0, .ref (ad 0)), (1, .ref (ad d1)), (2, .int x2), (4, .int v4)]) hx hb dX5_countBlocksAt_44 hl (k := 3) rfl rfl (by decide) rfl (fun ls hl => ?_)
            refine lv_iinc (v := (v4 + 1)) (lv' := [(4, .int (v4 + 1)), (3, .int (v3 + 1)), (0, .ref (ad 0)), (1, .ref (ad d1)), (2, .int x2)]) hx hb dX5_countBlocksAt_47 hl (k := 4) rfl rfl (by decide) rfl (fun ls hl => ?_)
            refine lv_goto (tgt := 5) hx hb dX5_countBlocksAt_50 (by decide) ?_
            exact ih5 _ _ _ h (lv_sub hl [2, 3, 4, 1, 0] rfl)
  refine L5 _ (fun v3 v4 ls h hl => ?_) 64 _ _ _ h (lv_sub hl [2, 3, 4, 1, 0] rfl)
  refine lv_iload_n hx hb dX5_countBlocksAt_53 rfl (lv_at hl 3 rfl) ?_
  exact W.iret hx hb hr (fun t ht hW => ⟨_, rfl, sw_in1 h, ht⟩) (fun q hq => by cases hq) dX5_countBlocksAt_54 hlocks

/-! X5.countBlocks -/
def xx5_countBlocks_L4 (u : swU) (d1 : Nat) (kk : Int32 → Int32 → Option (Int32)) : Nat → Int32 → Int32 → Option (Int32)
  | 0, _, _ => none
  | n + 1, v2, v3 => if (u.1 d1 2) ≤ v3 then (kk v2 v3) else (swbd (xx5_countBlocksAt u d1 v3) fun r16 => swlt (v2 + r16) fun y20 => xx5_countBlocks_L4 u d1 kk n y20 (v3 + 1))

def xx5_countBlocks (u : swU) (d1 : Nat) : Option (Int32) :=
  xx5_countBlocks_L4 u d1 (fun v2 v3 => some v2) 64 0 0

abbrev rmX5_countBlocks : Room := { frames := 3, cells := 0, slots := 0, locals := 71 }

set_option maxHeartbeats 4000000 in
set_option maxRecDepth 100000 in
theorem xm5_countBlocks (l : Launch) (D : va_G) (cy : Nat → ClassId) (ad : Nat → Nat) (u : swU) (d1 : Nat) (hd1 : xw_D d1) (r0 : Int32) (h : xx5_countBlocks u d1 = some r0) : Met l yX5_countBlocks wsX5_countBlocks rmX5_countBlocks (xwC D cy ad u [.ref (ad 0), .ref (ad d1)]) (vp_Si (fun r : Int32 => r = r0)) 0 0 (fun _ => False) := by
  refine Met.ofW (cc := cX5_countBlocks) (maxL := 4) (ret := (some .int)) (by decide) rfl ?_
  intro p e s m args below meth c s₁ B hml hv
  obtain ⟨ha, hP, hK⟩ := hv
  have hx := B.exec
  have hb := B.bytes
  have hr := B.returns
  have hlocks := B.notSynchronized
  have hts := atoms_spec (ws := wsX5_countBlocks) B.pre
  have hown : s.vm.findClass RX5 = some m.cls := findClass_of_methodNamed B.named
  have E : CallFix p m c cX5_countBlocks 4 s args wsX5_countBlocks RX5 := ⟨hx, hb, hml, hown, hts⟩
  have hin0 : ∀ w ∈ wsX00, w ∈ wsX5_countBlocks := by decide +kernel
  have f73 : (Cond.fieldLink RX5 73 "Slidewarden$Deck" "size" "I").before args s = true := hts _ (by decide +kernel)
  obtain ⟨ls, hl, hent⟩ := sw_entry m (n := 4) ha (Nat.le_of_ble_eq_true rfl)
  rw [hent]
  have hl : lv_has ls 4 [(0, .ref (ad 0)), (1, .ref (ad d1))] := hl
  unfold xx5_countBlocks at h
  refine lv_iconst (v := 0) hx hb dX5_countBlocks_0 (by decide) ?_
  refine lv_istore_n (lv' := [(2, .int 0), (0, .ref (ad 0)), (1, .ref (ad d1))]) hx hb dX5_countBlocks_1 rfl hl (by decide) rfl (fun ls hl => ?_)
  refine lv_iconst (v := 0) hx hb dX5_countBlocks_2 (by decide) ?_
  refine lv_istore_n (lv' := [(3, .int 0), (2, .int 0), (0, .ref (ad 0)), (1, .ref (ad d1))]) hx hb dX5_countBlocks_3 rfl hl (by decide) rfl (fun ls hl => ?_)
  have L4 : ∀ (kk : Int32 → Int32 → Option (Int32)), (∀ (v2 : Int32) (v3 : Int32) (ls : Array Slot), kk v2 v3 = some r0 → lv_has ls 4 [(0, .ref (ad 0)), (1, .ref (ad d1)), (2, .int v2), (3, .int v3)] → W p l e (headSpec wsX5_countBlocks rmX5_countBlocks).room s m args below meth c s.heap [] 0 0 (MQ below (vp_Si (fun r : Int32 => r = r0)) args s 0 0 (fun _ => False)) (F0 m 27 ls [])) → ∀ (n : Nat) (v2 : Int32) (v3 : Int32) (ls : Array Slot), xx5_countBlocks_L4 u d1 kk n v2 v3 = some r0 → lv_has ls 4 [(0, .ref (ad 0)), (1, .ref (ad d1)), (2, .int v2), (3, .int v3)] → W p l e (headSpec wsX5_countBlocks rmX5_countBlocks).room s m args below meth c s.heap [] 0 0 (MQ below (vp_Si (fun r : Int32 => r = r0)) args s 0 0 (fun _ => False)) (F0 m 4 ls []) := by
    intro kk hk4 n
    induction n with
    | zero => intro v2 v3 ls h hl; rw [xx5_countBlocks_L4] at h; cases h
    | succ n ih4 =>
      intro v2 v3 ls h hl
      rw [xx5_countBlocks_L4] at h
      refine lv_iload_n hx hb dX5_countBlocks_4 rfl (lv_at hl 3 rfl) ?_
      refine lv_aload_n hx hb dX5_countBlocks_5 rfl (lv_at hl 1 rfl) ?_
      refine xw_getD hx hb hts hin0 hown hK hP hd1 2 (by decide) f73 rfl dX5_countBlocks_6 ?_
      refine lv_icmp_ge (tgt := 27) hx hb dX5_countBlocks_9 (by decide) (fun cc => ?_) (fun cc => ?_)
      · replace h := sw_t h cc
        exact hk4 _ _ _ h (lv_sub hl [0, 1, 2, 3] rfl)
      · replace h := sw_f h cc
        refine lv_iload_n hx hb dX5_countBlocks_12 rfl (lv_at hl 2 rfl) ?_
        refine lv_aload_n hx hb dX5_countBlocks_13 rfl (lv_at hl 0 rfl) ?_
        refine lv_aload_n hx hb dX5_countBlocks_14 rfl (lv_at hl 1 rfl) ?_
        refine lv_iload_n hx hb dX5_countBlocks_15 rfl (lv_at hl 3 rfl) ?_
        obtain ⟨r16, er16, h⟩ := swbd_s h
        refine xw_calli (As := [.ref (ad d1), .int v3]) (rest := [.int v2]) E (xm5_countBlocksAt l D cy ad u d1 v3 hd1 _ er16) (cwV 2 hts gX5_countBlocks_X5_countBlocksAt rfl rfl rfl (by decide +kernel) ⟨Nat.le_of_ble_eq_true rfl, Nat.le_of_ble_eq_true rfl⟩) hK hP (xw_rO hK hP) ⟨Nat.le_of_ble_eq_true rfl, Nat.le_of_ble_eq_true rfl⟩ rfl hl.1 rfl (Nat.le_of_ble_eq_true rfl) dX5_countBlocks_16 ?_
        refine lv_iadd hx hb dX5_countBlocks_19 ?_
        obtain ⟨y20, ey20, h⟩ := swlt_s h
        refine sw_top ey20 ?_
        refine lv_istore_n (lv' := [(2, .int y20), (0, .ref (ad 0)), (1, .ref (ad d1)), (3, .int v3)]) hx hb dX5_countBlocks_20 rfl hl (by decide) rfl (fun ls hl => ?_)
        refine lv_iinc (v := (v3 + 1)) (lv' := [(3, .int (v3 + 1)), (2, .int y20), (0, .ref (ad 0)), (1, .ref (ad d1))]) hx hb dX5_countBlocks_21 hl (k := 3) rfl rfl (by decide) rfl (fun ls hl => ?_)
        refine lv_goto (tgt := 4) hx hb dX5_countBlocks_24 (by decide) ?_
        exact ih4 _ _ _ h (lv_sub hl [2, 3, 1, 0] rfl)
  refine L4 _ (fun v2 v3 ls h hl => ?_) 64 _ _ _ h (lv_sub hl [2, 3, 1, 0] rfl)
  refine lv_iload_n hx hb dX5_countBlocks_27 rfl (lv_at hl 2 rfl) ?_
  exact W.iret hx hb hr (fun t ht hW => ⟨_, rfl, sw_in1 h, ht⟩) (fun q hq => by cases hq) dX5_countBlocks_28 hlocks

/-! X5.blockedVersions -/
def xx5_blockedVersions_L4 (u : swU) (kk : Int64 → Int32 → Option (Int64)) : Nat → Int64 → Int32 → Option (Int64)
  | 0, _, _ => none
  | n + 1, v1, v3 => if (u.1 0 6) ≤ v3 then (kk v1 v3) else (swgd (swix v3 40) <| swlt (100 + v3.toNatClampNeg) fun c18_ => swlt (c18_ + 100) fun d19_ => swbd (xx5_countBlocks u d19_) fun r22 => if r22 ≤ 0 then (xx5_blockedVersions_L4 u kk n v1 (v3 + 1)) else (swlt ((v1 ||| ((1 : Int64) <<< (v3.toInt64 &&& 63)))) fun y33 => xx5_blockedVersions_L4 u kk n y33 (v3 + 1)))

def xx5_blockedVersions (u : swU) : Option (Int64) :=
  xx5_blockedVersions_L4 u (fun v1 v3 => some v1) 64 (0 : Int64) 0

abbrev rmX5_blockedVersions : Room := { frames := 4, cells := 0, slots := 0, locals := 94 }

set_option maxHeartbeats 4000000 in
set_option maxRecDepth 100000 in
theorem xm5_blockedVersions (l : Launch) (D : va_G) (cy : Nat → ClassId) (ad : Nat → Nat) (u : swU) (r0 : Int64) (h : xx5_blockedVersions u = some r0) : Met l yX5_blockedVersions wsX5_blockedVersions rmX5_blockedVersions (xwC D cy ad u [.ref (ad 0)]) (vp_Sl (fun r : Int64 => r = r0)) 0 0 (fun _ => False) := by
  refine Met.ofW (cc := cX5_blockedVersions) (maxL := 4) (ret := (some .long)) (by decide) rfl ?_
  intro p e s m args below meth c s₁ B hml hv
  obtain ⟨ha, hP, hK⟩ := hv
  have hx := B.exec
  have hb := B.bytes
  have hr := B.returns
  have hlocks := B.notSynchronized
  have hts := atoms_spec (ws := wsX5_blockedVersions) B.pre
  have hown : s.vm.findClass RX5 = some m.cls := findClass_of_methodNamed B.named
  have E : CallFix p m c cX5_blockedVersions 4 s args wsX5_blockedVersions RX5 := ⟨hx, hb, hml, hown, hts⟩
  have hin3 : ∀ w ∈ wsX30, w ∈ wsX5_blockedVersions := by decide +kernel
  have hin5 : ∀ w ∈ wsX50, w ∈ wsX5_blockedVersions := by decide +kernel
  have f11 : (Cond.fieldLink RX5 11 "Slidewarden" "versions" "[LSlidewarden$Version;").before args s = true := hts _ (by decide +kernel)
  have f130 : (Cond.fieldLink RX5 130 "Slidewarden$Version" "deck" "LSlidewarden$Deck;").before args s = true := hts _ (by decide +kernel)
  have f48 : (Cond.fieldLink RX5 48 "Slidewarden" "versionCount" "I").before args s = true := hts _ (by decide +kernel)
  obtain ⟨ls, hl, hent⟩ := sw_entry m (n := 4) ha (Nat.le_of_ble_eq_true rfl)
  rw [hent]
  have hl : lv_has ls 4 [(0, .ref (ad 0))] := hl
  unfold xx5_blockedVersions at h
  refine lv_lconst (v := 0) hx hb dX5_blockedVersions_0 (by decide) ?_
  refine lv_lstore_n (lv' := [(1, .long 0), (0, .ref (ad 0))]) hx hb dX5_blockedVersions_1 rfl hl (by decide) rfl (fun ls hl => ?_)
  refine lv_iconst (v := 0) hx hb dX5_blockedVersions_2 (by decide) ?_
  refine lv_istore_n (lv' := [(3, .int 0), (1, .long 0), (0, .ref (ad 0))]) hx hb dX5_blockedVersions_3 rfl hl (by decide) rfl (fun ls hl => ?_)
  have L4 : ∀ (kk : Int64 → Int32 → Option (Int64)), (∀ (v1 : Int64) (v3 : Int32) (ls : Array Slot), kk v1 v3 = some r0 → lv_has ls 4 [(0, .ref (ad 0)), (1, .long v1), (3, .int v3)] → W p l e (headSpec wsX5_blockedVersions rmX5_blockedVersions).room s m args below meth c s.heap [] 0 0 (MQ below (vp_Sl (fun r : Int64 => r = r0)) args s 0 0 (fun _ => False)) (F0 m 40 ls [])) → ∀ (n : Nat) (v1 : Int64) (v3 : Int32) (ls : Array Slot), xx5_blockedVersions_L4 u kk n v1 v3 = some r0 → lv_has ls 4 [(0, .ref (ad 0)), (1, .long v1), (3, .int v3)] → W p l e (headSpec wsX5_blockedVersions rmX5_blockedVersions).room s m args below meth c s.heap [] 0 0 (MQ below (vp_Sl (fun r : Int64 => r = r0)) args s 0 0 (fun _ => False)) (F0 m 4 ls []) := by
    intro kk hk4 n
    induction n with
    | zero => intro v1 v3 ls h hl; rw [xx5_blockedVersions_L4] at h; cases h
    | succ n ih4 =>
      intro v1 v3 ls h hl
      rw [xx5_blockedVersions_L4] at h
      refine lv_iload_n hx hb dX5_blockedVersions_4 rfl (lv_at hl 2 rfl) ?_
      refine lv_aload_n hx hb dX5_blockedVersions_5 rfl (lv_at hl 0 rfl) ?_
      refine xw_getO hx hb hts hin5 hown hK hP 6 (by decide) f48 rfl dX5_blockedVersions_6 ?_
      refine lv_icmp_ge (tgt := 40) hx hb dX5_blockedVersions_9 (by decide) (fun cc => ?_) (fun cc => ?_)
      · replace h := sw_t h cc
        exact hk4 _ _ _ h (lv_sub hl [0, 1, 2] rfl)
      · replace h := sw_f h cc
        refine lv_aload_n hx hb dX5_blockedVersions_12 rfl (lv_at hl 0 rfl) ?_
        refine lv_aload_n hx hb dX5_blockedVersions_13 rfl (lv_at hl 0 rfl) ?_
        refine xw_getO hx hb hts hin5 hown hK hP 0 (by decide) f11 rfl dX5_blockedVersions_14 ?_
        refine lv_iload_n hx hb dX5_blockedVersions_17 rfl (lv_at hl 2 rfl) ?_
        obtain ⟨ic18_, h⟩ := swgd_s h
        obtain ⟨c18_, ec18_, h⟩ := swlt_s h
        have hc18_ := xw_Vof (swix_s ic18_) ec18_
        refine xw_aldV hx hb hK hP (swix_s ic18_) dX5_blockedVersions_18 ec18_ ?_
        obtain ⟨d19_, ed19_, h⟩ := swlt_s h
        have hd19_ : xw_D d19_ := by rw [ed19_]; exact xw_VD hc18_
        refine xw_getV (v := .ref (ad d19_)) hx hb hts hin3 hown hK hP hc18_ 0 (by decide) f130 (by rw [ed19_]; rfl) dX5_blockedVersions_19 ?_
        obtain ⟨r22, er22, h⟩ := swbd_s h
        refine xw_calli (As := [.ref (ad d19_)]) (rest := []) E (xm5_countBlocks l D cy ad u d19_ hd19_ _ er22) (cwV 1 hts gX5_blockedVersions_X5_countBlocks rfl rfl rfl (by decide +kernel) ⟨Nat.le_of_ble_eq_true rfl, Nat.le_of_ble_eq_true rfl⟩) hK hP (xw_rO hK hP) ⟨Nat.le_of_ble_eq_true rfl, Nat.le_of_ble_eq_true rfl⟩ rfl hl.1 rfl (Nat.le_of_ble_eq_true rfl) dX5_blockedVersions_22 ?_
        refine lv_if_le (tgt := 34) hx hb dX5_blockedVersions_25 (by decide) (fun cc => ?_) (fun cc => ?_)
        · replace h := sw_t h cc
          refine lv_iinc (v := (v3 + 1)) (lv' := [(3, .int (v3 + 1)), (0, .ref (ad 0)), (1, .long v1)]) hx hb dX5_blockedVersions_34 hl (k := 2) rfl rfl (by decide) rfl (fun ls hl => ?_)
          refine lv_goto (tgt := 4) hx hb dX5_blockedVersions_37 (by decide) ?_
          exact ih4 _ _ _ h (lv_sub hl [1, 2, 0] rfl)
        · replace h := sw_f h cc
          refine lv_lload_n hx hb dX5_blockedVersions_28 rfl (lv_at hl 1 rfl) ?_
          refine lv_lconst (v := 1) hx hb dX5_blockedVersions_29 (by decide) ?_
          refine lv_iload_n hx hb dX5_blockedVersions_30 rfl (lv_at hl 2 rfl) ?_
          refine lv_lshl hx hb dX5_blockedVersions_31 rfl ?_
          refine lv_lor hx hb dX5_blockedVersions_32 ?_
          obtain ⟨y33, ey33, h⟩ := swlt_s h
          refine sw_topl ey33 ?_
          refine lv_lstore_n (lv' := [(1, .long y33), (0, .ref (ad 0)), (3, .int v3)]) hx hb dX5_blockedVersions_33 rfl hl (by decide) rfl (fun ls hl => ?_)
          refine lv_iinc (v := (v3 + 1)) (lv' := [(3, .int (v3 + 1)), (1, .long y33), (0, .ref (ad 0))]) hx hb dX5_blockedVersions_34 hl (k := 2) rfl rfl (by decide) rfl (fun ls hl => ?_)
          refine lv_goto (tgt := 4) hx hb dX5_blockedVersions_37 (by decide) ?_
          exact ih4 _ _ _ h (lv_sub hl [2, 1, 0] rfl)
  refine L4 _ (fun v1 v3 ls h hl => ?_) 64 _ _ _ h (lv_sub hl [2, 1, 0] rfl)
  refine lv_lload_n hx hb dX5_blockedVersions_40 rfl (lv_at hl 1 rfl) ?_
  exact W.lret hx hb hr (fun t ht hW => ⟨_, rfl, sw_in1 h, ht⟩) (fun q hq => by cases hq) dX5_blockedVersions_41 hlocks

/-! X5.makeVersion -/
def xx5_makeVersion (u : swU) (x1 : Int32) (x2 : Int32) : Option (Nat × swU) :=
  swlt (u.1 0 6) fun y4 => swrd 6 (u.1 1) x1 fun a10 => swgd (swix y4 40) <| swlt (100 + y4.toNatClampNeg) fun c18_ => swlt (swI u c18_ 1 x1) fun u24 => swlt (swI u24 c18_ 2 a10) fun u31 => swlt (swI u31 c18_ 3 x2) fun u37 => swgd (swix a10 40) <| swlt (100 + a10.toNatClampNeg) fun c48_ => swlt (swL u37 c18_ (((u37.2 c48_) ||| ((1 : Int64) <<< (y4.toInt64 &&& 63))))) fun u56 => if x2 = (-1) then (swlt (c18_ + 100) fun d85_ => swgd (swix a10 40) <| swlt (100 + a10.toNatClampNeg) fun c94_ => swlt (c94_ + 100) fun d95_ => swbd (xx0_copyFrom u56 d85_ d95_) fun u98 => swgd (swix x1 6) <| swlt (swI u98 1 x1.toNatClampNeg y4) fun u107 => swlt (swI u107 0 6 (y4 + 1)) fun u112 => swlt (c18_ + 100) fun d117_ => some (d117_, u112)) else (swgd (swix x2 40) <| swlt (100 + x2.toNatClampNeg) fun c75_ => swlt (swL u56 c18_ (((u56.2 c18_) ||| (u56.2 c75_)))) fun u80 => swlt (c18_ + 100) fun d85_ => swgd (swix a10 40) <| swlt (100 + a10.toNatClampNeg) fun c94_ => swlt (c94_ + 100) fun d95_ => swbd (xx0_copyFrom u80 d85_ d95_) fun u98 => swgd (swix x1 6) <| swlt (swI u98 1 x1.toNatClampNeg y4) fun u107 => swlt (swI u107 0 6 (y4 + 1)) fun u112 => swlt (c18_ + 100) fun d117_ => some (d117_, u112))

abbrev rmX5_makeVersion : Room := { frames := 2, cells := 0, slots := 0, locals := 81 }

set_option maxHeartbeats 4000000 in
set_option maxRecDepth 100000 in
theorem xm5_makeVersion (l : Launch) (D : va_G) (cy : Nat → ClassId) (ad : Nat → Nat) (hJ : swJ xw_N ad) (u : swU) (x1 : Int32) (x2 : Int32) (r0 : Nat) (u0 : swU) (h : xx5_makeVersion u x1 x2 = some (r0, u0)) : Met l yX5_makeVersion wsX5_makeVersion rmX5_makeVersion (xwC D cy ad u [.ref (ad 0), .int x1, .int x2]) (xwQr D cy ad r0 u0) 0 0 (xwA0 ad) := by
  refine Met.ofW (cc := cX5_makeVersion) (maxL := 6) (ret := (some (.object "Slidewarden$Deck"))) (by decide) rfl ?_
  intro p e s m args below meth c s₁ B hml hv
  obtain ⟨ha, hP, hK⟩ := hv
  have hx := B.exec
  have hb := B.bytes
  have hr := B.returns
  have hlocks := B.notSynchronized
  have hts := atoms_spec (ws := wsX5_makeVersion) B.pre
  have hown : s.vm.findClass RX5 = some m.cls := findClass_of_methodNamed B.named
  have E : CallFix p m c cX5_makeVersion 6 s args wsX5_makeVersion RX5 := ⟨hx, hb, hml, hown, hts⟩
  have hin3 : ∀ w ∈ wsX30, w ∈ wsX5_makeVersion := by decide +kernel
  have hin5 : ∀ w ∈ wsX50, w ∈ wsX5_makeVersion := by decide +kernel
  have f11 : (Cond.fieldLink RX5 11 "Slidewarden" "versions" "[LSlidewarden$Version;").before args s = true := hts _ (by decide +kernel)
  have f121 : (Cond.fieldLink RX5 121 "Slidewarden$Version" "madeOn" "I").before args s = true := hts _ (by decide +kernel)
  have f124 : (Cond.fieldLink RX5 124 "Slidewarden$Version" "cameFrom" "I").before args s = true := hts _ (by decide +kernel)
  have f127 : (Cond.fieldLink RX5 127 "Slidewarden$Version" "mergedFrom" "I").before args s = true := hts _ (by decide +kernel)
  have f130 : (Cond.fieldLink RX5 130 "Slidewarden$Version" "deck" "LSlidewarden$Deck;").before args s = true := hts _ (by decide +kernel)
  have f15 : (Cond.fieldLink RX5 15 "Slidewarden" "heads" "[I").before args s = true := hts _ (by decide +kernel)
  have f44 : (Cond.fieldLink RX5 44 "Slidewarden$Version" "ancestors" "J").before args s = true := hts _ (by decide +kernel)
  have f48 : (Cond.fieldLink RX5 48 "Slidewarden" "versionCount" "I").before args s = true := hts _ (by decide +kernel)
  have hS : va_S (xwA0 ad) s.heap s.heap [] := va_S.rf
  obtain ⟨ls, hl, hent⟩ := sw_entry m (n := 6) ha (Nat.le_of_ble_eq_true rfl)
  rw [hent]
  have hl : lv_has ls 6 [(0, .ref (ad 0)), (1, .int x1), (2, .int x2)] := hl
  unfold xx5_makeVersion at h
  refine lv_aload_n hx hb dX5_makeVersion_0 rfl (lv_at hl 0 rfl) ?_
  refine xw_getO hx hb hts hin5 hown hK hP 6 (by decide) f48 rfl dX5_makeVersion_1 ?_
  obtain ⟨y4, ey4, h⟩ := swlt_s h
  refine sw_top ey4 ?_
  refine lv_istore_n (lv' := [(3, .int y4), (0, .ref (ad 0)), (1, .int x1), (2, .int x2)]) hx hb dX5_makeVersion_4 rfl hl (by decide) rfl (fun ls hl => ?_)
  refine lv_aload_n hx hb dX5_makeVersion_5 rfl (lv_at hl 1 rfl) ?_
  refine xw_getO hx hb hts hin5 hown hK hP 1 (by decide) f15 rfl dX5_makeVersion_6 ?_
  refine lv_iload_n hx hb dX5_makeVersion_9 rfl (lv_at hl 2 rfl) ?_
  obtain ⟨a10, ea10, ia10, h⟩ := swrd_s h
  refine xw_ald hx hb hK hP (by decide) rfl ia10 dX5_makeVersion_10 ea10 ?_
  refine lv_istore (lv' := [(4, .int a10), (3, .int y4), (0, .ref (ad 0)), (1, .int x1), (2, .int x2)]) hx hb dX5_makeVersion_11 hl (by decide) rfl (fun ls hl => ?_)
  refine lv_aload_n hx hb dX5_makeVersion_13 rfl (lv_at hl 2 rfl) ?_
  refine xw_getO hx hb hts hin5 hown hK hP 0 (by decide) f11 rfl dX5_makeVersion_14 ?_
  refine lv_iload_n hx hb dX5_makeVersion_17 rfl (lv_at hl 1 rfl) ?_
  obtain ⟨ic18_, h⟩ := swgd_s h
  obtain ⟨c18_, ec18_, h⟩ := swlt_s h
  have hc18_ := xw_Vof (swix_s ic18_) ec18_
  refine xw_aldV hx hb hK hP (swix_s ic18_) dX5_makeVersion_18 ec18_ ?_
  refine lv_astore (lv' := [(5, .ref (ad c18_)), (4, .int a10), (3, .int y4), (0, .ref (ad 0)), (1, .int x1), (2, .int x2)]) hx hb dX5_makeVersion_19 hl (by decide) rfl (fun ls hl => ?_)
  refine lv_aload hx hb dX5_makeVersion_21 (lv_at hl 0 rfl) ?_
  refine lv_iload_n hx hb dX5_makeVersion_23 rfl (lv_at hl 4 rfl) ?_
  obtain ⟨u24, eu24, h⟩ := swlt_s h
  refine xw_putV hx hb hts hin3 hown hK hJ xw_A0 hP hS hc18_ 1 (by decide) f121 eu24 dX5_makeVersion_24 (fun H locs hP hS => ?_)
  refine lv_aload hx hb dX5_makeVersion_27 (lv_at hl 0 rfl) ?_
  refine lv_iload hx hb dX5_makeVersion_29 (lv_at hl 1 rfl) ?_
  obtain ⟨u31, eu31, h⟩ := swlt_s h
  refine xw_putV hx hb hts hin3 hown hK hJ xw_A0 hP hS hc18_ 2 (by decide) f124 eu31 dX5_makeVersion_31 (fun H locs hP hS => ?_)
  refine lv_aload hx hb dX5_makeVersion_34 (lv_at hl 0 rfl) ?_
  refine lv_iload_n hx hb dX5_makeVersion_36 rfl (lv_at hl 5 rfl) ?_
  obtain ⟨u37, eu37, h⟩ := swlt_s h
  refine xw_putV hx hb hts hin3 hown hK hJ xw_A0 hP hS hc18_ 3 (by decide) f127 eu37 dX5_makeVersion_37 (fun H locs hP hS => ?_)
  refine lv_aload hx hb dX5_makeVersion_40 (lv_at hl 0 rfl) ?_
  refine lv_aload_n hx hb dX5_makeVersion_42 rfl (lv_at hl 3 rfl) ?_
  refine xw_getO hx hb hts hin5 hown hK hP 0 (by decide) f11 rfl dX5_makeVersion_43 ?_
  refine lv_iload hx hb dX5_makeVersion_46 (lv_at hl 1 rfl) ?_
  obtain ⟨ic48_, h⟩ := swgd_s h
  obtain ⟨c48_, ec48_, h⟩ := swlt_s h
  have hc48_ := xw_Vof (swix_s ic48_) ec48_
  refine xw_aldV hx hb hK hP (swix_s ic48_) dX5_makeVersion_48 ec48_ ?_
  refine xw_getV hx hb hts hin3 hown hK hP hc48_ 4 (by decide) f44 rfl dX5_makeVersion_49 ?_
  refine lv_lconst (v := 1) hx hb dX5_makeVersion_52 (by decide) ?_
  refine lv_iload_n hx hb dX5_makeVersion_53 rfl (lv_at hl 2 rfl) ?_
  refine lv_lshl hx hb dX5_makeVersion_54 rfl ?_
  refine lv_lor hx hb dX5_makeVersion_55 ?_
  obtain ⟨u56, eu56, h⟩ := swlt_s h
  refine xw_putVL hx hb hts hin3 hown hK hJ xw_A0 hP hS hc18_ f44 eu56 dX5_makeVersion_56 (fun H locs hP hS => ?_)
  refine lv_iload_n hx hb dX5_makeVersion_59 rfl (lv_at hl 5 rfl) ?_
  refine lv_iconst (v := (-1)) hx hb dX5_makeVersion_60 (by decide) ?_
  refine lv_icmp_eq (tgt := 83) hx hb dX5_makeVersion_61 (by decide) (fun cc => ?_) (fun cc => ?_)
  · replace h := sw_t h cc
    refine lv_aload hx hb dX5_makeVersion_83 (lv_at hl 0 rfl) ?_
    obtain ⟨d85_, ed85_, h⟩ := swlt_s h
    have hd85_ : xw_D d85_ := by rw [ed85_]; exact xw_VD hc18_
    refine xw_getV (v := .ref (ad d85_)) hx hb hts hin3 hown hK hP hc18_ 0 (by decide) f130 (by rw [ed85_]; rfl) dX5_makeVersion_85 ?_
    refine lv_aload_n hx hb dX5_makeVersion_88 rfl (lv_at hl 3 rfl) ?_
    refine xw_getO hx hb hts hin5 hown hK hP 0 (by decide) f11 rfl dX5_makeVersion_89 ?_
    refine lv_iload hx hb dX5_makeVersion_92 (lv_at hl 1 rfl) ?_
    obtain ⟨ic94_, h⟩ := swgd_s h
    obtain ⟨c94_, ec94_, h⟩ := swlt_s h
    have hc94_ := xw_Vof (swix_s ic94_) ec94_
    refine xw_aldV hx hb hK hP (swix_s ic94_) dX5_makeVersion_94 ec94_ ?_
    obtain ⟨d95_, ed95_, h⟩ := swlt_s h
    have hd95_ : xw_D d95_ := by rw [ed95_]; exact xw_VD hc94_
    refine xw_getV (v := .ref (ad d95_)) hx hb hts hin3 hown hK hP hc94_ 0 (by decide) f130 (by rw [ed95_]; rfl) dX5_makeVersion_95 ?_
    obtain ⟨u98, er98, h⟩ := swbd_s h
    refine xw_callWv (As := [.ref (ad d95_)]) (rest := []) E (xm0_copyFrom l D cy ad hJ u56 d85_ d95_ hd85_ hd95_ _ er98) (cwV 1 hts gX5_makeVersion_X0_copyFrom rfl rfl rfl (by decide +kernel) ⟨Nat.le_of_ble_eq_true rfl, Nat.le_of_ble_eq_true rfl⟩) hK hP hS xw_A0 (xw_rD hK hP hd85_) ⟨Nat.le_of_ble_eq_true rfl, Nat.le_of_ble_eq_true rfl⟩ rfl hl.1 rfl (Nat.le_of_ble_eq_true rfl) dX5_makeVersion_98 (fun H locs hP hS _ _ => ?_)
    refine lv_aload_n hx hb dX5_makeVersion_101 rfl (lv_at hl 3 rfl) ?_
    refine xw_getO hx hb hts hin5 hown hK hP 1 (by decide) f15 rfl dX5_makeVersion_102 ?_
    refine lv_iload_n hx hb dX5_makeVersion_105 rfl (lv_at hl 4 rfl) ?_
    refine lv_iload_n hx hb dX5_makeVersion_106 rfl (lv_at hl 2 rfl) ?_
    obtain ⟨iu107, h⟩ := swgd_s h
    obtain ⟨u107, eu107, h⟩ := swlt_s h
    refine xw_ast hx hb hK hJ xw_A0 hP hS (by decide) (fun _ => rfl) (swix_s iu107) eu107 dX5_makeVersion_107 (fun H locs hP hS => ?_)
    refine lv_aload_n hx hb dX5_makeVersion_108 rfl (lv_at hl 3 rfl) ?_
    refine lv_iload_n hx hb dX5_makeVersion_109 rfl (lv_at hl 2 rfl) ?_
    refine lv_iconst (v := 1) hx hb dX5_makeVersion_110 (by decide) ?_
    refine lv_iadd hx hb dX5_makeVersion_111 ?_
    obtain ⟨u112, eu112, h⟩ := swlt_s h
    refine xw_putO hx hb hts hin5 hown hK hJ xw_A0 hP hS 6 (by decide) f48 eu112 dX5_makeVersion_112 (fun H locs hP hS => ?_)
    refine lv_aload hx hb dX5_makeVersion_115 (lv_at hl 0 rfl) ?_
    obtain ⟨d117_, ed117_, h⟩ := swlt_s h
    have hd117_ : xw_D d117_ := by rw [ed117_]; exact xw_VD hc18_
    refine xw_getV (v := .ref (ad d117_)) hx hb hts hin3 hown hK hP hc18_ 0 (by decide) f130 (by rw [ed117_]; rfl) dX5_makeVersion_117 ?_
    exact W.aret hx hb hr (Or.inl ⟨_, rfl⟩) (Or.inr ⟨_, rfl⟩) (fun t ht hW => ⟨⟨(), _, rfl, trivial, congrArg ad (sw_inj h).1, by rw [← (sw_inj h).1]; exact hd117_, xw_end hP ht (sw_inj h).2⟩, hS.F ht⟩) hS.2.2 dX5_makeVersion_120 hlocks
  · replace h := sw_f h cc
    refine lv_aload hx hb dX5_makeVersion_64 (lv_at hl 0 rfl) ?_
    refine lv_dup hx hb dX5_makeVersion_66 rfl ?_
    refine xw_getV hx hb hts hin3 hown hK hP hc18_ 4 (by decide) f44 rfl dX5_makeVersion_67 ?_
    refine lv_aload_n hx hb dX5_makeVersion_70 rfl (lv_at hl 3 rfl) ?_
    refine xw_getO hx hb hts hin5 hown hK hP 0 (by decide) f11 rfl dX5_makeVersion_71 ?_
    refine lv_iload_n hx hb dX5_makeVersion_74 rfl (lv_at hl 5 rfl) ?_
    obtain ⟨ic75_, h⟩ := swgd_s h
    obtain ⟨c75_, ec75_, h⟩ := swlt_s h
    have hc75_ := xw_Vof (swix_s ic75_) ec75_
    refine xw_aldV hx hb hK hP (swix_s ic75_) dX5_makeVersion_75 ec75_ ?_
    refine xw_getV hx hb hts hin3 hown hK hP hc75_ 4 (by decide) f44 rfl dX5_makeVersion_76 ?_
    refine lv_lor hx hb dX5_makeVersion_79 ?_
    obtain ⟨u80, eu80, h⟩ := swlt_s h
    refine xw_putVL hx hb hts hin3 hown hK hJ xw_A0 hP hS hc18_ f44 eu80 dX5_makeVersion_80 (fun H locs hP hS => ?_)
    refine lv_aload hx hb dX5_makeVersion_83 (lv_at hl 0 rfl) ?_
    obtain ⟨d85_, ed85_, h⟩ := swlt_s h
    have hd85_ : xw_D d85_ := by rw [ed85_]; exact xw_VD hc18_
    refine xw_getV (v := .ref (ad d85_)) hx hb hts hin3 hown hK hP hc18_ 0 (by decide) f130 (by rw [ed85_]; rfl) dX5_makeVersion_85 ?_
    refine lv_aload_n hx hb dX5_makeVersion_88 rfl (lv_at hl 3 rfl) ?_
    refine xw_getO hx hb hts hin5 hown hK hP 0 (by decide) f11 rfl dX5_makeVersion_89 ?_
    refine lv_iload hx hb dX5_makeVersion_92 (lv_at hl 1 rfl) ?_
    obtain ⟨ic94_, h⟩ := swgd_s h
    obtain ⟨c94_, ec94_, h⟩ := swlt_s h
    have hc94_ := xw_Vof (swix_s ic94_) ec94_
    refine xw_aldV hx hb hK hP (swix_s ic94_) dX5_makeVersion_94 ec94_ ?_
    obtain ⟨d95_, ed95_, h⟩ := swlt_s h
    have hd95_ : xw_D d95_ := by rw [ed95_]; exact xw_VD hc94_
    refine xw_getV (v := .ref (ad d95_)) hx hb hts hin3 hown hK hP hc94_ 0 (by decide) f130 (by rw [ed95_]; rfl) dX5_makeVersion_95 ?_
    obtain ⟨u98, er98, h⟩ := swbd_s h
    refine xw_callWv (As := [.ref (ad d95_)]) (rest := []) E (xm0_copyFrom l D cy ad hJ u80 d85_ d95_ hd85_ hd95_ _ er98) (cwV 1 hts gX5_makeVersion_X0_copyFrom rfl rfl rfl (by decide +kernel) ⟨Nat.le_of_ble_eq_true rfl, Nat.le_of_ble_eq_true rfl⟩) hK hP hS xw_A0 (xw_rD hK hP hd85_) ⟨Nat.le_of_ble_eq_true rfl, Nat.le_of_ble_eq_true rfl⟩ rfl hl.1 rfl (Nat.le_of_ble_eq_true rfl) dX5_makeVersion_98 (fun H locs hP hS _ _ => ?_)
    refine lv_aload_n hx hb dX5_makeVersion_101 rfl (lv_at hl 3 rfl) ?_
    refine xw_getO hx hb hts hin5 hown hK hP 1 (by decide) f15 rfl dX5_makeVersion_102 ?_
    refine lv_iload_n hx hb dX5_makeVersion_105 rfl (lv_at hl 4 rfl) ?_
    refine lv_iload_n hx hb dX5_makeVersion_106 rfl (lv_at hl 2 rfl) ?_
    obtain ⟨iu107, h⟩ := swgd_s h
    obtain ⟨u107, eu107, h⟩ := swlt_s h
    refine xw_ast hx hb hK hJ xw_A0 hP hS (by decide) (fun _ => rfl) (swix_s iu107) eu107 dX5_makeVersion_107 (fun H locs hP hS => ?_)
    refine lv_aload_n hx hb dX5_makeVersion_108 rfl (lv_at hl 3 rfl) ?_
    refine lv_iload_n hx hb dX5_makeVersion_109 rfl (lv_at hl 2 rfl) ?_
    refine lv_iconst (v := 1) hx hb dX5_makeVersion_110 (by decide) ?_
    refine lv_iadd hx hb dX5_makeVersion_111 ?_
    obtain ⟨u112, eu112, h⟩ := swlt_s h
    refine xw_putO hx hb hts hin5 hown hK hJ xw_A0 hP hS 6 (by decide) f48 eu112 dX5_makeVersion_112 (fun H locs hP hS => ?_)
    refine lv_aload hx hb dX5_makeVersion_115 (lv_at hl 0 rfl) ?_
    obtain ⟨d117_, ed117_, h⟩ := swlt_s h
    have hd117_ : xw_D d117_ := by rw [ed117_]; exact xw_VD hc18_
    refine xw_getV (v := .ref (ad d117_)) hx hb hts hin3 hown hK hP hc18_ 0 (by decide) f130 (by rw [ed117_]; rfl) dX5_makeVersion_117 ?_
    exact W.aret hx hb hr (Or.inl ⟨_, rfl⟩) (Or.inr ⟨_, rfl⟩) (fun t ht hW => ⟨⟨(), _, rfl, trivial, congrArg ad (sw_inj h).1, by rw [← (sw_inj h).1]; exact hd117_, xw_end hP ht (sw_inj h).2⟩, hS.F ht⟩) hS.2.2 dX5_makeVersion_120 hlocks
