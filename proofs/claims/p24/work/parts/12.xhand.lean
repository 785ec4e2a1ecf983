/-! by hand: a row's copy, Deck.copyFrom, Long.bitCount -/
section XH
variable {p : Program} {l : Launch} {e : Env} {R : Room} {s : State} {m : MethodId} {args : Array Value} {below : List Frame} {meth : Method} {c : Code} {H : Heap} {locs : List Loc} {cells slots : Nat} {Q : State → Prop}
variable {cc : ByteArray} {pc : Nat} {ls : Array Slot} {rest : List Value} {D : va_G} {cy : Nat → ClassId} {ad : Nat → Nat} {u u2 : swU} {H0 : Heap} {A : Nat → Prop}
variable {nL index n maxL : Nat} {Ts ws : List Cond} {own C : String} {y : MethodName} {bytes : ByteArray} {ret : Option FieldType} {rm : Room} {As st : List Value}
theorem sw_topl {x y : Int64} (hx : x = y) (k : W p l e R s m args below meth c H locs cells slots Q (F0 m pc ls (.long x :: rest))) : W p l e R s m args below meth c H locs cells slots Q (F0 m pc ls (.long y :: rest)) := by
  subst hx
  exact k
theorem xw_callSi {r0 : Int32} (E : CallFix p m c cc nL s args Ts own) (hM : Met l y ws rm (va_Pc As (fun _ => True)) (vp_Si (fun r : Int32 => r = r0)) 0 0 (fun _ => False)) (cw : CallB R s args own index y bytes maxL ret ws rm 0 0 n ∧ (Cond.static y).before args s = true) (hcs : cells ≤ R.cells ∧ slots ≤ R.slots) (hn : As.length = n) (hsize : ls.size = nL) (hst : st = As.reverse ++ rest) (hroom : (rest.map fun v => v.category).sum ≤ 8) (hdg : decode cc pc = .ok (.invokestatic index, 3))
    (kk : W p l e R s m args below meth c H locs cells slots Q (F0 m (pc + 3) ls (.int r0 :: rest))) : W p l e R s m args below meth c H locs cells slots Q (F0 m pc ls st) :=
  vp_callSi (W.runS E hM cw ⟨fun _ _ _ _ q => q, fun U hU hW => ⟨rfl, trivial⟩⟩ rfl hn hsize hst (lv_room hroom) hdg hcs) (fun r hr => by rw [hr]; exact kk)
theorem xw_alen (hexec : p.tables.exec = Jvm.exec) (hb : c.code = cc) (hK : swK D cy s) (hP : xwP D cy ad u H) {cd n : Nat} (hN : xw_N cd = true) (he : xw_cel cy ad u cd = .inl (cy 0, n, .inl (u.1 cd))) {v : Int32} (hv : Int32.ofNat n = v) (hdg : decode cc pc = .ok (.arraylength, 1))
    (kk : W p l e R s m args below meth c H locs cells slots Q (F0 m (pc + 1) ls (.int v :: rest))) : W p l e R s m args below meth c H locs cells slots Q (F0 m pc ls (.ref (ad cd) :: rest)) :=
  va_alen hexec hb hK (hP.one hN he) 0 0 rfl rfl hv hdg kk
theorem xw_copy (hexec : p.tables.exec = Jvm.exec) (hb : c.code = cc) (hml : c.maxLocals = ls.size) (hown : s.vm.findClass own = some m.cls) (hlink : (Cond.methodLink own index arraycopyName).before args s = true) (hnat : (Cond.native arraycopyName).before args s = true) (hstat : (Cond.static arraycopyName).before args s = true) (hini : (Cond.initialized "java/lang/System").before args s = true)
    (hK : swK D cy s) (hJ : swJ xw_N ad) (hA : ∀ c, xw_N c = true → A (ad c)) (hP : xwP D cy ad u H) (hS : va_S A H0 H locs) {c0 c1 n : Nat} (h0 : xw_N c0 = true) (h1 : xw_N c1 = true) (e0 : xw_cel cy ad u c0 = .inl (cy 0, n, .inl (u.1 c0))) (e1 : ∀ f, xw_cell cy ad f (u.2 c1) c1 = .inl (cy 0, n, .inl f)) {len : Int32} (hl0 : ¬ len < 0) (hl : len.toNatClampNeg = n) (hframes : 1 ≤ R.frames) (hlocals : (rest.map fun v => v.category).sum + (nativeFrameWords "java/lang/System" "arraycopy" 5 + 11) ≤ R.locals) (hu : u2 = swR u c1 (va_cpy (u.1 c0) (u.1 c1) 0 0 n)) (hdg : decode cc pc = .ok (.invokestatic index, 3))
    (kk : ∀ (H1 : Heap) (locs1 : List Loc), xwP D cy ad u2 H1 → va_S A H0 H1 locs1 → W p l e R s m args below meth c H1 locs1 cells slots Q (F0 m (pc + 3) ls rest)) : W p l e R s m args below meth c H locs cells slots Q (F0 m pc ls (.int len :: .int 0 :: .ref (ad c1) :: .int 0 :: .ref (ad c0) :: rest)) := by
  subst hu
  obtain ⟨ws, wP, wD, wat⟩ := sw_list xw_bound hP hJ
  obtain ⟨k0, hk0, -⟩ := wat c0 h0
  obtain ⟨k1, hk1, hset⟩ := wat c1 h1
  have e1' : xw_cel cy ad u c1 = .inl (cy 0, n, .inl (u.1 c1)) := e1 _
  rw [e0] at hk0
  rw [e1'] at hk1
  have hz : (0 : Int32).toNatClampNeg = 0 := rfl
  refine va_copyi hexec hb hml hown hlink hnat hstat hini hK wP (wD A hA) hS k0 k1 0 0 (ty := .int) hk0 hk1 rfl rfl rfl (by decide) (by decide) hl0 (by rw [hz, hl]; omega) (by rw [hz, hl]; omega) (fun i _ => rfl) hframes hlocals hdg (fun H1 locs1 q1 _ q3 => ?_)
  rw [hl, hz] at q1
  exact kk H1 locs1 (swP.eq (hset _ _ q1) (xw_upAR e1)) q3
end XH
def xx0_copyFrom (u : swU) (cd d1 : Nat) : Option swU :=
  swlt (swR u (cd + 100) (va_cpy (u.1 (d1 + 100)) (u.1 (cd + 100)) 0 0 8)) fun u1 => swlt (swR u1 (cd + 200) (va_cpy (u1.1 (d1 + 200)) (u1.1 (cd + 200)) 0 0 32)) fun u2 => swlt (swI u2 cd 2 (u2.1 d1 2)) fun u3 => some u3
abbrev rmX0_copyFrom : Room := { frames := 1, cells := 0, slots := 0, locals := 60 }
set_option maxHeartbeats 4000000 in
set_option maxRecDepth 100000 in
theorem xm0_copyFrom (l : Launch) (D : va_G) (cy : Nat → ClassId) (ad : Nat → Nat) (hJ : swJ xw_N ad) (u : swU) (cd d1 : Nat) (hcd : xw_D cd) (hd1 : xw_D d1) (u0 : swU) (h : xx0_copyFrom u cd d1 = some u0) : Met l yX0_copyFrom wsX0_copyFrom rmX0_copyFrom (xwC D cy ad u [.ref (ad cd), .ref (ad d1)]) (xwQv D cy ad u0) 0 0 (xwA0 ad) := by
  refine Met.ofW (cc := cX0_copyFrom) (maxL := 2) (ret := none) (by decide) rfl ?_
  intro p e s m args below meth c s₁ B hml hv
  obtain ⟨ha, hP, hK⟩ := hv
  have hx := B.exec
  have hb := B.bytes
  have hr := B.returns
  have hlocks := B.notSynchronized
  have hts := atoms_spec (ws := wsX0_copyFrom) B.pre
  have hown : s.vm.findClass RX0 = some m.cls := findClass_of_methodNamed B.named
  have hin0 : ∀ w ∈ wsX00, w ∈ wsX0_copyFrom := by decide +kernel
  have f9 : (Cond.fieldLink RX0 9 "Slidewarden$Deck" "slides" "[I").before args s = true := hts _ (by decide +kernel)
  have f15 : (Cond.fieldLink RX0 15 "Slidewarden$Deck" "values" "[I").before args s = true := hts _ (by decide +kernel)
  have f18 : (Cond.fieldLink RX0 18 "Slidewarden$Deck" "size" "I").before args s = true := hts _ (by decide +kernel)
  have g1 : (Cond.methodLink RX0 38 arraycopyName).before args s = true := hts _ (by decide +kernel)
  have g2 : (Cond.native arraycopyName).before args s = true := hts _ (by decide +kernel)
  have g3 : (Cond.static arraycopyName).before args s = true := hts _ (by decide +kernel)
  have g4 : (Cond.initialized "java/lang/System").before args s = true := hts _ (by decide +kernel)
  have hS : va_S (xwA0 ad) s.heap s.heap [] := va_S.rf
  obtain ⟨ls, hl, hent⟩ := sw_entry m (n := 2) ha (Nat.le_of_ble_eq_true rfl)
  rw [hent]
  have hl : lv_has ls 2 [(0, .ref (ad cd)), (1, .ref (ad d1))] := hl
  have hml2 : c.maxLocals = ls.size := hml.trans hl.1.symm
  unfold xx0_copyFrom at h
  refine lv_aload_n hx hb dX0_copyFrom_0 rfl (lv_at hl 1 rfl) ?_
  refine xw_getD hx hb hts hin0 hown hK hP hd1 0 (by decide) f9 rfl dX0_copyFrom_1 ?_
  refine lv_iconst (v := 0) hx hb dX0_copyFrom_4 (by decide) ?_
  refine lv_aload_n hx hb dX0_copyFrom_5 rfl (lv_at hl 0 rfl) ?_
  refine xw_getD hx hb hts hin0 hown hK hP hcd 0 (by decide) f9 rfl dX0_copyFrom_6 ?_
  refine lv_iconst (v := 0) hx hb dX0_copyFrom_9 (by decide) ?_
  refine lv_aload_n hx hb dX0_copyFrom_10 rfl (lv_at hl 0 rfl) ?_
  refine xw_getD hx hb hts hin0 hown hK hP hcd 0 (by decide) f9 rfl dX0_copyFrom_11 ?_
  refine xw_alen hx hb hK hP (xw_NS hcd) (xw_celS hcd) (v := 8) (by decide) dX0_copyFrom_14 ?_
  obtain ⟨u1, eu1, h⟩ := swlt_s h
  refine xw_copy hx hb hml2 hown g1 g2 g3 g4 hK hJ xw_A0 hP hS (xw_NS hd1) (xw_NS hcd) (xw_celS hd1) (fun _ => xw_clS hcd) (n := 8) (by decide) (by decide) (by decide) (Nat.le_of_ble_eq_true rfl) eu1 dX0_copyFrom_15 (fun H locs hP hS => ?_)
  refine lv_aload_n hx hb dX0_copyFrom_18 rfl (lv_at hl 1 rfl) ?_
  refine xw_getD hx hb hts hin0 hown hK hP hd1 1 (by decide) f15 rfl dX0_copyFrom_19 ?_
  refine lv_iconst (v := 0) hx hb dX0_copyFrom_22 (by decide) ?_
  refine lv_aload_n hx hb dX0_copyFrom_23 rfl (lv_at hl 0 rfl) ?_
  refine xw_getD hx hb hts hin0 hown hK hP hcd 1 (by decide) f15 rfl dX0_copyFrom_24 ?_
  refine lv_iconst (v := 0) hx hb dX0_copyFrom_27 (by decide) ?_
  refine lv_aload_n hx hb dX0_copyFrom_28 rfl (lv_at hl 0 rfl) ?_
  refine xw_getD hx hb hts hin0 hown hK hP hcd 1 (by decide) f15 rfl dX0_copyFrom_29 ?_
  refine xw_alen hx hb hK hP (xw_NL hcd) (xw_celL hcd) (v := 32) (by decide) dX0_copyFrom_32 ?_
  obtain ⟨u2, eu2, h⟩ := swlt_s h
  refine xw_copy hx hb hml2 hown g1 g2 g3 g4 hK hJ xw_A0 hP hS (xw_NL hd1) (xw_NL hcd) (xw_celL hd1) (fun _ => xw_clL hcd) (n := 32) (by decide) (by decide) (by decide) (Nat.le_of_ble_eq_true rfl) eu2 dX0_copyFrom_33 (fun H locs hP hS => ?_)
  refine lv_aload_n hx hb dX0_copyFrom_36 rfl (lv_at hl 0 rfl) ?_
  refine lv_aload_n hx hb dX0_copyFrom_37 rfl (lv_at hl 1 rfl) ?_
  refine xw_getD hx hb hts hin0 hown hK hP hd1 2 (by decide) f18 rfl dX0_copyFrom_38 ?_
  obtain ⟨u3, eu3, h⟩ := swlt_s h
  refine xw_putD hx hb hts hin0 hown hK hJ xw_A0 hP hS hcd f18 eu3 dX0_copyFrom_41 (fun H locs hP hS => ?_)
  exact W.vret hx hb hr (fun t ht hW => ⟨⟨(), rfl, trivial, xw_end hP ht (sw_in1 h)⟩, hS.F ht⟩) hS.2.2 dX0_copyFrom_44 hlocks
def swush (x : Int64) (k : Int32) : Int64 := (x.toUInt64 >>> (k.toInt64.toUInt64 &&& Int64.toUInt64 63)).toInt64
def swb1 (x : Int64) : Int64 := x - (swush x 1 &&& 6148914691236517205)
def swb2 (x : Int64) : Int64 := (x &&& 3689348814741910323) + (swush x 2 &&& 3689348814741910323)
def swb3 (x : Int64) : Int64 := (x + swush x 4) &&& 1085102592571150095
def swb4 (k : Int32) (x : Int64) : Int64 := x + swush x k
def swBC (x : Int64) : Int32 := (swb4 32 (swb4 16 (swb4 8 (swb3 (swb2 (swb1 x)))))).toInt32 &&& 127
abbrev rmJ_bitCount : Room := { frames := 0, cells := 0, slots := 0, locals := 0 }
set_option maxHeartbeats 4000000 in
set_option maxRecDepth 100000 in
theorem xmJ_bitCount (l : Launch) (x : Int64) (r0 : Int32) (h : r0 = swBC x) : Met l yJ13_bitCount_95d88 wsJ13_bitCount_95d88 rmJ_bitCount (va_Pc [.long x] (fun _ => True)) (vp_Si (fun r : Int32 => r = r0)) 0 0 (fun _ => False) := by
  refine Met.ofW (cc := cJ13_bitCount_95d88) (maxL := 2) (ret := (some .int)) (by decide) rfl ?_
  intro p e s m args below meth c s₁ B hml hv
  obtain ⟨ha, -⟩ := hv
  have hx := B.exec
  have hb := B.bytes
  have hr := B.returns
  have hlocks := B.notSynchronized
  have hts := atoms_spec (ws := wsJ13_bitCount_95d88) B.pre
  have hown : s.vm.findClass RJ13 = some m.cls := findClass_of_methodNamed B.named
  have k1 : (Cond.constantLong RJ13 314 6148914691236517205).before args s = true := hts _ (by decide +kernel)
  have k2 : (Cond.constantLong RJ13 316 3689348814741910323).before args s = true := hts _ (by decide +kernel)
  have k3 : (Cond.constantLong RJ13 318 1085102592571150095).before args s = true := hts _ (by decide +kernel)
  obtain ⟨ls, hl, hent⟩ := sw_entry m (n := 2) ha (Nat.le_of_ble_eq_true rfl)
  rw [hent]
  have hl : lv_has ls 2 [(0, .long x)] := hl
  have q0 := x
  refine lv_lload_n hx hb dJ13_bitCount_95d88_0 rfl (lv_at hl 0 rfl) ?_
  refine lv_lload_n hx hb dJ13_bitCount_95d88_1 rfl (lv_at hl 0 rfl) ?_
  refine lv_iconst (v := 1) hx hb dJ13_bitCount_95d88_2 (by decide) ?_
  refine lv_lushr hx hb dJ13_bitCount_95d88_3 rfl ?_
  refine lv_ldc2 hx hb hown k1 dJ13_bitCount_95d88_4 ?_
  refine lv_land hx hb dJ13_bitCount_95d88_7 ?_
  refine lv_lsub hx hb dJ13_bitCount_95d88_8 ?_
  obtain ⟨y1, ey1⟩ : ∃ z, z = swb1 x := ⟨_, rfl⟩
  refine sw_topl ey1 ?_
  refine lv_lstore_n (lv' := [(0, .long y1)]) hx hb dJ13_bitCount_95d88_9 rfl hl (by decide) rfl (fun ls hl => ?_)
  refine lv_lload_n hx hb dJ13_bitCount_95d88_10 rfl (lv_at hl 0 rfl) ?_
  refine lv_ldc2 hx hb hown k2 dJ13_bitCount_95d88_11 ?_
  refine lv_land hx hb dJ13_bitCount_95d88_14 ?_
  refine lv_lload_n hx hb dJ13_bitCount_95d88_15 rfl (lv_at hl 0 rfl) ?_
  refine lv_iconst (v := 2) hx hb dJ13_bitCount_95d88_16 (by decide) ?_
  refine lv_lushr hx hb dJ13_bitCount_95d88_17 rfl ?_
  refine lv_ldc2 hx hb hown k2 dJ13_bitCount_95d88_18 ?_
  refine lv_land hx hb dJ13_bitCount_95d88_21 ?_
  refine lv_ladd hx hb dJ13_bitCount_95d88_22 ?_
  obtain ⟨y2, ey2⟩ : ∃ z, z = swb2 y1 := ⟨_, rfl⟩
  refine sw_topl ey2 ?_
  refine lv_lstore_n (lv' := [(0, .long y2)]) hx hb dJ13_bitCount_95d88_23 rfl hl (by decide) rfl (fun ls hl => ?_)
  refine lv_lload_n hx hb dJ13_bitCount_95d88_24 rfl (lv_at hl 0 rfl) ?_
  refine lv_lload_n hx hb dJ13_bitCount_95d88_25 rfl (lv_at hl 0 rfl) ?_
  refine lv_iconst (v := 4) hx hb dJ13_bitCount_95d88_26 (by decide) ?_
  refine lv_lushr hx hb dJ13_bitCount_95d88_27 rfl ?_
  refine lv_ladd hx hb dJ13_bitCount_95d88_28 ?_
  refine lv_ldc2 hx hb hown k3 dJ13_bitCount_95d88_29 ?_
  refine lv_land hx hb dJ13_bitCount_95d88_32 ?_
  obtain ⟨y3, ey3⟩ : ∃ z, z = swb3 y2 := ⟨_, rfl⟩
  refine sw_topl ey3 ?_
  refine lv_lstore_n (lv' := [(0, .long y3)]) hx hb dJ13_bitCount_95d88_33 rfl hl (by decide) rfl (fun ls hl => ?_)
  refine lv_lload_n hx hb dJ13_bitCount_95d88_34 rfl (lv_at hl 0 rfl) ?_
  refine lv_lload_n hx hb dJ13_bitCount_95d88_35 rfl (lv_at hl 0 rfl) ?_
  refine lv_bipush (v := 8) hx hb dJ13_bitCount_95d88_36 (by decide) ?_
  refine lv_lushr hx hb dJ13_bitCount_95d88_38 rfl ?_
  refine lv_ladd hx hb dJ13_bitCount_95d88_39 ?_
  obtain ⟨y4, ey4⟩ : ∃ z, z = swb4 8 y3 := ⟨_, rfl⟩
  refine sw_topl ey4 ?_
  refine lv_lstore_n (lv' := [(0, .long y4)]) hx hb dJ13_bitCount_95d88_40 rfl hl (by decide) rfl (fun ls hl => ?_)
  refine lv_lload_n hx hb dJ13_bitCount_95d88_41 rfl (lv_at hl 0 rfl) ?_
  refine lv_lload_n hx hb dJ13_bitCount_95d88_42 rfl (lv_at hl 0 rfl) ?_
  refine lv_bipush (v := 16) hx hb dJ13_bitCount_95d88_43 (by decide) ?_
  refine lv_lushr hx hb dJ13_bitCount_95d88_45 rfl ?_
  refine lv_ladd hx hb dJ13_bitCount_95d88_46 ?_
  obtain ⟨y5, ey5⟩ : ∃ z, z = swb4 16 y4 := ⟨_, rfl⟩
  refine sw_topl ey5 ?_
  refine lv_lstore_n (lv' := [(0, .long y5)]) hx hb dJ13_bitCount_95d88_47 rfl hl (by decide) rfl (fun ls hl => ?_)
  refine lv_lload_n hx hb dJ13_bitCount_95d88_48 rfl (lv_at hl 0 rfl) ?_
  refine lv_lload_n hx hb dJ13_bitCount_95d88_49 rfl (lv_at hl 0 rfl) ?_
  refine lv_bipush (v := 32) hx hb dJ13_bitCount_95d88_50 (by decide) ?_
  refine lv_lushr hx hb dJ13_bitCount_95d88_52 rfl ?_
  refine lv_ladd hx hb dJ13_bitCount_95d88_53 ?_
  obtain ⟨y6, ey6⟩ : ∃ z, z = swb4 32 y5 := ⟨_, rfl⟩
  refine sw_topl ey6 ?_
  refine lv_lstore_n (lv' := [(0, .long y6)]) hx hb dJ13_bitCount_95d88_54 rfl hl (by decide) rfl (fun ls hl => ?_)
  refine lv_lload_n hx hb dJ13_bitCount_95d88_55 rfl (lv_at hl 0 rfl) ?_
  refine lv_l2i hx hb dJ13_bitCount_95d88_56 rfl ?_
  refine lv_bipush (v := 127) hx hb dJ13_bitCount_95d88_57 (by decide) ?_
  refine lv_iand hx hb dJ13_bitCount_95d88_59 ?_
  exact W.iret hx hb hr (fun t ht hW => ⟨_, rfl, by rw [h, ey6, ey5, ey4, ey3, ey2, ey1]; rfl, ht⟩) (fun q hq => by cases hq) dJ13_bitCount_95d88_60 hlocks
