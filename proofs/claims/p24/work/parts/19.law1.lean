/-! low -/
def lx_low (x0 : Int32) (x1 : Int32) : Option (Int32) :=
  swdv x1 <| some ((swrem (x0 &&& 2147483647) x1))

abbrev rmL_low : Room := { frames := 0, cells := 0, slots := 0, locals := 0 }

set_option maxHeartbeats 4000000 in
set_option maxRecDepth 100000 in
theorem lm_low (l : Launch) (x0 : Int32) (x1 : Int32) (r0 : Int32) (h : lx_low x0 x1 = some r0) : Met l yL_low wsL_low rmL_low (va_Pc [.int x0, .int x1] (fun _ => True)) (vp_Si (fun r : Int32 => r = r0)) 0 0 (fun _ => False) := by
  refine Met.ofW (cc := cL_low) (maxL := 2) (ret := (some .int)) (by decide) rfl ?_
  intro p e s m args below meth c s₁ B hml hv
  obtain ⟨ha, -⟩ := hv
  have hx := B.exec
  have hb := B.bytes
  have hr := B.returns
  have hlocks := B.notSynchronized
  have hts := atoms_spec (ws := wsL_low) B.pre
  have hown : s.vm.findClass RL = some m.cls := findClass_of_methodNamed B.named
  have fc9 : (Cond.constant RL 9 (2147483647)).before args s = true := hts _ (by decide +kernel)
  obtain ⟨ls, hl, hent⟩ := sw_entry m (n := 2) ha (Nat.le_of_ble_eq_true rfl)
  rw [hent]
  have hl : lv_has ls 2 [(0, .int x0), (1, .int x1)] := hl
  unfold lx_low at h
  refine lv_iload_n hx hb dL_low_0 rfl (lv_at hl 0 rfl) ?_
  refine lv_ldc (v := 2147483647) hx hb hown fc9 dL_low_1 ?_
  refine lv_iand hx hb dL_low_3 ?_
  refine lv_iload_n hx hb dL_low_4 rfl (lv_at hl 1 rfl) ?_
  obtain ⟨v5_, h⟩ := swdv_s h
  refine lv_irem hx hb dL_low_5 v5_ ?_
  refine sw_top (x := swrem (x0 &&& 2147483647) x1) rfl ?_
  exact W.iret hx hb hr (fun t ht hW => ⟨_, rfl, sw_in1 h, ht⟩) (fun q hq => by cases hq) dL_low_6 hlocks

/-! value -/
def lx_value (x0 : Int64) (x2 : Int32) : Option (Int32) :=
  some ((Int64.toInt32 (((lyshr x0 (((10 : Int32) * x2))) &&& (1023 : Int64)))))

abbrev rmL_value : Room := { frames := 0, cells := 0, slots := 0, locals := 0 }

set_option maxHeartbeats 4000000 in
set_option maxRecDepth 100000 in
theorem lm_value (l : Launch) (x0 : Int64) (x2 : Int32) (r0 : Int32) (h : lx_value x0 x2 = some r0) : Met l yL_value wsL_value rmL_value (va_Pc [.long x0, .int x2] (fun _ => True)) (vp_Si (fun r : Int32 => r = r0)) 0 0 (fun _ => False) := by
  refine Met.ofW (cc := cL_value) (maxL := 3) (ret := (some .int)) (by decide) rfl ?_
  intro p e s m args below meth c s₁ B hml hv
  obtain ⟨ha, -⟩ := hv
  have hx := B.exec
  have hb := B.bytes
  have hr := B.returns
  have hlocks := B.notSynchronized
  have hts := atoms_spec (ws := wsL_value) B.pre
  have hown : s.vm.findClass RL = some m.cls := findClass_of_methodNamed B.named
  have fl29 : (Cond.constantLong RL 29 (1023)).before args s = true := hts _ (by decide +kernel)
  obtain ⟨ls, hl, hent⟩ := sw_entry m (n := 3) ha (Nat.le_of_ble_eq_true rfl)
  rw [hent]
  have hl : lv_has ls 3 [(0, .long x0), (2, .int x2)] := hl
  unfold lx_value at h
  refine lv_lload_n hx hb dL_value_0 rfl (lv_at hl 0 rfl) ?_
  refine lv_bipush (v := 10) hx hb dL_value_1 (by decide) ?_
  refine lv_iload_n hx hb dL_value_3 rfl (lv_at hl 1 rfl) ?_
  refine lv_imul hx hb dL_value_4 ?_
  refine lv_lshr (v := (lyshr x0 (((10 : Int32) * x2)))) hx hb dL_value_5 rfl ?_
  refine lv_ldc2 (v := 1023) hx hb hown fl29 dL_value_6 ?_
  refine lv_land hx hb dL_value_9 ?_
  refine lv_l2i (v := (Int64.toInt32 (((lyshr x0 (((10 : Int32) * x2))) &&& (1023 : Int64))))) hx hb dL_value_10 rfl ?_
  exact W.iret hx hb hr (fun t ht hW => ⟨_, rfl, sw_in1 h, ht⟩) (fun q hq => by cases hq) dL_value_11 hlocks

/-! many -/
def lx_many_L2 (x0 : Int32) (kk : Int32 → Option (Int32)) : Nat → Int32 → Option (Int32)
  | 0, _ => none
  | n + 1, v1 => if (swshr x0 (((3 : Int32) * v1))) ≤ 0 then (kk v1) else (lx_many_L2 x0 kk n (v1 + 1))

def lx_many (x0 : Int32) : Option (Int32) :=
  lx_many_L2 x0 (fun v1 => some v1) 64 0

abbrev rmL_many : Room := { frames := 0, cells := 0, slots := 0, locals := 0 }

set_option maxHeartbeats 4000000 in
set_option maxRecDepth 100000 in
theorem lm_many (l : Launch) (x0 : Int32) (r0 : Int32) (h : lx_many x0 = some r0) : Met l yL_many wsL_many rmL_many (va_Pc [.int x0] (fun _ => True)) (vp_Si (fun r : Int32 => r = r0)) 0 0 (fun _ => False) := by
  refine Met.ofW (cc := cL_many) (maxL := 2) (ret := (some .int)) (by decide) rfl ?_
  intro p e s m args below meth c s₁ B hml hv
  obtain ⟨ha, -⟩ := hv
  have hx := B.exec
  have hb := B.bytes
  have hr := B.returns
  have hlocks := B.notSynchronized
  have hts := atoms_spec (ws := wsL_many) B.pre
  have hown : s.vm.findClass RL = some m.cls := findClass_of_methodNamed B.named
  obtain ⟨ls, hl, hent⟩ := sw_entry m (n := 2) ha (Nat.le_of_ble_eq_true rfl)
  rw [hent]
  have hl : lv_has ls 2 [(0, .int x0)] := hl
  unfold lx_many at h
  refine lv_iconst (v := 0) hx hb dL_many_0 (by decide) ?_
  refine lv_istore_n (lv' := [(1, .int 0), (0, .int x0)]) hx hb dL_many_1 rfl hl (by decide) rfl (fun ls hl => ?_)
  have L2 : ∀ (kk : Int32 → Option (Int32)), (∀ (v1 : Int32) (ls : Array Slot), kk v1 = some r0 → lv_has ls 2 [(0, .int x0), (1, .int v1)] → W p l e (headSpec wsL_many rmL_many).room s m args below meth c s.heap [] 0 0 (MQ below (vp_Si (fun r : Int32 => r = r0)) args s 0 0 (fun _ => False)) (F0 m 16 ls [])) → ∀ (n : Nat) (v1 : Int32) (ls : Array Slot), lx_many_L2 x0 kk n v1 = some r0 → lv_has ls 2 [(0, .int x0), (1, .int v1)] → W p l e (headSpec wsL_many rmL_many).room s m args below meth c s.heap [] 0 0 (MQ below (vp_Si (fun r : Int32 => r = r0)) args s 0 0 (fun _ => False)) (F0 m 2 ls []) := by
    intro kk hk2 n
    induction n with
    | zero => intro v1 ls h hl; rw [lx_many_L2] at h; cases h
    | succ n ih2 =>
      intro v1 ls h hl
      rw [lx_many_L2] at h
      refine lv_iload_n hx hb dL_many_2 rfl (lv_at hl 0 rfl) ?_
      refine lv_iconst (v := 3) hx hb dL_many_3 (by decide) ?_
      refine lv_iload_n hx hb dL_many_4 rfl (lv_at hl 1 rfl) ?_
      refine lv_imul hx hb dL_many_5 ?_
      refine lv_ishr hx hb dL_many_6 ?_
      refine sw_top (x := swshr x0 (((3 : Int32) * v1))) rfl ?_
      refine lv_if_le (tgt := 16) hx hb dL_many_7 (by decide) (fun cc => ?_) (fun cc => ?_)
      · replace h := sw_t h cc
        exact hk2 _ _ h (lv_sub hl [0, 1] rfl)
      · replace h := sw_f h cc
        refine lv_iinc (v := (v1 + 1)) (lv' := [(1, .int (v1 + 1)), (0, .int x0)]) hx hb dL_many_10 hl (k := 1) rfl rfl (by decide) rfl (fun ls hl => ?_)
        refine lv_goto (tgt := 2) hx hb dL_many_13 (by decide) ?_
        exact ih2 _ _ h (lv_sub hl [1, 0] rfl)
  refine L2 _ (fun v1 ls h hl => ?_) 64 _ _ h (lv_sub hl [1, 0] rfl)
  refine lv_iload_n hx hb dL_many_16 rfl (lv_at hl 1 rfl) ?_
  exact W.iret hx hb hr (fun t ht hW => ⟨_, rfl, sw_in1 h, ht⟩) (fun q hq => by cases hq) dL_many_17 hlocks

/-! get -/
def lx_get (y : lyU) (x0 : Int32) (x1 : Int32) : Option (Int64) :=
  swlt ((((6 : Int32) * x0) + x1)) fun y6 => if 64 ≤ y6 then (lyrd 64 (y.2 1) (y6 - 64) fun a28 => some a28) else (lyrd 64 (y.2 0) y6 fun a18 => some a18)

abbrev rmL_get : Room := { frames := 0, cells := 0, slots := 0, locals := 0 }

set_option maxHeartbeats 4000000 in
set_option maxRecDepth 100000 in
theorem lm_get (l : Launch) (D : va_G) (cy : Nat → ClassId) (al : Nat → Nat) (y : lyU) (x0 : Int32) (x1 : Int32) (r0 : Int64) (h : lx_get y x0 x1 = some r0) : Met l yL_get wsL_get rmL_get (lyC D cy al y [.int x0, .int x1, .ref (al 0), .ref (al 1)]) (vp_Sl (fun r : Int64 => r = r0)) 0 0 (fun _ => False) := by
  refine Met.ofW (cc := cL_get) (maxL := 5) (ret := (some .long)) (by decide) rfl ?_
  intro p e s m args below meth c s₁ B hml hv
  obtain ⟨ha, hP, hK⟩ := hv
  have hx := B.exec
  have hb := B.bytes
  have hr := B.returns
  have hlocks := B.notSynchronized
  have hts := atoms_spec (ws := wsL_get) B.pre
  have hown : s.vm.findClass RL = some m.cls := findClass_of_methodNamed B.named
  obtain ⟨ls, hl, hent⟩ := sw_entry m (n := 5) ha (Nat.le_of_ble_eq_true rfl)
  rw [hent]
  have hl : lv_has ls 5 [(0, .int x0), (1, .int x1), (2, .ref (al 0)), (3, .ref (al 1))] := hl
  unfold lx_get at h
  refine lv_bipush (v := 6) hx hb dL_get_0 (by decide) ?_
  refine lv_iload_n hx hb dL_get_2 rfl (lv_at hl 0 rfl) ?_
  refine lv_imul hx hb dL_get_3 ?_
  refine lv_iload_n hx hb dL_get_4 rfl (lv_at hl 1 rfl) ?_
  refine lv_iadd hx hb dL_get_5 ?_
  obtain ⟨y6, ey6, h⟩ := swlt_s h
  refine sw_top ey6 ?_
  refine lv_istore (lv' := [(4, .int y6), (0, .int x0), (1, .int x1), (2, .ref (al 0)), (3, .ref (al 1))]) hx hb dL_get_6 hl (by decide) rfl (fun ls hl => ?_)
  refine lv_iload hx hb dL_get_8 (lv_at hl 0 rfl) ?_
  refine lv_bipush (v := 64) hx hb dL_get_10 (by decide) ?_
  refine lv_icmp_ge (tgt := 22) hx hb dL_get_12 (by decide) (fun cc => ?_) (fun cc => ?_)
  · replace h := sw_t h cc
    refine lv_aload_n hx hb dL_get_22 rfl (lv_at hl 4 rfl) ?_
    refine lv_iload hx hb dL_get_23 (lv_at hl 0 rfl) ?_
    refine lv_bipush (v := 64) hx hb dL_get_25 (by decide) ?_
    refine lv_isub hx hb dL_get_27 ?_
    obtain ⟨a28, ea28, ia28, h⟩ := lyrd_s h
    refine ly_lald hx hb hK hP (cd := 1) (by decide) rfl ia28 dL_get_28 ea28 ?_
    exact W.lret hx hb hr (fun t ht hW => ⟨_, rfl, sw_in1 h, ht⟩) (fun q hq => by cases hq) dL_get_29 hlocks
  · replace h := sw_f h cc
    refine lv_aload_n hx hb dL_get_15 rfl (lv_at hl 3 rfl) ?_
    refine lv_iload hx hb dL_get_16 (lv_at hl 0 rfl) ?_
    obtain ⟨a18, ea18, ia18, h⟩ := lyrd_s h
    refine ly_lald hx hb hK hP (cd := 0) (by decide) rfl ia18 dL_get_18 ea18 ?_
    refine lv_goto (tgt := 29) hx hb dL_get_19 (by decide) ?_
    exact W.lret hx hb hr (fun t ht hW => ⟨_, rfl, sw_in1 h, ht⟩) (fun q hq => by cases hq) dL_get_29 hlocks

/-! put -/
def lx_put (y : lyU) (x0 : Int32) (x1 : Int32) (x2 : Int64) : Option (lyU) :=
  swlt ((((6 : Int32) * x0) + x1)) fun y6 => if 64 ≤ y6 then (swgd (swix (y6 - 64) 64) <| swlt (lyL y 1 (Int32.toNatClampNeg (y6 - 64)) x2) fun u32 => some u32) else (swgd (swix y6 64) <| swlt (lyL y 0 (Int32.toNatClampNeg y6) x2) fun u20 => some u20)

abbrev rmL_put : Room := { frames := 0, cells := 0, slots := 0, locals := 0 }

set_option maxHeartbeats 4000000 in
set_option maxRecDepth 100000 in
theorem lm_put (l : Launch) (D : va_G) (cy : Nat → ClassId) (al : Nat → Nat) (hJ : swJ lyN al) (y : lyU) (x0 : Int32) (x1 : Int32) (x2 : Int64) (y0 : lyU) (h : lx_put y x0 x1 x2 = some y0) : Met l yL_put wsL_put rmL_put (lyC D cy al y [.int x0, .int x1, .long x2, .ref (al 0), .ref (al 1)]) (lyQv D cy al y0) 0 0 (lyA al) := by
  refine Met.ofW (cc := cL_put) (maxL := 7) (ret := none) (by decide) rfl ?_
  intro p e s m args below meth c s₁ B hml hv
  obtain ⟨ha, hP, hK⟩ := hv
  have hx := B.exec
  have hb := B.bytes
  have hr := B.returns
  have hlocks := B.notSynchronized
  have hts := atoms_spec (ws := wsL_put) B.pre
  have hown : s.vm.findClass RL = some m.cls := findClass_of_methodNamed B.named
  have hS : va_S (lyA al) s.heap s.heap [] := va_S.rf
  obtain ⟨ls, hl, hent⟩ := sw_entry m (n := 7) ha (Nat.le_of_ble_eq_true rfl)
  rw [hent]
  have hl : lv_has ls 7 [(0, .int x0), (1, .int x1), (2, .long x2), (4, .ref (al 0)), (5, .ref (al 1))] := hl
  unfold lx_put at h
  refine lv_bipush (v := 6) hx hb dL_put_0 (by decide) ?_
  refine lv_iload_n hx hb dL_put_2 rfl (lv_at hl 0 rfl) ?_
  refine lv_imul hx hb dL_put_3 ?_
  refine lv_iload_n hx hb dL_put_4 rfl (lv_at hl 1 rfl) ?_
  refine lv_iadd hx hb dL_put_5 ?_
  obtain ⟨y6, ey6, h⟩ := swlt_s h
  refine sw_top ey6 ?_
  refine lv_istore (lv' := [(6, .int y6), (0, .int x0), (1, .int x1), (2, .long x2), (4, .ref (al 0)), (5, .ref (al 1))]) hx hb dL_put_6 hl (by decide) rfl (fun ls hl => ?_)
  refine lv_iload hx hb dL_put_8 (lv_at hl 0 rfl) ?_
  refine lv_bipush (v := 64) hx hb dL_put_10 (by decide) ?_
  refine lv_icmp_ge (tgt := 24) hx hb dL_put_12 (by decide) (fun cc => ?_) (fun cc => ?_)
  · replace h := sw_t h cc
    refine lv_aload hx hb dL_put_24 (lv_at hl 5 rfl) ?_
    refine lv_iload hx hb dL_put_26 (lv_at hl 0 rfl) ?_
    refine lv_bipush (v := 64) hx hb dL_put_28 (by decide) ?_
    refine lv_isub hx hb dL_put_30 ?_
    refine lv_lload_n hx hb dL_put_31 rfl (lv_at hl 3 rfl) ?_
    obtain ⟨iu32, h⟩ := swgd_s h
    obtain ⟨u32, eu32, h⟩ := swlt_s h
    refine ly_last hx hb hK hJ (fun _ h => h) hP hS (cd := 1) (by decide) (by decide) rfl rfl (swix_s iu32) eu32 dL_put_32 (fun H locs hP hS => ?_)
    exact W.vret hx hb hr (fun t ht hW => ⟨⟨(), rfl, trivial, ly_end hP ht (sw_in1 h)⟩, hS.F ht⟩) hS.2.2 dL_put_33 hlocks
  · replace h := sw_f h cc
    refine lv_aload hx hb dL_put_15 (lv_at hl 4 rfl) ?_
    refine lv_iload hx hb dL_put_17 (lv_at hl 0 rfl) ?_
    refine lv_lload_n hx hb dL_put_19 rfl (lv_at hl 3 rfl) ?_
    obtain ⟨iu20, h⟩ := swgd_s h
    obtain ⟨u20, eu20, h⟩ := swlt_s h
    refine ly_last hx hb hK hJ (fun _ h => h) hP hS (cd := 0) (by decide) (by decide) rfl rfl (swix_s iu20) eu20 dL_put_20 (fun H locs hP hS => ?_)
    refine lv_goto (tgt := 33) hx hb dL_put_21 (by decide) ?_
    exact W.vret hx hb hr (fun t ht hW => ⟨⟨(), rfl, trivial, ly_end hP ht (sw_in1 h)⟩, hS.F ht⟩) hS.2.2 dL_put_33 hlocks

/-! copy -/
def lx_copy_L23 (a3 : Int32) (a9 : Int32) (kk : Int32 → lyU → Option (Int32 × lyU)) : Nat → Int32 → lyU → Option (Int32 × lyU)
  | 0, _, _ => none
  | n + 1, v10, wy23 => if 6 ≤ v10 then (kk v10 wy23) else (swbd (lx_get wy23 a9 v10) fun r40 => swbd (lx_put wy23 a3 v10 r40) fun u45 => lx_copy_L23 a3 a9 kk n (v10 + 1) u45)

def lx_copy (y : lyU) (x0 : Int32) : Option (Int32 × lyU) :=
  swrd 6 (y.1 8) 0 fun a3 => swrd 12 (y.1 5) x0 fun a9 => swrd 6 (y.1 8) 0 fun a16 => swgd (swix (0 : Int32) 6) <| swlt (lyI y 8 (Int32.toNatClampNeg (0 : Int32)) (a16 + 1)) fun u19 => lx_copy_L23 a3 a9 (fun v10 wy54 => swrd 21 (wy54.1 2) a9 fun a60 => swgd (swix a3 21) <| swlt (lyI wy54 2 (Int32.toNatClampNeg a3) a60) fun u61 => swrd 21 (u61.1 3) a9 fun a70 => swgd (swix a3 21) <| swlt (lyI u61 3 (Int32.toNatClampNeg a3) ((a70 ||| (swshl 1 a3)))) fun u76 => swgd (swix a3 21) <| swlt (lyI u76 4 (Int32.toNatClampNeg a3) (((a9 + 1) + ((4096 : Int32) * x0)))) fun u91 => swgd (swix x0 12) <| swlt (lyI u91 5 (Int32.toNatClampNeg x0) a3) fun u97 => some (a3, u97)) 64 0 u19

abbrev rmL_copy : Room := { frames := 1, cells := 0, slots := 0, locals := 26 }

set_option maxHeartbeats 4000000 in
set_option maxRecDepth 100000 in
theorem lm_copy (l : Launch) (D : va_G) (cy : Nat → ClassId) (al : Nat → Nat) (hJ : swJ lyN al) (y : lyU) (x0 : Int32) (r0 : Int32) (y0 : lyU) (h : lx_copy y x0 = some (r0, y0)) : Met l yL_copy wsL_copy rmL_copy (lyC D cy al y [.int x0, .ref (al 0), .ref (al 1), .ref (al 2), .ref (al 3), .ref (al 4), .ref (al 5), .ref (al 8)]) (lyQi D cy al r0 y0) 0 0 (lyA al) := by
  refine Met.ofW (cc := cL_copy) (maxL := 11) (ret := (some .int)) (by decide) rfl ?_
  intro p e s m args below meth c s₁ B hml hv
  obtain ⟨ha, hP, hK⟩ := hv
  have hx := B.exec
  have hb := B.bytes
  have hr := B.returns
  have hlocks := B.notSynchronized
  have hts := atoms_spec (ws := wsL_copy) B.pre
  have hown : s.vm.findClass RL = some m.cls := findClass_of_methodNamed B.named
  have E : CallFix p m c cL_copy 11 s args wsL_copy RL := ⟨hx, hb, hml, hown, hts⟩
  have hS : va_S (lyA al) s.heap s.heap [] := va_S.rf
  obtain ⟨ls, hl, hent⟩ := sw_entry m (n := 11) ha (Nat.le_of_ble_eq_true rfl)
  rw [hent]
  have hl : lv_has ls 11 [(0, .int x0), (1, .ref (al 0)), (2, .ref (al 1)), (3, .ref (al 2)), (4, .ref (al 3)), (5, .ref (al 4)), (6, .ref (al 5)), (7, .ref (al 8))] := hl
  unfold lx_copy at h
  refine lv_aload hx hb dL_copy_0 (lv_at hl 7 rfl) ?_
  refine lv_iconst (v := 0) hx hb dL_copy_2 (by decide) ?_
  obtain ⟨a3, ea3, ia3, h⟩ := swrd_s h
  refine ly_ald hx hb hK hP (cd := 8) (by decide) rfl ia3 dL_copy_3 ea3 ?_
  refine lv_istore (lv' := [(8, .int a3), (0, .int x0), (1, .ref (al 0)), (2, .ref (al 1)), (3, .ref (al 2)), (4, .ref (al 3)), (5, .ref (al 4)), (6, .ref (al 5)), (7, .ref (al 8))]) hx hb dL_copy_4 hl (by decide) rfl (fun ls hl => ?_)
  refine lv_aload hx hb dL_copy_6 (lv_at hl 7 rfl) ?_
  refine lv_iload_n hx hb dL_copy_8 rfl (lv_at hl 1 rfl) ?_
  obtain ⟨a9, ea9, ia9, h⟩ := swrd_s h
  refine ly_ald hx hb hK hP (cd := 5) (by decide) rfl ia9 dL_copy_9 ea9 ?_
  refine lv_istore (lv' := [(9, .int a9), (8, .int a3), (0, .int x0), (1, .ref (al 0)), (2, .ref (al 1)), (3, .ref (al 2)), (4, .ref (al 3)), (5, .ref (al 4)), (6, .ref (al 5)), (7, .ref (al 8))]) hx hb dL_copy_10 hl (by decide) rfl (fun ls hl => ?_)
  refine lv_aload hx hb dL_copy_12 (lv_at hl 9 rfl) ?_
  refine lv_iconst (v := 0) hx hb dL_copy_14 (by decide) ?_
  refine lv_dup2_11 hx hb dL_copy_15 rfl rfl ?_
  obtain ⟨a16, ea16, ia16, h⟩ := swrd_s h
  refine ly_ald hx hb hK hP (cd := 8) (by decide) rfl ia16 dL_copy_16 ea16 ?_
  refine lv_iconst (v := 1) hx hb dL_copy_17 (by decide) ?_
  refine lv_iadd hx hb dL_copy_18 ?_
  obtain ⟨iu19, h⟩ := swgd_s h
  obtain ⟨u19, eu19, h⟩ := swlt_s h
  refine ly_ast hx hb hK hJ (fun _ h => h) hP hS (cd := 8) (by decide) (by decide) rfl rfl (swix_s iu19) eu19 dL_copy_19 (fun H locs hP hS _ => ?_)
  refine lv_iconst (v := 0) hx hb dL_copy_20 (by decide) ?_
  refine lv_istore (lv' := [(10, .int 0), (9, .int a9), (8, .int a3), (0, .int x0), (1, .ref (al 0)), (2, .ref (al 1)), (3, .ref (al 2)), (4, .ref (al 3)), (5, .ref (al 4)), (6, .ref (al 5)), (7, .ref (al 8))]) hx hb dL_copy_21 hl (by decide) rfl (fun ls hl => ?_)
  have L23 : ∀ (kk : Int32 → lyU → Option (Int32 × lyU)), (∀ (v10 : Int32) (wy23 : lyU) (H : Heap) (locs : List Loc) (ls : Array Slot), kk v10 wy23 = some (r0, y0) → lyP D cy al wy23 H → va_S (lyA al) s.heap H locs → lv_has ls 11 [(0, .int x0), (1, .ref (al 0)), (2, .ref (al 1)), (3, .ref (al 2)), (4, .ref (al 3)), (5, .ref (al 4)), (6, .ref (al 5)), (7, .ref (al 8)), (8, .int a3), (9, .int a9), (10, .int v10)] → W p l e (headSpec wsL_copy rmL_copy).room s m args below meth c H locs 0 0 (MQ below (lyQi D cy al r0 y0) args s 0 0 (lyA al)) (F0 m 54 ls [])) → ∀ (n : Nat) (v10 : Int32) (wy23 : lyU) (H : Heap) (locs : List Loc) (ls : Array Slot), lx_copy_L23 a3 a9 kk n v10 wy23 = some (r0, y0) → lyP D cy al wy23 H → va_S (lyA al) s.heap H locs → lv_has ls 11 [(0, .int x0), (1, .ref (al 0)), (2, .ref (al 1)), (3, .ref (al 2)), (4, .ref (al 3)), (5, .ref (al 4)), (6, .ref (al 5)), (7, .ref (al 8)), (8, .int a3), (9, .int a9), (10, .int v10)] → W p l e (headSpec wsL_copy rmL_copy).room s m args below meth c H locs 0 0 (MQ below (lyQi D cy al r0 y0) args s 0 0 (lyA al)) (F0 m 23 ls []) := by
    intro kk hk23 n
    induction n with
    | zero => intro v10 wy23 H locs ls h hP hS hl; rw [lx_copy_L23] at h; cases h
    | succ n ih23 =>
      intro v10 wy23 H locs ls h hP hS hl
      rw [lx_copy_L23] at h
      refine lv_iload hx hb dL_copy_23 (lv_at hl 10 rfl) ?_
      refine lv_bipush (v := 6) hx hb dL_copy_25 (by decide) ?_
      refine lv_icmp_ge (tgt := 54) hx hb dL_copy_27 (by decide) (fun cc => ?_) (fun cc => ?_)
      · replace h := sw_t h cc
        exact hk23 _ _ _ _ _ h hP hS (lv_sub hl [0, 1, 2, 3, 4, 5, 6, 7, 8, 9, 10] rfl)
      · replace h := sw_f h cc
        refine lv_iload hx hb dL_copy_30 (lv_at hl 8 rfl) ?_
        refine lv_iload hx hb dL_copy_32 (lv_at hl 10 rfl) ?_
        refine lv_iload hx hb dL_copy_34 (lv_at hl 9 rfl) ?_
        refine lv_iload hx hb dL_copy_36 (lv_at hl 10 rfl) ?_
        refine lv_aload_n hx hb dL_copy_38 rfl (lv_at hl 1 rfl) ?_
        refine lv_aload_n hx hb dL_copy_39 rfl (lv_at hl 2 rfl) ?_
        obtain ⟨r40, er40, h⟩ := swbd_s h
        refine ly_roL (As := [.int a9, .int v10, .ref (al 0), .ref (al 1)]) (rest := [.int v10, .int a3]) E (lm_get l D cy al wy23 a9 v10 _ er40) (va_cwS 4 hts gL_copy_L_get rfl rfl rfl (by decide +kernel) ⟨Nat.le_of_ble_eq_true rfl, Nat.le_of_ble_eq_true rfl⟩) hK hP ⟨Nat.zero_le _, Nat.zero_le _⟩ rfl hl.1 rfl (Nat.le_of_ble_eq_true rfl) dL_copy_40 ?_
        refine lv_aload_n hx hb dL_copy_43 rfl (lv_at hl 1 rfl) ?_
        refine lv_aload_n hx hb dL_copy_44 rfl (lv_at hl 2 rfl) ?_
        obtain ⟨u45, er45, h⟩ := swbd_s h
        refine ly_rwV (As := [.int a3, .int v10, .long r40, .ref (al 0), .ref (al 1)]) (rest := []) E (lm_put l D cy al hJ wy23 a3 v10 r40 _ er45) (va_cwS 5 hts gL_copy_L_put rfl rfl rfl (by decide +kernel) ⟨Nat.le_of_ble_eq_true rfl, Nat.le_of_ble_eq_true rfl⟩) hK (fun _ h => h) hP hS ⟨Nat.zero_le _, Nat.zero_le _⟩ rfl hl.1 rfl (Nat.le_of_ble_eq_true rfl) dL_copy_45 (fun H locs hP hS _ => ?_)
        refine lv_iinc (v := (v10 + 1)) (lv' := [(10, .int (v10 + 1)), (0, .int x0), (1, .ref (al 0)), (2, .ref (al 1)), (3, .ref (al 2)), (4, .ref (al 3)), (5, .ref (al 4)), (6, .ref (al 5)), (7, .ref (al 8)), (8, .int a3), (9, .int a9)]) hx hb dL_copy_48 hl (k := 10) rfl rfl (by decide) rfl (fun ls hl => ?_)
        refine lv_goto (tgt := 23) hx hb dL_copy_51 (by decide) ?_
        exact ih23 _ _ _ _ _ h hP hS (lv_sub hl [1, 2, 3, 4, 5, 6, 7, 8, 9, 10, 0] rfl)
  refine L23 _ (fun v10 wy54 H locs ls h hP hS hl => ?_) 64 _ _ _ _ _ h hP hS (lv_sub hl [3, 4, 5, 6, 7, 8, 9, 10, 2, 1, 0] rfl)
  refine lv_aload_n hx hb dL_copy_54 rfl (lv_at hl 3 rfl) ?_
  refine lv_iload hx hb dL_copy_55 (lv_at hl 8 rfl) ?_
  refine lv_aload_n hx hb dL_copy_57 rfl (lv_at hl 3 rfl) ?_
  refine lv_iload hx hb dL_copy_58 (lv_at hl 9 rfl) ?_
  obtain ⟨a60, ea60, ia60, h⟩ := swrd_s h
  refine ly_ald hx hb hK hP (cd := 2) (by decide) rfl ia60 dL_copy_60 ea60 ?_
  obtain ⟨iu61, h⟩ := swgd_s h
  obtain ⟨u61, eu61, h⟩ := swlt_s h
  refine ly_ast hx hb hK hJ (fun _ h => h) hP hS (cd := 2) (by decide) (by decide) rfl rfl (swix_s iu61) eu61 dL_copy_61 (fun H locs hP hS _ => ?_)
  refine lv_aload hx hb dL_copy_62 (lv_at hl 4 rfl) ?_
  refine lv_iload hx hb dL_copy_64 (lv_at hl 8 rfl) ?_
  refine lv_aload hx hb dL_copy_66 (lv_at hl 4 rfl) ?_
  refine lv_iload hx hb dL_copy_68 (lv_at hl 9 rfl) ?_
  obtain ⟨a70, ea70, ia70, h⟩ := swrd_s h
  refine ly_ald hx hb hK hP (cd := 3) (by decide) rfl ia70 dL_copy_70 ea70 ?_
  refine lv_iconst (v := 1) hx hb dL_copy_71 (by decide) ?_
  refine lv_iload hx hb dL_copy_72 (lv_at hl 8 rfl) ?_
  refine lv_ishl hx hb dL_copy_74 ?_
  refine sw_top (x := swshl 1 a3) rfl ?_
  refine lv_ior hx hb dL_copy_75 ?_
  obtain ⟨iu76, h⟩ := swgd_s h
  obtain ⟨u76, eu76, h⟩ := swlt_s h
  refine ly_ast hx hb hK hJ (fun _ h => h) hP hS (cd := 3) (by decide) (by decide) rfl rfl (swix_s iu76) eu76 dL_copy_76 (fun H locs hP hS _ => ?_)
  refine lv_aload hx hb dL_copy_77 (lv_at hl 5 rfl) ?_
  refine lv_iload hx hb dL_copy_79 (lv_at hl 8 rfl) ?_
  refine lv_iload hx hb dL_copy_81 (lv_at hl 9 rfl) ?_
  refine lv_iconst (v := 1) hx hb dL_copy_83 (by decide) ?_
  refine lv_iadd hx hb dL_copy_84 ?_
  refine lv_sipush (v := 4096) hx hb dL_copy_85 (by decide) ?_
  refine lv_iload_n hx hb dL_copy_88 rfl (lv_at hl 0 rfl) ?_
  refine lv_imul hx hb dL_copy_89 ?_
  refine lv_iadd hx hb dL_copy_90 ?_
  obtain ⟨iu91, h⟩ := swgd_s h
  obtain ⟨u91, eu91, h⟩ := swlt_s h
  refine ly_ast hx hb hK hJ (fun _ h => h) hP hS (cd := 4) (by decide) (by decide) rfl rfl (swix_s iu91) eu91 dL_copy_91 (fun H locs hP hS _ => ?_)
  refine lv_aload hx hb dL_copy_92 (lv_at hl 6 rfl) ?_
  refine lv_iload_n hx hb dL_copy_94 rfl (lv_at hl 0 rfl) ?_
  refine lv_iload hx hb dL_copy_95 (lv_at hl 8 rfl) ?_
  obtain ⟨iu97, h⟩ := swgd_s h
  obtain ⟨u97, eu97, h⟩ := swlt_s h
  refine ly_ast hx hb hK hJ (fun _ h => h) hP hS (cd := 5) (by decide) (by decide) rfl rfl (swix_s iu97) eu97 dL_copy_97 (fun H locs hP hS _ => ?_)
  refine lv_iload hx hb dL_copy_98 (lv_at hl 8 rfl) ?_
  exact W.iret hx hb hr (fun t ht hW => ⟨⟨_, (), rfl, (sw_inj h).1, ly_end hP ht (sw_inj h).2⟩, hS.F ht⟩) hS.2.2 dL_copy_100 hlocks

/-! base -/
def lx_base_L11 (y : lyU) (y7 : Int32) (kk : Int32 → Option (Int32)) : Nat → Int32 → Option (Int32)
  | 0, _ => none
  | n + 1, v4 => if (swshr y7 v4) ≤ 1 then (kk v4) else (lx_base_L11 y y7 kk n (v4 + 1))

def lx_base (y : lyU) (x0 : Int32) (x1 : Int32) : Option (Int32) :=
  swrd 21 (y.1 3) x0 fun a2 => swrd 21 (y.1 3) x1 fun a5 => swlt (a2 &&& a5) fun y7 => lx_base_L11 y y7 (fun v4 => some v4) 64 0

abbrev rmL_base : Room := { frames := 0, cells := 0, slots := 0, locals := 0 }

set_option maxHeartbeats 4000000 in
set_option maxRecDepth 100000 in
theorem lm_base (l : Launch) (D : va_G) (cy : Nat → ClassId) (al : Nat → Nat) (y : lyU) (x0 : Int32) (x1 : Int32) (r0 : Int32) (h : lx_base y x0 x1 = some r0) : Met l yL_base wsL_base rmL_base (lyC D cy al y [.int x0, .int x1, .ref (al 3)]) (vp_Si (fun r : Int32 => r = r0)) 0 0 (fun _ => False) := by
  refine Met.ofW (cc := cL_base) (maxL := 5) (ret := (some .int)) (by decide) rfl ?_
  intro p e s m args below meth c s₁ B hml hv
  obtain ⟨ha, hP, hK⟩ := hv
  have hx := B.exec
  have hb := B.bytes
  have hr := B.returns
  have hlocks := B.notSynchronized
  have hts := atoms_spec (ws := wsL_base) B.pre
  have hown : s.vm.findClass RL = some m.cls := findClass_of_methodNamed B.named
  obtain ⟨ls, hl, hent⟩ := sw_entry m (n := 5) ha (Nat.le_of_ble_eq_true rfl)
  rw [hent]
  have hl : lv_has ls 5 [(0, .int x0), (1, .int x1), (2, .ref (al 3))] := hl
  unfold lx_base at h
  refine lv_aload_n hx hb dL_base_0 rfl (lv_at hl 2 rfl) ?_
  refine lv_iload_n hx hb dL_base_1 rfl (lv_at hl 0 rfl) ?_
  obtain ⟨a2, ea2, ia2, h⟩ := swrd_s h
  refine ly_ald hx hb hK hP (cd := 3) (by decide) rfl ia2 dL_base_2 ea2 ?_
  refine lv_aload_n hx hb dL_base_3 rfl (lv_at hl 2 rfl) ?_
  refine lv_iload_n hx hb dL_base_4 rfl (lv_at hl 1 rfl) ?_
  obtain ⟨a5, ea5, ia5, h⟩ := swrd_s h
  refine ly_ald hx hb hK hP (cd := 3) (by decide) rfl ia5 dL_base_5 ea5 ?_
  refine lv_iand hx hb dL_base_6 ?_
  obtain ⟨y7, ey7, h⟩ := swlt_s h
  refine sw_top ey7 ?_
  refine lv_istore_n (lv' := [(3, .int y7), (0, .int x0), (1, .int x1), (2, .ref (al 3))]) hx hb dL_base_7 rfl hl (by decide) rfl (fun ls hl => ?_)
  refine lv_iconst (v := 0) hx hb dL_base_8 (by decide) ?_
  refine lv_istore (lv' := [(4, .int 0), (3, .int y7), (0, .int x0), (1, .int x1), (2, .ref (al 3))]) hx hb dL_base_9 hl (by decide) rfl (fun ls hl => ?_)
  have L11 : ∀ (kk : Int32 → Option (Int32)), (∀ (v4 : Int32) (ls : Array Slot), kk v4 = some r0 → lv_has ls 5 [(0, .int x0), (1, .int x1), (2, .ref (al 3)), (3, .int y7), (4, .int v4)] → W p l e (headSpec wsL_base rmL_base).room s m args below meth c s.heap [] 0 0 (MQ below (vp_Si (fun r : Int32 => r = r0)) args s 0 0 (fun _ => False)) (F0 m 25 ls [])) → ∀ (n : Nat) (v4 : Int32) (ls : Array Slot), lx_base_L11 y y7 kk n v4 = some r0 → lv_has ls 5 [(0, .int x0), (1, .int x1), (2, .ref (al 3)), (3, .int y7), (4, .int v4)] → W p l e (headSpec wsL_base rmL_base).room s m args below meth c s.heap [] 0 0 (MQ below (vp_Si (fun r : Int32 => r = r0)) args s 0 0 (fun _ => False)) (F0 m 11 ls []) := by
    intro kk hk11 n
    induction n with
    | zero => intro v4 ls h hl; rw [lx_base_L11] at h; cases h
    | succ n ih11 =>
      intro v4 ls h hl
      rw [lx_base_L11] at h
      refine lv_iload_n hx hb dL_base_11 rfl (lv_at hl 3 rfl) ?_
      refine lv_iload hx hb dL_base_12 (lv_at hl 4 rfl) ?_
      refine lv_ishr hx hb dL_base_14 ?_
      refine sw_top (x := swshr y7 v4) rfl ?_
      refine lv_iconst (v := 1) hx hb dL_base_15 (by decide) ?_
      refine lv_icmp_le (tgt := 25) hx hb dL_base_16 (by decide) (fun cc => ?_) (fun cc => ?_)
      · replace h := sw_t h cc
        exact hk11 _ _ h (lv_sub hl [0, 1, 2, 3, 4] rfl)
      · replace h := sw_f h cc
        refine lv_iinc (v := (v4 + 1)) (lv' := [(4, .int (v4 + 1)), (0, .int x0), (1, .int x1), (2, .ref (al 3)), (3, .int y7)]) hx hb dL_base_19 hl (k := 4) rfl rfl (by decide) rfl (fun ls hl => ?_)
        refine lv_goto (tgt := 11) hx hb dL_base_22 (by decide) ?_
        exact ih11 _ _ h (lv_sub hl [1, 2, 3, 4, 0] rfl)
  refine L11 _ (fun v4 ls h hl => ?_) 64 _ _ h (lv_sub hl [2, 3, 4, 1, 0] rfl)
  refine lv_iload hx hb dL_base_25 (lv_at hl 4 rfl) ?_
  exact W.iret hx hb hr (fun t ht hW => ⟨_, rfl, sw_in1 h, ht⟩) (fun q hq => by cases hq) dL_base_27 hlocks

/-! meets -/
def lx_meets_L86 (x0 : Int64) (x2 : Int64) (x4 : Int64) (x6 : Int32) (kk : Int64 → Int64 → Int32 → Option (Int64)) : Nat → Int64 → Int64 → Int32 → Option (Int64)
  | 0, _, _, _ => none
  | n + 1, v7, v9, v11 => if 4 ≤ v11 then (kk v7 v9 v11) else (swbd (lx_value x2 v11) fun r95 => swbd (lx_value x4 v11) fun r104 => swjn (fun (s131_0 : Int32) => swjn (fun (s155_0 : Int32) => swjn (fun (s181_0 : Int64) => swlt (v9 + s181_0) fun y182 => swjn (fun (s223_0 : Int32) => swlt ((v7 + (lyshl (Int32.toInt64 s223_0) (((10 : Int32) * v11))))) fun y237 => lx_meets_L86 x0 x2 x4 x6 kk n y237 y182 (v11 + 1)) fun k223_ => if r95 = r104 then (k223_ r95) else (if s155_0 = 0 then (if s131_0 = 0 then (if x6 = 0 then (k223_ r104) else (k223_ r95)) else (k223_ r104)) else (k223_ r95))) fun k181_ => if r95 = r104 then (k181_ (0 : Int64)) else (if s131_0 = 0 then (if s155_0 = 0 then (k181_ (1 : Int64)) else (k181_ (0 : Int64))) else (k181_ (0 : Int64)))) fun k155_ => if (lg_cmp x0 (0 : Int64)) = 0 then (k155_ 0) else (swbd (lx_value x0 v11) fun r142 => if r142 = r104 then (k155_ 1) else (k155_ 0))) fun k131_ => if (lg_cmp x0 (0 : Int64)) = 0 then (k131_ 0) else (swbd (lx_value x0 v11) fun r118 => if r118 = r95 then (k131_ 1) else (k131_ 0)))

def lx_meets (x0 : Int64) (x2 : Int64) (x4 : Int64) (x6 : Int32) : Option (Int64) :=
  if (lg_cmp x2 x4) = 0 then (some x2) else (if (lg_cmp x0 (0 : Int64)) = 0 then (if (lg_cmp x2 (0 : Int64)) = 0 then (some (x2 + x4)) else (if (lg_cmp x4 (0 : Int64)) = 0 then (some (x2 + x4)) else (if (lg_cmp x2 (0 : Int64)) = 0 then (if (lg_cmp (x2 + x4) x0) = 0 then (some (0 : Int64)) else (swjn (fun (s70_0 : Int64) => some ((s70_0 + (2199023255552 : Int64)))) fun k70_ => if x6 = 0 then (k70_ x4) else (k70_ x2))) else (if (lg_cmp x4 (0 : Int64)) = 0 then (if (lg_cmp (x2 + x4) x0) = 0 then (some (0 : Int64)) else (swjn (fun (s70_0 : Int64) => some ((s70_0 + (2199023255552 : Int64)))) fun k70_ => if x6 = 0 then (k70_ x4) else (k70_ x2))) else (lx_meets_L86 x0 x2 x4 x6 (fun v7 v9 v11 => some ((v7 + (lyshl v9 41)))) 64 (1099511627776 : Int64) (0 : Int64) 0))))) else (if (lg_cmp x2 (0 : Int64)) = 0 then (if (lg_cmp (x2 + x4) x0) = 0 then (some (0 : Int64)) else (swjn (fun (s70_0 : Int64) => some ((s70_0 + (2199023255552 : Int64)))) fun k70_ => if x6 = 0 then (k70_ x4) else (k70_ x2))) else (if (lg_cmp x4 (0 : Int64)) = 0 then (if (lg_cmp (x2 + x4) x0) = 0 then (some (0 : Int64)) else (swjn (fun (s70_0 : Int64) => some ((s70_0 + (2199023255552 : Int64)))) fun k70_ => if x6 = 0 then (k70_ x4) else (k70_ x2))) else (lx_meets_L86 x0 x2 x4 x6 (fun v7 v9 v11 => some ((v7 + (lyshl v9 41)))) 64 (1099511627776 : Int64) (0 : Int64) 0))))

abbrev rmL_meets : Room := { frames := 1, cells := 0, slots := 0, locals := 22 }

set_option maxHeartbeats 4000000 in
set_option maxRecDepth 100000 in
theorem lm_meets (l : Launch) (x0 : Int64) (x2 : Int64) (x4 : Int64) (x6 : Int32) (r0 : Int64) (h : lx_meets x0 x2 x4 x6 = some r0) : Met l yL_meets wsL_meets rmL_meets (va_Pc [.long x0, .long x2, .long x4, .int x6] (fun _ => True)) (vp_Sl (fun r : Int64 => r = r0)) 0 0 (fun _ => False) := by
  refine Met.ofW (cc := cL_meets) (maxL := 17) (ret := (some .long)) (by decide) rfl ?_
  intro p e s m args below meth c s₁ B hml hv
  obtain ⟨ha, -⟩ := hv
  have hx := B.exec
  have hb := B.bytes
  have hr := B.returns
  have hlocks := B.notSynchronized
  have hts := atoms_spec (ws := wsL_meets) B.pre
  have hown : s.vm.findClass RL = some m.cls := findClass_of_methodNamed B.named
  have E : CallFix p m c cL_meets 17 s args wsL_meets RL := ⟨hx, hb, hml, hown, hts⟩
  have fl41 : (Cond.constantLong RL 41 (2199023255552)).before args s = true := hts _ (by decide +kernel)
  have fl43 : (Cond.constantLong RL 43 (1099511627776)).before args s = true := hts _ (by decide +kernel)
  obtain ⟨ls, hl, hent⟩ := sw_entry m (n := 17) ha (Nat.le_of_ble_eq_true rfl)
  rw [hent]
  have hl : lv_has ls 17 [(0, .long x0), (2, .long x2), (4, .long x4), (6, .int x6)] := hl
  unfold lx_meets at h
  refine lv_lload_n hx hb dL_meets_0 rfl (lv_at hl 1 rfl) ?_
  refine lv_lload hx hb dL_meets_1 (lv_at hl 2 rfl) ?_
  refine W.lcmp hx hb dL_meets_3 ?_
  refine lv_if_ne (tgt := 9) hx hb dL_meets_4 (by decide) (fun cc => ?_) (fun cc => ?_)
  · replace h := sw_f h cc
    refine lv_lload_n hx hb dL_meets_9 rfl (lv_at hl 0 rfl) ?_
    refine lv_lconst (v := 0) hx hb dL_meets_10 (by decide) ?_
    refine W.lcmp hx hb dL_meets_11 ?_
    refine lv_if_ne (tgt := 33) hx hb dL_meets_12 (by decide) (fun cc => ?_) (fun cc => ?_)
    · replace h := sw_f h cc
      refine lv_lload_n hx hb dL_meets_33 rfl (lv_at hl 1 rfl) ?_
      refine lv_lconst (v := 0) hx hb dL_meets_34 (by decide) ?_
      refine W.lcmp hx hb dL_meets_35 ?_
      refine lv_if_eq (tgt := 46) hx hb dL_meets_36 (by decide) (fun cc => ?_) (fun cc => ?_)
      · replace h := sw_t h cc
        refine lv_lload_n hx hb dL_meets_46 rfl (lv_at hl 1 rfl) ?_
        refine lv_lload hx hb dL_meets_47 (lv_at hl 2 rfl) ?_
        refine lv_ladd hx hb dL_meets_49 ?_
        refine lv_lload_n hx hb dL_meets_50 rfl (lv_at hl 0 rfl) ?_
        refine W.lcmp hx hb dL_meets_51 ?_
        refine lv_if_ne (tgt := 59) hx hb dL_meets_52 (by decide) (fun cc => ?_) (fun cc => ?_)
        · replace h := sw_f h cc
          refine lv_iload hx hb dL_meets_59 (lv_at hl 3 rfl) ?_
          obtain ⟨k70_, ek70_, h⟩ := swjn_s h
          have J70 : ∀ (s70_0 : Int64) (ls : Array Slot), k70_ s70_0 = some r0 → lv_has ls 17 [(0, .long x0), (2, .long x2), (4, .long x4), (6, .int x6)] → W p l e (headSpec wsL_meets rmL_meets).room s m args below meth c s.heap [] 0 0 (MQ below (vp_Sl (fun r : Int64 => r = r0)) args s 0 0 (fun _ => False)) (F0 m 70 ls [.long s70_0]) := by
            intro s70_0 ls h hl
            rw [ek70_] at h
            refine lv_ldc2 (v := 2199023255552) hx hb hown fl41 dL_meets_70 ?_
            refine lv_ladd hx hb dL_meets_73 ?_
            exact W.lret hx hb hr (fun t ht hW => ⟨_, rfl, sw_in1 h, ht⟩) (fun q hq => by cases hq) dL_meets_74 hlocks
          clear ek70_
          refine lv_if_eq (tgt := 68) hx hb dL_meets_61 (by decide) (fun cc => ?_) (fun cc => ?_)
          · replace h := sw_t h cc
            refine lv_lload hx hb dL_meets_68 (lv_at hl 2 rfl) ?_
            exact J70 _ _ h (lv_sub hl [0, 1, 2, 3] rfl)
          · replace h := sw_f h cc
            refine lv_lload_n hx hb dL_meets_64 rfl (lv_at hl 1 rfl) ?_
            refine lv_goto (tgt := 70) hx hb dL_meets_65 (by decide) ?_
            exact J70 _ _ h (lv_sub hl [0, 1, 2, 3] rfl)
        · replace h := sw_t h cc
          refine lv_lconst (v := 0) hx hb dL_meets_55 (by decide) ?_
          refine lv_goto (tgt := 74) hx hb dL_meets_56 (by decide) ?_
          exact W.lret hx hb hr (fun t ht hW => ⟨_, rfl, sw_in1 h, ht⟩) (fun q hq => by cases hq) dL_meets_74 hlocks
      · replace h := sw_f h cc
        refine lv_lload hx hb dL_meets_39 (lv_at hl 2 rfl) ?_
        refine lv_lconst (v := 0) hx hb dL_meets_41 (by decide) ?_
        refine W.lcmp hx hb dL_meets_42 ?_
        refine lv_if_ne (tgt := 75) hx hb dL_meets_43 (by decide) (fun cc => ?_) (fun cc => ?_)
        · replace h := sw_f h cc
          refine lv_ldc2 (v := 1099511627776) hx hb hown fl43 dL_meets_75 ?_
          refine lv_lstore (lv' := [(7, .long 1099511627776), (0, .long x0), (2, .long x2), (4, .long x4), (6, .int x6)]) hx hb dL_meets_78 hl (by decide) rfl (fun ls hl => ?_)
          refine lv_lconst (v := 0) hx hb dL_meets_80 (by decide) ?_
          refine lv_lstore (lv' := [(9, .long 0), (7, .long 1099511627776), (0, .long x0), (2, .long x2), (4, .long x4), (6, .int x6)]) hx hb dL_meets_81 hl (by decide) rfl (fun ls hl => ?_)
          refine lv_iconst (v := 0) hx hb dL_meets_83 (by decide) ?_
          refine lv_istore (lv' := [(11, .int 0), (9, .long 0), (7, .long 1099511627776), (0, .long x0), (2, .long x2), (4, .long x4), (6, .int x6)]) hx hb dL_meets_84 hl (by decide) rfl (fun ls hl => ?_)
          have L86 : ∀ (kk : Int64 → Int64 → Int32 → Option (Int64)), (∀ (v7 : Int64) (v9 : Int64) (v11 : Int32) (ls : Array Slot), kk v7 v9 v11 = some r0 → lv_has ls 17 [(0, .long x0), (2, .long x2), (4, .long x4), (6, .int x6), (7, .long v7), (9, .long v9), (11, .int v11)] → W p l e (headSpec wsL_meets rmL_meets).room s m args below meth c s.heap [] 0 0 (MQ below (vp_Sl (fun r : Int64 => r = r0)) args s 0 0 (fun _ => False)) (F0 m 245 ls [])) → ∀ (n : Nat) (v7 : Int64) (v9 : Int64) (v11 : Int32) (ls : Array Slot), lx_meets_L86 x0 x2 x4 x6 kk n v7 v9 v11 = some r0 → lv_has ls 17 [(0, .long x0), (2, .long x2), (4, .long x4), (6, .int x6), (7, .long v7), (9, .long v9), (11, .int v11)] → W p l e (headSpec wsL_meets rmL_meets).room s m args below meth c s.heap [] 0 0 (MQ below (vp_Sl (fun r : Int64 => r = r0)) args s 0 0 (fun _ => False)) (F0 m 86 ls []) := by
            intro kk hk86 n
            induction n with
            | zero => intro v7 v9 v11 ls h hl; rw [lx_meets_L86] at h; cases h
            | succ n ih86 =>
              intro v7 v9 v11 ls h hl
              rw [lx_meets_L86] at h
              refine lv_iload hx hb dL_meets_86 (lv_at hl 6 rfl) ?_
              refine lv_iconst (v := 4) hx hb dL_meets_88 (by decide) ?_
              refine lv_icmp_ge (tgt := 245) hx hb dL_meets_89 (by decide) (fun cc => ?_) (fun cc => ?_)
              · replace h := sw_t h cc
                exact hk86 _ _ _ _ h (lv_sub hl [0, 1, 2, 3, 4, 5, 6] rfl)
              · replace h := sw_f h cc
                refine lv_lload_n hx hb dL_meets_92 rfl (lv_at hl 1 rfl) ?_
                refine lv_iload hx hb dL_meets_93 (lv_at hl 6 rfl) ?_
                obtain ⟨r95, er95, h⟩ := swbd_s h
                refine ly_stS (As := [.long x2, .int v11]) (rest := []) E (lm_value l x2 v11 _ er95) (va_cwS 2 hts gL_meets_L_value rfl rfl rfl (by decide +kernel) ⟨Nat.le_of_ble_eq_true rfl, Nat.le_of_ble_eq_true rfl⟩) ⟨Nat.zero_le _, Nat.zero_le _⟩ rfl hl.1 rfl (Nat.le_of_ble_eq_true rfl) dL_meets_95 ?_
                refine lv_istore (lv' := [(12, .int r95), (0, .long x0), (2, .long x2), (4, .long x4), (6, .int x6), (7, .long v7), (9, .long v9), (11, .int v11)]) hx hb dL_meets_98 hl (by decide) rfl (fun ls hl => ?_)
                refine lv_lload hx hb dL_meets_100 (lv_at hl 3 rfl) ?_
                refine lv_iload hx hb dL_meets_102 (lv_at hl 7 rfl) ?_
                obtain ⟨r104, er104, h⟩ := swbd_s h
                refine ly_stS (As := [.long x4, .int v11]) (rest := []) E (lm_value l x4 v11 _ er104) (va_cwS 2 hts gL_meets_L_value rfl rfl rfl (by decide +kernel) ⟨Nat.le_of_ble_eq_true rfl, Nat.le_of_ble_eq_true rfl⟩) ⟨Nat.zero_le _, Nat.zero_le _⟩ rfl hl.1 rfl (Nat.le_of_ble_eq_true rfl) dL_meets_104 ?_
                refine lv_istore (lv' := [(13, .int r104), (12, .int r95), (0, .long x0), (2, .long x2), (4, .long x4), (6, .int x6), (7, .long v7), (9, .long v9), (11, .int v11)]) hx hb dL_meets_107 hl (by decide) rfl (fun ls hl => ?_)
                refine lv_lload_n hx hb dL_meets_109 rfl (lv_at hl 2 rfl) ?_
                refine lv_lconst (v := 0) hx hb dL_meets_110 (by decide) ?_
                refine W.lcmp hx hb dL_meets_111 ?_
                obtain ⟨k131_, ek131_, h⟩ := swjn_s h
                have J131 : ∀ (s131_0 : Int32) (ls : Array Slot), k131_ s131_0 = some r0 → lv_has ls 17 [(0, .long x0), (2, .long x2), (4, .long x4), (6, .int x6), (7, .long v7), (9, .long v9), (11, .int v11), (12, .int r95), (13, .int r104)] → W p l e (headSpec wsL_meets rmL_meets).room s m args below meth c s.heap [] 0 0 (MQ below (vp_Sl (fun r : Int64 => r = r0)) args s 0 0 (fun _ => False)) (F0 m 131 ls [.int s131_0]) := by
                  intro s131_0 ls h hl
                  rw [ek131_] at h
                  refine lv_istore (lv' := [(14, .int s131_0), (0, .long x0), (2, .long x2), (4, .long x4), (6, .int x6), (7, .long v7), (9, .long v9), (11, .int v11), (12, .int r95), (13, .int r104)]) hx hb dL_meets_131 hl (by decide) rfl (fun ls hl => ?_)
                  refine lv_lload_n hx hb dL_meets_133 rfl (lv_at hl 1 rfl) ?_
                  refine lv_lconst (v := 0) hx hb dL_meets_134 (by decide) ?_
                  refine W.lcmp hx hb dL_meets_135 ?_
                  obtain ⟨k155_, ek155_, h⟩ := swjn_s h
                  have J155 : ∀ (s155_0 : Int32) (ls : Array Slot), k155_ s155_0 = some r0 → lv_has ls 17 [(0, .long x0), (2, .long x2), (4, .long x4), (6, .int x6), (7, .long v7), (9, .long v9), (11, .int v11), (12, .int r95), (13, .int r104), (14, .int s131_0)] → W p l e (headSpec wsL_meets rmL_meets).room s m args below meth c s.heap [] 0 0 (MQ below (vp_Sl (fun r : Int64 => r = r0)) args s 0 0 (fun _ => False)) (F0 m 155 ls [.int s155_0]) := by
                    intro s155_0 ls h hl
                    rw [ek155_] at h
                    refine lv_istore (lv' := [(15, .int s155_0), (0, .long x0), (2, .long x2), (4, .long x4), (6, .int x6), (7, .long v7), (9, .long v9), (11, .int v11), (12, .int r95), (13, .int r104), (14, .int s131_0)]) hx hb dL_meets_155 hl (by decide) rfl (fun ls hl => ?_)
                    refine lv_lload hx hb dL_meets_157 (lv_at hl 6 rfl) ?_
                    refine lv_iload hx hb dL_meets_159 (lv_at hl 8 rfl) ?_
                    refine lv_iload hx hb dL_meets_161 (lv_at hl 9 rfl) ?_
                    obtain ⟨k181_, ek181_, h⟩ := swjn_s h
                    have J181 : ∀ (s181_0 : Int64) (ls : Array Slot), k181_ s181_0 = some r0 → lv_has ls 17 [(0, .long x0), (2, .long x2), (4, .long x4), (6, .int x6), (7, .long v7), (9, .long v9), (11, .int v11), (12, .int r95), (13, .int r104), (14, .int s131_0), (15, .int s155_0)] → W p l e (headSpec wsL_meets rmL_meets).room s m args below meth c s.heap [] 0 0 (MQ below (vp_Sl (fun r : Int64 => r = r0)) args s 0 0 (fun _ => False)) (F0 m 181 ls [.long s181_0, .long v9]) := by
                      intro s181_0 ls h hl
                      rw [ek181_] at h
                      refine lv_ladd hx hb dL_meets_181 ?_
                      obtain ⟨y182, ey182, h⟩ := swlt_s h
                      refine sw_topL ey182 ?_
                      refine lv_lstore (lv' := [(9, .long y182), (0, .long x0), (2, .long x2), (4, .long x4), (6, .int x6), (7, .long v7), (11, .int v11), (12, .int r95), (13, .int r104), (14, .int s131_0), (15, .int s155_0)]) hx hb dL_meets_182 hl (by decide) rfl (fun ls hl => ?_)
                      refine lv_iload hx hb dL_meets_184 (lv_at hl 7 rfl) ?_
                      refine lv_iload hx hb dL_meets_186 (lv_at hl 8 rfl) ?_
                      obtain ⟨k223_, ek223_, h⟩ := swjn_s h
                      have J223 : ∀ (s223_0 : Int32) (ls : Array Slot), k223_ s223_0 = some r0 → lv_has ls 17 [(0, .long x0), (2, .long x2), (4, .long x4), (6, .int x6), (7, .long v7), (9, .long y182), (11, .int v11), (12, .int r95), (13, .int r104), (14, .int s131_0), (15, .int s155_0)] → W p l e (headSpec wsL_meets rmL_meets).room s m args below meth c s.heap [] 0 0 (MQ below (vp_Sl (fun r : Int64 => r = r0)) args s 0 0 (fun _ => False)) (F0 m 223 ls [.int s223_0]) := by
                        intro s223_0 ls h hl
                        rw [ek223_] at h
                        refine lv_istore (lv' := [(16, .int s223_0), (0, .long x0), (2, .long x2), (4, .long x4), (6, .int x6), (7, .long v7), (9, .long y182), (11, .int v11), (12, .int r95), (13, .int r104), (14, .int s131_0), (15, .int s155_0)]) hx hb dL_meets_223 hl (by decide) rfl (fun ls hl => ?_)
                        refine lv_lload hx hb dL_meets_225 (lv_at hl 5 rfl) ?_
                        refine lv_iload hx hb dL_meets_227 (lv_at hl 0 rfl) ?_
                        refine lv_i2l (v := (Int32.toInt64 s223_0)) hx hb dL_meets_229 rfl ?_
                        refine lv_bipush (v := 10) hx hb dL_meets_230 (by decide) ?_
                        refine lv_iload hx hb dL_meets_232 (lv_at hl 7 rfl) ?_
                        refine lv_imul hx hb dL_meets_234 ?_
                        refine lv_lshl (v := (lyshl (Int32.toInt64 s223_0) (((10 : Int32) * v11)))) hx hb dL_meets_235 rfl ?_
                        refine lv_ladd hx hb dL_meets_236 ?_
                        obtain ⟨y237, ey237, h⟩ := swlt_s h
                        refine sw_topL ey237 ?_
                        refine lv_lstore (lv' := [(7, .long y237), (16, .int s223_0), (0, .long x0), (2, .long x2), (4, .long x4), (6, .int x6), (9, .long y182), (11, .int v11), (12, .int r95), (13, .int r104), (14, .int s131_0), (15, .int s155_0)]) hx hb dL_meets_237 hl (by decide) rfl (fun ls hl => ?_)
                        refine lv_iinc (v := (v11 + 1)) (lv' := [(11, .int (v11 + 1)), (7, .long y237), (16, .int s223_0), (0, .long x0), (2, .long x2), (4, .long x4), (6, .int x6), (9, .long y182), (12, .int r95), (13, .int r104), (14, .int s131_0), (15, .int s155_0)]) hx hb dL_meets_239 hl (k := 7) rfl rfl (by decide) rfl (fun ls hl => ?_)
                        refine lv_goto (tgt := 86) hx hb dL_meets_242 (by decide) ?_
                        exact ih86 _ _ _ _ h (lv_sub hl [3, 4, 5, 6, 1, 7, 0] rfl)
                      clear ek223_
                      refine lv_icmp_eq (tgt := 196) hx hb dL_meets_188 (by decide) (fun cc => ?_) (fun cc => ?_)
                      · replace h := sw_t h cc
                        refine lv_iload hx hb dL_meets_196 (lv_at hl 7 rfl) ?_
                        refine lv_goto (tgt := 223) hx hb dL_meets_198 (by decide) ?_
                        exact J223 _ _ h (lv_sub hl [1, 2, 3, 4, 5, 0, 6, 7, 8, 9, 10] rfl)
                      · replace h := sw_f h cc
                        refine lv_iload hx hb dL_meets_191 (lv_at hl 10 rfl) ?_
                        refine lv_if_eq (tgt := 201) hx hb dL_meets_193 (by decide) (fun cc => ?_) (fun cc => ?_)
                        · replace h := sw_t h cc
                          refine lv_iload hx hb dL_meets_201 (lv_at hl 9 rfl) ?_
                          refine lv_if_eq (tgt := 211) hx hb dL_meets_203 (by decide) (fun cc => ?_) (fun cc => ?_)
                          · replace h := sw_t h cc
                            refine lv_iload hx hb dL_meets_211 (lv_at hl 4 rfl) ?_
                            refine lv_if_eq (tgt := 221) hx hb dL_meets_213 (by decide) (fun cc => ?_) (fun cc => ?_)
                            · replace h := sw_t h cc
                              refine lv_iload hx hb dL_meets_221 (lv_at hl 8 rfl) ?_
                              exact J223 _ _ h (lv_sub hl [1, 2, 3, 4, 5, 0, 6, 7, 8, 9, 10] rfl)
                            · replace h := sw_f h cc
                              refine lv_iload hx hb dL_meets_216 (lv_at hl 7 rfl) ?_
                              refine lv_goto (tgt := 223) hx hb dL_meets_218 (by decide) ?_
                              exact J223 _ _ h (lv_sub hl [1, 2, 3, 4, 5, 0, 6, 7, 8, 9, 10] rfl)
                          · replace h := sw_f h cc
                            refine lv_iload hx hb dL_meets_206 (lv_at hl 8 rfl) ?_
                            refine lv_goto (tgt := 223) hx hb dL_meets_208 (by decide) ?_
                            exact J223 _ _ h (lv_sub hl [1, 2, 3, 4, 5, 0, 6, 7, 8, 9, 10] rfl)
                        · replace h := sw_f h cc
                          refine lv_iload hx hb dL_meets_196 (lv_at hl 7 rfl) ?_
                          refine lv_goto (tgt := 223) hx hb dL_meets_198 (by decide) ?_
                          exact J223 _ _ h (lv_sub hl [1, 2, 3, 4, 5, 0, 6, 7, 8, 9, 10] rfl)
                    clear ek181_
                    refine lv_icmp_eq (tgt := 180) hx hb dL_meets_163 (by decide) (fun cc => ?_) (fun cc => ?_)
                    · replace h := sw_t h cc
                      refine lv_lconst (v := 0) hx hb dL_meets_180 (by decide) ?_
                      exact J181 _ _ h (lv_sub hl [1, 2, 3, 4, 5, 6, 7, 8, 9, 10, 0] rfl)
                    · replace h := sw_f h cc
                      refine lv_iload hx hb dL_meets_166 (lv_at hl 10 rfl) ?_
                      refine lv_if_ne (tgt := 180) hx hb dL_meets_168 (by decide) (fun cc => ?_) (fun cc => ?_)
                      · replace h := sw_f h cc
                        refine lv_lconst (v := 0) hx hb dL_meets_180 (by decide) ?_
                        exact J181 _ _ h (lv_sub hl [1, 2, 3, 4, 5, 6, 7, 8, 9, 10, 0] rfl)
                      · replace h := sw_t h cc
                        refine lv_iload hx hb dL_meets_171 (lv_at hl 0 rfl) ?_
                        refine lv_if_ne (tgt := 180) hx hb dL_meets_173 (by decide) (fun cc => ?_) (fun cc => ?_)
                        · replace h := sw_f h cc
                          refine lv_lconst (v := 0) hx hb dL_meets_180 (by decide) ?_
                          exact J181 _ _ h (lv_sub hl [1, 2, 3, 4, 5, 6, 7, 8, 9, 10, 0] rfl)
                        · replace h := sw_t h cc
                          refine lv_lconst (v := 1) hx hb dL_meets_176 (by decide) ?_
                          refine lv_goto (tgt := 181) hx hb dL_meets_177 (by decide) ?_
                          exact J181 _ _ h (lv_sub hl [1, 2, 3, 4, 5, 6, 7, 8, 9, 10, 0] rfl)
                  clear ek155_
                  refine lv_if_eq (tgt := 154) hx hb dL_meets_136 (by decide) (fun cc => ?_) (fun cc => ?_)
                  · replace h := sw_t h cc
                    refine lv_iconst (v := 0) hx hb dL_meets_154 (by decide) ?_
                    exact J155 _ _ h (lv_sub hl [1, 2, 3, 4, 5, 6, 7, 8, 9, 0] rfl)
                  · replace h := sw_f h cc
                    refine lv_lload_n hx hb dL_meets_139 rfl (lv_at hl 1 rfl) ?_
                    refine lv_iload hx hb dL_meets_140 (lv_at hl 7 rfl) ?_
                    obtain ⟨r142, er142, h⟩ := swbd_s h
                    refine ly_stS (As := [.long x0, .int v11]) (rest := []) E (lm_value l x0 v11 _ er142) (va_cwS 2 hts gL_meets_L_value rfl rfl rfl (by decide +kernel) ⟨Nat.le_of_ble_eq_true rfl, Nat.le_of_ble_eq_true rfl⟩) ⟨Nat.zero_le _, Nat.zero_le _⟩ rfl hl.1 rfl (Nat.le_of_ble_eq_true rfl) dL_meets_142 ?_
                    refine lv_iload hx hb dL_meets_145 (lv_at hl 9 rfl) ?_
                    refine lv_icmp_ne (tgt := 154) hx hb dL_meets_147 (by decide) (fun cc => ?_) (fun cc => ?_)
                    · replace h := sw_f h cc
                      refine lv_iconst (v := 0) hx hb dL_meets_154 (by decide) ?_
                      exact J155 _ _ h (lv_sub hl [1, 2, 3, 4, 5, 6, 7, 8, 9, 0] rfl)
                    · replace h := sw_t h cc
                      refine lv_iconst (v := 1) hx hb dL_meets_150 (by decide) ?_
                      refine lv_goto (tgt := 155) hx hb dL_meets_151 (by decide) ?_
                      exact J155 _ _ h (lv_sub hl [1, 2, 3, 4, 5, 6, 7, 8, 9, 0] rfl)
                clear ek131_
                refine lv_if_eq (tgt := 130) hx hb dL_meets_112 (by decide) (fun cc => ?_) (fun cc => ?_)
                · replace h := sw_t h cc
                  refine lv_iconst (v := 0) hx hb dL_meets_130 (by decide) ?_
                  exact J131 _ _ h (lv_sub hl [2, 3, 4, 5, 6, 7, 8, 1, 0] rfl)
                · replace h := sw_f h cc
                  refine lv_lload_n hx hb dL_meets_115 rfl (lv_at hl 2 rfl) ?_
                  refine lv_iload hx hb dL_meets_116 (lv_at hl 8 rfl) ?_
                  obtain ⟨r118, er118, h⟩ := swbd_s h
                  refine ly_stS (As := [.long x0, .int v11]) (rest := []) E (lm_value l x0 v11 _ er118) (va_cwS 2 hts gL_meets_L_value rfl rfl rfl (by decide +kernel) ⟨Nat.le_of_ble_eq_true rfl, Nat.le_of_ble_eq_true rfl⟩) ⟨Nat.zero_le _, Nat.zero_le _⟩ rfl hl.1 rfl (Nat.le_of_ble_eq_true rfl) dL_meets_118 ?_
                  refine lv_iload hx hb dL_meets_121 (lv_at hl 1 rfl) ?_
                  refine lv_icmp_ne (tgt := 130) hx hb dL_meets_123 (by decide) (fun cc => ?_) (fun cc => ?_)
                  · replace h := sw_f h cc
                    refine lv_iconst (v := 0) hx hb dL_meets_130 (by decide) ?_
                    exact J131 _ _ h (lv_sub hl [2, 3, 4, 5, 6, 7, 8, 1, 0] rfl)
                  · replace h := sw_t h cc
                    refine lv_iconst (v := 1) hx hb dL_meets_126 (by decide) ?_
                    refine lv_goto (tgt := 131) hx hb dL_meets_127 (by decide) ?_
                    exact J131 _ _ h (lv_sub hl [2, 3, 4, 5, 6, 7, 8, 1, 0] rfl)
          refine L86 _ (fun v7 v9 v11 ls h hl => ?_) 64 _ _ _ _ h (lv_sub hl [3, 4, 5, 6, 2, 1, 0] rfl)
          refine lv_lload hx hb dL_meets_245 (lv_at hl 4 rfl) ?_
          refine lv_lload hx hb dL_meets_247 (lv_at hl 5 rfl) ?_
          refine lv_bipush (v := 41) hx hb dL_meets_249 (by decide) ?_
          refine lv_lshl (v := (lyshl v9 41)) hx hb dL_meets_251 rfl ?_
          refine lv_ladd hx hb dL_meets_252 ?_
          exact W.lret hx hb hr (fun t ht hW => ⟨_, rfl, sw_in1 h, ht⟩) (fun q hq => by cases hq) dL_meets_253 hlocks
        · replace h := sw_t h cc
          refine lv_lload_n hx hb dL_meets_46 rfl (lv_at hl 1 rfl) ?_
          refine lv_lload hx hb dL_meets_47 (lv_at hl 2 rfl) ?_
          refine lv_ladd hx hb dL_meets_49 ?_
          refine lv_lload_n hx hb dL_meets_50 rfl (lv_at hl 0 rfl) ?_
          refine W.lcmp hx hb dL_meets_51 ?_
          refine lv_if_ne (tgt := 59) hx hb dL_meets_52 (by decide) (fun cc => ?_) (fun cc => ?_)
          · replace h := sw_f h cc
            refine lv_iload hx hb dL_meets_59 (lv_at hl 3 rfl) ?_
            obtain ⟨k70_, ek70_, h⟩ := swjn_s h
            have J70 : ∀ (s70_0 : Int64) (ls : Array Slot), k70_ s70_0 = some r0 → lv_has ls 17 [(0, .long x0), (2, .long x2), (4, .long x4), (6, .int x6)] → W p l e (headSpec wsL_meets rmL_meets).room s m args below meth c s.heap [] 0 0 (MQ below (vp_Sl (fun r : Int64 => r = r0)) args s 0 0 (fun _ => False)) (F0 m 70 ls [.long s70_0]) := by
              intro s70_0 ls h hl
              rw [ek70_] at h
              refine lv_ldc2 (v := 2199023255552) hx hb hown fl41 dL_meets_70 ?_
              refine lv_ladd hx hb dL_meets_73 ?_
              exact W.lret hx hb hr (fun t ht hW => ⟨_, rfl, sw_in1 h, ht⟩) (fun q hq => by cases hq) dL_meets_74 hlocks
            clear ek70_
            refine lv_if_eq (tgt := 68) hx hb dL_meets_61 (by decide) (fun cc => ?_) (fun cc => ?_)
            · replace h := sw_t h cc
              refine lv_lload hx hb dL_meets_68 (lv_at hl 2 rfl) ?_
              exact J70 _ _ h (lv_sub hl [0, 1, 2, 3] rfl)
            · replace h := sw_f h cc
              refine lv_lload_n hx hb dL_meets_64 rfl (lv_at hl 1 rfl) ?_
              refine lv_goto (tgt := 70) hx hb dL_meets_65 (by decide) ?_
              exact J70 _ _ h (lv_sub hl [0, 1, 2, 3] rfl)
          · replace h := sw_t h cc
            refine lv_lconst (v := 0) hx hb dL_meets_55 (by decide) ?_
            refine lv_goto (tgt := 74) hx hb dL_meets_56 (by decide) ?_
            exact W.lret hx hb hr (fun t ht hW => ⟨_, rfl, sw_in1 h, ht⟩) (fun q hq => by cases hq) dL_meets_74 hlocks
    · replace h := sw_t h cc
      refine lv_lload_n hx hb dL_meets_15 rfl (lv_at hl 1 rfl) ?_
      refine lv_lconst (v := 0) hx hb dL_meets_16 (by decide) ?_
      refine W.lcmp hx hb dL_meets_17 ?_
      refine lv_if_eq (tgt := 28) hx hb dL_meets_18 (by decide) (fun cc => ?_) (fun cc => ?_)
      · replace h := sw_t h cc
        refine lv_lload_n hx hb dL_meets_28 rfl (lv_at hl 1 rfl) ?_
        refine lv_lload hx hb dL_meets_29 (lv_at hl 2 rfl) ?_
        refine lv_ladd hx hb dL_meets_31 ?_
        exact W.lret hx hb hr (fun t ht hW => ⟨_, rfl, sw_in1 h, ht⟩) (fun q hq => by cases hq) dL_meets_32 hlocks
      · replace h := sw_f h cc
        refine lv_lload hx hb dL_meets_21 (lv_at hl 2 rfl) ?_
        refine lv_lconst (v := 0) hx hb dL_meets_23 (by decide) ?_
        refine W.lcmp hx hb dL_meets_24 ?_
        refine lv_if_ne (tgt := 33) hx hb dL_meets_25 (by decide) (fun cc => ?_) (fun cc => ?_)
        · replace h := sw_f h cc
          refine lv_lload_n hx hb dL_meets_33 rfl (lv_at hl 1 rfl) ?_
          refine lv_lconst (v := 0) hx hb dL_meets_34 (by decide) ?_
          refine W.lcmp hx hb dL_meets_35 ?_
          refine lv_if_eq (tgt := 46) hx hb dL_meets_36 (by decide) (fun cc => ?_) (fun cc => ?_)
          · replace h := sw_t h cc
            refine lv_lload_n hx hb dL_meets_46 rfl (lv_at hl 1 rfl) ?_
            refine lv_lload hx hb dL_meets_47 (lv_at hl 2 rfl) ?_
            refine lv_ladd hx hb dL_meets_49 ?_
            refine lv_lload_n hx hb dL_meets_50 rfl (lv_at hl 0 rfl) ?_
            refine W.lcmp hx hb dL_meets_51 ?_
            refine lv_if_ne (tgt := 59) hx hb dL_meets_52 (by decide) (fun cc => ?_) (fun cc => ?_)
            · replace h := sw_f h cc
              refine lv_iload hx hb dL_meets_59 (lv_at hl 3 rfl) ?_
              obtain ⟨k70_, ek70_, h⟩ := swjn_s h
              have J70 : ∀ (s70_0 : Int64) (ls : Array Slot), k70_ s70_0 = some r0 → lv_has ls 17 [(0, .long x0), (2, .long x2), (4, .long x4), (6, .int x6)] → W p l e (headSpec wsL_meets rmL_meets).room s m args below meth c s.heap [] 0 0 (MQ below (vp_Sl (fun r : Int64 => r = r0)) args s 0 0 (fun _ => False)) (F0 m 70 ls [.long s70_0]) := by
                intro s70_0 ls h hl
                rw [ek70_] at h
                refine lv_ldc2 (v := 2199023255552) hx hb hown fl41 dL_meets_70 ?_
                refine lv_ladd hx hb dL_meets_73 ?_
                exact W.lret hx hb hr (fun t ht hW => ⟨_, rfl, sw_in1 h, ht⟩) (fun q hq => by cases hq) dL_meets_74 hlocks
              clear ek70_
              refine lv_if_eq (tgt := 68) hx hb dL_meets_61 (by decide) (fun cc => ?_) (fun cc => ?_)
              · replace h := sw_t h cc
                refine lv_lload hx hb dL_meets_68 (lv_at hl 2 rfl) ?_
                exact J70 _ _ h (lv_sub hl [0, 1, 2, 3] rfl)
              · replace h := sw_f h cc
                refine lv_lload_n hx hb dL_meets_64 rfl (lv_at hl 1 rfl) ?_
                refine lv_goto (tgt := 70) hx hb dL_meets_65 (by decide) ?_
                exact J70 _ _ h (lv_sub hl [0, 1, 2, 3] rfl)
            · replace h := sw_t h cc
              refine lv_lconst (v := 0) hx hb dL_meets_55 (by decide) ?_
              refine lv_goto (tgt := 74) hx hb dL_meets_56 (by decide) ?_
              exact W.lret hx hb hr (fun t ht hW => ⟨_, rfl, sw_in1 h, ht⟩) (fun q hq => by cases hq) dL_meets_74 hlocks
          · replace h := sw_f h cc
            refine lv_lload hx hb dL_meets_39 (lv_at hl 2 rfl) ?_
            refine lv_lconst (v := 0) hx hb dL_meets_41 (by decide) ?_
            refine W.lcmp hx hb dL_meets_42 ?_
            refine lv_if_ne (tgt := 75) hx hb dL_meets_43 (by decide) (fun cc => ?_) (fun cc => ?_)
            · replace h := sw_f h cc
              refine lv_ldc2 (v := 1099511627776) hx hb hown fl43 dL_meets_75 ?_
              refine lv_lstore (lv' := [(7, .long 1099511627776), (0, .long x0), (2, .long x2), (4, .long x4), (6, .int x6)]) hx hb dL_meets_78 hl (by decide) rfl (fun ls hl => ?_)
              refine lv_lconst (v := 0) hx hb dL_meets_80 (by decide) ?_
              refine lv_lstore (lv' := [(9, .long 0), (7, .long 1099511627776), (0, .long x0), (2, .long x2), (4, .long x4), (6, .int x6)]) hx hb dL_meets_81 hl (by decide) rfl (fun ls hl => ?_)
              refine lv_iconst (v := 0) hx hb dL_meets_83 (by decide) ?_
              refine lv_istore (lv' := [(11, .int 0), (9, .long 0), (7, .long 1099511627776), (0, .long x0), (2, .long x2), (4, .long x4), (6, .int x6)]) hx hb dL_meets_84 hl (by decide) rfl (fun ls hl => ?_)
              have L86 : ∀ (kk : Int64 → Int64 → Int32 → Option (Int64)), (∀ (v7 : Int64) (v9 : Int64) (v11 : Int32) (ls : Array Slot), kk v7 v9 v11 = some r0 → lv_has ls 17 [(0, .long x0), (2, .long x2), (4, .long x4), (6, .int x6), (7, .long v7), (9, .long v9), (11, .int v11)] → W p l e (headSpec wsL_meets rmL_meets).room s m args below meth c s.heap [] 0 0 (MQ below (vp_Sl (fun r : Int64 => r = r0)) args s 0 0 (fun _ => False)) (F0 m 245 ls [])) → ∀ (n : Nat) (v7 : Int64) (v9 : Int64) (v11 : Int32) (ls : Array Slot), lx_meets_L86 x0 x2 x4 x6 kk n v7 v9 v11 = some r0 → lv_has ls 17 [(0, .long x0), (2, .long x2), (4, .long x4), (6, .int x6), (7, .long v7), (9, .long v9), (11, .int v11)] → W p l e (headSpec wsL_meets rmL_meets).room s m args below meth c s.heap [] 0 0 (MQ below (vp_Sl (fun r : Int64 => r = r0)) args s 0 0 (fun _ => False)) (F0 m 86 ls []) := by
                intro kk hk86 n
                induction n with
                | zero => intro v7 v9 v11 ls h hl; rw [lx_meets_L86] at h; cases h
                | succ n ih86 =>
                  intro v7 v9 v11 ls h hl
                  rw [lx_meets_L86] at h
                  refine lv_iload hx hb dL_meets_86 (lv_at hl 6 rfl) ?_
                  refine lv_iconst (v := 4) hx hb dL_meets_88 (by decide) ?_
                  refine lv_icmp_ge (tgt := 245) hx hb dL_meets_89 (by decide) (fun cc => ?_) (fun cc => ?_)
                  · replace h := sw_t h cc
                    exact hk86 _ _ _ _ h (lv_sub hl [0, 1, 2, 3, 4, 5, 6] rfl)
                  · replace h := sw_f h cc
                    refine lv_lload_n hx hb dL_meets_92 rfl (lv_at hl 1 rfl) ?_
                    refine lv_iload hx hb dL_meets_93 (lv_at hl 6 rfl) ?_
                    obtain ⟨r95, er95, h⟩ := swbd_s h
                    refine ly_stS (As := [.long x2, .int v11]) (rest := []) E (lm_value l x2 v11 _ er95) (va_cwS 2 hts gL_meets_L_value rfl rfl rfl (by decide +kernel) ⟨Nat.le_of_ble_eq_true rfl, Nat.le_of_ble_eq_true rfl⟩) ⟨Nat.zero_le _, Nat.zero_le _⟩ rfl hl.1 rfl (Nat.le_of_ble_eq_true rfl) dL_meets_95 ?_
                    refine lv_istore (lv' := [(12, .int r95), (0, .long x0), (2, .long x2), (4, .long x4), (6, .int x6), (7, .long v7), (9, .long v9), (11, .int v11)]) hx hb dL_meets_98 hl (by decide) rfl (fun ls hl => ?_)
                    refine lv_lload hx hb dL_meets_100 (lv_at hl 3 rfl) ?_
                    refine lv_iload hx hb dL_meets_102 (lv_at hl 7 rfl) ?_
                    obtain ⟨r104, er104, h⟩ := swbd_s h
                    refine ly_stS (As := [.long x4, .int v11]) (rest := []) E (lm_value l x4 v11 _ er104) (va_cwS 2 hts gL_meets_L_value rfl rfl rfl (by decide +kernel) ⟨Nat.le_of_ble_eq_true rfl, Nat.le_of_ble_eq_true rfl⟩) ⟨Nat.zero_le _, Nat.zero_le _⟩ rfl hl.1 rfl (Nat.le_of_ble_eq_true rfl) dL_meets_104 ?_
                    refine lv_istore (lv' := [(13, .int r104), (12, .int r95), (0, .long x0), (2, .long x2), (4, .long x4), (6, .int x6), (7, .long v7), (9, .long v9), (11, .int v11)]) hx hb dL_meets_107 hl (by decide) rfl (fun ls hl => ?_)
                    refine lv_lload_n hx hb dL_meets_109 rfl (lv_at hl 2 rfl) ?_
                    refine lv_lconst (v := 0) hx hb dL_meets_110 (by decide) ?_
                    refine W.lcmp hx hb dL_meets_111 ?_
                    obtain ⟨k131_, ek131_, h⟩ := swjn_s h
                    have J131 : ∀ (s131_0 : Int32) (ls : Array Slot), k131_ s131_0 = some r0 → lv_has ls 17 [(0, .long x0), (2, .long x2), (4, .long x4), (6, .int x6), (7, .long v7), (9, .long v9), (11, .int v11), (12, .int r95), (13, .int r104)] → W p l e (headSpec wsL_meets rmL_meets).room s m args below meth c s.heap [] 0 0 (MQ below (vp_Sl (fun r : Int64 => r = r0)) args s 0 0 (fun _ => False)) (F0 m 131 ls [.int s131_0]) := by
                      intro s131_0 ls h hl
                      rw [ek131_] at h
                      refine lv_istore (lv' := [(14, .int s131_0), (0, .long x0), (2, .long x2), (4, .long x4), (6, .int x6), (7, .long v7), (9, .long v9), (11, .int v11), (12, .int r95), (13, .int r104)]) hx hb dL_meets_131 hl (by decide) rfl (fun ls hl => ?_)
                      refine lv_lload_n hx hb dL_meets_133 rfl (lv_at hl 1 rfl) ?_
                      refine lv_lconst (v := 0) hx hb dL_meets_134 (by decide) ?_
                      refine W.lcmp hx hb dL_meets_135 ?_
                      obtain ⟨k155_, ek155_, h⟩ := swjn_s h
                      have J155 : ∀ (s155_0 : Int32) (ls : Array Slot), k155_ s155_0 = some r0 → lv_has ls 17 [(0, .long x0), (2, .long x2), (4, .long x4), (6, .int x6), (7, .long v7), (9, .long v9), (11, .int v11), (12, .int r95), (13, .int r104), (14, .int s131_0)] → W p l e (headSpec wsL_meets rmL_meets).room s m args below meth c s.heap [] 0 0 (MQ below (vp_Sl (fun r : Int64 => r = r0)) args s 0 0 (fun _ => False)) (F0 m 155 ls [.int s155_0]) := by
                        intro s155_0 ls h hl
                        rw [ek155_] at h
                        refine lv_istore (lv' := [(15, .int s155_0), (0, .long x0), (2, .long x2), (4, .long x4), (6, .int x6), (7, .long v7), (9, .long v9), (11, .int v11), (12, .int r95), (13, .int r104), (14, .int s131_0)]) hx hb dL_meets_155 hl (by decide) rfl (fun ls hl => ?_)
                        refine lv_lload hx hb dL_meets_157 (lv_at hl 6 rfl) ?_
                        refine lv_iload hx hb dL_meets_159 (lv_at hl 8 rfl) ?_
                        refine lv_iload hx hb dL_meets_161 (lv_at hl 9 rfl) ?_
                        obtain ⟨k181_, ek181_, h⟩ := swjn_s h
                        have J181 : ∀ (s181_0 : Int64) (ls : Array Slot), k181_ s181_0 = some r0 → lv_has ls 17 [(0, .long x0), (2, .long x2), (4, .long x4), (6, .int x6), (7, .long v7), (9, .long v9), (11, .int v11), (12, .int r95), (13, .int r104), (14, .int s131_0), (15, .int s155_0)] → W p l e (headSpec wsL_meets rmL_meets).room s m args below meth c s.heap [] 0 0 (MQ below (vp_Sl (fun r : Int64 => r = r0)) args s 0 0 (fun _ => False)) (F0 m 181 ls [.long s181_0, .long v9]) := by
                          intro s181_0 ls h hl
                          rw [ek181_] at h
                          refine lv_ladd hx hb dL_meets_181 ?_
                          obtain ⟨y182, ey182, h⟩ := swlt_s h
                          refine sw_topL ey182 ?_
                          refine lv_lstore (lv' := [(9, .long y182), (0, .long x0), (2, .long x2), (4, .long x4), (6, .int x6), (7, .long v7), (11, .int v11), (12, .int r95), (13, .int r104), (14, .int s131_0), (15, .int s155_0)]) hx hb dL_meets_182 hl (by decide) rfl (fun ls hl => ?_)
                          refine lv_iload hx hb dL_meets_184 (lv_at hl 7 rfl) ?_
                          refine lv_iload hx hb dL_meets_186 (lv_at hl 8 rfl) ?_
                          obtain ⟨k223_, ek223_, h⟩ := swjn_s h
                          have J223 : ∀ (s223_0 : Int32) (ls : Array Slot), k223_ s223_0 = some r0 → lv_has ls 17 [(0, .long x0), (2, .long x2), (4, .long x4), (6, .int x6), (7, .long v7), (9, .long y182), (11, .int v11), (12, .int r95), (13, .int r104), (14, .int s131_0), (15, .int s155_0)] → W p l e (headSpec wsL_meets rmL_meets).room s m args below meth c s.heap [] 0 0 (MQ below (vp_Sl (fun r : Int64 => r = r0)) args s 0 0 (fun _ => False)) (F0 m 223 ls [.int s223_0]) := by
                            intro s223_0 ls h hl
                            rw [ek223_] at h
                            refine lv_istore (lv' := [(16, .int s223_0), (0, .long x0), (2, .long x2), (4, .long x4), (6, .int x6), (7, .long v7), (9, .long y182), (11, .int v11), (12, .int r95), (13, .int r104), (14, .int s131_0), (15, .int s155_0)]) hx hb dL_meets_223 hl (by decide) rfl (fun ls hl => ?_)
                            refine lv_lload hx hb dL_meets_225 (lv_at hl 5 rfl) ?_
                            refine lv_iload hx hb dL_meets_227 (lv_at hl 0 rfl) ?_
                            refine lv_i2l (v := (Int32.toInt64 s223_0)) hx hb dL_meets_229 rfl ?_
                            refine lv_bipush (v := 10) hx hb dL_meets_230 (by decide) ?_
                            refine lv_iload hx hb dL_meets_232 (lv_at hl 7 rfl) ?_
                            refine lv_imul hx hb dL_meets_234 ?_
                            refine lv_lshl (v := (lyshl (Int32.toInt64 s223_0) (((10 : Int32) * v11)))) hx hb dL_meets_235 rfl ?_
                            refine lv_ladd hx hb dL_meets_236 ?_
                            obtain ⟨y237, ey237, h⟩ := swlt_s h
                            refine sw_topL ey237 ?_
                            refine lv_lstore (lv' := [(7, .long y237), (16, .int s223_0), (0, .long x0), (2, .long x2), (4, .long x4), (6, .int x6), (9, .long y182), (11, .int v11), (12, .int r95), (13, .int r104), (14, .int s131_0), (15, .int s155_0)]) hx hb dL_meets_237 hl (by decide) rfl (fun ls hl => ?_)
                            refine lv_iinc (v := (v11 + 1)) (lv' := [(11, .int (v11 + 1)), (7, .long y237), (16, .int s223_0), (0, .long x0), (2, .long x2), (4, .long x4), (6, .int x6), (9, .long y182), (12, .int r95), (13, .int r104), (14, .int s131_0), (15, .int s155_0)]) hx hb dL_meets_239 hl (k := 7) rfl rfl (by decide) rfl (fun ls hl => ?_)
                            refine lv_goto (tgt := 86) hx hb dL_meets_242 (by decide) ?_
                            exact ih86 _ _ _ _ h (lv_sub hl [3, 4, 5, 6, 1, 7, 0] rfl)
                          clear ek223_
                          refine lv_icmp_eq (tgt := 196) hx hb dL_meets_188 (by decide) (fun cc => ?_) (fun cc => ?_)
                          · replace h := sw_t h cc
                            refine lv_iload hx hb dL_meets_196 (lv_at hl 7 rfl) ?_
                            refine lv_goto (tgt := 223) hx hb dL_meets_198 (by decide) ?_
                            exact J223 _ _ h (lv_sub hl [1, 2, 3, 4, 5, 0, 6, 7, 8, 9, 10] rfl)
                          · replace h := sw_f h cc
                            refine lv_iload hx hb dL_meets_191 (lv_at hl 10 rfl) ?_
                            refine lv_if_eq (tgt := 201) hx hb dL_meets_193 (by decide) (fun cc => ?_) (fun cc => ?_)
                            · replace h := sw_t h cc
                              refine lv_iload hx hb dL_meets_201 (lv_at hl 9 rfl) ?_
                              refine lv_if_eq (tgt := 211) hx hb dL_meets_203 (by decide) (fun cc => ?_) (fun cc => ?_)
                              · replace h := sw_t h cc
                                refine lv_iload hx hb dL_meets_211 (lv_at hl 4 rfl) ?_
                                refine lv_if_eq (tgt := 221) hx hb dL_meets_213 (by decide) (fun cc => ?_) (fun cc => ?_)
                                · replace h := sw_t h cc
                                  refine lv_iload hx hb dL_meets_221 (lv_at hl 8 rfl) ?_
                                  exact J223 _ _ h (lv_sub hl [1, 2, 3, 4, 5, 0, 6, 7, 8, 9, 10] rfl)
                                · replace h := sw_f h cc
                                  refine lv_iload hx hb dL_meets_216 (lv_at hl 7 rfl) ?_
                                  refine lv_goto (tgt := 223) hx hb dL_meets_218 (by decide) ?_
                                  exact J223 _ _ h (lv_sub hl [1, 2, 3, 4, 5, 0, 6, 7, 8, 9, 10] rfl)
                              · replace h := sw_f h cc
                                refine lv_iload hx hb dL_meets_206 (lv_at hl 8 rfl) ?_
                                refine lv_goto (tgt := 223) hx hb dL_meets_208 (by decide) ?_
                                exact J223 _ _ h (lv_sub hl [1, 2, 3, 4, 5, 0, 6, 7, 8, 9, 10] rfl)
                            · replace h := sw_f h cc
                              refine lv_iload hx hb dL_meets_196 (lv_at hl 7 rfl) ?_
                              refine lv_goto (tgt := 223) hx hb dL_meets_198 (by decide) ?_
                              exact J223 _ _ h (lv_sub hl [1, 2, 3, 4, 5, 0, 6, 7, 8, 9, 10] rfl)
                        clear ek181_
                        refine lv_icmp_eq (tgt := 180) hx hb dL_meets_163 (by decide) (fun cc => ?_) (fun cc => ?_)
                        · replace h := sw_t h cc
                          refine lv_lconst (v := 0) hx hb dL_meets_180 (by decide) ?_
                          exact J181 _ _ h (lv_sub hl [1, 2, 3, 4, 5, 6, 7, 8, 9, 10, 0] rfl)
                        · replace h := sw_f h cc
                          refine lv_iload hx hb dL_meets_166 (lv_at hl 10 rfl) ?_
                          refine lv_if_ne (tgt := 180) hx hb dL_meets_168 (by decide) (fun cc => ?_) (fun cc => ?_)
                          · replace h := sw_f h cc
                            refine lv_lconst (v := 0) hx hb dL_meets_180 (by decide) ?_
                            exact J181 _ _ h (lv_sub hl [1, 2, 3, 4, 5, 6, 7, 8, 9, 10, 0] rfl)
                          · replace h := sw_t h cc
                            refine lv_iload hx hb dL_meets_171 (lv_at hl 0 rfl) ?_
                            refine lv_if_ne (tgt := 180) hx hb dL_meets_173 (by decide) (fun cc => ?_) (fun cc => ?_)
                            · replace h := sw_f h cc
                              refine lv_lconst (v := 0) hx hb dL_meets_180 (by decide) ?_
                              exact J181 _ _ h (lv_sub hl [1, 2, 3, 4, 5, 6, 7, 8, 9, 10, 0] rfl)
                            · replace h := sw_t h cc
                              refine lv_lconst (v := 1) hx hb dL_meets_176 (by decide) ?_
                              refine lv_goto (tgt := 181) hx hb dL_meets_177 (by decide) ?_
                              exact J181 _ _ h (lv_sub hl [1, 2, 3, 4, 5, 6, 7, 8, 9, 10, 0] rfl)
                      clear ek155_
                      refine lv_if_eq (tgt := 154) hx hb dL_meets_136 (by decide) (fun cc => ?_) (fun cc => ?_)
                      · replace h := sw_t h cc
                        refine lv_iconst (v := 0) hx hb dL_meets_154 (by decide) ?_
                        exact J155 _ _ h (lv_sub hl [1, 2, 3, 4, 5, 6, 7, 8, 9, 0] rfl)
                      · replace h := sw_f h cc
                        refine lv_lload_n hx hb dL_meets_139 rfl (lv_at hl 1 rfl) ?_
                        refine lv_iload hx hb dL_meets_140 (lv_at hl 7 rfl) ?_
                        obtain ⟨r142, er142, h⟩ := swbd_s h
                        refine ly_stS (As := [.long x0, .int v11]) (rest := []) E (lm_value l x0 v11 _ er142) (va_cwS 2 hts gL_meets_L_value rfl rfl rfl (by decide +kernel) ⟨Nat.le_of_ble_eq_true rfl, Nat.le_of_ble_eq_true rfl⟩) ⟨Nat.zero_le _, Nat.zero_le _⟩ rfl hl.1 rfl (Nat.le_of_ble_eq_true rfl) dL_meets_142 ?_
                        refine lv_iload hx hb dL_meets_145 (lv_at hl 9 rfl) ?_
                        refine lv_icmp_ne (tgt := 154) hx hb dL_meets_147 (by decide) (fun cc => ?_) (fun cc => ?_)
                        · replace h := sw_f h cc
                          refine lv_iconst (v := 0) hx hb dL_meets_154 (by decide) ?_
                          exact J155 _ _ h (lv_sub hl [1, 2, 3, 4, 5, 6, 7, 8, 9, 0] rfl)
                        · replace h := sw_t h cc
                          refine lv_iconst (v := 1) hx hb dL_meets_150 (by decide) ?_
                          refine lv_goto (tgt := 155) hx hb dL_meets_151 (by decide) ?_
                          exact J155 _ _ h (lv_sub hl [1, 2, 3, 4, 5, 6, 7, 8, 9, 0] rfl)
                    clear ek131_
                    refine lv_if_eq (tgt := 130) hx hb dL_meets_112 (by decide) (fun cc => ?_) (fun cc => ?_)
                    · replace h := sw_t h cc
                      refine lv_iconst (v := 0) hx hb dL_meets_130 (by decide) ?_
                      exact J131 _ _ h (lv_sub hl [2, 3, 4, 5, 6, 7, 8, 1, 0] rfl)
                    · replace h := sw_f h cc
                      refine lv_lload_n hx hb dL_meets_115 rfl (lv_at hl 2 rfl) ?_
                      refine lv_iload hx hb dL_meets_116 (lv_at hl 8 rfl) ?_
                      obtain ⟨r118, er118, h⟩ := swbd_s h
                      refine ly_stS (As := [.long x0, .int v11]) (rest := []) E (lm_value l x0 v11 _ er118) (va_cwS 2 hts gL_meets_L_value rfl rfl rfl (by decide +kernel) ⟨Nat.le_of_ble_eq_true rfl, Nat.le_of_ble_eq_true rfl⟩) ⟨Nat.zero_le _, Nat.zero_le _⟩ rfl hl.1 rfl (Nat.le_of_ble_eq_true rfl) dL_meets_118 ?_
                      refine lv_iload hx hb dL_meets_121 (lv_at hl 1 rfl) ?_
                      refine lv_icmp_ne (tgt := 130) hx hb dL_meets_123 (by decide) (fun cc => ?_) (fun cc => ?_)
                      · replace h := sw_f h cc
                        refine lv_iconst (v := 0) hx hb dL_meets_130 (by decide) ?_
                        exact J131 _ _ h (lv_sub hl [2, 3, 4, 5, 6, 7, 8, 1, 0] rfl)
                      · replace h := sw_t h cc
                        refine lv_iconst (v := 1) hx hb dL_meets_126 (by decide) ?_
                        refine lv_goto (tgt := 131) hx hb dL_meets_127 (by decide) ?_
                        exact J131 _ _ h (lv_sub hl [2, 3, 4, 5, 6, 7, 8, 1, 0] rfl)
              refine L86 _ (fun v7 v9 v11 ls h hl => ?_) 64 _ _ _ _ h (lv_sub hl [3, 4, 5, 6, 2, 1, 0] rfl)
              refine lv_lload hx hb dL_meets_245 (lv_at hl 4 rfl) ?_
              refine lv_lload hx hb dL_meets_247 (lv_at hl 5 rfl) ?_
              refine lv_bipush (v := 41) hx hb dL_meets_249 (by decide) ?_
              refine lv_lshl (v := (lyshl v9 41)) hx hb dL_meets_251 rfl ?_
              refine lv_ladd hx hb dL_meets_252 ?_
              exact W.lret hx hb hr (fun t ht hW => ⟨_, rfl, sw_in1 h, ht⟩) (fun q hq => by cases hq) dL_meets_253 hlocks
            · replace h := sw_t h cc
              refine lv_lload_n hx hb dL_meets_46 rfl (lv_at hl 1 rfl) ?_
              refine lv_lload hx hb dL_meets_47 (lv_at hl 2 rfl) ?_
              refine lv_ladd hx hb dL_meets_49 ?_
              refine lv_lload_n hx hb dL_meets_50 rfl (lv_at hl 0 rfl) ?_
              refine W.lcmp hx hb dL_meets_51 ?_
              refine lv_if_ne (tgt := 59) hx hb dL_meets_52 (by decide) (fun cc => ?_) (fun cc => ?_)
              · replace h := sw_f h cc
                refine lv_iload hx hb dL_meets_59 (lv_at hl 3 rfl) ?_
                obtain ⟨k70_, ek70_, h⟩ := swjn_s h
                have J70 : ∀ (s70_0 : Int64) (ls : Array Slot), k70_ s70_0 = some r0 → lv_has ls 17 [(0, .long x0), (2, .long x2), (4, .long x4), (6, .int x6)] → W p l e (headSpec wsL_meets rmL_meets).room s m args below meth c s.heap [] 0 0 (MQ below (vp_Sl (fun r : Int64 => r = r0)) args s 0 0 (fun _ => False)) (F0 m 70 ls [.long s70_0]) := by
                  intro s70_0 ls h hl
                  rw [ek70_] at h
                  refine lv_ldc2 (v := 2199023255552) hx hb hown fl41 dL_meets_70 ?_
                  refine lv_ladd hx hb dL_meets_73 ?_
                  exact W.lret hx hb hr (fun t ht hW => ⟨_, rfl, sw_in1 h, ht⟩) (fun q hq => by cases hq) dL_meets_74 hlocks
                clear ek70_
                refine lv_if_eq (tgt := 68) hx hb dL_meets_61 (by decide) (fun cc => ?_) (fun cc => ?_)
                · replace h := sw_t h cc
                  refine lv_lload hx hb dL_meets_68 (lv_at hl 2 rfl) ?_
                  exact J70 _ _ h (lv_sub hl [0, 1, 2, 3] rfl)
                · replace h := sw_f h cc
                  refine lv_lload_n hx hb dL_meets_64 rfl (lv_at hl 1 rfl) ?_
                  refine lv_goto (tgt := 70) hx hb dL_meets_65 (by decide) ?_
                  exact J70 _ _ h (lv_sub hl [0, 1, 2, 3] rfl)
              · replace h := sw_t h cc
                refine lv_lconst (v := 0) hx hb dL_meets_55 (by decide) ?_
                refine lv_goto (tgt := 74) hx hb dL_meets_56 (by decide) ?_
                exact W.lret hx hb hr (fun t ht hW => ⟨_, rfl, sw_in1 h, ht⟩) (fun q hq => by cases hq) dL_meets_74 hlocks
        · replace h := sw_t h cc
          refine lv_lload_n hx hb dL_meets_28 rfl (lv_at hl 1 rfl) ?_
          refine lv_lload hx hb dL_meets_29 (lv_at hl 2 rfl) ?_
          refine lv_ladd hx hb dL_meets_31 ?_
          exact W.lret hx hb hr (fun t ht hW => ⟨_, rfl, sw_in1 h, ht⟩) (fun q hq => by cases hq) dL_meets_32 hlocks
  · replace h := sw_t h cc
    refine lv_lload_n hx hb dL_meets_7 rfl (lv_at hl 1 rfl) ?_
    exact W.lret hx hb hr (fun t ht hW => ⟨_, rfl, sw_in1 h, ht⟩) (fun q hq => by cases hq) dL_meets_8 hlocks

/-! breaks -/
def lx_breaks (x0 : Int32) (x1 : Int64) : Option (Int32) :=
  swbd (lx_value x1 ((swrem (x0 / 4) 4))) fun r6 => if r6 ≤ 0 then (some (0 : Int32)) else (if r6 < (swrem (x0 / 16) 1024) then (some (1 : Int32)) else (if r6 ≤ (x0 / 16384) then (some (0 : Int32)) else (some (1 : Int32))))

abbrev rmL_breaks : Room := { frames := 1, cells := 0, slots := 0, locals := 22 }

set_option maxHeartbeats 4000000 in
set_option maxRecDepth 100000 in
theorem lm_breaks (l : Launch) (x0 : Int32) (x1 : Int64) (r0 : Int32) (h : lx_breaks x0 x1 = some r0) : Met l yL_breaks wsL_breaks rmL_breaks (va_Pc [.int x0, .long x1] (fun _ => True)) (vp_Si (fun r : Int32 => r = r0)) 0 0 (fun _ => False) := by
  refine Met.ofW (cc := cL_breaks) (maxL := 4) (ret := (some .boolean)) (by decide) rfl ?_
  intro p e s m args below meth c s₁ B hml hv
  obtain ⟨ha, -⟩ := hv
  have hx := B.exec
  have hb := B.bytes
  have hr := B.returns
  have hlocks := B.notSynchronized
  have hts := atoms_spec (ws := wsL_breaks) B.pre
  have hown : s.vm.findClass RL = some m.cls := findClass_of_methodNamed B.named
  have E : CallFix p m c cL_breaks 4 s args wsL_breaks RL := ⟨hx, hb, hml, hown, hts⟩
  obtain ⟨ls, hl, hent⟩ := sw_entry m (n := 4) ha (Nat.le_of_ble_eq_true rfl)
  rw [hent]
  have hl : lv_has ls 4 [(0, .int x0), (1, .long x1)] := hl
  unfold lx_breaks at h
  refine lv_lload_n hx hb dL_breaks_0 rfl (lv_at hl 1 rfl) ?_
  refine lv_iload_n hx hb dL_breaks_1 rfl (lv_at hl 0 rfl) ?_
  refine lv_iconst (v := 4) hx hb dL_breaks_2 (by decide) ?_
  refine lv_idiv hx hb dL_breaks_3 (by decide) ?_
  refine lv_iconst (v := 4) hx hb dL_breaks_4 (by decide) ?_
  refine lv_irem hx hb dL_breaks_5 (by decide) ?_
  refine sw_top (x := swrem (x0 / 4) 4) rfl ?_
  obtain ⟨r6, er6, h⟩ := swbd_s h
  refine ly_stS (As := [.long x1, .int ((swrem (x0 / 4) 4))]) (rest := []) E (lm_value l x1 ((swrem (x0 / 4) 4)) _ er6) (va_cwS 2 hts gL_breaks_L_value rfl rfl rfl (by decide +kernel) ⟨Nat.le_of_ble_eq_true rfl, Nat.le_of_ble_eq_true rfl⟩) ⟨Nat.zero_le _, Nat.zero_le _⟩ rfl hl.1 rfl (Nat.le_of_ble_eq_true rfl) dL_breaks_6 ?_
  refine lv_istore_n (lv' := [(3, .int r6), (0, .int x0), (1, .long x1)]) hx hb dL_breaks_9 rfl hl (by decide) rfl (fun ls hl => ?_)
  refine lv_iload_n hx hb dL_breaks_10 rfl (lv_at hl 0 rfl) ?_
  refine lv_if_le (tgt := 39) hx hb dL_breaks_11 (by decide) (fun cc => ?_) (fun cc => ?_)
  · replace h := sw_t h cc
    refine lv_iconst (v := 0) hx hb dL_breaks_39 (by decide) ?_
    exact W.zret (ty := .boolean) hx hb hr rfl (fun t ht hW => ⟨_, rfl, sw_in1 h, ht⟩) (fun q hq => by cases hq) dL_breaks_40 hlocks
  · replace h := sw_f h cc
    refine lv_iload_n hx hb dL_breaks_14 rfl (lv_at hl 0 rfl) ?_
    refine lv_iload_n hx hb dL_breaks_15 rfl (lv_at hl 1 rfl) ?_
    refine lv_bipush (v := 16) hx hb dL_breaks_16 (by decide) ?_
    refine lv_idiv hx hb dL_breaks_18 (by decide) ?_
    refine lv_sipush (v := 1024) hx hb dL_breaks_19 (by decide) ?_
    refine lv_irem hx hb dL_breaks_22 (by decide) ?_
    refine sw_top (x := swrem (x0 / 16) 1024) rfl ?_
    refine lv_icmp_lt (tgt := 35) hx hb dL_breaks_23 (by decide) (fun cc => ?_) (fun cc => ?_)
    · replace h := sw_t h cc
      refine lv_iconst (v := 1) hx hb dL_breaks_35 (by decide) ?_
      refine lv_goto (tgt := 40) hx hb dL_breaks_36 (by decide) ?_
      exact W.zret (ty := .boolean) hx hb hr rfl (fun t ht hW => ⟨_, rfl, sw_in1 h, ht⟩) (fun q hq => by cases hq) dL_breaks_40 hlocks
    · replace h := sw_f h cc
      refine lv_iload_n hx hb dL_breaks_26 rfl (lv_at hl 0 rfl) ?_
      refine lv_iload_n hx hb dL_breaks_27 rfl (lv_at hl 1 rfl) ?_
      refine lv_sipush (v := 16384) hx hb dL_breaks_28 (by decide) ?_
      refine lv_idiv hx hb dL_breaks_31 (by decide) ?_
      refine lv_icmp_le (tgt := 39) hx hb dL_breaks_32 (by decide) (fun cc => ?_) (fun cc => ?_)
      · replace h := sw_t h cc
        refine lv_iconst (v := 0) hx hb dL_breaks_39 (by decide) ?_
        exact W.zret (ty := .boolean) hx hb hr rfl (fun t ht hW => ⟨_, rfl, sw_in1 h, ht⟩) (fun q hq => by cases hq) dL_breaks_40 hlocks
      · replace h := sw_f h cc
        refine lv_iconst (v := 1) hx hb dL_breaks_35 (by decide) ?_
        refine lv_goto (tgt := 40) hx hb dL_breaks_36 (by decide) ?_
        exact W.zret (ty := .boolean) hx hb hr rfl (fun t ht hW => ⟨_, rfl, sw_in1 h, ht⟩) (fun q hq => by cases hq) dL_breaks_40 hlocks

/-! blocks -/
def lx_blocks_L29 (y : lyU) (x0 : Int32) (v7 : Int32) (kk : Int32 → Int32 → Option (Int32)) : Nat → Int32 → Int32 → Option (Int32)
  | 0, _, _ => none
  | n + 1, v9, v10 => swrd 6 (y.1 8) 4 fun a34 => if a34 ≤ v10 then (kk v9 v10) else (if v9 = 0 then (swrd 12 (y.1 7) v10 fun a47 => if (swrem a47 8) = v7 then (swrd 12 (y.1 7) v10 fun a60 => if (swrem (a60 / 8) 8) = x0 then (swrd 12 (y.1 7) v10 fun a75 => swrd 6 (y.1 8) 5 fun a82 => if (a75 / 64) < a82 then (lx_blocks_L29 y x0 v7 kk n 0 (v10 + 1)) else (lx_blocks_L29 y x0 v7 kk n 1 (v10 + 1))) else (lx_blocks_L29 y x0 v7 kk n 0 (v10 + 1))) else (lx_blocks_L29 y x0 v7 kk n 0 (v10 + 1))) else (lx_blocks_L29 y x0 v7 kk n 1 (v10 + 1)))

def lx_blocks_L6 (y : lyU) (x0 : Int32) (x1 : Int64) (kk : Int32 → Int32 → Option (Int32)) : Nat → Int32 → Int32 → Option (Int32)
  | 0, _, _ => none
  | n + 1, v6, v7 => swrd 6 (y.1 8) 3 fun a11 => if a11 ≤ v7 then (kk v6 v7) else (swrd 8 (y.1 6) v7 fun a18 => swlt (swrem a18 4) fun y21 => lx_blocks_L29 y x0 v7 (fun v9 v10 => swrd 8 (y.1 6) v7 fun a104 => swbd (lx_breaks a104 x1) fun r106 => swjn (fun (s139_0 : Int32) => swlt (v6 + s139_0) fun y140 => lx_blocks_L6 y x0 x1 kk n y140 (v7 + 1)) fun k139_ => if r106 = 0 then (k139_ 0) else (if y21 = 1 then (if v9 = 0 then (if y21 = 2 then (k139_ 64) else (k139_ 1)) else (k139_ 0)) else (if y21 = 2 then (k139_ 64) else (k139_ 1)))) 64 0 0)

def lx_blocks (y : lyU) (x0 : Int32) (x1 : Int64) : Option (Int32) :=
  lx_blocks_L6 y x0 x1 (fun v6 v7 => some v6) 64 0 0

abbrev rmL_blocks : Room := { frames := 2, cells := 0, slots := 0, locals := 45 }

set_option maxHeartbeats 4000000 in
set_option maxRecDepth 100000 in
theorem lm_blocks (l : Launch) (D : va_G) (cy : Nat → ClassId) (al : Nat → Nat) (y : lyU) (x0 : Int32) (x1 : Int64) (r0 : Int32) (h : lx_blocks y x0 x1 = some r0) : Met l yL_blocks wsL_blocks rmL_blocks (lyC D cy al y [.int x0, .long x1, .ref (al 6), .ref (al 7), .ref (al 8)]) (vp_Si (fun r : Int32 => r = r0)) 0 0 (fun _ => False) := by
  refine Met.ofW (cc := cL_blocks) (maxL := 11) (ret := (some .int)) (by decide) rfl ?_
  intro p e s m args below meth c s₁ B hml hv
  obtain ⟨ha, hP, hK⟩ := hv
  have hx := B.exec
  have hb := B.bytes
  have hr := B.returns
  have hlocks := B.notSynchronized
  have hts := atoms_spec (ws := wsL_blocks) B.pre
  have hown : s.vm.findClass RL = some m.cls := findClass_of_methodNamed B.named
  have E : CallFix p m c cL_blocks 11 s args wsL_blocks RL := ⟨hx, hb, hml, hown, hts⟩
  obtain ⟨ls, hl, hent⟩ := sw_entry m (n := 11) ha (Nat.le_of_ble_eq_true rfl)
  rw [hent]
  have hl : lv_has ls 11 [(0, .int x0), (1, .long x1), (3, .ref (al 6)), (4, .ref (al 7)), (5, .ref (al 8))] := hl
  unfold lx_blocks at h
  refine lv_iconst (v := 0) hx hb dL_blocks_0 (by decide) ?_
  refine lv_istore (lv' := [(6, .int 0), (0, .int x0), (1, .long x1), (3, .ref (al 6)), (4, .ref (al 7)), (5, .ref (al 8))]) hx hb dL_blocks_1 hl (by decide) rfl (fun ls hl => ?_)
  refine lv_iconst (v := 0) hx hb dL_blocks_3 (by decide) ?_
  refine lv_istore (lv' := [(7, .int 0), (6, .int 0), (0, .int x0), (1, .long x1), (3, .ref (al 6)), (4, .ref (al 7)), (5, .ref (al 8))]) hx hb dL_blocks_4 hl (by decide) rfl (fun ls hl => ?_)
  have L6 : ∀ (kk : Int32 → Int32 → Option (Int32)), (∀ (v6 : Int32) (v7 : Int32) (ls : Array Slot), kk v6 v7 = some r0 → lv_has ls 11 [(0, .int x0), (1, .long x1), (3, .ref (al 6)), (4, .ref (al 7)), (5, .ref (al 8)), (6, .int v6), (7, .int v7)] → W p l e (headSpec wsL_blocks rmL_blocks).room s m args below meth c s.heap [] 0 0 (MQ below (vp_Si (fun r : Int32 => r = r0)) args s 0 0 (fun _ => False)) (F0 m 148 ls [])) → ∀ (n : Nat) (v6 : Int32) (v7 : Int32) (ls : Array Slot), lx_blocks_L6 y x0 x1 kk n v6 v7 = some r0 → lv_has ls 11 [(0, .int x0), (1, .long x1), (3, .ref (al 6)), (4, .ref (al 7)), (5, .ref (al 8)), (6, .int v6), (7, .int v7)] → W p l e (headSpec wsL_blocks rmL_blocks).room s m args below meth c s.heap [] 0 0 (MQ below (vp_Si (fun r : Int32 => r = r0)) args s 0 0 (fun _ => False)) (F0 m 6 ls []) := by
    intro kk hk6 n
    induction n with
    | zero => intro v6 v7 ls h hl; rw [lx_blocks_L6] at h; cases h
    | succ n ih6 =>
      intro v6 v7 ls h hl
      rw [lx_blocks_L6] at h
      refine lv_iload hx hb dL_blocks_6 (lv_at hl 6 rfl) ?_
      refine lv_aload hx hb dL_blocks_8 (lv_at hl 4 rfl) ?_
      refine lv_iconst (v := 3) hx hb dL_blocks_10 (by decide) ?_
      obtain ⟨a11, ea11, ia11, h⟩ := swrd_s h
      refine ly_ald hx hb hK hP (cd := 8) (by decide) rfl ia11 dL_blocks_11 ea11 ?_
      refine lv_icmp_ge (tgt := 148) hx hb dL_blocks_12 (by decide) (fun cc => ?_) (fun cc => ?_)
      · replace h := sw_t h cc
        exact hk6 _ _ _ h (lv_sub hl [0, 1, 2, 3, 4, 5, 6] rfl)
      · replace h := sw_f h cc
        refine lv_aload_n hx hb dL_blocks_15 rfl (lv_at hl 2 rfl) ?_
        refine lv_iload hx hb dL_blocks_16 (lv_at hl 6 rfl) ?_
        obtain ⟨a18, ea18, ia18, h⟩ := swrd_s h
        refine ly_ald hx hb hK hP (cd := 6) (by decide) rfl ia18 dL_blocks_18 ea18 ?_
        refine lv_iconst (v := 4) hx hb dL_blocks_19 (by decide) ?_
        refine lv_irem hx hb dL_blocks_20 (by decide) ?_
        refine sw_top (x := swrem a18 4) rfl ?_
        obtain ⟨y21, ey21, h⟩ := swlt_s h
        refine sw_top ey21 ?_
        refine lv_istore (lv' := [(8, .int y21), (0, .int x0), (1, .long x1), (3, .ref (al 6)), (4, .ref (al 7)), (5, .ref (al 8)), (6, .int v6), (7, .int v7)]) hx hb dL_blocks_21 hl (by decide) rfl (fun ls hl => ?_)
        refine lv_iconst (v := 0) hx hb dL_blocks_23 (by decide) ?_
        refine lv_istore (lv' := [(9, .int 0), (8, .int y21), (0, .int x0), (1, .long x1), (3, .ref (al 6)), (4, .ref (al 7)), (5, .ref (al 8)), (6, .int v6), (7, .int v7)]) hx hb dL_blocks_24 hl (by decide) rfl (fun ls hl => ?_)
        refine lv_iconst (v := 0) hx hb dL_blocks_26 (by decide) ?_
        refine lv_istore (lv' := [(10, .int 0), (9, .int 0), (8, .int y21), (0, .int x0), (1, .long x1), (3, .ref (al 6)), (4, .ref (al 7)), (5, .ref (al 8)), (6, .int v6), (7, .int v7)]) hx hb dL_blocks_27 hl (by decide) rfl (fun ls hl => ?_)
        have L29 : ∀ (kk : Int32 → Int32 → Option (Int32)), (∀ (v9 : Int32) (v10 : Int32) (ls : Array Slot), kk v9 v10 = some r0 → lv_has ls 11 [(0, .int x0), (1, .long x1), (3, .ref (al 6)), (4, .ref (al 7)), (5, .ref (al 8)), (6, .int v6), (7, .int v7), (8, .int y21), (9, .int v9), (10, .int v10)] → W p l e (headSpec wsL_blocks rmL_blocks).room s m args below meth c s.heap [] 0 0 (MQ below (vp_Si (fun r : Int32 => r = r0)) args s 0 0 (fun _ => False)) (F0 m 99 ls [])) → ∀ (n : Nat) (v9 : Int32) (v10 : Int32) (ls : Array Slot), lx_blocks_L29 y x0 v7 kk n v9 v10 = some r0 → lv_has ls 11 [(0, .int x0), (1, .long x1), (3, .ref (al 6)), (4, .ref (al 7)), (5, .ref (al 8)), (6, .int v6), (7, .int v7), (8, .int y21), (9, .int v9), (10, .int v10)] → W p l e (headSpec wsL_blocks rmL_blocks).room s m args below meth c s.heap [] 0 0 (MQ below (vp_Si (fun r : Int32 => r = r0)) args s 0 0 (fun _ => False)) (F0 m 29 ls []) := by
          intro kk hk29 n
          induction n with
          | zero => intro v9 v10 ls h hl; rw [lx_blocks_L29] at h; cases h
          | succ n ih29 =>
            intro v9 v10 ls h hl
            rw [lx_blocks_L29] at h
            refine lv_iload hx hb dL_blocks_29 (lv_at hl 9 rfl) ?_
            refine lv_aload hx hb dL_blocks_31 (lv_at hl 4 rfl) ?_
            refine lv_iconst (v := 4) hx hb dL_blocks_33 (by decide) ?_
            obtain ⟨a34, ea34, ia34, h⟩ := swrd_s h
            refine ly_ald hx hb hK hP (cd := 8) (by decide) rfl ia34 dL_blocks_34 ea34 ?_
            refine lv_icmp_ge (tgt := 99) hx hb dL_blocks_35 (by decide) (fun cc => ?_) (fun cc => ?_)
            · replace h := sw_t h cc
              exact hk29 _ _ _ h (lv_sub hl [0, 1, 2, 3, 4, 5, 6, 7, 8, 9] rfl)
            · replace h := sw_f h cc
              refine lv_iload hx hb dL_blocks_38 (lv_at hl 8 rfl) ?_
              refine lv_if_ne (tgt := 86) hx hb dL_blocks_40 (by decide) (fun cc => ?_) (fun cc => ?_)
              · replace h := sw_f h cc
                refine lv_iconst (v := 1) hx hb dL_blocks_86 (by decide) ?_
                refine lv_goto (tgt := 91) hx hb dL_blocks_87 (by decide) ?_
                refine lv_istore (lv' := [(9, .int 1), (0, .int x0), (1, .long x1), (3, .ref (al 6)), (4, .ref (al 7)), (5, .ref (al 8)), (6, .int v6), (7, .int v7), (8, .int y21), (10, .int v10)]) hx hb dL_blocks_91 hl (by decide) rfl (fun ls hl => ?_)
                refine lv_iinc (v := (v10 + 1)) (lv' := [(10, .int (v10 + 1)), (9, .int 1), (0, .int x0), (1, .long x1), (3, .ref (al 6)), (4, .ref (al 7)), (5, .ref (al 8)), (6, .int v6), (7, .int v7), (8, .int y21)]) hx hb dL_blocks_93 hl (k := 9) rfl rfl (by decide) rfl (fun ls hl => ?_)
                refine lv_goto (tgt := 29) hx hb dL_blocks_96 (by decide) ?_
                exact ih29 _ _ _ h (lv_sub hl [2, 3, 4, 5, 6, 7, 8, 9, 1, 0] rfl)
              · replace h := sw_t h cc
                refine lv_aload hx hb dL_blocks_43 (lv_at hl 3 rfl) ?_
                refine lv_iload hx hb dL_blocks_45 (lv_at hl 9 rfl) ?_
                obtain ⟨a47, ea47, ia47, h⟩ := swrd_s h
                refine ly_ald hx hb hK hP (cd := 7) (by decide) rfl ia47 dL_blocks_47 ea47 ?_
                refine lv_bipush (v := 8) hx hb dL_blocks_48 (by decide) ?_
                refine lv_irem hx hb dL_blocks_50 (by decide) ?_
                refine sw_top (x := swrem a47 8) rfl ?_
                refine lv_iload hx hb dL_blocks_51 (lv_at hl 6 rfl) ?_
                refine lv_icmp_ne (tgt := 90) hx hb dL_blocks_53 (by decide) (fun cc => ?_) (fun cc => ?_)
                · replace h := sw_f h cc
                  refine lv_iconst (v := 0) hx hb dL_blocks_90 (by decide) ?_
                  refine lv_istore (lv' := [(9, .int 0), (0, .int x0), (1, .long x1), (3, .ref (al 6)), (4, .ref (al 7)), (5, .ref (al 8)), (6, .int v6), (7, .int v7), (8, .int y21), (10, .int v10)]) hx hb dL_blocks_91 hl (by decide) rfl (fun ls hl => ?_)
                  refine lv_iinc (v := (v10 + 1)) (lv' := [(10, .int (v10 + 1)), (9, .int 0), (0, .int x0), (1, .long x1), (3, .ref (al 6)), (4, .ref (al 7)), (5, .ref (al 8)), (6, .int v6), (7, .int v7), (8, .int y21)]) hx hb dL_blocks_93 hl (k := 9) rfl rfl (by decide) rfl (fun ls hl => ?_)
                  refine lv_goto (tgt := 29) hx hb dL_blocks_96 (by decide) ?_
                  exact ih29 _ _ _ h (lv_sub hl [2, 3, 4, 5, 6, 7, 8, 9, 1, 0] rfl)
                · replace h := sw_t h cc
                  refine lv_aload hx hb dL_blocks_56 (lv_at hl 3 rfl) ?_
                  refine lv_iload hx hb dL_blocks_58 (lv_at hl 9 rfl) ?_
                  obtain ⟨a60, ea60, ia60, h⟩ := swrd_s h
                  refine ly_ald hx hb hK hP (cd := 7) (by decide) rfl ia60 dL_blocks_60 ea60 ?_
                  refine lv_bipush (v := 8) hx hb dL_blocks_61 (by decide) ?_
                  refine lv_idiv hx hb dL_blocks_63 (by decide) ?_
                  refine lv_bipush (v := 8) hx hb dL_blocks_64 (by decide) ?_
                  refine lv_irem hx hb dL_blocks_66 (by decide) ?_
                  refine sw_top (x := swrem (a60 / 8) 8) rfl ?_
                  refine lv_iload_n hx hb dL_blocks_67 rfl (lv_at hl 0 rfl) ?_
                  refine lv_icmp_ne (tgt := 90) hx hb dL_blocks_68 (by decide) (fun cc => ?_) (fun cc => ?_)
                  · replace h := sw_f h cc
                    refine lv_iconst (v := 0) hx hb dL_blocks_90 (by decide) ?_
                    refine lv_istore (lv' := [(9, .int 0), (0, .int x0), (1, .long x1), (3, .ref (al 6)), (4, .ref (al 7)), (5, .ref (al 8)), (6, .int v6), (7, .int v7), (8, .int y21), (10, .int v10)]) hx hb dL_blocks_91 hl (by decide) rfl (fun ls hl => ?_)
                    refine lv_iinc (v := (v10 + 1)) (lv' := [(10, .int (v10 + 1)), (9, .int 0), (0, .int x0), (1, .long x1), (3, .ref (al 6)), (4, .ref (al 7)), (5, .ref (al 8)), (6, .int v6), (7, .int v7), (8, .int y21)]) hx hb dL_blocks_93 hl (k := 9) rfl rfl (by decide) rfl (fun ls hl => ?_)
                    refine lv_goto (tgt := 29) hx hb dL_blocks_96 (by decide) ?_
                    exact ih29 _ _ _ h (lv_sub hl [2, 3, 4, 5, 6, 7, 8, 9, 1, 0] rfl)
                  · replace h := sw_t h cc
                    refine lv_aload hx hb dL_blocks_71 (lv_at hl 3 rfl) ?_
                    refine lv_iload hx hb dL_blocks_73 (lv_at hl 9 rfl) ?_
                    obtain ⟨a75, ea75, ia75, h⟩ := swrd_s h
                    refine ly_ald hx hb hK hP (cd := 7) (by decide) rfl ia75 dL_blocks_75 ea75 ?_
                    refine lv_bipush (v := 64) hx hb dL_blocks_76 (by decide) ?_
                    refine lv_idiv hx hb dL_blocks_78 (by decide) ?_
                    refine lv_aload hx hb dL_blocks_79 (lv_at hl 4 rfl) ?_
                    refine lv_iconst (v := 5) hx hb dL_blocks_81 (by decide) ?_
                    obtain ⟨a82, ea82, ia82, h⟩ := swrd_s h
                    refine ly_ald hx hb hK hP (cd := 8) (by decide) rfl ia82 dL_blocks_82 ea82 ?_
                    refine lv_icmp_lt (tgt := 90) hx hb dL_blocks_83 (by decide) (fun cc => ?_) (fun cc => ?_)
                    · replace h := sw_t h cc
                      refine lv_iconst (v := 0) hx hb dL_blocks_90 (by decide) ?_
                      refine lv_istore (lv' := [(9, .int 0), (0, .int x0), (1, .long x1), (3, .ref (al 6)), (4, .ref (al 7)), (5, .ref (al 8)), (6, .int v6), (7, .int v7), (8, .int y21), (10, .int v10)]) hx hb dL_blocks_91 hl (by decide) rfl (fun ls hl => ?_)
                      refine lv_iinc (v := (v10 + 1)) (lv' := [(10, .int (v10 + 1)), (9, .int 0), (0, .int x0), (1, .long x1), (3, .ref (al 6)), (4, .ref (al 7)), (5, .ref (al 8)), (6, .int v6), (7, .int v7), (8, .int y21)]) hx hb dL_blocks_93 hl (k := 9) rfl rfl (by decide) rfl (fun ls hl => ?_)
                      refine lv_goto (tgt := 29) hx hb dL_blocks_96 (by decide) ?_
                      exact ih29 _ _ _ h (lv_sub hl [2, 3, 4, 5, 6, 7, 8, 9, 1, 0] rfl)
                    · replace h := sw_f h cc
                      refine lv_iconst (v := 1) hx hb dL_blocks_86 (by decide) ?_
                      refine lv_goto (tgt := 91) hx hb dL_blocks_87 (by decide) ?_
                      refine lv_istore (lv' := [(9, .int 1), (0, .int x0), (1, .long x1), (3, .ref (al 6)), (4, .ref (al 7)), (5, .ref (al 8)), (6, .int v6), (7, .int v7), (8, .int y21), (10, .int v10)]) hx hb dL_blocks_91 hl (by decide) rfl (fun ls hl => ?_)
                      refine lv_iinc (v := (v10 + 1)) (lv' := [(10, .int (v10 + 1)), (9, .int 1), (0, .int x0), (1, .long x1), (3, .ref (al 6)), (4, .ref (al 7)), (5, .ref (al 8)), (6, .int v6), (7, .int v7), (8, .int y21)]) hx hb dL_blocks_93 hl (k := 9) rfl rfl (by decide) rfl (fun ls hl => ?_)
                      refine lv_goto (tgt := 29) hx hb dL_blocks_96 (by decide) ?_
                      exact ih29 _ _ _ h (lv_sub hl [2, 3, 4, 5, 6, 7, 8, 9, 1, 0] rfl)
        refine L29 _ (fun v9 v10 ls h hl => ?_) 64 _ _ _ h (lv_sub hl [3, 4, 5, 6, 7, 8, 9, 2, 1, 0] rfl)
        refine lv_iload hx hb dL_blocks_99 (lv_at hl 5 rfl) ?_
        refine lv_aload_n hx hb dL_blocks_101 rfl (lv_at hl 2 rfl) ?_
        refine lv_iload hx hb dL_blocks_102 (lv_at hl 6 rfl) ?_
        obtain ⟨a104, ea104, ia104, h⟩ := swrd_s h
        refine ly_ald hx hb hK hP (cd := 6) (by decide) rfl ia104 dL_blocks_104 ea104 ?_
        refine lv_lload_n hx hb dL_blocks_105 rfl (lv_at hl 1 rfl) ?_
        obtain ⟨r106, er106, h⟩ := swbd_s h
        refine ly_stS (As := [.int a104, .long x1]) (rest := [.int v6]) E (lm_breaks l a104 x1 _ er106) (va_cwS 2 hts gL_blocks_L_breaks rfl rfl rfl (by decide +kernel) ⟨Nat.le_of_ble_eq_true rfl, Nat.le_of_ble_eq_true rfl⟩) ⟨Nat.zero_le _, Nat.zero_le _⟩ rfl hl.1 rfl (Nat.le_of_ble_eq_true rfl) dL_blocks_106 ?_
        obtain ⟨k139_, ek139_, h⟩ := swjn_s h
        have J139 : ∀ (s139_0 : Int32) (ls : Array Slot), k139_ s139_0 = some r0 → lv_has ls 11 [(0, .int x0), (1, .long x1), (3, .ref (al 6)), (4, .ref (al 7)), (5, .ref (al 8)), (6, .int v6), (7, .int v7), (8, .int y21), (9, .int v9), (10, .int v10)] → W p l e (headSpec wsL_blocks rmL_blocks).room s m args below meth c s.heap [] 0 0 (MQ below (vp_Si (fun r : Int32 => r = r0)) args s 0 0 (fun _ => False)) (F0 m 139 ls [.int s139_0, .int v6]) := by
          intro s139_0 ls h hl
          rw [ek139_] at h
          refine lv_iadd hx hb dL_blocks_139 ?_
          obtain ⟨y140, ey140, h⟩ := swlt_s h
          refine sw_top ey140 ?_
          refine lv_istore (lv' := [(6, .int y140), (0, .int x0), (1, .long x1), (3, .ref (al 6)), (4, .ref (al 7)), (5, .ref (al 8)), (7, .int v7), (8, .int y21), (9, .int v9), (10, .int v10)]) hx hb dL_blocks_140 hl (by decide) rfl (fun ls hl => ?_)
          refine lv_iinc (v := (v7 + 1)) (lv' := [(7, .int (v7 + 1)), (6, .int y140), (0, .int x0), (1, .long x1), (3, .ref (al 6)), (4, .ref (al 7)), (5, .ref (al 8)), (8, .int y21), (9, .int v9), (10, .int v10)]) hx hb dL_blocks_142 hl (k := 6) rfl rfl (by decide) rfl (fun ls hl => ?_)
          refine lv_goto (tgt := 6) hx hb dL_blocks_145 (by decide) ?_
          exact ih6 _ _ _ h (lv_sub hl [2, 3, 4, 5, 6, 1, 0] rfl)
        clear ek139_
        refine lv_if_eq (tgt := 123) hx hb dL_blocks_109 (by decide) (fun cc => ?_) (fun cc => ?_)
        · replace h := sw_t h cc
          refine lv_iconst (v := 0) hx hb dL_blocks_123 (by decide) ?_
          refine lv_goto (tgt := 139) hx hb dL_blocks_124 (by decide) ?_
          exact J139 _ _ h (lv_sub hl [0, 1, 2, 3, 4, 5, 6, 7, 8, 9] rfl)
        · replace h := sw_f h cc
          refine lv_iload hx hb dL_blocks_112 (lv_at hl 7 rfl) ?_
          refine lv_iconst (v := 1) hx hb dL_blocks_114 (by decide) ?_
          refine lv_icmp_ne (tgt := 127) hx hb dL_blocks_115 (by decide) (fun cc => ?_) (fun cc => ?_)
          · replace h := sw_f h cc
            refine lv_iload hx hb dL_blocks_127 (lv_at hl 7 rfl) ?_
            refine lv_iconst (v := 2) hx hb dL_blocks_129 (by decide) ?_
            refine lv_icmp_ne (tgt := 138) hx hb dL_blocks_130 (by decide) (fun cc => ?_) (fun cc => ?_)
            · replace h := sw_f h cc
              refine lv_iconst (v := 1) hx hb dL_blocks_138 (by decide) ?_
              exact J139 _ _ h (lv_sub hl [0, 1, 2, 3, 4, 5, 6, 7, 8, 9] rfl)
            · replace h := sw_t h cc
              refine lv_bipush (v := 64) hx hb dL_blocks_133 (by decide) ?_
              refine lv_goto (tgt := 139) hx hb dL_blocks_135 (by decide) ?_
              exact J139 _ _ h (lv_sub hl [0, 1, 2, 3, 4, 5, 6, 7, 8, 9] rfl)
          · replace h := sw_t h cc
            refine lv_iload hx hb dL_blocks_118 (lv_at hl 8 rfl) ?_
            refine lv_if_eq (tgt := 127) hx hb dL_blocks_120 (by decide) (fun cc => ?_) (fun cc => ?_)
            · replace h := sw_t h cc
              refine lv_iload hx hb dL_blocks_127 (lv_at hl 7 rfl) ?_
              refine lv_iconst (v := 2) hx hb dL_blocks_129 (by decide) ?_
              refine lv_icmp_ne (tgt := 138) hx hb dL_blocks_130 (by decide) (fun cc => ?_) (fun cc => ?_)
              · replace h := sw_f h cc
                refine lv_iconst (v := 1) hx hb dL_blocks_138 (by decide) ?_
                exact J139 _ _ h (lv_sub hl [0, 1, 2, 3, 4, 5, 6, 7, 8, 9] rfl)
              · replace h := sw_t h cc
                refine lv_bipush (v := 64) hx hb dL_blocks_133 (by decide) ?_
                refine lv_goto (tgt := 139) hx hb dL_blocks_135 (by decide) ?_
                exact J139 _ _ h (lv_sub hl [0, 1, 2, 3, 4, 5, 6, 7, 8, 9] rfl)
            · replace h := sw_f h cc
              refine lv_iconst (v := 0) hx hb dL_blocks_123 (by decide) ?_
              refine lv_goto (tgt := 139) hx hb dL_blocks_124 (by decide) ?_
              exact J139 _ _ h (lv_sub hl [0, 1, 2, 3, 4, 5, 6, 7, 8, 9] rfl)
  refine L6 _ (fun v6 v7 ls h hl => ?_) 64 _ _ _ h (lv_sub hl [2, 3, 4, 5, 6, 1, 0] rfl)
  refine lv_iload hx hb dL_blocks_148 (lv_at hl 5 rfl) ?_
  exact W.iret hx hb hr (fun t ht hW => ⟨_, rfl, sw_in1 h, ht⟩) (fun q hq => by cases hq) dL_blocks_150 hlocks

/-! all -/
def lx_all_L6 (y : lyU) (x0 : Int32) (kk : Int32 → Int32 → Option (Int32)) : Nat → Int32 → Int32 → Option (Int32)
  | 0, _, _ => none
  | n + 1, v6, v7 => if 6 ≤ v7 then (kk v6 v7) else (swbd (lx_get y x0 v7) fun r18 => swjn (fun (s48_0 : Int32) => swlt (v6 + s48_0) fun y49 => lx_all_L6 y x0 kk n y49 (v7 + 1)) fun k48_ => if (lg_cmp r18 (0 : Int64)) = 0 then (k48_ 0) else (swbd (lx_blocks y v7 r18) fun r45 => k48_ r45))

def lx_all (y : lyU) (x0 : Int32) : Option (Int32) :=
  lx_all_L6 y x0 (fun v6 v7 => some v6) 64 0 0

abbrev rmL_all : Room := { frames := 3, cells := 0, slots := 0, locals := 75 }

set_option maxHeartbeats 4000000 in
set_option maxRecDepth 100000 in
theorem lm_all (l : Launch) (D : va_G) (cy : Nat → ClassId) (al : Nat → Nat) (y : lyU) (x0 : Int32) (r0 : Int32) (h : lx_all y x0 = some r0) : Met l yL_all wsL_all rmL_all (lyC D cy al y [.int x0, .ref (al 0), .ref (al 1), .ref (al 6), .ref (al 7), .ref (al 8)]) (vp_Si (fun r : Int32 => r = r0)) 0 0 (fun _ => False) := by
  refine Met.ofW (cc := cL_all) (maxL := 10) (ret := (some .int)) (by decide) rfl ?_
  intro p e s m args below meth c s₁ B hml hv
  obtain ⟨ha, hP, hK⟩ := hv
  have hx := B.exec
  have hb := B.bytes
  have hr := B.returns
  have hlocks := B.notSynchronized
  have hts := atoms_spec (ws := wsL_all) B.pre
  have hown : s.vm.findClass RL = some m.cls := findClass_of_methodNamed B.named
  have E : CallFix p m c cL_all 10 s args wsL_all RL := ⟨hx, hb, hml, hown, hts⟩
  obtain ⟨ls, hl, hent⟩ := sw_entry m (n := 10) ha (Nat.le_of_ble_eq_true rfl)
  rw [hent]
  have hl : lv_has ls 10 [(0, .int x0), (1, .ref (al 0)), (2, .ref (al 1)), (3, .ref (al 6)), (4, .ref (al 7)), (5, .ref (al 8))] := hl
  unfold lx_all at h
  refine lv_iconst (v := 0) hx hb dL_all_0 (by decide) ?_
  refine lv_istore (lv' := [(6, .int 0), (0, .int x0), (1, .ref (al 0)), (2, .ref (al 1)), (3, .ref (al 6)), (4, .ref (al 7)), (5, .ref (al 8))]) hx hb dL_all_1 hl (by decide) rfl (fun ls hl => ?_)
  refine lv_iconst (v := 0) hx hb dL_all_3 (by decide) ?_
  refine lv_istore (lv' := [(7, .int 0), (6, .int 0), (0, .int x0), (1, .ref (al 0)), (2, .ref (al 1)), (3, .ref (al 6)), (4, .ref (al 7)), (5, .ref (al 8))]) hx hb dL_all_4 hl (by decide) rfl (fun ls hl => ?_)
  have L6 : ∀ (kk : Int32 → Int32 → Option (Int32)), (∀ (v6 : Int32) (v7 : Int32) (ls : Array Slot), kk v6 v7 = some r0 → lv_has ls 10 [(0, .int x0), (1, .ref (al 0)), (2, .ref (al 1)), (3, .ref (al 6)), (4, .ref (al 7)), (5, .ref (al 8)), (6, .int v6), (7, .int v7)] → W p l e (headSpec wsL_all rmL_all).room s m args below meth c s.heap [] 0 0 (MQ below (vp_Si (fun r : Int32 => r = r0)) args s 0 0 (fun _ => False)) (F0 m 57 ls [])) → ∀ (n : Nat) (v6 : Int32) (v7 : Int32) (ls : Array Slot), lx_all_L6 y x0 kk n v6 v7 = some r0 → lv_has ls 10 [(0, .int x0), (1, .ref (al 0)), (2, .ref (al 1)), (3, .ref (al 6)), (4, .ref (al 7)), (5, .ref (al 8)), (6, .int v6), (7, .int v7)] → W p l e (headSpec wsL_all rmL_all).room s m args below meth c s.heap [] 0 0 (MQ below (vp_Si (fun r : Int32 => r = r0)) args s 0 0 (fun _ => False)) (F0 m 6 ls []) := by
    intro kk hk6 n
    induction n with
    | zero => intro v6 v7 ls h hl; rw [lx_all_L6] at h; cases h
    | succ n ih6 =>
      intro v6 v7 ls h hl
      rw [lx_all_L6] at h
      refine lv_iload hx hb dL_all_6 (lv_at hl 7 rfl) ?_
      refine lv_bipush (v := 6) hx hb dL_all_8 (by decide) ?_
      refine lv_icmp_ge (tgt := 57) hx hb dL_all_10 (by decide) (fun cc => ?_) (fun cc => ?_)
      · replace h := sw_t h cc
        exact hk6 _ _ _ h (lv_sub hl [0, 1, 2, 3, 4, 5, 6, 7] rfl)
      · replace h := sw_f h cc
        refine lv_iload_n hx hb dL_all_13 rfl (lv_at hl 0 rfl) ?_
        refine lv_iload hx hb dL_all_14 (lv_at hl 7 rfl) ?_
        refine lv_aload_n hx hb dL_all_16 rfl (lv_at hl 1 rfl) ?_
        refine lv_aload_n hx hb dL_all_17 rfl (lv_at hl 2 rfl) ?_
        obtain ⟨r18, er18, h⟩ := swbd_s h
        refine ly_roL (As := [.int x0, .int v7, .ref (al 0), .ref (al 1)]) (rest := []) E (lm_get l D cy al y x0 v7 _ er18) (va_cwS 4 hts gL_all_L_get rfl rfl rfl (by decide +kernel) ⟨Nat.le_of_ble_eq_true rfl, Nat.le_of_ble_eq_true rfl⟩) hK hP ⟨Nat.zero_le _, Nat.zero_le _⟩ rfl hl.1 rfl (Nat.le_of_ble_eq_true rfl) dL_all_18 ?_
        refine lv_lstore (lv' := [(8, .long r18), (0, .int x0), (1, .ref (al 0)), (2, .ref (al 1)), (3, .ref (al 6)), (4, .ref (al 7)), (5, .ref (al 8)), (6, .int v6), (7, .int v7)]) hx hb dL_all_21 hl (by decide) rfl (fun ls hl => ?_)
        refine lv_iload hx hb dL_all_23 (lv_at hl 7 rfl) ?_
        refine lv_lload hx hb dL_all_25 (lv_at hl 0 rfl) ?_
        refine lv_lconst (v := 0) hx hb dL_all_27 (by decide) ?_
        refine W.lcmp hx hb dL_all_28 ?_
        obtain ⟨k48_, ek48_, h⟩ := swjn_s h
        have J48 : ∀ (s48_0 : Int32) (ls : Array Slot), k48_ s48_0 = some r0 → lv_has ls 10 [(0, .int x0), (1, .ref (al 0)), (2, .ref (al 1)), (3, .ref (al 6)), (4, .ref (al 7)), (5, .ref (al 8)), (6, .int v6), (7, .int v7), (8, .long r18)] → W p l e (headSpec wsL_all rmL_all).room s m args below meth c s.heap [] 0 0 (MQ below (vp_Si (fun r : Int32 => r = r0)) args s 0 0 (fun _ => False)) (F0 m 48 ls [.int s48_0, .int v6]) := by
          intro s48_0 ls h hl
          rw [ek48_] at h
          refine lv_iadd hx hb dL_all_48 ?_
          obtain ⟨y49, ey49, h⟩ := swlt_s h
          refine sw_top ey49 ?_
          refine lv_istore (lv' := [(6, .int y49), (0, .int x0), (1, .ref (al 0)), (2, .ref (al 1)), (3, .ref (al 6)), (4, .ref (al 7)), (5, .ref (al 8)), (7, .int v7), (8, .long r18)]) hx hb dL_all_49 hl (by decide) rfl (fun ls hl => ?_)
          refine lv_iinc (v := (v7 + 1)) (lv' := [(7, .int (v7 + 1)), (6, .int y49), (0, .int x0), (1, .ref (al 0)), (2, .ref (al 1)), (3, .ref (al 6)), (4, .ref (al 7)), (5, .ref (al 8)), (8, .long r18)]) hx hb dL_all_51 hl (k := 7) rfl rfl (by decide) rfl (fun ls hl => ?_)
          refine lv_goto (tgt := 6) hx hb dL_all_54 (by decide) ?_
          exact ih6 _ _ _ h (lv_sub hl [2, 3, 4, 5, 6, 7, 1, 0] rfl)
        clear ek48_
        refine lv_if_ne (tgt := 36) hx hb dL_all_29 (by decide) (fun cc => ?_) (fun cc => ?_)
        · replace h := sw_f h cc
          refine lv_iload hx hb dL_all_36 (lv_at hl 8 rfl) ?_
          refine lv_lload hx hb dL_all_38 (lv_at hl 0 rfl) ?_
          refine lv_aload_n hx hb dL_all_40 rfl (lv_at hl 4 rfl) ?_
          refine lv_aload hx hb dL_all_41 (lv_at hl 5 rfl) ?_
          refine lv_aload hx hb dL_all_43 (lv_at hl 6 rfl) ?_
          obtain ⟨r45, er45, h⟩ := swbd_s h
          refine ly_roS (As := [.int v7, .long r18, .ref (al 6), .ref (al 7), .ref (al 8)]) (rest := [.int v6]) E (lm_blocks l D cy al y v7 r18 _ er45) (va_cwS 5 hts gL_all_L_blocks rfl rfl rfl (by decide +kernel) ⟨Nat.le_of_ble_eq_true rfl, Nat.le_of_ble_eq_true rfl⟩) hK hP ⟨Nat.zero_le _, Nat.zero_le _⟩ rfl hl.1 rfl (Nat.le_of_ble_eq_true rfl) dL_all_45 ?_
          exact J48 _ _ h (lv_sub hl [1, 2, 3, 4, 5, 6, 7, 8, 0] rfl)
        · replace h := sw_t h cc
          refine lv_iconst (v := 0) hx hb dL_all_32 (by decide) ?_
          refine lv_goto (tgt := 48) hx hb dL_all_33 (by decide) ?_
          exact J48 _ _ h (lv_sub hl [1, 2, 3, 4, 5, 6, 7, 8, 0] rfl)
  refine L6 _ (fun v6 v7 ls h hl => ?_) 64 _ _ _ h (lv_sub hl [2, 3, 4, 5, 6, 7, 1, 0] rfl)
  refine lv_iload hx hb dL_all_57 (lv_at hl 6 rfl) ?_
  exact W.iret hx hb hr (fun t ht hW => ⟨_, rfl, sw_in1 h, ht⟩) (fun q hq => by cases hq) dL_all_59 hlocks

/-! blocked -/
def lx_blocked (y : lyU) (x0 : Int32) : Option (Int32) :=
  swbd (lx_all y x0) fun r8 => if (swrem r8 64) ≤ 0 then (some (0 : Int32)) else (some (1 : Int32))

abbrev rmL_blocked : Room := { frames := 4, cells := 0, slots := 0, locals := 104 }

set_option maxHeartbeats 4000000 in
set_option maxRecDepth 100000 in
theorem lm_blocked (l : Launch) (D : va_G) (cy : Nat → ClassId) (al : Nat → Nat) (y : lyU) (x0 : Int32) (r0 : Int32) (h : lx_blocked y x0 = some r0) : Met l yL_blocked wsL_blocked rmL_blocked (lyC D cy al y [.int x0, .ref (al 0), .ref (al 1), .ref (al 6), .ref (al 7), .ref (al 8)]) (vp_Si (fun r : Int32 => r = r0)) 0 0 (fun _ => False) := by
  refine Met.ofW (cc := cL_blocked) (maxL := 6) (ret := (some .boolean)) (by decide) rfl ?_
  intro p e s m args below meth c s₁ B hml hv
  obtain ⟨ha, hP, hK⟩ := hv
  have hx := B.exec
  have hb := B.bytes
  have hr := B.returns
  have hlocks := B.notSynchronized
  have hts := atoms_spec (ws := wsL_blocked) B.pre
  have hown : s.vm.findClass RL = some m.cls := findClass_of_methodNamed B.named
  have E : CallFix p m c cL_blocked 6 s args wsL_blocked RL := ⟨hx, hb, hml, hown, hts⟩
  obtain ⟨ls, hl, hent⟩ := sw_entry m (n := 6) ha (Nat.le_of_ble_eq_true rfl)
  rw [hent]
  have hl : lv_has ls 6 [(0, .int x0), (1, .ref (al 0)), (2, .ref (al 1)), (3, .ref (al 6)), (4, .ref (al 7)), (5, .ref (al 8))] := hl
  unfold lx_blocked at h
  refine lv_iload_n hx hb dL_blocked_0 rfl (lv_at hl 0 rfl) ?_
  refine lv_aload_n hx hb dL_blocked_1 rfl (lv_at hl 1 rfl) ?_
  refine lv_aload_n hx hb dL_blocked_2 rfl (lv_at hl 2 rfl) ?_
  refine lv_aload_n hx hb dL_blocked_3 rfl (lv_at hl 3 rfl) ?_
  refine lv_aload hx hb dL_blocked_4 (lv_at hl 4 rfl) ?_
  refine lv_aload hx hb dL_blocked_6 (lv_at hl 5 rfl) ?_
  obtain ⟨r8, er8, h⟩ := swbd_s h
  refine ly_roS (As := [.int x0, .ref (al 0), .ref (al 1), .ref (al 6), .ref (al 7), .ref (al 8)]) (rest := []) E (lm_all l D cy al y x0 _ er8) (va_cwS 6 hts gL_blocked_L_all rfl rfl rfl (by decide +kernel) ⟨Nat.le_of_ble_eq_true rfl, Nat.le_of_ble_eq_true rfl⟩) hK hP ⟨Nat.zero_le _, Nat.zero_le _⟩ rfl hl.1 rfl (Nat.le_of_ble_eq_true rfl) dL_blocked_8 ?_
  refine lv_bipush (v := 64) hx hb dL_blocked_11 (by decide) ?_
  refine lv_irem hx hb dL_blocked_13 (by decide) ?_
  refine sw_top (x := swrem r8 64) rfl ?_
  refine lv_if_le (tgt := 21) hx hb dL_blocked_14 (by decide) (fun cc => ?_) (fun cc => ?_)
  · replace h := sw_t h cc
    refine lv_iconst (v := 0) hx hb dL_blocked_21 (by decide) ?_
    exact W.zret (ty := .boolean) hx hb hr rfl (fun t ht hW => ⟨_, rfl, sw_in1 h, ht⟩) (fun q hq => by cases hq) dL_blocked_22 hlocks
  · replace h := sw_f h cc
    refine lv_iconst (v := 1) hx hb dL_blocked_17 (by decide) ?_
    refine lv_goto (tgt := 22) hx hb dL_blocked_18 (by decide) ?_
    exact W.zret (ty := .boolean) hx hb hr rfl (fun t ht hW => ⟨_, rfl, sw_in1 h, ht⟩) (fun q hq => by cases hq) dL_blocked_22 hlocks
