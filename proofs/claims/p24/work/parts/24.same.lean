/-! same -/
def lx_same_L6 (y : lyU) (kk : Int32 → Int32 → swU → Option (Int32 × swU × lyU)) : Nat → Int32 → Int32 → swU → Option (Int32 × swU × lyU)
  | 0, _, _, _ => none
  | n + 1, v11, v12, wu6 => swrd 6 (y.1 8) 2 fun a11 => if a11 ≤ v12 then (kk v11 v12 wu6) else (if v11 = 0 then (kk v11 v12 wu6) else (swnx (xx5_head wu6 v12) fun r23 w23 => swrd 12 (y.1 5) v12 fun a30 => if r23 = a30 then (swnx (xx5_shown w23 v12) fun r37 w37 => swrd 12 (y.1 5) (((6 : Int32) + v12)) fun a47 => swjn (fun (s89_0 : Int32) => if r37 = s89_0 then (lx_same_L6 y kk n 1 (v12 + 1) w37) else (lx_same_L6 y kk n 0 (v12 + 1) w37)) fun k89_ => if a47 = 0 then (k89_ (-1)) else (swrd 12 (y.1 5) (((6 : Int32) + v12)) fun a58 => swbd (lx_blocked y (a58 - 1)) fun r69 => if r69 = 0 then (swrd 12 (y.1 5) (((6 : Int32) + v12)) fun a86 => k89_ (a86 - 1)) else (k89_ (-1)))) else (lx_same_L6 y kk n 0 (v12 + 1) w23)))

def lx_same_L167 (wu108 : swU) (y : lyU) (s144_0 : Int32) (kk : Int32 → Int32 → Option (Int32 × swU × lyU)) : Nat → Int32 → Int32 → Option (Int32 × swU × lyU)
  | 0, _, _ => none
  | n + 1, v15, v16 => if 21 ≤ v16 then (kk v15 v16) else (swrd 21 (y.1 3) s144_0 fun a180 => swlt ((v15 + ((swshr a180 v16) &&& 1))) fun y187 => lx_same_L167 wu108 y s144_0 kk n y187 (v16 + 1))

def lx_same_L328 (y : lyU) (s144_0 : Int32) (kk : Int32 → Int32 → Int32 → swU → Option (Int32 × swU × lyU)) : Nat → Int32 → Int32 → Int32 → swU → Option (Int32 × swU × lyU)
  | 0, _, _, _, _ => none
  | n + 1, v11, v16, v17, wu328 => if v17 < 0 then (kk v11 v16 v17 wu328) else (swrd 21 (y.1 2) s144_0 fun a337 => swlt (((swrem ((swshr a337 (((3 : Int32) * v17)))) 8) - 1)) fun y348 => swjn (fun (s373_0 : Int32) (uj373 : swU) => if y348 < 0 then (lx_same_L328 y s144_0 kk n s373_0 v16 ((v17 + (-1))) uj373) else (swbd (lx_get y s144_0 y348) fun r388 => swbd (lx_blocks y y348 r388) fun r397 => if (swrem r397 64) ≤ 0 then (lx_same_L328 y s144_0 kk n s373_0 v16 ((v17 + (-1))) uj373) else (lx_same_L328 y s144_0 kk n s373_0 y348 ((v17 + (-1))) uj373))) fun k373_ => if v11 = 0 then (k373_ 0 wu328) else (swnx (xx5_slideAt wu328 s144_0 v17) fun r360 w360 => if r360 = y348 then (k373_ 1 w360) else (k373_ 0 w360)))

def lx_same_L447 (y : lyU) (x1 : Int32) (s144_0 : Int32) (kk : Int32 → Int32 → swU → Option (Int32 × swU × lyU)) : Nat → Int32 → Int32 → swU → Option (Int32 × swU × lyU)
  | 0, _, _, _ => none
  | n + 1, v11, v17, wu447 => swrd 6 (y.1 8) 1 fun a452 => if a452 ≤ v17 then (kk v11 v17 wu447) else (if v11 = 0 then (kk v11 v17 wu447) else (swbd (lx_get y s144_0 v17) fun r467 => swbd (lx_low ((swshr x1 (((3 : Int32) + v17)))) 4) fun r479 => swnx (xx5_value wu447 s144_0 v17 r479) fun r491 w491 => swjn (fun (s512_0 : Int32) => if r491 = s512_0 then (lx_same_L447 y x1 s144_0 kk n 1 (v17 + 1) w491) else (lx_same_L447 y x1 s144_0 kk n 0 (v17 + 1) w491)) fun k512_ => if (lg_cmp r467 (0 : Int64)) = 0 then (k512_ (-1)) else (swbd (lx_value r467 r479) fun r509 => k512_ r509)))

def lx_same_L108 (y : lyU) (x1 : Int32) (kk : Int32 → Int32 → swU → Option (Int32 × swU × lyU)) : Nat → Int32 → Int32 → swU → Option (Int32 × swU × lyU)
  | 0, _, _, _ => none
  | n + 1, v11, v12, wu108 => if 3 ≤ v12 then (kk v11 v12 wu108) else (if v11 = 0 then (kk v11 v12 wu108) else (swjn (fun (s144_0 : Int32) => swbd (lx_all y s144_0) fun r156 => lx_same_L167 wu108 y s144_0 (fun v15 v16 => swnx (xx5_about wu108 s144_0 0) fun r199 w199 => swrd 21 (y.1 4) s144_0 fun a206 => swjn (fun (s320_0 : Int32) (uj320 : swU) => lx_same_L328 y s144_0 (fun v11 v16 v17 wu421 => swjn (fun (s442_0 : Int32) (uj442 : swU) => lx_same_L447 y x1 s144_0 (fun v11 v17 wu528 => lx_same_L108 y x1 kk n v11 (v12 + 1) wu528) 8 s442_0 0 uj442) fun k442_ => if v11 = 0 then (k442_ 0 wu421) else (swnx (xx5_firstBlock wu421 s144_0) fun r429 w429 => if r429 = v16 then (k442_ 1 w429) else (k442_ 0 w429))) 8 s320_0 (-1) 5 uj320) fun k320_ => if r199 = (a206 / 4096) then (swnx (xx5_about w199 s144_0 1) fun r218 w218 => swrd 21 (y.1 4) s144_0 fun a225 => if r218 = ((swrem a225 64) - 1) then (swnx (xx5_about w218 s144_0 2) fun r238 w238 => swrd 21 (y.1 4) s144_0 fun a245 => if r238 = ((swrem (a245 / 64) 64) - 1) then (swnx (xx5_about w238 s144_0 3) fun r261 w261 => swrd 21 (y.1 2) s144_0 fun a268 => swbd (lx_many a268) fun r269 => if r261 = r269 then (swnx (xx5_about w261 s144_0 4) fun r279 w279 => if r279 = v15 then (swnx (xx5_blocks w279 s144_0) fun r290 w290 => if r290 = (swrem r156 64) then (swnx (xx5_warnings w290 s144_0) fun r304 w304 => if r304 = (r156 / 64) then (k320_ 1 w304) else (k320_ 0 w304)) else (k320_ 0 w290)) else (k320_ 0 w279)) else (k320_ 0 w261)) else (k320_ 0 w238)) else (k320_ 0 w218)) else (k320_ 0 w199)) 64 0 0) fun k144_ => if v12 = 0 then (swrd 6 (y.1 8) 0 fun a127 => k144_ (a127 - 1)) else (swrd 6 (y.1 8) 0 fun a140 => swbd (lx_low (swshr x1 v12) a140) fun r141 => k144_ r141)))

def lx_same (u : swU) (y : lyU) (x1 : Int32) : Option (Int32 × swU × lyU) :=
  lx_same_L6 y (fun v11 v12 wu105 => lx_same_L108 y x1 (fun v11 v12 wu534 => swgd (decide (swZ v11 = v11)) <| some (v11, wu534, y)) 8 v11 0 wu105) 8 1 0 u

abbrev rmL_same : Room := { frames := 8, cells := 440, slots := 2640, locals := 136 }

set_option maxHeartbeats 4000000 in
set_option maxRecDepth 100000 in
theorem lm_same (l : Launch) (hst : l.stackTraces = false) (D : va_G) (cy : Nat → ClassId) (ad al : Nat → Nat) (hJ : lbJ ad al) (u : swU) (y : lyU) (x1 : Int32) (sz : Nat) (r0 : Int32) (u0 : swU) (y0 : lyU) (h : lx_same u y x1 = some (r0, u0, y0)) : Met l yL_same wsL_same rmL_same (lbC D cy ad al u y sz [.ref (ad 0), .int x1, .ref (al 0), .ref (al 1), .ref (al 2), .ref (al 3), .ref (al 4), .ref (al 5), .ref (al 6), .ref (al 7), .ref (al 8)]) (lbQ D cy ad al sz r0 u0 y0) 440 2640 (lbA ad al sz) := by
  refine Met.ofW (cc := cL_same) (maxL := 21) (ret := (some .boolean)) (by decide) rfl ?_
  intro p e s m args below meth c s₁ B hml hv
  obtain ⟨ha, hI, hK, hX, hNc, hsz⟩ := hv
  have hx := B.exec
  have hb := B.bytes
  have hr := B.returns
  have hlocks := B.notSynchronized
  have hts := atoms_spec (ws := wsL_same) B.pre
  have hown : s.vm.findClass RL = some m.cls := findClass_of_methodNamed B.named
  have E : CallFix p m c cL_same 21 s args wsL_same RL := ⟨hx, hb, hml, hown, hts⟩
  have hS : va_S (lbA ad al sz) s.heap s.heap [] := va_S.rf
  have hF : lbF s (lbA ad al sz) ad al := lbF_of hX hsz
  obtain ⟨ls, hl, hent⟩ := sw_entry m (n := 21) ha (Nat.le_of_ble_eq_true rfl)
  rw [hent]
  have hl : lv_has ls 21 [(0, .ref (ad 0)), (1, .int x1), (2, .ref (al 0)), (3, .ref (al 1)), (4, .ref (al 2)), (5, .ref (al 3)), (6, .ref (al 4)), (7, .ref (al 5)), (8, .ref (al 6)), (9, .ref (al 7)), (10, .ref (al 8))] := hl
  unfold lx_same at h
  refine lv_iconst (v := 1) hx hb dL_same_0 (by decide) ?_
  refine lv_istore (lv' := [(11, .int 1), (0, .ref (ad 0)), (1, .int x1), (2, .ref (al 0)), (3, .ref (al 1)), (4, .ref (al 2)), (5, .ref (al 3)), (6, .ref (al 4)), (7, .ref (al 5)), (8, .ref (al 6)), (9, .ref (al 7)), (10, .ref (al 8))]) hx hb dL_same_1 hl (by decide) rfl (fun ls hl => ?_)
  refine lv_iconst (v := 0) hx hb dL_same_3 (by decide) ?_
  refine lv_istore (lv' := [(12, .int 0), (11, .int 1), (0, .ref (ad 0)), (1, .int x1), (2, .ref (al 0)), (3, .ref (al 1)), (4, .ref (al 2)), (5, .ref (al 3)), (6, .ref (al 4)), (7, .ref (al 5)), (8, .ref (al 6)), (9, .ref (al 7)), (10, .ref (al 8))]) hx hb dL_same_4 hl (by decide) rfl (fun ls hl => ?_)
  have L6 : ∀ (kk : Int32 → Int32 → swU → Option (Int32 × swU × lyU)), (∀ (v11 : Int32) (v12 : Int32) (wu6 : swU) (H : Heap) (locs : List Loc) (ls : Array Slot), kk v11 v12 wu6 = some (r0, u0, y0) → lbI D cy ad al wu6 y H → va_S (lbA ad al sz) s.heap H locs → lv_has ls 21 [(0, .ref (ad 0)), (1, .int x1), (2, .ref (al 0)), (3, .ref (al 1)), (4, .ref (al 2)), (5, .ref (al 3)), (6, .ref (al 4)), (7, .ref (al 5)), (8, .ref (al 6)), (9, .ref (al 7)), (10, .ref (al 8)), (11, .int v11), (12, .int v12)] → W p l e (headSpec wsL_same rmL_same).room s m args below meth c H locs 16 96 (MQ below (lbQ D cy ad al sz r0 u0 y0) args s 440 2640 (lbA ad al sz)) (F0 m 105 ls [])) → ∀ (n : Nat) (v11 : Int32) (v12 : Int32) (wu6 : swU) (H : Heap) (locs : List Loc) (ls : Array Slot) (c6 t6 : Nat), (c6 + 2 * n ≤ 16 ∧ t6 + 12 * n ≤ 96) →  lx_same_L6 y kk n v11 v12 wu6 = some (r0, u0, y0) → lbI D cy ad al wu6 y H → va_S (lbA ad al sz) s.heap H locs → lv_has ls 21 [(0, .ref (ad 0)), (1, .int x1), (2, .ref (al 0)), (3, .ref (al 1)), (4, .ref (al 2)), (5, .ref (al 3)), (6, .ref (al 4)), (7, .ref (al 5)), (8, .ref (al 6)), (9, .ref (al 7)), (10, .ref (al 8)), (11, .int v11), (12, .int v12)] → W p l e (headSpec wsL_same rmL_same).room s m args below meth c H locs (c6 + 0) (t6 + 0) (MQ below (lbQ D cy ad al sz r0 u0 y0) args s 440 2640 (lbA ad al sz)) (F0 m 6 ls []) := by
    intro kk hk6 n
    induction n with
    | zero => intro v11 v12 wu6 H locs ls c6 t6 hc6 h hI hS hl; rw [lx_same_L6] at h; cases h
    | succ n ih6 =>
      intro v11 v12 wu6 H locs ls c6 t6 hc6 h hI hS hl
      rw [lx_same_L6] at h
      refine lv_iload hx hb dL_same_6 (lv_at hl 12 rfl) ?_
      refine lv_aload hx hb dL_same_8 (lv_at hl 10 rfl) ?_
      refine lv_iconst (v := 2) hx hb dL_same_10 (by decide) ?_
      obtain ⟨a11, ea11, ia11, h⟩ := swrd_s h
      refine ly_ald hx hb hK hI.2 (cd := 8) (by decide) rfl ia11 dL_same_11 ea11 ?_
      refine lv_icmp_ge (tgt := 105) hx hb dL_same_12 (by decide) (fun cc => ?_) (fun cc => ?_)
      · replace h := sw_t h cc
        refine W.widen (k := 16) (n := 96) (by omega) (by omega) ?_
        exact hk6 _ _ _ _ _ _ h hI hS (lv_sub hl [0, 1, 2, 3, 4, 5, 6, 7, 8, 9, 10, 11, 12] rfl)
      · replace h := sw_f h cc
        refine lv_iload hx hb dL_same_15 (lv_at hl 11 rfl) ?_
        refine lv_if_eq (tgt := 105) hx hb dL_same_17 (by decide) (fun cc => ?_) (fun cc => ?_)
        · replace h := sw_t h cc
          refine W.widen (k := 16) (n := 96) (by omega) (by omega) ?_
          exact hk6 _ _ _ _ _ _ h hI hS (lv_sub hl [0, 1, 2, 3, 4, 5, 6, 7, 8, 9, 10, 11, 12] rfl)
        · replace h := sw_f h cc
          refine lv_aload_n hx hb dL_same_20 rfl (lv_at hl 0 rfl) ?_
          refine lv_iload hx hb dL_same_21 (lv_at hl 12 rfl) ?_
          obtain ⟨r23, w23, er23, h⟩ := swnx_s h
          refine lb_x0 (As := [.int v12]) (rest := []) E (xm5_head l hst D cy ad hJ.1 wu6 v12 _ _ _ _ er23) (cwV 1 hts gL_same_X5_head rfl rfl rfl (by decide +kernel) ⟨Nat.le_of_ble_eq_true rfl, Nat.le_of_ble_eq_true rfl⟩) hK hJ hF hI hS ⟨by show _ ≤ 440; omega, by show _ ≤ 2640; omega⟩ rfl hl.1 rfl (Nat.le_of_ble_eq_true rfl) dL_same_23 (fun H locs hI hS => ?_)
          refine lv_aload hx hb dL_same_26 (lv_at hl 7 rfl) ?_
          refine lv_iload hx hb dL_same_28 (lv_at hl 12 rfl) ?_
          obtain ⟨a30, ea30, ia30, h⟩ := swrd_s h
          refine ly_ald hx hb hK hI.2 (cd := 5) (by decide) rfl ia30 dL_same_30 ea30 ?_
          refine lv_icmp_ne (tgt := 96) hx hb dL_same_31 (by decide) (fun cc => ?_) (fun cc => ?_)
          · replace h := sw_f h cc
            refine lv_iconst (v := 0) hx hb dL_same_96 (by decide) ?_
            refine lv_istore (lv' := [(11, .int 0), (0, .ref (ad 0)), (1, .int x1), (2, .ref (al 0)), (3, .ref (al 1)), (4, .ref (al 2)), (5, .ref (al 3)), (6, .ref (al 4)), (7, .ref (al 5)), (8, .ref (al 6)), (9, .ref (al 7)), (10, .ref (al 8)), (12, .int v12)]) hx hb dL_same_97 hl (by decide) rfl (fun ls hl => ?_)
            refine lv_iinc (v := (v12 + 1)) (lv' := [(12, .int (v12 + 1)), (11, .int 0), (0, .ref (ad 0)), (1, .int x1), (2, .ref (al 0)), (3, .ref (al 1)), (4, .ref (al 2)), (5, .ref (al 3)), (6, .ref (al 4)), (7, .ref (al 5)), (8, .ref (al 6)), (9, .ref (al 7)), (10, .ref (al 8))]) hx hb dL_same_99 hl (k := 12) rfl rfl (by decide) rfl (fun ls hl => ?_)
            refine lv_goto (tgt := 6) hx hb dL_same_102 (by decide) ?_
            exact ih6 _ _ _ _ _ _ _ _ ⟨by omega, by omega⟩ h hI hS (lv_sub hl [2, 3, 4, 5, 6, 7, 8, 9, 10, 11, 12, 1, 0] rfl)
          · replace h := sw_t h cc
            refine lv_aload_n hx hb dL_same_34 rfl (lv_at hl 0 rfl) ?_
            refine lv_iload hx hb dL_same_35 (lv_at hl 12 rfl) ?_
            obtain ⟨r37, w37, er37, h⟩ := swnx_s h
            refine lb_x0 (As := [.int v12]) (rest := []) E (xm5_shown l hst D cy ad hJ.1 w23 v12 _ _ _ _ er37) (cwV 1 hts gL_same_X5_shown rfl rfl rfl (by decide +kernel) ⟨Nat.le_of_ble_eq_true rfl, Nat.le_of_ble_eq_true rfl⟩) hK hJ hF hI hS ⟨by show _ ≤ 440; omega, by show _ ≤ 2640; omega⟩ rfl hl.1 rfl (Nat.le_of_ble_eq_true rfl) dL_same_37 (fun H locs hI hS => ?_)
            refine lv_aload hx hb dL_same_40 (lv_at hl 7 rfl) ?_
            refine lv_bipush (v := 6) hx hb dL_same_42 (by decide) ?_
            refine lv_iload hx hb dL_same_44 (lv_at hl 12 rfl) ?_
            refine lv_iadd hx hb dL_same_46 ?_
            obtain ⟨a47, ea47, ia47, h⟩ := swrd_s h
            refine ly_ald hx hb hK hI.2 (cd := 5) (by decide) rfl ia47 dL_same_47 ea47 ?_
            obtain ⟨k89_, ek89_, h⟩ := swjn_s h
            have J89 : ∀ (s89_0 : Int32) (H : Heap) (locs : List Loc) (ls : Array Slot), k89_ s89_0 = some (r0, u0, y0) → lbI D cy ad al w37 y H → va_S (lbA ad al sz) s.heap H locs → lv_has ls 21 [(0, .ref (ad 0)), (1, .int x1), (2, .ref (al 0)), (3, .ref (al 1)), (4, .ref (al 2)), (5, .ref (al 3)), (6, .ref (al 4)), (7, .ref (al 5)), (8, .ref (al 6)), (9, .ref (al 7)), (10, .ref (al 8)), (11, .int v11), (12, .int v12)] → W p l e (headSpec wsL_same rmL_same).room s m args below meth c H locs (c6 + 2) (t6 + 12) (MQ below (lbQ D cy ad al sz r0 u0 y0) args s 440 2640 (lbA ad al sz)) (F0 m 89 ls [.int s89_0, .int r37]) := by
              intro s89_0 H locs ls h hI hS hl
              rw [ek89_] at h
              refine lv_icmp_ne (tgt := 96) hx hb dL_same_89 (by decide) (fun cc => ?_) (fun cc => ?_)
              · replace h := sw_f h cc
                refine lv_iconst (v := 0) hx hb dL_same_96 (by decide) ?_
                refine lv_istore (lv' := [(11, .int 0), (0, .ref (ad 0)), (1, .int x1), (2, .ref (al 0)), (3, .ref (al 1)), (4, .ref (al 2)), (5, .ref (al 3)), (6, .ref (al 4)), (7, .ref (al 5)), (8, .ref (al 6)), (9, .ref (al 7)), (10, .ref (al 8)), (12, .int v12)]) hx hb dL_same_97 hl (by decide) rfl (fun ls hl => ?_)
                refine lv_iinc (v := (v12 + 1)) (lv' := [(12, .int (v12 + 1)), (11, .int 0), (0, .ref (ad 0)), (1, .int x1), (2, .ref (al 0)), (3, .ref (al 1)), (4, .ref (al 2)), (5, .ref (al 3)), (6, .ref (al 4)), (7, .ref (al 5)), (8, .ref (al 6)), (9, .ref (al 7)), (10, .ref (al 8))]) hx hb dL_same_99 hl (k := 12) rfl rfl (by decide) rfl (fun ls hl => ?_)
                refine lv_goto (tgt := 6) hx hb dL_same_102 (by decide) ?_
                exact ih6 _ _ _ _ _ _ _ _ ⟨by omega, by omega⟩ h hI hS (lv_sub hl [2, 3, 4, 5, 6, 7, 8, 9, 10, 11, 12, 1, 0] rfl)
              · replace h := sw_t h cc
                refine lv_iconst (v := 1) hx hb dL_same_92 (by decide) ?_
                refine lv_goto (tgt := 97) hx hb dL_same_93 (by decide) ?_
                refine lv_istore (lv' := [(11, .int 1), (0, .ref (ad 0)), (1, .int x1), (2, .ref (al 0)), (3, .ref (al 1)), (4, .ref (al 2)), (5, .ref (al 3)), (6, .ref (al 4)), (7, .ref (al 5)), (8, .ref (al 6)), (9, .ref (al 7)), (10, .ref (al 8)), (12, .int v12)]) hx hb dL_same_97 hl (by decide) rfl (fun ls hl => ?_)
                refine lv_iinc (v := (v12 + 1)) (lv' := [(12, .int (v12 + 1)), (11, .int 1), (0, .ref (ad 0)), (1, .int x1), (2, .ref (al 0)), (3, .ref (al 1)), (4, .ref (al 2)), (5, .ref (al 3)), (6, .ref (al 4)), (7, .ref (al 5)), (8, .ref (al 6)), (9, .ref (al 7)), (10, .ref (al 8))]) hx hb dL_same_99 hl (k := 12) rfl rfl (by decide) rfl (fun ls hl => ?_)
                refine lv_goto (tgt := 6) hx hb dL_same_102 (by decide) ?_
                exact ih6 _ _ _ _ _ _ _ _ ⟨by omega, by omega⟩ h hI hS (lv_sub hl [2, 3, 4, 5, 6, 7, 8, 9, 10, 11, 12, 1, 0] rfl)
            clear ek89_
            refine lv_if_eq (tgt := 75) hx hb dL_same_48 (by decide) (fun cc => ?_) (fun cc => ?_)
            · replace h := sw_t h cc
              refine lv_iconst (v := (-1)) hx hb dL_same_75 (by decide) ?_
              refine lv_goto (tgt := 89) hx hb dL_same_76 (by decide) ?_
              exact J89 _ _ _ _ h hI hS (lv_sub hl [0, 1, 2, 3, 4, 5, 6, 7, 8, 9, 10, 11, 12] rfl)
            · replace h := sw_f h cc
              refine lv_aload hx hb dL_same_51 (lv_at hl 7 rfl) ?_
              refine lv_bipush (v := 6) hx hb dL_same_53 (by decide) ?_
              refine lv_iload hx hb dL_same_55 (lv_at hl 12 rfl) ?_
              refine lv_iadd hx hb dL_same_57 ?_
              obtain ⟨a58, ea58, ia58, h⟩ := swrd_s h
              refine ly_ald hx hb hK hI.2 (cd := 5) (by decide) rfl ia58 dL_same_58 ea58 ?_
              refine lv_iconst (v := 1) hx hb dL_same_59 (by decide) ?_
              refine lv_isub hx hb dL_same_60 ?_
              refine lv_aload_n hx hb dL_same_61 rfl (lv_at hl 2 rfl) ?_
              refine lv_aload_n hx hb dL_same_62 rfl (lv_at hl 3 rfl) ?_
              refine lv_aload hx hb dL_same_63 (lv_at hl 8 rfl) ?_
              refine lv_aload hx hb dL_same_65 (lv_at hl 9 rfl) ?_
              refine lv_aload hx hb dL_same_67 (lv_at hl 10 rfl) ?_
              obtain ⟨r69, er69, h⟩ := swbd_s h
              refine ly_roS (As := [.int (a58 - 1), .ref (al 0), .ref (al 1), .ref (al 6), .ref (al 7), .ref (al 8)]) (rest := [.int r37]) E (lm_blocked l D cy al y (a58 - 1) _ er69) (va_cwS 6 hts gL_same_L_blocked rfl rfl rfl (by decide +kernel) ⟨Nat.le_of_ble_eq_true rfl, Nat.le_of_ble_eq_true rfl⟩) hK hI.2 ⟨by show _ ≤ 440; omega, by show _ ≤ 2640; omega⟩ rfl hl.1 rfl (Nat.le_of_ble_eq_true rfl) dL_same_69 ?_
              refine lv_if_eq (tgt := 79) hx hb dL_same_72 (by decide) (fun cc => ?_) (fun cc => ?_)
              · replace h := sw_t h cc
                refine lv_aload hx hb dL_same_79 (lv_at hl 7 rfl) ?_
                refine lv_bipush (v := 6) hx hb dL_same_81 (by decide) ?_
                refine lv_iload hx hb dL_same_83 (lv_at hl 12 rfl) ?_
                refine lv_iadd hx hb dL_same_85 ?_
                obtain ⟨a86, ea86, ia86, h⟩ := swrd_s h
                refine ly_ald hx hb hK hI.2 (cd := 5) (by decide) rfl ia86 dL_same_86 ea86 ?_
                refine lv_iconst (v := 1) hx hb dL_same_87 (by decide) ?_
                refine lv_isub hx hb dL_same_88 ?_
                exact J89 _ _ _ _ h hI hS (lv_sub hl [0, 1, 2, 3, 4, 5, 6, 7, 8, 9, 10, 11, 12] rfl)
              · replace h := sw_f h cc
                refine lv_iconst (v := (-1)) hx hb dL_same_75 (by decide) ?_
                refine lv_goto (tgt := 89) hx hb dL_same_76 (by decide) ?_
                exact J89 _ _ _ _ h hI hS (lv_sub hl [0, 1, 2, 3, 4, 5, 6, 7, 8, 9, 10, 11, 12] rfl)
  refine L6 _ (fun v11 v12 wu105 H locs ls h hI hS hl => ?_) 8 _ _ _ _ _ _ _ _ ⟨by omega, by omega⟩ h hI hS (lv_sub hl [2, 3, 4, 5, 6, 7, 8, 9, 10, 11, 12, 1, 0] rfl)
  refine lv_iconst (v := 0) hx hb dL_same_105 (by decide) ?_
  refine lv_istore (lv' := [(12, .int 0), (0, .ref (ad 0)), (1, .int x1), (2, .ref (al 0)), (3, .ref (al 1)), (4, .ref (al 2)), (5, .ref (al 3)), (6, .ref (al 4)), (7, .ref (al 5)), (8, .ref (al 6)), (9, .ref (al 7)), (10, .ref (al 8)), (11, .int v11)]) hx hb dL_same_106 hl (by decide) rfl (fun ls hl => ?_)
  have L108 : ∀ (kk : Int32 → Int32 → swU → Option (Int32 × swU × lyU)), (∀ (v11 : Int32) (v12 : Int32) (wu108 : swU) (H : Heap) (locs : List Loc) (ls : Array Slot), kk v11 v12 wu108 = some (r0, u0, y0) → lbI D cy ad al wu108 y H → va_S (lbA ad al sz) s.heap H locs → lv_has ls 21 [(0, .ref (ad 0)), (1, .int x1), (2, .ref (al 0)), (3, .ref (al 1)), (4, .ref (al 2)), (5, .ref (al 3)), (6, .ref (al 4)), (7, .ref (al 5)), (8, .ref (al 6)), (9, .ref (al 7)), (10, .ref (al 8)), (11, .int v11), (12, .int v12)] → W p l e (headSpec wsL_same rmL_same).room s m args below meth c H locs 440 2640 (MQ below (lbQ D cy ad al sz r0 u0 y0) args s 440 2640 (lbA ad al sz)) (F0 m 534 ls [])) → ∀ (n : Nat) (v11 : Int32) (v12 : Int32) (wu108 : swU) (H : Heap) (locs : List Loc) (ls : Array Slot) (c108 t108 : Nat), (c108 + 53 * n ≤ 440 ∧ t108 + 318 * n ≤ 2640) →  lx_same_L108 y x1 kk n v11 v12 wu108 = some (r0, u0, y0) → lbI D cy ad al wu108 y H → va_S (lbA ad al sz) s.heap H locs → lv_has ls 21 [(0, .ref (ad 0)), (1, .int x1), (2, .ref (al 0)), (3, .ref (al 1)), (4, .ref (al 2)), (5, .ref (al 3)), (6, .ref (al 4)), (7, .ref (al 5)), (8, .ref (al 6)), (9, .ref (al 7)), (10, .ref (al 8)), (11, .int v11), (12, .int v12)] → W p l e (headSpec wsL_same rmL_same).room s m args below meth c H locs (c108 + 0) (t108 + 0) (MQ below (lbQ D cy ad al sz r0 u0 y0) args s 440 2640 (lbA ad al sz)) (F0 m 108 ls []) := by
    intro kk hk108 n
    induction n with
    | zero => intro v11 v12 wu108 H locs ls c108 t108 hc108 h hI hS hl; rw [lx_same_L108] at h; cases h
    | succ n ih108 =>
      intro v11 v12 wu108 H locs ls c108 t108 hc108 h hI hS hl
      rw [lx_same_L108] at h
      refine lv_iload hx hb dL_same_108 (lv_at hl 12 rfl) ?_
      refine lv_iconst (v := 3) hx hb dL_same_110 (by decide) ?_
      refine lv_icmp_ge (tgt := 534) hx hb dL_same_111 (by decide) (fun cc => ?_) (fun cc => ?_)
      · replace h := sw_t h cc
        refine W.widen (k := 440) (n := 2640) (by omega) (by omega) ?_
        exact hk108 _ _ _ _ _ _ h hI hS (lv_sub hl [0, 1, 2, 3, 4, 5, 6, 7, 8, 9, 10, 11, 12] rfl)
      · replace h := sw_f h cc
        refine lv_iload hx hb dL_same_114 (lv_at hl 11 rfl) ?_
        refine lv_if_eq (tgt := 534) hx hb dL_same_116 (by decide) (fun cc => ?_) (fun cc => ?_)
        · replace h := sw_t h cc
          refine W.widen (k := 440) (n := 2640) (by omega) (by omega) ?_
          exact hk108 _ _ _ _ _ _ h hI hS (lv_sub hl [0, 1, 2, 3, 4, 5, 6, 7, 8, 9, 10, 11, 12] rfl)
        · replace h := sw_f h cc
          refine lv_iload hx hb dL_same_119 (lv_at hl 12 rfl) ?_
          obtain ⟨k144_, ek144_, h⟩ := swjn_s h
          have J144 : ∀ (s144_0 : Int32) (H : Heap) (locs : List Loc) (ls : Array Slot), k144_ s144_0 = some (r0, u0, y0) → lbI D cy ad al wu108 y H → va_S (lbA ad al sz) s.heap H locs → lv_has ls 21 [(0, .ref (ad 0)), (1, .int x1), (2, .ref (al 0)), (3, .ref (al 1)), (4, .ref (al 2)), (5, .ref (al 3)), (6, .ref (al 4)), (7, .ref (al 5)), (8, .ref (al 6)), (9, .ref (al 7)), (10, .ref (al 8)), (11, .int v11), (12, .int v12)] → W p l e (headSpec wsL_same rmL_same).room s m args below meth c H locs (c108 + 0) (t108 + 0) (MQ below (lbQ D cy ad al sz r0 u0 y0) args s 440 2640 (lbA ad al sz)) (F0 m 144 ls [.int s144_0]) := by
            intro s144_0 H locs ls h hI hS hl
            rw [ek144_] at h
            refine lv_istore (lv' := [(13, .int s144_0), (0, .ref (ad 0)), (1, .int x1), (2, .ref (al 0)), (3, .ref (al 1)), (4, .ref (al 2)), (5, .ref (al 3)), (6, .ref (al 4)), (7, .ref (al 5)), (8, .ref (al 6)), (9, .ref (al 7)), (10, .ref (al 8)), (11, .int v11), (12, .int v12)]) hx hb dL_same_144 hl (by decide) rfl (fun ls hl => ?_)
            refine lv_iload hx hb dL_same_146 (lv_at hl 0 rfl) ?_
            refine lv_aload_n hx hb dL_same_148 rfl (lv_at hl 3 rfl) ?_
            refine lv_aload_n hx hb dL_same_149 rfl (lv_at hl 4 rfl) ?_
            refine lv_aload hx hb dL_same_150 (lv_at hl 9 rfl) ?_
            refine lv_aload hx hb dL_same_152 (lv_at hl 10 rfl) ?_
            refine lv_aload hx hb dL_same_154 (lv_at hl 11 rfl) ?_
            obtain ⟨r156, er156, h⟩ := swbd_s h
            refine ly_roS (As := [.int s144_0, .ref (al 0), .ref (al 1), .ref (al 6), .ref (al 7), .ref (al 8)]) (rest := []) E (lm_all l D cy al y s144_0 _ er156) (va_cwS 6 hts gL_same_L_all rfl rfl rfl (by decide +kernel) ⟨Nat.le_of_ble_eq_true rfl, Nat.le_of_ble_eq_true rfl⟩) hK hI.2 ⟨by show _ ≤ 440; omega, by show _ ≤ 2640; omega⟩ rfl hl.1 rfl (Nat.le_of_ble_eq_true rfl) dL_same_156 ?_
            refine lv_istore (lv' := [(14, .int r156), (13, .int s144_0), (0, .ref (ad 0)), (1, .int x1), (2, .ref (al 0)), (3, .ref (al 1)), (4, .ref (al 2)), (5, .ref (al 3)), (6, .ref (al 4)), (7, .ref (al 5)), (8, .ref (al 6)), (9, .ref (al 7)), (10, .ref (al 8)), (11, .int v11), (12, .int v12)]) hx hb dL_same_159 hl (by decide) rfl (fun ls hl => ?_)
            refine lv_iconst (v := 0) hx hb dL_same_161 (by decide) ?_
            refine lv_istore (lv' := [(15, .int 0), (14, .int r156), (13, .int s144_0), (0, .ref (ad 0)), (1, .int x1), (2, .ref (al 0)), (3, .ref (al 1)), (4, .ref (al 2)), (5, .ref (al 3)), (6, .ref (al 4)), (7, .ref (al 5)), (8, .ref (al 6)), (9, .ref (al 7)), (10, .ref (al 8)), (11, .int v11), (12, .int v12)]) hx hb dL_same_162 hl (by decide) rfl (fun ls hl => ?_)
            refine lv_iconst (v := 0) hx hb dL_same_164 (by decide) ?_
            refine lv_istore (lv' := [(16, .int 0), (15, .int 0), (14, .int r156), (13, .int s144_0), (0, .ref (ad 0)), (1, .int x1), (2, .ref (al 0)), (3, .ref (al 1)), (4, .ref (al 2)), (5, .ref (al 3)), (6, .ref (al 4)), (7, .ref (al 5)), (8, .ref (al 6)), (9, .ref (al 7)), (10, .ref (al 8)), (11, .int v11), (12, .int v12)]) hx hb dL_same_165 hl (by decide) rfl (fun ls hl => ?_)
            have L167 : ∀ (kk : Int32 → Int32 → Option (Int32 × swU × lyU)), (∀ (v15 : Int32) (v16 : Int32) (H : Heap) (locs : List Loc) (ls : Array Slot), kk v15 v16 = some (r0, u0, y0) → lbI D cy ad al wu108 y H → va_S (lbA ad al sz) s.heap H locs → lv_has ls 21 [(0, .ref (ad 0)), (1, .int x1), (2, .ref (al 0)), (3, .ref (al 1)), (4, .ref (al 2)), (5, .ref (al 3)), (6, .ref (al 4)), (7, .ref (al 5)), (8, .ref (al 6)), (9, .ref (al 7)), (10, .ref (al 8)), (11, .int v11), (12, .int v12), (13, .int s144_0), (14, .int r156), (15, .int v15), (16, .int v16)] → W p l e (headSpec wsL_same rmL_same).room s m args below meth c H locs (c108 + 0) (t108 + 0) (MQ below (lbQ D cy ad al sz r0 u0 y0) args s 440 2640 (lbA ad al sz)) (F0 m 195 ls [])) → ∀ (n : Nat) (v15 : Int32) (v16 : Int32) (H : Heap) (locs : List Loc) (ls : Array Slot), lx_same_L167 wu108 y s144_0 kk n v15 v16 = some (r0, u0, y0) → lbI D cy ad al wu108 y H → va_S (lbA ad al sz) s.heap H locs → lv_has ls 21 [(0, .ref (ad 0)), (1, .int x1), (2, .ref (al 0)), (3, .ref (al 1)), (4, .ref (al 2)), (5, .ref (al 3)), (6, .ref (al 4)), (7, .ref (al 5)), (8, .ref (al 6)), (9, .ref (al 7)), (10, .ref (al 8)), (11, .int v11), (12, .int v12), (13, .int s144_0), (14, .int r156), (15, .int v15), (16, .int v16)] → W p l e (headSpec wsL_same rmL_same).room s m args below meth c H locs (c108 + 0) (t108 + 0) (MQ below (lbQ D cy ad al sz r0 u0 y0) args s 440 2640 (lbA ad al sz)) (F0 m 167 ls []) := by
              intro kk hk167 n
              induction n with
              | zero => intro v15 v16 H locs ls h hI hS hl; rw [lx_same_L167] at h; cases h
              | succ n ih167 =>
                intro v15 v16 H locs ls h hI hS hl
                rw [lx_same_L167] at h
                refine lv_iload hx hb dL_same_167 (lv_at hl 16 rfl) ?_
                refine lv_bipush (v := 21) hx hb dL_same_169 (by decide) ?_
                refine lv_icmp_ge (tgt := 195) hx hb dL_same_171 (by decide) (fun cc => ?_) (fun cc => ?_)
                · replace h := sw_t h cc
                  exact hk167 _ _ _ _ _ h hI hS (lv_sub hl [0, 1, 2, 3, 4, 5, 6, 7, 8, 9, 10, 11, 12, 13, 14, 15, 16] rfl)
                · replace h := sw_f h cc
                  refine lv_iload hx hb dL_same_174 (lv_at hl 15 rfl) ?_
                  refine lv_aload hx hb dL_same_176 (lv_at hl 5 rfl) ?_
                  refine lv_iload hx hb dL_same_178 (lv_at hl 13 rfl) ?_
                  obtain ⟨a180, ea180, ia180, h⟩ := swrd_s h
                  refine ly_ald hx hb hK hI.2 (cd := 3) (by decide) rfl ia180 dL_same_180 ea180 ?_
                  refine lv_iload hx hb dL_same_181 (lv_at hl 16 rfl) ?_
                  refine lv_ishr hx hb dL_same_183 ?_
                  refine sw_top (x := swshr a180 v16) rfl ?_
                  refine lv_iconst (v := 1) hx hb dL_same_184 (by decide) ?_
                  refine lv_iand hx hb dL_same_185 ?_
                  refine lv_iadd hx hb dL_same_186 ?_
                  obtain ⟨y187, ey187, h⟩ := swlt_s h
                  refine sw_top ey187 ?_
                  refine lv_istore (lv' := [(15, .int y187), (0, .ref (ad 0)), (1, .int x1), (2, .ref (al 0)), (3, .ref (al 1)), (4, .ref (al 2)), (5, .ref (al 3)), (6, .ref (al 4)), (7, .ref (al 5)), (8, .ref (al 6)), (9, .ref (al 7)), (10, .ref (al 8)), (11, .int v11), (12, .int v12), (13, .int s144_0), (14, .int r156), (16, .int v16)]) hx hb dL_same_187 hl (by decide) rfl (fun ls hl => ?_)
                  refine lv_iinc (v := (v16 + 1)) (lv' := [(16, .int (v16 + 1)), (15, .int y187), (0, .ref (ad 0)), (1, .int x1), (2, .ref (al 0)), (3, .ref (al 1)), (4, .ref (al 2)), (5, .ref (al 3)), (6, .ref (al 4)), (7, .ref (al 5)), (8, .ref (al 6)), (9, .ref (al 7)), (10, .ref (al 8)), (11, .int v11), (12, .int v12), (13, .int s144_0), (14, .int r156)]) hx hb dL_same_189 hl (k := 16) rfl rfl (by decide) rfl (fun ls hl => ?_)
                  refine lv_goto (tgt := 167) hx hb dL_same_192 (by decide) ?_
                  exact ih167 _ _ _ _ _ h hI hS (lv_sub hl [2, 3, 4, 5, 6, 7, 8, 9, 10, 11, 12, 13, 14, 15, 16, 1, 0] rfl)
            refine L167 _ (fun v15 v16 H locs ls h hI hS hl => ?_) 64 _ _ _ _ _ h hI hS (lv_sub hl [4, 5, 6, 7, 8, 9, 10, 11, 12, 13, 14, 15, 16, 3, 2, 1, 0] rfl)
            refine lv_aload_n hx hb dL_same_195 rfl (lv_at hl 0 rfl) ?_
            refine lv_iload hx hb dL_same_196 (lv_at hl 13 rfl) ?_
            refine lv_iconst (v := 0) hx hb dL_same_198 (by decide) ?_
            obtain ⟨r199, w199, er199, h⟩ := swnx_s h
            refine lb_x0 (As := [.int s144_0, .int 0]) (rest := []) E (xm5_about l hst D cy ad hJ.1 wu108 s144_0 0 _ _ _ _ er199) (cwV 2 hts gL_same_X5_about rfl rfl rfl (by decide +kernel) ⟨Nat.le_of_ble_eq_true rfl, Nat.le_of_ble_eq_true rfl⟩) hK hJ hF hI hS ⟨by show _ ≤ 440; omega, by show _ ≤ 2640; omega⟩ rfl hl.1 rfl (Nat.le_of_ble_eq_true rfl) dL_same_199 (fun H locs hI hS => ?_)
            refine lv_aload hx hb dL_same_202 (lv_at hl 6 rfl) ?_
            refine lv_iload hx hb dL_same_204 (lv_at hl 13 rfl) ?_
            obtain ⟨a206, ea206, ia206, h⟩ := swrd_s h
            refine ly_ald hx hb hK hI.2 (cd := 4) (by decide) rfl ia206 dL_same_206 ea206 ?_
            refine lv_sipush (v := 4096) hx hb dL_same_207 (by decide) ?_
            refine lv_idiv hx hb dL_same_210 (by decide) ?_
            obtain ⟨k320_, ek320_, h⟩ := swjn_s h
            have J320 : ∀ (s320_0 : Int32) (uj320 : swU) (H : Heap) (locs : List Loc) (ls : Array Slot), k320_ s320_0 uj320 = some (r0, u0, y0) → lbI D cy ad al uj320 y H → va_S (lbA ad al sz) s.heap H locs → lv_has ls 21 [(0, .ref (ad 0)), (1, .int x1), (2, .ref (al 0)), (3, .ref (al 1)), (4, .ref (al 2)), (5, .ref (al 3)), (6, .ref (al 4)), (7, .ref (al 5)), (8, .ref (al 6)), (9, .ref (al 7)), (10, .ref (al 8)), (11, .int v11), (12, .int v12), (13, .int s144_0), (14, .int r156), (15, .int v15), (16, .int v16)] → W p l e (headSpec wsL_same rmL_same).room s m args below meth c H locs (c108 + 12) (t108 + 72) (MQ below (lbQ D cy ad al sz r0 u0 y0) args s 440 2640 (lbA ad al sz)) (F0 m 320 ls [.int s320_0]) := by
              intro s320_0 uj320 H locs ls h hI hS hl
              rw [ek320_] at h
              refine lv_istore (lv' := [(11, .int s320_0), (0, .ref (ad 0)), (1, .int x1), (2, .ref (al 0)), (3, .ref (al 1)), (4, .ref (al 2)), (5, .ref (al 3)), (6, .ref (al 4)), (7, .ref (al 5)), (8, .ref (al 6)), (9, .ref (al 7)), (10, .ref (al 8)), (12, .int v12), (13, .int s144_0), (14, .int r156), (15, .int v15), (16, .int v16)]) hx hb dL_same_320 hl (by decide) rfl (fun ls hl => ?_)
              refine lv_iconst (v := (-1)) hx hb dL_same_322 (by decide) ?_
              refine lv_istore (lv' := [(16, .int (-1)), (11, .int s320_0), (0, .ref (ad 0)), (1, .int x1), (2, .ref (al 0)), (3, .ref (al 1)), (4, .ref (al 2)), (5, .ref (al 3)), (6, .ref (al 4)), (7, .ref (al 5)), (8, .ref (al 6)), (9, .ref (al 7)), (10, .ref (al 8)), (12, .int v12), (13, .int s144_0), (14, .int r156), (15, .int v15)]) hx hb dL_same_323 hl (by decide) rfl (fun ls hl => ?_)
              refine lv_iconst (v := 5) hx hb dL_same_325 (by decide) ?_
              refine lv_istore (lv' := [(17, .int 5), (16, .int (-1)), (11, .int s320_0), (0, .ref (ad 0)), (1, .int x1), (2, .ref (al 0)), (3, .ref (al 1)), (4, .ref (al 2)), (5, .ref (al 3)), (6, .ref (al 4)), (7, .ref (al 5)), (8, .ref (al 6)), (9, .ref (al 7)), (10, .ref (al 8)), (12, .int v12), (13, .int s144_0), (14, .int r156), (15, .int v15)]) hx hb dL_same_326 hl (by decide) rfl (fun ls hl => ?_)
              have L328 : ∀ (kk : Int32 → Int32 → Int32 → swU → Option (Int32 × swU × lyU)), (∀ (v11 : Int32) (v16 : Int32) (v17 : Int32) (wu328 : swU) (H : Heap) (locs : List Loc) (ls : Array Slot), kk v11 v16 v17 wu328 = some (r0, u0, y0) → lbI D cy ad al wu328 y H → va_S (lbA ad al sz) s.heap H locs → lv_has ls 21 [(0, .ref (ad 0)), (1, .int x1), (2, .ref (al 0)), (3, .ref (al 1)), (4, .ref (al 2)), (5, .ref (al 3)), (6, .ref (al 4)), (7, .ref (al 5)), (8, .ref (al 6)), (9, .ref (al 7)), (10, .ref (al 8)), (11, .int v11), (12, .int v12), (13, .int s144_0), (14, .int r156), (15, .int v15), (16, .int v16), (17, .int v17)] → W p l e (headSpec wsL_same rmL_same).room s m args below meth c H locs (c108 + 28) (t108 + 168) (MQ below (lbQ D cy ad al sz r0 u0 y0) args s 440 2640 (lbA ad al sz)) (F0 m 421 ls [])) → ∀ (n : Nat) (v11 : Int32) (v16 : Int32) (v17 : Int32) (wu328 : swU) (H : Heap) (locs : List Loc) (ls : Array Slot) (c328 t328 : Nat), (c328 + 2 * n ≤ (c108 + 28) ∧ t328 + 12 * n ≤ (t108 + 168)) →  lx_same_L328 y s144_0 kk n v11 v16 v17 wu328 = some (r0, u0, y0) → lbI D cy ad al wu328 y H → va_S (lbA ad al sz) s.heap H locs → lv_has ls 21 [(0, .ref (ad 0)), (1, .int x1), (2, .ref (al 0)), (3, .ref (al 1)), (4, .ref (al 2)), (5, .ref (al 3)), (6, .ref (al 4)), (7, .ref (al 5)), (8, .ref (al 6)), (9, .ref (al 7)), (10, .ref (al 8)), (11, .int v11), (12, .int v12), (13, .int s144_0), (14, .int r156), (15, .int v15), (16, .int v16), (17, .int v17)] → W p l e (headSpec wsL_same rmL_same).room s m args below meth c H locs (c328 + 0) (t328 + 0) (MQ below (lbQ D cy ad al sz r0 u0 y0) args s 440 2640 (lbA ad al sz)) (F0 m 328 ls []) := by
                intro kk hk328 n
                induction n with
                | zero => intro v11 v16 v17 wu328 H locs ls c328 t328 hc328 h hI hS hl; rw [lx_same_L328] at h; cases h
                | succ n ih328 =>
                  intro v11 v16 v17 wu328 H locs ls c328 t328 hc328 h hI hS hl
                  rw [lx_same_L328] at h
                  refine lv_iload hx hb dL_same_328 (lv_at hl 17 rfl) ?_
                  refine lv_if_lt (tgt := 421) hx hb dL_same_330 (by decide) (fun cc => ?_) (fun cc => ?_)
                  · replace h := sw_t h cc
                    refine W.widen (k := (c108 + 28)) (n := (t108 + 168)) (by omega) (by omega) ?_
                    exact hk328 _ _ _ _ _ _ _ h hI hS (lv_sub hl [0, 1, 2, 3, 4, 5, 6, 7, 8, 9, 10, 11, 12, 13, 14, 15, 16, 17] rfl)
                  · replace h := sw_f h cc
                    refine lv_aload hx hb dL_same_333 (lv_at hl 4 rfl) ?_
                    refine lv_iload hx hb dL_same_335 (lv_at hl 13 rfl) ?_
                    obtain ⟨a337, ea337, ia337, h⟩ := swrd_s h
                    refine ly_ald hx hb hK hI.2 (cd := 2) (by decide) rfl ia337 dL_same_337 ea337 ?_
                    refine lv_iconst (v := 3) hx hb dL_same_338 (by decide) ?_
                    refine lv_iload hx hb dL_same_339 (lv_at hl 17 rfl) ?_
                    refine lv_imul hx hb dL_same_341 ?_
                    refine lv_ishr hx hb dL_same_342 ?_
                    refine sw_top (x := swshr a337 (((3 : Int32) * v17))) rfl ?_
                    refine lv_bipush (v := 8) hx hb dL_same_343 (by decide) ?_
                    refine lv_irem hx hb dL_same_345 (by decide) ?_
                    refine sw_top (x := swrem ((swshr a337 (((3 : Int32) * v17)))) 8) rfl ?_
                    refine lv_iconst (v := 1) hx hb dL_same_346 (by decide) ?_
                    refine lv_isub hx hb dL_same_347 ?_
                    obtain ⟨y348, ey348, h⟩ := swlt_s h
                    refine sw_top ey348 ?_
                    refine lv_istore (lv' := [(18, .int y348), (0, .ref (ad 0)), (1, .int x1), (2, .ref (al 0)), (3, .ref (al 1)), (4, .ref (al 2)), (5, .ref (al 3)), (6, .ref (al 4)), (7, .ref (al 5)), (8, .ref (al 6)), (9, .ref (al 7)), (10, .ref (al 8)), (11, .int v11), (12, .int v12), (13, .int s144_0), (14, .int r156), (15, .int v15), (16, .int v16), (17, .int v17)]) hx hb dL_same_348 hl (by decide) rfl (fun ls hl => ?_)
                    refine lv_iload hx hb dL_same_350 (lv_at hl 12 rfl) ?_
                    obtain ⟨k373_, ek373_, h⟩ := swjn_s h
                    have J373 : ∀ (s373_0 : Int32) (uj373 : swU) (H : Heap) (locs : List Loc) (ls : Array Slot), k373_ s373_0 uj373 = some (r0, u0, y0) → lbI D cy ad al uj373 y H → va_S (lbA ad al sz) s.heap H locs → lv_has ls 21 [(0, .ref (ad 0)), (1, .int x1), (2, .ref (al 0)), (3, .ref (al 1)), (4, .ref (al 2)), (5, .ref (al 3)), (6, .ref (al 4)), (7, .ref (al 5)), (8, .ref (al 6)), (9, .ref (al 7)), (10, .ref (al 8)), (11, .int v11), (12, .int v12), (13, .int s144_0), (14, .int r156), (15, .int v15), (16, .int v16), (17, .int v17), (18, .int y348)] → W p l e (headSpec wsL_same rmL_same).room s m args below meth c H locs (c328 + 2) (t328 + 12) (MQ below (lbQ D cy ad al sz r0 u0 y0) args s 440 2640 (lbA ad al sz)) (F0 m 373 ls [.int s373_0]) := by
                      intro s373_0 uj373 H locs ls h hI hS hl
                      rw [ek373_] at h
                      refine lv_istore (lv' := [(11, .int s373_0), (0, .ref (ad 0)), (1, .int x1), (2, .ref (al 0)), (3, .ref (al 1)), (4, .ref (al 2)), (5, .ref (al 3)), (6, .ref (al 4)), (7, .ref (al 5)), (8, .ref (al 6)), (9, .ref (al 7)), (10, .ref (al 8)), (12, .int v12), (13, .int s144_0), (14, .int r156), (15, .int v15), (16, .int v16), (17, .int v17), (18, .int y348)]) hx hb dL_same_373 hl (by decide) rfl (fun ls hl => ?_)
                      refine lv_iload hx hb dL_same_375 (lv_at hl 18 rfl) ?_
                      refine lv_if_lt (tgt := 411) hx hb dL_same_377 (by decide) (fun cc => ?_) (fun cc => ?_)
                      · replace h := sw_t h cc
                        refine lv_iload hx hb dL_same_411 (lv_at hl 16 rfl) ?_
                        refine lv_istore (lv' := [(16, .int v16), (11, .int s373_0), (0, .ref (ad 0)), (1, .int x1), (2, .ref (al 0)), (3, .ref (al 1)), (4, .ref (al 2)), (5, .ref (al 3)), (6, .ref (al 4)), (7, .ref (al 5)), (8, .ref (al 6)), (9, .ref (al 7)), (10, .ref (al 8)), (12, .int v12), (13, .int s144_0), (14, .int r156), (15, .int v15), (17, .int v17), (18, .int y348)]) hx hb dL_same_413 hl (by decide) rfl (fun ls hl => ?_)
                        refine lv_iinc (v := (v17 + (-1))) (lv' := [(17, .int ((v17 + (-1)))), (16, .int v16), (11, .int s373_0), (0, .ref (ad 0)), (1, .int x1), (2, .ref (al 0)), (3, .ref (al 1)), (4, .ref (al 2)), (5, .ref (al 3)), (6, .ref (al 4)), (7, .ref (al 5)), (8, .ref (al 6)), (9, .ref (al 7)), (10, .ref (al 8)), (12, .int v12), (13, .int s144_0), (14, .int r156), (15, .int v15), (18, .int y348)]) hx hb dL_same_415 hl (k := 17) rfl rfl (by decide) rfl (fun ls hl => ?_)
                        refine lv_goto (tgt := 328) hx hb dL_same_418 (by decide) ?_
                        exact ih328 _ _ _ _ _ _ _ _ _ ⟨by omega, by omega⟩ h hI hS (lv_sub hl [3, 4, 5, 6, 7, 8, 9, 10, 11, 12, 13, 2, 14, 15, 16, 17, 1, 0] rfl)
                      · replace h := sw_f h cc
                        refine lv_iload hx hb dL_same_380 (lv_at hl 18 rfl) ?_
                        refine lv_iload hx hb dL_same_382 (lv_at hl 13 rfl) ?_
                        refine lv_iload hx hb dL_same_384 (lv_at hl 18 rfl) ?_
                        refine lv_aload_n hx hb dL_same_386 rfl (lv_at hl 3 rfl) ?_
                        refine lv_aload_n hx hb dL_same_387 rfl (lv_at hl 4 rfl) ?_
                        obtain ⟨r388, er388, h⟩ := swbd_s h
                        refine ly_roL (As := [.int s144_0, .int y348, .ref (al 0), .ref (al 1)]) (rest := [.int y348]) E (lm_get l D cy al y s144_0 y348 _ er388) (va_cwS 4 hts gL_same_L_get rfl rfl rfl (by decide +kernel) ⟨Nat.le_of_ble_eq_true rfl, Nat.le_of_ble_eq_true rfl⟩) hK hI.2 ⟨by show _ ≤ 440; omega, by show _ ≤ 2640; omega⟩ rfl hl.1 rfl (Nat.le_of_ble_eq_true rfl) dL_same_388 ?_
                        refine lv_aload hx hb dL_same_391 (lv_at hl 9 rfl) ?_
                        refine lv_aload hx hb dL_same_393 (lv_at hl 10 rfl) ?_
                        refine lv_aload hx hb dL_same_395 (lv_at hl 11 rfl) ?_
                        obtain ⟨r397, er397, h⟩ := swbd_s h
                        refine ly_roS (As := [.int y348, .long r388, .ref (al 6), .ref (al 7), .ref (al 8)]) (rest := []) E (lm_blocks l D cy al y y348 r388 _ er397) (va_cwS 5 hts gL_same_L_blocks rfl rfl rfl (by decide +kernel) ⟨Nat.le_of_ble_eq_true rfl, Nat.le_of_ble_eq_true rfl⟩) hK hI.2 ⟨by show _ ≤ 440; omega, by show _ ≤ 2640; omega⟩ rfl hl.1 rfl (Nat.le_of_ble_eq_true rfl) dL_same_397 ?_
                        refine lv_bipush (v := 64) hx hb dL_same_400 (by decide) ?_
                        refine lv_irem hx hb dL_same_402 (by decide) ?_
                        refine sw_top (x := swrem r397 64) rfl ?_
                        refine lv_if_le (tgt := 411) hx hb dL_same_403 (by decide) (fun cc => ?_) (fun cc => ?_)
                        · replace h := sw_t h cc
                          refine lv_iload hx hb dL_same_411 (lv_at hl 16 rfl) ?_
                          refine lv_istore (lv' := [(16, .int v16), (11, .int s373_0), (0, .ref (ad 0)), (1, .int x1), (2, .ref (al 0)), (3, .ref (al 1)), (4, .ref (al 2)), (5, .ref (al 3)), (6, .ref (al 4)), (7, .ref (al 5)), (8, .ref (al 6)), (9, .ref (al 7)), (10, .ref (al 8)), (12, .int v12), (13, .int s144_0), (14, .int r156), (15, .int v15), (17, .int v17), (18, .int y348)]) hx hb dL_same_413 hl (by decide) rfl (fun ls hl => ?_)
                          refine lv_iinc (v := (v17 + (-1))) (lv' := [(17, .int ((v17 + (-1)))), (16, .int v16), (11, .int s373_0), (0, .ref (ad 0)), (1, .int x1), (2, .ref (al 0)), (3, .ref (al 1)), (4, .ref (al 2)), (5, .ref (al 3)), (6, .ref (al 4)), (7, .ref (al 5)), (8, .ref (al 6)), (9, .ref (al 7)), (10, .ref (al 8)), (12, .int v12), (13, .int s144_0), (14, .int r156), (15, .int v15), (18, .int y348)]) hx hb dL_same_415 hl (k := 17) rfl rfl (by decide) rfl (fun ls hl => ?_)
                          refine lv_goto (tgt := 328) hx hb dL_same_418 (by decide) ?_
                          exact ih328 _ _ _ _ _ _ _ _ _ ⟨by omega, by omega⟩ h hI hS (lv_sub hl [3, 4, 5, 6, 7, 8, 9, 10, 11, 12, 13, 2, 14, 15, 16, 17, 1, 0] rfl)
                        · replace h := sw_f h cc
                          refine lv_iload hx hb dL_same_406 (lv_at hl 18 rfl) ?_
                          refine lv_goto (tgt := 413) hx hb dL_same_408 (by decide) ?_
                          refine lv_istore (lv' := [(16, .int y348), (11, .int s373_0), (0, .ref (ad 0)), (1, .int x1), (2, .ref (al 0)), (3, .ref (al 1)), (4, .ref (al 2)), (5, .ref (al 3)), (6, .ref (al 4)), (7, .ref (al 5)), (8, .ref (al 6)), (9, .ref (al 7)), (10, .ref (al 8)), (12, .int v12), (13, .int s144_0), (14, .int r156), (15, .int v15), (17, .int v17), (18, .int y348)]) hx hb dL_same_413 hl (by decide) rfl (fun ls hl => ?_)
                          refine lv_iinc (v := (v17 + (-1))) (lv' := [(17, .int ((v17 + (-1)))), (16, .int y348), (11, .int s373_0), (0, .ref (ad 0)), (1, .int x1), (2, .ref (al 0)), (3, .ref (al 1)), (4, .ref (al 2)), (5, .ref (al 3)), (6, .ref (al 4)), (7, .ref (al 5)), (8, .ref (al 6)), (9, .ref (al 7)), (10, .ref (al 8)), (12, .int v12), (13, .int s144_0), (14, .int r156), (15, .int v15), (18, .int y348)]) hx hb dL_same_415 hl (k := 17) rfl rfl (by decide) rfl (fun ls hl => ?_)
                          refine lv_goto (tgt := 328) hx hb dL_same_418 (by decide) ?_
                          exact ih328 _ _ _ _ _ _ _ _ _ ⟨by omega, by omega⟩ h hI hS (lv_sub hl [3, 4, 5, 6, 7, 8, 9, 10, 11, 12, 13, 2, 14, 15, 16, 17, 1, 0] rfl)
                    clear ek373_
                    refine lv_if_eq (tgt := 372) hx hb dL_same_352 (by decide) (fun cc => ?_) (fun cc => ?_)
                    · replace h := sw_t h cc
                      refine lv_iconst (v := 0) hx hb dL_same_372 (by decide) ?_
                      refine W.widen (k := (c328 + 2)) (n := (t328 + 12)) (by omega) (by omega) ?_
                      exact J373 _ _ _ _ _ h hI hS (lv_sub hl [1, 2, 3, 4, 5, 6, 7, 8, 9, 10, 11, 12, 13, 14, 15, 16, 17, 18, 0] rfl)
                    · replace h := sw_f h cc
                      refine lv_aload_n hx hb dL_same_355 rfl (lv_at hl 1 rfl) ?_
                      refine lv_iload hx hb dL_same_356 (lv_at hl 14 rfl) ?_
                      refine lv_iload hx hb dL_same_358 (lv_at hl 18 rfl) ?_
                      obtain ⟨r360, w360, er360, h⟩ := swnx_s h
                      refine lb_x0 (As := [.int s144_0, .int v17]) (rest := []) E (xm5_slideAt l hst D cy ad hJ.1 wu328 s144_0 v17 _ _ _ _ er360) (cwV 2 hts gL_same_X5_slideAt rfl rfl rfl (by decide +kernel) ⟨Nat.le_of_ble_eq_true rfl, Nat.le_of_ble_eq_true rfl⟩) hK hJ hF hI hS ⟨by show _ ≤ 440; omega, by show _ ≤ 2640; omega⟩ rfl hl.1 rfl (Nat.le_of_ble_eq_true rfl) dL_same_360 (fun H locs hI hS => ?_)
                      refine lv_iload hx hb dL_same_363 (lv_at hl 0 rfl) ?_
                      refine lv_icmp_ne (tgt := 372) hx hb dL_same_365 (by decide) (fun cc => ?_) (fun cc => ?_)
                      · replace h := sw_f h cc
                        refine lv_iconst (v := 0) hx hb dL_same_372 (by decide) ?_
                        exact J373 _ _ _ _ _ h hI hS (lv_sub hl [1, 2, 3, 4, 5, 6, 7, 8, 9, 10, 11, 12, 13, 14, 15, 16, 17, 18, 0] rfl)
                      · replace h := sw_t h cc
                        refine lv_iconst (v := 1) hx hb dL_same_368 (by decide) ?_
                        refine lv_goto (tgt := 373) hx hb dL_same_369 (by decide) ?_
                        exact J373 _ _ _ _ _ h hI hS (lv_sub hl [1, 2, 3, 4, 5, 6, 7, 8, 9, 10, 11, 12, 13, 14, 15, 16, 17, 18, 0] rfl)
              refine L328 _ (fun v11 v16 v17 wu421 H locs ls h hI hS hl => ?_) 8 _ _ _ _ _ _ _ _ _ ⟨by omega, by omega⟩ h hI hS (lv_sub hl [3, 4, 5, 6, 7, 8, 9, 10, 11, 12, 13, 2, 14, 15, 16, 17, 1, 0] rfl)
              refine lv_iload hx hb dL_same_421 (lv_at hl 11 rfl) ?_
              obtain ⟨k442_, ek442_, h⟩ := swjn_s h
              have J442 : ∀ (s442_0 : Int32) (uj442 : swU) (H : Heap) (locs : List Loc) (ls : Array Slot), k442_ s442_0 uj442 = some (r0, u0, y0) → lbI D cy ad al uj442 y H → va_S (lbA ad al sz) s.heap H locs → lv_has ls 21 [(0, .ref (ad 0)), (1, .int x1), (2, .ref (al 0)), (3, .ref (al 1)), (4, .ref (al 2)), (5, .ref (al 3)), (6, .ref (al 4)), (7, .ref (al 5)), (8, .ref (al 6)), (9, .ref (al 7)), (10, .ref (al 8)), (11, .int v11), (12, .int v12), (13, .int s144_0), (14, .int r156), (15, .int v15), (16, .int v16), (17, .int v17)] → W p l e (headSpec wsL_same rmL_same).room s m args below meth c H locs (c108 + 29) (t108 + 174) (MQ below (lbQ D cy ad al sz r0 u0 y0) args s 440 2640 (lbA ad al sz)) (F0 m 442 ls [.int s442_0]) := by
                intro s442_0 uj442 H locs ls h hI hS hl
                rw [ek442_] at h
                refine lv_istore (lv' := [(11, .int s442_0), (0, .ref (ad 0)), (1, .int x1), (2, .ref (al 0)), (3, .ref (al 1)), (4, .ref (al 2)), (5, .ref (al 3)), (6, .ref (al 4)), (7, .ref (al 5)), (8, .ref (al 6)), (9, .ref (al 7)), (10, .ref (al 8)), (12, .int v12), (13, .int s144_0), (14, .int r156), (15, .int v15), (16, .int v16), (17, .int v17)]) hx hb dL_same_442 hl (by decide) rfl (fun ls hl => ?_)
                refine lv_iconst (v := 0) hx hb dL_same_444 (by decide) ?_
                refine lv_istore (lv' := [(17, .int 0), (11, .int s442_0), (0, .ref (ad 0)), (1, .int x1), (2, .ref (al 0)), (3, .ref (al 1)), (4, .ref (al 2)), (5, .ref (al 3)), (6, .ref (al 4)), (7, .ref (al 5)), (8, .ref (al 6)), (9, .ref (al 7)), (10, .ref (al 8)), (12, .int v12), (13, .int s144_0), (14, .int r156), (15, .int v15), (16, .int v16)]) hx hb dL_same_445 hl (by decide) rfl (fun ls hl => ?_)
                have L447 : ∀ (kk : Int32 → Int32 → swU → Option (Int32 × swU × lyU)), (∀ (v11 : Int32) (v17 : Int32) (wu447 : swU) (H : Heap) (locs : List Loc) (ls : Array Slot), kk v11 v17 wu447 = some (r0, u0, y0) → lbI D cy ad al wu447 y H → va_S (lbA ad al sz) s.heap H locs → lv_has ls 21 [(0, .ref (ad 0)), (1, .int x1), (2, .ref (al 0)), (3, .ref (al 1)), (4, .ref (al 2)), (5, .ref (al 3)), (6, .ref (al 4)), (7, .ref (al 5)), (8, .ref (al 6)), (9, .ref (al 7)), (10, .ref (al 8)), (11, .int v11), (12, .int v12), (13, .int s144_0), (14, .int r156), (15, .int v15), (16, .int v16), (17, .int v17)] → W p l e (headSpec wsL_same rmL_same).room s m args below meth c H locs (c108 + 53) (t108 + 318) (MQ below (lbQ D cy ad al sz r0 u0 y0) args s 440 2640 (lbA ad al sz)) (F0 m 528 ls [])) → ∀ (n : Nat) (v11 : Int32) (v17 : Int32) (wu447 : swU) (H : Heap) (locs : List Loc) (ls : Array Slot) (c447 t447 : Nat), (c447 + 3 * n ≤ (c108 + 53) ∧ t447 + 18 * n ≤ (t108 + 318)) →  lx_same_L447 y x1 s144_0 kk n v11 v17 wu447 = some (r0, u0, y0) → lbI D cy ad al wu447 y H → va_S (lbA ad al sz) s.heap H locs → lv_has ls 21 [(0, .ref (ad 0)), (1, .int x1), (2, .ref (al 0)), (3, .ref (al 1)), (4, .ref (al 2)), (5, .ref (al 3)), (6, .ref (al 4)), (7, .ref (al 5)), (8, .ref (al 6)), (9, .ref (al 7)), (10, .ref (al 8)), (11, .int v11), (12, .int v12), (13, .int s144_0), (14, .int r156), (15, .int v15), (16, .int v16), (17, .int v17)] → W p l e (headSpec wsL_same rmL_same).room s m args below meth c H locs (c447 + 0) (t447 + 0) (MQ below (lbQ D cy ad al sz r0 u0 y0) args s 440 2640 (lbA ad al sz)) (F0 m 447 ls []) := by
                  intro kk hk447 n
                  induction n with
                  | zero => intro v11 v17 wu447 H locs ls c447 t447 hc447 h hI hS hl; rw [lx_same_L447] at h; cases h
                  | succ n ih447 =>
                    intro v11 v17 wu447 H locs ls c447 t447 hc447 h hI hS hl
                    rw [lx_same_L447] at h
                    refine lv_iload hx hb dL_same_447 (lv_at hl 17 rfl) ?_
                    refine lv_aload hx hb dL_same_449 (lv_at hl 10 rfl) ?_
                    refine lv_iconst (v := 1) hx hb dL_same_451 (by decide) ?_
                    obtain ⟨a452, ea452, ia452, h⟩ := swrd_s h
                    refine ly_ald hx hb hK hI.2 (cd := 8) (by decide) rfl ia452 dL_same_452 ea452 ?_
                    refine lv_icmp_ge (tgt := 528) hx hb dL_same_453 (by decide) (fun cc => ?_) (fun cc => ?_)
                    · replace h := sw_t h cc
                      refine W.widen (k := (c108 + 53)) (n := (t108 + 318)) (by omega) (by omega) ?_
                      exact hk447 _ _ _ _ _ _ h hI hS (lv_sub hl [0, 1, 2, 3, 4, 5, 6, 7, 8, 9, 10, 11, 12, 13, 14, 15, 16, 17] rfl)
                    · replace h := sw_f h cc
                      refine lv_iload hx hb dL_same_456 (lv_at hl 11 rfl) ?_
                      refine lv_if_eq (tgt := 528) hx hb dL_same_458 (by decide) (fun cc => ?_) (fun cc => ?_)
                      · replace h := sw_t h cc
                        refine W.widen (k := (c108 + 53)) (n := (t108 + 318)) (by omega) (by omega) ?_
                        exact hk447 _ _ _ _ _ _ h hI hS (lv_sub hl [0, 1, 2, 3, 4, 5, 6, 7, 8, 9, 10, 11, 12, 13, 14, 15, 16, 17] rfl)
                      · replace h := sw_f h cc
                        refine lv_iload hx hb dL_same_461 (lv_at hl 13 rfl) ?_
                        refine lv_iload hx hb dL_same_463 (lv_at hl 17 rfl) ?_
                        refine lv_aload_n hx hb dL_same_465 rfl (lv_at hl 2 rfl) ?_
                        refine lv_aload_n hx hb dL_same_466 rfl (lv_at hl 3 rfl) ?_
                        obtain ⟨r467, er467, h⟩ := swbd_s h
                        refine ly_roL (As := [.int s144_0, .int v17, .ref (al 0), .ref (al 1)]) (rest := []) E (lm_get l D cy al y s144_0 v17 _ er467) (va_cwS 4 hts gL_same_L_get rfl rfl rfl (by decide +kernel) ⟨Nat.le_of_ble_eq_true rfl, Nat.le_of_ble_eq_true rfl⟩) hK hI.2 ⟨by show _ ≤ 440; omega, by show _ ≤ 2640; omega⟩ rfl hl.1 rfl (Nat.le_of_ble_eq_true rfl) dL_same_467 ?_
                        refine lv_lstore (lv' := [(18, .long r467), (0, .ref (ad 0)), (1, .int x1), (2, .ref (al 0)), (3, .ref (al 1)), (4, .ref (al 2)), (5, .ref (al 3)), (6, .ref (al 4)), (7, .ref (al 5)), (8, .ref (al 6)), (9, .ref (al 7)), (10, .ref (al 8)), (11, .int v11), (12, .int v12), (13, .int s144_0), (14, .int r156), (15, .int v15), (16, .int v16), (17, .int v17)]) hx hb dL_same_470 hl (by decide) rfl (fun ls hl => ?_)
                        refine lv_iload_n hx hb dL_same_472 rfl (lv_at hl 2 rfl) ?_
                        refine lv_iconst (v := 3) hx hb dL_same_473 (by decide) ?_
                        refine lv_iload hx hb dL_same_474 (lv_at hl 18 rfl) ?_
                        refine lv_iadd hx hb dL_same_476 ?_
                        refine lv_ishr hx hb dL_same_477 ?_
                        refine sw_top (x := swshr x1 (((3 : Int32) + v17))) rfl ?_
                        refine lv_iconst (v := 4) hx hb dL_same_478 (by decide) ?_
                        obtain ⟨r479, er479, h⟩ := swbd_s h
                        refine ly_stS (As := [.int ((swshr x1 (((3 : Int32) + v17)))), .int 4]) (rest := []) E (lm_low l ((swshr x1 (((3 : Int32) + v17)))) 4 _ er479) (va_cwS 2 hts gL_same_L_low rfl rfl rfl (by decide +kernel) ⟨Nat.le_of_ble_eq_true rfl, Nat.le_of_ble_eq_true rfl⟩) ⟨by show _ ≤ 440; omega, by show _ ≤ 2640; omega⟩ rfl hl.1 rfl (Nat.le_of_ble_eq_true rfl) dL_same_479 ?_
                        refine lv_istore (lv' := [(20, .int r479), (18, .long r467), (0, .ref (ad 0)), (1, .int x1), (2, .ref (al 0)), (3, .ref (al 1)), (4, .ref (al 2)), (5, .ref (al 3)), (6, .ref (al 4)), (7, .ref (al 5)), (8, .ref (al 6)), (9, .ref (al 7)), (10, .ref (al 8)), (11, .int v11), (12, .int v12), (13, .int s144_0), (14, .int r156), (15, .int v15), (16, .int v16), (17, .int v17)]) hx hb dL_same_482 hl (by decide) rfl (fun ls hl => ?_)
                        refine lv_aload_n hx hb dL_same_484 rfl (lv_at hl 2 rfl) ?_
                        refine lv_iload hx hb dL_same_485 (lv_at hl 15 rfl) ?_
                        refine lv_iload hx hb dL_same_487 (lv_at hl 19 rfl) ?_
                        refine lv_iload hx hb dL_same_489 (lv_at hl 0 rfl) ?_
                        obtain ⟨r491, w491, er491, h⟩ := swnx_s h
                        refine lb_x0 (As := [.int s144_0, .int v17, .int r479]) (rest := []) E (xm5_value l hst D cy ad hJ.1 wu447 s144_0 v17 r479 _ _ _ _ er491) (cwV 3 hts gL_same_X5_value rfl rfl rfl (by decide +kernel) ⟨Nat.le_of_ble_eq_true rfl, Nat.le_of_ble_eq_true rfl⟩) hK hJ hF hI hS ⟨by show _ ≤ 440; omega, by show _ ≤ 2640; omega⟩ rfl hl.1 rfl (Nat.le_of_ble_eq_true rfl) dL_same_491 (fun H locs hI hS => ?_)
                        refine lv_lload hx hb dL_same_494 (lv_at hl 1 rfl) ?_
                        refine lv_lconst (v := 0) hx hb dL_same_496 (by decide) ?_
                        refine W.lcmp hx hb dL_same_497 ?_
                        obtain ⟨k512_, ek512_, h⟩ := swjn_s h
                        have J512 : ∀ (s512_0 : Int32) (H : Heap) (locs : List Loc) (ls : Array Slot), k512_ s512_0 = some (r0, u0, y0) → lbI D cy ad al w491 y H → va_S (lbA ad al sz) s.heap H locs → lv_has ls 21 [(0, .ref (ad 0)), (1, .int x1), (2, .ref (al 0)), (3, .ref (al 1)), (4, .ref (al 2)), (5, .ref (al 3)), (6, .ref (al 4)), (7, .ref (al 5)), (8, .ref (al 6)), (9, .ref (al 7)), (10, .ref (al 8)), (11, .int v11), (12, .int v12), (13, .int s144_0), (14, .int r156), (15, .int v15), (16, .int v16), (17, .int v17), (18, .long r467), (20, .int r479)] → W p l e (headSpec wsL_same rmL_same).room s m args below meth c H locs (c447 + 3) (t447 + 18) (MQ below (lbQ D cy ad al sz r0 u0 y0) args s 440 2640 (lbA ad al sz)) (F0 m 512 ls [.int s512_0, .int r491]) := by
                          intro s512_0 H locs ls h hI hS hl
                          rw [ek512_] at h
                          refine lv_icmp_ne (tgt := 519) hx hb dL_same_512 (by decide) (fun cc => ?_) (fun cc => ?_)
                          · replace h := sw_f h cc
                            refine lv_iconst (v := 0) hx hb dL_same_519 (by decide) ?_
                            refine lv_istore (lv' := [(11, .int 0), (0, .ref (ad 0)), (1, .int x1), (2, .ref (al 0)), (3, .ref (al 1)), (4, .ref (al 2)), (5, .ref (al 3)), (6, .ref (al 4)), (7, .ref (al 5)), (8, .ref (al 6)), (9, .ref (al 7)), (10, .ref (al 8)), (12, .int v12), (13, .int s144_0), (14, .int r156), (15, .int v15), (16, .int v16), (17, .int v17), (18, .long r467), (20, .int r479)]) hx hb dL_same_520 hl (by decide) rfl (fun ls hl => ?_)
                            refine lv_iinc (v := (v17 + 1)) (lv' := [(17, .int (v17 + 1)), (11, .int 0), (0, .ref (ad 0)), (1, .int x1), (2, .ref (al 0)), (3, .ref (al 1)), (4, .ref (al 2)), (5, .ref (al 3)), (6, .ref (al 4)), (7, .ref (al 5)), (8, .ref (al 6)), (9, .ref (al 7)), (10, .ref (al 8)), (12, .int v12), (13, .int s144_0), (14, .int r156), (15, .int v15), (16, .int v16), (18, .long r467), (20, .int r479)]) hx hb dL_same_522 hl (k := 17) rfl rfl (by decide) rfl (fun ls hl => ?_)
                            refine lv_goto (tgt := 447) hx hb dL_same_525 (by decide) ?_
                            exact ih447 _ _ _ _ _ _ _ _ ⟨by omega, by omega⟩ h hI hS (lv_sub hl [2, 3, 4, 5, 6, 7, 8, 9, 10, 11, 12, 1, 13, 14, 15, 16, 17, 0] rfl)
                          · replace h := sw_t h cc
                            refine lv_iconst (v := 1) hx hb dL_same_515 (by decide) ?_
                            refine lv_goto (tgt := 520) hx hb dL_same_516 (by decide) ?_
                            refine lv_istore (lv' := [(11, .int 1), (0, .ref (ad 0)), (1, .int x1), (2, .ref (al 0)), (3, .ref (al 1)), (4, .ref (al 2)), (5, .ref (al 3)), (6, .ref (al 4)), (7, .ref (al 5)), (8, .ref (al 6)), (9, .ref (al 7)), (10, .ref (al 8)), (12, .int v12), (13, .int s144_0), (14, .int r156), (15, .int v15), (16, .int v16), (17, .int v17), (18, .long r467), (20, .int r479)]) hx hb dL_same_520 hl (by decide) rfl (fun ls hl => ?_)
                            refine lv_iinc (v := (v17 + 1)) (lv' := [(17, .int (v17 + 1)), (11, .int 1), (0, .ref (ad 0)), (1, .int x1), (2, .ref (al 0)), (3, .ref (al 1)), (4, .ref (al 2)), (5, .ref (al 3)), (6, .ref (al 4)), (7, .ref (al 5)), (8, .ref (al 6)), (9, .ref (al 7)), (10, .ref (al 8)), (12, .int v12), (13, .int s144_0), (14, .int r156), (15, .int v15), (16, .int v16), (18, .long r467), (20, .int r479)]) hx hb dL_same_522 hl (k := 17) rfl rfl (by decide) rfl (fun ls hl => ?_)
                            refine lv_goto (tgt := 447) hx hb dL_same_525 (by decide) ?_
                            exact ih447 _ _ _ _ _ _ _ _ ⟨by omega, by omega⟩ h hI hS (lv_sub hl [2, 3, 4, 5, 6, 7, 8, 9, 10, 11, 12, 1, 13, 14, 15, 16, 17, 0] rfl)
                        clear ek512_
                        refine lv_if_ne (tgt := 505) hx hb dL_same_498 (by decide) (fun cc => ?_) (fun cc => ?_)
                        · replace h := sw_f h cc
                          refine lv_lload hx hb dL_same_505 (lv_at hl 1 rfl) ?_
                          refine lv_iload hx hb dL_same_507 (lv_at hl 0 rfl) ?_
                          obtain ⟨r509, er509, h⟩ := swbd_s h
                          refine ly_stS (As := [.long r467, .int r479]) (rest := [.int r491]) E (lm_value l r467 r479 _ er509) (va_cwS 2 hts gL_same_L_value rfl rfl rfl (by decide +kernel) ⟨Nat.le_of_ble_eq_true rfl, Nat.le_of_ble_eq_true rfl⟩) ⟨by show _ ≤ 440; omega, by show _ ≤ 2640; omega⟩ rfl hl.1 rfl (Nat.le_of_ble_eq_true rfl) dL_same_509 ?_
                          exact J512 _ _ _ _ h hI hS (lv_sub hl [2, 3, 4, 5, 6, 7, 8, 9, 10, 11, 12, 13, 14, 15, 16, 17, 18, 19, 1, 0] rfl)
                        · replace h := sw_t h cc
                          refine lv_iconst (v := (-1)) hx hb dL_same_501 (by decide) ?_
                          refine lv_goto (tgt := 512) hx hb dL_same_502 (by decide) ?_
                          exact J512 _ _ _ _ h hI hS (lv_sub hl [2, 3, 4, 5, 6, 7, 8, 9, 10, 11, 12, 13, 14, 15, 16, 17, 18, 19, 1, 0] rfl)
                refine L447 _ (fun v11 v17 wu528 H locs ls h hI hS hl => ?_) 8 _ _ _ _ _ _ _ _ ⟨by omega, by omega⟩ h hI hS (lv_sub hl [2, 3, 4, 5, 6, 7, 8, 9, 10, 11, 12, 1, 13, 14, 15, 16, 17, 0] rfl)
                refine lv_iinc (v := (v12 + 1)) (lv' := [(12, .int (v12 + 1)), (0, .ref (ad 0)), (1, .int x1), (2, .ref (al 0)), (3, .ref (al 1)), (4, .ref (al 2)), (5, .ref (al 3)), (6, .ref (al 4)), (7, .ref (al 5)), (8, .ref (al 6)), (9, .ref (al 7)), (10, .ref (al 8)), (11, .int v11), (13, .int s144_0), (14, .int r156), (15, .int v15), (16, .int v16), (17, .int v17)]) hx hb dL_same_528 hl (k := 12) rfl rfl (by decide) rfl (fun ls hl => ?_)
                refine lv_goto (tgt := 108) hx hb dL_same_531 (by decide) ?_
                exact ih108 _ _ _ _ _ _ _ _ ⟨by omega, by omega⟩ h hI hS (lv_sub hl [1, 2, 3, 4, 5, 6, 7, 8, 9, 10, 11, 12, 0] rfl)
              clear ek442_
              refine lv_if_eq (tgt := 441) hx hb dL_same_423 (by decide) (fun cc => ?_) (fun cc => ?_)
              · replace h := sw_t h cc
                refine lv_iconst (v := 0) hx hb dL_same_441 (by decide) ?_
                refine W.widen (k := (c108 + 29)) (n := (t108 + 174)) (by omega) (by omega) ?_
                exact J442 _ _ _ _ _ h hI hS (lv_sub hl [0, 1, 2, 3, 4, 5, 6, 7, 8, 9, 10, 11, 12, 13, 14, 15, 16, 17] rfl)
              · replace h := sw_f h cc
                refine lv_aload_n hx hb dL_same_426 rfl (lv_at hl 0 rfl) ?_
                refine lv_iload hx hb dL_same_427 (lv_at hl 13 rfl) ?_
                obtain ⟨r429, w429, er429, h⟩ := swnx_s h
                refine lb_x0 (As := [.int s144_0]) (rest := []) E (xm5_firstBlock l hst D cy ad hJ.1 wu421 s144_0 _ _ _ _ er429) (cwV 1 hts gL_same_X5_firstBlock rfl rfl rfl (by decide +kernel) ⟨Nat.le_of_ble_eq_true rfl, Nat.le_of_ble_eq_true rfl⟩) hK hJ hF hI hS ⟨by show _ ≤ 440; omega, by show _ ≤ 2640; omega⟩ rfl hl.1 rfl (Nat.le_of_ble_eq_true rfl) dL_same_429 (fun H locs hI hS => ?_)
                refine lv_iload hx hb dL_same_432 (lv_at hl 16 rfl) ?_
                refine lv_icmp_ne (tgt := 441) hx hb dL_same_434 (by decide) (fun cc => ?_) (fun cc => ?_)
                · replace h := sw_f h cc
                  refine lv_iconst (v := 0) hx hb dL_same_441 (by decide) ?_
                  exact J442 _ _ _ _ _ h hI hS (lv_sub hl [0, 1, 2, 3, 4, 5, 6, 7, 8, 9, 10, 11, 12, 13, 14, 15, 16, 17] rfl)
                · replace h := sw_t h cc
                  refine lv_iconst (v := 1) hx hb dL_same_437 (by decide) ?_
                  refine lv_goto (tgt := 442) hx hb dL_same_438 (by decide) ?_
                  exact J442 _ _ _ _ _ h hI hS (lv_sub hl [0, 1, 2, 3, 4, 5, 6, 7, 8, 9, 10, 11, 12, 13, 14, 15, 16, 17] rfl)
            clear ek320_
            refine lv_icmp_ne (tgt := 319) hx hb dL_same_211 (by decide) (fun cc => ?_) (fun cc => ?_)
            · replace h := sw_f h cc
              refine lv_iconst (v := 0) hx hb dL_same_319 (by decide) ?_
              refine W.widen (k := (c108 + 12)) (n := (t108 + 72)) (by omega) (by omega) ?_
              exact J320 _ _ _ _ _ h hI hS (lv_sub hl [0, 1, 2, 3, 4, 5, 6, 7, 8, 9, 10, 11, 12, 13, 14, 15, 16] rfl)
            · replace h := sw_t h cc
              refine lv_aload_n hx hb dL_same_214 rfl (lv_at hl 0 rfl) ?_
              refine lv_iload hx hb dL_same_215 (lv_at hl 13 rfl) ?_
              refine lv_iconst (v := 1) hx hb dL_same_217 (by decide) ?_
              obtain ⟨r218, w218, er218, h⟩ := swnx_s h
              refine lb_x0 (As := [.int s144_0, .int 1]) (rest := []) E (xm5_about l hst D cy ad hJ.1 w199 s144_0 1 _ _ _ _ er218) (cwV 2 hts gL_same_X5_about rfl rfl rfl (by decide +kernel) ⟨Nat.le_of_ble_eq_true rfl, Nat.le_of_ble_eq_true rfl⟩) hK hJ hF hI hS ⟨by show _ ≤ 440; omega, by show _ ≤ 2640; omega⟩ rfl hl.1 rfl (Nat.le_of_ble_eq_true rfl) dL_same_218 (fun H locs hI hS => ?_)
              refine lv_aload hx hb dL_same_221 (lv_at hl 6 rfl) ?_
              refine lv_iload hx hb dL_same_223 (lv_at hl 13 rfl) ?_
              obtain ⟨a225, ea225, ia225, h⟩ := swrd_s h
              refine ly_ald hx hb hK hI.2 (cd := 4) (by decide) rfl ia225 dL_same_225 ea225 ?_
              refine lv_bipush (v := 64) hx hb dL_same_226 (by decide) ?_
              refine lv_irem hx hb dL_same_228 (by decide) ?_
              refine sw_top (x := swrem a225 64) rfl ?_
              refine lv_iconst (v := 1) hx hb dL_same_229 (by decide) ?_
              refine lv_isub hx hb dL_same_230 ?_
              refine lv_icmp_ne (tgt := 319) hx hb dL_same_231 (by decide) (fun cc => ?_) (fun cc => ?_)
              · replace h := sw_f h cc
                refine lv_iconst (v := 0) hx hb dL_same_319 (by decide) ?_
                refine W.widen (k := (c108 + 12)) (n := (t108 + 72)) (by omega) (by omega) ?_
                exact J320 _ _ _ _ _ h hI hS (lv_sub hl [0, 1, 2, 3, 4, 5, 6, 7, 8, 9, 10, 11, 12, 13, 14, 15, 16] rfl)
              · replace h := sw_t h cc
                refine lv_aload_n hx hb dL_same_234 rfl (lv_at hl 0 rfl) ?_
                refine lv_iload hx hb dL_same_235 (lv_at hl 13 rfl) ?_
                refine lv_iconst (v := 2) hx hb dL_same_237 (by decide) ?_
                obtain ⟨r238, w238, er238, h⟩ := swnx_s h
                refine lb_x0 (As := [.int s144_0, .int 2]) (rest := []) E (xm5_about l hst D cy ad hJ.1 w218 s144_0 2 _ _ _ _ er238) (cwV 2 hts gL_same_X5_about rfl rfl rfl (by decide +kernel) ⟨Nat.le_of_ble_eq_true rfl, Nat.le_of_ble_eq_true rfl⟩) hK hJ hF hI hS ⟨by show _ ≤ 440; omega, by show _ ≤ 2640; omega⟩ rfl hl.1 rfl (Nat.le_of_ble_eq_true rfl) dL_same_238 (fun H locs hI hS => ?_)
                refine lv_aload hx hb dL_same_241 (lv_at hl 6 rfl) ?_
                refine lv_iload hx hb dL_same_243 (lv_at hl 13 rfl) ?_
                obtain ⟨a245, ea245, ia245, h⟩ := swrd_s h
                refine ly_ald hx hb hK hI.2 (cd := 4) (by decide) rfl ia245 dL_same_245 ea245 ?_
                refine lv_bipush (v := 64) hx hb dL_same_246 (by decide) ?_
                refine lv_idiv hx hb dL_same_248 (by decide) ?_
                refine lv_bipush (v := 64) hx hb dL_same_249 (by decide) ?_
                refine lv_irem hx hb dL_same_251 (by decide) ?_
                refine sw_top (x := swrem (a245 / 64) 64) rfl ?_
                refine lv_iconst (v := 1) hx hb dL_same_252 (by decide) ?_
                refine lv_isub hx hb dL_same_253 ?_
                refine lv_icmp_ne (tgt := 319) hx hb dL_same_254 (by decide) (fun cc => ?_) (fun cc => ?_)
                · replace h := sw_f h cc
                  refine lv_iconst (v := 0) hx hb dL_same_319 (by decide) ?_
                  refine W.widen (k := (c108 + 12)) (n := (t108 + 72)) (by omega) (by omega) ?_
                  exact J320 _ _ _ _ _ h hI hS (lv_sub hl [0, 1, 2, 3, 4, 5, 6, 7, 8, 9, 10, 11, 12, 13, 14, 15, 16] rfl)
                · replace h := sw_t h cc
                  refine lv_aload_n hx hb dL_same_257 rfl (lv_at hl 0 rfl) ?_
                  refine lv_iload hx hb dL_same_258 (lv_at hl 13 rfl) ?_
                  refine lv_iconst (v := 3) hx hb dL_same_260 (by decide) ?_
                  obtain ⟨r261, w261, er261, h⟩ := swnx_s h
                  refine lb_x0 (As := [.int s144_0, .int 3]) (rest := []) E (xm5_about l hst D cy ad hJ.1 w238 s144_0 3 _ _ _ _ er261) (cwV 2 hts gL_same_X5_about rfl rfl rfl (by decide +kernel) ⟨Nat.le_of_ble_eq_true rfl, Nat.le_of_ble_eq_true rfl⟩) hK hJ hF hI hS ⟨by show _ ≤ 440; omega, by show _ ≤ 2640; omega⟩ rfl hl.1 rfl (Nat.le_of_ble_eq_true rfl) dL_same_261 (fun H locs hI hS => ?_)
                  refine lv_aload hx hb dL_same_264 (lv_at hl 4 rfl) ?_
                  refine lv_iload hx hb dL_same_266 (lv_at hl 13 rfl) ?_
                  obtain ⟨a268, ea268, ia268, h⟩ := swrd_s h
                  refine ly_ald hx hb hK hI.2 (cd := 2) (by decide) rfl ia268 dL_same_268 ea268 ?_
                  obtain ⟨r269, er269, h⟩ := swbd_s h
                  refine ly_stS (As := [.int a268]) (rest := [.int r261]) E (lm_many l a268 _ er269) (va_cwS 1 hts gL_same_L_many rfl rfl rfl (by decide +kernel) ⟨Nat.le_of_ble_eq_true rfl, Nat.le_of_ble_eq_true rfl⟩) ⟨by show _ ≤ 440; omega, by show _ ≤ 2640; omega⟩ rfl hl.1 rfl (Nat.le_of_ble_eq_true rfl) dL_same_269 ?_
                  refine lv_icmp_ne (tgt := 319) hx hb dL_same_272 (by decide) (fun cc => ?_) (fun cc => ?_)
                  · replace h := sw_f h cc
                    refine lv_iconst (v := 0) hx hb dL_same_319 (by decide) ?_
                    refine W.widen (k := (c108 + 12)) (n := (t108 + 72)) (by omega) (by omega) ?_
                    exact J320 _ _ _ _ _ h hI hS (lv_sub hl [0, 1, 2, 3, 4, 5, 6, 7, 8, 9, 10, 11, 12, 13, 14, 15, 16] rfl)
                  · replace h := sw_t h cc
                    refine lv_aload_n hx hb dL_same_275 rfl (lv_at hl 0 rfl) ?_
                    refine lv_iload hx hb dL_same_276 (lv_at hl 13 rfl) ?_
                    refine lv_iconst (v := 4) hx hb dL_same_278 (by decide) ?_
                    obtain ⟨r279, w279, er279, h⟩ := swnx_s h
                    refine lb_x0 (As := [.int s144_0, .int 4]) (rest := []) E (xm5_about l hst D cy ad hJ.1 w261 s144_0 4 _ _ _ _ er279) (cwV 2 hts gL_same_X5_about rfl rfl rfl (by decide +kernel) ⟨Nat.le_of_ble_eq_true rfl, Nat.le_of_ble_eq_true rfl⟩) hK hJ hF hI hS ⟨by show _ ≤ 440; omega, by show _ ≤ 2640; omega⟩ rfl hl.1 rfl (Nat.le_of_ble_eq_true rfl) dL_same_279 (fun H locs hI hS => ?_)
                    refine lv_iload hx hb dL_same_282 (lv_at hl 15 rfl) ?_
                    refine lv_icmp_ne (tgt := 319) hx hb dL_same_284 (by decide) (fun cc => ?_) (fun cc => ?_)
                    · replace h := sw_f h cc
                      refine lv_iconst (v := 0) hx hb dL_same_319 (by decide) ?_
                      refine W.widen (k := (c108 + 12)) (n := (t108 + 72)) (by omega) (by omega) ?_
                      exact J320 _ _ _ _ _ h hI hS (lv_sub hl [0, 1, 2, 3, 4, 5, 6, 7, 8, 9, 10, 11, 12, 13, 14, 15, 16] rfl)
                    · replace h := sw_t h cc
                      refine lv_aload_n hx hb dL_same_287 rfl (lv_at hl 0 rfl) ?_
                      refine lv_iload hx hb dL_same_288 (lv_at hl 13 rfl) ?_
                      obtain ⟨r290, w290, er290, h⟩ := swnx_s h
                      refine lb_x0 (As := [.int s144_0]) (rest := []) E (xm5_blocks l hst D cy ad hJ.1 w279 s144_0 _ _ _ _ er290) (cwV 1 hts gL_same_X5_blocks rfl rfl rfl (by decide +kernel) ⟨Nat.le_of_ble_eq_true rfl, Nat.le_of_ble_eq_true rfl⟩) hK hJ hF hI hS ⟨by show _ ≤ 440; omega, by show _ ≤ 2640; omega⟩ rfl hl.1 rfl (Nat.le_of_ble_eq_true rfl) dL_same_290 (fun H locs hI hS => ?_)
                      refine lv_iload hx hb dL_same_293 (lv_at hl 14 rfl) ?_
                      refine lv_bipush (v := 64) hx hb dL_same_295 (by decide) ?_
                      refine lv_irem hx hb dL_same_297 (by decide) ?_
                      refine sw_top (x := swrem r156 64) rfl ?_
                      refine lv_icmp_ne (tgt := 319) hx hb dL_same_298 (by decide) (fun cc => ?_) (fun cc => ?_)
                      · replace h := sw_f h cc
                        refine lv_iconst (v := 0) hx hb dL_same_319 (by decide) ?_
                        refine W.widen (k := (c108 + 12)) (n := (t108 + 72)) (by omega) (by omega) ?_
                        exact J320 _ _ _ _ _ h hI hS (lv_sub hl [0, 1, 2, 3, 4, 5, 6, 7, 8, 9, 10, 11, 12, 13, 14, 15, 16] rfl)
                      · replace h := sw_t h cc
                        refine lv_aload_n hx hb dL_same_301 rfl (lv_at hl 0 rfl) ?_
                        refine lv_iload hx hb dL_same_302 (lv_at hl 13 rfl) ?_
                        obtain ⟨r304, w304, er304, h⟩ := swnx_s h
                        refine lb_x0 (As := [.int s144_0]) (rest := []) E (xm5_warnings l hst D cy ad hJ.1 w290 s144_0 _ _ _ _ er304) (cwV 1 hts gL_same_X5_warnings rfl rfl rfl (by decide +kernel) ⟨Nat.le_of_ble_eq_true rfl, Nat.le_of_ble_eq_true rfl⟩) hK hJ hF hI hS ⟨by show _ ≤ 440; omega, by show _ ≤ 2640; omega⟩ rfl hl.1 rfl (Nat.le_of_ble_eq_true rfl) dL_same_304 (fun H locs hI hS => ?_)
                        refine lv_iload hx hb dL_same_307 (lv_at hl 14 rfl) ?_
                        refine lv_bipush (v := 64) hx hb dL_same_309 (by decide) ?_
                        refine lv_idiv hx hb dL_same_311 (by decide) ?_
                        refine lv_icmp_ne (tgt := 319) hx hb dL_same_312 (by decide) (fun cc => ?_) (fun cc => ?_)
                        · replace h := sw_f h cc
                          refine lv_iconst (v := 0) hx hb dL_same_319 (by decide) ?_
                          exact J320 _ _ _ _ _ h hI hS (lv_sub hl [0, 1, 2, 3, 4, 5, 6, 7, 8, 9, 10, 11, 12, 13, 14, 15, 16] rfl)
                        · replace h := sw_t h cc
                          refine lv_iconst (v := 1) hx hb dL_same_315 (by decide) ?_
                          refine lv_goto (tgt := 320) hx hb dL_same_316 (by decide) ?_
                          exact J320 _ _ _ _ _ h hI hS (lv_sub hl [0, 1, 2, 3, 4, 5, 6, 7, 8, 9, 10, 11, 12, 13, 14, 15, 16] rfl)
          clear ek144_
          refine lv_if_ne (tgt := 133) hx hb dL_same_121 (by decide) (fun cc => ?_) (fun cc => ?_)
          · replace h := sw_f h cc
            refine lv_iload_n hx hb dL_same_133 rfl (lv_at hl 1 rfl) ?_
            refine lv_iload hx hb dL_same_134 (lv_at hl 12 rfl) ?_
            refine lv_ishr hx hb dL_same_136 ?_
            refine sw_top (x := swshr x1 v12) rfl ?_
            refine lv_aload hx hb dL_same_137 (lv_at hl 10 rfl) ?_
            refine lv_iconst (v := 0) hx hb dL_same_139 (by decide) ?_
            obtain ⟨a140, ea140, ia140, h⟩ := swrd_s h
            refine ly_ald hx hb hK hI.2 (cd := 8) (by decide) rfl ia140 dL_same_140 ea140 ?_
            obtain ⟨r141, er141, h⟩ := swbd_s h
            refine ly_stS (As := [.int (swshr x1 v12), .int a140]) (rest := []) E (lm_low l (swshr x1 v12) a140 _ er141) (va_cwS 2 hts gL_same_L_low rfl rfl rfl (by decide +kernel) ⟨Nat.le_of_ble_eq_true rfl, Nat.le_of_ble_eq_true rfl⟩) ⟨by show _ ≤ 440; omega, by show _ ≤ 2640; omega⟩ rfl hl.1 rfl (Nat.le_of_ble_eq_true rfl) dL_same_141 ?_
            exact J144 _ _ _ _ h hI hS (lv_sub hl [0, 1, 2, 3, 4, 5, 6, 7, 8, 9, 10, 11, 12] rfl)
          · replace h := sw_t h cc
            refine lv_aload hx hb dL_same_124 (lv_at hl 10 rfl) ?_
            refine lv_iconst (v := 0) hx hb dL_same_126 (by decide) ?_
            obtain ⟨a127, ea127, ia127, h⟩ := swrd_s h
            refine ly_ald hx hb hK hI.2 (cd := 8) (by decide) rfl ia127 dL_same_127 ea127 ?_
            refine lv_iconst (v := 1) hx hb dL_same_128 (by decide) ?_
            refine lv_isub hx hb dL_same_129 ?_
            refine lv_goto (tgt := 144) hx hb dL_same_130 (by decide) ?_
            exact J144 _ _ _ _ h hI hS (lv_sub hl [0, 1, 2, 3, 4, 5, 6, 7, 8, 9, 10, 11, 12] rfl)
  refine L108 _ (fun v11 v12 wu534 H locs ls h hI hS hl => ?_) 8 _ _ _ _ _ _ _ _ ⟨by omega, by omega⟩ h hI hS (lv_sub hl [1, 2, 3, 4, 5, 6, 7, 8, 9, 10, 11, 12, 0] rfl)
  refine lv_iload hx hb dL_same_534 (lv_at hl 11 rfl) ?_
  refine W.widen (k := 440) (n := 2640) (by omega) (by omega) ?_
  obtain ⟨gdL_same_536, h⟩ := swgd_s h
  exact W.zret (ty := .boolean) hx hb hr (swZ_hn (of_decide_eq_true gdL_same_536)) (fun t ht hW => ⟨⟨_, (), rfl, (sw_inj3 h).1, lb_end hI ht (sw_inj3 h).2.1 (sw_inj3 h).2.2⟩, hS.F ht⟩) hS.2.2 dL_same_536 hlocks
