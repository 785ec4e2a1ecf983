/-! merges -/
def lx_merges_L143 (y : lyU) (r15 : Int32) (y42 : Int32) (y53 : Int32) (a59 : Int32) (a66 : Int32) (r75 : Int32) (s108_0 : Int32) (r115 : Int32) (kk : Int64 → Int32 → Int32 → Int32 → swU → Option (Int32 × swU × lyU)) : Nat → Int64 → Int32 → Int32 → Int32 → swU → Option (Int32 × swU × lyU)
  | 0, _, _, _, _, _ => none
  | n + 1, v17, v19, v22, v23, wu143 => if 6 ≤ v23 then (kk v17 v19 v22 v23 wu143) else (swbd (lx_get y r75 v23) fun r156 => swbd (lx_get y a59 v23) fun r165 => swbd (lx_get y a66 v23) fun r174 => swjn (fun (s188_0 : Int32) => swbd (lx_meets r156 r165 r174 s188_0) fun r188 => swlt ((v17 + (lyshr r188 41))) fun y201 => swlt ((r188 &&& (2199023255551 : Int64))) fun y209 => swjn (fun (s247_0 : Int32) => if v23 = s108_0 then (swrd 6 (y.1 8) 1 fun a261 => if a261 ≤ v23 then (lx_merges_L143 y r15 y42 y53 a59 a66 r75 s108_0 r115 kk n y201 s247_0 v22 (v23 + 1) wu143) else (if y53 < 0 then (lx_merges_L143 y r15 y42 y53 a59 a66 r75 s108_0 r115 kk n y201 s247_0 v22 (v23 + 1) wu143) else (if v22 = 0 then (lx_merges_L143 y r15 y42 y53 a59 a66 r75 s108_0 r115 kk n y201 s247_0 0 (v23 + 1) wu143) else (swnx (xx5_merged wu143 r15 y42 v23 r115 y53) fun r286 w286 => swjn (fun (s307_0 : Int32) => if r286 = s307_0 then (lx_merges_L143 y r15 y42 y53 a59 a66 r75 s108_0 r115 kk n y201 s247_0 1 (v23 + 1) w286) else (lx_merges_L143 y r15 y42 y53 a59 a66 r75 s108_0 r115 kk n y201 s247_0 0 (v23 + 1) w286)) fun k307_ => if (lg_cmp y209 (0 : Int64)) = 0 then (k307_ (-1)) else (swbd (lx_value y209 r115) fun r304 => k307_ r304))))) else (lx_merges_L143 y r15 y42 y53 a59 a66 r75 s108_0 r115 kk n y201 s247_0 v22 (v23 + 1) wu143)) fun k247_ => if v19 = 0 then (if (lg_cmp y209 (0 : Int64)) = 0 then (k247_ 0) else (swbd (lx_blocks y v23 y209) fun r233 => if (swrem r233 64) ≤ 0 then (k247_ 0) else (k247_ 1))) else (k247_ 1)) fun k188_ => if 1 ≤ y53 then (k188_ 0) else (k188_ 1))

def lx_merges_L446 (uj348 : swU) (y53 : Int32) (a59 : Int32) (a66 : Int32) (r75 : Int32) (r432 : Int32) (kk : Int32 → Int32 → Int32 → lyU → Option (Int32 × swU × lyU)) : Nat → Int32 → Int32 → Int32 → lyU → Option (Int32 × swU × lyU)
  | 0, _, _, _, _ => none
  | n + 1, v25, v26, v27, wy446 => if 12 ≤ v27 then (kk v25 v26 v27 wy446) else (swjn (fun (s469_0 : Int32) => swrd 21 (wy446.1 2) s469_0 fun a469 => swlt (((swrem ((swshr a469 (((3 : Int32) * (swrem v27 6))))) 8) - 1)) fun y483 => if y483 < 0 then (lx_merges_L446 uj348 y53 a59 a66 r75 r432 kk n v25 v26 (v27 + 1) wy446) else (if v27 < 6 then (swbd (lx_get wy446 r75 y483) fun r517 => swbd (lx_get wy446 a59 y483) fun r526 => swbd (lx_get wy446 a66 y483) fun r535 => swjn (fun (s549_0 : Int32) => swbd (lx_meets r517 r526 r535 s549_0) fun r549 => swlt ((r549 &&& (2199023255551 : Int64))) fun y556 => swbd (lx_put wy446 r432 y483 y556) fun u566 => swjn (fun (s591_0 : Int32) => swlt (v25 ||| s591_0) fun y592 => swjn (fun (s608_0 : Int32) => swlt (v26 + s608_0) fun y609 => lx_merges_L446 uj348 y53 a59 a66 r75 r432 kk n y592 y609 (v27 + 1) u566) fun k608_ => if (lg_cmp y556 (0 : Int64)) = 0 then (k608_ 0) else (k608_ 1)) fun k591_ => if (lg_cmp y556 (0 : Int64)) = 0 then (k591_ 0) else (k591_ ((swshl (y483 + 1) (((3 : Int32) * v26)))))) fun k549_ => if 1 ≤ y53 then (k549_ 0) else (k549_ 1)) else (swbd (lx_get wy446 a59 y483) fun r503 => if (lg_cmp r503 (0 : Int64)) = 0 then (swbd (lx_get wy446 r75 y483) fun r517 => swbd (lx_get wy446 a59 y483) fun r526 => swbd (lx_get wy446 a66 y483) fun r535 => swjn (fun (s549_0 : Int32) => swbd (lx_meets r517 r526 r535 s549_0) fun r549 => swlt ((r549 &&& (2199023255551 : Int64))) fun y556 => swbd (lx_put wy446 r432 y483 y556) fun u566 => swjn (fun (s591_0 : Int32) => swlt (v25 ||| s591_0) fun y592 => swjn (fun (s608_0 : Int32) => swlt (v26 + s608_0) fun y609 => lx_merges_L446 uj348 y53 a59 a66 r75 r432 kk n y592 y609 (v27 + 1) u566) fun k608_ => if (lg_cmp y556 (0 : Int64)) = 0 then (k608_ 0) else (k608_ 1)) fun k591_ => if (lg_cmp y556 (0 : Int64)) = 0 then (k591_ 0) else (k591_ ((swshl (y483 + 1) (((3 : Int32) * v26)))))) fun k549_ => if 1 ≤ y53 then (k549_ 0) else (k549_ 1)) else (lx_merges_L446 uj348 y53 a59 a66 r75 r432 kk n v25 v26 (v27 + 1) wy446)))) fun k469_ => if 6 ≤ v27 then (k469_ a66) else (k469_ a59))

def lx_merges (u : swU) (y : lyU) (x1 : Int32) : Option (Int32 × swU × lyU) :=
  swrd 6 (y.1 8) 2 fun a3 => if 2 ≤ a3 then (swrd 6 (y.1 8) 2 fun a14 => swbd (lx_low x1 a14) fun r15 => swrd 6 (y.1 8) 2 fun a30 => swbd (lx_low (swshr x1 3) (a30 - 1)) fun r33 => swrd 6 (y.1 8) 2 fun a40 => swdv a40 <| swlt ((swrem (((r15 + 1) + r33)) a40)) fun y42 => swbd (lx_low (swshr x1 5) 3) fun r48 => swlt (r48 - 1) fun y53 => swrd 12 (y.1 5) r15 fun a59 => swrd 12 (y.1 5) y42 fun a66 => swbd (lx_base y a59 a66) fun r75 => swrd 6 (y.1 8) 1 fun a89 => swjn (fun (s108_0 : Int32) => swbd (lx_low (swshr x1 9) 4) fun r115 => swnx (xx5_base u r15 y42) fun r125 w125 => swjn (fun (s138_0 : Int32) => lx_merges_L143 y r15 y42 y53 a59 a66 r75 s108_0 r115 (fun v17 v19 v22 v23 wu323 => swjn (fun (s348_0 : Int32) (uj348 : swU) => swjn (fun (s372_0 : Int32) => swrd 6 (y.1 8) 0 fun a377 => if a377 = 21 then (swgd (decide (swZ s348_0 = s348_0)) <| some (s348_0, uj348, y)) else (if s372_0 = 0 then (if s348_0 = 0 then (some ((0 : Int32), uj348, y)) else (swbd (lx_calls uj348 y 1 r15 y42 y53) fun z404 => match z404 with | (r404, w404, u404) => if r404 = (-100003) then (some ((1 : Int32), w404, u404)) else (some ((0 : Int32), w404, u404)))) else (swbd (lx_copy y r15) fun z432 => match z432 with | (r432, u432) => lx_merges_L446 uj348 y53 a59 a66 r75 r432 (fun v25 v26 v27 wy617 => swgd (swix r432 21) <| swlt (lyI wy617 2 (Int32.toNatClampNeg r432) v25) fun u623 => swrd 21 (u623.1 3) r432 fun a629 => swrd 21 (u623.1 3) a66 fun a634 => swgd (swix r432 21) <| swlt (lyI u623 3 (Int32.toNatClampNeg r432) (a629 ||| a634)) fun u636 => swrd 21 (u636.1 4) r432 fun a642 => swgd (swix r432 21) <| swlt (lyI u636 4 (Int32.toNatClampNeg r432) ((a642 + ((64 : Int32) * (a66 + 1))))) fun u651 => if s348_0 = 0 then (some ((0 : Int32), uj348, u651)) else (swbd (lx_calls uj348 u651 1 r15 y42 y53) fun z665 => match z665 with | (r665, w665, u665) => if r665 = r432 then (some ((1 : Int32), w665, u665)) else (some ((0 : Int32), w665, u665)))) 64 0 0 0 u432))) fun k372_ => if 0 ≤ y53 then (if v19 = 0 then (k372_ 1) else (k372_ 0)) else (if (lg_cmp v17 (0 : Int64)) = 0 then (if v19 = 0 then (k372_ 1) else (k372_ 0)) else (k372_ 0))) fun k348_ => if v22 = 0 then (k348_ 0 wu323) else (swnx (xx5_clashes wu323 r15 y42) fun r333 w333 => if (lg_cmp (Int32.toInt64 r333) v17) = 0 then (k348_ 1 w333) else (k348_ 0 w333))) 8 (0 : Int64) 0 s138_0 0 w125) fun k138_ => if r125 = r75 then (k138_ 1) else (k138_ 0)) fun k108_ => if a89 = 0 then (k108_ 0) else (swrd 6 (y.1 8) 1 fun a104 => swbd (lx_low (swshr x1 7) a104) fun r105 => k108_ r105)) else (some ((1 : Int32), u, y))

abbrev rmL_merges : Room := { frames := 9, cells := 60, slots := 354, locals := 193 }

set_option maxHeartbeats 4000000 in
set_option maxRecDepth 100000 in
theorem lm_merges (l : Launch) (hst : l.stackTraces = false) (D : va_G) (cy : Nat → ClassId) (ad al : Nat → Nat) (hJ : lbJ ad al) (u : swU) (y : lyU) (x1 : Int32) (sz : Nat) (r0 : Int32) (u0 : swU) (y0 : lyU) (h : lx_merges u y x1 = some (r0, u0, y0)) : Met l yL_merges wsL_merges rmL_merges (lbC D cy ad al u y sz [.ref (ad 0), .int x1, .ref (al 0), .ref (al 1), .ref (al 2), .ref (al 3), .ref (al 4), .ref (al 5), .ref (al 6), .ref (al 7), .ref (al 8)]) (lbQ D cy ad al sz r0 u0 y0) 60 354 (lbA ad al sz) := by
  refine Met.ofW (cc := cL_merges) (maxL := 31) (ret := (some .boolean)) (by decide) rfl ?_
  intro p e s m args below meth c s₁ B hml hv
  obtain ⟨ha, hI, hK, hX, hNc, hsz⟩ := hv
  have hx := B.exec
  have hb := B.bytes
  have hr := B.returns
  have hlocks := B.notSynchronized
  have hts := atoms_spec (ws := wsL_merges) B.pre
  have hown : s.vm.findClass RL = some m.cls := findClass_of_methodNamed B.named
  have E : CallFix p m c cL_merges 31 s args wsL_merges RL := ⟨hx, hb, hml, hown, hts⟩
  have fc28 : (Cond.constant RL 28 (-100003)).before args s = true := hts _ (by decide +kernel)
  have fl92 : (Cond.constantLong RL 92 (2199023255551)).before args s = true := hts _ (by decide +kernel)
  have hS : va_S (lbA ad al sz) s.heap s.heap [] := va_S.rf
  have hF : lbF s (lbA ad al sz) ad al := lbF_of hX hsz
  obtain ⟨ls, hl, hent⟩ := sw_entry m (n := 31) ha (Nat.le_of_ble_eq_true rfl)
  rw [hent]
  have hl : lv_has ls 31 [(0, .ref (ad 0)), (1, .int x1), (2, .ref (al 0)), (3, .ref (al 1)), (4, .ref (al 2)), (5, .ref (al 3)), (6, .ref (al 4)), (7, .ref (al 5)), (8, .ref (al 6)), (9, .ref (al 7)), (10, .ref (al 8))] := hl
  unfold lx_merges at h
  refine lv_aload hx hb dL_merges_0 (lv_at hl 10 rfl) ?_
  refine lv_iconst (v := 2) hx hb dL_merges_2 (by decide) ?_
  obtain ⟨a3, ea3, ia3, h⟩ := swrd_s h
  refine ly_ald hx hb hK hI.2 (cd := 8) (by decide) rfl ia3 dL_merges_3 ea3 ?_
  refine lv_iconst (v := 2) hx hb dL_merges_4 (by decide) ?_
  refine lv_icmp_ge (tgt := 10) hx hb dL_merges_5 (by decide) (fun cc => ?_) (fun cc => ?_)
  · replace h := sw_t h cc
    refine lv_iload_n hx hb dL_merges_10 rfl (lv_at hl 1 rfl) ?_
    refine lv_aload hx hb dL_merges_11 (lv_at hl 10 rfl) ?_
    refine lv_iconst (v := 2) hx hb dL_merges_13 (by decide) ?_
    obtain ⟨a14, ea14, ia14, h⟩ := swrd_s h
    refine ly_ald hx hb hK hI.2 (cd := 8) (by decide) rfl ia14 dL_merges_14 ea14 ?_
    obtain ⟨r15, er15, h⟩ := swbd_s h
    refine ly_stS (As := [.int x1, .int a14]) (rest := []) E (lm_low l x1 a14 _ er15) (va_cwS 2 hts gL_merges_L_low rfl rfl rfl (by decide +kernel) ⟨Nat.le_of_ble_eq_true rfl, Nat.le_of_ble_eq_true rfl⟩) ⟨by show _ ≤ 60; omega, by show _ ≤ 354; omega⟩ rfl hl.1 rfl (Nat.le_of_ble_eq_true rfl) dL_merges_15 ?_
    refine lv_istore (lv' := [(11, .int r15), (0, .ref (ad 0)), (1, .int x1), (2, .ref (al 0)), (3, .ref (al 1)), (4, .ref (al 2)), (5, .ref (al 3)), (6, .ref (al 4)), (7, .ref (al 5)), (8, .ref (al 6)), (9, .ref (al 7)), (10, .ref (al 8))]) hx hb dL_merges_18 hl (by decide) rfl (fun ls hl => ?_)
    refine lv_iload hx hb dL_merges_20 (lv_at hl 0 rfl) ?_
    refine lv_iconst (v := 1) hx hb dL_merges_22 (by decide) ?_
    refine lv_iadd hx hb dL_merges_23 ?_
    refine lv_iload_n hx hb dL_merges_24 rfl (lv_at hl 2 rfl) ?_
    refine lv_iconst (v := 3) hx hb dL_merges_25 (by decide) ?_
    refine lv_ishr hx hb dL_merges_26 ?_
    refine sw_top (x := swshr x1 3) rfl ?_
    refine lv_aload hx hb dL_merges_27 (lv_at hl 11 rfl) ?_
    refine lv_iconst (v := 2) hx hb dL_merges_29 (by decide) ?_
    obtain ⟨a30, ea30, ia30, h⟩ := swrd_s h
    refine ly_ald hx hb hK hI.2 (cd := 8) (by decide) rfl ia30 dL_merges_30 ea30 ?_
    refine lv_iconst (v := 1) hx hb dL_merges_31 (by decide) ?_
    refine lv_isub hx hb dL_merges_32 ?_
    obtain ⟨r33, er33, h⟩ := swbd_s h
    refine ly_stS (As := [.int (swshr x1 3), .int (a30 - 1)]) (rest := [.int (r15 + 1)]) E (lm_low l (swshr x1 3) (a30 - 1) _ er33) (va_cwS 2 hts gL_merges_L_low rfl rfl rfl (by decide +kernel) ⟨Nat.le_of_ble_eq_true rfl, Nat.le_of_ble_eq_true rfl⟩) ⟨by show _ ≤ 60; omega, by show _ ≤ 354; omega⟩ rfl hl.1 rfl (Nat.le_of_ble_eq_true rfl) dL_merges_33 ?_
    refine lv_iadd hx hb dL_merges_36 ?_
    refine lv_aload hx hb dL_merges_37 (lv_at hl 11 rfl) ?_
    refine lv_iconst (v := 2) hx hb dL_merges_39 (by decide) ?_
    obtain ⟨a40, ea40, ia40, h⟩ := swrd_s h
    refine ly_ald hx hb hK hI.2 (cd := 8) (by decide) rfl ia40 dL_merges_40 ea40 ?_
    obtain ⟨v41_, h⟩ := swdv_s h
    refine lv_irem hx hb dL_merges_41 v41_ ?_
    refine sw_top (x := swrem (((r15 + 1) + r33)) a40) rfl ?_
    obtain ⟨y42, ey42, h⟩ := swlt_s h
    refine sw_top ey42 ?_
    refine lv_istore (lv' := [(12, .int y42), (11, .int r15), (0, .ref (ad 0)), (1, .int x1), (2, .ref (al 0)), (3, .ref (al 1)), (4, .ref (al 2)), (5, .ref (al 3)), (6, .ref (al 4)), (7, .ref (al 5)), (8, .ref (al 6)), (9, .ref (al 7)), (10, .ref (al 8))]) hx hb dL_merges_42 hl (by decide) rfl (fun ls hl => ?_)
    refine lv_iload_n hx hb dL_merges_44 rfl (lv_at hl 3 rfl) ?_
    refine lv_iconst (v := 5) hx hb dL_merges_45 (by decide) ?_
    refine lv_ishr hx hb dL_merges_46 ?_
    refine sw_top (x := swshr x1 5) rfl ?_
    refine lv_iconst (v := 3) hx hb dL_merges_47 (by decide) ?_
    obtain ⟨r48, er48, h⟩ := swbd_s h
    refine ly_stS (As := [.int (swshr x1 5), .int 3]) (rest := []) E (lm_low l (swshr x1 5) 3 _ er48) (va_cwS 2 hts gL_merges_L_low rfl rfl rfl (by decide +kernel) ⟨Nat.le_of_ble_eq_true rfl, Nat.le_of_ble_eq_true rfl⟩) ⟨by show _ ≤ 60; omega, by show _ ≤ 354; omega⟩ rfl hl.1 rfl (Nat.le_of_ble_eq_true rfl) dL_merges_48 ?_
    refine lv_iconst (v := 1) hx hb dL_merges_51 (by decide) ?_
    refine lv_isub hx hb dL_merges_52 ?_
    obtain ⟨y53, ey53, h⟩ := swlt_s h
    refine sw_top ey53 ?_
    refine lv_istore (lv' := [(13, .int y53), (12, .int y42), (11, .int r15), (0, .ref (ad 0)), (1, .int x1), (2, .ref (al 0)), (3, .ref (al 1)), (4, .ref (al 2)), (5, .ref (al 3)), (6, .ref (al 4)), (7, .ref (al 5)), (8, .ref (al 6)), (9, .ref (al 7)), (10, .ref (al 8))]) hx hb dL_merges_53 hl (by decide) rfl (fun ls hl => ?_)
    refine lv_aload hx hb dL_merges_55 (lv_at hl 10 rfl) ?_
    refine lv_iload hx hb dL_merges_57 (lv_at hl 2 rfl) ?_
    obtain ⟨a59, ea59, ia59, h⟩ := swrd_s h
    refine ly_ald hx hb hK hI.2 (cd := 5) (by decide) rfl ia59 dL_merges_59 ea59 ?_
    refine lv_istore (lv' := [(14, .int a59), (13, .int y53), (12, .int y42), (11, .int r15), (0, .ref (ad 0)), (1, .int x1), (2, .ref (al 0)), (3, .ref (al 1)), (4, .ref (al 2)), (5, .ref (al 3)), (6, .ref (al 4)), (7, .ref (al 5)), (8, .ref (al 6)), (9, .ref (al 7)), (10, .ref (al 8))]) hx hb dL_merges_60 hl (by decide) rfl (fun ls hl => ?_)
    refine lv_aload hx hb dL_merges_62 (lv_at hl 11 rfl) ?_
    refine lv_iload hx hb dL_merges_64 (lv_at hl 2 rfl) ?_
    obtain ⟨a66, ea66, ia66, h⟩ := swrd_s h
    refine ly_ald hx hb hK hI.2 (cd := 5) (by decide) rfl ia66 dL_merges_66 ea66 ?_
    refine lv_istore (lv' := [(15, .int a66), (14, .int a59), (13, .int y53), (12, .int y42), (11, .int r15), (0, .ref (ad 0)), (1, .int x1), (2, .ref (al 0)), (3, .ref (al 1)), (4, .ref (al 2)), (5, .ref (al 3)), (6, .ref (al 4)), (7, .ref (al 5)), (8, .ref (al 6)), (9, .ref (al 7)), (10, .ref (al 8))]) hx hb dL_merges_67 hl (by decide) rfl (fun ls hl => ?_)
    refine lv_iload hx hb dL_merges_69 (lv_at hl 1 rfl) ?_
    refine lv_iload hx hb dL_merges_71 (lv_at hl 0 rfl) ?_
    refine lv_aload hx hb dL_merges_73 (lv_at hl 10 rfl) ?_
    obtain ⟨r75, er75, h⟩ := swbd_s h
    refine ly_roS (As := [.int a59, .int a66, .ref (al 3)]) (rest := []) E (lm_base l D cy al y a59 a66 _ er75) (va_cwS 3 hts gL_merges_L_base rfl rfl rfl (by decide +kernel) ⟨Nat.le_of_ble_eq_true rfl, Nat.le_of_ble_eq_true rfl⟩) hK hI.2 ⟨by show _ ≤ 60; omega, by show _ ≤ 354; omega⟩ rfl hl.1 rfl (Nat.le_of_ble_eq_true rfl) dL_merges_75 ?_
    refine lv_istore (lv' := [(16, .int r75), (15, .int a66), (14, .int a59), (13, .int y53), (12, .int y42), (11, .int r15), (0, .ref (ad 0)), (1, .int x1), (2, .ref (al 0)), (3, .ref (al 1)), (4, .ref (al 2)), (5, .ref (al 3)), (6, .ref (al 4)), (7, .ref (al 5)), (8, .ref (al 6)), (9, .ref (al 7)), (10, .ref (al 8))]) hx hb dL_merges_78 hl (by decide) rfl (fun ls hl => ?_)
    refine lv_lconst (v := 0) hx hb dL_merges_80 (by decide) ?_
    refine lv_lstore (lv' := [(17, .long 0), (16, .int r75), (15, .int a66), (14, .int a59), (13, .int y53), (12, .int y42), (11, .int r15), (0, .ref (ad 0)), (1, .int x1), (2, .ref (al 0)), (3, .ref (al 1)), (4, .ref (al 2)), (5, .ref (al 3)), (6, .ref (al 4)), (7, .ref (al 5)), (8, .ref (al 6)), (9, .ref (al 7)), (10, .ref (al 8))]) hx hb dL_merges_81 hl (by decide) rfl (fun ls hl => ?_)
    refine lv_iconst (v := 0) hx hb dL_merges_83 (by decide) ?_
    refine lv_istore (lv' := [(19, .int 0), (17, .long 0), (16, .int r75), (15, .int a66), (14, .int a59), (13, .int y53), (12, .int y42), (11, .int r15), (0, .ref (ad 0)), (1, .int x1), (2, .ref (al 0)), (3, .ref (al 1)), (4, .ref (al 2)), (5, .ref (al 3)), (6, .ref (al 4)), (7, .ref (al 5)), (8, .ref (al 6)), (9, .ref (al 7)), (10, .ref (al 8))]) hx hb dL_merges_84 hl (by decide) rfl (fun ls hl => ?_)
    refine lv_aload hx hb dL_merges_86 (lv_at hl 18 rfl) ?_
    refine lv_iconst (v := 1) hx hb dL_merges_88 (by decide) ?_
    obtain ⟨a89, ea89, ia89, h⟩ := swrd_s h
    refine ly_ald hx hb hK hI.2 (cd := 8) (by decide) rfl ia89 dL_merges_89 ea89 ?_
    obtain ⟨k108_, ek108_, h⟩ := swjn_s h
    have J108 : ∀ (s108_0 : Int32) (H : Heap) (locs : List Loc) (ls : Array Slot), k108_ s108_0 = some (r0, u0, y0) → lbI D cy ad al u y H → va_S (lbA ad al sz) s.heap H locs → lv_has ls 31 [(0, .ref (ad 0)), (1, .int x1), (2, .ref (al 0)), (3, .ref (al 1)), (4, .ref (al 2)), (5, .ref (al 3)), (6, .ref (al 4)), (7, .ref (al 5)), (8, .ref (al 6)), (9, .ref (al 7)), (10, .ref (al 8)), (11, .int r15), (12, .int y42), (13, .int y53), (14, .int a59), (15, .int a66), (16, .int r75), (17, .long 0), (19, .int 0)] → W p l e (headSpec wsL_merges rmL_merges).room s m args below meth c H locs 0 0 (MQ below (lbQ D cy ad al sz r0 u0 y0) args s 60 354 (lbA ad al sz)) (F0 m 108 ls [.int s108_0]) := by
      intro s108_0 H locs ls h hI hS hl
      rw [ek108_] at h
      refine lv_istore (lv' := [(20, .int s108_0), (0, .ref (ad 0)), (1, .int x1), (2, .ref (al 0)), (3, .ref (al 1)), (4, .ref (al 2)), (5, .ref (al 3)), (6, .ref (al 4)), (7, .ref (al 5)), (8, .ref (al 6)), (9, .ref (al 7)), (10, .ref (al 8)), (11, .int r15), (12, .int y42), (13, .int y53), (14, .int a59), (15, .int a66), (16, .int r75), (17, .long 0), (19, .int 0)]) hx hb dL_merges_108 hl (by decide) rfl (fun ls hl => ?_)
      refine lv_iload_n hx hb dL_merges_110 rfl (lv_at hl 2 rfl) ?_
      refine lv_bipush (v := 9) hx hb dL_merges_111 (by decide) ?_
      refine lv_ishr hx hb dL_merges_113 ?_
      refine sw_top (x := swshr x1 9) rfl ?_
      refine lv_iconst (v := 4) hx hb dL_merges_114 (by decide) ?_
      obtain ⟨r115, er115, h⟩ := swbd_s h
      refine ly_stS (As := [.int (swshr x1 9), .int 4]) (rest := []) E (lm_low l (swshr x1 9) 4 _ er115) (va_cwS 2 hts gL_merges_L_low rfl rfl rfl (by decide +kernel) ⟨Nat.le_of_ble_eq_true rfl, Nat.le_of_ble_eq_true rfl⟩) ⟨by show _ ≤ 60; omega, by show _ ≤ 354; omega⟩ rfl hl.1 rfl (Nat.le_of_ble_eq_true rfl) dL_merges_115 ?_
      refine lv_istore (lv' := [(21, .int r115), (20, .int s108_0), (0, .ref (ad 0)), (1, .int x1), (2, .ref (al 0)), (3, .ref (al 1)), (4, .ref (al 2)), (5, .ref (al 3)), (6, .ref (al 4)), (7, .ref (al 5)), (8, .ref (al 6)), (9, .ref (al 7)), (10, .ref (al 8)), (11, .int r15), (12, .int y42), (13, .int y53), (14, .int a59), (15, .int a66), (16, .int r75), (17, .long 0), (19, .int 0)]) hx hb dL_merges_118 hl (by decide) rfl (fun ls hl => ?_)
      refine lv_aload_n hx hb dL_merges_120 rfl (lv_at hl 2 rfl) ?_
      refine lv_iload hx hb dL_merges_121 (lv_at hl 13 rfl) ?_
      refine lv_iload hx hb dL_merges_123 (lv_at hl 14 rfl) ?_
      obtain ⟨r125, w125, er125, h⟩ := swnx_s h
      refine lb_x0 (As := [.int r15, .int y42]) (rest := []) E (xm5_base l hst D cy ad hJ.1 u r15 y42 _ _ _ _ er125) (cwV 2 hts gL_merges_X5_base rfl rfl rfl (by decide +kernel) ⟨Nat.le_of_ble_eq_true rfl, Nat.le_of_ble_eq_true rfl⟩) hK hJ hF hI hS ⟨by show _ ≤ 60; omega, by show _ ≤ 354; omega⟩ rfl hl.1 rfl (Nat.le_of_ble_eq_true rfl) dL_merges_125 (fun H locs hI hS => ?_)
      refine lv_iload hx hb dL_merges_128 (lv_at hl 18 rfl) ?_
      obtain ⟨k138_, ek138_, h⟩ := swjn_s h
      have J138 : ∀ (s138_0 : Int32) (H : Heap) (locs : List Loc) (ls : Array Slot), k138_ s138_0 = some (r0, u0, y0) → lbI D cy ad al w125 y H → va_S (lbA ad al sz) s.heap H locs → lv_has ls 31 [(0, .ref (ad 0)), (1, .int x1), (2, .ref (al 0)), (3, .ref (al 1)), (4, .ref (al 2)), (5, .ref (al 3)), (6, .ref (al 4)), (7, .ref (al 5)), (8, .ref (al 6)), (9, .ref (al 7)), (10, .ref (al 8)), (11, .int r15), (12, .int y42), (13, .int y53), (14, .int a59), (15, .int a66), (16, .int r75), (17, .long 0), (19, .int 0), (20, .int s108_0), (21, .int r115)] → W p l e (headSpec wsL_merges rmL_merges).room s m args below meth c H locs 3 18 (MQ below (lbQ D cy ad al sz r0 u0 y0) args s 60 354 (lbA ad al sz)) (F0 m 138 ls [.int s138_0]) := by
        intro s138_0 H locs ls h hI hS hl
        rw [ek138_] at h
        refine lv_istore (lv' := [(22, .int s138_0), (0, .ref (ad 0)), (1, .int x1), (2, .ref (al 0)), (3, .ref (al 1)), (4, .ref (al 2)), (5, .ref (al 3)), (6, .ref (al 4)), (7, .ref (al 5)), (8, .ref (al 6)), (9, .ref (al 7)), (10, .ref (al 8)), (11, .int r15), (12, .int y42), (13, .int y53), (14, .int a59), (15, .int a66), (16, .int r75), (17, .long 0), (19, .int 0), (20, .int s108_0), (21, .int r115)]) hx hb dL_merges_138 hl (by decide) rfl (fun ls hl => ?_)
        refine lv_iconst (v := 0) hx hb dL_merges_140 (by decide) ?_
        refine lv_istore (lv' := [(23, .int 0), (22, .int s138_0), (0, .ref (ad 0)), (1, .int x1), (2, .ref (al 0)), (3, .ref (al 1)), (4, .ref (al 2)), (5, .ref (al 3)), (6, .ref (al 4)), (7, .ref (al 5)), (8, .ref (al 6)), (9, .ref (al 7)), (10, .ref (al 8)), (11, .int r15), (12, .int y42), (13, .int y53), (14, .int a59), (15, .int a66), (16, .int r75), (17, .long 0), (19, .int 0), (20, .int s108_0), (21, .int r115)]) hx hb dL_merges_141 hl (by decide) rfl (fun ls hl => ?_)
        have L143 : ∀ (kk : Int64 → Int32 → Int32 → Int32 → swU → Option (Int32 × swU × lyU)), (∀ (v17 : Int64) (v19 : Int32) (v22 : Int32) (v23 : Int32) (wu143 : swU) (H : Heap) (locs : List Loc) (ls : Array Slot), kk v17 v19 v22 v23 wu143 = some (r0, u0, y0) → lbI D cy ad al wu143 y H → va_S (lbA ad al sz) s.heap H locs → lv_has ls 31 [(0, .ref (ad 0)), (1, .int x1), (2, .ref (al 0)), (3, .ref (al 1)), (4, .ref (al 2)), (5, .ref (al 3)), (6, .ref (al 4)), (7, .ref (al 5)), (8, .ref (al 6)), (9, .ref (al 7)), (10, .ref (al 8)), (11, .int r15), (12, .int y42), (13, .int y53), (14, .int a59), (15, .int a66), (16, .int r75), (17, .long v17), (19, .int v19), (20, .int s108_0), (21, .int r115), (22, .int v22), (23, .int v23)] → W p l e (headSpec wsL_merges rmL_merges).room s m args below meth c H locs 51 306 (MQ below (lbQ D cy ad al sz r0 u0 y0) args s 60 354 (lbA ad al sz)) (F0 m 323 ls [])) → ∀ (n : Nat) (v17 : Int64) (v19 : Int32) (v22 : Int32) (v23 : Int32) (wu143 : swU) (H : Heap) (locs : List Loc) (ls : Array Slot) (c143 t143 : Nat), (c143 + 6 * n ≤ 51 ∧ t143 + 36 * n ≤ 306) →  lx_merges_L143 y r15 y42 y53 a59 a66 r75 s108_0 r115 kk n v17 v19 v22 v23 wu143 = some (r0, u0, y0) → lbI D cy ad al wu143 y H → va_S (lbA ad al sz) s.heap H locs → lv_has ls 31 [(0, .ref (ad 0)), (1, .int x1), (2, .ref (al 0)), (3, .ref (al 1)), (4, .ref (al 2)), (5, .ref (al 3)), (6, .ref (al 4)), (7, .ref (al 5)), (8, .ref (al 6)), (9, .ref (al 7)), (10, .ref (al 8)), (11, .int r15), (12, .int y42), (13, .int y53), (14, .int a59), (15, .int a66), (16, .int r75), (17, .long v17), (19, .int v19), (20, .int s108_0), (21, .int r115), (22, .int v22), (23, .int v23)] → W p l e (headSpec wsL_merges rmL_merges).room s m args below meth c H locs (c143 + 0) (t143 + 0) (MQ below (lbQ D cy ad al sz r0 u0 y0) args s 60 354 (lbA ad al sz)) (F0 m 143 ls []) := by
          intro kk hk143 n
          induction n with
          | zero => intro v17 v19 v22 v23 wu143 H locs ls c143 t143 hc143 h hI hS hl; rw [lx_merges_L143] at h; cases h
          | succ n ih143 =>
            intro v17 v19 v22 v23 wu143 H locs ls c143 t143 hc143 h hI hS hl
            rw [lx_merges_L143] at h
            refine lv_iload hx hb dL_merges_143 (lv_at hl 22 rfl) ?_
            refine lv_bipush (v := 6) hx hb dL_merges_145 (by decide) ?_
            refine lv_icmp_ge (tgt := 323) hx hb dL_merges_147 (by decide) (fun cc => ?_) (fun cc => ?_)
            · replace h := sw_t h cc
              refine W.widen (k := 51) (n := 306) (by omega) (by omega) ?_
              exact hk143 _ _ _ _ _ _ _ _ h hI hS (lv_sub hl [0, 1, 2, 3, 4, 5, 6, 7, 8, 9, 10, 11, 12, 13, 14, 15, 16, 17, 18, 19, 20, 21, 22] rfl)
            · replace h := sw_f h cc
              refine lv_iload hx hb dL_merges_150 (lv_at hl 16 rfl) ?_
              refine lv_iload hx hb dL_merges_152 (lv_at hl 22 rfl) ?_
              refine lv_aload_n hx hb dL_merges_154 rfl (lv_at hl 2 rfl) ?_
              refine lv_aload_n hx hb dL_merges_155 rfl (lv_at hl 3 rfl) ?_
              obtain ⟨r156, er156, h⟩ := swbd_s h
              refine ly_roL (As := [.int r75, .int v23, .ref (al 0), .ref (al 1)]) (rest := []) E (lm_get l D cy al y r75 v23 _ er156) (va_cwS 4 hts gL_merges_L_get rfl rfl rfl (by decide +kernel) ⟨Nat.le_of_ble_eq_true rfl, Nat.le_of_ble_eq_true rfl⟩) hK hI.2 ⟨by show _ ≤ 60; omega, by show _ ≤ 354; omega⟩ rfl hl.1 rfl (Nat.le_of_ble_eq_true rfl) dL_merges_156 ?_
              refine lv_iload hx hb dL_merges_159 (lv_at hl 14 rfl) ?_
              refine lv_iload hx hb dL_merges_161 (lv_at hl 22 rfl) ?_
              refine lv_aload_n hx hb dL_merges_163 rfl (lv_at hl 2 rfl) ?_
              refine lv_aload_n hx hb dL_merges_164 rfl (lv_at hl 3 rfl) ?_
              obtain ⟨r165, er165, h⟩ := swbd_s h
              refine ly_roL (As := [.int a59, .int v23, .ref (al 0), .ref (al 1)]) (rest := [.long r156]) E (lm_get l D cy al y a59 v23 _ er165) (va_cwS 4 hts gL_merges_L_get rfl rfl rfl (by decide +kernel) ⟨Nat.le_of_ble_eq_true rfl, Nat.le_of_ble_eq_true rfl⟩) hK hI.2 ⟨by show _ ≤ 60; omega, by show _ ≤ 354; omega⟩ rfl hl.1 rfl (Nat.le_of_ble_eq_true rfl) dL_merges_165 ?_
              refine lv_iload hx hb dL_merges_168 (lv_at hl 15 rfl) ?_
              refine lv_iload hx hb dL_merges_170 (lv_at hl 22 rfl) ?_
              refine lv_aload_n hx hb dL_merges_172 rfl (lv_at hl 2 rfl) ?_
              refine lv_aload_n hx hb dL_merges_173 rfl (lv_at hl 3 rfl) ?_
              obtain ⟨r174, er174, h⟩ := swbd_s h
              refine ly_roL (As := [.int a66, .int v23, .ref (al 0), .ref (al 1)]) (rest := [.long r165, .long r156]) E (lm_get l D cy al y a66 v23 _ er174) (va_cwS 4 hts gL_merges_L_get rfl rfl rfl (by decide +kernel) ⟨Nat.le_of_ble_eq_true rfl, Nat.le_of_ble_eq_true rfl⟩) hK hI.2 ⟨by show _ ≤ 60; omega, by show _ ≤ 354; omega⟩ rfl hl.1 rfl (Nat.le_of_ble_eq_true rfl) dL_merges_174 ?_
              refine lv_iload hx hb dL_merges_177 (lv_at hl 13 rfl) ?_
              refine lv_iconst (v := 1) hx hb dL_merges_179 (by decide) ?_
              obtain ⟨k188_, ek188_, h⟩ := swjn_s h
              have J188 : ∀ (s188_0 : Int32) (H : Heap) (locs : List Loc) (ls : Array Slot), k188_ s188_0 = some (r0, u0, y0) → lbI D cy ad al wu143 y H → va_S (lbA ad al sz) s.heap H locs → lv_has ls 31 [(0, .ref (ad 0)), (1, .int x1), (2, .ref (al 0)), (3, .ref (al 1)), (4, .ref (al 2)), (5, .ref (al 3)), (6, .ref (al 4)), (7, .ref (al 5)), (8, .ref (al 6)), (9, .ref (al 7)), (10, .ref (al 8)), (11, .int r15), (12, .int y42), (13, .int y53), (14, .int a59), (15, .int a66), (16, .int r75), (17, .long v17), (19, .int v19), (20, .int s108_0), (21, .int r115), (22, .int v22), (23, .int v23)] → W p l e (headSpec wsL_merges rmL_merges).room s m args below meth c H locs (c143 + 0) (t143 + 0) (MQ below (lbQ D cy ad al sz r0 u0 y0) args s 60 354 (lbA ad al sz)) (F0 m 188 ls [.int s188_0, .long r174, .long r165, .long r156]) := by
                intro s188_0 H locs ls h hI hS hl
                rw [ek188_] at h
                obtain ⟨r188, er188, h⟩ := swbd_s h
                refine ly_stL (As := [.long r156, .long r165, .long r174, .int s188_0]) (rest := []) E (lm_meets l r156 r165 r174 s188_0 _ er188) (va_cwS 4 hts gL_merges_L_meets rfl rfl rfl (by decide +kernel) ⟨Nat.le_of_ble_eq_true rfl, Nat.le_of_ble_eq_true rfl⟩) ⟨by show _ ≤ 60; omega, by show _ ≤ 354; omega⟩ rfl hl.1 rfl (Nat.le_of_ble_eq_true rfl) dL_merges_188 ?_
                refine lv_lstore (lv' := [(24, .long r188), (0, .ref (ad 0)), (1, .int x1), (2, .ref (al 0)), (3, .ref (al 1)), (4, .ref (al 2)), (5, .ref (al 3)), (6, .ref (al 4)), (7, .ref (al 5)), (8, .ref (al 6)), (9, .ref (al 7)), (10, .ref (al 8)), (11, .int r15), (12, .int y42), (13, .int y53), (14, .int a59), (15, .int a66), (16, .int r75), (17, .long v17), (19, .int v19), (20, .int s108_0), (21, .int r115), (22, .int v22), (23, .int v23)]) hx hb dL_merges_191 hl (by decide) rfl (fun ls hl => ?_)
                refine lv_lload hx hb dL_merges_193 (lv_at hl 18 rfl) ?_
                refine lv_lload hx hb dL_merges_195 (lv_at hl 0 rfl) ?_
                refine lv_bipush (v := 41) hx hb dL_merges_197 (by decide) ?_
                refine lv_lshr (v := (lyshr r188 41)) hx hb dL_merges_199 rfl ?_
                refine lv_ladd hx hb dL_merges_200 ?_
                obtain ⟨y201, ey201, h⟩ := swlt_s h
                refine sw_topL ey201 ?_
                refine lv_lstore (lv' := [(17, .long y201), (24, .long r188), (0, .ref (ad 0)), (1, .int x1), (2, .ref (al 0)), (3, .ref (al 1)), (4, .ref (al 2)), (5, .ref (al 3)), (6, .ref (al 4)), (7, .ref (al 5)), (8, .ref (al 6)), (9, .ref (al 7)), (10, .ref (al 8)), (11, .int r15), (12, .int y42), (13, .int y53), (14, .int a59), (15, .int a66), (16, .int r75), (19, .int v19), (20, .int s108_0), (21, .int r115), (22, .int v22), (23, .int v23)]) hx hb dL_merges_201 hl (by decide) rfl (fun ls hl => ?_)
                refine lv_lload hx hb dL_merges_203 (lv_at hl 1 rfl) ?_
                refine lv_ldc2 (v := 2199023255551) hx hb hown fl92 dL_merges_205 ?_
                refine lv_land hx hb dL_merges_208 ?_
                obtain ⟨y209, ey209, h⟩ := swlt_s h
                refine sw_topL ey209 ?_
                refine lv_lstore (lv' := [(26, .long y209), (17, .long y201), (24, .long r188), (0, .ref (ad 0)), (1, .int x1), (2, .ref (al 0)), (3, .ref (al 1)), (4, .ref (al 2)), (5, .ref (al 3)), (6, .ref (al 4)), (7, .ref (al 5)), (8, .ref (al 6)), (9, .ref (al 7)), (10, .ref (al 8)), (11, .int r15), (12, .int y42), (13, .int y53), (14, .int a59), (15, .int a66), (16, .int r75), (19, .int v19), (20, .int s108_0), (21, .int r115), (22, .int v22), (23, .int v23)]) hx hb dL_merges_209 hl (by decide) rfl (fun ls hl => ?_)
                refine lv_iload hx hb dL_merges_211 (lv_at hl 20 rfl) ?_
                obtain ⟨k247_, ek247_, h⟩ := swjn_s h
                have J247 : ∀ (s247_0 : Int32) (H : Heap) (locs : List Loc) (ls : Array Slot), k247_ s247_0 = some (r0, u0, y0) → lbI D cy ad al wu143 y H → va_S (lbA ad al sz) s.heap H locs → lv_has ls 31 [(0, .ref (ad 0)), (1, .int x1), (2, .ref (al 0)), (3, .ref (al 1)), (4, .ref (al 2)), (5, .ref (al 3)), (6, .ref (al 4)), (7, .ref (al 5)), (8, .ref (al 6)), (9, .ref (al 7)), (10, .ref (al 8)), (11, .int r15), (12, .int y42), (13, .int y53), (14, .int a59), (15, .int a66), (16, .int r75), (17, .long y201), (19, .int v19), (20, .int s108_0), (21, .int r115), (22, .int v22), (23, .int v23), (24, .long r188), (26, .long y209)] → W p l e (headSpec wsL_merges rmL_merges).room s m args below meth c H locs (c143 + 0) (t143 + 0) (MQ below (lbQ D cy ad al sz r0 u0 y0) args s 60 354 (lbA ad al sz)) (F0 m 247 ls [.int s247_0]) := by
                  intro s247_0 H locs ls h hI hS hl
                  rw [ek247_] at h
                  refine lv_istore (lv' := [(19, .int s247_0), (0, .ref (ad 0)), (1, .int x1), (2, .ref (al 0)), (3, .ref (al 1)), (4, .ref (al 2)), (5, .ref (al 3)), (6, .ref (al 4)), (7, .ref (al 5)), (8, .ref (al 6)), (9, .ref (al 7)), (10, .ref (al 8)), (11, .int r15), (12, .int y42), (13, .int y53), (14, .int a59), (15, .int a66), (16, .int r75), (17, .long y201), (20, .int s108_0), (21, .int r115), (22, .int v22), (23, .int v23), (24, .long r188), (26, .long y209)]) hx hb dL_merges_247 hl (by decide) rfl (fun ls hl => ?_)
                  refine lv_iload hx hb dL_merges_249 (lv_at hl 22 rfl) ?_
                  refine lv_iload hx hb dL_merges_251 (lv_at hl 19 rfl) ?_
                  refine lv_icmp_ne (tgt := 317) hx hb dL_merges_253 (by decide) (fun cc => ?_) (fun cc => ?_)
                  · replace h := sw_f h cc
                    refine lv_iinc (v := (v23 + 1)) (lv' := [(23, .int (v23 + 1)), (19, .int s247_0), (0, .ref (ad 0)), (1, .int x1), (2, .ref (al 0)), (3, .ref (al 1)), (4, .ref (al 2)), (5, .ref (al 3)), (6, .ref (al 4)), (7, .ref (al 5)), (8, .ref (al 6)), (9, .ref (al 7)), (10, .ref (al 8)), (11, .int r15), (12, .int y42), (13, .int y53), (14, .int a59), (15, .int a66), (16, .int r75), (17, .long y201), (20, .int s108_0), (21, .int r115), (22, .int v22), (24, .long r188), (26, .long y209)]) hx hb dL_merges_317 hl (k := 22) rfl rfl (by decide) rfl (fun ls hl => ?_)
                    refine lv_goto (tgt := 143) hx hb dL_merges_320 (by decide) ?_
                    exact ih143 _ _ _ _ _ _ _ _ _ _ ⟨by omega, by omega⟩ h hI hS (lv_sub hl [2, 3, 4, 5, 6, 7, 8, 9, 10, 11, 12, 13, 14, 15, 16, 17, 18, 19, 1, 20, 21, 22, 0] rfl)
                  · replace h := sw_t h cc
                    refine lv_iload hx hb dL_merges_256 (lv_at hl 22 rfl) ?_
                    refine lv_aload hx hb dL_merges_258 (lv_at hl 11 rfl) ?_
                    refine lv_iconst (v := 1) hx hb dL_merges_260 (by decide) ?_
                    obtain ⟨a261, ea261, ia261, h⟩ := swrd_s h
                    refine ly_ald hx hb hK hI.2 (cd := 8) (by decide) rfl ia261 dL_merges_261 ea261 ?_
                    refine lv_icmp_ge (tgt := 317) hx hb dL_merges_262 (by decide) (fun cc => ?_) (fun cc => ?_)
                    · replace h := sw_t h cc
                      refine lv_iinc (v := (v23 + 1)) (lv' := [(23, .int (v23 + 1)), (19, .int s247_0), (0, .ref (ad 0)), (1, .int x1), (2, .ref (al 0)), (3, .ref (al 1)), (4, .ref (al 2)), (5, .ref (al 3)), (6, .ref (al 4)), (7, .ref (al 5)), (8, .ref (al 6)), (9, .ref (al 7)), (10, .ref (al 8)), (11, .int r15), (12, .int y42), (13, .int y53), (14, .int a59), (15, .int a66), (16, .int r75), (17, .long y201), (20, .int s108_0), (21, .int r115), (22, .int v22), (24, .long r188), (26, .long y209)]) hx hb dL_merges_317 hl (k := 22) rfl rfl (by decide) rfl (fun ls hl => ?_)
                      refine lv_goto (tgt := 143) hx hb dL_merges_320 (by decide) ?_
                      exact ih143 _ _ _ _ _ _ _ _ _ _ ⟨by omega, by omega⟩ h hI hS (lv_sub hl [2, 3, 4, 5, 6, 7, 8, 9, 10, 11, 12, 13, 14, 15, 16, 17, 18, 19, 1, 20, 21, 22, 0] rfl)
                    · replace h := sw_f h cc
                      refine lv_iload hx hb dL_merges_265 (lv_at hl 14 rfl) ?_
                      refine lv_if_lt (tgt := 317) hx hb dL_merges_267 (by decide) (fun cc => ?_) (fun cc => ?_)
                      · replace h := sw_t h cc
                        refine lv_iinc (v := (v23 + 1)) (lv' := [(23, .int (v23 + 1)), (19, .int s247_0), (0, .ref (ad 0)), (1, .int x1), (2, .ref (al 0)), (3, .ref (al 1)), (4, .ref (al 2)), (5, .ref (al 3)), (6, .ref (al 4)), (7, .ref (al 5)), (8, .ref (al 6)), (9, .ref (al 7)), (10, .ref (al 8)), (11, .int r15), (12, .int y42), (13, .int y53), (14, .int a59), (15, .int a66), (16, .int r75), (17, .long y201), (20, .int s108_0), (21, .int r115), (22, .int v22), (24, .long r188), (26, .long y209)]) hx hb dL_merges_317 hl (k := 22) rfl rfl (by decide) rfl (fun ls hl => ?_)
                        refine lv_goto (tgt := 143) hx hb dL_merges_320 (by decide) ?_
                        exact ih143 _ _ _ _ _ _ _ _ _ _ ⟨by omega, by omega⟩ h hI hS (lv_sub hl [2, 3, 4, 5, 6, 7, 8, 9, 10, 11, 12, 13, 14, 15, 16, 17, 18, 19, 1, 20, 21, 22, 0] rfl)
                      · replace h := sw_f h cc
                        refine lv_iload hx hb dL_merges_270 (lv_at hl 21 rfl) ?_
                        refine lv_if_eq (tgt := 314) hx hb dL_merges_272 (by decide) (fun cc => ?_) (fun cc => ?_)
                        · replace h := sw_t h cc
                          refine lv_iconst (v := 0) hx hb dL_merges_314 (by decide) ?_
                          refine lv_istore (lv' := [(22, .int 0), (19, .int s247_0), (0, .ref (ad 0)), (1, .int x1), (2, .ref (al 0)), (3, .ref (al 1)), (4, .ref (al 2)), (5, .ref (al 3)), (6, .ref (al 4)), (7, .ref (al 5)), (8, .ref (al 6)), (9, .ref (al 7)), (10, .ref (al 8)), (11, .int r15), (12, .int y42), (13, .int y53), (14, .int a59), (15, .int a66), (16, .int r75), (17, .long y201), (20, .int s108_0), (21, .int r115), (23, .int v23), (24, .long r188), (26, .long y209)]) hx hb dL_merges_315 hl (by decide) rfl (fun ls hl => ?_)
                          refine lv_iinc (v := (v23 + 1)) (lv' := [(23, .int (v23 + 1)), (22, .int 0), (19, .int s247_0), (0, .ref (ad 0)), (1, .int x1), (2, .ref (al 0)), (3, .ref (al 1)), (4, .ref (al 2)), (5, .ref (al 3)), (6, .ref (al 4)), (7, .ref (al 5)), (8, .ref (al 6)), (9, .ref (al 7)), (10, .ref (al 8)), (11, .int r15), (12, .int y42), (13, .int y53), (14, .int a59), (15, .int a66), (16, .int r75), (17, .long y201), (20, .int s108_0), (21, .int r115), (24, .long r188), (26, .long y209)]) hx hb dL_merges_317 hl (k := 22) rfl rfl (by decide) rfl (fun ls hl => ?_)
                          refine lv_goto (tgt := 143) hx hb dL_merges_320 (by decide) ?_
                          exact ih143 _ _ _ _ _ _ _ _ _ _ ⟨by omega, by omega⟩ h hI hS (lv_sub hl [3, 4, 5, 6, 7, 8, 9, 10, 11, 12, 13, 14, 15, 16, 17, 18, 19, 20, 2, 21, 22, 1, 0] rfl)
                        · replace h := sw_f h cc
                          refine lv_aload_n hx hb dL_merges_275 rfl (lv_at hl 1 rfl) ?_
                          refine lv_iload hx hb dL_merges_276 (lv_at hl 12 rfl) ?_
                          refine lv_iload hx hb dL_merges_278 (lv_at hl 13 rfl) ?_
                          refine lv_iload hx hb dL_merges_280 (lv_at hl 22 rfl) ?_
                          refine lv_iload hx hb dL_merges_282 (lv_at hl 20 rfl) ?_
                          refine lv_iload hx hb dL_merges_284 (lv_at hl 14 rfl) ?_
                          obtain ⟨r286, w286, er286, h⟩ := swnx_s h
                          refine lb_x0 (As := [.int r15, .int y42, .int v23, .int r115, .int y53]) (rest := []) E (xm5_merged l hst D cy ad hJ.1 wu143 r15 y42 v23 r115 y53 _ _ _ _ er286) (cwV 5 hts gL_merges_X5_merged rfl rfl rfl (by decide +kernel) ⟨Nat.le_of_ble_eq_true rfl, Nat.le_of_ble_eq_true rfl⟩) hK hJ hF hI hS ⟨by show _ ≤ 60; omega, by show _ ≤ 354; omega⟩ rfl hl.1 rfl (Nat.le_of_ble_eq_true rfl) dL_merges_286 (fun H locs hI hS => ?_)
                          refine lv_lload hx hb dL_merges_289 (lv_at hl 24 rfl) ?_
                          refine lv_lconst (v := 0) hx hb dL_merges_291 (by decide) ?_
                          refine W.lcmp hx hb dL_merges_292 ?_
                          obtain ⟨k307_, ek307_, h⟩ := swjn_s h
                          have J307 : ∀ (s307_0 : Int32) (H : Heap) (locs : List Loc) (ls : Array Slot), k307_ s307_0 = some (r0, u0, y0) → lbI D cy ad al w286 y H → va_S (lbA ad al sz) s.heap H locs → lv_has ls 31 [(0, .ref (ad 0)), (1, .int x1), (2, .ref (al 0)), (3, .ref (al 1)), (4, .ref (al 2)), (5, .ref (al 3)), (6, .ref (al 4)), (7, .ref (al 5)), (8, .ref (al 6)), (9, .ref (al 7)), (10, .ref (al 8)), (11, .int r15), (12, .int y42), (13, .int y53), (14, .int a59), (15, .int a66), (16, .int r75), (17, .long y201), (19, .int s247_0), (20, .int s108_0), (21, .int r115), (22, .int v22), (23, .int v23), (24, .long r188), (26, .long y209)] → W p l e (headSpec wsL_merges rmL_merges).room s m args below meth c H locs (c143 + 6) (t143 + 36) (MQ below (lbQ D cy ad al sz r0 u0 y0) args s 60 354 (lbA ad al sz)) (F0 m 307 ls [.int s307_0, .int r286]) := by
                            intro s307_0 H locs ls h hI hS hl
                            rw [ek307_] at h
                            refine lv_icmp_ne (tgt := 314) hx hb dL_merges_307 (by decide) (fun cc => ?_) (fun cc => ?_)
                            · replace h := sw_f h cc
                              refine lv_iconst (v := 0) hx hb dL_merges_314 (by decide) ?_
                              refine lv_istore (lv' := [(22, .int 0), (0, .ref (ad 0)), (1, .int x1), (2, .ref (al 0)), (3, .ref (al 1)), (4, .ref (al 2)), (5, .ref (al 3)), (6, .ref (al 4)), (7, .ref (al 5)), (8, .ref (al 6)), (9, .ref (al 7)), (10, .ref (al 8)), (11, .int r15), (12, .int y42), (13, .int y53), (14, .int a59), (15, .int a66), (16, .int r75), (17, .long y201), (19, .int s247_0), (20, .int s108_0), (21, .int r115), (23, .int v23), (24, .long r188), (26, .long y209)]) hx hb dL_merges_315 hl (by decide) rfl (fun ls hl => ?_)
                              refine lv_iinc (v := (v23 + 1)) (lv' := [(23, .int (v23 + 1)), (22, .int 0), (0, .ref (ad 0)), (1, .int x1), (2, .ref (al 0)), (3, .ref (al 1)), (4, .ref (al 2)), (5, .ref (al 3)), (6, .ref (al 4)), (7, .ref (al 5)), (8, .ref (al 6)), (9, .ref (al 7)), (10, .ref (al 8)), (11, .int r15), (12, .int y42), (13, .int y53), (14, .int a59), (15, .int a66), (16, .int r75), (17, .long y201), (19, .int s247_0), (20, .int s108_0), (21, .int r115), (24, .long r188), (26, .long y209)]) hx hb dL_merges_317 hl (k := 22) rfl rfl (by decide) rfl (fun ls hl => ?_)
                              refine lv_goto (tgt := 143) hx hb dL_merges_320 (by decide) ?_
                              exact ih143 _ _ _ _ _ _ _ _ _ _ ⟨by omega, by omega⟩ h hI hS (lv_sub hl [2, 3, 4, 5, 6, 7, 8, 9, 10, 11, 12, 13, 14, 15, 16, 17, 18, 19, 20, 21, 22, 1, 0] rfl)
                            · replace h := sw_t h cc
                              refine lv_iconst (v := 1) hx hb dL_merges_310 (by decide) ?_
                              refine lv_goto (tgt := 315) hx hb dL_merges_311 (by decide) ?_
                              refine lv_istore (lv' := [(22, .int 1), (0, .ref (ad 0)), (1, .int x1), (2, .ref (al 0)), (3, .ref (al 1)), (4, .ref (al 2)), (5, .ref (al 3)), (6, .ref (al 4)), (7, .ref (al 5)), (8, .ref (al 6)), (9, .ref (al 7)), (10, .ref (al 8)), (11, .int r15), (12, .int y42), (13, .int y53), (14, .int a59), (15, .int a66), (16, .int r75), (17, .long y201), (19, .int s247_0), (20, .int s108_0), (21, .int r115), (23, .int v23), (24, .long r188), (26, .long y209)]) hx hb dL_merges_315 hl (by decide) rfl (fun ls hl => ?_)
                              refine lv_iinc (v := (v23 + 1)) (lv' := [(23, .int (v23 + 1)), (22, .int 1), (0, .ref (ad 0)), (1, .int x1), (2, .ref (al 0)), (3, .ref (al 1)), (4, .ref (al 2)), (5, .ref (al 3)), (6, .ref (al 4)), (7, .ref (al 5)), (8, .ref (al 6)), (9, .ref (al 7)), (10, .ref (al 8)), (11, .int r15), (12, .int y42), (13, .int y53), (14, .int a59), (15, .int a66), (16, .int r75), (17, .long y201), (19, .int s247_0), (20, .int s108_0), (21, .int r115), (24, .long r188), (26, .long y209)]) hx hb dL_merges_317 hl (k := 22) rfl rfl (by decide) rfl (fun ls hl => ?_)
                              refine lv_goto (tgt := 143) hx hb dL_merges_320 (by decide) ?_
                              exact ih143 _ _ _ _ _ _ _ _ _ _ ⟨by omega, by omega⟩ h hI hS (lv_sub hl [2, 3, 4, 5, 6, 7, 8, 9, 10, 11, 12, 13, 14, 15, 16, 17, 18, 19, 20, 21, 22, 1, 0] rfl)
                          clear ek307_
                          refine lv_if_ne (tgt := 300) hx hb dL_merges_293 (by decide) (fun cc => ?_) (fun cc => ?_)
                          · replace h := sw_f h cc
                            refine lv_lload hx hb dL_merges_300 (lv_at hl 24 rfl) ?_
                            refine lv_iload hx hb dL_merges_302 (lv_at hl 20 rfl) ?_
                            obtain ⟨r304, er304, h⟩ := swbd_s h
                            refine ly_stS (As := [.long y209, .int r115]) (rest := [.int r286]) E (lm_value l y209 r115 _ er304) (va_cwS 2 hts gL_merges_L_value rfl rfl rfl (by decide +kernel) ⟨Nat.le_of_ble_eq_true rfl, Nat.le_of_ble_eq_true rfl⟩) ⟨by show _ ≤ 60; omega, by show _ ≤ 354; omega⟩ rfl hl.1 rfl (Nat.le_of_ble_eq_true rfl) dL_merges_304 ?_
                            exact J307 _ _ _ _ h hI hS (lv_sub hl [1, 2, 3, 4, 5, 6, 7, 8, 9, 10, 11, 12, 13, 14, 15, 16, 17, 18, 0, 19, 20, 21, 22, 23, 24] rfl)
                          · replace h := sw_t h cc
                            refine lv_iconst (v := (-1)) hx hb dL_merges_296 (by decide) ?_
                            refine lv_goto (tgt := 307) hx hb dL_merges_297 (by decide) ?_
                            exact J307 _ _ _ _ h hI hS (lv_sub hl [1, 2, 3, 4, 5, 6, 7, 8, 9, 10, 11, 12, 13, 14, 15, 16, 17, 18, 0, 19, 20, 21, 22, 23, 24] rfl)
                clear ek247_
                refine lv_if_ne (tgt := 242) hx hb dL_merges_213 (by decide) (fun cc => ?_) (fun cc => ?_)
                · replace h := sw_f h cc
                  refine lv_iconst (v := 1) hx hb dL_merges_242 (by decide) ?_
                  refine lv_goto (tgt := 247) hx hb dL_merges_243 (by decide) ?_
                  exact J247 _ _ _ _ h hI hS (lv_sub hl [3, 4, 5, 6, 7, 8, 9, 10, 11, 12, 13, 14, 15, 16, 17, 18, 19, 1, 20, 21, 22, 23, 24, 2, 0] rfl)
                · replace h := sw_t h cc
                  refine lv_lload hx hb dL_merges_216 (lv_at hl 0 rfl) ?_
                  refine lv_lconst (v := 0) hx hb dL_merges_218 (by decide) ?_
                  refine W.lcmp hx hb dL_merges_219 ?_
                  refine lv_if_eq (tgt := 246) hx hb dL_merges_220 (by decide) (fun cc => ?_) (fun cc => ?_)
                  · replace h := sw_t h cc
                    refine lv_iconst (v := 0) hx hb dL_merges_246 (by decide) ?_
                    exact J247 _ _ _ _ h hI hS (lv_sub hl [3, 4, 5, 6, 7, 8, 9, 10, 11, 12, 13, 14, 15, 16, 17, 18, 19, 1, 20, 21, 22, 23, 24, 2, 0] rfl)
                  · replace h := sw_f h cc
                    refine lv_iload hx hb dL_merges_223 (lv_at hl 24 rfl) ?_
                    refine lv_lload hx hb dL_merges_225 (lv_at hl 0 rfl) ?_
                    refine lv_aload hx hb dL_merges_227 (lv_at hl 11 rfl) ?_
                    refine lv_aload hx hb dL_merges_229 (lv_at hl 12 rfl) ?_
                    refine lv_aload hx hb dL_merges_231 (lv_at hl 13 rfl) ?_
                    obtain ⟨r233, er233, h⟩ := swbd_s h
                    refine ly_roS (As := [.int v23, .long y209, .ref (al 6), .ref (al 7), .ref (al 8)]) (rest := []) E (lm_blocks l D cy al y v23 y209 _ er233) (va_cwS 5 hts gL_merges_L_blocks rfl rfl rfl (by decide +kernel) ⟨Nat.le_of_ble_eq_true rfl, Nat.le_of_ble_eq_true rfl⟩) hK hI.2 ⟨by show _ ≤ 60; omega, by show _ ≤ 354; omega⟩ rfl hl.1 rfl (Nat.le_of_ble_eq_true rfl) dL_merges_233 ?_
                    refine lv_bipush (v := 64) hx hb dL_merges_236 (by decide) ?_
                    refine lv_irem hx hb dL_merges_238 (by decide) ?_
                    refine sw_top (x := swrem r233 64) rfl ?_
                    refine lv_if_le (tgt := 246) hx hb dL_merges_239 (by decide) (fun cc => ?_) (fun cc => ?_)
                    · replace h := sw_t h cc
                      refine lv_iconst (v := 0) hx hb dL_merges_246 (by decide) ?_
                      exact J247 _ _ _ _ h hI hS (lv_sub hl [3, 4, 5, 6, 7, 8, 9, 10, 11, 12, 13, 14, 15, 16, 17, 18, 19, 1, 20, 21, 22, 23, 24, 2, 0] rfl)
                    · replace h := sw_f h cc
                      refine lv_iconst (v := 1) hx hb dL_merges_242 (by decide) ?_
                      refine lv_goto (tgt := 247) hx hb dL_merges_243 (by decide) ?_
                      exact J247 _ _ _ _ h hI hS (lv_sub hl [3, 4, 5, 6, 7, 8, 9, 10, 11, 12, 13, 14, 15, 16, 17, 18, 19, 1, 20, 21, 22, 23, 24, 2, 0] rfl)
              clear ek188_
              refine lv_icmp_ge (tgt := 187) hx hb dL_merges_180 (by decide) (fun cc => ?_) (fun cc => ?_)
              · replace h := sw_t h cc
                refine lv_iconst (v := 0) hx hb dL_merges_187 (by decide) ?_
                exact J188 _ _ _ _ h hI hS (lv_sub hl [0, 1, 2, 3, 4, 5, 6, 7, 8, 9, 10, 11, 12, 13, 14, 15, 16, 17, 18, 19, 20, 21, 22] rfl)
              · replace h := sw_f h cc
                refine lv_iconst (v := 1) hx hb dL_merges_183 (by decide) ?_
                refine lv_goto (tgt := 188) hx hb dL_merges_184 (by decide) ?_
                exact J188 _ _ _ _ h hI hS (lv_sub hl [0, 1, 2, 3, 4, 5, 6, 7, 8, 9, 10, 11, 12, 13, 14, 15, 16, 17, 18, 19, 20, 21, 22] rfl)
        refine L143 _ (fun v17 v19 v22 v23 wu323 H locs ls h hI hS hl => ?_) 8 _ _ _ _ _ _ _ _ _ _ ⟨by omega, by omega⟩ h hI hS (lv_sub hl [2, 3, 4, 5, 6, 7, 8, 9, 10, 11, 12, 13, 14, 15, 16, 17, 18, 19, 20, 21, 22, 1, 0] rfl)
        refine lv_iload hx hb dL_merges_323 (lv_at hl 21 rfl) ?_
        obtain ⟨k348_, ek348_, h⟩ := swjn_s h
        have J348 : ∀ (s348_0 : Int32) (uj348 : swU) (H : Heap) (locs : List Loc) (ls : Array Slot), k348_ s348_0 uj348 = some (r0, u0, y0) → lbI D cy ad al uj348 y H → va_S (lbA ad al sz) s.heap H locs → lv_has ls 31 [(0, .ref (ad 0)), (1, .int x1), (2, .ref (al 0)), (3, .ref (al 1)), (4, .ref (al 2)), (5, .ref (al 3)), (6, .ref (al 4)), (7, .ref (al 5)), (8, .ref (al 6)), (9, .ref (al 7)), (10, .ref (al 8)), (11, .int r15), (12, .int y42), (13, .int y53), (14, .int a59), (15, .int a66), (16, .int r75), (17, .long v17), (19, .int v19), (20, .int s108_0), (21, .int r115), (22, .int v22), (23, .int v23)] → W p l e (headSpec wsL_merges rmL_merges).room s m args below meth c H locs 55 327 (MQ below (lbQ D cy ad al sz r0 u0 y0) args s 60 354 (lbA ad al sz)) (F0 m 348 ls [.int s348_0]) := by
          intro s348_0 uj348 H locs ls h hI hS hl
          rw [ek348_] at h
          refine lv_istore (lv' := [(22, .int s348_0), (0, .ref (ad 0)), (1, .int x1), (2, .ref (al 0)), (3, .ref (al 1)), (4, .ref (al 2)), (5, .ref (al 3)), (6, .ref (al 4)), (7, .ref (al 5)), (8, .ref (al 6)), (9, .ref (al 7)), (10, .ref (al 8)), (11, .int r15), (12, .int y42), (13, .int y53), (14, .int a59), (15, .int a66), (16, .int r75), (17, .long v17), (19, .int v19), (20, .int s108_0), (21, .int r115), (23, .int v23)]) hx hb dL_merges_348 hl (by decide) rfl (fun ls hl => ?_)
          refine lv_iload hx hb dL_merges_350 (lv_at hl 14 rfl) ?_
          obtain ⟨k372_, ek372_, h⟩ := swjn_s h
          have J372 : ∀ (s372_0 : Int32) (H : Heap) (locs : List Loc) (ls : Array Slot), k372_ s372_0 = some (r0, u0, y0) → lbI D cy ad al uj348 y H → va_S (lbA ad al sz) s.heap H locs → lv_has ls 31 [(0, .ref (ad 0)), (1, .int x1), (2, .ref (al 0)), (3, .ref (al 1)), (4, .ref (al 2)), (5, .ref (al 3)), (6, .ref (al 4)), (7, .ref (al 5)), (8, .ref (al 6)), (9, .ref (al 7)), (10, .ref (al 8)), (11, .int r15), (12, .int y42), (13, .int y53), (14, .int a59), (15, .int a66), (16, .int r75), (17, .long v17), (19, .int v19), (20, .int s108_0), (21, .int r115), (22, .int s348_0), (23, .int v23)] → W p l e (headSpec wsL_merges rmL_merges).room s m args below meth c H locs 55 327 (MQ below (lbQ D cy ad al sz r0 u0 y0) args s 60 354 (lbA ad al sz)) (F0 m 372 ls [.int s372_0]) := by
            intro s372_0 H locs ls h hI hS hl
            rw [ek372_] at h
            refine lv_istore (lv' := [(23, .int s372_0), (0, .ref (ad 0)), (1, .int x1), (2, .ref (al 0)), (3, .ref (al 1)), (4, .ref (al 2)), (5, .ref (al 3)), (6, .ref (al 4)), (7, .ref (al 5)), (8, .ref (al 6)), (9, .ref (al 7)), (10, .ref (al 8)), (11, .int r15), (12, .int y42), (13, .int y53), (14, .int a59), (15, .int a66), (16, .int r75), (17, .long v17), (19, .int v19), (20, .int s108_0), (21, .int r115), (22, .int s348_0)]) hx hb dL_merges_372 hl (by decide) rfl (fun ls hl => ?_)
            refine lv_aload hx hb dL_merges_374 (lv_at hl 11 rfl) ?_
            refine lv_iconst (v := 0) hx hb dL_merges_376 (by decide) ?_
            obtain ⟨a377, ea377, ia377, h⟩ := swrd_s h
            refine ly_ald hx hb hK hI.2 (cd := 8) (by decide) rfl ia377 dL_merges_377 ea377 ?_
            refine lv_bipush (v := 21) hx hb dL_merges_378 (by decide) ?_
            refine lv_icmp_ne (tgt := 386) hx hb dL_merges_380 (by decide) (fun cc => ?_) (fun cc => ?_)
            · replace h := sw_f h cc
              refine lv_iload hx hb dL_merges_386 (lv_at hl 0 rfl) ?_
              refine lv_if_ne (tgt := 418) hx hb dL_merges_388 (by decide) (fun cc => ?_) (fun cc => ?_)
              · replace h := sw_f h cc
                refine lv_iload hx hb dL_merges_418 (lv_at hl 12 rfl) ?_
                refine lv_aload_n hx hb dL_merges_420 rfl (lv_at hl 3 rfl) ?_
                refine lv_aload_n hx hb dL_merges_421 rfl (lv_at hl 4 rfl) ?_
                refine lv_aload hx hb dL_merges_422 (lv_at hl 5 rfl) ?_
                refine lv_aload hx hb dL_merges_424 (lv_at hl 6 rfl) ?_
                refine lv_aload hx hb dL_merges_426 (lv_at hl 7 rfl) ?_
                refine lv_aload hx hb dL_merges_428 (lv_at hl 8 rfl) ?_
                refine lv_aload hx hb dL_merges_430 (lv_at hl 11 rfl) ?_
                obtain ⟨⟨r432, u432⟩, er432, h⟩ := swbd_s h
                refine lb_rwI (As := [.int r15, .ref (al 0), .ref (al 1), .ref (al 2), .ref (al 3), .ref (al 4), .ref (al 5), .ref (al 8)]) (rest := []) E (lm_copy l D cy al hJ.2.1 y r15 _ _ er432) (va_cwS 8 hts gL_merges_L_copy rfl rfl rfl (by decide +kernel) ⟨Nat.le_of_ble_eq_true rfl, Nat.le_of_ble_eq_true rfl⟩) hK hJ hF hI hS ⟨by show _ ≤ 60; omega, by show _ ≤ 354; omega⟩ rfl hl.1 rfl (Nat.le_of_ble_eq_true rfl) dL_merges_432 (fun H locs hI hS => ?_)
                refine lv_istore (lv' := [(24, .int r432), (23, .int s372_0), (0, .ref (ad 0)), (1, .int x1), (2, .ref (al 0)), (3, .ref (al 1)), (4, .ref (al 2)), (5, .ref (al 3)), (6, .ref (al 4)), (7, .ref (al 5)), (8, .ref (al 6)), (9, .ref (al 7)), (10, .ref (al 8)), (11, .int r15), (12, .int y42), (13, .int y53), (14, .int a59), (15, .int a66), (16, .int r75), (17, .long v17), (19, .int v19), (20, .int s108_0), (21, .int r115), (22, .int s348_0)]) hx hb dL_merges_435 hl (by decide) rfl (fun ls hl => ?_)
                refine lv_iconst (v := 0) hx hb dL_merges_437 (by decide) ?_
                refine lv_istore (lv' := [(25, .int 0), (24, .int r432), (23, .int s372_0), (0, .ref (ad 0)), (1, .int x1), (2, .ref (al 0)), (3, .ref (al 1)), (4, .ref (al 2)), (5, .ref (al 3)), (6, .ref (al 4)), (7, .ref (al 5)), (8, .ref (al 6)), (9, .ref (al 7)), (10, .ref (al 8)), (11, .int r15), (12, .int y42), (13, .int y53), (14, .int a59), (15, .int a66), (16, .int r75), (17, .long v17), (19, .int v19), (20, .int s108_0), (21, .int r115), (22, .int s348_0)]) hx hb dL_merges_438 hl (by decide) rfl (fun ls hl => ?_)
                refine lv_iconst (v := 0) hx hb dL_merges_440 (by decide) ?_
                refine lv_istore (lv' := [(26, .int 0), (25, .int 0), (24, .int r432), (23, .int s372_0), (0, .ref (ad 0)), (1, .int x1), (2, .ref (al 0)), (3, .ref (al 1)), (4, .ref (al 2)), (5, .ref (al 3)), (6, .ref (al 4)), (7, .ref (al 5)), (8, .ref (al 6)), (9, .ref (al 7)), (10, .ref (al 8)), (11, .int r15), (12, .int y42), (13, .int y53), (14, .int a59), (15, .int a66), (16, .int r75), (17, .long v17), (19, .int v19), (20, .int s108_0), (21, .int r115), (22, .int s348_0)]) hx hb dL_merges_441 hl (by decide) rfl (fun ls hl => ?_)
                refine lv_iconst (v := 0) hx hb dL_merges_443 (by decide) ?_
                refine lv_istore (lv' := [(27, .int 0), (26, .int 0), (25, .int 0), (24, .int r432), (23, .int s372_0), (0, .ref (ad 0)), (1, .int x1), (2, .ref (al 0)), (3, .ref (al 1)), (4, .ref (al 2)), (5, .ref (al 3)), (6, .ref (al 4)), (7, .ref (al 5)), (8, .ref (al 6)), (9, .ref (al 7)), (10, .ref (al 8)), (11, .int r15), (12, .int y42), (13, .int y53), (14, .int a59), (15, .int a66), (16, .int r75), (17, .long v17), (19, .int v19), (20, .int s108_0), (21, .int r115), (22, .int s348_0)]) hx hb dL_merges_444 hl (by decide) rfl (fun ls hl => ?_)
                have L446 : ∀ (kk : Int32 → Int32 → Int32 → lyU → Option (Int32 × swU × lyU)), (∀ (v25 : Int32) (v26 : Int32) (v27 : Int32) (wy446 : lyU) (H : Heap) (locs : List Loc) (ls : Array Slot), kk v25 v26 v27 wy446 = some (r0, u0, y0) → lbI D cy ad al uj348 wy446 H → va_S (lbA ad al sz) s.heap H locs → lv_has ls 31 [(0, .ref (ad 0)), (1, .int x1), (2, .ref (al 0)), (3, .ref (al 1)), (4, .ref (al 2)), (5, .ref (al 3)), (6, .ref (al 4)), (7, .ref (al 5)), (8, .ref (al 6)), (9, .ref (al 7)), (10, .ref (al 8)), (11, .int r15), (12, .int y42), (13, .int y53), (14, .int a59), (15, .int a66), (16, .int r75), (17, .long v17), (19, .int v19), (20, .int s108_0), (21, .int r115), (22, .int s348_0), (23, .int s372_0), (24, .int r432), (25, .int v25), (26, .int v26), (27, .int v27)] → W p l e (headSpec wsL_merges rmL_merges).room s m args below meth c H locs 55 327 (MQ below (lbQ D cy ad al sz r0 u0 y0) args s 60 354 (lbA ad al sz)) (F0 m 617 ls [])) → ∀ (n : Nat) (v25 : Int32) (v26 : Int32) (v27 : Int32) (wy446 : lyU) (H : Heap) (locs : List Loc) (ls : Array Slot), lx_merges_L446 uj348 y53 a59 a66 r75 r432 kk n v25 v26 v27 wy446 = some (r0, u0, y0) → lbI D cy ad al uj348 wy446 H → va_S (lbA ad al sz) s.heap H locs → lv_has ls 31 [(0, .ref (ad 0)), (1, .int x1), (2, .ref (al 0)), (3, .ref (al 1)), (4, .ref (al 2)), (5, .ref (al 3)), (6, .ref (al 4)), (7, .ref (al 5)), (8, .ref (al 6)), (9, .ref (al 7)), (10, .ref (al 8)), (11, .int r15), (12, .int y42), (13, .int y53), (14, .int a59), (15, .int a66), (16, .int r75), (17, .long v17), (19, .int v19), (20, .int s108_0), (21, .int r115), (22, .int s348_0), (23, .int s372_0), (24, .int r432), (25, .int v25), (26, .int v26), (27, .int v27)] → W p l e (headSpec wsL_merges rmL_merges).room s m args below meth c H locs 55 327 (MQ below (lbQ D cy ad al sz r0 u0 y0) args s 60 354 (lbA ad al sz)) (F0 m 446 ls []) := by
                  intro kk hk446 n
                  induction n with
                  | zero => intro v25 v26 v27 wy446 H locs ls h hI hS hl; rw [lx_merges_L446] at h; cases h
                  | succ n ih446 =>
                    intro v25 v26 v27 wy446 H locs ls h hI hS hl
                    rw [lx_merges_L446] at h
                    refine lv_iload hx hb dL_merges_446 (lv_at hl 26 rfl) ?_
                    refine lv_bipush (v := 12) hx hb dL_merges_448 (by decide) ?_
                    refine lv_icmp_ge (tgt := 617) hx hb dL_merges_450 (by decide) (fun cc => ?_) (fun cc => ?_)
                    · replace h := sw_t h cc
                      exact hk446 _ _ _ _ _ _ _ h hI hS (lv_sub hl [0, 1, 2, 3, 4, 5, 6, 7, 8, 9, 10, 11, 12, 13, 14, 15, 16, 17, 18, 19, 20, 21, 22, 23, 24, 25, 26] rfl)
                    · replace h := sw_f h cc
                      refine lv_aload hx hb dL_merges_453 (lv_at hl 4 rfl) ?_
                      refine lv_iload hx hb dL_merges_455 (lv_at hl 26 rfl) ?_
                      refine lv_bipush (v := 6) hx hb dL_merges_457 (by decide) ?_
                      obtain ⟨k469_, ek469_, h⟩ := swjn_s h
                      have J469 : ∀ (s469_0 : Int32) (H : Heap) (locs : List Loc) (ls : Array Slot), k469_ s469_0 = some (r0, u0, y0) → lbI D cy ad al uj348 wy446 H → va_S (lbA ad al sz) s.heap H locs → lv_has ls 31 [(0, .ref (ad 0)), (1, .int x1), (2, .ref (al 0)), (3, .ref (al 1)), (4, .ref (al 2)), (5, .ref (al 3)), (6, .ref (al 4)), (7, .ref (al 5)), (8, .ref (al 6)), (9, .ref (al 7)), (10, .ref (al 8)), (11, .int r15), (12, .int y42), (13, .int y53), (14, .int a59), (15, .int a66), (16, .int r75), (17, .long v17), (19, .int v19), (20, .int s108_0), (21, .int r115), (22, .int s348_0), (23, .int s372_0), (24, .int r432), (25, .int v25), (26, .int v26), (27, .int v27)] → W p l e (headSpec wsL_merges rmL_merges).room s m args below meth c H locs 55 327 (MQ below (lbQ D cy ad al sz r0 u0 y0) args s 60 354 (lbA ad al sz)) (F0 m 469 ls [.int s469_0, .ref (al 2)]) := by
                        intro s469_0 H locs ls h hI hS hl
                        rw [ek469_] at h
                        obtain ⟨a469, ea469, ia469, h⟩ := swrd_s h
                        refine ly_ald hx hb hK hI.2 (cd := 2) (by decide) rfl ia469 dL_merges_469 ea469 ?_
                        refine lv_iconst (v := 3) hx hb dL_merges_470 (by decide) ?_
                        refine lv_iload hx hb dL_merges_471 (lv_at hl 26 rfl) ?_
                        refine lv_bipush (v := 6) hx hb dL_merges_473 (by decide) ?_
                        refine lv_irem hx hb dL_merges_475 (by decide) ?_
                        refine sw_top (x := swrem v27 6) rfl ?_
                        refine lv_imul hx hb dL_merges_476 ?_
                        refine lv_ishr hx hb dL_merges_477 ?_
                        refine sw_top (x := swshr a469 (((3 : Int32) * (swrem v27 6)))) rfl ?_
                        refine lv_bipush (v := 8) hx hb dL_merges_478 (by decide) ?_
                        refine lv_irem hx hb dL_merges_480 (by decide) ?_
                        refine sw_top (x := swrem ((swshr a469 (((3 : Int32) * (swrem v27 6))))) 8) rfl ?_
                        refine lv_iconst (v := 1) hx hb dL_merges_481 (by decide) ?_
                        refine lv_isub hx hb dL_merges_482 ?_
                        obtain ⟨y483, ey483, h⟩ := swlt_s h
                        refine sw_top ey483 ?_
                        refine lv_istore (lv' := [(28, .int y483), (0, .ref (ad 0)), (1, .int x1), (2, .ref (al 0)), (3, .ref (al 1)), (4, .ref (al 2)), (5, .ref (al 3)), (6, .ref (al 4)), (7, .ref (al 5)), (8, .ref (al 6)), (9, .ref (al 7)), (10, .ref (al 8)), (11, .int r15), (12, .int y42), (13, .int y53), (14, .int a59), (15, .int a66), (16, .int r75), (17, .long v17), (19, .int v19), (20, .int s108_0), (21, .int r115), (22, .int s348_0), (23, .int s372_0), (24, .int r432), (25, .int v25), (26, .int v26), (27, .int v27)]) hx hb dL_merges_483 hl (by decide) rfl (fun ls hl => ?_)
                        refine lv_iload hx hb dL_merges_485 (lv_at hl 0 rfl) ?_
                        refine lv_if_lt (tgt := 611) hx hb dL_merges_487 (by decide) (fun cc => ?_) (fun cc => ?_)
                        · replace h := sw_t h cc
                          refine lv_iinc (v := (v27 + 1)) (lv' := [(27, .int (v27 + 1)), (28, .int y483), (0, .ref (ad 0)), (1, .int x1), (2, .ref (al 0)), (3, .ref (al 1)), (4, .ref (al 2)), (5, .ref (al 3)), (6, .ref (al 4)), (7, .ref (al 5)), (8, .ref (al 6)), (9, .ref (al 7)), (10, .ref (al 8)), (11, .int r15), (12, .int y42), (13, .int y53), (14, .int a59), (15, .int a66), (16, .int r75), (17, .long v17), (19, .int v19), (20, .int s108_0), (21, .int r115), (22, .int s348_0), (23, .int s372_0), (24, .int r432), (25, .int v25), (26, .int v26)]) hx hb dL_merges_611 hl (k := 27) rfl rfl (by decide) rfl (fun ls hl => ?_)
                          refine lv_goto (tgt := 446) hx hb dL_merges_614 (by decide) ?_
                          exact ih446 _ _ _ _ _ _ _ h hI hS (lv_sub hl [2, 3, 4, 5, 6, 7, 8, 9, 10, 11, 12, 13, 14, 15, 16, 17, 18, 19, 20, 21, 22, 23, 24, 25, 26, 27, 0] rfl)
                        · replace h := sw_f h cc
                          refine lv_iload hx hb dL_merges_490 (lv_at hl 27 rfl) ?_
                          refine lv_bipush (v := 6) hx hb dL_merges_492 (by decide) ?_
                          refine lv_icmp_lt (tgt := 511) hx hb dL_merges_494 (by decide) (fun cc => ?_) (fun cc => ?_)
                          · replace h := sw_t h cc
                            refine lv_iload hx hb dL_merges_511 (lv_at hl 17 rfl) ?_
                            refine lv_iload hx hb dL_merges_513 (lv_at hl 0 rfl) ?_
                            refine lv_aload_n hx hb dL_merges_515 rfl (lv_at hl 3 rfl) ?_
                            refine lv_aload_n hx hb dL_merges_516 rfl (lv_at hl 4 rfl) ?_
                            obtain ⟨r517, er517, h⟩ := swbd_s h
                            refine ly_roL (As := [.int r75, .int y483, .ref (al 0), .ref (al 1)]) (rest := []) E (lm_get l D cy al wy446 r75 y483 _ er517) (va_cwS 4 hts gL_merges_L_get rfl rfl rfl (by decide +kernel) ⟨Nat.le_of_ble_eq_true rfl, Nat.le_of_ble_eq_true rfl⟩) hK hI.2 ⟨by show _ ≤ 60; omega, by show _ ≤ 354; omega⟩ rfl hl.1 rfl (Nat.le_of_ble_eq_true rfl) dL_merges_517 ?_
                            refine lv_iload hx hb dL_merges_520 (lv_at hl 15 rfl) ?_
                            refine lv_iload hx hb dL_merges_522 (lv_at hl 0 rfl) ?_
                            refine lv_aload_n hx hb dL_merges_524 rfl (lv_at hl 3 rfl) ?_
                            refine lv_aload_n hx hb dL_merges_525 rfl (lv_at hl 4 rfl) ?_
                            obtain ⟨r526, er526, h⟩ := swbd_s h
                            refine ly_roL (As := [.int a59, .int y483, .ref (al 0), .ref (al 1)]) (rest := [.long r517]) E (lm_get l D cy al wy446 a59 y483 _ er526) (va_cwS 4 hts gL_merges_L_get rfl rfl rfl (by decide +kernel) ⟨Nat.le_of_ble_eq_true rfl, Nat.le_of_ble_eq_true rfl⟩) hK hI.2 ⟨by show _ ≤ 60; omega, by show _ ≤ 354; omega⟩ rfl hl.1 rfl (Nat.le_of_ble_eq_true rfl) dL_merges_526 ?_
                            refine lv_iload hx hb dL_merges_529 (lv_at hl 16 rfl) ?_
                            refine lv_iload hx hb dL_merges_531 (lv_at hl 0 rfl) ?_
                            refine lv_aload_n hx hb dL_merges_533 rfl (lv_at hl 3 rfl) ?_
                            refine lv_aload_n hx hb dL_merges_534 rfl (lv_at hl 4 rfl) ?_
                            obtain ⟨r535, er535, h⟩ := swbd_s h
                            refine ly_roL (As := [.int a66, .int y483, .ref (al 0), .ref (al 1)]) (rest := [.long r526, .long r517]) E (lm_get l D cy al wy446 a66 y483 _ er535) (va_cwS 4 hts gL_merges_L_get rfl rfl rfl (by decide +kernel) ⟨Nat.le_of_ble_eq_true rfl, Nat.le_of_ble_eq_true rfl⟩) hK hI.2 ⟨by show _ ≤ 60; omega, by show _ ≤ 354; omega⟩ rfl hl.1 rfl (Nat.le_of_ble_eq_true rfl) dL_merges_535 ?_
                            refine lv_iload hx hb dL_merges_538 (lv_at hl 14 rfl) ?_
                            refine lv_iconst (v := 1) hx hb dL_merges_540 (by decide) ?_
                            obtain ⟨k549_, ek549_, h⟩ := swjn_s h
                            have J549 : ∀ (s549_0 : Int32) (H : Heap) (locs : List Loc) (ls : Array Slot), k549_ s549_0 = some (r0, u0, y0) → lbI D cy ad al uj348 wy446 H → va_S (lbA ad al sz) s.heap H locs → lv_has ls 31 [(0, .ref (ad 0)), (1, .int x1), (2, .ref (al 0)), (3, .ref (al 1)), (4, .ref (al 2)), (5, .ref (al 3)), (6, .ref (al 4)), (7, .ref (al 5)), (8, .ref (al 6)), (9, .ref (al 7)), (10, .ref (al 8)), (11, .int r15), (12, .int y42), (13, .int y53), (14, .int a59), (15, .int a66), (16, .int r75), (17, .long v17), (19, .int v19), (20, .int s108_0), (21, .int r115), (22, .int s348_0), (23, .int s372_0), (24, .int r432), (25, .int v25), (26, .int v26), (27, .int v27), (28, .int y483)] → W p l e (headSpec wsL_merges rmL_merges).room s m args below meth c H locs 55 327 (MQ below (lbQ D cy ad al sz r0 u0 y0) args s 60 354 (lbA ad al sz)) (F0 m 549 ls [.int s549_0, .long r535, .long r526, .long r517]) := by
                              intro s549_0 H locs ls h hI hS hl
                              rw [ek549_] at h
                              obtain ⟨r549, er549, h⟩ := swbd_s h
                              refine ly_stL (As := [.long r517, .long r526, .long r535, .int s549_0]) (rest := []) E (lm_meets l r517 r526 r535 s549_0 _ er549) (va_cwS 4 hts gL_merges_L_meets rfl rfl rfl (by decide +kernel) ⟨Nat.le_of_ble_eq_true rfl, Nat.le_of_ble_eq_true rfl⟩) ⟨by show _ ≤ 60; omega, by show _ ≤ 354; omega⟩ rfl hl.1 rfl (Nat.le_of_ble_eq_true rfl) dL_merges_549 ?_
                              refine lv_ldc2 (v := 2199023255551) hx hb hown fl92 dL_merges_552 ?_
                              refine lv_land hx hb dL_merges_555 ?_
                              obtain ⟨y556, ey556, h⟩ := swlt_s h
                              refine sw_topL ey556 ?_
                              refine lv_lstore (lv' := [(29, .long y556), (0, .ref (ad 0)), (1, .int x1), (2, .ref (al 0)), (3, .ref (al 1)), (4, .ref (al 2)), (5, .ref (al 3)), (6, .ref (al 4)), (7, .ref (al 5)), (8, .ref (al 6)), (9, .ref (al 7)), (10, .ref (al 8)), (11, .int r15), (12, .int y42), (13, .int y53), (14, .int a59), (15, .int a66), (16, .int r75), (17, .long v17), (19, .int v19), (20, .int s108_0), (21, .int r115), (22, .int s348_0), (23, .int s372_0), (24, .int r432), (25, .int v25), (26, .int v26), (27, .int v27), (28, .int y483)]) hx hb dL_merges_556 hl (by decide) rfl (fun ls hl => ?_)
                              refine lv_iload hx hb dL_merges_558 (lv_at hl 24 rfl) ?_
                              refine lv_iload hx hb dL_merges_560 (lv_at hl 28 rfl) ?_
                              refine lv_lload hx hb dL_merges_562 (lv_at hl 0 rfl) ?_
                              refine lv_aload_n hx hb dL_merges_564 rfl (lv_at hl 3 rfl) ?_
                              refine lv_aload_n hx hb dL_merges_565 rfl (lv_at hl 4 rfl) ?_
                              obtain ⟨u566, er566, h⟩ := swbd_s h
                              refine lb_rwV (As := [.int r432, .int y483, .long y556, .ref (al 0), .ref (al 1)]) (rest := []) E (lm_put l D cy al hJ.2.1 wy446 r432 y483 y556 _ er566) (va_cwS 5 hts gL_merges_L_put rfl rfl rfl (by decide +kernel) ⟨Nat.le_of_ble_eq_true rfl, Nat.le_of_ble_eq_true rfl⟩) hK hJ hF hI hS ⟨by show _ ≤ 60; omega, by show _ ≤ 354; omega⟩ rfl hl.1 rfl (Nat.le_of_ble_eq_true rfl) dL_merges_566 (fun H locs hI hS => ?_)
                              refine lv_iload hx hb dL_merges_569 (lv_at hl 25 rfl) ?_
                              refine lv_lload hx hb dL_merges_571 (lv_at hl 0 rfl) ?_
                              refine lv_lconst (v := 0) hx hb dL_merges_573 (by decide) ?_
                              refine W.lcmp hx hb dL_merges_574 ?_
                              obtain ⟨k591_, ek591_, h⟩ := swjn_s h
                              have J591 : ∀ (s591_0 : Int32) (H : Heap) (locs : List Loc) (ls : Array Slot), k591_ s591_0 = some (r0, u0, y0) → lbI D cy ad al uj348 u566 H → va_S (lbA ad al sz) s.heap H locs → lv_has ls 31 [(0, .ref (ad 0)), (1, .int x1), (2, .ref (al 0)), (3, .ref (al 1)), (4, .ref (al 2)), (5, .ref (al 3)), (6, .ref (al 4)), (7, .ref (al 5)), (8, .ref (al 6)), (9, .ref (al 7)), (10, .ref (al 8)), (11, .int r15), (12, .int y42), (13, .int y53), (14, .int a59), (15, .int a66), (16, .int r75), (17, .long v17), (19, .int v19), (20, .int s108_0), (21, .int r115), (22, .int s348_0), (23, .int s372_0), (24, .int r432), (25, .int v25), (26, .int v26), (27, .int v27), (28, .int y483), (29, .long y556)] → W p l e (headSpec wsL_merges rmL_merges).room s m args below meth c H locs 55 327 (MQ below (lbQ D cy ad al sz r0 u0 y0) args s 60 354 (lbA ad al sz)) (F0 m 591 ls [.int s591_0, .int v25]) := by
                                intro s591_0 H locs ls h hI hS hl
                                rw [ek591_] at h
                                refine lv_ior hx hb dL_merges_591 ?_
                                obtain ⟨y592, ey592, h⟩ := swlt_s h
                                refine sw_top ey592 ?_
                                refine lv_istore (lv' := [(25, .int y592), (0, .ref (ad 0)), (1, .int x1), (2, .ref (al 0)), (3, .ref (al 1)), (4, .ref (al 2)), (5, .ref (al 3)), (6, .ref (al 4)), (7, .ref (al 5)), (8, .ref (al 6)), (9, .ref (al 7)), (10, .ref (al 8)), (11, .int r15), (12, .int y42), (13, .int y53), (14, .int a59), (15, .int a66), (16, .int r75), (17, .long v17), (19, .int v19), (20, .int s108_0), (21, .int r115), (22, .int s348_0), (23, .int s372_0), (24, .int r432), (26, .int v26), (27, .int v27), (28, .int y483), (29, .long y556)]) hx hb dL_merges_592 hl (by decide) rfl (fun ls hl => ?_)
                                refine lv_iload hx hb dL_merges_594 (lv_at hl 25 rfl) ?_
                                refine lv_lload hx hb dL_merges_596 (lv_at hl 28 rfl) ?_
                                refine lv_lconst (v := 0) hx hb dL_merges_598 (by decide) ?_
                                refine W.lcmp hx hb dL_merges_599 ?_
                                obtain ⟨k608_, ek608_, h⟩ := swjn_s h
                                have J608 : ∀ (s608_0 : Int32) (H : Heap) (locs : List Loc) (ls : Array Slot), k608_ s608_0 = some (r0, u0, y0) → lbI D cy ad al uj348 u566 H → va_S (lbA ad al sz) s.heap H locs → lv_has ls 31 [(0, .ref (ad 0)), (1, .int x1), (2, .ref (al 0)), (3, .ref (al 1)), (4, .ref (al 2)), (5, .ref (al 3)), (6, .ref (al 4)), (7, .ref (al 5)), (8, .ref (al 6)), (9, .ref (al 7)), (10, .ref (al 8)), (11, .int r15), (12, .int y42), (13, .int y53), (14, .int a59), (15, .int a66), (16, .int r75), (17, .long v17), (19, .int v19), (20, .int s108_0), (21, .int r115), (22, .int s348_0), (23, .int s372_0), (24, .int r432), (25, .int y592), (26, .int v26), (27, .int v27), (28, .int y483), (29, .long y556)] → W p l e (headSpec wsL_merges rmL_merges).room s m args below meth c H locs 55 327 (MQ below (lbQ D cy ad al sz r0 u0 y0) args s 60 354 (lbA ad al sz)) (F0 m 608 ls [.int s608_0, .int v26]) := by
                                  intro s608_0 H locs ls h hI hS hl
                                  rw [ek608_] at h
                                  refine lv_iadd hx hb dL_merges_608 ?_
                                  obtain ⟨y609, ey609, h⟩ := swlt_s h
                                  refine sw_top ey609 ?_
                                  refine lv_istore (lv' := [(26, .int y609), (0, .ref (ad 0)), (1, .int x1), (2, .ref (al 0)), (3, .ref (al 1)), (4, .ref (al 2)), (5, .ref (al 3)), (6, .ref (al 4)), (7, .ref (al 5)), (8, .ref (al 6)), (9, .ref (al 7)), (10, .ref (al 8)), (11, .int r15), (12, .int y42), (13, .int y53), (14, .int a59), (15, .int a66), (16, .int r75), (17, .long v17), (19, .int v19), (20, .int s108_0), (21, .int r115), (22, .int s348_0), (23, .int s372_0), (24, .int r432), (25, .int y592), (27, .int v27), (28, .int y483), (29, .long y556)]) hx hb dL_merges_609 hl (by decide) rfl (fun ls hl => ?_)
                                  refine lv_iinc (v := (v27 + 1)) (lv' := [(27, .int (v27 + 1)), (26, .int y609), (0, .ref (ad 0)), (1, .int x1), (2, .ref (al 0)), (3, .ref (al 1)), (4, .ref (al 2)), (5, .ref (al 3)), (6, .ref (al 4)), (7, .ref (al 5)), (8, .ref (al 6)), (9, .ref (al 7)), (10, .ref (al 8)), (11, .int r15), (12, .int y42), (13, .int y53), (14, .int a59), (15, .int a66), (16, .int r75), (17, .long v17), (19, .int v19), (20, .int s108_0), (21, .int r115), (22, .int s348_0), (23, .int s372_0), (24, .int r432), (25, .int y592), (28, .int y483), (29, .long y556)]) hx hb dL_merges_611 hl (k := 26) rfl rfl (by decide) rfl (fun ls hl => ?_)
                                  refine lv_goto (tgt := 446) hx hb dL_merges_614 (by decide) ?_
                                  exact ih446 _ _ _ _ _ _ _ h hI hS (lv_sub hl [2, 3, 4, 5, 6, 7, 8, 9, 10, 11, 12, 13, 14, 15, 16, 17, 18, 19, 20, 21, 22, 23, 24, 25, 26, 1, 0] rfl)
                                clear ek608_
                                refine lv_if_ne (tgt := 607) hx hb dL_merges_600 (by decide) (fun cc => ?_) (fun cc => ?_)
                                · replace h := sw_f h cc
                                  refine lv_iconst (v := 1) hx hb dL_merges_607 (by decide) ?_
                                  exact J608 _ _ _ _ h hI hS (lv_sub hl [1, 2, 3, 4, 5, 6, 7, 8, 9, 10, 11, 12, 13, 14, 15, 16, 17, 18, 19, 20, 21, 22, 23, 24, 0, 25, 26, 27, 28] rfl)
                                · replace h := sw_t h cc
                                  refine lv_iconst (v := 0) hx hb dL_merges_603 (by decide) ?_
                                  refine lv_goto (tgt := 608) hx hb dL_merges_604 (by decide) ?_
                                  exact J608 _ _ _ _ h hI hS (lv_sub hl [1, 2, 3, 4, 5, 6, 7, 8, 9, 10, 11, 12, 13, 14, 15, 16, 17, 18, 19, 20, 21, 22, 23, 24, 0, 25, 26, 27, 28] rfl)
                              clear ek591_
                              refine lv_if_ne (tgt := 582) hx hb dL_merges_575 (by decide) (fun cc => ?_) (fun cc => ?_)
                              · replace h := sw_f h cc
                                refine lv_iload hx hb dL_merges_582 (lv_at hl 28 rfl) ?_
                                refine lv_iconst (v := 1) hx hb dL_merges_584 (by decide) ?_
                                refine lv_iadd hx hb dL_merges_585 ?_
                                refine lv_iconst (v := 3) hx hb dL_merges_586 (by decide) ?_
                                refine lv_iload hx hb dL_merges_587 (lv_at hl 26 rfl) ?_
                                refine lv_imul hx hb dL_merges_589 ?_
                                refine lv_ishl hx hb dL_merges_590 ?_
                                refine sw_top (x := swshl (y483 + 1) (((3 : Int32) * v26))) rfl ?_
                                exact J591 _ _ _ _ h hI hS (lv_sub hl [1, 2, 3, 4, 5, 6, 7, 8, 9, 10, 11, 12, 13, 14, 15, 16, 17, 18, 19, 20, 21, 22, 23, 24, 25, 26, 27, 28, 0] rfl)
                              · replace h := sw_t h cc
                                refine lv_iconst (v := 0) hx hb dL_merges_578 (by decide) ?_
                                refine lv_goto (tgt := 591) hx hb dL_merges_579 (by decide) ?_
                                exact J591 _ _ _ _ h hI hS (lv_sub hl [1, 2, 3, 4, 5, 6, 7, 8, 9, 10, 11, 12, 13, 14, 15, 16, 17, 18, 19, 20, 21, 22, 23, 24, 25, 26, 27, 28, 0] rfl)
                            clear ek549_
                            refine lv_icmp_ge (tgt := 548) hx hb dL_merges_541 (by decide) (fun cc => ?_) (fun cc => ?_)
                            · replace h := sw_t h cc
                              refine lv_iconst (v := 0) hx hb dL_merges_548 (by decide) ?_
                              exact J549 _ _ _ _ h hI hS (lv_sub hl [1, 2, 3, 4, 5, 6, 7, 8, 9, 10, 11, 12, 13, 14, 15, 16, 17, 18, 19, 20, 21, 22, 23, 24, 25, 26, 27, 0] rfl)
                            · replace h := sw_f h cc
                              refine lv_iconst (v := 1) hx hb dL_merges_544 (by decide) ?_
                              refine lv_goto (tgt := 549) hx hb dL_merges_545 (by decide) ?_
                              exact J549 _ _ _ _ h hI hS (lv_sub hl [1, 2, 3, 4, 5, 6, 7, 8, 9, 10, 11, 12, 13, 14, 15, 16, 17, 18, 19, 20, 21, 22, 23, 24, 25, 26, 27, 0] rfl)
                          · replace h := sw_f h cc
                            refine lv_iload hx hb dL_merges_497 (lv_at hl 15 rfl) ?_
                            refine lv_iload hx hb dL_merges_499 (lv_at hl 0 rfl) ?_
                            refine lv_aload_n hx hb dL_merges_501 rfl (lv_at hl 3 rfl) ?_
                            refine lv_aload_n hx hb dL_merges_502 rfl (lv_at hl 4 rfl) ?_
                            obtain ⟨r503, er503, h⟩ := swbd_s h
                            refine ly_roL (As := [.int a59, .int y483, .ref (al 0), .ref (al 1)]) (rest := []) E (lm_get l D cy al wy446 a59 y483 _ er503) (va_cwS 4 hts gL_merges_L_get rfl rfl rfl (by decide +kernel) ⟨Nat.le_of_ble_eq_true rfl, Nat.le_of_ble_eq_true rfl⟩) hK hI.2 ⟨by show _ ≤ 60; omega, by show _ ≤ 354; omega⟩ rfl hl.1 rfl (Nat.le_of_ble_eq_true rfl) dL_merges_503 ?_
                            refine lv_lconst (v := 0) hx hb dL_merges_506 (by decide) ?_
                            refine W.lcmp hx hb dL_merges_507 ?_
                            refine lv_if_ne (tgt := 611) hx hb dL_merges_508 (by decide) (fun cc => ?_) (fun cc => ?_)
                            · replace h := sw_f h cc
                              refine lv_iinc (v := (v27 + 1)) (lv' := [(27, .int (v27 + 1)), (28, .int y483), (0, .ref (ad 0)), (1, .int x1), (2, .ref (al 0)), (3, .ref (al 1)), (4, .ref (al 2)), (5, .ref (al 3)), (6, .ref (al 4)), (7, .ref (al 5)), (8, .ref (al 6)), (9, .ref (al 7)), (10, .ref (al 8)), (11, .int r15), (12, .int y42), (13, .int y53), (14, .int a59), (15, .int a66), (16, .int r75), (17, .long v17), (19, .int v19), (20, .int s108_0), (21, .int r115), (22, .int s348_0), (23, .int s372_0), (24, .int r432), (25, .int v25), (26, .int v26)]) hx hb dL_merges_611 hl (k := 27) rfl rfl (by decide) rfl (fun ls hl => ?_)
                              refine lv_goto (tgt := 446) hx hb dL_merges_614 (by decide) ?_
                              exact ih446 _ _ _ _ _ _ _ h hI hS (lv_sub hl [2, 3, 4, 5, 6, 7, 8, 9, 10, 11, 12, 13, 14, 15, 16, 17, 18, 19, 20, 21, 22, 23, 24, 25, 26, 27, 0] rfl)
                            · replace h := sw_t h cc
                              refine lv_iload hx hb dL_merges_511 (lv_at hl 17 rfl) ?_
                              refine lv_iload hx hb dL_merges_513 (lv_at hl 0 rfl) ?_
                              refine lv_aload_n hx hb dL_merges_515 rfl (lv_at hl 3 rfl) ?_
                              refine lv_aload_n hx hb dL_merges_516 rfl (lv_at hl 4 rfl) ?_
                              obtain ⟨r517, er517, h⟩ := swbd_s h
                              refine ly_roL (As := [.int r75, .int y483, .ref (al 0), .ref (al 1)]) (rest := []) E (lm_get l D cy al wy446 r75 y483 _ er517) (va_cwS 4 hts gL_merges_L_get rfl rfl rfl (by decide +kernel) ⟨Nat.le_of_ble_eq_true rfl, Nat.le_of_ble_eq_true rfl⟩) hK hI.2 ⟨by show _ ≤ 60; omega, by show _ ≤ 354; omega⟩ rfl hl.1 rfl (Nat.le_of_ble_eq_true rfl) dL_merges_517 ?_
                              refine lv_iload hx hb dL_merges_520 (lv_at hl 15 rfl) ?_
                              refine lv_iload hx hb dL_merges_522 (lv_at hl 0 rfl) ?_
                              refine lv_aload_n hx hb dL_merges_524 rfl (lv_at hl 3 rfl) ?_
                              refine lv_aload_n hx hb dL_merges_525 rfl (lv_at hl 4 rfl) ?_
                              obtain ⟨r526, er526, h⟩ := swbd_s h
                              refine ly_roL (As := [.int a59, .int y483, .ref (al 0), .ref (al 1)]) (rest := [.long r517]) E (lm_get l D cy al wy446 a59 y483 _ er526) (va_cwS 4 hts gL_merges_L_get rfl rfl rfl (by decide +kernel) ⟨Nat.le_of_ble_eq_true rfl, Nat.le_of_ble_eq_true rfl⟩) hK hI.2 ⟨by show _ ≤ 60; omega, by show _ ≤ 354; omega⟩ rfl hl.1 rfl (Nat.le_of_ble_eq_true rfl) dL_merges_526 ?_
                              refine lv_iload hx hb dL_merges_529 (lv_at hl 16 rfl) ?_
                              refine lv_iload hx hb dL_merges_531 (lv_at hl 0 rfl) ?_
                              refine lv_aload_n hx hb dL_merges_533 rfl (lv_at hl 3 rfl) ?_
                              refine lv_aload_n hx hb dL_merges_534 rfl (lv_at hl 4 rfl) ?_
                              obtain ⟨r535, er535, h⟩ := swbd_s h
                              refine ly_roL (As := [.int a66, .int y483, .ref (al 0), .ref (al 1)]) (rest := [.long r526, .long r517]) E (lm_get l D cy al wy446 a66 y483 _ er535) (va_cwS 4 hts gL_merges_L_get rfl rfl rfl (by decide +kernel) ⟨Nat.le_of_ble_eq_true rfl, Nat.le_of_ble_eq_true rfl⟩) hK hI.2 ⟨by show _ ≤ 60; omega, by show _ ≤ 354; omega⟩ rfl hl.1 rfl (Nat.le_of_ble_eq_true rfl) dL_merges_535 ?_
                              refine lv_iload hx hb dL_merges_538 (lv_at hl 14 rfl) ?_
                              refine lv_iconst (v := 1) hx hb dL_merges_540 (by decide) ?_
                              obtain ⟨k549_, ek549_, h⟩ := swjn_s h
                              have J549 : ∀ (s549_0 : Int32) (H : Heap) (locs : List Loc) (ls : Array Slot), k549_ s549_0 = some (r0, u0, y0) → lbI D cy ad al uj348 wy446 H → va_S (lbA ad al sz) s.heap H locs → lv_has ls 31 [(0, .ref (ad 0)), (1, .int x1), (2, .ref (al 0)), (3, .ref (al 1)), (4, .ref (al 2)), (5, .ref (al 3)), (6, .ref (al 4)), (7, .ref (al 5)), (8, .ref (al 6)), (9, .ref (al 7)), (10, .ref (al 8)), (11, .int r15), (12, .int y42), (13, .int y53), (14, .int a59), (15, .int a66), (16, .int r75), (17, .long v17), (19, .int v19), (20, .int s108_0), (21, .int r115), (22, .int s348_0), (23, .int s372_0), (24, .int r432), (25, .int v25), (26, .int v26), (27, .int v27), (28, .int y483)] → W p l e (headSpec wsL_merges rmL_merges).room s m args below meth c H locs 55 327 (MQ below (lbQ D cy ad al sz r0 u0 y0) args s 60 354 (lbA ad al sz)) (F0 m 549 ls [.int s549_0, .long r535, .long r526, .long r517]) := by
                                intro s549_0 H locs ls h hI hS hl
                                rw [ek549_] at h
                                obtain ⟨r549, er549, h⟩ := swbd_s h
                                refine ly_stL (As := [.long r517, .long r526, .long r535, .int s549_0]) (rest := []) E (lm_meets l r517 r526 r535 s549_0 _ er549) (va_cwS 4 hts gL_merges_L_meets rfl rfl rfl (by decide +kernel) ⟨Nat.le_of_ble_eq_true rfl, Nat.le_of_ble_eq_true rfl⟩) ⟨by show _ ≤ 60; omega, by show _ ≤ 354; omega⟩ rfl hl.1 rfl (Nat.le_of_ble_eq_true rfl) dL_merges_549 ?_
                                refine lv_ldc2 (v := 2199023255551) hx hb hown fl92 dL_merges_552 ?_
                                refine lv_land hx hb dL_merges_555 ?_
                                obtain ⟨y556, ey556, h⟩ := swlt_s h
                                refine sw_topL ey556 ?_
                                refine lv_lstore (lv' := [(29, .long y556), (0, .ref (ad 0)), (1, .int x1), (2, .ref (al 0)), (3, .ref (al 1)), (4, .ref (al 2)), (5, .ref (al 3)), (6, .ref (al 4)), (7, .ref (al 5)), (8, .ref (al 6)), (9, .ref (al 7)), (10, .ref (al 8)), (11, .int r15), (12, .int y42), (13, .int y53), (14, .int a59), (15, .int a66), (16, .int r75), (17, .long v17), (19, .int v19), (20, .int s108_0), (21, .int r115), (22, .int s348_0), (23, .int s372_0), (24, .int r432), (25, .int v25), (26, .int v26), (27, .int v27), (28, .int y483)]) hx hb dL_merges_556 hl (by decide) rfl (fun ls hl => ?_)
                                refine lv_iload hx hb dL_merges_558 (lv_at hl 24 rfl) ?_
                                refine lv_iload hx hb dL_merges_560 (lv_at hl 28 rfl) ?_
                                refine lv_lload hx hb dL_merges_562 (lv_at hl 0 rfl) ?_
                                refine lv_aload_n hx hb dL_merges_564 rfl (lv_at hl 3 rfl) ?_
                                refine lv_aload_n hx hb dL_merges_565 rfl (lv_at hl 4 rfl) ?_
                                obtain ⟨u566, er566, h⟩ := swbd_s h
                                refine lb_rwV (As := [.int r432, .int y483, .long y556, .ref (al 0), .ref (al 1)]) (rest := []) E (lm_put l D cy al hJ.2.1 wy446 r432 y483 y556 _ er566) (va_cwS 5 hts gL_merges_L_put rfl rfl rfl (by decide +kernel) ⟨Nat.le_of_ble_eq_true rfl, Nat.le_of_ble_eq_true rfl⟩) hK hJ hF hI hS ⟨by show _ ≤ 60; omega, by show _ ≤ 354; omega⟩ rfl hl.1 rfl (Nat.le_of_ble_eq_true rfl) dL_merges_566 (fun H locs hI hS => ?_)
                                refine lv_iload hx hb dL_merges_569 (lv_at hl 25 rfl) ?_
                                refine lv_lload hx hb dL_merges_571 (lv_at hl 0 rfl) ?_
                                refine lv_lconst (v := 0) hx hb dL_merges_573 (by decide) ?_
                                refine W.lcmp hx hb dL_merges_574 ?_
                                obtain ⟨k591_, ek591_, h⟩ := swjn_s h
                                have J591 : ∀ (s591_0 : Int32) (H : Heap) (locs : List Loc) (ls : Array Slot), k591_ s591_0 = some (r0, u0, y0) → lbI D cy ad al uj348 u566 H → va_S (lbA ad al sz) s.heap H locs → lv_has ls 31 [(0, .ref (ad 0)), (1, .int x1), (2, .ref (al 0)), (3, .ref (al 1)), (4, .ref (al 2)), (5, .ref (al 3)), (6, .ref (al 4)), (7, .ref (al 5)), (8, .ref (al 6)), (9, .ref (al 7)), (10, .ref (al 8)), (11, .int r15), (12, .int y42), (13, .int y53), (14, .int a59), (15, .int a66), (16, .int r75), (17, .long v17), (19, .int v19), (20, .int s108_0), (21, .int r115), (22, .int s348_0), (23, .int s372_0), (24, .int r432), (25, .int v25), (26, .int v26), (27, .int v27), (28, .int y483), (29, .long y556)] → W p l e (headSpec wsL_merges rmL_merges).room s m args below meth c H locs 55 327 (MQ below (lbQ D cy ad al sz r0 u0 y0) args s 60 354 (lbA ad al sz)) (F0 m 591 ls [.int s591_0, .int v25]) := by
                                  intro s591_0 H locs ls h hI hS hl
                                  rw [ek591_] at h
                                  refine lv_ior hx hb dL_merges_591 ?_
                                  obtain ⟨y592, ey592, h⟩ := swlt_s h
                                  refine sw_top ey592 ?_
                                  refine lv_istore (lv' := [(25, .int y592), (0, .ref (ad 0)), (1, .int x1), (2, .ref (al 0)), (3, .ref (al 1)), (4, .ref (al 2)), (5, .ref (al 3)), (6, .ref (al 4)), (7, .ref (al 5)), (8, .ref (al 6)), (9, .ref (al 7)), (10, .ref (al 8)), (11, .int r15), (12, .int y42), (13, .int y53), (14, .int a59), (15, .int a66), (16, .int r75), (17, .long v17), (19, .int v19), (20, .int s108_0), (21, .int r115), (22, .int s348_0), (23, .int s372_0), (24, .int r432), (26, .int v26), (27, .int v27), (28, .int y483), (29, .long y556)]) hx hb dL_merges_592 hl (by decide) rfl (fun ls hl => ?_)
                                  refine lv_iload hx hb dL_merges_594 (lv_at hl 25 rfl) ?_
                                  refine lv_lload hx hb dL_merges_596 (lv_at hl 28 rfl) ?_
                                  refine lv_lconst (v := 0) hx hb dL_merges_598 (by decide) ?_
                                  refine W.lcmp hx hb dL_merges_599 ?_
                                  obtain ⟨k608_, ek608_, h⟩ := swjn_s h
                                  have J608 : ∀ (s608_0 : Int32) (H : Heap) (locs : List Loc) (ls : Array Slot), k608_ s608_0 = some (r0, u0, y0) → lbI D cy ad al uj348 u566 H → va_S (lbA ad al sz) s.heap H locs → lv_has ls 31 [(0, .ref (ad 0)), (1, .int x1), (2, .ref (al 0)), (3, .ref (al 1)), (4, .ref (al 2)), (5, .ref (al 3)), (6, .ref (al 4)), (7, .ref (al 5)), (8, .ref (al 6)), (9, .ref (al 7)), (10, .ref (al 8)), (11, .int r15), (12, .int y42), (13, .int y53), (14, .int a59), (15, .int a66), (16, .int r75), (17, .long v17), (19, .int v19), (20, .int s108_0), (21, .int r115), (22, .int s348_0), (23, .int s372_0), (24, .int r432), (25, .int y592), (26, .int v26), (27, .int v27), (28, .int y483), (29, .long y556)] → W p l e (headSpec wsL_merges rmL_merges).room s m args below meth c H locs 55 327 (MQ below (lbQ D cy ad al sz r0 u0 y0) args s 60 354 (lbA ad al sz)) (F0 m 608 ls [.int s608_0, .int v26]) := by
                                    intro s608_0 H locs ls h hI hS hl
                                    rw [ek608_] at h
                                    refine lv_iadd hx hb dL_merges_608 ?_
                                    obtain ⟨y609, ey609, h⟩ := swlt_s h
                                    refine sw_top ey609 ?_
                                    refine lv_istore (lv' := [(26, .int y609), (0, .ref (ad 0)), (1, .int x1), (2, .ref (al 0)), (3, .ref (al 1)), (4, .ref (al 2)), (5, .ref (al 3)), (6, .ref (al 4)), (7, .ref (al 5)), (8, .ref (al 6)), (9, .ref (al 7)), (10, .ref (al 8)), (11, .int r15), (12, .int y42), (13, .int y53), (14, .int a59), (15, .int a66), (16, .int r75), (17, .long v17), (19, .int v19), (20, .int s108_0), (21, .int r115), (22, .int s348_0), (23, .int s372_0), (24, .int r432), (25, .int y592), (27, .int v27), (28, .int y483), (29, .long y556)]) hx hb dL_merges_609 hl (by decide) rfl (fun ls hl => ?_)
                                    refine lv_iinc (v := (v27 + 1)) (lv' := [(27, .int (v27 + 1)), (26, .int y609), (0, .ref (ad 0)), (1, .int x1), (2, .ref (al 0)), (3, .ref (al 1)), (4, .ref (al 2)), (5, .ref (al 3)), (6, .ref (al 4)), (7, .ref (al 5)), (8, .ref (al 6)), (9, .ref (al 7)), (10, .ref (al 8)), (11, .int r15), (12, .int y42), (13, .int y53), (14, .int a59), (15, .int a66), (16, .int r75), (17, .long v17), (19, .int v19), (20, .int s108_0), (21, .int r115), (22, .int s348_0), (23, .int s372_0), (24, .int r432), (25, .int y592), (28, .int y483), (29, .long y556)]) hx hb dL_merges_611 hl (k := 26) rfl rfl (by decide) rfl (fun ls hl => ?_)
                                    refine lv_goto (tgt := 446) hx hb dL_merges_614 (by decide) ?_
                                    exact ih446 _ _ _ _ _ _ _ h hI hS (lv_sub hl [2, 3, 4, 5, 6, 7, 8, 9, 10, 11, 12, 13, 14, 15, 16, 17, 18, 19, 20, 21, 22, 23, 24, 25, 26, 1, 0] rfl)
                                  clear ek608_
                                  refine lv_if_ne (tgt := 607) hx hb dL_merges_600 (by decide) (fun cc => ?_) (fun cc => ?_)
                                  · replace h := sw_f h cc
                                    refine lv_iconst (v := 1) hx hb dL_merges_607 (by decide) ?_
                                    exact J608 _ _ _ _ h hI hS (lv_sub hl [1, 2, 3, 4, 5, 6, 7, 8, 9, 10, 11, 12, 13, 14, 15, 16, 17, 18, 19, 20, 21, 22, 23, 24, 0, 25, 26, 27, 28] rfl)
                                  · replace h := sw_t h cc
                                    refine lv_iconst (v := 0) hx hb dL_merges_603 (by decide) ?_
                                    refine lv_goto (tgt := 608) hx hb dL_merges_604 (by decide) ?_
                                    exact J608 _ _ _ _ h hI hS (lv_sub hl [1, 2, 3, 4, 5, 6, 7, 8, 9, 10, 11, 12, 13, 14, 15, 16, 17, 18, 19, 20, 21, 22, 23, 24, 0, 25, 26, 27, 28] rfl)
                                clear ek591_
                                refine lv_if_ne (tgt := 582) hx hb dL_merges_575 (by decide) (fun cc => ?_) (fun cc => ?_)
                                · replace h := sw_f h cc
                                  refine lv_iload hx hb dL_merges_582 (lv_at hl 28 rfl) ?_
                                  refine lv_iconst (v := 1) hx hb dL_merges_584 (by decide) ?_
                                  refine lv_iadd hx hb dL_merges_585 ?_
                                  refine lv_iconst (v := 3) hx hb dL_merges_586 (by decide) ?_
                                  refine lv_iload hx hb dL_merges_587 (lv_at hl 26 rfl) ?_
                                  refine lv_imul hx hb dL_merges_589 ?_
                                  refine lv_ishl hx hb dL_merges_590 ?_
                                  refine sw_top (x := swshl (y483 + 1) (((3 : Int32) * v26))) rfl ?_
                                  exact J591 _ _ _ _ h hI hS (lv_sub hl [1, 2, 3, 4, 5, 6, 7, 8, 9, 10, 11, 12, 13, 14, 15, 16, 17, 18, 19, 20, 21, 22, 23, 24, 25, 26, 27, 28, 0] rfl)
                                · replace h := sw_t h cc
                                  refine lv_iconst (v := 0) hx hb dL_merges_578 (by decide) ?_
                                  refine lv_goto (tgt := 591) hx hb dL_merges_579 (by decide) ?_
                                  exact J591 _ _ _ _ h hI hS (lv_sub hl [1, 2, 3, 4, 5, 6, 7, 8, 9, 10, 11, 12, 13, 14, 15, 16, 17, 18, 19, 20, 21, 22, 23, 24, 25, 26, 27, 28, 0] rfl)
                              clear ek549_
                              refine lv_icmp_ge (tgt := 548) hx hb dL_merges_541 (by decide) (fun cc => ?_) (fun cc => ?_)
                              · replace h := sw_t h cc
                                refine lv_iconst (v := 0) hx hb dL_merges_548 (by decide) ?_
                                exact J549 _ _ _ _ h hI hS (lv_sub hl [1, 2, 3, 4, 5, 6, 7, 8, 9, 10, 11, 12, 13, 14, 15, 16, 17, 18, 19, 20, 21, 22, 23, 24, 25, 26, 27, 0] rfl)
                              · replace h := sw_f h cc
                                refine lv_iconst (v := 1) hx hb dL_merges_544 (by decide) ?_
                                refine lv_goto (tgt := 549) hx hb dL_merges_545 (by decide) ?_
                                exact J549 _ _ _ _ h hI hS (lv_sub hl [1, 2, 3, 4, 5, 6, 7, 8, 9, 10, 11, 12, 13, 14, 15, 16, 17, 18, 19, 20, 21, 22, 23, 24, 25, 26, 27, 0] rfl)
                      clear ek469_
                      refine lv_icmp_ge (tgt := 467) hx hb dL_merges_459 (by decide) (fun cc => ?_) (fun cc => ?_)
                      · replace h := sw_t h cc
                        refine lv_iload hx hb dL_merges_467 (lv_at hl 15 rfl) ?_
                        exact J469 _ _ _ _ h hI hS (lv_sub hl [0, 1, 2, 3, 4, 5, 6, 7, 8, 9, 10, 11, 12, 13, 14, 15, 16, 17, 18, 19, 20, 21, 22, 23, 24, 25, 26] rfl)
                      · replace h := sw_f h cc
                        refine lv_iload hx hb dL_merges_462 (lv_at hl 14 rfl) ?_
                        refine lv_goto (tgt := 469) hx hb dL_merges_464 (by decide) ?_
                        exact J469 _ _ _ _ h hI hS (lv_sub hl [0, 1, 2, 3, 4, 5, 6, 7, 8, 9, 10, 11, 12, 13, 14, 15, 16, 17, 18, 19, 20, 21, 22, 23, 24, 25, 26] rfl)
                refine L446 _ (fun v25 v26 v27 wy617 H locs ls h hI hS hl => ?_) 64 _ _ _ _ _ _ _ h hI hS (lv_sub hl [5, 6, 7, 8, 9, 10, 11, 12, 13, 14, 15, 16, 17, 18, 19, 20, 21, 22, 23, 24, 25, 26, 4, 3, 2, 1, 0] rfl)
                refine lv_aload hx hb dL_merges_617 (lv_at hl 4 rfl) ?_
                refine lv_iload hx hb dL_merges_619 (lv_at hl 23 rfl) ?_
                refine lv_iload hx hb dL_merges_621 (lv_at hl 24 rfl) ?_
                obtain ⟨iu623, h⟩ := swgd_s h
                obtain ⟨u623, eu623, h⟩ := swlt_s h
                refine lb_ast hx hb hK hJ hF hI hS (cd := 2) (by decide) (by decide) rfl rfl (swix_s iu623) eu623 dL_merges_623 (fun H locs hI hS => ?_)
                refine lv_aload hx hb dL_merges_624 (lv_at hl 5 rfl) ?_
                refine lv_iload hx hb dL_merges_626 (lv_at hl 23 rfl) ?_
                refine lv_dup2_11 hx hb dL_merges_628 rfl rfl ?_
                obtain ⟨a629, ea629, ia629, h⟩ := swrd_s h
                refine ly_ald hx hb hK hI.2 (cd := 3) (by decide) rfl ia629 dL_merges_629 ea629 ?_
                refine lv_aload hx hb dL_merges_630 (lv_at hl 5 rfl) ?_
                refine lv_iload hx hb dL_merges_632 (lv_at hl 15 rfl) ?_
                obtain ⟨a634, ea634, ia634, h⟩ := swrd_s h
                refine ly_ald hx hb hK hI.2 (cd := 3) (by decide) rfl ia634 dL_merges_634 ea634 ?_
                refine lv_ior hx hb dL_merges_635 ?_
                obtain ⟨iu636, h⟩ := swgd_s h
                obtain ⟨u636, eu636, h⟩ := swlt_s h
                refine lb_ast hx hb hK hJ hF hI hS (cd := 3) (by decide) (by decide) rfl rfl (swix_s iu636) eu636 dL_merges_636 (fun H locs hI hS => ?_)
                refine lv_aload hx hb dL_merges_637 (lv_at hl 6 rfl) ?_
                refine lv_iload hx hb dL_merges_639 (lv_at hl 23 rfl) ?_
                refine lv_dup2_11 hx hb dL_merges_641 rfl rfl ?_
                obtain ⟨a642, ea642, ia642, h⟩ := swrd_s h
                refine ly_ald hx hb hK hI.2 (cd := 4) (by decide) rfl ia642 dL_merges_642 ea642 ?_
                refine lv_bipush (v := 64) hx hb dL_merges_643 (by decide) ?_
                refine lv_iload hx hb dL_merges_645 (lv_at hl 15 rfl) ?_
                refine lv_iconst (v := 1) hx hb dL_merges_647 (by decide) ?_
                refine lv_iadd hx hb dL_merges_648 ?_
                refine lv_imul hx hb dL_merges_649 ?_
                refine lv_iadd hx hb dL_merges_650 ?_
                obtain ⟨iu651, h⟩ := swgd_s h
                obtain ⟨u651, eu651, h⟩ := swlt_s h
                refine lb_ast hx hb hK hJ hF hI hS (cd := 4) (by decide) (by decide) rfl rfl (swix_s iu651) eu651 dL_merges_651 (fun H locs hI hS => ?_)
                refine lv_iload hx hb dL_merges_652 (lv_at hl 21 rfl) ?_
                refine lv_if_eq (tgt := 677) hx hb dL_merges_654 (by decide) (fun cc => ?_) (fun cc => ?_)
                · replace h := sw_t h cc
                  refine lv_iconst (v := 0) hx hb dL_merges_677 (by decide) ?_
                  refine W.widen (k := 60) (n := 354) (by omega) (by omega) ?_
                  exact W.zret (ty := .boolean) hx hb hr rfl (fun t ht hW => ⟨⟨_, (), rfl, (sw_inj3 h).1, lb_end hI ht (sw_inj3 h).2.1 (sw_inj3 h).2.2⟩, hS.F ht⟩) hS.2.2 dL_merges_678 hlocks
                · replace h := sw_f h cc
                  refine lv_aload_n hx hb dL_merges_657 rfl (lv_at hl 0 rfl) ?_
                  refine lv_iconst (v := 1) hx hb dL_merges_658 (by decide) ?_
                  refine lv_iload hx hb dL_merges_659 (lv_at hl 11 rfl) ?_
                  refine lv_iload hx hb dL_merges_661 (lv_at hl 12 rfl) ?_
                  refine lv_iload hx hb dL_merges_663 (lv_at hl 13 rfl) ?_
                  obtain ⟨⟨r665, w665, u665⟩, er665, h⟩ := swbd_s h
                  refine lb_bW (As := [.ref (ad 0), .int 1, .int r15, .int y42, .int y53]) (rest := []) E (lm_calls l hst D cy ad al hJ uj348 u651 1 r15 y42 y53 _ _ _ _ er665) (vx_cwSW 5 hts gL_merges_L_calls rfl rfl rfl (by decide +kernel) ⟨Nat.le_of_ble_eq_true rfl, Nat.le_of_ble_eq_true rfl⟩) hK hNc hF hI hS ⟨by show _ ≤ 60; omega, by show _ ≤ 354; omega⟩ rfl hl.1 rfl (Nat.le_of_ble_eq_true rfl) dL_merges_665 (fun H locs hI hS => ?_)
                  refine lv_iload hx hb dL_merges_668 (lv_at hl 23 rfl) ?_
                  refine lv_icmp_ne (tgt := 677) hx hb dL_merges_670 (by decide) (fun cc => ?_) (fun cc => ?_)
                  · replace h := sw_f h cc
                    refine lv_iconst (v := 0) hx hb dL_merges_677 (by decide) ?_
                    refine W.widen (k := 60) (n := 354) (by omega) (by omega) ?_
                    exact W.zret (ty := .boolean) hx hb hr rfl (fun t ht hW => ⟨⟨_, (), rfl, (sw_inj3 h).1, lb_end hI ht (sw_inj3 h).2.1 (sw_inj3 h).2.2⟩, hS.F ht⟩) hS.2.2 dL_merges_678 hlocks
                  · replace h := sw_t h cc
                    refine lv_iconst (v := 1) hx hb dL_merges_673 (by decide) ?_
                    refine lv_goto (tgt := 678) hx hb dL_merges_674 (by decide) ?_
                    refine W.widen (k := 60) (n := 354) (by omega) (by omega) ?_
                    exact W.zret (ty := .boolean) hx hb hr rfl (fun t ht hW => ⟨⟨_, (), rfl, (sw_inj3 h).1, lb_end hI ht (sw_inj3 h).2.1 (sw_inj3 h).2.2⟩, hS.F ht⟩) hS.2.2 dL_merges_678 hlocks
              · replace h := sw_t h cc
                refine lv_iload hx hb dL_merges_391 (lv_at hl 22 rfl) ?_
                refine lv_if_eq (tgt := 416) hx hb dL_merges_393 (by decide) (fun cc => ?_) (fun cc => ?_)
                · replace h := sw_t h cc
                  refine lv_iconst (v := 0) hx hb dL_merges_416 (by decide) ?_
                  refine W.widen (k := 60) (n := 354) (by omega) (by omega) ?_
                  exact W.zret (ty := .boolean) hx hb hr rfl (fun t ht hW => ⟨⟨_, (), rfl, (sw_inj3 h).1, lb_end hI ht (sw_inj3 h).2.1 (sw_inj3 h).2.2⟩, hS.F ht⟩) hS.2.2 dL_merges_417 hlocks
                · replace h := sw_f h cc
                  refine lv_aload_n hx hb dL_merges_396 rfl (lv_at hl 1 rfl) ?_
                  refine lv_iconst (v := 1) hx hb dL_merges_397 (by decide) ?_
                  refine lv_iload hx hb dL_merges_398 (lv_at hl 12 rfl) ?_
                  refine lv_iload hx hb dL_merges_400 (lv_at hl 13 rfl) ?_
                  refine lv_iload hx hb dL_merges_402 (lv_at hl 14 rfl) ?_
                  obtain ⟨⟨r404, w404, u404⟩, er404, h⟩ := swbd_s h
                  refine lb_bW (As := [.ref (ad 0), .int 1, .int r15, .int y42, .int y53]) (rest := []) E (lm_calls l hst D cy ad al hJ uj348 y 1 r15 y42 y53 _ _ _ _ er404) (vx_cwSW 5 hts gL_merges_L_calls rfl rfl rfl (by decide +kernel) ⟨Nat.le_of_ble_eq_true rfl, Nat.le_of_ble_eq_true rfl⟩) hK hNc hF hI hS ⟨by show _ ≤ 60; omega, by show _ ≤ 354; omega⟩ rfl hl.1 rfl (Nat.le_of_ble_eq_true rfl) dL_merges_404 (fun H locs hI hS => ?_)
                  refine lv_ldc (v := (-100003)) hx hb hown fc28 dL_merges_407 ?_
                  refine lv_icmp_ne (tgt := 416) hx hb dL_merges_409 (by decide) (fun cc => ?_) (fun cc => ?_)
                  · replace h := sw_f h cc
                    refine lv_iconst (v := 0) hx hb dL_merges_416 (by decide) ?_
                    refine W.widen (k := 60) (n := 354) (by omega) (by omega) ?_
                    exact W.zret (ty := .boolean) hx hb hr rfl (fun t ht hW => ⟨⟨_, (), rfl, (sw_inj3 h).1, lb_end hI ht (sw_inj3 h).2.1 (sw_inj3 h).2.2⟩, hS.F ht⟩) hS.2.2 dL_merges_417 hlocks
                  · replace h := sw_t h cc
                    refine lv_iconst (v := 1) hx hb dL_merges_412 (by decide) ?_
                    refine lv_goto (tgt := 417) hx hb dL_merges_413 (by decide) ?_
                    refine W.widen (k := 60) (n := 354) (by omega) (by omega) ?_
                    exact W.zret (ty := .boolean) hx hb hr rfl (fun t ht hW => ⟨⟨_, (), rfl, (sw_inj3 h).1, lb_end hI ht (sw_inj3 h).2.1 (sw_inj3 h).2.2⟩, hS.F ht⟩) hS.2.2 dL_merges_417 hlocks
            · replace h := sw_t h cc
              refine lv_iload hx hb dL_merges_383 (lv_at hl 22 rfl) ?_
              refine W.widen (k := 60) (n := 354) (by omega) (by omega) ?_
              obtain ⟨gdL_merges_385, h⟩ := swgd_s h
              exact W.zret (ty := .boolean) hx hb hr (swZ_hn (of_decide_eq_true gdL_merges_385)) (fun t ht hW => ⟨⟨_, (), rfl, (sw_inj3 h).1, lb_end hI ht (sw_inj3 h).2.1 (sw_inj3 h).2.2⟩, hS.F ht⟩) hS.2.2 dL_merges_385 hlocks
          clear ek372_
          refine lv_if_ge (tgt := 362) hx hb dL_merges_352 (by decide) (fun cc => ?_) (fun cc => ?_)
          · replace h := sw_t h cc
            refine lv_iload hx hb dL_merges_362 (lv_at hl 19 rfl) ?_
            refine lv_if_ne (tgt := 371) hx hb dL_merges_364 (by decide) (fun cc => ?_) (fun cc => ?_)
            · replace h := sw_f h cc
              refine lv_iconst (v := 0) hx hb dL_merges_371 (by decide) ?_
              exact J372 _ _ _ _ h hI hS (lv_sub hl [1, 2, 3, 4, 5, 6, 7, 8, 9, 10, 11, 12, 13, 14, 15, 16, 17, 18, 19, 20, 21, 0, 22] rfl)
            · replace h := sw_t h cc
              refine lv_iconst (v := 1) hx hb dL_merges_367 (by decide) ?_
              refine lv_goto (tgt := 372) hx hb dL_merges_368 (by decide) ?_
              exact J372 _ _ _ _ h hI hS (lv_sub hl [1, 2, 3, 4, 5, 6, 7, 8, 9, 10, 11, 12, 13, 14, 15, 16, 17, 18, 19, 20, 21, 0, 22] rfl)
          · replace h := sw_f h cc
            refine lv_lload hx hb dL_merges_355 (lv_at hl 18 rfl) ?_
            refine lv_lconst (v := 0) hx hb dL_merges_357 (by decide) ?_
            refine W.lcmp hx hb dL_merges_358 ?_
            refine lv_if_ne (tgt := 371) hx hb dL_merges_359 (by decide) (fun cc => ?_) (fun cc => ?_)
            · replace h := sw_f h cc
              refine lv_iconst (v := 0) hx hb dL_merges_371 (by decide) ?_
              exact J372 _ _ _ _ h hI hS (lv_sub hl [1, 2, 3, 4, 5, 6, 7, 8, 9, 10, 11, 12, 13, 14, 15, 16, 17, 18, 19, 20, 21, 0, 22] rfl)
            · replace h := sw_t h cc
              refine lv_iload hx hb dL_merges_362 (lv_at hl 19 rfl) ?_
              refine lv_if_ne (tgt := 371) hx hb dL_merges_364 (by decide) (fun cc => ?_) (fun cc => ?_)
              · replace h := sw_f h cc
                refine lv_iconst (v := 0) hx hb dL_merges_371 (by decide) ?_
                exact J372 _ _ _ _ h hI hS (lv_sub hl [1, 2, 3, 4, 5, 6, 7, 8, 9, 10, 11, 12, 13, 14, 15, 16, 17, 18, 19, 20, 21, 0, 22] rfl)
              · replace h := sw_t h cc
                refine lv_iconst (v := 1) hx hb dL_merges_367 (by decide) ?_
                refine lv_goto (tgt := 372) hx hb dL_merges_368 (by decide) ?_
                exact J372 _ _ _ _ h hI hS (lv_sub hl [1, 2, 3, 4, 5, 6, 7, 8, 9, 10, 11, 12, 13, 14, 15, 16, 17, 18, 19, 20, 21, 0, 22] rfl)
        clear ek348_
        refine lv_if_eq (tgt := 347) hx hb dL_merges_325 (by decide) (fun cc => ?_) (fun cc => ?_)
        · replace h := sw_t h cc
          refine lv_iconst (v := 0) hx hb dL_merges_347 (by decide) ?_
          refine W.widen (k := 55) (n := 327) (by omega) (by omega) ?_
          exact J348 _ _ _ _ _ h hI hS (lv_sub hl [0, 1, 2, 3, 4, 5, 6, 7, 8, 9, 10, 11, 12, 13, 14, 15, 16, 17, 18, 19, 20, 21, 22] rfl)
        · replace h := sw_f h cc
          refine lv_aload_n hx hb dL_merges_328 rfl (lv_at hl 0 rfl) ?_
          refine lv_iload hx hb dL_merges_329 (lv_at hl 11 rfl) ?_
          refine lv_iload hx hb dL_merges_331 (lv_at hl 12 rfl) ?_
          obtain ⟨r333, w333, er333, h⟩ := swnx_s h
          refine lb_x0 (As := [.int r15, .int y42]) (rest := []) E (xm5_clashes l hst D cy ad hJ.1 wu323 r15 y42 _ _ _ _ er333) (cwV 2 hts gL_merges_X5_clashes rfl rfl rfl (by decide +kernel) ⟨Nat.le_of_ble_eq_true rfl, Nat.le_of_ble_eq_true rfl⟩) hK hJ hF hI hS ⟨by show _ ≤ 60; omega, by show _ ≤ 354; omega⟩ rfl hl.1 rfl (Nat.le_of_ble_eq_true rfl) dL_merges_333 (fun H locs hI hS => ?_)
          refine lv_i2l (v := (Int32.toInt64 r333)) hx hb dL_merges_336 rfl ?_
          refine lv_lload hx hb dL_merges_337 (lv_at hl 17 rfl) ?_
          refine W.lcmp hx hb dL_merges_339 ?_
          refine lv_if_ne (tgt := 347) hx hb dL_merges_340 (by decide) (fun cc => ?_) (fun cc => ?_)
          · replace h := sw_f h cc
            refine lv_iconst (v := 0) hx hb dL_merges_347 (by decide) ?_
            exact J348 _ _ _ _ _ h hI hS (lv_sub hl [0, 1, 2, 3, 4, 5, 6, 7, 8, 9, 10, 11, 12, 13, 14, 15, 16, 17, 18, 19, 20, 21, 22] rfl)
          · replace h := sw_t h cc
            refine lv_iconst (v := 1) hx hb dL_merges_343 (by decide) ?_
            refine lv_goto (tgt := 348) hx hb dL_merges_344 (by decide) ?_
            exact J348 _ _ _ _ _ h hI hS (lv_sub hl [0, 1, 2, 3, 4, 5, 6, 7, 8, 9, 10, 11, 12, 13, 14, 15, 16, 17, 18, 19, 20, 21, 22] rfl)
      clear ek138_
      refine lv_icmp_ne (tgt := 137) hx hb dL_merges_130 (by decide) (fun cc => ?_) (fun cc => ?_)
      · replace h := sw_f h cc
        refine lv_iconst (v := 0) hx hb dL_merges_137 (by decide) ?_
        exact J138 _ _ _ _ h hI hS (lv_sub hl [2, 3, 4, 5, 6, 7, 8, 9, 10, 11, 12, 13, 14, 15, 16, 17, 18, 19, 20, 1, 0] rfl)
      · replace h := sw_t h cc
        refine lv_iconst (v := 1) hx hb dL_merges_133 (by decide) ?_
        refine lv_goto (tgt := 138) hx hb dL_merges_134 (by decide) ?_
        exact J138 _ _ _ _ h hI hS (lv_sub hl [2, 3, 4, 5, 6, 7, 8, 9, 10, 11, 12, 13, 14, 15, 16, 17, 18, 19, 20, 1, 0] rfl)
    clear ek108_
    refine lv_if_ne (tgt := 97) hx hb dL_merges_90 (by decide) (fun cc => ?_) (fun cc => ?_)
    · replace h := sw_f h cc
      refine lv_iload_n hx hb dL_merges_97 rfl (lv_at hl 9 rfl) ?_
      refine lv_bipush (v := 7) hx hb dL_merges_98 (by decide) ?_
      refine lv_ishr hx hb dL_merges_100 ?_
      refine sw_top (x := swshr x1 7) rfl ?_
      refine lv_aload hx hb dL_merges_101 (lv_at hl 18 rfl) ?_
      refine lv_iconst (v := 1) hx hb dL_merges_103 (by decide) ?_
      obtain ⟨a104, ea104, ia104, h⟩ := swrd_s h
      refine ly_ald hx hb hK hI.2 (cd := 8) (by decide) rfl ia104 dL_merges_104 ea104 ?_
      obtain ⟨r105, er105, h⟩ := swbd_s h
      refine ly_stS (As := [.int (swshr x1 7), .int a104]) (rest := []) E (lm_low l (swshr x1 7) a104 _ er105) (va_cwS 2 hts gL_merges_L_low rfl rfl rfl (by decide +kernel) ⟨Nat.le_of_ble_eq_true rfl, Nat.le_of_ble_eq_true rfl⟩) ⟨by show _ ≤ 60; omega, by show _ ≤ 354; omega⟩ rfl hl.1 rfl (Nat.le_of_ble_eq_true rfl) dL_merges_105 ?_
      exact J108 _ _ _ _ h hI hS (lv_sub hl [8, 9, 10, 11, 12, 13, 14, 15, 16, 17, 18, 7, 6, 5, 4, 3, 2, 1, 0] rfl)
    · replace h := sw_t h cc
      refine lv_iconst (v := 0) hx hb dL_merges_93 (by decide) ?_
      refine lv_goto (tgt := 108) hx hb dL_merges_94 (by decide) ?_
      exact J108 _ _ _ _ h hI hS (lv_sub hl [8, 9, 10, 11, 12, 13, 14, 15, 16, 17, 18, 7, 6, 5, 4, 3, 2, 1, 0] rfl)
  · replace h := sw_f h cc
    refine lv_iconst (v := 1) hx hb dL_merges_8 (by decide) ?_
    refine W.widen (k := 60) (n := 354) (by omega) (by omega) ?_
    exact W.zret (ty := .boolean) hx hb hr rfl (fun t ht hW => ⟨⟨_, (), rfl, (sw_inj3 h).1, lb_end hI ht (sw_inj3 h).2.1 (sw_inj3 h).2.2⟩, hS.F ht⟩) hS.2.2 dL_merges_9 hlocks
