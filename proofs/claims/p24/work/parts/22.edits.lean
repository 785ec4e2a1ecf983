/-! edits -/
def lx_edits (u : swU) (y : lyU) (x1 : Int32) (x2 : Int32) : Option (Int32 × swU × lyU) :=
  swrd 6 (y.1 8) 2 fun a4 => swbd (lx_low x2 a4) fun r5 => swrd 12 (y.1 5) r5 fun a14 => swrd 21 (y.1 2) a14 fun a21 => swbd (lx_many a21) fun r22 => swrd 6 (y.1 8) 0 fun a30 => if a30 = 21 then (some ((1 : Int32), u, y)) else (if x1 = 0 then (swrd 6 (y.1 8) 1 fun a45 => if a45 = 6 then (some ((1 : Int32), u, y)) else (swbd (lx_low (swshr x2 3) (r22 + 1)) fun r60 => swbd (lx_copy y r5) fun z80 => match z80 with | (r80, u80) => swrd 21 (u80.1 2) r80 fun a89 => swlt ((a89 &&& ((swshl 1 (((3 : Int32) * r60))) - 1))) fun y99 => swrd 6 (u80.1 8) 1 fun a110 => swrd 21 (u80.1 2) r80 fun a123 => swgd (swix r80 21) <| swlt (lyI u80 2 (Int32.toNatClampNeg r80) (((y99 ||| (swshl (a110 + 1) (((3 : Int32) * r60)))) ||| (swshl (a123 - y99) 3)))) fun u130 => swrd 6 (u130.1 8) 1 fun a136 => swbd (lx_put u130 r80 a136 (1099511627776 : Int64)) fun u143 => swrd 6 (u143.1 8) 1 fun a150 => swgd (swix (1 : Int32) 6) <| swlt (lyI u143 8 (Int32.toNatClampNeg (1 : Int32)) (a150 + 1)) fun u153 => swnx (xx5_add u r5 r60) fun r159 w159 => swrd 6 (u153.1 8) 1 fun a165 => if r159 = (a165 - 1) then (some ((1 : Int32), w159, u153)) else (some ((0 : Int32), w159, u153)))) else (if r22 = 0 then (some ((1 : Int32), u, y)) else (swbd (lx_low (swshr x2 3) r22) fun r189 => swrd 21 (y.1 2) a14 fun a198 => swlt (((swrem ((swshr a198 (((3 : Int32) * r189)))) 8) - 1)) fun y209 => swbd (lx_copy y r5) fun z226 => match z226 with | (r226, u226) => if x1 = 1 then (swbd (lx_low (swshr x2 5) 4) fun r240 => swbd (lx_low (swshr x2 7) 4) fun r250 => swjn (fun (s272_0 : Int32) => swbd (lx_get u226 r226 y209) fun r281 => swbd (lx_value r281 r240) fun r298 => swbd (lx_put u226 r226 y209 ((r281 + (lyshl ((Int32.toInt64 (s272_0 - r298))) (((10 : Int32) * r240)))))) fun u313 => swnx (xx5_set u r5 y209 r240 s272_0) fun r325 w325 => swbd (lx_value r281 r240) fun r332 => if r325 = r332 then (some ((1 : Int32), w325, u313)) else (some ((0 : Int32), w325, u313))) fun k272_ => if r250 = 0 then (k272_ 0) else (swbd (lx_low (swshr x2 7) 9) fun r266 => k272_ (r266 * 111))) else (swrd 21 (u226.1 2) r226 fun a348 => swlt ((a348 &&& ((swshl 1 (((3 : Int32) * r189))) - 1))) fun y358 => swrd 21 (u226.1 2) r226 fun a370 => swgd (swix r226 21) <| swlt (lyI u226 2 (Int32.toNatClampNeg r226) ((y358 ||| (swshl ((swshr a370 ((((3 : Int32) * r189) + 3)))) (((3 : Int32) * r189)))))) fun u384 => swbd (lx_put u384 r226 y209 (0 : Int64)) fun u393 => swnx (xx5_drop u r5 y209) fun r401 w401 => if r401 = r226 then (some ((1 : Int32), w401, u393)) else (some ((0 : Int32), w401, u393))))))

abbrev rmL_edits : Room := { frames := 8, cells := 4, slots := 24, locals := 140 }

set_option maxHeartbeats 4000000 in
set_option maxRecDepth 100000 in
theorem lm_edits (l : Launch) (hst : l.stackTraces = false) (D : va_G) (cy : Nat → ClassId) (ad al : Nat → Nat) (hJ : lbJ ad al) (u : swU) (y : lyU) (x1 : Int32) (x2 : Int32) (sz : Nat) (r0 : Int32) (u0 : swU) (y0 : lyU) (h : lx_edits u y x1 x2 = some (r0, u0, y0)) : Met l yL_edits wsL_edits rmL_edits (lbC D cy ad al u y sz [.ref (ad 0), .int x1, .int x2, .ref (al 0), .ref (al 1), .ref (al 2), .ref (al 3), .ref (al 4), .ref (al 5), .ref (al 8)]) (lbQ D cy ad al sz r0 u0 y0) 4 24 (lbA ad al sz) := by
  refine Met.ofW (cc := cL_edits) (maxL := 20) (ret := (some .boolean)) (by decide) rfl ?_
  intro p e s m args below meth c s₁ B hml hv
  obtain ⟨ha, hI, hK, hX, hNc, hsz⟩ := hv
  have hx := B.exec
  have hb := B.bytes
  have hr := B.returns
  have hlocks := B.notSynchronized
  have hts := atoms_spec (ws := wsL_edits) B.pre
  have hown : s.vm.findClass RL = some m.cls := findClass_of_methodNamed B.named
  have E : CallFix p m c cL_edits 20 s args wsL_edits RL := ⟨hx, hb, hml, hown, hts⟩
  have fl43 : (Cond.constantLong RL 43 (1099511627776)).before args s = true := hts _ (by decide +kernel)
  have hS : va_S (lbA ad al sz) s.heap s.heap [] := va_S.rf
  have hF : lbF s (lbA ad al sz) ad al := lbF_of hX hsz
  obtain ⟨ls, hl, hent⟩ := sw_entry m (n := 20) ha (Nat.le_of_ble_eq_true rfl)
  rw [hent]
  have hl : lv_has ls 20 [(0, .ref (ad 0)), (1, .int x1), (2, .int x2), (3, .ref (al 0)), (4, .ref (al 1)), (5, .ref (al 2)), (6, .ref (al 3)), (7, .ref (al 4)), (8, .ref (al 5)), (9, .ref (al 8))] := hl
  unfold lx_edits at h
  refine lv_iload_n hx hb dL_edits_0 rfl (lv_at hl 2 rfl) ?_
  refine lv_aload hx hb dL_edits_1 (lv_at hl 9 rfl) ?_
  refine lv_iconst (v := 2) hx hb dL_edits_3 (by decide) ?_
  obtain ⟨a4, ea4, ia4, h⟩ := swrd_s h
  refine ly_ald hx hb hK hI.2 (cd := 8) (by decide) rfl ia4 dL_edits_4 ea4 ?_
  obtain ⟨r5, er5, h⟩ := swbd_s h
  refine ly_stS (As := [.int x2, .int a4]) (rest := []) E (lm_low l x2 a4 _ er5) (va_cwS 2 hts gL_edits_L_low rfl rfl rfl (by decide +kernel) ⟨Nat.le_of_ble_eq_true rfl, Nat.le_of_ble_eq_true rfl⟩) ⟨by show _ ≤ 4; omega, by show _ ≤ 24; omega⟩ rfl hl.1 rfl (Nat.le_of_ble_eq_true rfl) dL_edits_5 ?_
  refine lv_istore (lv' := [(10, .int r5), (0, .ref (ad 0)), (1, .int x1), (2, .int x2), (3, .ref (al 0)), (4, .ref (al 1)), (5, .ref (al 2)), (6, .ref (al 3)), (7, .ref (al 4)), (8, .ref (al 5)), (9, .ref (al 8))]) hx hb dL_edits_8 hl (by decide) rfl (fun ls hl => ?_)
  refine lv_aload hx hb dL_edits_10 (lv_at hl 9 rfl) ?_
  refine lv_iload hx hb dL_edits_12 (lv_at hl 0 rfl) ?_
  obtain ⟨a14, ea14, ia14, h⟩ := swrd_s h
  refine ly_ald hx hb hK hI.2 (cd := 5) (by decide) rfl ia14 dL_edits_14 ea14 ?_
  refine lv_istore (lv' := [(11, .int a14), (10, .int r5), (0, .ref (ad 0)), (1, .int x1), (2, .int x2), (3, .ref (al 0)), (4, .ref (al 1)), (5, .ref (al 2)), (6, .ref (al 3)), (7, .ref (al 4)), (8, .ref (al 5)), (9, .ref (al 8))]) hx hb dL_edits_15 hl (by decide) rfl (fun ls hl => ?_)
  refine lv_aload hx hb dL_edits_17 (lv_at hl 7 rfl) ?_
  refine lv_iload hx hb dL_edits_19 (lv_at hl 0 rfl) ?_
  obtain ⟨a21, ea21, ia21, h⟩ := swrd_s h
  refine ly_ald hx hb hK hI.2 (cd := 2) (by decide) rfl ia21 dL_edits_21 ea21 ?_
  obtain ⟨r22, er22, h⟩ := swbd_s h
  refine ly_stS (As := [.int a21]) (rest := []) E (lm_many l a21 _ er22) (va_cwS 1 hts gL_edits_L_many rfl rfl rfl (by decide +kernel) ⟨Nat.le_of_ble_eq_true rfl, Nat.le_of_ble_eq_true rfl⟩) ⟨by show _ ≤ 4; omega, by show _ ≤ 24; omega⟩ rfl hl.1 rfl (Nat.le_of_ble_eq_true rfl) dL_edits_22 ?_
  refine lv_istore (lv' := [(12, .int r22), (11, .int a14), (10, .int r5), (0, .ref (ad 0)), (1, .int x1), (2, .int x2), (3, .ref (al 0)), (4, .ref (al 1)), (5, .ref (al 2)), (6, .ref (al 3)), (7, .ref (al 4)), (8, .ref (al 5)), (9, .ref (al 8))]) hx hb dL_edits_25 hl (by decide) rfl (fun ls hl => ?_)
  refine lv_aload hx hb dL_edits_27 (lv_at hl 12 rfl) ?_
  refine lv_iconst (v := 0) hx hb dL_edits_29 (by decide) ?_
  obtain ⟨a30, ea30, ia30, h⟩ := swrd_s h
  refine ly_ald hx hb hK hI.2 (cd := 8) (by decide) rfl ia30 dL_edits_30 ea30 ?_
  refine lv_bipush (v := 21) hx hb dL_edits_31 (by decide) ?_
  refine lv_icmp_ne (tgt := 38) hx hb dL_edits_33 (by decide) (fun cc => ?_) (fun cc => ?_)
  · replace h := sw_f h cc
    refine lv_iload_n hx hb dL_edits_38 rfl (lv_at hl 4 rfl) ?_
    refine lv_if_ne (tgt := 177) hx hb dL_edits_39 (by decide) (fun cc => ?_) (fun cc => ?_)
    · replace h := sw_f h cc
      refine lv_iload hx hb dL_edits_177 (lv_at hl 0 rfl) ?_
      refine lv_if_ne (tgt := 184) hx hb dL_edits_179 (by decide) (fun cc => ?_) (fun cc => ?_)
      · replace h := sw_f h cc
        refine lv_iload_n hx hb dL_edits_184 rfl (lv_at hl 5 rfl) ?_
        refine lv_iconst (v := 3) hx hb dL_edits_185 (by decide) ?_
        refine lv_ishr hx hb dL_edits_186 ?_
        refine sw_top (x := swshr x2 3) rfl ?_
        refine lv_iload hx hb dL_edits_187 (lv_at hl 0 rfl) ?_
        obtain ⟨r189, er189, h⟩ := swbd_s h
        refine ly_stS (As := [.int (swshr x2 3), .int r22]) (rest := []) E (lm_low l (swshr x2 3) r22 _ er189) (va_cwS 2 hts gL_edits_L_low rfl rfl rfl (by decide +kernel) ⟨Nat.le_of_ble_eq_true rfl, Nat.le_of_ble_eq_true rfl⟩) ⟨by show _ ≤ 4; omega, by show _ ≤ 24; omega⟩ rfl hl.1 rfl (Nat.le_of_ble_eq_true rfl) dL_edits_189 ?_
        refine lv_istore (lv' := [(13, .int r189), (12, .int r22), (11, .int a14), (10, .int r5), (0, .ref (ad 0)), (1, .int x1), (2, .int x2), (3, .ref (al 0)), (4, .ref (al 1)), (5, .ref (al 2)), (6, .ref (al 3)), (7, .ref (al 4)), (8, .ref (al 5)), (9, .ref (al 8))]) hx hb dL_edits_192 hl (by decide) rfl (fun ls hl => ?_)
        refine lv_aload hx hb dL_edits_194 (lv_at hl 9 rfl) ?_
        refine lv_iload hx hb dL_edits_196 (lv_at hl 2 rfl) ?_
        obtain ⟨a198, ea198, ia198, h⟩ := swrd_s h
        refine ly_ald hx hb hK hI.2 (cd := 2) (by decide) rfl ia198 dL_edits_198 ea198 ?_
        refine lv_iconst (v := 3) hx hb dL_edits_199 (by decide) ?_
        refine lv_iload hx hb dL_edits_200 (lv_at hl 0 rfl) ?_
        refine lv_imul hx hb dL_edits_202 ?_
        refine lv_ishr hx hb dL_edits_203 ?_
        refine sw_top (x := swshr a198 (((3 : Int32) * r189))) rfl ?_
        refine lv_bipush (v := 8) hx hb dL_edits_204 (by decide) ?_
        refine lv_irem hx hb dL_edits_206 (by decide) ?_
        refine sw_top (x := swrem ((swshr a198 (((3 : Int32) * r189)))) 8) rfl ?_
        refine lv_iconst (v := 1) hx hb dL_edits_207 (by decide) ?_
        refine lv_isub hx hb dL_edits_208 ?_
        obtain ⟨y209, ey209, h⟩ := swlt_s h
        refine sw_top ey209 ?_
        refine lv_istore (lv' := [(14, .int y209), (13, .int r189), (12, .int r22), (11, .int a14), (10, .int r5), (0, .ref (ad 0)), (1, .int x1), (2, .int x2), (3, .ref (al 0)), (4, .ref (al 1)), (5, .ref (al 2)), (6, .ref (al 3)), (7, .ref (al 4)), (8, .ref (al 5)), (9, .ref (al 8))]) hx hb dL_edits_209 hl (by decide) rfl (fun ls hl => ?_)
        refine lv_iload hx hb dL_edits_211 (lv_at hl 4 rfl) ?_
        refine lv_aload_n hx hb dL_edits_213 rfl (lv_at hl 8 rfl) ?_
        refine lv_aload hx hb dL_edits_214 (lv_at hl 9 rfl) ?_
        refine lv_aload hx hb dL_edits_216 (lv_at hl 10 rfl) ?_
        refine lv_aload hx hb dL_edits_218 (lv_at hl 11 rfl) ?_
        refine lv_aload hx hb dL_edits_220 (lv_at hl 12 rfl) ?_
        refine lv_aload hx hb dL_edits_222 (lv_at hl 13 rfl) ?_
        refine lv_aload hx hb dL_edits_224 (lv_at hl 14 rfl) ?_
        obtain ⟨⟨r226, u226⟩, er226, h⟩ := swbd_s h
        refine lb_rwI (As := [.int r5, .ref (al 0), .ref (al 1), .ref (al 2), .ref (al 3), .ref (al 4), .ref (al 5), .ref (al 8)]) (rest := []) E (lm_copy l D cy al hJ.2.1 y r5 _ _ er226) (va_cwS 8 hts gL_edits_L_copy rfl rfl rfl (by decide +kernel) ⟨Nat.le_of_ble_eq_true rfl, Nat.le_of_ble_eq_true rfl⟩) hK hJ hF hI hS ⟨by show _ ≤ 4; omega, by show _ ≤ 24; omega⟩ rfl hl.1 rfl (Nat.le_of_ble_eq_true rfl) dL_edits_226 (fun H locs hI hS => ?_)
        refine lv_istore (lv' := [(15, .int r226), (14, .int y209), (13, .int r189), (12, .int r22), (11, .int a14), (10, .int r5), (0, .ref (ad 0)), (1, .int x1), (2, .int x2), (3, .ref (al 0)), (4, .ref (al 1)), (5, .ref (al 2)), (6, .ref (al 3)), (7, .ref (al 4)), (8, .ref (al 5)), (9, .ref (al 8))]) hx hb dL_edits_229 hl (by decide) rfl (fun ls hl => ?_)
        refine lv_iload_n hx hb dL_edits_231 rfl (lv_at hl 7 rfl) ?_
        refine lv_iconst (v := 1) hx hb dL_edits_232 (by decide) ?_
        refine lv_icmp_ne (tgt := 344) hx hb dL_edits_233 (by decide) (fun cc => ?_) (fun cc => ?_)
        · replace h := sw_f h cc
          refine lv_aload hx hb dL_edits_344 (lv_at hl 11 rfl) ?_
          refine lv_iload hx hb dL_edits_346 (lv_at hl 0 rfl) ?_
          obtain ⟨a348, ea348, ia348, h⟩ := swrd_s h
          refine ly_ald hx hb hK hI.2 (cd := 2) (by decide) rfl ia348 dL_edits_348 ea348 ?_
          refine lv_iconst (v := 1) hx hb dL_edits_349 (by decide) ?_
          refine lv_iconst (v := 3) hx hb dL_edits_350 (by decide) ?_
          refine lv_iload hx hb dL_edits_351 (lv_at hl 2 rfl) ?_
          refine lv_imul hx hb dL_edits_353 ?_
          refine lv_ishl hx hb dL_edits_354 ?_
          refine sw_top (x := swshl 1 (((3 : Int32) * r189))) rfl ?_
          refine lv_iconst (v := 1) hx hb dL_edits_355 (by decide) ?_
          refine lv_isub hx hb dL_edits_356 ?_
          refine lv_iand hx hb dL_edits_357 ?_
          obtain ⟨y358, ey358, h⟩ := swlt_s h
          refine sw_top ey358 ?_
          refine lv_istore (lv' := [(16, .int y358), (15, .int r226), (14, .int y209), (13, .int r189), (12, .int r22), (11, .int a14), (10, .int r5), (0, .ref (ad 0)), (1, .int x1), (2, .int x2), (3, .ref (al 0)), (4, .ref (al 1)), (5, .ref (al 2)), (6, .ref (al 3)), (7, .ref (al 4)), (8, .ref (al 5)), (9, .ref (al 8))]) hx hb dL_edits_358 hl (by decide) rfl (fun ls hl => ?_)
          refine lv_aload hx hb dL_edits_360 (lv_at hl 12 rfl) ?_
          refine lv_iload hx hb dL_edits_362 (lv_at hl 1 rfl) ?_
          refine lv_iload hx hb dL_edits_364 (lv_at hl 0 rfl) ?_
          refine lv_aload hx hb dL_edits_366 (lv_at hl 12 rfl) ?_
          refine lv_iload hx hb dL_edits_368 (lv_at hl 1 rfl) ?_
          obtain ⟨a370, ea370, ia370, h⟩ := swrd_s h
          refine ly_ald hx hb hK hI.2 (cd := 2) (by decide) rfl ia370 dL_edits_370 ea370 ?_
          refine lv_iconst (v := 3) hx hb dL_edits_371 (by decide) ?_
          refine lv_iload hx hb dL_edits_372 (lv_at hl 3 rfl) ?_
          refine lv_imul hx hb dL_edits_374 ?_
          refine lv_iconst (v := 3) hx hb dL_edits_375 (by decide) ?_
          refine lv_iadd hx hb dL_edits_376 ?_
          refine lv_ishr hx hb dL_edits_377 ?_
          refine sw_top (x := swshr a370 ((((3 : Int32) * r189) + 3))) rfl ?_
          refine lv_iconst (v := 3) hx hb dL_edits_378 (by decide) ?_
          refine lv_iload hx hb dL_edits_379 (lv_at hl 3 rfl) ?_
          refine lv_imul hx hb dL_edits_381 ?_
          refine lv_ishl hx hb dL_edits_382 ?_
          refine sw_top (x := swshl ((swshr a370 ((((3 : Int32) * r189) + 3)))) (((3 : Int32) * r189))) rfl ?_
          refine lv_ior hx hb dL_edits_383 ?_
          obtain ⟨iu384, h⟩ := swgd_s h
          obtain ⟨u384, eu384, h⟩ := swlt_s h
          refine lb_ast hx hb hK hJ hF hI hS (cd := 2) (by decide) (by decide) rfl rfl (swix_s iu384) eu384 dL_edits_384 (fun H locs hI hS => ?_)
          refine lv_iload hx hb dL_edits_385 (lv_at hl 1 rfl) ?_
          refine lv_iload hx hb dL_edits_387 (lv_at hl 2 rfl) ?_
          refine lv_lconst (v := 0) hx hb dL_edits_389 (by decide) ?_
          refine lv_aload_n hx hb dL_edits_390 rfl (lv_at hl 10 rfl) ?_
          refine lv_aload hx hb dL_edits_391 (lv_at hl 11 rfl) ?_
          obtain ⟨u393, er393, h⟩ := swbd_s h
          refine lb_rwV (As := [.int r226, .int y209, .long 0, .ref (al 0), .ref (al 1)]) (rest := []) E (lm_put l D cy al hJ.2.1 u384 r226 y209 (0 : Int64) _ er393) (va_cwS 5 hts gL_edits_L_put rfl rfl rfl (by decide +kernel) ⟨Nat.le_of_ble_eq_true rfl, Nat.le_of_ble_eq_true rfl⟩) hK hJ hF hI hS ⟨by show _ ≤ 4; omega, by show _ ≤ 24; omega⟩ rfl hl.1 rfl (Nat.le_of_ble_eq_true rfl) dL_edits_393 (fun H locs hI hS => ?_)
          refine lv_aload_n hx hb dL_edits_396 rfl (lv_at hl 7 rfl) ?_
          refine lv_iload hx hb dL_edits_397 (lv_at hl 6 rfl) ?_
          refine lv_iload hx hb dL_edits_399 (lv_at hl 2 rfl) ?_
          obtain ⟨r401, w401, er401, h⟩ := swnx_s h
          refine lb_x0 (As := [.int r5, .int y209]) (rest := []) E (xm5_drop l hst D cy ad hJ.1 u r5 y209 _ _ _ _ er401) (cwV 2 hts gL_edits_X5_drop rfl rfl rfl (by decide +kernel) ⟨Nat.le_of_ble_eq_true rfl, Nat.le_of_ble_eq_true rfl⟩) hK hJ hF hI hS ⟨by show _ ≤ 4; omega, by show _ ≤ 24; omega⟩ rfl hl.1 rfl (Nat.le_of_ble_eq_true rfl) dL_edits_401 (fun H locs hI hS => ?_)
          refine lv_iload hx hb dL_edits_404 (lv_at hl 1 rfl) ?_
          refine lv_icmp_ne (tgt := 413) hx hb dL_edits_406 (by decide) (fun cc => ?_) (fun cc => ?_)
          · replace h := sw_f h cc
            refine lv_iconst (v := 0) hx hb dL_edits_413 (by decide) ?_
            refine W.widen (k := 4) (n := 24) (by omega) (by omega) ?_
            exact W.zret (ty := .boolean) hx hb hr rfl (fun t ht hW => ⟨⟨_, (), rfl, (sw_inj3 h).1, lb_end hI ht (sw_inj3 h).2.1 (sw_inj3 h).2.2⟩, hS.F ht⟩) hS.2.2 dL_edits_414 hlocks
          · replace h := sw_t h cc
            refine lv_iconst (v := 1) hx hb dL_edits_409 (by decide) ?_
            refine lv_goto (tgt := 414) hx hb dL_edits_410 (by decide) ?_
            refine W.widen (k := 4) (n := 24) (by omega) (by omega) ?_
            exact W.zret (ty := .boolean) hx hb hr rfl (fun t ht hW => ⟨⟨_, (), rfl, (sw_inj3 h).1, lb_end hI ht (sw_inj3 h).2.1 (sw_inj3 h).2.2⟩, hS.F ht⟩) hS.2.2 dL_edits_414 hlocks
        · replace h := sw_t h cc
          refine lv_iload_n hx hb dL_edits_236 rfl (lv_at hl 8 rfl) ?_
          refine lv_iconst (v := 5) hx hb dL_edits_237 (by decide) ?_
          refine lv_ishr hx hb dL_edits_238 ?_
          refine sw_top (x := swshr x2 5) rfl ?_
          refine lv_iconst (v := 4) hx hb dL_edits_239 (by decide) ?_
          obtain ⟨r240, er240, h⟩ := swbd_s h
          refine ly_stS (As := [.int (swshr x2 5), .int 4]) (rest := []) E (lm_low l (swshr x2 5) 4 _ er240) (va_cwS 2 hts gL_edits_L_low rfl rfl rfl (by decide +kernel) ⟨Nat.le_of_ble_eq_true rfl, Nat.le_of_ble_eq_true rfl⟩) ⟨by show _ ≤ 4; omega, by show _ ≤ 24; omega⟩ rfl hl.1 rfl (Nat.le_of_ble_eq_true rfl) dL_edits_240 ?_
          refine lv_istore (lv' := [(16, .int r240), (15, .int r226), (14, .int y209), (13, .int r189), (12, .int r22), (11, .int a14), (10, .int r5), (0, .ref (ad 0)), (1, .int x1), (2, .int x2), (3, .ref (al 0)), (4, .ref (al 1)), (5, .ref (al 2)), (6, .ref (al 3)), (7, .ref (al 4)), (8, .ref (al 5)), (9, .ref (al 8))]) hx hb dL_edits_243 hl (by decide) rfl (fun ls hl => ?_)
          refine lv_iload_n hx hb dL_edits_245 rfl (lv_at hl 9 rfl) ?_
          refine lv_bipush (v := 7) hx hb dL_edits_246 (by decide) ?_
          refine lv_ishr hx hb dL_edits_248 ?_
          refine sw_top (x := swshr x2 7) rfl ?_
          refine lv_iconst (v := 4) hx hb dL_edits_249 (by decide) ?_
          obtain ⟨r250, er250, h⟩ := swbd_s h
          refine ly_stS (As := [.int (swshr x2 7), .int 4]) (rest := []) E (lm_low l (swshr x2 7) 4 _ er250) (va_cwS 2 hts gL_edits_L_low rfl rfl rfl (by decide +kernel) ⟨Nat.le_of_ble_eq_true rfl, Nat.le_of_ble_eq_true rfl⟩) ⟨by show _ ≤ 4; omega, by show _ ≤ 24; omega⟩ rfl hl.1 rfl (Nat.le_of_ble_eq_true rfl) dL_edits_250 ?_
          obtain ⟨k272_, ek272_, h⟩ := swjn_s h
          have J272 : ∀ (s272_0 : Int32) (H : Heap) (locs : List Loc) (ls : Array Slot), k272_ s272_0 = some (r0, u0, y0) → lbI D cy ad al u u226 H → va_S (lbA ad al sz) s.heap H locs → lv_has ls 20 [(0, .ref (ad 0)), (1, .int x1), (2, .int x2), (3, .ref (al 0)), (4, .ref (al 1)), (5, .ref (al 2)), (6, .ref (al 3)), (7, .ref (al 4)), (8, .ref (al 5)), (9, .ref (al 8)), (10, .int r5), (11, .int a14), (12, .int r22), (13, .int r189), (14, .int y209), (15, .int r226), (16, .int r240)] → W p l e (headSpec wsL_edits rmL_edits).room s m args below meth c H locs 0 0 (MQ below (lbQ D cy ad al sz r0 u0 y0) args s 4 24 (lbA ad al sz)) (F0 m 272 ls [.int s272_0]) := by
            intro s272_0 H locs ls h hI hS hl
            rw [ek272_] at h
            refine lv_istore (lv' := [(17, .int s272_0), (0, .ref (ad 0)), (1, .int x1), (2, .int x2), (3, .ref (al 0)), (4, .ref (al 1)), (5, .ref (al 2)), (6, .ref (al 3)), (7, .ref (al 4)), (8, .ref (al 5)), (9, .ref (al 8)), (10, .int r5), (11, .int a14), (12, .int r22), (13, .int r189), (14, .int y209), (15, .int r226), (16, .int r240)]) hx hb dL_edits_272 hl (by decide) rfl (fun ls hl => ?_)
            refine lv_iload hx hb dL_edits_274 (lv_at hl 16 rfl) ?_
            refine lv_iload hx hb dL_edits_276 (lv_at hl 15 rfl) ?_
            refine lv_aload_n hx hb dL_edits_278 rfl (lv_at hl 4 rfl) ?_
            refine lv_aload hx hb dL_edits_279 (lv_at hl 5 rfl) ?_
            obtain ⟨r281, er281, h⟩ := swbd_s h
            refine ly_roL (As := [.int r226, .int y209, .ref (al 0), .ref (al 1)]) (rest := []) E (lm_get l D cy al u226 r226 y209 _ er281) (va_cwS 4 hts gL_edits_L_get rfl rfl rfl (by decide +kernel) ⟨Nat.le_of_ble_eq_true rfl, Nat.le_of_ble_eq_true rfl⟩) hK hI.2 ⟨by show _ ≤ 4; omega, by show _ ≤ 24; omega⟩ rfl hl.1 rfl (Nat.le_of_ble_eq_true rfl) dL_edits_281 ?_
            refine lv_lstore (lv' := [(18, .long r281), (17, .int s272_0), (0, .ref (ad 0)), (1, .int x1), (2, .int x2), (3, .ref (al 0)), (4, .ref (al 1)), (5, .ref (al 2)), (6, .ref (al 3)), (7, .ref (al 4)), (8, .ref (al 5)), (9, .ref (al 8)), (10, .int r5), (11, .int a14), (12, .int r22), (13, .int r189), (14, .int y209), (15, .int r226), (16, .int r240)]) hx hb dL_edits_284 hl (by decide) rfl (fun ls hl => ?_)
            refine lv_iload hx hb dL_edits_286 (lv_at hl 17 rfl) ?_
            refine lv_iload hx hb dL_edits_288 (lv_at hl 16 rfl) ?_
            refine lv_lload hx hb dL_edits_290 (lv_at hl 0 rfl) ?_
            refine lv_iload hx hb dL_edits_292 (lv_at hl 1 rfl) ?_
            refine lv_lload hx hb dL_edits_294 (lv_at hl 0 rfl) ?_
            refine lv_iload hx hb dL_edits_296 (lv_at hl 18 rfl) ?_
            obtain ⟨r298, er298, h⟩ := swbd_s h
            refine ly_stS (As := [.long r281, .int r240]) (rest := [.int s272_0, .long r281, .int y209, .int r226]) E (lm_value l r281 r240 _ er298) (va_cwS 2 hts gL_edits_L_value rfl rfl rfl (by decide +kernel) ⟨Nat.le_of_ble_eq_true rfl, Nat.le_of_ble_eq_true rfl⟩) ⟨by show _ ≤ 4; omega, by show _ ≤ 24; omega⟩ rfl hl.1 rfl (Nat.le_of_ble_eq_true rfl) dL_edits_298 ?_
            refine lv_isub hx hb dL_edits_301 ?_
            refine lv_i2l (v := (Int32.toInt64 (s272_0 - r298))) hx hb dL_edits_302 rfl ?_
            refine lv_bipush (v := 10) hx hb dL_edits_303 (by decide) ?_
            refine lv_iload hx hb dL_edits_305 (lv_at hl 18 rfl) ?_
            refine lv_imul hx hb dL_edits_307 ?_
            refine lv_lshl (v := (lyshl ((Int32.toInt64 (s272_0 - r298))) (((10 : Int32) * r240)))) hx hb dL_edits_308 rfl ?_
            refine lv_ladd hx hb dL_edits_309 ?_
            refine lv_aload_n hx hb dL_edits_310 rfl (lv_at hl 5 rfl) ?_
            refine lv_aload hx hb dL_edits_311 (lv_at hl 6 rfl) ?_
            obtain ⟨u313, er313, h⟩ := swbd_s h
            refine lb_rwV (As := [.int r226, .int y209, .long ((r281 + (lyshl ((Int32.toInt64 (s272_0 - r298))) (((10 : Int32) * r240))))), .ref (al 0), .ref (al 1)]) (rest := []) E (lm_put l D cy al hJ.2.1 u226 r226 y209 ((r281 + (lyshl ((Int32.toInt64 (s272_0 - r298))) (((10 : Int32) * r240))))) _ er313) (va_cwS 5 hts gL_edits_L_put rfl rfl rfl (by decide +kernel) ⟨Nat.le_of_ble_eq_true rfl, Nat.le_of_ble_eq_true rfl⟩) hK hJ hF hI hS ⟨by show _ ≤ 4; omega, by show _ ≤ 24; omega⟩ rfl hl.1 rfl (Nat.le_of_ble_eq_true rfl) dL_edits_313 (fun H locs hI hS => ?_)
            refine lv_aload_n hx hb dL_edits_316 rfl (lv_at hl 2 rfl) ?_
            refine lv_iload hx hb dL_edits_317 (lv_at hl 12 rfl) ?_
            refine lv_iload hx hb dL_edits_319 (lv_at hl 16 rfl) ?_
            refine lv_iload hx hb dL_edits_321 (lv_at hl 18 rfl) ?_
            refine lv_iload hx hb dL_edits_323 (lv_at hl 1 rfl) ?_
            obtain ⟨r325, w325, er325, h⟩ := swnx_s h
            refine lb_x0 (As := [.int r5, .int y209, .int r240, .int s272_0]) (rest := []) E (xm5_set l hst D cy ad hJ.1 u r5 y209 r240 s272_0 _ _ _ _ er325) (cwV 4 hts gL_edits_X5_set rfl rfl rfl (by decide +kernel) ⟨Nat.le_of_ble_eq_true rfl, Nat.le_of_ble_eq_true rfl⟩) hK hJ hF hI hS ⟨by show _ ≤ 4; omega, by show _ ≤ 24; omega⟩ rfl hl.1 rfl (Nat.le_of_ble_eq_true rfl) dL_edits_325 (fun H locs hI hS => ?_)
            refine lv_lload hx hb dL_edits_328 (lv_at hl 0 rfl) ?_
            refine lv_iload hx hb dL_edits_330 (lv_at hl 18 rfl) ?_
            obtain ⟨r332, er332, h⟩ := swbd_s h
            refine ly_stS (As := [.long r281, .int r240]) (rest := [.int r325]) E (lm_value l r281 r240 _ er332) (va_cwS 2 hts gL_edits_L_value rfl rfl rfl (by decide +kernel) ⟨Nat.le_of_ble_eq_true rfl, Nat.le_of_ble_eq_true rfl⟩) ⟨by show _ ≤ 4; omega, by show _ ≤ 24; omega⟩ rfl hl.1 rfl (Nat.le_of_ble_eq_true rfl) dL_edits_332 ?_
            refine lv_icmp_ne (tgt := 342) hx hb dL_edits_335 (by decide) (fun cc => ?_) (fun cc => ?_)
            · replace h := sw_f h cc
              refine lv_iconst (v := 0) hx hb dL_edits_342 (by decide) ?_
              refine W.widen (k := 4) (n := 24) (by omega) (by omega) ?_
              exact W.zret (ty := .boolean) hx hb hr rfl (fun t ht hW => ⟨⟨_, (), rfl, (sw_inj3 h).1, lb_end hI ht (sw_inj3 h).2.1 (sw_inj3 h).2.2⟩, hS.F ht⟩) hS.2.2 dL_edits_343 hlocks
            · replace h := sw_t h cc
              refine lv_iconst (v := 1) hx hb dL_edits_338 (by decide) ?_
              refine lv_goto (tgt := 343) hx hb dL_edits_339 (by decide) ?_
              refine W.widen (k := 4) (n := 24) (by omega) (by omega) ?_
              exact W.zret (ty := .boolean) hx hb hr rfl (fun t ht hW => ⟨⟨_, (), rfl, (sw_inj3 h).1, lb_end hI ht (sw_inj3 h).2.1 (sw_inj3 h).2.2⟩, hS.F ht⟩) hS.2.2 dL_edits_343 hlocks
          clear ek272_
          refine lv_if_ne (tgt := 260) hx hb dL_edits_253 (by decide) (fun cc => ?_) (fun cc => ?_)
          · replace h := sw_f h cc
            refine lv_iload_n hx hb dL_edits_260 rfl (lv_at hl 9 rfl) ?_
            refine lv_bipush (v := 7) hx hb dL_edits_261 (by decide) ?_
            refine lv_ishr hx hb dL_edits_263 ?_
            refine sw_top (x := swshr x2 7) rfl ?_
            refine lv_bipush (v := 9) hx hb dL_edits_264 (by decide) ?_
            obtain ⟨r266, er266, h⟩ := swbd_s h
            refine ly_stS (As := [.int (swshr x2 7), .int 9]) (rest := []) E (lm_low l (swshr x2 7) 9 _ er266) (va_cwS 2 hts gL_edits_L_low rfl rfl rfl (by decide +kernel) ⟨Nat.le_of_ble_eq_true rfl, Nat.le_of_ble_eq_true rfl⟩) ⟨by show _ ≤ 4; omega, by show _ ≤ 24; omega⟩ rfl hl.1 rfl (Nat.le_of_ble_eq_true rfl) dL_edits_266 ?_
            refine lv_bipush (v := 111) hx hb dL_edits_269 (by decide) ?_
            refine lv_imul hx hb dL_edits_271 ?_
            exact J272 _ _ _ _ h hI hS (lv_sub hl [7, 8, 9, 10, 11, 12, 13, 14, 15, 16, 6, 5, 4, 3, 2, 1, 0] rfl)
          · replace h := sw_t h cc
            refine lv_iconst (v := 0) hx hb dL_edits_256 (by decide) ?_
            refine lv_goto (tgt := 272) hx hb dL_edits_257 (by decide) ?_
            exact J272 _ _ _ _ h hI hS (lv_sub hl [7, 8, 9, 10, 11, 12, 13, 14, 15, 16, 6, 5, 4, 3, 2, 1, 0] rfl)
      · replace h := sw_t h cc
        refine lv_iconst (v := 1) hx hb dL_edits_182 (by decide) ?_
        refine W.widen (k := 4) (n := 24) (by omega) (by omega) ?_
        exact W.zret (ty := .boolean) hx hb hr rfl (fun t ht hW => ⟨⟨_, (), rfl, (sw_inj3 h).1, lb_end hI ht (sw_inj3 h).2.1 (sw_inj3 h).2.2⟩, hS.F ht⟩) hS.2.2 dL_edits_183 hlocks
    · replace h := sw_t h cc
      refine lv_aload hx hb dL_edits_42 (lv_at hl 12 rfl) ?_
      refine lv_iconst (v := 1) hx hb dL_edits_44 (by decide) ?_
      obtain ⟨a45, ea45, ia45, h⟩ := swrd_s h
      refine ly_ald hx hb hK hI.2 (cd := 8) (by decide) rfl ia45 dL_edits_45 ea45 ?_
      refine lv_bipush (v := 6) hx hb dL_edits_46 (by decide) ?_
      refine lv_icmp_ne (tgt := 53) hx hb dL_edits_48 (by decide) (fun cc => ?_) (fun cc => ?_)
      · replace h := sw_f h cc
        refine lv_iload_n hx hb dL_edits_53 rfl (lv_at hl 5 rfl) ?_
        refine lv_iconst (v := 3) hx hb dL_edits_54 (by decide) ?_
        refine lv_ishr hx hb dL_edits_55 ?_
        refine sw_top (x := swshr x2 3) rfl ?_
        refine lv_iload hx hb dL_edits_56 (lv_at hl 0 rfl) ?_
        refine lv_iconst (v := 1) hx hb dL_edits_58 (by decide) ?_
        refine lv_iadd hx hb dL_edits_59 ?_
        obtain ⟨r60, er60, h⟩ := swbd_s h
        refine ly_stS (As := [.int (swshr x2 3), .int (r22 + 1)]) (rest := []) E (lm_low l (swshr x2 3) (r22 + 1) _ er60) (va_cwS 2 hts gL_edits_L_low rfl rfl rfl (by decide +kernel) ⟨Nat.le_of_ble_eq_true rfl, Nat.le_of_ble_eq_true rfl⟩) ⟨by show _ ≤ 4; omega, by show _ ≤ 24; omega⟩ rfl hl.1 rfl (Nat.le_of_ble_eq_true rfl) dL_edits_60 ?_
        refine lv_istore (lv' := [(13, .int r60), (12, .int r22), (11, .int a14), (10, .int r5), (0, .ref (ad 0)), (1, .int x1), (2, .int x2), (3, .ref (al 0)), (4, .ref (al 1)), (5, .ref (al 2)), (6, .ref (al 3)), (7, .ref (al 4)), (8, .ref (al 5)), (9, .ref (al 8))]) hx hb dL_edits_63 hl (by decide) rfl (fun ls hl => ?_)
        refine lv_iload hx hb dL_edits_65 (lv_at hl 3 rfl) ?_
        refine lv_aload_n hx hb dL_edits_67 rfl (lv_at hl 7 rfl) ?_
        refine lv_aload hx hb dL_edits_68 (lv_at hl 8 rfl) ?_
        refine lv_aload hx hb dL_edits_70 (lv_at hl 9 rfl) ?_
        refine lv_aload hx hb dL_edits_72 (lv_at hl 10 rfl) ?_
        refine lv_aload hx hb dL_edits_74 (lv_at hl 11 rfl) ?_
        refine lv_aload hx hb dL_edits_76 (lv_at hl 12 rfl) ?_
        refine lv_aload hx hb dL_edits_78 (lv_at hl 13 rfl) ?_
        obtain ⟨⟨r80, u80⟩, er80, h⟩ := swbd_s h
        refine lb_rwI (As := [.int r5, .ref (al 0), .ref (al 1), .ref (al 2), .ref (al 3), .ref (al 4), .ref (al 5), .ref (al 8)]) (rest := []) E (lm_copy l D cy al hJ.2.1 y r5 _ _ er80) (va_cwS 8 hts gL_edits_L_copy rfl rfl rfl (by decide +kernel) ⟨Nat.le_of_ble_eq_true rfl, Nat.le_of_ble_eq_true rfl⟩) hK hJ hF hI hS ⟨by show _ ≤ 4; omega, by show _ ≤ 24; omega⟩ rfl hl.1 rfl (Nat.le_of_ble_eq_true rfl) dL_edits_80 (fun H locs hI hS => ?_)
        refine lv_istore (lv' := [(14, .int r80), (13, .int r60), (12, .int r22), (11, .int a14), (10, .int r5), (0, .ref (ad 0)), (1, .int x1), (2, .int x2), (3, .ref (al 0)), (4, .ref (al 1)), (5, .ref (al 2)), (6, .ref (al 3)), (7, .ref (al 4)), (8, .ref (al 5)), (9, .ref (al 8))]) hx hb dL_edits_83 hl (by decide) rfl (fun ls hl => ?_)
        refine lv_aload hx hb dL_edits_85 (lv_at hl 10 rfl) ?_
        refine lv_iload hx hb dL_edits_87 (lv_at hl 0 rfl) ?_
        obtain ⟨a89, ea89, ia89, h⟩ := swrd_s h
        refine ly_ald hx hb hK hI.2 (cd := 2) (by decide) rfl ia89 dL_edits_89 ea89 ?_
        refine lv_iconst (v := 1) hx hb dL_edits_90 (by decide) ?_
        refine lv_iconst (v := 3) hx hb dL_edits_91 (by decide) ?_
        refine lv_iload hx hb dL_edits_92 (lv_at hl 1 rfl) ?_
        refine lv_imul hx hb dL_edits_94 ?_
        refine lv_ishl hx hb dL_edits_95 ?_
        refine sw_top (x := swshl 1 (((3 : Int32) * r60))) rfl ?_
        refine lv_iconst (v := 1) hx hb dL_edits_96 (by decide) ?_
        refine lv_isub hx hb dL_edits_97 ?_
        refine lv_iand hx hb dL_edits_98 ?_
        obtain ⟨y99, ey99, h⟩ := swlt_s h
        refine sw_top ey99 ?_
        refine lv_istore (lv' := [(15, .int y99), (14, .int r80), (13, .int r60), (12, .int r22), (11, .int a14), (10, .int r5), (0, .ref (ad 0)), (1, .int x1), (2, .int x2), (3, .ref (al 0)), (4, .ref (al 1)), (5, .ref (al 2)), (6, .ref (al 3)), (7, .ref (al 4)), (8, .ref (al 5)), (9, .ref (al 8))]) hx hb dL_edits_99 hl (by decide) rfl (fun ls hl => ?_)
        refine lv_aload hx hb dL_edits_101 (lv_at hl 11 rfl) ?_
        refine lv_iload hx hb dL_edits_103 (lv_at hl 1 rfl) ?_
        refine lv_iload hx hb dL_edits_105 (lv_at hl 0 rfl) ?_
        refine lv_aload hx hb dL_edits_107 (lv_at hl 15 rfl) ?_
        refine lv_iconst (v := 1) hx hb dL_edits_109 (by decide) ?_
        obtain ⟨a110, ea110, ia110, h⟩ := swrd_s h
        refine ly_ald hx hb hK hI.2 (cd := 8) (by decide) rfl ia110 dL_edits_110 ea110 ?_
        refine lv_iconst (v := 1) hx hb dL_edits_111 (by decide) ?_
        refine lv_iadd hx hb dL_edits_112 ?_
        refine lv_iconst (v := 3) hx hb dL_edits_113 (by decide) ?_
        refine lv_iload hx hb dL_edits_114 (lv_at hl 2 rfl) ?_
        refine lv_imul hx hb dL_edits_116 ?_
        refine lv_ishl hx hb dL_edits_117 ?_
        refine sw_top (x := swshl (a110 + 1) (((3 : Int32) * r60))) rfl ?_
        refine lv_ior hx hb dL_edits_118 ?_
        refine lv_aload hx hb dL_edits_119 (lv_at hl 11 rfl) ?_
        refine lv_iload hx hb dL_edits_121 (lv_at hl 1 rfl) ?_
        obtain ⟨a123, ea123, ia123, h⟩ := swrd_s h
        refine ly_ald hx hb hK hI.2 (cd := 2) (by decide) rfl ia123 dL_edits_123 ea123 ?_
        refine lv_iload hx hb dL_edits_124 (lv_at hl 0 rfl) ?_
        refine lv_isub hx hb dL_edits_126 ?_
        refine lv_iconst (v := 3) hx hb dL_edits_127 (by decide) ?_
        refine lv_ishl hx hb dL_edits_128 ?_
        refine sw_top (x := swshl (a123 - y99) 3) rfl ?_
        refine lv_ior hx hb dL_edits_129 ?_
        obtain ⟨iu130, h⟩ := swgd_s h
        obtain ⟨u130, eu130, h⟩ := swlt_s h
        refine lb_ast hx hb hK hJ hF hI hS (cd := 2) (by decide) (by decide) rfl rfl (swix_s iu130) eu130 dL_edits_130 (fun H locs hI hS => ?_)
        refine lv_iload hx hb dL_edits_131 (lv_at hl 1 rfl) ?_
        refine lv_aload hx hb dL_edits_133 (lv_at hl 15 rfl) ?_
        refine lv_iconst (v := 1) hx hb dL_edits_135 (by decide) ?_
        obtain ⟨a136, ea136, ia136, h⟩ := swrd_s h
        refine ly_ald hx hb hK hI.2 (cd := 8) (by decide) rfl ia136 dL_edits_136 ea136 ?_
        refine lv_ldc2 (v := 1099511627776) hx hb hown fl43 dL_edits_137 ?_
        refine lv_aload_n hx hb dL_edits_140 rfl (lv_at hl 9 rfl) ?_
        refine lv_aload hx hb dL_edits_141 (lv_at hl 10 rfl) ?_
        obtain ⟨u143, er143, h⟩ := swbd_s h
        refine lb_rwV (As := [.int r80, .int a136, .long 1099511627776, .ref (al 0), .ref (al 1)]) (rest := []) E (lm_put l D cy al hJ.2.1 u130 r80 a136 (1099511627776 : Int64) _ er143) (va_cwS 5 hts gL_edits_L_put rfl rfl rfl (by decide +kernel) ⟨Nat.le_of_ble_eq_true rfl, Nat.le_of_ble_eq_true rfl⟩) hK hJ hF hI hS ⟨by show _ ≤ 4; omega, by show _ ≤ 24; omega⟩ rfl hl.1 rfl (Nat.le_of_ble_eq_true rfl) dL_edits_143 (fun H locs hI hS => ?_)
        refine lv_aload hx hb dL_edits_146 (lv_at hl 15 rfl) ?_
        refine lv_iconst (v := 1) hx hb dL_edits_148 (by decide) ?_
        refine lv_dup2_11 hx hb dL_edits_149 rfl rfl ?_
        obtain ⟨a150, ea150, ia150, h⟩ := swrd_s h
        refine ly_ald hx hb hK hI.2 (cd := 8) (by decide) rfl ia150 dL_edits_150 ea150 ?_
        refine lv_iconst (v := 1) hx hb dL_edits_151 (by decide) ?_
        refine lv_iadd hx hb dL_edits_152 ?_
        obtain ⟨iu153, h⟩ := swgd_s h
        obtain ⟨u153, eu153, h⟩ := swlt_s h
        refine lb_ast hx hb hK hJ hF hI hS (cd := 8) (by decide) (by decide) rfl rfl (swix_s iu153) eu153 dL_edits_153 (fun H locs hI hS => ?_)
        refine lv_aload_n hx hb dL_edits_154 rfl (lv_at hl 6 rfl) ?_
        refine lv_iload hx hb dL_edits_155 (lv_at hl 5 rfl) ?_
        refine lv_iload hx hb dL_edits_157 (lv_at hl 2 rfl) ?_
        obtain ⟨r159, w159, er159, h⟩ := swnx_s h
        refine lb_x0 (As := [.int r5, .int r60]) (rest := []) E (xm5_add l hst D cy ad hJ.1 u r5 r60 _ _ _ _ er159) (cwV 2 hts gL_edits_X5_add rfl rfl rfl (by decide +kernel) ⟨Nat.le_of_ble_eq_true rfl, Nat.le_of_ble_eq_true rfl⟩) hK hJ hF hI hS ⟨by show _ ≤ 4; omega, by show _ ≤ 24; omega⟩ rfl hl.1 rfl (Nat.le_of_ble_eq_true rfl) dL_edits_159 (fun H locs hI hS => ?_)
        refine lv_aload hx hb dL_edits_162 (lv_at hl 15 rfl) ?_
        refine lv_iconst (v := 1) hx hb dL_edits_164 (by decide) ?_
        obtain ⟨a165, ea165, ia165, h⟩ := swrd_s h
        refine ly_ald hx hb hK hI.2 (cd := 8) (by decide) rfl ia165 dL_edits_165 ea165 ?_
        refine lv_iconst (v := 1) hx hb dL_edits_166 (by decide) ?_
        refine lv_isub hx hb dL_edits_167 ?_
        refine lv_icmp_ne (tgt := 175) hx hb dL_edits_168 (by decide) (fun cc => ?_) (fun cc => ?_)
        · replace h := sw_f h cc
          refine lv_iconst (v := 0) hx hb dL_edits_175 (by decide) ?_
          refine W.widen (k := 4) (n := 24) (by omega) (by omega) ?_
          exact W.zret (ty := .boolean) hx hb hr rfl (fun t ht hW => ⟨⟨_, (), rfl, (sw_inj3 h).1, lb_end hI ht (sw_inj3 h).2.1 (sw_inj3 h).2.2⟩, hS.F ht⟩) hS.2.2 dL_edits_176 hlocks
        · replace h := sw_t h cc
          refine lv_iconst (v := 1) hx hb dL_edits_171 (by decide) ?_
          refine lv_goto (tgt := 176) hx hb dL_edits_172 (by decide) ?_
          refine W.widen (k := 4) (n := 24) (by omega) (by omega) ?_
          exact W.zret (ty := .boolean) hx hb hr rfl (fun t ht hW => ⟨⟨_, (), rfl, (sw_inj3 h).1, lb_end hI ht (sw_inj3 h).2.1 (sw_inj3 h).2.2⟩, hS.F ht⟩) hS.2.2 dL_edits_176 hlocks
      · replace h := sw_t h cc
        refine lv_iconst (v := 1) hx hb dL_edits_51 (by decide) ?_
        refine W.widen (k := 4) (n := 24) (by omega) (by omega) ?_
        exact W.zret (ty := .boolean) hx hb hr rfl (fun t ht hW => ⟨⟨_, (), rfl, (sw_inj3 h).1, lb_end hI ht (sw_inj3 h).2.1 (sw_inj3 h).2.2⟩, hS.F ht⟩) hS.2.2 dL_edits_52 hlocks
  · replace h := sw_t h cc
    refine lv_iconst (v := 1) hx hb dL_edits_36 (by decide) ?_
    refine W.widen (k := 4) (n := 24) (by omega) (by omega) ?_
    exact W.zret (ty := .boolean) hx hb hr rfl (fun t ht hW => ⟨⟨_, (), rfl, (sw_inj3 h).1, lb_end hI ht (sw_inj3 h).2.1 (sw_inj3 h).2.2⟩, hS.F ht⟩) hS.2.2 dL_edits_37 hlocks

/-! rules -/
def lx_rules_L221 (u : swU) (y : lyU) (kk : Int32 → Int32 → Option (Int32 × swU × lyU)) : Nat → Int32 → Int32 → Option (Int32 × swU × lyU)
  | 0, _, _ => none
  | n + 1, v14, v15 => swrd 6 (y.1 8) 0 fun a226 => if a226 ≤ v15 then (kk v14 v15) else (swbd (lx_blocked y v15) fun r243 => swjn (fun (s257_0 : Int32) => swlt (v14 ||| s257_0) fun y258 => lx_rules_L221 u y kk n y258 (v15 + 1)) fun k257_ => if r243 = 0 then (k257_ 0) else (k257_ (swshl 1 v15)))

def lx_rules_L298 (u : swU) (u291 : lyU) (v14 : Int32) (kk : Int32 → Int32 → Option (Int32 × swU × lyU)) : Nat → Int32 → Int32 → Option (Int32 × swU × lyU)
  | 0, _, _ => none
  | n + 1, v15, v16 => swrd 6 (u291.1 8) 0 fun a303 => if a303 ≤ v16 then (kk v15 v16) else (swbd (lx_blocked u291 v16) fun r320 => swjn (fun (s341_0 : Int32) => swlt (v15 + s341_0) fun y342 => lx_rules_L298 u u291 v14 kk n y342 (v16 + 1)) fun k341_ => if r320 = 0 then (k341_ 0) else (if ((swshr v14 v16) &&& 1) = 0 then (k341_ 1) else (k341_ 0)))

def lx_rules (u : swU) (y : lyU) (x1 : Int32) (x2 : Int32) : Option (Int32 × swU × lyU) :=
  if x1 = 0 then (swrd 6 (y.1 8) 3 fun a7 => if a7 = 8 then (some ((1 : Int32), u, y)) else (swbd (lx_low x2 3) fun r17 => swbd (lx_low (swshr x2 2) 4) fun r26 => swbd (lx_low (swshr x2 4) 4) fun r36 => swlt (((1 : Int32) + (r36 * 100))) fun y43 => swbd (lx_low (swshr x2 6) 7) fun r53 => swlt ((y43 + (r53 * 100))) fun y60 => swrd 6 (y.1 8) 3 fun a67 => swgd (swix a67 8) <| swlt (lyI y 6 (Int32.toNatClampNeg a67) ((((r17 + ((4 : Int32) * r26)) + ((16 : Int32) * y43)) + ((16384 : Int32) * y60)))) fun u88 => swrd 6 (u88.1 8) 3 fun a93 => swgd (swix (3 : Int32) 6) <| swlt (lyI u88 8 (Int32.toNatClampNeg (3 : Int32)) (a93 + 1)) fun u96 => swnx (xx5_rule u r17 r26 y43 y60) fun r106 w106 => swrd 6 (u96.1 8) 3 fun a112 => if r106 = (a112 - 1) then (some ((1 : Int32), w106, u96)) else (some ((0 : Int32), w106, u96)))) else (swrd 6 (y.1 8) 3 fun a127 => if a127 = 0 then (some ((1 : Int32), u, y)) else (swrd 6 (y.1 8) 3 fun a137 => swbd (lx_low x2 a137) fun r138 => swrd 8 (y.1 6) r138 fun a147 => swlt ((swrem (a147 / 16) 1024)) fun y155 => swrd 8 (y.1 6) r138 fun a161 => swlt (a161 / 16384) fun y166 => if x1 = 1 then (swbd (lx_low (swshr x2 3) 3) fun r179 => swlt ((y155 + ((r179 * (y166 - y155)) / 8))) fun y192 => swbd (lx_low (swshr x2 5) 3) fun r200 => swlt ((y166 - ((r200 * (y166 - y155)) / 8))) fun y213 => lx_rules_L221 u y (fun v14 v15 => swrd 8 (y.1 6) r138 fun a274 => swgd (swix r138 8) <| swlt (lyI y 6 (Int32.toNatClampNeg r138) ((((swrem a274 16) + ((16 : Int32) * y192)) + ((16384 : Int32) * y213)))) fun u291 => lx_rules_L298 u u291 v14 (fun v15 v16 => swnx (xx5_tighten u r138 y192 y213) fun r357 w357 => if r357 = v15 then (some ((1 : Int32), w357, u291)) else (some ((0 : Int32), w357, u291))) 64 0 0) 64 0 0) else (swrd 6 (y.1 8) 1 fun a374 => if a374 = 0 then (some ((1 : Int32), u, y)) else (swrd 6 (y.1 8) 1 fun a386 => swbd (lx_low (swshr x2 3) a386) fun r387 => swrd 6 (y.1 8) 5 fun a395 => swbd (lx_low (swshr x2 6) 6) fun r402 => swlt (a395 + r402) fun y406 => swrd 8 (y.1 6) r138 fun a412 => swjn (fun (s433_0 : Int32) => swjn (fun (yj469 : lyU) => swbd (lx_calls u yj469 2 r138 r387 y406) fun z477 => match z477 with | (r477, w477, u477) => swjn (fun (s496_0 : Int32) => if r477 = s496_0 then (some ((1 : Int32), w477, u477)) else (some ((0 : Int32), w477, u477))) fun k496_ => if s433_0 = 0 then (k496_ (-100003)) else (swrd 6 (u477.1 8) 4 fun a488 => k496_ (a488 - 1))) fun k469_ => if s433_0 = 0 then (k469_ y) else (swrd 6 (y.1 8) 4 fun a445 => swgd (swix a445 12) <| swlt (lyI y 7 (Int32.toNatClampNeg a445) (((r138 + ((8 : Int32) * r387)) + ((64 : Int32) * y406)))) fun u460 => swrd 6 (u460.1 8) 4 fun a465 => swgd (swix (4 : Int32) 6) <| swlt (lyI u460 8 (Int32.toNatClampNeg (4 : Int32)) (a465 + 1)) fun u468 => k469_ u468)) fun k433_ => if (swrem a412 4) = 1 then (swrd 6 (y.1 8) 4 fun a422 => if 12 ≤ a422 then (k433_ 0) else (k433_ 1)) else (k433_ 0)))))

abbrev rmL_rules : Room := { frames := 9, cells := 5, slots := 27, locals := 193 }

set_option maxHeartbeats 4000000 in
set_option maxRecDepth 100000 in
theorem lm_rules (l : Launch) (hst : l.stackTraces = false) (D : va_G) (cy : Nat → ClassId) (ad al : Nat → Nat) (hJ : lbJ ad al) (u : swU) (y : lyU) (x1 : Int32) (x2 : Int32) (sz : Nat) (r0 : Int32) (u0 : swU) (y0 : lyU) (h : lx_rules u y x1 x2 = some (r0, u0, y0)) : Met l yL_rules wsL_rules rmL_rules (lbC D cy ad al u y sz [.ref (ad 0), .int x1, .int x2, .ref (al 0), .ref (al 1), .ref (al 5), .ref (al 6), .ref (al 7), .ref (al 8)]) (lbQ D cy ad al sz r0 u0 y0) 5 27 (lbA ad al sz) := by
  refine Met.ofW (cc := cL_rules) (maxL := 17) (ret := (some .boolean)) (by decide) rfl ?_
  intro p e s m args below meth c s₁ B hml hv
  obtain ⟨ha, hI, hK, hX, hNc, hsz⟩ := hv
  have hx := B.exec
  have hb := B.bytes
  have hr := B.returns
  have hlocks := B.notSynchronized
  have hts := atoms_spec (ws := wsL_rules) B.pre
  have hown : s.vm.findClass RL = some m.cls := findClass_of_methodNamed B.named
  have E : CallFix p m c cL_rules 17 s args wsL_rules RL := ⟨hx, hb, hml, hown, hts⟩
  have fc28 : (Cond.constant RL 28 (-100003)).before args s = true := hts _ (by decide +kernel)
  have hS : va_S (lbA ad al sz) s.heap s.heap [] := va_S.rf
  have hF : lbF s (lbA ad al sz) ad al := lbF_of hX hsz
  obtain ⟨ls, hl, hent⟩ := sw_entry m (n := 17) ha (Nat.le_of_ble_eq_true rfl)
  rw [hent]
  have hl : lv_has ls 17 [(0, .ref (ad 0)), (1, .int x1), (2, .int x2), (3, .ref (al 0)), (4, .ref (al 1)), (5, .ref (al 5)), (6, .ref (al 6)), (7, .ref (al 7)), (8, .ref (al 8))] := hl
  unfold lx_rules at h
  refine lv_iload_n hx hb dL_rules_0 rfl (lv_at hl 1 rfl) ?_
  refine lv_if_ne (tgt := 124) hx hb dL_rules_1 (by decide) (fun cc => ?_) (fun cc => ?_)
  · replace h := sw_f h cc
    refine lv_aload hx hb dL_rules_124 (lv_at hl 8 rfl) ?_
    refine lv_iconst (v := 3) hx hb dL_rules_126 (by decide) ?_
    obtain ⟨a127, ea127, ia127, h⟩ := swrd_s h
    refine ly_ald hx hb hK hI.2 (cd := 8) (by decide) rfl ia127 dL_rules_127 ea127 ?_
    refine lv_if_ne (tgt := 133) hx hb dL_rules_128 (by decide) (fun cc => ?_) (fun cc => ?_)
    · replace h := sw_f h cc
      refine lv_iload_n hx hb dL_rules_133 rfl (lv_at hl 2 rfl) ?_
      refine lv_aload hx hb dL_rules_134 (lv_at hl 8 rfl) ?_
      refine lv_iconst (v := 3) hx hb dL_rules_136 (by decide) ?_
      obtain ⟨a137, ea137, ia137, h⟩ := swrd_s h
      refine ly_ald hx hb hK hI.2 (cd := 8) (by decide) rfl ia137 dL_rules_137 ea137 ?_
      obtain ⟨r138, er138, h⟩ := swbd_s h
      refine ly_stS (As := [.int x2, .int a137]) (rest := []) E (lm_low l x2 a137 _ er138) (va_cwS 2 hts gL_rules_L_low rfl rfl rfl (by decide +kernel) ⟨Nat.le_of_ble_eq_true rfl, Nat.le_of_ble_eq_true rfl⟩) ⟨by show _ ≤ 5; omega, by show _ ≤ 27; omega⟩ rfl hl.1 rfl (Nat.le_of_ble_eq_true rfl) dL_rules_138 ?_
      refine lv_istore (lv' := [(9, .int r138), (0, .ref (ad 0)), (1, .int x1), (2, .int x2), (3, .ref (al 0)), (4, .ref (al 1)), (5, .ref (al 5)), (6, .ref (al 6)), (7, .ref (al 7)), (8, .ref (al 8))]) hx hb dL_rules_141 hl (by decide) rfl (fun ls hl => ?_)
      refine lv_aload hx hb dL_rules_143 (lv_at hl 7 rfl) ?_
      refine lv_iload hx hb dL_rules_145 (lv_at hl 0 rfl) ?_
      obtain ⟨a147, ea147, ia147, h⟩ := swrd_s h
      refine ly_ald hx hb hK hI.2 (cd := 6) (by decide) rfl ia147 dL_rules_147 ea147 ?_
      refine lv_bipush (v := 16) hx hb dL_rules_148 (by decide) ?_
      refine lv_idiv hx hb dL_rules_150 (by decide) ?_
      refine lv_sipush (v := 1024) hx hb dL_rules_151 (by decide) ?_
      refine lv_irem hx hb dL_rules_154 (by decide) ?_
      refine sw_top (x := swrem (a147 / 16) 1024) rfl ?_
      obtain ⟨y155, ey155, h⟩ := swlt_s h
      refine sw_top ey155 ?_
      refine lv_istore (lv' := [(10, .int y155), (9, .int r138), (0, .ref (ad 0)), (1, .int x1), (2, .int x2), (3, .ref (al 0)), (4, .ref (al 1)), (5, .ref (al 5)), (6, .ref (al 6)), (7, .ref (al 7)), (8, .ref (al 8))]) hx hb dL_rules_155 hl (by decide) rfl (fun ls hl => ?_)
      refine lv_aload hx hb dL_rules_157 (lv_at hl 8 rfl) ?_
      refine lv_iload hx hb dL_rules_159 (lv_at hl 1 rfl) ?_
      obtain ⟨a161, ea161, ia161, h⟩ := swrd_s h
      refine ly_ald hx hb hK hI.2 (cd := 6) (by decide) rfl ia161 dL_rules_161 ea161 ?_
      refine lv_sipush (v := 16384) hx hb dL_rules_162 (by decide) ?_
      refine lv_idiv hx hb dL_rules_165 (by decide) ?_
      obtain ⟨y166, ey166, h⟩ := swlt_s h
      refine sw_top ey166 ?_
      refine lv_istore (lv' := [(11, .int y166), (10, .int y155), (9, .int r138), (0, .ref (ad 0)), (1, .int x1), (2, .int x2), (3, .ref (al 0)), (4, .ref (al 1)), (5, .ref (al 5)), (6, .ref (al 6)), (7, .ref (al 7)), (8, .ref (al 8))]) hx hb dL_rules_166 hl (by decide) rfl (fun ls hl => ?_)
      refine lv_iload_n hx hb dL_rules_168 rfl (lv_at hl 4 rfl) ?_
      refine lv_iconst (v := 1) hx hb dL_rules_169 (by decide) ?_
      refine lv_icmp_ne (tgt := 371) hx hb dL_rules_170 (by decide) (fun cc => ?_) (fun cc => ?_)
      · replace h := sw_f h cc
        refine lv_aload hx hb dL_rules_371 (lv_at hl 11 rfl) ?_
        refine lv_iconst (v := 1) hx hb dL_rules_373 (by decide) ?_
        obtain ⟨a374, ea374, ia374, h⟩ := swrd_s h
        refine ly_ald hx hb hK hI.2 (cd := 8) (by decide) rfl ia374 dL_rules_374 ea374 ?_
        refine lv_if_ne (tgt := 380) hx hb dL_rules_375 (by decide) (fun cc => ?_) (fun cc => ?_)
        · replace h := sw_f h cc
          refine lv_iload_n hx hb dL_rules_380 rfl (lv_at hl 5 rfl) ?_
          refine lv_iconst (v := 3) hx hb dL_rules_381 (by decide) ?_
          refine lv_ishr hx hb dL_rules_382 ?_
          refine sw_top (x := swshr x2 3) rfl ?_
          refine lv_aload hx hb dL_rules_383 (lv_at hl 11 rfl) ?_
          refine lv_iconst (v := 1) hx hb dL_rules_385 (by decide) ?_
          obtain ⟨a386, ea386, ia386, h⟩ := swrd_s h
          refine ly_ald hx hb hK hI.2 (cd := 8) (by decide) rfl ia386 dL_rules_386 ea386 ?_
          obtain ⟨r387, er387, h⟩ := swbd_s h
          refine ly_stS (As := [.int (swshr x2 3), .int a386]) (rest := []) E (lm_low l (swshr x2 3) a386 _ er387) (va_cwS 2 hts gL_rules_L_low rfl rfl rfl (by decide +kernel) ⟨Nat.le_of_ble_eq_true rfl, Nat.le_of_ble_eq_true rfl⟩) ⟨by show _ ≤ 5; omega, by show _ ≤ 27; omega⟩ rfl hl.1 rfl (Nat.le_of_ble_eq_true rfl) dL_rules_387 ?_
          refine lv_istore (lv' := [(12, .int r387), (11, .int y166), (10, .int y155), (9, .int r138), (0, .ref (ad 0)), (1, .int x1), (2, .int x2), (3, .ref (al 0)), (4, .ref (al 1)), (5, .ref (al 5)), (6, .ref (al 6)), (7, .ref (al 7)), (8, .ref (al 8))]) hx hb dL_rules_390 hl (by decide) rfl (fun ls hl => ?_)
          refine lv_aload hx hb dL_rules_392 (lv_at hl 12 rfl) ?_
          refine lv_iconst (v := 5) hx hb dL_rules_394 (by decide) ?_
          obtain ⟨a395, ea395, ia395, h⟩ := swrd_s h
          refine ly_ald hx hb hK hI.2 (cd := 8) (by decide) rfl ia395 dL_rules_395 ea395 ?_
          refine lv_iload_n hx hb dL_rules_396 rfl (lv_at hl 6 rfl) ?_
          refine lv_bipush (v := 6) hx hb dL_rules_397 (by decide) ?_
          refine lv_ishr hx hb dL_rules_399 ?_
          refine sw_top (x := swshr x2 6) rfl ?_
          refine lv_bipush (v := 6) hx hb dL_rules_400 (by decide) ?_
          obtain ⟨r402, er402, h⟩ := swbd_s h
          refine ly_stS (As := [.int (swshr x2 6), .int 6]) (rest := [.int a395]) E (lm_low l (swshr x2 6) 6 _ er402) (va_cwS 2 hts gL_rules_L_low rfl rfl rfl (by decide +kernel) ⟨Nat.le_of_ble_eq_true rfl, Nat.le_of_ble_eq_true rfl⟩) ⟨by show _ ≤ 5; omega, by show _ ≤ 27; omega⟩ rfl hl.1 rfl (Nat.le_of_ble_eq_true rfl) dL_rules_402 ?_
          refine lv_iadd hx hb dL_rules_405 ?_
          obtain ⟨y406, ey406, h⟩ := swlt_s h
          refine sw_top ey406 ?_
          refine lv_istore (lv' := [(13, .int y406), (12, .int r387), (11, .int y166), (10, .int y155), (9, .int r138), (0, .ref (ad 0)), (1, .int x1), (2, .int x2), (3, .ref (al 0)), (4, .ref (al 1)), (5, .ref (al 5)), (6, .ref (al 6)), (7, .ref (al 7)), (8, .ref (al 8))]) hx hb dL_rules_406 hl (by decide) rfl (fun ls hl => ?_)
          refine lv_aload hx hb dL_rules_408 (lv_at hl 11 rfl) ?_
          refine lv_iload hx hb dL_rules_410 (lv_at hl 4 rfl) ?_
          obtain ⟨a412, ea412, ia412, h⟩ := swrd_s h
          refine ly_ald hx hb hK hI.2 (cd := 6) (by decide) rfl ia412 dL_rules_412 ea412 ?_
          refine lv_iconst (v := 4) hx hb dL_rules_413 (by decide) ?_
          refine lv_irem hx hb dL_rules_414 (by decide) ?_
          refine sw_top (x := swrem a412 4) rfl ?_
          refine lv_iconst (v := 1) hx hb dL_rules_415 (by decide) ?_
          obtain ⟨k433_, ek433_, h⟩ := swjn_s h
          have J433 : ∀ (s433_0 : Int32) (H : Heap) (locs : List Loc) (ls : Array Slot), k433_ s433_0 = some (r0, u0, y0) → lbI D cy ad al u y H → va_S (lbA ad al sz) s.heap H locs → lv_has ls 17 [(0, .ref (ad 0)), (1, .int x1), (2, .int x2), (3, .ref (al 0)), (4, .ref (al 1)), (5, .ref (al 5)), (6, .ref (al 6)), (7, .ref (al 7)), (8, .ref (al 8)), (9, .int r138), (10, .int y155), (11, .int y166), (12, .int r387), (13, .int y406)] → W p l e (headSpec wsL_rules rmL_rules).room s m args below meth c H locs 0 0 (MQ below (lbQ D cy ad al sz r0 u0 y0) args s 5 27 (lbA ad al sz)) (F0 m 433 ls [.int s433_0]) := by
            intro s433_0 H locs ls h hI hS hl
            rw [ek433_] at h
            refine lv_istore (lv' := [(14, .int s433_0), (0, .ref (ad 0)), (1, .int x1), (2, .int x2), (3, .ref (al 0)), (4, .ref (al 1)), (5, .ref (al 5)), (6, .ref (al 6)), (7, .ref (al 7)), (8, .ref (al 8)), (9, .int r138), (10, .int y155), (11, .int y166), (12, .int r387), (13, .int y406)]) hx hb dL_rules_433 hl (by decide) rfl (fun ls hl => ?_)
            refine lv_iload hx hb dL_rules_435 (lv_at hl 0 rfl) ?_
            obtain ⟨k469_, ek469_, h⟩ := swjn_s h
            have J469 : ∀ (yj469 : lyU) (H : Heap) (locs : List Loc) (ls : Array Slot), k469_ yj469 = some (r0, u0, y0) → lbI D cy ad al u yj469 H → va_S (lbA ad al sz) s.heap H locs → lv_has ls 17 [(0, .ref (ad 0)), (1, .int x1), (2, .int x2), (3, .ref (al 0)), (4, .ref (al 1)), (5, .ref (al 5)), (6, .ref (al 6)), (7, .ref (al 7)), (8, .ref (al 8)), (9, .int r138), (10, .int y155), (11, .int y166), (12, .int r387), (13, .int y406), (14, .int s433_0)] → W p l e (headSpec wsL_rules rmL_rules).room s m args below meth c H locs 0 0 (MQ below (lbQ D cy ad al sz r0 u0 y0) args s 5 27 (lbA ad al sz)) (F0 m 469 ls []) := by
              intro yj469 H locs ls h hI hS hl
              rw [ek469_] at h
              refine lv_aload_n hx hb dL_rules_469 rfl (lv_at hl 0 rfl) ?_
              refine lv_iconst (v := 2) hx hb dL_rules_470 (by decide) ?_
              refine lv_iload hx hb dL_rules_471 (lv_at hl 9 rfl) ?_
              refine lv_iload hx hb dL_rules_473 (lv_at hl 12 rfl) ?_
              refine lv_iload hx hb dL_rules_475 (lv_at hl 13 rfl) ?_
              obtain ⟨⟨r477, w477, u477⟩, er477, h⟩ := swbd_s h
              refine lb_bW (As := [.ref (ad 0), .int 2, .int r138, .int r387, .int y406]) (rest := []) E (lm_calls l hst D cy ad al hJ u yj469 2 r138 r387 y406 _ _ _ _ er477) (vx_cwSW 5 hts gL_rules_L_calls rfl rfl rfl (by decide +kernel) ⟨Nat.le_of_ble_eq_true rfl, Nat.le_of_ble_eq_true rfl⟩) hK hNc hF hI hS ⟨by show _ ≤ 5; omega, by show _ ≤ 27; omega⟩ rfl hl.1 rfl (Nat.le_of_ble_eq_true rfl) dL_rules_477 (fun H locs hI hS => ?_)
              refine lv_iload hx hb dL_rules_480 (lv_at hl 14 rfl) ?_
              obtain ⟨k496_, ek496_, h⟩ := swjn_s h
              have J496 : ∀ (s496_0 : Int32) (H : Heap) (locs : List Loc) (ls : Array Slot), k496_ s496_0 = some (r0, u0, y0) → lbI D cy ad al w477 u477 H → va_S (lbA ad al sz) s.heap H locs → lv_has ls 17 [(0, .ref (ad 0)), (1, .int x1), (2, .int x2), (3, .ref (al 0)), (4, .ref (al 1)), (5, .ref (al 5)), (6, .ref (al 6)), (7, .ref (al 7)), (8, .ref (al 8)), (9, .int r138), (10, .int y155), (11, .int y166), (12, .int r387), (13, .int y406), (14, .int s433_0)] → W p l e (headSpec wsL_rules rmL_rules).room s m args below meth c H locs 5 27 (MQ below (lbQ D cy ad al sz r0 u0 y0) args s 5 27 (lbA ad al sz)) (F0 m 496 ls [.int s496_0, .int r477]) := by
                intro s496_0 H locs ls h hI hS hl
                rw [ek496_] at h
                refine lv_icmp_ne (tgt := 503) hx hb dL_rules_496 (by decide) (fun cc => ?_) (fun cc => ?_)
                · replace h := sw_f h cc
                  refine lv_iconst (v := 0) hx hb dL_rules_503 (by decide) ?_
                  refine W.widen (k := 5) (n := 27) (by omega) (by omega) ?_
                  exact W.zret (ty := .boolean) hx hb hr rfl (fun t ht hW => ⟨⟨_, (), rfl, (sw_inj3 h).1, lb_end hI ht (sw_inj3 h).2.1 (sw_inj3 h).2.2⟩, hS.F ht⟩) hS.2.2 dL_rules_504 hlocks
                · replace h := sw_t h cc
                  refine lv_iconst (v := 1) hx hb dL_rules_499 (by decide) ?_
                  refine lv_goto (tgt := 504) hx hb dL_rules_500 (by decide) ?_
                  refine W.widen (k := 5) (n := 27) (by omega) (by omega) ?_
                  exact W.zret (ty := .boolean) hx hb hr rfl (fun t ht hW => ⟨⟨_, (), rfl, (sw_inj3 h).1, lb_end hI ht (sw_inj3 h).2.1 (sw_inj3 h).2.2⟩, hS.F ht⟩) hS.2.2 dL_rules_504 hlocks
              clear ek496_
              refine lv_if_eq (tgt := 494) hx hb dL_rules_482 (by decide) (fun cc => ?_) (fun cc => ?_)
              · replace h := sw_t h cc
                refine lv_ldc (v := (-100003)) hx hb hown fc28 dL_rules_494 ?_
                exact J496 _ _ _ _ h hI hS (lv_sub hl [0, 1, 2, 3, 4, 5, 6, 7, 8, 9, 10, 11, 12, 13, 14] rfl)
              · replace h := sw_f h cc
                refine lv_aload hx hb dL_rules_485 (lv_at hl 8 rfl) ?_
                refine lv_iconst (v := 4) hx hb dL_rules_487 (by decide) ?_
                obtain ⟨a488, ea488, ia488, h⟩ := swrd_s h
                refine ly_ald hx hb hK hI.2 (cd := 8) (by decide) rfl ia488 dL_rules_488 ea488 ?_
                refine lv_iconst (v := 1) hx hb dL_rules_489 (by decide) ?_
                refine lv_isub hx hb dL_rules_490 ?_
                refine lv_goto (tgt := 496) hx hb dL_rules_491 (by decide) ?_
                exact J496 _ _ _ _ h hI hS (lv_sub hl [0, 1, 2, 3, 4, 5, 6, 7, 8, 9, 10, 11, 12, 13, 14] rfl)
            clear ek469_
            refine lv_if_eq (tgt := 469) hx hb dL_rules_437 (by decide) (fun cc => ?_) (fun cc => ?_)
            · replace h := sw_t h cc
              exact J469 _ _ _ _ h hI hS (lv_sub hl [1, 2, 3, 4, 5, 6, 7, 8, 9, 10, 11, 12, 13, 14, 0] rfl)
            · replace h := sw_f h cc
              refine lv_aload hx hb dL_rules_440 (lv_at hl 8 rfl) ?_
              refine lv_aload hx hb dL_rules_442 (lv_at hl 9 rfl) ?_
              refine lv_iconst (v := 4) hx hb dL_rules_444 (by decide) ?_
              obtain ⟨a445, ea445, ia445, h⟩ := swrd_s h
              refine ly_ald hx hb hK hI.2 (cd := 8) (by decide) rfl ia445 dL_rules_445 ea445 ?_
              refine lv_iload hx hb dL_rules_446 (lv_at hl 10 rfl) ?_
              refine lv_bipush (v := 8) hx hb dL_rules_448 (by decide) ?_
              refine lv_iload hx hb dL_rules_450 (lv_at hl 13 rfl) ?_
              refine lv_imul hx hb dL_rules_452 ?_
              refine lv_iadd hx hb dL_rules_453 ?_
              refine lv_bipush (v := 64) hx hb dL_rules_454 (by decide) ?_
              refine lv_iload hx hb dL_rules_456 (lv_at hl 14 rfl) ?_
              refine lv_imul hx hb dL_rules_458 ?_
              refine lv_iadd hx hb dL_rules_459 ?_
              obtain ⟨iu460, h⟩ := swgd_s h
              obtain ⟨u460, eu460, h⟩ := swlt_s h
              refine lb_ast hx hb hK hJ hF hI hS (cd := 7) (by decide) (by decide) rfl rfl (swix_s iu460) eu460 dL_rules_460 (fun H locs hI hS => ?_)
              refine lv_aload hx hb dL_rules_461 (lv_at hl 9 rfl) ?_
              refine lv_iconst (v := 4) hx hb dL_rules_463 (by decide) ?_
              refine lv_dup2_11 hx hb dL_rules_464 rfl rfl ?_
              obtain ⟨a465, ea465, ia465, h⟩ := swrd_s h
              refine ly_ald hx hb hK hI.2 (cd := 8) (by decide) rfl ia465 dL_rules_465 ea465 ?_
              refine lv_iconst (v := 1) hx hb dL_rules_466 (by decide) ?_
              refine lv_iadd hx hb dL_rules_467 ?_
              obtain ⟨iu468, h⟩ := swgd_s h
              obtain ⟨u468, eu468, h⟩ := swlt_s h
              refine lb_ast hx hb hK hJ hF hI hS (cd := 8) (by decide) (by decide) rfl rfl (swix_s iu468) eu468 dL_rules_468 (fun H locs hI hS => ?_)
              exact J469 _ _ _ _ h hI hS (lv_sub hl [1, 2, 3, 4, 5, 6, 7, 8, 9, 10, 11, 12, 13, 14, 0] rfl)
          clear ek433_
          refine lv_icmp_ne (tgt := 432) hx hb dL_rules_416 (by decide) (fun cc => ?_) (fun cc => ?_)
          · replace h := sw_f h cc
            refine lv_iconst (v := 0) hx hb dL_rules_432 (by decide) ?_
            exact J433 _ _ _ _ h hI hS (lv_sub hl [5, 6, 7, 8, 9, 10, 11, 12, 13, 4, 3, 2, 1, 0] rfl)
          · replace h := sw_t h cc
            refine lv_aload hx hb dL_rules_419 (lv_at hl 13 rfl) ?_
            refine lv_iconst (v := 4) hx hb dL_rules_421 (by decide) ?_
            obtain ⟨a422, ea422, ia422, h⟩ := swrd_s h
            refine ly_ald hx hb hK hI.2 (cd := 8) (by decide) rfl ia422 dL_rules_422 ea422 ?_
            refine lv_bipush (v := 12) hx hb dL_rules_423 (by decide) ?_
            refine lv_icmp_ge (tgt := 432) hx hb dL_rules_425 (by decide) (fun cc => ?_) (fun cc => ?_)
            · replace h := sw_t h cc
              refine lv_iconst (v := 0) hx hb dL_rules_432 (by decide) ?_
              exact J433 _ _ _ _ h hI hS (lv_sub hl [5, 6, 7, 8, 9, 10, 11, 12, 13, 4, 3, 2, 1, 0] rfl)
            · replace h := sw_f h cc
              refine lv_iconst (v := 1) hx hb dL_rules_428 (by decide) ?_
              refine lv_goto (tgt := 433) hx hb dL_rules_429 (by decide) ?_
              exact J433 _ _ _ _ h hI hS (lv_sub hl [5, 6, 7, 8, 9, 10, 11, 12, 13, 4, 3, 2, 1, 0] rfl)
        · replace h := sw_t h cc
          refine lv_iconst (v := 1) hx hb dL_rules_378 (by decide) ?_
          refine W.widen (k := 5) (n := 27) (by omega) (by omega) ?_
          exact W.zret (ty := .boolean) hx hb hr rfl (fun t ht hW => ⟨⟨_, (), rfl, (sw_inj3 h).1, lb_end hI ht (sw_inj3 h).2.1 (sw_inj3 h).2.2⟩, hS.F ht⟩) hS.2.2 dL_rules_379 hlocks
      · replace h := sw_t h cc
        refine lv_iload hx hb dL_rules_173 (lv_at hl 1 rfl) ?_
        refine lv_iload_n hx hb dL_rules_175 rfl (lv_at hl 5 rfl) ?_
        refine lv_iconst (v := 3) hx hb dL_rules_176 (by decide) ?_
        refine lv_ishr hx hb dL_rules_177 ?_
        refine sw_top (x := swshr x2 3) rfl ?_
        refine lv_iconst (v := 3) hx hb dL_rules_178 (by decide) ?_
        obtain ⟨r179, er179, h⟩ := swbd_s h
        refine ly_stS (As := [.int (swshr x2 3), .int 3]) (rest := [.int y155]) E (lm_low l (swshr x2 3) 3 _ er179) (va_cwS 2 hts gL_rules_L_low rfl rfl rfl (by decide +kernel) ⟨Nat.le_of_ble_eq_true rfl, Nat.le_of_ble_eq_true rfl⟩) ⟨by show _ ≤ 5; omega, by show _ ≤ 27; omega⟩ rfl hl.1 rfl (Nat.le_of_ble_eq_true rfl) dL_rules_179 ?_
        refine lv_iload hx hb dL_rules_182 (lv_at hl 0 rfl) ?_
        refine lv_iload hx hb dL_rules_184 (lv_at hl 1 rfl) ?_
        refine lv_isub hx hb dL_rules_186 ?_
        refine lv_imul hx hb dL_rules_187 ?_
        refine lv_bipush (v := 8) hx hb dL_rules_188 (by decide) ?_
        refine lv_idiv hx hb dL_rules_190 (by decide) ?_
        refine lv_iadd hx hb dL_rules_191 ?_
        obtain ⟨y192, ey192, h⟩ := swlt_s h
        refine sw_top ey192 ?_
        refine lv_istore (lv' := [(12, .int y192), (11, .int y166), (10, .int y155), (9, .int r138), (0, .ref (ad 0)), (1, .int x1), (2, .int x2), (3, .ref (al 0)), (4, .ref (al 1)), (5, .ref (al 5)), (6, .ref (al 6)), (7, .ref (al 7)), (8, .ref (al 8))]) hx hb dL_rules_192 hl (by decide) rfl (fun ls hl => ?_)
        refine lv_iload hx hb dL_rules_194 (lv_at hl 1 rfl) ?_
        refine lv_iload_n hx hb dL_rules_196 rfl (lv_at hl 6 rfl) ?_
        refine lv_iconst (v := 5) hx hb dL_rules_197 (by decide) ?_
        refine lv_ishr hx hb dL_rules_198 ?_
        refine sw_top (x := swshr x2 5) rfl ?_
        refine lv_iconst (v := 3) hx hb dL_rules_199 (by decide) ?_
        obtain ⟨r200, er200, h⟩ := swbd_s h
        refine ly_stS (As := [.int (swshr x2 5), .int 3]) (rest := [.int y166]) E (lm_low l (swshr x2 5) 3 _ er200) (va_cwS 2 hts gL_rules_L_low rfl rfl rfl (by decide +kernel) ⟨Nat.le_of_ble_eq_true rfl, Nat.le_of_ble_eq_true rfl⟩) ⟨by show _ ≤ 5; omega, by show _ ≤ 27; omega⟩ rfl hl.1 rfl (Nat.le_of_ble_eq_true rfl) dL_rules_200 ?_
        refine lv_iload hx hb dL_rules_203 (lv_at hl 1 rfl) ?_
        refine lv_iload hx hb dL_rules_205 (lv_at hl 2 rfl) ?_
        refine lv_isub hx hb dL_rules_207 ?_
        refine lv_imul hx hb dL_rules_208 ?_
        refine lv_bipush (v := 8) hx hb dL_rules_209 (by decide) ?_
        refine lv_idiv hx hb dL_rules_211 (by decide) ?_
        refine lv_isub hx hb dL_rules_212 ?_
        obtain ⟨y213, ey213, h⟩ := swlt_s h
        refine sw_top ey213 ?_
        refine lv_istore (lv' := [(13, .int y213), (12, .int y192), (11, .int y166), (10, .int y155), (9, .int r138), (0, .ref (ad 0)), (1, .int x1), (2, .int x2), (3, .ref (al 0)), (4, .ref (al 1)), (5, .ref (al 5)), (6, .ref (al 6)), (7, .ref (al 7)), (8, .ref (al 8))]) hx hb dL_rules_213 hl (by decide) rfl (fun ls hl => ?_)
        refine lv_iconst (v := 0) hx hb dL_rules_215 (by decide) ?_
        refine lv_istore (lv' := [(14, .int 0), (13, .int y213), (12, .int y192), (11, .int y166), (10, .int y155), (9, .int r138), (0, .ref (ad 0)), (1, .int x1), (2, .int x2), (3, .ref (al 0)), (4, .ref (al 1)), (5, .ref (al 5)), (6, .ref (al 6)), (7, .ref (al 7)), (8, .ref (al 8))]) hx hb dL_rules_216 hl (by decide) rfl (fun ls hl => ?_)
        refine lv_iconst (v := 0) hx hb dL_rules_218 (by decide) ?_
        refine lv_istore (lv' := [(15, .int 0), (14, .int 0), (13, .int y213), (12, .int y192), (11, .int y166), (10, .int y155), (9, .int r138), (0, .ref (ad 0)), (1, .int x1), (2, .int x2), (3, .ref (al 0)), (4, .ref (al 1)), (5, .ref (al 5)), (6, .ref (al 6)), (7, .ref (al 7)), (8, .ref (al 8))]) hx hb dL_rules_219 hl (by decide) rfl (fun ls hl => ?_)
        have L221 : ∀ (kk : Int32 → Int32 → Option (Int32 × swU × lyU)), (∀ (v14 : Int32) (v15 : Int32) (H : Heap) (locs : List Loc) (ls : Array Slot), kk v14 v15 = some (r0, u0, y0) → lbI D cy ad al u y H → va_S (lbA ad al sz) s.heap H locs → lv_has ls 17 [(0, .ref (ad 0)), (1, .int x1), (2, .int x2), (3, .ref (al 0)), (4, .ref (al 1)), (5, .ref (al 5)), (6, .ref (al 6)), (7, .ref (al 7)), (8, .ref (al 8)), (9, .int r138), (10, .int y155), (11, .int y166), (12, .int y192), (13, .int y213), (14, .int v14), (15, .int v15)] → W p l e (headSpec wsL_rules rmL_rules).room s m args below meth c H locs 0 0 (MQ below (lbQ D cy ad al sz r0 u0 y0) args s 5 27 (lbA ad al sz)) (F0 m 266 ls [])) → ∀ (n : Nat) (v14 : Int32) (v15 : Int32) (H : Heap) (locs : List Loc) (ls : Array Slot), lx_rules_L221 u y kk n v14 v15 = some (r0, u0, y0) → lbI D cy ad al u y H → va_S (lbA ad al sz) s.heap H locs → lv_has ls 17 [(0, .ref (ad 0)), (1, .int x1), (2, .int x2), (3, .ref (al 0)), (4, .ref (al 1)), (5, .ref (al 5)), (6, .ref (al 6)), (7, .ref (al 7)), (8, .ref (al 8)), (9, .int r138), (10, .int y155), (11, .int y166), (12, .int y192), (13, .int y213), (14, .int v14), (15, .int v15)] → W p l e (headSpec wsL_rules rmL_rules).room s m args below meth c H locs 0 0 (MQ below (lbQ D cy ad al sz r0 u0 y0) args s 5 27 (lbA ad al sz)) (F0 m 221 ls []) := by
          intro kk hk221 n
          induction n with
          | zero => intro v14 v15 H locs ls h hI hS hl; rw [lx_rules_L221] at h; cases h
          | succ n ih221 =>
            intro v14 v15 H locs ls h hI hS hl
            rw [lx_rules_L221] at h
            refine lv_iload hx hb dL_rules_221 (lv_at hl 15 rfl) ?_
            refine lv_aload hx hb dL_rules_223 (lv_at hl 8 rfl) ?_
            refine lv_iconst (v := 0) hx hb dL_rules_225 (by decide) ?_
            obtain ⟨a226, ea226, ia226, h⟩ := swrd_s h
            refine ly_ald hx hb hK hI.2 (cd := 8) (by decide) rfl ia226 dL_rules_226 ea226 ?_
            refine lv_icmp_ge (tgt := 266) hx hb dL_rules_227 (by decide) (fun cc => ?_) (fun cc => ?_)
            · replace h := sw_t h cc
              exact hk221 _ _ _ _ _ h hI hS (lv_sub hl [0, 1, 2, 3, 4, 5, 6, 7, 8, 9, 10, 11, 12, 13, 14, 15] rfl)
            · replace h := sw_f h cc
              refine lv_iload hx hb dL_rules_230 (lv_at hl 14 rfl) ?_
              refine lv_iload hx hb dL_rules_232 (lv_at hl 15 rfl) ?_
              refine lv_aload_n hx hb dL_rules_234 rfl (lv_at hl 3 rfl) ?_
              refine lv_aload hx hb dL_rules_235 (lv_at hl 4 rfl) ?_
              refine lv_aload hx hb dL_rules_237 (lv_at hl 6 rfl) ?_
              refine lv_aload hx hb dL_rules_239 (lv_at hl 7 rfl) ?_
              refine lv_aload hx hb dL_rules_241 (lv_at hl 8 rfl) ?_
              obtain ⟨r243, er243, h⟩ := swbd_s h
              refine ly_roS (As := [.int v15, .ref (al 0), .ref (al 1), .ref (al 6), .ref (al 7), .ref (al 8)]) (rest := [.int v14]) E (lm_blocked l D cy al y v15 _ er243) (va_cwS 6 hts gL_rules_L_blocked rfl rfl rfl (by decide +kernel) ⟨Nat.le_of_ble_eq_true rfl, Nat.le_of_ble_eq_true rfl⟩) hK hI.2 ⟨by show _ ≤ 5; omega, by show _ ≤ 27; omega⟩ rfl hl.1 rfl (Nat.le_of_ble_eq_true rfl) dL_rules_243 ?_
              obtain ⟨k257_, ek257_, h⟩ := swjn_s h
              have J257 : ∀ (s257_0 : Int32) (H : Heap) (locs : List Loc) (ls : Array Slot), k257_ s257_0 = some (r0, u0, y0) → lbI D cy ad al u y H → va_S (lbA ad al sz) s.heap H locs → lv_has ls 17 [(0, .ref (ad 0)), (1, .int x1), (2, .int x2), (3, .ref (al 0)), (4, .ref (al 1)), (5, .ref (al 5)), (6, .ref (al 6)), (7, .ref (al 7)), (8, .ref (al 8)), (9, .int r138), (10, .int y155), (11, .int y166), (12, .int y192), (13, .int y213), (14, .int v14), (15, .int v15)] → W p l e (headSpec wsL_rules rmL_rules).room s m args below meth c H locs 0 0 (MQ below (lbQ D cy ad al sz r0 u0 y0) args s 5 27 (lbA ad al sz)) (F0 m 257 ls [.int s257_0, .int v14]) := by
                intro s257_0 H locs ls h hI hS hl
                rw [ek257_] at h
                refine lv_ior hx hb dL_rules_257 ?_
                obtain ⟨y258, ey258, h⟩ := swlt_s h
                refine sw_top ey258 ?_
                refine lv_istore (lv' := [(14, .int y258), (0, .ref (ad 0)), (1, .int x1), (2, .int x2), (3, .ref (al 0)), (4, .ref (al 1)), (5, .ref (al 5)), (6, .ref (al 6)), (7, .ref (al 7)), (8, .ref (al 8)), (9, .int r138), (10, .int y155), (11, .int y166), (12, .int y192), (13, .int y213), (15, .int v15)]) hx hb dL_rules_258 hl (by decide) rfl (fun ls hl => ?_)
                refine lv_iinc (v := (v15 + 1)) (lv' := [(15, .int (v15 + 1)), (14, .int y258), (0, .ref (ad 0)), (1, .int x1), (2, .int x2), (3, .ref (al 0)), (4, .ref (al 1)), (5, .ref (al 5)), (6, .ref (al 6)), (7, .ref (al 7)), (8, .ref (al 8)), (9, .int r138), (10, .int y155), (11, .int y166), (12, .int y192), (13, .int y213)]) hx hb dL_rules_260 hl (k := 15) rfl rfl (by decide) rfl (fun ls hl => ?_)
                refine lv_goto (tgt := 221) hx hb dL_rules_263 (by decide) ?_
                exact ih221 _ _ _ _ _ h hI hS (lv_sub hl [2, 3, 4, 5, 6, 7, 8, 9, 10, 11, 12, 13, 14, 15, 1, 0] rfl)
              clear ek257_
              refine lv_if_eq (tgt := 256) hx hb dL_rules_246 (by decide) (fun cc => ?_) (fun cc => ?_)
              · replace h := sw_t h cc
                refine lv_iconst (v := 0) hx hb dL_rules_256 (by decide) ?_
                exact J257 _ _ _ _ h hI hS (lv_sub hl [0, 1, 2, 3, 4, 5, 6, 7, 8, 9, 10, 11, 12, 13, 14, 15] rfl)
              · replace h := sw_f h cc
                refine lv_iconst (v := 1) hx hb dL_rules_249 (by decide) ?_
                refine lv_iload hx hb dL_rules_250 (lv_at hl 15 rfl) ?_
                refine lv_ishl hx hb dL_rules_252 ?_
                refine sw_top (x := swshl 1 v15) rfl ?_
                refine lv_goto (tgt := 257) hx hb dL_rules_253 (by decide) ?_
                exact J257 _ _ _ _ h hI hS (lv_sub hl [0, 1, 2, 3, 4, 5, 6, 7, 8, 9, 10, 11, 12, 13, 14, 15] rfl)
        refine L221 _ (fun v14 v15 H locs ls h hI hS hl => ?_) 64 _ _ _ _ _ h hI hS (lv_sub hl [7, 8, 9, 10, 11, 12, 13, 14, 15, 6, 5, 4, 3, 2, 1, 0] rfl)
        refine lv_aload hx hb dL_rules_266 (lv_at hl 6 rfl) ?_
        refine lv_iload hx hb dL_rules_268 (lv_at hl 9 rfl) ?_
        refine lv_aload hx hb dL_rules_270 (lv_at hl 6 rfl) ?_
        refine lv_iload hx hb dL_rules_272 (lv_at hl 9 rfl) ?_
        obtain ⟨a274, ea274, ia274, h⟩ := swrd_s h
        refine ly_ald hx hb hK hI.2 (cd := 6) (by decide) rfl ia274 dL_rules_274 ea274 ?_
        refine lv_bipush (v := 16) hx hb dL_rules_275 (by decide) ?_
        refine lv_irem hx hb dL_rules_277 (by decide) ?_
        refine sw_top (x := swrem a274 16) rfl ?_
        refine lv_bipush (v := 16) hx hb dL_rules_278 (by decide) ?_
        refine lv_iload hx hb dL_rules_280 (lv_at hl 12 rfl) ?_
        refine lv_imul hx hb dL_rules_282 ?_
        refine lv_iadd hx hb dL_rules_283 ?_
        refine lv_sipush (v := 16384) hx hb dL_rules_284 (by decide) ?_
        refine lv_iload hx hb dL_rules_287 (lv_at hl 13 rfl) ?_
        refine lv_imul hx hb dL_rules_289 ?_
        refine lv_iadd hx hb dL_rules_290 ?_
        obtain ⟨iu291, h⟩ := swgd_s h
        obtain ⟨u291, eu291, h⟩ := swlt_s h
        refine lb_ast hx hb hK hJ hF hI hS (cd := 6) (by decide) (by decide) rfl rfl (swix_s iu291) eu291 dL_rules_291 (fun H locs hI hS => ?_)
        refine lv_iconst (v := 0) hx hb dL_rules_292 (by decide) ?_
        refine lv_istore (lv' := [(15, .int 0), (0, .ref (ad 0)), (1, .int x1), (2, .int x2), (3, .ref (al 0)), (4, .ref (al 1)), (5, .ref (al 5)), (6, .ref (al 6)), (7, .ref (al 7)), (8, .ref (al 8)), (9, .int r138), (10, .int y155), (11, .int y166), (12, .int y192), (13, .int y213), (14, .int v14)]) hx hb dL_rules_293 hl (by decide) rfl (fun ls hl => ?_)
        refine lv_iconst (v := 0) hx hb dL_rules_295 (by decide) ?_
        refine lv_istore (lv' := [(16, .int 0), (15, .int 0), (0, .ref (ad 0)), (1, .int x1), (2, .int x2), (3, .ref (al 0)), (4, .ref (al 1)), (5, .ref (al 5)), (6, .ref (al 6)), (7, .ref (al 7)), (8, .ref (al 8)), (9, .int r138), (10, .int y155), (11, .int y166), (12, .int y192), (13, .int y213), (14, .int v14)]) hx hb dL_rules_296 hl (by decide) rfl (fun ls hl => ?_)
        have L298 : ∀ (kk : Int32 → Int32 → Option (Int32 × swU × lyU)), (∀ (v15 : Int32) (v16 : Int32) (H : Heap) (locs : List Loc) (ls : Array Slot), kk v15 v16 = some (r0, u0, y0) → lbI D cy ad al u u291 H → va_S (lbA ad al sz) s.heap H locs → lv_has ls 17 [(0, .ref (ad 0)), (1, .int x1), (2, .int x2), (3, .ref (al 0)), (4, .ref (al 1)), (5, .ref (al 5)), (6, .ref (al 6)), (7, .ref (al 7)), (8, .ref (al 8)), (9, .int r138), (10, .int y155), (11, .int y166), (12, .int y192), (13, .int y213), (14, .int v14), (15, .int v15), (16, .int v16)] → W p l e (headSpec wsL_rules rmL_rules).room s m args below meth c H locs 0 0 (MQ below (lbQ D cy ad al sz r0 u0 y0) args s 5 27 (lbA ad al sz)) (F0 m 350 ls [])) → ∀ (n : Nat) (v15 : Int32) (v16 : Int32) (H : Heap) (locs : List Loc) (ls : Array Slot), lx_rules_L298 u u291 v14 kk n v15 v16 = some (r0, u0, y0) → lbI D cy ad al u u291 H → va_S (lbA ad al sz) s.heap H locs → lv_has ls 17 [(0, .ref (ad 0)), (1, .int x1), (2, .int x2), (3, .ref (al 0)), (4, .ref (al 1)), (5, .ref (al 5)), (6, .ref (al 6)), (7, .ref (al 7)), (8, .ref (al 8)), (9, .int r138), (10, .int y155), (11, .int y166), (12, .int y192), (13, .int y213), (14, .int v14), (15, .int v15), (16, .int v16)] → W p l e (headSpec wsL_rules rmL_rules).room s m args below meth c H locs 0 0 (MQ below (lbQ D cy ad al sz r0 u0 y0) args s 5 27 (lbA ad al sz)) (F0 m 298 ls []) := by
          intro kk hk298 n
          induction n with
          | zero => intro v15 v16 H locs ls h hI hS hl; rw [lx_rules_L298] at h; cases h
          | succ n ih298 =>
            intro v15 v16 H locs ls h hI hS hl
            rw [lx_rules_L298] at h
            refine lv_iload hx hb dL_rules_298 (lv_at hl 16 rfl) ?_
            refine lv_aload hx hb dL_rules_300 (lv_at hl 8 rfl) ?_
            refine lv_iconst (v := 0) hx hb dL_rules_302 (by decide) ?_
            obtain ⟨a303, ea303, ia303, h⟩ := swrd_s h
            refine ly_ald hx hb hK hI.2 (cd := 8) (by decide) rfl ia303 dL_rules_303 ea303 ?_
            refine lv_icmp_ge (tgt := 350) hx hb dL_rules_304 (by decide) (fun cc => ?_) (fun cc => ?_)
            · replace h := sw_t h cc
              exact hk298 _ _ _ _ _ h hI hS (lv_sub hl [0, 1, 2, 3, 4, 5, 6, 7, 8, 9, 10, 11, 12, 13, 14, 15, 16] rfl)
            · replace h := sw_f h cc
              refine lv_iload hx hb dL_rules_307 (lv_at hl 15 rfl) ?_
              refine lv_iload hx hb dL_rules_309 (lv_at hl 16 rfl) ?_
              refine lv_aload_n hx hb dL_rules_311 rfl (lv_at hl 3 rfl) ?_
              refine lv_aload hx hb dL_rules_312 (lv_at hl 4 rfl) ?_
              refine lv_aload hx hb dL_rules_314 (lv_at hl 6 rfl) ?_
              refine lv_aload hx hb dL_rules_316 (lv_at hl 7 rfl) ?_
              refine lv_aload hx hb dL_rules_318 (lv_at hl 8 rfl) ?_
              obtain ⟨r320, er320, h⟩ := swbd_s h
              refine ly_roS (As := [.int v16, .ref (al 0), .ref (al 1), .ref (al 6), .ref (al 7), .ref (al 8)]) (rest := [.int v15]) E (lm_blocked l D cy al u291 v16 _ er320) (va_cwS 6 hts gL_rules_L_blocked rfl rfl rfl (by decide +kernel) ⟨Nat.le_of_ble_eq_true rfl, Nat.le_of_ble_eq_true rfl⟩) hK hI.2 ⟨by show _ ≤ 5; omega, by show _ ≤ 27; omega⟩ rfl hl.1 rfl (Nat.le_of_ble_eq_true rfl) dL_rules_320 ?_
              obtain ⟨k341_, ek341_, h⟩ := swjn_s h
              have J341 : ∀ (s341_0 : Int32) (H : Heap) (locs : List Loc) (ls : Array Slot), k341_ s341_0 = some (r0, u0, y0) → lbI D cy ad al u u291 H → va_S (lbA ad al sz) s.heap H locs → lv_has ls 17 [(0, .ref (ad 0)), (1, .int x1), (2, .int x2), (3, .ref (al 0)), (4, .ref (al 1)), (5, .ref (al 5)), (6, .ref (al 6)), (7, .ref (al 7)), (8, .ref (al 8)), (9, .int r138), (10, .int y155), (11, .int y166), (12, .int y192), (13, .int y213), (14, .int v14), (15, .int v15), (16, .int v16)] → W p l e (headSpec wsL_rules rmL_rules).room s m args below meth c H locs 0 0 (MQ below (lbQ D cy ad al sz r0 u0 y0) args s 5 27 (lbA ad al sz)) (F0 m 341 ls [.int s341_0, .int v15]) := by
                intro s341_0 H locs ls h hI hS hl
                rw [ek341_] at h
                refine lv_iadd hx hb dL_rules_341 ?_
                obtain ⟨y342, ey342, h⟩ := swlt_s h
                refine sw_top ey342 ?_
                refine lv_istore (lv' := [(15, .int y342), (0, .ref (ad 0)), (1, .int x1), (2, .int x2), (3, .ref (al 0)), (4, .ref (al 1)), (5, .ref (al 5)), (6, .ref (al 6)), (7, .ref (al 7)), (8, .ref (al 8)), (9, .int r138), (10, .int y155), (11, .int y166), (12, .int y192), (13, .int y213), (14, .int v14), (16, .int v16)]) hx hb dL_rules_342 hl (by decide) rfl (fun ls hl => ?_)
                refine lv_iinc (v := (v16 + 1)) (lv' := [(16, .int (v16 + 1)), (15, .int y342), (0, .ref (ad 0)), (1, .int x1), (2, .int x2), (3, .ref (al 0)), (4, .ref (al 1)), (5, .ref (al 5)), (6, .ref (al 6)), (7, .ref (al 7)), (8, .ref (al 8)), (9, .int r138), (10, .int y155), (11, .int y166), (12, .int y192), (13, .int y213), (14, .int v14)]) hx hb dL_rules_344 hl (k := 16) rfl rfl (by decide) rfl (fun ls hl => ?_)
                refine lv_goto (tgt := 298) hx hb dL_rules_347 (by decide) ?_
                exact ih298 _ _ _ _ _ h hI hS (lv_sub hl [2, 3, 4, 5, 6, 7, 8, 9, 10, 11, 12, 13, 14, 15, 16, 1, 0] rfl)
              clear ek341_
              refine lv_if_eq (tgt := 340) hx hb dL_rules_323 (by decide) (fun cc => ?_) (fun cc => ?_)
              · replace h := sw_t h cc
                refine lv_iconst (v := 0) hx hb dL_rules_340 (by decide) ?_
                exact J341 _ _ _ _ h hI hS (lv_sub hl [0, 1, 2, 3, 4, 5, 6, 7, 8, 9, 10, 11, 12, 13, 14, 15, 16] rfl)
              · replace h := sw_f h cc
                refine lv_iload hx hb dL_rules_326 (lv_at hl 14 rfl) ?_
                refine lv_iload hx hb dL_rules_328 (lv_at hl 16 rfl) ?_
                refine lv_ishr hx hb dL_rules_330 ?_
                refine sw_top (x := swshr v14 v16) rfl ?_
                refine lv_iconst (v := 1) hx hb dL_rules_331 (by decide) ?_
                refine lv_iand hx hb dL_rules_332 ?_
                refine lv_if_ne (tgt := 340) hx hb dL_rules_333 (by decide) (fun cc => ?_) (fun cc => ?_)
                · replace h := sw_f h cc
                  refine lv_iconst (v := 0) hx hb dL_rules_340 (by decide) ?_
                  exact J341 _ _ _ _ h hI hS (lv_sub hl [0, 1, 2, 3, 4, 5, 6, 7, 8, 9, 10, 11, 12, 13, 14, 15, 16] rfl)
                · replace h := sw_t h cc
                  refine lv_iconst (v := 1) hx hb dL_rules_336 (by decide) ?_
                  refine lv_goto (tgt := 341) hx hb dL_rules_337 (by decide) ?_
                  exact J341 _ _ _ _ h hI hS (lv_sub hl [0, 1, 2, 3, 4, 5, 6, 7, 8, 9, 10, 11, 12, 13, 14, 15, 16] rfl)
        refine L298 _ (fun v15 v16 H locs ls h hI hS hl => ?_) 64 _ _ _ _ _ h hI hS (lv_sub hl [2, 3, 4, 5, 6, 7, 8, 9, 10, 11, 12, 13, 14, 15, 16, 1, 0] rfl)
        refine lv_aload_n hx hb dL_rules_350 rfl (lv_at hl 0 rfl) ?_
        refine lv_iload hx hb dL_rules_351 (lv_at hl 9 rfl) ?_
        refine lv_iload hx hb dL_rules_353 (lv_at hl 12 rfl) ?_
        refine lv_iload hx hb dL_rules_355 (lv_at hl 13 rfl) ?_
        obtain ⟨r357, w357, er357, h⟩ := swnx_s h
        refine lb_x0 (As := [.int r138, .int y192, .int y213]) (rest := []) E (xm5_tighten l hst D cy ad hJ.1 u r138 y192 y213 _ _ _ _ er357) (cwV 3 hts gL_rules_X5_tighten rfl rfl rfl (by decide +kernel) ⟨Nat.le_of_ble_eq_true rfl, Nat.le_of_ble_eq_true rfl⟩) hK hJ hF hI hS ⟨by show _ ≤ 5; omega, by show _ ≤ 27; omega⟩ rfl hl.1 rfl (Nat.le_of_ble_eq_true rfl) dL_rules_357 (fun H locs hI hS => ?_)
        refine lv_iload hx hb dL_rules_360 (lv_at hl 15 rfl) ?_
        refine lv_icmp_ne (tgt := 369) hx hb dL_rules_362 (by decide) (fun cc => ?_) (fun cc => ?_)
        · replace h := sw_f h cc
          refine lv_iconst (v := 0) hx hb dL_rules_369 (by decide) ?_
          refine W.widen (k := 5) (n := 27) (by omega) (by omega) ?_
          exact W.zret (ty := .boolean) hx hb hr rfl (fun t ht hW => ⟨⟨_, (), rfl, (sw_inj3 h).1, lb_end hI ht (sw_inj3 h).2.1 (sw_inj3 h).2.2⟩, hS.F ht⟩) hS.2.2 dL_rules_370 hlocks
        · replace h := sw_t h cc
          refine lv_iconst (v := 1) hx hb dL_rules_365 (by decide) ?_
          refine lv_goto (tgt := 370) hx hb dL_rules_366 (by decide) ?_
          refine W.widen (k := 5) (n := 27) (by omega) (by omega) ?_
          exact W.zret (ty := .boolean) hx hb hr rfl (fun t ht hW => ⟨⟨_, (), rfl, (sw_inj3 h).1, lb_end hI ht (sw_inj3 h).2.1 (sw_inj3 h).2.2⟩, hS.F ht⟩) hS.2.2 dL_rules_370 hlocks
    · replace h := sw_t h cc
      refine lv_iconst (v := 1) hx hb dL_rules_131 (by decide) ?_
      refine W.widen (k := 5) (n := 27) (by omega) (by omega) ?_
      exact W.zret (ty := .boolean) hx hb hr rfl (fun t ht hW => ⟨⟨_, (), rfl, (sw_inj3 h).1, lb_end hI ht (sw_inj3 h).2.1 (sw_inj3 h).2.2⟩, hS.F ht⟩) hS.2.2 dL_rules_132 hlocks
  · replace h := sw_t h cc
    refine lv_aload hx hb dL_rules_4 (lv_at hl 8 rfl) ?_
    refine lv_iconst (v := 3) hx hb dL_rules_6 (by decide) ?_
    obtain ⟨a7, ea7, ia7, h⟩ := swrd_s h
    refine ly_ald hx hb hK hI.2 (cd := 8) (by decide) rfl ia7 dL_rules_7 ea7 ?_
    refine lv_bipush (v := 8) hx hb dL_rules_8 (by decide) ?_
    refine lv_icmp_ne (tgt := 15) hx hb dL_rules_10 (by decide) (fun cc => ?_) (fun cc => ?_)
    · replace h := sw_f h cc
      refine lv_iload_n hx hb dL_rules_15 rfl (lv_at hl 2 rfl) ?_
      refine lv_iconst (v := 3) hx hb dL_rules_16 (by decide) ?_
      obtain ⟨r17, er17, h⟩ := swbd_s h
      refine ly_stS (As := [.int x2, .int 3]) (rest := []) E (lm_low l x2 3 _ er17) (va_cwS 2 hts gL_rules_L_low rfl rfl rfl (by decide +kernel) ⟨Nat.le_of_ble_eq_true rfl, Nat.le_of_ble_eq_true rfl⟩) ⟨by show _ ≤ 5; omega, by show _ ≤ 27; omega⟩ rfl hl.1 rfl (Nat.le_of_ble_eq_true rfl) dL_rules_17 ?_
      refine lv_istore (lv' := [(9, .int r17), (0, .ref (ad 0)), (1, .int x1), (2, .int x2), (3, .ref (al 0)), (4, .ref (al 1)), (5, .ref (al 5)), (6, .ref (al 6)), (7, .ref (al 7)), (8, .ref (al 8))]) hx hb dL_rules_20 hl (by decide) rfl (fun ls hl => ?_)
      refine lv_iload_n hx hb dL_rules_22 rfl (lv_at hl 3 rfl) ?_
      refine lv_iconst (v := 2) hx hb dL_rules_23 (by decide) ?_
      refine lv_ishr hx hb dL_rules_24 ?_
      refine sw_top (x := swshr x2 2) rfl ?_
      refine lv_iconst (v := 4) hx hb dL_rules_25 (by decide) ?_
      obtain ⟨r26, er26, h⟩ := swbd_s h
      refine ly_stS (As := [.int (swshr x2 2), .int 4]) (rest := []) E (lm_low l (swshr x2 2) 4 _ er26) (va_cwS 2 hts gL_rules_L_low rfl rfl rfl (by decide +kernel) ⟨Nat.le_of_ble_eq_true rfl, Nat.le_of_ble_eq_true rfl⟩) ⟨by show _ ≤ 5; omega, by show _ ≤ 27; omega⟩ rfl hl.1 rfl (Nat.le_of_ble_eq_true rfl) dL_rules_26 ?_
      refine lv_istore (lv' := [(10, .int r26), (9, .int r17), (0, .ref (ad 0)), (1, .int x1), (2, .int x2), (3, .ref (al 0)), (4, .ref (al 1)), (5, .ref (al 5)), (6, .ref (al 6)), (7, .ref (al 7)), (8, .ref (al 8))]) hx hb dL_rules_29 hl (by decide) rfl (fun ls hl => ?_)
      refine lv_iconst (v := 1) hx hb dL_rules_31 (by decide) ?_
      refine lv_iload_n hx hb dL_rules_32 rfl (lv_at hl 4 rfl) ?_
      refine lv_iconst (v := 4) hx hb dL_rules_33 (by decide) ?_
      refine lv_ishr hx hb dL_rules_34 ?_
      refine sw_top (x := swshr x2 4) rfl ?_
      refine lv_iconst (v := 4) hx hb dL_rules_35 (by decide) ?_
      obtain ⟨r36, er36, h⟩ := swbd_s h
      refine ly_stS (As := [.int (swshr x2 4), .int 4]) (rest := [.int 1]) E (lm_low l (swshr x2 4) 4 _ er36) (va_cwS 2 hts gL_rules_L_low rfl rfl rfl (by decide +kernel) ⟨Nat.le_of_ble_eq_true rfl, Nat.le_of_ble_eq_true rfl⟩) ⟨by show _ ≤ 5; omega, by show _ ≤ 27; omega⟩ rfl hl.1 rfl (Nat.le_of_ble_eq_true rfl) dL_rules_36 ?_
      refine lv_bipush (v := 100) hx hb dL_rules_39 (by decide) ?_
      refine lv_imul hx hb dL_rules_41 ?_
      refine lv_iadd hx hb dL_rules_42 ?_
      obtain ⟨y43, ey43, h⟩ := swlt_s h
      refine sw_top ey43 ?_
      refine lv_istore (lv' := [(11, .int y43), (10, .int r26), (9, .int r17), (0, .ref (ad 0)), (1, .int x1), (2, .int x2), (3, .ref (al 0)), (4, .ref (al 1)), (5, .ref (al 5)), (6, .ref (al 6)), (7, .ref (al 7)), (8, .ref (al 8))]) hx hb dL_rules_43 hl (by decide) rfl (fun ls hl => ?_)
      refine lv_iload hx hb dL_rules_45 (lv_at hl 0 rfl) ?_
      refine lv_iload_n hx hb dL_rules_47 rfl (lv_at hl 5 rfl) ?_
      refine lv_bipush (v := 6) hx hb dL_rules_48 (by decide) ?_
      refine lv_ishr hx hb dL_rules_50 ?_
      refine sw_top (x := swshr x2 6) rfl ?_
      refine lv_bipush (v := 7) hx hb dL_rules_51 (by decide) ?_
      obtain ⟨r53, er53, h⟩ := swbd_s h
      refine ly_stS (As := [.int (swshr x2 6), .int 7]) (rest := [.int y43]) E (lm_low l (swshr x2 6) 7 _ er53) (va_cwS 2 hts gL_rules_L_low rfl rfl rfl (by decide +kernel) ⟨Nat.le_of_ble_eq_true rfl, Nat.le_of_ble_eq_true rfl⟩) ⟨by show _ ≤ 5; omega, by show _ ≤ 27; omega⟩ rfl hl.1 rfl (Nat.le_of_ble_eq_true rfl) dL_rules_53 ?_
      refine lv_bipush (v := 100) hx hb dL_rules_56 (by decide) ?_
      refine lv_imul hx hb dL_rules_58 ?_
      refine lv_iadd hx hb dL_rules_59 ?_
      obtain ⟨y60, ey60, h⟩ := swlt_s h
      refine sw_top ey60 ?_
      refine lv_istore (lv' := [(12, .int y60), (11, .int y43), (10, .int r26), (9, .int r17), (0, .ref (ad 0)), (1, .int x1), (2, .int x2), (3, .ref (al 0)), (4, .ref (al 1)), (5, .ref (al 5)), (6, .ref (al 6)), (7, .ref (al 7)), (8, .ref (al 8))]) hx hb dL_rules_60 hl (by decide) rfl (fun ls hl => ?_)
      refine lv_aload hx hb dL_rules_62 (lv_at hl 10 rfl) ?_
      refine lv_aload hx hb dL_rules_64 (lv_at hl 12 rfl) ?_
      refine lv_iconst (v := 3) hx hb dL_rules_66 (by decide) ?_
      obtain ⟨a67, ea67, ia67, h⟩ := swrd_s h
      refine ly_ald hx hb hK hI.2 (cd := 8) (by decide) rfl ia67 dL_rules_67 ea67 ?_
      refine lv_iload hx hb dL_rules_68 (lv_at hl 3 rfl) ?_
      refine lv_iconst (v := 4) hx hb dL_rules_70 (by decide) ?_
      refine lv_iload hx hb dL_rules_71 (lv_at hl 2 rfl) ?_
      refine lv_imul hx hb dL_rules_73 ?_
      refine lv_iadd hx hb dL_rules_74 ?_
      refine lv_bipush (v := 16) hx hb dL_rules_75 (by decide) ?_
      refine lv_iload hx hb dL_rules_77 (lv_at hl 1 rfl) ?_
      refine lv_imul hx hb dL_rules_79 ?_
      refine lv_iadd hx hb dL_rules_80 ?_
      refine lv_sipush (v := 16384) hx hb dL_rules_81 (by decide) ?_
      refine lv_iload hx hb dL_rules_84 (lv_at hl 0 rfl) ?_
      refine lv_imul hx hb dL_rules_86 ?_
      refine lv_iadd hx hb dL_rules_87 ?_
      obtain ⟨iu88, h⟩ := swgd_s h
      obtain ⟨u88, eu88, h⟩ := swlt_s h
      refine lb_ast hx hb hK hJ hF hI hS (cd := 6) (by decide) (by decide) rfl rfl (swix_s iu88) eu88 dL_rules_88 (fun H locs hI hS => ?_)
      refine lv_aload hx hb dL_rules_89 (lv_at hl 12 rfl) ?_
      refine lv_iconst (v := 3) hx hb dL_rules_91 (by decide) ?_
      refine lv_dup2_11 hx hb dL_rules_92 rfl rfl ?_
      obtain ⟨a93, ea93, ia93, h⟩ := swrd_s h
      refine ly_ald hx hb hK hI.2 (cd := 8) (by decide) rfl ia93 dL_rules_93 ea93 ?_
      refine lv_iconst (v := 1) hx hb dL_rules_94 (by decide) ?_
      refine lv_iadd hx hb dL_rules_95 ?_
      obtain ⟨iu96, h⟩ := swgd_s h
      obtain ⟨u96, eu96, h⟩ := swlt_s h
      refine lb_ast hx hb hK hJ hF hI hS (cd := 8) (by decide) (by decide) rfl rfl (swix_s iu96) eu96 dL_rules_96 (fun H locs hI hS => ?_)
      refine lv_aload_n hx hb dL_rules_97 rfl (lv_at hl 4 rfl) ?_
      refine lv_iload hx hb dL_rules_98 (lv_at hl 3 rfl) ?_
      refine lv_iload hx hb dL_rules_100 (lv_at hl 2 rfl) ?_
      refine lv_iload hx hb dL_rules_102 (lv_at hl 1 rfl) ?_
      refine lv_iload hx hb dL_rules_104 (lv_at hl 0 rfl) ?_
      obtain ⟨r106, w106, er106, h⟩ := swnx_s h
      refine lb_x0 (As := [.int r17, .int r26, .int y43, .int y60]) (rest := []) E (xm5_rule l hst D cy ad hJ.1 u r17 r26 y43 y60 _ _ _ _ er106) (cwV 4 hts gL_rules_X5_rule rfl rfl rfl (by decide +kernel) ⟨Nat.le_of_ble_eq_true rfl, Nat.le_of_ble_eq_true rfl⟩) hK hJ hF hI hS ⟨by show _ ≤ 5; omega, by show _ ≤ 27; omega⟩ rfl hl.1 rfl (Nat.le_of_ble_eq_true rfl) dL_rules_106 (fun H locs hI hS => ?_)
      refine lv_aload hx hb dL_rules_109 (lv_at hl 12 rfl) ?_
      refine lv_iconst (v := 3) hx hb dL_rules_111 (by decide) ?_
      obtain ⟨a112, ea112, ia112, h⟩ := swrd_s h
      refine ly_ald hx hb hK hI.2 (cd := 8) (by decide) rfl ia112 dL_rules_112 ea112 ?_
      refine lv_iconst (v := 1) hx hb dL_rules_113 (by decide) ?_
      refine lv_isub hx hb dL_rules_114 ?_
      refine lv_icmp_ne (tgt := 122) hx hb dL_rules_115 (by decide) (fun cc => ?_) (fun cc => ?_)
      · replace h := sw_f h cc
        refine lv_iconst (v := 0) hx hb dL_rules_122 (by decide) ?_
        refine W.widen (k := 5) (n := 27) (by omega) (by omega) ?_
        exact W.zret (ty := .boolean) hx hb hr rfl (fun t ht hW => ⟨⟨_, (), rfl, (sw_inj3 h).1, lb_end hI ht (sw_inj3 h).2.1 (sw_inj3 h).2.2⟩, hS.F ht⟩) hS.2.2 dL_rules_123 hlocks
      · replace h := sw_t h cc
        refine lv_iconst (v := 1) hx hb dL_rules_118 (by decide) ?_
        refine lv_goto (tgt := 123) hx hb dL_rules_119 (by decide) ?_
        refine W.widen (k := 5) (n := 27) (by omega) (by omega) ?_
        exact W.zret (ty := .boolean) hx hb hr rfl (fun t ht hW => ⟨⟨_, (), rfl, (sw_inj3 h).1, lb_end hI ht (sw_inj3 h).2.1 (sw_inj3 h).2.2⟩, hS.F ht⟩) hS.2.2 dL_rules_123 hlocks
    · replace h := sw_t h cc
      refine lv_iconst (v := 1) hx hb dL_rules_13 (by decide) ?_
      refine W.widen (k := 5) (n := 27) (by omega) (by omega) ?_
      exact W.zret (ty := .boolean) hx hb hr rfl (fun t ht hW => ⟨⟨_, (), rfl, (sw_inj3 h).1, lb_end hI ht (sw_inj3 h).2.1 (sw_inj3 h).2.2⟩, hS.F ht⟩) hS.2.2 dL_rules_14 hlocks
