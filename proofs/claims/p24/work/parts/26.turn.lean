def lx_turn (u : swU) (y : lyU) (x12 : Int32) (x13 : Int32) : Option (Int32 × swU × lyU) :=
  swbd (lx_low x13 30) fun r105 => swlt (swshr x13 5) fun y114 => swjn (fun (m518_11 : Int32) (uj518 : swU) (yj518 : lyU) => swjn (fun (s555_0 : Int32) (uj555 : swU) (yj555 : lyU) => some (s555_0, uj555, yj555)) fun k555_ => if m518_11 = 0 then (k555_ 0 uj518 yj518) else (swbd (lx_same uj518 yj518 (swshr y114 1)) fun z544 => match z544 with | (r544, w544, u544) => if r544 = 0 then (k555_ 0 w544 u544) else (k555_ 1 w544 u544))) fun k518_ => if 12 ≤ r105 then (if 16 ≤ r105 then (if 18 ≤ r105 then (if 24 ≤ r105 then (if 28 ≤ r105 then (swbd (lx_low y114 4) fun r483 => swlt (((1 : Int32) + r483)) fun y487 => swrd 6 (y.1 8) 5 fun a493 => swgd (swix (5 : Int32) 6) <| swlt (lyI y 8 (Int32.toNatClampNeg (5 : Int32)) (a493 + y487)) fun u497 => swnx (xx5_pass u y487) fun r501 w501 => swrd 6 (u497.1 8) 5 fun a507 => swjn (fun (s516_0 : Int32) => k518_ s516_0 w501 u497) fun k516_ => if r501 = a507 then (k516_ 1) else (k516_ 0)) else (swrd 6 (y.1 8) 2 fun a379 => swbd (lx_low y114 a379) fun r380 => swrd 12 (y.1 5) r380 fun a389 => swbd (lx_blocked y a389) fun r398 => swjn (fun (s409_0 : Int32) => swjn (fun (s441_0 : Int32) => swgd (swix (((6 : Int32) + r380)) 12) <| swlt (lyI y 5 (Int32.toNatClampNeg (((6 : Int32) + r380))) s441_0) fun u441 => swbd (lx_calls u u441 3 r380 0 0) fun z448 => match z448 with | (r448, w448, u448) => swjn (fun (s466_0 : Int32) => swjn (fun (s474_0 : Int32) => k518_ s474_0 w448 u448) fun k474_ => if r448 = s466_0 then (k474_ 1) else (k474_ 0)) fun k466_ => if s409_0 = 0 then (k466_ (-100003)) else (swrd 12 (u448.1 5) r380 fun a460 => k466_ a460)) fun k441_ => if s409_0 = 0 then (swrd 12 (y.1 5) (((6 : Int32) + r380)) fun a440 => k441_ a440) else (swrd 12 (y.1 5) r380 fun a427 => k441_ (a427 + 1))) fun k409_ => if r398 = 0 then (k409_ 1) else (k409_ 0))) else (swjn (fun (s347_0 : Int32) => swbd (lx_rules u y s347_0 y114) fun z359 => match z359 with | (r359, w359, u359) => k518_ r359 w359 u359) fun k347_ => if 20 ≤ r105 then (if 22 ≤ r105 then (k347_ 2) else (k347_ 1)) else (k347_ 0))) else (swbd (lx_low y114 3) fun r212 => swjn (fun (s238_0 : Int32) => swrd 6 (y.1 8) 2 fun a243 => swjn (fun (s254_0 : Int32) => swjn (fun (yj278 : lyU) => swbd (lx_calls u yj278 0 s238_0 0 0) fun z284 => match z284 with | (r284, w284, u284) => swjn (fun (s303_0 : Int32) => swjn (fun (s311_0 : Int32) => k518_ s311_0 w284 u284) fun k311_ => if r284 = s303_0 then (k311_ 1) else (k311_ 0)) fun k303_ => if s254_0 = 0 then (k303_ (-100003)) else (swrd 6 (u284.1 8) 2 fun a295 => k303_ (a295 - 1))) fun k278_ => if s254_0 = 0 then (k278_ y) else (swrd 6 (y.1 8) 2 fun a266 => swgd (swix a266 12) <| swlt (lyI y 5 (Int32.toNatClampNeg a266) s238_0) fun u269 => swrd 6 (u269.1 8) 2 fun a274 => swgd (swix (2 : Int32) 6) <| swlt (lyI u269 8 (Int32.toNatClampNeg (2 : Int32)) (a274 + 1)) fun u277 => k278_ u277)) fun k254_ => if 6 ≤ a243 then (k254_ 0) else (k254_ 1)) fun k238_ => if r212 ≤ 0 then (swrd 6 (y.1 8) 0 fun a234 => swbd (lx_low (swshr y114 2) a234) fun r235 => k238_ r235) else (swrd 6 (y.1 8) 0 fun a221 => k238_ (a221 - 1)))) else (swbd (lx_merges u y y114) fun z194 => match z194 with | (r194, w194, u194) => k518_ r194 w194 u194)) else (swjn (fun (s146_0 : Int32) => swbd (lx_edits u y s146_0 y114) fun z160 => match z160 with | (r160, w160, u160) => k518_ r160 w160 u160) fun k146_ => if 3 ≤ r105 then (if 11 ≤ r105 then (k146_ 2) else (k146_ 1)) else (k146_ 0))

section TURN
variable {p : Program} {l : Launch} {e : Env} {s : State} {m : MethodId} {args : Array Value} {below : List Frame} {meth : Method} {c : Code} {Q : State → Prop} {D : va_G} {cy : Nat → ClassId} {ad al : Nat → Nat} {A : Nat → Prop} {b cZ tZ : Nat}
set_option maxHeartbeats 4000000 in
set_option maxRecDepth 100000 in
theorem lm_turn (E : CallFix p m c cL_law 18 s args wsL_law RL) (hst : l.stackTraces = false) (hJ : lbJ ad al) (hF : lbF s A ad al) (hK : swK D cy s) (hNc : swNc s) (u : swU) (y : lyU) (x12 x13 : Int32) (r0 : Int32) (u0 : swU) (y0 : lyU) (h : lx_turn u y x12 x13 = some (r0, u0, y0)) (hcZ : cZ + 500 ≤ 703191 ∧ tZ + 2994 ≤ 6992126) {H : Heap} {locs : List Loc} {ls : Array Slot} (hI : lbI D cy ad al u y H) (hS : va_S A s.heap H locs) (hl : lv_has ls 18 [(0, .ref b), (1, .ref (ad 0)), (2, .ref (al 0)), (3, .ref (al 1)), (4, .ref (al 2)), (5, .ref (al 3)), (6, .ref (al 4)), (7, .ref (al 5)), (8, .ref (al 6)), (9, .ref (al 7)), (10, .ref (al 8)), (12, .int x12), (13, .int x13)])
    (kk : ∀ (H : Heap) (locs : List Loc) (ls : Array Slot), lbI D cy ad al u0 y0 H → va_S A s.heap H locs → lv_has ls 18 [(0, .ref b), (1, .ref (ad 0)), (2, .ref (al 0)), (3, .ref (al 1)), (4, .ref (al 2)), (5, .ref (al 3)), (6, .ref (al 4)), (7, .ref (al 5)), (8, .ref (al 6)), (9, .ref (al 7)), (10, .ref (al 8)), (11, .int r0), (12, .int x12)] → W p l e room_1 s m args below meth c H locs (cZ + 500) (tZ + 2994) Q (F0 m 557 ls [])) : W p l e room_1 s m args below meth c H locs cZ tZ Q (F0 m 101 ls []) := by
  have hx := E.1
  have hb := E.2.1
  have hts := E.2.2.2.2
  have hown := E.2.2.2.1
  have fc28 : (Cond.constant RL 28 (-100003)).before args s = true := hts _ (by decide +kernel)
  show W p l e room_1 s m args below meth c H locs (cZ + 0) (tZ + 0) Q (F0 m 101 ls [])
  unfold lx_turn at h
  refine lv_iload hx hb dL_law_101 (lv_at hl 12 rfl) ?_
  refine lv_bipush (v := 30) hx hb dL_law_103 (by decide) ?_
  obtain ⟨r105, er105, h⟩ := swbd_s h
  refine ly_stS (As := [.int x13, .int 30]) (rest := []) E (lm_low l x13 30 _ er105) (va_cwS 2 hts gL_law_L_low rfl rfl rfl (by decide +kernel) ⟨Nat.le_of_ble_eq_true rfl, Nat.le_of_ble_eq_true rfl⟩) ⟨by show _ ≤ 703191; omega, by show _ ≤ 6992126; omega⟩ rfl hl.1 rfl (Nat.le_of_ble_eq_true rfl) dL_law_105 ?_
  refine lv_istore (lv' := [(14, .int r105), (0, .ref b), (1, .ref (ad 0)), (2, .ref (al 0)), (3, .ref (al 1)), (4, .ref (al 2)), (5, .ref (al 3)), (6, .ref (al 4)), (7, .ref (al 5)), (8, .ref (al 6)), (9, .ref (al 7)), (10, .ref (al 8)), (12, .int x12), (13, .int x13)]) hx hb dL_law_108 hl (by decide) rfl (fun ls hl => ?_)
  refine lv_iload hx hb dL_law_110 (lv_at hl 13 rfl) ?_
  refine lv_iconst (v := 5) hx hb dL_law_112 (by decide) ?_
  refine lv_ishr hx hb dL_law_113 ?_
  refine sw_top (x := swshr x13 5) rfl ?_
  obtain ⟨y114, ey114, h⟩ := swlt_s h
  refine sw_top ey114 ?_
  refine lv_istore (lv' := [(15, .int y114), (14, .int r105), (0, .ref b), (1, .ref (ad 0)), (2, .ref (al 0)), (3, .ref (al 1)), (4, .ref (al 2)), (5, .ref (al 3)), (6, .ref (al 4)), (7, .ref (al 5)), (8, .ref (al 6)), (9, .ref (al 7)), (10, .ref (al 8)), (12, .int x12), (13, .int x13)]) hx hb dL_law_114 hl (by decide) rfl (fun ls hl => ?_)
  refine lv_iload hx hb dL_law_116 (lv_at hl 1 rfl) ?_
  refine lv_bipush (v := 12) hx hb dL_law_118 (by decide) ?_
  obtain ⟨k518_, ek518_, h⟩ := swjn_s h
  have J518 : ∀ (m518_11 : Int32) (uj518 : swU) (yj518 : lyU) (H : Heap) (locs : List Loc) (ls : Array Slot), k518_ m518_11 uj518 yj518 = some (r0, u0, y0) → lbI D cy ad al uj518 yj518 H → va_S A s.heap H locs → lv_has ls 18 [(0, .ref b), (1, .ref (ad 0)), (2, .ref (al 0)), (3, .ref (al 1)), (4, .ref (al 2)), (5, .ref (al 3)), (6, .ref (al 4)), (7, .ref (al 5)), (8, .ref (al 6)), (9, .ref (al 7)), (10, .ref (al 8)), (11, .int m518_11), (12, .int x12), (13, .int x13), (14, .int r105), (15, .int y114)] → W p l e room_1 s m args below meth c H locs (cZ + 60) (tZ + 354) Q (F0 m 518 ls []) := by
    intro m518_11 uj518 yj518 H locs ls h hI hS hl
    rw [ek518_] at h
    refine lv_iload hx hb dL_law_518 (lv_at hl 11 rfl) ?_
    obtain ⟨k555_, ek555_, h⟩ := swjn_s h
    have J555 : ∀ (s555_0 : Int32) (uj555 : swU) (yj555 : lyU) (H : Heap) (locs : List Loc) (ls : Array Slot), k555_ s555_0 uj555 yj555 = some (r0, u0, y0) → lbI D cy ad al uj555 yj555 H → va_S A s.heap H locs → lv_has ls 18 [(0, .ref b), (1, .ref (ad 0)), (2, .ref (al 0)), (3, .ref (al 1)), (4, .ref (al 2)), (5, .ref (al 3)), (6, .ref (al 4)), (7, .ref (al 5)), (8, .ref (al 6)), (9, .ref (al 7)), (10, .ref (al 8)), (11, .int m518_11), (12, .int x12), (13, .int x13), (14, .int r105), (15, .int y114)] → W p l e room_1 s m args below meth c H locs (cZ + 500) (tZ + 2994) Q (F0 m 555 ls [.int s555_0]) := by
      intro s555_0 uj555 yj555 H locs ls h hI hS hl
      rw [ek555_] at h
      refine lv_istore (lv' := [(11, .int s555_0), (0, .ref b), (1, .ref (ad 0)), (2, .ref (al 0)), (3, .ref (al 1)), (4, .ref (al 2)), (5, .ref (al 3)), (6, .ref (al 4)), (7, .ref (al 5)), (8, .ref (al 6)), (9, .ref (al 7)), (10, .ref (al 8)), (12, .int x12), (13, .int x13), (14, .int r105), (15, .int y114)]) hx hb dL_law_555 hl (by decide) rfl (fun ls hl => ?_)
      refine W.widen (k := (cZ + 500)) (n := (tZ + 2994)) (by omega) (by omega) ?_
      obtain ⟨e1, e2, e3⟩ := sw_inj3 h
      exact kk H locs ls (by rw [← e2, ← e3]; exact hI) hS (by rw [← e1]; exact lv_sub hl [1, 2, 3, 4, 5, 6, 7, 8, 9, 10, 11, 0, 12] rfl)
    clear ek555_
    refine lv_if_eq (tgt := 554) hx hb dL_law_520 (by decide) (fun cc => ?_) (fun cc => ?_)
    · replace h := sw_t h cc
      refine lv_iconst (v := 0) hx hb dL_law_554 (by decide) ?_
      refine W.widen (k := (cZ + 500)) (n := (tZ + 2994)) (by omega) (by omega) ?_
      exact J555 _ _ _ _ _ _ h hI hS (lv_sub hl [0, 1, 2, 3, 4, 5, 6, 7, 8, 9, 10, 11, 12, 13, 14, 15] rfl)
    · replace h := sw_f h cc
      refine lv_aload_n hx hb dL_law_523 rfl (lv_at hl 1 rfl) ?_
      refine lv_iload hx hb dL_law_524 (lv_at hl 15 rfl) ?_
      refine lv_iconst (v := 1) hx hb dL_law_526 (by decide) ?_
      refine lv_ishr hx hb dL_law_527 ?_
      refine sw_top (x := swshr y114 1) rfl ?_
      refine lv_aload_n hx hb dL_law_528 rfl (lv_at hl 2 rfl) ?_
      refine lv_aload_n hx hb dL_law_529 rfl (lv_at hl 3 rfl) ?_
      refine lv_aload hx hb dL_law_530 (lv_at hl 4 rfl) ?_
      refine lv_aload hx hb dL_law_532 (lv_at hl 5 rfl) ?_
      refine lv_aload hx hb dL_law_534 (lv_at hl 6 rfl) ?_
      refine lv_aload hx hb dL_law_536 (lv_at hl 7 rfl) ?_
      refine lv_aload hx hb dL_law_538 (lv_at hl 8 rfl) ?_
      refine lv_aload hx hb dL_law_540 (lv_at hl 9 rfl) ?_
      refine lv_aload hx hb dL_law_542 (lv_at hl 10 rfl) ?_
      obtain ⟨⟨r544, w544, u544⟩, er544, h⟩ := swbd_s h
      refine lb_b (As := [.ref (ad 0), .int (swshr y114 1), .ref (al 0), .ref (al 1), .ref (al 2), .ref (al 3), .ref (al 4), .ref (al 5), .ref (al 6), .ref (al 7), .ref (al 8)]) (rest := []) E (lm_same l hst D cy ad al hJ uj518 yj518 (swshr y114 1) _ _ _ _ er544) (va_cwS 11 hts gL_law_L_same rfl rfl rfl (by decide +kernel) ⟨Nat.le_of_ble_eq_true rfl, Nat.le_of_ble_eq_true rfl⟩) hK hNc hF hI hS ⟨by show _ ≤ 703191; omega, by show _ ≤ 6992126; omega⟩ rfl hl.1 rfl (Nat.le_of_ble_eq_true rfl) dL_law_544 (fun H locs hI hS => ?_)
      refine lv_if_eq (tgt := 554) hx hb dL_law_547 (by decide) (fun cc => ?_) (fun cc => ?_)
      · replace h := sw_t h cc
        refine lv_iconst (v := 0) hx hb dL_law_554 (by decide) ?_
        exact J555 _ _ _ _ _ _ h hI hS (lv_sub hl [0, 1, 2, 3, 4, 5, 6, 7, 8, 9, 10, 11, 12, 13, 14, 15] rfl)
      · replace h := sw_f h cc
        refine lv_iconst (v := 1) hx hb dL_law_550 (by decide) ?_
        refine lv_goto (tgt := 555) hx hb dL_law_551 (by decide) ?_
        exact J555 _ _ _ _ _ _ h hI hS (lv_sub hl [0, 1, 2, 3, 4, 5, 6, 7, 8, 9, 10, 11, 12, 13, 14, 15] rfl)
  clear ek518_
  refine lv_icmp_ge (tgt := 168) hx hb dL_law_120 (by decide) (fun cc => ?_) (fun cc => ?_)
  · replace h := sw_t h cc
    refine lv_iload hx hb dL_law_168 (lv_at hl 1 rfl) ?_
    refine lv_bipush (v := 16) hx hb dL_law_170 (by decide) ?_
    refine lv_icmp_ge (tgt := 202) hx hb dL_law_172 (by decide) (fun cc => ?_) (fun cc => ?_)
    · replace h := sw_t h cc
      refine lv_iload hx hb dL_law_202 (lv_at hl 1 rfl) ?_
      refine lv_bipush (v := 18) hx hb dL_law_204 (by decide) ?_
      refine lv_icmp_ge (tgt := 316) hx hb dL_law_206 (by decide) (fun cc => ?_) (fun cc => ?_)
      · replace h := sw_t h cc
        refine lv_iload hx hb dL_law_316 (lv_at hl 1 rfl) ?_
        refine lv_bipush (v := 24) hx hb dL_law_318 (by decide) ?_
        refine lv_icmp_ge (tgt := 367) hx hb dL_law_320 (by decide) (fun cc => ?_) (fun cc => ?_)
        · replace h := sw_t h cc
          refine lv_iload hx hb dL_law_367 (lv_at hl 1 rfl) ?_
          refine lv_bipush (v := 28) hx hb dL_law_369 (by decide) ?_
          refine lv_icmp_ge (tgt := 479) hx hb dL_law_371 (by decide) (fun cc => ?_) (fun cc => ?_)
          · replace h := sw_t h cc
            refine lv_iconst (v := 1) hx hb dL_law_479 (by decide) ?_
            refine lv_iload hx hb dL_law_480 (lv_at hl 0 rfl) ?_
            refine lv_iconst (v := 4) hx hb dL_law_482 (by decide) ?_
            obtain ⟨r483, er483, h⟩ := swbd_s h
            refine ly_stS (As := [.int y114, .int 4]) (rest := [.int 1]) E (lm_low l y114 4 _ er483) (va_cwS 2 hts gL_law_L_low rfl rfl rfl (by decide +kernel) ⟨Nat.le_of_ble_eq_true rfl, Nat.le_of_ble_eq_true rfl⟩) ⟨by show _ ≤ 703191; omega, by show _ ≤ 6992126; omega⟩ rfl hl.1 rfl (Nat.le_of_ble_eq_true rfl) dL_law_483 ?_
            refine lv_iadd hx hb dL_law_486 ?_
            obtain ⟨y487, ey487, h⟩ := swlt_s h
            refine sw_top ey487 ?_
            refine lv_istore (lv' := [(16, .int y487), (15, .int y114), (14, .int r105), (0, .ref b), (1, .ref (ad 0)), (2, .ref (al 0)), (3, .ref (al 1)), (4, .ref (al 2)), (5, .ref (al 3)), (6, .ref (al 4)), (7, .ref (al 5)), (8, .ref (al 6)), (9, .ref (al 7)), (10, .ref (al 8)), (12, .int x12), (13, .int x13)]) hx hb dL_law_487 hl (by decide) rfl (fun ls hl => ?_)
            refine lv_aload hx hb dL_law_489 (lv_at hl 13 rfl) ?_
            refine lv_iconst (v := 5) hx hb dL_law_491 (by decide) ?_
            refine lv_dup2_11 hx hb dL_law_492 rfl rfl ?_
            obtain ⟨a493, ea493, ia493, h⟩ := swrd_s h
            refine ly_ald hx hb hK hI.2 (cd := 8) (by decide) rfl ia493 dL_law_493 ea493 ?_
            refine lv_iload hx hb dL_law_494 (lv_at hl 0 rfl) ?_
            refine lv_iadd hx hb dL_law_496 ?_
            obtain ⟨iu497, h⟩ := swgd_s h
            obtain ⟨u497, eu497, h⟩ := swlt_s h
            refine lb_ast hx hb hK hJ hF hI hS (cd := 8) (by decide) (by decide) rfl rfl (swix_s iu497) eu497 dL_law_497 (fun H locs hI hS => ?_)
            refine lv_aload_n hx hb dL_law_498 rfl (lv_at hl 4 rfl) ?_
            refine lv_iload hx hb dL_law_499 (lv_at hl 0 rfl) ?_
            obtain ⟨r501, w501, er501, h⟩ := swnx_s h
            refine lb_x0 (As := [.int y487]) (rest := []) E (xm5_pass l hst D cy ad hJ.1 u y487 _ _ _ _ er501) (cwV 1 hts gL_law_X5_pass rfl rfl rfl (by decide +kernel) ⟨Nat.le_of_ble_eq_true rfl, Nat.le_of_ble_eq_true rfl⟩) hK hJ hF hI hS ⟨by show _ ≤ 703191; omega, by show _ ≤ 6992126; omega⟩ rfl hl.1 rfl (Nat.le_of_ble_eq_true rfl) dL_law_501 (fun H locs hI hS => ?_)
            refine lv_aload hx hb dL_law_504 (lv_at hl 13 rfl) ?_
            refine lv_iconst (v := 5) hx hb dL_law_506 (by decide) ?_
            obtain ⟨a507, ea507, ia507, h⟩ := swrd_s h
            refine ly_ald hx hb hK hI.2 (cd := 8) (by decide) rfl ia507 dL_law_507 ea507 ?_
            obtain ⟨k516_, ek516_, h⟩ := swjn_s h
            have J516 : ∀ (s516_0 : Int32) (H : Heap) (locs : List Loc) (ls : Array Slot), k516_ s516_0 = some (r0, u0, y0) → lbI D cy ad al w501 u497 H → va_S A s.heap H locs → lv_has ls 18 [(0, .ref b), (1, .ref (ad 0)), (2, .ref (al 0)), (3, .ref (al 1)), (4, .ref (al 2)), (5, .ref (al 3)), (6, .ref (al 4)), (7, .ref (al 5)), (8, .ref (al 6)), (9, .ref (al 7)), (10, .ref (al 8)), (12, .int x12), (13, .int x13), (14, .int r105), (15, .int y114), (16, .int y487)] → W p l e room_1 s m args below meth c H locs (cZ + 1) (tZ + 6) Q (F0 m 516 ls [.int s516_0]) := by
              intro s516_0 H locs ls h hI hS hl
              rw [ek516_] at h
              refine lv_istore (lv' := [(11, .int s516_0), (0, .ref b), (1, .ref (ad 0)), (2, .ref (al 0)), (3, .ref (al 1)), (4, .ref (al 2)), (5, .ref (al 3)), (6, .ref (al 4)), (7, .ref (al 5)), (8, .ref (al 6)), (9, .ref (al 7)), (10, .ref (al 8)), (12, .int x12), (13, .int x13), (14, .int r105), (15, .int y114), (16, .int y487)]) hx hb dL_law_516 hl (by decide) rfl (fun ls hl => ?_)
              refine W.widen (k := (cZ + 60)) (n := (tZ + 354)) (by omega) (by omega) ?_
              exact J518 _ _ _ _ _ _ h hI hS (lv_sub hl [1, 2, 3, 4, 5, 6, 7, 8, 9, 10, 11, 0, 12, 13, 14, 15] rfl)
            clear ek516_
            refine lv_icmp_ne (tgt := 515) hx hb dL_law_508 (by decide) (fun cc => ?_) (fun cc => ?_)
            · replace h := sw_f h cc
              refine lv_iconst (v := 0) hx hb dL_law_515 (by decide) ?_
              exact J516 _ _ _ _ h hI hS (lv_sub hl [3, 4, 5, 6, 7, 8, 9, 10, 11, 12, 13, 14, 15, 2, 1, 0] rfl)
            · replace h := sw_t h cc
              refine lv_iconst (v := 1) hx hb dL_law_511 (by decide) ?_
              refine lv_goto (tgt := 516) hx hb dL_law_512 (by decide) ?_
              exact J516 _ _ _ _ h hI hS (lv_sub hl [3, 4, 5, 6, 7, 8, 9, 10, 11, 12, 13, 14, 15, 2, 1, 0] rfl)
          · replace h := sw_f h cc
            refine lv_iload hx hb dL_law_374 (lv_at hl 0 rfl) ?_
            refine lv_aload hx hb dL_law_376 (lv_at hl 12 rfl) ?_
            refine lv_iconst (v := 2) hx hb dL_law_378 (by decide) ?_
            obtain ⟨a379, ea379, ia379, h⟩ := swrd_s h
            refine ly_ald hx hb hK hI.2 (cd := 8) (by decide) rfl ia379 dL_law_379 ea379 ?_
            obtain ⟨r380, er380, h⟩ := swbd_s h
            refine ly_stS (As := [.int y114, .int a379]) (rest := []) E (lm_low l y114 a379 _ er380) (va_cwS 2 hts gL_law_L_low rfl rfl rfl (by decide +kernel) ⟨Nat.le_of_ble_eq_true rfl, Nat.le_of_ble_eq_true rfl⟩) ⟨by show _ ≤ 703191; omega, by show _ ≤ 6992126; omega⟩ rfl hl.1 rfl (Nat.le_of_ble_eq_true rfl) dL_law_380 ?_
            refine lv_istore (lv' := [(16, .int r380), (15, .int y114), (14, .int r105), (0, .ref b), (1, .ref (ad 0)), (2, .ref (al 0)), (3, .ref (al 1)), (4, .ref (al 2)), (5, .ref (al 3)), (6, .ref (al 4)), (7, .ref (al 5)), (8, .ref (al 6)), (9, .ref (al 7)), (10, .ref (al 8)), (12, .int x12), (13, .int x13)]) hx hb dL_law_383 hl (by decide) rfl (fun ls hl => ?_)
            refine lv_aload hx hb dL_law_385 (lv_at hl 10 rfl) ?_
            refine lv_iload hx hb dL_law_387 (lv_at hl 0 rfl) ?_
            obtain ⟨a389, ea389, ia389, h⟩ := swrd_s h
            refine ly_ald hx hb hK hI.2 (cd := 5) (by decide) rfl ia389 dL_law_389 ea389 ?_
            refine lv_aload_n hx hb dL_law_390 rfl (lv_at hl 5 rfl) ?_
            refine lv_aload_n hx hb dL_law_391 rfl (lv_at hl 6 rfl) ?_
            refine lv_aload hx hb dL_law_392 (lv_at hl 11 rfl) ?_
            refine lv_aload hx hb dL_law_394 (lv_at hl 12 rfl) ?_
            refine lv_aload hx hb dL_law_396 (lv_at hl 13 rfl) ?_
            obtain ⟨r398, er398, h⟩ := swbd_s h
            refine ly_roS (As := [.int a389, .ref (al 0), .ref (al 1), .ref (al 6), .ref (al 7), .ref (al 8)]) (rest := []) E (lm_blocked l D cy al y a389 _ er398) (va_cwS 6 hts gL_law_L_blocked rfl rfl rfl (by decide +kernel) ⟨Nat.le_of_ble_eq_true rfl, Nat.le_of_ble_eq_true rfl⟩) hK hI.2 ⟨by show _ ≤ 703191; omega, by show _ ≤ 6992126; omega⟩ rfl hl.1 rfl (Nat.le_of_ble_eq_true rfl) dL_law_398 ?_
            obtain ⟨k409_, ek409_, h⟩ := swjn_s h
            have J409 : ∀ (s409_0 : Int32) (H : Heap) (locs : List Loc) (ls : Array Slot), k409_ s409_0 = some (r0, u0, y0) → lbI D cy ad al u y H → va_S A s.heap H locs → lv_has ls 18 [(0, .ref b), (1, .ref (ad 0)), (2, .ref (al 0)), (3, .ref (al 1)), (4, .ref (al 2)), (5, .ref (al 3)), (6, .ref (al 4)), (7, .ref (al 5)), (8, .ref (al 6)), (9, .ref (al 7)), (10, .ref (al 8)), (12, .int x12), (13, .int x13), (14, .int r105), (15, .int y114), (16, .int r380)] → W p l e room_1 s m args below meth c H locs (cZ + 0) (tZ + 0) Q (F0 m 409 ls [.int s409_0]) := by
              intro s409_0 H locs ls h hI hS hl
              rw [ek409_] at h
              refine lv_istore (lv' := [(17, .int s409_0), (0, .ref b), (1, .ref (ad 0)), (2, .ref (al 0)), (3, .ref (al 1)), (4, .ref (al 2)), (5, .ref (al 3)), (6, .ref (al 4)), (7, .ref (al 5)), (8, .ref (al 6)), (9, .ref (al 7)), (10, .ref (al 8)), (12, .int x12), (13, .int x13), (14, .int r105), (15, .int y114), (16, .int r380)]) hx hb dL_law_409 hl (by decide) rfl (fun ls hl => ?_)
              refine lv_aload hx hb dL_law_411 (lv_at hl 8 rfl) ?_
              refine lv_bipush (v := 6) hx hb dL_law_413 (by decide) ?_
              refine lv_iload hx hb dL_law_415 (lv_at hl 16 rfl) ?_
              refine lv_iadd hx hb dL_law_417 ?_
              refine lv_iload hx hb dL_law_418 (lv_at hl 0 rfl) ?_
              obtain ⟨k441_, ek441_, h⟩ := swjn_s h
              have J441 : ∀ (s441_0 : Int32) (H : Heap) (locs : List Loc) (ls : Array Slot), k441_ s441_0 = some (r0, u0, y0) → lbI D cy ad al u y H → va_S A s.heap H locs → lv_has ls 18 [(0, .ref b), (1, .ref (ad 0)), (2, .ref (al 0)), (3, .ref (al 1)), (4, .ref (al 2)), (5, .ref (al 3)), (6, .ref (al 4)), (7, .ref (al 5)), (8, .ref (al 6)), (9, .ref (al 7)), (10, .ref (al 8)), (12, .int x12), (13, .int x13), (14, .int r105), (15, .int y114), (16, .int r380), (17, .int s409_0)] → W p l e room_1 s m args below meth c H locs (cZ + 0) (tZ + 0) Q (F0 m 441 ls [.int s441_0, .int (((6 : Int32) + r380)), .ref (al 5)]) := by
                intro s441_0 H locs ls h hI hS hl
                rw [ek441_] at h
                obtain ⟨iu441, h⟩ := swgd_s h
                obtain ⟨u441, eu441, h⟩ := swlt_s h
                refine lb_ast hx hb hK hJ hF hI hS (cd := 5) (by decide) (by decide) rfl rfl (swix_s iu441) eu441 dL_law_441 (fun H locs hI hS => ?_)
                refine lv_aload_n hx hb dL_law_442 rfl (lv_at hl 1 rfl) ?_
                refine lv_iconst (v := 3) hx hb dL_law_443 (by decide) ?_
                refine lv_iload hx hb dL_law_444 (lv_at hl 15 rfl) ?_
                refine lv_iconst (v := 0) hx hb dL_law_446 (by decide) ?_
                refine lv_iconst (v := 0) hx hb dL_law_447 (by decide) ?_
                obtain ⟨⟨r448, w448, u448⟩, er448, h⟩ := swbd_s h
                refine lb_bW (As := [.ref (ad 0), .int 3, .int r380, .int 0, .int 0]) (rest := []) E (lm_calls l hst D cy ad al hJ u u441 3 r380 0 0 _ _ _ _ er448) (vx_cwSW 5 hts gL_law_L_calls rfl rfl rfl (by decide +kernel) ⟨Nat.le_of_ble_eq_true rfl, Nat.le_of_ble_eq_true rfl⟩) hK hNc hF hI hS ⟨by show _ ≤ 703191; omega, by show _ ≤ 6992126; omega⟩ rfl hl.1 rfl (Nat.le_of_ble_eq_true rfl) dL_law_448 (fun H locs hI hS => ?_)
                refine lv_iload hx hb dL_law_451 (lv_at hl 16 rfl) ?_
                obtain ⟨k466_, ek466_, h⟩ := swjn_s h
                have J466 : ∀ (s466_0 : Int32) (H : Heap) (locs : List Loc) (ls : Array Slot), k466_ s466_0 = some (r0, u0, y0) → lbI D cy ad al w448 u448 H → va_S A s.heap H locs → lv_has ls 18 [(0, .ref b), (1, .ref (ad 0)), (2, .ref (al 0)), (3, .ref (al 1)), (4, .ref (al 2)), (5, .ref (al 3)), (6, .ref (al 4)), (7, .ref (al 5)), (8, .ref (al 6)), (9, .ref (al 7)), (10, .ref (al 8)), (12, .int x12), (13, .int x13), (14, .int r105), (15, .int y114), (16, .int r380), (17, .int s409_0)] → W p l e room_1 s m args below meth c H locs (cZ + 5) (tZ + 27) Q (F0 m 466 ls [.int s466_0, .int r448]) := by
                  intro s466_0 H locs ls h hI hS hl
                  rw [ek466_] at h
                  obtain ⟨k474_, ek474_, h⟩ := swjn_s h
                  have J474 : ∀ (s474_0 : Int32) (H : Heap) (locs : List Loc) (ls : Array Slot), k474_ s474_0 = some (r0, u0, y0) → lbI D cy ad al w448 u448 H → va_S A s.heap H locs → lv_has ls 18 [(0, .ref b), (1, .ref (ad 0)), (2, .ref (al 0)), (3, .ref (al 1)), (4, .ref (al 2)), (5, .ref (al 3)), (6, .ref (al 4)), (7, .ref (al 5)), (8, .ref (al 6)), (9, .ref (al 7)), (10, .ref (al 8)), (12, .int x12), (13, .int x13), (14, .int r105), (15, .int y114), (16, .int r380), (17, .int s409_0)] → W p l e room_1 s m args below meth c H locs (cZ + 5) (tZ + 27) Q (F0 m 474 ls [.int s474_0]) := by
                    intro s474_0 H locs ls h hI hS hl
                    rw [ek474_] at h
                    refine lv_istore (lv' := [(11, .int s474_0), (0, .ref b), (1, .ref (ad 0)), (2, .ref (al 0)), (3, .ref (al 1)), (4, .ref (al 2)), (5, .ref (al 3)), (6, .ref (al 4)), (7, .ref (al 5)), (8, .ref (al 6)), (9, .ref (al 7)), (10, .ref (al 8)), (12, .int x12), (13, .int x13), (14, .int r105), (15, .int y114), (16, .int r380), (17, .int s409_0)]) hx hb dL_law_474 hl (by decide) rfl (fun ls hl => ?_)
                    refine lv_goto (tgt := 518) hx hb dL_law_476 (by decide) ?_
                    refine W.widen (k := (cZ + 60)) (n := (tZ + 354)) (by omega) (by omega) ?_
                    exact J518 _ _ _ _ _ _ h hI hS (lv_sub hl [1, 2, 3, 4, 5, 6, 7, 8, 9, 10, 11, 0, 12, 13, 14, 15] rfl)
                  clear ek474_
                  refine lv_icmp_ne (tgt := 473) hx hb dL_law_466 (by decide) (fun cc => ?_) (fun cc => ?_)
                  · replace h := sw_f h cc
                    refine lv_iconst (v := 0) hx hb dL_law_473 (by decide) ?_
                    exact J474 _ _ _ _ h hI hS (lv_sub hl [0, 1, 2, 3, 4, 5, 6, 7, 8, 9, 10, 11, 12, 13, 14, 15, 16] rfl)
                  · replace h := sw_t h cc
                    refine lv_iconst (v := 1) hx hb dL_law_469 (by decide) ?_
                    refine lv_goto (tgt := 474) hx hb dL_law_470 (by decide) ?_
                    exact J474 _ _ _ _ h hI hS (lv_sub hl [0, 1, 2, 3, 4, 5, 6, 7, 8, 9, 10, 11, 12, 13, 14, 15, 16] rfl)
                clear ek466_
                refine lv_if_eq (tgt := 464) hx hb dL_law_453 (by decide) (fun cc => ?_) (fun cc => ?_)
                · replace h := sw_t h cc
                  refine lv_ldc (v := (-100003)) hx hb hown fc28 dL_law_464 ?_
                  exact J466 _ _ _ _ h hI hS (lv_sub hl [0, 1, 2, 3, 4, 5, 6, 7, 8, 9, 10, 11, 12, 13, 14, 15, 16] rfl)
                · replace h := sw_f h cc
                  refine lv_aload hx hb dL_law_456 (lv_at hl 7 rfl) ?_
                  refine lv_iload hx hb dL_law_458 (lv_at hl 15 rfl) ?_
                  obtain ⟨a460, ea460, ia460, h⟩ := swrd_s h
                  refine ly_ald hx hb hK hI.2 (cd := 5) (by decide) rfl ia460 dL_law_460 ea460 ?_
                  refine lv_goto (tgt := 466) hx hb dL_law_461 (by decide) ?_
                  exact J466 _ _ _ _ h hI hS (lv_sub hl [0, 1, 2, 3, 4, 5, 6, 7, 8, 9, 10, 11, 12, 13, 14, 15, 16] rfl)
              clear ek441_
              refine lv_if_eq (tgt := 433) hx hb dL_law_420 (by decide) (fun cc => ?_) (fun cc => ?_)
              · replace h := sw_t h cc
                refine lv_aload hx hb dL_law_433 (lv_at hl 8 rfl) ?_
                refine lv_bipush (v := 6) hx hb dL_law_435 (by decide) ?_
                refine lv_iload hx hb dL_law_437 (lv_at hl 16 rfl) ?_
                refine lv_iadd hx hb dL_law_439 ?_
                obtain ⟨a440, ea440, ia440, h⟩ := swrd_s h
                refine ly_ald hx hb hK hI.2 (cd := 5) (by decide) rfl ia440 dL_law_440 ea440 ?_
                exact J441 _ _ _ _ h hI hS (lv_sub hl [1, 2, 3, 4, 5, 6, 7, 8, 9, 10, 11, 12, 13, 14, 15, 16, 0] rfl)
              · replace h := sw_f h cc
                refine lv_aload hx hb dL_law_423 (lv_at hl 8 rfl) ?_
                refine lv_iload hx hb dL_law_425 (lv_at hl 16 rfl) ?_
                obtain ⟨a427, ea427, ia427, h⟩ := swrd_s h
                refine ly_ald hx hb hK hI.2 (cd := 5) (by decide) rfl ia427 dL_law_427 ea427 ?_
                refine lv_iconst (v := 1) hx hb dL_law_428 (by decide) ?_
                refine lv_iadd hx hb dL_law_429 ?_
                refine lv_goto (tgt := 441) hx hb dL_law_430 (by decide) ?_
                exact J441 _ _ _ _ h hI hS (lv_sub hl [1, 2, 3, 4, 5, 6, 7, 8, 9, 10, 11, 12, 13, 14, 15, 16, 0] rfl)
            clear ek409_
            refine lv_if_ne (tgt := 408) hx hb dL_law_401 (by decide) (fun cc => ?_) (fun cc => ?_)
            · replace h := sw_f h cc
              refine lv_iconst (v := 0) hx hb dL_law_408 (by decide) ?_
              exact J409 _ _ _ _ h hI hS (lv_sub hl [3, 4, 5, 6, 7, 8, 9, 10, 11, 12, 13, 14, 15, 2, 1, 0] rfl)
            · replace h := sw_t h cc
              refine lv_iconst (v := 1) hx hb dL_law_404 (by decide) ?_
              refine lv_goto (tgt := 409) hx hb dL_law_405 (by decide) ?_
              exact J409 _ _ _ _ h hI hS (lv_sub hl [3, 4, 5, 6, 7, 8, 9, 10, 11, 12, 13, 14, 15, 2, 1, 0] rfl)
        · replace h := sw_f h cc
          refine lv_aload_n hx hb dL_law_323 rfl (lv_at hl 3 rfl) ?_
          refine lv_iload hx hb dL_law_324 (lv_at hl 1 rfl) ?_
          refine lv_bipush (v := 20) hx hb dL_law_326 (by decide) ?_
          obtain ⟨k347_, ek347_, h⟩ := swjn_s h
          have J347 : ∀ (s347_0 : Int32) (H : Heap) (locs : List Loc) (ls : Array Slot), k347_ s347_0 = some (r0, u0, y0) → lbI D cy ad al u y H → va_S A s.heap H locs → lv_has ls 18 [(0, .ref b), (1, .ref (ad 0)), (2, .ref (al 0)), (3, .ref (al 1)), (4, .ref (al 2)), (5, .ref (al 3)), (6, .ref (al 4)), (7, .ref (al 5)), (8, .ref (al 6)), (9, .ref (al 7)), (10, .ref (al 8)), (12, .int x12), (13, .int x13), (14, .int r105), (15, .int y114)] → W p l e room_1 s m args below meth c H locs (cZ + 0) (tZ + 0) Q (F0 m 347 ls [.int s347_0, .ref (ad 0)]) := by
            intro s347_0 H locs ls h hI hS hl
            rw [ek347_] at h
            refine lv_iload hx hb dL_law_347 (lv_at hl 14 rfl) ?_
            refine lv_aload_n hx hb dL_law_349 rfl (lv_at hl 2 rfl) ?_
            refine lv_aload_n hx hb dL_law_350 rfl (lv_at hl 3 rfl) ?_
            refine lv_aload hx hb dL_law_351 (lv_at hl 7 rfl) ?_
            refine lv_aload hx hb dL_law_353 (lv_at hl 8 rfl) ?_
            refine lv_aload hx hb dL_law_355 (lv_at hl 9 rfl) ?_
            refine lv_aload hx hb dL_law_357 (lv_at hl 10 rfl) ?_
            obtain ⟨⟨r359, w359, u359⟩, er359, h⟩ := swbd_s h
            refine lb_b (As := [.ref (ad 0), .int s347_0, .int y114, .ref (al 0), .ref (al 1), .ref (al 5), .ref (al 6), .ref (al 7), .ref (al 8)]) (rest := []) E (lm_rules l hst D cy ad al hJ u y s347_0 y114 _ _ _ _ er359) (va_cwS 9 hts gL_law_L_rules rfl rfl rfl (by decide +kernel) ⟨Nat.le_of_ble_eq_true rfl, Nat.le_of_ble_eq_true rfl⟩) hK hNc hF hI hS ⟨by show _ ≤ 703191; omega, by show _ ≤ 6992126; omega⟩ rfl hl.1 rfl (Nat.le_of_ble_eq_true rfl) dL_law_359 (fun H locs hI hS => ?_)
            refine lv_istore (lv' := [(11, .int r359), (0, .ref b), (1, .ref (ad 0)), (2, .ref (al 0)), (3, .ref (al 1)), (4, .ref (al 2)), (5, .ref (al 3)), (6, .ref (al 4)), (7, .ref (al 5)), (8, .ref (al 6)), (9, .ref (al 7)), (10, .ref (al 8)), (12, .int x12), (13, .int x13), (14, .int r105), (15, .int y114)]) hx hb dL_law_362 hl (by decide) rfl (fun ls hl => ?_)
            refine lv_goto (tgt := 518) hx hb dL_law_364 (by decide) ?_
            refine W.widen (k := (cZ + 60)) (n := (tZ + 354)) (by omega) (by omega) ?_
            exact J518 _ _ _ _ _ _ h hI hS (lv_sub hl [1, 2, 3, 4, 5, 6, 7, 8, 9, 10, 11, 0, 12, 13, 14, 15] rfl)
          clear ek347_
          refine lv_icmp_ge (tgt := 335) hx hb dL_law_328 (by decide) (fun cc => ?_) (fun cc => ?_)
          · replace h := sw_t h cc
            refine lv_iload hx hb dL_law_335 (lv_at hl 1 rfl) ?_
            refine lv_bipush (v := 22) hx hb dL_law_337 (by decide) ?_
            refine lv_icmp_ge (tgt := 346) hx hb dL_law_339 (by decide) (fun cc => ?_) (fun cc => ?_)
            · replace h := sw_t h cc
              refine lv_iconst (v := 2) hx hb dL_law_346 (by decide) ?_
              exact J347 _ _ _ _ h hI hS (lv_sub hl [2, 3, 4, 5, 6, 7, 8, 9, 10, 11, 12, 13, 14, 1, 0] rfl)
            · replace h := sw_f h cc
              refine lv_iconst (v := 1) hx hb dL_law_342 (by decide) ?_
              refine lv_goto (tgt := 347) hx hb dL_law_343 (by decide) ?_
              exact J347 _ _ _ _ h hI hS (lv_sub hl [2, 3, 4, 5, 6, 7, 8, 9, 10, 11, 12, 13, 14, 1, 0] rfl)
          · replace h := sw_f h cc
            refine lv_iconst (v := 0) hx hb dL_law_331 (by decide) ?_
            refine lv_goto (tgt := 347) hx hb dL_law_332 (by decide) ?_
            exact J347 _ _ _ _ h hI hS (lv_sub hl [2, 3, 4, 5, 6, 7, 8, 9, 10, 11, 12, 13, 14, 1, 0] rfl)
      · replace h := sw_f h cc
        refine lv_iload hx hb dL_law_209 (lv_at hl 0 rfl) ?_
        refine lv_iconst (v := 3) hx hb dL_law_211 (by decide) ?_
        obtain ⟨r212, er212, h⟩ := swbd_s h
        refine ly_stS (As := [.int y114, .int 3]) (rest := []) E (lm_low l y114 3 _ er212) (va_cwS 2 hts gL_law_L_low rfl rfl rfl (by decide +kernel) ⟨Nat.le_of_ble_eq_true rfl, Nat.le_of_ble_eq_true rfl⟩) ⟨by show _ ≤ 703191; omega, by show _ ≤ 6992126; omega⟩ rfl hl.1 rfl (Nat.le_of_ble_eq_true rfl) dL_law_212 ?_
        obtain ⟨k238_, ek238_, h⟩ := swjn_s h
        have J238 : ∀ (s238_0 : Int32) (H : Heap) (locs : List Loc) (ls : Array Slot), k238_ s238_0 = some (r0, u0, y0) → lbI D cy ad al u y H → va_S A s.heap H locs → lv_has ls 18 [(0, .ref b), (1, .ref (ad 0)), (2, .ref (al 0)), (3, .ref (al 1)), (4, .ref (al 2)), (5, .ref (al 3)), (6, .ref (al 4)), (7, .ref (al 5)), (8, .ref (al 6)), (9, .ref (al 7)), (10, .ref (al 8)), (12, .int x12), (13, .int x13), (14, .int r105), (15, .int y114)] → W p l e room_1 s m args below meth c H locs (cZ + 0) (tZ + 0) Q (F0 m 238 ls [.int s238_0]) := by
          intro s238_0 H locs ls h hI hS hl
          rw [ek238_] at h
          refine lv_istore (lv' := [(16, .int s238_0), (0, .ref b), (1, .ref (ad 0)), (2, .ref (al 0)), (3, .ref (al 1)), (4, .ref (al 2)), (5, .ref (al 3)), (6, .ref (al 4)), (7, .ref (al 5)), (8, .ref (al 6)), (9, .ref (al 7)), (10, .ref (al 8)), (12, .int x12), (13, .int x13), (14, .int r105), (15, .int y114)]) hx hb dL_law_238 hl (by decide) rfl (fun ls hl => ?_)
          refine lv_aload hx hb dL_law_240 (lv_at hl 11 rfl) ?_
          refine lv_iconst (v := 2) hx hb dL_law_242 (by decide) ?_
          obtain ⟨a243, ea243, ia243, h⟩ := swrd_s h
          refine ly_ald hx hb hK hI.2 (cd := 8) (by decide) rfl ia243 dL_law_243 ea243 ?_
          refine lv_bipush (v := 6) hx hb dL_law_244 (by decide) ?_
          obtain ⟨k254_, ek254_, h⟩ := swjn_s h
          have J254 : ∀ (s254_0 : Int32) (H : Heap) (locs : List Loc) (ls : Array Slot), k254_ s254_0 = some (r0, u0, y0) → lbI D cy ad al u y H → va_S A s.heap H locs → lv_has ls 18 [(0, .ref b), (1, .ref (ad 0)), (2, .ref (al 0)), (3, .ref (al 1)), (4, .ref (al 2)), (5, .ref (al 3)), (6, .ref (al 4)), (7, .ref (al 5)), (8, .ref (al 6)), (9, .ref (al 7)), (10, .ref (al 8)), (12, .int x12), (13, .int x13), (14, .int r105), (15, .int y114), (16, .int s238_0)] → W p l e room_1 s m args below meth c H locs (cZ + 0) (tZ + 0) Q (F0 m 254 ls [.int s254_0]) := by
            intro s254_0 H locs ls h hI hS hl
            rw [ek254_] at h
            refine lv_istore (lv' := [(17, .int s254_0), (0, .ref b), (1, .ref (ad 0)), (2, .ref (al 0)), (3, .ref (al 1)), (4, .ref (al 2)), (5, .ref (al 3)), (6, .ref (al 4)), (7, .ref (al 5)), (8, .ref (al 6)), (9, .ref (al 7)), (10, .ref (al 8)), (12, .int x12), (13, .int x13), (14, .int r105), (15, .int y114), (16, .int s238_0)]) hx hb dL_law_254 hl (by decide) rfl (fun ls hl => ?_)
            refine lv_iload hx hb dL_law_256 (lv_at hl 0 rfl) ?_
            obtain ⟨k278_, ek278_, h⟩ := swjn_s h
            have J278 : ∀ (yj278 : lyU) (H : Heap) (locs : List Loc) (ls : Array Slot), k278_ yj278 = some (r0, u0, y0) → lbI D cy ad al u yj278 H → va_S A s.heap H locs → lv_has ls 18 [(0, .ref b), (1, .ref (ad 0)), (2, .ref (al 0)), (3, .ref (al 1)), (4, .ref (al 2)), (5, .ref (al 3)), (6, .ref (al 4)), (7, .ref (al 5)), (8, .ref (al 6)), (9, .ref (al 7)), (10, .ref (al 8)), (12, .int x12), (13, .int x13), (14, .int r105), (15, .int y114), (16, .int s238_0), (17, .int s254_0)] → W p l e room_1 s m args below meth c H locs (cZ + 0) (tZ + 0) Q (F0 m 278 ls []) := by
              intro yj278 H locs ls h hI hS hl
              rw [ek278_] at h
              refine lv_aload_n hx hb dL_law_278 rfl (lv_at hl 1 rfl) ?_
              refine lv_iconst (v := 0) hx hb dL_law_279 (by decide) ?_
              refine lv_iload hx hb dL_law_280 (lv_at hl 15 rfl) ?_
              refine lv_iconst (v := 0) hx hb dL_law_282 (by decide) ?_
              refine lv_iconst (v := 0) hx hb dL_law_283 (by decide) ?_
              obtain ⟨⟨r284, w284, u284⟩, er284, h⟩ := swbd_s h
              refine lb_bW (As := [.ref (ad 0), .int 0, .int s238_0, .int 0, .int 0]) (rest := []) E (lm_calls l hst D cy ad al hJ u yj278 0 s238_0 0 0 _ _ _ _ er284) (vx_cwSW 5 hts gL_law_L_calls rfl rfl rfl (by decide +kernel) ⟨Nat.le_of_ble_eq_true rfl, Nat.le_of_ble_eq_true rfl⟩) hK hNc hF hI hS ⟨by show _ ≤ 703191; omega, by show _ ≤ 6992126; omega⟩ rfl hl.1 rfl (Nat.le_of_ble_eq_true rfl) dL_law_284 (fun H locs hI hS => ?_)
              refine lv_iload hx hb dL_law_287 (lv_at hl 16 rfl) ?_
              obtain ⟨k303_, ek303_, h⟩ := swjn_s h
              have J303 : ∀ (s303_0 : Int32) (H : Heap) (locs : List Loc) (ls : Array Slot), k303_ s303_0 = some (r0, u0, y0) → lbI D cy ad al w284 u284 H → va_S A s.heap H locs → lv_has ls 18 [(0, .ref b), (1, .ref (ad 0)), (2, .ref (al 0)), (3, .ref (al 1)), (4, .ref (al 2)), (5, .ref (al 3)), (6, .ref (al 4)), (7, .ref (al 5)), (8, .ref (al 6)), (9, .ref (al 7)), (10, .ref (al 8)), (12, .int x12), (13, .int x13), (14, .int r105), (15, .int y114), (16, .int s238_0), (17, .int s254_0)] → W p l e room_1 s m args below meth c H locs (cZ + 5) (tZ + 27) Q (F0 m 303 ls [.int s303_0, .int r284]) := by
                intro s303_0 H locs ls h hI hS hl
                rw [ek303_] at h
                obtain ⟨k311_, ek311_, h⟩ := swjn_s h
                have J311 : ∀ (s311_0 : Int32) (H : Heap) (locs : List Loc) (ls : Array Slot), k311_ s311_0 = some (r0, u0, y0) → lbI D cy ad al w284 u284 H → va_S A s.heap H locs → lv_has ls 18 [(0, .ref b), (1, .ref (ad 0)), (2, .ref (al 0)), (3, .ref (al 1)), (4, .ref (al 2)), (5, .ref (al 3)), (6, .ref (al 4)), (7, .ref (al 5)), (8, .ref (al 6)), (9, .ref (al 7)), (10, .ref (al 8)), (12, .int x12), (13, .int x13), (14, .int r105), (15, .int y114), (16, .int s238_0), (17, .int s254_0)] → W p l e room_1 s m args below meth c H locs (cZ + 5) (tZ + 27) Q (F0 m 311 ls [.int s311_0]) := by
                  intro s311_0 H locs ls h hI hS hl
                  rw [ek311_] at h
                  refine lv_istore (lv' := [(11, .int s311_0), (0, .ref b), (1, .ref (ad 0)), (2, .ref (al 0)), (3, .ref (al 1)), (4, .ref (al 2)), (5, .ref (al 3)), (6, .ref (al 4)), (7, .ref (al 5)), (8, .ref (al 6)), (9, .ref (al 7)), (10, .ref (al 8)), (12, .int x12), (13, .int x13), (14, .int r105), (15, .int y114), (16, .int s238_0), (17, .int s254_0)]) hx hb dL_law_311 hl (by decide) rfl (fun ls hl => ?_)
                  refine lv_goto (tgt := 518) hx hb dL_law_313 (by decide) ?_
                  refine W.widen (k := (cZ + 60)) (n := (tZ + 354)) (by omega) (by omega) ?_
                  exact J518 _ _ _ _ _ _ h hI hS (lv_sub hl [1, 2, 3, 4, 5, 6, 7, 8, 9, 10, 11, 0, 12, 13, 14, 15] rfl)
                clear ek311_
                refine lv_icmp_ne (tgt := 310) hx hb dL_law_303 (by decide) (fun cc => ?_) (fun cc => ?_)
                · replace h := sw_f h cc
                  refine lv_iconst (v := 0) hx hb dL_law_310 (by decide) ?_
                  exact J311 _ _ _ _ h hI hS (lv_sub hl [0, 1, 2, 3, 4, 5, 6, 7, 8, 9, 10, 11, 12, 13, 14, 15, 16] rfl)
                · replace h := sw_t h cc
                  refine lv_iconst (v := 1) hx hb dL_law_306 (by decide) ?_
                  refine lv_goto (tgt := 311) hx hb dL_law_307 (by decide) ?_
                  exact J311 _ _ _ _ h hI hS (lv_sub hl [0, 1, 2, 3, 4, 5, 6, 7, 8, 9, 10, 11, 12, 13, 14, 15, 16] rfl)
              clear ek303_
              refine lv_if_eq (tgt := 301) hx hb dL_law_289 (by decide) (fun cc => ?_) (fun cc => ?_)
              · replace h := sw_t h cc
                refine lv_ldc (v := (-100003)) hx hb hown fc28 dL_law_301 ?_
                exact J303 _ _ _ _ h hI hS (lv_sub hl [0, 1, 2, 3, 4, 5, 6, 7, 8, 9, 10, 11, 12, 13, 14, 15, 16] rfl)
              · replace h := sw_f h cc
                refine lv_aload hx hb dL_law_292 (lv_at hl 10 rfl) ?_
                refine lv_iconst (v := 2) hx hb dL_law_294 (by decide) ?_
                obtain ⟨a295, ea295, ia295, h⟩ := swrd_s h
                refine ly_ald hx hb hK hI.2 (cd := 8) (by decide) rfl ia295 dL_law_295 ea295 ?_
                refine lv_iconst (v := 1) hx hb dL_law_296 (by decide) ?_
                refine lv_isub hx hb dL_law_297 ?_
                refine lv_goto (tgt := 303) hx hb dL_law_298 (by decide) ?_
                exact J303 _ _ _ _ h hI hS (lv_sub hl [0, 1, 2, 3, 4, 5, 6, 7, 8, 9, 10, 11, 12, 13, 14, 15, 16] rfl)
            clear ek278_
            refine lv_if_eq (tgt := 278) hx hb dL_law_258 (by decide) (fun cc => ?_) (fun cc => ?_)
            · replace h := sw_t h cc
              exact J278 _ _ _ _ h hI hS (lv_sub hl [1, 2, 3, 4, 5, 6, 7, 8, 9, 10, 11, 12, 13, 14, 15, 16, 0] rfl)
            · replace h := sw_f h cc
              refine lv_aload hx hb dL_law_261 (lv_at hl 8 rfl) ?_
              refine lv_aload hx hb dL_law_263 (lv_at hl 11 rfl) ?_
              refine lv_iconst (v := 2) hx hb dL_law_265 (by decide) ?_
              obtain ⟨a266, ea266, ia266, h⟩ := swrd_s h
              refine ly_ald hx hb hK hI.2 (cd := 8) (by decide) rfl ia266 dL_law_266 ea266 ?_
              refine lv_iload hx hb dL_law_267 (lv_at hl 16 rfl) ?_
              obtain ⟨iu269, h⟩ := swgd_s h
              obtain ⟨u269, eu269, h⟩ := swlt_s h
              refine lb_ast hx hb hK hJ hF hI hS (cd := 5) (by decide) (by decide) rfl rfl (swix_s iu269) eu269 dL_law_269 (fun H locs hI hS => ?_)
              refine lv_aload hx hb dL_law_270 (lv_at hl 11 rfl) ?_
              refine lv_iconst (v := 2) hx hb dL_law_272 (by decide) ?_
              refine lv_dup2_11 hx hb dL_law_273 rfl rfl ?_
              obtain ⟨a274, ea274, ia274, h⟩ := swrd_s h
              refine ly_ald hx hb hK hI.2 (cd := 8) (by decide) rfl ia274 dL_law_274 ea274 ?_
              refine lv_iconst (v := 1) hx hb dL_law_275 (by decide) ?_
              refine lv_iadd hx hb dL_law_276 ?_
              obtain ⟨iu277, h⟩ := swgd_s h
              obtain ⟨u277, eu277, h⟩ := swlt_s h
              refine lb_ast hx hb hK hJ hF hI hS (cd := 8) (by decide) (by decide) rfl rfl (swix_s iu277) eu277 dL_law_277 (fun H locs hI hS => ?_)
              exact J278 _ _ _ _ h hI hS (lv_sub hl [1, 2, 3, 4, 5, 6, 7, 8, 9, 10, 11, 12, 13, 14, 15, 16, 0] rfl)
          clear ek254_
          refine lv_icmp_ge (tgt := 253) hx hb dL_law_246 (by decide) (fun cc => ?_) (fun cc => ?_)
          · replace h := sw_t h cc
            refine lv_iconst (v := 0) hx hb dL_law_253 (by decide) ?_
            exact J254 _ _ _ _ h hI hS (lv_sub hl [1, 2, 3, 4, 5, 6, 7, 8, 9, 10, 11, 12, 13, 14, 15, 0] rfl)
          · replace h := sw_f h cc
            refine lv_iconst (v := 1) hx hb dL_law_249 (by decide) ?_
            refine lv_goto (tgt := 254) hx hb dL_law_250 (by decide) ?_
            exact J254 _ _ _ _ h hI hS (lv_sub hl [1, 2, 3, 4, 5, 6, 7, 8, 9, 10, 11, 12, 13, 14, 15, 0] rfl)
        clear ek238_
        refine lv_if_le (tgt := 227) hx hb dL_law_215 (by decide) (fun cc => ?_) (fun cc => ?_)
        · replace h := sw_t h cc
          refine lv_iload hx hb dL_law_227 (lv_at hl 0 rfl) ?_
          refine lv_iconst (v := 2) hx hb dL_law_229 (by decide) ?_
          refine lv_ishr hx hb dL_law_230 ?_
          refine sw_top (x := swshr y114 2) rfl ?_
          refine lv_aload hx hb dL_law_231 (lv_at hl 12 rfl) ?_
          refine lv_iconst (v := 0) hx hb dL_law_233 (by decide) ?_
          obtain ⟨a234, ea234, ia234, h⟩ := swrd_s h
          refine ly_ald hx hb hK hI.2 (cd := 8) (by decide) rfl ia234 dL_law_234 ea234 ?_
          obtain ⟨r235, er235, h⟩ := swbd_s h
          refine ly_stS (As := [.int (swshr y114 2), .int a234]) (rest := []) E (lm_low l (swshr y114 2) a234 _ er235) (va_cwS 2 hts gL_law_L_low rfl rfl rfl (by decide +kernel) ⟨Nat.le_of_ble_eq_true rfl, Nat.le_of_ble_eq_true rfl⟩) ⟨by show _ ≤ 703191; omega, by show _ ≤ 6992126; omega⟩ rfl hl.1 rfl (Nat.le_of_ble_eq_true rfl) dL_law_235 ?_
          exact J238 _ _ _ _ h hI hS (lv_sub hl [2, 3, 4, 5, 6, 7, 8, 9, 10, 11, 12, 13, 14, 1, 0] rfl)
        · replace h := sw_f h cc
          refine lv_aload hx hb dL_law_218 (lv_at hl 12 rfl) ?_
          refine lv_iconst (v := 0) hx hb dL_law_220 (by decide) ?_
          obtain ⟨a221, ea221, ia221, h⟩ := swrd_s h
          refine ly_ald hx hb hK hI.2 (cd := 8) (by decide) rfl ia221 dL_law_221 ea221 ?_
          refine lv_iconst (v := 1) hx hb dL_law_222 (by decide) ?_
          refine lv_isub hx hb dL_law_223 ?_
          refine lv_goto (tgt := 238) hx hb dL_law_224 (by decide) ?_
          exact J238 _ _ _ _ h hI hS (lv_sub hl [2, 3, 4, 5, 6, 7, 8, 9, 10, 11, 12, 13, 14, 1, 0] rfl)
    · replace h := sw_f h cc
      refine lv_aload_n hx hb dL_law_175 rfl (lv_at hl 3 rfl) ?_
      refine lv_iload hx hb dL_law_176 (lv_at hl 0 rfl) ?_
      refine lv_aload_n hx hb dL_law_178 rfl (lv_at hl 4 rfl) ?_
      refine lv_aload_n hx hb dL_law_179 rfl (lv_at hl 5 rfl) ?_
      refine lv_aload hx hb dL_law_180 (lv_at hl 6 rfl) ?_
      refine lv_aload hx hb dL_law_182 (lv_at hl 7 rfl) ?_
      refine lv_aload hx hb dL_law_184 (lv_at hl 8 rfl) ?_
      refine lv_aload hx hb dL_law_186 (lv_at hl 9 rfl) ?_
      refine lv_aload hx hb dL_law_188 (lv_at hl 10 rfl) ?_
      refine lv_aload hx hb dL_law_190 (lv_at hl 11 rfl) ?_
      refine lv_aload hx hb dL_law_192 (lv_at hl 12 rfl) ?_
      obtain ⟨⟨r194, w194, u194⟩, er194, h⟩ := swbd_s h
      refine lb_b (As := [.ref (ad 0), .int y114, .ref (al 0), .ref (al 1), .ref (al 2), .ref (al 3), .ref (al 4), .ref (al 5), .ref (al 6), .ref (al 7), .ref (al 8)]) (rest := []) E (lm_merges l hst D cy ad al hJ u y y114 _ _ _ _ er194) (va_cwS 11 hts gL_law_L_merges rfl rfl rfl (by decide +kernel) ⟨Nat.le_of_ble_eq_true rfl, Nat.le_of_ble_eq_true rfl⟩) hK hNc hF hI hS ⟨by show _ ≤ 703191; omega, by show _ ≤ 6992126; omega⟩ rfl hl.1 rfl (Nat.le_of_ble_eq_true rfl) dL_law_194 (fun H locs hI hS => ?_)
      refine lv_istore (lv' := [(11, .int r194), (15, .int y114), (14, .int r105), (0, .ref b), (1, .ref (ad 0)), (2, .ref (al 0)), (3, .ref (al 1)), (4, .ref (al 2)), (5, .ref (al 3)), (6, .ref (al 4)), (7, .ref (al 5)), (8, .ref (al 6)), (9, .ref (al 7)), (10, .ref (al 8)), (12, .int x12), (13, .int x13)]) hx hb dL_law_197 hl (by decide) rfl (fun ls hl => ?_)
      refine lv_goto (tgt := 518) hx hb dL_law_199 (by decide) ?_
      exact J518 _ _ _ _ _ _ h hI hS (lv_sub hl [3, 4, 5, 6, 7, 8, 9, 10, 11, 12, 13, 0, 14, 15, 2, 1] rfl)
  · replace h := sw_f h cc
    refine lv_aload_n hx hb dL_law_123 rfl (lv_at hl 3 rfl) ?_
    refine lv_iload hx hb dL_law_124 (lv_at hl 1 rfl) ?_
    refine lv_iconst (v := 3) hx hb dL_law_126 (by decide) ?_
    obtain ⟨k146_, ek146_, h⟩ := swjn_s h
    have J146 : ∀ (s146_0 : Int32) (H : Heap) (locs : List Loc) (ls : Array Slot), k146_ s146_0 = some (r0, u0, y0) → lbI D cy ad al u y H → va_S A s.heap H locs → lv_has ls 18 [(0, .ref b), (1, .ref (ad 0)), (2, .ref (al 0)), (3, .ref (al 1)), (4, .ref (al 2)), (5, .ref (al 3)), (6, .ref (al 4)), (7, .ref (al 5)), (8, .ref (al 6)), (9, .ref (al 7)), (10, .ref (al 8)), (12, .int x12), (13, .int x13), (14, .int r105), (15, .int y114)] → W p l e room_1 s m args below meth c H locs (cZ + 0) (tZ + 0) Q (F0 m 146 ls [.int s146_0, .ref (ad 0)]) := by
      intro s146_0 H locs ls h hI hS hl
      rw [ek146_] at h
      refine lv_iload hx hb dL_law_146 (lv_at hl 14 rfl) ?_
      refine lv_aload_n hx hb dL_law_148 rfl (lv_at hl 2 rfl) ?_
      refine lv_aload_n hx hb dL_law_149 rfl (lv_at hl 3 rfl) ?_
      refine lv_aload hx hb dL_law_150 (lv_at hl 4 rfl) ?_
      refine lv_aload hx hb dL_law_152 (lv_at hl 5 rfl) ?_
      refine lv_aload hx hb dL_law_154 (lv_at hl 6 rfl) ?_
      refine lv_aload hx hb dL_law_156 (lv_at hl 7 rfl) ?_
      refine lv_aload hx hb dL_law_158 (lv_at hl 10 rfl) ?_
      obtain ⟨⟨r160, w160, u160⟩, er160, h⟩ := swbd_s h
      refine lb_b (As := [.ref (ad 0), .int s146_0, .int y114, .ref (al 0), .ref (al 1), .ref (al 2), .ref (al 3), .ref (al 4), .ref (al 5), .ref (al 8)]) (rest := []) E (lm_edits l hst D cy ad al hJ u y s146_0 y114 _ _ _ _ er160) (va_cwS 10 hts gL_law_L_edits rfl rfl rfl (by decide +kernel) ⟨Nat.le_of_ble_eq_true rfl, Nat.le_of_ble_eq_true rfl⟩) hK hNc hF hI hS ⟨by show _ ≤ 703191; omega, by show _ ≤ 6992126; omega⟩ rfl hl.1 rfl (Nat.le_of_ble_eq_true rfl) dL_law_160 (fun H locs hI hS => ?_)
      refine lv_istore (lv' := [(11, .int r160), (0, .ref b), (1, .ref (ad 0)), (2, .ref (al 0)), (3, .ref (al 1)), (4, .ref (al 2)), (5, .ref (al 3)), (6, .ref (al 4)), (7, .ref (al 5)), (8, .ref (al 6)), (9, .ref (al 7)), (10, .ref (al 8)), (12, .int x12), (13, .int x13), (14, .int r105), (15, .int y114)]) hx hb dL_law_163 hl (by decide) rfl (fun ls hl => ?_)
      refine lv_goto (tgt := 518) hx hb dL_law_165 (by decide) ?_
      refine W.widen (k := (cZ + 60)) (n := (tZ + 354)) (by omega) (by omega) ?_
      exact J518 _ _ _ _ _ _ h hI hS (lv_sub hl [1, 2, 3, 4, 5, 6, 7, 8, 9, 10, 11, 0, 12, 13, 14, 15] rfl)
    clear ek146_
    refine lv_icmp_ge (tgt := 134) hx hb dL_law_127 (by decide) (fun cc => ?_) (fun cc => ?_)
    · replace h := sw_t h cc
      refine lv_iload hx hb dL_law_134 (lv_at hl 1 rfl) ?_
      refine lv_bipush (v := 11) hx hb dL_law_136 (by decide) ?_
      refine lv_icmp_ge (tgt := 145) hx hb dL_law_138 (by decide) (fun cc => ?_) (fun cc => ?_)
      · replace h := sw_t h cc
        refine lv_iconst (v := 2) hx hb dL_law_145 (by decide) ?_
        exact J146 _ _ _ _ h hI hS (lv_sub hl [2, 3, 4, 5, 6, 7, 8, 9, 10, 11, 12, 13, 14, 1, 0] rfl)
      · replace h := sw_f h cc
        refine lv_iconst (v := 1) hx hb dL_law_141 (by decide) ?_
        refine lv_goto (tgt := 146) hx hb dL_law_142 (by decide) ?_
        exact J146 _ _ _ _ h hI hS (lv_sub hl [2, 3, 4, 5, 6, 7, 8, 9, 10, 11, 12, 13, 14, 1, 0] rfl)
    · replace h := sw_f h cc
      refine lv_iconst (v := 0) hx hb dL_law_130 (by decide) ?_
      refine lv_goto (tgt := 146) hx hb dL_law_131 (by decide) ?_
      exact J146 _ _ _ _ h hI hS (lv_sub hl [2, 3, 4, 5, 6, 7, 8, 9, 10, 11, 12, 13, 14, 1, 0] rfl)

end TURN
