/-! calls: it tells what a call of the class answered, or that it was not possible -/
def swcl (x : Option (Nat × Int32 × swU)) (y : lyU) : Option (Int32 × swU × lyU) := swbd x fun z => match z with
  | (k, r, u2) => if k = 0 then some (r, u2, y) else if k = 3 then some ((-100003), u2, y) else none
def lx_calls (u : swU) (y : lyU) (x1 x2 x3 x4 : Int32) : Option (Int32 × swU × lyU) :=
  if x1 = 0 then swcl (xx5_branch u x2) y else if x1 = 1 then swcl (xx5_merge u x2 x3 x4) y else if x1 = 2 then swcl (xx5_waive u x2 x3 x4) y else swcl (xx5_show u x2) y
abbrev rmL_calls : Room := { frames := 8, cells := 5, slots := 27, locals := 168 }
set_option maxHeartbeats 4000000 in
set_option maxRecDepth 100000 in
theorem lm_calls (l : Launch) (hst : l.stackTraces = false) (D : va_G) (cy : Nat → ClassId) (ad al : Nat → Nat) (hJ : lbJ ad al) (u : swU) (y : lyU) (x1 x2 x3 x4 : Int32) (sz : Nat) (r0 : Int32) (u0 : swU) (y0 : lyU) (h : lx_calls u y x1 x2 x3 x4 = some (r0, u0, y0)) : Met l yL_calls wsL_calls rmL_calls (lbC D cy ad al u y sz [.ref (ad 0), .int x1, .int x2, .int x3, .int x4]) (lbQ D cy ad al sz r0 u0 y0) 5 27 (lbA ad al sz) := by
  refine va_MetW (cc := cL_calls) (maxL := 6) (ret := (some .int)) (hh := [(0, 49, 50, 26)]) (by decide) rfl ?_
  intro p e s m args below meth c s₁ B hml hv
  obtain ⟨ha, hI, hK, hX, hNc, hsz⟩ := hv
  have hx := B.exec
  have hb := B.bytes
  have hr := B.returns
  have hlocks := B.notSynchronized
  have hts := atoms_spec (ws := wsL_calls) B.pre
  have hown : s.vm.findClass RL = some m.cls := findClass_of_methodNamed B.named
  have E : CallFix p m c cL_calls 6 s args wsL_calls RL := ⟨hx, hb, hml, hown, hts⟩
  have htab := vx_table (x := yL_calls) B (hts (.codeWith yL_calls cL_calls 6 (some .int) [(0, 49, 50, 26)]) List.mem_cons_self)
  have k26 : (Cond.classLink RL 26 "java/lang/IllegalStateException").before args s = true := hts _ (by decide +kernel)
  have fc28 : (Cond.constant RL 28 (-100003)).before args s = true := hts _ (by decide +kernel)
  have hS : va_S (lbA ad al sz) s.heap s.heap [] := va_S.rf
  have hF : lbF s (lbA ad al sz) ad al := lbF_of hX hsz
  obtain ⟨ls, hl, hent⟩ := sw_entry m (n := 6) ha (Nat.le_of_ble_eq_true rfl)
  rw [hent]
  have hl : lv_has ls 6 [(0, .ref (ad 0)), (1, .int x1), (2, .int x2), (3, .int x3), (4, .int x4)] := hl
  unfold lx_calls at h
  refine lv_iload_n hx hb dL_calls_0 rfl (lv_at hl 1 rfl) ?_
  refine lv_if_ne (tgt := 12) hx hb dL_calls_1 (by decide) (fun cc => ?_) (fun cc => ?_)
  rotate_left
  · replace h := sw_t h cc
    refine lv_aload_n hx hb dL_calls_4 rfl (lv_at hl 0 rfl) ?_
    refine lv_iload_n hx hb dL_calls_5 rfl (lv_at hl 2 rfl) ?_
    obtain ⟨⟨k, r, u2⟩, ek, h⟩ := swbd_s h
    dsimp only at h
    refine lb_x (As := [.int x2]) (rest := []) E (xm5_branch l hst D cy ad hJ.1 u x2 s.heap.size k r u2 ek) (cwV 1 hts gL_calls_X5_branch rfl rfl rfl (by decide +kernel) ⟨Nat.le_of_ble_eq_true rfl, Nat.le_of_ble_eq_true rfl⟩) hK hJ hF hI hS ⟨Nat.le_of_ble_eq_true rfl, Nat.le_of_ble_eq_true rfl⟩ rfl hl.1 rfl (Nat.le_of_ble_eq_true rfl) dL_calls_6 (fun hk ce q9 H locs hI hS hc hv hcl => ?_) (fun hk H locs hI hS => ?_)
    · replace h := sw_f h hk
      by_cases c3 : k = 3
      · replace h := sw_t h c3
        subst c3
        refine vx_catch (E := swE 3) (name := "java/lang/IllegalStateException") hown [] ⟨0, 49, 50, 26⟩ [] htab (fun z hz => nomatch hz) rfl (by decide) k26 (va_Nw.use rfl (hX.2.2.1.1 3)) hc hv hcl ?_
        refine lv_astore (lv' := [(5, .ref q9), (0, .ref (ad 0)), (1, .int x1), (2, .int x2), (3, .int x3), (4, .int x4)]) hx hb dL_calls_50 hl (by decide) rfl (fun ls hl => ?_)
        refine lv_ldc (v := (-100003)) hx hb hown fc28 dL_calls_52 ?_
        refine W.widen (k := 5) (n := 27) (Nat.le_of_ble_eq_true rfl) (Nat.le_of_ble_eq_true rfl) ?_
        exact W.iret hx hb hr (fun t ht hW => ⟨⟨_, (), rfl, (sw_inj3 h).1, lb_end hI ht (sw_inj3 h).2.1 (sw_inj3 h).2.2⟩, hS.F ht⟩) hS.2.2 dL_calls_54 hlocks
      · replace h := sw_f h c3
        cases h
    · replace h := sw_t h hk
      refine lv_goto (tgt := 49) hx hb dL_calls_9 (by decide) ?_
      refine W.widen (k := 5) (n := 27) (Nat.le_of_ble_eq_true rfl) (Nat.le_of_ble_eq_true rfl) ?_
      exact W.iret hx hb hr (fun t ht hW => ⟨⟨_, (), rfl, (sw_inj3 h).1, lb_end hI ht (sw_inj3 h).2.1 (sw_inj3 h).2.2⟩, hS.F ht⟩) hS.2.2 dL_calls_49 hlocks
  replace h := sw_f h cc
  refine lv_iload_n hx hb dL_calls_12 rfl (lv_at hl 1 rfl) ?_
  refine lv_iconst (v := 1) hx hb dL_calls_13 (by decide) ?_
  refine lv_icmp_ne (tgt := 28) hx hb dL_calls_14 (by decide) (fun cc => ?_) (fun cc => ?_)
  rotate_left
  · replace h := sw_t h cc
    refine lv_aload_n hx hb dL_calls_17 rfl (lv_at hl 0 rfl) ?_
    refine lv_iload_n hx hb dL_calls_18 rfl (lv_at hl 2 rfl) ?_
    refine lv_iload_n hx hb dL_calls_19 rfl (lv_at hl 3 rfl) ?_
    refine lv_iload hx hb dL_calls_20 (lv_at hl 4 rfl) ?_
    obtain ⟨⟨k, r, u2⟩, ek, h⟩ := swbd_s h
    dsimp only at h
    refine lb_x (As := [.int x2, .int x3, .int x4]) (rest := []) E (xm5_merge l hst D cy ad hJ.1 u x2 x3 x4 s.heap.size k r u2 ek) (cwV 3 hts gL_calls_X5_merge rfl rfl rfl (by decide +kernel) ⟨Nat.le_of_ble_eq_true rfl, Nat.le_of_ble_eq_true rfl⟩) hK hJ hF hI hS ⟨Nat.le_of_ble_eq_true rfl, Nat.le_of_ble_eq_true rfl⟩ rfl hl.1 rfl (Nat.le_of_ble_eq_true rfl) dL_calls_22 (fun hk ce q9 H locs hI hS hc hv hcl => ?_) (fun hk H locs hI hS => ?_)
    · replace h := sw_f h hk
      by_cases c3 : k = 3
      · replace h := sw_t h c3
        subst c3
        refine vx_catch (E := swE 3) (name := "java/lang/IllegalStateException") hown [] ⟨0, 49, 50, 26⟩ [] htab (fun z hz => nomatch hz) rfl (by decide) k26 (va_Nw.use rfl (hX.2.2.1.1 3)) hc hv hcl ?_
        refine lv_astore (lv' := [(5, .ref q9), (0, .ref (ad 0)), (1, .int x1), (2, .int x2), (3, .int x3), (4, .int x4)]) hx hb dL_calls_50 hl (by decide) rfl (fun ls hl => ?_)
        refine lv_ldc (v := (-100003)) hx hb hown fc28 dL_calls_52 ?_
        refine W.widen (k := 5) (n := 27) (Nat.le_of_ble_eq_true rfl) (Nat.le_of_ble_eq_true rfl) ?_
        exact W.iret hx hb hr (fun t ht hW => ⟨⟨_, (), rfl, (sw_inj3 h).1, lb_end hI ht (sw_inj3 h).2.1 (sw_inj3 h).2.2⟩, hS.F ht⟩) hS.2.2 dL_calls_54 hlocks
      · replace h := sw_f h c3
        cases h
    · replace h := sw_t h hk
      refine lv_goto (tgt := 49) hx hb dL_calls_25 (by decide) ?_
      refine W.widen (k := 5) (n := 27) (Nat.le_of_ble_eq_true rfl) (Nat.le_of_ble_eq_true rfl) ?_
      exact W.iret hx hb hr (fun t ht hW => ⟨⟨_, (), rfl, (sw_inj3 h).1, lb_end hI ht (sw_inj3 h).2.1 (sw_inj3 h).2.2⟩, hS.F ht⟩) hS.2.2 dL_calls_49 hlocks
  replace h := sw_f h cc
  refine lv_iload_n hx hb dL_calls_28 rfl (lv_at hl 1 rfl) ?_
  refine lv_iconst (v := 2) hx hb dL_calls_29 (by decide) ?_
  refine lv_icmp_ne (tgt := 44) hx hb dL_calls_30 (by decide) (fun cc => ?_) (fun cc => ?_)
  rotate_left
  · replace h := sw_t h cc
    refine lv_aload_n hx hb dL_calls_33 rfl (lv_at hl 0 rfl) ?_
    refine lv_iload_n hx hb dL_calls_34 rfl (lv_at hl 2 rfl) ?_
    refine lv_iload_n hx hb dL_calls_35 rfl (lv_at hl 3 rfl) ?_
    refine lv_iload hx hb dL_calls_36 (lv_at hl 4 rfl) ?_
    obtain ⟨⟨k, r, u2⟩, ek, h⟩ := swbd_s h
    dsimp only at h
    refine lb_x (As := [.int x2, .int x3, .int x4]) (rest := []) E (xm5_waive l hst D cy ad hJ.1 u x2 x3 x4 s.heap.size k r u2 ek) (cwV 3 hts gL_calls_X5_waive rfl rfl rfl (by decide +kernel) ⟨Nat.le_of_ble_eq_true rfl, Nat.le_of_ble_eq_true rfl⟩) hK hJ hF hI hS ⟨Nat.le_of_ble_eq_true rfl, Nat.le_of_ble_eq_true rfl⟩ rfl hl.1 rfl (Nat.le_of_ble_eq_true rfl) dL_calls_38 (fun hk ce q9 H locs hI hS hc hv hcl => ?_) (fun hk H locs hI hS => ?_)
    · replace h := sw_f h hk
      by_cases c3 : k = 3
      · replace h := sw_t h c3
        subst c3
        refine vx_catch (E := swE 3) (name := "java/lang/IllegalStateException") hown [] ⟨0, 49, 50, 26⟩ [] htab (fun z hz => nomatch hz) rfl (by decide) k26 (va_Nw.use rfl (hX.2.2.1.1 3)) hc hv hcl ?_
        refine lv_astore (lv' := [(5, .ref q9), (0, .ref (ad 0)), (1, .int x1), (2, .int x2), (3, .int x3), (4, .int x4)]) hx hb dL_calls_50 hl (by decide) rfl (fun ls hl => ?_)
        refine lv_ldc (v := (-100003)) hx hb hown fc28 dL_calls_52 ?_
        refine W.widen (k := 5) (n := 27) (Nat.le_of_ble_eq_true rfl) (Nat.le_of_ble_eq_true rfl) ?_
        exact W.iret hx hb hr (fun t ht hW => ⟨⟨_, (), rfl, (sw_inj3 h).1, lb_end hI ht (sw_inj3 h).2.1 (sw_inj3 h).2.2⟩, hS.F ht⟩) hS.2.2 dL_calls_54 hlocks
      · replace h := sw_f h c3
        cases h
    · replace h := sw_t h hk
      refine lv_goto (tgt := 49) hx hb dL_calls_41 (by decide) ?_
      refine W.widen (k := 5) (n := 27) (Nat.le_of_ble_eq_true rfl) (Nat.le_of_ble_eq_true rfl) ?_
      exact W.iret hx hb hr (fun t ht hW => ⟨⟨_, (), rfl, (sw_inj3 h).1, lb_end hI ht (sw_inj3 h).2.1 (sw_inj3 h).2.2⟩, hS.F ht⟩) hS.2.2 dL_calls_49 hlocks
  replace h := sw_f h cc
  refine lv_aload_n hx hb dL_calls_44 rfl (lv_at hl 0 rfl) ?_
  refine lv_iload_n hx hb dL_calls_45 rfl (lv_at hl 2 rfl) ?_
  obtain ⟨⟨k, r, u2⟩, ek, h⟩ := swbd_s h
  dsimp only at h
  refine lb_x (As := [.int x2]) (rest := []) E (xm5_show l hst D cy ad hJ.1 u x2 s.heap.size k r u2 ek) (cwV 1 hts gL_calls_X5_show rfl rfl rfl (by decide +kernel) ⟨Nat.le_of_ble_eq_true rfl, Nat.le_of_ble_eq_true rfl⟩) hK hJ hF hI hS ⟨Nat.le_of_ble_eq_true rfl, Nat.le_of_ble_eq_true rfl⟩ rfl hl.1 rfl (Nat.le_of_ble_eq_true rfl) dL_calls_46 (fun hk ce q9 H locs hI hS hc hv hcl => ?_) (fun hk H locs hI hS => ?_)
  · replace h := sw_f h hk
    by_cases c3 : k = 3
    · replace h := sw_t h c3
      subst c3
      refine vx_catch (E := swE 3) (name := "java/lang/IllegalStateException") hown [] ⟨0, 49, 50, 26⟩ [] htab (fun z hz => nomatch hz) rfl (by decide) k26 (va_Nw.use rfl (hX.2.2.1.1 3)) hc hv hcl ?_
      refine lv_astore (lv' := [(5, .ref q9), (0, .ref (ad 0)), (1, .int x1), (2, .int x2), (3, .int x3), (4, .int x4)]) hx hb dL_calls_50 hl (by decide) rfl (fun ls hl => ?_)
      refine lv_ldc (v := (-100003)) hx hb hown fc28 dL_calls_52 ?_
      refine W.widen (k := 5) (n := 27) (Nat.le_of_ble_eq_true rfl) (Nat.le_of_ble_eq_true rfl) ?_
      exact W.iret hx hb hr (fun t ht hW => ⟨⟨_, (), rfl, (sw_inj3 h).1, lb_end hI ht (sw_inj3 h).2.1 (sw_inj3 h).2.2⟩, hS.F ht⟩) hS.2.2 dL_calls_54 hlocks
    · replace h := sw_f h c3
      cases h
  · replace h := sw_t h hk
    refine W.widen (k := 5) (n := 27) (Nat.le_of_ble_eq_true rfl) (Nat.le_of_ble_eq_true rfl) ?_
    exact W.iret hx hb hr (fun t ht hW => ⟨⟨_, (), rfl, (sw_inj3 h).1, lb_end hI ht (sw_inj3 h).2.1 (sw_inj3 h).2.2⟩, hS.F ht⟩) hS.2.2 dL_calls_49 hlocks
