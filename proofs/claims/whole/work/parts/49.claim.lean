/-! THE CLAIM OUT OF ONE WALK OF THE LAW'S BODY. Your part is whole_start (and what it stands on); all else here is the same for every law, but numbers. -/
def R_law : String := "SlidewardenLaw"
def lw_P (b : Addr) (xs : List Int32) (args : Array Value) (s : State) : Prop := args = #[.ref b] ∧ s.IntsAt b xs ∧ xs.length ≤ 3072 ∧ (Jvm.Cond.and given_1 narrow_1).before args s = true
def lw_Q (_ : Array Value) (s : State) (o : Outcome) (t : State) : Prop := o = .returned (some (.int 1)) ∧ Framed s o t [] 601024 7293034
def lw_Z (below : List Frame) (a : Array Value) (s : State) : State → Prop := fun t => ∃ o, t.status = .running ∧ Ended t below o ∧ lw_Q a s o t
/-- the law's own end, with 1 on the stack, nothing written that was there before, its room as the claim has it -/
theorem lw_ret {p : Program} {l : Launch} {e : Env} {s : State} {m : MethodId} {below : List Frame} {meth : Method} {c : Code} {b : Nat} (hx : p.tables.exec = Jvm.exec) (hb : c.code = code) (hr : meth.sig.returnType = ret) (hlocks : meth.locks = false) {pc : Nat} {H : Heap} {ls : Array Slot} (hdg : decode code pc = .ok (.ireturn, 1)) : W p l e room_1 s m #[Value.ref b] below meth c H [] 601024 7293034 (lw_Z below #[Value.ref b] s) (F0 m pc ls [.int 1]) := by
  intro T hT X
  obtain ⟨fs, hret, hrun, hended, hW, hframe⟩ := X.leave (v := some (.int 1)) (hlocks := hlocks) (fun h => by rw [hr] at h; cases h)
  have hmeth' : T.vm.method? m = some meth := X.method'
  refine ⟨T.setFrames fs, ?_, .returned (some (.int 1)), hrun, hended, rfl, ⟨_, rfl⟩, hW, hframe⟩
  jvm_step X.here [X.here.top, hx, hb, hdg, hmeth', hr, ret, narrow_b1]
  (try refine ⟨rfl, ?_⟩); (try refine ⟨rfl, ?_⟩)
  first | (intro acts; rw [hret _ acts rfl rfl rfl]) | rw [hret _ _ rfl rfl rfl]
  exact Steps.refl _
/-- what holds at the law's entry: the machine, the code, the tables' words (any of lw_tbl by 'hts w (by decide +kernel)'), the script of L ints xs at the cell b, what the Statement gives of the start (any of its parts by flat_of_before) -/
def lw_At (p : Program) (s : State) (m : MethodId) (meth : Method) (c : Code) (b L : Nat) (xs : Nat → Int32) : Prop :=
  p.tables.exec = Jvm.exec ∧ c.code = code ∧ meth.sig.returnType = ret ∧ c.maxLocals = 7 ∧ s.vm.findClass R_law = some m.cls ∧ (∀ w ∈ lw_tbl, w.before #[Value.ref b] s = true) ∧ va_X b L xs s s.heap ∧ b < s.heap.size ∧ meth.locks = false ∧ (Jvm.Cond.and given_1 narrow_1).before #[Value.ref b] s = true
theorem lw_strT : ∀ q ∈ swStrs, Cond.stringRef RX5 q.1 q.2 ∈ tables_1 := (List.forall_mem_cons.mpr ⟨List.mem_of_getElem? (i := 240) (by decide +kernel), (List.forall_mem_cons.mpr ⟨List.mem_of_getElem? (i := 263) (by decide +kernel), (List.forall_mem_cons.mpr ⟨List.mem_of_getElem? (i := 264) (by decide +kernel), (List.forall_mem_cons.mpr ⟨List.mem_of_getElem? (i := 265) (by decide +kernel), (List.forall_mem_cons.mpr ⟨List.mem_of_getElem? (i := 328) (by decide +kernel), (List.forall_mem_cons.mpr ⟨List.mem_of_getElem? (i := 368) (by decide +kernel), (List.forall_mem_cons.mpr ⟨List.mem_of_getElem? (i := 393) (by decide +kernel), (List.forall_mem_cons.mpr ⟨List.mem_of_getElem? (i := 464) (by decide +kernel), (List.forall_mem_cons.mpr ⟨List.mem_of_getElem? (i := 484) (by decide +kernel), (List.forall_mem_cons.mpr ⟨List.mem_of_getElem? (i := 489) (by decide +kernel), (List.forall_mem_cons.mpr ⟨List.mem_of_getElem? (i := 521) (by decide +kernel), (List.forall_mem_cons.mpr ⟨List.mem_of_getElem? (i := 529) (by decide +kernel), (List.forall_mem_cons.mpr ⟨List.mem_of_getElem? (i := 530) (by decide +kernel), (List.forall_mem_cons.mpr ⟨List.mem_of_getElem? (i := 531) (by decide +kernel), (List.forall_mem_cons.mpr ⟨List.mem_of_getElem? (i := 556) (by decide +kernel), (List.forall_mem_cons.mpr ⟨List.mem_of_getElem? (i := 557) (by decide +kernel), (List.forall_mem_cons.mpr ⟨List.mem_of_getElem? (i := 558) (by decide +kernel), (List.forall_mem_cons.mpr ⟨List.mem_of_getElem? (i := 587) (by decide +kernel), (List.forall_mem_cons.mpr ⟨List.mem_of_getElem? (i := 602) (by decide +kernel), (List.forall_mem_cons.mpr ⟨List.mem_of_getElem? (i := 603) (by decide +kernel), (List.forall_mem_cons.mpr ⟨List.mem_of_getElem? (i := 204) (by decide +kernel), (List.forall_mem_cons.mpr ⟨List.mem_of_getElem? (i := 258) (by decide +kernel), (List.forall_mem_cons.mpr ⟨List.mem_of_getElem? (i := 380) (by decide +kernel), (List.forall_mem_cons.mpr ⟨List.mem_of_getElem? (i := 318) (by decide +kernel), (List.forall_mem_cons.mpr ⟨List.mem_of_getElem? (i := 543) (by decide +kernel), (List.forall_mem_cons.mpr ⟨List.mem_of_getElem? (i := 404) (by decide +kernel), (List.forall_mem_cons.mpr ⟨List.mem_of_getElem? (i := 270) (by decide +kernel), (List.forall_mem_cons.mpr ⟨List.mem_of_getElem? (i := 314) (by decide +kernel), (fun _ h => absurd h List.not_mem_nil)⟩)⟩)⟩)⟩)⟩)⟩)⟩)⟩)⟩)⟩)⟩)⟩)⟩)⟩)⟩)⟩)⟩)⟩)⟩)⟩)⟩)⟩)⟩)⟩)⟩)⟩)⟩)⟩)
theorem lw_strN : ∀ q ∈ swStrs, Cond.exactly (.string RX5 q.1) "java/lang/String" ∈ flatC (Jvm.Cond.and given_1 narrow_1) := by decide +kernel
set_option maxRecDepth 100000 in
theorem lw_X0 {s : State} {b : Nat} (hts : ∀ w ∈ tables_1, w.before #[Value.ref b] s = true) (hgv : (Jvm.Cond.and given_1 narrow_1).before #[Value.ref b] s = true) : lwX0 s := by
  have hfl := flat_of_before _ hgv
  have hw : ∀ (w : Cond) (i : Nat), tables_1[i]? = some w → w.before #[Value.ref b] s = true := fun w i h => hts w (List.mem_of_getElem? h)
  refine ⟨vx_Zqof (hw (.laysStatic "java/lang/Throwable" "UNASSIGNED_STACK" "[Ljava/lang/StackTraceElement;") 190 (by decide +kernel)) (hw (.initialized "java/lang/Throwable") 7 (by decide +kernel)) (hfl (.isRef (.static "java/lang/Throwable" "UNASSIGNED_STACK" "[Ljava/lang/StackTraceElement;")) (by decide +kernel)) (fun a h => Nat.not_le.mpr h), vx_Zqof (hw (.laysStatic "java/lang/Throwable" "SUPPRESSED_SENTINEL" "Ljava/util/List;") 192 (by decide +kernel)) (hw (.initialized "java/lang/Throwable") 7 (by decide +kernel)) (hfl (.isRef (.static "java/lang/Throwable" "SUPPRESSED_SENTINEL" "Ljava/util/List;")) (by decide +kernel)) (fun a h => Nat.not_le.mpr h), ⟨fun k => ?_, fun Y hY => ?_⟩, fun q hq => ?_⟩
  · match k with
    | 1 => exact va_Nw.of rfl (hw (.castable "java/lang/IndexOutOfBoundsException" "java/lang/IndexOutOfBoundsException") 165 (by decide +kernel))
    | 2 => exact va_Nw.of rfl (hw (.castable "java/lang/IllegalArgumentException" "java/lang/IllegalArgumentException") 321 (by decide +kernel))
    | 0 => exact va_Nw.of rfl (hw (.castable "java/lang/IllegalStateException" "java/lang/IllegalStateException") 233 (by decide +kernel))
    | n + 3 => exact va_Nw.of rfl (hw (.castable "java/lang/IllegalStateException" "java/lang/IllegalStateException") 233 (by decide +kernel))
  · have hY : Y = "java/lang/RuntimeException" ∨ Y = "java/lang/Exception" ∨ Y = "java/lang/Throwable" := by
      have h2 : Y ∈ (["java/lang/RuntimeException", "java/lang/Exception", "java/lang/Throwable"] : List String) := hY
      simpa using h2
    rcases hY with rfl | rfl | rfl
    · exact va_Nw.of rfl (hw (.declares (Bundle.initS "java/lang/RuntimeException")) 167 (by decide +kernel))
    · exact va_Nw.of rfl (hw (.declares (Bundle.initS "java/lang/Exception")) 169 (by decide +kernel))
    · exact va_Nw.of rfl (hw (.declares (Bundle.initS "java/lang/Throwable")) 171 (by decide +kernel))
  · have h1 := hts _ (lw_strT q hq)
    have h2 := hfl _ (lw_strN q hq)
    obtain ⟨a, c, cell, k, e1, -⟩ := Cond.exactly_spec h2
    exact ⟨a, vk_R.of h1 e1⟩
theorem lw_Nc0 {s : State} {b : Nat} (hgv : (Jvm.Cond.and given_1 narrow_1).before #[Value.ref b] s = true) : swNc s := by
  have hfl := flat_of_before _ hgv
  intro j k hj hk hjk
  rcases hj with rfl | rfl
  · rcases hk with rfl | rfl
    · exact va_Nc.of (hfl (.not (.castable "java/lang/IllegalArgumentException" "java/lang/IndexOutOfBoundsException")) (by decide +kernel))
    · exact va_Nc.of (hfl (.not (.castable "java/lang/IllegalStateException" "java/lang/IndexOutOfBoundsException")) (by decide +kernel))
  · rcases hk with rfl | rfl
    · omega
    · exact va_Nc.of (hfl (.not (.castable "java/lang/IllegalStateException" "java/lang/IllegalArgumentException")) (by decide +kernel))
theorem lw_K0 {s : State} {args : Array Value} (hts : ∀ w ∈ tables_1, w.before args s = true) (hts2 : ∀ w ∈ wsL_law, w.before args s = true) : ∃ (D : va_G) (cy : Nat → ClassId), swK D cy s := by
  have hw : ∀ (w : Cond) (i : Nat), tables_1[i]? = some w → w.before args s = true := fun w i h => hts w (List.mem_of_getElem? h)
  obtain ⟨c0, i0, k0⟩ := u_known (C := RX0) (T := TX0) (N := 3) (n := 3) hts2 inlX0 (hw (.instantiable RX0 3) 31 (by decide +kernel))
  obtain ⟨c1, i1, k1⟩ := u_known (C := RX1) (T := TX1) (N := 3) (n := 3) hts2 inlX1 (hw (.instantiable RX1 3) 421 (by decide +kernel))
  obtain ⟨c2, i2, k2⟩ := u_known (C := RX2) (T := TX2) (N := 4) (n := 4) hts2 inlX2 (hw (.instantiable RX2 4) 77 (by decide +kernel))
  obtain ⟨c3, i3, k3⟩ := u_known (C := RX3) (T := TX3) (N := 5) (n := 5) hts2 inlX3 (hw (.instantiable RX3 5) 51 (by decide +kernel))
  obtain ⟨c4, i4, k4⟩ := u_known (C := RX4) (T := TX4) (N := 3) (n := 3) hts2 inlX4 (hw (.instantiable RX4 3) 98 (by decide +kernel))
  obtain ⟨c5, i5, k5⟩ := u_known (C := RX5) (T := TX5) (N := 12) (n := 12) hts2 inlX5 (hw (.instantiable RX5 12) 17 (by decide +kernel))
  obtain ⟨c6, i6, k6⟩ := u_known (C := RX6) (T := TX6) (N := 28) (n := 28) hts2 inlX6 (hw (.instantiable RX6 28) 605 (by decide +kernel))
  obtain ⟨a0, r0⟩ := lw_ra1 (fun C h => by cases h) (hw (.arrayClass .int) 50 (by decide +kernel))
  obtain ⟨a1, r1⟩ := lw_ra1 (fun C h => by cases h) (hw (.arrayClass .boolean) 695 (by decide +kernel))
  obtain ⟨a2, r2⟩ := lw_ra2 (hw (.arrayOver (.object "Slidewarden$Rule")) 27 (by decide +kernel))
  obtain ⟨a3, r3⟩ := lw_ra2 (hw (.arrayOver (.object "Slidewarden$Version")) 25 (by decide +kernel))
  obtain ⟨a4, r4⟩ := lw_ra2 (hw (.arrayOver (.object "Slidewarden$Waiver")) 29 (by decide +kernel))
  obtain ⟨a5, r5⟩ := lw_ra1 (fun C h => by cases h) (hw (.arrayClass .long) 874 (by decide +kernel))
  refine ⟨(fun k => ([c0, c1, c2, c3, c4, c5, c6] : List ClassId).getD k c0, fun k => ([i0, i1, i2, i3, i4, i5, i6] : List (Nat → Nat)).getD k i0), fun k => ([a0, a1, a2, a3, a4, a5] : List ClassId).getD k a0, fun k q hq => ?_, fun k q hq => ?_⟩
  · match k, hq with
    | 0, hq => cases hq; exact k0
    | 1, hq => cases hq; exact k1
    | 2, hq => cases hq; exact k2
    | 3, hq => cases hq; exact k3
    | 4, hq => cases hq; exact k4
    | 5, hq => cases hq; exact k5
    | 6, hq => cases hq; exact k6
    | n + 7, hq => simp [vwCl] at hq
  · match k, hq with
    | 0, hq => cases hq; exact r0
    | 1, hq => cases hq; exact r1
    | 2, hq => cases hq; exact r2
    | 3, hq => cases hq; exact r3
    | 4, hq => cases hq; exact r4
    | 5, hq => cases hq; exact r5
    | n + 6, hq => simp [swT] at hq
set_option maxHeartbeats 4000000 in
set_option maxRecDepth 100000 in
theorem whole_start {p : Program} {e : Env} {s : State} {m : MethodId} {below : List Frame} {meth : Method} {c : Code} (l : Launch) (hflags : l.flags = flags0) {b L : Nat} {xs : Nat → Int32} (hL : L ≤ 3072) (C0 : lw_At p s m meth c b L xs) : W p l e room_1 s m #[Value.ref b] below meth c s.heap [] 0 0 (lw_Z below #[Value.ref b] s) (entryFrame m ([Value.ref b] : List Value).toArray 7) := by
  obtain ⟨hx, hb, hr, hml, hown, htsA, hX, hbl, hlocks, hgv⟩ := id C0
  have hst : l.stackTraces = false := by
    unfold Launch.stackTraces
    rw [hflags]
    decide +kernel
  have hts0 : ∀ w ∈ tables_1, w.before #[Value.ref b] s = true := fun w h => htsA w (List.mem_append_right _ h)
  have hts : ∀ w ∈ wsL_law, w.before #[Value.ref b] s = true := fun w h => htsA w (wsL_law_in w h)
  have hw : ∀ (w : Cond) (i : Nat), tables_1[i]? = some w → w.before #[Value.ref b] s = true := fun w i h => hts0 w (List.mem_of_getElem? h)
  have E : CallFix p m c cL_law 7 s #[Value.ref b] wsL_law RL := ⟨hx, hb, hml, hown, hts⟩
  obtain ⟨D, cy, hK⟩ := lw_K0 hts0 hts
  have hX0 := lw_X0 hts0 hgv
  have hNc := lw_Nc0 hgv
  have hA : ∀ q : Nat, s.heap.size ≤ q → lwA s q := fun _ h => h
  have ao0 : va_AO "Slidewarden$Version" s := va_AO.of (hw (.arrayOver (.object "Slidewarden$Version")) 25 (by decide +kernel))
  have ao1 : va_AO "Slidewarden$Rule" s := va_AO.of (hw (.arrayOver (.object "Slidewarden$Rule")) 27 (by decide +kernel))
  have ao2 : va_AO "Slidewarden$Waiver" s := va_AO.of (hw (.arrayOver (.object "Slidewarden$Waiver")) 29 (by decide +kernel))
  have nk0 : swNk RX5 36 yX0_init s := va_Nw.of rfl (hw (.methodLinkNest RX5 36 yX0_init "Slidewarden") 32 (by decide +kernel))
  have nk1 : swNk RX5 41 yX3_init s := va_Nw.of rfl (hw (.methodLinkNest RX5 41 yX3_init "Slidewarden") 52 (by decide +kernel))
  have nk2 : swNk RX5 42 yX2_init s := va_Nw.of rfl (hw (.methodLinkNest RX5 42 yX2_init "Slidewarden") 78 (by decide +kernel))
  have nk3 : swNk RX5 43 yX4_init s := va_Nw.of rfl (hw (.methodLinkNest RX5 43 yX4_init "Slidewarden") 99 (by decide +kernel))
  have nk4 : swNk RX3 11 yX0_init s := va_Nw.of rfl (hw (.methodLinkNest RX3 11 yX0_init "Slidewarden") 57 (by decide +kernel))
  have hS : va_S (lwA s) s.heap s.heap [] := va_S.rf
  have hP : va_P D vwCl [] s.heap := fun k q h => by simp at h
  have hD : va_D (lwA s) [] := ⟨fun i j p q h => by simp at h, fun k q h => by simp at h⟩
  obtain ⟨ls, hl, hent⟩ := sw_entry m (args := ([Value.ref b] : List Value).toArray) (vs := [.ref b]) (n := 7) rfl (Nat.le_of_ble_eq_true rfl)
  rw [hent]
  have hl : lv_has ls 7 [(0, .ref b)] := hl
  refine va_new (ci := 5) (fs := [.null, .null, .null, .null, .null, .null, .int 0, .int 0, .int 0, .int 0, .int 0, .int 0]) (C := RX5) (T := TX5) (N := 12) hx hb hts inlX5 tyX5 tyX5_ok hown (hw (.classLink RL 8 RX5) 16 (by decide +kernel)) (hw (.instantiable RX5 12) 17 (by decide +kernel)) (hw (.initialized RX5) 1 (by decide +kernel)) hK hP hD hS hA rfl (fun j hj => by rcases (show j = 0 ∨ j = 1 ∨ j = 2 ∨ j = 3 ∨ j = 4 ∨ j = 5 ∨ j = 6 ∨ j = 7 ∨ j = 8 ∨ j = 9 ∨ j = 10 ∨ j = 11 by omega) with rfl | rfl | rfl | rfl | rfl | rfl | rfl | rfl | rfl | rfl | rfl | rfl <;> rfl) (Nat.le_of_ble_eq_true rfl) (Nat.le_of_ble_eq_true rfl) dL_law_0 (fun g H hP hD hS => ?_)
  have hP : va_P D vwCl [(g, .inr (5, [.null, .null, .null, .null, .null, .null, .int 0, .int 0, .int 0, .int 0, .int 0, .int 0]))] H := hP
  have hgs : s.heap.size ≤ g := hD.2 0 _ rfl
  have hgl : g < H.size := (hP 0 _ rfl).lt
  have hHs : s.heap.size ≤ H.size := hS.1
  refine lv_dup hx hb dL_law_3 rfl ?_
  refine va_callv (va_runI (As := []) (rest := [.ref g]) E (xm5_init l D cy g H.size (fun q => q = g ∨ H.size ≤ q) (Or.inl rfl) (fun q h => Or.inr h) (fun q h => h)) (cwI 0 hts gL_law_X5_init rfl rfl rfl (hw (.initialized RX5) 1 (by decide +kernel)) (hw (.methodLink RL 83 yX5_init) 18 (by decide +kernel)) (hw (.instanceMethod yX5_init) 19 (by decide +kernel)) rfl (by decide +kernel) ⟨Nat.le_of_ble_eq_true rfl, Nat.le_of_ble_eq_true rfl⟩) ⟨fun a U g mk q => by
    obtain ⟨q0, q1, qP, qK, qD, o1, o2, o3, n1, n2, n3, n4, n5⟩ := q
    exact ⟨q0, q1, qP, va_K.moved (u := U) (U := U.calling g mk a) (Vm.Alike.refl U.vm) qK, qD, va_AO.moved (u := U) (U := U.calling g mk a) (Vm.Alike.refl U.vm) o1, va_AO.moved (u := U) (U := U.calling g mk a) (Vm.Alike.refl U.vm) o2, va_AO.moved (u := U) (U := U.calling g mk a) (Vm.Alike.refl U.vm) o3, va_Nw.same (u := U) (U := U.calling g mk a) rfl rfl n1, va_Nw.same (u := U) (U := U.calling g mk a) rfl rfl n2, va_Nw.same (u := U) (U := U.calling g mk a) rfl rfl n3, va_Nw.same (u := U) (U := U.calling g mk a) rfl rfl n4, va_Nw.same (u := U) (U := U.calling g mk a) rfl rfl n5⟩, fun U hU hW => ⟨rfl, by rw [hU], by rw [hU]; exact hP, va_K.moved hW.alike hK, hgl, va_AO.moved hW.alike ao0, va_AO.moved hW.alike ao1, va_AO.moved hW.alike ao2, va_Nw.warmM hW nk0, va_Nw.warmM hW nk1, va_Nw.warmM hW nk2, va_Nw.warmM hW nk3, va_Nw.warmM hW nk4⟩⟩ rfl rfl hl.1 rfl (lv_room (Nat.le_of_ble_eq_true rfl)) dL_law_4 ⟨Nat.le_of_ble_eq_true rfl, Nat.le_of_ble_eq_true rfl⟩) hS (fun q _ h => by
      rcases h with h | h
      · rw [h]
        exact hgs
      · exact Nat.le_trans hHs h) (fun q h => by
      rcases h with h | h
      · rw [h]
        exact hgs
      · exact Nat.le_trans hHs h) (fun z t H1 locs ht _ hw1 hB _ _ hS => ?_)
  obtain ⟨ad, u⟩ := z
  obtain ⟨hcI, hJ, had0, hge⟩ := hw1
  have hB : xwP D cy ad u t.heap := hB
  rw [ht] at hB
  have hcI : swcI u := hcI
  have hJ : swJ xw_N ad := hJ
  have had0 : ad 0 = g := had0
  have hge : ∀ c, xw_N c = true → c ≠ 0 → H.size ≤ ad c := hge
  have hxs : ∀ c, xw_N c = true → s.heap.size ≤ ad c := fun c hc => by
    by_cases h : c = 0
    · rw [h, had0]
      exact hgs
    · exact Nat.le_trans hHs (hge c hc h)
  rw [← had0]
  clear hP hD hge hgl hHs hgs
  have hP : xwP D cy ad u H1 := hB
  refine lv_astore_n (lv' := [(1, .ref (ad 0)), (0, .ref b)]) hx hb dL_law_7 rfl hl (by decide) rfl (fun ls hl => ?_)
  refine sw_newP (ci := 6) (fs := [.int 0, .int 0, .null, .null, .null, .null, .null, .null, .int 0, .int 0, .null, .null, .int 0, .null, .null, .null, .null, .int 0, .null, .null, .null, .int 0, .int 0, .null, .null, .null, .null, .null]) (C := RX6) (T := TX6) (n := 28) hx hb hts inlX6 tyX6 tyX6_ok hown (hw (.classLink RL 84 RX6) 604 (by decide +kernel)) (hw (.instantiable RX6 28) 605 (by decide +kernel)) (hw (.initialized RX6) 6 (by decide +kernel)) hK (B := 441) xw_bound hP hJ (A := lwA s) hxs hS hA rfl (fun j hj => by rcases (show j = 0 ∨ j = 1 ∨ j = 2 ∨ j = 3 ∨ j = 4 ∨ j = 5 ∨ j = 6 ∨ j = 7 ∨ j = 8 ∨ j = 9 ∨ j = 10 ∨ j = 11 ∨ j = 12 ∨ j = 13 ∨ j = 14 ∨ j = 15 ∨ j = 16 ∨ j = 17 ∨ j = 18 ∨ j = 19 ∨ j = 20 ∨ j = 21 ∨ j = 22 ∨ j = 23 ∨ j = 24 ∨ j = 25 ∨ j = 26 ∨ j = 27 by omega) with rfl | rfl | rfl | rfl | rfl | rfl | rfl | rfl | rfl | rfl | rfl | rfl | rfl | rfl | rfl | rfl | rfl | rfl | rfl | rfl | rfl | rfl | rfl | rfl | rfl | rfl | rfl | rfl <;> rfl) (Nat.le_of_ble_eq_true rfl) (Nat.le_of_ble_eq_true rfl) dL_law_8 (fun g2 H hg2 hP hgat hgn hS => ?_)
  have hPc : va_P D vwCl [(g2, .inr (6, [.int 0, .int 0, .null, .null, .null, .null, .null, .null, .int 0, .int 0, .null, .null, .int 0, .null, .null, .null, .null, .int 0, .null, .null, .null, .int 0, .int 0, .null, .null, .null, .null, .null]))] H := fun k q hk => by
    match k, hk with
    | 0, hk => cases hk; exact hgat
  have hgl : g2 < H.size := (hPc 0 _ rfl).lt
  have hHs : s.heap.size ≤ H.size := hS.1
  have hg2 : s.heap.size ≤ g2 := hg2
  have hlt : ∀ c, xw_N c = true → ad c < H.size := fun c hc => (hP c hc).lt
  refine lv_dup hx hb dL_law_11 rfl ?_
  refine va_callv (va_runI (As := []) (rest := [.ref g2]) E (mm_init l D cy g2 H.size (fun q => q = g2 ∨ H.size ≤ q) (Or.inl rfl) (fun q h => Or.inr h) (fun q h => h)) (cwI 0 hts gL_law_X6_init rfl rfl rfl (hw (.initialized RX6) 6 (by decide +kernel)) (hw (.methodLink RL 86 yX6_init) 606 (by decide +kernel)) (hw (.instanceMethod yX6_init) 607 (by decide +kernel)) rfl (by decide +kernel) ⟨Nat.le_of_ble_eq_true rfl, Nat.le_of_ble_eq_true rfl⟩) ⟨fun a U g mk q => by
    obtain ⟨q0, q1, qP, qK, qD⟩ := q
    exact ⟨q0, q1, qP, va_K.moved (u := U) (U := U.calling g mk a) (Vm.Alike.refl U.vm) qK, qD⟩, fun U hU hW => ⟨rfl, by rw [hU], by rw [hU]; exact hPc, va_K.moved hW.alike hK, hgl⟩⟩ rfl rfl hl.1 rfl (lv_room (Nat.le_of_ble_eq_true rfl)) dL_law_12 ⟨Nat.le_of_ble_eq_true rfl, Nat.le_of_ble_eq_true rfl⟩) hS (fun q _ h => by
      rcases h with h | h
      · rw [h]
        exact hg2
      · exact Nat.le_trans hHs h) (fun q h => by
      rcases h with h | h
      · rw [h]
        exact hg2
      · exact Nat.le_trans hHs h) (fun z t H1 locs ht _ hw1 hB _ hk1 hS => ?_)
  obtain ⟨ad', w⟩ := z
  obtain ⟨hmI, hJ', had0', hge'⟩ := hw1
  have hB : mwP D cy ad' w t.heap := hB
  rw [ht] at hB
  have hmI : swmI w := hmI
  have hJ' : swJ mw_N ad' := hJ'
  have had0' : ad' 0 = g2 := had0'
  have hge' : ∀ c, mw_N c = true → c ≠ 0 → H.size ≤ ad' c := hge'
  have hP1 : xwP D cy ad u H1 := hP.kept hk1 (fun c hc h => by
    rcases h with h | h
    · exact hgn c hc h
    · have := hlt c hc
      omega)
  have hms : ∀ d, mw_N d = true → s.heap.size ≤ ad' d := fun d hd => by
    by_cases h : d = 0
    · rw [h, had0']
      exact hg2
    · exact Nat.le_trans hHs (hge' d hd h)
  have hne : ∀ c d, xw_N c = true → mw_N d = true → ad c ≠ ad' d := fun c d hc hd z => by
    by_cases h : d = 0
    · rw [h, had0'] at z
      exact hgn c hc z
    · have h1 := hge' d hd h
      have h2 := hlt c hc
      omega
  rw [← had0']
  clear hP hge' hgl hHs hg2 hPc hgat hgn hlt hk1
  have hP : xwP D cy ad u H1 := hP1
  refine lv_astore_n (lv' := [(2, .ref (ad' 0)), (1, .ref (ad 0)), (0, .ref b)]) hx hb dL_law_15 rfl hl (by decide) rfl (fun ls hl => ?_)
  refine lv_iconst (v := 1) hx hb dL_law_16 (by decide) ?_
  refine va_newaK (N := 1) hx hb (atype := .long) (hw (.arrayClass .long) 874 (by decide +kernel)) rfl dL_law_17 rfl (by decide) (by decide) (Nat.le_of_ble_eq_true rfl) (Nat.le_of_ble_eq_true rfl) (Nat.le_of_ble_eq_true rfl) rfl (fun H2 cA e1 z1 o1 hAr hNm => ?_)
  have ecA : cA = cy 5 := sw_cA (ty := .long) (fun C h => by cases h) hNm (hK.2 5 (cy 5, .long) rfl).2
  subst ecA
  have hO : va_at D vwCl (H1.size, swO cy (fun _ => 0)) H2 := e1
  have hP1 : xwP D cy ad u H2 := fun c hc => (hP c hc).kept (o1 _ (hP c hc).lt)
  have hB1 : mwP D cy ad' w H2 := fun c hc => (hB c hc).kept (o1 _ (hB c hc).lt)
  have ho : ∀ c, xw_N c = true → ad c ≠ H1.size := fun c hc => Nat.ne_of_lt (hP c hc).lt
  have ho' : ∀ d, mw_N d = true → ad' d ≠ H1.size := fun d hd => Nat.ne_of_lt (hB d hd).lt
  have hoS : s.heap.size ≤ H1.size := hS.1
  have hS1 : va_S (lwA s) s.heap H2 locs := ⟨by rw [z1]; exact Nat.le_succ_of_le hoS, fun q h1 h2 => (o1 q (Nat.lt_of_lt_of_le h1 hoS)).trans (hS.2.1 q h1 h2), hS.2.2⟩
  clear e1 z1 o1 hS
  generalize H1.size = o at hO ho ho' hoS ⊢
  have hF : lwF s D cy ad ad' o := ⟨hJ, hJ', ho, ho', hne, hxs, hms, hoS, hK, hNc, hX0⟩
  show W p l e room_1 s m #[Value.ref b] below meth c H2 locs _ _ (lw_Z below #[Value.ref b] s) (F0 m 19 ls [.ref o])
  refine lv_astore_n (lv' := [(3, .ref o), (2, .ref (ad' 0)), (1, .ref (ad 0)), (0, .ref b)]) hx hb dL_law_19 rfl hl (by decide) rfl (fun ls hl => ?_)
  refine lv_iconst (v := 0) hx hb dL_law_20 (by decide) ?_
  refine lv_istore (lv' := lwL b o 0 ad ad') hx hb dL_law_21 hl (by decide) rfl (fun ls hl => ?_)
  refine W.widen (k := 211) (n := 4204) (Nat.le_of_ble_eq_true rfl) (Nat.le_of_ble_eq_true rfl) ?_
  exact lw_loop E hst hF hX hbl hL (fun H locs ls hS => by
    refine lv_iconst (v := 1) hx hb dL_law_1610 (by decide) ?_
    refine va_forget (fun q hq => hS.2.2 q hq) ?_
    exact lw_ret hx hb hr hlocks dL_law_1611) 512 0 (by omega) (by omega) u w _ H2 locs ls ⟨hP1, hB1, hO⟩ (swRl_init hcI hmI) hS1 hl
set_option maxHeartbeats 4000000 in
theorem lw_walk (l : Launch) (hflags : l.flags = flags0) (b : Addr) (xs : List Int32) : MetFree l x (headSpec (Jvm.Cond.code x code maxLocals ret :: tables_1) room_1) (lw_P b xs) (fun _ _ _ _ _ => True) lw_Q := by
  refine MetFree.of_bodyS (code := code) (maxLocals := maxLocals) (ret := ret) (by decide) ?_ ?_
  · intro args s m h hn
    obtain ⟨meth, c, h1, h2, h3, h4, h5, h6, -, -⟩ := Cond.code_spec hn (atoms_spec (ws := Jvm.Cond.code x code maxLocals ret :: tables_1) h _ List.mem_cons_self)
    exact ⟨meth, c, h1, h2, h3, h4, h5, h6⟩
  · intro p e s m args below meth c s₁ B hml0 hP _
    obtain ⟨rfl, hx, hbd, hgv⟩ := hP
    obtain ⟨scr, harrAt, hlist, hof, hsmall⟩ := hx
    obtain ⟨hcb, hkn, -, -⟩ := State.arrayAt?_spec harrAt
    have hown : s.vm.findClass R_law = some m.cls := findClass_of_methodNamed B.named
    have hts0 : ∀ c ∈ (Jvm.Cond.code x code maxLocals ret :: tables_1), c.before #[Value.ref b] s = true := atoms_spec (ws := Jvm.Cond.code x code maxLocals ret :: tables_1) B.pre
    have hts : ∀ w ∈ lw_tbl, w.before #[Value.ref b] s = true := k2_hts_sels lw_privs (fun w hw => hts0 w (List.mem_cons_of_mem _ hw)) lw_privs_ok
    have hml : c.maxLocals = 7 := B.maxLocals_eq (hts0 _ List.mem_cons_self)
    have X₀ : Stand p l e room_1 s m #[Value.ref b] below meth c s₁ [] 0 0 := Stand.of_body B
    have hh0 : s₁.heap = s.heap := by rw [B.state]; rfl
    have hsz : scr.slots.size = xs.length := by rw [← Array.length_toList, hlist, List.length_map]
    have hval : ∀ j : Nat, j < xs.length → scr.slots[j]? = some (.int (xs.getD j 0)) := fun j hj => by
      rw [← Array.getElem?_toList, hlist]
      simp [hj]
    have hbl : b < s.heap.size := (Array.getElem?_eq_some_iff.mp hcb).1
    have hX : va_X b xs.length (fun j => xs.getD j 0) s s.heap := ⟨scr, hcb, hof, hkn, hsz, hval⟩
    have K : W p l e room_1 s m #[Value.ref b] below meth c s₁.heap [] 0 0 (lw_Z below #[Value.ref b] s) (entryFrame m ([Value.ref b] : List Value).toArray 7) := by
      rw [hh0]
      exact whole_start l hflags hbd ⟨B.exec, B.bytes, B.returns, hml, hown, hts, hX, hbl, B.notSynchronized, hgv⟩
    obtain ⟨t, a1, o, b1, b2, b3⟩ := K s₁ rfl X₀
    exact ⟨t, o, a1, b1, b2, b3⟩
theorem lw_pre_spec {args : Array Value} {s : State} (h : (Jvm.Cond.and given_1 narrow_1).before args s = true) (hr : rest_1_c.before args s = true) : ∃ (b : Addr) (xs : List Int32), lw_P b xs args s := by
  have hs := flat_of_before _ h
  have hq := flat_of_before _ hr
  have hc : (Cond.count 1).before args s = true := hs _ (by decide +kernel)
  have harr : (Cond.arrayOf (.arg 0) .int).before args s = true := hs _ (by decide +kernel)
  have hle : (Cond.le (.length (.arg 0)) (.int 3072)).before args s = true := hs _ (by decide +kernel)
  have hlen : (Cond.isInt (.length (.arg 0))).before args s = true := hq _ (by decide +kernel)
  have hall : (Cond.all (.arg 0) (.isInt (.elem (.arg 0) (.index 0)))).before args s = true := hq _ (by decide +kernel)
  obtain ⟨b, xs, hb, hx⟩ := State.ints_of_pre rfl harr hlen hall
  have hsm : xs.length < 2 ^ 31 := hx.choose_spec.2.2.2
  have hev : (Term.length (.arg 0)).eval args s none [] s = some (.int xs.length.toInt32) := hx.length_eval hb
  have hv := Cond.le_ints hev (show (Term.int 3072).eval args s none [] s = some (.int 3072) from rfl)
  have hd : xs.length.toInt32 ≤ 3072 := by
    simpa [Cond.before, Cond.holds, hv] using hle
  have hN : xs.length ≤ 3072 := (Int32.ofNat_le_ofNat hsm (by decide)).mp (show Int32.ofNat xs.length ≤ Int32.ofNat 3072 from hd)
  exact ⟨b, xs, Cond.one_arg hc (show args[0]? = some (.ref b) from hb), hx, hN, h⟩
theorem lw_comes (l : Launch) (hflags : l.flags = flags0) : Comes l x (Jvm.Cond.code x code maxLocals ret :: tables_1) room_1 (fun tb e args s => Calls_1 tb e args s ∧ rest_1 tb e args s ∧ Pre_1 tb e args s)
    (fun _ _ args s o t => lw_Q args s o t) := by
  intro p e ha hc hk s m args below hf hfit hheap happ hpre
  obtain ⟨b, xs, hP⟩ := lw_pre_spec hpre.2.2 hpre.2.1
  obtain ⟨k, o, h1, h2, h3, hQ⟩ := lw_walk l hflags b xs p e ha hc hk s m args below hf ((Spec.applies_iff_loose hf).mp happ).1 hP trivial
  exact ⟨k, o, h1, h2, h3, hQ⟩
theorem lw_frame {s t : State} {o : Outcome} {args : Array Value} (h : Framed s o t [] 601024 7293034) :
    Framed s o t (fieldLocs frame_1_writes args s ++ arrayLocs frame_1_arrays args s ++ staticLocs frame_1_statics s) 601024 7293034 := h
theorem lw_limb (L : Cond) (hL : ∀ (args : Array Value) (s t : State), L.after args s (.returned (some (.int 1))) t = true) :
    ArmFor flags0 classFile x code maxLocals ret World_1 tables_1 room_1 Calls_1 rest_1 Pre_1
      (fun tb e a s o t => postC L tb e a s o t ∧ Framed s o t (fieldLocs frame_1_writes a s ++ arrayLocs frame_1_arrays a s ++ staticLocs frame_1_statics s) 601024 7293034) := by
  intro l hflags _ _ p e ha hc hk s m args below hf hfit hheap happ hpre
  obtain ⟨k, o, h1, h2, h3, rfl, hF⟩ := lw_comes l hflags p e ha hc hk s m args below hf hfit hheap happ hpre
  exact ⟨k, _, h1, h2, h3, hL args s _, lw_frame hF⟩
theorem i_vc : Claimed_1_1 ∧ Claimed_1_2 := ⟨lw_limb limb_1_1 (fun args s t => by simp [limb_1_1, Cond.after, Cond.holds, Cond.value]), lw_limb limb_1_2 (fun args s t => Cond.after_iff.mpr (by
  first | (rw [show limb_1_2 = Cond.eq .result (.int 1) from rfl, Cond.eq_ints (x := 1) (y := 1) rfl rfl]; simp; done) | (simp [limb_1_2, Cond.value, Term.eval]; done)))⟩
