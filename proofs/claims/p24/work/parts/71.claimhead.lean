/-! THE CLAIM OUT OF ONE WALK OF THE LAW'S BODY. Your part is whole_start (and what it stands on); all else here is the same for every law, but numbers. -/
def R_law : String := "SlidewardenLaw"
def lw_P (b : Addr) (xs : List Int32) (args : Array Value) (s : State) : Prop := args = #[.ref b] ∧ s.IntsAt b xs ∧ xs.length ≤ 260 ∧ (Jvm.Cond.and given_1 narrow_1).before args s = true
def lw_Q (_ : Array Value) (s : State) (o : Outcome) (t : State) : Prop := o = .returned (some (.int 1)) ∧ Framed s o t [] 703191 6992126
def lw_Z (below : List Frame) (a : Array Value) (s : State) : State → Prop := fun t => ∃ o, t.status = .running ∧ Ended t below o ∧ lw_Q a s o t
/-- the law's own end, with 1 on the stack, nothing written that was there before, its room as the claim has it -/
theorem lw_ret {p : Program} {l : Launch} {e : Env} {s : State} {m : MethodId} {below : List Frame} {meth : Method} {c : Code} {b : Nat} (hx : p.tables.exec = Jvm.exec) (hb : c.code = code) (hr : meth.sig.returnType = ret) (hlocks : meth.locks = false) {pc : Nat} {H : Heap} {ls : Array Slot} (hdg : decode code pc = .ok (.ireturn, 1)) : W p l e room_1 s m #[Value.ref b] below meth c H [] 703191 6992126 (lw_Z below #[Value.ref b] s) (F0 m pc ls [.int 1]) := by
  intro T hT X
  obtain ⟨fs, hret, hrun, hended, hW, hframe⟩ := X.leave (v := some (.int 1)) (hlocks := hlocks) (fun h => by rw [hr] at h; cases h)
  have hmeth' : T.vm.method? m = some meth := X.method'
  refine ⟨T.setFrames fs, ?_, .returned (some (.int 1)), hrun, hended, rfl, ⟨_, rfl⟩, hW, hframe⟩
  jvm_step X.here [X.here.top, hx, hb, hdg, hmeth', hr, ret, narrow_b1]
  (try refine ⟨rfl, ?_⟩); (try refine ⟨rfl, ?_⟩)
  first | (intro acts; rw [hret _ acts rfl rfl rfl]) | rw [hret _ _ rfl rfl rfl]
  exact Steps.refl _
/-- what holds at the law's entry: the machine, the code, the tables' words (any of lw_tbl by 'hts w (by decide +kernel)'), the script of L ints xs at the cell b, what the Statement gives of the start (any of its parts by flat_of_before) -/
def lw_At (p : Program) (s : State) (m : MethodId) (meth : Method) (c : Code) (b L : Nat) (xs : Nat → Int32) : Prop :=
  p.tables.exec = Jvm.exec ∧ c.code = code ∧ meth.sig.returnType = ret ∧ c.maxLocals = 18 ∧ s.vm.findClass R_law = some m.cls ∧ (∀ w ∈ lw_tbl, w.before #[Value.ref b] s = true) ∧ va_X b L xs s s.heap ∧ b < s.heap.size ∧ meth.locks = false ∧ (Jvm.Cond.and given_1 narrow_1).before #[Value.ref b] s = true
theorem lw_strT : ∀ q ∈ swStrs, Cond.stringRef RX5 q.1 q.2 ∈ tables_1 := (List.forall_mem_cons.mpr ⟨List.mem_of_getElem? (i := 274) (by decide +kernel), (List.forall_mem_cons.mpr ⟨List.mem_of_getElem? (i := 481) (by decide +kernel), (List.forall_mem_cons.mpr ⟨List.mem_of_getElem? (i := 482) (by decide +kernel), (List.forall_mem_cons.mpr ⟨List.mem_of_getElem? (i := 483) (by decide +kernel), (List.forall_mem_cons.mpr ⟨List.mem_of_getElem? (i := 499) (by decide +kernel), (List.forall_mem_cons.mpr ⟨List.mem_of_getElem? (i := 558) (by decide +kernel), (List.forall_mem_cons.mpr ⟨List.mem_of_getElem? (i := 571) (by decide +kernel), (List.forall_mem_cons.mpr ⟨List.mem_of_getElem? (i := 288) (by decide +kernel), (List.forall_mem_cons.mpr ⟨List.mem_of_getElem? (i := 349) (by decide +kernel), (List.forall_mem_cons.mpr ⟨List.mem_of_getElem? (i := 358) (by decide +kernel), (List.forall_mem_cons.mpr ⟨List.mem_of_getElem? (i := 405) (by decide +kernel), (List.forall_mem_cons.mpr ⟨List.mem_of_getElem? (i := 588) (by decide +kernel), (List.forall_mem_cons.mpr ⟨List.mem_of_getElem? (i := 589) (by decide +kernel), (List.forall_mem_cons.mpr ⟨List.mem_of_getElem? (i := 590) (by decide +kernel), (List.forall_mem_cons.mpr ⟨List.mem_of_getElem? (i := 436) (by decide +kernel), (List.forall_mem_cons.mpr ⟨List.mem_of_getElem? (i := 437) (by decide +kernel), (List.forall_mem_cons.mpr ⟨List.mem_of_getElem? (i := 438) (by decide +kernel), (List.forall_mem_cons.mpr ⟨List.mem_of_getElem? (i := 443) (by decide +kernel), (List.forall_mem_cons.mpr ⟨List.mem_of_getElem? (i := 194) (by decide +kernel), (List.forall_mem_cons.mpr ⟨List.mem_of_getElem? (i := 230) (by decide +kernel), (List.forall_mem_cons.mpr ⟨List.mem_of_getElem? (i := 267) (by decide +kernel), (List.forall_mem_cons.mpr ⟨List.mem_of_getElem? (i := 283) (by decide +kernel), (List.forall_mem_cons.mpr ⟨List.mem_of_getElem? (i := 435) (by decide +kernel), (List.forall_mem_cons.mpr ⟨List.mem_of_getElem? (i := 498) (by decide +kernel), (List.forall_mem_cons.mpr ⟨List.mem_of_getElem? (i := 430) (by decide +kernel), (List.forall_mem_cons.mpr ⟨List.mem_of_getElem? (i := 287) (by decide +kernel), (List.forall_mem_cons.mpr ⟨List.mem_of_getElem? (i := 410) (by decide +kernel), (List.forall_mem_cons.mpr ⟨List.mem_of_getElem? (i := 494) (by decide +kernel), (fun _ h => absurd h List.not_mem_nil)⟩)⟩)⟩)⟩)⟩)⟩)⟩)⟩)⟩)⟩)⟩)⟩)⟩)⟩)⟩)⟩)⟩)⟩)⟩)⟩)⟩)⟩)⟩)⟩)⟩)⟩)⟩)⟩)
theorem lw_strN : ∀ q ∈ swStrs, Cond.exactly (.string RX5 q.1) "java/lang/String" ∈ flatC (Jvm.Cond.and given_1 narrow_1) := by decide +kernel
set_option maxRecDepth 100000 in
theorem lw_X0 {s : State} {b : Nat} (hts : ∀ w ∈ tables_1, w.before #[Value.ref b] s = true) (hgv : (Jvm.Cond.and given_1 narrow_1).before #[Value.ref b] s = true) : lwX0 s := by
  have hfl := flat_of_before _ hgv
  have hw : ∀ (w : Cond) (i : Nat), tables_1[i]? = some w → w.before #[Value.ref b] s = true := fun w i h => hts w (List.mem_of_getElem? h)
  refine ⟨vx_Zqof (hw (.laysStatic "java/lang/Throwable" "UNASSIGNED_STACK" "[Ljava/lang/StackTraceElement;") 180 (by decide +kernel)) (hw (.initialized "java/lang/Throwable") 6 (by decide +kernel)) (hfl (.isRef (.static "java/lang/Throwable" "UNASSIGNED_STACK" "[Ljava/lang/StackTraceElement;")) (by decide +kernel)) (fun a h => Nat.not_le.mpr h), vx_Zqof (hw (.laysStatic "java/lang/Throwable" "SUPPRESSED_SENTINEL" "Ljava/util/List;") 182 (by decide +kernel)) (hw (.initialized "java/lang/Throwable") 6 (by decide +kernel)) (hfl (.isRef (.static "java/lang/Throwable" "SUPPRESSED_SENTINEL" "Ljava/util/List;")) (by decide +kernel)) (fun a h => Nat.not_le.mpr h), ⟨fun k => ?_, fun Y hY => ?_⟩, fun q hq => ?_⟩
  · match k with
    | 1 => exact va_Nw.of rfl (hw (.castable "java/lang/IndexOutOfBoundsException" "java/lang/IndexOutOfBoundsException") 260 (by decide +kernel))
    | 2 => exact va_Nw.of rfl (hw (.castable "java/lang/IllegalArgumentException" "java/lang/IllegalArgumentException") 155 (by decide +kernel))
    | 0 => exact va_Nw.of rfl (hw (.castable "java/lang/IllegalStateException" "java/lang/IllegalStateException") 223 (by decide +kernel))
    | n + 3 => exact va_Nw.of rfl (hw (.castable "java/lang/IllegalStateException" "java/lang/IllegalStateException") 223 (by decide +kernel))
  · have hY : Y = "java/lang/RuntimeException" ∨ Y = "java/lang/Exception" ∨ Y = "java/lang/Throwable" := by
      have h2 : Y ∈ (["java/lang/RuntimeException", "java/lang/Exception", "java/lang/Throwable"] : List String) := hY
      simpa using h2
    rcases hY with rfl | rfl | rfl
    · exact va_Nw.of rfl (hw (.declares (Bundle.initS "java/lang/RuntimeException")) 157 (by decide +kernel))
    · exact va_Nw.of rfl (hw (.declares (Bundle.initS "java/lang/Exception")) 159 (by decide +kernel))
    · exact va_Nw.of rfl (hw (.declares (Bundle.initS "java/lang/Throwable")) 161 (by decide +kernel))
  · have h1 := hts _ (lw_strT q hq)
    have h2 := hfl _ (lw_strN q hq)
    obtain ⟨a, c, cell, k, e1, -⟩ := Cond.exactly_spec h2
    exact ⟨a, vk_R.of h1 e1⟩
theorem lw_Nc0 {s : State} {b : Nat} (hgv : (Jvm.Cond.and given_1 narrow_1).before #[Value.ref b] s = true) : swNc s := by
  have hfl := flat_of_before _ hgv
  intro j k hj hk hjk
  subst hj
  rcases hk with rfl | rfl
  · exact va_Nc.of (hfl (.not (.castable "java/lang/IndexOutOfBoundsException" "java/lang/IllegalStateException")) (by decide +kernel))
  · exact va_Nc.of (hfl (.not (.castable "java/lang/IllegalArgumentException" "java/lang/IllegalStateException")) (by decide +kernel))
theorem lw_K0 {s : State} {args : Array Value} (hts : ∀ w ∈ tables_1, w.before args s = true) (hts2 : ∀ w ∈ wsL_law, w.before args s = true) : ∃ (D : va_G) (cy : Nat → ClassId), swK D cy s := by
  have hw : ∀ (w : Cond) (i : Nat), tables_1[i]? = some w → w.before args s = true := fun w i h => hts w (List.mem_of_getElem? h)
  obtain ⟨c0, i0, k0⟩ := u_known (C := RX0) (T := TX0) (N := 3) (n := 3) hts2 inlX0 (hw (.instantiable RX0 3) 30 (by decide +kernel))
  obtain ⟨c1, i1, k1⟩ := u_known (C := RX1) (T := TX1) (N := 3) (n := 3) hts2 inlX1 (hw (.instantiable RX1 3) 294 (by decide +kernel))
  obtain ⟨c2, i2, k2⟩ := u_known (C := RX2) (T := TX2) (N := 4) (n := 4) hts2 inlX2 (hw (.instantiable RX2 4) 76 (by decide +kernel))
  obtain ⟨c3, i3, k3⟩ := u_known (C := RX3) (T := TX3) (N := 5) (n := 5) hts2 inlX3 (hw (.instantiable RX3 5) 50 (by decide +kernel))
  obtain ⟨c4, i4, k4⟩ := u_known (C := RX4) (T := TX4) (N := 3) (n := 3) hts2 inlX4 (hw (.instantiable RX4 3) 97 (by decide +kernel))
  obtain ⟨c5, i5, k5⟩ := u_known (C := RX5) (T := TX5) (N := 12) (n := 12) hts2 inlX5 (hw (.instantiable RX5 12) 16 (by decide +kernel))
  obtain ⟨a0, r0⟩ := lw_ra1 (fun C h => by cases h) (hw (.arrayClass .int) 49 (by decide +kernel))
  obtain ⟨a1, r1⟩ := lw_ra1 (fun C h => by cases h) (hw (.arrayClass .int) 49 (by decide +kernel))
  obtain ⟨a2, r2⟩ := lw_ra2 (hw (.arrayOver (.object "Slidewarden$Rule")) 26 (by decide +kernel))
  obtain ⟨a3, r3⟩ := lw_ra2 (hw (.arrayOver (.object "Slidewarden$Version")) 24 (by decide +kernel))
  obtain ⟨a4, r4⟩ := lw_ra2 (hw (.arrayOver (.object "Slidewarden$Waiver")) 28 (by decide +kernel))
  obtain ⟨a5, r5⟩ := lw_ra1 (fun C h => by cases h) (hw (.arrayClass .long) 600 (by decide +kernel))
  refine ⟨(fun k => ([c0, c1, c2, c3, c4, c5] : List ClassId).getD k c0, fun k => ([i0, i1, i2, i3, i4, i5] : List (Nat → Nat)).getD k i0), fun k => ([a0, a1, a2, a3, a4, a5] : List ClassId).getD k a0, fun k q hq => ?_, fun k q hq => ?_⟩
  · match k, hq with
    | 0, hq => cases hq; exact k0
    | 1, hq => cases hq; exact k1
    | 2, hq => cases hq; exact k2
    | 3, hq => cases hq; exact k3
    | 4, hq => cases hq; exact k4
    | 5, hq => cases hq; exact k5
    | n + 6, hq => simp [vwCl] at hq
  · match k, hq with
    | 0, hq => cases hq; exact r0
    | 1, hq => cases hq; exact r1
    | 2, hq => cases hq; exact r2
    | 3, hq => cases hq; exact r3
    | 4, hq => cases hq; exact r4
    | 5, hq => cases hq; exact r5
    | n + 6, hq => simp [swT] at hq
