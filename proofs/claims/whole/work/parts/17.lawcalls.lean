/-! the law's own small methods: each calls one method of the class and tells what it threw -/
def swO (cy : Nat → ClassId) (f : Nat → Int64) : va_E := .inl (cy 5, 1, .inr (.inl f))
def swNc (U : State) : Prop := ∀ j k : Nat, j = 1 ∨ j = 2 → k = 2 ∨ k = 3 → j < k → va_Nc (swE k) (swE j) U
def xlC (D : va_G) (cy : Nat → ClassId) (ad : Nat → Nat) (u : swU) (sz o : Nat) (f : Nat → Int64) (av : List Value) : Array Value → State → Prop := va_Pc av (fun U => xwP D cy ad u U.heap ∧ swK D cy U ∧ swX ad U ∧ swNc U ∧ U.heap.size = sz ∧ va_at D vwCl (o, swO cy f) U.heap)
def xlA (ad : Nat → Nat) (sz o : Nat) : Nat → Prop := fun q => xwA ad sz q ∨ q = o
def xlQ (D : va_G) (cy : Nat → ClassId) (ad : Nat → Nat) (sz o : Nat) (r0 : Int32) (f0 : Nat → Int64) (u0 : swU) : Array Value → State → Outcome → State → Prop := va_Qi (fun (r : Int32) (_ : Unit) => r = r0) (fun _ t => xwP D cy ad u0 t.heap ∧ va_at D vwCl (o, swO cy f0) t.heap) (xlA ad sz o)
theorem xlC_blind {D : va_G} {cy : Nat → ClassId} {ad : Nat → Nat} {u : swU} {sz o : Nat} {f : Nat → Int64} {av : List Value} : FrameBlind (xlC D cy ad u sz o f av) := fun a U g mk q => ⟨q.1, q.2.1, va_K.moved (u := U) (U := U.calling g mk a) (Vm.Alike.refl U.vm) q.2.2.1, q.2.2.2.1.blind, fun j k h1 h2 h3 => (q.2.2.2.2.1 j k h1 h2 h3).moved (Vm.Alike.refl U.vm), q.2.2.2.2.2.1, q.2.2.2.2.2.2⟩
theorem xl_end {D : va_G} {cy : Nat → ClassId} {ad : Nat → Nat} {u u0 : swU} {o : Nat} {f f0 : Nat → Int64} {H : Heap} {t : State} (h : xwP D cy ad u H) (hO : va_at D vwCl (o, swO cy f) H) (ht : t.heap = H) (e : u = u0) (e2 : f = f0) : xwP D cy ad u0 t.heap ∧ va_at D vwCl (o, swO cy f0) t.heap := by
  rw [ht, ← e, ← e2]
  exact ⟨h, hO⟩
section XL
variable {p : Program} {l : Launch} {e : Env} {R : Room} {s : State} {m : MethodId} {args : Array Value} {below : List Frame} {meth : Method} {c : Code} {H : Heap} {locs : List Loc} {cells slots : Nat} {Q : State → Prop}
variable {cc : ByteArray} {pc : Nat} {ls : Array Slot} {rest : List Value} {D : va_G} {cy : Nat → ClassId} {ad : Nat → Nat} {u u2 : swU} {A : Nat → Prop} {sz o : Nat} {f : Nat → Int64}
variable {nL index n maxL mc ms : Nat} {Ts ws : List Cond} {own : String} {y : MethodName} {bytes : ByteArray} {ret : Option FieldType} {rm : Room} {As st : List Value}
theorem xl_call {k0 : Nat} {r0 : Int32} (E : CallFix p m c cc nL s args Ts own) (hM : vx_Met l y ws rm (xwCX D cy ad u sz (.ref (ad 0) :: As)) (xwPi D cy ad sz k0 r0 u2) (xwPx D cy ad sz k0 u2) mc ms (xwA ad sz)) (cw : CallW R s args own RX5 index y bytes maxL ret ws rm mc ms n) (hK : swK D cy s) (hP : xwP D cy ad u s.heap) (hX : swX ad s) (hO : va_at D vwCl (o, swO cy f) s.heap) (ho : ∀ c, xw_N c = true → ad c ≠ o) (hsz : s.heap.size = sz) (hcs : 0 + mc ≤ R.cells ∧ 0 + ms ≤ R.slots) (hn : As.length = n) (hsize : ls.size = nL) (hst : st = As.reverse ++ .ref (ad 0) :: rest) (hroom : (rest.map fun v => v.category).sum ≤ 8) (hdg : decode cc pc = .ok (.invokevirtual index, 3))
    (kx : k0 ≠ 0 → ∀ (ce : Cell) (q9 : Addr) (H1 : Heap) (locs1 : List Loc), xwP D cy ad u2 H1 → va_at D vwCl (o, swO cy f) H1 → va_S (xlA ad sz o) s.heap H1 locs1 → H1[q9]? = some ce → ce.vm = .none → s.vm.findClass (swE k0) = some ce.cls → vx_W p l e R s m args below meth c H1 locs1 (0 + mc) (0 + ms) Q (F0 m pc ls rest) q9)
    (kk : k0 = 0 → ∀ (H1 : Heap) (locs1 : List Loc), xwP D cy ad u2 H1 → va_at D vwCl (o, swO cy f) H1 → va_S (xlA ad sz o) s.heap H1 locs1 → W p l e R s m args below meth c H1 locs1 (0 + mc) (0 + ms) Q (F0 m (pc + 3) ls (.int r0 :: rest))) : W p l e R s m args below meth c s.heap [] 0 0 Q (F0 m pc ls st) := by
  have hno : ¬ xwA ad sz o := by
    intro z
    rcases z with ⟨c, hc, e⟩ | z
    · exact ho c hc e.symm
    · have h9 : o < s.heap.size := hO.lt
      omega
  refine vx_calli (A0 := xlA ad sz o) (vx_runV E hM cw ⟨xwCX_blind, xw_rO hK hP, fun U hU hW => ⟨rfl, by rw [hU]; exact hP, va_K.moved hW.alike hK, hX.moved hW (fun q _ _ => by rw [hU]), by rw [hU]; exact hsz⟩⟩ rfl hn hsize hst (lv_room hroom) hdg hcs) va_S.rf (fun _ _ h => Or.inl h) (fun _ h => Or.inl h) (fun _ _ h => Or.inl h) (fun E1 ce q9 _ t H1 locs1 ht _ hk hB hz hkk hS1 hc hv hcl => ?_) (fun r _ t H1 locs1 ht _ hk hB hz hkk hS1 => ?_)
  · obtain ⟨e1, e2⟩ := hB
    subst e1
    rw [ht] at e2
    exact kx hk ce q9 H1 locs1 e2 (hO.kept (hkk o hO.lt hno)) hS1 hc hv hcl
  · have e2 : xwP D cy ad u2 t.heap := hB
    rw [ht] at e2
    rw [hk.2]
    exact kk hk.1 H1 locs1 e2 (hO.kept (hkk o hO.lt hno)) hS1
theorem xl_last (hexec : p.tables.exec = Jvm.exec) (hb : c.code = cc) (hK : swK D cy s) (hP : xwP D cy ad u H) (hO : va_at D vwCl (o, swO cy f) H) (ho : ∀ c, xw_N c = true → ad c ≠ o) (hS : va_S (xlA ad sz o) s.heap H locs) {x : Int64} (hdg : decode cc pc = .ok (.lastore, 1))
    (kk : ∀ (H1 : Heap) (locs1 : List Loc), xwP D cy ad u H1 → va_at D vwCl (o, swO cy (vp_updL f 0 x)) H1 → va_S (xlA ad sz o) s.heap H1 locs1 → W p l e R s m args below meth c H1 locs1 cells slots Q (F0 m (pc + 1) ls rest)) : W p l e R s m args below meth c H locs cells slots Q (F0 m pc ls (.long x :: .int 0 :: .ref o :: rest)) := by
  refine W.last hexec hb (show H[o]? = some (vp_cell (cy 5) (1, .inr (.inl f))) from hO) ((hK.2 5 (cy 5, .long) rfl).1 1 (fun j => .long (f j))) (fun q => by cases q) (by show ¬ ((0 : Int32) < 0 ∨ (arrV _ _ _).slots.size ≤ _); rw [arrV_size]; exact (by decide : ¬ ((0 : Int32) < 0 ∨ 1 ≤ (0 : Int32).toNatClampNeg))) rfl rfl hdg fun H1 e1 z oq => ?_
  refine kk H1 _ (hP.kept (A := fun q => q = o) (fun q _ h => oq q h) (fun c hc h => ho c hc h)) ?_ (hS.put z oq (Or.inr rfl))
  show H1[o]? = some (vp_cell _ _)
  rw [e1]
  rw [vp_cell_l, vp_cell_l, arrV_store]
  congr 2
  funext q
  by_cases hq : q = 0
  · subst hq
    rfl
  · have h2 : ¬ q = (0 : Int32).toNatClampNeg := hq
    simp [updV, vp_updL, hq, h2]
end XL
def xl_branch (u : swU) (x1 : Int32) (f : Nat → Int64) : Option (Int32 × (Nat → Int64) × swU) :=
  swbd (xx5_branch u x1) fun z => match z with | (k, r, u2) => if k = 0 then some (0, vp_updL f 0 r.toInt64, u2) else if k = 1 then some (1, f, u2) else if k = 3 then some (2, f, u2) else none

abbrev rmL_branch : Room := { frames := 8, cells := 2, slots := 12, locals := 133 }

set_option maxHeartbeats 4000000 in
set_option maxRecDepth 100000 in
theorem xlm_branch (l : Launch) (hst : l.stackTraces = false) (D : va_G) (cy : Nat → ClassId) (ad : Nat → Nat) (hJ : swJ xw_N ad) (o : Nat) (ho : ∀ c, xw_N c = true → ad c ≠ o) (u : swU) (x1 : Int32) (f : Nat → Int64) (sz : Nat) (r0 : Int32) (f0 : Nat → Int64) (u0 : swU) (h : xl_branch u x1 f = some (r0, f0, u0)) : Met l yL_branch wsL_branch rmL_branch (xlC D cy ad u sz o f [.ref (ad 0), .int x1, .ref o]) (xlQ D cy ad sz o r0 f0 u0) 2 12 (xlA ad sz o) := by
  refine va_MetW (cc := cL_branch) (maxL := 4) (ret := (some .int)) (hh := [(0, 9, 12, 13), (0, 9, 15, 15)]) (by decide) rfl ?_
  intro p e s m args below meth c s₁ B hml hv
  obtain ⟨ha, hP, hK, hX, hNc, hsz, hO⟩ := hv
  have hx := B.exec
  have hb := B.bytes
  have hr := B.returns
  have hlocks := B.notSynchronized
  have hts := atoms_spec (ws := wsL_branch) B.pre
  have hown : s.vm.findClass RL = some m.cls := findClass_of_methodNamed B.named
  have E : CallFix p m c cL_branch 4 s args wsL_branch RL := ⟨hx, hb, hml, hown, hts⟩
  have htab := vx_table (x := yL_branch) B (hts (.codeWith yL_branch cL_branch 4 (some .int) [(0, 9, 12, 13), (0, 9, 15, 15)]) List.mem_cons_self)
  have k13 : (Cond.classLink RL 13 "java/lang/IndexOutOfBoundsException").before args s = true := hts _ (by decide +kernel)
  have k15 : (Cond.classLink RL 15 "java/lang/IllegalStateException").before args s = true := hts _ (by decide +kernel)
  obtain ⟨ls, hl, hent⟩ := sw_entry m (n := 4) ha (Nat.le_of_ble_eq_true rfl)
  rw [hent]
  have hl : lv_has ls 4 [(0, .ref (ad 0)), (1, .int x1), (2, .ref o)] := hl
  unfold xl_branch at h
  obtain ⟨⟨k, r, u2⟩, ek, h⟩ := swbd_s h
  dsimp only at h
  refine lv_aload_n hx hb dL_branch_0 rfl (lv_at hl 2 rfl) ?_
  refine lv_iconst (v := 0) hx hb dL_branch_1 (by decide) ?_
  refine lv_aload_n hx hb dL_branch_2 rfl (lv_at hl 0 rfl) ?_
  refine lv_iload_n hx hb dL_branch_3 rfl (lv_at hl 1 rfl) ?_
  refine xl_call (As := [.int x1]) (rest := [.int 0, .ref o]) E (xm5_branch l hst D cy ad hJ u x1 sz k r u2 ek) (cwV 1 hts gL_branch_X5_branch rfl rfl rfl (by decide +kernel) ⟨Nat.le_of_ble_eq_true rfl, Nat.le_of_ble_eq_true rfl⟩) hK hP hX hO ho hsz ⟨Nat.le_of_ble_eq_true rfl, Nat.le_of_ble_eq_true rfl⟩ rfl hl.1 rfl (Nat.le_of_ble_eq_true rfl) dL_branch_4 (fun hk ce q9 H locs hP hO hS hc hv hcl => ?_) (fun hk H locs hP hO hS => ?_)
  · replace h := sw_f h hk
    by_cases c1 : k = 1
    · replace h := sw_t h c1
      subst c1
      refine vx_catch (E := swE 1) (name := "java/lang/IndexOutOfBoundsException") hown [] ⟨0, 9, 12, 13⟩ [⟨0, 9, 15, 15⟩] htab (fun z hz => nomatch hz) rfl (by decide) k13 (va_Nw.use rfl (hX.2.2.1.1 1)) hc hv hcl ?_
      refine lv_astore_n (lv' := [(3, .ref q9), (0, .ref (ad 0)), (1, .int x1), (2, .ref o)]) hx hb dL_branch_12 rfl hl (by decide) rfl (fun ls hl => ?_)
      refine lv_iconst (v := 1) hx hb dL_branch_13 (by decide) ?_
      refine W.widen (k := 2) (n := 12) (Nat.le_of_ble_eq_true rfl) (Nat.le_of_ble_eq_true rfl) ?_
      exact W.iret hx hb hr (fun t ht hW => ⟨⟨_, (), rfl, (sw_inj3 h).1, xl_end hP hO ht (sw_inj3 h).2.2 (sw_inj3 h).2.1⟩, hS.F ht⟩) hS.2.2 dL_branch_14 hlocks
    · replace h := sw_f h c1
      by_cases c3 : k = 3
      · replace h := sw_t h c3
        subst c3
        refine vx_catch (E := swE 3) (name := "java/lang/IllegalStateException") hown [⟨0, 9, 12, 13⟩] ⟨0, 9, 15, 15⟩ [] htab (fun z hz => by
          cases List.mem_singleton.mp hz
          exact Or.inr ⟨by decide, _, k13, hNc 1 3 (by decide) (by decide) (by decide)⟩) rfl (by decide) k15 (va_Nw.use rfl (hX.2.2.1.1 3)) hc hv hcl ?_
        refine lv_astore_n (lv' := [(3, .ref q9), (0, .ref (ad 0)), (1, .int x1), (2, .ref o)]) hx hb dL_branch_15 rfl hl (by decide) rfl (fun ls hl => ?_)
        refine lv_iconst (v := 2) hx hb dL_branch_16 (by decide) ?_
        refine W.widen (k := 2) (n := 12) (Nat.le_of_ble_eq_true rfl) (Nat.le_of_ble_eq_true rfl) ?_
        exact W.iret hx hb hr (fun t ht hW => ⟨⟨_, (), rfl, (sw_inj3 h).1, xl_end hP hO ht (sw_inj3 h).2.2 (sw_inj3 h).2.1⟩, hS.F ht⟩) hS.2.2 dL_branch_17 hlocks
      · replace h := sw_f h c3
        cases h
  · replace h := sw_t h hk
    refine lv_i2l hx hb dL_branch_7 rfl ?_
    refine xl_last hx hb hK hP hO ho hS dL_branch_8 (fun H locs hP hO hS => ?_)
    refine lv_goto (tgt := 18) hx hb dL_branch_9 (by decide) ?_
    refine lv_iconst (v := 0) hx hb dL_branch_18 (by decide) ?_
    refine W.widen (k := 2) (n := 12) (Nat.le_of_ble_eq_true rfl) (Nat.le_of_ble_eq_true rfl) ?_
    exact W.iret hx hb hr (fun t ht hW => ⟨⟨_, (), rfl, (sw_inj3 h).1, xl_end hP hO ht (sw_inj3 h).2.2 (sw_inj3 h).2.1⟩, hS.F ht⟩) hS.2.2 dL_branch_19 hlocks

def xl_add (u : swU) (x1 : Int32) (x2 : Int32) (f : Nat → Int64) : Option (Int32 × (Nat → Int64) × swU) :=
  swbd (xx5_add u x1 x2) fun z => match z with | (k, r, u2) => if k = 0 then some (0, vp_updL f 0 r.toInt64, u2) else if k = 1 then some (1, f, u2) else if k = 3 then some (2, f, u2) else none

abbrev rmL_add : Room := { frames := 8, cells := 2, slots := 12, locals := 135 }

set_option maxHeartbeats 4000000 in
set_option maxRecDepth 100000 in
theorem xlm_add (l : Launch) (hst : l.stackTraces = false) (D : va_G) (cy : Nat → ClassId) (ad : Nat → Nat) (hJ : swJ xw_N ad) (o : Nat) (ho : ∀ c, xw_N c = true → ad c ≠ o) (u : swU) (x1 : Int32) (x2 : Int32) (f : Nat → Int64) (sz : Nat) (r0 : Int32) (f0 : Nat → Int64) (u0 : swU) (h : xl_add u x1 x2 f = some (r0, f0, u0)) : Met l yL_add wsL_add rmL_add (xlC D cy ad u sz o f [.ref (ad 0), .int x1, .int x2, .ref o]) (xlQ D cy ad sz o r0 f0 u0) 2 12 (xlA ad sz o) := by
  refine va_MetW (cc := cL_add) (maxL := 5) (ret := (some .int)) (hh := [(0, 10, 13, 13), (0, 10, 17, 15)]) (by decide) rfl ?_
  intro p e s m args below meth c s₁ B hml hv
  obtain ⟨ha, hP, hK, hX, hNc, hsz, hO⟩ := hv
  have hx := B.exec
  have hb := B.bytes
  have hr := B.returns
  have hlocks := B.notSynchronized
  have hts := atoms_spec (ws := wsL_add) B.pre
  have hown : s.vm.findClass RL = some m.cls := findClass_of_methodNamed B.named
  have E : CallFix p m c cL_add 5 s args wsL_add RL := ⟨hx, hb, hml, hown, hts⟩
  have htab := vx_table (x := yL_add) B (hts (.codeWith yL_add cL_add 5 (some .int) [(0, 10, 13, 13), (0, 10, 17, 15)]) List.mem_cons_self)
  have k13 : (Cond.classLink RL 13 "java/lang/IndexOutOfBoundsException").before args s = true := hts _ (by decide +kernel)
  have k15 : (Cond.classLink RL 15 "java/lang/IllegalStateException").before args s = true := hts _ (by decide +kernel)
  obtain ⟨ls, hl, hent⟩ := sw_entry m (n := 5) ha (Nat.le_of_ble_eq_true rfl)
  rw [hent]
  have hl : lv_has ls 5 [(0, .ref (ad 0)), (1, .int x1), (2, .int x2), (3, .ref o)] := hl
  unfold xl_add at h
  obtain ⟨⟨k, r, u2⟩, ek, h⟩ := swbd_s h
  dsimp only at h
  refine lv_aload_n hx hb dL_add_0 rfl (lv_at hl 3 rfl) ?_
  refine lv_iconst (v := 0) hx hb dL_add_1 (by decide) ?_
  refine lv_aload_n hx hb dL_add_2 rfl (lv_at hl 0 rfl) ?_
  refine lv_iload_n hx hb dL_add_3 rfl (lv_at hl 1 rfl) ?_
  refine lv_iload_n hx hb dL_add_4 rfl (lv_at hl 2 rfl) ?_
  refine xl_call (As := [.int x1, .int x2]) (rest := [.int 0, .ref o]) E (xm5_add l hst D cy ad hJ u x1 x2 sz k r u2 ek) (cwV 2 hts gL_add_X5_add rfl rfl rfl (by decide +kernel) ⟨Nat.le_of_ble_eq_true rfl, Nat.le_of_ble_eq_true rfl⟩) hK hP hX hO ho hsz ⟨Nat.le_of_ble_eq_true rfl, Nat.le_of_ble_eq_true rfl⟩ rfl hl.1 rfl (Nat.le_of_ble_eq_true rfl) dL_add_5 (fun hk ce q9 H locs hP hO hS hc hv hcl => ?_) (fun hk H locs hP hO hS => ?_)
  · replace h := sw_f h hk
    by_cases c1 : k = 1
    · replace h := sw_t h c1
      subst c1
      refine vx_catch (E := swE 1) (name := "java/lang/IndexOutOfBoundsException") hown [] ⟨0, 10, 13, 13⟩ [⟨0, 10, 17, 15⟩] htab (fun z hz => nomatch hz) rfl (by decide) k13 (va_Nw.use rfl (hX.2.2.1.1 1)) hc hv hcl ?_
      refine lv_astore (lv' := [(4, .ref q9), (0, .ref (ad 0)), (1, .int x1), (2, .int x2), (3, .ref o)]) hx hb dL_add_13 hl (by decide) rfl (fun ls hl => ?_)
      refine lv_iconst (v := 1) hx hb dL_add_15 (by decide) ?_
      refine W.widen (k := 2) (n := 12) (Nat.le_of_ble_eq_true rfl) (Nat.le_of_ble_eq_true rfl) ?_
      exact W.iret hx hb hr (fun t ht hW => ⟨⟨_, (), rfl, (sw_inj3 h).1, xl_end hP hO ht (sw_inj3 h).2.2 (sw_inj3 h).2.1⟩, hS.F ht⟩) hS.2.2 dL_add_16 hlocks
    · replace h := sw_f h c1
      by_cases c3 : k = 3
      · replace h := sw_t h c3
        subst c3
        refine vx_catch (E := swE 3) (name := "java/lang/IllegalStateException") hown [⟨0, 10, 13, 13⟩] ⟨0, 10, 17, 15⟩ [] htab (fun z hz => by
          cases List.mem_singleton.mp hz
          exact Or.inr ⟨by decide, _, k13, hNc 1 3 (by decide) (by decide) (by decide)⟩) rfl (by decide) k15 (va_Nw.use rfl (hX.2.2.1.1 3)) hc hv hcl ?_
        refine lv_astore (lv' := [(4, .ref q9), (0, .ref (ad 0)), (1, .int x1), (2, .int x2), (3, .ref o)]) hx hb dL_add_17 hl (by decide) rfl (fun ls hl => ?_)
        refine lv_iconst (v := 2) hx hb dL_add_19 (by decide) ?_
        refine W.widen (k := 2) (n := 12) (Nat.le_of_ble_eq_true rfl) (Nat.le_of_ble_eq_true rfl) ?_
        exact W.iret hx hb hr (fun t ht hW => ⟨⟨_, (), rfl, (sw_inj3 h).1, xl_end hP hO ht (sw_inj3 h).2.2 (sw_inj3 h).2.1⟩, hS.F ht⟩) hS.2.2 dL_add_20 hlocks
      · replace h := sw_f h c3
        cases h
  · replace h := sw_t h hk
    refine lv_i2l hx hb dL_add_8 rfl ?_
    refine xl_last hx hb hK hP hO ho hS dL_add_9 (fun H locs hP hO hS => ?_)
    refine lv_goto (tgt := 21) hx hb dL_add_10 (by decide) ?_
    refine lv_iconst (v := 0) hx hb dL_add_21 (by decide) ?_
    refine W.widen (k := 2) (n := 12) (Nat.le_of_ble_eq_true rfl) (Nat.le_of_ble_eq_true rfl) ?_
    exact W.iret hx hb hr (fun t ht hW => ⟨⟨_, (), rfl, (sw_inj3 h).1, xl_end hP hO ht (sw_inj3 h).2.2 (sw_inj3 h).2.1⟩, hS.F ht⟩) hS.2.2 dL_add_22 hlocks

def xl_set (u : swU) (x1 : Int32) (x2 : Int32) (x3 : Int32) (x4 : Int32) (f : Nat → Int64) : Option (Int32 × (Nat → Int64) × swU) :=
  swbd (xx5_set u x1 x2 x3 x4) fun z => match z with | (k, r, u2) => if k = 0 then some (0, vp_updL f 0 r.toInt64, u2) else if k = 1 then some (1, f, u2) else if k = 2 then some (2, f, u2) else if k = 3 then some (3, f, u2) else none

abbrev rmL_set : Room := { frames := 8, cells := 4, slots := 24, locals := 140 }

set_option maxHeartbeats 4000000 in
set_option maxRecDepth 100000 in
theorem xlm_set (l : Launch) (hst : l.stackTraces = false) (D : va_G) (cy : Nat → ClassId) (ad : Nat → Nat) (hJ : swJ xw_N ad) (o : Nat) (ho : ∀ c, xw_N c = true → ad c ≠ o) (u : swU) (x1 : Int32) (x2 : Int32) (x3 : Int32) (x4 : Int32) (f : Nat → Int64) (sz : Nat) (r0 : Int32) (f0 : Nat → Int64) (u0 : swU) (h : xl_set u x1 x2 x3 x4 f = some (r0, f0, u0)) : Met l yL_set wsL_set rmL_set (xlC D cy ad u sz o f [.ref (ad 0), .int x1, .int x2, .int x3, .int x4, .ref o]) (xlQ D cy ad sz o r0 f0 u0) 4 24 (xlA ad sz o) := by
  refine va_MetW (cc := cL_set) (maxL := 7) (ret := (some .int)) (hh := [(0, 14, 17, 13), (0, 14, 21, 25), (0, 14, 25, 15)]) (by decide) rfl ?_
  intro p e s m args below meth c s₁ B hml hv
  obtain ⟨ha, hP, hK, hX, hNc, hsz, hO⟩ := hv
  have hx := B.exec
  have hb := B.bytes
  have hr := B.returns
  have hlocks := B.notSynchronized
  have hts := atoms_spec (ws := wsL_set) B.pre
  have hown : s.vm.findClass RL = some m.cls := findClass_of_methodNamed B.named
  have E : CallFix p m c cL_set 7 s args wsL_set RL := ⟨hx, hb, hml, hown, hts⟩
  have htab := vx_table (x := yL_set) B (hts (.codeWith yL_set cL_set 7 (some .int) [(0, 14, 17, 13), (0, 14, 21, 25), (0, 14, 25, 15)]) List.mem_cons_self)
  have k13 : (Cond.classLink RL 13 "java/lang/IndexOutOfBoundsException").before args s = true := hts _ (by decide +kernel)
  have k25 : (Cond.classLink RL 25 "java/lang/IllegalArgumentException").before args s = true := hts _ (by decide +kernel)
  have k15 : (Cond.classLink RL 15 "java/lang/IllegalStateException").before args s = true := hts _ (by decide +kernel)
  obtain ⟨ls, hl, hent⟩ := sw_entry m (n := 7) ha (Nat.le_of_ble_eq_true rfl)
  rw [hent]
  have hl : lv_has ls 7 [(0, .ref (ad 0)), (1, .int x1), (2, .int x2), (3, .int x3), (4, .int x4), (5, .ref o)] := hl
  unfold xl_set at h
  obtain ⟨⟨k, r, u2⟩, ek, h⟩ := swbd_s h
  dsimp only at h
  refine lv_aload hx hb dL_set_0 (lv_at hl 5 rfl) ?_
  refine lv_iconst (v := 0) hx hb dL_set_2 (by decide) ?_
  refine lv_aload_n hx hb dL_set_3 rfl (lv_at hl 0 rfl) ?_
  refine lv_iload_n hx hb dL_set_4 rfl (lv_at hl 1 rfl) ?_
  refine lv_iload_n hx hb dL_set_5 rfl (lv_at hl 2 rfl) ?_
  refine lv_iload_n hx hb dL_set_6 rfl (lv_at hl 3 rfl) ?_
  refine lv_iload hx hb dL_set_7 (lv_at hl 4 rfl) ?_
  refine xl_call (As := [.int x1, .int x2, .int x3, .int x4]) (rest := [.int 0, .ref o]) E (xm5_set l hst D cy ad hJ u x1 x2 x3 x4 sz k r u2 ek) (cwV 4 hts gL_set_X5_set rfl rfl rfl (by decide +kernel) ⟨Nat.le_of_ble_eq_true rfl, Nat.le_of_ble_eq_true rfl⟩) hK hP hX hO ho hsz ⟨Nat.le_of_ble_eq_true rfl, Nat.le_of_ble_eq_true rfl⟩ rfl hl.1 rfl (Nat.le_of_ble_eq_true rfl) dL_set_9 (fun hk ce q9 H locs hP hO hS hc hv hcl => ?_) (fun hk H locs hP hO hS => ?_)
  · replace h := sw_f h hk
    by_cases c1 : k = 1
    · replace h := sw_t h c1
      subst c1
      refine vx_catch (E := swE 1) (name := "java/lang/IndexOutOfBoundsException") hown [] ⟨0, 14, 17, 13⟩ [⟨0, 14, 21, 25⟩, ⟨0, 14, 25, 15⟩] htab (fun z hz => nomatch hz) rfl (by decide) k13 (va_Nw.use rfl (hX.2.2.1.1 1)) hc hv hcl ?_
      refine lv_astore (lv' := [(6, .ref q9), (0, .ref (ad 0)), (1, .int x1), (2, .int x2), (3, .int x3), (4, .int x4), (5, .ref o)]) hx hb dL_set_17 hl (by decide) rfl (fun ls hl => ?_)
      refine lv_iconst (v := 1) hx hb dL_set_19 (by decide) ?_
      refine W.widen (k := 4) (n := 24) (Nat.le_of_ble_eq_true rfl) (Nat.le_of_ble_eq_true rfl) ?_
      exact W.iret hx hb hr (fun t ht hW => ⟨⟨_, (), rfl, (sw_inj3 h).1, xl_end hP hO ht (sw_inj3 h).2.2 (sw_inj3 h).2.1⟩, hS.F ht⟩) hS.2.2 dL_set_20 hlocks
    · replace h := sw_f h c1
      by_cases c2 : k = 2
      · replace h := sw_t h c2
        subst c2
        refine vx_catch (E := swE 2) (name := "java/lang/IllegalArgumentException") hown [⟨0, 14, 17, 13⟩] ⟨0, 14, 21, 25⟩ [⟨0, 14, 25, 15⟩] htab (fun z hz => by
          cases List.mem_singleton.mp hz
          exact Or.inr ⟨by decide, _, k13, hNc 1 2 (by decide) (by decide) (by decide)⟩) rfl (by decide) k25 (va_Nw.use rfl (hX.2.2.1.1 2)) hc hv hcl ?_
        refine lv_astore (lv' := [(6, .ref q9), (0, .ref (ad 0)), (1, .int x1), (2, .int x2), (3, .int x3), (4, .int x4), (5, .ref o)]) hx hb dL_set_21 hl (by decide) rfl (fun ls hl => ?_)
        refine lv_iconst (v := 2) hx hb dL_set_23 (by decide) ?_
        refine W.widen (k := 4) (n := 24) (Nat.le_of_ble_eq_true rfl) (Nat.le_of_ble_eq_true rfl) ?_
        exact W.iret hx hb hr (fun t ht hW => ⟨⟨_, (), rfl, (sw_inj3 h).1, xl_end hP hO ht (sw_inj3 h).2.2 (sw_inj3 h).2.1⟩, hS.F ht⟩) hS.2.2 dL_set_24 hlocks
      · replace h := sw_f h c2
        by_cases c3 : k = 3
        · replace h := sw_t h c3
          subst c3
          refine vx_catch (E := swE 3) (name := "java/lang/IllegalStateException") hown [⟨0, 14, 17, 13⟩, ⟨0, 14, 21, 25⟩] ⟨0, 14, 25, 15⟩ [] htab (fun z hz => by
            rcases List.mem_cons.mp hz with hz | hz
            · subst hz
              exact Or.inr ⟨by decide, _, k13, hNc 1 3 (by decide) (by decide) (by decide)⟩
            · cases List.mem_singleton.mp hz
              exact Or.inr ⟨by decide, _, k25, hNc 2 3 (by decide) (by decide) (by decide)⟩) rfl (by decide) k15 (va_Nw.use rfl (hX.2.2.1.1 3)) hc hv hcl ?_
          refine lv_astore (lv' := [(6, .ref q9), (0, .ref (ad 0)), (1, .int x1), (2, .int x2), (3, .int x3), (4, .int x4), (5, .ref o)]) hx hb dL_set_25 hl (by decide) rfl (fun ls hl => ?_)
          refine lv_iconst (v := 3) hx hb dL_set_27 (by decide) ?_
          refine W.widen (k := 4) (n := 24) (Nat.le_of_ble_eq_true rfl) (Nat.le_of_ble_eq_true rfl) ?_
          exact W.iret hx hb hr (fun t ht hW => ⟨⟨_, (), rfl, (sw_inj3 h).1, xl_end hP hO ht (sw_inj3 h).2.2 (sw_inj3 h).2.1⟩, hS.F ht⟩) hS.2.2 dL_set_28 hlocks
        · replace h := sw_f h c3
          cases h
  · replace h := sw_t h hk
    refine lv_i2l hx hb dL_set_12 rfl ?_
    refine xl_last hx hb hK hP hO ho hS dL_set_13 (fun H locs hP hO hS => ?_)
    refine lv_goto (tgt := 29) hx hb dL_set_14 (by decide) ?_
    refine lv_iconst (v := 0) hx hb dL_set_29 (by decide) ?_
    refine W.widen (k := 4) (n := 24) (Nat.le_of_ble_eq_true rfl) (Nat.le_of_ble_eq_true rfl) ?_
    exact W.iret hx hb hr (fun t ht hW => ⟨⟨_, (), rfl, (sw_inj3 h).1, xl_end hP hO ht (sw_inj3 h).2.2 (sw_inj3 h).2.1⟩, hS.F ht⟩) hS.2.2 dL_set_30 hlocks

def xl_drop (u : swU) (x1 : Int32) (x2 : Int32) (f : Nat → Int64) : Option (Int32 × (Nat → Int64) × swU) :=
  swbd (xx5_drop u x1 x2) fun z => match z with | (k, r, u2) => if k = 0 then some (0, vp_updL f 0 r.toInt64, u2) else if k = 1 then some (1, f, u2) else if k = 3 then some (2, f, u2) else none

abbrev rmL_drop : Room := { frames := 8, cells := 3, slots := 18, locals := 136 }

set_option maxHeartbeats 4000000 in
set_option maxRecDepth 100000 in
theorem xlm_drop (l : Launch) (hst : l.stackTraces = false) (D : va_G) (cy : Nat → ClassId) (ad : Nat → Nat) (hJ : swJ xw_N ad) (o : Nat) (ho : ∀ c, xw_N c = true → ad c ≠ o) (u : swU) (x1 : Int32) (x2 : Int32) (f : Nat → Int64) (sz : Nat) (r0 : Int32) (f0 : Nat → Int64) (u0 : swU) (h : xl_drop u x1 x2 f = some (r0, f0, u0)) : Met l yL_drop wsL_drop rmL_drop (xlC D cy ad u sz o f [.ref (ad 0), .int x1, .int x2, .ref o]) (xlQ D cy ad sz o r0 f0 u0) 3 18 (xlA ad sz o) := by
  refine va_MetW (cc := cL_drop) (maxL := 5) (ret := (some .int)) (hh := [(0, 10, 13, 13), (0, 10, 17, 15)]) (by decide) rfl ?_
  intro p e s m args below meth c s₁ B hml hv
  obtain ⟨ha, hP, hK, hX, hNc, hsz, hO⟩ := hv
  have hx := B.exec
  have hb := B.bytes
  have hr := B.returns
  have hlocks := B.notSynchronized
  have hts := atoms_spec (ws := wsL_drop) B.pre
  have hown : s.vm.findClass RL = some m.cls := findClass_of_methodNamed B.named
  have E : CallFix p m c cL_drop 5 s args wsL_drop RL := ⟨hx, hb, hml, hown, hts⟩
  have htab := vx_table (x := yL_drop) B (hts (.codeWith yL_drop cL_drop 5 (some .int) [(0, 10, 13, 13), (0, 10, 17, 15)]) List.mem_cons_self)
  have k13 : (Cond.classLink RL 13 "java/lang/IndexOutOfBoundsException").before args s = true := hts _ (by decide +kernel)
  have k15 : (Cond.classLink RL 15 "java/lang/IllegalStateException").before args s = true := hts _ (by decide +kernel)
  obtain ⟨ls, hl, hent⟩ := sw_entry m (n := 5) ha (Nat.le_of_ble_eq_true rfl)
  rw [hent]
  have hl : lv_has ls 5 [(0, .ref (ad 0)), (1, .int x1), (2, .int x2), (3, .ref o)] := hl
  unfold xl_drop at h
  obtain ⟨⟨k, r, u2⟩, ek, h⟩ := swbd_s h
  dsimp only at h
  refine lv_aload_n hx hb dL_drop_0 rfl (lv_at hl 3 rfl) ?_
  refine lv_iconst (v := 0) hx hb dL_drop_1 (by decide) ?_
  refine lv_aload_n hx hb dL_drop_2 rfl (lv_at hl 0 rfl) ?_
  refine lv_iload_n hx hb dL_drop_3 rfl (lv_at hl 1 rfl) ?_
  refine lv_iload_n hx hb dL_drop_4 rfl (lv_at hl 2 rfl) ?_
  refine xl_call (As := [.int x1, .int x2]) (rest := [.int 0, .ref o]) E (xm5_drop l hst D cy ad hJ u x1 x2 sz k r u2 ek) (cwV 2 hts gL_drop_X5_drop rfl rfl rfl (by decide +kernel) ⟨Nat.le_of_ble_eq_true rfl, Nat.le_of_ble_eq_true rfl⟩) hK hP hX hO ho hsz ⟨Nat.le_of_ble_eq_true rfl, Nat.le_of_ble_eq_true rfl⟩ rfl hl.1 rfl (Nat.le_of_ble_eq_true rfl) dL_drop_5 (fun hk ce q9 H locs hP hO hS hc hv hcl => ?_) (fun hk H locs hP hO hS => ?_)
  · replace h := sw_f h hk
    by_cases c1 : k = 1
    · replace h := sw_t h c1
      subst c1
      refine vx_catch (E := swE 1) (name := "java/lang/IndexOutOfBoundsException") hown [] ⟨0, 10, 13, 13⟩ [⟨0, 10, 17, 15⟩] htab (fun z hz => nomatch hz) rfl (by decide) k13 (va_Nw.use rfl (hX.2.2.1.1 1)) hc hv hcl ?_
      refine lv_astore (lv' := [(4, .ref q9), (0, .ref (ad 0)), (1, .int x1), (2, .int x2), (3, .ref o)]) hx hb dL_drop_13 hl (by decide) rfl (fun ls hl => ?_)
      refine lv_iconst (v := 1) hx hb dL_drop_15 (by decide) ?_
      refine W.widen (k := 3) (n := 18) (Nat.le_of_ble_eq_true rfl) (Nat.le_of_ble_eq_true rfl) ?_
      exact W.iret hx hb hr (fun t ht hW => ⟨⟨_, (), rfl, (sw_inj3 h).1, xl_end hP hO ht (sw_inj3 h).2.2 (sw_inj3 h).2.1⟩, hS.F ht⟩) hS.2.2 dL_drop_16 hlocks
    · replace h := sw_f h c1
      by_cases c3 : k = 3
      · replace h := sw_t h c3
        subst c3
        refine vx_catch (E := swE 3) (name := "java/lang/IllegalStateException") hown [⟨0, 10, 13, 13⟩] ⟨0, 10, 17, 15⟩ [] htab (fun z hz => by
          cases List.mem_singleton.mp hz
          exact Or.inr ⟨by decide, _, k13, hNc 1 3 (by decide) (by decide) (by decide)⟩) rfl (by decide) k15 (va_Nw.use rfl (hX.2.2.1.1 3)) hc hv hcl ?_
        refine lv_astore (lv' := [(4, .ref q9), (0, .ref (ad 0)), (1, .int x1), (2, .int x2), (3, .ref o)]) hx hb dL_drop_17 hl (by decide) rfl (fun ls hl => ?_)
        refine lv_iconst (v := 2) hx hb dL_drop_19 (by decide) ?_
        refine W.widen (k := 3) (n := 18) (Nat.le_of_ble_eq_true rfl) (Nat.le_of_ble_eq_true rfl) ?_
        exact W.iret hx hb hr (fun t ht hW => ⟨⟨_, (), rfl, (sw_inj3 h).1, xl_end hP hO ht (sw_inj3 h).2.2 (sw_inj3 h).2.1⟩, hS.F ht⟩) hS.2.2 dL_drop_20 hlocks
      · replace h := sw_f h c3
        cases h
  · replace h := sw_t h hk
    refine lv_i2l hx hb dL_drop_8 rfl ?_
    refine xl_last hx hb hK hP hO ho hS dL_drop_9 (fun H locs hP hO hS => ?_)
    refine lv_goto (tgt := 21) hx hb dL_drop_10 (by decide) ?_
    refine lv_iconst (v := 0) hx hb dL_drop_21 (by decide) ?_
    refine W.widen (k := 3) (n := 18) (Nat.le_of_ble_eq_true rfl) (Nat.le_of_ble_eq_true rfl) ?_
    exact W.iret hx hb hr (fun t ht hW => ⟨⟨_, (), rfl, (sw_inj3 h).1, xl_end hP hO ht (sw_inj3 h).2.2 (sw_inj3 h).2.1⟩, hS.F ht⟩) hS.2.2 dL_drop_22 hlocks

def xl_head (u : swU) (x1 : Int32) (f : Nat → Int64) : Option (Int32 × (Nat → Int64) × swU) :=
  swbd (xx5_head u x1) fun z => match z with | (k, r, u2) => if k = 0 then some (0, vp_updL f 0 r.toInt64, u2) else if k = 1 then some (1, f, u2) else none

abbrev rmL_head : Room := { frames := 8, cells := 1, slots := 6, locals := 132 }

set_option maxHeartbeats 4000000 in
set_option maxRecDepth 100000 in
theorem xlm_head (l : Launch) (hst : l.stackTraces = false) (D : va_G) (cy : Nat → ClassId) (ad : Nat → Nat) (hJ : swJ xw_N ad) (o : Nat) (ho : ∀ c, xw_N c = true → ad c ≠ o) (u : swU) (x1 : Int32) (f : Nat → Int64) (sz : Nat) (r0 : Int32) (f0 : Nat → Int64) (u0 : swU) (h : xl_head u x1 f = some (r0, f0, u0)) : Met l yL_head wsL_head rmL_head (xlC D cy ad u sz o f [.ref (ad 0), .int x1, .ref o]) (xlQ D cy ad sz o r0 f0 u0) 1 6 (xlA ad sz o) := by
  refine va_MetW (cc := cL_head) (maxL := 4) (ret := (some .int)) (hh := [(0, 9, 12, 13)]) (by decide) rfl ?_
  intro p e s m args below meth c s₁ B hml hv
  obtain ⟨ha, hP, hK, hX, hNc, hsz, hO⟩ := hv
  have hx := B.exec
  have hb := B.bytes
  have hr := B.returns
  have hlocks := B.notSynchronized
  have hts := atoms_spec (ws := wsL_head) B.pre
  have hown : s.vm.findClass RL = some m.cls := findClass_of_methodNamed B.named
  have E : CallFix p m c cL_head 4 s args wsL_head RL := ⟨hx, hb, hml, hown, hts⟩
  have htab := vx_table (x := yL_head) B (hts (.codeWith yL_head cL_head 4 (some .int) [(0, 9, 12, 13)]) List.mem_cons_self)
  have k13 : (Cond.classLink RL 13 "java/lang/IndexOutOfBoundsException").before args s = true := hts _ (by decide +kernel)
  obtain ⟨ls, hl, hent⟩ := sw_entry m (n := 4) ha (Nat.le_of_ble_eq_true rfl)
  rw [hent]
  have hl : lv_has ls 4 [(0, .ref (ad 0)), (1, .int x1), (2, .ref o)] := hl
  unfold xl_head at h
  obtain ⟨⟨k, r, u2⟩, ek, h⟩ := swbd_s h
  dsimp only at h
  refine lv_aload_n hx hb dL_head_0 rfl (lv_at hl 2 rfl) ?_
  refine lv_iconst (v := 0) hx hb dL_head_1 (by decide) ?_
  refine lv_aload_n hx hb dL_head_2 rfl (lv_at hl 0 rfl) ?_
  refine lv_iload_n hx hb dL_head_3 rfl (lv_at hl 1 rfl) ?_
  refine xl_call (As := [.int x1]) (rest := [.int 0, .ref o]) E (xm5_head l hst D cy ad hJ u x1 sz k r u2 ek) (cwV 1 hts gL_head_X5_head rfl rfl rfl (by decide +kernel) ⟨Nat.le_of_ble_eq_true rfl, Nat.le_of_ble_eq_true rfl⟩) hK hP hX hO ho hsz ⟨Nat.le_of_ble_eq_true rfl, Nat.le_of_ble_eq_true rfl⟩ rfl hl.1 rfl (Nat.le_of_ble_eq_true rfl) dL_head_4 (fun hk ce q9 H locs hP hO hS hc hv hcl => ?_) (fun hk H locs hP hO hS => ?_)
  · replace h := sw_f h hk
    by_cases c1 : k = 1
    · replace h := sw_t h c1
      subst c1
      refine vx_catch (E := swE 1) (name := "java/lang/IndexOutOfBoundsException") hown [] ⟨0, 9, 12, 13⟩ [] htab (fun z hz => nomatch hz) rfl (by decide) k13 (va_Nw.use rfl (hX.2.2.1.1 1)) hc hv hcl ?_
      refine lv_astore_n (lv' := [(3, .ref q9), (0, .ref (ad 0)), (1, .int x1), (2, .ref o)]) hx hb dL_head_12 rfl hl (by decide) rfl (fun ls hl => ?_)
      refine lv_iconst (v := 1) hx hb dL_head_13 (by decide) ?_
      refine W.widen (k := 1) (n := 6) (Nat.le_of_ble_eq_true rfl) (Nat.le_of_ble_eq_true rfl) ?_
      exact W.iret hx hb hr (fun t ht hW => ⟨⟨_, (), rfl, (sw_inj3 h).1, xl_end hP hO ht (sw_inj3 h).2.2 (sw_inj3 h).2.1⟩, hS.F ht⟩) hS.2.2 dL_head_14 hlocks
    · replace h := sw_f h c1
      cases h
  · replace h := sw_t h hk
    refine lv_i2l hx hb dL_head_7 rfl ?_
    refine xl_last hx hb hK hP hO ho hS dL_head_8 (fun H locs hP hO hS => ?_)
    refine lv_goto (tgt := 15) hx hb dL_head_9 (by decide) ?_
    refine lv_iconst (v := 0) hx hb dL_head_15 (by decide) ?_
    refine W.widen (k := 1) (n := 6) (Nat.le_of_ble_eq_true rfl) (Nat.le_of_ble_eq_true rfl) ?_
    exact W.iret hx hb hr (fun t ht hW => ⟨⟨_, (), rfl, (sw_inj3 h).1, xl_end hP hO ht (sw_inj3 h).2.2 (sw_inj3 h).2.1⟩, hS.F ht⟩) hS.2.2 dL_head_16 hlocks

def xl_about (u : swU) (x1 : Int32) (x2 : Int32) (f : Nat → Int64) : Option (Int32 × (Nat → Int64) × swU) :=
  swbd (xx5_about u x1 x2) fun z => match z with | (k, r, u2) => if k = 0 then some (0, vp_updL f 0 r.toInt64, u2) else if k = 1 then some (1, f, u2) else if k = 2 then some (2, f, u2) else none

abbrev rmL_about : Room := { frames := 8, cells := 2, slots := 12, locals := 134 }

set_option maxHeartbeats 4000000 in
set_option maxRecDepth 100000 in
theorem xlm_about (l : Launch) (hst : l.stackTraces = false) (D : va_G) (cy : Nat → ClassId) (ad : Nat → Nat) (hJ : swJ xw_N ad) (o : Nat) (ho : ∀ c, xw_N c = true → ad c ≠ o) (u : swU) (x1 : Int32) (x2 : Int32) (f : Nat → Int64) (sz : Nat) (r0 : Int32) (f0 : Nat → Int64) (u0 : swU) (h : xl_about u x1 x2 f = some (r0, f0, u0)) : Met l yL_about wsL_about rmL_about (xlC D cy ad u sz o f [.ref (ad 0), .int x1, .int x2, .ref o]) (xlQ D cy ad sz o r0 f0 u0) 2 12 (xlA ad sz o) := by
  refine va_MetW (cc := cL_about) (maxL := 5) (ret := (some .int)) (hh := [(0, 10, 13, 13), (0, 10, 17, 25)]) (by decide) rfl ?_
  intro p e s m args below meth c s₁ B hml hv
  obtain ⟨ha, hP, hK, hX, hNc, hsz, hO⟩ := hv
  have hx := B.exec
  have hb := B.bytes
  have hr := B.returns
  have hlocks := B.notSynchronized
  have hts := atoms_spec (ws := wsL_about) B.pre
  have hown : s.vm.findClass RL = some m.cls := findClass_of_methodNamed B.named
  have E : CallFix p m c cL_about 5 s args wsL_about RL := ⟨hx, hb, hml, hown, hts⟩
  have htab := vx_table (x := yL_about) B (hts (.codeWith yL_about cL_about 5 (some .int) [(0, 10, 13, 13), (0, 10, 17, 25)]) List.mem_cons_self)
  have k13 : (Cond.classLink RL 13 "java/lang/IndexOutOfBoundsException").before args s = true := hts _ (by decide +kernel)
  have k25 : (Cond.classLink RL 25 "java/lang/IllegalArgumentException").before args s = true := hts _ (by decide +kernel)
  obtain ⟨ls, hl, hent⟩ := sw_entry m (n := 5) ha (Nat.le_of_ble_eq_true rfl)
  rw [hent]
  have hl : lv_has ls 5 [(0, .ref (ad 0)), (1, .int x1), (2, .int x2), (3, .ref o)] := hl
  unfold xl_about at h
  obtain ⟨⟨k, r, u2⟩, ek, h⟩ := swbd_s h
  dsimp only at h
  refine lv_aload_n hx hb dL_about_0 rfl (lv_at hl 3 rfl) ?_
  refine lv_iconst (v := 0) hx hb dL_about_1 (by decide) ?_
  refine lv_aload_n hx hb dL_about_2 rfl (lv_at hl 0 rfl) ?_
  refine lv_iload_n hx hb dL_about_3 rfl (lv_at hl 1 rfl) ?_
  refine lv_iload_n hx hb dL_about_4 rfl (lv_at hl 2 rfl) ?_
  refine xl_call (As := [.int x1, .int x2]) (rest := [.int 0, .ref o]) E (xm5_about l hst D cy ad hJ u x1 x2 sz k r u2 ek) (cwV 2 hts gL_about_X5_about rfl rfl rfl (by decide +kernel) ⟨Nat.le_of_ble_eq_true rfl, Nat.le_of_ble_eq_true rfl⟩) hK hP hX hO ho hsz ⟨Nat.le_of_ble_eq_true rfl, Nat.le_of_ble_eq_true rfl⟩ rfl hl.1 rfl (Nat.le_of_ble_eq_true rfl) dL_about_5 (fun hk ce q9 H locs hP hO hS hc hv hcl => ?_) (fun hk H locs hP hO hS => ?_)
  · replace h := sw_f h hk
    by_cases c1 : k = 1
    · replace h := sw_t h c1
      subst c1
      refine vx_catch (E := swE 1) (name := "java/lang/IndexOutOfBoundsException") hown [] ⟨0, 10, 13, 13⟩ [⟨0, 10, 17, 25⟩] htab (fun z hz => nomatch hz) rfl (by decide) k13 (va_Nw.use rfl (hX.2.2.1.1 1)) hc hv hcl ?_
      refine lv_astore (lv' := [(4, .ref q9), (0, .ref (ad 0)), (1, .int x1), (2, .int x2), (3, .ref o)]) hx hb dL_about_13 hl (by decide) rfl (fun ls hl => ?_)
      refine lv_iconst (v := 1) hx hb dL_about_15 (by decide) ?_
      refine W.widen (k := 2) (n := 12) (Nat.le_of_ble_eq_true rfl) (Nat.le_of_ble_eq_true rfl) ?_
      exact W.iret hx hb hr (fun t ht hW => ⟨⟨_, (), rfl, (sw_inj3 h).1, xl_end hP hO ht (sw_inj3 h).2.2 (sw_inj3 h).2.1⟩, hS.F ht⟩) hS.2.2 dL_about_16 hlocks
    · replace h := sw_f h c1
      by_cases c2 : k = 2
      · replace h := sw_t h c2
        subst c2
        refine vx_catch (E := swE 2) (name := "java/lang/IllegalArgumentException") hown [⟨0, 10, 13, 13⟩] ⟨0, 10, 17, 25⟩ [] htab (fun z hz => by
          cases List.mem_singleton.mp hz
          exact Or.inr ⟨by decide, _, k13, hNc 1 2 (by decide) (by decide) (by decide)⟩) rfl (by decide) k25 (va_Nw.use rfl (hX.2.2.1.1 2)) hc hv hcl ?_
        refine lv_astore (lv' := [(4, .ref q9), (0, .ref (ad 0)), (1, .int x1), (2, .int x2), (3, .ref o)]) hx hb dL_about_17 hl (by decide) rfl (fun ls hl => ?_)
        refine lv_iconst (v := 2) hx hb dL_about_19 (by decide) ?_
        refine W.widen (k := 2) (n := 12) (Nat.le_of_ble_eq_true rfl) (Nat.le_of_ble_eq_true rfl) ?_
        exact W.iret hx hb hr (fun t ht hW => ⟨⟨_, (), rfl, (sw_inj3 h).1, xl_end hP hO ht (sw_inj3 h).2.2 (sw_inj3 h).2.1⟩, hS.F ht⟩) hS.2.2 dL_about_20 hlocks
      · replace h := sw_f h c2
        cases h
  · replace h := sw_t h hk
    refine lv_i2l hx hb dL_about_8 rfl ?_
    refine xl_last hx hb hK hP hO ho hS dL_about_9 (fun H locs hP hO hS => ?_)
    refine lv_goto (tgt := 21) hx hb dL_about_10 (by decide) ?_
    refine lv_iconst (v := 0) hx hb dL_about_21 (by decide) ?_
    refine W.widen (k := 2) (n := 12) (Nat.le_of_ble_eq_true rfl) (Nat.le_of_ble_eq_true rfl) ?_
    exact W.iret hx hb hr (fun t ht hW => ⟨⟨_, (), rfl, (sw_inj3 h).1, xl_end hP hO ht (sw_inj3 h).2.2 (sw_inj3 h).2.1⟩, hS.F ht⟩) hS.2.2 dL_about_22 hlocks

def xl_value (u : swU) (x1 : Int32) (x2 : Int32) (x3 : Int32) (f : Nat → Int64) : Option (Int32 × (Nat → Int64) × swU) :=
  swbd (xx5_value u x1 x2 x3) fun z => match z with | (k, r, u2) => if k = 0 then some (0, vp_updL f 0 r.toInt64, u2) else if k = 1 then some (1, f, u2) else none

abbrev rmL_value : Room := { frames := 8, cells := 3, slots := 18, locals := 134 }

set_option maxHeartbeats 4000000 in
set_option maxRecDepth 100000 in
theorem xlm_value (l : Launch) (hst : l.stackTraces = false) (D : va_G) (cy : Nat → ClassId) (ad : Nat → Nat) (hJ : swJ xw_N ad) (o : Nat) (ho : ∀ c, xw_N c = true → ad c ≠ o) (u : swU) (x1 : Int32) (x2 : Int32) (x3 : Int32) (f : Nat → Int64) (sz : Nat) (r0 : Int32) (f0 : Nat → Int64) (u0 : swU) (h : xl_value u x1 x2 x3 f = some (r0, f0, u0)) : Met l yL_value wsL_value rmL_value (xlC D cy ad u sz o f [.ref (ad 0), .int x1, .int x2, .int x3, .ref o]) (xlQ D cy ad sz o r0 f0 u0) 3 18 (xlA ad sz o) := by
  refine va_MetW (cc := cL_value) (maxL := 6) (ret := (some .int)) (hh := [(0, 12, 15, 13)]) (by decide) rfl ?_
  intro p e s m args below meth c s₁ B hml hv
  obtain ⟨ha, hP, hK, hX, hNc, hsz, hO⟩ := hv
  have hx := B.exec
  have hb := B.bytes
  have hr := B.returns
  have hlocks := B.notSynchronized
  have hts := atoms_spec (ws := wsL_value) B.pre
  have hown : s.vm.findClass RL = some m.cls := findClass_of_methodNamed B.named
  have E : CallFix p m c cL_value 6 s args wsL_value RL := ⟨hx, hb, hml, hown, hts⟩
  have htab := vx_table (x := yL_value) B (hts (.codeWith yL_value cL_value 6 (some .int) [(0, 12, 15, 13)]) List.mem_cons_self)
  have k13 : (Cond.classLink RL 13 "java/lang/IndexOutOfBoundsException").before args s = true := hts _ (by decide +kernel)
  obtain ⟨ls, hl, hent⟩ := sw_entry m (n := 6) ha (Nat.le_of_ble_eq_true rfl)
  rw [hent]
  have hl : lv_has ls 6 [(0, .ref (ad 0)), (1, .int x1), (2, .int x2), (3, .int x3), (4, .ref o)] := hl
  unfold xl_value at h
  obtain ⟨⟨k, r, u2⟩, ek, h⟩ := swbd_s h
  dsimp only at h
  refine lv_aload hx hb dL_value_0 (lv_at hl 4 rfl) ?_
  refine lv_iconst (v := 0) hx hb dL_value_2 (by decide) ?_
  refine lv_aload_n hx hb dL_value_3 rfl (lv_at hl 0 rfl) ?_
  refine lv_iload_n hx hb dL_value_4 rfl (lv_at hl 1 rfl) ?_
  refine lv_iload_n hx hb dL_value_5 rfl (lv_at hl 2 rfl) ?_
  refine lv_iload_n hx hb dL_value_6 rfl (lv_at hl 3 rfl) ?_
  refine xl_call (As := [.int x1, .int x2, .int x3]) (rest := [.int 0, .ref o]) E (xm5_value l hst D cy ad hJ u x1 x2 x3 sz k r u2 ek) (cwV 3 hts gL_value_X5_value rfl rfl rfl (by decide +kernel) ⟨Nat.le_of_ble_eq_true rfl, Nat.le_of_ble_eq_true rfl⟩) hK hP hX hO ho hsz ⟨Nat.le_of_ble_eq_true rfl, Nat.le_of_ble_eq_true rfl⟩ rfl hl.1 rfl (Nat.le_of_ble_eq_true rfl) dL_value_7 (fun hk ce q9 H locs hP hO hS hc hv hcl => ?_) (fun hk H locs hP hO hS => ?_)
  · replace h := sw_f h hk
    by_cases c1 : k = 1
    · replace h := sw_t h c1
      subst c1
      refine vx_catch (E := swE 1) (name := "java/lang/IndexOutOfBoundsException") hown [] ⟨0, 12, 15, 13⟩ [] htab (fun z hz => nomatch hz) rfl (by decide) k13 (va_Nw.use rfl (hX.2.2.1.1 1)) hc hv hcl ?_
      refine lv_astore (lv' := [(5, .ref q9), (0, .ref (ad 0)), (1, .int x1), (2, .int x2), (3, .int x3), (4, .ref o)]) hx hb dL_value_15 hl (by decide) rfl (fun ls hl => ?_)
      refine lv_iconst (v := 1) hx hb dL_value_17 (by decide) ?_
      refine W.widen (k := 3) (n := 18) (Nat.le_of_ble_eq_true rfl) (Nat.le_of_ble_eq_true rfl) ?_
      exact W.iret hx hb hr (fun t ht hW => ⟨⟨_, (), rfl, (sw_inj3 h).1, xl_end hP hO ht (sw_inj3 h).2.2 (sw_inj3 h).2.1⟩, hS.F ht⟩) hS.2.2 dL_value_18 hlocks
    · replace h := sw_f h c1
      cases h
  · replace h := sw_t h hk
    refine lv_i2l hx hb dL_value_10 rfl ?_
    refine xl_last hx hb hK hP hO ho hS dL_value_11 (fun H locs hP hO hS => ?_)
    refine lv_goto (tgt := 19) hx hb dL_value_12 (by decide) ?_
    refine lv_iconst (v := 0) hx hb dL_value_19 (by decide) ?_
    refine W.widen (k := 3) (n := 18) (Nat.le_of_ble_eq_true rfl) (Nat.le_of_ble_eq_true rfl) ?_
    exact W.iret hx hb hr (fun t ht hW => ⟨⟨_, (), rfl, (sw_inj3 h).1, xl_end hP hO ht (sw_inj3 h).2.2 (sw_inj3 h).2.1⟩, hS.F ht⟩) hS.2.2 dL_value_20 hlocks

def xl_slideAt (u : swU) (x1 : Int32) (x2 : Int32) (f : Nat → Int64) : Option (Int32 × (Nat → Int64) × swU) :=
  swbd (xx5_slideAt u x1 x2) fun z => match z with | (k, r, u2) => if k = 0 then some (0, vp_updL f 0 r.toInt64, u2) else if k = 1 then some (1, f, u2) else none

abbrev rmL_slideAt : Room := { frames := 8, cells := 2, slots := 12, locals := 134 }

set_option maxHeartbeats 4000000 in
set_option maxRecDepth 100000 in
theorem xlm_slideAt (l : Launch) (hst : l.stackTraces = false) (D : va_G) (cy : Nat → ClassId) (ad : Nat → Nat) (hJ : swJ xw_N ad) (o : Nat) (ho : ∀ c, xw_N c = true → ad c ≠ o) (u : swU) (x1 : Int32) (x2 : Int32) (f : Nat → Int64) (sz : Nat) (r0 : Int32) (f0 : Nat → Int64) (u0 : swU) (h : xl_slideAt u x1 x2 f = some (r0, f0, u0)) : Met l yL_slideAt wsL_slideAt rmL_slideAt (xlC D cy ad u sz o f [.ref (ad 0), .int x1, .int x2, .ref o]) (xlQ D cy ad sz o r0 f0 u0) 2 12 (xlA ad sz o) := by
  refine va_MetW (cc := cL_slideAt) (maxL := 5) (ret := (some .int)) (hh := [(0, 10, 13, 13)]) (by decide) rfl ?_
  intro p e s m args below meth c s₁ B hml hv
  obtain ⟨ha, hP, hK, hX, hNc, hsz, hO⟩ := hv
  have hx := B.exec
  have hb := B.bytes
  have hr := B.returns
  have hlocks := B.notSynchronized
  have hts := atoms_spec (ws := wsL_slideAt) B.pre
  have hown : s.vm.findClass RL = some m.cls := findClass_of_methodNamed B.named
  have E : CallFix p m c cL_slideAt 5 s args wsL_slideAt RL := ⟨hx, hb, hml, hown, hts⟩
  have htab := vx_table (x := yL_slideAt) B (hts (.codeWith yL_slideAt cL_slideAt 5 (some .int) [(0, 10, 13, 13)]) List.mem_cons_self)
  have k13 : (Cond.classLink RL 13 "java/lang/IndexOutOfBoundsException").before args s = true := hts _ (by decide +kernel)
  obtain ⟨ls, hl, hent⟩ := sw_entry m (n := 5) ha (Nat.le_of_ble_eq_true rfl)
  rw [hent]
  have hl : lv_has ls 5 [(0, .ref (ad 0)), (1, .int x1), (2, .int x2), (3, .ref o)] := hl
  unfold xl_slideAt at h
  obtain ⟨⟨k, r, u2⟩, ek, h⟩ := swbd_s h
  dsimp only at h
  refine lv_aload_n hx hb dL_slideAt_0 rfl (lv_at hl 3 rfl) ?_
  refine lv_iconst (v := 0) hx hb dL_slideAt_1 (by decide) ?_
  refine lv_aload_n hx hb dL_slideAt_2 rfl (lv_at hl 0 rfl) ?_
  refine lv_iload_n hx hb dL_slideAt_3 rfl (lv_at hl 1 rfl) ?_
  refine lv_iload_n hx hb dL_slideAt_4 rfl (lv_at hl 2 rfl) ?_
  refine xl_call (As := [.int x1, .int x2]) (rest := [.int 0, .ref o]) E (xm5_slideAt l hst D cy ad hJ u x1 x2 sz k r u2 ek) (cwV 2 hts gL_slideAt_X5_slideAt rfl rfl rfl (by decide +kernel) ⟨Nat.le_of_ble_eq_true rfl, Nat.le_of_ble_eq_true rfl⟩) hK hP hX hO ho hsz ⟨Nat.le_of_ble_eq_true rfl, Nat.le_of_ble_eq_true rfl⟩ rfl hl.1 rfl (Nat.le_of_ble_eq_true rfl) dL_slideAt_5 (fun hk ce q9 H locs hP hO hS hc hv hcl => ?_) (fun hk H locs hP hO hS => ?_)
  · replace h := sw_f h hk
    by_cases c1 : k = 1
    · replace h := sw_t h c1
      subst c1
      refine vx_catch (E := swE 1) (name := "java/lang/IndexOutOfBoundsException") hown [] ⟨0, 10, 13, 13⟩ [] htab (fun z hz => nomatch hz) rfl (by decide) k13 (va_Nw.use rfl (hX.2.2.1.1 1)) hc hv hcl ?_
      refine lv_astore (lv' := [(4, .ref q9), (0, .ref (ad 0)), (1, .int x1), (2, .int x2), (3, .ref o)]) hx hb dL_slideAt_13 hl (by decide) rfl (fun ls hl => ?_)
      refine lv_iconst (v := 1) hx hb dL_slideAt_15 (by decide) ?_
      refine W.widen (k := 2) (n := 12) (Nat.le_of_ble_eq_true rfl) (Nat.le_of_ble_eq_true rfl) ?_
      exact W.iret hx hb hr (fun t ht hW => ⟨⟨_, (), rfl, (sw_inj3 h).1, xl_end hP hO ht (sw_inj3 h).2.2 (sw_inj3 h).2.1⟩, hS.F ht⟩) hS.2.2 dL_slideAt_16 hlocks
    · replace h := sw_f h c1
      cases h
  · replace h := sw_t h hk
    refine lv_i2l hx hb dL_slideAt_8 rfl ?_
    refine xl_last hx hb hK hP hO ho hS dL_slideAt_9 (fun H locs hP hO hS => ?_)
    refine lv_goto (tgt := 17) hx hb dL_slideAt_10 (by decide) ?_
    refine lv_iconst (v := 0) hx hb dL_slideAt_17 (by decide) ?_
    refine W.widen (k := 2) (n := 12) (Nat.le_of_ble_eq_true rfl) (Nat.le_of_ble_eq_true rfl) ?_
    exact W.iret hx hb hr (fun t ht hW => ⟨⟨_, (), rfl, (sw_inj3 h).1, xl_end hP hO ht (sw_inj3 h).2.2 (sw_inj3 h).2.1⟩, hS.F ht⟩) hS.2.2 dL_slideAt_18 hlocks

def xl_base (u : swU) (x1 : Int32) (x2 : Int32) (f : Nat → Int64) : Option (Int32 × (Nat → Int64) × swU) :=
  swbd (xx5_base u x1 x2) fun z => match z with | (k, r, u2) => if k = 0 then some (0, vp_updL f 0 r.toInt64, u2) else if k = 1 then some (1, f, u2) else if k = 2 then some (2, f, u2) else none

abbrev rmL_base : Room := { frames := 8, cells := 3, slots := 18, locals := 133 }

set_option maxHeartbeats 4000000 in
set_option maxRecDepth 100000 in
theorem xlm_base (l : Launch) (hst : l.stackTraces = false) (D : va_G) (cy : Nat → ClassId) (ad : Nat → Nat) (hJ : swJ xw_N ad) (o : Nat) (ho : ∀ c, xw_N c = true → ad c ≠ o) (u : swU) (x1 : Int32) (x2 : Int32) (f : Nat → Int64) (sz : Nat) (r0 : Int32) (f0 : Nat → Int64) (u0 : swU) (h : xl_base u x1 x2 f = some (r0, f0, u0)) : Met l yL_base wsL_base rmL_base (xlC D cy ad u sz o f [.ref (ad 0), .int x1, .int x2, .ref o]) (xlQ D cy ad sz o r0 f0 u0) 3 18 (xlA ad sz o) := by
  refine va_MetW (cc := cL_base) (maxL := 5) (ret := (some .int)) (hh := [(0, 10, 13, 13), (0, 10, 17, 25)]) (by decide) rfl ?_
  intro p e s m args below meth c s₁ B hml hv
  obtain ⟨ha, hP, hK, hX, hNc, hsz, hO⟩ := hv
  have hx := B.exec
  have hb := B.bytes
  have hr := B.returns
  have hlocks := B.notSynchronized
  have hts := atoms_spec (ws := wsL_base) B.pre
  have hown : s.vm.findClass RL = some m.cls := findClass_of_methodNamed B.named
  have E : CallFix p m c cL_base 5 s args wsL_base RL := ⟨hx, hb, hml, hown, hts⟩
  have htab := vx_table (x := yL_base) B (hts (.codeWith yL_base cL_base 5 (some .int) [(0, 10, 13, 13), (0, 10, 17, 25)]) List.mem_cons_self)
  have k13 : (Cond.classLink RL 13 "java/lang/IndexOutOfBoundsException").before args s = true := hts _ (by decide +kernel)
  have k25 : (Cond.classLink RL 25 "java/lang/IllegalArgumentException").before args s = true := hts _ (by decide +kernel)
  obtain ⟨ls, hl, hent⟩ := sw_entry m (n := 5) ha (Nat.le_of_ble_eq_true rfl)
  rw [hent]
  have hl : lv_has ls 5 [(0, .ref (ad 0)), (1, .int x1), (2, .int x2), (3, .ref o)] := hl
  unfold xl_base at h
  obtain ⟨⟨k, r, u2⟩, ek, h⟩ := swbd_s h
  dsimp only at h
  refine lv_aload_n hx hb dL_base_0 rfl (lv_at hl 3 rfl) ?_
  refine lv_iconst (v := 0) hx hb dL_base_1 (by decide) ?_
  refine lv_aload_n hx hb dL_base_2 rfl (lv_at hl 0 rfl) ?_
  refine lv_iload_n hx hb dL_base_3 rfl (lv_at hl 1 rfl) ?_
  refine lv_iload_n hx hb dL_base_4 rfl (lv_at hl 2 rfl) ?_
  refine xl_call (As := [.int x1, .int x2]) (rest := [.int 0, .ref o]) E (xm5_base l hst D cy ad hJ u x1 x2 sz k r u2 ek) (cwV 2 hts gL_base_X5_base rfl rfl rfl (by decide +kernel) ⟨Nat.le_of_ble_eq_true rfl, Nat.le_of_ble_eq_true rfl⟩) hK hP hX hO ho hsz ⟨Nat.le_of_ble_eq_true rfl, Nat.le_of_ble_eq_true rfl⟩ rfl hl.1 rfl (Nat.le_of_ble_eq_true rfl) dL_base_5 (fun hk ce q9 H locs hP hO hS hc hv hcl => ?_) (fun hk H locs hP hO hS => ?_)
  · replace h := sw_f h hk
    by_cases c1 : k = 1
    · replace h := sw_t h c1
      subst c1
      refine vx_catch (E := swE 1) (name := "java/lang/IndexOutOfBoundsException") hown [] ⟨0, 10, 13, 13⟩ [⟨0, 10, 17, 25⟩] htab (fun z hz => nomatch hz) rfl (by decide) k13 (va_Nw.use rfl (hX.2.2.1.1 1)) hc hv hcl ?_
      refine lv_astore (lv' := [(4, .ref q9), (0, .ref (ad 0)), (1, .int x1), (2, .int x2), (3, .ref o)]) hx hb dL_base_13 hl (by decide) rfl (fun ls hl => ?_)
      refine lv_iconst (v := 1) hx hb dL_base_15 (by decide) ?_
      refine W.widen (k := 3) (n := 18) (Nat.le_of_ble_eq_true rfl) (Nat.le_of_ble_eq_true rfl) ?_
      exact W.iret hx hb hr (fun t ht hW => ⟨⟨_, (), rfl, (sw_inj3 h).1, xl_end hP hO ht (sw_inj3 h).2.2 (sw_inj3 h).2.1⟩, hS.F ht⟩) hS.2.2 dL_base_16 hlocks
    · replace h := sw_f h c1
      by_cases c2 : k = 2
      · replace h := sw_t h c2
        subst c2
        refine vx_catch (E := swE 2) (name := "java/lang/IllegalArgumentException") hown [⟨0, 10, 13, 13⟩] ⟨0, 10, 17, 25⟩ [] htab (fun z hz => by
          cases List.mem_singleton.mp hz
          exact Or.inr ⟨by decide, _, k13, hNc 1 2 (by decide) (by decide) (by decide)⟩) rfl (by decide) k25 (va_Nw.use rfl (hX.2.2.1.1 2)) hc hv hcl ?_
        refine lv_astore (lv' := [(4, .ref q9), (0, .ref (ad 0)), (1, .int x1), (2, .int x2), (3, .ref o)]) hx hb dL_base_17 hl (by decide) rfl (fun ls hl => ?_)
        refine lv_iconst (v := 2) hx hb dL_base_19 (by decide) ?_
        refine W.widen (k := 3) (n := 18) (Nat.le_of_ble_eq_true rfl) (Nat.le_of_ble_eq_true rfl) ?_
        exact W.iret hx hb hr (fun t ht hW => ⟨⟨_, (), rfl, (sw_inj3 h).1, xl_end hP hO ht (sw_inj3 h).2.2 (sw_inj3 h).2.1⟩, hS.F ht⟩) hS.2.2 dL_base_20 hlocks
      · replace h := sw_f h c2
        cases h
  · replace h := sw_t h hk
    refine lv_i2l hx hb dL_base_8 rfl ?_
    refine xl_last hx hb hK hP hO ho hS dL_base_9 (fun H locs hP hO hS => ?_)
    refine lv_goto (tgt := 21) hx hb dL_base_10 (by decide) ?_
    refine lv_iconst (v := 0) hx hb dL_base_21 (by decide) ?_
    refine W.widen (k := 3) (n := 18) (Nat.le_of_ble_eq_true rfl) (Nat.le_of_ble_eq_true rfl) ?_
    exact W.iret hx hb hr (fun t ht hW => ⟨⟨_, (), rfl, (sw_inj3 h).1, xl_end hP hO ht (sw_inj3 h).2.2 (sw_inj3 h).2.1⟩, hS.F ht⟩) hS.2.2 dL_base_22 hlocks

def xl_clashes (u : swU) (x1 : Int32) (x2 : Int32) (f : Nat → Int64) : Option (Int32 × (Nat → Int64) × swU) :=
  swbd (xx5_clashes u x1 x2) fun z => match z with | (k, r, u2) => if k = 0 then some (0, vp_updL f 0 r.toInt64, u2) else if k = 1 then some (1, f, u2) else if k = 2 then some (2, f, u2) else none

abbrev rmL_clashes : Room := { frames := 8, cells := 4, slots := 21, locals := 133 }

set_option maxHeartbeats 4000000 in
set_option maxRecDepth 100000 in
theorem xlm_clashes (l : Launch) (hst : l.stackTraces = false) (D : va_G) (cy : Nat → ClassId) (ad : Nat → Nat) (hJ : swJ xw_N ad) (o : Nat) (ho : ∀ c, xw_N c = true → ad c ≠ o) (u : swU) (x1 : Int32) (x2 : Int32) (f : Nat → Int64) (sz : Nat) (r0 : Int32) (f0 : Nat → Int64) (u0 : swU) (h : xl_clashes u x1 x2 f = some (r0, f0, u0)) : Met l yL_clashes wsL_clashes rmL_clashes (xlC D cy ad u sz o f [.ref (ad 0), .int x1, .int x2, .ref o]) (xlQ D cy ad sz o r0 f0 u0) 4 21 (xlA ad sz o) := by
  refine va_MetW (cc := cL_clashes) (maxL := 5) (ret := (some .int)) (hh := [(0, 10, 13, 13), (0, 10, 17, 25)]) (by decide) rfl ?_
  intro p e s m args below meth c s₁ B hml hv
  obtain ⟨ha, hP, hK, hX, hNc, hsz, hO⟩ := hv
  have hx := B.exec
  have hb := B.bytes
  have hr := B.returns
  have hlocks := B.notSynchronized
  have hts := atoms_spec (ws := wsL_clashes) B.pre
  have hown : s.vm.findClass RL = some m.cls := findClass_of_methodNamed B.named
  have E : CallFix p m c cL_clashes 5 s args wsL_clashes RL := ⟨hx, hb, hml, hown, hts⟩
  have htab := vx_table (x := yL_clashes) B (hts (.codeWith yL_clashes cL_clashes 5 (some .int) [(0, 10, 13, 13), (0, 10, 17, 25)]) List.mem_cons_self)
  have k13 : (Cond.classLink RL 13 "java/lang/IndexOutOfBoundsException").before args s = true := hts _ (by decide +kernel)
  have k25 : (Cond.classLink RL 25 "java/lang/IllegalArgumentException").before args s = true := hts _ (by decide +kernel)
  obtain ⟨ls, hl, hent⟩ := sw_entry m (n := 5) ha (Nat.le_of_ble_eq_true rfl)
  rw [hent]
  have hl : lv_has ls 5 [(0, .ref (ad 0)), (1, .int x1), (2, .int x2), (3, .ref o)] := hl
  unfold xl_clashes at h
  obtain ⟨⟨k, r, u2⟩, ek, h⟩ := swbd_s h
  dsimp only at h
  refine lv_aload_n hx hb dL_clashes_0 rfl (lv_at hl 3 rfl) ?_
  refine lv_iconst (v := 0) hx hb dL_clashes_1 (by decide) ?_
  refine lv_aload_n hx hb dL_clashes_2 rfl (lv_at hl 0 rfl) ?_
  refine lv_iload_n hx hb dL_clashes_3 rfl (lv_at hl 1 rfl) ?_
  refine lv_iload_n hx hb dL_clashes_4 rfl (lv_at hl 2 rfl) ?_
  refine xl_call (As := [.int x1, .int x2]) (rest := [.int 0, .ref o]) E (xm5_clashes l hst D cy ad hJ u x1 x2 sz k r u2 ek) (cwV 2 hts gL_clashes_X5_clashes rfl rfl rfl (by decide +kernel) ⟨Nat.le_of_ble_eq_true rfl, Nat.le_of_ble_eq_true rfl⟩) hK hP hX hO ho hsz ⟨Nat.le_of_ble_eq_true rfl, Nat.le_of_ble_eq_true rfl⟩ rfl hl.1 rfl (Nat.le_of_ble_eq_true rfl) dL_clashes_5 (fun hk ce q9 H locs hP hO hS hc hv hcl => ?_) (fun hk H locs hP hO hS => ?_)
  · replace h := sw_f h hk
    by_cases c1 : k = 1
    · replace h := sw_t h c1
      subst c1
      refine vx_catch (E := swE 1) (name := "java/lang/IndexOutOfBoundsException") hown [] ⟨0, 10, 13, 13⟩ [⟨0, 10, 17, 25⟩] htab (fun z hz => nomatch hz) rfl (by decide) k13 (va_Nw.use rfl (hX.2.2.1.1 1)) hc hv hcl ?_
      refine lv_astore (lv' := [(4, .ref q9), (0, .ref (ad 0)), (1, .int x1), (2, .int x2), (3, .ref o)]) hx hb dL_clashes_13 hl (by decide) rfl (fun ls hl => ?_)
      refine lv_iconst (v := 1) hx hb dL_clashes_15 (by decide) ?_
      refine W.widen (k := 4) (n := 21) (Nat.le_of_ble_eq_true rfl) (Nat.le_of_ble_eq_true rfl) ?_
      exact W.iret hx hb hr (fun t ht hW => ⟨⟨_, (), rfl, (sw_inj3 h).1, xl_end hP hO ht (sw_inj3 h).2.2 (sw_inj3 h).2.1⟩, hS.F ht⟩) hS.2.2 dL_clashes_16 hlocks
    · replace h := sw_f h c1
      by_cases c2 : k = 2
      · replace h := sw_t h c2
        subst c2
        refine vx_catch (E := swE 2) (name := "java/lang/IllegalArgumentException") hown [⟨0, 10, 13, 13⟩] ⟨0, 10, 17, 25⟩ [] htab (fun z hz => by
          cases List.mem_singleton.mp hz
          exact Or.inr ⟨by decide, _, k13, hNc 1 2 (by decide) (by decide) (by decide)⟩) rfl (by decide) k25 (va_Nw.use rfl (hX.2.2.1.1 2)) hc hv hcl ?_
        refine lv_astore (lv' := [(4, .ref q9), (0, .ref (ad 0)), (1, .int x1), (2, .int x2), (3, .ref o)]) hx hb dL_clashes_17 hl (by decide) rfl (fun ls hl => ?_)
        refine lv_iconst (v := 2) hx hb dL_clashes_19 (by decide) ?_
        refine W.widen (k := 4) (n := 21) (Nat.le_of_ble_eq_true rfl) (Nat.le_of_ble_eq_true rfl) ?_
        exact W.iret hx hb hr (fun t ht hW => ⟨⟨_, (), rfl, (sw_inj3 h).1, xl_end hP hO ht (sw_inj3 h).2.2 (sw_inj3 h).2.1⟩, hS.F ht⟩) hS.2.2 dL_clashes_20 hlocks
      · replace h := sw_f h c2
        cases h
  · replace h := sw_t h hk
    refine lv_i2l hx hb dL_clashes_8 rfl ?_
    refine xl_last hx hb hK hP hO ho hS dL_clashes_9 (fun H locs hP hO hS => ?_)
    refine lv_goto (tgt := 21) hx hb dL_clashes_10 (by decide) ?_
    refine lv_iconst (v := 0) hx hb dL_clashes_21 (by decide) ?_
    refine W.widen (k := 4) (n := 21) (Nat.le_of_ble_eq_true rfl) (Nat.le_of_ble_eq_true rfl) ?_
    exact W.iret hx hb hr (fun t ht hW => ⟨⟨_, (), rfl, (sw_inj3 h).1, xl_end hP hO ht (sw_inj3 h).2.2 (sw_inj3 h).2.1⟩, hS.F ht⟩) hS.2.2 dL_clashes_22 hlocks

def xl_merged (u : swU) (x1 : Int32) (x2 : Int32) (x3 : Int32) (x4 : Int32) (x5 : Int32) (f : Nat → Int64) : Option (Int32 × (Nat → Int64) × swU) :=
  swbd (xx5_merged u x1 x2 x3 x4 x5) fun z => match z with | (k, r, u2) => if k = 0 then some (0, vp_updL f 0 r.toInt64, u2) else if k = 1 then some (1, f, u2) else if k = 2 then some (2, f, u2) else none

abbrev rmL_merged : Room := { frames := 8, cells := 6, slots := 36, locals := 143 }

set_option maxHeartbeats 4000000 in
set_option maxRecDepth 100000 in
theorem xlm_merged (l : Launch) (hst : l.stackTraces = false) (D : va_G) (cy : Nat → ClassId) (ad : Nat → Nat) (hJ : swJ xw_N ad) (o : Nat) (ho : ∀ c, xw_N c = true → ad c ≠ o) (u : swU) (x1 : Int32) (x2 : Int32) (x3 : Int32) (x4 : Int32) (x5 : Int32) (f : Nat → Int64) (sz : Nat) (r0 : Int32) (f0 : Nat → Int64) (u0 : swU) (h : xl_merged u x1 x2 x3 x4 x5 f = some (r0, f0, u0)) : Met l yL_merged wsL_merged rmL_merged (xlC D cy ad u sz o f [.ref (ad 0), .int x1, .int x2, .int x3, .int x4, .int x5, .ref o]) (xlQ D cy ad sz o r0 f0 u0) 6 36 (xlA ad sz o) := by
  refine va_MetW (cc := cL_merged) (maxL := 8) (ret := (some .int)) (hh := [(0, 16, 19, 13), (0, 16, 23, 25)]) (by decide) rfl ?_
  intro p e s m args below meth c s₁ B hml hv
  obtain ⟨ha, hP, hK, hX, hNc, hsz, hO⟩ := hv
  have hx := B.exec
  have hb := B.bytes
  have hr := B.returns
  have hlocks := B.notSynchronized
  have hts := atoms_spec (ws := wsL_merged) B.pre
  have hown : s.vm.findClass RL = some m.cls := findClass_of_methodNamed B.named
  have E : CallFix p m c cL_merged 8 s args wsL_merged RL := ⟨hx, hb, hml, hown, hts⟩
  have htab := vx_table (x := yL_merged) B (hts (.codeWith yL_merged cL_merged 8 (some .int) [(0, 16, 19, 13), (0, 16, 23, 25)]) List.mem_cons_self)
  have k13 : (Cond.classLink RL 13 "java/lang/IndexOutOfBoundsException").before args s = true := hts _ (by decide +kernel)
  have k25 : (Cond.classLink RL 25 "java/lang/IllegalArgumentException").before args s = true := hts _ (by decide +kernel)
  obtain ⟨ls, hl, hent⟩ := sw_entry m (n := 8) ha (Nat.le_of_ble_eq_true rfl)
  rw [hent]
  have hl : lv_has ls 8 [(0, .ref (ad 0)), (1, .int x1), (2, .int x2), (3, .int x3), (4, .int x4), (5, .int x5), (6, .ref o)] := hl
  unfold xl_merged at h
  obtain ⟨⟨k, r, u2⟩, ek, h⟩ := swbd_s h
  dsimp only at h
  refine lv_aload hx hb dL_merged_0 (lv_at hl 6 rfl) ?_
  refine lv_iconst (v := 0) hx hb dL_merged_2 (by decide) ?_
  refine lv_aload_n hx hb dL_merged_3 rfl (lv_at hl 0 rfl) ?_
  refine lv_iload_n hx hb dL_merged_4 rfl (lv_at hl 1 rfl) ?_
  refine lv_iload_n hx hb dL_merged_5 rfl (lv_at hl 2 rfl) ?_
  refine lv_iload_n hx hb dL_merged_6 rfl (lv_at hl 3 rfl) ?_
  refine lv_iload hx hb dL_merged_7 (lv_at hl 4 rfl) ?_
  refine lv_iload hx hb dL_merged_9 (lv_at hl 5 rfl) ?_
  refine xl_call (As := [.int x1, .int x2, .int x3, .int x4, .int x5]) (rest := [.int 0, .ref o]) E (xm5_merged l hst D cy ad hJ u x1 x2 x3 x4 x5 sz k r u2 ek) (cwV 5 hts gL_merged_X5_merged rfl rfl rfl (by decide +kernel) ⟨Nat.le_of_ble_eq_true rfl, Nat.le_of_ble_eq_true rfl⟩) hK hP hX hO ho hsz ⟨Nat.le_of_ble_eq_true rfl, Nat.le_of_ble_eq_true rfl⟩ rfl hl.1 rfl (Nat.le_of_ble_eq_true rfl) dL_merged_11 (fun hk ce q9 H locs hP hO hS hc hv hcl => ?_) (fun hk H locs hP hO hS => ?_)
  · replace h := sw_f h hk
    by_cases c1 : k = 1
    · replace h := sw_t h c1
      subst c1
      refine vx_catch (E := swE 1) (name := "java/lang/IndexOutOfBoundsException") hown [] ⟨0, 16, 19, 13⟩ [⟨0, 16, 23, 25⟩] htab (fun z hz => nomatch hz) rfl (by decide) k13 (va_Nw.use rfl (hX.2.2.1.1 1)) hc hv hcl ?_
      refine lv_astore (lv' := [(7, .ref q9), (0, .ref (ad 0)), (1, .int x1), (2, .int x2), (3, .int x3), (4, .int x4), (5, .int x5), (6, .ref o)]) hx hb dL_merged_19 hl (by decide) rfl (fun ls hl => ?_)
      refine lv_iconst (v := 1) hx hb dL_merged_21 (by decide) ?_
      refine W.widen (k := 6) (n := 36) (Nat.le_of_ble_eq_true rfl) (Nat.le_of_ble_eq_true rfl) ?_
      exact W.iret hx hb hr (fun t ht hW => ⟨⟨_, (), rfl, (sw_inj3 h).1, xl_end hP hO ht (sw_inj3 h).2.2 (sw_inj3 h).2.1⟩, hS.F ht⟩) hS.2.2 dL_merged_22 hlocks
    · replace h := sw_f h c1
      by_cases c2 : k = 2
      · replace h := sw_t h c2
        subst c2
        refine vx_catch (E := swE 2) (name := "java/lang/IllegalArgumentException") hown [⟨0, 16, 19, 13⟩] ⟨0, 16, 23, 25⟩ [] htab (fun z hz => by
          cases List.mem_singleton.mp hz
          exact Or.inr ⟨by decide, _, k13, hNc 1 2 (by decide) (by decide) (by decide)⟩) rfl (by decide) k25 (va_Nw.use rfl (hX.2.2.1.1 2)) hc hv hcl ?_
        refine lv_astore (lv' := [(7, .ref q9), (0, .ref (ad 0)), (1, .int x1), (2, .int x2), (3, .int x3), (4, .int x4), (5, .int x5), (6, .ref o)]) hx hb dL_merged_23 hl (by decide) rfl (fun ls hl => ?_)
        refine lv_iconst (v := 2) hx hb dL_merged_25 (by decide) ?_
        refine W.widen (k := 6) (n := 36) (Nat.le_of_ble_eq_true rfl) (Nat.le_of_ble_eq_true rfl) ?_
        exact W.iret hx hb hr (fun t ht hW => ⟨⟨_, (), rfl, (sw_inj3 h).1, xl_end hP hO ht (sw_inj3 h).2.2 (sw_inj3 h).2.1⟩, hS.F ht⟩) hS.2.2 dL_merged_26 hlocks
      · replace h := sw_f h c2
        cases h
  · replace h := sw_t h hk
    refine lv_i2l hx hb dL_merged_14 rfl ?_
    refine xl_last hx hb hK hP hO ho hS dL_merged_15 (fun H locs hP hO hS => ?_)
    refine lv_goto (tgt := 27) hx hb dL_merged_16 (by decide) ?_
    refine lv_iconst (v := 0) hx hb dL_merged_27 (by decide) ?_
    refine W.widen (k := 6) (n := 36) (Nat.le_of_ble_eq_true rfl) (Nat.le_of_ble_eq_true rfl) ?_
    exact W.iret hx hb hr (fun t ht hW => ⟨⟨_, (), rfl, (sw_inj3 h).1, xl_end hP hO ht (sw_inj3 h).2.2 (sw_inj3 h).2.1⟩, hS.F ht⟩) hS.2.2 dL_merged_28 hlocks

def xl_merge (u : swU) (x1 : Int32) (x2 : Int32) (x3 : Int32) (f : Nat → Int64) : Option (Int32 × (Nat → Int64) × swU) :=
  swbd (xx5_merge u x1 x2 x3) fun z => match z with | (k, r, u2) => if k = 0 then some (0, vp_updL f 0 r.toInt64, u2) else if k = 1 then some (1, f, u2) else if k = 2 then some (2, f, u2) else if k = 3 then some (3, f, u2) else none

abbrev rmL_merge : Room := { frames := 8, cells := 5, slots := 27, locals := 168 }

set_option maxHeartbeats 4000000 in
set_option maxRecDepth 100000 in
theorem xlm_merge (l : Launch) (hst : l.stackTraces = false) (D : va_G) (cy : Nat → ClassId) (ad : Nat → Nat) (hJ : swJ xw_N ad) (o : Nat) (ho : ∀ c, xw_N c = true → ad c ≠ o) (u : swU) (x1 : Int32) (x2 : Int32) (x3 : Int32) (f : Nat → Int64) (sz : Nat) (r0 : Int32) (f0 : Nat → Int64) (u0 : swU) (h : xl_merge u x1 x2 x3 f = some (r0, f0, u0)) : Met l yL_merge wsL_merge rmL_merge (xlC D cy ad u sz o f [.ref (ad 0), .int x1, .int x2, .int x3, .ref o]) (xlQ D cy ad sz o r0 f0 u0) 5 27 (xlA ad sz o) := by
  refine va_MetW (cc := cL_merge) (maxL := 6) (ret := (some .int)) (hh := [(0, 12, 15, 13), (0, 12, 19, 25), (0, 12, 23, 15)]) (by decide) rfl ?_
  intro p e s m args below meth c s₁ B hml hv
  obtain ⟨ha, hP, hK, hX, hNc, hsz, hO⟩ := hv
  have hx := B.exec
  have hb := B.bytes
  have hr := B.returns
  have hlocks := B.notSynchronized
  have hts := atoms_spec (ws := wsL_merge) B.pre
  have hown : s.vm.findClass RL = some m.cls := findClass_of_methodNamed B.named
  have E : CallFix p m c cL_merge 6 s args wsL_merge RL := ⟨hx, hb, hml, hown, hts⟩
  have htab := vx_table (x := yL_merge) B (hts (.codeWith yL_merge cL_merge 6 (some .int) [(0, 12, 15, 13), (0, 12, 19, 25), (0, 12, 23, 15)]) List.mem_cons_self)
  have k13 : (Cond.classLink RL 13 "java/lang/IndexOutOfBoundsException").before args s = true := hts _ (by decide +kernel)
  have k25 : (Cond.classLink RL 25 "java/lang/IllegalArgumentException").before args s = true := hts _ (by decide +kernel)
  have k15 : (Cond.classLink RL 15 "java/lang/IllegalStateException").before args s = true := hts _ (by decide +kernel)
  obtain ⟨ls, hl, hent⟩ := sw_entry m (n := 6) ha (Nat.le_of_ble_eq_true rfl)
  rw [hent]
  have hl : lv_has ls 6 [(0, .ref (ad 0)), (1, .int x1), (2, .int x2), (3, .int x3), (4, .ref o)] := hl
  unfold xl_merge at h
  obtain ⟨⟨k, r, u2⟩, ek, h⟩ := swbd_s h
  dsimp only at h
  refine lv_aload hx hb dL_merge_0 (lv_at hl 4 rfl) ?_
  refine lv_iconst (v := 0) hx hb dL_merge_2 (by decide) ?_
  refine lv_aload_n hx hb dL_merge_3 rfl (lv_at hl 0 rfl) ?_
  refine lv_iload_n hx hb dL_merge_4 rfl (lv_at hl 1 rfl) ?_
  refine lv_iload_n hx hb dL_merge_5 rfl (lv_at hl 2 rfl) ?_
  refine lv_iload_n hx hb dL_merge_6 rfl (lv_at hl 3 rfl) ?_
  refine xl_call (As := [.int x1, .int x2, .int x3]) (rest := [.int 0, .ref o]) E (xm5_merge l hst D cy ad hJ u x1 x2 x3 sz k r u2 ek) (cwV 3 hts gL_merge_X5_merge rfl rfl rfl (by decide +kernel) ⟨Nat.le_of_ble_eq_true rfl, Nat.le_of_ble_eq_true rfl⟩) hK hP hX hO ho hsz ⟨Nat.le_of_ble_eq_true rfl, Nat.le_of_ble_eq_true rfl⟩ rfl hl.1 rfl (Nat.le_of_ble_eq_true rfl) dL_merge_7 (fun hk ce q9 H locs hP hO hS hc hv hcl => ?_) (fun hk H locs hP hO hS => ?_)
  · replace h := sw_f h hk
    by_cases c1 : k = 1
    · replace h := sw_t h c1
      subst c1
      refine vx_catch (E := swE 1) (name := "java/lang/IndexOutOfBoundsException") hown [] ⟨0, 12, 15, 13⟩ [⟨0, 12, 19, 25⟩, ⟨0, 12, 23, 15⟩] htab (fun z hz => nomatch hz) rfl (by decide) k13 (va_Nw.use rfl (hX.2.2.1.1 1)) hc hv hcl ?_
      refine lv_astore (lv' := [(5, .ref q9), (0, .ref (ad 0)), (1, .int x1), (2, .int x2), (3, .int x3), (4, .ref o)]) hx hb dL_merge_15 hl (by decide) rfl (fun ls hl => ?_)
      refine lv_iconst (v := 1) hx hb dL_merge_17 (by decide) ?_
      refine W.widen (k := 5) (n := 27) (Nat.le_of_ble_eq_true rfl) (Nat.le_of_ble_eq_true rfl) ?_
      exact W.iret hx hb hr (fun t ht hW => ⟨⟨_, (), rfl, (sw_inj3 h).1, xl_end hP hO ht (sw_inj3 h).2.2 (sw_inj3 h).2.1⟩, hS.F ht⟩) hS.2.2 dL_merge_18 hlocks
    · replace h := sw_f h c1
      by_cases c2 : k = 2
      · replace h := sw_t h c2
        subst c2
        refine vx_catch (E := swE 2) (name := "java/lang/IllegalArgumentException") hown [⟨0, 12, 15, 13⟩] ⟨0, 12, 19, 25⟩ [⟨0, 12, 23, 15⟩] htab (fun z hz => by
          cases List.mem_singleton.mp hz
          exact Or.inr ⟨by decide, _, k13, hNc 1 2 (by decide) (by decide) (by decide)⟩) rfl (by decide) k25 (va_Nw.use rfl (hX.2.2.1.1 2)) hc hv hcl ?_
        refine lv_astore (lv' := [(5, .ref q9), (0, .ref (ad 0)), (1, .int x1), (2, .int x2), (3, .int x3), (4, .ref o)]) hx hb dL_merge_19 hl (by decide) rfl (fun ls hl => ?_)
        refine lv_iconst (v := 2) hx hb dL_merge_21 (by decide) ?_
        refine W.widen (k := 5) (n := 27) (Nat.le_of_ble_eq_true rfl) (Nat.le_of_ble_eq_true rfl) ?_
        exact W.iret hx hb hr (fun t ht hW => ⟨⟨_, (), rfl, (sw_inj3 h).1, xl_end hP hO ht (sw_inj3 h).2.2 (sw_inj3 h).2.1⟩, hS.F ht⟩) hS.2.2 dL_merge_22 hlocks
      · replace h := sw_f h c2
        by_cases c3 : k = 3
        · replace h := sw_t h c3
          subst c3
          refine vx_catch (E := swE 3) (name := "java/lang/IllegalStateException") hown [⟨0, 12, 15, 13⟩, ⟨0, 12, 19, 25⟩] ⟨0, 12, 23, 15⟩ [] htab (fun z hz => by
            rcases List.mem_cons.mp hz with hz | hz
            · subst hz
              exact Or.inr ⟨by decide, _, k13, hNc 1 3 (by decide) (by decide) (by decide)⟩
            · cases List.mem_singleton.mp hz
              exact Or.inr ⟨by decide, _, k25, hNc 2 3 (by decide) (by decide) (by decide)⟩) rfl (by decide) k15 (va_Nw.use rfl (hX.2.2.1.1 3)) hc hv hcl ?_
          refine lv_astore (lv' := [(5, .ref q9), (0, .ref (ad 0)), (1, .int x1), (2, .int x2), (3, .int x3), (4, .ref o)]) hx hb dL_merge_23 hl (by decide) rfl (fun ls hl => ?_)
          refine lv_iconst (v := 3) hx hb dL_merge_25 (by decide) ?_
          refine W.widen (k := 5) (n := 27) (Nat.le_of_ble_eq_true rfl) (Nat.le_of_ble_eq_true rfl) ?_
          exact W.iret hx hb hr (fun t ht hW => ⟨⟨_, (), rfl, (sw_inj3 h).1, xl_end hP hO ht (sw_inj3 h).2.2 (sw_inj3 h).2.1⟩, hS.F ht⟩) hS.2.2 dL_merge_26 hlocks
        · replace h := sw_f h c3
          cases h
  · replace h := sw_t h hk
    refine lv_i2l hx hb dL_merge_10 rfl ?_
    refine xl_last hx hb hK hP hO ho hS dL_merge_11 (fun H locs hP hO hS => ?_)
    refine lv_goto (tgt := 27) hx hb dL_merge_12 (by decide) ?_
    refine lv_iconst (v := 0) hx hb dL_merge_27 (by decide) ?_
    refine W.widen (k := 5) (n := 27) (Nat.le_of_ble_eq_true rfl) (Nat.le_of_ble_eq_true rfl) ?_
    exact W.iret hx hb hr (fun t ht hW => ⟨⟨_, (), rfl, (sw_inj3 h).1, xl_end hP hO ht (sw_inj3 h).2.2 (sw_inj3 h).2.1⟩, hS.F ht⟩) hS.2.2 dL_merge_28 hlocks

def xl_rule (u : swU) (x1 : Int32) (x2 : Int32) (x3 : Int32) (x4 : Int32) (f : Nat → Int64) : Option (Int32 × (Nat → Int64) × swU) :=
  swbd (xx5_rule u x1 x2 x3 x4) fun z => match z with | (k, r, u2) => if k = 0 then some (0, vp_updL f 0 r.toInt64, u2) else if k = 1 then some (1, f, u2) else if k = 2 then some (2, f, u2) else if k = 3 then some (3, f, u2) else none

abbrev rmL_rule : Room := { frames := 8, cells := 2, slots := 12, locals := 136 }

set_option maxHeartbeats 4000000 in
set_option maxRecDepth 100000 in
theorem xlm_rule (l : Launch) (hst : l.stackTraces = false) (D : va_G) (cy : Nat → ClassId) (ad : Nat → Nat) (hJ : swJ xw_N ad) (o : Nat) (ho : ∀ c, xw_N c = true → ad c ≠ o) (u : swU) (x1 : Int32) (x2 : Int32) (x3 : Int32) (x4 : Int32) (f : Nat → Int64) (sz : Nat) (r0 : Int32) (f0 : Nat → Int64) (u0 : swU) (h : xl_rule u x1 x2 x3 x4 f = some (r0, f0, u0)) : Met l yL_rule wsL_rule rmL_rule (xlC D cy ad u sz o f [.ref (ad 0), .int x1, .int x2, .int x3, .int x4, .ref o]) (xlQ D cy ad sz o r0 f0 u0) 2 12 (xlA ad sz o) := by
  refine va_MetW (cc := cL_rule) (maxL := 7) (ret := (some .int)) (hh := [(0, 14, 17, 13), (0, 14, 21, 25), (0, 14, 25, 15)]) (by decide) rfl ?_
  intro p e s m args below meth c s₁ B hml hv
  obtain ⟨ha, hP, hK, hX, hNc, hsz, hO⟩ := hv
  have hx := B.exec
  have hb := B.bytes
  have hr := B.returns
  have hlocks := B.notSynchronized
  have hts := atoms_spec (ws := wsL_rule) B.pre
  have hown : s.vm.findClass RL = some m.cls := findClass_of_methodNamed B.named
  have E : CallFix p m c cL_rule 7 s args wsL_rule RL := ⟨hx, hb, hml, hown, hts⟩
  have htab := vx_table (x := yL_rule) B (hts (.codeWith yL_rule cL_rule 7 (some .int) [(0, 14, 17, 13), (0, 14, 21, 25), (0, 14, 25, 15)]) List.mem_cons_self)
  have k13 : (Cond.classLink RL 13 "java/lang/IndexOutOfBoundsException").before args s = true := hts _ (by decide +kernel)
  have k25 : (Cond.classLink RL 25 "java/lang/IllegalArgumentException").before args s = true := hts _ (by decide +kernel)
  have k15 : (Cond.classLink RL 15 "java/lang/IllegalStateException").before args s = true := hts _ (by decide +kernel)
  obtain ⟨ls, hl, hent⟩ := sw_entry m (n := 7) ha (Nat.le_of_ble_eq_true rfl)
  rw [hent]
  have hl : lv_has ls 7 [(0, .ref (ad 0)), (1, .int x1), (2, .int x2), (3, .int x3), (4, .int x4), (5, .ref o)] := hl
  unfold xl_rule at h
  obtain ⟨⟨k, r, u2⟩, ek, h⟩ := swbd_s h
  dsimp only at h
  refine lv_aload hx hb dL_rule_0 (lv_at hl 5 rfl) ?_
  refine lv_iconst (v := 0) hx hb dL_rule_2 (by decide) ?_
  refine lv_aload_n hx hb dL_rule_3 rfl (lv_at hl 0 rfl) ?_
  refine lv_iload_n hx hb dL_rule_4 rfl (lv_at hl 1 rfl) ?_
  refine lv_iload_n hx hb dL_rule_5 rfl (lv_at hl 2 rfl) ?_
  refine lv_iload_n hx hb dL_rule_6 rfl (lv_at hl 3 rfl) ?_
  refine lv_iload hx hb dL_rule_7 (lv_at hl 4 rfl) ?_
  refine xl_call (As := [.int x1, .int x2, .int x3, .int x4]) (rest := [.int 0, .ref o]) E (xm5_rule l hst D cy ad hJ u x1 x2 x3 x4 sz k r u2 ek) (cwV 4 hts gL_rule_X5_rule rfl rfl rfl (by decide +kernel) ⟨Nat.le_of_ble_eq_true rfl, Nat.le_of_ble_eq_true rfl⟩) hK hP hX hO ho hsz ⟨Nat.le_of_ble_eq_true rfl, Nat.le_of_ble_eq_true rfl⟩ rfl hl.1 rfl (Nat.le_of_ble_eq_true rfl) dL_rule_9 (fun hk ce q9 H locs hP hO hS hc hv hcl => ?_) (fun hk H locs hP hO hS => ?_)
  · replace h := sw_f h hk
    by_cases c1 : k = 1
    · replace h := sw_t h c1
      subst c1
      refine vx_catch (E := swE 1) (name := "java/lang/IndexOutOfBoundsException") hown [] ⟨0, 14, 17, 13⟩ [⟨0, 14, 21, 25⟩, ⟨0, 14, 25, 15⟩] htab (fun z hz => nomatch hz) rfl (by decide) k13 (va_Nw.use rfl (hX.2.2.1.1 1)) hc hv hcl ?_
      refine lv_astore (lv' := [(6, .ref q9), (0, .ref (ad 0)), (1, .int x1), (2, .int x2), (3, .int x3), (4, .int x4), (5, .ref o)]) hx hb dL_rule_17 hl (by decide) rfl (fun ls hl => ?_)
      refine lv_iconst (v := 1) hx hb dL_rule_19 (by decide) ?_
      refine W.widen (k := 2) (n := 12) (Nat.le_of_ble_eq_true rfl) (Nat.le_of_ble_eq_true rfl) ?_
      exact W.iret hx hb hr (fun t ht hW => ⟨⟨_, (), rfl, (sw_inj3 h).1, xl_end hP hO ht (sw_inj3 h).2.2 (sw_inj3 h).2.1⟩, hS.F ht⟩) hS.2.2 dL_rule_20 hlocks
    · replace h := sw_f h c1
      by_cases c2 : k = 2
      · replace h := sw_t h c2
        subst c2
        refine vx_catch (E := swE 2) (name := "java/lang/IllegalArgumentException") hown [⟨0, 14, 17, 13⟩] ⟨0, 14, 21, 25⟩ [⟨0, 14, 25, 15⟩] htab (fun z hz => by
          cases List.mem_singleton.mp hz
          exact Or.inr ⟨by decide, _, k13, hNc 1 2 (by decide) (by decide) (by decide)⟩) rfl (by decide) k25 (va_Nw.use rfl (hX.2.2.1.1 2)) hc hv hcl ?_
        refine lv_astore (lv' := [(6, .ref q9), (0, .ref (ad 0)), (1, .int x1), (2, .int x2), (3, .int x3), (4, .int x4), (5, .ref o)]) hx hb dL_rule_21 hl (by decide) rfl (fun ls hl => ?_)
        refine lv_iconst (v := 2) hx hb dL_rule_23 (by decide) ?_
        refine W.widen (k := 2) (n := 12) (Nat.le_of_ble_eq_true rfl) (Nat.le_of_ble_eq_true rfl) ?_
        exact W.iret hx hb hr (fun t ht hW => ⟨⟨_, (), rfl, (sw_inj3 h).1, xl_end hP hO ht (sw_inj3 h).2.2 (sw_inj3 h).2.1⟩, hS.F ht⟩) hS.2.2 dL_rule_24 hlocks
      · replace h := sw_f h c2
        by_cases c3 : k = 3
        · replace h := sw_t h c3
          subst c3
          refine vx_catch (E := swE 3) (name := "java/lang/IllegalStateException") hown [⟨0, 14, 17, 13⟩, ⟨0, 14, 21, 25⟩] ⟨0, 14, 25, 15⟩ [] htab (fun z hz => by
            rcases List.mem_cons.mp hz with hz | hz
            · subst hz
              exact Or.inr ⟨by decide, _, k13, hNc 1 3 (by decide) (by decide) (by decide)⟩
            · cases List.mem_singleton.mp hz
              exact Or.inr ⟨by decide, _, k25, hNc 2 3 (by decide) (by decide) (by decide)⟩) rfl (by decide) k15 (va_Nw.use rfl (hX.2.2.1.1 3)) hc hv hcl ?_
          refine lv_astore (lv' := [(6, .ref q9), (0, .ref (ad 0)), (1, .int x1), (2, .int x2), (3, .int x3), (4, .int x4), (5, .ref o)]) hx hb dL_rule_25 hl (by decide) rfl (fun ls hl => ?_)
          refine lv_iconst (v := 3) hx hb dL_rule_27 (by decide) ?_
          refine W.widen (k := 2) (n := 12) (Nat.le_of_ble_eq_true rfl) (Nat.le_of_ble_eq_true rfl) ?_
          exact W.iret hx hb hr (fun t ht hW => ⟨⟨_, (), rfl, (sw_inj3 h).1, xl_end hP hO ht (sw_inj3 h).2.2 (sw_inj3 h).2.1⟩, hS.F ht⟩) hS.2.2 dL_rule_28 hlocks
        · replace h := sw_f h c3
          cases h
  · replace h := sw_t h hk
    refine lv_i2l hx hb dL_rule_12 rfl ?_
    refine xl_last hx hb hK hP hO ho hS dL_rule_13 (fun H locs hP hO hS => ?_)
    refine lv_goto (tgt := 29) hx hb dL_rule_14 (by decide) ?_
    refine lv_iconst (v := 0) hx hb dL_rule_29 (by decide) ?_
    refine W.widen (k := 2) (n := 12) (Nat.le_of_ble_eq_true rfl) (Nat.le_of_ble_eq_true rfl) ?_
    exact W.iret hx hb hr (fun t ht hW => ⟨⟨_, (), rfl, (sw_inj3 h).1, xl_end hP hO ht (sw_inj3 h).2.2 (sw_inj3 h).2.1⟩, hS.F ht⟩) hS.2.2 dL_rule_30 hlocks

def xl_tighten (u : swU) (x1 : Int32) (x2 : Int32) (x3 : Int32) (f : Nat → Int64) : Option (Int32 × (Nat → Int64) × swU) :=
  swbd (xx5_tighten u x1 x2 x3) fun z => match z with | (k, r, u2) => if k = 0 then some (0, vp_updL f 0 r.toInt64, u2) else if k = 1 then some (1, f, u2) else if k = 2 then some (2, f, u2) else none

abbrev rmL_tighten : Room := { frames := 8, cells := 2, slots := 12, locals := 143 }

set_option maxHeartbeats 4000000 in
set_option maxRecDepth 100000 in
theorem xlm_tighten (l : Launch) (hst : l.stackTraces = false) (D : va_G) (cy : Nat → ClassId) (ad : Nat → Nat) (hJ : swJ xw_N ad) (o : Nat) (ho : ∀ c, xw_N c = true → ad c ≠ o) (u : swU) (x1 : Int32) (x2 : Int32) (x3 : Int32) (f : Nat → Int64) (sz : Nat) (r0 : Int32) (f0 : Nat → Int64) (u0 : swU) (h : xl_tighten u x1 x2 x3 f = some (r0, f0, u0)) : Met l yL_tighten wsL_tighten rmL_tighten (xlC D cy ad u sz o f [.ref (ad 0), .int x1, .int x2, .int x3, .ref o]) (xlQ D cy ad sz o r0 f0 u0) 2 12 (xlA ad sz o) := by
  refine va_MetW (cc := cL_tighten) (maxL := 6) (ret := (some .int)) (hh := [(0, 12, 15, 13), (0, 12, 19, 25)]) (by decide) rfl ?_
  intro p e s m args below meth c s₁ B hml hv
  obtain ⟨ha, hP, hK, hX, hNc, hsz, hO⟩ := hv
  have hx := B.exec
  have hb := B.bytes
  have hr := B.returns
  have hlocks := B.notSynchronized
  have hts := atoms_spec (ws := wsL_tighten) B.pre
  have hown : s.vm.findClass RL = some m.cls := findClass_of_methodNamed B.named
  have E : CallFix p m c cL_tighten 6 s args wsL_tighten RL := ⟨hx, hb, hml, hown, hts⟩
  have htab := vx_table (x := yL_tighten) B (hts (.codeWith yL_tighten cL_tighten 6 (some .int) [(0, 12, 15, 13), (0, 12, 19, 25)]) List.mem_cons_self)
  have k13 : (Cond.classLink RL 13 "java/lang/IndexOutOfBoundsException").before args s = true := hts _ (by decide +kernel)
  have k25 : (Cond.classLink RL 25 "java/lang/IllegalArgumentException").before args s = true := hts _ (by decide +kernel)
  obtain ⟨ls, hl, hent⟩ := sw_entry m (n := 6) ha (Nat.le_of_ble_eq_true rfl)
  rw [hent]
  have hl : lv_has ls 6 [(0, .ref (ad 0)), (1, .int x1), (2, .int x2), (3, .int x3), (4, .ref o)] := hl
  unfold xl_tighten at h
  obtain ⟨⟨k, r, u2⟩, ek, h⟩ := swbd_s h
  dsimp only at h
  refine lv_aload hx hb dL_tighten_0 (lv_at hl 4 rfl) ?_
  refine lv_iconst (v := 0) hx hb dL_tighten_2 (by decide) ?_
  refine lv_aload_n hx hb dL_tighten_3 rfl (lv_at hl 0 rfl) ?_
  refine lv_iload_n hx hb dL_tighten_4 rfl (lv_at hl 1 rfl) ?_
  refine lv_iload_n hx hb dL_tighten_5 rfl (lv_at hl 2 rfl) ?_
  refine lv_iload_n hx hb dL_tighten_6 rfl (lv_at hl 3 rfl) ?_
  refine xl_call (As := [.int x1, .int x2, .int x3]) (rest := [.int 0, .ref o]) E (xm5_tighten l hst D cy ad hJ u x1 x2 x3 sz k r u2 ek) (cwV 3 hts gL_tighten_X5_tighten rfl rfl rfl (by decide +kernel) ⟨Nat.le_of_ble_eq_true rfl, Nat.le_of_ble_eq_true rfl⟩) hK hP hX hO ho hsz ⟨Nat.le_of_ble_eq_true rfl, Nat.le_of_ble_eq_true rfl⟩ rfl hl.1 rfl (Nat.le_of_ble_eq_true rfl) dL_tighten_7 (fun hk ce q9 H locs hP hO hS hc hv hcl => ?_) (fun hk H locs hP hO hS => ?_)
  · replace h := sw_f h hk
    by_cases c1 : k = 1
    · replace h := sw_t h c1
      subst c1
      refine vx_catch (E := swE 1) (name := "java/lang/IndexOutOfBoundsException") hown [] ⟨0, 12, 15, 13⟩ [⟨0, 12, 19, 25⟩] htab (fun z hz => nomatch hz) rfl (by decide) k13 (va_Nw.use rfl (hX.2.2.1.1 1)) hc hv hcl ?_
      refine lv_astore (lv' := [(5, .ref q9), (0, .ref (ad 0)), (1, .int x1), (2, .int x2), (3, .int x3), (4, .ref o)]) hx hb dL_tighten_15 hl (by decide) rfl (fun ls hl => ?_)
      refine lv_iconst (v := 1) hx hb dL_tighten_17 (by decide) ?_
      refine W.widen (k := 2) (n := 12) (Nat.le_of_ble_eq_true rfl) (Nat.le_of_ble_eq_true rfl) ?_
      exact W.iret hx hb hr (fun t ht hW => ⟨⟨_, (), rfl, (sw_inj3 h).1, xl_end hP hO ht (sw_inj3 h).2.2 (sw_inj3 h).2.1⟩, hS.F ht⟩) hS.2.2 dL_tighten_18 hlocks
    · replace h := sw_f h c1
      by_cases c2 : k = 2
      · replace h := sw_t h c2
        subst c2
        refine vx_catch (E := swE 2) (name := "java/lang/IllegalArgumentException") hown [⟨0, 12, 15, 13⟩] ⟨0, 12, 19, 25⟩ [] htab (fun z hz => by
          cases List.mem_singleton.mp hz
          exact Or.inr ⟨by decide, _, k13, hNc 1 2 (by decide) (by decide) (by decide)⟩) rfl (by decide) k25 (va_Nw.use rfl (hX.2.2.1.1 2)) hc hv hcl ?_
        refine lv_astore (lv' := [(5, .ref q9), (0, .ref (ad 0)), (1, .int x1), (2, .int x2), (3, .int x3), (4, .ref o)]) hx hb dL_tighten_19 hl (by decide) rfl (fun ls hl => ?_)
        refine lv_iconst (v := 2) hx hb dL_tighten_21 (by decide) ?_
        refine W.widen (k := 2) (n := 12) (Nat.le_of_ble_eq_true rfl) (Nat.le_of_ble_eq_true rfl) ?_
        exact W.iret hx hb hr (fun t ht hW => ⟨⟨_, (), rfl, (sw_inj3 h).1, xl_end hP hO ht (sw_inj3 h).2.2 (sw_inj3 h).2.1⟩, hS.F ht⟩) hS.2.2 dL_tighten_22 hlocks
      · replace h := sw_f h c2
        cases h
  · replace h := sw_t h hk
    refine lv_i2l hx hb dL_tighten_10 rfl ?_
    refine xl_last hx hb hK hP hO ho hS dL_tighten_11 (fun H locs hP hO hS => ?_)
    refine lv_goto (tgt := 23) hx hb dL_tighten_12 (by decide) ?_
    refine lv_iconst (v := 0) hx hb dL_tighten_23 (by decide) ?_
    refine W.widen (k := 2) (n := 12) (Nat.le_of_ble_eq_true rfl) (Nat.le_of_ble_eq_true rfl) ?_
    exact W.iret hx hb hr (fun t ht hW => ⟨⟨_, (), rfl, (sw_inj3 h).1, xl_end hP hO ht (sw_inj3 h).2.2 (sw_inj3 h).2.1⟩, hS.F ht⟩) hS.2.2 dL_tighten_24 hlocks

def xl_waive (u : swU) (x1 : Int32) (x2 : Int32) (x3 : Int32) (f : Nat → Int64) : Option (Int32 × (Nat → Int64) × swU) :=
  swbd (xx5_waive u x1 x2 x3) fun z => match z with | (k, r, u2) => if k = 0 then some (0, vp_updL f 0 r.toInt64, u2) else if k = 1 then some (1, f, u2) else if k = 2 then some (2, f, u2) else if k = 3 then some (3, f, u2) else none

abbrev rmL_waive : Room := { frames := 8, cells := 3, slots := 18, locals := 136 }

set_option maxHeartbeats 4000000 in
set_option maxRecDepth 100000 in
theorem xlm_waive (l : Launch) (hst : l.stackTraces = false) (D : va_G) (cy : Nat → ClassId) (ad : Nat → Nat) (hJ : swJ xw_N ad) (o : Nat) (ho : ∀ c, xw_N c = true → ad c ≠ o) (u : swU) (x1 : Int32) (x2 : Int32) (x3 : Int32) (f : Nat → Int64) (sz : Nat) (r0 : Int32) (f0 : Nat → Int64) (u0 : swU) (h : xl_waive u x1 x2 x3 f = some (r0, f0, u0)) : Met l yL_waive wsL_waive rmL_waive (xlC D cy ad u sz o f [.ref (ad 0), .int x1, .int x2, .int x3, .ref o]) (xlQ D cy ad sz o r0 f0 u0) 3 18 (xlA ad sz o) := by
  refine va_MetW (cc := cL_waive) (maxL := 6) (ret := (some .int)) (hh := [(0, 12, 15, 13), (0, 12, 19, 25), (0, 12, 23, 15)]) (by decide) rfl ?_
  intro p e s m args below meth c s₁ B hml hv
  obtain ⟨ha, hP, hK, hX, hNc, hsz, hO⟩ := hv
  have hx := B.exec
  have hb := B.bytes
  have hr := B.returns
  have hlocks := B.notSynchronized
  have hts := atoms_spec (ws := wsL_waive) B.pre
  have hown : s.vm.findClass RL = some m.cls := findClass_of_methodNamed B.named
  have E : CallFix p m c cL_waive 6 s args wsL_waive RL := ⟨hx, hb, hml, hown, hts⟩
  have htab := vx_table (x := yL_waive) B (hts (.codeWith yL_waive cL_waive 6 (some .int) [(0, 12, 15, 13), (0, 12, 19, 25), (0, 12, 23, 15)]) List.mem_cons_self)
  have k13 : (Cond.classLink RL 13 "java/lang/IndexOutOfBoundsException").before args s = true := hts _ (by decide +kernel)
  have k25 : (Cond.classLink RL 25 "java/lang/IllegalArgumentException").before args s = true := hts _ (by decide +kernel)
  have k15 : (Cond.classLink RL 15 "java/lang/IllegalStateException").before args s = true := hts _ (by decide +kernel)
  obtain ⟨ls, hl, hent⟩ := sw_entry m (n := 6) ha (Nat.le_of_ble_eq_true rfl)
  rw [hent]
  have hl : lv_has ls 6 [(0, .ref (ad 0)), (1, .int x1), (2, .int x2), (3, .int x3), (4, .ref o)] := hl
  unfold xl_waive at h
  obtain ⟨⟨k, r, u2⟩, ek, h⟩ := swbd_s h
  dsimp only at h
  refine lv_aload hx hb dL_waive_0 (lv_at hl 4 rfl) ?_
  refine lv_iconst (v := 0) hx hb dL_waive_2 (by decide) ?_
  refine lv_aload_n hx hb dL_waive_3 rfl (lv_at hl 0 rfl) ?_
  refine lv_iload_n hx hb dL_waive_4 rfl (lv_at hl 1 rfl) ?_
  refine lv_iload_n hx hb dL_waive_5 rfl (lv_at hl 2 rfl) ?_
  refine lv_iload_n hx hb dL_waive_6 rfl (lv_at hl 3 rfl) ?_
  refine xl_call (As := [.int x1, .int x2, .int x3]) (rest := [.int 0, .ref o]) E (xm5_waive l hst D cy ad hJ u x1 x2 x3 sz k r u2 ek) (cwV 3 hts gL_waive_X5_waive rfl rfl rfl (by decide +kernel) ⟨Nat.le_of_ble_eq_true rfl, Nat.le_of_ble_eq_true rfl⟩) hK hP hX hO ho hsz ⟨Nat.le_of_ble_eq_true rfl, Nat.le_of_ble_eq_true rfl⟩ rfl hl.1 rfl (Nat.le_of_ble_eq_true rfl) dL_waive_7 (fun hk ce q9 H locs hP hO hS hc hv hcl => ?_) (fun hk H locs hP hO hS => ?_)
  · replace h := sw_f h hk
    by_cases c1 : k = 1
    · replace h := sw_t h c1
      subst c1
      refine vx_catch (E := swE 1) (name := "java/lang/IndexOutOfBoundsException") hown [] ⟨0, 12, 15, 13⟩ [⟨0, 12, 19, 25⟩, ⟨0, 12, 23, 15⟩] htab (fun z hz => nomatch hz) rfl (by decide) k13 (va_Nw.use rfl (hX.2.2.1.1 1)) hc hv hcl ?_
      refine lv_astore (lv' := [(5, .ref q9), (0, .ref (ad 0)), (1, .int x1), (2, .int x2), (3, .int x3), (4, .ref o)]) hx hb dL_waive_15 hl (by decide) rfl (fun ls hl => ?_)
      refine lv_iconst (v := 1) hx hb dL_waive_17 (by decide) ?_
      refine W.widen (k := 3) (n := 18) (Nat.le_of_ble_eq_true rfl) (Nat.le_of_ble_eq_true rfl) ?_
      exact W.iret hx hb hr (fun t ht hW => ⟨⟨_, (), rfl, (sw_inj3 h).1, xl_end hP hO ht (sw_inj3 h).2.2 (sw_inj3 h).2.1⟩, hS.F ht⟩) hS.2.2 dL_waive_18 hlocks
    · replace h := sw_f h c1
      by_cases c2 : k = 2
      · replace h := sw_t h c2
        subst c2
        refine vx_catch (E := swE 2) (name := "java/lang/IllegalArgumentException") hown [⟨0, 12, 15, 13⟩] ⟨0, 12, 19, 25⟩ [⟨0, 12, 23, 15⟩] htab (fun z hz => by
          cases List.mem_singleton.mp hz
          exact Or.inr ⟨by decide, _, k13, hNc 1 2 (by decide) (by decide) (by decide)⟩) rfl (by decide) k25 (va_Nw.use rfl (hX.2.2.1.1 2)) hc hv hcl ?_
        refine lv_astore (lv' := [(5, .ref q9), (0, .ref (ad 0)), (1, .int x1), (2, .int x2), (3, .int x3), (4, .ref o)]) hx hb dL_waive_19 hl (by decide) rfl (fun ls hl => ?_)
        refine lv_iconst (v := 2) hx hb dL_waive_21 (by decide) ?_
        refine W.widen (k := 3) (n := 18) (Nat.le_of_ble_eq_true rfl) (Nat.le_of_ble_eq_true rfl) ?_
        exact W.iret hx hb hr (fun t ht hW => ⟨⟨_, (), rfl, (sw_inj3 h).1, xl_end hP hO ht (sw_inj3 h).2.2 (sw_inj3 h).2.1⟩, hS.F ht⟩) hS.2.2 dL_waive_22 hlocks
      · replace h := sw_f h c2
        by_cases c3 : k = 3
        · replace h := sw_t h c3
          subst c3
          refine vx_catch (E := swE 3) (name := "java/lang/IllegalStateException") hown [⟨0, 12, 15, 13⟩, ⟨0, 12, 19, 25⟩] ⟨0, 12, 23, 15⟩ [] htab (fun z hz => by
            rcases List.mem_cons.mp hz with hz | hz
            · subst hz
              exact Or.inr ⟨by decide, _, k13, hNc 1 3 (by decide) (by decide) (by decide)⟩
            · cases List.mem_singleton.mp hz
              exact Or.inr ⟨by decide, _, k25, hNc 2 3 (by decide) (by decide) (by decide)⟩) rfl (by decide) k15 (va_Nw.use rfl (hX.2.2.1.1 3)) hc hv hcl ?_
          refine lv_astore (lv' := [(5, .ref q9), (0, .ref (ad 0)), (1, .int x1), (2, .int x2), (3, .int x3), (4, .ref o)]) hx hb dL_waive_23 hl (by decide) rfl (fun ls hl => ?_)
          refine lv_iconst (v := 3) hx hb dL_waive_25 (by decide) ?_
          refine W.widen (k := 3) (n := 18) (Nat.le_of_ble_eq_true rfl) (Nat.le_of_ble_eq_true rfl) ?_
          exact W.iret hx hb hr (fun t ht hW => ⟨⟨_, (), rfl, (sw_inj3 h).1, xl_end hP hO ht (sw_inj3 h).2.2 (sw_inj3 h).2.1⟩, hS.F ht⟩) hS.2.2 dL_waive_26 hlocks
        · replace h := sw_f h c3
          cases h
  · replace h := sw_t h hk
    refine lv_i2l hx hb dL_waive_10 rfl ?_
    refine xl_last hx hb hK hP hO ho hS dL_waive_11 (fun H locs hP hO hS => ?_)
    refine lv_goto (tgt := 27) hx hb dL_waive_12 (by decide) ?_
    refine lv_iconst (v := 0) hx hb dL_waive_27 (by decide) ?_
    refine W.widen (k := 3) (n := 18) (Nat.le_of_ble_eq_true rfl) (Nat.le_of_ble_eq_true rfl) ?_
    exact W.iret hx hb hr (fun t ht hW => ⟨⟨_, (), rfl, (sw_inj3 h).1, xl_end hP hO ht (sw_inj3 h).2.2 (sw_inj3 h).2.1⟩, hS.F ht⟩) hS.2.2 dL_waive_28 hlocks

def xl_blocks (u : swU) (x1 : Int32) (f : Nat → Int64) : Option (Int32 × (Nat → Int64) × swU) :=
  swbd (xx5_blocks u x1) fun z => match z with | (k, r, u2) => if k = 0 then some (0, vp_updL f 0 r.toInt64, u2) else if k = 1 then some (1, f, u2) else none

abbrev rmL_blocks : Room := { frames := 8, cells := 1, slots := 6, locals := 132 }

set_option maxHeartbeats 4000000 in
set_option maxRecDepth 100000 in
theorem xlm_blocks (l : Launch) (hst : l.stackTraces = false) (D : va_G) (cy : Nat → ClassId) (ad : Nat → Nat) (hJ : swJ xw_N ad) (o : Nat) (ho : ∀ c, xw_N c = true → ad c ≠ o) (u : swU) (x1 : Int32) (f : Nat → Int64) (sz : Nat) (r0 : Int32) (f0 : Nat → Int64) (u0 : swU) (h : xl_blocks u x1 f = some (r0, f0, u0)) : Met l yL_blocks wsL_blocks rmL_blocks (xlC D cy ad u sz o f [.ref (ad 0), .int x1, .ref o]) (xlQ D cy ad sz o r0 f0 u0) 1 6 (xlA ad sz o) := by
  refine va_MetW (cc := cL_blocks) (maxL := 4) (ret := (some .int)) (hh := [(0, 9, 12, 13)]) (by decide) rfl ?_
  intro p e s m args below meth c s₁ B hml hv
  obtain ⟨ha, hP, hK, hX, hNc, hsz, hO⟩ := hv
  have hx := B.exec
  have hb := B.bytes
  have hr := B.returns
  have hlocks := B.notSynchronized
  have hts := atoms_spec (ws := wsL_blocks) B.pre
  have hown : s.vm.findClass RL = some m.cls := findClass_of_methodNamed B.named
  have E : CallFix p m c cL_blocks 4 s args wsL_blocks RL := ⟨hx, hb, hml, hown, hts⟩
  have htab := vx_table (x := yL_blocks) B (hts (.codeWith yL_blocks cL_blocks 4 (some .int) [(0, 9, 12, 13)]) List.mem_cons_self)
  have k13 : (Cond.classLink RL 13 "java/lang/IndexOutOfBoundsException").before args s = true := hts _ (by decide +kernel)
  obtain ⟨ls, hl, hent⟩ := sw_entry m (n := 4) ha (Nat.le_of_ble_eq_true rfl)
  rw [hent]
  have hl : lv_has ls 4 [(0, .ref (ad 0)), (1, .int x1), (2, .ref o)] := hl
  unfold xl_blocks at h
  obtain ⟨⟨k, r, u2⟩, ek, h⟩ := swbd_s h
  dsimp only at h
  refine lv_aload_n hx hb dL_blocks_0 rfl (lv_at hl 2 rfl) ?_
  refine lv_iconst (v := 0) hx hb dL_blocks_1 (by decide) ?_
  refine lv_aload_n hx hb dL_blocks_2 rfl (lv_at hl 0 rfl) ?_
  refine lv_iload_n hx hb dL_blocks_3 rfl (lv_at hl 1 rfl) ?_
  refine xl_call (As := [.int x1]) (rest := [.int 0, .ref o]) E (xm5_blocks l hst D cy ad hJ u x1 sz k r u2 ek) (cwV 1 hts gL_blocks_X5_blocks rfl rfl rfl (by decide +kernel) ⟨Nat.le_of_ble_eq_true rfl, Nat.le_of_ble_eq_true rfl⟩) hK hP hX hO ho hsz ⟨Nat.le_of_ble_eq_true rfl, Nat.le_of_ble_eq_true rfl⟩ rfl hl.1 rfl (Nat.le_of_ble_eq_true rfl) dL_blocks_4 (fun hk ce q9 H locs hP hO hS hc hv hcl => ?_) (fun hk H locs hP hO hS => ?_)
  · replace h := sw_f h hk
    by_cases c1 : k = 1
    · replace h := sw_t h c1
      subst c1
      refine vx_catch (E := swE 1) (name := "java/lang/IndexOutOfBoundsException") hown [] ⟨0, 9, 12, 13⟩ [] htab (fun z hz => nomatch hz) rfl (by decide) k13 (va_Nw.use rfl (hX.2.2.1.1 1)) hc hv hcl ?_
      refine lv_astore_n (lv' := [(3, .ref q9), (0, .ref (ad 0)), (1, .int x1), (2, .ref o)]) hx hb dL_blocks_12 rfl hl (by decide) rfl (fun ls hl => ?_)
      refine lv_iconst (v := 1) hx hb dL_blocks_13 (by decide) ?_
      refine W.widen (k := 1) (n := 6) (Nat.le_of_ble_eq_true rfl) (Nat.le_of_ble_eq_true rfl) ?_
      exact W.iret hx hb hr (fun t ht hW => ⟨⟨_, (), rfl, (sw_inj3 h).1, xl_end hP hO ht (sw_inj3 h).2.2 (sw_inj3 h).2.1⟩, hS.F ht⟩) hS.2.2 dL_blocks_14 hlocks
    · replace h := sw_f h c1
      cases h
  · replace h := sw_t h hk
    refine lv_i2l hx hb dL_blocks_7 rfl ?_
    refine xl_last hx hb hK hP hO ho hS dL_blocks_8 (fun H locs hP hO hS => ?_)
    refine lv_goto (tgt := 15) hx hb dL_blocks_9 (by decide) ?_
    refine lv_iconst (v := 0) hx hb dL_blocks_15 (by decide) ?_
    refine W.widen (k := 1) (n := 6) (Nat.le_of_ble_eq_true rfl) (Nat.le_of_ble_eq_true rfl) ?_
    exact W.iret hx hb hr (fun t ht hW => ⟨⟨_, (), rfl, (sw_inj3 h).1, xl_end hP hO ht (sw_inj3 h).2.2 (sw_inj3 h).2.1⟩, hS.F ht⟩) hS.2.2 dL_blocks_16 hlocks

def xl_warnings (u : swU) (x1 : Int32) (f : Nat → Int64) : Option (Int32 × (Nat → Int64) × swU) :=
  swbd (xx5_warnings u x1) fun z => match z with | (k, r, u2) => if k = 0 then some (0, vp_updL f 0 r.toInt64, u2) else if k = 1 then some (1, f, u2) else none

abbrev rmL_warnings : Room := { frames := 8, cells := 1, slots := 6, locals := 136 }

set_option maxHeartbeats 4000000 in
set_option maxRecDepth 100000 in
theorem xlm_warnings (l : Launch) (hst : l.stackTraces = false) (D : va_G) (cy : Nat → ClassId) (ad : Nat → Nat) (hJ : swJ xw_N ad) (o : Nat) (ho : ∀ c, xw_N c = true → ad c ≠ o) (u : swU) (x1 : Int32) (f : Nat → Int64) (sz : Nat) (r0 : Int32) (f0 : Nat → Int64) (u0 : swU) (h : xl_warnings u x1 f = some (r0, f0, u0)) : Met l yL_warnings wsL_warnings rmL_warnings (xlC D cy ad u sz o f [.ref (ad 0), .int x1, .ref o]) (xlQ D cy ad sz o r0 f0 u0) 1 6 (xlA ad sz o) := by
  refine va_MetW (cc := cL_warnings) (maxL := 4) (ret := (some .int)) (hh := [(0, 9, 12, 13)]) (by decide) rfl ?_
  intro p e s m args below meth c s₁ B hml hv
  obtain ⟨ha, hP, hK, hX, hNc, hsz, hO⟩ := hv
  have hx := B.exec
  have hb := B.bytes
  have hr := B.returns
  have hlocks := B.notSynchronized
  have hts := atoms_spec (ws := wsL_warnings) B.pre
  have hown : s.vm.findClass RL = some m.cls := findClass_of_methodNamed B.named
  have E : CallFix p m c cL_warnings 4 s args wsL_warnings RL := ⟨hx, hb, hml, hown, hts⟩
  have htab := vx_table (x := yL_warnings) B (hts (.codeWith yL_warnings cL_warnings 4 (some .int) [(0, 9, 12, 13)]) List.mem_cons_self)
  have k13 : (Cond.classLink RL 13 "java/lang/IndexOutOfBoundsException").before args s = true := hts _ (by decide +kernel)
  obtain ⟨ls, hl, hent⟩ := sw_entry m (n := 4) ha (Nat.le_of_ble_eq_true rfl)
  rw [hent]
  have hl : lv_has ls 4 [(0, .ref (ad 0)), (1, .int x1), (2, .ref o)] := hl
  unfold xl_warnings at h
  obtain ⟨⟨k, r, u2⟩, ek, h⟩ := swbd_s h
  dsimp only at h
  refine lv_aload_n hx hb dL_warnings_0 rfl (lv_at hl 2 rfl) ?_
  refine lv_iconst (v := 0) hx hb dL_warnings_1 (by decide) ?_
  refine lv_aload_n hx hb dL_warnings_2 rfl (lv_at hl 0 rfl) ?_
  refine lv_iload_n hx hb dL_warnings_3 rfl (lv_at hl 1 rfl) ?_
  refine xl_call (As := [.int x1]) (rest := [.int 0, .ref o]) E (xm5_warnings l hst D cy ad hJ u x1 sz k r u2 ek) (cwV 1 hts gL_warnings_X5_warnings rfl rfl rfl (by decide +kernel) ⟨Nat.le_of_ble_eq_true rfl, Nat.le_of_ble_eq_true rfl⟩) hK hP hX hO ho hsz ⟨Nat.le_of_ble_eq_true rfl, Nat.le_of_ble_eq_true rfl⟩ rfl hl.1 rfl (Nat.le_of_ble_eq_true rfl) dL_warnings_4 (fun hk ce q9 H locs hP hO hS hc hv hcl => ?_) (fun hk H locs hP hO hS => ?_)
  · replace h := sw_f h hk
    by_cases c1 : k = 1
    · replace h := sw_t h c1
      subst c1
      refine vx_catch (E := swE 1) (name := "java/lang/IndexOutOfBoundsException") hown [] ⟨0, 9, 12, 13⟩ [] htab (fun z hz => nomatch hz) rfl (by decide) k13 (va_Nw.use rfl (hX.2.2.1.1 1)) hc hv hcl ?_
      refine lv_astore_n (lv' := [(3, .ref q9), (0, .ref (ad 0)), (1, .int x1), (2, .ref o)]) hx hb dL_warnings_12 rfl hl (by decide) rfl (fun ls hl => ?_)
      refine lv_iconst (v := 1) hx hb dL_warnings_13 (by decide) ?_
      refine W.widen (k := 1) (n := 6) (Nat.le_of_ble_eq_true rfl) (Nat.le_of_ble_eq_true rfl) ?_
      exact W.iret hx hb hr (fun t ht hW => ⟨⟨_, (), rfl, (sw_inj3 h).1, xl_end hP hO ht (sw_inj3 h).2.2 (sw_inj3 h).2.1⟩, hS.F ht⟩) hS.2.2 dL_warnings_14 hlocks
    · replace h := sw_f h c1
      cases h
  · replace h := sw_t h hk
    refine lv_i2l hx hb dL_warnings_7 rfl ?_
    refine xl_last hx hb hK hP hO ho hS dL_warnings_8 (fun H locs hP hO hS => ?_)
    refine lv_goto (tgt := 15) hx hb dL_warnings_9 (by decide) ?_
    refine lv_iconst (v := 0) hx hb dL_warnings_15 (by decide) ?_
    refine W.widen (k := 1) (n := 6) (Nat.le_of_ble_eq_true rfl) (Nat.le_of_ble_eq_true rfl) ?_
    exact W.iret hx hb hr (fun t ht hW => ⟨⟨_, (), rfl, (sw_inj3 h).1, xl_end hP hO ht (sw_inj3 h).2.2 (sw_inj3 h).2.1⟩, hS.F ht⟩) hS.2.2 dL_warnings_16 hlocks

def xl_firstBlock (u : swU) (x1 : Int32) (f : Nat → Int64) : Option (Int32 × (Nat → Int64) × swU) :=
  swbd (xx5_firstBlock u x1) fun z => match z with | (k, r, u2) => if k = 0 then some (0, vp_updL f 0 r.toInt64, u2) else if k = 1 then some (1, f, u2) else none

abbrev rmL_firstBlock : Room := { frames := 8, cells := 1, slots := 6, locals := 134 }

set_option maxHeartbeats 4000000 in
set_option maxRecDepth 100000 in
theorem xlm_firstBlock (l : Launch) (hst : l.stackTraces = false) (D : va_G) (cy : Nat → ClassId) (ad : Nat → Nat) (hJ : swJ xw_N ad) (o : Nat) (ho : ∀ c, xw_N c = true → ad c ≠ o) (u : swU) (x1 : Int32) (f : Nat → Int64) (sz : Nat) (r0 : Int32) (f0 : Nat → Int64) (u0 : swU) (h : xl_firstBlock u x1 f = some (r0, f0, u0)) : Met l yL_firstBlock wsL_firstBlock rmL_firstBlock (xlC D cy ad u sz o f [.ref (ad 0), .int x1, .ref o]) (xlQ D cy ad sz o r0 f0 u0) 1 6 (xlA ad sz o) := by
  refine va_MetW (cc := cL_firstBlock) (maxL := 4) (ret := (some .int)) (hh := [(0, 9, 12, 13)]) (by decide) rfl ?_
  intro p e s m args below meth c s₁ B hml hv
  obtain ⟨ha, hP, hK, hX, hNc, hsz, hO⟩ := hv
  have hx := B.exec
  have hb := B.bytes
  have hr := B.returns
  have hlocks := B.notSynchronized
  have hts := atoms_spec (ws := wsL_firstBlock) B.pre
  have hown : s.vm.findClass RL = some m.cls := findClass_of_methodNamed B.named
  have E : CallFix p m c cL_firstBlock 4 s args wsL_firstBlock RL := ⟨hx, hb, hml, hown, hts⟩
  have htab := vx_table (x := yL_firstBlock) B (hts (.codeWith yL_firstBlock cL_firstBlock 4 (some .int) [(0, 9, 12, 13)]) List.mem_cons_self)
  have k13 : (Cond.classLink RL 13 "java/lang/IndexOutOfBoundsException").before args s = true := hts _ (by decide +kernel)
  obtain ⟨ls, hl, hent⟩ := sw_entry m (n := 4) ha (Nat.le_of_ble_eq_true rfl)
  rw [hent]
  have hl : lv_has ls 4 [(0, .ref (ad 0)), (1, .int x1), (2, .ref o)] := hl
  unfold xl_firstBlock at h
  obtain ⟨⟨k, r, u2⟩, ek, h⟩ := swbd_s h
  dsimp only at h
  refine lv_aload_n hx hb dL_firstBlock_0 rfl (lv_at hl 2 rfl) ?_
  refine lv_iconst (v := 0) hx hb dL_firstBlock_1 (by decide) ?_
  refine lv_aload_n hx hb dL_firstBlock_2 rfl (lv_at hl 0 rfl) ?_
  refine lv_iload_n hx hb dL_firstBlock_3 rfl (lv_at hl 1 rfl) ?_
  refine xl_call (As := [.int x1]) (rest := [.int 0, .ref o]) E (xm5_firstBlock l hst D cy ad hJ u x1 sz k r u2 ek) (cwV 1 hts gL_firstBlock_X5_firstBlock rfl rfl rfl (by decide +kernel) ⟨Nat.le_of_ble_eq_true rfl, Nat.le_of_ble_eq_true rfl⟩) hK hP hX hO ho hsz ⟨Nat.le_of_ble_eq_true rfl, Nat.le_of_ble_eq_true rfl⟩ rfl hl.1 rfl (Nat.le_of_ble_eq_true rfl) dL_firstBlock_4 (fun hk ce q9 H locs hP hO hS hc hv hcl => ?_) (fun hk H locs hP hO hS => ?_)
  · replace h := sw_f h hk
    by_cases c1 : k = 1
    · replace h := sw_t h c1
      subst c1
      refine vx_catch (E := swE 1) (name := "java/lang/IndexOutOfBoundsException") hown [] ⟨0, 9, 12, 13⟩ [] htab (fun z hz => nomatch hz) rfl (by decide) k13 (va_Nw.use rfl (hX.2.2.1.1 1)) hc hv hcl ?_
      refine lv_astore_n (lv' := [(3, .ref q9), (0, .ref (ad 0)), (1, .int x1), (2, .ref o)]) hx hb dL_firstBlock_12 rfl hl (by decide) rfl (fun ls hl => ?_)
      refine lv_iconst (v := 1) hx hb dL_firstBlock_13 (by decide) ?_
      refine W.widen (k := 1) (n := 6) (Nat.le_of_ble_eq_true rfl) (Nat.le_of_ble_eq_true rfl) ?_
      exact W.iret hx hb hr (fun t ht hW => ⟨⟨_, (), rfl, (sw_inj3 h).1, xl_end hP hO ht (sw_inj3 h).2.2 (sw_inj3 h).2.1⟩, hS.F ht⟩) hS.2.2 dL_firstBlock_14 hlocks
    · replace h := sw_f h c1
      cases h
  · replace h := sw_t h hk
    refine lv_i2l hx hb dL_firstBlock_7 rfl ?_
    refine xl_last hx hb hK hP hO ho hS dL_firstBlock_8 (fun H locs hP hO hS => ?_)
    refine lv_goto (tgt := 15) hx hb dL_firstBlock_9 (by decide) ?_
    refine lv_iconst (v := 0) hx hb dL_firstBlock_15 (by decide) ?_
    refine W.widen (k := 1) (n := 6) (Nat.le_of_ble_eq_true rfl) (Nat.le_of_ble_eq_true rfl) ?_
    exact W.iret hx hb hr (fun t ht hW => ⟨⟨_, (), rfl, (sw_inj3 h).1, xl_end hP hO ht (sw_inj3 h).2.2 (sw_inj3 h).2.1⟩, hS.F ht⟩) hS.2.2 dL_firstBlock_16 hlocks

def xl_show (u : swU) (x1 : Int32) (f : Nat → Int64) : Option (Int32 × (Nat → Int64) × swU) :=
  swbd (xx5_show u x1) fun z => match z with | (k, r, u2) => if k = 0 then some (0, vp_updL f 0 r.toInt64, u2) else if k = 1 then some (1, f, u2) else if k = 3 then some (2, f, u2) else none

abbrev rmL_show : Room := { frames := 8, cells := 2, slots := 12, locals := 132 }

set_option maxHeartbeats 4000000 in
set_option maxRecDepth 100000 in
theorem xlm_show (l : Launch) (hst : l.stackTraces = false) (D : va_G) (cy : Nat → ClassId) (ad : Nat → Nat) (hJ : swJ xw_N ad) (o : Nat) (ho : ∀ c, xw_N c = true → ad c ≠ o) (u : swU) (x1 : Int32) (f : Nat → Int64) (sz : Nat) (r0 : Int32) (f0 : Nat → Int64) (u0 : swU) (h : xl_show u x1 f = some (r0, f0, u0)) : Met l yL_show wsL_show rmL_show (xlC D cy ad u sz o f [.ref (ad 0), .int x1, .ref o]) (xlQ D cy ad sz o r0 f0 u0) 2 12 (xlA ad sz o) := by
  refine va_MetW (cc := cL_show) (maxL := 4) (ret := (some .int)) (hh := [(0, 9, 12, 13), (0, 9, 15, 15)]) (by decide) rfl ?_
  intro p e s m args below meth c s₁ B hml hv
  obtain ⟨ha, hP, hK, hX, hNc, hsz, hO⟩ := hv
  have hx := B.exec
  have hb := B.bytes
  have hr := B.returns
  have hlocks := B.notSynchronized
  have hts := atoms_spec (ws := wsL_show) B.pre
  have hown : s.vm.findClass RL = some m.cls := findClass_of_methodNamed B.named
  have E : CallFix p m c cL_show 4 s args wsL_show RL := ⟨hx, hb, hml, hown, hts⟩
  have htab := vx_table (x := yL_show) B (hts (.codeWith yL_show cL_show 4 (some .int) [(0, 9, 12, 13), (0, 9, 15, 15)]) List.mem_cons_self)
  have k13 : (Cond.classLink RL 13 "java/lang/IndexOutOfBoundsException").before args s = true := hts _ (by decide +kernel)
  have k15 : (Cond.classLink RL 15 "java/lang/IllegalStateException").before args s = true := hts _ (by decide +kernel)
  obtain ⟨ls, hl, hent⟩ := sw_entry m (n := 4) ha (Nat.le_of_ble_eq_true rfl)
  rw [hent]
  have hl : lv_has ls 4 [(0, .ref (ad 0)), (1, .int x1), (2, .ref o)] := hl
  unfold xl_show at h
  obtain ⟨⟨k, r, u2⟩, ek, h⟩ := swbd_s h
  dsimp only at h
  refine lv_aload_n hx hb dL_show_0 rfl (lv_at hl 2 rfl) ?_
  refine lv_iconst (v := 0) hx hb dL_show_1 (by decide) ?_
  refine lv_aload_n hx hb dL_show_2 rfl (lv_at hl 0 rfl) ?_
  refine lv_iload_n hx hb dL_show_3 rfl (lv_at hl 1 rfl) ?_
  refine xl_call (As := [.int x1]) (rest := [.int 0, .ref o]) E (xm5_show l hst D cy ad hJ u x1 sz k r u2 ek) (cwV 1 hts gL_show_X5_show rfl rfl rfl (by decide +kernel) ⟨Nat.le_of_ble_eq_true rfl, Nat.le_of_ble_eq_true rfl⟩) hK hP hX hO ho hsz ⟨Nat.le_of_ble_eq_true rfl, Nat.le_of_ble_eq_true rfl⟩ rfl hl.1 rfl (Nat.le_of_ble_eq_true rfl) dL_show_4 (fun hk ce q9 H locs hP hO hS hc hv hcl => ?_) (fun hk H locs hP hO hS => ?_)
  · replace h := sw_f h hk
    by_cases c1 : k = 1
    · replace h := sw_t h c1
      subst c1
      refine vx_catch (E := swE 1) (name := "java/lang/IndexOutOfBoundsException") hown [] ⟨0, 9, 12, 13⟩ [⟨0, 9, 15, 15⟩] htab (fun z hz => nomatch hz) rfl (by decide) k13 (va_Nw.use rfl (hX.2.2.1.1 1)) hc hv hcl ?_
      refine lv_astore_n (lv' := [(3, .ref q9), (0, .ref (ad 0)), (1, .int x1), (2, .ref o)]) hx hb dL_show_12 rfl hl (by decide) rfl (fun ls hl => ?_)
      refine lv_iconst (v := 1) hx hb dL_show_13 (by decide) ?_
      refine W.widen (k := 2) (n := 12) (Nat.le_of_ble_eq_true rfl) (Nat.le_of_ble_eq_true rfl) ?_
      exact W.iret hx hb hr (fun t ht hW => ⟨⟨_, (), rfl, (sw_inj3 h).1, xl_end hP hO ht (sw_inj3 h).2.2 (sw_inj3 h).2.1⟩, hS.F ht⟩) hS.2.2 dL_show_14 hlocks
    · replace h := sw_f h c1
      by_cases c3 : k = 3
      · replace h := sw_t h c3
        subst c3
        refine vx_catch (E := swE 3) (name := "java/lang/IllegalStateException") hown [⟨0, 9, 12, 13⟩] ⟨0, 9, 15, 15⟩ [] htab (fun z hz => by
          cases List.mem_singleton.mp hz
          exact Or.inr ⟨by decide, _, k13, hNc 1 3 (by decide) (by decide) (by decide)⟩) rfl (by decide) k15 (va_Nw.use rfl (hX.2.2.1.1 3)) hc hv hcl ?_
        refine lv_astore_n (lv' := [(3, .ref q9), (0, .ref (ad 0)), (1, .int x1), (2, .ref o)]) hx hb dL_show_15 rfl hl (by decide) rfl (fun ls hl => ?_)
        refine lv_iconst (v := 2) hx hb dL_show_16 (by decide) ?_
        refine W.widen (k := 2) (n := 12) (Nat.le_of_ble_eq_true rfl) (Nat.le_of_ble_eq_true rfl) ?_
        exact W.iret hx hb hr (fun t ht hW => ⟨⟨_, (), rfl, (sw_inj3 h).1, xl_end hP hO ht (sw_inj3 h).2.2 (sw_inj3 h).2.1⟩, hS.F ht⟩) hS.2.2 dL_show_17 hlocks
      · replace h := sw_f h c3
        cases h
  · replace h := sw_t h hk
    refine lv_i2l hx hb dL_show_7 rfl ?_
    refine xl_last hx hb hK hP hO ho hS dL_show_8 (fun H locs hP hO hS => ?_)
    refine lv_goto (tgt := 18) hx hb dL_show_9 (by decide) ?_
    refine lv_iconst (v := 0) hx hb dL_show_18 (by decide) ?_
    refine W.widen (k := 2) (n := 12) (Nat.le_of_ble_eq_true rfl) (Nat.le_of_ble_eq_true rfl) ?_
    exact W.iret hx hb hr (fun t ht hW => ⟨⟨_, (), rfl, (sw_inj3 h).1, xl_end hP hO ht (sw_inj3 h).2.2 (sw_inj3 h).2.1⟩, hS.F ht⟩) hS.2.2 dL_show_19 hlocks

def xl_shown (u : swU) (x1 : Int32) (f : Nat → Int64) : Option (Int32 × (Nat → Int64) × swU) :=
  swbd (xx5_shown u x1) fun z => match z with | (k, r, u2) => if k = 0 then some (0, vp_updL f 0 r.toInt64, u2) else if k = 1 then some (1, f, u2) else none

abbrev rmL_shown : Room := { frames := 8, cells := 1, slots := 6, locals := 133 }

set_option maxHeartbeats 4000000 in
set_option maxRecDepth 100000 in
theorem xlm_shown (l : Launch) (hst : l.stackTraces = false) (D : va_G) (cy : Nat → ClassId) (ad : Nat → Nat) (hJ : swJ xw_N ad) (o : Nat) (ho : ∀ c, xw_N c = true → ad c ≠ o) (u : swU) (x1 : Int32) (f : Nat → Int64) (sz : Nat) (r0 : Int32) (f0 : Nat → Int64) (u0 : swU) (h : xl_shown u x1 f = some (r0, f0, u0)) : Met l yL_shown wsL_shown rmL_shown (xlC D cy ad u sz o f [.ref (ad 0), .int x1, .ref o]) (xlQ D cy ad sz o r0 f0 u0) 1 6 (xlA ad sz o) := by
  refine va_MetW (cc := cL_shown) (maxL := 4) (ret := (some .int)) (hh := [(0, 9, 12, 13)]) (by decide) rfl ?_
  intro p e s m args below meth c s₁ B hml hv
  obtain ⟨ha, hP, hK, hX, hNc, hsz, hO⟩ := hv
  have hx := B.exec
  have hb := B.bytes
  have hr := B.returns
  have hlocks := B.notSynchronized
  have hts := atoms_spec (ws := wsL_shown) B.pre
  have hown : s.vm.findClass RL = some m.cls := findClass_of_methodNamed B.named
  have E : CallFix p m c cL_shown 4 s args wsL_shown RL := ⟨hx, hb, hml, hown, hts⟩
  have htab := vx_table (x := yL_shown) B (hts (.codeWith yL_shown cL_shown 4 (some .int) [(0, 9, 12, 13)]) List.mem_cons_self)
  have k13 : (Cond.classLink RL 13 "java/lang/IndexOutOfBoundsException").before args s = true := hts _ (by decide +kernel)
  obtain ⟨ls, hl, hent⟩ := sw_entry m (n := 4) ha (Nat.le_of_ble_eq_true rfl)
  rw [hent]
  have hl : lv_has ls 4 [(0, .ref (ad 0)), (1, .int x1), (2, .ref o)] := hl
  unfold xl_shown at h
  obtain ⟨⟨k, r, u2⟩, ek, h⟩ := swbd_s h
  dsimp only at h
  refine lv_aload_n hx hb dL_shown_0 rfl (lv_at hl 2 rfl) ?_
  refine lv_iconst (v := 0) hx hb dL_shown_1 (by decide) ?_
  refine lv_aload_n hx hb dL_shown_2 rfl (lv_at hl 0 rfl) ?_
  refine lv_iload_n hx hb dL_shown_3 rfl (lv_at hl 1 rfl) ?_
  refine xl_call (As := [.int x1]) (rest := [.int 0, .ref o]) E (xm5_shown l hst D cy ad hJ u x1 sz k r u2 ek) (cwV 1 hts gL_shown_X5_shown rfl rfl rfl (by decide +kernel) ⟨Nat.le_of_ble_eq_true rfl, Nat.le_of_ble_eq_true rfl⟩) hK hP hX hO ho hsz ⟨Nat.le_of_ble_eq_true rfl, Nat.le_of_ble_eq_true rfl⟩ rfl hl.1 rfl (Nat.le_of_ble_eq_true rfl) dL_shown_4 (fun hk ce q9 H locs hP hO hS hc hv hcl => ?_) (fun hk H locs hP hO hS => ?_)
  · replace h := sw_f h hk
    by_cases c1 : k = 1
    · replace h := sw_t h c1
      subst c1
      refine vx_catch (E := swE 1) (name := "java/lang/IndexOutOfBoundsException") hown [] ⟨0, 9, 12, 13⟩ [] htab (fun z hz => nomatch hz) rfl (by decide) k13 (va_Nw.use rfl (hX.2.2.1.1 1)) hc hv hcl ?_
      refine lv_astore_n (lv' := [(3, .ref q9), (0, .ref (ad 0)), (1, .int x1), (2, .ref o)]) hx hb dL_shown_12 rfl hl (by decide) rfl (fun ls hl => ?_)
      refine lv_iconst (v := 1) hx hb dL_shown_13 (by decide) ?_
      refine W.widen (k := 1) (n := 6) (Nat.le_of_ble_eq_true rfl) (Nat.le_of_ble_eq_true rfl) ?_
      exact W.iret hx hb hr (fun t ht hW => ⟨⟨_, (), rfl, (sw_inj3 h).1, xl_end hP hO ht (sw_inj3 h).2.2 (sw_inj3 h).2.1⟩, hS.F ht⟩) hS.2.2 dL_shown_14 hlocks
    · replace h := sw_f h c1
      cases h
  · replace h := sw_t h hk
    refine lv_i2l hx hb dL_shown_7 rfl ?_
    refine xl_last hx hb hK hP hO ho hS dL_shown_8 (fun H locs hP hO hS => ?_)
    refine lv_goto (tgt := 15) hx hb dL_shown_9 (by decide) ?_
    refine lv_iconst (v := 0) hx hb dL_shown_15 (by decide) ?_
    refine W.widen (k := 1) (n := 6) (Nat.le_of_ble_eq_true rfl) (Nat.le_of_ble_eq_true rfl) ?_
    exact W.iret hx hb hr (fun t ht hW => ⟨⟨_, (), rfl, (sw_inj3 h).1, xl_end hP hO ht (sw_inj3 h).2.2 (sw_inj3 h).2.1⟩, hS.F ht⟩) hS.2.2 dL_shown_16 hlocks

def xl_pass (u : swU) (x1 : Int32) (f : Nat → Int64) : Option (Int32 × (Nat → Int64) × swU) :=
  swbd (xx5_pass u x1) fun z => match z with | (k, r, u2) => if k = 0 then some (0, vp_updL f 0 r.toInt64, u2) else if k = 2 then some (1, f, u2) else if k = 3 then some (2, f, u2) else none

abbrev rmL_pass : Room := { frames := 7, cells := 1, slots := 6, locals := 111 }

set_option maxHeartbeats 4000000 in
set_option maxRecDepth 100000 in
theorem xlm_pass (l : Launch) (hst : l.stackTraces = false) (D : va_G) (cy : Nat → ClassId) (ad : Nat → Nat) (hJ : swJ xw_N ad) (o : Nat) (ho : ∀ c, xw_N c = true → ad c ≠ o) (u : swU) (x1 : Int32) (f : Nat → Int64) (sz : Nat) (r0 : Int32) (f0 : Nat → Int64) (u0 : swU) (h : xl_pass u x1 f = some (r0, f0, u0)) : Met l yL_pass wsL_pass rmL_pass (xlC D cy ad u sz o f [.ref (ad 0), .int x1, .ref o]) (xlQ D cy ad sz o r0 f0 u0) 1 6 (xlA ad sz o) := by
  refine va_MetW (cc := cL_pass) (maxL := 4) (ret := (some .int)) (hh := [(0, 9, 12, 25), (0, 9, 15, 15)]) (by decide) rfl ?_
  intro p e s m args below meth c s₁ B hml hv
  obtain ⟨ha, hP, hK, hX, hNc, hsz, hO⟩ := hv
  have hx := B.exec
  have hb := B.bytes
  have hr := B.returns
  have hlocks := B.notSynchronized
  have hts := atoms_spec (ws := wsL_pass) B.pre
  have hown : s.vm.findClass RL = some m.cls := findClass_of_methodNamed B.named
  have E : CallFix p m c cL_pass 4 s args wsL_pass RL := ⟨hx, hb, hml, hown, hts⟩
  have htab := vx_table (x := yL_pass) B (hts (.codeWith yL_pass cL_pass 4 (some .int) [(0, 9, 12, 25), (0, 9, 15, 15)]) List.mem_cons_self)
  have k25 : (Cond.classLink RL 25 "java/lang/IllegalArgumentException").before args s = true := hts _ (by decide +kernel)
  have k15 : (Cond.classLink RL 15 "java/lang/IllegalStateException").before args s = true := hts _ (by decide +kernel)
  obtain ⟨ls, hl, hent⟩ := sw_entry m (n := 4) ha (Nat.le_of_ble_eq_true rfl)
  rw [hent]
  have hl : lv_has ls 4 [(0, .ref (ad 0)), (1, .int x1), (2, .ref o)] := hl
  unfold xl_pass at h
  obtain ⟨⟨k, r, u2⟩, ek, h⟩ := swbd_s h
  dsimp only at h
  refine lv_aload_n hx hb dL_pass_0 rfl (lv_at hl 2 rfl) ?_
  refine lv_iconst (v := 0) hx hb dL_pass_1 (by decide) ?_
  refine lv_aload_n hx hb dL_pass_2 rfl (lv_at hl 0 rfl) ?_
  refine lv_iload_n hx hb dL_pass_3 rfl (lv_at hl 1 rfl) ?_
  refine xl_call (As := [.int x1]) (rest := [.int 0, .ref o]) E (xm5_pass l hst D cy ad hJ u x1 sz k r u2 ek) (cwV 1 hts gL_pass_X5_pass rfl rfl rfl (by decide +kernel) ⟨Nat.le_of_ble_eq_true rfl, Nat.le_of_ble_eq_true rfl⟩) hK hP hX hO ho hsz ⟨Nat.le_of_ble_eq_true rfl, Nat.le_of_ble_eq_true rfl⟩ rfl hl.1 rfl (Nat.le_of_ble_eq_true rfl) dL_pass_4 (fun hk ce q9 H locs hP hO hS hc hv hcl => ?_) (fun hk H locs hP hO hS => ?_)
  · replace h := sw_f h hk
    by_cases c2 : k = 2
    · replace h := sw_t h c2
      subst c2
      refine vx_catch (E := swE 2) (name := "java/lang/IllegalArgumentException") hown [] ⟨0, 9, 12, 25⟩ [⟨0, 9, 15, 15⟩] htab (fun z hz => nomatch hz) rfl (by decide) k25 (va_Nw.use rfl (hX.2.2.1.1 2)) hc hv hcl ?_
      refine lv_astore_n (lv' := [(3, .ref q9), (0, .ref (ad 0)), (1, .int x1), (2, .ref o)]) hx hb dL_pass_12 rfl hl (by decide) rfl (fun ls hl => ?_)
      refine lv_iconst (v := 1) hx hb dL_pass_13 (by decide) ?_
      refine W.widen (k := 1) (n := 6) (Nat.le_of_ble_eq_true rfl) (Nat.le_of_ble_eq_true rfl) ?_
      exact W.iret hx hb hr (fun t ht hW => ⟨⟨_, (), rfl, (sw_inj3 h).1, xl_end hP hO ht (sw_inj3 h).2.2 (sw_inj3 h).2.1⟩, hS.F ht⟩) hS.2.2 dL_pass_14 hlocks
    · replace h := sw_f h c2
      by_cases c3 : k = 3
      · replace h := sw_t h c3
        subst c3
        refine vx_catch (E := swE 3) (name := "java/lang/IllegalStateException") hown [⟨0, 9, 12, 25⟩] ⟨0, 9, 15, 15⟩ [] htab (fun z hz => by
          cases List.mem_singleton.mp hz
          exact Or.inr ⟨by decide, _, k25, hNc 2 3 (by decide) (by decide) (by decide)⟩) rfl (by decide) k15 (va_Nw.use rfl (hX.2.2.1.1 3)) hc hv hcl ?_
        refine lv_astore_n (lv' := [(3, .ref q9), (0, .ref (ad 0)), (1, .int x1), (2, .ref o)]) hx hb dL_pass_15 rfl hl (by decide) rfl (fun ls hl => ?_)
        refine lv_iconst (v := 2) hx hb dL_pass_16 (by decide) ?_
        refine W.widen (k := 1) (n := 6) (Nat.le_of_ble_eq_true rfl) (Nat.le_of_ble_eq_true rfl) ?_
        exact W.iret hx hb hr (fun t ht hW => ⟨⟨_, (), rfl, (sw_inj3 h).1, xl_end hP hO ht (sw_inj3 h).2.2 (sw_inj3 h).2.1⟩, hS.F ht⟩) hS.2.2 dL_pass_17 hlocks
      · replace h := sw_f h c3
        cases h
  · replace h := sw_t h hk
    refine lv_i2l hx hb dL_pass_7 rfl ?_
    refine xl_last hx hb hK hP hO ho hS dL_pass_8 (fun H locs hP hO hS => ?_)
    refine lv_goto (tgt := 18) hx hb dL_pass_9 (by decide) ?_
    refine lv_iconst (v := 0) hx hb dL_pass_18 (by decide) ?_
    refine W.widen (k := 1) (n := 6) (Nat.le_of_ble_eq_true rfl) (Nat.le_of_ble_eq_true rfl) ?_
    exact W.iret hx hb hr (fun t ht hW => ⟨⟨_, (), rfl, (sw_inj3 h).1, xl_end hP hO ht (sw_inj3 h).2.2 (sw_inj3 h).2.1⟩, hS.F ht⟩) hS.2.2 dL_pass_19 hlocks
