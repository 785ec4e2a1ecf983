/-! ===== the law's nine arrays: a family of cells by codes (0 a, 1 b: rows of longs; 2 o, 3 n, 4 p, 5 h, 6 r, 7 w, 8 q: rows of ints), and both families together ===== -/
abbrev lyU : Type := (Nat → Nat → Int32) × (Nat → Nat → Int64)
def lyI (y : lyU) (c k : Nat) (x : Int32) : lyU := (va_up y.1 c (upd (y.1 c) k x), y.2)
def lyL (y : lyU) (c k : Nat) (x : Int64) : lyU := (y.1, va_up y.2 c (vp_updL (y.2 c) k x))
def lyrd {α : Type} (n : Nat) (f : Nat → Int64) (i : Int32) (k : Int64 → Option α) : Option α := if swix i n = true then k (f i.toNatClampNeg) else none
theorem lyrd_s {α : Type} {n : Nat} {f : Nat → Int64} {i : Int32} {k : Int64 → Option α} {r : α} (h : lyrd n f i k = some r) : ∃ a, a = f i.toNatClampNeg ∧ vp_in i n ∧ k a = some r := by
  unfold lyrd at h
  by_cases hb : swix i n = true
  · rw [if_pos hb] at h
    exact ⟨_, rfl, swix_s hb, h⟩
  · rw [if_neg hb] at h
    cases h
/-- a division: not by 0 -/
def swdv {α : Type} (y : Int32) (k : Option α) : Option α := if y = 0 then none else k
theorem swdv_s {α : Type} {y : Int32} {k : Option α} {r : α} (h : swdv y k = some r) : ¬ y = 0 ∧ k = some r := by
  unfold swdv at h
  by_cases hb : y = 0
  · rw [if_pos hb] at h
    cases h
  · rw [if_neg hb] at h
    exact ⟨hb, h⟩
def swrem (x y : Int32) : Int32 := x - x / y * y
def swshl (x y : Int32) : Int32 := x <<< (y &&& 31)
def swshr (x y : Int32) : Int32 := x >>> (y &&& 31)
def lyshl (x : Int64) (y : Int32) : Int64 := x <<< (y.toInt64 &&& 63)
def lyshr (x : Int64) (y : Int32) : Int64 := x >>> (y.toInt64 &&& 63)
theorem swZ_hn {x : Int32} (h : swZ x = x) : narrow .boolean (.int x) = .int x := by
  have e : narrow .boolean (.int x) = .int (swZ x) := rfl
  rw [e, h]
/-- a place where roads meet -/
def swjn {α β : Type} (k : α) (body : α → β) : β := body k
theorem swjn_s {α β : Type} {k : α} {body : α → β} {r : β} (h : swjn k body = r) : ∃ k', k' = k ∧ body k' = r := ⟨k, rfl, h⟩
/-- a call of the class that throws nothing -/
def swnx {α : Type} (x : Option (Nat × Int32 × swU)) (k : Int32 → swU → Option α) : Option α := match x with
  | some (0, r, u) => k r u
  | _ => none
theorem swnx_s {α : Type} {x : Option (Nat × Int32 × swU)} {k : Int32 → swU → Option α} {r : α} (h : swnx x k = some r) : ∃ v u, x = some (0, v, u) ∧ k v u = some r := by
  match x, h with
  | some (0, v, u), h => exact ⟨v, u, rfl, h⟩
def lyN (c : Nat) : Bool := decide (c ≤ 8)
def lylen : Nat → Nat := fun c => match c with
  | 0 => 64 | 1 => 64 | 2 => 21 | 3 => 21 | 4 => 21 | 5 => 12 | 6 => 8 | 7 => 12 | _ => 6
def lycel (cy : Nat → ClassId) (y : lyU) : Nat → va_E := fun c => if c ≤ 1 then .inl (cy 5, 64, .inr (.inl (y.2 c))) else .inl (cy 0, lylen c, .inl (y.1 c))
abbrev lyP (D : va_G) (cy : Nat → ClassId) (al : Nat → Nat) (y : lyU) (H : Heap) : Prop := swP D lyN al (lycel cy y) H
abbrev lyA (al : Nat → Nat) : Nat → Prop := swA lyN al
theorem lycel_I {cy : Nat → ClassId} {y : lyU} {cd : Nat} (h : 2 ≤ cd) (k : Nat) (x : Int32) : ∀ c, lycel cy (lyI y cd k x) c = va_up (lycel cy y) cd (.inl (cy 0, lylen cd, .inl (upd (y.1 cd) k x))) c := by
  intro c
  by_cases hc : c = cd
  · subst hc
    rw [va_up_self]
    show (if c ≤ 1 then _ else _) = _
    rw [if_neg (by omega)]
    show (.inl (cy 0, lylen c, .inl (va_up y.1 c _ c)) : va_E) = _
    rw [va_up_self]
  · rw [va_up_ne _ _ hc]
    show (if c ≤ 1 then (.inl (cy 5, 64, .inr (.inl (y.2 c))) : va_E) else .inl (cy 0, lylen c, .inl (va_up y.1 cd _ c))) = _
    rw [va_up_ne _ _ hc]
    rfl
theorem lycel_L {cy : Nat → ClassId} {y : lyU} {cd : Nat} (h : cd ≤ 1) (k : Nat) (x : Int64) : ∀ c, lycel cy (lyL y cd k x) c = va_up (lycel cy y) cd (.inl (cy 5, 64, .inr (.inl (vp_updL (y.2 cd) k x)))) c := by
  intro c
  by_cases hc : c = cd
  · subst hc
    rw [va_up_self]
    show (if c ≤ 1 then _ else _) = _
    rw [if_pos h]
    show (.inl (cy 5, 64, .inr (.inl (va_up y.2 c _ c))) : va_E) = _
    rw [va_up_self]
  · rw [va_up_ne _ _ hc]
    show (if c ≤ 1 then (.inl (cy 5, 64, .inr (.inl (va_up y.2 cd _ c))) : va_E) else .inl (cy 0, lylen c, .inl (y.1 c))) = _
    rw [va_up_ne _ _ hc]
    rfl
def lyC (D : va_G) (cy : Nat → ClassId) (al : Nat → Nat) (y : lyU) (av : List Value) : Array Value → State → Prop := va_Pc av (fun U => lyP D cy al y U.heap ∧ swK D cy U)
theorem lyC_blind {D : va_G} {cy : Nat → ClassId} {al : Nat → Nat} {y : lyU} {av : List Value} : FrameBlind (lyC D cy al y av) := fun a U g mk q => ⟨q.1, q.2.1, va_K.moved (u := U) (U := U.calling g mk a) (Vm.Alike.refl U.vm) q.2.2⟩
def lyQv (D : va_G) (cy : Nat → ClassId) (al : Nat → Nat) (y0 : lyU) : Array Value → State → Outcome → State → Prop := va_Qv (fun _ : Unit => True) (fun _ t => lyP D cy al y0 t.heap) (lyA al)
def lyQi (D : va_G) (cy : Nat → ClassId) (al : Nat → Nat) (r0 : Int32) (y0 : lyU) : Array Value → State → Outcome → State → Prop := va_Qi (fun (r : Int32) (_ : Unit) => r = r0) (fun _ t => lyP D cy al y0 t.heap) (lyA al)
theorem ly_end {D : va_G} {cy : Nat → ClassId} {al : Nat → Nat} {y y0 : lyU} {H : Heap} {t : State} (h : lyP D cy al y H) (ht : t.heap = H) (e : y = y0) : lyP D cy al y0 t.heap := by
  rw [ht, ← e]
  exact h
/-! both families -/
def lbA (ad al : Nat → Nat) (sz : Nat) : Nat → Prop := fun q => xwA ad sz q ∨ lyA al q
def lbX0 (ad al : Nat → Nat) : Nat → Prop := fun q => xwA0 ad q ∨ lyA al q
def lbI (D : va_G) (cy : Nat → ClassId) (ad al : Nat → Nat) (u : swU) (y : lyU) (H : Heap) : Prop := xwP D cy ad u H ∧ lyP D cy al y H
def lbJ (ad al : Nat → Nat) : Prop := swJ xw_N ad ∧ swJ lyN al ∧ ∀ c d, xw_N c = true → lyN d = true → ad c ≠ al d
def swNc (U : State) : Prop := ∀ j k : Nat, j = 3 → k = 1 ∨ k = 2 → k < j → va_Nc (swE k) (swE j) U
def lbX (ad al : Nat → Nat) (U : State) : Prop := vx_Zq Bundle.tN "UNASSIGNED_STACK" Bundle.steD (lbX0 ad al) U U.heap ∧ vx_Zq Bundle.tN "SUPPRESSED_SENTINEL" Bundle.listD (lbX0 ad al) U U.heap ∧ ((∀ k, va_Nw (.castable (swE k) (swE k)) U) ∧ ∀ Y ∈ swYs, va_Nw (.declares (Bundle.initS Y)) U) ∧ ∀ q ∈ swStrs, ∃ a, vk_R RX5 q.1 q.2 a U
theorem lbX.toX {ad al : Nat → Nat} {U : State} (h : lbX ad al U) : swX ad U := ⟨swZq_of h.1 (fun _ _ h => Or.inl h), swZq_of h.2.1 (fun _ _ h => Or.inl h), h.2.2.1, h.2.2.2⟩
theorem lbX.moved {ad al : Nat → Nat} {s U : State} (h : lbX ad al s) (hW : s.WarmedH U.vm) (hq : ∀ q : Nat, q < s.heap.size → ¬ lbX0 ad al q → U.heap[q]? = s.heap[q]?) : lbX ad al U := by
  obtain ⟨z1, z2, ⟨w1, w2⟩, h4⟩ := h
  refine ⟨vx_Zq.moved hW.alike (z1.kept hq), vx_Zq.moved hW.alike (z2.kept hq), ⟨fun k => va_Nw.warmC hW (w1 k), fun Y hY => va_Nw.warmD hW (w2 Y hY)⟩, fun q hq => ?_⟩
  obtain ⟨a, ha⟩ := h4 q hq
  exact ⟨a, ha.warm hW⟩
theorem lbX.blind {ad al : Nat → Nat} {U : State} {g : JFrame} {mk : MethodId} {a : Array Value} (h : lbX ad al U) : lbX ad al (U.calling g mk a) := h.moved (State.WarmedH.refl U) (fun _ _ _ => rfl)
def lbC (D : va_G) (cy : Nat → ClassId) (ad al : Nat → Nat) (u : swU) (y : lyU) (sz : Nat) (av : List Value) : Array Value → State → Prop := va_Pc av (fun U => lbI D cy ad al u y U.heap ∧ swK D cy U ∧ lbX ad al U ∧ swNc U ∧ U.heap.size = sz)
theorem lbC_blind {D : va_G} {cy : Nat → ClassId} {ad al : Nat → Nat} {u : swU} {y : lyU} {sz : Nat} {av : List Value} : FrameBlind (lbC D cy ad al u y sz av) := fun a U g mk q => ⟨q.1, q.2.1, va_K.moved (u := U) (U := U.calling g mk a) (Vm.Alike.refl U.vm) q.2.2.1, q.2.2.2.1.blind, fun j k h1 h2 h3 => (q.2.2.2.2.1 j k h1 h2 h3).moved (Vm.Alike.refl U.vm), q.2.2.2.2.2⟩
def lbQ (D : va_G) (cy : Nat → ClassId) (ad al : Nat → Nat) (sz : Nat) (r0 : Int32) (u0 : swU) (y0 : lyU) : Array Value → State → Outcome → State → Prop := va_Qi (fun (r : Int32) (_ : Unit) => r = r0) (fun _ t => lbI D cy ad al u0 y0 t.heap) (lbA ad al sz)
theorem lb_end {D : va_G} {cy : Nat → ClassId} {ad al : Nat → Nat} {u u0 : swU} {y y0 : lyU} {H : Heap} {t : State} (h : lbI D cy ad al u y H) (ht : t.heap = H) (e : u = u0) (e2 : y = y0) : lbI D cy ad al u0 y0 t.heap := by
  rw [ht, ← e, ← e2]
  exact h
/-- what a body knows of its heaps: what it may write, and that the statics stand -/
def lbF (s : State) (A : Nat → Prop) (ad al : Nat → Nat) : Prop := ∀ (H : Heap) (locs : List Loc), va_S A s.heap H locs → (∀ q, lbA ad al H.size q → A q) ∧ ∀ U : State, U.heap = H → s.WarmedH U.vm → lbX ad al U
theorem lbF_of {s : State} {ad al : Nat → Nat} {sz : Nat} (hX : lbX ad al s) (hsz : s.heap.size = sz) : lbF s (lbA ad al sz) ad al := fun H locs hS => by
  refine ⟨fun q hq => ?_, fun U hU hW => hX.moved hW (fun q h1 h2 => ?_)⟩
  · rcases hq with (h | h) | h
    · exact Or.inl (Or.inl h)
    · have := hS.1
      exact Or.inl (Or.inr (by omega))
    · exact Or.inr h
  · rw [hU]
    refine hS.2.1 q h1 (fun z => h2 ?_)
    rcases z with (z | z) | z
    · exact Or.inl z
    · omega
    · exact Or.inr z
section LYROWS
variable {p : Program} {l : Launch} {e : Env} {R : Room} {s : State} {m : MethodId} {args : Array Value} {below : List Frame} {meth : Method} {c : Code} {H : Heap} {locs : List Loc} {cells slots : Nat} {Q : State → Prop}
variable {cc : ByteArray} {pc : Nat} {ls : Array Slot} {rest : List Value} {D : va_G} {cy : Nat → ClassId} {ad al : Nat → Nat} {u u2 : swU} {y y2 : lyU} {H0 : Heap} {A : Nat → Prop}
variable {nL index n maxL mc ms : Nat} {Ts ws : List Cond} {own : String} {y1 : MethodName} {bytes : ByteArray} {ret : Option FieldType} {rm : Room} {As st : List Value}
theorem ly_ald (hexec : p.tables.exec = Jvm.exec) (hb : c.code = cc) (hK : swK D cy s) (hP : lyP D cy al y H) {cd n : Nat} (hN : lyN cd = true) (he : lycel cy y cd = .inl (cy 0, n, .inl (y.1 cd))) {i x : Int32} (hin : vp_in i n) (hdg : decode cc pc = .ok (.iaload, 1)) (hx : x = y.1 cd i.toNatClampNeg)
    (kk : W p l e R s m args below meth c H locs cells slots Q (F0 m (pc + 1) ls (.int x :: rest))) : W p l e R s m args below meth c H locs cells slots Q (F0 m pc ls (.int i :: .ref (al cd) :: rest)) :=
  sw_iald hexec hb hK hP hN he hin hdg hx kk
theorem ly_lald (hexec : p.tables.exec = Jvm.exec) (hb : c.code = cc) (hK : swK D cy s) (hP : lyP D cy al y H) {cd : Nat} (hN : lyN cd = true) (he : lycel cy y cd = .inl (cy 5, 64, .inr (.inl (y.2 cd)))) {i : Int32} {x : Int64} (hin : vp_in i 64) (hdg : decode cc pc = .ok (.laload, 1)) (hx : x = y.2 cd i.toNatClampNeg)
    (kk : W p l e R s m args below meth c H locs cells slots Q (F0 m (pc + 1) ls (.long x :: rest))) : W p l e R s m args below meth c H locs cells slots Q (F0 m pc ls (.int i :: .ref (al cd) :: rest)) := by
  subst hx
  exact va_lald hexec hb hK (hP.one hN he) 0 5 rfl rfl hin hdg kk
theorem ly_ast (hexec : p.tables.exec = Jvm.exec) (hb : c.code = cc) (hK : swK D cy s) (hJ : swJ lyN al) (hA : ∀ q, lyA al q → A q) (hP : lyP D cy al y H) (hS : va_S A H0 H locs) {cd n : Nat} (h2 : 2 ≤ cd) (hN : lyN cd = true) (hn : lylen cd = n) (he : lycel cy y cd = .inl (cy 0, n, .inl (y.1 cd))) {i x : Int32} (hin : vp_in i n) (hu : y2 = lyI y cd i.toNatClampNeg x) (hdg : decode cc pc = .ok (.iastore, 1))
    (kk : ∀ (H1 : Heap) (locs1 : List Loc), lyP D cy al y2 H1 → va_S A H0 H1 locs1 → (∀ q : Nat, q < H.size → ¬ lyA al q → H1[q]? = H[q]?) → W p l e R s m args below meth c H1 locs1 cells slots Q (F0 m (pc + 1) ls rest)) : W p l e R s m args below meth c H locs cells slots Q (F0 m pc ls (.int x :: .int i :: .ref (al cd) :: rest)) := by
  subst hu
  subst hn
  refine W.iast hexec hb (hP.one hN he 0 _ rfl) ((hK.2 0 (cy 0, .int) rfl).1 (lylen cd) (fun j => .int (y.1 cd j))) (fun q => by cases q) (by show ¬ (i < 0 ∨ (arrV _ _ _).slots.size ≤ _); rw [arrV_size]; exact hin) rfl rfl hdg fun H1 e z oq => ?_
  refine kk H1 _ (swP.eq (hP.up hJ hN ?_ oq) (lycel_I h2 _ _)) (hS.put z oq (hA _ ⟨cd, hN, rfl⟩)) (fun q _ h => oq q (fun z => h ⟨cd, hN, z⟩))
  show H1[al cd]? = some (vp_cell _ _)
  rw [e]
  rw [vp_cell_i, vp_cell_i, arrV_store]
  congr 2
  funext q
  by_cases hq : q = i.toNatClampNeg
  · subst hq
    simp [updV, upd]
  · simp [updV, upd, hq]
theorem ly_last (hexec : p.tables.exec = Jvm.exec) (hb : c.code = cc) (hK : swK D cy s) (hJ : swJ lyN al) (hA : ∀ q, lyA al q → A q) (hP : lyP D cy al y H) (hS : va_S A H0 H locs) {cd n : Nat} (h2 : cd ≤ 1) (hN : lyN cd = true) (h64 : n = 64) (he : lycel cy y cd = .inl (cy 5, n, .inr (.inl (y.2 cd)))) {i : Int32} {x : Int64} (hin : vp_in i n) (hu : y2 = lyL y cd i.toNatClampNeg x) (hdg : decode cc pc = .ok (.lastore, 1))
    (kk : ∀ (H1 : Heap) (locs1 : List Loc), lyP D cy al y2 H1 → va_S A H0 H1 locs1 → W p l e R s m args below meth c H1 locs1 cells slots Q (F0 m (pc + 1) ls rest)) : W p l e R s m args below meth c H locs cells slots Q (F0 m pc ls (.long x :: .int i :: .ref (al cd) :: rest)) := by
  subst hu
  refine W.last hexec hb (hP.one hN he 0 _ rfl) ((hK.2 5 (cy 5, .long) rfl).1 n (fun j => .long (y.2 cd j))) (fun q => by cases q) (by show ¬ (i < 0 ∨ (arrV _ _ _).slots.size ≤ _); rw [arrV_size]; exact hin) rfl rfl hdg fun H1 e z oq => ?_
  refine kk H1 _ (swP.eq (hP.up hJ hN (e := .inl (cy 5, n, .inr (.inl (vp_updL (y.2 cd) i.toNatClampNeg x)))) ?_ oq) (by rw [h64]; exact lycel_L h2 _ _)) (hS.put z oq (hA _ ⟨cd, hN, rfl⟩))
  show H1[al cd]? = some (vp_cell _ _)
  rw [e]
  rw [vp_cell_l, vp_cell_l, arrV_store]
  congr 2
  funext q
  by_cases hq : q = i.toNatClampNeg
  · subst hq
    simp [updV, vp_updL]
  · simp [updV, vp_updL, hq]
/-- in a body that knows both families -/
theorem lb_ast (hexec : p.tables.exec = Jvm.exec) (hb : c.code = cc) (hK : swK D cy s) (hJ : lbJ ad al) (hF : lbF s A ad al) (hI : lbI D cy ad al u y H) (hS : va_S A s.heap H locs) {cd n : Nat} (h2 : 2 ≤ cd) (hN : lyN cd = true) (hn : lylen cd = n) (he : lycel cy y cd = .inl (cy 0, n, .inl (y.1 cd))) {i x : Int32} (hin : vp_in i n) (hu : y2 = lyI y cd i.toNatClampNeg x) (hdg : decode cc pc = .ok (.iastore, 1))
    (kk : ∀ (H1 : Heap) (locs1 : List Loc), lbI D cy ad al u y2 H1 → va_S A s.heap H1 locs1 → W p l e R s m args below meth c H1 locs1 cells slots Q (F0 m (pc + 1) ls rest)) : W p l e R s m args below meth c H locs cells slots Q (F0 m pc ls (.int x :: .int i :: .ref (al cd) :: rest)) :=
  ly_ast hexec hb hK hJ.2.1 (fun q h => (hF H locs hS).1 q (Or.inr h)) hI.2 hS h2 hN hn he hin hu hdg (fun H1 locs1 h1 h3 h4 => kk H1 locs1 ⟨hI.1.kept h4 (fun d hd z => by
    obtain ⟨e, he, h⟩ := z
    exact hJ.2.2 d e hd he h), h1⟩ h3)
theorem sw_topL {x y : Int64} (hx : x = y) (k : W p l e R s m args below meth c H locs cells slots Q (F0 m pc ls (.long x :: rest))) : W p l e R s m args below meth c H locs cells slots Q (F0 m pc ls (.long y :: rest)) := by
  subst hx
  exact k
theorem ly_stS {r0 : Int32} (E : CallFix p m c cc nL s args Ts own) (hM : Met l y1 ws rm (va_Pc As (fun _ => True)) (vp_Si (fun r : Int32 => r = r0)) 0 0 (fun _ => False)) (cw : CallB R s args own index y1 bytes maxL ret ws rm 0 0 n ∧ (Cond.static y1).before args s = true) (hcs : cells ≤ R.cells ∧ slots ≤ R.slots) (hn : As.length = n) (hsize : ls.size = nL) (hst : st = As.reverse ++ rest) (hroom : (rest.map fun v => v.category).sum ≤ 8) (hdg : decode cc pc = .ok (.invokestatic index, 3))
    (kk : W p l e R s m args below meth c H locs cells slots Q (F0 m (pc + 3) ls (.int r0 :: rest))) : W p l e R s m args below meth c H locs cells slots Q (F0 m pc ls st) :=
  vp_callSi (W.runS E hM cw ⟨fun _ _ _ _ q => q, fun U hU hW => ⟨rfl, trivial⟩⟩ rfl hn hsize hst (lv_room hroom) hdg hcs) (fun r hr => by rw [hr]; exact kk)
theorem ly_stL {r0 : Int64} (E : CallFix p m c cc nL s args Ts own) (hM : Met l y1 ws rm (va_Pc As (fun _ => True)) (vp_Sl (fun r : Int64 => r = r0)) 0 0 (fun _ => False)) (cw : CallB R s args own index y1 bytes maxL ret ws rm 0 0 n ∧ (Cond.static y1).before args s = true) (hcs : cells ≤ R.cells ∧ slots ≤ R.slots) (hn : As.length = n) (hsize : ls.size = nL) (hst : st = As.reverse ++ rest) (hroom : (rest.map fun v => v.category).sum ≤ 8) (hdg : decode cc pc = .ok (.invokestatic index, 3))
    (kk : W p l e R s m args below meth c H locs cells slots Q (F0 m (pc + 3) ls (.long r0 :: rest))) : W p l e R s m args below meth c H locs cells slots Q (F0 m pc ls st) :=
  vp_callSl (W.runS E hM cw ⟨fun _ _ _ _ q => q, fun U hU hW => ⟨rfl, trivial⟩⟩ rfl hn hsize hst (lv_room hroom) hdg hcs) (fun r hr => by rw [hr]; exact kk)
theorem ly_roS {r0 : Int32} (E : CallFix p m c cc nL s args Ts own) (hM : Met l y1 ws rm (lyC D cy al y As) (vp_Si (fun r : Int32 => r = r0)) 0 0 (fun _ => False)) (cw : CallB R s args own index y1 bytes maxL ret ws rm 0 0 n ∧ (Cond.static y1).before args s = true) (hK : swK D cy s) (hP : lyP D cy al y H) (hcs : cells ≤ R.cells ∧ slots ≤ R.slots) (hn : As.length = n) (hsize : ls.size = nL) (hst : st = As.reverse ++ rest) (hroom : (rest.map fun v => v.category).sum ≤ 8) (hdg : decode cc pc = .ok (.invokestatic index, 3))
    (kk : W p l e R s m args below meth c H locs cells slots Q (F0 m (pc + 3) ls (.int r0 :: rest))) : W p l e R s m args below meth c H locs cells slots Q (F0 m pc ls st) :=
  vp_callSi (W.runS E hM cw ⟨lyC_blind, fun U hU hW => ⟨rfl, by rw [hU]; exact hP, va_K.moved hW.alike hK⟩⟩ rfl hn hsize hst (lv_room hroom) hdg hcs) (fun r hr => by rw [hr]; exact kk)
theorem ly_roL {r0 : Int64} (E : CallFix p m c cc nL s args Ts own) (hM : Met l y1 ws rm (lyC D cy al y As) (vp_Sl (fun r : Int64 => r = r0)) 0 0 (fun _ => False)) (cw : CallB R s args own index y1 bytes maxL ret ws rm 0 0 n ∧ (Cond.static y1).before args s = true) (hK : swK D cy s) (hP : lyP D cy al y H) (hcs : cells ≤ R.cells ∧ slots ≤ R.slots) (hn : As.length = n) (hsize : ls.size = nL) (hst : st = As.reverse ++ rest) (hroom : (rest.map fun v => v.category).sum ≤ 8) (hdg : decode cc pc = .ok (.invokestatic index, 3))
    (kk : W p l e R s m args below meth c H locs cells slots Q (F0 m (pc + 3) ls (.long r0 :: rest))) : W p l e R s m args below meth c H locs cells slots Q (F0 m pc ls st) :=
  vp_callSl (W.runS E hM cw ⟨lyC_blind, fun U hU hW => ⟨rfl, by rw [hU]; exact hP, va_K.moved hW.alike hK⟩⟩ rfl hn hsize hst (lv_room hroom) hdg hcs) (fun r hr => by rw [hr]; exact kk)
theorem ly_rwV (E : CallFix p m c cc nL s args Ts own) (hM : Met l y1 ws rm (lyC D cy al y As) (lyQv D cy al y2) 0 0 (lyA al)) (cw : CallB R s args own index y1 bytes maxL ret ws rm 0 0 n ∧ (Cond.static y1).before args s = true) (hK : swK D cy s) (hA : ∀ q, lyA al q → A q) (hP : lyP D cy al y H) (hS : va_S A H0 H locs) (hcs : cells ≤ R.cells ∧ slots ≤ R.slots) (hn : As.length = n) (hsize : ls.size = nL) (hst : st = As.reverse ++ rest) (hroom : (rest.map fun v => v.category).sum ≤ 8) (hdg : decode cc pc = .ok (.invokestatic index, 3))
    (kk : ∀ (H1 : Heap) (locs1 : List Loc), lyP D cy al y2 H1 → va_S A H0 H1 locs1 → (∀ q : Nat, q < H.size → ¬ lyA al q → H1[q]? = H[q]?) → W p l e R s m args below meth c H1 locs1 cells slots Q (F0 m (pc + 3) ls rest)) : W p l e R s m args below meth c H locs cells slots Q (F0 m pc ls st) :=
  va_callv (va_runS E hM cw ⟨lyC_blind, fun U hU hW => ⟨rfl, by rw [hU]; exact hP, va_K.moved hW.alike hK⟩⟩ rfl hn hsize hst (lv_room hroom) hdg hcs) hS (fun q _ h => hA q h) hA (fun _ t H1 locs1 ht _ _ hB _ hk hS1 => by
    have hB : lyP D cy al y2 t.heap := hB
    rw [ht] at hB
    exact kk H1 locs1 hB hS1 hk)
theorem ly_rwI {r0 : Int32} (E : CallFix p m c cc nL s args Ts own) (hM : Met l y1 ws rm (lyC D cy al y As) (lyQi D cy al r0 y2) 0 0 (lyA al)) (cw : CallB R s args own index y1 bytes maxL ret ws rm 0 0 n ∧ (Cond.static y1).before args s = true) (hK : swK D cy s) (hA : ∀ q, lyA al q → A q) (hP : lyP D cy al y H) (hS : va_S A H0 H locs) (hcs : cells ≤ R.cells ∧ slots ≤ R.slots) (hn : As.length = n) (hsize : ls.size = nL) (hst : st = As.reverse ++ rest) (hroom : (rest.map fun v => v.category).sum ≤ 8) (hdg : decode cc pc = .ok (.invokestatic index, 3))
    (kk : ∀ (H1 : Heap) (locs1 : List Loc), lyP D cy al y2 H1 → va_S A H0 H1 locs1 → (∀ q : Nat, q < H.size → ¬ lyA al q → H1[q]? = H[q]?) → W p l e R s m args below meth c H1 locs1 cells slots Q (F0 m (pc + 3) ls (.int r0 :: rest))) : W p l e R s m args below meth c H locs cells slots Q (F0 m pc ls st) :=
  va_calli (va_runS E hM cw ⟨lyC_blind, fun U hU hW => ⟨rfl, by rw [hU]; exact hP, va_K.moved hW.alike hK⟩⟩ rfl hn hsize hst (lv_room hroom) hdg hcs) hS (fun q _ h => hA q h) hA (fun r _ t H1 locs1 ht _ hr hB _ hk hS1 => by
    have hB : lyP D cy al y2 t.heap := hB
    rw [ht] at hB
    rw [hr]
    exact kk H1 locs1 hB hS1 hk)
theorem lb_rwV (E : CallFix p m c cc nL s args Ts own) (hM : Met l y1 ws rm (lyC D cy al y As) (lyQv D cy al y2) 0 0 (lyA al)) (cw : CallB R s args own index y1 bytes maxL ret ws rm 0 0 n ∧ (Cond.static y1).before args s = true) (hK : swK D cy s) (hJ : lbJ ad al) (hF : lbF s A ad al) (hI : lbI D cy ad al u y H) (hS : va_S A s.heap H locs) (hcs : cells ≤ R.cells ∧ slots ≤ R.slots) (hn : As.length = n) (hsize : ls.size = nL) (hst : st = As.reverse ++ rest) (hroom : (rest.map fun v => v.category).sum ≤ 8) (hdg : decode cc pc = .ok (.invokestatic index, 3))
    (kk : ∀ (H1 : Heap) (locs1 : List Loc), lbI D cy ad al u y2 H1 → va_S A s.heap H1 locs1 → W p l e R s m args below meth c H1 locs1 cells slots Q (F0 m (pc + 3) ls rest)) : W p l e R s m args below meth c H locs cells slots Q (F0 m pc ls st) :=
  ly_rwV E hM cw hK (fun q h => (hF H locs hS).1 q (Or.inr h)) hI.2 hS hcs hn hsize hst hroom hdg (fun H1 locs1 h1 h3 h4 => kk H1 locs1 ⟨hI.1.kept h4 (fun d hd z => by
    obtain ⟨e, he, h⟩ := z
    exact hJ.2.2 d e hd he h), h1⟩ h3)
theorem lb_rwI {r0 : Int32} (E : CallFix p m c cc nL s args Ts own) (hM : Met l y1 ws rm (lyC D cy al y As) (lyQi D cy al r0 y2) 0 0 (lyA al)) (cw : CallB R s args own index y1 bytes maxL ret ws rm 0 0 n ∧ (Cond.static y1).before args s = true) (hK : swK D cy s) (hJ : lbJ ad al) (hF : lbF s A ad al) (hI : lbI D cy ad al u y H) (hS : va_S A s.heap H locs) (hcs : cells ≤ R.cells ∧ slots ≤ R.slots) (hn : As.length = n) (hsize : ls.size = nL) (hst : st = As.reverse ++ rest) (hroom : (rest.map fun v => v.category).sum ≤ 8) (hdg : decode cc pc = .ok (.invokestatic index, 3))
    (kk : ∀ (H1 : Heap) (locs1 : List Loc), lbI D cy ad al u y2 H1 → va_S A s.heap H1 locs1 → W p l e R s m args below meth c H1 locs1 cells slots Q (F0 m (pc + 3) ls (.int r0 :: rest))) : W p l e R s m args below meth c H locs cells slots Q (F0 m pc ls st) :=
  ly_rwI E hM cw hK (fun q h => (hF H locs hS).1 q (Or.inr h)) hI.2 hS hcs hn hsize hst hroom hdg (fun H1 locs1 h1 h3 h4 => kk H1 locs1 ⟨hI.1.kept h4 (fun d hd z => by
    obtain ⟨e, he, h⟩ := z
    exact hJ.2.2 d e hd he h), h1⟩ h3)
/-- a call of the class that throws or returns -/
theorem lb_x {k0 : Nat} {r0 : Int32} (E : CallFix p m c cc nL s args Ts own) (hM : vx_Met l y1 ws rm (xwCX D cy ad u H.size (.ref (ad 0) :: As)) (xwPi D cy ad H.size k0 r0 u2) (xwPx D cy ad H.size k0 u2) mc ms (xwA ad H.size)) (cw : CallW R s args own RX5 index y1 bytes maxL ret ws rm mc ms n) (hK : swK D cy s) (hJ : lbJ ad al) (hF : lbF s A ad al) (hI : lbI D cy ad al u y H) (hS : va_S A s.heap H locs) (hcs : cells + mc ≤ R.cells ∧ slots + ms ≤ R.slots) (hn : As.length = n) (hsize : ls.size = nL) (hst : st = As.reverse ++ .ref (ad 0) :: rest) (hroom : (rest.map fun v => v.category).sum ≤ 8) (hdg : decode cc pc = .ok (.invokevirtual index, 3))
    (kx : k0 ≠ 0 → ∀ (ce : Cell) (q9 : Addr) (H1 : Heap) (locs1 : List Loc), lbI D cy ad al u2 y H1 → va_S A s.heap H1 locs1 → H1[q9]? = some ce → ce.vm = .none → s.vm.findClass (swE k0) = some ce.cls → vx_W p l e R s m args below meth c H1 locs1 (cells + mc) (slots + ms) Q (F0 m pc ls rest) q9)
    (kk : k0 = 0 → ∀ (H1 : Heap) (locs1 : List Loc), lbI D cy ad al u2 y H1 → va_S A s.heap H1 locs1 → W p l e R s m args below meth c H1 locs1 (cells + mc) (slots + ms) Q (F0 m (pc + 3) ls (.int r0 :: rest))) : W p l e R s m args below meth c H locs cells slots Q (F0 m pc ls st) := by
  obtain ⟨f1, f2⟩ := hF H locs hS
  have hfr : ∀ q, xwA ad H.size q → A q := fun q hq => f1 q (Or.inl hq)
  have hkp : ∀ {H1 : Heap}, (∀ q : Nat, q < H.size → ¬ xwA ad H.size q → H1[q]? = H[q]?) → lyP D cy al y H1 := fun hk => hI.2.kept hk (fun d hd z => by
    rcases z with ⟨c, hc, e⟩ | z
    · exact hJ.2.2 c d hc hd e.symm
    · have : al d < H.size := (hI.2 d hd).lt
      omega)
  refine vx_calli (A0 := A) (vx_runV E hM cw ⟨xwCX_blind, xw_rO hK hI.1, fun U hU hW => ⟨rfl, by rw [hU]; exact hI.1, va_K.moved hW.alike hK, (f2 U hU hW).toX, by rw [hU]⟩⟩ rfl hn hsize hst (lv_room hroom) hdg hcs) hS (fun q _ h => hfr q h) hfr (fun q _ h => hfr q h) (fun E1 ce q9 _ t H1 locs1 ht _ hk hB hz hkk hS1 hc hv hcl => ?_) (fun r _ t H1 locs1 ht _ hk hB hz hkk hS1 => ?_)
  · obtain ⟨e1, e2⟩ := hB
    subst e1
    rw [ht] at e2
    exact kx hk ce q9 H1 locs1 ⟨e2, hkp hkk⟩ hS1 hc hv hcl
  · have e2 : xwP D cy ad u2 t.heap := hB
    rw [ht] at e2
    rw [hk.2]
    exact kk hk.1 H1 locs1 ⟨e2, hkp hkk⟩ hS1
theorem lb_x0 {r0 : Int32} (E : CallFix p m c cc nL s args Ts own) (hM : vx_Met l y1 ws rm (xwCX D cy ad u H.size (.ref (ad 0) :: As)) (xwPi D cy ad H.size 0 r0 u2) (xwPx D cy ad H.size 0 u2) mc ms (xwA ad H.size)) (cw : CallW R s args own RX5 index y1 bytes maxL ret ws rm mc ms n) (hK : swK D cy s) (hJ : lbJ ad al) (hF : lbF s A ad al) (hI : lbI D cy ad al u y H) (hS : va_S A s.heap H locs) (hcs : cells + mc ≤ R.cells ∧ slots + ms ≤ R.slots) (hn : As.length = n) (hsize : ls.size = nL) (hst : st = As.reverse ++ .ref (ad 0) :: rest) (hroom : (rest.map fun v => v.category).sum ≤ 8) (hdg : decode cc pc = .ok (.invokevirtual index, 3))
    (kk : ∀ (H1 : Heap) (locs1 : List Loc), lbI D cy ad al u2 y H1 → va_S A s.heap H1 locs1 → W p l e R s m args below meth c H1 locs1 (cells + mc) (slots + ms) Q (F0 m (pc + 3) ls (.int r0 :: rest))) : W p l e R s m args below meth c H locs cells slots Q (F0 m pc ls st) :=
  lb_x E hM cw hK hJ hF hI hS hcs hn hsize hst hroom hdg (fun h => absurd rfl h) (fun _ => kk)
/-- a call of a body that knows both families -/
theorem lb_b {r0 : Int32} (E : CallFix p m c cc nL s args Ts own) (hM : Met l y1 ws rm (lbC D cy ad al u y H.size As) (lbQ D cy ad al H.size r0 u2 y2) mc ms (lbA ad al H.size)) (cw : CallB R s args own index y1 bytes maxL ret ws rm mc ms n ∧ (Cond.static y1).before args s = true) (hK : swK D cy s) (hNc : swNc s) (hF : lbF s A ad al) (hI : lbI D cy ad al u y H) (hS : va_S A s.heap H locs) (hcs : cells + mc ≤ R.cells ∧ slots + ms ≤ R.slots) (hn : As.length = n) (hsize : ls.size = nL) (hst : st = As.reverse ++ rest) (hroom : (rest.map fun v => v.category).sum ≤ 8) (hdg : decode cc pc = .ok (.invokestatic index, 3))
    (kk : ∀ (H1 : Heap) (locs1 : List Loc), lbI D cy ad al u2 y2 H1 → va_S A s.heap H1 locs1 → W p l e R s m args below meth c H1 locs1 (cells + mc) (slots + ms) Q (F0 m (pc + 3) ls (.int r0 :: rest))) : W p l e R s m args below meth c H locs cells slots Q (F0 m pc ls st) := by
  obtain ⟨f1, f2⟩ := hF H locs hS
  refine va_calli (va_runS E hM cw ⟨lbC_blind, fun U hU hW => ⟨rfl, by rw [hU]; exact hI, va_K.moved hW.alike hK, f2 U hU hW, fun j k h1 h2 h3 => (hNc j k h1 h2 h3).moved hW.alike, by rw [hU]⟩⟩ rfl hn hsize hst (lv_room hroom) hdg hcs) hS (fun q _ h => f1 q h) f1 (fun r _ t H1 locs1 ht _ hr hB hz hk hS1 => ?_)
  have hB : lbI D cy ad al u2 y2 t.heap := hB
  rw [ht] at hB
  rw [hr]
  exact kk H1 locs1 hB hS1
theorem lb_bW {hh : List (Nat × Nat × Nat × Nat)} {r0 : Int32} (E : CallFix p m c cc nL s args Ts own) (hM : Met l y1 ws rm (lbC D cy ad al u y H.size As) (lbQ D cy ad al H.size r0 u2 y2) mc ms (lbA ad al H.size)) (cw : vx_CSW R s args own index y1 bytes maxL ret hh ws rm mc ms n) (hK : swK D cy s) (hNc : swNc s) (hF : lbF s A ad al) (hI : lbI D cy ad al u y H) (hS : va_S A s.heap H locs) (hcs : cells + mc ≤ R.cells ∧ slots + ms ≤ R.slots) (hn : As.length = n) (hsize : ls.size = nL) (hst : st = As.reverse ++ rest) (hroom : (rest.map fun v => v.category).sum ≤ 8) (hdg : decode cc pc = .ok (.invokestatic index, 3))
    (kk : ∀ (H1 : Heap) (locs1 : List Loc), lbI D cy ad al u2 y2 H1 → va_S A s.heap H1 locs1 → W p l e R s m args below meth c H1 locs1 (cells + mc) (slots + ms) Q (F0 m (pc + 3) ls (.int r0 :: rest))) : W p l e R s m args below meth c H locs cells slots Q (F0 m pc ls st) := by
  obtain ⟨f1, f2⟩ := hF H locs hS
  refine va_calli (vx_runSW E hM cw ⟨lbC_blind, fun U hU hW => ⟨rfl, by rw [hU]; exact hI, va_K.moved hW.alike hK, f2 U hU hW, fun j k h1 h2 h3 => (hNc j k h1 h2 h3).moved hW.alike, by rw [hU]⟩⟩ rfl hn hsize hst (lv_room hroom) hdg hcs) hS (fun q _ h => f1 q h) f1 (fun r _ t H1 locs1 ht _ hr hB hz hk hS1 => ?_)
  have hB : lbI D cy ad al u2 y2 t.heap := hB
  rw [ht] at hB
  rw [hr]
  exact kk H1 locs1 hB hS1
end LYROWS
