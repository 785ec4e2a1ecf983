/-! MY LAYER: a family of cells by codes (a map from codes to cells, the codes' addresses apart), rows over it, and the small words that the printed functions are made of -/
abbrev swU : Type := (Nat → Nat → Int32) × (Nat → Int64)
def swI (u : swU) (c k : Nat) (x : Int32) : swU := (va_up u.1 c (upd (u.1 c) k x), u.2)
def swR (u : swU) (c : Nat) (f : Nat → Int32) : swU := (va_up u.1 c f, u.2)
def swL (u : swU) (c : Nat) (x : Int64) : swU := (u.1, va_up u.2 c x)
abbrev swB (b : Bool) : Int32 := match b with
  | true => 1
  | false => 0
def swZ (x : Int32) : Int32 := vp_nar .boolean x
def swix (i : Int32) (n : Nat) : Bool := decide (¬ (i < 0 ∨ n ≤ i.toNatClampNeg))
def swgd {α : Type} (b : Bool) (k : Option α) : Option α := if b = true then k else none
def swrd {α : Type} (n : Nat) (f : Nat → Int32) (i : Int32) (k : Int32 → Option α) : Option α := if swix i n = true then k (f i.toNatClampNeg) else none
def swlt {α β : Type} (x : β) (k : β → Option α) : Option α := k x
def swbd {α β : Type} (x : Option β) (k : β → Option α) : Option α := match x with
  | some y => k y
  | none => none
theorem swix_s {i : Int32} {n : Nat} (h : swix i n = true) : vp_in i n := by
  have h2 : ¬ (i < 0 ∨ n ≤ i.toNatClampNeg) := of_decide_eq_true h
  exact h2
theorem swgd_s {α : Type} {b : Bool} {k : Option α} {r : α} (h : swgd b k = some r) : b = true ∧ k = some r := by
  unfold swgd at h
  by_cases hb : b = true
  · rw [if_pos hb] at h
    exact ⟨hb, h⟩
  · rw [if_neg hb] at h
    cases h
theorem swrd_s {α : Type} {n : Nat} {f : Nat → Int32} {i : Int32} {k : Int32 → Option α} {r : α} (h : swrd n f i k = some r) : ∃ a, a = f i.toNatClampNeg ∧ vp_in i n ∧ k a = some r := by
  unfold swrd at h
  by_cases hb : swix i n = true
  · rw [if_pos hb] at h
    exact ⟨_, rfl, swix_s hb, h⟩
  · rw [if_neg hb] at h
    cases h
theorem swlt_s {α β : Type} {x : β} {k : β → Option α} {r : α} (h : swlt x k = some r) : ∃ a, a = x ∧ k a = some r := ⟨x, rfl, h⟩
theorem swbd_s {α β : Type} {x : Option β} {k : β → Option α} {r : α} (h : swbd x k = some r) : ∃ a, x = some a ∧ k a = some r := by
  cases x with
  | none => cases h
  | some y => exact ⟨y, rfl, h⟩
theorem sw_t {α : Type} {c : Prop} {dc : Decidable c} {a b : Option α} {r : Option α} (h : (@ite _ c dc a b) = r) (hc : c) : a = r := by
  rw [if_pos hc] at h
  exact h
theorem sw_f {α : Type} {c : Prop} {dc : Decidable c} {a b : Option α} {r : Option α} (h : (@ite _ c dc a b) = r) (hc : ¬ c) : b = r := by
  rw [if_neg hc] at h
  exact h
theorem swB_nar (b : Bool) : narrow .boolean (.int (swB b)) = .int (swB b) := by cases b <;> rfl
theorem swZ_B (b : Bool) : swZ (swB b) = swB b := by cases b <;> rfl
/-! the heap's picture -/
def swP (D : va_G) (N : Nat → Bool) (ad : Nat → Nat) (cel : Nat → va_E) (H : Heap) : Prop := ∀ c, N c = true → va_at D vwCl (ad c, cel c) H
def swJ (N : Nat → Bool) (ad : Nat → Nat) : Prop := ∀ c d, N c = true → N d = true → ad c = ad d → c = d
def swA (N : Nat → Bool) (ad : Nat → Nat) : Nat → Prop := fun q => ∃ c, N c = true ∧ q = ad c
theorem swP.kept {D : va_G} {N : Nat → Bool} {ad : Nat → Nat} {cel : Nat → va_E} {H H1 : Heap} {A : Nat → Prop} (h : swP D N ad cel H) (hq : ∀ q : Nat, q < H.size → ¬ A q → H1[q]? = H[q]?) (hn : ∀ c, N c = true → ¬ A (ad c)) : swP D N ad cel H1 := fun c hc => (h c hc).kept (hq _ (h c hc).lt (hn c hc))
theorem swP.eq {D : va_G} {N : Nat → Bool} {ad : Nat → Nat} {cel cel' : Nat → va_E} {H : Heap} (h : swP D N ad cel H) (he : ∀ c, cel' c = cel c) : swP D N ad cel' H := fun c hc => by rw [he c]; exact h c hc
theorem swP.up {D : va_G} {N : Nat → Bool} {ad : Nat → Nat} {cel : Nat → va_E} {H H1 : Heap} (h : swP D N ad cel H) (hJ : swJ N ad) {cd : Nat} (hN : N cd = true) {e : va_E} (he : va_at D vwCl (ad cd, e) H1) (oq : ∀ q : Nat, q ≠ ad cd → H1[q]? = H[q]?) : swP D N ad (va_up cel cd e) H1 := by
  intro c hc
  by_cases hcd : c = cd
  · subst hcd
    rw [va_up_self]
    exact he
  · rw [va_up_ne _ _ hcd]
    exact (h c hc).kept (oq _ (fun z => hcd (hJ c cd hc hN z)))
theorem swP.one {D : va_G} {N : Nat → Bool} {ad : Nat → Nat} {cel : Nat → va_E} {H : Heap} (h : swP D N ad cel H) {cd : Nat} (hN : N cd = true) {e : va_E} (he : cel cd = e) : va_P D vwCl [(ad cd, e)] H := by
  intro k q hk
  match k, hk with
  | 0, hk =>
    cases hk
    rw [← he]
    exact h cd hN
/-- the array classes: by number -/
def swT (cy : Nat → ClassId) : List (ClassId × FieldType) := [(cy 0, .int), (cy 1, .int), (cy 2, .object "Slidewarden$Rule"), (cy 3, .object "Slidewarden$Version"), (cy 4, .object "Slidewarden$Waiver"), (cy 5, .long)]
abbrev swK (D : va_G) (cy : Nat → ClassId) (U : State) : Prop := va_K D vwCl (swT cy) U
section SWROWS
variable {p : Program} {l : Launch} {e : Env} {R : Room} {s : State} {m : MethodId} {args : Array Value} {below : List Frame} {meth : Method} {c : Code} {H : Heap} {locs : List Loc} {cells slots : Nat} {Q : State → Prop}
variable {cc : ByteArray} {pc : Nat} {ls : Array Slot} {rest : List Value} {D : va_G} {cy : Nat → ClassId} {A : Nat → Prop} {N : Nat → Bool} {ad : Nat → Nat} {cel : Nat → va_E} {H0 : Heap}
theorem sw_get (hexec : p.tables.exec = Jvm.exec) (hb : c.code = cc) {own C : String} {T : u_T} {n ci index : Nat} {Ts : List Cond} (hts : ∀ w ∈ Ts, w.before args s = true) (hin : ∀ w ∈ u_ws C T n, w ∈ Ts) (hown : s.vm.findClass own = some m.cls) (hK : swK D cy s) (hP : swP D N ad cel H) {cd : Nat} (hN : N cd = true) {fs : List Value} (he : cel cd = .inr (ci, fs)) (hc : vwCl[ci]? = some (C, T, n)) (k : Nat) (hk : k < n) (hlink : (Cond.fieldLink own index (T k).1 (T k).2.1 (T k).2.2.1).before args s = true) {v : Value} (hv : fs[k]? = some v) (hdg : decode cc pc = .ok (.getfield index, 3))
    (kk : W p l e R s m args below meth c H locs cells slots Q (F0 m (pc + 3) ls (v :: rest))) : W p l e R s m args below meth c H locs cells slots Q (F0 m pc ls (.ref (ad cd) :: rest)) :=
  va_get (D := D) hexec hb hts hin hown hK (hP.one hN he) 0 rfl hc k hk hlink (fun _ h => h) hv hdg kk
theorem sw_put (hexec : p.tables.exec = Jvm.exec) (hb : c.code = cc) {own C : String} {T : u_T} {n ci index : Nat} {Ts : List Cond} (hts : ∀ w ∈ Ts, w.before args s = true) (hin : ∀ w ∈ u_ws C T n, w ∈ Ts) (ty0 : Nat → FieldType) (hty : ∀ k, k < n → parseFieldDescriptor (T k).2.2.1 = some (ty0 k)) (hnm : ∀ a, a < n → ∀ b, b < n → a ≠ b → (T a).2.1 ≠ (T b).2.1) (hown : s.vm.findClass own = some m.cls) (hK : swK D cy s) (hP : swP D N ad cel H) (hJ : swJ N ad) (hS0 : va_S A H0 H locs) {cd : Nat} (hN : N cd = true) (hA : A (ad cd)) {fs : List Value} (he : cel cd = .inr (ci, fs)) (hc : vwCl[ci]? = some (C, T, n)) (k : Nat) (hk : k < n) (hlink : (Cond.fieldLink own index (T k).1 (T k).2.1 (T k).2.2.1).before args s = true) (hfin : (T k).2.2.2 = false) {ty : FieldType} {v : Value} (hd : parseFieldDescriptor (T k).2.2.1 = some ty) (hn : narrow ty v = v) (hfit : fits ty v = true) (hl : k < fs.length)
    (hdg : decode cc pc = .ok (.putfield index, 3)) (kk : ∀ (H1 : Heap) (locs1 : List Loc), swP D N ad (va_up cel cd (.inr (ci, fs.set k v))) H1 → va_S A H0 H1 locs1 → W p l e R s m args below meth c H1 locs1 cells slots Q (F0 m (pc + 3) ls rest)) : W p l e R s m args below meth c H locs cells slots Q (F0 m pc ls (v :: .ref (ad cd) :: rest)) := by
  have hap := va_apart (own := own) hts hin ty0 hty hnm hK hc
  obtain ⟨r, h1, cell, q1, q2, q3, q4⟩ := hP.one hN he 0 _ rfl
  have hr : r = (C, T, n) := Option.some.inj (h1.symm.trans hc)
  subst hr
  obtain ⟨hS, hfc, kC, hkC, hkind⟩ := hK.1 ci _ hc
  obtain ⟨cf, kf, fi, f, hi, hsl⟩ := hS k hk
  have hlay := hts _ (hin _ (u_in_lay hk))
  unfold u_lay at hlay
  rw [if_neg (by rw [hfin]; decide)] at hlay
  have hst := (u_facts hfc hkC (u_lays hts hin hk) hi).1
  have h6 := u_store hfc hkC hkind hlay hi hd hn hfit
  refine W.putK hexec hb (f := f) ⟨hown, hlink, ⟨_, _, _, hi⟩, hst⟩ (by rw [q2]; exact h6) q1 q3 (by rw [hsl]; exact k2_hasslot (q4 k hk)) rfl rfl hdg fun H' e1 e2 e3 => ?_
  rw [hsl] at e1 ⊢
  exact kk H' _ (hP.up hJ hN ⟨_, hc, t_OB.to (V := updV (vp_V fs) k v) ⟨_, e1, q2, q3, t_set q4 hap hk v⟩ (fun j _ => vp_updV_set hl v j)⟩ e3) (hS0.put e2 e3 hA)
theorem sw_iald (hexec : p.tables.exec = Jvm.exec) (hb : c.code = cc) (hK : swK D cy s) (hP : swP D N ad cel H) {cd : Nat} (hN : N cd = true) {n : Nat} {f : Nat → Int32} (he : cel cd = .inl (cy 0, n, .inl f)) {i x : Int32} (hin : vp_in i n) (hdg : decode cc pc = .ok (.iaload, 1)) (hx : x = f i.toNatClampNeg)
    (kk : W p l e R s m args below meth c H locs cells slots Q (F0 m (pc + 1) ls (.int x :: rest))) : W p l e R s m args below meth c H locs cells slots Q (F0 m pc ls (.int i :: .ref (ad cd) :: rest)) := by
  subst hx
  exact va_iald hexec hb hK (hP.one hN he) 0 0 rfl rfl hin hdg kk
theorem sw_aald (hexec : p.tables.exec = Jvm.exec) (hb : c.code = cc) (hK : swK D cy s) (hP : swP D N ad cel H) {cd : Nat} (hN : N cd = true) {n t0 : Nat} {C : String} {cA : ClassId} {f : Nat → Option Nat} (ht : (swT cy)[t0]? = some (cA, .object C)) (he : cel cd = .inl (cA, n, .inr (.inr (.inr (.inr f))))) {i : Int32} {x : Nat} (hin : vp_in i n) (hdg : decode cc pc = .ok (.aaload, 1)) (hx : f i.toNatClampNeg = some x)
    (kk : W p l e R s m args below meth c H locs cells slots Q (F0 m (pc + 1) ls (.ref x :: rest))) : W p l e R s m args below meth c H locs cells slots Q (F0 m pc ls (.int i :: .ref (ad cd) :: rest)) := by
  refine va_aldq hexec hb hK (hP.one hN he) 0 t0 rfl ht hin hdg ?_
  rw [hx]
  exact kk
theorem sw_iast (hexec : p.tables.exec = Jvm.exec) (hb : c.code = cc) (hK : swK D cy s) (hP : swP D N ad cel H) (hJ : swJ N ad) (hS : va_S A H0 H locs) {cd : Nat} (hN : N cd = true) (hA : A (ad cd)) {n : Nat} {f : Nat → Int32} (he : cel cd = .inl (cy 0, n, .inl f)) {i x : Int32} (hin : vp_in i n) (hdg : decode cc pc = .ok (.iastore, 1))
    (kk : ∀ (H1 : Heap) (locs1 : List Loc), swP D N ad (va_up cel cd (.inl (cy 0, n, .inl (upd f i.toNatClampNeg x)))) H1 → va_S A H0 H1 locs1 → W p l e R s m args below meth c H1 locs1 cells slots Q (F0 m (pc + 1) ls rest)) : W p l e R s m args below meth c H locs cells slots Q (F0 m pc ls (.int x :: .int i :: .ref (ad cd) :: rest)) := by
  refine W.iast hexec hb (hP.one hN he 0 _ rfl) ((hK.2 0 (cy 0, .int) rfl).1 n (fun j => .int (f j))) (fun q => by cases q) (by show ¬ (i < 0 ∨ (arrV _ _ _).slots.size ≤ _); rw [arrV_size]; exact hin) rfl rfl hdg fun H1 e z oq => ?_
  refine kk H1 _ (hP.up hJ hN ?_ oq) (hS.put z oq hA)
  show H1[ad cd]? = some (vp_cell _ _)
  rw [e]
  rw [vp_cell_i, vp_cell_i, arrV_store]
  congr 2
  funext q
  by_cases hq : q = i.toNatClampNeg
  · subst hq
    simp [updV, upd]
  · simp [updV, upd, hq]
end SWROWS
theorem swP.recv {s : State} {D : va_G} {cy : Nat → ClassId} {N : Nat → Bool} {ad : Nat → Nat} {cel : Nat → va_E} {H : Heap} (hK : swK D cy s) (hP : swP D N ad cel H) {cd : Nat} (hN : N cd = true) {ci : Nat} {q : vw_C} {fs : List Value} (hc : vwCl[ci]? = some q) (he : cel cd = .inr (ci, fs)) : ∃ cell : Cell, H[ad cd]? = some cell ∧ cell.vm.isStatics = false ∧ s.vm.findClass q.1 = some cell.cls := va_recv hK (hP.one hN he) hc (q0 := 0) rfl
/-! ===== the model's family: code 0 its object, an array by the number of its field ===== -/
section MWROWS
variable {p : Program} {l : Launch} {e : Env} {R : Room} {s : State} {m : MethodId} {args : Array Value} {below : List Frame} {meth : Method} {c : Code} {H : Heap} {locs : List Loc} {cells slots : Nat} {Q : State → Prop}
variable {cc : ByteArray} {pc : Nat} {ls : Array Slot} {rest : List Value} {D : va_G} {cy : Nat → ClassId} {ad : Nat → Nat} {u : swU} {H0 : Heap}
end MWROWS
theorem sw_in1 {α : Type} {a b : α} (h : some a = some b) : a = b := Option.some.inj h
theorem sw_inj {α β : Type} {a b : α} {c d : β} (h : some (a, c) = some (b, d)) : a = b ∧ c = d := by
  cases h
  exact ⟨rfl, rfl⟩
theorem sw_entry (m : MethodId) {args : Array Value} {vs : List Value} {n : Nat} (ha : args = vs.toArray) (h : (lg_sl vs).length ≤ n) : ∃ ls, lv_has ls n (lv_args 0 vs) ∧ entryFrame m args n = F0 m 0 ls [] := by
  subst ha
  exact ⟨_, lv_entry vs h, lg_entry_eq m vs n⟩
section SWCALLS
variable {p : Program} {l : Launch} {e : Env} {R : Room} {s : State} {m : MethodId} {args : Array Value} {below : List Frame} {meth : Method} {c : Code} {H : Heap} {locs : List Loc} {cells slots : Nat} {Q : State → Prop}
variable {cc : ByteArray} {pc : Nat} {ls : Array Slot} {rest : List Value} {D : va_G} {cy : Nat → ClassId} {ad : Nat → Nat} {u : swU} {H0 : Heap}
variable {nL index n maxL : Nat} {Ts ws : List Cond} {own : String} {y : MethodName} {bytes : ByteArray} {ret : Option FieldType} {rm : Room} {As st : List Value}
theorem sw_top {x y : Int32} (hx : x = y) (k : W p l e R s m args below meth c H locs cells slots Q (F0 m pc ls (.int x :: rest))) : W p l e R s m args below meth c H locs cells slots Q (F0 m pc ls (.int y :: rest)) := by
  subst hx
  exact k
theorem sw_callSi {r0 : Int32} (E : CallFix p m c cc nL s args Ts own) (hM : Met l y ws rm (va_Pc As (fun _ => True)) (vp_Si (fun r : Int32 => r = r0)) 0 0 (fun _ => False)) (cw : CallB R s args own index y bytes maxL ret ws rm 0 0 n ∧ (Cond.static y).before args s = true) (hn : As.length = n) (hsize : ls.size = nL) (hst : st = As.reverse ++ rest) (hroom : (rest.map fun v => v.category).sum ≤ 8) (hdg : decode cc pc = .ok (.invokestatic index, 3))
    (kk : W p l e R s m args below meth c H locs 0 0 Q (F0 m (pc + 3) ls (.int r0 :: rest))) : W p l e R s m args below meth c H locs 0 0 Q (F0 m pc ls st) :=
  vp_callSi (W.runS E hM cw ⟨fun _ _ _ _ q => q, fun U hU hW => ⟨rfl, trivial⟩⟩ rfl hn hsize hst (lv_room hroom) hdg ⟨Nat.zero_le _, Nat.zero_le _⟩) (fun r hr => by rw [hr]; exact kk)
end SWCALLS
section MWCALLS
variable {p : Program} {l : Launch} {e : Env} {R : Room} {s : State} {m : MethodId} {args : Array Value} {below : List Frame} {meth : Method} {c : Code} {H : Heap} {locs : List Loc} {cells slots : Nat} {Q : State → Prop}
variable {cc : ByteArray} {pc : Nat} {ls : Array Slot} {rest : List Value} {D : va_G} {cy : Nat → ClassId} {ad : Nat → Nat} {u u2 : swU} {H0 : Heap}
variable {nL index n maxL : Nat} {Ts ws : List Cond} {own : String} {y : MethodName} {bytes : ByteArray} {ret : Option FieldType} {rm : Room} {As st : List Value}
end MWCALLS
