/-! MY LAYER: a family of cells by codes (a map from codes to cells, the codes' addresses apart), rows over it, and the small words that the printed functions are made of -/
abbrev swU : Type := (Nat → Nat → Int32) × (Nat → Int64)
def swI (u : swU) (c k : Nat) (x : Int32) : swU := (va_up u.1 c (upd (u.1 c) k x), u.2)
def swR (u : swU) (c : Nat) (f : Nat → Int32) : swU := (va_up u.1 c f, u.2)
def swL (u : swU) (c : Nat) (x : Int64) : swU := (u.1, va_up u.2 c x)
abbrev swB (b : Bool) : Int32 := match b with
  | true => 1
  | false => 0
def swZ (x : Int32) : Int32 := vp_nar .boolean x
def swix (i : Int32) (n : Nat) : Bool := decide (¬ (i < 0 ∨ n ≤ i.toNatClampNeg))
def swgd {α : Type} (b : Bool) (k : Option α) : Option α := if b = true then k else none
def swrd {α : Type} (n : Nat) (f : Nat → Int32) (i : Int32) (k : Int32 → Option α) : Option α := if swix i n = true then k (f i.toNatClampNeg) else none
def swlt {α β : Type} (x : β) (k : β → Option α) : Option α := k x
def swbd {α β : Type} (x : Option β) (k : β → Option α) : Option α := match x with
  | some y => k y
  | none => none
theorem swix_s {i : Int32} {n : Nat} (h : swix i n = true) : vp_in i n := by
  have h2 : ¬ (i < 0 ∨ n ≤ i.toNatClampNeg) := of_decide_eq_true h
  exact h2
theorem swgd_s {α : Type} {b : Bool} {k : Option α} {r : α} (h : swgd b k = some r) : b = true ∧ k = some r := by
  unfold swgd at h
  by_cases hb : b = true
  · rw [if_pos hb] at h
    exact ⟨hb, h⟩
  · rw [if_neg hb] at h
    cases h
theorem swrd_s {α : Type} {n : Nat} {f : Nat → Int32} {i : Int32} {k : Int32 → Option α} {r : α} (h : swrd n f i k = some r) : ∃ a, a = f i.toNatClampNeg ∧ vp_in i n ∧ k a = some r := by
  unfold swrd at h
  by_cases hb : swix i n = true
  · rw [if_pos hb] at h
    exact ⟨_, rfl, swix_s hb, h⟩
  · rw [if_neg hb] at h
    cases h
theorem swlt_s {α β : Type} {x : β} {k : β → Option α} {r : α} (h : swlt x k = some r) : ∃ a, a = x ∧ k a = some r := ⟨x, rfl, h⟩
theorem swbd_s {α β : Type} {x : Option β} {k : β → Option α} {r : α} (h : swbd x k = some r) : ∃ a, x = some a ∧ k a = some r := by
  cases x with
  | none => cases h
  | some y => exact ⟨y, rfl, h⟩
theorem sw_t {α : Type} {c : Prop} {dc : Decidable c} {a b : Option α} {r : Option α} (h : (@ite _ c dc a b) = r) (hc : c) : a = r := by
  rw [if_pos hc] at h
  exact h
theorem sw_f {α : Type} {c : Prop} {dc : Decidable c} {a b : Option α} {r : Option α} (h : (@ite _ c dc a b) = r) (hc : ¬ c) : b = r := by
  rw [if_neg hc] at h
  exact h
theorem swB_nar (b : Bool) : narrow .boolean (.int (swB b)) = .int (swB b) := by cases b <;> rfl
theorem swZ_B (b : Bool) : swZ (swB b) = swB b := by cases b <;> rfl
/-! the heap's picture -/
def swP (D : va_G) (N : Nat → Bool) (ad : Nat → Nat) (cel : Nat → va_E) (H : Heap) : Prop := ∀ c, N c = true → va_at D vwCl (ad c, cel c) H
def swJ (N : Nat → Bool) (ad : Nat → Nat) : Prop := ∀ c d, N c = true → N d = true → ad c = ad d → c = d
def swA (N : Nat → Bool) (ad : Nat → Nat) : Nat → Prop := fun q => ∃ c, N c = true ∧ q = ad c
theorem swP.kept {D : va_G} {N : Nat → Bool} {ad : Nat → Nat} {cel : Nat → va_E} {H H1 : Heap} {A : Nat → Prop} (h : swP D N ad cel H) (hq : ∀ q : Nat, q < H.size → ¬ A q → H1[q]? = H[q]?) (hn : ∀ c, N c = true → ¬ A (ad c)) : swP D N ad cel H1 := fun c hc => (h c hc).kept (hq _ (h c hc).lt (hn c hc))
theorem swP.eq {D : va_G} {N : Nat → Bool} {ad : Nat → Nat} {cel cel' : Nat → va_E} {H : Heap} (h : swP D N ad cel H) (he : ∀ c, cel' c = cel c) : swP D N ad cel' H := fun c hc => by rw [he c]; exact h c hc
theorem swP.up {D : va_G} {N : Nat → Bool} {ad : Nat → Nat} {cel : Nat → va_E} {H H1 : Heap} (h : swP D N ad cel H) (hJ : swJ N ad) {cd : Nat} (hN : N cd = true) {e : va_E} (he : va_at D vwCl (ad cd, e) H1) (oq : ∀ q : Nat, q ≠ ad cd → H1[q]? = H[q]?) : swP D N ad (va_up cel cd e) H1 := by
  intro c hc
  by_cases hcd : c = cd
  · subst hcd
    rw [va_up_self]
    exact he
  · rw [va_up_ne _ _ hcd]
    exact (h c hc).kept (oq _ (fun z => hcd (hJ c cd hc hN z)))
theorem swP.one {D : va_G} {N : Nat → Bool} {ad : Nat → Nat} {cel : Nat → va_E} {H : Heap} (h : swP D N ad cel H) {cd : Nat} (hN : N cd = true) {e : va_E} (he : cel cd = e) : va_P D vwCl [(ad cd, e)] H := by
  intro k q hk
  match k, hk with
  | 0, hk =>
    cases hk
    rw [← he]
    exact h cd hN
/-- the array classes: by number -/
def swT (cy : Nat → ClassId) : List (ClassId × FieldType) := [(cy 0, .int), (cy 1, .boolean), (cy 2, .object "Slidewarden$Rule"), (cy 3, .object "Slidewarden$Version"), (cy 4, .object "Slidewarden$Waiver"), (cy 5, .long)]
abbrev swK (D : va_G) (cy : Nat → ClassId) (U : State) : Prop := va_K D vwCl (swT cy) U
section SWROWS
variable {p : Program} {l : Launch} {e : Env} {R : Room} {s : State} {m : MethodId} {args : Array Value} {below : List Frame} {meth : Method} {c : Code} {H : Heap} {locs : List Loc} {cells slots : Nat} {Q : State → Prop}
variable {cc : ByteArray} {pc : Nat} {ls : Array Slot} {rest : List Value} {D : va_G} {cy : Nat → ClassId} {A : Nat → Prop} {N : Nat → Bool} {ad : Nat → Nat} {cel : Nat → va_E} {H0 : Heap}
theorem sw_get (hexec : p.tables.exec = Jvm.exec) (hb : c.code = cc) {own C : String} {T : u_T} {n ci index : Nat} {Ts : List Cond} (hts : ∀ w ∈ Ts, w.before args s = true) (hin : ∀ w ∈ u_ws C T n, w ∈ Ts) (hown : s.vm.findClass own = some m.cls) (hK : swK D cy s) (hP : swP D N ad cel H) {cd : Nat} (hN : N cd = true) {fs : List Value} (he : cel cd = .inr (ci, fs)) (hc : vwCl[ci]? = some (C, T, n)) (k : Nat) (hk : k < n) (hlink : (Cond.fieldLink own index (T k).1 (T k).2.1 (T k).2.2.1).before args s = true) {v : Value} (hv : fs[k]? = some v) (hdg : decode cc pc = .ok (.getfield index, 3))
    (kk : W p l e R s m args below meth c H locs cells slots Q (F0 m (pc + 3) ls (v :: rest))) : W p l e R s m args below meth c H locs cells slots Q (F0 m pc ls (.ref (ad cd) :: rest)) :=
  va_get (D := D) hexec hb hts hin hown hK (hP.one hN he) 0 rfl hc k hk hlink (fun _ h => h) hv hdg kk
theorem sw_put (hexec : p.tables.exec = Jvm.exec) (hb : c.code = cc) {own C : String} {T : u_T} {n ci index : Nat} {Ts : List Cond} (hts : ∀ w ∈ Ts, w.before args s = true) (hin : ∀ w ∈ u_ws C T n, w ∈ Ts) (ty0 : Nat → FieldType) (hty : ∀ k, k < n → parseFieldDescriptor (T k).2.2.1 = some (ty0 k)) (hnm : ∀ a, a < n → ∀ b, b < n → a ≠ b → (T a).2.1 ≠ (T b).2.1) (hown : s.vm.findClass own = some m.cls) (hK : swK D cy s) (hP : swP D N ad cel H) (hJ : swJ N ad) (hS0 : va_S A H0 H locs) {cd : Nat} (hN : N cd = true) (hA : A (ad cd)) {fs : List Value} (he : cel cd = .inr (ci, fs)) (hc : vwCl[ci]? = some (C, T, n)) (k : Nat) (hk : k < n) (hlink : (Cond.fieldLink own index (T k).1 (T k).2.1 (T k).2.2.1).before args s = true) (hfin : (T k).2.2.2 = false) {ty : FieldType} {v : Value} (hd : parseFieldDescriptor (T k).2.2.1 = some ty) (hn : narrow ty v = v) (hfit : fits ty v = true) (hl : k < fs.length)
    (hdg : decode cc pc = .ok (.putfield index, 3)) (kk : ∀ (H1 : Heap) (locs1 : List Loc), swP D N ad (va_up cel cd (.inr (ci, fs.set k v))) H1 → va_S A H0 H1 locs1 → W p l e R s m args below meth c H1 locs1 cells slots Q (F0 m (pc + 3) ls rest)) : W p l e R s m args below meth c H locs cells slots Q (F0 m pc ls (v :: .ref (ad cd) :: rest)) := by
  have hap := va_apart (own := own) hts hin ty0 hty hnm hK hc
  obtain ⟨r, h1, cell, q1, q2, q3, q4⟩ := hP.one hN he 0 _ rfl
  have hr : r = (C, T, n) := Option.some.inj (h1.symm.trans hc)
  subst hr
  obtain ⟨hS, hfc, kC, hkC, hkind⟩ := hK.1 ci _ hc
  obtain ⟨cf, kf, fi, f, hi, hsl⟩ := hS k hk
  have hlay := hts _ (hin _ (u_in_lay hk))
  unfold u_lay at hlay
  rw [if_neg (by rw [hfin]; decide)] at hlay
  have hst := (u_facts hfc hkC (u_lays hts hin hk) hi).1
  have h6 := u_store hfc hkC hkind hlay hi hd hn hfit
  refine W.putK hexec hb (f := f) ⟨hown, hlink, ⟨_, _, _, hi⟩, hst⟩ (by rw [q2]; exact h6) q1 q3 (by rw [hsl]; exact k2_hasslot (q4 k hk)) rfl rfl hdg fun H' e1 e2 e3 => ?_
  rw [hsl] at e1 ⊢
  exact kk H' _ (hP.up hJ hN ⟨_, hc, t_OB.to (V := updV (vp_V fs) k v) ⟨_, e1, q2, q3, t_set q4 hap hk v⟩ (fun j _ => vp_updV_set hl v j)⟩ e3) (hS0.put e2 e3 hA)
theorem sw_iald (hexec : p.tables.exec = Jvm.exec) (hb : c.code = cc) (hK : swK D cy s) (hP : swP D N ad cel H) {cd : Nat} (hN : N cd = true) {n : Nat} {f : Nat → Int32} (he : cel cd = .inl (cy 0, n, .inl f)) {i x : Int32} (hin : vp_in i n) (hdg : decode cc pc = .ok (.iaload, 1)) (hx : x = f i.toNatClampNeg)
    (kk : W p l e R s m args below meth c H locs cells slots Q (F0 m (pc + 1) ls (.int x :: rest))) : W p l e R s m args below meth c H locs cells slots Q (F0 m pc ls (.int i :: .ref (ad cd) :: rest)) := by
  subst hx
  exact va_iald hexec hb hK (hP.one hN he) 0 0 rfl rfl hin hdg kk
theorem sw_zald (hexec : p.tables.exec = Jvm.exec) (hb : c.code = cc) (hK : swK D cy s) (hP : swP D N ad cel H) {cd : Nat} (hN : N cd = true) {n : Nat} {f : Nat → Int32} (he : cel cd = .inl (cy 1, n, .inl f)) {i x : Int32} (hin : vp_in i n) (hdg : decode cc pc = .ok (.baload, 1)) (hx : x = f i.toNatClampNeg)
    (kk : W p l e R s m args below meth c H locs cells slots Q (F0 m (pc + 1) ls (.int x :: rest))) : W p l e R s m args below meth c H locs cells slots Q (F0 m pc ls (.int i :: .ref (ad cd) :: rest)) := by
  subst hx
  exact va_zald hexec hb hK (hP.one hN he) 0 1 rfl rfl hin hdg kk
theorem sw_aald (hexec : p.tables.exec = Jvm.exec) (hb : c.code = cc) (hK : swK D cy s) (hP : swP D N ad cel H) {cd : Nat} (hN : N cd = true) {n t0 : Nat} {C : String} {cA : ClassId} {f : Nat → Option Nat} (ht : (swT cy)[t0]? = some (cA, .object C)) (he : cel cd = .inl (cA, n, .inr (.inr (.inr (.inr f))))) {i : Int32} {x : Nat} (hin : vp_in i n) (hdg : decode cc pc = .ok (.aaload, 1)) (hx : f i.toNatClampNeg = some x)
    (kk : W p l e R s m args below meth c H locs cells slots Q (F0 m (pc + 1) ls (.ref x :: rest))) : W p l e R s m args below meth c H locs cells slots Q (F0 m pc ls (.int i :: .ref (ad cd) :: rest)) := by
  refine va_aldq hexec hb hK (hP.one hN he) 0 t0 rfl ht hin hdg ?_
  rw [hx]
  exact kk
theorem sw_iast (hexec : p.tables.exec = Jvm.exec) (hb : c.code = cc) (hK : swK D cy s) (hP : swP D N ad cel H) (hJ : swJ N ad) (hS : va_S A H0 H locs) {cd : Nat} (hN : N cd = true) (hA : A (ad cd)) {n : Nat} {f : Nat → Int32} (he : cel cd = .inl (cy 0, n, .inl f)) {i x : Int32} (hin : vp_in i n) (hdg : decode cc pc = .ok (.iastore, 1))
    (kk : ∀ (H1 : Heap) (locs1 : List Loc), swP D N ad (va_up cel cd (.inl (cy 0, n, .inl (upd f i.toNatClampNeg x)))) H1 → va_S A H0 H1 locs1 → W p l e R s m args below meth c H1 locs1 cells slots Q (F0 m (pc + 1) ls rest)) : W p l e R s m args below meth c H locs cells slots Q (F0 m pc ls (.int x :: .int i :: .ref (ad cd) :: rest)) := by
  refine W.iast hexec hb (hP.one hN he 0 _ rfl) ((hK.2 0 (cy 0, .int) rfl).1 n (fun j => .int (f j))) (fun q => by cases q) (by show ¬ (i < 0 ∨ (arrV _ _ _).slots.size ≤ _); rw [arrV_size]; exact hin) rfl rfl hdg fun H1 e z oq => ?_
  refine kk H1 _ (hP.up hJ hN ?_ oq) (hS.put z oq hA)
  show H1[ad cd]? = some (vp_cell _ _)
  rw [e]
  rw [vp_cell_i, vp_cell_i, arrV_store]
  congr 2
  funext q
  by_cases hq : q = i.toNatClampNeg
  · subst hq
    simp [updV, upd]
  · simp [updV, upd, hq]
theorem sw_zast (hexec : p.tables.exec = Jvm.exec) (hb : c.code = cc) (hK : swK D cy s) (hP : swP D N ad cel H) (hJ : swJ N ad) (hS : va_S A H0 H locs) {cd : Nat} (hN : N cd = true) (hA : A (ad cd)) {n : Nat} {f : Nat → Int32} (he : cel cd = .inl (cy 1, n, .inl f)) {i x : Int32} (hin : vp_in i n) (hdg : decode cc pc = .ok (.bastore, 1))
    (kk : ∀ (H1 : Heap) (locs1 : List Loc), swP D N ad (va_up cel cd (.inl (cy 1, n, .inl (upd f i.toNatClampNeg (swZ x))))) H1 → va_S A H0 H1 locs1 → W p l e R s m args below meth c H1 locs1 cells slots Q (F0 m (pc + 1) ls rest)) : W p l e R s m args below meth c H locs cells slots Q (F0 m pc ls (.int x :: .int i :: .ref (ad cd) :: rest)) := by
  refine W.zast hexec hb (hP.one hN he 0 _ rfl) ((hK.2 1 (cy 1, .boolean) rfl).1 n (fun j => .int (f j))) (fun q => by cases q) (by show ¬ (i < 0 ∨ (arrV _ _ _).slots.size ≤ _); rw [arrV_size]; exact hin) rfl rfl hdg fun H1 e z oq => ?_
  refine kk H1 _ (hP.up hJ hN ?_ oq) (hS.put z oq hA)
  show H1[ad cd]? = some (vp_cell _ _)
  rw [e]
  rw [vp_cell_i, vp_cell_i, arrV_store]
  congr 2
  funext q
  by_cases hq : q = i.toNatClampNeg
  · subst hq
    simp [updV, upd, swZ, vp_nar]
    try rfl
  · simp [updV, upd, hq]
end SWROWS
theorem swP.recv {s : State} {D : va_G} {cy : Nat → ClassId} {N : Nat → Bool} {ad : Nat → Nat} {cel : Nat → va_E} {H : Heap} (hK : swK D cy s) (hP : swP D N ad cel H) {cd : Nat} (hN : N cd = true) {ci : Nat} {q : vw_C} {fs : List Value} (hc : vwCl[ci]? = some q) (he : cel cd = .inr (ci, fs)) : ∃ cell : Cell, H[ad cd]? = some cell ∧ cell.vm.isStatics = false ∧ s.vm.findClass q.1 = some cell.cls := va_recv hK (hP.one hN he) hc (q0 := 0) rfl
/-! ===== the model's family: code 0 its object, an array by the number of its field ===== -/
def mw_len : Nat → Nat := fun c => match c with
  | 2 => 40 | 3 => 40 | 4 => 40 | 5 => 40 | 6 => 320 | 7 => 1280 | 10 => 6 | 11 => 6 | 13 => 8 | 14 => 8 | 15 => 8 | 16 => 8 | 18 => 12 | 19 => 12 | 20 => 12 | 23 => 20 | 24 => 80 | 25 => 40 | 26 => 40 | 27 => 40
  | _ => 0
def mw_k : Nat → Nat := fun c => match c with
  | 25 => 1 | 26 => 1 | 27 => 1
  | _ => 0
def mw_N (c : Nat) : Bool := match c with
  | 0 => true
  | c => mw_len c != 0
def mw_fs (ad : Nat → Nat) (u : swU) : List Value := [.int (u.1 0 0), .int (u.1 0 1), .ref (ad 2), .ref (ad 3), .ref (ad 4), .ref (ad 5), .ref (ad 6), .ref (ad 7), .int (u.1 0 8), .int (u.1 0 9), .ref (ad 10), .ref (ad 11), .int (u.1 0 12), .ref (ad 13), .ref (ad 14), .ref (ad 15), .ref (ad 16), .int (u.1 0 17), .ref (ad 18), .ref (ad 19), .ref (ad 20), .int (u.1 0 21), .int (u.1 0 22), .ref (ad 23), .ref (ad 24), .ref (ad 25), .ref (ad 26), .ref (ad 27)]
def mw_cel (cy : Nat → ClassId) (ad : Nat → Nat) (u : swU) : Nat → va_E := fun c => if c = 0 then .inr (6, mw_fs ad u) else .inl (cy (mw_k c), mw_len c, .inl (u.1 c))
abbrev mwP (D : va_G) (cy : Nat → ClassId) (ad : Nat → Nat) (u : swU) (H : Heap) : Prop := swP D mw_N ad (mw_cel cy ad u) H
abbrev mwA (ad : Nat → Nat) : Nat → Prop := swA mw_N ad
def mw_sc (k : Nat) : Bool := k == 0 || k == 1 || k == 8 || k == 9 || k == 12 || k == 17 || k == 21 || k == 22
theorem mw_upS {cy : Nat → ClassId} {ad : Nat → Nat} {u : swU} {k : Nat} (hk : mw_sc k = true) (x : Int32) : ∀ c, mw_cel cy ad (swI u 0 k x) c = va_up (mw_cel cy ad u) 0 (.inr (6, (mw_fs ad u).set k (.int x))) c := by
  intro c
  by_cases hc : c = 0
  · subst hc
    rw [va_up_self]
    show Sum.inr (6, mw_fs ad (swI u 0 k x)) = _
    simp only [mw_sc, Bool.or_eq_true, beq_iff_eq] at hk
    rcases hk with ((((((rfl | rfl) | rfl) | rfl) | rfl) | rfl) | rfl) | rfl <;> rfl
  · rw [va_up_ne _ _ hc]
    simp only [mw_cel, if_neg hc, swI, va_up_ne _ _ hc]
theorem mw_upA {cy : Nat → ClassId} {ad : Nat → Nat} {u : swU} {cd : Nat} (hcd : cd ≠ 0) (k : Nat) (x : Int32) : ∀ c, mw_cel cy ad (swI u cd k x) c = va_up (mw_cel cy ad u) cd (.inl (cy (mw_k cd), mw_len cd, .inl (upd (u.1 cd) k x))) c := by
  intro c
  by_cases hc : c = cd
  · subst hc
    rw [va_up_self]
    simp only [mw_cel, if_neg hcd, swI, va_up_self]
  · rw [va_up_ne _ _ hc]
    by_cases h0 : c = 0
    · subst h0
      simp only [mw_cel, if_true, mw_fs, swI, va_up_ne _ _ hc]
    · simp only [mw_cel, if_neg h0, swI, va_up_ne _ _ hc]
section MWROWS
variable {p : Program} {l : Launch} {e : Env} {R : Room} {s : State} {m : MethodId} {args : Array Value} {below : List Frame} {meth : Method} {c : Code} {H : Heap} {locs : List Loc} {cells slots : Nat} {Q : State → Prop}
variable {cc : ByteArray} {pc : Nat} {ls : Array Slot} {rest : List Value} {D : va_G} {cy : Nat → ClassId} {ad : Nat → Nat} {u : swU} {H0 : Heap}
theorem mw_get (hexec : p.tables.exec = Jvm.exec) (hb : c.code = cc) {index : Nat} {Ts : List Cond} (hts : ∀ w ∈ Ts, w.before args s = true) (hin : ∀ w ∈ wsX60, w ∈ Ts) (hown : s.vm.findClass RX6 = some m.cls) (hK : swK D cy s) (hP : mwP D cy ad u H) (k : Nat) (hk : k < 28) (hlink : (Cond.fieldLink RX6 index (TX6 k).1 (TX6 k).2.1 (TX6 k).2.2.1).before args s = true) {v : Value} (hv : (mw_fs ad u)[k]? = some v) (hdg : decode cc pc = .ok (.getfield index, 3))
    (kk : W p l e R s m args below meth c H locs cells slots Q (F0 m (pc + 3) ls (v :: rest))) : W p l e R s m args below meth c H locs cells slots Q (F0 m pc ls (.ref (ad 0) :: rest)) :=
  sw_get hexec hb hts hin hown hK hP (cd := 0) rfl (he := rfl) rfl k hk hlink hv hdg kk
theorem mw_put (hexec : p.tables.exec = Jvm.exec) (hb : c.code = cc) {index : Nat} {Ts : List Cond} (hts : ∀ w ∈ Ts, w.before args s = true) (hin : ∀ w ∈ wsX60, w ∈ Ts) (hown : s.vm.findClass RX6 = some m.cls) (hK : swK D cy s) (hJ : swJ mw_N ad) (hP : mwP D cy ad u H) (hS : va_S (mwA ad) H0 H locs) (k : Nat) (hk : k < 28) (hsc : mw_sc k = true) (hlink : (Cond.fieldLink RX6 index (TX6 k).1 (TX6 k).2.1 (TX6 k).2.2.1).before args s = true) {x : Int32} {u2 : swU} (hu : u2 = swI u 0 k x) (hdg : decode cc pc = .ok (.putfield index, 3))
    (kk : ∀ (H1 : Heap) (locs1 : List Loc), mwP D cy ad u2 H1 → va_S (mwA ad) H0 H1 locs1 → W p l e R s m args below meth c H1 locs1 cells slots Q (F0 m (pc + 3) ls rest)) : W p l e R s m args below meth c H locs cells slots Q (F0 m pc ls (.int x :: .ref (ad 0) :: rest)) := by
  subst hu
  have h2 : (TX6 k).2.2.2 = false ∧ parseFieldDescriptor (TX6 k).2.2.1 = some .int := by
    simp only [mw_sc, Bool.or_eq_true, beq_iff_eq] at hsc
    rcases hsc with ((((((rfl | rfl) | rfl) | rfl) | rfl) | rfl) | rfl) | rfl <;> exact ⟨by decide +kernel, by decide +kernel⟩
  exact sw_put hexec hb hts hin tyX6 tyX6_ok nmX6 hown hK hP hJ hS (cd := 0) rfl ⟨0, rfl, rfl⟩ (he := rfl) rfl k hk hlink h2.1 h2.2 rfl rfl (show k < (mw_fs ad u).length from hk) hdg (fun H1 locs1 h1 h3 => kk H1 locs1 (swP.eq h1 (mw_upS hsc x)) h3)
theorem mw_ald (hexec : p.tables.exec = Jvm.exec) (hb : c.code = cc) (hK : swK D cy s) (hP : mwP D cy ad u H) (cd n : Nat) (hN : mw_N cd = true) (he : mw_cel cy ad u cd = .inl (cy 0, n, .inl (u.1 cd))) {i x : Int32} (hin : vp_in i n) (hdg : decode cc pc = .ok (.iaload, 1)) (hx : x = u.1 cd i.toNatClampNeg)
    (kk : W p l e R s m args below meth c H locs cells slots Q (F0 m (pc + 1) ls (.int x :: rest))) : W p l e R s m args below meth c H locs cells slots Q (F0 m pc ls (.int i :: .ref (ad cd) :: rest)) :=
  sw_iald hexec hb hK hP hN he hin hdg hx kk
theorem mw_zld (hexec : p.tables.exec = Jvm.exec) (hb : c.code = cc) (hK : swK D cy s) (hP : mwP D cy ad u H) (cd n : Nat) (hN : mw_N cd = true) (he : mw_cel cy ad u cd = .inl (cy 1, n, .inl (u.1 cd))) {i x : Int32} (hin : vp_in i n) (hdg : decode cc pc = .ok (.baload, 1)) (hx : x = u.1 cd i.toNatClampNeg)
    (kk : W p l e R s m args below meth c H locs cells slots Q (F0 m (pc + 1) ls (.int x :: rest))) : W p l e R s m args below meth c H locs cells slots Q (F0 m pc ls (.int i :: .ref (ad cd) :: rest)) :=
  sw_zald hexec hb hK hP hN he hin hdg hx kk
theorem mw_ast (hexec : p.tables.exec = Jvm.exec) (hb : c.code = cc) (hK : swK D cy s) (hJ : swJ mw_N ad) (hP : mwP D cy ad u H) (hS : va_S (mwA ad) H0 H locs) (cd n : Nat) (hN : mw_N cd = true) (h0 : cd ≠ 0) (hk : mw_k cd = 0) (hn : mw_len cd = n) {i x : Int32} {u2 : swU} (hin : vp_in i n) (hu : u2 = swI u cd i.toNatClampNeg x) (hdg : decode cc pc = .ok (.iastore, 1))
    (kk : ∀ (H1 : Heap) (locs1 : List Loc), mwP D cy ad u2 H1 → va_S (mwA ad) H0 H1 locs1 → W p l e R s m args below meth c H1 locs1 cells slots Q (F0 m (pc + 1) ls rest)) : W p l e R s m args below meth c H locs cells slots Q (F0 m pc ls (.int x :: .int i :: .ref (ad cd) :: rest)) := by
  subst hu; subst hn
  exact sw_iast (f := u.1 cd) hexec hb hK hP hJ hS hN ⟨cd, hN, rfl⟩ (he := by simp only [mw_cel, if_neg h0, hk]) hin hdg (fun H1 locs1 h1 h3 => kk H1 locs1 (swP.eq h1 (fun c => by rw [mw_upA h0, hk])) h3)
theorem mw_zst (hexec : p.tables.exec = Jvm.exec) (hb : c.code = cc) (hK : swK D cy s) (hJ : swJ mw_N ad) (hP : mwP D cy ad u H) (hS : va_S (mwA ad) H0 H locs) (cd n : Nat) (hN : mw_N cd = true) (h0 : cd ≠ 0) (hk : mw_k cd = 1) (hn : mw_len cd = n) {i x : Int32} {u2 : swU} (hin : vp_in i n) (hu : u2 = swI u cd i.toNatClampNeg (swZ x)) (hdg : decode cc pc = .ok (.bastore, 1))
    (kk : ∀ (H1 : Heap) (locs1 : List Loc), mwP D cy ad u2 H1 → va_S (mwA ad) H0 H1 locs1 → W p l e R s m args below meth c H1 locs1 cells slots Q (F0 m (pc + 1) ls rest)) : W p l e R s m args below meth c H locs cells slots Q (F0 m pc ls (.int x :: .int i :: .ref (ad cd) :: rest)) := by
  subst hu; subst hn
  exact sw_zast (f := u.1 cd) hexec hb hK hP hJ hS hN ⟨cd, hN, rfl⟩ (he := by simp only [mw_cel, if_neg h0, hk]) hin hdg (fun H1 locs1 h1 h3 => kk H1 locs1 (swP.eq h1 (fun c => by rw [mw_upA h0, hk])) h3)
end MWROWS
theorem sw_in1 {α : Type} {a b : α} (h : some a = some b) : a = b := Option.some.inj h
theorem sw_inj {α β : Type} {a b : α} {c d : β} (h : some (a, c) = some (b, d)) : a = b ∧ c = d := by
  cases h
  exact ⟨rfl, rfl⟩
theorem sw_entry (m : MethodId) {args : Array Value} {vs : List Value} {n : Nat} (ha : args = vs.toArray) (h : (lg_sl vs).length ≤ n) : ∃ ls, lv_has ls n (lv_args 0 vs) ∧ entryFrame m args n = F0 m 0 ls [] := by
  subst ha
  exact ⟨_, lv_entry vs h, lg_entry_eq m vs n⟩
section SWCALLS
variable {p : Program} {l : Launch} {e : Env} {R : Room} {s : State} {m : MethodId} {args : Array Value} {below : List Frame} {meth : Method} {c : Code} {H : Heap} {locs : List Loc} {cells slots : Nat} {Q : State → Prop}
variable {cc : ByteArray} {pc : Nat} {ls : Array Slot} {rest : List Value} {D : va_G} {cy : Nat → ClassId} {ad : Nat → Nat} {u : swU} {H0 : Heap}
variable {nL index n maxL : Nat} {Ts ws : List Cond} {own : String} {y : MethodName} {bytes : ByteArray} {ret : Option FieldType} {rm : Room} {As st : List Value}
theorem sw_top {x y : Int32} (hx : x = y) (k : W p l e R s m args below meth c H locs cells slots Q (F0 m pc ls (.int x :: rest))) : W p l e R s m args below meth c H locs cells slots Q (F0 m pc ls (.int y :: rest)) := by
  subst hx
  exact k
theorem sw_callSi {r0 : Int32} (E : CallFix p m c cc nL s args Ts own) (hM : Met l y ws rm (va_Pc As (fun _ => True)) (vp_Si (fun r : Int32 => r = r0)) 0 0 (fun _ => False)) (cw : CallB R s args own index y bytes maxL ret ws rm 0 0 n ∧ (Cond.static y).before args s = true) (hn : As.length = n) (hsize : ls.size = nL) (hst : st = As.reverse ++ rest) (hroom : (rest.map fun v => v.category).sum ≤ 8) (hdg : decode cc pc = .ok (.invokestatic index, 3))
    (kk : W p l e R s m args below meth c H locs 0 0 Q (F0 m (pc + 3) ls (.int r0 :: rest))) : W p l e R s m args below meth c H locs 0 0 Q (F0 m pc ls st) :=
  vp_callSi (W.runS E hM cw ⟨fun _ _ _ _ q => q, fun U hU hW => ⟨rfl, trivial⟩⟩ rfl hn hsize hst (lv_room hroom) hdg ⟨Nat.zero_le _, Nat.zero_le _⟩) (fun r hr => by rw [hr]; exact kk)
end SWCALLS
def mwC (D : va_G) (cy : Nat → ClassId) (ad : Nat → Nat) (u : swU) (av : List Value) : Array Value → State → Prop := va_Pc av (fun U => mwP D cy ad u U.heap ∧ swK D cy U)
def mwQi (D : va_G) (cy : Nat → ClassId) (ad : Nat → Nat) (r0 : Int32) (u0 : swU) : Array Value → State → Outcome → State → Prop := va_Qi (fun (r : Int32) (_ : Unit) => r = r0) (fun _ t => mwP D cy ad u0 t.heap) (mwA ad)
def mwQv (D : va_G) (cy : Nat → ClassId) (ad : Nat → Nat) (u0 : swU) : Array Value → State → Outcome → State → Prop := va_Qv (fun _ : Unit => True) (fun _ t => mwP D cy ad u0 t.heap) (mwA ad)
theorem mwC_blind {D : va_G} {cy : Nat → ClassId} {ad : Nat → Nat} {u : swU} {av : List Value} : FrameBlind (mwC D cy ad u av) := fun a U g mk q => ⟨q.1, q.2.1, va_K.moved (u := U) (U := U.calling g mk a) (Vm.Alike.refl U.vm) q.2.2⟩
section MWCALLS
variable {p : Program} {l : Launch} {e : Env} {R : Room} {s : State} {m : MethodId} {args : Array Value} {below : List Frame} {meth : Method} {c : Code} {H : Heap} {locs : List Loc} {cells slots : Nat} {Q : State → Prop}
variable {cc : ByteArray} {pc : Nat} {ls : Array Slot} {rest : List Value} {D : va_G} {cy : Nat → ClassId} {ad : Nat → Nat} {u u2 : swU} {H0 : Heap}
variable {nL index n maxL : Nat} {Ts ws : List Cond} {own : String} {y : MethodName} {bytes : ByteArray} {ret : Option FieldType} {rm : Room} {As st : List Value}
theorem mw_recv (hK : swK D cy s) (hP : mwP D cy ad u H) : ∃ cell : Cell, H[ad 0]? = some cell ∧ cell.vm.isStatics = false ∧ s.vm.findClass RX6 = some cell.cls := hP.recv hK (cd := 0) rfl (ci := 6) (q := (RX6, TX6, 28)) rfl rfl
theorem mw_calli {r0 : Int32} (E : CallFix p m c cc nL s args Ts own) (hM : Met l y ws rm (mwC D cy ad u (.ref (ad 0) :: As)) (vp_Si (fun r : Int32 => r = r0)) 0 0 (fun _ => False)) (cw : CallW R s args own RX6 index y bytes maxL ret ws rm 0 0 n) (hK : swK D cy s) (hP : mwP D cy ad u H) (hn : As.length = n) (hsize : ls.size = nL) (hst : st = As.reverse ++ .ref (ad 0) :: rest) (hroom : (rest.map fun v => v.category).sum ≤ 8) (hdg : decode cc pc = .ok (.invokevirtual index, 3))
    (kk : W p l e R s m args below meth c H locs 0 0 Q (F0 m (pc + 3) ls (.int r0 :: rest))) : W p l e R s m args below meth c H locs 0 0 Q (F0 m pc ls st) :=
  vp_callSi (W.runV E hM cw ⟨mwC_blind, mw_recv hK hP, fun U hU hW => ⟨rfl, by rw [hU]; exact hP, va_K.moved hW.alike hK⟩⟩ rfl hn hsize hst (lv_room hroom) hdg ⟨Nat.zero_le _, Nat.zero_le _⟩) (fun r hr => by rw [hr]; exact kk)
theorem mw_callWi {r0 : Int32} (E : CallFix p m c cc nL s args Ts own) (hM : Met l y ws rm (mwC D cy ad u (.ref (ad 0) :: As)) (mwQi D cy ad r0 u2) 0 0 (mwA ad)) (cw : CallW R s args own RX6 index y bytes maxL ret ws rm 0 0 n) (hK : swK D cy s) (hP : mwP D cy ad u H) (hS : va_S (mwA ad) H0 H locs) (hn : As.length = n) (hsize : ls.size = nL) (hst : st = As.reverse ++ .ref (ad 0) :: rest) (hroom : (rest.map fun v => v.category).sum ≤ 8) (hdg : decode cc pc = .ok (.invokevirtual index, 3))
    (kk : ∀ (H1 : Heap) (locs1 : List Loc), mwP D cy ad u2 H1 → va_S (mwA ad) H0 H1 locs1 → W p l e R s m args below meth c H1 locs1 0 0 Q (F0 m (pc + 3) ls (.int r0 :: rest))) : W p l e R s m args below meth c H locs 0 0 Q (F0 m pc ls st) :=
  va_calli (va_runV E hM cw ⟨mwC_blind, mw_recv hK hP, fun U hU hW => ⟨rfl, by rw [hU]; exact hP, va_K.moved hW.alike hK⟩⟩ rfl hn hsize hst (lv_room hroom) hdg ⟨Nat.zero_le _, Nat.zero_le _⟩) hS (fun _ _ h => h) (fun _ h => h) (fun r _ t H1 locs1 ht _ hr hB _ _ hS1 => by rw [hr]; exact kk H1 locs1 (by rw [← ht]; exact hB) hS1)
theorem mw_callWv (E : CallFix p m c cc nL s args Ts own) (hM : Met l y ws rm (mwC D cy ad u (.ref (ad 0) :: As)) (mwQv D cy ad u2) 0 0 (mwA ad)) (cw : CallW R s args own RX6 index y bytes maxL ret ws rm 0 0 n) (hK : swK D cy s) (hP : mwP D cy ad u H) (hS : va_S (mwA ad) H0 H locs) (hn : As.length = n) (hsize : ls.size = nL) (hst : st = As.reverse ++ .ref (ad 0) :: rest) (hroom : (rest.map fun v => v.category).sum ≤ 8) (hdg : decode cc pc = .ok (.invokevirtual index, 3))
    (kk : ∀ (H1 : Heap) (locs1 : List Loc), mwP D cy ad u2 H1 → va_S (mwA ad) H0 H1 locs1 → W p l e R s m args below meth c H1 locs1 0 0 Q (F0 m (pc + 3) ls rest)) : W p l e R s m args below meth c H locs 0 0 Q (F0 m pc ls st) :=
  va_callv (va_runV E hM cw ⟨mwC_blind, mw_recv hK hP, fun U hU hW => ⟨rfl, by rw [hU]; exact hP, va_K.moved hW.alike hK⟩⟩ rfl hn hsize hst (lv_room hroom) hdg ⟨Nat.zero_le _, Nat.zero_le _⟩) hS (fun _ _ h => h) (fun _ h => h) (fun _ t H1 locs1 ht _ _ hB _ _ hS1 => kk H1 locs1 (by rw [← ht]; exact hB) hS1)
end MWCALLS
theorem mw_end {D : va_G} {cy : Nat → ClassId} {ad : Nat → Nat} {u u0 : swU} {H : Heap} {t : State} (h : mwP D cy ad u H) (ht : t.heap = H) (e : u = u0) : mwP D cy ad u0 t.heap := by
  rw [ht, ← e]
  exact h
