/-! ===== the class's family: code 0 the Slidewarden, 1 heads, 2 shownVersions, 3 versions, 4 rules, 5 waivers, 10+i the rules, 20+i the waivers, 100+i the versions, 200+i the decks (240: trial), 300+i their slides, 400+i their values ===== -/
def xw_N (c : Nat) : Bool := decide (c ≤ 5 ∨ (10 ≤ c ∧ c < 18) ∨ (20 ≤ c ∧ c < 32) ∨ (100 ≤ c ∧ c < 140) ∨ (200 ≤ c ∧ c ≤ 240) ∨ (300 ≤ c ∧ c ≤ 340) ∨ (400 ≤ c ∧ c ≤ 440))
def xw_fs (ad : Nat → Nat) (f : Nat → Int32) : List Value := [.ref (ad 3), .ref (ad 1), .ref (ad 2), .ref (ad 4), .ref (ad 5), .ref (ad 240), .int (f 6), .int (f 7), .int (f 8), .int (f 9), .int (f 10), .int (f 11)]
def xw_cell (cy : Nat → ClassId) (ad : Nat → Nat) (f : Nat → Int32) (a : Int64) (c : Nat) : va_E :=
  if c = 0 then .inr (5, xw_fs ad f)
  else if c ≤ 2 then .inl (cy 0, 6, .inl f)
  else if c = 3 then .inl (cy 3, 40, .inr (.inr (.inr (.inr (fun j => some (ad (100 + j)))))))
  else if c = 4 then .inl (cy 2, 8, .inr (.inr (.inr (.inr (fun j => some (ad (10 + j)))))))
  else if c = 5 then .inl (cy 4, 12, .inr (.inr (.inr (.inr (fun j => some (ad (20 + j)))))))
  else if c < 18 then .inr (2, [.int (f 0), .int (f 1), .int (f 2), .int (f 3)])
  else if c < 32 then .inr (4, [.int (f 0), .int (f 1), .int (f 2)])
  else if c < 140 then .inr (3, [.ref (ad (c + 100)), .int (f 1), .int (f 2), .int (f 3), .long a])
  else if c ≤ 240 then .inr (0, [.ref (ad (c + 100)), .ref (ad (c + 200)), .int (f 2)])
  else if c ≤ 340 then .inl (cy 0, 8, .inl f)
  else .inl (cy 0, 32, .inl f)
def xw_cel (cy : Nat → ClassId) (ad : Nat → Nat) (u : swU) : Nat → va_E := fun c => xw_cell cy ad (u.1 c) (u.2 c) c
abbrev xwP (D : va_G) (cy : Nat → ClassId) (ad : Nat → Nat) (u : swU) (H : Heap) : Prop := swP D xw_N ad (xw_cel cy ad u) H
abbrev xwA0 (ad : Nat → Nat) : Nat → Prop := swA xw_N ad
abbrev xwA (ad : Nat → Nat) (sz : Nat) : Nat → Prop := fun q => swA xw_N ad q ∨ sz ≤ q
def xw_D (c : Nat) : Prop := 200 ≤ c ∧ c ≤ 240
def xw_V (c : Nat) : Prop := 100 ≤ c ∧ c < 140
def xw_R (c : Nat) : Prop := 10 ≤ c ∧ c < 18
def xw_Y (c : Nat) : Prop := 20 ≤ c ∧ c < 32
theorem xw_ND {c : Nat} (h : xw_D c) : xw_N c = true := decide_eq_true (by unfold xw_D at h; omega)
theorem xw_NS {c : Nat} (h : xw_D c) : xw_N (c + 100) = true := decide_eq_true (by unfold xw_D at h; omega)
theorem xw_NL {c : Nat} (h : xw_D c) : xw_N (c + 200) = true := decide_eq_true (by unfold xw_D at h; omega)
theorem xw_NV {c : Nat} (h : xw_V c) : xw_N c = true := decide_eq_true (by unfold xw_V at h; omega)
theorem xw_NR {c : Nat} (h : xw_R c) : xw_N c = true := decide_eq_true (by unfold xw_R at h; omega)
theorem xw_NY {c : Nat} (h : xw_Y c) : xw_N c = true := decide_eq_true (by unfold xw_Y at h; omega)
theorem xw_VD {c : Nat} (h : xw_V c) : xw_D (c + 100) := by unfold xw_V at h; unfold xw_D; omega
theorem xw_D240 : xw_D 240 := ⟨by decide, by decide⟩
theorem xw_inlt {i : Int32} {n : Nat} (h : vp_in i n) : i.toNatClampNeg < n := Nat.not_le.mp fun q => h (Or.inr q)
theorem xw_Vof {i : Int32} {c : Nat} (h : vp_in i 40) (e : c = 100 + i.toNatClampNeg) : xw_V c := by
  have := xw_inlt h
  unfold xw_V
  omega
theorem xw_Rof {i : Int32} {c : Nat} (h : vp_in i 8) (e : c = 10 + i.toNatClampNeg) : xw_R c := by
  have := xw_inlt h
  unfold xw_R
  omega
theorem xw_Yof {i : Int32} {c : Nat} (h : vp_in i 12) (e : c = 20 + i.toNatClampNeg) : xw_Y c := by
  have := xw_inlt h
  unfold xw_Y
  omega
section XCEL
variable {cy : Nat → ClassId} {ad : Nat → Nat} {u : swU} {c : Nat} {f : Nat → Int32} {a : Int64}
theorem xw_clD (h : xw_D c) : xw_cell cy ad f a c = .inr (0, [.ref (ad (c + 100)), .ref (ad (c + 200)), .int (f 2)]) := by
  unfold xw_D at h
  unfold xw_cell
  rw [if_neg (by omega), if_neg (by omega), if_neg (by omega), if_neg (by omega), if_neg (by omega), if_neg (by omega), if_neg (by omega), if_neg (by omega), if_pos (by omega)]
theorem xw_clV (h : xw_V c) : xw_cell cy ad f a c = .inr (3, [.ref (ad (c + 100)), .int (f 1), .int (f 2), .int (f 3), .long a]) := by
  unfold xw_V at h
  unfold xw_cell
  rw [if_neg (by omega), if_neg (by omega), if_neg (by omega), if_neg (by omega), if_neg (by omega), if_neg (by omega), if_neg (by omega), if_pos (by omega)]
theorem xw_clY (h : xw_Y c) : xw_cell cy ad f a c = .inr (4, [.int (f 0), .int (f 1), .int (f 2)]) := by
  unfold xw_Y at h
  unfold xw_cell
  rw [if_neg (by omega), if_neg (by omega), if_neg (by omega), if_neg (by omega), if_neg (by omega), if_neg (by omega), if_pos (by omega)]
theorem xw_clR (h : xw_R c) : xw_cell cy ad f a c = .inr (2, [.int (f 0), .int (f 1), .int (f 2), .int (f 3)]) := by
  unfold xw_R at h
  unfold xw_cell
  rw [if_neg (by omega), if_neg (by omega), if_neg (by omega), if_neg (by omega), if_neg (by omega), if_pos (by omega)]
theorem xw_clS (h : xw_D c) : xw_cell cy ad f a (c + 100) = .inl (cy 0, 8, .inl f) := by
  unfold xw_D at h
  unfold xw_cell
  rw [if_neg (by omega), if_neg (by omega), if_neg (by omega), if_neg (by omega), if_neg (by omega), if_neg (by omega), if_neg (by omega), if_neg (by omega), if_neg (by omega), if_pos (by omega)]
theorem xw_clL (h : xw_D c) : xw_cell cy ad f a (c + 200) = .inl (cy 0, 32, .inl f) := by
  unfold xw_D at h
  unfold xw_cell
  rw [if_neg (by omega), if_neg (by omega), if_neg (by omega), if_neg (by omega), if_neg (by omega), if_neg (by omega), if_neg (by omega), if_neg (by omega), if_neg (by omega), if_neg (by omega)]
theorem xw_celD (h : xw_D c) : xw_cel cy ad u c = .inr (0, [.ref (ad (c + 100)), .ref (ad (c + 200)), .int (u.1 c 2)]) := xw_clD h
theorem xw_celV (h : xw_V c) : xw_cel cy ad u c = .inr (3, [.ref (ad (c + 100)), .int (u.1 c 1), .int (u.1 c 2), .int (u.1 c 3), .long (u.2 c)]) := xw_clV h
theorem xw_celY (h : xw_Y c) : xw_cel cy ad u c = .inr (4, [.int (u.1 c 0), .int (u.1 c 1), .int (u.1 c 2)]) := xw_clY h
theorem xw_celR (h : xw_R c) : xw_cel cy ad u c = .inr (2, [.int (u.1 c 0), .int (u.1 c 1), .int (u.1 c 2), .int (u.1 c 3)]) := xw_clR h
theorem xw_celS (h : xw_D c) : xw_cel cy ad u (c + 100) = .inl (cy 0, 8, .inl (u.1 (c + 100))) := xw_clS h
theorem xw_celL (h : xw_D c) : xw_cel cy ad u (c + 200) = .inl (cy 0, 32, .inl (u.1 (c + 200))) := xw_clL h
theorem xw_up {u2 : swU} {cd : Nat} {e : va_E} (h1 : ∀ c, c ≠ cd → u2.1 c = u.1 c ∧ u2.2 c = u.2 c) (h2 : xw_cell cy ad (u2.1 cd) (u2.2 cd) cd = e) : ∀ c, xw_cel cy ad u2 c = va_up (xw_cel cy ad u) cd e c := by
  intro c
  by_cases hc : c = cd
  · subst hc
    rw [va_up_self]
    exact h2
  · rw [va_up_ne _ _ hc]
    unfold xw_cel
    rw [(h1 c hc).1, (h1 c hc).2]
theorem xw_neI {cd k : Nat} {x : Int32} : ∀ c, c ≠ cd → (swI u cd k x).1 c = u.1 c ∧ (swI u cd k x).2 c = u.2 c := fun c hc => ⟨va_up_ne _ _ hc, rfl⟩
theorem xw_neL {cd : Nat} {x : Int64} : ∀ c, c ≠ cd → (swL u cd x).1 c = u.1 c ∧ (swL u cd x).2 c = u.2 c := fun c hc => ⟨rfl, va_up_ne _ _ hc⟩
theorem xw_neR {cd : Nat} {f : Nat → Int32} : ∀ c, c ≠ cd → (swR u cd f).1 c = u.1 c ∧ (swR u cd f).2 c = u.2 c := fun c hc => ⟨va_up_ne _ _ hc, rfl⟩
theorem xw_sI {cd k : Nat} {x : Int32} : (swI u cd k x).1 cd = upd (u.1 cd) k x ∧ (swI u cd k x).2 cd = u.2 cd := ⟨va_up_self _ _ _, rfl⟩
theorem xw_sL {cd : Nat} {x : Int64} : (swL u cd x).1 cd = u.1 cd ∧ (swL u cd x).2 cd = x := ⟨rfl, va_up_self _ _ _⟩
theorem xw_sR {cd : Nat} {f : Nat → Int32} : (swR u cd f).1 cd = f ∧ (swR u cd f).2 cd = u.2 cd := ⟨va_up_self _ _ _, rfl⟩
theorem xw_upD {cd : Nat} {x : Int32} (h : xw_D cd) : ∀ c, xw_cel cy ad (swI u cd 2 x) c = va_up (xw_cel cy ad u) cd (.inr (0, ([.ref (ad (cd + 100)), .ref (ad (cd + 200)), .int (u.1 cd 2)] : List Value).set 2 (.int x))) c := xw_up xw_neI (by rw [xw_sI.1, xw_clD h]; rfl)
theorem xw_upV {cd k : Nat} {x : Int32} (h : xw_V cd) (hk : k = 1 ∨ k = 2 ∨ k = 3) : ∀ c, xw_cel cy ad (swI u cd k x) c = va_up (xw_cel cy ad u) cd (.inr (3, ([.ref (ad (cd + 100)), .int (u.1 cd 1), .int (u.1 cd 2), .int (u.1 cd 3), .long (u.2 cd)] : List Value).set k (.int x))) c := xw_up xw_neI (by rw [xw_sI.1, xw_sI.2, xw_clV h]; rcases hk with rfl | rfl | rfl <;> rfl)
theorem xw_upVL {cd : Nat} {x : Int64} (h : xw_V cd) : ∀ c, xw_cel cy ad (swL u cd x) c = va_up (xw_cel cy ad u) cd (.inr (3, ([.ref (ad (cd + 100)), .int (u.1 cd 1), .int (u.1 cd 2), .int (u.1 cd 3), .long (u.2 cd)] : List Value).set 4 (.long x))) c := xw_up xw_neL (by rw [xw_sL.1, xw_sL.2, xw_clV h]; rfl)
theorem xw_upR {cd k : Nat} {x : Int32} (h : xw_R cd) (hk : k < 4) : ∀ c, xw_cel cy ad (swI u cd k x) c = va_up (xw_cel cy ad u) cd (.inr (2, ([.int (u.1 cd 0), .int (u.1 cd 1), .int (u.1 cd 2), .int (u.1 cd 3)] : List Value).set k (.int x))) c := xw_up xw_neI (by rw [xw_sI.1, xw_clR h]; rcases (by omega : k = 0 ∨ k = 1 ∨ k = 2 ∨ k = 3) with rfl | rfl | rfl | rfl <;> rfl)
theorem xw_upY {cd k : Nat} {x : Int32} (h : xw_Y cd) (hk : k < 3) : ∀ c, xw_cel cy ad (swI u cd k x) c = va_up (xw_cel cy ad u) cd (.inr (4, ([.int (u.1 cd 0), .int (u.1 cd 1), .int (u.1 cd 2)] : List Value).set k (.int x))) c := xw_up xw_neI (by rw [xw_sI.1, xw_clY h]; rcases (by omega : k = 0 ∨ k = 1 ∨ k = 2) with rfl | rfl | rfl <;> rfl)
theorem xw_upO {k : Nat} {x : Int32} (hk : 6 ≤ k ∧ k < 12) : ∀ c, xw_cel cy ad (swI u 0 k x) c = va_up (xw_cel cy ad u) 0 (.inr (5, (xw_fs ad (u.1 0)).set k (.int x))) c := xw_up xw_neI (by rw [xw_sI.1]; rcases (by omega : k = 6 ∨ k = 7 ∨ k = 8 ∨ k = 9 ∨ k = 10 ∨ k = 11) with rfl | rfl | rfl | rfl | rfl | rfl <;> rfl)
theorem xw_upA {cd n k : Nat} {x : Int32} (he : ∀ f, xw_cell cy ad f (u.2 cd) cd = .inl (cy 0, n, .inl f)) : ∀ c, xw_cel cy ad (swI u cd k x) c = va_up (xw_cel cy ad u) cd (.inl (cy 0, n, .inl (upd (u.1 cd) k x))) c := xw_up xw_neI (by rw [xw_sI.1, xw_sI.2, he])
theorem xw_upAR {cd n : Nat} {f : Nat → Int32} (he : ∀ f, xw_cell cy ad f (u.2 cd) cd = .inl (cy 0, n, .inl f)) : ∀ c, xw_cel cy ad (swR u cd f) c = va_up (xw_cel cy ad u) cd (.inl (cy 0, n, .inl f)) c := xw_up xw_neR (by rw [xw_sR.1, xw_sR.2, he])
end XCEL
section XWROWS
variable {p : Program} {l : Launch} {e : Env} {R : Room} {s : State} {m : MethodId} {args : Array Value} {below : List Frame} {meth : Method} {c : Code} {H : Heap} {locs : List Loc} {cells slots : Nat} {Q : State → Prop}
variable {cc : ByteArray} {pc : Nat} {ls : Array Slot} {rest : List Value} {D : va_G} {cy : Nat → ClassId} {ad : Nat → Nat} {u u2 : swU} {H0 : Heap} {A : Nat → Prop} {own : String} {index : Nat} {Ts : List Cond}
/-- reads: the Slidewarden's fields, a deck's, a version's, a rule's, a waiver's -/
theorem xw_getO (hexec : p.tables.exec = Jvm.exec) (hb : c.code = cc) (hts : ∀ w ∈ Ts, w.before args s = true) (hin : ∀ w ∈ wsX50, w ∈ Ts) (hown : s.vm.findClass own = some m.cls) (hK : swK D cy s) (hP : xwP D cy ad u H) (k : Nat) (hk : k < 12) (hlink : (Cond.fieldLink own index (TX5 k).1 (TX5 k).2.1 (TX5 k).2.2.1).before args s = true) {v : Value} (hv : (xw_fs ad (u.1 0))[k]? = some v) (hdg : decode cc pc = .ok (.getfield index, 3))
    (kk : W p l e R s m args below meth c H locs cells slots Q (F0 m (pc + 3) ls (v :: rest))) : W p l e R s m args below meth c H locs cells slots Q (F0 m pc ls (.ref (ad 0) :: rest)) :=
  sw_get hexec hb hts hin hown hK hP (cd := 0) (by decide) (he := rfl) rfl k hk hlink hv hdg kk
theorem xw_getD (hexec : p.tables.exec = Jvm.exec) (hb : c.code = cc) (hts : ∀ w ∈ Ts, w.before args s = true) (hin : ∀ w ∈ wsX00, w ∈ Ts) (hown : s.vm.findClass own = some m.cls) (hK : swK D cy s) (hP : xwP D cy ad u H) {cd : Nat} (hd : xw_D cd) (k : Nat) (hk : k < 3) (hlink : (Cond.fieldLink own index (TX0 k).1 (TX0 k).2.1 (TX0 k).2.2.1).before args s = true) {v : Value} (hv : ([.ref (ad (cd + 100)), .ref (ad (cd + 200)), .int (u.1 cd 2)] : List Value)[k]? = some v) (hdg : decode cc pc = .ok (.getfield index, 3))
    (kk : W p l e R s m args below meth c H locs cells slots Q (F0 m (pc + 3) ls (v :: rest))) : W p l e R s m args below meth c H locs cells slots Q (F0 m pc ls (.ref (ad cd) :: rest)) :=
  sw_get hexec hb hts hin hown hK hP (xw_ND hd) (he := xw_celD hd) rfl k hk hlink hv hdg kk
theorem xw_getV (hexec : p.tables.exec = Jvm.exec) (hb : c.code = cc) (hts : ∀ w ∈ Ts, w.before args s = true) (hin : ∀ w ∈ wsX30, w ∈ Ts) (hown : s.vm.findClass own = some m.cls) (hK : swK D cy s) (hP : xwP D cy ad u H) {cd : Nat} (hd : xw_V cd) (k : Nat) (hk : k < 5) (hlink : (Cond.fieldLink own index (TX3 k).1 (TX3 k).2.1 (TX3 k).2.2.1).before args s = true) {v : Value} (hv : ([.ref (ad (cd + 100)), .int (u.1 cd 1), .int (u.1 cd 2), .int (u.1 cd 3), .long (u.2 cd)] : List Value)[k]? = some v) (hdg : decode cc pc = .ok (.getfield index, 3))
    (kk : W p l e R s m args below meth c H locs cells slots Q (F0 m (pc + 3) ls (v :: rest))) : W p l e R s m args below meth c H locs cells slots Q (F0 m pc ls (.ref (ad cd) :: rest)) :=
  sw_get hexec hb hts hin hown hK hP (xw_NV hd) (he := xw_celV hd) rfl k hk hlink hv hdg kk
theorem xw_getR (hexec : p.tables.exec = Jvm.exec) (hb : c.code = cc) (hts : ∀ w ∈ Ts, w.before args s = true) (hin : ∀ w ∈ wsX20, w ∈ Ts) (hown : s.vm.findClass own = some m.cls) (hK : swK D cy s) (hP : xwP D cy ad u H) {cd : Nat} (hd : xw_R cd) (k : Nat) (hk : k < 4) (hlink : (Cond.fieldLink own index (TX2 k).1 (TX2 k).2.1 (TX2 k).2.2.1).before args s = true) {v : Value} (hv : ([.int (u.1 cd 0), .int (u.1 cd 1), .int (u.1 cd 2), .int (u.1 cd 3)] : List Value)[k]? = some v) (hdg : decode cc pc = .ok (.getfield index, 3))
    (kk : W p l e R s m args below meth c H locs cells slots Q (F0 m (pc + 3) ls (v :: rest))) : W p l e R s m args below meth c H locs cells slots Q (F0 m pc ls (.ref (ad cd) :: rest)) :=
  sw_get hexec hb hts hin hown hK hP (xw_NR hd) (he := xw_celR hd) rfl k hk hlink hv hdg kk
theorem xw_getY (hexec : p.tables.exec = Jvm.exec) (hb : c.code = cc) (hts : ∀ w ∈ Ts, w.before args s = true) (hin : ∀ w ∈ wsX40, w ∈ Ts) (hown : s.vm.findClass own = some m.cls) (hK : swK D cy s) (hP : xwP D cy ad u H) {cd : Nat} (hd : xw_Y cd) (k : Nat) (hk : k < 3) (hlink : (Cond.fieldLink own index (TX4 k).1 (TX4 k).2.1 (TX4 k).2.2.1).before args s = true) {v : Value} (hv : ([.int (u.1 cd 0), .int (u.1 cd 1), .int (u.1 cd 2)] : List Value)[k]? = some v) (hdg : decode cc pc = .ok (.getfield index, 3))
    (kk : W p l e R s m args below meth c H locs cells slots Q (F0 m (pc + 3) ls (v :: rest))) : W p l e R s m args below meth c H locs cells slots Q (F0 m pc ls (.ref (ad cd) :: rest)) :=
  sw_get hexec hb hts hin hown hK hP (xw_NY hd) (he := xw_celY hd) rfl k hk hlink hv hdg kk
/-- a Merge's fields -/
theorem xw_getM (hexec : p.tables.exec = Jvm.exec) (hb : c.code = cc) (hts : ∀ w ∈ Ts, w.before args s = true) (hin : ∀ w ∈ wsX10, w ∈ Ts) (hown : s.vm.findClass own = some m.cls) (hK : swK D cy s) {g co ca cb : Nat} (hG : va_at D vwCl (g, .inr (1, [.ref (ad co), .ref (ad ca), .ref (ad cb)])) H) (k : Nat) (hk : k < 3) (hlink : (Cond.fieldLink own index (TX1 k).1 (TX1 k).2.1 (TX1 k).2.2.1).before args s = true) {v : Value} (hv : ([.ref (ad co), .ref (ad ca), .ref (ad cb)] : List Value)[k]? = some v) (hdg : decode cc pc = .ok (.getfield index, 3))
    (kk : W p l e R s m args below meth c H locs cells slots Q (F0 m (pc + 3) ls (v :: rest))) : W p l e R s m args below meth c H locs cells slots Q (F0 m pc ls (.ref g :: rest)) :=
  va_get (D := D) (ws := [(g, .inr (1, [.ref (ad co), .ref (ad ca), .ref (ad cb)]))]) hexec hb hts hin hown hK (fun k q hk => by
    match k, hk with
    | 0, hk => cases hk; exact hG) 0 rfl rfl k hk hlink (fun _ h => h) hv hdg kk
/-- writes -/
theorem xw_putO (hexec : p.tables.exec = Jvm.exec) (hb : c.code = cc) (hts : ∀ w ∈ Ts, w.before args s = true) (hin : ∀ w ∈ wsX50, w ∈ Ts) (hown : s.vm.findClass own = some m.cls) (hK : swK D cy s) (hJ : swJ xw_N ad) (hA : ∀ c, xw_N c = true → A (ad c)) (hP : xwP D cy ad u H) (hS : va_S A H0 H locs) (k : Nat) (hk : 6 ≤ k ∧ k < 12) (hlink : (Cond.fieldLink own index (TX5 k).1 (TX5 k).2.1 (TX5 k).2.2.1).before args s = true) {x : Int32} (hu : u2 = swI u 0 k x) (hdg : decode cc pc = .ok (.putfield index, 3))
    (kk : ∀ (H1 : Heap) (locs1 : List Loc), xwP D cy ad u2 H1 → va_S A H0 H1 locs1 → W p l e R s m args below meth c H1 locs1 cells slots Q (F0 m (pc + 3) ls rest)) : W p l e R s m args below meth c H locs cells slots Q (F0 m pc ls (.int x :: .ref (ad 0) :: rest)) := by
  subst hu
  have h2 : (TX5 k).2.2.2 = false ∧ parseFieldDescriptor (TX5 k).2.2.1 = some .int := by
    rcases (by omega : k = 6 ∨ k = 7 ∨ k = 8 ∨ k = 9 ∨ k = 10 ∨ k = 11) with rfl | rfl | rfl | rfl | rfl | rfl <;> exact ⟨by decide +kernel, by decide +kernel⟩
  exact sw_put hexec hb hts hin tyX5 tyX5_ok nmX5 hown hK hP hJ hS (cd := 0) (by decide) (hA 0 (by decide)) (he := rfl) rfl k hk.2 hlink h2.1 h2.2 rfl rfl (show k < (xw_fs ad (u.1 0)).length from hk.2) hdg (fun H1 locs1 h1 h3 => kk H1 locs1 (swP.eq h1 (xw_upO hk)) h3)
theorem xw_putD (hexec : p.tables.exec = Jvm.exec) (hb : c.code = cc) (hts : ∀ w ∈ Ts, w.before args s = true) (hin : ∀ w ∈ wsX00, w ∈ Ts) (hown : s.vm.findClass own = some m.cls) (hK : swK D cy s) (hJ : swJ xw_N ad) (hA : ∀ c, xw_N c = true → A (ad c)) (hP : xwP D cy ad u H) (hS : va_S A H0 H locs) {cd : Nat} (hd : xw_D cd) (hlink : (Cond.fieldLink own index (TX0 2).1 (TX0 2).2.1 (TX0 2).2.2.1).before args s = true) {x : Int32} (hu : u2 = swI u cd 2 x) (hdg : decode cc pc = .ok (.putfield index, 3))
    (kk : ∀ (H1 : Heap) (locs1 : List Loc), xwP D cy ad u2 H1 → va_S A H0 H1 locs1 → W p l e R s m args below meth c H1 locs1 cells slots Q (F0 m (pc + 3) ls rest)) : W p l e R s m args below meth c H locs cells slots Q (F0 m pc ls (.int x :: .ref (ad cd) :: rest)) := by
  subst hu
  exact sw_put hexec hb hts hin tyX0 tyX0_ok nmX0 hown hK hP hJ hS (xw_ND hd) (hA cd (xw_ND hd)) (he := xw_celD hd) rfl 2 (by decide) hlink (by decide +kernel) (ty := .int) (by decide +kernel) rfl rfl (show 2 < 3 by decide) hdg (fun H1 locs1 h1 h3 => kk H1 locs1 (swP.eq h1 (xw_upD hd)) h3)
theorem xw_putV (hexec : p.tables.exec = Jvm.exec) (hb : c.code = cc) (hts : ∀ w ∈ Ts, w.before args s = true) (hin : ∀ w ∈ wsX30, w ∈ Ts) (hown : s.vm.findClass own = some m.cls) (hK : swK D cy s) (hJ : swJ xw_N ad) (hA : ∀ c, xw_N c = true → A (ad c)) (hP : xwP D cy ad u H) (hS : va_S A H0 H locs) {cd : Nat} (hd : xw_V cd) (k : Nat) (hk : k = 1 ∨ k = 2 ∨ k = 3) (hlink : (Cond.fieldLink own index (TX3 k).1 (TX3 k).2.1 (TX3 k).2.2.1).before args s = true) {x : Int32} (hu : u2 = swI u cd k x) (hdg : decode cc pc = .ok (.putfield index, 3))
    (kk : ∀ (H1 : Heap) (locs1 : List Loc), xwP D cy ad u2 H1 → va_S A H0 H1 locs1 → W p l e R s m args below meth c H1 locs1 cells slots Q (F0 m (pc + 3) ls rest)) : W p l e R s m args below meth c H locs cells slots Q (F0 m pc ls (.int x :: .ref (ad cd) :: rest)) := by
  subst hu
  have h2 : (TX3 k).2.2.2 = false ∧ parseFieldDescriptor (TX3 k).2.2.1 = some .int := by
    rcases hk with rfl | rfl | rfl <;> exact ⟨by decide +kernel, by decide +kernel⟩
  exact sw_put hexec hb hts hin tyX3 tyX3_ok nmX3 hown hK hP hJ hS (xw_NV hd) (hA cd (xw_NV hd)) (he := xw_celV hd) rfl k (by omega) hlink h2.1 h2.2 rfl rfl (show k < 5 by omega) hdg (fun H1 locs1 h1 h3 => kk H1 locs1 (swP.eq h1 (xw_upV hd hk)) h3)
theorem xw_putVL (hexec : p.tables.exec = Jvm.exec) (hb : c.code = cc) (hts : ∀ w ∈ Ts, w.before args s = true) (hin : ∀ w ∈ wsX30, w ∈ Ts) (hown : s.vm.findClass own = some m.cls) (hK : swK D cy s) (hJ : swJ xw_N ad) (hA : ∀ c, xw_N c = true → A (ad c)) (hP : xwP D cy ad u H) (hS : va_S A H0 H locs) {cd : Nat} (hd : xw_V cd) (hlink : (Cond.fieldLink own index (TX3 4).1 (TX3 4).2.1 (TX3 4).2.2.1).before args s = true) {x : Int64} (hu : u2 = swL u cd x) (hdg : decode cc pc = .ok (.putfield index, 3))
    (kk : ∀ (H1 : Heap) (locs1 : List Loc), xwP D cy ad u2 H1 → va_S A H0 H1 locs1 → W p l e R s m args below meth c H1 locs1 cells slots Q (F0 m (pc + 3) ls rest)) : W p l e R s m args below meth c H locs cells slots Q (F0 m pc ls (.long x :: .ref (ad cd) :: rest)) := by
  subst hu
  exact sw_put hexec hb hts hin tyX3 tyX3_ok nmX3 hown hK hP hJ hS (xw_NV hd) (hA cd (xw_NV hd)) (he := xw_celV hd) rfl 4 (by decide) hlink (by decide +kernel) (ty := .long) (by decide +kernel) rfl rfl (show 4 < 5 by decide) hdg (fun H1 locs1 h1 h3 => kk H1 locs1 (swP.eq h1 (xw_upVL hd)) h3)
theorem xw_putR (hexec : p.tables.exec = Jvm.exec) (hb : c.code = cc) (hts : ∀ w ∈ Ts, w.before args s = true) (hin : ∀ w ∈ wsX20, w ∈ Ts) (hown : s.vm.findClass own = some m.cls) (hK : swK D cy s) (hJ : swJ xw_N ad) (hA : ∀ c, xw_N c = true → A (ad c)) (hP : xwP D cy ad u H) (hS : va_S A H0 H locs) {cd : Nat} (hd : xw_R cd) (k : Nat) (hk : k < 4) (hlink : (Cond.fieldLink own index (TX2 k).1 (TX2 k).2.1 (TX2 k).2.2.1).before args s = true) {x : Int32} (hu : u2 = swI u cd k x) (hdg : decode cc pc = .ok (.putfield index, 3))
    (kk : ∀ (H1 : Heap) (locs1 : List Loc), xwP D cy ad u2 H1 → va_S A H0 H1 locs1 → W p l e R s m args below meth c H1 locs1 cells slots Q (F0 m (pc + 3) ls rest)) : W p l e R s m args below meth c H locs cells slots Q (F0 m pc ls (.int x :: .ref (ad cd) :: rest)) := by
  subst hu
  have h2 : (TX2 k).2.2.2 = false ∧ parseFieldDescriptor (TX2 k).2.2.1 = some .int := by
    rcases (by omega : k = 0 ∨ k = 1 ∨ k = 2 ∨ k = 3) with rfl | rfl | rfl | rfl <;> exact ⟨by decide +kernel, by decide +kernel⟩
  exact sw_put hexec hb hts hin tyX2 tyX2_ok nmX2 hown hK hP hJ hS (xw_NR hd) (hA cd (xw_NR hd)) (he := xw_celR hd) rfl k hk hlink h2.1 h2.2 rfl rfl (show k < 4 from hk) hdg (fun H1 locs1 h1 h3 => kk H1 locs1 (swP.eq h1 (xw_upR hd hk)) h3)
theorem xw_putY (hexec : p.tables.exec = Jvm.exec) (hb : c.code = cc) (hts : ∀ w ∈ Ts, w.before args s = true) (hin : ∀ w ∈ wsX40, w ∈ Ts) (hown : s.vm.findClass own = some m.cls) (hK : swK D cy s) (hJ : swJ xw_N ad) (hA : ∀ c, xw_N c = true → A (ad c)) (hP : xwP D cy ad u H) (hS : va_S A H0 H locs) {cd : Nat} (hd : xw_Y cd) (k : Nat) (hk : k < 3) (hlink : (Cond.fieldLink own index (TX4 k).1 (TX4 k).2.1 (TX4 k).2.2.1).before args s = true) {x : Int32} (hu : u2 = swI u cd k x) (hdg : decode cc pc = .ok (.putfield index, 3))
    (kk : ∀ (H1 : Heap) (locs1 : List Loc), xwP D cy ad u2 H1 → va_S A H0 H1 locs1 → W p l e R s m args below meth c H1 locs1 cells slots Q (F0 m (pc + 3) ls rest)) : W p l e R s m args below meth c H locs cells slots Q (F0 m pc ls (.int x :: .ref (ad cd) :: rest)) := by
  subst hu
  have h2 : (TX4 k).2.2.2 = false ∧ parseFieldDescriptor (TX4 k).2.2.1 = some .int := by
    rcases (by omega : k = 0 ∨ k = 1 ∨ k = 2) with rfl | rfl | rfl <;> exact ⟨by decide +kernel, by decide +kernel⟩
  exact sw_put hexec hb hts hin tyX4 tyX4_ok nmX4 hown hK hP hJ hS (xw_NY hd) (hA cd (xw_NY hd)) (he := xw_celY hd) rfl k hk hlink h2.1 h2.2 rfl rfl (show k < 3 from hk) hdg (fun H1 locs1 h1 h3 => kk H1 locs1 (swP.eq h1 (xw_upY hd hk)) h3)
/-- arrays of ints: 'he' says which -/
theorem xw_ald (hexec : p.tables.exec = Jvm.exec) (hb : c.code = cc) (hK : swK D cy s) (hP : xwP D cy ad u H) {cd n : Nat} (hN : xw_N cd = true) (he : xw_cel cy ad u cd = .inl (cy 0, n, .inl (u.1 cd))) {i x : Int32} (hin : vp_in i n) (hdg : decode cc pc = .ok (.iaload, 1)) (hx : x = u.1 cd i.toNatClampNeg)
    (kk : W p l e R s m args below meth c H locs cells slots Q (F0 m (pc + 1) ls (.int x :: rest))) : W p l e R s m args below meth c H locs cells slots Q (F0 m pc ls (.int i :: .ref (ad cd) :: rest)) :=
  sw_iald hexec hb hK hP hN he hin hdg hx kk
theorem xw_ast (hexec : p.tables.exec = Jvm.exec) (hb : c.code = cc) (hK : swK D cy s) (hJ : swJ xw_N ad) (hA : ∀ c, xw_N c = true → A (ad c)) (hP : xwP D cy ad u H) (hS : va_S A H0 H locs) {cd n : Nat} (hN : xw_N cd = true) (he : ∀ f, xw_cell cy ad f (u.2 cd) cd = .inl (cy 0, n, .inl f)) {i x : Int32} (hin : vp_in i n) (hu : u2 = swI u cd i.toNatClampNeg x) (hdg : decode cc pc = .ok (.iastore, 1))
    (kk : ∀ (H1 : Heap) (locs1 : List Loc), xwP D cy ad u2 H1 → va_S A H0 H1 locs1 → W p l e R s m args below meth c H1 locs1 cells slots Q (F0 m (pc + 1) ls rest)) : W p l e R s m args below meth c H locs cells slots Q (F0 m pc ls (.int x :: .int i :: .ref (ad cd) :: rest)) := by
  subst hu
  exact sw_iast (f := u.1 cd) hexec hb hK hP hJ hS hN (hA cd hN) (he := he _) hin hdg (fun H1 locs1 h1 h3 => kk H1 locs1 (swP.eq h1 (xw_upA he)) h3)
/-- arrays of references -/
theorem xw_aldV (hexec : p.tables.exec = Jvm.exec) (hb : c.code = cc) (hK : swK D cy s) (hP : xwP D cy ad u H) {i : Int32} {x : Nat} (hin : vp_in i 40) (hdg : decode cc pc = .ok (.aaload, 1)) (hx : x = 100 + i.toNatClampNeg)
    (kk : W p l e R s m args below meth c H locs cells slots Q (F0 m (pc + 1) ls (.ref (ad x) :: rest))) : W p l e R s m args below meth c H locs cells slots Q (F0 m pc ls (.int i :: .ref (ad 3) :: rest)) :=
  sw_aald hexec hb hK hP (cd := 3) (by decide) (t0 := 3) rfl (he := rfl) hin hdg (by rw [hx]) kk
theorem xw_aldR (hexec : p.tables.exec = Jvm.exec) (hb : c.code = cc) (hK : swK D cy s) (hP : xwP D cy ad u H) {i : Int32} {x : Nat} (hin : vp_in i 8) (hdg : decode cc pc = .ok (.aaload, 1)) (hx : x = 10 + i.toNatClampNeg)
    (kk : W p l e R s m args below meth c H locs cells slots Q (F0 m (pc + 1) ls (.ref (ad x) :: rest))) : W p l e R s m args below meth c H locs cells slots Q (F0 m pc ls (.int i :: .ref (ad 4) :: rest)) :=
  sw_aald hexec hb hK hP (cd := 4) (by decide) (t0 := 2) rfl (he := rfl) hin hdg (by rw [hx]) kk
theorem xw_aldY (hexec : p.tables.exec = Jvm.exec) (hb : c.code = cc) (hK : swK D cy s) (hP : xwP D cy ad u H) {i : Int32} {x : Nat} (hin : vp_in i 12) (hdg : decode cc pc = .ok (.aaload, 1)) (hx : x = 20 + i.toNatClampNeg)
    (kk : W p l e R s m args below meth c H locs cells slots Q (F0 m (pc + 1) ls (.ref (ad x) :: rest))) : W p l e R s m args below meth c H locs cells slots Q (F0 m pc ls (.int i :: .ref (ad 5) :: rest)) :=
  sw_aald hexec hb hK hP (cd := 5) (by decide) (t0 := 4) rfl (he := rfl) hin hdg (by rw [hx]) kk
end XWROWS
/-- the family as a list -/
theorem sw_list {D : va_G} {N : Nat → Bool} {ad : Nat → Nat} {cel : Nat → va_E} {H : Heap} {B : Nat} (hB : ∀ c, N c = true → c < B) (hP : swP D N ad cel H) (hJ : swJ N ad) : ∃ ws : va_W, va_P D vwCl ws H ∧ (∀ A : Nat → Prop, (∀ c, N c = true → A (ad c)) → va_D A ws) ∧ ∀ cd, N cd = true → ∃ k, ws[k]? = some (ad cd, cel cd) ∧ ∀ (e : va_E) (H1 : Heap), va_P D vwCl (ws.set k (ad cd, e)) H1 → swP D N ad (va_up cel cd e) H1 := by
  have hmem : ∀ c, c ∈ (List.range B).filter N ↔ N c = true := fun c => by
    rw [List.mem_filter, List.mem_range]
    exact ⟨fun h => h.2, fun h => ⟨hB c h, h⟩⟩
  have hnd : ((List.range B).filter N).Nodup := List.nodup_range.filter _
  generalize (List.range B).filter N = L at hmem hnd
  have hat : ∀ (k : Nat) (q : Nat × va_E), (L.map (fun c => (ad c, cel c)))[k]? = some q → ∃ c, L[k]? = some c ∧ N c = true ∧ q = (ad c, cel c) := by
    intro k q hk
    rw [List.getElem?_map] at hk
    cases hc : L[k]? with
    | none => rw [hc] at hk; cases hk
    | some c =>
      rw [hc] at hk
      exact ⟨c, rfl, (hmem c).mp (List.mem_of_getElem? hc), (Option.some.inj hk).symm⟩
  have hfind : ∀ c, N c = true → ∃ k, L[k]? = some c := fun c hc => List.getElem?_of_mem ((hmem c).mpr hc)
  have huniq : ∀ (i j c : Nat), L[i]? = some c → L[j]? = some c → i = j := fun i j c h1 h2 => by
    have hi := (List.getElem?_eq_some_iff.mp h1).1
    exact (List.getElem?_inj hi hnd).mp (h1.trans h2.symm)
  refine ⟨L.map (fun c => (ad c, cel c)), fun k q hk => ?_, fun A hA => ⟨fun i j x y hx hy hxy => ?_, fun k q hk => ?_⟩, fun cd hcd => ?_⟩
  · obtain ⟨c, -, hc, rfl⟩ := hat k q hk
    exact hP c hc
  · obtain ⟨c1, h1, n1, rfl⟩ := hat i x hx
    obtain ⟨c2, h2, n2, rfl⟩ := hat j y hy
    have e := hJ c1 c2 n1 n2 hxy
    subst e
    exact huniq i j c1 h1 h2
  · obtain ⟨c, -, hc, rfl⟩ := hat k q hk
    exact hA c hc
  · obtain ⟨k, hk⟩ := hfind cd hcd
    have hk2 : (L.map (fun c => (ad c, cel c)))[k]? = some (ad cd, cel cd) := by rw [List.getElem?_map, hk]; rfl
    refine ⟨k, hk2, fun e H1 h c hc => ?_⟩
    by_cases hcd2 : c = cd
    · subst hcd2
      rw [va_up_self]
      exact h k (ad c, e) (by rw [List.getElem?_set_self (List.getElem?_eq_some_iff.mp hk2).1])
    · rw [va_up_ne _ _ hcd2]
      obtain ⟨j, hj⟩ := hfind c hc
      have hjk : k ≠ j := fun q => hcd2 (by rw [q] at hk; exact Option.some.inj (hj.symm.trans hk))
      exact h j (ad c, cel c) (by rw [List.getElem?_set_ne hjk, List.getElem?_map, hj]; rfl)
theorem xw_bound : ∀ c, xw_N c = true → c < 441 := fun c h => by
  have := of_decide_eq_true h
  omega

def xwC (D : va_G) (cy : Nat → ClassId) (ad : Nat → Nat) (u : swU) (av : List Value) : Array Value → State → Prop := va_Pc av (fun U => xwP D cy ad u U.heap ∧ swK D cy U)
abbrev xw_mc (ad : Nat → Nat) (co ca cb : Nat) : va_E := .inr (1, [.ref (ad co), .ref (ad ca), .ref (ad cb)])
def xwCM (D : va_G) (cy : Nat → ClassId) (ad : Nat → Nat) (u : swU) (g co ca cb : Nat) (av : List Value) : Array Value → State → Prop := va_Pc av (fun U => xwP D cy ad u U.heap ∧ swK D cy U ∧ va_at D vwCl (g, xw_mc ad co ca cb) U.heap)
def xwQv (D : va_G) (cy : Nat → ClassId) (ad : Nat → Nat) (u0 : swU) : Array Value → State → Outcome → State → Prop := va_Qv (fun _ : Unit => True) (fun _ t => xwP D cy ad u0 t.heap) (xwA0 ad)
def xwQr (D : va_G) (cy : Nat → ClassId) (ad : Nat → Nat) (r0 : Nat) (u0 : swU) : Array Value → State → Outcome → State → Prop := va_Qr (fun _ : Unit => True) (fun _ a t => a = ad r0 ∧ xw_D r0 ∧ xwP D cy ad u0 t.heap) (xwA0 ad)
def xwSr (ad : Nat → Nat) (r0 : Nat) : Array Value → State → Outcome → State → Prop := va_Sr (fun k => k = r0 ∧ xw_D k) (fun k => .ref (ad k))
theorem xwC_blind {D : va_G} {cy : Nat → ClassId} {ad : Nat → Nat} {u : swU} {av : List Value} : FrameBlind (xwC D cy ad u av) := fun a U g mk q => ⟨q.1, q.2.1, va_K.moved (u := U) (U := U.calling g mk a) (Vm.Alike.refl U.vm) q.2.2⟩
theorem xwCM_blind {D : va_G} {cy : Nat → ClassId} {ad : Nat → Nat} {u : swU} {g co ca cb : Nat} {av : List Value} : FrameBlind (xwCM D cy ad u g co ca cb av) := fun a U g mk q => ⟨q.1, q.2.1, va_K.moved (u := U) (U := U.calling g mk a) (Vm.Alike.refl U.vm) q.2.2.1, q.2.2.2⟩
theorem xw_end {D : va_G} {cy : Nat → ClassId} {ad : Nat → Nat} {u u0 : swU} {H : Heap} {t : State} (h : xwP D cy ad u H) (ht : t.heap = H) (e : u = u0) : xwP D cy ad u0 t.heap := by
  rw [ht, ← e]
  exact h
theorem xw_A0 {ad : Nat → Nat} : ∀ c, xw_N c = true → xwA0 ad (ad c) := fun c h => ⟨c, h, rfl⟩
theorem xw_A1 {ad : Nat → Nat} {sz : Nat} : ∀ c, xw_N c = true → xwA ad sz (ad c) := fun c h => Or.inl ⟨c, h, rfl⟩
theorem xw_G {D : va_G} {ad : Nat → Nat} {H0 H : Heap} {locs : List Loc} {g : Nat} {e : va_E} (hg : ∀ c, xw_N c = true → ad c ≠ g) (h : va_at D vwCl (g, e) H0) (hS : va_S (xwA0 ad) H0 H locs) : va_at D vwCl (g, e) H := h.kept (hS.2.1 g h.lt (fun q => by
  obtain ⟨c, hc, e⟩ := q
  exact hg c hc e.symm))
section XWCALLS
variable {p : Program} {l : Launch} {e : Env} {R : Room} {s : State} {m : MethodId} {args : Array Value} {below : List Frame} {meth : Method} {c : Code} {H : Heap} {locs : List Loc} {cells slots : Nat} {Q : State → Prop}
variable {cc : ByteArray} {pc : Nat} {ls : Array Slot} {rest : List Value} {D : va_G} {cy : Nat → ClassId} {ad : Nat → Nat} {u u2 : swU} {H0 : Heap} {A : Nat → Prop} {a g co ca cb : Nat}
variable {nL index n maxL : Nat} {Ts ws : List Cond} {own C : String} {y : MethodName} {bytes : ByteArray} {ret : Option FieldType} {rm : Room} {As st : List Value}
theorem xw_rO (hK : swK D cy s) (hP : xwP D cy ad u H) : ∃ cell : Cell, H[ad 0]? = some cell ∧ cell.vm.isStatics = false ∧ s.vm.findClass RX5 = some cell.cls := hP.recv hK (cd := 0) (by decide) (ci := 5) (q := (RX5, TX5, 12)) rfl rfl
theorem xw_rD (hK : swK D cy s) (hP : xwP D cy ad u H) {cd : Nat} (hd : xw_D cd) : ∃ cell : Cell, H[ad cd]? = some cell ∧ cell.vm.isStatics = false ∧ s.vm.findClass RX0 = some cell.cls := hP.recv hK (xw_ND hd) (ci := 0) (q := (RX0, TX0, 3)) rfl (xw_celD hd)
theorem xw_rR (hK : swK D cy s) (hP : xwP D cy ad u H) {cd : Nat} (hd : xw_R cd) : ∃ cell : Cell, H[ad cd]? = some cell ∧ cell.vm.isStatics = false ∧ s.vm.findClass RX2 = some cell.cls := hP.recv hK (xw_NR hd) (ci := 2) (q := (RX2, TX2, 4)) rfl (xw_celR hd)
theorem xw_rM (hK : swK D cy s) (hG : va_at D vwCl (g, xw_mc ad co ca cb) H) : ∃ cell : Cell, H[g]? = some cell ∧ cell.vm.isStatics = false ∧ s.vm.findClass RX1 = some cell.cls := va_recv hK (q := (RX1, TX1, 3)) (ws := [(g, xw_mc ad co ca cb)]) (fun k q hk => by
    match k, hk with
    | 0, hk => cases hk; exact hG) rfl (q0 := 0) rfl
theorem xw_calli {r0 : Int32} (E : CallFix p m c cc nL s args Ts own) (hM : Met l y ws rm (xwC D cy ad u (.ref a :: As)) (vp_Si (fun r : Int32 => r = r0)) 0 0 (fun _ => False)) (cw : CallW R s args own C index y bytes maxL ret ws rm 0 0 n) (hK : swK D cy s) (hP : xwP D cy ad u H) (hr : ∃ cell : Cell, H[a]? = some cell ∧ cell.vm.isStatics = false ∧ s.vm.findClass C = some cell.cls) (hcs : cells ≤ R.cells ∧ slots ≤ R.slots) (hn : As.length = n) (hsize : ls.size = nL) (hst : st = As.reverse ++ .ref a :: rest) (hroom : (rest.map fun v => v.category).sum ≤ 8) (hdg : decode cc pc = .ok (.invokevirtual index, 3))
    (kk : W p l e R s m args below meth c H locs cells slots Q (F0 m (pc + 3) ls (.int r0 :: rest))) : W p l e R s m args below meth c H locs cells slots Q (F0 m pc ls st) :=
  vp_callSi (W.runV E hM cw ⟨xwC_blind, hr, fun U hU hW => ⟨rfl, by rw [hU]; exact hP, va_K.moved hW.alike hK⟩⟩ rfl hn hsize hst (lv_room hroom) hdg hcs) (fun r hr => by rw [hr]; exact kk)
theorem xw_calll {r0 : Int64} (E : CallFix p m c cc nL s args Ts own) (hM : Met l y ws rm (xwC D cy ad u (.ref a :: As)) (vp_Sl (fun r : Int64 => r = r0)) 0 0 (fun _ => False)) (cw : CallW R s args own C index y bytes maxL ret ws rm 0 0 n) (hK : swK D cy s) (hP : xwP D cy ad u H) (hr : ∃ cell : Cell, H[a]? = some cell ∧ cell.vm.isStatics = false ∧ s.vm.findClass C = some cell.cls) (hcs : cells ≤ R.cells ∧ slots ≤ R.slots) (hn : As.length = n) (hsize : ls.size = nL) (hst : st = As.reverse ++ .ref a :: rest) (hroom : (rest.map fun v => v.category).sum ≤ 8) (hdg : decode cc pc = .ok (.invokevirtual index, 3))
    (kk : W p l e R s m args below meth c H locs cells slots Q (F0 m (pc + 3) ls (.long r0 :: rest))) : W p l e R s m args below meth c H locs cells slots Q (F0 m pc ls st) :=
  vp_callSl (W.runV E hM cw ⟨xwC_blind, hr, fun U hU hW => ⟨rfl, by rw [hU]; exact hP, va_K.moved hW.alike hK⟩⟩ rfl hn hsize hst (lv_room hroom) hdg hcs) (fun r hr => by rw [hr]; exact kk)
theorem xw_callr {r0 : Nat} (E : CallFix p m c cc nL s args Ts own) (hM : Met l y ws rm (xwC D cy ad u (.ref a :: As)) (xwSr ad r0) 0 0 (fun _ => False)) (cw : CallW R s args own C index y bytes maxL ret ws rm 0 0 n) (hK : swK D cy s) (hP : xwP D cy ad u H) (hr : ∃ cell : Cell, H[a]? = some cell ∧ cell.vm.isStatics = false ∧ s.vm.findClass C = some cell.cls) (hcs : cells ≤ R.cells ∧ slots ≤ R.slots) (hn : As.length = n) (hsize : ls.size = nL) (hst : st = As.reverse ++ .ref a :: rest) (hroom : (rest.map fun v => v.category).sum ≤ 8) (hdg : decode cc pc = .ok (.invokevirtual index, 3))
    (kk : xw_D r0 → W p l e R s m args below meth c H locs cells slots Q (F0 m (pc + 3) ls (.ref (ad r0) :: rest))) : W p l e R s m args below meth c H locs cells slots Q (F0 m pc ls st) :=
  va_csr (W.runV E hM cw ⟨xwC_blind, hr, fun U hU hW => ⟨rfl, by rw [hU]; exact hP, va_K.moved hW.alike hK⟩⟩ rfl hn hsize hst (lv_room hroom) hdg hcs) (fun r hr => by
    obtain ⟨e1, e2⟩ := hr
    subst e1
    exact kk e2)
theorem xw_callWv (E : CallFix p m c cc nL s args Ts own) (hM : Met l y ws rm (xwC D cy ad u (.ref a :: As)) (xwQv D cy ad u2) 0 0 (xwA0 ad)) (cw : CallW R s args own C index y bytes maxL ret ws rm 0 0 n) (hK : swK D cy s) (hP : xwP D cy ad u H) (hS : va_S A H0 H locs) (hA : ∀ c, xw_N c = true → A (ad c)) (hr : ∃ cell : Cell, H[a]? = some cell ∧ cell.vm.isStatics = false ∧ s.vm.findClass C = some cell.cls) (hcs : cells ≤ R.cells ∧ slots ≤ R.slots) (hn : As.length = n) (hsize : ls.size = nL) (hst : st = As.reverse ++ .ref a :: rest) (hroom : (rest.map fun v => v.category).sum ≤ 8) (hdg : decode cc pc = .ok (.invokevirtual index, 3))
    (kk : ∀ (H1 : Heap) (locs1 : List Loc), xwP D cy ad u2 H1 → va_S A H0 H1 locs1 → H.size ≤ H1.size → (∀ q : Nat, q < H.size → ¬ xwA0 ad q → H1[q]? = H[q]?) → W p l e R s m args below meth c H1 locs1 cells slots Q (F0 m (pc + 3) ls rest)) : W p l e R s m args below meth c H locs cells slots Q (F0 m pc ls st) :=
  va_callv (va_runV E hM cw ⟨xwC_blind, hr, fun U hU hW => ⟨rfl, by rw [hU]; exact hP, va_K.moved hW.alike hK⟩⟩ rfl hn hsize hst (lv_room hroom) hdg hcs) hS (fun _ _ h => by obtain ⟨c, hc, rfl⟩ := h; exact hA c hc) (fun _ h => by obtain ⟨c, hc, rfl⟩ := h; exact hA c hc) (fun _ t H1 locs1 ht _ _ hB hz hk hS1 => kk H1 locs1 (by rw [← ht]; exact hB) hS1 hz hk)
theorem xw_callWr {r0 : Nat} (E : CallFix p m c cc nL s args Ts own) (hM : Met l y ws rm (xwC D cy ad u (.ref a :: As)) (xwQr D cy ad r0 u2) 0 0 (xwA0 ad)) (cw : CallW R s args own C index y bytes maxL ret ws rm 0 0 n) (hK : swK D cy s) (hP : xwP D cy ad u H) (hS : va_S A H0 H locs) (hA : ∀ c, xw_N c = true → A (ad c)) (hr : ∃ cell : Cell, H[a]? = some cell ∧ cell.vm.isStatics = false ∧ s.vm.findClass C = some cell.cls) (hcs : cells ≤ R.cells ∧ slots ≤ R.slots) (hn : As.length = n) (hsize : ls.size = nL) (hst : st = As.reverse ++ .ref a :: rest) (hroom : (rest.map fun v => v.category).sum ≤ 8) (hdg : decode cc pc = .ok (.invokevirtual index, 3))
    (kk : ∀ (H1 : Heap) (locs1 : List Loc), xw_D r0 → xwP D cy ad u2 H1 → va_S A H0 H1 locs1 → W p l e R s m args below meth c H1 locs1 cells slots Q (F0 m (pc + 3) ls (.ref (ad r0) :: rest))) : W p l e R s m args below meth c H locs cells slots Q (F0 m pc ls st) :=
  va_callr (va_runV E hM cw ⟨xwC_blind, hr, fun U hU hW => ⟨rfl, by rw [hU]; exact hP, va_K.moved hW.alike hK⟩⟩ rfl hn hsize hst (lv_room hroom) hdg hcs) hS (fun _ _ h => by obtain ⟨c, hc, rfl⟩ := h; exact hA c hc) (fun _ h => by obtain ⟨c, hc, rfl⟩ := h; exact hA c hc) (fun _ ra t H1 locs1 ht _ _ hB _ _ hS1 => by
    obtain ⟨e1, e2, e3⟩ := hB
    subst e1
    exact kk H1 locs1 e2 (by rw [← ht]; exact e3) hS1)
theorem xw_calliM {r0 : Int32} (E : CallFix p m c cc nL s args Ts own) (hM : Met l y ws rm (xwCM D cy ad u g co ca cb (.ref g :: As)) (vp_Si (fun r : Int32 => r = r0)) 0 0 (fun _ => False)) (cw : CallW R s args own RX1 index y bytes maxL ret ws rm 0 0 n) (hK : swK D cy s) (hP : xwP D cy ad u H) (hG : va_at D vwCl (g, xw_mc ad co ca cb) H) (hcs : cells ≤ R.cells ∧ slots ≤ R.slots) (hn : As.length = n) (hsize : ls.size = nL) (hst : st = As.reverse ++ .ref g :: rest) (hroom : (rest.map fun v => v.category).sum ≤ 8) (hdg : decode cc pc = .ok (.invokevirtual index, 3))
    (kk : W p l e R s m args below meth c H locs cells slots Q (F0 m (pc + 3) ls (.int r0 :: rest))) : W p l e R s m args below meth c H locs cells slots Q (F0 m pc ls st) :=
  vp_callSi (W.runV E hM cw ⟨xwCM_blind, xw_rM hK hG, fun U hU hW => ⟨rfl, by rw [hU]; exact hP, va_K.moved hW.alike hK, by rw [hU]; exact hG⟩⟩ rfl hn hsize hst (lv_room hroom) hdg hcs) (fun r hr => by rw [hr]; exact kk)
theorem xw_callWvM (E : CallFix p m c cc nL s args Ts own) (hM : Met l y ws rm (xwCM D cy ad u g co ca cb (.ref g :: As)) (xwQv D cy ad u2) 0 0 (xwA0 ad)) (cw : CallW R s args own RX1 index y bytes maxL ret ws rm 0 0 n) (hK : swK D cy s) (hP : xwP D cy ad u H) (hG : va_at D vwCl (g, xw_mc ad co ca cb) H) (hS : va_S A H0 H locs) (hA : ∀ c, xw_N c = true → A (ad c)) (hcs : cells ≤ R.cells ∧ slots ≤ R.slots) (hn : As.length = n) (hsize : ls.size = nL) (hst : st = As.reverse ++ .ref g :: rest) (hroom : (rest.map fun v => v.category).sum ≤ 8) (hdg : decode cc pc = .ok (.invokevirtual index, 3))
    (kk : ∀ (H1 : Heap) (locs1 : List Loc), xwP D cy ad u2 H1 → va_S A H0 H1 locs1 → H.size ≤ H1.size → (∀ q : Nat, q < H.size → ¬ xwA0 ad q → H1[q]? = H[q]?) → W p l e R s m args below meth c H1 locs1 cells slots Q (F0 m (pc + 3) ls rest)) : W p l e R s m args below meth c H locs cells slots Q (F0 m pc ls st) :=
  va_callv (va_runV E hM cw ⟨xwCM_blind, xw_rM hK hG, fun U hU hW => ⟨rfl, by rw [hU]; exact hP, va_K.moved hW.alike hK, by rw [hU]; exact hG⟩⟩ rfl hn hsize hst (lv_room hroom) hdg hcs) hS (fun _ _ h => by obtain ⟨c, hc, rfl⟩ := h; exact hA c hc) (fun _ h => by obtain ⟨c, hc, rfl⟩ := h; exact hA c hc) (fun _ t H1 locs1 ht _ _ hB hz hk hS1 => kk H1 locs1 (by rw [← ht]; exact hB) hS1 hz hk)
end XWCALLS
