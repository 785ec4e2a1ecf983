/-! ===== pictures that grow: made in a loop ===== -/
theorem va_at.congr {D : va_G} {a : Nat} {cA : ClassId} {n : Nat} {f f' : Nat → Option Nat} {H : Heap} (h : va_at D vwCl (a, .inl (cA, n, .inr (.inr (.inr (.inr f))))) H) (hf : ∀ j, j < n → f' j = f j) : va_at D vwCl (a, .inl (cA, n, .inr (.inr (.inr (.inr f'))))) H := by
  have h1 : H[a]? = some (vp_cell cA (n, .inr (.inr (.inr (.inr f))))) := h
  show H[a]? = some (vp_cell cA (n, .inr (.inr (.inr (.inr f')))))
  rw [h1, vp_cell_q, vp_cell_q]
  unfold arrV
  congr 3
  funext j
  exact congrArg va_rf (hf j.val j.isLt).symm
theorem sw_neq {N : Nat → Bool} {ad : Nat → Nat} {cd q x : Nat} (h : ∀ c, N c = true → ad c ≠ x) (hq : q ≠ x) : ∀ c, va_up N cd true c = true → va_up ad cd q c ≠ x := by
  intro c hc
  by_cases h1 : c = cd
  · rw [h1, va_up_self]
    exact hq
  · rw [va_up_ne _ _ h1] at hc ⊢
    exact h c hc
theorem sw_upT {N : Nat → Bool} {cd c : Nat} (h : c ≠ cd → N c = true) : va_up N cd true c = true := by
  by_cases h1 : c = cd
  · rw [h1, va_up_self]
  · rw [va_up_ne _ _ h1]
    exact h h1
theorem swP.to {D : va_G} {N N' : Nat → Bool} {ad : Nat → Nat} {cel cel' : Nat → va_E} {H : Heap} (h : swP D N ad cel H) (hN : ∀ c, N' c = true → N c = true) (he : ∀ c, N' c = true → cel' c = cel c) : swP D N' ad cel' H := fun c hc => by
  rw [he c hc]
  exact h c (hN c hc)
theorem swJ.to {N N' : Nat → Bool} {ad : Nat → Nat} (h : swJ N ad) (hN : ∀ c, N' c = true → N c = true) : swJ N' ad := fun c d hc hd => h c d (hN c hc) (hN d hd)
section GROWROWS
variable {p : Program} {l : Launch} {e : Env} {R : Room} {s : State} {m : MethodId} {args : Array Value} {below : List Frame} {meth : Method} {c : Code} {H : Heap} {locs : List Loc} {cells slots : Nat} {Q : State → Prop}
variable {cc : ByteArray} {pc : Nat} {ls : Array Slot} {rest : List Value} {D : va_G} {cy : Nat → ClassId} {A : Nat → Prop} {N : Nat → Bool} {ad : Nat → Nat} {cel : Nat → va_E} {H0 : Heap}
theorem sw_newP (hexec : p.tables.exec = Jvm.exec) (hb : c.code = cc) {own C : String} {T : u_T} {n ci index : Nat} {Ts : List Cond} (hts : ∀ w ∈ Ts, w.before args s = true) (hin : ∀ w ∈ u_ws C T n, w ∈ Ts) (ty : Nat → FieldType) (hty : ∀ k, k < n → parseFieldDescriptor (T k).2.2.1 = some (ty k)) (hown : s.vm.findClass own = some m.cls) (hcl : (Cond.classLink own index C).before args s = true) (hinst : (Cond.instantiable C n).before args s = true) (hini : (Cond.initialized C).before args s = true)
    (hK : swK D cy s) {B : Nat} (hB : ∀ c, N c = true → c < B) (hP : swP D N ad cel H) (hJ : swJ N ad) (hAN : ∀ c, N c = true → A (ad c)) (hS : va_S A H0 H locs) (hA : ∀ q, H0.size ≤ q → A q) (hc : vwCl[ci]? = some (C, T, n)) {fs : List Value} (hfs : ∀ j, j < n → defaultValue (ty j) = vp_V fs j) (hcells : cells + 1 ≤ R.cells) (hslots : slots + n ≤ R.slots) (hdg : decode cc pc = .ok (.new index, 3))
    (kk : ∀ (q : Nat) (H1 : Heap), A q → swP D N ad cel H1 → va_at D vwCl (q, .inr (ci, fs)) H1 → (∀ c, N c = true → ad c ≠ q) → va_S A H0 H1 locs →
      W p l e R s m args below meth c H1 locs (cells + 1) (slots + n) Q (F0 m (pc + 3) ls (.ref q :: rest))) : W p l e R s m args below meth c H locs cells slots Q (F0 m pc ls rest) := by
  obtain ⟨ws, wP, wD, wat⟩ := sw_list hB hP hJ
  refine va_new hexec hb hts hin ty hty hown hcl hinst hini hK wP (wD A hAN) hS hA hc hfs hcells hslots hdg (fun q H1 h1 h2 h3 => ?_)
  have hlast : (ws ++ [(q, (.inr (ci, fs) : va_E))])[ws.length]? = some (q, .inr (ci, fs)) := List.getElem?_concat_length
  have hold : ∀ c, N c = true → ∃ k, k < ws.length ∧ (ws ++ [(q, (.inr (ci, fs) : va_E))])[k]? = some (ad c, cel c) := fun c hc => by
    obtain ⟨k, hk, -⟩ := wat c hc
    have hl := (List.getElem?_eq_some_iff.mp hk).1
    exact ⟨k, hl, by rw [List.getElem?_append_left hl]; exact hk⟩
  refine kk q H1 (h2.2 _ _ hlast) (fun c hc => ?_) (h1 _ _ hlast) (fun c hc hq => ?_) h3
  · obtain ⟨k, -, hk⟩ := hold c hc
    exact h1 k _ hk
  · obtain ⟨k, hl, hk⟩ := hold c hc
    have := h2.1 k ws.length _ _ hk hlast hq
    omega
theorem sw_aast (hexec : p.tables.exec = Jvm.exec) (hb : c.code = cc) (hK : swK D cy s) {B : Nat} (hB : ∀ c, N c = true → c < B) (hP : swP D N ad cel H) (hJ : swJ N ad) (hAN : ∀ c, N c = true → A (ad c)) (hS : va_S A H0 H locs) {cd cv t0 ci : Nat} (hN : N cd = true) (hV : N cv = true) {a v : Nat} (ea : a = ad cd) (ev : v = ad cv) {cA : ClassId} {r : vw_C} {n : Nat} {vs : List Value} {f : Nat → Option Nat} (he : cel cd = .inl (cA, n, .inr (.inr (.inr (.inr f))))) (ht : (swT cy)[t0]? = some (cA, .object r.1)) (hv : cel cv = .inr (ci, vs)) (hc : vwCl[ci]? = some r) {i : Int32} (hin : vp_in i n) (hdg : decode cc pc = .ok (.aastore, 1))
    (kk : ∀ (H1 : Heap) (locs1 : List Loc), swP D N ad (va_up cel cd (.inl (cA, n, .inr (.inr (.inr (.inr (va_up f i.toNatClampNeg (some v)))))))) H1 → va_S A H0 H1 locs1 → W p l e R s m args below meth c H1 locs1 cells slots Q (F0 m (pc + 1) ls rest)) : W p l e R s m args below meth c H locs cells slots Q (F0 m pc ls (.ref v :: .int i :: .ref a :: rest)) := by
  subst ea
  subst ev
  obtain ⟨ws, wP, wD, wat⟩ := sw_list hB hP hJ
  obtain ⟨k, hk, hset⟩ := wat cd hN
  obtain ⟨j, hj, -⟩ := wat cv hV
  rw [he] at hk
  rw [hv] at hj
  exact va_astq hexec hb hK wP (wD A hAN) hS k t0 j ci hk ht hj hc hin hdg (fun H1 locs1 h1 h2 h3 => kk H1 locs1 (hset _ _ h1) h3)
end GROWROWS
abbrev xs_Np (i j k c : Nat) : Prop := c ≤ 5 ∨ (10 ≤ c ∧ c < 10 + j) ∨ (20 ≤ c ∧ c < 20 + k) ∨ (100 ≤ c ∧ c < 100 + i) ∨ (200 ≤ c ∧ c < 200 + i) ∨ c = 240 ∨ (300 ≤ c ∧ c < 300 + i) ∨ c = 340 ∨ (400 ≤ c ∧ c < 400 + i) ∨ c = 440
def xs_N (i j k c : Nat) : Bool := decide (xs_Np i j k c)
theorem xs_Nm {i j k c : Nat} (h : xs_N i j k c = true) : xs_Np i j k c := of_decide_eq_true h
theorem xs_Ni {i j k c : Nat} (h : xs_Np i j k c) : xs_N i j k c = true := decide_eq_true h
theorem xs_B {i j k : Nat} (hi : i ≤ 40) (hj : j ≤ 8) (hk : k ≤ 12) : ∀ c, xs_N i j k c = true → c < 441 := fun c h => by
  have := xs_Nm h
  unfold xs_Np at this
  omega
def xs_r (g : Nat → Nat) (n : Nat) : Nat → Option Nat := fun x => if x < n then some (g x) else none
theorem xs_rup {g : Nat → Nat} {i : Nat} : va_up (xs_r g i) i (some (g i)) = xs_r g (i + 1) := by
  funext x
  unfold xs_r
  by_cases h : x = i
  · rw [h, va_up_self, if_pos (by omega)]
  · rw [va_up_ne _ _ h]
    by_cases h2 : x < i
    · rw [if_pos h2, if_pos (by omega)]
    · rw [if_neg h2, if_neg (by omega)]
theorem xs_rcg {g g' : Nat → Nat} {n : Nat} (h : ∀ x, x < n → g' x = g x) : xs_r g' n = xs_r g n := by
  funext x
  unfold xs_r
  by_cases h2 : x < n
  · rw [if_pos h2, if_pos h2, h x h2]
  · rw [if_neg h2, if_neg h2]
def xs_u : swU := (fun c => if 100 ≤ c ∧ c < 140 then (fun k => if k = 2 ∨ k = 3 then -1 else 0) else (fun _ => 0), fun _ => 0)
def xs_cel (i j k : Nat) (cy : Nat → ClassId) (ad : Nat → Nat) (c : Nat) : va_E :=
  if c = 3 then .inl (cy 3, 40, .inr (.inr (.inr (.inr (xs_r (fun x => ad (100 + x)) i)))))
  else if c = 4 then .inl (cy 2, 8, .inr (.inr (.inr (.inr (xs_r (fun x => ad (10 + x)) j)))))
  else if c = 5 then .inl (cy 4, 12, .inr (.inr (.inr (.inr (xs_r (fun x => ad (20 + x)) k)))))
  else xw_cel cy ad xs_u c
theorem xs_hi {i j k c : Nat} {cy : Nat → ClassId} {ad : Nat → Nat} (h : 6 ≤ c) : xs_cel i j k cy ad c = xw_cel cy ad xs_u c := by
  unfold xs_cel
  rw [if_neg (by omega), if_neg (by omega), if_neg (by omega)]
theorem xs_u0 {c : Nat} (h : c < 100 ∨ 140 ≤ c) : xs_u.1 c = fun _ => 0 := by
  show (if 100 ≤ c ∧ c < 140 then (fun k => if k = 2 ∨ k = 3 then (-1 : Int32) else 0) else (fun _ => 0)) = _
  rw [if_neg (by omega)]
theorem xs_u1 {c : Nat} (h : 100 ≤ c ∧ c < 140) : xs_u.1 c = fun k => if k = 2 ∨ k = 3 then (-1 : Int32) else 0 := by
  show (if 100 ≤ c ∧ c < 140 then (fun k => if k = 2 ∨ k = 3 then (-1 : Int32) else 0) else (fun _ => 0)) = _
  rw [if_pos h]
theorem xs_cV {i j k c : Nat} {cy : Nat → ClassId} {ad : Nat → Nat} (h : xw_V c) : xs_cel i j k cy ad c = .inr (3, [.ref (ad (c + 100)), .int 0, .int (-1), .int (-1), .long 0]) := by
  have h' := h
  unfold xw_V at h'
  rw [xs_hi (by omega), xw_celV h, xs_u1 h']
  rfl
theorem xs_cD {i j k c : Nat} {cy : Nat → ClassId} {ad : Nat → Nat} (h : xw_D c) : xs_cel i j k cy ad c = .inr (0, [.ref (ad (c + 100)), .ref (ad (c + 200)), .int 0]) := by
  have h' := h
  unfold xw_D at h'
  rw [xs_hi (by omega), xw_celD h, xs_u0 (by omega)]
theorem xs_cS {i j k c : Nat} {cy : Nat → ClassId} {ad : Nat → Nat} (h : xw_D c) : xs_cel i j k cy ad (c + 100) = .inl (cy 0, 8, .inl (fun _ => 0)) := by
  have h' := h
  unfold xw_D at h'
  rw [xs_hi (by omega), xw_celS h, xs_u0 (by omega)]
theorem xs_cL {i j k c : Nat} {cy : Nat → ClassId} {ad : Nat → Nat} (h : xw_D c) : xs_cel i j k cy ad (c + 200) = .inl (cy 0, 32, .inl (fun _ => 0)) := by
  have h' := h
  unfold xw_D at h'
  rw [xs_hi (by omega), xw_celL h, xs_u0 (by omega)]
theorem xs_cR {i j k c : Nat} {cy : Nat → ClassId} {ad : Nat → Nat} (h : xw_R c) : xs_cel i j k cy ad c = .inr (2, [.int 0, .int 0, .int 0, .int 0]) := by
  have h' := h
  unfold xw_R at h'
  rw [xs_hi (by omega), xw_celR h, xs_u0 (by omega)]
theorem xs_cY {i j k c : Nat} {cy : Nat → ClassId} {ad : Nat → Nat} (h : xw_Y c) : xs_cel i j k cy ad c = .inr (4, [.int 0, .int 0, .int 0]) := by
  have h' := h
  unfold xw_Y at h'
  rw [xs_hi (by omega), xw_celY h, xs_u0 (by omega)]
/-- cells speak of old codes alone -/
theorem xs_cg {i j k c : Nat} {cy : Nat → ClassId} {ad ad' : Nat → Nat} (hi : i ≤ 40) (hj : j ≤ 8) (hk : k ≤ 12) (hg : ∀ d, xs_N i j k d = true → ad' d = ad d) (hc : xs_N i j k c = true) : xs_cel i j k cy ad' c = xs_cel i j k cy ad c := by
  have h := xs_Nm hc
  have g : ∀ d, xs_Np i j k d → ad' d = ad d := fun d hd => hg d (xs_Ni hd)
  unfold xs_Np at h g
  by_cases c3 : c = 3
  · subst c3
    unfold xs_cel
    rw [if_pos rfl, if_pos rfl, xs_rcg (fun x hx => g _ (by omega))]
  by_cases c4 : c = 4
  · subst c4
    unfold xs_cel
    rw [if_neg (by decide), if_pos rfl, if_neg (by decide), if_pos rfl, xs_rcg (fun x hx => g _ (by omega))]
  by_cases c5 : c = 5
  · subst c5
    unfold xs_cel
    rw [if_neg (by decide), if_neg (by decide), if_pos rfl, if_neg (by decide), if_neg (by decide), if_pos rfl, xs_rcg (fun x hx => g _ (by omega))]
  by_cases c0 : c = 0
  · subst c0
    show (.inr (5, xw_fs ad' (xs_u.1 0)) : va_E) = .inr (5, xw_fs ad (xs_u.1 0))
    unfold xw_fs
    rw [g 3 (by omega), g 1 (by omega), g 2 (by omega), g 4 (by omega), g 5 (by omega), g 240 (by omega)]
  by_cases c1 : c = 1
  · subst c1
    rfl
  by_cases c2 : c = 2
  · subst c2
    rfl
  by_cases cR : c < 18
  · rw [xs_cR (by unfold xw_R; omega), xs_cR (by unfold xw_R; omega)]
  by_cases cY : c < 32
  · rw [xs_cY (by unfold xw_Y; omega), xs_cY (by unfold xw_Y; omega)]
  by_cases cV : c < 140
  · rw [xs_cV (by unfold xw_V; omega), xs_cV (by unfold xw_V; omega), g (c + 100) (by omega)]
  by_cases cD : c ≤ 240
  · rw [xs_cD (by unfold xw_D; omega), xs_cD (by unfold xw_D; omega), g (c + 100) (by omega), g (c + 200) (by omega)]
  by_cases cS : c ≤ 340
  · have e : c = (c - 100) + 100 := by omega
    rw [e, xs_cS (by unfold xw_D; omega), xs_cS (by unfold xw_D; omega)]
  · have e : c = (c - 200) + 200 := by omega
    rw [e, xs_cL (by unfold xw_D; omega), xs_cL (by unfold xw_D; omega)]
theorem xs_l3 {i j k : Nat} {cy : Nat → ClassId} {ad : Nat → Nat} : ∀ c, xs_cel (i + 1) j k cy ad c = va_up (xs_cel i j k cy ad) 3 (.inl (cy 3, 40, .inr (.inr (.inr (.inr (va_up (xs_r (fun x => ad (100 + x)) i) i (some (ad (100 + i)))))))) : va_E) c := by
  intro c
  by_cases h : c = 3
  · rw [h, va_up_self, xs_rup (g := fun x => ad (100 + x))]
    rfl
  · rw [va_up_ne _ _ h]
    unfold xs_cel
    rw [if_neg h, if_neg h]
theorem xs_l4 {i j k : Nat} {cy : Nat → ClassId} {ad : Nat → Nat} : ∀ c, xs_cel i (j + 1) k cy ad c = va_up (xs_cel i j k cy ad) 4 (.inl (cy 2, 8, .inr (.inr (.inr (.inr (va_up (xs_r (fun x => ad (10 + x)) j) j (some (ad (10 + j)))))))) : va_E) c := by
  intro c
  by_cases h : c = 4
  · rw [h, va_up_self, xs_rup (g := fun x => ad (10 + x))]
    rfl
  · rw [va_up_ne _ _ h]
    unfold xs_cel
    rw [if_neg h, if_neg h]
theorem xs_l5 {i j k : Nat} {cy : Nat → ClassId} {ad : Nat → Nat} : ∀ c, xs_cel i j (k + 1) cy ad c = va_up (xs_cel i j k cy ad) 5 (.inl (cy 4, 12, .inr (.inr (.inr (.inr (va_up (xs_r (fun x => ad (20 + x)) k) k (some (ad (20 + k)))))))) : va_E) c := by
  intro c
  by_cases h : c = 5
  · rw [h, va_up_self, xs_rup (g := fun x => ad (20 + x))]
    rfl
  · rw [va_up_ne _ _ h]
    unfold xs_cel
    rw [if_neg h, if_neg h]
/-- the picture while it is being made -/
def xsI (D : va_G) (cy : Nat → ClassId) (h0 sz i j k : Nat) (ad : Nat → Nat) (H : Heap) : Prop := swP D (xs_N i j k) ad (xs_cel i j k cy ad) H ∧ swJ (xs_N i j k) ad ∧ ad 0 = h0 ∧ ∀ c, xs_N i j k c = true → c ≠ 0 → sz ≤ ad c
/-- a version more: its four cells, the array as it was -/
theorem xsI_v {D : va_G} {cy : Nat → ClassId} {h0 sz i j k : Nat} {ad : Nat → Nat} {H : Heap} (hi : i < 40) (hj : j ≤ 8) (hk : k ≤ 12) (hP : swP D (xs_N i j k) ad (xs_cel i j k cy ad) H) (hJ : swJ (xs_N i j k) ad) (h00 : ad 0 = h0) (hsz : ∀ c, xs_N i j k c = true → c ≠ 0 → sz ≤ ad c) {g z1 z2 z3 : Nat} (hB : va_P D vwCl [(g, .inr (3, [.ref z1, .int 0, .int (-1), .int (-1), .long 0])), (z1, .inr (0, [.ref z2, .ref z3, .int 0])), (z2, .inl (cy 0, 8, .inl (fun _ => 0))), (z3, .inl (cy 0, 32, .inl (fun _ => 0)))] H) (ng : ∀ c, xs_N i j k c = true → ad c ≠ g) (n1 : ∀ c, xs_N i j k c = true → ad c ≠ z1) (n2 : ∀ c, xs_N i j k c = true → ad c ≠ z2) (n3 : ∀ c, xs_N i j k c = true → ad c ≠ z3) (g1 : g ≠ z1) (g2 : g ≠ z2) (g3 : g ≠ z3) (n12 : z1 ≠ z2) (n13 : z1 ≠ z3) (n23 : z2 ≠ z3) (sg : sz ≤ g) (s1 : sz ≤ z1) (s2 : sz ≤ z2) (s3 : sz ≤ z3) :
    ∃ ad' : Nat → Nat, swP D (xs_N (i + 1) j k) ad' (xs_cel i j k cy ad') H ∧ swJ (xs_N (i + 1) j k) ad' ∧ ad' 0 = h0 ∧ (∀ c, xs_N (i + 1) j k c = true → c ≠ 0 → sz ≤ ad' c) ∧ g = ad' (100 + i) ∧ ad 3 = ad' 3 := by
  have J1 := hJ.grow (cd := 100 + i) (q := g) ng
  have m1 := sw_neq (cd := 100 + i) (q := g) n1 g1
  have m2 := sw_neq (cd := 100 + i) (q := g) n2 g2
  have m3 := sw_neq (cd := 100 + i) (q := g) n3 g3
  have J2 := J1.grow (cd := 200 + i) (q := z1) m1
  have m2 := sw_neq (cd := 200 + i) (q := z1) m2 n12
  have m3 := sw_neq (cd := 200 + i) (q := z1) m3 n13
  have J3 := J2.grow (cd := 300 + i) (q := z2) m2
  have m3 := sw_neq (cd := 300 + i) (q := z2) m3 n23
  have J4 := J3.grow (cd := 400 + i) (q := z3) m3
  have P1 := hP.grow (cd := 100 + i) (hB 0 _ rfl) (fun _ _ => rfl)
  have P2 := P1.grow (cd := 200 + i) (hB 1 _ rfl) (fun _ _ => rfl)
  have P3 := P2.grow (cd := 300 + i) (hB 2 _ rfl) (fun _ _ => rfl)
  have P4 := P3.grow (cd := 400 + i) (hB 3 _ rfl) (fun _ _ => rfl)
  have hN : ∀ c, xs_N (i + 1) j k c = true → va_up (va_up (va_up (va_up (xs_N i j k) (100 + i) true) (200 + i) true) (300 + i) true) (400 + i) true c = true := fun c hc => by
    have h := xs_Nm hc
    unfold xs_Np at h
    exact sw_upT fun h4 => sw_upT fun h3 => sw_upT fun h2 => sw_upT fun h1 => xs_Ni (by unfold xs_Np; omega)
  generalize had : va_up (va_up (va_up (va_up ad (100 + i) g) (200 + i) z1) (300 + i) z2) (400 + i) z3 = ad' at J4 P4
  have a4 : ad' (400 + i) = z3 := by rw [← had, va_up_self]
  have a3 : ad' (300 + i) = z2 := by rw [← had, va_up_ne _ _ (by omega), va_up_self]
  have a2 : ad' (200 + i) = z1 := by rw [← had, va_up_ne _ _ (by omega), va_up_ne _ _ (by omega), va_up_self]
  have a1 : ad' (100 + i) = g := by rw [← had, va_up_ne _ _ (by omega), va_up_ne _ _ (by omega), va_up_ne _ _ (by omega), va_up_self]
  have ao : ∀ c, c ≠ 100 + i → c ≠ 200 + i → c ≠ 300 + i → c ≠ 400 + i → ad' c = ad c := fun c h1 h2 h3 h4 => by rw [← had, va_up_ne _ _ h4, va_up_ne _ _ h3, va_up_ne _ _ h2, va_up_ne _ _ h1]
  have hg : ∀ d, xs_N i j k d = true → ad' d = ad d := fun d hd => by
    have h := xs_Nm hd
    unfold xs_Np at h
    exact ao d (by omega) (by omega) (by omega) (by omega)
  refine ⟨ad', P4.to hN (fun c hc => ?_), J4.to hN, by rw [ao 0 (by omega) (by omega) (by omega) (by omega)]; exact h00, fun c hc h0 => ?_, a1.symm, (ao 3 (by omega) (by omega) (by omega) (by omega)).symm⟩
  · have h := xs_Nm hc
    unfold xs_Np at h
    by_cases c4 : c = 400 + i
    · subst c4
      rw [va_up_self, show 400 + i = (200 + i) + 200 by omega, xs_cL (by unfold xw_D; omega)]
    rw [va_up_ne _ _ c4]
    by_cases c3 : c = 300 + i
    · subst c3
      rw [va_up_self, show 300 + i = (200 + i) + 100 by omega, xs_cS (by unfold xw_D; omega)]
    rw [va_up_ne _ _ c3]
    by_cases c2 : c = 200 + i
    · subst c2
      rw [va_up_self, xs_cD (by unfold xw_D; omega), show 200 + i + 100 = 300 + i by omega, show 200 + i + 200 = 400 + i by omega, a3, a4]
    rw [va_up_ne _ _ c2]
    by_cases c1 : c = 100 + i
    · subst c1
      rw [va_up_self, xs_cV (by unfold xw_V; omega), show 100 + i + 100 = 200 + i by omega, a2]
    rw [va_up_ne _ _ c1]
    exact xs_cg (by omega) hj hk hg (xs_Ni (by unfold xs_Np; omega))
  · have h := xs_Nm hc
    unfold xs_Np at h
    by_cases c4 : c = 400 + i
    · rw [c4, a4]; exact s3
    by_cases c3 : c = 300 + i
    · rw [c3, a3]; exact s2
    by_cases c2 : c = 200 + i
    · rw [c2, a2]; exact s1
    by_cases c1 : c = 100 + i
    · rw [c1, a1]; exact sg
    rw [ao c c1 c2 c3 c4]
    exact hsz c (xs_Ni (by unfold xs_Np; omega)) h0
/-- a rule more -/
theorem xsI_r {D : va_G} {cy : Nat → ClassId} {h0 sz i j k : Nat} {ad : Nat → Nat} {H : Heap} (hi : i ≤ 40) (hj : j < 8) (hk : k ≤ 12) (hP : swP D (xs_N i j k) ad (xs_cel i j k cy ad) H) (hJ : swJ (xs_N i j k) ad) (h00 : ad 0 = h0) (hsz : ∀ c, xs_N i j k c = true → c ≠ 0 → sz ≤ ad c) {g : Nat} (hB : va_P D vwCl [(g, .inr (2, [.int 0, .int 0, .int 0, .int 0]))] H) (ng : ∀ c, xs_N i j k c = true → ad c ≠ g) (sg : sz ≤ g) :
    ∃ ad' : Nat → Nat, swP D (xs_N i (j + 1) k) ad' (xs_cel i j k cy ad') H ∧ swJ (xs_N i (j + 1) k) ad' ∧ ad' 0 = h0 ∧ (∀ c, xs_N i (j + 1) k c = true → c ≠ 0 → sz ≤ ad' c) ∧ g = ad' (10 + j) ∧ ad 4 = ad' 4 := by
  have J1 := hJ.grow (cd := 10 + j) (q := g) ng
  have P1 := hP.grow (cd := 10 + j) (hB 0 _ rfl) (fun _ _ => rfl)
  have hN : ∀ c, xs_N i (j + 1) k c = true → va_up (xs_N i j k) (10 + j) true c = true := fun c hc => by
    have h := xs_Nm hc
    unfold xs_Np at h
    exact sw_upT fun h1 => xs_Ni (by unfold xs_Np; omega)
  generalize had : va_up ad (10 + j) g = ad' at J1 P1
  have a1 : ad' (10 + j) = g := by rw [← had, va_up_self]
  have ao : ∀ c, c ≠ 10 + j → ad' c = ad c := fun c h1 => by rw [← had, va_up_ne _ _ h1]
  have hg : ∀ d, xs_N i j k d = true → ad' d = ad d := fun d hd => by
    have h := xs_Nm hd
    unfold xs_Np at h
    exact ao d (by omega)
  refine ⟨ad', P1.to hN (fun c hc => ?_), J1.to hN, by rw [ao 0 (by omega)]; exact h00, fun c hc h0 => ?_, a1.symm, (ao 4 (by omega)).symm⟩
  · have h := xs_Nm hc
    unfold xs_Np at h
    by_cases c1 : c = 10 + j
    · subst c1
      rw [va_up_self, xs_cR (by unfold xw_R; omega)]
    rw [va_up_ne _ _ c1]
    exact xs_cg hi (by omega) hk hg (xs_Ni (by unfold xs_Np; omega))
  · have h := xs_Nm hc
    unfold xs_Np at h
    by_cases c1 : c = 10 + j
    · rw [c1, a1]; exact sg
    rw [ao c c1]
    exact hsz c (xs_Ni (by unfold xs_Np; omega)) h0
/-- a waiver more -/
theorem xsI_y {D : va_G} {cy : Nat → ClassId} {h0 sz i j k : Nat} {ad : Nat → Nat} {H : Heap} (hi : i ≤ 40) (hj : j ≤ 8) (hk : k < 12) (hP : swP D (xs_N i j k) ad (xs_cel i j k cy ad) H) (hJ : swJ (xs_N i j k) ad) (h00 : ad 0 = h0) (hsz : ∀ c, xs_N i j k c = true → c ≠ 0 → sz ≤ ad c) {g : Nat} (hB : va_P D vwCl [(g, .inr (4, [.int 0, .int 0, .int 0]))] H) (ng : ∀ c, xs_N i j k c = true → ad c ≠ g) (sg : sz ≤ g) :
    ∃ ad' : Nat → Nat, swP D (xs_N i j (k + 1)) ad' (xs_cel i j k cy ad') H ∧ swJ (xs_N i j (k + 1)) ad' ∧ ad' 0 = h0 ∧ (∀ c, xs_N i j (k + 1) c = true → c ≠ 0 → sz ≤ ad' c) ∧ g = ad' (20 + k) ∧ ad 5 = ad' 5 := by
  have J1 := hJ.grow (cd := 20 + k) (q := g) ng
  have P1 := hP.grow (cd := 20 + k) (hB 0 _ rfl) (fun _ _ => rfl)
  have hN : ∀ c, xs_N i j (k + 1) c = true → va_up (xs_N i j k) (20 + k) true c = true := fun c hc => by
    have h := xs_Nm hc
    unfold xs_Np at h
    exact sw_upT fun h1 => xs_Ni (by unfold xs_Np; omega)
  generalize had : va_up ad (20 + k) g = ad' at J1 P1
  have a1 : ad' (20 + k) = g := by rw [← had, va_up_self]
  have ao : ∀ c, c ≠ 20 + k → ad' c = ad c := fun c h1 => by rw [← had, va_up_ne _ _ h1]
  have hg : ∀ d, xs_N i j k d = true → ad' d = ad d := fun d hd => by
    have h := xs_Nm hd
    unfold xs_Np at h
    exact ao d (by omega)
  refine ⟨ad', P1.to hN (fun c hc => ?_), J1.to hN, by rw [ao 0 (by omega)]; exact h00, fun c hc h0 => ?_, a1.symm, (ao 5 (by omega)).symm⟩
  · have h := xs_Nm hc
    unfold xs_Np at h
    by_cases c1 : c = 20 + k
    · subst c1
      rw [va_up_self, xs_cY (by unfold xw_Y; omega)]
    rw [va_up_ne _ _ c1]
    exact xs_cg hi hj (by omega) hg (xs_Ni (by unfold xs_Np; omega))
  · have h := xs_Nm hc
    unfold xs_Np at h
    by_cases c1 : c = 20 + k
    · rw [c1, a1]; exact sg
    rw [ao c c1]
    exact hsz c (xs_Ni (by unfold xs_Np; omega)) h0

