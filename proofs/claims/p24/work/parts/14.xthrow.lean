/-! throws: what a method that throws needs of its start, the throw itself, calls of methods that throw -/
def swStrs : List (Nat × String) := [(61, "there are 6 branches"), (78, "no such place"), (81, "the head has 8 slides"), (86, "there were 20 slides"), (108, "the value is out of range"), (139, "what is out of range"), (147, "the place is below 0"), (168, "settled is out of range"), (174, "there are clashes that are not settled"), (179, "the deck would have more than 8 slides"), (189, "the deck would be blocked"), (195, "no such rank"), (197, "least or most is out of range"), (202, "there are 8 rules"), (228, "until is out of range"), (230, "the rank of the rule is not 1"), (235, "there are 12 waivers"), (254, "the head is blocked"), (256, "days is out of range"), (258, "the day would be above 999"), (260, "no such version"), (262, "no such branch"), (264, "no such slide"), (266, "no such object"), (268, "no such rule"), (270, "both branches are the same"), (272, "there are 40 versions"), (277, "no such slide in the head")]
def swI1 : String := "java/lang/IndexOutOfBoundsException"
def swI2 : String := "java/lang/IllegalArgumentException"
def swI3 : String := "java/lang/IllegalStateException"
def swE : Nat → String := fun k => match k with
  | 1 => "java/lang/IndexOutOfBoundsException"
  | 2 => "java/lang/IllegalArgumentException"
  | _ => "java/lang/IllegalStateException"
abbrev swNs : List String := ["java/lang/RuntimeException", "java/lang/Exception"]
def swYs : List String := ["java/lang/RuntimeException", "java/lang/Exception", Bundle.tN]
def swX (ad : Nat → Nat) (U : State) : Prop := vx_Zq Bundle.tN "UNASSIGNED_STACK" Bundle.steD (xwA0 ad) U U.heap ∧ vx_Zq Bundle.tN "SUPPRESSED_SENTINEL" Bundle.listD (xwA0 ad) U U.heap ∧ ((∀ k, va_Nw (.castable (swE k) (swE k)) U) ∧ ∀ Y ∈ swYs, va_Nw (.declares (Bundle.initS Y)) U) ∧ ∀ q ∈ swStrs, ∃ a, vk_R RX5 q.1 q.2 a U
theorem swZ_of {C n d : String} {v : Value} {A B : Nat → Prop} {U : State} {H : Heap} (h : va_Z C n d v A U H) (hB : ∀ q : Nat, q < H.size → B q → A q) : va_Z C n d v B U H := by
  obtain ⟨cf, kf, fi, f, a, cell, h1, h2, h3, h4, h5, h6, h7, h8⟩ := h
  exact ⟨cf, kf, fi, f, a, cell, h1, h2, h3, h4, h5, h6, h7, fun z => h8 (hB a (Array.getElem?_eq_some_iff.mp h5).1 z)⟩
theorem swZq_of {C n d : String} {A B : Nat → Prop} {U : State} {H : Heap} (h : vx_Zq C n d A U H) (hB : ∀ q : Nat, q < H.size → B q → A q) : vx_Zq C n d B U H := by
  obtain ⟨h1, c, k, i, f, a, cell, g1, g2, g3, g4, g5, g6, g7, g8, g9, g10⟩ := h
  refine ⟨?_, c, k, i, f, a, cell, g1, g2, g3, g4, g5, g6, g7, g8, g9, fun z => g10 (hB a (Array.getElem?_eq_some_iff.mp g5).1 z)⟩
  rcases h1 with h1 | ⟨t, h1⟩
  · exact Or.inl (swZ_of h1 hB)
  · exact Or.inr ⟨t, swZ_of h1 hB⟩
theorem swX.moved {ad : Nat → Nat} {s U : State} (h : swX ad s) (hW : s.WarmedH U.vm) (hq : ∀ q : Nat, q < s.heap.size → ¬ xwA0 ad q → U.heap[q]? = s.heap[q]?) : swX ad U :=
  ⟨vx_Zq.moved hW.alike (h.1.kept hq), vx_Zq.moved hW.alike (h.2.1.kept hq), ⟨fun k => va_Nw.warmC hW (h.2.2.1.1 k), fun Y hY => va_Nw.warmD hW (h.2.2.1.2 Y hY)⟩, fun q hq => by
    obtain ⟨a, ha⟩ := h.2.2.2 q hq
    exact ⟨a, ha.warm hW⟩⟩
theorem swX.blind {ad : Nat → Nat} {U : State} {g : JFrame} {mk : MethodId} {a : Array Value} (h : swX ad U) : swX ad (U.calling g mk a) := h.moved (State.WarmedH.refl U) (fun _ _ _ => rfl)
def xwCK (D : va_G) (cy : Nat → ClassId) (ad : Nat → Nat) (u : swU) (av : List Value) : Array Value → State → Prop := va_Pc av (fun U => xwP D cy ad u U.heap ∧ swK D cy U ∧ swX ad U)
def xwCX (D : va_G) (cy : Nat → ClassId) (ad : Nat → Nat) (u : swU) (sz : Nat) (av : List Value) : Array Value → State → Prop := va_Pc av (fun U => xwP D cy ad u U.heap ∧ swK D cy U ∧ swX ad U ∧ U.heap.size = sz)
def xwCS (D : va_G) (cy : Nat → ClassId) (ad : Nat → Nat) (u : swU) (sz : Nat) (av : List Value) : Array Value → State → Prop := va_Pc av (fun U => xwP D cy ad u U.heap ∧ swK D cy U ∧ U.heap.size = sz)
theorem xwCK_blind {D : va_G} {cy : Nat → ClassId} {ad : Nat → Nat} {u : swU} {av : List Value} : FrameBlind (xwCK D cy ad u av) := fun a U g mk q => ⟨q.1, q.2.1, va_K.moved (u := U) (U := U.calling g mk a) (Vm.Alike.refl U.vm) q.2.2.1, q.2.2.2.blind⟩
theorem xwCX_blind {D : va_G} {cy : Nat → ClassId} {ad : Nat → Nat} {u : swU} {sz : Nat} {av : List Value} : FrameBlind (xwCX D cy ad u sz av) := fun a U g mk q => ⟨q.1, q.2.1, va_K.moved (u := U) (U := U.calling g mk a) (Vm.Alike.refl U.vm) q.2.2.1, q.2.2.2.1.blind, q.2.2.2.2⟩
theorem xwCS_blind {D : va_G} {cy : Nat → ClassId} {ad : Nat → Nat} {u : swU} {sz : Nat} {av : List Value} : FrameBlind (xwCS D cy ad u sz av) := fun a U g mk q => ⟨q.1, q.2.1, va_K.moved (u := U) (U := U.calling g mk a) (Vm.Alike.refl U.vm) q.2.2.1, q.2.2.2⟩
def xwKv (k0 : Nat) : Array Value → State → Outcome → State → Prop := va_Qv (fun _ : Unit => k0 = 0) (fun _ _ => True) (fun _ => False)
def xwKi (k0 : Nat) (r0 : Int32) : Array Value → State → Outcome → State → Prop := va_Qi (fun (r : Int32) (_ : Unit) => k0 = 0 ∧ r = r0) (fun _ _ => True) (fun _ => False)
def xwKx (k0 : Nat) : String → State → State → Prop := vx_X (fun _ : Unit => k0 ≠ 0) (fun E _ _ => E = swE k0) (fun _ => False)
def xwPi (D : va_G) (cy : Nat → ClassId) (ad : Nat → Nat) (sz k0 : Nat) (r0 : Int32) (u0 : swU) : Array Value → State → Outcome → State → Prop := va_Qi (fun (r : Int32) (_ : Unit) => k0 = 0 ∧ r = r0) (fun _ t => xwP D cy ad u0 t.heap) (xwA ad sz)
def xwPx (D : va_G) (cy : Nat → ClassId) (ad : Nat → Nat) (sz k0 : Nat) (u0 : swU) : String → State → State → Prop := vx_X (fun _ : Unit => k0 ≠ 0) (fun E _ t => E = swE k0 ∧ xwP D cy ad u0 t.heap) (xwA ad sz)
def swck {α : Type} (x : Option Nat) (ex : Nat → Option α) (k : Option α) : Option α := match x with
  | none => none
  | some 0 => k
  | some (n + 1) => ex (n + 1)
def swcki {α : Type} (x : Option (Nat × Int32)) (ex : Nat → Option α) (k : Int32 → Option α) : Option α := match x with
  | none => none
  | some (0, r) => k r
  | some (n + 1, _) => ex (n + 1)
theorem swck_s {α : Type} {x : Option Nat} {ex : Nat → Option α} {k : Option α} {r : α} (h : swck x ex k = some r) : ∃ n, x = some n ∧ (n = 0 → k = some r) ∧ (n ≠ 0 → ex n = some r) := by
  match x, h with
  | some 0, h => exact ⟨0, rfl, fun _ => h, fun q => absurd rfl q⟩
  | some (n + 1), h => exact ⟨n + 1, rfl, fun q => absurd q (by omega), fun _ => h⟩
theorem swcki_s {α : Type} {x : Option (Nat × Int32)} {ex : Nat → Option α} {k : Int32 → Option α} {r : α} (h : swcki x ex k = some r) : ∃ n v, x = some (n, v) ∧ (n = 0 → k v = some r) ∧ (n ≠ 0 → ex n = some r) := by
  match x, h with
  | some (0, v), h => exact ⟨0, v, rfl, fun _ => h, fun q => absurd rfl q⟩
  | some (n + 1, v), h => exact ⟨n + 1, v, rfl, fun q => absurd q (by omega), fun _ => h⟩
theorem sw_inj3 {α β γ : Type} {a b : α} {c d : β} {x y : γ} (h : some (a, c, x) = some (b, d, y)) : a = b ∧ c = d ∧ x = y := by
  cases h
  exact ⟨rfl, rfl, rfl⟩
section XT
variable {p : Program} {l : Launch} {e : Env} {R : Room} {s : State} {m : MethodId} {args : Array Value} {below : List Frame} {meth : Method} {c : Code} {H : Heap} {locs : List Loc} {cells slots : Nat} {Q : State → Prop}
variable {cc : ByteArray} {pc : Nat} {ls : Array Slot} {rest : List Value} {D : va_G} {cy : Nat → ClassId} {ad : Nat → Nat} {u u2 : swU} {H0 : Heap} {A : Nat → Prop} {g co ca cb : Nat}
variable {nL index n maxL mc ms : Nat} {Ts ws : List Cond} {own C : String} {y : MethodName} {bytes : ByteArray} {ret : Option FieldType} {rm : Room} {As st : List Value} {free : Addr → Prop}
variable {Qc : Array Value → State → Outcome → State → Prop} {XC : String → State → State → Prop}
theorem xw_thr1 (hexec : p.tables.exec = Jvm.exec) (hb : c.code = cc) (hl : l.stackTraces = false) {is : Nat} {text : String} (hts : ∀ w ∈ Ts, w.before args s = true) (hmem : ∀ w ∈ (vx_atS RX5 80 "java/lang/IndexOutOfBoundsException" swNs).filter goodWord, w ∈ Ts) (hown : s.vm.findClass RX5 = some m.cls) (hk : (Cond.classLink RX5 76 "java/lang/IndexOutOfBoundsException").before args s = true) (hini : (Cond.initialized "java/lang/IndexOutOfBoundsException").before args s = true) (hX : swX ad s) (hstr : (is, text) ∈ swStrs) (hS : va_S A s.heap H locs) (hA : ∀ q : Nat, q < s.heap.size → A q → xwA0 ad q) (hsize : ls.size = c.maxLocals)
    (d0 : decode cc pc = .ok (.new 76, 3)) (d3 : decode cc (pc + 3) = .ok (.dup, 1)) (d4 : decode cc (pc + 4) = .ok (.ldc is, 2)) (d6 : decode cc (pc + 6) = .ok (.invokespecial 80, 3)) (d9 : decode cc (pc + 9) = .ok (.athrow, 1)) (hout : ∀ q : Nat, ∀ x ∈ c.exceptionTable.toList, covers x q = false)
    (hRf : 5 < R.frames) (hRl : (rest.map fun v => v.category).sum + 82 ≤ R.locals) (hRc : cells + 1 ≤ R.cells) (hRs : slots + 6 ≤ R.slots) (hlocks : meth.locks = false)
    (hx : ∀ t : State, s.vm.Alike t.vm → H.size ≤ t.heap.size → (∀ q : Nat, q < H.size → t.heap[q]? = H[q]?) → XC (swE 1) s t) (hf : ∀ z ∈ locs, free z.base) (hc : cells + 1 ≤ mc) (hs : slots + 6 ≤ ms) :
    W p l e R s m args below meth c H locs cells slots (vx_MQ below Qc XC args s mc ms free) (F0 m pc ls rest) := by
  obtain ⟨sa, hsa⟩ := hX.2.2.2 _ hstr
  exact vx_throwS (names := swNs) hexec hb hl hown (by decide +kernel) (by decide +kernel) hk hini hsa (vx_hat (fun w hw => hts w (hmem w hw)) (B := [.castable "java/lang/IndexOutOfBoundsException" "java/lang/IndexOutOfBoundsException", .declares (Bundle.initS "java/lang/RuntimeException"), .declares (Bundle.initS "java/lang/Exception"), .declares (Bundle.initS Bundle.tN)]) (by decide +kernel) (vx_c (va_Nw.use rfl (hX.2.2.1.1 1)) (vx_c (va_Nw.use rfl (hX.2.2.1.2 _ (by simp [swYs]))) (vx_c (va_Nw.use rfl (hX.2.2.1.2 _ (by simp [swYs]))) (vx_c (va_Nw.use rfl (hX.2.2.1.2 _ (by simp [swYs]))) vx_n))))) (by decide +kernel) (swZq_of hX.1 hA) (swZq_of hX.2.1 hA) hS hsize d0 d3 d4 d6 d9 (hout _) hRf hRl hRc hRs hlocks hx hf hc hs
theorem xw_thr1W (hexec : p.tables.exec = Jvm.exec) (hb : c.code = cc) (hl : l.stackTraces = false) {is : Nat} {text : String} (hts : ∀ w ∈ Ts, w.before args s = true) (hmem : ∀ w ∈ (vx_atS RX5 80 "java/lang/IndexOutOfBoundsException" swNs).filter goodWord, w ∈ Ts) (hown : s.vm.findClass RX5 = some m.cls) (hk : (Cond.classLink RX5 76 "java/lang/IndexOutOfBoundsException").before args s = true) (hini : (Cond.initialized "java/lang/IndexOutOfBoundsException").before args s = true) (hX : swX ad s) (hstr : (is, text) ∈ swStrs) (hS : va_S A s.heap H locs) (hA : ∀ q : Nat, q < s.heap.size → A q → xwA0 ad q) (hsize : ls.size = c.maxLocals)
    (d0 : decode cc pc = .ok (.new 76, 3)) (d3 : decode cc (pc + 3) = .ok (.dup, 1)) (d4 : decode cc (pc + 4) = .ok (.ldc_w is, 3)) (d6 : decode cc (pc + 7) = .ok (.invokespecial 80, 3)) (d9 : decode cc (pc + 10) = .ok (.athrow, 1)) (hout : ∀ q : Nat, ∀ x ∈ c.exceptionTable.toList, covers x q = false)
    (hRf : 5 < R.frames) (hRl : (rest.map fun v => v.category).sum + 82 ≤ R.locals) (hRc : cells + 1 ≤ R.cells) (hRs : slots + 6 ≤ R.slots) (hlocks : meth.locks = false)
    (hx : ∀ t : State, s.vm.Alike t.vm → H.size ≤ t.heap.size → (∀ q : Nat, q < H.size → t.heap[q]? = H[q]?) → XC (swE 1) s t) (hf : ∀ z ∈ locs, free z.base) (hc : cells + 1 ≤ mc) (hs : slots + 6 ≤ ms) :
    W p l e R s m args below meth c H locs cells slots (vx_MQ below Qc XC args s mc ms free) (F0 m pc ls rest) := by
  obtain ⟨sa, hsa⟩ := hX.2.2.2 _ hstr
  exact vx_throwSW (names := swNs) hexec hb hl hown (by decide +kernel) (by decide +kernel) hk hini hsa (vx_hat (fun w hw => hts w (hmem w hw)) (B := [.castable "java/lang/IndexOutOfBoundsException" "java/lang/IndexOutOfBoundsException", .declares (Bundle.initS "java/lang/RuntimeException"), .declares (Bundle.initS "java/lang/Exception"), .declares (Bundle.initS Bundle.tN)]) (by decide +kernel) (vx_c (va_Nw.use rfl (hX.2.2.1.1 1)) (vx_c (va_Nw.use rfl (hX.2.2.1.2 _ (by simp [swYs]))) (vx_c (va_Nw.use rfl (hX.2.2.1.2 _ (by simp [swYs]))) (vx_c (va_Nw.use rfl (hX.2.2.1.2 _ (by simp [swYs]))) vx_n))))) (by decide +kernel) (swZq_of hX.1 hA) (swZq_of hX.2.1 hA) hS hsize d0 d3 d4 d6 d9 (hout _) hRf hRl hRc hRs hlocks hx hf hc hs
theorem xw_thr2 (hexec : p.tables.exec = Jvm.exec) (hb : c.code = cc) (hl : l.stackTraces = false) {is : Nat} {text : String} (hts : ∀ w ∈ Ts, w.before args s = true) (hmem : ∀ w ∈ (vx_atS RX5 110 "java/lang/IllegalArgumentException" swNs).filter goodWord, w ∈ Ts) (hown : s.vm.findClass RX5 = some m.cls) (hk : (Cond.classLink RX5 106 "java/lang/IllegalArgumentException").before args s = true) (hini : (Cond.initialized "java/lang/IllegalArgumentException").before args s = true) (hX : swX ad s) (hstr : (is, text) ∈ swStrs) (hS : va_S A s.heap H locs) (hA : ∀ q : Nat, q < s.heap.size → A q → xwA0 ad q) (hsize : ls.size = c.maxLocals)
    (d0 : decode cc pc = .ok (.new 106, 3)) (d3 : decode cc (pc + 3) = .ok (.dup, 1)) (d4 : decode cc (pc + 4) = .ok (.ldc is, 2)) (d6 : decode cc (pc + 6) = .ok (.invokespecial 110, 3)) (d9 : decode cc (pc + 9) = .ok (.athrow, 1)) (hout : ∀ q : Nat, ∀ x ∈ c.exceptionTable.toList, covers x q = false)
    (hRf : 5 < R.frames) (hRl : (rest.map fun v => v.category).sum + 82 ≤ R.locals) (hRc : cells + 1 ≤ R.cells) (hRs : slots + 6 ≤ R.slots) (hlocks : meth.locks = false)
    (hx : ∀ t : State, s.vm.Alike t.vm → H.size ≤ t.heap.size → (∀ q : Nat, q < H.size → t.heap[q]? = H[q]?) → XC (swE 2) s t) (hf : ∀ z ∈ locs, free z.base) (hc : cells + 1 ≤ mc) (hs : slots + 6 ≤ ms) :
    W p l e R s m args below meth c H locs cells slots (vx_MQ below Qc XC args s mc ms free) (F0 m pc ls rest) := by
  obtain ⟨sa, hsa⟩ := hX.2.2.2 _ hstr
  exact vx_throwS (names := swNs) hexec hb hl hown (by decide +kernel) (by decide +kernel) hk hini hsa (vx_hat (fun w hw => hts w (hmem w hw)) (B := [.castable "java/lang/IllegalArgumentException" "java/lang/IllegalArgumentException", .declares (Bundle.initS "java/lang/RuntimeException"), .declares (Bundle.initS "java/lang/Exception"), .declares (Bundle.initS Bundle.tN)]) (by decide +kernel) (vx_c (va_Nw.use rfl (hX.2.2.1.1 2)) (vx_c (va_Nw.use rfl (hX.2.2.1.2 _ (by simp [swYs]))) (vx_c (va_Nw.use rfl (hX.2.2.1.2 _ (by simp [swYs]))) (vx_c (va_Nw.use rfl (hX.2.2.1.2 _ (by simp [swYs]))) vx_n))))) (by decide +kernel) (swZq_of hX.1 hA) (swZq_of hX.2.1 hA) hS hsize d0 d3 d4 d6 d9 (hout _) hRf hRl hRc hRs hlocks hx hf hc hs
theorem xw_thr2W (hexec : p.tables.exec = Jvm.exec) (hb : c.code = cc) (hl : l.stackTraces = false) {is : Nat} {text : String} (hts : ∀ w ∈ Ts, w.before args s = true) (hmem : ∀ w ∈ (vx_atS RX5 110 "java/lang/IllegalArgumentException" swNs).filter goodWord, w ∈ Ts) (hown : s.vm.findClass RX5 = some m.cls) (hk : (Cond.classLink RX5 106 "java/lang/IllegalArgumentException").before args s = true) (hini : (Cond.initialized "java/lang/IllegalArgumentException").before args s = true) (hX : swX ad s) (hstr : (is, text) ∈ swStrs) (hS : va_S A s.heap H locs) (hA : ∀ q : Nat, q < s.heap.size → A q → xwA0 ad q) (hsize : ls.size = c.maxLocals)
    (d0 : decode cc pc = .ok (.new 106, 3)) (d3 : decode cc (pc + 3) = .ok (.dup, 1)) (d4 : decode cc (pc + 4) = .ok (.ldc_w is, 3)) (d6 : decode cc (pc + 7) = .ok (.invokespecial 110, 3)) (d9 : decode cc (pc + 10) = .ok (.athrow, 1)) (hout : ∀ q : Nat, ∀ x ∈ c.exceptionTable.toList, covers x q = false)
    (hRf : 5 < R.frames) (hRl : (rest.map fun v => v.category).sum + 82 ≤ R.locals) (hRc : cells + 1 ≤ R.cells) (hRs : slots + 6 ≤ R.slots) (hlocks : meth.locks = false)
    (hx : ∀ t : State, s.vm.Alike t.vm → H.size ≤ t.heap.size → (∀ q : Nat, q < H.size → t.heap[q]? = H[q]?) → XC (swE 2) s t) (hf : ∀ z ∈ locs, free z.base) (hc : cells + 1 ≤ mc) (hs : slots + 6 ≤ ms) :
    W p l e R s m args below meth c H locs cells slots (vx_MQ below Qc XC args s mc ms free) (F0 m pc ls rest) := by
  obtain ⟨sa, hsa⟩ := hX.2.2.2 _ hstr
  exact vx_throwSW (names := swNs) hexec hb hl hown (by decide +kernel) (by decide +kernel) hk hini hsa (vx_hat (fun w hw => hts w (hmem w hw)) (B := [.castable "java/lang/IllegalArgumentException" "java/lang/IllegalArgumentException", .declares (Bundle.initS "java/lang/RuntimeException"), .declares (Bundle.initS "java/lang/Exception"), .declares (Bundle.initS Bundle.tN)]) (by decide +kernel) (vx_c (va_Nw.use rfl (hX.2.2.1.1 2)) (vx_c (va_Nw.use rfl (hX.2.2.1.2 _ (by simp [swYs]))) (vx_c (va_Nw.use rfl (hX.2.2.1.2 _ (by simp [swYs]))) (vx_c (va_Nw.use rfl (hX.2.2.1.2 _ (by simp [swYs]))) vx_n))))) (by decide +kernel) (swZq_of hX.1 hA) (swZq_of hX.2.1 hA) hS hsize d0 d3 d4 d6 d9 (hout _) hRf hRl hRc hRs hlocks hx hf hc hs
theorem xw_thr3 (hexec : p.tables.exec = Jvm.exec) (hb : c.code = cc) (hl : l.stackTraces = false) {is : Nat} {text : String} (hts : ∀ w ∈ Ts, w.before args s = true) (hmem : ∀ w ∈ (vx_atS RX5 63 "java/lang/IllegalStateException" swNs).filter goodWord, w ∈ Ts) (hown : s.vm.findClass RX5 = some m.cls) (hk : (Cond.classLink RX5 59 "java/lang/IllegalStateException").before args s = true) (hini : (Cond.initialized "java/lang/IllegalStateException").before args s = true) (hX : swX ad s) (hstr : (is, text) ∈ swStrs) (hS : va_S A s.heap H locs) (hA : ∀ q : Nat, q < s.heap.size → A q → xwA0 ad q) (hsize : ls.size = c.maxLocals)
    (d0 : decode cc pc = .ok (.new 59, 3)) (d3 : decode cc (pc + 3) = .ok (.dup, 1)) (d4 : decode cc (pc + 4) = .ok (.ldc is, 2)) (d6 : decode cc (pc + 6) = .ok (.invokespecial 63, 3)) (d9 : decode cc (pc + 9) = .ok (.athrow, 1)) (hout : ∀ q : Nat, ∀ x ∈ c.exceptionTable.toList, covers x q = false)
    (hRf : 5 < R.frames) (hRl : (rest.map fun v => v.category).sum + 82 ≤ R.locals) (hRc : cells + 1 ≤ R.cells) (hRs : slots + 6 ≤ R.slots) (hlocks : meth.locks = false)
    (hx : ∀ t : State, s.vm.Alike t.vm → H.size ≤ t.heap.size → (∀ q : Nat, q < H.size → t.heap[q]? = H[q]?) → XC (swE 3) s t) (hf : ∀ z ∈ locs, free z.base) (hc : cells + 1 ≤ mc) (hs : slots + 6 ≤ ms) :
    W p l e R s m args below meth c H locs cells slots (vx_MQ below Qc XC args s mc ms free) (F0 m pc ls rest) := by
  obtain ⟨sa, hsa⟩ := hX.2.2.2 _ hstr
  exact vx_throwS (names := swNs) hexec hb hl hown (by decide +kernel) (by decide +kernel) hk hini hsa (vx_hat (fun w hw => hts w (hmem w hw)) (B := [.castable "java/lang/IllegalStateException" "java/lang/IllegalStateException", .declares (Bundle.initS "java/lang/RuntimeException"), .declares (Bundle.initS "java/lang/Exception"), .declares (Bundle.initS Bundle.tN)]) (by decide +kernel) (vx_c (va_Nw.use rfl (hX.2.2.1.1 3)) (vx_c (va_Nw.use rfl (hX.2.2.1.2 _ (by simp [swYs]))) (vx_c (va_Nw.use rfl (hX.2.2.1.2 _ (by simp [swYs]))) (vx_c (va_Nw.use rfl (hX.2.2.1.2 _ (by simp [swYs]))) vx_n))))) (by decide +kernel) (swZq_of hX.1 hA) (swZq_of hX.2.1 hA) hS hsize d0 d3 d4 d6 d9 (hout _) hRf hRl hRc hRs hlocks hx hf hc hs
theorem xw_thr3W (hexec : p.tables.exec = Jvm.exec) (hb : c.code = cc) (hl : l.stackTraces = false) {is : Nat} {text : String} (hts : ∀ w ∈ Ts, w.before args s = true) (hmem : ∀ w ∈ (vx_atS RX5 63 "java/lang/IllegalStateException" swNs).filter goodWord, w ∈ Ts) (hown : s.vm.findClass RX5 = some m.cls) (hk : (Cond.classLink RX5 59 "java/lang/IllegalStateException").before args s = true) (hini : (Cond.initialized "java/lang/IllegalStateException").before args s = true) (hX : swX ad s) (hstr : (is, text) ∈ swStrs) (hS : va_S A s.heap H locs) (hA : ∀ q : Nat, q < s.heap.size → A q → xwA0 ad q) (hsize : ls.size = c.maxLocals)
    (d0 : decode cc pc = .ok (.new 59, 3)) (d3 : decode cc (pc + 3) = .ok (.dup, 1)) (d4 : decode cc (pc + 4) = .ok (.ldc_w is, 3)) (d6 : decode cc (pc + 7) = .ok (.invokespecial 63, 3)) (d9 : decode cc (pc + 10) = .ok (.athrow, 1)) (hout : ∀ q : Nat, ∀ x ∈ c.exceptionTable.toList, covers x q = false)
    (hRf : 5 < R.frames) (hRl : (rest.map fun v => v.category).sum + 82 ≤ R.locals) (hRc : cells + 1 ≤ R.cells) (hRs : slots + 6 ≤ R.slots) (hlocks : meth.locks = false)
    (hx : ∀ t : State, s.vm.Alike t.vm → H.size ≤ t.heap.size → (∀ q : Nat, q < H.size → t.heap[q]? = H[q]?) → XC (swE 3) s t) (hf : ∀ z ∈ locs, free z.base) (hc : cells + 1 ≤ mc) (hs : slots + 6 ≤ ms) :
    W p l e R s m args below meth c H locs cells slots (vx_MQ below Qc XC args s mc ms free) (F0 m pc ls rest) := by
  obtain ⟨sa, hsa⟩ := hX.2.2.2 _ hstr
  exact vx_throwSW (names := swNs) hexec hb hl hown (by decide +kernel) (by decide +kernel) hk hini hsa (vx_hat (fun w hw => hts w (hmem w hw)) (B := [.castable "java/lang/IllegalStateException" "java/lang/IllegalStateException", .declares (Bundle.initS "java/lang/RuntimeException"), .declares (Bundle.initS "java/lang/Exception"), .declares (Bundle.initS Bundle.tN)]) (by decide +kernel) (vx_c (va_Nw.use rfl (hX.2.2.1.1 3)) (vx_c (va_Nw.use rfl (hX.2.2.1.2 _ (by simp [swYs]))) (vx_c (va_Nw.use rfl (hX.2.2.1.2 _ (by simp [swYs]))) (vx_c (va_Nw.use rfl (hX.2.2.1.2 _ (by simp [swYs]))) vx_n))))) (by decide +kernel) (swZq_of hX.1 hA) (swZq_of hX.2.1 hA) hS hsize d0 d3 d4 d6 d9 (hout _) hRf hRl hRc hRs hlocks hx hf hc hs
theorem xw_xK {k0 n : Nat} (e : some n = some k0) (hn : n ≠ 0) : ∀ t : State, s.vm.Alike t.vm → s.heap.size ≤ t.heap.size → (∀ q : Nat, q < s.heap.size → t.heap[q]? = s.heap[q]?) → xwKx k0 (swE n) s t := fun t _ hz hq => by
  have e1 := sw_in1 e
  subst e1
  exact ⟨(), hn, rfl, hz, fun q h _ => hq q h⟩
theorem xw_xK2 {k0 n : Nat} {r0 v : Int32} (e : some (n, v) = some (k0, r0)) (hn : n ≠ 0) : ∀ t : State, s.vm.Alike t.vm → s.heap.size ≤ t.heap.size → (∀ q : Nat, q < s.heap.size → t.heap[q]? = s.heap[q]?) → xwKx k0 (swE n) s t := fun t _ hz hq => by
  have e1 := (sw_inj e).1
  subst e1
  exact ⟨(), hn, rfl, hz, fun q h _ => hq q h⟩
theorem xw_xP {k0 n sz : Nat} {r0 v : Int32} {u0 : swU} (e : some (n, v, u) = some (k0, r0, u0)) (hn : n ≠ 0) (hP : xwP D cy ad u H) (hS : va_S (xwA ad sz) s.heap H locs) : ∀ t : State, s.vm.Alike t.vm → H.size ≤ t.heap.size → (∀ q : Nat, q < H.size → t.heap[q]? = H[q]?) → xwPx D cy ad sz k0 u0 (swE n) s t := fun t _ hz hq => by
  obtain ⟨e1, e2, e3⟩ := sw_inj3 e
  subst e1; subst e3
  exact ⟨(), hn, ⟨rfl, hP.kept (A := fun _ => False) (fun q h _ => hq q h) (fun _ _ h => h)⟩, Nat.le_trans hS.1 hz, fun q h1 h2 => (hq q (Nat.lt_of_lt_of_le h1 hS.1)).trans (hS.2.1 q h1 h2)⟩
theorem xw_outP {k0 n sz : Nat} {r0 v : Int32} {u0 : swU} {ce : Cell} {q : Addr} (e9 : some (n, v, u) = some (k0, r0, u0)) (hn : n ≠ 0) (hout : ∀ q : Nat, ∀ x ∈ c.exceptionTable.toList, covers x q = false) (hlocks : meth.locks = false) (hcell : H[q]? = some ce) (hv : ce.vm = .none) (hcl : s.vm.findClass (swE n) = some ce.cls) (hP : xwP D cy ad u H) (hS : va_S (xwA ad sz) s.heap H locs) (hc : cells ≤ mc) (hs : slots ≤ ms) :
    vx_W p l e R s m args below meth c H locs cells slots (vx_MQ below Qc (xwPx D cy ad sz k0 u0) args s mc ms (xwA ad sz)) (F0 m pc ls rest) q :=
  vx_out (E := swE n) (hout pc) hlocks hcell hv hcl (fun t ht ha => xw_xP e9 hn hP hS t ha (by rw [ht]; exact Nat.le_refl _) (fun q _ => by rw [ht])) hS.2.2 hc hs
theorem xw_frP {sz : Nat} (hS : va_S (xwA ad sz) s.heap H locs) (hsz : s.heap.size = sz) : ∀ q : Nat, q < s.heap.size → ¬ xwA0 ad q → H[q]? = s.heap[q]? := fun q h1 h2 => hS.2.1 q h1 (fun z => z.elim h2 (fun z => by omega))
theorem xw_hAP {sz : Nat} (hsz : s.heap.size = sz) : ∀ q : Nat, q < s.heap.size → xwA ad sz q → xwA0 ad q := fun q h1 z => z.elim id (fun z => by omega)
theorem xw_ckv {k0 : Nat} (E : CallFix p m c cc nL s args Ts own) (hM : vx_Met l y ws rm (xwCK D cy ad u (.ref (ad 0) :: As)) (xwKv k0) (xwKx k0) mc ms (fun _ => False)) (cw : CallW R s args own RX5 index y bytes maxL ret ws rm mc ms n) (hK : swK D cy s) (hP : xwP D cy ad u H) (hX : swX ad s) (hq : ∀ q : Nat, q < s.heap.size → ¬ xwA0 ad q → H[q]? = s.heap[q]?) (hS : va_S A s.heap H locs) (hcs : cells + mc ≤ R.cells ∧ slots + ms ≤ R.slots) (hn : As.length = n) (hsize : ls.size = nL) (hst : st = As.reverse ++ .ref (ad 0) :: rest) (hroom : (rest.map fun v => v.category).sum ≤ 8) (hdg : decode cc pc = .ok (.invokevirtual index, 3))
    (kx : k0 ≠ 0 → ∀ (ce : Cell) (q9 : Addr) (H1 : Heap) (locs1 : List Loc), xwP D cy ad u H1 → va_S A s.heap H1 locs1 → H1[q9]? = some ce → ce.vm = .none → s.vm.findClass (swE k0) = some ce.cls → vx_W p l e R s m args below meth c H1 locs1 (cells + mc) (slots + ms) Q (F0 m pc ls rest) q9)
    (kk : k0 = 0 → ∀ (H1 : Heap) (locs1 : List Loc), xwP D cy ad u H1 → va_S A s.heap H1 locs1 → W p l e R s m args below meth c H1 locs1 (cells + mc) (slots + ms) Q (F0 m (pc + 3) ls rest)) : W p l e R s m args below meth c H locs cells slots Q (F0 m pc ls st) :=
  vx_callv (vx_runV E hM cw ⟨xwCK_blind, xw_rO hK hP, fun U hU hW => ⟨rfl, by rw [hU]; exact hP, va_K.moved hW.alike hK, hX.moved hW (fun q h1 h2 => by rw [hU]; exact hq q h1 h2)⟩⟩ rfl hn hsize hst (lv_room hroom) hdg hcs) hS (fun _ _ h => h.elim) (fun _ h => h.elim) (fun _ _ h => h.elim) (fun E1 ce q9 _ t H1 locs1 _ _ hk he hz hkk hS1 hc hv hcl => by
    subst he
    exact kx hk ce q9 H1 locs1 (hP.kept hkk (fun _ _ h => h)) hS1 hc hv hcl) (fun _ t H1 locs1 _ _ hk _ hz hkk hS1 => kk hk H1 locs1 (hP.kept hkk (fun _ _ h => h)) hS1)
theorem xw_ckS {k0 : Nat} (E : CallFix p m c cc nL s args Ts own) (hM : vx_Met l y ws rm (xwCK D cy ad u As) (xwKv k0) (xwKx k0) mc ms (fun _ => False)) (cw : CallB R s args own index y bytes maxL ret ws rm mc ms n ∧ (Cond.static y).before args s = true) (hK : swK D cy s) (hP : xwP D cy ad u H) (hX : swX ad s) (hq : ∀ q : Nat, q < s.heap.size → ¬ xwA0 ad q → H[q]? = s.heap[q]?) (hS : va_S A s.heap H locs) (hcs : cells + mc ≤ R.cells ∧ slots + ms ≤ R.slots) (hn : As.length = n) (hsize : ls.size = nL) (hst : st = As.reverse ++ rest) (hroom : (rest.map fun v => v.category).sum ≤ 8) (hdg : decode cc pc = .ok (.invokestatic index, 3))
    (kx : k0 ≠ 0 → ∀ (ce : Cell) (q9 : Addr) (H1 : Heap) (locs1 : List Loc), xwP D cy ad u H1 → va_S A s.heap H1 locs1 → H1[q9]? = some ce → ce.vm = .none → s.vm.findClass (swE k0) = some ce.cls → vx_W p l e R s m args below meth c H1 locs1 (cells + mc) (slots + ms) Q (F0 m pc ls rest) q9)
    (kk : k0 = 0 → ∀ (H1 : Heap) (locs1 : List Loc), xwP D cy ad u H1 → va_S A s.heap H1 locs1 → W p l e R s m args below meth c H1 locs1 (cells + mc) (slots + ms) Q (F0 m (pc + 3) ls rest)) : W p l e R s m args below meth c H locs cells slots Q (F0 m pc ls st) :=
  vx_callv (vx_runS E hM cw ⟨xwCK_blind, fun U hU hW => ⟨rfl, by rw [hU]; exact hP, va_K.moved hW.alike hK, hX.moved hW (fun q h1 h2 => by rw [hU]; exact hq q h1 h2)⟩⟩ rfl hn hsize hst (lv_room hroom) hdg hcs) hS (fun _ _ h => h.elim) (fun _ h => h.elim) (fun _ _ h => h.elim) (fun E1 ce q9 _ t H1 locs1 _ _ hk he hz hkk hS1 hc hv hcl => by
    subst he
    exact kx hk ce q9 H1 locs1 (hP.kept hkk (fun _ _ h => h)) hS1 hc hv hcl) (fun _ t H1 locs1 _ _ hk _ hz hkk hS1 => kk hk H1 locs1 (hP.kept hkk (fun _ _ h => h)) hS1)
theorem xw_cki {k0 : Nat} {r0 : Int32} (E : CallFix p m c cc nL s args Ts own) (hM : vx_Met l y ws rm (xwCK D cy ad u (.ref (ad 0) :: As)) (xwKi k0 r0) (xwKx k0) mc ms (fun _ => False)) (cw : CallW R s args own RX5 index y bytes maxL ret ws rm mc ms n) (hK : swK D cy s) (hP : xwP D cy ad u H) (hX : swX ad s) (hq : ∀ q : Nat, q < s.heap.size → ¬ xwA0 ad q → H[q]? = s.heap[q]?) (hS : va_S A s.heap H locs) (hcs : cells + mc ≤ R.cells ∧ slots + ms ≤ R.slots) (hn : As.length = n) (hsize : ls.size = nL) (hst : st = As.reverse ++ .ref (ad 0) :: rest) (hroom : (rest.map fun v => v.category).sum ≤ 8) (hdg : decode cc pc = .ok (.invokevirtual index, 3))
    (kx : k0 ≠ 0 → ∀ (ce : Cell) (q9 : Addr) (H1 : Heap) (locs1 : List Loc), xwP D cy ad u H1 → va_S A s.heap H1 locs1 → H1[q9]? = some ce → ce.vm = .none → s.vm.findClass (swE k0) = some ce.cls → vx_W p l e R s m args below meth c H1 locs1 (cells + mc) (slots + ms) Q (F0 m pc ls rest) q9)
    (kk : k0 = 0 → ∀ (H1 : Heap) (locs1 : List Loc), xwP D cy ad u H1 → va_S A s.heap H1 locs1 → W p l e R s m args below meth c H1 locs1 (cells + mc) (slots + ms) Q (F0 m (pc + 3) ls (.int r0 :: rest))) : W p l e R s m args below meth c H locs cells slots Q (F0 m pc ls st) :=
  vx_calli (vx_runV E hM cw ⟨xwCK_blind, xw_rO hK hP, fun U hU hW => ⟨rfl, by rw [hU]; exact hP, va_K.moved hW.alike hK, hX.moved hW (fun q h1 h2 => by rw [hU]; exact hq q h1 h2)⟩⟩ rfl hn hsize hst (lv_room hroom) hdg hcs) hS (fun _ _ h => h.elim) (fun _ h => h.elim) (fun _ _ h => h.elim) (fun E1 ce q9 _ t H1 locs1 _ _ hk he hz hkk hS1 hc hv hcl => by
    subst he
    exact kx hk ce q9 H1 locs1 (hP.kept hkk (fun _ _ h => h)) hS1 hc hv hcl) (fun r _ t H1 locs1 _ _ hk _ hz hkk hS1 => by
    rw [hk.2]
    exact kk hk.1 H1 locs1 (hP.kept hkk (fun _ _ h => h)) hS1)
/-- a Merge is made -/
def xwQm (D : va_G) (ad : Nat → Nat) (sz co ca cb : Nat) : Array Value → State → Outcome → State → Prop := va_Qr (fun _ : Unit => True) (fun _ a t => sz ≤ a ∧ xw_D co ∧ xw_D ca ∧ xw_D cb ∧ va_at D vwCl (a, xw_mc ad co ca cb) t.heap) (fun q => sz ≤ q)
theorem xw_callMo (E : CallFix p m c cc nL s args Ts own) (hM : Met l y ws rm (xwCS D cy ad u H.size (.ref (ad 0) :: As)) (xwQm D ad H.size co ca cb) 1 3 (fun q => H.size ≤ q)) (cw : CallW R s args own RX5 index y bytes maxL ret ws rm 1 3 n) (hK : swK D cy s) (hP : xwP D cy ad u H) (hS : va_S A s.heap H locs) (hA : ∀ q : Nat, s.heap.size ≤ q → A q) (hcs : cells + 1 ≤ R.cells ∧ slots + 3 ≤ R.slots) (hn : As.length = n) (hsize : ls.size = nL) (hst : st = As.reverse ++ .ref (ad 0) :: rest) (hroom : (rest.map fun v => v.category).sum ≤ 8) (hdg : decode cc pc = .ok (.invokevirtual index, 3))
    (kk : ∀ (g : Nat) (H1 : Heap) (locs1 : List Loc), xwP D cy ad u H1 → va_S A s.heap H1 locs1 → va_at D vwCl (g, xw_mc ad co ca cb) H1 → (∀ c, xw_N c = true → ad c ≠ g) → xw_D co → xw_D ca → xw_D cb → W p l e R s m args below meth c H1 locs1 (cells + 1) (slots + 3) Q (F0 m (pc + 3) ls (.ref g :: rest))) : W p l e R s m args below meth c H locs cells slots Q (F0 m pc ls st) :=
  va_callr (va_runV E hM cw ⟨xwCS_blind, xw_rO hK hP, fun U hU hW => ⟨rfl, by rw [hU]; exact hP, va_K.moved hW.alike hK, by rw [hU]⟩⟩ rfl hn hsize hst (lv_room hroom) hdg hcs) hS (fun q h1 h2 => by omega) (fun q h => hA q (Nat.le_trans hS.1 h)) (fun _ ra t H1 locs1 ht _ _ hB hz hkk hS1 => by
    obtain ⟨e1, e2, e3, e4, e5⟩ := hB
    rw [ht] at e5
    exact kk ra H1 locs1 (hP.kept hkk (fun c hc h => by have := (hP c hc).lt; omega)) hS1 e5 (fun c hc h => by have := (hP c hc).lt; have h : ad c = ra := h; omega) e2 e3 e4)
end XT
abbrev rmX1_init : Room := { frames := 1, cells := 0, slots := 0, locals := 20 }
set_option maxHeartbeats 4000000 in
set_option maxRecDepth 100000 in
theorem xm1_init (l : Launch) (dC : Nat → ClassId) (dI : Nat → Nat → Nat) (cy : Nat → ClassId) (h0 a1 a2 a3 : Nat) : Met l yX1_init wsX1_init rmX1_init (va_Pc [.ref h0, .ref a1, .ref a2, .ref a3] (fun U => va_P (dC, dI) vwCl [(h0, .inr (1, [.null, .null, .null]))] U.heap ∧ swK (dC, dI) cy U)) (va_Qv (fun _ : Unit => True) (fun _ t => va_P (dC, dI) vwCl [(h0, .inr (1, [.ref a1, .ref a2, .ref a3]))] t.heap) (fun q => q = h0)) 0 0 (fun q => q = h0) := by
  refine Met.ofW (cc := cX1_init) (maxL := 4) (ret := none) (by decide) rfl ?_
  intro p e s m args below meth c s₁ B hml hv
  obtain ⟨ha, hP, hK⟩ := hv
  have hx := B.exec
  have hb := B.bytes
  have hr := B.returns
  have hlocks := B.notSynchronized
  have hts := atoms_spec (ws := wsX1_init) B.pre
  have hown : s.vm.findClass RX1 = some m.cls := findClass_of_methodNamed B.named
  have hin : meth.name = "<init>" := (name_of_methodNamed B.named B.method).1
  have hin1 : ∀ w ∈ wsX10, w ∈ wsX1_init := by decide +kernel
  have f9 : (Cond.fieldLink RX1 9 "Slidewarden$Merge" "old" "LSlidewarden$Deck;").before args s = true := hts _ (by decide +kernel)
  have f15 : (Cond.fieldLink RX1 15 "Slidewarden$Merge" "ours" "LSlidewarden$Deck;").before args s = true := hts _ (by decide +kernel)
  have f18 : (Cond.fieldLink RX1 18 "Slidewarden$Merge" "theirs" "LSlidewarden$Deck;").before args s = true := hts _ (by decide +kernel)
  have hD : va_D (fun q => q = h0) [(h0, .inr (1, [.null, .null, .null]))] := ⟨fun i j x y hi hj _ => by
    have h1 := (List.getElem?_eq_some_iff.mp hi).1
    have h2 := (List.getElem?_eq_some_iff.mp hj).1
    simp only [List.length_cons, List.length_nil] at h1 h2
    omega, fun k q hk => by
    match k, hk with
    | 0, hk => cases hk; rfl⟩
  have hS : va_S (fun q => q = h0) s.heap s.heap [] := va_S.rf
  obtain ⟨ls, hl, hent⟩ := sw_entry m (n := 4) ha (Nat.le_of_ble_eq_true rfl)
  rw [hent]
  have hl : lv_has ls 4 [(0, .ref h0), (1, .ref a1), (2, .ref a2), (3, .ref a3)] := hl
  refine lv_aload_n hx hb dX1_init_0 rfl (lv_at hl 0 rfl) ?_
  refine W.objInit hx hb hown (hts (.methodLink RX1 3 objectInit) (by decide +kernel)) (hts (.instanceMethod objectInit) (by decide +kernel)) (hts (.code objectInit ⟨#[0xb1]⟩ 1 none) (by decide +kernel)) rfl (by rw [hml]; exact hl.1) rfl dX1_init_1 (Nat.le_of_ble_eq_true rfl) (Nat.le_of_ble_eq_true rfl) ?_
  refine W.eq (g2 := F0 m 4 ls []) rfl ?_
  refine lv_aload_n hx hb dX1_init_4 rfl (lv_at hl 0 rfl) ?_
  refine lv_aload_n hx hb dX1_init_5 rfl (lv_at hl 1 rfl) ?_
  refine va_putF (D := (dC, dI)) (ci := 1) (v := .ref a1) (ty := .object "Slidewarden$Deck") (C := RX1) (T := TX1) (N := 3) hx hb hts hin1 tyX1 tyX1_ok nmX1 hown hK hP hD hS 0 rfl rfl 0 (by decide) f9 (fun _ h9 => h9) rfl hin rfl (by decide +kernel) rfl rfl (Nat.le_of_ble_eq_true rfl) dX1_init_6 (fun H locs hP hD hS => ?_)
  have hP : va_P (dC, dI) vwCl [(h0, .inr (1, [.ref a1, .null, .null]))] H := hP
  have hD : va_D (fun q => q = h0) [(h0, .inr (1, [.ref a1, .null, .null]))] := hD
  refine lv_aload_n hx hb dX1_init_9 rfl (lv_at hl 0 rfl) ?_
  refine lv_aload_n hx hb dX1_init_10 rfl (lv_at hl 2 rfl) ?_
  refine va_putF (D := (dC, dI)) (ci := 1) (v := .ref a2) (ty := .object "Slidewarden$Deck") (C := RX1) (T := TX1) (N := 3) hx hb hts hin1 tyX1 tyX1_ok nmX1 hown hK hP hD hS 0 rfl rfl 1 (by decide) f15 (fun _ h9 => h9) rfl hin rfl (by decide +kernel) rfl rfl (Nat.le_of_ble_eq_true rfl) dX1_init_11 (fun H locs hP hD hS => ?_)
  have hP : va_P (dC, dI) vwCl [(h0, .inr (1, [.ref a1, .ref a2, .null]))] H := hP
  have hD : va_D (fun q => q = h0) [(h0, .inr (1, [.ref a1, .ref a2, .null]))] := hD
  refine lv_aload_n hx hb dX1_init_14 rfl (lv_at hl 0 rfl) ?_
  refine lv_aload_n hx hb dX1_init_15 rfl (lv_at hl 3 rfl) ?_
  refine va_putF (D := (dC, dI)) (ci := 1) (v := .ref a3) (ty := .object "Slidewarden$Deck") (C := RX1) (T := TX1) (N := 3) hx hb hts hin1 tyX1 tyX1_ok nmX1 hown hK hP hD hS 0 rfl rfl 2 (by decide) f18 (fun _ h9 => h9) rfl hin rfl (by decide +kernel) rfl rfl (Nat.le_of_ble_eq_true rfl) dX1_init_16 (fun H locs hP hD hS => ?_)
  have hP : va_P (dC, dI) vwCl [(h0, .inr (1, [.ref a1, .ref a2, .ref a3]))] H := hP
  have hD : va_D (fun q => q = h0) [(h0, .inr (1, [.ref a1, .ref a2, .ref a3]))] := hD
  exact W.vret hx hb hr (fun t ht hW => ⟨⟨(), rfl, trivial, by show va_P _ _ _ t.heap; rw [ht]; exact hP⟩, hS.F ht⟩) hS.2.2 dX1_init_19 hlocks
def xx5_mergeOf (u : swU) (x1 x2 : Int32) : Option (Nat × Nat × Nat) :=
  swbd (xx5_baseOf u x1 x2) fun r11 => swgd (swix r11 40) <| swlt (100 + r11.toNatClampNeg) fun c14 => swlt (c14 + 100) fun d15 => swbd (xx5_headDeck u x1) fun r20 => swbd (xx5_headDeck u x2) fun r25 => some (d15, r20, r25)
abbrev rmX5_mergeOf : Room := { frames := 2, cells := 1, slots := 3, locals := 60 }
set_option maxHeartbeats 4000000 in
set_option maxRecDepth 100000 in
theorem xm5_mergeOf (l : Launch) (D : va_G) (cy : Nat → ClassId) (ad : Nat → Nat) (u : swU) (x1 x2 : Int32) (sz co ca cb : Nat) (h : xx5_mergeOf u x1 x2 = some (co, ca, cb)) : Met l yX5_mergeOf wsX5_mergeOf rmX5_mergeOf (xwCS D cy ad u sz [.ref (ad 0), .int x1, .int x2]) (xwQm D ad sz co ca cb) 1 3 (fun q => sz ≤ q) := by
  refine Met.ofW (cc := cX5_mergeOf) (maxL := 3) (ret := (some (.object "Slidewarden$Merge"))) (by decide) rfl ?_
  intro p e s m args below meth c s₁ B hml hv
  obtain ⟨ha, hP, hK, hsz⟩ := hv
  have hx := B.exec
  have hb := B.bytes
  have hr := B.returns
  have hlocks := B.notSynchronized
  have hts := atoms_spec (ws := wsX5_mergeOf) B.pre
  have hown : s.vm.findClass RX5 = some m.cls := findClass_of_methodNamed B.named
  have E : CallFix p m c cX5_mergeOf 3 s args wsX5_mergeOf RX5 := ⟨hx, hb, hml, hown, hts⟩
  have hin1 : ∀ w ∈ wsX10, w ∈ wsX5_mergeOf := by decide +kernel
  have hin3 : ∀ w ∈ wsX30, w ∈ wsX5_mergeOf := by decide +kernel
  have hin5 : ∀ w ∈ wsX50, w ∈ wsX5_mergeOf := by decide +kernel
  have f11 : (Cond.fieldLink RX5 11 "Slidewarden" "versions" "[LSlidewarden$Version;").before args s = true := hts _ (by decide +kernel)
  have f130 : (Cond.fieldLink RX5 130 "Slidewarden$Version" "deck" "LSlidewarden$Deck;").before args s = true := hts _ (by decide +kernel)
  have hS : va_S (fun q => sz ≤ q) s.heap s.heap [] := va_S.rf
  have hA : ∀ q : Nat, s.heap.size ≤ q → (fun q => sz ≤ q) q := fun q h => by rw [← hsz]; exact h
  obtain ⟨ls, hl, hent⟩ := sw_entry m (n := 3) ha (Nat.le_of_ble_eq_true rfl)
  rw [hent]
  have hl : lv_has ls 3 [(0, .ref (ad 0)), (1, .int x1), (2, .int x2)] := hl
  unfold xx5_mergeOf at h
  refine va_new (D := D) (ws := []) (ci := 1) (fs := [.null, .null, .null]) (C := RX1) (T := TX1) (N := 3) hx hb hts hin1 tyX1 tyX1_ok hown (hts (.classLink RX5 163 RX1) (by decide +kernel)) (hts (.instantiable RX1 3) (by decide +kernel)) (hts (.initialized RX1) (by decide +kernel)) hK (fun k q hk => by simp at hk) ⟨fun i j x y hi => by simp at hi, fun k q hk => by simp at hk⟩ hS hA rfl (fun j hj => by rcases (show j = 0 ∨ j = 1 ∨ j = 2 by omega) with rfl | rfl | rfl <;> rfl) (Nat.le_of_ble_eq_true rfl) (Nat.le_of_ble_eq_true rfl) dX5_mergeOf_0 (fun g H hG hGD hS => ?_)
  have hG : va_P D vwCl [(g, .inr (1, [.null, .null, .null]))] H := hG
  have hg : sz ≤ g := hGD.2 0 (g, .inr (1, [.null, .null, .null])) rfl
  have hP : xwP D cy ad u H := hP.kept (fun q h1 h2 => hS.2.1 q h1 h2) (fun c hc h => by have := (hP c hc).lt; have h : sz ≤ ad c := h; omega)
  refine lv_dup hx hb dX5_mergeOf_3 rfl ?_
  refine lv_aload_n hx hb dX5_mergeOf_4 rfl (lv_at hl 0 rfl) ?_
  refine xw_getO hx hb hts hin5 hown hK hP 0 (by decide) f11 rfl dX5_mergeOf_5 ?_
  refine lv_aload_n hx hb dX5_mergeOf_8 rfl (lv_at hl 0 rfl) ?_
  refine lv_iload_n hx hb dX5_mergeOf_9 rfl (lv_at hl 1 rfl) ?_
  refine lv_iload_n hx hb dX5_mergeOf_10 rfl (lv_at hl 2 rfl) ?_
  obtain ⟨r11, er11, h⟩ := swbd_s h
  refine xw_calli (As := [.int x1, .int x2]) (rest := [.ref (ad 3), .ref g, .ref g]) E (xm5_baseOf l D cy ad u x1 x2 _ er11) (cwV 2 hts gX5_mergeOf_X5_baseOf rfl rfl rfl (by decide +kernel) ⟨Nat.le_of_ble_eq_true rfl, Nat.le_of_ble_eq_true rfl⟩) hK hP (xw_rO hK hP) ⟨Nat.le_of_ble_eq_true rfl, Nat.le_of_ble_eq_true rfl⟩ rfl hl.1 rfl (Nat.le_of_ble_eq_true rfl) dX5_mergeOf_11 ?_
  obtain ⟨i14, h⟩ := swgd_s h
  obtain ⟨c14, e14, h⟩ := swlt_s h
  have hc14 := xw_Vof (swix_s i14) e14
  refine xw_aldV hx hb hK hP (swix_s i14) dX5_mergeOf_14 e14 ?_
  obtain ⟨d15, e15, h⟩ := swlt_s h
  have hd15 : xw_D d15 := by rw [e15]; exact xw_VD hc14
  refine xw_getV (v := .ref (ad d15)) hx hb hts hin3 hown hK hP hc14 0 (by decide) f130 (by rw [e15]; rfl) dX5_mergeOf_15 ?_
  refine lv_aload_n hx hb dX5_mergeOf_18 rfl (lv_at hl 0 rfl) ?_
  refine lv_iload_n hx hb dX5_mergeOf_19 rfl (lv_at hl 1 rfl) ?_
  obtain ⟨r20, er20, h⟩ := swbd_s h
  refine xw_callr (As := [.int x1]) (rest := [.ref (ad d15), .ref g, .ref g]) E (xm5_headDeck l D cy ad u x1 _ er20) (cwV 1 hts gX5_mergeOf_X5_headDeck rfl rfl rfl (by decide +kernel) ⟨Nat.le_of_ble_eq_true rfl, Nat.le_of_ble_eq_true rfl⟩) hK hP (xw_rO hK hP) ⟨Nat.le_of_ble_eq_true rfl, Nat.le_of_ble_eq_true rfl⟩ rfl hl.1 rfl (Nat.le_of_ble_eq_true rfl) dX5_mergeOf_20 (fun hr20 => ?_)
  refine lv_aload_n hx hb dX5_mergeOf_23 rfl (lv_at hl 0 rfl) ?_
  refine lv_iload_n hx hb dX5_mergeOf_24 rfl (lv_at hl 2 rfl) ?_
  obtain ⟨r25, er25, h⟩ := swbd_s h
  refine xw_callr (As := [.int x2]) (rest := [.ref (ad r20), .ref (ad d15), .ref g, .ref g]) E (xm5_headDeck l D cy ad u x2 _ er25) (cwV 1 hts gX5_mergeOf_X5_headDeck rfl rfl rfl (by decide +kernel) ⟨Nat.le_of_ble_eq_true rfl, Nat.le_of_ble_eq_true rfl⟩) hK hP (xw_rO hK hP) ⟨Nat.le_of_ble_eq_true rfl, Nat.le_of_ble_eq_true rfl⟩ rfl hl.1 rfl (Nat.le_of_ble_eq_true rfl) dX5_mergeOf_25 (fun hr25 => ?_)
  refine va_callv (va_runI (As := [.ref (ad d15), .ref (ad r20), .ref (ad r25)]) (rest := [.ref g]) E (xm1_init l D.1 D.2 cy g (ad d15) (ad r20) (ad r25)) (cwI 3 hts gX5_mergeOf_X1_init rfl rfl rfl (hts (.initialized RX1) (by decide +kernel)) (hts (.methodLink RX5 279 yX1_init) (by decide +kernel)) (hts (.instanceMethod yX1_init) (by decide +kernel)) rfl (by decide +kernel) ⟨Nat.le_of_ble_eq_true rfl, Nat.le_of_ble_eq_true rfl⟩) ⟨fun a U g mk q => ⟨q.1, q.2.1, va_K.moved (u := U) (U := U.calling g mk a) (Vm.Alike.refl U.vm) q.2.2⟩, fun U hU hW => ⟨rfl, by rw [hU]; exact hG, va_K.moved hW.alike hK⟩⟩ rfl rfl hl.1 rfl (lv_room (Nat.le_of_ble_eq_true rfl)) dX5_mergeOf_28 ⟨Nat.le_of_ble_eq_true rfl, Nat.le_of_ble_eq_true rfl⟩) hS (fun q _ h => by have h : q = g := h; rw [h]; exact hg) (fun q h => by have h : q = g := h; rw [h]; exact hg) (fun _ t H1 locs1 ht _ _ hB _ _ hS1 => ?_)
  rw [ht] at hB
  cases h
  exact W.aret hx hb hr (Or.inl ⟨_, rfl⟩) (Or.inr ⟨_, rfl⟩) (fun t ht hW => ⟨⟨(), _, rfl, trivial, hg, hd15, hr20, hr25, by rw [ht]; exact hB 0 _ rfl⟩, hS1.F ht⟩) hS1.2.2 dX5_mergeOf_31 hlocks
