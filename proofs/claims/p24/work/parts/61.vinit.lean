abbrev swNk (own : String) (i : Nat) (y : MethodName) (U : State) : Prop := va_Nw (.methodLinkNest own i y "Slidewarden") U
theorem sw_D4 {A : Nat → Prop} {a b c d : Nat} {e0 e1 e2 e3 : va_E} (n01 : a ≠ b) (n02 : a ≠ c) (n03 : a ≠ d) (n12 : b ≠ c) (n13 : b ≠ d) (n23 : c ≠ d) (ha : A a) (hb : A b) (hc : A c) (hd : A d) : va_D A [(a, e0), (b, e1), (c, e2), (d, e3)] := by
  have n10 := n01.symm
  have n20 := n02.symm
  have n30 := n03.symm
  have n21 := n12.symm
  have n31 := n13.symm
  have n32 := n23.symm
  refine ⟨fun i j x y hi hj hxy => ?_, fun k q hk => ?_⟩
  · have h1 := (List.getElem?_eq_some_iff.mp hi).1
    have h2 := (List.getElem?_eq_some_iff.mp hj).1
    simp only [List.length_cons, List.length_nil] at h1 h2
    match i, j, hi, hj with
    | 0, 0, _, _ => rfl
    | 0, 1, hi, hj => cases hi; cases hj; exact absurd hxy n01
    | 0, 2, hi, hj => cases hi; cases hj; exact absurd hxy n02
    | 0, 3, hi, hj => cases hi; cases hj; exact absurd hxy n03
    | 1, 0, hi, hj => cases hi; cases hj; exact absurd hxy n10
    | 1, 1, _, _ => rfl
    | 1, 2, hi, hj => cases hi; cases hj; exact absurd hxy n12
    | 1, 3, hi, hj => cases hi; cases hj; exact absurd hxy n13
    | 2, 0, hi, hj => cases hi; cases hj; exact absurd hxy n20
    | 2, 1, hi, hj => cases hi; cases hj; exact absurd hxy n21
    | 2, 2, _, _ => rfl
    | 2, 3, hi, hj => cases hi; cases hj; exact absurd hxy n23
    | 3, 0, hi, hj => cases hi; cases hj; exact absurd hxy n30
    | 3, 1, hi, hj => cases hi; cases hj; exact absurd hxy n31
    | 3, 2, hi, hj => cases hi; cases hj; exact absurd hxy n32
    | 3, 3, _, _ => rfl
    | n + 4, _, _, _ => omega
    | _, n + 4, _, _ => omega
  · have h1 := (List.getElem?_eq_some_iff.mp hk).1
    simp only [List.length_cons, List.length_nil] at h1
    match k, hk with
    | 0, hk => cases hk; exact ha
    | 1, hk => cases hk; exact hb
    | 2, hk => cases hk; exact hc
    | 3, hk => cases hk; exact hd
    | n + 4, _ => omega
abbrev rmX3_init : Room := { frames := 3, cells := 3, slots := 43, locals := 60 }
set_option maxHeartbeats 1000000 in
set_option maxRecDepth 100000 in
theorem xm3_init (l : Launch) (D : va_G) (cy : Nat → ClassId) (h0 sz : Nat) (A : Nat → Prop) (hA0 : A h0) (hA1 : ∀ q, sz ≤ q → A q) (hAi : ∀ q, A q → q = h0 ∨ sz ≤ q) : Met l yX3_init wsX3_init rmX3_init (va_Pc [.ref h0] (fun U => U.heap.size = sz ∧ va_P D vwCl [(h0, .inr (3, [.null, .int 0, .int 0, .int 0, .long 0]))] U.heap ∧ swK D cy U ∧ h0 < sz ∧ swNk RX3 11 yX0_init U)) (va_Qv (fun z : Nat × Nat × Nat => z.1 ≠ z.2.1 ∧ z.1 ≠ z.2.2 ∧ z.2.1 ≠ z.2.2 ∧ sz ≤ z.1 ∧ sz ≤ z.2.1 ∧ sz ≤ z.2.2) (fun z t => va_P D vwCl [(h0, .inr (3, [.ref z.1, .int 0, .int (-1), .int (-1), .long 0])), (z.1, .inr (0, [.ref z.2.1, .ref z.2.2, .int 0])), (z.2.1, .inl (cy 0, 8, .inl (fun _ => 0))), (z.2.2, .inl (cy 0, 32, .inl (fun _ => 0)))] t.heap) A) 3 43 A := by
  refine Met.ofW (cc := cX3_init) (maxL := 1) (ret := none) (by decide) rfl ?_
  intro p e s m args below meth c s₁ B hml hv
  obtain ⟨ha, hsz, hP, hK, hh0, hNk⟩ := hv
  have hx := B.exec
  have hb := B.bytes
  have hr := B.returns
  have hlocks := B.notSynchronized
  have hts := atoms_spec (ws := wsX3_init) B.pre
  have hown : s.vm.findClass RX3 = some m.cls := findClass_of_methodNamed B.named
  have hin : meth.name = "<init>" := (name_of_methodNamed B.named B.method).1
  have E : CallFix p m c cX3_init 1 s args wsX3_init RX3 := ⟨hx, hb, hml, hown, hts⟩
  have hin1 : ∀ w ∈ wsX30, w ∈ wsX3_init := by decide +kernel
  have hin0 : ∀ w ∈ wsX00, w ∈ wsX3_init := by decide +kernel
  have hA : ∀ q, s.heap.size ≤ q → A q := fun q hq => hA1 q (by omega)
  have hD : va_D A [(h0, .inr (3, [.null, .int 0, .int 0, .int 0, .long 0]))] := ⟨fun i j x y hi hj _ => by
    have h1 := (List.getElem?_eq_some_iff.mp hi).1
    have h2 := (List.getElem?_eq_some_iff.mp hj).1
    simp only [List.length_cons, List.length_nil] at h1 h2
    omega, fun k q hk => by
    match k, hk with
    | 0, hk => cases hk; exact hA0⟩
  have hS : va_S A s.heap s.heap [] := va_S.rf
  obtain ⟨ls, hl, hent⟩ := sw_entry m (n := 1) ha (Nat.le_of_ble_eq_true rfl)
  rw [hent]
  have hl : lv_has ls 1 [(0, .ref h0)] := hl
  refine lv_aload_n hx hb dX3_init_0 rfl (lv_at hl 0 rfl) ?_
  refine W.objInit hx hb hown (hts (.methodLink RX3 3 objectInit) (by decide +kernel)) (hts (.instanceMethod objectInit) (by decide +kernel)) (hts (.code objectInit ⟨#[0xb1]⟩ 1 none) (by decide +kernel)) rfl (by rw [hml]; exact hl.1) rfl dX3_init_1 (Nat.le_of_ble_eq_true rfl) (Nat.le_of_ble_eq_true rfl) ?_
  refine W.eq (g2 := F0 m 4 ls []) rfl ?_
  refine lv_aload_n hx hb dX3_init_4 rfl (lv_at hl 0 rfl) ?_
  refine va_new (ci := 0) (fs := [.null, .null, .int 0]) (C := RX0) (T := TX0) (N := 3) hx hb hts hin0 tyX0 tyX0_ok hown (hts (.classLink RX3 9 RX0) (by decide +kernel)) (hts (.instantiable RX0 3) (by decide +kernel)) (hts (.initialized RX0) (by decide +kernel)) hK hP hD hS hA rfl (fun j hj => by rcases (show j = 0 ∨ j = 1 ∨ j = 2 by omega) with rfl | rfl | rfl <;> rfl) (Nat.le_of_ble_eq_true rfl) (Nat.le_of_ble_eq_true rfl) dX3_init_5 (fun g1 H hP hD hS => ?_)
  have hP : va_P D vwCl [(h0, .inr (3, [.null, .int 0, .int 0, .int 0, .long 0])), (g1, .inr (0, [.null, .null, .int 0]))] H := hP
  have hD : va_D A [(h0, .inr (3, [.null, .int 0, .int 0, .int 0, .long 0])), (g1, .inr (0, [.null, .null, .int 0]))] := hD
  have n01 : h0 ≠ g1 := fun z => absurd (hD.1 0 1 _ _ rfl rfl z) (by decide)
  have hg1 : sz ≤ g1 := (hAi _ (hD.2 1 _ rfl)).resolve_left (fun z => n01 z.symm)
  have hH : sz ≤ H.size := by rw [← hsz]; exact hS.1
  have hgl : g1 < H.size := (hP 1 _ rfl).lt
  refine lv_dup hx hb dX3_init_8 rfl ?_
  have hPc : va_P D vwCl [(g1, .inr (0, [.null, .null, .int 0]))] H := hP.sub (ws' := [(g1, .inr (0, [.null, .null, .int 0]))]) [1] rfl
  have hfr : ∀ q : Nat, (q = g1 ∨ H.size ≤ q) → A q := fun q hq => by
    rcases hq with hq | hq
    · exact hA1 q (by omega)
    · exact hA1 q (by omega)
  refine va_callv (va_runIN (As := []) (rest := [.ref g1, .ref h0]) E (xm0_init l D cy g1 H.size (fun q => q = g1 ∨ H.size ≤ q) (Or.inl rfl) (fun q h => Or.inr h) (fun q h => h)) ⟨va_cnB 0 hts gX3_init_X0_init_n11 rfl rfl rfl hNk (hts (.initialized RX0) (by decide +kernel)) (by decide +kernel) ⟨Nat.le_of_ble_eq_true rfl, Nat.le_of_ble_eq_true rfl⟩, rfl, hts (.instanceMethod yX0_init) (by decide +kernel)⟩ ⟨fun a U g mk q => by obtain ⟨q0, q1, qP, qK, qD⟩ := q; exact ⟨q0, q1, qP, va_K.moved (u := U) (U := U.calling g mk a) (Vm.Alike.refl U.vm) qK, qD⟩, fun U hU hW => ⟨rfl, by rw [hU], by rw [hU]; exact hPc, va_K.moved hW.alike hK, hgl⟩⟩ rfl rfl hl.1 rfl (lv_room (Nat.le_of_ble_eq_true rfl)) dX3_init_9 ⟨Nat.le_of_ble_eq_true rfl, Nat.le_of_ble_eq_true rfl⟩) hS (fun q _ h => hfr q h) hfr (fun z t H1 locs ht hvm hw hB hz1 hk1 hS => ?_)
  obtain ⟨z1, z2⟩ := z
  obtain ⟨w1, w2, w3, w4, w5⟩ := hw
  have hB : va_P D vwCl [(g1, .inr (0, [.ref z1, .ref z2, .int 0])), (z1, .inl (cy 0, 8, .inl (fun _ => 0))), (z2, .inl (cy 0, 32, .inl (fun _ => 0)))] t.heap := hB
  rw [ht] at hB
  have w1 : g1 ≠ z1 := w1
  have w2 : g1 ≠ z2 := w2
  have w3 : z1 ≠ z2 := w3
  have w4 : H.size ≤ z1 := w4
  have w5 : H.size ≤ z2 := w5
  have h0l : h0 < H.size := by omega
  have hk0 : H1[h0]? = H[h0]? := hk1 h0 h0l (fun q => by
    rcases q with q | q
    · exact n01 q
    · omega)
  have hP : va_P D vwCl [(h0, .inr (3, [.null, .int 0, .int 0, .int 0, .long 0])), (g1, .inr (0, [.ref z1, .ref z2, .int 0])), (z1, .inl (cy 0, 8, .inl (fun _ => 0))), (z2, .inl (cy 0, 32, .inl (fun _ => 0)))] H1 := fun k q hk => by
    have h1 := (List.getElem?_eq_some_iff.mp hk).1
    simp only [List.length_cons, List.length_nil] at h1
    match k, hk with
    | 0, hk => cases hk; exact (hP 0 _ rfl).kept hk0
    | 1, hk => cases hk; exact hB 0 _ rfl
    | 2, hk => cases hk; exact hB 1 _ rfl
    | 3, hk => cases hk; exact hB 2 _ rfl
    | n + 4, _ => omega
  have hD : va_D A [(h0, .inr (3, [.null, .int 0, .int 0, .int 0, .long 0])), (g1, .inr (0, [.ref z1, .ref z2, .int 0])), (z1, .inl (cy 0, 8, .inl (fun _ => 0))), (z2, .inl (cy 0, 32, .inl (fun _ => 0)))] := sw_D4 n01 (by omega) (by omega) w1 w2 w3 hA0 (hA1 _ hg1) (hA1 _ (by omega)) (hA1 _ (by omega))
  refine va_putF (D := D) (ci := 3) (v := .ref g1) (ty := .object "Slidewarden$Deck") (C := RX3) (T := TX3) (N := 5) hx hb hts hin1 tyX3 tyX3_ok nmX3 hown hK hP hD hS 0 rfl rfl 0 (by decide) (hts (.fieldLink RX3 12 "Slidewarden$Version" "deck" "LSlidewarden$Deck;") (by decide +kernel)) (fun _ h9 => h9) rfl hin rfl (by decide +kernel) rfl rfl (Nat.le_of_ble_eq_true rfl) dX3_init_12 (fun H locs hP hD hS => ?_)
  have hP : va_P D vwCl [(h0, .inr (3, [.ref g1, .int 0, .int 0, .int 0, .long 0])), (g1, .inr (0, [.ref z1, .ref z2, .int 0])), (z1, .inl (cy 0, 8, .inl (fun _ => 0))), (z2, .inl (cy 0, 32, .inl (fun _ => 0)))] H := hP
  have hD : va_D A [(h0, .inr (3, [.ref g1, .int 0, .int 0, .int 0, .long 0])), (g1, .inr (0, [.ref z1, .ref z2, .int 0])), (z1, .inl (cy 0, 8, .inl (fun _ => 0))), (z2, .inl (cy 0, 32, .inl (fun _ => 0)))] := hD
  refine lv_aload_n hx hb dX3_init_15 rfl (lv_at hl 0 rfl) ?_
  refine lv_iconst (v := (-1)) hx hb dX3_init_16 (by decide) ?_
  refine va_put (D := D) (ci := 3) (v := .int (-1)) (ty := .int) (C := RX3) (T := TX3) (N := 5) hx hb hts hin1 tyX3 tyX3_ok nmX3 hown hK hP hD hS 0 rfl rfl 2 (by decide) (hts (.fieldLink RX3 18 "Slidewarden$Version" "cameFrom" "I") (by decide +kernel)) (fun _ h9 => h9) rfl (by decide +kernel) rfl rfl (Nat.le_of_ble_eq_true rfl) dX3_init_17 (fun H locs hP hD hS => ?_)
  have hP : va_P D vwCl [(h0, .inr (3, [.ref g1, .int 0, .int (-1), .int 0, .long 0])), (g1, .inr (0, [.ref z1, .ref z2, .int 0])), (z1, .inl (cy 0, 8, .inl (fun _ => 0))), (z2, .inl (cy 0, 32, .inl (fun _ => 0)))] H := hP
  have hD : va_D A [(h0, .inr (3, [.ref g1, .int 0, .int (-1), .int 0, .long 0])), (g1, .inr (0, [.ref z1, .ref z2, .int 0])), (z1, .inl (cy 0, 8, .inl (fun _ => 0))), (z2, .inl (cy 0, 32, .inl (fun _ => 0)))] := hD
  refine lv_aload_n hx hb dX3_init_20 rfl (lv_at hl 0 rfl) ?_
  refine lv_iconst (v := (-1)) hx hb dX3_init_21 (by decide) ?_
  refine va_put (D := D) (ci := 3) (v := .int (-1)) (ty := .int) (C := RX3) (T := TX3) (N := 5) hx hb hts hin1 tyX3 tyX3_ok nmX3 hown hK hP hD hS 0 rfl rfl 3 (by decide) (hts (.fieldLink RX3 22 "Slidewarden$Version" "mergedFrom" "I") (by decide +kernel)) (fun _ h9 => h9) rfl (by decide +kernel) rfl rfl (Nat.le_of_ble_eq_true rfl) dX3_init_22 (fun H locs hP hD hS => ?_)
  have hP : va_P D vwCl [(h0, .inr (3, [.ref g1, .int 0, .int (-1), .int (-1), .long 0])), (g1, .inr (0, [.ref z1, .ref z2, .int 0])), (z1, .inl (cy 0, 8, .inl (fun _ => 0))), (z2, .inl (cy 0, 32, .inl (fun _ => 0)))] H := hP
  have hD : va_D A [(h0, .inr (3, [.ref g1, .int 0, .int (-1), .int (-1), .long 0])), (g1, .inr (0, [.ref z1, .ref z2, .int 0])), (z1, .inl (cy 0, 8, .inl (fun _ => 0))), (z2, .inl (cy 0, 32, .inl (fun _ => 0)))] := hD
  exact W.vret hx hb hr (fun t ht hW => ⟨⟨(g1, z1, z2), rfl, ⟨w1, w2, w3, hg1, by show sz ≤ z1; omega, by show sz ≤ z2; omega⟩, by show va_P _ _ _ t.heap; rw [ht]; exact hP⟩, hS.F ht⟩) hS.2.2 dX3_init_25 hlocks

