theorem sw_D3 {A : Nat → Prop} {a b c : Nat} {e0 e1 e2 : va_E} (n01 : a ≠ b) (n02 : a ≠ c) (n12 : b ≠ c) (ha : A a) (hb : A b) (hc : A c) : va_D A [(a, e0), (b, e1), (c, e2)] := by
  have n10 := n01.symm
  have n20 := n02.symm
  have n21 := n12.symm
  refine ⟨fun i j x y hi hj hxy => ?_, fun k q hk => ?_⟩
  · have h1 := (List.getElem?_eq_some_iff.mp hi).1
    have h2 := (List.getElem?_eq_some_iff.mp hj).1
    simp only [List.length_cons, List.length_nil] at h1 h2
    match i, j, hi, hj with
    | 0, 0, _, _ => rfl
    | 0, 1, hi, hj => cases hi; cases hj; exact absurd hxy n01
    | 0, 2, hi, hj => cases hi; cases hj; exact absurd hxy n02
    | 1, 0, hi, hj => cases hi; cases hj; exact absurd hxy n10
    | 1, 1, _, _ => rfl
    | 1, 2, hi, hj => cases hi; cases hj; exact absurd hxy n12
    | 2, 0, hi, hj => cases hi; cases hj; exact absurd hxy n20
    | 2, 1, hi, hj => cases hi; cases hj; exact absurd hxy n21
    | 2, 2, _, _ => rfl
    | n + 3, _, _, _ => omega
    | _, n + 3, _, _ => omega
  · have h1 := (List.getElem?_eq_some_iff.mp hk).1
    simp only [List.length_cons, List.length_nil] at h1
    match k, hk with
    | 0, hk => cases hk; exact ha
    | 1, hk => cases hk; exact hb
    | 2, hk => cases hk; exact hc
    | n + 3, _ => omega
section XS5B
variable {p : Program} {l : Launch} {e : Env} {s : State} {m : MethodId} {args : Array Value} {below : List Frame} {meth : Method} {c : Code} {Q : State → Prop} {D : va_G} {cy : Nat → ClassId} {A : Nat → Prop}
set_option maxHeartbeats 1000000 in
set_option maxRecDepth 100000 in
theorem xs5_b (hx : p.tables.exec = Jvm.exec) (hb : c.code = cX5_init) (hml : c.maxLocals = 2) (hts : ∀ w ∈ wsX5_init, w.before args s = true) (hown : s.vm.findClass RX5 = some m.cls) (hin : meth.name = "<init>") (hK : swK D cy s) (hNk : swNk RX5 36 yX0_init s) {h0 a1 a2 a3 a4 a5 : Nat} {H : Heap} {locs : List Loc} (hP : va_P D vwCl [(h0, .inr (5, [.ref a3, .ref a1, .ref a2, .ref a4, .ref a5, .null, .int 0, .int 0, .int 0, .int 0, .int 0, .int 0])), (a3, .inl (cy 3, 40, .inr (.inr (.inr (.inr (fun _ => none)))))), (a1, .inl (cy 0, 6, .inl (fun _ => 0))), (a2, .inl (cy 0, 6, .inl (fun _ => 0))), (a4, .inl (cy 2, 8, .inr (.inr (.inr (.inr (fun _ => none)))))), (a5, .inl (cy 4, 12, .inr (.inr (.inr (.inr (fun _ => none))))))] H) (hD : va_D A [(h0, .inr (5, [.ref a3, .ref a1, .ref a2, .ref a4, .ref a5, .null, .int 0, .int 0, .int 0, .int 0, .int 0, .int 0])), (a3, .inl (cy 3, 40, .inr (.inr (.inr (.inr (fun _ => none)))))), (a1, .inl (cy 0, 6, .inl (fun _ => 0))), (a2, .inl (cy 0, 6, .inl (fun _ => 0))), (a4, .inl (cy 2, 8, .inr (.inr (.inr (.inr (fun _ => none)))))), (a5, .inl (cy 4, 12, .inr (.inr (.inr (.inr (fun _ => none))))))]) (hS : va_S A s.heap H locs) (hA : ∀ q, s.heap.size ≤ q → A q) {ls : Array Slot} (hl : lv_has ls 2 [(0, .ref h0)])
    (kk : ∀ (g z1 z2 : Nat) (H : Heap) (locs : List Loc), va_P D vwCl [(h0, .inr (5, [.ref a3, .ref a1, .ref a2, .ref a4, .ref a5, .ref g, .int 0, .int 0, .int 0, .int 0, .int 0, .int 0])), (a3, .inl (cy 3, 40, .inr (.inr (.inr (.inr (fun _ => none)))))), (a1, .inl (cy 0, 6, .inl (fun _ => 0))), (a2, .inl (cy 0, 6, .inl (fun _ => 0))), (a4, .inl (cy 2, 8, .inr (.inr (.inr (.inr (fun _ => none)))))), (a5, .inl (cy 4, 12, .inr (.inr (.inr (.inr (fun _ => none)))))), (g, .inr (0, [.ref z1, .ref z2, .int 0])), (z1, .inl (cy 0, 8, .inl (fun _ => 0))), (z2, .inl (cy 0, 32, .inl (fun _ => 0)))] H → va_D A [(h0, .inr (5, [.ref a3, .ref a1, .ref a2, .ref a4, .ref a5, .ref g, .int 0, .int 0, .int 0, .int 0, .int 0, .int 0])), (a3, .inl (cy 3, 40, .inr (.inr (.inr (.inr (fun _ => none)))))), (a1, .inl (cy 0, 6, .inl (fun _ => 0))), (a2, .inl (cy 0, 6, .inl (fun _ => 0))), (a4, .inl (cy 2, 8, .inr (.inr (.inr (.inr (fun _ => none)))))), (a5, .inl (cy 4, 12, .inr (.inr (.inr (.inr (fun _ => none)))))), (g, .inr (0, [.ref z1, .ref z2, .int 0])), (z1, .inl (cy 0, 8, .inl (fun _ => 0))), (z2, .inl (cy 0, 32, .inl (fun _ => 0)))] → va_S A s.heap H locs → W p l e (headSpec wsX5_init rmX5_init).room s m args below meth c H locs 8 115 Q (F0 m 58 ls [])) : W p l e (headSpec wsX5_init rmX5_init).room s m args below meth c H locs 5 72 Q (F0 m 47 ls []) := by
  have hin1 : ∀ w ∈ wsX50, w ∈ wsX5_init := by decide +kernel
  have hin0 : ∀ w ∈ wsX00, w ∈ wsX5_init := by decide +kernel
  have E : CallFix p m c cX5_init 2 s args wsX5_init RX5 := ⟨hx, hb, hml, hown, hts⟩
  refine lv_aload_n hx hb dX5_init_47 rfl (lv_at hl 0 rfl) ?_
  refine va_new (ci := 0) (fs := [.null, .null, .int 0]) (C := RX0) (T := TX0) (N := 3) hx hb hts hin0 tyX0 tyX0_ok hown (hts (.classLink RX5 34 RX0) (by decide +kernel)) (hts (.instantiable RX0 3) (by decide +kernel)) (hts (.initialized RX0) (by decide +kernel)) hK hP hD hS hA rfl (fun j hj => by rcases (show j = 0 ∨ j = 1 ∨ j = 2 by omega) with rfl | rfl | rfl <;> rfl) (Nat.le_of_ble_eq_true rfl) (Nat.le_of_ble_eq_true rfl) dX5_init_48 (fun g H hP hD hS => ?_)
  have hP : va_P D vwCl [(h0, .inr (5, [.ref a3, .ref a1, .ref a2, .ref a4, .ref a5, .null, .int 0, .int 0, .int 0, .int 0, .int 0, .int 0])), (a3, .inl (cy 3, 40, .inr (.inr (.inr (.inr (fun _ => none)))))), (a1, .inl (cy 0, 6, .inl (fun _ => 0))), (a2, .inl (cy 0, 6, .inl (fun _ => 0))), (a4, .inl (cy 2, 8, .inr (.inr (.inr (.inr (fun _ => none)))))), (a5, .inl (cy 4, 12, .inr (.inr (.inr (.inr (fun _ => none)))))), (g, .inr (0, [.null, .null, .int 0]))] H := hP
  have hD : va_D A [(h0, .inr (5, [.ref a3, .ref a1, .ref a2, .ref a4, .ref a5, .null, .int 0, .int 0, .int 0, .int 0, .int 0, .int 0])), (a3, .inl (cy 3, 40, .inr (.inr (.inr (.inr (fun _ => none)))))), (a1, .inl (cy 0, 6, .inl (fun _ => 0))), (a2, .inl (cy 0, 6, .inl (fun _ => 0))), (a4, .inl (cy 2, 8, .inr (.inr (.inr (.inr (fun _ => none)))))), (a5, .inl (cy 4, 12, .inr (.inr (.inr (.inr (fun _ => none)))))), (g, .inr (0, [.null, .null, .int 0]))] := hD
  refine lv_dup hx hb dX5_init_51 rfl ?_
  have hPc : va_P D vwCl [(g, .inr (0, [.null, .null, .int 0]))] H := hP.sub (ws' := [(g, .inr (0, [.null, .null, .int 0]))]) [6] rfl
  have hFc := va_free (wc := [(g, .inr (0, [.null, .null, .int 0]))]) hD hS hA [6] rfl
  have hgl : g < H.size := (hPc 0 _ rfl).lt
  refine va_callv (va_runIN (As := []) (rest := [.ref g, .ref h0]) E (xm0_init l D cy g H.size (va_A [(g, .inr (0, [.null, .null, .int 0]))] H.size) (Or.inl ⟨0, _, rfl⟩) (fun q h => Or.inr h) (fun q h => h.imp (fun ⟨k, e9, hk⟩ => by
    have h1 := (List.getElem?_eq_some_iff.mp hk).1
    simp only [List.length_cons, List.length_nil] at h1
    obtain rfl : k = 0 := by omega
    cases hk
    rfl) id)) ⟨va_cnB 0 hts gX5_init_X0_init_n36 rfl rfl rfl hNk (hts (.initialized RX0) (by decide +kernel)) (by decide +kernel) ⟨Nat.le_of_ble_eq_true rfl, Nat.le_of_ble_eq_true rfl⟩, rfl, hts (.instanceMethod yX0_init) (by decide +kernel)⟩ ⟨fun a U g mk q => by obtain ⟨q0, q1, qP, qK, qD⟩ := q; exact ⟨q0, q1, qP, va_K.moved (u := U) (U := U.calling g mk a) (Vm.Alike.refl U.vm) qK, qD⟩, fun U hU hW => ⟨rfl, by rw [hU], by rw [hU]; exact hPc, va_K.moved hW.alike hK, hgl⟩⟩ rfl rfl hl.1 rfl (lv_room (Nat.le_of_ble_eq_true rfl)) dX5_init_52 ⟨Nat.le_of_ble_eq_true rfl, Nat.le_of_ble_eq_true rfl⟩) hS (fun q _ h => hFc q h) hFc (fun z t H1 locs ht hvm hw hB hz1 hk1 hS => ?_)
  obtain ⟨z1, z2⟩ := z
  obtain ⟨w1, w2, w3, w4, w5⟩ := hw
  have hB : va_P D vwCl [(g, .inr (0, [.ref z1, .ref z2, .int 0])), (z1, .inl (cy 0, 8, .inl (fun _ => 0))), (z2, .inl (cy 0, 32, .inl (fun _ => 0)))] t.heap := hB
  rw [ht] at hB
  obtain ⟨hP, hD⟩ := va_join (wr := [(h0, .inr (5, [.ref a3, .ref a1, .ref a2, .ref a4, .ref a5, .null, .int 0, .int 0, .int 0, .int 0, .int 0, .int 0])), (a3, .inl (cy 3, 40, .inr (.inr (.inr (.inr (fun _ => none)))))), (a1, .inl (cy 0, 6, .inl (fun _ => 0))), (a2, .inl (cy 0, 6, .inl (fun _ => 0))), (a4, .inl (cy 2, 8, .inr (.inr (.inr (.inr (fun _ => none)))))), (a5, .inl (cy 4, 12, .inr (.inr (.inr (.inr (fun _ => none))))))]) (w1 := [(g, .inr (0, [.ref z1, .ref z2, .int 0])), (z1, .inl (cy 0, 8, .inl (fun _ => 0))), (z2, .inl (cy 0, 32, .inl (fun _ => 0)))]) hP hD [6] [0, 1, 2, 3, 4, 5] rfl rfl (by decide) (by decide) hk1 hFc hB (sw_D3 w1 w2 w3 (Or.inl ⟨0, _, rfl⟩) (Or.inr w4) (Or.inr w5))
  generalize H1 = H at hP hS ⊢
  have hP : va_P D vwCl [(h0, .inr (5, [.ref a3, .ref a1, .ref a2, .ref a4, .ref a5, .null, .int 0, .int 0, .int 0, .int 0, .int 0, .int 0])), (a3, .inl (cy 3, 40, .inr (.inr (.inr (.inr (fun _ => none)))))), (a1, .inl (cy 0, 6, .inl (fun _ => 0))), (a2, .inl (cy 0, 6, .inl (fun _ => 0))), (a4, .inl (cy 2, 8, .inr (.inr (.inr (.inr (fun _ => none)))))), (a5, .inl (cy 4, 12, .inr (.inr (.inr (.inr (fun _ => none)))))), (g, .inr (0, [.ref z1, .ref z2, .int 0])), (z1, .inl (cy 0, 8, .inl (fun _ => 0))), (z2, .inl (cy 0, 32, .inl (fun _ => 0)))] H := hP
  have hD : va_D A [(h0, .inr (5, [.ref a3, .ref a1, .ref a2, .ref a4, .ref a5, .null, .int 0, .int 0, .int 0, .int 0, .int 0, .int 0])), (a3, .inl (cy 3, 40, .inr (.inr (.inr (.inr (fun _ => none)))))), (a1, .inl (cy 0, 6, .inl (fun _ => 0))), (a2, .inl (cy 0, 6, .inl (fun _ => 0))), (a4, .inl (cy 2, 8, .inr (.inr (.inr (.inr (fun _ => none)))))), (a5, .inl (cy 4, 12, .inr (.inr (.inr (.inr (fun _ => none)))))), (g, .inr (0, [.ref z1, .ref z2, .int 0])), (z1, .inl (cy 0, 8, .inl (fun _ => 0))), (z2, .inl (cy 0, 32, .inl (fun _ => 0)))] := hD
  refine va_putF (D := D) (ci := 5) (v := .ref g) (ty := .object "Slidewarden$Deck") (C := RX5) (T := TX5) (N := 12) hx hb hts hin1 tyX5 tyX5_ok nmX5 hown hK hP hD hS 0 rfl rfl 5 (by decide) (hts (.fieldLink RX5 37 "Slidewarden" "trial" "LSlidewarden$Deck;") (by decide +kernel)) (fun _ h9 => h9) rfl hin rfl (by decide +kernel) rfl rfl (Nat.le_of_ble_eq_true rfl) dX5_init_55 (fun H locs hP hD hS => ?_)
  have hP : va_P D vwCl [(h0, .inr (5, [.ref a3, .ref a1, .ref a2, .ref a4, .ref a5, .ref g, .int 0, .int 0, .int 0, .int 0, .int 0, .int 0])), (a3, .inl (cy 3, 40, .inr (.inr (.inr (.inr (fun _ => none)))))), (a1, .inl (cy 0, 6, .inl (fun _ => 0))), (a2, .inl (cy 0, 6, .inl (fun _ => 0))), (a4, .inl (cy 2, 8, .inr (.inr (.inr (.inr (fun _ => none)))))), (a5, .inl (cy 4, 12, .inr (.inr (.inr (.inr (fun _ => none)))))), (g, .inr (0, [.ref z1, .ref z2, .int 0])), (z1, .inl (cy 0, 8, .inl (fun _ => 0))), (z2, .inl (cy 0, 32, .inl (fun _ => 0)))] H := hP
  have hD : va_D A [(h0, .inr (5, [.ref a3, .ref a1, .ref a2, .ref a4, .ref a5, .ref g, .int 0, .int 0, .int 0, .int 0, .int 0, .int 0])), (a3, .inl (cy 3, 40, .inr (.inr (.inr (.inr (fun _ => none)))))), (a1, .inl (cy 0, 6, .inl (fun _ => 0))), (a2, .inl (cy 0, 6, .inl (fun _ => 0))), (a4, .inl (cy 2, 8, .inr (.inr (.inr (.inr (fun _ => none)))))), (a5, .inl (cy 4, 12, .inr (.inr (.inr (.inr (fun _ => none)))))), (g, .inr (0, [.ref z1, .ref z2, .int 0])), (z1, .inl (cy 0, 8, .inl (fun _ => 0))), (z2, .inl (cy 0, 32, .inl (fun _ => 0)))] := hD
  exact kk g z1 z2 H locs hP hD hS
end XS5B
