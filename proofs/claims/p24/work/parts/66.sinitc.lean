section XS5C
variable {p : Program} {l : Launch} {e : Env} {s : State} {m : MethodId} {args : Array Value} {below : List Frame} {meth : Method} {c : Code} {Q : State → Prop} {D : va_G} {cy : Nat → ClassId} {A : Nat → Prop}
set_option maxHeartbeats 1000000 in
set_option maxRecDepth 100000 in
theorem xs5_c (hx : p.tables.exec = Jvm.exec) (hb : c.code = cX5_init) (hml : c.maxLocals = 2) (hts : ∀ w ∈ wsX5_init, w.before args s = true) (hown : s.vm.findClass RX5 = some m.cls) (hK : swK D cy s) (hNk : swNk RX5 41 yX3_init s) (hNk0 : swNk RX3 11 yX0_init s) {h0 sz : Nat} (hsz : s.heap.size = sz) (hh0 : h0 < sz) (hA0 : A h0) (hA1 : ∀ q, sz ≤ q → A q) (hAi : ∀ q, A q → q = h0 ∨ sz ≤ q)
    (kk : ∀ (ad : Nat → Nat) (H : Heap) (locs : List Loc) (ls : Array Slot), xsI D cy h0 sz 40 0 0 ad H → va_S A s.heap H locs → lv_has ls 2 [(1, .int (nI 40)), (0, .ref h0)] → W p l e (headSpec wsX5_init rmX5_init).room s m args below meth c H locs 168 2035 Q (F0 m 85 ls [])) :
    ∀ (n i : Nat), i + n = 40 → ∀ (ad : Nat → Nat) (H : Heap) (locs : List Loc) (ls : Array Slot), xsI D cy h0 sz i 0 0 ad H → va_S A s.heap H locs → lv_has ls 2 [(1, .int (nI i)), (0, .ref h0)] → W p l e (headSpec wsX5_init rmX5_init).room s m args below meth c H locs (8 + 4 * i) (115 + 48 * i) Q (F0 m 60 ls []) := by
  have hin1 : ∀ w ∈ wsX50, w ∈ wsX5_init := by decide +kernel
  have hin2 : ∀ w ∈ wsX30, w ∈ wsX5_init := by decide +kernel
  have E : CallFix p m c cX5_init 2 s args wsX5_init RX5 := ⟨hx, hb, hml, hown, hts⟩
  have f1 : (Cond.fieldLink RX5 11 "Slidewarden" "versions" "[LSlidewarden$Version;").before args s = true := hts _ (by decide +kernel)
  have f2 : (Cond.classLink RX5 9 RX3).before args s = true := hts _ (by decide +kernel)
  have f3 : (Cond.instantiable RX3 5).before args s = true := hts _ (by decide +kernel)
  have f4 : (Cond.initialized RX3).before args s = true := hts _ (by decide +kernel)
  have f5 : (Cond.instanceMethod yX3_init).before args s = true := hts _ (by decide +kernel)
  have hA : ∀ q, s.heap.size ≤ q → A q := fun q hq => hA1 q (by omega)
  intro n
  induction n with
  | zero =>
    intro i hi ad H locs ls hI hS hl
    obtain rfl : i = 40 := by omega
    refine lv_iload_n hx hb dX5_init_60 rfl (lv_at hl 0 rfl) ?_
    refine lv_bipush (v := 40) hx hb dX5_init_61 (by decide) ?_
    refine lv_icmp_ge (tgt := 85) hx hb dX5_init_63 (by decide) (fun _ => ?_) (fun cc => absurd (by decide) cc)
    exact kk ad H locs ls hI hS hl
  | succ n ih =>
    intro i hi ad H locs ls hI hS hl
    obtain ⟨hP, hJ, had0, hge⟩ := hI
    have hi40 : i < 40 := by omega
    have hN0 : xs_N i 0 0 0 = true := xs_Ni (by unfold xs_Np; omega)
    have hAN : ∀ c, xs_N i 0 0 c = true → A (ad c) := fun c hc => by
      by_cases h : c = 0
      · rw [h, had0]
        exact hA0
      · exact hA1 _ (hge c hc h)
    refine lv_iload_n hx hb dX5_init_60 rfl (lv_at hl 0 rfl) ?_
    refine lv_bipush (v := 40) hx hb dX5_init_61 (by decide) ?_
    refine lv_icmp_ge (tgt := 85) hx hb dX5_init_63 (by decide) (fun cc => absurd ((nI_leI (a := 40) (by omega) (by omega)).mp cc) (by omega)) (fun _ => ?_)
    refine lv_aload_n hx hb dX5_init_66 rfl (lv_at hl 1 rfl) ?_
    rw [← had0]
    refine sw_get hx hb hts hin1 hown hK hP hN0 (show xs_cel i 0 0 cy ad 0 = .inr (5, xw_fs ad (xs_u.1 0)) from rfl) rfl 0 (by decide) f1 rfl dX5_init_67 ?_
    refine lv_iload_n hx hb dX5_init_70 rfl (lv_at hl 0 rfl) ?_
    refine sw_newP (ci := 3) (fs := [.null, .int 0, .int 0, .int 0, .long 0]) (C := RX3) (T := TX3) (n := 5) hx hb hts hin2 tyX3 tyX3_ok hown f2 f3 f4 hK (B := 441) (xs_B (by omega) (by omega) (by omega)) hP hJ hAN hS hA rfl (fun j hj => by rcases (show j = 0 ∨ j = 1 ∨ j = 2 ∨ j = 3 ∨ j = 4 by omega) with rfl | rfl | rfl | rfl | rfl <;> rfl) (by show _ ≤ 188; omega) (by show _ ≤ 2103; omega) dX5_init_71 (fun g H hAg hP hgat hgn hS => ?_)
    have hgs : sz ≤ g := (hAi _ hAg).resolve_left (fun z => hgn 0 hN0 (had0.trans z.symm))
    have hlt : ∀ c, xs_N i 0 0 c = true → ad c < H.size := fun c hc => (hP c hc).lt
    have hH : sz ≤ H.size := by rw [← hsz]; exact hS.1
    have hPc : va_P D vwCl [(g, .inr (3, [.null, .int 0, .int 0, .int 0, .long 0]))] H := fun k q hk => by
      match k, hk with
      | 0, hk => cases hk; exact hgat
    have hgl : g < H.size := (hPc 0 _ rfl).lt
    have hfr : ∀ q : Nat, (q = g ∨ H.size ≤ q) → A q := fun q hq => by
      rcases hq with hq | hq
      · exact hA1 q (by omega)
      · exact hA1 q (by omega)
    refine lv_dup hx hb dX5_init_74 rfl ?_
    refine va_callv (va_runIN (As := []) (rest := [.ref g, .int (nI i), .ref (ad 3)]) E (xm3_init l D cy g H.size (fun q => q = g ∨ H.size ≤ q) (Or.inl rfl) (fun q h => Or.inr h) (fun q h => h)) ⟨va_cnB 0 hts gX5_init_X3_init_n41 rfl rfl rfl hNk f4 (by decide +kernel) ⟨Nat.le_of_ble_eq_true rfl, Nat.le_of_ble_eq_true rfl⟩, rfl, f5⟩ ⟨fun a U g mk q => by obtain ⟨q0, q1, qP, qK, qD, qN⟩ := q; exact ⟨q0, q1, qP, va_K.moved (u := U) (U := U.calling g mk a) (Vm.Alike.refl U.vm) qK, qD, va_Nw.same (u := U) (U := U.calling g mk a) rfl rfl qN⟩, fun U hU hW => ⟨rfl, by rw [hU], by rw [hU]; exact hPc, va_K.moved hW.alike hK, hgl, va_Nw.warmM hW hNk0⟩⟩ rfl rfl hl.1 rfl (lv_room (Nat.le_of_ble_eq_true rfl)) dX5_init_75 ⟨by show _ ≤ 188; omega, by show _ ≤ 2103; omega⟩) hS (fun q _ h => hfr q h) hfr (fun z t H1 locs ht hvm hw hB hz1 hk1 hS => ?_)
    obtain ⟨z1, z2, z3⟩ := z
    obtain ⟨w1, w2, w3, w4, w5, w6⟩ := hw
    have hB : va_P D vwCl [(g, .inr (3, [.ref z1, .int 0, .int (-1), .int (-1), .long 0])), (z1, .inr (0, [.ref z2, .ref z3, .int 0])), (z2, .inl (cy 0, 8, .inl (fun _ => 0))), (z3, .inl (cy 0, 32, .inl (fun _ => 0)))] t.heap := hB
    rw [ht] at hB
    have w1 : z1 ≠ z2 := w1
    have w2 : z1 ≠ z3 := w2
    have w3 : z2 ≠ z3 := w3
    have w4 : H.size ≤ z1 := w4
    have w5 : H.size ≤ z2 := w5
    have w6 : H.size ≤ z3 := w6
    have hP1 : swP D (xs_N i 0 0) ad (xs_cel i 0 0 cy ad) H1 := hP.kept hk1 (fun c hc h => by
      rcases h with h | h
      · exact hgn c hc h
      · have := hlt c hc
        omega)
    obtain ⟨ad2, hP2, hJ2, h02, hge2, eg, ea⟩ := xsI_v hi40 (by omega) (by omega) hP1 hJ had0 hge hB hgn (fun c hc z => by have := hlt c hc; omega) (fun c hc z => by have := hlt c hc; omega) (fun c hc z => by have := hlt c hc; omega) (by omega) (by omega) (by omega) w1 w2 w3 hgs (by omega) (by omega) (by omega)
    have hAN2 : ∀ c, xs_N (i + 1) 0 0 c = true → A (ad2 c) := fun c hc => by
      by_cases h : c = 0
      · rw [h, h02]
        exact hA0
      · exact hA1 _ (hge2 c hc h)
    refine sw_aast hx hb hK (B := 441) (xs_B (by omega) (by omega) (by omega)) hP2 hJ2 hAN2 hS (cd := 3) (cv := 100 + i) (t0 := 3) (ci := 3) (r := (RX3, TX3, 5)) (xs_Ni (by unfold xs_Np; omega)) (xs_Ni (by unfold xs_Np; omega)) ea eg (show xs_cel i 0 0 cy ad2 3 = .inl (cy 3, 40, .inr (.inr (.inr (.inr (xs_r (fun x => ad2 (100 + x)) i))))) from rfl) rfl (xs_cV (by unfold xw_V; omega)) rfl (nI_in hi40 (by decide)) dX5_init_78 (fun H locs hP hS => ?_)
    rw [nI_clamp (by omega), eg] at hP
    have hP : swP D (xs_N (i + 1) 0 0) ad2 (xs_cel (i + 1) 0 0 cy ad2) H := swP.eq hP xs_l3
    refine lv_iinc (v := nI (i + 1)) (lv' := [(1, .int (nI (i + 1))), (0, .ref h0)]) hx hb dX5_init_79 hl (k := 0) rfl (by rw [nI_succ]; rfl) (by decide) rfl (fun ls hl => ?_)
    refine lv_goto (tgt := 60) hx hb dX5_init_82 (by decide) ?_
    have hgo := ih (i + 1) (by omega) ad2 H locs ls ⟨hP, hJ2, h02, hge2⟩ hS hl
    rw [show 8 + 4 * (i + 1) = 8 + 4 * i + 1 + 3 by omega, show 115 + 48 * (i + 1) = 115 + 48 * i + 5 + 43 by omega] at hgo
    exact hgo
set_option maxHeartbeats 1000000 in
set_option maxRecDepth 100000 in
theorem xs5_d (hx : p.tables.exec = Jvm.exec) (hb : c.code = cX5_init) (hml : c.maxLocals = 2) (hts : ∀ w ∈ wsX5_init, w.before args s = true) (hown : s.vm.findClass RX5 = some m.cls) (hK : swK D cy s) (hNk : swNk RX5 42 yX2_init s) {h0 sz : Nat} (hsz : s.heap.size = sz) (hh0 : h0 < sz) (hA0 : A h0) (hA1 : ∀ q, sz ≤ q → A q) (hAi : ∀ q, A q → q = h0 ∨ sz ≤ q)
    (kk : ∀ (ad : Nat → Nat) (H : Heap) (locs : List Loc) (ls : Array Slot), xsI D cy h0 sz 40 8 0 ad H → va_S A s.heap H locs → lv_has ls 2 [(1, .int (nI 8)), (0, .ref h0)] → W p l e (headSpec wsX5_init rmX5_init).room s m args below meth c H locs 176 2067 Q (F0 m 112 ls [])) :
    ∀ (n i : Nat), i + n = 8 → ∀ (ad : Nat → Nat) (H : Heap) (locs : List Loc) (ls : Array Slot), xsI D cy h0 sz 40 i 0 ad H → va_S A s.heap H locs → lv_has ls 2 [(1, .int (nI i)), (0, .ref h0)] → W p l e (headSpec wsX5_init rmX5_init).room s m args below meth c H locs (168 + 1 * i) (2035 + 4 * i) Q (F0 m 87 ls []) := by
  have hin1 : ∀ w ∈ wsX50, w ∈ wsX5_init := by decide +kernel
  have hin2 : ∀ w ∈ wsX20, w ∈ wsX5_init := by decide +kernel
  have E : CallFix p m c cX5_init 2 s args wsX5_init RX5 := ⟨hx, hb, hml, hown, hts⟩
  have f1 : (Cond.fieldLink RX5 24 "Slidewarden" "rules" "[LSlidewarden$Rule;").before args s = true := hts _ (by decide +kernel)
  have f2 : (Cond.classLink RX5 22 RX2).before args s = true := hts _ (by decide +kernel)
  have f3 : (Cond.instantiable RX2 4).before args s = true := hts _ (by decide +kernel)
  have f4 : (Cond.initialized RX2).before args s = true := hts _ (by decide +kernel)
  have f5 : (Cond.instanceMethod yX2_init).before args s = true := hts _ (by decide +kernel)
  have hA : ∀ q, s.heap.size ≤ q → A q := fun q hq => hA1 q (by omega)
  intro n
  induction n with
  | zero =>
    intro i hi ad H locs ls hI hS hl
    obtain rfl : i = 8 := by omega
    refine lv_iload_n hx hb dX5_init_87 rfl (lv_at hl 0 rfl) ?_
    refine lv_bipush (v := 8) hx hb dX5_init_88 (by decide) ?_
    refine lv_icmp_ge (tgt := 112) hx hb dX5_init_90 (by decide) (fun _ => ?_) (fun cc => absurd (by decide) cc)
    exact kk ad H locs ls hI hS hl
  | succ n ih =>
    intro i hi ad H locs ls hI hS hl
    obtain ⟨hP, hJ, had0, hge⟩ := hI
    have hi40 : i < 8 := by omega
    have hN0 : xs_N 40 i 0 0 = true := xs_Ni (by unfold xs_Np; omega)
    have hAN : ∀ c, xs_N 40 i 0 c = true → A (ad c) := fun c hc => by
      by_cases h : c = 0
      · rw [h, had0]
        exact hA0
      · exact hA1 _ (hge c hc h)
    refine lv_iload_n hx hb dX5_init_87 rfl (lv_at hl 0 rfl) ?_
    refine lv_bipush (v := 8) hx hb dX5_init_88 (by decide) ?_
    refine lv_icmp_ge (tgt := 112) hx hb dX5_init_90 (by decide) (fun cc => absurd ((nI_leI (a := 8) (by omega) (by omega)).mp cc) (by omega)) (fun _ => ?_)
    refine lv_aload_n hx hb dX5_init_93 rfl (lv_at hl 1 rfl) ?_
    rw [← had0]
    refine sw_get hx hb hts hin1 hown hK hP hN0 (show xs_cel 40 i 0 cy ad 0 = .inr (5, xw_fs ad (xs_u.1 0)) from rfl) rfl 3 (by decide) f1 rfl dX5_init_94 ?_
    refine lv_iload_n hx hb dX5_init_97 rfl (lv_at hl 0 rfl) ?_
    refine sw_newP (ci := 2) (fs := [.int 0, .int 0, .int 0, .int 0]) (C := RX2) (T := TX2) (n := 4) hx hb hts hin2 tyX2 tyX2_ok hown f2 f3 f4 hK (B := 441) (xs_B (by omega) (by omega) (by omega)) hP hJ hAN hS hA rfl (fun j hj => by rcases (show j = 0 ∨ j = 1 ∨ j = 2 ∨ j = 3 by omega) with rfl | rfl | rfl | rfl <;> rfl) (by show _ ≤ 188; omega) (by show _ ≤ 2103; omega) dX5_init_98 (fun g H hAg hP hgat hgn hS => ?_)
    have hgs : sz ≤ g := (hAi _ hAg).resolve_left (fun z => hgn 0 hN0 (had0.trans z.symm))
    have hlt : ∀ c, xs_N 40 i 0 c = true → ad c < H.size := fun c hc => (hP c hc).lt
    have hH : sz ≤ H.size := by rw [← hsz]; exact hS.1
    have hPc : va_P D vwCl [(g, .inr (2, [.int 0, .int 0, .int 0, .int 0]))] H := fun k q hk => by
      match k, hk with
      | 0, hk => cases hk; exact hgat
    have hgl : g < H.size := (hPc 0 _ rfl).lt
    have hfr : ∀ q : Nat, (q = g ∨ H.size ≤ q) → A q := fun q hq => by
      rcases hq with hq | hq
      · exact hA1 q (by omega)
      · exact hA1 q (by omega)
    refine lv_dup hx hb dX5_init_101 rfl ?_
    refine va_callv (va_runIN (As := []) (rest := [.ref g, .int (nI i), .ref (ad 4)]) E (xm2_init l D cy g H.size) ⟨va_cnB 0 hts gX5_init_X2_init_n42 rfl rfl rfl hNk f4 (by decide +kernel) ⟨Nat.le_of_ble_eq_true rfl, Nat.le_of_ble_eq_true rfl⟩, rfl, f5⟩ ⟨fun a U g mk q => by obtain ⟨q0, q1, qP, qK⟩ := q; exact ⟨q0, q1, qP, va_K.moved (u := U) (U := U.calling g mk a) (Vm.Alike.refl U.vm) qK⟩, fun U hU hW => ⟨rfl, by rw [hU], by rw [hU]; exact hPc, va_K.moved hW.alike hK⟩⟩ rfl rfl hl.1 rfl (lv_room (Nat.le_of_ble_eq_true rfl)) dX5_init_102 ⟨by show _ ≤ 188; omega, by show _ ≤ 2103; omega⟩) hS (fun q _ h => hfr q h) hfr (fun z t H1 locs ht hvm hw hB hz1 hk1 hS => ?_)
    have hB : va_P D vwCl [(g, .inr (2, [.int 0, .int 0, .int 0, .int 0]))] t.heap := hB
    rw [ht] at hB
    have hP1 : swP D (xs_N 40 i 0) ad (xs_cel 40 i 0 cy ad) H1 := hP.kept hk1 (fun c hc h => by
      rcases h with h | h
      · exact hgn c hc h
      · have := hlt c hc
        omega)
    obtain ⟨ad2, hP2, hJ2, h02, hge2, eg, ea⟩ := xsI_r (by omega) hi40 (by omega) hP1 hJ had0 hge hB hgn hgs
    have hAN2 : ∀ c, xs_N 40 (i + 1) 0 c = true → A (ad2 c) := fun c hc => by
      by_cases h : c = 0
      · rw [h, h02]
        exact hA0
      · exact hA1 _ (hge2 c hc h)
    refine sw_aast hx hb hK (B := 441) (xs_B (by omega) (by omega) (by omega)) hP2 hJ2 hAN2 hS (cd := 4) (cv := 10 + i) (t0 := 2) (ci := 2) (r := (RX2, TX2, 4)) (xs_Ni (by unfold xs_Np; omega)) (xs_Ni (by unfold xs_Np; omega)) ea eg (show xs_cel 40 i 0 cy ad2 4 = .inl (cy 2, 8, .inr (.inr (.inr (.inr (xs_r (fun x => ad2 (10 + x)) i))))) from rfl) rfl (xs_cR (by unfold xw_R; omega)) rfl (nI_in hi40 (by decide)) dX5_init_105 (fun H locs hP hS => ?_)
    rw [nI_clamp (by omega), eg] at hP
    have hP : swP D (xs_N 40 (i + 1) 0) ad2 (xs_cel 40 (i + 1) 0 cy ad2) H := swP.eq hP xs_l4
    refine lv_iinc (v := nI (i + 1)) (lv' := [(1, .int (nI (i + 1))), (0, .ref h0)]) hx hb dX5_init_106 hl (k := 0) rfl (by rw [nI_succ]; rfl) (by decide) rfl (fun ls hl => ?_)
    refine lv_goto (tgt := 87) hx hb dX5_init_109 (by decide) ?_
    have hgo := ih (i + 1) (by omega) ad2 H locs ls ⟨hP, hJ2, h02, hge2⟩ hS hl
    rw [show 168 + 1 * (i + 1) = 168 + 1 * i + 1 + 0 by omega, show 2035 + 4 * (i + 1) = 2035 + 4 * i + 4 + 0 by omega] at hgo
    exact hgo
set_option maxHeartbeats 1000000 in
set_option maxRecDepth 100000 in
theorem xs5_e (hx : p.tables.exec = Jvm.exec) (hb : c.code = cX5_init) (hml : c.maxLocals = 2) (hts : ∀ w ∈ wsX5_init, w.before args s = true) (hown : s.vm.findClass RX5 = some m.cls) (hK : swK D cy s) (hNk : swNk RX5 43 yX4_init s) {h0 sz : Nat} (hsz : s.heap.size = sz) (hh0 : h0 < sz) (hA0 : A h0) (hA1 : ∀ q, sz ≤ q → A q) (hAi : ∀ q, A q → q = h0 ∨ sz ≤ q)
    (kk : ∀ (ad : Nat → Nat) (H : Heap) (locs : List Loc) (ls : Array Slot), xsI D cy h0 sz 40 8 12 ad H → va_S A s.heap H locs → lv_has ls 2 [(1, .int (nI 12)), (0, .ref h0)] → W p l e (headSpec wsX5_init rmX5_init).room s m args below meth c H locs 188 2103 Q (F0 m 139 ls [])) :
    ∀ (n i : Nat), i + n = 12 → ∀ (ad : Nat → Nat) (H : Heap) (locs : List Loc) (ls : Array Slot), xsI D cy h0 sz 40 8 i ad H → va_S A s.heap H locs → lv_has ls 2 [(1, .int (nI i)), (0, .ref h0)] → W p l e (headSpec wsX5_init rmX5_init).room s m args below meth c H locs (176 + 1 * i) (2067 + 3 * i) Q (F0 m 114 ls []) := by
  have hin1 : ∀ w ∈ wsX50, w ∈ wsX5_init := by decide +kernel
  have hin2 : ∀ w ∈ wsX40, w ∈ wsX5_init := by decide +kernel
  have E : CallFix p m c cX5_init 2 s args wsX5_init RX5 := ⟨hx, hb, hml, hown, hts⟩
  have f1 : (Cond.fieldLink RX5 30 "Slidewarden" "waivers" "[LSlidewarden$Waiver;").before args s = true := hts _ (by decide +kernel)
  have f2 : (Cond.classLink RX5 28 RX4).before args s = true := hts _ (by decide +kernel)
  have f3 : (Cond.instantiable RX4 3).before args s = true := hts _ (by decide +kernel)
  have f4 : (Cond.initialized RX4).before args s = true := hts _ (by decide +kernel)
  have f5 : (Cond.instanceMethod yX4_init).before args s = true := hts _ (by decide +kernel)
  have hA : ∀ q, s.heap.size ≤ q → A q := fun q hq => hA1 q (by omega)
  intro n
  induction n with
  | zero =>
    intro i hi ad H locs ls hI hS hl
    obtain rfl : i = 12 := by omega
    refine lv_iload_n hx hb dX5_init_114 rfl (lv_at hl 0 rfl) ?_
    refine lv_bipush (v := 12) hx hb dX5_init_115 (by decide) ?_
    refine lv_icmp_ge (tgt := 139) hx hb dX5_init_117 (by decide) (fun _ => ?_) (fun cc => absurd (by decide) cc)
    exact kk ad H locs ls hI hS hl
  | succ n ih =>
    intro i hi ad H locs ls hI hS hl
    obtain ⟨hP, hJ, had0, hge⟩ := hI
    have hi40 : i < 12 := by omega
    have hN0 : xs_N 40 8 i 0 = true := xs_Ni (by unfold xs_Np; omega)
    have hAN : ∀ c, xs_N 40 8 i c = true → A (ad c) := fun c hc => by
      by_cases h : c = 0
      · rw [h, had0]
        exact hA0
      · exact hA1 _ (hge c hc h)
    refine lv_iload_n hx hb dX5_init_114 rfl (lv_at hl 0 rfl) ?_
    refine lv_bipush (v := 12) hx hb dX5_init_115 (by decide) ?_
    refine lv_icmp_ge (tgt := 139) hx hb dX5_init_117 (by decide) (fun cc => absurd ((nI_leI (a := 12) (by omega) (by omega)).mp cc) (by omega)) (fun _ => ?_)
    refine lv_aload_n hx hb dX5_init_120 rfl (lv_at hl 1 rfl) ?_
    rw [← had0]
    refine sw_get hx hb hts hin1 hown hK hP hN0 (show xs_cel 40 8 i cy ad 0 = .inr (5, xw_fs ad (xs_u.1 0)) from rfl) rfl 4 (by decide) f1 rfl dX5_init_121 ?_
    refine lv_iload_n hx hb dX5_init_124 rfl (lv_at hl 0 rfl) ?_
    refine sw_newP (ci := 4) (fs := [.int 0, .int 0, .int 0]) (C := RX4) (T := TX4) (n := 3) hx hb hts hin2 tyX4 tyX4_ok hown f2 f3 f4 hK (B := 441) (xs_B (by omega) (by omega) (by omega)) hP hJ hAN hS hA rfl (fun j hj => by rcases (show j = 0 ∨ j = 1 ∨ j = 2 by omega) with rfl | rfl | rfl <;> rfl) (by show _ ≤ 188; omega) (by show _ ≤ 2103; omega) dX5_init_125 (fun g H hAg hP hgat hgn hS => ?_)
    have hgs : sz ≤ g := (hAi _ hAg).resolve_left (fun z => hgn 0 hN0 (had0.trans z.symm))
    have hlt : ∀ c, xs_N 40 8 i c = true → ad c < H.size := fun c hc => (hP c hc).lt
    have hH : sz ≤ H.size := by rw [← hsz]; exact hS.1
    have hPc : va_P D vwCl [(g, .inr (4, [.int 0, .int 0, .int 0]))] H := fun k q hk => by
      match k, hk with
      | 0, hk => cases hk; exact hgat
    have hgl : g < H.size := (hPc 0 _ rfl).lt
    have hfr : ∀ q : Nat, (q = g ∨ H.size ≤ q) → A q := fun q hq => by
      rcases hq with hq | hq
      · exact hA1 q (by omega)
      · exact hA1 q (by omega)
    refine lv_dup hx hb dX5_init_128 rfl ?_
    refine va_callv (va_runIN (As := []) (rest := [.ref g, .int (nI i), .ref (ad 5)]) E (xm4_init l D cy g H.size) ⟨va_cnB 0 hts gX5_init_X4_init_n43 rfl rfl rfl hNk f4 (by decide +kernel) ⟨Nat.le_of_ble_eq_true rfl, Nat.le_of_ble_eq_true rfl⟩, rfl, f5⟩ ⟨fun a U g mk q => by obtain ⟨q0, q1, qP, qK⟩ := q; exact ⟨q0, q1, qP, va_K.moved (u := U) (U := U.calling g mk a) (Vm.Alike.refl U.vm) qK⟩, fun U hU hW => ⟨rfl, by rw [hU], by rw [hU]; exact hPc, va_K.moved hW.alike hK⟩⟩ rfl rfl hl.1 rfl (lv_room (Nat.le_of_ble_eq_true rfl)) dX5_init_129 ⟨by show _ ≤ 188; omega, by show _ ≤ 2103; omega⟩) hS (fun q _ h => hfr q h) hfr (fun z t H1 locs ht hvm hw hB hz1 hk1 hS => ?_)
    have hB : va_P D vwCl [(g, .inr (4, [.int 0, .int 0, .int 0]))] t.heap := hB
    rw [ht] at hB
    have hP1 : swP D (xs_N 40 8 i) ad (xs_cel 40 8 i cy ad) H1 := hP.kept hk1 (fun c hc h => by
      rcases h with h | h
      · exact hgn c hc h
      · have := hlt c hc
        omega)
    obtain ⟨ad2, hP2, hJ2, h02, hge2, eg, ea⟩ := xsI_y (by omega) (by omega) hi40 hP1 hJ had0 hge hB hgn hgs
    have hAN2 : ∀ c, xs_N 40 8 (i + 1) c = true → A (ad2 c) := fun c hc => by
      by_cases h : c = 0
      · rw [h, h02]
        exact hA0
      · exact hA1 _ (hge2 c hc h)
    refine sw_aast hx hb hK (B := 441) (xs_B (by omega) (by omega) (by omega)) hP2 hJ2 hAN2 hS (cd := 5) (cv := 20 + i) (t0 := 4) (ci := 4) (r := (RX4, TX4, 3)) (xs_Ni (by unfold xs_Np; omega)) (xs_Ni (by unfold xs_Np; omega)) ea eg (show xs_cel 40 8 i cy ad2 5 = .inl (cy 4, 12, .inr (.inr (.inr (.inr (xs_r (fun x => ad2 (20 + x)) i))))) from rfl) rfl (xs_cY (by unfold xw_Y; omega)) rfl (nI_in hi40 (by decide)) dX5_init_132 (fun H locs hP hS => ?_)
    rw [nI_clamp (by omega), eg] at hP
    have hP : swP D (xs_N 40 8 (i + 1)) ad2 (xs_cel 40 8 (i + 1) cy ad2) H := swP.eq hP xs_l5
    refine lv_iinc (v := nI (i + 1)) (lv' := [(1, .int (nI (i + 1))), (0, .ref h0)]) hx hb dX5_init_133 hl (k := 0) rfl (by rw [nI_succ]; rfl) (by decide) rfl (fun ls hl => ?_)
    refine lv_goto (tgt := 114) hx hb dX5_init_136 (by decide) ?_
    have hgo := ih (i + 1) (by omega) ad2 H locs ls ⟨hP, hJ2, h02, hge2⟩ hS hl
    rw [show 176 + 1 * (i + 1) = 176 + 1 * i + 1 + 0 by omega, show 2067 + 3 * (i + 1) = 2067 + 3 * i + 3 + 0 by omega] at hgo
    exact hgo
end XS5C
