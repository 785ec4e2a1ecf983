def xs_ad (h0 a1 a2 a3 a4 a5 g z1 z2 : Nat) (c : Nat) : Nat := if c = 240 then g else if c = 340 then z1 else if c = 440 then z2 else ([h0, a1, a2, a3, a4, a5] : List Nat).getD c 0
theorem xsI_0 {D : va_G} {cy : Nat → ClassId} {A : Nat → Prop} {h0 sz a1 a2 a3 a4 a5 g z1 z2 : Nat} {H : Heap} (hAi : ∀ q, A q → q = h0 ∨ sz ≤ q) (hP : va_P D vwCl [(h0, .inr (5, [.ref a3, .ref a1, .ref a2, .ref a4, .ref a5, .ref g, .int 0, .int 0, .int 0, .int 0, .int 0, .int 0])), (a3, .inl (cy 3, 40, .inr (.inr (.inr (.inr (fun _ => none)))))), (a1, .inl (cy 0, 6, .inl (fun _ => 0))), (a2, .inl (cy 0, 6, .inl (fun _ => 0))), (a4, .inl (cy 2, 8, .inr (.inr (.inr (.inr (fun _ => none)))))), (a5, .inl (cy 4, 12, .inr (.inr (.inr (.inr (fun _ => none)))))), (g, .inr (0, [.ref z1, .ref z2, .int 0])), (z1, .inl (cy 0, 8, .inl (fun _ => 0))), (z2, .inl (cy 0, 32, .inl (fun _ => 0)))] H) (hD : va_D A [(h0, .inr (5, [.ref a3, .ref a1, .ref a2, .ref a4, .ref a5, .ref g, .int 0, .int 0, .int 0, .int 0, .int 0, .int 0])), (a3, .inl (cy 3, 40, .inr (.inr (.inr (.inr (fun _ => none)))))), (a1, .inl (cy 0, 6, .inl (fun _ => 0))), (a2, .inl (cy 0, 6, .inl (fun _ => 0))), (a4, .inl (cy 2, 8, .inr (.inr (.inr (.inr (fun _ => none)))))), (a5, .inl (cy 4, 12, .inr (.inr (.inr (.inr (fun _ => none)))))), (g, .inr (0, [.ref z1, .ref z2, .int 0])), (z1, .inl (cy 0, 8, .inl (fun _ => 0))), (z2, .inl (cy 0, 32, .inl (fun _ => 0)))]) : xsI D cy h0 sz 0 0 0 (xs_ad h0 a1 a2 a3 a4 a5 g z1 z2) H := by
  have hcs : ∀ c, xs_N 0 0 0 c = true → c = 0 ∨ c = 3 ∨ c = 1 ∨ c = 2 ∨ c = 4 ∨ c = 5 ∨ c = 240 ∨ c = 340 ∨ c = 440 := fun c hc => by
    have h := xs_Nm hc
    unfold xs_Np at h
    omega
  have hpq : ∀ c, xs_N 0 0 0 c = true → ∃ (k : Nat) (e9 : va_E), ([0, 3, 1, 2, 4, 5, 240, 340, 440] : List Nat)[k]? = some c ∧ ([(h0, .inr (5, [.ref a3, .ref a1, .ref a2, .ref a4, .ref a5, .ref g, .int 0, .int 0, .int 0, .int 0, .int 0, .int 0])), (a3, .inl (cy 3, 40, .inr (.inr (.inr (.inr (fun _ => none)))))), (a1, .inl (cy 0, 6, .inl (fun _ => 0))), (a2, .inl (cy 0, 6, .inl (fun _ => 0))), (a4, .inl (cy 2, 8, .inr (.inr (.inr (.inr (fun _ => none)))))), (a5, .inl (cy 4, 12, .inr (.inr (.inr (.inr (fun _ => none)))))), (g, .inr (0, [.ref z1, .ref z2, .int 0])), (z1, .inl (cy 0, 8, .inl (fun _ => 0))), (z2, .inl (cy 0, 32, .inl (fun _ => 0)))] : va_W)[k]? = some (xs_ad h0 a1 a2 a3 a4 a5 g z1 z2 c, e9) := by
    intro c hc
    rcases hcs c hc with rfl | rfl | rfl | rfl | rfl | rfl | rfl | rfl | rfl
    · exact ⟨0, _, rfl, rfl⟩
    · exact ⟨1, _, rfl, rfl⟩
    · exact ⟨2, _, rfl, rfl⟩
    · exact ⟨3, _, rfl, rfl⟩
    · exact ⟨4, _, rfl, rfl⟩
    · exact ⟨5, _, rfl, rfl⟩
    · exact ⟨6, _, rfl, rfl⟩
    · exact ⟨7, _, rfl, rfl⟩
    · exact ⟨8, _, rfl, rfl⟩
  have hJ : swJ (xs_N 0 0 0) (xs_ad h0 a1 a2 a3 a4 a5 g z1 z2) := by
    intro c d hc hd he
    obtain ⟨i, e1, p1, q1⟩ := hpq c hc
    obtain ⟨j, e2, p2, q2⟩ := hpq d hd
    have hij := hD.1 i j _ _ q1 q2 he
    subst hij
    exact Option.some.inj (p1.symm.trans p2)
  refine ⟨?_, hJ, rfl, ?_⟩
  · intro c hc
    rcases hcs c hc with rfl | rfl | rfl | rfl | rfl | rfl | rfl | rfl | rfl
    · exact hP 0 _ rfl
    · show va_at D vwCl (a3, .inl (cy 3, 40, .inr (.inr (.inr (.inr (xs_r (fun x => xs_ad h0 a1 a2 a3 a4 a5 g z1 z2 (100 + x)) 0)))))) H
      exact va_at.congr (hP 1 _ rfl) (fun j _ => if_neg (by omega))
    · exact hP 2 _ rfl
    · exact hP 3 _ rfl
    · show va_at D vwCl (a4, .inl (cy 2, 8, .inr (.inr (.inr (.inr (xs_r (fun x => xs_ad h0 a1 a2 a3 a4 a5 g z1 z2 (10 + x)) 0)))))) H
      exact va_at.congr (hP 4 _ rfl) (fun j _ => if_neg (by omega))
    · show va_at D vwCl (a5, .inl (cy 4, 12, .inr (.inr (.inr (.inr (xs_r (fun x => xs_ad h0 a1 a2 a3 a4 a5 g z1 z2 (20 + x)) 0)))))) H
      exact va_at.congr (hP 5 _ rfl) (fun j _ => if_neg (by omega))
    · exact hP 6 _ rfl
    · exact hP 7 _ rfl
    · exact hP 8 _ rfl
  · intro c hc h0c
    obtain ⟨i, e1, p1, q1⟩ := hpq c hc
    exact (hAi _ (hD.2 i _ q1)).resolve_left (fun z => h0c (hJ c 0 hc rfl z))
theorem xsI_end {D : va_G} {cy : Nat → ClassId} {h0 sz : Nat} {ad : Nat → Nat} {H : Heap} (h : xsI D cy h0 sz 40 8 12 ad H) : xwP D cy ad xs_u H ∧ swJ xw_N ad ∧ ad 0 = h0 ∧ ∀ c, xw_N c = true → c ≠ 0 → sz ≤ ad c := by
  obtain ⟨hP, hJ, h00, hge⟩ := h
  have hN : ∀ c, xw_N c = true → xs_N 40 8 12 c = true := fun c hc => by
    have h := of_decide_eq_true hc
    exact xs_Ni (by unfold xs_Np; omega)
  refine ⟨fun c hc => ?_, hJ.to hN, h00, fun c hc => hge c (hN c hc)⟩
  have h1 := hP c (hN c hc)
  by_cases c3 : c = 3
  · subst c3
    show va_at D vwCl (ad 3, .inl (cy 3, 40, .inr (.inr (.inr (.inr (fun j => some (ad (100 + j)))))))) H
    exact va_at.congr (f := xs_r (fun x => ad (100 + x)) 40) h1 (fun j hj => (if_pos hj).symm)
  by_cases c4 : c = 4
  · subst c4
    show va_at D vwCl (ad 4, .inl (cy 2, 8, .inr (.inr (.inr (.inr (fun j => some (ad (10 + j)))))))) H
    exact va_at.congr (f := xs_r (fun x => ad (10 + x)) 8) h1 (fun j hj => (if_pos hj).symm)
  by_cases c5 : c = 5
  · subst c5
    show va_at D vwCl (ad 5, .inl (cy 4, 12, .inr (.inr (.inr (.inr (fun j => some (ad (20 + j)))))))) H
    exact va_at.congr (f := xs_r (fun x => ad (20 + x)) 12) h1 (fun j hj => (if_pos hj).symm)
  have e : xs_cel 40 8 12 cy ad c = xw_cel cy ad xs_u c := by
    unfold xs_cel
    rw [if_neg c3, if_neg c4, if_neg c5]
  rw [← e]
  exact h1
theorem swcI_0 : swcI (swI (swI (swL (swI (swI (swI (swI (swI (swI xs_u 2 0 (-1)) 2 1 (-1)) 2 2 (-1)) 2 3 (-1)) 2 4 (-1)) 2 5 (-1)) 100 1) 0 6 1) 0 7 1) := by
  refine ⟨rfl, rfl, rfl, rfl, rfl, rfl, rfl, fun b hb => ?_, rfl, rfl, rfl, rfl, rfl⟩
  obtain rfl | rfl | rfl | rfl | rfl | rfl : b = 0 ∨ b = 1 ∨ b = 2 ∨ b = 3 ∨ b = 4 ∨ b = 5 := by omega
  all_goals rfl
set_option maxHeartbeats 2000000 in
set_option maxRecDepth 100000 in
theorem xm5_init (l : Launch) (D : va_G) (cy : Nat → ClassId) (h0 sz : Nat) (A : Nat → Prop) (hA0 : A h0) (hA1 : ∀ q, sz ≤ q → A q) (hAi : ∀ q, A q → q = h0 ∨ sz ≤ q) : Met l yX5_init wsX5_init rmX5_init (va_Pc [.ref h0] (fun U => U.heap.size = sz ∧ va_P D vwCl [(h0, .inr (5, [.null, .null, .null, .null, .null, .null, .int 0, .int 0, .int 0, .int 0, .int 0, .int 0]))] U.heap ∧ swK D cy U ∧ h0 < sz ∧ va_AO "Slidewarden$Version" U ∧ va_AO "Slidewarden$Rule" U ∧ va_AO "Slidewarden$Waiver" U ∧ swNk RX5 36 yX0_init U ∧ swNk RX5 41 yX3_init U ∧ swNk RX5 42 yX2_init U ∧ swNk RX5 43 yX4_init U ∧ swNk RX3 11 yX0_init U)) (va_Qv (fun z : (Nat → Nat) × swU => swcI z.2 ∧ swJ xw_N z.1 ∧ z.1 0 = h0 ∧ ∀ c, xw_N c = true → c ≠ 0 → sz ≤ z.1 c) (fun z t => xwP D cy z.1 z.2 t.heap) A) 188 2103 A := by
  refine Met.ofW (cc := cX5_init) (maxL := 2) (ret := none) (by decide) rfl ?_
  intro p e s m args below meth c s₁ B hml hv
  obtain ⟨ha, hsz, hP, hK, hh0, ho3, ho2, ho4, n36, n41, n42, n43, n11⟩ := hv
  have hx := B.exec
  have hb := B.bytes
  have hr := B.returns
  have hlocks := B.notSynchronized
  have hts := atoms_spec (ws := wsX5_init) B.pre
  have hown : s.vm.findClass RX5 = some m.cls := findClass_of_methodNamed B.named
  have hin : meth.name = "<init>" := (name_of_methodNamed B.named B.method).1
  have hin1 : ∀ w ∈ wsX50, w ∈ wsX5_init := by decide +kernel
  have hin3 : ∀ w ∈ wsX30, w ∈ wsX5_init := by decide +kernel
  have hA : ∀ q, s.heap.size ≤ q → A q := fun q hq => hA1 q (by omega)
  have hD : va_D A [(h0, .inr (5, [.null, .null, .null, .null, .null, .null, .int 0, .int 0, .int 0, .int 0, .int 0, .int 0]))] := ⟨fun i j x y hi hj _ => by
    have h1 := (List.getElem?_eq_some_iff.mp hi).1
    have h2 := (List.getElem?_eq_some_iff.mp hj).1
    simp only [List.length_cons, List.length_nil] at h1 h2
    omega, fun k q hk => by
    match k, hk with
    | 0, hk => cases hk; exact hA0⟩
  have hS : va_S A s.heap s.heap [] := va_S.rf
  obtain ⟨ls, hl, hent⟩ := sw_entry m (n := 2) ha (Nat.le_of_ble_eq_true rfl)
  rw [hent]
  have hl : lv_has ls 2 [(0, .ref h0)] := hl
  refine lv_aload_n hx hb dX5_init_0 rfl (lv_at hl 0 rfl) ?_
  refine W.objInit hx hb hown (hts (.methodLink RX5 1 objectInit) (by decide +kernel)) (hts (.instanceMethod objectInit) (by decide +kernel)) (hts (.code objectInit ⟨#[0xb1]⟩ 1 none) (by decide +kernel)) rfl (by rw [hml]; exact hl.1) rfl dX5_init_1 (Nat.le_of_ble_eq_true rfl) (Nat.le_of_ble_eq_true rfl) ?_
  refine W.eq (g2 := F0 m 4 ls []) rfl ?_
  refine xs5_a hx hb hts hown hin hK ho3 ho2 ho4 hP hD hS hA hl (fun a1 a2 a3 a4 a5 H locs hP hD hS => ?_)
  refine xs5_b hx hb hml hts hown hin hK n36 hP hD hS hA hl (fun g z1 z2 H locs hP hD hS => ?_)
  have hI := xsI_0 hAi hP hD
  generalize xs_ad h0 a1 a2 a3 a4 a5 g z1 z2 = ad at hI
  clear hP hD
  refine lv_iconst (v := 0) hx hb dX5_init_58 (by decide) ?_
  refine lv_istore_n (lv' := [(1, .int (nI 0)), (0, .ref h0)]) hx hb dX5_init_59 rfl hl (by decide) rfl (fun ls hl => ?_)
  refine xs5_c hx hb hml hts hown hK n41 n11 hsz hh0 hA0 hA1 hAi (fun ad H locs ls hI hS hl => ?_) 40 0 rfl ad H locs ls hI hS hl
  refine lv_iconst (v := 0) hx hb dX5_init_85 (by decide) ?_
  refine lv_istore_n (lv' := [(1, .int (nI 0)), (0, .ref h0)]) hx hb dX5_init_86 rfl hl (by decide) rfl (fun ls hl => ?_)
  refine xs5_d hx hb hml hts hown hK n42 hsz hh0 hA0 hA1 hAi (fun ad H locs ls hI hS hl => ?_) 8 0 rfl ad H locs ls hI hS hl
  refine lv_iconst (v := 0) hx hb dX5_init_112 (by decide) ?_
  refine lv_istore_n (lv' := [(1, .int (nI 0)), (0, .ref h0)]) hx hb dX5_init_113 rfl hl (by decide) rfl (fun ls hl => ?_)
  refine xs5_e hx hb hml hts hown hK n43 hsz hh0 hA0 hA1 hAi (fun ad H locs ls hI hS hl => ?_) 12 0 rfl ad H locs ls hI hS hl
  obtain ⟨hP, hJ, had0, hge⟩ := xsI_end hI
  clear hI
  have hAN : ∀ c, xw_N c = true → A (ad c) := fun c hc => by
    by_cases h : c = 0
    · rw [h, had0]
      exact hA0
    · exact hA1 _ (hge c hc h)
  have f11 : (Cond.fieldLink RX5 11 "Slidewarden" "versions" "[LSlidewarden$Version;").before args s = true := hts _ (by decide +kernel)
  have f19 : (Cond.fieldLink RX5 19 "Slidewarden" "shownVersions" "[I").before args s = true := hts _ (by decide +kernel)
  have f44 : (Cond.fieldLink RX5 44 "Slidewarden$Version" "ancestors" "J").before args s = true := hts _ (by decide +kernel)
  have f48 : (Cond.fieldLink RX5 48 "Slidewarden" "versionCount" "I").before args s = true := hts _ (by decide +kernel)
  have f52 : (Cond.fieldLink RX5 52 "Slidewarden" "branchCount" "I").before args s = true := hts _ (by decide +kernel)
  refine lv_iconst (v := 0) hx hb dX5_init_139 (by decide) ?_
  refine lv_istore_n (lv' := [(1, .int 0), (0, .ref h0)]) hx hb dX5_init_140 rfl hl (by decide) rfl (fun ls hl => ?_)
  rw [← had0] at hl
  refine lv_iload_n hx hb dX5_init_141 rfl (lv_at hl 0 rfl) ?_
  refine lv_bipush (v := 6) hx hb dX5_init_142 (by decide) ?_
  refine lv_icmp_ge (tgt := 160) hx hb dX5_init_144 (by decide) (fun cc => absurd cc (by decide)) (fun _ => ?_)
  refine lv_aload_n hx hb dX5_init_147 rfl (lv_at hl 1 rfl) ?_
  refine xw_getO hx hb hts hin1 hown hK hP 2 (by decide) f19 rfl dX5_init_148 ?_
  refine lv_iload_n hx hb dX5_init_151 rfl (lv_at hl 0 rfl) ?_
  refine lv_iconst (v := (-1)) hx hb dX5_init_152 (by decide) ?_
  refine xw_ast hx hb hK hJ hAN hP hS (cd := 2) (n := 6) (by decide) (fun _ => rfl) (swix_s (by decide)) rfl dX5_init_153 (fun H locs hP hS => ?_)
  refine lv_iinc (v := 1) (lv' := [(1, .int 1), (0, .ref (ad 0))]) hx hb dX5_init_154 hl (k := 0) rfl rfl (by decide) rfl (fun ls hl => ?_)
  refine lv_goto (tgt := 141) hx hb dX5_init_157 (by decide) ?_
  refine lv_iload_n hx hb dX5_init_141 rfl (lv_at hl 0 rfl) ?_
  refine lv_bipush (v := 6) hx hb dX5_init_142 (by decide) ?_
  refine lv_icmp_ge (tgt := 160) hx hb dX5_init_144 (by decide) (fun cc => absurd cc (by decide)) (fun _ => ?_)
  refine lv_aload_n hx hb dX5_init_147 rfl (lv_at hl 1 rfl) ?_
  refine xw_getO hx hb hts hin1 hown hK hP 2 (by decide) f19 rfl dX5_init_148 ?_
  refine lv_iload_n hx hb dX5_init_151 rfl (lv_at hl 0 rfl) ?_
  refine lv_iconst (v := (-1)) hx hb dX5_init_152 (by decide) ?_
  refine xw_ast hx hb hK hJ hAN hP hS (cd := 2) (n := 6) (by decide) (fun _ => rfl) (swix_s (by decide)) rfl dX5_init_153 (fun H locs hP hS => ?_)
  refine lv_iinc (v := 2) (lv' := [(1, .int 2), (0, .ref (ad 0))]) hx hb dX5_init_154 hl (k := 0) rfl rfl (by decide) rfl (fun ls hl => ?_)
  refine lv_goto (tgt := 141) hx hb dX5_init_157 (by decide) ?_
  refine lv_iload_n hx hb dX5_init_141 rfl (lv_at hl 0 rfl) ?_
  refine lv_bipush (v := 6) hx hb dX5_init_142 (by decide) ?_
  refine lv_icmp_ge (tgt := 160) hx hb dX5_init_144 (by decide) (fun cc => absurd cc (by decide)) (fun _ => ?_)
  refine lv_aload_n hx hb dX5_init_147 rfl (lv_at hl 1 rfl) ?_
  refine xw_getO hx hb hts hin1 hown hK hP 2 (by decide) f19 rfl dX5_init_148 ?_
  refine lv_iload_n hx hb dX5_init_151 rfl (lv_at hl 0 rfl) ?_
  refine lv_iconst (v := (-1)) hx hb dX5_init_152 (by decide) ?_
  refine xw_ast hx hb hK hJ hAN hP hS (cd := 2) (n := 6) (by decide) (fun _ => rfl) (swix_s (by decide)) rfl dX5_init_153 (fun H locs hP hS => ?_)
  refine lv_iinc (v := 3) (lv' := [(1, .int 3), (0, .ref (ad 0))]) hx hb dX5_init_154 hl (k := 0) rfl rfl (by decide) rfl (fun ls hl => ?_)
  refine lv_goto (tgt := 141) hx hb dX5_init_157 (by decide) ?_
  refine lv_iload_n hx hb dX5_init_141 rfl (lv_at hl 0 rfl) ?_
  refine lv_bipush (v := 6) hx hb dX5_init_142 (by decide) ?_
  refine lv_icmp_ge (tgt := 160) hx hb dX5_init_144 (by decide) (fun cc => absurd cc (by decide)) (fun _ => ?_)
  refine lv_aload_n hx hb dX5_init_147 rfl (lv_at hl 1 rfl) ?_
  refine xw_getO hx hb hts hin1 hown hK hP 2 (by decide) f19 rfl dX5_init_148 ?_
  refine lv_iload_n hx hb dX5_init_151 rfl (lv_at hl 0 rfl) ?_
  refine lv_iconst (v := (-1)) hx hb dX5_init_152 (by decide) ?_
  refine xw_ast hx hb hK hJ hAN hP hS (cd := 2) (n := 6) (by decide) (fun _ => rfl) (swix_s (by decide)) rfl dX5_init_153 (fun H locs hP hS => ?_)
  refine lv_iinc (v := 4) (lv' := [(1, .int 4), (0, .ref (ad 0))]) hx hb dX5_init_154 hl (k := 0) rfl rfl (by decide) rfl (fun ls hl => ?_)
  refine lv_goto (tgt := 141) hx hb dX5_init_157 (by decide) ?_
  refine lv_iload_n hx hb dX5_init_141 rfl (lv_at hl 0 rfl) ?_
  refine lv_bipush (v := 6) hx hb dX5_init_142 (by decide) ?_
  refine lv_icmp_ge (tgt := 160) hx hb dX5_init_144 (by decide) (fun cc => absurd cc (by decide)) (fun _ => ?_)
  refine lv_aload_n hx hb dX5_init_147 rfl (lv_at hl 1 rfl) ?_
  refine xw_getO hx hb hts hin1 hown hK hP 2 (by decide) f19 rfl dX5_init_148 ?_
  refine lv_iload_n hx hb dX5_init_151 rfl (lv_at hl 0 rfl) ?_
  refine lv_iconst (v := (-1)) hx hb dX5_init_152 (by decide) ?_
  refine xw_ast hx hb hK hJ hAN hP hS (cd := 2) (n := 6) (by decide) (fun _ => rfl) (swix_s (by decide)) rfl dX5_init_153 (fun H locs hP hS => ?_)
  refine lv_iinc (v := 5) (lv' := [(1, .int 5), (0, .ref (ad 0))]) hx hb dX5_init_154 hl (k := 0) rfl rfl (by decide) rfl (fun ls hl => ?_)
  refine lv_goto (tgt := 141) hx hb dX5_init_157 (by decide) ?_
  refine lv_iload_n hx hb dX5_init_141 rfl (lv_at hl 0 rfl) ?_
  refine lv_bipush (v := 6) hx hb dX5_init_142 (by decide) ?_
  refine lv_icmp_ge (tgt := 160) hx hb dX5_init_144 (by decide) (fun cc => absurd cc (by decide)) (fun _ => ?_)
  refine lv_aload_n hx hb dX5_init_147 rfl (lv_at hl 1 rfl) ?_
  refine xw_getO hx hb hts hin1 hown hK hP 2 (by decide) f19 rfl dX5_init_148 ?_
  refine lv_iload_n hx hb dX5_init_151 rfl (lv_at hl 0 rfl) ?_
  refine lv_iconst (v := (-1)) hx hb dX5_init_152 (by decide) ?_
  refine xw_ast hx hb hK hJ hAN hP hS (cd := 2) (n := 6) (by decide) (fun _ => rfl) (swix_s (by decide)) rfl dX5_init_153 (fun H locs hP hS => ?_)
  refine lv_iinc (v := 6) (lv' := [(1, .int 6), (0, .ref (ad 0))]) hx hb dX5_init_154 hl (k := 0) rfl rfl (by decide) rfl (fun ls hl => ?_)
  refine lv_goto (tgt := 141) hx hb dX5_init_157 (by decide) ?_
  refine lv_iload_n hx hb dX5_init_141 rfl (lv_at hl 0 rfl) ?_
  refine lv_bipush (v := 6) hx hb dX5_init_142 (by decide) ?_
  refine lv_icmp_ge (tgt := 160) hx hb dX5_init_144 (by decide) (fun _ => ?_) (fun cc => absurd (by decide) cc)
  refine lv_aload_n hx hb dX5_init_160 rfl (lv_at hl 1 rfl) ?_
  refine xw_getO hx hb hts hin1 hown hK hP 0 (by decide) f11 rfl dX5_init_161 ?_
  refine lv_iconst (v := 0) hx hb dX5_init_164 (by decide) ?_
  refine xw_aldV (x := 100) hx hb hK hP (swix_s (by decide)) dX5_init_165 rfl ?_
  refine lv_lconst (v := 1) hx hb dX5_init_166 (by decide) ?_
  refine xw_putVL hx hb hts hin3 hown hK hJ hAN hP hS (cd := 100) ⟨by decide, by decide⟩ f44 rfl dX5_init_167 (fun H locs hP hS => ?_)
  refine lv_aload_n hx hb dX5_init_170 rfl (lv_at hl 1 rfl) ?_
  refine lv_iconst (v := 1) hx hb dX5_init_171 (by decide) ?_
  refine xw_putO hx hb hts hin1 hown hK hJ hAN hP hS 6 (by decide) f48 rfl dX5_init_172 (fun H locs hP hS => ?_)
  refine lv_aload_n hx hb dX5_init_175 rfl (lv_at hl 1 rfl) ?_
  refine lv_iconst (v := 1) hx hb dX5_init_176 (by decide) ?_
  refine xw_putO hx hb hts hin1 hown hK hJ hAN hP hS 7 (by decide) f52 rfl dX5_init_177 (fun H locs hP hS => ?_)
  exact W.vret hx hb hr (fun t ht hW => ⟨⟨(ad, _), rfl, ⟨swcI_0, hJ, had0, hge⟩, by show xwP D cy ad _ t.heap; rw [ht]; exact hP⟩, hS.F ht⟩) hS.2.2 dX5_init_180 hlocks

