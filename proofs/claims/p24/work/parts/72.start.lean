section LWNEW
variable {p : Program} {l : Launch} {e : Env} {s : State} {m : MethodId} {args : Array Value} {below : List Frame} {meth : Method} {c : Code} {Q : State → Prop}
variable {D : va_G} {cy : Nat → ClassId} {ad : Nat → Nat} {u : swU} {o : Nat} {H : Heap} {locs : List Loc} {cells slots : Nat}
/-- what stands after the first k of the law's arrays are made, each at the cell behind the one before -/
def lwY (D : va_G) (cy : Nat → ClassId) (ad : Nat → Nat) (u : swU) (o k : Nat) (s : State) (H : Heap) (locs : List Loc) : Prop := xwP D cy ad u H ∧ (∀ c, c < k → va_at D vwCl (o + c, lycel cy lyZ c) H) ∧ H.size = o + k ∧ va_S (lwA s) s.heap H locs
theorem lw_na {k : Nat} {n : Int32} {N : Nat} {pc : Nat} {ls : Array Slot} {atype : ArrayType} {cB : ClassId} (hx : p.tables.exec = Jvm.exec) (hb : c.code = cL_law) (harr : (Cond.arrayClass (newarray.typeOf atype)).before args s = true) (hcB : ∀ cA : ClassId, s.vm.findClass ("[" ++ (newarray.typeOf atype).toString) = some cA → cA = cB) (hc : ∀ (q : Nat) (H : Heap), H[q]? = some (arrV cB N (fun _ => defaultValue (newarray.typeOf atype))) → va_at D vwCl (q, lycel cy lyZ k) H)
    (hdg : decode cL_law pc = .ok (.newarray atype, 2)) (hn : ¬ n < 0) (hN : n.toNatClampNeg = N) (hbytes : N * componentBytes (newarray.typeOf atype) ≤ 536870912) (hcells : cells + 1 ≤ room_1.cells) (hslots : slots + N ≤ room_1.slots) (ho : s.heap.size ≤ o) (hY : lwY D cy ad u o k s H locs)
    (kk : ∀ H1 : Heap, lwY D cy ad u o (k + 1) s H1 locs → W p l e room_1 s m args below meth c H1 locs (cells + 1) (slots + N) Q (F0 m (pc + 2) ls [.ref (o + k)])) : W p l e room_1 s m args below meth c H locs cells slots Q (F0 m pc ls [.int n]) := by
  obtain ⟨hP, hL, hz, hS⟩ := hY
  refine va_newaK (N := N) hx hb harr rfl hdg rfl hn hN hbytes hcells hslots hz (fun H2 cA e1 z1 o1 hAr hNm => ?_)
  have ecA : cA = cB := hcB cA hNm
  subst ecA
  refine kk H2 ⟨fun c hc => (hP c hc).kept (o1 _ (by rw [← hz]; exact (hP c hc).lt)), fun c hck => ?_, by rw [z1]; omega, ⟨by rw [z1]; omega, fun q h1 h2 => (o1 q (by omega)).trans (hS.2.1 q h1 h2), hS.2.2⟩⟩
  by_cases h : c = k
  · subst h
    exact hc _ _ e1
  · have h3 : c < k := by omega
    exact (hL c h3).kept (o1 _ (by omega))
end LWNEW
set_option maxHeartbeats 4000000 in
set_option maxRecDepth 100000 in
theorem whole_start {p : Program} {e : Env} {s : State} {m : MethodId} {below : List Frame} {meth : Method} {c : Code} (l : Launch) (hflags : l.flags = flags0) {b L : Nat} {xs : Nat → Int32} (hL : L ≤ 260) (C0 : lw_At p s m meth c b L xs) : W p l e room_1 s m #[Value.ref b] below meth c s.heap [] 0 0 (lw_Z below #[Value.ref b] s) (entryFrame m ([Value.ref b] : List Value).toArray 18) := by
  obtain ⟨hx, hb, hr, hml, hown, htsA, hX, hbl, hlocks, hgv⟩ := id C0
  have hst : l.stackTraces = false := by
    unfold Launch.stackTraces
    rw [hflags]
    decide +kernel
  have hts0 : ∀ w ∈ tables_1, w.before #[Value.ref b] s = true := fun w h => htsA w (List.mem_append_right _ h)
  have hts : ∀ w ∈ wsL_law, w.before #[Value.ref b] s = true := fun w h => htsA w (wsL_law_in w h)
  have hw : ∀ (w : Cond) (i : Nat), tables_1[i]? = some w → w.before #[Value.ref b] s = true := fun w i h => hts0 w (List.mem_of_getElem? h)
  have E : CallFix p m c cL_law 18 s #[Value.ref b] wsL_law RL := ⟨hx, hb, hml, hown, hts⟩
  obtain ⟨D, cy, hK⟩ := lw_K0 hts0 hts
  have hX0 := lw_X0 hts0 hgv
  have hNc := lw_Nc0 hgv
  have hA : ∀ q : Nat, s.heap.size ≤ q → lwA s q := fun _ h => h
  have ao0 : va_AO "Slidewarden$Version" s := va_AO.of (hw (.arrayOver (.object "Slidewarden$Version")) 24 (by decide +kernel))
  have ao1 : va_AO "Slidewarden$Rule" s := va_AO.of (hw (.arrayOver (.object "Slidewarden$Rule")) 26 (by decide +kernel))
  have ao2 : va_AO "Slidewarden$Waiver" s := va_AO.of (hw (.arrayOver (.object "Slidewarden$Waiver")) 28 (by decide +kernel))
  have nk0 : swNk RX5 36 yX0_init s := va_Nw.of rfl (hw (.methodLinkNest RX5 36 yX0_init "Slidewarden") 31 (by decide +kernel))
  have nk1 : swNk RX5 41 yX3_init s := va_Nw.of rfl (hw (.methodLinkNest RX5 41 yX3_init "Slidewarden") 51 (by decide +kernel))
  have nk2 : swNk RX5 42 yX2_init s := va_Nw.of rfl (hw (.methodLinkNest RX5 42 yX2_init "Slidewarden") 77 (by decide +kernel))
  have nk3 : swNk RX5 43 yX4_init s := va_Nw.of rfl (hw (.methodLinkNest RX5 43 yX4_init "Slidewarden") 98 (by decide +kernel))
  have nk4 : swNk RX3 11 yX0_init s := va_Nw.of rfl (hw (.methodLinkNest RX3 11 yX0_init "Slidewarden") 56 (by decide +kernel))
  have hS : va_S (lwA s) s.heap s.heap [] := va_S.rf
  have hP : va_P D vwCl [] s.heap := fun k q h => by simp at h
  have hD : va_D (lwA s) [] := ⟨fun i j p q h => by simp at h, fun k q h => by simp at h⟩
  obtain ⟨ls, hl, hent⟩ := sw_entry m (args := ([Value.ref b] : List Value).toArray) (vs := [.ref b]) (n := 18) rfl (Nat.le_of_ble_eq_true rfl)
  rw [hent]
  have hl : lv_has ls 18 [(0, .ref b)] := hl
  refine va_new (ci := 5) (fs := [.null, .null, .null, .null, .null, .null, .int 0, .int 0, .int 0, .int 0, .int 0, .int 0]) (C := RX5) (T := TX5) (N := 12) hx hb hts inlX5 tyX5 tyX5_ok hown (hw (.classLink RL 11 RX5) 15 (by decide +kernel)) (hw (.instantiable RX5 12) 16 (by decide +kernel)) (hw (.initialized RX5) 1 (by decide +kernel)) hK hP hD hS hA rfl (fun j hj => by rcases (show j = 0 ∨ j = 1 ∨ j = 2 ∨ j = 3 ∨ j = 4 ∨ j = 5 ∨ j = 6 ∨ j = 7 ∨ j = 8 ∨ j = 9 ∨ j = 10 ∨ j = 11 by omega) with rfl | rfl | rfl | rfl | rfl | rfl | rfl | rfl | rfl | rfl | rfl | rfl <;> rfl) (Nat.le_of_ble_eq_true rfl) (Nat.le_of_ble_eq_true rfl) dL_law_0 (fun g H hP hD hS => ?_)
  have hP : va_P D vwCl [(g, .inr (5, [.null, .null, .null, .null, .null, .null, .int 0, .int 0, .int 0, .int 0, .int 0, .int 0]))] H := hP
  have hgs : s.heap.size ≤ g := hD.2 0 _ rfl
  have hgl : g < H.size := (hP 0 _ rfl).lt
  have hHs : s.heap.size ≤ H.size := hS.1
  refine lv_dup hx hb dL_law_3 rfl ?_
  refine va_callv (va_runI (As := []) (rest := [.ref g]) E (xm5_init l D cy g H.size (fun q => q = g ∨ H.size ≤ q) (Or.inl rfl) (fun q h => Or.inr h) (fun q h => h)) (cwI 0 hts gL_law_X5_init rfl rfl rfl (hw (.initialized RX5) 1 (by decide +kernel)) (hw (.methodLink RL 137 yX5_init) 17 (by decide +kernel)) (hw (.instanceMethod yX5_init) 18 (by decide +kernel)) rfl (by decide +kernel) ⟨Nat.le_of_ble_eq_true rfl, Nat.le_of_ble_eq_true rfl⟩) ⟨fun a U g mk q => by
    obtain ⟨q0, q1, qP, qK, qD, o1, o2, o3, n1, n2, n3, n4, n5⟩ := q
    exact ⟨q0, q1, qP, va_K.moved (u := U) (U := U.calling g mk a) (Vm.Alike.refl U.vm) qK, qD, va_AO.moved (u := U) (U := U.calling g mk a) (Vm.Alike.refl U.vm) o1, va_AO.moved (u := U) (U := U.calling g mk a) (Vm.Alike.refl U.vm) o2, va_AO.moved (u := U) (U := U.calling g mk a) (Vm.Alike.refl U.vm) o3, va_Nw.same (u := U) (U := U.calling g mk a) rfl rfl n1, va_Nw.same (u := U) (U := U.calling g mk a) rfl rfl n2, va_Nw.same (u := U) (U := U.calling g mk a) rfl rfl n3, va_Nw.same (u := U) (U := U.calling g mk a) rfl rfl n4, va_Nw.same (u := U) (U := U.calling g mk a) rfl rfl n5⟩, fun U hU hW => ⟨rfl, by rw [hU], by rw [hU]; exact hP, va_K.moved hW.alike hK, hgl, va_AO.moved hW.alike ao0, va_AO.moved hW.alike ao1, va_AO.moved hW.alike ao2, va_Nw.warmM hW nk0, va_Nw.warmM hW nk1, va_Nw.warmM hW nk2, va_Nw.warmM hW nk3, va_Nw.warmM hW nk4⟩⟩ rfl rfl hl.1 rfl (lv_room (Nat.le_of_ble_eq_true rfl)) dL_law_4 ⟨Nat.le_of_ble_eq_true rfl, Nat.le_of_ble_eq_true rfl⟩) hS (fun q _ h => by
      rcases h with h | h
      · rw [h]
        exact hgs
      · exact Nat.le_trans hHs h) (fun q h => by
      rcases h with h | h
      · rw [h]
        exact hgs
      · exact Nat.le_trans hHs h) (fun z t H1 locs ht _ hw1 hB _ _ hS => ?_)
  obtain ⟨ad, u⟩ := z
  obtain ⟨hcI, hJ, had0, hge⟩ := hw1
  have hB : xwP D cy ad u t.heap := hB
  rw [ht] at hB
  have hcI : swcI u := hcI
  have hJ : swJ xw_N ad := hJ
  have had0 : ad 0 = g := had0
  have hge : ∀ c, xw_N c = true → c ≠ 0 → H.size ≤ ad c := hge
  have hxs : ∀ c, xw_N c = true → s.heap.size ≤ ad c := fun c hc => by
    by_cases h : c = 0
    · rw [h, had0]
      exact hgs
    · exact Nat.le_trans hHs (hge c hc h)
  rw [← had0]
  clear hP hD hge hgl hHs hgs
  have hP : xwP D cy ad u H1 := hB
  refine lv_astore_n (lv' := [(1, .ref (ad 0)), (0, .ref b)]) hx hb dL_law_7 rfl hl (by decide) rfl (fun ls hl => ?_)
  obtain ⟨o, hY, hoS, hxo⟩ : ∃ o : Nat, lwY D cy ad u o 0 s H1 locs ∧ s.heap.size ≤ o ∧ ∀ c, xw_N c = true → ad c < o := ⟨H1.size, ⟨hP, fun c h => absurd h (Nat.not_lt_zero c), rfl, hS⟩, hS.1, fun c hc => (hP c hc).lt⟩
  clear hP hB hS
  have hcL : ∀ cA : ClassId, s.vm.findClass ("[" ++ (newarray.typeOf .long).toString) = some cA → cA = cy 5 := fun cA h => sw_cA (ty := .long) (fun C h => by cases h) h (hK.2 5 (cy 5, .long) rfl).2
  have hcJ : ∀ cA : ClassId, s.vm.findClass ("[" ++ (newarray.typeOf .int).toString) = some cA → cA = cy 0 := fun cA h => sw_cA (ty := .int) (fun C h => by cases h) h (hK.2 0 (cy 0, .int) rfl).2
  have haL := (hw (.arrayClass .long) 600 (by decide +kernel))
  have haI := (hw (.arrayClass .int) 49 (by decide +kernel))
  refine lv_bipush (v := 64) hx hb dL_law_8 (by decide) ?_
  refine lw_na (k := 0) (N := 64) (atype := .long) hx hb haL hcL (fun _ _ h => h) dL_law_10 (by decide) (by decide) (Nat.le_of_ble_eq_true rfl) (Nat.le_of_ble_eq_true rfl) (Nat.le_of_ble_eq_true rfl) hoS hY (fun H hY => ?_)
  refine lv_astore_n (lv' := [(2, .ref (o + 0)), (1, .ref (ad 0)), (0, .ref b)]) hx hb dL_law_12 rfl hl (by decide) rfl (fun ls hl => ?_)
  refine lv_bipush (v := 64) hx hb dL_law_13 (by decide) ?_
  refine lw_na (k := 1) (N := 64) (atype := .long) hx hb haL hcL (fun _ _ h => h) dL_law_15 (by decide) (by decide) (Nat.le_of_ble_eq_true rfl) (Nat.le_of_ble_eq_true rfl) (Nat.le_of_ble_eq_true rfl) hoS hY (fun H hY => ?_)
  refine lv_astore_n (lv' := [(3, .ref (o + 1)), (2, .ref (o + 0)), (1, .ref (ad 0)), (0, .ref b)]) hx hb dL_law_17 rfl hl (by decide) rfl (fun ls hl => ?_)
  refine lv_bipush (v := 21) hx hb dL_law_18 (by decide) ?_
  refine lw_na (k := 2) (N := 21) (atype := .int) hx hb haI hcJ (fun _ _ h => h) dL_law_20 (by decide) (by decide) (Nat.le_of_ble_eq_true rfl) (Nat.le_of_ble_eq_true rfl) (Nat.le_of_ble_eq_true rfl) hoS hY (fun H hY => ?_)
  refine lv_astore (lv' := [(4, .ref (o + 2)), (3, .ref (o + 1)), (2, .ref (o + 0)), (1, .ref (ad 0)), (0, .ref b)]) hx hb dL_law_22 hl (by decide) rfl (fun ls hl => ?_)
  refine lv_bipush (v := 21) hx hb dL_law_24 (by decide) ?_
  refine lw_na (k := 3) (N := 21) (atype := .int) hx hb haI hcJ (fun _ _ h => h) dL_law_26 (by decide) (by decide) (Nat.le_of_ble_eq_true rfl) (Nat.le_of_ble_eq_true rfl) (Nat.le_of_ble_eq_true rfl) hoS hY (fun H hY => ?_)
  refine lv_astore (lv' := [(5, .ref (o + 3)), (4, .ref (o + 2)), (3, .ref (o + 1)), (2, .ref (o + 0)), (1, .ref (ad 0)), (0, .ref b)]) hx hb dL_law_28 hl (by decide) rfl (fun ls hl => ?_)
  refine lv_bipush (v := 21) hx hb dL_law_30 (by decide) ?_
  refine lw_na (k := 4) (N := 21) (atype := .int) hx hb haI hcJ (fun _ _ h => h) dL_law_32 (by decide) (by decide) (Nat.le_of_ble_eq_true rfl) (Nat.le_of_ble_eq_true rfl) (Nat.le_of_ble_eq_true rfl) hoS hY (fun H hY => ?_)
  refine lv_astore (lv' := [(6, .ref (o + 4)), (5, .ref (o + 3)), (4, .ref (o + 2)), (3, .ref (o + 1)), (2, .ref (o + 0)), (1, .ref (ad 0)), (0, .ref b)]) hx hb dL_law_34 hl (by decide) rfl (fun ls hl => ?_)
  refine lv_bipush (v := 12) hx hb dL_law_36 (by decide) ?_
  refine lw_na (k := 5) (N := 12) (atype := .int) hx hb haI hcJ (fun _ _ h => h) dL_law_38 (by decide) (by decide) (Nat.le_of_ble_eq_true rfl) (Nat.le_of_ble_eq_true rfl) (Nat.le_of_ble_eq_true rfl) hoS hY (fun H hY => ?_)
  refine lv_astore (lv' := [(7, .ref (o + 5)), (6, .ref (o + 4)), (5, .ref (o + 3)), (4, .ref (o + 2)), (3, .ref (o + 1)), (2, .ref (o + 0)), (1, .ref (ad 0)), (0, .ref b)]) hx hb dL_law_40 hl (by decide) rfl (fun ls hl => ?_)
  refine lv_bipush (v := 8) hx hb dL_law_42 (by decide) ?_
  refine lw_na (k := 6) (N := 8) (atype := .int) hx hb haI hcJ (fun _ _ h => h) dL_law_44 (by decide) (by decide) (Nat.le_of_ble_eq_true rfl) (Nat.le_of_ble_eq_true rfl) (Nat.le_of_ble_eq_true rfl) hoS hY (fun H hY => ?_)
  refine lv_astore (lv' := [(8, .ref (o + 6)), (7, .ref (o + 5)), (6, .ref (o + 4)), (5, .ref (o + 3)), (4, .ref (o + 2)), (3, .ref (o + 1)), (2, .ref (o + 0)), (1, .ref (ad 0)), (0, .ref b)]) hx hb dL_law_46 hl (by decide) rfl (fun ls hl => ?_)
  refine lv_bipush (v := 12) hx hb dL_law_48 (by decide) ?_
  refine lw_na (k := 7) (N := 12) (atype := .int) hx hb haI hcJ (fun _ _ h => h) dL_law_50 (by decide) (by decide) (Nat.le_of_ble_eq_true rfl) (Nat.le_of_ble_eq_true rfl) (Nat.le_of_ble_eq_true rfl) hoS hY (fun H hY => ?_)
  refine lv_astore (lv' := [(9, .ref (o + 7)), (8, .ref (o + 6)), (7, .ref (o + 5)), (6, .ref (o + 4)), (5, .ref (o + 3)), (4, .ref (o + 2)), (3, .ref (o + 1)), (2, .ref (o + 0)), (1, .ref (ad 0)), (0, .ref b)]) hx hb dL_law_52 hl (by decide) rfl (fun ls hl => ?_)
  refine lv_bipush (v := 6) hx hb dL_law_54 (by decide) ?_
  refine lw_na (k := 8) (N := 6) (atype := .int) hx hb haI hcJ (fun _ _ h => h) dL_law_56 (by decide) (by decide) (Nat.le_of_ble_eq_true rfl) (Nat.le_of_ble_eq_true rfl) (Nat.le_of_ble_eq_true rfl) hoS hY (fun H hY => ?_)
  refine lv_astore (lv' := [(10, .ref (o + 8)), (9, .ref (o + 7)), (8, .ref (o + 6)), (7, .ref (o + 5)), (6, .ref (o + 4)), (5, .ref (o + 3)), (4, .ref (o + 2)), (3, .ref (o + 1)), (2, .ref (o + 0)), (1, .ref (ad 0)), (0, .ref b)]) hx hb dL_law_58 hl (by decide) rfl (fun ls hl => ?_)
  obtain ⟨hP, hL9, hz, hS⟩ := hY
  obtain ⟨al, hal⟩ : ∃ al : Nat → Nat, al = fun c => o + c := ⟨_, rfl⟩
  have hc9 : ∀ c, lyN c = true → c < 9 := fun c h => by
    have h2 : c ≤ 8 := of_decide_eq_true h
    omega
  have hI : lbI D cy ad al u lyZ H := ⟨hP, fun c h => by rw [hal]; exact hL9 c (hc9 c h)⟩
  have hys : ∀ c, lyN c = true → s.heap.size ≤ al c := fun c _ => by
    rw [hal]
    exact Nat.le_trans hoS (Nat.le_add_right o c)
  have hJB : lbJ ad al := ⟨hJ, fun c d _ _ h => by
    rw [hal] at h
    have h : o + c = o + d := h
    omega, fun c d hc _ h => by
    rw [hal] at h
    have h : ad c = o + d := h
    have h2 := hxo c hc
    omega⟩
  have hF : lbF s (lwA s) ad al := lw_F hX0 hxs hys
  have hl : lv_has ls 18 [(0, .ref b), (1, .ref (ad 0)), (2, .ref (al 0)), (3, .ref (al 1)), (4, .ref (al 2)), (5, .ref (al 3)), (6, .ref (al 4)), (7, .ref (al 5)), (8, .ref (al 6)), (9, .ref (al 7)), (10, .ref (al 8))] := by
    rw [hal]
    exact lv_sub hl [10, 9, 8, 7, 6, 5, 4, 3, 2, 1, 0] rfl
  clear hal hL9 hz hP hoS hxo
  refine lv_aload hx hb dL_law_60 (lv_at hl 5 rfl) ?_
  refine lv_iconst (v := 0) hx hb dL_law_62 (by decide) ?_
  refine lv_iconst (v := 1) hx hb dL_law_63 (by decide) ?_
  refine lb_ast hx hb hK hJB hF hI hS (cd := 3) (n := 21) (y2 := lyI lyZ 3 0 1) (by decide) (by decide) rfl rfl (swix_s (by decide)) rfl dL_law_64 (fun H locs hI hS => ?_)
  refine lv_aload hx hb dL_law_65 (lv_at hl 10 rfl) ?_
  refine lv_iconst (v := 0) hx hb dL_law_67 (by decide) ?_
  refine lv_iconst (v := 1) hx hb dL_law_68 (by decide) ?_
  refine lb_ast hx hb hK hJB hF hI hS (cd := 8) (n := 6) (y2 := lyI (lyI lyZ 3 0 1) 8 0 1) (by decide) (by decide) rfl rfl (swix_s (by decide)) rfl dL_law_69 (fun H locs hI hS => ?_)
  refine lv_aload hx hb dL_law_70 (lv_at hl 10 rfl) ?_
  refine lv_iconst (v := 2) hx hb dL_law_72 (by decide) ?_
  refine lv_iconst (v := 1) hx hb dL_law_73 (by decide) ?_
  refine lb_ast hx hb hK hJB hF hI hS (cd := 8) (n := 6) (y2 := lyB) (by decide) (by decide) rfl rfl (swix_s (by decide)) rfl dL_law_74 (fun H locs hI hS => ?_)
  refine lv_iconst (v := 1) hx hb dL_law_75 (by decide) ?_
  refine lv_istore (lv' := (11, .int 1) :: [(0, .ref b), (1, .ref (ad 0)), (2, .ref (al 0)), (3, .ref (al 1)), (4, .ref (al 2)), (5, .ref (al 3)), (6, .ref (al 4)), (7, .ref (al 5)), (8, .ref (al 6)), (9, .ref (al 7)), (10, .ref (al 8))]) hx hb dL_law_76 hl (by decide) rfl (fun ls hl => ?_)
  refine lv_iconst (v := nI 0) hx hb dL_law_78 (by decide) ?_
  refine lv_istore (lv' := (12, .int (nI 0)) :: (11, .int 1) :: [(0, .ref b), (1, .ref (ad 0)), (2, .ref (al 0)), (3, .ref (al 1)), (4, .ref (al 2)), (5, .ref (al 3)), (6, .ref (al 4)), (7, .ref (al 5)), (8, .ref (al 6)), (9, .ref (al 7)), (10, .ref (al 8))]) hx hb dL_law_79 hl (by decide) rfl (fun ls hl => ?_)
  refine W.widen (k := 300 + 500 * 0) (n := 2500 + 2994 * 0) (Nat.le_of_ble_eq_true rfl) (Nat.le_of_ble_eq_true rfl) ?_
  exact lw_loop E hst hJB hF hK hNc hX hbl hL (fun H locs ls hS hl => by
    refine lv_iload hx hb dL_law_563 (lv_at hl 0 rfl) ?_
    refine va_forget (fun q hq => hS.2.2 q hq) ?_
    exact lw_ret hx hb hr hlocks dL_law_565) 70 0 rfl u lyB H locs ls (lwRx_init hcI) hI hS (lv_sub hl [2, 3, 4, 5, 6, 7, 8, 9, 10, 11, 12, 1, 0] rfl)
