/-! ===== THE LAW'S BODY: the script's cell, the loop of the turns ===== -/
abbrev lwA (s : State) : Nat → Prop := fun q => s.heap.size ≤ q
def lwX0 (s : State) : Prop := vx_Zq Bundle.tN "UNASSIGNED_STACK" Bundle.steD (lwA s) s s.heap ∧ vx_Zq Bundle.tN "SUPPRESSED_SENTINEL" Bundle.listD (lwA s) s s.heap ∧ ((∀ k, va_Nw (.castable (swE k) (swE k)) s) ∧ ∀ Y ∈ swYs, va_Nw (.declares (Bundle.initS Y)) s) ∧ ∀ q ∈ swStrs, ∃ a, vk_R RX5 q.1 q.2 a s
theorem lw_F {s : State} {ad al : Nat → Nat} (h : lwX0 s) (hxs : ∀ c, xw_N c = true → s.heap.size ≤ ad c) (hys : ∀ c, lyN c = true → s.heap.size ≤ al c) : lbF s (lwA s) ad al := fun H locs hS => by
  have hAA : ∀ q, lbX0 ad al q → lwA s q := fun q hq => by
    rcases hq with hq | hq
    · obtain ⟨c, hc, rfl⟩ := hq
      exact hxs c hc
    · obtain ⟨c, hc, rfl⟩ := hq
      exact hys c hc
  refine ⟨fun q hq => ?_, fun U hU hW => ?_⟩
  · rcases hq with (hq | hq) | hq
    · exact hAA q (Or.inl hq)
    · exact Nat.le_trans hS.1 hq
    · exact hAA q (Or.inr hq)
  · obtain ⟨z1, z2, ⟨w1, w2⟩, h4⟩ := h
    refine ⟨?_, ?_, ⟨fun k => va_Nw.warmC hW (w1 k), fun Y hY => va_Nw.warmD hW (w2 Y hY)⟩, fun q hq => ?_⟩
    · rw [hU]
      exact vx_Zq.moved hW.alike (swZq_of (z1.kept hS.2.1) (fun q _ h => hAA q h))
    · rw [hU]
      exact vx_Zq.moved hW.alike (swZq_of (z2.kept hS.2.1) (fun q _ h => hAA q h))
    · obtain ⟨a, ha⟩ := h4 q hq
      exact ⟨a, ha.warm hW⟩
abbrev rmL_cell : Room := { frames := 0, cells := 0, slots := 0, locals := 0 }
set_option maxHeartbeats 4000000 in
set_option maxRecDepth 100000 in
/-- cell: it answers some int, for a script and a turn from 0 on -/
theorem lm_cell (l : Launch) (b L : Nat) (xs : Nat → Int32) (k : Nat) (hk : k ≤ 1000) (hL : L ≤ 260) : Met l yL_cell wsL_cell rmL_cell (va_Pc [.ref b, .int (nI k)] (fun U => va_X b L xs U U.heap ∧ b < U.heap.size)) (vp_Si (fun _ : Int32 => True)) 0 0 (fun _ => False) := by
  refine Met.ofW (cc := cL_cell) (maxL := 2) (ret := (some .int)) (by decide) rfl ?_
  intro p e s m args below meth c s₁ B hml hv
  obtain ⟨ha, hX, hbl⟩ := hv
  have hx := B.exec
  have hb := B.bytes
  have hr := B.returns
  have hlocks := B.notSynchronized
  have hts := atoms_spec (ws := wsL_cell) B.pre
  have hown : s.vm.findClass RL = some m.cls := findClass_of_methodNamed B.named
  have fc7 : (Cond.constant RL 7 (51241)).before args s = true := hts _ (by decide +kernel)
  have fc8 : (Cond.constant RL 8 (2956127)).before args s = true := hts _ (by decide +kernel)
  have hS : va_S (fun _ => False) s.heap s.heap [] := va_S.rf
  obtain ⟨ls, hl, hent⟩ := sw_entry m (n := 2) ha (Nat.le_of_ble_eq_true rfl)
  rw [hent]
  have hl : lv_has ls 2 [(0, .ref b), (1, .int (nI k))] := hl
  refine lv_iload_n hx hb dL_cell_0 rfl (lv_at hl 1 rfl) ?_
  refine lv_aload_n hx hb dL_cell_1 rfl (lv_at hl 0 rfl) ?_
  refine va_slen (A := fun _ => False) hx hb hX hbl (fun h => h) hS dL_cell_2 ?_
  refine lv_icmp_ge (tgt := 12) hx hb dL_cell_3 (by decide) (fun _ => ?_) (fun cc => ?_)
  · refine lv_ldc (v := 51241) hx hb hown fc7 dL_cell_12 ?_
    refine lv_iload_n hx hb dL_cell_14 rfl (lv_at hl 1 rfl) ?_
    refine lv_bipush (v := 101) hx hb dL_cell_15 (by decide) ?_
    refine lv_iadd hx hb dL_cell_17 ?_
    refine lv_imul hx hb dL_cell_18 ?_
    refine lv_ldc (v := 2956127) hx hb hown fc8 dL_cell_19 ?_
    refine lv_iadd hx hb dL_cell_21 ?_
    exact W.iret hx hb hr (fun t ht hW => ⟨_, rfl, trivial, ht⟩) (fun q hq => by cases hq) dL_cell_22 hlocks
  · have hlt : k < L := by
      have h : ¬ nI L ≤ nI k := cc
      rw [nI_leI (by omega) (by omega)] at h
      omega
    refine lv_aload_n hx hb dL_cell_6 rfl (lv_at hl 0 rfl) ?_
    refine lv_iload_n hx hb dL_cell_7 rfl (lv_at hl 1 rfl) ?_
    refine va_sld (xs := xs) (A := fun _ => False) hx hb hX hbl (fun h => h) hS (nI_in hlt (by omega)) dL_cell_8 ?_
    refine lv_goto (tgt := 22) hx hb dL_cell_9 (by decide) ?_
    exact W.iret hx hb hr (fun t ht hW => ⟨_, rfl, trivial, ht⟩) (fun q hq => by cases hq) dL_cell_22 hlocks
section LAWLOOP
variable {p : Program} {l : Launch} {e : Env} {s : State} {m : MethodId} {args : Array Value} {below : List Frame} {meth : Method} {c : Code} {Q : State → Prop}
variable {D : va_G} {cy : Nat → ClassId} {ad al : Nat → Nat} {b L : Nat} {xs : Nat → Int32}
abbrev lwL (b : Nat) (ad al : Nat → Nat) (j : Nat) : List (Nat × Value) := [(0, .ref b), (1, .ref (ad 0)), (2, .ref (al 0)), (3, .ref (al 1)), (4, .ref (al 2)), (5, .ref (al 3)), (6, .ref (al 4)), (7, .ref (al 5)), (8, .ref (al 6)), (9, .ref (al 7)), (10, .ref (al 8)), (11, .int 1), (12, .int (nI j))]
set_option maxHeartbeats 1000000 in
set_option maxRecDepth 100000 in
theorem lw_loop (E : CallFix p m c cL_law 18 s args wsL_law RL) (hst : l.stackTraces = false) (hJ : lbJ ad al) (hF : lbF s (lwA s) ad al) (hK : swK D cy s) (hNc : swNc s) (hX : va_X b L xs s s.heap) (hbl : b < s.heap.size) (hL : L ≤ 260)
    (kx : ∀ (H : Heap) (locs : List Loc) (ls : Array Slot), va_S (lwA s) s.heap H locs → lv_has ls 18 [(11, .int 1)] → W p l e room_1 s m args below meth c H locs 703191 6992126 Q (F0 m 563 ls [])) : ∀ (n j : Nat), j + n = 70 → ∀ (u : swU) (w : lyU) (H : Heap) (locs : List Loc) (ls : Array Slot), lwRx (4 * j) u w → lbI D cy ad al u w H → va_S (lwA s) s.heap H locs → lv_has ls 18 (lwL b ad al j) → W p l e room_1 s m args below meth c H locs (300 + 500 * j) (2500 + 2994 * j) Q (F0 m 81 ls []) := by
  have hx := E.1
  have hb := E.2.1
  have hts := E.2.2.2.2
  intro n
  induction n with
  | zero =>
    intro j hn u w H locs ls hR hI hS hl
    refine lv_iload hx hb dL_law_81 (lv_at hl 12 rfl) ?_
    refine lv_bipush (v := nI 70) hx hb dL_law_83 (by decide) ?_
    refine lv_icmp_ge (tgt := 563) hx hb dL_law_85 (by decide) (fun _ => ?_) (fun cc => absurd (nI_le (by omega) (by omega)) cc)
    exact W.widen (by omega) (by omega) (kx H locs ls hS (lv_sub hl [11] rfl))
  | succ n ih =>
    intro j hn u w H locs ls hR hI hS hl
    refine lv_iload hx hb dL_law_81 (lv_at hl 12 rfl) ?_
    refine lv_bipush (v := nI 70) hx hb dL_law_83 (by decide) ?_
    refine lv_icmp_ge (tgt := 563) hx hb dL_law_85 (by decide) (fun _ => W.widen (by omega) (by omega) (kx H locs ls hS (lv_sub hl [11] rfl))) (fun _ => ?_)
    refine lv_iload hx hb dL_law_88 (lv_at hl 11 rfl) ?_
    refine lv_if_eq (tgt := 563) hx hb dL_law_90 (by decide) (fun cc => absurd cc (by decide)) (fun _ => ?_)
    refine lv_aload_n hx hb dL_law_93 rfl (lv_at hl 0 rfl) ?_
    refine lv_iload hx hb dL_law_94 (lv_at hl 12 rfl) ?_
    refine vp_callSi (post := fun _ : Int32 => True) (W.runS (As := [.ref b, .int (nI j)]) (rest := []) E (lm_cell l b L xs j (by omega) hL) (va_cwS 2 hts gL_law_L_cell rfl rfl rfl (by decide +kernel) ⟨Nat.le_of_ble_eq_true rfl, Nat.le_of_ble_eq_true rfl⟩) ⟨fun a U g mk q => ⟨q.1, va_X.moved (u := U) (U := U.calling g mk a) (Vm.Alike.refl U.vm) q.2.1, q.2.2⟩, fun U hU hW => ⟨rfl, by
      rw [hU]
      exact (hX.kept (hS.2.1 b hbl (Nat.not_le.mpr hbl))).moved hW.alike, by
      rw [hU]
      exact Nat.lt_of_lt_of_le hbl hS.1⟩⟩ rfl rfl hl.1 rfl (lv_room (Nat.le_of_ble_eq_true rfl)) dL_law_96 ⟨by show _ ≤ 703191; omega, by show _ ≤ 6992126; omega⟩) (fun r _ => ?_)
    refine lv_istore (lv' := [(13, .int r), (0, .ref b), (1, .ref (ad 0)), (2, .ref (al 0)), (3, .ref (al 1)), (4, .ref (al 2)), (5, .ref (al 3)), (6, .ref (al 4)), (7, .ref (al 5)), (8, .ref (al 6)), (9, .ref (al 7)), (10, .ref (al 8)), (11, .int 1), (12, .int (nI j))]) hx hb dL_law_99 hl (by decide) rfl (fun ls hl => ?_)
    obtain ⟨nv, nb, ns, hd, sh, mo, cm, ot, am, dk, Ev, hR⟩ := hR
    obtain ⟨u', w', ex, hR'⟩ := la_turn hR (by omega) (nI j) r
    refine lm_turn E hst hJ hF hK hNc u w _ _ _ _ _ ex ⟨by omega, by omega⟩ hI hS (lv_sub hl [1, 2, 3, 4, 5, 6, 7, 8, 9, 10, 11, 13, 0] rfl) (fun H locs ls hI hS hl => ?_)
    refine lv_iinc (v := nI (j + 1)) (lv' := [(12, .int (nI (j + 1))), (0, .ref b), (1, .ref (ad 0)), (2, .ref (al 0)), (3, .ref (al 1)), (4, .ref (al 2)), (5, .ref (al 3)), (6, .ref (al 4)), (7, .ref (al 5)), (8, .ref (al 6)), (9, .ref (al 7)), (10, .ref (al 8)), (11, .int 1)]) hx hb dL_law_557 hl (k := 12) rfl (nI_1 j) (by decide) rfl (fun ls hl => ?_)
    refine lv_goto (tgt := 81) hx hb dL_law_560 (by decide) ?_
    have hgo := ih (j + 1) (by omega) u' w' H locs ls (by rw [show 4 * (j + 1) = 4 * j + 4 by omega]; exact hR') hI hS (lv_sub hl [1, 2, 3, 4, 5, 6, 7, 8, 9, 10, 11, 12, 0] rfl)
    rw [show 300 + 500 * (j + 1) = 300 + 500 * j + 500 by omega, show 2500 + 2994 * (j + 1) = 2500 + 2994 * j + 2994 by omega] at hgo
    exact hgo
end LAWLOOP
theorem lw_ra1 {s : State} {args : Array Value} {ty : FieldType} (hp : ∀ C, ty ≠ .object C) (h : (Cond.arrayClass ty).before args s = true) : ∃ cA : ClassId, ArrOfT s cA ty ∧ va_RA s cA ty := by
  obtain ⟨cA, kA, comp, h1, h2, h3⟩ := Cond.arrayClass_spec h
  refine ⟨cA, fun n z => ⟨fun k h => (by cases h), kA, h2, comp, h3⟩, ?_⟩
  cases ty with
  | object C => exact absurd rfl (hp C)
  | _ => exact h1
theorem lw_ra2 {s : State} {args : Array Value} {C : String} (h : (Cond.arrayOver (.object C)).before args s = true) : ∃ cA : ClassId, ArrOfT s cA (.object C) ∧ va_RA s cA (.object C) := by
  obtain ⟨comp, cA, kA, h1, h2, h3, h4, h5⟩ := Cond.arrayOver_spec h
  exact ⟨cA, fun n z => ⟨fun k h => (by cases h), kA, h3, comp, h4⟩, kA, comp, h3, h4, h1, h5⟩
