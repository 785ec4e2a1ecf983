theorem lw_and31 (x : Int32) : ∃ k : Nat, k < 32 ∧ nI k = x &&& 31 := by
  refine ⟨(x &&& 31).toBitVec.toNat, ?_, ?_⟩
  · have h : (x &&& 31).toBitVec = x.toBitVec &&& 31#32 := rfl
    rw [h, BitVec.toNat_and]
    exact Nat.lt_of_le_of_lt Nat.and_le_right (by decide)
  · apply Int32.toBitVec_inj.mp
    show BitVec.ofNat 32 _ = _
    simp
theorem lw_big : ∀ k : Nat, k < 32 → 21 ≤ k → (20 : Int) < (nI k).toInt := by decide +kernel
theorem lw_cond {a L : Nat} (ha : a ≤ 100000) (hL : L ≤ 100000) : nI L - 6 < nI a ↔ L < a + 6 := by
  by_cases h : 6 ≤ L
  · have e : nI L - 6 = nI (L - 6) := by
      have h2 : nI (L - 6) + nI 6 = nI L := by
        rw [nI_addk]
        congr 1
        omega
      rw [← h2]
      show nI (L - 6) + 6 - 6 = _
      exact Int32.add_sub_cancel _ _
    rw [e, nI_ltI (by omega) (by omega)]
    omega
  · have h2 : nI L - 6 < 0 := by
      rcases (by omega : L = 0 ∨ L = 1 ∨ L = 2 ∨ L = 3 ∨ L = 4 ∨ L = 5) with rfl | rfl | rfl | rfl | rfl | rfl <;> decide
    exact ⟨fun _ => by omega, fun _ => Int32.lt_of_lt_of_le h2 (Int32.not_lt.mp (nI_pos (by omega)))⟩
section LAWLOOP
variable {p : Program} {l : Launch} {e : Env} {s : State} {m : MethodId} {args : Array Value} {below : List Frame} {meth : Method} {c : Code} {Q : State → Prop}
variable {D : va_G} {cy : Nat → ClassId} {ad ad' : Nat → Nat} {o b L : Nat} {xs : Nat → Int32}
set_option maxHeartbeats 2000000 in
set_option maxRecDepth 100000 in
theorem lw_step (E : CallFix p m c cL_law 7 s args wsL_law RL) (hst : l.stackTraces = false) (hF : lwF s D cy ad ad' o) (hX : va_X b L xs s s.heap) (hbl : b < s.heap.size) (hL : L ≤ 3072) {i : Nat} {H : Heap} {locs : List Loc} {ls : Array Slot} {u w : swU} {f : Nat → Int64} {cells slots : Nat} (hi : i + 6 ≤ L) (hcs : cells + 6 ≤ room_1.cells ∧ slots + 36 ≤ room_1.slots) (hI : lwI D cy ad ad' o u w f H) (hR : swRl u w) (hS : va_S (lwA s) s.heap H locs) (hl : lv_has ls 7 (lwL b o i ad ad'))
    (kk : ∀ (u w : swU) (f : Nat → Int64) (H : Heap) (locs : List Loc) (ls : Array Slot), lwI D cy ad ad' o u w f H → swRl u w → va_S (lwA s) s.heap H locs → lv_has ls 7 (lwL b o i ad ad') → W p l e room_1 s m args below meth c H locs (cells + 6) (slots + 36) Q (F0 m 1604 ls [])) : W p l e room_1 s m args below meth c H locs cells slots Q (F0 m 33 ls []) := by
  obtain ⟨k, hk, ek⟩ := lw_and31 (xs i)
  have hx := E.1
  have hb := E.2.1
  refine lv_aload_n hx hb dL_law_33 rfl (lv_at hl 4 rfl) ?_
  refine lv_iload hx hb dL_law_34 (lv_at hl 0 rfl) ?_
  refine va_sld (xs := xs) hx hb hX hbl (Nat.not_le.mpr hbl) hS (nI_in (by omega) (by omega)) dL_law_36 ?_
  refine lv_bipush (v := 31) hx hb dL_law_37 (by decide) ?_
  refine lv_iand hx hb dL_law_39 ?_
  refine sw_top (ek.trans (congrArg (fun z => xs z &&& 31) (nI_clamp (by omega)).symm)) ?_
  by_cases h21 : 21 ≤ k
  · refine lv_tableOut (tgt := 1604) hx hb dL_law_40 (Or.inr (lw_big k hk h21)) (by decide) ?_
    refine W.widen (k := cells + 6) (n := slots + 36) (by omega) (by omega) ?_
    exact kk u w f H locs ls hI hR hS hl
  clear ek
  rcases (by omega : k = 0 ∨ k = 1 ∨ k = 2 ∨ k = 3 ∨ k = 4 ∨ k = 5 ∨ k = 6 ∨ k = 7 ∨ k = 8 ∨ k = 9 ∨ k = 10 ∨ k = 11 ∨ k = 12 ∨ k = 13 ∨ k = 14 ∨ k = 15 ∨ k = 16 ∨ k = 17 ∨ k = 18 ∨ k = 19 ∨ k = 20) with rfl | rfl | rfl | rfl | rfl | rfl | rfl | rfl | rfl | rfl | rfl | rfl | rfl | rfl | rfl | rfl | rfl | rfl | rfl | rfl | rfl
  · exact lv_tableIn (off := 100) (tgt := 140) hx hb dL_law_40 (by decide) (by decide) (by decide) (by decide) (lw_k_branch E hst hF hX hbl hL hi hcs hI hR hS hl kk)
  · exact lv_tableIn (off := 156) (tgt := 196) hx hb dL_law_40 (by decide) (by decide) (by decide) (by decide) (lw_k_add E hst hF hX hbl hL hi hcs hI hR hS hl kk)
  · exact lv_tableIn (off := 224) (tgt := 264) hx hb dL_law_40 (by decide) (by decide) (by decide) (by decide) (lw_k_set E hst hF hX hbl hL hi hcs hI hR hS hl kk)
  · exact lv_tableIn (off := 316) (tgt := 356) hx hb dL_law_40 (by decide) (by decide) (by decide) (by decide) (lw_k_drop E hst hF hX hbl hL hi hcs hI hR hS hl kk)
  · exact lv_tableIn (off := 384) (tgt := 424) hx hb dL_law_40 (by decide) (by decide) (by decide) (by decide) (lw_k_head E hst hF hX hbl hL hi hcs hI hR hS hl kk)
  · exact lv_tableIn (off := 440) (tgt := 480) hx hb dL_law_40 (by decide) (by decide) (by decide) (by decide) (lw_k_about E hst hF hX hbl hL hi hcs hI hR hS hl kk)
  · exact lv_tableIn (off := 508) (tgt := 548) hx hb dL_law_40 (by decide) (by decide) (by decide) (by decide) (lw_k_value E hst hF hX hbl hL hi hcs hI hR hS hl kk)
  · exact lv_tableIn (off := 588) (tgt := 628) hx hb dL_law_40 (by decide) (by decide) (by decide) (by decide) (lw_k_slideAt E hst hF hX hbl hL hi hcs hI hR hS hl kk)
  · exact lv_tableIn (off := 656) (tgt := 696) hx hb dL_law_40 (by decide) (by decide) (by decide) (by decide) (lw_k_base E hst hF hX hbl hL hi hcs hI hR hS hl kk)
  · exact lv_tableIn (off := 724) (tgt := 764) hx hb dL_law_40 (by decide) (by decide) (by decide) (by decide) (lw_k_clashes E hst hF hX hbl hL hi hcs hI hR hS hl kk)
  · exact lv_tableIn (off := 792) (tgt := 832) hx hb dL_law_40 (by decide) (by decide) (by decide) (by decide) (lw_k_merged E hst hF hX hbl hL hi hcs hI hR hS hl kk)
  · exact lv_tableIn (off := 896) (tgt := 936) hx hb dL_law_40 (by decide) (by decide) (by decide) (by decide) (lw_k_merge E hst hF hX hbl hL hi hcs hI hR hS hl kk)
  · exact lv_tableIn (off := 976) (tgt := 1016) hx hb dL_law_40 (by decide) (by decide) (by decide) (by decide) (lw_k_rule E hst hF hX hbl hL hi hcs hI hR hS hl kk)
  · exact lv_tableIn (off := 1068) (tgt := 1108) hx hb dL_law_40 (by decide) (by decide) (by decide) (by decide) (lw_k_tighten E hst hF hX hbl hL hi hcs hI hR hS hl kk)
  · exact lv_tableIn (off := 1148) (tgt := 1188) hx hb dL_law_40 (by decide) (by decide) (by decide) (by decide) (lw_k_waive E hst hF hX hbl hL hi hcs hI hR hS hl kk)
  · exact lv_tableIn (off := 1228) (tgt := 1268) hx hb dL_law_40 (by decide) (by decide) (by decide) (by decide) (lw_k_blocks E hst hF hX hbl hL hi hcs hI hR hS hl kk)
  · exact lv_tableIn (off := 1284) (tgt := 1324) hx hb dL_law_40 (by decide) (by decide) (by decide) (by decide) (lw_k_warnings E hst hF hX hbl hL hi hcs hI hR hS hl kk)
  · exact lv_tableIn (off := 1340) (tgt := 1380) hx hb dL_law_40 (by decide) (by decide) (by decide) (by decide) (lw_k_firstBlock E hst hF hX hbl hL hi hcs hI hR hS hl kk)
  · exact lv_tableIn (off := 1396) (tgt := 1436) hx hb dL_law_40 (by decide) (by decide) (by decide) (by decide) (lw_k_show E hst hF hX hbl hL hi hcs hI hR hS hl kk)
  · exact lv_tableIn (off := 1452) (tgt := 1492) hx hb dL_law_40 (by decide) (by decide) (by decide) (by decide) (lw_k_shown E hst hF hX hbl hL hi hcs hI hR hS hl kk)
  · exact lv_tableIn (off := 1508) (tgt := 1548) hx hb dL_law_40 (by decide) (by decide) (by decide) (by decide) (lw_k_pass E hst hF hX hbl hL hi hcs hI hR hS hl kk)
set_option maxHeartbeats 1000000 in
set_option maxRecDepth 100000 in
theorem lw_head (E : CallFix p m c cL_law 7 s args wsL_law RL) (hst : l.stackTraces = false) (hF : lwF s D cy ad ad' o) (hX : va_X b L xs s s.heap) (hbl : b < s.heap.size) (hL : L ≤ 3072) {i : Nat} {H : Heap} {locs : List Loc} {ls : Array Slot} {cells slots : Nat} (hi : i ≤ 100000) (hS : va_S (lwA s) s.heap H locs) (hl : lv_has ls 7 (lwL b o i ad ad')) (kx : W p l e room_1 s m args below meth c H locs cells slots Q (F0 m 1610 ls [])) (kk : i + 6 ≤ L → W p l e room_1 s m args below meth c H locs cells slots Q (F0 m 33 ls [])) : W p l e room_1 s m args below meth c H locs cells slots Q (F0 m 23 ls []) := by
  have hx := E.1
  have hb := E.2.1
  refine lv_iload hx hb dL_law_23 (lv_at hl 0 rfl) ?_
  refine lv_aload_n hx hb dL_law_25 rfl (lv_at hl 4 rfl) ?_
  refine va_slen hx hb hX hbl (Nat.not_le.mpr hbl) hS dL_law_26 ?_
  refine lv_bipush (v := 6) hx hb dL_law_27 (by decide) ?_
  refine lv_isub hx hb dL_law_29 ?_
  refine lv_icmp_gt (tgt := 1610) hx hb dL_law_30 (by decide) (fun _ => kx) (fun cc => ?_)
  refine kk ?_
  have h : ¬ nI L - 6 < nI i := cc
  rw [lw_cond hi (by omega)] at h
  omega
set_option maxHeartbeats 1000000 in
set_option maxRecDepth 100000 in
theorem lw_loop (E : CallFix p m c cL_law 7 s args wsL_law RL) (hst : l.stackTraces = false) (hF : lwF s D cy ad ad' o) (hX : va_X b L xs s s.heap) (hbl : b < s.heap.size) (hL : L ≤ 3072) (kx : ∀ (H : Heap) (locs : List Loc) (ls : Array Slot), va_S (lwA s) s.heap H locs → W p l e room_1 s m args below meth c H locs 601024 7293034 Q (F0 m 1610 ls [])) : ∀ (n j : Nat), L < 6 * j + 6 * n + 6 → 6 * j ≤ L → ∀ (u w : swU) (f : Nat → Int64) (H : Heap) (locs : List Loc) (ls : Array Slot), lwI D cy ad ad' o u w f H → swRl u w → va_S (lwA s) s.heap H locs → lv_has ls 7 (lwL b o (6 * j) ad ad') → W p l e room_1 s m args below meth c H locs (211 + 6 * j) (4204 + 36 * j) Q (F0 m 23 ls []) := by
  have hx := E.1
  have hb := E.2.1
  intro n
  induction n with
  | zero =>
    intro j hn hj u w f H locs ls hI hR hS hl
    refine lw_head E hst hF hX hbl hL (by omega) hS hl ?_ (fun h => absurd h (by omega))
    exact W.widen (by omega) (by omega) (kx H locs ls hS)
  | succ n ih =>
    intro j hn hj u w f H locs ls hI hR hS hl
    refine lw_head E hst hF hX hbl hL (by omega) hS hl (W.widen (by omega) (by omega) (kx H locs ls hS)) (fun h => ?_)
    refine lw_step E hst hF hX hbl hL h ⟨by show _ ≤ 601024; omega, by show _ ≤ 7293034; omega⟩ hI hR hS hl (fun u w f H locs ls hI hR hS hl => ?_)
    refine lv_iinc (v := nI (6 * j + 6)) (lv' := lwL b o (6 * j + 6) ad ad') hx hb dL_law_1604 hl (k := 0) rfl (nI_addk (6 * j) 6) (by decide) rfl (fun ls hl => ?_)
    refine lv_goto (tgt := 23) hx hb dL_law_1607 (by decide) ?_
    have hgo := ih (j + 1) (by omega) (by omega) u w f H locs ls hI hR hS (by rw [show 6 * (j + 1) = 6 * j + 6 by omega]; exact hl)
    rw [show 211 + 6 * (j + 1) = 211 + 6 * j + 6 by omega, show 4204 + 36 * (j + 1) = 4204 + 36 * j + 36 by omega] at hgo
    exact hgo
end LAWLOOP
theorem lw_ra1 {s : State} {args : Array Value} {ty : FieldType} (hp : ∀ C, ty ≠ .object C) (h : (Cond.arrayClass ty).before args s = true) : ∃ cA : ClassId, ArrOfT s cA ty ∧ va_RA s cA ty := by
  obtain ⟨cA, kA, comp, h1, h2, h3⟩ := Cond.arrayClass_spec h
  refine ⟨cA, fun n z => ⟨fun k h => (by cases h), kA, h2, comp, h3⟩, ?_⟩
  cases ty with
  | object C => exact absurd rfl (hp C)
  | _ => exact h1
theorem lw_ra2 {s : State} {args : Array Value} {C : String} (h : (Cond.arrayOver (.object C)).before args s = true) : ∃ cA : ClassId, ArrOfT s cA (.object C) ∧ va_RA s cA (.object C) := by
  obtain ⟨comp, cA, kA, h1, h2, h3, h4, h5⟩ := Cond.arrayOver_spec h
  exact ⟨cA, fun n z => ⟨fun k h => (by cases h), kA, h3, comp, h4⟩, kA, comp, h3, h4, h1, h5⟩
