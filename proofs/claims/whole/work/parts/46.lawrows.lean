/-! ===== THE LAW'S BODY: rows ===== -/
abbrev lwA (s : State) : Nat → Prop := fun q => s.heap.size ≤ q
def lwX0 (s : State) : Prop := vx_Zq Bundle.tN "UNASSIGNED_STACK" Bundle.steD (lwA s) s s.heap ∧ vx_Zq Bundle.tN "SUPPRESSED_SENTINEL" Bundle.listD (lwA s) s s.heap ∧ ((∀ k, va_Nw (.castable (swE k) (swE k)) s) ∧ ∀ Y ∈ swYs, va_Nw (.declares (Bundle.initS Y)) s) ∧ ∀ q ∈ swStrs, ∃ a, vk_R RX5 q.1 q.2 a s
theorem lw_X {s U : State} {ad : Nat → Nat} {H : Heap} {locs : List Loc} (h : lwX0 s) (hS : va_S (lwA s) s.heap H locs) (hA : ∀ q, xwA0 ad q → lwA s q) (hU : U.heap = H) (hW : s.WarmedH U.vm) : swX ad U := by
  obtain ⟨z1, z2, ⟨w1, w2⟩, h4⟩ := h
  refine ⟨?_, ?_, ⟨fun k => va_Nw.warmC hW (w1 k), fun Y hY => va_Nw.warmD hW (w2 Y hY)⟩, fun q hq => ?_⟩
  · rw [hU]
    exact vx_Zq.moved hW.alike (swZq_of (z1.kept hS.2.1) (fun q _ h => hA q h))
  · rw [hU]
    exact vx_Zq.moved hW.alike (swZq_of (z2.kept hS.2.1) (fun q _ h => hA q h))
  · obtain ⟨a, ha⟩ := h4 q hq
    exact ⟨a, ha.warm hW⟩
def lwI (D : va_G) (cy : Nat → ClassId) (ad ad' : Nat → Nat) (o : Nat) (u w : swU) (f : Nat → Int64) (H : Heap) : Prop := xwP D cy ad u H ∧ mwP D cy ad' w H ∧ va_at D vwCl (o, swO cy f) H
def lwF (s : State) (D : va_G) (cy : Nat → ClassId) (ad ad' : Nat → Nat) (o : Nat) : Prop := swJ xw_N ad ∧ swJ mw_N ad' ∧ (∀ c, xw_N c = true → ad c ≠ o) ∧ (∀ d, mw_N d = true → ad' d ≠ o) ∧ (∀ c d, xw_N c = true → mw_N d = true → ad c ≠ ad' d) ∧ (∀ c, xw_N c = true → s.heap.size ≤ ad c) ∧ (∀ d, mw_N d = true → s.heap.size ≤ ad' d) ∧ s.heap.size ≤ o ∧ swK D cy s ∧ swNc s ∧ lwX0 s
/-- the law's tail of a call, behind the reference's: by where it begins -/
def lwD (P : Nat) (off : Int) : Prop := decode cL_law P = .ok (.istore 6, 2) ∧ decode cL_law (P + 2) = .ok (.aload_n 2, 1) ∧ decode cL_law (P + 3) = .ok (.invokevirtual 93, 3) ∧ decode cL_law (P + 6) = .ok (.iload 5, 2) ∧ decode cL_law (P + 8) = .ok (.if_icmp .eq 5, 3) ∧ decode cL_law (P + 13) = .ok (.iload 5, 2) ∧ decode cL_law (P + 15) = .ok (.ifCond .ne 15, 3) ∧ decode cL_law (P + 18) = .ok (.aload_n 3, 1) ∧ decode cL_law (P + 19) = .ok (.iconst 0, 1) ∧ decode cL_law (P + 20) = .ok (.laload, 1) ∧ decode cL_law (P + 21) = .ok (.iload 6, 2) ∧ decode cL_law (P + 23) = .ok (.i2l, 1) ∧ decode cL_law (P + 24) = .ok (.lcmp, 1) ∧ decode cL_law (P + 25) = .ok (.ifCond .eq 5, 3) ∧ decode cL_law (P + 30) = .ok (.goto off, 3)
theorem nI_addk (a b : Nat) : nI a + nI b = nI (a + b) := by
  induction b with
  | zero =>
    have h0 : nI 0 = 0 := rfl
    rw [h0, Int32.add_zero, Nat.add_zero]
  | succ b ih => rw [nI_succ, ← Int32.add_assoc, ih, ← nI_succ, Nat.add_assoc]
section LAWROWS
variable {p : Program} {l : Launch} {e : Env} {R : Room} {s : State} {m : MethodId} {args : Array Value} {below : List Frame} {meth : Method} {c : Code} {H : Heap} {locs : List Loc} {cells slots : Nat} {Q : State → Prop}
variable {cc : ByteArray} {pc : Nat} {ls : Array Slot} {rest : List Value} {D : va_G} {cy : Nat → ClassId} {ad ad' : Nat → Nat} {u w u2 w2 : swU} {o : Nat} {f f0 : Nat → Int64}
variable {nL index n maxL mc ms : Nat} {Ts ws : List Cond} {own : String} {y : MethodName} {bytes : ByteArray} {ret : Option FieldType} {hh : List (Nat × Nat × Nat × Nat)} {rm : Room} {As st : List Value}
theorem lw_callL {r0 : Int32} (E : CallFix p m c cc nL s args Ts own) (hF : lwF s D cy ad ad' o) (hM : Met l y ws rm (xlC D cy ad u H.size o f As) (xlQ D cy ad H.size o r0 f0 u2) mc ms (xlA ad H.size o)) (cw : vx_CSW R s args own index y bytes maxL ret hh ws rm mc ms n) (hI : lwI D cy ad ad' o u w f H) (hS : va_S (lwA s) s.heap H locs) (hcs : cells + mc ≤ R.cells ∧ slots + ms ≤ R.slots) (hn : As.length = n) (hsize : ls.size = nL) (hst : st = As.reverse ++ rest) (hroom : (rest.map fun v => v.category).sum ≤ 8) (hdg : decode cc pc = .ok (.invokestatic index, 3))
    (kk : ∀ (H1 : Heap) (locs1 : List Loc), lwI D cy ad ad' o u2 w f0 H1 → va_S (lwA s) s.heap H1 locs1 → W p l e R s m args below meth c H1 locs1 (cells + mc) (slots + ms) Q (F0 m (pc + 3) ls (.int r0 :: rest))) : W p l e R s m args below meth c H locs cells slots Q (F0 m pc ls st) := by
  obtain ⟨hJ, hJ', ho, ho', hne, hxs, hms, hoS, hK, hNc, hX0⟩ := hF
  obtain ⟨hP, hP', hO⟩ := hI
  have hAA : ∀ q, xwA0 ad q → lwA s q := fun q hq => by
    obtain ⟨c, hc, rfl⟩ := hq
    exact hxs c hc
  have hfr : ∀ q, xlA ad H.size o q → lwA s q := fun q hq => by
    rcases hq with (hq | hq) | hq
    · exact hAA q hq
    · exact Nat.le_trans hS.1 hq
    · rw [hq]
      exact hoS
  refine va_calli (vx_runSW E hM cw ⟨xlC_blind, fun U hU hW => ⟨rfl, by rw [hU]; exact hP, va_K.moved hW.alike hK, lw_X hX0 hS hAA hU hW, fun j k h1 h2 h3 => (hNc j k h1 h2 h3).moved hW.alike, by rw [hU], by rw [hU]; exact hO⟩⟩ rfl hn hsize hst (lv_room hroom) hdg hcs) hS (fun q _ h => hfr q h) hfr (fun r _ t H1 locs1 ht _ hr hB hz hk hS1 => ?_)
  obtain ⟨hB1, hB2⟩ := hB
  rw [ht] at hB1 hB2
  rw [hr]
  refine kk H1 locs1 ⟨hB1, hP'.kept hk (fun d hd h => ?_), hB2⟩ hS1
  rcases h with (⟨c, hc, e⟩ | h) | h
  · exact hne c d hc hd e.symm
  · have : ad' d < H.size := (hP' d hd).lt
    omega
  · exact ho' d hd h
theorem lw_callM {r0 : Int32} (E : CallFix p m c cc nL s args Ts own) (hF : lwF s D cy ad ad' o) (hM : Met l y ws rm (mwC D cy ad' w (.ref (ad' 0) :: As)) (mwQi D cy ad' r0 w2) 0 0 (mwA ad')) (cw : CallW R s args own RX6 index y bytes maxL ret ws rm 0 0 n) (hI : lwI D cy ad ad' o u w f H) (hS : va_S (lwA s) s.heap H locs) (hcs : cells ≤ R.cells ∧ slots ≤ R.slots) (hn : As.length = n) (hsize : ls.size = nL) (hst : st = As.reverse ++ .ref (ad' 0) :: rest) (hroom : (rest.map fun v => v.category).sum ≤ 8) (hdg : decode cc pc = .ok (.invokevirtual index, 3))
    (kk : ∀ (H1 : Heap) (locs1 : List Loc), lwI D cy ad ad' o u w2 f H1 → va_S (lwA s) s.heap H1 locs1 → W p l e R s m args below meth c H1 locs1 cells slots Q (F0 m (pc + 3) ls (.int r0 :: rest))) : W p l e R s m args below meth c H locs cells slots Q (F0 m pc ls st) := by
  obtain ⟨hJ, hJ', ho, ho', hne, hxs, hms, hoS, hK, hNc, hX0⟩ := hF
  obtain ⟨hP, hP', hO⟩ := hI
  have hfr : ∀ q, mwA ad' q → lwA s q := fun q hq => by
    obtain ⟨d, hd, rfl⟩ := hq
    exact hms d hd
  refine va_calli (va_runV E hM cw ⟨mwC_blind, mw_recv hK hP', fun U hU hW => ⟨rfl, by rw [hU]; exact hP', va_K.moved hW.alike hK⟩⟩ rfl hn hsize hst (lv_room hroom) hdg hcs) hS (fun q _ h => hfr q h) hfr (fun r _ t H1 locs1 ht _ hr hB hz hk hS1 => ?_)
  have hB : mwP D cy ad' w2 t.heap := hB
  rw [ht] at hB
  rw [hr]
  refine kk H1 locs1 ⟨hP.kept hk (fun c hc h => ?_), hB, hO.kept (hk o hO.lt (fun h => ?_))⟩ hS1
  · obtain ⟨d, hd, e⟩ := h
    exact hne c d hc hd e
  · obtain ⟨d, hd, e⟩ := h
    exact ho' d hd e.symm
theorem lw_callT {r0 : Int32} (E : CallFix p m c cc nL s args Ts own) (hF : lwF s D cy ad ad' o) (hM : Met l y ws rm (mwC D cy ad' w (.ref (ad' 0) :: As)) (vp_Si (fun r : Int32 => r = r0)) 0 0 (fun _ => False)) (cw : CallW R s args own RX6 index y bytes maxL ret ws rm 0 0 n) (hI : lwI D cy ad ad' o u w f H) (hcs : cells ≤ R.cells ∧ slots ≤ R.slots) (hn : As.length = n) (hsize : ls.size = nL) (hst : st = As.reverse ++ .ref (ad' 0) :: rest) (hroom : (rest.map fun v => v.category).sum ≤ 8) (hdg : decode cc pc = .ok (.invokevirtual index, 3))
    (kk : W p l e R s m args below meth c H locs cells slots Q (F0 m (pc + 3) ls (.int r0 :: rest))) : W p l e R s m args below meth c H locs cells slots Q (F0 m pc ls st) := by
  obtain ⟨hJ, hJ', ho, ho', hne, hxs, hms, hoS, hK, hNc, hX0⟩ := hF
  obtain ⟨hP, hP', hO⟩ := hI
  exact vp_callSi (W.runV E hM cw ⟨mwC_blind, mw_recv hK hP', fun U hU hW => ⟨rfl, by rw [hU]; exact hP', va_K.moved hW.alike hK⟩⟩ rfl hn hsize hst (lv_room hroom) hdg hcs) (fun r hr => by rw [hr]; exact kk)
/-- script[i + k] -/
theorem lw_arg (hexec : p.tables.exec = Jvm.exec) (hb : c.code = cc) {b L i k ka kb nl : Nat} {xs : Nat → Int32} {kI : Int} (hX : va_X b L xs s s.heap) (hbl : b < s.heap.size) (hS : va_S (lwA s) s.heap H locs) {lv : List (Nat × Value)} (hl : lv_has ls nl lv) (h0 : lv[ka]? = some (0, .ref b)) (h4 : lv[kb]? = some (4, .int (nI i))) (hk : i + k < L) (hL : L ≤ 3072) (hkI : Int32.ofInt kI = nI k)
    (d1 : decode cc pc = .ok (.aload_n 0, 1)) (d2 : decode cc (pc + 1) = .ok (.iload 4, 2)) (d3 : decode cc (pc + 3) = .ok (.iconst kI, 1)) (d4 : decode cc (pc + 4) = .ok (.iadd, 1)) (d5 : decode cc (pc + 5) = .ok (.iaload, 1))
    (kk : W p l e R s m args below meth c H locs cells slots Q (F0 m (pc + 6) ls (.int (xs (i + k)) :: rest))) : W p l e R s m args below meth c H locs cells slots Q (F0 m pc ls rest) := by
  refine lv_aload_n hexec hb d1 rfl (lv_at hl ka h0) ?_
  refine lv_iload hexec hb d2 (lv_at hl kb h4) ?_
  refine lv_iconst hexec hb d3 hkI ?_
  refine lv_iadd hexec hb d4 ?_
  refine sw_top (nI_addk i k).symm ?_
  refine va_sld (xs := xs) hexec hb hX hbl (Nat.not_le.mpr hbl) hS (nI_in hk (by omega)) d5 ?_
  exact sw_top (congrArg xs (nI_clamp (by omega)).symm) kk
end LAWROWS
section LAWTAIL
variable {p : Program} {l : Launch} {e : Env} {s : State} {m : MethodId} {args : Array Value} {below : List Frame} {meth : Method} {c : Code} {H : Heap} {locs : List Loc} {cells slots : Nat} {Q : State → Prop}
variable {ls : Array Slot} {D : va_G} {cy : Nat → ClassId} {ad ad' : Nat → Nat} {u w : swU} {o b i : Nat} {f : Nat → Int64}
abbrev lwL (b o i : Nat) (ad ad' : Nat → Nat) : List (Nat × Value) := [(4, .int (nI i)), (3, .ref o), (2, .ref (ad' 0)), (1, .ref (ad 0)), (0, .ref b)]
theorem lw_tail (E : CallFix p m c cL_law 7 s args wsL_law RL) (hF : lwF s D cy ad ad' o) (hcs : cells ≤ room_1.cells ∧ slots ≤ room_1.slots) {P : Nat} {off : Int} (hd : lwD P off) (hoff : ((P + 30 : Nat) : Int) + off = ((1604 : Nat) : Int)) {k r : Int32} (hI : lwI D cy ad ad' o u w f H) (ht : w.1 0 0 = k) (hr : k = 0 → f 0 = r.toInt64) (hl : lv_has ls 7 ((5, .int k) :: lwL b o i ad ad'))
    (kk : ∀ ls : Array Slot, lv_has ls 7 (lwL b o i ad ad') → W p l e room_1 s m args below meth c H locs cells slots Q (F0 m 1604 ls [])) : W p l e room_1 s m args below meth c H locs cells slots Q (F0 m P ls [.int r]) := by
  obtain ⟨d0, d2, d3, d6, d8, d13, d15, d18, d19, d20, d21, d23, d24, d25, d30⟩ := hd
  have hx := E.1
  have hb := E.2.1
  have hts := E.2.2.2.2
  refine lv_istore (lv' := (6, .int r) :: (5, .int k) :: lwL b o i ad ad') hx hb d0 hl (by decide) rfl (fun ls hl => ?_)
  refine lv_aload_n hx hb d2 rfl (lv_at hl 4 rfl) ?_
  refine lw_callT (As := []) (rest := []) E hF (mm_thrown l D cy ad' w (w.1 0 0) rfl) (cwV 0 hts gL_law_X6_thrown rfl rfl rfl (by decide +kernel) ⟨Nat.le_of_ble_eq_true rfl, Nat.le_of_ble_eq_true rfl⟩) hI hcs rfl hl.1 rfl (Nat.le_of_ble_eq_true rfl) d3 ?_
  refine lv_iload hx hb d6 (lv_at hl 1 rfl) ?_
  refine lv_icmp_eq (tgt := P + 13) hx hb d8 (by omega) (fun _ => ?_) (fun cc => absurd ht cc)
  refine lv_iload hx hb d13 (lv_at hl 1 rfl) ?_
  have hend : W p l e room_1 s m args below meth c H locs cells slots Q (F0 m (P + 30) ls []) := by
    refine lv_goto (tgt := 1604) hx hb d30 hoff ?_
    exact kk ls (lv_sub hl [2, 3, 4, 5, 6] rfl)
  refine lv_if_ne (tgt := P + 30) hx hb d15 (by omega) (fun _ => hend) (fun k0 => ?_)
  refine lv_aload_n hx hb d18 rfl (lv_at hl 3 rfl) ?_
  refine lv_iconst (v := 0) hx hb d19 (by decide) ?_
  have hPo : va_P D vwCl [(o, swO cy f)] H := fun j q hk => by
    match j, hk with
    | 0, hk => cases hk; exact hI.2.2
  refine va_lald (tys := swT cy) hx hb hF.2.2.2.2.2.2.2.2.1 hPo 0 5 rfl rfl (swix_s (by decide)) d20 ?_
  refine lv_iload hx hb d21 (lv_at hl 0 rfl) ?_
  refine lv_i2l hx hb d23 rfl ?_
  refine W.lcmp hx hb d24 ?_
  refine lv_if_eq (tgt := P + 30) hx hb d25 (by omega) (fun _ => hend) (fun cc => ?_)
  refine absurd ?_ cc
  have hf : f (0 : Int32).toNatClampNeg = r.toInt64 := hr k0
  rw [hf]
  unfold lg_cmp
  simp
end LAWTAIL
