/-! ===== edits ===== -/
section LIT
variable {α : Type} {f : Nat → Int32} {k : Int32 → Option α} {q : Option α}
theorem sl0 : swrd 6 f 0 k = k (f 0) := swrd_n (i := 0) (by omega) (by omega)
theorem sl1 : swrd 6 f 1 k = k (f 1) := swrd_n (i := 1) (by omega) (by omega)
theorem sl2 : swrd 6 f 2 k = k (f 2) := swrd_n (i := 2) (by omega) (by omega)
theorem sl3 : swrd 6 f 3 k = k (f 3) := swrd_n (i := 3) (by omega) (by omega)
theorem sl4 : swrd 6 f 4 k = k (f 4) := swrd_n (i := 4) (by omega) (by omega)
theorem sl5 : swrd 6 f 5 k = k (f 5) := swrd_n (i := 5) (by omega) (by omega)
theorem sg1 : swgd (swix (1 : Int32) 6) q = q := swgd_n (i := 1) (by omega) (by omega)
theorem sg2 : swgd (swix (2 : Int32) 6) q = q := swgd_n (i := 2) (by omega) (by omega)
theorem sg3 : swgd (swix (3 : Int32) 6) q = q := swgd_n (i := 3) (by omega) (by omega)
theorem sg4 : swgd (swix (4 : Int32) 6) q = q := swgd_n (i := 4) (by omega) (by omega)
theorem sg5 : swgd (swix (5 : Int32) 6) q = q := swgd_n (i := 5) (by omega) (by omega)
end LIT
theorem sc1 : Int32.toNatClampNeg (1 : Int32) = 1 := by decide
theorem sc2 : Int32.toNatClampNeg (2 : Int32) = 2 := by decide
theorem sc3 : Int32.toNatClampNeg (3 : Int32) = 3 := by decide
theorem sc4 : Int32.toNatClampNeg (4 : Int32) = 4 := by decide
theorem sc5 : Int32.toNatClampNeg (5 : Int32) = 5 := by decide
theorem lwput_I {w : lyU} {c k v s : Nat} {x : Int32} {q : Int64} {v' s' : Nat} (hs : s < 6) (hs' : s' < 6) : lwget (lyI (lwput w v s q) c k x) v' s' = if v' = v ∧ s' = s then q else lwget w v' s' := lwput_at w hs hs' q
set_option maxHeartbeats 1000000 in
theorem la_edits0 {t nv nb ns : Nat} {hd : Nat → Nat} {sh mo cm ot : Nat → Int32} {am : Nat → Nat} {dk : Nat → swD} {E : swEv} {u : swU} {w : lyU} (h : lwR t nv nb ns hd sh mo cm ot am dk E u w) (z : Int32) : ∃ u' w', lx_edits u w 0 z = some (1, u', w') ∧ lwRx t u' w' := by
  have hR : lwRx t u w := ⟨nv, nb, ns, hd, sh, mo, cm, ot, am, dk, E, h⟩
  have hL := h
  obtain ⟨h1, h2, h3, h4, h5, h6, hA, h7, h8, n21, n6, hday⟩ := h
  have hb6 := h2.2.1
  obtain ⟨b, hb, eb⟩ := la_low z (n := nb) (by have := h2.1; omega) (by omega)
  obtain ⟨hh, c1, c2⟩ := h4 b hb
  obtain ⟨hc, hD, hw, hv⟩ := h7 _ hh
  have hdg := srW_dg hw (by omega)
  have hcnt := srW_cnt hw (by omega)
  have emany : lx_many (w.1 2 (hd b)) = some (nI (dk (hd b)).1) := by
    rw [hD.1]
    exact la_many (by omega) hdg
  have q80 := h1.2.2.2
  have q82 := h2.2.2.2
  have q81 := h3.2.2
  by_cases e21 : nv = 21
  · refine ⟨u, w, ?_, hR⟩
    have n21' : (nI nv = 21) = True := by rw [e21]; exact eq_true rfl
    unfold lx_edits
    simp (disch := omega) only [swlt_e, swbd_e, swrd_n, swgd_n, nI_clamp, sw8m, sw4m, sw4r, nI_add, nI_1, swsub, swsubn, sw4le, swleI, swltI, sweqI, sweqm, sw0add, if_pos, if_neg, if_true, if_false, sw1n0, sw0n1, eq_self, ↓reduceIte, sl2, sl0, q82, eb, c2, emany, q80, n21']
  have n21' : (nI nv = 21) = False := eq_false (by rw [show (21 : Int32) = nI 21 from rfl, nI_eq (by omega) (by omega)]; exact e21)
  by_cases e6 : ns = 6
  · refine ⟨u, w, ?_, hR⟩
    have n6' : (nI ns = 6) = True := by rw [e6]; exact eq_true rfl
    unfold lx_edits
    simp (disch := omega) only [swlt_e, swbd_e, swrd_n, swgd_n, nI_clamp, sw8m, sw4m, sw4r, nI_add, nI_1, swsub, swsubn, sw4le, swleI, swltI, sweqI, sweqm, sw0add, if_pos, if_neg, if_true, if_false, sw1n0, sw0n1, eq_self, ↓reduceIte, sl2, sl0, sl1, q82, eb, c2, emany, q80, n21', q81, n6']
  have n6' : (nI ns = 6) = False := eq_false (by rw [show (6 : Int32) = nI 6 from rfl, nI_eq (by omega) (by omega)]; exact e6)
  obtain ⟨p, hp, ep⟩ := la_low (swshr z 3) (n := (dk (hd b)).1 + 1) (by omega) (by omega)
  obtain ⟨w1, ew, CP⟩ := la_copy q80 (by omega) (by omega) c2 hh
  have k2 : w1.1 2 nv = nI (sword (dk (hd b)).2.1 (dk (hd b)).1) := CP.2.2.2.2.1.trans hD.1
  have k81 : w1.1 8 1 = nI ns := (CP.2.1 1 (by omega)).trans q81
  have hS : sword (dk (hd b)).2.1 (dk (hd b)).1 < 16777216 := Nat.lt_of_lt_of_le (sword_lt _ hdg) (la_8 _ (by omega))
  have e1 := la_ahead (sword (dk (hd b)).2.1 (dk (hd b)).1) (p := p) (by omega)
  have e2 := la_ordadd (S := sword (dk (hd b)).2.1 (dk (hd b)).1) (p := p) (c := ns + 1) (by omega) hS (by omega)
  have e3 := sword_ins (c := nI ns) (show p ≤ (dk (hd b)).1 by omega) hdg
  rw [nI_clamp (by omega)] at e3
  rw [← e3] at e2
  obtain ⟨u', f1, MV, g8⟩ := oc_add h1 h2 h3 h4 h6 h7 hb (show p ≤ (dk (hd b)).1 by omega) (by omega) (by omega) (by omega)
  have l40 : (1099511627776 : Int64) = lN (2 ^ 40) := rfl
  generalize hX : sword (fun k => if k < p then (dk (hd b)).2.1 k else if k = p then nI ns else (dk (hd b)).2.1 (k - 1)) ((dk (hd b)).1 + 1) = X at e2
  have eput := la_put (lyI w1 2 nv (nI X)) (v := nv) (s := ns) (by omega) (by omega) (lN (2 ^ 40))
  refine ⟨u', lyI (lwput (lyI w1 2 nv (nI X)) nv ns (lN (2 ^ 40))) 8 1 (nI (ns + 1)), ?_, ?_⟩
  · unfold lx_edits
    simp (disch := omega) only [swlt_e, swbd_e, swrd_n, swgd_n, nI_clamp, sw8m, sw4m, sw4r, nI_add, nI_1, swsub, swsubn, sw4le, swleI, swltI, sweqI, sweqm, sw0add, if_pos, if_neg, if_true, if_false, sw1n0, sw0n1, eq_self, ↓reduceIte, sl2, sl0, sl1, q82, eb, c2, emany, q80, n21', q81, n6', ep, ew, k2, k81, e1, e2, l40, eput, lyI_ne, lwput_1, sg1, sc1, f1, swnx_e, lyI_self, nI_pred]
  · have hdw := srW_ins hw (by omega) (show p ≤ (dk (hd b)).1 by omega)
    refine lwR_new hL hb (by omega) (srA_ed hA hh) (ns' := ns + 1) (by omega) (by omega) g8 lyI_self MV ?_ hdw (srV_ins hv (by omega))
    refine lyMW_ed CP (by omega) (by omega) ((h6 _ hh).2.2.2.2.1) ?_ ?_ ?_ ?_ ?_ ?_ ?_ ?_ ?_ ?_
    · rw [lyI_k (by omega), lwput_1, lyI_ne (by omega)]
    · intro k k0 k1
      rw [lyI_k k1, lwput_1, lyI_ne (by omega)]
    · rw [lyI_ne (by omega), lwput_1, lyI_ne (by omega)]
    · rw [lyI_ne (by omega), lwput_1, lyI_ne (by omega)]
    · rw [lyI_ne (by omega), lwput_1, lyI_ne (by omega)]
    · intro k hk
      rw [lyI_ne (by omega), lwput_1, lyI_k hk]
    · rw [lyI_ne (by omega), lwput_1, lyI_ne (by omega)]
    · rw [lyI_ne (by omega), lwput_1, lyI_ne (by omega)]
    · intro v s hs hv
      rw [lwput_I (by omega) hs, if_neg (fun z => hv z.1)]
      rfl
    · refine ⟨?_, fun s hs => ?_⟩
      · rw [lyI_ne (by omega), lwput_1, lyI_self]
        exact congrArg nI hX.symm
      · rw [lwput_I (by omega) hs, swits_ins hw n6 (by omega) (by omega)]
        by_cases e : s = ns
        · rw [if_pos ⟨rfl, e⟩, if_pos e]
        · rw [if_neg (fun z => e z.2), if_neg e]
          show lwget w1 nv s = _
          rw [CP.2.2.2.2.2.2.2.2.2.2.1 s hs]
          exact hD.2 s hs
theorem la_slide {d : swD} {ns p : Nat} (hw : srW ns d) (hns : ns ≤ 6) (hp : p < d.1) (h8 : d.1 ≤ 8) : (swrem (swshr (nI (sword d.2.1 d.1)) ((3 : Int32) * nI p)) 8) - 1 = d.2.1 p ∧ ∃ q, q < ns ∧ d.2.1 p = nI q := by
  have hdg := srW_dg hw (by omega)
  obtain ⟨q, hq, e⟩ := hw.2.1 p hp
  refine ⟨?_, q, hq, e⟩
  rw [la_digit h8 hdg (by omega), sword_at _ _ hp hdg, e, nI_clamp (by omega), nI_pred]
theorem swi_m10 : ((2 : Int32) = 0) = False := swi20
set_option maxHeartbeats 1000000 in
theorem la_edits1 {t nv nb ns : Nat} {hd : Nat → Nat} {sh mo cm ot : Nat → Int32} {am : Nat → Nat} {dk : Nat → swD} {E : swEv} {u : swU} {w : lyU} (h : lwR t nv nb ns hd sh mo cm ot am dk E u w) (z : Int32) : ∃ u' w', lx_edits u w 1 z = some (1, u', w') ∧ lwRx t u' w' := by
  have hR : lwRx t u w := ⟨nv, nb, ns, hd, sh, mo, cm, ot, am, dk, E, h⟩
  have hL := h
  obtain ⟨h1, h2, h3, h4, h5, h6, hA, h7, h8, n21, n6, hday⟩ := h
  have hb6 := h2.2.1
  obtain ⟨b, hb, eb⟩ := la_low z (n := nb) (by have := h2.1; omega) (by omega)
  obtain ⟨hh, c1, c2⟩ := h4 b hb
  obtain ⟨hc, hD, hw, hv⟩ := h7 _ hh
  have hdg := srW_dg hw (by omega)
  have hcnt := srW_cnt hw (by omega)
  have emany : lx_many (w.1 2 (hd b)) = some (nI (dk (hd b)).1) := by
    rw [hD.1]
    exact la_many (by omega) hdg
  have emany' : lx_many (nI (sword (dk (hd b)).2.1 (dk (hd b)).1)) = some (nI (dk (hd b)).1) := la_many (by omega) hdg
  have q80 := h1.2.2.2
  have q82 := h2.2.2.2
  have q81 := h3.2.2
  by_cases e21 : nv = 21
  · refine ⟨u, w, ?_, hR⟩
    have n21' : (nI nv = 21) = True := by rw [e21]; exact eq_true rfl
    unfold lx_edits
    simp (disch := omega) only [swlt_e, swbd_e, swrd_n, swgd_n, nI_clamp, sw8m, sw4m, sw4r, nI_add, nI_1, swsub, swsubn, sw4le, swleI, swltI, sweqI, sweqm, sw0add, if_pos, if_neg, if_true, if_false, sw1n0, sw0n1, eq_self, ↓reduceIte, sl2, sl0, q82, eb, c2, emany, q80, n21']
  have n21' : (nI nv = 21) = False := eq_false (by rw [show (21 : Int32) = nI 21 from rfl, nI_eq (by omega) (by omega)]; exact e21)
  by_cases e0 : (dk (hd b)).1 = 0
  · refine ⟨u, w, ?_, hR⟩
    have n0' : (nI (dk (hd b)).1 = 0) = True := by rw [e0]; exact eq_true rfl
    unfold lx_edits
    simp (disch := omega) only [swlt_e, swbd_e, swrd_n, swgd_n, nI_clamp, sw8m, sw4m, sw4r, nI_add, nI_1, swsub, swsubn, sw4le, swleI, swltI, sweqI, sweqm, sw0add, if_pos, if_neg, if_true, if_false, sw1n0, sw0n1, eq_self, ↓reduceIte, sl2, sl0, q82, eb, c2, emany, q80, n21', n0']
  have n0' : (nI (dk (hd b)).1 = 0) = False := eq_false (nI_ne0 (by omega) (by omega))
  obtain ⟨p, hp, ep⟩ := la_low (swshr z 3) (n := (dk (hd b)).1) (by omega) (by omega)
  obtain ⟨w1, ew, CP⟩ := la_copy q80 (by omega) (by omega) c2 hh
  obtain ⟨es, q, hq, eq⟩ := la_slide hw n6 hp (by omega)
  obtain ⟨o, ho, eo⟩ := la_low (swshr z 5) (n := 4) (by omega) (by omega)
  obtain ⟨x0, hx0, ex0⟩ := la_low (swshr z 7) (n := 4) (by omega) (by omega)
  obtain ⟨x9, hx9, ex9⟩ := la_low (swshr z 7) (n := 9) (by omega) (by omega)
  have eo : lx_low (swshr z 5) 4 = some (nI o) := eo
  have ex0 : lx_low (swshr z 7) 4 = some (nI x0) := ex0
  have ex9 : lx_low (swshr z 7) 9 = some (nI x9) := ex9
  have hhas : swhas (dk (hd b)) (nI q) = true := by
    rw [← eq]
    exact swhas_row hp
  have hpl : swpl (dk (hd b)) (nI q) = p := (swpl_of hw hp eq).1
  have eg := la_get w1 (v := nv) (s := q) (by omega) (by omega)
  rw [CP.2.2.2.2.2.2.2.2.2.2.1 q (by omega), hD.2 q (by omega)] at eg
  have ev := swits_val hv hhas ho
  obtain ⟨vlt, veq⟩ := srV_vn hv hhas ho
  have hval : swval (dk (hd b)) (nI q) o = (dk (hd b)).2.2 p o := by
    unfold swval
    rw [hpl]
  have key : ∀ x : Nat, x < 1000 → ∃ u' w', lx_edits u w 1 z = some (1, u', w') ∧ lwRx t u' w' ∨ ¬ (if x0 = 0 then 0 else x9 * 111) = x := fun x hx => by
    by_cases hxe : (if x0 = 0 then 0 else x9 * 111) = x
    · obtain ⟨u', f1, MV, g8⟩ := oc_set h1 h2 h4 h6 h7 hb hp ho (x := x) (by omega) (by omega)
      rw [eq] at f1
      obtain ⟨s1, s2⟩ := swits_set (o := o) (x := x) hw hp ho (by omega) q
      have s1 := s1 eq
      have evn : swvn (dk (hd b)) q o = ((dk (hd b)).2.2 p o).toNatClampNeg := by
        unfold swvn
        rw [hval]
      have hle : swvn (dk (hd b)) q o * 2 ^ (10 * o) ≤ swits (dk (hd b)) q := by
        rw [swits_yes hhas]
        unfold swpk
        rcases (by omega : o = 0 ∨ o = 1 ∨ o = 2 ∨ o = 3) with rfl | rfl | rfl | rfl
        · show _ * 1 ≤ _
          omega
        · show _ * 1024 ≤ _
          omega
        · show _ * 1048576 ≤ _
          omega
        · show _ * 1073741824 ≤ _
          omega
      rw [← evn] at s1
      have ed := la_diff hx vlt ho s1 hle
      rw [veq] at ev
      have eput := la_put w1 (v := nv) (s := q) (by omega) (by omega) (lN (swits (swset (dk (hd b)) p o (nI x)) q))
      have hvo : (dk (hd b)).2.2 p o = nI (swvn (dk (hd b)) q o) := hval.symm.trans veq
      rw [hvo] at f1
      refine ⟨u', lwput w1 nv q (lN (swits (swset (dk (hd b)) p o (nI x)) q)), Or.inl ⟨?_, ?_⟩⟩
      · have hnx : (if nI x0 = 0 then (0 : Int32) else nI x9 * 111) = nI x := by
          by_cases h00 : x0 = 0
          · rw [if_pos h00] at hxe
            rw [h00, ← hxe]
            rfl
          · rw [if_neg h00] at hxe
            rw [if_neg (nI_ne0 (by omega) (by omega)), ← hxe]
            exact pk_mul x9 111
        unfold lx_edits
        by_cases h00 : nI x0 = 0
        · have hn0 : (0 : Int32) = nI x := by rw [if_pos h00] at hnx; exact hnx
          have h00' : (nI x0 = 0) = True := eq_true h00
          simp (disch := omega) only [swlt_e, swbd_e, swrd_n, swgd_n, nI_clamp, sw8m, sw4m, sw4r, nI_add, nI_1, swsub, swsubn, sw4le, swleI, swltI, sweqI, sweqm, sw0add, if_pos, if_neg, if_true, if_false, sw1n0, sw0n1, eq_self, ↓reduceIte, sl2, sl0, q82, eb, c2, emany, q80, n21', n0', ep, hD.1, emany', es, eq, ew, eo, ex0, swjn_e, h00', eg, ev]
          rw [hn0]
          simp (disch := omega) only [swlt_e, swbd_e, swrd_n, swgd_n, nI_clamp, sw8m, sw4m, sw4r, nI_add, nI_1, swsub, swsubn, sw4le, swleI, swltI, sweqI, sweqm, sw0add, if_pos, if_neg, if_true, if_false, sw1n0, sw0n1, eq_self, ↓reduceIte, ed, eput, f1, swnx_e, ev]
        · have hn0 : nI x9 * 111 = nI x := by rw [if_neg h00] at hnx; exact hnx
          have h00' : (nI x0 = 0) = False := eq_false h00
          simp (disch := omega) only [swlt_e, swbd_e, swrd_n, swgd_n, nI_clamp, sw8m, sw4m, sw4r, nI_add, nI_1, swsub, swsubn, sw4le, swleI, swltI, sweqI, sweqm, sw0add, if_pos, if_neg, if_true, if_false, sw1n0, sw0n1, eq_self, ↓reduceIte, sl2, sl0, q82, eb, c2, emany, q80, n21', n0', ep, hD.1, emany', es, eq, ew, eo, ex0, ex9, swjn_e, h00', eg, ev, hn0, ed, eput, f1, swnx_e]
      · have hdw := srW_set (p := p) (o := o) hw (nI_pos (n := x) (by omega))
        refine lwR_new hL hb (by omega) (srA_ed hA hh) (ns' := ns) (by omega) (by omega) (g8.trans h3.2.1) (by rw [lwput_1, CP.2.1 1 (by omega)]; exact q81) MV ?_ hdw (srV_set hv hx)
        refine lyMW_ed CP (by omega) (by omega) ((h6 _ hh).2.2.2.2.1) ?_ ?_ ?_ ?_ ?_ ?_ ?_ ?_ ?_ ?_
        · rw [lwput_1]
        · intro k k0 k1
          rw [lwput_1]
        · rw [lwput_1]
        · rw [lwput_1]
        · rw [lwput_1]
        · intro k hk
          rw [lwput_1]
        · rw [lwput_1]
        · rw [lwput_1]
        · intro v s hs hv
          rw [lwput_at w1 (by omega) hs, if_neg (fun z => hv z.1)]
        · refine ⟨?_, fun s hs => ?_⟩
          · rw [lwput_1, CP.2.2.2.2.1]
            exact hD.1
          · rw [lwput_at w1 (by omega) hs]
            by_cases e : s = q
            · rw [if_pos ⟨rfl, e⟩, e]
            · rw [if_neg (fun z => e z.2), CP.2.2.2.2.2.2.2.2.2.2.1 s hs, hD.2 s hs, (swits_set (o := o) (x := x) hw hp ho (by omega) s).2 (by rw [eq, nI_eq (by omega) (by omega)]; exact fun z => e z.symm)]
    · exact ⟨u, w, Or.inr hxe⟩
  obtain ⟨u', w', hor⟩ := key (if x0 = 0 then 0 else x9 * 111) (by
    by_cases h00 : x0 = 0
    · rw [if_pos h00]
      omega
    · rw [if_neg h00]
      omega)
  rcases hor with hor | hor
  · exact ⟨u', w', hor⟩
  · exact absurd rfl hor
set_option maxHeartbeats 1000000 in
theorem la_edits2 {t nv nb ns : Nat} {hd : Nat → Nat} {sh mo cm ot : Nat → Int32} {am : Nat → Nat} {dk : Nat → swD} {E : swEv} {u : swU} {w : lyU} (h : lwR t nv nb ns hd sh mo cm ot am dk E u w) (z : Int32) : ∃ u' w', lx_edits u w 2 z = some (1, u', w') ∧ lwRx t u' w' := by
  have hR : lwRx t u w := ⟨nv, nb, ns, hd, sh, mo, cm, ot, am, dk, E, h⟩
  have hL := h
  obtain ⟨h1, h2, h3, h4, h5, h6, hA, h7, h8, n21, n6, hday⟩ := h
  have hb6 := h2.2.1
  obtain ⟨b, hb, eb⟩ := la_low z (n := nb) (by have := h2.1; omega) (by omega)
  obtain ⟨hh, c1, c2⟩ := h4 b hb
  obtain ⟨hc, hD, hw, hv⟩ := h7 _ hh
  have hdg := srW_dg hw (by omega)
  have hcnt := srW_cnt hw (by omega)
  have emany : lx_many (w.1 2 (hd b)) = some (nI (dk (hd b)).1) := by
    rw [hD.1]
    exact la_many (by omega) hdg
  have emany' : lx_many (nI (sword (dk (hd b)).2.1 (dk (hd b)).1)) = some (nI (dk (hd b)).1) := la_many (by omega) hdg
  have q80 := h1.2.2.2
  have q82 := h2.2.2.2
  have q81 := h3.2.2
  by_cases e21 : nv = 21
  · refine ⟨u, w, ?_, hR⟩
    have n21' : (nI nv = 21) = True := by rw [e21]; exact eq_true rfl
    unfold lx_edits
    simp (disch := omega) only [swlt_e, swbd_e, swrd_n, swgd_n, nI_clamp, sw8m, sw4m, sw4r, nI_add, nI_1, swsub, swsubn, sw4le, swleI, swltI, sweqI, sweqm, sw0add, if_pos, if_neg, if_true, if_false, sw1n0, sw0n1, eq_self, ↓reduceIte, sl2, sl0, q82, eb, c2, emany, q80, n21']
  have n21' : (nI nv = 21) = False := eq_false (by rw [show (21 : Int32) = nI 21 from rfl, nI_eq (by omega) (by omega)]; exact e21)
  by_cases e0 : (dk (hd b)).1 = 0
  · refine ⟨u, w, ?_, hR⟩
    have n0' : (nI (dk (hd b)).1 = 0) = True := by rw [e0]; exact eq_true rfl
    unfold lx_edits
    simp (disch := omega) only [swlt_e, swbd_e, swrd_n, swgd_n, nI_clamp, sw8m, sw4m, sw4r, nI_add, nI_1, swsub, swsubn, sw4le, swleI, swltI, sweqI, sweqm, sw0add, if_pos, if_neg, if_true, if_false, sw1n0, sw0n1, eq_self, ↓reduceIte, sl2, sl0, q82, eb, c2, emany, q80, n21', n0', swi20]
  have n0' : (nI (dk (hd b)).1 = 0) = False := eq_false (nI_ne0 (by omega) (by omega))
  obtain ⟨p, hp, ep⟩ := la_low (swshr z 3) (n := (dk (hd b)).1) (by omega) (by omega)
  obtain ⟨w1, ew, CP⟩ := la_copy q80 (by omega) (by omega) c2 hh
  obtain ⟨es, q, hq, eq⟩ := la_slide hw n6 hp (by omega)
  have k2 : w1.1 2 nv = nI (sword (dk (hd b)).2.1 (dk (hd b)).1) := CP.2.2.2.2.1.trans hD.1
  have hS : sword (dk (hd b)).2.1 (dk (hd b)).1 < 16777216 := Nat.lt_of_lt_of_le (sword_lt _ hdg) (la_8 _ (by omega))
  have e1 := la_ahead (sword (dk (hd b)).2.1 (dk (hd b)).1) (p := p) (by omega)
  have e2 := la_orddrop (S := sword (dk (hd b)).2.1 (dk (hd b)).1) (p := p) (by omega) hS
  have e3 := sword_rm hp hdg
  rw [← e3] at e2
  obtain ⟨u', f1, MV, g8⟩ := oc_drop h1 h2 h4 h6 h7 hb hp (by omega)
  rw [eq] at f1
  have hsz : (swrm (dk (hd b)) p).1 = (dk (hd b)).1 - 1 := if_pos hp
  generalize hX : sword (fun k => (dk (hd b)).2.1 (swsk p k)) ((dk (hd b)).1 - 1) = X at e2
  have l0 : (0 : Int64) = lN 0 := rfl
  have eput := la_put (lyI w1 2 nv (nI X)) (v := nv) (s := q) (by omega) (by omega) (0 : Int64)
  refine ⟨u', lwput (lyI w1 2 nv (nI X)) nv q (0 : Int64), ?_, ?_⟩
  · unfold lx_edits
    simp (disch := omega) only [swlt_e, swbd_e, swrd_n, swgd_n, nI_clamp, sw8m, sw4m, sw4r, nI_add, nI_1, swsub, swsubn, sw4le, swleI, swltI, sweqI, sweqm, sw0add, if_pos, if_neg, if_true, if_false, sw1n0, sw0n1, eq_self, ↓reduceIte, sl2, sl0, q82, eb, c2, emany, q80, n21', n0', swi20, swi21, ep, hD.1, emany', es, eq, ew, k2, e1, e2, eput, f1, swnx_e]
  · have hdw := srW_rm hw hp
    refine lwR_new hL hb (by omega) (srA_ed hA hh) (ns' := ns) (by omega) (by omega) (g8.trans h3.2.1) (by rw [lwput_1, lyI_ne (by omega), CP.2.1 1 (by omega)]; exact q81) MV ?_ hdw (srV_rm hv hp)
    refine lyMW_ed CP (by omega) (by omega) ((h6 _ hh).2.2.2.2.1) ?_ ?_ ?_ ?_ ?_ ?_ ?_ ?_ ?_ ?_
    · rw [lwput_1, lyI_ne (by omega)]
    · intro k k0 k1
      rw [lwput_1, lyI_ne (by omega)]
    · rw [lwput_1, lyI_ne (by omega)]
    · rw [lwput_1, lyI_ne (by omega)]
    · rw [lwput_1, lyI_ne (by omega)]
    · intro k hk
      rw [lwput_1, lyI_k hk]
    · rw [lwput_1, lyI_ne (by omega)]
    · rw [lwput_1, lyI_ne (by omega)]
    · intro v s hs hv
      rw [lwput_at _ (by omega) hs, if_neg (fun z => hv z.1)]
      rfl
    · refine ⟨?_, fun s hs => ?_⟩
      · rw [lwput_1, lyI_self, hsz]
        exact congrArg nI hX.symm
      · rw [lwput_at _ (by omega) hs, swits_rm hw hp]
        by_cases e : s = q
        · rw [if_pos ⟨rfl, e⟩, if_pos (by rw [eq, e])]
          rfl
        · rw [if_neg (fun z => e z.2), if_neg (by rw [eq, nI_eq (by omega) (by omega)]; exact fun z => e z.symm)]
          show lwget w1 nv s = _
          rw [CP.2.2.2.2.2.2.2.2.2.2.1 s hs]
          exact hD.2 s hs
