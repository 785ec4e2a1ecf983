theorem swap100 (v : Nat) : 100 + v + 100 = 200 + v := by omega
theorem op_value {u w : swU} (h : swRl u w) (x s j : Int32) : swOM [(0, 0), (1, 1)] (xx5_value u x s j) (mx_value w x s j) := by
  have hR := h
  obtain ⟨nv, nb, ns, hd, sh, mo, cm, ot, am, dk, E, h1, h2, h3, h4, h5, h6, hA, h7, h8⟩ := h
  unfold xx5_value mx_value
  rcases sw_cas x (n := nv) (by have := h1.2.1; omega) with hx | ⟨v, hv, rfl⟩
  · obtain ⟨e1, e2⟩ := ckV_n h1 hx
    rw [e1, e2]
    exact swOM.no hR rfl rfl (by simp)
  obtain ⟨e1, e2⟩ := ckV_y h1 hv
  rcases sw_cas s (n := ns) (by have := h3.1; omega) with hx | ⟨t, ht, rfl⟩
  · obtain ⟨e3, e4⟩ := ckS_n h3 hx
    rw [e1, e2, e3, e4]
    exact swOM.no hR rfl rfl (by simp)
  obtain ⟨e3, e4⟩ := ckS_y h3 ht
  rcases sw_cas j (n := 4) (by omega) with hx | ⟨i, hi, rfl⟩
  · obtain ⟨e5, e6⟩ := ckO_n (u := u) hx
    rw [e1, e2, e3, e4, e5, e6]
    exact swOM.no hR rfl rfl (by simp)
  obtain ⟨e5, e6⟩ := ckO_y (u := u) hi
  have h40 := h1.2.1
  obtain ⟨hc, hm, hw⟩ := h7 v hv
  have hm2 := swmD_ag hm (swAg.t w 0)
  rw [e1, e2, e3, e4, e5, e6]
  refine swOM.yes hR (r := swVO (dk v) (nI t) i) ?_ ?_ (by simp)
  · simp (disch := omega) only [swlt_e, swbd_e, swrd_n, swgd_n, nI_clamp, sw8m, sw4m, sw4r, nI_add, nI_1, swsub, swsubn, sw4le, swleI, swltI, sweqI, sweqm, sw0add, if_pos, if_neg, if_true, if_false, sw1n0, sw0n1, eq_self, ↓reduceIte, swck_0, swap100, pc_valueOf hc _ hi]
  · have hp := swpI_m (s := nI t) hm.2.1
    cases hh : swhas (dk v) (nI t)
    · simp (disch := omega) only [swlt_e, swbd_e, swrd_n, swgd_n, nI_clamp, sw8m, sw4m, sw4r, nI_add, nI_1, swsub, swsubn, sw4le, swleI, swltI, sweqI, sweqm, sw0add, if_pos, if_neg, if_true, if_false, sw1n0, sw0n1, eq_self, ↓reduceIte, pm_placeOf hm2, hp, hh]
      unfold swVO
      rw [hh]
      rfl
    · simp (disch := omega) only [swlt_e, swbd_e, swrd_n, swgd_n, nI_clamp, sw8m, sw4m, sw4r, nI_add, nI_1, swsub, swsubn, sw4le, swleI, swltI, sweqI, sweqm, sw0add, if_pos, if_neg, if_true, if_false, sw1n0, sw0n1, eq_self, ↓reduceIte, pm_placeOf hm2, hp, hh, pm_valueOf hm2 hh hi, Bool.true_eq_false]
      unfold swVO
      rw [hh]
      rfl
theorem op_slideAt {u w : swU} (h : swRl u w) (x k : Int32) : swOM [(0, 0), (1, 1)] (xx5_slideAt u x k) (mx_slideAt w x k) := by
  have hR := h
  obtain ⟨nv, nb, ns, hd, sh, mo, cm, ot, am, dk, E, h1, h2, h3, h4, h5, h6, hA, h7, h8⟩ := h
  unfold xx5_slideAt mx_slideAt
  rcases sw_cas x (n := nv) (by have := h1.2.1; omega) with hx | ⟨v, hv, rfl⟩
  · obtain ⟨e1, e2⟩ := ckV_n h1 hx
    rw [e1, e2]
    exact swOM.no hR rfl rfl (by simp)
  obtain ⟨e1, e2⟩ := ckV_y h1 hv
  have h40 := h1.2.1
  obtain ⟨hc, hm, hw⟩ := h7 v hv
  obtain ⟨g5, g6⟩ : (swI w 0 0 0).1 5 = w.1 5 ∧ (swI w 0 0 0).1 6 = w.1 6 := ⟨swI_ne (by omega), swI_ne (by omega)⟩
  rw [e1, e2]
  obtain ⟨c8, cn, cr, -⟩ := hc
  obtain ⟨-, -, mn, mr, -⟩ := hm
  by_cases h0 : k < 0
  · refine swOM.no hR (c := 0) (t := 1) ?_ ?_ (by simp)
    · rw [swck_0, if_neg (by rw [Int32.not_le]; exact h0)]
    · simp (disch := omega) only [swlt_e, swbd_e, swrd_n, swgd_n, nI_clamp, sw8m, sw4m, sw4r, nI_add, nI_1, swsub, swsubn, sw4le, swleI, swltI, sweqI, sweqm, sw0add, if_pos, if_neg, if_true, if_false, sw1n0, sw0n1, eq_self, ↓reduceIte, h0]
  obtain ⟨i, hi, rfl⟩ := nI_of h0
  have h00 : (0 : Int32) ≤ nI i := Int32.not_lt.mp h0
  by_cases hl : i < (dk v).1
  · refine swOM.yes hR (r := (dk v).2.1 i) ?_ ?_ (by simp)
    · simp (disch := omega) only [swlt_e, swbd_e, swrd_n, swgd_n, nI_clamp, sw8m, sw4m, sw4r, nI_add, nI_1, swsub, swsubn, sw4le, swleI, swltI, sweqI, sweqm, sw0add, if_pos, if_neg, if_true, if_false, sw1n0, sw0n1, eq_self, ↓reduceIte, swck_0, h00, swap100, cn, cr]
    · simp (disch := omega) only [swlt_e, swbd_e, swrd_n, swgd_n, nI_clamp, sw8m, sw4m, sw4r, nI_add, nI_1, swsub, swsubn, sw4le, swleI, swltI, sweqI, sweqm, sw0add, if_pos, if_neg, if_true, if_false, sw1n0, sw0n1, eq_self, ↓reduceIte, h0, g5, g6, mn, mr]
  · refine swOM.yes hR (r := -1) ?_ ?_ (by simp)
    · simp (disch := omega) only [swlt_e, swbd_e, swrd_n, swgd_n, nI_clamp, sw8m, sw4m, sw4r, nI_add, nI_1, swsub, swsubn, sw4le, swleI, swltI, sweqI, sweqm, sw0add, if_pos, if_neg, if_true, if_false, sw1n0, sw0n1, eq_self, ↓reduceIte, swck_0, h00, swap100, cn, cr]
    · simp (disch := omega) only [swlt_e, swbd_e, swrd_n, swgd_n, nI_clamp, sw8m, sw4m, sw4r, nI_add, nI_1, swsub, swsubn, sw4le, swleI, swltI, sweqI, sweqm, sw0add, if_pos, if_neg, if_true, if_false, sw1n0, sw0n1, eq_self, ↓reduceIte, h0, g5, g6, mn, mr]
theorem op_blocks {u w : swU} (h : swRl u w) (x : Int32) : swOM [(0, 0), (1, 1)] (xx5_blocks u x) (mx_blocks w x) := by
  have hR := h
  obtain ⟨nv, nb, ns, hd, sh, mo, cm, ot, am, dk, E, h1, h2, h3, h4, h5, h6, hA, h7, h8⟩ := h
  unfold xx5_blocks mx_blocks
  rcases sw_cas x (n := nv) (by have := h1.2.1; omega) with hx | ⟨v, hv, rfl⟩
  · obtain ⟨e1, e2⟩ := ckV_n h1 hx
    rw [e1, e2]
    exact swOM.no hR rfl rfl (by simp)
  obtain ⟨e1, e2⟩ := ckV_y h1 hv
  have h40 := h1.2.1
  obtain ⟨hc, hm, hw⟩ := h7 v hv
  have hm2 := swmD_ag hm (swAg.t w 0)
  have hE2 := swmE_ag h8.2.1 (swAg.t w 0)
  rw [e1, e2]
  refine swOM.yes hR (r := nI (swBK E (dk v))) ?_ ?_ (by simp)
  · simp (disch := omega) only [swlt_e, swbd_e, swrd_n, swgd_n, nI_clamp, sw8m, sw4m, sw4r, nI_add, nI_1, swsub, swsubn, sw4le, swleI, swltI, sweqI, sweqm, sw0add, if_pos, if_neg, if_true, if_false, sw1n0, sw0n1, eq_self, ↓reduceIte, swck_0, swap100, pc_countBlocks h8.1 hc]
  · simp (disch := omega) only [swlt_e, swbd_e, swrd_n, swgd_n, nI_clamp, sw8m, sw4m, sw4r, nI_add, nI_1, swsub, swsubn, sw4le, swleI, swltI, sweqI, sweqm, sw0add, if_pos, if_neg, if_true, if_false, sw1n0, sw0n1, eq_self, ↓reduceIte, pm_blocksOf hE2 hm2]
theorem op_warnings {u w : swU} (h : swRl u w) (x : Int32) : swOM [(0, 0), (1, 1)] (xx5_warnings u x) (mx_warnings w x) := by
  have hR := h
  obtain ⟨nv, nb, ns, hd, sh, mo, cm, ot, am, dk, E, h1, h2, h3, h4, h5, h6, hA, h7, h8⟩ := h
  unfold xx5_warnings mx_warnings
  rcases sw_cas x (n := nv) (by have := h1.2.1; omega) with hx | ⟨v, hv, rfl⟩
  · obtain ⟨e1, e2⟩ := ckV_n h1 hx
    rw [e1, e2]
    refine swOM.no hR (c := 0) (t := 1) rfl ?_ (by simp)
    simp (disch := omega) only [swlt_e, swbd_e, swrd_n, swgd_n, nI_clamp, sw8m, sw4m, sw4r, nI_add, nI_1, swsub, swsubn, sw4le, swleI, swltI, sweqI, sweqm, sw0add, if_pos, if_neg, if_true, if_false, sw1n0, sw0n1, eq_self, ↓reduceIte, swB_f]
    show mx_warnings_L21 (swI w 0 0 1) x _ (63 + 1) 0 0 = _
    rw [mx_warnings_L21]
    simp (disch := omega) only [swlt_e, swbd_e, swrd_n, swgd_n, nI_clamp, sw8m, sw4m, sw4r, nI_add, nI_1, swsub, swsubn, sw4le, swleI, swltI, sweqI, sweqm, sw0add, if_pos, if_neg, if_true, if_false, sw1n0, sw0n1, eq_self, ↓reduceIte, swI_self]
  obtain ⟨e1, e2⟩ := ckV_y h1 hv
  have h40 := h1.2.1
  obtain ⟨hc, hm, hw⟩ := h7 v hv
  have hm2 := swmD_ag hm (swAg.t w 0)
  have hE2 := swmE_ag h8.2.1 (swAg.t w 0)
  rw [e1, e2]
  refine swOM.yes hR (r := nI (swWK E (dk v))) ?_ ?_ (by simp)
  · simp (disch := omega) only [swlt_e, swbd_e, swrd_n, swgd_n, nI_clamp, sw8m, sw4m, sw4r, nI_add, nI_1, swsub, swsubn, sw4le, swleI, swltI, sweqI, sweqm, sw0add, if_pos, if_neg, if_true, if_false, sw1n0, sw0n1, eq_self, ↓reduceIte, swck_0, swap100, pc_wa h8.1 hc]
  · simp (disch := omega) only [swlt_e, swbd_e, swrd_n, swgd_n, nI_clamp, sw8m, sw4m, sw4r, nI_add, nI_1, swsub, swsubn, sw4le, swleI, swltI, sweqI, sweqm, sw0add, if_pos, if_neg, if_true, if_false, sw1n0, sw0n1, eq_self, ↓reduceIte, swB_t]
    exact pm_wa hE2 swI_self hm2 _ _ fun _ => rfl
theorem sw_1le0 : ((1 : Int32) ≤ 0) = False := propext ⟨fun h => absurd h (by decide), fun h => h.elim⟩
theorem op_firstBlock {u w : swU} (h : swRl u w) (x : Int32) : swOM [(0, 0), (1, 1)] (xx5_firstBlock u x) (mx_firstBlock w x) := by
  have hR := h
  obtain ⟨nv, nb, ns, hd, sh, mo, cm, ot, am, dk, E, h1, h2, h3, h4, h5, h6, hA, h7, h8⟩ := h
  unfold xx5_firstBlock mx_firstBlock
  rcases sw_cas x (n := nv) (by have := h1.2.1; omega) with hx | ⟨v, hv, rfl⟩
  · obtain ⟨e1, e2⟩ := ckV_n h1 hx
    rw [e1, e2]
    refine swOM.no hR (c := 0) (t := 1) rfl ?_ (by simp)
    simp (disch := omega) only [swlt_e, swbd_e, swrd_n, swgd_n, nI_clamp, sw8m, sw4m, sw4r, nI_add, nI_1, swsub, swsubn, sw4le, swleI, swltI, sweqI, sweqm, sw0add, if_pos, if_neg, if_true, if_false, sw1n0, sw0n1, eq_self, ↓reduceIte, swB_f]
    show mx_firstBlock_L19 (swI w 0 0 1) x _ (63 + 1) 0 = _
    rw [mx_firstBlock_L19]
    simp (disch := omega) only [swlt_e, swbd_e, swrd_n, swgd_n, nI_clamp, sw8m, sw4m, sw4r, nI_add, nI_1, swsub, swsubn, sw4le, swleI, swltI, sweqI, sweqm, sw0add, if_pos, if_neg, if_true, if_false, sw1n0, sw0n1, eq_self, ↓reduceIte, swI_self, swI_self, sw_1le0]
  obtain ⟨e1, e2⟩ := ckV_y h1 hv
  have h40 := h1.2.1
  obtain ⟨hc, hm, hw⟩ := h7 v hv
  have hm2 := swmD_ag hm (swAg.t w 0)
  have hE2 := swmE_ag h8.2.1 (swAg.t w 0)
  rw [e1, e2]
  refine swOM.yes hR (r := swFB E (dk v)) ?_ ?_ (by simp)
  · simp (disch := omega) only [swlt_e, swbd_e, swrd_n, swgd_n, nI_clamp, sw8m, sw4m, sw4r, nI_add, nI_1, swsub, swsubn, sw4le, swleI, swltI, sweqI, sweqm, sw0add, if_pos, if_neg, if_true, if_false, sw1n0, sw0n1, eq_self, ↓reduceIte, swck_0, swap100, pc_fb h8.1 hc]
  · simp (disch := omega) only [swlt_e, swbd_e, swrd_n, swgd_n, nI_clamp, sw8m, sw4m, sw4r, nI_add, nI_1, swsub, swsubn, sw4le, swleI, swltI, sweqI, sweqm, sw0add, if_pos, if_neg, if_true, if_false, sw1n0, sw0n1, eq_self, ↓reduceIte, swB_t]
    exact pm_fb hE2 swI_self hm2
theorem pc_headDeck {u w : swU} {nv nb : Nat} {hd : Nat → Nat} (h1 : sr1 nv u w) (h2 : sr2 nb u w) (h4 : sr4 nv nb hd u w) {b : Nat} (hb : b < nb) : xx5_headDeck u (nI b) = some (200 + hd b) := by
  have hb6 := h2.2.1
  have h40 := h1.2.1
  obtain ⟨hh, c1, c2⟩ := h4 b hb
  unfold xx5_headDeck
  simp (disch := omega) only [swlt_e, swbd_e, swrd_n, swgd_n, nI_clamp, sw8m, sw4m, sw4r, nI_add, nI_1, swsub, swsubn, sw4le, swleI, swltI, sweqI, sweqm, sw0add, if_pos, if_neg, if_true, if_false, sw1n0, sw0n1, eq_self, ↓reduceIte, c1, swap100]
theorem sw_bk0 {E : swEv} {d : swD} (h : E.1 ≤ 8) (h8 : d.1 ≤ 8) : (nI (swBK E d) ≤ 0) = (swBK E d = 0) := swleI0 (by have := swBK_le E d h h8; omega)
theorem op_show {u w : swU} (h : swRl u w) (x : Int32) : swOM [(0, 0), (1, 1), (3, 2)] (xx5_show u x) (mx_show w x) := by
  have hR := h
  obtain ⟨nv, nb, ns, hd, sh, mo, cm, ot, am, dk, E, h1, h2, h3, h4, h5, h6, hA, h7, h8⟩ := h
  unfold xx5_show mx_show
  rcases sw_cas x (n := nb) (by have := h2.2.1; omega) with hx | ⟨b, hb, rfl⟩
  · obtain ⟨e1, e2⟩ := ckB_n h2 hx
    rw [e1, e2]
    exact swOM.no hR rfl rfl (by simp)
  obtain ⟨e1, e2⟩ := ckB_y h2 hb
  have hb6 := h2.2.1
  have h40 := h1.2.1
  obtain ⟨hh, c1, c2⟩ := h4 b hb
  rw [e1, e2]
  obtain ⟨hc, hm, hw⟩ := h7 _ hh
  have hbk := sw_bk0 (E := E) (d := dk (hd b)) h8.1.1 hc.1
  rw [pc_headDeck h1 h2 h4 hb]
  by_cases hz : swBK E (dk (hd b)) = 0
  · rw [eq_true hz] at hbk
    refine swOM.mk (c := 0) (r := nI (hd b)) (u' := swI u 2 b (nI (hd b))) (b := nI (hd b)) (w' := swI (swI w 0 0 0) 11 b (nI (hd b))) (t := 0) ?_ ?_ ?_ (by simp) (fun _ => rfl) ?_
    · simp (disch := omega) only [swlt_e, swbd_e, swrd_n, swgd_n, nI_clamp, sw8m, sw4m, sw4r, nI_add, nI_1, swsub, swsubn, sw4le, swleI, swltI, sweqI, sweqm, sw0add, if_pos, if_neg, if_true, if_false, sw1n0, sw0n1, eq_self, ↓reduceIte, swck_0, pc_countBlocks h8.1 hc, hbk, c1, swI_ne]
    · simp (disch := omega) only [swlt_e, swbd_e, swrd_n, swgd_n, nI_clamp, sw8m, sw4m, sw4r, nI_add, nI_1, swsub, swsubn, sw4le, swleI, swltI, sweqI, sweqm, sw0add, if_pos, if_neg, if_true, if_false, sw1n0, sw0n1, eq_self, ↓reduceIte, c2, pm_blocksOf h8.2.1 hm, hbk, swI_ne]
    · simp (disch := omega) only [swlt_e, swbd_e, swrd_n, swgd_n, nI_clamp, sw8m, sw4m, sw4r, nI_add, nI_1, swsub, swsubn, sw4le, swleI, swltI, sweqI, sweqm, sw0add, if_pos, if_neg, if_true, if_false, sw1n0, sw0n1, eq_self, ↓reduceIte, swI_k, swI_ne, swI_self]
    · refine ⟨nv, nb, ns, hd, (fun q => if q = b then nI (hd b) else sh q), mo, cm, ot, am, dk, E, ?_, ?_, ?_, ?_, ?_, ?_, hA, ?_, ?_⟩
      · obtain ⟨a1, a2, a3, a4⟩ := h1
        exact ⟨a1, a2, by simp (disch := omega) only [swlt_e, swbd_e, swrd_n, swgd_n, nI_clamp, sw8m, sw4m, sw4r, nI_add, nI_1, swsub, swsubn, sw4le, swleI, swltI, sweqI, sweqm, sw0add, if_pos, if_neg, if_true, if_false, sw1n0, sw0n1, eq_self, ↓reduceIte, swI_k, swI_ne, swI_self, a3], by simp (disch := omega) only [swlt_e, swbd_e, swrd_n, swgd_n, nI_clamp, sw8m, sw4m, sw4r, nI_add, nI_1, swsub, swsubn, sw4le, swleI, swltI, sweqI, sweqm, sw0add, if_pos, if_neg, if_true, if_false, sw1n0, sw0n1, eq_self, ↓reduceIte, swI_k, swI_ne, swI_self, a4]⟩
      · obtain ⟨a1, a2, a3, a4⟩ := h2
        exact ⟨a1, a2, by simp (disch := omega) only [swlt_e, swbd_e, swrd_n, swgd_n, nI_clamp, sw8m, sw4m, sw4r, nI_add, nI_1, swsub, swsubn, sw4le, swleI, swltI, sweqI, sweqm, sw0add, if_pos, if_neg, if_true, if_false, sw1n0, sw0n1, eq_self, ↓reduceIte, swI_k, swI_ne, swI_self, a3], by simp (disch := omega) only [swlt_e, swbd_e, swrd_n, swgd_n, nI_clamp, sw8m, sw4m, sw4r, nI_add, nI_1, swsub, swsubn, sw4le, swleI, swltI, sweqI, sweqm, sw0add, if_pos, if_neg, if_true, if_false, sw1n0, sw0n1, eq_self, ↓reduceIte, swI_k, swI_ne, swI_self, a4]⟩
      · obtain ⟨a1, a2, a3⟩ := h3
        exact ⟨a1, by simp (disch := omega) only [swlt_e, swbd_e, swrd_n, swgd_n, nI_clamp, sw8m, sw4m, sw4r, nI_add, nI_1, swsub, swsubn, sw4le, swleI, swltI, sweqI, sweqm, sw0add, if_pos, if_neg, if_true, if_false, sw1n0, sw0n1, eq_self, ↓reduceIte, swI_k, swI_ne, swI_self, a2], by simp (disch := omega) only [swlt_e, swbd_e, swrd_n, swgd_n, nI_clamp, sw8m, sw4m, sw4r, nI_add, nI_1, swsub, swsubn, sw4le, swleI, swltI, sweqI, sweqm, sw0add, if_pos, if_neg, if_true, if_false, sw1n0, sw0n1, eq_self, ↓reduceIte, swI_k, swI_ne, swI_self, a3]⟩
      · intro b hb
        obtain ⟨a1, a2, a3⟩ := h4 b hb
        exact ⟨a1, by simp (disch := omega) only [swlt_e, swbd_e, swrd_n, swgd_n, nI_clamp, sw8m, sw4m, sw4r, nI_add, nI_1, swsub, swsubn, sw4le, swleI, swltI, sweqI, sweqm, sw0add, if_pos, if_neg, if_true, if_false, sw1n0, sw0n1, eq_self, ↓reduceIte, swI_k, swI_ne, swI_self, a2], by simp (disch := omega) only [swlt_e, swbd_e, swrd_n, swgd_n, nI_clamp, sw8m, sw4m, sw4r, nI_add, nI_1, swsub, swsubn, sw4le, swleI, swltI, sweqI, sweqm, sw0add, if_pos, if_neg, if_true, if_false, sw1n0, sw0n1, eq_self, ↓reduceIte, swI_k, swI_ne, swI_self, a3]⟩
      · intro q hq
        obtain ⟨a1, a2, a3⟩ := h5 q hq
        by_cases e : q = b
        · subst e
          exact ⟨by simp (disch := omega) only [swlt_e, swbd_e, swrd_n, swgd_n, nI_clamp, sw8m, sw4m, sw4r, nI_add, nI_1, swsub, swsubn, sw4le, swleI, swltI, sweqI, sweqm, sw0add, if_pos, if_neg, if_true, if_false, sw1n0, sw0n1, eq_self, ↓reduceIte, swI_self], by simp (disch := omega) only [swlt_e, swbd_e, swrd_n, swgd_n, nI_clamp, sw8m, sw4m, sw4r, nI_add, nI_1, swsub, swsubn, sw4le, swleI, swltI, sweqI, sweqm, sw0add, if_pos, if_neg, if_true, if_false, sw1n0, sw0n1, eq_self, ↓reduceIte, swI_self], by simp (disch := omega) only [swlt_e, swbd_e, swrd_n, swgd_n, nI_clamp, sw8m, sw4m, sw4r, nI_add, nI_1, swsub, swsubn, sw4le, swleI, swltI, sweqI, sweqm, sw0add, if_pos, if_neg, if_true, if_false, sw1n0, sw0n1, eq_self, ↓reduceIte]; exact Or.inr ⟨_, hh, rfl⟩⟩
        · exact ⟨by simp (disch := omega) only [swlt_e, swbd_e, swrd_n, swgd_n, nI_clamp, sw8m, sw4m, sw4r, nI_add, nI_1, swsub, swsubn, sw4le, swleI, swltI, sweqI, sweqm, sw0add, if_pos, if_neg, if_true, if_false, sw1n0, sw0n1, eq_self, ↓reduceIte, e, swI_k, swI_ne, a1], by simp (disch := omega) only [swlt_e, swbd_e, swrd_n, swgd_n, nI_clamp, sw8m, sw4m, sw4r, nI_add, nI_1, swsub, swsubn, sw4le, swleI, swltI, sweqI, sweqm, sw0add, if_pos, if_neg, if_true, if_false, sw1n0, sw0n1, eq_self, ↓reduceIte, e, swI_k, swI_ne, a2], by simp (disch := omega) only [swlt_e, swbd_e, swrd_n, swgd_n, nI_clamp, sw8m, sw4m, sw4r, nI_add, nI_1, swsub, swsubn, sw4le, swleI, swltI, sweqI, sweqm, sw0add, if_pos, if_neg, if_true, if_false, sw1n0, sw0n1, eq_self, ↓reduceIte, e]; exact a3⟩
      · intro q hq
        obtain ⟨a1, a2, a3, a4, a5, a6, a7⟩ := h6 q hq
        exact ⟨by simp (disch := omega) only [swlt_e, swbd_e, swrd_n, swgd_n, nI_clamp, sw8m, sw4m, sw4r, nI_add, nI_1, swsub, swsubn, sw4le, swleI, swltI, sweqI, sweqm, sw0add, if_pos, if_neg, if_true, if_false, sw1n0, sw0n1, eq_self, ↓reduceIte, swI_ne, a1], by simp (disch := omega) only [swlt_e, swbd_e, swrd_n, swgd_n, nI_clamp, sw8m, sw4m, sw4r, nI_add, nI_1, swsub, swsubn, sw4le, swleI, swltI, sweqI, sweqm, sw0add, if_pos, if_neg, if_true, if_false, sw1n0, sw0n1, eq_self, ↓reduceIte, swI_ne, a2], by simp (disch := omega) only [swlt_e, swbd_e, swrd_n, swgd_n, nI_clamp, sw8m, sw4m, sw4r, nI_add, nI_1, swsub, swsubn, sw4le, swleI, swltI, sweqI, sweqm, sw0add, if_pos, if_neg, if_true, if_false, sw1n0, sw0n1, eq_self, ↓reduceIte, swI_ne, a3], by simp (disch := omega) only [swlt_e, swbd_e, swrd_n, swgd_n, nI_clamp, sw8m, sw4m, sw4r, nI_add, nI_1, swsub, swsubn, sw4le, swleI, swltI, sweqI, sweqm, sw0add, if_pos, if_neg, if_true, if_false, sw1n0, sw0n1, eq_self, ↓reduceIte, swI_ne, a4], by simp (disch := omega) only [swlt_e, swbd_e, swrd_n, swgd_n, nI_clamp, sw8m, sw4m, sw4r, nI_add, nI_1, swsub, swsubn, sw4le, swleI, swltI, sweqI, sweqm, sw0add, if_pos, if_neg, if_true, if_false, sw1n0, sw0n1, eq_self, ↓reduceIte, swI_ne, a5], by simp (disch := omega) only [swlt_e, swbd_e, swrd_n, swgd_n, nI_clamp, sw8m, sw4m, sw4r, nI_add, nI_1, swsub, swsubn, sw4le, swleI, swltI, sweqI, sweqm, sw0add, if_pos, if_neg, if_true, if_false, sw1n0, sw0n1, eq_self, ↓reduceIte, swI_ne, a6], a7⟩
      · intro q hq
        obtain ⟨a1, a2, a3⟩ := h7 q hq
        exact ⟨swcD_fr a1 (by simp (disch := omega) only [swlt_e, swbd_e, swrd_n, swgd_n, nI_clamp, sw8m, sw4m, sw4r, nI_add, nI_1, swsub, swsubn, sw4le, swleI, swltI, sweqI, sweqm, sw0add, if_pos, if_neg, if_true, if_false, sw1n0, sw0n1, eq_self, ↓reduceIte, swI_ne]) (fun _ _ => by simp (disch := omega) only [swlt_e, swbd_e, swrd_n, swgd_n, nI_clamp, sw8m, sw4m, sw4r, nI_add, nI_1, swsub, swsubn, sw4le, swleI, swltI, sweqI, sweqm, sw0add, if_pos, if_neg, if_true, if_false, sw1n0, sw0n1, eq_self, ↓reduceIte, swI_ne]) (fun _ _ _ _ => by simp (disch := omega) only [swlt_e, swbd_e, swrd_n, swgd_n, nI_clamp, sw8m, sw4m, sw4r, nI_add, nI_1, swsub, swsubn, sw4le, swleI, swltI, sweqI, sweqm, sw0add, if_pos, if_neg, if_true, if_false, sw1n0, sw0n1, eq_self, ↓reduceIte, swI_ne]), swmD_fe a2 (by simp (disch := omega) only [swlt_e, swbd_e, swrd_n, swgd_n, nI_clamp, sw8m, sw4m, sw4r, nI_add, nI_1, swsub, swsubn, sw4le, swleI, swltI, sweqI, sweqm, sw0add, if_pos, if_neg, if_true, if_false, sw1n0, sw0n1, eq_self, ↓reduceIte, swI_ne]) (by simp (disch := omega) only [swlt_e, swbd_e, swrd_n, swgd_n, nI_clamp, sw8m, sw4m, sw4r, nI_add, nI_1, swsub, swsubn, sw4le, swleI, swltI, sweqI, sweqm, sw0add, if_pos, if_neg, if_true, if_false, sw1n0, sw0n1, eq_self, ↓reduceIte, swI_ne]) (by simp (disch := omega) only [swlt_e, swbd_e, swrd_n, swgd_n, nI_clamp, sw8m, sw4m, sw4r, nI_add, nI_1, swsub, swsubn, sw4le, swleI, swltI, sweqI, sweqm, sw0add, if_pos, if_neg, if_true, if_false, sw1n0, sw0n1, eq_self, ↓reduceIte, swI_ne]), a3⟩
      · obtain ⟨a1, a2, a3⟩ := h8
        exact ⟨swcE_fe a1 (by simp (disch := omega) only [swlt_e, swbd_e, swrd_n, swgd_n, nI_clamp, sw8m, sw4m, sw4r, nI_add, nI_1, swsub, swsubn, sw4le, swleI, swltI, sweqI, sweqm, sw0add, if_pos, if_neg, if_true, if_false, sw1n0, sw0n1, eq_self, ↓reduceIte, swI_k, swI_ne, swI_self]) (by simp (disch := omega) only [swlt_e, swbd_e, swrd_n, swgd_n, nI_clamp, sw8m, sw4m, sw4r, nI_add, nI_1, swsub, swsubn, sw4le, swleI, swltI, sweqI, sweqm, sw0add, if_pos, if_neg, if_true, if_false, sw1n0, sw0n1, eq_self, ↓reduceIte, swI_k, swI_ne, swI_self]) (by simp (disch := omega) only [swlt_e, swbd_e, swrd_n, swgd_n, nI_clamp, sw8m, sw4m, sw4r, nI_add, nI_1, swsub, swsubn, sw4le, swleI, swltI, sweqI, sweqm, sw0add, if_pos, if_neg, if_true, if_false, sw1n0, sw0n1, eq_self, ↓reduceIte, swI_k, swI_ne, swI_self]) (fun c q1 q2 => by simp (disch := omega) only [swlt_e, swbd_e, swrd_n, swgd_n, nI_clamp, sw8m, sw4m, sw4r, nI_add, nI_1, swsub, swsubn, sw4le, swleI, swltI, sweqI, sweqm, sw0add, if_pos, if_neg, if_true, if_false, sw1n0, sw0n1, eq_self, ↓reduceIte, swI_ne]), swmE_fe a2 (by simp (disch := omega) only [swlt_e, swbd_e, swrd_n, swgd_n, nI_clamp, sw8m, sw4m, sw4r, nI_add, nI_1, swsub, swsubn, sw4le, swleI, swltI, sweqI, sweqm, sw0add, if_pos, if_neg, if_true, if_false, sw1n0, sw0n1, eq_self, ↓reduceIte, swI_k, swI_ne, swI_self]) (by simp (disch := omega) only [swlt_e, swbd_e, swrd_n, swgd_n, nI_clamp, sw8m, sw4m, sw4r, nI_add, nI_1, swsub, swsubn, sw4le, swleI, swltI, sweqI, sweqm, sw0add, if_pos, if_neg, if_true, if_false, sw1n0, sw0n1, eq_self, ↓reduceIte, swI_k, swI_ne, swI_self]) (by simp (disch := omega) only [swlt_e, swbd_e, swrd_n, swgd_n, nI_clamp, sw8m, sw4m, sw4r, nI_add, nI_1, swsub, swsubn, sw4le, swleI, swltI, sweqI, sweqm, sw0add, if_pos, if_neg, if_true, if_false, sw1n0, sw0n1, eq_self, ↓reduceIte, swI_k, swI_ne, swI_self]) (fun c q1 q2 => by simp (disch := omega) only [swlt_e, swbd_e, swrd_n, swgd_n, nI_clamp, sw8m, sw4m, sw4r, nI_add, nI_1, swsub, swsubn, sw4le, swleI, swltI, sweqI, sweqm, sw0add, if_pos, if_neg, if_true, if_false, sw1n0, sw0n1, eq_self, ↓reduceIte, swI_ne]), a3⟩
  · rw [eq_false hz] at hbk
    refine swOM.no hR (c := 2) (t := 2) ?_ ?_ (by simp)
    · simp (disch := omega) only [swlt_e, swbd_e, swrd_n, swgd_n, nI_clamp, sw8m, sw4m, sw4r, nI_add, nI_1, swsub, swsubn, sw4le, swleI, swltI, sweqI, sweqm, sw0add, if_pos, if_neg, if_true, if_false, sw1n0, sw0n1, eq_self, ↓reduceIte, swck_0, pc_countBlocks h8.1 hc, hbk]
    · simp (disch := omega) only [swlt_e, swbd_e, swrd_n, swgd_n, nI_clamp, sw8m, sw4m, sw4r, nI_add, nI_1, swsub, swsubn, sw4le, swleI, swltI, sweqI, sweqm, sw0add, if_pos, if_neg, if_true, if_false, sw1n0, sw0n1, eq_self, ↓reduceIte, c2, pm_blocksOf h8.2.1 hm, hbk]
theorem op_shown {u w : swU} (h : swRl u w) (x : Int32) : swOM [(0, 0), (1, 1)] (xx5_shown u x) (mx_shown w x) := by
  have hR := h
  obtain ⟨nv, nb, ns, hd, sh, mo, cm, ot, am, dk, E, h1, h2, h3, h4, h5, h6, hA, h7, h8⟩ := h
  unfold xx5_shown mx_shown
  rcases sw_cas x (n := nb) (by have := h2.2.1; omega) with hx | ⟨b, hb, rfl⟩
  · obtain ⟨e1, e2⟩ := ckB_n h2 hx
    rw [e1, e2]
    exact swOM.no hR rfl rfl (by simp)
  obtain ⟨e1, e2⟩ := ckB_y h2 hb
  have hb6 := h2.2.1
  have h40 := h1.2.1
  obtain ⟨hh, c1, c2⟩ := h4 b hb
  rw [e1, e2]
  obtain ⟨s1, s2, s3⟩ := h5 b (by omega)
  have g11 : (swI w 0 0 0).1 11 = w.1 11 := swI_ne (by omega)
  rcases s3 with s3 | ⟨v, hv, s3⟩
  · refine swOM.yes hR (r := -1) ?_ ?_ (by simp)
    · simp (disch := omega) only [swlt_e, swbd_e, swrd_n, swgd_n, nI_clamp, sw8m, sw4m, sw4r, nI_add, nI_1, swsub, swsubn, sw4le, swleI, swltI, sweqI, sweqm, sw0add, if_pos, if_neg, if_true, if_false, sw1n0, sw0n1, eq_self, ↓reduceIte, swck_0, s1, s3]
    · simp (disch := omega) only [swlt_e, swbd_e, swrd_n, swgd_n, nI_clamp, sw8m, sw4m, sw4r, nI_add, nI_1, swsub, swsubn, sw4le, swleI, swltI, sweqI, sweqm, sw0add, if_pos, if_neg, if_true, if_false, sw1n0, sw0n1, eq_self, ↓reduceIte, g11, s2, s3]
  · obtain ⟨hc, hm, hw⟩ := h7 v hv
    have hm2 := swmD_ag hm (swAg.t w 0)
    have hE2 := swmE_ag h8.2.1 (swAg.t w 0)
    have hbk := sw_bk0 (E := E) (d := dk v) h8.1.1 hc.1
    by_cases hz : swBK E (dk v) = 0
    · rw [eq_true hz] at hbk
      refine swOM.yes hR (r := nI v) ?_ ?_ (by simp)
      · simp (disch := omega) only [swlt_e, swbd_e, swrd_n, swgd_n, nI_clamp, sw8m, sw4m, sw4r, nI_add, nI_1, swsub, swsubn, sw4le, swleI, swltI, sweqI, sweqm, sw0add, if_pos, if_neg, if_true, if_false, sw1n0, sw0n1, eq_self, ↓reduceIte, swck_0, s1, s3, swap100, pc_countBlocks h8.1 hc, hbk]
      · simp (disch := omega) only [swlt_e, swbd_e, swrd_n, swgd_n, nI_clamp, sw8m, sw4m, sw4r, nI_add, nI_1, swsub, swsubn, sw4le, swleI, swltI, sweqI, sweqm, sw0add, if_pos, if_neg, if_true, if_false, sw1n0, sw0n1, eq_self, ↓reduceIte, g11, s2, s3, pm_blocksOf hE2 hm2, hbk]
    · rw [eq_false hz] at hbk
      refine swOM.yes hR (r := -1) ?_ ?_ (by simp)
      · simp (disch := omega) only [swlt_e, swbd_e, swrd_n, swgd_n, nI_clamp, sw8m, sw4m, sw4r, nI_add, nI_1, swsub, swsubn, sw4le, swleI, swltI, sweqI, sweqm, sw0add, if_pos, if_neg, if_true, if_false, sw1n0, sw0n1, eq_self, ↓reduceIte, swck_0, s1, s3, swap100, pc_countBlocks h8.1 hc, hbk]
      · simp (disch := omega) only [swlt_e, swbd_e, swrd_n, swgd_n, nI_clamp, sw8m, sw4m, sw4r, nI_add, nI_1, swsub, swsubn, sw4le, swleI, swltI, sweqI, sweqm, sw0add, if_pos, if_neg, if_true, if_false, sw1n0, sw0n1, eq_self, ↓reduceIte, g11, s2, s3, pm_blocksOf hE2 hm2, hbk]
theorem sw_le_not {a b : Int32} (h : b < a) : (a ≤ b) = False := propext ⟨fun z => absurd h (Int32.not_lt.mpr z), fun z => z.elim⟩
theorem sw_le_yes {a b : Int32} (h : ¬ b < a) : (a ≤ b) = True := propext ⟨fun _ => trivial, fun _ => Int32.not_lt.mp h⟩
theorem sw_t1 {x : Int32} {N : Nat} (hN : N < 2 ^ 31) (h0 : ¬ x < 0) (h1 : ¬ nI N < x) : ∃ j, j ≤ N ∧ x = nI j := by
  obtain ⟨j, hj, rfl⟩ := nI_of h0
  rw [nI_ltI hN hj] at h1
  exact ⟨j, by omega, rfl⟩
theorem op_pass {u w : swU} (h : swRl u w) (x : Int32) : swOM [(0, 0), (2, 1), (3, 2)] (xx5_pass u x) (mx_pass w x) := by
  have hR := h
  obtain ⟨nv, nb, ns, hd, sh, mo, cm, ot, am, dk, E, h1, h2, h3, h4, h5, h6, hA, h7, h8⟩ := h
  unfold xx5_pass mx_pass
  have hce := h8.1.2.2.2.2.2.2.2
  have hme := h8.2.1.2.2.2.2.2.2.2
  have hd9 := h8.2.2
  unfold mx_in
  by_cases q1 : x < 1
  · refine swOM.no hR (c := 1) (t := 1) ?_ ?_ (by simp)
    · simp (disch := omega) only [swlt_e, swbd_e, swrd_n, swgd_n, nI_clamp, sw8m, sw4m, sw4r, nI_add, nI_1, swsub, swsubn, sw4le, swleI, swltI, sweqI, sweqm, sw0add, if_pos, if_neg, if_true, if_false, sw1n0, sw0n1, eq_self, ↓reduceIte, q1]
    · simp (disch := omega) only [swlt_e, swbd_e, swrd_n, swgd_n, nI_clamp, sw8m, sw4m, sw4r, nI_add, nI_1, swsub, swsubn, sw4le, swleI, swltI, sweqI, sweqm, sw0add, if_pos, if_neg, if_true, if_false, sw1n0, sw0n1, eq_self, ↓reduceIte, q1]
  by_cases q2 : 100 < x
  · refine swOM.no hR (c := 1) (t := 1) ?_ ?_ (by simp)
    · simp (disch := omega) only [swlt_e, swbd_e, swrd_n, swgd_n, nI_clamp, sw8m, sw4m, sw4r, nI_add, nI_1, swsub, swsubn, sw4le, swleI, swltI, sweqI, sweqm, sw0add, if_pos, if_neg, if_true, if_false, sw1n0, sw0n1, eq_self, ↓reduceIte, q1, q2, sw_le_not q2]
    · simp (disch := omega) only [swlt_e, swbd_e, swrd_n, swgd_n, nI_clamp, sw8m, sw4m, sw4r, nI_add, nI_1, swsub, swsubn, sw4le, swleI, swltI, sweqI, sweqm, sw0add, if_pos, if_neg, if_true, if_false, sw1n0, sw0n1, eq_self, ↓reduceIte, q1, q2]
  obtain ⟨j, hj, rfl⟩ := sw_t1 (N := 100) (by omega) (fun z => q1 (Int32.lt_trans z (by decide))) q2
  by_cases q3 : E.2.2.2.2 + j ≤ 999
  · have q4 : (nI (E.2.2.2.2 + j) ≤ 999) = True := by
      rw [show (999 : Int32) = nI 999 from rfl, swleI (by omega) (by omega)]
      exact propext ⟨fun _ => trivial, fun _ => q3⟩
    refine swOM.mk (c := 0) (r := nI (E.2.2.2.2 + j)) (u' := swI u 0 11 (nI (E.2.2.2.2 + j))) (b := nI (E.2.2.2.2 + j)) (w' := swI (swI w 0 0 0) 0 21 (nI (E.2.2.2.2 + j))) (t := 0) ?_ ?_ ?_ (by simp) (fun _ => rfl) ?_
    · simp (disch := omega) only [swlt_e, swbd_e, swrd_n, swgd_n, nI_clamp, sw8m, sw4m, sw4r, nI_add, nI_1, swsub, swsubn, sw4le, swleI, swltI, sweqI, sweqm, sw0add, if_pos, if_neg, if_true, if_false, sw1n0, sw0n1, eq_self, ↓reduceIte, q1, q2, sw_le_yes q2, hce, q4, swI_self]
    · simp (disch := omega) only [swlt_e, swbd_e, swrd_n, swgd_n, nI_clamp, sw8m, sw4m, sw4r, nI_add, nI_1, swsub, swsubn, sw4le, swleI, swltI, sweqI, sweqm, sw0add, if_pos, if_neg, if_true, if_false, sw1n0, sw0n1, eq_self, ↓reduceIte, q1, q2, hme, q4, swI_self, swI_k]
    · simp (disch := omega) only [swlt_e, swbd_e, swrd_n, swgd_n, nI_clamp, sw8m, sw4m, sw4r, nI_add, nI_1, swsub, swsubn, sw4le, swleI, swltI, sweqI, sweqm, sw0add, if_pos, if_neg, if_true, if_false, sw1n0, sw0n1, eq_self, ↓reduceIte, swI_k, swI_self]
    · refine ⟨nv, nb, ns, hd, sh, mo, cm, ot, am, dk, (E.1, E.2.1, E.2.2.1, E.2.2.2.1, E.2.2.2.2 + j), ?_, ?_, ?_, ?_, ?_, ?_, hA, ?_, ?_⟩
      · obtain ⟨a1, a2, a3, a4⟩ := h1
        exact ⟨a1, a2, by simp (disch := omega) only [swlt_e, swbd_e, swrd_n, swgd_n, nI_clamp, sw8m, sw4m, sw4r, nI_add, nI_1, swsub, swsubn, sw4le, swleI, swltI, sweqI, sweqm, sw0add, if_pos, if_neg, if_true, if_false, sw1n0, sw0n1, eq_self, ↓reduceIte, swI_k, swI_ne, swI_self, a3], by simp (disch := omega) only [swlt_e, swbd_e, swrd_n, swgd_n, nI_clamp, sw8m, sw4m, sw4r, nI_add, nI_1, swsub, swsubn, sw4le, swleI, swltI, sweqI, sweqm, sw0add, if_pos, if_neg, if_true, if_false, sw1n0, sw0n1, eq_self, ↓reduceIte, swI_k, swI_ne, swI_self, a4]⟩
      · obtain ⟨a1, a2, a3, a4⟩ := h2
        exact ⟨a1, a2, by simp (disch := omega) only [swlt_e, swbd_e, swrd_n, swgd_n, nI_clamp, sw8m, sw4m, sw4r, nI_add, nI_1, swsub, swsubn, sw4le, swleI, swltI, sweqI, sweqm, sw0add, if_pos, if_neg, if_true, if_false, sw1n0, sw0n1, eq_self, ↓reduceIte, swI_k, swI_ne, swI_self, a3], by simp (disch := omega) only [swlt_e, swbd_e, swrd_n, swgd_n, nI_clamp, sw8m, sw4m, sw4r, nI_add, nI_1, swsub, swsubn, sw4le, swleI, swltI, sweqI, sweqm, sw0add, if_pos, if_neg, if_true, if_false, sw1n0, sw0n1, eq_self, ↓reduceIte, swI_k, swI_ne, swI_self, a4]⟩
      · obtain ⟨a1, a2, a3⟩ := h3
        exact ⟨a1, by simp (disch := omega) only [swlt_e, swbd_e, swrd_n, swgd_n, nI_clamp, sw8m, sw4m, sw4r, nI_add, nI_1, swsub, swsubn, sw4le, swleI, swltI, sweqI, sweqm, sw0add, if_pos, if_neg, if_true, if_false, sw1n0, sw0n1, eq_self, ↓reduceIte, swI_k, swI_ne, swI_self, a2], by simp (disch := omega) only [swlt_e, swbd_e, swrd_n, swgd_n, nI_clamp, sw8m, sw4m, sw4r, nI_add, nI_1, swsub, swsubn, sw4le, swleI, swltI, sweqI, sweqm, sw0add, if_pos, if_neg, if_true, if_false, sw1n0, sw0n1, eq_self, ↓reduceIte, swI_k, swI_ne, swI_self, a3]⟩
      · intro b hb
        obtain ⟨a1, a2, a3⟩ := h4 b hb
        exact ⟨a1, by simp (disch := omega) only [swlt_e, swbd_e, swrd_n, swgd_n, nI_clamp, sw8m, sw4m, sw4r, nI_add, nI_1, swsub, swsubn, sw4le, swleI, swltI, sweqI, sweqm, sw0add, if_pos, if_neg, if_true, if_false, sw1n0, sw0n1, eq_self, ↓reduceIte, swI_k, swI_ne, swI_self, a2], by simp (disch := omega) only [swlt_e, swbd_e, swrd_n, swgd_n, nI_clamp, sw8m, sw4m, sw4r, nI_add, nI_1, swsub, swsubn, sw4le, swleI, swltI, sweqI, sweqm, sw0add, if_pos, if_neg, if_true, if_false, sw1n0, sw0n1, eq_self, ↓reduceIte, swI_k, swI_ne, swI_self, a3]⟩
      · intro b hb
        obtain ⟨a1, a2, a3⟩ := h5 b hb
        exact ⟨by simp (disch := omega) only [swlt_e, swbd_e, swrd_n, swgd_n, nI_clamp, sw8m, sw4m, sw4r, nI_add, nI_1, swsub, swsubn, sw4le, swleI, swltI, sweqI, sweqm, sw0add, if_pos, if_neg, if_true, if_false, sw1n0, sw0n1, eq_self, ↓reduceIte, swI_k, swI_ne, swI_self, a1], by simp (disch := omega) only [swlt_e, swbd_e, swrd_n, swgd_n, nI_clamp, sw8m, sw4m, sw4r, nI_add, nI_1, swsub, swsubn, sw4le, swleI, swltI, sweqI, sweqm, sw0add, if_pos, if_neg, if_true, if_false, sw1n0, sw0n1, eq_self, ↓reduceIte, swI_k, swI_ne, swI_self, a2], a3⟩
      · intro q hq
        obtain ⟨a1, a2, a3, a4, a5, a6, a7⟩ := h6 q hq
        exact ⟨by simp (disch := omega) only [swlt_e, swbd_e, swrd_n, swgd_n, nI_clamp, sw8m, sw4m, sw4r, nI_add, nI_1, swsub, swsubn, sw4le, swleI, swltI, sweqI, sweqm, sw0add, if_pos, if_neg, if_true, if_false, sw1n0, sw0n1, eq_self, ↓reduceIte, swI_ne, a1], by simp (disch := omega) only [swlt_e, swbd_e, swrd_n, swgd_n, nI_clamp, sw8m, sw4m, sw4r, nI_add, nI_1, swsub, swsubn, sw4le, swleI, swltI, sweqI, sweqm, sw0add, if_pos, if_neg, if_true, if_false, sw1n0, sw0n1, eq_self, ↓reduceIte, swI_ne, a2], by simp (disch := omega) only [swlt_e, swbd_e, swrd_n, swgd_n, nI_clamp, sw8m, sw4m, sw4r, nI_add, nI_1, swsub, swsubn, sw4le, swleI, swltI, sweqI, sweqm, sw0add, if_pos, if_neg, if_true, if_false, sw1n0, sw0n1, eq_self, ↓reduceIte, swI_ne, a3], by simp (disch := omega) only [swlt_e, swbd_e, swrd_n, swgd_n, nI_clamp, sw8m, sw4m, sw4r, nI_add, nI_1, swsub, swsubn, sw4le, swleI, swltI, sweqI, sweqm, sw0add, if_pos, if_neg, if_true, if_false, sw1n0, sw0n1, eq_self, ↓reduceIte, swI_ne, a4], by simp (disch := omega) only [swlt_e, swbd_e, swrd_n, swgd_n, nI_clamp, sw8m, sw4m, sw4r, nI_add, nI_1, swsub, swsubn, sw4le, swleI, swltI, sweqI, sweqm, sw0add, if_pos, if_neg, if_true, if_false, sw1n0, sw0n1, eq_self, ↓reduceIte, swI_ne, a5], by simp (disch := omega) only [swlt_e, swbd_e, swrd_n, swgd_n, nI_clamp, sw8m, sw4m, sw4r, nI_add, nI_1, swsub, swsubn, sw4le, swleI, swltI, sweqI, sweqm, sw0add, if_pos, if_neg, if_true, if_false, sw1n0, sw0n1, eq_self, ↓reduceIte, swI_ne, a6], a7⟩
      · intro q hq
        obtain ⟨a1, a2, a3⟩ := h7 q hq
        exact ⟨swcD_fr a1 (by simp (disch := omega) only [swlt_e, swbd_e, swrd_n, swgd_n, nI_clamp, sw8m, sw4m, sw4r, nI_add, nI_1, swsub, swsubn, sw4le, swleI, swltI, sweqI, sweqm, sw0add, if_pos, if_neg, if_true, if_false, sw1n0, sw0n1, eq_self, ↓reduceIte, swI_ne]) (fun _ _ => by simp (disch := omega) only [swlt_e, swbd_e, swrd_n, swgd_n, nI_clamp, sw8m, sw4m, sw4r, nI_add, nI_1, swsub, swsubn, sw4le, swleI, swltI, sweqI, sweqm, sw0add, if_pos, if_neg, if_true, if_false, sw1n0, sw0n1, eq_self, ↓reduceIte, swI_ne]) (fun _ _ _ _ => by simp (disch := omega) only [swlt_e, swbd_e, swrd_n, swgd_n, nI_clamp, sw8m, sw4m, sw4r, nI_add, nI_1, swsub, swsubn, sw4le, swleI, swltI, sweqI, sweqm, sw0add, if_pos, if_neg, if_true, if_false, sw1n0, sw0n1, eq_self, ↓reduceIte, swI_ne]), swmD_fe a2 (by simp (disch := omega) only [swlt_e, swbd_e, swrd_n, swgd_n, nI_clamp, sw8m, sw4m, sw4r, nI_add, nI_1, swsub, swsubn, sw4le, swleI, swltI, sweqI, sweqm, sw0add, if_pos, if_neg, if_true, if_false, sw1n0, sw0n1, eq_self, ↓reduceIte, swI_ne]) (by simp (disch := omega) only [swlt_e, swbd_e, swrd_n, swgd_n, nI_clamp, sw8m, sw4m, sw4r, nI_add, nI_1, swsub, swsubn, sw4le, swleI, swltI, sweqI, sweqm, sw0add, if_pos, if_neg, if_true, if_false, sw1n0, sw0n1, eq_self, ↓reduceIte, swI_ne]) (by simp (disch := omega) only [swlt_e, swbd_e, swrd_n, swgd_n, nI_clamp, sw8m, sw4m, sw4r, nI_add, nI_1, swsub, swsubn, sw4le, swleI, swltI, sweqI, sweqm, sw0add, if_pos, if_neg, if_true, if_false, sw1n0, sw0n1, eq_self, ↓reduceIte, swI_ne]), a3⟩
      · obtain ⟨⟨a1, a2, a3, a4, a5, a6, a7, a8⟩, ⟨-, b2, b3, -, -, b6, b7, b8⟩, -⟩ := h8
        refine ⟨⟨a1, by simp (disch := omega) only [swlt_e, swbd_e, swrd_n, swgd_n, nI_clamp, sw8m, sw4m, sw4r, nI_add, nI_1, swsub, swsubn, sw4le, swleI, swltI, sweqI, sweqm, sw0add, if_pos, if_neg, if_true, if_false, sw1n0, sw0n1, eq_self, ↓reduceIte, swI_k, a2], fun r hr => ?_, a4, a5, by simp (disch := omega) only [swlt_e, swbd_e, swrd_n, swgd_n, nI_clamp, sw8m, sw4m, sw4r, nI_add, nI_1, swsub, swsubn, sw4le, swleI, swltI, sweqI, sweqm, sw0add, if_pos, if_neg, if_true, if_false, sw1n0, sw0n1, eq_self, ↓reduceIte, swI_k, a6], fun k hk => ?_, swI_self⟩, ⟨a1, by simp (disch := omega) only [swlt_e, swbd_e, swrd_n, swgd_n, nI_clamp, sw8m, sw4m, sw4r, nI_add, nI_1, swsub, swsubn, sw4le, swleI, swltI, sweqI, sweqm, sw0add, if_pos, if_neg, if_true, if_false, sw1n0, sw0n1, eq_self, ↓reduceIte, swI_k, b2], fun r hr => ?_, a4, a5, by simp (disch := omega) only [swlt_e, swbd_e, swrd_n, swgd_n, nI_clamp, sw8m, sw4m, sw4r, nI_add, nI_1, swsub, swsubn, sw4le, swleI, swltI, sweqI, sweqm, sw0add, if_pos, if_neg, if_true, if_false, sw1n0, sw0n1, eq_self, ↓reduceIte, swI_k, b6], fun k hk => ?_, swI_self⟩, q3⟩
        · intro j2 hj2
          simp (disch := omega) only [swlt_e, swbd_e, swrd_n, swgd_n, nI_clamp, sw8m, sw4m, sw4r, nI_add, nI_1, swsub, swsubn, sw4le, swleI, swltI, sweqI, sweqm, sw0add, if_pos, if_neg, if_true, if_false, sw1n0, sw0n1, eq_self, ↓reduceIte, swI_ne]
          exact a3 r hr j2 hj2
        · intro j2 hj2
          simp (disch := omega) only [swlt_e, swbd_e, swrd_n, swgd_n, nI_clamp, sw8m, sw4m, sw4r, nI_add, nI_1, swsub, swsubn, sw4le, swleI, swltI, sweqI, sweqm, sw0add, if_pos, if_neg, if_true, if_false, sw1n0, sw0n1, eq_self, ↓reduceIte, swI_ne]
          exact a7 k hk j2 hj2
        · simp (disch := omega) only [swlt_e, swbd_e, swrd_n, swgd_n, nI_clamp, sw8m, sw4m, sw4r, nI_add, nI_1, swsub, swsubn, sw4le, swleI, swltI, sweqI, sweqm, sw0add, if_pos, if_neg, if_true, if_false, sw1n0, sw0n1, eq_self, ↓reduceIte, swI_ne]
          exact b3 r hr
        · simp (disch := omega) only [swlt_e, swbd_e, swrd_n, swgd_n, nI_clamp, sw8m, sw4m, sw4r, nI_add, nI_1, swsub, swsubn, sw4le, swleI, swltI, sweqI, sweqm, sw0add, if_pos, if_neg, if_true, if_false, sw1n0, sw0n1, eq_self, ↓reduceIte, swI_ne]
          exact b7 k hk
  · have q4 : (nI (E.2.2.2.2 + j) ≤ 999) = False := by
      rw [show (999 : Int32) = nI 999 from rfl, swleI (by omega) (by omega)]
      exact propext ⟨fun z => absurd z q3, fun z => z.elim⟩
    refine swOM.no hR (c := 2) (t := 2) ?_ ?_ (by simp)
    · simp (disch := omega) only [swlt_e, swbd_e, swrd_n, swgd_n, nI_clamp, sw8m, sw4m, sw4r, nI_add, nI_1, swsub, swsubn, sw4le, swleI, swltI, sweqI, sweqm, sw0add, if_pos, if_neg, if_true, if_false, sw1n0, sw0n1, eq_self, ↓reduceIte, q1, q2, sw_le_yes q2, hce, q4]
    · simp (disch := omega) only [swlt_e, swbd_e, swrd_n, swgd_n, nI_clamp, sw8m, sw4m, sw4r, nI_add, nI_1, swsub, swsubn, sw4le, swleI, swltI, sweqI, sweqm, sw0add, if_pos, if_neg, if_true, if_false, sw1n0, sw0n1, eq_self, ↓reduceIte, q1, q2, hme, q4]
theorem op_rule {u w : swU} (h : swRl u w) (x j lo hi : Int32) : swOM [(0, 0), (1, 1), (2, 2), (3, 3)] (xx5_rule u x j lo hi) (mx_rule w x j lo hi) := by
  have hR := h
  obtain ⟨nv, nb, ns, hd, sh, mo, cm, ot, am, dk, E, h1, h2, h3, h4, h5, h6, hA, h7, h8⟩ := h
  unfold xx5_rule mx_rule
  have hce := h8.1.2.1
  have hme := h8.2.1.2.1
  have h88 := h8.1.1
  by_cases q1 : x < 0
  · refine swOM.no hR (c := 0) (t := 1) ?_ ?_ (by simp)
    · simp (disch := omega) only [swlt_e, swbd_e, swrd_n, swgd_n, nI_clamp, sw8m, sw4m, sw4r, nI_add, nI_1, swsub, swsubn, sw4le, swleI, swltI, sweqI, sweqm, sw0add, if_pos, if_neg, if_true, if_false, sw1n0, sw0n1, eq_self, ↓reduceIte, q1]
    · unfold mx_in
      simp (disch := omega) only [swlt_e, swbd_e, swrd_n, swgd_n, nI_clamp, sw8m, sw4m, sw4r, nI_add, nI_1, swsub, swsubn, sw4le, swleI, swltI, sweqI, sweqm, sw0add, if_pos, if_neg, if_true, if_false, sw1n0, sw0n1, eq_self, ↓reduceIte, q1]
  by_cases q2 : 2 < x
  · refine swOM.no hR (c := 0) (t := 1) ?_ ?_ (by simp)
    · have : ¬ x < 3 := fun z => by
        obtain ⟨m, hm, rfl⟩ := nI_of q1
        rw [show (2 : Int32) = nI 2 from rfl, nI_ltI (by omega) hm] at q2
        rw [show (3 : Int32) = nI 3 from rfl, nI_ltI hm (by omega)] at z
        omega
      simp (disch := omega) only [swlt_e, swbd_e, swrd_n, swgd_n, nI_clamp, sw8m, sw4m, sw4r, nI_add, nI_1, swsub, swsubn, sw4le, swleI, swltI, sweqI, sweqm, sw0add, if_pos, if_neg, if_true, if_false, sw1n0, sw0n1, eq_self, ↓reduceIte, q1, this]
    · unfold mx_in
      simp (disch := omega) only [swlt_e, swbd_e, swrd_n, swgd_n, nI_clamp, sw8m, sw4m, sw4r, nI_add, nI_1, swsub, swsubn, sw4le, swleI, swltI, sweqI, sweqm, sw0add, if_pos, if_neg, if_true, if_false, sw1n0, sw0n1, eq_self, ↓reduceIte, q1, q2]
  have q3 : x < 3 := by
    obtain ⟨m, hm, rfl⟩ := nI_of q1
    rw [show (2 : Int32) = nI 2 from rfl, nI_ltI (by omega) hm] at q2
    rw [show (3 : Int32) = nI 3 from rfl, nI_ltI hm (by omega)]
    omega
  have qx : mx_in x 0 2 = some true := by
    unfold mx_in
    simp (disch := omega) only [swlt_e, swbd_e, swrd_n, swgd_n, nI_clamp, sw8m, sw4m, sw4r, nI_add, nI_1, swsub, swsubn, sw4le, swleI, swltI, sweqI, sweqm, sw0add, if_pos, if_neg, if_true, if_false, sw1n0, sw0n1, eq_self, ↓reduceIte, q1, q2]
  rcases sw_cas j (n := 4) (by omega) with hx | ⟨i, hi4, rfl⟩
  · obtain ⟨e5, e6⟩ := ckO_n (u := u) hx
    refine swOM.no hR (c := 0) (t := 1) ?_ ?_ (by simp)
    · simp (disch := omega) only [swlt_e, swbd_e, swrd_n, swgd_n, nI_clamp, sw8m, sw4m, sw4r, nI_add, nI_1, swsub, swsubn, sw4le, swleI, swltI, sweqI, sweqm, sw0add, if_pos, if_neg, if_true, if_false, sw1n0, sw0n1, eq_self, ↓reduceIte, q1, q3, e5]
      rfl
    · simp (disch := omega) only [swlt_e, swbd_e, swrd_n, swgd_n, nI_clamp, sw8m, sw4m, sw4r, nI_add, nI_1, swsub, swsubn, sw4le, swleI, swltI, sweqI, sweqm, sw0add, if_pos, if_neg, if_true, if_false, sw1n0, sw0n1, eq_self, ↓reduceIte, qx, e6, swB_f, swB_t]
  obtain ⟨e5, e6⟩ := ckO_y (u := u) hi4
  by_cases r1 : lo < 1
  · refine swOM.no hR (c := 1) (t := 2) ?_ ?_ (by simp)
    · simp (disch := omega) only [swlt_e, swbd_e, swrd_n, swgd_n, nI_clamp, sw8m, sw4m, sw4r, nI_add, nI_1, swsub, swsubn, sw4le, swleI, swltI, sweqI, sweqm, sw0add, if_pos, if_neg, if_true, if_false, sw1n0, sw0n1, eq_self, ↓reduceIte, q1, q3, e5, swck_0, r1]
    · have : mx_in lo 1 999 = some false := by
        unfold mx_in
        simp (disch := omega) only [swlt_e, swbd_e, swrd_n, swgd_n, nI_clamp, sw8m, sw4m, sw4r, nI_add, nI_1, swsub, swsubn, sw4le, swleI, swltI, sweqI, sweqm, sw0add, if_pos, if_neg, if_true, if_false, sw1n0, sw0n1, eq_self, ↓reduceIte, r1]
      simp (disch := omega) only [swlt_e, swbd_e, swrd_n, swgd_n, nI_clamp, sw8m, sw4m, sw4r, nI_add, nI_1, swsub, swsubn, sw4le, swleI, swltI, sweqI, sweqm, sw0add, if_pos, if_neg, if_true, if_false, sw1n0, sw0n1, eq_self, ↓reduceIte, qx, e6, swB_f, swB_t, this]
  by_cases r2 : 999 < lo
  · refine swOM.no hR (c := 1) (t := 2) ?_ ?_ (by simp)
    · simp (disch := omega) only [swlt_e, swbd_e, swrd_n, swgd_n, nI_clamp, sw8m, sw4m, sw4r, nI_add, nI_1, swsub, swsubn, sw4le, swleI, swltI, sweqI, sweqm, sw0add, if_pos, if_neg, if_true, if_false, sw1n0, sw0n1, eq_self, ↓reduceIte, q1, q3, e5, swck_0, r1, r2]
    · have : mx_in lo 1 999 = some false := by
        unfold mx_in
        simp (disch := omega) only [swlt_e, swbd_e, swrd_n, swgd_n, nI_clamp, sw8m, sw4m, sw4r, nI_add, nI_1, swsub, swsubn, sw4le, swleI, swltI, sweqI, sweqm, sw0add, if_pos, if_neg, if_true, if_false, sw1n0, sw0n1, eq_self, ↓reduceIte, r1, r2]
      simp (disch := omega) only [swlt_e, swbd_e, swrd_n, swgd_n, nI_clamp, sw8m, sw4m, sw4r, nI_add, nI_1, swsub, swsubn, sw4le, swleI, swltI, sweqI, sweqm, sw0add, if_pos, if_neg, if_true, if_false, sw1n0, sw0n1, eq_self, ↓reduceIte, qx, e6, swB_f, swB_t, this]
  have rx : mx_in lo 1 999 = some true := by
    unfold mx_in
    simp (disch := omega) only [swlt_e, swbd_e, swrd_n, swgd_n, nI_clamp, sw8m, sw4m, sw4r, nI_add, nI_1, swsub, swsubn, sw4le, swleI, swltI, sweqI, sweqm, sw0add, if_pos, if_neg, if_true, if_false, sw1n0, sw0n1, eq_self, ↓reduceIte, r1, r2]
  by_cases r3 : hi < lo
  · refine swOM.no hR (c := 1) (t := 2) ?_ ?_ (by simp)
    · simp (disch := omega) only [swlt_e, swbd_e, swrd_n, swgd_n, nI_clamp, sw8m, sw4m, sw4r, nI_add, nI_1, swsub, swsubn, sw4le, swleI, swltI, sweqI, sweqm, sw0add, if_pos, if_neg, if_true, if_false, sw1n0, sw0n1, eq_self, ↓reduceIte, q1, q3, e5, swck_0, r1, r2, r3]
    · have : mx_in hi lo 999 = some false := by
        unfold mx_in
        simp (disch := omega) only [swlt_e, swbd_e, swrd_n, swgd_n, nI_clamp, sw8m, sw4m, sw4r, nI_add, nI_1, swsub, swsubn, sw4le, swleI, swltI, sweqI, sweqm, sw0add, if_pos, if_neg, if_true, if_false, sw1n0, sw0n1, eq_self, ↓reduceIte, r3]
      simp (disch := omega) only [swlt_e, swbd_e, swrd_n, swgd_n, nI_clamp, sw8m, sw4m, sw4r, nI_add, nI_1, swsub, swsubn, sw4le, swleI, swltI, sweqI, sweqm, sw0add, if_pos, if_neg, if_true, if_false, sw1n0, sw0n1, eq_self, ↓reduceIte, qx, e6, swB_f, swB_t, rx, this]
  by_cases r4 : 999 < hi
  · refine swOM.no hR (c := 1) (t := 2) ?_ ?_ (by simp)
    · simp (disch := omega) only [swlt_e, swbd_e, swrd_n, swgd_n, nI_clamp, sw8m, sw4m, sw4r, nI_add, nI_1, swsub, swsubn, sw4le, swleI, swltI, sweqI, sweqm, sw0add, if_pos, if_neg, if_true, if_false, sw1n0, sw0n1, eq_self, ↓reduceIte, q1, q3, e5, swck_0, r1, r2, r3, sw_le_not r4]
    · have : mx_in hi lo 999 = some false := by
        unfold mx_in
        simp (disch := omega) only [swlt_e, swbd_e, swrd_n, swgd_n, nI_clamp, sw8m, sw4m, sw4r, nI_add, nI_1, swsub, swsubn, sw4le, swleI, swltI, sweqI, sweqm, sw0add, if_pos, if_neg, if_true, if_false, sw1n0, sw0n1, eq_self, ↓reduceIte, r3, r4]
      simp (disch := omega) only [swlt_e, swbd_e, swrd_n, swgd_n, nI_clamp, sw8m, sw4m, sw4r, nI_add, nI_1, swsub, swsubn, sw4le, swleI, swltI, sweqI, sweqm, sw0add, if_pos, if_neg, if_true, if_false, sw1n0, sw0n1, eq_self, ↓reduceIte, qx, e6, swB_f, swB_t, rx, this]
  have ry : mx_in hi lo 999 = some true := by
    unfold mx_in
    simp (disch := omega) only [swlt_e, swbd_e, swrd_n, swgd_n, nI_clamp, sw8m, sw4m, sw4r, nI_add, nI_1, swsub, swsubn, sw4le, swleI, swltI, sweqI, sweqm, sw0add, if_pos, if_neg, if_true, if_false, sw1n0, sw0n1, eq_self, ↓reduceIte, r3, r4]
  by_cases r5 : E.1 = 8
  · refine swOM.no hR (c := 2) (t := 3) ?_ ?_ (by simp)
    · have : (nI E.1 < 8) = False := by rw [r5]; exact propext ⟨fun z => absurd z (by decide), fun z => z.elim⟩
      simp (disch := omega) only [swlt_e, swbd_e, swrd_n, swgd_n, nI_clamp, sw8m, sw4m, sw4r, nI_add, nI_1, swsub, swsubn, sw4le, swleI, swltI, sweqI, sweqm, sw0add, if_pos, if_neg, if_true, if_false, sw1n0, sw0n1, eq_self, ↓reduceIte, q1, q3, e5, swck_0, r1, r2, r3, sw_le_yes r4, hce, this]
    · have : (nI E.1 = 8) = True := by rw [r5]; exact propext ⟨fun _ => trivial, fun _ => rfl⟩
      simp (disch := omega) only [swlt_e, swbd_e, swrd_n, swgd_n, nI_clamp, sw8m, sw4m, sw4r, nI_add, nI_1, swsub, swsubn, sw4le, swleI, swltI, sweqI, sweqm, sw0add, if_pos, if_neg, if_true, if_false, sw1n0, sw0n1, eq_self, ↓reduceIte, qx, e6, swB_f, swB_t, rx, ry, hme, this]
  have r6 : (nI E.1 < 8) = True := by
    rw [show (8 : Int32) = nI 8 from rfl, swltI (by omega) (by omega)]
    exact propext ⟨fun _ => trivial, fun _ => by omega⟩
  have r7 : (nI E.1 = 8) = False := by
    rw [show (8 : Int32) = nI 8 from rfl, sweqI (by omega) (by omega)]
    exact propext ⟨fun z => absurd z r5, fun z => z.elim⟩
  refine swOM.mk (c := 0) (r := nI E.1) (u' := swI (swI (swI (swI (swI u (10 + E.1) 0 x) (10 + E.1) 1 (nI i)) (10 + E.1) 2 lo) (10 + E.1) 3 hi) 0 9 (nI (E.1 + 1))) (b := nI E.1) (w' := swI (swI (swI (swI (swI (swI w 0 0 0) 13 E.1 x) 14 E.1 (nI i)) 15 E.1 lo) 16 E.1 hi) 0 12 (nI (E.1 + 1))) (t := 0) ?_ ?_ ?_ (by simp) (fun _ => rfl) ?_
  · simp (disch := omega) only [swlt_e, swbd_e, swrd_n, swgd_n, nI_clamp, sw8m, sw4m, sw4r, nI_add, nI_1, swsub, swsubn, sw4le, swleI, swltI, sweqI, sweqm, sw0add, if_pos, if_neg, if_true, if_false, sw1n0, sw0n1, eq_self, ↓reduceIte, q1, q3, e5, swck_0, r1, r2, r3, sw_le_yes r4, hce, r6]
  · simp (disch := omega) only [swlt_e, swbd_e, swrd_n, swgd_n, nI_clamp, sw8m, sw4m, sw4r, nI_add, nI_1, swsub, swsubn, sw4le, swleI, swltI, sweqI, sweqm, sw0add, if_pos, if_neg, if_true, if_false, sw1n0, sw0n1, eq_self, ↓reduceIte, qx, e6, swB_t, rx, ry, hme, r7, swI_k, swI_ne, swI_self, Nat.add_sub_cancel]
  · simp (disch := omega) only [swlt_e, swbd_e, swrd_n, swgd_n, nI_clamp, sw8m, sw4m, sw4r, nI_add, nI_1, swsub, swsubn, sw4le, swleI, swltI, sweqI, sweqm, sw0add, if_pos, if_neg, if_true, if_false, sw1n0, sw0n1, eq_self, ↓reduceIte, swI_k, swI_ne, swI_self]
  · refine ⟨nv, nb, ns, hd, sh, mo, cm, ot, am, dk, (E.1 + 1, (fun r k => if r = E.1 then (if k = 0 then x else if k = 1 then nI i else if k = 2 then lo else hi) else E.2.1 r k), E.2.2.1, E.2.2.2.1, E.2.2.2.2), ?_, ?_, ?_, ?_, ?_, ?_, hA, ?_, ?_⟩
    · obtain ⟨a1, a2, a3, a4⟩ := h1
      exact ⟨a1, a2, by simp (disch := omega) only [swlt_e, swbd_e, swrd_n, swgd_n, nI_clamp, sw8m, sw4m, sw4r, nI_add, nI_1, swsub, swsubn, sw4le, swleI, swltI, sweqI, sweqm, sw0add, if_pos, if_neg, if_true, if_false, sw1n0, sw0n1, eq_self, ↓reduceIte, swI_k, swI_ne, swI_self, a3], by simp (disch := omega) only [swlt_e, swbd_e, swrd_n, swgd_n, nI_clamp, sw8m, sw4m, sw4r, nI_add, nI_1, swsub, swsubn, sw4le, swleI, swltI, sweqI, sweqm, sw0add, if_pos, if_neg, if_true, if_false, sw1n0, sw0n1, eq_self, ↓reduceIte, swI_k, swI_ne, swI_self, a4]⟩
    · obtain ⟨a1, a2, a3, a4⟩ := h2
      exact ⟨a1, a2, by simp (disch := omega) only [swlt_e, swbd_e, swrd_n, swgd_n, nI_clamp, sw8m, sw4m, sw4r, nI_add, nI_1, swsub, swsubn, sw4le, swleI, swltI, sweqI, sweqm, sw0add, if_pos, if_neg, if_true, if_false, sw1n0, sw0n1, eq_self, ↓reduceIte, swI_k, swI_ne, swI_self, a3], by simp (disch := omega) only [swlt_e, swbd_e, swrd_n, swgd_n, nI_clamp, sw8m, sw4m, sw4r, nI_add, nI_1, swsub, swsubn, sw4le, swleI, swltI, sweqI, sweqm, sw0add, if_pos, if_neg, if_true, if_false, sw1n0, sw0n1, eq_self, ↓reduceIte, swI_k, swI_ne, swI_self, a4]⟩
    · obtain ⟨a1, a2, a3⟩ := h3
      exact ⟨a1, by simp (disch := omega) only [swlt_e, swbd_e, swrd_n, swgd_n, nI_clamp, sw8m, sw4m, sw4r, nI_add, nI_1, swsub, swsubn, sw4le, swleI, swltI, sweqI, sweqm, sw0add, if_pos, if_neg, if_true, if_false, sw1n0, sw0n1, eq_self, ↓reduceIte, swI_k, swI_ne, swI_self, a2], by simp (disch := omega) only [swlt_e, swbd_e, swrd_n, swgd_n, nI_clamp, sw8m, sw4m, sw4r, nI_add, nI_1, swsub, swsubn, sw4le, swleI, swltI, sweqI, sweqm, sw0add, if_pos, if_neg, if_true, if_false, sw1n0, sw0n1, eq_self, ↓reduceIte, swI_k, swI_ne, swI_self, a3]⟩
    · intro b hb
      obtain ⟨a1, a2, a3⟩ := h4 b hb
      exact ⟨a1, by simp (disch := omega) only [swlt_e, swbd_e, swrd_n, swgd_n, nI_clamp, sw8m, sw4m, sw4r, nI_add, nI_1, swsub, swsubn, sw4le, swleI, swltI, sweqI, sweqm, sw0add, if_pos, if_neg, if_true, if_false, sw1n0, sw0n1, eq_self, ↓reduceIte, swI_k, swI_ne, swI_self, a2], by simp (disch := omega) only [swlt_e, swbd_e, swrd_n, swgd_n, nI_clamp, sw8m, sw4m, sw4r, nI_add, nI_1, swsub, swsubn, sw4le, swleI, swltI, sweqI, sweqm, sw0add, if_pos, if_neg, if_true, if_false, sw1n0, sw0n1, eq_self, ↓reduceIte, swI_k, swI_ne, swI_self, a3]⟩
    · intro b hb
      obtain ⟨a1, a2, a3⟩ := h5 b hb
      exact ⟨by simp (disch := omega) only [swlt_e, swbd_e, swrd_n, swgd_n, nI_clamp, sw8m, sw4m, sw4r, nI_add, nI_1, swsub, swsubn, sw4le, swleI, swltI, sweqI, sweqm, sw0add, if_pos, if_neg, if_true, if_false, sw1n0, sw0n1, eq_self, ↓reduceIte, swI_k, swI_ne, swI_self, a1], by simp (disch := omega) only [swlt_e, swbd_e, swrd_n, swgd_n, nI_clamp, sw8m, sw4m, sw4r, nI_add, nI_1, swsub, swsubn, sw4le, swleI, swltI, sweqI, sweqm, sw0add, if_pos, if_neg, if_true, if_false, sw1n0, sw0n1, eq_self, ↓reduceIte, swI_k, swI_ne, swI_self, a2], a3⟩
    · intro q hq
      obtain ⟨a1, a2, a3, a4, a5, a6, a7⟩ := h6 q hq
      exact ⟨by simp (disch := omega) only [swlt_e, swbd_e, swrd_n, swgd_n, nI_clamp, sw8m, sw4m, sw4r, nI_add, nI_1, swsub, swsubn, sw4le, swleI, swltI, sweqI, sweqm, sw0add, if_pos, if_neg, if_true, if_false, sw1n0, sw0n1, eq_self, ↓reduceIte, swI_ne, a1], by simp (disch := omega) only [swlt_e, swbd_e, swrd_n, swgd_n, nI_clamp, sw8m, sw4m, sw4r, nI_add, nI_1, swsub, swsubn, sw4le, swleI, swltI, sweqI, sweqm, sw0add, if_pos, if_neg, if_true, if_false, sw1n0, sw0n1, eq_self, ↓reduceIte, swI_ne, a2], by simp (disch := omega) only [swlt_e, swbd_e, swrd_n, swgd_n, nI_clamp, sw8m, sw4m, sw4r, nI_add, nI_1, swsub, swsubn, sw4le, swleI, swltI, sweqI, sweqm, sw0add, if_pos, if_neg, if_true, if_false, sw1n0, sw0n1, eq_self, ↓reduceIte, swI_ne, a3], by simp (disch := omega) only [swlt_e, swbd_e, swrd_n, swgd_n, nI_clamp, sw8m, sw4m, sw4r, nI_add, nI_1, swsub, swsubn, sw4le, swleI, swltI, sweqI, sweqm, sw0add, if_pos, if_neg, if_true, if_false, sw1n0, sw0n1, eq_self, ↓reduceIte, swI_ne, a4], by simp (disch := omega) only [swlt_e, swbd_e, swrd_n, swgd_n, nI_clamp, sw8m, sw4m, sw4r, nI_add, nI_1, swsub, swsubn, sw4le, swleI, swltI, sweqI, sweqm, sw0add, if_pos, if_neg, if_true, if_false, sw1n0, sw0n1, eq_self, ↓reduceIte, swI_ne, a5], by simp (disch := omega) only [swlt_e, swbd_e, swrd_n, swgd_n, nI_clamp, sw8m, sw4m, sw4r, nI_add, nI_1, swsub, swsubn, sw4le, swleI, swltI, sweqI, sweqm, sw0add, if_pos, if_neg, if_true, if_false, sw1n0, sw0n1, eq_self, ↓reduceIte, swI_ne, a6], a7⟩
    · intro q hq
      obtain ⟨a1, a2, a3⟩ := h7 q hq
      exact ⟨swcD_fr a1 (by simp (disch := omega) only [swlt_e, swbd_e, swrd_n, swgd_n, nI_clamp, sw8m, sw4m, sw4r, nI_add, nI_1, swsub, swsubn, sw4le, swleI, swltI, sweqI, sweqm, sw0add, if_pos, if_neg, if_true, if_false, sw1n0, sw0n1, eq_self, ↓reduceIte, swI_ne]) (fun _ _ => by simp (disch := omega) only [swlt_e, swbd_e, swrd_n, swgd_n, nI_clamp, sw8m, sw4m, sw4r, nI_add, nI_1, swsub, swsubn, sw4le, swleI, swltI, sweqI, sweqm, sw0add, if_pos, if_neg, if_true, if_false, sw1n0, sw0n1, eq_self, ↓reduceIte, swI_ne]) (fun _ _ _ _ => by simp (disch := omega) only [swlt_e, swbd_e, swrd_n, swgd_n, nI_clamp, sw8m, sw4m, sw4r, nI_add, nI_1, swsub, swsubn, sw4le, swleI, swltI, sweqI, sweqm, sw0add, if_pos, if_neg, if_true, if_false, sw1n0, sw0n1, eq_self, ↓reduceIte, swI_ne]), swmD_fe a2 (by simp (disch := omega) only [swlt_e, swbd_e, swrd_n, swgd_n, nI_clamp, sw8m, sw4m, sw4r, nI_add, nI_1, swsub, swsubn, sw4le, swleI, swltI, sweqI, sweqm, sw0add, if_pos, if_neg, if_true, if_false, sw1n0, sw0n1, eq_self, ↓reduceIte, swI_ne]) (by simp (disch := omega) only [swlt_e, swbd_e, swrd_n, swgd_n, nI_clamp, sw8m, sw4m, sw4r, nI_add, nI_1, swsub, swsubn, sw4le, swleI, swltI, sweqI, sweqm, sw0add, if_pos, if_neg, if_true, if_false, sw1n0, sw0n1, eq_self, ↓reduceIte, swI_ne]) (by simp (disch := omega) only [swlt_e, swbd_e, swrd_n, swgd_n, nI_clamp, sw8m, sw4m, sw4r, nI_add, nI_1, swsub, swsubn, sw4le, swleI, swltI, sweqI, sweqm, sw0add, if_pos, if_neg, if_true, if_false, sw1n0, sw0n1, eq_self, ↓reduceIte, swI_ne]), a3⟩
    · obtain ⟨⟨a1, a2, a3, a4, a5, a6, a7, a8⟩, ⟨-, b2, b3, -, -, b6, b7, b8⟩, a9⟩ := h8
      have a4n : ∀ r, r < E.1 + 1 → ∃ o, o < 4 ∧ (if r = E.1 then (if (1 : Nat) = 0 then x else if (1 : Nat) = 1 then nI i else if (1 : Nat) = 2 then lo else hi) else E.2.1 r 1) = nI o := by
        intro r hr
        by_cases e : r = E.1
        · exact ⟨i, hi4, by rw [if_pos e]; rfl⟩
        · obtain ⟨o, ho, he⟩ := a4 r (by omega)
          exact ⟨o, ho, by rw [if_neg e]; exact he⟩
      refine ⟨⟨by show E.1 + 1 ≤ 8; omega, swI_self, fun r hr => ?_, a4n, a5, by simp (disch := omega) only [swlt_e, swbd_e, swrd_n, swgd_n, nI_clamp, sw8m, sw4m, sw4r, nI_add, nI_1, swsub, swsubn, sw4le, swleI, swltI, sweqI, sweqm, sw0add, if_pos, if_neg, if_true, if_false, sw1n0, sw0n1, eq_self, ↓reduceIte, swI_k, swI_ne, a6], fun k hk => ?_, by simp (disch := omega) only [swlt_e, swbd_e, swrd_n, swgd_n, nI_clamp, sw8m, sw4m, sw4r, nI_add, nI_1, swsub, swsubn, sw4le, swleI, swltI, sweqI, sweqm, sw0add, if_pos, if_neg, if_true, if_false, sw1n0, sw0n1, eq_self, ↓reduceIte, swI_k, swI_ne, a8]⟩, ⟨by show E.1 + 1 ≤ 8; omega, swI_self, fun r hr => ?_, a4n, a5, by simp (disch := omega) only [swlt_e, swbd_e, swrd_n, swgd_n, nI_clamp, sw8m, sw4m, sw4r, nI_add, nI_1, swsub, swsubn, sw4le, swleI, swltI, sweqI, sweqm, sw0add, if_pos, if_neg, if_true, if_false, sw1n0, sw0n1, eq_self, ↓reduceIte, swI_k, swI_ne, b6], fun k hk => ?_, by simp (disch := omega) only [swlt_e, swbd_e, swrd_n, swgd_n, nI_clamp, sw8m, sw4m, sw4r, nI_add, nI_1, swsub, swsubn, sw4le, swleI, swltI, sweqI, sweqm, sw0add, if_pos, if_neg, if_true, if_false, sw1n0, sw0n1, eq_self, ↓reduceIte, swI_k, swI_ne, b8]⟩, a9⟩
      · intro j2 hj2
        have hr2 : r < E.1 + 1 := hr
        by_cases e : r = E.1
        · subst e
          obtain rfl | rfl | rfl | rfl : j2 = 0 ∨ j2 = 1 ∨ j2 = 2 ∨ j2 = 3 := by omega
          all_goals simp (disch := omega) only [swlt_e, swbd_e, swrd_n, swgd_n, nI_clamp, sw8m, sw4m, sw4r, nI_add, nI_1, swsub, swsubn, sw4le, swleI, swltI, sweqI, sweqm, sw0add, if_pos, if_neg, if_true, if_false, sw1n0, sw0n1, eq_self, ↓reduceIte, swI_k, swI_ne, swI_self]
        · simp (disch := omega) only [swlt_e, swbd_e, swrd_n, swgd_n, nI_clamp, sw8m, sw4m, sw4r, nI_add, nI_1, swsub, swsubn, sw4le, swleI, swltI, sweqI, sweqm, sw0add, if_pos, if_neg, if_true, if_false, sw1n0, sw0n1, eq_self, ↓reduceIte, e, swI_ne]
          exact a3 r (by omega) j2 hj2
      · intro j2 hj2
        have hk2 : k < E.2.2.1 := hk
        have hk12 : E.2.2.1 ≤ 12 := a5
        simp (disch := omega) only [swlt_e, swbd_e, swrd_n, swgd_n, nI_clamp, sw8m, sw4m, sw4r, nI_add, nI_1, swsub, swsubn, sw4le, swleI, swltI, sweqI, sweqm, sw0add, if_pos, if_neg, if_true, if_false, sw1n0, sw0n1, eq_self, ↓reduceIte, swI_ne]
        exact a7 k hk j2 hj2
      · have hr2 : r < E.1 + 1 := hr
        by_cases e : r = E.1
        · subst e
          exact ⟨by simp (disch := omega) only [swlt_e, swbd_e, swrd_n, swgd_n, nI_clamp, sw8m, sw4m, sw4r, nI_add, nI_1, swsub, swsubn, sw4le, swleI, swltI, sweqI, sweqm, sw0add, if_pos, if_neg, if_true, if_false, sw1n0, sw0n1, eq_self, ↓reduceIte, swI_k, swI_ne, swI_self], by simp (disch := omega) only [swlt_e, swbd_e, swrd_n, swgd_n, nI_clamp, sw8m, sw4m, sw4r, nI_add, nI_1, swsub, swsubn, sw4le, swleI, swltI, sweqI, sweqm, sw0add, if_pos, if_neg, if_true, if_false, sw1n0, sw0n1, eq_self, ↓reduceIte, swI_k, swI_ne, swI_self], by simp (disch := omega) only [swlt_e, swbd_e, swrd_n, swgd_n, nI_clamp, sw8m, sw4m, sw4r, nI_add, nI_1, swsub, swsubn, sw4le, swleI, swltI, sweqI, sweqm, sw0add, if_pos, if_neg, if_true, if_false, sw1n0, sw0n1, eq_self, ↓reduceIte, swI_k, swI_ne, swI_self], by simp (disch := omega) only [swlt_e, swbd_e, swrd_n, swgd_n, nI_clamp, sw8m, sw4m, sw4r, nI_add, nI_1, swsub, swsubn, sw4le, swleI, swltI, sweqI, sweqm, sw0add, if_pos, if_neg, if_true, if_false, sw1n0, sw0n1, eq_self, ↓reduceIte, swI_k, swI_ne, swI_self]⟩
        · obtain ⟨z1, z2, z3, z4⟩ := b3 r (by omega)
          exact ⟨by simp (disch := omega) only [swlt_e, swbd_e, swrd_n, swgd_n, nI_clamp, sw8m, sw4m, sw4r, nI_add, nI_1, swsub, swsubn, sw4le, swleI, swltI, sweqI, sweqm, sw0add, if_pos, if_neg, if_true, if_false, sw1n0, sw0n1, eq_self, ↓reduceIte, e, swI_k, swI_ne, z1], by simp (disch := omega) only [swlt_e, swbd_e, swrd_n, swgd_n, nI_clamp, sw8m, sw4m, sw4r, nI_add, nI_1, swsub, swsubn, sw4le, swleI, swltI, sweqI, sweqm, sw0add, if_pos, if_neg, if_true, if_false, sw1n0, sw0n1, eq_self, ↓reduceIte, e, swI_k, swI_ne, z2], by simp (disch := omega) only [swlt_e, swbd_e, swrd_n, swgd_n, nI_clamp, sw8m, sw4m, sw4r, nI_add, nI_1, swsub, swsubn, sw4le, swleI, swltI, sweqI, sweqm, sw0add, if_pos, if_neg, if_true, if_false, sw1n0, sw0n1, eq_self, ↓reduceIte, e, swI_k, swI_ne, z3], by simp (disch := omega) only [swlt_e, swbd_e, swrd_n, swgd_n, nI_clamp, sw8m, sw4m, sw4r, nI_add, nI_1, swsub, swsubn, sw4le, swleI, swltI, sweqI, sweqm, sw0add, if_pos, if_neg, if_true, if_false, sw1n0, sw0n1, eq_self, ↓reduceIte, e, swI_k, swI_ne, z4]⟩
      · simp (disch := omega) only [swlt_e, swbd_e, swrd_n, swgd_n, nI_clamp, sw8m, sw4m, sw4r, nI_add, nI_1, swsub, swsubn, sw4le, swleI, swltI, sweqI, sweqm, sw0add, if_pos, if_neg, if_true, if_false, sw1n0, sw0n1, eq_self, ↓reduceIte, swI_ne]
        exact b7 k hk
theorem op_waive {u w : swU} (h : swRl u w) (x s t : Int32) : swOM [(0, 0), (1, 1), (2, 2), (3, 3)] (xx5_waive u x s t) (mx_waive w x s t) := by
  have hR := h
  obtain ⟨nv, nb, ns, hd, sh, mo, cm, ot, am, dk, E, h1, h2, h3, h4, h5, h6, hA, h7, h8⟩ := h
  unfold xx5_waive mx_waive
  have hce := h8.1.2.1
  have hme := h8.2.1.2.1
  have h88 := h8.1.1
  have h12 := h8.1.2.2.2.2.1
  have hck := h8.1.2.2.2.2.2.1
  have hmk := h8.2.1.2.2.2.2.2.1
  have hcd := h8.1.2.2.2.2.2.2.2
  have hmd := h8.2.1.2.2.2.2.2.2.2
  rcases sw_cas x (n := E.1) (by omega) with hx | ⟨r, hr, rfl⟩
  · obtain ⟨e1, e2⟩ := ckR_n h8 hx
    rw [e1, e2]
    exact swOM.no hR rfl rfl (by simp)
  obtain ⟨e1, e2⟩ := ckR_y h8 hr
  rcases sw_cas s (n := ns) (by have := h3.1; omega) with hx | ⟨i, hi, rfl⟩
  · obtain ⟨e3, e4⟩ := ckS_n h3 hx
    rw [e1, e2, e3, e4]
    exact swOM.no hR rfl rfl (by simp)
  obtain ⟨e3, e4⟩ := ckS_y h3 hi
  have c0 := h8.1.2.2.1 r hr 0 (by omega)
  have m0 := (h8.2.1.2.2.1 r hr).1
  rw [e1, e2, e3, e4]
  by_cases r1 : t < nI E.2.2.2.2
  · refine swOM.no hR (c := 1) (t := 2) ?_ ?_ (by simp)
    · simp (disch := omega) only [swlt_e, swbd_e, swrd_n, swgd_n, nI_clamp, sw8m, sw4m, sw4r, nI_add, nI_1, swsub, swsubn, sw4le, swleI, swltI, sweqI, sweqm, sw0add, if_pos, if_neg, if_true, if_false, sw1n0, sw0n1, eq_self, ↓reduceIte, swck_0, hcd, r1]
    · have : mx_in t (nI E.2.2.2.2) 999 = some false := by
        unfold mx_in
        simp (disch := omega) only [swlt_e, swbd_e, swrd_n, swgd_n, nI_clamp, sw8m, sw4m, sw4r, nI_add, nI_1, swsub, swsubn, sw4le, swleI, swltI, sweqI, sweqm, sw0add, if_pos, if_neg, if_true, if_false, sw1n0, sw0n1, eq_self, ↓reduceIte, r1]
      simp (disch := omega) only [swlt_e, swbd_e, swrd_n, swgd_n, nI_clamp, sw8m, sw4m, sw4r, nI_add, nI_1, swsub, swsubn, sw4le, swleI, swltI, sweqI, sweqm, sw0add, if_pos, if_neg, if_true, if_false, sw1n0, sw0n1, eq_self, ↓reduceIte, swB_f, swB_t, hmd, this]
  by_cases r2 : 999 < t
  · refine swOM.no hR (c := 1) (t := 2) ?_ ?_ (by simp)
    · simp (disch := omega) only [swlt_e, swbd_e, swrd_n, swgd_n, nI_clamp, sw8m, sw4m, sw4r, nI_add, nI_1, swsub, swsubn, sw4le, swleI, swltI, sweqI, sweqm, sw0add, if_pos, if_neg, if_true, if_false, sw1n0, sw0n1, eq_self, ↓reduceIte, swck_0, hcd, r1, sw_le_not r2]
    · have : mx_in t (nI E.2.2.2.2) 999 = some false := by
        unfold mx_in
        simp (disch := omega) only [swlt_e, swbd_e, swrd_n, swgd_n, nI_clamp, sw8m, sw4m, sw4r, nI_add, nI_1, swsub, swsubn, sw4le, swleI, swltI, sweqI, sweqm, sw0add, if_pos, if_neg, if_true, if_false, sw1n0, sw0n1, eq_self, ↓reduceIte, r1, r2]
      simp (disch := omega) only [swlt_e, swbd_e, swrd_n, swgd_n, nI_clamp, sw8m, sw4m, sw4r, nI_add, nI_1, swsub, swsubn, sw4le, swleI, swltI, sweqI, sweqm, sw0add, if_pos, if_neg, if_true, if_false, sw1n0, sw0n1, eq_self, ↓reduceIte, swB_f, swB_t, hmd, this]
  have rx : mx_in t (nI E.2.2.2.2) 999 = some true := by
    unfold mx_in
    simp (disch := omega) only [swlt_e, swbd_e, swrd_n, swgd_n, nI_clamp, sw8m, sw4m, sw4r, nI_add, nI_1, swsub, swsubn, sw4le, swleI, swltI, sweqI, sweqm, sw0add, if_pos, if_neg, if_true, if_false, sw1n0, sw0n1, eq_self, ↓reduceIte, r1, r2]
  by_cases r3 : E.2.1 r 0 = 1
  case neg =>
    refine swOM.no hR (c := 2) (t := 3) ?_ ?_ (by simp)
    · simp (disch := omega) only [swlt_e, swbd_e, swrd_n, swgd_n, nI_clamp, sw8m, sw4m, sw4r, nI_add, nI_1, swsub, swsubn, sw4le, swleI, swltI, sweqI, sweqm, sw0add, if_pos, if_neg, if_true, if_false, sw1n0, sw0n1, eq_self, ↓reduceIte, swck_0, hcd, r1, sw_le_yes r2, c0, r3]
    · simp (disch := omega) only [swlt_e, swbd_e, swrd_n, swgd_n, nI_clamp, sw8m, sw4m, sw4r, nI_add, nI_1, swsub, swsubn, sw4le, swleI, swltI, sweqI, sweqm, sw0add, if_pos, if_neg, if_true, if_false, sw1n0, sw0n1, eq_self, ↓reduceIte, swB_f, swB_t, hmd, rx, m0, r3]
  by_cases r5 : E.2.2.1 = 12
  · refine swOM.no hR (c := 2) (t := 3) ?_ ?_ (by simp)
    · have : (nI E.2.2.1 < 12) = False := by rw [r5]; exact propext ⟨fun z => absurd z (by decide), fun z => z.elim⟩
      simp (disch := omega) only [swlt_e, swbd_e, swrd_n, swgd_n, nI_clamp, sw8m, sw4m, sw4r, nI_add, nI_1, swsub, swsubn, sw4le, swleI, swltI, sweqI, sweqm, sw0add, if_pos, if_neg, if_true, if_false, sw1n0, sw0n1, eq_self, ↓reduceIte, swck_0, hcd, r1, sw_le_yes r2, c0, r3, hck, this]
    · have : (nI E.2.2.1 = 12) = True := by rw [r5]; exact propext ⟨fun _ => trivial, fun _ => rfl⟩
      simp (disch := omega) only [swlt_e, swbd_e, swrd_n, swgd_n, nI_clamp, sw8m, sw4m, sw4r, nI_add, nI_1, swsub, swsubn, sw4le, swleI, swltI, sweqI, sweqm, sw0add, if_pos, if_neg, if_true, if_false, sw1n0, sw0n1, eq_self, ↓reduceIte, swB_f, swB_t, hmd, rx, m0, r3, hmk, this]
  have r6 : (nI E.2.2.1 < 12) = True := by
    rw [show (12 : Int32) = nI 12 from rfl, swltI (by omega) (by omega)]
    exact propext ⟨fun _ => trivial, fun _ => by omega⟩
  have r7 : (nI E.2.2.1 = 12) = False := by
    rw [show (12 : Int32) = nI 12 from rfl, sweqI (by omega) (by omega)]
    exact propext ⟨fun z => absurd z r5, fun z => z.elim⟩
  refine swOM.mk (c := 0) (r := nI E.2.2.1) (u' := swI (swI (swI (swI u (20 + E.2.2.1) 0 (nI r)) (20 + E.2.2.1) 1 (nI i)) (20 + E.2.2.1) 2 t) 0 10 (nI (E.2.2.1 + 1))) (b := nI E.2.2.1) (w' := swI (swI (swI (swI (swI w 0 0 0) 18 E.2.2.1 (nI r)) 19 E.2.2.1 (nI i)) 20 E.2.2.1 t) 0 17 (nI (E.2.2.1 + 1))) (t := 0) ?_ ?_ ?_ (by simp) (fun _ => rfl) ?_
  · simp (disch := omega) only [swlt_e, swbd_e, swrd_n, swgd_n, nI_clamp, sw8m, sw4m, sw4r, nI_add, nI_1, swsub, swsubn, sw4le, swleI, swltI, sweqI, sweqm, sw0add, if_pos, if_neg, if_true, if_false, sw1n0, sw0n1, eq_self, ↓reduceIte, swck_0, hcd, r1, sw_le_yes r2, c0, r3, hck, r6]
  · simp (disch := omega) only [swlt_e, swbd_e, swrd_n, swgd_n, nI_clamp, sw8m, sw4m, sw4r, nI_add, nI_1, swsub, swsubn, sw4le, swleI, swltI, sweqI, sweqm, sw0add, if_pos, if_neg, if_true, if_false, sw1n0, sw0n1, eq_self, ↓reduceIte, swB_t, hmd, rx, m0, r3, hmk, r7, swI_k, swI_ne, swI_self, Nat.add_sub_cancel]
  · simp (disch := omega) only [swlt_e, swbd_e, swrd_n, swgd_n, nI_clamp, sw8m, sw4m, sw4r, nI_add, nI_1, swsub, swsubn, sw4le, swleI, swltI, sweqI, sweqm, sw0add, if_pos, if_neg, if_true, if_false, sw1n0, sw0n1, eq_self, ↓reduceIte, swI_k, swI_ne, swI_self]
  · refine ⟨nv, nb, ns, hd, sh, mo, cm, ot, am, dk, (E.1, E.2.1, E.2.2.1 + 1, (fun k j => if k = E.2.2.1 then (if j = 0 then nI r else if j = 1 then nI i else t) else E.2.2.2.1 k j), E.2.2.2.2), ?_, ?_, ?_, ?_, ?_, ?_, hA, ?_, ?_⟩
    · obtain ⟨a1, a2, a3, a4⟩ := h1
      exact ⟨a1, a2, by simp (disch := omega) only [swlt_e, swbd_e, swrd_n, swgd_n, nI_clamp, sw8m, sw4m, sw4r, nI_add, nI_1, swsub, swsubn, sw4le, swleI, swltI, sweqI, sweqm, sw0add, if_pos, if_neg, if_true, if_false, sw1n0, sw0n1, eq_self, ↓reduceIte, swI_k, swI_ne, swI_self, a3], by simp (disch := omega) only [swlt_e, swbd_e, swrd_n, swgd_n, nI_clamp, sw8m, sw4m, sw4r, nI_add, nI_1, swsub, swsubn, sw4le, swleI, swltI, sweqI, sweqm, sw0add, if_pos, if_neg, if_true, if_false, sw1n0, sw0n1, eq_self, ↓reduceIte, swI_k, swI_ne, swI_self, a4]⟩
    · obtain ⟨a1, a2, a3, a4⟩ := h2
      exact ⟨a1, a2, by simp (disch := omega) only [swlt_e, swbd_e, swrd_n, swgd_n, nI_clamp, sw8m, sw4m, sw4r, nI_add, nI_1, swsub, swsubn, sw4le, swleI, swltI, sweqI, sweqm, sw0add, if_pos, if_neg, if_true, if_false, sw1n0, sw0n1, eq_self, ↓reduceIte, swI_k, swI_ne, swI_self, a3], by simp (disch := omega) only [swlt_e, swbd_e, swrd_n, swgd_n, nI_clamp, sw8m, sw4m, sw4r, nI_add, nI_1, swsub, swsubn, sw4le, swleI, swltI, sweqI, sweqm, sw0add, if_pos, if_neg, if_true, if_false, sw1n0, sw0n1, eq_self, ↓reduceIte, swI_k, swI_ne, swI_self, a4]⟩
    · obtain ⟨a1, a2, a3⟩ := h3
      exact ⟨a1, by simp (disch := omega) only [swlt_e, swbd_e, swrd_n, swgd_n, nI_clamp, sw8m, sw4m, sw4r, nI_add, nI_1, swsub, swsubn, sw4le, swleI, swltI, sweqI, sweqm, sw0add, if_pos, if_neg, if_true, if_false, sw1n0, sw0n1, eq_self, ↓reduceIte, swI_k, swI_ne, swI_self, a2], by simp (disch := omega) only [swlt_e, swbd_e, swrd_n, swgd_n, nI_clamp, sw8m, sw4m, sw4r, nI_add, nI_1, swsub, swsubn, sw4le, swleI, swltI, sweqI, sweqm, sw0add, if_pos, if_neg, if_true, if_false, sw1n0, sw0n1, eq_self, ↓reduceIte, swI_k, swI_ne, swI_self, a3]⟩
    · intro b hb
      obtain ⟨a1, a2, a3⟩ := h4 b hb
      exact ⟨a1, by simp (disch := omega) only [swlt_e, swbd_e, swrd_n, swgd_n, nI_clamp, sw8m, sw4m, sw4r, nI_add, nI_1, swsub, swsubn, sw4le, swleI, swltI, sweqI, sweqm, sw0add, if_pos, if_neg, if_true, if_false, sw1n0, sw0n1, eq_self, ↓reduceIte, swI_k, swI_ne, swI_self, a2], by simp (disch := omega) only [swlt_e, swbd_e, swrd_n, swgd_n, nI_clamp, sw8m, sw4m, sw4r, nI_add, nI_1, swsub, swsubn, sw4le, swleI, swltI, sweqI, sweqm, sw0add, if_pos, if_neg, if_true, if_false, sw1n0, sw0n1, eq_self, ↓reduceIte, swI_k, swI_ne, swI_self, a3]⟩
    · intro b hb
      obtain ⟨a1, a2, a3⟩ := h5 b hb
      exact ⟨by simp (disch := omega) only [swlt_e, swbd_e, swrd_n, swgd_n, nI_clamp, sw8m, sw4m, sw4r, nI_add, nI_1, swsub, swsubn, sw4le, swleI, swltI, sweqI, sweqm, sw0add, if_pos, if_neg, if_true, if_false, sw1n0, sw0n1, eq_self, ↓reduceIte, swI_k, swI_ne, swI_self, a1], by simp (disch := omega) only [swlt_e, swbd_e, swrd_n, swgd_n, nI_clamp, sw8m, sw4m, sw4r, nI_add, nI_1, swsub, swsubn, sw4le, swleI, swltI, sweqI, sweqm, sw0add, if_pos, if_neg, if_true, if_false, sw1n0, sw0n1, eq_self, ↓reduceIte, swI_k, swI_ne, swI_self, a2], a3⟩
    · intro q hq
      obtain ⟨a1, a2, a3, a4, a5, a6, a7⟩ := h6 q hq
      exact ⟨by simp (disch := omega) only [swlt_e, swbd_e, swrd_n, swgd_n, nI_clamp, sw8m, sw4m, sw4r, nI_add, nI_1, swsub, swsubn, sw4le, swleI, swltI, sweqI, sweqm, sw0add, if_pos, if_neg, if_true, if_false, sw1n0, sw0n1, eq_self, ↓reduceIte, swI_ne, a1], by simp (disch := omega) only [swlt_e, swbd_e, swrd_n, swgd_n, nI_clamp, sw8m, sw4m, sw4r, nI_add, nI_1, swsub, swsubn, sw4le, swleI, swltI, sweqI, sweqm, sw0add, if_pos, if_neg, if_true, if_false, sw1n0, sw0n1, eq_self, ↓reduceIte, swI_ne, a2], by simp (disch := omega) only [swlt_e, swbd_e, swrd_n, swgd_n, nI_clamp, sw8m, sw4m, sw4r, nI_add, nI_1, swsub, swsubn, sw4le, swleI, swltI, sweqI, sweqm, sw0add, if_pos, if_neg, if_true, if_false, sw1n0, sw0n1, eq_self, ↓reduceIte, swI_ne, a3], by simp (disch := omega) only [swlt_e, swbd_e, swrd_n, swgd_n, nI_clamp, sw8m, sw4m, sw4r, nI_add, nI_1, swsub, swsubn, sw4le, swleI, swltI, sweqI, sweqm, sw0add, if_pos, if_neg, if_true, if_false, sw1n0, sw0n1, eq_self, ↓reduceIte, swI_ne, a4], by simp (disch := omega) only [swlt_e, swbd_e, swrd_n, swgd_n, nI_clamp, sw8m, sw4m, sw4r, nI_add, nI_1, swsub, swsubn, sw4le, swleI, swltI, sweqI, sweqm, sw0add, if_pos, if_neg, if_true, if_false, sw1n0, sw0n1, eq_self, ↓reduceIte, swI_ne, a5], by simp (disch := omega) only [swlt_e, swbd_e, swrd_n, swgd_n, nI_clamp, sw8m, sw4m, sw4r, nI_add, nI_1, swsub, swsubn, sw4le, swleI, swltI, sweqI, sweqm, sw0add, if_pos, if_neg, if_true, if_false, sw1n0, sw0n1, eq_self, ↓reduceIte, swI_ne, a6], a7⟩
    · intro q hq
      obtain ⟨a1, a2, a3⟩ := h7 q hq
      exact ⟨swcD_fr a1 (by simp (disch := omega) only [swlt_e, swbd_e, swrd_n, swgd_n, nI_clamp, sw8m, sw4m, sw4r, nI_add, nI_1, swsub, swsubn, sw4le, swleI, swltI, sweqI, sweqm, sw0add, if_pos, if_neg, if_true, if_false, sw1n0, sw0n1, eq_self, ↓reduceIte, swI_ne]) (fun _ _ => by simp (disch := omega) only [swlt_e, swbd_e, swrd_n, swgd_n, nI_clamp, sw8m, sw4m, sw4r, nI_add, nI_1, swsub, swsubn, sw4le, swleI, swltI, sweqI, sweqm, sw0add, if_pos, if_neg, if_true, if_false, sw1n0, sw0n1, eq_self, ↓reduceIte, swI_ne]) (fun _ _ _ _ => by simp (disch := omega) only [swlt_e, swbd_e, swrd_n, swgd_n, nI_clamp, sw8m, sw4m, sw4r, nI_add, nI_1, swsub, swsubn, sw4le, swleI, swltI, sweqI, sweqm, sw0add, if_pos, if_neg, if_true, if_false, sw1n0, sw0n1, eq_self, ↓reduceIte, swI_ne]), swmD_fe a2 (by simp (disch := omega) only [swlt_e, swbd_e, swrd_n, swgd_n, nI_clamp, sw8m, sw4m, sw4r, nI_add, nI_1, swsub, swsubn, sw4le, swleI, swltI, sweqI, sweqm, sw0add, if_pos, if_neg, if_true, if_false, sw1n0, sw0n1, eq_self, ↓reduceIte, swI_ne]) (by simp (disch := omega) only [swlt_e, swbd_e, swrd_n, swgd_n, nI_clamp, sw8m, sw4m, sw4r, nI_add, nI_1, swsub, swsubn, sw4le, swleI, swltI, sweqI, sweqm, sw0add, if_pos, if_neg, if_true, if_false, sw1n0, sw0n1, eq_self, ↓reduceIte, swI_ne]) (by simp (disch := omega) only [swlt_e, swbd_e, swrd_n, swgd_n, nI_clamp, sw8m, sw4m, sw4r, nI_add, nI_1, swsub, swsubn, sw4le, swleI, swltI, sweqI, sweqm, sw0add, if_pos, if_neg, if_true, if_false, sw1n0, sw0n1, eq_self, ↓reduceIte, swI_ne]), a3⟩
    · obtain ⟨⟨a1, a2, a3, a4, a5, a6, a7, a8⟩, ⟨-, b2, b3, -, -, b6, b7, b8⟩, a9⟩ := h8
      refine ⟨⟨a1, by simp (disch := omega) only [swlt_e, swbd_e, swrd_n, swgd_n, nI_clamp, sw8m, sw4m, sw4r, nI_add, nI_1, swsub, swsubn, sw4le, swleI, swltI, sweqI, sweqm, sw0add, if_pos, if_neg, if_true, if_false, sw1n0, sw0n1, eq_self, ↓reduceIte, swI_k, swI_ne, a2], fun r2 hr2 => ?_, a4, by show E.2.2.1 + 1 ≤ 12; omega, swI_self, fun k hk => ?_, by simp (disch := omega) only [swlt_e, swbd_e, swrd_n, swgd_n, nI_clamp, sw8m, sw4m, sw4r, nI_add, nI_1, swsub, swsubn, sw4le, swleI, swltI, sweqI, sweqm, sw0add, if_pos, if_neg, if_true, if_false, sw1n0, sw0n1, eq_self, ↓reduceIte, swI_k, swI_ne, a8]⟩, ⟨a1, by simp (disch := omega) only [swlt_e, swbd_e, swrd_n, swgd_n, nI_clamp, sw8m, sw4m, sw4r, nI_add, nI_1, swsub, swsubn, sw4le, swleI, swltI, sweqI, sweqm, sw0add, if_pos, if_neg, if_true, if_false, sw1n0, sw0n1, eq_self, ↓reduceIte, swI_k, swI_ne, b2], fun r2 hr2 => ?_, a4, by show E.2.2.1 + 1 ≤ 12; omega, swI_self, fun k hk => ?_, by simp (disch := omega) only [swlt_e, swbd_e, swrd_n, swgd_n, nI_clamp, sw8m, sw4m, sw4r, nI_add, nI_1, swsub, swsubn, sw4le, swleI, swltI, sweqI, sweqm, sw0add, if_pos, if_neg, if_true, if_false, sw1n0, sw0n1, eq_self, ↓reduceIte, swI_k, swI_ne, b8]⟩, a9⟩
      · intro j2 hj2
        have hr3 : r2 < E.1 := hr2
        simp (disch := omega) only [swlt_e, swbd_e, swrd_n, swgd_n, nI_clamp, sw8m, sw4m, sw4r, nI_add, nI_1, swsub, swsubn, sw4le, swleI, swltI, sweqI, sweqm, sw0add, if_pos, if_neg, if_true, if_false, sw1n0, sw0n1, eq_self, ↓reduceIte, swI_ne]
        exact a3 r2 hr2 j2 hj2
      · intro j2 hj2
        have hk2 : k < E.2.2.1 + 1 := hk
        by_cases e : k = E.2.2.1
        · subst e
          obtain rfl | rfl | rfl : j2 = 0 ∨ j2 = 1 ∨ j2 = 2 := by omega
          all_goals simp (disch := omega) only [swlt_e, swbd_e, swrd_n, swgd_n, nI_clamp, sw8m, sw4m, sw4r, nI_add, nI_1, swsub, swsubn, sw4le, swleI, swltI, sweqI, sweqm, sw0add, if_pos, if_neg, if_true, if_false, sw1n0, sw0n1, eq_self, ↓reduceIte, swI_k, swI_ne, swI_self]
        · simp (disch := omega) only [swlt_e, swbd_e, swrd_n, swgd_n, nI_clamp, sw8m, sw4m, sw4r, nI_add, nI_1, swsub, swsubn, sw4le, swleI, swltI, sweqI, sweqm, sw0add, if_pos, if_neg, if_true, if_false, sw1n0, sw0n1, eq_self, ↓reduceIte, e, swI_ne]
          exact a7 k (by omega) j2 hj2
      · simp (disch := omega) only [swlt_e, swbd_e, swrd_n, swgd_n, nI_clamp, sw8m, sw4m, sw4r, nI_add, nI_1, swsub, swsubn, sw4le, swleI, swltI, sweqI, sweqm, sw0add, if_pos, if_neg, if_true, if_false, sw1n0, sw0n1, eq_self, ↓reduceIte, swI_ne]
        exact b3 r2 hr2
      · have hk2 : k < E.2.2.1 + 1 := hk
        by_cases e : k = E.2.2.1
        · subst e
          exact ⟨by simp (disch := omega) only [swlt_e, swbd_e, swrd_n, swgd_n, nI_clamp, sw8m, sw4m, sw4r, nI_add, nI_1, swsub, swsubn, sw4le, swleI, swltI, sweqI, sweqm, sw0add, if_pos, if_neg, if_true, if_false, sw1n0, sw0n1, eq_self, ↓reduceIte, swI_k, swI_ne, swI_self], by simp (disch := omega) only [swlt_e, swbd_e, swrd_n, swgd_n, nI_clamp, sw8m, sw4m, sw4r, nI_add, nI_1, swsub, swsubn, sw4le, swleI, swltI, sweqI, sweqm, sw0add, if_pos, if_neg, if_true, if_false, sw1n0, sw0n1, eq_self, ↓reduceIte, swI_k, swI_ne, swI_self], by simp (disch := omega) only [swlt_e, swbd_e, swrd_n, swgd_n, nI_clamp, sw8m, sw4m, sw4r, nI_add, nI_1, swsub, swsubn, sw4le, swleI, swltI, sweqI, sweqm, sw0add, if_pos, if_neg, if_true, if_false, sw1n0, sw0n1, eq_self, ↓reduceIte, swI_k, swI_ne, swI_self]⟩
        · obtain ⟨z1, z2, z3⟩ := b7 k (by omega)
          exact ⟨by simp (disch := omega) only [swlt_e, swbd_e, swrd_n, swgd_n, nI_clamp, sw8m, sw4m, sw4r, nI_add, nI_1, swsub, swsubn, sw4le, swleI, swltI, sweqI, sweqm, sw0add, if_pos, if_neg, if_true, if_false, sw1n0, sw0n1, eq_self, ↓reduceIte, e, swI_k, swI_ne, z1], by simp (disch := omega) only [swlt_e, swbd_e, swrd_n, swgd_n, nI_clamp, sw8m, sw4m, sw4r, nI_add, nI_1, swsub, swsubn, sw4le, swleI, swltI, sweqI, sweqm, sw0add, if_pos, if_neg, if_true, if_false, sw1n0, sw0n1, eq_self, ↓reduceIte, e, swI_k, swI_ne, z2], by simp (disch := omega) only [swlt_e, swbd_e, swrd_n, swgd_n, nI_clamp, sw8m, sw4m, sw4r, nI_add, nI_1, swsub, swsubn, sw4le, swleI, swltI, sweqI, sweqm, sw0add, if_pos, if_neg, if_true, if_false, sw1n0, sw0n1, eq_self, ↓reduceIte, e, swI_k, swI_ne, z3]⟩
