/-! ===== the class's calls at numbers that are there: what they answer, what they leave ===== -/
section OC
variable {u : swU} {w : lyU} {nv nb ns : Nat} {hd : Nat → Nat} {sh mo cm ot : Nat → Int32} {am : Nat → Nat} {dk : Nat → swD} {E : swEv}
theorem oV (h1 : sr1 nv u w) {j : Nat} (hj : j < nv) : xx5_checkVersion u (nI j) = some 0 := by
  unfold xx5_checkVersion
  rw [h1.2.2.1]
  exact sw_inn (by have := h1.2.1; omega) hj
theorem oB (h2 : sr2 nb u w) {j : Nat} (hj : j < nb) : xx5_checkBranch u (nI j) = some 0 := by
  unfold xx5_checkBranch
  rw [h2.2.2.1]
  exact sw_inn (by have := h2.2.1; omega) hj
theorem oS (h3 : sr3 ns u w) {j : Nat} (hj : j < ns) : xx5_checkSlide u (nI j) = some 0 := by
  unfold xx5_checkSlide
  rw [h3.2.1]
  exact sw_inn (by have := h3.1; omega) hj
theorem oO {j : Nat} (hj : j < 4) : xx5_checkObject u (nI j) = some 0 := sw_inn (n := 4) (by omega) hj
theorem oR (hE : swcE u E) {j : Nat} (hj : j < E.1) : xx5_checkRule u (nI j) = some 0 := by
  unfold xx5_checkRule
  rw [hE.2.1]
  exact sw_inn (by have := hE.1; omega) hj
theorem oD {a b : Nat} (ha : a < 2 ^ 31) (hb : b < 2 ^ 31) (hab : a ≠ b) : xx5_checkDifferent u (nI a) (nI b) = some 0 := if_neg (by rw [nI_eq ha hb]; exact hab)
theorem oRm (h1 : sr1 nv u w) (h : nv < 40) : xx5_checkRoomForVersion u = some 0 := by
  unfold xx5_checkRoomForVersion
  have hl : nI nv < 40 := nI_lt (b := 40) h (by omega)
  rw [h1.2.2.1, if_pos hl]
theorem oc_head (h2 : sr2 nb u w) (h4 : sr4 nv nb hd u w) {b : Nat} (hb : b < nb) : xx5_head u (nI b) = some (0, nI (hd b), u) := by
  have hb6 := h2.2.1
  unfold xx5_head
  rw [oB h2 hb]
  simp (disch := omega) only [swlt_e, swbd_e, swrd_n, swgd_n, nI_clamp, sw8m, sw4m, sw4r, nI_add, nI_1, swsub, swsubn, sw4le, swleI, swltI, sweqI, sweqm, sw0add, if_pos, if_neg, if_true, if_false, sw1n0, sw0n1, eq_self, ↓reduceIte, swck_0, (h4 b hb).2.1]
theorem oc_shown0 (h2 : sr2 nb u w) (h5 : sr5 nv sh u w) {b : Nat} (hb : b < nb) (hs : sh b = -1) : xx5_shown u (nI b) = some (0, -1, u) := by
  have hb6 := h2.2.1
  unfold xx5_shown
  rw [oB h2 hb]
  simp (disch := omega) only [swlt_e, swbd_e, swrd_n, swgd_n, nI_clamp, sw8m, sw4m, sw4r, nI_add, nI_1, swsub, swsubn, sw4le, swleI, swltI, sweqI, sweqm, sw0add, if_pos, if_neg, if_true, if_false, sw1n0, sw0n1, eq_self, ↓reduceIte, swck_0, (h5 b (by omega)).1, hs]
theorem oc_shown1 (h1 : sr1 nv u w) (h2 : sr2 nb u w) (h5 : sr5 nv sh u w) (h7 : sr7 nv ns dk u w) (h8 : sr8 E u w) {b v : Nat} (hb : b < nb) (hv : v < nv) (hs : sh b = nI v) : xx5_shown u (nI b) = some (0, if 0 < swBK E (dk v) then -1 else nI v, u) := by
  have hb6 := h2.2.1
  have h40 := h1.2.1
  have hc := (h7 v hv).1
  have hbk := sw_bk0 (E := E) (d := dk v) h8.1.1 hc.1
  unfold xx5_shown
  rw [oB h2 hb]
  by_cases hz : swBK E (dk v) = 0
  · rw [eq_true hz] at hbk
    rw [if_neg (by omega)]
    simp (disch := omega) only [swlt_e, swbd_e, swrd_n, swgd_n, nI_clamp, sw8m, sw4m, sw4r, nI_add, nI_1, swsub, swsubn, sw4le, swleI, swltI, sweqI, sweqm, sw0add, if_pos, if_neg, if_true, if_false, sw1n0, sw0n1, eq_self, ↓reduceIte, swck_0, (h5 b (by omega)).1, hs, swap100, pc_countBlocks h8.1 hc, hbk]
  · rw [eq_false hz] at hbk
    rw [if_pos (by omega)]
    simp (disch := omega) only [swlt_e, swbd_e, swrd_n, swgd_n, nI_clamp, sw8m, sw4m, sw4r, nI_add, nI_1, swsub, swsubn, sw4le, swleI, swltI, sweqI, sweqm, sw0add, if_pos, if_neg, if_true, if_false, sw1n0, sw0n1, eq_self, ↓reduceIte, swck_0, (h5 b (by omega)).1, hs, swap100, pc_countBlocks h8.1 hc, hbk]
theorem oc_blocks (h1 : sr1 nv u w) (h7 : sr7 nv ns dk u w) (h8 : sr8 E u w) {v : Nat} (hv : v < nv) : xx5_blocks u (nI v) = some (0, nI (swBK E (dk v)), u) := by
  have h40 := h1.2.1
  unfold xx5_blocks
  rw [oV h1 hv]
  simp (disch := omega) only [swlt_e, swbd_e, swrd_n, swgd_n, nI_clamp, sw8m, sw4m, sw4r, nI_add, nI_1, swsub, swsubn, sw4le, swleI, swltI, sweqI, sweqm, sw0add, if_pos, if_neg, if_true, if_false, sw1n0, sw0n1, eq_self, ↓reduceIte, swck_0, swap100, pc_countBlocks h8.1 (h7 v hv).1]
theorem oc_warnings (h1 : sr1 nv u w) (h7 : sr7 nv ns dk u w) (h8 : sr8 E u w) {v : Nat} (hv : v < nv) : xx5_warnings u (nI v) = some (0, nI (swWK E (dk v)), u) := by
  have h40 := h1.2.1
  unfold xx5_warnings
  rw [oV h1 hv]
  simp (disch := omega) only [swlt_e, swbd_e, swrd_n, swgd_n, nI_clamp, sw8m, sw4m, sw4r, nI_add, nI_1, swsub, swsubn, sw4le, swleI, swltI, sweqI, sweqm, sw0add, if_pos, if_neg, if_true, if_false, sw1n0, sw0n1, eq_self, ↓reduceIte, swck_0, swap100, pc_wa h8.1 (h7 v hv).1]
theorem oc_firstBlock (h1 : sr1 nv u w) (h7 : sr7 nv ns dk u w) (h8 : sr8 E u w) {v : Nat} (hv : v < nv) : xx5_firstBlock u (nI v) = some (0, swFB E (dk v), u) := by
  have h40 := h1.2.1
  unfold xx5_firstBlock
  rw [oV h1 hv]
  simp (disch := omega) only [swlt_e, swbd_e, swrd_n, swgd_n, nI_clamp, sw8m, sw4m, sw4r, nI_add, nI_1, swsub, swsubn, sw4le, swleI, swltI, sweqI, sweqm, sw0add, if_pos, if_neg, if_true, if_false, sw1n0, sw0n1, eq_self, ↓reduceIte, swck_0, swap100, pc_fb h8.1 (h7 v hv).1]
theorem oc_slideAt (h1 : sr1 nv u w) (h7 : sr7 nv ns dk u w) {v i : Nat} (hv : v < nv) (hi : i < 8) : xx5_slideAt u (nI v) (nI i) = some (0, if i < (dk v).1 then (dk v).2.1 i else -1, u) := by
  have h40 := h1.2.1
  obtain ⟨c8, cn, cr, -⟩ := (h7 v hv).1
  have h00 : (0 : Int32) ≤ nI i := nI_pos' (by omega)
  unfold xx5_slideAt
  rw [oV h1 hv]
  by_cases hl : i < (dk v).1
  · rw [if_pos hl]
    simp (disch := omega) only [swlt_e, swbd_e, swrd_n, swgd_n, nI_clamp, sw8m, sw4m, sw4r, nI_add, nI_1, swsub, swsubn, sw4le, swleI, swltI, sweqI, sweqm, sw0add, if_pos, if_neg, if_true, if_false, sw1n0, sw0n1, eq_self, ↓reduceIte, swck_0, h00, swap100, cn, cr]
  · rw [if_neg hl]
    simp (disch := omega) only [swlt_e, swbd_e, swrd_n, swgd_n, nI_clamp, sw8m, sw4m, sw4r, nI_add, nI_1, swsub, swsubn, sw4le, swleI, swltI, sweqI, sweqm, sw0add, if_pos, if_neg, if_true, if_false, sw1n0, sw0n1, eq_self, ↓reduceIte, swck_0, h00, swap100, cn, cr]
theorem oc_value (h1 : sr1 nv u w) (h3 : sr3 ns u w) (h7 : sr7 nv ns dk u w) {v t i : Nat} (hv : v < nv) (ht : t < ns) (hi : i < 4) : xx5_value u (nI v) (nI t) (nI i) = some (0, swVO (dk v) (nI t) i, u) := by
  have h40 := h1.2.1
  unfold xx5_value
  rw [oV h1 hv, oS h3 ht, oO hi]
  simp (disch := omega) only [swlt_e, swbd_e, swrd_n, swgd_n, nI_clamp, sw8m, sw4m, sw4r, nI_add, nI_1, swsub, swsubn, sw4le, swleI, swltI, sweqI, sweqm, sw0add, if_pos, if_neg, if_true, if_false, sw1n0, sw0n1, eq_self, ↓reduceIte, swck_0, swap100, pc_valueOf (h7 v hv).1 _ hi]
theorem oc_about (h1 : sr1 nv u w) (h6 : sr6 nv mo cm ot am u w) (hA : srA nv am) (h7 : sr7 nv ns dk u w) {v : Nat} (hv : v < nv) : xx5_about u (nI v) 0 = some (0, mo v, u) ∧ xx5_about u (nI v) 1 = some (0, cm v, u) ∧ xx5_about u (nI v) 2 = some (0, ot v, u) ∧ xx5_about u (nI v) 3 = some (0, nI (dk v).1, u) ∧ xx5_about u (nI v) 4 = some (0, nI (sw_cnt 40 (fun k => (am v).testBit k)), u) := by
  have h40 := h1.2.1
  obtain ⟨a1, a2, a3, -, -, -, a7⟩ := h6 v hv
  have hcn := (h7 v hv).1.2.1
  have hbc : swBC (lN (am v)) = nI (sw_cnt 40 (fun k => (am v).testBit k)) := by
    have h64 := srA_40 hA h40 hv
    rw [bc_all (by omega), show (64 : Nat) = 40 + 24 from rfl, sw_cnt_split, sw_cnt_no 24 (fun k _ => Nat.testBit_lt_two_pow (Nat.lt_of_lt_of_le h64 (Nat.pow_le_pow_right (by omega) (by omega)))), Nat.add_zero]
  unfold xx5_about
  rw [oV h1 hv]
  refine ⟨?_, ?_, ?_, ?_, ?_⟩
  · simp (disch := omega) only [swlt_e, swbd_e, swrd_n, swgd_n, nI_clamp, sw8m, sw4m, sw4r, nI_add, nI_1, swsub, swsubn, sw4le, swleI, swltI, sweqI, sweqm, sw0add, if_pos, if_neg, if_true, if_false, sw1n0, sw0n1, eq_self, ↓reduceIte, swck_0, a1]
  · simp (disch := omega) only [swlt_e, swbd_e, swrd_n, swgd_n, nI_clamp, sw8m, sw4m, sw4r, nI_add, nI_1, swsub, swsubn, sw4le, swleI, swltI, sweqI, sweqm, sw0add, if_pos, if_neg, if_true, if_false, sw1n0, sw0n1, eq_self, ↓reduceIte, swck_0, swi10, swi12, swi13, swi14, swi20, swi21, swi23, swi24, swi30, swi31, swi32, swi34, swi40, swi41, swi42, swi43, a2]
  · simp (disch := omega) only [swlt_e, swbd_e, swrd_n, swgd_n, nI_clamp, sw8m, sw4m, sw4r, nI_add, nI_1, swsub, swsubn, sw4le, swleI, swltI, sweqI, sweqm, sw0add, if_pos, if_neg, if_true, if_false, sw1n0, sw0n1, eq_self, ↓reduceIte, swck_0, swi10, swi12, swi13, swi14, swi20, swi21, swi23, swi24, swi30, swi31, swi32, swi34, swi40, swi41, swi42, swi43, a3]
  · simp (disch := omega) only [swlt_e, swbd_e, swrd_n, swgd_n, nI_clamp, sw8m, sw4m, sw4r, nI_add, nI_1, swsub, swsubn, sw4le, swleI, swltI, sweqI, sweqm, sw0add, if_pos, if_neg, if_true, if_false, sw1n0, sw0n1, eq_self, ↓reduceIte, swck_0, swi10, swi12, swi13, swi14, swi20, swi21, swi23, swi24, swi30, swi31, swi32, swi34, swi40, swi41, swi42, swi43, swap100, hcn]
  · simp (disch := omega) only [swlt_e, swbd_e, swrd_n, swgd_n, nI_clamp, sw8m, sw4m, sw4r, nI_add, nI_1, swsub, swsubn, sw4le, swleI, swltI, sweqI, sweqm, sw0add, if_pos, if_neg, if_true, if_false, sw1n0, sw0n1, eq_self, ↓reduceIte, swck_0, swi10, swi12, swi13, swi14, swi20, swi21, swi23, swi24, swi30, swi31, swi32, swi34, swi40, swi41, swi42, swi43, a7, hbc]
theorem oc_base (h1 : sr1 nv u w) (h2 : sr2 nb u w) (h4 : sr4 nv nb hd u w) (h6 : sr6 nv mo cm ot am u w) (hA : srA nv am) {a b : Nat} (ha : a < nb) (hb : b < nb) (hab : a ≠ b) : xx5_base u (nI a) (nI b) = some (0, nI (swBS nv am (hd a) (hd b)), u) := by
  have hb6 := h2.2.1
  unfold xx5_base
  rw [oB h2 ha, oB h2 hb, oD (by omega) (by omega) hab, pc_baseOf h1 h2 h4 h6 hA ha hb]
  simp (disch := omega) only [swlt_e, swbd_e, swrd_n, swgd_n, nI_clamp, sw8m, sw4m, sw4r, nI_add, nI_1, swsub, swsubn, sw4le, swleI, swltI, sweqI, sweqm, sw0add, if_pos, if_neg, if_true, if_false, sw1n0, sw0n1, eq_self, ↓reduceIte, swck_0]
theorem oc_clashes (h1 : sr1 nv u w) (h2 : sr2 nb u w) (h3 : sr3 ns u w) (h4 : sr4 nv nb hd u w) (h6 : sr6 nv mo cm ot am u w) (hA : srA nv am) (h7 : sr7 nv ns dk u w) {a b : Nat} (ha : a < nb) (hb : b < nb) (hab : a ≠ b) : xx5_clashes u (nI a) (nI b) = some (0, nI (swCC (dk (swBS nv am (hd a) (hd b))) (dk (hd a)) (dk (hd b)) ns), u) := by
  have hb6 := h2.2.1
  have hB := swBS_lt h1.1 am (hd a) (hd b)
  unfold xx5_clashes
  rw [oB h2 ha, oB h2 hb, oD (by omega) (by omega) hab, pc_mergeOf h1 h2 h4 h6 hA ha hb, h3.2.1]
  simp (disch := omega) only [swlt_e, swbd_e, swrd_n, swgd_n, nI_clamp, sw8m, sw4m, sw4r, nI_add, nI_1, swsub, swsubn, sw4le, swleI, swltI, sweqI, sweqm, sw0add, if_pos, if_neg, if_true, if_false, sw1n0, sw0n1, eq_self, ↓reduceIte, swck_0, pc_CC (h7 _ hB).1 (h7 _ (h4 a ha).1).1 (h7 _ (h4 b hb).1).1 h3.1]
theorem oc_merged (h1 : sr1 nv u w) (h2 : sr2 nb u w) (h3 : sr3 ns u w) (h4 : sr4 nv nb hd u w) (h6 : sr6 nv mo cm ot am u w) (hA : srA nv am) (h7 : sr7 nv ns dk u w) {a b t j z : Nat} (ha : a < nb) (hb : b < nb) (hab : a ≠ b) (ht : t < ns) (hj : j < 4) (hz : z < 2) : xx5_merged u (nI a) (nI b) (nI t) (nI j) (nI z) = some (0, swRS (dk (swBS nv am (hd a) (hd b))) (dk (hd a)) (dk (hd b)) (nI t) j (decide (z = 1)), u) := by
  have hb6 := h2.2.1
  have hB := swBS_lt h1.1 am (hd a) (hd b)
  unfold xx5_merged
  rw [oB h2 ha, oB h2 hb, oD (by omega) (by omega) hab, oS h3 ht, oO hj, pc_mergeOf h1 h2 h4 h6 hA ha hb]
  have hRS := pc_RS (h7 _ hB).1 (h7 _ (h4 a ha).1).1 (h7 _ (h4 b hb).1).1 (nI t) hj (nI z) (decide (z = 1)) (by rw [show (1 : Int32) = nI 1 from rfl, nI_eq (by omega) (by omega)]; simp)
  rcases (by omega : z = 0 ∨ z = 1) with rfl | rfl
  · have e0 : (nI 0 = 0) = True := eq_true rfl
    simp (disch := omega) only [swlt_e, swbd_e, swrd_n, swgd_n, nI_clamp, sw8m, sw4m, sw4r, nI_add, nI_1, swsub, swsubn, sw4le, swleI, swltI, sweqI, sweqm, sw0add, if_pos, if_neg, if_true, if_false, sw1n0, sw0n1, eq_self, ↓reduceIte, swck_0, e0, hRS]
  · have e1 : (nI 1 = 0) = False := sw1n0
    have e2 : (nI 1 = 1) = True := eq_true rfl
    simp (disch := omega) only [swlt_e, swbd_e, swrd_n, swgd_n, nI_clamp, sw8m, sw4m, sw4r, nI_add, nI_1, swsub, swsubn, sw4le, swleI, swltI, sweqI, sweqm, sw0add, if_pos, if_neg, if_true, if_false, sw1n0, sw0n1, eq_self, ↓reduceIte, swck_0, e1, e2, hRS]
theorem oc_branchN (h1 : sr1 nv u w) (h2 : sr2 nb u w) {v : Nat} (hv : v < nv) (hn : nb = 6) : xx5_branch u (nI v) = some (3, 0, u) := by
  have h40 := h1.2.1
  unfold xx5_branch
  rw [oV h1 hv, h2.2.2.1, hn]
  rfl
theorem oc_branch (h1 : sr1 nv u w) (h2 : sr2 nb u w) {v : Nat} (hv : v < nv) (hn : nb < 6) : xx5_branch u (nI v) = some (0, nI nb, swI (swI u 1 nb (nI v)) 0 7 (nI (nb + 1))) := by
  have h40 := h1.2.1
  have hl : (nI nb < 6) = True := eq_true ((nI_ltI (b := 6) (by omega) (by omega)).mpr hn)
  unfold xx5_branch
  rw [oV h1 hv, h2.2.2.1]
  simp (disch := omega) only [swlt_e, swbd_e, swrd_n, swgd_n, nI_clamp, sw8m, sw4m, sw4r, nI_add, nI_1, swsub, swsubn, sw4le, swleI, swltI, sweqI, sweqm, sw0add, if_pos, if_neg, if_true, if_false, sw1n0, sw0n1, eq_self, ↓reduceIte, swck_0, hl]
theorem oc_showN (h1 : sr1 nv u w) (h2 : sr2 nb u w) (h4 : sr4 nv nb hd u w) (h7 : sr7 nv ns dk u w) (h8 : sr8 E u w) {b : Nat} (hb : b < nb) (hz : 0 < swBK E (dk (hd b))) : xx5_show u (nI b) = some (3, 0, u) := by
  have hb6 := h2.2.1
  have hc := (h7 _ (h4 b hb).1).1
  have hbk := sw_bk0 (E := E) (d := dk (hd b)) h8.1.1 hc.1
  rw [eq_false (by omega : ¬ swBK E (dk (hd b)) = 0)] at hbk
  unfold xx5_show
  rw [oB h2 hb, pc_headDeck h1 h2 h4 hb]
  simp (disch := omega) only [swlt_e, swbd_e, swrd_n, swgd_n, nI_clamp, sw8m, sw4m, sw4r, nI_add, nI_1, swsub, swsubn, sw4le, swleI, swltI, sweqI, sweqm, sw0add, if_pos, if_neg, if_true, if_false, sw1n0, sw0n1, eq_self, ↓reduceIte, swck_0, pc_countBlocks h8.1 hc, hbk]
theorem oc_show (h1 : sr1 nv u w) (h2 : sr2 nb u w) (h4 : sr4 nv nb hd u w) (h7 : sr7 nv ns dk u w) (h8 : sr8 E u w) {b : Nat} (hb : b < nb) (hz : swBK E (dk (hd b)) = 0) : xx5_show u (nI b) = some (0, nI (hd b), swI u 2 b (nI (hd b))) := by
  have hb6 := h2.2.1
  have hc := (h7 _ (h4 b hb).1).1
  have hbk := sw_bk0 (E := E) (d := dk (hd b)) h8.1.1 hc.1
  rw [eq_true hz] at hbk
  have c1 := (h4 b hb).2.1
  unfold xx5_show
  rw [oB h2 hb, pc_headDeck h1 h2 h4 hb]
  simp (disch := omega) only [swlt_e, swbd_e, swrd_n, swgd_n, nI_clamp, sw8m, sw4m, sw4r, nI_add, nI_1, swsub, swsubn, sw4le, swleI, swltI, sweqI, sweqm, sw0add, if_pos, if_neg, if_true, if_false, sw1n0, sw0n1, eq_self, ↓reduceIte, swck_0, pc_countBlocks h8.1 hc, hbk, c1, swI_ne]
theorem oc_pass (h8 : sr8 E u w) {n : Nat} (h0 : 0 < n) (hn : n ≤ 100) (hd : E.2.2.2.2 + n ≤ 999) : xx5_pass u (nI n) = some (0, nI (E.2.2.2.2 + n), swI u 0 11 (nI (E.2.2.2.2 + n))) := by
  have l1 : (nI n < 1) = False := eq_false (nI_nlt (a := n) (b := 1) h0 (by omega))
  have l2 : (nI n ≤ 100) = True := eq_true (nI_le (a := n) (b := 100) hn (by omega))
  have l3 : (nI (E.2.2.2.2 + n) ≤ 999) = True := eq_true (nI_le (b := 999) hd (by omega))
  have e := h8.1.2.2.2.2.2.2.2
  unfold xx5_pass
  rw [e]
  simp (disch := omega) only [swlt_e, swbd_e, swrd_n, swgd_n, nI_clamp, sw8m, sw4m, sw4r, nI_add, nI_1, swsub, swsubn, sw4le, swleI, swltI, sweqI, sweqm, sw0add, if_pos, if_neg, if_true, if_false, sw1n0, sw0n1, eq_self, ↓reduceIte, l1, l2, l3, swI_self]
theorem oc_rule (h8 : sr8 E u w) {k o a b : Nat} (hk : k < 3) (ho : o < 4) (ha : 1 ≤ a) (hab : a ≤ b) (hb : b < 1000) (hn : E.1 < 8) : xx5_rule u (nI k) (nI o) (nI a) (nI b) = some (0, nI E.1, swI (swI (swI (swI (swI u (10 + E.1) 0 (nI k)) (10 + E.1) 1 (nI o)) (10 + E.1) 2 (nI a)) (10 + E.1) 3 (nI b)) 0 9 (nI (E.1 + 1))) := by
  have l1 : (nI k < 0) = False := eq_false (nI_pos (by omega))
  have l2 : (nI k < 3) = True := eq_true (nI_lt (b := 3) hk (by omega))
  have l3 : (nI a < 1) = False := eq_false (nI_nlt (a := a) (b := 1) ha (by omega))
  have l4 : (999 < nI a) = False := eq_false (nI_nlt (a := 999) (by omega) (by omega))
  have l5 : (nI b < nI a) = False := eq_false (nI_nlt hab (by omega))
  have l6 : (nI b ≤ 999) = True := eq_true (nI_le (b := 999) (by omega) (by omega))
  have l7 : (nI E.1 < 8) = True := eq_true (nI_lt (b := 8) hn (by omega))
  have e9 := h8.1.2.1
  unfold xx5_rule
  rw [oO ho, e9]
  simp (disch := omega) only [swlt_e, swbd_e, swrd_n, swgd_n, nI_clamp, sw8m, sw4m, sw4r, nI_add, nI_1, swsub, swsubn, sw4le, swleI, swltI, sweqI, sweqm, sw0add, if_pos, if_neg, if_true, if_false, sw1n0, sw0n1, eq_self, ↓reduceIte, swck_0, l1, l2, l3, l4, l5, l6, l7]
theorem oc_waive (h3 : sr3 ns u w) (h8 : sr8 E u w) {k t q : Nat} (hk : k < E.1) (ht : t < ns) (hq : E.2.2.2.2 ≤ q) (hq2 : q ≤ 999) (h1 : E.2.1 k 0 = 1) (hn : E.2.2.1 < 12) : xx5_waive u (nI k) (nI t) (nI q) = some (0, nI E.2.2.1, swI (swI (swI (swI u (20 + E.2.2.1) 0 (nI k)) (20 + E.2.2.1) 1 (nI t)) (20 + E.2.2.1) 2 (nI q)) 0 10 (nI (E.2.2.1 + 1))) := by
  have h9 := h8.1.1
  have l1 : (nI q < nI E.2.2.2.2) = False := eq_false (nI_nlt hq (by omega))
  have l2 : (nI q ≤ 999) = True := eq_true (nI_le (b := 999) hq2 (by omega))
  have l3 : (nI E.2.2.1 < 12) = True := eq_true (nI_lt (b := 12) hn (by omega))
  have e0 : u.1 (10 + k) 0 = 1 := (h8.1.2.2.1 k hk 0 (by omega)).trans h1
  have e10 := h8.1.2.2.2.2.2.1
  have e11 := h8.1.2.2.2.2.2.2.2
  unfold xx5_waive
  rw [oR h8.1 hk, oS h3 ht, e10, e11]
  simp (disch := omega) only [swlt_e, swbd_e, swrd_n, swgd_n, nI_clamp, sw8m, sw4m, sw4r, nI_add, nI_1, swsub, swsubn, sw4le, swleI, swltI, sweqI, sweqm, sw0add, if_pos, if_neg, if_true, if_false, sw1n0, sw0n1, eq_self, ↓reduceIte, swck_0, l1, l2, l3, e0]
theorem oc_waiveN (h3 : sr3 ns u w) (h8 : sr8 E u w) {k t q : Nat} (hk : k < E.1) (ht : t < ns) (hq : E.2.2.2.2 ≤ q) (hq2 : q ≤ 999) (hno : ¬ (E.2.1 k 0 = 1 ∧ E.2.2.1 < 12)) : xx5_waive u (nI k) (nI t) (nI q) = some (3, 0, u) := by
  have h9 := h8.1.1
  have h12 := h8.1.2.2.2.2.1
  have l1 : (nI q < nI E.2.2.2.2) = False := eq_false (nI_nlt hq (by omega))
  have l2 : (nI q ≤ 999) = True := eq_true (nI_le (b := 999) hq2 (by omega))
  have e0 : u.1 (10 + k) 0 = E.2.1 k 0 := h8.1.2.2.1 k hk 0 (by omega)
  have e10 := h8.1.2.2.2.2.2.1
  have e11 := h8.1.2.2.2.2.2.2.2
  unfold xx5_waive
  rw [oR h8.1 hk, oS h3 ht, e10, e11]
  by_cases h1 : E.2.1 k 0 = 1
  · have h120 : 12 ≤ E.2.2.1 := Nat.le_of_not_lt (fun z => hno ⟨h1, z⟩)
    have l3 : (nI E.2.2.1 < 12) = False := eq_false (nI_nlt (a := E.2.2.1) (b := 12) h120 (by omega))
    simp (disch := omega) only [swlt_e, swbd_e, swrd_n, swgd_n, nI_clamp, sw8m, sw4m, sw4r, nI_add, nI_1, swsub, swsubn, sw4le, swleI, swltI, sweqI, sweqm, sw0add, if_pos, if_neg, if_true, if_false, sw1n0, sw0n1, eq_self, ↓reduceIte, swck_0, l1, l2, l3, e0, h1]
  · simp (disch := omega) only [swlt_e, swbd_e, swrd_n, swgd_n, nI_clamp, sw8m, sw4m, sw4r, nI_add, nI_1, swsub, swsubn, sw4le, swleI, swltI, sweqI, sweqm, sw0add, if_pos, if_neg, if_true, if_false, sw1n0, sw0n1, eq_self, ↓reduceIte, swck_0, l1, l2, e0, h1]
theorem oc_tighten (h1 : sr1 nv u w) (h7 : sr7 nv ns dk u w) (h8 : sr8 E u w) {k a b a' b' : Nat} (hk : k < E.1) (ha : E.2.1 k 2 = nI a) (hb : E.2.1 k 3 = nI b) (haa : a ≤ a') (hab : a' ≤ b') (hbb : b' ≤ b) (hb9 : b < 1000) {E' : swEv} (hE' : swcE (swI (swI u (10 + k) 2 (nI a')) (10 + k) 3 (nI b')) E') : xx5_tighten u (nI k) (nI a') (nI b') = some (0, nI (sw_cnt nv (fun v => !swBD E dk v && swBD E' dk v)), swI (swI u (10 + k) 2 (nI a')) (10 + k) 3 (nI b')) := by
  have h40 := h1.2.1
  have h9 := h8.1.1
  have e2 : u.1 (10 + k) 2 = nI a := (h8.1.2.2.1 k hk 2 (by omega)).trans ha
  have e3 : u.1 (10 + k) 3 = nI b := (h8.1.2.2.1 k hk 3 (by omega)).trans hb
  have l1 : (nI a' < nI a) = False := eq_false (nI_nlt haa (by omega))
  have l2 : (nI b < nI b') = False := eq_false (nI_nlt hbb (by omega))
  have l3 : (nI a' ≤ nI b') = True := eq_true (nI_le hab (by omega))
  have v1 := pc_bv h40 h1.2.2.1 h8.1 (fun v hv => (h7 v hv).1)
  have v2 : xx5_blockedVersions (swI (swI u (10 + k) 2 (nI a')) (10 + k) 3 (nI b')) = some (lN (swbm (swBD E' dk) nv)) := pc_bv h40 (by rw [swI_ne (by omega), swI_ne (by omega)]; exact h1.2.2.1) hE' (fun v hv => swcD_fr (h7 v hv).1 (by rw [swI_ne (by omega), swI_ne (by omega)]) (fun _ _ => by rw [swI_ne (by omega), swI_ne (by omega)]) (fun _ _ _ _ => by rw [swI_ne (by omega), swI_ne (by omega)]))
  unfold xx5_tighten
  rw [oR h8.1 hk]
  simp (disch := omega) only [swlt_e, swbd_e, swrd_n, swgd_n, nI_clamp, sw8m, sw4m, sw4r, nI_add, nI_1, swsub, swsubn, sw4le, swleI, swltI, sweqI, sweqm, sw0add, if_pos, if_neg, if_true, if_false, sw1n0, sw0n1, eq_self, ↓reduceIte, swck_0, e2, e3, l1, l2, l3, v1, v2, swbc_new h40]
theorem oc_add (h1 : sr1 nv u w) (h2 : sr2 nb u w) (h3 : sr3 ns u w) (h4 : sr4 nv nb hd u w) (h6 : sr6 nv mo cm ot am u w) (h7 : sr7 nv ns dk u w) {b p : Nat} (hb : b < nb) (hp : p ≤ (dk (hd b)).1) (h8 : (dk (hd b)).1 < 8) (h20 : ns < 20) (h40 : nv < 40) : ∃ u', xx5_add u (nI b) (nI p) = some (0, nI ns, u') ∧ swMV nv b (hd b) (-1) ((am (hd b) ||| 2 ^ nv) ||| 0) (swins (dk (hd b)) p (nI ns)) u u' ∧ u'.1 0 8 = nI (ns + 1) := by
  have hb6 := h2.2.1
  obtain ⟨hh, c1, -⟩ := h4 b hb
  obtain ⟨hc, -, hw, -⟩ := h7 _ hh
  have hcn := hc.2.1
  have hns := h3.1
  have s3 := h3.2.1
  have hq0 : (nI p < 0) = False := eq_false (nI_pos (by omega))
  have hq1 : (nI p ≤ nI (dk (hd b)).1) = True := eq_true (nI_le hp (by omega))
  have l8 : (nI (dk (hd b)).1 < 8) = True := eq_true (nI_lt (b := 8) h8 (by omega))
  have l20 : (nI ns < 20) = True := eq_true (nI_lt (b := 20) h20 (by omega))
  obtain ⟨u1, f1, g1, g8⟩ := pc_makeVersion (u := swI u 0 8 (nI (ns + 1))) (nv := nv) (b := b) (hb := hd b) (x2 := -1) (m := am (hd b)) (mc := 0) (d := dk (hd b)) (by omega) (by rw [swI_k (by omega)]; exact h1.2.2.1) (by omega) hh (by rw [swI_ne (by omega)]; exact c1) (by rw [swI_2]; exact (h6 _ hh).2.2.2.2.2.2) (Or.inl ⟨rfl, rfl⟩) (swcD_fr hc (by rw [swI_ne (by omega)]) (fun _ _ => by rw [swI_ne (by omega)]) (fun _ _ _ _ => by rw [swI_ne (by omega)]))
  have hu8 : u1.1 0 8 = nI (ns + 1) := g8.trans swI_self
  obtain ⟨u2, f2, g2, g3⟩ := pc_insert g1.2.2.2.2.2.2.2.2.2.2 (by omega) hp (nI ns)
  refine ⟨u2, ?_, (g1.deck (by omega) g2 g3).pre8, ?_⟩
  · unfold xx5_add
    rw [oB h2 hb, pc_headDeck h1 h2 h4 hb, oRm h1 h40]
    simp (disch := omega) only [swlt_e, swbd_e, swrd_n, swgd_n, nI_clamp, sw8m, sw4m, sw4r, nI_add, nI_1, swsub, swsubn, sw4le, swleI, swltI, sweqI, sweqm, sw0add, if_pos, if_neg, if_true, if_false, sw1n0, sw0n1, eq_self, ↓reduceIte, swck_0, hcn, hq0, hq1, l8, s3, l20, f1, f2]
  · rw [g2.1 0 (by omega) (by omega) (by omega)]
    exact hu8
theorem oc_place (h1 : sr1 nv u w) (h2 : sr2 nb u w) (h4 : sr4 nv nb hd u w) (h7 : sr7 nv ns dk u w) {b p : Nat} (hb : b < nb) (hp : p < (dk (hd b)).1) : xx5_placeInHead u (nI b) ((dk (hd b)).2.1 p) = some (0, nI p) := by
  obtain ⟨hh, -, -⟩ := h4 b hb
  obtain ⟨hc, -, hw, -⟩ := h7 _ hh
  have h8 := hc.1
  have hpl := swpl_row hw hp
  have hpI : swpI (dk (hd b)) ((dk (hd b)).2.1 p) = nI p := by
    unfold swpI
    rw [hpl, if_pos hp]
  have hm : (nI p = -1) = False := sweqm (by omega)
  unfold xx5_placeInHead
  rw [pc_headDeck h1 h2 h4 hb, swbd_e, pc_placeOf hc, swbd_e, hpI, if_neg (by rw [hm]; exact id)]
theorem oc_set (h1 : sr1 nv u w) (h2 : sr2 nb u w) (h4 : sr4 nv nb hd u w) (h6 : sr6 nv mo cm ot am u w) (h7 : sr7 nv ns dk u w) {b p o x : Nat} (hb : b < nb) (hp : p < (dk (hd b)).1) (ho : o < 4) (hx : x ≤ 999) (h40 : nv < 40) : ∃ u', xx5_set u (nI b) ((dk (hd b)).2.1 p) (nI o) (nI x) = some (0, (dk (hd b)).2.2 p o, u') ∧ swMV nv b (hd b) (-1) ((am (hd b) ||| 2 ^ nv) ||| 0) (swset (dk (hd b)) p o (nI x)) u u' ∧ u'.1 0 8 = u.1 0 8 := by
  have hb6 := h2.2.1
  obtain ⟨hh, c1, -⟩ := h4 b hb
  obtain ⟨hc, -, hw, -⟩ := h7 _ hh
  have h8 := hc.1
  have l0 : (nI x < 0) = False := eq_false (nI_pos (by omega))
  have l9 : (nI x ≤ 999) = True := eq_true (nI_le (b := 999) hx (by omega))
  obtain ⟨u1, f1, g1, g8⟩ := pc_makeVersion (u := u) (nv := nv) (b := b) (hb := hd b) (x2 := -1) (m := am (hd b)) (mc := 0) (d := dk (hd b)) (by omega) h1.2.2.1 (by omega) hh c1 (h6 _ hh).2.2.2.2.2.2 (Or.inl ⟨rfl, rfl⟩) hc
  have hD := g1.2.2.2.2.2.2.2.2.2.2
  have hva := pc_valueAt hD hp ho
  have hpu := pc_put u1 (200 + nv) (k := p) (by omega) ho (nI x)
  obtain ⟨q1, q2⟩ := pc_putD hD hp ho (nI x)
  refine ⟨swI u1 (200 + nv + 200) (4 * p + o) (nI x), ?_, g1.deck (by omega) q1 q2, ?_⟩
  · unfold xx5_set
    rw [oB h2 hb, oc_place h1 h2 h4 h7 hb hp, oO ho, oRm h1 h40]
    simp (disch := omega) only [swlt_e, swbd_e, swrd_n, swgd_n, nI_clamp, sw8m, sw4m, sw4r, nI_add, nI_1, swsub, swsubn, sw4le, swleI, swltI, sweqI, sweqm, sw0add, if_pos, if_neg, if_true, if_false, sw1n0, sw0n1, eq_self, ↓reduceIte, swck_0, swcki_0, l0, l9, f1, hva, hpu]
  · rw [swI_ne (by omega)]
    exact g8
theorem oc_drop (h1 : sr1 nv u w) (h2 : sr2 nb u w) (h4 : sr4 nv nb hd u w) (h6 : sr6 nv mo cm ot am u w) (h7 : sr7 nv ns dk u w) {b p : Nat} (hb : b < nb) (hp : p < (dk (hd b)).1) (h40 : nv < 40) : ∃ u', xx5_drop u (nI b) ((dk (hd b)).2.1 p) = some (0, nI nv, u') ∧ swMV nv b (hd b) (-1) ((am (hd b) ||| 2 ^ nv) ||| 0) (swrm (dk (hd b)) p) u u' ∧ u'.1 0 8 = u.1 0 8 := by
  have hb6 := h2.2.1
  obtain ⟨hh, c1, -⟩ := h4 b hb
  obtain ⟨hc, -, hw, -⟩ := h7 _ hh
  obtain ⟨u1, f1, g1, g8⟩ := pc_makeVersion (u := u) (nv := nv) (b := b) (hb := hd b) (x2 := -1) (m := am (hd b)) (mc := 0) (d := dk (hd b)) (by omega) h1.2.2.1 (by omega) hh c1 (h6 _ hh).2.2.2.2.2.2 (Or.inl ⟨rfl, rfl⟩) hc
  have hD := g1.2.2.2.2.2.2.2.2.2.2
  obtain ⟨u2, f2, q1, q2⟩ := pc_removeAt hD hp
  have e1 : u2.1 1 b = nI nv := by
    rw [q1.1 1 (by omega) (by omega) (by omega)]
    exact g1.2.2.1
  refine ⟨u2, ?_, g1.deck (by omega) q1 q2, ?_⟩
  · unfold xx5_drop
    rw [oB h2 hb, oc_place h1 h2 h4 h7 hb hp, oRm h1 h40]
    simp (disch := omega) only [swlt_e, swbd_e, swrd_n, swgd_n, nI_clamp, sw8m, sw4m, sw4r, nI_add, nI_1, swsub, swsubn, sw4le, swleI, swltI, sweqI, sweqm, sw0add, if_pos, if_neg, if_true, if_false, sw1n0, sw0n1, eq_self, ↓reduceIte, swck_0, swcki_0, f1, f2, e1]
  · rw [q1.1 0 (by omega) (by omega) (by omega)]
    exact g8
end OC
