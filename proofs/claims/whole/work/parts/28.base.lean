/-! ===== BASES, the calls about merges that make nothing, tighten ===== -/
def sw_lst : Nat → (Nat → Bool) → Nat
  | 0, _ => 0
  | n + 1, p => if p n = true then n else sw_lst n p
theorem sw_lst_le (p : Nat → Bool) : ∀ n, sw_lst n p ≤ n - 1 := by
  intro n
  induction n with
  | zero => exact Nat.le_refl 0
  | succ n ih =>
    show (if p n = true then n else sw_lst n p) ≤ n + 1 - 1
    split <;> omega
theorem sw_lst_no (p : Nat → Bool) : ∀ n k, sw_lst n p < k → k < n → p k = false := by
  intro n
  induction n with
  | zero => intro k _ hk; exact absurd hk (Nat.not_lt_zero k)
  | succ n ih =>
    intro k h1 h2
    change (if p n = true then n else sw_lst n p) < k at h1
    split at h1
    · omega
    · rename_i hn
      by_cases e : k = n
      · subst e
        cases hb : p k
        · rfl
        · exact absurd hb hn
      · exact ih k h1 (by omega)
theorem sw_lst_yes (p : Nat → Bool) : ∀ n, p (sw_lst n p) = true ∨ sw_lst n p = 0 := by
  intro n
  induction n with
  | zero => exact Or.inr rfl
  | succ n ih =>
    show p (if p n = true then n else sw_lst n p) = true ∨ (if p n = true then n else sw_lst n p) = 0
    split
    · rename_i h
      exact Or.inl h
    · exact ih
def swCM (am : Nat → Nat) (a b k : Nat) : Bool := (am a).testBit k && (am b).testBit k
def swBS (nv : Nat) (am : Nat → Nat) (a b : Nat) : Nat := sw_lst nv (swCM am a b)
theorem swBS_lt {nv : Nat} (h : 1 ≤ nv) (am : Nat → Nat) (a b : Nat) : swBS nv am a b < nv := by
  have := sw_lst_le (swCM am a b) nv
  unfold swBS
  omega
theorem pm_baseOf {u w : swU} {nv nb : Nat} {hd : Nat → Nat} {mo cm ot : Nat → Int32} {am : Nat → Nat} (h1 : sr1 nv u w) (h2 : sr2 nb u w) (h4 : sr4 nv nb hd u w) (h6 : sr6 nv mo cm ot am u w) (hA : srA nv cm ot am) {a b : Nat} (ha : a < nb) (hb : b < nb) : ∃ w', mx_baseOf w (nI a) (nI b) = some (nI (swBS nv am (hd a) (hd b)), w') ∧ ∀ c, c ≠ 25 → c ≠ 26 → w'.1 c = w.1 c := by
  have hb6 := h2.2.1
  have h40 := h1.2.1
  have hn := h1.2.2.2
  obtain ⟨hha, -, ca⟩ := h4 a ha
  obtain ⟨hhb, -, cb⟩ := h4 b hb
  have h6w : ∀ v, v < nv → w.1 3 v = cm v ∧ w.1 4 v = ot v := fun v hv => ⟨(h6 v hv).2.2.2.2.1, (h6 v hv).2.2.2.2.2.1⟩
  obtain ⟨w1, e1, f1, g25, g26⟩ := pm_layf h40 hha hn h6w hA
  have hn1 : w1.1 0 1 = nI nv := by rw [f1 0 (by omega) (by omega)]; exact hn
  have h6w1 : ∀ v, v < nv → w1.1 3 v = cm v ∧ w1.1 4 v = ot v := fun v hv => by rw [f1 3 (by omega) (by omega), f1 4 (by omega) (by omega)]; exact h6w v hv
  obtain ⟨w2, e2, f2, k26, k25⟩ := pm_layt h40 hhb hn1 h6w1 hA
  have hn2 : w2.1 0 1 = nI nv := by rw [f2 0 (by omega) (by omega)]; exact hn1
  have k25' : ∀ k, k < 40 → w2.1 25 k = swB ((am (hd a)).testBit k) := fun k hk => by
    rcases k25 k with z | z
    · rw [z, g25 k hk]
    · rw [z, g25 k hk, swZ_b]
  have hca := sw_cnt_le (fun k => (am (hd a)).testBit k) 40
  have hcb := sw_cnt_le (fun k => (am (hd b)).testBit k) 40
  have hpa : 0 < sw_cnt 40 (fun k => (am (hd a)).testBit k) := (sw_cnt_pos _ _).mpr ⟨hd a, by omega, srA_self hA hha⟩
  have hy : (nI (sw_cnt 40 (fun k => (am (hd a)).testBit k) + sw_cnt 40 (fun k => (am (hd b)).testBit k)) ≤ 0) = False := by
    rw [swleI0 (by omega)]
    exact propext ⟨fun z => by omega, fun z => z.elim⟩
  refine ⟨w2, ?_, fun c c1 c2 => (f2 c c1 c2).trans (f1 c c1 c2)⟩
  have f10 : w1.1 10 b = nI (hd b) := by rw [f1 10 (by omega) (by omega)]; exact cb
  unfold mx_baseOf
  simp (disch := omega) only [swlt_e, swbd_e, swrd_n, swgd_n, nI_clamp, sw8m, sw4m, sw4r, nI_add, nI_1, swsub, swsubn, sw4le, swleI, swltI, sweqI, sweqm, sw0add, if_pos, if_neg, if_true, if_false, sw1n0, sw0n1, eq_self, ↓reduceIte, ca, e1, f10, e2, hy]
  refine sw_up (fun f k => mx_baseOf_L38 w2 (fun v4 v5 => some (v4, w2)) f (nI (sw_lst k (swCM am (hd a) (hd b)))) (nI k)) nv _ (fun f k hk => ?_) (fun f => ?_) (by omega)
  · show mx_baseOf_L38 w2 _ (f + 1) _ (nI k) = mx_baseOf_L38 w2 _ f (nI (if swCM am (hd a) (hd b) k = true then k else sw_lst k (swCM am (hd a) (hd b)))) (nI (k + 1))
    rw [mx_baseOf_L38]
    have q1 := k25' k (by omega)
    have q2 := k26 k (by omega)
    unfold swCM
    cases z1 : (am (hd a)).testBit k
    · rw [z1] at q1
      simp (disch := omega) only [swlt_e, swbd_e, swrd_n, swgd_n, nI_clamp, sw8m, sw4m, sw4r, nI_add, nI_1, swsub, swsubn, sw4le, swleI, swltI, sweqI, sweqm, sw0add, if_pos, if_neg, if_true, if_false, sw1n0, sw0n1, eq_self, ↓reduceIte, hn2, q1, Bool.false_and, Bool.false_eq_true]
    · rw [z1] at q1
      cases z2 : (am (hd b)).testBit k
      · rw [z2] at q2
        simp (disch := omega) only [swlt_e, swbd_e, swrd_n, swgd_n, nI_clamp, sw8m, sw4m, sw4r, nI_add, nI_1, swsub, swsubn, sw4le, swleI, swltI, sweqI, sweqm, sw0add, if_pos, if_neg, if_true, if_false, sw1n0, sw0n1, eq_self, ↓reduceIte, hn2, q1, q2, Bool.and_false, Bool.false_eq_true]
      · rw [z2] at q2
        simp (disch := omega) only [swlt_e, swbd_e, swrd_n, swgd_n, nI_clamp, sw8m, sw4m, sw4r, nI_add, nI_1, swsub, swsubn, sw4le, swleI, swltI, sweqI, sweqm, sw0add, if_pos, if_neg, if_true, if_false, sw1n0, sw0n1, eq_self, ↓reduceIte, hn2, q1, q2, Bool.and_true]
  · show mx_baseOf_L38 w2 _ (f + 1) _ (nI nv) = _
    rw [mx_baseOf_L38]
    simp (disch := omega) only [swlt_e, swbd_e, swrd_n, swgd_n, nI_clamp, sw8m, sw4m, sw4r, nI_add, nI_1, swsub, swsubn, sw4le, swleI, swltI, sweqI, sweqm, sw0add, if_pos, if_neg, if_true, if_false, sw1n0, sw0n1, eq_self, ↓reduceIte, hn2]
    rfl
theorem pc_baseOf {u w : swU} {nv nb : Nat} {hd : Nat → Nat} {mo cm ot : Nat → Int32} {am : Nat → Nat} (h1 : sr1 nv u w) (h2 : sr2 nb u w) (h4 : sr4 nv nb hd u w) (h6 : sr6 nv mo cm ot am u w) (hA : srA nv cm ot am) {a b : Nat} (ha : a < nb) (hb : b < nb) : xx5_baseOf u (nI a) (nI b) = some (nI (swBS nv am (hd a) (hd b))) := by
  have hb6 := h2.2.1
  have h40 := h1.2.1
  have h01 := h1.1
  have hn := h1.2.2.1
  obtain ⟨hha, ca, -⟩ := h4 a ha
  obtain ⟨hhb, cb, -⟩ := h4 b hb
  have ma := (h6 _ hha).2.2.2.2.2.2
  have mb := (h6 _ hhb).2.2.2.2.2.2
  have ba := srA_40 hA h40 hha
  have hle := sw_lst_le (swCM am (hd a) (hd b)) nv
  have hm40 : am (hd a) &&& am (hd b) < 2 ^ 40 := Nat.lt_of_le_of_lt Nat.and_le_left ba
  have htb : ∀ k, (am (hd a) &&& am (hd b)).testBit k = swCM am (hd a) (hd b) k := fun k => Nat.testBit_and _ _ _
  unfold xx5_baseOf
  simp (disch := omega) only [swlt_e, swbd_e, swrd_n, swgd_n, nI_clamp, sw8m, sw4m, sw4r, nI_add, nI_1, swsub, swsubn, sw4le, swleI, swltI, sweqI, sweqm, sw0add, if_pos, if_neg, if_true, if_false, sw1n0, sw0n1, eq_self, ↓reduceIte, ca, cb, ma, mb, swl_and, hn]
  refine Eq.trans (b := xx5_baseOf_L38 u (lN (am (hd a) &&& am (hd b))) (fun v5 => some v5) 64 (nI (nv - 1 - 0))) (by rw [Nat.sub_zero]) ?_
  refine sw_up (fun f j => xx5_baseOf_L38 u (lN (am (hd a) &&& am (hd b))) (fun v5 => some v5) f (nI (nv - 1 - j))) (nv - 1 - swBS nv am (hd a) (hd b)) _ (fun f j hj => ?_) (fun f => ?_) (by omega)
  · show xx5_baseOf_L38 u _ _ (f + 1) (nI (nv - 1 - j)) = xx5_baseOf_L38 u _ _ f (nI (nv - 1 - (j + 1)))
    have hno := sw_lst_no (swCM am (hd a) (hd b)) nv (nv - 1 - j) (by unfold swBS at hj; omega) (by omega)
    have ht := swl_test hm40 (show nv - 1 - j < 40 by omega)
    rw [htb, hno] at ht
    rw [xx5_baseOf_L38, if_neg (by rw [swleI0 (by omega)]; omega), if_pos (by rw [ht]), swsubn (by omega), show nv - 1 - j - 1 = nv - 1 - (j + 1) by omega]
  · show xx5_baseOf_L38 u _ _ (f + 1) (nI (nv - 1 - (nv - 1 - swBS nv am (hd a) (hd b)))) = _
    have hle2 : swBS nv am (hd a) (hd b) ≤ nv - 1 := hle
    rw [show nv - 1 - (nv - 1 - swBS nv am (hd a) (hd b)) = swBS nv am (hd a) (hd b) by omega, xx5_baseOf_L38]
    rcases sw_lst_yes (swCM am (hd a) (hd b)) nv with z | z
    · by_cases e : swBS nv am (hd a) (hd b) = 0
      · rw [if_pos (by rw [swleI0 (by omega)]; exact e)]
      · have ht := swl_test hm40 (show swBS nv am (hd a) (hd b) < 40 by omega)
        have z' : swCM am (hd a) (hd b) (swBS nv am (hd a) (hd b)) = true := z
        rw [htb, z'] at ht
        rw [if_neg (by rw [swleI0 (by omega)]; exact e), if_neg (by rw [ht]; exact Bool.noConfusion)]
    · have e : swBS nv am (hd a) (hd b) = 0 := z
      rw [if_pos (by rw [swleI0 (by omega)]; exact e)]
theorem pc_mergeOf {u w : swU} {nv nb : Nat} {hd : Nat → Nat} {mo cm ot : Nat → Int32} {am : Nat → Nat} (h1 : sr1 nv u w) (h2 : sr2 nb u w) (h4 : sr4 nv nb hd u w) (h6 : sr6 nv mo cm ot am u w) (hA : srA nv cm ot am) {a b : Nat} (ha : a < nb) (hb : b < nb) : xx5_mergeOf u (nI a) (nI b) = some (200 + swBS nv am (hd a) (hd b), 200 + hd a, 200 + hd b) := by
  have h40 := h1.2.1
  have hlt := swBS_lt h1.1 am (hd a) (hd b)
  unfold xx5_mergeOf
  rw [pc_baseOf h1 h2 h4 h6 hA ha hb, pc_headDeck h1 h2 h4 ha, pc_headDeck h1 h2 h4 hb]
  simp (disch := omega) only [swlt_e, swbd_e, swrd_n, swgd_n, nI_clamp, sw8m, sw4m, sw4r, nI_add, nI_1, swsub, swsubn, sw4le, swleI, swltI, sweqI, sweqm, sw0add, if_pos, if_neg, if_true, if_false, sw1n0, sw0n1, eq_self, ↓reduceIte, swap100]
theorem swAg_25 {w w' : swU} (h : ∀ c, c ≠ 25 → c ≠ 26 → w'.1 c = w.1 c) : swAg w w' := by
  have h0 := h 0 (by omega) (by omega)
  exact ⟨fun c _ c2 => h c (by omega) (by omega), by rw [h0], by rw [h0], by rw [h0], by rw [h0], by rw [h0], by rw [h0]⟩
theorem sw_2le0 : ((2 : Int32) ≤ 0) = False := propext ⟨fun h => absurd h (by decide), fun h => h.elim⟩
theorem sw_lt00 : ((0 : Int32) < 0) = False := propext ⟨fun h => absurd h (by decide), fun h => h.elim⟩
theorem swi_1 : nI 1 = 1 := rfl
theorem swi_2 : nI 2 = 2 := rfl
theorem swi_3 : nI 3 = 3 := rfl
theorem swi_4 : nI 4 = 4 := rfl
theorem swi10 : ((1 : Int32) = 0) = False := propext ⟨fun h => absurd h (by decide), fun h => h.elim⟩
theorem swi12 : ((1 : Int32) = 2) = False := propext ⟨fun h => absurd h (by decide), fun h => h.elim⟩
theorem swi13 : ((1 : Int32) = 3) = False := propext ⟨fun h => absurd h (by decide), fun h => h.elim⟩
theorem swi14 : ((1 : Int32) = 4) = False := propext ⟨fun h => absurd h (by decide), fun h => h.elim⟩
theorem swi20 : ((2 : Int32) = 0) = False := propext ⟨fun h => absurd h (by decide), fun h => h.elim⟩
theorem swi21 : ((2 : Int32) = 1) = False := propext ⟨fun h => absurd h (by decide), fun h => h.elim⟩
theorem swi23 : ((2 : Int32) = 3) = False := propext ⟨fun h => absurd h (by decide), fun h => h.elim⟩
theorem swi24 : ((2 : Int32) = 4) = False := propext ⟨fun h => absurd h (by decide), fun h => h.elim⟩
theorem swi30 : ((3 : Int32) = 0) = False := propext ⟨fun h => absurd h (by decide), fun h => h.elim⟩
theorem swi31 : ((3 : Int32) = 1) = False := propext ⟨fun h => absurd h (by decide), fun h => h.elim⟩
theorem swi32 : ((3 : Int32) = 2) = False := propext ⟨fun h => absurd h (by decide), fun h => h.elim⟩
theorem swi34 : ((3 : Int32) = 4) = False := propext ⟨fun h => absurd h (by decide), fun h => h.elim⟩
theorem swi40 : ((4 : Int32) = 0) = False := propext ⟨fun h => absurd h (by decide), fun h => h.elim⟩
theorem swi41 : ((4 : Int32) = 1) = False := propext ⟨fun h => absurd h (by decide), fun h => h.elim⟩
theorem swi42 : ((4 : Int32) = 2) = False := propext ⟨fun h => absurd h (by decide), fun h => h.elim⟩
theorem swi43 : ((4 : Int32) = 3) = False := propext ⟨fun h => absurd h (by decide), fun h => h.elim⟩
theorem op_about {u w : swU} (h : swRl u w) (x q : Int32) : swOM [(0, 0), (1, 1), (2, 2)] (xx5_about u x q) (mx_about w x q) := by
  have hR := h
  obtain ⟨nv, nb, ns, hd, sh, mo, cm, ot, am, dk, E, h1, h2, h3, h4, h5, h6, hA, h7, h8⟩ := h
  unfold xx5_about mx_about
  rcases sw_cas x (n := nv) (by have := h1.2.1; omega) with hx | ⟨v, hv, rfl⟩
  · obtain ⟨e1, e2⟩ := ckV_n h1 hx
    rw [e1, e2]
    exact swOM.no hR rfl rfl (by simp)
  obtain ⟨e1, e2⟩ := ckV_y h1 hv
  have h40 := h1.2.1
  obtain ⟨a1, a2, a3, b1, b2, b3, a7⟩ := h6 v hv
  obtain ⟨hc, hm, hw⟩ := h7 v hv
  have hcn := hc.2.1
  have hmn := hm.2.2.1
  have g2 : (swI w 0 0 0).1 2 = w.1 2 := swI_ne (by omega)
  have g3 : (swI w 0 0 0).1 3 = w.1 3 := swI_ne (by omega)
  have g4 : (swI w 0 0 0).1 4 = w.1 4 := swI_ne (by omega)
  have g5 : (swI w 0 0 0).1 5 = w.1 5 := swI_ne (by omega)
  rw [e1, e2]
  rcases sw_cas q (n := 5) (by omega) with hx | ⟨i, hi, rfl⟩
  · have hin : mx_in q 0 4 = some false := pm_in_no (n := 5) (by omega) hx
    have hne : ∀ j, j < 5 → (q = nI j) = False := fun j hj => by
      refine propext ⟨fun z => ?_, fun z => z.elim⟩
      rcases hx with hx | hx
      · exact sw_lt0 hx (by omega) z
      · rw [z, nI_leI (by omega) (by omega)] at hx
        omega
    have n0 : (q = 0) = False := hne 0 (by omega)
    have n1 : (q = 1) = False := hne 1 (by omega)
    have n2 : (q = 2) = False := hne 2 (by omega)
    have n3 : (q = 3) = False := hne 3 (by omega)
    have n4 : (q = 4) = False := hne 4 (by omega)
    refine swOM.no hR (c := 1) (t := 2) ?_ ?_ (by simp)
    · simp (disch := omega) only [swlt_e, swbd_e, swrd_n, swgd_n, nI_clamp, sw8m, sw4m, sw4r, nI_add, nI_1, swsub, swsubn, sw4le, swleI, swltI, sweqI, sweqm, sw0add, if_pos, if_neg, if_true, if_false, sw1n0, sw0n1, eq_self, ↓reduceIte, swck_0, n0, n1, n2, n3, n4]
    · simp (disch := omega) only [swlt_e, swbd_e, swrd_n, swgd_n, nI_clamp, sw8m, sw4m, sw4r, nI_add, nI_1, swsub, swsubn, sw4le, swleI, swltI, sweqI, sweqm, sw0add, if_pos, if_neg, if_true, if_false, sw1n0, sw0n1, eq_self, ↓reduceIte, swB_f, swB_t, hin]
  have hin : mx_in (nI i) 0 4 = some true := pm_in_yes (n := 5) (by omega) hi
  obtain rfl | rfl | rfl | rfl | rfl : i = 0 ∨ i = 1 ∨ i = 2 ∨ i = 3 ∨ i = 4 := by omega
  · refine swOM.yes hR (r := mo v) ?_ ?_ (by simp)
    · simp (disch := omega) only [swlt_e, swbd_e, swrd_n, swgd_n, nI_clamp, sw8m, sw4m, sw4r, nI_add, nI_1, swsub, swsubn, sw4le, swleI, swltI, sweqI, sweqm, sw0add, if_pos, if_neg, if_true, if_false, sw1n0, sw0n1, eq_self, ↓reduceIte, swck_0, nI_0, a1]
    · rw [hin]
      simp (disch := omega) only [swlt_e, swbd_e, swrd_n, swgd_n, nI_clamp, sw8m, sw4m, sw4r, nI_add, nI_1, swsub, swsubn, sw4le, swleI, swltI, sweqI, sweqm, sw0add, if_pos, if_neg, if_true, if_false, sw1n0, sw0n1, eq_self, ↓reduceIte, swB_f, swB_t, nI_0, g2, b1]
  · refine swOM.yes hR (r := cm v) ?_ ?_ (by simp)
    · simp (disch := omega) only [swlt_e, swbd_e, swrd_n, swgd_n, nI_clamp, sw8m, sw4m, sw4r, nI_add, nI_1, swsub, swsubn, sw4le, swleI, swltI, sweqI, sweqm, sw0add, if_pos, if_neg, if_true, if_false, sw1n0, sw0n1, eq_self, ↓reduceIte, swck_0, swi_1, swi10, swi12, swi13, swi14, swi20, swi21, swi23, swi24, swi30, swi31, swi32, swi34, swi40, swi41, swi42, swi43, a2]
    · rw [hin]
      simp (disch := omega) only [swlt_e, swbd_e, swrd_n, swgd_n, nI_clamp, sw8m, sw4m, sw4r, nI_add, nI_1, swsub, swsubn, sw4le, swleI, swltI, sweqI, sweqm, sw0add, if_pos, if_neg, if_true, if_false, sw1n0, sw0n1, eq_self, ↓reduceIte, swB_f, swB_t, swi_1, swi10, swi12, swi13, swi14, swi20, swi21, swi23, swi24, swi30, swi31, swi32, swi34, swi40, swi41, swi42, swi43, g3, b2]
  · refine swOM.yes hR (r := ot v) ?_ ?_ (by simp)
    · simp (disch := omega) only [swlt_e, swbd_e, swrd_n, swgd_n, nI_clamp, sw8m, sw4m, sw4r, nI_add, nI_1, swsub, swsubn, sw4le, swleI, swltI, sweqI, sweqm, sw0add, if_pos, if_neg, if_true, if_false, sw1n0, sw0n1, eq_self, ↓reduceIte, swck_0, swi_2, swi10, swi12, swi13, swi14, swi20, swi21, swi23, swi24, swi30, swi31, swi32, swi34, swi40, swi41, swi42, swi43, a3]
    · rw [hin]
      simp (disch := omega) only [swlt_e, swbd_e, swrd_n, swgd_n, nI_clamp, sw8m, sw4m, sw4r, nI_add, nI_1, swsub, swsubn, sw4le, swleI, swltI, sweqI, sweqm, sw0add, if_pos, if_neg, if_true, if_false, sw1n0, sw0n1, eq_self, ↓reduceIte, swB_f, swB_t, swi_2, swi10, swi12, swi13, swi14, swi20, swi21, swi23, swi24, swi30, swi31, swi32, swi34, swi40, swi41, swi42, swi43, g4, b3]
  · refine swOM.yes hR (r := nI (dk v).1) ?_ ?_ (by simp)
    · simp (disch := omega) only [swlt_e, swbd_e, swrd_n, swgd_n, nI_clamp, sw8m, sw4m, sw4r, nI_add, nI_1, swsub, swsubn, sw4le, swleI, swltI, sweqI, sweqm, sw0add, if_pos, if_neg, if_true, if_false, sw1n0, sw0n1, eq_self, ↓reduceIte, swck_0, swi_3, swi10, swi12, swi13, swi14, swi20, swi21, swi23, swi24, swi30, swi31, swi32, swi34, swi40, swi41, swi42, swi43, swap100, hcn]
    · rw [hin]
      simp (disch := omega) only [swlt_e, swbd_e, swrd_n, swgd_n, nI_clamp, sw8m, sw4m, sw4r, nI_add, nI_1, swsub, swsubn, sw4le, swleI, swltI, sweqI, sweqm, sw0add, if_pos, if_neg, if_true, if_false, sw1n0, sw0n1, eq_self, ↓reduceIte, swB_f, swB_t, swi_3, swi10, swi12, swi13, swi14, swi20, swi21, swi23, swi24, swi30, swi31, swi32, swi34, swi40, swi41, swi42, swi43, g5, hmn]
  · obtain ⟨w', l1, l2, -, -⟩ := pm_layf (w := swI w 0 0 0) h40 hv (by rw [swI_k (by omega)]; exact h1.2.2.2) (fun v hv => by rw [g3, g4]; exact ⟨(h6 v hv).2.2.2.2.1, (h6 v hv).2.2.2.2.2.1⟩) hA
    refine swOM.mk (c := 0) (u' := u) (r := nI (sw_cnt 40 (fun k => (am v).testBit k))) (b := nI (sw_cnt 40 (fun k => (am v).testBit k))) (w' := w') (t := 0) ?_ ?_ ?_ (by simp) (fun _ => rfl) ((hR.ag (swAg.t w 0)).ag (swAg_25 l2))
    · have hbc : swBC (lN (am v)) = nI (sw_cnt 40 (fun k => (am v).testBit k)) := by
        have h64 := srA_40 hA h40 hv
        rw [bc_all (by omega), show (64 : Nat) = 40 + 24 from rfl, sw_cnt_split, sw_cnt_no 24 (fun k _ => Nat.testBit_lt_two_pow (Nat.lt_of_lt_of_le h64 (Nat.pow_le_pow_right (by omega) (by omega)))), Nat.add_zero]
      simp (disch := omega) only [swlt_e, swbd_e, swrd_n, swgd_n, nI_clamp, sw8m, sw4m, sw4r, nI_add, nI_1, swsub, swsubn, sw4le, swleI, swltI, sweqI, sweqm, sw0add, if_pos, if_neg, if_true, if_false, sw1n0, sw0n1, eq_self, ↓reduceIte, swck_0, swi_4, swi10, swi12, swi13, swi14, swi20, swi21, swi23, swi24, swi30, swi31, swi32, swi34, swi40, swi41, swi42, swi43, a7, hbc]
    · rw [hin]
      simp (disch := omega) only [swlt_e, swbd_e, swrd_n, swgd_n, nI_clamp, sw8m, sw4m, sw4r, nI_add, nI_1, swsub, swsubn, sw4le, swleI, swltI, sweqI, sweqm, sw0add, if_pos, if_neg, if_true, if_false, sw1n0, sw0n1, eq_self, ↓reduceIte, swB_f, swB_t, swi_4, swi10, swi12, swi13, swi14, swi20, swi21, swi23, swi24, swi30, swi31, swi32, swi34, swi40, swi41, swi42, swi43, l1]
    · rw [l2 0 (by omega) (by omega)]
      exact swI_self
theorem op_base {u w : swU} (h : swRl u w) (x y : Int32) : swOM [(0, 0), (1, 1), (2, 2)] (xx5_base u x y) (mx_base w x y) := by
  have hR := h
  obtain ⟨nv, nb, ns, hd, sh, mo, cm, ot, am, dk, E, h1, h2, h3, h4, h5, h6, hA, h7, h8⟩ := h
  unfold xx5_base mx_base
  rcases sw_cas x (n := nb) (by have := h2.2.1; omega) with hx | ⟨a, ha, rfl⟩
  · obtain ⟨e1, e2⟩ := ckB_n h2 hx
    refine swOM.no hR (c := 0) (t := 1) ?_ ?_ (by simp)
    · simp (disch := omega) only [swlt_e, swbd_e, swrd_n, swgd_n, nI_clamp, sw8m, sw4m, sw4r, nI_add, nI_1, swsub, swsubn, sw4le, swleI, swltI, sweqI, sweqm, sw0add, if_pos, if_neg, if_true, if_false, sw1n0, sw0n1, eq_self, ↓reduceIte, e1]
      rfl
    · simp (disch := omega) only [swlt_e, swbd_e, swrd_n, swgd_n, nI_clamp, sw8m, sw4m, sw4r, nI_add, nI_1, swsub, swsubn, sw4le, swleI, swltI, sweqI, sweqm, sw0add, if_pos, if_neg, if_true, if_false, sw1n0, sw0n1, eq_self, ↓reduceIte, mx_wrong, e2, swB_f, swB_t, swI_self, sw_1le0, sw_2le0, swle00]
  obtain ⟨e1, e2⟩ := ckB_y h2 ha
  rcases sw_cas y (n := nb) (by have := h2.2.1; omega) with hx | ⟨b, hb, rfl⟩
  · obtain ⟨e3, e4⟩ := ckB_n h2 hx
    refine swOM.no hR (c := 0) (t := 1) ?_ ?_ (by simp)
    · simp (disch := omega) only [swlt_e, swbd_e, swrd_n, swgd_n, nI_clamp, sw8m, sw4m, sw4r, nI_add, nI_1, swsub, swsubn, sw4le, swleI, swltI, sweqI, sweqm, sw0add, if_pos, if_neg, if_true, if_false, sw1n0, sw0n1, eq_self, ↓reduceIte, e1, e3, swck_0]
      rfl
    · simp (disch := omega) only [swlt_e, swbd_e, swrd_n, swgd_n, nI_clamp, sw8m, sw4m, sw4r, nI_add, nI_1, swsub, swsubn, sw4le, swleI, swltI, sweqI, sweqm, sw0add, if_pos, if_neg, if_true, if_false, sw1n0, sw0n1, eq_self, ↓reduceIte, mx_wrong, e2, e4, swB_f, swB_t, swI_self, sw_1le0, sw_2le0, swle00]
  obtain ⟨e3, e4⟩ := ckB_y h2 hb
  by_cases hab : a = b
  · refine swOM.no hR (c := 1) (t := 2) ?_ ?_ (by simp)
    · have hd2 : xx5_checkDifferent u (nI a) (nI b) = some 2 := if_pos (by rw [hab])
      simp (disch := omega) only [swlt_e, swbd_e, swrd_n, swgd_n, nI_clamp, sw8m, sw4m, sw4r, nI_add, nI_1, swsub, swsubn, sw4le, swleI, swltI, sweqI, sweqm, sw0add, if_pos, if_neg, if_true, if_false, sw1n0, sw0n1, eq_self, ↓reduceIte, e1, e3, hd2, swck_0]
      rfl
    · have hd2 : (nI a = nI b) = True := eq_true (by rw [hab])
      simp (disch := omega) only [swlt_e, swbd_e, swrd_n, swgd_n, nI_clamp, sw8m, sw4m, sw4r, nI_add, nI_1, swsub, swsubn, sw4le, swleI, swltI, sweqI, sweqm, sw0add, if_pos, if_neg, if_true, if_false, sw1n0, sw0n1, eq_self, ↓reduceIte, mx_wrong, e2, e4, hd2, swB_f, swB_t, swI_self, sw_1le0, sw_2le0, swle00]
  have hb6 := h2.2.1
  have h40 := h1.2.1
  have hd2 : xx5_checkDifferent u (nI a) (nI b) = some 0 := if_neg (by rw [nI_eq (by omega) (by omega)]; exact hab)
  have hd3 : (nI a = nI b) = False := eq_false (by rw [nI_eq (by omega) (by omega)]; exact hab)
  have h6x : sr6 nv mo cm ot am u (swI w 0 0 0) := h6.ag (swAg.t w 0)
  obtain ⟨hha, -, c3⟩ := h4 a ha
  obtain ⟨hhb, -, c4⟩ := h4 b hb
  have hB := swBS_lt h1.1 am (hd a) (hd b)
  obtain ⟨w', m1, m2⟩ := pm_baseOf (h1.ag (swAg.t w 0)) (h2.ag (swAg.t w 0)) (h4.ag (swAg.t w 0)) h6x hA ha hb
  have hag : swAg w w' := (swAg.t w 0).tr (swAg_25 m2)
  have hth : w'.1 0 0 = 0 := by
    rw [m2 0 (by omega) (by omega)]
    exact swI_self
  have g10 : w'.1 10 = w.1 10 := hag.1 10 (by omega) (by omega)
  have cb := pc_baseOf h1 h2 h4 h6 hA ha hb
  have cm2 := pc_mergeOf h1 h2 h4 h6 hA ha hb
  obtain ⟨oc, om, ow⟩ := h7 _ hB
  obtain ⟨ac, am2, aw⟩ := h7 _ hha
  obtain ⟨bc, bm, bw⟩ := h7 _ hhb
  have om' := swmD_ag om hag
  have am' := swmD_ag am2 hag
  have bm' := swmD_ag bm hag
  have s3 := h3.2.1
  have s4 : w'.1 0 8 = nI ns := hag.2.2.1.trans h3.2.2
  have hns := h3.1
  refine swOM.mk (c := 0) (u' := u) (r := nI (swBS nv am (hd a) (hd b))) (b := nI (swBS nv am (hd a) (hd b))) (w' := w') (t := 0) ?_ ?_ hth (by simp) (fun _ => rfl) (hR.ag hag)
  · simp (disch := omega) only [swlt_e, swbd_e, swrd_n, swgd_n, nI_clamp, sw8m, sw4m, sw4r, nI_add, nI_1, swsub, swsubn, sw4le, swleI, swltI, sweqI, sweqm, sw0add, if_pos, if_neg, if_true, if_false, sw1n0, sw0n1, eq_self, ↓reduceIte, e1, e3, hd2, swck_0, cb]
  · simp (disch := omega) only [swlt_e, swbd_e, swrd_n, swgd_n, nI_clamp, sw8m, sw4m, sw4r, nI_add, nI_1, swsub, swsubn, sw4le, swleI, swltI, sweqI, sweqm, sw0add, if_pos, if_neg, if_true, if_false, sw1n0, sw0n1, eq_self, ↓reduceIte, mx_wrong, e2, e4, hd3, swB_t, swI_self, swle00, m1]
theorem op_clashes {u w : swU} (h : swRl u w) (x y : Int32) : swOM [(0, 0), (1, 1), (2, 2)] (xx5_clashes u x y) (mx_clashes w x y) := by
  have hR := h
  obtain ⟨nv, nb, ns, hd, sh, mo, cm, ot, am, dk, E, h1, h2, h3, h4, h5, h6, hA, h7, h8⟩ := h
  unfold xx5_clashes mx_clashes
  rcases sw_cas x (n := nb) (by have := h2.2.1; omega) with hx | ⟨a, ha, rfl⟩
  · obtain ⟨e1, e2⟩ := ckB_n h2 hx
    refine swOM.no hR (c := 0) (t := 1) ?_ ?_ (by simp)
    · simp (disch := omega) only [swlt_e, swbd_e, swrd_n, swgd_n, nI_clamp, sw8m, sw4m, sw4r, nI_add, nI_1, swsub, swsubn, sw4le, swleI, swltI, sweqI, sweqm, sw0add, if_pos, if_neg, if_true, if_false, sw1n0, sw0n1, eq_self, ↓reduceIte, e1]
      rfl
    · simp (disch := omega) only [swlt_e, swbd_e, swrd_n, swgd_n, nI_clamp, sw8m, sw4m, sw4r, nI_add, nI_1, swsub, swsubn, sw4le, swleI, swltI, sweqI, sweqm, sw0add, if_pos, if_neg, if_true, if_false, sw1n0, sw0n1, eq_self, ↓reduceIte, mx_wrong, e2, swB_f, swB_t, swI_self, sw_1le0, sw_2le0, swle00]
  obtain ⟨e1, e2⟩ := ckB_y h2 ha
  rcases sw_cas y (n := nb) (by have := h2.2.1; omega) with hx | ⟨b, hb, rfl⟩
  · obtain ⟨e3, e4⟩ := ckB_n h2 hx
    refine swOM.no hR (c := 0) (t := 1) ?_ ?_ (by simp)
    · simp (disch := omega) only [swlt_e, swbd_e, swrd_n, swgd_n, nI_clamp, sw8m, sw4m, sw4r, nI_add, nI_1, swsub, swsubn, sw4le, swleI, swltI, sweqI, sweqm, sw0add, if_pos, if_neg, if_true, if_false, sw1n0, sw0n1, eq_self, ↓reduceIte, e1, e3, swck_0]
      rfl
    · simp (disch := omega) only [swlt_e, swbd_e, swrd_n, swgd_n, nI_clamp, sw8m, sw4m, sw4r, nI_add, nI_1, swsub, swsubn, sw4le, swleI, swltI, sweqI, sweqm, sw0add, if_pos, if_neg, if_true, if_false, sw1n0, sw0n1, eq_self, ↓reduceIte, mx_wrong, e2, e4, swB_f, swB_t, swI_self, sw_1le0, sw_2le0, swle00]
  obtain ⟨e3, e4⟩ := ckB_y h2 hb
  by_cases hab : a = b
  · refine swOM.no hR (c := 1) (t := 2) ?_ ?_ (by simp)
    · have hd2 : xx5_checkDifferent u (nI a) (nI b) = some 2 := if_pos (by rw [hab])
      simp (disch := omega) only [swlt_e, swbd_e, swrd_n, swgd_n, nI_clamp, sw8m, sw4m, sw4r, nI_add, nI_1, swsub, swsubn, sw4le, swleI, swltI, sweqI, sweqm, sw0add, if_pos, if_neg, if_true, if_false, sw1n0, sw0n1, eq_self, ↓reduceIte, e1, e3, hd2, swck_0]
      rfl
    · have hd2 : (nI a = nI b) = True := eq_true (by rw [hab])
      simp (disch := omega) only [swlt_e, swbd_e, swrd_n, swgd_n, nI_clamp, sw8m, sw4m, sw4r, nI_add, nI_1, swsub, swsubn, sw4le, swleI, swltI, sweqI, sweqm, sw0add, if_pos, if_neg, if_true, if_false, sw1n0, sw0n1, eq_self, ↓reduceIte, mx_wrong, e2, e4, hd2, swB_f, swB_t, swI_self, sw_1le0, sw_2le0, swle00]
  have hb6 := h2.2.1
  have h40 := h1.2.1
  have hd2 : xx5_checkDifferent u (nI a) (nI b) = some 0 := if_neg (by rw [nI_eq (by omega) (by omega)]; exact hab)
  have hd3 : (nI a = nI b) = False := eq_false (by rw [nI_eq (by omega) (by omega)]; exact hab)
  have h6x : sr6 nv mo cm ot am u (swI w 0 0 0) := h6.ag (swAg.t w 0)
  obtain ⟨hha, -, c3⟩ := h4 a ha
  obtain ⟨hhb, -, c4⟩ := h4 b hb
  have hB := swBS_lt h1.1 am (hd a) (hd b)
  obtain ⟨w', m1, m2⟩ := pm_baseOf (h1.ag (swAg.t w 0)) (h2.ag (swAg.t w 0)) (h4.ag (swAg.t w 0)) h6x hA ha hb
  have hag : swAg w w' := (swAg.t w 0).tr (swAg_25 m2)
  have hth : w'.1 0 0 = 0 := by
    rw [m2 0 (by omega) (by omega)]
    exact swI_self
  have g10 : w'.1 10 = w.1 10 := hag.1 10 (by omega) (by omega)
  have cb := pc_baseOf h1 h2 h4 h6 hA ha hb
  have cm2 := pc_mergeOf h1 h2 h4 h6 hA ha hb
  obtain ⟨oc, om, ow⟩ := h7 _ hB
  obtain ⟨ac, am2, aw⟩ := h7 _ hha
  obtain ⟨bc, bm, bw⟩ := h7 _ hhb
  have om' := swmD_ag om hag
  have am' := swmD_ag am2 hag
  have bm' := swmD_ag bm hag
  have s3 := h3.2.1
  have s4 : w'.1 0 8 = nI ns := hag.2.2.1.trans h3.2.2
  have hns := h3.1
  refine swOM.mk (c := 0) (u' := u) (r := nI (swCC (dk (swBS nv am (hd a) (hd b))) (dk (hd a)) (dk (hd b)) ns)) (b := nI (swCC (dk (swBS nv am (hd a) (hd b))) (dk (hd a)) (dk (hd b)) ns)) (w' := w') (t := 0) ?_ ?_ hth (by simp) (fun _ => rfl) (hR.ag hag)
  · simp (disch := omega) only [swlt_e, swbd_e, swrd_n, swgd_n, nI_clamp, sw8m, sw4m, sw4r, nI_add, nI_1, swsub, swsubn, sw4le, swleI, swltI, sweqI, sweqm, sw0add, if_pos, if_neg, if_true, if_false, sw1n0, sw0n1, eq_self, ↓reduceIte, e1, e3, hd2, swck_0, cm2, s3, pc_CC oc ac bc hns]
  · simp (disch := omega) only [swlt_e, swbd_e, swrd_n, swgd_n, nI_clamp, sw8m, sw4m, sw4r, nI_add, nI_1, swsub, swsubn, sw4le, swleI, swltI, sweqI, sweqm, sw0add, if_pos, if_neg, if_true, if_false, sw1n0, sw0n1, eq_self, ↓reduceIte, mx_wrong, e2, e4, hd3, swB_t, swI_self, swle00, m1, g10, c3, c4, pm_CC om' am' bm' aw.1 bw.1 hns s4]
theorem op_merged {u w : swU} (h : swRl u w) (x y s j t : Int32) : swOM [(0, 0), (1, 1), (2, 2)] (xx5_merged u x y s j t) (mx_merged w x y s j t) := by
  have hR := h
  obtain ⟨nv, nb, ns, hd, sh, mo, cm, ot, am, dk, E, h1, h2, h3, h4, h5, h6, hA, h7, h8⟩ := h
  unfold xx5_merged mx_merged
  rcases sw_cas x (n := nb) (by have := h2.2.1; omega) with hx | ⟨a, ha, rfl⟩
  · obtain ⟨e1, e2⟩ := ckB_n h2 hx
    refine swOM.no hR (c := 0) (t := 1) ?_ ?_ (by simp)
    · simp (disch := omega) only [swlt_e, swbd_e, swrd_n, swgd_n, nI_clamp, sw8m, sw4m, sw4r, nI_add, nI_1, swsub, swsubn, sw4le, swleI, swltI, sweqI, sweqm, sw0add, if_pos, if_neg, if_true, if_false, sw1n0, sw0n1, eq_self, ↓reduceIte, e1]
      rfl
    · simp (disch := omega) only [swlt_e, swbd_e, swrd_n, swgd_n, nI_clamp, sw8m, sw4m, sw4r, nI_add, nI_1, swsub, swsubn, sw4le, swleI, swltI, sweqI, sweqm, sw0add, if_pos, if_neg, if_true, if_false, sw1n0, sw0n1, eq_self, ↓reduceIte, e2, swB_f, swB_t]
  obtain ⟨e1, e2⟩ := ckB_y h2 ha
  rcases sw_cas y (n := nb) (by have := h2.2.1; omega) with hx | ⟨b, hb, rfl⟩
  · obtain ⟨e3, e4⟩ := ckB_n h2 hx
    refine swOM.no hR (c := 0) (t := 1) ?_ ?_ (by simp)
    · simp (disch := omega) only [swlt_e, swbd_e, swrd_n, swgd_n, nI_clamp, sw8m, sw4m, sw4r, nI_add, nI_1, swsub, swsubn, sw4le, swleI, swltI, sweqI, sweqm, sw0add, if_pos, if_neg, if_true, if_false, sw1n0, sw0n1, eq_self, ↓reduceIte, e1, e3, swck_0]
      rfl
    · simp (disch := omega) only [swlt_e, swbd_e, swrd_n, swgd_n, nI_clamp, sw8m, sw4m, sw4r, nI_add, nI_1, swsub, swsubn, sw4le, swleI, swltI, sweqI, sweqm, sw0add, if_pos, if_neg, if_true, if_false, sw1n0, sw0n1, eq_self, ↓reduceIte, e2, e4, swB_f, swB_t]
  obtain ⟨e3, e4⟩ := ckB_y h2 hb
  rcases sw_cas s (n := ns) (by have := h3.1; omega) with hx | ⟨i, hi, rfl⟩
  · obtain ⟨e5, e6⟩ := ckS_n h3 hx
    refine swOM.no hR (c := 0) (t := 1) ?_ ?_ (by simp)
    · simp (disch := omega) only [swlt_e, swbd_e, swrd_n, swgd_n, nI_clamp, sw8m, sw4m, sw4r, nI_add, nI_1, swsub, swsubn, sw4le, swleI, swltI, sweqI, sweqm, sw0add, if_pos, if_neg, if_true, if_false, sw1n0, sw0n1, eq_self, ↓reduceIte, e1, e3, e5, swck_0]
      rfl
    · simp (disch := omega) only [swlt_e, swbd_e, swrd_n, swgd_n, nI_clamp, sw8m, sw4m, sw4r, nI_add, nI_1, swsub, swsubn, sw4le, swleI, swltI, sweqI, sweqm, sw0add, if_pos, if_neg, if_true, if_false, sw1n0, sw0n1, eq_self, ↓reduceIte, e2, e4, e6, swB_f, swB_t]
  obtain ⟨e5, e6⟩ := ckS_y h3 hi
  rcases sw_cas j (n := 4) (by omega) with hx | ⟨k, hk, rfl⟩
  · obtain ⟨e7, e8⟩ := ckO_n (u := u) hx
    refine swOM.no hR (c := 0) (t := 1) ?_ ?_ (by simp)
    · simp (disch := omega) only [swlt_e, swbd_e, swrd_n, swgd_n, nI_clamp, sw8m, sw4m, sw4r, nI_add, nI_1, swsub, swsubn, sw4le, swleI, swltI, sweqI, sweqm, sw0add, if_pos, if_neg, if_true, if_false, sw1n0, sw0n1, eq_self, ↓reduceIte, e1, e3, e5, e7, swck_0]
      rfl
    · simp (disch := omega) only [swlt_e, swbd_e, swrd_n, swgd_n, nI_clamp, sw8m, sw4m, sw4r, nI_add, nI_1, swsub, swsubn, sw4le, swleI, swltI, sweqI, sweqm, sw0add, if_pos, if_neg, if_true, if_false, sw1n0, sw0n1, eq_self, ↓reduceIte, e2, e4, e6, e8, swB_f, swB_t]
  obtain ⟨e7, e8⟩ := ckO_y (u := u) hk
  by_cases hab : a = b
  · refine swOM.no hR (c := 1) (t := 2) ?_ ?_ (by simp)
    · have hd2 : xx5_checkDifferent u (nI a) (nI b) = some 2 := if_pos (by rw [hab])
      simp (disch := omega) only [swlt_e, swbd_e, swrd_n, swgd_n, nI_clamp, sw8m, sw4m, sw4r, nI_add, nI_1, swsub, swsubn, sw4le, swleI, swltI, sweqI, sweqm, sw0add, if_pos, if_neg, if_true, if_false, sw1n0, sw0n1, eq_self, ↓reduceIte, e1, e3, e5, e7, hd2, swck_0]
      rfl
    · have hd2 : (nI a = nI b) = True := eq_true (by rw [hab])
      simp (disch := omega) only [swlt_e, swbd_e, swrd_n, swgd_n, nI_clamp, sw8m, sw4m, sw4r, nI_add, nI_1, swsub, swsubn, sw4le, swleI, swltI, sweqI, sweqm, sw0add, if_pos, if_neg, if_true, if_false, sw1n0, sw0n1, eq_self, ↓reduceIte, e2, e4, e6, e8, hd2, swB_f, swB_t]
  have hb6 := h2.2.1
  have h40 := h1.2.1
  have hd2 : xx5_checkDifferent u (nI a) (nI b) = some 0 := if_neg (by rw [nI_eq (by omega) (by omega)]; exact hab)
  have hd3 : (nI a = nI b) = False := eq_false (by rw [nI_eq (by omega) (by omega)]; exact hab)
  have h6x : sr6 nv mo cm ot am u (swI w 0 0 0) := h6.ag (swAg.t w 0)
  obtain ⟨hha, -, c3⟩ := h4 a ha
  obtain ⟨hhb, -, c4⟩ := h4 b hb
  have hB := swBS_lt h1.1 am (hd a) (hd b)
  obtain ⟨w', m1, m2⟩ := pm_baseOf (h1.ag (swAg.t w 0)) (h2.ag (swAg.t w 0)) (h4.ag (swAg.t w 0)) h6x hA ha hb
  have hag : swAg w w' := (swAg.t w 0).tr (swAg_25 m2)
  have hth : w'.1 0 0 = 0 := by
    rw [m2 0 (by omega) (by omega)]
    exact swI_self
  have g10 : w'.1 10 = w.1 10 := hag.1 10 (by omega) (by omega)
  have cb := pc_baseOf h1 h2 h4 h6 hA ha hb
  have cm2 := pc_mergeOf h1 h2 h4 h6 hA ha hb
  obtain ⟨oc, om, ow⟩ := h7 _ hB
  obtain ⟨ac, am2, aw⟩ := h7 _ hha
  obtain ⟨bc, bm, bw⟩ := h7 _ hhb
  have om' := swmD_ag om hag
  have am' := swmD_ag am2 hag
  have bm' := swmD_ag bm hag
  have s3 := h3.2.1
  have s4 : w'.1 0 8 = nI ns := hag.2.2.1.trans h3.2.2
  have hns := h3.1
  rcases sw_cas t (n := 2) (by omega) with hx | ⟨q, hq, rfl⟩
  · have hin : mx_in t 0 1 = some false := pm_in_no (n := 2) (by omega) hx
    have hne : ∀ j, j < 2 → (t = nI j) = False := fun j hj => by
      refine propext ⟨fun z => ?_, fun z => z.elim⟩
      rcases hx with hx | hx
      · exact sw_lt0 hx (by omega) z
      · rw [z, nI_leI (by omega) (by omega)] at hx
        omega
    have n0 : (t = 0) = False := hne 0 (by omega)
    have n1 : (t = 1) = False := hne 1 (by omega)
    refine swOM.no hR (c := 1) (t := 2) ?_ ?_ (by simp)
    · simp (disch := omega) only [swlt_e, swbd_e, swrd_n, swgd_n, nI_clamp, sw8m, sw4m, sw4r, nI_add, nI_1, swsub, swsubn, sw4le, swleI, swltI, sweqI, sweqm, sw0add, if_pos, if_neg, if_true, if_false, sw1n0, sw0n1, eq_self, ↓reduceIte, e1, e3, e5, e7, hd2, swck_0, n0, n1]
    · simp (disch := omega) only [swlt_e, swbd_e, swrd_n, swgd_n, nI_clamp, sw8m, sw4m, sw4r, nI_add, nI_1, swsub, swsubn, sw4le, swleI, swltI, sweqI, sweqm, sw0add, if_pos, if_neg, if_true, if_false, sw1n0, sw0n1, eq_self, ↓reduceIte, e2, e4, e6, e8, hd3, swB_f, swB_t, hin]
  have hin : mx_in (nI q) 0 1 = some true := pm_in_yes (n := 2) (by omega) hq
  obtain ⟨tt, htt⟩ : ∃ tt : Bool, nI q = swB tt := by
    obtain rfl | rfl : q = 0 ∨ q = 1 := by omega
    · exact ⟨false, rfl⟩
    · exact ⟨true, rfl⟩
  rw [htt] at hin ⊢
  refine swOM.mk (c := 0) (u' := u) (r := swRS (dk (swBS nv am (hd a) (hd b))) (dk (hd a)) (dk (hd b)) (nI i) k tt) (b := swRS (dk (swBS nv am (hd a) (hd b))) (dk (hd a)) (dk (hd b)) (nI i) k tt) (w' := w') (t := 0) ?_ ?_ hth (by simp) (fun _ => rfl) (hR.ag hag)
  · have ht1 : (swB tt = 1) = (tt = true) := by
      cases tt
      · exact propext ⟨fun z => absurd z (by decide), fun z => by cases z⟩
      · exact propext ⟨fun _ => rfl, fun _ => rfl⟩
    have hp := pc_RS oc ac bc (nI i) hk (swB tt) tt ht1
    cases tt
    · rw [e1, e3, e5, e7, hd2]
      simp (disch := omega) only [swlt_e, swbd_e, swrd_n, swgd_n, nI_clamp, sw8m, sw4m, sw4r, nI_add, nI_1, swsub, swsubn, sw4le, swleI, swltI, sweqI, sweqm, sw0add, if_pos, if_neg, if_true, if_false, sw1n0, sw0n1, eq_self, ↓reduceIte, swck_0, cm2, hp]
    · rw [e1, e3, e5, e7, hd2]
      simp (disch := omega) only [swlt_e, swbd_e, swrd_n, swgd_n, nI_clamp, sw8m, sw4m, sw4r, nI_add, nI_1, swsub, swsubn, sw4le, swleI, swltI, sweqI, sweqm, sw0add, if_pos, if_neg, if_true, if_false, sw1n0, sw0n1, eq_self, ↓reduceIte, swck_0, cm2, hp]
  · have hp := pm_settles om' am' bm' aw.1 bw.1 (nI i) hk tt
    rw [hin, e2, e4, e6, e8]
    simp (disch := omega) only [swlt_e, swbd_e, swrd_n, swgd_n, nI_clamp, sw8m, sw4m, sw4r, nI_add, nI_1, swsub, swsubn, sw4le, swleI, swltI, sweqI, sweqm, sw0add, if_pos, if_neg, if_true, if_false, sw1n0, sw0n1, eq_self, ↓reduceIte, hd3, swB_t, m1, g10, c3, c4, hp]
