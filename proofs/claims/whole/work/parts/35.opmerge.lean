/-! ===== merge ===== -/
theorem sw0m1 : ((0 : Int32) = -1) = False := propext ⟨fun h => absurd h (by decide), fun h => h.elim⟩
theorem sw1m1 : ((1 : Int32) = -1) = False := propext ⟨fun h => absurd h (by decide), fun h => h.elim⟩
theorem swm10 : ((-1 : Int32) = 0) = False := propext ⟨fun h => absurd h (by decide), fun h => h.elim⟩
theorem swm11 : ((-1 : Int32) = 1) = False := propext ⟨fun h => absurd h (by decide), fun h => h.elim⟩
theorem swRl_tr {u u' w : swU} {nv nb ns : Nat} {hd : Nat → Nat} {sh mo cm ot : Nat → Int32} {am : Nat → Nat} {dk : Nat → swD} {E : swEv} (h1 : sr1 nv u w) (h2 : sr2 nb u w) (h3 : sr3 ns u w) (h4 : sr4 nv nb hd u w) (h5 : sr5 nv sh u w) (h6 : sr6 nv mo cm ot am u w) (h7 : sr7 nv ns dk u w) (h8 : sr8 E u w) (hf : swcF 240 u u') : sr1 nv u' w ∧ sr2 nb u' w ∧ sr3 ns u' w ∧ sr4 nv nb hd u' w ∧ sr5 nv sh u' w ∧ sr6 nv mo cm ot am u' w ∧ sr7 nv ns dk u' w ∧ sr8 E u' w := by
  obtain ⟨f1, f2⟩ := hf
  have g := fun q (hq : q < 240) => f1 q (by omega) (by omega) (by omega)
  have h40 := h1.2.1
  refine ⟨?_, ?_, ?_, fun b hb => ?_, fun b hb => ?_, fun v hv => ?_, fun v hv => ?_, ?_⟩
  · unfold sr1
    rw [g 0 (by omega)]
    exact h1
  · unfold sr2
    rw [g 0 (by omega)]
    exact h2
  · unfold sr3
    rw [g 0 (by omega)]
    exact h3
  · rw [g 1 (by omega)]
    exact h4 b hb
  · rw [g 2 (by omega)]
    exact h5 b hb
  · rw [g (100 + v) (by omega), f2]
    exact h6 v hv
  · obtain ⟨a1, a2, a3⟩ := h7 v hv
    exact ⟨swcD_F a1 ⟨f1, f2⟩ (by omega) (by omega) (by omega), a2, a3⟩
  · exact ⟨swcE_fe h8.1 (by rw [g 0 (by omega)]) (by rw [g 0 (by omega)]) (by rw [g 0 (by omega)]) (fun c _ c2 => g c (by omega)), h8.2⟩
theorem srW_0 (ns : Nat) (r : Nat → Int32) (v : Nat → Nat → Int32) : srW ns (0, r, v) := ⟨fun k hk => absurd hk (Nat.not_lt_zero k), fun k hk => absurd hk (Nat.not_lt_zero k), fun j k hj => absurd hj (Nat.not_lt_zero j)⟩
theorem srW_ap {ns : Nat} {X : swD} (h : srW ns X) {s : Int32} {vals : Nat → Int32} (hs : ∃ q, q < ns ∧ s = nI q) (hno : ∀ k, k < X.1 → ¬ X.2.1 k = s) (hv : ∀ j, j < 4 → 0 ≤ vals j) : srW ns (swAp X s vals) := by
  obtain ⟨hn, hs2, hi⟩ := h
  refine ⟨fun k hk o ho => ?_, fun k hk => ?_, fun j k hj hk he => ?_⟩
  · have hk2 : k < X.1 + 1 := hk
    show 0 ≤ if k = X.1 then vals o else X.2.2 k o
    by_cases e : k = X.1
    · rw [if_pos e]
      exact hv o ho
    · rw [if_neg e]
      exact hn k (by omega) o ho
  · have hk2 : k < X.1 + 1 := hk
    show ∃ q, q < ns ∧ (if k = X.1 then s else X.2.1 k) = nI q
    by_cases e : k = X.1
    · rw [if_pos e]
      exact hs
    · rw [if_neg e]
      exact hs2 k (by omega)
  · have hk2 : k < X.1 + 1 := hk
    have hj2 : j < X.1 + 1 := hj
    have he2 : (if j = X.1 then s else X.2.1 j) = (if k = X.1 then s else X.2.1 k) := he
    by_cases e1 : j = X.1
    · by_cases e2 : k = X.1
      · omega
      · rw [if_pos e1, if_neg e2] at he2
        exact absurd he2.symm (hno k (by omega))
    · by_cases e2 : k = X.1
      · rw [if_neg e1, if_pos e2] at he2
        exact absurd he2 (hno j (by omega))
      · rw [if_neg e1, if_neg e2] at he2
        exact hi j k (by omega) (by omega) he2
theorem swMA_W {ns : Nat} {O A B : swD} (hA : srW ns A) (hB : srW ns B) (t : Bool) : ∀ k, k ≤ A.1 → srW ns (swMA O A B t k) ∧ ∀ i, i < (swMA O A B t k).1 → ∃ j, j < k ∧ (swMA O A B t k).2.1 i = A.2.1 j := by
  intro k
  induction k with
  | zero => intro _; exact ⟨srW_0 ns _ _, fun i hi => absurd hi (Nat.not_lt_zero i)⟩
  | succ k ih =>
    intro hk
    obtain ⟨i1, i2⟩ := ih (by omega)
    by_cases hp : swKP O A B (A.2.1 k) t = true
    · have e : swMA O A B t (k + 1) = swAp (swMA O A B t k) (A.2.1 k) (fun j => swKV O A B (A.2.1 k) j t) := if_pos hp
      rw [e]
      refine ⟨srW_ap i1 (hA.2.1 k (by omega)) (fun i hi z => ?_) (fun j hj => swKV_nn hp hA.1 hB.1 hj), fun i hi => ?_⟩
      · obtain ⟨j, hj, ej⟩ := i2 i hi
        have := hA.2.2 j k (by omega) (by omega) (ej.symm.trans z)
        omega
      · have hi2 : i < (swMA O A B t k).1 + 1 := hi
        show ∃ j, j < k + 1 ∧ (if i = (swMA O A B t k).1 then A.2.1 k else (swMA O A B t k).2.1 i) = A.2.1 j
        by_cases e2 : i = (swMA O A B t k).1
        · rw [if_pos e2]
          exact ⟨k, by omega, rfl⟩
        · rw [if_neg e2]
          obtain ⟨j, hj, ej⟩ := i2 i (by omega)
          exact ⟨j, by omega, ej⟩
    · have e : swMA O A B t (k + 1) = swMA O A B t k := if_neg hp
      rw [e]
      exact ⟨i1, fun i hi => by
        obtain ⟨j, hj, ej⟩ := i2 i hi
        exact ⟨j, by omega, ej⟩⟩
theorem swhas_row {d : swD} {j : Nat} (hj : j < d.1) : swhas d (d.2.1 j) = true := by
  rw [swhas_any]
  exact (sw_any_iff _ _).mpr ⟨j, hj, decide_eq_true rfl⟩
theorem swMB_W {ns : Nat} {O A B : swD} (hA : srW ns A) (hB : srW ns B) (t : Bool) : ∀ k, k ≤ B.1 → srW ns (swMB O A B t k) ∧ ∀ i, i < (swMB O A B t k).1 → (∃ j, j < A.1 ∧ (swMB O A B t k).2.1 i = A.2.1 j) ∨ ∃ j, j < k ∧ (swMB O A B t k).2.1 i = B.2.1 j := by
  intro k
  induction k with
  | zero =>
    intro _
    obtain ⟨i1, i2⟩ := swMA_W (O := O) hA hB t A.1 (Nat.le_refl _)
    exact ⟨i1, fun i hi => Or.inl (i2 i hi)⟩
  | succ k ih =>
    intro hk
    obtain ⟨i1, i2⟩ := ih (by omega)
    have keep : srW ns (swMB O A B t k) ∧ ∀ i, i < (swMB O A B t k).1 → (∃ j, j < A.1 ∧ (swMB O A B t k).2.1 i = A.2.1 j) ∨ ∃ j, j < k + 1 ∧ (swMB O A B t k).2.1 i = B.2.1 j := ⟨i1, fun i hi => (i2 i hi).imp id fun ⟨j, hj, ej⟩ => ⟨j, by omega, ej⟩⟩
    have e0 : swMB O A B t (k + 1) = if swhas A (B.2.1 k) = true then swMB O A B t k else if swKP O A B (B.2.1 k) t = true then swAp (swMB O A B t k) (B.2.1 k) (fun j => swKV O A B (B.2.1 k) j t) else swMB O A B t k := rfl
    by_cases hh : swhas A (B.2.1 k) = true
    · rw [if_pos hh] at e0
      rw [e0]
      exact keep
    · by_cases hp : swKP O A B (B.2.1 k) t = true
      · rw [if_neg hh, if_pos hp] at e0
        rw [e0]
        refine ⟨srW_ap i1 (hB.2.1 k (by omega)) (fun i hi z => ?_) (fun j hj => swKV_nn hp hA.1 hB.1 hj), fun i hi => ?_⟩
        · rcases i2 i hi with ⟨j, hj, ej⟩ | ⟨j, hj, ej⟩
          · rw [← z, ej, swhas_row hj] at hh
            exact hh rfl
          · have := hB.2.2 j k (by omega) (by omega) (ej.symm.trans z)
            omega
        · have hi2 : i < (swMB O A B t k).1 + 1 := hi
          show (∃ j, j < A.1 ∧ (if i = (swMB O A B t k).1 then B.2.1 k else (swMB O A B t k).2.1 i) = A.2.1 j) ∨ ∃ j, j < k + 1 ∧ (if i = (swMB O A B t k).1 then B.2.1 k else (swMB O A B t k).2.1 i) = B.2.1 j
          by_cases e2 : i = (swMB O A B t k).1
          · rw [if_pos e2]
            exact Or.inr ⟨k, by omega, rfl⟩
          · rw [if_neg e2]
            exact keep.2 i (by omega)
      · rw [if_neg hh, if_neg hp] at e0
        rw [e0]
        exact keep
theorem swMV.from240 {nv b hb : Nat} {x2 : Int32} {m : Nat} {d : swD} {u u' : swU} (h40 : nv < 40) (h : swMV nv b hb x2 m d u u') {X : swD} (hX : swcD u 240 X) : swcD u' 240 X := by
  have v10 := h.2.2.2.2.2.2.2.2.2.1
  exact swcD_fr hX (by rw [v10 240 (by omega) (by omega) (by omega) (by omega) (by omega) (by omega)]) (fun _ _ => by rw [v10 (240 + 100) (by omega) (by omega) (by omega) (by omega) (by omega) (by omega)]) (fun _ _ _ _ => by rw [v10 (240 + 200) (by omega) (by omega) (by omega) (by omega) (by omega) (by omega)])
theorem op_merge_m {u w : swU} (h : swRl u w) (x y : Int32) : swOM [(0, 0), (1, 1), (2, 2), (3, 3)] (xx5_merge u x y (-1)) (mx_merge w x y (-1)) := by
  have hR := h
  obtain ⟨nv, nb, ns, hd, sh, mo, cm, ot, am, dk, E, h1, h2, h3, h4, h5, h6, hA, h7, h8⟩ := h
  unfold xx5_merge mx_merge
  rcases sw_cas x (n := nb) (by have := h2.2.1; omega) with hx | ⟨a, ha, rfl⟩
  · obtain ⟨e1, e2⟩ := ckB_n h2 hx
    refine swOM.no hR (c := 0) (t := 1) ?_ ?_ (by simp)
    · rw [e1]
      rfl
    · rw [e2]
      rfl
  obtain ⟨e1, e2⟩ := ckB_y h2 ha
  rcases sw_cas y (n := nb) (by have := h2.2.1; omega) with hx | ⟨b, hb, rfl⟩
  · obtain ⟨e3, e4⟩ := ckB_n h2 hx
    refine swOM.no hR (c := 0) (t := 1) ?_ ?_ (by simp)
    · rw [e1, e3]
      rfl
    · rw [e2, e4]
      rfl
  obtain ⟨e3, e4⟩ := ckB_y h2 hb
  rw [e1, e2, e3, e4]
  by_cases hab : a = b
  · have hd2 : xx5_checkDifferent u (nI a) (nI b) = some 2 := if_pos (by rw [hab])
    have hd3 : (nI a = nI b) = True := eq_true (by rw [hab])
    refine swOM.no hR (c := 1) (t := 2) ?_ ?_ (by simp)
    · rw [hd2]
      rfl
    · simp (disch := omega) only [swlt_e, swbd_e, swrd_n, swgd_n, nI_clamp, sw8m, sw4m, sw4r, nI_add, nI_1, swsub, swsubn, sw4le, swleI, swltI, sweqI, sweqm, sw0add, if_pos, if_neg, if_true, if_false, sw1n0, sw0n1, eq_self, ↓reduceIte, swB_f, swB_t, hd3]
  have hb6 := h2.2.1
  have h40 := h1.2.1
  have hns := h3.1
  have s3 := h3.2.1
  have hd2 : xx5_checkDifferent u (nI a) (nI b) = some 0 := if_neg (by rw [nI_eq (by omega) (by omega)]; exact hab)
  have hd3 : (nI a = nI b) = False := eq_false (by rw [nI_eq (by omega) (by omega)]; exact hab)
  have hin : mx_in (-1) (-1) 1 = some true := rfl
  obtain ⟨hha, ca, c3⟩ := h4 a ha
  obtain ⟨hhb, cb, c4⟩ := h4 b hb
  have hB := swBS_lt h1.1 am (hd a) (hd b)
  obtain ⟨w1, m1, m2⟩ := pm_baseOf (h1.ag (swAg.t w 0)) (h2.ag (swAg.t w 0)) (h4.ag (swAg.t w 0)) (h6.ag (swAg.t w 0)) hA ha hb
  have hag : swAg w w1 := (swAg.t w 0).tr (swAg_25 m2)
  have cm2 := pc_mergeOf h1 h2 h4 h6 hA ha hb
  obtain ⟨base, hbase⟩ : ∃ base, base = swBS nv am (hd a) (hd b) := ⟨_, rfl⟩
  rw [← hbase] at hB m1 cm2
  obtain ⟨oc, om, ow⟩ := h7 _ hB
  obtain ⟨ac, am2, aw⟩ := h7 _ hha
  obtain ⟨bc, bm, bw⟩ := h7 _ hhb
  have g10 : w1.1 10 = w.1 10 := hag.1 10 (by omega) (by omega)
  obtain ⟨w2, l1, lF, lD⟩ := pm_layDeck (swmD_ag om hag) (swmD_ag am2 hag) (swmD_ag bm hag) aw.1 bw.1 false
  have l2 : mx_layDeck w1 (nI base) (nI (hd a)) (nI (hd b)) 0 = some w2 := l1
  have hag2 : swAg w w2 := hag.tr lF.ag
  have cc := pc_CC oc ac bc hns
  have mc := pm_CC (swmD_ag om hag2) (swmD_ag am2 hag2) (swmD_ag bm hag2) aw.1 bw.1 hns (hag2.2.2.1.trans h3.2.2)
  have ht1 : (((-1) : Int32) = 1) = (false = true) := propext ⟨fun z => absurd z (by decide), fun z => by cases z⟩
  have cs := pc_CS oc ac bc hns (-1) false ht1
  rw [swMM_n aw bw hns] at cs
  obtain ⟨M, hM⟩ : ∃ M, M = swMB (dk base) (dk (hd a)) (dk (hd b)) false (dk (hd b)).1 := ⟨_, rfl⟩
  obtain ⟨C, hC⟩ : ∃ C, C = swCC (dk base) (dk (hd a)) (dk (hd b)) ns := ⟨_, rfl⟩
  have hC5 : C ≤ ns * 5 := by
    rw [hC]
    exact swCC_le _ _ _ _
  have hM16 : M.1 ≤ 16 := by
    have q1 := swMB_16 (dk base) (dk (hd a)) (dk (hd b)) false ac.1 (Nat.le_refl (dk (hd b)).1)
    have q2 := ac.1
    have q3 := bc.1
    rw [hM]
    omega
  have hMW : srW ns M := by
    rw [hM]
    exact (swMB_W aw bw false _ (Nat.le_refl _)).1
  rw [← hM] at cs lD
  rw [← hC] at cc mc
  have hblk := fun KK => pm_blk (swmE_ag h8.2.1 hag2) lD hM16 KK
  have w22 := lD.1
  have hno : ∀ (X : Option (Nat × Int32 × swU)) (Y : Option (Int32 × swU)) (u' : swU), swRl u' w → X = some (3, 0, u') → Y = some (0, swI w2 0 0 3) → swOM [(0, 0), (1, 1), (2, 2), (3, 3)] X Y := fun X Y u' hr hX hY => swOM.mk hX hY swI_self (by simp) (fun z => by cases z) ((hr.ag hag2).ag (swAg.t w2 3))
  have hMle : (nI M.1 ≤ 8) = (M.1 ≤ 8) := by
    rw [show (8 : Int32) = nI 8 from rfl, swleI (by omega) (by omega)]
  have hMlt : (8 < nI M.1) = (8 < M.1) := by
    rw [show (8 : Int32) = nI 8 from rfl, swltI (by omega) (by omega)]
  have hC0 : (nI C ≤ 0) = (C = 0) := swleI0 (by omega)
  have hC1 : (0 < nI C) = (0 < C) := by
    rw [show (0 : Int32) = nI 0 from rfl, swltI (by omega) (by omega)]
  by_cases hcl : C = 0
  case neg =>
    refine hno _ _ u hR ?_ ?_
    · rw [eq_false hcl] at hC0
      simp (disch := omega) only [swlt_e, swbd_e, swrd_n, swgd_n, nI_clamp, sw8m, sw4m, sw4r, nI_add, nI_1, swsub, swsubn, sw4le, swleI, swltI, sweqI, sweqm, sw0add, if_pos, if_neg, if_true, if_false, sw1n0, sw0n1, eq_self, ↓reduceIte, swck_0, hd2, cm2, s3, cs, sw0m1, sw1m1, swm10, swm11, cc, hC0, cc, hC0]
    · rw [eq_true (show 0 < C by omega)] at hC1
      simp (disch := omega) only [swlt_e, swbd_e, swrd_n, swgd_n, nI_clamp, sw8m, sw4m, sw4r, nI_add, nI_1, swsub, swsubn, sw4le, swleI, swltI, sweqI, sweqm, sw0add, if_pos, if_neg, if_true, if_false, sw1n0, sw0n1, eq_self, ↓reduceIte, swB_f, swB_t, hd3, hin, m1, g10, c3, c4, l2, hblk, w22, sw0m1, sw1m1, swm10, swm11, mc, hC1, mc, hC1]
  rw [eq_true hcl] at hC0
  rw [eq_false (show ¬ 0 < C by omega)] at hC1
  by_cases hM8 : M.1 ≤ 8
  case neg =>
    rw [eq_false hM8] at hMle
    rw [eq_true (show 8 < M.1 by omega)] at hMlt
    refine hno _ _ u hR ?_ ?_
    · simp (disch := omega) only [swlt_e, swbd_e, swrd_n, swgd_n, nI_clamp, sw8m, sw4m, sw4r, nI_add, nI_1, swsub, swsubn, sw4le, swleI, swltI, sweqI, sweqm, sw0add, if_pos, if_neg, if_true, if_false, sw1n0, sw0n1, eq_self, ↓reduceIte, swck_0, hd2, cm2, s3, cs, sw0m1, sw1m1, swm10, swm11, cc, hC0, hMle]
    · simp (disch := omega) only [swlt_e, swbd_e, swrd_n, swgd_n, nI_clamp, sw8m, sw4m, sw4r, nI_add, nI_1, swsub, swsubn, sw4le, swleI, swltI, sweqI, sweqm, sw0add, if_pos, if_neg, if_true, if_false, sw1n0, sw0n1, eq_self, ↓reduceIte, swB_f, swB_t, hd3, hin, m1, g10, c3, c4, l2, hblk, w22, sw0m1, sw1m1, swm10, swm11, mc, hC1, hMlt]
  rw [eq_true hM8] at hMle
  rw [eq_false (show ¬ 8 < M.1 by omega)] at hMlt
  obtain ⟨u1, p1, pF, pD⟩ := pc_fill oc ac bc (by omega) (by omega) (by omega) (x := (-1)) ht1 (by rw [← hM]; exact hM8)
  rw [← hM] at pD
  obtain ⟨t1, t2, t3, t4, t5, t6, t7, t8⟩ := swRl_tr h1 h2 h3 h4 h5 h6 h7 h8 pF
  have hR1 : swRl u1 w := ⟨nv, nb, ns, hd, sh, mo, cm, ot, am, dk, E, t1, t2, t3, t4, t5, t6, hA, t7, t8⟩
  have cbk := pc_countBlocks t8.1 pD
  have hbk := sw_bk0 (E := E) (d := M) h8.1.1 hM8
  by_cases hz : swBK E M = 0
  case neg =>
    rw [eq_false hz] at hbk
    have hdec : decide (0 < swBK E M) = true := decide_eq_true (by omega)
    refine hno _ _ u1 hR1 ?_ ?_
    · simp (disch := omega) only [swlt_e, swbd_e, swrd_n, swgd_n, nI_clamp, sw8m, sw4m, sw4r, nI_add, nI_1, swsub, swsubn, sw4le, swleI, swltI, sweqI, sweqm, sw0add, if_pos, if_neg, if_true, if_false, sw1n0, sw0n1, eq_self, ↓reduceIte, swck_0, hd2, cm2, s3, cs, sw0m1, sw1m1, swm10, swm11, cc, hC0, hMle, p1, cbk, hbk]
    · simp (disch := omega) only [swlt_e, swbd_e, swrd_n, swgd_n, nI_clamp, sw8m, sw4m, sw4r, nI_add, nI_1, swsub, swsubn, sw4le, swleI, swltI, sweqI, sweqm, sw0add, if_pos, if_neg, if_true, if_false, sw1n0, sw0n1, eq_self, ↓reduceIte, swB_f, swB_t, hd3, hin, m1, g10, c3, c4, l2, hblk, w22, sw0m1, sw1m1, swm10, swm11, mc, hC1, hMlt, hdec]
  rw [eq_true hz] at hbk
  have hdec : decide (0 < swBK E M) = false := decide_eq_false (by omega)
  obtain ⟨hr40, hrlt⟩ := sw_room (t1.ag hag2)
  by_cases e40 : nv = 40
  · obtain ⟨q1, q2⟩ := hr40 e40
    refine hno _ _ u1 hR1 ?_ ?_
    · simp (disch := omega) only [swlt_e, swbd_e, swrd_n, swgd_n, nI_clamp, sw8m, sw4m, sw4r, nI_add, nI_1, swsub, swsubn, sw4le, swleI, swltI, sweqI, sweqm, sw0add, if_pos, if_neg, if_true, if_false, sw1n0, sw0n1, eq_self, ↓reduceIte, swck_0, hd2, cm2, s3, cs, sw0m1, sw1m1, swm10, swm11, cc, hC0, hMle, p1, cbk, hbk, q1]
      rfl
    · simp (disch := omega) only [swlt_e, swbd_e, swrd_n, swgd_n, nI_clamp, sw8m, sw4m, sw4r, nI_add, nI_1, swsub, swsubn, sw4le, swleI, swltI, sweqI, sweqm, sw0add, if_pos, if_neg, if_true, if_false, sw1n0, sw0n1, eq_self, ↓reduceIte, swB_f, swB_t, hd3, hin, m1, g10, c3, c4, l2, hblk, w22, sw0m1, sw1m1, swm10, swm11, mc, hC1, hMlt, hdec, q2]
  obtain ⟨q1, q2⟩ := hrlt (by omega)
  have ca1 := (t4 a ha).2.1
  have cb1 := (t4 b hb).2.1
  obtain ⟨u2, f1, g1, g8⟩ := pc_makeVersion (u := u1) (nv := nv) (b := a) (hb := hd a) (x2 := nI (hd b)) (m := am (hd a)) (mc := am (hd b)) (d := dk (hd a)) (by omega) t1.2.2.1 (by omega) hha ca1 (t6 _ hha).2.2.2.2.2.2 (Or.inr ⟨hd b, hhb, rfl, (t6 _ hhb).2.2.2.2.2.2⟩) (t7 _ hha).1
  obtain ⟨u3, f2, gF, gD⟩ := pc_copyFrom (c := 200 + nv) (c2 := 240) (g1.from240 (by omega) pD) (by omega) (by omega) (by omega)
  have hV := g1.deck (by omega) gF gD
  have hu3 : u3.1 1 a = nI nv := hV.2.2.1
  have g10' : w2.1 10 = w.1 10 := hag2.1 10 (by omega) (by omega)
  obtain ⟨w3, k1, k2, k8⟩ := pm_edits0 (w := swI w2 0 0 0) (nv := nv) (ns := ns) (b := a) (by rw [swI_k (by omega)]; exact (h1.ag hag2).2.2.2) (by omega) (by omega) (by rw [swI_ne (by omega), g10']; exact c3) hha (swmD_ag (swmD_ag am2 hag2) (swAg.t w2 0)) aw hns
  have k22 : w3.1 0 22 = nI M.1 := by
    rw [k2.2.1 22 (by omega) (by omega), swI_k (by omega)]
    exact w22
  obtain ⟨W, hW⟩ : ∃ W, W = swI (swI w3 4 nv (nI (hd b))) 5 nv (nI M.1) := ⟨_, rfl⟩
  have kW := (k2.x2 (nI (hd b)))
  have hq11 := k2.2.2.2.2.2.2.2.2.2.2.1
  have WD : swLd W M := by
    subst hW
    refine ⟨by rw [swI_ne (by omega), swI_ne (by omega)]; exact k22, fun k hk => ?_, fun k hk j hj => ?_⟩
    · rw [swI_ne (by omega), swI_ne (by omega), hq11 23 (by omega), swI_ne (by omega)]
      exact lD.2.1 k hk
    · rw [swI_ne (by omega), swI_ne (by omega), hq11 24 (by omega), swI_ne (by omega)]
      exact lD.2.2 k hk j hj
  obtain ⟨w4, k3, k4, k5⟩ := pm_cp (w := W) (nv := nv) (X := M) (by omega) WD hM8 (by subst hW; exact swI_self) (nI nv)
  have FW : swmF nv (swI w3 4 nv (nI (hd b))) w4 := by
    subst hW
    exact (swmF.i5 nv _ _).tr k4
  have hWn := kW.deck FW k5
  rw [hW] at k3
  refine swOM.mk (c := 0) (r := nI nv) (u' := u3) (b := nI nv) (w' := w4) (t := 0) ?_ ?_ ?_ (by simp) (fun _ => rfl) ?_
  · simp (disch := omega) only [swlt_e, swbd_e, swrd_n, swgd_n, nI_clamp, sw8m, sw4m, sw4r, nI_add, nI_1, swsub, swsubn, sw4le, swleI, swltI, sweqI, sweqm, sw0add, if_pos, if_neg, if_true, if_false, sw1n0, sw0n1, eq_self, ↓reduceIte, swck_0, hd2, cm2, s3, cs, sw0m1, sw1m1, swm10, swm11, cc, hC0, hMle, p1, cbk, hbk, q1, cb1, f1, f2, hu3]
  · simp (disch := omega) only [swlt_e, swbd_e, swrd_n, swgd_n, nI_clamp, sw8m, sw4m, sw4r, nI_add, nI_1, swsub, swsubn, sw4le, swleI, swltI, sweqI, sweqm, sw0add, if_pos, if_neg, if_true, if_false, sw1n0, sw0n1, eq_self, ↓reduceIte, swB_f, swB_t, hd3, hin, m1, g10, c3, c4, l2, hblk, w22, sw0m1, sw1m1, swm10, swm11, mc, hC1, hMlt, hdec, q2, k1, k22, swI_ne]
    exact k3
  · rw [hWn.2.1 0 (by omega) (by omega), swI_self]
  · have ag := hag2.tr (swAg.t w2 0)
    refine swRl_new (t1.ag ag) (t2.ag ag) (t3.ag ag) (t4.ag ag) (t5.ag ag) (t6.ag ag) hA (t7.ag ag) (t8.ag ag) ha (by omega) (x2 := nI (hd b)) (mc := am (hd b)) (d := M) (ns' := ns) (Or.inr ⟨hd b, hhb, rfl, rfl⟩) (Nat.le_refl _) hns ?_ ?_ hV hWn hMW
    · rw [gF.1 0 (by omega) (by omega) (by omega), g8]
      exact t3.2.1
    · rw [FW.1 0 (by omega) (by omega) (by omega), swI_ne (by omega), k8, swI_k (by omega)]
      exact hag2.2.2.1.trans h3.2.2
theorem op_merge_0 {u w : swU} (h : swRl u w) (x y : Int32) : swOM [(0, 0), (1, 1), (2, 2), (3, 3)] (xx5_merge u x y 0) (mx_merge w x y 0) := by
  have hR := h
  obtain ⟨nv, nb, ns, hd, sh, mo, cm, ot, am, dk, E, h1, h2, h3, h4, h5, h6, hA, h7, h8⟩ := h
  unfold xx5_merge mx_merge
  rcases sw_cas x (n := nb) (by have := h2.2.1; omega) with hx | ⟨a, ha, rfl⟩
  · obtain ⟨e1, e2⟩ := ckB_n h2 hx
    refine swOM.no hR (c := 0) (t := 1) ?_ ?_ (by simp)
    · rw [e1]
      rfl
    · rw [e2]
      rfl
  obtain ⟨e1, e2⟩ := ckB_y h2 ha
  rcases sw_cas y (n := nb) (by have := h2.2.1; omega) with hx | ⟨b, hb, rfl⟩
  · obtain ⟨e3, e4⟩ := ckB_n h2 hx
    refine swOM.no hR (c := 0) (t := 1) ?_ ?_ (by simp)
    · rw [e1, e3]
      rfl
    · rw [e2, e4]
      rfl
  obtain ⟨e3, e4⟩ := ckB_y h2 hb
  rw [e1, e2, e3, e4]
  by_cases hab : a = b
  · have hd2 : xx5_checkDifferent u (nI a) (nI b) = some 2 := if_pos (by rw [hab])
    have hd3 : (nI a = nI b) = True := eq_true (by rw [hab])
    refine swOM.no hR (c := 1) (t := 2) ?_ ?_ (by simp)
    · rw [hd2]
      rfl
    · simp (disch := omega) only [swlt_e, swbd_e, swrd_n, swgd_n, nI_clamp, sw8m, sw4m, sw4r, nI_add, nI_1, swsub, swsubn, sw4le, swleI, swltI, sweqI, sweqm, sw0add, if_pos, if_neg, if_true, if_false, sw1n0, sw0n1, eq_self, ↓reduceIte, swB_f, swB_t, hd3]
  have hb6 := h2.2.1
  have h40 := h1.2.1
  have hns := h3.1
  have s3 := h3.2.1
  have hd2 : xx5_checkDifferent u (nI a) (nI b) = some 0 := if_neg (by rw [nI_eq (by omega) (by omega)]; exact hab)
  have hd3 : (nI a = nI b) = False := eq_false (by rw [nI_eq (by omega) (by omega)]; exact hab)
  have hin : mx_in 0 (-1) 1 = some true := rfl
  obtain ⟨hha, ca, c3⟩ := h4 a ha
  obtain ⟨hhb, cb, c4⟩ := h4 b hb
  have hB := swBS_lt h1.1 am (hd a) (hd b)
  obtain ⟨w1, m1, m2⟩ := pm_baseOf (h1.ag (swAg.t w 0)) (h2.ag (swAg.t w 0)) (h4.ag (swAg.t w 0)) (h6.ag (swAg.t w 0)) hA ha hb
  have hag : swAg w w1 := (swAg.t w 0).tr (swAg_25 m2)
  have cm2 := pc_mergeOf h1 h2 h4 h6 hA ha hb
  obtain ⟨base, hbase⟩ : ∃ base, base = swBS nv am (hd a) (hd b) := ⟨_, rfl⟩
  rw [← hbase] at hB m1 cm2
  obtain ⟨oc, om, ow⟩ := h7 _ hB
  obtain ⟨ac, am2, aw⟩ := h7 _ hha
  obtain ⟨bc, bm, bw⟩ := h7 _ hhb
  have g10 : w1.1 10 = w.1 10 := hag.1 10 (by omega) (by omega)
  obtain ⟨w2, l1, lF, lD⟩ := pm_layDeck (swmD_ag om hag) (swmD_ag am2 hag) (swmD_ag bm hag) aw.1 bw.1 false
  have l2 : mx_layDeck w1 (nI base) (nI (hd a)) (nI (hd b)) 0 = some w2 := l1
  have hag2 : swAg w w2 := hag.tr lF.ag
  have cc := pc_CC oc ac bc hns
  have mc := pm_CC (swmD_ag om hag2) (swmD_ag am2 hag2) (swmD_ag bm hag2) aw.1 bw.1 hns (hag2.2.2.1.trans h3.2.2)
  have ht1 : ((0 : Int32) = 1) = (false = true) := propext ⟨fun z => absurd z (by decide), fun z => by cases z⟩
  have cs := pc_CS oc ac bc hns 0 false ht1
  rw [swMM_n aw bw hns] at cs
  obtain ⟨M, hM⟩ : ∃ M, M = swMB (dk base) (dk (hd a)) (dk (hd b)) false (dk (hd b)).1 := ⟨_, rfl⟩
  obtain ⟨C, hC⟩ : ∃ C, C = swCC (dk base) (dk (hd a)) (dk (hd b)) ns := ⟨_, rfl⟩
  have hC5 : C ≤ ns * 5 := by
    rw [hC]
    exact swCC_le _ _ _ _
  have hM16 : M.1 ≤ 16 := by
    have q1 := swMB_16 (dk base) (dk (hd a)) (dk (hd b)) false ac.1 (Nat.le_refl (dk (hd b)).1)
    have q2 := ac.1
    have q3 := bc.1
    rw [hM]
    omega
  have hMW : srW ns M := by
    rw [hM]
    exact (swMB_W aw bw false _ (Nat.le_refl _)).1
  rw [← hM] at cs lD
  rw [← hC] at cc mc
  have hblk := fun KK => pm_blk (swmE_ag h8.2.1 hag2) lD hM16 KK
  have w22 := lD.1
  have hno : ∀ (X : Option (Nat × Int32 × swU)) (Y : Option (Int32 × swU)) (u' : swU), swRl u' w → X = some (3, 0, u') → Y = some (0, swI w2 0 0 3) → swOM [(0, 0), (1, 1), (2, 2), (3, 3)] X Y := fun X Y u' hr hX hY => swOM.mk hX hY swI_self (by simp) (fun z => by cases z) ((hr.ag hag2).ag (swAg.t w2 3))
  have hMle : (nI M.1 ≤ 8) = (M.1 ≤ 8) := by
    rw [show (8 : Int32) = nI 8 from rfl, swleI (by omega) (by omega)]
  have hMlt : (8 < nI M.1) = (8 < M.1) := by
    rw [show (8 : Int32) = nI 8 from rfl, swltI (by omega) (by omega)]
  by_cases hM8 : M.1 ≤ 8
  case neg =>
    rw [eq_false hM8] at hMle
    rw [eq_true (show 8 < M.1 by omega)] at hMlt
    refine hno _ _ u hR ?_ ?_
    · simp (disch := omega) only [swlt_e, swbd_e, swrd_n, swgd_n, nI_clamp, sw8m, sw4m, sw4r, nI_add, nI_1, swsub, swsubn, sw4le, swleI, swltI, sweqI, sweqm, sw0add, if_pos, if_neg, if_true, if_false, sw1n0, sw0n1, eq_self, ↓reduceIte, swck_0, hd2, cm2, s3, cs, sw0m1, sw1m1, swm10, swm11, hMle]
    · simp (disch := omega) only [swlt_e, swbd_e, swrd_n, swgd_n, nI_clamp, sw8m, sw4m, sw4r, nI_add, nI_1, swsub, swsubn, sw4le, swleI, swltI, sweqI, sweqm, sw0add, if_pos, if_neg, if_true, if_false, sw1n0, sw0n1, eq_self, ↓reduceIte, swB_f, swB_t, hd3, hin, m1, g10, c3, c4, l2, hblk, w22, sw0m1, sw1m1, swm10, swm11, hMlt]
  rw [eq_true hM8] at hMle
  rw [eq_false (show ¬ 8 < M.1 by omega)] at hMlt
  obtain ⟨u1, p1, pF, pD⟩ := pc_fill oc ac bc (by omega) (by omega) (by omega) (x := 0) ht1 (by rw [← hM]; exact hM8)
  rw [← hM] at pD
  obtain ⟨t1, t2, t3, t4, t5, t6, t7, t8⟩ := swRl_tr h1 h2 h3 h4 h5 h6 h7 h8 pF
  have hR1 : swRl u1 w := ⟨nv, nb, ns, hd, sh, mo, cm, ot, am, dk, E, t1, t2, t3, t4, t5, t6, hA, t7, t8⟩
  have cbk := pc_countBlocks t8.1 pD
  have hbk := sw_bk0 (E := E) (d := M) h8.1.1 hM8
  by_cases hz : swBK E M = 0
  case neg =>
    rw [eq_false hz] at hbk
    have hdec : decide (0 < swBK E M) = true := decide_eq_true (by omega)
    refine hno _ _ u1 hR1 ?_ ?_
    · simp (disch := omega) only [swlt_e, swbd_e, swrd_n, swgd_n, nI_clamp, sw8m, sw4m, sw4r, nI_add, nI_1, swsub, swsubn, sw4le, swleI, swltI, sweqI, sweqm, sw0add, if_pos, if_neg, if_true, if_false, sw1n0, sw0n1, eq_self, ↓reduceIte, swck_0, hd2, cm2, s3, cs, sw0m1, sw1m1, swm10, swm11, hMle, p1, cbk, hbk]
    · simp (disch := omega) only [swlt_e, swbd_e, swrd_n, swgd_n, nI_clamp, sw8m, sw4m, sw4r, nI_add, nI_1, swsub, swsubn, sw4le, swleI, swltI, sweqI, sweqm, sw0add, if_pos, if_neg, if_true, if_false, sw1n0, sw0n1, eq_self, ↓reduceIte, swB_f, swB_t, hd3, hin, m1, g10, c3, c4, l2, hblk, w22, sw0m1, sw1m1, swm10, swm11, hMlt, hdec]
  rw [eq_true hz] at hbk
  have hdec : decide (0 < swBK E M) = false := decide_eq_false (by omega)
  obtain ⟨hr40, hrlt⟩ := sw_room (t1.ag hag2)
  by_cases e40 : nv = 40
  · obtain ⟨q1, q2⟩ := hr40 e40
    refine hno _ _ u1 hR1 ?_ ?_
    · simp (disch := omega) only [swlt_e, swbd_e, swrd_n, swgd_n, nI_clamp, sw8m, sw4m, sw4r, nI_add, nI_1, swsub, swsubn, sw4le, swleI, swltI, sweqI, sweqm, sw0add, if_pos, if_neg, if_true, if_false, sw1n0, sw0n1, eq_self, ↓reduceIte, swck_0, hd2, cm2, s3, cs, sw0m1, sw1m1, swm10, swm11, hMle, p1, cbk, hbk, q1]
      rfl
    · simp (disch := omega) only [swlt_e, swbd_e, swrd_n, swgd_n, nI_clamp, sw8m, sw4m, sw4r, nI_add, nI_1, swsub, swsubn, sw4le, swleI, swltI, sweqI, sweqm, sw0add, if_pos, if_neg, if_true, if_false, sw1n0, sw0n1, eq_self, ↓reduceIte, swB_f, swB_t, hd3, hin, m1, g10, c3, c4, l2, hblk, w22, sw0m1, sw1m1, swm10, swm11, hMlt, hdec, q2]
  obtain ⟨q1, q2⟩ := hrlt (by omega)
  have ca1 := (t4 a ha).2.1
  have cb1 := (t4 b hb).2.1
  obtain ⟨u2, f1, g1, g8⟩ := pc_makeVersion (u := u1) (nv := nv) (b := a) (hb := hd a) (x2 := nI (hd b)) (m := am (hd a)) (mc := am (hd b)) (d := dk (hd a)) (by omega) t1.2.2.1 (by omega) hha ca1 (t6 _ hha).2.2.2.2.2.2 (Or.inr ⟨hd b, hhb, rfl, (t6 _ hhb).2.2.2.2.2.2⟩) (t7 _ hha).1
  obtain ⟨u3, f2, gF, gD⟩ := pc_copyFrom (c := 200 + nv) (c2 := 240) (g1.from240 (by omega) pD) (by omega) (by omega) (by omega)
  have hV := g1.deck (by omega) gF gD
  have hu3 : u3.1 1 a = nI nv := hV.2.2.1
  have g10' : w2.1 10 = w.1 10 := hag2.1 10 (by omega) (by omega)
  obtain ⟨w3, k1, k2, k8⟩ := pm_edits0 (w := swI w2 0 0 0) (nv := nv) (ns := ns) (b := a) (by rw [swI_k (by omega)]; exact (h1.ag hag2).2.2.2) (by omega) (by omega) (by rw [swI_ne (by omega), g10']; exact c3) hha (swmD_ag (swmD_ag am2 hag2) (swAg.t w2 0)) aw hns
  have k22 : w3.1 0 22 = nI M.1 := by
    rw [k2.2.1 22 (by omega) (by omega), swI_k (by omega)]
    exact w22
  obtain ⟨W, hW⟩ : ∃ W, W = swI (swI w3 4 nv (nI (hd b))) 5 nv (nI M.1) := ⟨_, rfl⟩
  have kW := (k2.x2 (nI (hd b)))
  have hq11 := k2.2.2.2.2.2.2.2.2.2.2.1
  have WD : swLd W M := by
    subst hW
    refine ⟨by rw [swI_ne (by omega), swI_ne (by omega)]; exact k22, fun k hk => ?_, fun k hk j hj => ?_⟩
    · rw [swI_ne (by omega), swI_ne (by omega), hq11 23 (by omega), swI_ne (by omega)]
      exact lD.2.1 k hk
    · rw [swI_ne (by omega), swI_ne (by omega), hq11 24 (by omega), swI_ne (by omega)]
      exact lD.2.2 k hk j hj
  obtain ⟨w4, k3, k4, k5⟩ := pm_cp (w := W) (nv := nv) (X := M) (by omega) WD hM8 (by subst hW; exact swI_self) (nI nv)
  have FW : swmF nv (swI w3 4 nv (nI (hd b))) w4 := by
    subst hW
    exact (swmF.i5 nv _ _).tr k4
  have hWn := kW.deck FW k5
  rw [hW] at k3
  refine swOM.mk (c := 0) (r := nI nv) (u' := u3) (b := nI nv) (w' := w4) (t := 0) ?_ ?_ ?_ (by simp) (fun _ => rfl) ?_
  · simp (disch := omega) only [swlt_e, swbd_e, swrd_n, swgd_n, nI_clamp, sw8m, sw4m, sw4r, nI_add, nI_1, swsub, swsubn, sw4le, swleI, swltI, sweqI, sweqm, sw0add, if_pos, if_neg, if_true, if_false, sw1n0, sw0n1, eq_self, ↓reduceIte, swck_0, hd2, cm2, s3, cs, sw0m1, sw1m1, swm10, swm11, hMle, p1, cbk, hbk, q1, cb1, f1, f2, hu3]
  · simp (disch := omega) only [swlt_e, swbd_e, swrd_n, swgd_n, nI_clamp, sw8m, sw4m, sw4r, nI_add, nI_1, swsub, swsubn, sw4le, swleI, swltI, sweqI, sweqm, sw0add, if_pos, if_neg, if_true, if_false, sw1n0, sw0n1, eq_self, ↓reduceIte, swB_f, swB_t, hd3, hin, m1, g10, c3, c4, l2, hblk, w22, sw0m1, sw1m1, swm10, swm11, hMlt, hdec, q2, k1, k22, swI_ne]
    exact k3
  · rw [hWn.2.1 0 (by omega) (by omega), swI_self]
  · have ag := hag2.tr (swAg.t w2 0)
    refine swRl_new (t1.ag ag) (t2.ag ag) (t3.ag ag) (t4.ag ag) (t5.ag ag) (t6.ag ag) hA (t7.ag ag) (t8.ag ag) ha (by omega) (x2 := nI (hd b)) (mc := am (hd b)) (d := M) (ns' := ns) (Or.inr ⟨hd b, hhb, rfl, rfl⟩) (Nat.le_refl _) hns ?_ ?_ hV hWn hMW
    · rw [gF.1 0 (by omega) (by omega) (by omega), g8]
      exact t3.2.1
    · rw [FW.1 0 (by omega) (by omega) (by omega), swI_ne (by omega), k8, swI_k (by omega)]
      exact hag2.2.2.1.trans h3.2.2
theorem op_merge_1 {u w : swU} (h : swRl u w) (x y : Int32) : swOM [(0, 0), (1, 1), (2, 2), (3, 3)] (xx5_merge u x y 1) (mx_merge w x y 1) := by
  have hR := h
  obtain ⟨nv, nb, ns, hd, sh, mo, cm, ot, am, dk, E, h1, h2, h3, h4, h5, h6, hA, h7, h8⟩ := h
  unfold xx5_merge mx_merge
  rcases sw_cas x (n := nb) (by have := h2.2.1; omega) with hx | ⟨a, ha, rfl⟩
  · obtain ⟨e1, e2⟩ := ckB_n h2 hx
    refine swOM.no hR (c := 0) (t := 1) ?_ ?_ (by simp)
    · rw [e1]
      rfl
    · rw [e2]
      rfl
  obtain ⟨e1, e2⟩ := ckB_y h2 ha
  rcases sw_cas y (n := nb) (by have := h2.2.1; omega) with hx | ⟨b, hb, rfl⟩
  · obtain ⟨e3, e4⟩ := ckB_n h2 hx
    refine swOM.no hR (c := 0) (t := 1) ?_ ?_ (by simp)
    · rw [e1, e3]
      rfl
    · rw [e2, e4]
      rfl
  obtain ⟨e3, e4⟩ := ckB_y h2 hb
  rw [e1, e2, e3, e4]
  by_cases hab : a = b
  · have hd2 : xx5_checkDifferent u (nI a) (nI b) = some 2 := if_pos (by rw [hab])
    have hd3 : (nI a = nI b) = True := eq_true (by rw [hab])
    refine swOM.no hR (c := 1) (t := 2) ?_ ?_ (by simp)
    · rw [hd2]
      rfl
    · simp (disch := omega) only [swlt_e, swbd_e, swrd_n, swgd_n, nI_clamp, sw8m, sw4m, sw4r, nI_add, nI_1, swsub, swsubn, sw4le, swleI, swltI, sweqI, sweqm, sw0add, if_pos, if_neg, if_true, if_false, sw1n0, sw0n1, eq_self, ↓reduceIte, swB_f, swB_t, hd3]
  have hb6 := h2.2.1
  have h40 := h1.2.1
  have hns := h3.1
  have s3 := h3.2.1
  have hd2 : xx5_checkDifferent u (nI a) (nI b) = some 0 := if_neg (by rw [nI_eq (by omega) (by omega)]; exact hab)
  have hd3 : (nI a = nI b) = False := eq_false (by rw [nI_eq (by omega) (by omega)]; exact hab)
  have hin : mx_in 1 (-1) 1 = some true := rfl
  obtain ⟨hha, ca, c3⟩ := h4 a ha
  obtain ⟨hhb, cb, c4⟩ := h4 b hb
  have hB := swBS_lt h1.1 am (hd a) (hd b)
  obtain ⟨w1, m1, m2⟩ := pm_baseOf (h1.ag (swAg.t w 0)) (h2.ag (swAg.t w 0)) (h4.ag (swAg.t w 0)) (h6.ag (swAg.t w 0)) hA ha hb
  have hag : swAg w w1 := (swAg.t w 0).tr (swAg_25 m2)
  have cm2 := pc_mergeOf h1 h2 h4 h6 hA ha hb
  obtain ⟨base, hbase⟩ : ∃ base, base = swBS nv am (hd a) (hd b) := ⟨_, rfl⟩
  rw [← hbase] at hB m1 cm2
  obtain ⟨oc, om, ow⟩ := h7 _ hB
  obtain ⟨ac, am2, aw⟩ := h7 _ hha
  obtain ⟨bc, bm, bw⟩ := h7 _ hhb
  have g10 : w1.1 10 = w.1 10 := hag.1 10 (by omega) (by omega)
  obtain ⟨w2, l1, lF, lD⟩ := pm_layDeck (swmD_ag om hag) (swmD_ag am2 hag) (swmD_ag bm hag) aw.1 bw.1 true
  have l2 : mx_layDeck w1 (nI base) (nI (hd a)) (nI (hd b)) 1 = some w2 := l1
  have hag2 : swAg w w2 := hag.tr lF.ag
  have cc := pc_CC oc ac bc hns
  have mc := pm_CC (swmD_ag om hag2) (swmD_ag am2 hag2) (swmD_ag bm hag2) aw.1 bw.1 hns (hag2.2.2.1.trans h3.2.2)
  have ht1 : ((1 : Int32) = 1) = (true = true) := propext ⟨fun _ => rfl, fun _ => rfl⟩
  have cs := pc_CS oc ac bc hns 1 true ht1
  rw [swMM_n aw bw hns] at cs
  obtain ⟨M, hM⟩ : ∃ M, M = swMB (dk base) (dk (hd a)) (dk (hd b)) true (dk (hd b)).1 := ⟨_, rfl⟩
  obtain ⟨C, hC⟩ : ∃ C, C = swCC (dk base) (dk (hd a)) (dk (hd b)) ns := ⟨_, rfl⟩
  have hC5 : C ≤ ns * 5 := by
    rw [hC]
    exact swCC_le _ _ _ _
  have hM16 : M.1 ≤ 16 := by
    have q1 := swMB_16 (dk base) (dk (hd a)) (dk (hd b)) true ac.1 (Nat.le_refl (dk (hd b)).1)
    have q2 := ac.1
    have q3 := bc.1
    rw [hM]
    omega
  have hMW : srW ns M := by
    rw [hM]
    exact (swMB_W aw bw true _ (Nat.le_refl _)).1
  rw [← hM] at cs lD
  rw [← hC] at cc mc
  have hblk := fun KK => pm_blk (swmE_ag h8.2.1 hag2) lD hM16 KK
  have w22 := lD.1
  have hno : ∀ (X : Option (Nat × Int32 × swU)) (Y : Option (Int32 × swU)) (u' : swU), swRl u' w → X = some (3, 0, u') → Y = some (0, swI w2 0 0 3) → swOM [(0, 0), (1, 1), (2, 2), (3, 3)] X Y := fun X Y u' hr hX hY => swOM.mk hX hY swI_self (by simp) (fun z => by cases z) ((hr.ag hag2).ag (swAg.t w2 3))
  have hMle : (nI M.1 ≤ 8) = (M.1 ≤ 8) := by
    rw [show (8 : Int32) = nI 8 from rfl, swleI (by omega) (by omega)]
  have hMlt : (8 < nI M.1) = (8 < M.1) := by
    rw [show (8 : Int32) = nI 8 from rfl, swltI (by omega) (by omega)]
  by_cases hM8 : M.1 ≤ 8
  case neg =>
    rw [eq_false hM8] at hMle
    rw [eq_true (show 8 < M.1 by omega)] at hMlt
    refine hno _ _ u hR ?_ ?_
    · simp (disch := omega) only [swlt_e, swbd_e, swrd_n, swgd_n, nI_clamp, sw8m, sw4m, sw4r, nI_add, nI_1, swsub, swsubn, sw4le, swleI, swltI, sweqI, sweqm, sw0add, if_pos, if_neg, if_true, if_false, sw1n0, sw0n1, eq_self, ↓reduceIte, swck_0, hd2, cm2, s3, cs, sw0m1, sw1m1, swm10, swm11, hMle]
    · simp (disch := omega) only [swlt_e, swbd_e, swrd_n, swgd_n, nI_clamp, sw8m, sw4m, sw4r, nI_add, nI_1, swsub, swsubn, sw4le, swleI, swltI, sweqI, sweqm, sw0add, if_pos, if_neg, if_true, if_false, sw1n0, sw0n1, eq_self, ↓reduceIte, swB_f, swB_t, hd3, hin, m1, g10, c3, c4, l2, hblk, w22, sw0m1, sw1m1, swm10, swm11, hMlt]
  rw [eq_true hM8] at hMle
  rw [eq_false (show ¬ 8 < M.1 by omega)] at hMlt
  obtain ⟨u1, p1, pF, pD⟩ := pc_fill oc ac bc (by omega) (by omega) (by omega) (x := 1) ht1 (by rw [← hM]; exact hM8)
  rw [← hM] at pD
  obtain ⟨t1, t2, t3, t4, t5, t6, t7, t8⟩ := swRl_tr h1 h2 h3 h4 h5 h6 h7 h8 pF
  have hR1 : swRl u1 w := ⟨nv, nb, ns, hd, sh, mo, cm, ot, am, dk, E, t1, t2, t3, t4, t5, t6, hA, t7, t8⟩
  have cbk := pc_countBlocks t8.1 pD
  have hbk := sw_bk0 (E := E) (d := M) h8.1.1 hM8
  by_cases hz : swBK E M = 0
  case neg =>
    rw [eq_false hz] at hbk
    have hdec : decide (0 < swBK E M) = true := decide_eq_true (by omega)
    refine hno _ _ u1 hR1 ?_ ?_
    · simp (disch := omega) only [swlt_e, swbd_e, swrd_n, swgd_n, nI_clamp, sw8m, sw4m, sw4r, nI_add, nI_1, swsub, swsubn, sw4le, swleI, swltI, sweqI, sweqm, sw0add, if_pos, if_neg, if_true, if_false, sw1n0, sw0n1, eq_self, ↓reduceIte, swck_0, hd2, cm2, s3, cs, sw0m1, sw1m1, swm10, swm11, hMle, p1, cbk, hbk]
    · simp (disch := omega) only [swlt_e, swbd_e, swrd_n, swgd_n, nI_clamp, sw8m, sw4m, sw4r, nI_add, nI_1, swsub, swsubn, sw4le, swleI, swltI, sweqI, sweqm, sw0add, if_pos, if_neg, if_true, if_false, sw1n0, sw0n1, eq_self, ↓reduceIte, swB_f, swB_t, hd3, hin, m1, g10, c3, c4, l2, hblk, w22, sw0m1, sw1m1, swm10, swm11, hMlt, hdec]
  rw [eq_true hz] at hbk
  have hdec : decide (0 < swBK E M) = false := decide_eq_false (by omega)
  obtain ⟨hr40, hrlt⟩ := sw_room (t1.ag hag2)
  by_cases e40 : nv = 40
  · obtain ⟨q1, q2⟩ := hr40 e40
    refine hno _ _ u1 hR1 ?_ ?_
    · simp (disch := omega) only [swlt_e, swbd_e, swrd_n, swgd_n, nI_clamp, sw8m, sw4m, sw4r, nI_add, nI_1, swsub, swsubn, sw4le, swleI, swltI, sweqI, sweqm, sw0add, if_pos, if_neg, if_true, if_false, sw1n0, sw0n1, eq_self, ↓reduceIte, swck_0, hd2, cm2, s3, cs, sw0m1, sw1m1, swm10, swm11, hMle, p1, cbk, hbk, q1]
      rfl
    · simp (disch := omega) only [swlt_e, swbd_e, swrd_n, swgd_n, nI_clamp, sw8m, sw4m, sw4r, nI_add, nI_1, swsub, swsubn, sw4le, swleI, swltI, sweqI, sweqm, sw0add, if_pos, if_neg, if_true, if_false, sw1n0, sw0n1, eq_self, ↓reduceIte, swB_f, swB_t, hd3, hin, m1, g10, c3, c4, l2, hblk, w22, sw0m1, sw1m1, swm10, swm11, hMlt, hdec, q2]
  obtain ⟨q1, q2⟩ := hrlt (by omega)
  have ca1 := (t4 a ha).2.1
  have cb1 := (t4 b hb).2.1
  obtain ⟨u2, f1, g1, g8⟩ := pc_makeVersion (u := u1) (nv := nv) (b := a) (hb := hd a) (x2 := nI (hd b)) (m := am (hd a)) (mc := am (hd b)) (d := dk (hd a)) (by omega) t1.2.2.1 (by omega) hha ca1 (t6 _ hha).2.2.2.2.2.2 (Or.inr ⟨hd b, hhb, rfl, (t6 _ hhb).2.2.2.2.2.2⟩) (t7 _ hha).1
  obtain ⟨u3, f2, gF, gD⟩ := pc_copyFrom (c := 200 + nv) (c2 := 240) (g1.from240 (by omega) pD) (by omega) (by omega) (by omega)
  have hV := g1.deck (by omega) gF gD
  have hu3 : u3.1 1 a = nI nv := hV.2.2.1
  have g10' : w2.1 10 = w.1 10 := hag2.1 10 (by omega) (by omega)
  obtain ⟨w3, k1, k2, k8⟩ := pm_edits0 (w := swI w2 0 0 0) (nv := nv) (ns := ns) (b := a) (by rw [swI_k (by omega)]; exact (h1.ag hag2).2.2.2) (by omega) (by omega) (by rw [swI_ne (by omega), g10']; exact c3) hha (swmD_ag (swmD_ag am2 hag2) (swAg.t w2 0)) aw hns
  have k22 : w3.1 0 22 = nI M.1 := by
    rw [k2.2.1 22 (by omega) (by omega), swI_k (by omega)]
    exact w22
  obtain ⟨W, hW⟩ : ∃ W, W = swI (swI w3 4 nv (nI (hd b))) 5 nv (nI M.1) := ⟨_, rfl⟩
  have kW := (k2.x2 (nI (hd b)))
  have hq11 := k2.2.2.2.2.2.2.2.2.2.2.1
  have WD : swLd W M := by
    subst hW
    refine ⟨by rw [swI_ne (by omega), swI_ne (by omega)]; exact k22, fun k hk => ?_, fun k hk j hj => ?_⟩
    · rw [swI_ne (by omega), swI_ne (by omega), hq11 23 (by omega), swI_ne (by omega)]
      exact lD.2.1 k hk
    · rw [swI_ne (by omega), swI_ne (by omega), hq11 24 (by omega), swI_ne (by omega)]
      exact lD.2.2 k hk j hj
  obtain ⟨w4, k3, k4, k5⟩ := pm_cp (w := W) (nv := nv) (X := M) (by omega) WD hM8 (by subst hW; exact swI_self) (nI nv)
  have FW : swmF nv (swI w3 4 nv (nI (hd b))) w4 := by
    subst hW
    exact (swmF.i5 nv _ _).tr k4
  have hWn := kW.deck FW k5
  rw [hW] at k3
  refine swOM.mk (c := 0) (r := nI nv) (u' := u3) (b := nI nv) (w' := w4) (t := 0) ?_ ?_ ?_ (by simp) (fun _ => rfl) ?_
  · simp (disch := omega) only [swlt_e, swbd_e, swrd_n, swgd_n, nI_clamp, sw8m, sw4m, sw4r, nI_add, nI_1, swsub, swsubn, sw4le, swleI, swltI, sweqI, sweqm, sw0add, if_pos, if_neg, if_true, if_false, sw1n0, sw0n1, eq_self, ↓reduceIte, swck_0, hd2, cm2, s3, cs, sw0m1, sw1m1, swm10, swm11, hMle, p1, cbk, hbk, q1, cb1, f1, f2, hu3]
  · simp (disch := omega) only [swlt_e, swbd_e, swrd_n, swgd_n, nI_clamp, sw8m, sw4m, sw4r, nI_add, nI_1, swsub, swsubn, sw4le, swleI, swltI, sweqI, sweqm, sw0add, if_pos, if_neg, if_true, if_false, sw1n0, sw0n1, eq_self, ↓reduceIte, swB_f, swB_t, hd3, hin, m1, g10, c3, c4, l2, hblk, w22, sw0m1, sw1m1, swm10, swm11, hMlt, hdec, q2, k1, k22, swI_ne]
    exact k3
  · rw [hWn.2.1 0 (by omega) (by omega), swI_self]
  · have ag := hag2.tr (swAg.t w2 0)
    refine swRl_new (t1.ag ag) (t2.ag ag) (t3.ag ag) (t4.ag ag) (t5.ag ag) (t6.ag ag) hA (t7.ag ag) (t8.ag ag) ha (by omega) (x2 := nI (hd b)) (mc := am (hd b)) (d := M) (ns' := ns) (Or.inr ⟨hd b, hhb, rfl, rfl⟩) (Nat.le_refl _) hns ?_ ?_ hV hWn hMW
    · rw [gF.1 0 (by omega) (by omega) (by omega), g8]
      exact t3.2.1
    · rw [FW.1 0 (by omega) (by omega) (by omega), swI_ne (by omega), k8, swI_k (by omega)]
      exact hag2.2.2.1.trans h3.2.2
theorem op_merge {u w : swU} (h : swRl u w) (x y z : Int32) : swOM [(0, 0), (1, 1), (2, 2), (3, 3)] (xx5_merge u x y z) (mx_merge w x y z) := by
  by_cases hm : z = -1
  · subst hm
    exact op_merge_m h x y
  by_cases hz0 : z = 0
  · subst hz0
    exact op_merge_0 h x y
  by_cases hz1 : z = 1
  · subst hz1
    exact op_merge_1 h x y
  have hR := h
  obtain ⟨nv, nb, ns, hd, sh, mo, cm, ot, am, dk, E, h1, h2, h3, h4, h5, h6, hA, h7, h8⟩ := h
  unfold xx5_merge mx_merge
  rcases sw_cas x (n := nb) (by have := h2.2.1; omega) with hx | ⟨a, ha, rfl⟩
  · obtain ⟨e1, e2⟩ := ckB_n h2 hx
    refine swOM.no hR (c := 0) (t := 1) ?_ ?_ (by simp)
    · rw [e1]
      rfl
    · rw [e2]
      rfl
  obtain ⟨e1, e2⟩ := ckB_y h2 ha
  rcases sw_cas y (n := nb) (by have := h2.2.1; omega) with hx | ⟨b, hb, rfl⟩
  · obtain ⟨e3, e4⟩ := ckB_n h2 hx
    refine swOM.no hR (c := 0) (t := 1) ?_ ?_ (by simp)
    · rw [e1, e3]
      rfl
    · rw [e2, e4]
      rfl
  obtain ⟨e3, e4⟩ := ckB_y h2 hb
  rw [e1, e2, e3, e4]
  by_cases hab : nI a = nI b
  · have hd2 : xx5_checkDifferent u (nI a) (nI b) = some 2 := if_pos hab
    refine swOM.no hR (c := 1) (t := 2) ?_ ?_ (by simp)
    · rw [hd2]
      rfl
    · simp (disch := omega) only [swlt_e, swbd_e, swrd_n, swgd_n, nI_clamp, sw8m, sw4m, sw4r, nI_add, nI_1, swsub, swsubn, sw4le, swleI, swltI, sweqI, sweqm, sw0add, if_pos, if_neg, if_true, if_false, sw1n0, sw0n1, eq_self, ↓reduceIte, swB_f, swB_t, hab]
  have hd2 : xx5_checkDifferent u (nI a) (nI b) = some 0 := if_neg hab
  have hin : mx_in z (-1) 1 = some false := by
    unfold mx_in
    by_cases q1 : z < -1
    · rw [if_pos q1]
    · rw [if_neg q1, if_pos]
      by_cases q2 : z < 0
      · exfalso
        have i1 := Int32.lt_iff_toInt_lt.mp q2
        have i2 : ¬ z.toInt < (-1 : Int32).toInt := fun q => q1 (Int32.lt_iff_toInt_lt.mpr q)
        have i3 : (-1 : Int32).toInt = -1 := rfl
        have i4 : (0 : Int32).toInt = 0 := rfl
        exact hm (Int32.toInt_inj.mp (by omega))
      · obtain ⟨j, hj, rfl⟩ := nI_of q2
        rw [show (1 : Int32) = nI 1 from rfl, nI_ltI (by omega) hj]
        have j0 : j ≠ 0 := fun q => hz0 (by rw [q]; rfl)
        have j1 : j ≠ 1 := fun q => hz1 (by rw [q]; rfl)
        omega
  refine swOM.no hR (c := 1) (t := 2) ?_ ?_ (by simp)
  · simp (disch := omega) only [swlt_e, swbd_e, swrd_n, swgd_n, nI_clamp, sw8m, sw4m, sw4r, nI_add, nI_1, swsub, swsubn, sw4le, swleI, swltI, sweqI, sweqm, sw0add, if_pos, if_neg, if_true, if_false, sw1n0, sw0n1, eq_self, ↓reduceIte, swck_0, hd2, hz0, hz1, hm]
  · simp (disch := omega) only [swlt_e, swbd_e, swrd_n, swgd_n, nI_clamp, sw8m, sw4m, sw4r, nI_add, nI_1, swsub, swsubn, sw4le, swleI, swltI, sweqI, sweqm, sw0add, if_pos, if_neg, if_true, if_false, sw1n0, sw0n1, eq_self, ↓reduceIte, swB_f, swB_t, hab, hin]
