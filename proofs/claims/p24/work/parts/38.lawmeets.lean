/-! ===== meets: a slide of a merge as a packed number, its clashes above it ===== -/
theorem swits_no {d : swD} {s : Nat} (h : swhas d (nI s) = false) : swits d s = 0 := by
  unfold swits
  rw [h]
  rfl
theorem swits_yes {d : swD} {s : Nat} (h : swhas d (nI s) = true) : swits d s = swpk (swvn d s 0) (swvn d s 1) (swvn d s 2) (swvn d s 3) := by
  unfold swits
  rw [if_pos h]
theorem srV_vn {d : swD} (vd : srV d) {s : Nat} (h : swhas d (nI s) = true) {j : Nat} (hj : j < 4) : swvn d s j < 1000 ∧ swval d (nI s) j = nI (swvn d s j) := by
  obtain ⟨x, hx, e⟩ := vd _ (swpI_h h).2 j hj
  have e2 : swval d (nI s) j = nI x := e
  have e3 : swvn d s j = x := by
    unfold swvn
    rw [e2, nI_clamp (by omega)]
  rw [e3]
  exact ⟨hx, e2⟩
theorem swits_lt {d : swD} (vd : srV d) (s : Nat) : swits d s < 2 ^ 41 ∧ (swits d s = 0 ↔ swhas d (nI s) = false) := by
  cases h : swhas d (nI s)
  · rw [swits_no h]
    exact ⟨by decide, fun _ => rfl, fun _ => rfl⟩
  · rw [swits_yes h]
    have := swpk_lt (Nat.lt_trans (srV_vn vd h (j := 0) (by omega)).1 (by decide)) (Nat.lt_trans (srV_vn vd h (j := 1) (by omega)).1 (by decide)) (Nat.lt_trans (srV_vn vd h (j := 2) (by omega)).1 (by decide)) (Nat.lt_trans (srV_vn vd h (j := 3) (by omega)).1 (by decide))
    refine ⟨this.1, fun z => ?_, fun z => by cases z⟩
    have := this.2
    omega
theorem swits_val {d : swD} (vd : srV d) {s : Nat} (h : swhas d (nI s) = true) {j : Nat} (hj : j < 4) : lx_value (lN (swits d s)) (nI j) = some (swval d (nI s) j) := by
  have hl := (swits_lt vd s).1
  rw [la_value (by omega) hj, (srV_vn vd h hj).2, swits_yes h]
  have := swpk_at (v := swvn d s) (fun o ho => Nat.lt_trans (srV_vn vd h ho).1 (by decide)) hj 0
  rw [Nat.mul_zero, Nat.add_zero] at this
  rw [this]
theorem swits_eq {A B : swD} (vA : srV A) (vB : srV B) {s : Nat} (hA : swhas A (nI s) = true) (hB : swhas B (nI s) = true) : swits A s = swits B s ↔ ∀ j, j < 4 → swval A (nI s) j = swval B (nI s) j := by
  rw [swits_yes hA, swits_yes hB]
  constructor
  · intro e j hj
    have := swpk_inj (v := swvn A s) (w := swvn B s) (fun o ho => Nat.lt_trans (srV_vn vA hA ho).1 (by decide)) (fun o ho => Nat.lt_trans (srV_vn vB hB ho).1 (by decide)) e j hj
    rw [(srV_vn vA hA hj).2, (srV_vn vB hB hj).2, this]
  · intro h
    have : ∀ j, j < 4 → swvn A s j = swvn B s j := fun j hj => by
      unfold swvn
      rw [h j hj]
    rw [this 0 (by omega), this 1 (by omega), this 2 (by omega), this 3 (by omega)]
theorem swalk_its {A B : swD} (vA : srV A) (vB : srV B) {s : Nat} (hA : swhas A (nI s) = true) (hB : swhas B (nI s) = true) : swits A s = swits B s ↔ swalk A B (nI s) = true := by
  rw [swits_eq vA vB hA hB]
  unfold swalk
  rw [sw_all_iff]
  exact ⟨fun h j hj => decide_eq_true (h j hj), fun h j hj => of_decide_eq_true (h j hj)⟩
def swkv (O A B : swD) (s : Nat) (t : Bool) (j : Nat) : Nat := (swKV O A B (nI s) j t).toNatClampNeg
def swmt (O A B : swD) (s : Nat) (t : Bool) : Nat := if swKP O A B (nI s) t = true then swpk (swkv O A B s t 0) (swkv O A B s t 1) (swkv O A B s t 2) (swkv O A B s t 3) else 0
def swcc (O A B : swD) (s : Nat) : Nat := (if swSC O A B (nI s) = true then 1 else 0) + sw_cnt 4 (fun j => swOC O A B (nI s) j)
theorem swVO_y {d : swD} {s : Int32} (h : swhas d s = true) (j : Nat) : swVO d s j = swval d s j := if_pos h
theorem swVO_n {d : swD} {s : Int32} (h : swhas d s = false) (j : Nat) : swVO d s j = -1 := if_neg (by rw [h]; decide)
def lmv (va vb vo x6 : Int32) : Int32 := if va = vb then va else if vo = vb then va else if vo = va then vb else if x6 = 0 then vb else va
def lmc (va vb vo : Int32) : Nat := if va = vb then 0 else if vo = va then 0 else if vo = vb then 0 else 1
theorem la_mstep {x0 x2 x4 : Int64} {x6 : Int32} {j : Nat} (hj : j < 4) {va vb vo : Int32} (e2 : lx_value x2 (nI j) = some va) (e4 : lx_value x4 (nI j) = some vb) (hO : (lg_cmp x0 (0 : Int64) = 0 ∧ ¬ vo = va ∧ ¬ vo = vb) ∨ (¬ lg_cmp x0 (0 : Int64) = 0 ∧ lx_value x0 (nI j) = some vo)) (KK : Int64 → Int64 → Int32 → Option Int64) (f : Nat) (p q : Int64) : lx_meets_L86 x0 x2 x4 x6 KK (f + 1) p q (nI j) = lx_meets_L86 x0 x2 x4 x6 KK f (p + lyshl (Int32.toInt64 (lmv va vb vo x6)) ((10 : Int32) * nI j)) (q + lN (lmc va vb vo)) (nI (j + 1)) := by
  have l0 : lN 0 = 0 := rfl
  have l1 : lN 1 = 1 := rfl
  have n0 : ((0 : Int32) = 0) = True := eq_true rfl
  rw [lx_meets_L86, if_neg (by rw [show (4 : Int32) = nI 4 from rfl, nI_leI (by omega) (by omega)]; omega), e2, e4]
  simp only [swbd_e, swjn_e, swlt_e, nI_1]
  unfold lmv lmc
  rcases hO with ⟨o1, o2, o3⟩ | ⟨o1, o2⟩
  · simp only [if_pos o1, if_neg o2, if_neg o3, n0, if_true]
    by_cases h1 : va = vb
    · simp only [if_pos h1, l0]
    · simp only [if_neg h1, l1]
      by_cases h6 : x6 = 0
      · simp only [if_pos h6]
      · simp only [if_neg h6]
  · simp only [if_neg o1, o2, swbd_e]
    by_cases h2 : vo = va
    · by_cases h3 : vo = vb
      · have h1 : va = vb := h2.symm.trans h3
        simp only [if_pos h2, if_pos h3, if_pos h1, sw1n0, if_false, l0]
      · have h1 : ¬ va = vb := fun z => h3 (h2.trans z)
        simp only [if_pos h2, if_neg h3, if_neg h1, sw1n0, n0, if_false, if_true, l0]
    · by_cases h3 : vo = vb
      · have h1 : ¬ va = vb := fun z => h2 (h3.trans z.symm)
        simp only [if_neg h2, if_pos h3, if_neg h1, sw1n0, n0, if_false, if_true, l0]
      · by_cases h1 : va = vb
        · simp only [if_neg h2, if_neg h3, if_pos h1, n0, if_true, l0]
        · simp only [if_neg h2, if_neg h3, if_neg h1, n0, if_true, l1]
          by_cases h6 : x6 = 0
          · simp only [if_pos h6]
          · simp only [if_neg h6]
theorem lmv_KV {O A B : swD} {s : Nat} (hA : swhas A (nI s) = true) (hB : swhas B (nI s) = true) {x6 : Int32} {t : Bool} (ht : (x6 = 0) = (t = true)) (j : Nat) : lmv (swval A (nI s) j) (swval B (nI s) j) (swVO O (nI s) j) x6 = swKV O A B (nI s) j t ∧ lmc (swval A (nI s) j) (swval B (nI s) j) (swVO O (nI s) j) = (if swOC O A B (nI s) j = true then 1 else 0) := by
  unfold swKV swOC lmv lmc
  rw [hA, hB]
  generalize swval A (nI s) j = a
  generalize swval B (nI s) j = b
  generalize swVO O (nI s) j = o
  have bt : (true = false) = False := eq_false (by decide)
  have bf : (false = true) = False := eq_false (by decide)
  simp only [bt, if_false, if_true]
  by_cases h1 : a = b
  · simp only [if_pos h1, if_true, bf, if_false]
    refine ⟨?_, trivial⟩
    by_cases h2 : a = o
    · rw [if_pos h2, h1]
    · rw [if_neg h2]
  · simp only [if_neg h1]
    by_cases h2 : a = o
    · have h2' : o = a := h2.symm
      have h3 : ¬ o = b := fun z => h1 (h2.trans z)
      simp only [if_pos h2, if_pos h2', if_neg h3, if_true, bf, if_false, and_self]
    · have h2' : ¬ o = a := fun z => h2 z.symm
      simp only [if_neg h2, if_neg h2']
      by_cases h3 : b = o
      · have h3' : o = b := h3.symm
        simp only [if_pos h3, if_pos h3', if_true, bf, if_false, and_self]
      · have h3' : ¬ o = b := fun z => h3 z.symm
        simp only [if_neg h3, if_neg h3', bt, if_false, if_true]
        refine ⟨?_, trivial⟩
        by_cases h6 : t = true
        · rw [if_pos h6, if_pos (by rw [ht]; exact h6)]
        · rw [if_neg h6, if_neg (by rw [ht]; exact h6)]
theorem swkv_nn {O A B : swD} (vA : srV A) (vB : srV B) {s : Nat} {t : Bool} (h : swKP O A B (nI s) t = true) {j : Nat} (hj : j < 4) : swkv O A B s t j < 1000 ∧ swKV O A B (nI s) j t = nI (swkv O A B s t j) := by
  have key : ∀ x : Nat, x < 1000 → swKV O A B (nI s) j t = nI x → swkv O A B s t j < 1000 ∧ swKV O A B (nI s) j t = nI (swkv O A B s t j) := fun x hx e => by
    unfold swkv
    rw [e, nI_clamp (by omega)]
    exact ⟨hx, rfl⟩
  have hor : swhas A (nI s) = true ∨ swhas B (nI s) = true := by
    unfold swKP at h
    cases hA : swhas A (nI s)
    · cases hB : swhas B (nI s)
      · rw [hA, hB] at h
        simp at h
      · exact Or.inr rfl
    · exact Or.inl rfl
  cases hA : swhas A (nI s)
  · have hB : swhas B (nI s) = true := by
      rcases hor with z | z
      · rw [hA] at z
        cases z
      · exact z
    obtain ⟨q1, q2⟩ := srV_vn vB hB hj
    refine key _ q1 ?_
    unfold swKV
    rw [hA, hB, if_neg (by decide), if_pos rfl, swVO_y hB]
    exact q2
  · obtain ⟨p1, p2⟩ := srV_vn vA hA hj
    cases hB : swhas B (nI s)
    · refine key _ p1 ?_
      unfold swKV
      rw [hB, if_pos rfl, swVO_y hA]
      exact p2
    · obtain ⟨q1, q2⟩ := srV_vn vB hB hj
      have e := (lmv_KV (O := O) hA hB (x6 := if t = true then 0 else 1) (t := t) (by cases t <;> simp) j).1
      rw [← e]
      have hc : lmv (swval A (nI s) j) (swval B (nI s) j) (swVO O (nI s) j) (if t = true then 0 else 1) = swval A (nI s) j ∨ lmv (swval A (nI s) j) (swval B (nI s) j) (swVO O (nI s) j) (if t = true then 0 else 1) = swval B (nI s) j := by
        generalize (if t = true then (0 : Int32) else 1) = x6
        unfold lmv
        by_cases h1 : swval A (nI s) j = swval B (nI s) j
        · rw [if_pos h1]
          exact Or.inl rfl
        · rw [if_neg h1]
          by_cases h2 : swVO O (nI s) j = swval B (nI s) j
          · rw [if_pos h2]
            exact Or.inl rfl
          · rw [if_neg h2]
            by_cases h3 : swVO O (nI s) j = swval A (nI s) j
            · rw [if_pos h3]
              exact Or.inr rfl
            · rw [if_neg h3]
              by_cases h4 : x6 = 0
              · rw [if_pos h4]
                exact Or.inr rfl
              · rw [if_neg h4]
                exact Or.inl rfl
      rw [e] at hc
      rw [e]
      rcases hc with hc | hc
      · exact key _ p1 (hc.trans p2)
      · exact key _ q1 (hc.trans q2)
theorem sw_cnt4 (p : Nat → Bool) : sw_cnt 4 p ≤ 4 := sw_cnt_le p 4
theorem swcc_le (O A B : swD) (s : Nat) : swcc O A B s ≤ 5 := by
  unfold swcc
  have := sw_cnt4 (fun j => swOC O A B (nI s) j)
  by_cases h : swSC O A B (nI s) = true
  · rw [if_pos h]
    omega
  · rw [if_neg h]
    omega
theorem swmt_lt {O A B : swD} (vA : srV A) (vB : srV B) (s : Nat) (t : Bool) : swmt O A B s t < 2 ^ 41 ∧ (swmt O A B s t = 0 ↔ swKP O A B (nI s) t = false) := by
  unfold swmt
  cases h : swKP O A B (nI s) t
  · rw [if_neg (by decide)]
    exact ⟨by decide, fun _ => rfl, fun _ => rfl⟩
  · rw [if_pos rfl]
    have := swpk_lt (Nat.lt_trans (swkv_nn vA vB h (j := 0) (by omega)).1 (by decide)) (Nat.lt_trans (swkv_nn vA vB h (j := 1) (by omega)).1 (by decide)) (Nat.lt_trans (swkv_nn vA vB h (j := 2) (by omega)).1 (by decide)) (Nat.lt_trans (swkv_nn vA vB h (j := 3) (by omega)).1 (by decide))
    refine ⟨this.1, fun z => ?_, fun z => by cases z⟩
    have := this.2
    omega
theorem swkv_one {O A B : swD} {s : Nat} {t : Bool} {j : Nat} {X : swD} (e : swKV O A B (nI s) j t = swval X (nI s) j) : swkv O A B s t j = swvn X s j := by
  unfold swkv swvn
  rw [e]
theorem la_mloop {O A B : swD} (vO : srV O) (vA : srV A) (vB : srV B) {s : Nat} (hA : swhas A (nI s) = true) (hB : swhas B (nI s) = true) {x6 : Int32} {t : Bool} (ht : (x6 = 0) = (t = true)) (KK : Int64 → Int64 → Int32 → Option Int64) : lx_meets_L86 (lN (swits O s)) (lN (swits A s)) (lN (swits B s)) x6 KK 64 (1099511627776 : Int64) (0 : Int64) 0 = KK (lN (swpk (swkv O A B s t 0) (swkv O A B s t 1) (swkv O A B s t 2) (swkv O A B s t 3))) (lN (sw_cnt 4 (fun j => swOC O A B (nI s) j))) (nI 4) := by
  have hK : swKP O A B (nI s) t = true := by
    unfold swKP
    rw [hA, hB]
    simp
  have hlO := (swits_lt vO s).1
  have step : ∀ (j : Nat), j < 4 → ∀ (f P C : Nat), lx_meets_L86 (lN (swits O s)) (lN (swits A s)) (lN (swits B s)) x6 KK (f + 1) (lN P) (lN C) (nI j) = lx_meets_L86 (lN (swits O s)) (lN (swits A s)) (lN (swits B s)) x6 KK f (lN (P + swkv O A B s t j * 2 ^ (10 * j))) (lN (C + (if swOC O A B (nI s) j = true then 1 else 0))) (nI (j + 1)) := fun j hj f P C => by
    obtain ⟨m1, m2⟩ := lmv_KV (O := O) hA hB ht j
    obtain ⟨k1, k2⟩ := swkv_nn vA vB hK hj
    have hOO : (lg_cmp (lN (swits O s)) (0 : Int64) = 0 ∧ ¬ swVO O (nI s) j = swval A (nI s) j ∧ ¬ swVO O (nI s) j = swval B (nI s) j) ∨ (¬ lg_cmp (lN (swits O s)) (0 : Int64) = 0 ∧ lx_value (lN (swits O s)) (nI j) = some (swVO O (nI s) j)) := by
      cases hO : swhas O (nI s)
      · refine Or.inl ⟨by rw [la_cmp0 (by omega)]; exact swits_no hO, ?_, ?_⟩
        · rw [swVO_n hO, (srV_vn vA hA hj).2]
          intro z
          have h := (srV_vn vA hA hj).1
          have := sweqm (a := swvn A s j) (by omega)
          exact absurd z.symm (by rw [this]; exact id)
        · rw [swVO_n hO, (srV_vn vB hB hj).2]
          intro z
          have h := (srV_vn vB hB hj).1
          have := sweqm (a := swvn B s j) (by omega)
          exact absurd z.symm (by rw [this]; exact id)
      · refine Or.inr ⟨by rw [la_cmp0 (by omega), (swits_lt vO s).2, hO]; decide, ?_⟩
        rw [swits_val vO hO hj, swVO_y hO]
    rw [la_mstep hj (swits_val vA hA hj) (swits_val vB hB hj) hOO KK f, m1, m2, k2, nI_l (by omega), show ((10 : Int32) * nI j) = nI (10 * j) from pk_mul 10 j, la_lshl _ (by omega), lN_add, lN_add]
  have e0 := step 0 (by omega) 63 1099511627776 0
  have e1 := step 1 (by omega) 62 (1099511627776 + swkv O A B s t 0 * 2 ^ (10 * 0)) (0 + (if swOC O A B (nI s) 0 = true then 1 else 0))
  have e2 := step 2 (by omega) 61 (1099511627776 + swkv O A B s t 0 * 2 ^ (10 * 0) + swkv O A B s t 1 * 2 ^ (10 * 1)) (0 + (if swOC O A B (nI s) 0 = true then 1 else 0) + (if swOC O A B (nI s) 1 = true then 1 else 0))
  have e3 := step 3 (by omega) 60 (1099511627776 + swkv O A B s t 0 * 2 ^ (10 * 0) + swkv O A B s t 1 * 2 ^ (10 * 1) + swkv O A B s t 2 * 2 ^ (10 * 2)) (0 + (if swOC O A B (nI s) 0 = true then 1 else 0) + (if swOC O A B (nI s) 1 = true then 1 else 0) + (if swOC O A B (nI s) 2 = true then 1 else 0))
  refine (e0.trans (e1.trans (e2.trans e3))).trans ?_
  show lx_meets_L86 _ _ _ _ KK (59 + 1) _ _ (nI 4) = _
  rw [lx_meets_L86, if_pos (by decide)]
  congr 2
  unfold swpk
  omega
theorem la_meets {O A B : swD} (vO : srV O) (vA : srV A) (vB : srV B) (s : Nat) {x6 : Int32} {t : Bool} (ht : (x6 = 0) = (t = true)) : lx_meets (lN (swits O s)) (lN (swits A s)) (lN (swits B s)) x6 = some (lN (swmt O A B s t + 2 ^ 41 * swcc O A B s)) := by
  have lO := swits_lt vO s
  have lA := swits_lt vA s
  have lB := swits_lt vB s
  have c0 : ∀ p : Nat → Bool, (∀ j, j < 4 → p j = false) → sw_cnt 4 p = 0 := fun p h => sw_cnt_no 4 h
  have cmpA : (lg_cmp (lN (swits A s)) (0 : Int64) = 0) = (swits A s = 0) := la_cmp0 (by omega)
  have cmpB : (lg_cmp (lN (swits B s)) (0 : Int64) = 0) = (swits B s = 0) := la_cmp0 (by omega)
  have cmpO : (lg_cmp (lN (swits O s)) (0 : Int64) = 0) = (swits O s = 0) := la_cmp0 (by omega)
  have cmpAB : (lg_cmp (lN (swits A s)) (lN (swits B s)) = 0) = (swits A s = swits B s) := la_cmp (by omega) (by omega)
  have cmpS : (lg_cmp (lN (swits A s) + lN (swits B s)) (lN (swits O s)) = 0) = (swits A s + swits B s = swits O s) := by
    rw [lN_add]
    exact la_cmp (by omega) (by omega)
  have l41 : (2199023255552 : Int64) = lN (2 ^ 41) := rfl
  unfold lx_meets
  cases hA : swhas A (nI s)
  · have zA := swits_no hA
    cases hB : swhas B (nI s)
    · -- neither
      have zB := swits_no hB
      rw [if_pos (by rw [cmpAB]; omega)]
      have hk : swmt O A B s t = 0 := (swmt_lt vA vB s t).2.mpr (by unfold swKP; rw [hA, hB]; rfl)
      have hc : swcc O A B s = 0 := by
        unfold swcc
        rw [c0 _ (fun j _ => by unfold swOC; rw [hA]; rfl), if_neg (by rw [show swSC O A B (nI s) = false by unfold swSC; rw [hA, hB]; rfl]; decide)]
      rw [hk, hc, zA]
    · -- theirs alone
      have zB : ¬ swits B s = 0 := fun z => by rw [lB.2, hB] at z; cases z
      rw [if_neg (by rw [cmpAB]; omega)]
      have hocc : sw_cnt 4 (fun j => swOC O A B (nI s) j) = 0 := c0 _ (fun j _ => by unfold swOC; rw [hA]; rfl)
      have hkv : ∀ j, swkv O A B s t j = swvn B s j := fun j => swkv_one (by unfold swKV; rw [hA, hB, if_neg (by decide), if_pos rfl, swVO_y hB])
      cases hO : swhas O (nI s)
      · have zO := swits_no hO
        rw [if_pos (by rw [cmpO]; exact zO), if_pos (by rw [cmpA]; exact zA), lN_add]
        have hK : swKP O A B (nI s) t = true := by
          unfold swKP
          rw [hA, hB, hO]
          rfl
        have hc : swcc O A B s = 0 := by
          unfold swcc
          rw [hocc, if_neg (by rw [show swSC O A B (nI s) = false by unfold swSC; rw [hA, hB, hO]; rfl]; decide)]
        unfold swmt
        rw [if_pos hK, hc, hkv, hkv, hkv, hkv, ← swits_yes hB, zA]
        congr 2
        omega
      · have zO : ¬ swits O s = 0 := fun z => by rw [lO.2, hO] at z; cases z
        rw [if_neg (by rw [cmpO]; exact zO), if_pos (by rw [cmpA]; exact zA)]
        have hal := swalk_its vB vO hB hO
        by_cases hs : swits B s = swits O s
        · rw [if_pos (by rw [cmpS]; omega)]
          have hSC : swSC O A B (nI s) = false := by
            unfold swSC
            rw [hA, hB, hO, hal.mp hs]
            rfl
          have hk : swmt O A B s t = 0 := (swmt_lt vA vB s t).2.mpr (by unfold swKP; rw [hA, hB, hO, hSC]; rfl)
          have hc : swcc O A B s = 0 := by
            unfold swcc
            rw [hocc, hSC]
            rfl
          rw [hk, hc]
          rfl
        · rw [if_neg (by rw [cmpS]; omega), swjn_e, zA]
          have hw : swalk B O (nI s) = false := by
            cases hq : swalk B O (nI s)
            · rfl
            · exact absurd (hal.mpr hq) hs
          have hSC : swSC O A B (nI s) = true := by
            unfold swSC
            rw [hA, hB, hO, hw]
            rfl
          have hc : swcc O A B s = 1 := by
            unfold swcc
            rw [hocc, if_pos hSC]
          rw [hc]
          cases ht2 : t
          · rw [if_neg (by rw [ht, ht2]; decide)]
            show some (lN 0 + (2199023255552 : Int64)) = _
            rw [l41, lN_add]
            have hk : swmt O A B s false = 0 := (swmt_lt vA vB s false).2.mpr (by unfold swKP; rw [hA, hB, hO, hSC]; rfl)
            rw [hk]
          · rw [if_pos (by rw [ht, ht2])]
            show some (lN (swits B s) + (2199023255552 : Int64)) = _
            rw [l41, lN_add]
            have hK : swKP O A B (nI s) true = true := by
              unfold swKP
              rw [hA, hB, hO, hSC]
              rfl
            unfold swmt
            subst ht2
            rw [if_pos hK, hkv, hkv, hkv, hkv, ← swits_yes hB]
  · have zA : ¬ swits A s = 0 := fun z => by rw [lA.2, hA] at z; cases z
    cases hB : swhas B (nI s)
    · -- ours alone
      have zB := swits_no hB
      rw [if_neg (by rw [cmpAB]; omega)]
      have hocc : sw_cnt 4 (fun j => swOC O A B (nI s) j) = 0 := c0 _ (fun j _ => by unfold swOC; rw [hA, hB]; rfl)
      have hkv : ∀ j, swkv O A B s t j = swvn A s j := fun j => swkv_one (by unfold swKV; rw [hB, if_pos rfl, swVO_y hA])
      cases hO : swhas O (nI s)
      · have zO := swits_no hO
        rw [if_pos (by rw [cmpO]; exact zO), if_neg (by rw [cmpA]; exact zA), if_pos (by rw [cmpB]; exact zB), lN_add]
        have hK : swKP O A B (nI s) t = true := by
          unfold swKP
          rw [hA, hB, hO]
          rfl
        have hc : swcc O A B s = 0 := by
          unfold swcc
          rw [hocc, if_neg (by rw [show swSC O A B (nI s) = false by unfold swSC; rw [hA, hB, hO]; rfl]; decide)]
        unfold swmt
        rw [if_pos hK, hc, hkv, hkv, hkv, hkv, ← swits_yes hA, zB]
      · have zO : ¬ swits O s = 0 := fun z => by rw [lO.2, hO] at z; cases z
        rw [if_neg (by rw [cmpO]; exact zO), if_neg (by rw [cmpA]; exact zA), if_pos (by rw [cmpB]; exact zB)]
        have hal := swalk_its vA vO hA hO
        by_cases hs : swits A s = swits O s
        · rw [if_pos (by rw [cmpS]; omega)]
          have hSC : swSC O A B (nI s) = false := by
            unfold swSC
            rw [hA, hB, hO, hal.mp hs]
            rfl
          have hk : swmt O A B s t = 0 := (swmt_lt vA vB s t).2.mpr (by unfold swKP; rw [hA, hB, hO, hSC]; rfl)
          have hc : swcc O A B s = 0 := by
            unfold swcc
            rw [hocc, hSC]
            rfl
          rw [hk, hc]
          rfl
        · rw [if_neg (by rw [cmpS]; omega), swjn_e, zB]
          have hw : swalk A O (nI s) = false := by
            cases hq : swalk A O (nI s)
            · rfl
            · exact absurd (hal.mpr hq) hs
          have hSC : swSC O A B (nI s) = true := by
            unfold swSC
            rw [hA, hB, hO, hw]
            rfl
          have hc : swcc O A B s = 1 := by
            unfold swcc
            rw [hocc, if_pos hSC]
          rw [hc]
          cases ht2 : t
          · rw [if_neg (by rw [ht, ht2]; decide)]
            show some (lN (swits A s) + (2199023255552 : Int64)) = _
            rw [l41, lN_add]
            have hK : swKP O A B (nI s) false = true := by
              unfold swKP
              rw [hA, hB, hO, hSC]
              rfl
            unfold swmt
            subst ht2
            rw [if_pos hK, hkv, hkv, hkv, hkv, ← swits_yes hA]
          · rw [if_pos (by rw [ht, ht2])]
            show some (lN 0 + (2199023255552 : Int64)) = _
            rw [l41, lN_add]
            have hk : swmt O A B s true = 0 := (swmt_lt vA vB s true).2.mpr (by unfold swKP; rw [hA, hB, hO, hSC]; rfl)
            rw [hk]
    · -- both
      have zB : ¬ swits B s = 0 := fun z => by rw [lB.2, hB] at z; cases z
      have hK : swKP O A B (nI s) t = true := by
        unfold swKP
        rw [hA, hB]
        rfl
      have hSC : swSC O A B (nI s) = false := by
        unfold swSC
        rw [hA, hB]
        rfl
      by_cases hs : swits A s = swits B s
      · rw [if_pos (by rw [cmpAB]; exact hs)]
        have hv := (swits_eq vA vB hA hB).mp hs
        have hoc : ∀ j, j < 4 → swOC O A B (nI s) j = false := fun j hj => by
          unfold swOC
          rw [hA, hB, if_pos rfl, if_pos rfl, if_pos (hv j hj)]
        have hc : swcc O A B s = 0 := by
          unfold swcc
          rw [c0 _ hoc, hSC]
          rfl
        have hkv : ∀ j, j < 4 → swkv O A B s t j = swvn A s j := fun j hj => swkv_one (by
          unfold swKV
          rw [hA, hB, if_neg (by decide), if_neg (by decide), hoc j hj, if_pos rfl]
          by_cases h : swval A (nI s) j = swVO O (nI s) j
          · rw [if_pos h]
            exact (hv j hj).symm
          · rw [if_neg h])
        unfold swmt
        rw [if_pos hK, hc, hkv 0 (by omega), hkv 1 (by omega), hkv 2 (by omega), hkv 3 (by omega), ← swits_yes hA, Nat.mul_zero, Nat.add_zero]
      · rw [if_neg (by rw [cmpAB]; exact hs)]
        have hloop := la_mloop vO vA vB hA hB ht (fun v7 v9 v11 => some ((v7 + (lyshl v9 41))))
        have hfin : (fun (v7 v9 : Int64) (v11 : Int32) => some ((v7 + (lyshl v9 41)))) (lN (swpk (swkv O A B s t 0) (swkv O A B s t 1) (swkv O A B s t 2) (swkv O A B s t 3))) (lN (sw_cnt 4 (fun j => swOC O A B (nI s) j))) (nI 4) = some (lN (swmt O A B s t + 2 ^ 41 * swcc O A B s)) := by
          show some (_ + lyshl _ 41) = _
          rw [show (41 : Int32) = nI 41 from rfl, la_lshl _ (by omega), lN_add]
          unfold swmt swcc
          rw [if_pos hK, hSC, if_neg (by decide), Nat.zero_add, Nat.mul_comm]
        by_cases zO : swits O s = 0
        · rw [if_pos (by rw [cmpO]; exact zO), if_neg (by rw [cmpA]; exact zA), if_neg (by rw [cmpB]; exact zB), if_neg (by rw [cmpA]; exact zA), if_neg (by rw [cmpB]; exact zB)]
          exact hloop.trans hfin
        · rw [if_neg (by rw [cmpO]; exact zO), if_neg (by rw [cmpA]; exact zA), if_neg (by rw [cmpB]; exact zB)]
          exact hloop.trans hfin
