/-! ===== the merged deck: its rows; the class's merge ===== -/
section MROWS
variable {O A B : swD} {t : Bool}
def mrow (O A B : swD) (t : Bool) (X : swD) : Prop := ∀ k, k < X.1 → swKP O A B (X.2.1 k) t = true ∧ ∀ o, X.2.2 k o = swKV O A B (X.2.1 k) o t
theorem mrow_ap {X : swD} {s : Int32} (h : mrow O A B t X) (hs : swKP O A B s t = true) : mrow O A B t (swAp X s (fun j => swKV O A B s j t)) := fun k hk => by
  have hk : k < X.1 + 1 := hk
  by_cases e : k = X.1
  · have e1 : (swAp X s (fun j => swKV O A B s j t)).2.1 k = s := if_pos e
    have e2 : ∀ o, (swAp X s (fun j => swKV O A B s j t)).2.2 k o = swKV O A B s o t := fun o => if_pos e
    rw [e1]
    exact ⟨hs, e2⟩
  · have e1 : (swAp X s (fun j => swKV O A B s j t)).2.1 k = X.2.1 k := if_neg e
    have e2 : ∀ o, (swAp X s (fun j => swKV O A B s j t)).2.2 k o = X.2.2 k o := fun o => if_neg e
    rw [e1]
    exact ⟨(h k (by omega)).1, fun o => (e2 o).trans ((h k (by omega)).2 o)⟩
theorem ap_old {X : swD} {s : Int32} {vals : Nat → Int32} {i : Nat} (hi : i < X.1) : i < (swAp X s vals).1 ∧ (swAp X s vals).2.1 i = X.2.1 i := ⟨by show i < X.1 + 1; omega, if_neg (by omega)⟩
theorem ap_new {X : swD} {s : Int32} {vals : Nat → Int32} : X.1 < (swAp X s vals).1 ∧ (swAp X s vals).2.1 X.1 = s := ⟨by show X.1 < X.1 + 1; omega, if_pos rfl⟩
theorem mA_rows (O A B : swD) (t : Bool) : ∀ k, mrow O A B t (swMA O A B t k) ∧ ∀ j, j < k → swKP O A B (A.2.1 j) t = true → ∃ i, i < (swMA O A B t k).1 ∧ (swMA O A B t k).2.1 i = A.2.1 j
  | 0 => ⟨fun k hk => absurd hk (Nat.not_lt_zero k), fun j hj => absurd hj (Nat.not_lt_zero j)⟩
  | k + 1 => by
    obtain ⟨h1, h2⟩ := mA_rows O A B t k
    by_cases e : swKP O A B (A.2.1 k) t = true
    · have e1 : swMA O A B t (k + 1) = swAp (swMA O A B t k) (A.2.1 k) (fun j => swKV O A B (A.2.1 k) j t) := if_pos e
      rw [e1]
      refine ⟨mrow_ap h1 e, fun j hj hk => ?_⟩
      by_cases ej : j = k
      · rw [ej]
        exact ⟨_, ap_new⟩
      · obtain ⟨i, hi, ei⟩ := h2 j (by omega) hk
        obtain ⟨a, b⟩ := ap_old (s := A.2.1 k) (vals := fun j => swKV O A B (A.2.1 k) j t) hi
        exact ⟨i, a, b.trans ei⟩
    · have e1 : swMA O A B t (k + 1) = swMA O A B t k := if_neg e
      rw [e1]
      refine ⟨h1, fun j hj hk => ?_⟩
      by_cases ej : j = k
      · rw [ej] at hk
        exact absurd hk e
      · exact h2 j (by omega) hk
theorem mB_rows (O A B : swD) (t : Bool) : ∀ k, mrow O A B t (swMB O A B t k) ∧ (∀ j, j < A.1 → swKP O A B (A.2.1 j) t = true → ∃ i, i < (swMB O A B t k).1 ∧ (swMB O A B t k).2.1 i = A.2.1 j) ∧ ∀ j, j < k → swhas A (B.2.1 j) = false → swKP O A B (B.2.1 j) t = true → ∃ i, i < (swMB O A B t k).1 ∧ (swMB O A B t k).2.1 i = B.2.1 j
  | 0 => ⟨(mA_rows O A B t A.1).1, fun j hj hk => (mA_rows O A B t A.1).2 j hj hk, fun j hj => absurd hj (Nat.not_lt_zero j)⟩
  | k + 1 => by
    obtain ⟨h1, h2, h3⟩ := mB_rows O A B t k
    by_cases e0 : swhas A (B.2.1 k) = true
    · have e1 : swMB O A B t (k + 1) = swMB O A B t k := if_pos e0
      rw [e1]
      refine ⟨h1, h2, fun j hj hn hk => ?_⟩
      by_cases ej : j = k
      · rw [ej, e0] at hn
        cases hn
      · exact h3 j (by omega) hn hk
    · by_cases e : swKP O A B (B.2.1 k) t = true
      · have e1 : swMB O A B t (k + 1) = swAp (swMB O A B t k) (B.2.1 k) (fun j => swKV O A B (B.2.1 k) j t) := (if_neg e0).trans (if_pos e)
        rw [e1]
        refine ⟨mrow_ap h1 e, fun j hj hk => ?_, fun j hj hn hk => ?_⟩
        · obtain ⟨i, hi, ei⟩ := h2 j hj hk
          obtain ⟨a, b⟩ := ap_old (s := B.2.1 k) (vals := fun j => swKV O A B (B.2.1 k) j t) hi
          exact ⟨i, a, b.trans ei⟩
        · by_cases ej : j = k
          · rw [ej]
            exact ⟨_, ap_new⟩
          · obtain ⟨i, hi, ei⟩ := h3 j (by omega) hn hk
            obtain ⟨a, b⟩ := ap_old (s := B.2.1 k) (vals := fun j => swKV O A B (B.2.1 k) j t) hi
            exact ⟨i, a, b.trans ei⟩
      · have e1 : swMB O A B t (k + 1) = swMB O A B t k := (if_neg e0).trans (if_neg e)
        rw [e1]
        refine ⟨h1, h2, fun j hj hn hk => ?_⟩
        by_cases ej : j = k
        · rw [ej] at hk
          exact absurd hk e
        · exact h3 j (by omega) hn hk
theorem mM_row {s : Nat} (hk : swKP O A B (nI s) t = true) : ∃ i, i < (swMB O A B t B.1).1 ∧ (swMB O A B t B.1).2.1 i = nI s := by
  obtain ⟨h1, h2, h3⟩ := mB_rows O A B t B.1
  cases hA : swhas A (nI s)
  · have hB : swhas B (nI s) = true := by
      rcases swKP_has hk with z | z
      · rw [hA] at z
        cases z
      · exact z
    have e := swpl_eq (swpI_h hB).2
    have := h3 _ (swpI_h hB).2 (by rw [e]; exact hA) (by rw [e]; exact hk)
    rw [e] at this
    exact this
  · have e := swpl_eq (swpI_h hA).2
    have := h2 _ (swpI_h hA).2 (by rw [e]; exact hk)
    rw [e] at this
    exact this
theorem swits_M {ns : Nat} (vA : srV A) (vB : srV B) (hW : srW ns (swMB O A B t B.1)) (s : Nat) : swits (swMB O A B t B.1) s = swmt O A B s t := by
  obtain ⟨h1, h2, h3⟩ := mB_rows O A B t B.1
  cases hk : swKP O A B (nI s) t
  · rw [(swmt_lt vA vB s t).2.mpr hk]
    refine swits_none (fun k hkk e => ?_)
    have := (h1 k hkk).1
    rw [e, hk] at this
    cases this
  · obtain ⟨i, hi, ei⟩ := mM_row hk
    have hv := (h1 i hi).2
    rw [ei] at hv
    rw [swits_row hW hi ei, hv, hv, hv, hv]
    unfold swmt
    rw [if_pos hk]
    rfl
theorem srV_M {ns : Nat} (vA : srV A) (vB : srV B) (hW : srW ns (swMB O A B t B.1)) : srV (swMB O A B t B.1) := fun k hk o ho => by
  obtain ⟨h1, h2, h3⟩ := mB_rows O A B t B.1
  obtain ⟨s, hs, e⟩ := hW.2.1 k hk
  obtain ⟨a, b⟩ := h1 k hk
  rw [e] at a b
  obtain ⟨q1, q2⟩ := swkv_nn vA vB a ho
  exact ⟨_, q1, (b o).trans q2⟩
def mblk (E : swEv) (O A B : swD) (t : Bool) (s : Nat) : Bool := swKP O A B (nI s) t && decide (0 < sw_cnt E.1 (fun r => swBL E r (nI s) (swKV O A B (nI s) (swob E r) t)))
theorem mblk_M {ns : Nat} {E : swEv} (hW : srW ns (swMB O A B t B.1)) (hns : ns ≤ 6) : decide (0 < swBK E (swMB O A B t B.1)) = sw_any 6 (mblk E O A B t) := by
  obtain ⟨h1, h2, h3⟩ := mB_rows O A B t B.1
  have key : 0 < swBK E (swMB O A B t B.1) ↔ sw_any 6 (mblk E O A B t) = true := by
    unfold swBK
    rw [sw_sum_pos, sw_any_iff]
    constructor
    · rintro ⟨k, hk, hp⟩
      obtain ⟨s, hs, e⟩ := hW.2.1 k hk
      obtain ⟨a, b⟩ := h1 k hk
      rw [e] at a b
      refine ⟨s, by omega, ?_⟩
      unfold mblk
      rw [a, Bool.true_and]
      refine decide_eq_true ?_
      unfold swBA at hp
      rw [e] at hp
      have : (fun r => swBL E r (nI s) ((swMB O A B t B.1).2.2 k (swob E r))) = fun r => swBL E r (nI s) (swKV O A B (nI s) (swob E r) t) := by
        funext r
        rw [b]
      rw [this] at hp
      exact hp
    · rintro ⟨s, hs, hp⟩
      unfold mblk at hp
      rw [Bool.and_eq_true, decide_eq_true_iff] at hp
      obtain ⟨i, hi, ei⟩ := mM_row hp.1
      obtain ⟨a, b⟩ := h1 i hi
      rw [ei] at b
      refine ⟨i, hi, ?_⟩
      unfold swBA
      rw [ei]
      have : (fun r => swBL E r (nI s) ((swMB O A B t B.1).2.2 i (swob E r))) = fun r => swBL E r (nI s) (swKV O A B (nI s) (swob E r) t) := by
        funext r
        rw [b]
      rw [this]
      exact hp.2
  by_cases hz : 0 < swBK E (swMB O A B t B.1)
  · rw [decide_eq_true hz, key.mp hz]
  · rw [decide_eq_false hz]
    cases hq : sw_any 6 (mblk E O A B t)
    · rfl
    · exact absurd (key.mpr hq) hz
end MROWS
section OCM
variable {tt nv nb ns : Nat} {hd : Nat → Nat} {sh mo cm ot : Nat → Int32} {am : Nat → Nat} {dk : Nat → swD} {E : swEv} {u : swU} {w : lyU}
theorem lwR_tr (h : lwR tt nv nb ns hd sh mo cm ot am dk E u w) {u1 : swU} (pF : swcF 240 u u1) : lwR tt nv nb ns hd sh mo cm ot am dk E u1 w := by
  obtain ⟨h1, h2, h3, h4, h5, h6, hA, h7, h8, n21, n6, hday⟩ := h
  obtain ⟨t1, t2, t3, t4, t5, t6, t7, t8⟩ := swRl_tr h1 h2 h3 h4 h5 h6 h7 h8 pF
  exact ⟨t1, t2, t3, t4, t5, t6, hA, t7, t8, n21, n6, hday⟩
set_option maxHeartbeats 1000000 in
theorem oc_merge (h : lwR tt nv nb ns hd sh mo cm ot am dk E u w) {a b : Nat} (ha : a < nb) (hb : b < nb) (hab : a ≠ b) (h40 : nv < 40) {x : Int32} {t : Bool} (hx : (x = -1 ∧ t = false) ∨ (x = 0 ∧ t = false) ∨ (x = 1 ∧ t = true)) : (x = -1 → 0 < swCC (dk (swBS nv am (hd a) (hd b))) (dk (hd a)) (dk (hd b)) ns → xx5_merge u (nI a) (nI b) x = some (3, 0, u)) ∧ ((x = -1 → swCC (dk (swBS nv am (hd a) (hd b))) (dk (hd a)) (dk (hd b)) ns = 0) → 0 < swBK E (swMB (dk (swBS nv am (hd a) (hd b))) (dk (hd a)) (dk (hd b)) t (dk (hd b)).1) → ∃ u1, xx5_merge u (nI a) (nI b) x = some (3, 0, u1) ∧ lwR tt nv nb ns hd sh mo cm ot am dk E u1 w) ∧ ((x = -1 → swCC (dk (swBS nv am (hd a) (hd b))) (dk (hd a)) (dk (hd b)) ns = 0) → swBK E (swMB (dk (swBS nv am (hd a) (hd b))) (dk (hd a)) (dk (hd b)) t (dk (hd b)).1) = 0 → ∃ u1 u', xx5_merge u (nI a) (nI b) x = some (0, nI nv, u') ∧ lwR tt nv nb ns hd sh mo cm ot am dk E u1 w ∧ swMV nv a (hd a) (nI (hd b)) ((am (hd a) ||| 2 ^ nv) ||| am (hd b)) (swMB (dk (swBS nv am (hd a) (hd b))) (dk (hd a)) (dk (hd b)) t (dk (hd b)).1) u1 u' ∧ u'.1 0 8 = nI ns) := by
  have hL := h
  obtain ⟨h1, h2, h3, h4, h5, h6, hA, h7, h8, n21, n6, hday⟩ := h
  have hb6 := h2.2.1
  have s3 := h3.2.1
  have hns := h3.1
  have e1 := oB h2 ha
  have e3 := oB h2 hb
  have hd2 := oD (u := u) (a := a) (b := b) (by omega) (by omega) hab
  have hha := (h4 a ha).1
  have hhb := (h4 b hb).1
  have hB := swBS_lt h1.1 am (hd a) (hd b)
  have cm2 := pc_mergeOf h1 h2 h4 h6 hA ha hb
  obtain ⟨base, hbase⟩ : ∃ base, base = swBS nv am (hd a) (hd b) := ⟨_, rfl⟩
  rw [← hbase] at hB cm2
  rw [← hbase]
  obtain ⟨oc, -, ow, -⟩ := h7 _ hB
  obtain ⟨ac, -, aw, -⟩ := h7 _ hha
  obtain ⟨bc, -, bw, -⟩ := h7 _ hhb
  have ht1 : (x = 1) = (t = true) := by
    rcases hx with ⟨rfl, rfl⟩ | ⟨rfl, rfl⟩ | ⟨rfl, rfl⟩
    · exact propext ⟨fun z => absurd z (by decide), fun z => by cases z⟩
    · exact propext ⟨fun z => absurd z (by decide), fun z => by cases z⟩
    · exact propext ⟨fun _ => rfl, fun _ => rfl⟩
  have cc := pc_CC oc ac bc hns
  have cs := pc_CS oc ac bc hns x t ht1
  rw [swMM_n aw bw hns] at cs
  have hMW := (swMB_W (O := dk base) aw bw t (dk (hd b)).1 (Nat.le_refl _)).1
  have hM6 : (swMB (dk base) (dk (hd a)) (dk (hd b)) t (dk (hd b)).1).1 ≤ 6 := Nat.le_trans (srW_cnt hMW hns) n6
  obtain ⟨u1, p1, pF, pD⟩ := pc_fill oc ac bc (by omega) (by omega) (by omega) (x := x) ht1 (show (swMB (dk base) (dk (hd a)) (dk (hd b)) t (dk (hd b)).1).1 ≤ 8 by omega)
  generalize swMB (dk base) (dk (hd a)) (dk (hd b)) t (dk (hd b)).1 = M at cs hMW hM6 p1 pD
  have hCC := swCC_le (dk base) (dk (hd a)) (dk (hd b)) ns
  generalize swCC (dk base) (dk (hd a)) (dk (hd b)) ns = C at cc hCC
  have hL1 := lwR_tr hL pF
  obtain ⟨t1, t2, t3, t4, t5, t6, -, t7, t8, -, -, -⟩ := id hL1
  have cbk := pc_countBlocks t8.1 pD
  have hbk := sw_bk0 (E := E) (d := M) h8.1.1 (by omega)
  have hM8 : (nI M.1 ≤ 8) = True := eq_true (nI_le (b := 8) (by omega) (by omega))
  have hCp : 0 < C → (nI C ≤ 0) = False := fun z => eq_false (nI_nle z (by omega))
  have hC0 : C = 0 → (nI C ≤ 0) = True := fun z => by rw [z]; exact eq_true (by decide)
  refine ⟨fun hx1 hC => ?_, fun hC hz => ?_, fun hC hz => ?_⟩
  · have q := hCp hC
    subst hx1
    unfold xx5_merge
    simp (disch := omega) only [swlt_e, swbd_e, swrd_n, swgd_n, nI_clamp, sw8m, sw4m, sw4r, nI_add, nI_1, swsub, swsubn, sw4le, swleI, swltI, sweqI, sweqm, sw0add, if_pos, if_neg, if_true, if_false, sw1n0, sw0n1, eq_self, ↓reduceIte, e1, e3, swck_0, hd2, cm2, s3, cc, sw0m1, sw1m1, swm10, swm11, q]
  · refine ⟨u1, ?_, hL1⟩
    rw [eq_false (show ¬ swBK E M = 0 by omega)] at hbk
    rcases hx with ⟨rfl, rfl⟩ | ⟨rfl, rfl⟩ | ⟨rfl, rfl⟩
    · have q := hC0 (hC rfl)
      unfold xx5_merge
      simp (disch := omega) only [swlt_e, swbd_e, swrd_n, swgd_n, nI_clamp, sw8m, sw4m, sw4r, nI_add, nI_1, swsub, swsubn, sw4le, swleI, swltI, sweqI, sweqm, sw0add, if_pos, if_neg, if_true, if_false, sw1n0, sw0n1, eq_self, ↓reduceIte, e1, e3, swck_0, hd2, cm2, s3, cc, cs, sw0m1, sw1m1, swm10, swm11, q, hM8, p1, cbk, hbk]
    · unfold xx5_merge
      simp (disch := omega) only [swlt_e, swbd_e, swrd_n, swgd_n, nI_clamp, sw8m, sw4m, sw4r, nI_add, nI_1, swsub, swsubn, sw4le, swleI, swltI, sweqI, sweqm, sw0add, if_pos, if_neg, if_true, if_false, sw1n0, sw0n1, eq_self, ↓reduceIte, e1, e3, swck_0, hd2, cm2, s3, cc, cs, sw0m1, sw1m1, swm10, swm11, hM8, p1, cbk, hbk]
    · unfold xx5_merge
      simp (disch := omega) only [swlt_e, swbd_e, swrd_n, swgd_n, nI_clamp, sw8m, sw4m, sw4r, nI_add, nI_1, swsub, swsubn, sw4le, swleI, swltI, sweqI, sweqm, sw0add, if_pos, if_neg, if_true, if_false, sw1n0, sw0n1, eq_self, ↓reduceIte, e1, e3, swck_0, hd2, cm2, s3, cc, cs, sw0m1, sw1m1, swm10, swm11, hM8, p1, cbk, hbk]
  · rw [eq_true hz] at hbk
    have ca1 := (t4 a ha).2.1
    have cb1 := (t4 b hb).2.1
    have q1 := oRm t1 h40
    obtain ⟨u2, f1, g1, g8⟩ := pc_makeVersion (u := u1) (nv := nv) (b := a) (hb := hd a) (x2 := nI (hd b)) (m := am (hd a)) (mc := am (hd b)) (d := dk (hd a)) h40 t1.2.2.1 (by omega) hha ca1 (t6 _ hha).2.2.2.2.2.2 (Or.inr ⟨hd b, hhb, rfl, (t6 _ hhb).2.2.2.2.2.2⟩) (t7 _ hha).1
    obtain ⟨u3, f2, gF, gD⟩ := pc_copyFrom (c := 200 + nv) (c2 := 240) (g1.from240 h40 pD) (by omega) (by omega) (by omega)
    have hV := g1.deck h40 gF gD
    have hu3 : u3.1 1 a = nI nv := hV.2.2.1
    refine ⟨u1, u3, ?_, hL1, hV, ?_⟩
    · rcases hx with ⟨rfl, rfl⟩ | ⟨rfl, rfl⟩ | ⟨rfl, rfl⟩
      · have q := hC0 (hC rfl)
        unfold xx5_merge
        simp (disch := omega) only [swlt_e, swbd_e, swrd_n, swgd_n, nI_clamp, sw8m, sw4m, sw4r, nI_add, nI_1, swsub, swsubn, sw4le, swleI, swltI, sweqI, sweqm, sw0add, if_pos, if_neg, if_true, if_false, sw1n0, sw0n1, eq_self, ↓reduceIte, e1, e3, swck_0, hd2, cm2, s3, cc, cs, sw0m1, sw1m1, swm10, swm11, q, hM8, p1, cbk, hbk, q1, cb1, f1, f2, hu3]
      · unfold xx5_merge
        simp (disch := omega) only [swlt_e, swbd_e, swrd_n, swgd_n, nI_clamp, sw8m, sw4m, sw4r, nI_add, nI_1, swsub, swsubn, sw4le, swleI, swltI, sweqI, sweqm, sw0add, if_pos, if_neg, if_true, if_false, sw1n0, sw0n1, eq_self, ↓reduceIte, e1, e3, swck_0, hd2, cm2, s3, cc, cs, sw0m1, sw1m1, swm10, swm11, hM8, p1, cbk, hbk, q1, cb1, f1, f2, hu3]
      · unfold xx5_merge
        simp (disch := omega) only [swlt_e, swbd_e, swrd_n, swgd_n, nI_clamp, sw8m, sw4m, sw4r, nI_add, nI_1, swsub, swsubn, sw4le, swleI, swltI, sweqI, sweqm, sw0add, if_pos, if_neg, if_true, if_false, sw1n0, sw0n1, eq_self, ↓reduceIte, e1, e3, swck_0, hd2, cm2, s3, cc, cs, sw0m1, sw1m1, swm10, swm11, hM8, p1, cbk, hbk, q1, cb1, f1, f2, hu3]
    · rw [gF.1 0 (by omega) (by omega) (by omega), g8]
      exact t3.2.1
end OCM
