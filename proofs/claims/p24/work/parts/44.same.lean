/-! ===== same: the class shows what the law's arrays tell ===== -/
theorem sw_upF {β : Type} (L : Nat → Nat → β) (n F : Nat) (hs : ∀ f k, k < n → L (f + 1) k = L f (k + 1)) (hn : n < F) : ∃ f, L F 0 = L (f + 1) n := by
  have key : ∀ k, k ≤ n → L F 0 = L (F - k) k := by
    intro k
    induction k with
    | zero => intro _; rfl
    | succ k ih =>
      intro hk
      rw [ih (by omega), show F - k = F - (k + 1) + 1 by omega, hs _ _ (by omega)]
  refine ⟨F - n - 1, ?_⟩
  rw [key n (Nat.le_refl _), show F - n - 1 + 1 = F - n by omega]
theorem sw_upSF {σ β : Type} (L : Nat → Nat → σ → β) (I : Nat → σ → Prop) (n F : Nat) (s0 : σ) (h0 : I 0 s0) (hs : ∀ f k s, k < n → I k s → ∃ s', I (k + 1) s' ∧ L (f + 1) k s = L f (k + 1) s') (hn : n < F) : ∃ s, I n s ∧ ∃ f, L F 0 s0 = L (f + 1) n s := by
  have key : ∀ k, k ≤ n → ∃ s, I k s ∧ L F 0 s0 = L (F - k) k s := by
    intro k
    induction k with
    | zero => intro _; exact ⟨s0, h0, rfl⟩
    | succ k ih =>
      intro hk
      obtain ⟨s, hI, e⟩ := ih (by omega)
      obtain ⟨s', hI', e'⟩ := hs (F - (k + 1)) k s (by omega) hI
      refine ⟨s', hI', ?_⟩
      rw [e, show F - k = F - (k + 1) + 1 by omega, e']
  obtain ⟨s, hI, e⟩ := key n (Nat.le_refl _)
  refine ⟨s, hI, F - n - 1, ?_⟩
  rw [e, show F - n - 1 + 1 = F - n by omega]
theorem la_bit (m k : Nat) : m / 2 ^ k % 2 = if m.testBit k = true then 1 else 0 := by
  rw [Nat.testBit_eq_decide_div_mod_eq]
  by_cases h : m / 2 ^ k % 2 = 1
  · rw [if_pos (decide_eq_true h), h]
  · rw [if_neg (by rw [decide_eq_false h]; decide)]
    omega
theorem la_and1 (n : Nat) : nI n &&& (1 : Int32) = nI (n % 2) := by
  rw [show (1 : Int32) = nI 1 from rfl, la_and, show (1 : Nat) = 2 ^ 1 - 1 from rfl, la_mod2]
theorem swB_0 (b : Bool) : (swB b = 0) = (b = false) := swB0 b
section SAME
variable {t nv nb ns : Nat} {hd : Nat → Nat} {sh mo cm ot : Nat → Int32} {am : Nat → Nat} {dk : Nat → swD} {E : swEv} {u : swU} {w : lyU}
theorem la_blockedV (h : lwR t nv nb ns hd sh mo cm ot am dk E u w) {v : Nat} (hv : v < nv) : lx_blocked w (nI v) = some (swB (decide (0 < swBK E (dk v)))) := by
  obtain ⟨h1, h2, h3, h4, h5, h6, hA, h7, h8, n21, n6, hday⟩ := h
  obtain ⟨hc, hD, hw, hV⟩ := h7 v hv
  exact la_blocked h8.2.1 h8.1.1 h8.1.2.2.2.2.1 h8.2.2 n6 (by omega) hD hw hV
theorem la_allV (h : lwR t nv nb ns hd sh mo cm ot am dk E u w) {v : Nat} (hv : v < nv) : lx_all w (nI v) = some (nI (swBK E (dk v) + 64 * swWK E (dk v))) ∧ swBK E (dk v) ≤ 48 ∧ swWK E (dk v) ≤ 48 := by
  obtain ⟨h1, h2, h3, h4, h5, h6, hA, h7, h8, n21, n6, hday⟩ := h
  obtain ⟨hc, hD, hw, hV⟩ := h7 v hv
  have hc6 : (dk v).1 ≤ 6 := Nat.le_trans (srW_cnt hw (by omega)) n6
  exact ⟨la_all h8.2.1 h8.1.1 h8.1.2.2.2.2.1 h8.2.2 n6 (by omega) hD hw hV, swBK_48 h8.1.1 hc6, swWK_48 h8.1.1 hc6⟩
set_option maxHeartbeats 1000000 in
theorem la_same6 (h : lwR t nv nb ns hd sh mo cm ot am dk E u w) (KK : Int32 → Int32 → swU → Option (Int32 × swU × lyU)) : lx_same_L6 w KK 8 1 0 u = KK 1 (nI nb) u := by
  have hL := h
  obtain ⟨h1, h2, h3, h4, h5, h6, hA, h7, h8, n21, n6, hday⟩ := h
  have hb6 := h2.2.1
  have q82 := h2.2.2.2
  obtain ⟨f, e⟩ := sw_upF (fun f k => lx_same_L6 w KK f 1 (nI k) u) nb 8 (fun f k hk => by
    have hno : (nI nb ≤ nI k) = False := eq_false (nI_ge hk (by omega))
    obtain ⟨s1, s2, s3⟩ := h5 k (by omega)
    have c2 := (h4 k hk).2.2
    have e6 : (6 : Int32) + nI k = nI (6 + k) := nI_add 6 k
    show lx_same_L6 w KK (f + 1) 1 (nI k) u = lx_same_L6 w KK f 1 (nI (k + 1)) u
    rw [lx_same_L6]
    rcases s3 with s3 | ⟨v, hv, s3⟩
    · have hz : (sh k + 1 = 0) = True := by rw [s3]; exact eq_true (by decide)
      simp (disch := omega) only [swlt_e, swbd_e, swrd_n, swgd_n, nI_clamp, sw8m, sw4m, sw4r, nI_add, nI_1, swsub, swsubn, sw4le, swleI, swltI, sweqI, sweqm, sw0add, if_pos, if_neg, if_true, if_false, sw1n0, sw0n1, eq_self, ↓reduceIte, sl2, q82, hno, oc_head h2 h4 hk, swnx_e, c2, oc_shown0 h2 h5 hk s3, e6, s2, swjn_e, hz]
    · have hz : (nI (v + 1) = 0) = False := eq_false (nI_ne0 (by omega) (by omega))
      rw [s3, nI_1] at s2
      have hbv := la_blockedV hL hv
      by_cases hB : 0 < swBK E (dk v)
      · have hs := oc_shown1 h1 h2 h5 h7 h8 hk hv s3
        rw [if_pos hB] at hs
        have hd1 : (swB (decide (0 < swBK E (dk v))) = 0) = False := by rw [decide_eq_true hB]; exact sw1n0
        simp (disch := omega) only [swlt_e, swbd_e, swrd_n, swgd_n, nI_clamp, sw8m, sw4m, sw4r, nI_add, nI_1, swsub, swsubn, sw4le, swleI, swltI, sweqI, sweqm, sw0add, if_pos, if_neg, if_true, if_false, sw1n0, sw0n1, eq_self, ↓reduceIte, sl2, q82, hno, oc_head h2 h4 hk, swnx_e, c2, hs, e6, s2, swjn_e, hz, Nat.add_sub_cancel, hbv, hd1]
      · have hs := oc_shown1 h1 h2 h5 h7 h8 hk hv s3
        rw [if_neg hB] at hs
        have hd1 : (swB (decide (0 < swBK E (dk v))) = 0) = True := by rw [decide_eq_false hB]; exact eq_true rfl
        simp (disch := omega) only [swlt_e, swbd_e, swrd_n, swgd_n, nI_clamp, sw8m, sw4m, sw4r, nI_add, nI_1, swsub, swsubn, sw4le, swleI, swltI, sweqI, sweqm, sw0add, if_pos, if_neg, if_true, if_false, sw1n0, sw0n1, eq_self, ↓reduceIte, sl2, q82, hno, oc_head h2 h4 hk, swnx_e, c2, hs, e6, s2, swjn_e, hz, Nat.add_sub_cancel, hbv, hd1]) (by omega)
  have e : lx_same_L6 w KK 8 1 0 u = lx_same_L6 w KK (f + 1) 1 (nI nb) u := e
  have hyes : (nI nb ≤ nI nb) = True := eq_true (nI_le (Nat.le_refl _) (by omega))
  rw [e, lx_same_L6]
  simp (disch := omega) only [swlt_e, swbd_e, swrd_n, swgd_n, nI_clamp, sw8m, sw4m, sw4r, nI_add, nI_1, swsub, swsubn, sw4le, swleI, swltI, sweqI, sweqm, sw0add, if_pos, if_neg, if_true, if_false, sw1n0, sw0n1, eq_self, ↓reduceIte, sl2, q82, hyes]
theorem la_anc {v m : Nat} (h3 : w.1 3 v = nI m) (hv : v < 21) (hm : m < 2 ^ 21) (KK : Int32 → Int32 → Option (Int32 × swU × lyU)) : lx_same_L167 u w (nI v) KK 64 0 0 = KK (nI (sw_cnt 21 (fun k => m.testBit k))) (nI 21) := by
  obtain ⟨a, ha, f, e⟩ := sw_upS (fun f k (a : Int32) => lx_same_L167 u w (nI v) KK f a (nI k)) (fun k a => a = nI (sw_cnt k (fun i => m.testBit i))) 21 (0 : Int32) rfl (fun f k a hk hI => by
    refine ⟨nI (sw_cnt (k + 1) (fun i => m.testBit i)), rfl, ?_⟩
    show lx_same_L167 u w (nI v) KK (f + 1) a (nI k) = lx_same_L167 u w (nI v) KK f (nI (sw_cnt k (fun i => m.testBit i) + (if m.testBit k = true then 1 else 0))) (nI (k + 1))
    have hno : ¬ (21 : Int32) ≤ nI k := nI_ge (b := 21) hk (by omega)
    rw [lx_same_L167, if_neg hno, swrd_n hv (by omega), h3, la_shr (by omega) (by omega), la_and1, la_bit, hI, nI_add, swlt_e, nI_1]) (by omega)
  have e : lx_same_L167 u w (nI v) KK 64 0 0 = lx_same_L167 u w (nI v) KK (f + 1) a (nI 21) := e
  rw [e, lx_same_L167, if_pos (by decide), ha]
def fbF (E : swEv) (d : swD) (k : Nat) (x : Int32) : Int32 := if k < d.1 ∧ 0 < swBA E d k then d.2.1 k else x
theorem fbF_all {E : swEv} {d : swD} (h6 : d.1 ≤ 6) : fbF E d 0 (fbF E d 1 (fbF E d 2 (fbF E d 3 (fbF E d 4 (fbF E d 5 (-1)))))) = swFB E d := by
  have hno := sw_fst_no (fun k => decide (0 < swBA E d k)) d.1
  have hyes := sw_fst_yes (fun k => decide (0 < swBA E d k)) d.1
  have hle := sw_fst_le (fun k => decide (0 < swBA E d k)) d.1
  unfold swFB
  generalize sw_fst d.1 (fun k => decide (0 < swBA E d k)) = j at hno hyes hle
  have hlow : ∀ k x, k < j → fbF E d k x = x := fun k x hk => by
    have := of_decide_eq_false (hno k hk)
    exact if_neg (fun z => this z.2)
  by_cases hj : j < d.1
  · have hat : ∀ x, fbF E d j x = d.2.1 j := fun x => if_pos ⟨hj, of_decide_eq_true (hyes hj)⟩
    rw [if_pos hj]
    rcases (by omega : j = 0 ∨ j = 1 ∨ j = 2 ∨ j = 3 ∨ j = 4 ∨ j = 5) with rfl | rfl | rfl | rfl | rfl | rfl
    · rw [hat]
    · rw [hlow 0 _ (by omega), hat]
    · rw [hlow 0 _ (by omega), hlow 1 _ (by omega), hat]
    · rw [hlow 0 _ (by omega), hlow 1 _ (by omega), hlow 2 _ (by omega), hat]
    · rw [hlow 0 _ (by omega), hlow 1 _ (by omega), hlow 2 _ (by omega), hlow 3 _ (by omega), hat]
    · rw [hlow 0 _ (by omega), hlow 1 _ (by omega), hlow 2 _ (by omega), hlow 3 _ (by omega), hlow 4 _ (by omega), hat]
  · rw [if_neg hj]
    have hall : ∀ k x, fbF E d k x = x := fun k x => by
      by_cases hk : k < j
      · exact hlow k x hk
      · exact if_neg (fun z => by omega)
    rw [hall, hall, hall, hall, hall, hall]
set_option maxHeartbeats 1000000 in
theorem la_same328 (h : lwR t nv nb ns hd sh mo cm ot am dk E u w) {v : Nat} (hv : v < nv) (KK : Int32 → Int32 → Int32 → swU → Option (Int32 × swU × lyU)) : lx_same_L328 w (nI v) KK 8 1 (-1) 5 u = KK 1 (swFB E (dk v)) (-1) u := by
  have hL := h
  obtain ⟨h1, h2, h3, h4, h5, h6, hA, h7, h8, n21, n6, hday⟩ := h
  obtain ⟨hc, hD, hw, hV⟩ := h7 v hv
  have hc6 : (dk v).1 ≤ 6 := Nat.le_trans (srW_cnt hw (by omega)) n6
  have hdg := srW_dg hw (by omega)
  have step : ∀ k, k < 6 → ∀ f x, lx_same_L328 w (nI v) KK (f + 1) 1 x (nI k) u = lx_same_L328 w (nI v) KK f 1 (fbF E (dk v) k x) (nI k + (-1)) u := fun k hk f x => by
    have l0 : (nI k < 0) = False := eq_false (nI_pos (by omega))
    have hs := oc_slideAt (i := k) h1 h7 hv (by omega)
    have hdig := la_digit (k := k) (show (dk v).1 ≤ 8 by omega) hdg (by omega)
    rw [lx_same_L328]
    by_cases hkd : k < (dk v).1
    · obtain ⟨q, hq, eq⟩ := hw.2.1 k hkd
      rw [sword_at _ _ hkd hdg, eq, nI_clamp (by omega)] at hdig
      rw [if_pos hkd, eq] at hs
      have hq0 : (nI q < 0) = False := eq_false (nI_pos (by omega))
      obtain ⟨hpl, hh⟩ := swpl_of hw hkd eq
      have hbl := la_blocksD h8.2.1 h8.1.1 h8.1.2.2.2.2.1 h8.2.2 hV (s := q) (by omega) hh
      rw [hpl] at hbl
      have hget := la_get w (v := v) (s := q) (by omega) (by omega)
      rw [hD.2 q (by omega)] at hget
      have b8 := swBA_le E (dk v) k h8.1.1
      have w8 := swWA_le E (dk v) k h8.1.1
      have hrem : swrem (nI (swBA E (dk v) k + 64 * swWA E (dk v) k)) 64 = nI (swBA E (dk v) k) := by
        rw [show (64 : Int32) = nI 64 from rfl, la_rem (by omega) (by omega) (by omega)]
        congr 1
        omega
      by_cases hz : 0 < swBA E (dk v) k
      · have hle : (nI (swBA E (dk v) k) ≤ 0) = False := eq_false (nI_nle hz (by omega))
        have hF : fbF E (dk v) k x = nI q := by
          unfold fbF
          rw [if_pos ⟨hkd, hz⟩, eq]
        simp (disch := omega) only [swlt_e, swbd_e, swrd_n, swgd_n, nI_clamp, sw8m, sw4m, sw4r, nI_add, nI_1, swsub, swsubn, sw4le, swleI, swltI, sweqI, sweqm, sw0add, if_pos, if_neg, if_true, if_false, sw1n0, sw0n1, eq_self, ↓reduceIte, l0, hD.1, hdig, Nat.add_sub_cancel, swjn_e, hs, swnx_e, hq0, hget, hbl, hrem, hle, hF]
      · have hle : (nI (swBA E (dk v) k) ≤ 0) = True := eq_true (by rw [swleI0 (by omega)]; omega)
        have hF : fbF E (dk v) k x = x := if_neg (fun z => hz z.2)
        simp (disch := omega) only [swlt_e, swbd_e, swrd_n, swgd_n, nI_clamp, sw8m, sw4m, sw4r, nI_add, nI_1, swsub, swsubn, sw4le, swleI, swltI, sweqI, sweqm, sw0add, if_pos, if_neg, if_true, if_false, sw1n0, sw0n1, eq_self, ↓reduceIte, l0, hD.1, hdig, Nat.add_sub_cancel, swjn_e, hs, swnx_e, hq0, hget, hbl, hrem, hle, hF]
    · rw [sword_out (by omega) hdg] at hdig
      rw [if_neg hkd] at hs
      have hm1 : nI (0 % 8) - 1 = (-1 : Int32) := by decide
      have hlt : ((-1 : Int32) < 0) = True := eq_true (by decide)
      have hF : fbF E (dk v) k x = x := if_neg (fun z => hkd z.1)
      simp (disch := omega) only [swlt_e, swbd_e, swrd_n, swgd_n, nI_clamp, sw8m, sw4m, sw4r, nI_add, nI_1, swsub, swsubn, sw4le, swleI, swltI, sweqI, sweqm, sw0add, if_pos, if_neg, if_true, if_false, sw1n0, sw0n1, eq_self, ↓reduceIte, l0, hD.1, hdig, hm1, swjn_e, hs, swnx_e, hlt, hF]
  have e5 := step 5 (by omega) 7 (-1)
  have e4 := step 4 (by omega) 6 (fbF E (dk v) 5 (-1))
  have e3 := step 3 (by omega) 5 (fbF E (dk v) 4 (fbF E (dk v) 5 (-1)))
  have e2 := step 2 (by omega) 4 (fbF E (dk v) 3 (fbF E (dk v) 4 (fbF E (dk v) 5 (-1))))
  have e1 := step 1 (by omega) 3 (fbF E (dk v) 2 (fbF E (dk v) 3 (fbF E (dk v) 4 (fbF E (dk v) 5 (-1)))))
  have e0 := step 0 (by omega) 2 (fbF E (dk v) 1 (fbF E (dk v) 2 (fbF E (dk v) 3 (fbF E (dk v) 4 (fbF E (dk v) 5 (-1))))))
  rw [pk_m1 4] at e5
  rw [pk_m1 3] at e4
  rw [pk_m1 2] at e3
  rw [pk_m1 1] at e2
  rw [pk_m1 0] at e1
  rw [fbF_all hc6, show nI 0 + (-1 : Int32) = -1 by decide] at e0
  refine (e5.trans (e4.trans (e3.trans (e2.trans (e1.trans e0))))).trans ?_
  show lx_same_L328 w (nI v) KK (1 + 1) 1 _ (-1) u = _
  rw [lx_same_L328, if_pos (by decide)]
set_option maxHeartbeats 1000000 in
theorem la_same447 (h : lwR t nv nb ns hd sh mo cm ot am dk E u w) {v : Nat} (hv : v < nv) (z : Int32) (KK : Int32 → Int32 → swU → Option (Int32 × swU × lyU)) : lx_same_L447 w z (nI v) KK 8 1 0 u = KK 1 (nI ns) u := by
  have hL := h
  obtain ⟨h1, h2, h3, h4, h5, h6, hA, h7, h8, n21, n6, hday⟩ := h
  obtain ⟨hc, hD, hw, hV⟩ := h7 v hv
  have q81 := h3.2.2
  obtain ⟨f, e⟩ := sw_upF (fun f k => lx_same_L447 w z (nI v) KK f 1 (nI k) u) ns 8 (fun f k hk => by
    have hno : (nI ns ≤ nI k) = False := eq_false (nI_ge hk (by omega))
    obtain ⟨o, ho, eo⟩ := la_low (swshr z (3 + nI k)) (n := 4) (by omega) (by omega)
    have eo : lx_low (swshr z (3 + nI k)) 4 = some (nI o) := eo
    have hget := la_get w (v := v) (s := k) (by omega) (by omega)
    rw [hD.2 k (by omega)] at hget
    have hl := swits_lt hV k
    have hval := oc_value h1 h3 h7 hv hk ho
    show lx_same_L447 w z (nI v) KK (f + 1) 1 (nI k) u = lx_same_L447 w z (nI v) KK f 1 (nI (k + 1)) u
    rw [lx_same_L447]
    cases hh : swhas (dk v) (nI k)
    · have hz : (lg_cmp (lN (swits (dk v) k)) (0 : Int64) = 0) = True := by
        rw [la_cmp0 (by omega)]
        exact eq_true (hl.2.mpr hh)
      rw [swVO_n hh] at hval
      simp (disch := omega) only [swlt_e, swbd_e, swrd_n, swgd_n, nI_clamp, sw8m, sw4m, sw4r, nI_add, nI_1, swsub, swsubn, sw4le, swleI, swltI, sweqI, sweqm, sw0add, if_pos, if_neg, if_true, if_false, sw1n0, sw0n1, eq_self, ↓reduceIte, sl1, q81, hno, hget, eo, hval, swnx_e, swjn_e, hz]
    · have hz : (lg_cmp (lN (swits (dk v) k)) (0 : Int64) = 0) = False := by
        rw [la_cmp0 (by omega)]
        exact eq_false (fun z => by rw [hl.2.mp z] at hh; cases hh)
      rw [swVO_y hh] at hval
      simp (disch := omega) only [swlt_e, swbd_e, swrd_n, swgd_n, nI_clamp, sw8m, sw4m, sw4r, nI_add, nI_1, swsub, swsubn, sw4le, swleI, swltI, sweqI, sweqm, sw0add, if_pos, if_neg, if_true, if_false, sw1n0, sw0n1, eq_self, ↓reduceIte, sl1, q81, hno, hget, eo, hval, swnx_e, swjn_e, hz, swits_val hV hh ho]) (by omega)
  have e : lx_same_L447 w z (nI v) KK 8 1 0 u = lx_same_L447 w z (nI v) KK (f + 1) 1 (nI ns) u := e
  have hyes : (nI ns ≤ nI ns) = True := eq_true (nI_le (Nat.le_refl _) (by omega))
  rw [e, lx_same_L447]
  simp (disch := omega) only [swlt_e, swbd_e, swrd_n, swgd_n, nI_clamp, sw8m, sw4m, sw4r, nI_add, nI_1, swsub, swsubn, sw4le, swleI, swltI, sweqI, sweqm, sw0add, if_pos, if_neg, if_true, if_false, sw1n0, sw0n1, eq_self, ↓reduceIte, sl1, q81, hyes]
end SAME
