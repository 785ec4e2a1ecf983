/-! ===== THE MERGED DECK, on the model's side ===== -/
/-- the laid deck, in the model's state -/
def swLd (w : swU) (X : swD) : Prop := w.1 0 22 = nI X.1 ∧ (∀ k, k < X.1 → w.1 23 k = X.2.1 k) ∧ ∀ k, k < X.1 → ∀ j, j < 4 → w.1 24 (4 * k + j) = X.2.2 k j
/-- only the laid deck changes -/
def swlF (w w' : swU) : Prop := (∀ q, q ≠ 0 → q ≠ 23 → q ≠ 24 → w'.1 q = w.1 q) ∧ ∀ k, k ≠ 22 → w'.1 0 k = w.1 0 k
theorem swlF.tr {w w' w'' : swU} (h : swlF w w') (h2 : swlF w' w'') : swlF w w'' := ⟨fun q a b c => (h2.1 q a b c).trans (h.1 q a b c), fun k a => (h2.2 k a).trans (h.2 k a)⟩
theorem swlF.rf (w : swU) : swlF w w := ⟨fun _ _ _ _ => rfl, fun _ _ => rfl⟩
theorem swlF.ag {w w' : swU} (h : swlF w w') : swAg w w' := ⟨fun c c1 c2 => h.1 c (by omega) (by omega) (by omega), h.2 1 (by omega), h.2 8 (by omega), h.2 9 (by omega), h.2 12 (by omega), h.2 17 (by omega), h.2 21 (by omega)⟩
theorem swmD_lF {w w' : swU} {v : Nat} {d : swD} (h : swmD w v d) (hf : swlF w w') : swmD w' v d := swmD_fe h (hf.1 5 (by omega) (by omega) (by omega)) (hf.1 6 (by omega) (by omega) (by omega)) (hf.1 7 (by omega) (by omega) (by omega))
theorem swRS_0 {O A B : swD} {s : Int32} {t : Bool} (nA : swnn A) (nB : swnn B) : (swRS O A B s 0 t = -1) = (swKP O A B s t = false) := by
  unfold swRS
  cases h : swKP O A B s t
  · rw [if_neg (by simp)]
    exact propext ⟨fun _ => rfl, fun _ => rfl⟩
  · rw [if_pos rfl, sw_nn1 (swKV_nn h nA nB (by omega))]
    exact propext ⟨fun z => z.elim, fun z => by cases z⟩
theorem pm_lays {w : swU} {o a b : Nat} {O A B : swD} (hO : swmD w o O) (hA : swmD w a A) (hB : swmD w b B) (nA : swnn A) (nB : swnn B) (s : Int32) (t : Bool) {X : swD} (hX : swLd w X) (hn : X.1 < 16) : (swKP O A B s t = false → mx_lays w (nI o) (nI a) (nI b) s (swB t) = some w) ∧ (swKP O A B s t = true → ∃ w', mx_lays w (nI o) (nI a) (nI b) s (swB t) = some w' ∧ swlF w w' ∧ swLd w' (swAp X s (fun j => swKV O A B s j t))) := by
  have h0 := pm_settles hO hA hB nA nB s (show 0 < 4 by omega) t
  have hz := swRS_0 (O := O) (s := s) (t := t) nA nB
  constructor
  · intro hp
    rw [eq_true hp] at hz
    unfold mx_lays
    rw [show (0 : Int32) = nI 0 from rfl, h0, swbd_e, if_pos (of_eq_true hz)]
  · intro hp
    have hz2 : ¬ swRS O A B s 0 t = -1 := by
      rw [hz, hp]
      simp
    obtain ⟨x22, x23, x24⟩ := hX
    obtain ⟨z, hz, g, hg⟩ := sw_upS (σ := swU) (fun f j v => mx_lays_L31 (nI o) (nI a) (nI b) s (swB t) (fun v6 w70 => swlt (swI w70 0 22 (((w70.1 0 22) + 1))) fun u77 => some u77) f (nI j) v) (fun j v => sw4s 24 (4 * X.1) (fun j => swKV O A B s j t) j (swI w 23 X.1 s) v) 4 (swI w 23 X.1 s) (sw4s.zero _ _ _ _) (by
      intro f j v hj hI
      refine ⟨_, hI.step, ?_⟩
      show mx_lays_L31 (nI o) (nI a) (nI b) s (swB t) _ (f + 1) (nI j) v = mx_lays_L31 (nI o) (nI a) (nI b) s (swB t) _ f (nI (j + 1)) _
      have g5 : v.1 5 = w.1 5 := (hI.1 5 (by omega)).trans (swI_ne (by omega))
      have g6 : v.1 6 = w.1 6 := (hI.1 6 (by omega)).trans (swI_ne (by omega))
      have g7 : v.1 7 = w.1 7 := (hI.1 7 (by omega)).trans (swI_ne (by omega))
      have g0 : v.1 0 22 = nI X.1 := by
        rw [hI.1 0 (by omega), swI_ne (by omega)]
        exact x22
      have hs := pm_settles (swmD_fe hO g5 g6 g7) (swmD_fe hA g5 g6 g7) (swmD_fe hB g5 g6 g7) nA nB s hj t
      have hr : swRS O A B s j t = swKV O A B s j t := if_pos hp
      rw [hr] at hs
      rw [mx_lays_L31]
      simp (disch := omega) only [swlt_e, swbd_e, swrd_n, swgd_n, nI_clamp, sw8m, sw4m, sw4r, nI_add, nI_1, swsub, swsubn, sw4le, swleI, swltI, sweqI, sweqm, sw0add, if_pos, if_neg, if_true, if_false, sw1n0, sw0n1, eq_self, ↓reduceIte, hs, g0]) (by omega)
    obtain ⟨c1, c2, c3, c4⟩ := hz
    have g0 : z.1 0 22 = nI X.1 := by
      rw [c1 0 (by omega), swI_ne (by omega)]
      exact x22
    refine ⟨swI z 0 22 (nI (X.1 + 1)), ?_, ⟨fun q q1 q2 q3 => ?_, fun k hk => ?_⟩, swI_self, fun k hk => ?_, fun k hk j hj => ?_⟩
    · unfold mx_lays
      rw [show (0 : Int32) = nI 0 from rfl, h0, swbd_e, if_neg hz2, x22, swgd_n (by omega) (by omega), swlt_e, nI_clamp (by omega)]
      refine Eq.trans hg ?_
      show mx_lays_L31 (nI o) (nI a) (nI b) s (swB t) _ (g + 1) (nI 4) z = _
      rw [mx_lays_L31]
      simp (disch := omega) only [swlt_e, swbd_e, swrd_n, swgd_n, nI_clamp, sw8m, sw4m, sw4r, nI_add, nI_1, swsub, swsubn, sw4le, swleI, swltI, sweqI, sweqm, sw0add, if_pos, if_neg, if_true, if_false, sw1n0, sw0n1, eq_self, ↓reduceIte, g0]
    · rw [swI_ne q1, c1 q q3, swI_ne q2]
    · rw [swI_k hk, c1 0 (by omega), swI_ne (by omega)]
    · have hk2 : k < X.1 + 1 := hk
      rw [swI_ne (by omega), c1 23 (by omega)]
      show _ = if k = X.1 then s else X.2.1 k
      by_cases e : k = X.1
      · rw [if_pos e, e, swI_self]
      · rw [if_neg e, swI_k e]
        exact x23 k (by omega)
    · have hk2 : k < X.1 + 1 := hk
      rw [swI_ne (by omega)]
      show _ = if k = X.1 then swKV O A B s j t else X.2.2 k j
      by_cases e : k = X.1
      · rw [if_pos e, e]
        exact c2 j hj
      · rw [if_neg e, c3 _ (by omega), swI_ne (by omega)]
        exact x24 k (by omega) j hj
theorem swMA_16 (O A B : swD) (t : Bool) (hA : A.1 ≤ 8) {k : Nat} (hk : k ≤ A.1) : (swMA O A B t k).1 ≤ k := by
  rw [swMA_n]
  exact sw_cnt_le _ _
theorem swMB_16 (O A B : swD) (t : Bool) (hA : A.1 ≤ 8) {k : Nat} (hk : k ≤ B.1) : (swMB O A B t k).1 ≤ A.1 + k := by
  rw [swMB_n, swMA_n]
  have q1 := sw_cnt_le (fun i => swKP O A B (A.2.1 i) t) A.1
  have q2 := sw_cnt_le (fun i => !swhas A (B.2.1 i) && swKP O A B (B.2.1 i) t) k
  omega
theorem pm_layDeck {w : swU} {o a b : Nat} {O A B : swD} (hO : swmD w o O) (hA : swmD w a A) (hB : swmD w b B) (nA : swnn A) (nB : swnn B) (t : Bool) : ∃ w', mx_layDeck w (nI o) (nI a) (nI b) (swB t) = some w' ∧ swlF w w' ∧ swLd w' (swMB O A B t B.1) := by
  have hA8 := hA.2.1
  have hB8 := hB.2.1
  have ha40 := hA.1
  have hb40 := hB.1
  have F0 : swlF w (swI w 0 22 0) := ⟨fun q q1 _ _ => swI_ne q1, fun k hk => swI_k hk⟩
  obtain ⟨s, ⟨f1, d1⟩, g, hg⟩ := sw_upS (σ := swU) (fun f k v => mx_layDeck_L8 (nI o) (nI a) (nI b) (swB t) (fun v5 w46 => mx_layDeck_L49 (nI o) (nI a) (nI b) (swB t) (fun v5 w108 => some w108) 64 0 w46) f (nI k) v) (fun k v => swlF w v ∧ swLd v (swMA O A B t k)) A.1 (swI w 0 22 0) ⟨F0, swI_self, fun k hk => absurd hk (Nat.not_lt_zero k), fun k hk => absurd hk (Nat.not_lt_zero k)⟩ (by
    intro f k v hk hI
    obtain ⟨hF, hD⟩ := hI
    have dO := swmD_lF hO hF
    have dA := swmD_lF hA hF
    have dB := swmD_lF hB hF
    have hA1 := dA.2.2.1
    have hAr := dA.2.2.2.1 k hk
    have hn : (swMA O A B t k).1 < 16 := by
      have := swMA_16 O A B t hA8 (show k ≤ A.1 by omega)
      omega
    obtain ⟨l0, l1⟩ := pm_lays dO dA dB nA nB (A.2.1 k) t hD hn
    cases hp : swKP O A B (A.2.1 k) t
    · have e : swMA O A B t (k + 1) = swMA O A B t k := if_neg (by rw [hp]; simp)
      have hl := l0 hp
      refine ⟨v, ⟨hF, by rw [e]; exact hD⟩, ?_⟩
      show mx_layDeck_L8 (nI o) (nI a) (nI b) (swB t) _ (f + 1) (nI k) v = mx_layDeck_L8 (nI o) (nI a) (nI b) (swB t) _ f (nI (k + 1)) v
      rw [mx_layDeck_L8]
      simp (disch := omega) only [swlt_e, swbd_e, swrd_n, swgd_n, nI_clamp, sw8m, sw4m, sw4r, nI_add, nI_1, swsub, swsubn, sw4le, swleI, swltI, sweqI, sweqm, sw0add, if_pos, if_neg, if_true, if_false, sw1n0, sw0n1, eq_self, ↓reduceIte, hA1, hAr, hl]
    · have e : swMA O A B t (k + 1) = swAp (swMA O A B t k) (A.2.1 k) (fun j => swKV O A B (A.2.1 k) j t) := if_pos hp
      obtain ⟨v', e1, e2, e3⟩ := l1 hp
      refine ⟨v', ⟨hF.tr e2, by rw [e]; exact e3⟩, ?_⟩
      show mx_layDeck_L8 (nI o) (nI a) (nI b) (swB t) _ (f + 1) (nI k) v = mx_layDeck_L8 (nI o) (nI a) (nI b) (swB t) _ f (nI (k + 1)) v'
      rw [mx_layDeck_L8]
      simp (disch := omega) only [swlt_e, swbd_e, swrd_n, swgd_n, nI_clamp, sw8m, sw4m, sw4r, nI_add, nI_1, swsub, swsubn, sw4le, swleI, swltI, sweqI, sweqm, sw0add, if_pos, if_neg, if_true, if_false, sw1n0, sw0n1, eq_self, ↓reduceIte, hA1, hAr, e1]) (by omega)
  obtain ⟨z, ⟨f2, d2⟩, g2, hg2⟩ := sw_upS (σ := swU) (fun f k v => mx_layDeck_L49 (nI o) (nI a) (nI b) (swB t) (fun v5 w108 => some w108) f (nI k) v) (fun k v => swlF w v ∧ swLd v (swMB O A B t k)) B.1 s ⟨f1, d1⟩ (by
    intro f k v hk hI
    obtain ⟨hF, hD⟩ := hI
    have dO := swmD_lF hO hF
    have dA := swmD_lF hA hF
    have dB := swmD_lF hB hF
    have hB1 := dB.2.2.1
    have hBr := dB.2.2.2.1 k hk
    have hpl := pm_placeOf dA (B.2.1 k)
    have hpm := swpI_m (s := B.2.1 k) hA8
    have hn : (swMB O A B t k).1 < 16 := by
      have := swMB_16 O A B t hA8 (show k ≤ B.1 by omega)
      omega
    obtain ⟨l0, l1⟩ := pm_lays dO dA dB nA nB (B.2.1 k) t hD hn
    have e0 : swMB O A B t (k + 1) = if swhas A (B.2.1 k) = true then swMB O A B t k else if swKP O A B (B.2.1 k) t = true then swAp (swMB O A B t k) (B.2.1 k) (fun j => swKV O A B (B.2.1 k) j t) else swMB O A B t k := rfl
    cases hh : swhas A (B.2.1 k)
    case true =>
      rw [hh, if_pos rfl] at e0
      rw [hh] at hpm
      refine ⟨v, ⟨hF, by rw [e0]; exact hD⟩, ?_⟩
      show mx_layDeck_L49 (nI o) (nI a) (nI b) (swB t) _ (f + 1) (nI k) v = mx_layDeck_L49 (nI o) (nI a) (nI b) (swB t) _ f (nI (k + 1)) v
      rw [mx_layDeck_L49]
      simp (disch := omega) only [swlt_e, swbd_e, swrd_n, swgd_n, nI_clamp, sw8m, sw4m, sw4r, nI_add, nI_1, swsub, swsubn, sw4le, swleI, swltI, sweqI, sweqm, sw0add, if_pos, if_neg, if_true, if_false, sw1n0, sw0n1, eq_self, ↓reduceIte, hB1, hBr, hpl, hpm, Bool.true_eq_false]
    case false =>
      rw [hh, if_neg (by simp)] at e0
      rw [hh] at hpm
      cases hp : swKP O A B (B.2.1 k) t
      · rw [hp, if_neg (by simp)] at e0
        have hl := l0 hp
        refine ⟨v, ⟨hF, by rw [e0]; exact hD⟩, ?_⟩
        show mx_layDeck_L49 (nI o) (nI a) (nI b) (swB t) _ (f + 1) (nI k) v = mx_layDeck_L49 (nI o) (nI a) (nI b) (swB t) _ f (nI (k + 1)) v
        rw [mx_layDeck_L49]
        simp (disch := omega) only [swlt_e, swbd_e, swrd_n, swgd_n, nI_clamp, sw8m, sw4m, sw4r, nI_add, nI_1, swsub, swsubn, sw4le, swleI, swltI, sweqI, sweqm, sw0add, if_pos, if_neg, if_true, if_false, sw1n0, sw0n1, eq_self, ↓reduceIte, hB1, hBr, hpl, hpm, hl]
      · rw [hp, if_pos rfl] at e0
        obtain ⟨v', e1, e2, e3⟩ := l1 hp
        refine ⟨v', ⟨hF.tr e2, by rw [e0]; exact e3⟩, ?_⟩
        show mx_layDeck_L49 (nI o) (nI a) (nI b) (swB t) _ (f + 1) (nI k) v = mx_layDeck_L49 (nI o) (nI a) (nI b) (swB t) _ f (nI (k + 1)) v'
        rw [mx_layDeck_L49]
        simp (disch := omega) only [swlt_e, swbd_e, swrd_n, swgd_n, nI_clamp, sw8m, sw4m, sw4r, nI_add, nI_1, swsub, swsubn, sw4le, swleI, swltI, sweqI, sweqm, sw0add, if_pos, if_neg, if_true, if_false, sw1n0, sw0n1, eq_self, ↓reduceIte, hB1, hBr, hpl, hpm, e1]) (by omega)
  refine ⟨z, ?_, f2, d2⟩
  unfold mx_layDeck
  rw [swlt_e]
  refine Eq.trans hg ?_
  show mx_layDeck_L8 (nI o) (nI a) (nI b) (swB t) _ (g + 1) (nI A.1) s = _
  have hs1 := (swmD_lF hA f1).2.2.1
  have hz1 := (swmD_lF hB f2).2.2.1
  rw [mx_layDeck_L8]
  simp (disch := omega) only [swlt_e, swbd_e, swrd_n, swgd_n, nI_clamp, sw8m, sw4m, sw4r, nI_add, nI_1, swsub, swsubn, sw4le, swleI, swltI, sweqI, sweqm, sw0add, if_pos, if_neg, if_true, if_false, sw1n0, sw0n1, eq_self, ↓reduceIte, hs1]
  refine Eq.trans hg2 ?_
  show mx_layDeck_L49 (nI o) (nI a) (nI b) (swB t) _ (g2 + 1) (nI B.1) z = _
  rw [mx_layDeck_L49]
  simp (disch := omega) only [swlt_e, swbd_e, swrd_n, swgd_n, nI_clamp, sw8m, sw4m, sw4r, nI_add, nI_1, swsub, swsubn, sw4le, swleI, swltI, sweqI, sweqm, sw0add, if_pos, if_neg, if_true, if_false, sw1n0, sw0n1, eq_self, ↓reduceIte, hz1]
/-! whether the laid deck is blocked -/
theorem swB0a : ((swB true) = 0) = False := sw1n0
theorem pm_blk1 {w : swU} {E : swEv} (h : swmE w E) {X : swD} (hX : swLd w X) (h16 : X.1 ≤ 16) {k : Nat} (hk : k < X.1) (acc : Bool) (q : Option (Int32 × swU)) (KK : Int32 → Int32 → Option (Int32 × swU)) (hKK : ∀ x, KK (swB (acc || decide (0 < swBA E X k))) x = q) : mx_merge_L114 w (nI k) KK 64 (swB acc) 0 = q := by
  have h8 := h.1
  have hn := h.2.1
  obtain ⟨x22, x23, x24⟩ := hX
  have hany : decide (0 < swBA E X k) = sw_any E.1 (fun r => swBL E r (X.2.1 k) (X.2.2 k (swob E r))) := by
    have h1 := sw_cnt_pos (fun r => swBL E r (X.2.1 k) (X.2.2 k (swob E r))) E.1
    have h2 := sw_any_iff (fun r => swBL E r (X.2.1 k) (X.2.2 k (swob E r))) E.1
    cases hz : sw_any E.1 (fun r => swBL E r (X.2.1 k) (X.2.2 k (swob E r)))
    · refine decide_eq_false fun z => ?_
      have := h2.mpr (h1.mp z)
      rw [hz] at this
      cases this
    · exact decide_eq_true (h1.mpr (h2.mp hz))
  rw [hany] at hKK
  have e0 : swB acc = swB (acc || sw_any 0 (fun r => swBL E r (X.2.1 k) (X.2.2 k (swob E r)))) := by
    rw [show sw_any 0 (fun r => swBL E r (X.2.1 k) (X.2.2 k (swob E r))) = false from rfl, Bool.or_false]
  rw [e0]
  refine sw_up (fun f r => mx_merge_L114 w (nI k) KK f (swB (acc || sw_any r (fun r => swBL E r (X.2.1 k) (X.2.2 k (swob E r))))) (nI r)) E.1 _ (fun f r hr => ?_) (fun f => ?_) (by omega)
  · show mx_merge_L114 w (nI k) KK (f + 1) _ (nI r) = mx_merge_L114 w (nI k) KK f (swB (acc || (sw_any r (fun r => swBL E r (X.2.1 k) (X.2.2 k (swob E r))) || swBL E r (X.2.1 k) (X.2.2 k (swob E r))))) (nI (r + 1))
    rw [mx_merge_L114, ← Bool.or_assoc]
    obtain ⟨ho, heo⟩ := sw_obj (h.2.2.2.1 r hr)
    have r1 := (h.2.2.1 r hr).2.1
    have hrow := x23 k hk
    have hval := x24 k hk _ ho
    cases hz : (acc || sw_any r (fun r => swBL E r (X.2.1 k) (X.2.2 k (swob E r))))
    · cases hb : swBL E r (X.2.1 k) (X.2.2 k (swob E r))
      · simp (disch := omega) only [swlt_e, swbd_e, swrd_n, swgd_n, nI_clamp, sw8m, sw4m, sw4r, nI_add, nI_1, swsub, swsubn, sw4le, swleI, swltI, sweqI, sweqm, sw0add, if_pos, if_neg, if_true, if_false, sw1n0, sw0n1, eq_self, ↓reduceIte, hn, hrow, r1, heo, hval, pm_isBlocked h hr, hb, Bool.or_false]
      · simp (disch := omega) only [swlt_e, swbd_e, swrd_n, swgd_n, nI_clamp, sw8m, sw4m, sw4r, nI_add, nI_1, swsub, swsubn, sw4le, swleI, swltI, sweqI, sweqm, sw0add, if_pos, if_neg, if_true, if_false, sw1n0, sw0n1, eq_self, ↓reduceIte, hn, hrow, r1, heo, hval, pm_isBlocked h hr, hb, Bool.or_true]
    · simp (disch := omega) only [swlt_e, swbd_e, swrd_n, swgd_n, nI_clamp, sw8m, sw4m, sw4r, nI_add, nI_1, swsub, swsubn, sw4le, swleI, swltI, sweqI, sweqm, sw0add, if_pos, if_neg, if_true, if_false, sw1n0, sw0n1, eq_self, ↓reduceIte, hn, Bool.true_or]
  · show mx_merge_L114 w (nI k) KK (f + 1) _ (nI E.1) = _
    rw [mx_merge_L114]
    simp (disch := omega) only [swlt_e, swbd_e, swrd_n, swgd_n, nI_clamp, sw8m, sw4m, sw4r, nI_add, nI_1, swsub, swsubn, sw4le, swleI, swltI, sweqI, sweqm, sw0add, if_pos, if_neg, if_true, if_false, sw1n0, sw0n1, eq_self, ↓reduceIte, hn]
    exact hKK _
theorem pm_blk {w : swU} {E : swEv} (h : swmE w E) {X : swD} (hX : swLd w X) (h16 : X.1 ≤ 16) (KK : Int32 → Int32 → Option (Int32 × swU)) : mx_merge_L102 w KK 64 0 0 = KK (swB (decide (0 < swBK E X))) (nI X.1) := by
  have hx := hX.1
  have hany : decide (0 < swBK E X) = sw_any X.1 (fun k => decide (0 < swBA E X k)) := by
    have h1 := sw_sum_pos (swBA E X) X.1
    have h2 := sw_any_iff (fun k => decide (0 < swBA E X k)) X.1
    cases hz : sw_any X.1 (fun k => decide (0 < swBA E X k))
    · refine decide_eq_false fun z => ?_
      obtain ⟨k, q1, q2⟩ := h1.mp z
      have := h2.mpr ⟨k, q1, decide_eq_true q2⟩
      rw [hz] at this
      cases this
    · obtain ⟨k, q1, q2⟩ := h2.mp hz
      exact decide_eq_true (h1.mpr ⟨k, q1, of_decide_eq_true q2⟩)
  rw [hany]
  refine sw_up (fun f k => mx_merge_L102 w KK f (swB (sw_any k (fun k => decide (0 < swBA E X k)))) (nI k)) X.1 _ (fun f k hk => ?_) (fun f => ?_) (by omega)
  · show mx_merge_L102 w KK (f + 1) _ (nI k) = mx_merge_L102 w KK f (swB (sw_any k (fun k => decide (0 < swBA E X k)) || decide (0 < swBA E X k))) (nI (k + 1))
    rw [mx_merge_L102]
    have hle : ¬ nI X.1 ≤ nI k := by rw [swleI (by omega) (by omega)]; omega
    rw [hx, if_neg hle]
    exact pm_blk1 h hX h16 hk _ _ _ fun x => by rw [nI_1]
  · show mx_merge_L102 w KK (f + 1) _ (nI X.1) = _
    have hle : nI X.1 ≤ nI X.1 := by rw [swleI (by omega) (by omega)]; omega
    rw [mx_merge_L102, hx, if_pos hle]
/-! the laid deck becomes the new version's -/
theorem pm_cp1 {nv k : Nat} (h40 : nv < 40) (hk : k < 8) {s : swU} (KK : Int32 → swU → Option (Int32 × swU)) : ∃ s', sw4s 7 (4 * (8 * nv + k)) (fun o => s.1 24 (4 * k + o)) 4 s s' ∧ mx_merge_L302 (nI nv) (nI k) KK 64 0 s = KK (nI 4) s' := by
  obtain ⟨s', hs', f, hf⟩ := sw_upS (σ := swU) (fun f o s => mx_merge_L302 (nI nv) (nI k) KK f (nI o) s) (fun o s' => sw4s 7 (4 * (8 * nv + k)) (fun o => s.1 24 (4 * k + o)) o s s') 4 s (sw4s.zero _ _ _ _) (by
    intro f o t ho hI
    refine ⟨_, hI.step, ?_⟩
    show mx_merge_L302 (nI nv) (nI k) KK (f + 1) (nI o) t = mx_merge_L302 (nI nv) (nI k) KK f (nI (o + 1)) _
    rw [mx_merge_L302]
    have h7 : t.1 24 (4 * k + o) = s.1 24 (4 * k + o) := by rw [hI.1 24 (by omega)]
    simp (disch := omega) only [swlt_e, swbd_e, swrd_n, swgd_n, nI_clamp, sw8m, sw4m, sw4r, nI_add, nI_1, swsub, swsubn, sw4le, swleI, swltI, sweqI, sweqm, sw0add, if_pos, if_neg, if_true, if_false, sw1n0, sw0n1, eq_self, ↓reduceIte, h7]) (by omega)
  refine ⟨s', hs', Eq.trans hf ?_⟩
  show mx_merge_L302 (nI nv) (nI k) KK (f + 1) (nI 4) s' = _
  rw [mx_merge_L302]
  simp (disch := omega) only [swlt_e, swbd_e, swrd_n, swgd_n, nI_clamp, sw8m, sw4m, sw4r, nI_add, nI_1, swsub, swsubn, sw4le, swleI, swltI, sweqI, sweqm, sw0add, if_pos, if_neg, if_true, if_false, sw1n0, sw0n1, eq_self, ↓reduceIte]
theorem pm_cp {w : swU} {nv : Nat} {X : swD} (h40 : nv < 40) (hX : swLd w X) (h8 : X.1 ≤ 8) (h5 : w.1 5 nv = nI X.1) (r : Int32) : ∃ w', mx_merge_L270 (nI nv) (fun v9 w350 => some (r, w350)) 64 0 w = some (r, w') ∧ swmF nv w w' ∧ swmD w' nv X := by
  obtain ⟨x22, x23, x24⟩ := hX
  obtain ⟨s, ⟨hF, i5, i6, i7⟩, f, hf⟩ := sw_upS (σ := swU) (fun f k s => mx_merge_L270 (nI nv) (fun v9 w350 => some (r, w350)) f (nI k) s) (fun k s => swmF nv w s ∧ s.1 5 nv = nI X.1 ∧ (∀ j, j < k → s.1 6 (8 * nv + j) = X.2.1 j) ∧ (∀ j, j < k → ∀ o, o < 4 → s.1 7 (4 * (8 * nv + j) + o) = X.2.2 j o)) X.1 w ⟨swmF.rf _ _, h5, fun j hj => absurd hj (Nat.not_lt_zero j), fun j hj => absurd hj (Nat.not_lt_zero j)⟩ (by
    intro f k s hk hI
    obtain ⟨hF, i5, i6, i7⟩ := hI
    have g22 : s.1 0 22 = nI X.1 := by rw [hF.1 0 (by omega) (by omega) (by omega)]; exact x22
    have g23 : s.1 23 k = X.2.1 k := by rw [hF.1 23 (by omega) (by omega) (by omega)]; exact x23 k hk
    have g24 : s.1 24 = w.1 24 := hF.1 24 (by omega) (by omega) (by omega)
    obtain ⟨t, ht, he⟩ := pm_cp1 (s := swI s 6 (8 * nv + k) (X.2.1 k)) h40 (show k < 8 by omega) (fun v10 w344 => mx_merge_L270 (nI nv) (fun v9 w350 => some (r, w350)) f (nI k + 1) w344)
    refine ⟨t, ⟨(hF.tr (swmF.i6 nv s (by omega) _)).tr (swmF.s7 ht (by omega)), ?_, fun j hj => ?_, fun j hj o ho => ?_⟩, ?_⟩
    · rw [ht.1 5 (by omega), swI_ne (by omega)]
      exact i5
    · rw [ht.1 6 (by omega)]
      by_cases e : j = k
      · rw [e, swI_self]
      · rw [swI_k (by omega)]
        exact i6 j (by omega)
    · by_cases e : j = k
      · rw [e, ht.2.1 o ho, swI_ne (by omega), g24]
        exact x24 k hk o ho
      · rw [ht.2.2.1 _ (by omega), swI_ne (by omega)]
        exact i7 j (by omega) o ho
    · show mx_merge_L270 (nI nv) _ (f + 1) (nI k) s = mx_merge_L270 (nI nv) _ f (nI (k + 1)) t
      have hle : ¬ nI X.1 ≤ nI k := by rw [swleI (by omega) (by omega)]; omega
      rw [mx_merge_L270, g22, if_neg hle, swrd_n (by omega) (by omega), g23, sw8m, nI_add, swgd_n (by omega) (by omega), swlt_e, nI_clamp (by omega)]
      refine Eq.trans he ?_
      rw [nI_1]) (by omega)
  refine ⟨s, Eq.trans hf ?_, hF, h40, h8, i5, i6, i7⟩
  show mx_merge_L270 (nI nv) _ (f + 1) (nI X.1) s = _
  have g22 : s.1 0 22 = nI X.1 := by rw [hF.1 0 (by omega) (by omega) (by omega)]; exact x22
  rw [mx_merge_L270]
  simp (disch := omega) only [swlt_e, swbd_e, swrd_n, swgd_n, nI_clamp, sw8m, sw4m, sw4r, nI_add, nI_1, swsub, swsubn, sw4le, swleI, swltI, sweqI, sweqm, sw0add, if_pos, if_neg, if_true, if_false, sw1n0, sw0n1, eq_self, ↓reduceIte, g22]
