/-! ===== CALLS THAT MAKE A VERSION ===== -/
theorem srW.mono {ns ns' : Nat} {d : swD} (h : srW ns d) (hn : ns ≤ ns') : srW ns' d := ⟨h.1, fun k hk => by
  obtain ⟨s, hs, e⟩ := h.2.1 k hk
  exact ⟨s, by omega, e⟩, h.2.2⟩
theorem sw_ext {α : Type} (f : Nat → α) (k : Nat) (x : α) : ∃ g : Nat → α, g k = x ∧ ∀ q, q ≠ k → g q = f q := ⟨fun q => if q = k then x else f q, if_pos rfl, fun q hq => if_neg hq⟩
theorem swRl_new {u w u' w' : swU} {nv nb ns : Nat} {hd : Nat → Nat} {sh mo cm ot : Nat → Int32} {am : Nat → Nat} {dk : Nat → swD} {E : swEv} (h1 : sr1 nv u w) (h2 : sr2 nb u w) (h3 : sr3 ns u w) (h4 : sr4 nv nb hd u w) (h5 : sr5 nv sh u w) (h6 : sr6 nv mo cm ot am u w) (hA : srA nv cm ot am) (h7 : sr7 nv ns dk u w) (h8 : sr8 E u w)
    {b : Nat} (hb : b < nb) (h40 : nv < 40) {x2 : Int32} {mc : Nat} (hx : (x2 = -1 ∧ mc = 0) ∨ ∃ c, c < nv ∧ x2 = nI c ∧ mc = am c) {d : swD} {ns' : Nat} (hns : ns ≤ ns') (hns20 : ns' ≤ 20) (hu8 : u'.1 0 8 = nI ns') (hw8 : w'.1 0 8 = nI ns') (hV : swMV nv b (hd b) x2 ((am (hd b) ||| 2 ^ nv) ||| mc) d u u') (hW : swMW nv b (hd b) x2 d w w') (hdw : srW ns' d) : swRl u' w' := by
  obtain ⟨v1, v2, v3, v4, v5, v6, v7, v8, v9, v10, v11⟩ := hV
  obtain ⟨m1, m2, m3, m4, m5, m6, m7, m8, m9, m10, m11, m12⟩ := hW
  have hhb := (h4 b hb).1
  obtain ⟨hd', hd1, hd2⟩ := sw_ext hd b nv
  obtain ⟨mo', mo1, mo2⟩ := sw_ext mo nv (nI b)
  obtain ⟨cm', cm1, cm2⟩ := sw_ext cm nv (nI (hd b))
  obtain ⟨ot', ot1, ot2⟩ := sw_ext ot nv x2
  obtain ⟨am', am1, am2⟩ := sw_ext am nv ((am (hd b) ||| 2 ^ nv) ||| mc)
  obtain ⟨dk', dk1, dk2⟩ := sw_ext dk nv d
  refine ⟨nv + 1, nb, ns', hd', sh, mo', cm', ot', am', dk', E, ?_, ?_, ?_, ?_, ?_, ?_, ?_, ?_, ?_⟩
  · exact ⟨by omega, by omega, v1, m1⟩
  · obtain ⟨a1, a2, a3, a4⟩ := h2
    exact ⟨a1, a2, (v2 7 (by omega) (by omega)).trans a3, (m2 9 (by omega) (by omega)).trans a4⟩
  · exact ⟨hns20, hu8, hw8⟩
  · intro q hq
    by_cases e : q = b
    · rw [e]
      refine ⟨?_, ?_, ?_⟩
      · rw [hd1]
        omega
      · rw [hd1]
        exact v3
      · rw [hd1]
        exact m3
    · obtain ⟨a1, a2, a3⟩ := h4 q hq
      refine ⟨?_, ?_, ?_⟩
      · rw [hd2 q e]
        omega
      · rw [hd2 q e]
        exact (v4 q e).trans a2
      · rw [hd2 q e]
        exact (m4 q e).trans a3
  · intro q hq
    obtain ⟨a1, a2, a3⟩ := h5 q hq
    refine ⟨by rw [v10 2 (by omega) (by omega) (by omega) (by omega) (by omega) (by omega)]; exact a1, by rw [m11 11 (by omega)]; exact a2, ?_⟩
    rcases a3 with a3 | ⟨v, hv, a3⟩
    · exact Or.inl a3
    · exact Or.inr ⟨v, by omega, a3⟩
  · intro v hv
    by_cases e : v = nv
    · rw [e, mo1, cm1, ot1, am1]
      exact ⟨v5, v6, v7, m5, m6, m7, v8⟩
    · obtain ⟨a1, a2, a3, a4, a5, a6, a7⟩ := h6 v (by omega)
      obtain ⟨z2, z3, z4, -⟩ := m8 v e
      have g := v10 (100 + v) (by omega) (by omega) (by omega) (by omega) (by omega) (by omega)
      rw [mo2 v e, cm2 v e, ot2 v e, am2 v e, g, v9 _ (by omega)]
      exact ⟨a1, a2, a3, z2.trans a4, z3.trans a5, z4.trans a6, a7⟩
  · intro v hv
    by_cases e : v = nv
    · rw [e, cm1, ot1, am1]
      refine ⟨Or.inr ⟨hd b, hhb, rfl⟩, ?_, fun k => ?_⟩
      · rcases hx with ⟨hx, -⟩ | ⟨c, hc, hx, -⟩
        · exact Or.inl hx
        · exact Or.inr ⟨c, hc, hx⟩
      · rw [Nat.testBit_or, Nat.testBit_or, Nat.testBit_two_pow, Bool.or_eq_true, Bool.or_eq_true, decide_eq_true_iff]
        constructor
        · rintro ((z | z) | z)
          · refine Or.inr (Or.inl ⟨hd b, hhb, rfl, ?_⟩)
            rw [am2 _ (by omega)]
            exact z
          · exact Or.inl z.symm
          · rcases hx with ⟨-, hx⟩ | ⟨c, hc, hx, hm⟩
            · rw [hx, Nat.zero_testBit] at z
              cases z
            · refine Or.inr (Or.inr ⟨c, hc, hx, ?_⟩)
              rw [am2 _ (by omega), ← hm]
              exact z
        · rintro (z | ⟨c, hc, z, z2⟩ | ⟨c, hc, z, z2⟩)
          · exact Or.inl (Or.inr z.symm)
          · rw [am2 _ (by omega)] at z2
            rw [nI_eq (by omega) (by omega)] at z
            rw [z]
            exact Or.inl (Or.inl z2)
          · rw [am2 _ (by omega)] at z2
            rcases hx with ⟨hx, -⟩ | ⟨c', hc', hx, hm⟩
            · rw [hx] at z
              exact absurd z.symm (by rw [sweqm (by omega)]; exact id)
            · rw [hx, nI_eq (by omega) (by omega)] at z
              rw [hm, z]
              exact Or.inr z2
    · obtain ⟨a1, a2, a3⟩ := hA v (by omega)
      rw [cm2 v e, ot2 v e, am2 v e]
      refine ⟨a1, a2, fun k => ?_⟩
      rw [a3 k]
      constructor
      · rintro (z | ⟨c, hc, z, z2⟩ | ⟨c, hc, z, z2⟩)
        · exact Or.inl z
        · exact Or.inr (Or.inl ⟨c, hc, z, by rw [am2 _ (by omega)]; exact z2⟩)
        · exact Or.inr (Or.inr ⟨c, hc, z, by rw [am2 _ (by omega)]; exact z2⟩)
      · rintro (z | ⟨c, hc, z, z2⟩ | ⟨c, hc, z, z2⟩)
        · exact Or.inl z
        · rw [am2 _ (by omega)] at z2
          exact Or.inr (Or.inl ⟨c, hc, z, z2⟩)
        · rw [am2 _ (by omega)] at z2
          exact Or.inr (Or.inr ⟨c, hc, z, z2⟩)
  · intro v hv
    by_cases e : v = nv
    · rw [e, dk1]
      exact ⟨v11, m12, hdw⟩
    · obtain ⟨a1, a2, a3⟩ := h7 v (by omega)
      have c1 := v10 (200 + v) (by omega) (by omega) (by omega) (by omega) (by omega) (by omega)
      have c2 := v10 (200 + v + 100) (by omega) (by omega) (by omega) (by omega) (by omega) (by omega)
      have c3 := v10 (200 + v + 200) (by omega) (by omega) (by omega) (by omega) (by omega) (by omega)
      rw [dk2 v e]
      exact ⟨swcD_fr a1 (by rw [c1]) (fun _ _ => by rw [c2]) (fun _ _ _ _ => by rw [c3]), swmD_fr a2 (m8 v e).2.2.2 (fun k hk => m9 _ (by omega)) (fun k hk o ho => m10 _ (by omega)), a3.mono hns⟩
  · obtain ⟨a1, a2, a3⟩ := h8
    exact ⟨swcE_fe a1 (v2 9 (by omega) (by omega)) (v2 10 (by omega) (by omega)) (v2 11 (by omega) (by omega)) (fun c q1 q2 => v10 c (by omega) (by omega) (by omega) (by omega) (by omega) (by omega)), swmE_fe a2 (m2 12 (by omega) (by omega)) (m2 17 (by omega) (by omega)) (m2 21 (by omega) (by omega)) (fun c q1 q2 => m11 c (by omega)), a3⟩
theorem swMW.i8 {nv b hb : Nat} {x2 : Int32} {d : swD} {w w' : swU} (h : swMW nv b hb x2 d w w') (x : Int32) : swMW nv b hb x2 d w (swI w' 0 8 x) := by
  obtain ⟨m1, m2, m3, m4, m5, m6, m7, m8, m9, m10, m11, m12⟩ := h
  have g : ∀ c, c ≠ 0 → (swI w' 0 8 x).1 c = w'.1 c := fun c hc => swI_ne hc
  refine ⟨by rw [swI_k (by omega)]; exact m1, fun k q1 q2 => by rw [swI_k q2]; exact m2 k q1 q2, by rw [g 10 (by omega)]; exact m3, fun k hk => by rw [g 10 (by omega)]; exact m4 k hk, by rw [g 2 (by omega)]; exact m5, by rw [g 3 (by omega)]; exact m6, by rw [g 4 (by omega)]; exact m7, fun k hk => by rw [g 2 (by omega), g 3 (by omega), g 4 (by omega), g 5 (by omega)]; exact m8 k hk, fun i hi => by rw [g 6 (by omega)]; exact m9 i hi, fun i hi => by rw [g 7 (by omega)]; exact m10 i hi, fun q hq => by rw [g q (by omega)]; exact m11 q hq, swmD_fe m12 (g 5 (by omega)) (g 6 (by omega)) (g 7 (by omega))⟩
theorem swMW.x2 {nv b hb : Nat} {x2 : Int32} {d : swD} {w w' : swU} (h : swMW nv b hb x2 d w w') (x : Int32) : swMW nv b hb x d w (swI w' 4 nv x) := by
  obtain ⟨m1, m2, m3, m4, m5, m6, m7, m8, m9, m10, m11, m12⟩ := h
  have g : ∀ c, c ≠ 4 → (swI w' 4 nv x).1 c = w'.1 c := fun c hc => swI_ne hc
  refine ⟨by rw [g 0 (by omega)]; exact m1, fun k q1 q2 => by rw [g 0 (by omega)]; exact m2 k q1 q2, by rw [g 10 (by omega)]; exact m3, fun k hk => by rw [g 10 (by omega)]; exact m4 k hk, by rw [g 2 (by omega)]; exact m5, by rw [g 3 (by omega)]; exact m6, swI_self, fun k hk => by rw [g 2 (by omega), g 3 (by omega), swI_k hk, g 5 (by omega)]; exact m8 k hk, fun i hi => by rw [g 6 (by omega)]; exact m9 i hi, fun i hi => by rw [g 7 (by omega)]; exact m10 i hi, fun q hq => by rw [g q (by omega)]; exact m11 q hq, swmD_fe m12 (g 5 (by omega)) (g 6 (by omega)) (g 7 (by omega))⟩
theorem sw_n1 {d : swD} {ns : Nat} (h : srW ns d) (hns : ns ≤ 20) {k : Nat} (hk : k < d.1) : ¬ d.2.1 k = -1 := by
  obtain ⟨s, hs, e⟩ := h.2.1 k hk
  rw [e, sweqm (by omega)]
  exact id
theorem pm_edits0 {w : swU} {nv ns b hb : Nat} {d : swD} (hn : w.1 0 1 = nI nv) (h40 : nv < 40) (b6 : b < 6) (h10 : w.1 10 b = nI hb) (hhb : hb < nv) (hd : swmD w hb d) (hw : srW ns d) (hns : ns ≤ 20) : ∃ w', mx_edits w (nI b) (-1) = some (nI nv, w') ∧ swMW nv b hb (-1) d w w' ∧ w'.1 0 8 = w.1 0 8 := by
  obtain ⟨w', e, hW, h8w⟩ := pm_edits hn h40 b6 h10 hhb hd (-1) (Nat.le_refl d.1) (fun k hk => propext ⟨fun z => absurd z (sw_n1 hw hns hk), fun z => by omega⟩)
  have hn1 : (swrm d d.1).1 = d.1 := if_neg (Nat.lt_irrefl _)
  refine ⟨w', e, hW.deck (swmF.rf _ _) (swmD_cong hW.2.2.2.2.2.2.2.2.2.2.2 hn1.symm (fun k hk => ?_) (fun k hk o ho => ?_)), h8w⟩
  · rw [hn1] at hk
    show d.2.1 k = d.2.1 (if k < d.1 then k else k + 1)
    rw [if_pos hk]
  · rw [hn1] at hk
    show d.2.2 k o = d.2.2 (if k < d.1 then k else k + 1) o
    rw [if_pos hk]
theorem srW_ins {ns p : Nat} {d : swD} (h : srW ns d) (hns : ns ≤ 20) (hp : p ≤ d.1) : srW (ns + 1) (swins d p (nI ns)) := by
  obtain ⟨hn, hs, hi⟩ := h
  have nn : ∀ k, k < d.1 → ¬ d.2.1 k = nI ns := fun k hk => by
    obtain ⟨s, hs, e⟩ := hs k hk
    rw [e, nI_eq (by omega) (by omega)]
    omega
  refine ⟨fun k hk o ho => ?_, fun k hk => ?_, fun j k hj hk he => ?_⟩
  · have hk2 : k < d.1 + 1 := hk
    show 0 ≤ if k < p then d.2.2 k o else if k = p then 0 else d.2.2 (k - 1) o
    by_cases e1 : k < p
    · rw [if_pos e1]
      exact hn k (by omega) o ho
    · by_cases e2 : k = p
      · rw [if_neg e1, if_pos e2]
        decide
      · rw [if_neg e1, if_neg e2]
        exact hn _ (by omega) o ho
  · have hk2 : k < d.1 + 1 := hk
    show ∃ s, s < ns + 1 ∧ (if k < p then d.2.1 k else if k = p then nI ns else d.2.1 (k - 1)) = nI s
    by_cases e1 : k < p
    · rw [if_pos e1]
      obtain ⟨s, q, e⟩ := hs k (by omega)
      exact ⟨s, by omega, e⟩
    · by_cases e2 : k = p
      · rw [if_neg e1, if_pos e2]
        exact ⟨ns, by omega, rfl⟩
      · rw [if_neg e1, if_neg e2]
        obtain ⟨s, q, e⟩ := hs (k - 1) (by omega)
        exact ⟨s, by omega, e⟩
  · have hk2 : k < d.1 + 1 := hk
    have hj2 : j < d.1 + 1 := hj
    have he2 : (if j < p then d.2.1 j else if j = p then nI ns else d.2.1 (j - 1)) = (if k < p then d.2.1 k else if k = p then nI ns else d.2.1 (k - 1)) := he
    by_cases a1 : j < p
    · rw [if_pos a1] at he2
      by_cases e1 : k < p
      · rw [if_pos e1] at he2
        exact hi j k (by omega) (by omega) he2
      · by_cases e2 : k = p
        · rw [if_neg e1, if_pos e2] at he2
          exact absurd he2 (nn j (by omega))
        · rw [if_neg e1, if_neg e2] at he2
          have := hi j (k - 1) (by omega) (by omega) he2
          omega
    · by_cases a2 : j = p
      · rw [if_neg a1, if_pos a2] at he2
        by_cases e1 : k < p
        · rw [if_pos e1] at he2
          exact absurd he2.symm (nn k (by omega))
        · by_cases e2 : k = p
          · omega
          · rw [if_neg e1, if_neg e2] at he2
            exact absurd he2.symm (nn (k - 1) (by omega))
      · rw [if_neg a1, if_neg a2] at he2
        by_cases e1 : k < p
        · rw [if_pos e1] at he2
          have := hi (j - 1) k (by omega) (by omega) he2
          omega
        · by_cases e2 : k = p
          · rw [if_neg e1, if_pos e2] at he2
            exact absurd he2 (nn (j - 1) (by omega))
          · rw [if_neg e1, if_neg e2] at he2
            have := hi (j - 1) (k - 1) (by omega) (by omega) he2
            omega
theorem srW_set {ns p o : Nat} {d : swD} (h : srW ns d) {x : Int32} (hx : ¬ x < 0) : srW ns (swset d p o x) := by
  obtain ⟨hn, hs, hi⟩ := h
  refine ⟨fun k hk i hi => ?_, hs, hi⟩
  show 0 ≤ if k = p ∧ i = o then x else d.2.2 k i
  by_cases e : k = p ∧ i = o
  · rw [if_pos e]
    exact Int32.not_lt.mp hx
  · rw [if_neg e]
    exact hn k hk i hi
theorem srW_rm {ns p : Nat} {d : swD} (h : srW ns d) (hp : p < d.1) : srW ns (swrm d p) := by
  obtain ⟨hn, hs, hi⟩ := h
  have hn1 : (swrm d p).1 = d.1 - 1 := if_pos hp
  have hsk : ∀ k, k < d.1 - 1 → swsk p k < d.1 := fun k hk => by
    unfold swsk
    split <;> omega
  refine ⟨fun k hk i hi => ?_, fun k hk => ?_, fun j k hj hk he => ?_⟩
  · rw [hn1] at hk
    exact hn _ (hsk k hk) i hi
  · rw [hn1] at hk
    exact hs _ (hsk k hk)
  · rw [hn1] at hj hk
    have := hi _ _ (hsk j hj) (hsk k hk) he
    unfold swsk at this
    split at this <;> split at this <;> omega
theorem sw_room {u w : swU} {nv : Nat} (h1 : sr1 nv u w) : (nv = 40 → xx5_checkRoomForVersion u = some 3 ∧ (w.1 0 1 = 40) = True) ∧ (nv < 40 → xx5_checkRoomForVersion u = some 0 ∧ (w.1 0 1 = 40) = False) := by
  obtain ⟨-, h40, a, b⟩ := h1
  unfold xx5_checkRoomForVersion
  rw [a, b]
  constructor
  · intro e
    subst e
    exact ⟨rfl, eq_true rfl⟩
  · intro e
    refine ⟨if_pos ?_, eq_false ?_⟩
    · rw [show (40 : Int32) = nI 40 from rfl, nI_ltI (by omega) (by omega)]
      exact e
    · rw [show (40 : Int32) = nI 40 from rfl, nI_eq (by omega) (by omega)]
      omega
theorem op_add {u w : swU} (h : swRl u w) (x p : Int32) : swOM [(0, 0), (1, 1), (3, 2)] (xx5_add u x p) (mx_add w x p) := by
  have hR := h
  obtain ⟨nv, nb, ns, hd, sh, mo, cm, ot, am, dk, E, h1, h2, h3, h4, h5, h6, hA, h7, h8⟩ := h
  unfold xx5_add mx_add
  rcases sw_cas x (n := nb) (by have := h2.2.1; omega) with hx | ⟨b, hb, rfl⟩
  · obtain ⟨e1, e2⟩ := ckB_n h2 hx
    rw [e1, e2]
    exact swOM.no hR rfl rfl (by simp)
  obtain ⟨e1, e2⟩ := ckB_y h2 hb
  have hb6 := h2.2.1
  have h40 := h1.2.1
  obtain ⟨hh, c1, c2⟩ := h4 b hb
  obtain ⟨hc, hm, hw⟩ := h7 _ hh
  have hcn := hc.2.1
  have hmn := hm.2.2.1
  have h88 := hc.1
  obtain ⟨hr40, hrlt⟩ := sw_room h1
  have hns := h3.1
  have s3 := h3.2.1
  have s4 := h3.2.2
  rw [e1, e2, pc_headDeck h1 h2 h4 hb]
  rcases sw_cas p (n := (dk (hd b)).1 + 1) (by omega) with hx | ⟨q, hq, rfl⟩
  · have hin : mx_in p 0 (nI (dk (hd b)).1) = some false := by
      have := pm_in_no (by omega) hx
      rw [nI_pred] at this
      exact this
    refine swOM.no hR (c := 0) (t := 1) ?_ ?_ (by simp)
    · by_cases h0 : p < 0
      · simp (disch := omega) only [swlt_e, swbd_e, swrd_n, swgd_n, nI_clamp, sw8m, sw4m, sw4r, nI_add, nI_1, swsub, swsubn, sw4le, swleI, swltI, sweqI, sweqm, sw0add, if_pos, if_neg, if_true, if_false, sw1n0, sw0n1, eq_self, ↓reduceIte, swck_0, hcn, h0]
      · have hle : ¬ p ≤ nI (dk (hd b)).1 := by
          rcases hx with hx | hx
          · exact absurd hx h0
          · obtain ⟨m, hm, rfl⟩ := nI_of h0
            rw [nI_leI (by omega) hm] at hx
            rw [nI_leI hm (by omega)]
            omega
        simp (disch := omega) only [swlt_e, swbd_e, swrd_n, swgd_n, nI_clamp, sw8m, sw4m, sw4r, nI_add, nI_1, swsub, swsubn, sw4le, swleI, swltI, sweqI, sweqm, sw0add, if_pos, if_neg, if_true, if_false, sw1n0, sw0n1, eq_self, ↓reduceIte, swck_0, hcn, h0, hle]
    · simp (disch := omega) only [swlt_e, swbd_e, swrd_n, swgd_n, nI_clamp, sw8m, sw4m, sw4r, nI_add, nI_1, swsub, swsubn, sw4le, swleI, swltI, sweqI, sweqm, sw0add, if_pos, if_neg, if_true, if_false, sw1n0, sw0n1, eq_self, ↓reduceIte, swB_f, swB_t, c2, hmn, hin]
  have hin : mx_in (nI q) 0 (nI (dk (hd b)).1) = some true := by
    have := pm_in_yes (n := (dk (hd b)).1 + 1) (by omega) hq
    rw [nI_pred] at this
    exact this
  have hq0 : ¬ nI q < 0 := nI_pos (by omega)
  by_cases e8 : (dk (hd b)).1 = 8
  · refine swOM.no hR (c := 2) (t := 2) ?_ ?_ (by simp)
    · have : ¬ nI (dk (hd b)).1 < 8 := by rw [e8]; decide
      simp (disch := omega) only [swlt_e, swbd_e, swrd_n, swgd_n, nI_clamp, sw8m, sw4m, sw4r, nI_add, nI_1, swsub, swsubn, sw4le, swleI, swltI, sweqI, sweqm, sw0add, if_pos, if_neg, if_true, if_false, sw1n0, sw0n1, eq_self, ↓reduceIte, swck_0, hcn, hq0, this]
    · have : (nI (dk (hd b)).1 = 8) = True := by rw [e8]; exact eq_true rfl
      simp (disch := omega) only [swlt_e, swbd_e, swrd_n, swgd_n, nI_clamp, sw8m, sw4m, sw4r, nI_add, nI_1, swsub, swsubn, sw4le, swleI, swltI, sweqI, sweqm, sw0add, if_pos, if_neg, if_true, if_false, sw1n0, sw0n1, eq_self, ↓reduceIte, swB_f, swB_t, c2, hmn, hin, this]
  have l8 : nI (dk (hd b)).1 < 8 := by
    rw [show (8 : Int32) = nI 8 from rfl, nI_ltI (by omega) (by omega)]
    omega
  have n8 : (nI (dk (hd b)).1 = 8) = False := eq_false (by
    rw [show (8 : Int32) = nI 8 from rfl, nI_eq (by omega) (by omega)]
    exact e8)
  by_cases e20 : ns = 20
  · refine swOM.no hR (c := 2) (t := 2) ?_ ?_ (by simp)
    · have : ¬ nI ns < 20 := by rw [e20]; decide
      simp (disch := omega) only [swlt_e, swbd_e, swrd_n, swgd_n, nI_clamp, sw8m, sw4m, sw4r, nI_add, nI_1, swsub, swsubn, sw4le, swleI, swltI, sweqI, sweqm, sw0add, if_pos, if_neg, if_true, if_false, sw1n0, sw0n1, eq_self, ↓reduceIte, swck_0, hcn, hq0, l8, s3, this]
    · have : (nI ns = 20) = True := by rw [e20]; exact eq_true rfl
      simp (disch := omega) only [swlt_e, swbd_e, swrd_n, swgd_n, nI_clamp, sw8m, sw4m, sw4r, nI_add, nI_1, swsub, swsubn, sw4le, swleI, swltI, sweqI, sweqm, sw0add, if_pos, if_neg, if_true, if_false, sw1n0, sw0n1, eq_self, ↓reduceIte, swB_f, swB_t, c2, hmn, hin, n8, s4, this]
  have l20 : nI ns < 20 := by
    rw [show (20 : Int32) = nI 20 from rfl, nI_ltI (by omega) (by omega)]
    omega
  have n20 : (nI ns = 20) = False := eq_false (by
    rw [show (20 : Int32) = nI 20 from rfl, nI_eq (by omega) (by omega)]
    exact e20)
  by_cases e40 : nv = 40
  · obtain ⟨r1, r2⟩ := hr40 e40
    refine swOM.no hR (c := 2) (t := 2) ?_ ?_ (by simp)
    · simp (disch := omega) only [swlt_e, swbd_e, swrd_n, swgd_n, nI_clamp, sw8m, sw4m, sw4r, nI_add, nI_1, swsub, swsubn, sw4le, swleI, swltI, sweqI, sweqm, sw0add, if_pos, if_neg, if_true, if_false, sw1n0, sw0n1, eq_self, ↓reduceIte, swck_0, hcn, hq0, l8, s3, l20, r1]
      rfl
    · simp (disch := omega) only [swlt_e, swbd_e, swrd_n, swgd_n, nI_clamp, sw8m, sw4m, sw4r, nI_add, nI_1, swsub, swsubn, sw4le, swleI, swltI, sweqI, sweqm, sw0add, if_pos, if_neg, if_true, if_false, sw1n0, sw0n1, eq_self, ↓reduceIte, swB_f, swB_t, c2, hmn, hin, n8, s4, n20, r2]
  obtain ⟨r1, r2⟩ := hrlt (by omega)
  obtain ⟨u1, f1, g1, g8⟩ := pc_makeVersion (u := swI u 0 8 (nI (ns + 1))) (nv := nv) (b := b) (hb := hd b) (x2 := -1) (m := am (hd b)) (mc := 0) (d := dk (hd b)) (by omega) (by rw [swI_k (by omega)]; exact h1.2.2.1) (by omega) hh (by rw [swI_ne (by omega)]; exact c1) (by rw [swI_2]; exact (h6 _ hh).2.2.2.2.2.2) (Or.inl ⟨rfl, rfl⟩) (swcD_fr hc (by rw [swI_ne (by omega)]) (fun _ _ => by rw [swI_ne (by omega)]) (fun _ _ _ _ => by rw [swI_ne (by omega)]))
  have hu8 : u1.1 0 8 = nI (ns + 1) := g8.trans swI_self
  obtain ⟨u2, f2, g2, g3⟩ := pc_insert g1.2.2.2.2.2.2.2.2.2.2 (by omega) (show q ≤ (dk (hd b)).1 by omega) (nI ns)
  obtain ⟨w1, k1, k2, k8⟩ := pm_edits0 (w := swI w 0 0 0) (nv := nv) (ns := ns) (by rw [swI_k (by omega)]; exact h1.2.2.2) (by omega) (show b < 6 by omega) (by rw [swI_ne (by omega)]; exact c2) hh (swmD_ag hm (swAg.t w 0)) hw hns
  have hw8 : w1.1 0 8 = nI ns := k8.trans ((swI_k (by omega)).trans s4)
  have k5 : w1.1 5 nv = nI (dk (hd b)).1 := k2.2.2.2.2.2.2.2.2.2.2.2.2.2.1
  obtain ⟨w2, k3, k4, k6⟩ := pm_addtail (show nv < 40 by omega) k2.2.2.2.2.2.2.2.2.2.2.2 (by omega) (show q ≤ (dk (hd b)).1 by omega) hw8 (fun u243 => swlt (swI u243 0 8 (((u243.1 0 8) + 1))) fun u251 => some (((u251.1 0 8) - 1), u251))
  have w28 : w2.1 0 8 = nI ns := by rw [k4.1 0 (by omega) (by omega) (by omega)]; exact hw8
  have hWn := k2.deck k4 k6
  refine swOM.mk (c := 0) (r := nI ns) (u' := u2) (b := nI ns) (w' := swI w2 0 8 (nI (ns + 1))) (t := 0) ?_ ?_ ?_ (by simp) (fun _ => rfl) ?_
  · simp (disch := omega) only [swlt_e, swbd_e, swrd_n, swgd_n, nI_clamp, sw8m, sw4m, sw4r, nI_add, nI_1, swsub, swsubn, sw4le, swleI, swltI, sweqI, sweqm, sw0add, if_pos, if_neg, if_true, if_false, sw1n0, sw0n1, eq_self, ↓reduceIte, swck_0, hcn, hq0, l8, s3, l20, r1, f1, f2]
  · simp (disch := omega) only [swlt_e, swbd_e, swrd_n, swgd_n, nI_clamp, sw8m, sw4m, sw4r, nI_add, nI_1, swsub, swsubn, sw4le, swleI, swltI, sweqI, sweqm, sw0add, if_pos, if_neg, if_true, if_false, sw1n0, sw0n1, eq_self, ↓reduceIte, swB_f, swB_t, c2, hmn, hin, n8, s4, n20, r2, k1, k5, w28, swI_self, Nat.add_sub_cancel] at k3
    simp (disch := omega) only [swlt_e, swbd_e, swrd_n, swgd_n, nI_clamp, sw8m, sw4m, sw4r, nI_add, nI_1, swsub, swsubn, sw4le, swleI, swltI, sweqI, sweqm, sw0add, if_pos, if_neg, if_true, if_false, sw1n0, sw0n1, eq_self, ↓reduceIte, swB_f, swB_t, c2, hmn, hin, n8, s4, n20, r2, k1, k5, w28, swI_self, Nat.add_sub_cancel]
    exact k3
  · rw [swI_k (by omega), hWn.2.1 0 (by omega) (by omega), swI_self]
  · have ag := swAg.t w 0
    refine swRl_new (h1.ag ag) (h2.ag ag) (h3.ag ag) (h4.ag ag) (h5.ag ag) (h6.ag ag) hA (h7.ag ag) (h8.ag ag) hb (by omega) (x2 := -1) (mc := 0) (d := swins (dk (hd b)) q (nI ns)) (ns' := ns + 1) (Or.inl ⟨rfl, rfl⟩) (by omega) (by omega) ?_ swI_self ((g1.deck (by omega) g2 g3).pre8) (hWn.i8 _) (srW_ins hw hns (by omega))
    rw [g2.1 0 (by omega) (by omega) (by omega)]
    exact hu8
theorem swcki_1 {α : Type} {ex : Nat → Option α} {k : Int32 → Option α} {n : Nat} {r : Int32} : swcki (some (n + 1, r)) ex k = ex (n + 1) := rfl
theorem swcki_0 {α : Type} {ex : Nat → Option α} {k : Int32 → Option α} {r : Int32} : swcki (some (0, r)) ex k = k r := rfl
theorem op_set {u w : swU} (h : swRl u w) (x s j t : Int32) : swOM [(0, 0), (1, 1), (2, 2), (3, 3)] (xx5_set u x s j t) (mx_set w x s j t) := by
  have hR := h
  obtain ⟨nv, nb, ns, hd, sh, mo, cm, ot, am, dk, E, h1, h2, h3, h4, h5, h6, hA, h7, h8⟩ := h
  unfold xx5_set mx_set
  rcases sw_cas x (n := nb) (by have := h2.2.1; omega) with hx | ⟨b, hb, rfl⟩
  · obtain ⟨e1, e2⟩ := ckB_n h2 hx
    refine swOM.no hR (c := 0) (t := 1) ?_ ?_ (by simp)
    · rw [e1]
      rfl
    · have : mx_isInHead w x s = some false := by
        unfold mx_isInHead
        rw [e2]
        rfl
      rw [this]
      rfl
  obtain ⟨e1, e2⟩ := ckB_y h2 hb
  have hb6 := h2.2.1
  have h40 := h1.2.1
  obtain ⟨hh, c1, c2⟩ := h4 b hb
  obtain ⟨hc, hm, hw⟩ := h7 _ hh
  have h88 := hc.1
  obtain ⟨hr40, hrlt⟩ := sw_room h1
  have hns := h3.1
  have s3 := h3.2.1
  have s4 := h3.2.2
  have hpI := swpI_m (s := s) h88
  have hmh : mx_isInHead w (nI b) s = some (swhas (dk (hd b)) s) := by
    unfold mx_isInHead
    rw [e2]
    cases hq : swhas (dk (hd b)) s
    · simp (disch := omega) only [swlt_e, swbd_e, swrd_n, swgd_n, nI_clamp, sw8m, sw4m, sw4r, nI_add, nI_1, swsub, swsubn, sw4le, swleI, swltI, sweqI, sweqm, sw0add, if_pos, if_neg, if_true, if_false, sw1n0, sw0n1, eq_self, ↓reduceIte, swB_t, c2, pm_placeOf hm, hpI, hq]
    · simp (disch := omega) only [swlt_e, swbd_e, swrd_n, swgd_n, nI_clamp, sw8m, sw4m, sw4r, nI_add, nI_1, swsub, swsubn, sw4le, swleI, swltI, sweqI, sweqm, sw0add, if_pos, if_neg, if_true, if_false, sw1n0, sw0n1, eq_self, ↓reduceIte, swB_t, c2, pm_placeOf hm, hpI, hq, Bool.true_eq_false]
  have hph : xx5_placeInHead u (nI b) s = if swhas (dk (hd b)) s = true then some (0, nI (swpl (dk (hd b)) s)) else some (1, 0) := by
    unfold xx5_placeInHead
    rw [pc_headDeck h1 h2 h4 hb]
    cases hq : swhas (dk (hd b)) s
    · simp (disch := omega) only [swlt_e, swbd_e, swrd_n, swgd_n, nI_clamp, sw8m, sw4m, sw4r, nI_add, nI_1, swsub, swsubn, sw4le, swleI, swltI, sweqI, sweqm, sw0add, if_pos, if_neg, if_true, if_false, sw1n0, sw0n1, eq_self, ↓reduceIte, pc_placeOf hc, hpI, hq, Bool.false_eq_true]
    · have hp2 := (swpI_h hq).1
      simp (disch := omega) only [swlt_e, swbd_e, swrd_n, swgd_n, nI_clamp, sw8m, sw4m, sw4r, nI_add, nI_1, swsub, swsubn, sw4le, swleI, swltI, sweqI, sweqm, sw0add, if_pos, if_neg, if_true, if_false, sw1n0, sw0n1, eq_self, ↓reduceIte, pc_placeOf hc, hpI, hq, Bool.true_eq_false]
      rw [hp2]
  rw [e1, hmh, hph]
  cases hq : swhas (dk (hd b)) s
  · exact swOM.no hR (c := 0) (t := 1) rfl rfl (by simp)
  have hpl := (swpI_h hq).2
  rcases sw_cas j (n := 4) (by omega) with hx | ⟨i, hi, rfl⟩
  · obtain ⟨e5, e6⟩ := ckO_n (u := u) hx
    rw [e5, e6]
    exact swOM.no hR (c := 0) (t := 1) rfl rfl (by simp)
  obtain ⟨e5, e6⟩ := ckO_y (u := u) hi
  rw [e5, e6]
  by_cases r1 : t < 0
  · refine swOM.no hR (c := 1) (t := 2) ?_ ?_ (by simp)
    · simp (disch := omega) only [swlt_e, swbd_e, swrd_n, swgd_n, nI_clamp, sw8m, sw4m, sw4r, nI_add, nI_1, swsub, swsubn, sw4le, swleI, swltI, sweqI, sweqm, sw0add, if_pos, if_neg, if_true, if_false, sw1n0, sw0n1, eq_self, ↓reduceIte, swck_0, swcki_0, r1]
    · have : mx_in t 0 999 = some false := by
        unfold mx_in
        simp (disch := omega) only [swlt_e, swbd_e, swrd_n, swgd_n, nI_clamp, sw8m, sw4m, sw4r, nI_add, nI_1, swsub, swsubn, sw4le, swleI, swltI, sweqI, sweqm, sw0add, if_pos, if_neg, if_true, if_false, sw1n0, sw0n1, eq_self, ↓reduceIte, r1]
      simp (disch := omega) only [swlt_e, swbd_e, swrd_n, swgd_n, nI_clamp, sw8m, sw4m, sw4r, nI_add, nI_1, swsub, swsubn, sw4le, swleI, swltI, sweqI, sweqm, sw0add, if_pos, if_neg, if_true, if_false, sw1n0, sw0n1, eq_self, ↓reduceIte, swB_t, swB_f, this]
  by_cases r2 : 999 < t
  · refine swOM.no hR (c := 1) (t := 2) ?_ ?_ (by simp)
    · simp (disch := omega) only [swlt_e, swbd_e, swrd_n, swgd_n, nI_clamp, sw8m, sw4m, sw4r, nI_add, nI_1, swsub, swsubn, sw4le, swleI, swltI, sweqI, sweqm, sw0add, if_pos, if_neg, if_true, if_false, sw1n0, sw0n1, eq_self, ↓reduceIte, swck_0, swcki_0, r1, sw_le_not r2]
    · have : mx_in t 0 999 = some false := by
        unfold mx_in
        simp (disch := omega) only [swlt_e, swbd_e, swrd_n, swgd_n, nI_clamp, sw8m, sw4m, sw4r, nI_add, nI_1, swsub, swsubn, sw4le, swleI, swltI, sweqI, sweqm, sw0add, if_pos, if_neg, if_true, if_false, sw1n0, sw0n1, eq_self, ↓reduceIte, r1, r2]
      simp (disch := omega) only [swlt_e, swbd_e, swrd_n, swgd_n, nI_clamp, sw8m, sw4m, sw4r, nI_add, nI_1, swsub, swsubn, sw4le, swleI, swltI, sweqI, sweqm, sw0add, if_pos, if_neg, if_true, if_false, sw1n0, sw0n1, eq_self, ↓reduceIte, swB_t, swB_f, this]
  have rx : mx_in t 0 999 = some true := by
    unfold mx_in
    simp (disch := omega) only [swlt_e, swbd_e, swrd_n, swgd_n, nI_clamp, sw8m, sw4m, sw4r, nI_add, nI_1, swsub, swsubn, sw4le, swleI, swltI, sweqI, sweqm, sw0add, if_pos, if_neg, if_true, if_false, sw1n0, sw0n1, eq_self, ↓reduceIte, r1, r2]
  by_cases e40 : nv = 40
  · obtain ⟨q1, q2⟩ := hr40 e40
    refine swOM.no hR (c := 2) (t := 3) ?_ ?_ (by simp)
    · simp (disch := omega) only [swlt_e, swbd_e, swrd_n, swgd_n, nI_clamp, sw8m, sw4m, sw4r, nI_add, nI_1, swsub, swsubn, sw4le, swleI, swltI, sweqI, sweqm, sw0add, if_pos, if_neg, if_true, if_false, sw1n0, sw0n1, eq_self, ↓reduceIte, swck_0, swcki_0, r1, sw_le_yes r2, q1]
      rfl
    · simp (disch := omega) only [swlt_e, swbd_e, swrd_n, swgd_n, nI_clamp, sw8m, sw4m, sw4r, nI_add, nI_1, swsub, swsubn, sw4le, swleI, swltI, sweqI, sweqm, sw0add, if_pos, if_neg, if_true, if_false, sw1n0, sw0n1, eq_self, ↓reduceIte, swB_t, swB_f, rx, q2]
  obtain ⟨q1, q2⟩ := hrlt (by omega)
  obtain ⟨u1, f1, g1, g8⟩ := pc_makeVersion (u := u) (nv := nv) (b := b) (hb := hd b) (x2 := -1) (m := am (hd b)) (mc := 0) (d := dk (hd b)) (by omega) h1.2.2.1 (by omega) hh c1 (h6 _ hh).2.2.2.2.2.2 (Or.inl ⟨rfl, rfl⟩) hc
  have gd := g1.2.2.2.2.2.2.2.2.2.2
  obtain ⟨g2, g3⟩ := pc_putD gd hpl hi t
  obtain ⟨w1, k1, k2, k8⟩ := pm_edits0 (w := swI w 0 0 0) (nv := nv) (ns := ns) (by rw [swI_k (by omega)]; exact h1.2.2.2) (by omega) (show b < 6 by omega) (by rw [swI_ne (by omega)]; exact c2) hh (swmD_ag hm (swAg.t w 0)) hw hns
  have kd := k2.2.2.2.2.2.2.2.2.2.2.2
  have kp := pm_placeOf kd s
  rw [(swpI_h hq).1] at kp
  have kval := kd.2.2.2.2 _ hpl i hi
  have hdv : xx0_valueAt u1 (200 + nv) (nI (swpl (dk (hd b)) s)) (nI i) = some ((dk (hd b)).2.2 (swpl (dk (hd b)) s) i) := pc_valueAt gd hpl hi
  refine swOM.mk (c := 0) (r := (dk (hd b)).2.2 (swpl (dk (hd b)) s) i) (u' := swI u1 (200 + nv + 200) (4 * swpl (dk (hd b)) s + i) t) (b := (dk (hd b)).2.2 (swpl (dk (hd b)) s) i) (w' := swI w1 7 (4 * (8 * nv + swpl (dk (hd b)) s) + i) t) (t := 0) ?_ ?_ ?_ (by simp) (fun _ => rfl) ?_
  · simp (disch := omega) only [swlt_e, swbd_e, swrd_n, swgd_n, nI_clamp, sw8m, sw4m, sw4r, nI_add, nI_1, swsub, swsubn, sw4le, swleI, swltI, sweqI, sweqm, sw0add, if_pos, if_neg, if_true, if_false, sw1n0, sw0n1, eq_self, ↓reduceIte, swck_0, swcki_0, r1, sw_le_yes r2, q1, f1, hdv, pc_put]
  · simp (disch := omega) only [swlt_e, swbd_e, swrd_n, swgd_n, nI_clamp, sw8m, sw4m, sw4r, nI_add, nI_1, swsub, swsubn, sw4le, swleI, swltI, sweqI, sweqm, sw0add, if_pos, if_neg, if_true, if_false, sw1n0, sw0n1, eq_self, ↓reduceIte, swB_t, swB_f, rx, q2, k1, kp, kval]
  · rw [swI_ne (by omega), k2.2.1 0 (by omega) (by omega), swI_self]
  · have ag := swAg.t w 0
    refine swRl_new (h1.ag ag) (h2.ag ag) (h3.ag ag) (h4.ag ag) (h5.ag ag) (h6.ag ag) hA (h7.ag ag) (h8.ag ag) hb (by omega) (x2 := -1) (mc := 0) (d := swset (dk (hd b)) (swpl (dk (hd b)) s) i t) (ns' := ns) (Or.inl ⟨rfl, rfl⟩) (by omega) (by omega) ?_ ?_ (g1.deck (by omega) g2 g3) (k2.deck (w'' := swI w1 7 (4 * (8 * nv + swpl (dk (hd b)) s) + i) t) ⟨fun q _ _ z => swI_ne z, fun k _ => by rw [swI_ne (by omega)], fun k _ => by rw [swI_ne (by omega)], fun k hk => swI_k (by omega)⟩ ?_) (srW_set hw r1)
    · rw [g2.1 0 (by omega) (by omega) (by omega)]
      exact g8.trans s3
    · rw [swI_ne (by omega)]
      exact k8.trans ((swI_k (by omega)).trans s4)
    · obtain ⟨z0, z1, z2, z3, z4⟩ := kd
      refine ⟨z0, z1, by rw [swI_ne (by omega)]; exact z2, fun k hk => by rw [swI_ne (by omega)]; exact z3 k hk, fun k hk o ho => ?_⟩
      have hk8 : k < (dk (hd b)).1 := hk
      show _ = if k = swpl (dk (hd b)) s ∧ o = i then t else (dk (hd b)).2.2 k o
      by_cases e : k = swpl (dk (hd b)) s ∧ o = i
      · rw [if_pos e, e.1, e.2, swI_self]
      · rw [if_neg e, swI_k (by omega)]
        exact z4 k hk o ho
theorem op_drop {u w : swU} (h : swRl u w) (x s : Int32) : swOM [(0, 0), (1, 1), (3, 2)] (xx5_drop u x s) (mx_drop w x s) := by
  have hR := h
  obtain ⟨nv, nb, ns, hd, sh, mo, cm, ot, am, dk, E, h1, h2, h3, h4, h5, h6, hA, h7, h8⟩ := h
  unfold xx5_drop mx_drop
  rcases sw_cas x (n := nb) (by have := h2.2.1; omega) with hx | ⟨b, hb, rfl⟩
  · obtain ⟨e1, e2⟩ := ckB_n h2 hx
    refine swOM.no hR (c := 0) (t := 1) ?_ ?_ (by simp)
    · rw [e1]
      rfl
    · have : mx_isInHead w x s = some false := by
        unfold mx_isInHead
        rw [e2]
        rfl
      rw [this]
      rfl
  obtain ⟨e1, e2⟩ := ckB_y h2 hb
  have hb6 := h2.2.1
  have h40 := h1.2.1
  obtain ⟨hh, c1, c2⟩ := h4 b hb
  obtain ⟨hc, hm, hw⟩ := h7 _ hh
  have h88 := hc.1
  obtain ⟨hr40, hrlt⟩ := sw_room h1
  have hns := h3.1
  have s3 := h3.2.1
  have s4 := h3.2.2
  have hpI := swpI_m (s := s) h88
  have hmh : mx_isInHead w (nI b) s = some (swhas (dk (hd b)) s) := by
    unfold mx_isInHead
    rw [e2]
    cases hq : swhas (dk (hd b)) s
    · simp (disch := omega) only [swlt_e, swbd_e, swrd_n, swgd_n, nI_clamp, sw8m, sw4m, sw4r, nI_add, nI_1, swsub, swsubn, sw4le, swleI, swltI, sweqI, sweqm, sw0add, if_pos, if_neg, if_true, if_false, sw1n0, sw0n1, eq_self, ↓reduceIte, swB_t, c2, pm_placeOf hm, hpI, hq]
    · simp (disch := omega) only [swlt_e, swbd_e, swrd_n, swgd_n, nI_clamp, sw8m, sw4m, sw4r, nI_add, nI_1, swsub, swsubn, sw4le, swleI, swltI, sweqI, sweqm, sw0add, if_pos, if_neg, if_true, if_false, sw1n0, sw0n1, eq_self, ↓reduceIte, swB_t, c2, pm_placeOf hm, hpI, hq, Bool.true_eq_false]
  have hph : xx5_placeInHead u (nI b) s = if swhas (dk (hd b)) s = true then some (0, nI (swpl (dk (hd b)) s)) else some (1, 0) := by
    unfold xx5_placeInHead
    rw [pc_headDeck h1 h2 h4 hb]
    cases hq : swhas (dk (hd b)) s
    · simp (disch := omega) only [swlt_e, swbd_e, swrd_n, swgd_n, nI_clamp, sw8m, sw4m, sw4r, nI_add, nI_1, swsub, swsubn, sw4le, swleI, swltI, sweqI, sweqm, sw0add, if_pos, if_neg, if_true, if_false, sw1n0, sw0n1, eq_self, ↓reduceIte, pc_placeOf hc, hpI, hq, Bool.false_eq_true]
    · have hp2 := (swpI_h hq).1
      simp (disch := omega) only [swlt_e, swbd_e, swrd_n, swgd_n, nI_clamp, sw8m, sw4m, sw4r, nI_add, nI_1, swsub, swsubn, sw4le, swleI, swltI, sweqI, sweqm, sw0add, if_pos, if_neg, if_true, if_false, sw1n0, sw0n1, eq_self, ↓reduceIte, pc_placeOf hc, hpI, hq, Bool.true_eq_false]
      rw [hp2]
  rw [e1, hmh, hph]
  cases hq : swhas (dk (hd b)) s
  · exact swOM.no hR (c := 0) (t := 1) rfl rfl (by simp)
  have hpl := (swpI_h hq).2
  by_cases e40 : nv = 40
  · obtain ⟨q1, q2⟩ := hr40 e40
    refine swOM.no hR (c := 2) (t := 2) ?_ ?_ (by simp)
    · simp (disch := omega) only [swlt_e, swbd_e, swrd_n, swgd_n, nI_clamp, sw8m, sw4m, sw4r, nI_add, nI_1, swsub, swsubn, sw4le, swleI, swltI, sweqI, sweqm, sw0add, if_pos, if_neg, if_true, if_false, sw1n0, sw0n1, eq_self, ↓reduceIte, swck_0, swcki_0, q1]
      rfl
    · simp (disch := omega) only [swlt_e, swbd_e, swrd_n, swgd_n, nI_clamp, sw8m, sw4m, sw4r, nI_add, nI_1, swsub, swsubn, sw4le, swleI, swltI, sweqI, sweqm, sw0add, if_pos, if_neg, if_true, if_false, sw1n0, sw0n1, eq_self, ↓reduceIte, swB_t, swB_f, q2]
  obtain ⟨q1, q2⟩ := hrlt (by omega)
  obtain ⟨u1, f1, g1, g8⟩ := pc_makeVersion (u := u) (nv := nv) (b := b) (hb := hd b) (x2 := -1) (m := am (hd b)) (mc := 0) (d := dk (hd b)) (by omega) h1.2.2.1 (by omega) hh c1 (h6 _ hh).2.2.2.2.2.2 (Or.inl ⟨rfl, rfl⟩) hc
  have gd := g1.2.2.2.2.2.2.2.2.2.2
  obtain ⟨u2, f2, g2, g3⟩ := pc_removeAt gd hpl
  have hp2 := swpl_eq hpl
  obtain ⟨w1, k1, k2, k8⟩ := pm_edits (w := swI w 0 0 0) (nv := nv) (by rw [swI_k (by omega)]; exact h1.2.2.2) (by omega) (show b < 6 by omega) (by rw [swI_ne (by omega)]; exact c2) hh (swmD_ag hm (swAg.t w 0)) s (p := swpl (dk (hd b)) s) (by omega) (fun k hk => propext ⟨fun z => hw.2.2 k _ hk hpl (z.trans hp2.symm), fun z => by rw [z]; exact hp2⟩)
  have hV := g1.deck (by omega) g2 g3
  have hu2 : u2.1 1 b = nI nv := hV.2.2.1
  refine swOM.mk (c := 0) (r := nI nv) (u' := u2) (b := nI nv) (w' := w1) (t := 0) ?_ ?_ ?_ (by simp) (fun _ => rfl) ?_
  · simp (disch := omega) only [swlt_e, swbd_e, swrd_n, swgd_n, nI_clamp, sw8m, sw4m, sw4r, nI_add, nI_1, swsub, swsubn, sw4le, swleI, swltI, sweqI, sweqm, sw0add, if_pos, if_neg, if_true, if_false, sw1n0, sw0n1, eq_self, ↓reduceIte, swck_0, swcki_0, q1, f1, f2, hu2]
  · simp (disch := omega) only [swlt_e, swbd_e, swrd_n, swgd_n, nI_clamp, sw8m, sw4m, sw4r, nI_add, nI_1, swsub, swsubn, sw4le, swleI, swltI, sweqI, sweqm, sw0add, if_pos, if_neg, if_true, if_false, sw1n0, sw0n1, eq_self, ↓reduceIte, swB_t, swB_f, q2, k1]
  · rw [k2.2.1 0 (by omega) (by omega), swI_self]
  · have ag := swAg.t w 0
    refine swRl_new (h1.ag ag) (h2.ag ag) (h3.ag ag) (h4.ag ag) (h5.ag ag) (h6.ag ag) hA (h7.ag ag) (h8.ag ag) hb (by omega) (x2 := -1) (mc := 0) (d := swrm (dk (hd b)) (swpl (dk (hd b)) s)) (ns' := ns) (Or.inl ⟨rfl, rfl⟩) (by omega) (by omega) ?_ ?_ hV k2 (srW_rm hw hpl)
    · rw [g2.1 0 (by omega) (by omega) (by omega)]
      exact g8.trans s3
    · exact k8.trans ((swI_k (by omega)).trans s4)
