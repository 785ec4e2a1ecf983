/-! ===== rules, waivers; what changes them alone ===== -/
theorem lwR_E {t t' nv nb ns : Nat} {hd : Nat → Nat} {sh mo cm ot : Nat → Int32} {am : Nat → Nat} {dk : Nat → swD} {E E' : swEv} {u u' : swU} {w w' : lyU} (h : lwR t nv nb ns hd sh mo cm ot am dk E u w) (hu : ∀ c, c ≠ 0 → ¬ (10 ≤ c ∧ c < 32) → u'.1 c = u.1 c) (hu0 : ∀ k, k ≠ 9 → k ≠ 10 → k ≠ 11 → u'.1 0 k = u.1 0 k) (hu2 : u'.2 = u.2) (hw : ∀ c, c ≠ 6 → c ≠ 7 → c ≠ 8 → w'.1 c = w.1 c) (hw8 : ∀ k, k < 3 → w'.1 8 k = w.1 8 k) (hw2 : w'.2 = w.2) (hE : swcE u' E') (hE2 : lwE w' E') (hd1 : E'.2.2.2.2 ≤ 999) (hd2 : E'.2.2.2.2 ≤ t') : lwR t' nv nb ns hd sh mo cm ot am dk E' u' w' := by
  obtain ⟨h1, h2, h3, h4, h5, h6, hA, h7, h8, n21, n6, hday⟩ := h
  have hb6 := h2.2.1
  have h40 := h1.2.1
  refine ⟨?_, ?_, ?_, fun b hb => ?_, fun b hb => ?_, fun v hv => ?_, hA, fun v hv => ?_, ⟨hE, hE2, hd1⟩, n21, n6, hd2⟩
  · obtain ⟨a1, a2, a3, a4⟩ := h1
    exact ⟨a1, a2, (hu0 6 (by omega) (by omega) (by omega)).trans a3, (hw8 0 (by omega)).trans a4⟩
  · obtain ⟨a1, a2, a3, a4⟩ := h2
    exact ⟨a1, a2, (hu0 7 (by omega) (by omega) (by omega)).trans a3, (hw8 2 (by omega)).trans a4⟩
  · obtain ⟨a1, a2, a3⟩ := h3
    exact ⟨a1, (hu0 8 (by omega) (by omega) (by omega)).trans a2, (hw8 1 (by omega)).trans a3⟩
  · rw [hu 1 (by omega) (by omega), hw 5 (by omega) (by omega) (by omega)]
    exact h4 b hb
  · rw [hu 2 (by omega) (by omega), hw 5 (by omega) (by omega) (by omega)]
    exact h5 b hb
  · rw [hu (100 + v) (by omega) (by omega), hw 4 (by omega) (by omega) (by omega), hw 3 (by omega) (by omega) (by omega), hu2]
    exact h6 v hv
  · obtain ⟨a1, a2, a3, a4⟩ := h7 v hv
    exact ⟨swcD_fr a1 (by rw [hu _ (by omega) (by omega)]) (fun _ _ => by rw [hu _ (by omega) (by omega)]) (fun _ _ _ _ => by rw [hu _ (by omega) (by omega)]), lwD_fr a2 (by rw [hw 2 (by omega) (by omega) (by omega)]) (fun s _ => lwget_2 hw2), a3, a4⟩
set_option maxHeartbeats 1000000 in
theorem la_rules0 {t nv nb ns : Nat} {hd : Nat → Nat} {sh mo cm ot : Nat → Int32} {am : Nat → Nat} {dk : Nat → swD} {E : swEv} {u : swU} {w : lyU} (h : lwR t nv nb ns hd sh mo cm ot am dk E u w) (z : Int32) : ∃ u' w', lx_rules u w 0 z = some (1, u', w') ∧ lwRx t u' w' := by
  have hR : lwRx t u w := ⟨nv, nb, ns, hd, sh, mo, cm, ot, am, dk, E, h⟩
  have hL := h
  obtain ⟨h1, h2, h3, h4, h5, h6, hA, h7, h8, n21, n6, hday⟩ := h
  have q83 := h8.2.1.1
  have n8 := h8.1.1
  by_cases e8 : E.1 = 8
  · have n8' : (nI E.1 = 8) = True := by rw [e8]; exact eq_true rfl
    refine ⟨u, w, ?_, hR⟩
    unfold lx_rules
    simp (disch := omega) only [swlt_e, swbd_e, swrd_n, swgd_n, nI_clamp, sw8m, sw4m, sw4r, nI_add, nI_1, swsub, swsubn, sw4le, swleI, swltI, sweqI, sweqm, sw0add, if_pos, if_neg, if_true, if_false, sw1n0, sw0n1, eq_self, ↓reduceIte, sl3, q83, n8']
  have n8' : (nI E.1 = 8) = False := eq_false (by rw [show (8 : Int32) = nI 8 from rfl, nI_eq (by omega) (by omega)]; exact e8)
  obtain ⟨k, hk, ek⟩ := la_low z (n := 3) (by omega) (by omega)
  obtain ⟨o, ho, eo⟩ := la_low (swshr z 2) (n := 4) (by omega) (by omega)
  obtain ⟨a0, ha0, ea0⟩ := la_low (swshr z 4) (n := 4) (by omega) (by omega)
  obtain ⟨b0, hb0, eb0⟩ := la_low (swshr z 6) (n := 7) (by omega) (by omega)
  have ek : lx_low z 3 = some (nI k) := ek
  have eo : lx_low (swshr z 2) 4 = some (nI o) := eo
  have ea0 : lx_low (swshr z 4) 4 = some (nI a0) := ea0
  have eb0 : lx_low (swshr z 6) 7 = some (nI b0) := eb0
  have ea : (1 : Int32) + nI a0 * 100 = nI (1 + a0 * 100) := by
    rw [show (100 : Int32) = nI 100 from rfl, pk_mul]
    exact nI_add 1 _
  have eb : nI (1 + a0 * 100) + nI b0 * 100 = nI (1 + a0 * 100 + b0 * 100) := by
    rw [show (100 : Int32) = nI 100 from rfl, pk_mul, nI_add]
  generalize hga : 1 + a0 * 100 = a at ea eb
  generalize hgb : a + b0 * 100 = b at eb
  have er : ((nI k + (4 : Int32) * nI o) + (16 : Int32) * nI a) + (16384 : Int32) * nI b = nI (k + 4 * o + 16 * a + 16384 * b) := by
    rw [show (4 : Int32) * nI o = nI (4 * o) from pk_mul 4 o, show (16 : Int32) * nI a = nI (16 * a) from pk_mul 16 a, show (16384 : Int32) * nI b = nI (16384 * b) from pk_mul 16384 b, nI_add, nI_add, nI_add]
  have hru := oc_rule h8 hk ho (show 1 ≤ a by omega) (show a ≤ b by omega) (show b < 1000 by omega) (by omega)
  obtain ⟨F, F1, F2⟩ := sw_ext E.2.1 E.1 (fun j => if j = 0 then nI k else if j = 1 then nI o else if j = 2 then nI a else nI b)
  refine ⟨swI (swI (swI (swI (swI u (10 + E.1) 0 (nI k)) (10 + E.1) 1 (nI o)) (10 + E.1) 2 (nI a)) (10 + E.1) 3 (nI b)) 0 9 (nI (E.1 + 1)), lyI (lyI w 6 E.1 (nI (k + 4 * o + 16 * a + 16384 * b))) 8 3 (nI (E.1 + 1)), ?_, nv, nb, ns, hd, sh, mo, cm, ot, am, dk, (E.1 + 1, F, E.2.2.1, E.2.2.2.1, E.2.2.2.2), lwR_E hL ?_ ?_ rfl ?_ ?_ rfl ?_ ?_ h8.2.2 hday⟩
  · unfold lx_rules
    rw [if_pos rfl, sl3, q83, if_neg (by rw [n8']; exact id), ek, swbd_e, eo, swbd_e, ea0, swbd_e, swlt_e, ea, eb0, swbd_e, swlt_e, eb, sl3, q83, swgd_n (by omega) (by omega), swlt_e, nI_clamp (by omega), er, sl3, lyI_ne (by omega), q83, sg3, swlt_e, sc3, nI_1, hru, swnx_e, sl3, lyI_self, nI_pred, if_pos rfl]
  · intro c c0 c1
    rw [swI_ne (by omega), swI_ne (by omega), swI_ne (by omega), swI_ne (by omega), swI_ne (by omega)]
  · intro q q9 q10 q11
    rw [swI_k q9, swI_ne (by omega), swI_ne (by omega), swI_ne (by omega), swI_ne (by omega)]
  · intro c c6 c7 c8
    rw [lyI_ne c8, lyI_ne c6]
  · intro q hq
    rw [lyI_k (by omega), lyI_ne (by omega)]
  · obtain ⟨a1, a2, a3, a4, a5, a6, a7, a8⟩ := h8.1
    refine ⟨by show E.1 + 1 ≤ 8; omega, swI_self, fun r hr j hj => ?_, fun r hr => ?_, a5, ?_, fun i hi j hj => ?_, ?_⟩
    · have hr : r < E.1 + 1 := hr
      show _ = F r j
      by_cases e : r = E.1
      · rw [e, F1, swI_ne (by omega)]
        rcases (by omega : j = 0 ∨ j = 1 ∨ j = 2 ∨ j = 3) with rfl | rfl | rfl | rfl
        · rw [swI_k (by omega), swI_k (by omega), swI_k (by omega), swI_self]
          rfl
        · rw [swI_k (by omega), swI_k (by omega), swI_self]
          rfl
        · rw [swI_k (by omega), swI_self]
          rfl
        · rw [swI_self]
          rfl
      · rw [F2 r e, swI_ne (by omega), swI_ne (by omega), swI_ne (by omega), swI_ne (by omega), swI_ne (by omega)]
        exact a3 r (by omega) j hj
    · have hr : r < E.1 + 1 := hr
      show ∃ o, o < 4 ∧ F r 1 = nI o
      by_cases e : r = E.1
      · rw [e, F1]
        exact ⟨o, ho, rfl⟩
      · rw [F2 r e]
        exact a4 r (by omega)
    · rw [swI_k (by omega), swI_ne (by omega), swI_ne (by omega), swI_ne (by omega), swI_ne (by omega)]
      exact a6
    · have hi : i < E.2.2.1 := hi
      rw [swI_ne (by omega), swI_ne (by omega), swI_ne (by omega), swI_ne (by omega), swI_ne (by omega)]
      exact a7 i hi j hj
    · rw [swI_k (by omega), swI_ne (by omega), swI_ne (by omega), swI_ne (by omega), swI_ne (by omega)]
      exact a8
  · obtain ⟨b1, b2, b3, b4, b5⟩ := h8.2.1
    refine ⟨lyI_self, ?_, ?_, fun r hr => ?_, fun i hi => ?_⟩
    · rw [lyI_k (by omega), lyI_ne (by omega)]
      exact b2
    · rw [lyI_k (by omega), lyI_ne (by omega)]
      exact b3
    · have hr : r < E.1 + 1 := hr
      show ∃ k o a b : Nat, k < 3 ∧ o < 4 ∧ 1 ≤ a ∧ a ≤ b ∧ b < 1000 ∧ F r 0 = nI k ∧ F r 1 = nI o ∧ F r 2 = nI a ∧ F r 3 = nI b ∧ _ = nI (k + 4 * o + 16 * a + 16384 * b)
      by_cases e : r = E.1
      · rw [e, F1, lyI_ne (by omega), lyI_self]
        exact ⟨k, o, a, b, hk, ho, by omega, by omega, by omega, rfl, rfl, rfl, rfl, rfl⟩
      · rw [F2 r e, lyI_ne (by omega), lyI_k e]
        exact b4 r (by omega)
    · rw [lyI_ne (by omega), lyI_ne (by omega)]
      exact b5 i hi
theorem la_l221 {t nv nb ns : Nat} {hd : Nat → Nat} {sh mo cm ot : Nat → Int32} {am : Nat → Nat} {dk : Nat → swD} {E : swEv} {u : swU} {w : lyU} (h : lwR t nv nb ns hd sh mo cm ot am dk E u w) (KK : Int32 → Int32 → Option (Int32 × swU × lyU)) : lx_rules_L221 u w KK 64 0 0 = KK (nI (swbm (swBD E dk) nv)) (nI nv) := by
  have hL := h
  obtain ⟨h1, h2, h3, h4, h5, h6, hA, h7, h8, n21, n6, hday⟩ := h
  have q80 := h1.2.2.2
  obtain ⟨a, ha, f, e⟩ := sw_upS (fun f k (a : Int32) => lx_rules_L221 u w KK f a (nI k)) (fun k a => a = nI (swbm (swBD E dk) k)) nv (0 : Int32) rfl (fun f k a hk hI => by
    have hno : ¬ nI nv ≤ nI k := nI_ge hk (by omega)
    refine ⟨nI (swbm (swBD E dk) (k + 1)), rfl, ?_⟩
    show lx_rules_L221 u w KK (f + 1) a (nI k) = lx_rules_L221 u w KK f (nI (if swBD E dk k = true then swbm (swBD E dk) k ||| 2 ^ k else swbm (swBD E dk) k)) (nI (k + 1))
    rw [lx_rules_L221, sl0, q80, if_neg hno, la_blockedV hL hk, swbd_e, hI]
    have hb : decide (0 < swBK E (dk k)) = swBD E dk k := rfl
    rw [hb]
    cases hB : swBD E dk k
    · refine (swjn_c1 0 (fun kk => ?_)).trans ?_
      · show (if (swB false) = 0 then kk 0 else kk (swshl 1 (nI k))) = kk 0
        rw [if_pos (by rfl)]
      · show (swlt (nI (swbm (swBD E dk) k) ||| 0) fun y258 => lx_rules_L221 u w KK f y258 (nI k + 1)) = _
        rw [swlt_e, show (0 : Int32) = nI 0 from rfl, la_or, Nat.or_zero, nI_1]
        rfl
    · have e2 : swshl 1 (nI k) = nI (2 ^ k) := by
        have h21 := la_21 k (by omega)
        have := la_shl (n := 1) (k := k) (by omega) (by omega)
        rw [Nat.one_mul] at this
        exact this
      refine (swjn_c1 (swshl 1 (nI k)) (fun kk => ?_)).trans ?_
      · show (if (swB true) = 0 then kk 0 else kk (swshl 1 (nI k))) = kk (swshl 1 (nI k))
        rw [if_neg (by decide)]
      · show (swlt (nI (swbm (swBD E dk) k) ||| swshl 1 (nI k)) fun y258 => lx_rules_L221 u w KK f y258 (nI k + 1)) = _
        rw [swlt_e, e2, la_or, nI_1]
        rfl) (by omega)
  have e : lx_rules_L221 u w KK 64 0 0 = lx_rules_L221 u w KK (f + 1) a (nI nv) := e
  rw [e, lx_rules_L221, sl0, q80, if_pos (nI_le (Nat.le_refl _) (by omega)), ha]
theorem la_l298 {t nv nb ns : Nat} {hd : Nat → Nat} {sh mo cm ot : Nat → Int32} {am : Nat → Nat} {dk : Nat → swD} {E : swEv} {u u0 : swU} {w : lyU} (h : lwR t nv nb ns hd sh mo cm ot am dk E u w) (p : Nat → Bool) (KK : Int32 → Int32 → Option (Int32 × swU × lyU)) : lx_rules_L298 u0 w (nI (swbm p nv)) KK 64 0 0 = KK (nI (sw_cnt nv (fun v => !p v && swBD E dk v))) (nI nv) := by
  have hL := h
  obtain ⟨h1, h2, h3, h4, h5, h6, hA, h7, h8, n21, n6, hday⟩ := h
  have q80 := h1.2.2.2
  have hp31 : swbm p nv < 2 ^ 31 := by
    have h1 := swbm_lt p nv
    have h2 := la_21 nv (by omega)
    omega
  obtain ⟨a, ha, f, e⟩ := sw_upS (fun f k (a : Int32) => lx_rules_L298 u0 w (nI (swbm p nv)) KK f a (nI k)) (fun k a => a = nI (sw_cnt k (fun v => !p v && swBD E dk v))) nv (0 : Int32) rfl (fun f k a hk hI => by
    have hno : ¬ nI nv ≤ nI k := nI_ge hk (by omega)
    refine ⟨nI (sw_cnt (k + 1) (fun v => !p v && swBD E dk v)), rfl, ?_⟩
    show lx_rules_L298 u0 w (nI (swbm p nv)) KK (f + 1) a (nI k) = lx_rules_L298 u0 w (nI (swbm p nv)) KK f (nI (sw_cnt k (fun v => !p v && swBD E dk v) + (if (!p k && swBD E dk k) = true then 1 else 0))) (nI (k + 1))
    rw [lx_rules_L298, sl0, q80, if_neg hno, la_blockedV hL hk, swbd_e, hI]
    have hb : decide (0 < swBK E (dk k)) = swBD E dk k := rfl
    have ebit : swshr (nI (swbm p nv)) (nI k) &&& 1 = nI (if p k = true then 1 else 0) := by
      rw [la_shr hp31 (by omega), la_and1, la_bit, swbm_t, decide_eq_true hk, Bool.true_and]
    rw [hb]
    have fin : ∀ c : Nat, c = (if (!p k && swBD E dk k) = true then 1 else 0) → ∀ ci : Int32, ci = nI c → (swlt (nI (sw_cnt k (fun v => !p v && swBD E dk v)) + ci) fun y342 => lx_rules_L298 u0 w (nI (swbm p nv)) KK f y342 (nI k + 1)) = lx_rules_L298 u0 w (nI (swbm p nv)) KK f (nI (sw_cnt k (fun v => !p v && swBD E dk v) + (if (!p k && swBD E dk k) = true then 1 else 0))) (nI (k + 1)) := fun c hc ci hci => by
      rw [swlt_e, hci, nI_add, nI_1, hc]
    rcases (by cases swBD E dk k <;> simp : swBD E dk k = false ∨ swBD E dk k = true) with hB | hB
    · refine (swjn_c1 0 (fun kk => ?_)).trans (fin 0 (by rw [hB]; cases p k <;> rfl) 0 rfl)
      show (if (swB (swBD E dk k)) = 0 then kk 0 else _) = kk 0
      rw [if_pos (by rw [hB])]
    · rcases (by cases p k <;> simp : p k = false ∨ p k = true) with hP | hP
      · refine (swjn_c1 1 (fun kk => ?_)).trans (fin 1 (by rw [hB, hP]; rfl) 1 rfl)
        show (if (swB (swBD E dk k)) = 0 then kk 0 else (if swshr (nI (swbm p nv)) (nI k) &&& 1 = 0 then kk 1 else kk 0)) = kk 1
        rw [if_neg (by rw [hB]; decide), if_pos (by rw [ebit, hP]; rfl)]
      · refine (swjn_c1 0 (fun kk => ?_)).trans (fin 0 (by rw [hB, hP]; rfl) 0 rfl)
        show (if (swB (swBD E dk k)) = 0 then kk 0 else (if swshr (nI (swbm p nv)) (nI k) &&& 1 = 0 then kk 1 else kk 0)) = kk 0
        rw [if_neg (by rw [hB]; decide), if_neg (by rw [ebit, hP]; decide)]) (by omega)
  have e : lx_rules_L298 u0 w (nI (swbm p nv)) KK 64 0 0 = lx_rules_L298 u0 w (nI (swbm p nv)) KK (f + 1) a (nI nv) := e
  rw [e, lx_rules_L298, sl0, q80, if_pos (nI_le (Nat.le_refl _) (by omega)), ha]
