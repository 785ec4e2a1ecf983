/-! ===== tighten and waive ===== -/
theorem la_rdec {k o a b : Nat} (hk : k < 3) (ho : o < 4) (ha : a < 1000) (hb : b < 1000) : swrem (nI (k + 4 * o + 16 * a + 16384 * b) / 16) 1024 = nI a ∧ nI (k + 4 * o + 16 * a + 16384 * b) / 16384 = nI b ∧ swrem (nI (k + 4 * o + 16 * a + 16384 * b)) 16 = nI (k + 4 * o) ∧ swrem (nI (k + 4 * o + 16 * a + 16384 * b)) 4 = nI k := by
  refine ⟨?_, ?_, ?_, ?_⟩
  · rw [show (16 : Int32) = nI 16 from rfl, show (1024 : Int32) = nI 1024 from rfl, pk_div (by omega) (by omega) (by omega), la_rem (by omega) (by omega) (by omega)]
    congr 1
    omega
  · rw [show (16384 : Int32) = nI 16384 from rfl, pk_div (by omega) (by omega) (by omega)]
    congr 1
    omega
  · rw [show (16 : Int32) = nI 16 from rfl, la_rem (by omega) (by omega) (by omega)]
    congr 1
    omega
  · rw [show (4 : Int32) = nI 4 from rfl, la_rem (by omega) (by omega) (by omega)]
    congr 1
    omega
theorem la_tightE {t nv nb ns : Nat} {hd : Nat → Nat} {sh mo cm ot : Nat → Int32} {am : Nat → Nat} {dk : Nat → swD} {E : swEv} {u : swU} {w : lyU} (hL : lwR t nv nb ns hd sh mo cm ot am dk E u w) {r k o a' b' : Nat} (hr : r < E.1) (hk : k < 3) (ho : o < 4) (ha' : 1 ≤ a') (hab' : a' ≤ b') (hb' : b' < 1000) (f0 : E.2.1 r 0 = nI k) (f1 : E.2.1 r 1 = nI o) : ∃ E' : swEv, swcE (swI (swI u (10 + r) 2 (nI a')) (10 + r) 3 (nI b')) E' ∧ lwR t nv nb ns hd sh mo cm ot am dk E' (swI (swI u (10 + r) 2 (nI a')) (10 + r) 3 (nI b')) (lyI w 6 r (nI (k + 4 * o + 16 * a' + 16384 * b'))) := by
  obtain ⟨h1, h2, h3, h4, h5, h6, hA, h7, h8, n21, n6, hday⟩ := id hL
  have n8 := h8.1.1
  obtain ⟨F, F1, F2⟩ := sw_ext E.2.1 r (fun j => if j = 0 then nI k else if j = 1 then nI o else if j = 2 then nI a' else nI b')
  have hE' : swcE (swI (swI u (10 + r) 2 (nI a')) (10 + r) 3 (nI b')) (E.1, F, E.2.2.1, E.2.2.2.1, E.2.2.2.2) := by
    obtain ⟨a1, a2, a3, a4, a5, a6, a7, a8⟩ := h8.1
    refine ⟨a1, by rw [swI_ne (by omega), swI_ne (by omega)]; exact a2, fun q hq j hj => ?_, fun q hq => ?_, a5, by rw [swI_ne (by omega), swI_ne (by omega)]; exact a6, fun i hi j hj => ?_, by rw [swI_ne (by omega), swI_ne (by omega)]; exact a8⟩
    · have hq : q < E.1 := hq
      show _ = F q j
      by_cases e : q = r
      · rw [e, F1]
        rcases (by omega : j = 0 ∨ j = 1 ∨ j = 2 ∨ j = 3) with rfl | rfl | rfl | rfl
        · rw [swI_k (by omega), swI_k (by omega), a3 r hr 0 (by omega)]
          exact f0
        · rw [swI_k (by omega), swI_k (by omega), a3 r hr 1 (by omega)]
          exact f1
        · rw [swI_k (by omega), swI_self]
          rfl
        · rw [swI_self]
          rfl
      · rw [F2 q e, swI_ne (by omega), swI_ne (by omega)]
        exact a3 q hq j hj
    · have hq : q < E.1 := hq
      show ∃ o, o < 4 ∧ F q 1 = nI o
      by_cases e : q = r
      · rw [e, F1]
        exact ⟨o, ho, rfl⟩
      · rw [F2 q e]
        exact a4 q hq
    · have hi : i < E.2.2.1 := hi
      rw [swI_ne (by omega), swI_ne (by omega)]
      exact a7 i hi j hj
  have hE2 : lwE (lyI w 6 r (nI (k + 4 * o + 16 * a' + 16384 * b'))) (E.1, F, E.2.2.1, E.2.2.2.1, E.2.2.2.2) := by
    obtain ⟨b1, b2, b3, b4, b5⟩ := h8.2.1
    refine ⟨by rw [lyI_ne (by omega)]; exact b1, by rw [lyI_ne (by omega)]; exact b2, by rw [lyI_ne (by omega)]; exact b3, fun q hq => ?_, fun i hi => ?_⟩
    · have hq : q < E.1 := hq
      show ∃ k o a b : Nat, k < 3 ∧ o < 4 ∧ 1 ≤ a ∧ a ≤ b ∧ b < 1000 ∧ F q 0 = nI k ∧ F q 1 = nI o ∧ F q 2 = nI a ∧ F q 3 = nI b ∧ _ = nI (k + 4 * o + 16 * a + 16384 * b)
      by_cases e : q = r
      · rw [e, F1, lyI_self]
        exact ⟨k, o, a', b', hk, ho, ha', hab', hb', rfl, rfl, rfl, rfl, rfl⟩
      · rw [F2 q e, lyI_k e]
        exact b4 q hq
    · rw [lyI_ne (by omega)]
      exact b5 i hi
  have hL' : lwR t nv nb ns hd sh mo cm ot am dk (E.1, F, E.2.2.1, E.2.2.2.1, E.2.2.2.2) (swI (swI u (10 + r) 2 (nI a')) (10 + r) 3 (nI b')) (lyI w 6 r (nI (k + 4 * o + 16 * a' + 16384 * b'))) := lwR_E hL (fun c c0 c1 => by rw [swI_ne (by omega), swI_ne (by omega)]) (fun q _ _ _ => by rw [swI_ne (by omega), swI_ne (by omega)]) rfl (fun c c6 c7 c8 => lyI_ne c6) (fun q hq => by rw [lyI_ne (by omega)]) rfl hE' hE2 h8.2.2 hday
  exact ⟨_, hE', hL'⟩
theorem la_tx {a b x : Nat} (hab : a ≤ b) (hb : b < 1000) (hx : x < 3) : ∃ q : Nat, q ≤ (b - a) / 4 ∧ nI a + (nI x * (nI b - nI a)) / 8 = nI (a + q) ∧ nI b - (nI x * (nI b - nI a)) / 8 = nI (b - q) := by
  obtain ⟨d, rfl⟩ : ∃ d, b = a + d := ⟨b - a, by omega⟩
  have e0 : nI (a + d) - nI a = nI d := by
    rw [pk_sub (Nat.le_add_right a d)]
    congr 1
    omega
  have e1 : nI x * nI d = nI (x * d) := pk_mul x d
  have e2 : nI (x * d) / 8 = nI (x * d / 8) := by
    have h8 : (8 : Int32) = nI 8 := rfl
    rw [h8]
    refine pk_div ?_ (by decide) (by decide)
    have : x * d ≤ 2 * d := Nat.mul_le_mul_right d (by omega)
    omega
  have hq : x * d / 8 ≤ (a + d - a) / 4 := by
    have : x * d ≤ 2 * d := Nat.mul_le_mul_right d (by omega)
    omega
  refine ⟨x * d / 8, hq, ?_, ?_⟩
  · rw [e0, e1, e2, nI_add]
  · rw [e0, e1, e2, pk_sub (by omega)]
set_option maxHeartbeats 1000000 in
theorem la_rules1 {t nv nb ns : Nat} {hd : Nat → Nat} {sh mo cm ot : Nat → Int32} {am : Nat → Nat} {dk : Nat → swD} {E : swEv} {u : swU} {w : lyU} (h : lwR t nv nb ns hd sh mo cm ot am dk E u w) (z : Int32) : ∃ u' w', lx_rules u w 1 z = some (1, u', w') ∧ lwRx t u' w' := by
  have hR : lwRx t u w := ⟨nv, nb, ns, hd, sh, mo, cm, ot, am, dk, E, h⟩
  have hL := h
  obtain ⟨h1, h2, h3, h4, h5, h6, hA, h7, h8, n21, n6, hday⟩ := h
  have q83 := h8.2.1.1
  have n8 := h8.1.1
  by_cases e0 : E.1 = 0
  · have n0' : (nI E.1 = 0) = True := by rw [e0]; exact eq_true rfl
    refine ⟨u, w, ?_, hR⟩
    unfold lx_rules
    rw [if_neg (by decide), sl3, q83, if_pos (by rw [n0']; trivial)]
  have n0' : (nI E.1 = 0) = False := eq_false (nI_ne0 (by omega) (by omega))
  obtain ⟨r, hr, er⟩ := la_low z (n := E.1) (by omega) (by omega)
  obtain ⟨k, o, a, b, hk, ho, ha, hab, hb, f0, f1, f2, f3, f4⟩ := h8.2.1.2.2.2.1 r hr
  obtain ⟨d1, d2, d3, d4⟩ := la_rdec hk ho (show a < 1000 by omega) hb
  obtain ⟨x, hx, ex⟩ := la_low (swshr z 3) (n := 3) (by omega) (by omega)
  obtain ⟨x', hx', ex'⟩ := la_low (swshr z 5) (n := 3) (by omega) (by omega)
  have ex : lx_low (swshr z 3) 3 = some (nI x) := ex
  have ex' : lx_low (swshr z 5) 3 = some (nI x') := ex'
  obtain ⟨q1, hq1, ea, -⟩ := la_tx hab hb hx
  obtain ⟨q2, hq2, -, eb⟩ := la_tx hab hb hx'
  obtain ⟨a', ha'⟩ : ∃ a', a' = a + q1 := ⟨_, rfl⟩
  obtain ⟨b', hb'⟩ : ∃ b', b' = b - q2 := ⟨_, rfl⟩
  rw [← ha'] at ea
  rw [← hb'] at eb
  have l1 : a ≤ a' := by omega
  have l2 : a' ≤ b' := by omega
  have l3 : b' ≤ b := by omega
  have en : (nI (k + 4 * o) + (16 : Int32) * nI a') + (16384 : Int32) * nI b' = nI (k + 4 * o + 16 * a' + 16384 * b') := by
    rw [show (16 : Int32) * nI a' = nI (16 * a') from pk_mul 16 a', show (16384 : Int32) * nI b' = nI (16384 * b') from pk_mul 16384 b', nI_add, nI_add]
  obtain ⟨E', hE', hL'⟩ := la_tightE hL hr hk ho (show 1 ≤ a' by omega) l2 (show b' < 1000 by omega) f0 f1
  have hti := oc_tighten h1 h7 h8 hr f2 f3 l1 l2 l3 hb hE'
  refine ⟨_, _, ?_, nv, nb, ns, hd, sh, mo, cm, ot, am, dk, _, hL'⟩
  unfold lx_rules
  rw [if_neg (by decide), sl3, q83, if_neg (by rw [n0']; exact id), sl3, q83, er, swbd_e, swrd_n (by omega) (by omega), f4, d1, swlt_e, swrd_n (by omega) (by omega), f4, d2, swlt_e, if_pos rfl, ex, swbd_e, ea, swlt_e, ex', swbd_e, eb, swlt_e]
  refine (la_l221 hL _).trans ?_
  show (swrd 8 (w.1 6) (nI r) _) = _
  rw [swrd_n (by omega) (by omega), f4, d3, swgd_n (by omega) (by omega), swlt_e, nI_clamp (by omega), en]
  refine (la_l298 hL' (swBD E dk) _).trans ?_
  show (swnx (xx5_tighten u (nI r) (nI a') (nI b')) _) = _
  rw [hti, swnx_e, if_pos rfl]
set_option maxHeartbeats 1000000 in
theorem la_rules2 {t nv nb ns : Nat} {hd : Nat → Nat} {sh mo cm ot : Nat → Int32} {am : Nat → Nat} {dk : Nat → swD} {E : swEv} {u : swU} {w : lyU} (ht : t ≤ 900) (h : lwR t nv nb ns hd sh mo cm ot am dk E u w) (z : Int32) : ∃ u' w', lx_rules u w 2 z = some (1, u', w') ∧ lwRx t u' w' := by
  have hR : lwRx t u w := ⟨nv, nb, ns, hd, sh, mo, cm, ot, am, dk, E, h⟩
  have hL := h
  obtain ⟨h1, h2, h3, h4, h5, h6, hA, h7, h8, n21, n6, hday⟩ := h
  have q83 := h8.2.1.1
  have q84 := h8.2.1.2.1
  have q85 := h8.2.1.2.2.1
  have q81 := h3.2.2
  have n8 := h8.1.1
  have n12 := h8.1.2.2.2.2.1
  by_cases e0 : E.1 = 0
  · have n0' : (nI E.1 = 0) = True := by rw [e0]; exact eq_true rfl
    refine ⟨u, w, ?_, hR⟩
    unfold lx_rules
    simp (disch := omega) only [swlt_e, swbd_e, swrd_n, swgd_n, nI_clamp, sw8m, sw4m, sw4r, nI_add, nI_1, swsub, swsubn, sw4le, swleI, swltI, sweqI, sweqm, sw0add, if_pos, if_neg, if_true, if_false, sw1n0, sw0n1, eq_self, ↓reduceIte, sl3, q83, n0', swi20]
  have n0' : (nI E.1 = 0) = False := eq_false (nI_ne0 (by omega) (by omega))
  obtain ⟨r, hr, er⟩ := la_low z (n := E.1) (by omega) (by omega)
  obtain ⟨k, o, a, b, hk, ho, ha, hab, hb, f0, f1, f2, f3, f4⟩ := h8.2.1.2.2.2.1 r hr
  obtain ⟨d1, d2, d3, d4⟩ := la_rdec hk ho (show a < 1000 by omega) hb
  by_cases e1 : ns = 0
  · have n1' : (nI ns = 0) = True := by rw [e1]; exact eq_true rfl
    refine ⟨u, w, ?_, hR⟩
    unfold lx_rules
    simp (disch := omega) only [swlt_e, swbd_e, swrd_n, swgd_n, nI_clamp, sw8m, sw4m, sw4r, nI_add, nI_1, swsub, swsubn, sw4le, swleI, swltI, sweqI, sweqm, sw0add, if_pos, if_neg, if_true, if_false, sw1n0, sw0n1, eq_self, ↓reduceIte, sl3, sl1, q83, q81, n0', swi20, swi21, er, f4, n1']
  have n1' : (nI ns = 0) = False := eq_false (nI_ne0 (by omega) (by omega))
  obtain ⟨s, hs, es⟩ := la_low (swshr z 3) (n := ns) (by omega) (by omega)
  obtain ⟨x, hx, ex⟩ := la_low (swshr z 6) (n := 6) (by omega) (by omega)
  have ex : lx_low (swshr z 6) 6 = some (nI x) := ex
  have hk1 : (nI k = 1) = (k = 1) := by rw [show (1 : Int32) = nI 1 from rfl]; exact propext (nI_eq (by omega) (by omega))
  have h12 : ((12 : Int32) ≤ nI E.2.2.1) = (12 ≤ E.2.2.1) := by rw [show (12 : Int32) = nI 12 from rfl]; exact propext (nI_leI (by omega) (by omega))
  have pre : ∀ (u' : swU) (w' : lyU) (can : Int32) (yj : lyU) (rv : Int32), (∀ kk : Int32 → Option (Int32 × swU × lyU), (if nI k = 1 then (if (12 : Int32) ≤ nI E.2.2.1 then kk 0 else kk 1) else kk 0) = kk can) → (∀ kk : lyU → Option (Int32 × swU × lyU), (if can = 0 then kk w else (swrd 6 (w.1 8) 4 fun a445 => swgd (swix a445 12) <| swlt (lyI w 7 (Int32.toNatClampNeg a445) (((nI r + ((8 : Int32) * nI s)) + ((64 : Int32) * nI (E.2.2.2.2 + x))))) fun u460 => swrd 6 (u460.1 8) 4 fun a465 => swgd (swix (4 : Int32) 6) <| swlt (lyI u460 8 (Int32.toNatClampNeg (4 : Int32)) (a465 + 1)) fun u468 => kk u468)) = kk yj) → lx_calls u yj 2 (nI r) (nI s) (nI (E.2.2.2.2 + x)) = some (rv, u', yj) → (∀ kk : Int32 → Option (Int32 × swU × lyU), (if can = 0 then (kk (-100003)) else (swrd 6 (yj.1 8) 4 fun a488 => kk (a488 - 1))) = kk rv) → lx_rules u w 2 z = some (1, u', yj) := fun u' w' can yj rv c1 c2 c3 c4 => by
    unfold lx_rules
    rw [if_neg (by decide), sl3, q83, if_neg (by rw [n0']; exact id), sl3, q83, er, swbd_e, swrd_n (by omega) (by omega), f4, swlt_e, swrd_n (by omega) (by omega), f4, swlt_e, if_neg (by decide), sl1, q81, if_neg (by rw [n1']; exact id), sl1, q81, es, swbd_e, sl5, q85, ex, swbd_e, nI_add, swlt_e, swrd_n (by omega) (by omega), f4, d4]
    refine (swjn_c1 can (fun kk => ?_)).trans ?_
    · rw [sl4, q84]
      exact c1 kk
    · refine (swjn_c1 yj (fun kk => c2 kk)).trans ?_
      show (swbd (lx_calls u yj 2 (nI r) (nI s) (nI (E.2.2.2.2 + x))) _) = _
      rw [c3, swbd_e]
      refine (swjn_c1 rv (fun kk => c4 kk)).trans ?_
      show (if rv = rv then _ else _) = _
      rw [if_pos rfl]
  by_cases hcan : k = 1 ∧ E.2.2.1 < 12
  · obtain ⟨hc1, hc2⟩ := hcan
    have hk' : E.2.1 r 0 = 1 := by rw [f0, hc1]; rfl
    have hwv := oc_waive h3 h8 hr hs (show E.2.2.2.2 ≤ E.2.2.2.2 + x by omega) (show E.2.2.2.2 + x ≤ 999 by omega) hk' hc2
    obtain ⟨F, F1, F2⟩ := sw_ext E.2.2.2.1 E.2.2.1 (fun j => if j = 0 then nI r else if j = 1 then nI s else nI (E.2.2.2.2 + x))
    have en : ((nI r + ((8 : Int32) * nI s)) + ((64 : Int32) * nI (E.2.2.2.2 + x))) = nI (r + 8 * s + 64 * (E.2.2.2.2 + x)) := by
      rw [show (8 : Int32) * nI s = nI (8 * s) from pk_mul 8 s, show (64 : Int32) * nI (E.2.2.2.2 + x) = nI (64 * (E.2.2.2.2 + x)) from pk_mul 64 _, nI_add, nI_add]
    refine ⟨_, _, pre _ w 1 (lyI (lyI w 7 E.2.2.1 (nI (r + 8 * s + 64 * (E.2.2.2.2 + x)))) 8 4 (nI (E.2.2.1 + 1))) (nI E.2.2.1) (fun kk => ?_) (fun kk => ?_) ?_ (fun kk => ?_), nv, nb, ns, hd, sh, mo, cm, ot, am, dk, (E.1, E.2.1, E.2.2.1 + 1, F, E.2.2.2.2), lwR_E hL (u' := swI (swI (swI (swI u (20 + E.2.2.1) 0 (nI r)) (20 + E.2.2.1) 1 (nI s)) (20 + E.2.2.1) 2 (nI (E.2.2.2.2 + x))) 0 10 (nI (E.2.2.1 + 1))) ?_ ?_ rfl ?_ ?_ rfl ?_ ?_ h8.2.2 hday⟩
    · rw [if_pos (by rw [hk1]; exact hc1), if_neg (by rw [h12]; omega)]
    · rw [if_neg (by decide), sl4, q84, swgd_n (by omega) (by omega), swlt_e, nI_clamp (by omega), en, sl4, lyI_ne (by omega), q84, sg4, swlt_e, sc4, nI_1]
    · unfold lx_calls swcl
      rw [if_neg (by decide), if_neg (by decide), if_pos rfl, hwv, swbd_e]
      rfl
    · rw [if_neg (by decide), sl4, lyI_self, nI_pred]
    · intro c c0 c1
      rw [swI_ne (by omega), swI_ne (by omega), swI_ne (by omega), swI_ne (by omega)]
    · intro q q9 q10 q11
      rw [swI_k q10, swI_ne (by omega), swI_ne (by omega), swI_ne (by omega)]
    · intro c c6 c7 c8
      rw [lyI_ne c8, lyI_ne c7]
    · intro q hq
      rw [lyI_k (by omega), lyI_ne (by omega)]
    · obtain ⟨a1, a2, a3, a4, a5, a6, a7, a8⟩ := h8.1
      refine ⟨a1, ?_, fun q hq j hj => ?_, a4, by show E.2.2.1 + 1 ≤ 12; omega, swI_self, fun i hi j hj => ?_, ?_⟩
      · rw [swI_k (by omega), swI_ne (by omega), swI_ne (by omega), swI_ne (by omega)]
        exact a2
      · have hq : q < E.1 := hq
        rw [swI_ne (by omega), swI_ne (by omega), swI_ne (by omega), swI_ne (by omega)]
        exact a3 q hq j hj
      · have hi : i < E.2.2.1 + 1 := hi
        show _ = F i j
        by_cases e : i = E.2.2.1
        · rw [e, F1, swI_ne (by omega)]
          rcases (by omega : j = 0 ∨ j = 1 ∨ j = 2) with rfl | rfl | rfl
          · rw [swI_k (by omega), swI_k (by omega), swI_self]
            rfl
          · rw [swI_k (by omega), swI_self]
            rfl
          · rw [swI_self]
            rfl
        · rw [F2 i e, swI_ne (by omega), swI_ne (by omega), swI_ne (by omega), swI_ne (by omega)]
          exact a7 i (by omega) j hj
      · rw [swI_k (by omega), swI_ne (by omega), swI_ne (by omega), swI_ne (by omega)]
        exact a8
    · obtain ⟨b1, b2, b3, b4, b5⟩ := h8.2.1
      refine ⟨?_, lyI_self, ?_, fun q hq => ?_, fun i hi => ?_⟩
      · rw [lyI_k (by omega), lyI_ne (by omega)]
        exact b1
      · rw [lyI_k (by omega), lyI_ne (by omega)]
        exact b3
      · rw [lyI_ne (by omega), lyI_ne (by omega)]
        exact b4 q hq
      · have hi : i < E.2.2.1 + 1 := hi
        show ∃ k s t : Nat, k < 8 ∧ s < 6 ∧ t < 1000 ∧ F i 0 = nI k ∧ F i 1 = nI s ∧ F i 2 = nI t ∧ _ = nI (k + 8 * s + 64 * t)
        by_cases e : i = E.2.2.1
        · rw [e, F1, lyI_ne (by omega), lyI_self]
          exact ⟨r, s, E.2.2.2.2 + x, by omega, by omega, by omega, rfl, rfl, rfl, rfl⟩
        · rw [F2 i e, lyI_ne (by omega), lyI_k e]
          exact b5 i (by omega)
  · have hk' : ¬ (E.2.1 r 0 = 1 ∧ E.2.2.1 < 12) := fun z => hcan ⟨by
      have := z.1
      rw [f0, hk1] at this
      exact this, z.2⟩
    have hwv := oc_waiveN h3 h8 hr hs (show E.2.2.2.2 ≤ E.2.2.2.2 + x by omega) (show E.2.2.2.2 + x ≤ 999 by omega) hk'
    refine ⟨u, w, pre u w 0 w (-100003) (fun kk => ?_) (fun kk => ?_) ?_ (fun kk => ?_), hR⟩
    · by_cases hc1 : k = 1
      · have hc2 : 12 ≤ E.2.2.1 := Nat.le_of_not_lt (fun z => hcan ⟨hc1, z⟩)
        rw [if_pos (by rw [hk1]; exact hc1), if_pos (by rw [h12]; exact hc2)]
      · rw [if_neg (by rw [hk1]; exact hc1)]
    · rw [if_pos rfl]
    · unfold lx_calls swcl
      rw [if_neg (by decide), if_neg (by decide), if_pos rfl, hwv, swbd_e]
      rfl
    · rw [if_pos rfl]
