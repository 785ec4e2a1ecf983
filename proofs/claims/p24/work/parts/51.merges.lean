/-! ===== merges ===== -/
theorem sw_sum_tail (f : Nat → Nat) (n : Nat) : ∀ k, (∀ s, n ≤ s → s < n + k → f s = 0) → sw_sum (n + k) f = sw_sum n f
  | 0, _ => rfl
  | k + 1, h => by
    show sw_sum (n + k) f + f (n + k) = sw_sum n f
    rw [sw_sum_tail f n k (fun s h1 h2 => h s h1 (by omega)), h (n + k) (by omega) (by omega)]
    rfl
theorem swcc_beyond {O A B : swD} {ns : Nat} (hA : srW ns A) (hB : srW ns B) (hns : ns ≤ 20) {s : Nat} (hs : ns ≤ s) (hs2 : s < 2 ^ 31) : swcc O A B s = 0 := by
  have e1 := srW_beyond hA hns hs hs2
  have e2 := srW_beyond hB hns hs hs2
  unfold swcc
  rw [sw_cnt_no 4 (fun j _ => by unfold swOC; rw [e1]; rfl), if_neg (by rw [show swSC O A B (nI s) = false by unfold swSC; rw [e1, e2]; rfl]; decide)]
section MERGES
variable {t nv nb ns : Nat} {hd : Nat → Nat} {sh mo cm ot : Nat → Int32} {am : Nat → Nat} {dk : Nat → swD} {E : swEv} {u : swU} {w : lyU}
theorem la_baseV (h : lwR t nv nb ns hd sh mo cm ot am dk E u w) {a b : Nat} (ha : a < nv) (hb : b < nv) : lx_base w (nI a) (nI b) = some (nI (swBS nv am a b)) := by
  obtain ⟨h1, h2, h3, h4, h5, h6, hA, h7, h8, n21, n6, hday⟩ := h
  have e := la_base (w := w) (nv := nv) (by omega) (by omega) (h6 a ha).2.2.2.2.1 (h6 b hb).2.2.2.2.1 n21 (fun k hk => by
    rw [Nat.testBit_and, Bool.and_eq_true] at hk
    have := hA a ha k hk.1
    omega)
  rw [e]
  have : (fun k => (am a &&& am b).testBit k) = swCM am a b := by
    funext k
    rw [Nat.testBit_and]
    rfl
  rw [this]
  rfl
set_option maxHeartbeats 2000000 in
theorem la_merges (h : lwR t nv nb ns hd sh mo cm ot am dk E u w) (z : Int32) : ∃ u' w', lx_merges u w z = some (1, u', w') ∧ lwRx t u' w' := by
  have hR : lwRx t u w := ⟨nv, nb, ns, hd, sh, mo, cm, ot, am, dk, E, h⟩
  have hL := h
  obtain ⟨h1, h2, h3, h4, h5, h6, hA, h7, h8, n21, n6, hday⟩ := h
  have hb6 := h2.2.1
  have q82 := h2.2.2.2
  have q81 := h3.2.2
  have q80 := h1.2.2.2
  have e2I : ((2 : Int32) ≤ nI nb) = (2 ≤ nb) := by rw [show (2 : Int32) = nI 2 from rfl]; exact propext (nI_leI (by omega) (by omega))
  by_cases hb2 : 2 ≤ nb
  case neg =>
    refine ⟨u, w, ?_, hR⟩
    unfold lx_merges
    rw [sl2, q82, if_neg (by rw [e2I]; exact hb2)]
  obtain ⟨a, ha, ea⟩ := la_low z (n := nb) (by omega) (by omega)
  obtain ⟨r, hr, er⟩ := la_low (swshr z 3) (n := nb - 1) (by omega) (by omega)
  obtain ⟨q, hq, eq⟩ := la_low (swshr z 5) (n := 3) (by omega) (by omega)
  obtain ⟨ob, hob, eob⟩ := la_low (swshr z 9) (n := 4) (by omega) (by omega)
  have eq : lx_low (swshr z 5) 3 = some (nI q) := eq
  have eob : lx_low (swshr z 9) 4 = some (nI ob) := eob
  have enb1 : nI nb - 1 = nI (nb - 1) := pk_sub (b := 1) (by omega)
  obtain ⟨b, hbd⟩ : ∃ b, b = (a + 1 + r) % nb := ⟨_, rfl⟩
  have hb : b < nb := by rw [hbd]; exact Nat.mod_lt _ (by omega)
  have hab : a ≠ b := by
    intro e
    have h1 : a + 1 + r < 2 * nb := by omega
    by_cases hw : a + 1 + r < nb
    · rw [Nat.mod_eq_of_lt hw] at hbd
      omega
    · have : (a + 1 + r) % nb = a + 1 + r - nb := by
        rw [Nat.mod_eq_sub_mod (by omega), Nat.mod_eq_of_lt (by omega)]
      omega
  have eb : swrem ((nI a + 1) + nI r) (nI nb) = nI b := by
    rw [nI_1, nI_add, la_rem (by omega) (by omega) (by omega), hbd]
  obtain ⟨x, hxe⟩ : ∃ x : Int32, x = nI q - 1 := ⟨_, rfl⟩
  obtain ⟨tt, hx⟩ : ∃ tt : Bool, (x = -1 ∧ tt = false) ∨ (x = 0 ∧ tt = false) ∨ (x = 1 ∧ tt = true) := by
    rcases (by omega : q = 0 ∨ q = 1 ∨ q = 2) with rfl | rfl | rfl
    · exact ⟨false, Or.inl ⟨by rw [hxe]; decide, rfl⟩⟩
    · exact ⟨false, Or.inr (Or.inl ⟨by rw [hxe]; decide, rfl⟩)⟩
    · exact ⟨true, Or.inr (Or.inr ⟨by rw [hxe]; decide, rfl⟩)⟩
  have hha := (h4 a ha).1
  have hhb := (h4 b hb).1
  have c59 := (h4 a ha).2.2
  have c66 := (h4 b hb).2.2
  have hB := swBS_lt h1.1 am (hd a) (hd b)
  have ebase := la_baseV hL hha hhb
  have obase := oc_base h1 h2 h4 h6 hA ha hb hab
  obtain ⟨sl, hsl, esl⟩ : ∃ sl, sl < 6 ∧ ∀ kk : Int32 → Option (Int32 × swU × lyU), (if nI ns = 0 then (kk 0) else (swrd 6 (w.1 8) 1 fun a104 => swbd (lx_low (swshr z 7) a104) fun r105 => kk r105)) = kk (nI sl) := by
    by_cases e0 : ns = 0
    · exact ⟨0, by omega, fun kk => by rw [if_pos (by rw [e0]; rfl)]; rfl⟩
    · obtain ⟨sl, hsl, esl⟩ := la_low (swshr z 7) (n := ns) (by omega) (by omega)
      exact ⟨sl, by omega, fun kk => by rw [if_neg (nI_ne0 (by omega) (by omega)), sl1, q81, esl, swbd_e]⟩
  have m143 := fun KK => la_m143 hL ha hb hab hob hsl hx KK
  have ocl := oc_clashes h1 h2 h3 h4 h6 hA h7 ha hb hab
  obtain ⟨-, -, aw, aV⟩ := h7 _ hha
  obtain ⟨-, -, bw, bV⟩ := h7 _ hhb
  have hCS : sw_sum 6 (swcc (dk (swBS nv am (hd a) (hd b))) (dk (hd a)) (dk (hd b))) = swCC (dk (swBS nv am (hd a) (hd b))) (dk (hd a)) (dk (hd b)) ns := by
    have e := sw_sum_tail (swcc (dk (swBS nv am (hd a) (hd b))) (dk (hd a)) (dk (hd b))) ns (6 - ns) (fun s h1 h2 => swcc_beyond aw bw (by omega) h1 (by omega))
    rw [show ns + (6 - ns) = 6 by omega] at e
    exact e
  have hCle := swCC_le (dk (swBS nv am (hd a) (hd b))) (dk (hd a)) (dk (hd b)) ns
  have hMW := (swMB_W (O := dk (swBS nv am (hd a) (hd b))) aw bw tt (dk (hd b)).1 (Nat.le_refl _)).1
  have hbl := mblk_M (E := E) hMW n6
  have hMV := srV_M aV bV hMW
  have hMI := swits_M aV bV hMW
  have m446 := fun (b40 : nv < 21) (w1 : lyU) (CP : lyCP nv a (hd a) w w1) KK => la_m446 (u0 := u) hL (ba := swBS nv am (hd a) (hd b)) b40 hB hha hhb hx CP KK
  have omr := oc_merge hL ha hb hab (x := x) (t := tt) (show nv < 40 by omega) hx
  generalize swBS nv am (hd a) (hd b) = base at *
  rw [hCS, ← hbl] at m143
  obtain ⟨C, hC⟩ : ∃ C, C = swCC (dk base) (dk (hd a)) (dk (hd b)) ns := ⟨_, rfl⟩
  obtain ⟨M, hM⟩ : ∃ M, M = swMB (dk base) (dk (hd a)) (dk (hd b)) tt (dk (hd b)).1 := ⟨_, rfl⟩
  rw [← hC] at m143 ocl hCle omr
  rw [← hM] at m143 omr hMW hMV hMI m446
  obtain ⟨om1, om2, om3⟩ := omr
  have hlC : lg_cmp (Int32.toInt64 (nI C)) (lN C) = 0 := by
    rw [nI_l (by omega), la_cmp (by omega) (by omega)]
  have hcanv : ∀ (can : Bool), (can = true ↔ (x = -1 → C = 0) ∧ swBK E M = 0) → ∀ kk : Int32 → Option (Int32 × swU × lyU), (if 0 ≤ x then (if swB (decide (0 < swBK E M)) = 0 then (kk 1) else (kk 0)) else (if (lg_cmp (lN C) (0 : Int64)) = 0 then (if swB (decide (0 < swBK E M)) = 0 then (kk 1) else (kk 0)) else (kk 0))) = kk (swB can) := fun can hcan kk => by
    have hbk : (if swB (decide (0 < swBK E M)) = 0 then (kk 1) else (kk 0)) = kk (swB (decide (swBK E M = 0))) := by
      by_cases hz : swBK E M = 0
      · rw [if_pos (by rw [decide_eq_false (by omega)]), decide_eq_true hz]
      · rw [if_neg (by rw [decide_eq_true (by omega)]; decide), decide_eq_false hz]
    rw [hbk]
    by_cases hx1 : x = -1
    · rw [if_neg (by rw [hx1]; decide)]
      by_cases hC0 : C = 0
      · rw [if_pos (by rw [la_cmp0 (by omega)]; exact hC0)]
        have : can = decide (swBK E M = 0) := by
          by_cases hz : swBK E M = 0
          · rw [decide_eq_true hz]
            exact hcan.mpr ⟨fun _ => hC0, hz⟩
          · rw [decide_eq_false hz]
            cases hc : can
            · rfl
            · exact absurd (hcan.mp hc).2 hz
        rw [this]
      · rw [if_neg (by rw [la_cmp0 (by omega)]; exact hC0)]
        have : can = false := by
          cases hc : can
          · rfl
          · exact absurd ((hcan.mp hc).1 hx1) hC0
        rw [this]
    · have h0 : (0 : Int32) ≤ x := by
        rcases hx with ⟨rfl, rfl⟩ | ⟨rfl, rfl⟩ | ⟨rfl, rfl⟩
        · exact absurd rfl hx1
        · decide
        · decide
      rw [if_pos h0]
      have : can = decide (swBK E M = 0) := by
        by_cases hz : swBK E M = 0
        · rw [decide_eq_true hz]
          exact hcan.mpr ⟨fun y => absurd y hx1, hz⟩
        · rw [decide_eq_false hz]
          cases hc : can
          · rfl
          · exact absurd (hcan.mp hc).2 hz
      rw [this]
  have hdv : swdv (nI nb) = fun (k : Option (Int32 × swU × lyU)) => k := by
    funext k
    exact swdv_n (by omega) (by omega)
  -- the road to the joins
  have road : ∀ (can : Bool), (can = true ↔ (x = -1 → C = 0) ∧ swBK E M = 0) → ∀ R : Option (Int32 × swU × lyU), ((if nI nv = 21 then (swgd (decide (swZ 1 = 1)) <| some ((1 : Int32), u, w)) else (if (swB can) = 0 then (if (1 : Int32) = 0 then (some ((0 : Int32), u, w)) else (swbd (lx_calls u w 1 (nI a) (nI b) x) fun z404 => match z404 with | (r404, w404, u404) => if r404 = (-100003) then (some ((1 : Int32), w404, u404)) else (some ((0 : Int32), w404, u404)))) else (swbd (lx_copy w (nI a)) fun z432 => match z432 with | (r432, u432) => lx_merges_L446 u x (nI (hd a)) (nI (hd b)) (nI base) r432 (fun v25 v26 v27 wy617 => swgd (swix r432 21) <| swlt (lyI wy617 2 (Int32.toNatClampNeg r432) v25) fun u623 => swrd 21 (u623.1 3) r432 fun a629 => swrd 21 (u623.1 3) (nI (hd b)) fun a634 => swgd (swix r432 21) <| swlt (lyI u623 3 (Int32.toNatClampNeg r432) (a629 ||| a634)) fun u636 => swrd 21 (u636.1 4) r432 fun a642 => swgd (swix r432 21) <| swlt (lyI u636 4 (Int32.toNatClampNeg r432) ((a642 + ((64 : Int32) * (nI (hd b) + 1))))) fun u651 => if (1 : Int32) = 0 then (some ((0 : Int32), u, u651)) else (swbd (lx_calls u u651 1 (nI a) (nI b) x) fun z665 => match z665 with | (r665, w665, u665) => if r665 = r432 then (some ((1 : Int32), w665, u665)) else (some ((0 : Int32), w665, u665)))) 64 0 0 0 u432))) = R) → lx_merges u w z = R := fun can hcan R hRR => by
    unfold lx_merges
    rw [sl2, q82, if_pos (by rw [e2I]; exact hb2), sl2, q82, ea, swbd_e, sl2, q82, enb1, er, swbd_e, sl2, q82, hdv, eb, swlt_e, eq, swbd_e, ← hxe, swlt_e, swrd_n (by omega) (by omega), c59, swrd_n (by omega) (by omega), c66, ebase, swbd_e, sl1, q81]
    refine (swjn_c1 (nI sl) (fun kk => esl kk)).trans ?_
    show (swbd (lx_low (swshr z 9) 4) _) = _
    rw [eob, swbd_e, obase, swnx_e]
    refine (swjn_c1 1 (fun kk => if_pos rfl)).trans ?_
    refine (m143 _).trans ?_
    refine (swjn_c2 1 u (fun kk => ?_)).trans ?_
    · rw [if_neg (by decide), ocl, swnx_e, if_pos hlC]
    · refine (swjn_c1 (swB can) (fun kk => hcanv can hcan kk)).trans ?_
      show (swrd 6 (w.1 8) 0 _) = _
      rw [sl0, q80]
      exact hRR
  by_cases e21 : nv = 21
  · refine ⟨u, w, road (decide ((x = -1 → C = 0) ∧ swBK E M = 0)) (by rw [decide_eq_true_iff]) _ ?_, hR⟩
    rw [if_pos (by rw [e21]; rfl)]
    have e : swZ 1 = 1 := swZ_1
    rw [decide_eq_true e]
    rfl
  have n21' : ¬ nI nv = 21 := by rw [show (21 : Int32) = nI 21 from rfl, nI_eq (by omega) (by omega)]; exact e21
  by_cases hcan : (x = -1 → C = 0) ∧ swBK E M = 0
  case neg =>
    have hno : ∃ u1, xx5_merge u (nI a) (nI b) x = some (3, 0, u1) ∧ lwRx t u1 w := by
      by_cases hc1 : x = -1 → C = 0
      · obtain ⟨u1, e1, e2⟩ := om2 hc1 (Nat.pos_of_ne_zero (fun y => hcan ⟨hc1, y⟩))
        exact ⟨u1, e1, nv, nb, ns, hd, sh, mo, cm, ot, am, dk, E, e2⟩
      · have hx1 : x = -1 := Classical.byContradiction fun y => hc1 (fun q => absurd q y)
        exact ⟨u, om1 hx1 (Nat.pos_of_ne_zero (fun y => hc1 (fun _ => y))), hR⟩
    obtain ⟨u1, e1, e2⟩ := hno
    refine ⟨u1, w, road false (by simp only [Bool.false_eq_true, false_iff]; exact hcan) _ ?_, e2⟩
    have ecall : lx_calls u w 1 (nI a) (nI b) x = some ((-100003), u1, w) := by
      unfold lx_calls swcl
      rw [if_neg (by decide), if_pos rfl, e1, swbd_e]
      rfl
    rw [if_neg n21', if_pos (by rfl), if_neg (by decide), ecall, swbd_e]
    show (if (-100003 : Int32) = -100003 then _ else _) = _
    rw [if_pos rfl]
  obtain ⟨u1, u', e1, hL1, MV, g8⟩ := om3 hcan.1 hcan.2
  obtain ⟨w1, ew, CP⟩ := la_copy q80 (by omega) (by omega) c59 hha
  obtain ⟨zz, ez, z1, z2, z3⟩ := m446 (by omega) w1 CP (fun v25 v26 v27 wy617 => swgd (swix (nI nv) 21) <| swlt (lyI wy617 2 (Int32.toNatClampNeg (nI nv)) v25) fun u623 => swrd 21 (u623.1 3) (nI nv) fun a629 => swrd 21 (u623.1 3) (nI (hd b)) fun a634 => swgd (swix (nI nv) 21) <| swlt (lyI u623 3 (Int32.toNatClampNeg (nI nv)) (a629 ||| a634)) fun u636 => swrd 21 (u636.1 4) (nI nv) fun a642 => swgd (swix (nI nv) 21) <| swlt (lyI u636 4 (Int32.toNatClampNeg (nI nv)) ((a642 + ((64 : Int32) * (nI (hd b) + 1))))) fun u651 => if (1 : Int32) = 0 then (some ((0 : Int32), u, u651)) else (swbd (lx_calls u u651 1 (nI a) (nI b) x) fun z665 => match z665 with | (r665, w665, u665) => if r665 = (nI nv) then (some ((1 : Int32), w665, u665)) else (some ((0 : Int32), w665, u665))))
  have k3 : zz.1 3 nv = nI (am (hd a) ||| 2 ^ nv) := by
    rw [z1, CP.2.2.2.2.2.1, (h6 _ hha).2.2.2.2.1, la_or]
  have k3b : zz.1 3 (hd b) = nI (am (hd b)) := by
    rw [z1, (CP.2.2.2.2.2.2.2.1 (hd b) (by omega)).2.1]
    exact (h6 _ hhb).2.2.2.2.1
  have k4 : zz.1 4 nv = nI (hd a + 1 + 4096 * a) := by
    rw [z1]
    exact CP.2.2.2.2.2.2.1
  have e64 : nI (hd a + 1 + 4096 * a) + (64 : Int32) * (nI (hd b) + 1) = nI (hd a + 1 + 64 * (hd b + 1) + 4096 * a) := by
    rw [nI_1, show (64 : Int32) * nI (hd b + 1) = nI (64 * (hd b + 1)) from pk_mul 64 _, nI_add]
    congr 1
    omega
  refine ⟨u', lyI (lyI (lyI zz 2 nv (nI (sword M.2.1 M.1))) 3 nv (nI ((am (hd a) ||| 2 ^ nv) ||| am (hd b)))) 4 nv (nI (hd a + 1 + 64 * (hd b + 1) + 4096 * a)), road true (by simp only [true_iff]; exact hcan) _ ?_, ?_⟩
  · have ecall : ∀ y : lyU, lx_calls u y 1 (nI a) (nI b) x = some (nI nv, u', y) := fun y => by
      unfold lx_calls swcl
      rw [if_neg (by decide), if_pos rfl, e1, swbd_e]
      rfl
    rw [if_neg n21', if_neg (by decide), ew, swbd_e]
    refine ez.trans ?_
    show (swgd (swix (nI nv) 21) _) = _
    rw [swgd_n (by omega) (by omega), swlt_e, nI_clamp (by omega), swrd_n (by omega) (by omega), swrd_n (by omega) (by omega), lyI_ne (by omega), k3, k3b, swgd_n (by omega) (by omega), swlt_e, la_or, swrd_n (by omega) (by omega), lyI_ne (by omega), lyI_ne (by omega), k4, swgd_n (by omega) (by omega), swlt_e, e64, if_neg (by decide), ecall, swbd_e]
    show (if nI nv = nI nv then _ else _) = _
    rw [if_pos rfl]
  · refine lwR_new hL1 ha (by omega) (fun k hk => ?_) (ns' := ns) (Nat.le_refl _) n6 g8 ?_ MV ?_ hMW hMV
    · rw [Nat.testBit_or, Bool.or_eq_true, Nat.testBit_or, Bool.or_eq_true, Nat.testBit_two_pow, decide_eq_true_iff] at hk
      rcases hk with (hk | hk) | hk
      · have := hA _ hha k hk
        omega
      · omega
      · have := hA _ hhb k hk
        omega
    · rw [lyI_ne (by omega), lyI_ne (by omega), lyI_ne (by omega), z1, CP.2.1 1 (by omega)]
      exact q81
    · refine ⟨?_, fun k k0 k1 => ?_, ?_, fun k hk => ?_, fun k hk => ⟨?_, ?_, ?_⟩, ?_, ?_, ⟨?_, fun s hs => ?_⟩, fun v s hs hv => z2 v s hs hv, ?_, ?_⟩
      · rw [lyI_ne (by omega), lyI_ne (by omega), lyI_ne (by omega), z1]
        exact CP.1
      · rw [lyI_ne (by omega), lyI_ne (by omega), lyI_ne (by omega), z1]
        exact CP.2.1 k k0
      · rw [lyI_ne (by omega), lyI_ne (by omega), lyI_ne (by omega), z1]
        exact CP.2.2.1
      · rw [lyI_ne (by omega), lyI_ne (by omega), lyI_ne (by omega), z1]
        exact CP.2.2.2.1 k hk
      · rw [lyI_ne (by omega), lyI_ne (by omega), lyI_k hk, z1]
        exact (CP.2.2.2.2.2.2.2.1 k hk).1
      · rw [lyI_ne (by omega), lyI_k hk, lyI_ne (by omega), z1]
        exact (CP.2.2.2.2.2.2.2.1 k hk).2.1
      · rw [lyI_k hk, lyI_ne (by omega), lyI_ne (by omega), z1]
        exact (CP.2.2.2.2.2.2.2.1 k hk).2.2
      · rw [lyI_self]
        exact ⟨a, hd a + 1, hd b + 1, by omega, by omega, by omega, rfl, (nI_pred (hd a)).symm, (nI_pred (hd b)).symm, rfl⟩
      · rw [lyI_ne (by omega), lyI_self]
      · rw [lyI_ne (by omega), lyI_ne (by omega), lyI_self]
      · show lwget zz nv s = _
        rw [z3 s hs, hMI s]
      · rw [lyI_ne (by omega), lyI_ne (by omega), lyI_ne (by omega), z1]
        exact CP.2.2.2.2.2.2.2.2.1
      · rw [lyI_ne (by omega), lyI_ne (by omega), lyI_ne (by omega), z1]
        exact CP.2.2.2.2.2.2.2.2.2.1
end MERGES
