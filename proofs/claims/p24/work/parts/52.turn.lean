/-! ===== a turn ===== -/
theorem lwRx.mono {t t' : Nat} {u : swU} {w : lyU} (h : lwRx t u w) (ht : t ≤ t') : lwRx t' u w := by
  obtain ⟨nv, nb, ns, hd, sh, mo, cm, ot, am, dk, E, h1, h2, h3, h4, h5, h6, hA, h7, h8, n21, n6, hday⟩ := h
  exact ⟨nv, nb, ns, hd, sh, mo, cm, ot, am, dk, E, h1, h2, h3, h4, h5, h6, hA, h7, h8, n21, n6, by omega⟩
section TURNP
variable {t nv nb ns : Nat} {hd : Nat → Nat} {sh mo cm ot : Nat → Int32} {am : Nat → Nat} {dk : Nat → swD} {E : swEv} {u : swU} {w : lyU}
theorem lwR_branch (h : lwR t nv nb ns hd sh mo cm ot am dk E u w) {v : Nat} (hv : v < nv) (hnb : nb < 6) : lwRx t (swI (swI u 1 nb (nI v)) 0 7 (nI (nb + 1))) (lyI (lyI w 5 nb (nI v)) 8 2 (nI (nb + 1))) := by
  obtain ⟨h1, h2, h3, h4, h5, h6, hA, h7, h8, n21, n6, hday⟩ := h
  obtain ⟨hd', hd1, hd2⟩ := sw_ext hd nb v
  refine ⟨nv, nb + 1, ns, hd', sh, mo, cm, ot, am, dk, E, ?_, ?_, ?_, fun b hb => ?_, fun b hb => ?_, fun q hq => ?_, hA, fun q hq => ?_, ?_, n21, n6, hday⟩
  · obtain ⟨a1, a2, a3, a4⟩ := h1
    exact ⟨a1, a2, by rw [swI_k (by omega), swI_ne (by omega)]; exact a3, by rw [lyI_k (by omega), lyI_ne (by omega)]; exact a4⟩
  · exact ⟨by omega, by omega, swI_self, lyI_self⟩
  · obtain ⟨a1, a2, a3⟩ := h3
    exact ⟨a1, by rw [swI_k (by omega), swI_ne (by omega)]; exact a2, by rw [lyI_k (by omega), lyI_ne (by omega)]; exact a3⟩
  · by_cases e : b = nb
    · rw [e, hd1]
      exact ⟨hv, by rw [swI_ne (by omega), swI_self], by rw [lyI_ne (by omega), lyI_self]⟩
    · obtain ⟨a1, a2, a3⟩ := h4 b (by omega)
      rw [hd2 b e]
      exact ⟨a1, by rw [swI_ne (by omega), swI_k e]; exact a2, by rw [lyI_ne (by omega), lyI_k e]; exact a3⟩
  · obtain ⟨a1, a2, a3⟩ := h5 b hb
    exact ⟨by rw [swI_ne (by omega), swI_ne (by omega)]; exact a1, by rw [lyI_ne (by omega), lyI_k (by omega)]; exact a2, a3⟩
  · rw [swI_ne (by omega), swI_ne (by omega), lyI_ne (by omega), lyI_ne (by omega), lyI_ne (by omega), lyI_ne (by omega)]
    exact h6 q hq
  · obtain ⟨a1, a2, a3, a4⟩ := h7 q hq
    exact ⟨swcD_fr a1 (by rw [swI_ne (by omega), swI_ne (by omega)]) (fun _ _ => by rw [swI_ne (by omega), swI_ne (by omega)]) (fun _ _ _ _ => by rw [swI_ne (by omega), swI_ne (by omega)]), lwD_fr a2 (by rw [lyI_ne (by omega), lyI_ne (by omega)]) (fun s _ => rfl), a3, a4⟩
  · obtain ⟨a1, a2, a3⟩ := h8
    exact ⟨swcE_fe a1 (by rw [swI_k (by omega), swI_ne (by omega)]) (by rw [swI_k (by omega), swI_ne (by omega)]) (by rw [swI_k (by omega), swI_ne (by omega)]) (fun c q1 q2 => by rw [swI_ne (by omega), swI_ne (by omega)]), lwE_fe a2 (by rw [lyI_k (by omega), lyI_ne (by omega)]) (by rw [lyI_k (by omega), lyI_ne (by omega)]) (by rw [lyI_k (by omega), lyI_ne (by omega)]) (by rw [lyI_ne (by omega), lyI_ne (by omega)]) (by rw [lyI_ne (by omega), lyI_ne (by omega)]), a3⟩
theorem lwR_show (h : lwR t nv nb ns hd sh mo cm ot am dk E u w) {b v : Nat} (hb : b < nb) (hv : v < nv) : lwRx t (swI u 2 b (nI v)) (lyI w 5 (6 + b) (nI (v + 1))) := by
  obtain ⟨h1, h2, h3, h4, h5, h6, hA, h7, h8, n21, n6, hday⟩ := h
  have hb6 := h2.2.1
  obtain ⟨sh', sh1, sh2⟩ := sw_ext sh b (nI v)
  refine ⟨nv, nb, ns, hd, sh', mo, cm, ot, am, dk, E, ?_, ?_, ?_, fun q hq => ?_, fun q hq => ?_, fun q hq => ?_, hA, fun q hq => ?_, ?_, n21, n6, hday⟩
  · obtain ⟨a1, a2, a3, a4⟩ := h1
    exact ⟨a1, a2, by rw [swI_ne (by omega)]; exact a3, by rw [lyI_ne (by omega)]; exact a4⟩
  · obtain ⟨a1, a2, a3, a4⟩ := h2
    exact ⟨a1, a2, by rw [swI_ne (by omega)]; exact a3, by rw [lyI_ne (by omega)]; exact a4⟩
  · obtain ⟨a1, a2, a3⟩ := h3
    exact ⟨a1, by rw [swI_ne (by omega)]; exact a2, by rw [lyI_ne (by omega)]; exact a3⟩
  · obtain ⟨a1, a2, a3⟩ := h4 q hq
    exact ⟨a1, by rw [swI_ne (by omega)]; exact a2, by rw [lyI_k (by omega)]; exact a3⟩
  · by_cases e : q = b
    · rw [e, sh1]
      exact ⟨swI_self, by rw [lyI_self, nI_1], Or.inr ⟨v, hv, rfl⟩⟩
    · obtain ⟨a1, a2, a3⟩ := h5 q hq
      rw [sh2 q e]
      exact ⟨by rw [swI_k e]; exact a1, by rw [lyI_k (by omega)]; exact a2, a3⟩
  · rw [swI_ne (by omega), lyI_ne (by omega), lyI_ne (by omega)]
    exact h6 q hq
  · obtain ⟨a1, a2, a3, a4⟩ := h7 q hq
    exact ⟨swcD_fr a1 (by rw [swI_ne (by omega)]) (fun _ _ => by rw [swI_ne (by omega)]) (fun _ _ _ _ => by rw [swI_ne (by omega)]), lwD_fr a2 (by rw [lyI_ne (by omega)]) (fun s _ => rfl), a3, a4⟩
  · obtain ⟨a1, a2, a3⟩ := h8
    exact ⟨swcE_fe a1 (by rw [swI_ne (by omega)]) (by rw [swI_ne (by omega)]) (by rw [swI_ne (by omega)]) (fun c q1 q2 => by rw [swI_ne (by omega)]), lwE_fe a2 (by rw [lyI_ne (by omega)]) (by rw [lyI_ne (by omega)]) (by rw [lyI_ne (by omega)]) (by rw [lyI_ne (by omega)]) (by rw [lyI_ne (by omega)]), a3⟩
theorem lyI_same {y : lyU} {c k : Nat} : ∀ c' k', (lyI y c k (y.1 c k)).1 c' k' = y.1 c' k' := fun c' k' => by
  by_cases e : c' = c
  · by_cases e2 : k' = k
    · rw [e, e2, lyI_self]
    · exact lyI_k e2
  · rw [lyI_ne e]
theorem lyI_id {y : lyU} {c k : Nat} : lyI y c k (y.1 c k) = y := Prod.ext (funext fun c' => funext fun k' => lyI_same c' k') rfl
theorem lwR_pass (h : lwR t nv nb ns hd sh mo cm ot am dk E u w) {n : Nat} (hn : n ≤ 4) (ht : t ≤ 900) : lwRx (t + 4) (swI u 0 11 (nI (E.2.2.2.2 + n))) (lyI w 8 5 (nI (E.2.2.2.2 + n))) := by
  have hL := h
  obtain ⟨h1, h2, h3, h4, h5, h6, hA, h7, h8, n21, n6, hday⟩ := h
  refine ⟨nv, nb, ns, hd, sh, mo, cm, ot, am, dk, (E.1, E.2.1, E.2.2.1, E.2.2.2.1, E.2.2.2.2 + n), lwR_E hL (fun c c0 c1 => swI_ne (by omega)) (fun q q9 q10 q11 => swI_k q11) rfl (fun c c6 c7 c8 => lyI_ne c8) (fun q hq => lyI_k (by omega)) rfl ?_ ?_ (by show E.2.2.2.2 + n ≤ 999; omega) (by show E.2.2.2.2 + n ≤ t + 4; omega)⟩
  · obtain ⟨a1, a2, a3, a4, a5, a6, a7, a8⟩ := h8.1
    exact ⟨a1, by rw [swI_k (by omega)]; exact a2, fun r hr j hj => by rw [swI_ne (by omega)]; exact a3 r hr j hj, a4, a5, by rw [swI_k (by omega)]; exact a6, fun k hk j hj => by rw [swI_ne (by omega)]; exact a7 k hk j hj, swI_self⟩
  · obtain ⟨b1, b2, b3, b4, b5⟩ := h8.2.1
    exact ⟨by rw [lyI_k (by omega)]; exact b1, by rw [lyI_k (by omega)]; exact b2, lyI_self, fun r hr => by rw [lyI_ne (by omega)]; exact b4 r hr, fun i hi => by rw [lyI_ne (by omega)]; exact b5 i hi⟩
set_option maxHeartbeats 2000000 in
theorem la_turn (h : lwR t nv nb ns hd sh mo cm ot am dk E u w) (ht : t ≤ 900) (x12 x13 : Int32) : ∃ u' w', lx_turn u w x12 x13 = some (1, u', w') ∧ lwRx (t + 4) u' w' := by
  have hR : lwRx t u w := ⟨nv, nb, ns, hd, sh, mo, cm, ot, am, dk, E, h⟩
  have hL := h
  obtain ⟨h1, h2, h3, h4, h5, h6, hA, h7, h8, n21, n6, hday⟩ := h
  have hb6 := h2.2.1
  have q82 := h2.2.2.2
  have q80 := h1.2.2.2
  have q85 := h8.2.1.2.2.1
  have hnv := h1.1
  obtain ⟨n, hn, en⟩ := la_low x13 (n := 30) (by omega) (by omega)
  have en : lx_low x13 30 = some (nI n) := en
  have cI : ∀ c : Nat, c < 30 → ((nI c) ≤ nI n) = (c ≤ n) := fun c hc => propext (nI_leI (by omega) (by omega))
  have c12 : ((12 : Int32) ≤ nI n) = (12 ≤ n) := cI 12 (by omega)
  have c16 : ((16 : Int32) ≤ nI n) = (16 ≤ n) := cI 16 (by omega)
  have c18 : ((18 : Int32) ≤ nI n) = (18 ≤ n) := cI 18 (by omega)
  have c24 : ((24 : Int32) ≤ nI n) = (24 ≤ n) := cI 24 (by omega)
  have c28 : ((28 : Int32) ≤ nI n) = (28 ≤ n) := cI 28 (by omega)
  have c3 : ((3 : Int32) ≤ nI n) = (3 ≤ n) := cI 3 (by omega)
  have c11 : ((11 : Int32) ≤ nI n) = (11 ≤ n) := cI 11 (by omega)
  have c20 : ((20 : Int32) ≤ nI n) = (20 ≤ n) := cI 20 (by omega)
  have c22 : ((22 : Int32) ≤ nI n) = (22 ≤ n) := cI 22 (by omega)
  have tail : ∀ (tq : Nat) (u' : swU) (w' : lyU), lwRx tq u' w' → (swjn (fun (s555_0 : Int32) (uj555 : swU) (yj555 : lyU) => some (s555_0, uj555, yj555)) fun k555_ => if (1 : Int32) = 0 then (k555_ 0 u' w') else (swbd (lx_same u' w' (swshr (swshr x13 5) 1)) fun z544 => match z544 with | (r544, w544, u544) => if r544 = 0 then (k555_ 0 w544 u544) else (k555_ 1 w544 u544))) = some (1, u', w') := fun tq u' w' hR' => by
    obtain ⟨nv', nb', ns', hd', sh', mo', cm', ot', am', dk', E', hL'⟩ := hR'
    refine (swjn_c3 1 u' w' (fun kk => ?_)).trans rfl
    rw [if_neg (by decide), la_same hL', swbd_e]
    show (if (1 : Int32) = 0 then _ else _) = _
    rw [if_neg (by decide)]
  generalize hz : swshr x13 5 = z at tail
  by_cases n12 : 12 ≤ n
  case neg =>
    have key : ∀ (act : Int32), (∀ kk : Int32 → Option (Int32 × swU × lyU), (if (3 : Int32) ≤ nI n then (if (11 : Int32) ≤ nI n then (kk 2) else (kk 1)) else (kk 0)) = kk act) → (∃ u' w', lx_edits u w act z = some (1, u', w') ∧ lwRx t u' w') → ∃ u' w', lx_turn u w x12 x13 = some (1, u', w') ∧ lwRx (t + 4) u' w' := fun act hact he => by
      obtain ⟨u', w', e1, e2⟩ := he
      refine ⟨u', w', ?_, e2.mono (by omega)⟩
      unfold lx_turn
      rw [en, swbd_e, hz, swlt_e]
      refine (swjn_c3 1 u' w' (fun kk => ?_)).trans (tail _ u' w' e2)
      rw [if_neg (by rw [c12]; exact n12)]
      refine (swjn_c1 act (fun kk => hact kk)).trans ?_
      show (swbd (lx_edits u w act z) _) = _
      rw [e1, swbd_e]
    by_cases n3 : 3 ≤ n
    · by_cases n11 : 11 ≤ n
      · exact key 2 (fun kk => by rw [if_pos (by rw [c3]; exact n3), if_pos (by rw [c11]; exact n11)]) (la_edits2 hL z)
      · exact key 1 (fun kk => by rw [if_pos (by rw [c3]; exact n3), if_neg (by rw [c11]; exact n11)]) (la_edits1 hL z)
    · exact key 0 (fun kk => by rw [if_neg (by rw [c3]; exact n3)]) (la_edits0 hL z)
  by_cases n16 : 16 ≤ n
  case neg =>
    obtain ⟨u', w', e1, e2⟩ := la_merges hL z
    refine ⟨u', w', ?_, e2.mono (by omega)⟩
    unfold lx_turn
    rw [en, swbd_e, hz, swlt_e]
    refine (swjn_c3 1 u' w' (fun kk => ?_)).trans (tail _ u' w' e2)
    rw [if_pos (by rw [c12]; exact n12), if_neg (by rw [c16]; exact n16), e1, swbd_e]
  by_cases n18 : 18 ≤ n
  case neg =>
    obtain ⟨r3, hr3, er3⟩ := la_low z (n := 3) (by omega) (by omega)
    have er3 : lx_low z 3 = some (nI r3) := er3
    obtain ⟨v, hv, ev⟩ : ∃ v, v < nv ∧ ∀ kk : Int32 → Option (Int32 × swU × lyU), (if nI r3 ≤ 0 then (swrd 6 (w.1 8) 0 fun a234 => swbd (lx_low (swshr z 2) a234) fun r235 => kk r235) else (swrd 6 (w.1 8) 0 fun a221 => kk (a221 - 1))) = kk (nI v) := by
      by_cases hr0 : r3 = 0
      · obtain ⟨v, hv, ev⟩ := la_low (swshr z 2) (n := nv) (by omega) (by omega)
        exact ⟨v, hv, fun kk => by rw [if_pos (by rw [hr0]; decide), sl0, q80, ev, swbd_e]⟩
      · refine ⟨nv - 1, by omega, fun kk => ?_⟩
        have : nI nv - 1 = nI (nv - 1) := pk_sub (b := 1) hnv
        rw [if_neg (nI_nle (by omega) (by omega)), sl0, q80, this]
    have c6 : ((6 : Int32) ≤ nI nb) = (6 ≤ nb) := by rw [show (6 : Int32) = nI 6 from rfl]; exact propext (nI_leI (by omega) (by omega))
    by_cases n6b : 6 ≤ nb
    · refine ⟨u, w, ?_, hR.mono (by omega)⟩
      have ebr := oc_branchN h1 h2 hv (show nb = 6 by omega)
      have ecall : lx_calls u w 0 (nI v) 0 0 = some ((-100003), u, w) := by
        unfold lx_calls swcl
        rw [if_pos rfl, ebr, swbd_e]
        rfl
      unfold lx_turn
      rw [en, swbd_e, hz, swlt_e]
      refine (swjn_c3 1 u w (fun kk => ?_)).trans (tail _ u w hR)
      rw [if_pos (by rw [c12]; exact n12), if_pos (by rw [c16]; exact n16), if_neg (by rw [c18]; exact n18), er3, swbd_e]
      refine (swjn_c1 (nI v) (fun kk => ev kk)).trans ?_
      show (swrd 6 (w.1 8) 2 _) = _
      rw [sl2, q82]
      refine (swjn_c1 0 (fun kk => if_pos (by rw [c6]; exact n6b))).trans ?_
      refine (swjn_c1 w (fun kk => if_pos rfl)).trans ?_
      show (swbd (lx_calls u w 0 (nI v) 0 0) _) = _
      rw [ecall, swbd_e]
      refine (swjn_c1 (-100003) (fun kk => if_pos rfl)).trans ?_
      refine (swjn_c1 1 (fun kk => if_pos rfl)).trans ?_
      rfl
    · have hRb := lwR_branch hL hv (show nb < 6 by omega)
      refine ⟨_, _, ?_, hRb.mono (by omega)⟩
      have ebr := oc_branch h1 h2 hv (show nb < 6 by omega)
      have ecall : ∀ y : lyU, lx_calls u y 0 (nI v) 0 0 = some (nI nb, swI (swI u 1 nb (nI v)) 0 7 (nI (nb + 1)), y) := fun y => by
        unfold lx_calls swcl
        rw [if_pos rfl, ebr, swbd_e]
        rfl
      unfold lx_turn
      rw [en, swbd_e, hz, swlt_e]
      refine (swjn_c3 1 (swI (swI u 1 nb (nI v)) 0 7 (nI (nb + 1))) (lyI (lyI w 5 nb (nI v)) 8 2 (nI (nb + 1))) (fun kk => ?_)).trans (tail _ _ _ hRb)
      rw [if_pos (by rw [c12]; exact n12), if_pos (by rw [c16]; exact n16), if_neg (by rw [c18]; exact n18), er3, swbd_e]
      refine (swjn_c1 (nI v) (fun kk => ev kk)).trans ?_
      show (swrd 6 (w.1 8) 2 _) = _
      rw [sl2, q82]
      refine (swjn_c1 1 (fun kk => if_neg (by rw [c6]; exact n6b))).trans ?_
      refine (swjn_c1 (lyI (lyI w 5 nb (nI v)) 8 2 (nI (nb + 1))) (fun kk => ?_)).trans ?_
      · rw [if_neg (by decide), sl2, q82, swgd_n (by omega) (by omega), swlt_e, nI_clamp (by omega), sl2, lyI_ne (by omega), q82, sg2, swlt_e, sc2, nI_1]
      · show (swbd (lx_calls u _ 0 (nI v) 0 0) _) = _
        rw [ecall, swbd_e]
        refine (swjn_c1 (nI nb) (fun kk => ?_)).trans ?_
        · rw [if_neg (by decide), sl2, lyI_self, nI_pred]
        · refine (swjn_c1 1 (fun kk => if_pos rfl)).trans ?_
          rfl
  by_cases n24 : 24 ≤ n
  case neg =>
    have key : ∀ (act : Int32), (∀ kk : Int32 → Option (Int32 × swU × lyU), (if (20 : Int32) ≤ nI n then (if (22 : Int32) ≤ nI n then (kk 2) else (kk 1)) else (kk 0)) = kk act) → (∃ u' w', lx_rules u w act z = some (1, u', w') ∧ lwRx t u' w') → ∃ u' w', lx_turn u w x12 x13 = some (1, u', w') ∧ lwRx (t + 4) u' w' := fun act hact he => by
      obtain ⟨u', w', e1, e2⟩ := he
      refine ⟨u', w', ?_, e2.mono (by omega)⟩
      unfold lx_turn
      rw [en, swbd_e, hz, swlt_e]
      refine (swjn_c3 1 u' w' (fun kk => ?_)).trans (tail _ u' w' e2)
      rw [if_pos (by rw [c12]; exact n12), if_pos (by rw [c16]; exact n16), if_pos (by rw [c18]; exact n18), if_neg (by rw [c24]; exact n24)]
      refine (swjn_c1 act (fun kk => hact kk)).trans ?_
      show (swbd (lx_rules u w act z) _) = _
      rw [e1, swbd_e]
    by_cases n20 : 20 ≤ n
    · by_cases n22 : 22 ≤ n
      · exact key 2 (fun kk => by rw [if_pos (by rw [c20]; exact n20), if_pos (by rw [c22]; exact n22)]) (la_rules2 ht hL z)
      · exact key 1 (fun kk => by rw [if_pos (by rw [c20]; exact n20), if_neg (by rw [c22]; exact n22)]) (la_rules1 hL z)
    · exact key 0 (fun kk => by rw [if_neg (by rw [c20]; exact n20)]) (la_rules0 hL z)
  by_cases n28 : 28 ≤ n
  case neg =>
    obtain ⟨b, hb, eb⟩ := la_low z (n := nb) (by have := h2.1; omega) (by omega)
    obtain ⟨hh, -, c2⟩ := h4 b hb
    have s2 := (h5 b (by omega)).2.1
    have ebl := la_blockedV hL hh
    have e6 : (6 : Int32) + nI b = nI (6 + b) := nI_add 6 b
    by_cases hB : 0 < swBK E (dk (hd b))
    · refine ⟨u, w, ?_, hR.mono (by omega)⟩
      have ebr := oc_showN h1 h2 h4 h7 h8 hb hB
      have ecall : lx_calls u w 3 (nI b) 0 0 = some ((-100003), u, w) := by
        unfold lx_calls swcl
        rw [if_neg (by decide), if_neg (by decide), if_neg (by decide), ebr, swbd_e]
        rfl
      unfold lx_turn
      rw [en, swbd_e, hz, swlt_e]
      refine (swjn_c3 1 u w (fun kk => ?_)).trans (tail _ u w hR)
      rw [if_pos (by rw [c12]; exact n12), if_pos (by rw [c16]; exact n16), if_pos (by rw [c18]; exact n18), if_pos (by rw [c24]; exact n24), if_neg (by rw [c28]; exact n28), sl2, q82, eb, swbd_e, swrd_n (by omega) (by omega), c2, ebl, swbd_e]
      refine (swjn_c1 0 (fun kk => if_neg (by rw [decide_eq_true hB]; decide))).trans ?_
      refine (swjn_c1 (w.1 5 (6 + b)) (fun kk => ?_)).trans ?_
      · rw [if_pos rfl, e6, swrd_n (by omega) (by omega)]
      · show (swgd (swix ((6 : Int32) + nI b) 12) _) = _
        rw [e6, swgd_n (by omega) (by omega), swlt_e, nI_clamp (by omega), lyI_id, ecall, swbd_e]
        refine (swjn_c1 (-100003) (fun kk => if_pos rfl)).trans ?_
        refine (swjn_c1 1 (fun kk => if_pos rfl)).trans ?_
        rfl
    · have hRb := lwR_show hL hb hh
      refine ⟨_, _, ?_, hRb.mono (by omega)⟩
      have ebr := oc_show h1 h2 h4 h7 h8 hb (show swBK E (dk (hd b)) = 0 by omega)
      have ecall : ∀ y : lyU, lx_calls u y 3 (nI b) 0 0 = some (nI (hd b), swI u 2 b (nI (hd b)), y) := fun y => by
        unfold lx_calls swcl
        rw [if_neg (by decide), if_neg (by decide), if_neg (by decide), ebr, swbd_e]
        rfl
      unfold lx_turn
      rw [en, swbd_e, hz, swlt_e]
      refine (swjn_c3 1 (swI u 2 b (nI (hd b))) (lyI w 5 (6 + b) (nI (hd b + 1))) (fun kk => ?_)).trans (tail _ _ _ hRb)
      rw [if_pos (by rw [c12]; exact n12), if_pos (by rw [c16]; exact n16), if_pos (by rw [c18]; exact n18), if_pos (by rw [c24]; exact n24), if_neg (by rw [c28]; exact n28), sl2, q82, eb, swbd_e, swrd_n (by omega) (by omega), c2, ebl, swbd_e]
      refine (swjn_c1 1 (fun kk => if_pos (by rw [decide_eq_false hB]))).trans ?_
      refine (swjn_c1 (nI (hd b + 1)) (fun kk => ?_)).trans ?_
      · rw [if_neg (by decide), swrd_n (by omega) (by omega), c2, nI_1]
      · show (swgd (swix ((6 : Int32) + nI b) 12) _) = _
        rw [e6, swgd_n (by omega) (by omega), swlt_e, nI_clamp (by omega), ecall, swbd_e]
        refine (swjn_c1 (nI (hd b)) (fun kk => ?_)).trans ?_
        · rw [if_neg (by decide), swrd_n (by omega) (by omega), lyI_k (by omega), c2]
        · refine (swjn_c1 1 (fun kk => if_pos rfl)).trans ?_
          rfl
  · obtain ⟨d, hd4, ed⟩ := la_low z (n := 4) (by omega) (by omega)
    have ed : lx_low z 4 = some (nI d) := ed
    have e1d : (1 : Int32) + nI d = nI (1 + d) := nI_add 1 d
    have hRb := lwR_pass hL (n := 1 + d) (by omega) ht
    refine ⟨_, _, ?_, hRb⟩
    have ebr := oc_pass h8 (n := 1 + d) (by omega) (by omega) (by omega)
    unfold lx_turn
    rw [en, swbd_e, hz, swlt_e]
    refine (swjn_c3 1 (swI u 0 11 (nI (E.2.2.2.2 + (1 + d)))) (lyI w 8 5 (nI (E.2.2.2.2 + (1 + d)))) (fun kk => ?_)).trans (tail _ _ _ hRb)
    rw [if_pos (by rw [c12]; exact n12), if_pos (by rw [c16]; exact n16), if_pos (by rw [c18]; exact n18), if_pos (by rw [c24]; exact n24), if_pos (by rw [c28]; exact n28), ed, swbd_e, e1d, swlt_e, sl5, q85, sg5, swlt_e, sc5, nI_add, ebr, swnx_e, sl5, lyI_self]
    refine (swjn_c1 1 (fun kk => if_pos rfl)).trans ?_
    rfl
end TURNP
