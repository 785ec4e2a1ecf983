theorem swjn_c1 {α γ : Type} {K : α → γ} {B : (α → γ) → γ} (a : α) (h : ∀ k, B k = k a) : swjn K B = K a := h K
theorem swjn_c2 {α β γ : Type} {K : α → β → γ} {B : (α → β → γ) → γ} (a : α) (b : β) (h : ∀ k, B k = k a b) : swjn K B = K a b := h K
theorem swjn_c3 {α β δ γ : Type} {K : α → β → δ → γ} {B : (α → β → δ → γ) → γ} (a : α) (b : β) (c : δ) (h : ∀ k, B k = k a b c) : swjn K B = K a b c := h K
section SAME2
variable {t nv nb ns : Nat} {hd : Nat → Nat} {sh mo cm ot : Nat → Int32} {am : Nat → Nat} {dk : Nat → swD} {E : swEv} {u : swU} {w : lyU}
theorem srA_21 {v : Nat} (hA : srA nv am) (hv : v < nv) (h21 : nv ≤ 21) : am v < 2 ^ 21 := by
  apply Nat.lt_pow_two_of_testBit
  intro i hi
  cases h : (am v).testBit i
  · rfl
  · have := hA v hv i h
    omega
theorem sw_cnt_anc {v : Nat} (hA : srA nv am) (hv : v < nv) (h21 : nv ≤ 21) : sw_cnt 40 (fun k => (am v).testBit k) = sw_cnt 21 (fun k => (am v).testBit k) := by
  rw [show (40 : Nat) = 21 + 19 from rfl, sw_cnt_split, sw_cnt_no 19 (fun k _ => Nat.testBit_lt_two_pow (Nat.lt_of_lt_of_le (srA_21 hA hv h21) (Nat.pow_le_pow_right (by omega) (by omega)))), Nat.add_zero]
set_option maxHeartbeats 2000000 in
theorem la_same108 (h : lwR t nv nb ns hd sh mo cm ot am dk E u w) (z : Int32) (KK : Int32 → Int32 → swU → Option (Int32 × swU × lyU)) : lx_same_L108 w z KK 8 1 0 u = KK 1 (nI 3) u := by
  have hL := h
  obtain ⟨h1, h2, h3, h4, h5, h6, hA, h7, h8, n21, n6, hday⟩ := h
  have q80 := h1.2.2.2
  have hnv := h1.1
  have all : ∀ v, v < nv → ∃ m c o : Nat, m < 6 ∧ c ≤ 40 ∧ o ≤ 40 ∧ mo v = nI m ∧ cm v = nI c - 1 ∧ ot v = nI o - 1 ∧ w.1 4 v = nI (c + 64 * o + 4096 * m) ∧ nI (c + 64 * o + 4096 * m) / 4096 = nI m ∧ swrem (nI (c + 64 * o + 4096 * m)) 64 = nI c ∧ swrem (nI (c + 64 * o + 4096 * m) / 64) 64 = nI o := fun v hv => by
    obtain ⟨m, c, o, m1, m2, m3, m4, m5, m6, m7⟩ := (h6 v hv).2.2.2.1
    refine ⟨m, c, o, m1, m2, m3, m4, m5, m6, m7, ?_, ?_, ?_⟩
    · rw [show (4096 : Int32) = nI 4096 from rfl, pk_div (by omega) (by omega) (by omega)]
      congr 1
      omega
    · rw [show (64 : Int32) = nI 64 from rfl, la_rem (by omega) (by omega) (by omega)]
      congr 1
      omega
    · rw [show (64 : Int32) = nI 64 from rfl, pk_div (by omega) (by omega) (by omega), la_rem (by omega) (by omega) (by omega)]
      congr 1
      omega
  obtain ⟨f, e⟩ := sw_upF (fun f k => lx_same_L108 w z KK f 1 (nI k) u) 3 8 (fun f i hi => by
    have hno : ((3 : Int32) ≤ nI i) = False := eq_false (nI_ge (b := 3) hi (by omega))
    have body : ∀ v, v < nv → (i = 0 → v = nv - 1) → (i ≠ 0 → lx_low (swshr z (nI i)) (nI nv) = some (nI v)) → lx_same_L108 w z KK (f + 1) 1 (nI i) u = lx_same_L108 w z KK f 1 (nI (i + 1)) u := fun v hv hi0 hi1 => by
      obtain ⟨m, c, o, m1, m2, m3, m4, m5, m6, m7, p1, p2, p3⟩ := all v hv
      obtain ⟨al1, bk, wk⟩ := la_allV hL hv
      obtain ⟨hc, hD, hw, hV⟩ := h7 v hv
      have hcnt := srW_cnt hw (by omega)
      have hdg := srW_dg hw (by omega)
      have emany : lx_many (nI (sword (dk v).2.1 (dk v).1)) = some (nI (dk v).1) := la_many (by omega) hdg
      obtain ⟨ab0, ab1, ab2, ab3, ab4⟩ := oc_about h1 h6 hA h7 hv
      rw [m4] at ab0
      rw [m5] at ab1
      rw [m6] at ab2
      rw [sw_cnt_anc hA hv n21] at ab4
      have an := fun KK => la_anc (u := u) (w := w) (h6 v hv).2.2.2.2.1 (by omega) (srA_21 hA hv n21) KK
      have l40 : sw_cnt 21 (fun k => (am v).testBit k) ≤ 21 := sw_cnt_le _ _
      have b1 : swrem (nI (swBK E (dk v) + 64 * swWK E (dk v))) 64 = nI (swBK E (dk v)) := by
        rw [show (64 : Int32) = nI 64 from rfl, la_rem (by omega) (by omega) (by omega)]
        congr 1
        omega
      have b2 : nI (swBK E (dk v) + 64 * swWK E (dk v)) / 64 = nI (swWK E (dk v)) := by
        rw [show (64 : Int32) = nI 64 from rfl, pk_div (by omega) (by omega) (by omega)]
        congr 1
        omega
      have g328 := fun KK => la_same328 hL hv KK
      have g447 := fun KK => la_same447 hL hv z KK
      rw [lx_same_L108, if_neg (by rw [hno]; exact id), if_neg (by decide)]
      refine (swjn_c1 (nI v) (fun k => ?_)).trans ?_
      · by_cases e0 : i = 0
        · have hv0 := hi0 e0
          have z0 : (nI i = 0) = True := by rw [e0]; exact eq_true rfl
          have ev : nI nv - 1 = nI v := by rw [hv0]; exact pk_sub (b := 1) hnv
          simp only [z0, sl0, q80, ev, if_true]
        · have z0 : (nI i = 0) = False := eq_false (nI_ne0 (by omega) (by omega))
          have el := hi1 e0
          simp only [z0, sl0, q80, el, swbd_e, if_false]
      · try dsimp only
        rw [al1, swbd_e]
        refine (an _).trans ?_
        try dsimp only
        rw [ab0, swnx_e, swrd_n (by omega) (by omega)]
        refine (swjn_c2 1 u (fun k => ?_)).trans ?_
        · simp (disch := omega) only [swlt_e, swbd_e, swrd_n, swgd_n, nI_clamp, sw8m, sw4m, sw4r, nI_add, nI_1, swsub, swsubn, sw4le, swleI, swltI, sweqI, sweqm, sw0add, if_pos, if_neg, if_true, if_false, sw1n0, sw0n1, eq_self, ↓reduceIte, ab1, ab2, ab3, ab4, m7, p1, p2, p3, swnx_e, hD.1, emany, oc_blocks h1 h7 h8 hv, oc_warnings h1 h7 h8 hv, b1, b2]
        · try dsimp only
          refine (g328 _).trans ?_
          try dsimp only
          refine (swjn_c2 1 u (fun k => ?_)).trans ?_
          · simp (disch := omega) only [swlt_e, swbd_e, swrd_n, swgd_n, nI_clamp, sw8m, sw4m, sw4r, nI_add, nI_1, swsub, swsubn, sw4le, swleI, swltI, sweqI, sweqm, sw0add, if_pos, if_neg, if_true, if_false, sw1n0, sw0n1, eq_self, ↓reduceIte, oc_firstBlock h1 h7 h8 hv, swnx_e]
          · try dsimp only
            refine (g447 _).trans ?_
            try dsimp only
            rw [nI_1]
    by_cases e0 : i = 0
    · exact body (nv - 1) (by omega) (fun _ => rfl) (fun z => absurd e0 z)
    · obtain ⟨v, hv, el⟩ := la_low (swshr z (nI i)) (n := nv) (by omega) (by omega)
      exact body v hv (fun z => absurd z e0) (fun _ => el)) (by omega)
  have e : lx_same_L108 w z KK 8 1 0 u = lx_same_L108 w z KK (f + 1) 1 (nI 3) u := e
  rw [e, lx_same_L108, if_pos (by decide)]
theorem la_same (h : lwR t nv nb ns hd sh mo cm ot am dk E u w) (z : Int32) : lx_same u w z = some (1, u, w) := by
  unfold lx_same
  rw [la_same6 h, la_same108 h]
  have e : swZ 1 = 1 := swZ_1
  show swgd (decide (swZ 1 = 1)) (some (1, u, w)) = _
  rw [decide_eq_true e]
  rfl
end SAME2
