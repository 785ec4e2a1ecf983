/-! ===== tighten ===== -/
theorem swAg_I (w : swU) {c : Nat} (hc : 21 ≤ c) (k : Nat) (x : Int32) : swAg w (swI w c k x) := by
  have h0 : (swI w c k x).1 0 = w.1 0 := swI_ne (by omega)
  exact ⟨fun c' _ _ => swI_ne (by omega), by rw [h0], by rw [h0], by rw [h0], by rw [h0], by rw [h0], by rw [h0]⟩
def swbm (p : Nat → Bool) : Nat → Nat
  | 0 => 0
  | n + 1 => if p n = true then swbm p n ||| 2 ^ n else swbm p n
theorem swbm_t (p : Nat → Bool) : ∀ n k, (swbm p n).testBit k = (decide (k < n) && p k) := by
  intro n
  induction n with
  | zero => intro k; show (0 : Nat).testBit k = _; simp
  | succ n ih =>
    intro k
    show (if p n = true then swbm p n ||| 2 ^ n else swbm p n).testBit k = _
    by_cases hp : p n = true
    · rw [if_pos hp, Nat.testBit_or, ih, Nat.testBit_two_pow]
      by_cases e : n = k
      · subst e
        simp [hp]
      · by_cases hk : k < n
        · simp [e, hk, show k < n + 1 by omega]
        · simp [e, hk, show ¬ k < n + 1 by omega]
    · rw [if_neg hp, ih]
      by_cases e : n = k
      · subst e
        simp [hp]
      · by_cases hk : k < n
        · simp [hk, show k < n + 1 by omega]
        · simp [hk, show ¬ k < n + 1 by omega]
theorem swbm_lt (p : Nat → Bool) (n : Nat) : swbm p n < 2 ^ n := Nat.lt_pow_two_of_testBit _ fun i hi => by
  rw [swbm_t, decide_eq_false (by omega), Bool.false_and]
def swBD (E : swEv) (dk : Nat → swD) (v : Nat) : Bool := decide (0 < swBK E (dk v))
theorem pc_bv {u : swU} {nv : Nat} {E : swEv} {dk : Nat → swD} (h40 : nv ≤ 40) (hn : u.1 0 6 = nI nv) (hE : swcE u E) (hd : ∀ v, v < nv → swcD u (200 + v) (dk v)) : xx5_blockedVersions u = some (lN (swbm (swBD E dk) nv)) := by
  unfold xx5_blockedVersions
  refine sw_up (fun f v => xx5_blockedVersions_L4 u (fun v1 v3 => some v1) f (lN (swbm (swBD E dk) v)) (nI v)) nv _ (fun f v hv => ?_) (fun f => ?_) (by omega)
  · show xx5_blockedVersions_L4 u _ (f + 1) _ (nI v) = xx5_blockedVersions_L4 u _ f (lN (if swBD E dk v = true then swbm (swBD E dk) v ||| 2 ^ v else swbm (swBD E dk) v)) (nI (v + 1))
    rw [xx5_blockedVersions_L4]
    have hbk := sw_bk0 (E := E) (d := dk v) hE.1 (hd v hv).1
    have hs := swl_sh1 v (by omega)
    by_cases hz : swBK E (dk v) = 0
    · have hb : swBD E dk v = false := decide_eq_false (by omega)
      rw [eq_true hz] at hbk
      simp (disch := omega) only [swlt_e, swbd_e, swrd_n, swgd_n, nI_clamp, sw8m, sw4m, sw4r, nI_add, nI_1, swsub, swsubn, sw4le, swleI, swltI, sweqI, sweqm, sw0add, if_pos, if_neg, if_true, if_false, sw1n0, sw0n1, eq_self, ↓reduceIte, hn, swap100, pc_countBlocks hE (hd v hv), hbk, hb, Bool.false_eq_true]
    · have hb : swBD E dk v = true := decide_eq_true (by omega)
      rw [eq_false hz] at hbk
      simp (disch := omega) only [swlt_e, swbd_e, swrd_n, swgd_n, nI_clamp, sw8m, sw4m, sw4r, nI_add, nI_1, swsub, swsubn, sw4le, swleI, swltI, sweqI, sweqm, sw0add, if_pos, if_neg, if_true, if_false, sw1n0, sw0n1, eq_self, ↓reduceIte, hn, swap100, pc_countBlocks hE (hd v hv), hbk, hb, hs, swl_or]
  · show xx5_blockedVersions_L4 u _ (f + 1) _ (nI nv) = _
    rw [xx5_blockedVersions_L4]
    simp (disch := omega) only [swlt_e, swbd_e, swrd_n, swgd_n, nI_clamp, sw8m, sw4m, sw4r, nI_add, nI_1, swsub, swsubn, sw4le, swleI, swltI, sweqI, sweqm, sw0add, if_pos, if_neg, if_true, if_false, sw1n0, sw0n1, eq_self, ↓reduceIte, hn]
theorem swbc_new {p q : Nat → Bool} {n : Nat} (h : n ≤ 40) : swBC (lN (swbm q n) &&& (lN (swbm p n) ^^^ (-1 : Int64))) = nI (sw_cnt n (fun v => !p v && q v)) := by
  have hq : swbm q n < 2 ^ 40 := Nat.lt_of_lt_of_le (swbm_lt q n) (Nat.pow_le_pow_right (by omega) h)
  have hlt : swbm q n &&& (swbm p n ^^^ 18446744073709551615) < 2 ^ 64 := Nat.lt_of_le_of_lt Nat.and_le_left (by omega)
  rw [show (-1 : Int64) = lN 18446744073709551615 from rfl, swl_xor, swl_and, bc_all hlt, show (64 : Nat) = n + (64 - n) by omega, sw_cnt_split, sw_cnt_no (64 - n), Nat.add_zero]
  · congr 1
    refine sw_cnt_cong _ fun k hk => ?_
    rw [Nat.testBit_and, Nat.testBit_xor, swbm_t, swbm_t, show (18446744073709551615 : Nat) = 2 ^ 64 - 1 from rfl, Nat.testBit_two_pow_sub_one, decide_eq_true hk, decide_eq_true (show k < 64 by omega)]
    cases p k <;> cases q k <;> rfl
  · intro k hk
    rw [Nat.testBit_and, swbm_t, decide_eq_false (by omega), Bool.false_and, Bool.false_and]
theorem op_tighten {u w : swU} (h : swRl u w) (x lo hi : Int32) : swOM [(0, 0), (1, 1), (2, 2)] (xx5_tighten u x lo hi) (mx_tighten w x lo hi) := by
  have hR := h
  obtain ⟨nv, nb, ns, hd, sh, mo, cm, ot, am, dk, E, h1, h2, h3, h4, h5, h6, hA, h7, h8⟩ := h
  unfold xx5_tighten mx_tighten
  have h88 := h8.1.1
  have h40 := h1.2.1
  rcases sw_cas x (n := E.1) (by omega) with hx | ⟨r, hr, rfl⟩
  · obtain ⟨e1, e2⟩ := ckR_n h8 hx
    rw [e1, e2]
    exact swOM.no hR rfl rfl (by simp)
  obtain ⟨e1, e2⟩ := ckR_y h8 hr
  have c2 := h8.1.2.2.1 r hr 2 (by omega)
  have c3 := h8.1.2.2.1 r hr 3 (by omega)
  have m2 := (h8.2.1.2.2.1 r hr).2.2.1
  have m3 := (h8.2.1.2.2.1 r hr).2.2.2
  rw [e1, e2]
  by_cases r1 : lo < E.2.1 r 2
  · refine swOM.no hR (c := 1) (t := 2) ?_ ?_ (by simp)
    · simp (disch := omega) only [swlt_e, swbd_e, swrd_n, swgd_n, nI_clamp, sw8m, sw4m, sw4r, nI_add, nI_1, swsub, swsubn, sw4le, swleI, swltI, sweqI, sweqm, sw0add, if_pos, if_neg, if_true, if_false, sw1n0, sw0n1, eq_self, ↓reduceIte, swck_0, c2, r1]
    · simp (disch := omega) only [swlt_e, swbd_e, swrd_n, swgd_n, nI_clamp, sw8m, sw4m, sw4r, nI_add, nI_1, swsub, swsubn, sw4le, swleI, swltI, sweqI, sweqm, sw0add, if_pos, if_neg, if_true, if_false, sw1n0, sw0n1, eq_self, ↓reduceIte, swB_t, m2, r1]
  by_cases r2 : E.2.1 r 3 < hi
  · refine swOM.no hR (c := 1) (t := 2) ?_ ?_ (by simp)
    · simp (disch := omega) only [swlt_e, swbd_e, swrd_n, swgd_n, nI_clamp, sw8m, sw4m, sw4r, nI_add, nI_1, swsub, swsubn, sw4le, swleI, swltI, sweqI, sweqm, sw0add, if_pos, if_neg, if_true, if_false, sw1n0, sw0n1, eq_self, ↓reduceIte, swck_0, c2, c3, r1, r2]
    · simp (disch := omega) only [swlt_e, swbd_e, swrd_n, swgd_n, nI_clamp, sw8m, sw4m, sw4r, nI_add, nI_1, swsub, swsubn, sw4le, swleI, swltI, sweqI, sweqm, sw0add, if_pos, if_neg, if_true, if_false, sw1n0, sw0n1, eq_self, ↓reduceIte, swB_t, m2, m3, r1, r2]
  by_cases r3 : lo ≤ hi
  case neg =>
    refine swOM.no hR (c := 1) (t := 2) ?_ ?_ (by simp)
    · simp (disch := omega) only [swlt_e, swbd_e, swrd_n, swgd_n, nI_clamp, sw8m, sw4m, sw4r, nI_add, nI_1, swsub, swsubn, sw4le, swleI, swltI, sweqI, sweqm, sw0add, if_pos, if_neg, if_true, if_false, sw1n0, sw0n1, eq_self, ↓reduceIte, swck_0, c2, c3, r1, r2, r3]
    · simp (disch := omega) only [swlt_e, swbd_e, swrd_n, swgd_n, nI_clamp, sw8m, sw4m, sw4r, nI_add, nI_1, swsub, swsubn, sw4le, swleI, swltI, sweqI, sweqm, sw0add, if_pos, if_neg, if_true, if_false, sw1n0, sw0n1, eq_self, ↓reduceIte, swB_t, m2, m3, r1, r2, r3]
  obtain ⟨E', hE'⟩ : ∃ E' : swEv, E' = (E.1, (fun q k => if q = r then (if k = 2 then lo else if k = 3 then hi else E.2.1 q k) else E.2.1 q k), E.2.2.1, E.2.2.2.1, E.2.2.2.2) := ⟨_, rfl⟩
  obtain ⟨u2, hu2⟩ : ∃ u2, u2 = swI (swI u (10 + r) 2 lo) (10 + r) 3 hi := ⟨_, rfl⟩
  have cE2 : swcE u2 E' := by
    obtain ⟨a1, a2, a3, a4, a5, a6, a7, a8⟩ := h8.1
    subst hE' hu2
    refine ⟨a1, by simp (disch := omega) only [swlt_e, swbd_e, swrd_n, swgd_n, nI_clamp, sw8m, sw4m, sw4r, nI_add, nI_1, swsub, swsubn, sw4le, swleI, swltI, sweqI, sweqm, sw0add, if_pos, if_neg, if_true, if_false, sw1n0, sw0n1, eq_self, ↓reduceIte, swI_ne, a2], fun q hq => ?_, fun q hq => ?_, a5, by simp (disch := omega) only [swlt_e, swbd_e, swrd_n, swgd_n, nI_clamp, sw8m, sw4m, sw4r, nI_add, nI_1, swsub, swsubn, sw4le, swleI, swltI, sweqI, sweqm, sw0add, if_pos, if_neg, if_true, if_false, sw1n0, sw0n1, eq_self, ↓reduceIte, swI_ne, a6], fun k hk => ?_, by simp (disch := omega) only [swlt_e, swbd_e, swrd_n, swgd_n, nI_clamp, sw8m, sw4m, sw4r, nI_add, nI_1, swsub, swsubn, sw4le, swleI, swltI, sweqI, sweqm, sw0add, if_pos, if_neg, if_true, if_false, sw1n0, sw0n1, eq_self, ↓reduceIte, swI_ne, a8]⟩
    · intro j hj
      by_cases e : q = r
      · subst e
        obtain rfl | rfl | rfl | rfl : j = 0 ∨ j = 1 ∨ j = 2 ∨ j = 3 := by omega
        · simp (disch := omega) only [swlt_e, swbd_e, swrd_n, swgd_n, nI_clamp, sw8m, sw4m, sw4r, nI_add, nI_1, swsub, swsubn, sw4le, swleI, swltI, sweqI, sweqm, sw0add, if_pos, if_neg, if_true, if_false, sw1n0, sw0n1, eq_self, ↓reduceIte, swI_k]
          exact a3 q hq 0 (by omega)
        · simp (disch := omega) only [swlt_e, swbd_e, swrd_n, swgd_n, nI_clamp, sw8m, sw4m, sw4r, nI_add, nI_1, swsub, swsubn, sw4le, swleI, swltI, sweqI, sweqm, sw0add, if_pos, if_neg, if_true, if_false, sw1n0, sw0n1, eq_self, ↓reduceIte, swI_k]
          exact a3 q hq 1 (by omega)
        · simp (disch := omega) only [swlt_e, swbd_e, swrd_n, swgd_n, nI_clamp, sw8m, sw4m, sw4r, nI_add, nI_1, swsub, swsubn, sw4le, swleI, swltI, sweqI, sweqm, sw0add, if_pos, if_neg, if_true, if_false, sw1n0, sw0n1, eq_self, ↓reduceIte, swI_k, swI_self]
        · simp (disch := omega) only [swlt_e, swbd_e, swrd_n, swgd_n, nI_clamp, sw8m, sw4m, sw4r, nI_add, nI_1, swsub, swsubn, sw4le, swleI, swltI, sweqI, sweqm, sw0add, if_pos, if_neg, if_true, if_false, sw1n0, sw0n1, eq_self, ↓reduceIte, swI_k, swI_self]
      · simp (disch := omega) only [swlt_e, swbd_e, swrd_n, swgd_n, nI_clamp, sw8m, sw4m, sw4r, nI_add, nI_1, swsub, swsubn, sw4le, swleI, swltI, sweqI, sweqm, sw0add, if_pos, if_neg, if_true, if_false, sw1n0, sw0n1, eq_self, ↓reduceIte, e, swI_ne]
        exact a3 q hq j hj
    · obtain ⟨o, ho, he⟩ := a4 q hq
      by_cases e : q = r
      · exact ⟨o, ho, by simp (disch := omega) only [swlt_e, swbd_e, swrd_n, swgd_n, nI_clamp, sw8m, sw4m, sw4r, nI_add, nI_1, swsub, swsubn, sw4le, swleI, swltI, sweqI, sweqm, sw0add, if_pos, if_neg, if_true, if_false, sw1n0, sw0n1, eq_self, ↓reduceIte, e]; rw [← e]; exact he⟩
      · exact ⟨o, ho, by simp (disch := omega) only [swlt_e, swbd_e, swrd_n, swgd_n, nI_clamp, sw8m, sw4m, sw4r, nI_add, nI_1, swsub, swsubn, sw4le, swleI, swltI, sweqI, sweqm, sw0add, if_pos, if_neg, if_true, if_false, sw1n0, sw0n1, eq_self, ↓reduceIte, e]; exact he⟩
    · intro j hj
      have hk12 : k < E.2.2.1 := hk
      have hr8 : r < 8 := by omega
      simp (disch := omega) only [swlt_e, swbd_e, swrd_n, swgd_n, nI_clamp, sw8m, sw4m, sw4r, nI_add, nI_1, swsub, swsubn, sw4le, swleI, swltI, sweqI, sweqm, sw0add, if_pos, if_neg, if_true, if_false, sw1n0, sw0n1, eq_self, ↓reduceIte, swI_ne]
      exact a7 k hk j hj
  have cD2 : ∀ v, v < nv → swcD u2 (200 + v) (dk v) := fun v hv => by
    subst hu2
    exact swcD_fr (h7 v hv).1 (by simp (disch := omega) only [swlt_e, swbd_e, swrd_n, swgd_n, nI_clamp, sw8m, sw4m, sw4r, nI_add, nI_1, swsub, swsubn, sw4le, swleI, swltI, sweqI, sweqm, sw0add, if_pos, if_neg, if_true, if_false, sw1n0, sw0n1, eq_self, ↓reduceIte, swI_ne]) (fun _ _ => by simp (disch := omega) only [swlt_e, swbd_e, swrd_n, swgd_n, nI_clamp, sw8m, sw4m, sw4r, nI_add, nI_1, swsub, swsubn, sw4le, swleI, swltI, sweqI, sweqm, sw0add, if_pos, if_neg, if_true, if_false, sw1n0, sw0n1, eq_self, ↓reduceIte, swI_ne]) (fun _ _ _ _ => by simp (disch := omega) only [swlt_e, swbd_e, swrd_n, swgd_n, nI_clamp, sw8m, sw4m, sw4r, nI_add, nI_1, swsub, swsubn, sw4le, swleI, swltI, sweqI, sweqm, sw0add, if_pos, if_neg, if_true, if_false, sw1n0, sw0n1, eq_self, ↓reduceIte, swI_ne])
  have hn2 : u2.1 0 6 = nI nv := by
    subst hu2
    simp (disch := omega) only [swlt_e, swbd_e, swrd_n, swgd_n, nI_clamp, sw8m, sw4m, sw4r, nI_add, nI_1, swsub, swsubn, sw4le, swleI, swltI, sweqI, sweqm, sw0add, if_pos, if_neg, if_true, if_false, sw1n0, sw0n1, eq_self, ↓reduceIte, swI_ne]
    exact h1.2.2.1
  have hb1 := pc_bv h40 h1.2.2.1 h8.1 (fun v hv => (h7 v hv).1)
  have hb2 := pc_bv h40 hn2 cE2 cD2
  -- the model's first loop
  obtain ⟨w1, ⟨ag1, t1, wa1⟩, f1, hf1⟩ := sw_upS (σ := swU) (fun f v s => mx_tighten_L67 (fun v4 w103 => mx_tighten_L123 (swI (swI w103 15 r lo) 16 r hi) (fun v4 v5 => some (v4, swI (swI w103 15 r lo) 16 r hi)) 64 0 0) f (nI v) s)
    (fun v s => swAg w s ∧ s.1 0 0 = 0 ∧ ∀ q, q < v → s.1 27 q = swB (swBD E dk q)) nv (swI w 0 0 0) ⟨swAg.t w 0, swI_self, fun q hq => absurd hq (Nat.not_lt_zero q)⟩ (by
    intro f v s hv hI
    obtain ⟨ag, tt, wa⟩ := hI
    have hns : s.1 0 1 = nI nv := ag.2.1.trans h1.2.2.2
    have hbo := pm_blocksOf (swmE_ag h8.2.1 ag) (swmD_ag (h7 v hv).2.1 ag)
    have hbk := sw_bk0 (E := E) (d := dk v) h8.1.1 (h7 v hv).1.1
    have hv40 : v < 40 := by omega
    have fr : ∀ z, swAg w (swI s 27 v z) := fun z => ag.tr (swAg_I s (by omega) v z)
    refine ⟨swI s 27 v (swB (swBD E dk v)), ⟨fr _, (by rw [swI_ne (by omega)]; exact tt), fun q hq => ?_⟩, ?_⟩
    · by_cases e : q = v
      · subst e
        exact swI_self
      · rw [swI_k e]
        exact wa q (by omega)
    · show mx_tighten_L67 _ (f + 1) (nI v) s = mx_tighten_L67 _ f (nI (v + 1)) _
      rw [mx_tighten_L67]
      by_cases hz : swBK E (dk v) = 0
      · have hb : swBD E dk v = false := decide_eq_false (by omega)
        rw [eq_true hz] at hbk
        simp (disch := omega) only [swlt_e, swbd_e, swrd_n, swgd_n, nI_clamp, sw8m, sw4m, sw4r, nI_add, nI_1, swsub, swsubn, sw4le, swleI, swltI, sweqI, sweqm, sw0add, if_pos, if_neg, if_true, if_false, sw1n0, sw0n1, eq_self, ↓reduceIte, hns, hbo, hbk, hb, swZ_0]
      · have hb : swBD E dk v = true := decide_eq_true (by omega)
        rw [eq_false hz] at hbk
        simp (disch := omega) only [swlt_e, swbd_e, swrd_n, swgd_n, nI_clamp, sw8m, sw4m, sw4r, nI_add, nI_1, swsub, swsubn, sw4le, swleI, swltI, sweqI, sweqm, sw0add, if_pos, if_neg, if_true, if_false, sw1n0, sw0n1, eq_self, ↓reduceIte, hns, hbo, hbk, hb, swZ_1]) (by omega)
  obtain ⟨w2, hw2⟩ : ∃ w2, w2 = swI (swI w1 15 r lo) 16 r hi := ⟨_, rfl⟩
  have hr8 : r < 8 := by omega
  have hn1 : w1.1 0 1 = nI nv := ag1.2.1.trans h1.2.2.2
  have mE2 : swmE w2 E' := by
    obtain ⟨a1, a2, a3, a4, a5, a6, a7, a8⟩ := swmE_ag h8.2.1 ag1
    subst hE' hw2
    refine ⟨a1, by simp (disch := omega) only [swlt_e, swbd_e, swrd_n, swgd_n, nI_clamp, sw8m, sw4m, sw4r, nI_add, nI_1, swsub, swsubn, sw4le, swleI, swltI, sweqI, sweqm, sw0add, if_pos, if_neg, if_true, if_false, sw1n0, sw0n1, eq_self, ↓reduceIte, swI_ne, a2], fun q hq => ?_, fun q hq => ?_, a5, by simp (disch := omega) only [swlt_e, swbd_e, swrd_n, swgd_n, nI_clamp, sw8m, sw4m, sw4r, nI_add, nI_1, swsub, swsubn, sw4le, swleI, swltI, sweqI, sweqm, sw0add, if_pos, if_neg, if_true, if_false, sw1n0, sw0n1, eq_self, ↓reduceIte, swI_ne, a6], fun k hk => ?_, by simp (disch := omega) only [swlt_e, swbd_e, swrd_n, swgd_n, nI_clamp, sw8m, sw4m, sw4r, nI_add, nI_1, swsub, swsubn, sw4le, swleI, swltI, sweqI, sweqm, sw0add, if_pos, if_neg, if_true, if_false, sw1n0, sw0n1, eq_self, ↓reduceIte, swI_ne, a8]⟩
    · obtain ⟨z1, z2, z3, z4⟩ := a3 q hq
      by_cases e : q = r
      · subst e
        exact ⟨by simp (disch := omega) only [swlt_e, swbd_e, swrd_n, swgd_n, nI_clamp, sw8m, sw4m, sw4r, nI_add, nI_1, swsub, swsubn, sw4le, swleI, swltI, sweqI, sweqm, sw0add, if_pos, if_neg, if_true, if_false, sw1n0, sw0n1, eq_self, ↓reduceIte, swI_ne]; exact z1, by simp (disch := omega) only [swlt_e, swbd_e, swrd_n, swgd_n, nI_clamp, sw8m, sw4m, sw4r, nI_add, nI_1, swsub, swsubn, sw4le, swleI, swltI, sweqI, sweqm, sw0add, if_pos, if_neg, if_true, if_false, sw1n0, sw0n1, eq_self, ↓reduceIte, swI_ne]; exact z2, by simp (disch := omega) only [swlt_e, swbd_e, swrd_n, swgd_n, nI_clamp, sw8m, sw4m, sw4r, nI_add, nI_1, swsub, swsubn, sw4le, swleI, swltI, sweqI, sweqm, sw0add, if_pos, if_neg, if_true, if_false, sw1n0, sw0n1, eq_self, ↓reduceIte, swI_ne, swI_self], by simp (disch := omega) only [swlt_e, swbd_e, swrd_n, swgd_n, nI_clamp, sw8m, sw4m, sw4r, nI_add, nI_1, swsub, swsubn, sw4le, swleI, swltI, sweqI, sweqm, sw0add, if_pos, if_neg, if_true, if_false, sw1n0, sw0n1, eq_self, ↓reduceIte, swI_ne, swI_self]⟩
      · exact ⟨by simp (disch := omega) only [swlt_e, swbd_e, swrd_n, swgd_n, nI_clamp, sw8m, sw4m, sw4r, nI_add, nI_1, swsub, swsubn, sw4le, swleI, swltI, sweqI, sweqm, sw0add, if_pos, if_neg, if_true, if_false, sw1n0, sw0n1, eq_self, ↓reduceIte, e, swI_ne]; exact z1, by simp (disch := omega) only [swlt_e, swbd_e, swrd_n, swgd_n, nI_clamp, sw8m, sw4m, sw4r, nI_add, nI_1, swsub, swsubn, sw4le, swleI, swltI, sweqI, sweqm, sw0add, if_pos, if_neg, if_true, if_false, sw1n0, sw0n1, eq_self, ↓reduceIte, e, swI_ne]; exact z2, by simp (disch := omega) only [swlt_e, swbd_e, swrd_n, swgd_n, nI_clamp, sw8m, sw4m, sw4r, nI_add, nI_1, swsub, swsubn, sw4le, swleI, swltI, sweqI, sweqm, sw0add, if_pos, if_neg, if_true, if_false, sw1n0, sw0n1, eq_self, ↓reduceIte, e, swI_ne, swI_k]; exact z3, by simp (disch := omega) only [swlt_e, swbd_e, swrd_n, swgd_n, nI_clamp, sw8m, sw4m, sw4r, nI_add, nI_1, swsub, swsubn, sw4le, swleI, swltI, sweqI, sweqm, sw0add, if_pos, if_neg, if_true, if_false, sw1n0, sw0n1, eq_self, ↓reduceIte, e, swI_ne, swI_k]; exact z4⟩
    · obtain ⟨o, ho, he⟩ := a4 q hq
      by_cases e : q = r
      · exact ⟨o, ho, by simp (disch := omega) only [swlt_e, swbd_e, swrd_n, swgd_n, nI_clamp, sw8m, sw4m, sw4r, nI_add, nI_1, swsub, swsubn, sw4le, swleI, swltI, sweqI, sweqm, sw0add, if_pos, if_neg, if_true, if_false, sw1n0, sw0n1, eq_self, ↓reduceIte, e]; rw [← e]; exact he⟩
      · exact ⟨o, ho, by simp (disch := omega) only [swlt_e, swbd_e, swrd_n, swgd_n, nI_clamp, sw8m, sw4m, sw4r, nI_add, nI_1, swsub, swsubn, sw4le, swleI, swltI, sweqI, sweqm, sw0add, if_pos, if_neg, if_true, if_false, sw1n0, sw0n1, eq_self, ↓reduceIte, e]; exact he⟩
    · obtain ⟨z1, z2, z3⟩ := a7 k hk
      exact ⟨by simp (disch := omega) only [swlt_e, swbd_e, swrd_n, swgd_n, nI_clamp, sw8m, sw4m, sw4r, nI_add, nI_1, swsub, swsubn, sw4le, swleI, swltI, sweqI, sweqm, sw0add, if_pos, if_neg, if_true, if_false, sw1n0, sw0n1, eq_self, ↓reduceIte, swI_ne]; exact z1, by simp (disch := omega) only [swlt_e, swbd_e, swrd_n, swgd_n, nI_clamp, sw8m, sw4m, sw4r, nI_add, nI_1, swsub, swsubn, sw4le, swleI, swltI, sweqI, sweqm, sw0add, if_pos, if_neg, if_true, if_false, sw1n0, sw0n1, eq_self, ↓reduceIte, swI_ne]; exact z2, by simp (disch := omega) only [swlt_e, swbd_e, swrd_n, swgd_n, nI_clamp, sw8m, sw4m, sw4r, nI_add, nI_1, swsub, swsubn, sw4le, swleI, swltI, sweqI, sweqm, sw0add, if_pos, if_neg, if_true, if_false, sw1n0, sw0n1, eq_self, ↓reduceIte, swI_ne]; exact z3⟩
  have mD2 : ∀ v, v < nv → swmD w2 v (dk v) := fun v hv => by
    subst hw2
    exact swmD_fe (swmD_ag (h7 v hv).2.1 ag1) (by simp (disch := omega) only [swlt_e, swbd_e, swrd_n, swgd_n, nI_clamp, sw8m, sw4m, sw4r, nI_add, nI_1, swsub, swsubn, sw4le, swleI, swltI, sweqI, sweqm, sw0add, if_pos, if_neg, if_true, if_false, sw1n0, sw0n1, eq_self, ↓reduceIte, swI_ne]) (by simp (disch := omega) only [swlt_e, swbd_e, swrd_n, swgd_n, nI_clamp, sw8m, sw4m, sw4r, nI_add, nI_1, swsub, swsubn, sw4le, swleI, swltI, sweqI, sweqm, sw0add, if_pos, if_neg, if_true, if_false, sw1n0, sw0n1, eq_self, ↓reduceIte, swI_ne]) (by simp (disch := omega) only [swlt_e, swbd_e, swrd_n, swgd_n, nI_clamp, sw8m, sw4m, sw4r, nI_add, nI_1, swsub, swsubn, sw4le, swleI, swltI, sweqI, sweqm, sw0add, if_pos, if_neg, if_true, if_false, sw1n0, sw0n1, eq_self, ↓reduceIte, swI_ne])
  have hn3 : w2.1 0 1 = nI nv := by
    subst hw2
    simp (disch := omega) only [swlt_e, swbd_e, swrd_n, swgd_n, nI_clamp, sw8m, sw4m, sw4r, nI_add, nI_1, swsub, swsubn, sw4le, swleI, swltI, sweqI, sweqm, sw0add, if_pos, if_neg, if_true, if_false, sw1n0, sw0n1, eq_self, ↓reduceIte, swI_ne]
    exact hn1
  have wa2 : ∀ q, q < nv → w2.1 27 q = swB (swBD E dk q) := fun q hq => by
    subst hw2
    simp (disch := omega) only [swlt_e, swbd_e, swrd_n, swgd_n, nI_clamp, sw8m, sw4m, sw4r, nI_add, nI_1, swsub, swsubn, sw4le, swleI, swltI, sweqI, sweqm, sw0add, if_pos, if_neg, if_true, if_false, sw1n0, sw0n1, eq_self, ↓reduceIte, swI_ne]
    exact wa1 q hq
  refine swOM.mk (c := 0) (u' := u2) (r := nI (sw_cnt nv (fun v => !swBD E dk v && swBD E' dk v))) (b := nI (sw_cnt nv (fun v => !swBD E dk v && swBD E' dk v))) (w' := w2) (t := 0) ?_ ?_ ?_ (by simp) (fun _ => rfl) ?_
  · rw [hu2] at hb2 ⊢
    simp (disch := omega) only [swlt_e, swbd_e, swrd_n, swgd_n, nI_clamp, sw8m, sw4m, sw4r, nI_add, nI_1, swsub, swsubn, sw4le, swleI, swltI, sweqI, sweqm, sw0add, if_pos, if_neg, if_true, if_false, sw1n0, sw0n1, eq_self, ↓reduceIte, swck_0, c2, c3, r1, r2, r3, hb1, hb2, swbc_new h40]
  · simp (disch := omega) only [swlt_e, swbd_e, swrd_n, swgd_n, nI_clamp, sw8m, sw4m, sw4r, nI_add, nI_1, swsub, swsubn, sw4le, swleI, swltI, sweqI, sweqm, sw0add, if_pos, if_neg, if_true, if_false, sw1n0, sw0n1, eq_self, ↓reduceIte, swB_t, m2, m3, r1, r2, r3]
    refine Eq.trans hf1 ?_
    show mx_tighten_L67 _ (f1 + 1) (nI nv) w1 = _
    rw [mx_tighten_L67]
    simp (disch := omega) only [swlt_e, swbd_e, swrd_n, swgd_n, nI_clamp, sw8m, sw4m, sw4r, nI_add, nI_1, swsub, swsubn, sw4le, swleI, swltI, sweqI, sweqm, sw0add, if_pos, if_neg, if_true, if_false, sw1n0, sw0n1, eq_self, ↓reduceIte, hn1]
    rw [← hw2]
    refine sw_up (fun f v => mx_tighten_L123 w2 (fun v4 v5 => some (v4, w2)) f (nI (sw_cnt v (fun v => !swBD E dk v && swBD E' dk v))) (nI v)) nv _ (fun f v hv => ?_) (fun f => ?_) (by omega)
    · show mx_tighten_L123 w2 _ (f + 1) _ (nI v) = mx_tighten_L123 w2 _ f (nI (sw_cnt v (fun v => !swBD E dk v && swBD E' dk v) + if (!swBD E dk v && swBD E' dk v) = true then 1 else 0)) (nI (v + 1))
      rw [mx_tighten_L123]
      have hbo := pm_blocksOf mE2 (mD2 v hv)
      have hbk := sw_bk0 (E := E') (d := dk v) mE2.1 (mD2 v hv).2.1
      have hwa := wa2 v hv
      cases hb0 : swBD E dk v
      · rw [hb0] at hwa
        by_cases hz : swBK E' (dk v) = 0
        · have hb : swBD E' dk v = false := decide_eq_false (by omega)
          rw [eq_true hz] at hbk
          simp (disch := omega) only [swlt_e, swbd_e, swrd_n, swgd_n, nI_clamp, sw8m, sw4m, sw4r, nI_add, nI_1, swsub, swsubn, sw4le, swleI, swltI, sweqI, sweqm, sw0add, if_pos, if_neg, if_true, if_false, sw1n0, sw0n1, eq_self, ↓reduceIte, hn3, hwa, hbo, hbk, hb, Bool.and_false, Bool.false_eq_true, Nat.add_zero]
        · have hb : swBD E' dk v = true := decide_eq_true (by omega)
          rw [eq_false hz] at hbk
          simp (disch := omega) only [swlt_e, swbd_e, swrd_n, swgd_n, nI_clamp, sw8m, sw4m, sw4r, nI_add, nI_1, swsub, swsubn, sw4le, swleI, swltI, sweqI, sweqm, sw0add, if_pos, if_neg, if_true, if_false, sw1n0, sw0n1, eq_self, ↓reduceIte, hn3, hwa, hbo, hbk, hb, Bool.not_false, Bool.and_true]
      · rw [hb0] at hwa
        simp (disch := omega) only [swlt_e, swbd_e, swrd_n, swgd_n, nI_clamp, sw8m, sw4m, sw4r, nI_add, nI_1, swsub, swsubn, sw4le, swleI, swltI, sweqI, sweqm, sw0add, if_pos, if_neg, if_true, if_false, sw1n0, sw0n1, eq_self, ↓reduceIte, hn3, hwa, Bool.not_true, Bool.false_and, Bool.false_eq_true, Nat.add_zero]
    · show mx_tighten_L123 w2 _ (f + 1) _ (nI nv) = _
      rw [mx_tighten_L123]
      simp (disch := omega) only [swlt_e, swbd_e, swrd_n, swgd_n, nI_clamp, sw8m, sw4m, sw4r, nI_add, nI_1, swsub, swsubn, sw4le, swleI, swltI, sweqI, sweqm, sw0add, if_pos, if_neg, if_true, if_false, sw1n0, sw0n1, eq_self, ↓reduceIte, hn3]
  · subst hw2
    simp (disch := omega) only [swlt_e, swbd_e, swrd_n, swgd_n, nI_clamp, sw8m, sw4m, sw4r, nI_add, nI_1, swsub, swsubn, sw4le, swleI, swltI, sweqI, sweqm, sw0add, if_pos, if_neg, if_true, if_false, sw1n0, sw0n1, eq_self, ↓reduceIte, swI_ne]
    exact t1
  · have hr1 := h1.ag ag1
    have hr2 := h2.ag ag1
    have hr3 := h3.ag ag1
    have hr4 := h4.ag ag1
    have hr5 := h5.ag ag1
    have hr6 := h6.ag ag1
    clear h1 h2 h3 h4 h5 h6
    rename sr1 nv u w1 => h1
    rename sr2 nb u w1 => h2
    rename sr3 ns u w1 => h3
    rename sr4 nv nb hd u w1 => h4
    rename sr5 nv sh u w1 => h5
    rename sr6 nv mo cm ot am u w1 => h6
    have h9 := h8.2.2
    subst hw2 hu2
    refine ⟨nv, nb, ns, hd, sh, mo, cm, ot, am, dk, E', ?_, ?_, ?_, ?_, ?_, ?_, hA, ?_, ?_⟩
    · obtain ⟨a1, a2, a3, a4⟩ := h1
      exact ⟨a1, a2, by simp (disch := omega) only [swlt_e, swbd_e, swrd_n, swgd_n, nI_clamp, sw8m, sw4m, sw4r, nI_add, nI_1, swsub, swsubn, sw4le, swleI, swltI, sweqI, sweqm, sw0add, if_pos, if_neg, if_true, if_false, sw1n0, sw0n1, eq_self, ↓reduceIte, swI_k, swI_ne, swI_self, a3], by simp (disch := omega) only [swlt_e, swbd_e, swrd_n, swgd_n, nI_clamp, sw8m, sw4m, sw4r, nI_add, nI_1, swsub, swsubn, sw4le, swleI, swltI, sweqI, sweqm, sw0add, if_pos, if_neg, if_true, if_false, sw1n0, sw0n1, eq_self, ↓reduceIte, swI_k, swI_ne, swI_self, a4]⟩
    · obtain ⟨a1, a2, a3, a4⟩ := h2
      exact ⟨a1, a2, by simp (disch := omega) only [swlt_e, swbd_e, swrd_n, swgd_n, nI_clamp, sw8m, sw4m, sw4r, nI_add, nI_1, swsub, swsubn, sw4le, swleI, swltI, sweqI, sweqm, sw0add, if_pos, if_neg, if_true, if_false, sw1n0, sw0n1, eq_self, ↓reduceIte, swI_k, swI_ne, swI_self, a3], by simp (disch := omega) only [swlt_e, swbd_e, swrd_n, swgd_n, nI_clamp, sw8m, sw4m, sw4r, nI_add, nI_1, swsub, swsubn, sw4le, swleI, swltI, sweqI, sweqm, sw0add, if_pos, if_neg, if_true, if_false, sw1n0, sw0n1, eq_self, ↓reduceIte, swI_k, swI_ne, swI_self, a4]⟩
    · obtain ⟨a1, a2, a3⟩ := h3
      exact ⟨a1, by simp (disch := omega) only [swlt_e, swbd_e, swrd_n, swgd_n, nI_clamp, sw8m, sw4m, sw4r, nI_add, nI_1, swsub, swsubn, sw4le, swleI, swltI, sweqI, sweqm, sw0add, if_pos, if_neg, if_true, if_false, sw1n0, sw0n1, eq_self, ↓reduceIte, swI_k, swI_ne, swI_self, a2], by simp (disch := omega) only [swlt_e, swbd_e, swrd_n, swgd_n, nI_clamp, sw8m, sw4m, sw4r, nI_add, nI_1, swsub, swsubn, sw4le, swleI, swltI, sweqI, sweqm, sw0add, if_pos, if_neg, if_true, if_false, sw1n0, sw0n1, eq_self, ↓reduceIte, swI_k, swI_ne, swI_self, a3]⟩
    · intro b hb
      obtain ⟨a1, a2, a3⟩ := h4 b hb
      exact ⟨a1, by simp (disch := omega) only [swlt_e, swbd_e, swrd_n, swgd_n, nI_clamp, sw8m, sw4m, sw4r, nI_add, nI_1, swsub, swsubn, sw4le, swleI, swltI, sweqI, sweqm, sw0add, if_pos, if_neg, if_true, if_false, sw1n0, sw0n1, eq_self, ↓reduceIte, swI_k, swI_ne, swI_self, a2], by simp (disch := omega) only [swlt_e, swbd_e, swrd_n, swgd_n, nI_clamp, sw8m, sw4m, sw4r, nI_add, nI_1, swsub, swsubn, sw4le, swleI, swltI, sweqI, sweqm, sw0add, if_pos, if_neg, if_true, if_false, sw1n0, sw0n1, eq_self, ↓reduceIte, swI_k, swI_ne, swI_self, a3]⟩
    · intro b hb
      obtain ⟨a1, a2, a3⟩ := h5 b hb
      exact ⟨by simp (disch := omega) only [swlt_e, swbd_e, swrd_n, swgd_n, nI_clamp, sw8m, sw4m, sw4r, nI_add, nI_1, swsub, swsubn, sw4le, swleI, swltI, sweqI, sweqm, sw0add, if_pos, if_neg, if_true, if_false, sw1n0, sw0n1, eq_self, ↓reduceIte, swI_k, swI_ne, swI_self, a1], by simp (disch := omega) only [swlt_e, swbd_e, swrd_n, swgd_n, nI_clamp, sw8m, sw4m, sw4r, nI_add, nI_1, swsub, swsubn, sw4le, swleI, swltI, sweqI, sweqm, sw0add, if_pos, if_neg, if_true, if_false, sw1n0, sw0n1, eq_self, ↓reduceIte, swI_k, swI_ne, swI_self, a2], a3⟩
    · intro q hq
      obtain ⟨a1, a2, a3, a4, a5, a6, a7⟩ := h6 q hq
      exact ⟨by simp (disch := omega) only [swlt_e, swbd_e, swrd_n, swgd_n, nI_clamp, sw8m, sw4m, sw4r, nI_add, nI_1, swsub, swsubn, sw4le, swleI, swltI, sweqI, sweqm, sw0add, if_pos, if_neg, if_true, if_false, sw1n0, sw0n1, eq_self, ↓reduceIte, swI_ne, a1], by simp (disch := omega) only [swlt_e, swbd_e, swrd_n, swgd_n, nI_clamp, sw8m, sw4m, sw4r, nI_add, nI_1, swsub, swsubn, sw4le, swleI, swltI, sweqI, sweqm, sw0add, if_pos, if_neg, if_true, if_false, sw1n0, sw0n1, eq_self, ↓reduceIte, swI_ne, a2], by simp (disch := omega) only [swlt_e, swbd_e, swrd_n, swgd_n, nI_clamp, sw8m, sw4m, sw4r, nI_add, nI_1, swsub, swsubn, sw4le, swleI, swltI, sweqI, sweqm, sw0add, if_pos, if_neg, if_true, if_false, sw1n0, sw0n1, eq_self, ↓reduceIte, swI_ne, a3], by simp (disch := omega) only [swlt_e, swbd_e, swrd_n, swgd_n, nI_clamp, sw8m, sw4m, sw4r, nI_add, nI_1, swsub, swsubn, sw4le, swleI, swltI, sweqI, sweqm, sw0add, if_pos, if_neg, if_true, if_false, sw1n0, sw0n1, eq_self, ↓reduceIte, swI_ne, a4], by simp (disch := omega) only [swlt_e, swbd_e, swrd_n, swgd_n, nI_clamp, sw8m, sw4m, sw4r, nI_add, nI_1, swsub, swsubn, sw4le, swleI, swltI, sweqI, sweqm, sw0add, if_pos, if_neg, if_true, if_false, sw1n0, sw0n1, eq_self, ↓reduceIte, swI_ne, a5], by simp (disch := omega) only [swlt_e, swbd_e, swrd_n, swgd_n, nI_clamp, sw8m, sw4m, sw4r, nI_add, nI_1, swsub, swsubn, sw4le, swleI, swltI, sweqI, sweqm, sw0add, if_pos, if_neg, if_true, if_false, sw1n0, sw0n1, eq_self, ↓reduceIte, swI_ne, a6], a7⟩
    · exact fun v hv => ⟨cD2 v hv, mD2 v hv, (h7 v hv).2.2⟩
    · refine ⟨cE2, mE2, ?_⟩
      subst hE'
      exact h9
