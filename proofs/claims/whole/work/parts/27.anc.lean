/-! ===== ANCESTORS AND BASES ===== -/
theorem srA_le {nv : Nat} {cm ot : Nat → Int32} {am : Nat → Nat} (hA : srA nv cm ot am) : ∀ v, v < nv → ∀ k, (am v).testBit k = true → k ≤ v := by
  intro v
  induction v using Nat.strongRecOn with
  | ind v ih =>
    intro hv k hk
    obtain ⟨-, -, h⟩ := hA v hv
    rcases (h k).mp hk with e | ⟨c, hc, -, hb⟩ | ⟨c, hc, -, hb⟩
    · omega
    · have := ih c hc (by omega) k hb
      omega
    · have := ih c hc (by omega) k hb
      omega
theorem srA_40 {nv : Nat} {cm ot : Nat → Int32} {am : Nat → Nat} (hA : srA nv cm ot am) (h40 : nv ≤ 40) {v : Nat} (hv : v < nv) : am v < 2 ^ 40 := by
  refine Nat.lt_pow_two_of_testBit _ fun i hi => ?_
  cases hb : (am v).testBit i
  · rfl
  · have := srA_le hA v hv i hb
    omega
theorem srA_self {nv : Nat} {cm ot : Nat → Int32} {am : Nat → Nat} (hA : srA nv cm ot am) {v : Nat} (hv : v < nv) : (am v).testBit v = true := ((hA v hv).2.2 v).mpr (Or.inl rfl)
/-- the last step of a way, by the first -/
theorem srA_back {nv : Nat} {cm ot : Nat → Int32} {am : Nat → Nat} (hA : srA nv cm ot am) : ∀ v, v < nv → ∀ k, (am v).testBit k = true ↔ (k = v ∨ ∃ c, k < c ∧ c < nv ∧ (am v).testBit c = true ∧ (cm c = nI k ∨ ot c = nI k)) := by
  intro v
  induction v using Nat.strongRecOn with
  | ind v ih =>
    intro hv k
    obtain ⟨-, -, h⟩ := hA v hv
    have up : ∀ c, c < v → (cm v = nI c ∨ ot v = nI c) → ∀ q, (am c).testBit q = true → (am v).testBit q = true := by
      intro c hc hp q hq
      rcases hp with hp | hp
      · exact (h q).mpr (Or.inr (Or.inl ⟨c, hc, hp, hq⟩))
      · exact (h q).mpr (Or.inr (Or.inr ⟨c, hc, hp, hq⟩))
    have fw : ∀ c, c < v → (cm v = nI c ∨ ot v = nI c) → (am c).testBit k = true → k = v ∨ ∃ c, k < c ∧ c < nv ∧ (am v).testBit c = true ∧ (cm c = nI k ∨ ot c = nI k) := by
      intro c hc hp hb
      rcases (ih c hc (by omega) k).mp hb with e | ⟨c', q1, q2, q3, q4⟩
      · subst e
        exact Or.inr ⟨v, hc, hv, srA_self hA hv, hp⟩
      · exact Or.inr ⟨c', q1, q2, up c hc hp c' q3, q4⟩
    constructor
    · intro hk
      rcases (h k).mp hk with e | ⟨c, hc, hp, hb⟩ | ⟨c, hc, hp, hb⟩
      · exact Or.inl e
      · exact fw c hc (Or.inl hp) hb
      · exact fw c hc (Or.inr hp) hb
    · rintro (e | ⟨c, q1, q2, q3, q4⟩)
      · subst e
        exact srA_self hA hv
      · rcases (h c).mp q3 with e | ⟨d, hd, hp, hb⟩ | ⟨d, hd, hp, hb⟩
        · subst e
          have hs : (am k).testBit k = true := srA_self hA (by omega)
          exact up k q1 q4 k hs
        · exact up d hd (Or.inl hp) k ((ih d hd (by omega) k).mpr (Or.inr ⟨c, q1, q2, hb, q4⟩))
        · exact up d hd (Or.inr hp) k ((ih d hd (by omega) k).mpr (Or.inr ⟨c, q1, q2, hb, q4⟩))
theorem sw_cnt_rev (p : Nat → Bool) : ∀ n, sw_cnt n (fun i => p (n - 1 - i)) = sw_cnt n p := by
  intro n
  induction n with
  | zero => rfl
  | succ n ih =>
    rw [Nat.add_comm n 1, sw_cnt_split]
    have e1 : sw_cnt 1 (fun i => p (1 + n - 1 - i)) = if p n = true then 1 else 0 := by
      show 0 + (if p (1 + n - 1 - 0) = true then 1 else 0) = _
      rw [Nat.zero_add, show 1 + n - 1 - 0 = n by omega]
    have e2 : sw_cnt n (fun k => p (1 + n - 1 - (1 + k))) = sw_cnt n p := by
      rw [← ih]
      refine sw_cnt_cong _ fun k hk => ?_
      rw [show 1 + n - 1 - (1 + k) = n - 1 - k by omega]
    rw [e1, e2, Nat.add_comm 1 n]
    show _ = sw_cnt n p + (if p n = true then 1 else 0)
    omega
theorem sw_any_cong {p q : Nat → Bool} : ∀ n, (∀ k, k < n → p k = q k) → sw_any n p = sw_any n q := by
  intro n
  induction n with
  | zero => intro _; rfl
  | succ n ih =>
    intro h
    show (sw_any n p || p n) = (sw_any n q || q n)
    rw [ih (fun k hk => h k (by omega)), h n (by omega)]
def swBf (cm ot : Nat → Int32) (bl : Nat → Bool) (k c : Nat) : Bool := bl c && (decide (cm c = nI k) || decide (ot c = nI k))
theorem swZ_b (b : Bool) : swZ (swB b) = swB b := swZ_B b
theorem swZ_0 : swZ 0 = 0 := rfl
theorem swZ_1 : swZ 1 = 1 := rfl
theorem pm_la1f {w : swU} {nv k : Nat} {cm ot : Nat → Int32} (bl : Nat → Bool) (h40 : nv ≤ 40) (hk : k < 40) (hn : w.1 0 1 = nI nv) (h6 : ∀ v, v < nv → w.1 3 v = cm v ∧ w.1 4 v = ot v) (hbl : ∀ c, k < c → c < nv → w.1 25 c = swB (bl c)) (is0 : Bool) (r : Option (Int32 × swU)) (kk : Int32 → Int32 → Option (Int32 × swU)) (hkk : ∀ x, kk (swB (is0 || sw_any (nv - (k + 1)) (fun j => swBf cm ot bl k (k + 1 + j)))) x = r) : mx_layAncestors_L30 w false (nI k) kk 64 (swB is0) (nI (k + 1)) = r := by
  rw [show swB is0 = swB (is0 || sw_any 0 (fun j => swBf cm ot bl k (k + 1 + j))) by rw [show sw_any 0 (fun j => swBf cm ot bl k (k + 1 + j)) = false from rfl, Bool.or_false]]
  refine sw_up (fun f j => mx_layAncestors_L30 w false (nI k) kk f (swB (is0 || sw_any j (fun j => swBf cm ot bl k (k + 1 + j)))) (nI (k + 1 + j))) (nv - (k + 1)) r (fun f j hj => ?_) (fun f => ?_) (by omega)
  · show mx_layAncestors_L30 w false (nI k) kk (f + 1) _ (nI (k + 1 + j)) = mx_layAncestors_L30 w false (nI k) kk f (swB (is0 || (sw_any j (fun j => swBf cm ot bl k (k + 1 + j)) || swBf cm ot bl k (k + 1 + j)))) (nI (k + 1 + j + 1))
    rw [mx_layAncestors_L30]
    have hb := hbl (k + 1 + j) (by omega) (by omega)
    obtain ⟨g3, g4⟩ := h6 (k + 1 + j) (by omega)
    rw [← Bool.or_assoc]
    cases hz : (is0 || sw_any j (fun j => swBf cm ot bl k (k + 1 + j)))
    · have hq : swBf cm ot bl k (k + 1 + j) = (bl (k + 1 + j) && (decide (cm (k + 1 + j) = nI k) || decide (ot (k + 1 + j) = nI k))) := rfl
      rw [hq]
      cases hbb : bl (k + 1 + j)
      · rw [hbb] at hb
        simp (disch := omega) only [swlt_e, swbd_e, swrd_n, swgd_n, nI_clamp, sw8m, sw4m, sw4r, nI_add, nI_1, swsub, swsubn, sw4le, swleI, swltI, sweqI, sweqm, sw0add, if_pos, if_neg, if_true, if_false, sw1n0, sw0n1, eq_self, ↓reduceIte, hn, hb, Bool.false_and, Bool.or_false]
      · rw [hbb] at hb
        by_cases e3 : cm (k + 1 + j) = nI k
        · simp (disch := omega) only [swlt_e, swbd_e, swrd_n, swgd_n, nI_clamp, sw8m, sw4m, sw4r, nI_add, nI_1, swsub, swsubn, sw4le, swleI, swltI, sweqI, sweqm, sw0add, if_pos, if_neg, if_true, if_false, sw1n0, sw0n1, eq_self, ↓reduceIte, hn, hb, g3, e3, decide_true, Bool.true_or, Bool.true_and, Bool.or_true]
        · by_cases e4 : ot (k + 1 + j) = nI k
          · simp (disch := omega) only [swlt_e, swbd_e, swrd_n, swgd_n, nI_clamp, sw8m, sw4m, sw4r, nI_add, nI_1, swsub, swsubn, sw4le, swleI, swltI, sweqI, sweqm, sw0add, if_pos, if_neg, if_true, if_false, sw1n0, sw0n1, eq_self, ↓reduceIte, hn, hb, g3, e3, g4, e4, decide_true, decide_false, Bool.true_or, Bool.true_and, Bool.or_true]
          · simp (disch := omega) only [swlt_e, swbd_e, swrd_n, swgd_n, nI_clamp, sw8m, sw4m, sw4r, nI_add, nI_1, swsub, swsubn, sw4le, swleI, swltI, sweqI, sweqm, sw0add, if_pos, if_neg, if_true, if_false, sw1n0, sw0n1, eq_self, ↓reduceIte, hn, hb, g3, e3, g4, e4, decide_true, decide_false, Bool.true_or, Bool.true_and, Bool.or_false]
    · simp (disch := omega) only [swlt_e, swbd_e, swrd_n, swgd_n, nI_clamp, sw8m, sw4m, sw4r, nI_add, nI_1, swsub, swsubn, sw4le, swleI, swltI, sweqI, sweqm, sw0add, if_pos, if_neg, if_true, if_false, sw1n0, sw0n1, eq_self, ↓reduceIte, hn, hb, Bool.true_or]
  · show mx_layAncestors_L30 w false (nI k) kk (f + 1) _ (nI (k + 1 + (nv - (k + 1)))) = r
    rw [mx_layAncestors_L30]
    simp (disch := omega) only [swlt_e, swbd_e, swrd_n, swgd_n, nI_clamp, sw8m, sw4m, sw4r, nI_add, nI_1, swsub, swsubn, sw4le, swleI, swltI, sweqI, sweqm, sw0add, if_pos, if_neg, if_true, if_false, sw1n0, sw0n1, eq_self, ↓reduceIte, hn]
    exact hkk _
theorem pm_layf {w : swU} {nv v : Nat} {cm ot : Nat → Int32} {am : Nat → Nat} (h40 : nv ≤ 40) (hv : v < nv) (hn : w.1 0 1 = nI nv) (h6 : ∀ v, v < nv → w.1 3 v = cm v ∧ w.1 4 v = ot v) (hA : srA nv cm ot am) : ∃ w', mx_layAncestors w (nI v) false = some (nI (sw_cnt 40 (fun k => (am v).testBit k)), w') ∧ (∀ c, c ≠ 25 → c ≠ 26 → w'.1 c = w.1 c) ∧ (∀ k, k < 40 → w'.1 25 k = swB ((am v).testBit k)) ∧ (∀ k, w'.1 26 k = w.1 26 k ∨ w'.1 26 k = swZ (w.1 26 k)) := by
  obtain ⟨s, ⟨i1, i2, i3⟩, f, hf⟩ := sw_upS (σ := swU) (fun f j s => mx_layAncestors_L6 (nI v) false (fun v3 v4 w174 => some (v3, w174)) f (nI (sw_cnt j (fun i => (am v).testBit (39 - i)))) (if j < 40 then nI (39 - j) else -1) s)
    (fun j s => (∀ c, c ≠ 25 → c ≠ 26 → s.1 c = w.1 c) ∧ (∀ k, 40 - j ≤ k → k < 40 → s.1 25 k = swB ((am v).testBit k)) ∧ (∀ k, s.1 26 k = w.1 26 k ∨ (40 - j ≤ k ∧ s.1 26 k = swZ (w.1 26 k)))) 40 w ⟨fun _ _ _ => rfl, fun k h1 h2 => by omega, fun _ => Or.inl rfl⟩ (by
    intro f j s hj hI
    obtain ⟨i1, i2, i3⟩ := hI
    obtain ⟨k, hk⟩ : ∃ k, k = 39 - j := ⟨_, rfl⟩
    obtain ⟨is, his⟩ : ∃ b, b = (am v).testBit k := ⟨_, rfl⟩
    have hk40 : k < 40 := by omega
    have hkey : ∀ c, 40 - (j + 1) ≤ c → c ≠ k → 40 - j ≤ c := fun c h1 h2 => by omega
    have hnx : nI k + (-1) = (if j + 1 < 40 then nI (39 - (j + 1)) else -1) := by
      by_cases hj9 : j + 1 < 40
      · rw [if_pos hj9, swsubn (by omega)]
        congr 1
        omega
      · rw [if_neg hj9, show k = 0 by omega]
        rfl
    have hn' : s.1 0 1 = nI nv := by rw [i1 0 (by omega) (by omega)]; exact hn
    have h6' : ∀ v, v < nv → s.1 3 v = cm v ∧ s.1 4 v = ot v := fun v hv => by rw [i1 3 (by omega) (by omega), i1 4 (by omega) (by omega)]; exact h6 v hv
    have hbl : ∀ c, k < c → c < nv → s.1 25 c = swB ((am v).testBit c) := fun c hc hc2 => i2 c (by omega) (by omega)
    have hback := srA_back hA v hv k
    have hcond : (decide (k = v) || sw_any (nv - (k + 1)) (fun j => swBf cm ot (fun c => (am v).testBit c) k (k + 1 + j))) = is := by
      rw [his]
      cases hb : (am v).testBit k
      · rw [Bool.or_eq_false_iff]
        have hno : ¬ (k = v ∨ ∃ c, k < c ∧ c < nv ∧ (am v).testBit c = true ∧ (cm c = nI k ∨ ot c = nI k)) := fun z => by
          rw [hback.mpr z] at hb
          cases hb
        refine ⟨decide_eq_false fun z => hno (Or.inl z), ?_⟩
        cases ha : sw_any (nv - (k + 1)) (fun j => swBf cm ot (fun c => (am v).testBit c) k (k + 1 + j))
        · rfl
        · obtain ⟨j2, hj2, hp⟩ := (sw_any_iff _ _).mp ha
          have hp2 : ((am v).testBit (k + 1 + j2) && (decide (cm (k + 1 + j2) = nI k) || decide (ot (k + 1 + j2) = nI k))) = true := hp
          rw [Bool.and_eq_true, Bool.or_eq_true, decide_eq_true_iff, decide_eq_true_iff] at hp2
          exact absurd (Or.inr ⟨k + 1 + j2, by omega, by omega, hp2.1, hp2.2⟩) hno
      · rcases hback.mp hb with e | ⟨c, q1, q2, q3, q4⟩
        · rw [decide_eq_true e, Bool.true_or]
        · have ha : sw_any (nv - (k + 1)) (fun j => swBf cm ot (fun c => (am v).testBit c) k (k + 1 + j)) = true := by
            refine (sw_any_iff _ _).mpr ⟨c - (k + 1), by omega, ?_⟩
            show ((am v).testBit (k + 1 + (c - (k + 1))) && (decide (cm (k + 1 + (c - (k + 1))) = nI k) || decide (ot (k + 1 + (c - (k + 1))) = nI k))) = true
            rw [show k + 1 + (c - (k + 1)) = c by omega, Bool.and_eq_true, Bool.or_eq_true, decide_eq_true_iff, decide_eq_true_iff]
            exact ⟨q3, q4⟩
          rw [ha, Bool.or_true]
    refine ⟨(swI (swI s 25 k (swZ (swB is))) 26 k (swZ (s.1 26 k))), ⟨fun c c1 c2 => ?_, fun c c1 c2 => ?_, fun c => ?_⟩, ?_⟩
    · simp (disch := omega) only [swlt_e, swbd_e, swrd_n, swgd_n, nI_clamp, sw8m, sw4m, sw4r, nI_add, nI_1, swsub, swsubn, sw4le, swleI, swltI, sweqI, sweqm, sw0add, if_pos, if_neg, if_true, if_false, sw1n0, sw0n1, eq_self, ↓reduceIte, swI_ne]
      exact i1 c c1 c2
    · by_cases e : c = k
      · subst e
        simp (disch := omega) only [swlt_e, swbd_e, swrd_n, swgd_n, nI_clamp, sw8m, sw4m, sw4r, nI_add, nI_1, swsub, swsubn, sw4le, swleI, swltI, sweqI, sweqm, sw0add, if_pos, if_neg, if_true, if_false, sw1n0, sw0n1, eq_self, ↓reduceIte, swI_ne, swI_self, swZ_b, his]
      · simp (disch := omega) only [swlt_e, swbd_e, swrd_n, swgd_n, nI_clamp, sw8m, sw4m, sw4r, nI_add, nI_1, swsub, swsubn, sw4le, swleI, swltI, sweqI, sweqm, sw0add, if_pos, if_neg, if_true, if_false, sw1n0, sw0n1, eq_self, ↓reduceIte, swI_ne, swI_k]
        exact i2 c (hkey c c1 e) c2
    · by_cases e : c = k
      · subst e
        rcases i3 c with z | ⟨z, -⟩
        · refine Or.inr ⟨by omega, ?_⟩
          simp (disch := omega) only [swlt_e, swbd_e, swrd_n, swgd_n, nI_clamp, sw8m, sw4m, sw4r, nI_add, nI_1, swsub, swsubn, sw4le, swleI, swltI, sweqI, sweqm, sw0add, if_pos, if_neg, if_true, if_false, sw1n0, sw0n1, eq_self, ↓reduceIte, swI_ne, swI_self, z]
        · omega
      · simp (disch := omega) only [swlt_e, swbd_e, swrd_n, swgd_n, nI_clamp, sw8m, sw4m, sw4r, nI_add, nI_1, swsub, swsubn, sw4le, swleI, swltI, sweqI, sweqm, sw0add, if_pos, if_neg, if_true, if_false, sw1n0, sw0n1, eq_self, ↓reduceIte, swI_ne, swI_k]
        rcases i3 c with z | ⟨z, z2⟩
        · exact Or.inl z
        · exact Or.inr ⟨by omega, z2⟩
    · show mx_layAncestors_L6 (nI v) false _ (f + 1) (nI (sw_cnt j (fun i => (am v).testBit (39 - i)))) (if j < 40 then nI (39 - j) else -1) s = mx_layAncestors_L6 (nI v) false _ f (nI (sw_cnt j (fun i => (am v).testBit (39 - i)) + (if (am v).testBit (39 - j) = true then 1 else 0))) (if j + 1 < 40 then nI (39 - (j + 1)) else -1) (swI (swI s 25 k (swZ (swB is))) 26 k (swZ (s.1 26 k)))
      rw [if_pos hj, ← hk, ← hnx, ← his, mx_layAncestors_L6, if_neg (nI_pos (by omega))]
      simp (disch := omega) only [swlt_e, nI_1]
      by_cases hkv : k = v
      · rw [if_pos (by rw [hkv])]
        refine pm_la1f _ h40 hk40 hn' h6' hbl true _ _ fun x => ?_
        rw [decide_eq_true hkv] at hcond
        rw [hcond]
        cases is <;> simp (disch := omega) only [swlt_e, swbd_e, swrd_n, swgd_n, nI_clamp, sw8m, sw4m, sw4r, nI_add, nI_1, swsub, swsubn, sw4le, swleI, swltI, sweqI, sweqm, sw0add, if_pos, if_neg, if_true, if_false, sw1n0, sw0n1, eq_self, ↓reduceIte, swI_ne, Bool.false_eq_true, Nat.add_zero]
      · rw [if_neg (by rw [nI_eq (by omega) (by omega)]; exact hkv)]
        refine pm_la1f _ h40 hk40 hn' h6' hbl false _ _ fun x => ?_
        rw [decide_eq_false hkv] at hcond
        rw [hcond]
        cases is <;> simp (disch := omega) only [swlt_e, swbd_e, swrd_n, swgd_n, nI_clamp, sw8m, sw4m, sw4r, nI_add, nI_1, swsub, swsubn, sw4le, swleI, swltI, sweqI, sweqm, sw0add, if_pos, if_neg, if_true, if_false, sw1n0, sw0n1, eq_self, ↓reduceIte, swI_ne, Bool.false_eq_true, Nat.add_zero]) (by omega)
  refine ⟨s, ?_, i1, fun k hk => i2 k (by omega) hk, fun k => (i3 k).imp id And.right⟩
  show mx_layAncestors_L6 (nI v) false _ 64 0 39 w = _
  refine Eq.trans hf ?_
  show mx_layAncestors_L6 (nI v) false _ (f + 1) (nI (sw_cnt 40 (fun i => (am v).testBit (39 - i)))) (-1) s = _
  have hr := sw_cnt_rev (fun k => (am v).testBit k) 40
  rw [mx_layAncestors_L6, if_pos (by decide), ← hr]
theorem pm_la1t {w : swU} {nv k : Nat} {cm ot : Nat → Int32} (bl : Nat → Bool) (h40 : nv ≤ 40) (hk : k < 40) (hn : w.1 0 1 = nI nv) (h6 : ∀ v, v < nv → w.1 3 v = cm v ∧ w.1 4 v = ot v) (hbl : ∀ c, k < c → c < nv → w.1 26 c = swB (bl c)) (is0 : Bool) (r : Option (Int32 × swU)) (kk : Int32 → Int32 → Option (Int32 × swU)) (hkk : ∀ x, kk (swB (is0 || sw_any (nv - (k + 1)) (fun j => swBf cm ot bl k (k + 1 + j)))) x = r) : mx_layAncestors_L30 w true (nI k) kk 64 (swB is0) (nI (k + 1)) = r := by
  rw [show swB is0 = swB (is0 || sw_any 0 (fun j => swBf cm ot bl k (k + 1 + j))) by rw [show sw_any 0 (fun j => swBf cm ot bl k (k + 1 + j)) = false from rfl, Bool.or_false]]
  refine sw_up (fun f j => mx_layAncestors_L30 w true (nI k) kk f (swB (is0 || sw_any j (fun j => swBf cm ot bl k (k + 1 + j)))) (nI (k + 1 + j))) (nv - (k + 1)) r (fun f j hj => ?_) (fun f => ?_) (by omega)
  · show mx_layAncestors_L30 w true (nI k) kk (f + 1) _ (nI (k + 1 + j)) = mx_layAncestors_L30 w true (nI k) kk f (swB (is0 || (sw_any j (fun j => swBf cm ot bl k (k + 1 + j)) || swBf cm ot bl k (k + 1 + j)))) (nI (k + 1 + j + 1))
    rw [mx_layAncestors_L30]
    have hb := hbl (k + 1 + j) (by omega) (by omega)
    obtain ⟨g3, g4⟩ := h6 (k + 1 + j) (by omega)
    rw [← Bool.or_assoc]
    cases hz : (is0 || sw_any j (fun j => swBf cm ot bl k (k + 1 + j)))
    · have hq : swBf cm ot bl k (k + 1 + j) = (bl (k + 1 + j) && (decide (cm (k + 1 + j) = nI k) || decide (ot (k + 1 + j) = nI k))) := rfl
      rw [hq]
      cases hbb : bl (k + 1 + j)
      · rw [hbb] at hb
        simp (disch := omega) only [swlt_e, swbd_e, swrd_n, swgd_n, nI_clamp, sw8m, sw4m, sw4r, nI_add, nI_1, swsub, swsubn, sw4le, swleI, swltI, sweqI, sweqm, sw0add, if_pos, if_neg, if_true, if_false, sw1n0, sw0n1, eq_self, ↓reduceIte, hn, hb, Bool.false_and, Bool.or_false]
      · rw [hbb] at hb
        by_cases e3 : cm (k + 1 + j) = nI k
        · simp (disch := omega) only [swlt_e, swbd_e, swrd_n, swgd_n, nI_clamp, sw8m, sw4m, sw4r, nI_add, nI_1, swsub, swsubn, sw4le, swleI, swltI, sweqI, sweqm, sw0add, if_pos, if_neg, if_true, if_false, sw1n0, sw0n1, eq_self, ↓reduceIte, hn, hb, g3, e3, decide_true, Bool.true_or, Bool.true_and, Bool.or_true]
        · by_cases e4 : ot (k + 1 + j) = nI k
          · simp (disch := omega) only [swlt_e, swbd_e, swrd_n, swgd_n, nI_clamp, sw8m, sw4m, sw4r, nI_add, nI_1, swsub, swsubn, sw4le, swleI, swltI, sweqI, sweqm, sw0add, if_pos, if_neg, if_true, if_false, sw1n0, sw0n1, eq_self, ↓reduceIte, hn, hb, g3, e3, g4, e4, decide_true, decide_false, Bool.true_or, Bool.true_and, Bool.or_true]
          · simp (disch := omega) only [swlt_e, swbd_e, swrd_n, swgd_n, nI_clamp, sw8m, sw4m, sw4r, nI_add, nI_1, swsub, swsubn, sw4le, swleI, swltI, sweqI, sweqm, sw0add, if_pos, if_neg, if_true, if_false, sw1n0, sw0n1, eq_self, ↓reduceIte, hn, hb, g3, e3, g4, e4, decide_true, decide_false, Bool.true_or, Bool.true_and, Bool.or_false]
    · simp (disch := omega) only [swlt_e, swbd_e, swrd_n, swgd_n, nI_clamp, sw8m, sw4m, sw4r, nI_add, nI_1, swsub, swsubn, sw4le, swleI, swltI, sweqI, sweqm, sw0add, if_pos, if_neg, if_true, if_false, sw1n0, sw0n1, eq_self, ↓reduceIte, hn, hb, Bool.true_or]
  · show mx_layAncestors_L30 w true (nI k) kk (f + 1) _ (nI (k + 1 + (nv - (k + 1)))) = r
    rw [mx_layAncestors_L30]
    simp (disch := omega) only [swlt_e, swbd_e, swrd_n, swgd_n, nI_clamp, sw8m, sw4m, sw4r, nI_add, nI_1, swsub, swsubn, sw4le, swleI, swltI, sweqI, sweqm, sw0add, if_pos, if_neg, if_true, if_false, sw1n0, sw0n1, eq_self, ↓reduceIte, hn]
    exact hkk _
theorem pm_layt {w : swU} {nv v : Nat} {cm ot : Nat → Int32} {am : Nat → Nat} (h40 : nv ≤ 40) (hv : v < nv) (hn : w.1 0 1 = nI nv) (h6 : ∀ v, v < nv → w.1 3 v = cm v ∧ w.1 4 v = ot v) (hA : srA nv cm ot am) : ∃ w', mx_layAncestors w (nI v) true = some (nI (sw_cnt 40 (fun k => (am v).testBit k)), w') ∧ (∀ c, c ≠ 25 → c ≠ 26 → w'.1 c = w.1 c) ∧ (∀ k, k < 40 → w'.1 26 k = swB ((am v).testBit k)) ∧ (∀ k, w'.1 25 k = w.1 25 k ∨ w'.1 25 k = swZ (w.1 25 k)) := by
  obtain ⟨s, ⟨i1, i2, i3⟩, f, hf⟩ := sw_upS (σ := swU) (fun f j s => mx_layAncestors_L6 (nI v) true (fun v3 v4 w174 => some (v3, w174)) f (nI (sw_cnt j (fun i => (am v).testBit (39 - i)))) (if j < 40 then nI (39 - j) else -1) s)
    (fun j s => (∀ c, c ≠ 25 → c ≠ 26 → s.1 c = w.1 c) ∧ (∀ k, 40 - j ≤ k → k < 40 → s.1 26 k = swB ((am v).testBit k)) ∧ (∀ k, s.1 25 k = w.1 25 k ∨ (40 - j ≤ k ∧ s.1 25 k = swZ (w.1 25 k)))) 40 w ⟨fun _ _ _ => rfl, fun k h1 h2 => by omega, fun _ => Or.inl rfl⟩ (by
    intro f j s hj hI
    obtain ⟨i1, i2, i3⟩ := hI
    obtain ⟨k, hk⟩ : ∃ k, k = 39 - j := ⟨_, rfl⟩
    obtain ⟨is, his⟩ : ∃ b, b = (am v).testBit k := ⟨_, rfl⟩
    have hk40 : k < 40 := by omega
    have hkey : ∀ c, 40 - (j + 1) ≤ c → c ≠ k → 40 - j ≤ c := fun c h1 h2 => by omega
    have hnx : nI k + (-1) = (if j + 1 < 40 then nI (39 - (j + 1)) else -1) := by
      by_cases hj9 : j + 1 < 40
      · rw [if_pos hj9, swsubn (by omega)]
        congr 1
        omega
      · rw [if_neg hj9, show k = 0 by omega]
        rfl
    have hn' : s.1 0 1 = nI nv := by rw [i1 0 (by omega) (by omega)]; exact hn
    have h6' : ∀ v, v < nv → s.1 3 v = cm v ∧ s.1 4 v = ot v := fun v hv => by rw [i1 3 (by omega) (by omega), i1 4 (by omega) (by omega)]; exact h6 v hv
    have hbl : ∀ c, k < c → c < nv → s.1 26 c = swB ((am v).testBit c) := fun c hc hc2 => i2 c (by omega) (by omega)
    have hback := srA_back hA v hv k
    have hcond : (decide (k = v) || sw_any (nv - (k + 1)) (fun j => swBf cm ot (fun c => (am v).testBit c) k (k + 1 + j))) = is := by
      rw [his]
      cases hb : (am v).testBit k
      · rw [Bool.or_eq_false_iff]
        have hno : ¬ (k = v ∨ ∃ c, k < c ∧ c < nv ∧ (am v).testBit c = true ∧ (cm c = nI k ∨ ot c = nI k)) := fun z => by
          rw [hback.mpr z] at hb
          cases hb
        refine ⟨decide_eq_false fun z => hno (Or.inl z), ?_⟩
        cases ha : sw_any (nv - (k + 1)) (fun j => swBf cm ot (fun c => (am v).testBit c) k (k + 1 + j))
        · rfl
        · obtain ⟨j2, hj2, hp⟩ := (sw_any_iff _ _).mp ha
          have hp2 : ((am v).testBit (k + 1 + j2) && (decide (cm (k + 1 + j2) = nI k) || decide (ot (k + 1 + j2) = nI k))) = true := hp
          rw [Bool.and_eq_true, Bool.or_eq_true, decide_eq_true_iff, decide_eq_true_iff] at hp2
          exact absurd (Or.inr ⟨k + 1 + j2, by omega, by omega, hp2.1, hp2.2⟩) hno
      · rcases hback.mp hb with e | ⟨c, q1, q2, q3, q4⟩
        · rw [decide_eq_true e, Bool.true_or]
        · have ha : sw_any (nv - (k + 1)) (fun j => swBf cm ot (fun c => (am v).testBit c) k (k + 1 + j)) = true := by
            refine (sw_any_iff _ _).mpr ⟨c - (k + 1), by omega, ?_⟩
            show ((am v).testBit (k + 1 + (c - (k + 1))) && (decide (cm (k + 1 + (c - (k + 1))) = nI k) || decide (ot (k + 1 + (c - (k + 1))) = nI k))) = true
            rw [show k + 1 + (c - (k + 1)) = c by omega, Bool.and_eq_true, Bool.or_eq_true, decide_eq_true_iff, decide_eq_true_iff]
            exact ⟨q3, q4⟩
          rw [ha, Bool.or_true]
    refine ⟨(swI (swI s 25 k (swZ (s.1 25 k))) 26 k (swZ (swB is))), ⟨fun c c1 c2 => ?_, fun c c1 c2 => ?_, fun c => ?_⟩, ?_⟩
    · simp (disch := omega) only [swlt_e, swbd_e, swrd_n, swgd_n, nI_clamp, sw8m, sw4m, sw4r, nI_add, nI_1, swsub, swsubn, sw4le, swleI, swltI, sweqI, sweqm, sw0add, if_pos, if_neg, if_true, if_false, sw1n0, sw0n1, eq_self, ↓reduceIte, swI_ne]
      exact i1 c c1 c2
    · by_cases e : c = k
      · subst e
        simp (disch := omega) only [swlt_e, swbd_e, swrd_n, swgd_n, nI_clamp, sw8m, sw4m, sw4r, nI_add, nI_1, swsub, swsubn, sw4le, swleI, swltI, sweqI, sweqm, sw0add, if_pos, if_neg, if_true, if_false, sw1n0, sw0n1, eq_self, ↓reduceIte, swI_ne, swI_self, swZ_b, his]
      · simp (disch := omega) only [swlt_e, swbd_e, swrd_n, swgd_n, nI_clamp, sw8m, sw4m, sw4r, nI_add, nI_1, swsub, swsubn, sw4le, swleI, swltI, sweqI, sweqm, sw0add, if_pos, if_neg, if_true, if_false, sw1n0, sw0n1, eq_self, ↓reduceIte, swI_ne, swI_k]
        exact i2 c (hkey c c1 e) c2
    · by_cases e : c = k
      · subst e
        rcases i3 c with z | ⟨z, -⟩
        · refine Or.inr ⟨by omega, ?_⟩
          simp (disch := omega) only [swlt_e, swbd_e, swrd_n, swgd_n, nI_clamp, sw8m, sw4m, sw4r, nI_add, nI_1, swsub, swsubn, sw4le, swleI, swltI, sweqI, sweqm, sw0add, if_pos, if_neg, if_true, if_false, sw1n0, sw0n1, eq_self, ↓reduceIte, swI_ne, swI_self, z]
        · omega
      · simp (disch := omega) only [swlt_e, swbd_e, swrd_n, swgd_n, nI_clamp, sw8m, sw4m, sw4r, nI_add, nI_1, swsub, swsubn, sw4le, swleI, swltI, sweqI, sweqm, sw0add, if_pos, if_neg, if_true, if_false, sw1n0, sw0n1, eq_self, ↓reduceIte, swI_ne, swI_k]
        rcases i3 c with z | ⟨z, z2⟩
        · exact Or.inl z
        · exact Or.inr ⟨by omega, z2⟩
    · show mx_layAncestors_L6 (nI v) true _ (f + 1) (nI (sw_cnt j (fun i => (am v).testBit (39 - i)))) (if j < 40 then nI (39 - j) else -1) s = mx_layAncestors_L6 (nI v) true _ f (nI (sw_cnt j (fun i => (am v).testBit (39 - i)) + (if (am v).testBit (39 - j) = true then 1 else 0))) (if j + 1 < 40 then nI (39 - (j + 1)) else -1) (swI (swI s 25 k (swZ (s.1 25 k))) 26 k (swZ (swB is)))
      rw [if_pos hj, ← hk, ← hnx, ← his, mx_layAncestors_L6, if_neg (nI_pos (by omega))]
      simp (disch := omega) only [swlt_e, nI_1]
      by_cases hkv : k = v
      · rw [if_pos (by rw [hkv])]
        refine pm_la1t _ h40 hk40 hn' h6' hbl true _ _ fun x => ?_
        rw [decide_eq_true hkv] at hcond
        rw [hcond]
        cases is <;> simp (disch := omega) only [swlt_e, swbd_e, swrd_n, swgd_n, nI_clamp, sw8m, sw4m, sw4r, nI_add, nI_1, swsub, swsubn, sw4le, swleI, swltI, sweqI, sweqm, sw0add, if_pos, if_neg, if_true, if_false, sw1n0, sw0n1, eq_self, ↓reduceIte, swI_ne, Bool.false_eq_true, Nat.add_zero]
      · rw [if_neg (by rw [nI_eq (by omega) (by omega)]; exact hkv)]
        refine pm_la1t _ h40 hk40 hn' h6' hbl false _ _ fun x => ?_
        rw [decide_eq_false hkv] at hcond
        rw [hcond]
        cases is <;> simp (disch := omega) only [swlt_e, swbd_e, swrd_n, swgd_n, nI_clamp, sw8m, sw4m, sw4r, nI_add, nI_1, swsub, swsubn, sw4le, swleI, swltI, sweqI, sweqm, sw0add, if_pos, if_neg, if_true, if_false, sw1n0, sw0n1, eq_self, ↓reduceIte, swI_ne, Bool.false_eq_true, Nat.add_zero]) (by omega)
  refine ⟨s, ?_, i1, fun k hk => i2 k (by omega) hk, fun k => (i3 k).imp id And.right⟩
  show mx_layAncestors_L6 (nI v) true _ 64 0 39 w = _
  refine Eq.trans hf ?_
  show mx_layAncestors_L6 (nI v) true _ (f + 1) (nI (sw_cnt 40 (fun i => (am v).testBit (39 - i)))) (-1) s = _
  have hr := sw_cnt_rev (fun k => (am v).testBit k) 40
  rw [mx_layAncestors_L6, if_pos (by decide), ← hr]
