/-! ===== the relation whole; a new version ===== -/
def lwR (t nv nb ns : Nat) (hd : Nat → Nat) (sh mo cm ot : Nat → Int32) (am : Nat → Nat) (dk : Nat → swD) (E : swEv) (u : swU) (w : lyU) : Prop := sr1 nv u w ∧ sr2 nb u w ∧ sr3 ns u w ∧ sr4 nv nb hd u w ∧ sr5 nv sh u w ∧ sr6 nv mo cm ot am u w ∧ srA nv am ∧ sr7 nv ns dk u w ∧ sr8 E u w ∧ nv ≤ 21 ∧ ns ≤ 6 ∧ E.2.2.2.2 ≤ t
def lwRx (t : Nat) (u : swU) (w : lyU) : Prop := ∃ (nv nb ns : Nat) (hd : Nat → Nat) (sh mo cm ot : Nat → Int32) (am : Nat → Nat) (dk : Nat → swD) (E : swEv), lwR t nv nb ns hd sh mo cm ot am dk E u w
def lyMW (nv b : Nat) (mo' cm' ot' : Int32) (m : Nat) (d : swD) (w w' : lyU) : Prop := w'.1 8 0 = nI (nv + 1) ∧ (∀ k, k ≠ 0 → k ≠ 1 → w'.1 8 k = w.1 8 k) ∧ w'.1 5 b = nI nv ∧ (∀ k, k ≠ b → w'.1 5 k = w.1 5 k) ∧ (∀ k, k ≠ nv → w'.1 2 k = w.1 2 k ∧ w'.1 3 k = w.1 3 k ∧ w'.1 4 k = w.1 4 k) ∧ srp mo' cm' ot' (w'.1 4 nv) ∧ w'.1 3 nv = nI m ∧ lwD w' nv d ∧ (∀ v s, s < 6 → v ≠ nv → lwget w' v s = lwget w v s) ∧ w'.1 6 = w.1 6 ∧ w'.1 7 = w.1 7
theorem lwE_fe {w w' : lyU} {E : swEv} (h : lwE w E) (h3 : w'.1 8 3 = w.1 8 3) (h4 : w'.1 8 4 = w.1 8 4) (h5 : w'.1 8 5 = w.1 8 5) (h6 : w'.1 6 = w.1 6) (h7 : w'.1 7 = w.1 7) : lwE w' E := by
  obtain ⟨a1, a2, a3, a4, a5⟩ := h
  refine ⟨h3.trans a1, h4.trans a2, h5.trans a3, fun r hr => ?_, fun i hi => ?_⟩
  · rw [h6]
    exact a4 r hr
  · rw [h7]
    exact a5 i hi
theorem lwD_fr {w w' : lyU} {v : Nat} {d : swD} (h : lwD w v d) (h2 : w'.1 2 v = w.1 2 v) (hg : ∀ s, s < 6 → lwget w' v s = lwget w v s) : lwD w' v d := ⟨h2.trans h.1, fun s hs => (hg s hs).trans (h.2 s hs)⟩
theorem lwR_new {t nv nb ns : Nat} {hd : Nat → Nat} {sh mo cm ot : Nat → Int32} {am : Nat → Nat} {dk : Nat → swD} {E : swEv} {u u' : swU} {w w' : lyU} (h : lwR t nv nb ns hd sh mo cm ot am dk E u w) {b : Nat} (hb : b < nb) (hnv : nv < 21) {x2 : Int32} {m : Nat} (hm : ∀ k, m.testBit k = true → k ≤ nv) {d : swD} {ns' : Nat} (hns : ns ≤ ns') (hns6 : ns' ≤ 6) (hu8 : u'.1 0 8 = nI ns') (hw8 : w'.1 8 1 = nI ns') (hV : swMV nv b (hd b) x2 m d u u') (hW : lyMW nv b (nI b) (nI (hd b)) x2 m d w w') (hdw : srW ns' d) (hdv : srV d) : lwRx t u' w' := by
  obtain ⟨h1, h2, h3, h4, h5, h6, hA, h7, h8, n21, n6, hday⟩ := h
  obtain ⟨v1, v2, v3, v4, v5, v6, v7, v8, v9, v10, v11⟩ := hV
  obtain ⟨m1, m2, m3, m4, m5, m6, m7, m8, m9, m10, m11⟩ := hW
  have hb6 := h2.2.1
  obtain ⟨hd', hd1, hd2⟩ := sw_ext hd b nv
  obtain ⟨mo', mo1, mo2⟩ := sw_ext mo nv (nI b)
  obtain ⟨cm', cm1, cm2⟩ := sw_ext cm nv (nI (hd b))
  obtain ⟨ot', ot1, ot2⟩ := sw_ext ot nv x2
  obtain ⟨am', am1, am2⟩ := sw_ext am nv m
  obtain ⟨dk', dk1, dk2⟩ := sw_ext dk nv d
  refine ⟨nv + 1, nb, ns', hd', sh, mo', cm', ot', am', dk', E, ?_, ?_, ?_, ?_, ?_, ?_, ?_, ?_, ?_, by omega, hns6, hday⟩
  · exact ⟨by omega, by omega, v1, m1⟩
  · obtain ⟨a1, a2, a3, a4⟩ := h2
    exact ⟨a1, a2, (v2 7 (by omega) (by omega)).trans a3, (m2 2 (by omega) (by omega)).trans a4⟩
  · exact ⟨by omega, hu8, hw8⟩
  · intro q hq
    by_cases e : q = b
    · rw [e]
      refine ⟨?_, ?_, ?_⟩
      · rw [hd1]
        omega
      · rw [hd1]
        exact v3
      · rw [hd1]
        exact m3
    · obtain ⟨a1, a2, a3⟩ := h4 q hq
      refine ⟨?_, ?_, ?_⟩
      · rw [hd2 q e]
        omega
      · rw [hd2 q e]
        exact (v4 q e).trans a2
      · rw [hd2 q e]
        exact (m4 q e).trans a3
  · intro q hq
    obtain ⟨a1, a2, a3⟩ := h5 q hq
    refine ⟨by rw [v10 2 (by omega) (by omega) (by omega) (by omega) (by omega) (by omega)]; exact a1, by rw [m4 (6 + q) (by omega)]; exact a2, ?_⟩
    rcases a3 with a3 | ⟨v, hv, a3⟩
    · exact Or.inl a3
    · exact Or.inr ⟨v, by omega, a3⟩
  · intro v hv
    by_cases e : v = nv
    · rw [e, mo1, cm1, ot1, am1]
      exact ⟨v5, v6, v7, m6, m7, trivial, v8⟩
    · obtain ⟨a1, a2, a3, a4, a5, a6, a7⟩ := h6 v (by omega)
      obtain ⟨z2, z3, z4⟩ := m5 v e
      have g := v10 (100 + v) (by omega) (by omega) (by omega) (by omega) (by omega) (by omega)
      rw [mo2 v e, cm2 v e, ot2 v e, am2 v e, g, v9 _ (by omega), z4, z3]
      exact ⟨a1, a2, a3, a4, a5, trivial, a7⟩
  · intro v hv k hk
    by_cases e : v = nv
    · rw [e, am1] at hk
      rw [e]
      exact hm k hk
    · rw [am2 v e] at hk
      exact hA v (by omega) k hk
  · intro v hv
    by_cases e : v = nv
    · rw [e, dk1]
      exact ⟨v11, m8, hdw, hdv⟩
    · obtain ⟨a1, a2, a3, a4⟩ := h7 v (by omega)
      have c1 := v10 (200 + v) (by omega) (by omega) (by omega) (by omega) (by omega) (by omega)
      have c2 := v10 (200 + v + 100) (by omega) (by omega) (by omega) (by omega) (by omega) (by omega)
      have c3 := v10 (200 + v + 200) (by omega) (by omega) (by omega) (by omega) (by omega) (by omega)
      rw [dk2 v e]
      exact ⟨swcD_fr a1 (by rw [c1]) (fun _ _ => by rw [c2]) (fun _ _ _ _ => by rw [c3]), lwD_fr a2 (m5 v e).1 (fun s hs => m9 v s hs e), a3.mono hns, a4⟩
  · obtain ⟨a1, a2, a3⟩ := h8
    exact ⟨swcE_fe a1 (v2 9 (by omega) (by omega)) (v2 10 (by omega) (by omega)) (v2 11 (by omega) (by omega)) (fun c q1 q2 => v10 c (by omega) (by omega) (by omega) (by omega) (by omega) (by omega)), lwE_fe a2 (m2 3 (by omega) (by omega)) (m2 4 (by omega) (by omega)) (m2 5 (by omega) (by omega)) m10 m11, a3⟩
theorem srp_ed {b hb : Nat} (b6 : b < 6) (hb40 : hb < 40) : srp (nI b) (nI hb) (-1) (nI (hb + 1 + 4096 * b)) := ⟨b, hb + 1, 0, b6, by omega, by omega, rfl, (nI_pred hb).symm, by decide, by congr 1⟩
/-- an edit: the copy, then the order and the slides -/
theorem lyMW_ed {nv b hb M : Nat} {d : swD} {w w1 w' : lyU} (h : lyCP nv b hb w w1) (b6 : b < 6) (hb40 : hb < 40) (h3 : w.1 3 hb = nI M) (c80 : w'.1 8 0 = w1.1 8 0) (c8 : ∀ k, k ≠ 0 → k ≠ 1 → w'.1 8 k = w1.1 8 k) (c5 : w'.1 5 = w1.1 5) (c3 : w'.1 3 = w1.1 3) (c4 : w'.1 4 = w1.1 4) (c2 : ∀ k, k ≠ nv → w'.1 2 k = w1.1 2 k) (c6 : w'.1 6 = w1.1 6) (c7 : w'.1 7 = w1.1 7) (g : ∀ v s, s < 6 → v ≠ nv → lwget w' v s = lwget w1 v s) (hD : lwD w' nv d) : lyMW nv b (nI b) (nI hb) (-1) ((M ||| 2 ^ nv) ||| 0) d w w' := by
  obtain ⟨a1, a2, a3, a4, a5, a6, a7, a8, a9, a10, a11, a12⟩ := h
  refine ⟨c80.trans a1, fun k k0 k1 => (c8 k k0 k1).trans (a2 k k0), by rw [c5]; exact a3, fun k hk => by rw [c5]; exact a4 k hk, fun k hk => ⟨(c2 k hk).trans (a8 k hk).1, by rw [c3]; exact (a8 k hk).2.1, by rw [c4]; exact (a8 k hk).2.2⟩, ?_, ?_, hD, fun v s hs hv => (g v s hs hv).trans (a12 v s hs hv), c6.trans a9, c7.trans a10⟩
  · rw [c4, a7]
    exact srp_ed b6 hb40
  · rw [c3, a6, h3, la_or, Nat.or_zero]
theorem srA_ed {nv hb : Nat} {am : Nat → Nat} (hA : srA nv am) (hh : hb < nv) : ∀ k, ((am hb ||| 2 ^ nv) ||| 0).testBit k = true → k ≤ nv := fun k hk => by
  rw [Nat.or_zero, Nat.testBit_or, Bool.or_eq_true, Nat.testBit_two_pow, decide_eq_true_iff] at hk
  rcases hk with hk | hk
  · have := hA hb hh k hk
    omega
  · omega
theorem srV_ins {p : Nat} {x : Int32} {d : swD} (h : srV d) (hp : p ≤ d.1) : srV (swins d p x) := fun k hk o ho => by
  have hk : k < d.1 + 1 := hk
  show ∃ q : Nat, q < 1000 ∧ (if k < p then d.2.2 k o else if k = p then 0 else d.2.2 (k - 1) o) = nI q
  by_cases h1 : k < p
  · rw [if_pos h1]
    exact h k (by omega) o ho
  · rw [if_neg h1]
    by_cases h2 : k = p
    · rw [if_pos h2]
      exact ⟨0, by omega, rfl⟩
    · rw [if_neg h2]
      exact h (k - 1) (by omega) o ho
theorem srV_rm {p : Nat} {d : swD} (h : srV d) (hp : p < d.1) : srV (swrm d p) := fun k hk o ho => by
  have hsz : (swrm d p).1 = d.1 - 1 := if_pos hp
  rw [hsz] at hk
  show ∃ q : Nat, q < 1000 ∧ d.2.2 (swsk p k) o = nI q
  refine h _ ?_ o ho
  unfold swsk
  by_cases h1 : k < p
  · rw [if_pos h1]
    omega
  · rw [if_neg h1]
    omega
theorem srV_set {p o x : Nat} {d : swD} (h : srV d) (hx : x < 1000) : srV (swset d p o (nI x)) := fun k hk i hi => by
  show ∃ q : Nat, q < 1000 ∧ (if k = p ∧ i = o then nI x else d.2.2 k i) = nI q
  by_cases e : k = p ∧ i = o
  · rw [if_pos e]
    exact ⟨x, hx, rfl⟩
  · rw [if_neg e]
    exact h k hk i hi
theorem la_negs : ∀ δ, δ < 1000 → ∀ o, o < 4 → lyshl (Int32.toInt64 (0 - nI δ)) (nI (10 * o)) + lN (δ * 2 ^ (10 * o)) = 0 := by decide +kernel
theorem la_diff {a b N o X : Nat} (ha : a < 1000) (hb : b < 1000) (ho : o < 4) (h : X + b * 2 ^ (10 * o) = N + a * 2 ^ (10 * o)) (hN : b * 2 ^ (10 * o) ≤ N) : lN N + lyshl (Int32.toInt64 (nI a - nI b)) ((10 : Int32) * nI o) = lN X := by
  rw [show ((10 : Int32) * nI o) = nI (10 * o) from pk_mul 10 o]
  by_cases hab : b ≤ a
  · have e : (a - b) * 2 ^ (10 * o) = a * 2 ^ (10 * o) - b * 2 ^ (10 * o) := Nat.sub_mul _ _ _
    have hle : b * 2 ^ (10 * o) ≤ a * 2 ^ (10 * o) := Nat.mul_le_mul_right _ hab
    rw [pk_sub hab, nI_l (by omega), la_lshl _ (by omega), lN_add, e]
    congr 1
    omega
  · have e0 : nI a - nI b = 0 - nI (b - a) := by
      apply Int32.toInt_inj.mp
      rw [pk_sub_toInt (by omega) (by omega), show (0 : Int32) = nI 0 from rfl, pk_sub_toInt (by omega) (by omega)]
      omega
    have hz := la_negs (b - a) (by omega) o ho
    have e : (b - a) * 2 ^ (10 * o) = b * 2 ^ (10 * o) - a * 2 ^ (10 * o) := Nat.sub_mul _ _ _
    have hle : a * 2 ^ (10 * o) ≤ b * 2 ^ (10 * o) := Nat.mul_le_mul_right _ (by omega)
    have hNX : N = X + (b - a) * 2 ^ (10 * o) := by
      rw [e]
      omega
    rw [e0, hNX, ← lN_add, Int64.add_assoc, Int64.add_comm (lN ((b - a) * 2 ^ (10 * o))), hz]
    exact Int64.add_zero _
