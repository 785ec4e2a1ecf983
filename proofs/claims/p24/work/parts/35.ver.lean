/-! ===== NEW VERSIONS, on the class's side ===== -/
def sw4s (Q T : Nat) (src : Nat → Int32) (n : Nat) (s0 s : swU) : Prop := (∀ q, q ≠ Q → s.1 q = s0.1 q) ∧ (∀ j, j < n → s.1 Q (T + j) = src j) ∧ (∀ i, (i < T ∨ T + n ≤ i) → s.1 Q i = s0.1 Q i) ∧ s.2 = s0.2
theorem sw4s.zero (Q T : Nat) (src : Nat → Int32) (s : swU) : sw4s Q T src 0 s s := ⟨fun _ _ => rfl, fun j h => absurd h (Nat.not_lt_zero j), fun _ _ => rfl, rfl⟩
theorem sw4s.step {Q T n : Nat} {src : Nat → Int32} {s0 s : swU} (h : sw4s Q T src n s0 s) : sw4s Q T src (n + 1) s0 (swI s Q (T + n) (src n)) := by
  obtain ⟨a, b, c, d⟩ := h
  refine ⟨fun q hq => (swI_ne hq).trans (a q hq), fun j hj => ?_, fun i hi => ?_, d⟩
  · by_cases e : j = n
    · subst e
      exact swI_self
    · rw [swI_k (by omega)]
      exact b j (by omega)
  · rw [swI_k (by omega)]
    exact c i (by omega)
theorem swcD_cong {u : swU} {c : Nat} {d e : swD} (h : swcD u c d) (h1 : e.1 = d.1) (h2 : ∀ k, k < d.1 → e.2.1 k = d.2.1 k) (h3 : ∀ k, k < d.1 → ∀ o, o < 4 → e.2.2 k o = d.2.2 k o) : swcD u c e := by
  obtain ⟨a, b, x, y⟩ := h
  refine ⟨by omega, by rw [h1]; exact b, fun k hk => ?_, fun k hk o ho => ?_⟩
  · rw [h2 k (by omega)]
    exact x k (by omega)
  · rw [h3 k (by omega) o ho]
    exact y k (by omega) o ho
/-- only a deck changes -/
def swcF (c : Nat) (u u' : swU) : Prop := (∀ q, q ≠ c → q ≠ c + 100 → q ≠ c + 200 → u'.1 q = u.1 q) ∧ u'.2 = u.2
theorem swcF.tr {c : Nat} {u u' u'' : swU} (h : swcF c u u') (h2 : swcF c u' u'') : swcF c u u'' := ⟨fun q a b d => (h2.1 q a b d).trans (h.1 q a b d), h2.2.trans h.2⟩
theorem pc_copyFrom {u : swU} {c c2 : Nat} {d : swD} (h : swcD u c2 d) (hne : c ≠ c2) (hc : 200 ≤ c ∧ c ≤ 240) (hc2 : 200 ≤ c2 ∧ c2 ≤ 240) : ∃ u', xx0_copyFrom u c c2 = some u' ∧ swcF c u u' ∧ swcD u' c d := by
  obtain ⟨h8, hn, hr, hv⟩ := h
  unfold xx0_copyFrom
  refine ⟨_, rfl, ⟨fun q q1 q2 q3 => ?_, rfl⟩, h8, ?_, fun k hk => ?_, fun k hk o ho => ?_⟩
  · rw [swI_ne q1, swR_ne q3, swR_ne q2]
  · rw [swI_self, swR_ne (by omega), swR_ne (by omega)]
    exact hn
  · rw [swI_ne (by omega), swR_ne (by omega), swR_self]
    show va_cpy _ _ 0 0 8 k = _
    unfold va_cpy
    rw [if_pos (by omega)]
    simpa using hr k hk
  · rw [swI_ne (by omega), swR_self]
    show va_cpy _ _ 0 0 32 (4 * k + o) = _
    unfold va_cpy
    rw [if_pos (by omega), swR_ne (by omega)]
    simpa using hv k hk o ho
def swmvF (c i j : Nat) (u u' : swU) : Prop := (∀ q, q ≠ c + 100 → q ≠ c + 200 → u'.1 q = u.1 q) ∧ u'.1 (c + 100) j = u.1 (c + 100) i ∧ (∀ k, k ≠ j → u'.1 (c + 100) k = u.1 (c + 100) k) ∧ (∀ o, o < 4 → u'.1 (c + 200) (4 * j + o) = u.1 (c + 200) (4 * i + o)) ∧ (∀ k, (k < 4 * j ∨ 4 * j + 4 ≤ k) → u'.1 (c + 200) k = u.1 (c + 200) k) ∧ u'.2 = u.2
theorem pc_put (u : swU) (c : Nat) {k o : Nat} (hk : k < 8) (ho : o < 4) (x : Int32) : xx0_put u c (nI k) (nI o) x = some (swI u (c + 200) (4 * k + o) x) := by
  unfold xx0_put
  simp (disch := omega) only [swlt_e, swbd_e, swrd_n, swgd_n, nI_clamp, sw8m, sw4m, sw4r, nI_add, nI_1, swsub, swsubn, sw4le, swleI, swltI, sweqI, sweqm, sw0add, if_pos, if_neg, if_true, if_false, sw1n0, sw0n1, eq_self, ↓reduceIte]
theorem pc_move (u : swU) (c : Nat) {i j : Nat} (hi : i < 8) (hj : j < 8) (hij : i ≠ j) : ∃ u', xx0_move u c (nI i) (nI j) = some u' ∧ swmvF c i j u u' := by
  obtain ⟨s, hs, f, hf⟩ := sw_upS (σ := swU) (fun f o s => xx0_move_L14 c (nI i) (nI j) (fun v3 w37 => some w37) f (nI o) s) (fun o s => sw4s (c + 200) (4 * j) (fun o => u.1 (c + 200) (4 * i + o)) o (swI u (c + 100) j (u.1 (c + 100) i)) s) 4 (swI u (c + 100) j (u.1 (c + 100) i)) (sw4s.zero _ _ _ _) (by
    intro f o s ho hI
    refine ⟨_, hI.step, ?_⟩
    show xx0_move_L14 c (nI i) (nI j) _ (f + 1) (nI o) s = xx0_move_L14 c (nI i) (nI j) _ f (nI (o + 1)) _
    rw [xx0_move_L14]
    have hva := pc_valueAt0 s c hi ho
    have hrd : s.1 (c + 200) (4 * i + o) = u.1 (c + 200) (4 * i + o) := by
      rw [hI.2.2.1 _ (by omega), swI_ne (by omega)]
    simp (disch := omega) only [swlt_e, swbd_e, swrd_n, swgd_n, nI_clamp, sw8m, sw4m, sw4r, nI_add, nI_1, swsub, swsubn, sw4le, swleI, swltI, sweqI, sweqm, sw0add, if_pos, if_neg, if_true, if_false, sw1n0, sw0n1, eq_self, ↓reduceIte, hva, hrd, pc_put]) (by omega)
  obtain ⟨a, b, x, y⟩ := hs
  refine ⟨s, ?_, fun q q1 q2 => (a q q2).trans (swI_ne q1), ?_, fun k hk => ?_, fun o ho => b o ho, fun k hk => (x k hk).trans (by rw [swI_ne (by omega)]), y⟩
  · unfold xx0_move
    simp (disch := omega) only [swlt_e, swbd_e, swrd_n, swgd_n, nI_clamp, sw8m, sw4m, sw4r, nI_add, nI_1, swsub, swsubn, sw4le, swleI, swltI, sweqI, sweqm, sw0add, if_pos, if_neg, if_true, if_false, sw1n0, sw0n1, eq_self, ↓reduceIte]
    refine Eq.trans hf ?_
    show xx0_move_L14 c (nI i) (nI j) _ (f + 1) (nI 4) s = _
    rw [xx0_move_L14]
    simp (disch := omega) only [swlt_e, swbd_e, swrd_n, swgd_n, nI_clamp, sw8m, sw4m, sw4r, nI_add, nI_1, swsub, swsubn, sw4le, swleI, swltI, sweqI, sweqm, sw0add, if_pos, if_neg, if_true, if_false, sw1n0, sw0n1, eq_self, ↓reduceIte]
  · rw [a _ (by omega), swI_self]
  · rw [a _ (by omega), swI_k hk]
def swins (d : swD) (p : Nat) (s : Int32) : swD := (d.1 + 1, fun k => if k < p then d.2.1 k else if k = p then s else d.2.1 (k - 1), fun k o => if k < p then d.2.2 k o else if k = p then 0 else d.2.2 (k - 1) o)
def swsk (p k : Nat) : Nat := if k < p then k else k + 1
def swrm (d : swD) (p : Nat) : swD := (if p < d.1 then d.1 - 1 else d.1, fun k => d.2.1 (swsk p k), fun k o => d.2.2 (swsk p k) o)
def swset (d : swD) (p : Nat) (o : Nat) (x : Int32) : swD := (d.1, d.2.1, fun k i => if k = p ∧ i = o then x else d.2.2 k i)
theorem pc_insert {u : swU} {c : Nat} {d : swD} (h : swcD u c d) (hn8 : d.1 < 8) {p : Nat} (hp : p ≤ d.1) (x : Int32) : ∃ u', xx0_insert u c (nI p) x = some u' ∧ swcF c u u' ∧ swcD u' c (swins d p x) := by
  obtain ⟨h8, hn, hr, hv⟩ := h
  -- the shift
  obtain ⟨s, ⟨i1, i2, i3, i4, i5⟩, f, hf⟩ := sw_upS (σ := swU) (fun f t s => xx0_insert_L5 c (nI p) (fun v3 w24 => swgd (swix (nI p) 8) <| swlt (swI w24 (c + 100) (nI p).toNatClampNeg x) fun u30 => xx0_insert_L33 c (nI p) (fun v3 w51 => swlt (swI w51 c 2 (((w51.1 c 2) + 1))) fun u58 => some u58) 64 0 u30) f (nI (d.1 - t)) s)
    (fun t s => (∀ q, q ≠ c + 100 → q ≠ c + 200 → s.1 q = u.1 q) ∧ s.2 = u.2 ∧ (∀ k, k ≤ d.1 - t → s.1 (c + 100) k = u.1 (c + 100) k ∧ ∀ o, o < 4 → s.1 (c + 200) (4 * k + o) = u.1 (c + 200) (4 * k + o)) ∧ (∀ k, d.1 - t < k → k ≤ d.1 → s.1 (c + 100) k = u.1 (c + 100) (k - 1) ∧ ∀ o, o < 4 → s.1 (c + 200) (4 * k + o) = u.1 (c + 200) (4 * (k - 1) + o)) ∧ True) (d.1 - p) u ⟨fun _ _ _ => rfl, rfl, fun _ _ => ⟨rfl, fun _ _ => rfl⟩, fun k a b => by omega, trivial⟩ (by
    intro f t s ht hI
    obtain ⟨i1, i2, i3, i4, i5⟩ := hI
    obtain ⟨s', e, m1, m2, m3, m4, m5, m6⟩ := pc_move s c (i := d.1 - t - 1) (j := d.1 - t) (by omega) (by omega) (by omega)
    refine ⟨s', ⟨fun q a b => (m1 q a b).trans (i1 q a b), m6.trans i2, fun k hk => ?_, fun k a b => ?_, trivial⟩, ?_⟩
    · rw [m3 k (by omega)]
      refine ⟨(i3 k (by omega)).1, fun o ho => ?_⟩
      rw [m5 _ (by omega)]
      exact (i3 k (by omega)).2 o ho
    · by_cases e2 : k = d.1 - t
      · subst e2
        rw [m2]
        refine ⟨(i3 _ (by omega)).1, fun o ho => ?_⟩
        rw [m4 o ho]
        exact (i3 _ (by omega)).2 o ho
      · rw [m3 k e2]
        refine ⟨(i4 k (by omega) b).1, fun o ho => ?_⟩
        rw [m5 _ (by omega)]
        exact (i4 k (by omega) b).2 o ho
    · show xx0_insert_L5 c (nI p) _ (f + 1) (nI (d.1 - t)) s = xx0_insert_L5 c (nI p) _ f (nI (d.1 - (t + 1))) s'
      have hle : ¬ nI (d.1 - t) ≤ nI p := by
        rw [swleI (by omega) (by omega)]
        omega
      rw [xx0_insert_L5, if_neg hle, swsub (by omega), e, swsubn (by omega), show d.1 - t - 1 = d.1 - (t + 1) by omega]
      rfl) (by omega)
  -- the new slide
  obtain ⟨z, hz, g, hg⟩ := sw_upS (σ := swU) (fun f o s => xx0_insert_L33 c (nI p) (fun v3 w51 => swlt (swI w51 c 2 (((w51.1 c 2) + 1))) fun u58 => some u58) f (nI o) s) (fun o s' => sw4s (c + 200) (4 * p) (fun _ => 0) o (swI s (c + 100) p x) s') 4 (swI s (c + 100) p x) (sw4s.zero _ _ _ _) (by
    intro f o s ho hI
    refine ⟨_, hI.step, ?_⟩
    show xx0_insert_L33 c (nI p) _ (f + 1) (nI o) s = xx0_insert_L33 c (nI p) _ f (nI (o + 1)) _
    rw [xx0_insert_L33]
    simp (disch := omega) only [swlt_e, swbd_e, swrd_n, swgd_n, nI_clamp, sw8m, sw4m, sw4r, nI_add, nI_1, swsub, swsubn, sw4le, swleI, swltI, sweqI, sweqm, sw0add, if_pos, if_neg, if_true, if_false, sw1n0, sw0n1, eq_self, ↓reduceIte, pc_put]) (by omega)
  obtain ⟨a, b, y1, y2⟩ := hz
  have hsz : z.1 c 2 = nI d.1 := by
    rw [a c (by omega), swI_ne (by omega), i1 c (by omega) (by omega)]
    exact hn
  refine ⟨swI z c 2 (nI (d.1 + 1)), ?_, ⟨fun q q1 q2 q3 => ?_, ?_⟩, by show d.1 + 1 ≤ 8; omega, swI_self, fun k hk => ?_, fun k hk o ho => ?_⟩
  · unfold xx0_insert
    rw [hn]
    show xx0_insert_L5 c (nI p) _ 64 (nI d.1) u = _
    refine Eq.trans hf ?_
    show xx0_insert_L5 c (nI p) _ (f + 1) (nI (d.1 - (d.1 - p))) s = _
    have hle : nI (d.1 - (d.1 - p)) ≤ nI p := by
      rw [swleI (by omega) (by omega)]
      omega
    rw [xx0_insert_L5, if_pos hle, swgd_n (by omega) (by omega), nI_clamp (by omega)]
    refine Eq.trans hg ?_
    show xx0_insert_L33 c (nI p) _ (g + 1) (nI 4) z = _
    rw [xx0_insert_L33]
    simp (disch := omega) only [swlt_e, swbd_e, swrd_n, swgd_n, nI_clamp, sw8m, sw4m, sw4r, nI_add, nI_1, swsub, swsubn, sw4le, swleI, swltI, sweqI, sweqm, sw0add, if_pos, if_neg, if_true, if_false, sw1n0, sw0n1, eq_self, ↓reduceIte, hsz]
  · rw [swI_ne q1, a q q3, swI_ne q2, i1 q q2 q3]
  · rw [swI_2, y2, swI_2, i2]
  · have hk2 : k < d.1 + 1 := hk
    rw [swI_ne (by omega), a _ (by omega)]
    show _ = if k < p then d.2.1 k else if k = p then x else d.2.1 (k - 1)
    by_cases e1 : k < p
    · rw [if_pos e1, swI_k (by omega), (i3 k (by omega)).1]
      exact hr k (by omega)
    · by_cases e2 : k = p
      · rw [if_neg e1, if_pos e2, e2, swI_self]
      · rw [if_neg e1, if_neg e2, swI_k e2, (i4 k (by omega) (by omega)).1]
        exact hr _ (by omega)
  · have hk2 : k < d.1 + 1 := hk
    rw [swI_ne (by omega)]
    show _ = if k < p then d.2.2 k o else if k = p then 0 else d.2.2 (k - 1) o
    by_cases e1 : k < p
    · rw [if_pos e1, y1 _ (by omega), swI_ne (by omega), (i3 k (by omega)).2 o ho]
      exact hv k (by omega) o ho
    · by_cases e2 : k = p
      · rw [if_neg e1, if_pos e2, e2, b o ho]
      · rw [if_neg e1, if_neg e2, y1 _ (by omega), swI_ne (by omega), (i4 k (by omega) (by omega)).2 o ho]
        exact hv _ (by omega) o ho
theorem pc_removeAt {u : swU} {c : Nat} {d : swD} (h : swcD u c d) {p : Nat} (hp : p < d.1) : ∃ u', xx0_removeAt u c (nI p) = some u' ∧ swcF c u u' ∧ swcD u' c (swrm d p) := by
  obtain ⟨h8, hn, hr, hv⟩ := h
  obtain ⟨s, ⟨i1, i2, i3, i4⟩, f, hf⟩ := sw_upS (σ := swU) (fun f t s => xx0_removeAt_L4 c (fun v2 w26 => swlt (swI w26 c 2 (((w26.1 c 2) - 1))) fun u33 => some u33) f (nI (p + 1 + t)) s)
    (fun t s => (∀ q, q ≠ c + 100 → q ≠ c + 200 → s.1 q = u.1 q) ∧ s.2 = u.2 ∧ (∀ k, (k < p ∨ p + t ≤ k) → s.1 (c + 100) k = u.1 (c + 100) k ∧ ∀ o, o < 4 → s.1 (c + 200) (4 * k + o) = u.1 (c + 200) (4 * k + o)) ∧ (∀ k, p ≤ k → k < p + t → s.1 (c + 100) k = u.1 (c + 100) (k + 1) ∧ ∀ o, o < 4 → s.1 (c + 200) (4 * k + o) = u.1 (c + 200) (4 * (k + 1) + o))) (d.1 - (p + 1)) u ⟨fun _ _ _ => rfl, rfl, fun _ _ => ⟨rfl, fun _ _ => rfl⟩, fun k a b => by omega⟩ (by
    intro f t s ht hI
    obtain ⟨i1, i2, i3, i4⟩ := hI
    obtain ⟨s', e, m1, m2, m3, m4, m5, m6⟩ := pc_move s c (i := p + 1 + t) (j := p + t) (by omega) (by omega) (by omega)
    have hsz : s.1 c 2 = nI d.1 := by
      rw [i1 c (by omega) (by omega)]
      exact hn
    refine ⟨s', ⟨fun q a b => (m1 q a b).trans (i1 q a b), m6.trans i2, fun k hk => ?_, fun k a b => ?_⟩, ?_⟩
    · rw [m3 k (by omega)]
      refine ⟨(i3 k (by omega)).1, fun o ho => ?_⟩
      rw [m5 _ (by omega)]
      exact (i3 k (by omega)).2 o ho
    · by_cases e2 : k = p + t
      · subst e2
        rw [m2]
        refine ⟨by rw [(i3 (p + 1 + t) (by omega)).1, show p + 1 + t = p + t + 1 by omega], fun o ho => ?_⟩
        rw [m4 o ho, (i3 (p + 1 + t) (by omega)).2 o ho, show p + 1 + t = p + t + 1 by omega]
      · rw [m3 k e2]
        refine ⟨(i4 k a (by omega)).1, fun o ho => ?_⟩
        rw [m5 _ (by omega)]
        exact (i4 k a (by omega)).2 o ho
    · show xx0_removeAt_L4 c _ (f + 1) (nI (p + 1 + t)) s = xx0_removeAt_L4 c _ f (nI (p + 1 + (t + 1))) s'
      have hle : ¬ nI d.1 ≤ nI (p + 1 + t) := by
        rw [swleI (by omega) (by omega)]
        omega
      rw [xx0_removeAt_L4, hsz, if_neg hle, swsub (by omega), show p + 1 + t - 1 = p + t by omega, e, nI_1]
      rfl) (by omega)
  have hsz : s.1 c 2 = nI d.1 := by
    rw [i1 c (by omega) (by omega)]
    exact hn
  have hn1 : (swrm d p).1 = d.1 - 1 := if_pos hp
  refine ⟨swI s c 2 (nI (d.1 - 1)), ?_, ⟨fun q q1 q2 q3 => ?_, ?_⟩, by rw [hn1]; omega, by rw [hn1]; exact swI_self, fun k hk => ?_, fun k hk o ho => ?_⟩
  · unfold xx0_removeAt
    rw [nI_1]
    show xx0_removeAt_L4 c _ 64 (nI (p + 1)) u = _
    refine Eq.trans hf ?_
    show xx0_removeAt_L4 c _ (f + 1) (nI (p + 1 + (d.1 - (p + 1)))) s = _
    rw [xx0_removeAt_L4]
    simp (disch := omega) only [swlt_e, swbd_e, swrd_n, swgd_n, nI_clamp, sw8m, sw4m, sw4r, nI_add, nI_1, swsub, swsubn, sw4le, swleI, swltI, sweqI, sweqm, sw0add, if_pos, if_neg, if_true, if_false, sw1n0, sw0n1, eq_self, ↓reduceIte, hsz]
  · rw [swI_ne q1, i1 q q2 q3]
  · rw [swI_2, i2]
  · rw [hn1] at hk
    rw [swI_ne (by omega)]
    show _ = d.2.1 (if k < p then k else k + 1)
    by_cases e1 : k < p
    · rw [if_pos e1, (i3 k (by omega)).1]
      exact hr k (by omega)
    · rw [if_neg e1, (i4 k (by omega) (by omega)).1]
      exact hr _ (by omega)
  · rw [hn1] at hk
    rw [swI_ne (by omega)]
    show _ = d.2.2 (if k < p then k else k + 1) o
    by_cases e1 : k < p
    · rw [if_pos e1, (i3 k (by omega)).2 o ho]
      exact hv k (by omega) o ho
    · rw [if_neg e1, (i4 k (by omega) (by omega)).2 o ho]
      exact hv _ (by omega) o ho
theorem pc_putD {u : swU} {c : Nat} {d : swD} (h : swcD u c d) {p o : Nat} (hp : p < d.1) (ho : o < 4) (x : Int32) : swcF c u (swI u (c + 200) (4 * p + o) x) ∧ swcD (swI u (c + 200) (4 * p + o) x) c (swset d p o x) := by
  obtain ⟨h8, hn, hr, hv⟩ := h
  refine ⟨⟨fun q q1 q2 q3 => swI_ne q3, rfl⟩, h8, ?_, fun k hk => ?_, fun k hk i hi => ?_⟩
  · rw [swI_ne (by omega)]
    exact hn
  · rw [swI_ne (by omega)]
    exact hr k hk
  · show _ = if k = p ∧ i = o then x else d.2.2 k i
    by_cases e : k = p ∧ i = o
    · rw [if_pos e, e.1, e.2, swI_self]
    · rw [if_neg e, swI_k (by omega)]
      exact hv k hk i hi
/-- what a made version is, in the class's state -/
def swMV (nv b hb : Nat) (x2 : Int32) (m : Nat) (d : swD) (u u' : swU) : Prop := u'.1 0 6 = nI (nv + 1) ∧ (∀ k, k ≠ 6 → k ≠ 8 → u'.1 0 k = u.1 0 k) ∧ u'.1 1 b = nI nv ∧ (∀ k, k ≠ b → u'.1 1 k = u.1 1 k) ∧ u'.1 (100 + nv) 1 = nI b ∧ u'.1 (100 + nv) 2 = nI hb ∧ u'.1 (100 + nv) 3 = x2 ∧ u'.2 (100 + nv) = lN m ∧ (∀ q, q ≠ 100 + nv → u'.2 q = u.2 q) ∧ (∀ q, q ≠ 0 → q ≠ 1 → q ≠ 100 + nv → q ≠ 200 + nv → q ≠ 300 + nv → q ≠ 400 + nv → u'.1 q = u.1 q) ∧ swcD u' (200 + nv) d
theorem swMV.deck {nv b hb : Nat} {x2 : Int32} {m : Nat} {d d' : swD} {u u' u'' : swU} (h40 : nv < 40) (h : swMV nv b hb x2 m d u u') (hf : swcF (200 + nv) u' u'') (hd : swcD u'' (200 + nv) d') : swMV nv b hb x2 m d' u u'' := by
  obtain ⟨a1, a2, a3, a4, a5, a6, a7, a8, a9, a10, -⟩ := h
  obtain ⟨f1, f2⟩ := hf
  have g0 : u''.1 0 = u'.1 0 := f1 0 (by omega) (by omega) (by omega)
  have g1 : u''.1 1 = u'.1 1 := f1 1 (by omega) (by omega) (by omega)
  have gv : u''.1 (100 + nv) = u'.1 (100 + nv) := f1 _ (by omega) (by omega) (by omega)
  refine ⟨by rw [g0]; exact a1, fun k q1 q2 => by rw [g0]; exact a2 k q1 q2, by rw [g1]; exact a3, fun k hk => by rw [g1]; exact a4 k hk, by rw [gv]; exact a5, by rw [gv]; exact a6, by rw [gv]; exact a7, by rw [f2]; exact a8, fun q hq => by rw [f2]; exact a9 q hq, fun q q1 q2 q3 q4 q5 q6 => ?_, hd⟩
  rw [f1 q q4 (by omega) (by omega)]
  exact a10 q q1 q2 q3 q4 q5 q6
theorem swMV.pre8 {nv b hb : Nat} {x2 : Int32} {m : Nat} {d : swD} {u u' : swU} {x : Int32} (h : swMV nv b hb x2 m d (swI u 0 8 x) u') : swMV nv b hb x2 m d u u' := by
  obtain ⟨a1, a2, a3, a4, a5, a6, a7, a8, a9, a10, a11⟩ := h
  refine ⟨a1, fun k q1 q2 => ?_, a3, fun k hk => ?_, a5, a6, a7, a8, a9, fun q q1 q2 q3 q4 q5 q6 => ?_, a11⟩
  · rw [a2 k q1 q2, swI_k q2]
  · rw [a4 k hk, swI_ne (by omega)]
  · rw [a10 q q1 q2 q3 q4 q5 q6, swI_ne q1]
theorem pc_makeVersion {u : swU} {nv b hb : Nat} {x2 : Int32} {m mc : Nat} {d : swD} (h40 : nv < 40) (hn : u.1 0 6 = nI nv) (b6 : b < 6) (hhb : hb < nv) (h1 : u.1 1 b = nI hb) (hm : u.2 (100 + hb) = lN m) (hx : (x2 = -1 ∧ mc = 0) ∨ ∃ c, c < nv ∧ x2 = nI c ∧ u.2 (100 + c) = lN mc) (hd : swcD u (200 + hb) d) : ∃ u', xx5_makeVersion u (nI b) x2 = some (200 + nv, u') ∧ swMV nv b hb x2 ((m ||| 2 ^ nv) ||| mc) d u u' ∧ u'.1 0 8 = u.1 0 8 := by
  obtain ⟨U, hU⟩ : ∃ U, U = swL (swI (swI (swI u (100 + nv) 1 (nI b)) (100 + nv) 2 (nI hb)) (100 + nv) 3 x2) (100 + nv) (lN ((m ||| 2 ^ nv) ||| mc)) := ⟨_, rfl⟩
  have hsh := swl_sh1 nv (by omega)
  have hdU : swcD U (200 + hb) d := by
    subst hU
    refine swcD_fr hd ?_ (fun k hk => ?_) (fun k hk o ho => ?_)
    · simp (disch := omega) only [swlt_e, swbd_e, swrd_n, swgd_n, nI_clamp, sw8m, sw4m, sw4r, nI_add, nI_1, swsub, swsubn, sw4le, swleI, swltI, sweqI, sweqm, sw0add, if_pos, if_neg, if_true, if_false, sw1n0, sw0n1, eq_self, ↓reduceIte, swL_1, swI_ne]
    · simp (disch := omega) only [swlt_e, swbd_e, swrd_n, swgd_n, nI_clamp, sw8m, sw4m, sw4r, nI_add, nI_1, swsub, swsubn, sw4le, swleI, swltI, sweqI, sweqm, sw0add, if_pos, if_neg, if_true, if_false, sw1n0, sw0n1, eq_self, ↓reduceIte, swL_1, swI_ne]
    · simp (disch := omega) only [swlt_e, swbd_e, swrd_n, swgd_n, nI_clamp, sw8m, sw4m, sw4r, nI_add, nI_1, swsub, swsubn, sw4le, swleI, swltI, sweqI, sweqm, sw0add, if_pos, if_neg, if_true, if_false, sw1n0, sw0n1, eq_self, ↓reduceIte, swL_1, swI_ne]
  obtain ⟨U2, e2, f2, d2⟩ := pc_copyFrom (c := 200 + nv) (c2 := 200 + hb) hdU (by omega) (by omega) (by omega)
  refine ⟨swI (swI U2 1 b (nI nv)) 0 6 (nI (nv + 1)), ?_, ?_, ?_⟩
  · unfold xx5_makeVersion
    rcases hx with ⟨rfl, rfl⟩ | ⟨c, hc, rfl, hmc⟩
    · rw [Nat.or_zero] at hU
      simp (disch := omega) only [swlt_e, swbd_e, swrd_n, swgd_n, nI_clamp, sw8m, sw4m, sw4r, nI_add, nI_1, swsub, swsubn, sw4le, swleI, swltI, sweqI, sweqm, sw0add, if_pos, if_neg, if_true, if_false, sw1n0, sw0n1, eq_self, ↓reduceIte, hn, h1, swI_2, hm, hsh, swl_or, swap100]
      rw [← hU, e2]
      rfl
    · have hU' : U = swL (swL (swI (swI (swI u (100 + nv) 1 (nI b)) (100 + nv) 2 (nI hb)) (100 + nv) 3 (nI c)) (100 + nv) (lN (m ||| 2 ^ nv))) (100 + nv) (lN ((m ||| 2 ^ nv) ||| mc)) := by
        rw [hU]
        unfold swL
        congr 1
        funext q
        by_cases e : q = 100 + nv
        · subst e
          rw [va_up_self, va_up_self]
        · exact (va_up_ne _ _ e).trans ((va_up_ne _ _ e).trans (va_up_ne _ _ e)).symm
      simp (disch := omega) only [swlt_e, swbd_e, swrd_n, swgd_n, nI_clamp, sw8m, sw4m, sw4r, nI_add, nI_1, swsub, swsubn, sw4le, swleI, swltI, sweqI, sweqm, sw0add, if_pos, if_neg, if_true, if_false, sw1n0, sw0n1, eq_self, ↓reduceIte, hn, h1, swI_2, hm, hsh, swl_or, swap100, swL_self, swL_ne, hmc]
      rw [← hU', e2]
      rfl
  · obtain ⟨g1, g2⟩ := f2
    have gv : U2.1 (100 + nv) = U.1 (100 + nv) := g1 _ (by omega) (by omega) (by omega)
    have g0 : U2.1 0 = U.1 0 := g1 _ (by omega) (by omega) (by omega)
    have gg : U2.1 1 = U.1 1 := g1 _ (by omega) (by omega) (by omega)
    refine ⟨swI_self, fun k q1 q2 => ?_, ?_, fun k hk => ?_, ?_, ?_, ?_, ?_, fun q hq => ?_, fun q q1 q2 q3 q4 q5 q6 => ?_, ?_⟩
    · rw [swI_k q1, swI_ne (by omega), g0, hU]
      simp (disch := omega) only [swlt_e, swbd_e, swrd_n, swgd_n, nI_clamp, sw8m, sw4m, sw4r, nI_add, nI_1, swsub, swsubn, sw4le, swleI, swltI, sweqI, sweqm, sw0add, if_pos, if_neg, if_true, if_false, sw1n0, sw0n1, eq_self, ↓reduceIte, swL_1, swI_ne]
    · rw [swI_ne (by omega), swI_self]
    · rw [swI_ne (by omega), swI_k hk, gg, hU]
      simp (disch := omega) only [swlt_e, swbd_e, swrd_n, swgd_n, nI_clamp, sw8m, sw4m, sw4r, nI_add, nI_1, swsub, swsubn, sw4le, swleI, swltI, sweqI, sweqm, sw0add, if_pos, if_neg, if_true, if_false, sw1n0, sw0n1, eq_self, ↓reduceIte, swL_1, swI_ne]
    · rw [swI_ne (by omega), swI_ne (by omega), gv, hU]
      simp (disch := omega) only [swlt_e, swbd_e, swrd_n, swgd_n, nI_clamp, sw8m, sw4m, sw4r, nI_add, nI_1, swsub, swsubn, sw4le, swleI, swltI, sweqI, sweqm, sw0add, if_pos, if_neg, if_true, if_false, sw1n0, sw0n1, eq_self, ↓reduceIte, swL_1, swI_k, swI_self]
    · rw [swI_ne (by omega), swI_ne (by omega), gv, hU]
      simp (disch := omega) only [swlt_e, swbd_e, swrd_n, swgd_n, nI_clamp, sw8m, sw4m, sw4r, nI_add, nI_1, swsub, swsubn, sw4le, swleI, swltI, sweqI, sweqm, sw0add, if_pos, if_neg, if_true, if_false, sw1n0, sw0n1, eq_self, ↓reduceIte, swL_1, swI_k, swI_self]
    · rw [swI_ne (by omega), swI_ne (by omega), gv, hU]
      simp (disch := omega) only [swlt_e, swbd_e, swrd_n, swgd_n, nI_clamp, sw8m, sw4m, sw4r, nI_add, nI_1, swsub, swsubn, sw4le, swleI, swltI, sweqI, sweqm, sw0add, if_pos, if_neg, if_true, if_false, sw1n0, sw0n1, eq_self, ↓reduceIte, swL_1, swI_k, swI_self]
    · rw [swI_2, swI_2, g2, hU, swL_self]
    · rw [swI_2, swI_2, g2, hU, swL_ne hq]
      rfl
    · rw [swI_ne q1, swI_ne q2, g1 q q4 (by omega) (by omega), hU]
      simp (disch := omega) only [swlt_e, swbd_e, swrd_n, swgd_n, nI_clamp, sw8m, sw4m, sw4r, nI_add, nI_1, swsub, swsubn, sw4le, swleI, swltI, sweqI, sweqm, sw0add, if_pos, if_neg, if_true, if_false, sw1n0, sw0n1, eq_self, ↓reduceIte, swL_1, swI_ne]
    · exact swcD_fr d2 (by simp (disch := omega) only [swlt_e, swbd_e, swrd_n, swgd_n, nI_clamp, sw8m, sw4m, sw4r, nI_add, nI_1, swsub, swsubn, sw4le, swleI, swltI, sweqI, sweqm, sw0add, if_pos, if_neg, if_true, if_false, sw1n0, sw0n1, eq_self, ↓reduceIte, swI_ne]) (fun k hk => by simp (disch := omega) only [swlt_e, swbd_e, swrd_n, swgd_n, nI_clamp, sw8m, sw4m, sw4r, nI_add, nI_1, swsub, swsubn, sw4le, swleI, swltI, sweqI, sweqm, sw0add, if_pos, if_neg, if_true, if_false, sw1n0, sw0n1, eq_self, ↓reduceIte, swI_ne]) (fun k hk o ho => by simp (disch := omega) only [swlt_e, swbd_e, swrd_n, swgd_n, nI_clamp, sw8m, sw4m, sw4r, nI_add, nI_1, swsub, swsubn, sw4le, swleI, swltI, sweqI, sweqm, sw0add, if_pos, if_neg, if_true, if_false, sw1n0, sw0n1, eq_self, ↓reduceIte, swI_ne])
  · have g0 : U2.1 0 = U.1 0 := f2.1 _ (by omega) (by omega) (by omega)
    rw [swI_k (by omega), swI_ne (by omega), g0, hU]
    simp (disch := omega) only [swlt_e, swbd_e, swrd_n, swgd_n, nI_clamp, sw8m, sw4m, sw4r, nI_add, nI_1, swsub, swsubn, sw4le, swleI, swltI, sweqI, sweqm, sw0add, if_pos, if_neg, if_true, if_false, sw1n0, sw0n1, eq_self, ↓reduceIte, swL_1, swI_ne]

theorem srW.mono {ns ns' : Nat} {d : swD} (h : srW ns d) (hn : ns ≤ ns') : srW ns' d := ⟨h.1, fun k hk => by
  obtain ⟨s, hs, e⟩ := h.2.1 k hk
  exact ⟨s, by omega, e⟩, h.2.2⟩
theorem sw_ext {α : Type} (f : Nat → α) (k : Nat) (x : α) : ∃ g : Nat → α, g k = x ∧ ∀ q, q ≠ k → g q = f q := ⟨fun q => if q = k then x else f q, if_pos rfl, fun q hq => if_neg hq⟩
theorem sw_n1 {d : swD} {ns : Nat} (h : srW ns d) (hns : ns ≤ 20) {k : Nat} (hk : k < d.1) : ¬ d.2.1 k = -1 := by
  obtain ⟨s, hs, e⟩ := h.2.1 k hk
  rw [e, sweqm (by omega)]
  exact id
theorem srW_ins {ns p : Nat} {d : swD} (h : srW ns d) (hns : ns ≤ 20) (hp : p ≤ d.1) : srW (ns + 1) (swins d p (nI ns)) := by
  obtain ⟨hn, hs, hi⟩ := h
  have nn : ∀ k, k < d.1 → ¬ d.2.1 k = nI ns := fun k hk => by
    obtain ⟨s, hs, e⟩ := hs k hk
    rw [e, nI_eq (by omega) (by omega)]
    omega
  refine ⟨fun k hk o ho => ?_, fun k hk => ?_, fun j k hj hk he => ?_⟩
  · have hk2 : k < d.1 + 1 := hk
    show 0 ≤ if k < p then d.2.2 k o else if k = p then 0 else d.2.2 (k - 1) o
    by_cases e1 : k < p
    · rw [if_pos e1]
      exact hn k (by omega) o ho
    · by_cases e2 : k = p
      · rw [if_neg e1, if_pos e2]
        decide
      · rw [if_neg e1, if_neg e2]
        exact hn _ (by omega) o ho
  · have hk2 : k < d.1 + 1 := hk
    show ∃ s, s < ns + 1 ∧ (if k < p then d.2.1 k else if k = p then nI ns else d.2.1 (k - 1)) = nI s
    by_cases e1 : k < p
    · rw [if_pos e1]
      obtain ⟨s, q, e⟩ := hs k (by omega)
      exact ⟨s, by omega, e⟩
    · by_cases e2 : k = p
      · rw [if_neg e1, if_pos e2]
        exact ⟨ns, by omega, rfl⟩
      · rw [if_neg e1, if_neg e2]
        obtain ⟨s, q, e⟩ := hs (k - 1) (by omega)
        exact ⟨s, by omega, e⟩
  · have hk2 : k < d.1 + 1 := hk
    have hj2 : j < d.1 + 1 := hj
    have he2 : (if j < p then d.2.1 j else if j = p then nI ns else d.2.1 (j - 1)) = (if k < p then d.2.1 k else if k = p then nI ns else d.2.1 (k - 1)) := he
    by_cases a1 : j < p
    · rw [if_pos a1] at he2
      by_cases e1 : k < p
      · rw [if_pos e1] at he2
        exact hi j k (by omega) (by omega) he2
      · by_cases e2 : k = p
        · rw [if_neg e1, if_pos e2] at he2
          exact absurd he2 (nn j (by omega))
        · rw [if_neg e1, if_neg e2] at he2
          have := hi j (k - 1) (by omega) (by omega) he2
          omega
    · by_cases a2 : j = p
      · rw [if_neg a1, if_pos a2] at he2
        by_cases e1 : k < p
        · rw [if_pos e1] at he2
          exact absurd he2.symm (nn k (by omega))
        · by_cases e2 : k = p
          · omega
          · rw [if_neg e1, if_neg e2] at he2
            exact absurd he2.symm (nn (k - 1) (by omega))
      · rw [if_neg a1, if_neg a2] at he2
        by_cases e1 : k < p
        · rw [if_pos e1] at he2
          have := hi (j - 1) k (by omega) (by omega) he2
          omega
        · by_cases e2 : k = p
          · rw [if_neg e1, if_pos e2] at he2
            exact absurd he2 (nn (j - 1) (by omega))
          · rw [if_neg e1, if_neg e2] at he2
            have := hi (j - 1) (k - 1) (by omega) (by omega) he2
            omega
theorem srW_set {ns p o : Nat} {d : swD} (h : srW ns d) {x : Int32} (hx : ¬ x < 0) : srW ns (swset d p o x) := by
  obtain ⟨hn, hs, hi⟩ := h
  refine ⟨fun k hk i hi => ?_, hs, hi⟩
  show 0 ≤ if k = p ∧ i = o then x else d.2.2 k i
  by_cases e : k = p ∧ i = o
  · rw [if_pos e]
    exact Int32.not_lt.mp hx
  · rw [if_neg e]
    exact hn k hk i hi
theorem srW_rm {ns p : Nat} {d : swD} (h : srW ns d) (hp : p < d.1) : srW ns (swrm d p) := by
  obtain ⟨hn, hs, hi⟩ := h
  have hn1 : (swrm d p).1 = d.1 - 1 := if_pos hp
  have hsk : ∀ k, k < d.1 - 1 → swsk p k < d.1 := fun k hk => by
    unfold swsk
    split <;> omega
  refine ⟨fun k hk i hi => ?_, fun k hk => ?_, fun j k hj hk he => ?_⟩
  · rw [hn1] at hk
    exact hn _ (hsk k hk) i hi
  · rw [hn1] at hk
    exact hs _ (hsk k hk)
  · rw [hn1] at hj hk
    have := hi _ _ (hsk j hj) (hsk k hk) he
    unfold swsk at this
    split at this <;> split at this <;> omega
theorem swcki_1 {α : Type} {ex : Nat → Option α} {k : Int32 → Option α} {n : Nat} {r : Int32} : swcki (some (n + 1, r)) ex k = ex (n + 1) := rfl
theorem swcki_0 {α : Type} {ex : Nat → Option α} {k : Int32 → Option α} {r : Int32} : swcki (some (0, r)) ex k = k r := rfl
/-! ===== THE MERGED DECK, on both sides ===== -/
def swAp (X : swD) (s : Int32) (vals : Nat → Int32) : swD := (X.1 + 1, fun k => if k = X.1 then s else X.2.1 k, fun k o => if k = X.1 then vals o else X.2.2 k o)
def swMA (O A B : swD) (t : Bool) : Nat → swD
  | 0 => (0, fun _ => 0, fun _ _ => 0)
  | k + 1 => if swKP O A B (A.2.1 k) t = true then swAp (swMA O A B t k) (A.2.1 k) (fun j => swKV O A B (A.2.1 k) j t) else swMA O A B t k
def swMB (O A B : swD) (t : Bool) : Nat → swD
  | 0 => swMA O A B t A.1
  | k + 1 => if swhas A (B.2.1 k) = true then swMB O A B t k else if swKP O A B (B.2.1 k) t = true then swAp (swMB O A B t k) (B.2.1 k) (fun j => swKV O A B (B.2.1 k) j t) else swMB O A B t k
theorem swMA_n (O A B : swD) (t : Bool) : ∀ k, (swMA O A B t k).1 = sw_cnt k (fun i => swKP O A B (A.2.1 i) t) := by
  intro k
  induction k with
  | zero => rfl
  | succ k ih =>
    show (if swKP O A B (A.2.1 k) t = true then swAp (swMA O A B t k) (A.2.1 k) (fun j => swKV O A B (A.2.1 k) j t) else swMA O A B t k).1 = sw_cnt k (fun i => swKP O A B (A.2.1 i) t) + (if swKP O A B (A.2.1 k) t = true then 1 else 0)
    by_cases h : swKP O A B (A.2.1 k) t = true
    · rw [if_pos h, if_pos h, ← ih]
      rfl
    · rw [if_neg h, if_neg h, ← ih]
      rfl
theorem swMB_n (O A B : swD) (t : Bool) : ∀ k, (swMB O A B t k).1 = (swMA O A B t A.1).1 + sw_cnt k (fun i => !swhas A (B.2.1 i) && swKP O A B (B.2.1 i) t) := by
  intro k
  induction k with
  | zero => rfl
  | succ k ih =>
    show (if swhas A (B.2.1 k) = true then swMB O A B t k else if swKP O A B (B.2.1 k) t = true then swAp (swMB O A B t k) (B.2.1 k) (fun j => swKV O A B (B.2.1 k) j t) else swMB O A B t k).1 = (swMA O A B t A.1).1 + (sw_cnt k (fun i => !swhas A (B.2.1 i) && swKP O A B (B.2.1 i) t) + (if (!swhas A (B.2.1 k) && swKP O A B (B.2.1 k) t) = true then 1 else 0))
    cases h : swhas A (B.2.1 k)
    · cases h2 : swKP O A B (B.2.1 k) t
      · simp [ih]
      · simp [swAp, ih, Nat.add_assoc]
    · simp [ih]
theorem sw_cnt_mono (p : Nat → Bool) : ∀ {a b : Nat}, a ≤ b → sw_cnt a p ≤ sw_cnt b p := by
  intro a b h
  obtain ⟨c, rfl⟩ : ∃ c, b = a + c := ⟨b - a, by omega⟩
  rw [sw_cnt_split]
  omega
theorem swMA_le (O A B : swD) (t : Bool) {a b : Nat} (h : a ≤ b) : (swMA O A B t a).1 ≤ (swMA O A B t b).1 := by
  rw [swMA_n, swMA_n]
  exact sw_cnt_mono _ h
theorem swMB_le (O A B : swD) (t : Bool) {a b : Nat} (h : a ≤ b) : (swMB O A B t a).1 ≤ (swMB O A B t b).1 := by
  rw [swMB_n, swMB_n]
  have := sw_cnt_mono (fun i => !swhas A (B.2.1 i) && swKP O A B (B.2.1 i) t) h
  omega
theorem swKP_has {O A B : swD} {s : Int32} {t : Bool} (h : swKP O A B s t = true) : swhas A s = true ∨ swhas B s = true := by
  unfold swKP at h
  cases h1 : swhas A s
  · cases h2 : swhas B s
    · rw [h1, h2] at h
      simp at h
    · exact Or.inr rfl
  · exact Or.inl rfl
theorem swKV_nn {O A B : swD} {s : Int32} {t : Bool} (h : swKP O A B s t = true) (nA : swnn A) (nB : swnn B) {j : Nat} (hj : j < 4) : 0 ≤ swKV O A B s j t := by
  unfold swKV
  cases h2 : swhas B s
  · rw [if_pos rfl]
    have h1 : swhas A s = true := by
      rcases swKP_has h with z | z
      · exact z
      · rw [h2] at z
        cases z
    unfold swVO
    rw [if_pos h1]
    exact swnn_v nA h1 hj
  · rw [if_neg (by simp)]
    cases h1 : swhas A s
    · rw [if_pos rfl]
      unfold swVO
      rw [if_pos h2]
      exact swnn_v nB h2 hj
    · rw [if_neg (by simp)]
      have a := swnn_v nA h1 hj
      have b := swnn_v nB h2 hj
      split
      · split
        · exact b
        · exact a
      · split
        · exact b
        · exact a
theorem sw_cnt_one {p q : Nat → Bool} {s0 N : Nat} (h : ∀ s, s < N → s ≠ s0 → q s = p s) (h0 : p s0 = false) : ∀ n, n ≤ N → s0 < n → sw_cnt n q = sw_cnt n p + (if q s0 = true then 1 else 0) := by
  intro n
  induction n with
  | zero => intro _ z; exact absurd z (Nat.not_lt_zero _)
  | succ n ih =>
    intro hN hn
    show sw_cnt n q + (if q n = true then 1 else 0) = sw_cnt n p + (if p n = true then 1 else 0) + (if q s0 = true then 1 else 0)
    by_cases e : n = s0
    · subst e
      rw [sw_cnt_cong n (fun k hk => h k (by omega) (by omega)), h0]
      simp
    · rw [ih (by omega) (by omega), h n (by omega) e]
      omega
theorem swhas_any (d : swD) (s : Int32) : swhas d s = sw_any d.1 (fun k => decide (d.2.1 k = s)) := (sw_any_fst _ _).symm
theorem sw_cnt_deck {ns : Nat} {d : swD} (h : srW ns d) (hns : ns ≤ 20) (q : Int32 → Bool) : ∀ n, n ≤ d.1 → sw_cnt ns (fun s => sw_any n (fun k => decide (d.2.1 k = nI s)) && q (nI s)) = sw_cnt n (fun k => q (d.2.1 k)) := by
  intro n
  induction n with
  | zero =>
    intro _
    exact sw_cnt_no ns fun k _ => rfl
  | succ n ih =>
    intro hn
    obtain ⟨s0, hs0, e0⟩ := h.2.1 n (by omega)
    have h1 : sw_cnt ns (fun s => sw_any (n + 1) (fun k => decide (d.2.1 k = nI s)) && q (nI s)) = sw_cnt ns (fun s => sw_any n (fun k => decide (d.2.1 k = nI s)) && q (nI s)) + (if (sw_any (n + 1) (fun k => decide (d.2.1 k = nI s0)) && q (nI s0)) = true then 1 else 0) := by
      have hno : sw_any n (fun k => decide (d.2.1 k = nI s0)) = false := by
        cases ha : sw_any n (fun k => decide (d.2.1 k = nI s0))
        · rfl
        · obtain ⟨k, hk, hp⟩ := (sw_any_iff _ _).mp ha
          have := h.2.2 k n (by omega) (by omega) ((of_decide_eq_true hp).trans e0.symm)
          omega
      by_cases hlt : s0 < ns
      · refine sw_cnt_one (s0 := s0) (N := ns) (fun s hsn hs => ?_) ?_ ns (Nat.le_refl _) hlt
        · show ((sw_any n (fun k => decide (d.2.1 k = nI s)) || decide (d.2.1 n = nI s)) && q (nI s)) = _
          have : ¬ d.2.1 n = nI s := by
            rw [e0, nI_eq (by omega) (by omega)]
            exact fun z => hs z.symm
          rw [decide_eq_false this, Bool.or_false]
        · rw [hno, Bool.false_and]
      · exact absurd hs0 hlt
    rw [h1, ih (by omega)]
    show _ = sw_cnt n (fun k => q (d.2.1 k)) + (if q (d.2.1 n) = true then 1 else 0)
    have : sw_any (n + 1) (fun k => decide (d.2.1 k = nI s0)) = true := (sw_any_iff _ _).mpr ⟨n, by omega, decide_eq_true e0⟩
    rw [this, Bool.true_and, e0]
theorem sw_cnt_add {p q r : Nat → Bool} : ∀ n, (∀ k, k < n → (if r k = true then 1 else 0) = (if p k = true then 1 else 0) + (if q k = true then 1 else 0)) → sw_cnt n r = sw_cnt n p + sw_cnt n q := by
  intro n
  induction n with
  | zero => intro _; rfl
  | succ n ih =>
    intro h
    show sw_cnt n r + (if r n = true then 1 else 0) = sw_cnt n p + (if p n = true then 1 else 0) + (sw_cnt n q + (if q n = true then 1 else 0))
    rw [ih (fun k hk => h k (by omega)), h n (by omega)]
    omega
theorem swMM_n {ns : Nat} {O A B : swD} (hA : srW ns A) (hB : srW ns B) (hns : ns ≤ 20) (t : Bool) : sw_cnt ns (fun s => swKP O A B (nI s) t) = (swMB O A B t B.1).1 := by
  rw [swMB_n, swMA_n]
  have e1 := sw_cnt_deck hA hns (fun s => swKP O A B s t) A.1 (Nat.le_refl _)
  have e2 := sw_cnt_deck hB hns (fun s => !swhas A s && swKP O A B s t) B.1 (Nat.le_refl _)
  rw [← e1, ← e2]
  refine sw_cnt_add ns fun k hk => ?_
  have g1 : sw_any A.1 (fun i => decide (A.2.1 i = nI k)) = swhas A (nI k) := (swhas_any A (nI k)).symm
  have g2 : sw_any B.1 (fun i => decide (B.2.1 i = nI k)) = swhas B (nI k) := (swhas_any B (nI k)).symm
  rw [g1, g2]
  cases h : swKP O A B (nI k) t
  · simp
  · rcases swKP_has h with z | z
    · simp [z]
    · cases z2 : swhas A (nI k) <;> simp [z]
/-! the class fills its trial deck -/
theorem swcD_F {c c2 : Nat} {u u' : swU} {d : swD} (h : swcD u c d) (hf : swcF c2 u u') (h1 : 200 ≤ c ∧ c ≤ 240) (h2 : 200 ≤ c2 ∧ c2 ≤ 240) (hne : c ≠ c2) : swcD u' c d := swcD_fr h (by rw [hf.1 c (by omega) (by omega) (by omega)]) (fun _ _ => by rw [hf.1 (c + 100) (by omega) (by omega) (by omega)]) (fun _ _ _ _ => by rw [hf.1 (c + 200) (by omega) (by omega) (by omega)])
theorem pc_append {u : swU} {co ca cb : Nat} {O A B : swD} (hO : swcD u co O) (hA : swcD u ca A) (hB : swcD u cb B) (kO : 200 ≤ co ∧ co < 240) (kA : 200 ≤ ca ∧ ca < 240) (kB : 200 ≤ cb ∧ cb < 240) {x s : Int32} {t : Bool} (ht : (x = 1) = (t = true)) {X : swD} (hX : swcD u 240 X) (hn : X.1 < 8) : ∃ u', xx1_append u co ca cb 240 s x = some u' ∧ swcF 240 u u' ∧ swcD u' 240 (swAp X s (fun j => swKV O A B s j t)) := by
  obtain ⟨u1, e1, f1, d1⟩ := pc_insert hX hn (Nat.le_refl X.1) s
  obtain ⟨z, hz, g, hg⟩ := sw_upS (σ := swU) (fun f o v => xx1_append_L16 co ca cb 240 s x (nI X.1) (fun v5 w44 => some w44) f (nI o) v) (fun o v => sw4s 440 (4 * X.1) (fun j => swKV O A B s j t) o u1 v) 4 u1 (sw4s.zero _ _ _ _) (by
    intro f o v ho hI
    refine ⟨_, hI.step, ?_⟩
    show xx1_append_L16 co ca cb 240 s x (nI X.1) _ (f + 1) (nI o) v = xx1_append_L16 co ca cb 240 s x (nI X.1) _ f (nI (o + 1)) _
    have hF : swcF 240 u v := f1.tr ⟨fun q _ _ q3 => hI.1 q q3, hI.2.2.2⟩
    have hk := pc_KV (swcD_F hO hF (by omega) (by omega) (by omega)) (swcD_F hA hF (by omega) (by omega) (by omega)) (swcD_F hB hF (by omega) (by omega) (by omega)) s ho x t ht
    rw [xx1_append_L16]
    simp (disch := omega) only [swlt_e, swbd_e, swrd_n, swgd_n, nI_clamp, sw8m, sw4m, sw4r, nI_add, nI_1, swsub, swsubn, sw4le, swleI, swltI, sweqI, sweqm, sw0add, if_pos, if_neg, if_true, if_false, sw1n0, sw0n1, eq_self, ↓reduceIte, hk, pc_put]) (by omega)
  obtain ⟨a, b, y1, y2⟩ := hz
  refine ⟨z, ?_, f1.tr ⟨fun q _ _ q3 => a q q3, y2⟩, ?_⟩
  · unfold xx1_append
    rw [swlt_e, hX.2.1, e1, swbd_e]
    refine Eq.trans hg ?_
    show xx1_append_L16 co ca cb 240 s x (nI X.1) _ (g + 1) (nI 4) z = _
    rw [xx1_append_L16]
    simp (disch := omega) only [swlt_e, swbd_e, swrd_n, swgd_n, nI_clamp, sw8m, sw4m, sw4r, nI_add, nI_1, swsub, swsubn, sw4le, swleI, swltI, sweqI, sweqm, sw0add, if_pos, if_neg, if_true, if_false, sw1n0, sw0n1, eq_self, ↓reduceIte]
  · obtain ⟨d8, dn, dr, dv⟩ := d1
    refine ⟨by show X.1 + 1 ≤ 8; omega, by rw [a 240 (by omega)]; exact dn, fun k hk => ?_, fun k hk o ho => ?_⟩
    · have hk2 : k < X.1 + 1 := hk
      rw [a (240 + 100) (by omega), dr k hk]
      show (if k < X.1 then X.2.1 k else if k = X.1 then s else X.2.1 (k - 1)) = if k = X.1 then s else X.2.1 k
      by_cases e : k = X.1
      · rw [if_neg (by omega), if_pos e, if_pos e]
      · rw [if_pos (by omega), if_neg e]
    · have hk2 : k < X.1 + 1 := hk
      show z.1 440 (4 * k + o) = if k = X.1 then swKV O A B s o t else X.2.2 k o
      by_cases e : k = X.1
      · rw [if_pos e, e]
        exact b o ho
      · rw [if_neg e, y1 _ (by omega)]
        have := dv k hk o ho
        rw [show u1.1 440 (4 * k + o) = u1.1 (240 + 200) (4 * k + o) from rfl, this]
        show (if k < X.1 then X.2.2 k o else if k = X.1 then 0 else X.2.2 (k - 1) o) = _
        rw [if_pos (by omega)]
theorem pc_fill {u : swU} {co ca cb : Nat} {O A B : swD} (hO : swcD u co O) (hA : swcD u ca A) (hB : swcD u cb B) (kO : 200 ≤ co ∧ co < 240) (kA : 200 ≤ ca ∧ ca < 240) (kB : 200 ≤ cb ∧ cb < 240) {x : Int32} {t : Bool} (ht : (x = 1) = (t = true)) (hM : (swMB O A B t B.1).1 ≤ 8) : ∃ u', xx1_fill u co ca cb 240 x = some u' ∧ swcF 240 u u' ∧ swcD u' 240 (swMB O A B t B.1) := by
  have hA8 := hA.1
  have hB8 := hB.1
  have hMA : ∀ k, k ≤ A.1 → (swMA O A B t k).1 ≤ 8 := fun k hk => by
    have q1 := swMA_le O A B t hk
    have q2 : (swMA O A B t A.1).1 ≤ (swMB O A B t B.1).1 := swMB_le O A B t (Nat.zero_le B.1)
    omega
  have F0 : swcF 240 u (swI u 240 2 0) := ⟨fun q q1 _ _ => swI_ne q1, rfl⟩
  obtain ⟨s, ⟨f1, d1⟩, g, hg⟩ := sw_upS (σ := swU) (fun f k v => xx1_fill_L7 co ca cb 240 x (fun v3 w53 => xx1_fill_L55 co ca cb 240 x (fun v3 w113 => some w113) 64 0 w53) f (nI k) v) (fun k v => swcF 240 u v ∧ swcD v 240 (swMA O A B t k)) A.1 (swI u 240 2 0) ⟨F0, Nat.zero_le _, swI_self, fun k hk => absurd hk (Nat.not_lt_zero k), fun k hk => absurd hk (Nat.not_lt_zero k)⟩ (by
    intro f k v hk hI
    obtain ⟨hF, hD⟩ := hI
    have dO := swcD_F hO hF (by omega) (by omega) (by omega)
    have dA := swcD_F hA hF (by omega) (by omega) (by omega)
    have dB := swcD_F hB hF (by omega) (by omega) (by omega)
    have hkp := pc_KP dO dA dB (A.2.1 k) x t ht
    have hA1 := dA.2.1
    have hAr := dA.2.2.1 k hk
    have hn1 := hMA (k + 1) (by omega)
    cases hp : swKP O A B (A.2.1 k) t
    · have e : swMA O A B t (k + 1) = swMA O A B t k := if_neg (by rw [hp]; simp)
      refine ⟨v, ⟨hF, by rw [e]; exact hD⟩, ?_⟩
      show xx1_fill_L7 co ca cb 240 x _ (f + 1) (nI k) v = xx1_fill_L7 co ca cb 240 x _ f (nI (k + 1)) v
      rw [xx1_fill_L7]
      simp (disch := omega) only [swlt_e, swbd_e, swrd_n, swgd_n, nI_clamp, sw8m, sw4m, sw4r, nI_add, nI_1, swsub, swsubn, sw4le, swleI, swltI, sweqI, sweqm, sw0add, if_pos, if_neg, if_true, if_false, sw1n0, sw0n1, eq_self, ↓reduceIte, hA1, hAr, hkp, hp]
    · have e : swMA O A B t (k + 1) = swAp (swMA O A B t k) (A.2.1 k) (fun j => swKV O A B (A.2.1 k) j t) := if_pos hp
      have hn : (swMA O A B t k).1 < 8 := by
        have : (swMA O A B t (k + 1)).1 = (swMA O A B t k).1 + 1 := by rw [e]; rfl
        omega
      obtain ⟨v', e1, e2, e3⟩ := pc_append dO dA dB kO kA kB (s := A.2.1 k) ht hD hn
      refine ⟨v', ⟨hF.tr e2, by rw [e]; exact e3⟩, ?_⟩
      show xx1_fill_L7 co ca cb 240 x _ (f + 1) (nI k) v = xx1_fill_L7 co ca cb 240 x _ f (nI (k + 1)) v'
      rw [xx1_fill_L7]
      simp (disch := omega) only [swlt_e, swbd_e, swrd_n, swgd_n, nI_clamp, sw8m, sw4m, sw4r, nI_add, nI_1, swsub, swsubn, sw4le, swleI, swltI, sweqI, sweqm, sw0add, if_pos, if_neg, if_true, if_false, sw1n0, sw0n1, eq_self, ↓reduceIte, hA1, hAr, hkp, hp, e1]) (by omega)
  obtain ⟨z, ⟨f2, d2⟩, g2, hg2⟩ := sw_upS (σ := swU) (fun f k v => xx1_fill_L55 co ca cb 240 x (fun v3 w113 => some w113) f (nI k) v) (fun k v => swcF 240 u v ∧ swcD v 240 (swMB O A B t k)) B.1 s ⟨f1, d1⟩ (by
    intro f k v hk hI
    obtain ⟨hF, hD⟩ := hI
    have dO := swcD_F hO hF (by omega) (by omega) (by omega)
    have dA := swcD_F hA hF (by omega) (by omega) (by omega)
    have dB := swcD_F hB hF (by omega) (by omega) (by omega)
    have hkp := pc_KP dO dA dB (B.2.1 k) x t ht
    have hha := pc_has dA (B.2.1 k)
    have hB1 := dB.2.1
    have hBr := dB.2.2.1 k hk
    have hn1 := swMB_le O A B t (show k + 1 ≤ B.1 by omega)
    have e0 : swMB O A B t (k + 1) = if swhas A (B.2.1 k) = true then swMB O A B t k else if swKP O A B (B.2.1 k) t = true then swAp (swMB O A B t k) (B.2.1 k) (fun j => swKV O A B (B.2.1 k) j t) else swMB O A B t k := rfl
    cases hh : swhas A (B.2.1 k)
    case true =>
      rw [hh, if_pos rfl] at e0
      refine ⟨v, ⟨hF, by rw [e0]; exact hD⟩, ?_⟩
      show xx1_fill_L55 co ca cb 240 x _ (f + 1) (nI k) v = xx1_fill_L55 co ca cb 240 x _ f (nI (k + 1)) v
      rw [xx1_fill_L55]
      simp (disch := omega) only [swlt_e, swbd_e, swrd_n, swgd_n, nI_clamp, sw8m, sw4m, sw4r, nI_add, nI_1, swsub, swsubn, sw4le, swleI, swltI, sweqI, sweqm, sw0add, if_pos, if_neg, if_true, if_false, sw1n0, sw0n1, eq_self, ↓reduceIte, hB1, hBr, hha, hh]
    case false =>
      rw [hh, if_neg (by simp)] at e0
      cases hp : swKP O A B (B.2.1 k) t
      · rw [hp, if_neg (by simp)] at e0
        refine ⟨v, ⟨hF, by rw [e0]; exact hD⟩, ?_⟩
        show xx1_fill_L55 co ca cb 240 x _ (f + 1) (nI k) v = xx1_fill_L55 co ca cb 240 x _ f (nI (k + 1)) v
        rw [xx1_fill_L55]
        simp (disch := omega) only [swlt_e, swbd_e, swrd_n, swgd_n, nI_clamp, sw8m, sw4m, sw4r, nI_add, nI_1, swsub, swsubn, sw4le, swleI, swltI, sweqI, sweqm, sw0add, if_pos, if_neg, if_true, if_false, sw1n0, sw0n1, eq_self, ↓reduceIte, hB1, hBr, hha, hh, hkp, hp]
      · rw [hp, if_pos rfl] at e0
        have hn : (swMB O A B t k).1 < 8 := by
          have : (swMB O A B t (k + 1)).1 = (swMB O A B t k).1 + 1 := by rw [e0]; rfl
          omega
        obtain ⟨v', e1, e2, e3⟩ := pc_append dO dA dB kO kA kB (s := B.2.1 k) ht hD hn
        refine ⟨v', ⟨hF.tr e2, by rw [e0]; exact e3⟩, ?_⟩
        show xx1_fill_L55 co ca cb 240 x _ (f + 1) (nI k) v = xx1_fill_L55 co ca cb 240 x _ f (nI (k + 1)) v'
        rw [xx1_fill_L55]
        simp (disch := omega) only [swlt_e, swbd_e, swrd_n, swgd_n, nI_clamp, sw8m, sw4m, sw4r, nI_add, nI_1, swsub, swsubn, sw4le, swleI, swltI, sweqI, sweqm, sw0add, if_pos, if_neg, if_true, if_false, sw1n0, sw0n1, eq_self, ↓reduceIte, hB1, hBr, hha, hh, hkp, hp, e1]) (by omega)
  refine ⟨z, ?_, f2, d2⟩
  unfold xx1_fill
  rw [swlt_e]
  refine Eq.trans hg ?_
  show xx1_fill_L7 co ca cb 240 x _ (g + 1) (nI A.1) s = _
  have hs1 := (swcD_F hA f1 (by omega) (by omega) (by omega)).2.1
  have hz1 := (swcD_F hB f2 (by omega) (by omega) (by omega)).2.1
  rw [xx1_fill_L7]
  simp (disch := omega) only [swlt_e, swbd_e, swrd_n, swgd_n, nI_clamp, sw8m, sw4m, sw4r, nI_add, nI_1, swsub, swsubn, sw4le, swleI, swltI, sweqI, sweqm, sw0add, if_pos, if_neg, if_true, if_false, sw1n0, sw0n1, eq_self, ↓reduceIte, hs1]
  refine Eq.trans hg2 ?_
  show xx1_fill_L55 co ca cb 240 x _ (g2 + 1) (nI B.1) z = _
  rw [xx1_fill_L55]
  simp (disch := omega) only [swlt_e, swbd_e, swrd_n, swgd_n, nI_clamp, sw8m, sw4m, sw4r, nI_add, nI_1, swsub, swsubn, sw4le, swleI, swltI, sweqI, sweqm, sw0add, if_pos, if_neg, if_true, if_false, sw1n0, sw0n1, eq_self, ↓reduceIte, hz1]

theorem swMA_16 (O A B : swD) (t : Bool) (hA : A.1 ≤ 8) {k : Nat} (hk : k ≤ A.1) : (swMA O A B t k).1 ≤ k := by
  rw [swMA_n]
  exact sw_cnt_le _ _
theorem swMB_16 (O A B : swD) (t : Bool) (hA : A.1 ≤ 8) {k : Nat} (hk : k ≤ B.1) : (swMB O A B t k).1 ≤ A.1 + k := by
  rw [swMB_n, swMA_n]
  have q1 := sw_cnt_le (fun i => swKP O A B (A.2.1 i) t) A.1
  have q2 := sw_cnt_le (fun i => !swhas A (B.2.1 i) && swKP O A B (B.2.1 i) t) k
  omega
theorem swB0a : ((swB true) = 0) = False := sw1n0
/-! ===== merge ===== -/
theorem sw0m1 : ((0 : Int32) = -1) = False := propext ⟨fun h => absurd h (by decide), fun h => h.elim⟩
theorem sw1m1 : ((1 : Int32) = -1) = False := propext ⟨fun h => absurd h (by decide), fun h => h.elim⟩
theorem swm10 : ((-1 : Int32) = 0) = False := propext ⟨fun h => absurd h (by decide), fun h => h.elim⟩
theorem swm11 : ((-1 : Int32) = 1) = False := propext ⟨fun h => absurd h (by decide), fun h => h.elim⟩
theorem swRl_tr {u u' : swU} {w : lyU} {nv nb ns : Nat} {hd : Nat → Nat} {sh mo cm ot : Nat → Int32} {am : Nat → Nat} {dk : Nat → swD} {E : swEv} (h1 : sr1 nv u w) (h2 : sr2 nb u w) (h3 : sr3 ns u w) (h4 : sr4 nv nb hd u w) (h5 : sr5 nv sh u w) (h6 : sr6 nv mo cm ot am u w) (h7 : sr7 nv ns dk u w) (h8 : sr8 E u w) (hf : swcF 240 u u') : sr1 nv u' w ∧ sr2 nb u' w ∧ sr3 ns u' w ∧ sr4 nv nb hd u' w ∧ sr5 nv sh u' w ∧ sr6 nv mo cm ot am u' w ∧ sr7 nv ns dk u' w ∧ sr8 E u' w := by
  obtain ⟨f1, f2⟩ := hf
  have g := fun q (hq : q < 240) => f1 q (by omega) (by omega) (by omega)
  have h40 := h1.2.1
  refine ⟨?_, ?_, ?_, fun b hb => ?_, fun b hb => ?_, fun v hv => ?_, fun v hv => ?_, ?_⟩
  · unfold sr1
    rw [g 0 (by omega)]
    exact h1
  · unfold sr2
    rw [g 0 (by omega)]
    exact h2
  · unfold sr3
    rw [g 0 (by omega)]
    exact h3
  · rw [g 1 (by omega)]
    exact h4 b hb
  · rw [g 2 (by omega)]
    exact h5 b hb
  · rw [g (100 + v) (by omega), f2]
    exact h6 v hv
  · obtain ⟨a1, a2, a3⟩ := h7 v hv
    exact ⟨swcD_F a1 ⟨f1, f2⟩ (by omega) (by omega) (by omega), a2, a3⟩
  · exact ⟨swcE_fe h8.1 (by rw [g 0 (by omega)]) (by rw [g 0 (by omega)]) (by rw [g 0 (by omega)]) (fun c _ c2 => g c (by omega)), h8.2⟩
theorem srW_0 (ns : Nat) (r : Nat → Int32) (v : Nat → Nat → Int32) : srW ns (0, r, v) := ⟨fun k hk => absurd hk (Nat.not_lt_zero k), fun k hk => absurd hk (Nat.not_lt_zero k), fun j k hj => absurd hj (Nat.not_lt_zero j)⟩
theorem srW_ap {ns : Nat} {X : swD} (h : srW ns X) {s : Int32} {vals : Nat → Int32} (hs : ∃ q, q < ns ∧ s = nI q) (hno : ∀ k, k < X.1 → ¬ X.2.1 k = s) (hv : ∀ j, j < 4 → 0 ≤ vals j) : srW ns (swAp X s vals) := by
  obtain ⟨hn, hs2, hi⟩ := h
  refine ⟨fun k hk o ho => ?_, fun k hk => ?_, fun j k hj hk he => ?_⟩
  · have hk2 : k < X.1 + 1 := hk
    show 0 ≤ if k = X.1 then vals o else X.2.2 k o
    by_cases e : k = X.1
    · rw [if_pos e]
      exact hv o ho
    · rw [if_neg e]
      exact hn k (by omega) o ho
  · have hk2 : k < X.1 + 1 := hk
    show ∃ q, q < ns ∧ (if k = X.1 then s else X.2.1 k) = nI q
    by_cases e : k = X.1
    · rw [if_pos e]
      exact hs
    · rw [if_neg e]
      exact hs2 k (by omega)
  · have hk2 : k < X.1 + 1 := hk
    have hj2 : j < X.1 + 1 := hj
    have he2 : (if j = X.1 then s else X.2.1 j) = (if k = X.1 then s else X.2.1 k) := he
    by_cases e1 : j = X.1
    · by_cases e2 : k = X.1
      · omega
      · rw [if_pos e1, if_neg e2] at he2
        exact absurd he2.symm (hno k (by omega))
    · by_cases e2 : k = X.1
      · rw [if_neg e1, if_pos e2] at he2
        exact absurd he2 (hno j (by omega))
      · rw [if_neg e1, if_neg e2] at he2
        exact hi j k (by omega) (by omega) he2
theorem swMA_W {ns : Nat} {O A B : swD} (hA : srW ns A) (hB : srW ns B) (t : Bool) : ∀ k, k ≤ A.1 → srW ns (swMA O A B t k) ∧ ∀ i, i < (swMA O A B t k).1 → ∃ j, j < k ∧ (swMA O A B t k).2.1 i = A.2.1 j := by
  intro k
  induction k with
  | zero => intro _; exact ⟨srW_0 ns _ _, fun i hi => absurd hi (Nat.not_lt_zero i)⟩
  | succ k ih =>
    intro hk
    obtain ⟨i1, i2⟩ := ih (by omega)
    by_cases hp : swKP O A B (A.2.1 k) t = true
    · have e : swMA O A B t (k + 1) = swAp (swMA O A B t k) (A.2.1 k) (fun j => swKV O A B (A.2.1 k) j t) := if_pos hp
      rw [e]
      refine ⟨srW_ap i1 (hA.2.1 k (by omega)) (fun i hi z => ?_) (fun j hj => swKV_nn hp hA.1 hB.1 hj), fun i hi => ?_⟩
      · obtain ⟨j, hj, ej⟩ := i2 i hi
        have := hA.2.2 j k (by omega) (by omega) (ej.symm.trans z)
        omega
      · have hi2 : i < (swMA O A B t k).1 + 1 := hi
        show ∃ j, j < k + 1 ∧ (if i = (swMA O A B t k).1 then A.2.1 k else (swMA O A B t k).2.1 i) = A.2.1 j
        by_cases e2 : i = (swMA O A B t k).1
        · rw [if_pos e2]
          exact ⟨k, by omega, rfl⟩
        · rw [if_neg e2]
          obtain ⟨j, hj, ej⟩ := i2 i (by omega)
          exact ⟨j, by omega, ej⟩
    · have e : swMA O A B t (k + 1) = swMA O A B t k := if_neg hp
      rw [e]
      exact ⟨i1, fun i hi => by
        obtain ⟨j, hj, ej⟩ := i2 i hi
        exact ⟨j, by omega, ej⟩⟩
theorem swhas_row {d : swD} {j : Nat} (hj : j < d.1) : swhas d (d.2.1 j) = true := by
  rw [swhas_any]
  exact (sw_any_iff _ _).mpr ⟨j, hj, decide_eq_true rfl⟩
theorem swMB_W {ns : Nat} {O A B : swD} (hA : srW ns A) (hB : srW ns B) (t : Bool) : ∀ k, k ≤ B.1 → srW ns (swMB O A B t k) ∧ ∀ i, i < (swMB O A B t k).1 → (∃ j, j < A.1 ∧ (swMB O A B t k).2.1 i = A.2.1 j) ∨ ∃ j, j < k ∧ (swMB O A B t k).2.1 i = B.2.1 j := by
  intro k
  induction k with
  | zero =>
    intro _
    obtain ⟨i1, i2⟩ := swMA_W (O := O) hA hB t A.1 (Nat.le_refl _)
    exact ⟨i1, fun i hi => Or.inl (i2 i hi)⟩
  | succ k ih =>
    intro hk
    obtain ⟨i1, i2⟩ := ih (by omega)
    have keep : srW ns (swMB O A B t k) ∧ ∀ i, i < (swMB O A B t k).1 → (∃ j, j < A.1 ∧ (swMB O A B t k).2.1 i = A.2.1 j) ∨ ∃ j, j < k + 1 ∧ (swMB O A B t k).2.1 i = B.2.1 j := ⟨i1, fun i hi => (i2 i hi).imp id fun ⟨j, hj, ej⟩ => ⟨j, by omega, ej⟩⟩
    have e0 : swMB O A B t (k + 1) = if swhas A (B.2.1 k) = true then swMB O A B t k else if swKP O A B (B.2.1 k) t = true then swAp (swMB O A B t k) (B.2.1 k) (fun j => swKV O A B (B.2.1 k) j t) else swMB O A B t k := rfl
    by_cases hh : swhas A (B.2.1 k) = true
    · rw [if_pos hh] at e0
      rw [e0]
      exact keep
    · by_cases hp : swKP O A B (B.2.1 k) t = true
      · rw [if_neg hh, if_pos hp] at e0
        rw [e0]
        refine ⟨srW_ap i1 (hB.2.1 k (by omega)) (fun i hi z => ?_) (fun j hj => swKV_nn hp hA.1 hB.1 hj), fun i hi => ?_⟩
        · rcases i2 i hi with ⟨j, hj, ej⟩ | ⟨j, hj, ej⟩
          · rw [← z, ej, swhas_row hj] at hh
            exact hh rfl
          · have := hB.2.2 j k (by omega) (by omega) (ej.symm.trans z)
            omega
        · have hi2 : i < (swMB O A B t k).1 + 1 := hi
          show (∃ j, j < A.1 ∧ (if i = (swMB O A B t k).1 then B.2.1 k else (swMB O A B t k).2.1 i) = A.2.1 j) ∨ ∃ j, j < k + 1 ∧ (if i = (swMB O A B t k).1 then B.2.1 k else (swMB O A B t k).2.1 i) = B.2.1 j
          by_cases e2 : i = (swMB O A B t k).1
          · rw [if_pos e2]
            exact Or.inr ⟨k, by omega, rfl⟩
          · rw [if_neg e2]
            exact keep.2 i (by omega)
      · rw [if_neg hh, if_neg hp] at e0
        rw [e0]
        exact keep
theorem swMV.from240 {nv b hb : Nat} {x2 : Int32} {m : Nat} {d : swD} {u u' : swU} (h40 : nv < 40) (h : swMV nv b hb x2 m d u u') {X : swD} (hX : swcD u 240 X) : swcD u' 240 X := by
  have v10 := h.2.2.2.2.2.2.2.2.2.1
  exact swcD_fr hX (by rw [v10 240 (by omega) (by omega) (by omega) (by omega) (by omega) (by omega)]) (fun _ _ => by rw [v10 (240 + 100) (by omega) (by omega) (by omega) (by omega) (by omega) (by omega)]) (fun _ _ _ _ => by rw [v10 (240 + 200) (by omega) (by omega) (by omega) (by omega) (by omega) (by omega)])
