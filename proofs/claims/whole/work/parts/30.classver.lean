/-! ===== NEW VERSIONS, on the class's side ===== -/
def sw4s (Q T : Nat) (src : Nat → Int32) (n : Nat) (s0 s : swU) : Prop := (∀ q, q ≠ Q → s.1 q = s0.1 q) ∧ (∀ j, j < n → s.1 Q (T + j) = src j) ∧ (∀ i, (i < T ∨ T + n ≤ i) → s.1 Q i = s0.1 Q i) ∧ s.2 = s0.2
theorem sw4s.zero (Q T : Nat) (src : Nat → Int32) (s : swU) : sw4s Q T src 0 s s := ⟨fun _ _ => rfl, fun j h => absurd h (Nat.not_lt_zero j), fun _ _ => rfl, rfl⟩
theorem sw4s.step {Q T n : Nat} {src : Nat → Int32} {s0 s : swU} (h : sw4s Q T src n s0 s) : sw4s Q T src (n + 1) s0 (swI s Q (T + n) (src n)) := by
  obtain ⟨a, b, c, d⟩ := h
  refine ⟨fun q hq => (swI_ne hq).trans (a q hq), fun j hj => ?_, fun i hi => ?_, d⟩
  · by_cases e : j = n
    · subst e
      exact swI_self
    · rw [swI_k (by omega)]
      exact b j (by omega)
  · rw [swI_k (by omega)]
    exact c i (by omega)
theorem swcD_cong {u : swU} {c : Nat} {d e : swD} (h : swcD u c d) (h1 : e.1 = d.1) (h2 : ∀ k, k < d.1 → e.2.1 k = d.2.1 k) (h3 : ∀ k, k < d.1 → ∀ o, o < 4 → e.2.2 k o = d.2.2 k o) : swcD u c e := by
  obtain ⟨a, b, x, y⟩ := h
  refine ⟨by omega, by rw [h1]; exact b, fun k hk => ?_, fun k hk o ho => ?_⟩
  · rw [h2 k (by omega)]
    exact x k (by omega)
  · rw [h3 k (by omega) o ho]
    exact y k (by omega) o ho
theorem swmD_cong {w : swU} {v : Nat} {d e : swD} (h : swmD w v d) (h1 : e.1 = d.1) (h2 : ∀ k, k < d.1 → e.2.1 k = d.2.1 k) (h3 : ∀ k, k < d.1 → ∀ o, o < 4 → e.2.2 k o = d.2.2 k o) : swmD w v e := by
  obtain ⟨v4, a, b, x, y⟩ := h
  refine ⟨v4, by omega, by rw [h1]; exact b, fun k hk => ?_, fun k hk o ho => ?_⟩
  · rw [h2 k (by omega)]
    exact x k (by omega)
  · rw [h3 k (by omega) o ho]
    exact y k (by omega) o ho
/-- only a deck changes -/
def swcF (c : Nat) (u u' : swU) : Prop := (∀ q, q ≠ c → q ≠ c + 100 → q ≠ c + 200 → u'.1 q = u.1 q) ∧ u'.2 = u.2
theorem swcF.tr {c : Nat} {u u' u'' : swU} (h : swcF c u u') (h2 : swcF c u' u'') : swcF c u u'' := ⟨fun q a b d => (h2.1 q a b d).trans (h.1 q a b d), h2.2.trans h.2⟩
theorem pc_copyFrom {u : swU} {c c2 : Nat} {d : swD} (h : swcD u c2 d) (hne : c ≠ c2) (hc : 200 ≤ c ∧ c ≤ 240) (hc2 : 200 ≤ c2 ∧ c2 ≤ 240) : ∃ u', xx0_copyFrom u c c2 = some u' ∧ swcF c u u' ∧ swcD u' c d := by
  obtain ⟨h8, hn, hr, hv⟩ := h
  unfold xx0_copyFrom
  refine ⟨_, rfl, ⟨fun q q1 q2 q3 => ?_, rfl⟩, h8, ?_, fun k hk => ?_, fun k hk o ho => ?_⟩
  · rw [swI_ne q1, swR_ne q3, swR_ne q2]
  · rw [swI_self, swR_ne (by omega), swR_ne (by omega)]
    exact hn
  · rw [swI_ne (by omega), swR_ne (by omega), swR_self]
    show va_cpy _ _ 0 0 8 k = _
    unfold va_cpy
    rw [if_pos (by omega)]
    simpa using hr k hk
  · rw [swI_ne (by omega), swR_self]
    show va_cpy _ _ 0 0 32 (4 * k + o) = _
    unfold va_cpy
    rw [if_pos (by omega), swR_ne (by omega)]
    simpa using hv k hk o ho
def swmvF (c i j : Nat) (u u' : swU) : Prop := (∀ q, q ≠ c + 100 → q ≠ c + 200 → u'.1 q = u.1 q) ∧ u'.1 (c + 100) j = u.1 (c + 100) i ∧ (∀ k, k ≠ j → u'.1 (c + 100) k = u.1 (c + 100) k) ∧ (∀ o, o < 4 → u'.1 (c + 200) (4 * j + o) = u.1 (c + 200) (4 * i + o)) ∧ (∀ k, (k < 4 * j ∨ 4 * j + 4 ≤ k) → u'.1 (c + 200) k = u.1 (c + 200) k) ∧ u'.2 = u.2
theorem pc_put (u : swU) (c : Nat) {k o : Nat} (hk : k < 8) (ho : o < 4) (x : Int32) : xx0_put u c (nI k) (nI o) x = some (swI u (c + 200) (4 * k + o) x) := by
  unfold xx0_put
  simp (disch := omega) only [swlt_e, swbd_e, swrd_n, swgd_n, nI_clamp, sw8m, sw4m, sw4r, nI_add, nI_1, swsub, swsubn, sw4le, swleI, swltI, sweqI, sweqm, sw0add, if_pos, if_neg, if_true, if_false, sw1n0, sw0n1, eq_self, ↓reduceIte]
theorem pc_move (u : swU) (c : Nat) {i j : Nat} (hi : i < 8) (hj : j < 8) (hij : i ≠ j) : ∃ u', xx0_move u c (nI i) (nI j) = some u' ∧ swmvF c i j u u' := by
  obtain ⟨s, hs, f, hf⟩ := sw_upS (σ := swU) (fun f o s => xx0_move_L14 c (nI i) (nI j) (fun v3 w37 => some w37) f (nI o) s) (fun o s => sw4s (c + 200) (4 * j) (fun o => u.1 (c + 200) (4 * i + o)) o (swI u (c + 100) j (u.1 (c + 100) i)) s) 4 (swI u (c + 100) j (u.1 (c + 100) i)) (sw4s.zero _ _ _ _) (by
    intro f o s ho hI
    refine ⟨_, hI.step, ?_⟩
    show xx0_move_L14 c (nI i) (nI j) _ (f + 1) (nI o) s = xx0_move_L14 c (nI i) (nI j) _ f (nI (o + 1)) _
    rw [xx0_move_L14]
    have hva := pc_valueAt0 s c hi ho
    have hrd : s.1 (c + 200) (4 * i + o) = u.1 (c + 200) (4 * i + o) := by
      rw [hI.2.2.1 _ (by omega), swI_ne (by omega)]
    simp (disch := omega) only [swlt_e, swbd_e, swrd_n, swgd_n, nI_clamp, sw8m, sw4m, sw4r, nI_add, nI_1, swsub, swsubn, sw4le, swleI, swltI, sweqI, sweqm, sw0add, if_pos, if_neg, if_true, if_false, sw1n0, sw0n1, eq_self, ↓reduceIte, hva, hrd, pc_put]) (by omega)
  obtain ⟨a, b, x, y⟩ := hs
  refine ⟨s, ?_, fun q q1 q2 => (a q q2).trans (swI_ne q1), ?_, fun k hk => ?_, fun o ho => b o ho, fun k hk => (x k hk).trans (by rw [swI_ne (by omega)]), y⟩
  · unfold xx0_move
    simp (disch := omega) only [swlt_e, swbd_e, swrd_n, swgd_n, nI_clamp, sw8m, sw4m, sw4r, nI_add, nI_1, swsub, swsubn, sw4le, swleI, swltI, sweqI, sweqm, sw0add, if_pos, if_neg, if_true, if_false, sw1n0, sw0n1, eq_self, ↓reduceIte]
    refine Eq.trans hf ?_
    show xx0_move_L14 c (nI i) (nI j) _ (f + 1) (nI 4) s = _
    rw [xx0_move_L14]
    simp (disch := omega) only [swlt_e, swbd_e, swrd_n, swgd_n, nI_clamp, sw8m, sw4m, sw4r, nI_add, nI_1, swsub, swsubn, sw4le, swleI, swltI, sweqI, sweqm, sw0add, if_pos, if_neg, if_true, if_false, sw1n0, sw0n1, eq_self, ↓reduceIte]
  · rw [a _ (by omega), swI_self]
  · rw [a _ (by omega), swI_k hk]
def swins (d : swD) (p : Nat) (s : Int32) : swD := (d.1 + 1, fun k => if k < p then d.2.1 k else if k = p then s else d.2.1 (k - 1), fun k o => if k < p then d.2.2 k o else if k = p then 0 else d.2.2 (k - 1) o)
def swsk (p k : Nat) : Nat := if k < p then k else k + 1
def swrm (d : swD) (p : Nat) : swD := (if p < d.1 then d.1 - 1 else d.1, fun k => d.2.1 (swsk p k), fun k o => d.2.2 (swsk p k) o)
def swset (d : swD) (p : Nat) (o : Nat) (x : Int32) : swD := (d.1, d.2.1, fun k i => if k = p ∧ i = o then x else d.2.2 k i)
theorem pc_insert {u : swU} {c : Nat} {d : swD} (h : swcD u c d) (hn8 : d.1 < 8) {p : Nat} (hp : p ≤ d.1) (x : Int32) : ∃ u', xx0_insert u c (nI p) x = some u' ∧ swcF c u u' ∧ swcD u' c (swins d p x) := by
  obtain ⟨h8, hn, hr, hv⟩ := h
  -- the shift
  obtain ⟨s, ⟨i1, i2, i3, i4, i5⟩, f, hf⟩ := sw_upS (σ := swU) (fun f t s => xx0_insert_L5 c (nI p) (fun v3 w24 => swgd (swix (nI p) 8) <| swlt (swI w24 (c + 100) (nI p).toNatClampNeg x) fun u30 => xx0_insert_L33 c (nI p) (fun v3 w51 => swlt (swI w51 c 2 (((w51.1 c 2) + 1))) fun u58 => some u58) 64 0 u30) f (nI (d.1 - t)) s)
    (fun t s => (∀ q, q ≠ c + 100 → q ≠ c + 200 → s.1 q = u.1 q) ∧ s.2 = u.2 ∧ (∀ k, k ≤ d.1 - t → s.1 (c + 100) k = u.1 (c + 100) k ∧ ∀ o, o < 4 → s.1 (c + 200) (4 * k + o) = u.1 (c + 200) (4 * k + o)) ∧ (∀ k, d.1 - t < k → k ≤ d.1 → s.1 (c + 100) k = u.1 (c + 100) (k - 1) ∧ ∀ o, o < 4 → s.1 (c + 200) (4 * k + o) = u.1 (c + 200) (4 * (k - 1) + o)) ∧ True) (d.1 - p) u ⟨fun _ _ _ => rfl, rfl, fun _ _ => ⟨rfl, fun _ _ => rfl⟩, fun k a b => by omega, trivial⟩ (by
    intro f t s ht hI
    obtain ⟨i1, i2, i3, i4, i5⟩ := hI
    obtain ⟨s', e, m1, m2, m3, m4, m5, m6⟩ := pc_move s c (i := d.1 - t - 1) (j := d.1 - t) (by omega) (by omega) (by omega)
    refine ⟨s', ⟨fun q a b => (m1 q a b).trans (i1 q a b), m6.trans i2, fun k hk => ?_, fun k a b => ?_, trivial⟩, ?_⟩
    · rw [m3 k (by omega)]
      refine ⟨(i3 k (by omega)).1, fun o ho => ?_⟩
      rw [m5 _ (by omega)]
      exact (i3 k (by omega)).2 o ho
    · by_cases e2 : k = d.1 - t
      · subst e2
        rw [m2]
        refine ⟨(i3 _ (by omega)).1, fun o ho => ?_⟩
        rw [m4 o ho]
        exact (i3 _ (by omega)).2 o ho
      · rw [m3 k e2]
        refine ⟨(i4 k (by omega) b).1, fun o ho => ?_⟩
        rw [m5 _ (by omega)]
        exact (i4 k (by omega) b).2 o ho
    · show xx0_insert_L5 c (nI p) _ (f + 1) (nI (d.1 - t)) s = xx0_insert_L5 c (nI p) _ f (nI (d.1 - (t + 1))) s'
      have hle : ¬ nI (d.1 - t) ≤ nI p := by
        rw [swleI (by omega) (by omega)]
        omega
      rw [xx0_insert_L5, if_neg hle, swsub (by omega), e, swsubn (by omega), show d.1 - t - 1 = d.1 - (t + 1) by omega]
      rfl) (by omega)
  -- the new slide
  obtain ⟨z, hz, g, hg⟩ := sw_upS (σ := swU) (fun f o s => xx0_insert_L33 c (nI p) (fun v3 w51 => swlt (swI w51 c 2 (((w51.1 c 2) + 1))) fun u58 => some u58) f (nI o) s) (fun o s' => sw4s (c + 200) (4 * p) (fun _ => 0) o (swI s (c + 100) p x) s') 4 (swI s (c + 100) p x) (sw4s.zero _ _ _ _) (by
    intro f o s ho hI
    refine ⟨_, hI.step, ?_⟩
    show xx0_insert_L33 c (nI p) _ (f + 1) (nI o) s = xx0_insert_L33 c (nI p) _ f (nI (o + 1)) _
    rw [xx0_insert_L33]
    simp (disch := omega) only [swlt_e, swbd_e, swrd_n, swgd_n, nI_clamp, sw8m, sw4m, sw4r, nI_add, nI_1, swsub, swsubn, sw4le, swleI, swltI, sweqI, sweqm, sw0add, if_pos, if_neg, if_true, if_false, sw1n0, sw0n1, eq_self, ↓reduceIte, pc_put]) (by omega)
  obtain ⟨a, b, y1, y2⟩ := hz
  have hsz : z.1 c 2 = nI d.1 := by
    rw [a c (by omega), swI_ne (by omega), i1 c (by omega) (by omega)]
    exact hn
  refine ⟨swI z c 2 (nI (d.1 + 1)), ?_, ⟨fun q q1 q2 q3 => ?_, ?_⟩, by show d.1 + 1 ≤ 8; omega, swI_self, fun k hk => ?_, fun k hk o ho => ?_⟩
  · unfold xx0_insert
    rw [hn]
    show xx0_insert_L5 c (nI p) _ 64 (nI d.1) u = _
    refine Eq.trans hf ?_
    show xx0_insert_L5 c (nI p) _ (f + 1) (nI (d.1 - (d.1 - p))) s = _
    have hle : nI (d.1 - (d.1 - p)) ≤ nI p := by
      rw [swleI (by omega) (by omega)]
      omega
    rw [xx0_insert_L5, if_pos hle, swgd_n (by omega) (by omega), nI_clamp (by omega)]
    refine Eq.trans hg ?_
    show xx0_insert_L33 c (nI p) _ (g + 1) (nI 4) z = _
    rw [xx0_insert_L33]
    simp (disch := omega) only [swlt_e, swbd_e, swrd_n, swgd_n, nI_clamp, sw8m, sw4m, sw4r, nI_add, nI_1, swsub, swsubn, sw4le, swleI, swltI, sweqI, sweqm, sw0add, if_pos, if_neg, if_true, if_false, sw1n0, sw0n1, eq_self, ↓reduceIte, hsz]
  · rw [swI_ne q1, a q q3, swI_ne q2, i1 q q2 q3]
  · rw [swI_2, y2, swI_2, i2]
  · have hk2 : k < d.1 + 1 := hk
    rw [swI_ne (by omega), a _ (by omega)]
    show _ = if k < p then d.2.1 k else if k = p then x else d.2.1 (k - 1)
    by_cases e1 : k < p
    · rw [if_pos e1, swI_k (by omega), (i3 k (by omega)).1]
      exact hr k (by omega)
    · by_cases e2 : k = p
      · rw [if_neg e1, if_pos e2, e2, swI_self]
      · rw [if_neg e1, if_neg e2, swI_k e2, (i4 k (by omega) (by omega)).1]
        exact hr _ (by omega)
  · have hk2 : k < d.1 + 1 := hk
    rw [swI_ne (by omega)]
    show _ = if k < p then d.2.2 k o else if k = p then 0 else d.2.2 (k - 1) o
    by_cases e1 : k < p
    · rw [if_pos e1, y1 _ (by omega), swI_ne (by omega), (i3 k (by omega)).2 o ho]
      exact hv k (by omega) o ho
    · by_cases e2 : k = p
      · rw [if_neg e1, if_pos e2, e2, b o ho]
      · rw [if_neg e1, if_neg e2, y1 _ (by omega), swI_ne (by omega), (i4 k (by omega) (by omega)).2 o ho]
        exact hv _ (by omega) o ho
theorem pc_removeAt {u : swU} {c : Nat} {d : swD} (h : swcD u c d) {p : Nat} (hp : p < d.1) : ∃ u', xx0_removeAt u c (nI p) = some u' ∧ swcF c u u' ∧ swcD u' c (swrm d p) := by
  obtain ⟨h8, hn, hr, hv⟩ := h
  obtain ⟨s, ⟨i1, i2, i3, i4⟩, f, hf⟩ := sw_upS (σ := swU) (fun f t s => xx0_removeAt_L4 c (fun v2 w26 => swlt (swI w26 c 2 (((w26.1 c 2) - 1))) fun u33 => some u33) f (nI (p + 1 + t)) s)
    (fun t s => (∀ q, q ≠ c + 100 → q ≠ c + 200 → s.1 q = u.1 q) ∧ s.2 = u.2 ∧ (∀ k, (k < p ∨ p + t ≤ k) → s.1 (c + 100) k = u.1 (c + 100) k ∧ ∀ o, o < 4 → s.1 (c + 200) (4 * k + o) = u.1 (c + 200) (4 * k + o)) ∧ (∀ k, p ≤ k → k < p + t → s.1 (c + 100) k = u.1 (c + 100) (k + 1) ∧ ∀ o, o < 4 → s.1 (c + 200) (4 * k + o) = u.1 (c + 200) (4 * (k + 1) + o))) (d.1 - (p + 1)) u ⟨fun _ _ _ => rfl, rfl, fun _ _ => ⟨rfl, fun _ _ => rfl⟩, fun k a b => by omega⟩ (by
    intro f t s ht hI
    obtain ⟨i1, i2, i3, i4⟩ := hI
    obtain ⟨s', e, m1, m2, m3, m4, m5, m6⟩ := pc_move s c (i := p + 1 + t) (j := p + t) (by omega) (by omega) (by omega)
    have hsz : s.1 c 2 = nI d.1 := by
      rw [i1 c (by omega) (by omega)]
      exact hn
    refine ⟨s', ⟨fun q a b => (m1 q a b).trans (i1 q a b), m6.trans i2, fun k hk => ?_, fun k a b => ?_⟩, ?_⟩
    · rw [m3 k (by omega)]
      refine ⟨(i3 k (by omega)).1, fun o ho => ?_⟩
      rw [m5 _ (by omega)]
      exact (i3 k (by omega)).2 o ho
    · by_cases e2 : k = p + t
      · subst e2
        rw [m2]
        refine ⟨by rw [(i3 (p + 1 + t) (by omega)).1, show p + 1 + t = p + t + 1 by omega], fun o ho => ?_⟩
        rw [m4 o ho, (i3 (p + 1 + t) (by omega)).2 o ho, show p + 1 + t = p + t + 1 by omega]
      · rw [m3 k e2]
        refine ⟨(i4 k a (by omega)).1, fun o ho => ?_⟩
        rw [m5 _ (by omega)]
        exact (i4 k a (by omega)).2 o ho
    · show xx0_removeAt_L4 c _ (f + 1) (nI (p + 1 + t)) s = xx0_removeAt_L4 c _ f (nI (p + 1 + (t + 1))) s'
      have hle : ¬ nI d.1 ≤ nI (p + 1 + t) := by
        rw [swleI (by omega) (by omega)]
        omega
      rw [xx0_removeAt_L4, hsz, if_neg hle, swsub (by omega), show p + 1 + t - 1 = p + t by omega, e, nI_1]
      rfl) (by omega)
  have hsz : s.1 c 2 = nI d.1 := by
    rw [i1 c (by omega) (by omega)]
    exact hn
  have hn1 : (swrm d p).1 = d.1 - 1 := if_pos hp
  refine ⟨swI s c 2 (nI (d.1 - 1)), ?_, ⟨fun q q1 q2 q3 => ?_, ?_⟩, by rw [hn1]; omega, by rw [hn1]; exact swI_self, fun k hk => ?_, fun k hk o ho => ?_⟩
  · unfold xx0_removeAt
    rw [nI_1]
    show xx0_removeAt_L4 c _ 64 (nI (p + 1)) u = _
    refine Eq.trans hf ?_
    show xx0_removeAt_L4 c _ (f + 1) (nI (p + 1 + (d.1 - (p + 1)))) s = _
    rw [xx0_removeAt_L4]
    simp (disch := omega) only [swlt_e, swbd_e, swrd_n, swgd_n, nI_clamp, sw8m, sw4m, sw4r, nI_add, nI_1, swsub, swsubn, sw4le, swleI, swltI, sweqI, sweqm, sw0add, if_pos, if_neg, if_true, if_false, sw1n0, sw0n1, eq_self, ↓reduceIte, hsz]
  · rw [swI_ne q1, i1 q q2 q3]
  · rw [swI_2, i2]
  · rw [hn1] at hk
    rw [swI_ne (by omega)]
    show _ = d.2.1 (if k < p then k else k + 1)
    by_cases e1 : k < p
    · rw [if_pos e1, (i3 k (by omega)).1]
      exact hr k (by omega)
    · rw [if_neg e1, (i4 k (by omega) (by omega)).1]
      exact hr _ (by omega)
  · rw [hn1] at hk
    rw [swI_ne (by omega)]
    show _ = d.2.2 (if k < p then k else k + 1) o
    by_cases e1 : k < p
    · rw [if_pos e1, (i3 k (by omega)).2 o ho]
      exact hv k (by omega) o ho
    · rw [if_neg e1, (i4 k (by omega) (by omega)).2 o ho]
      exact hv _ (by omega) o ho
theorem pc_putD {u : swU} {c : Nat} {d : swD} (h : swcD u c d) {p o : Nat} (hp : p < d.1) (ho : o < 4) (x : Int32) : swcF c u (swI u (c + 200) (4 * p + o) x) ∧ swcD (swI u (c + 200) (4 * p + o) x) c (swset d p o x) := by
  obtain ⟨h8, hn, hr, hv⟩ := h
  refine ⟨⟨fun q q1 q2 q3 => swI_ne q3, rfl⟩, h8, ?_, fun k hk => ?_, fun k hk i hi => ?_⟩
  · rw [swI_ne (by omega)]
    exact hn
  · rw [swI_ne (by omega)]
    exact hr k hk
  · show _ = if k = p ∧ i = o then x else d.2.2 k i
    by_cases e : k = p ∧ i = o
    · rw [if_pos e, e.1, e.2, swI_self]
    · rw [if_neg e, swI_k (by omega)]
      exact hv k hk i hi
/-- what a made version is, in the class's state -/
def swMV (nv b hb : Nat) (x2 : Int32) (m : Nat) (d : swD) (u u' : swU) : Prop := u'.1 0 6 = nI (nv + 1) ∧ (∀ k, k ≠ 6 → k ≠ 8 → u'.1 0 k = u.1 0 k) ∧ u'.1 1 b = nI nv ∧ (∀ k, k ≠ b → u'.1 1 k = u.1 1 k) ∧ u'.1 (100 + nv) 1 = nI b ∧ u'.1 (100 + nv) 2 = nI hb ∧ u'.1 (100 + nv) 3 = x2 ∧ u'.2 (100 + nv) = lN m ∧ (∀ q, q ≠ 100 + nv → u'.2 q = u.2 q) ∧ (∀ q, q ≠ 0 → q ≠ 1 → q ≠ 100 + nv → q ≠ 200 + nv → q ≠ 300 + nv → q ≠ 400 + nv → u'.1 q = u.1 q) ∧ swcD u' (200 + nv) d
theorem swMV.deck {nv b hb : Nat} {x2 : Int32} {m : Nat} {d d' : swD} {u u' u'' : swU} (h40 : nv < 40) (h : swMV nv b hb x2 m d u u') (hf : swcF (200 + nv) u' u'') (hd : swcD u'' (200 + nv) d') : swMV nv b hb x2 m d' u u'' := by
  obtain ⟨a1, a2, a3, a4, a5, a6, a7, a8, a9, a10, -⟩ := h
  obtain ⟨f1, f2⟩ := hf
  have g0 : u''.1 0 = u'.1 0 := f1 0 (by omega) (by omega) (by omega)
  have g1 : u''.1 1 = u'.1 1 := f1 1 (by omega) (by omega) (by omega)
  have gv : u''.1 (100 + nv) = u'.1 (100 + nv) := f1 _ (by omega) (by omega) (by omega)
  refine ⟨by rw [g0]; exact a1, fun k q1 q2 => by rw [g0]; exact a2 k q1 q2, by rw [g1]; exact a3, fun k hk => by rw [g1]; exact a4 k hk, by rw [gv]; exact a5, by rw [gv]; exact a6, by rw [gv]; exact a7, by rw [f2]; exact a8, fun q hq => by rw [f2]; exact a9 q hq, fun q q1 q2 q3 q4 q5 q6 => ?_, hd⟩
  rw [f1 q q4 (by omega) (by omega)]
  exact a10 q q1 q2 q3 q4 q5 q6
theorem swMV.pre8 {nv b hb : Nat} {x2 : Int32} {m : Nat} {d : swD} {u u' : swU} {x : Int32} (h : swMV nv b hb x2 m d (swI u 0 8 x) u') : swMV nv b hb x2 m d u u' := by
  obtain ⟨a1, a2, a3, a4, a5, a6, a7, a8, a9, a10, a11⟩ := h
  refine ⟨a1, fun k q1 q2 => ?_, a3, fun k hk => ?_, a5, a6, a7, a8, a9, fun q q1 q2 q3 q4 q5 q6 => ?_, a11⟩
  · rw [a2 k q1 q2, swI_k q2]
  · rw [a4 k hk, swI_ne (by omega)]
  · rw [a10 q q1 q2 q3 q4 q5 q6, swI_ne q1]
theorem pc_makeVersion {u : swU} {nv b hb : Nat} {x2 : Int32} {m mc : Nat} {d : swD} (h40 : nv < 40) (hn : u.1 0 6 = nI nv) (b6 : b < 6) (hhb : hb < nv) (h1 : u.1 1 b = nI hb) (hm : u.2 (100 + hb) = lN m) (hx : (x2 = -1 ∧ mc = 0) ∨ ∃ c, c < nv ∧ x2 = nI c ∧ u.2 (100 + c) = lN mc) (hd : swcD u (200 + hb) d) : ∃ u', xx5_makeVersion u (nI b) x2 = some (200 + nv, u') ∧ swMV nv b hb x2 ((m ||| 2 ^ nv) ||| mc) d u u' ∧ u'.1 0 8 = u.1 0 8 := by
  obtain ⟨U, hU⟩ : ∃ U, U = swL (swI (swI (swI u (100 + nv) 1 (nI b)) (100 + nv) 2 (nI hb)) (100 + nv) 3 x2) (100 + nv) (lN ((m ||| 2 ^ nv) ||| mc)) := ⟨_, rfl⟩
  have hsh := swl_sh1 nv (by omega)
  have hdU : swcD U (200 + hb) d := by
    subst hU
    refine swcD_fr hd ?_ (fun k hk => ?_) (fun k hk o ho => ?_)
    · simp (disch := omega) only [swlt_e, swbd_e, swrd_n, swgd_n, nI_clamp, sw8m, sw4m, sw4r, nI_add, nI_1, swsub, swsubn, sw4le, swleI, swltI, sweqI, sweqm, sw0add, if_pos, if_neg, if_true, if_false, sw1n0, sw0n1, eq_self, ↓reduceIte, swL_1, swI_ne]
    · simp (disch := omega) only [swlt_e, swbd_e, swrd_n, swgd_n, nI_clamp, sw8m, sw4m, sw4r, nI_add, nI_1, swsub, swsubn, sw4le, swleI, swltI, sweqI, sweqm, sw0add, if_pos, if_neg, if_true, if_false, sw1n0, sw0n1, eq_self, ↓reduceIte, swL_1, swI_ne]
    · simp (disch := omega) only [swlt_e, swbd_e, swrd_n, swgd_n, nI_clamp, sw8m, sw4m, sw4r, nI_add, nI_1, swsub, swsubn, sw4le, swleI, swltI, sweqI, sweqm, sw0add, if_pos, if_neg, if_true, if_false, sw1n0, sw0n1, eq_self, ↓reduceIte, swL_1, swI_ne]
  obtain ⟨U2, e2, f2, d2⟩ := pc_copyFrom (c := 200 + nv) (c2 := 200 + hb) hdU (by omega) (by omega) (by omega)
  refine ⟨swI (swI U2 1 b (nI nv)) 0 6 (nI (nv + 1)), ?_, ?_, ?_⟩
  · unfold xx5_makeVersion
    rcases hx with ⟨rfl, rfl⟩ | ⟨c, hc, rfl, hmc⟩
    · rw [Nat.or_zero] at hU
      simp (disch := omega) only [swlt_e, swbd_e, swrd_n, swgd_n, nI_clamp, sw8m, sw4m, sw4r, nI_add, nI_1, swsub, swsubn, sw4le, swleI, swltI, sweqI, sweqm, sw0add, if_pos, if_neg, if_true, if_false, sw1n0, sw0n1, eq_self, ↓reduceIte, hn, h1, swI_2, hm, hsh, swl_or, swap100]
      rw [← hU, e2]
      rfl
    · have hU' : U = swL (swL (swI (swI (swI u (100 + nv) 1 (nI b)) (100 + nv) 2 (nI hb)) (100 + nv) 3 (nI c)) (100 + nv) (lN (m ||| 2 ^ nv))) (100 + nv) (lN ((m ||| 2 ^ nv) ||| mc)) := by
        rw [hU]
        unfold swL
        congr 1
        funext q
        by_cases e : q = 100 + nv
        · subst e
          rw [va_up_self, va_up_self]
        · exact (va_up_ne _ _ e).trans ((va_up_ne _ _ e).trans (va_up_ne _ _ e)).symm
      simp (disch := omega) only [swlt_e, swbd_e, swrd_n, swgd_n, nI_clamp, sw8m, sw4m, sw4r, nI_add, nI_1, swsub, swsubn, sw4le, swleI, swltI, sweqI, sweqm, sw0add, if_pos, if_neg, if_true, if_false, sw1n0, sw0n1, eq_self, ↓reduceIte, hn, h1, swI_2, hm, hsh, swl_or, swap100, swL_self, swL_ne, hmc]
      rw [← hU', e2]
      rfl
  · obtain ⟨g1, g2⟩ := f2
    have gv : U2.1 (100 + nv) = U.1 (100 + nv) := g1 _ (by omega) (by omega) (by omega)
    have g0 : U2.1 0 = U.1 0 := g1 _ (by omega) (by omega) (by omega)
    have gg : U2.1 1 = U.1 1 := g1 _ (by omega) (by omega) (by omega)
    refine ⟨swI_self, fun k q1 q2 => ?_, ?_, fun k hk => ?_, ?_, ?_, ?_, ?_, fun q hq => ?_, fun q q1 q2 q3 q4 q5 q6 => ?_, ?_⟩
    · rw [swI_k q1, swI_ne (by omega), g0, hU]
      simp (disch := omega) only [swlt_e, swbd_e, swrd_n, swgd_n, nI_clamp, sw8m, sw4m, sw4r, nI_add, nI_1, swsub, swsubn, sw4le, swleI, swltI, sweqI, sweqm, sw0add, if_pos, if_neg, if_true, if_false, sw1n0, sw0n1, eq_self, ↓reduceIte, swL_1, swI_ne]
    · rw [swI_ne (by omega), swI_self]
    · rw [swI_ne (by omega), swI_k hk, gg, hU]
      simp (disch := omega) only [swlt_e, swbd_e, swrd_n, swgd_n, nI_clamp, sw8m, sw4m, sw4r, nI_add, nI_1, swsub, swsubn, sw4le, swleI, swltI, sweqI, sweqm, sw0add, if_pos, if_neg, if_true, if_false, sw1n0, sw0n1, eq_self, ↓reduceIte, swL_1, swI_ne]
    · rw [swI_ne (by omega), swI_ne (by omega), gv, hU]
      simp (disch := omega) only [swlt_e, swbd_e, swrd_n, swgd_n, nI_clamp, sw8m, sw4m, sw4r, nI_add, nI_1, swsub, swsubn, sw4le, swleI, swltI, sweqI, sweqm, sw0add, if_pos, if_neg, if_true, if_false, sw1n0, sw0n1, eq_self, ↓reduceIte, swL_1, swI_k, swI_self]
    · rw [swI_ne (by omega), swI_ne (by omega), gv, hU]
      simp (disch := omega) only [swlt_e, swbd_e, swrd_n, swgd_n, nI_clamp, sw8m, sw4m, sw4r, nI_add, nI_1, swsub, swsubn, sw4le, swleI, swltI, sweqI, sweqm, sw0add, if_pos, if_neg, if_true, if_false, sw1n0, sw0n1, eq_self, ↓reduceIte, swL_1, swI_k, swI_self]
    · rw [swI_ne (by omega), swI_ne (by omega), gv, hU]
      simp (disch := omega) only [swlt_e, swbd_e, swrd_n, swgd_n, nI_clamp, sw8m, sw4m, sw4r, nI_add, nI_1, swsub, swsubn, sw4le, swleI, swltI, sweqI, sweqm, sw0add, if_pos, if_neg, if_true, if_false, sw1n0, sw0n1, eq_self, ↓reduceIte, swL_1, swI_k, swI_self]
    · rw [swI_2, swI_2, g2, hU, swL_self]
    · rw [swI_2, swI_2, g2, hU, swL_ne hq]
      rfl
    · rw [swI_ne q1, swI_ne q2, g1 q q4 (by omega) (by omega), hU]
      simp (disch := omega) only [swlt_e, swbd_e, swrd_n, swgd_n, nI_clamp, sw8m, sw4m, sw4r, nI_add, nI_1, swsub, swsubn, sw4le, swleI, swltI, sweqI, sweqm, sw0add, if_pos, if_neg, if_true, if_false, sw1n0, sw0n1, eq_self, ↓reduceIte, swL_1, swI_ne]
    · exact swcD_fr d2 (by simp (disch := omega) only [swlt_e, swbd_e, swrd_n, swgd_n, nI_clamp, sw8m, sw4m, sw4r, nI_add, nI_1, swsub, swsubn, sw4le, swleI, swltI, sweqI, sweqm, sw0add, if_pos, if_neg, if_true, if_false, sw1n0, sw0n1, eq_self, ↓reduceIte, swI_ne]) (fun k hk => by simp (disch := omega) only [swlt_e, swbd_e, swrd_n, swgd_n, nI_clamp, sw8m, sw4m, sw4r, nI_add, nI_1, swsub, swsubn, sw4le, swleI, swltI, sweqI, sweqm, sw0add, if_pos, if_neg, if_true, if_false, sw1n0, sw0n1, eq_self, ↓reduceIte, swI_ne]) (fun k hk o ho => by simp (disch := omega) only [swlt_e, swbd_e, swrd_n, swgd_n, nI_clamp, sw8m, sw4m, sw4r, nI_add, nI_1, swsub, swsubn, sw4le, swleI, swltI, sweqI, sweqm, sw0add, if_pos, if_neg, if_true, if_false, sw1n0, sw0n1, eq_self, ↓reduceIte, swI_ne])
  · have g0 : U2.1 0 = U.1 0 := f2.1 _ (by omega) (by omega) (by omega)
    rw [swI_k (by omega), swI_ne (by omega), g0, hU]
    simp (disch := omega) only [swlt_e, swbd_e, swrd_n, swgd_n, nI_clamp, sw8m, sw4m, sw4r, nI_add, nI_1, swsub, swsubn, sw4le, swleI, swltI, sweqI, sweqm, sw0add, if_pos, if_neg, if_true, if_false, sw1n0, sw0n1, eq_self, ↓reduceIte, swL_1, swI_ne]
