/-! ===== NEW VERSIONS, on the model's side ===== -/
def swmF (nv : Nat) (w w' : swU) : Prop := (∀ q, q ≠ 5 → q ≠ 6 → q ≠ 7 → w'.1 q = w.1 q) ∧ (∀ k, k ≠ nv → w'.1 5 k = w.1 5 k) ∧ (∀ i, i < 8 * nv → w'.1 6 i = w.1 6 i) ∧ (∀ i, i < 32 * nv → w'.1 7 i = w.1 7 i)
theorem swmF.tr {nv : Nat} {w w' w'' : swU} (h : swmF nv w w') (h2 : swmF nv w' w'') : swmF nv w w'' := ⟨fun q a b c => (h2.1 q a b c).trans (h.1 q a b c), fun k a => (h2.2.1 k a).trans (h.2.1 k a), fun k a => (h2.2.2.1 k a).trans (h.2.2.1 k a), fun k a => (h2.2.2.2 k a).trans (h.2.2.2 k a)⟩
theorem swmF.rf (nv : Nat) (w : swU) : swmF nv w w := ⟨fun _ _ _ _ => rfl, fun _ _ => rfl, fun _ _ => rfl, fun _ _ => rfl⟩
theorem swmF.i5 (nv : Nat) (w : swU) (x : Int32) : swmF nv w (swI w 5 nv x) := ⟨fun q a b c => swI_ne a, fun k a => swI_k a, fun k a => by rw [swI_ne (by omega)], fun k a => by rw [swI_ne (by omega)]⟩
theorem swmF.i6 (nv : Nat) (w : swU) {i : Nat} (hi : 8 * nv ≤ i) (x : Int32) : swmF nv w (swI w 6 i x) := ⟨fun q a b c => swI_ne b, fun k a => by rw [swI_ne (by omega)], fun k a => swI_k (by omega), fun k a => by rw [swI_ne (by omega)]⟩
theorem swmF.s7 {nv T n : Nat} {src : Nat → Int32} {w w' : swU} (h : sw4s 7 T src n w w') (hT : 32 * nv ≤ T) : swmF nv w w' := ⟨fun q a b c => h.1 q c, fun k a => by rw [h.1 5 (by omega)], fun k a => by rw [h.1 6 (by omega)], fun k a => h.2.2.1 k (by omega)⟩
def swMW (nv b hb : Nat) (x2 : Int32) (d : swD) (w w' : swU) : Prop := w'.1 0 1 = nI (nv + 1) ∧ (∀ k, k ≠ 1 → k ≠ 8 → w'.1 0 k = w.1 0 k) ∧ w'.1 10 b = nI nv ∧ (∀ k, k ≠ b → w'.1 10 k = w.1 10 k) ∧ w'.1 2 nv = nI b ∧ w'.1 3 nv = nI hb ∧ w'.1 4 nv = x2 ∧ (∀ k, k ≠ nv → w'.1 2 k = w.1 2 k ∧ w'.1 3 k = w.1 3 k ∧ w'.1 4 k = w.1 4 k ∧ w'.1 5 k = w.1 5 k) ∧ (∀ i, i < 8 * nv → w'.1 6 i = w.1 6 i) ∧ (∀ i, i < 32 * nv → w'.1 7 i = w.1 7 i) ∧ (∀ q, 11 ≤ q → w'.1 q = w.1 q) ∧ swmD w' nv d
theorem swMW.deck {nv b hb : Nat} {x2 : Int32} {d d' : swD} {w w' w'' : swU} (h : swMW nv b hb x2 d w w') (hf : swmF nv w' w'') (hd : swmD w'' nv d') : swMW nv b hb x2 d' w w'' := by
  obtain ⟨a1, a2, a3, a4, a5, a6, a7, a8, a9, a10, a11, -⟩ := h
  obtain ⟨f1, f2, f3, f4⟩ := hf
  have g := fun q (h : q ≠ 5 ∧ q ≠ 6 ∧ q ≠ 7) => f1 q h.1 h.2.1 h.2.2
  refine ⟨by rw [g 0 (by omega)]; exact a1, fun k q1 q2 => by rw [g 0 (by omega)]; exact a2 k q1 q2, by rw [g 10 (by omega)]; exact a3, fun k hk => by rw [g 10 (by omega)]; exact a4 k hk, by rw [g 2 (by omega)]; exact a5, by rw [g 3 (by omega)]; exact a6, by rw [g 4 (by omega)]; exact a7, fun k hk => ?_, fun i hi => (f3 i hi).trans (a9 i hi), fun i hi => (f4 i hi).trans (a10 i hi), fun q hq => by rw [g q (by omega)]; exact a11 q hq, hd⟩
  obtain ⟨z1, z2, z3, z4⟩ := a8 k hk
  exact ⟨by rw [g 2 (by omega)]; exact z1, by rw [g 3 (by omega)]; exact z2, by rw [g 4 (by omega)]; exact z3, (f2 k hk).trans z4⟩
theorem pm_ed1 {nv hb k c : Nat} (h40 : nv < 40) (hhb : hb < nv) (hk : k < 8) (hc : c < 8) {s : swU} (hs : s.1 5 nv = nI c) (kk : Int32 → swU → Option (Int32 × swU)) : ∃ s', sw4s 7 (4 * (8 * nv + c)) (fun o => s.1 7 (4 * (8 * hb + k) + o)) 4 s s' ∧ mx_edits_L109 (nI nv) (nI hb) (nI k) kk 64 0 s = kk (nI 4) s' := by
  obtain ⟨s', hs', f, hf⟩ := sw_upS (σ := swU) (fun f o s => mx_edits_L109 (nI nv) (nI hb) (nI k) kk f (nI o) s) (fun o s' => sw4s 7 (4 * (8 * nv + c)) (fun o => s.1 7 (4 * (8 * hb + k) + o)) o s s') 4 s (sw4s.zero _ _ _ _) (by
    intro f o t ho hI
    refine ⟨_, hI.step, ?_⟩
    show mx_edits_L109 (nI nv) (nI hb) (nI k) kk (f + 1) (nI o) t = mx_edits_L109 (nI nv) (nI hb) (nI k) kk f (nI (o + 1)) _
    rw [mx_edits_L109]
    have h5 : t.1 5 nv = nI c := by rw [hI.1 5 (by omega)]; exact hs
    have h7 : t.1 7 (4 * (8 * hb + k) + o) = s.1 7 (4 * (8 * hb + k) + o) := hI.2.2.1 _ (by omega)
    simp (disch := omega) only [swlt_e, swbd_e, swrd_n, swgd_n, nI_clamp, sw8m, sw4m, sw4r, nI_add, nI_1, swsub, swsubn, sw4le, swleI, swltI, sweqI, sweqm, sw0add, if_pos, if_neg, if_true, if_false, sw1n0, sw0n1, eq_self, ↓reduceIte, h5, h7]) (by omega)
  refine ⟨s', hs', Eq.trans hf ?_⟩
  show mx_edits_L109 (nI nv) (nI hb) (nI k) kk (f + 1) (nI 4) s' = _
  rw [mx_edits_L109]
  simp (disch := omega) only [swlt_e, swbd_e, swrd_n, swgd_n, nI_clamp, sw8m, sw4m, sw4r, nI_add, nI_1, swsub, swsubn, sw4le, swleI, swltI, sweqI, sweqm, sw0add, if_pos, if_neg, if_true, if_false, sw1n0, sw0n1, eq_self, ↓reduceIte]
def swcn (p k : Nat) : Nat := if p < k then k - 1 else k
theorem pm_ed2 {V : swU} {nv hb : Nat} {d : swD} (h40 : nv < 40) (hhb : hb < nv) (h8 : d.1 ≤ 8) (V5 : V.1 5 hb = nI d.1) (V5n : V.1 5 nv = 0) (V6 : ∀ k, k < d.1 → V.1 6 (8 * hb + k) = d.2.1 k) (V7 : ∀ k, k < d.1 → ∀ o, o < 4 → V.1 7 (4 * (8 * hb + k) + o) = d.2.2 k o) (but : Int32) {p : Nat} (hp : p ≤ d.1) (hbut : ∀ k, k < d.1 → (d.2.1 k = but) = (k = p)) (KK : Int32 → swU → Option (Int32 × swU)) : ∃ s, (swmF nv V s ∧ s.1 5 nv = nI (swcn p d.1) ∧ (∀ j, j < swcn p d.1 → s.1 6 (8 * nv + j) = d.2.1 (swsk p j)) ∧ (∀ j, j < swcn p d.1 → ∀ o, o < 4 → s.1 7 (4 * (8 * nv + j) + o) = d.2.2 (swsk p j) o)) ∧ mx_edits_L55 but (nI nv) (nI hb) KK 64 0 V = KK (nI d.1) s := by
  have hc0 : swcn p 0 = 0 := by
    unfold swcn
    split <;> rfl
  obtain ⟨s, ⟨hF, i5, i6, i7⟩, f, hf⟩ := sw_upS (σ := swU) (fun f k s => mx_edits_L55 but (nI nv) (nI hb) KK f (nI k) s)
    (fun k s => swmF nv V s ∧ s.1 5 nv = nI (swcn p k) ∧ (∀ j, j < swcn p k → s.1 6 (8 * nv + j) = d.2.1 (swsk p j)) ∧ (∀ j, j < swcn p k → ∀ o, o < 4 → s.1 7 (4 * (8 * nv + j) + o) = d.2.2 (swsk p j) o)) d.1 V ⟨swmF.rf _ _, by rw [hc0]; exact V5n, fun j hj => by rw [hc0] at hj; omega, fun j hj => by rw [hc0] at hj; omega⟩ (by
    intro f k s hk hI
    obtain ⟨hF, i5, i6, i7⟩ := hI
    have s5 : s.1 5 hb = nI d.1 := (hF.2.1 hb (by omega)).trans V5
    have s6 : s.1 6 (8 * hb + k) = d.2.1 k := by
      rw [hF.2.2.1 _ (by omega)]
      exact V6 k hk
    have s7 : ∀ o, o < 4 → s.1 7 (4 * (8 * hb + k) + o) = d.2.2 k o := fun o ho => by
      rw [hF.2.2.2 _ (by omega)]
      exact V7 k hk o ho
    by_cases e : k = p
    · have hc : swcn p (k + 1) = swcn p k := by
        unfold swcn
        rw [if_pos (by omega), if_neg (by omega)]
        omega
      refine ⟨s, by rw [hc]; exact ⟨hF, i5, i6, i7⟩, ?_⟩
      show mx_edits_L55 but (nI nv) (nI hb) _ (f + 1) (nI k) s = mx_edits_L55 but (nI nv) (nI hb) _ f (nI (k + 1)) s
      rw [mx_edits_L55]
      have hq : (d.2.1 k = but) = True := by rw [hbut k hk]; exact eq_true e
      simp (disch := omega) only [swlt_e, swbd_e, swrd_n, swgd_n, nI_clamp, sw8m, sw4m, sw4r, nI_add, nI_1, swsub, swsubn, sw4le, swleI, swltI, sweqI, sweqm, sw0add, if_pos, if_neg, if_true, if_false, sw1n0, sw0n1, eq_self, ↓reduceIte, s5, s6, hq]
    · have hc : swcn p (k + 1) = swcn p k + 1 := by
        unfold swcn
        by_cases e2 : p < k
        · rw [if_pos (by omega), if_pos e2]
          omega
        · rw [if_neg (by omega), if_neg e2]
      have hsk : swsk p (swcn p k) = k := by
        unfold swsk swcn
        by_cases e2 : p < k
        · rw [if_pos e2, if_neg (by omega)]
          omega
        · rw [if_neg e2, if_pos (by omega)]
      have hc8 : swcn p k < 8 := by
        unfold swcn
        split <;> omega
      obtain ⟨t, ht, he⟩ := pm_ed1 (s := swI s 6 (8 * nv + swcn p k) (d.2.1 k)) h40 hhb (show k < 8 by omega) hc8 (by rw [swI_ne (by omega)]; exact i5) (fun v7 w160 => swrd 40 (w160.1 5) (nI nv) fun a166 => swgd (swix (nI nv) 40) <| swlt (swI w160 5 (nI nv).toNatClampNeg (a166 + 1)) fun u169 => mx_edits_L55 but (nI nv) (nI hb) KK f (nI k + 1) u169)
      have t5 : t.1 5 nv = nI (swcn p k) := by
        rw [ht.1 5 (by omega), swI_ne (by omega)]
        exact i5
      have hFt : swmF nv V t := (hF.tr (swmF.i6 nv s (by omega) _)).tr (swmF.s7 ht (by omega))
      refine ⟨swI t 5 nv (nI (swcn p k + 1)), ⟨hFt.tr (swmF.i5 _ _ _), by rw [hc]; exact swI_self, fun j hj => ?_, fun j hj o ho => ?_⟩, ?_⟩
      · rw [swI_ne (by omega), ht.1 6 (by omega)]
        by_cases e2 : j = swcn p k
        · rw [e2, swI_self, hsk]
        · rw [swI_k (by omega)]
          exact i6 j (by omega)
      · rw [swI_ne (by omega)]
        by_cases e2 : j = swcn p k
        · rw [e2, ht.2.1 o ho, swI_ne (by omega), hsk]
          exact s7 o ho
        · rw [ht.2.2.1 _ (by omega), swI_ne (by omega)]
          exact i7 j (by omega) o ho
      · show mx_edits_L55 but (nI nv) (nI hb) _ (f + 1) (nI k) s = mx_edits_L55 but (nI nv) (nI hb) _ f (nI (k + 1)) _
        rw [mx_edits_L55]
        have hq : ¬ d.2.1 k = but := by rw [hbut k hk]; exact e
        have hle : ¬ nI d.1 ≤ nI k := by rw [swleI (by omega) (by omega)]; omega
        rw [swrd_n (by omega) (by omega), s5, if_neg hle, sw8m, nI_add, swrd_n (by omega) (by omega), s6, if_neg hq, swrd_n (by omega) (by omega), i5, sw8m, nI_add, swgd_n (by omega) (by omega), swlt_e, nI_clamp (n := 8 * nv + swcn p k) (by omega)]
        refine Eq.trans he ?_
        rw [swrd_n (by omega) (by omega), t5, swgd_n (by omega) (by omega), swlt_e, nI_clamp (n := nv) (by omega), nI_1, nI_1]) (by omega)
  refine ⟨s, ⟨hF, i5, i6, i7⟩, Eq.trans hf ?_⟩
  show mx_edits_L55 but (nI nv) (nI hb) KK (f + 1) (nI d.1) s = _
  rw [mx_edits_L55]
  have s5 : s.1 5 hb = nI d.1 := (hF.2.1 hb (by omega)).trans V5
  simp (disch := omega) only [swlt_e, swbd_e, swrd_n, swgd_n, nI_clamp, sw8m, sw4m, sw4r, nI_add, nI_1, swsub, swsubn, sw4le, swleI, swltI, sweqI, sweqm, sw0add, if_pos, if_neg, if_true, if_false, sw1n0, sw0n1, eq_self, ↓reduceIte, s5]
theorem pm_edits {w : swU} {nv b hb : Nat} {d : swD} (hn : w.1 0 1 = nI nv) (h40 : nv < 40) (b6 : b < 6) (h10 : w.1 10 b = nI hb) (hhb : hb < nv) (hd : swmD w hb d) (but : Int32) {p : Nat} (hp : p ≤ d.1) (hbut : ∀ k, k < d.1 → (d.2.1 k = but) = (k = p)) : ∃ w', mx_edits w (nI b) but = some (nI nv, w') ∧ swMW nv b hb (-1) (swrm d p) w w' ∧ w'.1 0 8 = w.1 0 8 := by
  obtain ⟨-, h8, hsz, hr, hv⟩ := hd
  obtain ⟨V, hV⟩ : ∃ V, V = swI (swI (swI (swI (swI w 0 1 (nI (nv + 1))) 2 nv (nI b)) 3 nv (nI hb)) 4 nv (-1)) 5 nv 0 := ⟨_, rfl⟩
  have V5 : V.1 5 hb = nI d.1 := by
    subst hV
    simp (disch := omega) only [swlt_e, swbd_e, swrd_n, swgd_n, nI_clamp, sw8m, sw4m, sw4r, nI_add, nI_1, swsub, swsubn, sw4le, swleI, swltI, sweqI, sweqm, sw0add, if_pos, if_neg, if_true, if_false, sw1n0, sw0n1, eq_self, ↓reduceIte, swI_k, swI_ne]
    exact hsz
  have V6 : V.1 6 = w.1 6 := by
    subst hV
    simp (disch := omega) only [swlt_e, swbd_e, swrd_n, swgd_n, nI_clamp, sw8m, sw4m, sw4r, nI_add, nI_1, swsub, swsubn, sw4le, swleI, swltI, sweqI, sweqm, sw0add, if_pos, if_neg, if_true, if_false, sw1n0, sw0n1, eq_self, ↓reduceIte, swI_ne]
  have V7 : V.1 7 = w.1 7 := by
    subst hV
    simp (disch := omega) only [swlt_e, swbd_e, swrd_n, swgd_n, nI_clamp, sw8m, sw4m, sw4r, nI_add, nI_1, swsub, swsubn, sw4le, swleI, swltI, sweqI, sweqm, sw0add, if_pos, if_neg, if_true, if_false, sw1n0, sw0n1, eq_self, ↓reduceIte, swI_ne]
  obtain ⟨s, ⟨hF, i5, i6, i7⟩, hf⟩ := pm_ed2 (V := V) h40 hhb h8 V5 (by subst hV; exact swI_self) (fun k hk => by rw [V6]; exact hr k hk) (fun k hk o ho => by rw [V7]; exact hv k hk o ho) but hp hbut (fun v5 w176 => swgd (swix (nI b) 6) <| swlt (swI w176 10 (nI b).toNatClampNeg (nI nv)) fun u182 => some (nI nv, u182))
  refine ⟨swI s 10 b (nI nv), ?_, ?_, ?_⟩
  · unfold mx_edits
    rw [swlt_e, hn, swrd_n b6 (by omega), h10, swlt_e, swgd_n (by omega) (by omega), swlt_e, swgd_n (by omega) (by omega), swlt_e, swgd_n (by omega) (by omega), swlt_e, swgd_n (by omega) (by omega), swlt_e, nI_clamp (n := nv) (by omega), nI_1, ← hV]
    refine Eq.trans hf ?_
    simp (disch := omega) only [swlt_e, swbd_e, swrd_n, swgd_n, nI_clamp, sw8m, sw4m, sw4r, nI_add, nI_1, swsub, swsubn, sw4le, swleI, swltI, sweqI, sweqm, sw0add, if_pos, if_neg, if_true, if_false, sw1n0, sw0n1, eq_self, ↓reduceIte]
  · obtain ⟨f1, f2, f3, f4⟩ := hF
    have g := fun q (h : q ≠ 5 ∧ q ≠ 6 ∧ q ≠ 7) => f1 q h.1 h.2.1 h.2.2
    have hcn : swcn p d.1 = (swrm d p).1 := by
      unfold swcn swrm
      rfl
    have hle : (swrm d p).1 ≤ d.1 := by
      unfold swrm
      show (if p < d.1 then d.1 - 1 else d.1) ≤ d.1
      split <;> omega
    refine ⟨?_, fun k q1 q2 => ?_, swI_self, fun k hk => ?_, ?_, ?_, ?_, fun k hk => ⟨?_, ?_, ?_, ?_⟩, fun i hi => ?_, fun i hi => ?_, fun q hq => ?_, h40, by omega, ?_, fun k hk => ?_, fun k hk o ho => ?_⟩
    · rw [swI_ne (by omega), g 0 (by omega), hV]
      simp (disch := omega) only [swlt_e, swbd_e, swrd_n, swgd_n, nI_clamp, sw8m, sw4m, sw4r, nI_add, nI_1, swsub, swsubn, sw4le, swleI, swltI, sweqI, sweqm, sw0add, if_pos, if_neg, if_true, if_false, sw1n0, sw0n1, eq_self, ↓reduceIte, swI_ne, swI_self]
    · rw [swI_ne (by omega), g 0 (by omega), hV]
      simp (disch := omega) only [swlt_e, swbd_e, swrd_n, swgd_n, nI_clamp, sw8m, sw4m, sw4r, nI_add, nI_1, swsub, swsubn, sw4le, swleI, swltI, sweqI, sweqm, sw0add, if_pos, if_neg, if_true, if_false, sw1n0, sw0n1, eq_self, ↓reduceIte, swI_ne, swI_k]
    · rw [swI_k hk, g 10 (by omega), hV]
      simp (disch := omega) only [swlt_e, swbd_e, swrd_n, swgd_n, nI_clamp, sw8m, sw4m, sw4r, nI_add, nI_1, swsub, swsubn, sw4le, swleI, swltI, sweqI, sweqm, sw0add, if_pos, if_neg, if_true, if_false, sw1n0, sw0n1, eq_self, ↓reduceIte, swI_ne]
    · rw [swI_ne (by omega), g 2 (by omega), hV]
      simp (disch := omega) only [swlt_e, swbd_e, swrd_n, swgd_n, nI_clamp, sw8m, sw4m, sw4r, nI_add, nI_1, swsub, swsubn, sw4le, swleI, swltI, sweqI, sweqm, sw0add, if_pos, if_neg, if_true, if_false, sw1n0, sw0n1, eq_self, ↓reduceIte, swI_ne, swI_self]
    · rw [swI_ne (by omega), g 3 (by omega), hV]
      simp (disch := omega) only [swlt_e, swbd_e, swrd_n, swgd_n, nI_clamp, sw8m, sw4m, sw4r, nI_add, nI_1, swsub, swsubn, sw4le, swleI, swltI, sweqI, sweqm, sw0add, if_pos, if_neg, if_true, if_false, sw1n0, sw0n1, eq_self, ↓reduceIte, swI_ne, swI_self]
    · rw [swI_ne (by omega), g 4 (by omega), hV]
      simp (disch := omega) only [swlt_e, swbd_e, swrd_n, swgd_n, nI_clamp, sw8m, sw4m, sw4r, nI_add, nI_1, swsub, swsubn, sw4le, swleI, swltI, sweqI, sweqm, sw0add, if_pos, if_neg, if_true, if_false, sw1n0, sw0n1, eq_self, ↓reduceIte, swI_ne, swI_self]
    · rw [swI_ne (by omega), g 2 (by omega), hV]
      simp (disch := omega) only [swlt_e, swbd_e, swrd_n, swgd_n, nI_clamp, sw8m, sw4m, sw4r, nI_add, nI_1, swsub, swsubn, sw4le, swleI, swltI, sweqI, sweqm, sw0add, if_pos, if_neg, if_true, if_false, sw1n0, sw0n1, eq_self, ↓reduceIte, swI_ne, swI_k]
    · rw [swI_ne (by omega), g 3 (by omega), hV]
      simp (disch := omega) only [swlt_e, swbd_e, swrd_n, swgd_n, nI_clamp, sw8m, sw4m, sw4r, nI_add, nI_1, swsub, swsubn, sw4le, swleI, swltI, sweqI, sweqm, sw0add, if_pos, if_neg, if_true, if_false, sw1n0, sw0n1, eq_self, ↓reduceIte, swI_ne, swI_k]
    · rw [swI_ne (by omega), g 4 (by omega), hV]
      simp (disch := omega) only [swlt_e, swbd_e, swrd_n, swgd_n, nI_clamp, sw8m, sw4m, sw4r, nI_add, nI_1, swsub, swsubn, sw4le, swleI, swltI, sweqI, sweqm, sw0add, if_pos, if_neg, if_true, if_false, sw1n0, sw0n1, eq_self, ↓reduceIte, swI_ne, swI_k]
    · rw [swI_ne (by omega), f2 k hk, hV]
      simp (disch := omega) only [swlt_e, swbd_e, swrd_n, swgd_n, nI_clamp, sw8m, sw4m, sw4r, nI_add, nI_1, swsub, swsubn, sw4le, swleI, swltI, sweqI, sweqm, sw0add, if_pos, if_neg, if_true, if_false, sw1n0, sw0n1, eq_self, ↓reduceIte, swI_ne, swI_k]
    · rw [swI_ne (by omega), f3 i hi, V6]
    · rw [swI_ne (by omega), f4 i hi, V7]
    · rw [swI_ne (by omega), g q (by omega), hV]
      simp (disch := omega) only [swlt_e, swbd_e, swrd_n, swgd_n, nI_clamp, sw8m, sw4m, sw4r, nI_add, nI_1, swsub, swsubn, sw4le, swleI, swltI, sweqI, sweqm, sw0add, if_pos, if_neg, if_true, if_false, sw1n0, sw0n1, eq_self, ↓reduceIte, swI_ne]
    · rw [swI_ne (by omega), i5, hcn]
    · rw [swI_ne (by omega)]
      exact i6 k (by rw [hcn]; exact hk)
    · rw [swI_ne (by omega)]
      exact i7 k (by rw [hcn]; exact hk) o ho
  · rw [swI_ne (by omega), hF.1 0 (by omega) (by omega) (by omega), hV]
    simp (disch := omega) only [swlt_e, swbd_e, swrd_n, swgd_n, nI_clamp, sw8m, sw4m, sw4r, nI_add, nI_1, swsub, swsubn, sw4le, swleI, swltI, sweqI, sweqm, sw0add, if_pos, if_neg, if_true, if_false, sw1n0, sw0n1, eq_self, ↓reduceIte, swI_ne, swI_k]
theorem pm_mv1 {nv k : Nat} (h40 : nv < 40) (hk : 0 < k) (hk8 : k < 8) {s : swU} (kk : Int32 → swU → Option (Int32 × swU)) : ∃ s', sw4s 7 (4 * (8 * nv + k)) (fun o => s.1 7 (4 * (8 * nv + (k - 1)) + o)) 4 s s' ∧ mx_add_L133 (nI nv) (nI k) kk 64 0 s = kk (nI 4) s' := by
  obtain ⟨s', hs', f, hf⟩ := sw_upS (σ := swU) (fun f o s => mx_add_L133 (nI nv) (nI k) kk f (nI o) s) (fun o s' => sw4s 7 (4 * (8 * nv + k)) (fun o => s.1 7 (4 * (8 * nv + (k - 1)) + o)) o s s') 4 s (sw4s.zero _ _ _ _) (by
    intro f o t ho hI
    refine ⟨_, hI.step, ?_⟩
    show mx_add_L133 (nI nv) (nI k) kk (f + 1) (nI o) t = mx_add_L133 (nI nv) (nI k) kk f (nI (o + 1)) _
    rw [mx_add_L133]
    have h7 : t.1 7 (4 * (8 * nv + k - 1) + o) = s.1 7 (4 * (8 * nv + (k - 1)) + o) := by
      rw [show 8 * nv + k - 1 = 8 * nv + (k - 1) by omega]
      exact hI.2.2.1 _ (by omega)
    simp (disch := omega) only [swlt_e, swbd_e, swrd_n, swgd_n, nI_clamp, sw8m, sw4m, sw4r, nI_add, nI_1, swsub, swsubn, sw4le, swleI, swltI, sweqI, sweqm, sw0add, if_pos, if_neg, if_true, if_false, sw1n0, sw0n1, eq_self, ↓reduceIte, h7]) (by omega)
  refine ⟨s', hs', Eq.trans hf ?_⟩
  show mx_add_L133 (nI nv) (nI k) kk (f + 1) (nI 4) s' = _
  rw [mx_add_L133]
  simp (disch := omega) only [swlt_e, swbd_e, swrd_n, swgd_n, nI_clamp, sw8m, sw4m, sw4r, nI_add, nI_1, swsub, swsubn, sw4le, swleI, swltI, sweqI, sweqm, sw0add, if_pos, if_neg, if_true, if_false, sw1n0, sw0n1, eq_self, ↓reduceIte]
theorem pm_shift {w : swU} {nv : Nat} {d : swD} (h40 : nv < 40) (hn8 : d.1 < 8) {p : Nat} (hp : p ≤ d.1) (KK : Int32 → swU → Option (Int32 × swU)) : ∃ s, (swmF nv w s ∧ s.1 5 nv = w.1 5 nv ∧ (∀ k, k ≤ p → s.1 6 (8 * nv + k) = w.1 6 (8 * nv + k) ∧ ∀ o, o < 4 → s.1 7 (4 * (8 * nv + k) + o) = w.1 7 (4 * (8 * nv + k) + o)) ∧ (∀ k, p < k → k ≤ d.1 → s.1 6 (8 * nv + k) = w.1 6 (8 * nv + (k - 1)) ∧ ∀ o, o < 4 → s.1 7 (4 * (8 * nv + k) + o) = w.1 7 (4 * (8 * nv + (k - 1)) + o))) ∧ mx_add_L98 (nI p) (nI nv) KK 64 (nI d.1) w = KK (nI p) s := by
  obtain ⟨s, ⟨hF, i5, i3, i4⟩, f, hf⟩ := sw_upS (σ := swU) (fun f t s => mx_add_L98 (nI p) (nI nv) KK f (nI (d.1 - t)) s)
    (fun t s => swmF nv w s ∧ s.1 5 nv = w.1 5 nv ∧ (∀ k, k ≤ d.1 - t → s.1 6 (8 * nv + k) = w.1 6 (8 * nv + k) ∧ ∀ o, o < 4 → s.1 7 (4 * (8 * nv + k) + o) = w.1 7 (4 * (8 * nv + k) + o)) ∧ (∀ k, d.1 - t < k → k ≤ d.1 → s.1 6 (8 * nv + k) = w.1 6 (8 * nv + (k - 1)) ∧ ∀ o, o < 4 → s.1 7 (4 * (8 * nv + k) + o) = w.1 7 (4 * (8 * nv + (k - 1)) + o))) (d.1 - p) w ⟨swmF.rf _ _, rfl, fun _ _ => ⟨rfl, fun _ _ => rfl⟩, fun k a b => by omega⟩ (by
    intro f t s ht hI
    obtain ⟨hF, i5, i3, i4⟩ := hI
    obtain ⟨k, hk⟩ : ∃ k, k = d.1 - t := ⟨_, rfl⟩
    rw [← hk] at i3 i4
    have hk1 : d.1 - (t + 1) = k - 1 := by omega
    have hkd : k ≤ d.1 := by omega
    have hkp : p < k := by omega
    have hk8 : k < 8 := by omega
    clear hk
    obtain ⟨t', ht', he⟩ := pm_mv1 (s := swI s 6 (8 * nv + k) (s.1 6 (8 * nv + (k - 1)))) h40 (show 0 < k by omega) hk8 (fun v5 w181 => mx_add_L98 (nI p) (nI nv) KK f (nI k + (-1)) w181)
    rw [hk1]
    refine ⟨t', ⟨(hF.tr (swmF.i6 nv s (by omega) _)).tr (swmF.s7 ht' (by omega)), ?_, fun j hj => ?_, fun j a b => ?_⟩, ?_⟩
    · rw [ht'.1 5 (by omega), swI_ne (by omega)]
      exact i5
    · rw [ht'.1 6 (by omega), swI_k (by omega)]
      refine ⟨(i3 j (by omega)).1, fun o ho => ?_⟩
      rw [ht'.2.2.1 _ (by omega), swI_ne (by omega)]
      exact (i3 j (by omega)).2 o ho
    · by_cases e : j = k
      · subst e
        rw [ht'.1 6 (by omega), swI_self]
        refine ⟨(i3 _ (by omega)).1, fun o ho => ?_⟩
        rw [ht'.2.1 o ho, swI_ne (by omega)]
        exact (i3 _ (by omega)).2 o ho
      · rw [ht'.1 6 (by omega), swI_k (by omega)]
        refine ⟨(i4 j (by omega) b).1, fun o ho => ?_⟩
        rw [ht'.2.2.1 _ (by omega), swI_ne (by omega)]
        exact (i4 j (by omega) b).2 o ho
    · have hle : ¬ nI k ≤ nI p := by rw [swleI (by omega) (by omega)]; omega
      show mx_add_L98 (nI p) (nI nv) KK (f + 1) (nI (d.1 - t)) s = mx_add_L98 (nI p) (nI nv) KK f (nI (k - 1)) t'
      rw [show d.1 - t = k by omega, mx_add_L98, if_neg hle, sw8m, nI_add, swsub (by omega), show 8 * nv + k - 1 = 8 * nv + (k - 1) by omega, swrd_n (by omega) (by omega), swgd_n (by omega) (by omega), swlt_e, nI_clamp (by omega)]
      refine Eq.trans he ?_
      rw [swsubn (by omega)]) (by omega)
  rw [show d.1 - (d.1 - p) = p by omega] at i3 i4
  refine ⟨s, ⟨hF, i5, i3, i4⟩, Eq.trans hf ?_⟩
  show mx_add_L98 (nI p) (nI nv) KK (f + 1) (nI (d.1 - (d.1 - p))) s = _
  have hle : nI p ≤ nI p := by rw [swleI (by omega) (by omega)]; omega
  rw [show d.1 - (d.1 - p) = p by omega, mx_add_L98, if_pos hle]
theorem pm_zero {s : swU} {nv p : Nat} (h40 : nv < 40) (hp : p < 8) (KK : Int32 → swU → Option (Int32 × swU)) : ∃ z, sw4s 7 (4 * (8 * nv + p)) (fun _ => 0) 4 s z ∧ mx_add_L205 (nI p) (nI nv) KK 64 0 s = KK (nI 4) z := by
  obtain ⟨z, hz, g, hg⟩ := sw_upS (σ := swU) (fun f o s => mx_add_L205 (nI p) (nI nv) KK f (nI o) s) (fun o s' => sw4s 7 (4 * (8 * nv + p)) (fun _ => 0) o s s') 4 s (sw4s.zero _ _ _ _) (by
    intro f o s ho hI
    refine ⟨_, hI.step, ?_⟩
    show mx_add_L205 (nI p) (nI nv) _ (f + 1) (nI o) s = mx_add_L205 (nI p) (nI nv) _ f (nI (o + 1)) _
    rw [mx_add_L205]
    simp (disch := omega) only [swlt_e, swbd_e, swrd_n, swgd_n, nI_clamp, sw8m, sw4m, sw4r, nI_add, nI_1, swsub, swsubn, sw4le, swleI, swltI, sweqI, sweqm, sw0add, if_pos, if_neg, if_true, if_false, sw1n0, sw0n1, eq_self, ↓reduceIte]) (by omega)
  refine ⟨z, hz, Eq.trans hg ?_⟩
  show mx_add_L205 (nI p) (nI nv) _ (g + 1) (nI 4) z = _
  rw [mx_add_L205]
  simp (disch := omega) only [swlt_e, swbd_e, swrd_n, swgd_n, nI_clamp, sw8m, sw4m, sw4r, nI_add, nI_1, swsub, swsubn, sw4le, swleI, swltI, sweqI, sweqm, sw0add, if_pos, if_neg, if_true, if_false, sw1n0, sw0n1, eq_self, ↓reduceIte]
theorem pm_addtail {w : swU} {nv ns : Nat} {d : swD} (h40 : nv < 40) (hd : swmD w nv d) (hn8 : d.1 < 8) {p : Nat} (hp : p ≤ d.1) (hns : w.1 0 8 = nI ns) (K : swU → Option (Int32 × swU)) : ∃ w', mx_add_L98 (nI p) (nI nv) (fun v4 w187 => swgd (swix (((8 * (nI nv)) + (nI p))) 320) <| swlt (swI w187 6 (((8 * (nI nv)) + (nI p))).toNatClampNeg (w187.1 0 8)) fun u201 => mx_add_L205 (nI p) (nI nv) (fun v4 w234 => swrd 40 (w234.1 5) (nI nv) fun a240 => swgd (swix (nI nv) 40) <| swlt (swI w234 5 (nI nv).toNatClampNeg (a240 + 1)) fun u243 => K u243) 64 0 u201) 64 (nI d.1) w = K w' ∧ swmF nv w w' ∧ swmD w' nv (swins d p (nI ns)) := by
  obtain ⟨-, h8, hn, hr, hv⟩ := hd
  obtain ⟨s, ⟨hF, i5, i3, i4⟩, hf⟩ := pm_shift (w := w) h40 hn8 hp (fun v4 w187 => swgd (swix (((8 * (nI nv)) + (nI p))) 320) <| swlt (swI w187 6 (((8 * (nI nv)) + (nI p))).toNatClampNeg (w187.1 0 8)) fun u201 => mx_add_L205 (nI p) (nI nv) (fun v4 w234 => swrd 40 (w234.1 5) (nI nv) fun a240 => swgd (swix (nI nv) 40) <| swlt (swI w234 5 (nI nv).toNatClampNeg (a240 + 1)) fun u243 => K u243) 64 0 u201)
  obtain ⟨z, hz, hg⟩ := pm_zero (s := swI s 6 (8 * nv + p) (nI ns)) h40 (show p < 8 by omega) (fun v4 w234 => swrd 40 (w234.1 5) (nI nv) fun a240 => swgd (swix (nI nv) 40) <| swlt (swI w234 5 (nI nv).toNatClampNeg (a240 + 1)) fun u243 => K u243)
  have z5 : z.1 5 nv = nI d.1 := by
    rw [hz.1 5 (by omega), swI_ne (by omega), i5]
    exact hn
  have s8 : s.1 0 8 = nI ns := by
    rw [hF.1 0 (by omega) (by omega) (by omega)]
    exact hns
  refine ⟨swI z 5 nv (nI (d.1 + 1)), ?_, ((hF.tr (swmF.i6 nv s (by omega) _)).tr (swmF.s7 hz (by omega))).tr (swmF.i5 _ _ _), h40, by show d.1 + 1 ≤ 8; omega, swI_self, fun k hk => ?_, fun k hk o ho => ?_⟩
  · refine Eq.trans hf ?_
    show (swgd (swix (8 * nI nv + nI p) 320) <| swlt (swI s 6 (8 * nI nv + nI p).toNatClampNeg (s.1 0 8)) fun u201 => mx_add_L205 (nI p) (nI nv) _ 64 0 u201) = _
    rw [sw8m, nI_add, swgd_n (by omega) (by omega), swlt_e, nI_clamp (n := 8 * nv + p) (by omega), s8]
    refine Eq.trans hg ?_
    simp (disch := omega) only [swlt_e, swbd_e, swrd_n, swgd_n, nI_clamp, sw8m, sw4m, sw4r, nI_add, nI_1, swsub, swsubn, sw4le, swleI, swltI, sweqI, sweqm, sw0add, if_pos, if_neg, if_true, if_false, sw1n0, sw0n1, eq_self, ↓reduceIte, z5]
  · have hk2 : k < d.1 + 1 := hk
    rw [swI_ne (by omega), hz.1 6 (by omega)]
    show _ = if k < p then d.2.1 k else if k = p then nI ns else d.2.1 (k - 1)
    by_cases e1 : k < p
    · rw [if_pos e1, swI_k (by omega), (i3 k (by omega)).1]
      exact hr k (by omega)
    · by_cases e2 : k = p
      · rw [if_neg e1, if_pos e2, e2, swI_self]
      · rw [if_neg e1, if_neg e2, swI_k (by omega), (i4 k (by omega) (by omega)).1]
        exact hr _ (by omega)
  · have hk2 : k < d.1 + 1 := hk
    rw [swI_ne (by omega)]
    show _ = if k < p then d.2.2 k o else if k = p then 0 else d.2.2 (k - 1) o
    by_cases e1 : k < p
    · rw [if_pos e1, hz.2.2.1 _ (by omega), swI_ne (by omega), (i3 k (by omega)).2 o ho]
      exact hv k (by omega) o ho
    · by_cases e2 : k = p
      · rw [if_neg e1, if_pos e2, e2, hz.2.1 o ho]
      · rw [if_neg e1, if_neg e2, hz.2.2.1 _ (by omega), swI_ne (by omega), (i4 k (by omega) (by omega)).2 o ho]
        exact hv _ (by omega) o ho
