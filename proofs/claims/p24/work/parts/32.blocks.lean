/-! ===== RULES, WAIVERS: what blocks, on both sides ===== -/
def sw_any : Nat → (Nat → Bool) → Bool
  | 0, _ => false
  | n + 1, p => sw_any n p || p n
theorem sw_any_iff (p : Nat → Bool) : ∀ n, (sw_any n p = true ↔ ∃ k, k < n ∧ p k = true) := by
  intro n
  induction n with
  | zero => exact ⟨fun h => absurd h Bool.false_ne_true, fun ⟨k, h, _⟩ => absurd h (Nat.not_lt_zero k)⟩
  | succ n ih =>
    show (sw_any n p || p n) = true ↔ _
    rw [Bool.or_eq_true, ih]
    constructor
    · rintro (⟨k, hk, hp⟩ | h)
      · exact ⟨k, by omega, hp⟩
      · exact ⟨n, by omega, h⟩
    · rintro ⟨k, hk, hp⟩
      by_cases hkn : k = n
      · subst hkn
        exact Or.inr hp
      · exact Or.inl ⟨k, by omega, hp⟩
theorem sw_any_fst (p : Nat → Bool) (n : Nat) : sw_any n p = decide (sw_fst n p < n) := by
  by_cases h : sw_fst n p < n
  · rw [decide_eq_true h]
    exact (sw_any_iff p n).mpr ⟨_, h, sw_fst_yes p n h⟩
  · rw [decide_eq_false h]
    cases hq : sw_any n p
    · rfl
    · obtain ⟨k, hk, hp⟩ := (sw_any_iff p n).mp hq
      have := sw_fst_no p n k (by omega)
      rw [hp] at this
      cases this
abbrev swEv : Type := Nat × (Nat → Nat → Int32) × Nat × (Nat → Nat → Int32) × Nat
def swcE (u : swU) (E : swEv) : Prop := E.1 ≤ 8 ∧ u.1 0 9 = nI E.1 ∧ (∀ r, r < E.1 → ∀ j, j < 4 → u.1 (10 + r) j = E.2.1 r j) ∧ (∀ r, r < E.1 → ∃ o, o < 4 ∧ E.2.1 r 1 = nI o) ∧ E.2.2.1 ≤ 12 ∧ u.1 0 10 = nI E.2.2.1 ∧ (∀ k, k < E.2.2.1 → ∀ j, j < 3 → u.1 (20 + k) j = E.2.2.2.1 k j) ∧ u.1 0 11 = nI E.2.2.2.2
def swWq (E : swEv) (r s : Int32) (k : Nat) : Bool := if E.2.2.2.1 k 0 = r then (if E.2.2.2.1 k 1 = s then (if E.2.2.2.1 k 2 < nI E.2.2.2.2 then false else true) else false) else false
def swWV (E : swEv) (r s : Int32) : Bool := sw_any E.2.2.1 (swWq E r s)
def swBR (E : swEv) (r : Nat) (x : Int32) : Bool := if x = 0 then false else if x < E.2.1 r 2 then true else if E.2.1 r 3 < x then true else false
def swBL (E : swEv) (r : Nat) (s x : Int32) : Bool := if swBR E r x = false then false else if E.2.1 r 0 = 0 then true else if E.2.1 r 0 = 1 then !swWV E (nI r) s else false
def swob (E : swEv) (r : Nat) : Nat := (E.2.1 r 1).toNatClampNeg
def swBA (E : swEv) (d : swD) (k : Nat) : Nat := sw_cnt E.1 (fun r => swBL E r (d.2.1 k) (d.2.2 k (swob E r)))
def swBK (E : swEv) (d : swD) : Nat := sw_sum d.1 (swBA E d)
def swWA (E : swEv) (d : swD) (k : Nat) : Nat := sw_cnt E.1 (fun r => decide (E.2.1 r 0 = 2) && swBR E r (d.2.2 k (swob E r)))
def swWK (E : swEv) (d : swD) : Nat := sw_sum d.1 (swWA E d)
theorem swBA_le (E : swEv) (d : swD) (k : Nat) (h : E.1 ≤ 8) : swBA E d k ≤ 8 := Nat.le_trans (sw_cnt_le _ _) h
theorem swBK_le (E : swEv) (d : swD) (h : E.1 ≤ 8) (h8 : d.1 ≤ 8) : swBK E d ≤ 64 := Nat.le_trans (sw_sum_le _ 8 (fun k => swBA_le E d k h) _) (by omega)
theorem swBK_pre (E : swEv) (d : swD) (h : E.1 ≤ 8) (k : Nat) (hk : k ≤ 8) : sw_sum k (swBA E d) ≤ 64 := Nat.le_trans (sw_sum_le _ 8 (fun k => swBA_le E d k h) _) (by omega)
theorem swWK_pre (E : swEv) (d : swD) (h : E.1 ≤ 8) (k : Nat) (hk : k ≤ 8) : sw_sum k (swWA E d) ≤ 64 := Nat.le_trans (sw_sum_le _ 8 (fun k => Nat.le_trans (sw_cnt_le _ _) h) _) (by omega)
theorem sw_obj {E : swEv} {r : Nat} (h : ∃ o, o < 4 ∧ E.2.1 r 1 = nI o) : swob E r < 4 ∧ E.2.1 r 1 = nI (swob E r) := by
  obtain ⟨o, ho, he⟩ := h
  have hc : swob E r = o := by
    unfold swob
    rw [he, nI_clamp (by omega)]
  rw [hc]
  exact ⟨ho, he⟩
theorem swle00 : ((0 : Int32) ≤ 0) = True := propext ⟨fun _ => trivial, fun _ => by decide⟩
theorem sw_nle {a b : Int32} : (a ≤ b) = ¬ b < a := propext Int32.not_lt.symm
theorem pc_isWaived {u : swU} {E : swEv} (h : swcE u E) (r s : Int32) : xx5_isWaived u r s = some (swWV E r s) := by
  obtain ⟨-, -, -, -, hk12, hnk, hwv, hday⟩ := h
  unfold xx5_isWaived swWV
  rw [sw_any_fst]
  have hle := sw_fst_le (swWq E r s) E.2.2.1
  refine sw_up (fun f k => xx5_isWaived_L2 u r s (fun v4 => some false) f (nI k)) (sw_fst E.2.2.1 (swWq E r s)) _ (fun f k hk => ?_) (fun f => ?_) (by omega)
  · show xx5_isWaived_L2 u r s _ (f + 1) (nI k) = xx5_isWaived_L2 u r s _ f (nI (k + 1))
    rw [xx5_isWaived_L2]
    have hno := sw_fst_no _ _ k hk
    have w0 := hwv k (by omega) 0 (by omega)
    have w1 := hwv k (by omega) 1 (by omega)
    have w2 := hwv k (by omega) 2 (by omega)
    unfold swWq at hno
    by_cases e1 : E.2.2.2.1 k 0 = r
    · by_cases e2 : E.2.2.2.1 k 1 = s
      · by_cases e3 : E.2.2.2.1 k 2 < nI E.2.2.2.2
        · simp (disch := omega) only [swlt_e, swbd_e, swrd_n, swgd_n, nI_clamp, sw8m, sw4m, sw4r, nI_add, nI_1, swsub, swsubn, sw4le, swleI, swltI, sweqI, sweqm, sw0add, if_pos, if_neg, if_true, if_false, sw1n0, sw0n1, eq_self, ↓reduceIte, hnk, w0, w1, w2, hday, e1, e2, e3]
        · rw [if_pos e1, if_pos e2, if_neg e3] at hno
          cases hno
      · simp (disch := omega) only [swlt_e, swbd_e, swrd_n, swgd_n, nI_clamp, sw8m, sw4m, sw4r, nI_add, nI_1, swsub, swsubn, sw4le, swleI, swltI, sweqI, sweqm, sw0add, if_pos, if_neg, if_true, if_false, sw1n0, sw0n1, eq_self, ↓reduceIte, hnk, w0, w1, w2, hday, e1, e2]
    · simp (disch := omega) only [swlt_e, swbd_e, swrd_n, swgd_n, nI_clamp, sw8m, sw4m, sw4r, nI_add, nI_1, swsub, swsubn, sw4le, swleI, swltI, sweqI, sweqm, sw0add, if_pos, if_neg, if_true, if_false, sw1n0, sw0n1, eq_self, ↓reduceIte, hnk, w0, w1, w2, hday, e1]
  · show xx5_isWaived_L2 u r s _ (f + 1) (nI (sw_fst E.2.2.1 (swWq E r s))) = _
    rw [xx5_isWaived_L2]
    by_cases hl : sw_fst E.2.2.1 (swWq E r s) < E.2.2.1
    · have hy := sw_fst_yes _ _ hl
      have w0 := hwv _ hl 0 (by omega)
      have w1 := hwv _ hl 1 (by omega)
      have w2 := hwv _ hl 2 (by omega)
      have hy2 : E.2.2.2.1 (sw_fst E.2.2.1 (swWq E r s)) 0 = r ∧ E.2.2.2.1 (sw_fst E.2.2.1 (swWq E r s)) 1 = s ∧ ¬ E.2.2.2.1 (sw_fst E.2.2.1 (swWq E r s)) 2 < nI E.2.2.2.2 := by
        generalize sw_fst E.2.2.1 (swWq E r s) = q at hy ⊢
        unfold swWq at hy
        by_cases e1 : E.2.2.2.1 q 0 = r
        · by_cases e2 : E.2.2.2.1 q 1 = s
          · by_cases e3 : E.2.2.2.1 q 2 < nI E.2.2.2.2
            · rw [if_pos e1, if_pos e2, if_pos e3] at hy
              cases hy
            · exact ⟨e1, e2, e3⟩
          · rw [if_pos e1, if_neg e2] at hy
            cases hy
        · rw [if_neg e1] at hy
          cases hy
      obtain ⟨e1, e2, e3⟩ := hy2
      simp (disch := omega) only [swlt_e, swbd_e, swrd_n, swgd_n, nI_clamp, sw8m, sw4m, sw4r, nI_add, nI_1, swsub, swsubn, sw4le, swleI, swltI, sweqI, sweqm, sw0add, if_pos, if_neg, if_true, if_false, sw1n0, sw0n1, eq_self, ↓reduceIte, hnk, w0, w1, w2, hday, e1, e2, e3]
      rw [decide_eq_true hl]
    · simp (disch := omega) only [swlt_e, swbd_e, swrd_n, swgd_n, nI_clamp, sw8m, sw4m, sw4r, nI_add, nI_1, swsub, swsubn, sw4le, swleI, swltI, sweqI, sweqm, sw0add, if_pos, if_neg, if_true, if_false, sw1n0, sw0n1, eq_self, ↓reduceIte, hnk]
      rw [decide_eq_false hl]
theorem pc_isBrokenAt {u : swU} {E : swEv} (h : swcE u E) {r : Nat} (hr : r < E.1) {c : Nat} {d : swD} (hd : swcD u c d) {k : Nat} (hk : k < d.1) : xx2_isBrokenAt u (10 + r) c (nI k) = some (swBR E r (d.2.2 k (swob E r))) := by
  obtain ⟨h8, -, hru, hob, -⟩ := h
  obtain ⟨ho, heo⟩ := sw_obj (hob r hr)
  have r1 := hru r hr 1 (by omega)
  have r2 := hru r hr 2 (by omega)
  have r3 := hru r hr 3 (by omega)
  unfold xx2_isBrokenAt swBR
  rw [r1, heo, pc_valueAt hd hk ho]
  generalize d.2.2 k (swob E r) = x
  by_cases e1 : x = 0
  · simp (disch := omega) only [swlt_e, swbd_e, swrd_n, swgd_n, nI_clamp, sw8m, sw4m, sw4r, nI_add, nI_1, swsub, swsubn, sw4le, swleI, swltI, sweqI, sweqm, sw0add, if_pos, if_neg, if_true, if_false, sw1n0, sw0n1, eq_self, ↓reduceIte, e1]
  · by_cases e2 : x < E.2.1 r 2
    · simp (disch := omega) only [swlt_e, swbd_e, swrd_n, swgd_n, nI_clamp, sw8m, sw4m, sw4r, nI_add, nI_1, swsub, swsubn, sw4le, swleI, swltI, sweqI, sweqm, sw0add, if_pos, if_neg, if_true, if_false, sw1n0, sw0n1, eq_self, ↓reduceIte, e1, e2, r2, r3]
    · by_cases e3 : E.2.1 r 3 < x
      · simp (disch := omega) only [swlt_e, swbd_e, swrd_n, swgd_n, nI_clamp, sw8m, sw4m, sw4r, nI_add, nI_1, swsub, swsubn, sw4le, swleI, swltI, sweqI, sweqm, sw0add, if_pos, if_neg, if_true, if_false, sw1n0, sw0n1, eq_self, ↓reduceIte, e1, e2, e3, r2, r3, sw_nle, not_true_eq_false]
      · simp (disch := omega) only [swlt_e, swbd_e, swrd_n, swgd_n, nI_clamp, sw8m, sw4m, sw4r, nI_add, nI_1, swsub, swsubn, sw4le, swleI, swltI, sweqI, sweqm, sw0add, if_pos, if_neg, if_true, if_false, sw1n0, sw0n1, eq_self, ↓reduceIte, e1, e2, e3, r2, r3, sw_nle, not_false_eq_true]
theorem pc_isBlocking {u : swU} {E : swEv} (h : swcE u E) {r : Nat} (hr : r < E.1) (s : Int32) : xx5_isBlocking u (nI r) s = some (if E.2.1 r 0 = 0 then true else if E.2.1 r 0 = 1 then !swWV E (nI r) s else false) := by
  have hw := pc_isWaived h (nI r) s
  obtain ⟨h8, -, hru, -⟩ := h
  have r0 := hru r hr 0 (by omega)
  unfold xx5_isBlocking
  by_cases e1 : E.2.1 r 0 = 0
  · simp (disch := omega) only [swlt_e, swbd_e, swrd_n, swgd_n, nI_clamp, sw8m, sw4m, sw4r, nI_add, nI_1, swsub, swsubn, sw4le, swleI, swltI, sweqI, sweqm, sw0add, if_pos, if_neg, if_true, if_false, sw1n0, sw0n1, eq_self, ↓reduceIte, r0, e1]
  · by_cases e2 : E.2.1 r 0 = 1
    · cases hw2 : swWV E (nI r) s
      · simp (disch := omega) only [swlt_e, swbd_e, swrd_n, swgd_n, nI_clamp, sw8m, sw4m, sw4r, nI_add, nI_1, swsub, swsubn, sw4le, swleI, swltI, sweqI, sweqm, sw0add, if_pos, if_neg, if_true, if_false, sw1n0, sw0n1, eq_self, ↓reduceIte, r0, e1, e2, hw, hw2, Bool.not_false]
      · simp (disch := omega) only [swlt_e, swbd_e, swrd_n, swgd_n, nI_clamp, sw8m, sw4m, sw4r, nI_add, nI_1, swsub, swsubn, sw4le, swleI, swltI, sweqI, sweqm, sw0add, if_pos, if_neg, if_true, if_false, sw1n0, sw0n1, eq_self, ↓reduceIte, r0, e1, e2, hw, hw2, Bool.not_true]
    · simp (disch := omega) only [swlt_e, swbd_e, swrd_n, swgd_n, nI_clamp, sw8m, sw4m, sw4r, nI_add, nI_1, swsub, swsubn, sw4le, swleI, swltI, sweqI, sweqm, sw0add, if_pos, if_neg, if_true, if_false, sw1n0, sw0n1, eq_self, ↓reduceIte, r0, e1, e2]
theorem pc_countBlocksAt {u : swU} {E : swEv} (h : swcE u E) {c : Nat} {d : swD} (hd : swcD u c d) {k : Nat} (hk : k < d.1) : xx5_countBlocksAt u c (nI k) = some (nI (swBA E d k)) := by
  have h8 := h.1
  have hn := h.2.1
  have h88 := hd.1
  have hrow := hd.2.2.1 k hk
  unfold xx5_countBlocksAt
  refine sw_up (fun f r => xx5_countBlocksAt_L5 u c (nI k) (fun v3 v4 => some v3) f (nI (sw_cnt r (fun r => swBL E r (d.2.1 k) (d.2.2 k (swob E r))))) (nI r)) E.1 _ (fun f r hr => ?_) (fun f => ?_) (by omega)
  · show xx5_countBlocksAt_L5 u c (nI k) _ (f + 1) _ (nI r) = xx5_countBlocksAt_L5 u c (nI k) _ f (nI (sw_cnt r (fun r => swBL E r (d.2.1 k) (d.2.2 k (swob E r))) + if swBL E r (d.2.1 k) (d.2.2 k (swob E r)) = true then 1 else 0)) (nI (r + 1))
    rw [xx5_countBlocksAt_L5]
    have hbr := pc_isBrokenAt h hr hd hk
    have hbl := pc_isBlocking h hr (d.2.1 k)
    have hq : swBL E r (d.2.1 k) (d.2.2 k (swob E r)) = if swBR E r (d.2.2 k (swob E r)) = false then false else if E.2.1 r 0 = 0 then true else if E.2.1 r 0 = 1 then !swWV E (nI r) (d.2.1 k) else false := rfl
    cases hb : swBR E r (d.2.2 k (swob E r))
    · simp (disch := omega) only [swlt_e, swbd_e, swrd_n, swgd_n, nI_clamp, sw8m, sw4m, sw4r, nI_add, nI_1, swsub, swsubn, sw4le, swleI, swltI, sweqI, sweqm, sw0add, if_pos, if_neg, if_true, if_false, sw1n0, sw0n1, eq_self, ↓reduceIte, hn, hbr, hb, hq, Bool.false_eq_true, Nat.add_zero]
    · rw [hb, if_neg (by simp)] at hq
      rw [← hq] at hbl
      cases hz : swBL E r (d.2.1 k) (d.2.2 k (swob E r))
      · simp (disch := omega) only [swlt_e, swbd_e, swrd_n, swgd_n, nI_clamp, sw8m, sw4m, sw4r, nI_add, nI_1, swsub, swsubn, sw4le, swleI, swltI, sweqI, sweqm, sw0add, if_pos, if_neg, if_true, if_false, sw1n0, sw0n1, eq_self, ↓reduceIte, hn, hbr, hb, hrow, hbl, hz, Bool.false_eq_true, Nat.add_zero]
      · simp (disch := omega) only [swlt_e, swbd_e, swrd_n, swgd_n, nI_clamp, sw8m, sw4m, sw4r, nI_add, nI_1, swsub, swsubn, sw4le, swleI, swltI, sweqI, sweqm, sw0add, if_pos, if_neg, if_true, if_false, sw1n0, sw0n1, eq_self, ↓reduceIte, hn, hbr, hb, hrow, hbl, hz]
  · show xx5_countBlocksAt_L5 u c (nI k) _ (f + 1) _ (nI E.1) = _
    rw [xx5_countBlocksAt_L5]
    simp (disch := omega) only [swlt_e, swbd_e, swrd_n, swgd_n, nI_clamp, sw8m, sw4m, sw4r, nI_add, nI_1, swsub, swsubn, sw4le, swleI, swltI, sweqI, sweqm, sw0add, if_pos, if_neg, if_true, if_false, sw1n0, sw0n1, eq_self, ↓reduceIte, hn]
    rfl
theorem pc_countBlocks {u : swU} {E : swEv} (h : swcE u E) {c : Nat} {d : swD} (hd : swcD u c d) : xx5_countBlocks u c = some (nI (swBK E d)) := by
  have h88 := hd.1
  have hn := hd.2.1
  unfold xx5_countBlocks
  refine sw_up (fun f k => xx5_countBlocks_L4 u c (fun v3 v4 => some v3) f (nI (sw_sum k (swBA E d))) (nI k)) d.1 _ (fun f k hk => ?_) (fun f => ?_) (by omega)
  · show xx5_countBlocks_L4 u c _ (f + 1) _ (nI k) = xx5_countBlocks_L4 u c _ f (nI (sw_sum k (swBA E d) + swBA E d k)) (nI (k + 1))
    rw [xx5_countBlocks_L4]
    simp (disch := omega) only [swlt_e, swbd_e, swrd_n, swgd_n, nI_clamp, sw8m, sw4m, sw4r, nI_add, nI_1, swsub, swsubn, sw4le, swleI, swltI, sweqI, sweqm, sw0add, if_pos, if_neg, if_true, if_false, sw1n0, sw0n1, eq_self, ↓reduceIte, hn, pc_countBlocksAt h hd hk]
  · show xx5_countBlocks_L4 u c _ (f + 1) _ (nI d.1) = _
    rw [xx5_countBlocks_L4]
    simp (disch := omega) only [swlt_e, swbd_e, swrd_n, swgd_n, nI_clamp, sw8m, sw4m, sw4r, nI_add, nI_1, swsub, swsubn, sw4le, swleI, swltI, sweqI, sweqm, sw0add, if_pos, if_neg, if_true, if_false, sw1n0, sw0n1, eq_self, ↓reduceIte, hn]
    rfl
theorem swcD_fr {u u' : swU} {c : Nat} {d : swD} (h : swcD u c d) (h5 : u'.1 c 2 = u.1 c 2) (h6 : ∀ k, k < 8 → u'.1 (c + 100) k = u.1 (c + 100) k) (h7 : ∀ k, k < 8 → ∀ o, o < 4 → u'.1 (c + 200) (4 * k + o) = u.1 (c + 200) (4 * k + o)) : swcD u' c d := by
  obtain ⟨h8, hn, hr, hval⟩ := h
  exact ⟨h8, h5.trans hn, fun k hk => (h6 k (by omega)).trans (hr k hk), fun k hk o ho => (h7 k (by omega) o ho).trans (hval k hk o ho)⟩
theorem swcE_fe {u u' : swU} {E : swEv} (h : swcE u E) (h9 : u'.1 0 9 = u.1 0 9) (h10 : u'.1 0 10 = u.1 0 10) (h11 : u'.1 0 11 = u.1 0 11) (hc : ∀ c, 10 ≤ c → c < 32 → u'.1 c = u.1 c) : swcE u' E := by
  obtain ⟨a1, a2, a3, a4, a5, a6, a7, a8⟩ := h
  refine ⟨a1, h9.trans a2, fun r hr j hj => ?_, a4, a5, h10.trans a6, fun k hk j hj => ?_, h11.trans a8⟩
  · rw [hc (10 + r) (by omega) (by omega)]
    exact a3 r hr j hj
  · rw [hc (20 + k) (by omega) (by omega)]
    exact a7 k hk j hj
/-! warnings, firstBlock -/
theorem pc_wa1 {u : swU} {E : swEv} (h : swcE u E) {c : Nat} {d : swD} (hd : swcD u c d) {k : Nat} (hk : k < d.1) (acc : Nat) (q : Option (Nat × Int32 × swU)) (kk : Int32 → Int32 → Option (Nat × Int32 × swU)) (hkk : ∀ x, kk (nI (acc + swWA E d k)) x = q) : xx5_warnings_L32 u c (nI k) kk 64 (nI acc) 0 = q := by
  have h8 := h.1
  have hn := h.2.1
  have h88 := hd.1
  refine sw_up (fun f r => xx5_warnings_L32 u c (nI k) kk f (nI (acc + sw_cnt r (fun r => decide (E.2.1 r 0 = 2) && swBR E r (d.2.2 k (swob E r))))) (nI r)) E.1 _ (fun f r hr => ?_) (fun f => ?_) (by omega)
  · show xx5_warnings_L32 u c (nI k) kk (f + 1) _ (nI r) = xx5_warnings_L32 u c (nI k) kk f (nI (acc + (sw_cnt r (fun r => decide (E.2.1 r 0 = 2) && swBR E r (d.2.2 k (swob E r))) + if (decide (E.2.1 r 0 = 2) && swBR E r (d.2.2 k (swob E r))) = true then 1 else 0))) (nI (r + 1))
    rw [xx5_warnings_L32]
    have r0 := h.2.2.1 r hr 0 (by omega)
    have hbr := pc_isBrokenAt h hr hd hk
    by_cases e : E.2.1 r 0 = 2
    · cases hz : swBR E r (d.2.2 k (swob E r))
      · simp (disch := omega) only [swlt_e, swbd_e, swrd_n, swgd_n, nI_clamp, sw8m, sw4m, sw4r, nI_add, nI_1, swsub, swsubn, sw4le, swleI, swltI, sweqI, sweqm, sw0add, if_pos, if_neg, if_true, if_false, sw1n0, sw0n1, eq_self, ↓reduceIte, hn, r0, hbr, hz, e, Bool.and_false, Bool.false_eq_true, Nat.add_zero]
      · simp (disch := omega) only [swlt_e, swbd_e, swrd_n, swgd_n, nI_clamp, sw8m, sw4m, sw4r, nI_add, nI_1, swsub, swsubn, sw4le, swleI, swltI, sweqI, sweqm, sw0add, if_pos, if_neg, if_true, if_false, sw1n0, sw0n1, eq_self, ↓reduceIte, hn, r0, hbr, hz, e, decide_true, Bool.and_true, Nat.add_assoc]
    · simp (disch := omega) only [swlt_e, swbd_e, swrd_n, swgd_n, nI_clamp, sw8m, sw4m, sw4r, nI_add, nI_1, swsub, swsubn, sw4le, swleI, swltI, sweqI, sweqm, sw0add, if_pos, if_neg, if_true, if_false, sw1n0, sw0n1, eq_self, ↓reduceIte, hn, r0, e, decide_false, Bool.false_and, Bool.false_eq_true, Nat.add_zero]
  · show xx5_warnings_L32 u c (nI k) kk (f + 1) _ (nI E.1) = _
    rw [xx5_warnings_L32]
    simp (disch := omega) only [swlt_e, swbd_e, swrd_n, swgd_n, nI_clamp, sw8m, sw4m, sw4r, nI_add, nI_1, swsub, swsubn, sw4le, swleI, swltI, sweqI, sweqm, sw0add, if_pos, if_neg, if_true, if_false, sw1n0, sw0n1, eq_self, ↓reduceIte, hn]
    exact hkk _
theorem pc_wa {u : swU} {E : swEv} (h : swcE u E) {c : Nat} {d : swD} (hd : swcD u c d) : xx5_warnings_L20 u c (fun v3 v4 => some (0, v3, u)) 64 0 0 = some (0, nI (swWK E d), u) := by
  have h88 := hd.1
  have hn := hd.2.1
  refine sw_up (fun f k => xx5_warnings_L20 u c (fun v3 v4 => some (0, v3, u)) f (nI (sw_sum k (swWA E d))) (nI k)) d.1 _ (fun f k hk => ?_) (fun f => ?_) (by omega)
  · show xx5_warnings_L20 u c _ (f + 1) _ (nI k) = xx5_warnings_L20 u c _ f (nI (sw_sum k (swWA E d) + swWA E d k)) (nI (k + 1))
    rw [xx5_warnings_L20]
    simp (disch := omega) only [swlt_e, swbd_e, swrd_n, swgd_n, nI_clamp, sw8m, sw4m, sw4r, nI_add, nI_1, swsub, swsubn, sw4le, swleI, swltI, sweqI, sweqm, sw0add, if_pos, if_neg, if_true, if_false, sw1n0, sw0n1, eq_self, ↓reduceIte, hn]
    exact pc_wa1 h hd hk _ _ _ fun x => rfl
  · show xx5_warnings_L20 u c _ (f + 1) _ (nI d.1) = _
    rw [xx5_warnings_L20]
    simp (disch := omega) only [swlt_e, swbd_e, swrd_n, swgd_n, nI_clamp, sw8m, sw4m, sw4r, nI_add, nI_1, swsub, swsubn, sw4le, swleI, swltI, sweqI, sweqm, sw0add, if_pos, if_neg, if_true, if_false, sw1n0, sw0n1, eq_self, ↓reduceIte, hn]
    rfl
def swFB (E : swEv) (d : swD) : Int32 := if sw_fst d.1 (fun k => decide (0 < swBA E d k)) < d.1 then d.2.1 (sw_fst d.1 (fun k => decide (0 < swBA E d k))) else -1
theorem pc_fb {u : swU} {E : swEv} (h : swcE u E) {c : Nat} {d : swD} (hd : swcD u c d) : xx5_firstBlock_L17 u c (fun v3 => some (0, (-1), u)) 64 0 = some (0, swFB E d, u) := by
  have h8 := h.1
  have h88 := hd.1
  have hn := hd.2.1
  have hle := sw_fst_le (fun k => decide (0 < swBA E d k)) d.1
  refine sw_up (fun f k => xx5_firstBlock_L17 u c (fun v3 => some (0, (-1), u)) f (nI k)) (sw_fst d.1 (fun k => decide (0 < swBA E d k))) _ (fun f k hk => ?_) (fun f => ?_) (by omega)
  · show xx5_firstBlock_L17 u c _ (f + 1) (nI k) = xx5_firstBlock_L17 u c _ f (nI (k + 1))
    rw [xx5_firstBlock_L17]
    have hno := of_decide_eq_false (sw_fst_no _ _ k hk)
    have hz : swBA E d k = 0 := by omega
    simp (disch := omega) only [swlt_e, swbd_e, swrd_n, swgd_n, nI_clamp, sw8m, sw4m, sw4r, nI_add, nI_1, swsub, swsubn, sw4le, swleI, swltI, sweqI, sweqm, sw0add, if_pos, if_neg, if_true, if_false, sw1n0, sw0n1, eq_self, ↓reduceIte, hn, pc_countBlocksAt h hd (show k < d.1 by omega), hz, swleI0]
  · show xx5_firstBlock_L17 u c _ (f + 1) (nI (sw_fst d.1 (fun k => decide (0 < swBA E d k)))) = _
    rw [xx5_firstBlock_L17]
    unfold swFB
    by_cases hl : sw_fst d.1 (fun k => decide (0 < swBA E d k)) < d.1
    · have hy := of_decide_eq_true (sw_fst_yes _ _ hl)
      have hb := swBA_le E d (sw_fst d.1 (fun k => decide (0 < swBA E d k))) h8
      simp (disch := omega) only [swlt_e, swbd_e, swrd_n, swgd_n, nI_clamp, sw8m, sw4m, sw4r, nI_add, nI_1, swsub, swsubn, sw4le, swleI, swltI, sweqI, sweqm, sw0add, if_pos, if_neg, if_true, if_false, sw1n0, sw0n1, eq_self, ↓reduceIte, hn, pc_countBlocksAt h hd hl, hd.2.2.1 _ hl, swleI0]
    · simp (disch := omega) only [swlt_e, swbd_e, swrd_n, swgd_n, nI_clamp, sw8m, sw4m, sw4r, nI_add, nI_1, swsub, swsubn, sw4le, swleI, swltI, sweqI, sweqm, sw0add, if_pos, if_neg, if_true, if_false, sw1n0, sw0n1, eq_self, ↓reduceIte, hn]
