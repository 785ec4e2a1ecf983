/-! ===== breaks, blocks, all, blocked ===== -/
theorem swpl_row {ns : Nat} {d : swD} (h : srW ns d) {k : Nat} (hk : k < d.1) : swpl d (d.2.1 k) = k := by
  unfold swpl
  refine sw_fst_of (by omega) (fun j hj => decide_eq_false (fun z => ?_)) (fun _ => decide_eq_true rfl)
  have := h.2.2 j k (by omega) hk z
  omega
theorem sw_sum_one {p q : Nat → Nat} {s0 N : Nat} (h : ∀ s, s < N → s ≠ s0 → q s = p s) (h0 : p s0 = 0) : ∀ n, n ≤ N → s0 < n → sw_sum n q = sw_sum n p + q s0
  | 0, _, hs => absurd hs (Nat.not_lt_zero _)
  | n + 1, hn, hs => by
    show sw_sum n q + q n = sw_sum n p + p n + q s0
    by_cases e : s0 = n
    · subst e
      have : ∀ m, m ≤ s0 → sw_sum m q = sw_sum m p := by
        intro m
        induction m with
        | zero => intro _; rfl
        | succ m ih =>
          intro hm
          show sw_sum m q + q m = sw_sum m p + p m
          rw [ih (by omega), h m (by omega) (by omega)]
      rw [this s0 (Nat.le_refl _), h0]
      omega
    · rw [sw_sum_one h h0 n (by omega) (by omega), h n (by omega) (fun z => e z.symm)]
      omega
theorem sw_sum_cong {p q : Nat → Nat} : ∀ n, (∀ s, s < n → q s = p s) → sw_sum n q = sw_sum n p
  | 0, _ => rfl
  | n + 1, h => by
    show sw_sum n q + q n = sw_sum n p + p n
    rw [sw_sum_cong n (fun s hs => h s (by omega)), h n (by omega)]
theorem sw_sum_zero {p : Nat → Nat} (n : Nat) (h : ∀ s, s < n → p s = 0) : sw_sum n p = 0 := by
  induction n with
  | zero => rfl
  | succ n ih =>
    show sw_sum n p + p n = 0
    rw [ih (fun s hs => h s (by omega)), h n (by omega)]
theorem sw_sum_deckn {ns : Nat} {d : swD} (h : srW ns d) (hns : ns ≤ 20) (g : Nat → Nat) : ∀ n, n ≤ d.1 → sw_sum ns (fun s => if swpl d (nI s) < n then g (swpl d (nI s)) else 0) = sw_sum n g := by
  intro n
  induction n with
  | zero =>
    intro _
    exact sw_sum_zero ns (fun s _ => if_neg (Nat.not_lt_zero _))
  | succ n ih =>
    intro hn
    obtain ⟨s0, hs0, e0⟩ := h.2.1 n (by omega)
    have hpl : swpl d (nI s0) = n := by
      rw [← e0]
      exact swpl_row h (by omega)
    have e1 : sw_sum ns (fun s => if swpl d (nI s) < n + 1 then g (swpl d (nI s)) else 0) = sw_sum ns (fun s => if swpl d (nI s) < n then g (swpl d (nI s)) else 0) + (fun s => if swpl d (nI s) < n + 1 then g (swpl d (nI s)) else 0) s0 := sw_sum_one (s0 := s0) (N := ns) (fun s hs hne => by
      have hne2 : swpl d (nI s) ≠ n := fun z => hne (by
        have h1 : swpl d (nI s) < d.1 := by omega
        have h2 := swpl_eq h1
        rw [z, e0, nI_eq (by omega) (by omega)] at h2
        exact h2.symm)
      show (if swpl d (nI s) < n + 1 then g (swpl d (nI s)) else 0) = (if swpl d (nI s) < n then g (swpl d (nI s)) else 0)
      by_cases hl : swpl d (nI s) < n
      · rw [if_pos hl, if_pos (by omega)]
      · rw [if_neg hl, if_neg (by omega)]) (by
      show (if swpl d (nI s0) < n then g (swpl d (nI s0)) else 0) = 0
      rw [hpl, if_neg (by omega)]) ns (Nat.le_refl _) hs0
    rw [e1, ih (by omega)]
    show sw_sum n g + (if swpl d (nI s0) < n + 1 then g (swpl d (nI s0)) else 0) = sw_sum n g + g n
    rw [hpl, if_pos (by omega)]
theorem sw_sum_deck {ns : Nat} {d : swD} (h : srW ns d) (hns : ns ≤ 20) (g : Nat → Nat) : sw_sum ns (fun s => if swhas d (nI s) = true then g (swpl d (nI s)) else 0) = sw_sum d.1 g := by
  rw [← sw_sum_deckn h hns g d.1 (Nat.le_refl _)]
  refine sw_sum_cong ns (fun s _ => ?_)
  by_cases hl : swpl d (nI s) < d.1
  · rw [if_pos hl, if_pos (show swhas d (nI s) = true from decide_eq_true hl)]
  · have hf : swhas d (nI s) = false := decide_eq_false hl
    rw [if_neg hl, if_neg (by rw [hf]; decide)]
theorem sw_sum_add (f g : Nat → Nat) (c : Nat) : ∀ n, sw_sum n (fun k => f k + c * g k) = sw_sum n f + c * sw_sum n g
  | 0 => by simp [sw_sum]
  | n + 1 => by
    show sw_sum n (fun k => f k + c * g k) + (f n + c * g n) = sw_sum n f + f n + c * (sw_sum n g + g n)
    rw [sw_sum_add f g c n, Nat.mul_add]
    omega
/-- slides beyond the number of slides: no deck has them -/
theorem srW_beyond {ns : Nat} {d : swD} (h : srW ns d) (hns : ns ≤ 20) {s : Nat} (hs : ns ≤ s) (hs2 : s < 2 ^ 31) : swhas d (nI s) = false := by
  cases hh : swhas d (nI s)
  · rfl
  · obtain ⟨q, hq, e⟩ := h.2.1 _ (swpI_h hh).2
    have := swpl_eq (swpI_h hh).2
    rw [e, nI_eq (by omega) hs2] at this
    omega
theorem srW_cnt {ns : Nat} {d : swD} (h : srW ns d) (hns : ns ≤ 20) : d.1 ≤ ns := by
  have h1 := sw_sum_deck h hns (fun _ => 1)
  have h2 : ∀ n, sw_sum n (fun _ => 1) = n := by
    intro n
    induction n with
    | zero => rfl
    | succ n ih =>
      show sw_sum n (fun _ => 1) + 1 = n + 1
      rw [ih]
  rw [h2] at h1
  have h3 : ∀ n, sw_sum n (fun s => if swhas d (nI s) = true then 1 else 0) ≤ n := by
    intro n
    induction n with
    | zero => exact Nat.le_refl _
    | succ n ih =>
      show sw_sum n _ + (if swhas d (nI n) = true then 1 else 0) ≤ n + 1
      by_cases h : swhas d (nI n) = true
      · rw [if_pos h]
        omega
      · rw [if_neg h]
        omega
  have := h3 ns
  omega
def lxv (N : Nat) (xv : Nat → Int32) : Prop := N < 2 ^ 62 ∧ ∀ o, o < 4 → ∃ x : Nat, x < 1024 ∧ xv o = nI x ∧ lx_value (lN N) (nI o) = some (nI x)
theorem la_breaks {w : lyU} {E : swEv} (hE : lwE w E) {r : Nat} (hr : r < E.1) {N : Nat} {xv : Nat → Int32} (hx : lxv N xv) : lx_breaks (w.1 6 r) (lN N) = some (swB (swBR E r (xv (swob E r)))) := by
  obtain ⟨k, o, a, b, hk, ho, ha, hab, hb, e0, e1, e2, e3, e4⟩ := hE.2.2.2.1 r hr
  have hob : swob E r = o := by
    unfold swob
    rw [e1, nI_clamp (by omega)]
  obtain ⟨x, x1, x2, x3⟩ := hx.2 o ho
  have r4 : (k + 4 * o + 16 * a + 16384 * b) / 4 % 4 = o := by omega
  have r16 : (k + 4 * o + 16 * a + 16384 * b) / 16 % 1024 = a := by omega
  have r14 : (k + 4 * o + 16 * a + 16384 * b) / 16384 = b := by omega
  have hR : k + 4 * o + 16 * a + 16384 * b < 2 ^ 31 := by omega
  have d4 : swrem (nI (k + 4 * o + 16 * a + 16384 * b) / 4) 4 = nI o := by
    rw [show (4 : Int32) = nI 4 from rfl, pk_div hR (by omega) (by omega), la_rem (by omega) (by omega) (by omega), r4]
  have d16 : swrem (nI (k + 4 * o + 16 * a + 16384 * b) / 16) 1024 = nI a := by
    rw [show (16 : Int32) = nI 16 from rfl, show (1024 : Int32) = nI 1024 from rfl, pk_div hR (by omega) (by omega), la_rem (by omega) (by omega) (by omega), r16]
  have d14 : nI (k + 4 * o + 16 * a + 16384 * b) / 16384 = nI b := by
    rw [show (16384 : Int32) = nI 16384 from rfl, pk_div hR (by omega) (by omega), r14]
  unfold lx_breaks swBR
  rw [e4, d4, d16, d14, x3, swbd_e, hob, x2, e2, e3]
  by_cases z : x = 0
  · subst z
    rw [if_pos (by decide), if_pos (by rfl)]
  · rw [if_neg (nI_nle (by omega) (by omega)), if_neg (nI_ne0 (by omega) (by omega))]
    by_cases z2 : x < a
    · have q2 : nI x < nI a := nI_lt z2 (by omega)
      rw [if_pos q2, if_pos q2]
    · have q2 : ¬ nI x < nI a := nI_nlt (by omega) (by omega)
      rw [if_neg q2, if_neg q2]
      by_cases z3 : x ≤ b
      · have q3 : nI x ≤ nI b := nI_le z3 (by omega)
        have q4 : ¬ nI b < nI x := nI_nlt z3 (by omega)
        rw [if_pos q3, if_neg q4]
      · have q3 : ¬ nI x ≤ nI b := nI_ge (by omega) (by omega)
        have q4 : nI b < nI x := nI_lt (by omega) (by omega)
        rw [if_neg q3, if_pos q4]
theorem la_waived {w : lyU} {E : swEv} (hE : lwE w E) (hw12 : E.2.2.1 ≤ 12) (hday : E.2.2.2.2 ≤ 999) {r s : Nat} (hr : r < 8) (hs : s < 6) (KK : Int32 → Int32 → Option Int32) : lx_blocks_L29 w (nI s) (nI r) KK 64 0 0 = KK (swB (swWV E (nI r) (nI s))) (nI E.2.2.1) := by
  obtain ⟨v, hv, f, e⟩ := sw_upS (fun f i (v : Int32) => lx_blocks_L29 w (nI s) (nI r) KK f v (nI i)) (fun i v => v = swB (sw_any i (swWq E (nI r) (nI s)))) E.2.2.1 (0 : Int32) rfl (fun f i v hi hI => by
    obtain ⟨k, q, t, hk, hq, ht, w0, w1, w2, w3⟩ := hE.2.2.2.2 i hi
    have r8 : (k + 8 * q + 64 * t) % 8 = k := by omega
    have r88 : (k + 8 * q + 64 * t) / 8 % 8 = q := by omega
    have r64 : (k + 8 * q + 64 * t) / 64 = t := by omega
    have hR : k + 8 * q + 64 * t < 2 ^ 31 := by omega
    have d8 : swrem (nI (k + 8 * q + 64 * t)) 8 = nI k := by
      rw [show (8 : Int32) = nI 8 from rfl, la_rem hR (by omega) (by omega), r8]
    have d88 : swrem (nI (k + 8 * q + 64 * t) / 8) 8 = nI q := by
      rw [show (8 : Int32) = nI 8 from rfl, pk_div hR (by omega) (by omega), la_rem (by omega) (by omega) (by omega), r88]
    have d64 : nI (k + 8 * q + 64 * t) / 64 = nI t := by
      rw [show (64 : Int32) = nI 64 from rfl, pk_div hR (by omega) (by omega), r64]
    have hno : ¬ nI E.2.2.1 ≤ nI i := by
      rw [nI_leI (by omega) (by omega)]
      omega
    refine ⟨swB (sw_any (i + 1) (swWq E (nI r) (nI s))), rfl, ?_⟩
    show lx_blocks_L29 w (nI s) (nI r) KK (f + 1) v (nI i) = lx_blocks_L29 w (nI s) (nI r) KK f (swB (sw_any i (swWq E (nI r) (nI s)) || swWq E (nI r) (nI s) i)) (nI (i + 1))
    rw [lx_blocks_L29, show (4 : Int32) = nI 4 from rfl, swrd_n (by omega) (by omega), hE.2.1, if_neg hno, hI]
    cases ha : sw_any i (swWq E (nI r) (nI s))
    · rw [if_pos rfl, swrd_n (by omega) (by omega), w3, d8, Bool.false_or]
      unfold swWq
      rw [w0, w1, w2]
      by_cases h1 : nI k = nI r
      · rw [if_pos h1, if_pos h1, swrd_n (by omega) (by omega), w3, d88]
        by_cases h2 : nI q = nI s
        · rw [if_pos h2, if_pos h2, swrd_n (by omega) (by omega), show (5 : Int32) = nI 5 from rfl, swrd_n (by omega) (by omega), w3, d64, hE.2.2.1]
          by_cases h3 : nI t < nI E.2.2.2.2
          · rw [if_pos h3, if_pos h3, nI_1]
          · rw [if_neg h3, if_neg h3, nI_1]
        · rw [if_neg h2, if_neg h2, nI_1]
      · rw [if_neg h1, if_neg h1, nI_1]
    · rw [if_neg (by decide), Bool.true_or, nI_1]) (by omega)
  have e : lx_blocks_L29 w (nI s) (nI r) KK 64 0 0 = lx_blocks_L29 w (nI s) (nI r) KK (f + 1) v (nI E.2.2.1) := e
  rw [e, lx_blocks_L29, show (4 : Int32) = nI 4 from rfl, swrd_n (by omega) (by omega), hE.2.1, if_pos (nI_le (Nat.le_refl _) (by omega)), hv]
  rfl
def lbv (E : swEv) (s : Int32) (xv : Nat → Int32) (r : Nat) : Nat := (if swBL E r s (xv (swob E r)) = true then 1 else 0) + 64 * (if (decide (E.2.1 r 0 = 2) && swBR E r (xv (swob E r))) = true then 1 else 0)
theorem lbv_le (E : swEv) (s : Int32) (xv : Nat → Int32) (r : Nat) : lbv E s xv r ≤ 65 := by
  unfold lbv
  have h1 : (if swBL E r s (xv (swob E r)) = true then 1 else 0) ≤ 1 := by
    by_cases h : swBL E r s (xv (swob E r)) = true
    · rw [if_pos h]
      omega
    · rw [if_neg h]
      omega
  have h2 : (if (decide (E.2.1 r 0 = 2) && swBR E r (xv (swob E r))) = true then 1 else 0) ≤ 1 := by
    by_cases h : (decide (E.2.1 r 0 = 2) && swBR E r (xv (swob E r))) = true
    · rw [if_pos h]
      omega
    · rw [if_neg h]
      omega
  omega
theorem la_blocks {w : lyU} {E : swEv} (hE : lwE w E) (hr8 : E.1 ≤ 8) (hw12 : E.2.2.1 ≤ 12) (hday : E.2.2.2.2 ≤ 999) {s N : Nat} (hs : s < 6) {xv : Nat → Int32} (hx : lxv N xv) : lx_blocks w (nI s) (lN N) = some (nI (sw_sum E.1 (lbv E (nI s) xv))) := by
  unfold lx_blocks
  have hb : ∀ n, n ≤ 8 → sw_sum n (lbv E (nI s) xv) ≤ 520 := fun n hn => Nat.le_trans (sw_sum_le _ 65 (lbv_le E (nI s) xv) n) (by omega)
  obtain ⟨v, hv, f, e⟩ := sw_upS (fun f r (v : Int32) => lx_blocks_L6 w (nI s) (lN N) (fun v6 v7 => some v6) f v (nI r)) (fun r v => v = nI (sw_sum r (lbv E (nI s) xv))) E.1 (0 : Int32) rfl (fun f r v hr hI => by
    obtain ⟨k, o, a, b, hk, ho, ha, hab, hb2, e0, e1, e2, e3, e4⟩ := hE.2.2.2.1 r hr
    have hno : ¬ nI E.1 ≤ nI r := by
      rw [nI_leI (by omega) (by omega)]
      omega
    have d4 : swrem (w.1 6 r) 4 = nI k := by
      rw [e4, show (4 : Int32) = nI 4 from rfl, la_rem (by omega) (by omega) (by omega)]
      congr 1
      omega
    refine ⟨nI (sw_sum (r + 1) (lbv E (nI s) xv)), rfl, ?_⟩
    show lx_blocks_L6 w (nI s) (lN N) (fun v6 v7 => some v6) (f + 1) v (nI r) = lx_blocks_L6 w (nI s) (lN N) (fun v6 v7 => some v6) f (nI (sw_sum r (lbv E (nI s) xv) + lbv E (nI s) xv r)) (nI (r + 1))
    rw [lx_blocks_L6, show (3 : Int32) = nI 3 from rfl, swrd_n (by omega) (by omega), hE.1, if_neg hno, swrd_n (by omega) (by omega), d4, swlt_e, la_waived hE hw12 hday (by omega) hs, swrd_n (by omega) (by omega), la_breaks hE hr hx, swbd_e, swjn_e, hI]
    have fin : ∀ c : Nat, c = lbv E (nI s) xv r → (swlt (nI (sw_sum r (lbv E (nI s) xv)) + nI c) fun y140 => lx_blocks_L6 w (nI s) (lN N) (fun v6 v7 => some v6) f y140 (nI r + 1)) = lx_blocks_L6 w (nI s) (lN N) (fun v6 v7 => some v6) f (nI (sw_sum r (lbv E (nI s) xv) + lbv E (nI s) xv r)) (nI (r + 1)) := fun c hc => by
      rw [swlt_e, nI_add, nI_1, hc]
    have hlb : lbv E (nI s) xv r = if swBR E r (xv (swob E r)) = false then 0 else if k = 0 then 1 else if k = 1 then (if swWV E (nI r) (nI s) = true then 0 else 1) else 64 := by
      unfold lbv swBL
      rw [e0]
      rcases (by omega : k = 0 ∨ k = 1 ∨ k = 2) with rfl | rfl | rfl
      · cases swBR E r (xv (swob E r)) <;> rfl
      · cases swBR E r (xv (swob E r)) <;> cases swWV E (nI r) (nI s) <;> rfl
      · cases swBR E r (xv (swob E r)) <;> rfl
    cases hbr : swBR E r (xv (swob E r))
    · rw [if_pos (by rfl)]
      exact fin 0 (by rw [hlb, hbr, if_pos rfl])
    · rw [if_neg (by decide)]
      rw [hbr, if_neg (by decide)] at hlb
      rcases (by omega : k = 0 ∨ k = 1 ∨ k = 2) with rfl | rfl | rfl
      · rw [if_neg (by decide), if_neg (by decide)]
        exact fin 1 hlb.symm
      · rw [if_pos (by rfl)]
        rw [if_neg (by decide), if_pos rfl] at hlb
        cases hw : swWV E (nI r) (nI s)
        · rw [if_pos (by rfl), if_neg (by decide)]
          rw [hw, if_neg (by decide)] at hlb
          exact fin 1 hlb.symm
        · rw [if_neg (by decide)]
          rw [hw, if_pos rfl] at hlb
          exact fin 0 hlb.symm
      · rw [if_neg (by decide), if_pos (by rfl)]
        rw [if_neg (by decide), if_neg (by decide)] at hlb
        exact fin 64 hlb.symm) (by omega)
  have e : lx_blocks_L6 w (nI s) (lN N) (fun v6 v7 => some v6) 64 0 0 = lx_blocks_L6 w (nI s) (lN N) (fun v6 v7 => some v6) (f + 1) v (nI E.1) := e
  rw [e, lx_blocks_L6, show (3 : Int32) = nI 3 from rfl, swrd_n (by omega) (by omega), hE.1, if_pos (nI_le (Nat.le_refl _) (by omega)), hv]
theorem sw_sum_cnt (p : Nat → Bool) : ∀ n, sw_sum n (fun k => if p k = true then 1 else 0) = sw_cnt n p
  | 0 => rfl
  | n + 1 => by
    show sw_sum n _ + _ = sw_cnt n p + _
    rw [sw_sum_cnt p n]
theorem lbv_sum (E : swEv) (s : Int32) (xv : Nat → Int32) : sw_sum E.1 (lbv E s xv) = sw_cnt E.1 (fun r => swBL E r s (xv (swob E r))) + 64 * sw_cnt E.1 (fun r => decide (E.2.1 r 0 = 2) && swBR E r (xv (swob E r))) := by
  have h := sw_sum_add (fun r => if swBL E r s (xv (swob E r)) = true then 1 else 0) (fun r => if (decide (E.2.1 r 0 = 2) && swBR E r (xv (swob E r))) = true then 1 else 0) 64 E.1
  rw [sw_sum_cnt, sw_sum_cnt] at h
  exact h
theorem lxv_deck {d : swD} (vd : srV d) {s : Nat} (h : swhas d (nI s) = true) : lxv (swits d s) (fun o => swval d (nI s) o) := by
  refine ⟨by have := (swits_lt vd s).1; omega, fun o ho => ?_⟩
  obtain ⟨a, b⟩ := srV_vn vd h ho
  exact ⟨swvn d s o, by omega, b, by rw [swits_val vd h ho, b]⟩
/-- a slide of a deck: how it blocks -/
theorem la_blocksD {w : lyU} {E : swEv} (hE : lwE w E) (hr8 : E.1 ≤ 8) (hw12 : E.2.2.1 ≤ 12) (hday : E.2.2.2.2 ≤ 999) {d : swD} (vd : srV d) {s : Nat} (hs : s < 6) (h : swhas d (nI s) = true) : lx_blocks w (nI s) (lN (swits d s)) = some (nI (swBA E d (swpl d (nI s)) + 64 * swWA E d (swpl d (nI s)))) := by
  rw [la_blocks hE hr8 hw12 hday hs (lxv_deck vd h), lbv_sum]
  have e := swpl_eq (swpI_h h).2
  unfold swBA swWA
  rw [e]
  rfl
theorem swWA_le (E : swEv) (d : swD) (k : Nat) (h : E.1 ≤ 8) : swWA E d k ≤ 8 := Nat.le_trans (sw_cnt_le _ _) h
theorem la_all {w : lyU} {E : swEv} (hE : lwE w E) (hr8 : E.1 ≤ 8) (hw12 : E.2.2.1 ≤ 12) (hday : E.2.2.2.2 ≤ 999) {ns v : Nat} (hns : ns ≤ 6) (hv : v < 21) {d : swD} (hD : lwD w v d) (hW : srW ns d) (vd : srV d) : lx_all w (nI v) = some (nI (swBK E d + 64 * swWK E d)) := by
  have hW6 : srW 6 d := ⟨hW.1, fun k hk => by
    obtain ⟨s, h1, h2⟩ := hW.2.1 k hk
    exact ⟨s, by omega, h2⟩, hW.2.2⟩
  have hsum : swBK E d + 64 * swWK E d = sw_sum 6 (fun s => if swhas d (nI s) = true then swBA E d (swpl d (nI s)) + 64 * swWA E d (swpl d (nI s)) else 0) := by
    rw [sw_sum_deck hW6 (by omega) (fun k => swBA E d k + 64 * swWA E d k), sw_sum_add]
    rfl
  rw [hsum]
  have hb : ∀ n, n ≤ 6 → sw_sum n (fun s => if swhas d (nI s) = true then swBA E d (swpl d (nI s)) + 64 * swWA E d (swpl d (nI s)) else 0) ≤ 3120 := fun n hn => Nat.le_trans (sw_sum_le _ 520 (fun s => by
    by_cases h : swhas d (nI s) = true
    · show (if swhas d (nI s) = true then _ else _) ≤ _
      rw [if_pos h]
      have := swBA_le E d (swpl d (nI s)) hr8
      have := swWA_le E d (swpl d (nI s)) hr8
      omega
    · show (if swhas d (nI s) = true then _ else _) ≤ _
      rw [if_neg h]
      omega) n) (by omega)
  generalize hg : (fun s => if swhas d (nI s) = true then swBA E d (swpl d (nI s)) + 64 * swWA E d (swpl d (nI s)) else 0) = g at hb
  have hgs : ∀ s, g s = if swhas d (nI s) = true then swBA E d (swpl d (nI s)) + 64 * swWA E d (swpl d (nI s)) else 0 := fun s => by rw [← hg]
  unfold lx_all
  obtain ⟨a, ha, f, e⟩ := sw_upS (fun f s (a : Int32) => lx_all_L6 w (nI v) (fun v6 v7 => some v6) f a (nI s)) (fun s a => a = nI (sw_sum s g)) 6 (0 : Int32) rfl (fun f s a hs hI => by
    refine ⟨nI (sw_sum (s + 1) g), rfl, ?_⟩
    show lx_all_L6 w (nI v) (fun v6 v7 => some v6) (f + 1) a (nI s) = lx_all_L6 w (nI v) (fun v6 v7 => some v6) f (nI (sw_sum s g + g s)) (nI (s + 1))
    have hl := swits_lt vd s
    rw [lx_all_L6, if_neg (by rw [show (6 : Int32) = nI 6 from rfl, nI_leI (by omega) (by omega)]; omega), la_get w hv hs, swbd_e, hD.2 s hs, swjn_e, hI]
    cases hh : swhas d (nI s)
    · have hz : g s = 0 := by rw [hgs, hh]; rfl
      rw [if_pos (by rw [la_cmp0 (by omega), hl.2, hh])]
      show lx_all_L6 w (nI v) _ f (nI (sw_sum s g) + 0) (nI s + 1) = _
      rw [hz, nI_1]
      have : nI (sw_sum s g) + 0 = nI (sw_sum s g + 0) := Int32.add_zero _
      rw [this]
    · have hz : g s = swBA E d (swpl d (nI s)) + 64 * swWA E d (swpl d (nI s)) := by rw [hgs, hh, if_pos rfl]
      rw [if_neg (by rw [la_cmp0 (by omega), hl.2, hh]; decide), la_blocksD hE hr8 hw12 hday vd hs hh, swbd_e]
      show lx_all_L6 w (nI v) _ f (nI (sw_sum s g) + nI (swBA E d (swpl d (nI s)) + 64 * swWA E d (swpl d (nI s)))) (nI s + 1) = _
      rw [hz, nI_1, nI_add]) (by omega)
  have e : lx_all_L6 w (nI v) (fun v6 v7 => some v6) 64 0 0 = lx_all_L6 w (nI v) (fun v6 v7 => some v6) (f + 1) a (nI 6) := e
  rw [e, lx_all_L6, if_pos (by decide), ha]
theorem swBK_48 {E : swEv} {d : swD} (h : E.1 ≤ 8) (h6 : d.1 ≤ 6) : swBK E d ≤ 48 := Nat.le_trans (sw_sum_le _ 8 (fun k => swBA_le E d k h) _) (by omega)
theorem swWK_48 {E : swEv} {d : swD} (h : E.1 ≤ 8) (h6 : d.1 ≤ 6) : swWK E d ≤ 48 := Nat.le_trans (sw_sum_le _ 8 (fun k => swWA_le E d k h) _) (by omega)
theorem la_blocked {w : lyU} {E : swEv} (hE : lwE w E) (hr8 : E.1 ≤ 8) (hw12 : E.2.2.1 ≤ 12) (hday : E.2.2.2.2 ≤ 999) {ns v : Nat} (hns : ns ≤ 6) (hv : v < 21) {d : swD} (hD : lwD w v d) (hW : srW ns d) (vd : srV d) : lx_blocked w (nI v) = some (swB (decide (0 < swBK E d))) := by
  have h6 : d.1 ≤ 6 := Nat.le_trans (srW_cnt hW (by omega)) hns
  have b1 := swBK_48 hr8 h6 (E := E)
  have b2 := swWK_48 hr8 h6 (E := E)
  unfold lx_blocked
  rw [la_all hE hr8 hw12 hday hns hv hD hW vd, swbd_e, show (64 : Int32) = nI 64 from rfl, la_rem (by omega) (by omega) (by omega)]
  have hm : (swBK E d + 64 * swWK E d) % 64 = swBK E d := by omega
  rw [hm]
  by_cases h : 0 < swBK E d
  · rw [if_neg (nI_nle h (by omega)), decide_eq_true h]
  · rw [if_pos (by rw [swleI0 (by omega)]; omega), decide_eq_false h]
