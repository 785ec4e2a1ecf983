theorem sw_cnt_rev (p : Nat → Bool) : ∀ n, sw_cnt n (fun i => p (n - 1 - i)) = sw_cnt n p := by
  intro n
  induction n with
  | zero => rfl
  | succ n ih =>
    rw [Nat.add_comm n 1, sw_cnt_split]
    have e1 : sw_cnt 1 (fun i => p (1 + n - 1 - i)) = if p n = true then 1 else 0 := by
      show 0 + (if p (1 + n - 1 - 0) = true then 1 else 0) = _
      rw [Nat.zero_add, show 1 + n - 1 - 0 = n by omega]
    have e2 : sw_cnt n (fun k => p (1 + n - 1 - (1 + k))) = sw_cnt n p := by
      rw [← ih]
      refine sw_cnt_cong _ fun k hk => ?_
      rw [show 1 + n - 1 - (1 + k) = n - 1 - k by omega]
    rw [e1, e2, Nat.add_comm 1 n]
    show _ = sw_cnt n p + (if p n = true then 1 else 0)
    omega
theorem sw_any_cong {p q : Nat → Bool} : ∀ n, (∀ k, k < n → p k = q k) → sw_any n p = sw_any n q := by
  intro n
  induction n with
  | zero => intro _; rfl
  | succ n ih =>
    intro h
    show (sw_any n p || p n) = (sw_any n q || q n)
    rw [ih (fun k hk => h k (by omega)), h n (by omega)]
theorem swZ_b (b : Bool) : swZ (swB b) = swB b := swZ_B b
theorem swZ_0 : swZ 0 = 0 := rfl
theorem swZ_1 : swZ 1 = 1 := rfl
/-! ===== BASES, the calls about merges that make nothing, tighten ===== -/
def sw_lst : Nat → (Nat → Bool) → Nat
  | 0, _ => 0
  | n + 1, p => if p n = true then n else sw_lst n p
theorem sw_lst_le (p : Nat → Bool) : ∀ n, sw_lst n p ≤ n - 1 := by
  intro n
  induction n with
  | zero => exact Nat.le_refl 0
  | succ n ih =>
    show (if p n = true then n else sw_lst n p) ≤ n + 1 - 1
    split <;> omega
theorem sw_lst_no (p : Nat → Bool) : ∀ n k, sw_lst n p < k → k < n → p k = false := by
  intro n
  induction n with
  | zero => intro k _ hk; exact absurd hk (Nat.not_lt_zero k)
  | succ n ih =>
    intro k h1 h2
    change (if p n = true then n else sw_lst n p) < k at h1
    split at h1
    · omega
    · rename_i hn
      by_cases e : k = n
      · subst e
        cases hb : p k
        · rfl
        · exact absurd hb hn
      · exact ih k h1 (by omega)
theorem sw_lst_yes (p : Nat → Bool) : ∀ n, p (sw_lst n p) = true ∨ sw_lst n p = 0 := by
  intro n
  induction n with
  | zero => exact Or.inr rfl
  | succ n ih =>
    show p (if p n = true then n else sw_lst n p) = true ∨ (if p n = true then n else sw_lst n p) = 0
    split
    · rename_i h
      exact Or.inl h
    · exact ih
def swCM (am : Nat → Nat) (a b k : Nat) : Bool := (am a).testBit k && (am b).testBit k
def swBS (nv : Nat) (am : Nat → Nat) (a b : Nat) : Nat := sw_lst nv (swCM am a b)
theorem swBS_lt {nv : Nat} (h : 1 ≤ nv) (am : Nat → Nat) (a b : Nat) : swBS nv am a b < nv := by
  have := sw_lst_le (swCM am a b) nv
  unfold swBS
  omega
theorem pc_baseOf {u : swU} {w : lyU} {nv nb : Nat} {hd : Nat → Nat} {mo cm ot : Nat → Int32} {am : Nat → Nat} (h1 : sr1 nv u w) (h2 : sr2 nb u w) (h4 : sr4 nv nb hd u w) (h6 : sr6 nv mo cm ot am u w) (hA : srA nv am) {a b : Nat} (ha : a < nb) (hb : b < nb) : xx5_baseOf u (nI a) (nI b) = some (nI (swBS nv am (hd a) (hd b))) := by
  have hb6 := h2.2.1
  have h40 := h1.2.1
  have h01 := h1.1
  have hn := h1.2.2.1
  obtain ⟨hha, ca, -⟩ := h4 a ha
  obtain ⟨hhb, cb, -⟩ := h4 b hb
  have ma := (h6 _ hha).2.2.2.2.2.2
  have mb := (h6 _ hhb).2.2.2.2.2.2
  have ba := srA_40 hA h40 hha
  have hle := sw_lst_le (swCM am (hd a) (hd b)) nv
  have hm40 : am (hd a) &&& am (hd b) < 2 ^ 40 := Nat.lt_of_le_of_lt Nat.and_le_left ba
  have htb : ∀ k, (am (hd a) &&& am (hd b)).testBit k = swCM am (hd a) (hd b) k := fun k => Nat.testBit_and _ _ _
  unfold xx5_baseOf
  simp (disch := omega) only [swlt_e, swbd_e, swrd_n, swgd_n, nI_clamp, sw8m, sw4m, sw4r, nI_add, nI_1, swsub, swsubn, sw4le, swleI, swltI, sweqI, sweqm, sw0add, if_pos, if_neg, if_true, if_false, sw1n0, sw0n1, eq_self, ↓reduceIte, ca, cb, ma, mb, swl_and, hn]
  refine Eq.trans (b := xx5_baseOf_L38 u (lN (am (hd a) &&& am (hd b))) (fun v5 => some v5) 64 (nI (nv - 1 - 0))) (by rw [Nat.sub_zero]) ?_
  refine sw_up (fun f j => xx5_baseOf_L38 u (lN (am (hd a) &&& am (hd b))) (fun v5 => some v5) f (nI (nv - 1 - j))) (nv - 1 - swBS nv am (hd a) (hd b)) _ (fun f j hj => ?_) (fun f => ?_) (by omega)
  · show xx5_baseOf_L38 u _ _ (f + 1) (nI (nv - 1 - j)) = xx5_baseOf_L38 u _ _ f (nI (nv - 1 - (j + 1)))
    have hno := sw_lst_no (swCM am (hd a) (hd b)) nv (nv - 1 - j) (by unfold swBS at hj; omega) (by omega)
    have ht := swl_test hm40 (show nv - 1 - j < 40 by omega)
    rw [htb, hno] at ht
    rw [xx5_baseOf_L38, if_neg (by rw [swleI0 (by omega)]; omega), if_pos (by rw [ht]), swsubn (by omega), show nv - 1 - j - 1 = nv - 1 - (j + 1) by omega]
  · show xx5_baseOf_L38 u _ _ (f + 1) (nI (nv - 1 - (nv - 1 - swBS nv am (hd a) (hd b)))) = _
    have hle2 : swBS nv am (hd a) (hd b) ≤ nv - 1 := hle
    rw [show nv - 1 - (nv - 1 - swBS nv am (hd a) (hd b)) = swBS nv am (hd a) (hd b) by omega, xx5_baseOf_L38]
    rcases sw_lst_yes (swCM am (hd a) (hd b)) nv with z | z
    · by_cases e : swBS nv am (hd a) (hd b) = 0
      · rw [if_pos (by rw [swleI0 (by omega)]; exact e)]
      · have ht := swl_test hm40 (show swBS nv am (hd a) (hd b) < 40 by omega)
        have z' : swCM am (hd a) (hd b) (swBS nv am (hd a) (hd b)) = true := z
        rw [htb, z'] at ht
        rw [if_neg (by rw [swleI0 (by omega)]; exact e), if_neg (by rw [ht]; exact Bool.noConfusion)]
    · have e : swBS nv am (hd a) (hd b) = 0 := z
      rw [if_pos (by rw [swleI0 (by omega)]; exact e)]
theorem pc_mergeOf {u : swU} {w : lyU} {nv nb : Nat} {hd : Nat → Nat} {mo cm ot : Nat → Int32} {am : Nat → Nat} (h1 : sr1 nv u w) (h2 : sr2 nb u w) (h4 : sr4 nv nb hd u w) (h6 : sr6 nv mo cm ot am u w) (hA : srA nv am) {a b : Nat} (ha : a < nb) (hb : b < nb) : xx5_mergeOf u (nI a) (nI b) = some (200 + swBS nv am (hd a) (hd b), 200 + hd a, 200 + hd b) := by
  have h40 := h1.2.1
  have hlt := swBS_lt h1.1 am (hd a) (hd b)
  unfold xx5_mergeOf
  rw [pc_baseOf h1 h2 h4 h6 hA ha hb, pc_headDeck h1 h2 h4 ha, pc_headDeck h1 h2 h4 hb]
  simp (disch := omega) only [swlt_e, swbd_e, swrd_n, swgd_n, nI_clamp, sw8m, sw4m, sw4r, nI_add, nI_1, swsub, swsubn, sw4le, swleI, swltI, sweqI, sweqm, sw0add, if_pos, if_neg, if_true, if_false, sw1n0, sw0n1, eq_self, ↓reduceIte, swap100]
theorem sw_2le0 : ((2 : Int32) ≤ 0) = False := propext ⟨fun h => absurd h (by decide), fun h => h.elim⟩
theorem sw_lt00 : ((0 : Int32) < 0) = False := propext ⟨fun h => absurd h (by decide), fun h => h.elim⟩
theorem swi_1 : nI 1 = 1 := rfl
theorem swi_2 : nI 2 = 2 := rfl
theorem swi_3 : nI 3 = 3 := rfl
theorem swi_4 : nI 4 = 4 := rfl
theorem swi10 : ((1 : Int32) = 0) = False := propext ⟨fun h => absurd h (by decide), fun h => h.elim⟩
theorem swi12 : ((1 : Int32) = 2) = False := propext ⟨fun h => absurd h (by decide), fun h => h.elim⟩
theorem swi13 : ((1 : Int32) = 3) = False := propext ⟨fun h => absurd h (by decide), fun h => h.elim⟩
theorem swi14 : ((1 : Int32) = 4) = False := propext ⟨fun h => absurd h (by decide), fun h => h.elim⟩
theorem swi20 : ((2 : Int32) = 0) = False := propext ⟨fun h => absurd h (by decide), fun h => h.elim⟩
theorem swi21 : ((2 : Int32) = 1) = False := propext ⟨fun h => absurd h (by decide), fun h => h.elim⟩
theorem swi23 : ((2 : Int32) = 3) = False := propext ⟨fun h => absurd h (by decide), fun h => h.elim⟩
theorem swi24 : ((2 : Int32) = 4) = False := propext ⟨fun h => absurd h (by decide), fun h => h.elim⟩
theorem swi30 : ((3 : Int32) = 0) = False := propext ⟨fun h => absurd h (by decide), fun h => h.elim⟩
theorem swi31 : ((3 : Int32) = 1) = False := propext ⟨fun h => absurd h (by decide), fun h => h.elim⟩
theorem swi32 : ((3 : Int32) = 2) = False := propext ⟨fun h => absurd h (by decide), fun h => h.elim⟩
theorem swi34 : ((3 : Int32) = 4) = False := propext ⟨fun h => absurd h (by decide), fun h => h.elim⟩
theorem swi40 : ((4 : Int32) = 0) = False := propext ⟨fun h => absurd h (by decide), fun h => h.elim⟩
theorem swi41 : ((4 : Int32) = 1) = False := propext ⟨fun h => absurd h (by decide), fun h => h.elim⟩
theorem swi42 : ((4 : Int32) = 2) = False := propext ⟨fun h => absurd h (by decide), fun h => h.elim⟩
theorem swi43 : ((4 : Int32) = 3) = False := propext ⟨fun h => absurd h (by decide), fun h => h.elim⟩
/-! ===== tighten ===== -/
def swbm (p : Nat → Bool) : Nat → Nat
  | 0 => 0
  | n + 1 => if p n = true then swbm p n ||| 2 ^ n else swbm p n
theorem swbm_t (p : Nat → Bool) : ∀ n k, (swbm p n).testBit k = (decide (k < n) && p k) := by
  intro n
  induction n with
  | zero => intro k; show (0 : Nat).testBit k = _; simp
  | succ n ih =>
    intro k
    show (if p n = true then swbm p n ||| 2 ^ n else swbm p n).testBit k = _
    by_cases hp : p n = true
    · rw [if_pos hp, Nat.testBit_or, ih, Nat.testBit_two_pow]
      by_cases e : n = k
      · subst e
        simp [hp]
      · by_cases hk : k < n
        · simp [e, hk, show k < n + 1 by omega]
        · simp [e, hk, show ¬ k < n + 1 by omega]
    · rw [if_neg hp, ih]
      by_cases e : n = k
      · subst e
        simp [hp]
      · by_cases hk : k < n
        · simp [hk, show k < n + 1 by omega]
        · simp [hk, show ¬ k < n + 1 by omega]
theorem swbm_lt (p : Nat → Bool) (n : Nat) : swbm p n < 2 ^ n := Nat.lt_pow_two_of_testBit _ fun i hi => by
  rw [swbm_t, decide_eq_false (by omega), Bool.false_and]
def swBD (E : swEv) (dk : Nat → swD) (v : Nat) : Bool := decide (0 < swBK E (dk v))
theorem pc_bv {u : swU} {nv : Nat} {E : swEv} {dk : Nat → swD} (h40 : nv ≤ 40) (hn : u.1 0 6 = nI nv) (hE : swcE u E) (hd : ∀ v, v < nv → swcD u (200 + v) (dk v)) : xx5_blockedVersions u = some (lN (swbm (swBD E dk) nv)) := by
  unfold xx5_blockedVersions
  refine sw_up (fun f v => xx5_blockedVersions_L4 u (fun v1 v3 => some v1) f (lN (swbm (swBD E dk) v)) (nI v)) nv _ (fun f v hv => ?_) (fun f => ?_) (by omega)
  · show xx5_blockedVersions_L4 u _ (f + 1) _ (nI v) = xx5_blockedVersions_L4 u _ f (lN (if swBD E dk v = true then swbm (swBD E dk) v ||| 2 ^ v else swbm (swBD E dk) v)) (nI (v + 1))
    rw [xx5_blockedVersions_L4]
    have hbk := sw_bk0 (E := E) (d := dk v) hE.1 (hd v hv).1
    have hs := swl_sh1 v (by omega)
    by_cases hz : swBK E (dk v) = 0
    · have hb : swBD E dk v = false := decide_eq_false (by omega)
      rw [eq_true hz] at hbk
      simp (disch := omega) only [swlt_e, swbd_e, swrd_n, swgd_n, nI_clamp, sw8m, sw4m, sw4r, nI_add, nI_1, swsub, swsubn, sw4le, swleI, swltI, sweqI, sweqm, sw0add, if_pos, if_neg, if_true, if_false, sw1n0, sw0n1, eq_self, ↓reduceIte, hn, swap100, pc_countBlocks hE (hd v hv), hbk, hb, Bool.false_eq_true]
    · have hb : swBD E dk v = true := decide_eq_true (by omega)
      rw [eq_false hz] at hbk
      simp (disch := omega) only [swlt_e, swbd_e, swrd_n, swgd_n, nI_clamp, sw8m, sw4m, sw4r, nI_add, nI_1, swsub, swsubn, sw4le, swleI, swltI, sweqI, sweqm, sw0add, if_pos, if_neg, if_true, if_false, sw1n0, sw0n1, eq_self, ↓reduceIte, hn, swap100, pc_countBlocks hE (hd v hv), hbk, hb, hs, swl_or]
  · show xx5_blockedVersions_L4 u _ (f + 1) _ (nI nv) = _
    rw [xx5_blockedVersions_L4]
    simp (disch := omega) only [swlt_e, swbd_e, swrd_n, swgd_n, nI_clamp, sw8m, sw4m, sw4r, nI_add, nI_1, swsub, swsubn, sw4le, swleI, swltI, sweqI, sweqm, sw0add, if_pos, if_neg, if_true, if_false, sw1n0, sw0n1, eq_self, ↓reduceIte, hn]
theorem swbc_new {p q : Nat → Bool} {n : Nat} (h : n ≤ 40) : swBC (lN (swbm q n) &&& (lN (swbm p n) ^^^ (-1 : Int64))) = nI (sw_cnt n (fun v => !p v && q v)) := by
  have hq : swbm q n < 2 ^ 40 := Nat.lt_of_lt_of_le (swbm_lt q n) (Nat.pow_le_pow_right (by omega) h)
  have hlt : swbm q n &&& (swbm p n ^^^ 18446744073709551615) < 2 ^ 64 := Nat.lt_of_le_of_lt Nat.and_le_left (by omega)
  rw [show (-1 : Int64) = lN 18446744073709551615 from rfl, swl_xor, swl_and, bc_all hlt, show (64 : Nat) = n + (64 - n) by omega, sw_cnt_split, sw_cnt_no (64 - n), Nat.add_zero]
  · congr 1
    refine sw_cnt_cong _ fun k hk => ?_
    rw [Nat.testBit_and, Nat.testBit_xor, swbm_t, swbm_t, show (18446744073709551615 : Nat) = 2 ^ 64 - 1 from rfl, Nat.testBit_two_pow_sub_one, decide_eq_true hk, decide_eq_true (show k < 64 by omega)]
    cases p k <;> cases q k <;> rfl
  · intro k hk
    rw [Nat.testBit_and, swbm_t, decide_eq_false (by omega), Bool.false_and, Bool.false_and]
