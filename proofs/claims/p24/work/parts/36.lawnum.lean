/-! ===== numbers of the law: ints and longs that stand for naturals ===== -/
theorem la_s : ∀ k, k < 32 → ((nI k &&& 31).toBitVec.smod 32).toNat = k := by decide +kernel
theorem la_rem {a b : Nat} (ha : a < 2 ^ 31) (h0 : 0 < b) (hb : b < 2 ^ 31) : swrem (nI a) (nI b) = nI (a % b) := pk_rem ha h0 hb
theorem la_shr {n k : Nat} (h : n < 2 ^ 31) (hk : k < 32) : swshr (nI n) (nI k) = nI (n / 2 ^ k) := pk_shrN h _ k (la_s k hk)
theorem la_shl {n k : Nat} (h : n * 2 ^ k < 2 ^ 32) (hk : k < 32) : swshl (nI n) (nI k) = nI (n * 2 ^ k) := pk_shlN _ k (la_s k hk) h
theorem la_and (a b : Nat) : nI a &&& nI b = nI (a &&& b) := by
  apply Int32.toBitVec_inj.1
  show BitVec.ofNat 32 a &&& BitVec.ofNat 32 b = BitVec.ofNat 32 (a &&& b)
  apply BitVec.eq_of_getLsbD_eq
  intro i hi
  simp [hi]
theorem la_or (a b : Nat) : nI a ||| nI b = nI (a ||| b) := by
  apply Int32.toBitVec_inj.1
  show BitVec.ofNat 32 a ||| BitVec.ofNat 32 b = BitVec.ofNat 32 (a ||| b)
  apply BitVec.eq_of_getLsbD_eq
  intro i hi
  simp [hi]
theorem la_lc : ∀ k, k < 64 → (((nI k).toInt64 &&& 63).toBitVec.smod 64) = BitVec.ofNat 64 k := by decide +kernel
theorem la_lshl (n : Nat) {k : Nat} (hk : k < 64) : lyshl (lN n) (nI k) = lN (n * 2 ^ k) := by
  apply swl_inj
  show (lN n <<< ((nI k).toInt64 &&& 63)).toBitVec = _
  rw [Int64.toBitVec_shiftLeft, la_lc k hk]
  apply BitVec.eq_of_toNat_eq
  show (BitVec.ofNat 64 n <<< BitVec.ofNat 64 k).toNat = (BitVec.ofNat 64 (n * 2 ^ k)).toNat
  rw [BitVec.shiftLeft_eq', BitVec.toNat_shiftLeft, BitVec.toNat_ofNat, BitVec.toNat_ofNat, BitVec.toNat_ofNat, Nat.mod_eq_of_lt (show k < 2 ^ 64 by omega), Nat.shiftLeft_eq, Nat.mul_mod, Nat.mod_mod, ← Nat.mul_mod]
theorem la_lshr {n k : Nat} (h : n < 2 ^ 62) (hk : k < 64) : lyshr (lN n) (nI k) = lN (n / 2 ^ k) := by
  have hd : n / 2 ^ k ≤ n := Nat.div_le_self _ _
  apply Int64.toInt_inj.mp
  have e : (lyshr (lN n) (nI k)).toInt = (lN n).toInt >>> k := by
    have hD := swl_cs k hk
    show (lN n >>> ((nI k).toInt64 &&& 63)).toInt = _
    conv => rhs; rw [← hD]
    exact BitVec.toInt_sshiftRight ..
  rw [e, Int.shiftRight_eq_div_pow, pk_lT (by omega), pk_lT (by omega)]
  rfl
theorem la_cmp {a b : Nat} (ha : a < 2 ^ 63) (hb : b < 2 ^ 63) : (lg_cmp (lN a) (lN b) = 0) = (a = b) := by
  apply propext
  unfold lg_cmp
  by_cases h : lN a > lN b
  · rw [if_pos h]
    have h2 : lN b < lN a := h
    rw [pk_lLT hb ha] at h2
    exact ⟨fun z => absurd z (by decide), fun z => by omega⟩
  · rw [if_neg h]
    by_cases e : lN a = lN b
    · rw [if_pos e]
      rw [pk_lEQ ha hb] at e
      exact ⟨fun _ => e, fun _ => rfl⟩
    · rw [if_neg e]
      rw [pk_lEQ ha hb] at e
      exact ⟨fun z => absurd z (by decide), fun z => absurd z e⟩
theorem la_cmp0 {a : Nat} (ha : a < 2 ^ 63) : (lg_cmp (lN a) (0 : Int64) = 0) = (a = 0) := la_cmp (b := 0) ha (by decide)
/-! small powers -/
theorem la_p3 (k : Nat) : 2 ^ (3 * k) = 8 ^ k := Nat.pow_mul 2 3 k
theorem la_8 : ∀ k, k ≤ 8 → 8 ^ k ≤ 16777216 := by decide
theorem la_21 : ∀ k, k ≤ 30 → 2 ^ k ≤ 1073741824 := by decide
theorem la_mod2 (x : Nat) (n : Nat) : x &&& (2 ^ n - 1) = x % 2 ^ n := by
  apply Nat.eq_of_testBit_eq
  intro i
  rw [Nat.testBit_and, Nat.testBit_two_pow_sub_one, Nat.testBit_mod_two_pow]
  rw [Bool.and_comm]
/-! the arrays -/
section LY
variable {y : lyU} {c c' k k' : Nat} {x : Int32}
theorem lyI_self : (lyI y c k x).1 c k = x := by
  show va_up y.1 c (upd (y.1 c) k x) c k = x
  rw [va_up_self]
  exact if_pos rfl
theorem lyI_ne (h : c' ≠ c) : (lyI y c k x).1 c' = y.1 c' := va_up_ne _ _ h
theorem lyI_k (h : k' ≠ k) : (lyI y c k x).1 c' k' = y.1 c' k' := by
  show va_up y.1 c (upd (y.1 c) k x) c' k' = _
  by_cases e : c' = c
  · subst e
    rw [va_up_self]
    exact if_neg h
  · rw [va_up_ne _ _ e]
theorem lyI_2 : (lyI y c k x).2 = y.2 := rfl
theorem lyI_ce (h : c' ≠ c ∨ k' ≠ k) : (lyI y c k x).1 c' k' = y.1 c' k' := by
  rcases h with h | h
  · rw [lyI_ne h]
  · exact lyI_k h
theorem lwget_I {v s : Nat} : lwget (lyI y c k x) v s = lwget y v s := rfl
theorem lwget_2 {y y' : lyU} (h : y'.2 = y.2) {v s : Nat} : lwget y' v s = lwget y v s := by
  unfold lwget
  rw [h]
end LY
theorem lyrd_n {α : Type} {i N : Nat} {f : Nat → Int64} {k : Int64 → Option α} (h : i < N) (hN : N < 2 ^ 31) : lyrd N f (nI i) k = k (f i) := by
  unfold lyrd
  rw [if_pos (swix_n h hN), nI_clamp (by omega)]
theorem swdv_n {α : Type} {n : Nat} {k : Option α} (h0 : 0 < n) (h : n < 2 ^ 31) : swdv (nI n) k = k := by
  unfold swdv
  rw [if_neg (nI_ne0 h0 h)]
theorem swjn_e {α β : Type} {k : α} {body : α → β} : swjn k body = body k := rfl
theorem swnx_e {α : Type} {r : Int32} {u : swU} {k : Int32 → swU → Option α} : swnx (some (0, r, u)) k = k r u := rfl
/-! ===== the law's small methods ===== -/
theorem la_low (x : Int32) {n : Nat} (h0 : 0 < n) (hn : n < 2 ^ 31) : ∃ r, r < n ∧ lx_low x (nI n) = some (nI r) := by
  have e := pk_and x (m := 2147483647) 31 (by decide)
  refine ⟨(x.toBitVec.toNat % 2 ^ 31) % n, Nat.mod_lt _ h0, ?_⟩
  unfold lx_low
  rw [swdv_n h0 hn, e, la_rem (Nat.mod_lt _ (by decide)) h0 hn]
theorem la_value {n o : Nat} (hn : n < 2 ^ 62) (ho : o < 4) : lx_value (lN n) (nI o) = some (nI (n / 2 ^ (10 * o) % 1024)) := by
  unfold lx_value
  rw [show ((10 : Int32) * nI o) = nI (10 * o) from pk_mul 10 o, la_lshr hn (by omega), show (1023 : Int64) = lN 1023 from rfl, swl_and, lN_i, show (1023 : Nat) = 2 ^ 10 - 1 from rfl, la_mod2]
theorem swpk_lt {v0 v1 v2 v3 : Nat} (h0 : v0 < 1024) (h1 : v1 < 1024) (h2 : v2 < 1024) (h3 : v3 < 1024) : swpk v0 v1 v2 v3 < 2 ^ 41 ∧ 2 ^ 40 ≤ swpk v0 v1 v2 v3 := by
  unfold swpk
  omega
theorem swpk_at {v : Nat → Nat} (h : ∀ o, o < 4 → v o < 1024) {o : Nat} (ho : o < 4) (c : Nat) : (swpk (v 0) (v 1) (v 2) (v 3) + 2 ^ 41 * c) / 2 ^ (10 * o) % 1024 = v o := by
  have h0 := h 0 (by omega)
  have h1 := h 1 (by omega)
  have h2 := h 2 (by omega)
  have h3 := h 3 (by omega)
  unfold swpk
  rcases (by omega : o = 0 ∨ o = 1 ∨ o = 2 ∨ o = 3) with rfl | rfl | rfl | rfl
  · show (_ : Nat) / 1 % 1024 = _
    omega
  · show (_ : Nat) / 1024 % 1024 = _
    omega
  · show (_ : Nat) / 1048576 % 1024 = _
    omega
  · show (_ : Nat) / 1073741824 % 1024 = _
    omega
theorem swpk_inj {v w : Nat → Nat} (h : ∀ o, o < 4 → v o < 1024) (h' : ∀ o, o < 4 → w o < 1024) (e : swpk (v 0) (v 1) (v 2) (v 3) = swpk (w 0) (w 1) (w 2) (w 3)) : ∀ o, o < 4 → v o = w o := fun o ho => by
  have a := swpk_at h ho 0
  have b := swpk_at h' ho 0
  rw [e] at a
  exact a.symm.trans b
/-! the order -/
def swdg (r : Nat → Int32) (n : Nat) : Prop := ∀ k, k < n → (r k).toNatClampNeg < 7
theorem swdg.mono {r : Nat → Int32} {n m : Nat} (h : swdg r n) (hm : m ≤ n) : swdg r m := fun k hk => h k (by omega)
theorem sword_lt {r : Nat → Int32} : ∀ n, swdg r n → sword r n < 8 ^ n
  | 0, _ => Nat.one_pos
  | n + 1, h => by
    have ih := sword_lt n (h.mono (by omega))
    have hn := h n (by omega)
    show sword r n + 8 ^ n * ((r n).toNatClampNeg + 1) < 8 ^ (n + 1)
    rw [Nat.pow_succ]
    have : 8 ^ n * ((r n).toNatClampNeg + 1) ≤ 8 ^ n * 7 := Nat.mul_le_mul_left _ (by omega)
    omega
theorem sword_at {r : Nat → Int32} : ∀ n k, k < n → swdg r n → sword r n / 8 ^ k % 8 = (r k).toNatClampNeg + 1
  | 0, k, hk, _ => absurd hk (Nat.not_lt_zero k)
  | n + 1, k, hk, h => by
    have hl := sword_lt n (h.mono (by omega))
    have hn := h n (by omega)
    show (sword r n + 8 ^ n * ((r n).toNatClampNeg + 1)) / 8 ^ k % 8 = _
    by_cases e : k = n
    · subst e
      rw [Nat.add_mul_div_left _ _ (Nat.pos_of_ne_zero (by simp)), Nat.div_eq_of_lt hl]
      omega
    · have ih := sword_at n k (by omega) (h.mono (by omega))
      have e2 : 8 ^ n = 8 ^ k * (8 * 8 ^ (n - k - 1)) := by
        rw [← Nat.pow_succ', ← Nat.pow_add]
        congr 1
        omega
      rw [e2, Nat.mul_assoc, Nat.add_mul_div_left _ _ (Nat.pos_of_ne_zero (by simp)), Nat.mul_assoc, Nat.add_mul_mod_self_left]
      exact ih
theorem sword_out {r : Nat → Int32} {n k : Nat} (hk : n ≤ k) (h : swdg r n) : sword r n / 8 ^ k = 0 := Nat.div_eq_of_lt (Nat.lt_of_lt_of_le (sword_lt n h) (Nat.pow_le_pow_right (by decide) hk))
theorem sword_pos {r : Nat → Int32} {n k : Nat} (hk : k < n) (h : swdg r n) : 0 < sword r n / 8 ^ k := by
  have := sword_at n k hk h
  rcases Nat.eq_zero_or_pos (sword r n / 8 ^ k) with e | e
  · rw [e] at this
    omega
  · exact e
theorem sword_31 {r : Nat → Int32} {n : Nat} (hn : n ≤ 8) (h : swdg r n) : sword r n < 2 ^ 31 := by
  have := sword_lt n h
  have := la_8 n hn
  omega
theorem la_many {r : Nat → Int32} {n : Nat} (hn : n ≤ 8) (h : swdg r n) : lx_many (nI (sword r n)) = some (nI n) := by
  have h31 := sword_31 hn h
  unfold lx_many
  show lx_many_L2 (nI (sword r n)) (fun v1 => some v1) 64 (nI 0) = some (nI n)
  have key : ∀ k, k ≤ n → swshr (nI (sword r n)) ((3 : Int32) * nI k) = nI (sword r n / 8 ^ k) := fun k hk => by
    rw [show ((3 : Int32) * nI k) = nI (3 * k) from pk_mul 3 k, la_shr h31 (by omega), la_p3]
  have hd : ∀ k, sword r n / 8 ^ k < 2 ^ 31 := fun k => Nat.lt_of_le_of_lt (Nat.div_le_self _ _) h31
  refine sw_up (fun f k => lx_many_L2 (nI (sword r n)) (fun v1 => some v1) f (nI k)) n _ (fun f k hk => ?_) (fun f => ?_) (by omega)
  · show lx_many_L2 _ _ (f + 1) (nI k) = lx_many_L2 _ _ f (nI (k + 1))
    rw [lx_many_L2, key k (by omega), if_neg (nI_nle (sword_pos hk h) (hd k)), nI_1]
  · show lx_many_L2 _ _ (f + 1) (nI n) = _
    rw [lx_many_L2, key n (Nat.le_refl n), sword_out (Nat.le_refl n) h, if_pos (by decide)]
/-- a slide by its place in the order -/
theorem la_digit {r : Nat → Int32} {n k : Nat} (hn : n ≤ 8) (h : swdg r n) (hk : k ≤ 8) : swrem (swshr (nI (sword r n)) ((3 : Int32) * nI k)) 8 = nI (sword r n / 8 ^ k % 8) := by
  have h31 := sword_31 hn h
  have hd : sword r n / 8 ^ k < 2 ^ 31 := Nat.lt_of_le_of_lt (Nat.div_le_self _ _) h31
  rw [show ((3 : Int32) * nI k) = nI (3 * k) from pk_mul 3 k, la_shr h31 (by omega), la_p3]
  exact la_rem hd (by decide) (by decide)
/-! get and put -/
theorem la_get (w : lyU) {v s : Nat} (hv : v < 21) (hs : s < 6) : lx_get w (nI v) (nI s) = some (lwget w v s) := by
  unfold lx_get lwget
  rw [show ((6 : Int32) * nI v) + nI s = nI (6 * v + s) by rw [show ((6 : Int32) * nI v) = nI (6 * v) from pk_mul 6 v, nI_add], swlt_e]
  by_cases h : 6 * v + s < 64
  · rw [if_pos h, if_neg (by rw [show (64 : Int32) = nI 64 from rfl, nI_leI (by omega) (by omega)]; omega), lyrd_n h (by omega)]
  · rw [if_neg h, if_pos (by rw [show (64 : Int32) = nI 64 from rfl, nI_leI (by omega) (by omega)]; omega), show (64 : Int32) = nI 64 from rfl, pk_sub (by omega), lyrd_n (by omega) (by omega)]
def lwput (w : lyU) (v s : Nat) (x : Int64) : lyU := if 6 * v + s < 64 then lyL w 0 (6 * v + s) x else lyL w 1 (6 * v + s - 64) x
theorem la_put (w : lyU) {v s : Nat} (hv : v < 21) (hs : s < 6) (x : Int64) : lx_put w (nI v) (nI s) x = some (lwput w v s x) := by
  unfold lx_put lwput
  rw [show ((6 : Int32) * nI v) + nI s = nI (6 * v + s) by rw [show ((6 : Int32) * nI v) = nI (6 * v) from pk_mul 6 v, nI_add], swlt_e]
  by_cases h : 6 * v + s < 64
  · rw [if_pos h, if_neg (by rw [show (64 : Int32) = nI 64 from rfl, nI_leI (by omega) (by omega)]; omega), swgd_n h (by omega), swlt_e, nI_clamp (by omega)]
  · rw [if_neg h, if_pos (by rw [show (64 : Int32) = nI 64 from rfl, nI_leI (by omega) (by omega)]; omega), show (64 : Int32) = nI 64 from rfl, pk_sub (by omega), swgd_n (by omega) (by omega), swlt_e, nI_clamp (by omega)]
theorem lwput_1 (w : lyU) (v s : Nat) (x : Int64) : (lwput w v s x).1 = w.1 := by
  unfold lwput
  by_cases h : 6 * v + s < 64
  · rw [if_pos h]
    rfl
  · rw [if_neg h]
    rfl
theorem lyL_at (w : lyU) (c k : Nat) (x : Int64) (c' k' : Nat) : (lyL w c k x).2 c' k' = if c' = c ∧ k' = k then x else w.2 c' k' := by
  show va_up w.2 c (vp_updL (w.2 c) k x) c' k' = _
  by_cases e : c' = c
  · subst e
    rw [va_up_self]
    unfold vp_updL
    by_cases e2 : k' = k
    · rw [if_pos e2, if_pos ⟨rfl, e2⟩]
    · rw [if_neg e2, if_neg (fun z => e2 z.2)]
  · rw [va_up_ne _ _ e, if_neg (fun z => e z.1)]
theorem lwput_at (w : lyU) {v s v' s' : Nat} (hs : s < 6) (hs' : s' < 6) (x : Int64) : lwget (lwput w v s x) v' s' = if v' = v ∧ s' = s then x else lwget w v' s' := by
  by_cases e : v' = v ∧ s' = s
  · obtain ⟨rfl, rfl⟩ := e
    rw [if_pos ⟨rfl, rfl⟩]
    unfold lwput lwget
    by_cases h : 6 * v' + s' < 64
    · rw [if_pos h, if_pos h, lyL_at, if_pos ⟨rfl, rfl⟩]
    · rw [if_neg h, if_neg h, lyL_at, if_pos ⟨rfl, rfl⟩]
  · have hi : ¬ 6 * v' + s' = 6 * v + s := fun z => e ⟨by omega, by omega⟩
    rw [if_neg e]
    unfold lwput lwget
    by_cases h : 6 * v + s < 64
    · by_cases h' : 6 * v' + s' < 64
      · rw [if_pos h, if_pos h', if_pos h', lyL_at, if_neg (fun z => hi z.2)]
      · rw [if_pos h, if_neg h', if_neg h', lyL_at, if_neg (fun z => absurd z.1 (by decide))]
    · by_cases h' : 6 * v' + s' < 64
      · rw [if_neg h, if_pos h', if_pos h', lyL_at, if_neg (fun z => absurd z.1 (by decide))]
      · rw [if_neg h, if_neg h', if_neg h', lyL_at, if_neg (fun z => hi (by omega))]
