/-! ===== BITS of longs, counted ===== -/
theorem swl_inj {a b : Int64} (h : a.toBitVec = b.toBitVec) : a = b := Int64.toBitVec_inj.mp h
theorem swl_tn {n : Nat} (h : n < 2 ^ 64) : (lN n).toBitVec.toNat = n := by
  show (BitVec.ofNat 64 n).toNat = n
  rw [BitVec.toNat_ofNat, Nat.mod_eq_of_lt h]
theorem swl_and (a b : Nat) : lN a &&& lN b = lN (a &&& b) := by
  apply swl_inj
  show BitVec.ofNat 64 a &&& BitVec.ofNat 64 b = BitVec.ofNat 64 (a &&& b)
  apply BitVec.eq_of_getLsbD_eq
  intro i hi
  simp [hi]
theorem swl_or (a b : Nat) : lN a ||| lN b = lN (a ||| b) := by
  apply swl_inj
  show BitVec.ofNat 64 a ||| BitVec.ofNat 64 b = BitVec.ofNat 64 (a ||| b)
  apply BitVec.eq_of_getLsbD_eq
  intro i hi
  simp [hi]
theorem swl_xor (a b : Nat) : lN a ^^^ lN b = lN (a ^^^ b) := by
  apply swl_inj
  show BitVec.ofNat 64 a ^^^ BitVec.ofNat 64 b = BitVec.ofNat 64 (a ^^^ b)
  apply BitVec.eq_of_getLsbD_eq
  intro i hi
  simp [hi]
theorem swl_sh1 : ∀ k, k < 40 → ((1 : Int64) <<< ((nI k).toInt64 &&& 63)) = lN (2 ^ k) := by decide +kernel
theorem swl_cu : ∀ k, k < 64 → ((nI k).toInt64.toUInt64 &&& Int64.toUInt64 63) = UInt64.ofNat k := by decide +kernel
theorem swl_cs : ∀ k, k < 64 → (((nI k).toInt64 &&& 63).toBitVec.smod 64).toNat = k := by decide +kernel
theorem swl_ush {n k : Nat} (hn : n < 2 ^ 64) (hk : k < 64) : swush (lN n) (nI k) = lN (n / 2 ^ k) := by
  unfold swush
  rw [swl_cu k hk]
  apply swl_inj
  apply BitVec.eq_of_toNat_eq
  show ((lN n).toUInt64 >>> UInt64.ofNat k).toNat = (BitVec.ofNat 64 _).toNat
  have h1 : (UInt64.ofNat k).toNat = k := by
    show (BitVec.ofNat 64 k).toNat = k
    rw [BitVec.toNat_ofNat, Nat.mod_eq_of_lt (by omega)]
  have h2 : (lN n).toUInt64.toNat = n := swl_tn hn
  rw [UInt64.toNat_shiftRight, h1, h2, Nat.mod_eq_of_lt hk, Nat.shiftRight_eq_div_pow, BitVec.toNat_ofNat, Nat.mod_eq_of_lt (Nat.lt_of_le_of_lt (Nat.div_le_self _ _) hn)]
theorem swl_bit {m k : Nat} (hm : m < 2 ^ 40) (hk : k < 40) : (lN m >>> ((nI k).toInt64 &&& 63)) &&& (1 : Int64) = lN (m / 2 ^ k % 2) := by
  apply swl_inj
  rw [Int64.toBitVec_and, Int64.toBitVec_shiftRight]
  show ((BitVec.ofNat 64 m).sshiftRight (((nI k).toInt64 &&& 63).toBitVec.smod 64).toNat) &&& BitVec.ofNat 64 1 = BitVec.ofNat 64 _
  have hmsb : (BitVec.ofNat 64 m).msb = false := by
    rw [BitVec.msb_eq_decide, BitVec.toNat_ofNat, Nat.mod_eq_of_lt (by omega)]
    exact decide_eq_false (by omega)
  rw [swl_cs k (by omega), BitVec.sshiftRight_eq_of_msb_false hmsb]
  apply BitVec.eq_of_toNat_eq
  rw [BitVec.toNat_and, BitVec.toNat_ushiftRight, BitVec.toNat_ofNat, BitVec.toNat_ofNat, BitVec.toNat_ofNat, Nat.mod_eq_of_lt (show m < 2 ^ 64 by omega), Nat.shiftRight_eq_div_pow, show (1 : Nat) % 2 ^ 64 = 1 from rfl, Nat.and_one_is_mod]
  have := Nat.mod_lt (m / 2 ^ k) (show 0 < 2 by omega)
  exact (Nat.mod_eq_of_lt (Nat.lt_trans this (by omega))).symm
theorem swl_cmp : lg_cmp (lN 0) 0 = 0 ∧ ¬ lg_cmp (lN 1) 0 = 0 := by
  unfold lg_cmp
  decide +kernel
theorem swl_test {m k : Nat} (hm : m < 2 ^ 40) (hk : k < 40) : (lg_cmp ((lN m >>> ((nI k).toInt64 &&& 63)) &&& (1 : Int64)) (0 : Int64) = 0) = (m.testBit k = false) := by
  rw [swl_bit hm hk, Nat.testBit_eq_decide_div_mod_eq]
  rcases (show m / 2 ^ k % 2 = 0 ∨ m / 2 ^ k % 2 = 1 by omega) with h | h
  · rw [h]
    exact propext ⟨fun _ => rfl, fun _ => swl_cmp.1⟩
  · rw [h]
    exact propext ⟨fun z => absurd z swl_cmp.2, fun z => by cases z⟩
/-! the count -/
def bcM (c : Nat) : Nat → Nat
  | 0 => 0
  | n + 1 => 256 * bcM c n + c
def bc1 (n m : Nat) : Nat := m - ((m / 2) &&& bcM 85 n)
def bc2 (n a : Nat) : Nat := (a &&& bcM 51 n) + ((a / 4) &&& bcM 51 n)
def bc3 (n b : Nat) : Nat := (b + b / 16) &&& bcM 15 n
theorem bc_and (H M l c : Nat) (hl : l < 256) (hc : c < 256) : (256 * H + l) &&& (256 * M + c) = 256 * (H &&& M) + (l &&& c) := by
  have hlc : l &&& c < 256 := Nat.and_lt_two_pow (n := 8) l hc
  apply Nat.eq_of_testBit_eq
  intro i
  rw [Nat.testBit_and, show (256 : Nat) = 2 ^ 8 from rfl]
  rw [Nat.testBit_two_pow_mul_add _ (show l < 2 ^ 8 from hl), Nat.testBit_two_pow_mul_add _ (show c < 2 ^ 8 from hc), Nat.testBit_two_pow_mul_add _ (show l &&& c < 2 ^ 8 from hlc)]
  by_cases h : i < 8
  · rw [if_pos h, if_pos h, if_pos h, Nat.testBit_and]
  · rw [if_neg h, if_neg h, if_neg h, Nat.testBit_and]
theorem bc_85 : ∀ e, e < 2 → ∀ l, l < 256 → ((128 * e + l / 2) &&& 85) = ((l / 2) &&& 85) := by decide +kernel
theorem bc_51 : ∀ e, e < 4 → ∀ l, l < 256 → ((64 * e + l / 4) &&& 51) = ((l / 4) &&& 51) := by decide +kernel
theorem bc_b1 : ∀ l, l < 256 → ((l / 2) &&& 85) ≤ l := by decide +kernel
def bcA (l : Nat) : Nat := l - ((l / 2) &&& 85)
def bcB (l : Nat) : Nat := (bcA l &&& 51) + ((bcA l / 4) &&& 51)
def bcC (l : Nat) : Nat := (bcB l + bcB l / 16) &&& 15
theorem bc_AB : ∀ l, l < 256 → bcA l < 256 ∧ bcB l < 256 ∧ bcB l % 16 ≤ 4 ∧ bcB l + bcB l / 16 + 64 < 256 ∧ bcC l ≤ 8 := by decide +kernel
theorem bc_15 : ∀ e, e ≤ 4 → ∀ l, l < 256 → ((16 * e + (bcB l + bcB l / 16)) &&& 15) = bcC l := by decide +kernel
theorem bc1_s (n h l : Nat) (hl : l < 256) : bc1 (n + 1) (256 * h + l) = 256 * bc1 n h + bcA l := by
  unfold bc1 bcA
  have e : (256 * h + l) / 2 = 256 * (h / 2) + (128 * (h % 2) + l / 2) := by omega
  rw [e]
  show 256 * h + l - ((256 * (h / 2) + (128 * (h % 2) + l / 2)) &&& (256 * bcM 85 n + 85)) = _
  rw [bc_and _ _ _ _ (by omega) (by omega), bc_85 _ (by omega) l hl]
  have a1 : (h / 2) &&& bcM 85 n ≤ h / 2 := Nat.and_le_left
  have a2 := bc_b1 l hl
  omega
theorem bc2_s (n a l : Nat) (hl : l < 256) : bc2 (n + 1) (256 * a + bcA l) = 256 * bc2 n a + bcB l := by
  have h1 := (bc_AB l hl).1
  unfold bc2 bcB
  have e : (256 * a + bcA l) / 4 = 256 * (a / 4) + (64 * (a % 4) + bcA l / 4) := by omega
  rw [e]
  show ((256 * a + bcA l) &&& (256 * bcM 51 n + 51)) + ((256 * (a / 4) + (64 * (a % 4) + bcA l / 4)) &&& (256 * bcM 51 n + 51)) = _
  rw [bc_and _ _ _ _ h1 (by omega), bc_and _ _ _ _ (by omega) (by omega), bc_51 _ (by omega) _ h1]
  omega
theorem bc3_s (n b l : Nat) (hl : l < 256) (hb : b % 16 ≤ 4) : bc3 (n + 1) (256 * b + bcB l) = 256 * bc3 n b + bcC l := by
  obtain ⟨-, h2, -, h4, -⟩ := bc_AB l hl
  unfold bc3
  have e : 256 * b + bcB l + (256 * b + bcB l) / 16 = 256 * (b + b / 16) + (16 * (b % 16) + (bcB l + bcB l / 16)) := by omega
  rw [e]
  show (256 * (b + b / 16) + (16 * (b % 16) + (bcB l + bcB l / 16))) &&& (256 * bcM 15 n + 15) = _
  rw [bc_and _ _ _ _ (by omega) (by omega), bc_15 _ hb l hl]
theorem bc_m16 : ∀ (n h : Nat), h < 256 ^ n → bc2 n (bc1 n h) % 16 ≤ 4 := by
  intro n h hh
  cases n with
  | zero =>
    have : h = 0 := by
      rw [Nat.pow_zero] at hh
      omega
    subst this
    decide
  | succ n =>
    obtain ⟨q, l, hl, rfl⟩ : ∃ q l, l < 256 ∧ h = 256 * q + l := ⟨h / 256, h % 256, by omega, by omega⟩
    rw [bc1_s n q l hl, bc2_s n _ l hl]
    have := (bc_AB l hl).2.2.1
    omega
def bcF (n m : Nat) : Nat := bc3 n (bc2 n (bc1 n m))
theorem bcF_s (n h l : Nat) (hl : l < 256) (hh : h < 256 ^ n) : bcF (n + 1) (256 * h + l) = 256 * bcF n h + bcC l := by
  unfold bcF
  rw [bc1_s n h l hl, bc2_s n _ l hl, bc3_s n _ l hl (bc_m16 n h hh)]
theorem bcF_0 (m : Nat) : bcF 0 m = 0 := by
  unfold bcF bc3
  exact Nat.and_zero _
theorem sw_cnt_split (p : Nat → Bool) (a : Nat) : ∀ b, sw_cnt (a + b) p = sw_cnt a p + sw_cnt b (fun k => p (a + k)) := by
  intro b
  induction b with
  | zero => rfl
  | succ b ih =>
    show sw_cnt (a + b) p + (if p (a + b) = true then 1 else 0) = sw_cnt a p + (sw_cnt b (fun k => p (a + k)) + (if p (a + b) = true then 1 else 0))
    rw [ih, Nat.add_assoc]
theorem sw_cnt_cong {p q : Nat → Bool} : ∀ n, (∀ k, k < n → p k = q k) → sw_cnt n p = sw_cnt n q := by
  intro n
  induction n with
  | zero => intro _; rfl
  | succ n ih =>
    intro h
    show sw_cnt n p + (if p n = true then 1 else 0) = sw_cnt n q + (if q n = true then 1 else 0)
    rw [ih (fun k hk => h k (by omega)), h n (by omega)]
theorem sw_cnt_no {p : Nat → Bool} : ∀ n, (∀ k, k < n → p k = false) → sw_cnt n p = 0 := by
  intro n h
  have h2 := sw_cnt_pos p n
  by_cases hp : 0 < sw_cnt n p
  · obtain ⟨k, hk, hk2⟩ := h2.mp hp
    rw [h k hk] at hk2
    cases hk2
  · omega
theorem bc_C8 : ∀ l, l < 256 → sw_cnt 8 (fun k => l.testBit k) = bcC l := by decide +kernel
theorem bc_cnt (n h l : Nat) (hl : l < 256) : sw_cnt (8 * (n + 1)) (fun k => (256 * h + l).testBit k) = bcC l + sw_cnt (8 * n) (fun k => h.testBit k) := by
  rw [show 8 * (n + 1) = 8 + 8 * n by omega, sw_cnt_split, ← bc_C8 l hl]
  congr 1
  · refine sw_cnt_cong _ fun k hk => ?_
    rw [show (256 : Nat) = 2 ^ 8 from rfl, Nat.testBit_two_pow_mul_add _ (show l < 2 ^ 8 from hl), if_pos hk]
  · refine sw_cnt_cong _ fun k hk => ?_
    rw [show (256 : Nat) = 2 ^ 8 from rfl, Nat.testBit_two_pow_mul_add _ (show l < 2 ^ 8 from hl), if_neg (by omega), Nat.add_sub_cancel_left]
theorem bc_fin (d0 d1 d2 d3 d4 d5 d6 d7 X Y Z W : Nat) (h0 : d0 ≤ 8) (h1 : d1 ≤ 8) (h2 : d2 ≤ 8) (h3 : d3 ≤ 8) (h4 : d4 ≤ 8) (h5 : d5 ≤ 8) (h6 : d6 ≤ 8) (h7 : d7 ≤ 8)
    (hX : X = 256 * (256 * (256 * (256 * (256 * (256 * (256 * d7 + d6) + d5) + d4) + d3) + d2) + d1) + d0) (hY : Y = X + X / 256) (hZ : Z = Y + Y / 65536) (hW : W = Z + Z / 4294967296) : W % 128 = d0 + d1 + d2 + d3 + d4 + d5 + d6 + d7 := by
  obtain ⟨T6, e6⟩ : ∃ t, t = 256 * d7 + d6 := ⟨_, rfl⟩
  obtain ⟨T5, e5⟩ : ∃ t, t = 256 * T6 + d5 := ⟨_, rfl⟩
  obtain ⟨T4, e4⟩ : ∃ t, t = 256 * T5 + d4 := ⟨_, rfl⟩
  obtain ⟨T3, e3⟩ : ∃ t, t = 256 * T4 + d3 := ⟨_, rfl⟩
  obtain ⟨T2, e2⟩ : ∃ t, t = 256 * T3 + d2 := ⟨_, rfl⟩
  obtain ⟨T1, e1⟩ : ∃ t, t = 256 * T2 + d1 := ⟨_, rfl⟩
  rw [← e6, ← e5, ← e4, ← e3, ← e2, ← e1] at hX
  have q1 : X / 256 = T1 := by omega
  rw [q1] at hY
  have q2 : Y / 65536 = T2 + T3 := by omega
  rw [q2] at hZ
  have q3 : Z / 4294967296 = T4 + T5 + T6 + d7 := by omega
  rw [q3] at hW
  omega
theorem bc_all {m : Nat} (hm : m < 2 ^ 64) : swBC (lN m) = nI (sw_cnt 64 (fun k => m.testBit k)) := by
  have c85 : bcM 85 8 = 6148914691236517205 := by decide +kernel
  have c51 : bcM 51 8 = 3689348814741910323 := by decide +kernel
  have c15 : bcM 15 8 = 1085102592571150095 := by decide +kernel
  have e1 : swb1 (lN m) = lN (bc1 8 m) := by
    have a1 : (m / 2) &&& bcM 85 8 ≤ m / 2 := Nat.and_le_left
    unfold swb1 bc1
    rw [show (1 : Int32) = nI 1 from rfl, swl_ush hm (by omega), Nat.pow_one, show (6148914691236517205 : Int64) = lN (bcM 85 8) by rw [c85]; rfl, swl_and, lN_sub (by omega)]
  have b1 : bc1 8 m < 2 ^ 64 := Nat.lt_of_le_of_lt (Nat.sub_le _ _) hm
  have e2 : swb2 (lN (bc1 8 m)) = lN (bc2 8 (bc1 8 m)) := by
    unfold swb2 bc2
    rw [show (2 : Int32) = nI 2 from rfl, swl_ush b1 (by omega), show (2 : Nat) ^ 2 = 4 from rfl, show (3689348814741910323 : Int64) = lN (bcM 51 8) by rw [c51]; rfl, swl_and, swl_and, lN_add]
  have b2 : bc2 8 (bc1 8 m) < 2 ^ 64 := by
    have z1 : bc1 8 m &&& bcM 51 8 ≤ bcM 51 8 := Nat.and_le_right
    have z2 : bc1 8 m / 4 &&& bcM 51 8 ≤ bcM 51 8 := Nat.and_le_right
    unfold bc2
    omega
  have e3 : swb3 (lN (bc2 8 (bc1 8 m))) = lN (bcF 8 m) := by
    unfold swb3 bcF bc3
    rw [show (4 : Int32) = nI 4 from rfl, swl_ush b2 (by omega), show (2 : Nat) ^ 4 = 16 from rfl, lN_add, show (1085102592571150095 : Int64) = lN (bcM 15 8) by rw [c15]; rfl, swl_and]
  have b3 : bcF 8 m ≤ 1085102592571150095 := by
    unfold bcF bc3
    rw [← c15]
    exact Nat.and_le_right
  obtain ⟨Y, hY⟩ : ∃ y, y = bcF 8 m + bcF 8 m / 256 := ⟨_, rfl⟩
  obtain ⟨Z, hZ⟩ : ∃ y, y = Y + Y / 65536 := ⟨_, rfl⟩
  obtain ⟨W, hW⟩ : ∃ y, y = Z + Z / 4294967296 := ⟨_, rfl⟩
  have e4 : swb4 8 (lN (bcF 8 m)) = lN Y := by
    unfold swb4
    rw [show (8 : Int32) = nI 8 from rfl, swl_ush (by omega) (by omega), lN_add, hY]
  have e5 : swb4 16 (lN Y) = lN Z := by
    unfold swb4
    rw [show (16 : Int32) = nI 16 from rfl, swl_ush (by omega) (by omega), lN_add, hZ]
  have e6 : swb4 32 (lN Z) = lN W := by
    unfold swb4
    rw [show (32 : Int32) = nI 32 from rfl, swl_ush (by omega) (by omega), lN_add, hW]
  have e7 : nI W &&& 127 = nI (W % 128) := by
    have h : nI W &&& nI 127 = nI (W &&& 127) := by
      apply Int32.toBitVec_inj.1
      show BitVec.ofNat 32 W &&& BitVec.ofNat 32 127 = BitVec.ofNat 32 (W &&& 127)
      apply BitVec.eq_of_getLsbD_eq
      intro i hi
      simp [hi]
    rw [show (127 : Int32) = nI 127 from rfl, h, show (127 : Nat) = 2 ^ 7 - 1 from rfl, Nat.and_two_pow_sub_one_eq_mod]
  unfold swBC
  rw [e1, e2, e3, e4, e5, e6, lN_i, e7]
  congr 1
  obtain ⟨m1, l0, k0, rfl⟩ : ∃ q l, l < 256 ∧ m = 256 * q + l := ⟨m / 256, m % 256, by omega, by omega⟩
  obtain ⟨m2, l1, k1, rfl⟩ : ∃ q l, l < 256 ∧ m1 = 256 * q + l := ⟨m1 / 256, m1 % 256, by omega, by omega⟩
  obtain ⟨m3, l2, k2, rfl⟩ : ∃ q l, l < 256 ∧ m2 = 256 * q + l := ⟨m2 / 256, m2 % 256, by omega, by omega⟩
  obtain ⟨m4, l3, k3, rfl⟩ : ∃ q l, l < 256 ∧ m3 = 256 * q + l := ⟨m3 / 256, m3 % 256, by omega, by omega⟩
  obtain ⟨m5, l4, k4, rfl⟩ : ∃ q l, l < 256 ∧ m4 = 256 * q + l := ⟨m4 / 256, m4 % 256, by omega, by omega⟩
  obtain ⟨m6, l5, k5, rfl⟩ : ∃ q l, l < 256 ∧ m5 = 256 * q + l := ⟨m5 / 256, m5 % 256, by omega, by omega⟩
  obtain ⟨m7, l6, k6, rfl⟩ : ∃ q l, l < 256 ∧ m6 = 256 * q + l := ⟨m6 / 256, m6 % 256, by omega, by omega⟩
  obtain ⟨m8, l7, k7, rfl⟩ : ∃ q l, l < 256 ∧ m7 = 256 * q + l := ⟨m7 / 256, m7 % 256, by omega, by omega⟩
  have hz : m8 = 0 := by omega
  subst hz
  have f8 := bc_fin (bcC l0) (bcC l1) (bcC l2) (bcC l3) (bcC l4) (bcC l5) (bcC l6) (bcC l7) _ Y Z W (bc_AB l0 k0).2.2.2.2 (bc_AB l1 k1).2.2.2.2 (bc_AB l2 k2).2.2.2.2 (bc_AB l3 k3).2.2.2.2 (bc_AB l4 k4).2.2.2.2 (bc_AB l5 k5).2.2.2.2 (bc_AB l6 k6).2.2.2.2 (bc_AB l7 k7).2.2.2.2 (by
    rw [bcF_s 7 _ l0 k0 (by omega), bcF_s 6 _ l1 k1 (by omega), bcF_s 5 _ l2 k2 (by omega), bcF_s 4 _ l3 k3 (by omega), bcF_s 3 _ l4 k4 (by omega), bcF_s 2 _ l5 k5 (by omega), bcF_s 1 _ l6 k6 (by omega), bcF_s 0 _ l7 k7 (by omega), bcF_0, Nat.mul_zero, Nat.zero_add]) hY hZ hW
  rw [f8]
  have g : sw_cnt (8 * 8) (fun k => (256 * (256 * (256 * (256 * (256 * (256 * (256 * (256 * 0 + l7) + l6) + l5) + l4) + l3) + l2) + l1) + l0).testBit k) = _ := bc_cnt 7 _ l0 k0
  rw [bc_cnt 6 _ l1 k1, bc_cnt 5 _ l2 k2, bc_cnt 4 _ l3 k3, bc_cnt 3 _ l4 k4, bc_cnt 2 _ l5 k5, bc_cnt 1 _ l6 k6, bc_cnt 0 _ l7 k7] at g
  rw [show (64 : Nat) = 8 * 8 from rfl, g]
  have : sw_cnt (8 * 0) (fun k => (0 : Nat).testBit k) = 0 := rfl
  rw [this]
  omega

/-! ===== the relation of the class's state u and the law's arrays w; a slide of a deck as a packed number, a deck's order, a version's ancestors as a set ===== -/
def sr1 (nv : Nat) (u : swU) (w : lyU) : Prop := 1 ≤ nv ∧ nv ≤ 40 ∧ u.1 0 6 = nI nv ∧ w.1 8 0 = nI nv
def sr2 (nb : Nat) (u : swU) (w : lyU) : Prop := 1 ≤ nb ∧ nb ≤ 6 ∧ u.1 0 7 = nI nb ∧ w.1 8 2 = nI nb
def sr3 (ns : Nat) (u : swU) (w : lyU) : Prop := ns ≤ 20 ∧ u.1 0 8 = nI ns ∧ w.1 8 1 = nI ns
def sr4 (nv nb : Nat) (hd : Nat → Nat) (u : swU) (w : lyU) : Prop := ∀ b, b < nb → hd b < nv ∧ u.1 1 b = nI (hd b) ∧ w.1 5 b = nI (hd b)
def sr5 (nv : Nat) (sh : Nat → Int32) (u : swU) (w : lyU) : Prop := ∀ b, b < 6 → u.1 2 b = sh b ∧ w.1 5 (6 + b) = sh b + 1 ∧ (sh b = -1 ∨ ∃ v, v < nv ∧ sh b = nI v)
def srp (mo cm ot : Int32) (w4 : Int32) : Prop := ∃ m c o : Nat, m < 6 ∧ c ≤ 40 ∧ o ≤ 40 ∧ mo = nI m ∧ cm = nI c - 1 ∧ ot = nI o - 1 ∧ w4 = nI (c + 64 * o + 4096 * m)
def sr6 (nv : Nat) (mo cm ot : Nat → Int32) (am : Nat → Nat) (u : swU) (w : lyU) : Prop := ∀ v, v < nv → u.1 (100 + v) 1 = mo v ∧ u.1 (100 + v) 2 = cm v ∧ u.1 (100 + v) 3 = ot v ∧ srp (mo v) (cm v) (ot v) (w.1 4 v) ∧ w.1 3 v = nI (am v) ∧ True ∧ u.2 (100 + v) = lN (am v)
def srA (nv : Nat) (am : Nat → Nat) : Prop := ∀ v, v < nv → ∀ k, (am v).testBit k = true → k ≤ v
theorem srA_40 {nv : Nat} {am : Nat → Nat} (hA : srA nv am) (h40 : nv ≤ 40) {v : Nat} (hv : v < nv) : am v < 2 ^ 40 := by
  apply Nat.lt_pow_two_of_testBit
  intro i hi
  cases h : (am v).testBit i
  · rfl
  · have := hA v hv i h
    omega
def srW (ns : Nat) (d : swD) : Prop := swnn d ∧ (∀ k, k < d.1 → ∃ s, s < ns ∧ d.2.1 k = nI s) ∧ ∀ j k, j < d.1 → k < d.1 → d.2.1 j = d.2.1 k → j = k
def srV (d : swD) : Prop := ∀ k, k < d.1 → ∀ o, o < 4 → ∃ x : Nat, x < 1000 ∧ d.2.2 k o = nI x
/-- a slide's packed number: 0 if the deck has it not -/
def swvn (d : swD) (s o : Nat) : Nat := (swval d (nI s) o).toNatClampNeg
def swpk (v0 v1 v2 v3 : Nat) : Nat := 2 ^ 40 + v0 + 2 ^ 10 * v1 + 2 ^ 20 * v2 + 2 ^ 30 * v3
def swits (d : swD) (s : Nat) : Nat := if swhas d (nI s) = true then swpk (swvn d s 0) (swvn d s 1) (swvn d s 2) (swvn d s 3) else 0
/-- a deck's order: three bits a place -/
def sword (r : Nat → Int32) : Nat → Nat
  | 0 => 0
  | n + 1 => sword r n + 8 ^ n * ((r n).toNatClampNeg + 1)
def lwget (w : lyU) (v s : Nat) : Int64 := if 6 * v + s < 64 then w.2 0 (6 * v + s) else w.2 1 (6 * v + s - 64)
def lwD (w : lyU) (v : Nat) (d : swD) : Prop := w.1 2 v = nI (sword d.2.1 d.1) ∧ ∀ s, s < 6 → lwget w v s = lN (swits d s)
def sr7 (nv ns : Nat) (dk : Nat → swD) (u : swU) (w : lyU) : Prop := ∀ v, v < nv → swcD u (200 + v) (dk v) ∧ lwD w v (dk v) ∧ srW ns (dk v) ∧ srV (dk v)
def lwE (w : lyU) (E : swEv) : Prop := w.1 8 3 = nI E.1 ∧ w.1 8 4 = nI E.2.2.1 ∧ w.1 8 5 = nI E.2.2.2.2 ∧ (∀ r, r < E.1 → ∃ k o a b : Nat, k < 3 ∧ o < 4 ∧ 1 ≤ a ∧ a ≤ b ∧ b < 1000 ∧ E.2.1 r 0 = nI k ∧ E.2.1 r 1 = nI o ∧ E.2.1 r 2 = nI a ∧ E.2.1 r 3 = nI b ∧ w.1 6 r = nI (k + 4 * o + 16 * a + 16384 * b)) ∧ ∀ i, i < E.2.2.1 → ∃ k s t : Nat, k < 8 ∧ s < 6 ∧ t < 1000 ∧ E.2.2.2.1 i 0 = nI k ∧ E.2.2.2.1 i 1 = nI s ∧ E.2.2.2.1 i 2 = nI t ∧ w.1 7 i = nI (k + 8 * s + 64 * t)
def sr8 (E : swEv) (u : swU) (w : lyU) : Prop := swcE u E ∧ lwE w E ∧ E.2.2.2.2 ≤ 999
theorem sw_lt0 {x : Int32} (h : x < 0) {n : Nat} (hn : n < 2 ^ 31) : ¬ x = nI n := fun z => nI_pos hn (z ▸ h)
theorem sw_out {x : Int32} {n : Nat} (hn : n < 2 ^ 31) (h : x < 0 ∨ nI n ≤ x) : (if x < 0 then some (1 : Nat) else if x < nI n then some 0 else some 1) = some 1 := by
  rcases h with h | h
  · rw [if_pos h]
  · by_cases h0 : x < 0
    · rw [if_pos h0]
    · rw [if_neg h0, if_neg (Int32.not_lt.mpr h)]
theorem sw_inn {j n : Nat} (hn : n < 2 ^ 31) (h : j < n) : (if nI j < 0 then some (1 : Nat) else if nI j < nI n then some 0 else some 1) = some 0 := by
  rw [if_neg (nI_pos (by omega)), if_pos ((nI_ltI (by omega) hn).mpr h)]
theorem sw_cas (x : Int32) {n : Nat} (hn : n < 2 ^ 31) : (x < 0 ∨ nI n ≤ x) ∨ ∃ j : Nat, j < n ∧ x = nI j := by
  rcases pk_ix x hn with h | h | h
  · exact Or.inl (Or.inl h)
  · exact Or.inl (Or.inr h)
  · exact Or.inr h
theorem swck_1 {α : Type} {ex : Nat → Option α} {k : Option α} {n : Nat} : swck (some (n + 1)) ex k = ex (n + 1) := rfl
theorem swck_0 {α : Type} {ex : Nat → Option α} {k : Option α} : swck (some 0) ex k = k := rfl
theorem swB_f : ((swB false) = 0) = True := by simp
theorem swB_t : ((swB true) = 0) = False := sw1n0
theorem swap100 (v : Nat) : 100 + v + 100 = 200 + v := by omega
theorem sw_1le0 : ((1 : Int32) ≤ 0) = False := propext ⟨fun h => absurd h (by decide), fun h => h.elim⟩
theorem pc_headDeck {u : swU} {w : lyU} {nv nb : Nat} {hd : Nat → Nat} (h1 : sr1 nv u w) (h2 : sr2 nb u w) (h4 : sr4 nv nb hd u w) {b : Nat} (hb : b < nb) : xx5_headDeck u (nI b) = some (200 + hd b) := by
  have hb6 := h2.2.1
  have h40 := h1.2.1
  obtain ⟨hh, c1, c2⟩ := h4 b hb
  unfold xx5_headDeck
  simp (disch := omega) only [swlt_e, swbd_e, swrd_n, swgd_n, nI_clamp, sw8m, sw4m, sw4r, nI_add, nI_1, swsub, swsubn, sw4le, swleI, swltI, sweqI, sweqm, sw0add, if_pos, if_neg, if_true, if_false, sw1n0, sw0n1, eq_self, ↓reduceIte, c1, swap100]
theorem sw_bk0 {E : swEv} {d : swD} (h : E.1 ≤ 8) (h8 : d.1 ≤ 8) : (nI (swBK E d) ≤ 0) = (swBK E d = 0) := swleI0 (by have := swBK_le E d h h8; omega)
theorem sw_le_not {a b : Int32} (h : b < a) : (a ≤ b) = False := propext ⟨fun z => absurd h (Int32.not_lt.mpr z), fun z => z.elim⟩
theorem sw_le_yes {a b : Int32} (h : ¬ b < a) : (a ≤ b) = True := propext ⟨fun _ => trivial, fun _ => Int32.not_lt.mp h⟩
theorem sw_t1 {x : Int32} {N : Nat} (hN : N < 2 ^ 31) (h0 : ¬ x < 0) (h1 : ¬ nI N < x) : ∃ j, j ≤ N ∧ x = nI j := by
  obtain ⟨j, hj, rfl⟩ := nI_of h0
  rw [nI_ltI hN hj] at h1
  exact ⟨j, by omega, rfl⟩
