/-! ===== copy and base ===== -/
def lyCP (nv b hb : Nat) (w w' : lyU) : Prop := w'.1 8 0 = nI (nv + 1) ∧ (∀ k, k ≠ 0 → w'.1 8 k = w.1 8 k) ∧ w'.1 5 b = nI nv ∧ (∀ k, k ≠ b → w'.1 5 k = w.1 5 k) ∧ w'.1 2 nv = w.1 2 hb ∧ w'.1 3 nv = (w.1 3 hb ||| nI (2 ^ nv)) ∧ w'.1 4 nv = nI (hb + 1 + 4096 * b) ∧ (∀ k, k ≠ nv → w'.1 2 k = w.1 2 k ∧ w'.1 3 k = w.1 3 k ∧ w'.1 4 k = w.1 4 k) ∧ w'.1 6 = w.1 6 ∧ w'.1 7 = w.1 7 ∧ (∀ s, s < 6 → lwget w' nv s = lwget w hb s) ∧ ∀ v s, s < 6 → v ≠ nv → lwget w' v s = lwget w v s
theorem la_copy {w : lyU} {nv b hb : Nat} (h0 : w.1 8 0 = nI nv) (hnv : nv < 21) (hb6 : b < 6) (h5 : w.1 5 b = nI hb) (hh : hb < nv) : ∃ w', lx_copy w (nI b) = some (nI nv, w') ∧ lyCP nv b hb w w' := by
  have key : ∀ KK : Int32 → lyU → Option (Int32 × lyU), ∃ z : lyU, (z.1 = (lyI w 8 0 (nI (nv + 1))).1 ∧ (∀ s, s < 6 → lwget z nv s = lwget w hb s) ∧ (∀ v s, s < 6 → v ≠ nv → lwget z v s = lwget w v s)) ∧ lx_copy_L23 (nI nv) (nI hb) KK 64 0 (lyI w 8 0 (nI (nv + 1))) = KK (nI 6) z := by
    intro KK
    obtain ⟨z, ⟨i1, i2, i3⟩, f, e⟩ := sw_upS (fun f k z => lx_copy_L23 (nI nv) (nI hb) KK f (nI k) z) (fun k z => z.1 = (lyI w 8 0 (nI (nv + 1))).1 ∧ (∀ s, s < 6 → s < k → lwget z nv s = lwget w hb s) ∧ (∀ v s, s < 6 → (v ≠ nv ∨ k ≤ s) → lwget z v s = lwget w v s)) 6 (lyI w 8 0 (nI (nv + 1))) ⟨rfl, fun s _ h => absurd h (Nat.not_lt_zero s), fun v s _ _ => rfl⟩ (fun f k z hk hI => by
      obtain ⟨i1, i2, i3⟩ := hI
      refine ⟨lwput z nv k (lwget z hb k), ⟨(lwput_1 z nv k _).trans i1, fun s hs hsk => ?_, fun v s hs hv => ?_⟩, ?_⟩
      · rw [lwput_at z hk hs]
        by_cases e : s = k
        · rw [if_pos ⟨rfl, e⟩, e]
          exact i3 hb k hk (Or.inl (by omega))
        · rw [if_neg (fun z => e z.2)]
          exact i2 s hs (by omega)
      · rw [lwput_at z hk hs, if_neg (fun z => by omega)]
        exact i3 v s hs (by omega)
      · show lx_copy_L23 (nI nv) (nI hb) KK (f + 1) (nI k) z = lx_copy_L23 (nI nv) (nI hb) KK f (nI (k + 1)) _
        rw [lx_copy_L23, if_neg (by rw [show (6 : Int32) = nI 6 from rfl, nI_leI (by omega) (by omega)]; omega), la_get z (by omega) hk, swbd_e, la_put z (by omega) hk, swbd_e, nI_1]) (by omega)
    refine ⟨z, ⟨i1, fun s hs => i2 s hs hs, fun v s hs hv => i3 v s hs (Or.inl hv)⟩, ?_⟩
    have e : lx_copy_L23 (nI nv) (nI hb) KK 64 0 (lyI w 8 0 (nI (nv + 1))) = lx_copy_L23 (nI nv) (nI hb) KK (f + 1) (nI 6) z := e
    rw [e, lx_copy_L23, if_pos (by decide)]
  unfold lx_copy
  rw [show (0 : Int32) = nI 0 from rfl, swrd_n (by omega) (by omega), swrd_n (by omega) (by omega), swrd_n (by omega) (by omega), swgd_n (by omega) (by omega), swlt_e, h0, h5]
  have hst : lyI w 8 (nI 0).toNatClampNeg (nI nv + 1) = lyI w 8 0 (nI (nv + 1)) := by rw [nI_clamp (by omega), nI_1]
  rw [hst]
  obtain ⟨z, ⟨i1, i2, i3⟩, e⟩ := key (fun v10 wy54 => swrd 21 (wy54.1 2) (nI hb) fun a60 => swgd (swix (nI nv) 21) <| swlt (lyI wy54 2 (Int32.toNatClampNeg (nI nv)) a60) fun u61 => swrd 21 (u61.1 3) (nI hb) fun a70 => swgd (swix (nI nv) 21) <| swlt (lyI u61 3 (Int32.toNatClampNeg (nI nv)) ((a70 ||| (swshl 1 (nI nv))))) fun u76 => swgd (swix (nI nv) 21) <| swlt (lyI u76 4 (Int32.toNatClampNeg (nI nv)) (((nI hb + 1) + ((4096 : Int32) * nI b)))) fun u91 => swgd (swix (nI b) 12) <| swlt (lyI u91 5 (Int32.toNatClampNeg (nI b)) (nI nv)) fun u97 => some (nI nv, u97))
  have e2 : swshl 1 (nI nv) = nI (2 ^ nv) := by
    have h := la_21 nv (by omega)
    have := la_shl (n := 1) (k := nv) (by omega) (by omega)
    rw [Nat.one_mul] at this
    exact this
  have e3 : (nI hb + 1) + ((4096 : Int32) * nI b) = nI (hb + 1 + 4096 * b) := by
    rw [show ((4096 : Int32) * nI b) = nI (4096 * b) from pk_mul 4096 b, nI_1, nI_add]
  refine ⟨lyI (lyI (lyI (lyI z 2 nv (z.1 2 hb)) 3 nv (z.1 3 hb ||| nI (2 ^ nv))) 4 nv (nI (hb + 1 + 4096 * b))) 5 b (nI nv), ?_, ?_⟩
  · refine e.trans ?_
    rw [swrd_n (by omega) (by omega), swgd_n (by omega) (by omega), swlt_e, nI_clamp (by omega), swrd_n (by omega) (by omega), swgd_n (by omega) (by omega), swlt_e, swgd_n (by omega) (by omega), swlt_e, swgd_n (by omega) (by omega), swlt_e, nI_clamp (by omega), lyI_ne (by omega), e2, e3]
  · refine ⟨?_, fun k hk => ?_, lyI_self, fun k hk => ?_, ?_, ?_, ?_, fun k hk => ⟨?_, ?_, ?_⟩, ?_, ?_, fun s hs => i2 s hs, fun v s hs hv => i3 v s hs hv⟩
    · rw [lyI_ne (by omega), lyI_ne (by omega), lyI_ne (by omega), lyI_ne (by omega), i1, lyI_self]
    · rw [lyI_ne (by omega), lyI_ne (by omega), lyI_ne (by omega), lyI_ne (by omega), i1, lyI_k hk]
    · rw [lyI_k hk, lyI_ne (by omega), lyI_ne (by omega), lyI_ne (by omega), i1, lyI_ne (by omega)]
    · rw [lyI_ne (by omega), lyI_ne (by omega), lyI_ne (by omega), lyI_self, i1, lyI_ne (by omega)]
    · rw [lyI_ne (by omega), lyI_ne (by omega), lyI_self, i1, lyI_ne (by omega)]
    · rw [lyI_ne (by omega), lyI_self]
    · rw [lyI_ne (by omega), lyI_ne (by omega), lyI_ne (by omega), lyI_k hk, i1, lyI_ne (by omega)]
    · rw [lyI_ne (by omega), lyI_ne (by omega), lyI_k hk, lyI_ne (by omega), i1, lyI_ne (by omega)]
    · rw [lyI_ne (by omega), lyI_k hk, lyI_ne (by omega), lyI_ne (by omega), i1, lyI_ne (by omega)]
    · rw [lyI_ne (by omega), lyI_ne (by omega), lyI_ne (by omega), lyI_ne (by omega), i1, lyI_ne (by omega)]
    · rw [lyI_ne (by omega), lyI_ne (by omega), lyI_ne (by omega), lyI_ne (by omega), i1, lyI_ne (by omega)]
theorem la_base {w : lyU} {nv a c X Y : Nat} (ha : a < 21) (hc : c < 21) (hX : w.1 3 a = nI X) (hY : w.1 3 c = nI Y) (hnv : nv ≤ 21) (hbit : ∀ k, (X &&& Y).testBit k = true → k < nv) : lx_base w (nI a) (nI c) = some (nI (sw_lst nv (fun k => (X &&& Y).testBit k))) := by
  have hS : X &&& Y < 2 ^ nv := by
    apply Nat.lt_pow_two_of_testBit
    intro i hi
    cases h : (X &&& Y).testBit i
    · rfl
    · have := hbit i h
      omega
  have hS31 : X &&& Y < 2 ^ 31 := by
    have := la_21 nv (by omega)
    omega
  have t1 := sw_lst_le (fun k => (X &&& Y).testBit k) nv
  have t2 := sw_lst_no (fun k => (X &&& Y).testBit k) nv
  have t3 := sw_lst_yes (fun k => (X &&& Y).testBit k) nv
  generalize sw_lst nv (fun k => (X &&& Y).testBit k) = t at t1 t2 t3
  have key : ∀ k, k < 31 → swshr (nI (X &&& Y)) (nI k) = nI ((X &&& Y) / 2 ^ k) := fun k hk => la_shr hS31 (by omega)
  have hd : ∀ k, (X &&& Y) / 2 ^ k < 2 ^ 31 := fun k => Nat.lt_of_le_of_lt (Nat.div_le_self _ _) hS31
  have htop : X &&& Y < 2 ^ (t + 1) := by
    apply Nat.lt_pow_two_of_testBit
    intro i hi
    cases h : (X &&& Y).testBit i
    · rfl
    · have h1 := hbit i h
      have h2 : (X &&& Y).testBit i = false := t2 i (by omega) h1
      rw [h] at h2
      cases h2
  unfold lx_base
  rw [swrd_n ha (by omega), swrd_n hc (by omega), hX, hY, swlt_e, la_and]
  show lx_base_L11 w (nI (X &&& Y)) (fun v4 => some v4) 64 (nI 0) = some (nI t)
  refine sw_up (fun f k => lx_base_L11 w (nI (X &&& Y)) (fun v4 => some v4) f (nI k)) t _ (fun f k hk => ?_) (fun f => ?_) (by omega)
  · have hbt : (X &&& Y).testBit t = true := by
      rcases t3 with h | h
      · exact h
      · omega
    have hge : 2 ^ t ≤ X &&& Y := Nat.ge_two_pow_of_testBit hbt
    have h2 : 2 ≤ (X &&& Y) / 2 ^ k := by
      rw [Nat.le_div_iff_mul_le (Nat.two_pow_pos k)]
      have : 2 ^ (k + 1) ≤ 2 ^ t := Nat.pow_le_pow_right (by decide) (by omega)
      rw [Nat.pow_succ] at this
      omega
    show lx_base_L11 _ _ _ (f + 1) (nI k) = lx_base_L11 _ _ _ f (nI (k + 1))
    rw [lx_base_L11, key k (by omega), if_neg (by rw [show (1 : Int32) = nI 1 from rfl, nI_leI (hd k) (by omega)]; omega), nI_1]
  · show lx_base_L11 _ _ _ (f + 1) (nI t) = _
    have h1 : (X &&& Y) / 2 ^ t ≤ 1 := by
      have : (X &&& Y) / 2 ^ t < 2 := by
        rw [Nat.div_lt_iff_lt_mul (Nat.two_pow_pos t)]
        rw [Nat.pow_succ] at htop
        omega
      omega
    rw [lx_base_L11, key t (by omega), if_pos (by rw [show (1 : Int32) = nI 1 from rfl, nI_leI (hd t) (by omega)]; exact h1)]
