/-! ===== merges: the deck is laid ===== -/
def mX (O A B : swD) (t : Bool) (i : Nat) : swD := if i < 6 then swMA O A B t (min i A.1) else swMB O A B t (min (i - 6) B.1)
def mproc (A B : swD) (i s : Nat) : Bool := sw_any (min i A.1) (fun k => decide (A.2.1 k = nI s)) || (!swhas A (nI s) && sw_any (min (i - 6) B.1) (fun k => decide (B.2.1 k = nI s)))
theorem sword_ap {X : swD} {s : Int32} {vals : Nat → Int32} : sword (swAp X s vals).2.1 (X.1 + 1) = sword X.2.1 X.1 + 8 ^ X.1 * (s.toNatClampNeg + 1) := by
  show sword (fun k => if k = X.1 then s else X.2.1 k) X.1 + 8 ^ X.1 * ((if X.1 = X.1 then s else X.2.1 X.1).toNatClampNeg + 1) = _
  rw [if_pos rfl]
  congr 1
  exact sword_cong _ (fun k hk => if_neg (by omega))
section EMIT
variable {O A B X : swD} {t : Bool} {z : lyU} {nv ba ha hb q : Nat} {x : Int32} {α : Type}
theorem la_emit (vO : srV O) (vA : srV A) (vB : srV B) (gO : lwget z ba q = lN (swits O q)) (gA : lwget z ha q = lN (swits A q)) (gB : lwget z hb q = lN (swits B q)) (hq : q < 6) (hnv : nv < 21) (hba : ba < 21) (hha : ha < 21) (hhb : hb < 21) (hX6 : X.1 ≤ 6) (hXd : swdg X.2.1 X.1) (c188 : ∀ kk : Int32 → Option α, (if (1 : Int32) ≤ x then kk 0 else kk 1) = kk (if t = true then 0 else 1)) (G : Int32 → Int32 → lyU → Option α) : (swbd (lx_get z (nI ba) (nI q)) fun r517 => swbd (lx_get z (nI ha) (nI q)) fun r526 => swbd (lx_get z (nI hb) (nI q)) fun r535 => swjn (fun (s549_0 : Int32) => swbd (lx_meets r517 r526 r535 s549_0) fun r549 => swlt ((r549 &&& (2199023255551 : Int64))) fun y556 => swbd (lx_put z (nI nv) (nI q) y556) fun u566 => swjn (fun (s591_0 : Int32) => swlt (nI (sword X.2.1 X.1) ||| s591_0) fun y592 => swjn (fun (s608_0 : Int32) => swlt (nI X.1 + s608_0) fun y609 => G y592 y609 u566) fun k608_ => if (lg_cmp y556 (0 : Int64)) = 0 then (k608_ 0) else (k608_ 1)) fun k591_ => if (lg_cmp y556 (0 : Int64)) = 0 then (k591_ 0) else (k591_ ((swshl (nI q + 1) (((3 : Int32) * nI X.1)))))) fun k549_ => if 1 ≤ x then (k549_ 0) else (k549_ 1)) = G (nI (sword (if swKP O A B (nI q) t = true then swAp X (nI q) (fun j => swKV O A B (nI q) j t) else X).2.1 (if swKP O A B (nI q) t = true then swAp X (nI q) (fun j => swKV O A B (nI q) j t) else X).1)) (nI (if swKP O A B (nI q) t = true then swAp X (nI q) (fun j => swKV O A B (nI q) j t) else X).1) (lwput z nv q (lN (swmt O A B q t))) := by
  have hso : ((if t = true then (0 : Int32) else 1) = 0) = (t = true) := by
    cases t
    · exact propext ⟨fun z => absurd z (by decide), fun z => by cases z⟩
    · exact propext ⟨fun _ => rfl, fun _ => rfl⟩
  obtain ⟨m1, m2⟩ := la_mtcut (O := O) (t := t) vA vB q
  have hl := swmt_lt (O := O) vA vB q t
  rw [la_get z hba hq, gO, swbd_e, la_get z hha hq, gA, swbd_e, la_get z hhb hq, gB, swbd_e]
  refine (swjn_c1 (if t = true then 0 else 1) (fun kk => c188 kk)).trans ?_
  show (swbd (lx_meets (lN (swits O q)) (lN (swits A q)) (lN (swits B q)) (if t = true then 0 else 1)) _) = _
  rw [la_meets vO vA vB q hso, swbd_e, m2, swlt_e, la_put z hnv hq, swbd_e]
  have hS := sword_lt _ hXd
  cases hk : swKP O A B (nI q) t
  · have hz : lg_cmp (lN (swmt O A B q t)) (0 : Int64) = 0 := by
      rw [la_cmp0 (by omega)]
      exact hl.2.mpr hk
    refine (swjn_c1 0 (fun kk => if_pos hz)).trans ?_
    show (swlt (nI (sword X.2.1 X.1) ||| 0) fun y592 => _) = _
    rw [show (0 : Int32) = nI 0 from rfl, la_or, Nat.or_zero, swlt_e]
    refine (swjn_c1 (nI 0) (fun kk => if_pos hz)).trans ?_
    show (swlt (nI X.1 + nI 0) fun y609 => _) = _
    rw [nI_add, Nat.add_zero, swlt_e]
    rfl
  · have hz : ¬ lg_cmp (lN (swmt O A B q t)) (0 : Int64) = 0 := by
      rw [la_cmp0 (by omega)]
      exact fun z => by rw [hl.2.mp z] at hk; cases hk
    have e1 : swshl (nI q + 1) ((3 : Int32) * nI X.1) = nI (8 ^ X.1 * (q + 1)) := by
      rw [nI_1]
      exact la_sh8 (by omega) (by omega)
    have e2 : nI (sword X.2.1 X.1) ||| nI (8 ^ X.1 * (q + 1)) = nI (sword (swAp X (nI q) (fun j => swKV O A B (nI q) j t)).2.1 (X.1 + 1)) := by
      have := la_orsum (a := sword X.2.1 X.1) (k := 3 * X.1) (q + 1) (by rw [la_p3]; exact hS)
      rw [la_p3] at this
      rw [this, sword_ap, nI_clamp (by omega)]
    refine (swjn_c1 (swshl (nI q + 1) ((3 : Int32) * nI X.1)) (fun kk => if_neg hz)).trans ?_
    show (swlt (nI (sword X.2.1 X.1) ||| swshl (nI q + 1) ((3 : Int32) * nI X.1)) fun y592 => _) = _
    rw [e1, e2, swlt_e]
    refine (swjn_c1 1 (fun kk => if_neg hz)).trans ?_
    show (swlt (nI X.1 + 1) fun y609 => _) = _
    rw [nI_1, swlt_e]
    rfl
end EMIT
section M446
variable {tt nv nb ns : Nat} {hd : Nat → Nat} {sh mo cm ot : Nat → Int32} {am : Nat → Nat} {dk : Nat → swD} {E : swEv} {u u0 : swU} {w : lyU}
theorem mX_W {O A B : swD} {t : Bool} {ns : Nat} (hA : srW ns A) (hB : srW ns B) (i : Nat) : srW ns (mX O A B t i) := by
  unfold mX
  by_cases h : i < 6
  · rw [if_pos h]
    exact (swMA_W (O := O) hA hB t _ (Nat.min_le_right _ _)).1
  · rw [if_neg h]
    exact (swMB_W (O := O) hA hB t _ (Nat.min_le_right _ _)).1
theorem sw_any_s {n : Nat} (p : Nat → Bool) : sw_any (n + 1) p = (sw_any n p || p n) := rfl
set_option maxHeartbeats 2000000 in
theorem la_m446 (h : lwR tt nv nb ns hd sh mo cm ot am dk E u w) {ba ha hb b : Nat} (hnv : nv < 21) (hba : ba < nv) (hha : ha < nv) (hhb : hb < nv) {x : Int32} {t : Bool} (hx : (x = -1 ∧ t = false) ∨ (x = 0 ∧ t = false) ∨ (x = 1 ∧ t = true)) {w1 : lyU} (CP : lyCP nv b ha w w1) (KK : Int32 → Int32 → Int32 → lyU → Option (Int32 × swU × lyU)) : ∃ z : lyU, lx_merges_L446 u0 x (nI ha) (nI hb) (nI ba) (nI nv) KK 64 0 0 0 w1 = KK (nI (sword (swMB (dk ba) (dk ha) (dk hb) t (dk hb).1).2.1 (swMB (dk ba) (dk ha) (dk hb) t (dk hb).1).1)) (nI (swMB (dk ba) (dk ha) (dk hb) t (dk hb).1).1) (nI 12) z ∧ z.1 = w1.1 ∧ (∀ v s, s < 6 → v ≠ nv → lwget z v s = lwget w v s) ∧ ∀ s, s < 6 → lwget z nv s = lN (swmt (dk ba) (dk ha) (dk hb) s t) := by
  have hL := h
  obtain ⟨h1, h2, h3, h4, h5, h6, hA, h7, h8, n21, n6, hday⟩ := h
  obtain ⟨-, oD, ow, oV⟩ := h7 _ hba
  obtain ⟨-, aD, aw, aV⟩ := h7 _ hha
  obtain ⟨-, bD, bw, bV⟩ := h7 _ hhb
  have a6 : (dk ha).1 ≤ 6 := Nat.le_trans (srW_cnt aw (by omega)) n6
  have b6 : (dk hb).1 ≤ 6 := Nat.le_trans (srW_cnt bw (by omega)) n6
  have adg := srW_dg aw (by omega)
  have bdg := srW_dg bw (by omega)
  have c188 : ∀ kk : Int32 → Option (Int32 × swU × lyU), (if (1 : Int32) ≤ x then kk 0 else kk 1) = kk (if t = true then 0 else 1) := fun kk => by
    rcases hx with ⟨rfl, rfl⟩ | ⟨rfl, rfl⟩ | ⟨rfl, rfl⟩
    · rw [if_neg (by decide)]
      rfl
    · rw [if_neg (by decide)]
      rfl
    · rw [if_pos (by decide)]
      rfl
  generalize hO : dk ba = O at oD ow oV
  generalize hAe : dk ha = A at aD aw aV a6 adg
  generalize hBe : dk hb = B at bD bw bV b6 bdg
  have w2 : ∀ v, v < nv → w1.1 2 v = w.1 2 v := fun v hv => (CP.2.2.2.2.2.2.2.1 v (by omega)).1
  obtain ⟨⟨p, r, z⟩, ⟨i1, i2, i3, i4, i5⟩, f, e⟩ := sw_upS (fun f i (s : Int32 × Int32 × lyU) => lx_merges_L446 u0 x (nI ha) (nI hb) (nI ba) (nI nv) KK f s.1 s.2.1 (nI i) s.2.2) (fun i s => s.1 = nI (sword (mX O A B t i).2.1 (mX O A B t i).1) ∧ s.2.1 = nI (mX O A B t i).1 ∧ s.2.2.1 = w1.1 ∧ (∀ v s', s' < 6 → v ≠ nv → lwget s.2.2 v s' = lwget w v s') ∧ ∀ s', s' < 6 → lwget s.2.2 nv s' = lN (if mproc A B i s' = true then swmt O A B s' t else swits A s')) 12 ((0 : Int32), (0 : Int32), w1) ⟨by
      show (0 : Int32) = nI (sword (swMA O A B t (min 0 A.1)).2.1 (swMA O A B t (min 0 A.1)).1)
      rw [Nat.zero_min]
      rfl, by
      show (0 : Int32) = nI (swMA O A B t (min 0 A.1)).1
      rw [Nat.zero_min]
      rfl, rfl, fun v s hs hv => CP.2.2.2.2.2.2.2.2.2.2.2 v s hs hv, fun s hs => by
      have hp : mproc A B 0 s = false := by
        unfold mproc
        rw [Nat.zero_min, show 0 - 6 = 0 from rfl, Nat.zero_min]
        show (false || (!swhas A (nI s) && false)) = false
        rw [Bool.and_false]
        rfl
      rw [hp, if_neg (by decide)]
      exact (CP.2.2.2.2.2.2.2.2.2.2.1 s hs).trans (aD.2 s hs)⟩ (fun f i st hi hI => by
    obtain ⟨p, r, z⟩ := st
    obtain ⟨i1, i2, i3, i4, i5⟩ := hI
    have i1 : p = nI (sword (mX O A B t i).2.1 (mX O A B t i).1) := i1
    have i2 : r = nI (mX O A B t i).1 := i2
    have i3 : z.1 = w1.1 := i3
    have i4 : ∀ v s', s' < 6 → v ≠ nv → lwget z v s' = lwget w v s' := i4
    have i5 : ∀ s', s' < 6 → lwget z nv s' = lN (if mproc A B i s' = true then swmt O A B s' t else swits A s') := i5
    have hXW := mX_W (O := O) (t := t) aw bw i
    have hX6 : (mX O A B t i).1 ≤ 6 := Nat.le_trans (srW_cnt hXW (by omega)) n6
    have hXd := srW_dg hXW (by omega)
    have hno : ¬ (12 : Int32) ≤ nI i := nI_ge (b := 12) hi (by omega)
    have gO : ∀ q, q < 6 → lwget z ba q = lN (swits O q) := fun q hq => (i4 ba q hq (by omega)).trans (oD.2 q hq)
    have gA : ∀ q, q < 6 → lwget z ha q = lN (swits A q) := fun q hq => (i4 ha q hq (by omega)).trans (aD.2 q hq)
    have gB : ∀ q, q < 6 → lwget z hb q = lN (swits B q) := fun q hq => (i4 hb q hq (by omega)).trans (bD.2 q hq)
    have skip : mX O A B t (i + 1) = mX O A B t i → (∀ s, s < 6 → mproc A B (i + 1) s = mproc A B i s) → ∃ s' : Int32 × Int32 × lyU, (s'.1 = nI (sword (mX O A B t (i + 1)).2.1 (mX O A B t (i + 1)).1) ∧ s'.2.1 = nI (mX O A B t (i + 1)).1 ∧ s'.2.2.1 = w1.1 ∧ (∀ v s'', s'' < 6 → v ≠ nv → lwget s'.2.2 v s'' = lwget w v s'') ∧ ∀ s'', s'' < 6 → lwget s'.2.2 nv s'' = lN (if mproc A B (i + 1) s'' = true then swmt O A B s'' t else swits A s'')) ∧ lx_merges_L446 u0 x (nI ha) (nI hb) (nI ba) (nI nv) KK f p r (nI (i + 1)) z = lx_merges_L446 u0 x (nI ha) (nI hb) (nI ba) (nI nv) KK f s'.1 s'.2.1 (nI (i + 1)) s'.2.2 := fun e1 e2 => ⟨(p, r, z), ⟨by rw [e1]; exact i1, by rw [e1]; exact i2, i3, i4, fun s hs => by rw [e2 s hs]; exact i5 s hs⟩, rfl⟩
    have emit : ∀ q, q < 6 → mX O A B t (i + 1) = (if swKP O A B (nI q) t = true then swAp (mX O A B t i) (nI q) (fun j => swKV O A B (nI q) j t) else mX O A B t i) → (∀ s, s < 6 → mproc A B (i + 1) s = (mproc A B i s || decide (s = q))) → ∃ s' : Int32 × Int32 × lyU, (s'.1 = nI (sword (mX O A B t (i + 1)).2.1 (mX O A B t (i + 1)).1) ∧ s'.2.1 = nI (mX O A B t (i + 1)).1 ∧ s'.2.2.1 = w1.1 ∧ (∀ v s'', s'' < 6 → v ≠ nv → lwget s'.2.2 v s'' = lwget w v s'') ∧ ∀ s'', s'' < 6 → lwget s'.2.2 nv s'' = lN (if mproc A B (i + 1) s'' = true then swmt O A B s'' t else swits A s'')) ∧ (swbd (lx_get z (nI ba) (nI q)) fun r517 => swbd (lx_get z (nI ha) (nI q)) fun r526 => swbd (lx_get z (nI hb) (nI q)) fun r535 => swjn (fun (s549_0 : Int32) => swbd (lx_meets r517 r526 r535 s549_0) fun r549 => swlt ((r549 &&& (2199023255551 : Int64))) fun y556 => swbd (lx_put z (nI nv) (nI q) y556) fun u566 => swjn (fun (s591_0 : Int32) => swlt (p ||| s591_0) fun y592 => swjn (fun (s608_0 : Int32) => swlt (r + s608_0) fun y609 => lx_merges_L446 u0 x (nI ha) (nI hb) (nI ba) (nI nv) KK f y592 y609 (nI i + 1) u566) fun k608_ => if (lg_cmp y556 (0 : Int64)) = 0 then (k608_ 0) else (k608_ 1)) fun k591_ => if (lg_cmp y556 (0 : Int64)) = 0 then (k591_ 0) else (k591_ ((swshl (nI q + 1) (((3 : Int32) * r)))))) fun k549_ => if 1 ≤ x then (k549_ 0) else (k549_ 1)) = lx_merges_L446 u0 x (nI ha) (nI hb) (nI ba) (nI nv) KK f s'.1 s'.2.1 (nI (i + 1)) s'.2.2 := fun q hq e1 e2 => by
      have em := la_emit (nv := nv) (X := mX O A B t i) (x := x) oV aV bV (gO q hq) (gA q hq) (gB q hq) hq hnv (by omega) (by omega) (by omega) hX6 hXd c188 (fun y592 y609 u566 => lx_merges_L446 u0 x (nI ha) (nI hb) (nI ba) (nI nv) KK f y592 y609 (nI i + 1) u566)
      rw [← e1] at em
      refine ⟨(nI (sword (mX O A B t (i + 1)).2.1 (mX O A B t (i + 1)).1), nI (mX O A B t (i + 1)).1, lwput z nv q (lN (swmt O A B q t))), ⟨rfl, rfl, (lwput_1 _ _ _ _).trans i3, fun v s hs hv => ?_, fun s hs => ?_⟩, ?_⟩
      · show lwget (lwput z nv q _) v s = _
        rw [lwput_at z hq hs, if_neg (fun y => hv y.1)]
        exact i4 v s hs hv
      · show lwget (lwput z nv q _) nv s = _
        rw [lwput_at z hq hs, e2 s hs]
        by_cases es : s = q
        · rw [if_pos ⟨rfl, es⟩, decide_eq_true es, Bool.or_true, if_pos rfl, es]
        · rw [if_neg (fun y => es y.2), decide_eq_false es, Bool.or_false]
          exact i5 s hs
      · rw [i1, i2]
        refine em.trans ?_
        show lx_merges_L446 u0 x (nI ha) (nI hb) (nI ba) (nI nv) KK f _ _ (nI i + 1) _ = _
        rw [nI_1]
    show ∃ s' : Int32 × Int32 × lyU, _ ∧ lx_merges_L446 u0 x (nI ha) (nI hb) (nI ba) (nI nv) KK (f + 1) p r (nI i) z = _
    rw [lx_merges_L446, if_neg hno]
    by_cases hi6 : i < 6
    · have hlt : nI i < 6 := nI_lt (b := 6) hi6 (by omega)
      have hle : ¬ (6 : Int32) ≤ nI i := nI_ge (b := 6) hi6 (by omega)
      have em6 : swrem (nI i) 6 = nI i := by
        rw [show (6 : Int32) = nI 6 from rfl, la_rem (by omega) (by omega) (by omega), Nat.mod_eq_of_lt hi6]
      have hdig := la_digit (k := i) (show A.1 ≤ 8 by omega) adg (by omega)
      have hrd : w1.1 2 ha = nI (sword A.2.1 A.1) := (w2 ha hha).trans aD.1
      have hjoin : ∀ (R : Int32 → Option (Int32 × swU × lyU)), (swjn R fun k469_ => if (6 : Int32) ≤ nI i then (k469_ (nI hb)) else (k469_ (nI ha))) = R (nI ha) := fun R => swjn_c1 (nI ha) (fun kk => if_neg hle)
      rw [hjoin, i3, swrd_n (by omega) (by omega), hrd, em6, hdig]
      by_cases hiA : i < A.1
      · obtain ⟨q, hq, eq⟩ := aw.2.1 i hiA
        have hval : nI (sword A.2.1 A.1 / 8 ^ i % 8) - 1 = nI q := by
          rw [sword_at _ _ hiA adg, eq, nI_clamp (by omega), nI_pred]
        rw [hval, swlt_e, if_neg (nI_pos (by omega)), if_pos hlt]
        refine emit q (by omega) ?_ (fun s hs => ?_)
        · have e1 : mX O A B t i = swMA O A B t i := by
            unfold mX
            rw [if_pos hi6, Nat.min_eq_left (by omega)]
          have e2 : mX O A B t (i + 1) = swMA O A B t (i + 1) := by
            unfold mX
            by_cases h5 : i + 1 < 6
            · rw [if_pos h5, Nat.min_eq_left (by omega)]
            · have h6 : i + 1 - 6 = 0 := by omega
              rw [if_neg h5, h6, Nat.zero_min]
              show swMA O A B t A.1 = _
              congr 1
              omega
          rw [e1, e2, ← eq]
          rfl
        · unfold mproc
          rw [Nat.min_eq_left (show i + 1 ≤ A.1 by omega), Nat.min_eq_left (show i ≤ A.1 by omega), show i + 1 - 6 = 0 by omega, show i - 6 = 0 by omega, sw_any_s, eq]
          have e3 : decide (nI q = nI s) = decide (s = q) := by
            by_cases es : s = q
            · rw [decide_eq_true es, es]
              exact decide_eq_true rfl
            · rw [decide_eq_false es]
              exact decide_eq_false (by rw [nI_eq (by omega) (by omega)]; exact fun y => es y.symm)
          rw [e3, Bool.or_assoc, Bool.or_comm (decide (s = q)), ← Bool.or_assoc]
      · have hval : nI (sword A.2.1 A.1 / 8 ^ i % 8) - 1 = -1 := by
          rw [sword_out (by omega) adg]
          decide
        rw [hval, swlt_e, if_pos (by decide), nI_1]
        refine skip ?_ (fun s hs => ?_)
        · unfold mX
          rw [if_pos hi6, Nat.min_eq_right (show A.1 ≤ i by omega)]
          by_cases h5 : i + 1 < 6
          · rw [if_pos h5, Nat.min_eq_right (by omega)]
          · have h6 : i + 1 - 6 = 0 := by omega
            rw [if_neg h5, h6, Nat.zero_min]
            rfl
        · unfold mproc
          rw [Nat.min_eq_right (show A.1 ≤ i + 1 by omega), Nat.min_eq_right (show A.1 ≤ i by omega), show i + 1 - 6 = 0 by omega, show i - 6 = 0 by omega]
    · have hlt : ¬ nI i < 6 := nI_nlt (b := 6) (by omega) (by omega)
      have hle : (6 : Int32) ≤ nI i := nI_le (a := 6) (by omega) (by omega)
      have em6 : swrem (nI i) 6 = nI (i - 6) := by
        rw [show (6 : Int32) = nI 6 from rfl, la_rem (by omega) (by omega) (by omega)]
        congr 1
        omega
      have hdig := la_digit (k := i - 6) (show B.1 ≤ 8 by omega) bdg (by omega)
      have hrd : w1.1 2 hb = nI (sword B.2.1 B.1) := (w2 hb hhb).trans bD.1
      have hjoin : ∀ (R : Int32 → Option (Int32 × swU × lyU)), (swjn R fun k469_ => if (6 : Int32) ≤ nI i then (k469_ (nI hb)) else (k469_ (nI ha))) = R (nI hb) := fun R => swjn_c1 (nI hb) (fun kk => if_pos hle)
      have eX : mX O A B t i = swMB O A B t (min (i - 6) B.1) := by
        unfold mX
        rw [if_neg hi6]
      have eX1 : mX O A B t (i + 1) = swMB O A B t (min (i - 6 + 1) B.1) := by
        unfold mX
        rw [if_neg (by omega), show i + 1 - 6 = i - 6 + 1 by omega]
      have ep : ∀ s, mproc A B i s = (sw_any A.1 (fun k => decide (A.2.1 k = nI s)) || (!swhas A (nI s) && sw_any (min (i - 6) B.1) (fun k => decide (B.2.1 k = nI s)))) := fun s => by
        unfold mproc
        rw [Nat.min_eq_right (show A.1 ≤ i by omega)]
      have ep1 : ∀ s, mproc A B (i + 1) s = (sw_any A.1 (fun k => decide (A.2.1 k = nI s)) || (!swhas A (nI s) && sw_any (min (i - 6 + 1) B.1) (fun k => decide (B.2.1 k = nI s)))) := fun s => by
        unfold mproc
        rw [Nat.min_eq_right (show A.1 ≤ i + 1 by omega), show i + 1 - 6 = i - 6 + 1 by omega]
      rw [hjoin, i3, swrd_n (by omega) (by omega), hrd, em6, hdig]
      by_cases hiB : i - 6 < B.1
      · obtain ⟨q, hq, eq⟩ := bw.2.1 (i - 6) hiB
        have hval : nI (sword B.2.1 B.1 / 8 ^ (i - 6) % 8) - 1 = nI q := by
          rw [sword_at _ _ hiB bdg, eq, nI_clamp (by omega), nI_pred]
        rw [hval, swlt_e, if_neg (nI_pos (by omega)), if_neg hlt, la_get z (by omega) (show q < 6 by omega), gA q (by omega), swbd_e]
        have hl := swits_lt aV q
        rw [Nat.min_eq_left (show i - 6 ≤ B.1 by omega)] at eX
        rw [Nat.min_eq_left (show i - 6 + 1 ≤ B.1 by omega)] at eX1
        have e3 : ∀ s, s < 6 → decide (nI q = nI s) = decide (s = q) := fun s hs => by
          by_cases es : s = q
          · rw [decide_eq_true es, es]
            exact decide_eq_true rfl
          · rw [decide_eq_false es]
            exact decide_eq_false (by rw [nI_eq (by omega) (by omega)]; exact fun y => es y.symm)
        cases hh : swhas A (nI q)
        · have hback : (some (lN (swits A q)) : Option Int64) = lx_get z (nI ha) (nI q) := by rw [la_get z (by omega) (by omega), gA q (by omega)]
          rw [if_pos (by rw [la_cmp0 (by omega)]; exact hl.2.mpr hh), hback]
          refine emit q (by omega) ?_ (fun s hs => ?_)
          · have e1 : swMB O A B t (i - 6 + 1) = if swhas A (B.2.1 (i - 6)) = true then swMB O A B t (i - 6) else if swKP O A B (B.2.1 (i - 6)) t = true then swAp (swMB O A B t (i - 6)) (B.2.1 (i - 6)) (fun j => swKV O A B (B.2.1 (i - 6)) j t) else swMB O A B t (i - 6) := rfl
            rw [eX1, eX, e1, eq, if_neg (by rw [hh]; decide)]
          · rw [ep1 s, ep s, Nat.min_eq_left (show i - 6 + 1 ≤ B.1 by omega), Nat.min_eq_left (show i - 6 ≤ B.1 by omega), sw_any_s, eq, e3 s hs]
            by_cases es : s = q
            · rw [es, hh, decide_eq_true rfl]
              simp
            · rw [decide_eq_false es, Bool.or_false, Bool.or_false]
        · rw [if_neg (by rw [la_cmp0 (by omega)]; exact fun y => by rw [hl.2.mp y] at hh; cases hh), nI_1]
          refine skip ?_ (fun s hs => ?_)
          · have e1 : swMB O A B t (i - 6 + 1) = if swhas A (B.2.1 (i - 6)) = true then swMB O A B t (i - 6) else if swKP O A B (B.2.1 (i - 6)) t = true then swAp (swMB O A B t (i - 6)) (B.2.1 (i - 6)) (fun j => swKV O A B (B.2.1 (i - 6)) j t) else swMB O A B t (i - 6) := rfl
            rw [eX1, eX, e1, eq, if_pos hh]
          · rw [ep1 s, ep s, Nat.min_eq_left (show i - 6 + 1 ≤ B.1 by omega), Nat.min_eq_left (show i - 6 ≤ B.1 by omega), sw_any_s, eq, e3 s hs]
            by_cases es : s = q
            · have e4 := swhas_any A (nI q)
              rw [es, ← e4, hh]
              simp
            · rw [decide_eq_false es, Bool.or_false]
      · have hval : nI (sword B.2.1 B.1 / 8 ^ (i - 6) % 8) - 1 = -1 := by
          rw [sword_out (by omega) bdg]
          decide
        rw [hval, swlt_e, if_pos (by decide), nI_1]
        refine skip ?_ (fun s hs => ?_)
        · rw [eX1, eX, Nat.min_eq_right (show B.1 ≤ i - 6 + 1 by omega), Nat.min_eq_right (show B.1 ≤ i - 6 by omega)]
        · rw [ep1 s, ep s, Nat.min_eq_right (show B.1 ≤ i - 6 + 1 by omega), Nat.min_eq_right (show B.1 ≤ i - 6 by omega)]) (by omega)
  have i1 : p = nI (sword (mX O A B t 12).2.1 (mX O A B t 12).1) := i1
  have i2 : r = nI (mX O A B t 12).1 := i2
  have i5 : ∀ s', s' < 6 → lwget z nv s' = lN (if mproc A B 12 s' = true then swmt O A B s' t else swits A s') := i5
  have e : lx_merges_L446 u0 x (nI ha) (nI hb) (nI ba) (nI nv) KK 64 0 0 0 w1 = lx_merges_L446 u0 x (nI ha) (nI hb) (nI ba) (nI nv) KK (f + 1) p r (nI 12) z := e
  have e12 : mX O A B t 12 = swMB O A B t B.1 := by
    unfold mX
    rw [if_neg (by decide), Nat.min_eq_right (by omega)]
  rw [e12] at i1 i2
  refine ⟨z, ?_, i3, i4, fun s hs => ?_⟩
  · rw [e, lx_merges_L446, if_pos (by decide), i1, i2]
  · rw [i5 s hs]
    congr 1
    have hp : mproc A B 12 s = (swhas A (nI s) || (!swhas A (nI s) && swhas B (nI s))) := by
      unfold mproc
      rw [Nat.min_eq_right (show A.1 ≤ 12 by omega), Nat.min_eq_right (show B.1 ≤ 12 - 6 by omega), ← swhas_any, ← swhas_any]
    rw [hp]
    have hl := swmt_lt (O := O) aV bV s t
    cases hha2 : swhas A (nI s)
    · cases hhb2 : swhas B (nI s)
      · rw [if_neg (by decide), swits_no hha2]
        refine (hl.2.mpr ?_).symm
        unfold swKP
        rw [hha2, hhb2]
        rfl
      · rw [if_pos (by decide)]
    · rw [if_pos (by rfl)]
end M446
