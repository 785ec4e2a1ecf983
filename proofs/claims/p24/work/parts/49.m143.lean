/-! ===== merges: the reckoning over the slides ===== -/
theorem lxv_mt {O A B : swD} {t : Bool} (vA : srV A) (vB : srV B) {s : Nat} (hk : swKP O A B (nI s) t = true) : lxv (swmt O A B s t) (fun o => swKV O A B (nI s) o t) := by
  have hl := (swmt_lt (O := O) vA vB s t).1
  refine ⟨by omega, fun o ho => ?_⟩
  obtain ⟨q1, q2⟩ := swkv_nn vA vB hk ho
  refine ⟨swkv O A B s t o, by omega, q2, ?_⟩
  rw [la_value (by omega) ho]
  have e : swmt O A B s t = swpk (swkv O A B s t 0) (swkv O A B s t 1) (swkv O A B s t 2) (swkv O A B s t 3) := by
    unfold swmt
    rw [if_pos hk]
  have := swpk_at (v := swkv O A B s t) (fun i hi => Nat.lt_trans (swkv_nn vA vB hk hi).1 (by decide)) ho 0
  rw [Nat.mul_zero, Nat.add_zero] at this
  rw [e, this]
theorem la_mtcut {O A B : swD} {t : Bool} (vA : srV A) (vB : srV B) (s : Nat) : lyshr (lN (swmt O A B s t + 2 ^ 41 * swcc O A B s)) 41 = lN (swcc O A B s) ∧ lN (swmt O A B s t + 2 ^ 41 * swcc O A B s) &&& (2199023255551 : Int64) = lN (swmt O A B s t) := by
  have hl := (swmt_lt (O := O) vA vB s t).1
  have hc := swcc_le O A B s
  refine ⟨?_, ?_⟩
  · rw [show (41 : Int32) = nI 41 from rfl, la_lshr (by omega) (by omega)]
    congr 1
    omega
  · rw [show (2199023255551 : Int64) = lN (2 ^ 41 - 1) from rfl, swl_and, la_mod2]
    congr 1
    omega
/-- whether a slide of the merge blocks, as the law's arrays tell it -/
theorem la_mblk {w : lyU} {E : swEv} (hE : lwE w E) (hr8 : E.1 ≤ 8) (hw12 : E.2.2.1 ≤ 12) (hday : E.2.2.2.2 ≤ 999) {O A B : swD} {t : Bool} (vA : srV A) (vB : srV B) {s : Nat} (hs : s < 6) {α : Type} (kk : Int32 → Option α) : (if (lg_cmp (lN (swmt O A B s t)) (0 : Int64)) = 0 then (kk 0) else (swbd (lx_blocks w (nI s) (lN (swmt O A B s t))) fun r233 => if (swrem r233 64) ≤ 0 then (kk 0) else (kk 1))) = kk (swB (mblk E O A B t s)) := by
  have hl := swmt_lt (O := O) vA vB s t
  cases hk : swKP O A B (nI s) t
  · have hm : mblk E O A B t s = false := by
      unfold mblk
      rw [hk]
      rfl
    rw [if_pos (by rw [la_cmp0 (by omega)]; exact hl.2.mpr hk), hm]
  · rw [if_neg (by rw [la_cmp0 (by omega)]; exact fun z => by rw [hl.2.mp z] at hk; cases hk)]
    have hb := la_blocks hE hr8 hw12 hday hs (lxv_mt vA vB hk)
    rw [lbv_sum] at hb
    have c1 := sw_cnt_le (fun r => swBL E r (nI s) (swKV O A B (nI s) (swob E r) t)) E.1
    have c2 := sw_cnt_le (fun r => decide (E.2.1 r 0 = 2) && swBR E r (swKV O A B (nI s) (swob E r) t)) E.1
    rw [hb, swbd_e]
    have hm : mblk E O A B t s = decide (0 < sw_cnt E.1 (fun r => swBL E r (nI s) (swKV O A B (nI s) (swob E r) t))) := by
      unfold mblk
      rw [hk, Bool.true_and]
    rw [hm]
    generalize sw_cnt E.1 (fun r => swBL E r (nI s) (swKV O A B (nI s) (swob E r) t)) = p at c1
    generalize sw_cnt E.1 (fun r => decide (E.2.1 r 0 = 2) && swBR E r (swKV O A B (nI s) (swob E r) t)) = q at c2
    have e : swrem (nI (p + 64 * q)) 64 = nI p := by
      rw [show (64 : Int32) = nI 64 from rfl, la_rem (by omega) (by omega) (by omega)]
      congr 1
      omega
    rw [e]
    by_cases hp : 0 < p
    · rw [if_neg (nI_nle hp (by omega)), decide_eq_true hp]
    · rw [if_pos (by rw [swleI0 (by omega)]; omega), decide_eq_false hp]
section M143
variable {tt nv nb ns : Nat} {hd : Nat → Nat} {sh mo cm ot : Nat → Int32} {am : Nat → Nat} {dk : Nat → swD} {E : swEv} {u : swU} {w : lyU}
set_option maxHeartbeats 1000000 in
theorem la_m143 (h : lwR tt nv nb ns hd sh mo cm ot am dk E u w) {a b sl ob : Nat} (ha : a < nb) (hb : b < nb) (hab : a ≠ b) (hob : ob < 4) (hsl : sl < 6) {x : Int32} {t : Bool} (hx : (x = -1 ∧ t = false) ∨ (x = 0 ∧ t = false) ∨ (x = 1 ∧ t = true)) (KK : Int64 → Int32 → Int32 → Int32 → swU → Option (Int32 × swU × lyU)) : lx_merges_L143 w (nI a) (nI b) x (nI (hd a)) (nI (hd b)) (nI (swBS nv am (hd a) (hd b))) (nI sl) (nI ob) KK 8 (0 : Int64) 0 1 0 u = KK (lN (sw_sum 6 (swcc (dk (swBS nv am (hd a) (hd b))) (dk (hd a)) (dk (hd b))))) (swB (sw_any 6 (mblk E (dk (swBS nv am (hd a) (hd b))) (dk (hd a)) (dk (hd b)) t))) 1 (nI 6) u := by
  have hL := h
  obtain ⟨h1, h2, h3, h4, h5, h6, hA, h7, h8, n21, n6, hday⟩ := h
  have hb6 := h2.2.1
  have q81 := h3.2.2
  have hha := (h4 a ha).1
  have hhb := (h4 b hb).1
  have hB := swBS_lt h1.1 am (hd a) (hd b)
  have hmrg := fun (z : Nat) (hz : z < 2) (k : Nat) (hk : k < ns) => oc_merged h1 h2 h3 h4 h6 hA h7 ha hb hab hk hob hz
  obtain ⟨base, hbase⟩ : ∃ base, base = swBS nv am (hd a) (hd b) := ⟨_, rfl⟩
  rw [← hbase] at hB hmrg ⊢
  obtain ⟨-, oD, ow, oV⟩ := h7 _ hB
  obtain ⟨-, aD, aw, aV⟩ := h7 _ hha
  obtain ⟨-, bD, bw, bV⟩ := h7 _ hhb
  have c188 : ∀ kk : Int32 → Option (Int32 × swU × lyU), (if (1 : Int32) ≤ x then kk 0 else kk 1) = kk (if t = true then 0 else 1) := fun kk => by
    rcases hx with ⟨rfl, rfl⟩ | ⟨rfl, rfl⟩ | ⟨rfl, rfl⟩
    · rw [if_neg (by decide)]
      rfl
    · rw [if_neg (by decide)]
      rfl
    · rw [if_pos (by decide)]
      rfl
  have hso : ((if t = true then (0 : Int32) else 1) = 0) = (t = true) := by
    cases t
    · exact propext ⟨fun z => absurd z (by decide), fun z => by cases z⟩
    · exact propext ⟨fun _ => rfl, fun _ => rfl⟩
  have step : ∀ k, k < 6 → ∀ (f c : Nat) (bl : Bool), lx_merges_L143 w (nI a) (nI b) x (nI (hd a)) (nI (hd b)) (nI base) (nI sl) (nI ob) KK (f + 1) (lN c) (swB bl) 1 (nI k) u = lx_merges_L143 w (nI a) (nI b) x (nI (hd a)) (nI (hd b)) (nI base) (nI sl) (nI ob) KK f (lN (c + swcc (dk base) (dk (hd a)) (dk (hd b)) k)) (swB (bl || mblk E (dk base) (dk (hd a)) (dk (hd b)) t k)) 1 (nI (k + 1)) u := fun k hk f c bl => by
    have gO := la_get w (v := base) (s := k) (by omega) hk
    have gA := la_get w (v := hd a) (s := k) (by omega) hk
    have gB := la_get w (v := hd b) (s := k) (by omega) hk
    rw [oD.2 k hk] at gO
    rw [aD.2 k hk] at gA
    rw [bD.2 k hk] at gB
    obtain ⟨m1, m2⟩ := la_mtcut (O := dk base) (t := t) aV bV k
    have hno : ¬ (6 : Int32) ≤ nI k := nI_ge (b := 6) hk (by omega)
    rw [lx_merges_L143, if_neg hno, gO, swbd_e, gA, swbd_e, gB, swbd_e]
    refine (swjn_c1 (if t = true then 0 else 1) (fun kk => c188 kk)).trans ?_
    show (swbd (lx_meets (lN (swits (dk base) k)) (lN (swits (dk (hd a)) k)) (lN (swits (dk (hd b)) k)) (if t = true then 0 else 1)) _) = _
    rw [la_meets oV aV bV k hso, swbd_e, m1, m2, swlt_e, swlt_e, lN_add]
    refine (swjn_c1 (swB (bl || mblk E (dk base) (dk (hd a)) (dk (hd b)) t k)) (fun kk => ?_)).trans ?_
    · cases bl
      · rw [if_pos (by rfl), Bool.false_or]
        exact la_mblk h8.2.1 h8.1.1 h8.1.2.2.2.2.1 h8.2.2 aV bV hk kk
      · rw [if_neg (by decide), Bool.true_or]
    · show (if nI k = nI sl then _ else _) = _
      rw [nI_1]
      by_cases hks : k = sl
      · have e1 : nI k = nI sl := by rw [hks]
        rw [if_pos e1, show (1 : Int32) = nI 1 from rfl, swrd_n (by omega) (by omega), q81]
        by_cases hkn : k < ns
        · rw [if_neg (nI_ge hkn (by omega))]
          by_cases hx0 : x = -1
          · rw [if_pos (by rw [hx0]; decide)]
          · have hz : ∃ z, z < 2 ∧ x = nI z ∧ t = decide (z = 1) := by
              rcases hx with ⟨rfl, rfl⟩ | ⟨rfl, rfl⟩ | ⟨rfl, rfl⟩
              · exact absurd rfl hx0
              · exact ⟨0, by omega, rfl, rfl⟩
              · exact ⟨1, by omega, rfl, rfl⟩
            obtain ⟨z, hz2, hxz, htz⟩ := hz
            have hm := hmrg z hz2 k hkn
            rw [← htz, ← hxz] at hm
            have hxl : ¬ x < 0 := by rw [hxz]; exact nI_pos (by omega)
            rw [if_neg hxl, if_neg (by decide), hm, swnx_e]
            refine (swjn_c1 (swRS (dk base) (dk (hd a)) (dk (hd b)) (nI k) ob t) (fun kk => ?_)).trans ?_
            · have hl := swmt_lt (O := dk base) aV bV k t
              unfold swRS
              cases hkp : swKP (dk base) (dk (hd a)) (dk (hd b)) (nI k) t
              · rw [if_pos (by rw [la_cmp0 (by omega)]; exact hl.2.mpr hkp), if_neg (by decide)]
                rfl
              · rw [if_neg (by rw [la_cmp0 (by omega)]; exact fun z => by rw [hl.2.mp z] at hkp; cases hkp), if_pos rfl]
                obtain ⟨y, y1, y2, y3⟩ := (lxv_mt (O := dk base) aV bV hkp).2 ob hob
                rw [y3, swbd_e, ← y2]
            · show (if _ = _ then _ else _) = _
              rw [if_pos rfl]
        · rw [if_pos (nI_le (by omega) (by omega))]
      · rw [if_neg (by rw [nI_eq (by omega) (by omega)]; exact hks)]
  have e0 := step 0 (by omega) 7 0 false
  have e1 := step 1 (by omega) 6 (0 + swcc (dk base) (dk (hd a)) (dk (hd b)) 0) (false || mblk E (dk base) (dk (hd a)) (dk (hd b)) t 0)
  have e2 := step 2 (by omega) 5 (0 + swcc (dk base) (dk (hd a)) (dk (hd b)) 0 + swcc (dk base) (dk (hd a)) (dk (hd b)) 1) (false || mblk E (dk base) (dk (hd a)) (dk (hd b)) t 0 || mblk E (dk base) (dk (hd a)) (dk (hd b)) t 1)
  have e3 := step 3 (by omega) 4 (0 + swcc (dk base) (dk (hd a)) (dk (hd b)) 0 + swcc (dk base) (dk (hd a)) (dk (hd b)) 1 + swcc (dk base) (dk (hd a)) (dk (hd b)) 2) (false || mblk E (dk base) (dk (hd a)) (dk (hd b)) t 0 || mblk E (dk base) (dk (hd a)) (dk (hd b)) t 1 || mblk E (dk base) (dk (hd a)) (dk (hd b)) t 2)
  have e4 := step 4 (by omega) 3 (0 + swcc (dk base) (dk (hd a)) (dk (hd b)) 0 + swcc (dk base) (dk (hd a)) (dk (hd b)) 1 + swcc (dk base) (dk (hd a)) (dk (hd b)) 2 + swcc (dk base) (dk (hd a)) (dk (hd b)) 3) (false || mblk E (dk base) (dk (hd a)) (dk (hd b)) t 0 || mblk E (dk base) (dk (hd a)) (dk (hd b)) t 1 || mblk E (dk base) (dk (hd a)) (dk (hd b)) t 2 || mblk E (dk base) (dk (hd a)) (dk (hd b)) t 3)
  have e5 := step 5 (by omega) 2 (0 + swcc (dk base) (dk (hd a)) (dk (hd b)) 0 + swcc (dk base) (dk (hd a)) (dk (hd b)) 1 + swcc (dk base) (dk (hd a)) (dk (hd b)) 2 + swcc (dk base) (dk (hd a)) (dk (hd b)) 3 + swcc (dk base) (dk (hd a)) (dk (hd b)) 4) (false || mblk E (dk base) (dk (hd a)) (dk (hd b)) t 0 || mblk E (dk base) (dk (hd a)) (dk (hd b)) t 1 || mblk E (dk base) (dk (hd a)) (dk (hd b)) t 2 || mblk E (dk base) (dk (hd a)) (dk (hd b)) t 3 || mblk E (dk base) (dk (hd a)) (dk (hd b)) t 4)
  refine (e0.trans (e1.trans (e2.trans (e3.trans (e4.trans e5))))).trans ?_
  show lx_merges_L143 w (nI a) (nI b) x (nI (hd a)) (nI (hd b)) (nI base) (nI sl) (nI ob) KK (1 + 1) _ _ 1 (nI 6) u = _
  rw [lx_merges_L143, if_pos (by decide)]
  rfl
end M143
