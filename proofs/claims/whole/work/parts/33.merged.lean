/-! ===== THE MERGED DECK, on both sides ===== -/
def swAp (X : swD) (s : Int32) (vals : Nat → Int32) : swD := (X.1 + 1, fun k => if k = X.1 then s else X.2.1 k, fun k o => if k = X.1 then vals o else X.2.2 k o)
def swMA (O A B : swD) (t : Bool) : Nat → swD
  | 0 => (0, fun _ => 0, fun _ _ => 0)
  | k + 1 => if swKP O A B (A.2.1 k) t = true then swAp (swMA O A B t k) (A.2.1 k) (fun j => swKV O A B (A.2.1 k) j t) else swMA O A B t k
def swMB (O A B : swD) (t : Bool) : Nat → swD
  | 0 => swMA O A B t A.1
  | k + 1 => if swhas A (B.2.1 k) = true then swMB O A B t k else if swKP O A B (B.2.1 k) t = true then swAp (swMB O A B t k) (B.2.1 k) (fun j => swKV O A B (B.2.1 k) j t) else swMB O A B t k
theorem swMA_n (O A B : swD) (t : Bool) : ∀ k, (swMA O A B t k).1 = sw_cnt k (fun i => swKP O A B (A.2.1 i) t) := by
  intro k
  induction k with
  | zero => rfl
  | succ k ih =>
    show (if swKP O A B (A.2.1 k) t = true then swAp (swMA O A B t k) (A.2.1 k) (fun j => swKV O A B (A.2.1 k) j t) else swMA O A B t k).1 = sw_cnt k (fun i => swKP O A B (A.2.1 i) t) + (if swKP O A B (A.2.1 k) t = true then 1 else 0)
    by_cases h : swKP O A B (A.2.1 k) t = true
    · rw [if_pos h, if_pos h, ← ih]
      rfl
    · rw [if_neg h, if_neg h, ← ih]
      rfl
theorem swMB_n (O A B : swD) (t : Bool) : ∀ k, (swMB O A B t k).1 = (swMA O A B t A.1).1 + sw_cnt k (fun i => !swhas A (B.2.1 i) && swKP O A B (B.2.1 i) t) := by
  intro k
  induction k with
  | zero => rfl
  | succ k ih =>
    show (if swhas A (B.2.1 k) = true then swMB O A B t k else if swKP O A B (B.2.1 k) t = true then swAp (swMB O A B t k) (B.2.1 k) (fun j => swKV O A B (B.2.1 k) j t) else swMB O A B t k).1 = (swMA O A B t A.1).1 + (sw_cnt k (fun i => !swhas A (B.2.1 i) && swKP O A B (B.2.1 i) t) + (if (!swhas A (B.2.1 k) && swKP O A B (B.2.1 k) t) = true then 1 else 0))
    cases h : swhas A (B.2.1 k)
    · cases h2 : swKP O A B (B.2.1 k) t
      · simp [ih]
      · simp [swAp, ih, Nat.add_assoc]
    · simp [ih]
theorem sw_cnt_mono (p : Nat → Bool) : ∀ {a b : Nat}, a ≤ b → sw_cnt a p ≤ sw_cnt b p := by
  intro a b h
  obtain ⟨c, rfl⟩ : ∃ c, b = a + c := ⟨b - a, by omega⟩
  rw [sw_cnt_split]
  omega
theorem swMA_le (O A B : swD) (t : Bool) {a b : Nat} (h : a ≤ b) : (swMA O A B t a).1 ≤ (swMA O A B t b).1 := by
  rw [swMA_n, swMA_n]
  exact sw_cnt_mono _ h
theorem swMB_le (O A B : swD) (t : Bool) {a b : Nat} (h : a ≤ b) : (swMB O A B t a).1 ≤ (swMB O A B t b).1 := by
  rw [swMB_n, swMB_n]
  have := sw_cnt_mono (fun i => !swhas A (B.2.1 i) && swKP O A B (B.2.1 i) t) h
  omega
theorem swKP_has {O A B : swD} {s : Int32} {t : Bool} (h : swKP O A B s t = true) : swhas A s = true ∨ swhas B s = true := by
  unfold swKP at h
  cases h1 : swhas A s
  · cases h2 : swhas B s
    · rw [h1, h2] at h
      simp at h
    · exact Or.inr rfl
  · exact Or.inl rfl
theorem swKV_nn {O A B : swD} {s : Int32} {t : Bool} (h : swKP O A B s t = true) (nA : swnn A) (nB : swnn B) {j : Nat} (hj : j < 4) : 0 ≤ swKV O A B s j t := by
  unfold swKV
  cases h2 : swhas B s
  · rw [if_pos rfl]
    have h1 : swhas A s = true := by
      rcases swKP_has h with z | z
      · exact z
      · rw [h2] at z
        cases z
    unfold swVO
    rw [if_pos h1]
    exact swnn_v nA h1 hj
  · rw [if_neg (by simp)]
    cases h1 : swhas A s
    · rw [if_pos rfl]
      unfold swVO
      rw [if_pos h2]
      exact swnn_v nB h2 hj
    · rw [if_neg (by simp)]
      have a := swnn_v nA h1 hj
      have b := swnn_v nB h2 hj
      split
      · split
        · exact b
        · exact a
      · split
        · exact b
        · exact a
theorem sw_cnt_one {p q : Nat → Bool} {s0 N : Nat} (h : ∀ s, s < N → s ≠ s0 → q s = p s) (h0 : p s0 = false) : ∀ n, n ≤ N → s0 < n → sw_cnt n q = sw_cnt n p + (if q s0 = true then 1 else 0) := by
  intro n
  induction n with
  | zero => intro _ z; exact absurd z (Nat.not_lt_zero _)
  | succ n ih =>
    intro hN hn
    show sw_cnt n q + (if q n = true then 1 else 0) = sw_cnt n p + (if p n = true then 1 else 0) + (if q s0 = true then 1 else 0)
    by_cases e : n = s0
    · subst e
      rw [sw_cnt_cong n (fun k hk => h k (by omega) (by omega)), h0]
      simp
    · rw [ih (by omega) (by omega), h n (by omega) e]
      omega
theorem swhas_any (d : swD) (s : Int32) : swhas d s = sw_any d.1 (fun k => decide (d.2.1 k = s)) := (sw_any_fst _ _).symm
theorem sw_cnt_deck {ns : Nat} {d : swD} (h : srW ns d) (hns : ns ≤ 20) (q : Int32 → Bool) : ∀ n, n ≤ d.1 → sw_cnt ns (fun s => sw_any n (fun k => decide (d.2.1 k = nI s)) && q (nI s)) = sw_cnt n (fun k => q (d.2.1 k)) := by
  intro n
  induction n with
  | zero =>
    intro _
    exact sw_cnt_no ns fun k _ => rfl
  | succ n ih =>
    intro hn
    obtain ⟨s0, hs0, e0⟩ := h.2.1 n (by omega)
    have h1 : sw_cnt ns (fun s => sw_any (n + 1) (fun k => decide (d.2.1 k = nI s)) && q (nI s)) = sw_cnt ns (fun s => sw_any n (fun k => decide (d.2.1 k = nI s)) && q (nI s)) + (if (sw_any (n + 1) (fun k => decide (d.2.1 k = nI s0)) && q (nI s0)) = true then 1 else 0) := by
      have hno : sw_any n (fun k => decide (d.2.1 k = nI s0)) = false := by
        cases ha : sw_any n (fun k => decide (d.2.1 k = nI s0))
        · rfl
        · obtain ⟨k, hk, hp⟩ := (sw_any_iff _ _).mp ha
          have := h.2.2 k n (by omega) (by omega) ((of_decide_eq_true hp).trans e0.symm)
          omega
      by_cases hlt : s0 < ns
      · refine sw_cnt_one (s0 := s0) (N := ns) (fun s hsn hs => ?_) ?_ ns (Nat.le_refl _) hlt
        · show ((sw_any n (fun k => decide (d.2.1 k = nI s)) || decide (d.2.1 n = nI s)) && q (nI s)) = _
          have : ¬ d.2.1 n = nI s := by
            rw [e0, nI_eq (by omega) (by omega)]
            exact fun z => hs z.symm
          rw [decide_eq_false this, Bool.or_false]
        · rw [hno, Bool.false_and]
      · exact absurd hs0 hlt
    rw [h1, ih (by omega)]
    show _ = sw_cnt n (fun k => q (d.2.1 k)) + (if q (d.2.1 n) = true then 1 else 0)
    have : sw_any (n + 1) (fun k => decide (d.2.1 k = nI s0)) = true := (sw_any_iff _ _).mpr ⟨n, by omega, decide_eq_true e0⟩
    rw [this, Bool.true_and, e0]
theorem sw_cnt_add {p q r : Nat → Bool} : ∀ n, (∀ k, k < n → (if r k = true then 1 else 0) = (if p k = true then 1 else 0) + (if q k = true then 1 else 0)) → sw_cnt n r = sw_cnt n p + sw_cnt n q := by
  intro n
  induction n with
  | zero => intro _; rfl
  | succ n ih =>
    intro h
    show sw_cnt n r + (if r n = true then 1 else 0) = sw_cnt n p + (if p n = true then 1 else 0) + (sw_cnt n q + (if q n = true then 1 else 0))
    rw [ih (fun k hk => h k (by omega)), h n (by omega)]
    omega
theorem swMM_n {ns : Nat} {O A B : swD} (hA : srW ns A) (hB : srW ns B) (hns : ns ≤ 20) (t : Bool) : sw_cnt ns (fun s => swKP O A B (nI s) t) = (swMB O A B t B.1).1 := by
  rw [swMB_n, swMA_n]
  have e1 := sw_cnt_deck hA hns (fun s => swKP O A B s t) A.1 (Nat.le_refl _)
  have e2 := sw_cnt_deck hB hns (fun s => !swhas A s && swKP O A B s t) B.1 (Nat.le_refl _)
  rw [← e1, ← e2]
  refine sw_cnt_add ns fun k hk => ?_
  have g1 : sw_any A.1 (fun i => decide (A.2.1 i = nI k)) = swhas A (nI k) := (swhas_any A (nI k)).symm
  have g2 : sw_any B.1 (fun i => decide (B.2.1 i = nI k)) = swhas B (nI k) := (swhas_any B (nI k)).symm
  rw [g1, g2]
  cases h : swKP O A B (nI k) t
  · simp
  · rcases swKP_has h with z | z
    · simp [z]
    · cases z2 : swhas A (nI k) <;> simp [z]
/-! the class fills its trial deck -/
theorem swcD_F {c c2 : Nat} {u u' : swU} {d : swD} (h : swcD u c d) (hf : swcF c2 u u') (h1 : 200 ≤ c ∧ c ≤ 240) (h2 : 200 ≤ c2 ∧ c2 ≤ 240) (hne : c ≠ c2) : swcD u' c d := swcD_fr h (by rw [hf.1 c (by omega) (by omega) (by omega)]) (fun _ _ => by rw [hf.1 (c + 100) (by omega) (by omega) (by omega)]) (fun _ _ _ _ => by rw [hf.1 (c + 200) (by omega) (by omega) (by omega)])
theorem pc_append {u : swU} {co ca cb : Nat} {O A B : swD} (hO : swcD u co O) (hA : swcD u ca A) (hB : swcD u cb B) (kO : 200 ≤ co ∧ co < 240) (kA : 200 ≤ ca ∧ ca < 240) (kB : 200 ≤ cb ∧ cb < 240) {x s : Int32} {t : Bool} (ht : (x = 1) = (t = true)) {X : swD} (hX : swcD u 240 X) (hn : X.1 < 8) : ∃ u', xx1_append u co ca cb 240 s x = some u' ∧ swcF 240 u u' ∧ swcD u' 240 (swAp X s (fun j => swKV O A B s j t)) := by
  obtain ⟨u1, e1, f1, d1⟩ := pc_insert hX hn (Nat.le_refl X.1) s
  obtain ⟨z, hz, g, hg⟩ := sw_upS (σ := swU) (fun f o v => xx1_append_L16 co ca cb 240 s x (nI X.1) (fun v5 w44 => some w44) f (nI o) v) (fun o v => sw4s 440 (4 * X.1) (fun j => swKV O A B s j t) o u1 v) 4 u1 (sw4s.zero _ _ _ _) (by
    intro f o v ho hI
    refine ⟨_, hI.step, ?_⟩
    show xx1_append_L16 co ca cb 240 s x (nI X.1) _ (f + 1) (nI o) v = xx1_append_L16 co ca cb 240 s x (nI X.1) _ f (nI (o + 1)) _
    have hF : swcF 240 u v := f1.tr ⟨fun q _ _ q3 => hI.1 q q3, hI.2.2.2⟩
    have hk := pc_KV (swcD_F hO hF (by omega) (by omega) (by omega)) (swcD_F hA hF (by omega) (by omega) (by omega)) (swcD_F hB hF (by omega) (by omega) (by omega)) s ho x t ht
    rw [xx1_append_L16]
    simp (disch := omega) only [swlt_e, swbd_e, swrd_n, swgd_n, nI_clamp, sw8m, sw4m, sw4r, nI_add, nI_1, swsub, swsubn, sw4le, swleI, swltI, sweqI, sweqm, sw0add, if_pos, if_neg, if_true, if_false, sw1n0, sw0n1, eq_self, ↓reduceIte, hk, pc_put]) (by omega)
  obtain ⟨a, b, y1, y2⟩ := hz
  refine ⟨z, ?_, f1.tr ⟨fun q _ _ q3 => a q q3, y2⟩, ?_⟩
  · unfold xx1_append
    rw [swlt_e, hX.2.1, e1, swbd_e]
    refine Eq.trans hg ?_
    show xx1_append_L16 co ca cb 240 s x (nI X.1) _ (g + 1) (nI 4) z = _
    rw [xx1_append_L16]
    simp (disch := omega) only [swlt_e, swbd_e, swrd_n, swgd_n, nI_clamp, sw8m, sw4m, sw4r, nI_add, nI_1, swsub, swsubn, sw4le, swleI, swltI, sweqI, sweqm, sw0add, if_pos, if_neg, if_true, if_false, sw1n0, sw0n1, eq_self, ↓reduceIte]
  · obtain ⟨d8, dn, dr, dv⟩ := d1
    refine ⟨by show X.1 + 1 ≤ 8; omega, by rw [a 240 (by omega)]; exact dn, fun k hk => ?_, fun k hk o ho => ?_⟩
    · have hk2 : k < X.1 + 1 := hk
      rw [a (240 + 100) (by omega), dr k hk]
      show (if k < X.1 then X.2.1 k else if k = X.1 then s else X.2.1 (k - 1)) = if k = X.1 then s else X.2.1 k
      by_cases e : k = X.1
      · rw [if_neg (by omega), if_pos e, if_pos e]
      · rw [if_pos (by omega), if_neg e]
    · have hk2 : k < X.1 + 1 := hk
      show z.1 440 (4 * k + o) = if k = X.1 then swKV O A B s o t else X.2.2 k o
      by_cases e : k = X.1
      · rw [if_pos e, e]
        exact b o ho
      · rw [if_neg e, y1 _ (by omega)]
        have := dv k hk o ho
        rw [show u1.1 440 (4 * k + o) = u1.1 (240 + 200) (4 * k + o) from rfl, this]
        show (if k < X.1 then X.2.2 k o else if k = X.1 then 0 else X.2.2 (k - 1) o) = _
        rw [if_pos (by omega)]
theorem pc_fill {u : swU} {co ca cb : Nat} {O A B : swD} (hO : swcD u co O) (hA : swcD u ca A) (hB : swcD u cb B) (kO : 200 ≤ co ∧ co < 240) (kA : 200 ≤ ca ∧ ca < 240) (kB : 200 ≤ cb ∧ cb < 240) {x : Int32} {t : Bool} (ht : (x = 1) = (t = true)) (hM : (swMB O A B t B.1).1 ≤ 8) : ∃ u', xx1_fill u co ca cb 240 x = some u' ∧ swcF 240 u u' ∧ swcD u' 240 (swMB O A B t B.1) := by
  have hA8 := hA.1
  have hB8 := hB.1
  have hMA : ∀ k, k ≤ A.1 → (swMA O A B t k).1 ≤ 8 := fun k hk => by
    have q1 := swMA_le O A B t hk
    have q2 : (swMA O A B t A.1).1 ≤ (swMB O A B t B.1).1 := swMB_le O A B t (Nat.zero_le B.1)
    omega
  have F0 : swcF 240 u (swI u 240 2 0) := ⟨fun q q1 _ _ => swI_ne q1, rfl⟩
  obtain ⟨s, ⟨f1, d1⟩, g, hg⟩ := sw_upS (σ := swU) (fun f k v => xx1_fill_L7 co ca cb 240 x (fun v3 w53 => xx1_fill_L55 co ca cb 240 x (fun v3 w113 => some w113) 64 0 w53) f (nI k) v) (fun k v => swcF 240 u v ∧ swcD v 240 (swMA O A B t k)) A.1 (swI u 240 2 0) ⟨F0, Nat.zero_le _, swI_self, fun k hk => absurd hk (Nat.not_lt_zero k), fun k hk => absurd hk (Nat.not_lt_zero k)⟩ (by
    intro f k v hk hI
    obtain ⟨hF, hD⟩ := hI
    have dO := swcD_F hO hF (by omega) (by omega) (by omega)
    have dA := swcD_F hA hF (by omega) (by omega) (by omega)
    have dB := swcD_F hB hF (by omega) (by omega) (by omega)
    have hkp := pc_KP dO dA dB (A.2.1 k) x t ht
    have hA1 := dA.2.1
    have hAr := dA.2.2.1 k hk
    have hn1 := hMA (k + 1) (by omega)
    cases hp : swKP O A B (A.2.1 k) t
    · have e : swMA O A B t (k + 1) = swMA O A B t k := if_neg (by rw [hp]; simp)
      refine ⟨v, ⟨hF, by rw [e]; exact hD⟩, ?_⟩
      show xx1_fill_L7 co ca cb 240 x _ (f + 1) (nI k) v = xx1_fill_L7 co ca cb 240 x _ f (nI (k + 1)) v
      rw [xx1_fill_L7]
      simp (disch := omega) only [swlt_e, swbd_e, swrd_n, swgd_n, nI_clamp, sw8m, sw4m, sw4r, nI_add, nI_1, swsub, swsubn, sw4le, swleI, swltI, sweqI, sweqm, sw0add, if_pos, if_neg, if_true, if_false, sw1n0, sw0n1, eq_self, ↓reduceIte, hA1, hAr, hkp, hp]
    · have e : swMA O A B t (k + 1) = swAp (swMA O A B t k) (A.2.1 k) (fun j => swKV O A B (A.2.1 k) j t) := if_pos hp
      have hn : (swMA O A B t k).1 < 8 := by
        have : (swMA O A B t (k + 1)).1 = (swMA O A B t k).1 + 1 := by rw [e]; rfl
        omega
      obtain ⟨v', e1, e2, e3⟩ := pc_append dO dA dB kO kA kB (s := A.2.1 k) ht hD hn
      refine ⟨v', ⟨hF.tr e2, by rw [e]; exact e3⟩, ?_⟩
      show xx1_fill_L7 co ca cb 240 x _ (f + 1) (nI k) v = xx1_fill_L7 co ca cb 240 x _ f (nI (k + 1)) v'
      rw [xx1_fill_L7]
      simp (disch := omega) only [swlt_e, swbd_e, swrd_n, swgd_n, nI_clamp, sw8m, sw4m, sw4r, nI_add, nI_1, swsub, swsubn, sw4le, swleI, swltI, sweqI, sweqm, sw0add, if_pos, if_neg, if_true, if_false, sw1n0, sw0n1, eq_self, ↓reduceIte, hA1, hAr, hkp, hp, e1]) (by omega)
  obtain ⟨z, ⟨f2, d2⟩, g2, hg2⟩ := sw_upS (σ := swU) (fun f k v => xx1_fill_L55 co ca cb 240 x (fun v3 w113 => some w113) f (nI k) v) (fun k v => swcF 240 u v ∧ swcD v 240 (swMB O A B t k)) B.1 s ⟨f1, d1⟩ (by
    intro f k v hk hI
    obtain ⟨hF, hD⟩ := hI
    have dO := swcD_F hO hF (by omega) (by omega) (by omega)
    have dA := swcD_F hA hF (by omega) (by omega) (by omega)
    have dB := swcD_F hB hF (by omega) (by omega) (by omega)
    have hkp := pc_KP dO dA dB (B.2.1 k) x t ht
    have hha := pc_has dA (B.2.1 k)
    have hB1 := dB.2.1
    have hBr := dB.2.2.1 k hk
    have hn1 := swMB_le O A B t (show k + 1 ≤ B.1 by omega)
    have e0 : swMB O A B t (k + 1) = if swhas A (B.2.1 k) = true then swMB O A B t k else if swKP O A B (B.2.1 k) t = true then swAp (swMB O A B t k) (B.2.1 k) (fun j => swKV O A B (B.2.1 k) j t) else swMB O A B t k := rfl
    cases hh : swhas A (B.2.1 k)
    case true =>
      rw [hh, if_pos rfl] at e0
      refine ⟨v, ⟨hF, by rw [e0]; exact hD⟩, ?_⟩
      show xx1_fill_L55 co ca cb 240 x _ (f + 1) (nI k) v = xx1_fill_L55 co ca cb 240 x _ f (nI (k + 1)) v
      rw [xx1_fill_L55]
      simp (disch := omega) only [swlt_e, swbd_e, swrd_n, swgd_n, nI_clamp, sw8m, sw4m, sw4r, nI_add, nI_1, swsub, swsubn, sw4le, swleI, swltI, sweqI, sweqm, sw0add, if_pos, if_neg, if_true, if_false, sw1n0, sw0n1, eq_self, ↓reduceIte, hB1, hBr, hha, hh]
    case false =>
      rw [hh, if_neg (by simp)] at e0
      cases hp : swKP O A B (B.2.1 k) t
      · rw [hp, if_neg (by simp)] at e0
        refine ⟨v, ⟨hF, by rw [e0]; exact hD⟩, ?_⟩
        show xx1_fill_L55 co ca cb 240 x _ (f + 1) (nI k) v = xx1_fill_L55 co ca cb 240 x _ f (nI (k + 1)) v
        rw [xx1_fill_L55]
        simp (disch := omega) only [swlt_e, swbd_e, swrd_n, swgd_n, nI_clamp, sw8m, sw4m, sw4r, nI_add, nI_1, swsub, swsubn, sw4le, swleI, swltI, sweqI, sweqm, sw0add, if_pos, if_neg, if_true, if_false, sw1n0, sw0n1, eq_self, ↓reduceIte, hB1, hBr, hha, hh, hkp, hp]
      · rw [hp, if_pos rfl] at e0
        have hn : (swMB O A B t k).1 < 8 := by
          have : (swMB O A B t (k + 1)).1 = (swMB O A B t k).1 + 1 := by rw [e0]; rfl
          omega
        obtain ⟨v', e1, e2, e3⟩ := pc_append dO dA dB kO kA kB (s := B.2.1 k) ht hD hn
        refine ⟨v', ⟨hF.tr e2, by rw [e0]; exact e3⟩, ?_⟩
        show xx1_fill_L55 co ca cb 240 x _ (f + 1) (nI k) v = xx1_fill_L55 co ca cb 240 x _ f (nI (k + 1)) v'
        rw [xx1_fill_L55]
        simp (disch := omega) only [swlt_e, swbd_e, swrd_n, swgd_n, nI_clamp, sw8m, sw4m, sw4r, nI_add, nI_1, swsub, swsubn, sw4le, swleI, swltI, sweqI, sweqm, sw0add, if_pos, if_neg, if_true, if_false, sw1n0, sw0n1, eq_self, ↓reduceIte, hB1, hBr, hha, hh, hkp, hp, e1]) (by omega)
  refine ⟨z, ?_, f2, d2⟩
  unfold xx1_fill
  rw [swlt_e]
  refine Eq.trans hg ?_
  show xx1_fill_L7 co ca cb 240 x _ (g + 1) (nI A.1) s = _
  have hs1 := (swcD_F hA f1 (by omega) (by omega) (by omega)).2.1
  have hz1 := (swcD_F hB f2 (by omega) (by omega) (by omega)).2.1
  rw [xx1_fill_L7]
  simp (disch := omega) only [swlt_e, swbd_e, swrd_n, swgd_n, nI_clamp, sw8m, sw4m, sw4r, nI_add, nI_1, swsub, swsubn, sw4le, swleI, swltI, sweqI, sweqm, sw0add, if_pos, if_neg, if_true, if_false, sw1n0, sw0n1, eq_self, ↓reduceIte, hs1]
  refine Eq.trans hg2 ?_
  show xx1_fill_L55 co ca cb 240 x _ (g2 + 1) (nI B.1) z = _
  rw [xx1_fill_L55]
  simp (disch := omega) only [swlt_e, swbd_e, swrd_n, swgd_n, nI_clamp, sw8m, sw4m, sw4r, nI_add, nI_1, swsub, swsubn, sw4le, swleI, swltI, sweqI, sweqm, sw0add, if_pos, if_neg, if_true, if_false, sw1n0, sw0n1, eq_self, ↓reduceIte, hz1]
