/-! ===== orders ===== -/
theorem la_orsum {a k : Nat} (b : Nat) (h : a < 2 ^ k) : nI a ||| nI (2 ^ k * b) = nI (a + 2 ^ k * b) := by
  rw [la_or, Nat.or_comm, ← Nat.two_pow_add_eq_or_of_lt h, Nat.add_comm]
theorem la_m3 (p : Nat) : (3 : Int32) * nI p = nI (3 * p) := pk_mul 3 p
theorem la_8p {p : Nat} (hp : p ≤ 8) : 1 ≤ 8 ^ p ∧ 8 ^ p ≤ 16777216 := ⟨Nat.pos_of_ne_zero (by simp), la_8 p hp⟩
theorem la_sh8 {p c : Nat} (hp : p ≤ 8) (hc : c < 200) : swshl (nI c) ((3 : Int32) * nI p) = nI (8 ^ p * c) := by
  have h := (la_8p hp).2
  have hm : c * 8 ^ p ≤ 200 * 16777216 := Nat.mul_le_mul (by omega) h
  rw [la_m3, la_shl (by rw [la_p3]; omega) (by omega), la_p3, Nat.mul_comm]
theorem la_ahead (S : Nat) {p : Nat} (hp : p ≤ 8) : (nI S &&& (swshl 1 ((3 : Int32) * nI p) - 1)) = nI (S % 8 ^ p) := by
  have h := la_8p hp
  have e : swshl 1 ((3 : Int32) * nI p) = nI (8 ^ p * 1) := la_sh8 (c := 1) hp (by omega)
  rw [e, Nat.mul_one, show (1 : Int32) = nI 1 from rfl, pk_sub h.1, la_and, ← la_p3, la_mod2]
theorem la_ordadd {S p c : Nat} (hp : p ≤ 6) (hS : S < 16777216) (hc : c < 8) : ((nI (S % 8 ^ p) ||| swshl (nI c) ((3 : Int32) * nI p)) ||| swshl (nI S - nI (S % 8 ^ p)) 3) = nI (S % 8 ^ p + 8 ^ p * c + 8 ^ (p + 1) * (S / 8 ^ p)) := by
  have h8 := la_8p (p := p) (by omega)
  have hlt : S % 8 ^ p < 8 ^ p := Nat.mod_lt _ h8.1
  have hdm := Nat.div_add_mod S (8 ^ p)
  have hsub : S - S % 8 ^ p = 8 ^ p * (S / 8 ^ p) := by omega
  have e2 : swshl (nI S - nI (S % 8 ^ p)) 3 = nI (8 ^ (p + 1) * (S / 8 ^ p)) := by
    rw [pk_sub (Nat.mod_le _ _), hsub, show (3 : Int32) = nI 3 from rfl, la_shl (by
      have : 8 ^ p * (S / 8 ^ p) ≤ S := Nat.mul_div_le _ _
      omega) (by omega)]
    congr 1
    have hq : 8 ^ (p + 1) = 8 ^ p * 8 := Nat.pow_succ _ _
    rw [hq]
    show 8 ^ p * (S / 8 ^ p) * 8 = _
    rw [Nat.mul_assoc, Nat.mul_assoc, Nat.mul_comm (S / 8 ^ p)]
  have p1 : 8 ^ p = 2 ^ (3 * p) := (la_p3 p).symm
  have p2 : 8 ^ (p + 1) = 2 ^ (3 * (p + 1)) := (la_p3 (p + 1)).symm
  have hlt2 : S % 8 ^ p + 8 ^ p * c < 8 ^ (p + 1) := by
    have : 8 ^ p * c ≤ 8 ^ p * 7 := Nat.mul_le_mul_left _ (by omega)
    rw [Nat.pow_succ]
    omega
  have o1 : nI (S % 8 ^ p) ||| nI (8 ^ p * c) = nI (S % 8 ^ p + 8 ^ p * c) := by
    have := la_orsum (a := S % 8 ^ p) (k := 3 * p) c (by rw [← p1]; exact hlt)
    rw [← p1] at this
    exact this
  have o2 : nI (S % 8 ^ p + 8 ^ p * c) ||| nI (8 ^ (p + 1) * (S / 8 ^ p)) = nI (S % 8 ^ p + 8 ^ p * c + 8 ^ (p + 1) * (S / 8 ^ p)) := by
    have := la_orsum (a := S % 8 ^ p + 8 ^ p * c) (k := 3 * (p + 1)) (S / 8 ^ p) (by rw [← p2]; exact hlt2)
    rw [← p2] at this
    exact this
  rw [la_sh8 (by omega) (by omega), e2, o1, o2]
theorem la_orddrop {S p : Nat} (hp : p ≤ 6) (hS : S < 16777216) : (nI (S % 8 ^ p) ||| swshl (swshr (nI S) (((3 : Int32) * nI p) + 3)) ((3 : Int32) * nI p)) = nI (S % 8 ^ p + 8 ^ p * (S / 8 ^ (p + 1))) := by
  have h8 := la_8p (p := p) (by omega)
  have hlt : S % 8 ^ p < 8 ^ p := Nat.mod_lt _ h8.1
  have p1 : 8 ^ p = 2 ^ (3 * p) := (la_p3 p).symm
  have e1 : swshr (nI S) (((3 : Int32) * nI p) + 3) = nI (S / 8 ^ (p + 1)) := by
    rw [la_m3, show (3 : Int32) = nI 3 from rfl, nI_add, la_shr (by omega) (by omega), show 3 * p + 3 = 3 * (p + 1) by omega, la_p3]
  have hle : 8 ^ p * (S / 8 ^ (p + 1)) ≤ S := by
    have h1 : S / 8 ^ (p + 1) ≤ S / 8 ^ p := by
      rw [Nat.pow_succ, ← Nat.div_div_eq_div_mul]
      exact Nat.div_le_self _ _
    exact Nat.le_trans (Nat.mul_le_mul_left _ h1) (Nat.mul_div_le _ _)
  have e2 : swshl (nI (S / 8 ^ (p + 1))) ((3 : Int32) * nI p) = nI (8 ^ p * (S / 8 ^ (p + 1))) := by
    rw [la_m3, la_shl (by rw [← p1, Nat.mul_comm]; omega) (by omega), ← p1, Nat.mul_comm]
  have o1 : nI (S % 8 ^ p) ||| nI (8 ^ p * (S / 8 ^ (p + 1))) = nI (S % 8 ^ p + 8 ^ p * (S / 8 ^ (p + 1))) := by
    have := la_orsum (a := S % 8 ^ p) (k := 3 * p) (S / 8 ^ (p + 1)) (by rw [← p1]; exact hlt)
    rw [← p1] at this
    exact this
  rw [e1, e2, o1]
theorem sword_cong {r r' : Nat → Int32} : ∀ n, (∀ k, k < n → r k = r' k) → sword r n = sword r' n
  | 0, _ => rfl
  | n + 1, h => by
    show sword r n + 8 ^ n * ((r n).toNatClampNeg + 1) = sword r' n + 8 ^ n * ((r' n).toNatClampNeg + 1)
    rw [sword_cong n (fun k hk => h k (by omega)), h n (by omega)]
theorem sword_split (r : Nat → Int32) (p : Nat) : ∀ m, sword r (p + m) = sword r p + 8 ^ p * sword (fun k => r (p + k)) m
  | 0 => by
    show sword r p = sword r p + 8 ^ p * 0
    rw [Nat.mul_zero, Nat.add_zero]
  | m + 1 => by
    show sword r (p + m) + 8 ^ (p + m) * ((r (p + m)).toNatClampNeg + 1) = sword r p + 8 ^ p * (sword (fun k => r (p + k)) m + 8 ^ m * ((r (p + m)).toNatClampNeg + 1))
    rw [sword_split r p m, Nat.pow_add, Nat.mul_add (8 ^ p), Nat.mul_assoc, Nat.add_assoc]
theorem sword_cons (f : Nat → Int32) (m : Nat) : sword f (m + 1) = ((f 0).toNatClampNeg + 1) + 8 * sword (fun k => f (k + 1)) m := by
  have h := sword_split f 1 m
  have e : sword f (1 + m) = sword f (m + 1) := by rw [Nat.add_comm]
  have e2 : sword (fun k => f (1 + k)) m = sword (fun k => f (k + 1)) m := sword_cong m (fun k _ => by show f (1 + k) = f (k + 1); rw [Nat.add_comm])
  rw [e, e2] at h
  rw [h]
  show 0 + 8 ^ 0 * ((f 0).toNatClampNeg + 1) + 8 ^ 1 * _ = _
  rw [Nat.zero_add, Nat.pow_zero, Nat.one_mul, Nat.pow_one]
theorem sword_dm {r : Nat → Int32} {n p : Nat} (hp : p ≤ n) (h : swdg r n) : sword r n % 8 ^ p = sword r p ∧ sword r n / 8 ^ p = sword (fun k => r (p + k)) (n - p) := by
  have h8 : 0 < 8 ^ p := Nat.pos_of_ne_zero (by simp)
  have hlt := sword_lt p (h.mono hp)
  have e := sword_split r p (n - p)
  rw [show p + (n - p) = n by omega] at e
  rw [e]
  exact ⟨by rw [Nat.add_mul_mod_self_left, Nat.mod_eq_of_lt hlt], by rw [Nat.add_mul_div_left _ _ h8, Nat.div_eq_of_lt hlt, Nat.zero_add]⟩
theorem sword_ins {r : Nat → Int32} {n p : Nat} {c : Int32} (hp : p ≤ n) (h : swdg r n) : sword (fun k => if k < p then r k else if k = p then c else r (k - 1)) (n + 1) = sword r n % 8 ^ p + 8 ^ p * (c.toNatClampNeg + 1) + 8 ^ (p + 1) * (sword r n / 8 ^ p) := by
  obtain ⟨e1, e2⟩ := sword_dm hp h
  have e := sword_split (fun k => if k < p then r k else if k = p then c else r (k - 1)) p (n - p + 1)
  rw [show p + (n - p + 1) = n + 1 by omega] at e
  rw [e, e1, e2, sword_cons]
  have a1 : sword (fun k => if k < p then r k else if k = p then c else r (k - 1)) p = sword r p := sword_cong p (fun k hk => if_pos hk)
  have a2 : (if p + 0 < p then r (p + 0) else if p + 0 = p then c else r (p + 0 - 1)) = c := by
    rw [if_neg (by omega), if_pos (by omega)]
  have a3 : sword (fun k => if p + (k + 1) < p then r (p + (k + 1)) else if p + (k + 1) = p then c else r (p + (k + 1) - 1)) (n - p) = sword (fun k => r (p + k)) (n - p) := sword_cong (n - p) (fun k hk => by
    show (if p + (k + 1) < p then r (p + (k + 1)) else if p + (k + 1) = p then c else r (p + (k + 1) - 1)) = r (p + k)
    rw [if_neg (by omega), if_neg (by omega)]
    rfl)
  show sword (fun k => if k < p then r k else if k = p then c else r (k - 1)) p + 8 ^ p * ((if p + 0 < p then r (p + 0) else if p + 0 = p then c else r (p + 0 - 1)).toNatClampNeg + 1 + 8 * sword (fun k => if p + (k + 1) < p then r (p + (k + 1)) else if p + (k + 1) = p then c else r (p + (k + 1) - 1)) (n - p)) = _
  rw [a1, a2, a3, Nat.mul_add, Nat.pow_succ, Nat.mul_assoc, Nat.add_assoc]
theorem sword_rm {r : Nat → Int32} {n p : Nat} (hp : p < n) (h : swdg r n) : sword (fun k => r (swsk p k)) (n - 1) = sword r n % 8 ^ p + 8 ^ p * (sword r n / 8 ^ (p + 1)) := by
  obtain ⟨e1, -⟩ := sword_dm (show p ≤ n by omega) h
  obtain ⟨-, e2⟩ := sword_dm (show p + 1 ≤ n by omega) h
  have e := sword_split (fun k => r (swsk p k)) p (n - 1 - p)
  rw [show p + (n - 1 - p) = n - 1 by omega] at e
  rw [e, e1, e2]
  have a1 : sword (fun k => r (swsk p k)) p = sword r p := sword_cong p (fun k hk => by
    show r (swsk p k) = r k
    unfold swsk
    rw [if_pos hk])
  have a2 : sword (fun k => r (swsk p (p + k))) (n - 1 - p) = sword (fun k => r (p + 1 + k)) (n - (p + 1)) := by
    rw [show n - 1 - p = n - (p + 1) by omega]
    refine sword_cong _ (fun k _ => ?_)
    show r (swsk p (p + k)) = r (p + 1 + k)
    unfold swsk
    rw [if_neg (by omega)]
    congr 1
    omega
  show sword (fun k => r (swsk p k)) p + 8 ^ p * sword (fun k => r (swsk p (p + k))) (n - 1 - p) = _
  rw [a1, a2]
theorem srW_dg {ns : Nat} {d : swD} (h : srW ns d) (hns : ns ≤ 7) : swdg d.2.1 d.1 := fun k hk => by
  obtain ⟨s, hs, e⟩ := h.2.1 k hk
  rw [e, nI_clamp (by omega)]
  omega
/-! packed slides by their rows -/
theorem swpl_of {ns : Nat} {d : swD} (h : srW ns d) {k : Nat} {x : Int32} (hk : k < d.1) (e : d.2.1 k = x) : swpl d x = k ∧ swhas d x = true := by
  subst e
  have h1 := swpl_row h hk
  exact ⟨h1, decide_eq_true (by rw [h1]; exact hk)⟩
theorem swits_row {ns : Nat} {d : swD} (h : srW ns d) {k s : Nat} (hk : k < d.1) (e : d.2.1 k = nI s) : swits d s = swpk (d.2.2 k 0).toNatClampNeg (d.2.2 k 1).toNatClampNeg (d.2.2 k 2).toNatClampNeg (d.2.2 k 3).toNatClampNeg := by
  obtain ⟨h1, h2⟩ := swpl_of h hk e
  rw [swits_yes h2]
  unfold swvn swval
  rw [h1]
theorem swhas_none {d : swD} {x : Int32} (h : ∀ k, k < d.1 → ¬ d.2.1 k = x) : swhas d x = false := by
  cases hh : swhas d x
  · rfl
  · exact absurd (swpl_eq (swpI_h hh).2) (h _ (swpI_h hh).2)
theorem swits_none {d : swD} {s : Nat} (h : ∀ k, k < d.1 → ¬ d.2.1 k = nI s) : swits d s = 0 := swits_no (swhas_none h)
theorem swrow_cases (d : swD) (s : Nat) : (∀ k, k < d.1 → ¬ d.2.1 k = nI s) ∨ ∃ k, k < d.1 ∧ d.2.1 k = nI s := by
  cases hh : swhas d (nI s)
  · refine Or.inl fun k hk e => ?_
    have := swhas_row (d := d) hk
    rw [e, hh] at this
    cases this
  · exact Or.inr ⟨_, (swpI_h hh).2, swpl_eq (swpI_h hh).2⟩
theorem swits_ins {ns p : Nat} {d : swD} (h : srW ns d) (hns : ns ≤ 6) (hp : p ≤ d.1) {s : Nat} (hs : s < 2 ^ 31) : swits (swins d p (nI ns)) s = if s = ns then 2 ^ 40 else swits d s := by
  have hW := srW_ins h (by omega) hp
  have r1 : ∀ k, k < p → (swins d p (nI ns)).2.1 k = d.2.1 k ∧ ∀ o, (swins d p (nI ns)).2.2 k o = d.2.2 k o := fun k hk => ⟨if_pos hk, fun o => if_pos hk⟩
  have r2 : (swins d p (nI ns)).2.1 p = nI ns ∧ ∀ o, (swins d p (nI ns)).2.2 p o = 0 := by
    refine ⟨?_, fun o => ?_⟩
    · show (if p < p then _ else if p = p then nI ns else _) = nI ns
      rw [if_neg (by omega), if_pos rfl]
    · show (if p < p then _ else if p = p then (0 : Int32) else _) = 0
      rw [if_neg (by omega), if_pos rfl]
  have r3 : ∀ k, p ≤ k → (swins d p (nI ns)).2.1 (k + 1) = d.2.1 k ∧ ∀ o, (swins d p (nI ns)).2.2 (k + 1) o = d.2.2 k o := fun k hk => by
    refine ⟨?_, fun o => ?_⟩
    · show (if k + 1 < p then _ else if k + 1 = p then _ else d.2.1 (k + 1 - 1)) = _
      rw [if_neg (by omega), if_neg (by omega)]
      rfl
    · show (if k + 1 < p then _ else if k + 1 = p then _ else d.2.2 (k + 1 - 1) o) = _
      rw [if_neg (by omega), if_neg (by omega)]
      rfl
  have hsz : (swins d p (nI ns)).1 = d.1 + 1 := rfl
  by_cases e : s = ns
  · rw [if_pos e, swits_row hW (k := p) (s := s) (by rw [hsz]; omega) (by rw [e]; exact r2.1), r2.2, r2.2, r2.2, r2.2]
    rfl
  · rw [if_neg e]
    rcases swrow_cases d s with hn | ⟨k, hk, ek⟩
    · rw [swits_none hn]
      refine swits_none (fun k hk => ?_)
      rw [hsz] at hk
      by_cases h1 : k < p
      · rw [(r1 k h1).1]
        exact hn k (by omega)
      · by_cases h2 : k = p
        · rw [h2, r2.1, nI_eq (by omega) hs]
          exact fun z => e z.symm
        · have e3 : k = (k - 1) + 1 := by omega
          rw [e3, (r3 (k - 1) (by omega)).1]
          exact hn _ (by omega)
    · rw [swits_row h hk ek]
      by_cases h1 : k < p
      · obtain ⟨a, b⟩ := r1 k h1
        rw [swits_row hW (k := k) (s := s) (by rw [hsz]; omega) (a.trans ek), b, b, b, b]
      · obtain ⟨a, b⟩ := r3 k (by omega)
        rw [swits_row hW (k := k + 1) (s := s) (by rw [hsz]; omega) (a.trans ek), b, b, b, b]
theorem swits_rm {ns p : Nat} {d : swD} (h : srW ns d) (hp : p < d.1) (s : Nat) : swits (swrm d p) s = if d.2.1 p = nI s then 0 else swits d s := by
  have hW := srW_rm h hp
  have hsz : (swrm d p).1 = d.1 - 1 := if_pos hp
  by_cases e : d.2.1 p = nI s
  · rw [if_pos e]
    refine swits_none (fun k hk => ?_)
    rw [hsz] at hk
    show ¬ d.2.1 (swsk p k) = nI s
    intro z
    have h2 : swsk p k < d.1 := by
      unfold swsk
      by_cases h1 : k < p
      · rw [if_pos h1]
        omega
      · rw [if_neg h1]
        omega
    have := h.2.2 _ _ h2 hp (z.trans e.symm)
    unfold swsk at this
    by_cases h1 : k < p
    · rw [if_pos h1] at this
      omega
    · rw [if_neg h1] at this
      omega
  · rw [if_neg e]
    rcases swrow_cases d s with hn | ⟨k, hk, ek⟩
    · rw [swits_none hn]
      refine swits_none (fun k hk => ?_)
      rw [hsz] at hk
      show ¬ d.2.1 (swsk p k) = nI s
      refine hn _ ?_
      unfold swsk
      by_cases h1 : k < p
      · rw [if_pos h1]
        omega
      · rw [if_neg h1]
        omega
    · rw [swits_row h hk ek]
      have hkp : k ≠ p := fun z => e (by rw [← z]; exact ek)
      by_cases h1 : k < p
      · have e1 : swsk p k = k := if_pos h1
        rw [swits_row hW (k := k) (s := s) (by rw [hsz]; omega) (by show d.2.1 (swsk p k) = _; rw [e1]; exact ek)]
        show swpk (d.2.2 (swsk p k) 0).toNatClampNeg (d.2.2 (swsk p k) 1).toNatClampNeg (d.2.2 (swsk p k) 2).toNatClampNeg (d.2.2 (swsk p k) 3).toNatClampNeg = _
        rw [e1]
      · have e1 : swsk p (k - 1) = k := by
          unfold swsk
          rw [if_neg (by omega)]
          omega
        rw [swits_row hW (k := k - 1) (s := s) (by rw [hsz]; omega) (by show d.2.1 (swsk p (k - 1)) = _; rw [e1]; exact ek)]
        show swpk (d.2.2 (swsk p (k - 1)) 0).toNatClampNeg (d.2.2 (swsk p (k - 1)) 1).toNatClampNeg (d.2.2 (swsk p (k - 1)) 2).toNatClampNeg (d.2.2 (swsk p (k - 1)) 3).toNatClampNeg = _
        rw [e1]
theorem swpk_set {v : Nat → Nat} {o x : Nat} (ho : o < 4) (X : Nat → Nat) (hX : ∀ i, i < 4 → X i = if i = o then x else v i) : swpk (X 0) (X 1) (X 2) (X 3) + v o * 2 ^ (10 * o) = swpk (v 0) (v 1) (v 2) (v 3) + x * 2 ^ (10 * o) := by
  rw [hX 0 (by omega), hX 1 (by omega), hX 2 (by omega), hX 3 (by omega)]
  unfold swpk
  rcases (by omega : o = 0 ∨ o = 1 ∨ o = 2 ∨ o = 3) with rfl | rfl | rfl | rfl
  · simp only [if_pos]
    rw [if_neg (by decide), if_neg (by decide), if_neg (by decide)]
    omega
  · rw [if_neg (by decide), if_pos rfl, if_neg (by decide), if_neg (by decide)]
    omega
  · rw [if_neg (by decide), if_neg (by decide), if_pos rfl, if_neg (by decide)]
    omega
  · rw [if_neg (by decide), if_neg (by decide), if_neg (by decide), if_pos rfl]
    omega
theorem swits_set {ns p o x : Nat} {d : swD} (h : srW ns d) (hp : p < d.1) (ho : o < 4) (hx : x < 2 ^ 31) (s : Nat) : (d.2.1 p = nI s → swits (swset d p o (nI x)) s + (d.2.2 p o).toNatClampNeg * 2 ^ (10 * o) = swits d s + x * 2 ^ (10 * o)) ∧ (¬ d.2.1 p = nI s → swits (swset d p o (nI x)) s = swits d s) := by
  have hW := srW_set (p := p) (o := o) h (nI_pos hx)
  refine ⟨fun e => ?_, fun e => ?_⟩
  · rw [swits_row hW (k := p) (s := s) hp e, swits_row h hp e]
    refine swpk_set (v := fun i => (d.2.2 p i).toNatClampNeg) ho (fun i => ((swset d p o (nI x)).2.2 p i).toNatClampNeg) (fun i _ => ?_)
    show (if p = p ∧ i = o then nI x else d.2.2 p i).toNatClampNeg = _
    by_cases e2 : i = o
    · rw [if_pos ⟨rfl, e2⟩, if_pos e2, nI_clamp hx]
    · rw [if_neg (fun z => e2 z.2), if_neg e2]
  · rcases swrow_cases d s with hn | ⟨k, hk, ek⟩
    · rw [swits_none hn]
      exact swits_none (fun k hk => hn k hk)
    · have hkp : k ≠ p := fun z => e (by rw [← z]; exact ek)
      rw [swits_row h hk ek, swits_row hW (k := k) (s := s) hk ek]
      have q : ∀ i, (swset d p o (nI x)).2.2 k i = d.2.2 k i := fun i => by
        show (if k = p ∧ i = o then nI x else d.2.2 k i) = _
        rw [if_neg (fun z => hkp z.1)]
      rw [q, q, q, q]
