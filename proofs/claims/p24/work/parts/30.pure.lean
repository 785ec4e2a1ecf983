/-! ===== PURE BASE: reads and writes of the states, loops, small integers ===== -/
section PB
variable {u : swU} {c c' k k' : Nat} {x : Int32} {f : Nat → Int32} {y : Int64}
theorem swI_self : (swI u c k x).1 c k = x := by
  show va_up u.1 c (upd (u.1 c) k x) c k = x
  rw [va_up_self]
  simp [upd]
theorem swI_ne (h : c' ≠ c) : (swI u c k x).1 c' = u.1 c' := va_up_ne _ _ h
theorem swI_k (h : k' ≠ k) : (swI u c k x).1 c' k' = u.1 c' k' := by
  by_cases hc : c' = c
  · subst hc
    show va_up u.1 c' (upd (u.1 c') k x) c' k' = _
    rw [va_up_self]
    simp [upd, h]
  · rw [swI_ne hc]
theorem swI_2 : (swI u c k x).2 = u.2 := rfl
theorem swI_if : (swI u c k x).1 c' k' = if c' = c ∧ k' = k then x else u.1 c' k' := by
  by_cases hc : c' = c
  · by_cases hk : k' = k
    · subst hc
      subst hk
      rw [swI_self, if_pos ⟨rfl, rfl⟩]
    · rw [swI_k hk, if_neg (fun z => hk z.2)]
  · rw [swI_ne hc, if_neg (fun z => hc z.1)]
theorem swR_self : (swR u c f).1 c = f := va_up_self _ _ _
theorem swR_ne (h : c' ≠ c) : (swR u c f).1 c' = u.1 c' := va_up_ne _ _ h
theorem swR_2 : (swR u c f).2 = u.2 := rfl
theorem swL_1 : (swL u c y).1 = u.1 := rfl
theorem swL_self : (swL u c y).2 c = y := va_up_self _ _ _
theorem swL_ne (h : c' ≠ c) : (swL u c y).2 c' = u.2 c' := va_up_ne _ _ h
end PB
theorem swlt_e {α β : Type} {x : β} {k : β → Option α} : swlt x k = k x := rfl
theorem swbd_e {α β : Type} {x : β} {k : β → Option α} : swbd (some x) k = k x := rfl
theorem swix_n {i N : Nat} (h : i < N) (hN : N < 2 ^ 31) : swix (nI i) N = true := decide_eq_true (nI_in h hN)
theorem swrd_n {α : Type} {i N : Nat} {f : Nat → Int32} {k : Int32 → Option α} (h : i < N) (hN : N < 2 ^ 31) : swrd N f (nI i) k = k (f i) := by
  unfold swrd
  rw [if_pos (swix_n h hN), nI_clamp (Nat.lt_trans h hN)]
theorem swgd_n {α : Type} {i N : Nat} {k : Option α} (h : i < N) (hN : N < 2 ^ 31) : swgd (swix (nI i) N) k = k := by
  unfold swgd
  rw [if_pos (swix_n h hN)]
theorem sw8m (a : Nat) : (8 : Int32) * nI a = nI (8 * a) := pk_mul 8 a
theorem sw4m (a : Nat) : (4 : Int32) * nI a = nI (4 * a) := pk_mul 4 a
theorem sw4r (a : Nat) : nI a * (4 : Int32) = nI (4 * a) := by
  have h : nI a * (4 : Int32) = nI (a * 4) := pk_mul a 4
  rw [h, Nat.mul_comm]
theorem swsub {a : Nat} (h : 0 < a) : nI a - 1 = nI (a - 1) := by
  obtain ⟨b, rfl⟩ : ∃ b, a = b + 1 := ⟨a - 1, by omega⟩
  rw [nI_pred]
  rfl
theorem swsubn {a : Nat} (h : 0 < a) : nI a + (-1) = nI (a - 1) := by
  rw [← swsub h, Int32.sub_eq_add_neg]
theorem sw4le {a : Nat} (h : a < 2 ^ 31) : ((4 : Int32) ≤ nI a) = (4 ≤ a) := propext (nI_leI (a := 4) (by omega) h)
theorem swleI {a b : Nat} (ha : a < 2 ^ 31) (hb : b < 2 ^ 31) : (nI a ≤ nI b) = (a ≤ b) := propext (nI_leI ha hb)
theorem swltI {a b : Nat} (ha : a < 2 ^ 31) (hb : b < 2 ^ 31) : (nI a < nI b) = (a < b) := propext (nI_ltI ha hb)
theorem sweqI {a b : Nat} (ha : a < 2 ^ 31) (hb : b < 2 ^ 31) : (nI a = nI b) = (a = b) := propext (nI_eq ha hb)
theorem sweqm {a : Nat} (ha : a < 2 ^ 31) : (nI a = -1) = False := by
  refine propext ⟨fun h => ?_, fun h => h.elim⟩
  have h2 := nI_pos ha
  rw [h] at h2
  exact h2 (by decide)
theorem sw0add (x : Int32) : x + 0 = x := Int32.add_zero x
theorem swleI0 {a : Nat} (ha : a < 2 ^ 31) : (nI a ≤ 0) = (a = 0) := by
  have h : (nI a ≤ nI 0) = (a ≤ 0) := swleI ha (by omega)
  rw [show (0 : Int32) = nI 0 from rfl, h]
  exact propext (by omega)
theorem sw1n0 : ((1 : Int32) = 0) = False := propext ⟨fun h => absurd h (by decide), fun h => h.elim⟩
theorem sw0n1 : ((0 : Int32) = 1) = False := propext ⟨fun h => absurd h (by decide), fun h => h.elim⟩
theorem sw_up {β : Type} (L : Nat → Nat → Option β) (n : Nat) (r : Option β) (hs : ∀ f k, k < n → L (f + 1) k = L f (k + 1)) (he : ∀ f, L (f + 1) n = r) (hn : n < 64) : L 64 0 = r := by
  have h : ∀ k, k ≤ n → L 64 0 = L (64 - k) k := by
    intro k
    induction k with
    | zero => intro _; rfl
    | succ k ih =>
      intro hk
      rw [ih (by omega), show 64 - k = (64 - (k + 1)) + 1 by omega]
      exact hs _ k (by omega)
  rw [h n (Nat.le_refl n), show 64 - n = (63 - n) + 1 by omega]
  exact he _
theorem sw_upS {σ β : Type} (L : Nat → Nat → σ → Option β) (I : Nat → σ → Prop) (n : Nat) (s0 : σ) (h0 : I 0 s0) (hs : ∀ f k s, k < n → I k s → ∃ s', I (k + 1) s' ∧ L (f + 1) k s = L f (k + 1) s') (hn : n < 64) : ∃ s, I n s ∧ ∃ f, L 64 0 s0 = L (f + 1) n s := by
  have h : ∀ k, k ≤ n → ∃ s, I k s ∧ L 64 0 s0 = L (64 - k) k s := by
    intro k
    induction k with
    | zero => intro _; exact ⟨s0, h0, rfl⟩
    | succ k ih =>
      intro hk
      obtain ⟨s, hI, he⟩ := ih (by omega)
      obtain ⟨s', hI', he'⟩ := hs (64 - (k + 1)) k s (by omega) hI
      refine ⟨s', hI', ?_⟩
      rw [he, show 64 - k = (64 - (k + 1)) + 1 by omega]
      exact he'
  obtain ⟨s, hI, he⟩ := h n (Nat.le_refl n)
  refine ⟨s, hI, 63 - n, ?_⟩
  rw [he, show 64 - n = (63 - n) + 1 by omega]
/-! searching, counting, all -/
def sw_fst : Nat → (Nat → Bool) → Nat
  | 0, _ => 0
  | n + 1, p => if sw_fst n p < n then sw_fst n p else if p n = true then n else n + 1
def sw_all : Nat → (Nat → Bool) → Bool
  | 0, _ => true
  | n + 1, p => sw_all n p && p n
def sw_cnt : Nat → (Nat → Bool) → Nat
  | 0, _ => 0
  | n + 1, p => sw_cnt n p + (if p n = true then 1 else 0)
def sw_sum : Nat → (Nat → Nat) → Nat
  | 0, _ => 0
  | n + 1, f => sw_sum n f + f n
theorem sw_fst_le (p : Nat → Bool) : ∀ n, sw_fst n p ≤ n := by
  intro n
  induction n with
  | zero => exact Nat.le_refl 0
  | succ n ih =>
    show (if sw_fst n p < n then sw_fst n p else if p n = true then n else n + 1) ≤ n + 1
    split
    · omega
    · split <;> omega
theorem sw_fst_no (p : Nat → Bool) : ∀ n k, k < sw_fst n p → p k = false := by
  intro n
  induction n with
  | zero => intro k hk; exact absurd hk (Nat.not_lt_zero k)
  | succ n ih =>
    intro k hk
    have hle := sw_fst_le p n
    change k < (if sw_fst n p < n then sw_fst n p else if p n = true then n else n + 1) at hk
    split at hk
    · exact ih k hk
    · split at hk
      · exact ih k (by omega)
      · rename_i h1 h2
        by_cases hkn : k = n
        · subst hkn
          exact Bool.not_eq_true _ ▸ h2
        · exact ih k (by omega)
theorem sw_fst_yes (p : Nat → Bool) : ∀ n, sw_fst n p < n → p (sw_fst n p) = true := by
  intro n
  induction n with
  | zero => intro h; exact absurd h (Nat.not_lt_zero _)
  | succ n ih =>
    intro h
    change (if sw_fst n p < n then sw_fst n p else if p n = true then n else n + 1) < n + 1 at h
    show p (if sw_fst n p < n then sw_fst n p else if p n = true then n else n + 1) = true
    by_cases h1 : sw_fst n p < n
    · rw [if_pos h1]
      exact ih h1
    · rw [if_neg h1] at h ⊢
      by_cases h2 : p n = true
      · rw [if_pos h2]
        exact h2
      · rw [if_neg h2] at h
        omega
theorem sw_fst_of {p : Nat → Bool} {n k : Nat} (hk : k ≤ n) (hno : ∀ j, j < k → p j = false) (hy : k < n → p k = true) : sw_fst n p = k := by
  have h1 := sw_fst_le p n
  have h2 := sw_fst_no p n
  have h3 := sw_fst_yes p n
  by_cases ha : sw_fst n p < k
  · have := hno _ ha
    rw [h3 (by omega)] at this
    cases this
  · by_cases hb : k < sw_fst n p
    · have := h2 k hb
      rw [hy (by omega)] at this
      cases this
    · omega
theorem sw_cnt_le (p : Nat → Bool) : ∀ n, sw_cnt n p ≤ n := by
  intro n
  induction n with
  | zero => exact Nat.le_refl 0
  | succ n ih =>
    show sw_cnt n p + (if p n = true then 1 else 0) ≤ n + 1
    split <;> omega
theorem sw_cnt_pos (p : Nat → Bool) : ∀ n, (0 < sw_cnt n p ↔ ∃ k, k < n ∧ p k = true) := by
  intro n
  induction n with
  | zero => exact ⟨fun h => absurd h (Nat.lt_irrefl 0), fun ⟨k, h, _⟩ => absurd h (Nat.not_lt_zero k)⟩
  | succ n ih =>
    show 0 < sw_cnt n p + (if p n = true then 1 else 0) ↔ _
    by_cases h : p n = true
    · rw [if_pos h]
      exact ⟨fun _ => ⟨n, by omega, h⟩, fun _ => by omega⟩
    · rw [if_neg h]
      constructor
      · intro h1
        obtain ⟨k, hk, hp⟩ := ih.mp h1
        exact ⟨k, by omega, hp⟩
      · rintro ⟨k, hk, hp⟩
        have : k ≠ n := fun z => h (z ▸ hp)
        exact ih.mpr ⟨k, by omega, hp⟩
theorem sw_sum_pos (f : Nat → Nat) : ∀ n, (0 < sw_sum n f ↔ ∃ k, k < n ∧ 0 < f k) := by
  intro n
  induction n with
  | zero => exact ⟨fun h => absurd h (Nat.lt_irrefl 0), fun ⟨k, h, _⟩ => absurd h (Nat.not_lt_zero k)⟩
  | succ n ih =>
    show 0 < sw_sum n f + f n ↔ _
    by_cases h : 0 < f n
    · exact ⟨fun _ => ⟨n, by omega, h⟩, fun _ => by omega⟩
    · constructor
      · intro h1
        obtain ⟨k, hk, hp⟩ := ih.mp (by omega)
        exact ⟨k, by omega, hp⟩
      · rintro ⟨k, hk, hp⟩
        have : k ≠ n := fun z => h (z ▸ hp)
        have := ih.mpr ⟨k, by omega, hp⟩
        omega
theorem sw_sum_le (f : Nat → Nat) (m : Nat) (h : ∀ k, f k ≤ m) : ∀ n, sw_sum n f ≤ n * m := by
  intro n
  induction n with
  | zero => exact Nat.zero_le _
  | succ n ih =>
    show sw_sum n f + f n ≤ (n + 1) * m
    have := h n
    rw [Nat.succ_mul]
    omega
theorem sw_all_iff (p : Nat → Bool) : ∀ n, (sw_all n p = true ↔ ∀ k, k < n → p k = true) := by
  intro n
  induction n with
  | zero => exact ⟨fun _ k h => absurd h (Nat.not_lt_zero k), fun _ => rfl⟩
  | succ n ih =>
    show (sw_all n p && p n) = true ↔ _
    rw [Bool.and_eq_true, ih]
    constructor
    · rintro ⟨h1, h2⟩ k hk
      by_cases hkn : k = n
      · exact hkn ▸ h2
      · exact h1 k (by omega)
    · exact fun h => ⟨fun k hk => h k (by omega), h n (by omega)⟩
/-! ===== DECKS, apart from how they lie ===== -/
abbrev swD : Type := Nat × (Nat → Int32) × (Nat → Nat → Int32)
def swpl (d : swD) (s : Int32) : Nat := sw_fst d.1 (fun k => decide (d.2.1 k = s))
def swpI (d : swD) (s : Int32) : Int32 := if swpl d s < d.1 then nI (swpl d s) else -1
def swhas (d : swD) (s : Int32) : Bool := decide (swpl d s < d.1)
def swval (d : swD) (s : Int32) (o : Nat) : Int32 := d.2.2 (swpl d s) o
def swVO (d : swD) (s : Int32) (o : Nat) : Int32 := if swhas d s = true then swval d s o else -1
def swalk (d e : swD) (s : Int32) : Bool := sw_all 4 (fun o => decide (swval d s o = swval e s o))
def swcD (u : swU) (c : Nat) (d : swD) : Prop := d.1 ≤ 8 ∧ u.1 c 2 = nI d.1 ∧ (∀ k, k < d.1 → u.1 (c + 100) k = d.2.1 k) ∧ (∀ k, k < d.1 → ∀ o, o < 4 → u.1 (c + 200) (4 * k + o) = d.2.2 k o)
theorem swpl_ne {d : swD} {s : Int32} {k : Nat} (h : k < swpl d s) : (d.2.1 k = s) = False := by
  have := sw_fst_no _ _ k h
  exact propext ⟨fun z => absurd z (of_decide_eq_false this), fun z => z.elim⟩
theorem swpl_eq {d : swD} {s : Int32} (h : swpl d s < d.1) : d.2.1 (swpl d s) = s := of_decide_eq_true (sw_fst_yes _ _ h)
theorem swpl_le (d : swD) (s : Int32) : swpl d s ≤ d.1 := sw_fst_le _ _
theorem swpI_m {d : swD} {s : Int32} (h8 : d.1 ≤ 8) : (swpI d s = -1) = (swhas d s = false) := by
  unfold swpI swhas
  by_cases h : swpl d s < d.1
  · rw [if_pos h, decide_eq_true h, sweqm (by omega)]
    exact propext ⟨fun z => z.elim, fun z => by cases z⟩
  · rw [if_neg h, decide_eq_false h]
    exact propext ⟨fun _ => rfl, fun _ => rfl⟩
theorem swpI_h {d : swD} {s : Int32} (h : swhas d s = true) : swpI d s = nI (swpl d s) ∧ swpl d s < d.1 := by
  have h1 := of_decide_eq_true h
  exact ⟨if_pos h1, h1⟩
/-! the model's reads -/
