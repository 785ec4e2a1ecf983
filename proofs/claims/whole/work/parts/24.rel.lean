/-! ===== THE RELATION of the two states, and the calls that make no version ===== -/
def sr1 (nv : Nat) (u w : swU) : Prop := 1 ≤ nv ∧ nv ≤ 40 ∧ u.1 0 6 = nI nv ∧ w.1 0 1 = nI nv
def sr2 (nb : Nat) (u w : swU) : Prop := 1 ≤ nb ∧ nb ≤ 6 ∧ u.1 0 7 = nI nb ∧ w.1 0 9 = nI nb
def sr3 (ns : Nat) (u w : swU) : Prop := ns ≤ 20 ∧ u.1 0 8 = nI ns ∧ w.1 0 8 = nI ns
def sr4 (nv nb : Nat) (hd : Nat → Nat) (u w : swU) : Prop := ∀ b, b < nb → hd b < nv ∧ u.1 1 b = nI (hd b) ∧ w.1 10 b = nI (hd b)
def sr5 (nv : Nat) (sh : Nat → Int32) (u w : swU) : Prop := ∀ b, b < 6 → u.1 2 b = sh b ∧ w.1 11 b = sh b ∧ (sh b = -1 ∨ ∃ v, v < nv ∧ sh b = nI v)
def sr6 (nv : Nat) (mo cm ot : Nat → Int32) (am : Nat → Nat) (u w : swU) : Prop := ∀ v, v < nv → u.1 (100 + v) 1 = mo v ∧ u.1 (100 + v) 2 = cm v ∧ u.1 (100 + v) 3 = ot v ∧ w.1 2 v = mo v ∧ w.1 3 v = cm v ∧ w.1 4 v = ot v ∧ u.2 (100 + v) = lN (am v)
def srP (x : Int32) (v : Nat) : Prop := x = -1 ∨ ∃ c, c < v ∧ x = nI c
def srA (nv : Nat) (cm ot : Nat → Int32) (am : Nat → Nat) : Prop := ∀ v, v < nv → srP (cm v) v ∧ srP (ot v) v ∧ ∀ k, (am v).testBit k = true ↔ (k = v ∨ (∃ c, c < v ∧ cm v = nI c ∧ (am c).testBit k = true) ∨ ∃ c, c < v ∧ ot v = nI c ∧ (am c).testBit k = true)
def srW (ns : Nat) (d : swD) : Prop := swnn d ∧ (∀ k, k < d.1 → ∃ s, s < ns ∧ d.2.1 k = nI s) ∧ ∀ j k, j < d.1 → k < d.1 → d.2.1 j = d.2.1 k → j = k
def sr7 (nv ns : Nat) (dk : Nat → swD) (u w : swU) : Prop := ∀ v, v < nv → swcD u (200 + v) (dk v) ∧ swmD w v (dk v) ∧ srW ns (dk v)
def sr8 (E : swEv) (u w : swU) : Prop := swcE u E ∧ swmE w E ∧ E.2.2.2.2 ≤ 999
def swRl (u w : swU) : Prop := ∃ (nv nb ns : Nat) (hd : Nat → Nat) (sh mo cm ot : Nat → Int32) (am : Nat → Nat) (dk : Nat → swD) (E : swEv), sr1 nv u w ∧ sr2 nb u w ∧ sr3 ns u w ∧ sr4 nv nb hd u w ∧ sr5 nv sh u w ∧ sr6 nv mo cm ot am u w ∧ srA nv cm ot am ∧ sr7 nv ns dk u w ∧ sr8 E u w
/-- the model's state, its scratch apart -/
def swAg (w w' : swU) : Prop := (∀ c, 1 ≤ c → c ≤ 20 → w'.1 c = w.1 c) ∧ w'.1 0 1 = w.1 0 1 ∧ w'.1 0 8 = w.1 0 8 ∧ w'.1 0 9 = w.1 0 9 ∧ w'.1 0 12 = w.1 0 12 ∧ w'.1 0 17 = w.1 0 17 ∧ w'.1 0 21 = w.1 0 21
theorem swAg.rfl' (w : swU) : swAg w w := ⟨fun _ _ _ => rfl, rfl, rfl, rfl, rfl, rfl, rfl⟩
theorem swAg.tr {w w' w'' : swU} (h : swAg w w') (h2 : swAg w' w'') : swAg w w'' := by
  obtain ⟨a0, a1, a2, a3, a4, a5, a6⟩ := h
  obtain ⟨b0, b1, b2, b3, b4, b5, b6⟩ := h2
  exact ⟨fun c h1 h2 => (b0 c h1 h2).trans (a0 c h1 h2), b1.trans a1, b2.trans a2, b3.trans a3, b4.trans a4, b5.trans a5, b6.trans a6⟩
theorem swAg.t (w : swU) (x : Int32) : swAg w (swI w 0 0 x) := ⟨fun c h1 _ => swI_ne (by omega), swI_k (by omega), swI_k (by omega), swI_k (by omega), swI_k (by omega), swI_k (by omega), swI_k (by omega)⟩
theorem sr1.ag {nv : Nat} {u w w' : swU} (h : sr1 nv u w) (a : swAg w w') : sr1 nv u w' := ⟨h.1, h.2.1, h.2.2.1, a.2.1.trans h.2.2.2⟩
theorem sr2.ag {nb : Nat} {u w w' : swU} (h : sr2 nb u w) (a : swAg w w') : sr2 nb u w' := ⟨h.1, h.2.1, h.2.2.1, a.2.2.2.1.trans h.2.2.2⟩
theorem sr3.ag {ns : Nat} {u w w' : swU} (h : sr3 ns u w) (a : swAg w w') : sr3 ns u w' := ⟨h.1, h.2.1, a.2.2.1.trans h.2.2⟩
theorem sr4.ag {nv nb : Nat} {hd : Nat → Nat} {u w w' : swU} (h : sr4 nv nb hd u w) (a : swAg w w') : sr4 nv nb hd u w' := fun b hb => by
  rw [a.1 10 (by omega) (by omega)]
  exact h b hb
theorem sr5.ag {nv : Nat} {sh : Nat → Int32} {u w w' : swU} (h : sr5 nv sh u w) (a : swAg w w') : sr5 nv sh u w' := fun b hb => by
  rw [a.1 11 (by omega) (by omega)]
  exact h b hb
theorem sr6.ag {nv : Nat} {mo cm ot : Nat → Int32} {am : Nat → Nat} {u w w' : swU} (h : sr6 nv mo cm ot am u w) (a : swAg w w') : sr6 nv mo cm ot am u w' := fun v hv => by
  rw [a.1 2 (by omega) (by omega), a.1 3 (by omega) (by omega), a.1 4 (by omega) (by omega)]
  exact h v hv
theorem swmD_ag {w w' : swU} {v : Nat} {d : swD} (h : swmD w v d) (a : swAg w w') : swmD w' v d := swmD_fe h (a.1 5 (by omega) (by omega)) (a.1 6 (by omega) (by omega)) (a.1 7 (by omega) (by omega))
theorem swmE_ag {w w' : swU} {E : swEv} (h : swmE w E) (a : swAg w w') : swmE w' E := swmE_fe h a.2.2.2.2.1 a.2.2.2.2.2.1 a.2.2.2.2.2.2 (fun c h1 h2 => a.1 c (by omega) h2)
theorem sr7.ag {nv ns : Nat} {dk : Nat → swD} {u w w' : swU} (h : sr7 nv ns dk u w) (a : swAg w w') : sr7 nv ns dk u w' := fun v hv => ⟨(h v hv).1, swmD_ag (h v hv).2.1 a, (h v hv).2.2⟩
theorem sr8.ag {E : swEv} {u w w' : swU} (h : sr8 E u w) (a : swAg w w') : sr8 E u w' := ⟨h.1, swmE_ag h.2.1 a, h.2.2⟩
theorem swRl.ag {u w w' : swU} (h : swRl u w) (a : swAg w w') : swRl u w' := by
  obtain ⟨nv, nb, ns, hd, sh, mo, cm, ot, am, dk, E, h1, h2, h3, h4, h5, h6, hA, h7, h8⟩ := h
  exact ⟨nv, nb, ns, hd, sh, mo, cm, ot, am, dk, E, h1.ag a, h2.ag a, h3.ag a, h4.ag a, h5.ag a, h6.ag a, hA, h7.ag a, h8.ag a⟩
/-- both calls answer, alike -/
def swOM (al : List (Nat × Int32)) (X : Option (Nat × Int32 × swU)) (Y : Option (Int32 × swU)) : Prop := ∃ c r u' b w', X = some (c, r, u') ∧ Y = some (b, w') ∧ (c, w'.1 0 0) ∈ al ∧ (c = 0 → r = b) ∧ swRl u' w'
theorem swOM.mk {al : List (Nat × Int32)} {X : Option (Nat × Int32 × swU)} {Y : Option (Int32 × swU)} {c : Nat} {r : Int32} {u' : swU} {b t : Int32} {w' : swU} (hX : X = some (c, r, u')) (hY : Y = some (b, w')) (ht : w'.1 0 0 = t) (hal : (c, t) ∈ al) (hr : c = 0 → r = b) (hR : swRl u' w') : swOM al X Y := ⟨c, r, u', b, w', hX, hY, ht ▸ hal, hr, hR⟩
/-- a refusal, before anything is done -/
theorem swOM.no {al : List (Nat × Int32)} {X : Option (Nat × Int32 × swU)} {Y : Option (Int32 × swU)} {u w : swU} (h : swRl u w) {c : Nat} {t : Int32} (hX : X = some (c + 1, 0, u)) (hY : Y = some (0, swI w 0 0 t)) (hal : (c + 1, t) ∈ al) : swOM al X Y := swOM.mk hX hY swI_self hal (fun z => by cases z) (h.ag (swAg.t w t))
/-- an answer, and nothing done -/
theorem swOM.yes {al : List (Nat × Int32)} {X : Option (Nat × Int32 × swU)} {Y : Option (Int32 × swU)} {u w : swU} (h : swRl u w) {r : Int32} (hX : X = some (0, r, u)) (hY : Y = some (r, swI w 0 0 0)) (hal : (0, 0) ∈ al) : swOM al X Y := swOM.mk hX hY swI_self hal (fun _ => rfl) (h.ag (swAg.t w 0))
/-! numbers in a range -/
theorem sw_lt0 {x : Int32} (h : x < 0) {n : Nat} (hn : n < 2 ^ 31) : ¬ x = nI n := fun z => nI_pos hn (z ▸ h)
theorem sw_out {x : Int32} {n : Nat} (hn : n < 2 ^ 31) (h : x < 0 ∨ nI n ≤ x) : (if x < 0 then some (1 : Nat) else if x < nI n then some 0 else some 1) = some 1 := by
  rcases h with h | h
  · rw [if_pos h]
  · by_cases h0 : x < 0
    · rw [if_pos h0]
    · rw [if_neg h0, if_neg (Int32.not_lt.mpr h)]
theorem sw_inn {j n : Nat} (hn : n < 2 ^ 31) (h : j < n) : (if nI j < 0 then some (1 : Nat) else if nI j < nI n then some 0 else some 1) = some 0 := by
  rw [if_neg (nI_pos (by omega)), if_pos ((nI_ltI (by omega) hn).mpr h)]
theorem pm_in_no {x : Int32} {n : Nat} (hn : n < 2 ^ 31) (h : x < 0 ∨ nI n ≤ x) : mx_in x 0 (nI n - 1) = some false := by
  unfold mx_in
  by_cases h0 : x < 0
  · rw [if_pos h0]
  · rw [if_neg h0]
    rcases h with h | h
    · exact absurd h h0
    · have hx : nI n - 1 < x := by
        obtain ⟨m, hm, rfl⟩ := nI_of h0
        have hle : n ≤ m := (nI_leI hn hm).mp h
        by_cases hz : n = 0
        · subst hz
          have : nI 0 - 1 = -1 := rfl
          rw [this]
          exact Int32.lt_of_lt_of_le (show (-1 : Int32) < 0 by decide) (Int32.not_lt.mp h0)
        · rw [swsub (by omega)]
          exact (nI_ltI (by omega) hm).mpr (by omega)
      rw [if_pos hx]
theorem pm_in_yes {j n : Nat} (hn : n < 2 ^ 31) (h : j < n) : mx_in (nI j) 0 (nI n - 1) = some true := by
  unfold mx_in
  rw [if_neg (nI_pos (by omega)), swsub (by omega), if_neg (by rw [nI_ltI (by omega) (by omega)]; omega)]
theorem sw_cas (x : Int32) {n : Nat} (hn : n < 2 ^ 31) : (x < 0 ∨ nI n ≤ x) ∨ ∃ j : Nat, j < n ∧ x = nI j := by
  rcases pk_ix x hn with h | h | h
  · exact Or.inl (Or.inl h)
  · exact Or.inl (Or.inr h)
  · exact Or.inr h
section CK
variable {u w : swU} {nv nb ns : Nat}
theorem ckV_n (h : sr1 nv u w) {x : Int32} (hx : x < 0 ∨ nI nv ≤ x) : xx5_checkVersion u x = some 1 ∧ mx_isVersion w x = some false := by
  obtain ⟨h1, h2, h3, h4⟩ := h
  unfold xx5_checkVersion mx_isVersion
  rw [h3, h4, sw_out (by omega) hx, pm_in_no (by omega) hx]
  exact ⟨rfl, rfl⟩
theorem ckV_y (h : sr1 nv u w) {j : Nat} (hx : j < nv) : xx5_checkVersion u (nI j) = some 0 ∧ mx_isVersion w (nI j) = some true := by
  obtain ⟨h1, h2, h3, h4⟩ := h
  unfold xx5_checkVersion mx_isVersion
  rw [h3, h4, sw_inn (by omega) hx, pm_in_yes (by omega) hx]
  exact ⟨rfl, rfl⟩
theorem ckB_n (h : sr2 nb u w) {x : Int32} (hx : x < 0 ∨ nI nb ≤ x) : xx5_checkBranch u x = some 1 ∧ mx_isBranch w x = some false := by
  obtain ⟨h1, h2, h3, h4⟩ := h
  unfold xx5_checkBranch mx_isBranch
  rw [h3, h4, sw_out (by omega) hx, pm_in_no (by omega) hx]
  exact ⟨rfl, rfl⟩
theorem ckB_y (h : sr2 nb u w) {j : Nat} (hx : j < nb) : xx5_checkBranch u (nI j) = some 0 ∧ mx_isBranch w (nI j) = some true := by
  obtain ⟨h1, h2, h3, h4⟩ := h
  unfold xx5_checkBranch mx_isBranch
  rw [h3, h4, sw_inn (by omega) hx, pm_in_yes (by omega) hx]
  exact ⟨rfl, rfl⟩
theorem ckS_n (h : sr3 ns u w) {x : Int32} (hx : x < 0 ∨ nI ns ≤ x) : xx5_checkSlide u x = some 1 ∧ mx_isSlide w x = some false := by
  obtain ⟨h1, h3, h4⟩ := h
  unfold xx5_checkSlide mx_isSlide
  rw [h3, h4, sw_out (by omega) hx, pm_in_no (by omega) hx]
  exact ⟨rfl, rfl⟩
theorem ckS_y (h : sr3 ns u w) {j : Nat} (hx : j < ns) : xx5_checkSlide u (nI j) = some 0 ∧ mx_isSlide w (nI j) = some true := by
  obtain ⟨h1, h3, h4⟩ := h
  unfold xx5_checkSlide mx_isSlide
  rw [h3, h4, sw_inn (by omega) hx, pm_in_yes (by omega) hx]
  exact ⟨rfl, rfl⟩
theorem ckO_n {x : Int32} (hx : x < 0 ∨ nI 4 ≤ x) : xx5_checkObject u x = some 1 ∧ mx_isObject x = some false := ⟨sw_out (n := 4) (by omega) hx, by
  have h := pm_in_no (n := 4) (by omega) hx
  unfold mx_isObject
  rw [show (3 : Int32) = nI 4 - 1 from rfl, h]
  rfl⟩
theorem ckO_y {j : Nat} (hx : j < 4) : xx5_checkObject u (nI j) = some 0 ∧ mx_isObject (nI j) = some true := ⟨sw_inn (n := 4) (by omega) hx, by
  have h := pm_in_yes (n := 4) (by omega) hx
  unfold mx_isObject
  rw [show (3 : Int32) = nI 4 - 1 from rfl, h]
  rfl⟩
theorem ckR_n {E : swEv} (h : sr8 E u w) {x : Int32} (hx : x < 0 ∨ nI E.1 ≤ x) : xx5_checkRule u x = some 1 ∧ mx_in x 0 (w.1 0 12 - 1) = some false := by
  obtain ⟨⟨h8, h3, -⟩, ⟨-, h4, -⟩, -⟩ := h
  unfold xx5_checkRule
  rw [h3, h4, sw_out (by omega) hx, pm_in_no (by omega) hx]
  exact ⟨rfl, rfl⟩
theorem ckR_y {E : swEv} (h : sr8 E u w) {j : Nat} (hx : j < E.1) : xx5_checkRule u (nI j) = some 0 ∧ mx_in (nI j) 0 (w.1 0 12 - 1) = some true := by
  obtain ⟨⟨h8, h3, -⟩, ⟨-, h4, -⟩, -⟩ := h
  unfold xx5_checkRule
  rw [h3, h4, sw_inn (by omega) hx, pm_in_yes (by omega) hx]
  exact ⟨rfl, rfl⟩
end CK
theorem swck_1 {α : Type} {ex : Nat → Option α} {k : Option α} {n : Nat} : swck (some (n + 1)) ex k = ex (n + 1) := rfl
theorem swck_0 {α : Type} {ex : Nat → Option α} {k : Option α} : swck (some 0) ex k = k := rfl
theorem swB_f : ((swB false) = 0) = True := by simp
theorem swB_t : ((swB true) = 0) = False := sw1n0
theorem op_head {u w : swU} (h : swRl u w) (x : Int32) : swOM [(0, 0), (1, 1)] (xx5_head u x) (mx_head w x) := by
  have hR := h
  obtain ⟨nv, nb, ns, hd, sh, mo, cm, ot, am, dk, E, h1, h2, h3, h4, h5, h6, hA, h7, h8⟩ := h
  unfold xx5_head mx_head
  rcases sw_cas x (n := nb) (by have := h2.2.1; omega) with hx | ⟨b, hb, rfl⟩
  · obtain ⟨e1, e2⟩ := ckB_n h2 hx
    rw [e1, e2]
    exact swOM.no hR rfl rfl (by simp)
  · obtain ⟨e1, e2⟩ := ckB_y h2 hb
    have hb6 := h2.2.1
    obtain ⟨hh, c1, c2⟩ := h4 b hb
    rw [e1, e2]
    refine swOM.yes hR (r := nI (hd b)) ?_ ?_ (by simp)
    · simp (disch := omega) only [swlt_e, swbd_e, swrd_n, swgd_n, nI_clamp, sw8m, sw4m, sw4r, nI_add, nI_1, swsub, swsubn, sw4le, swleI, swltI, sweqI, sweqm, sw0add, if_pos, if_neg, if_true, if_false, sw1n0, sw0n1, eq_self, ↓reduceIte, swck_0, c1]
    · simp (disch := omega) only [swlt_e, swbd_e, swrd_n, swgd_n, nI_clamp, sw8m, sw4m, sw4r, nI_add, nI_1, swsub, swsubn, sw4le, swleI, swltI, sweqI, sweqm, sw0add, if_pos, if_neg, if_true, if_false, sw1n0, sw0n1, eq_self, ↓reduceIte, swI_ne, c2]
theorem op_branch {u w : swU} (h : swRl u w) (x : Int32) : swOM [(0, 0), (1, 1), (3, 2)] (xx5_branch u x) (mx_branch w x) := by
  have hR := h
  obtain ⟨nv, nb, ns, hd, sh, mo, cm, ot, am, dk, E, h1, h2, h3, h4, h5, h6, hA, h7, h8⟩ := h
  unfold xx5_branch mx_branch
  rcases sw_cas x (n := nv) (by have := h1.2.1; omega) with hx | ⟨v, hv, rfl⟩
  · obtain ⟨e1, e2⟩ := ckV_n h1 hx
    rw [e1, e2]
    exact swOM.no hR rfl rfl (by simp)
  · obtain ⟨e1, e2⟩ := ckV_y h1 hv
    rw [e1, e2]
    have h40 := h1.2.1
    obtain ⟨b1, b6, cu, cw⟩ := h2
    by_cases hn : nb = 6
    · subst hn
      refine swOM.no hR (c := 2) (t := 2) ?_ ?_ (by simp)
      · rw [swck_0, cu]
        rfl
      · simp (disch := omega) only [swlt_e, swbd_e, swrd_n, swgd_n, nI_clamp, sw8m, sw4m, sw4r, nI_add, nI_1, swsub, swsubn, sw4le, swleI, swltI, sweqI, sweqm, sw0add, if_pos, if_neg, if_true, if_false, sw1n0, sw0n1, eq_self, ↓reduceIte, cw]
        rfl
    · have hlt : (nI nb < 6) = True := by
        rw [show (6 : Int32) = nI 6 from rfl, swltI (by omega) (by omega)]
        exact propext ⟨fun _ => trivial, fun _ => by omega⟩
      have hne : (nI nb = 6) = False := by
        rw [show (6 : Int32) = nI 6 from rfl, sweqI (by omega) (by omega)]
        exact propext ⟨fun z => absurd z hn, fun z => z.elim⟩
      refine swOM.mk (c := 0) (r := nI nb) (u' := swI (swI u 1 nb (nI v)) 0 7 (nI (nb + 1))) (b := nI nb) (w' := swI (swI (swI w 0 0 0) 10 nb (nI v)) 0 9 (nI (nb + 1))) (t := 0) ?_ ?_ ?_ (by simp) (fun _ => rfl) ?_
      · simp (disch := omega) only [swlt_e, swbd_e, swrd_n, swgd_n, nI_clamp, sw8m, sw4m, sw4r, nI_add, nI_1, swsub, swsubn, sw4le, swleI, swltI, sweqI, sweqm, sw0add, if_pos, if_neg, if_true, if_false, sw1n0, sw0n1, eq_self, ↓reduceIte, swck_0, cu, hlt]
      · simp (disch := omega) only [swlt_e, swbd_e, swrd_n, swgd_n, nI_clamp, sw8m, sw4m, sw4r, nI_add, nI_1, swsub, swsubn, sw4le, swleI, swltI, sweqI, sweqm, sw0add, if_pos, if_neg, if_true, if_false, sw1n0, sw0n1, eq_self, ↓reduceIte, cw, hne, swI_k, swI_ne, swI_self, Nat.add_sub_cancel]
      · simp (disch := omega) only [swlt_e, swbd_e, swrd_n, swgd_n, nI_clamp, sw8m, sw4m, sw4r, nI_add, nI_1, swsub, swsubn, sw4le, swleI, swltI, sweqI, sweqm, sw0add, if_pos, if_neg, if_true, if_false, sw1n0, sw0n1, eq_self, ↓reduceIte, swI_k, swI_ne, swI_self]
      · refine ⟨nv, nb + 1, ns, fun b => if b = nb then v else hd b, sh, mo, cm, ot, am, dk, E, ?_, ?_, ?_, ?_, ?_, ?_, hA, ?_, ?_⟩
        · obtain ⟨a1, a2, a3, a4⟩ := h1
          exact ⟨a1, a2, by simp (disch := omega) only [swlt_e, swbd_e, swrd_n, swgd_n, nI_clamp, sw8m, sw4m, sw4r, nI_add, nI_1, swsub, swsubn, sw4le, swleI, swltI, sweqI, sweqm, sw0add, if_pos, if_neg, if_true, if_false, sw1n0, sw0n1, eq_self, ↓reduceIte, swI_k, swI_ne, a3], by simp (disch := omega) only [swlt_e, swbd_e, swrd_n, swgd_n, nI_clamp, sw8m, sw4m, sw4r, nI_add, nI_1, swsub, swsubn, sw4le, swleI, swltI, sweqI, sweqm, sw0add, if_pos, if_neg, if_true, if_false, sw1n0, sw0n1, eq_self, ↓reduceIte, swI_k, swI_ne, a4]⟩
        · exact ⟨by omega, by omega, swI_self, swI_self⟩
        · obtain ⟨a1, a2, a3⟩ := h3
          exact ⟨a1, by simp (disch := omega) only [swlt_e, swbd_e, swrd_n, swgd_n, nI_clamp, sw8m, sw4m, sw4r, nI_add, nI_1, swsub, swsubn, sw4le, swleI, swltI, sweqI, sweqm, sw0add, if_pos, if_neg, if_true, if_false, sw1n0, sw0n1, eq_self, ↓reduceIte, swI_k, swI_ne, a2], by simp (disch := omega) only [swlt_e, swbd_e, swrd_n, swgd_n, nI_clamp, sw8m, sw4m, sw4r, nI_add, nI_1, swsub, swsubn, sw4le, swleI, swltI, sweqI, sweqm, sw0add, if_pos, if_neg, if_true, if_false, sw1n0, sw0n1, eq_self, ↓reduceIte, swI_k, swI_ne, a3]⟩
        · intro b hb
          by_cases e : b = nb
          · subst e
            exact ⟨by simp (disch := omega) only [swlt_e, swbd_e, swrd_n, swgd_n, nI_clamp, sw8m, sw4m, sw4r, nI_add, nI_1, swsub, swsubn, sw4le, swleI, swltI, sweqI, sweqm, sw0add, if_pos, if_neg, if_true, if_false, sw1n0, sw0n1, eq_self, ↓reduceIte, hv], by simp (disch := omega) only [swlt_e, swbd_e, swrd_n, swgd_n, nI_clamp, sw8m, sw4m, sw4r, nI_add, nI_1, swsub, swsubn, sw4le, swleI, swltI, sweqI, sweqm, sw0add, if_pos, if_neg, if_true, if_false, sw1n0, sw0n1, eq_self, ↓reduceIte, swI_k, swI_ne, swI_self], by simp (disch := omega) only [swlt_e, swbd_e, swrd_n, swgd_n, nI_clamp, sw8m, sw4m, sw4r, nI_add, nI_1, swsub, swsubn, sw4le, swleI, swltI, sweqI, sweqm, sw0add, if_pos, if_neg, if_true, if_false, sw1n0, sw0n1, eq_self, ↓reduceIte, swI_k, swI_ne, swI_self]⟩
          · obtain ⟨a1, a2, a3⟩ := h4 b (by omega)
            exact ⟨by simp (disch := omega) only [swlt_e, swbd_e, swrd_n, swgd_n, nI_clamp, sw8m, sw4m, sw4r, nI_add, nI_1, swsub, swsubn, sw4le, swleI, swltI, sweqI, sweqm, sw0add, if_pos, if_neg, if_true, if_false, sw1n0, sw0n1, eq_self, ↓reduceIte, e, a1], by simp (disch := omega) only [swlt_e, swbd_e, swrd_n, swgd_n, nI_clamp, sw8m, sw4m, sw4r, nI_add, nI_1, swsub, swsubn, sw4le, swleI, swltI, sweqI, sweqm, sw0add, if_pos, if_neg, if_true, if_false, sw1n0, sw0n1, eq_self, ↓reduceIte, e, swI_k, swI_ne, a2], by simp (disch := omega) only [swlt_e, swbd_e, swrd_n, swgd_n, nI_clamp, sw8m, sw4m, sw4r, nI_add, nI_1, swsub, swsubn, sw4le, swleI, swltI, sweqI, sweqm, sw0add, if_pos, if_neg, if_true, if_false, sw1n0, sw0n1, eq_self, ↓reduceIte, e, swI_k, swI_ne, a3]⟩
        · intro b hb
          obtain ⟨a1, a2, a3⟩ := h5 b hb
          exact ⟨by simp (disch := omega) only [swlt_e, swbd_e, swrd_n, swgd_n, nI_clamp, sw8m, sw4m, sw4r, nI_add, nI_1, swsub, swsubn, sw4le, swleI, swltI, sweqI, sweqm, sw0add, if_pos, if_neg, if_true, if_false, sw1n0, sw0n1, eq_self, ↓reduceIte, swI_k, swI_ne, a1], by simp (disch := omega) only [swlt_e, swbd_e, swrd_n, swgd_n, nI_clamp, sw8m, sw4m, sw4r, nI_add, nI_1, swsub, swsubn, sw4le, swleI, swltI, sweqI, sweqm, sw0add, if_pos, if_neg, if_true, if_false, sw1n0, sw0n1, eq_self, ↓reduceIte, swI_k, swI_ne, a2], a3⟩
        · intro q hq
          obtain ⟨a1, a2, a3, a4, a5, a6, a7⟩ := h6 q hq
          exact ⟨by simp (disch := omega) only [swlt_e, swbd_e, swrd_n, swgd_n, nI_clamp, sw8m, sw4m, sw4r, nI_add, nI_1, swsub, swsubn, sw4le, swleI, swltI, sweqI, sweqm, sw0add, if_pos, if_neg, if_true, if_false, sw1n0, sw0n1, eq_self, ↓reduceIte, swI_ne, a1], by simp (disch := omega) only [swlt_e, swbd_e, swrd_n, swgd_n, nI_clamp, sw8m, sw4m, sw4r, nI_add, nI_1, swsub, swsubn, sw4le, swleI, swltI, sweqI, sweqm, sw0add, if_pos, if_neg, if_true, if_false, sw1n0, sw0n1, eq_self, ↓reduceIte, swI_ne, a2], by simp (disch := omega) only [swlt_e, swbd_e, swrd_n, swgd_n, nI_clamp, sw8m, sw4m, sw4r, nI_add, nI_1, swsub, swsubn, sw4le, swleI, swltI, sweqI, sweqm, sw0add, if_pos, if_neg, if_true, if_false, sw1n0, sw0n1, eq_self, ↓reduceIte, swI_ne, a3], by simp (disch := omega) only [swlt_e, swbd_e, swrd_n, swgd_n, nI_clamp, sw8m, sw4m, sw4r, nI_add, nI_1, swsub, swsubn, sw4le, swleI, swltI, sweqI, sweqm, sw0add, if_pos, if_neg, if_true, if_false, sw1n0, sw0n1, eq_self, ↓reduceIte, swI_ne, a4], by simp (disch := omega) only [swlt_e, swbd_e, swrd_n, swgd_n, nI_clamp, sw8m, sw4m, sw4r, nI_add, nI_1, swsub, swsubn, sw4le, swleI, swltI, sweqI, sweqm, sw0add, if_pos, if_neg, if_true, if_false, sw1n0, sw0n1, eq_self, ↓reduceIte, swI_ne, a5], by simp (disch := omega) only [swlt_e, swbd_e, swrd_n, swgd_n, nI_clamp, sw8m, sw4m, sw4r, nI_add, nI_1, swsub, swsubn, sw4le, swleI, swltI, sweqI, sweqm, sw0add, if_pos, if_neg, if_true, if_false, sw1n0, sw0n1, eq_self, ↓reduceIte, swI_ne, a6], a7⟩
        · intro q hq
          obtain ⟨a1, a2, a3⟩ := h7 q hq
          exact ⟨swcD_fr a1 (by simp (disch := omega) only [swlt_e, swbd_e, swrd_n, swgd_n, nI_clamp, sw8m, sw4m, sw4r, nI_add, nI_1, swsub, swsubn, sw4le, swleI, swltI, sweqI, sweqm, sw0add, if_pos, if_neg, if_true, if_false, sw1n0, sw0n1, eq_self, ↓reduceIte, swI_ne]) (fun _ _ => by simp (disch := omega) only [swlt_e, swbd_e, swrd_n, swgd_n, nI_clamp, sw8m, sw4m, sw4r, nI_add, nI_1, swsub, swsubn, sw4le, swleI, swltI, sweqI, sweqm, sw0add, if_pos, if_neg, if_true, if_false, sw1n0, sw0n1, eq_self, ↓reduceIte, swI_ne]) (fun _ _ _ _ => by simp (disch := omega) only [swlt_e, swbd_e, swrd_n, swgd_n, nI_clamp, sw8m, sw4m, sw4r, nI_add, nI_1, swsub, swsubn, sw4le, swleI, swltI, sweqI, sweqm, sw0add, if_pos, if_neg, if_true, if_false, sw1n0, sw0n1, eq_self, ↓reduceIte, swI_ne]), swmD_fe a2 (by simp (disch := omega) only [swlt_e, swbd_e, swrd_n, swgd_n, nI_clamp, sw8m, sw4m, sw4r, nI_add, nI_1, swsub, swsubn, sw4le, swleI, swltI, sweqI, sweqm, sw0add, if_pos, if_neg, if_true, if_false, sw1n0, sw0n1, eq_self, ↓reduceIte, swI_ne]) (by simp (disch := omega) only [swlt_e, swbd_e, swrd_n, swgd_n, nI_clamp, sw8m, sw4m, sw4r, nI_add, nI_1, swsub, swsubn, sw4le, swleI, swltI, sweqI, sweqm, sw0add, if_pos, if_neg, if_true, if_false, sw1n0, sw0n1, eq_self, ↓reduceIte, swI_ne]) (by simp (disch := omega) only [swlt_e, swbd_e, swrd_n, swgd_n, nI_clamp, sw8m, sw4m, sw4r, nI_add, nI_1, swsub, swsubn, sw4le, swleI, swltI, sweqI, sweqm, sw0add, if_pos, if_neg, if_true, if_false, sw1n0, sw0n1, eq_self, ↓reduceIte, swI_ne]), a3⟩
        · obtain ⟨a1, a2, a3⟩ := h8
          exact ⟨swcE_fe a1 (by simp (disch := omega) only [swlt_e, swbd_e, swrd_n, swgd_n, nI_clamp, sw8m, sw4m, sw4r, nI_add, nI_1, swsub, swsubn, sw4le, swleI, swltI, sweqI, sweqm, sw0add, if_pos, if_neg, if_true, if_false, sw1n0, sw0n1, eq_self, ↓reduceIte, swI_k, swI_ne]) (by simp (disch := omega) only [swlt_e, swbd_e, swrd_n, swgd_n, nI_clamp, sw8m, sw4m, sw4r, nI_add, nI_1, swsub, swsubn, sw4le, swleI, swltI, sweqI, sweqm, sw0add, if_pos, if_neg, if_true, if_false, sw1n0, sw0n1, eq_self, ↓reduceIte, swI_k, swI_ne]) (by simp (disch := omega) only [swlt_e, swbd_e, swrd_n, swgd_n, nI_clamp, sw8m, sw4m, sw4r, nI_add, nI_1, swsub, swsubn, sw4le, swleI, swltI, sweqI, sweqm, sw0add, if_pos, if_neg, if_true, if_false, sw1n0, sw0n1, eq_self, ↓reduceIte, swI_k, swI_ne]) (fun c q1 q2 => by simp (disch := omega) only [swlt_e, swbd_e, swrd_n, swgd_n, nI_clamp, sw8m, sw4m, sw4r, nI_add, nI_1, swsub, swsubn, sw4le, swleI, swltI, sweqI, sweqm, sw0add, if_pos, if_neg, if_true, if_false, sw1n0, sw0n1, eq_self, ↓reduceIte, swI_ne]), swmE_fe a2 (by simp (disch := omega) only [swlt_e, swbd_e, swrd_n, swgd_n, nI_clamp, sw8m, sw4m, sw4r, nI_add, nI_1, swsub, swsubn, sw4le, swleI, swltI, sweqI, sweqm, sw0add, if_pos, if_neg, if_true, if_false, sw1n0, sw0n1, eq_self, ↓reduceIte, swI_k, swI_ne]) (by simp (disch := omega) only [swlt_e, swbd_e, swrd_n, swgd_n, nI_clamp, sw8m, sw4m, sw4r, nI_add, nI_1, swsub, swsubn, sw4le, swleI, swltI, sweqI, sweqm, sw0add, if_pos, if_neg, if_true, if_false, sw1n0, sw0n1, eq_self, ↓reduceIte, swI_k, swI_ne]) (by simp (disch := omega) only [swlt_e, swbd_e, swrd_n, swgd_n, nI_clamp, sw8m, sw4m, sw4r, nI_add, nI_1, swsub, swsubn, sw4le, swleI, swltI, sweqI, sweqm, sw0add, if_pos, if_neg, if_true, if_false, sw1n0, sw0n1, eq_self, ↓reduceIte, swI_k, swI_ne]) (fun c q1 q2 => by simp (disch := omega) only [swlt_e, swbd_e, swrd_n, swgd_n, nI_clamp, sw8m, sw4m, sw4r, nI_add, nI_1, swsub, swsubn, sw4le, swleI, swltI, sweqI, sweqm, sw0add, if_pos, if_neg, if_true, if_false, sw1n0, sw0n1, eq_self, ↓reduceIte, swI_ne]), a3⟩
