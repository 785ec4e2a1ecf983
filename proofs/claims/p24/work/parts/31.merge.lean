/-! ===== MERGES: what becomes of a slide and of an object, on both sides ===== -/
def swnn (d : swD) : Prop := ∀ k, k < d.1 → ∀ o, o < 4 → 0 ≤ d.2.2 k o
theorem swnn_v {d : swD} (h : swnn d) {s : Int32} (hs : swhas d s = true) {o : Nat} (ho : o < 4) : 0 ≤ swval d s o := h _ (swpI_h hs).2 o ho
theorem sw_nn1 {x : Int32} (h : 0 ≤ x) : (x = -1) = False := propext ⟨fun z => by subst z; exact absurd h (by decide), fun z => z.elim⟩
theorem sw_nn3 {x : Int32} (h : 0 ≤ x) : (x = -3) = False := propext ⟨fun z => by subst z; exact absurd h (by decide), fun z => z.elim⟩
theorem swBt : ((1 : Int32) = 0) = False := sw1n0
theorem swB0 (b : Bool) : (swB b = 0) = (b = false) := by
  cases b
  · exact propext ⟨fun _ => rfl, fun _ => rfl⟩
  · exact propext ⟨fun h => absurd h (by decide), fun h => by cases h⟩
theorem swBB (a b : Bool) : (swB a = swB b) = (a = b) := by
  cases a <;> cases b
  · exact propext ⟨fun _ => rfl, fun _ => rfl⟩
  · exact propext ⟨fun h => absurd h (by decide), fun h => by cases h⟩
  · exact propext ⟨fun h => absurd h (by decide), fun h => by cases h⟩
  · exact propext ⟨fun _ => rfl, fun _ => rfl⟩
def swFT (O A B : swD) (s : Int32) : Int32 := if swhas A s = true then (if swhas B s = true then (if swhas O s = true then 4 else 3) else (if swhas O s = true then (if swalk A O s = true then -2 else -3) else 1)) else (if swhas B s = true then (if swhas O s = true then (if swalk B O s = true then -2 else -3) else 2) else -2)
def swSC (O A B : swD) (s : Int32) : Bool := if swhas A s = swhas B s then false else if swhas O s = false then false else if swhas A s = true then !swalk A O s else !swalk B O s
def swOC (O A B : swD) (s : Int32) (j : Nat) : Bool := if swhas A s = true then (if swhas B s = true then (if swval A s j = swval B s j then false else if swval A s j = swVO O s j then false else if swval B s j = swVO O s j then false else true) else false) else false
def swKP (O A B : swD) (s : Int32) (t : Bool) : Bool := if swhas A s = swhas B s then (swhas A s || swhas B s) else if swhas O s = false then (swhas A s || swhas B s) else if swSC O A B s = false then false else if t = true then swhas B s else swhas A s
def swKV (O A B : swD) (s : Int32) (j : Nat) (t : Bool) : Int32 := if swhas B s = false then swVO A s j else if swhas A s = false then swVO B s j else if swOC O A B s j = false then (if swval A s j = swVO O s j then swval B s j else swval A s j) else if t = true then swval B s j else swval A s j
def swRS (O A B : swD) (s : Int32) (j : Nat) (t : Bool) : Int32 := if swKP O A B s t = true then swKV O A B s j t else -1
def swMT (O A B : swD) (s : Int32) (j : Nat) : Int32 := if swval A s j = swval B s j then swval A s j else if swval A s j = swVO O s j then swval B s j else if swval B s j = swVO O s j then swval A s j else -3
theorem swalk_comm (d e : swD) (s : Int32) : swalk d e s = swalk e d s := by
  unfold swalk
  congr 1
  funext o
  exact decide_eq_decide.mpr ⟨Eq.symm, Eq.symm⟩
theorem swc23 : ((-2 : Int32) = -3) = False := propext ⟨fun h => absurd h (by decide), fun h => h.elim⟩
theorem swc_m2_m3 : ((-2 : Int32) = -3) = False := propext ⟨fun h => absurd h (by decide), fun h => h.elim⟩
theorem swc_m3_m2 : ((-3 : Int32) = -2) = False := propext ⟨fun h => absurd h (by decide), fun h => h.elim⟩
theorem swc_4_m2 : ((4 : Int32) = -2) = False := propext ⟨fun h => absurd h (by decide), fun h => h.elim⟩
theorem swc_4_m3 : ((4 : Int32) = -3) = False := propext ⟨fun h => absurd h (by decide), fun h => h.elim⟩
theorem swc_3_m2 : ((3 : Int32) = -2) = False := propext ⟨fun h => absurd h (by decide), fun h => h.elim⟩
theorem swc_3_m3 : ((3 : Int32) = -3) = False := propext ⟨fun h => absurd h (by decide), fun h => h.elim⟩
theorem swc_1_m2 : ((1 : Int32) = -2) = False := propext ⟨fun h => absurd h (by decide), fun h => h.elim⟩
theorem swc_1_m3 : ((1 : Int32) = -3) = False := propext ⟨fun h => absurd h (by decide), fun h => h.elim⟩
theorem swc_2_m2 : ((2 : Int32) = -2) = False := propext ⟨fun h => absurd h (by decide), fun h => h.elim⟩
theorem swc_2_m3 : ((2 : Int32) = -3) = False := propext ⟨fun h => absurd h (by decide), fun h => h.elim⟩
theorem swc_m3_1 : ((-3 : Int32) = 1) = False := propext ⟨fun h => absurd h (by decide), fun h => h.elim⟩
theorem swc_m3_2 : ((-3 : Int32) = 2) = False := propext ⟨fun h => absurd h (by decide), fun h => h.elim⟩
theorem swc_m3_4 : ((-3 : Int32) = 4) = False := propext ⟨fun h => absurd h (by decide), fun h => h.elim⟩
theorem swc_2_1 : ((2 : Int32) = 1) = False := propext ⟨fun h => absurd h (by decide), fun h => h.elim⟩
theorem swc_3_1 : ((3 : Int32) = 1) = False := propext ⟨fun h => absurd h (by decide), fun h => h.elim⟩
theorem swc_3_2 : ((3 : Int32) = 2) = False := propext ⟨fun h => absurd h (by decide), fun h => h.elim⟩
theorem swc_3_4 : ((3 : Int32) = 4) = False := propext ⟨fun h => absurd h (by decide), fun h => h.elim⟩
theorem swc_4_1 : ((4 : Int32) = 1) = False := propext ⟨fun h => absurd h (by decide), fun h => h.elim⟩
theorem swc_4_2 : ((4 : Int32) = 2) = False := propext ⟨fun h => absurd h (by decide), fun h => h.elim⟩
theorem swc_m2_1 : ((-2 : Int32) = 1) = False := propext ⟨fun h => absurd h (by decide), fun h => h.elim⟩
theorem swc_m1_0 : ((-1 : Int32) = 0) = False := propext ⟨fun h => absurd h (by decide), fun h => h.elim⟩
theorem swc_1_0 : ((1 : Int32) = 0) = False := propext ⟨fun h => absurd h (by decide), fun h => h.elim⟩
theorem swMT_3 {O A B : swD} {s : Int32} (h1 : swhas A s = true) (h2 : swhas B s = true) (nA : swnn A) (nB : swnn B) {j : Nat} (hj : j < 4) : (swMT O A B s j = -3) = (swOC O A B s j = true) := by
  have a3 := sw_nn3 (swnn_v nA h1 hj)
  have b3 := sw_nn3 (swnn_v nB h2 hj)
  unfold swMT swOC
  rw [if_pos h1, if_pos h2]
  by_cases e : swval A s j = swval B s j
  · rw [if_pos e, if_pos e, a3]
    simp
  · rw [if_neg e, if_neg e]
    by_cases e2 : swval A s j = swVO O s j
    · rw [if_pos e2, if_pos e2, b3]
      simp
    · rw [if_neg e2, if_neg e2]
      by_cases e3 : swval B s j = swVO O s j
      · rw [if_pos e3, if_pos e3, a3]
        simp
      · rw [if_neg e3, if_neg e3]
        simp
theorem swMT_KV {O A B : swD} {s : Int32} (h1 : swhas A s = true) (h2 : swhas B s = true) (j : Nat) (t : Bool) : swKV O A B s j t = if swOC O A B s j = true then (if t = true then swval B s j else swval A s j) else swMT O A B s j := by
  unfold swKV swMT swOC
  rw [if_pos h1, if_pos h2, h1, h2]
  by_cases e : swval A s j = swval B s j
  · simp [e]
  · by_cases e2 : swval A s j = swVO O s j
    · have e9 : ¬ swVO O s j = swval B s j := e2 ▸ e
      simp [e2, e9]
    · by_cases e3 : swval B s j = swVO O s j
      · simp [e, e2, e3]
      · simp [e, e2, e3]
/-! the class's reads -/
theorem pc_placeOf {u : swU} {c : Nat} {d : swD} (h : swcD u c d) (s : Int32) : xx0_placeOf u c s = some (swpI d s) := by
  obtain ⟨h8, hn, hr, -⟩ := h
  have hle := swpl_le d s
  unfold xx0_placeOf
  refine sw_up (fun f k => xx0_placeOf_L2 u c s (fun v3 => some (-1)) f (nI k)) (swpl d s) _ (fun f k hk => ?_) (fun f => ?_) (by omega)
  · show xx0_placeOf_L2 u c s _ (f + 1) (nI k) = xx0_placeOf_L2 u c s _ f (nI (k + 1))
    rw [xx0_placeOf_L2]
    simp (disch := omega) only [swlt_e, swbd_e, swrd_n, swgd_n, nI_clamp, sw8m, sw4m, sw4r, nI_add, nI_1, swsub, swsubn, sw4le, swleI, swltI, sweqI, sweqm, sw0add, if_pos, if_neg, if_true, if_false, sw1n0, sw0n1, eq_self, ↓reduceIte, hn, hr, swpl_ne hk]
  · show xx0_placeOf_L2 u c s _ (f + 1) (nI (swpl d s)) = some (swpI d s)
    rw [xx0_placeOf_L2]
    unfold swpI
    by_cases hh : swpl d s < d.1
    · simp (disch := omega) only [swlt_e, swbd_e, swrd_n, swgd_n, nI_clamp, sw8m, sw4m, sw4r, nI_add, nI_1, swsub, swsubn, sw4le, swleI, swltI, sweqI, sweqm, sw0add, if_pos, if_neg, if_true, if_false, sw1n0, sw0n1, eq_self, ↓reduceIte, hn, hr, swpl_eq hh]
    · simp (disch := omega) only [swlt_e, swbd_e, swrd_n, swgd_n, nI_clamp, sw8m, sw4m, sw4r, nI_add, nI_1, swsub, swsubn, sw4le, swleI, swltI, sweqI, sweqm, sw0add, if_pos, if_neg, if_true, if_false, sw1n0, sw0n1, eq_self, ↓reduceIte, hn, hr]
theorem pc_has {u : swU} {c : Nat} {d : swD} (h : swcD u c d) (s : Int32) : xx0_has u c s = some (swhas d s) := by
  unfold xx0_has
  rw [pc_placeOf h]
  cases h1 : swhas d s
  · simp (disch := omega) only [swlt_e, swbd_e, swrd_n, swgd_n, nI_clamp, sw8m, sw4m, sw4r, nI_add, nI_1, swsub, swsubn, sw4le, swleI, swltI, sweqI, sweqm, sw0add, if_pos, if_neg, if_true, if_false, sw1n0, sw0n1, eq_self, ↓reduceIte, h1, swpI_m h.1]
  · simp (disch := omega) only [swlt_e, swbd_e, swrd_n, swgd_n, nI_clamp, sw8m, sw4m, sw4r, nI_add, nI_1, swsub, swsubn, sw4le, swleI, swltI, sweqI, sweqm, sw0add, if_pos, if_neg, if_true, if_false, sw1n0, sw0n1, eq_self, ↓reduceIte, h1, swpI_m h.1, Bool.true_eq_false]
theorem pc_valueAt0 (u : swU) (c : Nat) {k o : Nat} (hk : k < 8) (ho : o < 4) : xx0_valueAt u c (nI k) (nI o) = some (u.1 (c + 200) (4 * k + o)) := by
  unfold xx0_valueAt
  simp (disch := omega) only [swlt_e, swbd_e, swrd_n, swgd_n, nI_clamp, sw8m, sw4m, sw4r, nI_add, nI_1, swsub, swsubn, sw4le, swleI, swltI, sweqI, sweqm, sw0add, if_pos, if_neg, if_true, if_false, sw1n0, sw0n1, eq_self, ↓reduceIte]
theorem pc_valueAt {u : swU} {c : Nat} {d : swD} (h : swcD u c d) {k o : Nat} (hk : k < d.1) (ho : o < 4) : xx0_valueAt u c (nI k) (nI o) = some (d.2.2 k o) := by
  have h8 := h.1
  rw [pc_valueAt0 u c (by omega) ho, h.2.2.2 k hk o ho]
theorem pc_valueOf {u : swU} {c : Nat} {d : swD} (h : swcD u c d) (s : Int32) {o : Nat} (ho : o < 4) : xx0_valueOf u c s (nI o) = some (swVO d s o) := by
  unfold xx0_valueOf swVO
  rw [pc_placeOf h]
  cases h1 : swhas d s
  · simp (disch := omega) only [swlt_e, swbd_e, swrd_n, swgd_n, nI_clamp, sw8m, sw4m, sw4r, nI_add, nI_1, swsub, swsubn, sw4le, swleI, swltI, sweqI, sweqm, sw0add, if_pos, if_neg, if_true, if_false, sw1n0, sw0n1, eq_self, ↓reduceIte, h1, swpI_m h.1, Bool.false_eq_true]
  · obtain ⟨hp, hl⟩ := swpI_h h1
    simp (disch := omega) only [swlt_e, swbd_e, swrd_n, swgd_n, nI_clamp, sw8m, sw4m, sw4r, nI_add, nI_1, swsub, swsubn, sw4le, swleI, swltI, sweqI, sweqm, sw0add, if_pos, if_neg, if_true, if_false, sw1n0, sw0n1, eq_self, ↓reduceIte, h1, swpI_m h.1, Bool.true_eq_false]
    rw [hp, pc_valueAt h hl ho]
    rfl
theorem pc_isAlike {u : swU} {c c2 : Nat} {d e : swD} (h : swcD u c d) (h2 : swcD u c2 e) {s : Int32} (hs : swhas d s = true) (hs2 : swhas e s = true) : xx0_isAlike u c c2 s = some (swalk d e s) := by
  obtain ⟨hp, hl⟩ := swpI_h hs
  obtain ⟨hp2, hl2⟩ := swpI_h hs2
  have h8 := h.1
  have h82 := h2.1
  unfold xx0_isAlike
  rw [pc_placeOf h, pc_placeOf h2, hp, hp2]
  simp (disch := omega) only [swlt_e, swbd_e, swrd_n, swgd_n, nI_clamp, sw8m, sw4m, sw4r, nI_add, nI_1, swsub, swsubn, sw4le, swleI, swltI, sweqI, sweqm, sw0add, if_pos, if_neg, if_true, if_false, sw1n0, sw0n1, eq_self, ↓reduceIte]
  by_cases ha : swalk d e s = true
  · rw [ha]
    have hall := (sw_all_iff _ _).mp ha
    refine sw_up (fun f k => xx0_isAlike_L29 u c c2 (nI (swpl d s)) (nI (swpl e s)) (fun v5 => some true) f (nI k)) 4 _ (fun f k hk => ?_) (fun f => ?_) (by omega)
    · show xx0_isAlike_L29 u c c2 _ _ _ (f + 1) (nI k) = xx0_isAlike_L29 u c c2 _ _ _ f (nI (k + 1))
      rw [xx0_isAlike_L29]
      have he : swval d s k = swval e s k := of_decide_eq_true (hall k hk)
      have he2 : d.2.2 (swpl d s) k = e.2.2 (swpl e s) k := he
      simp (disch := omega) only [swlt_e, swbd_e, swrd_n, swgd_n, nI_clamp, sw8m, sw4m, sw4r, nI_add, nI_1, swsub, swsubn, sw4le, swleI, swltI, sweqI, sweqm, sw0add, if_pos, if_neg, if_true, if_false, sw1n0, sw0n1, eq_self, ↓reduceIte, pc_valueAt h hl hk, pc_valueAt h2 hl2 hk, he2]
    · show xx0_isAlike_L29 u c c2 _ _ _ (f + 1) (nI 4) = some true
      rw [xx0_isAlike_L29]
      simp (disch := omega) only [swlt_e, swbd_e, swrd_n, swgd_n, nI_clamp, sw8m, sw4m, sw4r, nI_add, nI_1, swsub, swsubn, sw4le, swleI, swltI, sweqI, sweqm, sw0add, if_pos, if_neg, if_true, if_false, sw1n0, sw0n1, eq_self, ↓reduceIte]
  · have hb : swalk d e s = false := by
      cases hq : swalk d e s
      · rfl
      · exact absurd hq ha
    rw [hb]
    have hlt : sw_fst 4 (fun o => !decide (swval d s o = swval e s o)) < 4 := by
      refine Nat.lt_of_le_of_ne (sw_fst_le _ _) fun z => ha ((sw_all_iff _ _).mpr fun k hk => ?_)
      have := sw_fst_no (fun o => !decide (swval d s o = swval e s o)) 4 k (by omega)
      simpa using this
    have hy := sw_fst_yes _ _ hlt
    refine sw_up (fun f k => xx0_isAlike_L29 u c c2 (nI (swpl d s)) (nI (swpl e s)) (fun v5 => some true) f (nI k)) _ _ (fun f k hk => ?_) (fun f => ?_) (Nat.lt_trans hlt (by omega))
    · show xx0_isAlike_L29 u c c2 _ _ _ (f + 1) (nI k) = xx0_isAlike_L29 u c c2 _ _ _ f (nI (k + 1))
      rw [xx0_isAlike_L29]
      have he := sw_fst_no _ _ k hk
      have he2 : d.2.2 (swpl d s) k = e.2.2 (swpl e s) k := by
        have h9 : swval d s k = swval e s k := by simpa using he
        exact h9
      simp (disch := omega) only [swlt_e, swbd_e, swrd_n, swgd_n, nI_clamp, sw8m, sw4m, sw4r, nI_add, nI_1, swsub, swsubn, sw4le, swleI, swltI, sweqI, sweqm, sw0add, if_pos, if_neg, if_true, if_false, sw1n0, sw0n1, eq_self, ↓reduceIte, pc_valueAt h hl (show k < 4 by omega), pc_valueAt h2 hl2 (show k < 4 by omega), he2]
    · show xx0_isAlike_L29 u c c2 _ _ _ (f + 1) (nI (sw_fst 4 _)) = some false
      rw [xx0_isAlike_L29]
      have he2 : ¬ d.2.2 (swpl d s) (sw_fst 4 (fun o => !decide (swval d s o = swval e s o))) = e.2.2 (swpl e s) (sw_fst 4 (fun o => !decide (swval d s o = swval e s o))) := by
        have h9 : ¬ swval d s (sw_fst 4 (fun o => !decide (swval d s o = swval e s o))) = swval e s (sw_fst 4 (fun o => !decide (swval d s o = swval e s o))) := by simpa using hy
        exact h9
      simp (disch := omega) only [swlt_e, swbd_e, swrd_n, swgd_n, nI_clamp, sw8m, sw4m, sw4r, nI_add, nI_1, swsub, swsubn, sw4le, swleI, swltI, sweqI, sweqm, sw0add, if_pos, if_neg, if_true, if_false, sw1n0, sw0n1, eq_self, ↓reduceIte, pc_valueAt h hl hlt, pc_valueAt h2 hl2 hlt, he2]
theorem pc_SC {u : swU} {co ca cb : Nat} {O A B : swD} (hO : swcD u co O) (hA : swcD u ca A) (hB : swcD u cb B) (s : Int32) : xx1_isSlideClash u co ca cb s = some (swSC O A B s) := by
  unfold xx1_isSlideClash swSC
  rw [pc_has hA, pc_has hB, pc_has hO]
  cases h1 : swhas A s
  · cases h2 : swhas B s
    · cases h3 : swhas O s
      · simp (disch := omega) only [swlt_e, swbd_e, swrd_n, swgd_n, nI_clamp, sw8m, sw4m, sw4r, nI_add, nI_1, swsub, swsubn, sw4le, swleI, swltI, sweqI, sweqm, sw0add, if_pos, if_neg, if_true, if_false, sw1n0, sw0n1, eq_self, ↓reduceIte, h1, h2, h3, swB0, swBB, Bool.true_eq_false, Bool.false_eq_true, eq_self, reduceCtorEq, Bool.not_true, Bool.not_false, Bool.or_false, Bool.false_or, Bool.or_true, Bool.true_or]
      · simp (disch := omega) only [swlt_e, swbd_e, swrd_n, swgd_n, nI_clamp, sw8m, sw4m, sw4r, nI_add, nI_1, swsub, swsubn, sw4le, swleI, swltI, sweqI, sweqm, sw0add, if_pos, if_neg, if_true, if_false, sw1n0, sw0n1, eq_self, ↓reduceIte, h1, h2, h3, swB0, swBB, Bool.true_eq_false, Bool.false_eq_true, eq_self, reduceCtorEq, Bool.not_true, Bool.not_false, Bool.or_false, Bool.false_or, Bool.or_true, Bool.true_or]
    · cases h3 : swhas O s
      · simp (disch := omega) only [swlt_e, swbd_e, swrd_n, swgd_n, nI_clamp, sw8m, sw4m, sw4r, nI_add, nI_1, swsub, swsubn, sw4le, swleI, swltI, sweqI, sweqm, sw0add, if_pos, if_neg, if_true, if_false, sw1n0, sw0n1, eq_self, ↓reduceIte, h1, h2, h3, swB0, swBB, Bool.true_eq_false, Bool.false_eq_true, eq_self, reduceCtorEq, Bool.not_true, Bool.not_false, Bool.or_false, Bool.false_or, Bool.or_true, Bool.true_or]
      · rw [pc_isAlike hO hB h3 h2, swalk_comm]
        cases h4 : swalk B O s
        · simp (disch := omega) only [swlt_e, swbd_e, swrd_n, swgd_n, nI_clamp, sw8m, sw4m, sw4r, nI_add, nI_1, swsub, swsubn, sw4le, swleI, swltI, sweqI, sweqm, sw0add, if_pos, if_neg, if_true, if_false, sw1n0, sw0n1, eq_self, ↓reduceIte, h1, h2, h3, swB0, swBB, Bool.true_eq_false, Bool.false_eq_true, eq_self, reduceCtorEq, Bool.not_true, Bool.not_false, Bool.or_false, Bool.false_or, Bool.or_true, Bool.true_or, h4, swBt]
        · simp (disch := omega) only [swlt_e, swbd_e, swrd_n, swgd_n, nI_clamp, sw8m, sw4m, sw4r, nI_add, nI_1, swsub, swsubn, sw4le, swleI, swltI, sweqI, sweqm, sw0add, if_pos, if_neg, if_true, if_false, sw1n0, sw0n1, eq_self, ↓reduceIte, h1, h2, h3, swB0, swBB, Bool.true_eq_false, Bool.false_eq_true, eq_self, reduceCtorEq, Bool.not_true, Bool.not_false, Bool.or_false, Bool.false_or, Bool.or_true, Bool.true_or, h4, swBt]
  · cases h2 : swhas B s
    · cases h3 : swhas O s
      · simp (disch := omega) only [swlt_e, swbd_e, swrd_n, swgd_n, nI_clamp, sw8m, sw4m, sw4r, nI_add, nI_1, swsub, swsubn, sw4le, swleI, swltI, sweqI, sweqm, sw0add, if_pos, if_neg, if_true, if_false, sw1n0, sw0n1, eq_self, ↓reduceIte, h1, h2, h3, swB0, swBB, Bool.true_eq_false, Bool.false_eq_true, eq_self, reduceCtorEq, Bool.not_true, Bool.not_false, Bool.or_false, Bool.false_or, Bool.or_true, Bool.true_or]
      · rw [pc_isAlike hO hA h3 h1, swalk_comm]
        cases h4 : swalk A O s
        · simp (disch := omega) only [swlt_e, swbd_e, swrd_n, swgd_n, nI_clamp, sw8m, sw4m, sw4r, nI_add, nI_1, swsub, swsubn, sw4le, swleI, swltI, sweqI, sweqm, sw0add, if_pos, if_neg, if_true, if_false, sw1n0, sw0n1, eq_self, ↓reduceIte, h1, h2, h3, swB0, swBB, Bool.true_eq_false, Bool.false_eq_true, eq_self, reduceCtorEq, Bool.not_true, Bool.not_false, Bool.or_false, Bool.false_or, Bool.or_true, Bool.true_or, h4, swBt]
        · simp (disch := omega) only [swlt_e, swbd_e, swrd_n, swgd_n, nI_clamp, sw8m, sw4m, sw4r, nI_add, nI_1, swsub, swsubn, sw4le, swleI, swltI, sweqI, sweqm, sw0add, if_pos, if_neg, if_true, if_false, sw1n0, sw0n1, eq_self, ↓reduceIte, h1, h2, h3, swB0, swBB, Bool.true_eq_false, Bool.false_eq_true, eq_self, reduceCtorEq, Bool.not_true, Bool.not_false, Bool.or_false, Bool.false_or, Bool.or_true, Bool.true_or, h4, swBt]
    · cases h3 : swhas O s
      · simp (disch := omega) only [swlt_e, swbd_e, swrd_n, swgd_n, nI_clamp, sw8m, sw4m, sw4r, nI_add, nI_1, swsub, swsubn, sw4le, swleI, swltI, sweqI, sweqm, sw0add, if_pos, if_neg, if_true, if_false, sw1n0, sw0n1, eq_self, ↓reduceIte, h1, h2, h3, swB0, swBB, Bool.true_eq_false, Bool.false_eq_true, eq_self, reduceCtorEq, Bool.not_true, Bool.not_false, Bool.or_false, Bool.false_or, Bool.or_true, Bool.true_or]
      · simp (disch := omega) only [swlt_e, swbd_e, swrd_n, swgd_n, nI_clamp, sw8m, sw4m, sw4r, nI_add, nI_1, swsub, swsubn, sw4le, swleI, swltI, sweqI, sweqm, sw0add, if_pos, if_neg, if_true, if_false, sw1n0, sw0n1, eq_self, ↓reduceIte, h1, h2, h3, swB0, swBB, Bool.true_eq_false, Bool.false_eq_true, eq_self, reduceCtorEq, Bool.not_true, Bool.not_false, Bool.or_false, Bool.false_or, Bool.or_true, Bool.true_or]
theorem pc_OC {u : swU} {co ca cb : Nat} {O A B : swD} (hO : swcD u co O) (hA : swcD u ca A) (hB : swcD u cb B) (s : Int32) {j : Nat} (hj : j < 4) : xx1_isObjectClash u co ca cb s (nI j) = some (swOC O A B s j) := by
  unfold xx1_isObjectClash swOC
  rw [pc_has hA, pc_has hB, pc_valueOf hA s hj, pc_valueOf hB s hj, pc_valueOf hO s hj]
  cases h1 : swhas A s
  · simp (disch := omega) only [swlt_e, swbd_e, swrd_n, swgd_n, nI_clamp, sw8m, sw4m, sw4r, nI_add, nI_1, swsub, swsubn, sw4le, swleI, swltI, sweqI, sweqm, sw0add, if_pos, if_neg, if_true, if_false, sw1n0, sw0n1, eq_self, ↓reduceIte, h1, swB0, Bool.true_eq_false, Bool.false_eq_true, eq_self, reduceCtorEq, Bool.not_true, Bool.not_false, Bool.or_false, Bool.false_or, Bool.or_true, Bool.true_or]
  · cases h2 : swhas B s
    · simp (disch := omega) only [swlt_e, swbd_e, swrd_n, swgd_n, nI_clamp, sw8m, sw4m, sw4r, nI_add, nI_1, swsub, swsubn, sw4le, swleI, swltI, sweqI, sweqm, sw0add, if_pos, if_neg, if_true, if_false, sw1n0, sw0n1, eq_self, ↓reduceIte, h1, h2, swB0, Bool.true_eq_false, Bool.false_eq_true, eq_self, reduceCtorEq, Bool.not_true, Bool.not_false, Bool.or_false, Bool.false_or, Bool.or_true, Bool.true_or]
    · have va : swVO A s j = swval A s j := if_pos h1
      have vb : swVO B s j = swval B s j := if_pos h2
      simp (disch := omega) only [swlt_e, swbd_e, swrd_n, swgd_n, nI_clamp, sw8m, sw4m, sw4r, nI_add, nI_1, swsub, swsubn, sw4le, swleI, swltI, sweqI, sweqm, sw0add, if_pos, if_neg, if_true, if_false, sw1n0, sw0n1, eq_self, ↓reduceIte, h1, h2, swB0, va, vb, Bool.true_eq_false, Bool.false_eq_true, eq_self, reduceCtorEq, Bool.not_true, Bool.not_false, Bool.or_false, Bool.false_or, Bool.or_true, Bool.true_or]
      by_cases e : swval A s j = swval B s j
      · simp (disch := omega) only [swlt_e, swbd_e, swrd_n, swgd_n, nI_clamp, sw8m, sw4m, sw4r, nI_add, nI_1, swsub, swsubn, sw4le, swleI, swltI, sweqI, sweqm, sw0add, if_pos, if_neg, if_true, if_false, sw1n0, sw0n1, eq_self, ↓reduceIte, e]
      · by_cases e2 : swval A s j = swVO O s j
        · have e9 : ¬ swVO O s j = swval B s j := e2 ▸ e
          simp (disch := omega) only [swlt_e, swbd_e, swrd_n, swgd_n, nI_clamp, sw8m, sw4m, sw4r, nI_add, nI_1, swsub, swsubn, sw4le, swleI, swltI, sweqI, sweqm, sw0add, if_pos, if_neg, if_true, if_false, sw1n0, sw0n1, eq_self, ↓reduceIte, e, e2, e9]
        · by_cases e3 : swval B s j = swVO O s j
          · simp (disch := omega) only [swlt_e, swbd_e, swrd_n, swgd_n, nI_clamp, sw8m, sw4m, sw4r, nI_add, nI_1, swsub, swsubn, sw4le, swleI, swltI, sweqI, sweqm, sw0add, if_pos, if_neg, if_true, if_false, sw1n0, sw0n1, eq_self, ↓reduceIte, e, e2, e3]
          · simp (disch := omega) only [swlt_e, swbd_e, swrd_n, swgd_n, nI_clamp, sw8m, sw4m, sw4r, nI_add, nI_1, swsub, swsubn, sw4le, swleI, swltI, sweqI, sweqm, sw0add, if_pos, if_neg, if_true, if_false, sw1n0, sw0n1, eq_self, ↓reduceIte, e, e2, e3]
theorem pc_KP {u : swU} {co ca cb : Nat} {O A B : swD} (hO : swcD u co O) (hA : swcD u ca A) (hB : swcD u cb B) (s : Int32) (x : Int32) (t : Bool) (ht : (x = 1) = (t = true)) : xx1_isKept u co ca cb s x = some (swKP O A B s t) := by
  unfold xx1_isKept swKP
  rw [pc_has hA, pc_has hB, pc_has hO, pc_SC hO hA hB]
  cases h1 : swhas A s
  · cases h2 : swhas B s
    · cases h3 : swhas O s
      · simp (disch := omega) only [swlt_e, swbd_e, swrd_n, swgd_n, nI_clamp, sw8m, sw4m, sw4r, nI_add, nI_1, swsub, swsubn, sw4le, swleI, swltI, sweqI, sweqm, sw0add, if_pos, if_neg, if_true, if_false, sw1n0, sw0n1, eq_self, ↓reduceIte, h1, h2, h3, swB0, swBB, ht, Bool.true_eq_false, Bool.false_eq_true, eq_self, reduceCtorEq, Bool.not_true, Bool.not_false, Bool.or_false, Bool.false_or, Bool.or_true, Bool.true_or]
      · simp (disch := omega) only [swlt_e, swbd_e, swrd_n, swgd_n, nI_clamp, sw8m, sw4m, sw4r, nI_add, nI_1, swsub, swsubn, sw4le, swleI, swltI, sweqI, sweqm, sw0add, if_pos, if_neg, if_true, if_false, sw1n0, sw0n1, eq_self, ↓reduceIte, h1, h2, h3, swB0, swBB, ht, Bool.true_eq_false, Bool.false_eq_true, eq_self, reduceCtorEq, Bool.not_true, Bool.not_false, Bool.or_false, Bool.false_or, Bool.or_true, Bool.true_or]
    · cases h3 : swhas O s
      · simp (disch := omega) only [swlt_e, swbd_e, swrd_n, swgd_n, nI_clamp, sw8m, sw4m, sw4r, nI_add, nI_1, swsub, swsubn, sw4le, swleI, swltI, sweqI, sweqm, sw0add, if_pos, if_neg, if_true, if_false, sw1n0, sw0n1, eq_self, ↓reduceIte, h1, h2, h3, swB0, swBB, ht, Bool.true_eq_false, Bool.false_eq_true, eq_self, reduceCtorEq, Bool.not_true, Bool.not_false, Bool.or_false, Bool.false_or, Bool.or_true, Bool.true_or]
      · cases h4 : swSC O A B s <;> cases t <;> simp (disch := omega) only [swlt_e, swbd_e, swrd_n, swgd_n, nI_clamp, sw8m, sw4m, sw4r, nI_add, nI_1, swsub, swsubn, sw4le, swleI, swltI, sweqI, sweqm, sw0add, if_pos, if_neg, if_true, if_false, sw1n0, sw0n1, eq_self, ↓reduceIte, h1, h2, h3, swB0, swBB, ht, Bool.true_eq_false, Bool.false_eq_true, eq_self, reduceCtorEq, Bool.not_true, Bool.not_false, Bool.or_false, Bool.false_or, Bool.or_true, Bool.true_or, h4]
  · cases h2 : swhas B s
    · cases h3 : swhas O s
      · simp (disch := omega) only [swlt_e, swbd_e, swrd_n, swgd_n, nI_clamp, sw8m, sw4m, sw4r, nI_add, nI_1, swsub, swsubn, sw4le, swleI, swltI, sweqI, sweqm, sw0add, if_pos, if_neg, if_true, if_false, sw1n0, sw0n1, eq_self, ↓reduceIte, h1, h2, h3, swB0, swBB, ht, Bool.true_eq_false, Bool.false_eq_true, eq_self, reduceCtorEq, Bool.not_true, Bool.not_false, Bool.or_false, Bool.false_or, Bool.or_true, Bool.true_or]
      · cases h4 : swSC O A B s <;> cases t <;> simp (disch := omega) only [swlt_e, swbd_e, swrd_n, swgd_n, nI_clamp, sw8m, sw4m, sw4r, nI_add, nI_1, swsub, swsubn, sw4le, swleI, swltI, sweqI, sweqm, sw0add, if_pos, if_neg, if_true, if_false, sw1n0, sw0n1, eq_self, ↓reduceIte, h1, h2, h3, swB0, swBB, ht, Bool.true_eq_false, Bool.false_eq_true, eq_self, reduceCtorEq, Bool.not_true, Bool.not_false, Bool.or_false, Bool.false_or, Bool.or_true, Bool.true_or, h4]
    · cases h3 : swhas O s
      · simp (disch := omega) only [swlt_e, swbd_e, swrd_n, swgd_n, nI_clamp, sw8m, sw4m, sw4r, nI_add, nI_1, swsub, swsubn, sw4le, swleI, swltI, sweqI, sweqm, sw0add, if_pos, if_neg, if_true, if_false, sw1n0, sw0n1, eq_self, ↓reduceIte, h1, h2, h3, swB0, swBB, ht, Bool.true_eq_false, Bool.false_eq_true, eq_self, reduceCtorEq, Bool.not_true, Bool.not_false, Bool.or_false, Bool.false_or, Bool.or_true, Bool.true_or]
      · simp (disch := omega) only [swlt_e, swbd_e, swrd_n, swgd_n, nI_clamp, sw8m, sw4m, sw4r, nI_add, nI_1, swsub, swsubn, sw4le, swleI, swltI, sweqI, sweqm, sw0add, if_pos, if_neg, if_true, if_false, sw1n0, sw0n1, eq_self, ↓reduceIte, h1, h2, h3, swB0, swBB, ht, Bool.true_eq_false, Bool.false_eq_true, eq_self, reduceCtorEq, Bool.not_true, Bool.not_false, Bool.or_false, Bool.false_or, Bool.or_true, Bool.true_or]
theorem pc_KV {u : swU} {co ca cb : Nat} {O A B : swD} (hO : swcD u co O) (hA : swcD u ca A) (hB : swcD u cb B) (s : Int32) {j : Nat} (hj : j < 4) (x : Int32) (t : Bool) (ht : (x = 1) = (t = true)) : xx1_keptValue u co ca cb s (nI j) x = some (swKV O A B s j t) := by
  unfold xx1_keptValue swKV
  rw [pc_has hA, pc_has hB, pc_valueOf hA s hj, pc_valueOf hB s hj, pc_valueOf hO s hj, pc_OC hO hA hB s hj]
  cases h2 : swhas B s
  · simp (disch := omega) only [swlt_e, swbd_e, swrd_n, swgd_n, nI_clamp, sw8m, sw4m, sw4r, nI_add, nI_1, swsub, swsubn, sw4le, swleI, swltI, sweqI, sweqm, sw0add, if_pos, if_neg, if_true, if_false, sw1n0, sw0n1, eq_self, ↓reduceIte, h2, swB0, Bool.true_eq_false, Bool.false_eq_true, eq_self, reduceCtorEq, Bool.not_true, Bool.not_false, Bool.or_false, Bool.false_or, Bool.or_true, Bool.true_or]
  · cases h1 : swhas A s
    · simp (disch := omega) only [swlt_e, swbd_e, swrd_n, swgd_n, nI_clamp, sw8m, sw4m, sw4r, nI_add, nI_1, swsub, swsubn, sw4le, swleI, swltI, sweqI, sweqm, sw0add, if_pos, if_neg, if_true, if_false, sw1n0, sw0n1, eq_self, ↓reduceIte, h1, h2, swB0, Bool.true_eq_false, Bool.false_eq_true, eq_self, reduceCtorEq, Bool.not_true, Bool.not_false, Bool.or_false, Bool.false_or, Bool.or_true, Bool.true_or]
    · have va : swVO A s j = swval A s j := if_pos h1
      have vb : swVO B s j = swval B s j := if_pos h2
      cases h4 : swOC O A B s j
      · simp (disch := omega) only [swlt_e, swbd_e, swrd_n, swgd_n, nI_clamp, sw8m, sw4m, sw4r, nI_add, nI_1, swsub, swsubn, sw4le, swleI, swltI, sweqI, sweqm, sw0add, if_pos, if_neg, if_true, if_false, sw1n0, sw0n1, eq_self, ↓reduceIte, h1, h2, h4, swB0, va, vb, Bool.true_eq_false, Bool.false_eq_true, eq_self, reduceCtorEq, Bool.not_true, Bool.not_false, Bool.or_false, Bool.false_or, Bool.or_true, Bool.true_or]
        by_cases e2 : swval A s j = swVO O s j
        · simp (disch := omega) only [swlt_e, swbd_e, swrd_n, swgd_n, nI_clamp, sw8m, sw4m, sw4r, nI_add, nI_1, swsub, swsubn, sw4le, swleI, swltI, sweqI, sweqm, sw0add, if_pos, if_neg, if_true, if_false, sw1n0, sw0n1, eq_self, ↓reduceIte, e2]
        · simp (disch := omega) only [swlt_e, swbd_e, swrd_n, swgd_n, nI_clamp, sw8m, sw4m, sw4r, nI_add, nI_1, swsub, swsubn, sw4le, swleI, swltI, sweqI, sweqm, sw0add, if_pos, if_neg, if_true, if_false, sw1n0, sw0n1, eq_self, ↓reduceIte, e2]
      · cases t <;> simp (disch := omega) only [swlt_e, swbd_e, swrd_n, swgd_n, nI_clamp, sw8m, sw4m, sw4r, nI_add, nI_1, swsub, swsubn, sw4le, swleI, swltI, sweqI, sweqm, sw0add, if_pos, if_neg, if_true, if_false, sw1n0, sw0n1, eq_self, ↓reduceIte, h1, h2, h4, swB0, va, vb, ht, Bool.true_eq_false, Bool.false_eq_true, eq_self, reduceCtorEq, Bool.not_true, Bool.not_false, Bool.or_false, Bool.false_or, Bool.or_true, Bool.true_or]
theorem pc_RS {u : swU} {co ca cb : Nat} {O A B : swD} (hO : swcD u co O) (hA : swcD u ca A) (hB : swcD u cb B) (s : Int32) {j : Nat} (hj : j < 4) (x : Int32) (t : Bool) (ht : (x = 1) = (t = true)) : xx1_resultOf u co ca cb s (nI j) x = some (swRS O A B s j t) := by
  unfold xx1_resultOf swRS
  rw [pc_KP hO hA hB s x t ht, pc_KV hO hA hB s hj x t ht]
  cases h : swKP O A B s t <;> simp (disch := omega) only [swlt_e, swbd_e, swrd_n, swgd_n, nI_clamp, sw8m, sw4m, sw4r, nI_add, nI_1, swsub, swsubn, sw4le, swleI, swltI, sweqI, sweqm, sw0add, if_pos, if_neg, if_true, if_false, sw1n0, sw0n1, eq_self, ↓reduceIte, swB0, Bool.true_eq_false, Bool.false_eq_true, eq_self, reduceCtorEq, Bool.not_true, Bool.not_false, Bool.or_false, Bool.false_or, Bool.or_true, Bool.true_or]
theorem sw43 : ((4 : Int32) < 3) = False := propext ⟨fun h => absurd h (by decide), fun h => h.elim⟩
theorem sw33 : ((3 : Int32) < 3) = False := propext ⟨fun h => absurd h (by decide), fun h => h.elim⟩
def swCC (O A B : swD) (n : Nat) : Nat := sw_sum n (fun s => (if swSC O A B (nI s) = true then 1 else 0) + sw_cnt 4 (fun j => swOC O A B (nI s) j))
theorem swCC_s (O A B : swD) (n : Nat) : swCC O A B (n + 1) = swCC O A B n + ((if swSC O A B (nI n) = true then 1 else 0) + sw_cnt 4 (fun j => swOC O A B (nI n) j)) := rfl
theorem swCC_le (O A B : swD) (n : Nat) : swCC O A B n ≤ n * 5 := sw_sum_le _ _ (fun k => by
  have := sw_cnt_le (fun j => swOC O A B (nI k) j) 4
  split <;> omega) n
theorem pc_CC1 {u : swU} {co ca cb : Nat} {O A B : swD} (hO : swcD u co O) (hA : swcD u ca A) (hB : swcD u cb B) (s : Int32) (acc : Nat) (r : Option Int32) (kk : Int32 → Int32 → Option Int32) (hk : ∀ v, kk (nI (acc + sw_cnt 4 (fun j => swOC O A B s j))) v = r) : xx1_countClashes_L23 u co ca cb s kk 64 (nI acc) 0 = r := by
  refine sw_up (fun f k => xx1_countClashes_L23 u co ca cb s kk f (nI (acc + sw_cnt k (fun j => swOC O A B s j))) (nI k)) 4 _ (fun f k hk => ?_) (fun f => ?_) (by omega)
  · show xx1_countClashes_L23 u co ca cb s kk (f + 1) _ (nI k) = xx1_countClashes_L23 u co ca cb s kk f (nI (acc + (sw_cnt k (fun j => swOC O A B s j) + if swOC O A B s k = true then 1 else 0))) (nI (k + 1))
    rw [xx1_countClashes_L23]
    cases h : swOC O A B s k
    · simp (disch := omega) only [swlt_e, swbd_e, swrd_n, swgd_n, nI_clamp, sw8m, sw4m, sw4r, nI_add, nI_1, swsub, swsubn, sw4le, swleI, swltI, sweqI, sweqm, sw0add, if_pos, if_neg, if_true, if_false, sw1n0, sw0n1, eq_self, ↓reduceIte, pc_OC hO hA hB s hk, h, swB0, eq_self, Bool.false_eq_true, Nat.add_zero]
    · simp (disch := omega) only [swlt_e, swbd_e, swrd_n, swgd_n, nI_clamp, sw8m, sw4m, sw4r, nI_add, nI_1, swsub, swsubn, sw4le, swleI, swltI, sweqI, sweqm, sw0add, if_pos, if_neg, if_true, if_false, sw1n0, sw0n1, eq_self, ↓reduceIte, pc_OC hO hA hB s hk, h, swB0, Bool.true_eq_false, Nat.add_assoc]
  · show xx1_countClashes_L23 u co ca cb s kk (f + 1) _ (nI 4) = r
    rw [xx1_countClashes_L23]
    simp (disch := omega) only [swlt_e, swbd_e, swrd_n, swgd_n, nI_clamp, sw8m, sw4m, sw4r, nI_add, nI_1, swsub, swsubn, sw4le, swleI, swltI, sweqI, sweqm, sw0add, if_pos, if_neg, if_true, if_false, sw1n0, sw0n1, eq_self, ↓reduceIte]
    exact hk _
theorem pc_CC {u : swU} {co ca cb : Nat} {O A B : swD} (hO : swcD u co O) (hA : swcD u ca A) (hB : swcD u cb B) {n : Nat} (hn : n ≤ 20) : xx1_countClashes u co ca cb (nI n) = some (nI (swCC O A B n)) := by
  unfold xx1_countClashes
  refine sw_up (fun f k => xx1_countClashes_L4 u co ca cb (nI n) (fun v2 v3 => some v2) f (nI (swCC O A B k)) (nI k)) n _ (fun f k hk => ?_) (fun f => ?_) (by omega)
  · show xx1_countClashes_L4 u co ca cb (nI n) _ (f + 1) _ (nI k) = xx1_countClashes_L4 u co ca cb (nI n) _ f (nI (swCC O A B (k + 1))) (nI (k + 1))
    rw [xx1_countClashes_L4]
    cases h : swSC O A B (nI k)
    · simp (disch := omega) only [swlt_e, swbd_e, swrd_n, swgd_n, nI_clamp, sw8m, sw4m, sw4r, nI_add, nI_1, swsub, swsubn, sw4le, swleI, swltI, sweqI, sweqm, sw0add, if_pos, if_neg, if_true, if_false, sw1n0, sw0n1, eq_self, ↓reduceIte, pc_SC hO hA hB, h, swB0, eq_self]
      refine pc_CC1 hO hA hB _ _ _ _ fun v => ?_
      rw [swCC_s, h]
      simp (disch := omega) only [swlt_e, swbd_e, swrd_n, swgd_n, nI_clamp, sw8m, sw4m, sw4r, nI_add, nI_1, swsub, swsubn, sw4le, swleI, swltI, sweqI, sweqm, sw0add, if_pos, if_neg, if_true, if_false, sw1n0, sw0n1, eq_self, ↓reduceIte, Bool.false_eq_true, Nat.zero_add]
    · simp (disch := omega) only [swlt_e, swbd_e, swrd_n, swgd_n, nI_clamp, sw8m, sw4m, sw4r, nI_add, nI_1, swsub, swsubn, sw4le, swleI, swltI, sweqI, sweqm, sw0add, if_pos, if_neg, if_true, if_false, sw1n0, sw0n1, eq_self, ↓reduceIte, pc_SC hO hA hB, h, swB0, Bool.true_eq_false]
      refine pc_CC1 hO hA hB _ _ _ _ fun v => ?_
      rw [swCC_s, h]
      simp (disch := omega) only [swlt_e, swbd_e, swrd_n, swgd_n, nI_clamp, sw8m, sw4m, sw4r, nI_add, nI_1, swsub, swsubn, sw4le, swleI, swltI, sweqI, sweqm, sw0add, if_pos, if_neg, if_true, if_false, sw1n0, sw0n1, eq_self, ↓reduceIte, eq_self, Nat.add_assoc]
  · show xx1_countClashes_L4 u co ca cb (nI n) _ (f + 1) _ (nI n) = some (nI (swCC O A B n))
    rw [xx1_countClashes_L4]
    simp (disch := omega) only [swlt_e, swbd_e, swrd_n, swgd_n, nI_clamp, sw8m, sw4m, sw4r, nI_add, nI_1, swsub, swsubn, sw4le, swleI, swltI, sweqI, sweqm, sw0add, if_pos, if_neg, if_true, if_false, sw1n0, sw0n1, eq_self, ↓reduceIte]
theorem swFT_lt {O A B : swD} {s : Int32} (h : ¬ (swhas A s = true ∧ swhas B s = true)) : swFT O A B s < 3 ∧ ∀ j, swOC O A B s j = false := by
  constructor
  · unfold swFT
    by_cases h1 : swhas A s = true
    · have h2 : ¬ swhas B s = true := fun z => h ⟨h1, z⟩
      rw [if_pos h1, if_neg h2]
      split
      · split <;> decide
      · decide
    · rw [if_neg h1]
      split
      · split
        · split <;> decide
        · decide
      · decide
  · intro j
    unfold swOC
    split
    · split
      · rename_i h1 h2
        exact absurd ⟨h1, h2⟩ h
      · rfl
    · rfl
theorem swFT_SC {O A B : swD} {s : Int32} : (swFT O A B s = -3) = (swSC O A B s = true) := by
  unfold swFT swSC
  cases h1 : swhas A s <;> cases h2 : swhas B s <;> cases h3 : swhas O s <;> cases h4 : swalk A O s <;> cases h5 : swalk B O s <;> simp
theorem pc_CS {u : swU} {co ca cb : Nat} {O A B : swD} (hO : swcD u co O) (hA : swcD u ca A) (hB : swcD u cb B) {n : Nat} (hn : n ≤ 20) (x : Int32) (t : Bool) (ht : (x = 1) = (t = true)) : xx1_countSlides u co ca cb (nI n) x = some (nI (sw_cnt n (fun s => swKP O A B (nI s) t))) := by
  unfold xx1_countSlides
  refine sw_up (fun f k => xx1_countSlides_L5 u co ca cb (nI n) x (fun v2 v3 => some v2) f (nI (sw_cnt k (fun s => swKP O A B (nI s) t))) (nI k)) n _ (fun f k hk => ?_) (fun f => ?_) (by omega)
  · show xx1_countSlides_L5 u co ca cb (nI n) x _ (f + 1) _ (nI k) = xx1_countSlides_L5 u co ca cb (nI n) x _ f (nI (sw_cnt k (fun s => swKP O A B (nI s) t) + if swKP O A B (nI k) t = true then 1 else 0)) (nI (k + 1))
    rw [xx1_countSlides_L5]
    cases h : swKP O A B (nI k) t
    · simp (disch := omega) only [swlt_e, swbd_e, swrd_n, swgd_n, nI_clamp, sw8m, sw4m, sw4r, nI_add, nI_1, swsub, swsubn, sw4le, swleI, swltI, sweqI, sweqm, sw0add, if_pos, if_neg, if_true, if_false, sw1n0, sw0n1, eq_self, ↓reduceIte, pc_KP hO hA hB _ x t ht, h, swB0, eq_self, Bool.false_eq_true, Nat.add_zero]
    · simp (disch := omega) only [swlt_e, swbd_e, swrd_n, swgd_n, nI_clamp, sw8m, sw4m, sw4r, nI_add, nI_1, swsub, swsubn, sw4le, swleI, swltI, sweqI, sweqm, sw0add, if_pos, if_neg, if_true, if_false, sw1n0, sw0n1, eq_self, ↓reduceIte, pc_KP hO hA hB _ x t ht, h, swB0, Bool.true_eq_false]
  · show xx1_countSlides_L5 u co ca cb (nI n) x _ (f + 1) _ (nI n) = _
    rw [xx1_countSlides_L5]
    simp (disch := omega) only [swlt_e, swbd_e, swrd_n, swgd_n, nI_clamp, sw8m, sw4m, sw4r, nI_add, nI_1, swsub, swsubn, sw4le, swleI, swltI, sweqI, sweqm, sw0add, if_pos, if_neg, if_true, if_false, sw1n0, sw0n1, eq_self, ↓reduceIte]

