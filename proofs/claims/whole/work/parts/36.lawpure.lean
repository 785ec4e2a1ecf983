/-! ===== the calls, as the law makes them; the states that the constructors leave ===== -/
def swOK (X : Option (Int32 × (Nat → Int64) × swU)) (Y : Option (Int32 × swU)) : Prop := ∃ k f' u' b w', X = some (k, f', u') ∧ Y = some (b, w') ∧ w'.1 0 0 = k ∧ (k = 0 → f' 0 = b.toInt64) ∧ swRl u' w'
theorem sw_upd0 (f : Nat → Int64) (x : Int64) : vp_updL f 0 x 0 = x := by
  unfold vp_updL
  simp
theorem xq_branch {u w : swU} (h : swRl u w) (x1 : Int32) (f : Nat → Int64) : swOK (xl_branch u x1 f) (mx_branch w x1) := by
  obtain ⟨c, r, u', b, w', hX, hY, hal, hr, hR⟩ := op_branch h x1
  simp only [List.mem_cons, Prod.mk.injEq, List.not_mem_nil, or_false] at hal
  rcases hal with ⟨rfl, ht⟩ | ⟨rfl, ht⟩ | ⟨rfl, ht⟩
  · refine ⟨0, vp_updL f 0 r.toInt64, u', b, w', ?_, hY, ht, fun _ => ?_, hR⟩
    · unfold xl_branch
      rw [hX]
      rfl
    · rw [sw_upd0, hr rfl]
  · refine ⟨1, f, u', b, w', ?_, hY, ht, fun z => absurd z (by decide), hR⟩
    unfold xl_branch
    rw [hX]
    rfl
  · refine ⟨2, f, u', b, w', ?_, hY, ht, fun z => absurd z (by decide), hR⟩
    unfold xl_branch
    rw [hX]
    rfl
theorem xq_add {u w : swU} (h : swRl u w) (x1 x2 : Int32) (f : Nat → Int64) : swOK (xl_add u x1 x2 f) (mx_add w x1 x2) := by
  obtain ⟨c, r, u', b, w', hX, hY, hal, hr, hR⟩ := op_add h x1 x2
  simp only [List.mem_cons, Prod.mk.injEq, List.not_mem_nil, or_false] at hal
  rcases hal with ⟨rfl, ht⟩ | ⟨rfl, ht⟩ | ⟨rfl, ht⟩
  · refine ⟨0, vp_updL f 0 r.toInt64, u', b, w', ?_, hY, ht, fun _ => ?_, hR⟩
    · unfold xl_add
      rw [hX]
      rfl
    · rw [sw_upd0, hr rfl]
  · refine ⟨1, f, u', b, w', ?_, hY, ht, fun z => absurd z (by decide), hR⟩
    unfold xl_add
    rw [hX]
    rfl
  · refine ⟨2, f, u', b, w', ?_, hY, ht, fun z => absurd z (by decide), hR⟩
    unfold xl_add
    rw [hX]
    rfl
theorem xq_set {u w : swU} (h : swRl u w) (x1 x2 x3 x4 : Int32) (f : Nat → Int64) : swOK (xl_set u x1 x2 x3 x4 f) (mx_set w x1 x2 x3 x4) := by
  obtain ⟨c, r, u', b, w', hX, hY, hal, hr, hR⟩ := op_set h x1 x2 x3 x4
  simp only [List.mem_cons, Prod.mk.injEq, List.not_mem_nil, or_false] at hal
  rcases hal with ⟨rfl, ht⟩ | ⟨rfl, ht⟩ | ⟨rfl, ht⟩ | ⟨rfl, ht⟩
  · refine ⟨0, vp_updL f 0 r.toInt64, u', b, w', ?_, hY, ht, fun _ => ?_, hR⟩
    · unfold xl_set
      rw [hX]
      rfl
    · rw [sw_upd0, hr rfl]
  · refine ⟨1, f, u', b, w', ?_, hY, ht, fun z => absurd z (by decide), hR⟩
    unfold xl_set
    rw [hX]
    rfl
  · refine ⟨2, f, u', b, w', ?_, hY, ht, fun z => absurd z (by decide), hR⟩
    unfold xl_set
    rw [hX]
    rfl
  · refine ⟨3, f, u', b, w', ?_, hY, ht, fun z => absurd z (by decide), hR⟩
    unfold xl_set
    rw [hX]
    rfl
theorem xq_drop {u w : swU} (h : swRl u w) (x1 x2 : Int32) (f : Nat → Int64) : swOK (xl_drop u x1 x2 f) (mx_drop w x1 x2) := by
  obtain ⟨c, r, u', b, w', hX, hY, hal, hr, hR⟩ := op_drop h x1 x2
  simp only [List.mem_cons, Prod.mk.injEq, List.not_mem_nil, or_false] at hal
  rcases hal with ⟨rfl, ht⟩ | ⟨rfl, ht⟩ | ⟨rfl, ht⟩
  · refine ⟨0, vp_updL f 0 r.toInt64, u', b, w', ?_, hY, ht, fun _ => ?_, hR⟩
    · unfold xl_drop
      rw [hX]
      rfl
    · rw [sw_upd0, hr rfl]
  · refine ⟨1, f, u', b, w', ?_, hY, ht, fun z => absurd z (by decide), hR⟩
    unfold xl_drop
    rw [hX]
    rfl
  · refine ⟨2, f, u', b, w', ?_, hY, ht, fun z => absurd z (by decide), hR⟩
    unfold xl_drop
    rw [hX]
    rfl
theorem xq_head {u w : swU} (h : swRl u w) (x1 : Int32) (f : Nat → Int64) : swOK (xl_head u x1 f) (mx_head w x1) := by
  obtain ⟨c, r, u', b, w', hX, hY, hal, hr, hR⟩ := op_head h x1
  simp only [List.mem_cons, Prod.mk.injEq, List.not_mem_nil, or_false] at hal
  rcases hal with ⟨rfl, ht⟩ | ⟨rfl, ht⟩
  · refine ⟨0, vp_updL f 0 r.toInt64, u', b, w', ?_, hY, ht, fun _ => ?_, hR⟩
    · unfold xl_head
      rw [hX]
      rfl
    · rw [sw_upd0, hr rfl]
  · refine ⟨1, f, u', b, w', ?_, hY, ht, fun z => absurd z (by decide), hR⟩
    unfold xl_head
    rw [hX]
    rfl
theorem xq_about {u w : swU} (h : swRl u w) (x1 x2 : Int32) (f : Nat → Int64) : swOK (xl_about u x1 x2 f) (mx_about w x1 x2) := by
  obtain ⟨c, r, u', b, w', hX, hY, hal, hr, hR⟩ := op_about h x1 x2
  simp only [List.mem_cons, Prod.mk.injEq, List.not_mem_nil, or_false] at hal
  rcases hal with ⟨rfl, ht⟩ | ⟨rfl, ht⟩ | ⟨rfl, ht⟩
  · refine ⟨0, vp_updL f 0 r.toInt64, u', b, w', ?_, hY, ht, fun _ => ?_, hR⟩
    · unfold xl_about
      rw [hX]
      rfl
    · rw [sw_upd0, hr rfl]
  · refine ⟨1, f, u', b, w', ?_, hY, ht, fun z => absurd z (by decide), hR⟩
    unfold xl_about
    rw [hX]
    rfl
  · refine ⟨2, f, u', b, w', ?_, hY, ht, fun z => absurd z (by decide), hR⟩
    unfold xl_about
    rw [hX]
    rfl
theorem xq_value {u w : swU} (h : swRl u w) (x1 x2 x3 : Int32) (f : Nat → Int64) : swOK (xl_value u x1 x2 x3 f) (mx_value w x1 x2 x3) := by
  obtain ⟨c, r, u', b, w', hX, hY, hal, hr, hR⟩ := op_value h x1 x2 x3
  simp only [List.mem_cons, Prod.mk.injEq, List.not_mem_nil, or_false] at hal
  rcases hal with ⟨rfl, ht⟩ | ⟨rfl, ht⟩
  · refine ⟨0, vp_updL f 0 r.toInt64, u', b, w', ?_, hY, ht, fun _ => ?_, hR⟩
    · unfold xl_value
      rw [hX]
      rfl
    · rw [sw_upd0, hr rfl]
  · refine ⟨1, f, u', b, w', ?_, hY, ht, fun z => absurd z (by decide), hR⟩
    unfold xl_value
    rw [hX]
    rfl
theorem xq_slideAt {u w : swU} (h : swRl u w) (x1 x2 : Int32) (f : Nat → Int64) : swOK (xl_slideAt u x1 x2 f) (mx_slideAt w x1 x2) := by
  obtain ⟨c, r, u', b, w', hX, hY, hal, hr, hR⟩ := op_slideAt h x1 x2
  simp only [List.mem_cons, Prod.mk.injEq, List.not_mem_nil, or_false] at hal
  rcases hal with ⟨rfl, ht⟩ | ⟨rfl, ht⟩
  · refine ⟨0, vp_updL f 0 r.toInt64, u', b, w', ?_, hY, ht, fun _ => ?_, hR⟩
    · unfold xl_slideAt
      rw [hX]
      rfl
    · rw [sw_upd0, hr rfl]
  · refine ⟨1, f, u', b, w', ?_, hY, ht, fun z => absurd z (by decide), hR⟩
    unfold xl_slideAt
    rw [hX]
    rfl
theorem xq_base {u w : swU} (h : swRl u w) (x1 x2 : Int32) (f : Nat → Int64) : swOK (xl_base u x1 x2 f) (mx_base w x1 x2) := by
  obtain ⟨c, r, u', b, w', hX, hY, hal, hr, hR⟩ := op_base h x1 x2
  simp only [List.mem_cons, Prod.mk.injEq, List.not_mem_nil, or_false] at hal
  rcases hal with ⟨rfl, ht⟩ | ⟨rfl, ht⟩ | ⟨rfl, ht⟩
  · refine ⟨0, vp_updL f 0 r.toInt64, u', b, w', ?_, hY, ht, fun _ => ?_, hR⟩
    · unfold xl_base
      rw [hX]
      rfl
    · rw [sw_upd0, hr rfl]
  · refine ⟨1, f, u', b, w', ?_, hY, ht, fun z => absurd z (by decide), hR⟩
    unfold xl_base
    rw [hX]
    rfl
  · refine ⟨2, f, u', b, w', ?_, hY, ht, fun z => absurd z (by decide), hR⟩
    unfold xl_base
    rw [hX]
    rfl
theorem xq_clashes {u w : swU} (h : swRl u w) (x1 x2 : Int32) (f : Nat → Int64) : swOK (xl_clashes u x1 x2 f) (mx_clashes w x1 x2) := by
  obtain ⟨c, r, u', b, w', hX, hY, hal, hr, hR⟩ := op_clashes h x1 x2
  simp only [List.mem_cons, Prod.mk.injEq, List.not_mem_nil, or_false] at hal
  rcases hal with ⟨rfl, ht⟩ | ⟨rfl, ht⟩ | ⟨rfl, ht⟩
  · refine ⟨0, vp_updL f 0 r.toInt64, u', b, w', ?_, hY, ht, fun _ => ?_, hR⟩
    · unfold xl_clashes
      rw [hX]
      rfl
    · rw [sw_upd0, hr rfl]
  · refine ⟨1, f, u', b, w', ?_, hY, ht, fun z => absurd z (by decide), hR⟩
    unfold xl_clashes
    rw [hX]
    rfl
  · refine ⟨2, f, u', b, w', ?_, hY, ht, fun z => absurd z (by decide), hR⟩
    unfold xl_clashes
    rw [hX]
    rfl
theorem xq_merged {u w : swU} (h : swRl u w) (x1 x2 x3 x4 x5 : Int32) (f : Nat → Int64) : swOK (xl_merged u x1 x2 x3 x4 x5 f) (mx_merged w x1 x2 x3 x4 x5) := by
  obtain ⟨c, r, u', b, w', hX, hY, hal, hr, hR⟩ := op_merged h x1 x2 x3 x4 x5
  simp only [List.mem_cons, Prod.mk.injEq, List.not_mem_nil, or_false] at hal
  rcases hal with ⟨rfl, ht⟩ | ⟨rfl, ht⟩ | ⟨rfl, ht⟩
  · refine ⟨0, vp_updL f 0 r.toInt64, u', b, w', ?_, hY, ht, fun _ => ?_, hR⟩
    · unfold xl_merged
      rw [hX]
      rfl
    · rw [sw_upd0, hr rfl]
  · refine ⟨1, f, u', b, w', ?_, hY, ht, fun z => absurd z (by decide), hR⟩
    unfold xl_merged
    rw [hX]
    rfl
  · refine ⟨2, f, u', b, w', ?_, hY, ht, fun z => absurd z (by decide), hR⟩
    unfold xl_merged
    rw [hX]
    rfl
theorem xq_merge {u w : swU} (h : swRl u w) (x1 x2 x3 : Int32) (f : Nat → Int64) : swOK (xl_merge u x1 x2 x3 f) (mx_merge w x1 x2 x3) := by
  obtain ⟨c, r, u', b, w', hX, hY, hal, hr, hR⟩ := op_merge h x1 x2 x3
  simp only [List.mem_cons, Prod.mk.injEq, List.not_mem_nil, or_false] at hal
  rcases hal with ⟨rfl, ht⟩ | ⟨rfl, ht⟩ | ⟨rfl, ht⟩ | ⟨rfl, ht⟩
  · refine ⟨0, vp_updL f 0 r.toInt64, u', b, w', ?_, hY, ht, fun _ => ?_, hR⟩
    · unfold xl_merge
      rw [hX]
      rfl
    · rw [sw_upd0, hr rfl]
  · refine ⟨1, f, u', b, w', ?_, hY, ht, fun z => absurd z (by decide), hR⟩
    unfold xl_merge
    rw [hX]
    rfl
  · refine ⟨2, f, u', b, w', ?_, hY, ht, fun z => absurd z (by decide), hR⟩
    unfold xl_merge
    rw [hX]
    rfl
  · refine ⟨3, f, u', b, w', ?_, hY, ht, fun z => absurd z (by decide), hR⟩
    unfold xl_merge
    rw [hX]
    rfl
theorem xq_rule {u w : swU} (h : swRl u w) (x1 x2 x3 x4 : Int32) (f : Nat → Int64) : swOK (xl_rule u x1 x2 x3 x4 f) (mx_rule w x1 x2 x3 x4) := by
  obtain ⟨c, r, u', b, w', hX, hY, hal, hr, hR⟩ := op_rule h x1 x2 x3 x4
  simp only [List.mem_cons, Prod.mk.injEq, List.not_mem_nil, or_false] at hal
  rcases hal with ⟨rfl, ht⟩ | ⟨rfl, ht⟩ | ⟨rfl, ht⟩ | ⟨rfl, ht⟩
  · refine ⟨0, vp_updL f 0 r.toInt64, u', b, w', ?_, hY, ht, fun _ => ?_, hR⟩
    · unfold xl_rule
      rw [hX]
      rfl
    · rw [sw_upd0, hr rfl]
  · refine ⟨1, f, u', b, w', ?_, hY, ht, fun z => absurd z (by decide), hR⟩
    unfold xl_rule
    rw [hX]
    rfl
  · refine ⟨2, f, u', b, w', ?_, hY, ht, fun z => absurd z (by decide), hR⟩
    unfold xl_rule
    rw [hX]
    rfl
  · refine ⟨3, f, u', b, w', ?_, hY, ht, fun z => absurd z (by decide), hR⟩
    unfold xl_rule
    rw [hX]
    rfl
theorem xq_tighten {u w : swU} (h : swRl u w) (x1 x2 x3 : Int32) (f : Nat → Int64) : swOK (xl_tighten u x1 x2 x3 f) (mx_tighten w x1 x2 x3) := by
  obtain ⟨c, r, u', b, w', hX, hY, hal, hr, hR⟩ := op_tighten h x1 x2 x3
  simp only [List.mem_cons, Prod.mk.injEq, List.not_mem_nil, or_false] at hal
  rcases hal with ⟨rfl, ht⟩ | ⟨rfl, ht⟩ | ⟨rfl, ht⟩
  · refine ⟨0, vp_updL f 0 r.toInt64, u', b, w', ?_, hY, ht, fun _ => ?_, hR⟩
    · unfold xl_tighten
      rw [hX]
      rfl
    · rw [sw_upd0, hr rfl]
  · refine ⟨1, f, u', b, w', ?_, hY, ht, fun z => absurd z (by decide), hR⟩
    unfold xl_tighten
    rw [hX]
    rfl
  · refine ⟨2, f, u', b, w', ?_, hY, ht, fun z => absurd z (by decide), hR⟩
    unfold xl_tighten
    rw [hX]
    rfl
theorem xq_waive {u w : swU} (h : swRl u w) (x1 x2 x3 : Int32) (f : Nat → Int64) : swOK (xl_waive u x1 x2 x3 f) (mx_waive w x1 x2 x3) := by
  obtain ⟨c, r, u', b, w', hX, hY, hal, hr, hR⟩ := op_waive h x1 x2 x3
  simp only [List.mem_cons, Prod.mk.injEq, List.not_mem_nil, or_false] at hal
  rcases hal with ⟨rfl, ht⟩ | ⟨rfl, ht⟩ | ⟨rfl, ht⟩ | ⟨rfl, ht⟩
  · refine ⟨0, vp_updL f 0 r.toInt64, u', b, w', ?_, hY, ht, fun _ => ?_, hR⟩
    · unfold xl_waive
      rw [hX]
      rfl
    · rw [sw_upd0, hr rfl]
  · refine ⟨1, f, u', b, w', ?_, hY, ht, fun z => absurd z (by decide), hR⟩
    unfold xl_waive
    rw [hX]
    rfl
  · refine ⟨2, f, u', b, w', ?_, hY, ht, fun z => absurd z (by decide), hR⟩
    unfold xl_waive
    rw [hX]
    rfl
  · refine ⟨3, f, u', b, w', ?_, hY, ht, fun z => absurd z (by decide), hR⟩
    unfold xl_waive
    rw [hX]
    rfl
theorem xq_blocks {u w : swU} (h : swRl u w) (x1 : Int32) (f : Nat → Int64) : swOK (xl_blocks u x1 f) (mx_blocks w x1) := by
  obtain ⟨c, r, u', b, w', hX, hY, hal, hr, hR⟩ := op_blocks h x1
  simp only [List.mem_cons, Prod.mk.injEq, List.not_mem_nil, or_false] at hal
  rcases hal with ⟨rfl, ht⟩ | ⟨rfl, ht⟩
  · refine ⟨0, vp_updL f 0 r.toInt64, u', b, w', ?_, hY, ht, fun _ => ?_, hR⟩
    · unfold xl_blocks
      rw [hX]
      rfl
    · rw [sw_upd0, hr rfl]
  · refine ⟨1, f, u', b, w', ?_, hY, ht, fun z => absurd z (by decide), hR⟩
    unfold xl_blocks
    rw [hX]
    rfl
theorem xq_warnings {u w : swU} (h : swRl u w) (x1 : Int32) (f : Nat → Int64) : swOK (xl_warnings u x1 f) (mx_warnings w x1) := by
  obtain ⟨c, r, u', b, w', hX, hY, hal, hr, hR⟩ := op_warnings h x1
  simp only [List.mem_cons, Prod.mk.injEq, List.not_mem_nil, or_false] at hal
  rcases hal with ⟨rfl, ht⟩ | ⟨rfl, ht⟩
  · refine ⟨0, vp_updL f 0 r.toInt64, u', b, w', ?_, hY, ht, fun _ => ?_, hR⟩
    · unfold xl_warnings
      rw [hX]
      rfl
    · rw [sw_upd0, hr rfl]
  · refine ⟨1, f, u', b, w', ?_, hY, ht, fun z => absurd z (by decide), hR⟩
    unfold xl_warnings
    rw [hX]
    rfl
theorem xq_firstBlock {u w : swU} (h : swRl u w) (x1 : Int32) (f : Nat → Int64) : swOK (xl_firstBlock u x1 f) (mx_firstBlock w x1) := by
  obtain ⟨c, r, u', b, w', hX, hY, hal, hr, hR⟩ := op_firstBlock h x1
  simp only [List.mem_cons, Prod.mk.injEq, List.not_mem_nil, or_false] at hal
  rcases hal with ⟨rfl, ht⟩ | ⟨rfl, ht⟩
  · refine ⟨0, vp_updL f 0 r.toInt64, u', b, w', ?_, hY, ht, fun _ => ?_, hR⟩
    · unfold xl_firstBlock
      rw [hX]
      rfl
    · rw [sw_upd0, hr rfl]
  · refine ⟨1, f, u', b, w', ?_, hY, ht, fun z => absurd z (by decide), hR⟩
    unfold xl_firstBlock
    rw [hX]
    rfl
theorem xq_show {u w : swU} (h : swRl u w) (x1 : Int32) (f : Nat → Int64) : swOK (xl_show u x1 f) (mx_show w x1) := by
  obtain ⟨c, r, u', b, w', hX, hY, hal, hr, hR⟩ := op_show h x1
  simp only [List.mem_cons, Prod.mk.injEq, List.not_mem_nil, or_false] at hal
  rcases hal with ⟨rfl, ht⟩ | ⟨rfl, ht⟩ | ⟨rfl, ht⟩
  · refine ⟨0, vp_updL f 0 r.toInt64, u', b, w', ?_, hY, ht, fun _ => ?_, hR⟩
    · unfold xl_show
      rw [hX]
      rfl
    · rw [sw_upd0, hr rfl]
  · refine ⟨1, f, u', b, w', ?_, hY, ht, fun z => absurd z (by decide), hR⟩
    unfold xl_show
    rw [hX]
    rfl
  · refine ⟨2, f, u', b, w', ?_, hY, ht, fun z => absurd z (by decide), hR⟩
    unfold xl_show
    rw [hX]
    rfl
theorem xq_shown {u w : swU} (h : swRl u w) (x1 : Int32) (f : Nat → Int64) : swOK (xl_shown u x1 f) (mx_shown w x1) := by
  obtain ⟨c, r, u', b, w', hX, hY, hal, hr, hR⟩ := op_shown h x1
  simp only [List.mem_cons, Prod.mk.injEq, List.not_mem_nil, or_false] at hal
  rcases hal with ⟨rfl, ht⟩ | ⟨rfl, ht⟩
  · refine ⟨0, vp_updL f 0 r.toInt64, u', b, w', ?_, hY, ht, fun _ => ?_, hR⟩
    · unfold xl_shown
      rw [hX]
      rfl
    · rw [sw_upd0, hr rfl]
  · refine ⟨1, f, u', b, w', ?_, hY, ht, fun z => absurd z (by decide), hR⟩
    unfold xl_shown
    rw [hX]
    rfl
theorem xq_pass {u w : swU} (h : swRl u w) (x1 : Int32) (f : Nat → Int64) : swOK (xl_pass u x1 f) (mx_pass w x1) := by
  obtain ⟨c, r, u', b, w', hX, hY, hal, hr, hR⟩ := op_pass h x1
  simp only [List.mem_cons, Prod.mk.injEq, List.not_mem_nil, or_false] at hal
  rcases hal with ⟨rfl, ht⟩ | ⟨rfl, ht⟩ | ⟨rfl, ht⟩
  · refine ⟨0, vp_updL f 0 r.toInt64, u', b, w', ?_, hY, ht, fun _ => ?_, hR⟩
    · unfold xl_pass
      rw [hX]
      rfl
    · rw [sw_upd0, hr rfl]
  · refine ⟨1, f, u', b, w', ?_, hY, ht, fun z => absurd z (by decide), hR⟩
    unfold xl_pass
    rw [hX]
    rfl
  · refine ⟨2, f, u', b, w', ?_, hY, ht, fun z => absurd z (by decide), hR⟩
    unfold xl_pass
    rw [hX]
    rfl
def swcI (u : swU) : Prop := u.1 0 6 = 1 ∧ u.1 0 7 = 1 ∧ u.1 0 8 = 0 ∧ u.1 0 9 = 0 ∧ u.1 0 10 = 0 ∧ u.1 0 11 = 0 ∧ u.1 1 0 = 0 ∧ (∀ b, b < 6 → u.1 2 b = -1) ∧ u.1 100 1 = 0 ∧ u.1 100 2 = -1 ∧ u.1 100 3 = -1 ∧ u.2 100 = 1 ∧ u.1 200 2 = 0
def swmI (w : swU) : Prop := w.1 0 1 = 1 ∧ w.1 0 9 = 1 ∧ w.1 0 8 = 0 ∧ w.1 0 12 = 0 ∧ w.1 0 17 = 0 ∧ w.1 0 21 = 0 ∧ w.1 10 0 = 0 ∧ (∀ b, b < 6 → w.1 11 b = -1) ∧ w.1 2 0 = 0 ∧ w.1 3 0 = -1 ∧ w.1 4 0 = -1 ∧ w.1 5 0 = 0
theorem swRl_init {u w : swU} (hu : swcI u) (hw : swmI w) : swRl u w := by
  obtain ⟨u1, u2, u3, u4, u5, u6, u7, u8, u9, u10, u11, u12, u13⟩ := hu
  obtain ⟨w1, w2, w3, w4, w5, w6, w7, w8, w9, w10, w11, w12⟩ := hw
  refine ⟨1, 1, 0, fun _ => 0, fun _ => -1, fun _ => 0, fun _ => -1, fun _ => -1, fun _ => 1, fun _ => (0, fun _ => 0, fun _ _ => 0), (0, fun _ _ => 0, 0, fun _ _ => 0, 0), ⟨Nat.le_refl 1, by omega, u1, w1⟩, ⟨Nat.le_refl 1, by omega, u2, w2⟩, ⟨Nat.zero_le _, u3, w3⟩, fun b hb => ?_, fun b hb => ⟨u8 b hb, w8 b hb, Or.inl rfl⟩, fun v hv => ?_, fun v hv => ⟨Or.inl rfl, Or.inl rfl, fun k => ?_⟩, fun v hv => ?_, ⟨?_, ?_, Nat.zero_le _⟩⟩
  · obtain rfl : b = 0 := by omega
    exact ⟨by omega, u7, w7⟩
  · obtain rfl : v = 0 := by omega
    exact ⟨u9, u10, u11, w9, w10, w11, u12⟩
  · obtain rfl : v = 0 := by omega
    constructor
    · intro hk
      by_cases e : k = 0
      · exact Or.inl e
      · exfalso
        have hk2 : (1 : Nat).testBit k = true := hk
        have : (1 : Nat).testBit k = false := Nat.testBit_lt_two_pow (Nat.lt_of_lt_of_le (show 1 < 2 ^ 1 by omega) (Nat.pow_le_pow_right (by omega) (by omega)))
        rw [this] at hk2
        cases hk2
    · rintro (e | ⟨c, hc, -⟩ | ⟨c, hc, -⟩)
      · rw [e]
        rfl
      · omega
      · omega
  · obtain rfl : v = 0 := by omega
    exact ⟨⟨Nat.zero_le _, u13, fun k hk => absurd hk (Nat.not_lt_zero k), fun k hk => absurd hk (Nat.not_lt_zero k)⟩, ⟨by omega, Nat.zero_le _, w12, fun k hk => absurd hk (Nat.not_lt_zero k), fun k hk => absurd hk (Nat.not_lt_zero k)⟩, fun k hk => absurd hk (Nat.not_lt_zero k), fun k hk => absurd hk (Nat.not_lt_zero k), fun j k hj => absurd hj (Nat.not_lt_zero j)⟩
  · exact ⟨Nat.zero_le _, u4, fun k hk => absurd hk (Nat.not_lt_zero k), fun k hk => absurd hk (Nat.not_lt_zero k), Nat.zero_le _, u5, fun k hk => absurd hk (Nat.not_lt_zero k), u6⟩
  · exact ⟨Nat.zero_le _, w4, fun k hk => absurd hk (Nat.not_lt_zero k), fun k hk => absurd hk (Nat.not_lt_zero k), Nat.zero_le _, w5, fun k hk => absurd hk (Nat.not_lt_zero k), w6⟩
