/-! ===== a picture that grows by a code; arrays of references, made ===== -/
theorem swP.grow {D : va_G} {N : Nat → Bool} {ad : Nat → Nat} {cel : Nat → va_E} {H H1 : Heap} (h : swP D N ad cel H) {cd q : Nat} {e : va_E} (he : va_at D vwCl (q, e) H1) (hk : ∀ c, N c = true → H1[ad c]? = H[ad c]?) : swP D (va_up N cd true) (va_up ad cd q) (va_up cel cd e) H1 := by
  intro c hc
  by_cases hcd : c = cd
  · subst hcd
    rw [va_up_self, va_up_self]
    exact he
  · rw [va_up_ne _ _ hcd] at hc
    rw [va_up_ne _ _ hcd, va_up_ne _ _ hcd]
    exact (h c hc).kept (hk c hc)
theorem swJ.grow {N : Nat → Bool} {ad : Nat → Nat} (hJ : swJ N ad) {cd q : Nat} (hq : ∀ c, N c = true → ad c ≠ q) : swJ (va_up N cd true) (va_up ad cd q) := by
  intro c d hc hd he
  by_cases h1 : c = cd
  · by_cases h2 : d = cd
    · exact h1.trans h2.symm
    · rw [va_up_ne _ _ h2] at hd
      rw [h1, va_up_self, va_up_ne _ _ h2] at he
      exact absurd he.symm (hq d hd)
  · rw [va_up_ne _ _ h1] at hc
    by_cases h2 : d = cd
    · rw [h2, va_up_self, va_up_ne _ _ h1] at he
      exact absurd he (hq c hc)
    · rw [va_up_ne _ _ h2] at hd
      rw [va_up_ne _ _ h1, va_up_ne _ _ h2] at he
      exact hJ c d hc hd he
theorem sw_cO {s : State} {a b : ClassId} {C : String} (h1 : va_RA s a (.object C)) (h2 : va_RA s b (.object C)) : a = b := by
  obtain ⟨-, -, -, -, -, e1⟩ := h1
  obtain ⟨-, -, -, -, -, e2⟩ := h2
  exact Option.some.inj (e1.symm.trans e2)
section NEWQROWS
variable {p : Program} {l : Launch} {e : Env} {R : Room} {s : State} {m : MethodId} {args : Array Value} {below : List Frame} {meth : Method} {c : Code} {H : Heap} {locs : List Loc} {cells slots : Nat} {Q : State → Prop}
variable {cc : ByteArray} {pc : Nat} {ls : Array Slot} {rest : List Value} {D : va_G} {cy : Nat → ClassId} {A : Nat → Prop} {ws : va_W} {H0 : Heap}
theorem sw_newqL (hexec : p.tables.exec = Jvm.exec) (hb : c.code = cc) {own C : String} {index : Nat} (hown : s.vm.findClass own = some m.cls) (hclink : (Cond.classLink own index C).before args s = true) (hover : va_AO C s) {cA0 : ClassId} (t : Nat) (ht : (swT cy)[t]? = some (cA0, .object C)) (hK : swK D cy s) (hP : va_P D vwCl ws H) (hD : va_D A ws) (hS : va_S A H0 H locs) (hA : ∀ q, H0.size ≤ q → A q)
    {n : Int32} {N' : Nat} (hn : ¬ n < 0) (hN : n.toNatClampNeg = N') (hbytes : N' * 4 ≤ 536870912) (hcells : cells + 1 ≤ R.cells) (hslots : slots + N' ≤ R.slots) (hdg : decode cc pc = .ok (.anewarray index, 3))
    (kk : ∀ (q : Nat) (H1 : Heap), va_P D vwCl (ws ++ [(q, .inl (cA0, N', .inr (.inr (.inr (.inr (fun _ => none))))))]) H1 → va_D A (ws ++ [(q, .inl (cA0, N', .inr (.inr (.inr (.inr (fun _ => none))))))]) → va_S A H0 H1 locs →
      W p l e R s m args below meth c H1 locs (cells + 1) (slots + N') Q (F0 m (pc + 3) ls (.ref q :: rest))) : W p l e R s m args below meth c H locs cells slots Q (F0 m pc ls (.int n :: rest)) := by
  refine va_newq hexec hb hown hclink hover hK hP hD hS hA hn hN hbytes hcells hslots hdg (fun q cA H1 hK1 h1 h2 h3 => ?_)
  have e : cA = cA0 := sw_cO (hK1.2 6 (cA, .object C) rfl).2 (hK.2 t _ ht).2
  subst e
  exact kk q H1 h1 h2 h3
end NEWQROWS
