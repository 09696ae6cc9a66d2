theorem gStep_op : pAll 30 (fun q => pAll 127 (fun c => decide ((gStep q c).2.1 ≤ 5))) = true := by decide +kernel
theorem gStep_le {q c : Nat} (hq : q < 30) (hc : c < 127) : (gStep q c).2.1 ≤ 5 := by
  have := pAll_ok _ _ (pAll_ok _ _ gStep_op q hq) c hc
  simpa using this
/-- the array of states holds the stack L, its top at T -/
def Stk (f : Nat → Int32) (T : Nat) (L : List Nat) : Prop := L.length = T + 1 ∧ ∀ j, j < T + 1 → f j = nI (L.getD j 0)
theorem dl_get {L S : List Nat} {T j : Nat} (hL : L.length = T + 1) (hj : j < T) : (L.dropLast ++ S).getD j 0 = L.getD j 0 := by
  simp only [List.getD_eq_getElem?_getD]
  rw [List.getElem?_append_left (by simp; omega), List.getElem?_dropLast, if_pos (by omega)]
theorem dl_at {L S : List Nat} {T i : Nat} (hL : L.length = T + 1) : (L.dropLast ++ S).getD (T + i) 0 = S.getD i 0 := by
  simp only [List.getD_eq_getElem?_getD]
  rw [List.getElem?_append_right (by simp; omega)]
  simp [hL]
theorem Stk.step {f f' : Nat → Int32} {T T' : Nat} {L : List Nat} {o : PO} (h : Stk f T L) (hp : PSt T f f' T' o) (h0 : o.2.1 ≠ 0) (h5 : o.2.1 ≤ 5) (h3 : o.2.1 = 3 → 0 < T) : Stk f' T' (sAp o L) := by
  obtain ⟨hL, hf⟩ := h
  obtain ⟨k0, k1, k2, k3, k4, k5⟩ := hp
  have lo : ∀ (S : List Nat) (j : Nat), j < T → f' j = nI ((L.dropLast ++ S).getD j 0) := fun S j hj => by rw [dl_get hL hj, k0 j hj]; exact hf j (by omega)
  unfold sAp
  by_cases c1 : o.2.1 = 1 ∨ o.2.1 = 4
  · rw [if_pos c1]
    have hh : T' = T ∧ f' T = nI o.2.2.1 := c1.elim k1 k4
    obtain ⟨e1, e2⟩ := hh
    subst e1
    refine ⟨by simp [hL], fun j hj => ?_⟩
    rcases Nat.lt_succ_iff_lt_or_eq.mp hj with q | q
    · exact lo _ j q
    · subst q
      have := dl_at (S := [o.2.2.1]) (i := 0) hL
      rw [Nat.add_zero] at this
      rw [this, e2]
      rfl
  · rw [if_neg c1]
    by_cases c2 : o.2.1 = 2
    · rw [if_pos c2]
      obtain ⟨e1, e2, e3⟩ := k2 c2
      subst e1
      refine ⟨by simp [hL], fun j hj => ?_⟩
      rcases Nat.lt_succ_iff_lt_or_eq.mp hj with q | q
      · rcases Nat.lt_succ_iff_lt_or_eq.mp q with r | r
        · exact lo _ j r
        · subst r
          have := dl_at (S := [o.2.2.1, o.2.2.2]) (i := 0) hL
          rw [Nat.add_zero] at this
          rw [this, e2]
          rfl
      · subst q
        rw [dl_at hL, e3]
        rfl
    · rw [if_neg c2]
      by_cases c3 : o.2.1 = 3
      · rw [if_pos c3]
        have e1 := k3 c3
        have := h3 c3
        refine ⟨by simp [hL]; omega, fun j hj => ?_⟩
        have := lo [] j (by omega)
        rw [List.append_nil] at this
        exact this
      · rw [if_neg c3]
        obtain ⟨e1, e2⟩ := k5 (by omega)
        subst e1
        refine ⟨hL, fun j hj => ?_⟩
        rcases Nat.lt_succ_iff_lt_or_eq.mp hj with q | q
        · rw [k0 j q]; exact hf j hj
        · subst q
          rw [e2]; exact hf j hj
theorem Stk.top {f : Nat → Int32} {T q : Nat} {L : List Nat} (h : Stk f T L) (hq : L.getLast? = some q) : f T = nI q := by
  rw [h.2 T (by omega)]
  rw [List.getLast?_eq_getElem?, h.1] at hq
  simp only [Nat.add_sub_cancel] at hq
  rw [List.getD_eq_getElem?_getD, hq]
  rfl
/-- a bound begins at p -/
def aBg (k : Nat) (t : Nat → Nat) (p : Nat) : Bool := (aR k t p == 9 || aR k t p == 6 || aR k t p == 19) && ((aS k t p).1 == 3 || (aS k t p).1 == 4)
/-- where the first bound of the name j begins -/
def aFb (k : Nat) (t : Nat → Nat) : Nat → Nat → Option Nat
  | 0, _ => none
  | p + 1, j => if aN k t p ∧ j = aC k t p then none else if aBg k t p ∧ j + 1 = aC k t p ∧ aFb k t p j = none then some p else aFb k t p j
/-- how many bounds the name j has -/
def aBc (k : Nat) (t : Nat → Nat) : Nat → Nat → Nat
  | 0, _ => 0
  | p + 1, j => if aN k t p ∧ j = aC k t p then 0 else if aBg k t p ∧ j + 1 = aC k t p then aBc k t p j + 1 else aBc k t p j
def oI (o : Option Nat) : Int32 := match o with
  | none => -1
  | some b => nI b
