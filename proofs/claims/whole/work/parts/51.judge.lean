/-! the reference's reader over a whole text -/
abbrev JV : Type := MoC × IaC × IaC × IaC × IaC × IaC × IaC × IaC
/-- what stays: sizes, the slots below s, the counters -/
def JF (s : Nat) (a v : JV) : Prop :=
  MP a.1 v.1 ∧ iaN v.2.1 = 3000 ∧ iaN v.2.2.1 = 500 ∧ iaN v.2.2.2.1 = 500 ∧ iaN v.2.2.2.2.1 = 500 ∧ iaN v.2.2.2.2.2.1 = 500 ∧ iaN v.2.2.2.2.2.2.1 = 25 ∧ iaN v.2.2.2.2.2.2.2 = 130 ∧
  (∀ i, i < 120 * s → iaF v.2.1 i = iaF a.2.1 i) ∧ (∀ i, i < 20 * s → iaF v.2.2.1 i = iaF a.2.2.1 i) ∧ (∀ i, i < 20 * s → iaF v.2.2.2.1 i = iaF a.2.2.2.1 i) ∧ (∀ i, i < 20 * s → iaF v.2.2.2.2.1 i = iaF a.2.2.2.2.1 i) ∧
  (∀ i, i < 20 * s → iaF v.2.2.2.2.2.1 i = iaF a.2.2.2.2.2.1 i) ∧ (∀ i, i < s → iaF v.2.2.2.2.2.2.1 i = iaF a.2.2.2.2.2.2.1 i)
/-- what the reference holds of the slot s behind p characters -/
def JR (k : Nat) (t : Nat → Nat) (s p : Nat) (v : JV) : Prop :=
  (∀ j, j < p → iaF v.2.1 (120 * s + j) = nI (pTr (aR k t j) (t j))) ∧ MoN v.2.2.1 v.2.2.2.1 v.2.2.2.2.2.2.1 k t s p ∧
  (∀ j, j < aC k t p → iaF v.2.2.2.2.1 (20 * s + j) = oI (aFb k t p j) ∧ iaF v.2.2.2.2.2.1 (20 * s + j) = nI (aBc k t p j))
/-- its stack -/
def JS (k : Nat) (t : Nat → Nat) (p : Nat) (v : JV) : Prop := ∃ T, moT v.1 = nI T ∧ Stk (iaF v.2.2.2.2.2.2.2) T (sk k (aS k t p).1 (aS k t p).2.1 (aS k t p).2.2)
theorem MoN_keep {pf pt pa : IaC} {k : Nat} {t : Nat → Nat} {s p : Nat} (hr : aR k t p ≠ 2) (h : MoN pf pt pa k t s p) : MoN pf pt pa k t s (p + 1) ∧ aC k t (p + 1) = aC k t p := by
  have e0 : aN k t p = false := by simp [aN, hr]
  have eC : aC k t (p + 1) = aC k t p := by show (if aN k t p = true then aC k t p + 1 else aC k t p) = _; rw [e0]; simp
  obtain ⟨h1, h2, h3, h4, h5⟩ := h
  refine ⟨⟨h1, h2, h3, by rw [eC]; exact h4, fun j hj => ?_⟩, eC⟩
  rw [eC] at hj
  have eB : aB k t (p + 1) j = aB k t p j := by show (if aN k t p = true ∧ j = aC k t p then p else aB k t p j) = _; rw [e0]; simp
  have eE : aE k t (p + 1) j = aE k t p j := by show (if aR k t p = 2 ∧ j + 1 = aC k t (p + 1) then p + 1 else aE k t p j) = _; rw [if_neg (fun z => hr z.1)]
  rw [eB, eE]
  exact h5 j hj
theorem MoN_more {pf pt pa : IaC} {k : Nat} {t : Nat → Nat} {s p m : Nat} (hr : aR k t p = 2) (hl : (aS k t p).1 = 2) (hm : aC k t p = m + 1) (h : MoN pf pt pa k t s p) : MoN pf (iaN pt, upd (iaF pt) (20 * s + m) (nI (p + 1))) pa k t s (p + 1) ∧ aC k t (p + 1) = m + 1 := by
  have e0 : aN k t p = false := by simp [aN, hl]
  have eC : aC k t (p + 1) = m + 1 := by show (if aN k t p = true then aC k t p + 1 else aC k t p) = _; rw [e0]; simpa using hm
  obtain ⟨h1, h2, h3, h4, h5⟩ := h
  refine ⟨⟨h1, h2, h3, by rw [eC, ← hm]; exact h4, fun j hj => ?_⟩, eC⟩
  rw [eC] at hj
  have eB : aB k t (p + 1) j = aB k t p j := by show (if aN k t p = true ∧ j = aC k t p then p else aB k t p j) = _; rw [e0]; simp
  have eE : aE k t (p + 1) j = if j = m then p + 1 else aE k t p j := by
    show (if aR k t p = 2 ∧ j + 1 = aC k t (p + 1) then p + 1 else aE k t p j) = _
    rw [eC]
    by_cases q : j = m
    · rw [if_pos ⟨hr, by omega⟩, if_pos q]
    · rw [if_neg (fun z => q (by omega)), if_neg q]
  rw [eB, eE]
  refine ⟨(h5 j (by omega)).1, ?_⟩
  show upd (iaF pt) (20 * s + m) (nI (p + 1)) (20 * s + j) = _
  by_cases q : j = m
  · subst q; rw [pk_us, if_pos rfl]
  · rw [pk_un (by omega), if_neg q]; exact (h5 j (by omega)).2
theorem MoN_new {pf pt pa : IaC} {k : Nat} {t : Nat → Nat} {s p : Nat} (hN : aN k t p = true) (h : MoN pf pt pa k t s p) :
    MoN (iaN pf, upd (iaF pf) (20 * s + aC k t p) (nI p)) (iaN pt, upd (iaF pt) (20 * s + aC k t p) (nI (p + 1))) (iaN pa, upd (iaF pa) s (nI (aC k t p + 1))) k t s (p + 1) ∧ aC k t (p + 1) = aC k t p + 1 := by
  have eC : aC k t (p + 1) = aC k t p + 1 := by show (if aN k t p = true then aC k t p + 1 else aC k t p) = _; rw [if_pos hN]
  have hr : aR k t p = 2 := by
    have := hN
    simp only [aN, Bool.and_eq_true, beq_iff_eq] at this
    exact this.1
  obtain ⟨h1, h2, h3, h4, h5⟩ := h
  refine ⟨⟨h1, h2, h3, by rw [eC]; exact pk_us, fun j hj => ?_⟩, eC⟩
  rw [eC] at hj
  have eB : aB k t (p + 1) j = if j = aC k t p then p else aB k t p j := by
    show (if aN k t p = true ∧ j = aC k t p then p else aB k t p j) = _
    simp [hN]
  have eE : aE k t (p + 1) j = if j = aC k t p then p + 1 else aE k t p j := by
    show (if aR k t p = 2 ∧ j + 1 = aC k t (p + 1) then p + 1 else aE k t p j) = _
    rw [eC]
    by_cases q : j = aC k t p
    · rw [if_pos ⟨hr, by omega⟩, if_pos q]
    · rw [if_neg (fun z => q (by omega)), if_neg q]
  rw [eB, eE]
  show upd (iaF pf) (20 * s + aC k t p) (nI p) (20 * s + j) = _ ∧ upd (iaF pt) (20 * s + aC k t p) (nI (p + 1)) (20 * s + j) = _
  by_cases q : j = aC k t p
  · subst q; rw [pk_us, pk_us, if_pos rfl, if_pos rfl]; exact ⟨rfl, rfl⟩
  · rw [pk_un (by omega), pk_un (by omega), if_neg q, if_neg q]; exact h5 j (by omega)
/-- the bounds behind one more character -/
theorem bnd_keep {w4 w5 : IaC} {k : Nat} {t : Nat → Nat} {s p : Nat} (hN : aN k t p = false) (hb : aBg k t p = false) (h : ∀ j, j < aC k t p → iaF w4 (20 * s + j) = oI (aFb k t p j) ∧ iaF w5 (20 * s + j) = nI (aBc k t p j)) (eC : aC k t (p + 1) = aC k t p) :
    ∀ j, j < aC k t (p + 1) → iaF w4 (20 * s + j) = oI (aFb k t (p + 1) j) ∧ iaF w5 (20 * s + j) = nI (aBc k t (p + 1) j) := by
  intro j hj
  rw [eC] at hj
  have e1 : aFb k t (p + 1) j = aFb k t p j := by
    show (if aN k t p = true ∧ j = aC k t p then none else if aBg k t p = true ∧ j + 1 = aC k t p ∧ aFb k t p j = none then some p else aFb k t p j) = _
    simp [hN, hb]
  have e2 : aBc k t (p + 1) j = aBc k t p j := by
    show (if aN k t p = true ∧ j = aC k t p then 0 else if aBg k t p = true ∧ j + 1 = aC k t p then aBc k t p j + 1 else aBc k t p j) = _
    simp [hN, hb]
  rw [e1, e2]
  exact h j hj
theorem bnd_new {w4 w5 : IaC} {k : Nat} {t : Nat → Nat} {s p : Nat} (hN : aN k t p = true) (hb : aBg k t p = false) (h : ∀ j, j < aC k t p → iaF w4 (20 * s + j) = oI (aFb k t p j) ∧ iaF w5 (20 * s + j) = nI (aBc k t p j)) (eC : aC k t (p + 1) = aC k t p + 1) :
    ∀ j, j < aC k t (p + 1) → upd (iaF w4) (20 * s + aC k t p) (-1) (20 * s + j) = oI (aFb k t (p + 1) j) ∧ upd (iaF w5) (20 * s + aC k t p) 0 (20 * s + j) = nI (aBc k t (p + 1) j) := by
  intro j hj
  rw [eC] at hj
  have e1 : aFb k t (p + 1) j = if j = aC k t p then none else aFb k t p j := by
    show (if aN k t p = true ∧ j = aC k t p then none else if aBg k t p = true ∧ j + 1 = aC k t p ∧ aFb k t p j = none then some p else aFb k t p j) = _
    simp [hN, hb]
  have e2 : aBc k t (p + 1) j = if j = aC k t p then 0 else aBc k t p j := by
    show (if aN k t p = true ∧ j = aC k t p then 0 else if aBg k t p = true ∧ j + 1 = aC k t p then aBc k t p j + 1 else aBc k t p j) = _
    simp [hN, hb]
  rw [e1, e2]
  by_cases q : j = aC k t p
  · subst q; rw [pk_us, pk_us, if_pos rfl, if_pos rfl]; exact ⟨rfl, rfl⟩
  · rw [pk_un (by omega), pk_un (by omega), if_neg q, if_neg q]; exact h j (by omega)
theorem bnd_old {w4 w5 : IaC} {k : Nat} {t : Nat → Nat} {s p m : Nat} (hN : aN k t p = false) (hb : aBg k t p = true) (hm : aC k t p = m + 1) (hp : p < 200) (h : ∀ j, j < aC k t p → iaF w4 (20 * s + j) = oI (aFb k t p j) ∧ iaF w5 (20 * s + j) = nI (aBc k t p j)) (eC : aC k t (p + 1) = aC k t p)
    (h0 : 0 ≤ iaF w4 (20 * s + m)) :
    ∀ j, j < aC k t (p + 1) → iaF w4 (20 * s + j) = oI (aFb k t (p + 1) j) ∧ upd (iaF w5) (20 * s + m) (iaF w5 (20 * s + m) + 1) (20 * s + j) = nI (aBc k t (p + 1) j) := by
  intro j hj
  rw [eC] at hj
  have hm0 := h m (by omega)
  rw [hm0.1, oI_0 (fun b hb => by have := aFb_lt k t p m b hb; omega)] at h0
  have e1 : aFb k t (p + 1) j = aFb k t p j := by
    show (if aN k t p = true ∧ j = aC k t p then none else if aBg k t p = true ∧ j + 1 = aC k t p ∧ aFb k t p j = none then some p else aFb k t p j) = _
    rw [if_neg (fun z => by rw [hN] at z; exact absurd z.1 (by decide)), if_neg]
    rintro ⟨-, z1, z2⟩
    obtain rfl : j = m := by omega
    exact h0 z2
  have e2 : aBc k t (p + 1) j = if j = m then aBc k t p j + 1 else aBc k t p j := by
    show (if aN k t p = true ∧ j = aC k t p then 0 else if aBg k t p = true ∧ j + 1 = aC k t p then aBc k t p j + 1 else aBc k t p j) = _
    rw [if_neg (fun z => by rw [hN] at z; exact absurd z.1 (by decide))]
    by_cases q : j = m
    · rw [if_pos ⟨hb, by omega⟩, if_pos q]
    · rw [if_neg (fun z => q (by omega)), if_neg q]
  rw [e1, e2]
  refine ⟨(h j hj).1, ?_⟩
  by_cases q : j = m
  · subst q; rw [pk_us, if_pos rfl, hm0.2, nI_1]
  · rw [pk_un (by omega), if_neg q]; exact (h j (by omega)).2
theorem bnd_one {w4 w5 : IaC} {k : Nat} {t : Nat → Nat} {s p m : Nat} (hN : aN k t p = false) (hb : aBg k t p = true) (hm : aC k t p = m + 1) (hp : p < 200) (h : ∀ j, j < aC k t p → iaF w4 (20 * s + j) = oI (aFb k t p j) ∧ iaF w5 (20 * s + j) = nI (aBc k t p j)) (eC : aC k t (p + 1) = aC k t p)
    (h0 : ¬ 0 ≤ iaF w4 (20 * s + m)) :
    ∀ j, j < aC k t (p + 1) → upd (iaF w4) (20 * s + m) (nI p) (20 * s + j) = oI (aFb k t (p + 1) j) ∧ upd (iaF w5) (20 * s + m) (iaF w5 (20 * s + m) + 1) (20 * s + j) = nI (aBc k t (p + 1) j) := by
  intro j hj
  rw [eC] at hj
  have hm0 := h m (by omega)
  rw [hm0.1, oI_0 (fun b hb => by have := aFb_lt k t p m b hb; omega)] at h0
  have h00 : aFb k t p m = none := by
    cases e : aFb k t p m with
    | none => rfl
    | some b => exact absurd (by rw [e]; simp) h0
  have e1 : aFb k t (p + 1) j = if j = m then some p else aFb k t p j := by
    show (if aN k t p = true ∧ j = aC k t p then none else if aBg k t p = true ∧ j + 1 = aC k t p ∧ aFb k t p j = none then some p else aFb k t p j) = _
    rw [if_neg (fun z => by rw [hN] at z; exact absurd z.1 (by decide))]
    by_cases q : j = m
    · rw [if_pos ⟨hb, by omega, by rw [q]; exact h00⟩, if_pos q]
    · rw [if_neg (fun z => q (by omega)), if_neg q]
  have e2 : aBc k t (p + 1) j = if j = m then aBc k t p j + 1 else aBc k t p j := by
    show (if aN k t p = true ∧ j = aC k t p then 0 else if aBg k t p = true ∧ j + 1 = aC k t p then aBc k t p j + 1 else aBc k t p j) = _
    rw [if_neg (fun z => by rw [hN] at z; exact absurd z.1 (by decide))]
    by_cases q : j = m
    · rw [if_pos ⟨hb, by omega⟩, if_pos q]
    · rw [if_neg (fun z => q (by omega)), if_neg q]
  rw [e1, e2]
  by_cases q : j = m
  · subst q; rw [pk_us, pk_us, if_pos rfl, if_pos rfl, hm0.2, nI_1]; exact ⟨rfl, rfl⟩
  · rw [pk_un (by omega), pk_un (by omega), if_neg q, if_neg q]; exact h j (by omega)
theorem role_put {w1 : IaC} {k : Nat} {t : Nat → Nat} {s p : Nat} (h : ∀ j, j < p → iaF w1 (120 * s + j) = nI (pTr (aR k t j) (t j))) : ∀ j, j < p + 1 → upd (iaF w1) (120 * s + p) (nI (pTr (aR k t p) (t p))) (120 * s + j) = nI (pTr (aR k t j) (t j)) := by
  intro j hj
  by_cases q : j = p
  · subst q; exact pk_us
  · rw [pk_un (by omega)]; exact h j (by omega)
