/-! the mathematical state of a run, the answers, the next states; the class's calls answer so -/
abbrev SG : Type := Nat × (Nat → Nat) × Nat
/-- made, the signatures, their scopes, the line's length, the line -/
abbrev ST : Type := Nat × (Nat → SG) × (Nat → Option Nat) × Nat × (Nat → Nat)
abbrev zM (z : ST) : Nat := z.1
abbrev zG (z : ST) : Nat → SG := z.2.1
abbrev zS (z : ST) : Nat → Option Nat := z.2.2.1
abbrev zN (z : ST) : Nat := z.2.2.2.1
abbrev zT (z : ST) : Nat → Nat := z.2.2.2.2
def zC (z : ST) (i : Nat) : Sc := (zS z i).map (zG z)
abbrev zc (z : ST) (i : Nat) : Nat := aC (zG z i).1 (zG z i).2.1 (zG z i).2.2
def VS (z : ST) : Prop := zM z ≤ 24 ∧ (∀ i, i < zM z → Gd (zG z i).1 (zG z i).2.1 (zG z i).2.2) ∧ (∀ i j, i < zM z → zS z i = some j → j < zM z ∧ j ≠ i ∧ (zG z j).1 = 0) ∧ zN z ≤ 40 ∧ ∀ j, j < zN z → 32 < zT z j ∧ zT z j < 127
def ix (M : Nat) (x : Int32) : Option Nat := if x.toNatClampNeg < M ∧ x = nI x.toNatClampNeg then some x.toNatClampNeg else none
theorem ix_Y {M i : Nat} (h : i < M) (hM : M < 2 ^ 31) : ix M (nI i) = some i := by
  unfold ix
  rw [nI_clamp (by omega), if_pos ⟨h, rfl⟩]
theorem ix_N {M : Nat} {x : Int32} (h : noX x M) : ix M x = none := by
  unfold ix
  rw [if_neg (fun z => h _ z.1 z.2)]
theorem noX_m1 {M : Nat} (hM : M < 2 ^ 31) : noX (-1) M := by
  intro i hi e
  have h1 : (-1 : Int32).toInt = (nI i).toInt := by rw [← e]
  rw [nI_toInt (by omega)] at h1
  have h2 : (-1 : Int32).toInt = -1 := by decide
  omega
theorem noX_oN {M : Nat} (hM : M < 2 ^ 31) : noX (oI none) M := noX_m1 hM
def aKi (z : ST) (x : Int32) : Int32 := match ix (zM z) x with
  | none => -100
  | some i => nI (zG z i).1
def aPa (z : ST) (x : Int32) : Int32 := match ix (zM z) x with
  | none => -100
  | some i => nI (zc z i)
def aBo (z : ST) (x y : Int32) : Int32 := match ix (zM z) x with
  | none => -100
  | some i => match ix (zc z i) y with
    | none => -100
    | some j => nI (aBc (zG z i).1 (zG z i).2.1 (zG z i).2.2 j)
def aMe (z : ST) (x y : Int32) : Int32 := match ix (zM z) x with
  | none => -100
  | some i => match ix 6 y with
    | none => -100
    | some w => nI (mQw (zG z i).1 (zG z i).2.1 (zG z i).2.2 (zC z i) w (zG z i).2.2)
def aAl (z : ST) (x y : Int32) : Int32 := match ix (zM z) x with
  | none => -100
  | some i => match ix (zM z) y with
    | none => -100
    | some j => if (zG z i).1 = (zG z j).1 ∧ zc z i = zc z j then bI (al (zG z i).1 (zG z i).2.1 (zG z i).2.2 (zG z j).2.1 (zG z j).2.2 ((zG z j).2.2 + 1) 0 0) else 0
def aCl (z : ST) (x y : Int32) : Int32 := match ix (zM z) x with
  | none => -100
  | some i => match ix (zM z) y with
    | none => -100
    | some j => if (zG z i).1 = 1 ∧ (zG z j).1 = 1 then cS (zG z i).1 (zG z i).2.1 (zG z i).2.2 (zC z i) (zG z j).1 (zG z j).2.1 (zG z j).2.2 (zC z j) else -100
def aTx (z : ST) (x y v : Int32) : Int32 := match ix (zM z) x with
  | none => -1
  | some i => match ix 3 y with
    | none => -1
    | some w => atI (tX (zG z i).1 (zG z i).2.1 (zG z i).2.2 (zC z i) w) v
def aLe (z : ST) (x y : Int32) : Int32 := match ix (zM z) x with
  | none => -100
  | some i => match ix 3 y with
    | none => -100
    | some w => nI (tX (zG z i).1 (zG z i).2.1 (zG z i).2.2 (zC z i) w).length
def aCo (z : ST) (x : Int32) : Int32 := if x = 0 then nI (zM z) else if x = 1 then nI (zN z) else -100
/-- type -/
def isT (z : ST) (x : Int32) : Prop := ¬ x < 33 ∧ ¬ 126 < x ∧ zN z < 40
noncomputable def tyS (z : ST) (x : Int32) : ST := @ite ST (isT z x) (Classical.propDecidable _) (zM z, zG z, zS z, zN z + 1, fun j => if j = zN z then x.toNatClampNeg else zT z j) z
noncomputable def tyA (z : ST) (x : Int32) : Int32 := @ite Int32 (isT z x) (Classical.propDecidable _) (nI (zN z + 1)) (-100)
def clS (z : ST) : ST := (zM z, zG z, zS z, 0, zT z)
/-- scope -/
def isS (z : ST) (x y : Int32) : Prop := ∃ i, i < zM z ∧ x = nI i ∧ (y = -1 ∨ ∃ j, j < zM z ∧ y = nI j ∧ j ≠ i ∧ (zG z j).1 = 0)
noncomputable def scS (z : ST) (x y : Int32) : ST := @ite ST (isS z x y) (Classical.propDecidable _) (zM z, zG z, fun q => if q = x.toNatClampNeg then ix (zM z) y else zS z q, zN z, zT z) z
noncomputable def scA (z : ST) (x y : Int32) : Int32 := @ite Int32 (isS z x y) (Classical.propDecidable _) (oI (zS z x.toNatClampNeg)) (-100)
/-- read -/
def isR (z : ST) (x : Int32) : Prop := ∃ k, k < 3 ∧ x = nI k ∧ Ok k (zT z) (zN z) ∧ zM z < 24
def pS (z : ST) (g : SG) (o : Option Nat) (n : Nat) : ST := (zM z + 1, fun i => if i = zM z then g else zG z i, fun i => if i = zM z then o else zS z i, n, zT z)
noncomputable def rdS (z : ST) (x : Int32) : ST := @ite ST (isR z x) (Classical.propDecidable _) (pS z (x.toNatClampNeg, zT z, zN z) none 0) z
noncomputable def aRd (k : Nat) (t : Nat → Nat) (n : Nat) : Int32 := @dite Int32 (∃ a, FA k t n a) (Classical.propDecidable _) (fun h => h.choose) (fun _ => -100)
theorem aRd_eq {k : Nat} {t : Nat → Nat} {n : Nat} {a : Int32} (h : FA k t n a) : aRd k t n = a := by
  unfold aRd
  rw [dif_pos ⟨a, h⟩]
  exact FA_uniq (Exists.choose_spec _) h
theorem aRd_ok {k : Nat} {t : Nat → Nat} {n : Nat} (h : Ok k t n) : aRd k t n = -100 := by
  unfold aRd
  rw [dif_neg (fun ⟨a, z⟩ => FA_no z h)]
noncomputable def rdA (z : ST) (x : Int32) : Int32 := @ite Int32 (isR z x) (Classical.propDecidable _) (nI (zM z)) (match ix 3 x with
  | none => -100
  | some k => aRd k (zT z) (zN z))
/-- fill -/
def isF (z : ST) (x y v : Int32) : Prop := ∃ i j e, i < zM z ∧ j < zM z ∧ x = nI i ∧ v = nI j ∧ (zG z j).1 = 2 ∧ e < zc z i ∧ y = nI e ∧ FOk (zG z i).1 (zG z i).2.1 (zG z i).2.2 e (zG z j).2.1 (zG z j).2.2 ∧ zM z < 24
def flG (z : ST) (i e j : Nat) : SG := ((zG z i).1, tD (zG z i).1 (zG z i).2.1 (zG z i).2.2 e (zG z j).2.1 (zG z j).2.2, nD (zG z i).1 (zG z i).2.1 (zG z i).2.2 e (zG z j).2.1 (zG z j).2.2)
noncomputable def flS (z : ST) (x y v : Int32) : ST := @ite ST (isF z x y v) (Classical.propDecidable _) (pS z (flG z x.toNatClampNeg y.toNatClampNeg v.toNatClampNeg) (zS z x.toNatClampNeg) (zN z)) z
noncomputable def flA (z : ST) (x y v : Int32) : Int32 := @ite Int32 (isF z x y v) (Classical.propDecidable _) (nI (zM z)) (-100)
/-! the states stay good -/
theorem VS.cl {z : ST} (h : VS z) : VS (clS z) := ⟨h.1, h.2.1, h.2.2.1, by show 0 ≤ 40; omega, fun j hj => absurd (show j < 0 from hj) (by omega)⟩
theorem ty_nat {x : Int32} (h1 : ¬ x < 33) (h2 : ¬ 126 < x) : x = nI x.toNatClampNeg ∧ 32 < x.toNatClampNeg ∧ x.toNatClampNeg < 127 := by
  obtain ⟨j, hj, rfl⟩ := nI_of (x := x) (fun z => h1 (Int32.lt_trans z (by decide)))
  rw [nI_clamp hj]
  have e1 : ¬ nI j < nI 33 := h1
  have e2 : ¬ nI 126 < nI j := h2
  rw [nI_ltI hj (by omega)] at e1
  rw [nI_ltI (by omega) hj] at e2
  exact ⟨rfl, by omega, by omega⟩
theorem VS.ty {z : ST} (h : VS z) (x : Int32) : VS (tyS z x) := by
  unfold tyS
  by_cases c : isT z x
  · rw [if_pos c]
    obtain ⟨c1, c2, c3⟩ := c
    refine ⟨h.1, h.2.1, h.2.2.1, by show zN z + 1 ≤ 40; omega, fun j hj => ?_⟩
    show 32 < (if j = zN z then x.toNatClampNeg else zT z j) ∧ (if j = zN z then x.toNatClampNeg else zT z j) < 127
    by_cases e : j = zN z
    · rw [if_pos e]
      exact (ty_nat c1 c2).2
    · rw [if_neg e]
      exact h.2.2.2.2 j (by have : j < zN z + 1 := hj; omega)
  · rw [if_neg c]
    exact h
theorem VS.sc {z : ST} (h : VS z) (x y : Int32) : VS (scS z x y) := by
  unfold scS
  by_cases c : isS z x y
  · rw [if_pos c]
    obtain ⟨i, hi, rfl, hy⟩ := c
    have hM := h.1
    rw [nI_clamp (by omega)]
    refine ⟨h.1, h.2.1, fun q j hq hj => ?_, h.2.2.2.1, h.2.2.2.2⟩
    have hj : (if q = i then ix (zM z) y else zS z q) = some j := hj
    by_cases e : q = i
    · rw [if_pos e] at hj
      rcases hy with hy | ⟨j', h1, h2, h3, h4⟩
      · rw [hy, ix_N (noX_m1 (by omega))] at hj
        cases hj
      · rw [h2, ix_Y h1 (by omega)] at hj
        cases hj
        exact ⟨h1, by omega, h4⟩
    · rw [if_neg e] at hj
      exact h.2.2.1 q j hq hj
  · rw [if_neg c]
    exact h
theorem VS.push {z : ST} (h : VS z) {g : SG} {o : Option Nat} {n : Nat} (hM : zM z < 24) (hg : Gd g.1 g.2.1 g.2.2) (ho : ∀ j, o = some j → j < zM z ∧ (zG z j).1 = 0) (hn : n ≤ zN z) : VS (pS z g o n) := by
  refine ⟨by show zM z + 1 ≤ 24; omega, fun i hi => ?_, fun i j hi hj => ?_, by show n ≤ 40; have := h.2.2.2.1; omega, fun j hj => h.2.2.2.2 j (by have : j < n := hj; omega)⟩
  · have hi : i < zM z + 1 := hi
    show Gd (if i = zM z then g else zG z i).1 (if i = zM z then g else zG z i).2.1 (if i = zM z then g else zG z i).2.2
    by_cases e : i = zM z
    · rw [if_pos e]
      exact hg
    · rw [if_neg e]
      exact h.2.1 i (by omega)
  · have hi : i < zM z + 1 := hi
    have hj : (if i = zM z then o else zS z i) = some j := hj
    show j < zM z + 1 ∧ j ≠ i ∧ (if j = zM z then g else zG z j).1 = 0
    by_cases e : i = zM z
    · rw [if_pos e] at hj
      obtain ⟨h1, h2⟩ := ho j hj
      rw [if_neg (by omega)]
      exact ⟨by omega, by omega, h2⟩
    · rw [if_neg e] at hj
      obtain ⟨h1, h2, h3⟩ := h.2.2.1 i j (by omega) hj
      rw [if_neg (by omega)]
      exact ⟨by omega, h2, h3⟩
theorem rd_Gd {z : ST} (h : VS z) {k : Nat} (hk : k < 3) (ho : Ok k (zT z) (zN z)) : Gd k (zT z) (zN z) :=
  ⟨hk, by have := h.2.2.2.1; omega, h.2.2.2.2, ho.1, ho.2, by have h1 := aC_half k (zT z) (zN z) (fun j hj e => ho.1 j hj (Or.inl e)); have := h.2.2.2.1; split at h1 <;> omega⟩
theorem VS.rd {z : ST} (h : VS z) (x : Int32) : VS (rdS z x) := by
  unfold rdS
  by_cases c : isR z x
  · rw [if_pos c]
    obtain ⟨k, hk, rfl, ho, hM⟩ := c
    rw [nI_clamp (by omega)]
    exact h.push hM (rd_Gd h hk ho) (fun j hj => by cases hj) (by omega)
  · rw [if_neg c]
    exact h
theorem VS.fl {z : ST} (h : VS z) (x y v : Int32) : VS (flS z x y v) := by
  unfold flS
  by_cases c : isF z x y v
  · rw [if_pos c]
    obtain ⟨i, j, e, hi, hj, rfl, rfl, hk, he, rfl, ho, hM⟩ := c
    have hM2 := h.1
    have hg := h.2.1 i hi
    have hf := h.2.1 j hj
    have hc := hg.2.2.2.2.2
    rw [nI_clamp (by omega), nI_clamp (by have : zc z i ≤ 20 := hc; omega), nI_clamp (by omega)]
    rw [hk] at hf
    exact h.push hM (FOk_Gd hg hf he ho).1 (fun q hq => ⟨(h.2.2.1 i q hi hq).1, (h.2.2.1 i q hi hq).2.2⟩) (by omega)
  · rw [if_neg c]
    exact h
