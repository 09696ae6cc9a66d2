/-! find, kind, parameters, measure -/
def pTrb (r : Nat) (b : Bool) : Nat :=
  if r = 1 then 16 else if r = 2 then 17 else if r = 3 then 18 else if r = 4 then 19 else if r = 5 then 20 else if r = 6 then 2 else if r = 7 then 14 else if r = 8 then 15 else if r = 9 then 1 else if r = 10 then 5
  else if r = 11 then 6 else if r = 12 then 7 else if r = 13 then 5 else if r = 14 then 9 else if r = 15 then 8 else if r = 16 then 13 else if r = 17 then 10 else if r = 18 then (if b then 11 else 12)
  else if r = 19 then 3 else if r = 20 then 4 else if r = 21 then 23 else if r = 22 then 21 else if r = 23 then 22 else if r = 24 then 24 else 0
theorem pTr_b (r c : Nat) : pTr r c = pTrb r (decide (c = 43)) := by simp [pTr, pTrb]
theorem pTr_is {r c : Nat} (v r' : Nat) (h : r < 25) (hv : ∀ r, r < 25 → ∀ b : Bool, (pTrb r b = v ↔ r = r')) : pTr r c = v ↔ r = r' := by rw [pTr_b]; exact hv r h _
def noX (x : Int32) (M : Nat) : Prop := ∀ i, i < M → x ≠ nI i
theorem cs_x (x : Int32) (M : Nat) : (∃ i, i < M ∧ x = nI i) ∨ noX x M := by
  by_cases h : ∃ i, i < M ∧ x = nI i
  · exact Or.inl h
  · exact Or.inr (fun i hi e => h ⟨i, hi, e⟩)
/-- the forest's made signatures -/
def FoI (u : FoC) (v : MaC) (M : Nat) (ad : Nat → Nat) : Prop := foC u = nI M ∧ M ≤ 24 ∧ maN v = 24 ∧ ∀ i, i < M → maF v i = some (ad i)
theorem r_findY {post : Option Nat → Prop} {u : FoC} {v : MaC} {M : Nat} {ad : Nat → Nat} {i : Nat} (hF : FoI u v M ad) (hi : i < M) (h : post (some (ad i))) : wp_F_find post u v (nI i) := by
  obtain ⟨f1, f2, f3, f4⟩ := hF
  unfold wp_F_find
  rw [f1, f3, nI_clamp (by omega), f4 i hi]
  exact ⟨fun z => absurd z (nI_pos (by omega)), fun _ => b_le (by omega) (by omega) (fun z => absurd z (by omega)) (fun _ => ⟨vp_in_nI (by omega) (by decide), h⟩)⟩
theorem r_findN {post : Option Nat → Prop} {u : FoC} {v : MaC} {M : Nat} {ad : Nat → Nat} {x : Int32} (hF : FoI u v M ad) (hx : noX x M) (h : post none) : wp_F_find post u v x := by
  obtain ⟨f1, f2, f3, f4⟩ := hF
  unfold wp_F_find
  rw [f1]
  refine ⟨fun _ => h, fun z => ?_⟩
  obtain ⟨j, hj, rfl⟩ := nI_of z
  exact b_le hj (by omega) (fun _ => h) (fun z => absurd rfl (hx j z))
theorem q_noY {post : Int32 → Prop} {u : MoC} {M i : Nat} (hM : moM u = nI M) (hM2 : M ≤ 24) (hi : i < M) (h : post 0) : wp_M_no post u (nI i) := by
  unfold wp_M_no
  rw [hM]
  exact ⟨fun z => absurd z (nI_pos (by omega)), fun _ => b_lt (by omega) (by omega) (fun _ => h) (fun z => absurd z (by omega))⟩
theorem q_noN {post : Int32 → Prop} {u : MoC} {M : Nat} {x : Int32} (hM : moM u = nI M) (hM2 : M ≤ 24) (hx : noX x M) (h : post 1) : wp_M_no post u x := by
  unfold wp_M_no w_M_no_12
  rw [hM]
  refine ⟨fun _ => h, fun z => ?_⟩
  obtain ⟨j, hj, rfl⟩ := nI_of z
  exact b_lt hj (by omega) (fun z => absurd rfl (hx j z)) (fun _ => h)
/-- a scope's signature -/
abbrev Sc : Type := Option (Nat × (Nat → Nat) × Nat)
/-- who declares the variable at j: 1 the signature, 2 its scope, 0 nobody -/
def vBy (k : Nat) (t : Nat → Nat) (n : Nat) (sc : Sc) (j : Nat) : Nat :=
  if pF k t n t (j + 1) (nE k t n 7 (j + 1)) ≠ none then 1 else match sc with
  | none => 0
  | some S => if pF S.1 S.2.1 S.2.2 t (j + 1) (nE k t n 7 (j + 1)) ≠ none then 2 else 0
def mV (k : Nat) (t : Nat → Nat) (n : Nat) (sc : Sc) (w : Nat) : Nat → Nat
  | 0 => 0
  | p + 1 => if aR k t p = 6 ∧ vBy k t n sc p = w then mV k t n sc w p + 1 else mV k t n sc w p
def mCl (k : Nat) (t : Nat → Nat) : Nat → Nat
  | 0 => 0
  | p + 1 => if aR k t p = 9 then mCl k t p + 1 else mCl k t p
def mDp (k : Nat) (t : Nat → Nat) : Nat → Nat
  | 0 => 0
  | p + 1 => if mDp k t p < (aS k t (p + 1)).2.1 then (aS k t (p + 1)).2.1 else mDp k t p
def mRn (k : Nat) (t : Nat → Nat) : Nat → Nat
  | 0 => 0
  | p + 1 => if aR k t p = 19 then mRn k t p + 1 else 0
def mBr (k : Nat) (t : Nat → Nat) : Nat → Nat
  | 0 => 0
  | p + 1 => if mBr k t p < mRn k t (p + 1) then mRn k t (p + 1) else mBr k t p
theorem m_le (k : Nat) (t : Nat → Nat) (n : Nat) (sc : Sc) (w : Nat) : ∀ p, mV k t n sc w p ≤ p ∧ mCl k t p ≤ p ∧ mDp k t p ≤ p ∧ mRn k t p ≤ p ∧ mBr k t p ≤ p
  | 0 => by simp [mV, mCl, mDp, mRn, mBr]
  | p + 1 => by
    have ih := m_le k t n sc w p
    have hs := (aS_lt k t (p + 1)).2.1
    have h4 : mRn k t (p + 1) ≤ p + 1 := by unfold mRn; split <;> omega
    refine ⟨?_, ?_, ?_, h4, ?_⟩
    · unfold mV; split <;> omega
    · unfold mCl; split <;> omega
    · unfold mDp; split <;> omega
    · unfold mBr; split <;> omega
theorem dep_15 {k : Nat} {t : Nat → Nat} {p : Nat} (h : aR k t p = 15) : (aS k t (p + 1)).2.1 = (aS k t p).2.1 + 1 := by rw [aS_succ, h]; rfl
theorem dep_16 {k : Nat} {t : Nat → Nat} {p : Nat} (h : aR k t p = 16) : (aS k t p).2.1 = (aS k t (p + 1)).2.1 + 1 := by
  have := pRole_16 h
  rw [aS_succ, h]
  show (aS k t p).2.1 = (aS k t p).2.1 - 1 + 1
  omega
theorem dep_no {k : Nat} {t : Nat → Nat} {p : Nat} (h : aR k t p ≠ 15) (h2 : aR k t p ≠ 16) : (aS k t (p + 1)).2.1 = (aS k t p).2.1 := by rw [aS_succ]; show pDep _ _ = _; unfold pDep; rw [if_neg h, if_neg h2]
theorem mI1 (m : Nat) : nI (m + 1) + (-1) = nI m := by rw [← nI_pred m, Int32.sub_eq_add_neg]
theorem r_classCount {post : Int32 → Prop} {u : SgC} {k : Nat} {t : Nat → Nat} {n : Nat} (hu : SgI u k t n) (hn : n ≤ 120) (h : post (nI (mCl k t n))) : wp_Sg_classCount post u := by
  unfold wp_Sg_classCount
  refine lpN (n := n) (W := fun f j => w_Sg_classCount_4 post u f (nI (mCl k t j)) (nI j)) (fun f => ?_) (fun f j hj ih => ?_) 0 (by omega)
  · unfold w_Sg_classCount_4 wb_Sg_classCount_4
    rw [hu.2.1, ofN]
    exact b_le (by omega) (by omega) (fun _ => h) (fun z => absurd z (by omega))
  · unfold w_Sg_classCount_4 wb_Sg_classCount_4 w_Sg_classCount_26
    rw [hu.2.1, ofN]
    have := aR_lt k t j
    refine b_le (by omega) (by omega) (fun z => absurd z (by omega)) (fun _ => r_roleAt hu hn (by omega) ?_)
    rw [gR_in hj, nI_1, nI_1]
    have e : mCl k t (j + 1) = if aR k t j = 9 then mCl k t j + 1 else mCl k t j := rfl
    rw [e] at ih
    refine b_eq (k := 9) (by omega) (by decide) (fun e => ?_) (fun e => ?_)
    · rw [if_pos e] at ih; exact ih
    · rw [if_neg e] at ih; exact ih
theorem mx {a b : Nat} (ha : a < 2 ^ 31) (hb : b < 2 ^ 31) : (if nI a < nI b then nI b else nI a) = nI (if a < b then b else a) := by
  by_cases h : a < b
  · rw [if_pos h, if_pos (nI_lt h hb)]
  · rw [if_neg h, if_neg (nI_nlt (by omega) ha)]
theorem r_argumentDepth {post : Int32 → Prop} {u : SgC} {k : Nat} {t : Nat → Nat} {n : Nat} (hu : SgI u k t n) (hn : n ≤ 120) (h : post (nI (mDp k t n))) : wp_Sg_argumentDepth post u := by
  unfold wp_Sg_argumentDepth
  refine lpN (n := n) (W := fun f j => w_Sg_argumentDepth_6 post u f (nI (aS k t j).2.1) (nI (mDp k t j)) (nI j)) (fun f => ?_) (fun f j hj ih => ?_) 0 (by omega)
  · unfold w_Sg_argumentDepth_6 wb_Sg_argumentDepth_6
    rw [hu.2.1, ofN]
    exact b_le (by omega) (by omega) (fun _ => h) (fun z => absurd z (by omega))
  · unfold w_Sg_argumentDepth_6 wb_Sg_argumentDepth_6 w_Sg_argumentDepth_45
    rw [hu.2.1, ofN]
    have := aR_lt k t j
    have l1 := (aS_lt k t j).2.1
    have l2 := (aS_lt k t (j + 1)).2.1
    have l3 := (m_le k t n none 0 j).2.2.1
    refine b_le (by omega) (by omega) (fun z => absurd z (by omega)) (fun _ => r_roleAt hu hn (by omega) ?_)
    rw [gR_in hj, nI_1 j]
    have e : mDp k t (j + 1) = if mDp k t j < (aS k t (j + 1)).2.1 then (aS k t (j + 1)).2.1 else mDp k t j := rfl
    rw [e, ← mx (by omega) (by omega)] at ih
    refine b_eq (k := 15) (by omega) (by decide) (fun e => ?_) (fun e15 => b_eq (k := 16) (by omega) (by decide) (fun e => ?_) (fun e => ?_))
    · rw [nI_1, ← dep_15 e]; exact ih
    · rw [dep_16 e, mI1]; exact ih
    · rw [dep_no e15 e] at ih; exact ih
theorem r_longestBrackets {post : Int32 → Prop} {u : SgC} {k : Nat} {t : Nat → Nat} {n : Nat} (hu : SgI u k t n) (hn : n ≤ 120) (h : post (nI (mBr k t n))) : wp_Sg_longestBrackets post u := by
  unfold wp_Sg_longestBrackets
  refine lpN (n := n) (W := fun f j => w_Sg_longestBrackets_6 post u f (nI (mRn k t j)) (nI (mBr k t j)) (nI j)) (fun f => ?_) (fun f j hj ih => ?_) 0 (by omega)
  · unfold w_Sg_longestBrackets_6 wb_Sg_longestBrackets_6
    rw [hu.2.1, ofN]
    exact b_le (by omega) (by omega) (fun _ => h) (fun z => absurd z (by omega))
  · unfold w_Sg_longestBrackets_6 wb_Sg_longestBrackets_6 w_Sg_longestBrackets_32
    rw [hu.2.1, ofN]
    have := aR_lt k t j
    have l := m_le k t n none 0 j
    have l2 := m_le k t n none 0 (j + 1)
    refine b_le (by omega) (by omega) (fun z => absurd z (by omega)) (fun _ => r_roleAt hu hn (by omega) ?_)
    rw [gR_in hj, nI_1 j, nI_1]
    have e : mBr k t (j + 1) = if mBr k t j < mRn k t (j + 1) then mRn k t (j + 1) else mBr k t j := rfl
    have e2 : mRn k t (j + 1) = if aR k t j = 19 then mRn k t j + 1 else 0 := rfl
    rw [e, ← mx (by omega) (by omega), e2] at ih
    refine b_eq (k := 19) (by omega) (by decide) (fun e => ?_) (fun e => ?_)
    · rw [if_pos e] at ih; exact ih
    · rw [if_neg e] at ih; exact ih
theorem oI_m1 {o : Option Nat} {m : Nat} (h : ∀ j, o = some j → j < m) (hm : m < 2 ^ 31) : oI o = -1 ↔ o = none := by
  cases o with
  | none => exact ⟨fun _ => rfl, fun _ => rfl⟩
  | some j =>
    refine ⟨fun z => ?_, fun z => by cases z⟩
    have h0 : ¬ nI j < 0 := nI_pos (by have := h j rfl; omega)
    exact absurd (show nI j < 0 by rw [show nI j = -1 from z]; decide) h0
theorem b_o {o : Option Nat} {m : Nat} {A B : Prop} (h : ∀ j, o = some j → j < m) (hm : m < 2 ^ 31) (f : o = none → A) (g : o ≠ none → B) : (oI o = -1 → A) ∧ (¬ oI o = -1 → B) :=
  ⟨fun z => f ((oI_m1 h hm).mp z), fun z => g (fun e => z ((oI_m1 h hm).mpr e))⟩
theorem dA_lt {k : Nat} {t : Nat → Nat} {n j i : Nat} (h : dA k t n j = some i) : i < aC k t n := by
  unfold dA at h
  split at h
  · exact (pF_lt h).1
  · cases h
theorem dA_6 {k : Nat} {t : Nat → Nat} {n j : Nat} (hj : j < n) (h : aR k t j = 6) : dA k t n j = pF k t n t (j + 1) (nE k t n 7 (j + 1)) := by unfold dA; rw [gR_in hj, if_pos h]
theorem r_vars0 {post : Int32 → Prop} {u0 : FoC} {v : MaC} {u : SgC} {M : Nat} {ad : Nat → Nat} {k : Nat} {t : Nat → Nat} {n w : Nat} (hF : FoI u0 v M ad) (hP : noX (sgP u) M) (hu : SgI u k t n) (hg : Gd k t n) (hw : w < 3) (h : post (nI (mV k t n none w n))) : wp_F_vars0 post u0 u v (nI w) := by
  unfold wp_F_vars0
  have hn := hg.2.1
  have hc := hg.2.2.2.2.2
  refine r_findN hF hP ⟨rfl, ?_⟩
  refine lpN (n := n) (W := fun f j => w_F_vars0_15 post u0 u v f (nI w) (nI (mV k t n none w j)) (nI j)) (fun f => ?_) (fun f j hj ih => ?_) 0 (by omega)
  · unfold w_F_vars0_15 wb_F_vars0_15
    rw [hu.2.1, ofN]
    exact b_le (by omega) (by omega) (fun _ => h) (fun z => absurd z (by omega))
  · unfold w_F_vars0_15 wb_F_vars0_15 w_F_vars0_78 w_F_vars0_87
    rw [hu.2.1, ofN]
    have := aR_lt k t j
    refine b_le (by omega) (by omega) (fun z => absurd z (by omega)) (fun _ => r_roleAt hu hn (by omega) ?_)
    have e : mV k t n none w (j + 1) = if aR k t j = 6 ∧ vBy k t n none j = w then mV k t n none w j + 1 else mV k t n none w j := rfl
    rw [e] at ih
    rw [gR_in hj, nI_1 j, nI_1]
    refine b_eq' (k := 6) (by omega) (by decide) (fun e6 => r_declarerAt hu hg (by omega) (b_o (m := 20) (fun i hi => by have := dA_lt hi; omega) (by decide) (fun eo => ?_) (fun eo => ?_))) (fun e6 => ?_)
    · have ev : vBy k t n none j = 0 := by unfold vBy; rw [← dA_6 hj e6, eo]; simp
      rw [ev] at ih
      refine b_eq (c := 0) (by decide) (by omega) (fun q => ?_) (fun q => ?_)
      · rw [if_pos ⟨e6, q⟩] at ih; exact ih
      · rw [if_neg (fun z => q z.2)] at ih; exact ih
    · have ev : vBy k t n none j = 1 := by unfold vBy; rw [← dA_6 hj e6, if_pos eo]
      rw [ev] at ih
      refine b_eq (c := 1) (by decide) (by omega) (fun q => ?_) (fun q => ?_)
      · rw [if_pos ⟨e6, q⟩] at ih; exact ih
      · rw [if_neg (fun z => q z.2)] at ih; exact ih
    · rw [if_neg (fun z => e6 z.1)] at ih; exact ih
theorem r_vars1 {post : Int32 → Prop} {u0 : FoC} {v : MaC} {u u' : SgC} {M : Nat} {ad : Nat → Nat} {k k' : Nat} {t t' : Nat → Nat} {n n' w s' : Nat} (hF : FoI u0 v M ad) (hs' : s' < M) (hP : sgP u = nI s') (hu : SgI u k t n) (hg : Gd k t n) (hu' : SgI u' k' t' n') (hg' : Gd k' t' n') (hw : w < 3) (h : post (nI (mV k t n (some (k', t', n')) w n))) : wp_F_vars1 post u0 u v u' (nI w) (ad s') := by
  unfold wp_F_vars1
  have hn := hg.2.1
  have hc := hg.2.2.2.2.2
  have hc' := hg'.2.2.2.2.2
  rw [hP]
  refine r_findY hF hs' ⟨rfl, ?_⟩
  refine lpN (n := n) (W := fun f j => w_F_vars1_15 post u0 u v u' (ad s') f (nI w) (nI (mV k t n (some (k', t', n')) w j)) (nI j)) (fun f => ?_) (fun f j hj ih => ?_) 0 (by omega)
  · unfold w_F_vars1_15 wb_F_vars1_15
    rw [hu.2.1, ofN]
    exact b_le (by omega) (by omega) (fun _ => h) (fun z => absurd z (by omega))
  · unfold w_F_vars1_15 wb_F_vars1_15 w_F_vars1_78 w_F_vars1_87
    rw [hu.2.1, ofN]
    have := aR_lt k t j
    refine b_le (by omega) (by omega) (fun z => absurd z (by omega)) (fun _ => r_roleAt hu hn (by omega) ?_)
    have e : mV k t n (some (k', t', n')) w (j + 1) = if aR k t j = 6 ∧ vBy k t n (some (k', t', n')) j = w then mV k t n (some (k', t', n')) w j + 1 else mV k t n (some (k', t', n')) w j := rfl
    rw [e] at ih
    rw [gR_in hj, nI_1 j, nI_1]
    refine b_eq' (k := 6) (by omega) (by decide) (fun e6 => r_declarerAt hu hg (by omega) (b_o (m := 20) (fun i hi => by have := dA_lt hi; omega) (by decide) (fun eo => ?_) (fun eo => ?_))) (fun e6 => ?_)
    · obtain ⟨z1, z2⟩ := var_next hg hj e6
      refine r_parameterNamed hu' hg' hu hg (by omega) ?_
      rw [gR_in z1, z2]
      refine b_o (m := 20) (fun i hi => by have := (pF_lt hi).1; omega) (by decide) (fun eo2 => ?_) (fun eo2 => ?_)
      · have ev : vBy k t n (some (k', t', n')) j = 0 := by unfold vBy; rw [← dA_6 hj e6, eo]; simp [eo2]
        rw [ev] at ih
        refine b_eq (c := 0) (by decide) (by omega) (fun q => ?_) (fun q => ?_)
        · rw [if_pos ⟨e6, q⟩] at ih; exact ih
        · rw [if_neg (fun z => q z.2)] at ih; exact ih
      · have ev : vBy k t n (some (k', t', n')) j = 2 := by unfold vBy; rw [← dA_6 hj e6, eo]; simp [eo2]
        rw [ev] at ih
        refine b_eq (c := 2) (by decide) (by omega) (fun q => ?_) (fun q => ?_)
        · rw [if_pos ⟨e6, q⟩] at ih; exact ih
        · rw [if_neg (fun z => q z.2)] at ih; exact ih
    · have ev : vBy k t n (some (k', t', n')) j = 1 := by unfold vBy; rw [← dA_6 hj e6, if_pos eo]
      rw [ev] at ih
      refine b_eq (c := 1) (by decide) (by omega) (fun q => ?_) (fun q => ?_)
      · rw [if_pos ⟨e6, q⟩] at ih; exact ih
      · rw [if_neg (fun z => q z.2)] at ih; exact ih
    · rw [if_neg (fun z => e6 z.1)] at ih; exact ih
