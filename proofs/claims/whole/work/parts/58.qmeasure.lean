/-! the reference: measure, bounds -/
/-- one step of what is measured -/
def mSt (w a r d' b' : Nat) : Nat :=
  let b := if w = 3 ∧ r = 9 then a + 1 else a
  let c := if w = 4 ∧ b < d' then d' else b
  if w = 5 ∧ c < b' then b' else c
def mQw (k : Nat) (t : Nat → Nat) (n : Nat) (sc : Sc) (w p : Nat) : Nat := if w < 3 then mV k t n sc w p else if w = 3 then mCl k t p else if w = 4 then mDp k t p else mBr k t p
theorem mQw_le (k : Nat) (t : Nat → Nat) (n : Nat) (sc : Sc) (w p : Nat) : mQw k t n sc w p ≤ p := by
  have := m_le k t n sc w p
  unfold mQw
  split
  · omega
  · split
    · omega
    · split <;> omega
theorem mQw_st {k : Nat} {t : Nat → Nat} {n : Nat} {sc : Sc} {w p : Nat} (hw : w < 6) : mQw k t n sc w (p + 1) = mSt w (if w < 3 ∧ aR k t p = 6 ∧ vBy k t n sc p = w then mQw k t n sc w p + 1 else mQw k t n sc w p) (aR k t p) (aS k t (p + 1)).2.1 (mRn k t (p + 1)) := by
  unfold mQw mSt
  have e1 : mV k t n sc w (p + 1) = if aR k t p = 6 ∧ vBy k t n sc p = w then mV k t n sc w p + 1 else mV k t n sc w p := rfl
  have e2 : mCl k t (p + 1) = if aR k t p = 9 then mCl k t p + 1 else mCl k t p := rfl
  have e3 : mDp k t (p + 1) = if mDp k t p < (aS k t (p + 1)).2.1 then (aS k t (p + 1)).2.1 else mDp k t p := rfl
  have e4 : mBr k t (p + 1) = if mBr k t p < mRn k t (p + 1) then mRn k t (p + 1) else mBr k t p := rfl
  rw [e1, e2, e3, e4]
  generalize aR k t p = r
  generalize (aS k t (p + 1)).2.1 = d
  generalize mRn k t (p + 1) = b
  generalize vBy k t n sc p = v
  dsimp only
  rcases (by omega : w < 3 ∨ w = 3 ∨ w = 4 ∨ w = 5) with h | rfl | rfl | rfl
  · have : ¬ w = 3 ∧ ¬ w = 4 ∧ ¬ w = 5 := by omega
    simp [h, this.1, this.2.1, this.2.2]
  · simp
  · simp
  · simp
theorem q_m108 {post : Int32 → Prop} {u0 : MoC} {u3 u4 u5 u6 u7 u8 u9 : IaC} {K0 : Int32 → Int32 → Int32 → Int32 → Int32 → Int32 → Prop} {s w a j : Nat} {k : Nat} {t : Nat → Nat} {c : Nat} (hw : w < 6) (ha : a ≤ 200) (hj : j < 120)
    (h : K0 (nI s) (nI w) (nI (mSt w a (aR k t j) (aS k t (j + 1)).2.1 (mRn k t (j + 1)))) (nI (aS k t (j + 1)).2.1) (nI (mRn k t (j + 1))) (nI (j + 1))) :
    w_M_measure_108 post u0 u3 u4 u5 u6 u7 u8 u9 K0 (nI s) (nI w) (nI a) (nI (aS k t j).2.1) (nI (mRn k t j)) (nI j) (nI (pTr (aR k t j) c)) := by
  have hr := aR_lt k t j
  have l := m_le k t 0 none 0 j
  have l2 := m_le k t 0 none 0 (j + 1)
  have d1 := (aS_lt k t j).2.1
  have d2 := (aS_lt k t (j + 1)).2.1
  have hpt := pTr_lt (aR k t j) c
  have i1 := pTr_is (c := c) 1 9 hr (by decide)
  have i8 := pTr_is (c := c) 8 15 hr (by decide)
  have i13 := pTr_is (c := c) 13 16 hr (by decide)
  have i3 := pTr_is (c := c) 3 19 hr (by decide)
  have eR : mRn k t (j + 1) = if aR k t j = 19 then mRn k t j + 1 else 0 := rfl
  -- the row
  have h170 : ∀ b, b ≤ 300 → K0 (nI s) (nI w) (nI (if w = 5 ∧ b < mRn k t (j + 1) then mRn k t (j + 1) else b)) (nI (aS k t (j + 1)).2.1) (nI (mRn k t (j + 1))) (nI (j + 1)) → w_M_measure_156 post u0 u3 u4 u5 u6 u7 u8 u9 K0 (nI s) (nI w) (nI b) (nI (aS k t (j + 1)).2.1) (nI (mRn k t j)) (nI j) (nI (pTr (aR k t j) c)) := by
    intro b hb hK
    have go : w_M_measure_170 post u0 u3 u4 u5 u6 u7 u8 u9 K0 (nI s) (nI w) (nI b) (nI (aS k t (j + 1)).2.1) (nI j) (nI (mRn k t (j + 1))) := by
      unfold w_M_measure_170 w_M_measure_186
      rw [nI_1]
      refine b_eq (k := 5) (by omega) (by decide) (fun e => b_le (by omega) (by omega) (fun z => ?_) (fun z => ?_)) (fun e => ?_)
      · rw [if_neg (by omega)] at hK; exact hK
      · rw [if_pos ⟨e, z⟩] at hK; exact hK
      · rw [if_neg (fun z => e z.1)] at hK; exact hK
    unfold w_M_measure_156
    refine b_eq (k := 3) (by omega) (by decide) (fun e => ?_) (fun e => ?_)
    · rw [eR, if_pos (i3.mp e)] at go; rw [nI_1]; exact go
    · rw [eR, if_neg (fun z => e (i3.mpr z))] at go; exact go
  -- the depth
  have h142 : ∀ b, b ≤ 250 → K0 (nI s) (nI w) (nI (let c := if w = 4 ∧ b < (aS k t (j + 1)).2.1 then (aS k t (j + 1)).2.1 else b; if w = 5 ∧ c < mRn k t (j + 1) then mRn k t (j + 1) else c)) (nI (aS k t (j + 1)).2.1) (nI (mRn k t (j + 1))) (nI (j + 1)) → w_M_measure_142 post u0 u3 u4 u5 u6 u7 u8 u9 K0 (nI s) (nI w) (nI b) (nI (aS k t (j + 1)).2.1) (nI (mRn k t j)) (nI j) (nI (pTr (aR k t j) c)) := by
    intro b hb hK
    unfold w_M_measure_142
    dsimp only at hK
    refine b_eq (k := 4) (by omega) (by decide) (fun e => b_le (by omega) (by omega) (fun z => ?_) (fun z => ?_)) (fun e => ?_)
    · rw [if_neg (show ¬ (w = 4 ∧ b < (aS k t (j + 1)).2.1) by omega)] at hK; exact h170 b (by omega) hK
    · rw [if_pos (show w = 4 ∧ b < (aS k t (j + 1)).2.1 from ⟨e, z⟩)] at hK; exact h170 _ (by omega) hK
    · rw [if_neg (show ¬ (w = 4 ∧ b < (aS k t (j + 1)).2.1) from fun z => e z.1)] at hK; exact h170 b (by omega) hK
  have h122 : ∀ b, b ≤ 250 → K0 (nI s) (nI w) (nI (let c := if w = 4 ∧ b < (aS k t (j + 1)).2.1 then (aS k t (j + 1)).2.1 else b; if w = 5 ∧ c < mRn k t (j + 1) then mRn k t (j + 1) else c)) (nI (aS k t (j + 1)).2.1) (nI (mRn k t (j + 1))) (nI (j + 1)) → w_M_measure_122 post u0 u3 u4 u5 u6 u7 u8 u9 K0 (nI s) (nI w) (nI b) (nI (aS k t j).2.1) (nI (mRn k t j)) (nI j) (nI (pTr (aR k t j) c)) := by
    intro b hb hK
    have := h142 b hb hK
    unfold w_M_measure_122 w_M_measure_132
    refine b_eq (k := 8) (by omega) (by decide) (fun e => b_eq (k := 13) (by omega) (by decide) (fun e2 => by omega) (fun e2 => ?_)) (fun e => b_eq (k := 13) (by omega) (by decide) (fun e2 => ?_) (fun e2 => ?_))
    · rw [nI_1, ← dep_15 (i8.mp e)]; exact this
    · rw [dep_16 (i13.mp e2), mI1]; exact this
    · rw [dep_no (fun z => e (i8.mpr z)) (fun z => e2 (i13.mpr z))] at this; exact this
  unfold w_M_measure_108
  unfold mSt at h
  dsimp only at h
  refine b_eq (k := 1) (by omega) (by decide) (fun e => b_eq (k := 3) (by omega) (by decide) (fun e2 => ?_) (fun e2 => ?_)) (fun e => ?_)
  · rw [if_pos (show w = 3 ∧ aR k t j = 9 from ⟨e2, i1.mp e⟩)] at h; rw [nI_1]; exact h122 _ (by omega) h
  · rw [if_neg (show ¬ (w = 3 ∧ aR k t j = 9) from fun z => e2 z.1)] at h; exact h122 _ (by omega) h
  · rw [if_neg (show ¬ (w = 3 ∧ aR k t j = 9) from fun z => e (i1.mpr z.2))] at h; exact h122 _ (by omega) h
/-- the scope's slot -/
def ScI (X : XA) (x5 : IaC) (s : Nat) (sc : Sc) : Prop := match sc with
  | none => iaF x5 s = -1
  | some S => ∃ s', iaF x5 s = nI s' ∧ XI X S.1 S.2.1 S.2.2 s' ∧ Gd S.1 S.2.1 S.2.2
theorem oX_neg {s : Nat} {o : Option Nat} {A B : Prop} (hs : s < 25) (h : ∀ j, o = some j → j < 20) (f : o = none → A) (g : o ≠ none → B) : (oX s o < 0 → A) ∧ (¬ oX s o < 0 → B) := by
  cases o with
  | none => exact ⟨fun _ => f rfl, fun z => absurd (show (-1 : Int32) < 0 by decide) z⟩
  | some j => have := h j rfl; exact ⟨fun z => absurd z (nI_pos (by omega)), fun _ => g (by simp)⟩
theorem q_own {post : Int32 → Prop} {u : MoC} {X : XA} {k : Nat} {t : Nat → Nat} {n s j : Nat} (hX : XI X k t n s) (hg : Gd k t n) (hj : j + 1 ≤ n) (H0 : pF k t n t (j + 1) (nE k t n 7 (j + 1)) = none → post 0) (H1 : pF k t n t (j + 1) (nE k t n 7 (j + 1)) ≠ none → post 1) :
    wp_M_own post u X.1 X.2.1 X.2.2.1 X.2.2.2.2.1 X.2.2.2.2.2.1 X.2.2.2.2.2.2.2.2 (nI s) (nI j) := by
  unfold wp_M_own
  exact q_param hX hg hX hg hj (oX_neg hX.1 (fun i hi => by have := (pF_lt hi).1; have := hg.2.2.2.2.2; omega) H0 H1)
theorem q_measure {post : Int32 → Prop} {u : MoC} {X : XA} {x5 : IaC} {k : Nat} {t : Nat → Nat} {n s M w : Nat} {sc : Sc} (hM : moM u = nI M) (hM2 : M ≤ 24) (hs : s < M) (hX : XI X k t n s) (hg : Gd k t n) (h5 : iaN x5 = 25) (hsc : ScI X x5 s sc) (hw : w < 6) (h : post (nI (mQw k t n sc w n))) :
    wp_M_measure post u X.1 X.2.1 X.2.2.1 x5 X.2.2.2.2.1 X.2.2.2.2.2.1 X.2.2.2.2.2.2.2.2 (nI s) (nI w) := by
  unfold wp_M_measure
  have hn := hg.2.1
  have hc := hg.2.2.2.2.2
  refine q_noY hM hM2 hs ⟨fun z => absurd rfl z, fun _ => ⟨fun z => absurd z (nI_pos (by omega)), fun _ => ⟨fun _ => ?_, fun z => absurd (nI_le (show w ≤ 5 by omega) (by decide)) z⟩⟩⟩
  have e0 : mQw k t n sc w 0 = 0 := by have := mQw_le k t n sc w 0; omega
  have lp := lpN (n := n) (W := fun f j => w_M_measure_31 post u X.1 X.2.1 X.2.2.1 x5 X.2.2.2.2.1 X.2.2.2.2.2.1 X.2.2.2.2.2.2.2.2 f (nI s) (nI w) (nI (mQw k t n sc w j)) (nI (aS k t j).2.1) (nI (mRn k t j)) (nI j)) (fun f => ?_) (fun f j hj ih => ?_) 0 (by omega)
  · rw [e0] at lp; exact lp
  · unfold w_M_measure_31 wb_M_measure_31
    rw [hX.2.2.2.1, nI_clamp (by omega), hX.2.2.2.2.2.2.2.2.2.2.1]
    exact ⟨vp_in_nI (by omega) (by decide), b_le (by omega) (by omega) (fun _ => h) (fun z => absurd z (by omega))⟩
  · unfold w_M_measure_31 wb_M_measure_31
    rw [hX.2.2.2.1, nI_clamp (by omega), hX.2.2.2.2.2.2.2.2.2.2.1]
    have hr := aR_lt k t j
    have hpt := pTr_lt (aR k t j) (gL t n j)
    have i2 := pTr_is (c := gL t n j) 2 6 hr (by decide)
    have hle := mQw_le k t n sc w j
    rw [mQw_st hw] at ih
    refine ⟨vp_in_nI (by omega) (by decide), b_le (by omega) (by omega) (fun z => absurd z (by omega)) (fun _ => hX.role hn (by omega) ?_)⟩
    rw [gR_in hj]
    refine b_eq (k := 2) (by omega) (by decide) (fun e => b_le (a := w) (q := 3) (by omega) (by omega) (fun z => ?_) (fun z => ?_)) (fun e => ?_)
    · rw [if_neg (by omega)] at ih
      exact q_m108 hw (by omega) (by omega) ih
    · have e6 := i2.mp e
      have fin : ∀ v, vBy k t n sc j = v → v < 3 → w_M_measure_97 post u X.1 X.2.1 X.2.2.1 x5 X.2.2.2.2.1 X.2.2.2.2.2.1 X.2.2.2.2.2.2.2.2 (w_M_measure_31 post u X.1 X.2.1 X.2.2.1 x5 X.2.2.2.2.1 X.2.2.2.2.2.1 X.2.2.2.2.2.2.2.2 f) (nI s) (nI w) (nI (mQw k t n sc w j)) (nI (aS k t j).2.1) (nI (mRn k t j)) (nI j) (nI (pTr (aR k t j) (gL t n j))) (nI v) := by
        intro v hv hv3
        unfold w_M_measure_97
        refine b_eq (by omega) (by omega) (fun q => ?_) (fun q => ?_)
        · rw [if_pos ⟨z, e6, by omega⟩] at ih
          rw [nI_1]
          exact q_m108 hw (by omega) (by omega) ih
        · rw [if_neg (by omega)] at ih
          exact q_m108 hw (by omega) (by omega) ih
      refine q_own hX hg (by omega) (fun o0 => ⟨fun _ => ?_, fun y => absurd rfl y⟩) (fun o1 => ⟨fun y => absurd y (by decide), fun _ => fin 1 (by unfold vBy; rw [if_pos o1]) (by decide)⟩)
      rw [h5]
      refine ⟨vp_in_nI (by omega) (by decide), ?_⟩
      cases sc with
      | none =>
        rw [show iaF x5 s = -1 from hsc]
        unfold wp_M_param
        exact ⟨fun y => absurd y (by decide), fun _ => ⟨fun _ => fin 0 (by unfold vBy; rw [o0]; simp) (by decide), fun y => absurd (by decide) y⟩⟩
      | some S =>
        obtain ⟨s', a1, a2, a3⟩ := hsc
        rw [a1]
        refine q_param a2 a3 hX hg (by omega) (oX_neg a2.1 (fun i hi => by have := (pF_lt hi).1; have := a3.2.2.2.2.2; omega) (fun o2 => fin 0 ?_ (by decide)) (fun o2 => fin 2 ?_ (by decide)))
        · unfold vBy; rw [o0]; simp [o2]
        · unfold vBy; rw [o0]; simp [o2]
    · rw [if_neg (fun y => e (i2.mpr y.2.1))] at ih
      exact q_m108 hw (by omega) (by omega) ih
theorem q_bounds {post : Int32 → Prop} {u : MoC} {X : XA} {k : Nat} {t : Nat → Nat} {n s M j : Nat} (hM : moM u = nI M) (hM2 : M ≤ 24) (hs : s < M) (hX : XI X k t n s) (hg : Gd k t n) (hj : j < aC k t n) (h : post (nI (aBc k t n j))) :
    wp_M_bounds post u X.2.2.2.2.2.2.2.1 X.2.2.2.2.2.2.2.2 (nI s) (nI j) := by
  unfold wp_M_bounds
  have hc := hg.2.2.2.2.2
  obtain ⟨-, x1, x2, x3, x4, x5, x6, x7, x8, x9, y1, y2, y3, y4, y5, y6, y7⟩ := hX
  refine q_noY hM hM2 hs ⟨fun z => absurd rfl z, fun _ => ⟨fun z => absurd z (nI_pos (by omega)), fun _ => ?_⟩⟩
  rw [x9, nI_clamp (by omega), y5, x8, show (20 : Int32) * nI s + nI j = nI (20 * s + j) from m_ix 20 s j, nI_clamp (by omega), (y7 j hj).2]
  exact ⟨vp_in_nI (by omega) (by decide), b_lt (by omega) (by omega) (fun _ => ⟨vp_in_nI (by omega) (by decide), h⟩) (fun z => absurd z (by omega))⟩
theorem q_boundsN {post : Int32 → Prop} {u : MoC} {X : XA} {k : Nat} {t : Nat → Nat} {n s M : Nat} {x : Int32} (hM : moM u = nI M) (hM2 : M ≤ 24) (hs : s < M) (hX : XI X k t n s) (hg : Gd k t n) (hj : noX x (aC k t n)) (h : post (-100)) :
    wp_M_bounds post u X.2.2.2.2.2.2.2.1 X.2.2.2.2.2.2.2.2 (nI s) x := by
  unfold wp_M_bounds w_M_bounds_22
  have hc := hg.2.2.2.2.2
  refine q_noY hM hM2 hs ⟨fun z => absurd rfl z, fun _ => ⟨fun z => h, fun z => ?_⟩⟩
  obtain ⟨-, x1, x2, x3, x4, x5, x6, x7, x8, x9, y1, y2, y3, y4, y5, y6, y7⟩ := hX
  obtain ⟨j, hj2, rfl⟩ := nI_of z
  rw [x9, nI_clamp (by omega), y5]
  exact ⟨vp_in_nI (by omega) (by decide), b_lt (by omega) (by omega) (fun z => absurd rfl (hj j z)) (fun _ => h)⟩
