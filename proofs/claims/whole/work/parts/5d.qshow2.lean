theorem XI.roleB {post : Int32 → Prop} {u : MoC} {X : XA} {k : Nat} {t : Nat → Nat} {n s j : Nat} (h : XI X k t n s) (hn : n ≤ 120) (hj : j ≤ n) (hp : ∀ c, post (nI (pTr (aS k t j).1 c))) : wp_M_roleAt post u X.2.1 X.2.2.1 (nI s) (nI j - 1) := by
  cases j with
  | zero => exact ⟨fun _ => hp 0, fun z => absurd (by decide) z⟩
  | succ j =>
    rw [nI_pred]
    refine h.role hn (by omega) ?_
    rw [gR_in (by omega)]
    have := hp (gL t n j)
    rw [aS_succ] at this
    exact this
theorem q_at {post : Int32 → Prop} {u : MoC} {X : XA} {k : Nat} {t : Nat → Nat} {n s j : Nat} (h : XI X k t n s) (hn : n ≤ 120) (hj : j < n) (hp : post (nI (t j))) : wp_M_at post u X.1 (nI s) (nI j) := by
  have hs := h.1
  refine r_at (by rw [h.2.1]; omega) (by rw [h.2.1]; omega) ?_
  rw [h.2.2.2.2.2.2.2.2.2.2.2.2.1 j hj]
  exact hp
theorem q_part {post : (MoC × IaC) → Prop} {u : MoC} {o : IaC} {X : XA} {k : Nat} {t : Nat → Nat} {n s p d c4 : Nat} {L : List Nat} (hX : XI X k t n s) (hg : Gd k t n) (hp : p < n) (hd : d < 1000) (hc4 : c4 < 1000) (hu : OuI u o L) (hl : L.length < 4000)
    (H0 : prt k t p = false → OP post u L) (H1 : prt k t p = true → OP post u (L ++ [if 0 < d ∨ k = 1 then 44 else if c4 = 1 then 58 else 44])) : wp_M_part post u X.2.1 X.2.2.1 X.2.2.2.1 o (nI s) (nI p) (nI d) (nI c4) := by
  have hn := hg.2.1
  have hr := aR_lt k t p
  have hl25 := (aS_lt k t p).1
  have hk := hg.1
  have hs := hX.1
  have h0 := hg.r0 hp
  unfold wp_M_part
  refine hX.role hn (by omega) (hX.roleB hn (by omega) (fun c => ?_))
  rw [gR_in hp]
  have hpt := pTr_lt (aR k t p) (gL t n p)
  have hpl := pTr_lt (aS k t p).1 c
  generalize hy : gL t n p = y at *
  have l9 := pTr_is (c := c) 9 14 hl25 (by decide)
  have l15 := pTr_is (c := c) 15 8 hl25 (by decide)
  have l4 := pTr_is (c := c) 4 20 hl25 (by decide)
  have l10 := pTr_is (c := c) 10 17 hl25 (by decide)
  have r10 := pTr_is (c := y) 10 17 hr (by decide)
  have r4 : pTr (aR k t p) y ≤ 4 ↔ aR k t p = 9 ∨ aR k t p = 6 ∨ aR k t p = 19 ∨ aR k t p = 20 := by
    rw [pTr_b]
    have : ∀ r, r < 25 → r ≠ 0 → ∀ b : Bool, (pTrb r b ≤ 4 ↔ r = 9 ∨ r = 6 ∨ r = 19 ∨ r = 20) := by decide
    exact this _ hr h0 _
  have r11 : pTr (aR k t p) y = 11 ∨ pTr (aR k t p) y = 12 ↔ aR k t p = 18 := by
    rw [pTr_b]
    have : ∀ r, r < 25 → ∀ b : Bool, (pTrb r b = 11 ∨ pTrb r b = 12 ↔ r = 18) := by decide
    exact this _ hr _
  have h21 := (stD_of hg hp).1
  have pr : prt k t p = true ↔ ((aS k t p).1 = 14 ∨ (aS k t p).1 = 8 ∨ (aS k t p).1 = 20 ∨ (aS k t p).1 = 17) ∧ (aR k t p = 9 ∨ aR k t p = 6 ∨ aR k t p = 19 ∨ aR k t p = 20 ∨ aR k t p = 17 ∨ aR k t p = 18) := by
    constructor
    · intro z
      have := (h21 z).1
      simp only [prt, Bool.and_eq_true, Bool.or_eq_true, beq_iff_eq] at z
      omega
    · intro z
      simp only [prt, Bool.and_eq_true, Bool.or_eq_true, beq_iff_eq]
      omega
  have nop : ¬ prt k t p = true → post (u, o) := fun z => H0 (by simpa using z) u o (MQu.rf u) hu
  have yes : prt k t p = true → w_M_part_85 post X.2.1 X.2.2.1 X.2.2.2.1 (nI s) (nI d) (nI c4) u o := by
    intro z
    have H := H1 z
    unfold w_M_part_85 w_M_part_99 w_M_part_122
    rw [hX.2.2.2.2.1, nI_clamp (by omega), hX.2.2.2.2.2.2.2.2.2.2.2.1]
    refine b_lt (a := 0) (by decide) (by omega) (fun z1 => ?_) (fun z1 => ⟨vp_in_nI (by omega) (by decide), b_eq (k := 1) (by omega) (by decide) (fun z2 => ?_) (fun z2 => b_eq (k := 1) (by omega) (by decide) (fun z3 => ?_) (fun z3 => ?_))⟩)
    · rw [if_pos (Or.inl z1)] at H; exact q_put (c := 44) hu (by omega) H
    · rw [if_pos (Or.inr z2)] at H; exact q_put (c := 44) hu (by omega) H
    · rw [if_neg (by omega), if_pos z3] at H; exact q_put (c := 58) hu (by omega) H
    · rw [if_neg (by omega), if_neg z3] at H; exact q_put (c := 44) hu (by omega) H
  have w45 : ((aS k t p).1 = 14 ∨ (aS k t p).1 = 8 ∨ (aS k t p).1 = 20 ∨ (aS k t p).1 = 17) → w_M_part_45 post X.2.1 X.2.2.1 X.2.2.2.1 (nI s) (nI d) (nI c4) (nI (pTr (aR k t p) y)) u o := by
    intro z
    unfold w_M_part_45 w_M_part_50
    refine ⟨fun q => absurd q (by decide), fun _ => b_le (a := 4) (by decide) (by omega) (fun q => yes (pr.mpr ⟨z, by have := r4.mp q; omega⟩)) (fun q => b_eq' (k := 10) (by omega) (by decide) (fun q2 => yes (pr.mpr ⟨z, by have := r10.mp q2; omega⟩)) (fun q2 => b_eq' (k := 11) (by omega) (by decide) (fun q3 => yes (pr.mpr ⟨z, by have := r11.mp (Or.inl q3); omega⟩)) (fun q3 => b_eq' (k := 12) (by omega) (by decide) (fun q4 => yes (pr.mpr ⟨z, by have := r11.mp (Or.inr q4); omega⟩)) (fun q4 => nop (fun w => ?_)))))⟩
    obtain ⟨-, w⟩ := pr.mp w
    rcases w with w | w | w | w | w | w
    · have := r4.mpr (by omega); omega
    · have := r4.mpr (by omega); omega
    · have := r4.mpr (by omega); omega
    · have := r4.mpr (by omega); omega
    · exact q2 (r10.mpr w)
    · have := r11.mpr w; omega
  refine b_eq' (k := 9) (by omega) (by decide) (fun e => w45 (by have := l9.mp e; omega)) (fun e9 => b_eq' (k := 15) (by omega) (by decide) (fun e => w45 (by have := l15.mp e; omega)) (fun e15 => b_eq' (k := 4) (by omega) (by decide) (fun e => w45 (by have := l4.mp e; omega)) (fun e4 => b_eq (k := 10) (by omega) (by decide) (fun e => w45 (by have := l10.mp e; omega)) (fun e10 => ?_))))
  unfold w_M_part_50
  refine ⟨fun _ => nop (fun w => ?_), fun q => absurd rfl q⟩
  obtain ⟨w, -⟩ := pr.mp w
  rcases w with w | w | w | w
  · exact e9 (l9.mpr w)
  · exact e15 (l15.mpr w)
  · exact e4 (l4.mpr w)
  · exact e10 (l10.mpr w)
/-- what the reference's show holds behind p characters -/
def MT (u u' : MoC) : Prop := moN u' = moN u ∧ moM u' = moM u ∧ moG u' = moG u ∧ moS u' = moS u ∧ moI u' = moI u
def iN (l : Nat) : Nat := if inC l = true then 1 else 0
def pd (k : Nat) (t : Nat → Nat) (p : Nat) : Nat := if inC (aS k t p).1 = true then 0 else wt k t p (aS k t p).2.1
def QS (u0 u : MoC) (a : IaC) (k : Nat) (t : Nat → Nat) (p : Nat) : Prop := MT u0 u ∧ moT u = nI ((aS k t p).2.1 + iN (aS k t p).1) - 1 ∧ iaN a = 130 ∧ ∀ i, i < (aS k t p).2.1 + iN (aS k t p).1 → iaF a i = nI (wt k t p i)
theorem QS.mq {u0 u u' : MoC} {a : IaC} {k : Nat} {t : Nat → Nat} {p : Nat} (h : QS u0 u a k t p) (m : MQu u u') : QS u0 u' a k t p :=
  ⟨⟨m.1.trans h.1.1, m.2.1.trans h.1.2.1, m.2.2.2.1.trans h.1.2.2.1, m.2.2.2.2.1.trans h.1.2.2.2.1, m.2.2.2.2.2.trans h.1.2.2.2.2⟩, m.2.2.1.trans h.2.1, h.2.2⟩
def bd (k : Nat) (t : Nat → Nat) (n p : Nat) : Nat := if aO k t n ≤ p then 1 else 0
theorem sub_add1 (x : Int32) : x - 1 + 1 = x := Int32.sub_add_cancel x 1
theorem cl_le (k : Nat) (t : Nat → Nat) (n : Nat) : ∀ p, cl k t n p ≤ p
  | 0 => Nat.le_refl 0
  | p + 1 => by have := cl_le k t n p; unfold cl; split <;> omega
theorem th_le (k : Nat) (t : Nat → Nat) : ∀ p, th k t p ≤ p
  | 0 => Nat.le_refl 0
  | p + 1 => by have := th_le k t p; unfold th; split <;> omega
theorem bd_next {k : Nat} {t : Nat → Nat} {n p : Nat} (hg : Gd k t n) (hp : p < n) : bd k t n (p + 1) = if aR k t p = 5 then 1 else bd k t n p := by
  unfold bd
  rcases Nat.eq_zero_or_pos (aC k t n) with z | z
  · obtain ⟨o1, o2⟩ := O_0 hg z
    rw [o1, if_neg (o2 p hp), if_pos (by omega), if_pos (by omega)]
  · obtain ⟨o1, o2, o3, o4, o5⟩ := O_1 hg z
    by_cases r5 : aR k t p = 5
    · have := o4 p hp r5
      rw [if_pos r5, if_pos (by omega)]
    · rw [if_neg r5]
      have : aO k t n ≠ p + 1 := fun q => r5 (by rw [q] at o3; exact o3)
      by_cases q : aO k t n ≤ p
      · rw [if_pos q, if_pos (by omega)]
      · rw [if_neg q, if_neg (by omega)]
/-- most characters change nothing of the stack -/
theorem QS.same {u0 u : MoC} {a : IaC} {k : Nat} {t : Nat → Nat} {n p : Nat} (hg : Gd k t n) (hp : p < n) (h : QS u0 u a k t p) (h9 : aR k t p ≠ 9) (h14 : aR k t p ≠ 14) : QS u0 u a k t (p + 1) := by
  obtain ⟨q1, q2, q3, q4⟩ := h
  obtain ⟨s1, s2⟩ := stC_of hg hp
  have el : (aS k t (p + 1)).1 = aR k t p := by rw [aS_succ]
  have h0 := hg.r0 hp
  have e : (aS k t (p + 1)).2.1 + iN (aS k t (p + 1)).1 = (aS k t p).2.1 + iN (aS k t p).1 := by
    rw [el]
    unfold iN
    by_cases r15 : aR k t p = 15
    · rw [dep_15 r15, if_pos (s1.mpr (by omega)), r15]; rfl
    · by_cases r16 : aR k t p = 16
      · have := dep_16 r16
        have nc : ¬ inC (aS k t p).1 = true := fun z => by have := s1.mp z; omega
        rw [if_neg nc, r16, this]; rfl
      · rw [dep_no r15 r16]
        have : inC (aR k t p) = true ↔ inC (aS k t p).1 = true := by
          rw [s1]
          simp only [inC, Bool.or_eq_true, beq_iff_eq]
          omega
        by_cases z : inC (aS k t p).1 = true
        · rw [if_pos z, if_pos (this.mpr z)]
        · rw [if_neg z, if_neg (fun w => z (this.mp w))]
  refine ⟨q1, by rw [e]; exact q2, q3, fun i hi => ?_⟩
  rw [e] at hi
  rw [q4 i hi, wt_next]
  congr 1
  -- the levels below are untouched
  by_cases hi2 : i < (aS k t p).2.1
  · rw [if_neg (by omega), if_neg (by omega), if_neg (by omega)]
  · have hc : inC (aS k t p).1 = true := by
      unfold iN at hi
      split at hi
      · assumption
      · omega
    have hi3 : i = (aS k t p).2.1 := by
      unfold iN at hi
      rw [if_pos hc] at hi
      omega
    have := s1.mp hc
    rw [if_neg (by omega), if_neg (by omega), if_neg (by omega)]
theorem pd_next {k : Nat} {t : Nat → Nat} {n p : Nat} (hg : Gd k t n) (hp : p < n) : pd k t (p + 1) = if aR k t p = 19 then pd k t p + 1 else if aR k t p = 9 ∨ aR k t p = 14 ∨ aR k t p = 8 ∨ aR k t p = 20 then 0 else pd k t p := by
  obtain ⟨s1, s2⟩ := stC_of hg hp
  have el : (aS k t (p + 1)).1 = aR k t p := by rw [aS_succ]
  have h0 := hg.r0 hp
  have hr := aR_lt k t p
  have icS : ¬ (aR k t p = 10 ∨ aR k t p = 11 ∨ aR k t p = 12 ∨ aR k t p = 13 ∨ aR k t p = 14 ∨ aR k t p = 15) → inC (aS k t p).1 = false := fun z => by
    cases e : inC (aS k t p).1
    · rfl
    · exact absurd (s1.mp e) z
  have w19 : aR k t p = 19 → wt k t (p + 1) (aS k t p).2.1 = wt k t p (aS k t p).2.1 + 1 := fun z => by rw [wt_next, if_pos ⟨z, rfl⟩]
  have wr : (aR k t p = 8 ∨ aR k t p = 14 ∨ aR k t p = 20 ∨ aR k t p = 21) → wt k t (p + 1) (aS k t p).2.1 = 0 := fun z => by rw [wt_next, if_neg (by omega), if_pos ⟨z, rfl⟩]
  have w15 : aR k t p = 15 → wt k t (p + 1) ((aS k t p).2.1 + 1) = 0 := fun z => by rw [wt_next, if_neg (by omega), if_neg (by omega), if_pos ⟨z, rfl⟩]
  have wo : aR k t p ≠ 19 → ¬ (aR k t p = 8 ∨ aR k t p = 14 ∨ aR k t p = 20 ∨ aR k t p = 21) → wt k t (p + 1) (aS k t p).2.1 = wt k t p (aS k t p).2.1 := fun z z2 => by rw [wt_next, if_neg (fun w => z w.1), if_neg (fun w => z2 w.1), if_neg (by omega)]
  have p1 : ∀ r, inC r = true → (if inC r = true then 0 else wt k t (p + 1) (aS k t (p + 1)).2.1) = 0 := fun r z => if_pos z
  have p0 : ∀ r, inC r = false → (if inC r = true then 0 else wt k t (p + 1) (aS k t (p + 1)).2.1) = wt k t (p + 1) (aS k t (p + 1)).2.1 := fun r z => by rw [z]; rfl
  have o1 : inC (aS k t p).1 = true → (if inC (aS k t p).1 = true then 0 else wt k t p (aS k t p).2.1) = 0 := fun z => if_pos z
  have o0 : inC (aS k t p).1 = false → (if inC (aS k t p).1 = true then 0 else wt k t p (aS k t p).2.1) = wt k t p (aS k t p).2.1 := fun z => by rw [z]; rfl
  unfold pd
  rw [el]
  by_cases r19 : aR k t p = 19
  · rw [if_pos r19, p0 _ (by rw [r19]; decide), o0 (icS (by omega)), dep_no (by omega) (by omega), w19 r19]
  · rw [if_neg r19]
    by_cases r9 : aR k t p = 9 ∨ aR k t p = 14 ∨ aR k t p = 8 ∨ aR k t p = 20
    · rw [if_pos r9]
      rcases r9 with r | r | r | r
      · exact p1 _ (by rw [r]; decide)
      · rw [p0 _ (by rw [r]; decide), dep_no (by omega) (by omega), wr (by omega)]
      · rw [p0 _ (by rw [r]; decide), dep_no (by omega) (by omega), wr (by omega)]
      · rw [p0 _ (by rw [r]; decide), dep_no (by omega) (by omega), wr (by omega)]
    · rw [if_neg r9]
      by_cases rc : aR k t p = 10 ∨ aR k t p = 11 ∨ aR k t p = 12 ∨ aR k t p = 13
      · have a1 : inC (aR k t p) = true := by simp only [inC, Bool.or_eq_true, beq_iff_eq]; omega
        rw [p1 _ a1, o1 (s1.mpr (by omega))]
      · by_cases r15 : aR k t p = 15
        · rw [p0 _ (by rw [r15]; decide), o1 (s1.mpr (by omega)), dep_15 r15, w15 r15]
        · by_cases r16 : aR k t p = 16
          · obtain ⟨w1, w2, w3⟩ := s2 (by omega)
            rw [p1 _ (by rw [r16]; decide), o0 (icS (by omega)), wt_0 hg p (by omega) (icS (by omega)) w1 w2 w3]
          · have a1 : inC (aR k t p) = false := by
              cases e : inC (aR k t p)
              · rfl
              · simp only [inC, Bool.or_eq_true, beq_iff_eq] at e
                omega
            rw [p0 _ a1, o0 (icS (by omega)), dep_no r15 r16]
            by_cases r21 : aR k t p = 21
            · obtain ⟨w1, w2, w3⟩ := s2 (by omega)
              rw [wr (by omega), wt_0 hg p (by omega) (icS (by omega)) w1 w2 w3]
            · rw [wo r19 (by omega)]
