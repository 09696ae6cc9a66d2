/-! alike -/
def al (k : Nat) (ta : Nat → Nat) (na : Nat) (tb : Nat → Nat) (nb : Nat) : Nat → Nat → Nat → Bool
  | 0, _, _ => false
  | w + 1, i, j => if j < nb then
      (if aR k tb j = 2 then (nKb k ta na (aC k tb j) i && al k ta na tb nb w (i + ln k ta na (aC k tb j)) (aE k tb nb (aC k tb j)))
       else if aR k tb j = 6 then (decide (i < na) && (ta i == 84) && (decide (dA k ta na i = none) == decide (dA k tb nb j = none)) && (match dA k tb nb j with
         | none => al k ta na tb nb w (i + 1) (j + 1)
         | some c => nKb k ta na c (i + 1) && al k ta na tb nb w (i + 1 + ln k ta na c) (nE k tb nb 7 (j + 1))))
       else (decide (i < na) && (ta i == tb j) && al k ta na tb nb w (i + 1) (j + 1)))
    else decide (i = na)
theorem r_repeatsName {post : Int32 → Prop} {u : SgC} {k : Nat} {t : Nat → Nat} {n j i : Nat} (hu : SgI u k t n) (hg : Gd k t n) (hj : j < aC k t n) (hi : i ≤ n) (h : post (if nKb k t n j i = true then 1 else 0)) : wp_Sg_repeatsName post u (nI j) (nI i) := by
  unfold wp_Sg_repeatsName
  have hn := hg.2.1
  have hbe := (aBE k t n).1 j hj
  obtain ⟨l1, l2, l3⟩ := nm_chars hg hj
  refine r_nameStart hu hg hj (r_nameLength hu hg hj ?_)
  have key : (∀ x, x < aE k t n j - aB k t n j → gL t n (aB k t n j + x) = gL t n (i + x)) ↔ nK k t n j i := by
    unfold nK ln
    constructor
    · intro z
      have z2 : ∀ x, x < aE k t n j - aB k t n j → i + x < n := by
        intro x hx
        have := z x hx
        rw [gL_in (by omega)] at this
        rcases Nat.lt_or_ge (i + x) n with q | q
        · exact q
        · rw [gL_out q] at this
          have := (hg.2.2.1 (aB k t n j + x) (by omega)).1
          omega
      refine ⟨?_, fun x hx => ?_⟩
      · have := z2 (aE k t n j - aB k t n j - 1) (by omega)
        omega
      · have := z x hx
        rw [gL_in (by omega), gL_in (z2 x hx)] at this
        exact this
    · intro ⟨z1, z2⟩ x hx
      rw [gL_in (by omega), gL_in (by omega)]
      exact z2 x hx
  have n0 : narrow .boolean (.int 0) = .int 0 := nar_b0.1
  have n1 : narrow .boolean (.int 1) = .int 1 := nar_b1.1
  refine r_sameLetters hu hg hu hg (by omega) (by omega) (fun z => ⟨n1, ?_⟩) (fun z => ⟨n0, ?_⟩)
  · rw [if_pos (nKb_iff.mpr (key.mp z))] at h; exact h
  · rw [if_neg (fun w => z (key.mpr (nKb_iff.mp w)))] at h; exact h
theorem r_ownName0 {post : Int32 → Prop} {u : SgC} {k : Nat} {t : Nat → Nat} {n j : Nat} (hu : SgI u k t n) (hg : Gd k t n) (hj : j < n) (hr : aR k t j ≠ 2 ∧ (aR k t j = 7 → (aS k t j).1 = 7)) (h : post (-1)) : wp_Sg_ownNameAt post u (nI j) := by
  unfold wp_Sg_ownNameAt w_Sg_ownNameAt_17 w_Sg_ownNameAt_22
  have hn := hg.2.1
  have hrl := aR_lt k t j
  refine r_roleAt hu hn (by omega) ?_
  rw [gR_in hj]
  refine b_eq' (k := 2) (by omega) (by decide) (fun e => absurd e hr.1) (fun _ => b_eq (k := 7) (by omega) (by decide) (fun e => ⟨fun z => absurd z (by decide), fun _ => r_roleBefore hu hn (by omega) ?_⟩) (fun _ => ⟨fun _ => h, fun z => absurd rfl z⟩))
  rw [gP_S (by omega), hr.2 e, e]
  exact ⟨fun _ => h, fun z => absurd rfl z⟩
theorem r_ownName2 {post : Int32 → Prop} {u : SgC} {k : Nat} {t : Nat → Nat} {n j : Nat} (hu : SgI u k t n) (hg : Gd k t n) (hj : j < n) (hr : aR k t j = 2) (hl : (aS k t j).1 ≠ 2) (h : post (nI (aC k t j))) : wp_Sg_ownNameAt post u (nI j) := by
  unfold wp_Sg_ownNameAt w_Sg_ownNameAt_17 w_Sg_ownNameAt_22
  have hn := hg.2.1
  have hl25 := (aS_lt k t j).1
  obtain ⟨c1, c2⟩ := nm_at hg hj hr hl
  refine r_roleAt hu hn (by omega) ?_
  rw [gR_in hj, hr]
  refine b_eq' (k := 2) (by decide) (by decide) (fun _ => ⟨fun z => absurd z (by decide), fun _ => r_roleBefore hu hn (by omega) ?_⟩) (fun z => absurd rfl z)
  rw [gP_S (by omega)]
  refine b_eq' (by omega) (by decide) (fun e => absurd e hl) (fun _ => r_parameterNamed hu hg hu hg (by omega) ?_)
  have e1 : nE k t n 2 j = aE k t n (aC k t j) := by have := nE_name hg c1; rw [c2] at this; exact this
  have e2 := nm_dist hg c1
  rw [c2] at e2
  rw [gR_in hj, hr, e1, e2]
  exact h
theorem r_ownName7 {post : Int32 → Prop} {u : SgC} {k : Nat} {t : Nat → Nat} {n j : Nat} (hu : SgI u k t n) (hg : Gd k t n) (hj : j < n) (hr : aR k t j = 6) (h : post (oI (dA k t n j))) : wp_Sg_ownNameAt post u (nI (j + 1)) := by
  unfold wp_Sg_ownNameAt w_Sg_ownNameAt_17 w_Sg_ownNameAt_22
  have hn := hg.2.1
  obtain ⟨v1, v2⟩ := var_next hg hj hr
  refine r_roleAt hu hn (by omega) ?_
  rw [gR_in v1, v2]
  refine b_eq' (k := 2) (by decide) (by decide) (fun z => absurd z (by decide)) (fun _ => b_eq (k := 7) (by decide) (by decide) (fun _ => ⟨fun z => absurd z (by decide), fun _ => ?_⟩) (fun z => absurd rfl z))
  rw [nI_pred]
  refine r_roleAt hu hn (by omega) ?_
  rw [gR_in hj, hr]
  refine b_eq' (k := 7) (by decide) (by decide) (fun z => absurd z (by decide)) (fun _ => r_parameterNamed hu hg hu hg (by omega) ?_)
  rw [gR_in v1, v2, ← dA_6 hj hr]
  exact h
theorem al_end {k : Nat} {ta : Nat → Nat} {na : Nat} {tb : Nat → Nat} {nb w i j : Nat} (h : nb ≤ j) : al k ta na tb nb (w + 1) i j = decide (i = na) := by unfold al; rw [if_neg (by omega)]
theorem al_2 {k : Nat} {ta : Nat → Nat} {na : Nat} {tb : Nat → Nat} {nb w i j : Nat} (h : j < nb) (r : aR k tb j = 2) : al k ta na tb nb (w + 1) i j = (nKb k ta na (aC k tb j) i && al k ta na tb nb w (i + ln k ta na (aC k tb j)) (aE k tb nb (aC k tb j))) := by
  rw [al, if_pos h, if_pos r]
theorem al_6n {k : Nat} {ta : Nat → Nat} {na : Nat} {tb : Nat → Nat} {nb w i j : Nat} (h : j < nb) (r : aR k tb j = 6) (hd : dA k tb nb j = none) : al k ta na tb nb (w + 1) i j = (decide (i < na) && (ta i == 84) && decide (dA k ta na i = none) && al k ta na tb nb w (i + 1) (j + 1)) := by
  rw [al, if_pos h, if_neg (by omega), if_pos r, hd]
  simp
theorem al_6s {k : Nat} {ta : Nat → Nat} {na : Nat} {tb : Nat → Nat} {nb w i j c : Nat} (h : j < nb) (r : aR k tb j = 6) (hd : dA k tb nb j = some c) : al k ta na tb nb (w + 1) i j = (decide (i < na) && (ta i == 84) && !decide (dA k ta na i = none) && (nKb k ta na c (i + 1) && al k ta na tb nb w (i + 1 + ln k ta na c) (nE k tb nb 7 (j + 1)))) := by
  rw [al, if_pos h, if_neg (by omega), if_pos r, hd]
  simp
theorem al_o {k : Nat} {ta : Nat → Nat} {na : Nat} {tb : Nat → Nat} {nb w i j : Nat} (h : j < nb) (r2 : aR k tb j ≠ 2) (r6 : aR k tb j ≠ 6) : al k ta na tb nb (w + 1) i j = (decide (i < na) && (ta i == tb j) && al k ta na tb nb w (i + 1) (j + 1)) := by
  rw [al, if_pos h, if_neg r2, if_neg r6]
/-- the answer of a Bool -/
def bI (b : Bool) : Int32 := if b = true then 1 else 0
theorem r_cmp {post : Int32 → Prop} {ub ua : SgC} {k : Nat} {ta tb : Nat → Nat} {na nb i x z : Nat} {y : Bool} {K0 : Int32 → Int32 → Int32 → Prop} (hub : SgI ub k tb nb) (gb : Gd k tb nb) (hua : SgI ua k ta na) (ga : Gd k ta na) (hx : x < nb) (hi : i ≤ na)
    (H1 : i < na → ta i = tb x → y = !decide (dA k ta na i = none) → K0 (nI (i + 1)) (nI z) (nI (x + 1))) (H0 : ¬ (i < na ∧ ta i = tb x ∧ y = !decide (dA k ta na i = none)) → post 0) : w_becomes_86 post ub ua K0 (nI i) (nI z) (nI x) (bI y) := by
  have hna := ga.2.1
  have hnb := gb.2.1
  have hca := ga.2.2.2.2.2
  unfold w_becomes_86 w_becomes_102 w_becomes_130
  have fin : ∀ b : Bool, b = !decide (dA k ta na i = none) → wp_Sg_letterAt (fun r9 => wp_Sg_letterAt (fun r10 => ((¬ r9 = r10 → post 0) ∧ (r9 = r10 → ((bI y = bI b → K0 (nI i + 1) (nI z) (nI x + 1)) ∧ (¬ bI y = bI b → post 0))))) ua (nI i)) ub (nI x) := by
    intro b hb
    have t1 := (gb.2.2.1 x hx)
    have t2 := gL_lt (j := i) ga.2.2.1
    refine r_letterAt hub gb (by omega) (r_letterAt hua ga (by omega) ?_)
    rw [gL_in hx, nI_1, nI_1]
    refine b_eq (by omega) (by omega) (fun e => ?_) (fun e => H0 (fun w => e ?_))
    · have hin : i < na := by
        rcases Nat.lt_or_ge i na with q | q
        · exact q
        · rw [gL_out q] at e; omega
      rw [gL_in hin] at e
      refine ⟨fun w => H1 hin e.symm ?_, fun w => H0 (fun v => w (by rw [v.2.2, hb]))⟩
      rw [← hb]
      cases y <;> cases b
      · rfl
      · exact absurd w (by decide)
      · exact absurd w (by decide)
      · rfl
    · rw [gL_in w.1]; exact w.2.1.symm
  refine r_declarerAt hua ga (by omega) (b_o (m := 20) (fun c hc => by have := dA_lt hc; omega) (by decide) (fun e => ?_) (fun e => ?_))
  · exact fin false (by rw [e]; rfl)
  · exact fin true (by simp [e])
theorem nE_run {k : Nat} {t : Nat → Nat} {n r : Nat} : ∀ m y, n - y = m → ∀ x, y ≤ x → x < nE k t n r y → aR k t x = r := by
  intro m
  induction m with
  | zero =>
    intro y h1 x q1 q2
    rw [nE_stop (fun z => by omega)] at q2
    omega
  | succ m ih =>
    intro y h1 x q1 q2
    by_cases ry : aR k t y = r
    · rcases Nat.eq_or_lt_of_le q1 with e | e
      · rw [← e]; exact ry
      · rw [nE_go (by omega) ry] at q2
        exact ih (y + 1) (by omega) x e q2
    · rw [nE_stop (fun _ => ry)] at q2
      omega
theorem l_of {k : Nat} {t : Nat → Nat} {x r : Nat} (h0 : 0 < x) (h : aR k t (x - 1) = r) : (aS k t x).1 = r := by
  obtain ⟨m, rfl⟩ : ∃ m, x = m + 1 := ⟨x - 1, by omega⟩
  rw [aS_succ]; exact h
/-- the class -/
theorem r_becomes {post : Int32 → Prop} {ub ua : SgC} {k : Nat} {ta tb : Nat → Nat} {na nb : Nat} (hub : SgI ub k tb nb) (gb : Gd k tb nb) (hua : SgI ua k ta na) (ga : Gd k ta na) (hm : aC k ta na = aC k tb nb) (h : post (bI (al k ta na tb nb (nb + 1) 0 0))) : wp_becomes post ub ua := by
  have hna := ga.2.1
  have hnb := gb.2.1
  have hc := gb.2.2.2.2.2
  unfold wp_becomes
  have main : ∀ M m, m ≤ M → ∀ (p z x i w : Nat), nb - p = m → p ≤ nb → (z ≤ p ∧ x = p ∨ z = x ∧ p < x) → x ≤ nb → i ≤ na → (Sy k ta na tb nb i x ∨ Fl k ta na tb nb i x) → ((aS k tb x).1 = 6 → dA k tb nb (x - 1) = none) → nb - x < w → post (bI (al k ta na tb nb w i x)) → w_becomes_7 post ub ua (m + 1) (nI i) (nI z) (nI p) := by
    intro M
    induction M with
    | zero =>
      intro m hm0 p z x i w hp h1 h2 h3 hi h5 hv h6 h7
      obtain rfl : m = 0 := by omega
      have hx : x = nb := by omega
      obtain ⟨w', rfl⟩ : ∃ w', w = w' + 1 := ⟨w - 1, by omega⟩
      rw [al_end (by omega)] at h7
      unfold w_becomes_7 wb_becomes_7
      rw [hub.2.1, hua.2.1, ofN, ofN]
      refine b_le (by omega) (by omega) (fun _ => b_eq (by omega) (by omega) (fun e => ?_) (fun e => ?_)) (fun q => absurd q (by omega))
      · rw [decide_eq_true e] at h7; exact h7
      · rw [decide_eq_false e] at h7; exact h7
    | succ M ih =>
      intro m hmM p z x i w hp h1 h2 h3 hi h5 hv h6 h7
      rcases Nat.lt_or_ge m (M + 1) with hlt | hge
      · exact ih m (by omega) p z x i w hp h1 h2 h3 hi h5 hv h6 h7
      obtain rfl : m = M + 1 := by omega
      have ih' := ih M (Nat.le_refl _)
      unfold w_becomes_7 wb_becomes_7 w_becomes_130
      rw [hub.2.1, hua.2.1, ofN, ofN]
      refine b_le (by omega) (by omega) (fun q => absurd q (by omega)) (fun _ => b_le (by omega) (by omega) (fun hzp => ?_) (fun hzp => ?_))
      · obtain rfl : x = p := by omega
        have hxn : x < nb := by omega
        obtain ⟨w', rfl⟩ : ∃ w', w = w' + 1 := ⟨w - 1, by omega⟩
        by_cases r2 : aR k tb x = 2
        · -- a parameter's name
          have hS : Sy k ta na tb nb i x := by
            rcases h5 with q | q
            · exact q
            · exact absurd r2 q.2.1
          have hl := hS.2.2.2.2 hxn r2
          obtain ⟨c1, c2⟩ := nm_at gb hxn r2 hl
          have hbe := (aBE k tb nb).1 _ c1
          obtain ⟨l1, l2, l3⟩ := nm_chars ga (j := aC k tb x) (by omega)
          rw [al_2 hxn r2] at h7
          refine r_ownName2 hub gb hxn r2 hl ?_
          have hne : ¬ nI (aC k tb x) = -1 := fun y => by
            have : nI (aC k tb x) < 0 := by rw [y]; decide
            exact nI_pos (by omega) this
          refine ⟨fun y => absurd y hne, fun _ => r_repeatsName hua ga (by omega) hi ?_⟩
          cases hk : nKb k ta na (aC k tb x) i with
          | false =>
            rw [hk] at h7
            exact ⟨fun y => absurd rfl y, fun _ => h7⟩
          | true =>
            rw [hk, Bool.true_and] at h7
            refine ⟨fun _ => r_nameLength hua ga (by omega) (r_behindName hub hnb (by omega) ?_), fun y => absurd y (by decide)⟩
            have e1 : nE k tb nb 2 x = aE k tb nb (aC k tb x) := by have := nE_name gb c1; rw [c2] at this; exact this
            have hkk := nKb_iff.mp hk
            have e2 := nm_end gb c1
            rw [gR_in hxn, r2, e1, nI_1, show aE k ta na (aC k tb x) - aB k ta na (aC k tb x) = ln k ta na (aC k tb x) from rfl, nI_add]
            refine ih' (x + 1) _ (aE k tb nb (aC k tb x)) _ w' (by omega) (by omega) ?_ (by omega) hkk.1 (Sy_name ga gb hm hS hxn r2 hkk) (fun q => by rw [l_of (r := 2) (by omega) (e2.2.2.1 _ (by omega) (by omega))] at q; cases q) (by omega) h7
            omega
        · by_cases r6 : aR k tb x = 6
          · -- a variable
            have hS : Sy k ta na tb nb i x := by
              rcases h5 with q | q
              · exact q
              · exact absurd r6 q.2.2.1
            obtain ⟨v1, v2⟩ := var_next gb hxn r6
            obtain ⟨vE1, vE2, vE3⟩ := var_end gb hxn r6
            have t84 := (stN_of gb hxn).2.1 r6
            refine r_ownName0 hub gb hxn ⟨r2, fun q => by omega⟩ ⟨fun _ => r_declarerAt hub gb (by omega) (b_o (m := 20) (fun c hc2 => by have := dA_lt hc2; omega) (by decide) (fun eo => ?_) (fun eo => ?_)), fun y => absurd rfl y⟩
            · rw [al_6n hxn r6 eo] at h7
              refine r_cmp (y := false) hub gb hua ga hxn hi (fun q1 q2 q3 => ?_) (fun q => ?_)
              · have e1 : (ta i == 84) = true := by rw [q2, t84]; rfl
                have e2 : decide (dA k ta na i = none) = true := by simpa using q3
                rw [decide_eq_true q1, e1, e2] at h7
                exact ih' (x + 1) z (x + 1) (i + 1) w' (by omega) (by omega) (by omega) (by omega) (by omega) (Or.inl (Sy_next hS q1 hxn q2 r2)) (fun _ => by rw [Nat.add_sub_cancel]; exact eo) (by omega) h7
              · have e0 : (decide (i < na) && (ta i == 84) && decide (dA k ta na i = none) && al k ta na tb nb w' (i + 1) (x + 1)) = false := by
                  cases hb : (decide (i < na) && (ta i == 84) && decide (dA k ta na i = none) && al k ta na tb nb w' (i + 1) (x + 1))
                  · rfl
                  · simp only [Bool.and_eq_true, decide_eq_true_eq, beq_iff_eq] at hb
                    exact absurd ⟨hb.1.1.1, by rw [hb.1.1.2, t84], by simp [hb.1.2]⟩ q
                rw [e0] at h7
                exact h7
            · obtain ⟨c, hcc⟩ : ∃ c, dA k tb nb x = some c := by
                cases hd : dA k tb nb x with
                | none => exact absurd hd eo
                | some c => exact ⟨c, rfl⟩
              have hcl := dA_lt hcc
              rw [al_6s hxn r6 hcc] at h7
              refine r_cmp (y := true) hub gb hua ga hxn hi (fun q1 q2 q3 => ?_) (fun q => ?_)
              · have e1 : (ta i == 84) = true := by rw [q2, t84]; rfl
                rw [decide_eq_true q1, e1, ← q3, Bool.true_and, Bool.true_and, Bool.true_and] at h7
                -- the variable's name
                obtain ⟨M', rfl⟩ : ∃ M', M = M' + 1 := ⟨M - 1, by omega⟩
                unfold w_becomes_7 wb_becomes_7 w_becomes_130
                rw [hub.2.1, hua.2.1, ofN, ofN]
                refine b_le (by omega) (by omega) (fun q => absurd q (by omega)) (fun _ => b_le (by omega) (by omega) (fun _ => r_ownName7 hub gb hxn r6 ?_) (fun q => absurd q (by omega)))
                rw [hcc]
                have hne : ¬ oI (some c) = -1 := fun y => by have := (oI_m1 (m := 20) (fun j hj => by cases hj; omega) (by decide)).mp y; cases this
                obtain ⟨l1, l2, l3⟩ := nm_chars ga (j := c) (by omega)
                refine ⟨fun y => absurd y hne, fun _ => r_repeatsName hua ga (by omega) (by omega) ?_⟩
                cases hk : nKb k ta na c (i + 1) with
                | false =>
                  rw [hk] at h7
                  exact ⟨fun y => absurd rfl y, fun _ => h7⟩
                | true =>
                  rw [hk, Bool.true_and] at h7
                  refine ⟨fun _ => r_nameLength hua ga (by omega) (r_behindName hub hnb (by omega) ?_), fun y => absurd y (by decide)⟩
                  have hkk := nKb_iff.mp hk
                  rw [gR_in v1, v2, nI_1, show aE k ta na c - aB k ta na c = ln k ta na c from rfl, nI_add]
                  refine ih M' (by omega) (x + 1 + 1) _ (nE k tb nb 7 (x + 1)) _ w' (by omega) (by omega) (by omega) (by omega) hkk.1 (Or.inl (Sy_var ga gb hS q1 hxn q2 r6 (by omega) hkk)) (fun q => by rw [l_of (r := 7) (by omega) (nE_run (n := nb) _ (x + 1) rfl _ (by omega) (by omega))] at q; cases q) (by omega) h7
              · have e0 : (decide (i < na) && (ta i == 84) && !decide (dA k ta na i = none) && (nKb k ta na c (i + 1) && al k ta na tb nb w' (i + 1 + ln k ta na c) (nE k tb nb 7 (x + 1)))) = false := by
                  cases hb : (decide (i < na) && (ta i == 84) && !decide (dA k ta na i = none) && (nKb k ta na c (i + 1) && al k ta na tb nb w' (i + 1 + ln k ta na c) (nE k tb nb 7 (x + 1))))
                  · rfl
                  · simp only [Bool.and_eq_true] at hb
                    refine absurd ⟨?_, ?_, ?_⟩ q
                    · simpa using hb.1.1.1
                    · rw [t84]; simpa using hb.1.1.2
                    · exact hb.1.2.symm
                rw [e0] at h7
                exact h7
          · -- any other character
            rw [al_o hxn r2 r6] at h7
            have hdn : dA k tb nb x = none := by unfold dA; rw [gR_in hxn, if_neg r6]
            have own0 : aR k tb x = 7 → (aS k tb x).1 = 7 ∨ (aS k tb x).1 = 6 := by
              intro q
              have c := st_all (fun k l x dp c r => r == 0 || (if r = 7 then l == 7 || l == 6 else true)) (by decide +kernel) gb hxn
              have h0 := gb.r0 hxn
              simp only [Bool.or_eq_true, beq_iff_eq] at c
              rcases c with c | c
              · exact absurd c h0
              · rw [if_pos q] at c; simpa using c
            -- what the class does with such a character
            have step : wp_Sg_declarerAt (fun r13 => ((r13 = ((-1) : Int32) → w_becomes_86 post ub ua (w_becomes_7 post ub ua (M + 1)) (nI i) (nI z) (nI x) 0) ∧ (¬ r13 = ((-1) : Int32) → w_becomes_86 post ub ua (w_becomes_7 post ub ua (M + 1)) (nI i) (nI z) (nI x) 1))) ub (nI x) := by
              refine r_declarerAt hub gb (by omega) ?_
              rw [hdn]
              refine ⟨fun _ => r_cmp (y := false) hub gb hua ga hxn hi (fun q1 q2 q3 => ?_) (fun q => ?_), fun y => absurd rfl y⟩
              · have hS : Sy k ta na tb nb i x := by
                  rcases h5 with q | q
                  · exact q
                  · exact absurd q2 (q.2.2.2 q1)
                rw [decide_eq_true q1, show (ta i == tb x) = true by rw [q2]; simp, Bool.true_and, Bool.true_and] at h7
                exact ih' (x + 1) z (x + 1) (i + 1) w' (by omega) (by omega) (by omega) (by omega) (by omega) (Or.inl (Sy_next hS q1 hxn q2 r2)) (fun q => absurd (by rw [aS_succ] at q; exact q) r6) (by omega) h7
              · have e0 : (decide (i < na) && (ta i == tb x) && al k ta na tb nb w' (i + 1) (x + 1)) = false := by
                  cases hb : (decide (i < na) && (ta i == tb x) && al k ta na tb nb w' (i + 1) (x + 1))
                  · rfl
                  · simp only [Bool.and_eq_true, decide_eq_true_eq, beq_iff_eq] at hb
                    refine absurd ⟨hb.1.1, hb.1.2, ?_⟩ q
                    have hS : Sy k ta na tb nb i x := by
                      rcases h5 with q | q
                      · exact q
                      · exact absurd hb.1.2 (q.2.2.2 hb.1.1)
                    have hr := Sy_role hS hb.1.2
                    have : dA k ta na i = none := by unfold dA; rw [gR_in hb.1.1, if_neg (by omega)]
                    rw [this]; rfl
                rw [e0] at h7
                exact h7
            by_cases r7 : aR k tb x = 7 ∧ (aS k tb x).1 = 6
            · -- the first letter of a name that is not declared
              have hd := hv r7.2
              have hx0 : 0 < x := by
                rcases Nat.eq_zero_or_pos x with q | q
                · rw [q] at r7; exact absurd r7.2 (by show ¬ (0 : Nat) = 6; decide)
                · exact q
              obtain ⟨x', rfl⟩ : ∃ x', x = x' + 1 := ⟨x - 1, by omega⟩
              have r6' : aR k tb x' = 6 := by have := r7.2; rw [aS_succ] at this; exact this
              rw [Nat.add_sub_cancel] at hd
              refine r_ownName7 hub gb (by omega) r6' ?_
              rw [hd]
              exact ⟨fun _ => step, fun y => absurd rfl y⟩
            · refine r_ownName0 hub gb hxn ⟨r2, fun q => ?_⟩ ⟨fun _ => step, fun y => absurd rfl y⟩
              rcases own0 q with y | y
              · exact y
              · exact absurd ⟨q, y⟩ r7
      · rw [nI_1]
        exact ih' (p + 1) z x i w (by omega) (by omega) (by omega) h3 hi h5 hv h6 h7
  have h0 : Sy k ta na tb nb 0 0 := ⟨by omega, by omega, rfl, rfl, fun _ _ => by show (0 : Nat) ≠ 2; decide⟩
  exact ⟨_, main nb nb (Nat.le_refl _) 0 0 0 0 (nb + 1) (by omega) (by omega) (by omega) (by omega) (by omega) (Or.inl h0) (fun q => absurd q (by show ¬ (0 : Nat) = 6; decide)) (by omega) h⟩
