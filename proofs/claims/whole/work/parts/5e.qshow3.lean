def stF (k l x : Nat) (dp : Bool) (c r : Nat) : Bool := (if r = 12 then c == 46 else true) && (if r = 21 then c == 86 else true) && (if r = 20 then pBs c else true)
theorem stF_all : pAll 3 (fun k => pAll 4 (fun x => pAll 25 (fun l => pAll 127 (fun c => stQ stF k x l c)))) = true := by decide +kernel
theorem stF_of {k : Nat} {t : Nat → Nat} {n p : Nat} (hg : Gd k t n) (hp : p < n) : (aR k t p = 12 → t p = 46) ∧ (aR k t p = 21 → t p = 86) ∧ (aR k t p = 20 → pBs (t p) = true) := by
  have c := st_all _ stF_all hg hp
  unfold stF at c
  simp only [Bool.and_eq_true] at c
  refine ⟨fun z => by simpa [z] using c.1.1, fun z => by simpa [z] using c.1.2, fun z => by simpa [z] using c.2⟩
theorem q_show88 {post : (MoC × IaC × IaC) → Prop} {u5 u6 : IaC} {K0 : Int32 → Int32 → Int32 → Int32 → Int32 → Int32 → Int32 → MoC → IaC → IaC → Prop} {X : XA} {k : Nat} {t : Nat → Nat} {n s p : Nat} {u0 w0 : MoC} {w1 w2 : IaC} {L : List Nat}
    (hX : XI X k t n s) (hg : Gd k t n) (hp : p < n) (hQ : QS u0 w0 w1 k t p) (hu : OuI w0 w2 L) (hL1 : aR k t p ≠ 2 → L = shM k t n p ++ eP k t p) (hL2 : aR k t p = 2 → L = shM k t n p)
    (HK : ∀ w0 w1 w2, QS u0 w0 w1 k t (p + 1) → OuI w0 w2 (shM k t n (p + 1)) → K0 (nI s) (nI (aS k t (p + 1)).2.1) (nI (cl k t n (p + 1))) (nI (pd k t (p + 1))) (nI (th k t (p + 1))) (nI (bd k t n (p + 1))) (nI (p + 1)) w0 w1 w2) :
    w_M_show_88 post X.1 X.2.1 X.2.2.1 u5 u6 K0 (nI s) (nI (aS k t p).2.1) (nI (cl k t n p)) (nI (pd k t p)) (nI (th k t p)) (nI (bd k t n p)) (nI p) (nI (t p)) (nI (pTr (aR k t p) (t p))) w0 w1 w2 := by
  have hn := hg.2.1
  have hs := hX.1
  have hr := aR_lt k t p
  have h0 := hg.r0 hp
  have hd := (aS_lt k t p).2.1
  have hl25 := (aS_lt k t p).1
  have hwt := wt_le (k := k) (t := t) p (aS k t p).2.1
  have hc := (hg.2.2.1 p hp).2
  have hth := th_le k t p
  have hcl := cl_le k t n p
  have hpt := pTr_lt (aR k t p) (t p)
  have hml := shM_len k t n p (by omega)
  have hpl := eP_len k t p
  have hLl : L.length ≤ 10 * p + 1 := by
    by_cases q : aR k t p = 2
    · rw [hL2 q]; omega
    · rw [hL1 q, List.length_append]; omega
  have hbd : bd k t n p ≤ 1 := by unfold bd; split <;> omega
  have hpd : pd k t p ≤ p := by unfold pd; split <;> omega
  obtain ⟨f12, f21, f20⟩ := stF_of hg hp
  obtain ⟨s1, s2⟩ := stC_of hg hp
  have dn := dep_no (k := k) (t := t) (p := p)
  have bn := bd_next hg hp
  have pn := pd_next hg hp
  have tn : th k t (p + 1) = if aR k t p = 24 then th k t p + 1 else th k t p := rfl
  have cn : cl k t n (p + 1) = if aR k t p = 14 ∧ (aS k t p).2.1 = 0 ∧ aO k t n ≤ p then cl k t n p + 1 else cl k t n p := rfl
  have mn : shM k t n (p + 1) = shM k t n p ++ eP k t p ++ eM k t n p := rfl
  have nC : ¬ (aR k t p = 10 ∨ aR k t p = 11 ∨ aR k t p = 12 ∨ aR k t p = 13 ∨ aR k t p = 14 ∨ aR k t p = 15) → inC (aS k t p).1 = false := fun z => by
    cases e : inC (aS k t p).1
    · rfl
    · exact absurd (s1.mp e) z
  have fin : ∀ w0' w2', aR k t p ≠ 9 → aR k t p ≠ 14 → aR k t p ≠ 2 → MQu w0 w0' → OuI w0' w2' (L ++ eM k t n p) → K0 (nI s) (nI (aS k t (p + 1)).2.1) (nI (cl k t n (p + 1))) (nI (pd k t (p + 1))) (nI (th k t (p + 1))) (nI (bd k t n (p + 1))) (nI (p + 1)) w0' w1 w2' := by
    intro w0' w2' h9 h14 h2 m1 m2
    refine HK _ _ _ ((hQ.mq m1).same hg hp h9 h14) ?_
    rw [mn, ← hL1 h2]
    exact m2
  unfold w_M_show_88 w_M_show_555
  rw [nI_1 p]
  refine b_eq (k := 3) (by omega) (by decide) (fun e => ?_) (fun n3 => b_eq (k := 1) (by omega) (by decide) (fun e => ?_) (fun n1 => ?_))
  · have r := (pTr_is 3 19 hr (by decide)).mp e
    have F := fin w0 w2 (by omega) (by omega) (by omega) (MQu.rf w0) (by rw [show eM k t n p = [] by simp [eM, eL, r], List.append_nil]; exact hu)
    rw [dn (by omega) (by omega), cn, if_neg (by omega), pn, if_pos r, tn, if_neg (by omega), bn, if_neg (by omega)] at F
    rw [nI_1]
    exact F
  · have r := (pTr_is 1 9 hr (by decide)).mp e
    have nc := nC (by omega)
    obtain ⟨q1, q2, q3, q4⟩ := hQ
    have e0 : iN (aS k t p).1 = 0 := by unfold iN; rw [nc]; rfl
    rw [e0, Nat.add_zero] at q2 q4
    rw [q2, sub_add1, q3, nI_clamp (by omega)]
    refine ⟨vp_in_nI (by omega) (by decide), ?_⟩
    have el : (aS k t (p + 1)).1 = 9 := by rw [aS_succ]; exact r
    have e1 : iN (aS k t (p + 1)).1 = 1 := by rw [el]; decide
    have F := HK (moN w0, moM w0, nI (aS k t p).2.1, moW w0, moG w0, moS w0, moI w0) (130, upd (iaF w1) (aS k t p).2.1 (nI (pd k t p))) w2 ⟨q1, ?_, rfl, fun i hi => ?_⟩ ?_
    · rw [dn (by omega) (by omega), cn, if_neg (by omega), pn, if_neg (by omega), if_pos (by omega), tn, if_neg (by omega), bn, if_neg (by omega)] at F
      exact F
    · rw [e1, dn (by omega) (by omega), nI_pred]
    · rw [e1, dn (by omega) (by omega)] at hi
      show upd (iaF w1) (aS k t p).2.1 (nI (pd k t p)) i = _
      rw [wt_next, if_neg (by omega), if_neg (by omega), if_neg (by omega)]
      by_cases q : i = (aS k t p).2.1
      · rw [q, pk_us]; unfold pd; rw [nc]; rfl
      · rw [pk_un q]; exact q4 i (by omega)
    · rw [mn, ← hL1 (by omega), show eM k t n p = [] by simp [eM, eL, r], List.append_nil]
      exact hu
  · -- ends of types
    have bkl := bk_len (wt k t p (aS k t p).2.1)
    have b153 : (aR k t p = 8 ∨ aR k t p = 20) → ∀ w0' w2' Y, MQu w0 w0' → OuI w0' w2' (L ++ Y) → Y.length ≤ 7 → eM k t n p = Y ++ bk (wt k t p (aS k t p).2.1) → w_M_show_168 post X.1 X.2.1 X.2.2.1 u5 u6 K0 (nI s) (nI (aS k t p).2.1) (nI (cl k t n p)) (nI (pd k t p)) (nI (th k t p)) (nI (bd k t n p)) (nI p) (nI (pTr (aR k t p) (t p))) w0' w1 w2' := by
      intro r w0' w2' Y m1 m2 m3 m4
      have nc := nC (by omega)
      have ep : pd k t p = wt k t p (aS k t p).2.1 := by unfold pd; rw [nc]; rfl
      unfold w_M_show_168 w_M_show_215 w_M_show_555
      refine b_eq (k := 9) (by omega) (by decide) (fun z => by have := (pTr_is 9 14 hr (by decide)).mp z; omega) (fun _ => ?_)
      rw [ep]
      refine q_brackets m2 (by rw [List.length_append]; omega) (fun u' o' a1 a2 => ?_)
      have F := fin u' o' (by omega) (by omega) (by omega) (m1.tr a1) (by rw [m4, ← List.append_assoc]; exact a2)
      rw [dn (by omega) (by omega), cn, if_neg (by omega), pn, if_neg (by omega), if_pos (by omega), tn, if_neg (by omega), bn, if_neg (by omega)] at F
      rw [nI_1 p]
      exact F
    refine b_eq' (k := 9) (by omega) (by decide) (fun e => ?_) (fun n9 => b_eq' (k := 15) (by omega) (by decide) (fun e => ?_) (fun n15 => b_eq (k := 4) (by omega) (by decide) (fun e => ?_) (fun n4 => ?_)))
    · -- the end of a class
      have r := (pTr_is 9 14 hr (by decide)).mp e
      have ic := s1.mpr (by omega)
      obtain ⟨q1, q2, q3, q4⟩ := hQ
      have e1 : iN (aS k t p).1 = 1 := by unfold iN; rw [ic]; rfl
      rw [e1] at q2 q4
      rw [nI_pred] at q2
      have el : (aS k t (p + 1)).1 = 14 := by rw [aS_succ]; exact r
      have e0 : iN (aS k t (p + 1)).1 = 0 := by rw [el]; decide
      have em : eM k t n p = bk (wt k t p (aS k t p).2.1) := by simp [eM, eL, r]
      have low : ∀ c', (c' = cl k t n (p + 1)) → wp_M_brackets (fun v23 => w_M_show_555 post X.1 X.2.1 X.2.2.1 u5 u6 K0 (nI s) (nI (aS k t p).2.1) (nI c') 0 (nI (th k t p)) (nI (bd k t n p)) (nI p) v23.1 w1 v23.2) (moN w0, moM w0, nI (aS k t p).2.1 - 1, moW w0, moG w0, moS w0, moI w0) w2 (nI (wt k t p (aS k t p).2.1)) := by
        intro c' hc'
        refine q_brackets (L := L) hu (by omega) (fun u' o' a1 a2 => ?_)
        unfold w_M_show_555
        obtain ⟨m1, m2, m3, m4, m5, m6⟩ := a1
        have F := HK u' w1 o' ⟨⟨m1.trans q1.1, m2.trans q1.2.1, m4.trans q1.2.2.1, m5.trans q1.2.2.2.1, m6.trans q1.2.2.2.2⟩, by rw [e0, dn (by omega) (by omega)]; exact m3, q3, fun i hi => ?_⟩ (by rw [mn, ← hL1 (by omega), em]; exact a2)
        · rw [dn (by omega) (by omega), pn, if_neg (by omega), if_pos (by omega), tn, if_neg (by omega), bn, if_neg (by omega), ← hc'] at F
          rw [nI_1 p]
          exact F
        · rw [e0, dn (by omega) (by omega)] at hi
          rw [wt_next, if_neg (by omega), if_neg (by omega), if_neg (by omega)]
          exact q4 i (by omega)
      unfold w_M_show_153
      refine b_eq (k := 4) (by omega) (by decide) (fun z => by omega) (fun _ => ?_)
      unfold w_M_show_168 w_M_show_215
      refine b_eq (k := 9) (by omega) (by decide) (fun _ => ?_) (fun z => absurd e z)
      rw [q2, q3, nI_clamp (by omega), q4 _ (by omega)]
      have bdv : bd k t n p = if aO k t n ≤ p then 1 else 0 := rfl
      refine ⟨vp_in_nI (by omega) (by decide), b_eq' (k := 0) (by omega) (by decide) (fun z => low _ ?_) (fun z => ⟨fun z2 => low _ ?_, fun z2 => ?_⟩)⟩
      · rw [cn, if_neg]
        rintro ⟨-, -, w⟩
        rw [bdv, if_pos w] at z; omega
      · rw [cn, if_neg]
        rintro ⟨-, w, -⟩
        rw [w] at z2
        exact absurd z2 (by decide)
      · rw [nI_1 (cl k t n p)]
        refine low _ ?_
        rw [cn, if_pos]
        refine ⟨r, ?_, ?_⟩
        · rcases Nat.eq_zero_or_pos (aS k t p).2.1 with w | w
          · exact w
          · obtain ⟨d', hd'⟩ : ∃ d', (aS k t p).2.1 = d' + 1 := ⟨(aS k t p).2.1 - 1, by omega⟩
            rw [hd', nI_pred] at z2
            exact absurd (nI_pos' (by omega)) z2
        · rw [bdv] at z
          split at z
          · assumption
          · omega
    · have r := (pTr_is 15 8 hr (by decide)).mp e
      unfold w_M_show_153
      refine b_eq (k := 4) (by omega) (by decide) (fun z => by omega) (fun _ => b153 (Or.inl r) w0 w2 [] (MQu.rf w0) (by rw [List.append_nil]; exact hu) (by simp) (by simp [eM, eL, r]))
    · have r := (pTr_is 4 20 hr (by decide)).mp e
      unfold w_M_show_153
      refine b_eq (k := 4) (by omega) (by decide) (fun _ => ?_) (fun z => absurd e z)
      have hw7 := wL_7 _ (bw_lt (t p)).1 (bw_lt (t p)).2
      exact q_baseWord (f20 r) hu (by omega) (fun u' o' a1 a2 => b153 (Or.inr r) u' o' _ a1 a2 hw7 (by simp [eM, eL, r]))
    · refine b_eq' (k := 8) (by omega) (by decide) (fun e => ?_) (fun n8 => b_eq (k := 13) (by omega) (by decide) (fun e => ?_) (fun n13 => ?_))
      · have r := (pTr_is 8 15 hr (by decide)).mp e
        unfold w_M_show_241 w_M_show_254 w_M_show_555
        refine b_eq (k := 8) (by omega) (by decide) (fun _ => q_put hu (by omega) (fun u' o' a1 a2 => ?_)) (fun z => absurd e z)
        have F := fin u' o' (by omega) (by omega) (by omega) a1 (by rw [show eM k t n p = [t p] by simp [eM, eL, r]]; exact a2)
        rw [dep_15 r, cn, if_neg (by omega), pn, if_neg (by omega), if_neg (by omega), tn, if_neg (by omega), bn, if_neg (by omega)] at F
        rw [nI_1, nI_1]
        exact F
      · have r := (pTr_is 13 16 hr (by decide)).mp e
        unfold w_M_show_241 w_M_show_254 w_M_show_555
        refine b_eq (k := 8) (by omega) (by decide) (fun z => by omega) (fun _ => q_put hu (by omega) (fun u' o' a1 a2 => ?_))
        have F := fin u' o' (by omega) (by omega) (by omega) a1 (by rw [show eM k t n p = [t p] by simp [eM, eL, r]]; exact a2)
        rw [cn, if_neg (by omega), pn, if_neg (by omega), if_neg (by omega), tn, if_neg (by omega), bn, if_neg (by omega)] at F
        rw [nI_1 p, dep_16 r, mI1]
        exact F
      · -- arguments *, +, -
        have w286 : (aR k t p = 17 ∨ aR k t p = 18) → w_M_show_286 post X.1 X.2.1 X.2.2.1 u5 u6 K0 (nI s) (nI (aS k t p).2.1) (nI (cl k t n p)) (nI (pd k t p)) (nI (th k t p)) (nI (bd k t n p)) (nI p) (nI (t p)) (nI (pTr (aR k t p) (t p))) w0 w1 w2 := by
          intro r
          unfold w_M_show_286 w_M_show_555
          rw [nI_1 p]
          refine q_put (c := 63) hu (by omega) (fun u' o' a1 a2 => b_eq' (k := 10) (by omega) (by decide) (fun z => ?_) (fun z => q_put a2 (by rw [List.length_append, List.length_singleton]; omega) (fun u2 o2 b1 b2 => ?_)))
          · have r17 := (pTr_is 10 17 hr (by decide)).mp z
            have F := fin u' o' (by omega) (by omega) (by omega) a1 (by rw [show eM k t n p = [63] by simp [eM, eL, r17]]; exact a2)
            rw [dn (by omega) (by omega), cn, if_neg (by omega), pn, if_neg (by omega), if_neg (by omega), tn, if_neg (by omega), bn, if_neg (by omega)] at F
            exact F
          · have r18 : aR k t p = 18 := by
              rcases r with w | w
              · exact absurd ((pTr_is 10 17 hr (by decide)).mpr w) z
              · exact w
            have F := fin u2 o2 (by omega) (by omega) (by omega) (a1.tr b1) (by rw [show eM k t n p = [63, t p] by simp [eM, eL, r18]]; simpa using b2)
            rw [dn (by omega) (by omega), cn, if_neg (by omega), pn, if_neg (by omega), if_neg (by omega), tn, if_neg (by omega), bn, if_neg (by omega)] at F
            exact F
        have r1112 : pTr (aR k t p) (t p) = 11 ∨ pTr (aR k t p) (t p) = 12 ↔ aR k t p = 18 := by
          rw [pTr_b]
          have : ∀ r, r < 25 → ∀ b : Bool, (pTrb r b = 11 ∨ pTrb r b = 12 ↔ r = 18) := by decide
          exact this _ hr _
        refine b_eq' (k := 10) (by omega) (by decide) (fun e => w286 (Or.inl ((pTr_is 10 17 hr (by decide)).mp e))) (fun n10 => b_eq' (k := 11) (by omega) (by decide) (fun e => w286 (Or.inr (r1112.mp (Or.inl e)))) (fun n11 => b_eq (k := 12) (by omega) (by decide) (fun e => w286 (Or.inr (r1112.mp (Or.inr e)))) (fun n12 => ?_)))
        refine b_eq (k := 17) (by omega) (by decide) (fun e => ?_) (fun n17 => ?_)
        · -- a parameter's name
          have r := (pTr_17 hr).mp e
          have hL := hL2 r
          have pr0 : prt k t p = false := by unfold prt; simp [r]
          have F : ∀ u' o', MQu w0 u' → OuI u' o' (shM k t n (p + 1)) → K0 (nI s) (nI (aS k t p).2.1) (nI (cl k t n p)) (nI (pd k t p)) (nI (th k t p)) (nI (bd k t n p)) (nI (p + 1)) u' w1 o' := by
            intro u' o' a1 a2
            have F := HK _ _ _ ((hQ.mq a1).same hg hp (by omega) (by omega)) a2
            rw [dn (by omega) (by omega), cn, if_neg (by omega), pn, if_neg (by omega), if_neg (by omega), tn, if_neg (by omega), bn, if_neg (by omega)] at F
            exact F
          have em : eM k t n p = [t p] := by simp [eM, eL, r]
          unfold w_M_show_349 w_M_show_555
          rw [nI_1 p]
          have ps : ∀ c, pTr (aS k t p).1 c = 17 ↔ (aS k t p).1 = 2 := fun c => pTr_17 hl25
          have stay : ((aS k t p).1 = 2 ∨ (aS k t p).1 = 1) → wp_M_put (fun v33 => K0 (nI s) (nI (aS k t p).2.1) (nI (cl k t n p)) (nI (pd k t p)) (nI (th k t p)) (nI (bd k t n p)) (nI (p + 1)) v33.1 w1 v33.2) w0 w2 (nI (t p)) := by
            intro z
            refine q_put hu (by omega) (fun u' o' a1 a2 => F u' o' a1 ?_)
            rw [mn, em, show eP k t p = [] by unfold eP; rw [pr0]; simp; omega, List.append_nil, ← hL]
            exact a2
          refine hX.roleB hn (by omega) (fun c => b_eq' (k := 17) (by have := pTr_lt (aS k t p).1 c; omega) (by decide) (fun z => stay (Or.inl ((ps c).mp z))) (fun z => hX.roleB hn (by omega) (fun c2 => b_eq' (k := 16) (by have := pTr_lt (aS k t p).1 c2; omega) (by decide) (fun z2 => stay (Or.inr ((pTr_is 16 1 hl25 (by decide)).mp z2))) (fun z2 => ?_))))
          refine q_put (c := 44) hu (by omega) (fun u' o' a1 a2 => q_put a2 (by rw [List.length_append, List.length_singleton]; omega) (fun u2 o2 b1 b2 => F u2 o2 (a1.tr b1) ?_))
          rw [mn, em, show eP k t p = [44] by unfold eP; rw [pr0, if_neg (by decide), if_pos ⟨r, fun w => z ((ps c).mpr w), fun w => z2 ((pTr_is 16 1 hl25 (by decide)).mpr w)⟩], ← hL]
          exact b2
        · have noemit : aR k t p ≠ 9 → aR k t p ≠ 14 → aR k t p ≠ 2 → aR k t p ≠ 15 → aR k t p ≠ 16 → aR k t p ≠ 19 → aR k t p ≠ 8 → aR k t p ≠ 20 → aR k t p ≠ 24 → aR k t p ≠ 5 → ∀ u' o', MQu w0 u' → OuI u' o' (L ++ eM k t n p) → K0 (nI s) (nI (aS k t p).2.1) (nI (cl k t n p)) (nI (pd k t p)) (nI (th k t p)) (nI (bd k t n p)) (nI (p + 1)) u' w1 o' := by
            intro z1 z2 z3 z4 z5 z6 z7 z8 z9 z10 u' o' a1 a2
            have F := fin u' o' z1 z2 z3 a1 a2
            rw [dn z4 z5, cn, if_neg (by omega), pn, if_neg (by omega), if_neg (by omega), tn, if_neg (by omega), bn, if_neg (by omega)] at F
            exact F
          have put1 : ∀ c, eM k t n p = [c] → aR k t p ≠ 9 → aR k t p ≠ 14 → aR k t p ≠ 2 → aR k t p ≠ 15 → aR k t p ≠ 16 → aR k t p ≠ 19 → aR k t p ≠ 8 → aR k t p ≠ 20 → aR k t p ≠ 24 → aR k t p ≠ 5 → wp_M_put (fun v => K0 (nI s) (nI (aS k t p).2.1) (nI (cl k t n p)) (nI (pd k t p)) (nI (th k t p)) (nI (bd k t n p)) (nI (p + 1)) v.1 w1 v.2) w0 w2 (nI c) := by
            intro c hc z1 z2 z3 z4 z5 z6 z7 z8 z9 z10
            exact q_put hu (by omega) (fun u' o' a1 a2 => noemit z1 z2 z3 z4 z5 z6 z7 z8 z9 z10 u' o' a1 (by rw [hc]; exact a2))
          -- colons
          have w372 : (aR k t p = 3 ∨ aR k t p = 4) → w_M_show_372 post X.1 X.2.1 X.2.2.1 u5 u6 K0 (nI s) (nI (aS k t p).2.1) (nI (cl k t n p)) (nI (pd k t p)) (nI (th k t p)) (nI (bd k t n p)) (nI p) (nI (pTr (aR k t p) (t p))) w0 w1 w2 := by
            intro r
            have i18 := pTr_is (c := t p) 18 3 hr (by decide)
            have i19 := pTr_19 (c := t p) hr
            have p1 := fun c hc => put1 c hc (by omega) (by omega) (by omega) (by omega) (by omega) (by omega) (by omega) (by omega) (by omega) (by omega)
            unfold w_M_show_372 w_M_show_406 w_M_show_429 w_M_show_443 w_M_show_456 w_M_show_459 w_M_show_555
            rw [nI_1 p]
            refine hX.role hn (by omega) ?_
            have hg2 := gR_lt k t n (p + 1)
            have hg3 := pTr_lt (gR k t n (p + 1)) (gL t n (p + 1))
            refine b_eq (k := 18) (by omega) (by decide) (fun z => ?_) (fun z => hX.roleB hn (by omega) (fun c => b_eq (k := 18) (by have := pTr_lt (aS k t p).1 c; omega) (by decide) (fun z2 => ?_) (fun z2 => ?_)))
            · have r3 := i18.mp z
              have em : eM k t n p = if gR k t n (p + 1) = 9 ∨ gR k t n (p + 1) = 6 ∨ gR k t n (p + 1) = 19 then [58] else [] := by unfold eM; rw [if_pos r3]
              have key : (1 ≤ pTr (gR k t n (p + 1)) (gL t n (p + 1)) ∧ pTr (gR k t n (p + 1)) (gL t n (p + 1)) ≤ 3) ↔ gR k t n (p + 1) = 9 ∨ gR k t n (p + 1) = 6 ∨ gR k t n (p + 1) = 19 := by
                rw [pTr_b]
                have : ∀ r, r < 25 → ∀ b : Bool, (1 ≤ pTrb r b ∧ pTrb r b ≤ 3 ↔ r = 9 ∨ r = 6 ∨ r = 19) := by decide
                exact this _ hg2 _
              have nothing : ¬ (gR k t n (p + 1) = 9 ∨ gR k t n (p + 1) = 6 ∨ gR k t n (p + 1) = 19) → K0 (nI s) (nI (aS k t p).2.1) (nI (cl k t n p)) (nI (pd k t p)) (nI (th k t p)) (nI (bd k t n p)) (nI (p + 1)) w0 w1 w2 := by
                intro q
                rw [if_neg q] at em
                exact noemit (by omega) (by omega) (by omega) (by omega) (by omega) (by omega) (by omega) (by omega) (by omega) (by omega) w0 w2 (MQu.rf w0) (by rw [em, List.append_nil]; exact hu)
              have f406 : ¬ (gR k t n (p + 1) = 9 ∨ gR k t n (p + 1) = 6 ∨ gR k t n (p + 1) = 19) → ∀ A B : Prop, (nI (pTr (aR k t p) (t p)) = 19 → A) ∧ (¬ nI (pTr (aR k t p) (t p)) = 19 → ((0 : Int32) = 0 → K0 (nI s) (nI (aS k t p).2.1) (nI (cl k t n p)) (nI (pd k t p)) (nI (th k t p)) (nI (bd k t n p)) (nI (p + 1)) w0 w1 w2) ∧ (¬ (0 : Int32) = 0 → B)) := by
                intro q A B
                exact b_eq' (k := 19) (by omega) (by decide) (fun w => by omega) (fun _ => ⟨fun _ => nothing q, fun w => absurd rfl w⟩)
              refine b_lt (q := 1) (by omega) (by decide) (fun q => f406 (fun w => by have := key.mpr w; omega) _ _) (fun q => b_lt (a := 3) (by decide) (by omega) (fun q2 => f406 (fun w => by have := key.mpr w; omega) _ _) (fun q2 => ?_))
              rw [if_pos (key.mp ⟨q, q2⟩)] at em
              exact b_eq' (k := 19) (by omega) (by decide) (fun w => by omega) (fun _ => ⟨fun w => absurd w (by decide), fun _ => ⟨fun w => absurd w (by decide), fun _ => p1 58 em⟩⟩)
            · have r4 : aR k t p = 4 := by
                rcases r with w | w
                · exact absurd (i18.mpr w) z
                · exact w
              have l3 := (pTr_is (c := c) 18 3 hl25 (by decide)).mp z2
              have em : eM k t n p = [58] := by unfold eM; rw [if_neg (by omega), if_pos r4, if_pos l3]
              exact b_eq' (k := 19) (by omega) (by decide) (fun _ => ⟨fun w => absurd w (by decide), fun _ => p1 58 em⟩) (fun w => absurd (i19.mpr r4) w)
            · have r4 : aR k t p = 4 := by
                rcases r with w | w
                · exact absurd (i18.mpr w) z
                · exact w
              have l3 : ¬ (aS k t p).1 = 3 := fun w => z2 ((pTr_is (c := c) 18 3 hl25 (by decide)).mpr w)
              have em : eM k t n p = [38] := by unfold eM; rw [if_neg (by omega), if_pos r4, if_neg l3]
              exact b_eq' (k := 19) (by omega) (by decide) (fun _ => ⟨fun _ => p1 38 em, fun w => absurd rfl w⟩) (fun w => absurd (i19.mpr r4) w)
          refine b_eq' (k := 18) (by omega) (by decide) (fun e => w372 (Or.inl ((pTr_is 18 3 hr (by decide)).mp e))) (fun n18 => b_eq (k := 19) (by omega) (by decide) (fun e => w372 (Or.inr ((pTr_19 hr).mp e))) (fun n19 => b_eq (k := 20) (by omega) (by decide) (fun e => ?_) (fun n20 => b_eq (k := 23) (by omega) (by decide) (fun e => ?_) (fun n23 => b_eq (k := 24) (by omega) (by decide) (fun e => ?_) (fun n24 => b_eq (k := 6) (by omega) (by decide) (fun e => ?_) (fun n6 => b_eq' (k := 2) (by omega) (by decide) (fun e => ?_) (fun n2 => ?_)))))))
          · have r := (pTr_is 20 5 hr (by decide)).mp e
            refine q_put hu (by omega) (fun u' o' a1 a2 => ?_)
            have F := fin u' o' (by omega) (by omega) (by omega) a1 (by rw [show eM k t n p = [t p] by simp [eM, eL, r]]; exact a2)
            rw [dn (by omega) (by omega), cn, if_neg (by omega), pn, if_neg (by omega), if_neg (by omega), tn, if_neg (by omega), bn, if_pos r] at F
            exact F
          · have r := (pTr_is 23 21 hr (by decide)).mp e
            obtain ⟨v1, v2, v3⟩ := s2 (by omega)
            have w0e : wt k t p (aS k t p).2.1 = 0 := wt_0 hg p (by omega) (nC (by omega)) v1 v2 v3
            have em : eM k t n p = wL 11 := by
              unfold eM eL
              rw [f21 r, w0e]
              simp [r, bk]
              rfl
            exact q_void hu (by omega) (fun u' o' a1 a2 => noemit (by omega) (by omega) (by omega) (by omega) (by omega) (by omega) (by omega) (by omega) (by omega) (by omega) u' o' a1 (by rw [em]; exact a2))
          · have r := (pTr_is 24 24 hr (by decide)).mp e
            have em : eM k t n p = [if th k t p = 0 then 94 else 44] := by simp [eM, eL, r]
            unfold w_M_show_518 w_M_show_555
            rw [nI_1, nI_1]
            have F : ∀ c, (if th k t p = 0 then 94 else 44) = c → wp_M_put (fun v32 => K0 (nI s) (nI (aS k t p).2.1) (nI (cl k t n p)) (nI (pd k t p)) (nI (th k t p + 1)) (nI (bd k t n p)) (nI (p + 1)) v32.1 w1 v32.2) w0 w2 (nI c) := by
              intro c hc
              refine q_put hu (by omega) (fun u' o' a1 a2 => ?_)
              have F := fin u' o' (by omega) (by omega) (by omega) a1 (by rw [em, hc]; exact a2)
              rw [dn (by omega) (by omega), cn, if_neg (by omega), pn, if_neg (by omega), if_neg (by omega), tn, if_pos r, bn, if_neg (by omega)] at F
              exact F
            exact b_eq (k := 0) (by omega) (by decide) (fun z => F 94 (if_pos z)) (fun z => F 44 (if_neg z))
          · have r := (pTr_is 6 11 hr (by decide)).mp e
            exact put1 46 (by simp [eM, eL, r]) (by omega) (by omega) (by omega) (by omega) (by omega) (by omega) (by omega) (by omega) (by omega) (by omega)
          · have r := (pTr_is 2 6 hr (by decide)).mp e
            exact noemit (by omega) (by omega) (by omega) (by omega) (by omega) (by omega) (by omega) (by omega) (by omega) (by omega) w0 w2 (MQu.rf w0) (by rw [show eM k t n p = [] by simp [eM, eL, r], List.append_nil]; exact hu)
          · have rr : aR k t p = 1 ∨ aR k t p = 7 ∨ aR k t p = 10 ∨ aR k t p = 12 ∨ aR k t p = 13 ∨ aR k t p = 22 ∨ aR k t p = 23 := by
              have hv : pTr (aR k t p) (t p) = 5 ∨ pTr (aR k t p) (t p) = 7 ∨ pTr (aR k t p) (t p) = 14 ∨ pTr (aR k t p) (t p) = 16 ∨ pTr (aR k t p) (t p) = 21 ∨ pTr (aR k t p) (t p) = 22 := by
                have : pTr (aR k t p) (t p) ≠ 0 := fun w => h0 ((pTr_0 hr).mp w)
                omega
              rw [pTr_b] at hv
              have : ∀ r, r < 25 → ∀ b : Bool, (pTrb r b = 5 ∨ pTrb r b = 7 ∨ pTrb r b = 14 ∨ pTrb r b = 16 ∨ pTrb r b = 21 ∨ pTrb r b = 22) → (r = 1 ∨ r = 7 ∨ r = 10 ∨ r = 12 ∨ r = 13 ∨ r = 22 ∨ r = 23) := by decide
              exact this _ hr _ hv
            have em : eM k t n p = [t p] := by
              rcases rr with r | r | r | r | r | r | r
              · simp [eM, eL, r]
              · simp [eM, eL, r]
              · simp [eM, eL, r]
              · simp [eM, eL, r, f12 r]
              · simp [eM, eL, r]
              · simp [eM, eL, r]
              · simp [eM, eL, r]
            exact put1 (t p) em (by omega) (by omega) (by omega) (by omega) (by omega) (by omega) (by omega) (by omega) (by omega) (by omega)
