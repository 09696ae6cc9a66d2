theorem h_5 {post : Int32 → (MoC × IaC) → Prop} {u : MoC} {v : IaC} {T w : Nat} (hT : moT u = nI T) (h : PH post u v T (w, 5, 0, 0)) : post (nI w) (u, v) :=
  h u v T (MP.rf u) rfl hT ⟨fun _ _ => rfl, fun z => absurd z (show ¬ (5 : Nat) = 1 by decide), fun z => absurd z (show ¬ (5 : Nat) = 2 by decide), fun z => absurd z (show ¬ (5 : Nat) = 3 by decide), fun z => absurd z (show ¬ (5 : Nat) = 4 by decide), fun _ => ⟨rfl, rfl⟩⟩
theorem b_lt {a q : Nat} {A B : Prop} (ha : a < 2 ^ 31) (hq : q < 2 ^ 31) (f : a < q → A) (g : q ≤ a → B) : (nI a < nI q → A) ∧ (¬ nI a < nI q → B) :=
  ⟨fun z => f ((nI_ltI ha hq).mp z), fun z => g (Nat.not_lt.mp (fun w => z (nI_lt w hq)))⟩
theorem b_le {a q : Nat} {A B : Prop} (ha : a < 2 ^ 31) (hq : q < 2 ^ 31) (f : q ≤ a → A) (g : a < q → B) : (nI q ≤ nI a → A) ∧ (¬ nI q ≤ nI a → B) :=
  ⟨fun z => f ((nI_leI hq ha).mp z), fun z => g (Nat.not_le.mp (fun w => z (nI_le w ha)))⟩
theorem pNm_58 : pNm 58 = false := by decide
theorem r_inParameters {post : Int32 → (MoC × IaC) → Prop} {u : MoC} {v tx pf pt pa : IaC} {T q c k s n p : Nat} {t : Nat → Nat} (hT : moT u = nI (T + 1)) (hN : T + 2 < iaN v) (hN2 : iaN v < 1000) (hq : q < 30) (hc : c < 128)
    (hs : s < 25) (hn : n ≤ 120) (hpn : p ≤ n) (hx : MoT tx t s n) (hm : MoN pf pt pa k t s p) (hc0 : q = 15 → 0 < aC k t p ∧ aC k t p ≤ 20)
    (ht : q = 15 → c = 58 → aTk k t p → post 0 (u, v)) (h : ¬ (q = 15 ∧ c = 58 ∧ aTk k t p) → PH post u v (T + 1) (gPars q c)) : wp_M_inParameters post u tx pf pt pa v (nI s) (nI q) (nI c) := by
  by_cases e15 : q = 15
  · subst e15
    refine ⟨fun z => absurd rfl z, fun _ => r_name hc ?_⟩
    by_cases hn' : pNm c = true
    · rw [if_pos hn']
      refine ⟨fun z => absurd z (by decide), fun _ => ?_⟩
      have h1 := h (fun z => by rw [z.2.1, pNm_58] at hn'; cases hn')
      unfold gPars at h1
      rw [if_pos rfl, if_pos hn'] at h1
      exact h_5 (w := 17) hT h1
    · rw [if_neg hn']
      refine ⟨fun _ => b_eq (k := 58) (by omega) (by decide) (fun e => ?_) (fun e => ?_), fun z => absurd rfl z⟩
      · refine r_twice hs hn hpn hx hm (hc0 rfl).1 (hc0 rfl).2 (fun w => ⟨fun _ => ht rfl e w, fun z => absurd z (by decide)⟩) (fun w => ⟨fun z => absurd rfl z, fun _ => ?_⟩)
        have h1 := h (fun z => w z.2.2)
        unfold gPars at h1
        rw [if_pos rfl, if_neg hn', if_pos e] at h1
        exact h_go (a := 16) (w := 18) hT (by omega) hN2 h1
      · have h1 := h (fun z => e z.2.1)
        unfold gPars at h1
        rw [if_pos rfl, if_neg hn', if_neg e] at h1
        exact h_0 hT h1
  · have h1 := h (fun z => e15 z.1)
    unfold gPars at h1
    rw [if_neg e15] at h1
    have r117 : ¬ (15 < q ∧ c = 62) → ¬ (15 < q ∧ c = 58) → ¬ (q = 16 ∧ (c = 76 ∨ c = 84 ∨ c = 91)) → w_M_inParameters_117 post tx pf pt pa (nI c) u v := by
      intro a1 a2 a3
      rw [if_neg a1, if_neg a2, if_neg a3] at h1
      refine r_name hc ?_
      by_cases hn' : pNm c = true
      · rw [if_pos hn'] at h1 ⊢
        exact ⟨fun z => absurd z (by decide), fun _ => h_go (a := 15) (w := 17) hT (by omega) hN2 h1⟩
      · rw [if_neg hn'] at h1 ⊢
        exact ⟨fun _ => h_0 hT h1, fun z => absurd rfl z⟩
    have r108 : ¬ (15 < q ∧ c = 62) → ¬ (15 < q ∧ c = 58) → (q = 16 ∧ (c = 76 ∨ c = 84 ∨ c = 91)) → w_M_inParameters_108 post tx pf pt pa (nI c) u v := by
      intro a1 a2 a3
      rw [if_neg a1, if_neg a2, if_pos a3] at h1
      exact r_inner (a := 17) (b := 2) hT hN hN2 (by omega) hc h1
    have r84 : ¬ (15 < q ∧ c = 62) → ¬ (15 < q ∧ c = 58) → w_M_inParameters_84 post tx pf pt pa (nI q) (nI c) u v := by
      intro a1 a2
      exact b_eq (k := 16) (by omega) (by decide) (fun e => b_eq' (k := 76) (by omega) (by decide) (fun e2 => r108 a1 a2 ⟨e, Or.inl e2⟩) (fun e2 => b_eq' (k := 84) (by omega) (by decide) (fun e3 => r108 a1 a2 ⟨e, Or.inr (Or.inl e3)⟩) (fun e3 => b_eq (k := 91) (by omega) (by decide) (fun e4 => r108 a1 a2 ⟨e, Or.inr (Or.inr e4)⟩) (fun e4 => r117 a1 a2 (fun z => z.2.elim e2 (fun w => w.elim e3 e4)))))) (fun e => r117 a1 a2 (fun z => e z.1))
    have r62 : ¬ (15 < q ∧ c = 62) → w_M_inParameters_62 post tx pf pt pa (nI q) (nI c) u v := by
      intro a1
      refine b_le (a := 15) (by decide) (by omega) (fun z => r84 a1 (fun w => by omega)) (fun z => b_eq (k := 58) (by omega) (by decide) (fun e => ?_) (fun e => r84 a1 (fun w => e w.2)))
      rw [if_neg a1, if_pos ⟨z, e⟩] at h1
      exact h_push (a := 17) (b := 2) (w := 19) hT hN hN2 h1
    refine ⟨fun _ => b_le (a := 15) (by decide) (by omega) (fun z => r62 (fun w => by omega)) (fun z => b_eq (k := 62) (by omega) (by decide) (fun e => ?_) (fun e => r62 (fun w => e w.2))), fun z => absurd ((nI_eq (b := 15) (by omega) (by decide)).mp z) e15⟩
    rw [if_pos ⟨z, e⟩] at h1
    exact h_pop (w := 20) hT h1
theorem PH.eta {post : Int32 → (MoC × IaC) → Prop} {u : MoC} {v : IaC} {T : Nat} {o : PO} (h : PH post u v T o) : PH (fun r (z : MoC × IaC) => post r (z.1, z.2)) u v T o := h
theorem r_step {post : Int32 → (MoC × IaC) → Prop} {u : MoC} {v tx pf pt pa : IaC} {T q c k s n p : Nat} {t : Nat → Nat} (hT : moT u = nI T) (hN : T + 1 < iaN v) (hN2 : iaN v < 1000) (hv : iaF v T = nI q) (hq : q < 30) (hT0 : q ≤ 17 → 0 < T) (hc : c < 128)
    (hs : s < 25) (hn : n ≤ 120) (hpn : p ≤ n) (hx : MoT tx t s n) (hm : MoN pf pt pa k t s p) (hc0 : q = 15 → 0 < aC k t p ∧ aC k t p ≤ 20)
    (ht : q = 15 → c = 58 → aTk k t p → post 0 (u, v)) (h : ¬ (q = 15 ∧ c = 58 ∧ aTk k t p) → PH post u v T (gStep q c)) : wp_M_step post u tx pf pt pa v (nI s) (nI c) := by
  unfold wp_M_step w_M_step_198
  rw [hT, nI_clamp (by omega), hv]
  refine ⟨vp_in_nI (by omega) (by omega), b_lt (a := 4) (by decide) (by omega) (fun z4 => b_lt (a := 9) (by decide) (by omega) (fun z9 => b_lt (a := 11) (by decide) (by omega) (fun z11 => b_lt (a := 13) (by decide) (by omega) (fun z13 => b_lt (a := 17) (by decide) (by omega) (fun z17 => ?_) (fun z17 => ?_)) (fun z13 => ?_)) (fun z11 => ?_)) (fun z9 => ?_)) (fun z4 => ?_)⟩
  · have h1 := h (fun z => by omega)
    unfold gStep at h1
    rw [if_neg (by omega), if_neg (by omega), if_neg (by omega), if_neg (by omega), if_neg (by omega)] at h1
    have key : ∀ j : Nat, j < 30 → nI q = nI j → q = j := fun j hj z => (nI_eq (by omega) (by omega)).mp z
    have ne : ∀ j : Nat, ¬ nI q = nI j → ¬ q = j := fun j z e => z (by rw [e])
    refine ⟨fun z => ?_, fun z => ?_, fun z => ?_, fun z => ?_, fun z => ?_, fun z => ?_, fun z => ?_, fun z => ?_, fun z => ?_⟩
    · obtain rfl := key 20 (by omega) z
      refine b_eq (k := 60) (by omega) (by decide) (fun e => ?_) (fun e => b_eq (k := 76) (by omega) (by decide) (fun e2 => ?_) (fun e2 => ?_))
      · simp only [e, if_true] at h1
        exact h_push (a := 21) (b := 14) (w := 16) hT hN hN2 h1
      · simp only [e, e2, if_true, if_false] at h1
        exact h_push (a := 22) (b := 5) (w := 1) hT hN hN2 (by subst e2; exact h1)
      · simp only [e, e2, if_true, if_false] at h1
        exact h_0 hT h1
    · have e9 : gStep q c = (if c = 76 then gPush 22 5 1 else g0) := by
        rcases z with z | z
        · obtain rfl := key 21 (by omega) z; rfl
        · obtain rfl := key 22 (by omega) z; rfl
      have h1 := h (fun z => by omega)
      rw [e9] at h1
      refine b_eq (k := 76) (by omega) (by decide) (fun e2 => ?_) (fun e2 => ?_)
      · rw [if_pos e2] at h1
        exact h_push (a := 22) (b := 5) (w := 1) hT hN hN2 h1
      · rw [if_neg e2] at h1
        exact h_0 hT h1
    · obtain rfl := key 23 (by omega) z
      have h1 : PH post u v T (if c = 60 then gPush 24 14 16 else if c = 40 then gGo 25 21 else g0) := h1
      refine b_eq (k := 60) (by omega) (by decide) (fun e => ?_) (fun e => b_eq (k := 40) (by omega) (by decide) (fun e2 => ?_) (fun e2 => ?_))
      · rw [if_pos e] at h1
        exact h_push (a := 24) (b := 14) (w := 16) hT hN hN2 h1
      · rw [if_neg e, if_pos e2] at h1
        exact h_go (a := 25) (w := 21) hT (by omega) hN2 h1
      · rw [if_neg e, if_neg e2] at h1
        exact h_0 hT h1
    · obtain rfl := key 24 (by omega) z
      have h1 : PH post u v T (if c = 40 then gGo 25 21 else g0) := h1
      refine b_eq (k := 40) (by omega) (by decide) (fun e2 => ?_) (fun e2 => ?_)
      · rw [if_pos e2] at h1
        exact h_go (a := 25) (w := 21) hT (by omega) hN2 h1
      · rw [if_neg e2] at h1
        exact h_0 hT h1
    · obtain rfl := key 25 (by omega) z
      have h1 : PH post u v T (if c = 41 then gGo 26 22 else gInner 25 1 c) := h1
      refine b_eq (k := 41) (by omega) (by decide) (fun e2 => ?_) (fun e2 => ?_)
      · rw [if_pos e2] at h1
        exact h_go (a := 26) (w := 22) hT (by omega) hN2 h1
      · rw [if_neg e2] at h1
        exact r_inner (a := 25) (b := 1) hT hN hN2 (by omega) hc h1
    · obtain rfl := key 26 (by omega) z
      have h1 : PH post u v T (if c = 86 then gGo 27 23 else gInner 27 1 c) := h1
      refine b_eq (k := 86) (by omega) (by decide) (fun e2 => ?_) (fun e2 => ?_)
      · rw [if_pos e2] at h1
        exact h_go (a := 27) (w := 23) hT (by omega) hN2 h1
      · rw [if_neg e2] at h1
        exact r_inner (a := 27) (b := 1) hT hN hN2 (by omega) hc h1
    · obtain rfl := key 27 (by omega) z
      have h1 : PH post u v T (if c = 94 then gPush 27 4 24 else g0) := h1
      refine b_eq (k := 94) (by omega) (by decide) (fun e2 => ?_) (fun e2 => ?_)
      · rw [if_pos e2] at h1
        exact h_push (a := 27) (b := 4) (w := 24) hT hN hN2 h1
      · rw [if_neg e2] at h1
        exact h_0 hT h1
    · obtain rfl := key 28 (by omega) z
      have h1 : PH post u v T (gInner 29 2 c) := h1
      exact r_inner (a := 29) (b := 2) hT hN hN2 (by omega) hc h1
    · obtain ⟨a0, a1, a2, a3, a4, a5, a6, a7, a8⟩ := z
      have := ne 20 a0
      have := ne 21 a1
      have := ne 22 a2
      have := ne 23 a3
      have := ne 24 a4
      have := ne 25 a5
      have := ne 26 a6
      have := ne 27 a7
      have := ne 28 a8
      rw [if_neg (by omega), if_neg (by omega), if_neg (by omega), if_neg (by omega), if_neg (by omega), if_neg (by omega), if_neg (by omega), if_neg (by omega)] at h1
      exact h_0 hT h1
  · obtain ⟨T', rfl⟩ : ∃ T', T = T' + 1 := ⟨T - 1, by have := hT0 (by omega); omega⟩
    refine r_inParameters hT hN hN2 hq hc hs hn hpn hx hm hc0 ht (fun z => ?_)
    have h1 := h z
    unfold gStep at h1
    rw [if_neg (by omega), if_neg (by omega), if_neg (by omega), if_neg (by omega), if_pos (by omega)] at h1
    exact h1
  · obtain ⟨T', rfl⟩ : ∃ T', T = T' + 1 := ⟨T - 1, by have := hT0 (by omega); omega⟩
    have h1 := h (fun z => by omega)
    unfold gStep at h1
    rw [if_neg (by omega), if_neg (by omega), if_neg (by omega), if_pos (by omega)] at h1
    refine r_name hc ?_
    by_cases hn' : pNm c = true
    · rw [if_pos hn'] at h1 ⊢
      exact ⟨fun z => absurd z (by decide), fun _ => h_go (a := 13) (w := 14) hT (by omega) hN2 h1⟩
    · rw [if_neg hn'] at h1 ⊢
      refine ⟨fun _ => b_eq (k := 13) (by omega) (by decide) (fun e => b_eq (k := 59) (by omega) (by decide) (fun e2 => ?_) (fun e2 => ?_)) (fun e => ?_), fun z => absurd rfl z⟩
      · rw [if_pos ⟨e, e2⟩] at h1
        exact h_pop (w := 15) hT h1
      · rw [if_neg (fun w => e2 w.2)] at h1
        exact h_0 hT h1
      · rw [if_neg (fun w => e w.1)] at h1
        exact h_0 hT h1
  · obtain ⟨T', rfl⟩ : ∃ T', T = T' + 1 := ⟨T - 1, by have := hT0 (by omega); omega⟩
    have h1 := h (fun z => by omega)
    unfold gStep at h1
    rw [if_neg (by omega), if_neg (by omega), if_pos (by omega)] at h1
    exact r_inArguments hT hN hN2 hq hc h1
  · obtain ⟨T', rfl⟩ : ∃ T', T = T' + 1 := ⟨T - 1, by have := hT0 (by omega); omega⟩
    have h1 := h (fun z => by omega)
    unfold gStep at h1
    rw [if_neg (by omega), if_pos (by omega)] at h1
    exact r_inClass hT hN hN2 hq hc h1
  · have h1 := h (fun z => by omega)
    unfold gStep at h1
    rw [if_pos (by omega)] at h1
    exact r_start hT (Or.inl (hT0 (by omega))) (by omega) hN2 hq hc h1
