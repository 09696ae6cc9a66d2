/-! the reference's machine, a step -/
def MP (u u' : MoC) : Prop := moN u' = moN u ∧ moM u' = moM u ∧ moW u' = moW u ∧ moG u' = moG u ∧ moS u' = moS u ∧ moI u' = moI u
theorem MP.rf (u : MoC) : MP u u := ⟨rfl, rfl, rfl, rfl, rfl, rfl⟩
/-- what an operation o makes of a stack with its top at T -/
def PSt (T : Nat) (f f' : Nat → Int32) (T' : Nat) (o : PO) : Prop :=
  (∀ j, j < T → f' j = f j) ∧ (o.2.1 = 1 → T' = T ∧ f' T = nI o.2.2.1) ∧ (o.2.1 = 2 → T' = T + 1 ∧ f' T = nI o.2.2.1 ∧ f' (T + 1) = nI o.2.2.2) ∧ (o.2.1 = 3 → T' + 1 = T) ∧ (o.2.1 = 4 → T' = T ∧ f' T = nI o.2.2.1) ∧ (o.2.1 = 5 → T' = T ∧ f' T = f T)
/-- every end of the operation o has post -/
def PH (post : Int32 → (MoC × IaC) → Prop) (u : MoC) (v : IaC) (T : Nat) (o : PO) : Prop :=
  ∀ (u' : MoC) (v' : IaC) (T' : Nat), MP u u' → iaN v' = iaN v → moT u' = nI T' → PSt T (iaF v) (iaF v') T' o → post (nI o.1) (u', v')
theorem h_0 {post : Int32 → (MoC × IaC) → Prop} {u : MoC} {v : IaC} {T : Nat} (hT : moT u = nI T) (h : PH post u v T g0) : post 0 (u, v) :=
  h u v T (MP.rf u) rfl hT ⟨fun _ _ => rfl, fun z => absurd z (by decide), fun z => absurd z (by decide), fun z => absurd z (by decide), fun z => absurd z (by decide), fun z => absurd z (by decide)⟩
theorem h_go {post : Int32 → (MoC × IaC) → Prop} {u : MoC} {v : IaC} {T a w : Nat} (hT : moT u = nI T) (hN : T < iaN v) (hN2 : iaN v < 1000) (h : PH post u v T (gGo a w)) : wp_M_go (fun r v1 => post r (u, v1)) u v (nI a) (nI w) := by
  unfold wp_M_go
  rw [hT, nI_clamp (by omega)]
  refine ⟨vp_in_nI hN (by omega), h u _ T (MP.rf u) rfl hT ⟨fun j hj => pk_un (by omega), fun _ => ⟨rfl, pk_us⟩, fun z => absurd z (show ¬ (1 : Nat) = 2 by decide), fun z => absurd z (show ¬ (1 : Nat) = 3 by decide), fun z => absurd z (show ¬ (1 : Nat) = 4 by decide), fun z => absurd z (show ¬ (1 : Nat) = 5 by decide)⟩⟩
theorem h_pop {post : Int32 → (MoC × IaC) → Prop} {u : MoC} {v : IaC} {T w : Nat} (hT : moT u = nI (T + 1)) (h : PH post u v (T + 1) (gPop w)) : wp_M_pop (fun r v1 => post r (v1, v)) u (nI w) := by
  unfold wp_M_pop
  refine h _ v T ⟨rfl, rfl, rfl, rfl, rfl, rfl⟩ rfl ?_ ⟨fun _ _ => rfl, fun z => absurd z (show ¬ (3 : Nat) = 1 by decide), fun z => absurd z (show ¬ (3 : Nat) = 2 by decide), fun _ => rfl, fun z => absurd z (show ¬ (3 : Nat) = 4 by decide), fun z => absurd z (show ¬ (3 : Nat) = 5 by decide)⟩
  show moT u - 1 = nI T
  rw [hT, nI_pred]
theorem h_push {post : Int32 → (MoC × IaC) → Prop} {u : MoC} {v : IaC} {T a b w : Nat} (hT : moT u = nI T) (hN : T + 1 < iaN v) (hN2 : iaN v < 1000) (h : PH post u v T (gPush a b w)) : wp_M_push (fun r z => post r (z.1, z.2)) u v (nI a) (nI b) (nI w) := by
  unfold wp_M_push
  rw [hT, nI_1, nI_clamp (by omega), nI_clamp (by omega)]
  refine ⟨vp_in_nI (by omega) (by omega), vp_in_nI hN (by omega), h _ _ (T + 1) ⟨rfl, rfl, rfl, rfl, rfl, rfl⟩ rfl rfl ⟨fun j hj => ?_, fun z => absurd z (show ¬ (2 : Nat) = 1 by decide), fun _ => ⟨rfl, ?_, pk_us⟩, fun z => absurd z (show ¬ (2 : Nat) = 3 by decide), fun z => absurd z (show ¬ (2 : Nat) = 4 by decide), fun z => absurd z (show ¬ (2 : Nat) = 5 by decide)⟩⟩
  · show upd (upd (iaF v) T (nI a)) (T + 1) (nI b) j = _
    rw [pk_un (by omega), pk_un (by omega)]
  · show upd (upd (iaF v) T (nI a)) (T + 1) (nI b) T = _
    rw [pk_un (by omega), pk_us]
    rfl
theorem r_name {post : Int32 → Prop} {c : Nat} (hc : c < 128) (h : post (if pNm c then 1 else 0)) : wp_M_name post (nI c) := by
  unfold wp_M_name
  unfold pNm at h
  simp only [lit32, nIe (a := c) (by omega : c < 2 ^ 31), Nat.reducePow, Nat.reduceLT] at h ⊢
  grind
theorem r_base {post : Int32 → Prop} {c : Nat} (hc : c < 128) (h : post (if pBs c then 1 else 0)) : wp_M_base post (nI c) := by
  unfold wp_M_base w_M_base_48
  unfold pBs at h
  simp only [lit32, nIe (a := c) (by omega : c < 2 ^ 31), Nat.reducePow, Nat.reduceLT] at h ⊢
  grind
theorem r_start {post : Int32 → (MoC × IaC) → Prop} {u : MoC} {v : IaC} {T q c : Nat} (hT : moT u = nI T) (h0 : 0 < T ∨ q ≠ 1) (hN : T < iaN v) (hN2 : iaN v < 1000) (hq : q < 30) (hc : c < 128) (h : PH post u v T (gStart q c)) : wp_M_start post u v (nI q) (nI c) := by
  have r50 : ¬ (q = 1 ∧ pBs c = true) → ¬ c = 76 → ¬ (c = 84 ∧ q ≠ 3) → w_M_start_50 post (nI q) (nI c) u v := by
    intro a1 a2 a3
    refine b_eq (k := 91) (by omega) (by decide) (fun e => ?_) (fun e => ?_)
    · refine ⟨fun z => ?_, fun z => ?_⟩
      · have hz := (nI_ltI (a := 2) (by omega) (by omega)).mp z
        refine h_0 hT ?_
        have : gStart q c = g0 := by unfold gStart; rw [if_neg a1, if_neg a2, if_neg a3, if_neg (fun w => by omega)]
        rw [← this]; exact h
      · have hz : q ≤ 2 := by
          rcases Nat.lt_or_ge 2 q with r | r
          · exact absurd (nI_lt r (by omega)) z
          · exact r
        refine h_go (a := 1) (w := 3) hT hN hN2 ?_
        have : gStart q c = gGo 1 3 := by unfold gStart; rw [if_neg a1, if_neg a2, if_neg a3, if_pos ⟨e, hz⟩]
        rw [← this]; exact h
    · refine h_0 hT ?_
      have : gStart q c = g0 := by unfold gStart; rw [if_neg a1, if_neg a2, if_neg a3, if_neg (fun w => e w.1)]
      rw [← this]; exact h
  have r18 : ¬ (q = 1 ∧ pBs c = true) → w_M_start_18 post (nI q) (nI c) u v := by
    intro a1
    refine b_eq (k := 76) (by omega) (by decide) (fun e => ?_) (fun e => b_eq (k := 84) (by omega) (by decide) (fun e2 => b_eq' (k := 3) (by omega) (by decide) (fun e3 => r50 a1 e (fun z => z.2 e3)) (fun e3 => ?_)) (fun e2 => r50 a1 e (fun z => e2 z.1)))
    · refine h_go (a := 5) (w := 1) hT hN hN2 ?_
      have : gStart q c = gGo 5 1 := by unfold gStart; rw [if_neg a1, if_pos e]
      rw [← this]; exact h
    · refine h_go (a := 12) (w := 2) hT hN hN2 ?_
      have : gStart q c = gGo 12 2 := by unfold gStart; rw [if_neg a1, if_neg e, if_pos ⟨e2, e3⟩]
      rw [← this]; exact h
  refine b_eq (k := 1) (by omega) (by decide) (fun e => r_base hc ?_) (fun e => r18 (fun z => e z.1))
  by_cases hb : pBs c = true
  · rw [if_pos hb]
    refine ⟨fun z => absurd z (by decide), fun _ => ?_⟩
    obtain ⟨T', rfl⟩ : ∃ T', T = T' + 1 := ⟨T - 1, by rcases h0 with z | z; omega; exact absurd e z⟩
    refine h_pop (w := 4) hT ?_
    have : gStart q c = gPop 4 := by unfold gStart; rw [if_pos ⟨e, hb⟩]
    rw [← this]; exact h
  · rw [if_neg hb]
    exact ⟨fun _ => r18 (fun z => hb z.2), fun z => absurd rfl z⟩
