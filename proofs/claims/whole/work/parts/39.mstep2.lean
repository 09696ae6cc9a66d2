theorem PSt_inner {T a b c T' : Nat} {f f1 f' : Nat → Int32} (h1 : f1 T = nI a) (h2 : ∀ j, j < T → f1 j = f j) (h : PSt (T + 1) f1 f' T' (gStart b c)) : PSt T f f' T' (gInner a b c) ∧ (gInner a b c).1 = (gStart b c).1 := by
  obtain ⟨k0, k1, k2, k3, k4, k5⟩ := h
  have q0 : ∀ j, j < T → f' j = f j := fun j hj => (k0 j (by omega)).trans (h2 j hj)
  have qT : f' T = nI a := (k0 T (by omega)).trans h1
  unfold gInner
  unfold gStart at k1 k2 k3 k4 k5 ⊢
  by_cases c1 : b = 1 ∧ pBs c = true
  · rw [if_pos c1] at k3 ⊢
    rw [if_pos c1]
    have := k3 rfl
    exact ⟨⟨q0, fun z => absurd z (show ¬ (4 : Nat) = 1 by decide), fun z => absurd z (show ¬ (4 : Nat) = 2 by decide), fun z => absurd z (show ¬ (4 : Nat) = 3 by decide), fun _ => ⟨by omega, qT⟩, fun z => absurd z (show ¬ (4 : Nat) = 5 by decide)⟩, rfl⟩
  · rw [if_neg c1] at k1 ⊢
    rw [if_neg c1]
    by_cases c2 : c = 76
    · rw [if_pos c2] at k1 ⊢
      rw [if_pos c2]
      obtain ⟨y1, y2⟩ := k1 rfl
      exact ⟨⟨q0, fun z => absurd z (show ¬ (2 : Nat) = 1 by decide), fun _ => ⟨y1, qT, y2⟩, fun z => absurd z (show ¬ (2 : Nat) = 3 by decide), fun z => absurd z (show ¬ (2 : Nat) = 4 by decide), fun z => absurd z (show ¬ (2 : Nat) = 5 by decide)⟩, rfl⟩
    · rw [if_neg c2] at k1 ⊢
      rw [if_neg c2]
      by_cases c3 : c = 84 ∧ b ≠ 3
      · rw [if_pos c3] at k1 ⊢
        rw [if_pos c3]
        obtain ⟨y1, y2⟩ := k1 rfl
        exact ⟨⟨q0, fun z => absurd z (show ¬ (2 : Nat) = 1 by decide), fun _ => ⟨y1, qT, y2⟩, fun z => absurd z (show ¬ (2 : Nat) = 3 by decide), fun z => absurd z (show ¬ (2 : Nat) = 4 by decide), fun z => absurd z (show ¬ (2 : Nat) = 5 by decide)⟩, rfl⟩
      · rw [if_neg c3] at k1 ⊢
        rw [if_neg c3]
        by_cases c4 : c = 91 ∧ b ≤ 2
        · rw [if_pos c4] at k1 ⊢
          rw [if_pos c4]
          obtain ⟨y1, y2⟩ := k1 rfl
          exact ⟨⟨q0, fun z => absurd z (show ¬ (2 : Nat) = 1 by decide), fun _ => ⟨y1, qT, y2⟩, fun z => absurd z (show ¬ (2 : Nat) = 3 by decide), fun z => absurd z (show ¬ (2 : Nat) = 4 by decide), fun z => absurd z (show ¬ (2 : Nat) = 5 by decide)⟩, rfl⟩
        · rw [if_neg c4] at ⊢
          rw [if_neg c4]
          exact ⟨⟨q0, fun z => absurd z (show ¬ (0 : Nat) = 1 by decide), fun z => absurd z (show ¬ (0 : Nat) = 2 by decide), fun z => absurd z (show ¬ (0 : Nat) = 3 by decide), fun z => absurd z (show ¬ (0 : Nat) = 4 by decide), fun z => absurd z (show ¬ (0 : Nat) = 5 by decide)⟩, rfl⟩
theorem r_inner {post : Int32 → (MoC × IaC) → Prop} {u : MoC} {v : IaC} {T a b c : Nat} (hT : moT u = nI T) (hN : T + 1 < iaN v) (hN2 : iaN v < 1000) (hb : b < 30) (hc : c < 128) (h : PH post u v T (gInner a b c)) : wp_M_inner post u v (nI a) (nI b) (nI c) := by
  unfold wp_M_inner wp_M_push
  rw [hT, nI_1, nI_clamp (by omega), nI_clamp (by omega)]
  refine ⟨vp_in_nI (by omega) (by omega), vp_in_nI hN (by omega), fun z => absurd rfl z, fun _ => ?_⟩
  refine r_start (T := T + 1) rfl (Or.inl (by omega)) hN hN2 hb hc (fun u' v' T' g1 g2 g3 g4 => ?_)
  obtain ⟨w1, w2⟩ := PSt_inner (a := a) (f := iaF v) (by show upd (upd (iaF v) T (nI a)) (T + 1) (nI b) T = _; rw [pk_un (by omega), pk_us]) (fun j hj => by show upd (upd (iaF v) T (nI a)) (T + 1) (nI b) j = _; rw [pk_un (by omega), pk_un (by omega)]) g4
  rw [← w2]
  exact h u' v' T' ⟨g1.1, g1.2.1, g1.2.2.1, g1.2.2.2.1, g1.2.2.2.2.1, g1.2.2.2.2.2⟩ g2 g3 w1
theorem r_inArguments {post : Int32 → (MoC × IaC) → Prop} {u : MoC} {v : IaC} {T q c : Nat} (hT : moT u = nI (T + 1)) (hN : T + 2 < iaN v) (hN2 : iaN v < 1000) (hq : q < 30) (hc : c < 128) (h : PH post u v (T + 1) (gArgs q c)) : wp_M_inArguments post u v (nI q) (nI c) := by
  unfold gArgs at h
  unfold wp_M_inArguments w_M_inArguments_27 w_M_inArguments_44
  refine b_eq (k := 42) (by omega) (by decide) (fun e => ?_) (fun e => b_eq' (k := 43) (by omega) (by decide) (fun e2 => b_eq (k := 43) (by omega) (by decide) (fun _ => ?_) (fun w => absurd e2 w)) (fun e2 => b_eq (k := 45) (by omega) (by decide) (fun e3 => b_eq (k := 43) (by omega) (by decide) (fun w => absurd w e2) (fun _ => ?_)) (fun e3 => b_eq (k := 62) (by omega) (by decide) (fun e4 => b_eq (k := 11) (by omega) (by decide) (fun e5 => ?_) (fun e5 => ?_)) (fun e4 => ?_))))
  · rw [if_pos e] at h
    exact h_go (a := 11) (w := 10) hT (by omega) hN2 h
  · rw [if_neg e, if_pos e2] at h
    exact h_push (a := 11) (b := 2) (w := 11) hT hN hN2 h
  · rw [if_neg e, if_neg e2, if_pos e3] at h
    exact h_push (a := 11) (b := 2) (w := 12) hT hN hN2 h
  · rw [if_neg e, if_neg e2, if_neg e3, if_pos e4, if_pos e5] at h
    exact h_pop (w := 13) hT h
  · rw [if_neg e, if_neg e2, if_neg e3, if_pos e4, if_neg e5] at h
    exact h_0 hT h
  · rw [if_neg e, if_neg e2, if_neg e3, if_neg e4] at h
    exact r_inner (a := 11) (b := 2) hT hN hN2 (by omega) hc h
theorem r_inClass {post : Int32 → (MoC × IaC) → Prop} {u : MoC} {v : IaC} {T q c : Nat} (hT : moT u = nI (T + 1)) (hN : T + 2 < iaN v) (hN2 : iaN v < 1000) (hq : q < 30) (hc : c < 128) (h : PH post u v (T + 1) (gClass q c)) : wp_M_inClass post u v (nI q) (nI c) := by
  have r107 : pNm c ≠ true → ¬ (c = 47 ∧ q = 6) → ¬ (c = 60 ∧ (q = 6 ∨ q = 8)) → (q = 6 ∨ q = 8 ∨ q = 9) → w_M_inClass_107 post (nI c) u v := by
    intro a1 a2 a3 a4
    unfold gClass at h
    rw [if_neg a1, if_neg a2, if_neg a3, if_neg (fun z => a4.elim (fun w => z.1 (Or.inl w)) (fun w => w.elim (fun w => z.1 (Or.inr w)) z.2))] at h
    refine b_eq (k := 46) (by omega) (by decide) (fun e => ?_) (fun e => b_eq (k := 59) (by omega) (by decide) (fun e2 => ?_) (fun e2 => ?_))
    · rw [if_pos e] at h
      exact h_go (a := 7) (w := 7) hT (by omega) hN2 h
    · rw [if_neg e, if_pos e2] at h
      exact h_pop (w := 9) hT h
    · rw [if_neg e, if_neg e2] at h
      exact h_0 hT h
  have r17 : ∀ b : Nat, (b = 1 ∧ (q = 6 ∨ q = 8) ∨ b = 0 ∧ ¬ (q = 6 ∨ q = 8)) → w_M_inClass_17 post (nI q) (nI c) (nI b) u v := by
    intro b hb
    have hb2 : b < 2 := by omega
    have r95 : pNm c ≠ true → ¬ (c = 47 ∧ q = 6) → ¬ (c = 60 ∧ (q = 6 ∨ q = 8)) → w_M_inClass_95 post (nI q) (nI c) (nI b) u v := by
      intro a1 a2 a3
      refine b_eq (k := 0) (by omega) (by decide) (fun e => b_eq' (k := 9) (by omega) (by decide) (fun e2 => r107 a1 a2 a3 (Or.inr (Or.inr e2))) (fun e2 => ?_)) (fun e => r107 a1 a2 a3 ?_)
      · unfold gClass at h
        rw [if_neg a1, if_neg a2, if_neg a3, if_pos ⟨by omega, e2⟩] at h
        exact h_0 hT h
      · omega
    have r74 : pNm c ≠ true → ¬ (c = 47 ∧ q = 6) → w_M_inClass_74 post (nI q) (nI c) (nI b) u v := by
      intro a1 a2
      refine b_eq (k := 60) (by omega) (by decide) (fun e => b_eq' (k := 0) (by omega) (by decide) (fun e2 => r95 a1 a2 (fun z => by omega)) (fun e2 => ?_)) (fun e => r95 a1 a2 (fun z => e z.1))
      unfold gClass at h
      rw [if_neg a1, if_neg a2, if_pos ⟨e, by omega⟩] at h
      exact h_push (a := 9) (b := 10) (w := 8) hT hN hN2 h
    refine r_name hc ?_
    by_cases hn : pNm c = true
    · rw [if_pos hn]
      refine ⟨fun z => absurd z (by decide), fun _ => b_eq (k := 9) (by omega) (by decide) (fun e => ?_) (fun e => ⟨fun z => ?_, fun z => ?_⟩)⟩
      · unfold gClass at h
        rw [if_pos hn, if_pos e] at h
        exact h_0 hT h
      · have hz := (nI_leI (a := 7) (by omega) (by omega)).mp z
        unfold gClass at h
        rw [if_pos hn, if_neg e, if_neg (show ¬ q < 7 by omega)] at h
        exact h_go (a := 8) (w := 5) hT (by omega) hN2 h
      · have hz : q < 7 := by
          rcases Nat.lt_or_ge q 7 with r | r
          · exact r
          · exact absurd (nI_le r (by omega)) z
        unfold gClass at h
        rw [if_pos hn, if_neg e, if_pos hz] at h
        exact h_go (a := 6) (w := 5) hT (by omega) hN2 h
    · rw [if_neg hn]
      refine ⟨fun _ => b_eq (k := 47) (by omega) (by decide) (fun e => b_eq (k := 6) (by omega) (by decide) (fun e2 => ?_) (fun e2 => r74 hn (fun z => e2 z.2))) (fun e => r74 hn (fun z => e z.1)), fun z => absurd rfl z⟩
      unfold gClass at h
      rw [if_neg hn, if_pos ⟨e, e2⟩] at h
      exact h_go (a := 5) (w := 6) hT (by omega) hN2 h
  refine b_eq' (k := 6) (by omega) (by decide) (fun e => r17 1 (Or.inl ⟨rfl, Or.inl e⟩)) (fun e => b_eq (k := 8) (by omega) (by decide) (fun e2 => r17 1 (Or.inl ⟨rfl, Or.inr e2⟩)) (fun e2 => r17 0 (Or.inr ⟨rfl, by omega⟩)))
