theorem r_judge {post : Int32 → JV → Prop} {u0 : MoC} {u2 u3 u4 u5 u6 u7 u8 u9 u10 u11 : IaC} {k s n : Nat} {t : Nat → Nat}
    (hk : k < 3) (hs : s < 25) (hn : n ≤ 120) (ht : ∀ j, j < n → t j < 127) (hx : MoT u2 t s n) (h4 : iaN u4 = 25) (hz : iaF u4 s = nI n) (h5 : iaN u5 = 25) (hkd : iaF u5 s = nI k)
    (h3 : iaN u3 = 3000) (h6 : iaN u6 = 500) (h7 : iaN u7 = 500) (h8 : iaN u8 = 500) (h9 : iaN u9 = 500) (h10 : iaN u10 = 25) (h11 : iaN u11 = 130)
    (hC : ∀ p, p ≤ n → (∀ j, j < p → ¬ aBad k t j) → aC k t p ≤ 20)
    (Hb : ∀ p v, p < n → (∀ j, j < p → ¬ aBad k t j) → aBad k t p → JF s (u0, u3, u6, u7, u8, u9, u10, u11) v → post (nI p) v)
    (He : (∀ j, j < n → ¬ aBad k t j) → aEnd k t n → ∀ v, JF s (u0, u3, u6, u7, u8, u9, u10, u11) v → JR k t s n v → post (-1) v)
    (Hf : (∀ j, j < n → ¬ aBad k t j) → ¬ aEnd k t n → ∀ v, JF s (u0, u3, u6, u7, u8, u9, u10, u11) v → post (nI n) v) :
    wp_M_judge post u0 u2 u3 u4 u5 u6 u7 u8 u9 u10 u11 (nI s) := by
  have loop : ∀ (w p : Nat) (w0 : MoC) (w1 w2 w3 w4 w5 w6 w7 : IaC), n - p ≤ w → p ≤ n → (∀ j, j < p → ¬ aBad k t j) → JF s (u0, u3, u6, u7, u8, u9, u10, u11) (w0, w1, w2, w3, w4, w5, w6, w7) → JR k t s p (w0, w1, w2, w3, w4, w5, w6, w7) → JS k t p (w0, w1, w2, w3, w4, w5, w6, w7) → w_M_judge_51 post u2 u4 u5 (w + 1) (nI s) (nI p) w0 w1 w2 w3 w4 w5 w6 w7 := by
    intro w
    have last : ∀ (K0 : Int32 → Int32 → MoC → IaC → IaC → IaC → IaC → IaC → IaC → IaC → Prop) (w0 : MoC) (w1 w2 w3 w4 w5 w6 w7 : IaC), (∀ j, j < n → ¬ aBad k t j) → JF s (u0, u3, u6, u7, u8, u9, u10, u11) (w0, w1, w2, w3, w4, w5, w6, w7) → JR k t s n (w0, w1, w2, w3, w4, w5, w6, w7) → JS k t n (w0, w1, w2, w3, w4, w5, w6, w7) → wb_M_judge_51 post u2 u4 u5 K0 (nI s) (nI n) w0 w1 w2 w3 w4 w5 w6 w7 := by
      intro K0 w0 w1 w2 w3 w4 w5 w6 w7 hno hF hR hS
      obtain ⟨T, hT, hst⟩ := hS
      have hno0 : ∀ j, j < n → aR k t j ≠ 0 := fun j hj z => hno j hj (Or.inl z)
      obtain ⟨hok, hlen⟩ := aOk hk n ht n (by omega) hno0
      have hl := aS_lt k t n
      have htop := sk_top hk hl.1 hl.2.2 hok
      have hq := hst.top htop.1
      have hend := aEnd_iff (T := T) hk hok hst.1
      have f7 : iaN w7 = 130 := hF.2.2.2.2.2.2.2.1
      dsimp only at hT hq
      have hlT := hst.1
      have no : ¬ aEnd k t n → w_M_judge_337 post u2 u4 u5 (nI s) w0 w1 w2 w3 w4 w5 w6 w7 := by
        intro z
        unfold w_M_judge_337
        rw [h4, nI_clamp (by omega), hz]
        exact ⟨vp_in_nI hs (by decide), Hf hno z _ hF⟩
      unfold wb_M_judge_51 w_M_judge_333
      rw [h4, nI_clamp (by omega), hz, hT, f7]
      refine ⟨vp_in_nI hs (by decide), fun _ => ?_, fun y => absurd (nI_le (Nat.le_refl n) (by omega)) y⟩
      refine b_eq (k := 0) (by omega) (by decide) (fun e => ?_) (fun e => no (fun z => e (hend.mpr z).1))
      subst e
      have e0 : (0 : Int32).toNatClampNeg = 0 := by decide
      rw [e0, hq]
      have hv : vp_in 0 130 := vp_in_nI (n := 0) (by decide) (by decide)
      have hlt := htop.2.2
      refine ⟨hv, b_eq' (k := 22) (by omega) (by decide) (fun e => He hno (hend.mp ⟨rfl, Or.inl e⟩) _ hF hR) (fun e22 => ⟨hv, b_eq' (k := 27) (by omega) (by decide) (fun e => He hno (hend.mp ⟨rfl, Or.inr (Or.inl e)⟩) _ hF hR) (fun e27 => ⟨hv, b_eq (k := 29) (by omega) (by decide) (fun e => He hno (hend.mp ⟨rfl, Or.inr (Or.inr e)⟩) _ hF hR) (fun e29 => no (fun z => ?_))⟩)⟩)⟩
      have := (hend.mpr z).2
      omega
    induction w with
    | zero =>
      intro p w0 w1 w2 w3 w4 w5 w6 w7 q1 q2 hno hF hR hS
      obtain rfl : p = n := by omega
      exact last _ _ _ _ _ _ _ _ _ hno hF hR hS
    | succ w ih =>
      intro p w0 w1 w2 w3 w4 w5 w6 w7 q1 q2 hno hF hR hS
      rcases Nat.lt_or_ge p n with q | q
      · have hno' : ¬ aBad k t p → ∀ j, j < p + 1 → ¬ aBad k t j := fun z j hj => by
          rcases Nat.lt_succ_iff_lt_or_eq.mp hj with r | r
          · exact hno j r
          · rw [r]; exact z
        exact r_jstep hk hs hn ht hx h4 hz q hno (hC p (by omega) hno) (fun z => hC (p + 1) (by omega) (hno' z)) hF hR hS (fun z v hv => Hb p v q hno z hv) (fun z w0 w1 w2 w3 w4 w5 w6 w7 a1 a2 a3 => ih (p + 1) w0 w1 w2 w3 w4 w5 w6 w7 (by omega) (by omega) (hno' z) a1 a2 a3)
      · obtain rfl : p = n := by omega
        exact last _ _ _ _ _ _ _ _ _ hno hF hR hS
  have go : ∀ q : Nat, sk k 0 0 1 = [q] → w_M_judge_41 post u2 u4 u5 (nI s) (nI q) 0 (moN u0, moM u0, 0, moW u0, moG u0, moS u0, moI u0) u3 u6 u7 u8 u9 u10 u11 := by
    intro q hq
    unfold w_M_judge_41
    rw [h10, h11, nI_clamp (by omega), show (0 : Int32).toNatClampNeg = 0 by decide]
    refine ⟨vp_in_nI (n := 0) (by decide) (by decide), vp_in_nI hs (by decide), n + 1, ?_⟩
    refine loop n 0 _ _ _ _ _ _ _ _ (by omega) (by omega) (fun j hj => absurd hj (by omega)) ⟨⟨rfl, rfl, rfl, rfl, rfl, rfl⟩, h3, h6, h7, h8, h9, rfl, rfl, fun _ _ => rfl, fun _ _ => rfl, fun _ _ => rfl, fun _ _ => rfl, fun _ _ => rfl, fun i hi => pk_un (by omega)⟩ ⟨fun j hj => absurd hj (by omega), ⟨h6, h7, rfl, pk_us, fun j hj => absurd hj (Nat.not_lt_zero _)⟩, fun j hj => absurd hj (Nat.not_lt_zero _)⟩ ⟨0, rfl, ?_⟩
    show Stk _ 0 (sk k 0 0 1)
    rw [hq]
    refine ⟨rfl, fun j hj => ?_⟩
    obtain rfl : j = 0 := by omega
    show upd (iaF u11) 0 (nI q) 0 = _
    rw [pk_us]
    rfl
  unfold wp_M_judge
  rw [h5, nI_clamp (by omega), hkd]
  refine ⟨vp_in_nI hs (by decide), b_eq (k := 0) (by omega) (by decide) (fun e => ?_) (fun e => ⟨vp_in_nI hs (by decide), b_eq (k := 1) (by omega) (by decide) (fun e1 => ?_) (fun e1 => ?_)⟩)⟩
  · exact go 20 (by subst e; decide)
  · exact go 23 (by subst e1; decide)
  · exact go 28 (by obtain rfl : k = 2 := by omega
                    decide)
