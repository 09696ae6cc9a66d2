/-- the reference sees a bound begin -/
def mBg (r q T p rp : Nat) : Prop := r ≤ 3 ∧ (q = 16 ∧ T = 1 ∨ q = 2 ∧ T = 2 ∧ 0 < p ∧ rp = 19)
theorem r_j186 {post : Int32 → (MoC × IaC × IaC × IaC × IaC × IaC × IaC × IaC) → Prop} {u2 u4 u5 : IaC} {K0 : Int32 → Int32 → MoC → IaC → IaC → IaC → IaC → IaC → IaC → IaC → Prop} {w0 : MoC} {w1 w2 w3 w4 w5 w6 w7 : IaC} {s p T q r m rp : Nat}
    (hs : s < 25) (hp : p < 120) (hT : T < 130) (hq : q < 30) (hr : r < 25) (hm : m ≤ 20) (h1 : iaN w1 = 3000) (h4 : iaN w4 = 500) (h5 : iaN w5 = 500) (hrole : 0 < p → iaF w1 (120 * s + (p - 1)) = nI rp) (hrp : rp < 25) (hb : mBg r q T p rp → 0 < m)
    (H0 : ¬ mBg r q T p rp → K0 (nI s) (nI (p + 1)) w0 w1 w2 w3 w4 w5 w6 w7)
    (H1 : mBg r q T p rp → 0 ≤ iaF w4 (20 * s + (m - 1)) → K0 (nI s) (nI (p + 1)) w0 w1 w2 w3 w4 (iaN w5, upd (iaF w5) (20 * s + (m - 1)) (iaF w5 (20 * s + (m - 1)) + 1)) w6 w7)
    (H2 : mBg r q T p rp → ¬ 0 ≤ iaF w4 (20 * s + (m - 1)) → K0 (nI s) (nI (p + 1)) w0 w1 w2 w3 (iaN w4, upd (iaF w4) (20 * s + (m - 1)) (nI p)) (iaN w5, upd (iaF w5) (20 * s + (m - 1)) (iaF w5 (20 * s + (m - 1)) + 1)) w6 w7) :
    w_M_judge_186 post u2 u4 u5 K0 (nI s) (nI p) (nI T) (nI q) (nI r) (nI (20 * s + m)) w0 w1 w2 w3 w4 w5 w6 w7 := by
  have r241 : ¬ mBg r q T p rp → w_M_judge_241 post u2 u4 u5 K0 (nI s) (nI p) (nI (20 * s + m)) w0 w1 w2 w3 w4 w5 w6 w7 := by
    intro z
    refine ⟨fun y => absurd rfl y, fun _ => ?_⟩
    unfold w_M_judge_287
    rw [nI_1]
    exact H0 z
  have r237 : mBg r q T p rp → w_M_judge_237 post u2 u4 u5 K0 (nI s) (nI p) (nI (20 * s + m)) w0 w1 w2 w3 w4 w5 w6 w7 := by
    intro z
    have hm0 := hb z
    obtain ⟨m', rfl⟩ : ∃ m', m = m' + 1 := ⟨m - 1, by omega⟩
    have e : nI (20 * s + (m' + 1)) - 1 = nI (20 * s + m') := by rw [show 20 * s + (m' + 1) = (20 * s + m') + 1 by omega, nI_pred]
    simp only [Nat.add_sub_cancel] at H1 H2
    unfold w_M_judge_237 w_M_judge_242 w_M_judge_274 w_M_judge_287
    dsimp only [iaN, iaF] at H1 H2 h4 h5 ⊢
    rw [e, nI_clamp (by omega), h4, h5, nI_1]
    rw [h4, h5] at H2
    rw [h5] at H1
    exact ⟨fun _ => ⟨vp_in_nI (by omega) (by decide), fun y => ⟨vp_in_nI (by omega) (by decide), vp_in_nI (by omega) (by decide), H1 z y⟩, fun y => ⟨vp_in_nI (by omega) (by decide), vp_in_nI (by omega) (by decide), vp_in_nI (by omega) (by decide), H2 z y⟩⟩, fun y => absurd y (by decide)⟩
  have r204 : r ≤ 3 → ¬ (q = 16 ∧ T = 1) → w_M_judge_204 post u2 u4 u5 K0 (nI s) (nI p) (nI T) (nI q) (nI (20 * s + m)) w0 w1 w2 w3 w4 w5 w6 w7 := by
    intro a1 a2
    refine b_eq (k := 2) (by omega) (by decide) (fun e => b_eq (k := 2) (by omega) (by decide) (fun e2 => b_le (a := 0) (q := p) (by decide) (by omega) (fun z => ?_) (fun z => ?_)) (fun e2 => r241 (fun w => w.2.elim a2 (fun y => e2 y.2.1)))) (fun e => r241 (fun w => w.2.elim a2 (fun y => e y.1)))
    · exact r241 (fun w => w.2.elim a2 (fun y => by omega))
    · obtain ⟨p', rfl⟩ : ∃ p', p = p' + 1 := ⟨p - 1, by omega⟩
      have hx := hrole (by omega)
      simp only [Nat.add_sub_cancel] at hx
      have e3 : (120 : Int32) * nI s + nI (p' + 1) - 1 = nI (120 * s + p') := by
        rw [show (120 : Int32) * nI s + nI (p' + 1) = nI (120 * s + (p' + 1)) from m_ix 120 s (p' + 1), show 120 * s + (p' + 1) = (120 * s + p') + 1 by omega, nI_pred]
      rw [e3, nI_clamp (by omega), h1, hx]
      exact ⟨vp_in_nI (by omega) (by decide), b_eq (k := 19) (by omega) (by decide) (fun e4 => r237 ⟨a1, Or.inr ⟨e, e2, z, e4⟩⟩) (fun e4 => r241 (fun w => w.2.elim a2 (fun y => e4 y.2.2.2)))⟩
  exact b_lt (a := 3) (by decide) (by omega) (fun z => r241 (fun w => by have := w.1; omega)) (fun z => b_eq (k := 16) (by omega) (by decide) (fun e => b_eq' (k := 1) (by omega) (by decide) (fun e2 => r237 ⟨z, Or.inl ⟨e, e2⟩⟩) (fun e2 => r204 z (fun w => e2 w.2))) (fun e => r204 z (fun w => e w.1)))
