theorem m_ix (a s p : Nat) : nI a * nI s + nI p = nI (a * s + p) := by rw [pk_mul, nI_add]
theorem r_at {post : Int32 → Prop} {u : MoC} {v : IaC} {s p : Nat} (h1 : 120 * s + p < iaN v) (h2 : iaN v < 10000) (h : post (iaF v (120 * s + p))) : wp_M_at post u v (nI s) (nI p) := by
  unfold wp_M_at
  rw [show (120 : Int32) * nI s + nI p = nI (120 * s + p) from m_ix 120 s p, nI_clamp (by omega)]
  exact ⟨vp_in_nI h1 (by omega), h⟩
/-- two stretches of the reference's texts -/
def mSm (v : IaC) (s a b t c d : Nat) : Prop := b - a = d - c ∧ ∀ i, i < b - a → iaF v (120 * s + (a + i)) = iaF v (120 * t + (c + i))
theorem r_alikeNames {post : Int32 → Prop} {u : MoC} {v : IaC} {s a b t c d : Nat} (hab : a ≤ b) (hcd : c ≤ d) (h1 : 120 * s + b ≤ iaN v) (h2 : 120 * t + d ≤ iaN v) (hN : iaN v < 10000) (H1 : mSm v s a b t c d → post 1) (H0 : ¬ mSm v s a b t c d → post 0) : wp_M_alikeNames post u v (nI s) (nI a) (nI b) (nI t) (nI c) (nI d) := by
  unfold wp_M_alikeNames
  rw [pk_sub hab, pk_sub hcd]
  refine b_eq' (by omega) (by omega) (fun e => ?_) (fun e => H0 (fun z => e z.1))
  have loop : ∀ (w j : Nat), b - a - j ≤ w → j ≤ b - a → (∀ i, i < j → iaF v (120 * s + (a + i)) = iaF v (120 * t + (c + i))) → w_M_alikeNames_16 post u v (w + 1) (nI s) (nI a) (nI b) (nI t) (nI c) (nI j) := by
    intro w
    induction w with
    | zero =>
      intro j q1 q2 q3
      refine ⟨fun _ => H1 ⟨e, fun i hi => q3 i (by omega)⟩, fun z => absurd ?_ z⟩
      rw [pk_sub hab]
      exact nI_le (by omega) (by omega)
    | succ w ih =>
      intro j q1 q2 q3
      refine ⟨fun z => H1 ⟨e, fun i hi => q3 i ?_⟩, fun z => ?_⟩
      · rw [pk_sub hab] at z
        have := (nI_leI (by omega) (by omega)).mp z
        omega
      · rw [pk_sub hab] at z
        have hj : j < b - a := by
          rcases Nat.lt_or_ge j (b - a) with r | r
          · exact r
          · exact absurd (nI_le r (by omega)) z
        rw [nI_add, nI_add]
        refine r_at (by omega) hN (r_at (by omega) hN ⟨fun y => ?_, fun y => H0 (fun z => y (z.2 j hj))⟩)
        rw [nI_1]
        refine ih (j + 1) (by omega) (by omega) (fun i hi => ?_)
        rcases Nat.lt_succ_iff_lt_or_eq.mp hi with r | r
        · exact q3 i r
        · rw [r]; exact y
  exact ⟨_, loop (b - a) 0 (by omega) (by omega) (fun i hi => absurd hi (by omega))⟩
/-- what the reference holds of slot s behind p characters: its text, its names -/
def MoT (tx : IaC) (t : Nat → Nat) (s n : Nat) : Prop := iaN tx = 3000 ∧ ∀ j, j < n → iaF tx (120 * s + j) = nI (t j) ∧ t j < 128
def MoN (pf pt pa : IaC) (k : Nat) (t : Nat → Nat) (s p : Nat) : Prop := iaN pf = 500 ∧ iaN pt = 500 ∧ iaN pa = 25 ∧ iaF pa s = nI (aC k t p) ∧ ∀ j, j < aC k t p → iaF pf (20 * s + j) = nI (aB k t p j) ∧ iaF pt (20 * s + j) = nI (aE k t p j)
theorem r_twice {post : Int32 → Prop} {u : MoC} {tx pf pt pa : IaC} {k : Nat} {t : Nat → Nat} {s n p : Nat} (hs : s < 25) (hn : n ≤ 120) (hpn : p ≤ n) (hx : MoT tx t s n) (hm : MoN pf pt pa k t s p) (hc0 : 0 < aC k t p) (hc : aC k t p ≤ 20) (H1 : aTk k t p → post 1) (H0 : ¬ aTk k t p → post 0) : wp_M_twice post u tx pf pt pa (nI s) := by
  obtain ⟨x1, x2⟩ := hx
  obtain ⟨m1, m2, m3, m4, m5⟩ := hm
  obtain ⟨m, em⟩ : ∃ m, aC k t p = m + 1 := ⟨aC k t p - 1, by omega⟩
  have same : ∀ a, a < m + 1 → (mSm tx s (aB k t p a) (aE k t p a) s (aB k t p m) (aE k t p m) ↔ aSm k t p a m) := by
    intro a ha
    obtain ⟨q1, q2⟩ := (aBE k t p).1 a (by omega)
    obtain ⟨q3, q4⟩ := (aBE k t p).1 m (by omega)
    unfold mSm aSm
    constructor
    · intro ⟨z1, z2⟩
      refine ⟨z1, fun i hi => ?_⟩
      have := z2 i hi
      rw [(x2 (aB k t p a + i) (by omega)).1, (x2 (aB k t p m + i) (by omega)).1] at this
      have w1 := (x2 (aB k t p a + i) (by omega)).2
      have w2 := (x2 (aB k t p m + i) (by omega)).2
      exact (nI_eq (by omega) (by omega)).mp this
    · intro ⟨z1, z2⟩
      refine ⟨z1, fun i hi => ?_⟩
      rw [(x2 (aB k t p a + i) (by omega)).1, (x2 (aB k t p m + i) (by omega)).1, z2 i hi]
  have ep : aC k t p - 1 = m := by omega
  have none : (∀ a, a < m → ¬ aSm k t p a m) → post 0 := fun z => H0 (fun ⟨a, q1, q2⟩ => z a (by omega) (by rw [ep] at q2; exact q2))
  have loop : ∀ (w j : Nat), m - j ≤ w → j ≤ m → (∀ a, a < j → ¬ aSm k t p a m) → w_M_twice_19 post u tx pf pt pa (w + 1) (nI s) (nI (20 * s + m)) (nI (20 * s + j)) := by
    intro w
    induction w with
    | zero =>
      intro j q1 q2 q3
      exact ⟨fun _ => none (fun a ha => q3 a (by omega)), fun z => absurd (nI_le (by omega) (by omega)) z⟩
    | succ w ih =>
      intro j q1 q2 q3
      refine ⟨fun z => none (fun a ha => q3 a ?_), fun z => ?_⟩
      · have := (nI_leI (by omega) (by omega)).mp z
        omega
      · have hj : j < m := by
          rcases Nat.lt_or_ge j m with r | r
          · exact r
          · exact absurd (nI_le (by omega) (by omega)) z
        obtain ⟨q4, q5⟩ := (aBE k t p).1 j (by omega)
        obtain ⟨q6, q7⟩ := (aBE k t p).1 m (by omega)
        rw [m1, m2, nI_clamp (by omega), nI_clamp (by omega), (m5 j (by omega)).1, (m5 j (by omega)).2, (m5 m (by omega)).1, (m5 m (by omega)).2]
        refine ⟨vp_in_nI (by omega) (by decide), vp_in_nI (by omega) (by decide), vp_in_nI (by omega) (by decide), vp_in_nI (by omega) (by decide), ?_⟩
        refine r_alikeNames (by omega) (by omega) (by omega) (by omega) (by omega) (fun y => ⟨fun y2 => absurd y2 (by decide), fun _ => H1 ⟨j, by omega, by rw [ep]; exact (same j (by omega)).mp y⟩⟩) (fun y => ⟨fun _ => ?_, fun y2 => absurd rfl y2⟩)
        rw [nI_1]
        refine ih (j + 1) (by omega) (by omega) (fun a ha => ?_)
        rcases Nat.lt_succ_iff_lt_or_eq.mp ha with r | r
        · exact q3 a r
        · rw [r]; exact fun z => y ((same j (by omega)).mpr z)
  unfold wp_M_twice
  rw [m3, nI_clamp (by omega), m4, em, show (20 : Int32) * nI s + nI (m + 1) = nI (20 * s + (m + 1)) from m_ix 20 s (m + 1), show 20 * s + (m + 1) = (20 * s + m) + 1 by omega, nI_pred, show (20 : Int32) * nI s = nI (20 * s + 0) from pk_mul 20 s]
  exact ⟨vp_in_nI hs (by decide), _, loop m 0 (by omega) (by omega) (fun a ha => absurd ha (by omega))⟩
