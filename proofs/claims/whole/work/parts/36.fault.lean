/-- a row that holds the text t of n characters -/
def TxI (u : RowC) (t : Nat → Nat) (n : Nat) : Prop := rwS u = nI n ∧ n ≤ rwN u ∧ rwN u < 1000 ∧ ∀ j, j < n → rwF u j = nI (t j) ∧ t j < 128
theorem r_sameLoop {post : Int32 → Prop} {u : RdC} {v : RowC} {t : Nat → Nat} {n a b x y m : Nat} (hv : TxI v t n) (hN : rdN u = 120) (ha : a < 120) (hb : b < 120) (hx : rdB u a = nI x) (hy : rdB u b = nI y) (hxm : x + m ≤ n) (hym : y + m ≤ n)
    (h1 : (∀ i, i < m → t (x + i) = t (y + i)) → post 1) (h0 : ¬ (∀ i, i < m → t (x + i) = t (y + i)) → post 0) :
    ∀ (w j : Nat), m - j ≤ w → j ≤ m → (∀ i, i < j → t (x + i) = t (y + i)) → w_Rd_sameName_38 post u v (w + 1) (nI a) (nI b) (nI m) (nI j) := by
  obtain ⟨e1, e2, e3, e4⟩ := hv
  intro w
  induction w with
  | zero =>
    intro j q1 q2 q3
    exact ⟨fun _ => h1 (fun i hi => q3 i (by omega)), fun z => absurd (nI_le (by omega) (by omega)) z⟩
  | succ w ih =>
    intro j q1 q2 q3
    refine ⟨fun z => h1 (fun i hi => q3 i ?_), fun z => ?_⟩
    · have := (nI_leI (by omega) (by omega)).mp z
      omega
    · have hj : j < m := by
        rcases Nat.lt_or_ge j m with r | r
        · exact r
        · exact absurd (nI_le r (by omega)) z
      rw [hN, nI_clamp (by omega), nI_clamp (by omega), hx, hy, nI_add, nI_add, nI_clamp (by omega), nI_clamp (by omega)]
      refine ⟨vp_in_nI ha (by decide), vp_in_nI (by omega) (by omega), vp_in_nI hb (by decide), vp_in_nI (by omega) (by omega), ?_⟩
      obtain ⟨g1, g2⟩ := e4 (x + j) (by omega)
      obtain ⟨g3, g4⟩ := e4 (y + j) (by omega)
      rw [g1, g3]
      refine b_eq' (by omega) (by omega) (fun e => ?_) (fun e => h0 (fun z => e (z j hj)))
      rw [nI_1]
      refine ih (j + 1) (by omega) (by omega) (fun i hi => ?_)
      rcases Nat.lt_succ_iff_lt_or_eq.mp hi with r | r
      · exact q3 i r
      · rw [r]; exact e
/-- the names a and b are the same -/
def aSm (k : Nat) (t : Nat → Nat) (p a b : Nat) : Prop := aE k t p a - aB k t p a = aE k t p b - aB k t p b ∧ ∀ i, i < aE k t p a - aB k t p a → t (aB k t p a + i) = t (aB k t p b + i)
theorem r_sameName {post : Int32 → Prop} {u : RdC} {v : RowC} {k : Nat} {t : Nat → Nat} {n p a b : Nat} (hI : RdI u k t p) (hv : TxI v t n) (hpn : p ≤ n) (hp : p ≤ 120) (ha : a < aC k t p) (hb : b < aC k t p) (h1 : aSm k t p a b → post 1) (h0 : ¬ aSm k t p a b → post 0) : wp_Rd_sameName post u v (nI a) (nI b) := by
  obtain ⟨g0, -, -, -, hN⟩ := hI
  have hc := aC_le k t p
  obtain ⟨q1, q2⟩ := (aBE k t p).1 a ha
  obtain ⟨q3, q4⟩ := (aBE k t p).1 b hb
  obtain ⟨x1, x2⟩ := hN a ha
  obtain ⟨y1, y2⟩ := hN b hb
  unfold wp_Rd_sameName
  rw [g0, nI_clamp (by omega), nI_clamp (by omega), x1, x2, y1, y2, pk_sub (by omega), pk_sub (by omega)]
  refine ⟨vp_in_nI (by omega) (by decide), vp_in_nI (by omega) (by decide), vp_in_nI (by omega) (by decide), vp_in_nI (by omega) (by decide), b_eq' (by omega) (by omega) (fun e => ?_) (fun e => h0 (fun z => e z.1))⟩
  refine ⟨_, r_sameLoop hv g0 (by omega) (by omega) x1 y1 (by omega) (by omega) (fun z => h1 ⟨e, z⟩) (fun z => h0 (fun w => z w.2)) (aE k t p a - aB k t p a) 0 (by omega) (by omega) (fun i hi => absurd hi (by omega))⟩
/-- the last name is taken -/
def aTk (k : Nat) (t : Nat → Nat) (p : Nat) : Prop := ∃ a, a + 1 < aC k t p ∧ aSm k t p a (aC k t p - 1)
theorem r_takenLoop {post : Int32 → Prop} {u : RdC} {v : RowC} {k : Nat} {t : Nat → Nat} {n p : Nat} (hI : RdI u k t p) (hv : TxI v t n) (hpn : p ≤ n) (hp : p ≤ 120) (hc0 : 0 < aC k t p) (h1 : aTk k t p → post 1) (h0 : ¬ aTk k t p → post 0) :
    ∀ (w j : Nat), aC k t p - 1 - j ≤ w → j ≤ aC k t p - 1 → (∀ a, a < j → ¬ aSm k t p a (aC k t p - 1)) → w_Rd_nameIsTaken_2 post u v (w + 1) (nI j) := by
  have hcp := aC_le k t p
  obtain ⟨m, hm⟩ : ∃ m, aC k t p = m + 1 := ⟨aC k t p - 1, by omega⟩
  have hc := hI.2.2.1
  have e1 : rdC u - 1 = nI m := by rw [hc, hm, nI_pred]
  have em : aC k t p - 1 = m := by omega
  rw [em]
  have none : (∀ a, a < m → ¬ aSm k t p a m) → post 0 := fun z => h0 (fun ⟨a, q1, q2⟩ => z a (by omega) (by rw [em] at q2; exact q2))
  intro w
  induction w with
  | zero =>
    intro j q1 q2 q3
    refine ⟨fun _ => none (fun a ha => q3 a (by omega)), fun z => absurd ?_ z⟩
    rw [e1]
    exact nI_le (by omega) (by omega)
  | succ w ih =>
    intro j q1 q2 q3
    refine ⟨fun z => none (fun a ha => q3 a ?_), fun z => ?_⟩
    · rw [e1] at z
      have := (nI_leI (by omega) (by omega)).mp z
      omega
    · rw [e1] at z ⊢
      have hj : j < m := by
        rcases Nat.lt_or_ge j m with r | r
        · exact r
        · exact absurd (nI_le r (by omega)) z
      refine r_sameName hI hv hpn hp (by omega) (by omega) (fun s => ⟨fun y => absurd y (by decide), fun _ => h1 ⟨j, by omega, by rw [em]; exact s⟩⟩) (fun s => ⟨fun _ => ?_, fun y => absurd rfl y⟩)
      rw [nI_1]
      refine ih (j + 1) (by omega) (by omega) (fun a ha => ?_)
      rcases Nat.lt_succ_iff_lt_or_eq.mp ha with r | r
      · exact q3 a r
      · rw [r]; exact s
theorem r_nameIsTaken {post : Int32 → Prop} {u : RdC} {v : RowC} {k : Nat} {t : Nat → Nat} {n p : Nat} (hI : RdI u k t p) (hv : TxI v t n) (hpn : p ≤ n) (hp : p ≤ 120) (hc0 : 0 < aC k t p) (h1 : aTk k t p → post 1) (h0 : ¬ aTk k t p → post 0) : wp_Rd_nameIsTaken post u v :=
  ⟨_, r_takenLoop hI hv hpn hp hc0 h1 h0 (aC k t p - 1) 0 (by omega) (by omega) (fun a ha => absurd ha (by omega))⟩
/-- the text may end here -/
def aEnd (k : Nat) (t : Nat → Nat) (p : Nat) : Prop := ((aS k t p).2.2 = 3 ∨ (aS k t p).2.2 = 1 ∧ k ≠ 1) ∧ (aS k t p).2.1 = 0 ∧ ((aS k t p).1 = 14 ∨ (aS k t p).1 = 8 ∨ (aS k t p).1 = 20 ∨ (aS k t p).1 = 21 ∨ (aS k t p).1 = 17)
theorem r_mayEnd {post : Int32 → Prop} {u : RdC} {k : Nat} {t : Nat → Nat} {p : Nat} (hI : RdI u k t p) (h1 : aEnd k t p → post 1) (h0 : ¬ aEnd k t p → post 0) : wp_Rd_mayEnd post u := by
  obtain ⟨-, ⟨g1, g2, g3, g4, g5, g6, g7, g8⟩, -⟩ := hI
  have fin : ((aS k t p).2.2 = 3 ∨ (aS k t p).2.2 = 1 ∧ k ≠ 1) → w_Rd_mayEnd_24 post u := by
    intro hc
    unfold w_Rd_mayEnd_24 w_Rd_mayEnd_29
    rw [g3, g2]
    refine ⟨fun z => absurd z (by decide), fun _ => b_eq (k := 0) (by omega) (by decide) (fun e => r_endsItem (by omega) ?_) (fun e => h0 (fun z => e z.2.1))⟩
    by_cases he : (aS k t p).1 = 14 ∨ (aS k t p).1 = 8 ∨ (aS k t p).1 = 20 ∨ (aS k t p).1 = 21 ∨ (aS k t p).1 = 17
    · rw [if_pos he]
      exact ⟨fun z => absurd z (by decide), fun _ => h1 ⟨hc, e, he⟩⟩
    · rw [if_neg he]
      exact ⟨fun _ => h0 (fun z => he z.2.2), fun z => absurd rfl z⟩
  have bad : ¬ ((aS k t p).2.2 = 3 ∨ (aS k t p).2.2 = 1 ∧ k ≠ 1) → w_Rd_mayEnd_28 post u := fun hc => ⟨fun _ => h0 (fun z => hc z.1), fun z => absurd rfl z⟩
  unfold wp_Rd_mayEnd
  rw [g4, g1]
  exact b_eq' (k := 3) (by omega) (by decide) (fun e => fin (Or.inl e)) (fun e => b_eq (k := 1) (by omega) (by decide) (fun e2 => b_eq' (k := 1) (by omega) (by decide) (fun e3 => bad (fun z => z.elim e (fun w => w.2 e3))) (fun e3 => fin (Or.inr ⟨e2, e3⟩))) (fun e2 => bad (fun z => z.elim e (fun w => e2 w.1))))
