/-! SHOWN: the reference -/
def eM (k : Nat) (t : Nat → Nat) (n p : Nat) : List Nat :=
  if aR k t p = 3 then (if gR k t n (p + 1) = 9 ∨ gR k t n (p + 1) = 6 ∨ gR k t n (p + 1) = 19 then [58] else [])
  else if aR k t p = 4 then (if (aS k t p).1 = 3 then [58] else [38])
  else eL k t n p
def shM (k : Nat) (t : Nat → Nat) (n : Nat) : Nat → List Nat
  | 0 => []
  | p + 1 => shM k t n p ++ eP k t p ++ eM k t n p
theorem shM_shO (k : Nat) (t : Nat → Nat) (n : Nat) : ∀ p, p ≤ n → shO k t n p = shM k t n p ++ (if (aS k t p).1 = 3 ∧ gR k t n p = 4 then [58] else [])
  | 0, _ => by simp [shO, shM, aS]
  | p + 1, hp => by
    have ih := shM_shO k t n p (by omega)
    have e1 : shO k t n (p + 1) = shO k t n p ++ eP k t p ++ eL k t n p := rfl
    have e2 : shM k t n (p + 1) = shM k t n p ++ eP k t p ++ eM k t n p := rfl
    rw [e1, e2, ih, aS_succ]
    dsimp only
    rw [gR_in (show p < n by omega)]
    by_cases c : (aS k t p).1 = 3 ∧ aR k t p = 4
    · obtain ⟨c1, c2⟩ := c
      have a1 : eP k t p = [] := by unfold eP prt; simp [c1, c2]
      have a2 : eL k t n p = [] := by unfold eL; simp [c1, c2]
      have a3 : eM k t n p = [58] := by unfold eM; simp [c1, c2]
      rw [a1, a2, a3]
      simp [c1, c2]
    · rw [if_neg c]
      by_cases r3 : aR k t p = 3
      · by_cases r4 : gR k t n (p + 1) = 4
        · have a2 : eL k t n p = [58] := by unfold eL; simp [r3, r4]
          have a3 : eM k t n p = [] := by unfold eM; simp [r3, r4]
          rw [a2, a3]
          simp [r3, r4]
        · have a2 : eL k t n p = eM k t n p := by unfold eL eM; simp [r3, r4]
          rw [a2]
          simp [r4]
      · have a2 : eL k t n p = eM k t n p := by
          unfold eM
          rw [if_neg r3]
          by_cases r4 : aR k t p = 4
          · rw [if_pos r4, if_neg (fun z => c ⟨z, r4⟩)]
            unfold eL
            rw [if_neg r3, if_pos r4, if_neg (fun z => c ⟨z, r4⟩)]
          · rw [if_neg r4]
        rw [a2]
        simp [r3]
theorem shM_len (k : Nat) (t : Nat → Nat) (n p : Nat) (hp : p ≤ n) : (shM k t n p).length ≤ 10 * p := by
  have h1 := shO_len k t n p
  have h2 := congrArg List.length (shM_shO k t n p hp)
  rw [List.length_append] at h2
  omega
theorem shM_end {k : Nat} {t : Nat → Nat} {n : Nat} (hg : Gd k t n) : shM k t n n = shO k t n n := by
  have h2 := shM_shO k t n n (Nat.le_refl n)
  rw [if_neg (fun z => by rw [gR_out (Nat.le_refl n)] at z; exact absurd z.2 (by decide)), List.append_nil] at h2
  exact h2.symm
/-- within a CLASS at its own depth -/
def inC (l : Nat) : Bool := l == 9 || l == 10 || l == 11 || l == 12 || l == 13 || l == 16
def stC (k l x : Nat) (dp : Bool) (c r : Nat) : Bool :=
  r == 0 || ((inC l == (r == 10 || r == 11 || r == 12 || r == 13 || r == 14 || r == 15)) && (if r == 1 || r == 2 || r == 3 || r == 4 || r == 5 || r == 17 || r == 18 || r == 22 || r == 23 || r == 24 || r == 16 || r == 21 then l != 19 && l != 6 && l != 7 else true))
theorem stC_all : pAll 3 (fun k => pAll 4 (fun x => pAll 25 (fun l => pAll 127 (fun c => stQ stC k x l c)))) = true := by decide +kernel
/-- parting: where -/
def stD (k l x : Nat) (dp : Bool) (c r : Nat) : Bool :=
  r == 0 || (if (l == 14 || l == 8 || l == 20 || l == 21 || l == 17) && (r == 9 || r == 6 || r == 19 || r == 20 || r == 17 || r == 18) then l != 21 && (dp || (x != 0 && k != 2)) else true) && (if k == 0 && !dp && l == 14 && x != 0 then r == 9 else true)
theorem stD_all : pAll 3 (fun k => pAll 4 (fun x => pAll 25 (fun l => pAll 127 (fun c => stQ stD k x l c)))) = true := by decide +kernel
def inT (l : Nat) : Bool := l == 0 || l == 5 || l == 9 || l == 10 || l == 11 || l == 12 || l == 13 || l == 14 || l == 16
def stE (k l x : Nat) (dp : Bool) (c r : Nat) : Bool := r == 0 || !(k == 0 && x != 0 && !dp && inT l) || inT r || r == 1 || r == 15
theorem stE_all : pAll 3 (fun k => pAll 4 (fun x => pAll 25 (fun l => pAll 127 (fun c => stQ stE k x l c)))) = true := by decide +kernel
/-- in the body of a class nothing but classes stands at the top -/
theorem topT {k : Nat} {t : Nat → Nat} {n : Nat} (hg : Gd k t n) (hk : k = 0) : ∀ p, p ≤ n → (aS k t p).2.1 = 0 → (aS k t p).2.2 ≠ 0 → inT (aS k t p).1 = true
  | 0, _ => fun _ _ => rfl
  | p + 1, hp => by
    intro z1 z2
    have ih := topT hg hk p (by omega)
    have el : (aS k t (p + 1)).1 = aR k t p := by rw [aS_succ]
    rw [el]
    have h0 := hg.r0 (p := p) (by omega)
    have hx := sec_next (k := k) (t := t) (p := p)
    by_cases r16 : aR k t p = 16
    · rw [r16]; decide
    · by_cases r5 : aR k t p = 5
      · rw [r5]; decide
      · have r15 : aR k t p ≠ 15 := fun z => by rw [dep_15 z] at z1; omega
        have r1 : aR k t p ≠ 1 := fun z => by rw [if_pos z] at hx; exact z2 hx
        rw [dep_no r15 r16] at z1
        rw [if_neg r1, if_neg r5] at hx
        have hx0 : (aS k t p).2.2 ≠ 0 := by
          intro z
          have : aR k t p ≠ 22 ∧ aR k t p ≠ 23 := by
            have c := st_all (fun k l x dp c r => if x = 0 then r != 22 && r != 23 else true) (by decide +kernel) hg (show p < n by omega)
            simpa [z] using c
          rw [if_neg this.1, if_neg this.2] at hx
          exact z2 (hx.trans z)
        have hl := ih z1 hx0
        have c := st_all _ stE_all hg (show p < n by omega)
        unfold stE at c
        simp only [Bool.or_eq_true, beq_iff_eq, Bool.not_eq_true', Bool.and_eq_false_iff] at c
        rcases c with (((c | c) | c) | c) | c
        · exact absurd c h0
        · exfalso
          rcases c with ((c | c) | c) | c
          · simp [hk] at c
          · simp [hx0] at c
          · simp [z1] at c
          · rw [hl] at c; cases c
        · exact c
        · exact absurd c r1
        · exact absurd c r15
theorem stC_of {k : Nat} {t : Nat → Nat} {n p : Nat} (hg : Gd k t n) (hp : p < n) : (inC (aS k t p).1 = true ↔ aR k t p = 10 ∨ aR k t p = 11 ∨ aR k t p = 12 ∨ aR k t p = 13 ∨ aR k t p = 14 ∨ aR k t p = 15) ∧ (aR k t p = 1 ∨ aR k t p = 2 ∨ aR k t p = 3 ∨ aR k t p = 4 ∨ aR k t p = 5 ∨ aR k t p = 17 ∨ aR k t p = 18 ∨ aR k t p = 22 ∨ aR k t p = 23 ∨ aR k t p = 24 ∨ aR k t p = 16 ∨ aR k t p = 21 → (aS k t p).1 ≠ 19 ∧ (aS k t p).1 ≠ 6 ∧ (aS k t p).1 ≠ 7) := by
  have c := st_all _ stC_all hg hp
  have h0 := hg.r0 hp
  unfold stC at c
  simp only [Bool.or_eq_true, Bool.and_eq_true, beq_iff_eq] at c
  rcases c with c | ⟨c1, c2⟩
  · exact absurd c h0
  · constructor
    · rw [c1]
      simp only [Bool.or_eq_true, beq_iff_eq]
      omega
    · intro z
      rw [if_pos (by omega)] at c2
      simp only [Bool.and_eq_true, bne_iff_ne] at c2
      omega
theorem stD_of {k : Nat} {t : Nat → Nat} {n p : Nat} (hg : Gd k t n) (hp : p < n) : (prt k t p = true → (aS k t p).1 ≠ 21 ∧ ((aS k t p).2.1 = 0 → (aS k t p).2.2 ≠ 0 ∧ k ≠ 2 ∧ (k = 1 ∨ (aS k t p).1 = 14))) ∧ (k = 0 → (aS k t p).2.1 = 0 → (aS k t p).1 = 14 → (aS k t p).2.2 ≠ 0 → aR k t p = 9) := by
  have c := st_all _ stD_all hg hp
  have h0 := hg.r0 hp
  unfold stD at c
  simp only [Bool.or_eq_true, Bool.and_eq_true, beq_iff_eq] at c
  rcases c with c | ⟨c1, c2⟩
  · exact absurd c h0
  · constructor
    · intro z
      simp only [prt, Bool.and_eq_true, Bool.or_eq_true, beq_iff_eq] at z
      rw [if_pos z] at c1
      simp only [Bool.and_eq_true, bne_iff_ne, Bool.or_eq_true, decide_eq_true_eq, beq_iff_eq] at c1
      refine ⟨c1.1, fun hd => ?_⟩
      have a : (aS k t p).2.2 ≠ 0 ∧ k ≠ 2 := by omega
      refine ⟨a.1, a.2, ?_⟩
      rcases (by have := hg.1; omega : k = 1 ∨ k = 0) with q | q
      · exact Or.inl q
      · have := topT hg q p (by omega) hd a.1
        simp only [inT, Bool.or_eq_true, beq_iff_eq] at this
        omega
    · intro z1 z2 z3 z4
      rw [if_pos ⟨⟨⟨z1, by simp [z2]⟩, z3⟩, by simp [z4]⟩] at c2
      simpa using c2
/-- what waits is nothing but behind brackets, in a variable and in a class -/
theorem wt_0 {k : Nat} {t : Nat → Nat} {n : Nat} (hg : Gd k t n) : ∀ p, p ≤ n → inC (aS k t p).1 = false → (aS k t p).1 ≠ 19 → (aS k t p).1 ≠ 6 → (aS k t p).1 ≠ 7 → wt k t p (aS k t p).2.1 = 0
  | 0, _ => fun _ _ _ _ => rfl
  | p + 1, hp => by
    intro z1 z2 z3 z4
    have ih := wt_0 hg p (by omega)
    obtain ⟨s1, s2⟩ := stC_of hg (p := p) (by omega)
    have hr := aR_lt k t p
    have h0 := hg.r0 (p := p) (by omega)
    have el : (aS k t (p + 1)).1 = aR k t p := by rw [aS_succ]
    rw [el] at z1 z2 z3 z4
    have nc : ¬ (aR k t p = 9 ∨ aR k t p = 10 ∨ aR k t p = 11 ∨ aR k t p = 12 ∨ aR k t p = 13 ∨ aR k t p = 16) := by
      intro z
      have : inC (aR k t p) = true := by simp only [inC, Bool.or_eq_true, beq_iff_eq]; omega
      rw [this] at z1; cases z1
    rw [wt_next, if_neg (fun z => z2 z.1)]
    by_cases rr : aR k t p = 8 ∨ aR k t p = 14 ∨ aR k t p = 20 ∨ aR k t p = 21
    · rw [if_pos ⟨rr, dep_no (by omega) (by omega)⟩]
    · rw [if_neg (fun z => rr z.1)]
      by_cases r15 : aR k t p = 15
      · rw [if_pos ⟨r15, dep_15 r15⟩]
      · rw [if_neg (fun z => r15 z.1), dep_no r15 (by omega)]
        have hq := s2 (by omega)
        refine ih ?_ hq.1 hq.2.1 hq.2.2
        cases e : inC (aS k t p).1
        · rfl
        · have := s1.mp e
          omega
/-- how many classes of the body have ended -/
def cl (k : Nat) (t : Nat → Nat) (n : Nat) : Nat → Nat
  | 0 => 0
  | p + 1 => if aR k t p = 14 ∧ (aS k t p).2.1 = 0 ∧ aO k t n ≤ p then cl k t n p + 1 else cl k t n p
theorem aO_le (k : Nat) (t : Nat → Nat) : ∀ p, aO k t p ≤ p
  | 0 => Nat.le_refl 0
  | p + 1 => by have := aO_le k t p; unfold aO; split <;> omega
theorem body_x {k : Nat} {t : Nat → Nat} {n p : Nat} (hg : Gd k t n) (hp : p ≤ n) (h0 : 0 < p) (hx : (aS k t p).2.2 ≠ 0) : aO k t n ≤ p := by
  have : ∀ q, p ≤ q → q ≤ n → (aS k t q).2.2 ≠ 0 ∧ aO k t q = aO k t p := by
    intro q h1
    induction h1 with
    | refl => intro _; exact ⟨hx, rfl⟩
    | @step q h1 ih =>
      intro h2
      obtain ⟨i1, i2⟩ := ih (by omega)
      have h1' : p ≤ q := h1
      obtain ⟨s1, s2, -⟩ := stX_of hg (p := q) (by omega)
      have r1 : aR k t q ≠ 1 := fun z => by have := l_0 hg (by omega) (s1 z); omega
      have r5 : aR k t q ≠ 5 := fun z => i1 (s2 (Or.inl z)).1
      refine ⟨?_, ?_⟩
      · rw [sec_next, if_neg r1, if_neg r5]
        split
        · omega
        · split <;> omega
      · show (if aR k t q = 5 then q + 1 else aO k t q) = _
        rw [if_neg r5, i2]
  rw [(this n hp (Nat.le_refl n)).2]
  exact aO_le k t p
theorem x_body {k : Nat} {t : Nat → Nat} {n p : Nat} (hg : Gd k t n) (hp : p ≤ n) (h : aO k t n ≤ p) : (aS k t p).2.2 ≠ 0 ∨ aC k t n = 0 := by
  rcases Nat.eq_zero_or_pos (aC k t n) with z | z
  · exact Or.inr z
  · exact Or.inl ((O_1 hg z).2.2.2.2 p h hp)
theorem x_body0 {k : Nat} {t : Nat → Nat} {n : Nat} (hg : Gd k t n) (h : aC k t n = 0) : ∀ p, p ≤ n → (aS k t p).2.2 ≠ 0 := by
  intro p hp hx
  have hq := (sec_O hg p hp).1 hx
  have hp1 : (aS k t p).1 ≠ 1 → False := fun z => by
    have := aC_pos hg.1 n (fun j hj => (hg.2.2.1 j hj).2) p hp (fun j hj => hg.r0 (by omega)) hx z
    have := aC_mono (k := k) (t := t) hp
    omega
  have hl1 : (aS k t p).1 = 1 := by
    by_cases z : (aS k t p).1 = 1
    · exact z
    · exact absurd z (fun z => hp1 z)
  have hpn : p < n := by
    rcases Nat.lt_or_ge p n with q | q
    · exact q
    · obtain rfl : p = n := by omega
      exact absurd hx (end_x hg)
  have e : aR k t p = pName (t p) 2 := by unfold aR pRole; rw [hl1]; simp
  have h0 := hg.r0 hpn
  have e2 : aR k t p = 2 := by rw [e] at h0 ⊢; unfold pName at h0 ⊢; split at h0 <;> simp_all
  have : aN k t p = true := by simp [aN, e2, hl1]
  have e3 : aC k t (p + 1) = aC k t p + 1 := by show (if aN k t p = true then _ else _) = _; rw [if_pos this]
  have := aC_mono (k := k) (t := t) (show p + 1 ≤ n from hpn)
  omega
/-- the first of the classes -/
theorem cp_cl {k : Nat} {t : Nat → Nat} {n : Nat} (hg : Gd k t n) (hk : k = 0) : ∀ p, p ≤ n → (cp k t p = 0 → cl k t n p = if (aS k t p).1 = 14 ∧ (aS k t p).2.1 = 0 ∧ aO k t n ≤ p then 1 else 0) ∧ (cp k t p = 1 → 1 ≤ cl k t n p ∧ ((aS k t p).1 = 14 → (aS k t p).2.1 = 0 → aO k t n ≤ p → 2 ≤ cl k t n p))
  | 0, _ => ⟨fun _ => by simp [cl, aS], fun z => by simp [cp] at z⟩
  | p + 1, hp => by
    obtain ⟨i1, i2⟩ := cp_cl hg hk p (by omega)
    obtain ⟨s1, s2⟩ := stD_of hg (p := p) (by omega)
    have eC : cp k t (p + 1) = if prt k t p = true ∧ k = 0 ∧ (aS k t p).2.1 = 0 then 1 else cp k t p := rfl
    have eL : cl k t n (p + 1) = if aR k t p = 14 ∧ (aS k t p).2.1 = 0 ∧ aO k t n ≤ p then cl k t n p + 1 else cl k t n p := rfl
    have el : (aS k t (p + 1)).1 = aR k t p := by rw [aS_succ]
    have hcp := cp_le k t p
    have hdd : aR k t p = 14 → (aS k t (p + 1)).2.1 = (aS k t p).2.1 := fun z => dep_no (by omega) (by omega)
    have ho : aR k t p = 14 → (aO k t n ≤ p + 1 ↔ aO k t n ≤ p) := by
      intro z
      refine ⟨fun q => ?_, fun q => by omega⟩
      rcases Nat.lt_or_ge (aC k t n) 1 with w | w
      · have := (O_0 hg (by omega)).1; omega
      · have h3 := (O_1 hg w).2.2.1
        rcases Nat.lt_or_ge p (aO k t n) with y | y
        · have : aO k t n - 1 = p := by omega
          rw [this, z] at h3; omega
        · exact y
    rw [el]
    by_cases hpr : prt k t p = true ∧ k = 0 ∧ (aS k t p).2.1 = 0
    · rw [eC, if_pos hpr]
      obtain ⟨-, q2⟩ := s1 hpr.1
      obtain ⟨q3, q4, q5⟩ := q2 hpr.2.2
      have l14 : (aS k t p).1 = 14 := by omega
      have hp0 : 0 < p := by
        rcases Nat.eq_zero_or_pos p with z | z
        · subst z; simp [aS] at l14
        · exact z
      have hb := body_x hg (by omega) hp0 q3
      have r14 : aR k t p ≠ 14 := by
        have := hpr.1
        simp only [prt, Bool.and_eq_true, Bool.or_eq_true, beq_iff_eq] at this
        omega
      rw [eL, if_neg (fun z => r14 z.1)]
      refine ⟨fun z => by omega, fun _ => ⟨?_, fun z => absurd z r14⟩⟩
      rcases (by omega : cp k t p = 0 ∨ cp k t p = 1) with z | z
      · rw [i1 z, if_pos ⟨l14, hpr.2.2, hb⟩]; exact Nat.le_refl 1
      · exact (i2 z).1
    · rw [eC, if_neg hpr, eL]
      constructor
      · intro z
        have hi := i1 z
        have nl : ¬ ((aS k t p).1 = 14 ∧ (aS k t p).2.1 = 0 ∧ aO k t n ≤ p) := by
          rintro ⟨a1, a2, a3⟩
          have hx : (aS k t p).2.2 ≠ 0 := by
            rcases x_body hg (by omega) a3 with w | w
            · exact w
            · exact x_body0 hg w p (by omega)
          have r9 := s2 hk a2 a1 hx
          exact hpr ⟨by simp [prt, a1, r9], hk, a2⟩
        rw [if_neg nl] at hi
        by_cases c : aR k t p = 14 ∧ (aS k t p).2.1 = 0 ∧ aO k t n ≤ p
        · rw [if_pos c, if_pos ⟨c.1, by rw [hdd c.1]; exact c.2.1, by omega⟩, hi]
        · rw [if_neg c, if_neg, hi]
          rintro ⟨a1, a2, a3⟩
          exact c ⟨a1, by rw [hdd a1] at a2; exact a2, (ho a1).mp a3⟩
      · intro z
        have hi := i2 z
        by_cases c : aR k t p = 14 ∧ (aS k t p).2.1 = 0 ∧ aO k t n ≤ p
        · rw [if_pos c]; exact ⟨by omega, fun _ _ _ => by omega⟩
        · rw [if_neg c]
          exact ⟨hi.1, fun a1 a2 a3 => absurd ⟨a1, by rw [hdd a1] at a2; exact a2, (ho a1).mp a3⟩ c⟩
