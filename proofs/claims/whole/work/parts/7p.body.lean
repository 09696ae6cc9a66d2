/-! the body: its TYPEs one behind another -/
def stH (k l x : Nat) (dp : Bool) (c r : Nat) : Bool := r == 0 || ((if r = 22 || r = 23 || r = 24 then !dp else true) && (if !dp && x != 0 && (l = 0 || l = 5 || l = 22 || l = 23 || l = 14 || l = 8 || l = 20 || l = 21 || l = 17) then r == 9 || r == 6 || r == 19 || r == 20 || r == 21 || r == 22 || r == 23 || r == 24 || r == 1 else true) && (if k = 1 ∧ (l = 0 ∨ l = 5) then r == 22 || r == 1 else true) && (if k = 2 ∧ !dp ∧ (l = 14 || l = 8 || l = 20 || l = 21 || l = 17) then false else true))
theorem stH_all : pAll 3 (fun k => pAll 4 (fun x => pAll 25 (fun l => pAll 127 (fun c => stQ stH k x l c)))) = true := by decide +kernel
theorem stH_of {k : Nat} {t : Nat → Nat} {n p : Nat} (hg : Gd k t n) (hp : p < n) : (aR k t p = 22 ∨ aR k t p = 23 ∨ aR k t p = 24 → (aS k t p).2.1 = 0) ∧ ((aS k t p).2.1 = 0 → (aS k t p).2.2 ≠ 0 → ((aS k t p).1 = 0 ∨ (aS k t p).1 = 5 ∨ (aS k t p).1 = 22 ∨ (aS k t p).1 = 23 ∨ eI (aS k t p).1 = true) → aR k t p = 9 ∨ aR k t p = 6 ∨ aR k t p = 19 ∨ aR k t p = 20 ∨ aR k t p = 21 ∨ aR k t p = 22 ∨ aR k t p = 23 ∨ aR k t p = 24 ∨ aR k t p = 1) ∧ (k = 1 → ((aS k t p).1 = 0 ∨ (aS k t p).1 = 5) → aR k t p = 22 ∨ aR k t p = 1) ∧ ¬ (k = 2 ∧ (aS k t p).2.1 = 0 ∧ eI (aS k t p).1 = true) := by
  have c := st_all _ stH_all hg hp
  have h0 := hg.r0 hp
  unfold stH at c
  simp only [Bool.or_eq_true, Bool.and_eq_true, beq_iff_eq] at c
  rcases c with c | ⟨⟨⟨c1, c2⟩, c3⟩, c4⟩
  · exact absurd c h0
  · refine ⟨fun z => ?_, fun z1 z2 z3 => ?_, fun z1 z2 => ?_, fun z => ?_⟩
    · rw [if_pos (by simp only [decide_eq_true_eq]; omega)] at c1
      simp only [Bool.not_eq_true', decide_eq_false_iff_not] at c1
      omega
    · rw [if_pos (by
        rw [eI_iff] at z3
        simp only [Bool.not_eq_true', decide_eq_false_iff_not, bne_iff_ne, decide_eq_true_eq]
        omega)] at c2
      simp only [Bool.or_eq_true, beq_iff_eq] at c2
      omega
    · rw [if_pos ⟨z1, z2⟩] at c3
      simpa using c3
    · rw [if_pos ⟨z.1, by simp [z.2.1], by
        have := eI_iff.mp z.2.2
        simp only [decide_eq_true_eq]
        omega⟩] at c4
      cases c4
/-- a TYPE stays in its section, and holds none of ( ) ^ -/
theorem typ_roles2 {k : Nat} {t : Nat → Nat} {n s : Nat} (hg : Gd k t n) (hs : TS k t n s) {i : Nat} (h1 : s ≤ i) (h2 : i ≤ tE k t n s) : aR k t i ≠ 22 ∧ aR k t i ≠ 23 ∧ aR k t i ≠ 24 := by
  obtain ⟨a1, a2, a3, a4, a5, a6⟩ := tE_sp hg hs
  obtain ⟨b1, b2, b3, b4, b5⟩ := br_sp hg hs
  obtain ⟨hT, eT', hle⟩ := br_TS hg hs
  have hd := a6 i h1 h2
  have s1 := (stH_of hg (p := i) (by omega)).1
  rcases Nat.lt_or_ge i (nE k t n 19 s) with q | q
  · have := b4 i h1 q; omega
  · rcases Nat.lt_or_ge (aS k t s).2.1 (aS k t i).2.1 with w | w
    · have : ¬ (aR k t i = 22 ∨ aR k t i = 23 ∨ aR k t i = 24) := fun z => by have := s1 z; omega
      omega
    · have hdi : (aS k t i).2.1 = (aS k t s).2.1 := by omega
      rcases b3 with r | r | r | r
      · have := cls_role hg b2 r q (by rw [eT']; exact h2) (by rw [hdi, b5 _ b1 (Nat.le_refl _)])
        omega
      · obtain ⟨v1, v2, v3⟩ := var_end hg b2 r
        rw [eT'] at v1 v2 v3
        rcases Nat.eq_or_lt_of_le q with y | y
        · rw [← y]; omega
        · rcases Nat.eq_or_lt_of_le h2 with z | z
          · rw [z]; have := eI_iff.mp a4; omega
          · have run : ∀ m j, n - j = m → j ≤ i → i < nE k t n 7 j → aR k t i = 7 := by
              intro m
              induction m with
              | zero => intro j c1 c2 c4; have := nE_le (k := k) (t := t) (n := n) (r := 7) (j := j) (by omega); omega
              | succ m ih =>
                intro j c1 c2 c4
                by_cases rj : aR k t j = 7
                · rcases Nat.eq_or_lt_of_le c2 with e | e
                  · rw [← e]; exact rj
                  · rw [nE_go (by omega) rj] at c4
                    exact ih (j + 1) (by omega) (by omega) c4
                · rw [nE_stop (fun _ => rj)] at c4
                  omega
            have := run _ (nE k t n 19 s + 1) rfl (by omega) (by omega)
            omega
      · have e : tE k t n (nE k t n 19 s) = nE k t n 19 s := tE_is hg hT (Nat.le_refl _) b2 rfl (by rw [r]; decide) (fun i c d => absurd d (by omega))
        rw [eT'] at e
        obtain rfl : i = nE k t n 19 s := by omega
        omega
      · have e : tE k t n (nE k t n 19 s) = nE k t n 19 s := tE_is hg hT (Nat.le_refl _) b2 rfl (by rw [r]; decide) (fun i c d => absurd d (by omega))
        rw [eT'] at e
        obtain rfl : i = nE k t n 19 s := by omega
        omega
theorem typ_sec {k : Nat} {t : Nat → Nat} {n s : Nat} (hg : Gd k t n) (hs : TS k t n s) : ∀ i, s ≤ i → i ≤ tE k t n s + 1 → (aS k t i).2.2 = (aS k t s).2.2 := by
  intro i h1
  induction h1 with
  | refl => intro _; rfl
  | @step i h1 ih =>
    intro h2
    have h1' : s ≤ i := h1
    have q1 := typ_roles hg hs (i := i) h1' (by omega)
    have q2 := typ_roles2 hg hs (i := i) h1' (by omega)
    rw [sec_next, if_neg q1.1, if_neg q1.2.2.2.2, if_neg q2.1, if_neg q2.2.1]
    exact ih (by omega)
/-- between the TYPEs of the body -/
def Bd (k : Nat) (t : Nat → Nat) (n j : Nat) : Prop := aO k t n ≤ j ∧ j ≤ n ∧ (aS k t j).2.1 = 0 ∧ (aS k t j).2.2 ≠ 0 ∧ ((aS k t j).1 = 0 ∨ (aS k t j).1 = 5 ∨ (aS k t j).1 = 22 ∨ (aS k t j).1 = 23 ∨ eI (aS k t j).1 = true)
theorem Bd_0 {k : Nat} {t : Nat → Nat} {n : Nat} (hg : Gd k t n) : Bd k t n (aO k t n) := by
  refine ⟨Nat.le_refl _, aO_le k t n, ?_, ?_, ?_⟩
  · rcases Nat.eq_zero_or_pos (aC k t n) with z | z
    · rw [(O_0 hg z).1]; rfl
    · obtain ⟨o1, o2, o3, -⟩ := O_1 hg z
      have e : aO k t n = (aO k t n - 1) + 1 := by omega
      rw [e, dep_no (by omega) (by omega)]
      exact ((stX_of hg (p := aO k t n - 1) (by omega)).2.1 (Or.inl o3)).2
  · rcases x_body hg (aO_le k t n) (Nat.le_refl _) with w | w
    · exact w
    · exact x_body0 hg w _ (aO_le k t n)
  · rcases Nat.eq_zero_or_pos (aC k t n) with z | z
    · rw [(O_0 hg z).1]; exact Or.inl rfl
    · obtain ⟨o1, o2, o3, -⟩ := O_1 hg z
      have e : aO k t n = (aO k t n - 1) + 1 := by omega
      rw [e, aS_succ]
      exact Or.inr (Or.inl o3)
theorem Bd_role {k : Nat} {t : Nat → Nat} {n j : Nat} (hg : Gd k t n) (h : Bd k t n j) (hj : j < n) : aR k t j = 22 ∨ aR k t j = 23 ∨ aR k t j = 24 ∨ TS k t n j := by
  obtain ⟨h1, h2, h3, h4, h5⟩ := h
  have r1 : aR k t j ≠ 1 := by
    intro z
    have j0 := l_0 hg (by omega) ((stX_of hg hj).1 z)
    subst j0
    rcases Nat.eq_zero_or_pos (aC k t n) with w | w
    · have hx := x_body0 hg w 1 (by omega)
      rw [sec_next, if_pos z] at hx
      exact hx rfl
    · have := (O_1 hg w).1; omega
  have := (stH_of hg hj).2.1 h3 h4 h5
  rcases this with r | r | r | r | r | r | r | r | r
  · exact Or.inr (Or.inr (Or.inr ⟨hj, by omega⟩))
  · exact Or.inr (Or.inr (Or.inr ⟨hj, by omega⟩))
  · exact Or.inr (Or.inr (Or.inr ⟨hj, by omega⟩))
  · exact Or.inr (Or.inr (Or.inr ⟨hj, by omega⟩))
  · exact Or.inr (Or.inr (Or.inr ⟨hj, by omega⟩))
  · exact Or.inl r
  · exact Or.inr (Or.inl r)
  · exact Or.inr (Or.inr (Or.inl r))
  · exact absurd r r1
theorem Bd_sign {k : Nat} {t : Nat → Nat} {n j : Nat} (h : Bd k t n j) (hj : j < n) (hr : aR k t j = 22 ∨ aR k t j = 23) : Bd k t n (j + 1) := by
  obtain ⟨h1, h2, h3, h4, h5⟩ := h
  refine ⟨by omega, by omega, by rw [dep_no (by omega) (by omega)]; exact h3, ?_, ?_⟩
  · rw [sec_next, if_neg (by omega), if_neg (by omega)]
    rcases hr with r | r
    · rw [if_pos r]; decide
    · rw [if_neg (by omega), if_pos r]; decide
  · rw [aS_succ]
    rcases hr with r | r
    · exact Or.inr (Or.inr (Or.inl r))
    · exact Or.inr (Or.inr (Or.inr (Or.inl r)))
theorem Bd_type {k : Nat} {t : Nat → Nat} {n j : Nat} (hg : Gd k t n) (h : Bd k t n j) (hs : TS k t n j) : Bd k t n (tE k t n j + 1) ∧ j < tE k t n j + 1 := by
  obtain ⟨h1, h2, h3, h4, h5⟩ := h
  obtain ⟨a1, a2, a3, a4, a5, a6⟩ := tE_sp hg hs
  have he := eI_iff.mp a4
  refine ⟨⟨by omega, by omega, by rw [dep_no (by omega) (by omega), a3]; exact h3, by rw [typ_sec hg hs _ (by omega) (Nat.le_refl _)]; exact h4, ?_⟩, by omega⟩
  rw [aS_succ]
  exact Or.inr (Or.inr (Or.inr (Or.inr a4)))
/-- the body erased, from j on; ins: up to ) alone -/
def eA (k : Nat) (t : Nat → Nat) (n : Nat) (sc : Sc) (ins : Bool) : Nat → Nat → List Nat
  | 0, _ => []
  | w + 1, j => if j < n then (if aR k t j = 24 ∨ (ins = true ∧ aR k t j = 23) then [] else if aR k t j = 22 ∨ aR k t j = 23 then t j :: eA k t n sc ins w (j + 1) else eT k t n sc j ++ eA k t n sc ins w (tE k t n j + 1)) else []
/-- bounds of its length -/
def rb (k : Nat) (t : Nat → Nat) (n : Nat) : Nat → Nat → Nat
  | 0, _ => 0
  | w + 1, j => if j < n then (if aR k t j = 24 then 0 else if aR k t j = 22 ∨ aR k t j = 23 then 1 + rb k t n w (j + 1) else bnd k t n 125 nV j + rb k t n w (tE k t n j + 1)) else 0
def qv (k : Nat) (t : Nat → Nat) (n : Nat) : Nat → Nat → Nat
  | 0, _ => 0
  | w + 1, j => if j < n then (if aR k t j = 24 then 0 else if aR k t j = 22 ∨ aR k t j = 23 then qv k t n w (j + 1) else (if aR k t (nE k t n 19 j) = 6 then 1 else 0) + qv k t n w (tE k t n j + 1)) else 0
theorem rb_qv {k : Nat} {t : Nat → Nat} {n : Nat} (hg : Gd k t n) : ∀ w j, Bd k t n j → rb k t n w j ≤ (n - j) + qv k t n w j * (ph nV (wd k t n) (aC k t n) + 125) ∧ 3 * qv k t n w j ≤ n - j
  | 0, j, _ => ⟨Nat.zero_le _, Nat.zero_le _⟩
  | w + 1, j, hb => by
    unfold rb qv
    by_cases hj : j < n
    · rw [if_pos hj, if_pos hj]
      by_cases r24 : aR k t j = 24
      · rw [if_pos r24, if_pos r24]; exact ⟨Nat.zero_le _, Nat.zero_le _⟩
      · rw [if_neg r24, if_neg r24]
        by_cases r22 : aR k t j = 22 ∨ aR k t j = 23
        · rw [if_pos r22, if_pos r22]
          have ih := rb_qv hg w (j + 1) (Bd_sign hb hj r22)
          exact ⟨by omega, by omega⟩
        · rw [if_neg r22, if_neg r22]
          have hs : TS k t n j := by
            rcases Bd_role hg hb hj with q | q | q | q
            · omega
            · omega
            · omega
            · exact q
          obtain ⟨hb2, hlt⟩ := Bd_type hg hb hs
          have ih := rb_qv hg w _ hb2
          have hb3 := hb2.2.1
          unfold bnd
          by_cases e6 : aR k t (nE k t n 19 j) = 6
          · rw [if_pos e6, if_pos e6]
            obtain ⟨b1, b2, b3, b4, b5⟩ := br_sp hg hs
            obtain ⟨hT, eT', hle⟩ := br_TS hg hs
            have v := var_end hg b2 e6
            rw [eT'] at v
            refine ⟨?_, by omega⟩
            rw [Nat.add_mul]
            omega
          · rw [if_neg e6, if_neg e6]
            rw [Nat.zero_add]
            exact ⟨by omega, by omega⟩
    · rw [if_neg hj, if_neg hj]; exact ⟨Nat.zero_le _, Nat.zero_le _⟩
theorem nl5000 : ∀ a, a < 121 → ∀ q, q < 41 → 3 * q + 1 + a ≤ 120 → (a = 0 → 120 + q * 125 ≤ 5000) ∧ (2 ≤ a → 120 + q * (a - 2 + 125) ≤ 5000) := by decide +kernel
theorem qv_0 {k : Nat} {t : Nat → Nat} {n : Nat} (hg : Gd k t n) (hk : k = 0) : ∀ w j, Bd k t n j → qv k t n w j = 0
  | 0, _, _ => rfl
  | w + 1, j, hb => by
    unfold qv
    by_cases hj : j < n
    · rw [if_pos hj]
      by_cases r24 : aR k t j = 24
      · rw [if_pos r24]
      · rw [if_neg r24]
        by_cases r22 : aR k t j = 22 ∨ aR k t j = 23
        · rw [if_pos r22]; exact qv_0 hg hk w _ (Bd_sign hb hj r22)
        · rw [if_neg r22]
          have hs : TS k t n j := by
            rcases Bd_role hg hb hj with q | q | q | q
            · omega
            · omega
            · omega
            · exact q
          have ih := qv_0 hg hk w _ (Bd_type hg hb hs).1
          have hT := topT hg hk j (by omega) hb.2.2.1 hb.2.2.2.1
          have c := st_all _ stE_all hg hj
          have h0 := hg.r0 hj
          unfold stE at c
          have hd0 : decide (0 < (aS k t j).2.1) = false := by simp [hb.2.2.1]
          rw [hd0, hT] at c
          have hx : ((aS k t j).2.2 != 0) = true := by simp [hb.2.2.2.1]
          rw [hx, hk] at c
          have r9 : aR k t j = 9 := by
            have hr := hs.2
            rw [← hk] at c
            simp only [inT, beq_self_eq_true, Bool.not_false, Bool.and_true, Bool.not_true, Bool.or_false, Bool.or_eq_true, beq_iff_eq] at c
            omega
          have e : nE k t n 19 j = j := nE_stop (fun _ => by omega)
          rw [e, if_neg (by omega), ih]
    · rw [if_neg hj]
/-- the body erased fits -/
theorem rb_max {k : Nat} {t : Nat → Nat} {n : Nat} (hg : Gd k t n) (w : Nat) : rb k t n w (aO k t n) ≤ 5000 := by
  have hn := hg.2.1
  have hk := hg.1
  have h := rb_qv hg w (aO k t n) (Bd_0 hg)
  have hle := aO_le k t n
  -- how many variables there are
  have key : ∀ q, qv k t n w (aO k t n) ≤ q → 3 * q + 1 + aO k t n ≤ 120 → rb k t n w (aO k t n) ≤ 5000 := by
    intro q h1 h2
    have hc := nl5000 (aO k t n) (by omega) q (by omega) h2
    have hm : qv k t n w (aO k t n) * (ph nV (wd k t n) (aC k t n) + 125) ≤ q * (ph nV (wd k t n) (aC k t n) + 125) := Nat.mul_le_mul_right _ h1
    rcases ph_all hg with p | ⟨p1, p2⟩
    · have hp : ph nV (wd k t n) (aC k t n) + 2 ≤ aO k t n := p
      have hm2 : q * (ph nV (wd k t n) (aC k t n) + 125) ≤ q * (aO k t n - 2 + 125) := Nat.mul_le_mul_left _ (by omega)
      have := hc.2 (by omega)
      omega
    · have hp : ph nV (wd k t n) (aC k t n) = 0 := p2
      rw [hp] at hm h
      have := hc.1 (O_0 hg p1).1
      omega
  rcases (by omega : k = 0 ∨ k = 1 ∨ k = 2) with rfl | rfl | rfl
  · refine key 0 (by rw [qv_0 hg rfl w _ (Bd_0 hg)]; exact Nat.le_refl 0) ?_
    have := (body_9 hg rfl).1
    omega
  · -- a method has a (
    cases w with
    | zero => show 0 ≤ 5000; omega
    | succ w =>
      have hl : aO 1 t n < n := by
        rcases Nat.lt_or_ge (aO 1 t n) n with q | q
        · exact q
        · exfalso
          have e : aO 1 t n = n := by omega
          have := Bd_0 hg
          rw [e] at this
          have hx := hg.2.2.2.2.1.1
          have hl := end_l hg
          rcases Nat.eq_zero_or_pos (aC 1 t n) with z | z
          · have := (O_0 hg z).1
            have hn0 : n = 0 := by omega
            subst hn0
            simp [aS] at hl
          · obtain ⟨o1, o2, o3, -⟩ := O_1 hg z
            have e2 : n = (aO 1 t n - 1) + 1 := by omega
            have e3 : (aS 1 t n).1 = aR 1 t (aO 1 t n - 1) := by
              have : ∀ q, n = q + 1 → (aS 1 t n).1 = aR 1 t q := fun q z => by rw [z, aS_succ]
              exact this _ e2
            omega
      have hb := Bd_0 hg
      have hl0 : (aS 1 t (aO 1 t n)).1 = 0 ∨ (aS 1 t (aO 1 t n)).1 = 5 := by
        rcases Nat.eq_zero_or_pos (aC 1 t n) with z | z
        · rw [(O_0 hg z).1]; exact Or.inl rfl
        · obtain ⟨o1, o2, o3, -⟩ := O_1 hg z
          have e : aO 1 t n = (aO 1 t n - 1) + 1 := by omega
          rw [e, aS_succ]
          exact Or.inr o3
      have r22 : aR 1 t (aO 1 t n) = 22 := by
        rcases (stH_of hg hl).2.2.1 rfl hl0 with r | r
        · exact r
        · rcases Bd_role hg hb hl with q | q | q | q
          · exact q
          · omega
          · omega
          · have := q.2; omega
      have h2 := (rb_qv hg w _ (Bd_sign hb hl (Or.inl r22))).2
      have e : qv 1 t n (w + 1) (aO 1 t n) = qv 1 t n w (aO 1 t n + 1) := by
        show (if aO 1 t n < n then _ else 0) = _
        rw [if_pos hl, if_neg (by omega), if_pos (Or.inl r22)]
      refine key _ (Nat.le_of_eq e) ?_
      omega
  · -- a field has one TYPE
    have hO : aO 2 t n = 0 := by
      rcases Nat.eq_zero_or_pos (aC 2 t n) with z | z
      · exact (O_0 hg z).1
      · exfalso
        obtain ⟨o1, o2, o3, -⟩ := O_1 hg z
        have hok := hg.ok (p := aO 2 t n - 1) (by omega)
        have hx := ((stX_of hg (p := aO 2 t n - 1) (by omega)).2.1 (Or.inl o3)).1
        rw [hx] at hok
        simp [pOk] at hok
    rw [hO] at h ⊢
    have hb := Bd_0 hg
    rw [hO] at hb
    have hq : qv 2 t n w 0 ≤ 1 := by
      cases w with
      | zero => exact Nat.zero_le _
      | succ w =>
        unfold qv
        by_cases hj : 0 < n
        · rw [if_pos hj]
          by_cases r24 : aR 2 t 0 = 24
          · rw [if_pos r24]; exact Nat.zero_le _
          · rw [if_neg r24]
            have nxt : ∀ j, Bd 2 t n j → 0 < j → eI (aS 2 t j).1 = true → qv 2 t n w j = 0 := by
              intro j hj1 hj2 hj3
              have hjn : ¬ j < n := fun z => (stH_of hg z).2.2.2 ⟨rfl, hj1.2.2.1, hj3⟩
              cases w with
              | zero => rfl
              | succ w => unfold qv; rw [if_neg hjn]
            by_cases r22 : aR 2 t 0 = 22 ∨ aR 2 t 0 = 23
            · exfalso
              have c := st_all (fun k l x dp c r => if k = 2 then r != 22 && r != 23 else true) (by decide +kernel) hg hj
              simp at c
              omega
            · rw [if_neg r22]
              have hs : TS 2 t n 0 := by
                rcases Bd_role hg hb hj with q | q | q | q
                · omega
                · omega
                · omega
                · exact q
              obtain ⟨hb2, hlt⟩ := Bd_type hg hb hs
              rw [nxt _ hb2 (by omega) (by rw [aS_succ]; exact (tE_sp hg hs).2.2.2.1)]
              split <;> omega
        · rw [if_neg hj]; exact Nat.zero_le _
    have := key 1
    rw [hO] at this
    exact this hq (by omega)
