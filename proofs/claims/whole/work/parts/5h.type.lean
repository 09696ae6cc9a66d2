/-! where a TYPE ends -/
def eI (r : Nat) : Bool := r == 14 || r == 8 || r == 20 || r == 21 || r == 17
theorem eI_iff {r : Nat} : eI r = true ↔ r = 14 ∨ r = 8 ∨ r = 20 ∨ r = 21 ∨ r = 17 := by simp only [eI, Bool.or_eq_true, beq_iff_eq]; omega
def fe (P : Nat → Bool) : Nat → Nat → Nat
  | 0, j => j
  | w + 1, j => if P j = true then j else fe P w (j + 1)
theorem fe_sp (P : Nat → Bool) : ∀ w j, j ≤ fe P w j ∧ fe P w j ≤ j + w ∧ (∀ i, j ≤ i → i < fe P w j → P i = false) ∧ (fe P w j < j + w → P (fe P w j) = true)
  | 0, j => ⟨Nat.le_refl _, Nat.le_refl _, fun i h1 h2 => absurd h2 (by show ¬ i < j; omega), fun h => absurd h (by show ¬ j < j + 0; omega)⟩
  | w + 1, j => by
    have ih := fe_sp P w (j + 1)
    cases hp : P j
    · have e : fe P (w + 1) j = fe P w (j + 1) := by show (if P j = true then j else fe P w (j + 1)) = _; rw [hp]; rfl
      rw [e]
      refine ⟨by omega, by omega, fun i h1 h2 => ?_, fun h => ih.2.2.2 (by omega)⟩
      rcases Nat.eq_or_lt_of_le h1 with q | q
      · rw [← q]; exact hp
      · exact ih.2.2.1 i (by omega) h2
    · have e : fe P (w + 1) j = j := by show (if P j = true then j else fe P w (j + 1)) = _; rw [hp]; rfl
      rw [e]
      exact ⟨Nat.le_refl _, by omega, fun i h1 h2 => absurd h2 (by omega), fun _ => hp⟩
/-- the last character of the TYPE that begins at s -/
def tE (k : Nat) (t : Nat → Nat) (n s : Nat) : Nat := fe (fun j => decide ((aS k t j).2.1 = (aS k t s).2.1) && eI (aR k t j)) (n - s) s
/-- a TYPE, or V, begins at s -/
def TS (k : Nat) (t : Nat → Nat) (n s : Nat) : Prop := s < n ∧ (aR k t s = 9 ∨ aR k t s = 6 ∨ aR k t s = 19 ∨ aR k t s = 20 ∨ aR k t s = 21)
def stG (k l x : Nat) (dp : Bool) (c r : Nat) : Bool := r == 0 || ((if r = 16 then l == 8 || l == 14 || l == 17 || l == 20 else true) && (if l = 19 then r == 9 || r == 6 || r == 19 || r == 20 else true))
theorem stG_all : pAll 3 (fun k => pAll 4 (fun x => pAll 25 (fun l => pAll 127 (fun c => stQ stG k x l c)))) = true := by decide +kernel
theorem stG_of {k : Nat} {t : Nat → Nat} {n p : Nat} (hg : Gd k t n) (hp : p < n) : (aR k t p = 16 → eI (aS k t p).1 = true) ∧ ((aS k t p).1 = 19 → aR k t p = 9 ∨ aR k t p = 6 ∨ aR k t p = 19 ∨ aR k t p = 20) := by
  have c := st_all _ stG_all hg hp
  have h0 := hg.r0 hp
  unfold stG at c
  simp only [Bool.or_eq_true, Bool.and_eq_true, beq_iff_eq] at c
  rcases c with c | ⟨c1, c2⟩
  · exact absurd c h0
  · refine ⟨fun z => ?_, fun z => ?_⟩
    · rw [if_pos z] at c1
      simp only [Bool.or_eq_true, beq_iff_eq] at c1
      rw [eI_iff]; omega
    · rw [if_pos z] at c2
      simp only [Bool.or_eq_true, beq_iff_eq] at c2
      omega
theorem in_dep {k : Nat} {t : Nat → Nat} {n s : Nat} (hg : Gd k t n) (hs : TS k t n s) : ∀ j, s ≤ j → j ≤ n → (∀ i, s ≤ i → i < j → ¬ ((aS k t i).2.1 = (aS k t s).2.1 ∧ eI (aR k t i) = true)) → (aS k t s).2.1 ≤ (aS k t j).2.1 := by
  intro j h1
  induction h1 with
  | refl => intro _ _; exact Nat.le_refl _
  | @step j h1 ih =>
    intro h2 h3
    have h1' : s ≤ j := h1
    have hj := ih (by omega) (fun i a b => h3 i a (by omega))
    show (aS k t s).2.1 ≤ (aS k t (j + 1)).2.1
    by_cases r16 : aR k t j = 16
    · have hd := dep_16 r16
      rcases Nat.eq_or_lt_of_le hj with q | q
      · exfalso
        rcases Nat.eq_or_lt_of_le h1' with e | e
        · have := hs.2; rw [e] at this; omega
        · obtain ⟨m, rfl⟩ : ∃ m, j = m + 1 := ⟨j - 1, by omega⟩
          have he := (stG_of hg (p := m + 1) (by omega)).1 r16
          rw [aS_succ] at he
          have hne : aR k t m ≠ 15 ∧ aR k t m ≠ 16 := by have := eI_iff.mp he; omega
          have hdm := dep_no hne.1 hne.2
          exact h3 m (by omega) (by omega) ⟨by omega, he⟩
      · omega
    · by_cases r15 : aR k t j = 15
      · have := dep_15 r15; omega
      · rw [dep_no r15 r16]; exact hj
/-- the end of a TYPE is there -/
theorem tE_sp {k : Nat} {t : Nat → Nat} {n s : Nat} (hg : Gd k t n) (hs : TS k t n s) : s ≤ tE k t n s ∧ tE k t n s < n ∧ (aS k t (tE k t n s)).2.1 = (aS k t s).2.1 ∧ eI (aR k t (tE k t n s)) = true ∧ (∀ i, s ≤ i → i < tE k t n s → ¬ ((aS k t i).2.1 = (aS k t s).2.1 ∧ eI (aR k t i) = true)) ∧ (∀ j, s ≤ j → j ≤ tE k t n s → (aS k t s).2.1 ≤ (aS k t j).2.1) := by
  have hsn := hs.1
  obtain ⟨f1, f2, f3, f4⟩ := fe_sp (fun j => decide ((aS k t j).2.1 = (aS k t s).2.1) && eI (aR k t j)) (n - s) s
  have e0 : fe (fun j => decide ((aS k t j).2.1 = (aS k t s).2.1) && eI (aR k t j)) (n - s) s = tE k t n s := rfl
  rw [e0] at f1 f2 f3 f4
  have no : ∀ i, s ≤ i → i < tE k t n s → ¬ ((aS k t i).2.1 = (aS k t s).2.1 ∧ eI (aR k t i) = true) := by
    intro i a b z
    have := f3 i a b
    simp [z.1, z.2] at this
  have lt : tE k t n s < n := by
    rcases Nat.lt_or_ge (tE k t n s) n with q | q
    · exact q
    · exfalso
      have e : tE k t n s = n := by omega
      rw [e] at no
      have hd := in_dep hg hs n (by omega) (Nat.le_refl n) no
      have hl := end_l hg
      have hd0 := hg.2.2.2.2.1.2.1
      obtain ⟨m, rfl⟩ : ∃ m, n = m + 1 := ⟨n - 1, by omega⟩
      rw [aS_succ] at hl
      dsimp only at hl
      have hdm := dep_no (k := k) (t := t) (p := m) (by omega) (by omega)
      exact no m (by omega) (by omega) ⟨by omega, eI_iff.mpr (by omega)⟩
  have hp := f4 (by omega)
  simp only [Bool.and_eq_true, decide_eq_true_eq] at hp
  exact ⟨f1, lt, hp.1, hp.2, no, fun j a b => in_dep hg hs j a (by omega) (fun i c d => no i c (by omega))⟩
theorem tE_is {k : Nat} {t : Nat → Nat} {n s e : Nat} (hg : Gd k t n) (hs : TS k t n s) (h1 : s ≤ e) (h2 : e < n) (h3 : (aS k t e).2.1 = (aS k t s).2.1) (h4 : eI (aR k t e) = true) (h5 : ∀ i, s ≤ i → i < e → ¬ ((aS k t i).2.1 = (aS k t s).2.1 ∧ eI (aR k t i) = true)) : tE k t n s = e := by
  obtain ⟨a1, a2, a3, a4, a5, -⟩ := tE_sp hg hs
  rcases Nat.lt_trichotomy (tE k t n s) e with q | q | q
  · exact absurd ⟨a3, a4⟩ (h5 _ a1 q)
  · exact q
  · exact absurd ⟨h3, h4⟩ (a5 _ h1 q)
theorem r_behindType {post : Int32 → Prop} {u : SgC} {k : Nat} {t : Nat → Nat} {n s : Nat} (hu : SgI u k t n) (hg : Gd k t n) (hs : TS k t n s) (h : post (nI (tE k t n s + 1))) : wp_Sg_behindType post u (nI s) := by
  unfold wp_Sg_behindType
  have hn := hg.2.1
  obtain ⟨a1, a2, a3, a4, a5, a6⟩ := tE_sp hg hs
  have := lpN (n := tE k t n s) (W := fun f j => s ≤ j → w_Sg_behindType_4 post u f (nI ((aS k t j).2.1 - (aS k t s).2.1)) (nI j)) (fun f hb => ?_) (fun f j hj ih hb => ?_) s a1
  · obtain ⟨f, hf⟩ := this
    have := hf (Nat.le_refl _)
    rw [Nat.sub_self] at this
    exact ⟨f, this⟩
  · unfold w_Sg_behindType_4 wb_Sg_behindType_4
    rw [hu.2.1, ofN, a3, Nat.sub_self]
    have hr := aR_lt k t (tE k t n s)
    have he := eI_iff.mp a4
    refine b_le (by omega) (by omega) (fun z => absurd z (by omega)) (fun _ => r_roleAt hu hn (by omega) ?_)
    rw [gR_in a2]
    refine b_eq (k := 15) (by omega) (by decide) (fun e => by omega) (fun e => b_eq (k := 16) (by omega) (by decide) (fun e => by omega) (fun e => ⟨fun z => absurd rfl z, fun _ => r_endsItem (by omega) ?_⟩))
    rw [if_pos he, nI_1]
    exact ⟨fun z => absurd z (by decide), fun _ => h⟩
  · unfold w_Sg_behindType_4 wb_Sg_behindType_4 w_Sg_behindType_62
    rw [hu.2.1, ofN]
    have hr := aR_lt k t j
    have ih := ih (by omega)
    have hd := (aS_lt k t j).2.1
    have q1 := a6 j hb (by omega)
    have q2 := a6 (j + 1) (by omega) (by omega)
    refine b_le (by omega) (by omega) (fun z => absurd z (by omega)) (fun _ => r_roleAt hu hn (by omega) ?_)
    rw [gR_in (by omega), nI_1 j]
    refine b_eq (k := 15) (by omega) (by decide) (fun e => ?_) (fun e15 => b_eq (k := 16) (by omega) (by decide) (fun e => ?_) (fun e16 => ?_))
    · rw [nI_1]
      rw [dep_15 e, show (aS k t j).2.1 + 1 - (aS k t s).2.1 = (aS k t j).2.1 - (aS k t s).2.1 + 1 by omega] at ih
      exact ih
    · have hdd := dep_16 e
      rw [show (aS k t j).2.1 - (aS k t s).2.1 = ((aS k t (j + 1)).2.1 - (aS k t s).2.1) + 1 by omega, mI1]
      exact ih
    · rw [dep_no e15 e16] at ih
      refine b_eq (k := 0) (by omega) (by decide) (fun z => r_endsItem (by omega) ?_) (fun _ => ih)
      rw [if_neg (fun w => a5 j hb (by omega) ⟨by omega, eI_iff.mpr w⟩)]
      exact ⟨fun _ => ih, fun w => absurd rfl w⟩
/-- brackets before a TYPE -/
theorem br_sp {k : Nat} {t : Nat → Nat} {n s : Nat} (hg : Gd k t n) (hs : TS k t n s) : s ≤ nE k t n 19 s ∧ nE k t n 19 s < n ∧ (aR k t (nE k t n 19 s) = 9 ∨ aR k t (nE k t n 19 s) = 6 ∨ aR k t (nE k t n 19 s) = 20 ∨ aR k t (nE k t n 19 s) = 21) ∧ (∀ i, s ≤ i → i < nE k t n 19 s → aR k t i = 19) ∧ (∀ i, s ≤ i → i ≤ nE k t n 19 s → (aS k t i).2.1 = (aS k t s).2.1) := by
  have : ∀ m s, n - s = m → TS k t n s → s ≤ nE k t n 19 s ∧ nE k t n 19 s < n ∧ (aR k t (nE k t n 19 s) = 9 ∨ aR k t (nE k t n 19 s) = 6 ∨ aR k t (nE k t n 19 s) = 20 ∨ aR k t (nE k t n 19 s) = 21) ∧ (∀ i, s ≤ i → i < nE k t n 19 s → aR k t i = 19) ∧ (∀ i, s ≤ i → i ≤ nE k t n 19 s → (aS k t i).2.1 = (aS k t s).2.1) := by
    intro m
    induction m with
    | zero => intro s h1 h2; have := h2.1; omega
    | succ m ih =>
      intro s h1 h2
      by_cases r : aR k t s = 19
      · have hs1 : s + 1 < n := by
          rcases Nat.lt_or_ge (s + 1) n with q | q
          · exact q
          · have : n = s + 1 := by have := h2.1; omega
            subst this
            have := end_l hg
            rw [aS_succ] at this
            dsimp only at this
            omega
        have hr := (stG_of hg hs1).2 (by rw [aS_succ]; exact r)
        obtain ⟨i1, i2, i3, i4, i5⟩ := ih (s + 1) (by omega) ⟨hs1, by omega⟩
        rw [nE_go h2.1 r]
        refine ⟨by omega, i2, i3, fun i a b => ?_, fun i a b => ?_⟩
        · rcases Nat.eq_or_lt_of_le a with q | q
          · rw [← q]; exact r
          · exact i4 i q b
        · rcases Nat.eq_or_lt_of_le a with q | q
          · rw [← q]
          · rw [i5 i q b, dep_no (by omega) (by omega)]
      · rw [nE_stop (fun _ => r)]
        have := h2.2
        refine ⟨Nat.le_refl _, h2.1, by omega, fun i a b => absurd b (by omega), fun i a b => ?_⟩
        obtain rfl : i = s := by omega
        rfl
  exact this _ s rfl hs
theorem br_TS {k : Nat} {t : Nat → Nat} {n s : Nat} (hg : Gd k t n) (hs : TS k t n s) : TS k t n (nE k t n 19 s) ∧ tE k t n (nE k t n 19 s) = tE k t n s ∧ nE k t n 19 s ≤ tE k t n s := by
  obtain ⟨b1, b2, b3, b4, b5⟩ := br_sp hg hs
  have hT : TS k t n (nE k t n 19 s) := ⟨b2, by omega⟩
  obtain ⟨a1, a2, a3, a4, a5, a6⟩ := tE_sp hg hs
  have hle : nE k t n 19 s ≤ tE k t n s := by
    rcases Nat.lt_or_ge (tE k t n s) (nE k t n 19 s) with q | q
    · have := b4 _ a1 q
      rw [this] at a4
      exact absurd a4 (by decide)
    · exact q
  have hd := b5 _ b1 (Nat.le_refl _)
  refine ⟨hT, tE_is hg hT hle a2 (by rw [a3, hd]) a4 (fun i c d => by rw [hd]; exact a5 i (by omega) d), hle⟩
/-- a variable ends with its ; -/
theorem var_end {k : Nat} {t : Nat → Nat} {n s : Nat} (hg : Gd k t n) (hs : s < n) (h : aR k t s = 6) : tE k t n s = nE k t n 7 (s + 1) ∧ s + 2 ≤ tE k t n s ∧ tE k t n s < n := by
  have hT : TS k t n s := ⟨hs, by omega⟩
  obtain ⟨v1, v2⟩ := var_next hg hs h
  have run : ∀ m i, n - i = m → s + 1 ≤ i → i < n → (∀ j, s < j → j < i → aR k t j = 7) → (aR k t i = 7 ∨ aR k t i = 8) → i ≤ nE k t n 7 i ∧ nE k t n 7 i < n ∧ aR k t (nE k t n 7 i) = 8 ∧ ∀ j, s < j → j < nE k t n 7 i → aR k t j = 7 := by
    intro m
    induction m with
    | zero => intro i h1 h2 h3; omega
    | succ m ih =>
      intro i h1 h2 h3 h4 h5
      by_cases r : aR k t i = 7
      · have hi1 : i + 1 < n := by
          rcases Nat.lt_or_ge (i + 1) n with q | q
          · exact q
          · have : n = i + 1 := by omega
            subst this
            have := end_l hg
            rw [aS_succ] at this
            dsimp only at this
            omega
        have hr := (st2_of hg hi1).2.2 (by rw [aS_succ]; exact Or.inr r)
        rw [nE_go h3 r]
        obtain ⟨c1, c2, c3, c4⟩ := ih (i + 1) (by omega) (by omega) hi1 (fun j a b => by
          rcases Nat.lt_or_ge j i with q | q
          · exact h4 j a q
          · obtain rfl : j = i := by omega
            exact r) hr
        exact ⟨by omega, c2, c3, c4⟩
      · rw [nE_stop (fun _ => r)]
        exact ⟨Nat.le_refl _, h3, by omega, h4⟩
  obtain ⟨c1, c2, c3, c4⟩ := run _ (s + 1) rfl (Nat.le_refl _) v1 (fun j a b => absurd b (by omega)) (Or.inl v2)
  have dep : ∀ i, s ≤ i → i ≤ nE k t n 7 (s + 1) → (aS k t i).2.1 = (aS k t s).2.1 := by
    intro i a
    induction a with
    | refl => intro _; rfl
    | @step i a ih =>
      intro b
      have a' : s ≤ i := a
      have hr : aR k t i ≠ 15 ∧ aR k t i ≠ 16 := by
        rcases Nat.eq_or_lt_of_le a' with q | q
        · rw [← q]; omega
        · have := c4 i q (by omega); omega
      rw [dep_no hr.1 hr.2]
      exact ih (by omega)
  have e : tE k t n s = nE k t n 7 (s + 1) := by
    refine tE_is hg hT (by omega) c2 (dep _ (by omega) (Nat.le_refl _)) (by rw [c3]; decide) (fun i a b z => ?_)
    have z2 := eI_iff.mp z.2
    rcases Nat.eq_or_lt_of_le a with q | q
    · rw [← q] at z2; omega
    · have := c4 i q b; omega
  refine ⟨e, ?_, by omega⟩
  have : nE k t n 7 (s + 1) ≠ s + 1 := fun z => by rw [z] at c3; omega
  omega
/-- within a CLASS, at its depth -/
theorem cls_in {k : Nat} {t : Nat → Nat} {n s : Nat} (hg : Gd k t n) (hs : s < n) (h : aR k t s = 9) : ∀ j, s < j → j ≤ tE k t n s → (aS k t j).2.1 = (aS k t s).2.1 → inC (aS k t j).1 = true := by
  have hT : TS k t n s := ⟨hs, by omega⟩
  obtain ⟨a1, a2, a3, a4, a5, a6⟩ := tE_sp hg hT
  intro j h1
  induction h1 with
  | refl => intro _ _; rw [aS_succ]; show inC (aR k t s) = true; rw [h]; decide
  | @step j h1 ih =>
    intro h2 h3
    have h1' : s < j := h1
    rw [aS_succ]
    show inC (aR k t j) = true
    by_cases r16 : aR k t j = 16
    · rw [r16]; decide
    · have r15 : aR k t j ≠ 15 := fun z => by
        have := a6 j (by omega) (by omega)
        rw [dep_15 z] at h3; omega
      rw [dep_no r15 r16] at h3
      have hi := ih (by omega) h3
      have hc := (stC_of hg (p := j) (by omega)).1.mp hi
      have h14 : aR k t j ≠ 14 := fun z => a5 j (by omega) (by omega) ⟨h3, by rw [z]; decide⟩
      simp only [inC, Bool.or_eq_true, beq_iff_eq]
      omega
theorem cls_role {k : Nat} {t : Nat → Nat} {n s : Nat} (hg : Gd k t n) (hs : s < n) (h : aR k t s = 9) {j : Nat} (h1 : s ≤ j) (h2 : j ≤ tE k t n s) (h3 : (aS k t j).2.1 = (aS k t s).2.1) : aR k t j = 9 ∨ aR k t j = 10 ∨ aR k t j = 11 ∨ aR k t j = 12 ∨ aR k t j = 13 ∨ aR k t j = 14 ∨ aR k t j = 15 := by
  rcases Nat.eq_or_lt_of_le h1 with q | q
  · rw [← q]; omega
  · have hi := cls_in hg hs h j q h2 h3
    have a2 := (tE_sp hg (show TS k t n s from ⟨hs, by omega⟩)).2.1
    have := (stC_of hg (p := j) (by omega)).1.mp hi
    omega
