/-! clash -/
/-- an erased TYPE shows where it ends -/
def ET (e : List Nat) : Prop := ∃ m b, e = List.replicate m 91 ++ b ∧ ((∃ c, b = [c] ∧ c ≠ 91 ∧ c ≠ 76) ∨ (∃ s, b = 76 :: (s ++ [59]) ∧ 59 ∉ s))
theorem ET_br {m : Nat} {e : List Nat} (h : ET e) : ET (List.replicate m 91 ++ e) := by
  obtain ⟨m', b, e1, e2⟩ := h
  refine ⟨m + m', b, ?_, e2⟩
  rw [e1, ← List.append_assoc, List.replicate_append_replicate]
theorem semi_split {s s' r r' : List Nat} (h : 59 ∉ s) (h' : 59 ∉ s') (e : s ++ 59 :: r = s' ++ 59 :: r') : s = s' ∧ r = r' := by
  induction s generalizing s' with
  | nil =>
    cases s' with
    | nil => simp at e; exact ⟨rfl, e⟩
    | cons c s' =>
      simp at e
      simp at h'
      exact absurd e.1 h'.1
  | cons c s ih =>
    cases s' with
    | nil =>
      simp at e
      simp at h
      exact absurd e.1.symm h.1
    | cons c' s' =>
      simp at e h h'
      obtain ⟨e1, e2⟩ := e
      obtain ⟨f1, f2⟩ := ih h.2 h'.2 e2
      exact ⟨by rw [e1, f1], f2⟩
theorem ET_split {e e' r r' : List Nat} (h : ET e) (h' : ET e') (eq : e ++ r = e' ++ r') : e = e' ∧ r = r' := by
  obtain ⟨m, b, e1, e2⟩ := h
  obtain ⟨m', b', e1', e2'⟩ := h'
  subst e1
  subst e1'
  induction m generalizing m' with
  | zero =>
    cases m' with
    | zero =>
      simp only [List.replicate_zero, List.nil_append] at eq ⊢
      rcases e2 with ⟨c, rfl, c1, c2⟩ | ⟨s, rfl, hs⟩
      · rcases e2' with ⟨c', rfl, c1', c2'⟩ | ⟨s', rfl, hs'⟩
        · simp at eq
          exact ⟨by rw [eq.1], eq.2⟩
        · simp at eq
          exact absurd eq.1 c2
      · rcases e2' with ⟨c', rfl, c1', c2'⟩ | ⟨s', rfl, hs'⟩
        · simp at eq
          exact absurd eq.1.symm c2'
        · simp at eq
          obtain ⟨f1, f2⟩ := semi_split hs hs' eq
          exact ⟨by rw [f1], f2⟩
    | succ m' =>
      exfalso
      simp only [List.replicate_zero, List.nil_append, List.replicate_succ, List.cons_append] at eq
      rcases e2 with ⟨c, rfl, c1, c2⟩ | ⟨s, rfl, hs⟩
      · simp at eq
        exact c1 eq.1
      · simp at eq
  | succ m ih =>
    cases m' with
    | zero =>
      exfalso
      simp only [List.replicate_zero, List.nil_append, List.replicate_succ, List.cons_append] at eq
      rcases e2' with ⟨c', rfl, c1', c2'⟩ | ⟨s', rfl, hs'⟩
      · simp at eq
        exact c1' eq.1.symm
      · simp at eq
    | succ m' =>
      simp only [List.replicate_succ, List.cons_append, List.cons.injEq, true_and] at eq
      obtain ⟨f1, f2⟩ := ih m' eq
      exact ⟨by rw [List.replicate_succ, List.replicate_succ, List.cons_append, List.cons_append, f1], f2⟩
theorem ET_ne {e : List Nat} (h : ET e) : e ≠ [] := by
  obtain ⟨m, b, e1, e2⟩ := h
  intro z
  rw [e1] at z
  rcases e2 with ⟨c, rfl, -⟩ | ⟨s, rfl, -⟩ <;> simp at z
/-- so the whole shows the parts -/
theorem ET_flat : ∀ {A B : List (List Nat)}, (∀ e ∈ A, ET e) → (∀ e ∈ B, ET e) → A.flatten = B.flatten → A = B
  | [], [], _, _, _ => rfl
  | [], b :: B, _, hB, h => by
    exfalso
    simp at h
    exact ET_ne (hB b (by simp)) h.1
  | a :: A, [], hA, _, h => by
    exfalso
    simp at h
    exact ET_ne (hA a (by simp)) h.1
  | a :: A, b :: B, hA, hB, h => by
    rw [List.flatten_cons, List.flatten_cons] at h
    obtain ⟨f1, f2⟩ := ET_split (hA a (by simp)) (hB b (by simp)) h
    rw [f1, ET_flat (fun e he => hA e (by simp [he])) (fun e he => hB e (by simp [he])) f2]
theorem ET_OBJ : ET OBJ := ⟨0, OBJ, rfl, Or.inr ⟨[106, 97, 118, 97, 47, 108, 97, 110, 103, 47, 79, 98, 106, 101, 99, 116], by decide, by decide⟩⟩
def stZ (k l x : Nat) (dp : Bool) (c r : Nat) : Bool := r == 0 || ((if r = 9 then c == 76 else true) && (if r = 14 then c == 59 else true) && (if r = 10 || r = 13 then c != 59 else true) && (if r = 11 then c == 47 else true) && (if r = 20 then c != 91 && c != 76 else true) && (if x = 2 && !dp && (l = 22 || l = 14 || l = 8 || l = 20 || l = 21 || l = 17) then r == 23 || r == 9 || r == 6 || r == 19 || r == 20 else true))
theorem stZ_all : pAll 3 (fun k => pAll 4 (fun x => pAll 25 (fun l => pAll 127 (fun c => stQ stZ k x l c)))) = true := by decide +kernel
theorem stZ_of {k : Nat} {t : Nat → Nat} {n p : Nat} (hg : Gd k t n) (hp : p < n) : (aR k t p = 9 → t p = 76) ∧ (aR k t p = 14 → t p = 59) ∧ (aR k t p = 10 ∨ aR k t p = 13 → t p ≠ 59) ∧ (aR k t p = 11 → t p = 47) ∧ (aR k t p = 20 → t p ≠ 91 ∧ t p ≠ 76) ∧ ((aS k t p).2.2 = 2 → (aS k t p).2.1 = 0 → ((aS k t p).1 = 22 ∨ eI (aS k t p).1 = true) → aR k t p = 23 ∨ aR k t p = 9 ∨ aR k t p = 6 ∨ aR k t p = 19 ∨ aR k t p = 20) := by
  have c := st_all _ stZ_all hg hp
  have h0 := hg.r0 hp
  unfold stZ at c
  simp only [Bool.or_eq_true, Bool.and_eq_true, beq_iff_eq] at c
  rcases c with c | ⟨⟨⟨⟨⟨c1, c2⟩, c3⟩, c4⟩, c5⟩, c6⟩
  · exact absurd c h0
  · refine ⟨fun z => ?_, fun z => ?_, fun z => ?_, fun z => ?_, fun z => ?_, fun z1 z2 z3 => ?_⟩
    · rw [if_pos z] at c1; simpa using c1
    · rw [if_pos z] at c2; simpa using c2
    · rw [if_pos (by simpa using z)] at c3; simpa using c3
    · rw [if_pos z] at c4; simpa using c4
    · rw [if_pos z] at c5; simpa using c5
    · rw [if_pos (by
        rw [eI_iff] at z3
        simp only [Bool.not_eq_true', decide_eq_false_iff_not, decide_eq_true_eq]
        omega)] at c6
      simp only [Bool.or_eq_true, beq_iff_eq] at c6
      omega
theorem ET_nl {k : Nat} {t : Nat → Nat} {n b : Nat} (hg : Gd k t n) (hs : TS k t n b) (r : aR k t b = 9 ∨ aR k t b = 20) : ET (nl k t n b) := by
  rcases r with r | r
  · obtain ⟨a1, a2, a3, a4, a5, a6⟩ := tE_sp hg hs
    have h14 : aR k t (tE k t n b) = 14 := by
      have := cls_role hg hs.1 r a1 (Nat.le_refl _) a3
      have := eI_iff.mp a4
      omega
    have hlt : b < tE k t n b := by
      rcases Nat.eq_or_lt_of_le a1 with q | q
      · rw [← q] at h14; omega
      · exact q
    -- the inner part
    have inner : ∀ m, b + m ≤ tE k t n b → ∀ x, m = x + 1 → ∃ s, np k t (aS k t b).2.1 b m = 76 :: s ∧ 59 ∉ s := by
      intro m
      induction m with
      | zero => intro _ x hx; omega
      | succ m ih =>
        intro hm x hx
        rcases Nat.eq_zero_or_pos m with q | q
        · subst q
          refine ⟨[], ?_, by simp⟩
          show [] ++ emN k t (aS k t b).2.1 (b + 0) = _
          unfold emN
          rw [Nat.add_zero, if_pos ⟨rfl, by omega, by omega⟩, if_neg (by omega), (stZ_of hg hs.1).1 r]
          rfl
        · obtain ⟨s, e1, e2⟩ := ih (by omega) (m - 1) (by omega)
          show ∃ s, np k t (aS k t b).2.1 b m ++ emN k t (aS k t b).2.1 (b + m) = 76 :: s ∧ 59 ∉ s
          rw [e1]
          unfold emN
          by_cases c : (aS k t (b + m)).2.1 = (aS k t b).2.1 ∧ aR k t (b + m) ≠ 15 ∧ aR k t (b + m) ≠ 16
          · rw [if_pos c]
            have hr := cls_role hg hs.1 r (j := b + m) (by omega) (by omega) c.1
            have hst := stZ_of hg (p := b + m) (by omega)
            have hn14 : aR k t (b + m) ≠ 14 := fun z => a5 (b + m) (by omega) (by omega) ⟨c.1, by rw [z]; decide⟩
            have hn9 : aR k t (b + m) ≠ 9 := fun z => by
              have := (stC_of hg (p := b + m) (by omega)).1.mp (cls_in hg hs.1 r (b + m) (by omega) (by omega) c.1)
              omega
            refine ⟨s ++ [if aR k t (b + m) = 12 then 36 else t (b + m)], rfl, ?_⟩
            rw [List.mem_append]
            rintro (z | z)
            · exact e2 z
            · simp only [List.mem_singleton] at z
              by_cases q12 : aR k t (b + m) = 12
              · rw [if_pos q12] at z; omega
              · rw [if_neg q12] at z
                rcases (by omega : aR k t (b + m) = 10 ∨ aR k t (b + m) = 13 ∨ aR k t (b + m) = 11) with w | w | w
                · exact hst.2.2.1 (Or.inl w) z.symm
                · exact hst.2.2.1 (Or.inr w) z.symm
                · have := hst.2.2.2.1 w; omega
          · rw [if_neg c, List.append_nil]
            exact ⟨s, rfl, e2⟩
    obtain ⟨s, e1, e2⟩ := inner (tE k t n b - b) (by omega) (tE k t n b - b - 1) (by omega)
    refine ⟨0, nl k t n b, rfl, Or.inr ⟨s, ?_, e2⟩⟩
    unfold nl
    rw [show tE k t n b + 1 - b = (tE k t n b - b) + 1 by omega]
    show np k t (aS k t b).2.1 b (tE k t n b - b) ++ emN k t (aS k t b).2.1 (b + (tE k t n b - b)) = _
    rw [e1, show b + (tE k t n b - b) = tE k t n b by omega]
    unfold emN
    rw [if_pos ⟨a3, by omega, by omega⟩, if_neg (by omega), (stZ_of hg a2).2.1 h14]
    rfl
  · obtain ⟨n1, n2⟩ := nl_one hg hs (Or.inl r)
    have := (stZ_of hg hs.1).2.2.2.2.1 r
    exact ⟨0, nl k t n b, rfl, Or.inl ⟨t b, n1, this.1, this.2⟩⟩
theorem br_21 {k : Nat} {t : Nat → Nat} {n s : Nat} (hg : Gd k t n) (hs : TS k t n s) (h21 : aR k t s ≠ 21) : aR k t (nE k t n 19 s) ≠ 21 := by
  obtain ⟨b1, b2, b3, b4, b5⟩ := br_sp hg hs
  intro z
  rcases Nat.eq_or_lt_of_le b1 with q | q
  · rw [← q] at z; exact h21 z
  · have h1 := b4 (nE k t n 19 s - 1) (by omega) (by omega)
    have := (stG_of hg b2).2 (l_of (by omega) h1)
    omega
theorem ET_chN {k : Nat} {t : Nat → Nat} {n : Nat} (hg : Gd k t n) : ∀ (w : Nat) (V : Nat → Bool) (j : Nat), TS k t n j → aR k t j ≠ 21 → cN V (aC k t n) < w → ET (chN k t n w V j)
  | 0, _, _, _, _, h => absurd h (Nat.not_lt_zero _)
  | w + 1, V, j, hs, h21, hc => by
    rw [chN_O]
    refine ET_br ?_
    obtain ⟨b1, b2, b3, b4, b5⟩ := br_sp hg hs
    obtain ⟨hT, eT', hle⟩ := br_TS hg hs
    have hb21 := br_21 hg hs h21
    by_cases e6 : aR k t (nE k t n 19 j) = 6
    · rw [if_neg (by omega)]
      cases hp : pF k t n t (nE k t n 19 j + 1) (nE k t n 7 (nE k t n 19 j + 1)) with
      | none => exact ET_OBJ
      | some i =>
        have hi := (pF_lt hp).1
        unfold chO
        dsimp only
        cases hf : aFb k t n i with
        | none => exact ET_OBJ
        | some q =>
          dsimp only
          cases hv : V i with
          | true => exact ET_OBJ
          | false =>
            rw [if_neg (by decide)]
            obtain ⟨t1, t2, -⟩ := fB_TS hg hi hf
            have := cN_set hv (aC k t n) hi
            exact ET_chN hg w (vS V i) q t1 t2 (by omega)
    · rw [if_pos e6]
      exact ET_nl hg hT (by omega)
theorem ET_chS {k k' : Nat} {t t' : Nat → Nat} {n n' : Nat} (hg : Gd k t n) (hg' : Gd k' t' n') : ∀ (w : Nat) (V : Nat → Bool) (j : Nat), TS k t n j → aR k t j ≠ 21 → cN V (aC k t n) < w → ET (chS k t n k' t' n' w V j)
  | 0, _, _, _, _, h => absurd h (Nat.not_lt_zero _)
  | w + 1, V, j, hs, h21, hc => by
    unfold chS
    refine ET_br ?_
    obtain ⟨b1, b2, b3, b4, b5⟩ := br_sp hg hs
    obtain ⟨hT, eT', hle⟩ := br_TS hg hs
    have hb21 := br_21 hg hs h21
    by_cases e6 : aR k t (nE k t n 19 j) = 6
    · rw [if_neg (by omega)]
      cases hp : pF k t n t (nE k t n 19 j + 1) (nE k t n 7 (nE k t n 19 j + 1)) with
      | none =>
        dsimp only
        cases hp2 : pF k' t' n' t (nE k t n 19 j + 1) (nE k t n 7 (nE k t n 19 j + 1)) with
        | none => exact ET_OBJ
        | some i =>
          have hi := (pF_lt hp2).1
          unfold chO
          dsimp only
          cases hf : aFb k' t' n' i with
          | none => exact ET_OBJ
          | some q =>
            dsimp only
            rw [if_neg (by decide)]
            obtain ⟨t1, t2, -⟩ := fB_TS hg' hi hf
            have h1 := cN_set (V := fun _ => false) (j := i) rfl (aC k' t' n') hi
            have h2 := cN_le (fun _ => false) (aC k' t' n')
            have h3 := hg'.2.2.2.2.2
            exact ET_chN hg' 21 _ q t1 t2 (by omega)
      | some i =>
        have hi := (pF_lt hp).1
        dsimp only
        cases hf : aFb k t n i with
        | none => exact ET_OBJ
        | some q =>
          dsimp only
          cases hv : V i with
          | true => exact ET_OBJ
          | false =>
            rw [if_neg (by decide)]
            obtain ⟨t1, t2, -⟩ := fB_TS hg hi hf
            have := cN_set hv (aC k t n) hi
            exact ET_chS hg hg' w (vS V i) q t1 t2 (by omega)
    · rw [if_pos e6]
      exact ET_nl hg hT (by omega)
theorem ET_eT {k : Nat} {t : Nat → Nat} {n : Nat} {sc : Sc} {j : Nat} (hg : Gd k t n) (hsc : ScG sc) (hs : TS k t n j) (h21 : aR k t j ≠ 21) : ET (eT k t n sc j) := by
  have hc : cN nV (aC k t n) < 21 := by have := cN_le nV (aC k t n); have := hg.2.2.2.2.2; omega
  cases sc with
  | none => exact ET_chN hg 21 nV j hs h21 hc
  | some S => exact ET_chS hg hsc.1 21 nV j hs h21 hc
/-- between the ( and ) -/
def Bp (k : Nat) (t : Nat → Nat) (n j : Nat) : Prop := Bd k t n j ∧ (aS k t j).2.2 = 2 ∧ ((aS k t j).1 = 22 ∨ eI (aS k t j).1 = true)
theorem Bp_lt {k : Nat} {t : Nat → Nat} {n j : Nat} (hg : Gd k t n) (hk : k = 1) (h : Bp k t n j) : j < n := by
  have h2 := h.1.2.1
  rcases Nat.lt_or_ge j n with q | q
  · exact q
  · exfalso
    have e : j = n := by omega
    have hx := hg.2.2.2.2.1.1
    have := h.2.1
    rw [e] at this
    omega
theorem Bp_0 {k : Nat} {t : Nat → Nat} {n : Nat} (hg : Gd k t n) (hk : k = 1) : aO k t n < n ∧ aR k t (aO k t n) = 22 ∧ Bp k t n (aO k t n + 1) := by
  subst hk
  have hb := Bd_0 hg
  have hle := aO_le 1 t n
  have hl0 : (aS 1 t (aO 1 t n)).1 = 0 ∨ (aS 1 t (aO 1 t n)).1 = 5 := by
    rcases Nat.eq_zero_or_pos (aC 1 t n) with z | z
    · rw [(O_0 hg z).1]; exact Or.inl rfl
    · obtain ⟨o1, o2, o3, -⟩ := O_1 hg z
      exact Or.inr (l_of (by omega) o3)
  have hl : aO 1 t n < n := by
    rcases Nat.lt_or_ge (aO 1 t n) n with q | q
    · exact q
    · exfalso
      have e : aO 1 t n = n := by omega
      have hx := end_l hg
      rw [e] at hl0
      omega
  have r22 : aR 1 t (aO 1 t n) = 22 := by
    rcases (stH_of hg hl).2.2.1 rfl hl0 with r | r
    · exact r
    · rcases Bd_role hg hb hl with q | q | q | q
      · exact q
      · omega
      · omega
      · have := q.2; omega
  refine ⟨hl, r22, Bd_sign hb hl (Or.inl r22), ?_, ?_⟩
  · rw [sec_next, if_neg (by omega), if_neg (by omega), if_pos r22]
  · left; rw [aS_succ]; exact r22
theorem Bp_next {k : Nat} {t : Nat → Nat} {n j : Nat} (hg : Gd k t n) (hk : k = 1) (h : Bp k t n j) (h23 : aR k t j ≠ 23) : TS k t n j ∧ aR k t j ≠ 21 ∧ Bp k t n (tE k t n j + 1) ∧ j < tE k t n j + 1 := by
  have hj := Bp_lt hg hk h
  have hr := (stZ_of hg hj).2.2.2.2.2 h.2.1 h.1.2.2.1 h.2.2
  have hs : TS k t n j := ⟨hj, by omega⟩
  obtain ⟨b1, b2⟩ := Bd_type hg h.1 hs
  have a := tE_sp hg hs
  refine ⟨hs, by omega, ⟨b1, by rw [typ_sec hg hs _ (by omega) (Nat.le_refl _)]; exact h.2.1, ?_⟩, b2⟩
  right; rw [aS_succ]; exact a.2.2.2.1
/-- the TYPEs between ( and ), erased -/
def its (k : Nat) (t : Nat → Nat) (n : Nat) (sc : Sc) : Nat → Nat → List (List Nat)
  | 0, _ => []
  | w + 1, j => if aR k t j = 23 then [] else eT k t n sc j :: its k t n sc w (tE k t n j + 1)
theorem its_flat {k : Nat} {t : Nat → Nat} {n : Nat} {sc : Sc} (hg : Gd k t n) (hk : k = 1) : ∀ w j, Bp k t n j → eA k t n sc true w j = (its k t n sc w j).flatten
  | 0, _, _ => rfl
  | w + 1, j, h => by
    have hj := Bp_lt hg hk h
    unfold eA its
    rw [if_pos hj]
    by_cases r23 : aR k t j = 23
    · rw [if_pos r23, if_pos (Or.inr ⟨rfl, r23⟩)]; rfl
    · obtain ⟨hs, h21, hb, hlt⟩ := Bp_next hg hk h r23
      have := hs.2
      rw [if_neg r23, if_neg (by omega), if_neg (by omega), its_flat hg hk w _ hb, List.flatten_cons]
theorem its_ET {k : Nat} {t : Nat → Nat} {n : Nat} {sc : Sc} (hg : Gd k t n) (hsc : ScG sc) (hk : k = 1) : ∀ w j, Bp k t n j → ∀ e ∈ its k t n sc w j, ET e
  | 0, _, _, e, he => by simp [its] at he
  | w + 1, j, h, e, he => by
    unfold its at he
    by_cases r23 : aR k t j = 23
    · rw [if_pos r23] at he; simp at he
    · obtain ⟨hs, h21, hb, hlt⟩ := Bp_next hg hk h r23
      rw [if_neg r23, List.mem_cons] at he
      rcases he with rfl | he
      · exact ET_eT hg hsc hs h21
      · exact its_ET hg hsc hk w _ hb e he
theorem r_holds {post : Int32 → Prop} {u v : RowC} {A B : List Nat} (hu : RwI u 260 A) (hv : RwI v 260 B) (hA : ∀ c ∈ A, c < 2 ^ 31) (hB : ∀ c ∈ B, c < 2 ^ 31) (h1 : A = B → post 1) (h0 : A ≠ B → post 0) : wp_Rw_holdsSameAs post u v := by
  obtain ⟨a1, a2, a3, a4⟩ := hu
  obtain ⟨b1, b2, b3, b4⟩ := hv
  unfold wp_Rw_holdsSameAs
  rw [a2, b2]
  refine b_eq' (by omega) (by omega) (fun e => ?_) (fun e => h0 (fun z => e (by rw [z])))
  have ge : ∀ i, i < A.length → (A.getD i 0 = B.getD i 0 ↔ nI (A.getD i 0) = nI (B.getD i 0)) := by
    intro i hi
    have m1 : A.getD i 0 < 2 ^ 31 := hA _ (by rw [List.getD_eq_getElem?_getD, List.getElem?_eq_getElem hi]; exact List.getElem_mem hi)
    have m2 : B.getD i 0 < 2 ^ 31 := hB _ (by rw [List.getD_eq_getElem?_getD, List.getElem?_eq_getElem (by omega)]; exact List.getElem_mem (by omega))
    exact (nI_eq m1 m2).symm
  have all : (∀ i, i < A.length → A.getD i 0 = B.getD i 0) → A = B := by
    intro z
    apply List.ext_getElem e
    intro i p1 p2
    have := z i p1
    rw [List.getD_eq_getElem?_getD, List.getD_eq_getElem?_getD, List.getElem?_eq_getElem p1, List.getElem?_eq_getElem p2] at this
    exact this
  have lp := lpN (n := A.length) (W := fun f i => (∀ j, j < i → A.getD j 0 = B.getD j 0) → w_Rw_holdsSameAs_15 post u v f (nI i)) (fun f q => ?_) (fun f i hi ih q => ?_) 0 (by omega)
  · obtain ⟨f, hf⟩ := lp
    exact ⟨f, hf (fun j hj => absurd hj (by omega))⟩
  · unfold w_Rw_holdsSameAs_15 wb_Rw_holdsSameAs_15
    rw [a2]
    exact b_le (by omega) (by omega) (fun _ => h1 (all q)) (fun z => absurd z (by omega))
  · unfold w_Rw_holdsSameAs_15 wb_Rw_holdsSameAs_15
    rw [a2, a1, b1, ofN]
    refine b_le (by omega) (by omega) (fun z => absurd z (by omega)) (fun _ => b_le (by omega) (by decide) (fun z => absurd z (by omega)) (fun _ => b_le (by omega) (by decide) (fun z => absurd z (by omega)) (fun _ => ⟨vp_in_nI (by omega) (by decide), vp_in_nI (by omega) (by decide), ?_⟩)))
    rw [nI_clamp (by omega), a4 i hi, b4 i (by omega), nI_1]
    refine ⟨fun z => ih (fun j hj => ?_), fun z => h0 (fun w => z (by rw [w]))⟩
    rcases Nat.lt_succ_iff_lt_or_eq.mp hj with w | w
    · exact q j w
    · rw [w]; exact (ge i hi).mpr z
