/-! the class, with a scope -/
theorem chN_O (k : Nat) (t : Nat → Nat) (n w : Nat) (V : Nat → Bool) (j : Nat) : chN k t n (w + 1) V j = List.replicate (nE k t n 19 j - j) 91 ++ (if aR k t (nE k t n 19 j) ≠ 6 then nl k t n (nE k t n 19 j) else chO k t n w V (pF k t n t (nE k t n 19 j + 1) (nE k t n 7 (nE k t n 19 j + 1)))) := rfl
theorem r_eraseA {post : RowC → Prop} {u1 u : SgC} {k : Nat} {t : Nat → Nat} {n N : Nat} (hu : SgI u k t n) (hg : Gd k t n) (hN : N < 2 ^ 20) : ∀ (w : Nat) (V : Nat → Bool) (op : Option Nat) (o : Int64) (st B : Nat) (r : RowC) (L : List Nat), (∀ i, op = some i → i < aC k t n) → cN V (aC k t n) ≤ w → BM o V → st + w ≤ 200 → RwI r N L → L.length + B ≤ N → 18 ≤ B → ph V (wd k t n) (aC k t n) + 13 ≤ B → (∀ r', RwI r' N (L ++ chO k t n w V op) → post r') → w_Er_erase_109a post u1 u (w + 1) o (nI st) (oI op) r := by
  have hn := hg.2.1
  have hm := hg.2.2.2.2.2
  intro w
  induction w with
  | zero =>
    intro V op o st B r L hop hc hB hst hr hl h18 hph h
    have obj : chO k t n 0 V op = OBJ → w_Er_erase_146 post u1 u r := by
      intro q
      exact r_addText hr hN (by decide) (by rw [show (wL 12).length = 18 from OBJ_len]; omega) (fun r2 hr2 => h r2 (by rw [q]; exact hr2))
    unfold w_Er_erase_109a wb_Er_erase_109a w_Er_erase_126a
    cases op with
    | none => exact ⟨fun y => absurd rfl y, fun _ => ⟨fun _ => obj rfl, fun y => absurd rfl y⟩⟩
    | some i =>
      have hi := hop i rfl
      have hne : ¬ oI (some i) = -1 := fun y => by have := (oI_m1 (m := 20) (fun j hj => by cases hj; omega) (by decide)).mp y; cases this
      refine ⟨fun _ => r_firstBound hu hg hi ?_, fun y => absurd y hne⟩
      cases hf : aFb k t n i with
      | none => exact ⟨fun _ => obj (by unfold chO; simp only [hf]), fun y => absurd rfl y⟩
      | some q =>
        have hq := (fB_TS hg hi hf).1.1
        have hne2 : ¬ oI (some q) = -1 := fun y => by have := (oI_m1 (m := 200) (fun j hj => by cases hj; omega) (by decide)).mp y; cases this
        have hb := hB i (by omega)
        have hv : V i = true := by
          cases hv : V i
          · have := cN_pos hv hi; omega
          · rfl
        exact ⟨fun y => absurd y hne2, fun _ => ⟨fun y => absurd (hv.symm.trans (hb.mp y)) (by decide), fun _ => obj (by unfold chO; simp only [hf, hv, if_true])⟩⟩
  | succ w ih =>
    intro V op o st B r L hop hc hB hst hr hl h18 hph h
    have obj : chO k t n (w + 1) V op = OBJ → w_Er_erase_146 post u1 u r := by
      intro q
      exact r_addText hr hN (by decide) (by rw [show (wL 12).length = 18 from OBJ_len]; omega) (fun r2 hr2 => h r2 (by rw [q]; exact hr2))
    unfold w_Er_erase_109a wb_Er_erase_109a w_Er_erase_126a
    cases op with
    | none => exact ⟨fun y => absurd rfl y, fun _ => ⟨fun _ => obj rfl, fun y => absurd rfl y⟩⟩
    | some i =>
      have hi := hop i rfl
      have hne : ¬ oI (some i) = -1 := fun y => by have := (oI_m1 (m := 20) (fun j hj => by cases hj; omega) (by decide)).mp y; cases this
      refine ⟨fun _ => r_firstBound hu hg hi ?_, fun y => absurd y hne⟩
      cases hf : aFb k t n i with
      | none => exact ⟨fun _ => obj (by unfold chO; simp only [hf]), fun y => absurd rfl y⟩
      | some q =>
        obtain ⟨t1, t2, t3, t4, t5⟩ := fB_TS hg hi hf
        have hq := t1.1
        have hne2 : ¬ oI (some q) = -1 := fun y => by have := (oI_m1 (m := 200) (fun j hj => by cases hj; omega) (by decide)).mp y; cases this
        have hb := hB i (by omega)
        have hvt : ¬ V i = false → V i = true := fun w => by simpa using w
        have objv : V i = true → w_Er_erase_146 post u1 u r := fun hv => obj (by unfold chO; simp only [hf, hv, if_true])
        refine ⟨fun y => absurd y hne2, fun _ => ⟨fun y => ?_, fun y => objv (hvt (fun w => y (hb.mpr w)))⟩⟩
        have hv := hb.mp y
        have hph2 := ph_set (w := wd k t n) hv (aC k t n) hi
        have hcc := cN_set hv (aC k t n) hi
        have ech : chO k t n (w + 1) V (some i) = chN k t n (w + 1) (vS V i) q := by unfold chO; simp only [hf, hv, Bool.false_eq_true, if_false]
        rw [ech, chN_O] at h
        obtain ⟨b1, b2, b3, b4, b5⟩ := br_sp hg t1
        obtain ⟨hT, eT, hle⟩ := br_TS hg t1
        unfold w_Er_erase_23a
        rw [nI_1]
        refine b_lt (a := 240) (by decide) (by omega) (fun z => absurd z (by omega)) (fun _ => r_eraseBrackets hu hg t1 hr hN (by omega) (fun r1 hr1 => ?_))
        have hnam := bnd_named (c := 15) (V := vS V i) hg t1
        have hbq : bnd k t n 15 (vS V i) q ≤ B := by
          have : bnd k t n 15 (vS V i) q ≤ (tE k t n q + 1 - q) + (ph (vS V i) (wd k t n) (aC k t n) + 15) := by unfold bnd; split <;> omega
          omega
        have hvar := bnd_var (c := 15) (V := vS V i) hg t1
        generalize hbb : nE k t n 19 q = b at *
        have hrb := aR_lt k t b
        have hlen1 : (L ++ List.replicate (b - q) 91).length = L.length + (b - q) := by rw [List.length_append, List.length_replicate]
        refine r_roleAt hu hn (by omega) ?_
        rw [gR_in b2]
        refine b_eq' (k := 6) (by omega) (by decide) (fun e6 => ?_) (fun n6 => ?_)
        · rw [if_neg (by omega)] at h
          have hvar := hvar e6
          obtain ⟨z1, z2⟩ := var_next hg b2 e6
          rw [nI_1]
          refine r_parameterNamed hu hg hu hg (by omega) ?_
          rw [gR_in z1, z2]
          have go := ih (vS V i) (pF k t n t (b + 1) (nE k t n 7 (b + 1))) (o ||| (1 <<< ((nI i).toInt64 &&& 63))) (st + 1) (B - (b - q)) r1 (L ++ List.replicate (b - q) 91) (fun i2 h2 => (pF_lt h2).1) (by omega) (BM_set hB (by omega)) (by omega) hr1 (by rw [hlen1]; omega) (by omega) (by omega) (fun r2 hr2 => h r2 (by rw [← List.append_assoc]; exact hr2))
          exact ⟨fun _ => go, fun _ => go⟩
        · rw [if_pos n6] at h
          refine r_eraseNamed hu hg hT hr1 hN (by rw [hlen1]; omega) (fun r2 hr2 => h r2 ?_)
          rw [← List.append_assoc]
          exact hr2
/-- how wide all parameters are -/
theorem ph_all {k : Nat} {t : Nat → Nat} {n : Nat} (hg : Gd k t n) : ph (fun _ => false) (wd k t n) (aC k t n) + 2 ≤ aO k t n ∨ (aC k t n = 0 ∧ ph (fun _ => false) (wd k t n) (aC k t n) = 0) := by
  rcases Nat.eq_zero_or_pos (aC k t n) with z | z
  · exact Or.inr ⟨z, by rw [z]; rfl⟩
  · left
    have h0 : 1 ≤ aB k t n 0 := by
      obtain ⟨b1, b2, b3⟩ := aB_at k t n 0 z
      rcases Nat.eq_zero_or_pos (aB k t n 0) with q | q
      · rw [q] at b2
        have hr : aR k t 0 = 2 := by simp only [aN, Bool.and_eq_true, beq_iff_eq] at b2; exact b2.1
        have hx := ((stX_of hg (p := 0) (by omega)).2.1 (by omega)).1
        simp [aS] at hx
      · exact q
    have : ∀ i, i ≤ aC k t n → 0 < i → ph (fun _ => false) (wd k t n) i + aB k t n 0 = pE k t n (i - 1) := by
      intro i
      induction i with
      | zero => intro _ q; omega
      | succ i ih =>
        intro h1 _
        have hp := pE_in hg (j := i) (by omega)
        show ph (fun _ => false) (wd k t n) i + (if false = true then 0 else wd k t n i) + aB k t n 0 = pE k t n (i + 1 - 1)
        rw [if_neg (by decide), Nat.add_sub_cancel]
        unfold wd
        rcases Nat.eq_zero_or_pos i with q | q
        · subst q
          show 0 + (pE k t n 0 - aB k t n 0) + aB k t n 0 = _
          omega
        · have hi := ih (by omega) q
          have e : pE k t n (i - 1) = aB k t n i := by
            unfold pE
            rw [show i - 1 + 1 = i by omega, if_pos (by omega)]
          unfold wd at hi
          omega
    have h1 := this (aC k t n) (Nat.le_refl _) z
    have h2 := pE_in hg (j := aC k t n - 1) (by omega)
    have h3 : pE k t n (aC k t n - 1) = aO k t n - 1 := by unfold pE; rw [if_neg (by omega)]
    omega
/-- the body of a class is a CLASS at least -/
theorem body_9 {k : Nat} {t : Nat → Nat} {n : Nat} (hg : Gd k t n) (hk : k = 0) : aO k t n < n ∧ aR k t (aO k t n) = 9 ∧ aO k t n + 3 ≤ n := by
  have hl := end_l hg
  have hlo : (aS k t (aO k t n)).1 = 5 ∨ (aO k t n = 0 ∧ aC k t n = 0) := by
    rcases Nat.eq_zero_or_pos (aC k t n) with z | z
    · exact Or.inr ⟨(O_0 hg z).1, z⟩
    · obtain ⟨o1, o2, o3, -⟩ := O_1 hg z
      left
      have : aO k t n = (aO k t n - 1) + 1 := by omega
      rw [this, aS_succ]
      exact o3
  have hle := aO_le k t n
  have hlt : aO k t n < n := by
    rcases Nat.lt_or_ge (aO k t n) n with q | q
    · exact q
    · exfalso
      have e : aO k t n = n := by omega
      rcases hlo with z | ⟨z, -⟩
      · rw [e] at z; omega
      · have hn0 : n = 0 := by omega
        rw [hn0] at hl
        simp [aS] at hl
  have hr : aR k t (aO k t n) = 9 := by
    have c := st_all (fun k l x dp c r => r == 0 || (if k = 0 ∧ (l = 5 ∨ l = 0) then r == 9 || r == 1 else true)) (by decide +kernel) hg hlt
    have h0 := hg.r0 hlt
    have hl0 : (aS k t (aO k t n)).1 = 5 ∨ (aS k t (aO k t n)).1 = 0 := by
      rcases hlo with z | ⟨z, -⟩
      · exact Or.inl z
      · rw [z]; exact Or.inr rfl
    simp only [Bool.or_eq_true, beq_iff_eq] at c
    rcases c with c | c
    · exact absurd c h0
    · rw [if_pos ⟨hk, hl0⟩] at c
      simp only [Bool.or_eq_true, beq_iff_eq] at c
      rcases c with c | c
      · exact c
      · exfalso
        have hz := l_0 hg (by omega) ((stX_of hg hlt).1 c)
        rcases hlo with z | ⟨-, z⟩
        · rw [hz] at z; simp [aS] at z
        · have hx := x_body0 hg z 1 (by omega)
          rw [hz] at c
          have e1 := sec_next (k := k) (t := t) (p := 0)
          rw [if_pos c] at e1
          exact hx e1
  refine ⟨hlt, hr, ?_⟩
  have hT : TS k t n (aO k t n) := ⟨hlt, Or.inl hr⟩
  obtain ⟨a1, a2, a3, a4, a5, a6⟩ := tE_sp hg hT
  have h4 := eI_iff.mp a4
  have n0 : tE k t n (aO k t n) ≠ aO k t n := fun z => by rw [z, hr] at h4; omega
  have n1 : tE k t n (aO k t n) ≠ aO k t n + 1 := fun z => by
    rw [z] at h4 a2
    have c := st_all (fun k l x dp c r => r == 0 || (if l = 9 then r == 10 else true)) (by decide +kernel) hg a2
    have h0 := hg.r0 a2
    simp only [Bool.or_eq_true, beq_iff_eq] at c
    rcases c with c | c
    · exact h0 c
    · rw [if_pos (by rw [aS_succ]; exact hr)] at c
      simp only [beq_iff_eq] at c
      omega
  omega
theorem ph_sc {k : Nat} {t : Nat → Nat} {n : Nat} (hg : Gd k t n) (hk : k = 0) : ph (fun _ => false) (wd k t n) (aC k t n) ≤ 115 := by
  have h1 := body_9 hg hk
  have hn := hg.2.1
  rcases ph_all hg with h | h <;> omega
theorem r_eraseS {post : RowC → Prop} {u u' : SgC} {k k' : Nat} {t t' : Nat → Nat} {n n' N : Nat} (hu : SgI u k t n) (hg : Gd k t n) (hu' : SgI u' k' t' n') (hg' : Gd k' t' n') (hk' : k' = 0) (hN : N < 2 ^ 20) : ∀ (w : Nat) (V : Nat → Bool) (j : Nat) (o : Int64) (st : Nat) (r : RowC) (L : List Nat), TS k t n j → cN V (aC k t n) < w → BM o V → st + w ≤ 100 → RwI r N L → L.length + bnd k t n 125 V j ≤ N → (∀ r', RwI r' N (L ++ chS k t n k' t' n' w V j) → post r') → w_Er_erase_23 post u u' w (nI j) o (nI st) r
  | 0, _, _, _, _, _, _, _, hc, _, _, _, _, _ => absurd hc (Nat.not_lt_zero _)
  | w + 1, V, j, o, st, r, L, hs, hc, hB, hst, hr, hl, h => by
    have hn := hg.2.1
    have hm := hg.2.2.2.2.2
    have hn' := hg'.2.1
    have hm' := hg'.2.2.2.2.2
    obtain ⟨b1, b2, b3, b4, b5⟩ := br_sp hg hs
    obtain ⟨hT, eT, hle⟩ := br_TS hg hs
    have hnam := bnd_named (c := 125) (V := V) hg hs
    have e : chS k t n k' t' n' (w + 1) V j = List.replicate (nE k t n 19 j - j) 91 ++ (if aR k t (nE k t n 19 j) ≠ 6 then nl k t n (nE k t n 19 j) else match pF k t n t (nE k t n 19 j + 1) (nE k t n 7 (nE k t n 19 j + 1)) with
      | none => chO k' t' n' 21 (fun _ => false) (pF k' t' n' t (nE k t n 19 j + 1) (nE k t n 7 (nE k t n 19 j + 1)))
      | some i => match aFb k t n i with
        | none => OBJ
        | some q => if V i = true then OBJ else chS k t n k' t' n' w (vS V i) q) := by
      rfl
    rw [e] at h
    unfold w_Er_erase_23 wb_Er_erase_23
    refine b_lt (a := 240) (by decide) (by omega) (fun z => absurd z (by omega)) (fun _ => r_eraseBrackets hu hg hs hr hN (by omega) (fun r1 hr1 => ?_))
    generalize hbb : nE k t n 19 j = b at *
    have hrb := aR_lt k t b
    refine r_roleAt hu hn (by omega) ?_
    rw [gR_in b2]
    have hlen1 : (L ++ List.replicate (b - j) 91).length = L.length + (b - j) := by rw [List.length_append, List.length_replicate]
    refine b_eq' (k := 6) (by omega) (by decide) (fun e6 => ?_) (fun n6 => ?_)
    · rw [if_neg (by omega)] at h
      have hvar := bnd_var (c := 125) (V := V) hg hs (by rw [hbb]; exact e6)
      rw [hbb] at hvar
      obtain ⟨z1, z2⟩ := var_next hg b2 e6
      have obj : (∀ r', RwI r' N (L ++ (List.replicate (b - j) 91 ++ OBJ)) → post r') → w_Er_erase_146 post u u' r1 := by
        intro q
        refine r_addText hr1 hN (by decide) (by rw [hlen1, show (wL 12).length = 18 from OBJ_len]; omega) (fun r2 hr2 => q r2 ?_)
        rw [← List.append_assoc]
        exact hr2
      rw [nI_1]
      refine r_parameterNamed hu hg hu hg (by omega) ?_
      rw [gR_in z1, z2]
      cases hp : pF k t n t (b + 1) (nE k t n 7 (b + 1)) with
      | none =>
        rw [hp] at h
        dsimp only at h
        refine ⟨fun y => absurd rfl y, fun _ => r_parameterNamed hu' hg' hu hg (by omega) ?_⟩
        rw [gR_in z1, z2]
        have hsc := ph_sc hg' hk'
        refine ⟨21 + 1, r_eraseA hu' hg' hN 21 (fun _ => false) _ 0 st 128 r1 (L ++ List.replicate (b - j) 91) (fun i hi => (pF_lt hi).1) (by have := cN_le (fun _ => false) (aC k' t' n'); omega) BM_0 (by omega) hr1 (by rw [hlen1]; omega) (by decide) (by omega) (fun r2 hr2 => h r2 ?_)⟩
        rw [← List.append_assoc]
        exact hr2
      | some i =>
        rw [hp] at h
        have hi := (pF_lt hp).1
        have hne : ¬ oI (some i) = -1 := fun y => by have := (oI_m1 (m := 20) (fun j hj => by cases hj; omega) (by decide)).mp y; cases this
        refine ⟨fun _ => ?_, fun y => absurd y hne⟩
        unfold w_Er_erase_109 w_Er_erase_126
        refine ⟨fun _ => r_firstBound hu hg hi ?_, fun y => absurd y hne⟩
        dsimp only at h
        cases hf : aFb k t n i with
        | none =>
          rw [hf] at h
          exact ⟨fun _ => obj h, fun y => absurd rfl y⟩
        | some q =>
          rw [hf] at h
          dsimp only at h
          obtain ⟨t1, t2, t3, t4, t5⟩ := fB_TS hg hi hf
          have hq := t1.1
          have hne2 : ¬ oI (some q) = -1 := fun y => by have := (oI_m1 (m := 200) (fun j hj => by cases hj; omega) (by decide)).mp y; cases this
          have hb := hB i (by omega)
          refine ⟨fun y => absurd y hne2, fun _ => ⟨fun y => ?_, fun y => ?_⟩⟩
          · have hv := hb.mp y
            rw [hv] at h
            simp only [Bool.false_eq_true, if_false] at h
            have hst2 := bnd_step (c := 125) hg hs (by rw [hbb]; exact e6) hi hv hf
            rw [hbb] at hst2
            have hcc := cN_set hv (aC k t n) hi
            rw [nI_1]
            refine r_eraseS hu hg hu' hg' hk' hN w (vS V i) q _ (st + 1) r1 _ t1 (by omega) (BM_set hB (by omega)) (by omega) hr1 (by rw [hlen1]; omega) (fun r2 hr2 => h r2 ?_)
            rw [← List.append_assoc]
            exact hr2
          · have hv : V i = true := by
              cases hv : V i
              · exact absurd (hb.mpr hv) y
              · rfl
            rw [hv] at h
            simp only [if_true] at h
            exact obj h
    · rw [if_pos n6] at h
      refine r_eraseNamed hu hg hT hr1 hN (by rw [hlen1]; omega) (fun r2 hr2 => h r2 ?_)
      rw [← List.append_assoc]
      exact hr2
