/-! ERASED: the chain of bounds -/
def OBJ : List Nat := wL 12
theorem OBJ_len : OBJ.length = 18 := by decide
/-- the chain within one signature that has no scope -/
def chN (k : Nat) (t : Nat → Nat) (n : Nat) : Nat → (Nat → Bool) → Nat → List Nat
  | 0, _, _ => []
  | w + 1, V, j => List.replicate (nE k t n 19 j - j) 91 ++ (if aR k t (nE k t n 19 j) ≠ 6 then nl k t n (nE k t n 19 j) else match pF k t n t (nE k t n 19 j + 1) (nE k t n 7 (nE k t n 19 j + 1)) with
    | none => OBJ
    | some i => match aFb k t n i with
      | none => OBJ
      | some q => if V i = true then OBJ else chN k t n w (vS V i) q)
def chO (k : Nat) (t : Nat → Nat) (n w : Nat) (V : Nat → Bool) (op : Option Nat) : List Nat := match op with
  | none => OBJ
  | some i => match aFb k t n i with
    | none => OBJ
    | some q => if V i = true then OBJ else chN k t n w (vS V i) q
/-- .. and in one that has a scope -/
def chS (k : Nat) (t : Nat → Nat) (n : Nat) (k' : Nat) (t' : Nat → Nat) (n' : Nat) : Nat → (Nat → Bool) → Nat → List Nat
  | 0, _, _ => []
  | w + 1, V, j => List.replicate (nE k t n 19 j - j) 91 ++ (if aR k t (nE k t n 19 j) ≠ 6 then nl k t n (nE k t n 19 j) else match pF k t n t (nE k t n 19 j + 1) (nE k t n 7 (nE k t n 19 j + 1)) with
    | none => chO k' t' n' 21 (fun _ => false) (pF k' t' n' t (nE k t n 19 j + 1) (nE k t n 7 (nE k t n 19 j + 1)))
    | some i => match aFb k t n i with
      | none => OBJ
      | some q => if V i = true then OBJ else chS k t n k' t' n' w (vS V i) q)
/-- a TYPE holds no signs of PARAMETERS -/
theorem typ_roles {k : Nat} {t : Nat → Nat} {n s : Nat} (hg : Gd k t n) (hs : TS k t n s) {i : Nat} (h1 : s ≤ i) (h2 : i ≤ tE k t n s) : aR k t i ≠ 1 ∧ aR k t i ≠ 2 ∧ aR k t i ≠ 3 ∧ aR k t i ≠ 4 ∧ aR k t i ≠ 5 := by
  obtain ⟨a1, a2, a3, a4, a5, a6⟩ := tE_sp hg hs
  obtain ⟨b1, b2, b3, b4, b5⟩ := br_sp hg hs
  obtain ⟨hT, eT, hle⟩ := br_TS hg hs
  have hd := a6 i h1 h2
  obtain ⟨s1, s2, -⟩ := stX_of hg (p := i) (by omega)
  have r1 : aR k t i ≠ 1 := by
    intro z
    have := l_0 hg (by omega) (s1 z)
    obtain rfl : i = s := by omega
    have := hs.2; omega
  rcases Nat.lt_or_ge i (nE k t n 19 s) with q | q
  · have := b4 i h1 q; omega
  · rcases Nat.lt_or_ge (aS k t s).2.1 (aS k t i).2.1 with w | w
    · have : ¬ (aR k t i = 5 ∨ aR k t i = 2 ∨ aR k t i = 3 ∨ aR k t i = 4) := fun z => by have := (s2 z).2; omega
      omega
    · have hdi : (aS k t i).2.1 = (aS k t s).2.1 := by omega
      rcases b3 with r | r | r | r
      · have := cls_role hg b2 r q (by rw [eT]; exact h2) (by rw [hdi, b5 _ b1 (Nat.le_refl _)])
        omega
      · obtain ⟨v1, v2, v3⟩ := var_end hg b2 r
        rw [eT] at v1 v2 v3
        rcases Nat.eq_or_lt_of_le q with y | y
        · rw [← y]; omega
        · rcases Nat.eq_or_lt_of_le h2 with z | z
          · rw [z]; have := eI_iff.mp a4; omega
          · -- in the name
            have run : ∀ m j, n - j = m → j ≤ i → nE k t n 7 (nE k t n 19 s + 1) = nE k t n 7 j → i < nE k t n 7 j → aR k t i = 7 := by
              intro m
              induction m with
              | zero => intro j c1 c2 c3 c4; have := nE_le (k := k) (t := t) (n := n) (r := 7) (j := j) (by omega); omega
              | succ m ih =>
                intro j c1 c2 c3 c4
                by_cases rj : aR k t j = 7
                · rcases Nat.eq_or_lt_of_le c2 with e | e
                  · rw [← e]; exact rj
                  · rw [nE_go (by omega) rj] at c3 c4
                    exact ih (j + 1) (by omega) (by omega) c3 c4
                · rw [nE_stop (fun _ => rj)] at c4
                  omega
            have := run _ (nE k t n 19 s + 1) rfl (by omega) rfl (by omega)
            omega
      · have e : tE k t n (nE k t n 19 s) = nE k t n 19 s := tE_is hg hT (Nat.le_refl _) b2 rfl (by rw [r]; decide) (fun i c d => absurd d (by omega))
        rw [eT] at e
        obtain rfl : i = nE k t n 19 s := by omega
        omega
      · have e : tE k t n (nE k t n 19 s) = nE k t n 19 s := tE_is hg hT (Nat.le_refl _) b2 rfl (by rw [r]; decide) (fun i c d => absurd d (by omega))
        rw [eT] at e
        obtain rfl : i = nE k t n 19 s := by omega
        omega
def wd (k : Nat) (t : Nat → Nat) (n j : Nat) : Nat := pE k t n j - aB k t n j
/-- a first bound is a TYPE within its parameter -/
theorem fB_TS {k : Nat} {t : Nat → Nat} {n j q : Nat} (hg : Gd k t n) (hj : j < aC k t n) (h : aFb k t n j = some q) : TS k t n q ∧ aR k t q ≠ 21 ∧ tE k t n q < pE k t n j ∧ aB k t n j + 2 ≤ q ∧ (tE k t n q + 1 - q) + 2 ≤ wd k t n j := by
  rw [fB_aFb hg hj] at h
  obtain ⟨e1, e2, e3, e4⟩ := nm_end hg hj
  obtain ⟨p1, p2, p3⟩ := pE_in hg hj
  have hbe := (aBE k t n).1 j hj
  have rp : aR k t (pE k t n j) = 2 ∨ aR k t (pE k t n j) = 5 := by
    unfold pE
    split
    · rename_i hm
      have := (aB_at k t n (j + 1) hm).2.1
      simp only [aN, Bool.and_eq_true, beq_iff_eq] at this
      exact Or.inl this.1
    · exact Or.inr (O_1 hg (by omega)).2.2.1
  have main : (aE k t n j + 1 ≤ q ∧ q < pE k t n j) ∧ (aR k t q = 9 ∨ aR k t q = 6 ∨ aR k t q = 19) := by
    have hE1 : aE k t n j + 1 < n := by omega
    unfold fB at h
    rw [gR_in hE1] at h
    split at h
    · rename_i r4
      cases h
      have hne : pE k t n j ≠ aE k t n j + 1 := fun z => by rw [z] at rp; omega
      have hr := (stX_of hg (p := aE k t n j + 1 + 1) (by omega)).2.2.2.1 (by rw [aS_succ]; exact r4)
      refine ⟨⟨by omega, ?_⟩, hr⟩
      rcases Nat.lt_or_ge (aE k t n j + 2) (pE k t n j) with y | y
      · exact y
      · exfalso
        have : pE k t n j = aE k t n j + 1 + 1 := by omega
        rw [this] at rp; omega
    · split at h
      · rename_i r
        cases h
        refine ⟨⟨by omega, ?_⟩, r⟩
        rcases Nat.lt_or_ge (aE k t n j + 1) (pE k t n j) with y | y
        · exact y
        · exfalso
          have : pE k t n j = aE k t n j + 1 := by omega
          rw [this] at rp; omega
      · cases h
  have hT : TS k t n q := ⟨by omega, by omega⟩
  have a := tE_sp hg hT
  have hlt : tE k t n q < pE k t n j := by
    rcases Nat.lt_or_ge (tE k t n q) (pE k t n j) with y | y
    · exact y
    · have := typ_roles hg hT (i := pE k t n j) (by omega) y
      omega
  exact ⟨hT, by omega, hlt, by omega, by unfold wd; omega⟩
/-- how long the erased TYPE may be -/
def bnd (k : Nat) (t : Nat → Nat) (n c : Nat) (V : Nat → Bool) (j : Nat) : Nat := (tE k t n j + 1 - j) + (if aR k t (nE k t n 19 j) = 6 then ph V (wd k t n) (aC k t n) + c else 0)
theorem bnd_named {k : Nat} {t : Nat → Nat} {n c : Nat} {V : Nat → Bool} {j : Nat} (hg : Gd k t n) (hs : TS k t n j) : (nE k t n 19 j - j) + (tE k t n (nE k t n 19 j) + 1 - nE k t n 19 j) ≤ bnd k t n c V j := by
  obtain ⟨b1, b2, b3, b4, b5⟩ := br_sp hg hs
  obtain ⟨hT, eT, hle⟩ := br_TS hg hs
  unfold bnd
  rw [eT]
  omega
theorem bnd_var {k : Nat} {t : Nat → Nat} {n c : Nat} {V : Nat → Bool} {j : Nat} (hg : Gd k t n) (hs : TS k t n j) (h : aR k t (nE k t n 19 j) = 6) : (nE k t n 19 j - j) + 3 + ph V (wd k t n) (aC k t n) + c ≤ bnd k t n c V j := by
  obtain ⟨b1, b2, b3, b4, b5⟩ := br_sp hg hs
  obtain ⟨hT, eT, hle⟩ := br_TS hg hs
  obtain ⟨v1, v2, v3⟩ := var_end hg b2 h
  unfold bnd
  rw [if_pos h]
  omega
theorem bnd_step {k : Nat} {t : Nat → Nat} {n c : Nat} {V : Nat → Bool} {j i q : Nat} (hg : Gd k t n) (hs : TS k t n j) (h : aR k t (nE k t n 19 j) = 6) (hi : i < aC k t n) (hv : V i = false) (hq : aFb k t n i = some q) : (nE k t n 19 j - j) + bnd k t n c (vS V i) q ≤ bnd k t n c V j := by
  have h1 := bnd_var (c := c) (V := V) hg hs h
  obtain ⟨t1, t2, t3, t4, t5⟩ := fB_TS hg hi hq
  have h2 := ph_set (w := wd k t n) hv (aC k t n) hi
  have h3 : bnd k t n c (vS V i) q ≤ (tE k t n q + 1 - q) + (ph (vS V i) (wd k t n) (aC k t n) + c) := by unfold bnd; split <;> omega
  omega
theorem r_eraseN {post : RowC → Prop} {u : SgC} {k : Nat} {t : Nat → Nat} {n N : Nat} (hu : SgI u k t n) (hg : Gd k t n) (hN : N < 2 ^ 20) : ∀ (w : Nat) (V : Nat → Bool) (j : Nat) (o : Int64) (st : Nat) (r : RowC) (L : List Nat), TS k t n j → cN V (aC k t n) < w → BM o V → st + w ≤ 200 → RwI r N L → L.length + bnd k t n 15 V j ≤ N → (∀ r', RwI r' N (L ++ chN k t n w V j) → post r') → w_Er_eraseN_23 post u w (nI j) o (nI st) r
  | 0, _, _, _, _, _, _, _, hc, _, _, _, _, _ => absurd hc (Nat.not_lt_zero _)
  | w + 1, V, j, o, st, r, L, hs, hc, hB, hst, hr, hl, h => by
    have hn := hg.2.1
    have hm := hg.2.2.2.2.2
    obtain ⟨b1, b2, b3, b4, b5⟩ := br_sp hg hs
    obtain ⟨hT, eT, hle⟩ := br_TS hg hs
    have hnam := bnd_named (c := 15) (V := V) hg hs
    have e : chN k t n (w + 1) V j = List.replicate (nE k t n 19 j - j) 91 ++ (if aR k t (nE k t n 19 j) ≠ 6 then nl k t n (nE k t n 19 j) else match pF k t n t (nE k t n 19 j + 1) (nE k t n 7 (nE k t n 19 j + 1)) with
      | none => OBJ
      | some i => match aFb k t n i with
        | none => OBJ
        | some q => if V i = true then OBJ else chN k t n w (vS V i) q) := rfl
    rw [e] at h
    unfold w_Er_eraseN_23 wb_Er_eraseN_23
    refine b_lt (a := 240) (by decide) (by omega) (fun z => absurd z (by omega)) (fun _ => r_eraseBrackets hu hg hs hr hN (by omega) (fun r1 hr1 => ?_))
    generalize hbb : nE k t n 19 j = b at *
    have hrb := aR_lt k t b
    refine r_roleAt hu hn (by omega) ?_
    rw [gR_in b2]
    have hlen1 : (L ++ List.replicate (b - j) 91).length = L.length + (b - j) := by rw [List.length_append, List.length_replicate]
    refine b_eq' (k := 6) (by omega) (by decide) (fun e6 => ?_) (fun n6 => ?_)
    · rw [if_neg (by omega)] at h
      have hvar := bnd_var (c := 15) (V := V) hg hs (by rw [hbb]; exact e6)
      rw [hbb] at hvar
      obtain ⟨z1, z2⟩ := var_next hg b2 e6
      have obj : (List.replicate (b - j) 91 ++ OBJ = List.replicate (b - j) 91 ++ (match pF k t n t (b + 1) (nE k t n 7 (b + 1)) with
          | none => OBJ
          | some i => match aFb k t n i with
            | none => OBJ
            | some q => if V i = true then OBJ else chN k t n w (vS V i) q)) → w_Er_eraseN_146 post u r1 := by
        intro q
        refine r_addText hr1 hN (by decide) (by rw [hlen1, show (wL 12).length = 18 from OBJ_len]; omega) (fun r2 hr2 => h r2 ?_)
        rw [← q, ← List.append_assoc]
        exact hr2
      rw [nI_1]
      refine r_parameterNamed hu hg hu hg (by omega) ?_
      rw [gR_in z1, z2]
      have go : w_Er_eraseN_109 post u (w_Er_eraseN_23 post u w) o (nI st) (oI (pF k t n t (b + 1) (nE k t n 7 (b + 1)))) r1 := by
        unfold w_Er_eraseN_109 w_Er_eraseN_126
        cases hp : pF k t n t (b + 1) (nE k t n 7 (b + 1)) with
        | none =>
          rw [hp] at obj
          exact ⟨fun y => absurd rfl y, fun _ => ⟨fun _ => obj rfl, fun y => absurd rfl y⟩⟩
        | some i =>
          rw [hp] at obj h
          have hi := (pF_lt hp).1
          have hne : ¬ oI (some i) = -1 := fun y => by have := (oI_m1 (m := 20) (fun j hj => by cases hj; omega) (by decide)).mp y; cases this
          refine ⟨fun _ => r_firstBound hu hg hi ?_, fun y => absurd y hne⟩
          dsimp only at obj h
          cases hf : aFb k t n i with
          | none =>
            rw [hf] at obj
            exact ⟨fun _ => obj rfl, fun y => absurd rfl y⟩
          | some q =>
            rw [hf] at obj h
            dsimp only at obj h
            obtain ⟨t1, t2, t3, t4, t5⟩ := fB_TS hg hi hf
            have hq := t1.1
            have hne2 : ¬ oI (some q) = -1 := fun y => by have := (oI_m1 (m := 200) (fun j hj => by cases hj; omega) (by decide)).mp y; cases this
            have hb := hB i (by omega)
            refine ⟨fun y => absurd y hne2, fun _ => ⟨fun y => ?_, fun y => ?_⟩⟩
            · have hv := hb.mp y
              rw [hv] at h
              simp only [Bool.false_eq_true, if_false] at h
              have hst2 := bnd_step (c := 15) hg hs (by rw [hbb]; exact e6) hi hv hf
              rw [hbb] at hst2
              have hcc := cN_set hv (aC k t n) hi
              rw [nI_1]
              refine r_eraseN hu hg hN w (vS V i) q _ (st + 1) r1 _ t1 (by omega) (BM_set hB (by omega)) (by omega) hr1 (by rw [hlen1]; omega) (fun r2 hr2 => h r2 ?_)
              rw [← List.append_assoc]
              exact hr2
            · have hv : V i = true := by
                cases hv : V i
                · exact absurd (hb.mpr hv) y
                · rfl
              rw [hv] at obj
              exact obj rfl
      exact ⟨fun _ => go, fun _ => go⟩
    · rw [if_pos n6] at h
      refine r_eraseNamed hu hg hT hr1 hN (by rw [hlen1]; omega) (fun r2 hr2 => h r2 ?_)
      rw [← List.append_assoc]
      exact hr2
