/-! SHOWN, mathematically; the class -/
/-- brackets that wait, for each depth -/
def wt (k : Nat) (t : Nat → Nat) : Nat → Nat → Nat
  | 0, _ => 0
  | p + 1, i => if aR k t p = 19 ∧ i = (aS k t p).2.1 then wt k t p i + 1 else if (aR k t p = 8 ∨ aR k t p = 14 ∨ aR k t p = 20 ∨ aR k t p = 21) ∧ i = (aS k t p).2.1 then 0 else if aR k t p = 15 ∧ i = (aS k t p).2.1 + 1 then 0 else wt k t p i
/-- two items part at p -/
def prt (k : Nat) (t : Nat → Nat) (p : Nat) : Bool := ((aS k t p).1 == 14 || (aS k t p).1 == 8 || (aS k t p).1 == 20 || (aS k t p).1 == 21 || (aS k t p).1 == 17) && (aR k t p == 9 || aR k t p == 6 || aR k t p == 19 || aR k t p == 20 || aR k t p == 17 || aR k t p == 18)
def cp (k : Nat) (t : Nat → Nat) : Nat → Nat
  | 0 => 0
  | p + 1 => if prt k t p = true ∧ k = 0 ∧ (aS k t p).2.1 = 0 then 1 else cp k t p
def th (k : Nat) (t : Nat → Nat) : Nat → Nat
  | 0 => 0
  | p + 1 => if aR k t p = 24 then th k t p + 1 else th k t p
def eP (k : Nat) (t : Nat → Nat) (p : Nat) : List Nat :=
  if prt k t p = true then [if k = 0 ∧ (aS k t p).2.1 = 0 ∧ cp k t p = 0 then 58 else 44] else if aR k t p = 2 ∧ (aS k t p).1 ≠ 2 ∧ (aS k t p).1 ≠ 1 then [44] else []
def eL (k : Nat) (t : Nat → Nat) (n p : Nat) : List Nat :=
  if aR k t p = 3 then (if gR k t n (p + 1) = 4 ∨ gR k t n (p + 1) = 9 ∨ gR k t n (p + 1) = 6 ∨ gR k t n (p + 1) = 19 then [58] else [])
  else if aR k t p = 4 then (if (aS k t p).1 = 3 then [] else [38])
  else if aR k t p = 6 ∨ aR k t p = 9 then []
  else if aR k t p = 8 ∨ aR k t p = 14 then bk (wt k t p (aS k t p).2.1)
  else if aR k t p = 11 ∨ aR k t p = 12 then [46]
  else if aR k t p = 17 then [63]
  else if aR k t p = 18 then [63, t p]
  else if aR k t p = 19 then []
  else if aR k t p = 20 ∨ aR k t p = 21 then wL (bw (t p)) ++ bk (wt k t p (aS k t p).2.1)
  else if aR k t p = 24 then [if th k t p = 0 then 94 else 44]
  else [t p]
def shO (k : Nat) (t : Nat → Nat) (n : Nat) : Nat → List Nat
  | 0 => []
  | p + 1 => shO k t n p ++ eP k t p ++ eL k t n p
/-- sums of what waits -/
def sm (f : Nat → Nat) : Nat → Nat
  | 0 => 0
  | i + 1 => sm f i + f i
theorem sm_eq {f g : Nat → Nat} : ∀ {d : Nat}, (∀ i, i < d → f i = g i) → sm f d = sm g d
  | 0, _ => rfl
  | d + 1, h => by show sm f d + f d = sm g d + g d; rw [sm_eq (d := d) (fun i hi => h i (by omega)), h d (by omega)]
theorem bw_lt (c : Nat) : bw c < 12 ∧ 2 < bw c := by
  unfold bw
  repeat (first | exact (by decide) | split)
theorem eP_len (k : Nat) (t : Nat → Nat) (p : Nat) : (eP k t p).length ≤ 1 := by
  unfold eP
  split
  · simp
  · split <;> simp
/-- the text shown is short -/
theorem shO_len (k : Nat) (t : Nat → Nat) (n : Nat) : ∀ p, (shO k t n p).length + 2 * sm (wt k t p) ((aS k t p).2.1 + 1) ≤ 10 * p
  | 0 => by simp [shO, sm, wt, aS]
  | p + 1 => by
    have ih := shO_len k t n p
    have h1 := eP_len k t p
    have hb := bk_len (wt k t p (aS k t p).2.1)
    have hw := wL_7 _ (bw_lt (t p)).1 (bw_lt (t p)).2
    have hs : sm (wt k t p) ((aS k t p).2.1 + 1) = sm (wt k t p) (aS k t p).2.1 + wt k t p (aS k t p).2.1 := rfl
    have e : (shO k t n (p + 1)).length = (shO k t n p).length + (eP k t p).length + (eL k t n p).length := by simp [shO]; omega
    rw [e]
    generalize hd : (aS k t p).2.1 = d at *
    have lo : ∀ i, i < d → wt k t (p + 1) i = wt k t p i := by
      intro i hi
      show (if aR k t p = 19 ∧ i = (aS k t p).2.1 then wt k t p i + 1 else if (aR k t p = 8 ∨ aR k t p = 14 ∨ aR k t p = 20 ∨ aR k t p = 21) ∧ i = (aS k t p).2.1 then 0 else if aR k t p = 15 ∧ i = (aS k t p).2.1 + 1 then 0 else wt k t p i) = _
      rw [hd, if_neg (by omega), if_neg (by omega), if_neg (by omega)]
    have smlo : sm (wt k t (p + 1)) d = sm (wt k t p) d := sm_eq lo
    by_cases r19 : aR k t p = 19
    · have hd' : (aS k t (p + 1)).2.1 = d := by rw [dep_no (by omega) (by omega), hd]
      have hw2 : wt k t (p + 1) d = wt k t p d + 1 := by
        show (if aR k t p = 19 ∧ d = (aS k t p).2.1 then wt k t p d + 1 else _) = _
        rw [if_pos ⟨r19, hd.symm⟩]
      have el : (eL k t n p).length = 0 := by unfold eL; simp [r19]
      rw [hd']
      show _ + 2 * (sm (wt k t (p + 1)) d + wt k t (p + 1) d) ≤ _
      rw [smlo, hw2, el]
      omega
    · by_cases rr : aR k t p = 8 ∨ aR k t p = 14 ∨ aR k t p = 20 ∨ aR k t p = 21
      · have hd' : (aS k t (p + 1)).2.1 = d := by rw [dep_no (by omega) (by omega), hd]
        have hw2 : wt k t (p + 1) d = 0 := by
          show (if aR k t p = 19 ∧ d = (aS k t p).2.1 then wt k t p d + 1 else if (aR k t p = 8 ∨ aR k t p = 14 ∨ aR k t p = 20 ∨ aR k t p = 21) ∧ d = (aS k t p).2.1 then 0 else _) = _
          rw [if_neg (fun z => r19 z.1), if_pos ⟨rr, hd.symm⟩]
        have el : (eL k t n p).length ≤ 7 + 2 * wt k t p d := by
          unfold eL
          rw [hd]
          rcases rr with r | r | r | r <;> simp [r, hb] <;> omega
        rw [hd']
        show _ + 2 * (sm (wt k t (p + 1)) d + wt k t (p + 1) d) ≤ _
        rw [smlo, hw2]
        omega
      · have el : (eL k t n p).length ≤ 2 := by
          unfold eL
          have a : ¬ aR k t p = 8 ∧ ¬ aR k t p = 14 ∧ ¬ aR k t p = 20 ∧ ¬ aR k t p = 21 := by omega
          simp only [a.1, a.2.1, a.2.2.1, a.2.2.2, or_self, if_false]
          repeat (first | (split) | (simp))
        by_cases r15 : aR k t p = 15
        · have hd' : (aS k t (p + 1)).2.1 = d + 1 := by rw [dep_15 r15, hd]
          have hw2 : wt k t (p + 1) (d + 1) = 0 := by
            show (if aR k t p = 19 ∧ d + 1 = (aS k t p).2.1 then _ else if (aR k t p = 8 ∨ aR k t p = 14 ∨ aR k t p = 20 ∨ aR k t p = 21) ∧ d + 1 = (aS k t p).2.1 then 0 else if aR k t p = 15 ∧ d + 1 = (aS k t p).2.1 + 1 then 0 else _) = _
            rw [if_neg (fun z => r19 z.1), if_neg (fun z => rr z.1), if_pos ⟨r15, by omega⟩]
          have hw3 : wt k t (p + 1) d = wt k t p d := by
            show (if aR k t p = 19 ∧ d = (aS k t p).2.1 then _ else if (aR k t p = 8 ∨ aR k t p = 14 ∨ aR k t p = 20 ∨ aR k t p = 21) ∧ d = (aS k t p).2.1 then 0 else if aR k t p = 15 ∧ d = (aS k t p).2.1 + 1 then 0 else _) = _
            rw [if_neg (fun z => r19 z.1), if_neg (fun z => rr z.1), if_neg (by omega)]
          rw [hd']
          show _ + 2 * (sm (wt k t (p + 1)) d + wt k t (p + 1) d + wt k t (p + 1) (d + 1)) ≤ _
          rw [smlo, hw2, hw3]
          omega
        · have hw3 : wt k t (p + 1) d = wt k t p d := by
            show (if aR k t p = 19 ∧ d = (aS k t p).2.1 then _ else if (aR k t p = 8 ∨ aR k t p = 14 ∨ aR k t p = 20 ∨ aR k t p = 21) ∧ d = (aS k t p).2.1 then 0 else if aR k t p = 15 ∧ d = (aS k t p).2.1 + 1 then 0 else _) = _
            rw [if_neg (fun z => r19 z.1), if_neg (fun z => rr z.1), if_neg (fun z => r15 z.1)]
          by_cases r16 : aR k t p = 16
          · have hd' := dep_16 r16
            rw [hd] at hd'
            rw [← hd']
            rw [smlo]
            omega
          · rw [dep_no r15 r16, hd]
            show _ + 2 * (sm (wt k t (p + 1)) d + wt k t (p + 1) d) ≤ _
            rw [smlo, hw3]
            omega
theorem wt_le {k : Nat} {t : Nat → Nat} : ∀ p i, wt k t p i ≤ p
  | 0, _ => by simp [wt]
  | p + 1, i => by
    have := wt_le (k := k) (t := t) p i
    unfold wt
    split
    · omega
    · split
      · omega
      · split <;> omega
/-- the shower behind p characters -/
def ShI (u : ShC) (k : Nat) (t : Nat → Nat) (p : Nat) : Prop := shN u = 120 ∧ shD u = nI (aS k t p).2.1 ∧ shC u = nI (cp k t p) ∧ (shT u = 0 ↔ th k t p = 0) ∧ ∀ i, i ≤ (aS k t p).2.1 → shF u i = nI (wt k t p i)
theorem cp_le (k : Nat) (t : Nat → Nat) : ∀ p, cp k t p ≤ 1
  | 0 => by simp [cp]
  | p + 1 => by have := cp_le k t p; unfold cp; split <;> omega
theorem r_showWaiting {post : (ShC × SkC) → Prop} {u : ShC} {v : SkC} {w : Int32} {L : List Nat} {d m : Nat} (h1 : shN u = 120) (h2 : shD u = nI d) (hd : d < 120) (h3 : shF u d = nI m) (hm : m < 1000) (hv : SkI v w L) (hl : L.length < 2 ^ 18)
    (h : ∀ v', SkI v' w (L ++ bk m) → post ((shN u, upd (shF u) d 0, shD u, shC u, shT u), v')) : wp_Sh_showWaiting post u v := by
  unfold wp_Sh_showWaiting
  refine lpI (n := m) (α := Int32 × SkC) (W := fun f a => w_Sh_showWaiting_2 post f a.1 u a.2) (I := fun j a => a.1 = nI j ∧ SkI a.2 w (L ++ bk j)) (fun f a hI => ?_) (fun f j a hj hI ih => ?_) 0 (0, v) (by omega) ⟨rfl, by simpa [bk] using hv⟩
  · obtain ⟨a1, a2⟩ := a
    obtain ⟨e1, e2⟩ := hI
    dsimp only at e1 e2 ⊢
    subst e1
    unfold w_Sh_showWaiting_2 wb_Sh_showWaiting_2
    have h' := h a2 e2
    rw [h1, h2] at h'
    rw [h1, h2, nI_clamp (by omega), h3]
    exact ⟨vp_in_nI hd (by decide), b_le (by omega) (by omega) (fun _ => ⟨vp_in_nI hd (by decide), h'⟩) (fun z => absurd z (by omega))⟩
  · obtain ⟨a1, a2⟩ := a
    obtain ⟨e1, e2⟩ := hI
    dsimp only at e1 e2 ⊢
    subst e1
    unfold w_Sh_showWaiting_2 wb_Sh_showWaiting_2
    rw [h1, h2, nI_clamp (by omega), h3]
    have l := bk_len j
    refine ⟨vp_in_nI hd (by decide), b_le (by omega) (by omega) (fun z => absurd z (by omega)) (fun _ => r_passText e2 (by decide) (by rw [List.length_append, l]; omega) (fun v' hv' => ?_))⟩
    rw [nI_1]
    refine ih (nI (j + 1), v') ⟨rfl, ?_⟩
    have e : wL 2 = [91, 93] := by decide
    rw [e, List.append_assoc] at hv'
    exact hv'
theorem r_part {post : (ShC × SkC) → Prop} {u : ShC} {v : SkC} {g : SgC} {k : Nat} {t : Nat → Nat} {n p : Nat} {w : Int32} {L : List Nat} (hu : ShI u k t p) (hg : Gd k t n) (hG : SgI g k t n) (hp : p < n) (hv : SkI v w L) (hl : L.length < 2 ^ 18)
    (h : ∀ u' v', shN u' = 120 → shD u' = nI (aS k t p).2.1 → shC u' = nI (cp k t (p + 1)) → (shT u' = 0 ↔ th k t p = 0) → (∀ i, i ≤ (aS k t p).2.1 → shF u' i = nI (wt k t p i)) → SkI v' w (L ++ eP k t p) → post (u', v')) : wp_Sh_part post u g v (nI p) (nI (aR k t p)) := by
  obtain ⟨s1, s2, s3, s4, s5⟩ := hu
  have hn := hg.2.1
  have hr := aR_lt k t p
  have hl25 := (aS_lt k t p).1
  have hd := (aS_lt k t p).2.1
  have hcp := cp_le k t p
  have hk := hg.1
  have eC : cp k t (p + 1) = if prt k t p = true ∧ k = 0 ∧ (aS k t p).2.1 = 0 then 1 else cp k t p := rfl
  unfold wp_Sh_part
  refine r_roleBefore hG hn (by omega) ?_
  rw [gP_S (by omega)]
  -- no parting of items
  have no : prt k t p = false → w_Sh_part_37 post g (nI (aR k t p)) (nI (aS k t p).1) u v := by
    intro z
    have eC' : cp k t (p + 1) = cp k t p := by rw [eC, z]; simp
    have eE : eP k t p = if aR k t p = 2 ∧ (aS k t p).1 ≠ 2 ∧ (aS k t p).1 ≠ 1 then [44] else [] := by unfold eP; rw [z]; simp
    have stay : eP k t p = [] → post (u, v) := fun e => h u v s1 s2 (by rw [eC']; exact s3) s4 s5 (by rw [e, List.append_nil]; exact hv)
    unfold w_Sh_part_37
    refine b_eq (k := 2) (by omega) (by decide) (fun e => b_eq' (k := 2) (by omega) (by decide) (fun e2 => stay (by rw [eE, if_neg (by omega)])) (fun e2 => b_eq' (k := 1) (by omega) (by decide) (fun e3 => stay (by rw [eE, if_neg (by omega)])) (fun e3 => ?_))) (fun e => stay (by rw [eE, if_neg (by omega)]))
    refine r_pass (c := 44) hv (by omega) (fun v' hv' => h u v' s1 s2 (by rw [eC']; exact s3) s4 s5 ?_)
    rw [eE, if_pos ⟨e, e2, e3⟩]
    exact hv'
  refine r_endsItem (by omega) ?_
  by_cases hE : (aS k t p).1 = 14 ∨ (aS k t p).1 = 8 ∨ (aS k t p).1 = 20 ∨ (aS k t p).1 = 21 ∨ (aS k t p).1 = 17
  · rw [if_pos hE]
    refine ⟨fun z => absurd z (by decide), fun _ => r_beginsItem (by omega) ?_⟩
    by_cases hB : aR k t p = 9 ∨ aR k t p = 6 ∨ aR k t p = 19 ∨ aR k t p = 20 ∨ aR k t p = 17 ∨ aR k t p = 18
    · rw [if_pos hB]
      refine ⟨fun z => absurd z (by decide), fun _ => ?_⟩
      have hp1 : prt k t p = true := by
        simp only [prt, Bool.and_eq_true, Bool.or_eq_true, beq_iff_eq]
        omega
      rw [hp1] at eC
      simp only [true_and] at eC
      have eE : eP k t p = [if k = 0 ∧ (aS k t p).2.1 = 0 ∧ cp k t p = 0 then 58 else 44] := by unfold eP; rw [hp1]; simp
      have comma : ¬ (k = 0 ∧ (aS k t p).2.1 = 0 ∧ cp k t p = 0) → wp_Sk_pass (fun v14 => post (u, v14)) v 44 := by
        intro z
        rw [if_neg z] at eE
        refine r_pass (c := 44) hv (by omega) (fun v' hv' => h u v' s1 s2 ?_ s4 s5 (by rw [eE]; exact hv'))
        rw [s3, eC]
        split
        · have : cp k t p = 1 := by omega
          rw [this]
        · rfl
      unfold wp_Sh_partingItems
      rw [hG.1, s2, s3]
      refine b_eq (k := 0) (by omega) (by decide) (fun e => b_lt (a := 0) (by decide) (by omega) (fun z => comma (by omega)) (fun z => b_eq' (k := 0) (by omega) (by decide) (fun e2 => ?_) (fun e2 => comma (by omega)))) (fun e => comma (by omega))
      have hc : k = 0 ∧ (aS k t p).2.1 = 0 ∧ cp k t p = 0 := ⟨e, by omega, e2⟩
      rw [if_pos hc] at eE
      rw [if_pos ⟨hc.1, hc.2.1⟩] at eC
      exact r_pass (c := 58) hv (by omega) (fun v' hv' => h _ v' s1 rfl (by rw [eC]; rfl) s4 s5 (by rw [eE]; exact hv'))
    · rw [if_neg hB]
      exact ⟨fun _ => no (by
        cases e : prt k t p
        · rfl
        · simp only [prt, Bool.and_eq_true, Bool.or_eq_true, beq_iff_eq] at e
          omega), fun z => absurd rfl z⟩
  · rw [if_neg hE]
    exact ⟨fun _ => no (by
        cases e : prt k t p
        · rfl
        · simp only [prt, Bool.and_eq_true, Bool.or_eq_true, beq_iff_eq] at e
          omega), fun z => absurd rfl z⟩
