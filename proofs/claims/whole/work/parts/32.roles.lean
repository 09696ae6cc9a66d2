/-! the class's small functions of roles answer pRole's parts -/
theorem r_beginsReference {post : Int32 → Prop} {r : Nat} (hr : r < 2 ^ 31) (h : post (if r = 9 ∨ r = 6 ∨ r = 19 then 1 else 0)) : wp_beginsReference post (nI r) := by
  unfold wp_beginsReference
  simp only [w_beginsReference_18, lit32, nIe hr, Nat.reducePow, Nat.reduceLT] at h ⊢
  grind
theorem r_beginsItem {post : Int32 → Prop} {r : Nat} (hr : r < 2 ^ 31) (h : post (if r = 9 ∨ r = 6 ∨ r = 19 ∨ r = 20 ∨ r = 17 ∨ r = 18 then 1 else 0)) : wp_beginsItem post (nI r) := by
  refine r_beginsReference hr ?_
  simp only [w_beginsItem_25, lit32, nIe hr, Nat.reducePow, Nat.reduceLT] at h ⊢
  grind
theorem r_endsItem {post : Int32 → Prop} {r : Nat} (hr : r < 2 ^ 31) (h : post (if r = 14 ∨ r = 8 ∨ r = 20 ∨ r = 21 ∨ r = 17 then 1 else 0)) : wp_endsItem post (nI r) := by
  unfold wp_endsItem
  simp only [w_endsItem_30, lit32, nIe hr, Nat.reducePow, Nat.reduceLT] at h ⊢
  grind
theorem r_reference {post : Int32 → Prop} {c : Nat} (hc : c < 2 ^ 31) (h : post (nI (pRef c))) : wp_Rd_reference post (nI c) := by
  unfold wp_Rd_reference
  unfold pRef at h
  simp only [lit32, nIe hc, Nat.reducePow, Nat.reduceLT]
  grind
theorem r_closingOr {post : Int32 → Prop} {c o : Nat} (hc : c < 2 ^ 31) (h : post (nI (pClose c o))) : wp_Rd_closingOr post (nI c) (nI o) := by
  unfold wp_Rd_closingOr
  unfold pClose at h
  simp only [lit32, nIe hc, Nat.reducePow, Nat.reduceLT]
  grind
theorem has_0 : ∀ c, c < 128 → ltHas 0 c = !pNm c := by decide +kernel
theorem has_1 : ∀ c, c < 128 → ltHas 1 c = pBs c := by decide +kernel
theorem r_nameOnly {post : Int32 → Prop} {c r : Nat} (hc : c < 128) (h : post (nI (pName c r))) : wp_Rd_nameOnly post (nI c) (nI r) := by
  unfold pName at h
  have e := has_0 c hc
  refine r_indexOf (by decide) hc (fun z x hx => ⟨fun q => absurd q hx, fun _ => ?_⟩) (fun z x hx => ⟨fun _ => ?_, fun q => absurd hx q⟩)
  · rw [z] at e
    rw [if_neg (by simpa using e.symm)] at h
    exact h
  · rw [z] at e
    rw [if_pos (by simpa using e.symm)] at h
    exact h
theorem r_typeOnly {post : Int32 → Prop} {c : Nat} (hc : c < 128) (h : post (nI (pType c))) : wp_Rd_typeOnly post (nI c) := by
  unfold pType at h
  have e := has_1 c hc
  refine r_indexOf (by decide) hc (fun z x hx => ⟨fun q => absurd q hx, fun _ => ?_⟩) (fun z x hx => ⟨fun _ => r_reference (by omega) ?_, fun q => absurd hx q⟩)
  · rw [z] at e
    rw [if_pos e.symm] at h
    exact h
  · rw [z] at e
    rw [if_neg (by rw [← e]; decide)] at h
    exact h
theorem b_eq {c k : Nat} {A B : Prop} (hc : c < 2 ^ 31) (hk : k < 2 ^ 31) (f : c = k → A) (g : ¬ c = k → B) : (¬ nI c = nI k → B) ∧ (nI c = nI k → A) :=
  ⟨fun z => g (fun e => z (by rw [e])), fun z => f ((nI_eq hc hk).mp z)⟩
theorem b_eq' {c k : Nat} {A B : Prop} (hc : c < 2 ^ 31) (hk : k < 2 ^ 31) (f : c = k → A) (g : ¬ c = k → B) : (nI c = nI k → A) ∧ (¬ nI c = nI k → B) :=
  ⟨fun z => f ((nI_eq hc hk).mp z), fun z => g (fun e => z (by rw [e]))⟩
theorem r_argument {post : Int32 → Prop} {c : Nat} (hc : c < 128) (h : post (nI (pArg c))) : wp_Rd_argument post (nI c) := by
  unfold pArg at h
  refine b_eq (k := 42) (by omega) (by decide) (fun e => ?_) (fun e => b_eq' (k := 43) (by omega) (by decide) (fun e2 => ?_) (fun e2 => b_eq (k := 45) (by omega) (by decide) (fun e3 => ?_) (fun e3 => r_reference (by omega) ?_)))
  · rw [if_pos e] at h; exact h
  · rw [if_neg e, if_pos e2] at h; exact h
  · rw [if_neg e, if_neg e2, if_pos e3] at h; exact h
  · rw [if_neg e, if_neg e2, if_neg e3] at h; exact h
theorem r_behindArguments {post : Int32 → Prop} {c : Nat} (hc : c < 128) (h : post (nI (pClose c 0))) : wp_Rd_behindArguments post (nI c) := r_closingOr (by omega) h
theorem r_inSegment {post : Int32 → Prop} {c r : Nat} (hc : c < 128) (h : post (nI (pSeg c r))) : wp_Rd_inSegment post (nI c) (nI r) := by
  unfold pSeg at h
  refine b_eq (k := 60) (by omega) (by decide) (fun e => ?_) (fun e => r_nameOnly hc (r_closingOr (by omega) ?_))
  · rw [if_pos e] at h; exact h
  · rw [if_neg e] at h; exact h
theorem r_inTypes {post : Int32 → Prop} {c : Nat} (hc : c < 128) (h : post (nI (pTys c))) : wp_Rd_inTypes post (nI c) := by
  unfold pTys at h
  refine b_eq (k := 41) (by omega) (by decide) (fun e => ?_) (fun e => r_typeOnly hc ?_)
  · rw [if_pos e] at h; exact h
  · rw [if_neg e] at h; exact h
theorem r_behindBound {post : Int32 → Prop} {c : Nat} (hc : c < 128) (h : post (nI (pBnd c))) : wp_Rd_behindBound post (nI c) := by
  unfold pBnd at h
  refine b_eq (k := 58) (by omega) (by decide) (fun e => ?_) (fun e => b_eq (k := 62) (by omega) (by decide) (fun e2 => ?_) (fun e2 => r_nameOnly hc ?_))
  · rw [if_pos e] at h; exact h
  · rw [if_neg e, if_pos e2] at h; exact h
  · rw [if_neg e, if_neg e2] at h; exact h
theorem pRef_lt (c : Nat) : pRef c < 25 := by unfold pRef; grind
theorem r_behindFirstColon {post : Int32 → Prop} {c : Nat} (hc : c < 128) (h : post (nI (pFst c))) : wp_Rd_behindFirstColon post (nI c) := by
  unfold pFst at h
  have hl := pRef_lt c
  refine r_reference (by omega) (b_eq (k := 0) (by omega) (by decide) (fun e => r_behindBound hc ?_) (fun e => ?_))
  · rw [if_pos e] at h; exact h
  · rw [if_neg e] at h; exact h
/-- the reader's own numbers -/
def RdN (u : RdC) (k l d x : Nat) : Prop := rdK u = nI k ∧ rdL u = nI l ∧ rdD u = nI d ∧ rdX u = nI x ∧ k < 3 ∧ l < 25 ∧ d < 1000 ∧ x < 4
theorem r_atBody {post : Int32 → Prop} {u : RdC} {k l d x c : Nat} (hu : RdN u k l d x) (hc : c < 128) (h : post (nI (pBody k c))) : wp_Rd_atBody post u (nI c) := by
  obtain ⟨h1, h2, h3, h4, h5, h6, h7, h8⟩ := hu
  unfold wp_Rd_atBody
  unfold pBody at h
  rw [h1]
  refine b_eq (k := 1) (by omega) (by decide) (fun e => b_eq (k := 40) (by omega) (by decide) (fun e2 => ?_) (fun e2 => ?_)) (fun e => b_eq (k := 76) (by omega) (by decide) (fun e2 => ?_) (fun e2 => ?_))
  · rw [if_pos e, if_pos e2] at h; exact h
  · rw [if_pos e, if_neg e2] at h; exact h
  · rw [if_neg e, if_pos e2] at h; exact h
  · rw [if_neg e, if_neg e2] at h; exact h
theorem r_atStart {post : Int32 → Prop} {u : RdC} {k l d x c : Nat} (hu : RdN u k l d x) (hc : c < 128) (h : post (nI (pStart k c))) : wp_Rd_atStart post u (nI c) := by
  have h1 := hu.1
  have h5 := hu.2.2.2.2.1
  unfold wp_Rd_atStart
  unfold pStart at h
  rw [h1]
  refine b_eq (k := 2) (by omega) (by decide) (fun e => r_reference (by omega) ?_) (fun e => b_eq (k := 60) (by omega) (by decide) (fun e2 => ?_) (fun e2 => r_atBody hu hc ?_))
  · rw [if_pos e] at h; exact h
  · rw [if_neg e, if_pos e2] at h; exact h
  · rw [if_neg e, if_neg e2] at h; exact h
theorem r_behindItem {post : Int32 → Prop} {u : RdC} {k l d x c : Nat} (hu : RdN u k l d x) (hc : c < 128) (h : post (nI (pItem k x d c))) : wp_Rd_behindItem post u (nI c) := by
  obtain ⟨h1, h2, h3, h4, h5, h6, h7, h8⟩ := hu
  unfold wp_Rd_behindItem w_Rd_behindItem_79
  unfold pItem at h
  rw [h1, h3, h4]
  refine ⟨fun q => ?_, fun q => ?_⟩
  · have hd : ¬ 0 < d := fun z => nI_nle z (by omega) q
    rw [if_neg hd] at h
    refine ⟨fun z => r_behindBound hc ?_, fun z => r_inTypes hc ?_, fun z => b_eq (k := 94) (by omega) (by decide) (fun e2 => ?_) (fun e2 => ?_), fun z => b_eq (k := 0) (by omega) (by decide) (fun e2 => b_eq (k := 76) (by omega) (by decide) (fun e3 => ?_) (fun e3 => ?_)) (fun e2 => ?_)⟩
    · rw [if_pos ((nI_eq (b := 0) (by omega) (by decide)).mp z)] at h; exact h
    · have e := (nI_eq (b := 2) (by omega) (by decide)).mp z
      subst e; exact h
    · have e := (nI_eq (b := 3) (by omega) (by decide)).mp z
      subst e; simp only [e2] at h; exact h
    · have e := (nI_eq (b := 3) (by omega) (by decide)).mp z
      subst e; simp only [e2] at h; exact h
    all_goals
      have z0 : ¬ x = 0 := fun e => z.1 (by rw [e]; rfl)
      have z2 : ¬ x = 2 := fun e => z.2.1 (by rw [e]; rfl)
      have z3 : ¬ x = 3 := fun e => z.2.2 (by rw [e]; rfl)
      rw [if_neg z0, if_neg z2, if_neg z3] at h
    · rw [if_pos e2, if_pos e3] at h; exact h
    · rw [if_pos e2, if_neg e3] at h; exact h
    · rw [if_neg e2] at h; exact h
  · have hd : 0 < d := by
      rcases Nat.eq_zero_or_pos d with z | z
      · rw [z] at q; exact absurd (by decide) q
      · exact z
    rw [if_pos hd] at h
    refine b_eq (k := 62) (by omega) (by decide) (fun e2 => ?_) (fun e2 => r_argument hc ?_)
    · rw [if_pos e2] at h; exact h
    · rw [if_neg e2] at h; exact h
