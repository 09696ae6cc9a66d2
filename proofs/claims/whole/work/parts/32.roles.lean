/-! the class's small functions of roles answer pRole's parts -/
theorem r_beginsReference {post : Int32 → Prop} {r : Nat} (hr : r < 2 ^ 31) (h : post (if r = 9 ∨ r = 6 ∨ r = 19 then 1 else 0)) : wp_beginsReference post (nI r) := by
  unfold wp_beginsReference
  simp only [w_beginsReference_18, lit32, nIe hr, Nat.reducePow, Nat.reduceLT] at h ⊢
  grind
theorem r_beginsItem {post : Int32 → Prop} {r : Nat} (hr : r < 2 ^ 31) (h : post (if r = 9 ∨ r = 6 ∨ r = 19 ∨ r = 20 ∨ r = 17 ∨ r = 18 then 1 else 0)) : wp_beginsItem post (nI r) := by
  refine r_beginsReference hr ?_
  simp only [w_beginsItem_25, lit32, nIe hr, Nat.reducePow, Nat.reduceLT] at h ⊢
  grind
theorem r_endsItem {post : Int32 → Prop} {r : Nat} (hr : r < 2 ^ 31) (h : post (if r = 14 ∨ r = 8 ∨ r = 20 ∨ r = 21 ∨ r = 17 then 1 else 0)) : wp_endsItem post (nI r) := by
  unfold wp_endsItem
  simp only [w_endsItem_30, lit32, nIe hr, Nat.reducePow, Nat.reduceLT] at h ⊢
  grind
theorem r_reference {post : Int32 → Prop} {c : Nat} (hc : c < 2 ^ 31) (h : post (nI (pRef c))) : wp_Rd_reference post (nI c) := by
  unfold wp_Rd_reference
  unfold pRef at h
  simp only [lit32, nIe hc, Nat.reducePow, Nat.reduceLT]
  grind
theorem r_closingOr {post : Int32 → Prop} {c o : Nat} (hc : c < 2 ^ 31) (h : post (nI (pClose c o))) : wp_Rd_closingOr post (nI c) (nI o) := by
  unfold wp_Rd_closingOr
  unfold pClose at h
  simp only [lit32, nIe hc, Nat.reducePow, Nat.reduceLT]
  grind
