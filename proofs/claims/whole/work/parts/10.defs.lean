abbrev rm_J_preN : Room := { frames := 0, cells := 0, slots := 0, locals := 0 }
def w_J_preN_9 (post : Int32 → Prop) (y0 : Int32) (y1 : Int32) : Prop :=
  False
def wp_J_preN (post : Int32 → Prop) (x0 : Int32) (x1 : Int32) : Prop :=
  ((x0 < 0 → w_J_preN_9 post x0 x1) ∧ (¬ x0 < 0 → ((x0 < x1 → post x0) ∧ (¬ x0 < x1 → w_J_preN_9 post x0 x1))))
abbrev rm_J_preR : Room := { frames := 0, cells := 0, slots := 0, locals := 0 }
def w_J_preR_9 (post : Int32 → Prop) (y0 : Int32) (y1 : Int32) : Prop :=
  False
def wp_J_preR (post : Int32 → Prop) (x0 : Int32) (x1 : Int32) : Prop :=
  ((x0 < 0 → w_J_preR_9 post x0 x1) ∧ (¬ x0 < 0 → ((x0 < x1 → post x0) ∧ (¬ x0 < x1 → w_J_preR_9 post x0 x1))))
abbrev rm_J_checkIndex : Room := { frames := 1, cells := 0, slots := 0, locals := 22 }
def wp_J_checkIndex (post : Unit → Prop) (x0 : Int32) (x1 : Int32) : Prop :=
  (wp_J_preN (fun r3 => post ())  x0 x1 ∧ wp_J_preR (fun r4 => post ())  x0 x1)
abbrev rm_J_isLatin1 : Room := { frames := 0, cells := 0, slots := 0, locals := 0 }
def wp_J_isLatin1 (post : Int32 → Prop) (x0 : Nat) : Prop :=
  (((1 : Int32) = 0 → post 0) ∧ (¬ (1 : Int32) = 0 → (x0 < ltN ∧ ((¬ (0 : Int32) = 0 → post 0) ∧ ((0 : Int32) = 0 → post 1)))))
abbrev rm_J_coder : Room := { frames := 0, cells := 0, slots := 0, locals := 0 }
def wp_J_coder (post : Int32 → Prop) (x0 : Nat) : Prop :=
  (((1 : Int32) = 0 → post 1) ∧ (¬ (1 : Int32) = 0 → (x0 < ltN ∧ post 0)))
abbrev rm_J_length : Room := { frames := 1, cells := 0, slots := 0, locals := 20 }
def wp_J_length (post : Int32 → Prop) (x0 : Nat) : Prop :=
  (x0 < ltN ∧ (x0 < ltN ∧ (x0 < ltN ∧ wp_J_coder (fun r2 => post ((Int32.ofNat (ltL.getD x0 0)) >>> (r2 &&& 31)))  x0)))
abbrev rm_J_lcharAt : Room := { frames := 2, cells := 0, slots := 0, locals := 43 }
def wp_J_lcharAt (post : Int32 → Prop) (x0 : Nat) (x1 : Int32) : Prop :=
  (x0 < ltN ∧ wp_J_checkIndex (fun _ => (x0 < ltN ∧ (vp_in x1 (ltL.getD x0 0) ∧ (narrow .char (.int (((((ltB.getD x0 []).getD x1.toNatClampNeg 0) &&& 255).toUInt32 % 65536).toInt32)) = .int (((((ltB.getD x0 []).getD x1.toNatClampNeg 0) &&& 255).toUInt32 % 65536).toInt32) ∧ post (((((ltB.getD x0 []).getD x1.toNatClampNeg 0) &&& 255).toUInt32 % 65536).toInt32)))))  x1 (Int32.ofNat (ltL.getD x0 0)))
abbrev rm_J_charAt : Room := { frames := 3, cells := 0, slots := 0, locals := 64 }
def wp_J_charAt (post : Int32 → Prop) (x0 : Nat) (x1 : Int32) : Prop :=
  (x0 < ltN ∧ wp_J_isLatin1 (fun r3 => ((r3 = 0 → (x0 < ltN ∧ False)) ∧ (¬ r3 = 0 → (x0 < ltN ∧ wp_J_lcharAt (fun r4 => (narrow .char (.int r4) = .int r4 ∧ post r4))  x0 x1))))  x0)
abbrev rm_J_canEncode : Room := { frames := 0, cells := 0, slots := 0, locals := 0 }
def wp_J_canEncode (post : Int32 → Prop) (x0 : Int32) : Prop :=
  ((x0 < 0 → post 0) ∧ (¬ x0 < 0 → (((255 : Int32) < x0 → post 0) ∧ (¬ (255 : Int32) < x0 → post 1))))
abbrev rm_J_indexOfChar : Room := { frames := 0, cells := 0, slots := 0, locals := 0 }
def wb_J_indexOfChar_7 (post : Int32 → Prop) (K0 : Nat → Int32 → Int32 → Int32 → Prop) (y0 : Nat) (y3 : Int32) (y4 : Int32) (y5 : Int32) : Prop :=
  ((y3 ≤ y5 → post (-1)) ∧ (¬ y3 ≤ y5 → (y0 < ltN ∧ (vp_in y5 (ltL.getD y0 0) ∧ ((¬ ((ltB.getD y0 []).getD y5.toNatClampNeg 0) = y4 → K0 y0 y3 y4 (y5 + 1)) ∧ (((ltB.getD y0 []).getD y5.toNatClampNeg 0) = y4 → post y5))))))
def w_J_indexOfChar_7 (post : Int32 → Prop) : Nat → Nat → Int32 → Int32 → Int32 → Prop
  | 0, _, _, _, _ => False
  | n + 1, y0, y3, y4, y5 => wb_J_indexOfChar_7 post   (w_J_indexOfChar_7 post   n) y0 y3 y4 y5
def wp_J_indexOfChar (post : Int32 → Prop) (x0 : Nat) (x1 : Int32) (x2 : Int32) (x3 : Int32) : Prop :=
  (∃ n, w_J_indexOfChar_7 post n x0 x3 x1.toInt8.toInt32 x2)
abbrev rm_J_lindexOf : Room := { frames := 1, cells := 0, slots := 0, locals := 25 }
def wp_J_lindexOf (post : Int32 → Prop) (x0 : Nat) (x1 : Int32) (x2 : Int32) (x3 : Int32) : Prop :=
  wp_J_canEncode (fun r3 => ((¬ r3 = 0 → (x0 < ltN ∧ (((if x2 < 0 then 0 else x2) < (if (Int32.ofNat (ltL.getD x0 0)) < x3 then (Int32.ofNat (ltL.getD x0 0)) else x3) → wp_J_indexOfChar (fun r4 => post r4)  x0 x1 (if x2 < 0 then 0 else x2) (if (Int32.ofNat (ltL.getD x0 0)) < x3 then (Int32.ofNat (ltL.getD x0 0)) else x3)) ∧ (¬ (if x2 < 0 then 0 else x2) < (if (Int32.ofNat (ltL.getD x0 0)) < x3 then (Int32.ofNat (ltL.getD x0 0)) else x3) → post (-1))))) ∧ (r3 = 0 → post (-1))))  x1
abbrev rm_J_indexOf2 : Room := { frames := 2, cells := 0, slots := 0, locals := 48 }
def wp_J_indexOf2 (post : Int32 → Prop) (x0 : Nat) (x1 : Int32) (x2 : Int32) : Prop :=
  (x0 < ltN ∧ wp_J_isLatin1 (fun r5 => ((r5 = 0 → (x0 < ltN ∧ (x0 < ltN ∧ wp_J_length (fun r6 => False)  x0))) ∧ (¬ r5 = 0 → (x0 < ltN ∧ (x0 < ltN ∧ wp_J_length (fun r7 => wp_J_lindexOf (fun r8 => post r8)  x0 x1 x2 r7)  x0)))))  x0)
abbrev rm_J_indexOf : Room := { frames := 3, cells := 0, slots := 0, locals := 70 }
def wp_J_indexOf (post : Int32 → Prop) (x0 : Nat) (x1 : Int32) : Prop :=
  (x0 < ltN ∧ wp_J_indexOf2 (fun r2 => post r2)  x0 x1 0)
abbrev rm_beginsReference : Room := { frames := 0, cells := 0, slots := 0, locals := 0 }
def w_beginsReference_18 (post : Int32 → Prop)  : Prop :=
  post 1
def wp_beginsReference (post : Int32 → Prop) (x0 : Int32) : Prop :=
  ((x0 = (9 : Int32) → w_beginsReference_18 post) ∧ (¬ x0 = (9 : Int32) → ((x0 = (6 : Int32) → w_beginsReference_18 post) ∧ (¬ x0 = (6 : Int32) → ((¬ x0 = (19 : Int32) → post 0) ∧ (x0 = (19 : Int32) → w_beginsReference_18 post))))))
abbrev rm_beginsItem : Room := { frames := 1, cells := 0, slots := 0, locals := 20 }
def w_beginsItem_25 (post : Int32 → Prop)  : Prop :=
  post 1
def wp_beginsItem (post : Int32 → Prop) (x0 : Int32) : Prop :=
  wp_beginsReference (fun r2 => ((¬ r2 = 0 → w_beginsItem_25 post) ∧ (r2 = 0 → ((x0 = (20 : Int32) → w_beginsItem_25 post) ∧ (¬ x0 = (20 : Int32) → ((x0 = (17 : Int32) → w_beginsItem_25 post) ∧ (¬ x0 = (17 : Int32) → ((¬ x0 = (18 : Int32) → post 0) ∧ (x0 = (18 : Int32) → w_beginsItem_25 post)))))))))  x0
abbrev rm_endsItem : Room := { frames := 0, cells := 0, slots := 0, locals := 0 }
def w_endsItem_30 (post : Int32 → Prop)  : Prop :=
  post 1
def wp_endsItem (post : Int32 → Prop) (x0 : Int32) : Prop :=
  ((x0 = (14 : Int32) → w_endsItem_30 post) ∧ (¬ x0 = (14 : Int32) → ((x0 = (8 : Int32) → w_endsItem_30 post) ∧ (¬ x0 = (8 : Int32) → ((x0 = (20 : Int32) → w_endsItem_30 post) ∧ (¬ x0 = (20 : Int32) → ((x0 = (21 : Int32) → w_endsItem_30 post) ∧ (¬ x0 = (21 : Int32) → ((¬ x0 = (17 : Int32) → post 0) ∧ (x0 = (17 : Int32) → w_endsItem_30 post))))))))))
abbrev rm_Rw_add : Room := { frames := 0, cells := 0, slots := 0, locals := 0 }
def wp_Rw_add (post : Int32 → RowC → Prop) (u0 : RowC) (x1 : Int32) : Prop :=
  (((rwS u0) < (Int32.ofNat (rwN u0)) → (vp_in (rwS u0) (rwN u0) ∧ post 1 (rwN u0, upd (rwF u0) (rwS u0).toNatClampNeg (vp_nar .char x1), (rwS u0) + 1))) ∧ (¬ (rwS u0) < (Int32.ofNat (rwN u0)) → post 0 u0))
abbrev rm_Rw_addText : Room := { frames := 4, cells := 0, slots := 0, locals := 85 }
def wb_Rw_addText_2 (post : RowC → Prop) (K0 : Nat → Int32 → RowC → Prop) (y1 : Nat) (y2 : Int32) (w0 : RowC) : Prop :=
  (y1 < ltN ∧ wp_J_length (fun r5 => ((r5 ≤ y2 → post w0) ∧ (¬ r5 ≤ y2 → (y1 < ltN ∧ wp_J_charAt (fun r6 => wp_Rw_add (fun r8 v7 => K0 y1 (y2 + 1) v7) w0 r6)  y1 y2))))  y1)
def w_Rw_addText_2 (post : RowC → Prop) : Nat → Nat → Int32 → RowC → Prop
  | 0, _, _, _ => False
  | n + 1, y1, y2, w0 => wb_Rw_addText_2 post   (w_Rw_addText_2 post   n) y1 y2 w0
def wp_Rw_addText (post : RowC → Prop) (u0 : RowC) (x1 : Nat) : Prop :=
  (∃ n, w_Rw_addText_2 post n x1 0 u0)
abbrev rm_Rw_holdsSameAs : Room := { frames := 0, cells := 0, slots := 0, locals := 0 }
def wb_Rw_holdsSameAs_15 (post : Int32 → Prop) (u0 : RowC) (u1 : RowC) (K0 : Int32 → Prop) (y2 : Int32) : Prop :=
  (((rwS u0) ≤ y2 → post 1) ∧ (¬ (rwS u0) ≤ y2 → (((Int32.ofNat (rwN u0)) ≤ y2 → post 1) ∧ (¬ (Int32.ofNat (rwN u0)) ≤ y2 → (((Int32.ofNat (rwN u1)) ≤ y2 → post 1) ∧ (¬ (Int32.ofNat (rwN u1)) ≤ y2 → (vp_in y2 (rwN u0) ∧ (vp_in y2 (rwN u1) ∧ ((((rwF u0) y2.toNatClampNeg) = ((rwF u1) y2.toNatClampNeg) → K0 (y2 + 1)) ∧ (¬ ((rwF u0) y2.toNatClampNeg) = ((rwF u1) y2.toNatClampNeg) → post 0))))))))))
def w_Rw_holdsSameAs_15 (post : Int32 → Prop) (u0 : RowC) (u1 : RowC) : Nat → Int32 → Prop
  | 0, _ => False
  | n + 1, y2 => wb_Rw_holdsSameAs_15 post u0 u1  (w_Rw_holdsSameAs_15 post u0 u1  n) y2
def wp_Rw_holdsSameAs (post : Int32 → Prop) (u0 : RowC) (u1 : RowC) : Prop :=
  (((rwS u0) = (rwS u1) → (∃ n, w_Rw_holdsSameAs_15 post u0 u1 n 0)) ∧ (¬ (rwS u0) = (rwS u1) → post 0))
abbrev rm_Rw_addAll : Room := { frames := 1, cells := 0, slots := 0, locals := 40 }
def wp_Rw_addAll (post : Int32 → RowC → Prop) (u0 : RowC) (u1 : CaC) : Prop :=
  (((Int32.ofNat (caN u1)) ≤ ((Int32.ofNat (rwN u0)) - (rwS u0)) → (((¬ (0 : Int32) < 0 ∧ ¬ (rwS u0) < 0 ∧ ¬ (Int32.ofNat (caN u1)) < 0 ∧ (0 : Int32).toNatClampNeg + (Int32.ofNat (caN u1)).toNatClampNeg ≤ caN u1 ∧ (rwS u0).toNatClampNeg + (Int32.ofNat (caN u1)).toNatClampNeg ≤ rwN u0) ∧ (∀ i, i < (Int32.ofNat (caN u1)).toNatClampNeg → fits .char (.int ((caF u1) ((0 : Int32).toNatClampNeg + i))) = true)) ∧ post 1 (rwN u0, va_cpy (caF u1) (rwF u0) (0 : Int32).toNatClampNeg (rwS u0).toNatClampNeg (Int32.ofNat (caN u1)).toNatClampNeg, (rwS u0) + (Int32.ofNat (caN u1))))) ∧ (¬ (Int32.ofNat (caN u1)) ≤ ((Int32.ofNat (rwN u0)) - (rwS u0)) → post 0 u0))
abbrev rm_Rw_init : Room := { frames := 1, cells := 1, slots := 260, locals := 12 }
def wp_Rw_init (post : RowC → Prop) (u0 : RowBC) (x1 : Int32) : Prop :=
  ((¬ x1 < 0 ∧ x1.toNatClampNeg ≤ 260) ∧ post (x1.toNatClampNeg, fun _ => 0, rowb_1 u0))
abbrev rm_Sk_start : Room := { frames := 0, cells := 0, slots := 0, locals := 0 }
def wp_Sk_start (post : SkC → Prop) (u0 : SkC) (x1 : Int32) : Prop :=
  post (x1, 0, (-1))
abbrev rm_Sk_pass : Room := { frames := 0, cells := 0, slots := 0, locals := 0 }
def w_Sk_pass_16 (post : SkC → Prop) (w0 : SkC) : Prop :=
  post (skW w0, (skP w0) + 1, skF w0)
def wp_Sk_pass (post : SkC → Prop) (u0 : SkC) (x1 : Int32) : Prop :=
  ((¬ (skP u0) = (skW u0) → w_Sk_pass_16 post u0) ∧ ((skP u0) = (skW u0) → w_Sk_pass_16 post (skW u0, skP u0, x1)))
abbrev rm_Sk_passText : Room := { frames := 4, cells := 0, slots := 0, locals := 85 }
def wb_Sk_passText_2 (post : SkC → Prop) (K0 : Nat → Int32 → SkC → Prop) (y1 : Nat) (y2 : Int32) (w0 : SkC) : Prop :=
  (y1 < ltN ∧ wp_J_length (fun r4 => ((r4 ≤ y2 → post w0) ∧ (¬ r4 ≤ y2 → (y1 < ltN ∧ wp_J_charAt (fun r5 => wp_Sk_pass (fun v6 => K0 y1 (y2 + 1) v6) w0 r5)  y1 y2))))  y1)
def w_Sk_passText_2 (post : SkC → Prop) : Nat → Nat → Int32 → SkC → Prop
  | 0, _, _, _ => False
  | n + 1, y1, y2, w0 => wb_Sk_passText_2 post   (w_Sk_passText_2 post   n) y1 y2 w0
def wp_Sk_passText (post : SkC → Prop) (u0 : SkC) (x1 : Nat) : Prop :=
  (∃ n, w_Sk_passText_2 post n x1 0 u0)
abbrev rm_Sk_passRow : Room := { frames := 0, cells := 0, slots := 0, locals := 0 }
def w_Sk_passRow_32 (post : SkC → Prop) (u1 : CaC) (y2 : Int32) (w0 : SkC) : Prop :=
  post (skW w0, (skP w0) + y2, skF w0)
def wp_Sk_passRow (post : SkC → Prop) (u0 : SkC) (u1 : CaC) (x2 : Int32) : Prop :=
  ((((skW u0) - (skP u0)) < 0 → w_Sk_passRow_32 post u1 x2 u0) ∧ (¬ ((skW u0) - (skP u0)) < 0 → ((x2 ≤ ((skW u0) - (skP u0)) → w_Sk_passRow_32 post u1 x2 u0) ∧ (¬ x2 ≤ ((skW u0) - (skP u0)) → (((Int32.ofNat (caN u1)) ≤ ((skW u0) - (skP u0)) → w_Sk_passRow_32 post u1 x2 u0) ∧ (¬ (Int32.ofNat (caN u1)) ≤ ((skW u0) - (skP u0)) → (vp_in ((skW u0) - (skP u0)) (caN u1) ∧ w_Sk_passRow_32 post u1 x2 (skW u0, skP u0, (caF u1) ((skW u0) - (skP u0)).toNatClampNeg))))))))
abbrev rm_Sk_init : Room := { frames := 1, cells := 0, slots := 0, locals := 12 }
def wp_Sk_init (post : SkC → Prop) (u0 : SkC) : Prop :=
  post u0
abbrev rm_Rd_reference : Room := { frames := 0, cells := 0, slots := 0, locals := 0 }
def wp_Rd_reference (post : Int32 → Prop) (x0 : Int32) : Prop :=
  ((x0 = 76 → post 9) ∧ (x0 = 84 → post 6) ∧ (x0 = 91 → post 19) ∧ (¬ x0 = 76 ∧ ¬ x0 = 84 ∧ ¬ x0 = 91 → post 0))
abbrev rm_Rd_nameOnly : Room := { frames := 4, cells := 0, slots := 0, locals := 91 }
def wp_Rd_nameOnly (post : Int32 → Prop) (x0 : Int32) (x1 : Int32) : Prop :=
  wp_J_indexOf (fun r2 => ((r2 < 0 → post x1) ∧ (¬ r2 < 0 → post 0)))  0 x0
abbrev rm_Rd_typeOnly : Room := { frames := 4, cells := 0, slots := 0, locals := 91 }
def wp_Rd_typeOnly (post : Int32 → Prop) (x0 : Int32) : Prop :=
  wp_J_indexOf (fun r3 => ((r3 < 0 → wp_Rd_reference (fun r4 => post r4)  x0) ∧ (¬ r3 < 0 → post 20)))  1 x0
abbrev rm_Rd_argument : Room := { frames := 1, cells := 0, slots := 0, locals := 20 }
def w_Rd_argument_21 (post : Int32 → Prop)  : Prop :=
  post 18
def wp_Rd_argument (post : Int32 → Prop) (x0 : Int32) : Prop :=
  ((¬ x0 = (42 : Int32) → ((x0 = (43 : Int32) → w_Rd_argument_21 post) ∧ (¬ x0 = (43 : Int32) → ((¬ x0 = (45 : Int32) → wp_Rd_reference (fun r2 => post r2)  x0) ∧ (x0 = (45 : Int32) → w_Rd_argument_21 post))))) ∧ (x0 = (42 : Int32) → post 17))
abbrev rm_Rd_closingOr : Room := { frames := 0, cells := 0, slots := 0, locals := 0 }
def wp_Rd_closingOr (post : Int32 → Prop) (x0 : Int32) (x1 : Int32) : Prop :=
  ((¬ x0 = (46 : Int32) → ((¬ x0 = (59 : Int32) → post x1) ∧ (x0 = (59 : Int32) → post 14))) ∧ (x0 = (46 : Int32) → post 12))
abbrev rm_Rd_behindArguments : Room := { frames := 1, cells := 0, slots := 0, locals := 21 }
def wp_Rd_behindArguments (post : Int32 → Prop) (x0 : Int32) : Prop :=
  wp_Rd_closingOr (fun r2 => post r2)  x0 0
abbrev rm_Rd_inSegment : Room := { frames := 5, cells := 0, slots := 0, locals := 112 }
def wp_Rd_inSegment (post : Int32 → Prop) (x0 : Int32) (x1 : Int32) : Prop :=
  ((¬ x0 = (60 : Int32) → wp_Rd_nameOnly (fun r3 => wp_Rd_closingOr (fun r4 => post r4)  x0 r3)  x0 x1) ∧ (x0 = (60 : Int32) → post 15))
abbrev rm_Rd_inTypes : Room := { frames := 5, cells := 0, slots := 0, locals := 111 }
def wp_Rd_inTypes (post : Int32 → Prop) (x0 : Int32) : Prop :=
  ((¬ x0 = (41 : Int32) → wp_Rd_typeOnly (fun r2 => post r2)  x0) ∧ (x0 = (41 : Int32) → post 23))
abbrev rm_Rd_behindBound : Room := { frames := 5, cells := 0, slots := 0, locals := 112 }
def wp_Rd_behindBound (post : Int32 → Prop) (x0 : Int32) : Prop :=
  ((¬ x0 = (58 : Int32) → ((¬ x0 = (62 : Int32) → wp_Rd_nameOnly (fun r2 => post r2)  x0 2) ∧ (x0 = (62 : Int32) → post 5))) ∧ (x0 = (58 : Int32) → post 4))
abbrev rm_Rd_behindFirstColon : Room := { frames := 6, cells := 0, slots := 0, locals := 132 }
def wp_Rd_behindFirstColon (post : Int32 → Prop) (x0 : Int32) : Prop :=
  wp_Rd_reference (fun r3 => ((¬ r3 = 0 → post r3) ∧ (r3 = 0 → wp_Rd_behindBound (fun r4 => post r4)  x0)))  x0
abbrev rm_Rd_behindItem : Room := { frames := 6, cells := 0, slots := 0, locals := 132 }
def w_Rd_behindItem_79 (post : Int32 → Prop) (u0 : RdC) (y1 : Int32) : Prop :=
  ((¬ (rdK u0) = 0 → post 0) ∧ ((rdK u0) = 0 → ((¬ y1 = (76 : Int32) → post 0) ∧ (y1 = (76 : Int32) → post 9))))
def wp_Rd_behindItem (post : Int32 → Prop) (u0 : RdC) (x1 : Int32) : Prop :=
  (((rdD u0) ≤ 0 → (((rdX u0) = 0 → wp_Rd_behindBound (fun r6 => post r6)  x1) ∧ ((rdX u0) = 2 → wp_Rd_inTypes (fun r7 => post r7)  x1) ∧ ((rdX u0) = 3 → ((¬ x1 = (94 : Int32) → post 0) ∧ (x1 = (94 : Int32) → post 24))) ∧ (¬ (rdX u0) = 0 ∧ ¬ (rdX u0) = 2 ∧ ¬ (rdX u0) = 3 → w_Rd_behindItem_79 post u0 x1))) ∧ (¬ (rdD u0) ≤ 0 → ((¬ x1 = (62 : Int32) → wp_Rd_argument (fun r10 => post r10)  x1) ∧ (x1 = (62 : Int32) → post 16))))
abbrev rm_Rd_atBody : Room := { frames := 0, cells := 0, slots := 0, locals := 0 }
def wp_Rd_atBody (post : Int32 → Prop) (u0 : RdC) (x1 : Int32) : Prop :=
  ((¬ (rdK u0) = (1 : Int32) → ((¬ x1 = (76 : Int32) → post 0) ∧ (x1 = (76 : Int32) → post 9))) ∧ ((rdK u0) = (1 : Int32) → ((¬ x1 = (40 : Int32) → post 0) ∧ (x1 = (40 : Int32) → post 22))))
abbrev rm_Rd_atStart : Room := { frames := 1, cells := 0, slots := 0, locals := 21 }
def wp_Rd_atStart (post : Int32 → Prop) (u0 : RdC) (x1 : Int32) : Prop :=
  ((¬ (rdK u0) = (2 : Int32) → ((¬ x1 = (60 : Int32) → wp_Rd_atBody (fun r3 => post r3) u0 x1) ∧ (x1 = (60 : Int32) → post 1))) ∧ ((rdK u0) = (2 : Int32) → wp_Rd_reference (fun r4 => post r4)  x1))
abbrev rm_Rd_roleOf : Room := { frames := 7, cells := 0, slots := 0, locals := 153 }
def w_Rd_roleOf_159 (post : Int32 → Prop) (u0 : RdC) (y1 : Int32) : Prop :=
  wp_Rd_reference (fun r36 => post r36)  y1
def w_Rd_roleOf_189 (post : Int32 → Prop) (u0 : RdC) (y1 : Int32) : Prop :=
  wp_Rd_nameOnly (fun r37 => post r37)  y1 10
def w_Rd_roleOf_279 (post : Int32 → Prop) (u0 : RdC) (y1 : Int32) : Prop :=
  wp_Rd_behindItem (fun r38 => post r38) u0 y1
def wp_Rd_roleOf (post : Int32 → Prop) (u0 : RdC) (x1 : Int32) : Prop :=
  (((rdL u0) = 0 → wp_Rd_atStart (fun r39 => post r39) u0 x1) ∧ ((rdL u0) = 1 → wp_Rd_nameOnly (fun r40 => post r40)  x1 2) ∧ ((rdL u0) = 2 → ((¬ x1 = (58 : Int32) → wp_Rd_nameOnly (fun r41 => post r41)  x1 2) ∧ (x1 = (58 : Int32) → post 3))) ∧ ((rdL u0) = 3 → wp_Rd_behindFirstColon (fun r42 => post r42)  x1) ∧ ((rdL u0) = 4 ∨ (rdL u0) = 18 → w_Rd_roleOf_159 post u0 x1) ∧ ((rdL u0) = 5 → wp_Rd_atBody (fun r43 => post r43) u0 x1) ∧ ((rdL u0) = 6 → wp_Rd_nameOnly (fun r44 => post r44)  x1 7) ∧ ((rdL u0) = 7 → ((¬ x1 = (59 : Int32) → wp_Rd_nameOnly (fun r45 => post r45)  x1 7) ∧ (x1 = (59 : Int32) → post 8))) ∧ ((rdL u0) = 9 ∨ (rdL u0) = 11 → w_Rd_roleOf_189 post u0 x1) ∧ ((rdL u0) = 10 → ((¬ x1 = (47 : Int32) → wp_Rd_inSegment (fun r46 => post r46)  x1 10) ∧ (x1 = (47 : Int32) → post 11))) ∧ ((rdL u0) = 12 → wp_Rd_nameOnly (fun r47 => post r47)  x1 13) ∧ ((rdL u0) = 13 → wp_Rd_inSegment (fun r48 => post r48)  x1 13) ∧ ((rdL u0) = 15 → wp_Rd_argument (fun r49 => post r49)  x1) ∧ ((rdL u0) = 16 → wp_Rd_behindArguments (fun r50 => post r50)  x1) ∧ ((rdL u0) = 19 → wp_Rd_typeOnly (fun r51 => post r51)  x1) ∧ ((rdL u0) = 22 → wp_Rd_inTypes (fun r52 => post r52)  x1) ∧ ((rdL u0) = 23 → ((¬ x1 = (86 : Int32) → wp_Rd_typeOnly (fun r53 => post r53)  x1) ∧ (x1 = (86 : Int32) → post 21))) ∧ ((rdL u0) = 24 → ((¬ x1 = (91 : Int32) → wp_Rd_reference (fun r54 => post r54)  x1) ∧ (x1 = (91 : Int32) → post 0))) ∧ (¬ (rdL u0) = 0 ∧ ¬ (rdL u0) = 1 ∧ ¬ (rdL u0) = 2 ∧ ¬ (rdL u0) = 3 ∧ ¬ (rdL u0) = 4 ∧ ¬ (rdL u0) = 5 ∧ ¬ (rdL u0) = 6 ∧ ¬ (rdL u0) = 7 ∧ ¬ (rdL u0) = 9 ∧ ¬ (rdL u0) = 10 ∧ ¬ (rdL u0) = 11 ∧ ¬ (rdL u0) = 12 ∧ ¬ (rdL u0) = 13 ∧ ¬ (rdL u0) = 15 ∧ ¬ (rdL u0) = 16 ∧ ¬ (rdL u0) = 18 ∧ ¬ (rdL u0) = 19 ∧ ¬ (rdL u0) = 22 ∧ ¬ (rdL u0) = 23 ∧ ¬ (rdL u0) = 24 → w_Rd_roleOf_279 post u0 x1))
abbrev rm_Rd_sameName : Room := { frames := 0, cells := 0, slots := 0, locals := 0 }
def wb_Rd_sameName_38 (post : Int32 → Prop) (u0 : RdC) (u1 : RowC) (K0 : Int32 → Int32 → Int32 → Int32 → Prop) (y2 : Int32) (y3 : Int32) (y4 : Int32) (y5 : Int32) : Prop :=
  ((y4 ≤ y5 → post 1) ∧ (¬ y4 ≤ y5 → (vp_in y2 (rdN u0) ∧ (vp_in (((rdB u0) y2.toNatClampNeg) + y5) (rwN u1) ∧ (vp_in y3 (rdN u0) ∧ (vp_in (((rdB u0) y3.toNatClampNeg) + y5) (rwN u1) ∧ ((((rwF u1) (((rdB u0) y2.toNatClampNeg) + y5).toNatClampNeg) = ((rwF u1) (((rdB u0) y3.toNatClampNeg) + y5).toNatClampNeg) → K0 y2 y3 y4 (y5 + 1)) ∧ (¬ ((rwF u1) (((rdB u0) y2.toNatClampNeg) + y5).toNatClampNeg) = ((rwF u1) (((rdB u0) y3.toNatClampNeg) + y5).toNatClampNeg) → post 0))))))))
def w_Rd_sameName_38 (post : Int32 → Prop) (u0 : RdC) (u1 : RowC) : Nat → Int32 → Int32 → Int32 → Int32 → Prop
  | 0, _, _, _, _ => False
  | n + 1, y2, y3, y4, y5 => wb_Rd_sameName_38 post u0 u1  (w_Rd_sameName_38 post u0 u1  n) y2 y3 y4 y5
def wp_Rd_sameName (post : Int32 → Prop) (u0 : RdC) (u1 : RowC) (x2 : Int32) (x3 : Int32) : Prop :=
  (vp_in x2 (rdN u0) ∧ (vp_in x2 (rdN u0) ∧ (vp_in x3 (rdN u0) ∧ (vp_in x3 (rdN u0) ∧ (((((rdE u0) x2.toNatClampNeg) - ((rdB u0) x2.toNatClampNeg)) = (((rdE u0) x3.toNatClampNeg) - ((rdB u0) x3.toNatClampNeg)) → (∃ n, w_Rd_sameName_38 post u0 u1 n x2 x3 (((rdE u0) x2.toNatClampNeg) - ((rdB u0) x2.toNatClampNeg)) 0)) ∧ (¬ (((rdE u0) x2.toNatClampNeg) - ((rdB u0) x2.toNatClampNeg)) = (((rdE u0) x3.toNatClampNeg) - ((rdB u0) x3.toNatClampNeg)) → post 0))))))
abbrev rm_Rd_nameIsTaken : Room := { frames := 1, cells := 0, slots := 0, locals := 25 }
def wb_Rd_nameIsTaken_2 (post : Int32 → Prop) (u0 : RdC) (u1 : RowC) (K0 : Int32 → Prop) (y2 : Int32) : Prop :=
  ((((rdC u0) - 1) ≤ y2 → post 0) ∧ (¬ ((rdC u0) - 1) ≤ y2 → wp_Rd_sameName (fun r2 => ((r2 = 0 → K0 (y2 + 1)) ∧ (¬ r2 = 0 → post 1))) u0 u1 y2 ((rdC u0) - 1)))
def w_Rd_nameIsTaken_2 (post : Int32 → Prop) (u0 : RdC) (u1 : RowC) : Nat → Int32 → Prop
  | 0, _ => False
  | n + 1, y2 => wb_Rd_nameIsTaken_2 post u0 u1  (w_Rd_nameIsTaken_2 post u0 u1  n) y2
def wp_Rd_nameIsTaken (post : Int32 → Prop) (u0 : RdC) (u1 : RowC) : Prop :=
  (∃ n, w_Rd_nameIsTaken_2 post u0 u1 n 0)
abbrev rm_Rd_mayEnd : Room := { frames := 1, cells := 0, slots := 0, locals := 20 }
def w_Rd_mayEnd_29 (post : Int32 → Prop) (u0 : RdC) (z0 : Int32) : Prop :=
  ((z0 = 0 → post 0) ∧ (¬ z0 = 0 → ((¬ (rdD u0) = 0 → post 0) ∧ ((rdD u0) = 0 → wp_endsItem (fun r2 => ((r2 = 0 → post 0) ∧ (¬ r2 = 0 → post 1)))  (rdL u0)))))
def w_Rd_mayEnd_24 (post : Int32 → Prop) (u0 : RdC)  : Prop :=
  w_Rd_mayEnd_29 post u0 1
def w_Rd_mayEnd_28 (post : Int32 → Prop) (u0 : RdC)  : Prop :=
  w_Rd_mayEnd_29 post u0 0
def wp_Rd_mayEnd (post : Int32 → Prop) (u0 : RdC) : Prop :=
  (((rdX u0) = (3 : Int32) → w_Rd_mayEnd_24 post u0) ∧ (¬ (rdX u0) = (3 : Int32) → ((¬ (rdX u0) = (1 : Int32) → w_Rd_mayEnd_28 post u0) ∧ ((rdX u0) = (1 : Int32) → (((rdK u0) = (1 : Int32) → w_Rd_mayEnd_28 post u0) ∧ (¬ (rdK u0) = (1 : Int32) → w_Rd_mayEnd_24 post u0))))))
abbrev rm_Rd_noteName : Room := { frames := 0, cells := 0, slots := 0, locals := 0 }
def w_Rd_noteName_40 (post : RdC → Prop) (y1 : Int32) (w0 : RdC) : Prop :=
  (((rdC w0) ≤ 0 → post w0) ∧ (¬ (rdC w0) ≤ 0 → (vp_in ((rdC w0) - 1) (rdN w0) ∧ post (rdN w0, rdR w0, rdB w0, upd (rdE w0) ((rdC w0) - 1).toNatClampNeg (y1 + 1), rdC w0, rdK w0, rdX w0, rdD w0, rdL w0))))
def wp_Rd_noteName (post : RdC → Prop) (u0 : RdC) (x1 : Int32) : Prop :=
  (((rdL u0) = (2 : Int32) → w_Rd_noteName_40 post x1 u0) ∧ (¬ (rdL u0) = (2 : Int32) → (((Int32.ofNat (rdN u0)) ≤ (rdC u0) → w_Rd_noteName_40 post x1 u0) ∧ (¬ (Int32.ofNat (rdN u0)) ≤ (rdC u0) → (vp_in (rdC u0) (rdN u0) ∧ w_Rd_noteName_40 post x1 (rdN u0, rdR u0, upd (rdB u0) (rdC u0).toNatClampNeg x1, rdE u0, (rdC u0) + 1, rdK u0, rdX u0, rdD u0, rdL u0))))))
abbrev rm_Rd_take : Room := { frames := 1, cells := 0, slots := 0, locals := 21 }
def w_Rd_take_174 (post : RdC → Prop) (y1 : Int32) (y2 : Int32) (w0 : RdC) : Prop :=
  (vp_in y2 (rdN w0) ∧ post (rdN w0, upd (rdR w0) y2.toNatClampNeg y1, rdB w0, rdE w0, rdC w0, rdK w0, rdX w0, rdD w0, y1))
def wp_Rd_take (post : RdC → Prop) (u0 : RdC) (x1 : Int32) (x2 : Int32) : Prop :=
  ((x1 = 1 → w_Rd_take_174 post x1 x2 (rdN u0, rdR u0, rdB u0, rdE u0, rdC u0, rdK u0, 0, rdD u0, rdL u0)) ∧ (x1 = 2 → wp_Rd_noteName (fun v3 => w_Rd_take_174 post x1 x2 v3) u0 x2) ∧ (x1 = 5 → w_Rd_take_174 post x1 x2 (rdN u0, rdR u0, rdB u0, rdE u0, rdC u0, rdK u0, 1, rdD u0, rdL u0)) ∧ (x1 = 15 → w_Rd_take_174 post x1 x2 (rdN u0, rdR u0, rdB u0, rdE u0, rdC u0, rdK u0, rdX u0, (rdD u0) + 1, rdL u0)) ∧ (x1 = 16 → w_Rd_take_174 post x1 x2 (rdN u0, rdR u0, rdB u0, rdE u0, rdC u0, rdK u0, rdX u0, (rdD u0) - 1, rdL u0)) ∧ (x1 = 22 → w_Rd_take_174 post x1 x2 (rdN u0, rdR u0, rdB u0, rdE u0, rdC u0, rdK u0, 2, rdD u0, rdL u0)) ∧ (x1 = 23 → w_Rd_take_174 post x1 x2 (rdN u0, rdR u0, rdB u0, rdE u0, rdC u0, rdK u0, 3, rdD u0, rdL u0)) ∧ (¬ x1 = 1 ∧ ¬ x1 = 2 ∧ ¬ x1 = 5 ∧ ¬ x1 = 15 ∧ ¬ x1 = 16 ∧ ¬ x1 = 22 ∧ ¬ x1 = 23 → w_Rd_take_174 post x1 x2 u0))
abbrev rm_Rd_faultOf : Room := { frames := 8, cells := 0, slots := 0, locals := 174 }
def w_Rd_faultOf_90 (post : Int32 → RdC → Prop) (u1 : RowC) (w0 : RdC) : Prop :=
  wp_Rd_mayEnd (fun r5 => ((r5 = 0 → post (rwS u1) w0) ∧ (¬ r5 = 0 → post (-1) w0))) w0
def w_Rd_faultOf_77 (post : Int32 → RdC → Prop) (u1 : RowC) (K0 : Int32 → RdC → Prop) (y3 : Int32) (y4 : Int32) (w0 : RdC) : Prop :=
  wp_Rd_take (fun v6 => K0 (y3 + 1) v6) w0 y4 y3
def wb_Rd_faultOf_27 (post : Int32 → RdC → Prop) (u1 : RowC) (K0 : Int32 → RdC → Prop) (y3 : Int32) (w0 : RdC) : Prop :=
  (((rwS u1) ≤ y3 → w_Rd_faultOf_90 post u1 w0) ∧ (¬ (rwS u1) ≤ y3 → (((Int32.ofNat (rdN w0)) ≤ y3 → w_Rd_faultOf_90 post u1 w0) ∧ (¬ (Int32.ofNat (rdN w0)) ≤ y3 → (vp_in y3 (rwN u1) ∧ wp_Rd_roleOf (fun r7 => ((r7 = 0 → post y3 w0) ∧ (¬ r7 = 0 → ((¬ r7 = (3 : Int32) → w_Rd_faultOf_77 post u1 K0 y3 r7 w0) ∧ (r7 = (3 : Int32) → wp_Rd_nameIsTaken (fun r8 => ((r8 = 0 → w_Rd_faultOf_77 post u1 K0 y3 r7 w0) ∧ (¬ r8 = 0 → post y3 w0))) w0 u1))))) w0 ((rwF u1) y3.toNatClampNeg))))))
def w_Rd_faultOf_27 (post : Int32 → RdC → Prop) (u1 : RowC) : Nat → Int32 → RdC → Prop
  | 0, _, _ => False
  | n + 1, y3, w0 => wb_Rd_faultOf_27 post u1  (w_Rd_faultOf_27 post u1  n) y3 w0
def wp_Rd_faultOf (post : Int32 → RdC → Prop) (u0 : RdC) (u1 : RowC) (x2 : Int32) : Prop :=
  (∃ n, w_Rd_faultOf_27 post u1 n 0 (rdN u0, rdR u0, rdB u0, rdE u0, 0, x2, 1, 0, 0))
abbrev rm_Rd_init : Room := { frames := 1, cells := 3, slots := 360, locals := 12 }
def wp_Rd_init (post : RdC → Prop) (u0 : ReadBC) : Prop :=
  post (120, fun _ => 0, fun _ => 0, fun _ => 0, readb_3 u0, readb_4 u0, readb_5 u0, readb_6 u0, readb_7 u0)
abbrev rm_Sg_roleAt : Room := { frames := 0, cells := 0, slots := 0, locals := 0 }
def wp_Sg_roleAt (post : Int32 → Prop) (u0 : SgC) (x1 : Int32) : Prop :=
  ((x1 < 0 → post 0) ∧ (¬ x1 < 0 → (((Int32.ofNat (sgN u0)) ≤ x1 → post 0) ∧ (¬ (Int32.ofNat (sgN u0)) ≤ x1 → (vp_in x1 (sgN u0) ∧ post ((sgR u0) x1.toNatClampNeg))))))
abbrev rm_Sg_letterAt : Room := { frames := 0, cells := 0, slots := 0, locals := 0 }
def wp_Sg_letterAt (post : Int32 → Prop) (u0 : SgC) (x1 : Int32) : Prop :=
  ((x1 < 0 → post 0) ∧ (¬ x1 < 0 → (((Int32.ofNat (sgN u0)) ≤ x1 → post 0) ∧ (¬ (Int32.ofNat (sgN u0)) ≤ x1 → (vp_in x1 (sgN u0) ∧ (narrow .char (.int ((sgL u0) x1.toNatClampNeg)) = .int ((sgL u0) x1.toNatClampNeg) ∧ post ((sgL u0) x1.toNatClampNeg)))))))
abbrev rm_Sg_hasParameter : Room := { frames := 0, cells := 0, slots := 0, locals := 0 }
def wp_Sg_hasParameter (post : Int32 → Prop) (u0 : SgC) (x1 : Int32) : Prop :=
  ((x1 < 0 → post 0) ∧ (¬ x1 < 0 → (((Int32.ofNat (sgM u0)) ≤ x1 → post 0) ∧ (¬ (Int32.ofNat (sgM u0)) ≤ x1 → post 1))))
abbrev rm_Sg_nameStart : Room := { frames := 1, cells := 0, slots := 0, locals := 21 }
def wp_Sg_nameStart (post : Int32 → Prop) (u0 : SgC) (x1 : Int32) : Prop :=
  wp_Sg_hasParameter (fun r2 => ((r2 = 0 → post (Int32.ofNat (sgN u0))) ∧ (¬ r2 = 0 → (vp_in x1 (sgM u0) ∧ post ((sgB u0) x1.toNatClampNeg))))) u0 x1
abbrev rm_Sg_nameLength : Room := { frames := 1, cells := 0, slots := 0, locals := 21 }
def wp_Sg_nameLength (post : Int32 → Prop) (u0 : SgC) (x1 : Int32) : Prop :=
  wp_Sg_hasParameter (fun r2 => ((r2 = 0 → post 0) ∧ (¬ r2 = 0 → (vp_in x1 (sgM u0) ∧ (vp_in x1 (sgM u0) ∧ post (((sgE u0) x1.toNatClampNeg) - ((sgB u0) x1.toNatClampNeg))))))) u0 x1
abbrev rm_Sg_behindName : Room := { frames := 1, cells := 0, slots := 0, locals := 21 }
def wb_Sg_behindName_8 (post : Int32 → Prop) (u0 : SgC) (K0 : Int32 → Int32 → Prop) (y2 : Int32) (y3 : Int32) : Prop :=
  (((Int32.ofNat (sgN u0)) ≤ y3 → post y3) ∧ (¬ (Int32.ofNat (sgN u0)) ≤ y3 → wp_Sg_roleAt (fun r3 => ((¬ r3 = y2 → post y3) ∧ (r3 = y2 → K0 y2 (y3 + 1)))) u0 y3))
def w_Sg_behindName_8 (post : Int32 → Prop) (u0 : SgC) : Nat → Int32 → Int32 → Prop
  | 0, _, _ => False
  | n + 1, y2, y3 => wb_Sg_behindName_8 post u0  (w_Sg_behindName_8 post u0  n) y2 y3
def wp_Sg_behindName (post : Int32 → Prop) (u0 : SgC) (x1 : Int32) : Prop :=
  wp_Sg_roleAt (fun r4 => (∃ n, w_Sg_behindName_8 post u0 n r4 x1)) u0 x1
abbrev rm_Sg_parameterEnd : Room := { frames := 2, cells := 0, slots := 0, locals := 42 }
def wp_Sg_parameterEnd (post : Int32 → Prop) (u0 : SgC) (x1 : Int32) : Prop :=
  (((Int32.ofNat (sgM u0)) ≤ (x1 + 1) → post ((sgO u0) - 1)) ∧ (¬ (Int32.ofNat (sgM u0)) ≤ (x1 + 1) → wp_Sg_nameStart (fun r2 => post r2) u0 (x1 + 1)))
abbrev rm_Sg_boundCount : Room := { frames := 3, cells := 0, slots := 0, locals := 63 }
def w_Sg_boundCount_64 (post : Int32 → Prop) (u0 : SgC) (K0 : Int32 → Int32 → Int32 → Prop) (y1 : Int32) (y2 : Int32) (y3 : Int32) : Prop :=
  K0 y1 y2 (y3 + 1)
def w_Sg_boundCount_61 (post : Int32 → Prop) (u0 : SgC) (K0 : Int32 → Int32 → Int32 → Prop) (y1 : Int32) (y2 : Int32) (y3 : Int32) : Prop :=
  w_Sg_boundCount_64 post u0 K0 y1 (y2 + 1) y3
def w_Sg_boundCount_48 (post : Int32 → Prop) (u0 : SgC) (K0 : Int32 → Int32 → Int32 → Prop) (y1 : Int32) (y2 : Int32) (y3 : Int32) (y4 : Int32) (z0 : Int32) : Prop :=
  ((y4 = (4 : Int32) → w_Sg_boundCount_61 post u0 K0 y1 y2 y3) ∧ (¬ y4 = (4 : Int32) → ((z0 = 0 → w_Sg_boundCount_64 post u0 K0 y1 y2 y3) ∧ (¬ z0 = 0 → w_Sg_boundCount_61 post u0 K0 y1 y2 y3))))
def w_Sg_boundCount_47 (post : Int32 → Prop) (u0 : SgC) (K0 : Int32 → Int32 → Int32 → Prop) (y1 : Int32) (y2 : Int32) (y3 : Int32) (y4 : Int32) : Prop :=
  w_Sg_boundCount_48 post u0 K0 y1 y2 y3 y4 0
def wb_Sg_boundCount_8 (post : Int32 → Prop) (u0 : SgC) (K0 : Int32 → Int32 → Int32 → Prop) (y1 : Int32) (y2 : Int32) (y3 : Int32) : Prop :=
  wp_Sg_parameterEnd (fun r6 => ((r6 ≤ y3 → post y2) ∧ (¬ r6 ≤ y3 → wp_Sg_roleAt (fun r7 => ((¬ r7 = (3 : Int32) → w_Sg_boundCount_47 post u0 K0 y1 y2 y3 r7) ∧ (r7 = (3 : Int32) → wp_Sg_roleAt (fun r8 => wp_beginsReference (fun r9 => ((r9 = 0 → w_Sg_boundCount_47 post u0 K0 y1 y2 y3 r7) ∧ (¬ r9 = 0 → w_Sg_boundCount_48 post u0 K0 y1 y2 y3 r7 1)))  r8) u0 (y3 + 1)))) u0 y3))) u0 y1
def w_Sg_boundCount_8 (post : Int32 → Prop) (u0 : SgC) : Nat → Int32 → Int32 → Int32 → Prop
  | 0, _, _, _ => False
  | n + 1, y1, y2, y3 => wb_Sg_boundCount_8 post u0  (w_Sg_boundCount_8 post u0  n) y1 y2 y3
def wp_Sg_boundCount (post : Int32 → Prop) (u0 : SgC) (x1 : Int32) : Prop :=
  wp_Sg_nameStart (fun r10 => (∃ n, w_Sg_boundCount_8 post u0 n x1 0 r10)) u0 x1
abbrev rm_Sg_firstBound : Room := { frames := 2, cells := 0, slots := 0, locals := 42 }
def wp_Sg_firstBound (post : Int32 → Prop) (u0 : SgC) (x1 : Int32) : Prop :=
  wp_Sg_nameStart (fun r6 => wp_Sg_nameLength (fun r7 => wp_Sg_roleAt (fun r8 => ((¬ r8 = (4 : Int32) → wp_Sg_roleAt (fun r9 => wp_beginsReference (fun r10 => ((r10 = 0 → post (-1)) ∧ (¬ r10 = 0 → post ((r6 + r7) + 1))))  r9) u0 ((r6 + r7) + 1)) ∧ (r8 = (4 : Int32) → post (((r6 + r7) + 1) + 1)))) u0 ((r6 + r7) + 1)) u0 x1) u0 x1
abbrev rm_Sg_sameLetters : Room := { frames := 1, cells := 0, slots := 0, locals := 21 }
def wb_Sg_sameLetters_3 (post : Int32 → Prop) (u0 : SgC) (u2 : SgC) (K0 : Int32 → Int32 → Int32 → Int32 → Prop) (y1 : Int32) (y3 : Int32) (y4 : Int32) (y5 : Int32) : Prop :=
  ((y4 ≤ y5 → post 1) ∧ (¬ y4 ≤ y5 → wp_Sg_letterAt (fun r3 => wp_Sg_letterAt (fun r4 => ((r3 = r4 → K0 y1 y3 y4 (y5 + 1)) ∧ (¬ r3 = r4 → post 0))) u2 (y3 + y5)) u0 (y1 + y5)))
def w_Sg_sameLetters_3 (post : Int32 → Prop) (u0 : SgC) (u2 : SgC) : Nat → Int32 → Int32 → Int32 → Int32 → Prop
  | 0, _, _, _, _ => False
  | n + 1, y1, y3, y4, y5 => wb_Sg_sameLetters_3 post u0 u2  (w_Sg_sameLetters_3 post u0 u2  n) y1 y3 y4 y5
def wp_Sg_sameLetters (post : Int32 → Prop) (u0 : SgC) (u2 : SgC) (x1 : Int32) (x3 : Int32) (x4 : Int32) : Prop :=
  (∃ n, w_Sg_sameLetters_3 post u0 u2 n x1 x3 x4 0)
abbrev rm_Sg_parameterNamed : Room := { frames := 2, cells := 0, slots := 0, locals := 46 }
def w_Sg_parameterNamed_51 (post : Int32 → Prop) (u0 : SgC) (u1 : SgC) (K0 : Int32 → Int32 → Int32 → Prop) (y2 : Int32) (y3 : Int32) (y4 : Int32) : Prop :=
  K0 y2 y3 (y4 + 1)
def wb_Sg_parameterNamed_11 (post : Int32 → Prop) (u0 : SgC) (u1 : SgC) (K0 : Int32 → Int32 → Int32 → Prop) (y2 : Int32) (y3 : Int32) (y4 : Int32) : Prop :=
  (((Int32.ofNat (sgM u0)) ≤ y4 → post (-1)) ∧ (¬ (Int32.ofNat (sgM u0)) ≤ y4 → wp_Sg_nameLength (fun r4 => ((¬ r4 = y3 → w_Sg_parameterNamed_51 post u0 u1 K0 y2 y3 y4) ∧ (r4 = y3 → (vp_in y4 (sgM u0) ∧ wp_Sg_sameLetters (fun r5 => ((r5 = 0 → w_Sg_parameterNamed_51 post u0 u1 K0 y2 y3 y4) ∧ (¬ r5 = 0 → post y4))) u0 u1 ((sgB u0) y4.toNatClampNeg) y2 y3)))) u0 y4))
def w_Sg_parameterNamed_11 (post : Int32 → Prop) (u0 : SgC) (u1 : SgC) : Nat → Int32 → Int32 → Int32 → Prop
  | 0, _, _, _ => False
  | n + 1, y2, y3, y4 => wb_Sg_parameterNamed_11 post u0 u1  (w_Sg_parameterNamed_11 post u0 u1  n) y2 y3 y4
def wp_Sg_parameterNamed (post : Int32 → Prop) (u0 : SgC) (u1 : SgC) (x2 : Int32) : Prop :=
  wp_Sg_behindName (fun r6 => (∃ n, w_Sg_parameterNamed_11 post u0 u1 n x2 (r6 - x2) 0)) u1 x2
abbrev rm_Sg_repeatsName : Room := { frames := 2, cells := 0, slots := 0, locals := 46 }
def wp_Sg_repeatsName (post : Int32 → Prop) (u0 : SgC) (x1 : Int32) (x2 : Int32) : Prop :=
  wp_Sg_nameStart (fun r4 => wp_Sg_nameLength (fun r5 => wp_Sg_sameLetters (fun r6 => (narrow .boolean (.int r6) = .int r6 ∧ post r6)) u0 u0 r4 x2 r5) u0 x1) u0 x1
abbrev rm_Sg_declarerAt : Room := { frames := 3, cells := 0, slots := 0, locals := 70 }
def wp_Sg_declarerAt (post : Int32 → Prop) (u0 : SgC) (x1 : Int32) : Prop :=
  wp_Sg_roleAt (fun r3 => ((¬ r3 = (6 : Int32) → post (-1)) ∧ (r3 = (6 : Int32) → wp_Sg_parameterNamed (fun r4 => post r4) u0 u0 (x1 + 1)))) u0 x1
abbrev rm_Sg_ownNameAt : Room := { frames := 3, cells := 0, slots := 0, locals := 70 }
def w_Sg_ownNameAt_22 (post : Int32 → Prop) (u0 : SgC) (y1 : Int32) (y2 : Int32) (z0 : Int32) : Prop :=
  ((z0 = 0 → post (-1)) ∧ (¬ z0 = 0 → wp_Sg_roleAt (fun r4 => ((r4 = y2 → post (-1)) ∧ (¬ r4 = y2 → wp_Sg_parameterNamed (fun r5 => post r5) u0 u0 y1))) u0 (y1 - 1)))
def w_Sg_ownNameAt_17 (post : Int32 → Prop) (u0 : SgC) (y1 : Int32) (y2 : Int32) : Prop :=
  w_Sg_ownNameAt_22 post u0 y1 y2 1
def wp_Sg_ownNameAt (post : Int32 → Prop) (u0 : SgC) (x1 : Int32) : Prop :=
  wp_Sg_roleAt (fun r6 => ((r6 = (2 : Int32) → w_Sg_ownNameAt_17 post u0 x1 r6) ∧ (¬ r6 = (2 : Int32) → ((¬ r6 = (7 : Int32) → w_Sg_ownNameAt_22 post u0 x1 r6 0) ∧ (r6 = (7 : Int32) → w_Sg_ownNameAt_17 post u0 x1 r6))))) u0 x1
abbrev rm_Sg_behindType : Room := { frames := 1, cells := 0, slots := 0, locals := 21 }
def w_Sg_behindType_62 (post : Int32 → Prop) (u0 : SgC) (K0 : Int32 → Int32 → Prop) (y2 : Int32) (y3 : Int32) : Prop :=
  K0 y2 (y3 + 1)
def wb_Sg_behindType_4 (post : Int32 → Prop) (u0 : SgC) (K0 : Int32 → Int32 → Prop) (y2 : Int32) (y3 : Int32) : Prop :=
  (((Int32.ofNat (sgN u0)) ≤ y3 → post (Int32.ofNat (sgN u0))) ∧ (¬ (Int32.ofNat (sgN u0)) ≤ y3 → wp_Sg_roleAt (fun r3 => ((¬ r3 = (15 : Int32) → ((¬ r3 = (16 : Int32) → ((¬ y2 = 0 → w_Sg_behindType_62 post u0 K0 y2 y3) ∧ (y2 = 0 → wp_endsItem (fun r4 => ((r4 = 0 → w_Sg_behindType_62 post u0 K0 y2 y3) ∧ (¬ r4 = 0 → post (y3 + 1))))  r3))) ∧ (r3 = (16 : Int32) → w_Sg_behindType_62 post u0 K0 (y2 + (-1)) y3))) ∧ (r3 = (15 : Int32) → w_Sg_behindType_62 post u0 K0 (y2 + 1) y3))) u0 y3))
def w_Sg_behindType_4 (post : Int32 → Prop) (u0 : SgC) : Nat → Int32 → Int32 → Prop
  | 0, _, _ => False
  | n + 1, y2, y3 => wb_Sg_behindType_4 post u0  (w_Sg_behindType_4 post u0  n) y2 y3
def wp_Sg_behindType (post : Int32 → Prop) (u0 : SgC) (x1 : Int32) : Prop :=
  (∃ n, w_Sg_behindType_4 post u0 n 0 x1)
abbrev rm_Sg_classCount : Room := { frames := 1, cells := 0, slots := 0, locals := 21 }
def w_Sg_classCount_26 (post : Int32 → Prop) (u0 : SgC) (K0 : Int32 → Int32 → Prop) (y1 : Int32) (y2 : Int32) : Prop :=
  K0 y1 (y2 + 1)
def wb_Sg_classCount_4 (post : Int32 → Prop) (u0 : SgC) (K0 : Int32 → Int32 → Prop) (y1 : Int32) (y2 : Int32) : Prop :=
  (((Int32.ofNat (sgN u0)) ≤ y2 → post y1) ∧ (¬ (Int32.ofNat (sgN u0)) ≤ y2 → wp_Sg_roleAt (fun r2 => ((¬ r2 = (9 : Int32) → w_Sg_classCount_26 post u0 K0 y1 y2) ∧ (r2 = (9 : Int32) → w_Sg_classCount_26 post u0 K0 (y1 + 1) y2))) u0 y2))
def w_Sg_classCount_4 (post : Int32 → Prop) (u0 : SgC) : Nat → Int32 → Int32 → Prop
  | 0, _, _ => False
  | n + 1, y1, y2 => wb_Sg_classCount_4 post u0  (w_Sg_classCount_4 post u0  n) y1 y2
def wp_Sg_classCount (post : Int32 → Prop) (u0 : SgC) : Prop :=
  (∃ n, w_Sg_classCount_4 post u0 n 0 0)
abbrev rm_Sg_argumentDepth : Room := { frames := 1, cells := 0, slots := 0, locals := 21 }
def w_Sg_argumentDepth_45 (post : Int32 → Prop) (u0 : SgC) (K0 : Int32 → Int32 → Int32 → Prop) (y1 : Int32) (y2 : Int32) (y3 : Int32) : Prop :=
  K0 y1 (if y2 < y1 then y1 else y2) (y3 + 1)
def wb_Sg_argumentDepth_6 (post : Int32 → Prop) (u0 : SgC) (K0 : Int32 → Int32 → Int32 → Prop) (y1 : Int32) (y2 : Int32) (y3 : Int32) : Prop :=
  (((Int32.ofNat (sgN u0)) ≤ y3 → post y2) ∧ (¬ (Int32.ofNat (sgN u0)) ≤ y3 → wp_Sg_roleAt (fun r2 => ((¬ r2 = (15 : Int32) → ((¬ r2 = (16 : Int32) → w_Sg_argumentDepth_45 post u0 K0 y1 y2 y3) ∧ (r2 = (16 : Int32) → w_Sg_argumentDepth_45 post u0 K0 (y1 + (-1)) y2 y3))) ∧ (r2 = (15 : Int32) → w_Sg_argumentDepth_45 post u0 K0 (y1 + 1) y2 y3))) u0 y3))
def w_Sg_argumentDepth_6 (post : Int32 → Prop) (u0 : SgC) : Nat → Int32 → Int32 → Int32 → Prop
  | 0, _, _, _ => False
  | n + 1, y1, y2, y3 => wb_Sg_argumentDepth_6 post u0  (w_Sg_argumentDepth_6 post u0  n) y1 y2 y3
def wp_Sg_argumentDepth (post : Int32 → Prop) (u0 : SgC) : Prop :=
  (∃ n, w_Sg_argumentDepth_6 post u0 n 0 0 0)
abbrev rm_Sg_longestBrackets : Room := { frames := 1, cells := 0, slots := 0, locals := 21 }
def w_Sg_longestBrackets_32 (post : Int32 → Prop) (u0 : SgC) (K0 : Int32 → Int32 → Int32 → Prop) (y2 : Int32) (y3 : Int32) (z0 : Int32) : Prop :=
  K0 z0 (if y2 < z0 then z0 else y2) (y3 + 1)
def wb_Sg_longestBrackets_6 (post : Int32 → Prop) (u0 : SgC) (K0 : Int32 → Int32 → Int32 → Prop) (y1 : Int32) (y2 : Int32) (y3 : Int32) : Prop :=
  (((Int32.ofNat (sgN u0)) ≤ y3 → post y2) ∧ (¬ (Int32.ofNat (sgN u0)) ≤ y3 → wp_Sg_roleAt (fun r2 => ((¬ r2 = (19 : Int32) → w_Sg_longestBrackets_32 post u0 K0 y2 y3 0) ∧ (r2 = (19 : Int32) → w_Sg_longestBrackets_32 post u0 K0 y2 y3 (y1 + 1)))) u0 y3))
def w_Sg_longestBrackets_6 (post : Int32 → Prop) (u0 : SgC) : Nat → Int32 → Int32 → Int32 → Prop
  | 0, _, _, _ => False
  | n + 1, y1, y2, y3 => wb_Sg_longestBrackets_6 post u0  (w_Sg_longestBrackets_6 post u0  n) y1 y2 y3
def wp_Sg_longestBrackets (post : Int32 → Prop) (u0 : SgC) : Prop :=
  (∃ n, w_Sg_longestBrackets_6 post u0 n 0 0 0)
abbrev rm_Sg_init : Room := { frames := 1, cells := 4, slots := 480, locals := 40 }
def w_Sg_init_162 (post : SgC → Prop) (u1 : RowC) (u2 : RdC) (K0 : Int32 → Int32 → SgC → Prop) (y4 : Int32) (y5 : Int32) (w0 : SgC) : Prop :=
  K0 y4 (y5 + 1) w0
def wb_Sg_init_135 (post : SgC → Prop) (u1 : RowC) (u2 : RdC) (K0 : Int32 → Int32 → SgC → Prop) (y4 : Int32) (y5 : Int32) (w0 : SgC) : Prop :=
  (((Int32.ofNat (sgN w0)) ≤ y5 → post (sgK w0, sgN w0, sgL w0, sgR w0, sgM w0, sgB w0, sgE w0, y4, sgP w0)) ∧ (¬ (Int32.ofNat (sgN w0)) ≤ y5 → (vp_in y5 (sgN w0) ∧ ((¬ ((sgR w0) y5.toNatClampNeg) = (5 : Int32) → w_Sg_init_162 post u1 u2 K0 y4 y5 w0) ∧ (((sgR w0) y5.toNatClampNeg) = (5 : Int32) → w_Sg_init_162 post u1 u2 K0 (y5 + 1) y5 w0)))))
def w_Sg_init_135 (post : SgC → Prop) (u1 : RowC) (u2 : RdC) : Nat → Int32 → Int32 → SgC → Prop
  | 0, _, _, _ => False
  | n + 1, y4, y5, w0 => wb_Sg_init_135 post u1 u2  (w_Sg_init_135 post u1 u2  n) y4 y5 w0
def wp_Sg_init (post : SgC → Prop) (u0 : SigBC) (u1 : RowC) (u2 : RdC) (x3 : Int32) : Prop :=
  ((¬ (rwS u1) < 0 ∧ (rwS u1).toNatClampNeg ≤ 120) ∧ (((¬ (0 : Int32) < 0 ∧ ¬ (0 : Int32) < 0 ∧ ¬ (Int32.ofNat ((rwS u1).toNatClampNeg)) < 0 ∧ (0 : Int32).toNatClampNeg + (Int32.ofNat ((rwS u1).toNatClampNeg)).toNatClampNeg ≤ rwN u1 ∧ (0 : Int32).toNatClampNeg + (Int32.ofNat ((rwS u1).toNatClampNeg)).toNatClampNeg ≤ (rwS u1).toNatClampNeg) ∧ (∀ i, i < (Int32.ofNat ((rwS u1).toNatClampNeg)).toNatClampNeg → fits .char (.int ((rwF u1) ((0 : Int32).toNatClampNeg + i))) = true)) ∧ ((¬ (rwS u1) < 0 ∧ (rwS u1).toNatClampNeg ≤ 120) ∧ (((¬ (0 : Int32) < 0 ∧ ¬ (0 : Int32) < 0 ∧ ¬ (Int32.ofNat ((rwS u1).toNatClampNeg)) < 0 ∧ (0 : Int32).toNatClampNeg + (Int32.ofNat ((rwS u1).toNatClampNeg)).toNatClampNeg ≤ rdN u2 ∧ (0 : Int32).toNatClampNeg + (Int32.ofNat ((rwS u1).toNatClampNeg)).toNatClampNeg ≤ (rwS u1).toNatClampNeg) ∧ (∀ i, i < (Int32.ofNat ((rwS u1).toNatClampNeg)).toNatClampNeg → fits .int (.int ((rdR u2) ((0 : Int32).toNatClampNeg + i))) = true)) ∧ ((¬ (rdC u2) < 0 ∧ (rdC u2).toNatClampNeg ≤ 120) ∧ (((¬ (0 : Int32) < 0 ∧ ¬ (0 : Int32) < 0 ∧ ¬ (Int32.ofNat ((rdC u2).toNatClampNeg)) < 0 ∧ (0 : Int32).toNatClampNeg + (Int32.ofNat ((rdC u2).toNatClampNeg)).toNatClampNeg ≤ rdN u2 ∧ (0 : Int32).toNatClampNeg + (Int32.ofNat ((rdC u2).toNatClampNeg)).toNatClampNeg ≤ (rdC u2).toNatClampNeg) ∧ (∀ i, i < (Int32.ofNat ((rdC u2).toNatClampNeg)).toNatClampNeg → fits .int (.int ((rdB u2) ((0 : Int32).toNatClampNeg + i))) = true)) ∧ ((¬ (rdC u2) < 0 ∧ (rdC u2).toNatClampNeg ≤ 120) ∧ (((¬ (0 : Int32) < 0 ∧ ¬ (0 : Int32) < 0 ∧ ¬ (Int32.ofNat ((rdC u2).toNatClampNeg)) < 0 ∧ (0 : Int32).toNatClampNeg + (Int32.ofNat ((rdC u2).toNatClampNeg)).toNatClampNeg ≤ rdN u2 ∧ (0 : Int32).toNatClampNeg + (Int32.ofNat ((rdC u2).toNatClampNeg)).toNatClampNeg ≤ (rdC u2).toNatClampNeg) ∧ (∀ i, i < (Int32.ofNat ((rdC u2).toNatClampNeg)).toNatClampNeg → fits .int (.int ((rdE u2) ((0 : Int32).toNatClampNeg + i))) = true)) ∧ (∃ n, w_Sg_init_135 post u1 u2 n 0 0 (rdK u2, (rwS u1).toNatClampNeg, va_cpy (rwF u1) (fun _ => 0) (0 : Int32).toNatClampNeg (0 : Int32).toNatClampNeg (Int32.ofNat ((rwS u1).toNatClampNeg)).toNatClampNeg, va_cpy (rdR u2) (fun _ => 0) (0 : Int32).toNatClampNeg (0 : Int32).toNatClampNeg (Int32.ofNat ((rwS u1).toNatClampNeg)).toNatClampNeg, (rdC u2).toNatClampNeg, va_cpy (rdB u2) (fun _ => 0) (0 : Int32).toNatClampNeg (0 : Int32).toNatClampNeg (Int32.ofNat ((rdC u2).toNatClampNeg)).toNatClampNeg, va_cpy (rdE u2) (fun _ => 0) (0 : Int32).toNatClampNeg (0 : Int32).toNatClampNeg (Int32.ofNat ((rdC u2).toNatClampNeg)).toNatClampNeg, sigb_5 u0, x3))))))))))
abbrev rm_becomes : Room := { frames := 4, cells := 0, slots := 0, locals := 93 }
def w_becomes_130 (post : Int32 → Prop) (u0 : SgC) (u1 : SgC) (K0 : Int32 → Int32 → Int32 → Prop) (y2 : Int32) (y3 : Int32) (y4 : Int32) : Prop :=
  K0 y2 y3 (y4 + 1)
def w_becomes_102 (post : Int32 → Prop) (u0 : SgC) (u1 : SgC) (K0 : Int32 → Int32 → Int32 → Prop) (y2 : Int32) (y3 : Int32) (y4 : Int32) (y6 : Int32) (z0 : Int32) : Prop :=
  wp_Sg_letterAt (fun r9 => wp_Sg_letterAt (fun r10 => ((¬ r9 = r10 → post 0) ∧ (r9 = r10 → ((y6 = z0 → w_becomes_130 post u0 u1 K0 (y2 + 1) y3 y4) ∧ (¬ y6 = z0 → post 0))))) u1 y2) u0 y4
def w_becomes_86 (post : Int32 → Prop) (u0 : SgC) (u1 : SgC) (K0 : Int32 → Int32 → Int32 → Prop) (y2 : Int32) (y3 : Int32) (y4 : Int32) (z0 : Int32) : Prop :=
  wp_Sg_declarerAt (fun r11 => ((r11 = ((-1) : Int32) → w_becomes_102 post u0 u1 K0 y2 y3 y4 z0 0) ∧ (¬ r11 = ((-1) : Int32) → w_becomes_102 post u0 u1 K0 y2 y3 y4 z0 1))) u1 y2
def wb_becomes_7 (post : Int32 → Prop) (u0 : SgC) (u1 : SgC) (K0 : Int32 → Int32 → Int32 → Prop) (y2 : Int32) (y3 : Int32) (y4 : Int32) : Prop :=
  (((Int32.ofNat (sgN u0)) ≤ y4 → ((¬ y2 = (Int32.ofNat (sgN u1)) → post 0) ∧ (y2 = (Int32.ofNat (sgN u1)) → post 1))) ∧ (¬ (Int32.ofNat (sgN u0)) ≤ y4 → ((y3 ≤ y4 → wp_Sg_ownNameAt (fun r12 => ((r12 = ((-1) : Int32) → wp_Sg_declarerAt (fun r13 => ((r13 = ((-1) : Int32) → w_becomes_86 post u0 u1 K0 y2 y3 y4 0) ∧ (¬ r13 = ((-1) : Int32) → w_becomes_86 post u0 u1 K0 y2 y3 y4 1))) u0 y4) ∧ (¬ r12 = ((-1) : Int32) → wp_Sg_repeatsName (fun r14 => ((¬ r14 = 0 → wp_Sg_nameLength (fun r15 => wp_Sg_behindName (fun r16 => w_becomes_130 post u0 u1 K0 (y2 + r15) r16 y4) u0 y4) u1 r12) ∧ (r14 = 0 → post 0))) u1 r12 y2))) u0 y4) ∧ (¬ y3 ≤ y4 → w_becomes_130 post u0 u1 K0 y2 y3 y4))))
def w_becomes_7 (post : Int32 → Prop) (u0 : SgC) (u1 : SgC) : Nat → Int32 → Int32 → Int32 → Prop
  | 0, _, _, _ => False
  | n + 1, y2, y3, y4 => wb_becomes_7 post u0 u1  (w_becomes_7 post u0 u1  n) y2 y3 y4
def wp_becomes (post : Int32 → Prop) (u0 : SgC) (u1 : SgC) : Prop :=
  (∃ n, w_becomes_7 post u0 u1 n 0 0 0)
abbrev rm_Sh_wordOf : Room := { frames := 0, cells := 0, slots := 0, locals := 0 }
def wp_Sh_wordOf (post : Nat → Prop) (x0 : Int32) : Prop :=
  ((x0 = 66 → post 3) ∧ (x0 = 67 → post 4) ∧ (x0 = 68 → post 5) ∧ (x0 = 70 → post 6) ∧ (x0 = 73 → post 7) ∧ (x0 = 74 → post 8) ∧ (x0 = 83 → post 9) ∧ (x0 = 90 → post 10) ∧ (¬ x0 = 66 ∧ ¬ x0 = 67 ∧ ¬ x0 = 68 ∧ ¬ x0 = 70 ∧ ¬ x0 = 73 ∧ ¬ x0 = 74 ∧ ¬ x0 = 83 ∧ ¬ x0 = 90 → post 11))
abbrev rm_Sh_partingItems : Room := { frames := 0, cells := 0, slots := 0, locals := 0 }
def wp_Sh_partingItems (post : Int32 → ShC → Prop) (u0 : ShC) (u1 : SgC) : Prop :=
  ((¬ (sgK u1) = 0 → post 44 u0) ∧ ((sgK u1) = 0 → ((0 < (shD u0) → post 44 u0) ∧ (¬ 0 < (shD u0) → (((shC u0) = 0 → post 58 (shN u0, shF u0, shD u0, 1, shT u0)) ∧ (¬ (shC u0) = 0 → post 44 u0))))))
abbrev rm_Sh_part : Room := { frames := 2, cells := 0, slots := 0, locals := 40 }
def w_Sh_part_37 (post : (ShC × SkC) → Prop) (u1 : SgC) (y3 : Int32) (y5 : Int32) (w0 : ShC) (w1 : SkC) : Prop :=
  ((¬ y3 = (2 : Int32) → post (w0, w1)) ∧ (y3 = (2 : Int32) → ((y5 = (2 : Int32) → post (w0, w1)) ∧ (¬ y5 = (2 : Int32) → ((y5 = (1 : Int32) → post (w0, w1)) ∧ (¬ y5 = (1 : Int32) → wp_Sk_pass (fun v8 => post (w0, v8)) w1 44))))))
def wp_Sh_part (post : (ShC × SkC) → Prop) (u0 : ShC) (u1 : SgC) (u4 : SkC) (x2 : Int32) (x3 : Int32) : Prop :=
  wp_Sg_roleAt (fun r9 => wp_endsItem (fun r10 => ((r10 = 0 → w_Sh_part_37 post u1 x3 r9 u0 u4) ∧ (¬ r10 = 0 → wp_beginsItem (fun r11 => ((r11 = 0 → w_Sh_part_37 post u1 x3 r9 u0 u4) ∧ (¬ r11 = 0 → wp_Sh_partingItems (fun r13 v12 => wp_Sk_pass (fun v14 => post (v12, v14)) u4 r13) u0 u1)))  x3)))  r9) u1 (x2 - 1)
abbrev rm_Sh_changeDepth : Room := { frames := 0, cells := 0, slots := 0, locals := 0 }
def w_Sh_changeDepth_43 (post : ShC → Prop) (y1 : Int32) (w0 : ShC) : Prop :=
  ((¬ y1 = (16 : Int32) → post w0) ∧ (y1 = (16 : Int32) → (((shD w0) ≤ 0 → post w0) ∧ (¬ (shD w0) ≤ 0 → post (shN w0, shF w0, (shD w0) - 1, shC w0, shT w0)))))
def wp_Sh_changeDepth (post : ShC → Prop) (u0 : ShC) (x1 : Int32) : Prop :=
  ((¬ x1 = (15 : Int32) → w_Sh_changeDepth_43 post x1 u0) ∧ (x1 = (15 : Int32) → (((Int32.ofNat (shN u0)) ≤ ((shD u0) + 1) → w_Sh_changeDepth_43 post x1 u0) ∧ (¬ (Int32.ofNat (shN u0)) ≤ ((shD u0) + 1) → (vp_in ((shD u0) + 1) (shN u0) ∧ post (shN u0, upd (shF u0) ((shD u0) + 1).toNatClampNeg 0, (shD u0) + 1, shC u0, shT u0))))))
abbrev rm_Sh_showWaiting : Room := { frames := 5, cells := 0, slots := 0, locals := 107 }
def wb_Sh_showWaiting_2 (post : (ShC × SkC) → Prop) (K0 : Int32 → ShC → SkC → Prop) (y2 : Int32) (w0 : ShC) (w1 : SkC) : Prop :=
  (vp_in (shD w0) (shN w0) ∧ ((((shF w0) (shD w0).toNatClampNeg) ≤ y2 → (vp_in (shD w0) (shN w0) ∧ post ((shN w0, upd (shF w0) (shD w0).toNatClampNeg 0, shD w0, shC w0, shT w0), w1))) ∧ (¬ ((shF w0) (shD w0).toNatClampNeg) ≤ y2 → wp_Sk_passText (fun v2 => K0 (y2 + 1) w0 v2) w1 2)))
def w_Sh_showWaiting_2 (post : (ShC × SkC) → Prop) : Nat → Int32 → ShC → SkC → Prop
  | 0, _, _, _ => False
  | n + 1, y2, w0, w1 => wb_Sh_showWaiting_2 post   (w_Sh_showWaiting_2 post   n) y2 w0 w1
def wp_Sh_showWaiting (post : (ShC × SkC) → Prop) (u0 : ShC) (u1 : SkC) : Prop :=
  (∃ n, w_Sh_showWaiting_2 post n 0 u0 u1)
abbrev rm_Sh_showColon : Room := { frames := 1, cells := 0, slots := 0, locals := 21 }
def w_Sh_showColon_46 (post : SkC → Prop) (u0 : SgC) (w0 : SkC) : Prop :=
  wp_Sk_pass (fun v6 => post v6) w0 58
def wp_Sh_showColon (post : SkC → Prop) (u0 : SgC) (u3 : SkC) (x1 : Int32) (x2 : Int32) : Prop :=
  ((¬ x2 = (4 : Int32) → wp_Sg_roleAt (fun r7 => ((r7 = (4 : Int32) → w_Sh_showColon_46 post u0 u3) ∧ (¬ r7 = (4 : Int32) → wp_beginsReference (fun r8 => ((r8 = 0 → post u3) ∧ (¬ r8 = 0 → w_Sh_showColon_46 post u0 u3)))  r7))) u0 (x1 + 1)) ∧ (x2 = (4 : Int32) → wp_Sg_roleAt (fun r9 => ((r9 = (3 : Int32) → post u3) ∧ (¬ r9 = (3 : Int32) → wp_Sk_pass (fun v10 => post v10) u3 38))) u0 (x1 - 1)))
abbrev rm_Sh_showLetter : Room := { frames := 6, cells := 0, slots := 0, locals := 129 }
def w_Sh_showLetter_196 (post : (ShC × SkC) → Prop) (u1 : SgC) (y2 : Int32) (y3 : Int32) (w0 : ShC) (w1 : SkC) : Prop :=
  wp_Sh_showColon (fun v17 => post (w0, v17)) u1 w1 y2 y3
def w_Sh_showLetter_112 (post : (ShC × SkC) → Prop) (u1 : SgC) (w0 : ShC) (w1 : SkC) : Prop :=
  post (w0, w1)
def w_Sh_showLetter_115 (post : (ShC × SkC) → Prop) (u1 : SgC) (w0 : ShC) (w1 : SkC) : Prop :=
  wp_Sh_showWaiting (fun v18 => post (v18.1, v18.2)) w0 w1
def w_Sh_showLetter_159 (post : (ShC × SkC) → Prop) (u1 : SgC) (w0 : ShC) (w1 : SkC) : Prop :=
  wp_Sk_pass (fun v19 => post (w0, v19)) w1 46
def w_Sh_showLetter_124 (post : (ShC × SkC) → Prop) (u1 : SgC) (y5 : Int32) (w0 : ShC) (w1 : SkC) : Prop :=
  wp_Sh_wordOf (fun r20 => wp_Sk_passText (fun v21 => wp_Sh_showWaiting (fun v22 => post (v22.1, v22.2)) w0 v21) w1 r20)  y5
def w_Sh_showLetter_223 (post : (ShC × SkC) → Prop) (u1 : SgC) (z0 : Int32) (w0 : ShC) (w1 : SkC) : Prop :=
  wp_Sk_pass (fun v23 => post ((shN w0, shF w0, shD w0, shC w0, 1), v23)) w1 z0
def w_Sh_showLetter_234 (post : (ShC × SkC) → Prop) (u1 : SgC) (y3 : Int32) (y5 : Int32) (w0 : ShC) (w1 : SkC) : Prop :=
  wp_Sh_changeDepth (fun v24 => wp_Sk_pass (fun v25 => post (v24, v25)) w1 y5) w0 y3
def wp_Sh_showLetter (post : (ShC × SkC) → Prop) (u0 : ShC) (u1 : SgC) (u4 : SkC) (x2 : Int32) (x3 : Int32) : Prop :=
  wp_Sg_letterAt (fun r26 => ((x3 = 3 ∨ x3 = 4 → w_Sh_showLetter_196 post u1 x2 x3 u0 u4) ∧ (x3 = 6 ∨ x3 = 9 → w_Sh_showLetter_112 post u1 u0 u4) ∧ (x3 = 8 ∨ x3 = 14 → w_Sh_showLetter_115 post u1 u0 u4) ∧ (x3 = 11 ∨ x3 = 12 → w_Sh_showLetter_159 post u1 u0 u4) ∧ (x3 = 17 → wp_Sk_pass (fun v27 => post (u0, v27)) u4 63) ∧ (x3 = 18 → wp_Sk_pass (fun v28 => wp_Sk_pass (fun v29 => post (u0, v29)) v28 r26) u4 63) ∧ (x3 = 19 → (vp_in (shD u0) (shN u0) ∧ (vp_in (shD u0) (shN u0) ∧ post ((shN u0, upd (shF u0) (shD u0).toNatClampNeg (((shF u0) (shD u0).toNatClampNeg) + 1), shD u0, shC u0, shT u0), u4)))) ∧ (x3 = 20 ∨ x3 = 21 → w_Sh_showLetter_124 post u1 r26 u0 u4) ∧ (x3 = 24 → (((shT u0) = 0 → w_Sh_showLetter_223 post u1 94 u0 u4) ∧ (¬ (shT u0) = 0 → w_Sh_showLetter_223 post u1 44 u0 u4))) ∧ (¬ x3 = 3 ∧ ¬ x3 = 4 ∧ ¬ x3 = 6 ∧ ¬ x3 = 8 ∧ ¬ x3 = 9 ∧ ¬ x3 = 11 ∧ ¬ x3 = 12 ∧ ¬ x3 = 14 ∧ ¬ x3 = 17 ∧ ¬ x3 = 18 ∧ ¬ x3 = 19 ∧ ¬ x3 = 20 ∧ ¬ x3 = 21 ∧ ¬ x3 = 24 → w_Sh_showLetter_234 post u1 x3 r26 u0 u4))) u1 x2
abbrev rm_Sh_show : Room := { frames := 7, cells := 0, slots := 0, locals := 154 }
def wb_Sh_show_24 (post : (ShC × SkC) → Prop) (u1 : SgC) (K0 : Int32 → ShC → SkC → Prop) (y3 : Int32) (w0 : ShC) (w1 : SkC) : Prop :=
  (((Int32.ofNat (sgN u1)) ≤ y3 → post (w0, w1)) ∧ (¬ (Int32.ofNat (sgN u1)) ≤ y3 → wp_Sg_roleAt (fun r4 => wp_Sh_part (fun v5 => wp_Sh_showLetter (fun v6 => K0 (y3 + 1) v6.1 v6.2) v5.1 u1 v5.2 y3 r4) w0 u1 w1 y3 r4) u1 y3))
def w_Sh_show_24 (post : (ShC × SkC) → Prop) (u1 : SgC) : Nat → Int32 → ShC → SkC → Prop
  | 0, _, _, _ => False
  | n + 1, y3, w0, w1 => wb_Sh_show_24 post u1  (w_Sh_show_24 post u1  n) y3 w0 w1
def wp_Sh_show (post : (ShC × SkC) → Prop) (u0 : ShC) (u1 : SgC) (u2 : SkC) : Prop :=
  (vp_in 0 (shN u0) ∧ (∃ n, w_Sh_show_24 post u1 n 0 (shN u0, upd (shF u0) (0 : Int32).toNatClampNeg 0, 0, 0, 0) u2))
abbrev rm_Sh_init : Room := { frames := 1, cells := 1, slots := 120, locals := 12 }
def wp_Sh_init (post : ShC → Prop) (u0 : ShowBC) : Prop :=
  post (120, fun _ => 0, showb_1 u0, showb_2 u0, showb_3 u0)
abbrev rm_Er_eraseBrackets : Room := { frames := 1, cells := 0, slots := 0, locals := 21 }
def wb_Er_eraseBrackets_2 (post : Int32 → RowC → Prop) (u1 : SgC) (K0 : Int32 → RowC → Prop) (y3 : Int32) (w0 : RowC) : Prop :=
  (((Int32.ofNat (sgN u1)) ≤ y3 → post y3 w0) ∧ (¬ (Int32.ofNat (sgN u1)) ≤ y3 → wp_Sg_roleAt (fun r4 => ((¬ r4 = (19 : Int32) → post y3 w0) ∧ (r4 = (19 : Int32) → wp_Rw_add (fun r6 v5 => K0 (y3 + 1) v5) w0 91))) u1 y3))
def w_Er_eraseBrackets_2 (post : Int32 → RowC → Prop) (u1 : SgC) : Nat → Int32 → RowC → Prop
  | 0, _, _ => False
  | n + 1, y3, w0 => wb_Er_eraseBrackets_2 post u1  (w_Er_eraseBrackets_2 post u1  n) y3 w0
def wp_Er_eraseBrackets (post : Int32 → RowC → Prop) (u0 : RowC) (u1 : SgC) (x2 : Int32) : Prop :=
  (∃ n, w_Er_eraseBrackets_2 post u1 n x2 u0)
abbrev rm_Er_eraseNamed : Room := { frames := 2, cells := 0, slots := 0, locals := 45 }
def w_Er_eraseNamed_83 (post : RowC → Prop) (u1 : SgC) (K0 : Int32 → Int32 → Int32 → RowC → Prop) (y3 : Int32) (y4 : Int32) (y5 : Int32) (w0 : RowC) : Prop :=
  K0 y3 y4 (y5 + 1) w0
def w_Er_eraseNamed_79 (post : RowC → Prop) (u1 : SgC) (K0 : Int32 → Int32 → Int32 → RowC → Prop) (y3 : Int32) (y4 : Int32) (y5 : Int32) (z0 : Int32) (w0 : RowC) : Prop :=
  wp_Rw_add (fun r7 v6 => w_Er_eraseNamed_83 post u1 K0 y3 y4 y5 v6) w0 z0
def wb_Er_eraseNamed_12 (post : RowC → Prop) (u1 : SgC) (K0 : Int32 → Int32 → Int32 → RowC → Prop) (y3 : Int32) (y4 : Int32) (y5 : Int32) (w0 : RowC) : Prop :=
  ((y3 ≤ y5 → post w0) ∧ (¬ y3 ≤ y5 → wp_Sg_roleAt (fun r8 => ((¬ r8 = (15 : Int32) → ((¬ r8 = (16 : Int32) → ((¬ y4 = 0 → w_Er_eraseNamed_83 post u1 K0 y3 y4 y5 w0) ∧ (y4 = 0 → ((¬ r8 = (12 : Int32) → wp_Sg_letterAt (fun r9 => w_Er_eraseNamed_79 post u1 K0 y3 y4 y5 r9 w0) u1 y5) ∧ (r8 = (12 : Int32) → w_Er_eraseNamed_79 post u1 K0 y3 y4 y5 36 w0))))) ∧ (r8 = (16 : Int32) → w_Er_eraseNamed_83 post u1 K0 y3 (y4 + (-1)) y5 w0))) ∧ (r8 = (15 : Int32) → w_Er_eraseNamed_83 post u1 K0 y3 (y4 + 1) y5 w0))) u1 y5))
def w_Er_eraseNamed_12 (post : RowC → Prop) (u1 : SgC) : Nat → Int32 → Int32 → Int32 → RowC → Prop
  | 0, _, _, _, _ => False
  | n + 1, y3, y4, y5, w0 => wb_Er_eraseNamed_12 post u1  (w_Er_eraseNamed_12 post u1  n) y3 y4 y5 w0
def wp_Er_eraseNamed (post : RowC → Prop) (u0 : RowC) (u1 : SgC) (x2 : Int32) : Prop :=
  wp_Sg_behindType (fun r10 => (∃ n, w_Er_eraseNamed_12 post u1 n r10 0 x2 u0)) u1 x2
abbrev rm_Er_erase : Room := { frames := 5, cells := 0, slots := 0, locals := 107 }
def w_Er_erase_146 (post : RowC → Prop) (u1 : SgC) (u2 : SgC) (w0 : RowC) : Prop :=
  wp_Rw_addText (fun v15 => post v15) w0 12
def w_Er_erase_126 (post : RowC → Prop) (u1 : SgC) (u2 : SgC) (K0 : Int32 → Int64 → Int32 → RowC → Prop) (y7 : Int64) (y9 : Int32) (y10 : Int32) (z0 : Int32) (w0 : RowC) : Prop :=
  ((z0 = ((-1) : Int32) → w_Er_erase_146 post u1 u2 w0) ∧ (¬ z0 = ((-1) : Int32) → (((lg_cmp ((y7 >>> (y10.toInt64 &&& 63)) &&& 1) 0) = 0 → K0 z0 (y7 ||| (1 <<< (y10.toInt64 &&& 63))) (y9 + 1) w0) ∧ (¬ (lg_cmp ((y7 >>> (y10.toInt64 &&& 63)) &&& 1) 0) = 0 → w_Er_erase_146 post u1 u2 w0))))
def w_Er_erase_109 (post : RowC → Prop) (u1 : SgC) (u2 : SgC) (K0 : Int32 → Int64 → Int32 → RowC → Prop) (y7 : Int64) (y9 : Int32) (y10 : Int32) (w0 : RowC) : Prop :=
  ((¬ y10 = ((-1) : Int32) → wp_Sg_firstBound (fun r16 => w_Er_erase_126 post u1 u2 K0 y7 y9 y10 r16 w0) u1 y10) ∧ (y10 = ((-1) : Int32) → w_Er_erase_126 post u1 u2 K0 y7 y9 y10 (-1) w0))
def w_Er_erase_23a (post : RowC → Prop) (u1 : SgC) (u2 : SgC) (K1 : Int64 → Int32 → Int32 → RowC → Prop) (y6 : Int32) (y7 : Int64) (y9 : Int32) (w0 : RowC) : Prop :=
  (((240 : Int32) < y9 → post w0) ∧ (¬ (240 : Int32) < y9 → wp_Er_eraseBrackets (fun r18 v17 => wp_Sg_roleAt (fun r19 => ((r19 = (6 : Int32) → wp_Sg_parameterNamed (fun r20 => ((¬ r20 = ((-1) : Int32) → K1 y7 y9 r20 v17) ∧ (r20 = ((-1) : Int32) → K1 y7 y9 r20 v17))) u2 u2 (r18 + 1)) ∧ (¬ r19 = (6 : Int32) → wp_Er_eraseNamed (fun v21 => post v21) v17 u2 r18))) u2 r18) w0 u2 y6))
def w_Er_erase_126a (post : RowC → Prop) (u1 : SgC) (u2 : SgC) (K1 : Int64 → Int32 → Int32 → RowC → Prop) (y7 : Int64) (y9 : Int32) (y10 : Int32) (z0 : Int32) (w0 : RowC) : Prop :=
  ((z0 = ((-1) : Int32) → w_Er_erase_146 post u1 u2 w0) ∧ (¬ z0 = ((-1) : Int32) → (((lg_cmp ((y7 >>> (y10.toInt64 &&& 63)) &&& 1) 0) = 0 → w_Er_erase_23a post u1 u2 K1 z0 (y7 ||| (1 <<< (y10.toInt64 &&& 63))) (y9 + 1) w0) ∧ (¬ (lg_cmp ((y7 >>> (y10.toInt64 &&& 63)) &&& 1) 0) = 0 → w_Er_erase_146 post u1 u2 w0))))
def wb_Er_erase_109a (post : RowC → Prop) (u1 : SgC) (u2 : SgC) (K1 : Int64 → Int32 → Int32 → RowC → Prop) (y7 : Int64) (y9 : Int32) (y10 : Int32) (w0 : RowC) : Prop :=
  ((¬ y10 = ((-1) : Int32) → wp_Sg_firstBound (fun r22 => w_Er_erase_126a post u1 u2 K1 y7 y9 y10 r22 w0) u2 y10) ∧ (y10 = ((-1) : Int32) → w_Er_erase_126a post u1 u2 K1 y7 y9 y10 (-1) w0))
def w_Er_erase_109a (post : RowC → Prop) (u1 : SgC) (u2 : SgC) : Nat → Int64 → Int32 → Int32 → RowC → Prop
  | 0, _, _, _, _ => False
  | n + 1, y7, y9, y10, w0 => wb_Er_erase_109a post u1 u2  (w_Er_erase_109a post u1 u2  n) y7 y9 y10 w0
def wb_Er_erase_23 (post : RowC → Prop) (u1 : SgC) (u2 : SgC) (K0 : Int32 → Int64 → Int32 → RowC → Prop) (y6 : Int32) (y7 : Int64) (y9 : Int32) (w0 : RowC) : Prop :=
  (((240 : Int32) < y9 → post w0) ∧ (¬ (240 : Int32) < y9 → wp_Er_eraseBrackets (fun r24 v23 => wp_Sg_roleAt (fun r25 => ((r25 = (6 : Int32) → wp_Sg_parameterNamed (fun r26 => ((¬ r26 = ((-1) : Int32) → w_Er_erase_109 post u1 u2 K0 y7 y9 r26 v23) ∧ (r26 = ((-1) : Int32) → wp_Sg_parameterNamed (fun r27 => (∃ n, w_Er_erase_109a post u1 u2 n 0 y9 r27 v23)) u2 u1 (r24 + 1)))) u1 u1 (r24 + 1)) ∧ (¬ r25 = (6 : Int32) → wp_Er_eraseNamed (fun v28 => post v28) v23 u1 r24))) u1 r24) w0 u1 y6))
def w_Er_erase_23 (post : RowC → Prop) (u1 : SgC) (u2 : SgC) : Nat → Int32 → Int64 → Int32 → RowC → Prop
  | 0, _, _, _, _ => False
  | n + 1, y6, y7, y9, w0 => wb_Er_erase_23 post u1 u2  (w_Er_erase_23 post u1 u2  n) y6 y7 y9 w0
def wp_Er_erase (post : RowC → Prop) (u0 : RowC) (u1 : SgC) (u2 : SgC) (x3 : Int32) : Prop :=
  (∃ n, w_Er_erase_23 post u1 u2 n x3 0 0 (rwN u0, rwF u0, 0))
abbrev rm_Er_eraseN : Room := { frames := 5, cells := 0, slots := 0, locals := 107 }
def w_Er_eraseN_146 (post : RowC → Prop) (u1 : SgC) (w0 : RowC) : Prop :=
  wp_Rw_addText (fun v8 => post v8) w0 12
def w_Er_eraseN_126 (post : RowC → Prop) (u1 : SgC) (K0 : Int32 → Int64 → Int32 → RowC → Prop) (y7 : Int64) (y9 : Int32) (y10 : Int32) (z0 : Int32) (w0 : RowC) : Prop :=
  ((z0 = ((-1) : Int32) → w_Er_eraseN_146 post u1 w0) ∧ (¬ z0 = ((-1) : Int32) → (((lg_cmp ((y7 >>> (y10.toInt64 &&& 63)) &&& 1) 0) = 0 → K0 z0 (y7 ||| (1 <<< (y10.toInt64 &&& 63))) (y9 + 1) w0) ∧ (¬ (lg_cmp ((y7 >>> (y10.toInt64 &&& 63)) &&& 1) 0) = 0 → w_Er_eraseN_146 post u1 w0))))
def w_Er_eraseN_109 (post : RowC → Prop) (u1 : SgC) (K0 : Int32 → Int64 → Int32 → RowC → Prop) (y7 : Int64) (y9 : Int32) (y10 : Int32) (w0 : RowC) : Prop :=
  ((¬ y10 = ((-1) : Int32) → wp_Sg_firstBound (fun r9 => w_Er_eraseN_126 post u1 K0 y7 y9 y10 r9 w0) u1 y10) ∧ (y10 = ((-1) : Int32) → w_Er_eraseN_126 post u1 K0 y7 y9 y10 (-1) w0))
def wb_Er_eraseN_23 (post : RowC → Prop) (u1 : SgC) (K0 : Int32 → Int64 → Int32 → RowC → Prop) (y6 : Int32) (y7 : Int64) (y9 : Int32) (w0 : RowC) : Prop :=
  (((240 : Int32) < y9 → post w0) ∧ (¬ (240 : Int32) < y9 → wp_Er_eraseBrackets (fun r11 v10 => wp_Sg_roleAt (fun r12 => ((r12 = (6 : Int32) → wp_Sg_parameterNamed (fun r13 => ((¬ r13 = ((-1) : Int32) → w_Er_eraseN_109 post u1 K0 y7 y9 r13 v10) ∧ (r13 = ((-1) : Int32) → w_Er_eraseN_109 post u1 K0 y7 y9 r13 v10))) u1 u1 (r11 + 1)) ∧ (¬ r12 = (6 : Int32) → wp_Er_eraseNamed (fun v14 => post v14) v10 u1 r11))) u1 r11) w0 u1 y6))
def w_Er_eraseN_23 (post : RowC → Prop) (u1 : SgC) : Nat → Int32 → Int64 → Int32 → RowC → Prop
  | 0, _, _, _, _ => False
  | n + 1, y6, y7, y9, w0 => wb_Er_eraseN_23 post u1  (w_Er_eraseN_23 post u1  n) y6 y7 y9 w0
def wp_Er_eraseN (post : RowC → Prop) (u0 : RowC) (u1 : SgC) (x3 : Int32) : Prop :=
  (∃ n, w_Er_eraseN_23 post u1 n x3 0 0 (rwN u0, rwF u0, 0))
abbrev rm_Er_init : Room := { frames := 2, cells := 2, slots := 262, locals := 33 }
def wp_Er_init (post : RowC → Prop) (u0 : EraBC) : Prop :=
  wp_Rw_init (fun v2 => post v2) 0 260
abbrev rm_F_find : Room := { frames := 0, cells := 0, slots := 0, locals := 0 }
def wp_F_find (post : Option Nat → Prop) (u0 : FoC) (u2 : MaC) (x1 : Int32) : Prop :=
  ((x1 < 0 → post none) ∧ (¬ x1 < 0 → (((foC u0) ≤ x1 → post none) ∧ (¬ (foC u0) ≤ x1 → (vp_in x1 (maN u2) ∧ post ((maF u2) x1.toNatClampNeg))))))
abbrev rm_F_seek_passErased0 : Room := { frames := 6, cells := 0, slots := 0, locals := 138 }
def w_F_seek_passErased0_129 (post : (SkC × RowC) → Prop) (u0 : FoC) (u1 : SgC) (u4 : MaC) (K0 : Int32 → Int32 → SkC → RowC → Prop) (y3 : Int32) (y4 : Int32) (w0 : SkC) (w1 : RowC) : Prop :=
  K0 y3 (y4 + 1) w0 w1
def w_F_seek_passErased0_57 (post : (SkC × RowC) → Prop) (u0 : FoC) (u1 : SgC) (u4 : MaC) (K0 : Int32 → Int32 → SkC → RowC → Prop) (y4 : Int32) (w0 : SkC) (w1 : RowC) : Prop :=
  wp_Sg_letterAt (fun r8 => wp_Sk_pass (fun v9 => w_F_seek_passErased0_129 post u0 u1 u4 K0 (y4 + 1) y4 v9 w1) w0 r8) u1 y4
def wb_F_seek_passErased0_17 (post : (SkC × RowC) → Prop) (u0 : FoC) (u1 : SgC) (u4 : MaC) (K0 : Int32 → Int32 → SkC → RowC → Prop) (y3 : Int32) (y4 : Int32) (w0 : SkC) (w1 : RowC) : Prop :=
  (((Int32.ofNat (sgN u1)) ≤ y4 → post (w0, w1)) ∧ (¬ (Int32.ofNat (sgN u1)) ≤ y4 → wp_Sg_roleAt (fun r10 => ((¬ r10 = (24 : Int32) → ((r10 = (22 : Int32) → w_F_seek_passErased0_57 post u0 u1 u4 K0 y4 w0 w1) ∧ (¬ r10 = (22 : Int32) → ((¬ r10 = (23 : Int32) → ((¬ y4 = y3 → w_F_seek_passErased0_129 post u0 u1 u4 K0 y3 y4 w0 w1) ∧ (y4 = y3 → wp_Er_eraseN (fun v11 => wp_Sk_passRow (fun v12 => wp_Sg_behindType (fun r13 => w_F_seek_passErased0_129 post u0 u1 u4 K0 r13 y4 v12 v11) u1 y4) w0 (rwN v11, rwF v11) (rwS v11)) w1 u1 y4))) ∧ (r10 = (23 : Int32) → w_F_seek_passErased0_57 post u0 u1 u4 K0 y4 w0 w1))))) ∧ (r10 = (24 : Int32) → post (w0, w1)))) u1 y4))
def w_F_seek_passErased0_17 (post : (SkC × RowC) → Prop) (u0 : FoC) (u1 : SgC) (u4 : MaC) : Nat → Int32 → Int32 → SkC → RowC → Prop
  | 0, _, _, _, _ => False
  | n + 1, y3, y4, w0, w1 => wb_F_seek_passErased0_17 post u0 u1 u4  (w_F_seek_passErased0_17 post u0 u1 u4  n) y3 y4 w0 w1
def wp_F_seek_passErased0 (post : (SkC × RowC) → Prop) (u0 : FoC) (u1 : SgC) (u2 : SkC) (u3 : RowC) (u4 : MaC) : Prop :=
  wp_F_find (fun r14 => (r14 = none ∧ (∃ n, w_F_seek_passErased0_17 post u0 u1 u4 n (sgO u1) (sgO u1) u2 u3))) u0 u4 (sgP u1)
abbrev rm_F_seek_passErased1 : Room := { frames := 6, cells := 0, slots := 0, locals := 138 }
def w_F_seek_passErased1_129 (post : (SkC × RowC) → Prop) (u0 : FoC) (u1 : SgC) (u4 : MaC) (u5 : SgC) (a5_0 : Nat) (K0 : Int32 → Int32 → SkC → RowC → Prop) (y3 : Int32) (y4 : Int32) (w0 : SkC) (w1 : RowC) : Prop :=
  K0 y3 (y4 + 1) w0 w1
def w_F_seek_passErased1_57 (post : (SkC × RowC) → Prop) (u0 : FoC) (u1 : SgC) (u4 : MaC) (u5 : SgC) (a5_0 : Nat) (K0 : Int32 → Int32 → SkC → RowC → Prop) (y4 : Int32) (w0 : SkC) (w1 : RowC) : Prop :=
  wp_Sg_letterAt (fun r8 => wp_Sk_pass (fun v9 => w_F_seek_passErased1_129 post u0 u1 u4 u5 a5_0 K0 (y4 + 1) y4 v9 w1) w0 r8) u1 y4
def wb_F_seek_passErased1_17 (post : (SkC × RowC) → Prop) (u0 : FoC) (u1 : SgC) (u4 : MaC) (u5 : SgC) (a5_0 : Nat) (K0 : Int32 → Int32 → SkC → RowC → Prop) (y3 : Int32) (y4 : Int32) (w0 : SkC) (w1 : RowC) : Prop :=
  (((Int32.ofNat (sgN u1)) ≤ y4 → post (w0, w1)) ∧ (¬ (Int32.ofNat (sgN u1)) ≤ y4 → wp_Sg_roleAt (fun r10 => ((¬ r10 = (24 : Int32) → ((r10 = (22 : Int32) → w_F_seek_passErased1_57 post u0 u1 u4 u5 a5_0 K0 y4 w0 w1) ∧ (¬ r10 = (22 : Int32) → ((¬ r10 = (23 : Int32) → ((¬ y4 = y3 → w_F_seek_passErased1_129 post u0 u1 u4 u5 a5_0 K0 y3 y4 w0 w1) ∧ (y4 = y3 → wp_Er_erase (fun v11 => wp_Sk_passRow (fun v12 => wp_Sg_behindType (fun r13 => w_F_seek_passErased1_129 post u0 u1 u4 u5 a5_0 K0 r13 y4 v12 v11) u1 y4) w0 (rwN v11, rwF v11) (rwS v11)) w1 u1 u5 y4))) ∧ (r10 = (23 : Int32) → w_F_seek_passErased1_57 post u0 u1 u4 u5 a5_0 K0 y4 w0 w1))))) ∧ (r10 = (24 : Int32) → post (w0, w1)))) u1 y4))
def w_F_seek_passErased1_17 (post : (SkC × RowC) → Prop) (u0 : FoC) (u1 : SgC) (u4 : MaC) (u5 : SgC) (a5_0 : Nat) : Nat → Int32 → Int32 → SkC → RowC → Prop
  | 0, _, _, _, _ => False
  | n + 1, y3, y4, w0, w1 => wb_F_seek_passErased1_17 post u0 u1 u4 u5 a5_0  (w_F_seek_passErased1_17 post u0 u1 u4 u5 a5_0  n) y3 y4 w0 w1
def wp_F_seek_passErased1 (post : (SkC × RowC) → Prop) (u0 : FoC) (u1 : SgC) (u2 : SkC) (u3 : RowC) (u4 : MaC) (u5 : SgC) (a5_0 : Nat) : Prop :=
  wp_F_find (fun r14 => (r14 = some a5_0 ∧ (∃ n, w_F_seek_passErased1_17 post u0 u1 u4 u5 a5_0 n (sgO u1) (sgO u1) u2 u3))) u0 u4 (sgP u1)
abbrev rm_F_seek0 : Room := { frames := 8, cells := 0, slots := 0, locals := 178 }
def wp_F_seek0 (post : Int32 → (SkC × ShC × RowC) → Prop) (u0 : FoC) (u1 : SgC) (u4 : SkC) (u5 : ShC) (u6 : RowC) (u7 : MaC) (x2 : Int32) (x3 : Int32) : Prop :=
  wp_Sk_start (fun v8 => ((x2 = 0 → wp_Sk_passRow (fun v9 => post 1 (v9, u5, u6)) v8 (sgN u1, sgL u1) (Int32.ofNat (sgN u1))) ∧ (x2 = 1 → wp_Sh_show (fun v10 => post 1 (v10.2, v10.1, u6)) u5 u1 v8) ∧ (x2 = 2 → wp_F_seek_passErased0 (fun v11 => post 1 (v11.1, u5, v11.2)) u0 u1 v8 u6 u7) ∧ (¬ x2 = 0 ∧ ¬ x2 = 1 ∧ ¬ x2 = 2 → post 0 (v8, u5, u6)))) u4 x3
abbrev rm_F_seek1 : Room := { frames := 8, cells := 0, slots := 0, locals := 178 }
def wp_F_seek1 (post : Int32 → (SkC × ShC × RowC) → Prop) (u0 : FoC) (u1 : SgC) (u4 : SkC) (u5 : ShC) (u6 : RowC) (u7 : MaC) (u8 : SgC) (x2 : Int32) (x3 : Int32) (a8_0 : Nat) : Prop :=
  wp_Sk_start (fun v8 => ((x2 = 0 → wp_Sk_passRow (fun v9 => post 1 (v9, u5, u6)) v8 (sgN u1, sgL u1) (Int32.ofNat (sgN u1))) ∧ (x2 = 1 → wp_Sh_show (fun v10 => post 1 (v10.2, v10.1, u6)) u5 u1 v8) ∧ (x2 = 2 → wp_F_seek_passErased1 (fun v11 => post 1 (v11.1, u5, v11.2)) u0 u1 v8 u6 u7 u8  a8_0) ∧ (¬ x2 = 0 ∧ ¬ x2 = 1 ∧ ¬ x2 = 2 → post 0 (v8, u5, u6)))) u4 x3
abbrev rm_F_textN : Room := { frames := 1, cells := 0, slots := 0, locals := 21 }
def wp_F_textN (post : Int32 → Prop) (u0 : FoC) (u4 : MaC) (x1 : Int32) (x2 : Int32) (x3 : Int32) : Prop :=
  wp_F_find (fun r2 => (r2 = none ∧ post (-1))) u0 u4 x1
abbrev rm_F_text0 : Room := { frames := 9, cells := 0, slots := 0, locals := 201 }
def wp_F_text0 (post : Int32 → (SkC × ShC × RowC) → Prop) (u0 : FoC) (u4 : SkC) (u5 : ShC) (u6 : RowC) (u7 : MaC) (u8 : SgC) (x1 : Int32) (x2 : Int32) (x3 : Int32) (a8_0 : Nat) : Prop :=
  wp_F_find (fun r4 => (r4 = some a8_0 ∧ ((0 ≤ x3 → wp_F_seek0 (fun r6 v5 => ((r6 = 0 → post (-1) (v5.1, v5.2.1, v5.2.2)) ∧ (¬ r6 = 0 → post (skF v5.1) (v5.1, v5.2.1, v5.2.2)))) u0 u8 u4 u5 u6 u7 x2 x3) ∧ (¬ 0 ≤ x3 → post (-1) (u4, u5, u6))))) u0 u7 x1
abbrev rm_F_text1 : Room := { frames := 9, cells := 0, slots := 0, locals := 201 }
def wp_F_text1 (post : Int32 → (SkC × ShC × RowC) → Prop) (u0 : FoC) (u4 : SkC) (u5 : ShC) (u6 : RowC) (u7 : MaC) (u8 : SgC) (u9 : SgC) (x1 : Int32) (x2 : Int32) (x3 : Int32) (a8_0 : Nat) (a9_0 : Nat) : Prop :=
  wp_F_find (fun r4 => (r4 = some a8_0 ∧ ((0 ≤ x3 → wp_F_seek1 (fun r6 v5 => ((r6 = 0 → post (-1) (v5.1, v5.2.1, v5.2.2)) ∧ (¬ r6 = 0 → post (skF v5.1) (v5.1, v5.2.1, v5.2.2)))) u0 u8 u4 u5 u6 u7 u9 x2 x3 a9_0) ∧ (¬ 0 ≤ x3 → post (-1) (u4, u5, u6))))) u0 u7 x1
abbrev rm_F_lengthN : Room := { frames := 1, cells := 0, slots := 0, locals := 21 }
def wp_F_lengthN (post : Int32 → Prop) (u0 : FoC) (u3 : MaC) (x1 : Int32) (x2 : Int32) : Prop :=
  wp_F_find (fun r2 => (r2 = none ∧ post (-100))) u0 u3 x1
abbrev rm_F_length0 : Room := { frames := 9, cells := 0, slots := 0, locals := 201 }
def wp_F_length0 (post : Int32 → (SkC × ShC × RowC) → Prop) (u0 : FoC) (u3 : SkC) (u4 : ShC) (u5 : RowC) (u6 : MaC) (u7 : SgC) (x1 : Int32) (x2 : Int32) (a7_0 : Nat) : Prop :=
  wp_F_find (fun r4 => (r4 = some a7_0 ∧ wp_F_seek0 (fun r6 v5 => ((r6 = 0 → post (-100) (v5.1, v5.2.1, v5.2.2)) ∧ (¬ r6 = 0 → post (skP v5.1) (v5.1, v5.2.1, v5.2.2)))) u0 u7 u3 u4 u5 u6 x2 (-1))) u0 u6 x1
abbrev rm_F_length1 : Room := { frames := 9, cells := 0, slots := 0, locals := 201 }
def wp_F_length1 (post : Int32 → (SkC × ShC × RowC) → Prop) (u0 : FoC) (u3 : SkC) (u4 : ShC) (u5 : RowC) (u6 : MaC) (u7 : SgC) (u8 : SgC) (x1 : Int32) (x2 : Int32) (a7_0 : Nat) (a8_0 : Nat) : Prop :=
  wp_F_find (fun r4 => (r4 = some a7_0 ∧ wp_F_seek1 (fun r6 v5 => ((r6 = 0 → post (-100) (v5.1, v5.2.1, v5.2.2)) ∧ (¬ r6 = 0 → post (skP v5.1) (v5.1, v5.2.1, v5.2.2)))) u0 u7 u3 u4 u5 u6 u8 x2 (-1) a8_0)) u0 u6 x1
abbrev rm_F_kindN : Room := { frames := 1, cells := 0, slots := 0, locals := 21 }
def wp_F_kindN (post : Int32 → Prop) (u0 : FoC) (u2 : MaC) (x1 : Int32) : Prop :=
  wp_F_find (fun r2 => (r2 = none ∧ post (-100))) u0 u2 x1
abbrev rm_F_kind0 : Room := { frames := 1, cells := 0, slots := 0, locals := 21 }
def wp_F_kind0 (post : Int32 → Prop) (u0 : FoC) (u2 : MaC) (u3 : SgC) (x1 : Int32) (a3_0 : Nat) : Prop :=
  wp_F_find (fun r2 => (r2 = some a3_0 ∧ post (sgK u3))) u0 u2 x1
abbrev rm_F_parametersN : Room := { frames := 1, cells := 0, slots := 0, locals := 21 }
def wp_F_parametersN (post : Int32 → Prop) (u0 : FoC) (u2 : MaC) (x1 : Int32) : Prop :=
  wp_F_find (fun r2 => (r2 = none ∧ post (-100))) u0 u2 x1
abbrev rm_F_parameters0 : Room := { frames := 1, cells := 0, slots := 0, locals := 21 }
def wp_F_parameters0 (post : Int32 → Prop) (u0 : FoC) (u2 : MaC) (u3 : SgC) (x1 : Int32) (a3_0 : Nat) : Prop :=
  wp_F_find (fun r2 => (r2 = some a3_0 ∧ post (Int32.ofNat (sgM u3)))) u0 u2 x1
abbrev rm_F_boundsN : Room := { frames := 1, cells := 0, slots := 0, locals := 21 }
def wp_F_boundsN (post : Int32 → Prop) (u0 : FoC) (u3 : MaC) (x1 : Int32) (x2 : Int32) : Prop :=
  wp_F_find (fun r2 => (r2 = none ∧ post (-100))) u0 u3 x1
abbrev rm_F_bounds0 : Room := { frames := 4, cells := 0, slots := 0, locals := 88 }
def wp_F_bounds0 (post : Int32 → Prop) (u0 : FoC) (u3 : MaC) (u4 : SgC) (x1 : Int32) (x2 : Int32) (a4_0 : Nat) : Prop :=
  wp_F_find (fun r4 => (r4 = some a4_0 ∧ wp_Sg_hasParameter (fun r5 => ((¬ r5 = 0 → wp_Sg_boundCount (fun r6 => post r6) u4 x2) ∧ (r5 = 0 → post (-100)))) u4 x2)) u0 u3 x1
abbrev rm_F_vars0 : Room := { frames := 4, cells := 0, slots := 0, locals := 91 }
def w_F_vars0_87 (post : Int32 → Prop) (u0 : FoC) (u1 : SgC) (u3 : MaC) (K0 : Int32 → Int32 → Int32 → Prop) (y2 : Int32) (y4 : Int32) (y5 : Int32) : Prop :=
  K0 y2 y4 (y5 + 1)
def w_F_vars0_78 (post : Int32 → Prop) (u0 : FoC) (u1 : SgC) (u3 : MaC) (K0 : Int32 → Int32 → Int32 → Prop) (y2 : Int32) (y4 : Int32) (y5 : Int32) (y6 : Int32) : Prop :=
  ((¬ y6 = y2 → w_F_vars0_87 post u0 u1 u3 K0 y2 y4 y5) ∧ (y6 = y2 → w_F_vars0_87 post u0 u1 u3 K0 y2 (y4 + 1) y5))
def wb_F_vars0_15 (post : Int32 → Prop) (u0 : FoC) (u1 : SgC) (u3 : MaC) (K0 : Int32 → Int32 → Int32 → Prop) (y2 : Int32) (y4 : Int32) (y5 : Int32) : Prop :=
  (((Int32.ofNat (sgN u1)) ≤ y5 → post y4) ∧ (¬ (Int32.ofNat (sgN u1)) ≤ y5 → wp_Sg_roleAt (fun r4 => ((r4 = (6 : Int32) → wp_Sg_declarerAt (fun r5 => ((r5 = ((-1) : Int32) → w_F_vars0_78 post u0 u1 u3 K0 y2 y4 y5 0) ∧ (¬ r5 = ((-1) : Int32) → w_F_vars0_78 post u0 u1 u3 K0 y2 y4 y5 1))) u1 y5) ∧ (¬ r4 = (6 : Int32) → w_F_vars0_87 post u0 u1 u3 K0 y2 y4 y5))) u1 y5))
def w_F_vars0_15 (post : Int32 → Prop) (u0 : FoC) (u1 : SgC) (u3 : MaC) : Nat → Int32 → Int32 → Int32 → Prop
  | 0, _, _, _ => False
  | n + 1, y2, y4, y5 => wb_F_vars0_15 post u0 u1 u3  (w_F_vars0_15 post u0 u1 u3  n) y2 y4 y5
def wp_F_vars0 (post : Int32 → Prop) (u0 : FoC) (u1 : SgC) (u3 : MaC) (x2 : Int32) : Prop :=
  wp_F_find (fun r6 => (r6 = none ∧ (∃ n, w_F_vars0_15 post u0 u1 u3 n x2 0 0))) u0 u3 (sgP u1)
abbrev rm_F_vars1 : Room := { frames := 4, cells := 0, slots := 0, locals := 91 }
def w_F_vars1_87 (post : Int32 → Prop) (u0 : FoC) (u1 : SgC) (u3 : MaC) (u4 : SgC) (a4_0 : Nat) (K0 : Int32 → Int32 → Int32 → Prop) (y2 : Int32) (y4 : Int32) (y5 : Int32) : Prop :=
  K0 y2 y4 (y5 + 1)
def w_F_vars1_78 (post : Int32 → Prop) (u0 : FoC) (u1 : SgC) (u3 : MaC) (u4 : SgC) (a4_0 : Nat) (K0 : Int32 → Int32 → Int32 → Prop) (y2 : Int32) (y4 : Int32) (y5 : Int32) (y6 : Int32) : Prop :=
  ((¬ y6 = y2 → w_F_vars1_87 post u0 u1 u3 u4 a4_0 K0 y2 y4 y5) ∧ (y6 = y2 → w_F_vars1_87 post u0 u1 u3 u4 a4_0 K0 y2 (y4 + 1) y5))
def wb_F_vars1_15 (post : Int32 → Prop) (u0 : FoC) (u1 : SgC) (u3 : MaC) (u4 : SgC) (a4_0 : Nat) (K0 : Int32 → Int32 → Int32 → Prop) (y2 : Int32) (y4 : Int32) (y5 : Int32) : Prop :=
  (((Int32.ofNat (sgN u1)) ≤ y5 → post y4) ∧ (¬ (Int32.ofNat (sgN u1)) ≤ y5 → wp_Sg_roleAt (fun r5 => ((r5 = (6 : Int32) → wp_Sg_declarerAt (fun r6 => ((r6 = ((-1) : Int32) → wp_Sg_parameterNamed (fun r7 => ((r7 = ((-1) : Int32) → w_F_vars1_78 post u0 u1 u3 u4 a4_0 K0 y2 y4 y5 0) ∧ (¬ r7 = ((-1) : Int32) → w_F_vars1_78 post u0 u1 u3 u4 a4_0 K0 y2 y4 y5 2))) u4 u1 (y5 + 1)) ∧ (¬ r6 = ((-1) : Int32) → w_F_vars1_78 post u0 u1 u3 u4 a4_0 K0 y2 y4 y5 1))) u1 y5) ∧ (¬ r5 = (6 : Int32) → w_F_vars1_87 post u0 u1 u3 u4 a4_0 K0 y2 y4 y5))) u1 y5))
def w_F_vars1_15 (post : Int32 → Prop) (u0 : FoC) (u1 : SgC) (u3 : MaC) (u4 : SgC) (a4_0 : Nat) : Nat → Int32 → Int32 → Int32 → Prop
  | 0, _, _, _ => False
  | n + 1, y2, y4, y5 => wb_F_vars1_15 post u0 u1 u3 u4 a4_0  (w_F_vars1_15 post u0 u1 u3 u4 a4_0  n) y2 y4 y5
def wp_F_vars1 (post : Int32 → Prop) (u0 : FoC) (u1 : SgC) (u3 : MaC) (u4 : SgC) (x2 : Int32) (a4_0 : Nat) : Prop :=
  wp_F_find (fun r8 => (r8 = some a4_0 ∧ (∃ n, w_F_vars1_15 post u0 u1 u3 u4 a4_0 n x2 0 0))) u0 u3 (sgP u1)
abbrev rm_F_measureN : Room := { frames := 1, cells := 0, slots := 0, locals := 21 }
def wp_F_measureN (post : Int32 → Prop) (u0 : FoC) (u3 : MaC) (x1 : Int32) (x2 : Int32) : Prop :=
  wp_F_find (fun r2 => (r2 = none ∧ post (-100))) u0 u3 x1
abbrev rm_F_measure0 : Room := { frames := 5, cells := 0, slots := 0, locals := 117 }
def w_F_measure0_52 (post : Int32 → Prop) (u0 : FoC) (u3 : MaC) (u4 : SgC) (a4_0 : Nat) (y2 : Int32) : Prop :=
  wp_F_vars0 (fun r9 => post r9) u0 u4 u3 y2
def wp_F_measure0 (post : Int32 → Prop) (u0 : FoC) (u3 : MaC) (u4 : SgC) (x1 : Int32) (x2 : Int32) (a4_0 : Nat) : Prop :=
  wp_F_find (fun r10 => (r10 = some a4_0 ∧ ((x2 = 0 ∨ x2 = 1 ∨ x2 = 2 → w_F_measure0_52 post u0 u3 u4 a4_0 x2) ∧ (x2 = 3 → wp_Sg_classCount (fun r11 => post r11) u4) ∧ (x2 = 4 → wp_Sg_argumentDepth (fun r12 => post r12) u4) ∧ (x2 = 5 → wp_Sg_longestBrackets (fun r13 => post r13) u4) ∧ (¬ x2 = 0 ∧ ¬ x2 = 1 ∧ ¬ x2 = 2 ∧ ¬ x2 = 3 ∧ ¬ x2 = 4 ∧ ¬ x2 = 5 → post (-100))))) u0 u3 x1
abbrev rm_F_measure1 : Room := { frames := 5, cells := 0, slots := 0, locals := 117 }
def w_F_measure1_52 (post : Int32 → Prop) (u0 : FoC) (u3 : MaC) (u4 : SgC) (u5 : SgC) (a4_0 : Nat) (a5_0 : Nat) (y2 : Int32) : Prop :=
  wp_F_vars1 (fun r9 => post r9) u0 u4 u3 u5 y2 a5_0
def wp_F_measure1 (post : Int32 → Prop) (u0 : FoC) (u3 : MaC) (u4 : SgC) (u5 : SgC) (x1 : Int32) (x2 : Int32) (a4_0 : Nat) (a5_0 : Nat) : Prop :=
  wp_F_find (fun r10 => (r10 = some a4_0 ∧ ((x2 = 0 ∨ x2 = 1 ∨ x2 = 2 → w_F_measure1_52 post u0 u3 u4 u5 a4_0 a5_0 x2) ∧ (x2 = 3 → wp_Sg_classCount (fun r11 => post r11) u4) ∧ (x2 = 4 → wp_Sg_argumentDepth (fun r12 => post r12) u4) ∧ (x2 = 5 → wp_Sg_longestBrackets (fun r13 => post r13) u4) ∧ (¬ x2 = 0 ∧ ¬ x2 = 1 ∧ ¬ x2 = 2 ∧ ¬ x2 = 3 ∧ ¬ x2 = 4 ∧ ¬ x2 = 5 → post (-100))))) u0 u3 x1
abbrev rm_F_alikeN0 : Room := { frames := 1, cells := 0, slots := 0, locals := 21 }
def wp_F_alikeN0 (post : Int32 → Prop) (u0 : FoC) (u3 : MaC) (x1 : Int32) (x2 : Int32) : Prop :=
  wp_F_find (fun r3 => (r3 = none ∧ wp_F_find (fun r4 => (r4 = none ∧ post (-100))) u0 u3 x2)) u0 u3 x1
abbrev rm_F_alikeN1 : Room := { frames := 1, cells := 0, slots := 0, locals := 21 }
def wp_F_alikeN1 (post : Int32 → Prop) (u0 : FoC) (u3 : MaC) (u4 : SgC) (x1 : Int32) (x2 : Int32) (a4_0 : Nat) : Prop :=
  wp_F_find (fun r3 => (r3 = none ∧ wp_F_find (fun r4 => (r4 = some a4_0 ∧ post (-100))) u0 u3 x2)) u0 u3 x1
abbrev rm_F_alikeN2 : Room := { frames := 1, cells := 0, slots := 0, locals := 21 }
def wp_F_alikeN2 (post : Int32 → Prop) (u0 : FoC) (u3 : MaC) (u4 : SgC) (x1 : Int32) (x2 : Int32) (a4_0 : Nat) : Prop :=
  wp_F_find (fun r3 => (r3 = some a4_0 ∧ wp_F_find (fun r4 => (r4 = none ∧ post (-100))) u0 u3 x2)) u0 u3 x1
abbrev rm_F_alike0 : Room := { frames := 5, cells := 0, slots := 0, locals := 120 }
def w_F_alike0_56 (post : Int32 → Prop) (u0 : FoC) (u3 : MaC) (u4 : SgC) (u5 : SgC) (a4_0 : Nat) (a5_0 : Nat) (z0 : Int32) : Prop :=
  ((z0 = 0 → post 0) ∧ (¬ z0 = 0 → wp_becomes (fun r4 => ((r4 = 0 → post 0) ∧ (¬ r4 = 0 → post 1))) u5 u4))
def w_F_alike0_55 (post : Int32 → Prop) (u0 : FoC) (u3 : MaC) (u4 : SgC) (u5 : SgC) (a4_0 : Nat) (a5_0 : Nat)  : Prop :=
  w_F_alike0_56 post u0 u3 u4 u5 a4_0 a5_0 0
def wp_F_alike0 (post : Int32 → Prop) (u0 : FoC) (u3 : MaC) (u4 : SgC) (u5 : SgC) (x1 : Int32) (x2 : Int32) (a4_0 : Nat) (a5_0 : Nat) : Prop :=
  wp_F_find (fun r5 => (r5 = some a4_0 ∧ wp_F_find (fun r6 => (r6 = some a5_0 ∧ ((¬ (sgK u4) = (sgK u5) → w_F_alike0_55 post u0 u3 u4 u5 a4_0 a5_0) ∧ ((sgK u4) = (sgK u5) → ((¬ (Int32.ofNat (sgM u4)) = (Int32.ofNat (sgM u5)) → w_F_alike0_55 post u0 u3 u4 u5 a4_0 a5_0) ∧ ((Int32.ofNat (sgM u4)) = (Int32.ofNat (sgM u5)) → w_F_alike0_56 post u0 u3 u4 u5 a4_0 a5_0 1)))))) u0 u3 x2)) u0 u3 x1
abbrev rm_F_sameErased00 : Room := { frames := 6, cells := 0, slots := 0, locals := 138 }
def w_F_sameErased00_91 (post : Int32 → (RowC × RowC) → Prop) (u0 : FoC) (u1 : SgC) (u2 : SgC) (u5 : MaC) (y8 : Int32) (y9 : Int32) (w0 : RowC) (w1 : RowC) : Prop :=
  ((y8 = 0 → post 0 (w0, w1)) ∧ (¬ y8 = 0 → ((y9 = 0 → post 0 (w0, w1)) ∧ (¬ y9 = 0 → post 1 (w0, w1)))))
def w_F_sameErased00_79 (post : Int32 → (RowC × RowC) → Prop) (u0 : FoC) (u1 : SgC) (u2 : SgC) (u5 : MaC) (K0 : Int32 → Int32 → Int32 → RowC → RowC → Prop) (y5 : Int32) (y6 : Int32) (y7 : Int32) (y8 : Int32) (z0 : Int32) (w0 : RowC) (w1 : RowC) : Prop :=
  ((¬ y8 = 0 → w_F_sameErased00_91 post u0 u1 u2 u5 y8 z0 w0 w1) ∧ (y8 = 0 → ((z0 = 0 → wp_Er_eraseN (fun v10 => wp_Er_eraseN (fun v11 => wp_Rw_holdsSameAs (fun r12 => ((¬ r12 = 0 → wp_Sg_behindType (fun r13 => wp_Sg_behindType (fun r14 => K0 r13 r14 (y7 + 1) v10 v11) u2 y6) u1 y5) ∧ (r12 = 0 → post 0 (v10, v11)))) v10 v11) w1 u2 y6) w0 u1 y5) ∧ (¬ z0 = 0 → w_F_sameErased00_91 post u0 u1 u2 u5 y8 z0 w0 w1))))
def w_F_sameErased00_61 (post : Int32 → (RowC × RowC) → Prop) (u0 : FoC) (u1 : SgC) (u2 : SgC) (u5 : MaC) (K0 : Int32 → Int32 → Int32 → RowC → RowC → Prop) (y5 : Int32) (y6 : Int32) (y7 : Int32) (z0 : Int32) (w0 : RowC) (w1 : RowC) : Prop :=
  wp_Sg_roleAt (fun r15 => ((¬ r15 = (23 : Int32) → w_F_sameErased00_79 post u0 u1 u2 u5 K0 y5 y6 y7 z0 0 w0 w1) ∧ (r15 = (23 : Int32) → w_F_sameErased00_79 post u0 u1 u2 u5 K0 y5 y6 y7 z0 1 w0 w1))) u2 y6
def wb_F_sameErased00_38 (post : Int32 → (RowC × RowC) → Prop) (u0 : FoC) (u1 : SgC) (u2 : SgC) (u5 : MaC) (K0 : Int32 → Int32 → Int32 → RowC → RowC → Prop) (y5 : Int32) (y6 : Int32) (y7 : Int32) (w0 : RowC) (w1 : RowC) : Prop :=
  (((120 : Int32) ≤ y7 → post 0 (w0, w1)) ∧ (¬ (120 : Int32) ≤ y7 → wp_Sg_roleAt (fun r16 => ((¬ r16 = (23 : Int32) → w_F_sameErased00_61 post u0 u1 u2 u5 K0 y5 y6 y7 0 w0 w1) ∧ (r16 = (23 : Int32) → w_F_sameErased00_61 post u0 u1 u2 u5 K0 y5 y6 y7 1 w0 w1))) u1 y5))
def w_F_sameErased00_38 (post : Int32 → (RowC × RowC) → Prop) (u0 : FoC) (u1 : SgC) (u2 : SgC) (u5 : MaC) : Nat → Int32 → Int32 → Int32 → RowC → RowC → Prop
  | 0, _, _, _, _, _ => False
  | n + 1, y5, y6, y7, w0, w1 => wb_F_sameErased00_38 post u0 u1 u2 u5  (w_F_sameErased00_38 post u0 u1 u2 u5  n) y5 y6 y7 w0 w1
def wp_F_sameErased00 (post : Int32 → (RowC × RowC) → Prop) (u0 : FoC) (u1 : SgC) (u2 : SgC) (u3 : RowC) (u4 : RowC) (u5 : MaC) : Prop :=
  wp_F_find (fun r17 => (r17 = none ∧ wp_F_find (fun r18 => (r18 = none ∧ (∃ n, w_F_sameErased00_38 post u0 u1 u2 u5 n ((sgO u1) + 1) ((sgO u2) + 1) 0 u3 u4))) u0 u5 (sgP u2))) u0 u5 (sgP u1)
abbrev rm_F_clash00 : Room := { frames := 7, cells := 0, slots := 0, locals := 167 }
def wp_F_clash00 (post : Int32 → (RowC × RowC) → Prop) (u0 : FoC) (u3 : RowC) (u4 : RowC) (u5 : MaC) (u6 : SgC) (u7 : SgC) (x1 : Int32) (x2 : Int32) (a6_0 : Nat) (a7_0 : Nat) : Prop :=
  wp_F_find (fun r5 => (r5 = some a6_0 ∧ wp_F_find (fun r6 => (r6 = some a7_0 ∧ ((¬ (sgK u6) = (1 : Int32) → post (-100) (u3, u4)) ∧ ((sgK u6) = (1 : Int32) → (((sgK u7) = (1 : Int32) → wp_F_sameErased00 (fun r8 v7 => ((r8 = 0 → post 0 (v7.1, v7.2)) ∧ (¬ r8 = 0 → post 1 (v7.1, v7.2)))) u0 u6 u7 u3 u4 u5) ∧ (¬ (sgK u7) = (1 : Int32) → post (-100) (u3, u4))))))) u0 u5 x2)) u0 u5 x1
abbrev rm_F_sameErased10 : Room := { frames := 6, cells := 0, slots := 0, locals := 138 }
def w_F_sameErased10_91 (post : Int32 → (RowC × RowC) → Prop) (u0 : FoC) (u1 : SgC) (u2 : SgC) (u5 : MaC) (u6 : SgC) (a6_0 : Nat) (y8 : Int32) (y9 : Int32) (w0 : RowC) (w1 : RowC) : Prop :=
  ((y8 = 0 → post 0 (w0, w1)) ∧ (¬ y8 = 0 → ((y9 = 0 → post 0 (w0, w1)) ∧ (¬ y9 = 0 → post 1 (w0, w1)))))
def w_F_sameErased10_79 (post : Int32 → (RowC × RowC) → Prop) (u0 : FoC) (u1 : SgC) (u2 : SgC) (u5 : MaC) (u6 : SgC) (a6_0 : Nat) (K0 : Int32 → Int32 → Int32 → RowC → RowC → Prop) (y5 : Int32) (y6 : Int32) (y7 : Int32) (y8 : Int32) (z0 : Int32) (w0 : RowC) (w1 : RowC) : Prop :=
  ((¬ y8 = 0 → w_F_sameErased10_91 post u0 u1 u2 u5 u6 a6_0 y8 z0 w0 w1) ∧ (y8 = 0 → ((z0 = 0 → wp_Er_erase (fun v10 => wp_Er_eraseN (fun v11 => wp_Rw_holdsSameAs (fun r12 => ((¬ r12 = 0 → wp_Sg_behindType (fun r13 => wp_Sg_behindType (fun r14 => K0 r13 r14 (y7 + 1) v10 v11) u2 y6) u1 y5) ∧ (r12 = 0 → post 0 (v10, v11)))) v10 v11) w1 u2 y6) w0 u1 u6 y5) ∧ (¬ z0 = 0 → w_F_sameErased10_91 post u0 u1 u2 u5 u6 a6_0 y8 z0 w0 w1))))
def w_F_sameErased10_61 (post : Int32 → (RowC × RowC) → Prop) (u0 : FoC) (u1 : SgC) (u2 : SgC) (u5 : MaC) (u6 : SgC) (a6_0 : Nat) (K0 : Int32 → Int32 → Int32 → RowC → RowC → Prop) (y5 : Int32) (y6 : Int32) (y7 : Int32) (z0 : Int32) (w0 : RowC) (w1 : RowC) : Prop :=
  wp_Sg_roleAt (fun r15 => ((¬ r15 = (23 : Int32) → w_F_sameErased10_79 post u0 u1 u2 u5 u6 a6_0 K0 y5 y6 y7 z0 0 w0 w1) ∧ (r15 = (23 : Int32) → w_F_sameErased10_79 post u0 u1 u2 u5 u6 a6_0 K0 y5 y6 y7 z0 1 w0 w1))) u2 y6
def wb_F_sameErased10_38 (post : Int32 → (RowC × RowC) → Prop) (u0 : FoC) (u1 : SgC) (u2 : SgC) (u5 : MaC) (u6 : SgC) (a6_0 : Nat) (K0 : Int32 → Int32 → Int32 → RowC → RowC → Prop) (y5 : Int32) (y6 : Int32) (y7 : Int32) (w0 : RowC) (w1 : RowC) : Prop :=
  (((120 : Int32) ≤ y7 → post 0 (w0, w1)) ∧ (¬ (120 : Int32) ≤ y7 → wp_Sg_roleAt (fun r16 => ((¬ r16 = (23 : Int32) → w_F_sameErased10_61 post u0 u1 u2 u5 u6 a6_0 K0 y5 y6 y7 0 w0 w1) ∧ (r16 = (23 : Int32) → w_F_sameErased10_61 post u0 u1 u2 u5 u6 a6_0 K0 y5 y6 y7 1 w0 w1))) u1 y5))
def w_F_sameErased10_38 (post : Int32 → (RowC × RowC) → Prop) (u0 : FoC) (u1 : SgC) (u2 : SgC) (u5 : MaC) (u6 : SgC) (a6_0 : Nat) : Nat → Int32 → Int32 → Int32 → RowC → RowC → Prop
  | 0, _, _, _, _, _ => False
  | n + 1, y5, y6, y7, w0, w1 => wb_F_sameErased10_38 post u0 u1 u2 u5 u6 a6_0  (w_F_sameErased10_38 post u0 u1 u2 u5 u6 a6_0  n) y5 y6 y7 w0 w1
def wp_F_sameErased10 (post : Int32 → (RowC × RowC) → Prop) (u0 : FoC) (u1 : SgC) (u2 : SgC) (u3 : RowC) (u4 : RowC) (u5 : MaC) (u6 : SgC) (a6_0 : Nat) : Prop :=
  wp_F_find (fun r17 => (r17 = some a6_0 ∧ wp_F_find (fun r18 => (r18 = none ∧ (∃ n, w_F_sameErased10_38 post u0 u1 u2 u5 u6 a6_0 n ((sgO u1) + 1) ((sgO u2) + 1) 0 u3 u4))) u0 u5 (sgP u2))) u0 u5 (sgP u1)
abbrev rm_F_clash10 : Room := { frames := 7, cells := 0, slots := 0, locals := 167 }
def wp_F_clash10 (post : Int32 → (RowC × RowC) → Prop) (u0 : FoC) (u3 : RowC) (u4 : RowC) (u5 : MaC) (u6 : SgC) (u7 : SgC) (u8 : SgC) (x1 : Int32) (x2 : Int32) (a6_0 : Nat) (a7_0 : Nat) (a8_0 : Nat) : Prop :=
  wp_F_find (fun r5 => (r5 = some a6_0 ∧ wp_F_find (fun r6 => (r6 = some a7_0 ∧ ((¬ (sgK u6) = (1 : Int32) → post (-100) (u3, u4)) ∧ ((sgK u6) = (1 : Int32) → (((sgK u7) = (1 : Int32) → wp_F_sameErased10 (fun r8 v7 => ((r8 = 0 → post 0 (v7.1, v7.2)) ∧ (¬ r8 = 0 → post 1 (v7.1, v7.2)))) u0 u6 u7 u3 u4 u5 u8  a8_0) ∧ (¬ (sgK u7) = (1 : Int32) → post (-100) (u3, u4))))))) u0 u5 x2)) u0 u5 x1
abbrev rm_F_sameErased01 : Room := { frames := 6, cells := 0, slots := 0, locals := 138 }
def w_F_sameErased01_91 (post : Int32 → (RowC × RowC) → Prop) (u0 : FoC) (u1 : SgC) (u2 : SgC) (u5 : MaC) (u6 : SgC) (a6_0 : Nat) (y8 : Int32) (y9 : Int32) (w0 : RowC) (w1 : RowC) : Prop :=
  ((y8 = 0 → post 0 (w0, w1)) ∧ (¬ y8 = 0 → ((y9 = 0 → post 0 (w0, w1)) ∧ (¬ y9 = 0 → post 1 (w0, w1)))))
def w_F_sameErased01_79 (post : Int32 → (RowC × RowC) → Prop) (u0 : FoC) (u1 : SgC) (u2 : SgC) (u5 : MaC) (u6 : SgC) (a6_0 : Nat) (K0 : Int32 → Int32 → Int32 → RowC → RowC → Prop) (y5 : Int32) (y6 : Int32) (y7 : Int32) (y8 : Int32) (z0 : Int32) (w0 : RowC) (w1 : RowC) : Prop :=
  ((¬ y8 = 0 → w_F_sameErased01_91 post u0 u1 u2 u5 u6 a6_0 y8 z0 w0 w1) ∧ (y8 = 0 → ((z0 = 0 → wp_Er_eraseN (fun v10 => wp_Er_erase (fun v11 => wp_Rw_holdsSameAs (fun r12 => ((¬ r12 = 0 → wp_Sg_behindType (fun r13 => wp_Sg_behindType (fun r14 => K0 r13 r14 (y7 + 1) v10 v11) u2 y6) u1 y5) ∧ (r12 = 0 → post 0 (v10, v11)))) v10 v11) w1 u2 u6 y6) w0 u1 y5) ∧ (¬ z0 = 0 → w_F_sameErased01_91 post u0 u1 u2 u5 u6 a6_0 y8 z0 w0 w1))))
def w_F_sameErased01_61 (post : Int32 → (RowC × RowC) → Prop) (u0 : FoC) (u1 : SgC) (u2 : SgC) (u5 : MaC) (u6 : SgC) (a6_0 : Nat) (K0 : Int32 → Int32 → Int32 → RowC → RowC → Prop) (y5 : Int32) (y6 : Int32) (y7 : Int32) (z0 : Int32) (w0 : RowC) (w1 : RowC) : Prop :=
  wp_Sg_roleAt (fun r15 => ((¬ r15 = (23 : Int32) → w_F_sameErased01_79 post u0 u1 u2 u5 u6 a6_0 K0 y5 y6 y7 z0 0 w0 w1) ∧ (r15 = (23 : Int32) → w_F_sameErased01_79 post u0 u1 u2 u5 u6 a6_0 K0 y5 y6 y7 z0 1 w0 w1))) u2 y6
def wb_F_sameErased01_38 (post : Int32 → (RowC × RowC) → Prop) (u0 : FoC) (u1 : SgC) (u2 : SgC) (u5 : MaC) (u6 : SgC) (a6_0 : Nat) (K0 : Int32 → Int32 → Int32 → RowC → RowC → Prop) (y5 : Int32) (y6 : Int32) (y7 : Int32) (w0 : RowC) (w1 : RowC) : Prop :=
  (((120 : Int32) ≤ y7 → post 0 (w0, w1)) ∧ (¬ (120 : Int32) ≤ y7 → wp_Sg_roleAt (fun r16 => ((¬ r16 = (23 : Int32) → w_F_sameErased01_61 post u0 u1 u2 u5 u6 a6_0 K0 y5 y6 y7 0 w0 w1) ∧ (r16 = (23 : Int32) → w_F_sameErased01_61 post u0 u1 u2 u5 u6 a6_0 K0 y5 y6 y7 1 w0 w1))) u1 y5))
def w_F_sameErased01_38 (post : Int32 → (RowC × RowC) → Prop) (u0 : FoC) (u1 : SgC) (u2 : SgC) (u5 : MaC) (u6 : SgC) (a6_0 : Nat) : Nat → Int32 → Int32 → Int32 → RowC → RowC → Prop
  | 0, _, _, _, _, _ => False
  | n + 1, y5, y6, y7, w0, w1 => wb_F_sameErased01_38 post u0 u1 u2 u5 u6 a6_0  (w_F_sameErased01_38 post u0 u1 u2 u5 u6 a6_0  n) y5 y6 y7 w0 w1
def wp_F_sameErased01 (post : Int32 → (RowC × RowC) → Prop) (u0 : FoC) (u1 : SgC) (u2 : SgC) (u3 : RowC) (u4 : RowC) (u5 : MaC) (u6 : SgC) (a6_0 : Nat) : Prop :=
  wp_F_find (fun r17 => (r17 = none ∧ wp_F_find (fun r18 => (r18 = some a6_0 ∧ (∃ n, w_F_sameErased01_38 post u0 u1 u2 u5 u6 a6_0 n ((sgO u1) + 1) ((sgO u2) + 1) 0 u3 u4))) u0 u5 (sgP u2))) u0 u5 (sgP u1)
abbrev rm_F_clash01 : Room := { frames := 7, cells := 0, slots := 0, locals := 167 }
def wp_F_clash01 (post : Int32 → (RowC × RowC) → Prop) (u0 : FoC) (u3 : RowC) (u4 : RowC) (u5 : MaC) (u6 : SgC) (u7 : SgC) (u8 : SgC) (x1 : Int32) (x2 : Int32) (a6_0 : Nat) (a7_0 : Nat) (a8_0 : Nat) : Prop :=
  wp_F_find (fun r5 => (r5 = some a6_0 ∧ wp_F_find (fun r6 => (r6 = some a7_0 ∧ ((¬ (sgK u6) = (1 : Int32) → post (-100) (u3, u4)) ∧ ((sgK u6) = (1 : Int32) → (((sgK u7) = (1 : Int32) → wp_F_sameErased01 (fun r8 v7 => ((r8 = 0 → post 0 (v7.1, v7.2)) ∧ (¬ r8 = 0 → post 1 (v7.1, v7.2)))) u0 u6 u7 u3 u4 u5 u8  a8_0) ∧ (¬ (sgK u7) = (1 : Int32) → post (-100) (u3, u4))))))) u0 u5 x2)) u0 u5 x1
abbrev rm_F_sameErased11 : Room := { frames := 6, cells := 0, slots := 0, locals := 138 }
def w_F_sameErased11_91 (post : Int32 → (RowC × RowC) → Prop) (u0 : FoC) (u1 : SgC) (u2 : SgC) (u5 : MaC) (u6 : SgC) (u7 : SgC) (a6_0 : Nat) (a7_0 : Nat) (y8 : Int32) (y9 : Int32) (w0 : RowC) (w1 : RowC) : Prop :=
  ((y8 = 0 → post 0 (w0, w1)) ∧ (¬ y8 = 0 → ((y9 = 0 → post 0 (w0, w1)) ∧ (¬ y9 = 0 → post 1 (w0, w1)))))
def w_F_sameErased11_79 (post : Int32 → (RowC × RowC) → Prop) (u0 : FoC) (u1 : SgC) (u2 : SgC) (u5 : MaC) (u6 : SgC) (u7 : SgC) (a6_0 : Nat) (a7_0 : Nat) (K0 : Int32 → Int32 → Int32 → RowC → RowC → Prop) (y5 : Int32) (y6 : Int32) (y7 : Int32) (y8 : Int32) (z0 : Int32) (w0 : RowC) (w1 : RowC) : Prop :=
  ((¬ y8 = 0 → w_F_sameErased11_91 post u0 u1 u2 u5 u6 u7 a6_0 a7_0 y8 z0 w0 w1) ∧ (y8 = 0 → ((z0 = 0 → wp_Er_erase (fun v10 => wp_Er_erase (fun v11 => wp_Rw_holdsSameAs (fun r12 => ((¬ r12 = 0 → wp_Sg_behindType (fun r13 => wp_Sg_behindType (fun r14 => K0 r13 r14 (y7 + 1) v10 v11) u2 y6) u1 y5) ∧ (r12 = 0 → post 0 (v10, v11)))) v10 v11) w1 u2 u7 y6) w0 u1 u6 y5) ∧ (¬ z0 = 0 → w_F_sameErased11_91 post u0 u1 u2 u5 u6 u7 a6_0 a7_0 y8 z0 w0 w1))))
def w_F_sameErased11_61 (post : Int32 → (RowC × RowC) → Prop) (u0 : FoC) (u1 : SgC) (u2 : SgC) (u5 : MaC) (u6 : SgC) (u7 : SgC) (a6_0 : Nat) (a7_0 : Nat) (K0 : Int32 → Int32 → Int32 → RowC → RowC → Prop) (y5 : Int32) (y6 : Int32) (y7 : Int32) (z0 : Int32) (w0 : RowC) (w1 : RowC) : Prop :=
  wp_Sg_roleAt (fun r15 => ((¬ r15 = (23 : Int32) → w_F_sameErased11_79 post u0 u1 u2 u5 u6 u7 a6_0 a7_0 K0 y5 y6 y7 z0 0 w0 w1) ∧ (r15 = (23 : Int32) → w_F_sameErased11_79 post u0 u1 u2 u5 u6 u7 a6_0 a7_0 K0 y5 y6 y7 z0 1 w0 w1))) u2 y6
def wb_F_sameErased11_38 (post : Int32 → (RowC × RowC) → Prop) (u0 : FoC) (u1 : SgC) (u2 : SgC) (u5 : MaC) (u6 : SgC) (u7 : SgC) (a6_0 : Nat) (a7_0 : Nat) (K0 : Int32 → Int32 → Int32 → RowC → RowC → Prop) (y5 : Int32) (y6 : Int32) (y7 : Int32) (w0 : RowC) (w1 : RowC) : Prop :=
  (((120 : Int32) ≤ y7 → post 0 (w0, w1)) ∧ (¬ (120 : Int32) ≤ y7 → wp_Sg_roleAt (fun r16 => ((¬ r16 = (23 : Int32) → w_F_sameErased11_61 post u0 u1 u2 u5 u6 u7 a6_0 a7_0 K0 y5 y6 y7 0 w0 w1) ∧ (r16 = (23 : Int32) → w_F_sameErased11_61 post u0 u1 u2 u5 u6 u7 a6_0 a7_0 K0 y5 y6 y7 1 w0 w1))) u1 y5))
def w_F_sameErased11_38 (post : Int32 → (RowC × RowC) → Prop) (u0 : FoC) (u1 : SgC) (u2 : SgC) (u5 : MaC) (u6 : SgC) (u7 : SgC) (a6_0 : Nat) (a7_0 : Nat) : Nat → Int32 → Int32 → Int32 → RowC → RowC → Prop
  | 0, _, _, _, _, _ => False
  | n + 1, y5, y6, y7, w0, w1 => wb_F_sameErased11_38 post u0 u1 u2 u5 u6 u7 a6_0 a7_0  (w_F_sameErased11_38 post u0 u1 u2 u5 u6 u7 a6_0 a7_0  n) y5 y6 y7 w0 w1
def wp_F_sameErased11 (post : Int32 → (RowC × RowC) → Prop) (u0 : FoC) (u1 : SgC) (u2 : SgC) (u3 : RowC) (u4 : RowC) (u5 : MaC) (u6 : SgC) (u7 : SgC) (a6_0 : Nat) (a7_0 : Nat) : Prop :=
  wp_F_find (fun r17 => (r17 = some a6_0 ∧ wp_F_find (fun r18 => (r18 = some a7_0 ∧ (∃ n, w_F_sameErased11_38 post u0 u1 u2 u5 u6 u7 a6_0 a7_0 n ((sgO u1) + 1) ((sgO u2) + 1) 0 u3 u4))) u0 u5 (sgP u2))) u0 u5 (sgP u1)
abbrev rm_F_clash11 : Room := { frames := 7, cells := 0, slots := 0, locals := 167 }
def wp_F_clash11 (post : Int32 → (RowC × RowC) → Prop) (u0 : FoC) (u3 : RowC) (u4 : RowC) (u5 : MaC) (u6 : SgC) (u7 : SgC) (u8 : SgC) (u9 : SgC) (x1 : Int32) (x2 : Int32) (a6_0 : Nat) (a7_0 : Nat) (a8_0 : Nat) (a9_0 : Nat) : Prop :=
  wp_F_find (fun r5 => (r5 = some a6_0 ∧ wp_F_find (fun r6 => (r6 = some a7_0 ∧ ((¬ (sgK u6) = (1 : Int32) → post (-100) (u3, u4)) ∧ ((sgK u6) = (1 : Int32) → (((sgK u7) = (1 : Int32) → wp_F_sameErased11 (fun r8 v7 => ((r8 = 0 → post 0 (v7.1, v7.2)) ∧ (¬ r8 = 0 → post 1 (v7.1, v7.2)))) u0 u6 u7 u3 u4 u5 u8 u9  a8_0 a9_0) ∧ (¬ (sgK u7) = (1 : Int32) → post (-100) (u3, u4))))))) u0 u5 x2)) u0 u5 x1
abbrev rm_F_clashN0 : Room := { frames := 1, cells := 0, slots := 0, locals := 21 }
def wp_F_clashN0 (post : Int32 → Prop) (u0 : FoC) (u3 : MaC) (x1 : Int32) (x2 : Int32) : Prop :=
  wp_F_find (fun r3 => (r3 = none ∧ wp_F_find (fun r4 => (r4 = none ∧ post (-100))) u0 u3 x2)) u0 u3 x1
abbrev rm_F_clashN1 : Room := { frames := 1, cells := 0, slots := 0, locals := 21 }
def wp_F_clashN1 (post : Int32 → Prop) (u0 : FoC) (u3 : MaC) (u4 : SgC) (x1 : Int32) (x2 : Int32) (a4_0 : Nat) : Prop :=
  wp_F_find (fun r3 => (r3 = none ∧ wp_F_find (fun r4 => (r4 = some a4_0 ∧ post (-100))) u0 u3 x2)) u0 u3 x1
abbrev rm_F_clashN2 : Room := { frames := 1, cells := 0, slots := 0, locals := 21 }
def wp_F_clashN2 (post : Int32 → Prop) (u0 : FoC) (u3 : MaC) (u4 : SgC) (x1 : Int32) (x2 : Int32) (a4_0 : Nat) : Prop :=
  wp_F_find (fun r3 => (r3 = some a4_0 ∧ wp_F_find (fun r4 => (r4 = none ∧ post (-100))) u0 u3 x2)) u0 u3 x1
abbrev rm_F_type : Room := { frames := 1, cells := 0, slots := 0, locals := 21 }
def wp_F_type (post : Int32 → RowC → Prop) (u0 : FoC) (u2 : RowC) (x1 : Int32) : Prop :=
  ((x1 < (33 : Int32) → post (-100) u2) ∧ (¬ x1 < (33 : Int32) → (((126 : Int32) < x1 → post (-100) u2) ∧ (¬ (126 : Int32) < x1 → wp_Rw_add (fun r4 v3 => ((¬ r4 = 0 → post (rwS v3) v3) ∧ (r4 = 0 → post (-100) v3))) u2 ((x1.toUInt32 % 65536).toInt32)))))
abbrev rm_F_clear : Room := { frames := 0, cells := 0, slots := 0, locals := 0 }
def wp_F_clear (post : RowC → Prop) (u0 : FoC) (u1 : RowC) : Prop :=
  post (rwN u1, rwF u1, 0)
abbrev rm_F_count : Room := { frames := 0, cells := 0, slots := 0, locals := 0 }
def wp_F_count (post : Int32 → Prop) (u0 : FoC) (u2 : RowC) (x1 : Int32) : Prop :=
  ((¬ x1 = 0 → ((¬ x1 = (1 : Int32) → post (-100)) ∧ (x1 = (1 : Int32) → post (rwS u2)))) ∧ (x1 = 0 → post (foC u0)))
abbrev rm_F_scopeN : Room := { frames := 1, cells := 0, slots := 0, locals := 21 }
def wp_F_scopeN (post : Int32 → Prop) (u0 : FoC) (u3 : MaC) (x1 : Int32) (x2 : Int32) : Prop :=
  wp_F_find (fun r2 => (r2 = none ∧ post (-100))) u0 u3 x1
abbrev rm_F_scope0 : Room := { frames := 1, cells := 0, slots := 0, locals := 21 }
def w_F_scope0_46 (post : Int32 → SgC → Prop) (u0 : FoC) (u3 : MaC) (a4_0 : Nat) (y2 : Int32) (w0 : SgC) : Prop :=
  post (sgP w0) (sgK w0, sgN w0, sgL w0, sgR w0, sgM w0, sgB w0, sgE w0, sgO w0, y2)
def wp_F_scope0 (post : Int32 → SgC → Prop) (u0 : FoC) (u3 : MaC) (u4 : SgC) (x1 : Int32) (x2 : Int32) (a4_0 : Nat) : Prop :=
  wp_F_find (fun r3 => (r3 = some a4_0 ∧ ((x2 = ((-1) : Int32) → w_F_scope0_46 post u0 u3 a4_0 x2 u4) ∧ (¬ x2 = ((-1) : Int32) → wp_F_find (fun r4 => (r4 = none ∧ post (-100) u4)) u0 u3 x2)))) u0 u3 x1
abbrev rm_F_scopeS : Room := { frames := 1, cells := 0, slots := 0, locals := 21 }
def w_F_scopeS_46 (post : Int32 → SgC → Prop) (u0 : FoC) (u3 : MaC) (a4_0 : Nat) (y2 : Int32) (w0 : SgC) : Prop :=
  post (sgP w0) (sgK w0, sgN w0, sgL w0, sgR w0, sgM w0, sgB w0, sgE w0, sgO w0, y2)
def wp_F_scopeS (post : Int32 → SgC → Prop) (u0 : FoC) (u3 : MaC) (u4 : SgC) (x1 : Int32) (x2 : Int32) (a4_0 : Nat) : Prop :=
  wp_F_find (fun r3 => (r3 = some a4_0 ∧ ((x2 = ((-1) : Int32) → w_F_scopeS_46 post u0 u3 a4_0 x2 u4) ∧ (¬ x2 = ((-1) : Int32) → wp_F_find (fun r4 => (r4 = some a4_0 ∧ ((x2 = x1 → post (-100) u4) ∧ (¬ x2 = x1 → (((sgK u4) = 0 → w_F_scopeS_46 post u0 u3 a4_0 x2 u4) ∧ (¬ (sgK u4) = 0 → post (-100) u4)))))) u0 u3 x2)))) u0 u3 x1
abbrev rm_F_scope1 : Room := { frames := 1, cells := 0, slots := 0, locals := 21 }
def w_F_scope1_46 (post : Int32 → SgC → Prop) (u0 : FoC) (u3 : MaC) (u5 : SgC) (a4_0 : Nat) (a5_0 : Nat) (y2 : Int32) (w0 : SgC) : Prop :=
  post (sgP w0) (sgK w0, sgN w0, sgL w0, sgR w0, sgM w0, sgB w0, sgE w0, sgO w0, y2)
def wp_F_scope1 (post : Int32 → SgC → Prop) (u0 : FoC) (u3 : MaC) (u4 : SgC) (u5 : SgC) (x1 : Int32) (x2 : Int32) (a4_0 : Nat) (a5_0 : Nat) : Prop :=
  wp_F_find (fun r3 => (r3 = some a4_0 ∧ ((x2 = ((-1) : Int32) → w_F_scope1_46 post u0 u3 u5 a4_0 a5_0 x2 u4) ∧ (¬ x2 = ((-1) : Int32) → wp_F_find (fun r4 => (r4 = some a5_0 ∧ ((x2 = x1 → post (-100) u4) ∧ (¬ x2 = x1 → (((sgK u5) = 0 → w_F_scope1_46 post u0 u3 u5 a4_0 a5_0 x2 u4) ∧ (¬ (sgK u5) = 0 → post (-100) u4)))))) u0 u3 x2)))) u0 u3 x1
abbrev rm_F_writeFilled : Room := { frames := 4, cells := 0, slots := 0, locals := 91 }
def w_F_writeFilled_156 (post : Int32 → RowC → Prop) (u0 : FoC) (u1 : SgC) (u3 : SgC) (K0 : Int32 → Int32 → Int32 → Int32 → Int32 → RowC → Prop) (y2 : Int32) (y5 : Int32) (y6 : Int32) (y7 : Int32) (y8 : Int32) (w0 : RowC) : Prop :=
  K0 y2 y5 y6 y7 (y8 + 1) w0
def w_F_writeFilled_149 (post : Int32 → RowC → Prop) (u0 : FoC) (u1 : SgC) (u3 : SgC) (K0 : Int32 → Int32 → Int32 → Int32 → Int32 → RowC → Prop) (y2 : Int32) (y5 : Int32) (y6 : Int32) (y7 : Int32) (y8 : Int32) (y9 : Int32) (w0 : RowC) : Prop :=
  ((¬ y9 = 0 → w_F_writeFilled_156 post u0 u1 u3 K0 y2 y5 y6 y7 y8 w0) ∧ (y9 = 0 → post 0 w0))
def w_F_writeFilled_100 (post : Int32 → RowC → Prop) (u0 : FoC) (u1 : SgC) (u3 : SgC) (K0 : Int32 → Int32 → Int32 → Int32 → Int32 → RowC → Prop) (y2 : Int32) (y5 : Int32) (y6 : Int32) (y7 : Int32) (y8 : Int32) (w0 : RowC) : Prop :=
  wp_Sg_declarerAt (fun r9 => ((¬ r9 = y2 → wp_Sg_letterAt (fun r10 => wp_Rw_add (fun r12 v11 => w_F_writeFilled_149 post u0 u1 u3 K0 y2 y5 y6 y7 y8 r12 v11) w0 r10) u1 y8) ∧ (r9 = y2 → wp_Rw_addAll (fun r14 v13 => wp_Sg_behindType (fun r15 => w_F_writeFilled_149 post u0 u1 u3 K0 y2 y5 y6 r15 y8 r14 v13) u1 y8) w0 (sgN u3, sgL u3)))) u1 y8
def wb_F_writeFilled_66 (post : Int32 → RowC → Prop) (u0 : FoC) (u1 : SgC) (u3 : SgC) (K0 : Int32 → Int32 → Int32 → Int32 → Int32 → RowC → Prop) (y2 : Int32) (y5 : Int32) (y6 : Int32) (y7 : Int32) (y8 : Int32) (w0 : RowC) : Prop :=
  (((Int32.ofNat (sgN u1)) ≤ y8 → post 1 w0) ∧ (¬ (Int32.ofNat (sgN u1)) ≤ y8 → ((y8 < y7 → w_F_writeFilled_156 post u0 u1 u3 K0 y2 y5 y6 y7 y8 w0) ∧ (¬ y8 < y7 → ((y8 < y5 → w_F_writeFilled_100 post u0 u1 u3 K0 y2 y5 y6 y7 y8 w0) ∧ (¬ y8 < y5 → ((y6 ≤ y8 → w_F_writeFilled_100 post u0 u1 u3 K0 y2 y5 y6 y7 y8 w0) ∧ (¬ y6 ≤ y8 → w_F_writeFilled_156 post u0 u1 u3 K0 y2 y5 y6 y7 y8 w0))))))))
def w_F_writeFilled_66 (post : Int32 → RowC → Prop) (u0 : FoC) (u1 : SgC) (u3 : SgC) : Nat → Int32 → Int32 → Int32 → Int32 → Int32 → RowC → Prop
  | 0, _, _, _, _, _, _ => False
  | n + 1, y2, y5, y6, y7, y8, w0 => wb_F_writeFilled_66 post u0 u1 u3  (w_F_writeFilled_66 post u0 u1 u3  n) y2 y5 y6 y7 y8 w0
def w_F_writeFilled_50 (post : Int32 → RowC → Prop) (u0 : FoC) (u1 : SgC) (u3 : SgC) (y2 : Int32) (y5 : Int32) (z0 : Int32) (w0 : RowC) : Prop :=
  (∃ n, w_F_writeFilled_66 post u0 u1 u3 n y2 y5 z0 0 0 (rwN w0, rwF w0, 0))
def w_F_writeFilled_31 (post : Int32 → RowC → Prop) (u0 : FoC) (u1 : SgC) (u3 : SgC) (y2 : Int32) (y4 : Int32) (z0 : Int32) (w0 : RowC) : Prop :=
  ((y4 = 0 → wp_Sg_parameterEnd (fun r16 => w_F_writeFilled_50 post u0 u1 u3 y2 z0 r16 w0) u1 y2) ∧ (¬ y4 = 0 → w_F_writeFilled_50 post u0 u1 u3 y2 z0 (sgO u1) w0))
def w_F_writeFilled_14 (post : Int32 → RowC → Prop) (u0 : FoC) (u1 : SgC) (u3 : SgC) (y2 : Int32) (z0 : Int32) (w0 : RowC) : Prop :=
  ((z0 = 0 → (vp_in y2 (sgM u1) ∧ w_F_writeFilled_31 post u0 u1 u3 y2 z0 ((sgB u1) y2.toNatClampNeg) w0)) ∧ (¬ z0 = 0 → w_F_writeFilled_31 post u0 u1 u3 y2 z0 0 w0))
def wp_F_writeFilled (post : Int32 → RowC → Prop) (u0 : FoC) (u1 : SgC) (u3 : SgC) (u4 : RowC) (x2 : Int32) : Prop :=
  ((¬ (Int32.ofNat (sgM u1)) = (1 : Int32) → w_F_writeFilled_14 post u0 u1 u3 x2 0 u4) ∧ ((Int32.ofNat (sgM u1)) = (1 : Int32) → w_F_writeFilled_14 post u0 u1 u3 x2 1 u4))
abbrev rm_F_keepF : Room := { frames := 0, cells := 0, slots := 0, locals := 0 }
def wp_F_keepF (post : Int32 → Prop) (u0 : FoC) (u1 : RowC) (x2 : Int32) : Prop :=
  (¬ (foC u0) < (24 : Int32) ∧ post (-100))
abbrev rm_F_keepY : Room := { frames := 2, cells := 5, slots := 487, locals := 65 }
def wp_F_keepY (post : Int32 → (FoC × MaC × SgC × Nat) → Prop) (u0 : FoC) (u1 : RowC) (u3 : MaC) (u4 : RdC) (x2 : Int32) : Prop :=
  ((foC u0) < (24 : Int32) ∧ (∀ q20 : Nat, wp_Sg_init (fun v2 => (vp_in (foC u0) (maN u3) ∧ post (((foC u0) + 1) - 1) ((foC u0) + 1, (maN u3, va_up (maF u3) (foC u0).toNatClampNeg (some q20)), v2, q20))) (0, 0, 0) u1 u4 x2))
abbrev rm_F_readN : Room := { frames := 9, cells := 0, slots := 0, locals := 198 }
def wp_F_readN (post : Int32 → (RowC × RdC) → Prop) (u0 : FoC) (u2 : RowC) (u3 : RdC) (x1 : Int32) : Prop :=
  ((x1 < 0 → post (-100) (u2, u3)) ∧ (¬ x1 < 0 → ((x1 ≤ (2 : Int32) → wp_Rd_faultOf (fun r5 v4 => ((r5 = ((-1) : Int32) → wp_F_keepF (fun r6 => ((r6 = ((-100) : Int32) → post r6 (u2, v4)) ∧ (¬ r6 = ((-100) : Int32) → post r6 ((rwN u2, rwF u2, 0), v4)))) u0 u2 (-1)) ∧ (¬ r5 = ((-1) : Int32) → post ((-1) - r5) (u2, v4)))) u3 u2 x1) ∧ (¬ x1 ≤ (2 : Int32) → post (-100) (u2, u3)))))
abbrev rm_F_readY : Room := { frames := 9, cells := 5, slots := 487, locals := 198 }
def wp_F_readY (post : Int32 → (FoC × RowC × RdC × MaC × SgC × Nat) → Prop) (u0 : FoC) (u2 : RowC) (u3 : RdC) (u4 : MaC) (x1 : Int32) : Prop :=
  (¬ x1 < 0 ∧ (x1 ≤ (2 : Int32) ∧ wp_Rd_faultOf (fun r6 v5 => (r6 = ((-1) : Int32) ∧ wp_F_keepY (fun r8 v7 => (¬ r8 = ((-100) : Int32) ∧ post r8 (v7.1, (rwN u2, rwF u2, 0), v5, v7.2.1, v7.2.2.1, v7.2.2.2))) u0 u2 u4 v5 (-1))) u3 u2 x1))
abbrev rm_F_fillN0 : Room := { frames := 1, cells := 0, slots := 0, locals := 21 }
def wp_F_fillN0 (post : Int32 → Prop) (u0 : FoC) (u4 : MaC) (x1 : Int32) (x2 : Int32) (x3 : Int32) : Prop :=
  wp_F_find (fun r3 => (r3 = none ∧ wp_F_find (fun r4 => (r4 = none ∧ post (-100))) u0 u4 x3)) u0 u4 x1
abbrev rm_F_fillN1 : Room := { frames := 1, cells := 0, slots := 0, locals := 21 }
def wp_F_fillN1 (post : Int32 → Prop) (u0 : FoC) (u4 : MaC) (u5 : SgC) (x1 : Int32) (x2 : Int32) (x3 : Int32) (a5_0 : Nat) : Prop :=
  wp_F_find (fun r3 => (r3 = none ∧ wp_F_find (fun r4 => (r4 = some a5_0 ∧ post (-100))) u0 u4 x3)) u0 u4 x1
abbrev rm_F_fillN2 : Room := { frames := 1, cells := 0, slots := 0, locals := 21 }
def wp_F_fillN2 (post : Int32 → Prop) (u0 : FoC) (u4 : MaC) (u5 : SgC) (x1 : Int32) (x2 : Int32) (x3 : Int32) (a5_0 : Nat) : Prop :=
  wp_F_find (fun r3 => (r3 = some a5_0 ∧ wp_F_find (fun r4 => (r4 = none ∧ post (-100))) u0 u4 x3)) u0 u4 x1
abbrev rm_F_fillN : Room := { frames := 9, cells := 0, slots := 0, locals := 198 }
def wp_F_fillN (post : Int32 → (RowC × RdC) → Prop) (u0 : FoC) (u4 : RowC) (u5 : RdC) (u6 : MaC) (u7 : SgC) (u8 : SgC) (x1 : Int32) (x2 : Int32) (x3 : Int32) (a7_0 : Nat) (a8_0 : Nat) : Prop :=
  wp_F_find (fun r9 => (r9 = some a7_0 ∧ wp_F_find (fun r10 => (r10 = some a8_0 ∧ wp_Sg_hasParameter (fun r11 => ((r11 = 0 → post (-100) (u4, u5)) ∧ (¬ r11 = 0 → ((¬ (sgK u8) = (2 : Int32) → post (-100) (u4, u5)) ∧ ((sgK u8) = (2 : Int32) → wp_F_writeFilled (fun r13 v12 => ((¬ r13 = 0 → wp_Rd_faultOf (fun r15 v14 => ((r15 = ((-1) : Int32) → wp_F_keepF (fun r16 => post r16 (v12, v14)) u0 v12 (sgP u7)) ∧ (¬ r15 = ((-1) : Int32) → post (-100) (v12, v14)))) u5 v12 (sgK u7)) ∧ (r13 = 0 → post (-100) (v12, u5)))) u0 u7 u8 u4 x2))))) u7 x2)) u0 u6 x3)) u0 u6 x1
abbrev rm_F_fillY : Room := { frames := 9, cells := 5, slots := 487, locals := 198 }
def wp_F_fillY (post : Int32 → (FoC × RowC × RdC × MaC × SgC × Nat) → Prop) (u0 : FoC) (u4 : RowC) (u5 : RdC) (u6 : MaC) (u7 : SgC) (u8 : SgC) (x1 : Int32) (x2 : Int32) (x3 : Int32) (a7_0 : Nat) (a8_0 : Nat) : Prop :=
  wp_F_find (fun r10 => (r10 = some a7_0 ∧ wp_F_find (fun r11 => (r11 = some a8_0 ∧ wp_Sg_hasParameter (fun r12 => (¬ r12 = 0 ∧ ((sgK u8) = (2 : Int32) ∧ wp_F_writeFilled (fun r14 v13 => (¬ r14 = 0 ∧ wp_Rd_faultOf (fun r16 v15 => (r16 = ((-1) : Int32) ∧ wp_F_keepY (fun r18 v17 => post r18 (v17.1, v13, v15, v17.2.1, v17.2.2.1, v17.2.2.2)) u0 v13 u6 v15 (sgP u7))) u5 v13 (sgK u7))) u0 u7 u8 u4 x2))) u7 x2)) u0 u6 x3)) u0 u6 x1
abbrev rm_F_init : Room := { frames := 3, cells := 18, slots := 1569, locals := 53 }
def wp_F_init (post : (FoC × RowC × RowC × RdC × SkC × ShC × RowC × RowC × MaC) → Prop) (u0 : FoBC) : Prop :=
  wp_Rw_init (fun v8 => wp_Rw_init (fun v9 => wp_Rd_init (fun v10 => wp_Sk_init (fun v11 => wp_Sh_init (fun v12 => wp_Er_init (fun v13 => wp_Er_init (fun v14 => post (fob_8 u0, v8, v9, v10, v11, v12, v13, v14, (24, fun _ => none))) ()) ()) (0, 0, 0)) (0, 0, 0)) (0, 0, 0, 0, 0)) 0 120) 0 40
abbrev rm_M_type : Room := { frames := 0, cells := 0, slots := 0, locals := 0 }
def wp_M_type (post : Int32 → (MoC × IaC) → Prop) (u0 : MoC) (u2 : IaC) (x1 : Int32) : Prop :=
  ((x1 < (33 : Int32) → post (-100) (u0, u2)) ∧ (¬ x1 < (33 : Int32) → (((126 : Int32) < x1 → post (-100) (u0, u2)) ∧ (¬ (126 : Int32) < x1 → ((¬ (moN u0) = (40 : Int32) → (vp_in (moN u0) (iaN u2) ∧ post ((moN u0) + 1) (((moN u0) + 1, moM u0, moT u0, moW u0, moG u0, moS u0, moI u0), (iaN u2, upd (iaF u2) (moN u0).toNatClampNeg x1)))) ∧ ((moN u0) = (40 : Int32) → post (-100) (u0, u2)))))))
abbrev rm_M_clear : Room := { frames := 0, cells := 0, slots := 0, locals := 0 }
def wp_M_clear (post : MoC → Prop) (u0 : MoC) : Prop :=
  post (0, moM u0, moT u0, moW u0, moG u0, moS u0, moI u0)
abbrev rm_M_at : Room := { frames := 0, cells := 0, slots := 0, locals := 0 }
def wp_M_at (post : Int32 → Prop) (u0 : MoC) (u3 : IaC) (x1 : Int32) (x2 : Int32) : Prop :=
  (vp_in ((120 * x1) + x2) (iaN u3) ∧ post ((iaF u3) ((120 * x1) + x2).toNatClampNeg))
abbrev rm_M_go : Room := { frames := 0, cells := 0, slots := 0, locals := 0 }
def wp_M_go (post : Int32 → IaC → Prop) (u0 : MoC) (u3 : IaC) (x1 : Int32) (x2 : Int32) : Prop :=
  (vp_in (moT u0) (iaN u3) ∧ post x2 (iaN u3, upd (iaF u3) (moT u0).toNatClampNeg x1))
abbrev rm_M_push : Room := { frames := 0, cells := 0, slots := 0, locals := 0 }
def wp_M_push (post : Int32 → (MoC × IaC) → Prop) (u0 : MoC) (u4 : IaC) (x1 : Int32) (x2 : Int32) (x3 : Int32) : Prop :=
  (vp_in (moT u0) (iaN u4) ∧ (vp_in ((moT u0) + 1) (iaN u4) ∧ post x3 ((moN u0, moM u0, (moT u0) + 1, moW u0, moG u0, moS u0, moI u0), (iaN u4, upd (upd (iaF u4) (moT u0).toNatClampNeg x1) ((moT u0) + 1).toNatClampNeg x2))))
abbrev rm_M_base : Room := { frames := 0, cells := 0, slots := 0, locals := 0 }
def w_M_base_48 (post : Int32 → Prop)  : Prop :=
  post 1
def wp_M_base (post : Int32 → Prop) (x0 : Int32) : Prop :=
  ((x0 = (66 : Int32) → w_M_base_48 post) ∧ (¬ x0 = (66 : Int32) → ((x0 = (67 : Int32) → w_M_base_48 post) ∧ (¬ x0 = (67 : Int32) → ((x0 = (68 : Int32) → w_M_base_48 post) ∧ (¬ x0 = (68 : Int32) → ((x0 = (70 : Int32) → w_M_base_48 post) ∧ (¬ x0 = (70 : Int32) → ((x0 = (73 : Int32) → w_M_base_48 post) ∧ (¬ x0 = (73 : Int32) → ((x0 = (74 : Int32) → w_M_base_48 post) ∧ (¬ x0 = (74 : Int32) → ((x0 = (83 : Int32) → w_M_base_48 post) ∧ (¬ x0 = (83 : Int32) → ((¬ x0 = (90 : Int32) → post 0) ∧ (x0 = (90 : Int32) → w_M_base_48 post))))))))))))))))
abbrev rm_M_pop : Room := { frames := 0, cells := 0, slots := 0, locals := 0 }
def wp_M_pop (post : Int32 → MoC → Prop) (u0 : MoC) (x1 : Int32) : Prop :=
  post x1 (moN u0, moM u0, (moT u0) - 1, moW u0, moG u0, moS u0, moI u0)
abbrev rm_M_start : Room := { frames := 1, cells := 0, slots := 0, locals := 22 }
def w_M_start_50 (post : Int32 → (MoC × IaC) → Prop) (y1 : Int32) (y2 : Int32) (w0 : MoC) (w1 : IaC) : Prop :=
  ((¬ y2 = (91 : Int32) → post 0 (w0, w1)) ∧ (y2 = (91 : Int32) → (((2 : Int32) < y1 → post 0 (w0, w1)) ∧ (¬ (2 : Int32) < y1 → wp_M_go (fun r11 v10 => post r11 (w0, v10)) w0 w1 1 3))))
def w_M_start_18 (post : Int32 → (MoC × IaC) → Prop) (y1 : Int32) (y2 : Int32) (w0 : MoC) (w1 : IaC) : Prop :=
  ((¬ y2 = (76 : Int32) → ((¬ y2 = (84 : Int32) → w_M_start_50 post y1 y2 w0 w1) ∧ (y2 = (84 : Int32) → ((y1 = (3 : Int32) → w_M_start_50 post y1 y2 w0 w1) ∧ (¬ y1 = (3 : Int32) → wp_M_go (fun r13 v12 => post r13 (w0, v12)) w0 w1 12 2))))) ∧ (y2 = (76 : Int32) → wp_M_go (fun r15 v14 => post r15 (w0, v14)) w0 w1 5 1))
def wp_M_start (post : Int32 → (MoC × IaC) → Prop) (u0 : MoC) (u3 : IaC) (x1 : Int32) (x2 : Int32) : Prop :=
  ((¬ x1 = (1 : Int32) → w_M_start_18 post x1 x2 u0 u3) ∧ (x1 = (1 : Int32) → wp_M_base (fun r16 => ((r16 = 0 → w_M_start_18 post x1 x2 u0 u3) ∧ (¬ r16 = 0 → wp_M_pop (fun r18 v17 => post r18 (v17, u3)) u0 4)))  x2))
abbrev rm_M_inner : Room := { frames := 2, cells := 0, slots := 0, locals := 44 }
def wp_M_inner (post : Int32 → (MoC × IaC) → Prop) (u0 : MoC) (u4 : IaC) (x1 : Int32) (x2 : Int32) (x3 : Int32) : Prop :=
  wp_M_push (fun r6 v5 => ((¬ r6 = (1 : Int32) → post 0 (v5.1, v5.2)) ∧ (r6 = (1 : Int32) → wp_M_start (fun r8 v7 => post r8 (v7.1, v7.2)) v5.1 v5.2 x2 x3))) u0 u4 x1 x2 1
abbrev rm_M_inArguments : Room := { frames := 3, cells := 0, slots := 0, locals := 68 }
def w_M_inArguments_44 (post : Int32 → (MoC × IaC) → Prop) (z0 : Int32) (z1 : Int32) (z2 : Int32) (w0 : MoC) (w1 : IaC) : Prop :=
  wp_M_push (fun r10 v9 => post r10 (v9.1, v9.2)) w0 w1 z2 z1 z0
def w_M_inArguments_27 (post : Int32 → (MoC × IaC) → Prop) (y2 : Int32) (w0 : MoC) (w1 : IaC) : Prop :=
  ((¬ y2 = (43 : Int32) → w_M_inArguments_44 post 12 2 11 w0 w1) ∧ (y2 = (43 : Int32) → w_M_inArguments_44 post 11 2 11 w0 w1))
def wp_M_inArguments (post : Int32 → (MoC × IaC) → Prop) (u0 : MoC) (u3 : IaC) (x1 : Int32) (x2 : Int32) : Prop :=
  ((¬ x2 = (42 : Int32) → ((x2 = (43 : Int32) → w_M_inArguments_27 post x2 u0 u3) ∧ (¬ x2 = (43 : Int32) → ((¬ x2 = (45 : Int32) → ((¬ x2 = (62 : Int32) → wp_M_inner (fun r12 v11 => post r12 (v11.1, v11.2)) u0 u3 11 2 x2) ∧ (x2 = (62 : Int32) → ((¬ x1 = (11 : Int32) → post 0 (u0, u3)) ∧ (x1 = (11 : Int32) → wp_M_pop (fun r14 v13 => post r14 (v13, u3)) u0 13))))) ∧ (x2 = (45 : Int32) → w_M_inArguments_27 post x2 u0 u3))))) ∧ (x2 = (42 : Int32) → wp_M_go (fun r16 v15 => post r16 (u0, v15)) u0 u3 11 10))
abbrev rm_M_name : Room := { frames := 0, cells := 0, slots := 0, locals := 0 }
def wp_M_name (post : Int32 → Prop) (x0 : Int32) : Prop :=
  ((x0 = (46 : Int32) → post 0) ∧ (¬ x0 = (46 : Int32) → ((x0 = (59 : Int32) → post 0) ∧ (¬ x0 = (59 : Int32) → ((x0 = (47 : Int32) → post 0) ∧ (¬ x0 = (47 : Int32) → ((x0 = (58 : Int32) → post 0) ∧ (¬ x0 = (58 : Int32) → ((x0 = (60 : Int32) → post 0) ∧ (¬ x0 = (60 : Int32) → ((x0 = (62 : Int32) → post 0) ∧ (¬ x0 = (62 : Int32) → ((x0 = (91 : Int32) → post 0) ∧ (¬ x0 = (91 : Int32) → post 1))))))))))))))
abbrev rm_M_inClass : Room := { frames := 1, cells := 0, slots := 0, locals := 23 }
def w_M_inClass_107 (post : Int32 → (MoC × IaC) → Prop) (y2 : Int32) (w0 : MoC) (w1 : IaC) : Prop :=
  ((¬ y2 = (46 : Int32) → ((¬ y2 = (59 : Int32) → post 0 (w0, w1)) ∧ (y2 = (59 : Int32) → wp_M_pop (fun r13 v12 => post r13 (v12, w1)) w0 9))) ∧ (y2 = (46 : Int32) → wp_M_go (fun r15 v14 => post r15 (w0, v14)) w0 w1 7 7))
def w_M_inClass_95 (post : Int32 → (MoC × IaC) → Prop) (y1 : Int32) (y2 : Int32) (y3 : Int32) (w0 : MoC) (w1 : IaC) : Prop :=
  ((¬ y3 = 0 → w_M_inClass_107 post y2 w0 w1) ∧ (y3 = 0 → ((y1 = (9 : Int32) → w_M_inClass_107 post y2 w0 w1) ∧ (¬ y1 = (9 : Int32) → post 0 (w0, w1)))))
def w_M_inClass_74 (post : Int32 → (MoC × IaC) → Prop) (y1 : Int32) (y2 : Int32) (y3 : Int32) (w0 : MoC) (w1 : IaC) : Prop :=
  ((¬ y2 = (60 : Int32) → w_M_inClass_95 post y1 y2 y3 w0 w1) ∧ (y2 = (60 : Int32) → ((y3 = 0 → w_M_inClass_95 post y1 y2 y3 w0 w1) ∧ (¬ y3 = 0 → wp_M_push (fun r17 v16 => post r17 (v16.1, v16.2)) w0 w1 9 10 8))))
def w_M_inClass_49 (post : Int32 → (MoC × IaC) → Prop) (z0 : Int32) (w0 : MoC) (w1 : IaC) : Prop :=
  wp_M_go (fun r19 v18 => post r19 (w0, v18)) w0 w1 z0 5
def w_M_inClass_17 (post : Int32 → (MoC × IaC) → Prop) (y1 : Int32) (y2 : Int32) (z0 : Int32) (w0 : MoC) (w1 : IaC) : Prop :=
  wp_M_name (fun r20 => ((r20 = 0 → ((¬ y2 = (47 : Int32) → w_M_inClass_74 post y1 y2 z0 w0 w1) ∧ (y2 = (47 : Int32) → ((¬ y1 = (6 : Int32) → w_M_inClass_74 post y1 y2 z0 w0 w1) ∧ (y1 = (6 : Int32) → wp_M_go (fun r22 v21 => post r22 (w0, v21)) w0 w1 5 6))))) ∧ (¬ r20 = 0 → ((¬ y1 = (9 : Int32) → (((7 : Int32) ≤ y1 → w_M_inClass_49 post 8 w0 w1) ∧ (¬ (7 : Int32) ≤ y1 → w_M_inClass_49 post 6 w0 w1))) ∧ (y1 = (9 : Int32) → post 0 (w0, w1))))))  y2
def w_M_inClass_12 (post : Int32 → (MoC × IaC) → Prop) (y1 : Int32) (y2 : Int32) (w0 : MoC) (w1 : IaC) : Prop :=
  w_M_inClass_17 post y1 y2 1 w0 w1
def wp_M_inClass (post : Int32 → (MoC × IaC) → Prop) (u0 : MoC) (u3 : IaC) (x1 : Int32) (x2 : Int32) : Prop :=
  ((x1 = (6 : Int32) → w_M_inClass_12 post x1 x2 u0 u3) ∧ (¬ x1 = (6 : Int32) → ((¬ x1 = (8 : Int32) → w_M_inClass_17 post x1 x2 0 u0 u3) ∧ (x1 = (8 : Int32) → w_M_inClass_12 post x1 x2 u0 u3))))
abbrev rm_M_alikeNames : Room := { frames := 1, cells := 0, slots := 0, locals := 22 }
def wb_M_alikeNames_16 (post : Int32 → Prop) (u0 : MoC) (u7 : IaC) (K0 : Int32 → Int32 → Int32 → Int32 → Int32 → Int32 → Prop) (y1 : Int32) (y2 : Int32) (y3 : Int32) (y4 : Int32) (y5 : Int32) (y7 : Int32) : Prop :=
  (((y3 - y2) ≤ y7 → post 1) ∧ (¬ (y3 - y2) ≤ y7 → wp_M_at (fun r3 => wp_M_at (fun r4 => ((r3 = r4 → K0 y1 y2 y3 y4 y5 (y7 + 1)) ∧ (¬ r3 = r4 → post 0))) u0 u7 y4 (y5 + y7)) u0 u7 y1 (y2 + y7)))
def w_M_alikeNames_16 (post : Int32 → Prop) (u0 : MoC) (u7 : IaC) : Nat → Int32 → Int32 → Int32 → Int32 → Int32 → Int32 → Prop
  | 0, _, _, _, _, _, _ => False
  | n + 1, y1, y2, y3, y4, y5, y7 => wb_M_alikeNames_16 post u0 u7  (w_M_alikeNames_16 post u0 u7  n) y1 y2 y3 y4 y5 y7
def wp_M_alikeNames (post : Int32 → Prop) (u0 : MoC) (u7 : IaC) (x1 : Int32) (x2 : Int32) (x3 : Int32) (x4 : Int32) (x5 : Int32) (x6 : Int32) : Prop :=
  (((x3 - x2) = (x6 - x5) → (∃ n, w_M_alikeNames_16 post u0 u7 n x1 x2 x3 x4 x5 0)) ∧ (¬ (x3 - x2) = (x6 - x5) → post 0))
abbrev rm_M_twice : Room := { frames := 2, cells := 0, slots := 0, locals := 49 }
def wb_M_twice_19 (post : Int32 → Prop) (u0 : MoC) (u2 : IaC) (u3 : IaC) (u4 : IaC) (u5 : IaC) (K0 : Int32 → Int32 → Int32 → Prop) (y1 : Int32) (y2 : Int32) (y3 : Int32) : Prop :=
  ((y2 ≤ y3 → post 0) ∧ (¬ y2 ≤ y3 → (vp_in y3 (iaN u3) ∧ (vp_in y3 (iaN u4) ∧ (vp_in y2 (iaN u3) ∧ (vp_in y2 (iaN u4) ∧ wp_M_alikeNames (fun r2 => ((r2 = 0 → K0 y1 y2 (y3 + 1)) ∧ (¬ r2 = 0 → post 1))) u0 u2 y1 ((iaF u3) y3.toNatClampNeg) ((iaF u4) y3.toNatClampNeg) y1 ((iaF u3) y2.toNatClampNeg) ((iaF u4) y2.toNatClampNeg)))))))
def w_M_twice_19 (post : Int32 → Prop) (u0 : MoC) (u2 : IaC) (u3 : IaC) (u4 : IaC) (u5 : IaC) : Nat → Int32 → Int32 → Int32 → Prop
  | 0, _, _, _ => False
  | n + 1, y1, y2, y3 => wb_M_twice_19 post u0 u2 u3 u4 u5  (w_M_twice_19 post u0 u2 u3 u4 u5  n) y1 y2 y3
def wp_M_twice (post : Int32 → Prop) (u0 : MoC) (u2 : IaC) (u3 : IaC) (u4 : IaC) (u5 : IaC) (x1 : Int32) : Prop :=
  (vp_in x1 (iaN u5) ∧ (∃ n, w_M_twice_19 post u0 u2 u3 u4 u5 n x1 (((20 * x1) + ((iaF u5) x1.toNatClampNeg)) - 1) (20 * x1)))
abbrev rm_M_inParameters : Room := { frames := 3, cells := 0, slots := 0, locals := 72 }
def w_M_inParameters_117 (post : Int32 → (MoC × IaC) → Prop) (u4 : IaC) (u5 : IaC) (u6 : IaC) (u7 : IaC) (y3 : Int32) (w0 : MoC) (w1 : IaC) : Prop :=
  wp_M_name (fun r14 => ((r14 = 0 → post 0 (w0, w1)) ∧ (¬ r14 = 0 → wp_M_go (fun r16 v15 => post r16 (w0, v15)) w0 w1 15 17)))  y3
def w_M_inParameters_108 (post : Int32 → (MoC × IaC) → Prop) (u4 : IaC) (u5 : IaC) (u6 : IaC) (u7 : IaC) (y3 : Int32) (w0 : MoC) (w1 : IaC) : Prop :=
  wp_M_inner (fun r18 v17 => post r18 (v17.1, v17.2)) w0 w1 17 2 y3
def w_M_inParameters_84 (post : Int32 → (MoC × IaC) → Prop) (u4 : IaC) (u5 : IaC) (u6 : IaC) (u7 : IaC) (y2 : Int32) (y3 : Int32) (w0 : MoC) (w1 : IaC) : Prop :=
  ((¬ y2 = (16 : Int32) → w_M_inParameters_117 post u4 u5 u6 u7 y3 w0 w1) ∧ (y2 = (16 : Int32) → ((y3 = (76 : Int32) → w_M_inParameters_108 post u4 u5 u6 u7 y3 w0 w1) ∧ (¬ y3 = (76 : Int32) → ((y3 = (84 : Int32) → w_M_inParameters_108 post u4 u5 u6 u7 y3 w0 w1) ∧ (¬ y3 = (84 : Int32) → ((¬ y3 = (91 : Int32) → w_M_inParameters_117 post u4 u5 u6 u7 y3 w0 w1) ∧ (y3 = (91 : Int32) → w_M_inParameters_108 post u4 u5 u6 u7 y3 w0 w1))))))))
def w_M_inParameters_62 (post : Int32 → (MoC × IaC) → Prop) (u4 : IaC) (u5 : IaC) (u6 : IaC) (u7 : IaC) (y2 : Int32) (y3 : Int32) (w0 : MoC) (w1 : IaC) : Prop :=
  ((y2 ≤ (15 : Int32) → w_M_inParameters_84 post u4 u5 u6 u7 y2 y3 w0 w1) ∧ (¬ y2 ≤ (15 : Int32) → ((¬ y3 = (58 : Int32) → w_M_inParameters_84 post u4 u5 u6 u7 y2 y3 w0 w1) ∧ (y3 = (58 : Int32) → wp_M_push (fun r20 v19 => post r20 (v19.1, v19.2)) w0 w1 17 2 19))))
def wp_M_inParameters (post : Int32 → (MoC × IaC) → Prop) (u0 : MoC) (u4 : IaC) (u5 : IaC) (u6 : IaC) (u7 : IaC) (u8 : IaC) (x1 : Int32) (x2 : Int32) (x3 : Int32) : Prop :=
  ((¬ x2 = (15 : Int32) → ((x2 ≤ (15 : Int32) → w_M_inParameters_62 post u4 u5 u6 u7 x2 x3 u0 u8) ∧ (¬ x2 ≤ (15 : Int32) → ((¬ x3 = (62 : Int32) → w_M_inParameters_62 post u4 u5 u6 u7 x2 x3 u0 u8) ∧ (x3 = (62 : Int32) → wp_M_pop (fun r22 v21 => post r22 (v21, u8)) u0 20))))) ∧ (x2 = (15 : Int32) → wp_M_name (fun r23 => ((r23 = 0 → ((¬ x3 = (58 : Int32) → post 0 (u0, u8)) ∧ (x3 = (58 : Int32) → wp_M_twice (fun r24 => ((¬ r24 = 0 → post 0 (u0, u8)) ∧ (r24 = 0 → wp_M_go (fun r26 v25 => post r26 (u0, v25)) u0 u8 16 18))) u0 u4 u5 u6 u7 x1))) ∧ (¬ r23 = 0 → post 17 (u0, u8))))  x3))
abbrev rm_M_step : Room := { frames := 4, cells := 0, slots := 0, locals := 95 }
def w_M_step_198 (post : Int32 → (MoC × IaC) → Prop) (u3 : IaC) (u4 : IaC) (u5 : IaC) (u6 : IaC) (y2 : Int32) (w0 : MoC) (w1 : IaC) : Prop :=
  ((¬ y2 = (76 : Int32) → post 0 (w0, w1)) ∧ (y2 = (76 : Int32) → wp_M_push (fun r61 v60 => post r61 (v60.1, v60.2)) w0 w1 22 5 1))
def wp_M_step (post : Int32 → (MoC × IaC) → Prop) (u0 : MoC) (u3 : IaC) (u4 : IaC) (u5 : IaC) (u6 : IaC) (u7 : IaC) (x1 : Int32) (x2 : Int32) : Prop :=
  (vp_in (moT u0) (iaN u7) ∧ (((4 : Int32) < ((iaF u7) (moT u0).toNatClampNeg) → (((9 : Int32) < ((iaF u7) (moT u0).toNatClampNeg) → (((11 : Int32) < ((iaF u7) (moT u0).toNatClampNeg) → (((13 : Int32) < ((iaF u7) (moT u0).toNatClampNeg) → (((17 : Int32) < ((iaF u7) (moT u0).toNatClampNeg) → ((((iaF u7) (moT u0).toNatClampNeg) = 20 → ((¬ x2 = (60 : Int32) → ((¬ x2 = (76 : Int32) → post 0 (u0, u7)) ∧ (x2 = (76 : Int32) → wp_M_push (fun r63 v62 => post r63 (v62.1, v62.2)) u0 u7 22 5 1))) ∧ (x2 = (60 : Int32) → wp_M_push (fun r65 v64 => post r65 (v64.1, v64.2)) u0 u7 21 14 16))) ∧ (((iaF u7) (moT u0).toNatClampNeg) = 21 ∨ ((iaF u7) (moT u0).toNatClampNeg) = 22 → w_M_step_198 post u3 u4 u5 u6 x2 u0 u7) ∧ (((iaF u7) (moT u0).toNatClampNeg) = 23 → ((¬ x2 = (60 : Int32) → ((¬ x2 = (40 : Int32) → post 0 (u0, u7)) ∧ (x2 = (40 : Int32) → wp_M_go (fun r67 v66 => post r67 (u0, v66)) u0 u7 25 21))) ∧ (x2 = (60 : Int32) → wp_M_push (fun r69 v68 => post r69 (v68.1, v68.2)) u0 u7 24 14 16))) ∧ (((iaF u7) (moT u0).toNatClampNeg) = 24 → ((¬ x2 = (40 : Int32) → post 0 (u0, u7)) ∧ (x2 = (40 : Int32) → wp_M_go (fun r71 v70 => post r71 (u0, v70)) u0 u7 25 21))) ∧ (((iaF u7) (moT u0).toNatClampNeg) = 25 → ((¬ x2 = (41 : Int32) → wp_M_inner (fun r73 v72 => post r73 (v72.1, v72.2)) u0 u7 25 1 x2) ∧ (x2 = (41 : Int32) → wp_M_go (fun r75 v74 => post r75 (u0, v74)) u0 u7 26 22))) ∧ (((iaF u7) (moT u0).toNatClampNeg) = 26 → ((¬ x2 = (86 : Int32) → wp_M_inner (fun r77 v76 => post r77 (v76.1, v76.2)) u0 u7 27 1 x2) ∧ (x2 = (86 : Int32) → wp_M_go (fun r79 v78 => post r79 (u0, v78)) u0 u7 27 23))) ∧ (((iaF u7) (moT u0).toNatClampNeg) = 27 → ((¬ x2 = (94 : Int32) → post 0 (u0, u7)) ∧ (x2 = (94 : Int32) → wp_M_push (fun r81 v80 => post r81 (v80.1, v80.2)) u0 u7 27 4 24))) ∧ (((iaF u7) (moT u0).toNatClampNeg) = 28 → wp_M_inner (fun r83 v82 => post r83 (v82.1, v82.2)) u0 u7 29 2 x2) ∧ (¬ ((iaF u7) (moT u0).toNatClampNeg) = 20 ∧ ¬ ((iaF u7) (moT u0).toNatClampNeg) = 21 ∧ ¬ ((iaF u7) (moT u0).toNatClampNeg) = 22 ∧ ¬ ((iaF u7) (moT u0).toNatClampNeg) = 23 ∧ ¬ ((iaF u7) (moT u0).toNatClampNeg) = 24 ∧ ¬ ((iaF u7) (moT u0).toNatClampNeg) = 25 ∧ ¬ ((iaF u7) (moT u0).toNatClampNeg) = 26 ∧ ¬ ((iaF u7) (moT u0).toNatClampNeg) = 27 ∧ ¬ ((iaF u7) (moT u0).toNatClampNeg) = 28 → post 0 (u0, u7)))) ∧ (¬ (17 : Int32) < ((iaF u7) (moT u0).toNatClampNeg) → wp_M_inParameters (fun r107 v106 => post r107 (v106.1, v106.2)) u0 u3 u4 u5 u6 u7 x1 ((iaF u7) (moT u0).toNatClampNeg) x2))) ∧ (¬ (13 : Int32) < ((iaF u7) (moT u0).toNatClampNeg) → wp_M_name (fun r108 => ((r108 = 0 → ((¬ ((iaF u7) (moT u0).toNatClampNeg) = (13 : Int32) → post 0 (u0, u7)) ∧ (((iaF u7) (moT u0).toNatClampNeg) = (13 : Int32) → ((¬ x2 = (59 : Int32) → post 0 (u0, u7)) ∧ (x2 = (59 : Int32) → wp_M_pop (fun r110 v109 => post r110 (v109, u7)) u0 15))))) ∧ (¬ r108 = 0 → wp_M_go (fun r112 v111 => post r112 (u0, v111)) u0 u7 13 14)))  x2))) ∧ (¬ (11 : Int32) < ((iaF u7) (moT u0).toNatClampNeg) → wp_M_inArguments (fun r114 v113 => post r114 (v113.1, v113.2)) u0 u7 ((iaF u7) (moT u0).toNatClampNeg) x2))) ∧ (¬ (9 : Int32) < ((iaF u7) (moT u0).toNatClampNeg) → wp_M_inClass (fun r116 v115 => post r116 (v115.1, v115.2)) u0 u7 ((iaF u7) (moT u0).toNatClampNeg) x2))) ∧ (¬ (4 : Int32) < ((iaF u7) (moT u0).toNatClampNeg) → wp_M_start (fun r118 v117 => post r118 (v117.1, v117.2)) u0 u7 ((iaF u7) (moT u0).toNatClampNeg) x2)))
abbrev rm_M_judge : Room := { frames := 5, cells := 0, slots := 0, locals := 118 }
def w_M_judge_337 (post : Int32 → (MoC × IaC × IaC × IaC × IaC × IaC × IaC × IaC) → Prop) (u2 : IaC) (u4 : IaC) (u5 : IaC) (y1 : Int32) (w0 : MoC) (w1 : IaC) (w2 : IaC) (w3 : IaC) (w4 : IaC) (w5 : IaC) (w6 : IaC) (w7 : IaC) : Prop :=
  (vp_in y1 (iaN u4) ∧ post ((iaF u4) y1.toNatClampNeg) (w0, w1, w2, w3, w4, w5, w6, w7))
def w_M_judge_333 (post : Int32 → (MoC × IaC × IaC × IaC × IaC × IaC × IaC × IaC) → Prop) (u2 : IaC) (u4 : IaC) (u5 : IaC) (w0 : MoC) (w1 : IaC) (w2 : IaC) (w3 : IaC) (w4 : IaC) (w5 : IaC) (w6 : IaC) (w7 : IaC) : Prop :=
  post (-1) (w0, w1, w2, w3, w4, w5, w6, w7)
def w_M_judge_287 (post : Int32 → (MoC × IaC × IaC × IaC × IaC × IaC × IaC × IaC) → Prop) (u2 : IaC) (u4 : IaC) (u5 : IaC) (K0 : Int32 → Int32 → MoC → IaC → IaC → IaC → IaC → IaC → IaC → IaC → Prop) (y1 : Int32) (y2 : Int32) (w0 : MoC) (w1 : IaC) (w2 : IaC) (w3 : IaC) (w4 : IaC) (w5 : IaC) (w6 : IaC) (w7 : IaC) : Prop :=
  K0 y1 (y2 + 1) w0 w1 w2 w3 w4 w5 w6 w7
def w_M_judge_274 (post : Int32 → (MoC × IaC × IaC × IaC × IaC × IaC × IaC × IaC) → Prop) (u2 : IaC) (u4 : IaC) (u5 : IaC) (K0 : Int32 → Int32 → MoC → IaC → IaC → IaC → IaC → IaC → IaC → IaC → Prop) (y1 : Int32) (y2 : Int32) (y6 : Int32) (w0 : MoC) (w1 : IaC) (w2 : IaC) (w3 : IaC) (w4 : IaC) (w5 : IaC) (w6 : IaC) (w7 : IaC) : Prop :=
  (vp_in (y6 - 1) (iaN w5) ∧ (vp_in (y6 - 1) (iaN w5) ∧ w_M_judge_287 post u2 u4 u5 K0 y1 y2 w0 w1 w2 w3 w4 (iaN w5, upd (iaF w5) (y6 - 1).toNatClampNeg (((iaF w5) (y6 - 1).toNatClampNeg) + 1)) w6 w7))
def w_M_judge_242 (post : Int32 → (MoC × IaC × IaC × IaC × IaC × IaC × IaC × IaC) → Prop) (u2 : IaC) (u4 : IaC) (u5 : IaC) (K0 : Int32 → Int32 → MoC → IaC → IaC → IaC → IaC → IaC → IaC → IaC → Prop) (y1 : Int32) (y2 : Int32) (y6 : Int32) (z0 : Int32) (w0 : MoC) (w1 : IaC) (w2 : IaC) (w3 : IaC) (w4 : IaC) (w5 : IaC) (w6 : IaC) (w7 : IaC) : Prop :=
  ((¬ z0 = 0 → (vp_in (y6 - 1) (iaN w4) ∧ ((0 ≤ ((iaF w4) (y6 - 1).toNatClampNeg) → w_M_judge_274 post u2 u4 u5 K0 y1 y2 y6 w0 w1 w2 w3 w4 w5 w6 w7) ∧ (¬ 0 ≤ ((iaF w4) (y6 - 1).toNatClampNeg) → (vp_in (y6 - 1) (iaN w4) ∧ w_M_judge_274 post u2 u4 u5 K0 y1 y2 y6 w0 w1 w2 w3 (iaN w4, upd (iaF w4) (y6 - 1).toNatClampNeg y2) w5 w6 w7))))) ∧ (z0 = 0 → w_M_judge_287 post u2 u4 u5 K0 y1 y2 w0 w1 w2 w3 w4 w5 w6 w7))
def w_M_judge_241 (post : Int32 → (MoC × IaC × IaC × IaC × IaC × IaC × IaC × IaC) → Prop) (u2 : IaC) (u4 : IaC) (u5 : IaC) (K0 : Int32 → Int32 → MoC → IaC → IaC → IaC → IaC → IaC → IaC → IaC → Prop) (y1 : Int32) (y2 : Int32) (y6 : Int32) (w0 : MoC) (w1 : IaC) (w2 : IaC) (w3 : IaC) (w4 : IaC) (w5 : IaC) (w6 : IaC) (w7 : IaC) : Prop :=
  w_M_judge_242 post u2 u4 u5 K0 y1 y2 y6 0 w0 w1 w2 w3 w4 w5 w6 w7
def w_M_judge_237 (post : Int32 → (MoC × IaC × IaC × IaC × IaC × IaC × IaC × IaC) → Prop) (u2 : IaC) (u4 : IaC) (u5 : IaC) (K0 : Int32 → Int32 → MoC → IaC → IaC → IaC → IaC → IaC → IaC → IaC → Prop) (y1 : Int32) (y2 : Int32) (y6 : Int32) (w0 : MoC) (w1 : IaC) (w2 : IaC) (w3 : IaC) (w4 : IaC) (w5 : IaC) (w6 : IaC) (w7 : IaC) : Prop :=
  w_M_judge_242 post u2 u4 u5 K0 y1 y2 y6 1 w0 w1 w2 w3 w4 w5 w6 w7
def w_M_judge_204 (post : Int32 → (MoC × IaC × IaC × IaC × IaC × IaC × IaC × IaC) → Prop) (u2 : IaC) (u4 : IaC) (u5 : IaC) (K0 : Int32 → Int32 → MoC → IaC → IaC → IaC → IaC → IaC → IaC → IaC → Prop) (y1 : Int32) (y2 : Int32) (y3 : Int32) (y4 : Int32) (y6 : Int32) (w0 : MoC) (w1 : IaC) (w2 : IaC) (w3 : IaC) (w4 : IaC) (w5 : IaC) (w6 : IaC) (w7 : IaC) : Prop :=
  ((¬ y4 = (2 : Int32) → w_M_judge_241 post u2 u4 u5 K0 y1 y2 y6 w0 w1 w2 w3 w4 w5 w6 w7) ∧ (y4 = (2 : Int32) → ((¬ y3 = (2 : Int32) → w_M_judge_241 post u2 u4 u5 K0 y1 y2 y6 w0 w1 w2 w3 w4 w5 w6 w7) ∧ (y3 = (2 : Int32) → ((y2 ≤ 0 → w_M_judge_241 post u2 u4 u5 K0 y1 y2 y6 w0 w1 w2 w3 w4 w5 w6 w7) ∧ (¬ y2 ≤ 0 → (vp_in (((120 * y1) + y2) - 1) (iaN w1) ∧ ((¬ ((iaF w1) (((120 * y1) + y2) - 1).toNatClampNeg) = (19 : Int32) → w_M_judge_241 post u2 u4 u5 K0 y1 y2 y6 w0 w1 w2 w3 w4 w5 w6 w7) ∧ (((iaF w1) (((120 * y1) + y2) - 1).toNatClampNeg) = (19 : Int32) → w_M_judge_237 post u2 u4 u5 K0 y1 y2 y6 w0 w1 w2 w3 w4 w5 w6 w7)))))))))
def w_M_judge_186 (post : Int32 → (MoC × IaC × IaC × IaC × IaC × IaC × IaC × IaC) → Prop) (u2 : IaC) (u4 : IaC) (u5 : IaC) (K0 : Int32 → Int32 → MoC → IaC → IaC → IaC → IaC → IaC → IaC → IaC → Prop) (y1 : Int32) (y2 : Int32) (y3 : Int32) (y4 : Int32) (y5 : Int32) (y6 : Int32) (w0 : MoC) (w1 : IaC) (w2 : IaC) (w3 : IaC) (w4 : IaC) (w5 : IaC) (w6 : IaC) (w7 : IaC) : Prop :=
  (((3 : Int32) < y5 → w_M_judge_241 post u2 u4 u5 K0 y1 y2 y6 w0 w1 w2 w3 w4 w5 w6 w7) ∧ (¬ (3 : Int32) < y5 → ((¬ y4 = (16 : Int32) → w_M_judge_204 post u2 u4 u5 K0 y1 y2 y3 y4 y6 w0 w1 w2 w3 w4 w5 w6 w7) ∧ (y4 = (16 : Int32) → ((y3 = (1 : Int32) → w_M_judge_237 post u2 u4 u5 K0 y1 y2 y6 w0 w1 w2 w3 w4 w5 w6 w7) ∧ (¬ y3 = (1 : Int32) → w_M_judge_204 post u2 u4 u5 K0 y1 y2 y3 y4 y6 w0 w1 w2 w3 w4 w5 w6 w7))))))
def w_M_judge_174 (post : Int32 → (MoC × IaC × IaC × IaC × IaC × IaC × IaC × IaC) → Prop) (u2 : IaC) (u4 : IaC) (u5 : IaC) (K0 : Int32 → Int32 → MoC → IaC → IaC → IaC → IaC → IaC → IaC → IaC → Prop) (y1 : Int32) (y2 : Int32) (y3 : Int32) (y4 : Int32) (y5 : Int32) (y6 : Int32) (w0 : MoC) (w1 : IaC) (w2 : IaC) (w3 : IaC) (w4 : IaC) (w5 : IaC) (w6 : IaC) (w7 : IaC) : Prop :=
  (vp_in (y6 - 1) (iaN w3) ∧ w_M_judge_186 post u2 u4 u5 K0 y1 y2 y3 y4 y5 y6 w0 w1 w2 (iaN w3, upd (iaF w3) (y6 - 1).toNatClampNeg (y2 + 1)) w4 w5 w6 w7)
def wb_M_judge_51 (post : Int32 → (MoC × IaC × IaC × IaC × IaC × IaC × IaC × IaC) → Prop) (u2 : IaC) (u4 : IaC) (u5 : IaC) (K0 : Int32 → Int32 → MoC → IaC → IaC → IaC → IaC → IaC → IaC → IaC → Prop) (y1 : Int32) (y2 : Int32) (w0 : MoC) (w1 : IaC) (w2 : IaC) (w3 : IaC) (w4 : IaC) (w5 : IaC) (w6 : IaC) (w7 : IaC) : Prop :=
  (vp_in y1 (iaN u4) ∧ ((((iaF u4) y1.toNatClampNeg) ≤ y2 → ((¬ (moT w0) = 0 → w_M_judge_337 post u2 u4 u5 y1 w0 w1 w2 w3 w4 w5 w6 w7) ∧ ((moT w0) = 0 → (vp_in 0 (iaN w7) ∧ ((((iaF w7) (0 : Int32).toNatClampNeg) = (22 : Int32) → w_M_judge_333 post u2 u4 u5 w0 w1 w2 w3 w4 w5 w6 w7) ∧ (¬ ((iaF w7) (0 : Int32).toNatClampNeg) = (22 : Int32) → (vp_in 0 (iaN w7) ∧ ((((iaF w7) (0 : Int32).toNatClampNeg) = (27 : Int32) → w_M_judge_333 post u2 u4 u5 w0 w1 w2 w3 w4 w5 w6 w7) ∧ (¬ ((iaF w7) (0 : Int32).toNatClampNeg) = (27 : Int32) → (vp_in 0 (iaN w7) ∧ ((¬ ((iaF w7) (0 : Int32).toNatClampNeg) = (29 : Int32) → w_M_judge_337 post u2 u4 u5 y1 w0 w1 w2 w3 w4 w5 w6 w7) ∧ (((iaF w7) (0 : Int32).toNatClampNeg) = (29 : Int32) → w_M_judge_333 post u2 u4 u5 w0 w1 w2 w3 w4 w5 w6 w7)))))))))))) ∧ (¬ ((iaF u4) y1.toNatClampNeg) ≤ y2 → (vp_in (moT w0) (iaN w7) ∧ wp_M_at (fun r4 => wp_M_step (fun r6 v5 => ((¬ r6 = 0 → (vp_in ((120 * y1) + y2) (iaN w1) ∧ (vp_in y1 (iaN w6) ∧ ((¬ r6 = (17 : Int32) → w_M_judge_186 post u2 u4 u5 K0 y1 y2 (moT w0) ((iaF w7) (moT w0).toNatClampNeg) r6 ((20 * y1) + ((iaF w6) y1.toNatClampNeg)) v5.1 (iaN w1, upd (iaF w1) ((120 * y1) + y2).toNatClampNeg r6) w2 w3 w4 w5 w6 v5.2) ∧ (r6 = (17 : Int32) → ((((iaF w7) (moT w0).toNatClampNeg) = (15 : Int32) → w_M_judge_174 post u2 u4 u5 K0 y1 y2 (moT w0) ((iaF w7) (moT w0).toNatClampNeg) r6 ((20 * y1) + ((iaF w6) y1.toNatClampNeg)) v5.1 (iaN w1, upd (iaF w1) ((120 * y1) + y2).toNatClampNeg r6) w2 w3 w4 w5 w6 v5.2) ∧ (¬ ((iaF w7) (moT w0).toNatClampNeg) = (15 : Int32) → (vp_in ((20 * y1) + ((iaF w6) y1.toNatClampNeg)) (iaN w2) ∧ (vp_in ((20 * y1) + ((iaF w6) y1.toNatClampNeg)) (iaN w4) ∧ (vp_in ((20 * y1) + ((iaF w6) y1.toNatClampNeg)) (iaN w5) ∧ (vp_in y1 (iaN w6) ∧ (vp_in y1 (iaN w6) ∧ w_M_judge_174 post u2 u4 u5 K0 y1 y2 (moT w0) ((iaF w7) (moT w0).toNatClampNeg) r6 (((20 * y1) + ((iaF w6) y1.toNatClampNeg)) + 1) v5.1 (iaN w1, upd (iaF w1) ((120 * y1) + y2).toNatClampNeg r6) (iaN w2, upd (iaF w2) ((20 * y1) + ((iaF w6) y1.toNatClampNeg)).toNatClampNeg y2) w3 (iaN w4, upd (iaF w4) ((20 * y1) + ((iaF w6) y1.toNatClampNeg)).toNatClampNeg (-1)) (iaN w5, upd (iaF w5) ((20 * y1) + ((iaF w6) y1.toNatClampNeg)).toNatClampNeg 0) (iaN w6, upd (iaF w6) y1.toNatClampNeg (((iaF w6) y1.toNatClampNeg) + 1)) v5.2)))))))))))) ∧ (r6 = 0 → post y2 (v5.1, w1, w2, w3, w4, w5, w6, v5.2)))) w0 u2 w2 w3 w6 w7 y1 r4) w0 u2 y1 y2))))
def w_M_judge_51 (post : Int32 → (MoC × IaC × IaC × IaC × IaC × IaC × IaC × IaC) → Prop) (u2 : IaC) (u4 : IaC) (u5 : IaC) : Nat → Int32 → Int32 → MoC → IaC → IaC → IaC → IaC → IaC → IaC → IaC → Prop
  | 0, _, _, _, _, _, _, _, _, _, _ => False
  | n + 1, y1, y2, w0, w1, w2, w3, w4, w5, w6, w7 => wb_M_judge_51 post u2 u4 u5  (w_M_judge_51 post u2 u4 u5  n) y1 y2 w0 w1 w2 w3 w4 w5 w6 w7
def w_M_judge_41 (post : Int32 → (MoC × IaC × IaC × IaC × IaC × IaC × IaC × IaC) → Prop) (u2 : IaC) (u4 : IaC) (u5 : IaC) (y1 : Int32) (z0 : Int32) (z1 : Int32) (w0 : MoC) (w1 : IaC) (w2 : IaC) (w3 : IaC) (w4 : IaC) (w5 : IaC) (w6 : IaC) (w7 : IaC) : Prop :=
  (vp_in z1 (iaN w7) ∧ (vp_in y1 (iaN w6) ∧ (∃ n, w_M_judge_51 post u2 u4 u5 n y1 0 w0 w1 w2 w3 w4 w5 (iaN w6, upd (iaF w6) y1.toNatClampNeg 0) (iaN w7, upd (iaF w7) z1.toNatClampNeg z0))))
def wp_M_judge (post : Int32 → (MoC × IaC × IaC × IaC × IaC × IaC × IaC × IaC) → Prop) (u0 : MoC) (u2 : IaC) (u3 : IaC) (u4 : IaC) (u5 : IaC) (u6 : IaC) (u7 : IaC) (u8 : IaC) (u9 : IaC) (u10 : IaC) (u11 : IaC) (x1 : Int32) : Prop :=
  (vp_in x1 (iaN u5) ∧ ((¬ ((iaF u5) x1.toNatClampNeg) = 0 → (vp_in x1 (iaN u5) ∧ ((¬ ((iaF u5) x1.toNatClampNeg) = (1 : Int32) → w_M_judge_41 post u2 u4 u5 x1 28 0 (moN u0, moM u0, 0, moW u0, moG u0, moS u0, moI u0) u3 u6 u7 u8 u9 u10 u11) ∧ (((iaF u5) x1.toNatClampNeg) = (1 : Int32) → w_M_judge_41 post u2 u4 u5 x1 23 0 (moN u0, moM u0, 0, moW u0, moG u0, moS u0, moI u0) u3 u6 u7 u8 u9 u10 u11)))) ∧ (((iaF u5) x1.toNatClampNeg) = 0 → w_M_judge_41 post u2 u4 u5 x1 20 0 (moN u0, moM u0, 0, moW u0, moG u0, moS u0, moI u0) u3 u6 u7 u8 u9 u10 u11)))
abbrev rm_M_read : Room := { frames := 6, cells := 0, slots := 0, locals := 145 }
def wb_M_read_37 (post : Int32 → (MoC × IaC × IaC × IaC × IaC × IaC × IaC × IaC × IaC × IaC × IaC × IaC) → Prop) (u2 : IaC) (K0 : Int32 → MoC → IaC → IaC → IaC → IaC → IaC → IaC → IaC → IaC → IaC → IaC → IaC → Prop) (y2 : Int32) (w0 : MoC) (w1 : IaC) (w2 : IaC) (w3 : IaC) (w4 : IaC) (w5 : IaC) (w6 : IaC) (w7 : IaC) (w8 : IaC) (w9 : IaC) (w10 : IaC) (w11 : IaC) : Prop :=
  (((moN w0) ≤ y2 → wp_M_judge (fun r4 v3 => ((r4 < 0 → ((¬ (moM v3.1) = (24 : Int32) → (vp_in (moM v3.1) (iaN w5) ∧ post (((moM v3.1) + 1) - 1) ((0, (moM v3.1) + 1, moT v3.1, moW v3.1, moG v3.1, moS v3.1, moI v3.1), w1, v3.2.1, w3, w4, (iaN w5, upd (iaF w5) (moM v3.1).toNatClampNeg (-1)), v3.2.2.1, v3.2.2.2.1, v3.2.2.2.2.1, v3.2.2.2.2.2.1, v3.2.2.2.2.2.2.1, v3.2.2.2.2.2.2.2))) ∧ ((moM v3.1) = (24 : Int32) → post (-100) (v3.1, w1, v3.2.1, w3, w4, w5, v3.2.2.1, v3.2.2.2.1, v3.2.2.2.2.1, v3.2.2.2.2.2.1, v3.2.2.2.2.2.2.1, v3.2.2.2.2.2.2.2)))) ∧ (¬ r4 < 0 → post ((-1) - r4) (v3.1, w1, v3.2.1, w3, w4, w5, v3.2.2.1, v3.2.2.2.1, v3.2.2.2.2.1, v3.2.2.2.2.2.1, v3.2.2.2.2.2.2.1, v3.2.2.2.2.2.2.2)))) w0 w1 w2 w3 w4 w6 w7 w8 w9 w10 w11 (moM w0)) ∧ (¬ (moN w0) ≤ y2 → (vp_in y2 (iaN u2) ∧ (vp_in ((120 * (moM w0)) + y2) (iaN w1) ∧ K0 (y2 + 1) w0 (iaN w1, upd (iaF w1) ((120 * (moM w0)) + y2).toNatClampNeg ((iaF u2) y2.toNatClampNeg)) w2 w3 w4 w5 w6 w7 w8 w9 w10 w11))))
def w_M_read_37 (post : Int32 → (MoC × IaC × IaC × IaC × IaC × IaC × IaC × IaC × IaC × IaC × IaC × IaC) → Prop) (u2 : IaC) : Nat → Int32 → MoC → IaC → IaC → IaC → IaC → IaC → IaC → IaC → IaC → IaC → IaC → IaC → Prop
  | 0, _, _, _, _, _, _, _, _, _, _, _, _, _ => False
  | n + 1, y2, w0, w1, w2, w3, w4, w5, w6, w7, w8, w9, w10, w11 => wb_M_read_37 post u2  (w_M_read_37 post u2  n) y2 w0 w1 w2 w3 w4 w5 w6 w7 w8 w9 w10 w11
def wp_M_read (post : Int32 → (MoC × IaC × IaC × IaC × IaC × IaC × IaC × IaC × IaC × IaC × IaC × IaC) → Prop) (u0 : MoC) (u2 : IaC) (u3 : IaC) (u4 : IaC) (u5 : IaC) (u6 : IaC) (u7 : IaC) (u8 : IaC) (u9 : IaC) (u10 : IaC) (u11 : IaC) (u12 : IaC) (u13 : IaC) (x1 : Int32) : Prop :=
  ((x1 < 0 → post (-100) (u0, u3, u4, u5, u6, u7, u8, u9, u10, u11, u12, u13)) ∧ (¬ x1 < 0 → ((x1 ≤ (2 : Int32) → (vp_in (moM u0) (iaN u6) ∧ (vp_in (moM u0) (iaN u5) ∧ (∃ n, w_M_read_37 post u2 n 0 u0 u3 u4 (iaN u5, upd (iaF u5) (moM u0).toNatClampNeg (moN u0)) (iaN u6, upd (iaF u6) (moM u0).toNatClampNeg x1) u7 u8 u9 u10 u11 u12 u13)))) ∧ (¬ x1 ≤ (2 : Int32) → post (-100) (u0, u3, u4, u5, u6, u7, u8, u9, u10, u11, u12, u13)))))
abbrev rm_M_no : Room := { frames := 0, cells := 0, slots := 0, locals := 0 }
def w_M_no_12 (post : Int32 → Prop) (u0 : MoC)  : Prop :=
  post 1
def wp_M_no (post : Int32 → Prop) (u0 : MoC) (x1 : Int32) : Prop :=
  ((x1 < 0 → w_M_no_12 post u0) ∧ (¬ x1 < 0 → ((x1 < (moM u0) → post 0) ∧ (¬ x1 < (moM u0) → w_M_no_12 post u0))))
abbrev rm_M_scope : Room := { frames := 1, cells := 0, slots := 0, locals := 21 }
def w_M_scope_38 (post : Int32 → IaC → Prop) (u0 : MoC) (u3 : IaC) (y1 : Int32) (y2 : Int32) (w0 : IaC) : Prop :=
  (vp_in y1 (iaN w0) ∧ (vp_in y1 (iaN w0) ∧ post ((iaF w0) y1.toNatClampNeg) (iaN w0, upd (iaF w0) y1.toNatClampNeg y2)))
def wp_M_scope (post : Int32 → IaC → Prop) (u0 : MoC) (u3 : IaC) (u4 : IaC) (x1 : Int32) (x2 : Int32) : Prop :=
  wp_M_no (fun r3 => ((¬ r3 = 0 → post (-100) u4) ∧ (r3 = 0 → ((x2 = ((-1) : Int32) → w_M_scope_38 post u0 u3 x1 x2 u4) ∧ (¬ x2 = ((-1) : Int32) → wp_M_no (fun r4 => ((¬ r4 = 0 → post (-100) u4) ∧ (r4 = 0 → (vp_in x2 (iaN u3) ∧ ((¬ ((iaF u3) x2.toNatClampNeg) = 0 → post (-100) u4) ∧ (((iaF u3) x2.toNatClampNeg) = 0 → ((¬ x2 = x1 → w_M_scope_38 post u0 u3 x1 x2 u4) ∧ (x2 = x1 → post (-100) u4)))))))) u0 x2))))) u0 x1
abbrev rm_M_kind : Room := { frames := 1, cells := 0, slots := 0, locals := 21 }
def wp_M_kind (post : Int32 → Prop) (u0 : MoC) (u2 : IaC) (x1 : Int32) : Prop :=
  wp_M_no (fun r2 => ((r2 = 0 → (vp_in x1 (iaN u2) ∧ post ((iaF u2) x1.toNatClampNeg))) ∧ (¬ r2 = 0 → post (-100)))) u0 x1
abbrev rm_M_roleAt : Room := { frames := 0, cells := 0, slots := 0, locals := 0 }
def w_M_roleAt_14 (post : Int32 → Prop) (u0 : MoC) (u3 : IaC) (u4 : IaC)  : Prop :=
  post 0
def wp_M_roleAt (post : Int32 → Prop) (u0 : MoC) (u3 : IaC) (u4 : IaC) (x1 : Int32) (x2 : Int32) : Prop :=
  ((x2 < 0 → w_M_roleAt_14 post u0 u3 u4) ∧ (¬ x2 < 0 → (vp_in x1 (iaN u4) ∧ ((x2 < ((iaF u4) x1.toNatClampNeg) → (vp_in ((120 * x1) + x2) (iaN u3) ∧ post ((iaF u3) ((120 * x1) + x2).toNatClampNeg))) ∧ (¬ x2 < ((iaF u4) x1.toNatClampNeg) → w_M_roleAt_14 post u0 u3 u4)))))
abbrev rm_M_nameEnd : Room := { frames := 1, cells := 0, slots := 0, locals := 22 }
def wb_M_nameEnd_2 (post : Int32 → Prop) (u0 : MoC) (u3 : IaC) (u4 : IaC) (K0 : Int32 → Int32 → Prop) (y1 : Int32) (y3 : Int32) : Prop :=
  wp_M_roleAt (fun r2 => ((¬ r2 = (14 : Int32) → post y3) ∧ (r2 = (14 : Int32) → K0 y1 (y3 + 1)))) u0 u3 u4 y1 y3
def w_M_nameEnd_2 (post : Int32 → Prop) (u0 : MoC) (u3 : IaC) (u4 : IaC) : Nat → Int32 → Int32 → Prop
  | 0, _, _ => False
  | n + 1, y1, y3 => wb_M_nameEnd_2 post u0 u3 u4  (w_M_nameEnd_2 post u0 u3 u4  n) y1 y3
def wp_M_nameEnd (post : Int32 → Prop) (u0 : MoC) (u3 : IaC) (u4 : IaC) (x1 : Int32) (x2 : Int32) : Prop :=
  (∃ n, w_M_nameEnd_2 post u0 u3 u4 n x1 x2)
abbrev rm_M_behind : Room := { frames := 2, cells := 0, slots := 0, locals := 45 }
def w_M_behind_122 (post : Int32 → Prop) (u0 : MoC) (u3 : IaC) (u4 : IaC) (K1 : Int32 → Int32 → Int32 → Prop) (y1 : Int32) (y4 : Int32) (y5 : Int32) : Prop :=
  K1 y1 y4 (y5 + 1)
def w_M_behind_100 (post : Int32 → Prop) (u0 : MoC) (u3 : IaC) (u4 : IaC) (K1 : Int32 → Int32 → Int32 → Prop) (y1 : Int32) (y4 : Int32) (y5 : Int32) : Prop :=
  wp_M_roleAt (fun r8 => ((¬ r8 = (9 : Int32) → w_M_behind_122 post u0 u3 u4 K1 y1 y4 y5) ∧ (r8 = (9 : Int32) → ((¬ y4 = 0 → w_M_behind_122 post u0 u3 u4 K1 y1 y4 y5) ∧ (y4 = 0 → post (y5 + 1)))))) u0 u3 u4 y1 y5
def w_M_behind_85 (post : Int32 → Prop) (u0 : MoC) (u3 : IaC) (u4 : IaC) (K1 : Int32 → Int32 → Int32 → Prop) (y1 : Int32) (y4 : Int32) (y5 : Int32) : Prop :=
  wp_M_roleAt (fun r9 => ((¬ r9 = (13 : Int32) → w_M_behind_100 post u0 u3 u4 K1 y1 y4 y5) ∧ (r9 = (13 : Int32) → w_M_behind_100 post u0 u3 u4 K1 y1 (y4 + (-1)) y5))) u0 u3 u4 y1 y5
def wb_M_behind_59 (post : Int32 → Prop) (u0 : MoC) (u3 : IaC) (u4 : IaC) (K1 : Int32 → Int32 → Int32 → Prop) (y1 : Int32) (y4 : Int32) (y5 : Int32) : Prop :=
  (vp_in y1 (iaN u4) ∧ ((((iaF u4) y1.toNatClampNeg) ≤ y5 → (vp_in y1 (iaN u4) ∧ post ((iaF u4) y1.toNatClampNeg))) ∧ (¬ ((iaF u4) y1.toNatClampNeg) ≤ y5 → wp_M_roleAt (fun r10 => ((¬ r10 = (8 : Int32) → w_M_behind_85 post u0 u3 u4 K1 y1 y4 y5) ∧ (r10 = (8 : Int32) → w_M_behind_85 post u0 u3 u4 K1 y1 (y4 + 1) y5))) u0 u3 u4 y1 y5)))
def w_M_behind_59 (post : Int32 → Prop) (u0 : MoC) (u3 : IaC) (u4 : IaC) : Nat → Int32 → Int32 → Int32 → Prop
  | 0, _, _, _ => False
  | n + 1, y1, y4, y5 => wb_M_behind_59 post u0 u3 u4  (w_M_behind_59 post u0 u3 u4  n) y1 y4 y5
def wb_M_behind_2 (post : Int32 → Prop) (u0 : MoC) (u3 : IaC) (u4 : IaC) (K0 : Int32 → Int32 → Prop) (y1 : Int32) (y3 : Int32) : Prop :=
  wp_M_roleAt (fun r11 => ((¬ r11 = (3 : Int32) → wp_M_roleAt (fun r12 => ((¬ r12 = (4 : Int32) → wp_M_roleAt (fun r13 => ((¬ r13 = (2 : Int32) → (∃ n, w_M_behind_59 post u0 u3 u4 n y1 0 y3)) ∧ (r13 = (2 : Int32) → wp_M_nameEnd (fun r14 => post (r14 + 1)) u0 u3 u4 y1 (y3 + 1)))) u0 u3 u4 y1 y3) ∧ (r12 = (4 : Int32) → post (y3 + 1)))) u0 u3 u4 y1 y3) ∧ (r11 = (3 : Int32) → K0 y1 (y3 + 1)))) u0 u3 u4 y1 y3
def w_M_behind_2 (post : Int32 → Prop) (u0 : MoC) (u3 : IaC) (u4 : IaC) : Nat → Int32 → Int32 → Prop
  | 0, _, _ => False
  | n + 1, y1, y3 => wb_M_behind_2 post u0 u3 u4  (w_M_behind_2 post u0 u3 u4  n) y1 y3
def wp_M_behind (post : Int32 → Prop) (u0 : MoC) (u3 : IaC) (u4 : IaC) (x1 : Int32) (x2 : Int32) : Prop :=
  (∃ n, w_M_behind_2 post u0 u3 u4 n x1 x2)
abbrev rm_M_bodyStart : Room := { frames := 1, cells := 0, slots := 0, locals := 22 }
def w_M_bodyStart_28 (post : Int32 → Prop) (u0 : MoC) (u2 : IaC) (u3 : IaC) (u4 : IaC) (y1 : Int32) (y2 : Int32) : Prop :=
  (vp_in y1 (iaN u4) ∧ ((((iaF u4) y1.toNatClampNeg) ≤ 0 → post 0) ∧ (¬ ((iaF u4) y1.toNatClampNeg) ≤ 0 → post (y2 + 1))))
def wb_M_bodyStart_11 (post : Int32 → Prop) (u0 : MoC) (u2 : IaC) (u3 : IaC) (u4 : IaC) (K0 : Int32 → Int32 → Prop) (y1 : Int32) (y2 : Int32) : Prop :=
  wp_M_roleAt (fun r2 => ((r2 = (20 : Int32) → w_M_bodyStart_28 post u0 u2 u3 u4 y1 y2) ∧ (¬ r2 = (20 : Int32) → K0 y1 (y2 + 1)))) u0 u2 u3 y1 y2
def w_M_bodyStart_11 (post : Int32 → Prop) (u0 : MoC) (u2 : IaC) (u3 : IaC) (u4 : IaC) : Nat → Int32 → Int32 → Prop
  | 0, _, _ => False
  | n + 1, y1, y2 => wb_M_bodyStart_11 post u0 u2 u3 u4  (w_M_bodyStart_11 post u0 u2 u3 u4  n) y1 y2
def wp_M_bodyStart (post : Int32 → Prop) (u0 : MoC) (u2 : IaC) (u3 : IaC) (u4 : IaC) (x1 : Int32) : Prop :=
  (vp_in x1 (iaN u4) ∧ ((((iaF u4) x1.toNatClampNeg) ≤ 0 → w_M_bodyStart_28 post u0 u2 u3 u4 x1 0) ∧ (¬ ((iaF u4) x1.toNatClampNeg) ≤ 0 → (∃ n, w_M_bodyStart_11 post u0 u2 u3 u4 n x1 0))))
abbrev rm_M_put : Room := { frames := 0, cells := 0, slots := 0, locals := 0 }
def wp_M_put (post : (MoC × IaC) → Prop) (u0 : MoC) (u2 : IaC) (x1 : Int32) : Prop :=
  (vp_in (moW u0) (iaN u2) ∧ post ((moN u0, moM u0, moT u0, (moW u0) + 1, moG u0, moS u0, moI u0), (iaN u2, upd (iaF u2) (moW u0).toNatClampNeg x1)))
abbrev rm_M_param : Room := { frames := 2, cells := 0, slots := 0, locals := 49 }
def wb_M_param_22 (post : Int32 → Prop) (u0 : MoC) (u4 : IaC) (u5 : IaC) (u6 : IaC) (u7 : IaC) (u8 : IaC) (u9 : IaC) (K0 : Int32 → Int32 → Int32 → Int32 → Int32 → Prop) (y1 : Int32) (y2 : Int32) (y3 : Int32) (y4 : Int32) (y5 : Int32) : Prop :=
  (vp_in y1 (iaN u9) ∧ ((((20 * y1) + ((iaF u9) y1.toNatClampNeg)) ≤ y5 → post (-1)) ∧ (¬ ((20 * y1) + ((iaF u9) y1.toNatClampNeg)) ≤ y5 → (vp_in y5 (iaN u7) ∧ (vp_in y5 (iaN u8) ∧ wp_M_alikeNames (fun r3 => ((r3 = 0 → K0 y1 y2 y3 y4 (y5 + 1)) ∧ (¬ r3 = 0 → post y5))) u0 u4 y1 ((iaF u7) y5.toNatClampNeg) ((iaF u8) y5.toNatClampNeg) y2 (y3 + 1) y4)))))
def w_M_param_22 (post : Int32 → Prop) (u0 : MoC) (u4 : IaC) (u5 : IaC) (u6 : IaC) (u7 : IaC) (u8 : IaC) (u9 : IaC) : Nat → Int32 → Int32 → Int32 → Int32 → Int32 → Prop
  | 0, _, _, _, _, _ => False
  | n + 1, y1, y2, y3, y4, y5 => wb_M_param_22 post u0 u4 u5 u6 u7 u8 u9  (w_M_param_22 post u0 u4 u5 u6 u7 u8 u9  n) y1 y2 y3 y4 y5
def wp_M_param (post : Int32 → Prop) (u0 : MoC) (u4 : IaC) (u5 : IaC) (u6 : IaC) (u7 : IaC) (u8 : IaC) (u9 : IaC) (x1 : Int32) (x2 : Int32) (x3 : Int32) : Prop :=
  ((0 ≤ x1 → wp_M_nameEnd (fun r4 => (∃ n, w_M_param_22 post u0 u4 u5 u6 u7 u8 u9 n x1 x2 x3 r4 (20 * x1))) u0 u5 u6 x2 (x3 + 1)) ∧ (¬ 0 ≤ x1 → post (-1)))
abbrev rm_M_word : Room := { frames := 1, cells := 0, slots := 0, locals := 21 }
def wb_M_word_21 (post : (MoC × IaC) → Prop) (K1 : Int64 → Int64 → MoC → IaC → Prop) (y1 : Int64) (y3 : Int64) (w0 : MoC) (w1 : IaC) : Prop :=
  (((lg_cmp y3 0) ≤ 0 → post (w0, w1)) ∧ (¬ (lg_cmp y3 0) ≤ 0 → (¬ y3 = 0 ∧ wp_M_put (fun v2 => K1 y1 (y3 / (128 : Int64)) v2.1 v2.2) w0 w1 (((y1 / y3) - (y1 / y3) / (128 : Int64) * (128 : Int64)).toInt32))))
def w_M_word_21 (post : (MoC × IaC) → Prop) : Nat → Int64 → Int64 → MoC → IaC → Prop
  | 0, _, _, _, _ => False
  | n + 1, y1, y3, w0, w1 => wb_M_word_21 post   (w_M_word_21 post   n) y1 y3 w0 w1
def wb_M_word_2 (post : (MoC × IaC) → Prop) (K0 : Int64 → Int64 → MoC → IaC → Prop) (y1 : Int64) (y3 : Int64) (w0 : MoC) (w1 : IaC) : Prop :=
  (¬ y3 = 0 ∧ (((lg_cmp (y1 / y3) 128) < 0 → (∃ n, w_M_word_21 post n y1 y3 w0 w1)) ∧ (¬ (lg_cmp (y1 / y3) 128) < 0 → K0 y1 (y3 * 128) w0 w1)))
def w_M_word_2 (post : (MoC × IaC) → Prop) : Nat → Int64 → Int64 → MoC → IaC → Prop
  | 0, _, _, _, _ => False
  | n + 1, y1, y3, w0, w1 => wb_M_word_2 post   (w_M_word_2 post   n) y1 y3 w0 w1
def wp_M_word (post : (MoC × IaC) → Prop) (u0 : MoC) (u2 : IaC) (x1 : Int64) : Prop :=
  (∃ n, w_M_word_2 post n x1 1 u0 u2)
abbrev rm_M_resolve : Room := { frames := 3, cells := 0, slots := 0, locals := 74 }
def w_M_resolve_156 (post : Int32 → (MoC × IaC × ZaC) → Prop) (u1 : IaC) (u2 : IaC) (u3 : IaC) (u4 : IaC) (u5 : IaC) (u6 : IaC) (u7 : IaC) (u8 : IaC) (w0 : MoC) (w1 : IaC) (w2 : ZaC) : Prop :=
  wp_M_word (fun v10 => wp_M_word (fun v11 => wp_M_word (fun v12 => post 0 (v12.1, v12.2, w2)) v11.1 v11.2 14907) v10.1 v10.2 62379129988362979) w0 w1 43253754164409953
def w_M_resolve_134 (post : Int32 → (MoC × IaC × ZaC) → Prop) (u1 : IaC) (u2 : IaC) (u3 : IaC) (u4 : IaC) (u5 : IaC) (u6 : IaC) (u7 : IaC) (u8 : IaC) (K0 : MoC → IaC → ZaC → Prop) (y1 : Int32) (y2 : Int32) (w0 : MoC) (w1 : IaC) (w2 : ZaC) : Prop :=
  ((y2 < 0 → w_M_resolve_156 post u1 u2 u3 u4 u5 u6 u7 u8 w0 w1 w2) ∧ (¬ y2 < 0 → (vp_in y2 (zaN w2) ∧ ((¬ ((zaF w2) y2.toNatClampNeg) = 0 → w_M_resolve_156 post u1 u2 u3 u4 u5 u6 u7 u8 w0 w1 w2) ∧ (((zaF w2) y2.toNatClampNeg) = 0 → (vp_in y2 (iaN u7) ∧ ((0 ≤ ((iaF u7) y2.toNatClampNeg) → (vp_in y2 (zaN w2) ∧ (vp_in y2 (iaN u7) ∧ K0 (moN w0, moM w0, moT w0, moW w0, y1, (iaF u7) y2.toNatClampNeg, moI w0) w1 (zaN w2, upd (zaF w2) y2.toNatClampNeg (vp_nar .boolean 1))))) ∧ (¬ 0 ≤ ((iaF u7) y2.toNatClampNeg) → w_M_resolve_156 post u1 u2 u3 u4 u5 u6 u7 u8 w0 w1 w2))))))))
def w_M_resolve_131 (post : Int32 → (MoC × IaC × ZaC) → Prop) (u1 : IaC) (u2 : IaC) (u3 : IaC) (u4 : IaC) (u5 : IaC) (u6 : IaC) (u7 : IaC) (u8 : IaC) (K0 : MoC → IaC → ZaC → Prop) (y1 : Int32) (y2 : Int32) (z0 : Int32) (w0 : MoC) (w1 : IaC) (w2 : ZaC) : Prop :=
  ((narrow .boolean (.int z0) = .int z0 ∧ fits .boolean (.int z0) = true) ∧ w_M_resolve_134 post u1 u2 u3 u4 u5 u6 u7 u8 K0 y1 y2 (moN w0, moM w0, moT w0, moW w0, moG w0, moS w0, z0) w1 w2)
def w_M_resolve_32 (post : Int32 → (MoC × IaC × ZaC) → Prop) (u1 : IaC) (u2 : IaC) (u3 : IaC) (u4 : IaC) (u5 : IaC) (u6 : IaC) (u7 : IaC) (u8 : IaC) (K0 : MoC → IaC → ZaC → Prop) (w0 : MoC) (w1 : IaC) (w2 : ZaC) : Prop :=
  wp_M_roleAt (fun r13 => ((¬ r13 = (3 : Int32) → wp_M_param (fun r14 => ((0 ≤ r14 → w_M_resolve_134 post u1 u2 u3 u4 u5 u6 u7 u8 K0 (moG w0) r14 w0 w1 w2) ∧ (¬ 0 ≤ r14 → ((¬ (moI w0) = 0 → w_M_resolve_134 post u1 u2 u3 u4 u5 u6 u7 u8 K0 (moG w0) r14 w0 w1 w2) ∧ ((moI w0) = 0 → (vp_in (moG w0) (iaN u4) ∧ wp_M_param (fun r15 => ((r15 < 0 → w_M_resolve_131 post u1 u2 u3 u4 u5 u6 u7 u8 K0 ((iaF u4) (moG w0).toNatClampNeg) r15 0 w0 w1 w2) ∧ (¬ r15 < 0 → w_M_resolve_131 post u1 u2 u3 u4 u5 u6 u7 u8 K0 ((iaF u4) (moG w0).toNatClampNeg) r15 1 w0 w1 w2))) w0 u1 u2 u3 u5 u6 u8 ((iaF u4) (moG w0).toNatClampNeg) (moG w0) (moS w0))))))) w0 u1 u2 u3 u5 u6 u8 (moG w0) (moG w0) (moS w0)) ∧ (r13 = (3 : Int32) → wp_M_put (fun v16 => K0 (moN v16.1, moM v16.1, moT v16.1, moW v16.1, moG v16.1, (moS v16.1) + 1, moI v16.1) v16.2 w2) w0 w1 91))) w0 u2 u3 (moG w0) (moS w0)
def wb_M_resolve_0 (post : Int32 → (MoC × IaC × ZaC) → Prop) (u1 : IaC) (u2 : IaC) (u3 : IaC) (u4 : IaC) (u5 : IaC) (u6 : IaC) (u7 : IaC) (u8 : IaC) (K0 : MoC → IaC → ZaC → Prop) (w0 : MoC) (w1 : IaC) (w2 : ZaC) : Prop :=
  wp_M_roleAt (fun r17 => ((r17 = (2 : Int32) → w_M_resolve_32 post u1 u2 u3 u4 u5 u6 u7 u8 K0 w0 w1 w2) ∧ (¬ r17 = (2 : Int32) → wp_M_roleAt (fun r18 => ((¬ r18 = (3 : Int32) → post 1 (w0, w1, w2)) ∧ (r18 = (3 : Int32) → w_M_resolve_32 post u1 u2 u3 u4 u5 u6 u7 u8 K0 w0 w1 w2))) w0 u2 u3 (moG w0) (moS w0)))) w0 u2 u3 (moG w0) (moS w0)
def w_M_resolve_0 (post : Int32 → (MoC × IaC × ZaC) → Prop) (u1 : IaC) (u2 : IaC) (u3 : IaC) (u4 : IaC) (u5 : IaC) (u6 : IaC) (u7 : IaC) (u8 : IaC) : Nat → MoC → IaC → ZaC → Prop
  | 0, _, _, _ => False
  | n + 1, w0, w1, w2 => wb_M_resolve_0 post u1 u2 u3 u4 u5 u6 u7 u8  (w_M_resolve_0 post u1 u2 u3 u4 u5 u6 u7 u8  n) w0 w1 w2
def wp_M_resolve (post : Int32 → (MoC × IaC × ZaC) → Prop) (u0 : MoC) (u1 : IaC) (u2 : IaC) (u3 : IaC) (u4 : IaC) (u5 : IaC) (u6 : IaC) (u7 : IaC) (u8 : IaC) (u9 : IaC) (u10 : ZaC) : Prop :=
  (∃ n, w_M_resolve_0 post u1 u2 u3 u4 u5 u6 u7 u8 n u0 u9 u10)
abbrev rm_M_erase : Room := { frames := 4, cells := 0, slots := 0, locals := 96 }
def w_M_erase_207 (post : (MoC × IaC × ZaC) → Prop) (u3 : IaC) (u4 : IaC) (u5 : IaC) (u6 : IaC) (u7 : IaC) (u8 : IaC) (u9 : IaC) (u10 : IaC) (K1 : Int32 → Int32 → MoC → IaC → ZaC → Prop) (y3 : Int32) (y4 : Int32) (w0 : MoC) (w1 : IaC) (w2 : ZaC) : Prop :=
  K1 y3 (y4 + 1) w0 w1 w2
def w_M_erase_195 (post : (MoC × IaC × ZaC) → Prop) (u3 : IaC) (u4 : IaC) (u5 : IaC) (u6 : IaC) (u7 : IaC) (u8 : IaC) (u9 : IaC) (u10 : IaC) (K1 : Int32 → Int32 → MoC → IaC → ZaC → Prop) (y3 : Int32) (y4 : Int32) (y5 : Int32) (w0 : MoC) (w1 : IaC) (w2 : ZaC) : Prop :=
  ((¬ y5 = (9 : Int32) → w_M_erase_207 post u3 u4 u5 u6 u7 u8 u9 u10 K1 y3 y4 w0 w1 w2) ∧ (y5 = (9 : Int32) → ((¬ y3 = 0 → w_M_erase_207 post u3 u4 u5 u6 u7 u8 u9 u10 K1 y3 y4 w0 w1 w2) ∧ (y3 = 0 → post (w0, w1, w2)))))
def w_M_erase_185 (post : (MoC × IaC × ZaC) → Prop) (u3 : IaC) (u4 : IaC) (u5 : IaC) (u6 : IaC) (u7 : IaC) (u8 : IaC) (u9 : IaC) (u10 : IaC) (K1 : Int32 → Int32 → MoC → IaC → ZaC → Prop) (y3 : Int32) (y4 : Int32) (y5 : Int32) (w0 : MoC) (w1 : IaC) (w2 : ZaC) : Prop :=
  ((¬ y5 = (13 : Int32) → w_M_erase_195 post u3 u4 u5 u6 u7 u8 u9 u10 K1 y3 y4 y5 w0 w1 w2) ∧ (y5 = (13 : Int32) → w_M_erase_195 post u3 u4 u5 u6 u7 u8 u9 u10 K1 (y3 + (-1)) y4 y5 w0 w1 w2))
def w_M_erase_175 (post : (MoC × IaC × ZaC) → Prop) (u3 : IaC) (u4 : IaC) (u5 : IaC) (u6 : IaC) (u7 : IaC) (u8 : IaC) (u9 : IaC) (u10 : IaC) (K1 : Int32 → Int32 → MoC → IaC → ZaC → Prop) (y3 : Int32) (y4 : Int32) (y5 : Int32) (w0 : MoC) (w1 : IaC) (w2 : ZaC) : Prop :=
  ((¬ y5 = (8 : Int32) → w_M_erase_185 post u3 u4 u5 u6 u7 u8 u9 u10 K1 y3 y4 y5 w0 w1 w2) ∧ (y5 = (8 : Int32) → w_M_erase_185 post u3 u4 u5 u6 u7 u8 u9 u10 K1 (y3 + 1) y4 y5 w0 w1 w2))
def w_M_erase_172 (post : (MoC × IaC × ZaC) → Prop) (u3 : IaC) (u4 : IaC) (u5 : IaC) (u6 : IaC) (u7 : IaC) (u8 : IaC) (u9 : IaC) (u10 : IaC) (K1 : Int32 → Int32 → MoC → IaC → ZaC → Prop) (y3 : Int32) (y4 : Int32) (y5 : Int32) (z0 : Int32) (w0 : MoC) (w1 : IaC) (w2 : ZaC) : Prop :=
  wp_M_put (fun v9 => w_M_erase_175 post u3 u4 u5 u6 u7 u8 u9 u10 K1 y3 y4 y5 v9.1 v9.2 w2) w0 w1 z0
def w_M_erase_149 (post : (MoC × IaC × ZaC) → Prop) (u3 : IaC) (u4 : IaC) (u5 : IaC) (u6 : IaC) (u7 : IaC) (u8 : IaC) (u9 : IaC) (u10 : IaC) (K1 : Int32 → Int32 → MoC → IaC → ZaC → Prop) (y3 : Int32) (y4 : Int32) (y5 : Int32) (w0 : MoC) (w1 : IaC) (w2 : ZaC) : Prop :=
  ((¬ y5 = (7 : Int32) → wp_M_at (fun r10 => w_M_erase_172 post u3 u4 u5 u6 u7 u8 u9 u10 K1 y3 y4 y5 r10 w0 w1 w2) w0 u3 (moG w0) y4) ∧ (y5 = (7 : Int32) → w_M_erase_172 post u3 u4 u5 u6 u7 u8 u9 u10 K1 y3 y4 y5 36 w0 w1 w2))
def wb_M_erase_86 (post : (MoC × IaC × ZaC) → Prop) (u3 : IaC) (u4 : IaC) (u5 : IaC) (u6 : IaC) (u7 : IaC) (u8 : IaC) (u9 : IaC) (u10 : IaC) (K1 : Int32 → Int32 → MoC → IaC → ZaC → Prop) (y3 : Int32) (y4 : Int32) (w0 : MoC) (w1 : IaC) (w2 : ZaC) : Prop :=
  (vp_in (moG w0) (iaN u5) ∧ ((((iaF u5) (moG w0).toNatClampNeg) ≤ y4 → post (w0, w1, w2)) ∧ (¬ ((iaF u5) (moG w0).toNatClampNeg) ≤ y4 → wp_M_roleAt (fun r11 => ((¬ y3 = 0 → w_M_erase_175 post u3 u4 u5 u6 u7 u8 u9 u10 K1 y3 y4 r11 w0 w1 w2) ∧ (y3 = 0 → ((r11 = (1 : Int32) → w_M_erase_149 post u3 u4 u5 u6 u7 u8 u9 u10 K1 y3 y4 r11 w0 w1 w2) ∧ (¬ r11 = (1 : Int32) → ((r11 = (5 : Int32) → w_M_erase_149 post u3 u4 u5 u6 u7 u8 u9 u10 K1 y3 y4 r11 w0 w1 w2) ∧ (¬ r11 = (5 : Int32) → ((r11 = (6 : Int32) → w_M_erase_149 post u3 u4 u5 u6 u7 u8 u9 u10 K1 y3 y4 r11 w0 w1 w2) ∧ (¬ r11 = (6 : Int32) → ((r11 = (7 : Int32) → w_M_erase_149 post u3 u4 u5 u6 u7 u8 u9 u10 K1 y3 y4 r11 w0 w1 w2) ∧ (¬ r11 = (7 : Int32) → ((¬ r11 = (9 : Int32) → w_M_erase_175 post u3 u4 u5 u6 u7 u8 u9 u10 K1 y3 y4 r11 w0 w1 w2) ∧ (r11 = (9 : Int32) → w_M_erase_149 post u3 u4 u5 u6 u7 u8 u9 u10 K1 y3 y4 r11 w0 w1 w2))))))))))))) w0 u4 u5 (moG w0) y4)))
def w_M_erase_86 (post : (MoC × IaC × ZaC) → Prop) (u3 : IaC) (u4 : IaC) (u5 : IaC) (u6 : IaC) (u7 : IaC) (u8 : IaC) (u9 : IaC) (u10 : IaC) : Nat → Int32 → Int32 → MoC → IaC → ZaC → Prop
  | 0, _, _, _, _, _ => False
  | n + 1, y3, y4, w0, w1, w2 => wb_M_erase_86 post u3 u4 u5 u6 u7 u8 u9 u10  (w_M_erase_86 post u3 u4 u5 u6 u7 u8 u9 u10  n) y3 y4 w0 w1 w2
def wb_M_erase_2 (post : (MoC × IaC × ZaC) → Prop) (u3 : IaC) (u4 : IaC) (u5 : IaC) (u6 : IaC) (u7 : IaC) (u8 : IaC) (u9 : IaC) (u10 : IaC) (K0 : Int32 → Int32 → Int32 → MoC → IaC → ZaC → Prop) (y1 : Int32) (y2 : Int32) (y3 : Int32) (w0 : MoC) (w1 : IaC) (w2 : ZaC) : Prop :=
  (((500 : Int32) ≤ y3 → wp_M_resolve (fun r13 v12 => ((¬ r13 = 0 → wp_M_roleAt (fun r14 => ((r14 = (1 : Int32) → (∃ n, w_M_erase_86 post u3 u4 u5 u6 u7 u8 u9 u10 n 0 (moS v12.1) v12.1 v12.2.1 v12.2.2)) ∧ (¬ r14 = (1 : Int32) → wp_M_at (fun r15 => wp_M_put (fun v16 => post (v16.1, v16.2, v12.2.2)) v12.1 v12.2.1 r15) v12.1 u3 (moG v12.1) (moS v12.1)))) v12.1 u4 u5 (moG v12.1) (moS v12.1)) ∧ (r13 = 0 → post (v12.1, v12.2.1, v12.2.2)))) (moN w0, moM w0, moT w0, moW w0, y1, y2, 0) u3 u4 u5 u6 u7 u8 u9 u10 w1 w2) ∧ (¬ (500 : Int32) ≤ y3 → (vp_in y3 (zaN w2) ∧ K0 y1 y2 (y3 + 1) w0 w1 (zaN w2, upd (zaF w2) y3.toNatClampNeg (vp_nar .boolean 0)))))
def w_M_erase_2 (post : (MoC × IaC × ZaC) → Prop) (u3 : IaC) (u4 : IaC) (u5 : IaC) (u6 : IaC) (u7 : IaC) (u8 : IaC) (u9 : IaC) (u10 : IaC) : Nat → Int32 → Int32 → Int32 → MoC → IaC → ZaC → Prop
  | 0, _, _, _, _, _, _ => False
  | n + 1, y1, y2, y3, w0, w1, w2 => wb_M_erase_2 post u3 u4 u5 u6 u7 u8 u9 u10  (w_M_erase_2 post u3 u4 u5 u6 u7 u8 u9 u10  n) y1 y2 y3 w0 w1 w2
def wp_M_erase (post : (MoC × IaC × ZaC) → Prop) (u0 : MoC) (u3 : IaC) (u4 : IaC) (u5 : IaC) (u6 : IaC) (u7 : IaC) (u8 : IaC) (u9 : IaC) (u10 : IaC) (u11 : IaC) (u12 : ZaC) (x1 : Int32) (x2 : Int32) : Prop :=
  (∃ n, w_M_erase_2 post u3 u4 u5 u6 u7 u8 u9 u10 n x1 x2 0 u0 u11 u12)
abbrev rm_M_eraseAll : Room := { frames := 5, cells := 0, slots := 0, locals := 121 }
def w_M_eraseAll_43 (post : (MoC × IaC × ZaC) → Prop) (u3 : IaC) (u4 : IaC) (u5 : IaC) (u6 : IaC) (u7 : IaC) (u8 : IaC) (u9 : IaC) (u10 : IaC) (K0 : Int32 → Int32 → Int32 → MoC → IaC → ZaC → Prop) (y1 : Int32) (y2 : Int32) (y3 : Int32) (y4 : Int32) (w0 : MoC) (w1 : IaC) (w2 : ZaC) : Prop :=
  ((y4 < (21 : Int32) → wp_M_erase (fun v7 => wp_M_behind (fun r8 => K0 y1 y2 r8 v7.1 v7.2.1 v7.2.2) v7.1 u4 u5 y1 y3) w0 u3 u4 u5 u6 u7 u8 u9 u10 w1 w2 y1 y3) ∧ (¬ y4 < (21 : Int32) → wp_M_at (fun r9 => wp_M_put (fun v10 => K0 y1 y2 (y3 + 1) v10.1 v10.2 w2) w0 w1 r9) w0 u3 y1 y3))
def wb_M_eraseAll_6 (post : (MoC × IaC × ZaC) → Prop) (u3 : IaC) (u4 : IaC) (u5 : IaC) (u6 : IaC) (u7 : IaC) (u8 : IaC) (u9 : IaC) (u10 : IaC) (K0 : Int32 → Int32 → Int32 → MoC → IaC → ZaC → Prop) (y1 : Int32) (y2 : Int32) (y3 : Int32) (w0 : MoC) (w1 : IaC) (w2 : ZaC) : Prop :=
  (vp_in y1 (iaN u5) ∧ ((((iaF u5) y1.toNatClampNeg) ≤ y3 → post (w0, w1, w2)) ∧ (¬ ((iaF u5) y1.toNatClampNeg) ≤ y3 → wp_M_roleAt (fun r11 => ((r11 = (24 : Int32) → post (w0, w1, w2)) ∧ (¬ r11 = (24 : Int32) → ((y2 = 0 → w_M_eraseAll_43 post u3 u4 u5 u6 u7 u8 u9 u10 K0 y1 y2 y3 r11 w0 w1 w2) ∧ (¬ y2 = 0 → ((¬ r11 = (22 : Int32) → w_M_eraseAll_43 post u3 u4 u5 u6 u7 u8 u9 u10 K0 y1 y2 y3 r11 w0 w1 w2) ∧ (r11 = (22 : Int32) → post (w0, w1, w2)))))))) w0 u4 u5 y1 y3)))
def w_M_eraseAll_6 (post : (MoC × IaC × ZaC) → Prop) (u3 : IaC) (u4 : IaC) (u5 : IaC) (u6 : IaC) (u7 : IaC) (u8 : IaC) (u9 : IaC) (u10 : IaC) : Nat → Int32 → Int32 → Int32 → MoC → IaC → ZaC → Prop
  | 0, _, _, _, _, _, _ => False
  | n + 1, y1, y2, y3, w0, w1, w2 => wb_M_eraseAll_6 post u3 u4 u5 u6 u7 u8 u9 u10  (w_M_eraseAll_6 post u3 u4 u5 u6 u7 u8 u9 u10  n) y1 y2 y3 w0 w1 w2
def wp_M_eraseAll (post : (MoC × IaC × ZaC) → Prop) (u0 : MoC) (u3 : IaC) (u4 : IaC) (u5 : IaC) (u6 : IaC) (u7 : IaC) (u8 : IaC) (u9 : IaC) (u10 : IaC) (u11 : IaC) (u12 : ZaC) (x1 : Int32) (x2 : Int32) : Prop :=
  wp_M_bodyStart (fun r12 => (∃ n, w_M_eraseAll_6 post u3 u4 u5 u6 u7 u8 u9 u10 n x1 x2 r12 u0 u11 u12)) u0 u4 u5 u10 x1
abbrev rm_M_baseWord : Room := { frames := 0, cells := 0, slots := 0, locals := 0 }
def wp_M_baseWord (post : Int64 → Prop) (x0 : Int32) : Prop :=
  ((x0 = 66 → post 207518309) ∧ (x0 = 67 → post 209334514) ∧ (x0 = 68 → post 3466017158757) ∧ (x0 = 70 → post 27608740084) ∧ (x0 = 73 → post 1734516) ∧ (x0 = 74 → post 228325223) ∧ (x0 = 83 → post 31090014580) ∧ (¬ x0 = 66 ∧ ¬ x0 = 67 ∧ ¬ x0 = 68 ∧ ¬ x0 = 70 ∧ ¬ x0 = 73 ∧ ¬ x0 = 74 ∧ ¬ x0 = 83 → post 434852513542382))
abbrev rm_M_brackets : Room := { frames := 1, cells := 0, slots := 0, locals := 21 }
def wb_M_brackets_2 (post : (MoC × IaC) → Prop) (K0 : Int32 → Int32 → MoC → IaC → Prop) (y1 : Int32) (y2 : Int32) (w0 : MoC) (w1 : IaC) : Prop :=
  ((y1 ≤ y2 → post (w0, w1)) ∧ (¬ y1 ≤ y2 → wp_M_put (fun v3 => wp_M_put (fun v4 => K0 y1 (y2 + 1) v4.1 v4.2) v3.1 v3.2 93) w0 w1 91))
def w_M_brackets_2 (post : (MoC × IaC) → Prop) : Nat → Int32 → Int32 → MoC → IaC → Prop
  | 0, _, _, _, _ => False
  | n + 1, y1, y2, w0, w1 => wb_M_brackets_2 post   (w_M_brackets_2 post   n) y1 y2 w0 w1
def wp_M_brackets (post : (MoC × IaC) → Prop) (u0 : MoC) (u2 : IaC) (x1 : Int32) : Prop :=
  (∃ n, w_M_brackets_2 post n x1 0 u0 u2)
abbrev rm_M_part : Room := { frames := 1, cells := 0, slots := 0, locals := 22 }
def w_M_part_99 (post : (MoC × IaC) → Prop) (u5 : IaC) (u6 : IaC) (u7 : IaC) (w0 : MoC) (w1 : IaC) : Prop :=
  wp_M_put (fun v5 => post (v5.1, v5.2)) w0 w1 44
def w_M_part_122 (post : (MoC × IaC) → Prop) (u5 : IaC) (u6 : IaC) (u7 : IaC) (z0 : Int32) (w0 : MoC) (w1 : IaC) : Prop :=
  wp_M_put (fun v6 => post (v6.1, v6.2)) w0 w1 z0
def w_M_part_85 (post : (MoC × IaC) → Prop) (u5 : IaC) (u6 : IaC) (u7 : IaC) (y1 : Int32) (y3 : Int32) (y4 : Int32) (w0 : MoC) (w1 : IaC) : Prop :=
  ((0 < y3 → w_M_part_99 post u5 u6 u7 w0 w1) ∧ (¬ 0 < y3 → (vp_in y1 (iaN u7) ∧ ((¬ ((iaF u7) y1.toNatClampNeg) = (1 : Int32) → ((¬ y4 = (1 : Int32) → w_M_part_122 post u5 u6 u7 44 w0 w1) ∧ (y4 = (1 : Int32) → w_M_part_122 post u5 u6 u7 58 w0 w1))) ∧ (((iaF u7) y1.toNatClampNeg) = (1 : Int32) → w_M_part_99 post u5 u6 u7 w0 w1)))))
def w_M_part_50 (post : (MoC × IaC) → Prop) (u5 : IaC) (u6 : IaC) (u7 : IaC) (y1 : Int32) (y3 : Int32) (y4 : Int32) (y5 : Int32) (z0 : Int32) (w0 : MoC) (w1 : IaC) : Prop :=
  ((z0 = 0 → post (w0, w1)) ∧ (¬ z0 = 0 → ((y5 ≤ (4 : Int32) → w_M_part_85 post u5 u6 u7 y1 y3 y4 w0 w1) ∧ (¬ y5 ≤ (4 : Int32) → ((y5 = (10 : Int32) → w_M_part_85 post u5 u6 u7 y1 y3 y4 w0 w1) ∧ (¬ y5 = (10 : Int32) → ((y5 = (11 : Int32) → w_M_part_85 post u5 u6 u7 y1 y3 y4 w0 w1) ∧ (¬ y5 = (11 : Int32) → ((y5 = (12 : Int32) → w_M_part_85 post u5 u6 u7 y1 y3 y4 w0 w1) ∧ (¬ y5 = (12 : Int32) → post (w0, w1)))))))))))
def w_M_part_45 (post : (MoC × IaC) → Prop) (u5 : IaC) (u6 : IaC) (u7 : IaC) (y1 : Int32) (y3 : Int32) (y4 : Int32) (y5 : Int32) (w0 : MoC) (w1 : IaC) : Prop :=
  w_M_part_50 post u5 u6 u7 y1 y3 y4 y5 1 w0 w1
def wp_M_part (post : (MoC × IaC) → Prop) (u0 : MoC) (u5 : IaC) (u6 : IaC) (u7 : IaC) (u8 : IaC) (x1 : Int32) (x2 : Int32) (x3 : Int32) (x4 : Int32) : Prop :=
  wp_M_roleAt (fun r7 => wp_M_roleAt (fun r8 => ((r8 = (9 : Int32) → w_M_part_45 post u5 u6 u7 x1 x3 x4 r7 u0 u8) ∧ (¬ r8 = (9 : Int32) → ((r8 = (15 : Int32) → w_M_part_45 post u5 u6 u7 x1 x3 x4 r7 u0 u8) ∧ (¬ r8 = (15 : Int32) → ((r8 = (4 : Int32) → w_M_part_45 post u5 u6 u7 x1 x3 x4 r7 u0 u8) ∧ (¬ r8 = (4 : Int32) → ((¬ r8 = (10 : Int32) → w_M_part_50 post u5 u6 u7 x1 x3 x4 r7 0 u0 u8) ∧ (r8 = (10 : Int32) → w_M_part_45 post u5 u6 u7 x1 x3 x4 r7 u0 u8))))))))) u0 u5 u6 x1 (x2 - 1)) u0 u5 u6 x1 x2
abbrev rm_M_show : Room := { frames := 2, cells := 0, slots := 0, locals := 49 }
def w_M_show_555 (post : (MoC × IaC × IaC) → Prop) (u2 : IaC) (u3 : IaC) (u4 : IaC) (u5 : IaC) (u6 : IaC) (K0 : Int32 → Int32 → Int32 → Int32 → Int32 → Int32 → Int32 → MoC → IaC → IaC → Prop) (y1 : Int32) (y2 : Int32) (y3 : Int32) (y4 : Int32) (y5 : Int32) (y6 : Int32) (y7 : Int32) (w0 : MoC) (w1 : IaC) (w2 : IaC) : Prop :=
  K0 y1 y2 y3 y4 y5 y6 (y7 + 1) w0 w1 w2
def w_M_show_215 (post : (MoC × IaC × IaC) → Prop) (u2 : IaC) (u3 : IaC) (u4 : IaC) (u5 : IaC) (u6 : IaC) (K0 : Int32 → Int32 → Int32 → Int32 → Int32 → Int32 → Int32 → MoC → IaC → IaC → Prop) (y1 : Int32) (y2 : Int32) (y3 : Int32) (y5 : Int32) (y6 : Int32) (y7 : Int32) (y10 : Int32) (w0 : MoC) (w1 : IaC) (w2 : IaC) : Prop :=
  wp_M_brackets (fun v23 => w_M_show_555 post u2 u3 u4 u5 u6 K0 y1 y2 y3 0 y5 y6 y7 v23.1 w1 v23.2) w0 w2 y10
def w_M_show_168 (post : (MoC × IaC × IaC) → Prop) (u2 : IaC) (u3 : IaC) (u4 : IaC) (u5 : IaC) (u6 : IaC) (K0 : Int32 → Int32 → Int32 → Int32 → Int32 → Int32 → Int32 → MoC → IaC → IaC → Prop) (y1 : Int32) (y2 : Int32) (y3 : Int32) (y4 : Int32) (y5 : Int32) (y6 : Int32) (y7 : Int32) (y9 : Int32) (w0 : MoC) (w1 : IaC) (w2 : IaC) : Prop :=
  ((¬ y9 = (9 : Int32) → w_M_show_215 post u2 u3 u4 u5 u6 K0 y1 y2 y3 y5 y6 y7 y4 w0 w1 w2) ∧ (y9 = (9 : Int32) → (vp_in (moT w0) (iaN w1) ∧ ((y6 = 0 → w_M_show_215 post u2 u3 u4 u5 u6 K0 y1 y2 y3 y5 y6 y7 ((iaF w1) (moT w0).toNatClampNeg) (moN w0, moM w0, (moT w0) - 1, moW w0, moG w0, moS w0, moI w0) w1 w2) ∧ (¬ y6 = 0 → ((0 ≤ ((moT w0) - 1) → w_M_show_215 post u2 u3 u4 u5 u6 K0 y1 y2 y3 y5 y6 y7 ((iaF w1) (moT w0).toNatClampNeg) (moN w0, moM w0, (moT w0) - 1, moW w0, moG w0, moS w0, moI w0) w1 w2) ∧ (¬ 0 ≤ ((moT w0) - 1) → w_M_show_215 post u2 u3 u4 u5 u6 K0 y1 y2 (y3 + 1) y5 y6 y7 ((iaF w1) (moT w0).toNatClampNeg) (moN w0, moM w0, (moT w0) - 1, moW w0, moG w0, moS w0, moI w0) w1 w2)))))))
def w_M_show_153 (post : (MoC × IaC × IaC) → Prop) (u2 : IaC) (u3 : IaC) (u4 : IaC) (u5 : IaC) (u6 : IaC) (K0 : Int32 → Int32 → Int32 → Int32 → Int32 → Int32 → Int32 → MoC → IaC → IaC → Prop) (y1 : Int32) (y2 : Int32) (y3 : Int32) (y4 : Int32) (y5 : Int32) (y6 : Int32) (y7 : Int32) (y8 : Int32) (y9 : Int32) (w0 : MoC) (w1 : IaC) (w2 : IaC) : Prop :=
  ((¬ y9 = (4 : Int32) → w_M_show_168 post u2 u3 u4 u5 u6 K0 y1 y2 y3 y4 y5 y6 y7 y9 w0 w1 w2) ∧ (y9 = (4 : Int32) → wp_M_baseWord (fun r24 => wp_M_word (fun v25 => w_M_show_168 post u2 u3 u4 u5 u6 K0 y1 y2 y3 y4 y5 y6 y7 y9 v25.1 w1 v25.2) w0 w2 r24)  y8))
def w_M_show_254 (post : (MoC × IaC × IaC) → Prop) (u2 : IaC) (u3 : IaC) (u4 : IaC) (u5 : IaC) (u6 : IaC) (K0 : Int32 → Int32 → Int32 → Int32 → Int32 → Int32 → Int32 → MoC → IaC → IaC → Prop) (y1 : Int32) (y3 : Int32) (y4 : Int32) (y5 : Int32) (y6 : Int32) (y7 : Int32) (y8 : Int32) (z0 : Int32) (z1 : Int32) (w0 : MoC) (w1 : IaC) (w2 : IaC) : Prop :=
  wp_M_put (fun v26 => w_M_show_555 post u2 u3 u4 u5 u6 K0 y1 (z1 + z0) y3 y4 y5 y6 y7 v26.1 w1 v26.2) w0 w2 y8
def w_M_show_241 (post : (MoC × IaC × IaC) → Prop) (u2 : IaC) (u3 : IaC) (u4 : IaC) (u5 : IaC) (u6 : IaC) (K0 : Int32 → Int32 → Int32 → Int32 → Int32 → Int32 → Int32 → MoC → IaC → IaC → Prop) (y1 : Int32) (y2 : Int32) (y3 : Int32) (y4 : Int32) (y5 : Int32) (y6 : Int32) (y7 : Int32) (y8 : Int32) (y9 : Int32) (w0 : MoC) (w1 : IaC) (w2 : IaC) : Prop :=
  ((¬ y9 = (8 : Int32) → w_M_show_254 post u2 u3 u4 u5 u6 K0 y1 y3 y4 y5 y6 y7 y8 (-1) y2 w0 w1 w2) ∧ (y9 = (8 : Int32) → w_M_show_254 post u2 u3 u4 u5 u6 K0 y1 y3 y4 y5 y6 y7 y8 1 y2 w0 w1 w2))
def w_M_show_286 (post : (MoC × IaC × IaC) → Prop) (u2 : IaC) (u3 : IaC) (u4 : IaC) (u5 : IaC) (u6 : IaC) (K0 : Int32 → Int32 → Int32 → Int32 → Int32 → Int32 → Int32 → MoC → IaC → IaC → Prop) (y1 : Int32) (y2 : Int32) (y3 : Int32) (y4 : Int32) (y5 : Int32) (y6 : Int32) (y7 : Int32) (y8 : Int32) (y9 : Int32) (w0 : MoC) (w1 : IaC) (w2 : IaC) : Prop :=
  wp_M_put (fun v27 => ((y9 = (10 : Int32) → w_M_show_555 post u2 u3 u4 u5 u6 K0 y1 y2 y3 y4 y5 y6 y7 v27.1 w1 v27.2) ∧ (¬ y9 = (10 : Int32) → wp_M_put (fun v28 => w_M_show_555 post u2 u3 u4 u5 u6 K0 y1 y2 y3 y4 y5 y6 y7 v28.1 w1 v28.2) v27.1 v27.2 y8))) w0 w2 63
def w_M_show_459 (post : (MoC × IaC × IaC) → Prop) (u2 : IaC) (u3 : IaC) (u4 : IaC) (u5 : IaC) (u6 : IaC) (K0 : Int32 → Int32 → Int32 → Int32 → Int32 → Int32 → Int32 → MoC → IaC → IaC → Prop) (y1 : Int32) (y2 : Int32) (y3 : Int32) (y4 : Int32) (y5 : Int32) (y6 : Int32) (y7 : Int32) (w0 : MoC) (w1 : IaC) (w2 : IaC) : Prop :=
  w_M_show_555 post u2 u3 u4 u5 u6 K0 y1 y2 y3 y4 y5 y6 y7 w0 w1 w2
def w_M_show_456 (post : (MoC × IaC × IaC) → Prop) (u2 : IaC) (u3 : IaC) (u4 : IaC) (u5 : IaC) (u6 : IaC) (K0 : Int32 → Int32 → Int32 → Int32 → Int32 → Int32 → Int32 → MoC → IaC → IaC → Prop) (y1 : Int32) (y2 : Int32) (y3 : Int32) (y4 : Int32) (y5 : Int32) (y6 : Int32) (y7 : Int32) (z0 : Int32) (w0 : MoC) (w1 : IaC) (w2 : IaC) : Prop :=
  wp_M_put (fun v29 => w_M_show_459 post u2 u3 u4 u5 u6 K0 y1 y2 y3 y4 y5 y6 y7 v29.1 w1 v29.2) w0 w2 z0
def w_M_show_443 (post : (MoC × IaC × IaC) → Prop) (u2 : IaC) (u3 : IaC) (u4 : IaC) (u5 : IaC) (u6 : IaC) (K0 : Int32 → Int32 → Int32 → Int32 → Int32 → Int32 → Int32 → MoC → IaC → IaC → Prop) (y1 : Int32) (y2 : Int32) (y3 : Int32) (y4 : Int32) (y5 : Int32) (y6 : Int32) (y7 : Int32) (y11 : Int32) (w0 : MoC) (w1 : IaC) (w2 : IaC) : Prop :=
  ((y11 = 0 → w_M_show_456 post u2 u3 u4 u5 u6 K0 y1 y2 y3 y4 y5 y6 y7 38 w0 w1 w2) ∧ (¬ y11 = 0 → w_M_show_456 post u2 u3 u4 u5 u6 K0 y1 y2 y3 y4 y5 y6 y7 58 w0 w1 w2))
def w_M_show_429 (post : (MoC × IaC × IaC) → Prop) (u2 : IaC) (u3 : IaC) (u4 : IaC) (u5 : IaC) (u6 : IaC) (K0 : Int32 → Int32 → Int32 → Int32 → Int32 → Int32 → Int32 → MoC → IaC → IaC → Prop) (y1 : Int32) (y2 : Int32) (y3 : Int32) (y4 : Int32) (y5 : Int32) (y6 : Int32) (y7 : Int32) (y9 : Int32) (z0 : Int32) (w0 : MoC) (w1 : IaC) (w2 : IaC) : Prop :=
  ((y9 = (19 : Int32) → w_M_show_443 post u2 u3 u4 u5 u6 K0 y1 y2 y3 y4 y5 y6 y7 z0 w0 w1 w2) ∧ (¬ y9 = (19 : Int32) → ((z0 = 0 → w_M_show_459 post u2 u3 u4 u5 u6 K0 y1 y2 y3 y4 y5 y6 y7 w0 w1 w2) ∧ (¬ z0 = 0 → w_M_show_443 post u2 u3 u4 u5 u6 K0 y1 y2 y3 y4 y5 y6 y7 z0 w0 w1 w2))))
def w_M_show_406 (post : (MoC × IaC × IaC) → Prop) (u2 : IaC) (u3 : IaC) (u4 : IaC) (u5 : IaC) (u6 : IaC) (K0 : Int32 → Int32 → Int32 → Int32 → Int32 → Int32 → Int32 → MoC → IaC → IaC → Prop) (y1 : Int32) (y2 : Int32) (y3 : Int32) (y4 : Int32) (y5 : Int32) (y6 : Int32) (y7 : Int32) (y9 : Int32) (w0 : MoC) (w1 : IaC) (w2 : IaC) : Prop :=
  w_M_show_429 post u2 u3 u4 u5 u6 K0 y1 y2 y3 y4 y5 y6 y7 y9 0 w0 w1 w2
def w_M_show_372 (post : (MoC × IaC × IaC) → Prop) (u2 : IaC) (u3 : IaC) (u4 : IaC) (u5 : IaC) (u6 : IaC) (K0 : Int32 → Int32 → Int32 → Int32 → Int32 → Int32 → Int32 → MoC → IaC → IaC → Prop) (y1 : Int32) (y2 : Int32) (y3 : Int32) (y4 : Int32) (y5 : Int32) (y6 : Int32) (y7 : Int32) (y9 : Int32) (w0 : MoC) (w1 : IaC) (w2 : IaC) : Prop :=
  wp_M_roleAt (fun r30 => ((¬ y9 = (18 : Int32) → wp_M_roleAt (fun r31 => ((¬ r31 = (18 : Int32) → w_M_show_429 post u2 u3 u4 u5 u6 K0 y1 y2 y3 y4 y5 y6 y7 y9 0 w0 w1 w2) ∧ (r31 = (18 : Int32) → w_M_show_429 post u2 u3 u4 u5 u6 K0 y1 y2 y3 y4 y5 y6 y7 y9 1 w0 w1 w2))) w0 u3 u4 y1 (y7 - 1)) ∧ (y9 = (18 : Int32) → ((r30 < (1 : Int32) → w_M_show_406 post u2 u3 u4 u5 u6 K0 y1 y2 y3 y4 y5 y6 y7 y9 w0 w1 w2) ∧ (¬ r30 < (1 : Int32) → (((3 : Int32) < r30 → w_M_show_406 post u2 u3 u4 u5 u6 K0 y1 y2 y3 y4 y5 y6 y7 y9 w0 w1 w2) ∧ (¬ (3 : Int32) < r30 → w_M_show_429 post u2 u3 u4 u5 u6 K0 y1 y2 y3 y4 y5 y6 y7 y9 1 w0 w1 w2))))))) w0 u3 u4 y1 (y7 + 1)
def w_M_show_518 (post : (MoC × IaC × IaC) → Prop) (u2 : IaC) (u3 : IaC) (u4 : IaC) (u5 : IaC) (u6 : IaC) (K0 : Int32 → Int32 → Int32 → Int32 → Int32 → Int32 → Int32 → MoC → IaC → IaC → Prop) (y1 : Int32) (y2 : Int32) (y3 : Int32) (y4 : Int32) (y5 : Int32) (y6 : Int32) (y7 : Int32) (z0 : Int32) (w0 : MoC) (w1 : IaC) (w2 : IaC) : Prop :=
  wp_M_put (fun v32 => w_M_show_555 post u2 u3 u4 u5 u6 K0 y1 y2 y3 y4 (y5 + 1) y6 y7 v32.1 w1 v32.2) w0 w2 z0
def w_M_show_349 (post : (MoC × IaC × IaC) → Prop) (u2 : IaC) (u3 : IaC) (u4 : IaC) (u5 : IaC) (u6 : IaC) (K0 : Int32 → Int32 → Int32 → Int32 → Int32 → Int32 → Int32 → MoC → IaC → IaC → Prop) (y1 : Int32) (y2 : Int32) (y3 : Int32) (y4 : Int32) (y5 : Int32) (y6 : Int32) (y7 : Int32) (y8 : Int32) (w0 : MoC) (w1 : IaC) (w2 : IaC) : Prop :=
  wp_M_put (fun v33 => w_M_show_555 post u2 u3 u4 u5 u6 K0 y1 y2 y3 y4 y5 y6 y7 v33.1 w1 v33.2) w0 w2 y8
def w_M_show_88 (post : (MoC × IaC × IaC) → Prop) (u2 : IaC) (u3 : IaC) (u4 : IaC) (u5 : IaC) (u6 : IaC) (K0 : Int32 → Int32 → Int32 → Int32 → Int32 → Int32 → Int32 → MoC → IaC → IaC → Prop) (y1 : Int32) (y2 : Int32) (y3 : Int32) (y4 : Int32) (y5 : Int32) (y6 : Int32) (y7 : Int32) (y8 : Int32) (y9 : Int32) (w0 : MoC) (w1 : IaC) (w2 : IaC) : Prop :=
  ((¬ y9 = (3 : Int32) → ((¬ y9 = (1 : Int32) → ((y9 = (9 : Int32) → w_M_show_153 post u2 u3 u4 u5 u6 K0 y1 y2 y3 y4 y5 y6 y7 y8 y9 w0 w1 w2) ∧ (¬ y9 = (9 : Int32) → ((y9 = (15 : Int32) → w_M_show_153 post u2 u3 u4 u5 u6 K0 y1 y2 y3 y4 y5 y6 y7 y8 y9 w0 w1 w2) ∧ (¬ y9 = (15 : Int32) → ((¬ y9 = (4 : Int32) → ((y9 = (8 : Int32) → w_M_show_241 post u2 u3 u4 u5 u6 K0 y1 y2 y3 y4 y5 y6 y7 y8 y9 w0 w1 w2) ∧ (¬ y9 = (8 : Int32) → ((¬ y9 = (13 : Int32) → ((y9 = (10 : Int32) → w_M_show_286 post u2 u3 u4 u5 u6 K0 y1 y2 y3 y4 y5 y6 y7 y8 y9 w0 w1 w2) ∧ (¬ y9 = (10 : Int32) → ((y9 = (11 : Int32) → w_M_show_286 post u2 u3 u4 u5 u6 K0 y1 y2 y3 y4 y5 y6 y7 y8 y9 w0 w1 w2) ∧ (¬ y9 = (11 : Int32) → ((¬ y9 = (12 : Int32) → ((¬ y9 = (17 : Int32) → ((y9 = (18 : Int32) → w_M_show_372 post u2 u3 u4 u5 u6 K0 y1 y2 y3 y4 y5 y6 y7 y9 w0 w1 w2) ∧ (¬ y9 = (18 : Int32) → ((¬ y9 = (19 : Int32) → ((¬ y9 = (20 : Int32) → ((¬ y9 = (23 : Int32) → ((¬ y9 = (24 : Int32) → ((¬ y9 = (6 : Int32) → ((y9 = (2 : Int32) → w_M_show_555 post u2 u3 u4 u5 u6 K0 y1 y2 y3 y4 y5 y6 y7 w0 w1 w2) ∧ (¬ y9 = (2 : Int32) → wp_M_put (fun v34 => w_M_show_555 post u2 u3 u4 u5 u6 K0 y1 y2 y3 y4 y5 y6 y7 v34.1 w1 v34.2) w0 w2 y8))) ∧ (y9 = (6 : Int32) → wp_M_put (fun v35 => w_M_show_555 post u2 u3 u4 u5 u6 K0 y1 y2 y3 y4 y5 y6 y7 v35.1 w1 v35.2) w0 w2 46))) ∧ (y9 = (24 : Int32) → ((¬ y5 = 0 → w_M_show_518 post u2 u3 u4 u5 u6 K0 y1 y2 y3 y4 y5 y6 y7 44 w0 w1 w2) ∧ (y5 = 0 → w_M_show_518 post u2 u3 u4 u5 u6 K0 y1 y2 y3 y4 y5 y6 y7 94 w0 w1 w2))))) ∧ (y9 = (23 : Int32) → wp_M_word (fun v36 => w_M_show_555 post u2 u3 u4 u5 u6 K0 y1 y2 y3 y4 y5 y6 y7 v36.1 w1 v36.2) w0 w2 249296100))) ∧ (y9 = (20 : Int32) → wp_M_put (fun v37 => w_M_show_555 post u2 u3 u4 u5 u6 K0 y1 y2 y3 y4 y5 1 y7 v37.1 w1 v37.2) w0 w2 y8))) ∧ (y9 = (19 : Int32) → w_M_show_372 post u2 u3 u4 u5 u6 K0 y1 y2 y3 y4 y5 y6 y7 y9 w0 w1 w2))))) ∧ (y9 = (17 : Int32) → wp_M_roleAt (fun r38 => ((r38 = (17 : Int32) → w_M_show_349 post u2 u3 u4 u5 u6 K0 y1 y2 y3 y4 y5 y6 y7 y8 w0 w1 w2) ∧ (¬ r38 = (17 : Int32) → wp_M_roleAt (fun r39 => ((r39 = (16 : Int32) → w_M_show_349 post u2 u3 u4 u5 u6 K0 y1 y2 y3 y4 y5 y6 y7 y8 w0 w1 w2) ∧ (¬ r39 = (16 : Int32) → wp_M_put (fun v40 => w_M_show_349 post u2 u3 u4 u5 u6 K0 y1 y2 y3 y4 y5 y6 y7 y8 v40.1 w1 v40.2) w0 w2 44))) w0 u3 u4 y1 (y7 - 1)))) w0 u3 u4 y1 (y7 - 1)))) ∧ (y9 = (12 : Int32) → w_M_show_286 post u2 u3 u4 u5 u6 K0 y1 y2 y3 y4 y5 y6 y7 y8 y9 w0 w1 w2))))))) ∧ (y9 = (13 : Int32) → w_M_show_241 post u2 u3 u4 u5 u6 K0 y1 y2 y3 y4 y5 y6 y7 y8 y9 w0 w1 w2))))) ∧ (y9 = (4 : Int32) → w_M_show_153 post u2 u3 u4 u5 u6 K0 y1 y2 y3 y4 y5 y6 y7 y8 y9 w0 w1 w2))))))) ∧ (y9 = (1 : Int32) → (vp_in ((moT w0) + 1) (iaN w1) ∧ w_M_show_555 post u2 u3 u4 u5 u6 K0 y1 y2 y3 0 y5 y6 y7 (moN w0, moM w0, (moT w0) + 1, moW w0, moG w0, moS w0, moI w0) (iaN w1, upd (iaF w1) ((moT w0) + 1).toNatClampNeg y4) w2)))) ∧ (y9 = (3 : Int32) → w_M_show_555 post u2 u3 u4 u5 u6 K0 y1 y2 y3 (y4 + 1) y5 y6 y7 w0 w1 w2))
def wb_M_show_29 (post : (MoC × IaC × IaC) → Prop) (u2 : IaC) (u3 : IaC) (u4 : IaC) (u5 : IaC) (u6 : IaC) (K0 : Int32 → Int32 → Int32 → Int32 → Int32 → Int32 → Int32 → MoC → IaC → IaC → Prop) (y1 : Int32) (y2 : Int32) (y3 : Int32) (y4 : Int32) (y5 : Int32) (y6 : Int32) (y7 : Int32) (w0 : MoC) (w1 : IaC) (w2 : IaC) : Prop :=
  (vp_in y1 (iaN u4) ∧ ((((iaF u4) y1.toNatClampNeg) ≤ y7 → post (w0, w1, w2)) ∧ (¬ ((iaF u4) y1.toNatClampNeg) ≤ y7 → wp_M_at (fun r41 => wp_M_roleAt (fun r42 => ((y6 = 0 → ((y2 ≤ 0 → w_M_show_88 post u2 u3 u4 u5 u6 K0 y1 y2 y3 y4 y5 y6 y7 r41 r42 w0 w1 w2) ∧ (¬ y2 ≤ 0 → wp_M_part (fun v43 => w_M_show_88 post u2 u3 u4 u5 u6 K0 y1 y2 y3 y4 y5 y6 y7 r41 r42 v43.1 w1 v43.2) w0 u3 u4 u5 w2 y1 y7 y2 0))) ∧ (¬ y6 = 0 → wp_M_part (fun v44 => w_M_show_88 post u2 u3 u4 u5 u6 K0 y1 y2 y3 y4 y5 y6 y7 r41 r42 v44.1 w1 v44.2) w0 u3 u4 u5 w2 y1 y7 y2 y3))) w0 u3 u4 y1 y7) w0 u2 y1 y7)))
def w_M_show_29 (post : (MoC × IaC × IaC) → Prop) (u2 : IaC) (u3 : IaC) (u4 : IaC) (u5 : IaC) (u6 : IaC) : Nat → Int32 → Int32 → Int32 → Int32 → Int32 → Int32 → Int32 → MoC → IaC → IaC → Prop
  | 0, _, _, _, _, _, _, _, _, _, _ => False
  | n + 1, y1, y2, y3, y4, y5, y6, y7, w0, w1, w2 => wb_M_show_29 post u2 u3 u4 u5 u6  (w_M_show_29 post u2 u3 u4 u5 u6  n) y1 y2 y3 y4 y5 y6 y7 w0 w1 w2
def w_M_show_24 (post : (MoC × IaC × IaC) → Prop) (u2 : IaC) (u3 : IaC) (u4 : IaC) (u5 : IaC) (u6 : IaC) (y1 : Int32) (y2 : Int32) (y3 : Int32) (y4 : Int32) (y5 : Int32) (z0 : Int32) (w0 : MoC) (w1 : IaC) (w2 : IaC) : Prop :=
  (∃ n, w_M_show_29 post u2 u3 u4 u5 u6 n y1 y2 y3 y4 y5 z0 0 w0 w1 w2)
def wp_M_show (post : (MoC × IaC × IaC) → Prop) (u0 : MoC) (u2 : IaC) (u3 : IaC) (u4 : IaC) (u5 : IaC) (u6 : IaC) (u7 : IaC) (u8 : IaC) (x1 : Int32) : Prop :=
  (vp_in x1 (iaN u6) ∧ ((¬ ((iaF u6) x1.toNatClampNeg) = 0 → w_M_show_24 post u2 u3 u4 u5 u6 x1 0 0 0 0 0 u0 u7 u8) ∧ (((iaF u6) x1.toNatClampNeg) = 0 → w_M_show_24 post u2 u3 u4 u5 u6 x1 0 0 0 0 1 u0 u7 u8)))
abbrev rm_M_make : Room := { frames := 6, cells := 0, slots := 0, locals := 145 }
def wb_M_make_58 (post : Int32 → (MoC × IaC × IaC × ZaC) → Prop) (u3 : IaC) (u4 : IaC) (u5 : IaC) (u6 : IaC) (u7 : IaC) (u8 : IaC) (u9 : IaC) (u10 : IaC) (u11 : IaC) (K0 : Int32 → Int32 → MoC → IaC → IaC → ZaC → Prop) (y1 : Int32) (y3 : Int32) (w0 : MoC) (w1 : IaC) (w2 : IaC) (w3 : ZaC) : Prop :=
  (vp_in y1 (iaN u5) ∧ ((((iaF u5) y1.toNatClampNeg) ≤ y3 → post 1 (w0, w1, w2, w3)) ∧ (¬ ((iaF u5) y1.toNatClampNeg) ≤ y3 → wp_M_at (fun r6 => wp_M_put (fun v7 => K0 y1 (y3 + 1) v7.1 w1 v7.2 w3) w0 w2 r6) w0 u3 y1 y3)))
def w_M_make_58 (post : Int32 → (MoC × IaC × IaC × ZaC) → Prop) (u3 : IaC) (u4 : IaC) (u5 : IaC) (u6 : IaC) (u7 : IaC) (u8 : IaC) (u9 : IaC) (u10 : IaC) (u11 : IaC) : Nat → Int32 → Int32 → MoC → IaC → IaC → ZaC → Prop
  | 0, _, _, _, _, _, _ => False
  | n + 1, y1, y3, w0, w1, w2, w3 => wb_M_make_58 post u3 u4 u5 u6 u7 u8 u9 u10 u11  (w_M_make_58 post u3 u4 u5 u6 u7 u8 u9 u10 u11  n) y1 y3 w0 w1 w2 w3
def wp_M_make (post : Int32 → (MoC × IaC × IaC × ZaC) → Prop) (u0 : MoC) (u3 : IaC) (u4 : IaC) (u5 : IaC) (u6 : IaC) (u7 : IaC) (u8 : IaC) (u9 : IaC) (u10 : IaC) (u11 : IaC) (u12 : IaC) (u13 : IaC) (u14 : ZaC) (x1 : Int32) (x2 : Int32) : Prop :=
  wp_M_no (fun r8 => ((¬ r8 = 0 → post 0 ((moN u0, moM u0, (-1), 0, moG u0, moS u0, moI u0), u12, u13, u14)) ∧ (r8 = 0 → ((x2 < 0 → post 0 ((moN u0, moM u0, (-1), 0, moG u0, moS u0, moI u0), u12, u13, u14)) ∧ (¬ x2 < 0 → ((x2 ≤ (2 : Int32) → ((¬ x2 = (1 : Int32) → ((¬ x2 = (2 : Int32) → (∃ n, w_M_make_58 post u3 u4 u5 u6 u7 u8 u9 u10 u11 n x1 0 (moN u0, moM u0, (-1), 0, moG u0, moS u0, moI u0) u12 u13 u14)) ∧ (x2 = (2 : Int32) → wp_M_eraseAll (fun v9 => post 1 (v9.1, u12, v9.2.1, v9.2.2)) (moN u0, moM u0, (-1), 0, moG u0, moS u0, moI u0) u3 u4 u5 u7 u8 u9 u10 u11 u13 u14 x1 0))) ∧ (x2 = (1 : Int32) → wp_M_show (fun v10 => post 1 (v10.1, v10.2.1, v10.2.2, u14)) (moN u0, moM u0, (-1), 0, moG u0, moS u0, moI u0) u3 u4 u5 u6 u11 u12 u13 x1))) ∧ (¬ x2 ≤ (2 : Int32) → post 0 ((moN u0, moM u0, (-1), 0, moG u0, moS u0, moI u0), u12, u13, u14)))))))) (moN u0, moM u0, (-1), 0, moG u0, moS u0, moI u0) x1
abbrev rm_M_text : Room := { frames := 7, cells := 0, slots := 0, locals := 168 }
def wp_M_text (post : Int32 → (MoC × IaC × IaC × ZaC) → Prop) (u0 : MoC) (u4 : IaC) (u5 : IaC) (u6 : IaC) (u7 : IaC) (u8 : IaC) (u9 : IaC) (u10 : IaC) (u11 : IaC) (u12 : IaC) (u13 : IaC) (u14 : IaC) (u15 : ZaC) (x1 : Int32) (x2 : Int32) (x3 : Int32) : Prop :=
  wp_M_make (fun r4 v3 => ((r4 = 0 → post (-1) (v3.1, v3.2.1, v3.2.2.1, v3.2.2.2)) ∧ (¬ r4 = 0 → ((x3 < 0 → post (-1) (v3.1, v3.2.1, v3.2.2.1, v3.2.2.2)) ∧ (¬ x3 < 0 → (((moW v3.1) ≤ x3 → post (-1) (v3.1, v3.2.1, v3.2.2.1, v3.2.2.2)) ∧ (¬ (moW v3.1) ≤ x3 → (vp_in x3 (iaN v3.2.2.1) ∧ post ((iaF v3.2.2.1) x3.toNatClampNeg) (v3.1, v3.2.1, v3.2.2.1, v3.2.2.2))))))))) u0 u4 u5 u6 u7 u8 u9 u10 u11 u12 u13 u14 u15 x1 x2
abbrev rm_M_length : Room := { frames := 7, cells := 0, slots := 0, locals := 168 }
def wp_M_length (post : Int32 → (MoC × IaC × IaC × ZaC) → Prop) (u0 : MoC) (u3 : IaC) (u4 : IaC) (u5 : IaC) (u6 : IaC) (u7 : IaC) (u8 : IaC) (u9 : IaC) (u10 : IaC) (u11 : IaC) (u12 : IaC) (u13 : IaC) (u14 : ZaC) (x1 : Int32) (x2 : Int32) : Prop :=
  wp_M_make (fun r4 v3 => ((r4 = 0 → post (-100) (v3.1, v3.2.1, v3.2.2.1, v3.2.2.2)) ∧ (¬ r4 = 0 → post (moW v3.1) (v3.1, v3.2.1, v3.2.2.1, v3.2.2.2)))) u0 u3 u4 u5 u6 u7 u8 u9 u10 u11 u12 u13 u14 x1 x2
abbrev rm_M_own : Room := { frames := 3, cells := 0, slots := 0, locals := 74 }
def wp_M_own (post : Int32 → Prop) (u0 : MoC) (u3 : IaC) (u4 : IaC) (u5 : IaC) (u6 : IaC) (u7 : IaC) (u8 : IaC) (x1 : Int32) (x2 : Int32) : Prop :=
  wp_M_param (fun r2 => ((r2 < 0 → post 0) ∧ (¬ r2 < 0 → post 1))) u0 u3 u4 u5 u6 u7 u8 x1 x1 x2
abbrev rm_M_alike : Room := { frames := 4, cells := 0, slots := 0, locals := 96 }
def w_M_alike_243 (post : Int32 → Prop) (u0 : MoC) (u3 : IaC) (u4 : IaC) (u5 : IaC) (u6 : IaC) (u7 : IaC) (u8 : IaC) (u9 : IaC) (K0 : Int32 → Int32 → Int32 → Int32 → Int32 → Prop) (y1 : Int32) (y2 : Int32) (y3 : Int32) (y4 : Int32) (y5 : Int32) (y8 : Int32) : Prop :=
  (vp_in y8 (iaN u7) ∧ (vp_in y8 (iaN u8) ∧ (vp_in y8 (iaN u8) ∧ (vp_in y8 (iaN u7) ∧ wp_M_alikeNames (fun r12 => ((¬ r12 = 0 → (vp_in y8 (iaN u8) ∧ (vp_in y8 (iaN u7) ∧ K0 y1 y2 (y3 + (((iaF u8) y8.toNatClampNeg) - ((iaF u7) y8.toNatClampNeg))) y4 y5))) ∧ (r12 = 0 → post 0))) u0 u3 y1 ((iaF u7) y8.toNatClampNeg) ((iaF u8) y8.toNatClampNeg) y1 y3 ((y3 + ((iaF u8) y8.toNatClampNeg)) - ((iaF u7) y8.toNatClampNeg))))))
def w_M_alike_177 (post : Int32 → Prop) (u0 : MoC) (u3 : IaC) (u4 : IaC) (u5 : IaC) (u6 : IaC) (u7 : IaC) (u8 : IaC) (u9 : IaC) (K0 : Int32 → Int32 → Int32 → Int32 → Int32 → Prop) (y1 : Int32) (y2 : Int32) (y3 : Int32) (y4 : Int32) (y5 : Int32) (y6 : Int32) (z0 : Int32) (z1 : Int32) : Prop :=
  ((¬ y6 = (2 : Int32) → (vp_in ((20 * y2) + y5) (iaN u8) ∧ w_M_alike_243 post u0 u3 u4 u5 u6 u7 u8 u9 K0 y1 y2 y3 ((iaF u8) ((20 * y2) + y5).toNatClampNeg) (y5 + 1) (z1 + z0))) ∧ (y6 = (2 : Int32) → (vp_in y1 (iaN u5) ∧ ((((iaF u5) y1.toNatClampNeg) ≤ y3 → post 0) ∧ (¬ ((iaF u5) y1.toNatClampNeg) ≤ y3 → wp_M_at (fun r13 => ((r13 = (84 : Int32) → wp_M_nameEnd (fun r14 => w_M_alike_243 post u0 u3 u4 u5 u6 u7 u8 u9 K0 y1 y2 (y3 + 1) r14 y5 (z1 + z0)) u0 u4 u5 y2 (y4 + 1)) ∧ (¬ r13 = (84 : Int32) → post 0))) u0 u3 y1 y3)))))
def w_M_alike_154 (post : Int32 → Prop) (u0 : MoC) (u3 : IaC) (u4 : IaC) (u5 : IaC) (u6 : IaC) (u7 : IaC) (u8 : IaC) (u9 : IaC) (K0 : Int32 → Int32 → Int32 → Int32 → Int32 → Prop) (y1 : Int32) (y2 : Int32) (y3 : Int32) (y4 : Int32) (y5 : Int32) (y6 : Int32) (y7 : Int32) : Prop :=
  ((¬ y6 = (17 : Int32) → w_M_alike_177 post u0 u3 u4 u5 u6 u7 u8 u9 K0 y1 y2 y3 y4 y5 y6 (y7 - (20 * y2)) (20 * y1)) ∧ (y6 = (17 : Int32) → w_M_alike_177 post u0 u3 u4 u5 u6 u7 u8 u9 K0 y1 y2 y3 y4 y5 y6 y5 (20 * y1)))
def w_M_alike_307 (post : Int32 → Prop) (u0 : MoC) (u3 : IaC) (u4 : IaC) (u5 : IaC) (u6 : IaC) (u7 : IaC) (u8 : IaC) (u9 : IaC) (K0 : Int32 → Int32 → Int32 → Int32 → Int32 → Prop) (y1 : Int32) (y2 : Int32) (y3 : Int32) (y4 : Int32) (y5 : Int32) : Prop :=
  (vp_in y1 (iaN u5) ∧ ((((iaF u5) y1.toNatClampNeg) ≤ y3 → post 0) ∧ (¬ ((iaF u5) y1.toNatClampNeg) ≤ y3 → wp_M_at (fun r15 => wp_M_at (fun r16 => ((r15 = r16 → K0 y1 y2 (y3 + 1) (y4 + 1) y5) ∧ (¬ r15 = r16 → post 0))) u0 u3 y2 y4) u0 u3 y1 y3)))
def w_M_alike_136 (post : Int32 → Prop) (u0 : MoC) (u3 : IaC) (u4 : IaC) (u5 : IaC) (u6 : IaC) (u7 : IaC) (u8 : IaC) (u9 : IaC) (K0 : Int32 → Int32 → Int32 → Int32 → Int32 → Prop) (y1 : Int32) (y2 : Int32) (y3 : Int32) (y4 : Int32) (y5 : Int32) (y6 : Int32) (y7 : Int32) : Prop :=
  ((y6 = (17 : Int32) → w_M_alike_154 post u0 u3 u4 u5 u6 u7 u8 u9 K0 y1 y2 y3 y4 y5 y6 y7) ∧ (¬ y6 = (17 : Int32) → ((¬ y6 = (2 : Int32) → w_M_alike_307 post u0 u3 u4 u5 u6 u7 u8 u9 K0 y1 y2 y3 y4 y5) ∧ (y6 = (2 : Int32) → ((y7 < 0 → w_M_alike_307 post u0 u3 u4 u5 u6 u7 u8 u9 K0 y1 y2 y3 y4 y5) ∧ (¬ y7 < 0 → w_M_alike_154 post u0 u3 u4 u5 u6 u7 u8 u9 K0 y1 y2 y3 y4 y5 y6 y7))))))
def w_M_alike_131 (post : Int32 → Prop) (u0 : MoC) (u3 : IaC) (u4 : IaC) (u5 : IaC) (u6 : IaC) (u7 : IaC) (u8 : IaC) (u9 : IaC) (K0 : Int32 → Int32 → Int32 → Int32 → Int32 → Prop) (y1 : Int32) (y2 : Int32) (y3 : Int32) (y4 : Int32) (y5 : Int32) (y6 : Int32) (y7 : Int32) (z0 : Int32) (z1 : Int32) : Prop :=
  ((z1 = z0 → w_M_alike_136 post u0 u3 u4 u5 u6 u7 u8 u9 K0 y1 y2 y3 y4 y5 y6 y7) ∧ (¬ z1 = z0 → post 0))
def w_M_alike_97 (post : Int32 → Prop) (u0 : MoC) (u3 : IaC) (u4 : IaC) (u5 : IaC) (u6 : IaC) (u7 : IaC) (u8 : IaC) (u9 : IaC) (K0 : Int32 → Int32 → Int32 → Int32 → Int32 → Prop) (y1 : Int32) (y2 : Int32) (y3 : Int32) (y4 : Int32) (y5 : Int32) (y6 : Int32) (z0 : Int32) : Prop :=
  ((¬ y6 = (2 : Int32) → w_M_alike_136 post u0 u3 u4 u5 u6 u7 u8 u9 K0 y1 y2 y3 y4 y5 y6 z0) ∧ (y6 = (2 : Int32) → wp_M_roleAt (fun r17 => ((¬ r17 = (2 : Int32) → w_M_alike_136 post u0 u3 u4 u5 u6 u7 u8 u9 K0 y1 y2 y3 y4 y5 y6 z0) ∧ (r17 = (2 : Int32) → wp_M_own (fun r18 => ((z0 < 0 → w_M_alike_131 post u0 u3 u4 u5 u6 u7 u8 u9 K0 y1 y2 y3 y4 y5 y6 z0 0 r18) ∧ (¬ z0 < 0 → w_M_alike_131 post u0 u3 u4 u5 u6 u7 u8 u9 K0 y1 y2 y3 y4 y5 y6 z0 1 r18))) u0 u3 u4 u5 u7 u8 u9 y1 y3))) u0 u4 u5 y1 y3))
def wb_M_alike_59 (post : Int32 → Prop) (u0 : MoC) (u3 : IaC) (u4 : IaC) (u5 : IaC) (u6 : IaC) (u7 : IaC) (u8 : IaC) (u9 : IaC) (K0 : Int32 → Int32 → Int32 → Int32 → Int32 → Prop) (y1 : Int32) (y2 : Int32) (y3 : Int32) (y4 : Int32) (y5 : Int32) : Prop :=
  (vp_in y2 (iaN u5) ∧ ((((iaF u5) y2.toNatClampNeg) ≤ y4 → (vp_in y1 (iaN u5) ∧ ((¬ y3 = ((iaF u5) y1.toNatClampNeg) → post 0) ∧ (y3 = ((iaF u5) y1.toNatClampNeg) → post 1)))) ∧ (¬ ((iaF u5) y2.toNatClampNeg) ≤ y4 → wp_M_roleAt (fun r19 => ((¬ r19 = (2 : Int32) → w_M_alike_97 post u0 u3 u4 u5 u6 u7 u8 u9 K0 y1 y2 y3 y4 y5 r19 (-1)) ∧ (r19 = (2 : Int32) → wp_M_param (fun r20 => w_M_alike_97 post u0 u3 u4 u5 u6 u7 u8 u9 K0 y1 y2 y3 y4 y5 r19 r20) u0 u3 u4 u5 u7 u8 u9 y2 y2 y4))) u0 u4 u5 y2 y4)))
def w_M_alike_59 (post : Int32 → Prop) (u0 : MoC) (u3 : IaC) (u4 : IaC) (u5 : IaC) (u6 : IaC) (u7 : IaC) (u8 : IaC) (u9 : IaC) : Nat → Int32 → Int32 → Int32 → Int32 → Int32 → Prop
  | 0, _, _, _, _, _ => False
  | n + 1, y1, y2, y3, y4, y5 => wb_M_alike_59 post u0 u3 u4 u5 u6 u7 u8 u9  (w_M_alike_59 post u0 u3 u4 u5 u6 u7 u8 u9  n) y1 y2 y3 y4 y5
def wp_M_alike (post : Int32 → Prop) (u0 : MoC) (u3 : IaC) (u4 : IaC) (u5 : IaC) (u6 : IaC) (u7 : IaC) (u8 : IaC) (u9 : IaC) (x1 : Int32) (x2 : Int32) : Prop :=
  wp_M_no (fun r21 => ((¬ r21 = 0 → post (-100)) ∧ (r21 = 0 → wp_M_no (fun r22 => ((r22 = 0 → (vp_in x1 (iaN u6) ∧ (vp_in x2 (iaN u6) ∧ ((¬ ((iaF u6) x1.toNatClampNeg) = ((iaF u6) x2.toNatClampNeg) → post 0) ∧ (((iaF u6) x1.toNatClampNeg) = ((iaF u6) x2.toNatClampNeg) → (vp_in x1 (iaN u9) ∧ (vp_in x2 (iaN u9) ∧ ((((iaF u9) x1.toNatClampNeg) = ((iaF u9) x2.toNatClampNeg) → (∃ n, w_M_alike_59 post u0 u3 u4 u5 u6 u7 u8 u9 n x1 x2 0 0 0)) ∧ (¬ ((iaF u9) x1.toNatClampNeg) = ((iaF u9) x2.toNatClampNeg) → post 0))))))))) ∧ (¬ r22 = 0 → post (-100)))) u0 x2))) u0 x1
abbrev rm_M_clash : Room := { frames := 6, cells := 0, slots := 0, locals := 145 }
def wb_M_clash_108 (post : Int32 → (MoC × IaC × IaC × ZaC) → Prop) (u3 : IaC) (u4 : IaC) (u5 : IaC) (u6 : IaC) (u7 : IaC) (u8 : IaC) (u9 : IaC) (u10 : IaC) (u11 : IaC) (K1 : Int32 → Int32 → MoC → IaC → IaC → ZaC → Prop) (y3 : Int32) (y4 : Int32) (w0 : MoC) (w1 : IaC) (w2 : IaC) (w3 : ZaC) : Prop :=
  ((y3 ≤ y4 → post 1 (w0, w1, w2, w3)) ∧ (¬ y3 ≤ y4 → (vp_in y4 (iaN w2) ∧ (vp_in y4 (iaN w1) ∧ ((((iaF w2) y4.toNatClampNeg) = ((iaF w1) y4.toNatClampNeg) → K1 y3 (y4 + 1) w0 w1 w2 w3) ∧ (¬ ((iaF w2) y4.toNatClampNeg) = ((iaF w1) y4.toNatClampNeg) → post 0 (w0, w1, w2, w3)))))))
def w_M_clash_108 (post : Int32 → (MoC × IaC × IaC × ZaC) → Prop) (u3 : IaC) (u4 : IaC) (u5 : IaC) (u6 : IaC) (u7 : IaC) (u8 : IaC) (u9 : IaC) (u10 : IaC) (u11 : IaC) : Nat → Int32 → Int32 → MoC → IaC → IaC → ZaC → Prop
  | 0, _, _, _, _, _, _ => False
  | n + 1, y3, y4, w0, w1, w2, w3 => wb_M_clash_108 post u3 u4 u5 u6 u7 u8 u9 u10 u11  (w_M_clash_108 post u3 u4 u5 u6 u7 u8 u9 u10 u11  n) y3 y4 w0 w1 w2 w3
def wb_M_clash_58 (post : Int32 → (MoC × IaC × IaC × ZaC) → Prop) (u3 : IaC) (u4 : IaC) (u5 : IaC) (u6 : IaC) (u7 : IaC) (u8 : IaC) (u9 : IaC) (u10 : IaC) (u11 : IaC) (K0 : Int32 → Int32 → Int32 → MoC → IaC → IaC → ZaC → Prop) (y2 : Int32) (y3 : Int32) (y4 : Int32) (w0 : MoC) (w1 : IaC) (w2 : IaC) (w3 : ZaC) : Prop :=
  ((y3 ≤ y4 → wp_M_eraseAll (fun v5 => (((moW v5.1) = y3 → (∃ n, w_M_clash_108 post u3 u4 u5 u6 u7 u8 u9 u10 u11 n y3 0 v5.1 v5.2.1 w2 v5.2.2)) ∧ (¬ (moW v5.1) = y3 → post 0 (v5.1, v5.2.1, w2, v5.2.2)))) (moN w0, moM w0, moT w0, 0, moG w0, moS w0, moI w0) u3 u4 u5 u7 u8 u9 u10 u11 w1 w3 y2 1) ∧ (¬ y3 ≤ y4 → (vp_in y4 (iaN w1) ∧ (vp_in y4 (iaN w2) ∧ K0 y2 y3 (y4 + 1) w0 w1 (iaN w2, upd (iaF w2) y4.toNatClampNeg ((iaF w1) y4.toNatClampNeg)) w3))))
def w_M_clash_58 (post : Int32 → (MoC × IaC × IaC × ZaC) → Prop) (u3 : IaC) (u4 : IaC) (u5 : IaC) (u6 : IaC) (u7 : IaC) (u8 : IaC) (u9 : IaC) (u10 : IaC) (u11 : IaC) : Nat → Int32 → Int32 → Int32 → MoC → IaC → IaC → ZaC → Prop
  | 0, _, _, _, _, _, _, _ => False
  | n + 1, y2, y3, y4, w0, w1, w2, w3 => wb_M_clash_58 post u3 u4 u5 u6 u7 u8 u9 u10 u11  (w_M_clash_58 post u3 u4 u5 u6 u7 u8 u9 u10 u11  n) y2 y3 y4 w0 w1 w2 w3
def wp_M_clash (post : Int32 → (MoC × IaC × IaC × ZaC) → Prop) (u0 : MoC) (u3 : IaC) (u4 : IaC) (u5 : IaC) (u6 : IaC) (u7 : IaC) (u8 : IaC) (u9 : IaC) (u10 : IaC) (u11 : IaC) (u12 : IaC) (u13 : IaC) (u14 : ZaC) (x1 : Int32) (x2 : Int32) : Prop :=
  wp_M_no (fun r6 => ((¬ r6 = 0 → post (-100) (u0, u12, u13, u14)) ∧ (r6 = 0 → wp_M_no (fun r7 => ((¬ r7 = 0 → post (-100) (u0, u12, u13, u14)) ∧ (r7 = 0 → (vp_in x1 (iaN u6) ∧ ((¬ ((iaF u6) x1.toNatClampNeg) = (1 : Int32) → post (-100) (u0, u12, u13, u14)) ∧ (((iaF u6) x1.toNatClampNeg) = (1 : Int32) → (vp_in x2 (iaN u6) ∧ ((((iaF u6) x2.toNatClampNeg) = (1 : Int32) → wp_M_eraseAll (fun v8 => (∃ n, w_M_clash_58 post u3 u4 u5 u6 u7 u8 u9 u10 u11 n x2 (moW v8.1) 0 v8.1 v8.2.1 u13 v8.2.2)) (moN u0, moM u0, moT u0, 0, moG u0, moS u0, moI u0) u3 u4 u5 u7 u8 u9 u10 u11 u12 u14 x1 1) ∧ (¬ ((iaF u6) x2.toNatClampNeg) = (1 : Int32) → post (-100) (u0, u12, u13, u14)))))))))) u0 x2))) u0 x1
abbrev rm_M_fill : Room := { frames := 6, cells := 0, slots := 0, locals := 145 }
def wb_M_fill_343 (post : Int32 → (MoC × IaC × IaC × IaC × IaC × IaC × IaC × IaC × IaC × IaC × IaC × IaC × IaC) → Prop) (K1 : Int32 → Int32 → MoC → IaC → IaC → IaC → IaC → IaC → IaC → IaC → IaC → IaC → IaC → IaC → IaC → Prop) (y4 : Int32) (y8 : Int32) (w0 : MoC) (w1 : IaC) (w2 : IaC) (w3 : IaC) (w4 : IaC) (w5 : IaC) (w6 : IaC) (w7 : IaC) (w8 : IaC) (w9 : IaC) (w10 : IaC) (w11 : IaC) (w12 : IaC) : Prop :=
  (((moW w0) ≤ y8 → wp_M_judge (fun r17 v16 => ((0 ≤ r17 → post (-100) (v16.1, w1, v16.2.1, w3, w4, w5, v16.2.2.1, v16.2.2.2.1, v16.2.2.2.2.1, v16.2.2.2.2.2.1, v16.2.2.2.2.2.2.1, v16.2.2.2.2.2.2.2, w12)) ∧ (¬ 0 ≤ r17 → (vp_in (moM v16.1) (iaN v16.2.2.2.2.2.2.1) ∧ (vp_in y4 (iaN v16.2.2.2.2.2.2.1) ∧ ((((iaF v16.2.2.2.2.2.2.1) (moM v16.1).toNatClampNeg) = (((iaF v16.2.2.2.2.2.2.1) y4.toNatClampNeg) - 1) → (vp_in y4 (iaN w5) ∧ (vp_in (moM v16.1) (iaN w5) ∧ post (((moM v16.1) + 1) - 1) ((moN v16.1, (moM v16.1) + 1, moT v16.1, moW v16.1, moG v16.1, moS v16.1, moI v16.1), w1, v16.2.1, w3, w4, (iaN w5, upd (iaF w5) (moM v16.1).toNatClampNeg ((iaF w5) y4.toNatClampNeg)), v16.2.2.1, v16.2.2.2.1, v16.2.2.2.2.1, v16.2.2.2.2.2.1, v16.2.2.2.2.2.2.1, v16.2.2.2.2.2.2.2, w12)))) ∧ (¬ ((iaF v16.2.2.2.2.2.2.1) (moM v16.1).toNatClampNeg) = (((iaF v16.2.2.2.2.2.2.1) y4.toNatClampNeg) - 1) → post (-100) (v16.1, w1, v16.2.1, w3, w4, w5, v16.2.2.1, v16.2.2.2.1, v16.2.2.2.2.1, v16.2.2.2.2.2.1, v16.2.2.2.2.2.2.1, v16.2.2.2.2.2.2.2, w12)))))))) w0 w1 w2 w3 w4 w6 w7 w8 w9 w10 w11 (moM w0)) ∧ (¬ (moW w0) ≤ y8 → (vp_in y8 (iaN w12) ∧ (vp_in ((120 * (moM w0)) + y8) (iaN w1) ∧ K1 y4 (y8 + 1) w0 (iaN w1, upd (iaF w1) ((120 * (moM w0)) + y8).toNatClampNeg ((iaF w12) y8.toNatClampNeg)) w2 w3 w4 w5 w6 w7 w8 w9 w10 w11 w12))))
def w_M_fill_343 (post : Int32 → (MoC × IaC × IaC × IaC × IaC × IaC × IaC × IaC × IaC × IaC × IaC × IaC × IaC) → Prop) : Nat → Int32 → Int32 → MoC → IaC → IaC → IaC → IaC → IaC → IaC → IaC → IaC → IaC → IaC → IaC → IaC → Prop
  | 0, _, _, _, _, _, _, _, _, _, _, _, _, _, _, _ => False
  | n + 1, y4, y8, w0, w1, w2, w3, w4, w5, w6, w7, w8, w9, w10, w11, w12 => wb_M_fill_343 post   (w_M_fill_343 post   n) y4 y8 w0 w1 w2 w3 w4 w5 w6 w7 w8 w9 w10 w11 w12
def w_M_fill_284 (post : Int32 → (MoC × IaC × IaC × IaC × IaC × IaC × IaC × IaC × IaC × IaC × IaC × IaC × IaC) → Prop) (K0 : Int32 → Int32 → Int32 → Int32 → Int32 → Int32 → MoC → IaC → IaC → IaC → IaC → IaC → IaC → IaC → IaC → IaC → IaC → IaC → IaC → Prop) (y3 : Int32) (y4 : Int32) (y5 : Int32) (y6 : Int32) (y7 : Int32) (y8 : Int32) (w0 : MoC) (w1 : IaC) (w2 : IaC) (w3 : IaC) (w4 : IaC) (w5 : IaC) (w6 : IaC) (w7 : IaC) (w8 : IaC) (w9 : IaC) (w10 : IaC) (w11 : IaC) (w12 : IaC) : Prop :=
  K0 y3 y4 y5 y6 y7 (y8 + 1) w0 w1 w2 w3 w4 w5 w6 w7 w8 w9 w10 w11 w12
def w_M_fill_198 (post : Int32 → (MoC × IaC × IaC × IaC × IaC × IaC × IaC × IaC × IaC × IaC × IaC × IaC × IaC) → Prop) (K0 : Int32 → Int32 → Int32 → Int32 → Int32 → Int32 → MoC → IaC → IaC → IaC → IaC → IaC → IaC → IaC → IaC → IaC → IaC → IaC → IaC → Prop) (y3 : Int32) (y4 : Int32) (y5 : Int32) (y6 : Int32) (y7 : Int32) (y8 : Int32) (w0 : MoC) (w1 : IaC) (w2 : IaC) (w3 : IaC) (w4 : IaC) (w5 : IaC) (w6 : IaC) (w7 : IaC) (w8 : IaC) (w9 : IaC) (w10 : IaC) (w11 : IaC) (w12 : IaC) : Prop :=
  wp_M_at (fun r18 => wp_M_put (fun v19 => w_M_fill_284 post  K0 y3 y4 y5 y6 y7 y8 v19.1 w1 w2 w3 w4 w5 w6 w7 w8 w9 w10 w11 v19.2) w0 w12 r18) w0 w1 y4 y8
def wb_M_fill_244 (post : Int32 → (MoC × IaC × IaC × IaC × IaC × IaC × IaC × IaC × IaC × IaC × IaC × IaC × IaC) → Prop) (K0 : Int32 → Int32 → Int32 → Int32 → Int32 → Int32 → MoC → IaC → IaC → IaC → IaC → IaC → IaC → IaC → IaC → IaC → IaC → IaC → IaC → Prop) (K2 : Int32 → Int32 → Int32 → Int32 → Int32 → Int32 → Int32 → MoC → IaC → IaC → IaC → IaC → IaC → IaC → IaC → IaC → IaC → IaC → IaC → IaC → Prop) (y3 : Int32) (y4 : Int32) (y5 : Int32) (y6 : Int32) (y7 : Int32) (y8 : Int32) (y9 : Int32) (w0 : MoC) (w1 : IaC) (w2 : IaC) (w3 : IaC) (w4 : IaC) (w5 : IaC) (w6 : IaC) (w7 : IaC) (w8 : IaC) (w9 : IaC) (w10 : IaC) (w11 : IaC) (w12 : IaC) : Prop :=
  (vp_in y3 (iaN w3) ∧ ((((iaF w3) y3.toNatClampNeg) ≤ y9 → wp_M_nameEnd (fun r20 => w_M_fill_284 post  K0 y3 y4 y5 y6 y7 r20 w0 w1 w2 w3 w4 w5 w6 w7 w8 w9 w10 w11 w12) w0 w2 w3 y4 (y8 + 1)) ∧ (¬ ((iaF w3) y3.toNatClampNeg) ≤ y9 → wp_M_at (fun r21 => wp_M_put (fun v22 => K2 y3 y4 y5 y6 y7 y8 (y9 + 1) v22.1 w1 w2 w3 w4 w5 w6 w7 w8 w9 w10 w11 v22.2) w0 w12 r21) w0 w1 y3 y9)))
def w_M_fill_244 (post : Int32 → (MoC × IaC × IaC × IaC × IaC × IaC × IaC × IaC × IaC × IaC × IaC × IaC × IaC) → Prop) (K0 : Int32 → Int32 → Int32 → Int32 → Int32 → Int32 → MoC → IaC → IaC → IaC → IaC → IaC → IaC → IaC → IaC → IaC → IaC → IaC → IaC → Prop) : Nat → Int32 → Int32 → Int32 → Int32 → Int32 → Int32 → Int32 → MoC → IaC → IaC → IaC → IaC → IaC → IaC → IaC → IaC → IaC → IaC → IaC → IaC → Prop
  | 0, _, _, _, _, _, _, _, _, _, _, _, _, _, _, _, _, _, _, _, _ => False
  | n + 1, y3, y4, y5, y6, y7, y8, y9, w0, w1, w2, w3, w4, w5, w6, w7, w8, w9, w10, w11, w12 => wb_M_fill_244 post  K0 (w_M_fill_244 post  K0 n) y3 y4 y5 y6 y7 y8 y9 w0 w1 w2 w3 w4 w5 w6 w7 w8 w9 w10 w11 w12
def w_M_fill_241 (post : Int32 → (MoC × IaC × IaC × IaC × IaC × IaC × IaC × IaC × IaC × IaC × IaC × IaC × IaC) → Prop) (K0 : Int32 → Int32 → Int32 → Int32 → Int32 → Int32 → MoC → IaC → IaC → IaC → IaC → IaC → IaC → IaC → IaC → IaC → IaC → IaC → IaC → Prop) (y3 : Int32) (y4 : Int32) (y5 : Int32) (y6 : Int32) (y7 : Int32) (y8 : Int32) (w0 : MoC) (w1 : IaC) (w2 : IaC) (w3 : IaC) (w4 : IaC) (w5 : IaC) (w6 : IaC) (w7 : IaC) (w8 : IaC) (w9 : IaC) (w10 : IaC) (w11 : IaC) (w12 : IaC) : Prop :=
  (∃ n, w_M_fill_244 post  K0 n y3 y4 y5 y6 y7 y8 0 w0 w1 w2 w3 w4 w5 w6 w7 w8 w9 w10 w11 w12)
def w_M_fill_171 (post : Int32 → (MoC × IaC × IaC × IaC × IaC × IaC × IaC × IaC × IaC × IaC × IaC × IaC × IaC) → Prop) (K0 : Int32 → Int32 → Int32 → Int32 → Int32 → Int32 → MoC → IaC → IaC → IaC → IaC → IaC → IaC → IaC → IaC → IaC → IaC → IaC → IaC → Prop) (y3 : Int32) (y4 : Int32) (y5 : Int32) (y6 : Int32) (y7 : Int32) (y8 : Int32) (w0 : MoC) (w1 : IaC) (w2 : IaC) (w3 : IaC) (w4 : IaC) (w5 : IaC) (w6 : IaC) (w7 : IaC) (w8 : IaC) (w9 : IaC) (w10 : IaC) (w11 : IaC) (w12 : IaC) : Prop :=
  wp_M_roleAt (fun r23 => ((¬ r23 = (2 : Int32) → w_M_fill_198 post  K0 y3 y4 y5 y6 y7 y8 w0 w1 w2 w3 w4 w5 w6 w7 w8 w9 w10 w11 w12) ∧ (r23 = (2 : Int32) → wp_M_param (fun r24 => ((r24 = y5 → wp_M_roleAt (fun r25 => ((¬ r25 = (24 : Int32) → w_M_fill_241 post  K0 y3 y4 y5 y6 y7 y8 w0 w1 w2 w3 w4 w5 w6 w7 w8 w9 w10 w11 w12) ∧ (r25 = (24 : Int32) → wp_M_roleAt (fun r26 => ((¬ r26 = (3 : Int32) → w_M_fill_241 post  K0 y3 y4 y5 y6 y7 y8 w0 w1 w2 w3 w4 w5 w6 w7 w8 w9 w10 w11 w12) ∧ (r26 = (3 : Int32) → post (-100) (w0, w1, w2, w3, w4, w5, w6, w7, w8, w9, w10, w11, w12)))) w0 w2 w3 y3 0))) w0 w2 w3 y4 (y8 - 1)) ∧ (¬ r24 = y5 → w_M_fill_198 post  K0 y3 y4 y5 y6 y7 y8 w0 w1 w2 w3 w4 w5 w6 w7 w8 w9 w10 w11 w12))) w0 w1 w2 w3 w6 w7 w10 y4 y4 y8))) w0 w2 w3 y4 y8
def wb_M_fill_142 (post : Int32 → (MoC × IaC × IaC × IaC × IaC × IaC × IaC × IaC × IaC × IaC × IaC × IaC × IaC) → Prop) (K0 : Int32 → Int32 → Int32 → Int32 → Int32 → Int32 → MoC → IaC → IaC → IaC → IaC → IaC → IaC → IaC → IaC → IaC → IaC → IaC → IaC → Prop) (y3 : Int32) (y4 : Int32) (y5 : Int32) (y6 : Int32) (y7 : Int32) (y8 : Int32) (w0 : MoC) (w1 : IaC) (w2 : IaC) (w3 : IaC) (w4 : IaC) (w5 : IaC) (w6 : IaC) (w7 : IaC) (w8 : IaC) (w9 : IaC) (w10 : IaC) (w11 : IaC) (w12 : IaC) : Prop :=
  (vp_in y4 (iaN w3) ∧ ((((iaF w3) y4.toNatClampNeg) ≤ y8 → (((120 : Int32) < (moW w0) → post (-100) (w0, w1, w2, w3, w4, w5, w6, w7, w8, w9, w10, w11, w12)) ∧ (¬ (120 : Int32) < (moW w0) → ((¬ (moM w0) = (24 : Int32) → (vp_in y4 (iaN w4) ∧ (vp_in (moM w0) (iaN w4) ∧ (vp_in (moM w0) (iaN w3) ∧ (∃ n, w_M_fill_343 post n y4 0 w0 w1 w2 (iaN w3, upd (iaF w3) (moM w0).toNatClampNeg (moW w0)) (iaN w4, upd (iaF w4) (moM w0).toNatClampNeg ((iaF w4) y4.toNatClampNeg)) w5 w6 w7 w8 w9 w10 w11 w12))))) ∧ ((moM w0) = (24 : Int32) → post (-100) (w0, w1, w2, w3, w4, w5, w6, w7, w8, w9, w10, w11, w12)))))) ∧ (¬ ((iaF w3) y4.toNatClampNeg) ≤ y8 → ((y8 < y6 → w_M_fill_171 post  K0 y3 y4 y5 y6 y7 y8 w0 w1 w2 w3 w4 w5 w6 w7 w8 w9 w10 w11 w12) ∧ (¬ y8 < y6 → ((y7 ≤ y8 → w_M_fill_171 post  K0 y3 y4 y5 y6 y7 y8 w0 w1 w2 w3 w4 w5 w6 w7 w8 w9 w10 w11 w12) ∧ (¬ y7 ≤ y8 → w_M_fill_284 post  K0 y3 y4 y5 y6 y7 y8 w0 w1 w2 w3 w4 w5 w6 w7 w8 w9 w10 w11 w12)))))))
def w_M_fill_142 (post : Int32 → (MoC × IaC × IaC × IaC × IaC × IaC × IaC × IaC × IaC × IaC × IaC × IaC × IaC) → Prop) : Nat → Int32 → Int32 → Int32 → Int32 → Int32 → Int32 → MoC → IaC → IaC → IaC → IaC → IaC → IaC → IaC → IaC → IaC → IaC → IaC → IaC → Prop
  | 0, _, _, _, _, _, _, _, _, _, _, _, _, _, _, _, _, _, _, _ => False
  | n + 1, y3, y4, y5, y6, y7, y8, w0, w1, w2, w3, w4, w5, w6, w7, w8, w9, w10, w11, w12 => wb_M_fill_142 post   (w_M_fill_142 post   n) y3 y4 y5 y6 y7 y8 w0 w1 w2 w3 w4 w5 w6 w7 w8 w9 w10 w11 w12
def w_M_fill_132 (post : Int32 → (MoC × IaC × IaC × IaC × IaC × IaC × IaC × IaC × IaC × IaC × IaC × IaC × IaC) → Prop) (y3 : Int32) (y4 : Int32) (y5 : Int32) (y6 : Int32) (z0 : Int32) (w0 : MoC) (w1 : IaC) (w2 : IaC) (w3 : IaC) (w4 : IaC) (w5 : IaC) (w6 : IaC) (w7 : IaC) (w8 : IaC) (w9 : IaC) (w10 : IaC) (w11 : IaC) (w12 : IaC) : Prop :=
  (∃ n, w_M_fill_142 post n y3 y4 y5 y6 z0 0 (moN w0, moM w0, moT w0, 0, moG w0, moS w0, moI w0) w1 w2 w3 w4 w5 w6 w7 w8 w9 w10 w11 w12)
def w_M_fill_77 (post : Int32 → (MoC × IaC × IaC × IaC × IaC × IaC × IaC × IaC × IaC × IaC × IaC × IaC × IaC) → Prop) (y2 : Int32) (y3 : Int32) (y4 : Int32) (y5 : Int32) (z0 : Int32) (w0 : MoC) (w1 : IaC) (w2 : IaC) (w3 : IaC) (w4 : IaC) (w5 : IaC) (w6 : IaC) (w7 : IaC) (w8 : IaC) (w9 : IaC) (w10 : IaC) (w11 : IaC) (w12 : IaC) : Prop :=
  (vp_in y4 (iaN w10) ∧ ((¬ ((iaF w10) y4.toNatClampNeg) = (1 : Int32) → (vp_in y4 (iaN w10) ∧ ((((iaF w10) y4.toNatClampNeg) ≤ (y2 + 1) → wp_M_bodyStart (fun r27 => w_M_fill_132 post y3 y4 y5 z0 (r27 - 1) w0 w1 w2 w3 w4 w5 w6 w7 w8 w9 w10 w11 w12) w0 w2 w3 w10 y4) ∧ (¬ ((iaF w10) y4.toNatClampNeg) ≤ (y2 + 1) → (vp_in (y5 + 1) (iaN w6) ∧ w_M_fill_132 post y3 y4 y5 z0 ((iaF w6) (y5 + 1).toNatClampNeg) w0 w1 w2 w3 w4 w5 w6 w7 w8 w9 w10 w11 w12))))) ∧ (((iaF w10) y4.toNatClampNeg) = (1 : Int32) → wp_M_bodyStart (fun r28 => w_M_fill_132 post y3 y4 y5 z0 r28 w0 w1 w2 w3 w4 w5 w6 w7 w8 w9 w10 w11 w12) w0 w2 w3 w10 y4)))
def wp_M_fill (post : Int32 → (MoC × IaC × IaC × IaC × IaC × IaC × IaC × IaC × IaC × IaC × IaC × IaC × IaC) → Prop) (u0 : MoC) (u4 : IaC) (u5 : IaC) (u6 : IaC) (u7 : IaC) (u8 : IaC) (u9 : IaC) (u10 : IaC) (u11 : IaC) (u12 : IaC) (u13 : IaC) (u14 : IaC) (u15 : IaC) (x1 : Int32) (x2 : Int32) (x3 : Int32) : Prop :=
  wp_M_no (fun r29 => ((¬ r29 = 0 → post (-100) (u0, u4, u5, u6, u7, u8, u9, u10, u11, u12, u13, u14, u15)) ∧ (r29 = 0 → wp_M_no (fun r30 => ((¬ r30 = 0 → post (-100) (u0, u4, u5, u6, u7, u8, u9, u10, u11, u12, u13, u14, u15)) ∧ (r30 = 0 → ((x2 < 0 → post (-100) (u0, u4, u5, u6, u7, u8, u9, u10, u11, u12, u13, u14, u15)) ∧ (¬ x2 < 0 → (vp_in x1 (iaN u13) ∧ ((((iaF u13) x1.toNatClampNeg) ≤ x2 → post (-100) (u0, u4, u5, u6, u7, u8, u9, u10, u11, u12, u13, u14, u15)) ∧ (¬ ((iaF u13) x1.toNatClampNeg) ≤ x2 → (vp_in x3 (iaN u7) ∧ ((((iaF u7) x3.toNatClampNeg) = (2 : Int32) → (vp_in x1 (iaN u13) ∧ ((¬ ((iaF u13) x1.toNatClampNeg) = (1 : Int32) → (vp_in ((20 * x1) + x2) (iaN u9) ∧ w_M_fill_77 post x2 x3 x1 ((20 * x1) + x2) ((iaF u9) ((20 * x1) + x2).toNatClampNeg) u0 u4 u5 u6 u7 u8 u9 u10 u11 u12 u13 u14 u15)) ∧ (((iaF u13) x1.toNatClampNeg) = (1 : Int32) → w_M_fill_77 post x2 x3 x1 ((20 * x1) + x2) 0 u0 u4 u5 u6 u7 u8 u9 u10 u11 u12 u13 u14 u15)))) ∧ (¬ ((iaF u7) x3.toNatClampNeg) = (2 : Int32) → post (-100) (u0, u4, u5, u6, u7, u8, u9, u10, u11, u12, u13, u14, u15)))))))))))) u0 x3))) u0 x1
abbrev rm_M_parameters : Room := { frames := 1, cells := 0, slots := 0, locals := 21 }
def wp_M_parameters (post : Int32 → Prop) (u0 : MoC) (u2 : IaC) (x1 : Int32) : Prop :=
  wp_M_no (fun r2 => ((r2 = 0 → (vp_in x1 (iaN u2) ∧ post ((iaF u2) x1.toNatClampNeg))) ∧ (¬ r2 = 0 → post (-100)))) u0 x1
abbrev rm_M_bounds : Room := { frames := 1, cells := 0, slots := 0, locals := 21 }
def w_M_bounds_22 (post : Int32 → Prop) (u0 : MoC) (u3 : IaC) (u4 : IaC)  : Prop :=
  post (-100)
def wp_M_bounds (post : Int32 → Prop) (u0 : MoC) (u3 : IaC) (u4 : IaC) (x1 : Int32) (x2 : Int32) : Prop :=
  wp_M_no (fun r2 => ((¬ r2 = 0 → w_M_bounds_22 post u0 u3 u4) ∧ (r2 = 0 → ((x2 < 0 → w_M_bounds_22 post u0 u3 u4) ∧ (¬ x2 < 0 → (vp_in x1 (iaN u4) ∧ ((x2 < ((iaF u4) x1.toNatClampNeg) → (vp_in ((20 * x1) + x2) (iaN u3) ∧ post ((iaF u3) ((20 * x1) + x2).toNatClampNeg))) ∧ (¬ x2 < ((iaF u4) x1.toNatClampNeg) → w_M_bounds_22 post u0 u3 u4)))))))) u0 x1
abbrev rm_M_measure : Room := { frames := 4, cells := 0, slots := 0, locals := 96 }
def w_M_measure_186 (post : Int32 → Prop) (u0 : MoC) (u3 : IaC) (u4 : IaC) (u5 : IaC) (u6 : IaC) (u7 : IaC) (u8 : IaC) (u9 : IaC) (K0 : Int32 → Int32 → Int32 → Int32 → Int32 → Int32 → Prop) (y1 : Int32) (y2 : Int32) (y3 : Int32) (y4 : Int32) (y5 : Int32) (y6 : Int32) : Prop :=
  K0 y1 y2 y3 y4 y5 (y6 + 1)
def w_M_measure_170 (post : Int32 → Prop) (u0 : MoC) (u3 : IaC) (u4 : IaC) (u5 : IaC) (u6 : IaC) (u7 : IaC) (u8 : IaC) (u9 : IaC) (K0 : Int32 → Int32 → Int32 → Int32 → Int32 → Int32 → Prop) (y1 : Int32) (y2 : Int32) (y3 : Int32) (y4 : Int32) (y6 : Int32) (z0 : Int32) : Prop :=
  ((¬ y2 = (5 : Int32) → w_M_measure_186 post u0 u3 u4 u5 u6 u7 u8 u9 K0 y1 y2 y3 y4 z0 y6) ∧ (y2 = (5 : Int32) → ((z0 ≤ y3 → w_M_measure_186 post u0 u3 u4 u5 u6 u7 u8 u9 K0 y1 y2 y3 y4 z0 y6) ∧ (¬ z0 ≤ y3 → w_M_measure_186 post u0 u3 u4 u5 u6 u7 u8 u9 K0 y1 y2 z0 y4 z0 y6))))
def w_M_measure_156 (post : Int32 → Prop) (u0 : MoC) (u3 : IaC) (u4 : IaC) (u5 : IaC) (u6 : IaC) (u7 : IaC) (u8 : IaC) (u9 : IaC) (K0 : Int32 → Int32 → Int32 → Int32 → Int32 → Int32 → Prop) (y1 : Int32) (y2 : Int32) (y3 : Int32) (y4 : Int32) (y5 : Int32) (y6 : Int32) (y7 : Int32) : Prop :=
  ((¬ y7 = (3 : Int32) → w_M_measure_170 post u0 u3 u4 u5 u6 u7 u8 u9 K0 y1 y2 y3 y4 y6 0) ∧ (y7 = (3 : Int32) → w_M_measure_170 post u0 u3 u4 u5 u6 u7 u8 u9 K0 y1 y2 y3 y4 y6 (y5 + 1)))
def w_M_measure_142 (post : Int32 → Prop) (u0 : MoC) (u3 : IaC) (u4 : IaC) (u5 : IaC) (u6 : IaC) (u7 : IaC) (u8 : IaC) (u9 : IaC) (K0 : Int32 → Int32 → Int32 → Int32 → Int32 → Int32 → Prop) (y1 : Int32) (y2 : Int32) (y3 : Int32) (y4 : Int32) (y5 : Int32) (y6 : Int32) (y7 : Int32) : Prop :=
  ((¬ y2 = (4 : Int32) → w_M_measure_156 post u0 u3 u4 u5 u6 u7 u8 u9 K0 y1 y2 y3 y4 y5 y6 y7) ∧ (y2 = (4 : Int32) → ((y4 ≤ y3 → w_M_measure_156 post u0 u3 u4 u5 u6 u7 u8 u9 K0 y1 y2 y3 y4 y5 y6 y7) ∧ (¬ y4 ≤ y3 → w_M_measure_156 post u0 u3 u4 u5 u6 u7 u8 u9 K0 y1 y2 y4 y4 y5 y6 y7))))
def w_M_measure_132 (post : Int32 → Prop) (u0 : MoC) (u3 : IaC) (u4 : IaC) (u5 : IaC) (u6 : IaC) (u7 : IaC) (u8 : IaC) (u9 : IaC) (K0 : Int32 → Int32 → Int32 → Int32 → Int32 → Int32 → Prop) (y1 : Int32) (y2 : Int32) (y3 : Int32) (y4 : Int32) (y5 : Int32) (y6 : Int32) (y7 : Int32) : Prop :=
  ((¬ y7 = (13 : Int32) → w_M_measure_142 post u0 u3 u4 u5 u6 u7 u8 u9 K0 y1 y2 y3 y4 y5 y6 y7) ∧ (y7 = (13 : Int32) → w_M_measure_142 post u0 u3 u4 u5 u6 u7 u8 u9 K0 y1 y2 y3 (y4 + (-1)) y5 y6 y7))
def w_M_measure_122 (post : Int32 → Prop) (u0 : MoC) (u3 : IaC) (u4 : IaC) (u5 : IaC) (u6 : IaC) (u7 : IaC) (u8 : IaC) (u9 : IaC) (K0 : Int32 → Int32 → Int32 → Int32 → Int32 → Int32 → Prop) (y1 : Int32) (y2 : Int32) (y3 : Int32) (y4 : Int32) (y5 : Int32) (y6 : Int32) (y7 : Int32) : Prop :=
  ((¬ y7 = (8 : Int32) → w_M_measure_132 post u0 u3 u4 u5 u6 u7 u8 u9 K0 y1 y2 y3 y4 y5 y6 y7) ∧ (y7 = (8 : Int32) → w_M_measure_132 post u0 u3 u4 u5 u6 u7 u8 u9 K0 y1 y2 y3 (y4 + 1) y5 y6 y7))
def w_M_measure_108 (post : Int32 → Prop) (u0 : MoC) (u3 : IaC) (u4 : IaC) (u5 : IaC) (u6 : IaC) (u7 : IaC) (u8 : IaC) (u9 : IaC) (K0 : Int32 → Int32 → Int32 → Int32 → Int32 → Int32 → Prop) (y1 : Int32) (y2 : Int32) (y3 : Int32) (y4 : Int32) (y5 : Int32) (y6 : Int32) (y7 : Int32) : Prop :=
  ((¬ y7 = (1 : Int32) → w_M_measure_122 post u0 u3 u4 u5 u6 u7 u8 u9 K0 y1 y2 y3 y4 y5 y6 y7) ∧ (y7 = (1 : Int32) → ((¬ y2 = (3 : Int32) → w_M_measure_122 post u0 u3 u4 u5 u6 u7 u8 u9 K0 y1 y2 y3 y4 y5 y6 y7) ∧ (y2 = (3 : Int32) → w_M_measure_122 post u0 u3 u4 u5 u6 u7 u8 u9 K0 y1 y2 (y3 + 1) y4 y5 y6 y7))))
def w_M_measure_97 (post : Int32 → Prop) (u0 : MoC) (u3 : IaC) (u4 : IaC) (u5 : IaC) (u6 : IaC) (u7 : IaC) (u8 : IaC) (u9 : IaC) (K0 : Int32 → Int32 → Int32 → Int32 → Int32 → Int32 → Prop) (y1 : Int32) (y2 : Int32) (y3 : Int32) (y4 : Int32) (y5 : Int32) (y6 : Int32) (y7 : Int32) (z0 : Int32) : Prop :=
  ((¬ z0 = y2 → w_M_measure_108 post u0 u3 u4 u5 u6 u7 u8 u9 K0 y1 y2 y3 y4 y5 y6 y7) ∧ (z0 = y2 → w_M_measure_108 post u0 u3 u4 u5 u6 u7 u8 u9 K0 y1 y2 (y3 + 1) y4 y5 y6 y7))
def wb_M_measure_31 (post : Int32 → Prop) (u0 : MoC) (u3 : IaC) (u4 : IaC) (u5 : IaC) (u6 : IaC) (u7 : IaC) (u8 : IaC) (u9 : IaC) (K0 : Int32 → Int32 → Int32 → Int32 → Int32 → Int32 → Prop) (y1 : Int32) (y2 : Int32) (y3 : Int32) (y4 : Int32) (y5 : Int32) (y6 : Int32) : Prop :=
  (vp_in y1 (iaN u5) ∧ ((((iaF u5) y1.toNatClampNeg) ≤ y6 → post y3) ∧ (¬ ((iaF u5) y1.toNatClampNeg) ≤ y6 → wp_M_roleAt (fun r5 => ((¬ r5 = (2 : Int32) → w_M_measure_108 post u0 u3 u4 u5 u6 u7 u8 u9 K0 y1 y2 y3 y4 y5 y6 r5) ∧ (r5 = (2 : Int32) → (((3 : Int32) ≤ y2 → w_M_measure_108 post u0 u3 u4 u5 u6 u7 u8 u9 K0 y1 y2 y3 y4 y5 y6 r5) ∧ (¬ (3 : Int32) ≤ y2 → wp_M_own (fun r6 => ((r6 = 0 → (vp_in y1 (iaN u6) ∧ wp_M_param (fun r7 => ((r7 < 0 → w_M_measure_97 post u0 u3 u4 u5 u6 u7 u8 u9 K0 y1 y2 y3 y4 y5 y6 r5 0) ∧ (¬ r7 < 0 → w_M_measure_97 post u0 u3 u4 u5 u6 u7 u8 u9 K0 y1 y2 y3 y4 y5 y6 r5 2))) u0 u3 u4 u5 u7 u8 u9 ((iaF u6) y1.toNatClampNeg) y1 y6)) ∧ (¬ r6 = 0 → w_M_measure_97 post u0 u3 u4 u5 u6 u7 u8 u9 K0 y1 y2 y3 y4 y5 y6 r5 1))) u0 u3 u4 u5 u7 u8 u9 y1 y6))))) u0 u4 u5 y1 y6)))
def w_M_measure_31 (post : Int32 → Prop) (u0 : MoC) (u3 : IaC) (u4 : IaC) (u5 : IaC) (u6 : IaC) (u7 : IaC) (u8 : IaC) (u9 : IaC) : Nat → Int32 → Int32 → Int32 → Int32 → Int32 → Int32 → Prop
  | 0, _, _, _, _, _, _ => False
  | n + 1, y1, y2, y3, y4, y5, y6 => wb_M_measure_31 post u0 u3 u4 u5 u6 u7 u8 u9  (w_M_measure_31 post u0 u3 u4 u5 u6 u7 u8 u9  n) y1 y2 y3 y4 y5 y6
def wp_M_measure (post : Int32 → Prop) (u0 : MoC) (u3 : IaC) (u4 : IaC) (u5 : IaC) (u6 : IaC) (u7 : IaC) (u8 : IaC) (u9 : IaC) (x1 : Int32) (x2 : Int32) : Prop :=
  wp_M_no (fun r8 => ((¬ r8 = 0 → post (-100)) ∧ (r8 = 0 → ((x2 < 0 → post (-100)) ∧ (¬ x2 < 0 → ((x2 ≤ (5 : Int32) → (∃ n, w_M_measure_31 post u0 u3 u4 u5 u6 u7 u8 u9 n x1 x2 0 0 0 0)) ∧ (¬ x2 ≤ (5 : Int32) → post (-100)))))))) u0 x1
abbrev rm_M_count : Room := { frames := 0, cells := 0, slots := 0, locals := 0 }
def wp_M_count (post : Int32 → Prop) (u0 : MoC) (x1 : Int32) : Prop :=
  ((¬ x1 = 0 → ((¬ x1 = (1 : Int32) → post (-100)) ∧ (x1 = (1 : Int32) → post (moN u0)))) ∧ (x1 = 0 → post (moM u0)))
abbrev rm_M_init : Room := { frames := 1, cells := 15, slots := 18770, locals := 12 }
def wp_M_init (post : (MoC × IaC × IaC × IaC × IaC × IaC × IaC × IaC × IaC × IaC × IaC × IaC × IaC × IaC × IaC × ZaC) → Prop) (u0 : MoBC) : Prop :=
  post ((mob_0 u0, mob_1 u0, mob_2 u0, mob_3 u0, mob_4 u0, mob_5 u0, mob_6 u0), (40, fun _ => 0), (3000, fun _ => 0), (3000, fun _ => 0), (25, fun _ => 0), (25, fun _ => 0), (25, fun _ => 0), (500, fun _ => 0), (500, fun _ => 0), (500, fun _ => 0), (500, fun _ => 0), (25, fun _ => 0), (130, fun _ => 0), (5000, fun _ => 0), (5000, fun _ => 0), (500, fun _ => 0))
