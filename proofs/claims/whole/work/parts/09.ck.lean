abbrev rm_J_checkIndex : Room := { frames := 1, cells := 0, slots := 0, locals := 40 }
def wp_J_checkIndex (post : Unit → Prop) (x0 : Int32) (x1 : Int32) : Prop := ((¬ x0 < 0 ∧ x0 < x1) ∧ post ())
theorem c_J_checkIndex (l : Launch) (G : GX) (x0 : Int32) (x1 : Int32) (post : Unit → Prop) (h : wp_J_checkIndex post x0 x1) : Met l y_JS_checkIndex wc_JS_checkIndex rm_J_checkIndex (mP G [.int x0, .int x1] []) (va_Sv post) 0 0 (fun _ => False) := sorry
