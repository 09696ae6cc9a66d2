set_option maxHeartbeats 4000000 in
set_option maxRecDepth 100000 in
theorem t_M_type_in {p : Program} {l : Launch} {e : Env} {s : State} {m : MethodId} {args : Array Value} {below : List Frame} {meth : Method} {c : Code} {G : GX} {a0_0 a0_1 a0_2 a0_3 a0_4 a0_5 a0_6 a0_7 a0_8 a0_9 a0_10 a0_11 a0_12 a0_13 a0_14 a0_15 : Nat} {post : Int32 → (MoC × IaC) → Prop} {A : Nat → Prop} {u0 : MoC} {u2 : IaC} {x1 : Int32} (E : EN p s m args meth c G R_Mo cc_Mo_type 2 (some .int) BG) (hR : va_P G.1 vwCl [] s.heap) (hA : ∀ q : Nat, s.heap.size ≤ q → A q) (hAB : ∀ q : Nat, A q → G.2.2.1 ≤ q) (hRn : ∀ (j : Nat) (q : Nat × va_E), ([] : va_W)[j]? = some q → ¬ A q.1) : ∀ (H : Heap) (locs : List Loc) (ls : Array Slot), wp_M_type post u0 u2 x1 → va_P G.1 vwCl [(a0_0, .inr (7, [.ref a0_1, .int (moN u0), .ref a0_2, .ref a0_3, .ref a0_4, .ref a0_5, .ref a0_6, .ref a0_7, .ref a0_8, .ref a0_9, .ref a0_10, .ref a0_11, .int (moM u0), .ref a0_12, .int (moT u0), .ref a0_13, .int (moW u0), .ref a0_14, .ref a0_15, .int (moG u0), .int (moS u0), .int (moI u0)])), (a0_1, .inl (G.2.1 1, iaN u2, .inl (iaF u2)))] H → va_D A [(a0_0, .inr (7, [.ref a0_1, .int (moN u0), .ref a0_2, .ref a0_3, .ref a0_4, .ref a0_5, .ref a0_6, .ref a0_7, .ref a0_8, .ref a0_9, .ref a0_10, .ref a0_11, .int (moM u0), .ref a0_12, .int (moT u0), .ref a0_13, .int (moW u0), .ref a0_14, .ref a0_15, .int (moG u0), .int (moS u0), .int (moI u0)])), (a0_1, .inl (G.2.1 1, iaN u2, .inl (iaF u2)))] → va_S A s.heap H locs → lv_has ls 2 [(0, .ref a0_0), (1, .int x1)] → W p l e rm_M_type s m args below meth c H locs 0 0 (MQ below (va_Qi post (fun (u : MoC × IaC) (t : State) => va_P G.1 vwCl [(a0_0, .inr (7, [.ref a0_1, .int (moN u.1), .ref a0_2, .ref a0_3, .ref a0_4, .ref a0_5, .ref a0_6, .ref a0_7, .ref a0_8, .ref a0_9, .ref a0_10, .ref a0_11, .int (moM u.1), .ref a0_12, .int (moT u.1), .ref a0_13, .int (moW u.1), .ref a0_14, .ref a0_15, .int (moG u.1), .int (moS u.1), .int (moI u.1)])), (a0_1, .inl (G.2.1 1, iaN u.2, .inl (iaF u.2)))] t.heap) A) args s 0 0 A) (F0 m 0 ls []) := by
  obtain ⟨hx, hb, hr, hts, hown, hlocks, hml, hC⟩ := id E
  have hK := hC.1
  intro H locs ls h hP hD hS hl
  unfold wp_M_type at h
  refine lv_iload_n hx hb d_Mo_type_0 rfl (lv_at hl 1 rfl) ?_
  refine lv_bipush (v := 33) hx hb d_Mo_type_1 (by decide) ?_
  refine lv_icmp_lt (tgt := 21) hx hb d_Mo_type_3 (by decide) (fun c9 => ?_) (fun c9 => ?_)
  · have h := h.1 c9
    refine lv_bipush (v := (-100)) hx hb d_Mo_type_21 (by decide) ?_
    exact W.iret hx hb hr (fun t ht hW => ⟨⟨_, _, rfl, h, vaP_at ht hP⟩, hS.F ht⟩) hS.2.2 d_Mo_type_23
  · have h := h.2 c9
    refine lv_iload_n hx hb d_Mo_type_6 rfl (lv_at hl 1 rfl) ?_
    refine lv_bipush (v := 126) hx hb d_Mo_type_7 (by decide) ?_
    refine lv_icmp_gt (tgt := 21) hx hb d_Mo_type_9 (by decide) (fun c9 => ?_) (fun c9 => ?_)
    · have h := h.1 c9
      refine lv_bipush (v := (-100)) hx hb d_Mo_type_21 (by decide) ?_
      exact W.iret hx hb hr (fun t ht hW => ⟨⟨_, _, rfl, h, vaP_at ht hP⟩, hS.F ht⟩) hS.2.2 d_Mo_type_23
    · have h := h.2 c9
      refine lv_aload_n hx hb d_Mo_type_12 rfl (lv_at hl 0 rfl) ?_
      refine va_get (D := G.1) (ci := 7) (v := .int (moN u0)) (C := R_Mo) (T := T_Mo) (N := 22) hx hb hts i_Mo hown hK hP 0 rfl rfl 1 (by decide) (hts _ b_419) (fun _ h9 => h9) rfl d_Mo_type_13 ?_
      refine lv_bipush (v := 40) hx hb d_Mo_type_16 (by decide) ?_
      refine lv_icmp_ne (tgt := 24) hx hb d_Mo_type_18 (by decide) (fun c9 => ?_) (fun c9 => ?_)
      · have h := h.1 c9
        refine lv_aload_n hx hb d_Mo_type_24 rfl (lv_at hl 0 rfl) ?_
        refine va_get (D := G.1) (ci := 7) (v := .ref a0_1) (C := R_Mo) (T := T_Mo) (N := 22) hx hb hts i_Mo hown hK hP 0 rfl rfl 0 (by decide) (hts _ b_420) (fun _ h9 => h9) rfl d_Mo_type_25 ?_
        refine lv_aload_n hx hb d_Mo_type_28 rfl (lv_at hl 0 rfl) ?_
        refine va_get (D := G.1) (ci := 7) (v := .int (moN u0)) (C := R_Mo) (T := T_Mo) (N := 22) hx hb hts i_Mo hown hK hP 0 rfl rfl 1 (by decide) (hts _ b_419) (fun _ h9 => h9) rfl d_Mo_type_29 ?_
        refine lv_iload_n hx hb d_Mo_type_32 rfl (lv_at hl 1 rfl) ?_
        have hi9 := h.1
        have h := h.2
        refine va_iast hx hb hK hP hD hS 1 1 rfl rfl hi9 d_Mo_type_33 (fun H locs hP hD hS => ?_)
        have hP : va_P G.1 vwCl [(a0_0, .inr (7, [.ref a0_1, .int (moN u0), .ref a0_2, .ref a0_3, .ref a0_4, .ref a0_5, .ref a0_6, .ref a0_7, .ref a0_8, .ref a0_9, .ref a0_10, .ref a0_11, .int (moM u0), .ref a0_12, .int (moT u0), .ref a0_13, .int (moW u0), .ref a0_14, .ref a0_15, .int (moG u0), .int (moS u0), .int (moI u0)])), (a0_1, .inl (G.2.1 1, iaN u2, .inl (upd (iaF u2) (moN u0).toNatClampNeg x1)))] H := hP
        have hD : va_D A [(a0_0, .inr (7, [.ref a0_1, .int (moN u0), .ref a0_2, .ref a0_3, .ref a0_4, .ref a0_5, .ref a0_6, .ref a0_7, .ref a0_8, .ref a0_9, .ref a0_10, .ref a0_11, .int (moM u0), .ref a0_12, .int (moT u0), .ref a0_13, .int (moW u0), .ref a0_14, .ref a0_15, .int (moG u0), .int (moS u0), .int (moI u0)])), (a0_1, .inl (G.2.1 1, iaN u2, .inl (upd (iaF u2) (moN u0).toNatClampNeg x1)))] := hD
        refine lv_aload_n hx hb d_Mo_type_34 rfl (lv_at hl 0 rfl) ?_
        refine lv_dup hx hb d_Mo_type_35 rfl ?_
        refine va_get (D := G.1) (ci := 7) (v := .int (moN u0)) (C := R_Mo) (T := T_Mo) (N := 22) hx hb hts i_Mo hown hK hP 0 rfl rfl 1 (by decide) (hts _ b_419) (fun _ h9 => h9) rfl d_Mo_type_36 ?_
        refine lv_iconst (v := 1) hx hb d_Mo_type_39 (by decide) ?_
        refine lv_iadd hx hb d_Mo_type_40 ?_
        refine va_put (D := G.1) (ci := 7) (v := .int ((moN u0) + 1)) (ty := .int) (C := R_Mo) (T := T_Mo) (N := 22) hx hb hts i_Mo ty_Mo tyok_Mo nm_Mo hown hK hP hD hS 0 rfl rfl 1 (by decide) (hts _ b_419) (fun _ h9 => h9) rfl (by decide +kernel) rfl rfl (Nat.le_of_ble_eq_true rfl) d_Mo_type_41 (fun H locs hP hD hS => ?_)
        have hP : va_P G.1 vwCl [(a0_0, .inr (7, [.ref a0_1, .int ((moN u0) + 1), .ref a0_2, .ref a0_3, .ref a0_4, .ref a0_5, .ref a0_6, .ref a0_7, .ref a0_8, .ref a0_9, .ref a0_10, .ref a0_11, .int (moM u0), .ref a0_12, .int (moT u0), .ref a0_13, .int (moW u0), .ref a0_14, .ref a0_15, .int (moG u0), .int (moS u0), .int (moI u0)])), (a0_1, .inl (G.2.1 1, iaN u2, .inl (upd (iaF u2) (moN u0).toNatClampNeg x1)))] H := hP
        have hD : va_D A [(a0_0, .inr (7, [.ref a0_1, .int ((moN u0) + 1), .ref a0_2, .ref a0_3, .ref a0_4, .ref a0_5, .ref a0_6, .ref a0_7, .ref a0_8, .ref a0_9, .ref a0_10, .ref a0_11, .int (moM u0), .ref a0_12, .int (moT u0), .ref a0_13, .int (moW u0), .ref a0_14, .ref a0_15, .int (moG u0), .int (moS u0), .int (moI u0)])), (a0_1, .inl (G.2.1 1, iaN u2, .inl (upd (iaF u2) (moN u0).toNatClampNeg x1)))] := hD
        refine lv_aload_n hx hb d_Mo_type_44 rfl (lv_at hl 0 rfl) ?_
        refine va_get (D := G.1) (ci := 7) (v := .int ((moN u0) + 1)) (C := R_Mo) (T := T_Mo) (N := 22) hx hb hts i_Mo hown hK hP 0 rfl rfl 1 (by decide) (hts _ b_419) (fun _ h9 => h9) rfl d_Mo_type_45 ?_
        exact W.iret hx hb hr (fun t ht hW => ⟨⟨_, _, rfl, h, vaP_at ht hP⟩, hS.F ht⟩) hS.2.2 d_Mo_type_48
      · have h := h.2 c9
        refine lv_bipush (v := (-100)) hx hb d_Mo_type_21 (by decide) ?_
        exact W.iret hx hb hr (fun t ht hW => ⟨⟨_, _, rfl, h, vaP_at ht hP⟩, hS.F ht⟩) hS.2.2 d_Mo_type_23
set_option maxHeartbeats 4000000 in
set_option maxRecDepth 100000 in
theorem c_M_type (l : Launch) (G : GX) (a0_0 a0_1 a0_2 a0_3 a0_4 a0_5 a0_6 a0_7 a0_8 a0_9 a0_10 a0_11 a0_12 a0_13 a0_14 a0_15 : Nat) (u0 : MoC) (u2 : IaC) (x1 : Int32) (sz : Nat) (post : Int32 → (MoC × IaC) → Prop) (h : wp_M_type post u0 u2 x1) : Met l y_Mo_type wc_Mo_type rm_M_type (mW G [.ref a0_0, .int x1] sz [(a0_0, .inr (7, [.ref a0_1, .int (moN u0), .ref a0_2, .ref a0_3, .ref a0_4, .ref a0_5, .ref a0_6, .ref a0_7, .ref a0_8, .ref a0_9, .ref a0_10, .ref a0_11, .int (moM u0), .ref a0_12, .int (moT u0), .ref a0_13, .int (moW u0), .ref a0_14, .ref a0_15, .int (moG u0), .int (moS u0), .int (moI u0)])), (a0_1, .inl (G.2.1 1, iaN u2, .inl (iaF u2)))] []) (va_Qi post (fun (u : MoC × IaC) (t : State) => va_P G.1 vwCl [(a0_0, .inr (7, [.ref a0_1, .int (moN u.1), .ref a0_2, .ref a0_3, .ref a0_4, .ref a0_5, .ref a0_6, .ref a0_7, .ref a0_8, .ref a0_9, .ref a0_10, .ref a0_11, .int (moM u.1), .ref a0_12, .int (moT u.1), .ref a0_13, .int (moW u.1), .ref a0_14, .ref a0_15, .int (moG u.1), .int (moS u.1), .int (moI u.1)])), (a0_1, .inl (G.2.1 1, iaN u.2, .inl (iaF u.2)))] t.heap) (va_A [(a0_0, .inr (7, [.ref a0_1, .int (moN u0), .ref a0_2, .ref a0_3, .ref a0_4, .ref a0_5, .ref a0_6, .ref a0_7, .ref a0_8, .ref a0_9, .ref a0_10, .ref a0_11, .int (moM u0), .ref a0_12, .int (moT u0), .ref a0_13, .int (moW u0), .ref a0_14, .ref a0_15, .int (moG u0), .int (moS u0), .int (moI u0)])), (a0_1, .inl (G.2.1 1, iaN u2, .inl (iaF u2)))] sz)) 0 0 (va_A [(a0_0, .inr (7, [.ref a0_1, .int (moN u0), .ref a0_2, .ref a0_3, .ref a0_4, .ref a0_5, .ref a0_6, .ref a0_7, .ref a0_8, .ref a0_9, .ref a0_10, .ref a0_11, .int (moM u0), .ref a0_12, .int (moT u0), .ref a0_13, .int (moW u0), .ref a0_14, .ref a0_15, .int (moG u0), .int (moS u0), .int (moI u0)])), (a0_1, .inl (G.2.1 1, iaN u2, .inl (iaF u2)))] sz) := by
  refine Met.ofW (cc := cc_Mo_type) (maxL := 2) (ret := (some .int)) (by decide) rfl ?_
  intro p e s m args below meth c s₁ B hml hv
  obtain ⟨rfl, hC, hsz, hP, hD0, hR, hap⟩ := hv
  have E : EN p s m ([.ref a0_0, .int x1] : List Value).toArray meth c G R_Mo cc_Mo_type 2 (some .int) BG := ⟨B.exec, B.bytes, B.returns, fun w h => atoms_spec (ws := wc_Mo_type) B.pre w (List.mem_cons_of_mem _ h), findClass_of_methodNamed B.named, B.notSynchronized, hml, hC⟩
  subst hsz
  have hD := hD0.self (sz := s.heap.size)
  have hRn := mw_notA hR hap
  have hAB := mw_AB hD0 hC
  have hA : ∀ q : Nat, s.heap.size ≤ q → va_A [(a0_0, .inr (7, [.ref a0_1, .int (moN u0), .ref a0_2, .ref a0_3, .ref a0_4, .ref a0_5, .ref a0_6, .ref a0_7, .ref a0_8, .ref a0_9, .ref a0_10, .ref a0_11, .int (moM u0), .ref a0_12, .int (moT u0), .ref a0_13, .int (moW u0), .ref a0_14, .ref a0_15, .int (moG u0), .int (moS u0), .int (moI u0)])), (a0_1, .inl (G.2.1 1, iaN u2, .inl (iaF u2)))] s.heap.size q := fun q z => Or.inr z
  generalize va_A [(a0_0, .inr (7, [.ref a0_1, .int (moN u0), .ref a0_2, .ref a0_3, .ref a0_4, .ref a0_5, .ref a0_6, .ref a0_7, .ref a0_8, .ref a0_9, .ref a0_10, .ref a0_11, .int (moM u0), .ref a0_12, .int (moT u0), .ref a0_13, .int (moW u0), .ref a0_14, .ref a0_15, .int (moG u0), .int (moS u0), .int (moI u0)])), (a0_1, .inl (G.2.1 1, iaN u2, .inl (iaF u2)))] s.heap.size = A at hD hRn hAB hA ⊢
  have hl := lv_entry ([.ref a0_0, .int x1]) (n := 2) (Nat.le_of_ble_eq_true rfl)
  rw [lg_entry_eq]
  generalize (lg_sl ([.ref a0_0, .int x1]) ++ List.replicate (2 - (lg_sl ([.ref a0_0, .int x1])).length) Slot.unset).toArray = ls at hl ⊢
  have hl : lv_has ls 2 [(0, .ref a0_0), (1, .int x1)] := hl
  exact t_M_type_in E hR hA hAB hRn _ _ _ h hP hD va_S.rf hl
set_option maxHeartbeats 4000000 in
set_option maxRecDepth 100000 in
theorem t_M_clear_in {p : Program} {l : Launch} {e : Env} {s : State} {m : MethodId} {args : Array Value} {below : List Frame} {meth : Method} {c : Code} {G : GX} {a0_0 a0_1 a0_2 a0_3 a0_4 a0_5 a0_6 a0_7 a0_8 a0_9 a0_10 a0_11 a0_12 a0_13 a0_14 a0_15 : Nat} {post : MoC → Prop} {A : Nat → Prop} {u0 : MoC} (E : EN p s m args meth c G R_Mo cc_Mo_clear 1 none BG) (hR : va_P G.1 vwCl [] s.heap) (hA : ∀ q : Nat, s.heap.size ≤ q → A q) (hAB : ∀ q : Nat, A q → G.2.2.1 ≤ q) (hRn : ∀ (j : Nat) (q : Nat × va_E), ([] : va_W)[j]? = some q → ¬ A q.1) : ∀ (H : Heap) (locs : List Loc) (ls : Array Slot), wp_M_clear post u0 → va_P G.1 vwCl [(a0_0, .inr (7, [.ref a0_1, .int (moN u0), .ref a0_2, .ref a0_3, .ref a0_4, .ref a0_5, .ref a0_6, .ref a0_7, .ref a0_8, .ref a0_9, .ref a0_10, .ref a0_11, .int (moM u0), .ref a0_12, .int (moT u0), .ref a0_13, .int (moW u0), .ref a0_14, .ref a0_15, .int (moG u0), .int (moS u0), .int (moI u0)]))] H → va_D A [(a0_0, .inr (7, [.ref a0_1, .int (moN u0), .ref a0_2, .ref a0_3, .ref a0_4, .ref a0_5, .ref a0_6, .ref a0_7, .ref a0_8, .ref a0_9, .ref a0_10, .ref a0_11, .int (moM u0), .ref a0_12, .int (moT u0), .ref a0_13, .int (moW u0), .ref a0_14, .ref a0_15, .int (moG u0), .int (moS u0), .int (moI u0)]))] → va_S A s.heap H locs → lv_has ls 1 [(0, .ref a0_0)] → W p l e rm_M_clear s m args below meth c H locs 0 0 (MQ below (va_Qv post (fun (u : MoC) (t : State) => va_P G.1 vwCl [(a0_0, .inr (7, [.ref a0_1, .int (moN u), .ref a0_2, .ref a0_3, .ref a0_4, .ref a0_5, .ref a0_6, .ref a0_7, .ref a0_8, .ref a0_9, .ref a0_10, .ref a0_11, .int (moM u), .ref a0_12, .int (moT u), .ref a0_13, .int (moW u), .ref a0_14, .ref a0_15, .int (moG u), .int (moS u), .int (moI u)]))] t.heap) A) args s 0 0 A) (F0 m 0 ls []) := by
  obtain ⟨hx, hb, hr, hts, hown, hlocks, hml, hC⟩ := id E
  have hK := hC.1
  intro H locs ls h hP hD hS hl
  unfold wp_M_clear at h
  refine lv_aload_n hx hb d_Mo_clear_0 rfl (lv_at hl 0 rfl) ?_
  refine lv_iconst (v := 0) hx hb d_Mo_clear_1 (by decide) ?_
  refine va_put (D := G.1) (ci := 7) (v := .int 0) (ty := .int) (C := R_Mo) (T := T_Mo) (N := 22) hx hb hts i_Mo ty_Mo tyok_Mo nm_Mo hown hK hP hD hS 0 rfl rfl 1 (by decide) (hts _ b_419) (fun _ h9 => h9) rfl (by decide +kernel) rfl rfl (Nat.le_of_ble_eq_true rfl) d_Mo_clear_2 (fun H locs hP hD hS => ?_)
  have hP : va_P G.1 vwCl [(a0_0, .inr (7, [.ref a0_1, .int 0, .ref a0_2, .ref a0_3, .ref a0_4, .ref a0_5, .ref a0_6, .ref a0_7, .ref a0_8, .ref a0_9, .ref a0_10, .ref a0_11, .int (moM u0), .ref a0_12, .int (moT u0), .ref a0_13, .int (moW u0), .ref a0_14, .ref a0_15, .int (moG u0), .int (moS u0), .int (moI u0)]))] H := hP
  have hD : va_D A [(a0_0, .inr (7, [.ref a0_1, .int 0, .ref a0_2, .ref a0_3, .ref a0_4, .ref a0_5, .ref a0_6, .ref a0_7, .ref a0_8, .ref a0_9, .ref a0_10, .ref a0_11, .int (moM u0), .ref a0_12, .int (moT u0), .ref a0_13, .int (moW u0), .ref a0_14, .ref a0_15, .int (moG u0), .int (moS u0), .int (moI u0)]))] := hD
  exact W.vret hx hb hr (fun t ht hW => ⟨⟨_, rfl, h, vaP_at ht hP⟩, hS.F ht⟩) hS.2.2 d_Mo_clear_5
set_option maxHeartbeats 4000000 in
set_option maxRecDepth 100000 in
theorem c_M_clear (l : Launch) (G : GX) (a0_0 a0_1 a0_2 a0_3 a0_4 a0_5 a0_6 a0_7 a0_8 a0_9 a0_10 a0_11 a0_12 a0_13 a0_14 a0_15 : Nat) (u0 : MoC) (sz : Nat) (post : MoC → Prop) (h : wp_M_clear post u0) : Met l y_Mo_clear wc_Mo_clear rm_M_clear (mW G [.ref a0_0] sz [(a0_0, .inr (7, [.ref a0_1, .int (moN u0), .ref a0_2, .ref a0_3, .ref a0_4, .ref a0_5, .ref a0_6, .ref a0_7, .ref a0_8, .ref a0_9, .ref a0_10, .ref a0_11, .int (moM u0), .ref a0_12, .int (moT u0), .ref a0_13, .int (moW u0), .ref a0_14, .ref a0_15, .int (moG u0), .int (moS u0), .int (moI u0)]))] []) (va_Qv post (fun (u : MoC) (t : State) => va_P G.1 vwCl [(a0_0, .inr (7, [.ref a0_1, .int (moN u), .ref a0_2, .ref a0_3, .ref a0_4, .ref a0_5, .ref a0_6, .ref a0_7, .ref a0_8, .ref a0_9, .ref a0_10, .ref a0_11, .int (moM u), .ref a0_12, .int (moT u), .ref a0_13, .int (moW u), .ref a0_14, .ref a0_15, .int (moG u), .int (moS u), .int (moI u)]))] t.heap) (va_A [(a0_0, .inr (7, [.ref a0_1, .int (moN u0), .ref a0_2, .ref a0_3, .ref a0_4, .ref a0_5, .ref a0_6, .ref a0_7, .ref a0_8, .ref a0_9, .ref a0_10, .ref a0_11, .int (moM u0), .ref a0_12, .int (moT u0), .ref a0_13, .int (moW u0), .ref a0_14, .ref a0_15, .int (moG u0), .int (moS u0), .int (moI u0)]))] sz)) 0 0 (va_A [(a0_0, .inr (7, [.ref a0_1, .int (moN u0), .ref a0_2, .ref a0_3, .ref a0_4, .ref a0_5, .ref a0_6, .ref a0_7, .ref a0_8, .ref a0_9, .ref a0_10, .ref a0_11, .int (moM u0), .ref a0_12, .int (moT u0), .ref a0_13, .int (moW u0), .ref a0_14, .ref a0_15, .int (moG u0), .int (moS u0), .int (moI u0)]))] sz) := by
  refine Met.ofW (cc := cc_Mo_clear) (maxL := 1) (ret := none) (by decide) rfl ?_
  intro p e s m args below meth c s₁ B hml hv
  obtain ⟨rfl, hC, hsz, hP, hD0, hR, hap⟩ := hv
  have E : EN p s m ([.ref a0_0] : List Value).toArray meth c G R_Mo cc_Mo_clear 1 none BG := ⟨B.exec, B.bytes, B.returns, fun w h => atoms_spec (ws := wc_Mo_clear) B.pre w (List.mem_cons_of_mem _ h), findClass_of_methodNamed B.named, B.notSynchronized, hml, hC⟩
  subst hsz
  have hD := hD0.self (sz := s.heap.size)
  have hRn := mw_notA hR hap
  have hAB := mw_AB hD0 hC
  have hA : ∀ q : Nat, s.heap.size ≤ q → va_A [(a0_0, .inr (7, [.ref a0_1, .int (moN u0), .ref a0_2, .ref a0_3, .ref a0_4, .ref a0_5, .ref a0_6, .ref a0_7, .ref a0_8, .ref a0_9, .ref a0_10, .ref a0_11, .int (moM u0), .ref a0_12, .int (moT u0), .ref a0_13, .int (moW u0), .ref a0_14, .ref a0_15, .int (moG u0), .int (moS u0), .int (moI u0)]))] s.heap.size q := fun q z => Or.inr z
  generalize va_A [(a0_0, .inr (7, [.ref a0_1, .int (moN u0), .ref a0_2, .ref a0_3, .ref a0_4, .ref a0_5, .ref a0_6, .ref a0_7, .ref a0_8, .ref a0_9, .ref a0_10, .ref a0_11, .int (moM u0), .ref a0_12, .int (moT u0), .ref a0_13, .int (moW u0), .ref a0_14, .ref a0_15, .int (moG u0), .int (moS u0), .int (moI u0)]))] s.heap.size = A at hD hRn hAB hA ⊢
  have hl := lv_entry ([.ref a0_0]) (n := 1) (Nat.le_of_ble_eq_true rfl)
  rw [lg_entry_eq]
  generalize (lg_sl ([.ref a0_0]) ++ List.replicate (1 - (lg_sl ([.ref a0_0])).length) Slot.unset).toArray = ls at hl ⊢
  have hl : lv_has ls 1 [(0, .ref a0_0)] := hl
  exact t_M_clear_in E hR hA hAB hRn _ _ _ h hP hD va_S.rf hl
set_option maxHeartbeats 4000000 in
set_option maxRecDepth 100000 in
theorem t_M_at_in {p : Program} {l : Launch} {e : Env} {s : State} {m : MethodId} {args : Array Value} {below : List Frame} {meth : Method} {c : Code} {G : GX} {a0_0 a0_1 a0_2 a0_3 a0_4 a0_5 a0_6 a0_7 a0_8 a0_9 a0_10 a0_11 a0_12 a0_13 a0_14 a0_15 : Nat} {u0 : MoC} {u3 : IaC} {post : Int32 → Prop} {x1 : Int32} {x2 : Int32} (E : EN p s m args meth c G R_Mo cc_Mo_at 3 (some .int) BG) (hR : va_P G.1 vwCl [(a0_0, .inr (7, [.ref a0_1, .int (moN u0), .ref a0_2, .ref a0_3, .ref a0_4, .ref a0_5, .ref a0_6, .ref a0_7, .ref a0_8, .ref a0_9, .ref a0_10, .ref a0_11, .int (moM u0), .ref a0_12, .int (moT u0), .ref a0_13, .int (moW u0), .ref a0_14, .ref a0_15, .int (moG u0), .int (moS u0), .int (moI u0)])), (a0_2, .inl (G.2.1 1, iaN u3, .inl (iaF u3)))] s.heap) : ∀ (ls : Array Slot), wp_M_at post u0 u3 x1 x2 → lv_has ls 3 [(0, .ref a0_0), (1, .int x1), (2, .int x2)] → W p l e rm_M_at s m args below meth c s.heap [] 0 0 (MQ below (vp_Si post) args s 0 0 (fun _ => False)) (F0 m 0 ls []) := by
  obtain ⟨hx, hb, hr, hts, hown, hlocks, hml, hC⟩ := id E
  have hK := hC.1
  intro ls h hl
  unfold wp_M_at at h
  refine lv_aload_n hx hb d_Mo_at_0 rfl (lv_at hl 0 rfl) ?_
  refine va_get (D := G.1) (ci := 7) (v := .ref a0_2) (C := R_Mo) (T := T_Mo) (N := 22) hx hb hts i_Mo hown hK hR 0 rfl rfl 2 (by decide) (hts _ b_421) (fun _ h9 => h9) rfl d_Mo_at_1 ?_
  refine lv_bipush (v := 120) hx hb d_Mo_at_4 (by decide) ?_
  refine lv_iload_n hx hb d_Mo_at_6 rfl (lv_at hl 1 rfl) ?_
  refine lv_imul hx hb d_Mo_at_7 ?_
  refine lv_iload_n hx hb d_Mo_at_8 rfl (lv_at hl 2 rfl) ?_
  refine lv_iadd hx hb d_Mo_at_9 ?_
  have hi9 := h.1
  have h := h.2
  refine va_iald hx hb hK hR 1 1 rfl rfl hi9 d_Mo_at_10 ?_
  exact W.iret hx hb hr (fun t ht hW => ⟨_, rfl, h, ht⟩) (fun _ z => by cases z) d_Mo_at_11
set_option maxHeartbeats 4000000 in
set_option maxRecDepth 100000 in
theorem c_M_at (l : Launch) (G : GX) (a0_0 a0_1 a0_2 a0_3 a0_4 a0_5 a0_6 a0_7 a0_8 a0_9 a0_10 a0_11 a0_12 a0_13 a0_14 a0_15 : Nat) (u0 : MoC) (u3 : IaC) (x1 : Int32) (x2 : Int32) (post : Int32 → Prop) (h : wp_M_at post u0 u3 x1 x2) : Met l y_Mo_at wc_Mo_at rm_M_at (mP G [.ref a0_0, .int x1, .int x2] [(a0_0, .inr (7, [.ref a0_1, .int (moN u0), .ref a0_2, .ref a0_3, .ref a0_4, .ref a0_5, .ref a0_6, .ref a0_7, .ref a0_8, .ref a0_9, .ref a0_10, .ref a0_11, .int (moM u0), .ref a0_12, .int (moT u0), .ref a0_13, .int (moW u0), .ref a0_14, .ref a0_15, .int (moG u0), .int (moS u0), .int (moI u0)])), (a0_2, .inl (G.2.1 1, iaN u3, .inl (iaF u3)))]) (vp_Si post) 0 0 (fun _ => False) := by
  refine Met.ofW (cc := cc_Mo_at) (maxL := 3) (ret := (some .int)) (by decide) rfl ?_
  intro p e s m args below meth c s₁ B hml hv
  obtain ⟨rfl, hC, hR⟩ := hv
  have E : EN p s m ([.ref a0_0, .int x1, .int x2] : List Value).toArray meth c G R_Mo cc_Mo_at 3 (some .int) BG := ⟨B.exec, B.bytes, B.returns, fun w h => atoms_spec (ws := wc_Mo_at) B.pre w (List.mem_cons_of_mem _ h), findClass_of_methodNamed B.named, B.notSynchronized, hml, hC⟩
  have hl := lv_entry ([.ref a0_0, .int x1, .int x2]) (n := 3) (Nat.le_of_ble_eq_true rfl)
  rw [lg_entry_eq]
  generalize (lg_sl ([.ref a0_0, .int x1, .int x2]) ++ List.replicate (3 - (lg_sl ([.ref a0_0, .int x1, .int x2])).length) Slot.unset).toArray = ls at hl ⊢
  have hl : lv_has ls 3 [(0, .ref a0_0), (1, .int x1), (2, .int x2)] := hl
  exact t_M_at_in E hR _ h hl
set_option maxHeartbeats 4000000 in
set_option maxRecDepth 100000 in
theorem t_M_go_in {p : Program} {l : Launch} {e : Env} {s : State} {m : MethodId} {args : Array Value} {below : List Frame} {meth : Method} {c : Code} {G : GX} {a0_0 a0_1 a0_2 a0_3 a0_4 a0_5 a0_6 a0_7 a0_8 a0_9 a0_10 a0_11 a0_12 a0_13 a0_14 a0_15 : Nat} {u0 : MoC} {post : Int32 → IaC → Prop} {A : Nat → Prop} {u3 : IaC} {x1 : Int32} {x2 : Int32} (E : EN p s m args meth c G R_Mo cc_Mo_go 3 (some .int) BG) (hR : va_P G.1 vwCl [(a0_0, .inr (7, [.ref a0_1, .int (moN u0), .ref a0_2, .ref a0_3, .ref a0_4, .ref a0_5, .ref a0_6, .ref a0_7, .ref a0_8, .ref a0_9, .ref a0_10, .ref a0_11, .int (moM u0), .ref a0_12, .int (moT u0), .ref a0_13, .int (moW u0), .ref a0_14, .ref a0_15, .int (moG u0), .int (moS u0), .int (moI u0)]))] s.heap) (hA : ∀ q : Nat, s.heap.size ≤ q → A q) (hAB : ∀ q : Nat, A q → G.2.2.1 ≤ q) (hRn : ∀ (j : Nat) (q : Nat × va_E), ([(a0_0, .inr (7, [.ref a0_1, .int (moN u0), .ref a0_2, .ref a0_3, .ref a0_4, .ref a0_5, .ref a0_6, .ref a0_7, .ref a0_8, .ref a0_9, .ref a0_10, .ref a0_11, .int (moM u0), .ref a0_12, .int (moT u0), .ref a0_13, .int (moW u0), .ref a0_14, .ref a0_15, .int (moG u0), .int (moS u0), .int (moI u0)]))] : va_W)[j]? = some q → ¬ A q.1) : ∀ (H : Heap) (locs : List Loc) (ls : Array Slot), wp_M_go post u0 u3 x1 x2 → va_P G.1 vwCl [(a0_12, .inl (G.2.1 1, iaN u3, .inl (iaF u3)))] H → va_D A [(a0_12, .inl (G.2.1 1, iaN u3, .inl (iaF u3)))] → va_S A s.heap H locs → lv_has ls 3 [(0, .ref a0_0), (1, .int x1), (2, .int x2)] → W p l e rm_M_go s m args below meth c H locs 0 0 (MQ below (va_Qi post (fun (u : IaC) (t : State) => va_P G.1 vwCl [(a0_12, .inl (G.2.1 1, iaN u, .inl (iaF u)))] t.heap) A) args s 0 0 A) (F0 m 0 ls []) := by
  obtain ⟨hx, hb, hr, hts, hown, hlocks, hml, hC⟩ := id E
  have hK := hC.1
  intro H locs ls h hP hD hS hl
  unfold wp_M_go at h
  refine lv_aload_n hx hb d_Mo_go_0 rfl (lv_at hl 0 rfl) ?_
  refine va_get (D := G.1) (ci := 7) (v := .ref a0_12) (C := R_Mo) (T := T_Mo) (N := 22) hx hb hts i_Mo hown hK (ro_now hR hRn hS) 0 rfl rfl 13 (by decide) (hts _ b_422) (fun _ h9 => h9) rfl d_Mo_go_1 ?_
  refine lv_aload_n hx hb d_Mo_go_4 rfl (lv_at hl 0 rfl) ?_
  refine va_get (D := G.1) (ci := 7) (v := .int (moT u0)) (C := R_Mo) (T := T_Mo) (N := 22) hx hb hts i_Mo hown hK (ro_now hR hRn hS) 0 rfl rfl 14 (by decide) (hts _ b_423) (fun _ h9 => h9) rfl d_Mo_go_5 ?_
  refine lv_iload_n hx hb d_Mo_go_8 rfl (lv_at hl 1 rfl) ?_
  have hi9 := h.1
  have h := h.2
  refine va_iast hx hb hK hP hD hS 0 1 rfl rfl hi9 d_Mo_go_9 (fun H locs hP hD hS => ?_)
  have hP : va_P G.1 vwCl [(a0_12, .inl (G.2.1 1, iaN u3, .inl (upd (iaF u3) (moT u0).toNatClampNeg x1)))] H := hP
  have hD : va_D A [(a0_12, .inl (G.2.1 1, iaN u3, .inl (upd (iaF u3) (moT u0).toNatClampNeg x1)))] := hD
  refine lv_iload_n hx hb d_Mo_go_10 rfl (lv_at hl 2 rfl) ?_
  exact W.iret hx hb hr (fun t ht hW => ⟨⟨_, _, rfl, h, vaP_at ht hP⟩, hS.F ht⟩) hS.2.2 d_Mo_go_11
set_option maxHeartbeats 4000000 in
set_option maxRecDepth 100000 in
theorem c_M_go (l : Launch) (G : GX) (a0_0 a0_1 a0_2 a0_3 a0_4 a0_5 a0_6 a0_7 a0_8 a0_9 a0_10 a0_11 a0_12 a0_13 a0_14 a0_15 : Nat) (u0 : MoC) (u3 : IaC) (x1 : Int32) (x2 : Int32) (sz : Nat) (post : Int32 → IaC → Prop) (h : wp_M_go post u0 u3 x1 x2) : Met l y_Mo_go wc_Mo_go rm_M_go (mW G [.ref a0_0, .int x1, .int x2] sz [(a0_12, .inl (G.2.1 1, iaN u3, .inl (iaF u3)))] [(a0_0, .inr (7, [.ref a0_1, .int (moN u0), .ref a0_2, .ref a0_3, .ref a0_4, .ref a0_5, .ref a0_6, .ref a0_7, .ref a0_8, .ref a0_9, .ref a0_10, .ref a0_11, .int (moM u0), .ref a0_12, .int (moT u0), .ref a0_13, .int (moW u0), .ref a0_14, .ref a0_15, .int (moG u0), .int (moS u0), .int (moI u0)]))]) (va_Qi post (fun (u : IaC) (t : State) => va_P G.1 vwCl [(a0_12, .inl (G.2.1 1, iaN u, .inl (iaF u)))] t.heap) (va_A [(a0_12, .inl (G.2.1 1, iaN u3, .inl (iaF u3)))] sz)) 0 0 (va_A [(a0_12, .inl (G.2.1 1, iaN u3, .inl (iaF u3)))] sz) := by
  refine Met.ofW (cc := cc_Mo_go) (maxL := 3) (ret := (some .int)) (by decide) rfl ?_
  intro p e s m args below meth c s₁ B hml hv
  obtain ⟨rfl, hC, hsz, hP, hD0, hR, hap⟩ := hv
  have E : EN p s m ([.ref a0_0, .int x1, .int x2] : List Value).toArray meth c G R_Mo cc_Mo_go 3 (some .int) BG := ⟨B.exec, B.bytes, B.returns, fun w h => atoms_spec (ws := wc_Mo_go) B.pre w (List.mem_cons_of_mem _ h), findClass_of_methodNamed B.named, B.notSynchronized, hml, hC⟩
  subst hsz
  have hD := hD0.self (sz := s.heap.size)
  have hRn := mw_notA hR hap
  have hAB := mw_AB hD0 hC
  have hA : ∀ q : Nat, s.heap.size ≤ q → va_A [(a0_12, .inl (G.2.1 1, iaN u3, .inl (iaF u3)))] s.heap.size q := fun q z => Or.inr z
  generalize va_A [(a0_12, .inl (G.2.1 1, iaN u3, .inl (iaF u3)))] s.heap.size = A at hD hRn hAB hA ⊢
  have hl := lv_entry ([.ref a0_0, .int x1, .int x2]) (n := 3) (Nat.le_of_ble_eq_true rfl)
  rw [lg_entry_eq]
  generalize (lg_sl ([.ref a0_0, .int x1, .int x2]) ++ List.replicate (3 - (lg_sl ([.ref a0_0, .int x1, .int x2])).length) Slot.unset).toArray = ls at hl ⊢
  have hl : lv_has ls 3 [(0, .ref a0_0), (1, .int x1), (2, .int x2)] := hl
  exact t_M_go_in E hR hA hAB hRn _ _ _ h hP hD va_S.rf hl
set_option maxHeartbeats 4000000 in
set_option maxRecDepth 100000 in
theorem t_M_push_in {p : Program} {l : Launch} {e : Env} {s : State} {m : MethodId} {args : Array Value} {below : List Frame} {meth : Method} {c : Code} {G : GX} {a0_0 a0_1 a0_2 a0_3 a0_4 a0_5 a0_6 a0_7 a0_8 a0_9 a0_10 a0_11 a0_12 a0_13 a0_14 a0_15 : Nat} {post : Int32 → (MoC × IaC) → Prop} {A : Nat → Prop} {u0 : MoC} {u4 : IaC} {x1 : Int32} {x2 : Int32} {x3 : Int32} (E : EN p s m args meth c G R_Mo cc_Mo_push 4 (some .int) BG) (hR : va_P G.1 vwCl [] s.heap) (hA : ∀ q : Nat, s.heap.size ≤ q → A q) (hAB : ∀ q : Nat, A q → G.2.2.1 ≤ q) (hRn : ∀ (j : Nat) (q : Nat × va_E), ([] : va_W)[j]? = some q → ¬ A q.1) : ∀ (H : Heap) (locs : List Loc) (ls : Array Slot), wp_M_push post u0 u4 x1 x2 x3 → va_P G.1 vwCl [(a0_0, .inr (7, [.ref a0_1, .int (moN u0), .ref a0_2, .ref a0_3, .ref a0_4, .ref a0_5, .ref a0_6, .ref a0_7, .ref a0_8, .ref a0_9, .ref a0_10, .ref a0_11, .int (moM u0), .ref a0_12, .int (moT u0), .ref a0_13, .int (moW u0), .ref a0_14, .ref a0_15, .int (moG u0), .int (moS u0), .int (moI u0)])), (a0_12, .inl (G.2.1 1, iaN u4, .inl (iaF u4)))] H → va_D A [(a0_0, .inr (7, [.ref a0_1, .int (moN u0), .ref a0_2, .ref a0_3, .ref a0_4, .ref a0_5, .ref a0_6, .ref a0_7, .ref a0_8, .ref a0_9, .ref a0_10, .ref a0_11, .int (moM u0), .ref a0_12, .int (moT u0), .ref a0_13, .int (moW u0), .ref a0_14, .ref a0_15, .int (moG u0), .int (moS u0), .int (moI u0)])), (a0_12, .inl (G.2.1 1, iaN u4, .inl (iaF u4)))] → va_S A s.heap H locs → lv_has ls 4 [(0, .ref a0_0), (1, .int x1), (2, .int x2), (3, .int x3)] → W p l e rm_M_push s m args below meth c H locs 0 0 (MQ below (va_Qi post (fun (u : MoC × IaC) (t : State) => va_P G.1 vwCl [(a0_0, .inr (7, [.ref a0_1, .int (moN u.1), .ref a0_2, .ref a0_3, .ref a0_4, .ref a0_5, .ref a0_6, .ref a0_7, .ref a0_8, .ref a0_9, .ref a0_10, .ref a0_11, .int (moM u.1), .ref a0_12, .int (moT u.1), .ref a0_13, .int (moW u.1), .ref a0_14, .ref a0_15, .int (moG u.1), .int (moS u.1), .int (moI u.1)])), (a0_12, .inl (G.2.1 1, iaN u.2, .inl (iaF u.2)))] t.heap) A) args s 0 0 A) (F0 m 0 ls []) := by
  obtain ⟨hx, hb, hr, hts, hown, hlocks, hml, hC⟩ := id E
  have hK := hC.1
  intro H locs ls h hP hD hS hl
  unfold wp_M_push at h
  refine lv_aload_n hx hb d_Mo_push_0 rfl (lv_at hl 0 rfl) ?_
  refine va_get (D := G.1) (ci := 7) (v := .ref a0_12) (C := R_Mo) (T := T_Mo) (N := 22) hx hb hts i_Mo hown hK hP 0 rfl rfl 13 (by decide) (hts _ b_422) (fun _ h9 => h9) rfl d_Mo_push_1 ?_
  refine lv_aload_n hx hb d_Mo_push_4 rfl (lv_at hl 0 rfl) ?_
  refine va_get (D := G.1) (ci := 7) (v := .int (moT u0)) (C := R_Mo) (T := T_Mo) (N := 22) hx hb hts i_Mo hown hK hP 0 rfl rfl 14 (by decide) (hts _ b_423) (fun _ h9 => h9) rfl d_Mo_push_5 ?_
  refine lv_iload_n hx hb d_Mo_push_8 rfl (lv_at hl 1 rfl) ?_
  have hi9 := h.1
  have h := h.2
  refine va_iast hx hb hK hP hD hS 1 1 rfl rfl hi9 d_Mo_push_9 (fun H locs hP hD hS => ?_)
  have hP : va_P G.1 vwCl [(a0_0, .inr (7, [.ref a0_1, .int (moN u0), .ref a0_2, .ref a0_3, .ref a0_4, .ref a0_5, .ref a0_6, .ref a0_7, .ref a0_8, .ref a0_9, .ref a0_10, .ref a0_11, .int (moM u0), .ref a0_12, .int (moT u0), .ref a0_13, .int (moW u0), .ref a0_14, .ref a0_15, .int (moG u0), .int (moS u0), .int (moI u0)])), (a0_12, .inl (G.2.1 1, iaN u4, .inl (upd (iaF u4) (moT u0).toNatClampNeg x1)))] H := hP
  have hD : va_D A [(a0_0, .inr (7, [.ref a0_1, .int (moN u0), .ref a0_2, .ref a0_3, .ref a0_4, .ref a0_5, .ref a0_6, .ref a0_7, .ref a0_8, .ref a0_9, .ref a0_10, .ref a0_11, .int (moM u0), .ref a0_12, .int (moT u0), .ref a0_13, .int (moW u0), .ref a0_14, .ref a0_15, .int (moG u0), .int (moS u0), .int (moI u0)])), (a0_12, .inl (G.2.1 1, iaN u4, .inl (upd (iaF u4) (moT u0).toNatClampNeg x1)))] := hD
  refine lv_aload_n hx hb d_Mo_push_10 rfl (lv_at hl 0 rfl) ?_
  refine lv_dup hx hb d_Mo_push_11 rfl ?_
  refine va_get (D := G.1) (ci := 7) (v := .int (moT u0)) (C := R_Mo) (T := T_Mo) (N := 22) hx hb hts i_Mo hown hK hP 0 rfl rfl 14 (by decide) (hts _ b_423) (fun _ h9 => h9) rfl d_Mo_push_12 ?_
  refine lv_iconst (v := 1) hx hb d_Mo_push_15 (by decide) ?_
  refine lv_iadd hx hb d_Mo_push_16 ?_
  refine va_put (D := G.1) (ci := 7) (v := .int ((moT u0) + 1)) (ty := .int) (C := R_Mo) (T := T_Mo) (N := 22) hx hb hts i_Mo ty_Mo tyok_Mo nm_Mo hown hK hP hD hS 0 rfl rfl 14 (by decide) (hts _ b_423) (fun _ h9 => h9) rfl (by decide +kernel) rfl rfl (Nat.le_of_ble_eq_true rfl) d_Mo_push_17 (fun H locs hP hD hS => ?_)
  have hP : va_P G.1 vwCl [(a0_0, .inr (7, [.ref a0_1, .int (moN u0), .ref a0_2, .ref a0_3, .ref a0_4, .ref a0_5, .ref a0_6, .ref a0_7, .ref a0_8, .ref a0_9, .ref a0_10, .ref a0_11, .int (moM u0), .ref a0_12, .int ((moT u0) + 1), .ref a0_13, .int (moW u0), .ref a0_14, .ref a0_15, .int (moG u0), .int (moS u0), .int (moI u0)])), (a0_12, .inl (G.2.1 1, iaN u4, .inl (upd (iaF u4) (moT u0).toNatClampNeg x1)))] H := hP
  have hD : va_D A [(a0_0, .inr (7, [.ref a0_1, .int (moN u0), .ref a0_2, .ref a0_3, .ref a0_4, .ref a0_5, .ref a0_6, .ref a0_7, .ref a0_8, .ref a0_9, .ref a0_10, .ref a0_11, .int (moM u0), .ref a0_12, .int ((moT u0) + 1), .ref a0_13, .int (moW u0), .ref a0_14, .ref a0_15, .int (moG u0), .int (moS u0), .int (moI u0)])), (a0_12, .inl (G.2.1 1, iaN u4, .inl (upd (iaF u4) (moT u0).toNatClampNeg x1)))] := hD
  refine lv_aload_n hx hb d_Mo_push_20 rfl (lv_at hl 0 rfl) ?_
  refine va_get (D := G.1) (ci := 7) (v := .ref a0_12) (C := R_Mo) (T := T_Mo) (N := 22) hx hb hts i_Mo hown hK hP 0 rfl rfl 13 (by decide) (hts _ b_422) (fun _ h9 => h9) rfl d_Mo_push_21 ?_
  refine lv_aload_n hx hb d_Mo_push_24 rfl (lv_at hl 0 rfl) ?_
  refine va_get (D := G.1) (ci := 7) (v := .int ((moT u0) + 1)) (C := R_Mo) (T := T_Mo) (N := 22) hx hb hts i_Mo hown hK hP 0 rfl rfl 14 (by decide) (hts _ b_423) (fun _ h9 => h9) rfl d_Mo_push_25 ?_
  refine lv_iload_n hx hb d_Mo_push_28 rfl (lv_at hl 2 rfl) ?_
  have hi9 := h.1
  have h := h.2
  refine va_iast hx hb hK hP hD hS 1 1 rfl rfl hi9 d_Mo_push_29 (fun H locs hP hD hS => ?_)
  have hP : va_P G.1 vwCl [(a0_0, .inr (7, [.ref a0_1, .int (moN u0), .ref a0_2, .ref a0_3, .ref a0_4, .ref a0_5, .ref a0_6, .ref a0_7, .ref a0_8, .ref a0_9, .ref a0_10, .ref a0_11, .int (moM u0), .ref a0_12, .int ((moT u0) + 1), .ref a0_13, .int (moW u0), .ref a0_14, .ref a0_15, .int (moG u0), .int (moS u0), .int (moI u0)])), (a0_12, .inl (G.2.1 1, iaN u4, .inl (upd (upd (iaF u4) (moT u0).toNatClampNeg x1) ((moT u0) + 1).toNatClampNeg x2)))] H := hP
  have hD : va_D A [(a0_0, .inr (7, [.ref a0_1, .int (moN u0), .ref a0_2, .ref a0_3, .ref a0_4, .ref a0_5, .ref a0_6, .ref a0_7, .ref a0_8, .ref a0_9, .ref a0_10, .ref a0_11, .int (moM u0), .ref a0_12, .int ((moT u0) + 1), .ref a0_13, .int (moW u0), .ref a0_14, .ref a0_15, .int (moG u0), .int (moS u0), .int (moI u0)])), (a0_12, .inl (G.2.1 1, iaN u4, .inl (upd (upd (iaF u4) (moT u0).toNatClampNeg x1) ((moT u0) + 1).toNatClampNeg x2)))] := hD
  refine lv_iload_n hx hb d_Mo_push_30 rfl (lv_at hl 3 rfl) ?_
  exact W.iret hx hb hr (fun t ht hW => ⟨⟨_, _, rfl, h, vaP_at ht hP⟩, hS.F ht⟩) hS.2.2 d_Mo_push_31
set_option maxHeartbeats 4000000 in
set_option maxRecDepth 100000 in
theorem c_M_push (l : Launch) (G : GX) (a0_0 a0_1 a0_2 a0_3 a0_4 a0_5 a0_6 a0_7 a0_8 a0_9 a0_10 a0_11 a0_12 a0_13 a0_14 a0_15 : Nat) (u0 : MoC) (u4 : IaC) (x1 : Int32) (x2 : Int32) (x3 : Int32) (sz : Nat) (post : Int32 → (MoC × IaC) → Prop) (h : wp_M_push post u0 u4 x1 x2 x3) : Met l y_Mo_push wc_Mo_push rm_M_push (mW G [.ref a0_0, .int x1, .int x2, .int x3] sz [(a0_0, .inr (7, [.ref a0_1, .int (moN u0), .ref a0_2, .ref a0_3, .ref a0_4, .ref a0_5, .ref a0_6, .ref a0_7, .ref a0_8, .ref a0_9, .ref a0_10, .ref a0_11, .int (moM u0), .ref a0_12, .int (moT u0), .ref a0_13, .int (moW u0), .ref a0_14, .ref a0_15, .int (moG u0), .int (moS u0), .int (moI u0)])), (a0_12, .inl (G.2.1 1, iaN u4, .inl (iaF u4)))] []) (va_Qi post (fun (u : MoC × IaC) (t : State) => va_P G.1 vwCl [(a0_0, .inr (7, [.ref a0_1, .int (moN u.1), .ref a0_2, .ref a0_3, .ref a0_4, .ref a0_5, .ref a0_6, .ref a0_7, .ref a0_8, .ref a0_9, .ref a0_10, .ref a0_11, .int (moM u.1), .ref a0_12, .int (moT u.1), .ref a0_13, .int (moW u.1), .ref a0_14, .ref a0_15, .int (moG u.1), .int (moS u.1), .int (moI u.1)])), (a0_12, .inl (G.2.1 1, iaN u.2, .inl (iaF u.2)))] t.heap) (va_A [(a0_0, .inr (7, [.ref a0_1, .int (moN u0), .ref a0_2, .ref a0_3, .ref a0_4, .ref a0_5, .ref a0_6, .ref a0_7, .ref a0_8, .ref a0_9, .ref a0_10, .ref a0_11, .int (moM u0), .ref a0_12, .int (moT u0), .ref a0_13, .int (moW u0), .ref a0_14, .ref a0_15, .int (moG u0), .int (moS u0), .int (moI u0)])), (a0_12, .inl (G.2.1 1, iaN u4, .inl (iaF u4)))] sz)) 0 0 (va_A [(a0_0, .inr (7, [.ref a0_1, .int (moN u0), .ref a0_2, .ref a0_3, .ref a0_4, .ref a0_5, .ref a0_6, .ref a0_7, .ref a0_8, .ref a0_9, .ref a0_10, .ref a0_11, .int (moM u0), .ref a0_12, .int (moT u0), .ref a0_13, .int (moW u0), .ref a0_14, .ref a0_15, .int (moG u0), .int (moS u0), .int (moI u0)])), (a0_12, .inl (G.2.1 1, iaN u4, .inl (iaF u4)))] sz) := by
  refine Met.ofW (cc := cc_Mo_push) (maxL := 4) (ret := (some .int)) (by decide) rfl ?_
  intro p e s m args below meth c s₁ B hml hv
  obtain ⟨rfl, hC, hsz, hP, hD0, hR, hap⟩ := hv
  have E : EN p s m ([.ref a0_0, .int x1, .int x2, .int x3] : List Value).toArray meth c G R_Mo cc_Mo_push 4 (some .int) BG := ⟨B.exec, B.bytes, B.returns, fun w h => atoms_spec (ws := wc_Mo_push) B.pre w (List.mem_cons_of_mem _ h), findClass_of_methodNamed B.named, B.notSynchronized, hml, hC⟩
  subst hsz
  have hD := hD0.self (sz := s.heap.size)
  have hRn := mw_notA hR hap
  have hAB := mw_AB hD0 hC
  have hA : ∀ q : Nat, s.heap.size ≤ q → va_A [(a0_0, .inr (7, [.ref a0_1, .int (moN u0), .ref a0_2, .ref a0_3, .ref a0_4, .ref a0_5, .ref a0_6, .ref a0_7, .ref a0_8, .ref a0_9, .ref a0_10, .ref a0_11, .int (moM u0), .ref a0_12, .int (moT u0), .ref a0_13, .int (moW u0), .ref a0_14, .ref a0_15, .int (moG u0), .int (moS u0), .int (moI u0)])), (a0_12, .inl (G.2.1 1, iaN u4, .inl (iaF u4)))] s.heap.size q := fun q z => Or.inr z
  generalize va_A [(a0_0, .inr (7, [.ref a0_1, .int (moN u0), .ref a0_2, .ref a0_3, .ref a0_4, .ref a0_5, .ref a0_6, .ref a0_7, .ref a0_8, .ref a0_9, .ref a0_10, .ref a0_11, .int (moM u0), .ref a0_12, .int (moT u0), .ref a0_13, .int (moW u0), .ref a0_14, .ref a0_15, .int (moG u0), .int (moS u0), .int (moI u0)])), (a0_12, .inl (G.2.1 1, iaN u4, .inl (iaF u4)))] s.heap.size = A at hD hRn hAB hA ⊢
  have hl := lv_entry ([.ref a0_0, .int x1, .int x2, .int x3]) (n := 4) (Nat.le_of_ble_eq_true rfl)
  rw [lg_entry_eq]
  generalize (lg_sl ([.ref a0_0, .int x1, .int x2, .int x3]) ++ List.replicate (4 - (lg_sl ([.ref a0_0, .int x1, .int x2, .int x3])).length) Slot.unset).toArray = ls at hl ⊢
  have hl : lv_has ls 4 [(0, .ref a0_0), (1, .int x1), (2, .int x2), (3, .int x3)] := hl
  exact t_M_push_in E hR hA hAB hRn _ _ _ h hP hD va_S.rf hl
set_option maxHeartbeats 4000000 in
set_option maxRecDepth 100000 in
theorem t_M_base_48 {p : Program} {l : Launch} {e : Env} {s : State} {m : MethodId} {args : Array Value} {below : List Frame} {meth : Method} {c : Code} {G : GX} {post : Int32 → Prop} (E : EN p s m args meth c G R_Mo cc_Mo_base 1 (some .boolean) BG) (hR : va_P G.1 vwCl [] s.heap) : ∀ (ls : Array Slot), w_M_base_48 post → lv_has ls 1 [] → W p l e rm_M_base s m args below meth c s.heap [] 0 0 (MQ below (vp_Si post) args s 0 0 (fun _ => False)) (F0 m 48 ls []) := by
  obtain ⟨hx, hb, hr, hts, hown, hlocks, hml, hC⟩ := id E
  have hK := hC.1
  intro   ls h hl
  unfold w_M_base_48 at h
  refine lv_iconst (v := 1) hx hb d_Mo_base_48 (by decide) ?_
  refine lv_goto (tgt := 53) hx hb d_Mo_base_49 (by decide) ?_
  exact W.zret hx hb hr (by decide) (fun t ht hW => ⟨_, rfl, h, ht⟩) (fun _ z => by cases z) d_Mo_base_53
set_option maxHeartbeats 4000000 in
set_option maxRecDepth 100000 in
theorem t_M_base_in {p : Program} {l : Launch} {e : Env} {s : State} {m : MethodId} {args : Array Value} {below : List Frame} {meth : Method} {c : Code} {G : GX} {post : Int32 → Prop} {x0 : Int32} (E : EN p s m args meth c G R_Mo cc_Mo_base 1 (some .boolean) BG) (hR : va_P G.1 vwCl [] s.heap) : ∀ (ls : Array Slot), wp_M_base post x0 → lv_has ls 1 [(0, .int x0)] → W p l e rm_M_base s m args below meth c s.heap [] 0 0 (MQ below (vp_Si post) args s 0 0 (fun _ => False)) (F0 m 0 ls []) := by
  obtain ⟨hx, hb, hr, hts, hown, hlocks, hml, hC⟩ := id E
  have hK := hC.1
  intro ls h hl
  unfold wp_M_base at h
  refine lv_iload_n hx hb d_Mo_base_0 rfl (lv_at hl 0 rfl) ?_
  refine lv_bipush (v := 66) hx hb d_Mo_base_1 (by decide) ?_
  refine lv_icmp_eq (tgt := 48) hx hb d_Mo_base_3 (by decide) (fun c9 => ?_) (fun c9 => ?_)
  · have h := h.1 c9
    exact t_M_base_48 E hR  _ h (lv_sub hl [] rfl)
  · have h := h.2 c9
    refine lv_iload_n hx hb d_Mo_base_6 rfl (lv_at hl 0 rfl) ?_
    refine lv_bipush (v := 67) hx hb d_Mo_base_7 (by decide) ?_
    refine lv_icmp_eq (tgt := 48) hx hb d_Mo_base_9 (by decide) (fun c9 => ?_) (fun c9 => ?_)
    · have h := h.1 c9
      exact t_M_base_48 E hR  _ h (lv_sub hl [] rfl)
    · have h := h.2 c9
      refine lv_iload_n hx hb d_Mo_base_12 rfl (lv_at hl 0 rfl) ?_
      refine lv_bipush (v := 68) hx hb d_Mo_base_13 (by decide) ?_
      refine lv_icmp_eq (tgt := 48) hx hb d_Mo_base_15 (by decide) (fun c9 => ?_) (fun c9 => ?_)
      · have h := h.1 c9
        exact t_M_base_48 E hR  _ h (lv_sub hl [] rfl)
      · have h := h.2 c9
        refine lv_iload_n hx hb d_Mo_base_18 rfl (lv_at hl 0 rfl) ?_
        refine lv_bipush (v := 70) hx hb d_Mo_base_19 (by decide) ?_
        refine lv_icmp_eq (tgt := 48) hx hb d_Mo_base_21 (by decide) (fun c9 => ?_) (fun c9 => ?_)
        · have h := h.1 c9
          exact t_M_base_48 E hR  _ h (lv_sub hl [] rfl)
        · have h := h.2 c9
          refine lv_iload_n hx hb d_Mo_base_24 rfl (lv_at hl 0 rfl) ?_
          refine lv_bipush (v := 73) hx hb d_Mo_base_25 (by decide) ?_
          refine lv_icmp_eq (tgt := 48) hx hb d_Mo_base_27 (by decide) (fun c9 => ?_) (fun c9 => ?_)
          · have h := h.1 c9
            exact t_M_base_48 E hR  _ h (lv_sub hl [] rfl)
          · have h := h.2 c9
            refine lv_iload_n hx hb d_Mo_base_30 rfl (lv_at hl 0 rfl) ?_
            refine lv_bipush (v := 74) hx hb d_Mo_base_31 (by decide) ?_
            refine lv_icmp_eq (tgt := 48) hx hb d_Mo_base_33 (by decide) (fun c9 => ?_) (fun c9 => ?_)
            · have h := h.1 c9
              exact t_M_base_48 E hR  _ h (lv_sub hl [] rfl)
            · have h := h.2 c9
              refine lv_iload_n hx hb d_Mo_base_36 rfl (lv_at hl 0 rfl) ?_
              refine lv_bipush (v := 83) hx hb d_Mo_base_37 (by decide) ?_
              refine lv_icmp_eq (tgt := 48) hx hb d_Mo_base_39 (by decide) (fun c9 => ?_) (fun c9 => ?_)
              · have h := h.1 c9
                exact t_M_base_48 E hR  _ h (lv_sub hl [] rfl)
              · have h := h.2 c9
                refine lv_iload_n hx hb d_Mo_base_42 rfl (lv_at hl 0 rfl) ?_
                refine lv_bipush (v := 90) hx hb d_Mo_base_43 (by decide) ?_
                refine lv_icmp_ne (tgt := 52) hx hb d_Mo_base_45 (by decide) (fun c9 => ?_) (fun c9 => ?_)
                · have h := h.1 c9
                  refine lv_iconst (v := 0) hx hb d_Mo_base_52 (by decide) ?_
                  exact W.zret hx hb hr (by decide) (fun t ht hW => ⟨_, rfl, h, ht⟩) (fun _ z => by cases z) d_Mo_base_53
                · have h := h.2 c9
                  exact t_M_base_48 E hR  _ h (lv_sub hl [] rfl)
set_option maxHeartbeats 4000000 in
set_option maxRecDepth 100000 in
theorem c_M_base (l : Launch) (G : GX) (x0 : Int32) (post : Int32 → Prop) (h : wp_M_base post x0) : Met l y_Mo_base wc_Mo_base rm_M_base (mP G [.int x0] []) (vp_Si post) 0 0 (fun _ => False) := by
  refine Met.ofW (cc := cc_Mo_base) (maxL := 1) (ret := (some .boolean)) (by decide) rfl ?_
  intro p e s m args below meth c s₁ B hml hv
  obtain ⟨rfl, hC, hR⟩ := hv
  have E : EN p s m ([.int x0] : List Value).toArray meth c G R_Mo cc_Mo_base 1 (some .boolean) BG := ⟨B.exec, B.bytes, B.returns, fun w h => atoms_spec (ws := wc_Mo_base) B.pre w (List.mem_cons_of_mem _ h), findClass_of_methodNamed B.named, B.notSynchronized, hml, hC⟩
  have hl := lv_entry ([.int x0]) (n := 1) (Nat.le_of_ble_eq_true rfl)
  rw [lg_entry_eq]
  generalize (lg_sl ([.int x0]) ++ List.replicate (1 - (lg_sl ([.int x0])).length) Slot.unset).toArray = ls at hl ⊢
  have hl : lv_has ls 1 [(0, .int x0)] := hl
  exact t_M_base_in E hR _ h hl
set_option maxHeartbeats 4000000 in
set_option maxRecDepth 100000 in
theorem t_M_pop_in {p : Program} {l : Launch} {e : Env} {s : State} {m : MethodId} {args : Array Value} {below : List Frame} {meth : Method} {c : Code} {G : GX} {a0_0 a0_1 a0_2 a0_3 a0_4 a0_5 a0_6 a0_7 a0_8 a0_9 a0_10 a0_11 a0_12 a0_13 a0_14 a0_15 : Nat} {post : Int32 → MoC → Prop} {A : Nat → Prop} {u0 : MoC} {x1 : Int32} (E : EN p s m args meth c G R_Mo cc_Mo_pop 2 (some .int) BG) (hR : va_P G.1 vwCl [] s.heap) (hA : ∀ q : Nat, s.heap.size ≤ q → A q) (hAB : ∀ q : Nat, A q → G.2.2.1 ≤ q) (hRn : ∀ (j : Nat) (q : Nat × va_E), ([] : va_W)[j]? = some q → ¬ A q.1) : ∀ (H : Heap) (locs : List Loc) (ls : Array Slot), wp_M_pop post u0 x1 → va_P G.1 vwCl [(a0_0, .inr (7, [.ref a0_1, .int (moN u0), .ref a0_2, .ref a0_3, .ref a0_4, .ref a0_5, .ref a0_6, .ref a0_7, .ref a0_8, .ref a0_9, .ref a0_10, .ref a0_11, .int (moM u0), .ref a0_12, .int (moT u0), .ref a0_13, .int (moW u0), .ref a0_14, .ref a0_15, .int (moG u0), .int (moS u0), .int (moI u0)]))] H → va_D A [(a0_0, .inr (7, [.ref a0_1, .int (moN u0), .ref a0_2, .ref a0_3, .ref a0_4, .ref a0_5, .ref a0_6, .ref a0_7, .ref a0_8, .ref a0_9, .ref a0_10, .ref a0_11, .int (moM u0), .ref a0_12, .int (moT u0), .ref a0_13, .int (moW u0), .ref a0_14, .ref a0_15, .int (moG u0), .int (moS u0), .int (moI u0)]))] → va_S A s.heap H locs → lv_has ls 2 [(0, .ref a0_0), (1, .int x1)] → W p l e rm_M_pop s m args below meth c H locs 0 0 (MQ below (va_Qi post (fun (u : MoC) (t : State) => va_P G.1 vwCl [(a0_0, .inr (7, [.ref a0_1, .int (moN u), .ref a0_2, .ref a0_3, .ref a0_4, .ref a0_5, .ref a0_6, .ref a0_7, .ref a0_8, .ref a0_9, .ref a0_10, .ref a0_11, .int (moM u), .ref a0_12, .int (moT u), .ref a0_13, .int (moW u), .ref a0_14, .ref a0_15, .int (moG u), .int (moS u), .int (moI u)]))] t.heap) A) args s 0 0 A) (F0 m 0 ls []) := by
  obtain ⟨hx, hb, hr, hts, hown, hlocks, hml, hC⟩ := id E
  have hK := hC.1
  intro H locs ls h hP hD hS hl
  unfold wp_M_pop at h
  refine lv_aload_n hx hb d_Mo_pop_0 rfl (lv_at hl 0 rfl) ?_
  refine lv_dup hx hb d_Mo_pop_1 rfl ?_
  refine va_get (D := G.1) (ci := 7) (v := .int (moT u0)) (C := R_Mo) (T := T_Mo) (N := 22) hx hb hts i_Mo hown hK hP 0 rfl rfl 14 (by decide) (hts _ b_423) (fun _ h9 => h9) rfl d_Mo_pop_2 ?_
  refine lv_iconst (v := 1) hx hb d_Mo_pop_5 (by decide) ?_
  refine lv_isub hx hb d_Mo_pop_6 ?_
  refine va_put (D := G.1) (ci := 7) (v := .int ((moT u0) - 1)) (ty := .int) (C := R_Mo) (T := T_Mo) (N := 22) hx hb hts i_Mo ty_Mo tyok_Mo nm_Mo hown hK hP hD hS 0 rfl rfl 14 (by decide) (hts _ b_423) (fun _ h9 => h9) rfl (by decide +kernel) rfl rfl (Nat.le_of_ble_eq_true rfl) d_Mo_pop_7 (fun H locs hP hD hS => ?_)
  have hP : va_P G.1 vwCl [(a0_0, .inr (7, [.ref a0_1, .int (moN u0), .ref a0_2, .ref a0_3, .ref a0_4, .ref a0_5, .ref a0_6, .ref a0_7, .ref a0_8, .ref a0_9, .ref a0_10, .ref a0_11, .int (moM u0), .ref a0_12, .int ((moT u0) - 1), .ref a0_13, .int (moW u0), .ref a0_14, .ref a0_15, .int (moG u0), .int (moS u0), .int (moI u0)]))] H := hP
  have hD : va_D A [(a0_0, .inr (7, [.ref a0_1, .int (moN u0), .ref a0_2, .ref a0_3, .ref a0_4, .ref a0_5, .ref a0_6, .ref a0_7, .ref a0_8, .ref a0_9, .ref a0_10, .ref a0_11, .int (moM u0), .ref a0_12, .int ((moT u0) - 1), .ref a0_13, .int (moW u0), .ref a0_14, .ref a0_15, .int (moG u0), .int (moS u0), .int (moI u0)]))] := hD
  refine lv_iload_n hx hb d_Mo_pop_10 rfl (lv_at hl 1 rfl) ?_
  exact W.iret hx hb hr (fun t ht hW => ⟨⟨_, _, rfl, h, vaP_at ht hP⟩, hS.F ht⟩) hS.2.2 d_Mo_pop_11
set_option maxHeartbeats 4000000 in
set_option maxRecDepth 100000 in
theorem c_M_pop (l : Launch) (G : GX) (a0_0 a0_1 a0_2 a0_3 a0_4 a0_5 a0_6 a0_7 a0_8 a0_9 a0_10 a0_11 a0_12 a0_13 a0_14 a0_15 : Nat) (u0 : MoC) (x1 : Int32) (sz : Nat) (post : Int32 → MoC → Prop) (h : wp_M_pop post u0 x1) : Met l y_Mo_pop wc_Mo_pop rm_M_pop (mW G [.ref a0_0, .int x1] sz [(a0_0, .inr (7, [.ref a0_1, .int (moN u0), .ref a0_2, .ref a0_3, .ref a0_4, .ref a0_5, .ref a0_6, .ref a0_7, .ref a0_8, .ref a0_9, .ref a0_10, .ref a0_11, .int (moM u0), .ref a0_12, .int (moT u0), .ref a0_13, .int (moW u0), .ref a0_14, .ref a0_15, .int (moG u0), .int (moS u0), .int (moI u0)]))] []) (va_Qi post (fun (u : MoC) (t : State) => va_P G.1 vwCl [(a0_0, .inr (7, [.ref a0_1, .int (moN u), .ref a0_2, .ref a0_3, .ref a0_4, .ref a0_5, .ref a0_6, .ref a0_7, .ref a0_8, .ref a0_9, .ref a0_10, .ref a0_11, .int (moM u), .ref a0_12, .int (moT u), .ref a0_13, .int (moW u), .ref a0_14, .ref a0_15, .int (moG u), .int (moS u), .int (moI u)]))] t.heap) (va_A [(a0_0, .inr (7, [.ref a0_1, .int (moN u0), .ref a0_2, .ref a0_3, .ref a0_4, .ref a0_5, .ref a0_6, .ref a0_7, .ref a0_8, .ref a0_9, .ref a0_10, .ref a0_11, .int (moM u0), .ref a0_12, .int (moT u0), .ref a0_13, .int (moW u0), .ref a0_14, .ref a0_15, .int (moG u0), .int (moS u0), .int (moI u0)]))] sz)) 0 0 (va_A [(a0_0, .inr (7, [.ref a0_1, .int (moN u0), .ref a0_2, .ref a0_3, .ref a0_4, .ref a0_5, .ref a0_6, .ref a0_7, .ref a0_8, .ref a0_9, .ref a0_10, .ref a0_11, .int (moM u0), .ref a0_12, .int (moT u0), .ref a0_13, .int (moW u0), .ref a0_14, .ref a0_15, .int (moG u0), .int (moS u0), .int (moI u0)]))] sz) := by
  refine Met.ofW (cc := cc_Mo_pop) (maxL := 2) (ret := (some .int)) (by decide) rfl ?_
  intro p e s m args below meth c s₁ B hml hv
  obtain ⟨rfl, hC, hsz, hP, hD0, hR, hap⟩ := hv
  have E : EN p s m ([.ref a0_0, .int x1] : List Value).toArray meth c G R_Mo cc_Mo_pop 2 (some .int) BG := ⟨B.exec, B.bytes, B.returns, fun w h => atoms_spec (ws := wc_Mo_pop) B.pre w (List.mem_cons_of_mem _ h), findClass_of_methodNamed B.named, B.notSynchronized, hml, hC⟩
  subst hsz
  have hD := hD0.self (sz := s.heap.size)
  have hRn := mw_notA hR hap
  have hAB := mw_AB hD0 hC
  have hA : ∀ q : Nat, s.heap.size ≤ q → va_A [(a0_0, .inr (7, [.ref a0_1, .int (moN u0), .ref a0_2, .ref a0_3, .ref a0_4, .ref a0_5, .ref a0_6, .ref a0_7, .ref a0_8, .ref a0_9, .ref a0_10, .ref a0_11, .int (moM u0), .ref a0_12, .int (moT u0), .ref a0_13, .int (moW u0), .ref a0_14, .ref a0_15, .int (moG u0), .int (moS u0), .int (moI u0)]))] s.heap.size q := fun q z => Or.inr z
  generalize va_A [(a0_0, .inr (7, [.ref a0_1, .int (moN u0), .ref a0_2, .ref a0_3, .ref a0_4, .ref a0_5, .ref a0_6, .ref a0_7, .ref a0_8, .ref a0_9, .ref a0_10, .ref a0_11, .int (moM u0), .ref a0_12, .int (moT u0), .ref a0_13, .int (moW u0), .ref a0_14, .ref a0_15, .int (moG u0), .int (moS u0), .int (moI u0)]))] s.heap.size = A at hD hRn hAB hA ⊢
  have hl := lv_entry ([.ref a0_0, .int x1]) (n := 2) (Nat.le_of_ble_eq_true rfl)
  rw [lg_entry_eq]
  generalize (lg_sl ([.ref a0_0, .int x1]) ++ List.replicate (2 - (lg_sl ([.ref a0_0, .int x1])).length) Slot.unset).toArray = ls at hl ⊢
  have hl : lv_has ls 2 [(0, .ref a0_0), (1, .int x1)] := hl
  exact t_M_pop_in E hR hA hAB hRn _ _ _ h hP hD va_S.rf hl
set_option maxHeartbeats 4000000 in
set_option maxRecDepth 100000 in
theorem t_M_start_50 {p : Program} {l : Launch} {e : Env} {s : State} {m : MethodId} {args : Array Value} {below : List Frame} {meth : Method} {c : Code} {G : GX} {a0_0 a0_1 a0_2 a0_3 a0_4 a0_5 a0_6 a0_7 a0_8 a0_9 a0_10 a0_11 a0_12 a0_13 a0_14 a0_15 : Nat} {post : Int32 → (MoC × IaC) → Prop} {A : Nat → Prop} (E : EN p s m args meth c G R_Mo cc_Mo_start 3 (some .int) BG) (hR : va_P G.1 vwCl [] s.heap) (hA : ∀ q : Nat, s.heap.size ≤ q → A q) (hAB : ∀ q : Nat, A q → G.2.2.1 ≤ q) (hRn : ∀ (j : Nat) (q : Nat × va_E), ([] : va_W)[j]? = some q → ¬ A q.1) : ∀ (y1 : Int32) (y2 : Int32) (w0 : MoC) (w1 : IaC) (H : Heap) (locs : List Loc) (ls : Array Slot), w_M_start_50 post y1 y2 w0 w1 → va_P G.1 vwCl [(a0_0, .inr (7, [.ref a0_1, .int (moN w0), .ref a0_2, .ref a0_3, .ref a0_4, .ref a0_5, .ref a0_6, .ref a0_7, .ref a0_8, .ref a0_9, .ref a0_10, .ref a0_11, .int (moM w0), .ref a0_12, .int (moT w0), .ref a0_13, .int (moW w0), .ref a0_14, .ref a0_15, .int (moG w0), .int (moS w0), .int (moI w0)])), (a0_12, .inl (G.2.1 1, iaN w1, .inl (iaF w1)))] H → va_D A [(a0_0, .inr (7, [.ref a0_1, .int (moN w0), .ref a0_2, .ref a0_3, .ref a0_4, .ref a0_5, .ref a0_6, .ref a0_7, .ref a0_8, .ref a0_9, .ref a0_10, .ref a0_11, .int (moM w0), .ref a0_12, .int (moT w0), .ref a0_13, .int (moW w0), .ref a0_14, .ref a0_15, .int (moG w0), .int (moS w0), .int (moI w0)])), (a0_12, .inl (G.2.1 1, iaN w1, .inl (iaF w1)))] → va_S A s.heap H locs → lv_has ls 3 [(0, .ref a0_0), (1, .int y1), (2, .int y2)] → W p l e rm_M_start s m args below meth c H locs 0 0 (MQ below (va_Qi post (fun (u : MoC × IaC) (t : State) => va_P G.1 vwCl [(a0_0, .inr (7, [.ref a0_1, .int (moN u.1), .ref a0_2, .ref a0_3, .ref a0_4, .ref a0_5, .ref a0_6, .ref a0_7, .ref a0_8, .ref a0_9, .ref a0_10, .ref a0_11, .int (moM u.1), .ref a0_12, .int (moT u.1), .ref a0_13, .int (moW u.1), .ref a0_14, .ref a0_15, .int (moG u.1), .int (moS u.1), .int (moI u.1)])), (a0_12, .inl (G.2.1 1, iaN u.2, .inl (iaF u.2)))] t.heap) A) args s 0 0 A) (F0 m 50 ls []) := by
  obtain ⟨hx, hb, hr, hts, hown, hlocks, hml, hC⟩ := id E
  have hK := hC.1
  intro y1 y2 w0 w1  H locs ls h hP hD hS hl
  unfold w_M_start_50 at h
  refine lv_iload_n hx hb d_Mo_start_50 rfl (lv_at hl 2 rfl) ?_
  refine lv_bipush (v := 91) hx hb d_Mo_start_51 (by decide) ?_
  refine lv_icmp_ne (tgt := 70) hx hb d_Mo_start_53 (by decide) (fun c9 => ?_) (fun c9 => ?_)
  · have h := h.1 c9
    refine lv_iconst (v := 0) hx hb d_Mo_start_70 (by decide) ?_
    exact W.iret hx hb hr (fun t ht hW => ⟨⟨_, _, rfl, h, vaP_at ht hP⟩, hS.F ht⟩) hS.2.2 d_Mo_start_71
  · have h := h.2 c9
    refine lv_iload_n hx hb d_Mo_start_56 rfl (lv_at hl 1 rfl) ?_
    refine lv_iconst (v := 2) hx hb d_Mo_start_57 (by decide) ?_
    refine lv_icmp_gt (tgt := 70) hx hb d_Mo_start_58 (by decide) (fun c9 => ?_) (fun c9 => ?_)
    · have h := h.1 c9
      refine lv_iconst (v := 0) hx hb d_Mo_start_70 (by decide) ?_
      exact W.iret hx hb hr (fun t ht hW => ⟨⟨_, _, rfl, h, vaP_at ht hP⟩, hS.F ht⟩) hS.2.2 d_Mo_start_71
    · have h := h.2 c9
      refine lv_aload_n hx hb d_Mo_start_61 rfl (lv_at hl 0 rfl) ?_
      refine lv_iconst (v := 1) hx hb d_Mo_start_62 (by decide) ?_
      refine lv_iconst (v := 3) hx hb d_Mo_start_63 (by decide) ?_
      have hRc : va_P G.1 vwCl [(a0_0, .inr (7, [.ref a0_1, .int (moN w0), .ref a0_2, .ref a0_3, .ref a0_4, .ref a0_5, .ref a0_6, .ref a0_7, .ref a0_8, .ref a0_9, .ref a0_10, .ref a0_11, .int (moM w0), .ref a0_12, .int (moT w0), .ref a0_13, .int (moW w0), .ref a0_14, .ref a0_15, .int (moG w0), .int (moS w0), .int (moI w0)]))] H := (hP.sub (ws' := [(a0_0, .inr (7, [.ref a0_1, .int (moN w0), .ref a0_2, .ref a0_3, .ref a0_4, .ref a0_5, .ref a0_6, .ref a0_7, .ref a0_8, .ref a0_9, .ref a0_10, .ref a0_11, .int (moM w0), .ref a0_12, .int (moT w0), .ref a0_13, .int (moW w0), .ref a0_14, .ref a0_15, .int (moG w0), .int (moS w0), .int (moI w0)]))]) [0] rfl)
      have hPc := hP.sub (ws' := [(a0_12, .inl (G.2.1 1, iaN w1, .inl (iaF w1)))]) [1] rfl
      have hDc := hD.sub (ws' := [(a0_12, .inl (G.2.1 1, iaN w1, .inl (iaF w1)))]) [1] (by decide) rfl
      have hFc := va_free (wc := [(a0_12, .inl (G.2.1 1, iaN w1, .inl (iaF w1)))]) hD hS hA [1] rfl
      have hQc : mw_ap [(a0_12, .inl (G.2.1 1, iaN w1, .inl (iaF w1)))] [(a0_0, .inr (7, [.ref a0_1, .int (moN w0), .ref a0_2, .ref a0_3, .ref a0_4, .ref a0_5, .ref a0_6, .ref a0_7, .ref a0_8, .ref a0_9, .ref a0_10, .ref a0_11, .int (moM w0), .ref a0_12, .int (moT w0), .ref a0_13, .int (moW w0), .ref a0_14, .ref a0_15, .int (moG w0), .int (moS w0), .int (moI w0)]))] := (mw_ap_D (wc := [(a0_12, .inl (G.2.1 1, iaN w1, .inl (iaF w1)))]) (wr := [(a0_0, .inr (7, [.ref a0_1, .int (moN w0), .ref a0_2, .ref a0_3, .ref a0_4, .ref a0_5, .ref a0_6, .ref a0_7, .ref a0_8, .ref a0_9, .ref a0_10, .ref a0_11, .int (moM w0), .ref a0_12, .int (moT w0), .ref a0_13, .int (moW w0), .ref a0_14, .ref a0_15, .int (moG w0), .int (moS w0), .int (moI w0)]))]) hD [1] [0] rfl rfl (by decide))
      refine va_calli (va_runV (As := [.int 1, .int 3]) (rest := []) ⟨hx, hb, hml, hown, hts⟩ (c_M_go l G a0_0 a0_1 a0_2 a0_3 a0_4 a0_5 a0_6 a0_7 a0_8 a0_9 a0_10 a0_11 a0_12 a0_13 a0_14 a0_15 w0 w1 1 3 H.size _ h) (cwV 2 hts (gwV b_433 b_434 b_435 b_427 b_432) rfl rfl rfl hd_Mo_go ⟨Nat.le_of_ble_eq_true rfl, Nat.le_of_ble_eq_true rfl⟩) ⟨mW_blind, va_recv hK hRc (ci := 7) (q0 := 0) rfl rfl, fun U hU hW => ⟨rfl, hC.to hW hU hS hAB, by rw [hU], by rw [hU]; exact hPc, hDc.weaken (fun _ _ _ => hAB _), by rw [hU]; exact hRc, hQc⟩⟩ rfl rfl hl.1 rfl (lv_room (Nat.le_of_ble_eq_true rfl)) d_Mo_start_64 ⟨Nat.le_of_ble_eq_true rfl, Nat.le_of_ble_eq_true rfl⟩) hS (fun q _ h => hFc q h) hFc (fun r11 v10 t H1 locs ht hvm h hB hz1 hk1 hS => ?_)
      rw [ht] at hB
      have hj9 := mw_join (wr := [(a0_0, .inr (7, [.ref a0_1, .int (moN w0), .ref a0_2, .ref a0_3, .ref a0_4, .ref a0_5, .ref a0_6, .ref a0_7, .ref a0_8, .ref a0_9, .ref a0_10, .ref a0_11, .int (moM w0), .ref a0_12, .int (moT w0), .ref a0_13, .int (moW w0), .ref a0_14, .ref a0_15, .int (moG w0), .int (moS w0), .int (moI w0)]))]) (w1 := [(a0_12, .inl (G.2.1 1, iaN v10, .inl (iaF v10)))]) hP hD [1] [0] rfl rfl (by decide) (by decide) (by decide) hk1 hFc hB rfl
      have hP : va_P G.1 vwCl [(a0_0, .inr (7, [.ref a0_1, .int (moN w0), .ref a0_2, .ref a0_3, .ref a0_4, .ref a0_5, .ref a0_6, .ref a0_7, .ref a0_8, .ref a0_9, .ref a0_10, .ref a0_11, .int (moM w0), .ref a0_12, .int (moT w0), .ref a0_13, .int (moW w0), .ref a0_14, .ref a0_15, .int (moG w0), .int (moS w0), .int (moI w0)])), (a0_12, .inl (G.2.1 1, iaN v10, .inl (iaF v10)))] H1 := hj9.1
      have hD : va_D A [(a0_0, .inr (7, [.ref a0_1, .int (moN w0), .ref a0_2, .ref a0_3, .ref a0_4, .ref a0_5, .ref a0_6, .ref a0_7, .ref a0_8, .ref a0_9, .ref a0_10, .ref a0_11, .int (moM w0), .ref a0_12, .int (moT w0), .ref a0_13, .int (moW w0), .ref a0_14, .ref a0_15, .int (moG w0), .int (moS w0), .int (moI w0)])), (a0_12, .inl (G.2.1 1, iaN v10, .inl (iaF v10)))] := hj9.2
      generalize H1 = H at hP hS ⊢
      refine lv_goto (tgt := 71) hx hb d_Mo_start_67 (by decide) ?_
      exact W.iret hx hb hr (fun t ht hW => ⟨⟨_, _, rfl, h, vaP_at ht hP⟩, hS.F ht⟩) hS.2.2 d_Mo_start_71
set_option maxHeartbeats 4000000 in
set_option maxRecDepth 100000 in
theorem t_M_start_18 {p : Program} {l : Launch} {e : Env} {s : State} {m : MethodId} {args : Array Value} {below : List Frame} {meth : Method} {c : Code} {G : GX} {a0_0 a0_1 a0_2 a0_3 a0_4 a0_5 a0_6 a0_7 a0_8 a0_9 a0_10 a0_11 a0_12 a0_13 a0_14 a0_15 : Nat} {post : Int32 → (MoC × IaC) → Prop} {A : Nat → Prop} (E : EN p s m args meth c G R_Mo cc_Mo_start 3 (some .int) BG) (hR : va_P G.1 vwCl [] s.heap) (hA : ∀ q : Nat, s.heap.size ≤ q → A q) (hAB : ∀ q : Nat, A q → G.2.2.1 ≤ q) (hRn : ∀ (j : Nat) (q : Nat × va_E), ([] : va_W)[j]? = some q → ¬ A q.1) : ∀ (y1 : Int32) (y2 : Int32) (w0 : MoC) (w1 : IaC) (H : Heap) (locs : List Loc) (ls : Array Slot), w_M_start_18 post y1 y2 w0 w1 → va_P G.1 vwCl [(a0_0, .inr (7, [.ref a0_1, .int (moN w0), .ref a0_2, .ref a0_3, .ref a0_4, .ref a0_5, .ref a0_6, .ref a0_7, .ref a0_8, .ref a0_9, .ref a0_10, .ref a0_11, .int (moM w0), .ref a0_12, .int (moT w0), .ref a0_13, .int (moW w0), .ref a0_14, .ref a0_15, .int (moG w0), .int (moS w0), .int (moI w0)])), (a0_12, .inl (G.2.1 1, iaN w1, .inl (iaF w1)))] H → va_D A [(a0_0, .inr (7, [.ref a0_1, .int (moN w0), .ref a0_2, .ref a0_3, .ref a0_4, .ref a0_5, .ref a0_6, .ref a0_7, .ref a0_8, .ref a0_9, .ref a0_10, .ref a0_11, .int (moM w0), .ref a0_12, .int (moT w0), .ref a0_13, .int (moW w0), .ref a0_14, .ref a0_15, .int (moG w0), .int (moS w0), .int (moI w0)])), (a0_12, .inl (G.2.1 1, iaN w1, .inl (iaF w1)))] → va_S A s.heap H locs → lv_has ls 3 [(0, .ref a0_0), (1, .int y1), (2, .int y2)] → W p l e rm_M_start s m args below meth c H locs 0 0 (MQ below (va_Qi post (fun (u : MoC × IaC) (t : State) => va_P G.1 vwCl [(a0_0, .inr (7, [.ref a0_1, .int (moN u.1), .ref a0_2, .ref a0_3, .ref a0_4, .ref a0_5, .ref a0_6, .ref a0_7, .ref a0_8, .ref a0_9, .ref a0_10, .ref a0_11, .int (moM u.1), .ref a0_12, .int (moT u.1), .ref a0_13, .int (moW u.1), .ref a0_14, .ref a0_15, .int (moG u.1), .int (moS u.1), .int (moI u.1)])), (a0_12, .inl (G.2.1 1, iaN u.2, .inl (iaF u.2)))] t.heap) A) args s 0 0 A) (F0 m 18 ls []) := by
  obtain ⟨hx, hb, hr, hts, hown, hlocks, hml, hC⟩ := id E
  have hK := hC.1
  intro y1 y2 w0 w1  H locs ls h hP hD hS hl
  unfold w_M_start_18 at h
  refine lv_iload_n hx hb d_Mo_start_18 rfl (lv_at hl 2 rfl) ?_
  refine lv_bipush (v := 76) hx hb d_Mo_start_19 (by decide) ?_
  refine lv_icmp_ne (tgt := 31) hx hb d_Mo_start_21 (by decide) (fun c9 => ?_) (fun c9 => ?_)
  · have h := h.1 c9
    refine lv_iload_n hx hb d_Mo_start_31 rfl (lv_at hl 2 rfl) ?_
    refine lv_bipush (v := 84) hx hb d_Mo_start_32 (by decide) ?_
    refine lv_icmp_ne (tgt := 50) hx hb d_Mo_start_34 (by decide) (fun c9 => ?_) (fun c9 => ?_)
    · have h := h.1 c9
      exact t_M_start_50 E hR hA hAB hRn  _ _ _ _ _ _ _ h hP hD hS (lv_sub hl [0, 1, 2] rfl)
    · have h := h.2 c9
      refine lv_iload_n hx hb d_Mo_start_37 rfl (lv_at hl 1 rfl) ?_
      refine lv_iconst (v := 3) hx hb d_Mo_start_38 (by decide) ?_
      refine lv_icmp_eq (tgt := 50) hx hb d_Mo_start_39 (by decide) (fun c9 => ?_) (fun c9 => ?_)
      · have h := h.1 c9
        exact t_M_start_50 E hR hA hAB hRn  _ _ _ _ _ _ _ h hP hD hS (lv_sub hl [0, 1, 2] rfl)
      · have h := h.2 c9
        refine lv_aload_n hx hb d_Mo_start_42 rfl (lv_at hl 0 rfl) ?_
        refine lv_bipush (v := 12) hx hb d_Mo_start_43 (by decide) ?_
        refine lv_iconst (v := 2) hx hb d_Mo_start_45 (by decide) ?_
        have hRc : va_P G.1 vwCl [(a0_0, .inr (7, [.ref a0_1, .int (moN w0), .ref a0_2, .ref a0_3, .ref a0_4, .ref a0_5, .ref a0_6, .ref a0_7, .ref a0_8, .ref a0_9, .ref a0_10, .ref a0_11, .int (moM w0), .ref a0_12, .int (moT w0), .ref a0_13, .int (moW w0), .ref a0_14, .ref a0_15, .int (moG w0), .int (moS w0), .int (moI w0)]))] H := (hP.sub (ws' := [(a0_0, .inr (7, [.ref a0_1, .int (moN w0), .ref a0_2, .ref a0_3, .ref a0_4, .ref a0_5, .ref a0_6, .ref a0_7, .ref a0_8, .ref a0_9, .ref a0_10, .ref a0_11, .int (moM w0), .ref a0_12, .int (moT w0), .ref a0_13, .int (moW w0), .ref a0_14, .ref a0_15, .int (moG w0), .int (moS w0), .int (moI w0)]))]) [0] rfl)
        have hPc := hP.sub (ws' := [(a0_12, .inl (G.2.1 1, iaN w1, .inl (iaF w1)))]) [1] rfl
        have hDc := hD.sub (ws' := [(a0_12, .inl (G.2.1 1, iaN w1, .inl (iaF w1)))]) [1] (by decide) rfl
        have hFc := va_free (wc := [(a0_12, .inl (G.2.1 1, iaN w1, .inl (iaF w1)))]) hD hS hA [1] rfl
        have hQc : mw_ap [(a0_12, .inl (G.2.1 1, iaN w1, .inl (iaF w1)))] [(a0_0, .inr (7, [.ref a0_1, .int (moN w0), .ref a0_2, .ref a0_3, .ref a0_4, .ref a0_5, .ref a0_6, .ref a0_7, .ref a0_8, .ref a0_9, .ref a0_10, .ref a0_11, .int (moM w0), .ref a0_12, .int (moT w0), .ref a0_13, .int (moW w0), .ref a0_14, .ref a0_15, .int (moG w0), .int (moS w0), .int (moI w0)]))] := (mw_ap_D (wc := [(a0_12, .inl (G.2.1 1, iaN w1, .inl (iaF w1)))]) (wr := [(a0_0, .inr (7, [.ref a0_1, .int (moN w0), .ref a0_2, .ref a0_3, .ref a0_4, .ref a0_5, .ref a0_6, .ref a0_7, .ref a0_8, .ref a0_9, .ref a0_10, .ref a0_11, .int (moM w0), .ref a0_12, .int (moT w0), .ref a0_13, .int (moW w0), .ref a0_14, .ref a0_15, .int (moG w0), .int (moS w0), .int (moI w0)]))]) hD [1] [0] rfl rfl (by decide))
        refine va_calli (va_runV (As := [.int 12, .int 2]) (rest := []) ⟨hx, hb, hml, hown, hts⟩ (c_M_go l G a0_0 a0_1 a0_2 a0_3 a0_4 a0_5 a0_6 a0_7 a0_8 a0_9 a0_10 a0_11 a0_12 a0_13 a0_14 a0_15 w0 w1 12 2 H.size _ h) (cwV 2 hts (gwV b_433 b_434 b_435 b_427 b_432) rfl rfl rfl hd_Mo_go ⟨Nat.le_of_ble_eq_true rfl, Nat.le_of_ble_eq_true rfl⟩) ⟨mW_blind, va_recv hK hRc (ci := 7) (q0 := 0) rfl rfl, fun U hU hW => ⟨rfl, hC.to hW hU hS hAB, by rw [hU], by rw [hU]; exact hPc, hDc.weaken (fun _ _ _ => hAB _), by rw [hU]; exact hRc, hQc⟩⟩ rfl rfl hl.1 rfl (lv_room (Nat.le_of_ble_eq_true rfl)) d_Mo_start_46 ⟨Nat.le_of_ble_eq_true rfl, Nat.le_of_ble_eq_true rfl⟩) hS (fun q _ h => hFc q h) hFc (fun r13 v12 t H1 locs ht hvm h hB hz1 hk1 hS => ?_)
        rw [ht] at hB
        have hj9 := mw_join (wr := [(a0_0, .inr (7, [.ref a0_1, .int (moN w0), .ref a0_2, .ref a0_3, .ref a0_4, .ref a0_5, .ref a0_6, .ref a0_7, .ref a0_8, .ref a0_9, .ref a0_10, .ref a0_11, .int (moM w0), .ref a0_12, .int (moT w0), .ref a0_13, .int (moW w0), .ref a0_14, .ref a0_15, .int (moG w0), .int (moS w0), .int (moI w0)]))]) (w1 := [(a0_12, .inl (G.2.1 1, iaN v12, .inl (iaF v12)))]) hP hD [1] [0] rfl rfl (by decide) (by decide) (by decide) hk1 hFc hB rfl
        have hP : va_P G.1 vwCl [(a0_0, .inr (7, [.ref a0_1, .int (moN w0), .ref a0_2, .ref a0_3, .ref a0_4, .ref a0_5, .ref a0_6, .ref a0_7, .ref a0_8, .ref a0_9, .ref a0_10, .ref a0_11, .int (moM w0), .ref a0_12, .int (moT w0), .ref a0_13, .int (moW w0), .ref a0_14, .ref a0_15, .int (moG w0), .int (moS w0), .int (moI w0)])), (a0_12, .inl (G.2.1 1, iaN v12, .inl (iaF v12)))] H1 := hj9.1
        have hD : va_D A [(a0_0, .inr (7, [.ref a0_1, .int (moN w0), .ref a0_2, .ref a0_3, .ref a0_4, .ref a0_5, .ref a0_6, .ref a0_7, .ref a0_8, .ref a0_9, .ref a0_10, .ref a0_11, .int (moM w0), .ref a0_12, .int (moT w0), .ref a0_13, .int (moW w0), .ref a0_14, .ref a0_15, .int (moG w0), .int (moS w0), .int (moI w0)])), (a0_12, .inl (G.2.1 1, iaN v12, .inl (iaF v12)))] := hj9.2
        generalize H1 = H at hP hS ⊢
        exact W.iret hx hb hr (fun t ht hW => ⟨⟨_, _, rfl, h, vaP_at ht hP⟩, hS.F ht⟩) hS.2.2 d_Mo_start_49
  · have h := h.2 c9
    refine lv_aload_n hx hb d_Mo_start_24 rfl (lv_at hl 0 rfl) ?_
    refine lv_iconst (v := 5) hx hb d_Mo_start_25 (by decide) ?_
    refine lv_iconst (v := 1) hx hb d_Mo_start_26 (by decide) ?_
    have hRc : va_P G.1 vwCl [(a0_0, .inr (7, [.ref a0_1, .int (moN w0), .ref a0_2, .ref a0_3, .ref a0_4, .ref a0_5, .ref a0_6, .ref a0_7, .ref a0_8, .ref a0_9, .ref a0_10, .ref a0_11, .int (moM w0), .ref a0_12, .int (moT w0), .ref a0_13, .int (moW w0), .ref a0_14, .ref a0_15, .int (moG w0), .int (moS w0), .int (moI w0)]))] H := (hP.sub (ws' := [(a0_0, .inr (7, [.ref a0_1, .int (moN w0), .ref a0_2, .ref a0_3, .ref a0_4, .ref a0_5, .ref a0_6, .ref a0_7, .ref a0_8, .ref a0_9, .ref a0_10, .ref a0_11, .int (moM w0), .ref a0_12, .int (moT w0), .ref a0_13, .int (moW w0), .ref a0_14, .ref a0_15, .int (moG w0), .int (moS w0), .int (moI w0)]))]) [0] rfl)
    have hPc := hP.sub (ws' := [(a0_12, .inl (G.2.1 1, iaN w1, .inl (iaF w1)))]) [1] rfl
    have hDc := hD.sub (ws' := [(a0_12, .inl (G.2.1 1, iaN w1, .inl (iaF w1)))]) [1] (by decide) rfl
    have hFc := va_free (wc := [(a0_12, .inl (G.2.1 1, iaN w1, .inl (iaF w1)))]) hD hS hA [1] rfl
    have hQc : mw_ap [(a0_12, .inl (G.2.1 1, iaN w1, .inl (iaF w1)))] [(a0_0, .inr (7, [.ref a0_1, .int (moN w0), .ref a0_2, .ref a0_3, .ref a0_4, .ref a0_5, .ref a0_6, .ref a0_7, .ref a0_8, .ref a0_9, .ref a0_10, .ref a0_11, .int (moM w0), .ref a0_12, .int (moT w0), .ref a0_13, .int (moW w0), .ref a0_14, .ref a0_15, .int (moG w0), .int (moS w0), .int (moI w0)]))] := (mw_ap_D (wc := [(a0_12, .inl (G.2.1 1, iaN w1, .inl (iaF w1)))]) (wr := [(a0_0, .inr (7, [.ref a0_1, .int (moN w0), .ref a0_2, .ref a0_3, .ref a0_4, .ref a0_5, .ref a0_6, .ref a0_7, .ref a0_8, .ref a0_9, .ref a0_10, .ref a0_11, .int (moM w0), .ref a0_12, .int (moT w0), .ref a0_13, .int (moW w0), .ref a0_14, .ref a0_15, .int (moG w0), .int (moS w0), .int (moI w0)]))]) hD [1] [0] rfl rfl (by decide))
    refine va_calli (va_runV (As := [.int 5, .int 1]) (rest := []) ⟨hx, hb, hml, hown, hts⟩ (c_M_go l G a0_0 a0_1 a0_2 a0_3 a0_4 a0_5 a0_6 a0_7 a0_8 a0_9 a0_10 a0_11 a0_12 a0_13 a0_14 a0_15 w0 w1 5 1 H.size _ h) (cwV 2 hts (gwV b_433 b_434 b_435 b_427 b_432) rfl rfl rfl hd_Mo_go ⟨Nat.le_of_ble_eq_true rfl, Nat.le_of_ble_eq_true rfl⟩) ⟨mW_blind, va_recv hK hRc (ci := 7) (q0 := 0) rfl rfl, fun U hU hW => ⟨rfl, hC.to hW hU hS hAB, by rw [hU], by rw [hU]; exact hPc, hDc.weaken (fun _ _ _ => hAB _), by rw [hU]; exact hRc, hQc⟩⟩ rfl rfl hl.1 rfl (lv_room (Nat.le_of_ble_eq_true rfl)) d_Mo_start_27 ⟨Nat.le_of_ble_eq_true rfl, Nat.le_of_ble_eq_true rfl⟩) hS (fun q _ h => hFc q h) hFc (fun r15 v14 t H1 locs ht hvm h hB hz1 hk1 hS => ?_)
    rw [ht] at hB
    have hj9 := mw_join (wr := [(a0_0, .inr (7, [.ref a0_1, .int (moN w0), .ref a0_2, .ref a0_3, .ref a0_4, .ref a0_5, .ref a0_6, .ref a0_7, .ref a0_8, .ref a0_9, .ref a0_10, .ref a0_11, .int (moM w0), .ref a0_12, .int (moT w0), .ref a0_13, .int (moW w0), .ref a0_14, .ref a0_15, .int (moG w0), .int (moS w0), .int (moI w0)]))]) (w1 := [(a0_12, .inl (G.2.1 1, iaN v14, .inl (iaF v14)))]) hP hD [1] [0] rfl rfl (by decide) (by decide) (by decide) hk1 hFc hB rfl
    have hP : va_P G.1 vwCl [(a0_0, .inr (7, [.ref a0_1, .int (moN w0), .ref a0_2, .ref a0_3, .ref a0_4, .ref a0_5, .ref a0_6, .ref a0_7, .ref a0_8, .ref a0_9, .ref a0_10, .ref a0_11, .int (moM w0), .ref a0_12, .int (moT w0), .ref a0_13, .int (moW w0), .ref a0_14, .ref a0_15, .int (moG w0), .int (moS w0), .int (moI w0)])), (a0_12, .inl (G.2.1 1, iaN v14, .inl (iaF v14)))] H1 := hj9.1
    have hD : va_D A [(a0_0, .inr (7, [.ref a0_1, .int (moN w0), .ref a0_2, .ref a0_3, .ref a0_4, .ref a0_5, .ref a0_6, .ref a0_7, .ref a0_8, .ref a0_9, .ref a0_10, .ref a0_11, .int (moM w0), .ref a0_12, .int (moT w0), .ref a0_13, .int (moW w0), .ref a0_14, .ref a0_15, .int (moG w0), .int (moS w0), .int (moI w0)])), (a0_12, .inl (G.2.1 1, iaN v14, .inl (iaF v14)))] := hj9.2
    generalize H1 = H at hP hS ⊢
    exact W.iret hx hb hr (fun t ht hW => ⟨⟨_, _, rfl, h, vaP_at ht hP⟩, hS.F ht⟩) hS.2.2 d_Mo_start_30
set_option maxHeartbeats 4000000 in
set_option maxRecDepth 100000 in
theorem t_M_start_in {p : Program} {l : Launch} {e : Env} {s : State} {m : MethodId} {args : Array Value} {below : List Frame} {meth : Method} {c : Code} {G : GX} {a0_0 a0_1 a0_2 a0_3 a0_4 a0_5 a0_6 a0_7 a0_8 a0_9 a0_10 a0_11 a0_12 a0_13 a0_14 a0_15 : Nat} {post : Int32 → (MoC × IaC) → Prop} {A : Nat → Prop} {u0 : MoC} {u3 : IaC} {x1 : Int32} {x2 : Int32} (E : EN p s m args meth c G R_Mo cc_Mo_start 3 (some .int) BG) (hR : va_P G.1 vwCl [] s.heap) (hA : ∀ q : Nat, s.heap.size ≤ q → A q) (hAB : ∀ q : Nat, A q → G.2.2.1 ≤ q) (hRn : ∀ (j : Nat) (q : Nat × va_E), ([] : va_W)[j]? = some q → ¬ A q.1) : ∀ (H : Heap) (locs : List Loc) (ls : Array Slot), wp_M_start post u0 u3 x1 x2 → va_P G.1 vwCl [(a0_0, .inr (7, [.ref a0_1, .int (moN u0), .ref a0_2, .ref a0_3, .ref a0_4, .ref a0_5, .ref a0_6, .ref a0_7, .ref a0_8, .ref a0_9, .ref a0_10, .ref a0_11, .int (moM u0), .ref a0_12, .int (moT u0), .ref a0_13, .int (moW u0), .ref a0_14, .ref a0_15, .int (moG u0), .int (moS u0), .int (moI u0)])), (a0_12, .inl (G.2.1 1, iaN u3, .inl (iaF u3)))] H → va_D A [(a0_0, .inr (7, [.ref a0_1, .int (moN u0), .ref a0_2, .ref a0_3, .ref a0_4, .ref a0_5, .ref a0_6, .ref a0_7, .ref a0_8, .ref a0_9, .ref a0_10, .ref a0_11, .int (moM u0), .ref a0_12, .int (moT u0), .ref a0_13, .int (moW u0), .ref a0_14, .ref a0_15, .int (moG u0), .int (moS u0), .int (moI u0)])), (a0_12, .inl (G.2.1 1, iaN u3, .inl (iaF u3)))] → va_S A s.heap H locs → lv_has ls 3 [(0, .ref a0_0), (1, .int x1), (2, .int x2)] → W p l e rm_M_start s m args below meth c H locs 0 0 (MQ below (va_Qi post (fun (u : MoC × IaC) (t : State) => va_P G.1 vwCl [(a0_0, .inr (7, [.ref a0_1, .int (moN u.1), .ref a0_2, .ref a0_3, .ref a0_4, .ref a0_5, .ref a0_6, .ref a0_7, .ref a0_8, .ref a0_9, .ref a0_10, .ref a0_11, .int (moM u.1), .ref a0_12, .int (moT u.1), .ref a0_13, .int (moW u.1), .ref a0_14, .ref a0_15, .int (moG u.1), .int (moS u.1), .int (moI u.1)])), (a0_12, .inl (G.2.1 1, iaN u.2, .inl (iaF u.2)))] t.heap) A) args s 0 0 A) (F0 m 0 ls []) := by
  obtain ⟨hx, hb, hr, hts, hown, hlocks, hml, hC⟩ := id E
  have hK := hC.1
  intro H locs ls h hP hD hS hl
  unfold wp_M_start at h
  refine lv_iload_n hx hb d_Mo_start_0 rfl (lv_at hl 1 rfl) ?_
  refine lv_iconst (v := 1) hx hb d_Mo_start_1 (by decide) ?_
  refine lv_icmp_ne (tgt := 18) hx hb d_Mo_start_2 (by decide) (fun c9 => ?_) (fun c9 => ?_)
  · have h := h.1 c9
    exact t_M_start_18 E hR hA hAB hRn  _ _ _ _ _ _ _ h hP hD hS (lv_sub hl [0, 1, 2] rfl)
  · have h := h.2 c9
    refine lv_iload_n hx hb d_Mo_start_5 rfl (lv_at hl 2 rfl) ?_
    have hRc : va_P G.1 vwCl [] H := vaP_nil
    refine vp_callSi (va_runS (As := [.int x2]) (rest := []) ⟨hx, hb, hml, hown, hts⟩ (c_M_base l G x2 _ h) (va_cwS 1 hts (gwS b_425 b_426 b_427 b_424) rfl rfl rfl hd_Mo_base.2 ⟨Nat.le_of_ble_eq_true rfl, Nat.le_of_ble_eq_true rfl⟩) ⟨mP_blind, fun U hU hW => ⟨rfl, hC.to hW hU hS hAB, by rw [hU]; exact hRc⟩⟩ rfl rfl hl.1 rfl (lv_room (Nat.le_of_ble_eq_true rfl)) d_Mo_start_6 ⟨Nat.le_of_ble_eq_true rfl, Nat.le_of_ble_eq_true rfl⟩).run (fun r16 h => ?_)
    refine lv_if_eq (tgt := 18) hx hb d_Mo_start_9 (by decide) (fun c9 => ?_) (fun c9 => ?_)
    · have h := h.1 c9
      exact t_M_start_18 E hR hA hAB hRn  _ _ _ _ _ _ _ h hP hD hS (lv_sub hl [0, 1, 2] rfl)
    · have h := h.2 c9
      refine lv_aload_n hx hb d_Mo_start_12 rfl (lv_at hl 0 rfl) ?_
      refine lv_iconst (v := 4) hx hb d_Mo_start_13 (by decide) ?_
      have hRc : va_P G.1 vwCl [] H := vaP_nil
      have hPc := hP.sub (ws' := [(a0_0, .inr (7, [.ref a0_1, .int (moN u0), .ref a0_2, .ref a0_3, .ref a0_4, .ref a0_5, .ref a0_6, .ref a0_7, .ref a0_8, .ref a0_9, .ref a0_10, .ref a0_11, .int (moM u0), .ref a0_12, .int (moT u0), .ref a0_13, .int (moW u0), .ref a0_14, .ref a0_15, .int (moG u0), .int (moS u0), .int (moI u0)]))]) [0] rfl
      have hDc := hD.sub (ws' := [(a0_0, .inr (7, [.ref a0_1, .int (moN u0), .ref a0_2, .ref a0_3, .ref a0_4, .ref a0_5, .ref a0_6, .ref a0_7, .ref a0_8, .ref a0_9, .ref a0_10, .ref a0_11, .int (moM u0), .ref a0_12, .int (moT u0), .ref a0_13, .int (moW u0), .ref a0_14, .ref a0_15, .int (moG u0), .int (moS u0), .int (moI u0)]))]) [0] (by decide) rfl
      have hFc := va_free (wc := [(a0_0, .inr (7, [.ref a0_1, .int (moN u0), .ref a0_2, .ref a0_3, .ref a0_4, .ref a0_5, .ref a0_6, .ref a0_7, .ref a0_8, .ref a0_9, .ref a0_10, .ref a0_11, .int (moM u0), .ref a0_12, .int (moT u0), .ref a0_13, .int (moW u0), .ref a0_14, .ref a0_15, .int (moG u0), .int (moS u0), .int (moI u0)]))]) hD hS hA [0] rfl
      have hQc : mw_ap [(a0_0, .inr (7, [.ref a0_1, .int (moN u0), .ref a0_2, .ref a0_3, .ref a0_4, .ref a0_5, .ref a0_6, .ref a0_7, .ref a0_8, .ref a0_9, .ref a0_10, .ref a0_11, .int (moM u0), .ref a0_12, .int (moT u0), .ref a0_13, .int (moW u0), .ref a0_14, .ref a0_15, .int (moG u0), .int (moS u0), .int (moI u0)]))] [] := mw_ap_nil
      refine va_calli (va_runV (As := [.int 4]) (rest := []) ⟨hx, hb, hml, hown, hts⟩ (c_M_pop l G a0_0 a0_1 a0_2 a0_3 a0_4 a0_5 a0_6 a0_7 a0_8 a0_9 a0_10 a0_11 a0_12 a0_13 a0_14 a0_15 u0 4 H.size _ h) (cwV 1 hts (gwV b_429 b_430 b_431 b_427 b_428) rfl rfl rfl hd_Mo_pop ⟨Nat.le_of_ble_eq_true rfl, Nat.le_of_ble_eq_true rfl⟩) ⟨mW_blind, va_recv hK hPc (ci := 7) (q0 := 0) rfl rfl, fun U hU hW => ⟨rfl, hC.to hW hU hS hAB, by rw [hU], by rw [hU]; exact hPc, hDc.weaken (fun _ _ _ => hAB _), by rw [hU]; exact hRc, hQc⟩⟩ rfl rfl hl.1 rfl (lv_room (Nat.le_of_ble_eq_true rfl)) d_Mo_start_14 ⟨Nat.le_of_ble_eq_true rfl, Nat.le_of_ble_eq_true rfl⟩) hS (fun q _ h => hFc q h) hFc (fun r18 v17 t H1 locs ht hvm h hB hz1 hk1 hS => ?_)
      rw [ht] at hB
      have hj9 := mw_join (wr := [(a0_12, .inl (G.2.1 1, iaN u3, .inl (iaF u3)))]) (w1 := [(a0_0, .inr (7, [.ref a0_1, .int (moN v17), .ref a0_2, .ref a0_3, .ref a0_4, .ref a0_5, .ref a0_6, .ref a0_7, .ref a0_8, .ref a0_9, .ref a0_10, .ref a0_11, .int (moM v17), .ref a0_12, .int (moT v17), .ref a0_13, .int (moW v17), .ref a0_14, .ref a0_15, .int (moG v17), .int (moS v17), .int (moI v17)]))]) hP hD [0] [1] rfl rfl (by decide) (by decide) (by decide) hk1 hFc hB rfl
      have hP : va_P G.1 vwCl [(a0_12, .inl (G.2.1 1, iaN u3, .inl (iaF u3))), (a0_0, .inr (7, [.ref a0_1, .int (moN v17), .ref a0_2, .ref a0_3, .ref a0_4, .ref a0_5, .ref a0_6, .ref a0_7, .ref a0_8, .ref a0_9, .ref a0_10, .ref a0_11, .int (moM v17), .ref a0_12, .int (moT v17), .ref a0_13, .int (moW v17), .ref a0_14, .ref a0_15, .int (moG v17), .int (moS v17), .int (moI v17)]))] H1 := hj9.1
      have hD : va_D A [(a0_12, .inl (G.2.1 1, iaN u3, .inl (iaF u3))), (a0_0, .inr (7, [.ref a0_1, .int (moN v17), .ref a0_2, .ref a0_3, .ref a0_4, .ref a0_5, .ref a0_6, .ref a0_7, .ref a0_8, .ref a0_9, .ref a0_10, .ref a0_11, .int (moM v17), .ref a0_12, .int (moT v17), .ref a0_13, .int (moW v17), .ref a0_14, .ref a0_15, .int (moG v17), .int (moS v17), .int (moI v17)]))] := hj9.2
      generalize H1 = H at hP hS ⊢
      have hP := hP.sub (ws' := [(a0_0, .inr (7, [.ref a0_1, .int (moN v17), .ref a0_2, .ref a0_3, .ref a0_4, .ref a0_5, .ref a0_6, .ref a0_7, .ref a0_8, .ref a0_9, .ref a0_10, .ref a0_11, .int (moM v17), .ref a0_12, .int (moT v17), .ref a0_13, .int (moW v17), .ref a0_14, .ref a0_15, .int (moG v17), .int (moS v17), .int (moI v17)])), (a0_12, .inl (G.2.1 1, iaN u3, .inl (iaF u3)))]) [1, 0] rfl
      exact W.iret hx hb hr (fun t ht hW => ⟨⟨_, _, rfl, h, vaP_at ht hP⟩, hS.F ht⟩) hS.2.2 d_Mo_start_17
set_option maxHeartbeats 4000000 in
set_option maxRecDepth 100000 in
theorem c_M_start (l : Launch) (G : GX) (a0_0 a0_1 a0_2 a0_3 a0_4 a0_5 a0_6 a0_7 a0_8 a0_9 a0_10 a0_11 a0_12 a0_13 a0_14 a0_15 : Nat) (u0 : MoC) (u3 : IaC) (x1 : Int32) (x2 : Int32) (sz : Nat) (post : Int32 → (MoC × IaC) → Prop) (h : wp_M_start post u0 u3 x1 x2) : Met l y_Mo_start wc_Mo_start rm_M_start (mW G [.ref a0_0, .int x1, .int x2] sz [(a0_0, .inr (7, [.ref a0_1, .int (moN u0), .ref a0_2, .ref a0_3, .ref a0_4, .ref a0_5, .ref a0_6, .ref a0_7, .ref a0_8, .ref a0_9, .ref a0_10, .ref a0_11, .int (moM u0), .ref a0_12, .int (moT u0), .ref a0_13, .int (moW u0), .ref a0_14, .ref a0_15, .int (moG u0), .int (moS u0), .int (moI u0)])), (a0_12, .inl (G.2.1 1, iaN u3, .inl (iaF u3)))] []) (va_Qi post (fun (u : MoC × IaC) (t : State) => va_P G.1 vwCl [(a0_0, .inr (7, [.ref a0_1, .int (moN u.1), .ref a0_2, .ref a0_3, .ref a0_4, .ref a0_5, .ref a0_6, .ref a0_7, .ref a0_8, .ref a0_9, .ref a0_10, .ref a0_11, .int (moM u.1), .ref a0_12, .int (moT u.1), .ref a0_13, .int (moW u.1), .ref a0_14, .ref a0_15, .int (moG u.1), .int (moS u.1), .int (moI u.1)])), (a0_12, .inl (G.2.1 1, iaN u.2, .inl (iaF u.2)))] t.heap) (va_A [(a0_0, .inr (7, [.ref a0_1, .int (moN u0), .ref a0_2, .ref a0_3, .ref a0_4, .ref a0_5, .ref a0_6, .ref a0_7, .ref a0_8, .ref a0_9, .ref a0_10, .ref a0_11, .int (moM u0), .ref a0_12, .int (moT u0), .ref a0_13, .int (moW u0), .ref a0_14, .ref a0_15, .int (moG u0), .int (moS u0), .int (moI u0)])), (a0_12, .inl (G.2.1 1, iaN u3, .inl (iaF u3)))] sz)) 0 0 (va_A [(a0_0, .inr (7, [.ref a0_1, .int (moN u0), .ref a0_2, .ref a0_3, .ref a0_4, .ref a0_5, .ref a0_6, .ref a0_7, .ref a0_8, .ref a0_9, .ref a0_10, .ref a0_11, .int (moM u0), .ref a0_12, .int (moT u0), .ref a0_13, .int (moW u0), .ref a0_14, .ref a0_15, .int (moG u0), .int (moS u0), .int (moI u0)])), (a0_12, .inl (G.2.1 1, iaN u3, .inl (iaF u3)))] sz) := by
  refine Met.ofW (cc := cc_Mo_start) (maxL := 3) (ret := (some .int)) (by decide) rfl ?_
  intro p e s m args below meth c s₁ B hml hv
  obtain ⟨rfl, hC, hsz, hP, hD0, hR, hap⟩ := hv
  have E : EN p s m ([.ref a0_0, .int x1, .int x2] : List Value).toArray meth c G R_Mo cc_Mo_start 3 (some .int) BG := ⟨B.exec, B.bytes, B.returns, fun w h => atoms_spec (ws := wc_Mo_start) B.pre w (List.mem_cons_of_mem _ h), findClass_of_methodNamed B.named, B.notSynchronized, hml, hC⟩
  subst hsz
  have hD := hD0.self (sz := s.heap.size)
  have hRn := mw_notA hR hap
  have hAB := mw_AB hD0 hC
  have hA : ∀ q : Nat, s.heap.size ≤ q → va_A [(a0_0, .inr (7, [.ref a0_1, .int (moN u0), .ref a0_2, .ref a0_3, .ref a0_4, .ref a0_5, .ref a0_6, .ref a0_7, .ref a0_8, .ref a0_9, .ref a0_10, .ref a0_11, .int (moM u0), .ref a0_12, .int (moT u0), .ref a0_13, .int (moW u0), .ref a0_14, .ref a0_15, .int (moG u0), .int (moS u0), .int (moI u0)])), (a0_12, .inl (G.2.1 1, iaN u3, .inl (iaF u3)))] s.heap.size q := fun q z => Or.inr z
  generalize va_A [(a0_0, .inr (7, [.ref a0_1, .int (moN u0), .ref a0_2, .ref a0_3, .ref a0_4, .ref a0_5, .ref a0_6, .ref a0_7, .ref a0_8, .ref a0_9, .ref a0_10, .ref a0_11, .int (moM u0), .ref a0_12, .int (moT u0), .ref a0_13, .int (moW u0), .ref a0_14, .ref a0_15, .int (moG u0), .int (moS u0), .int (moI u0)])), (a0_12, .inl (G.2.1 1, iaN u3, .inl (iaF u3)))] s.heap.size = A at hD hRn hAB hA ⊢
  have hl := lv_entry ([.ref a0_0, .int x1, .int x2]) (n := 3) (Nat.le_of_ble_eq_true rfl)
  rw [lg_entry_eq]
  generalize (lg_sl ([.ref a0_0, .int x1, .int x2]) ++ List.replicate (3 - (lg_sl ([.ref a0_0, .int x1, .int x2])).length) Slot.unset).toArray = ls at hl ⊢
  have hl : lv_has ls 3 [(0, .ref a0_0), (1, .int x1), (2, .int x2)] := hl
  exact t_M_start_in E hR hA hAB hRn _ _ _ h hP hD va_S.rf hl
set_option maxHeartbeats 4000000 in
set_option maxRecDepth 100000 in
theorem t_M_inner_in {p : Program} {l : Launch} {e : Env} {s : State} {m : MethodId} {args : Array Value} {below : List Frame} {meth : Method} {c : Code} {G : GX} {a0_0 a0_1 a0_2 a0_3 a0_4 a0_5 a0_6 a0_7 a0_8 a0_9 a0_10 a0_11 a0_12 a0_13 a0_14 a0_15 : Nat} {post : Int32 → (MoC × IaC) → Prop} {A : Nat → Prop} {u0 : MoC} {u4 : IaC} {x1 : Int32} {x2 : Int32} {x3 : Int32} (E : EN p s m args meth c G R_Mo cc_Mo_inner 5 (some .int) BG) (hR : va_P G.1 vwCl [] s.heap) (hA : ∀ q : Nat, s.heap.size ≤ q → A q) (hAB : ∀ q : Nat, A q → G.2.2.1 ≤ q) (hRn : ∀ (j : Nat) (q : Nat × va_E), ([] : va_W)[j]? = some q → ¬ A q.1) : ∀ (H : Heap) (locs : List Loc) (ls : Array Slot), wp_M_inner post u0 u4 x1 x2 x3 → va_P G.1 vwCl [(a0_0, .inr (7, [.ref a0_1, .int (moN u0), .ref a0_2, .ref a0_3, .ref a0_4, .ref a0_5, .ref a0_6, .ref a0_7, .ref a0_8, .ref a0_9, .ref a0_10, .ref a0_11, .int (moM u0), .ref a0_12, .int (moT u0), .ref a0_13, .int (moW u0), .ref a0_14, .ref a0_15, .int (moG u0), .int (moS u0), .int (moI u0)])), (a0_12, .inl (G.2.1 1, iaN u4, .inl (iaF u4)))] H → va_D A [(a0_0, .inr (7, [.ref a0_1, .int (moN u0), .ref a0_2, .ref a0_3, .ref a0_4, .ref a0_5, .ref a0_6, .ref a0_7, .ref a0_8, .ref a0_9, .ref a0_10, .ref a0_11, .int (moM u0), .ref a0_12, .int (moT u0), .ref a0_13, .int (moW u0), .ref a0_14, .ref a0_15, .int (moG u0), .int (moS u0), .int (moI u0)])), (a0_12, .inl (G.2.1 1, iaN u4, .inl (iaF u4)))] → va_S A s.heap H locs → lv_has ls 5 [(0, .ref a0_0), (1, .int x1), (2, .int x2), (3, .int x3)] → W p l e rm_M_inner s m args below meth c H locs 0 0 (MQ below (va_Qi post (fun (u : MoC × IaC) (t : State) => va_P G.1 vwCl [(a0_0, .inr (7, [.ref a0_1, .int (moN u.1), .ref a0_2, .ref a0_3, .ref a0_4, .ref a0_5, .ref a0_6, .ref a0_7, .ref a0_8, .ref a0_9, .ref a0_10, .ref a0_11, .int (moM u.1), .ref a0_12, .int (moT u.1), .ref a0_13, .int (moW u.1), .ref a0_14, .ref a0_15, .int (moG u.1), .int (moS u.1), .int (moI u.1)])), (a0_12, .inl (G.2.1 1, iaN u.2, .inl (iaF u.2)))] t.heap) A) args s 0 0 A) (F0 m 0 ls []) := by
  obtain ⟨hx, hb, hr, hts, hown, hlocks, hml, hC⟩ := id E
  have hK := hC.1
  intro H locs ls h hP hD hS hl
  unfold wp_M_inner at h
  refine lv_aload_n hx hb d_Mo_inner_0 rfl (lv_at hl 0 rfl) ?_
  refine lv_iload_n hx hb d_Mo_inner_1 rfl (lv_at hl 1 rfl) ?_
  refine lv_iload_n hx hb d_Mo_inner_2 rfl (lv_at hl 2 rfl) ?_
  refine lv_iconst (v := 1) hx hb d_Mo_inner_3 (by decide) ?_
  have hRc : va_P G.1 vwCl [] H := vaP_nil
  have hPc := hP.sub (ws' := [(a0_0, .inr (7, [.ref a0_1, .int (moN u0), .ref a0_2, .ref a0_3, .ref a0_4, .ref a0_5, .ref a0_6, .ref a0_7, .ref a0_8, .ref a0_9, .ref a0_10, .ref a0_11, .int (moM u0), .ref a0_12, .int (moT u0), .ref a0_13, .int (moW u0), .ref a0_14, .ref a0_15, .int (moG u0), .int (moS u0), .int (moI u0)])), (a0_12, .inl (G.2.1 1, iaN u4, .inl (iaF u4)))]) [0, 1] rfl
  have hDc := hD.sub (ws' := [(a0_0, .inr (7, [.ref a0_1, .int (moN u0), .ref a0_2, .ref a0_3, .ref a0_4, .ref a0_5, .ref a0_6, .ref a0_7, .ref a0_8, .ref a0_9, .ref a0_10, .ref a0_11, .int (moM u0), .ref a0_12, .int (moT u0), .ref a0_13, .int (moW u0), .ref a0_14, .ref a0_15, .int (moG u0), .int (moS u0), .int (moI u0)])), (a0_12, .inl (G.2.1 1, iaN u4, .inl (iaF u4)))]) [0, 1] (by decide) rfl
  have hFc := va_free (wc := [(a0_0, .inr (7, [.ref a0_1, .int (moN u0), .ref a0_2, .ref a0_3, .ref a0_4, .ref a0_5, .ref a0_6, .ref a0_7, .ref a0_8, .ref a0_9, .ref a0_10, .ref a0_11, .int (moM u0), .ref a0_12, .int (moT u0), .ref a0_13, .int (moW u0), .ref a0_14, .ref a0_15, .int (moG u0), .int (moS u0), .int (moI u0)])), (a0_12, .inl (G.2.1 1, iaN u4, .inl (iaF u4)))]) hD hS hA [0, 1] rfl
  have hQc : mw_ap [(a0_0, .inr (7, [.ref a0_1, .int (moN u0), .ref a0_2, .ref a0_3, .ref a0_4, .ref a0_5, .ref a0_6, .ref a0_7, .ref a0_8, .ref a0_9, .ref a0_10, .ref a0_11, .int (moM u0), .ref a0_12, .int (moT u0), .ref a0_13, .int (moW u0), .ref a0_14, .ref a0_15, .int (moG u0), .int (moS u0), .int (moI u0)])), (a0_12, .inl (G.2.1 1, iaN u4, .inl (iaF u4)))] [] := mw_ap_nil
  refine va_calli (va_runV (As := [.int x1, .int x2, .int 1]) (rest := []) ⟨hx, hb, hml, hown, hts⟩ (c_M_push l G a0_0 a0_1 a0_2 a0_3 a0_4 a0_5 a0_6 a0_7 a0_8 a0_9 a0_10 a0_11 a0_12 a0_13 a0_14 a0_15 u0 u4 x1 x2 1 H.size _ h) (cwV 3 hts (gwV b_437 b_438 b_439 b_427 b_436) rfl rfl rfl hd_Mo_push ⟨Nat.le_of_ble_eq_true rfl, Nat.le_of_ble_eq_true rfl⟩) ⟨mW_blind, va_recv hK hPc (ci := 7) (q0 := 0) rfl rfl, fun U hU hW => ⟨rfl, hC.to hW hU hS hAB, by rw [hU], by rw [hU]; exact hPc, hDc.weaken (fun _ _ _ => hAB _), by rw [hU]; exact hRc, hQc⟩⟩ rfl rfl hl.1 rfl (lv_room (Nat.le_of_ble_eq_true rfl)) d_Mo_inner_4 ⟨Nat.le_of_ble_eq_true rfl, Nat.le_of_ble_eq_true rfl⟩) hS (fun q _ h => hFc q h) hFc (fun r6 v5 t H1 locs ht hvm h hB hz1 hk1 hS => ?_)
  rw [ht] at hB
  have hj9 := mw_join (wr := []) (w1 := [(a0_0, .inr (7, [.ref a0_1, .int (moN v5.1), .ref a0_2, .ref a0_3, .ref a0_4, .ref a0_5, .ref a0_6, .ref a0_7, .ref a0_8, .ref a0_9, .ref a0_10, .ref a0_11, .int (moM v5.1), .ref a0_12, .int (moT v5.1), .ref a0_13, .int (moW v5.1), .ref a0_14, .ref a0_15, .int (moG v5.1), .int (moS v5.1), .int (moI v5.1)])), (a0_12, .inl (G.2.1 1, iaN v5.2, .inl (iaF v5.2)))]) hP hD [0, 1] [] rfl rfl (by decide) (by decide) (by decide) hk1 hFc hB rfl
  have hP : va_P G.1 vwCl [(a0_0, .inr (7, [.ref a0_1, .int (moN v5.1), .ref a0_2, .ref a0_3, .ref a0_4, .ref a0_5, .ref a0_6, .ref a0_7, .ref a0_8, .ref a0_9, .ref a0_10, .ref a0_11, .int (moM v5.1), .ref a0_12, .int (moT v5.1), .ref a0_13, .int (moW v5.1), .ref a0_14, .ref a0_15, .int (moG v5.1), .int (moS v5.1), .int (moI v5.1)])), (a0_12, .inl (G.2.1 1, iaN v5.2, .inl (iaF v5.2)))] H1 := hj9.1
  have hD : va_D A [(a0_0, .inr (7, [.ref a0_1, .int (moN v5.1), .ref a0_2, .ref a0_3, .ref a0_4, .ref a0_5, .ref a0_6, .ref a0_7, .ref a0_8, .ref a0_9, .ref a0_10, .ref a0_11, .int (moM v5.1), .ref a0_12, .int (moT v5.1), .ref a0_13, .int (moW v5.1), .ref a0_14, .ref a0_15, .int (moG v5.1), .int (moS v5.1), .int (moI v5.1)])), (a0_12, .inl (G.2.1 1, iaN v5.2, .inl (iaF v5.2)))] := hj9.2
  generalize H1 = H at hP hS ⊢
  refine lv_istore (lv' := [(4, .int r6), (0, .ref a0_0), (1, .int x1), (2, .int x2), (3, .int x3)]) hx hb d_Mo_inner_7 hl (by decide) rfl (fun ls hl => ?_)
  refine lv_iload hx hb d_Mo_inner_9 (lv_at hl 0 rfl) ?_
  refine lv_iconst (v := 1) hx hb d_Mo_inner_11 (by decide) ?_
  refine lv_icmp_ne (tgt := 24) hx hb d_Mo_inner_12 (by decide) (fun c9 => ?_) (fun c9 => ?_)
  · have h := h.1 c9
    refine lv_iconst (v := 0) hx hb d_Mo_inner_24 (by decide) ?_
    exact W.iret hx hb hr (fun t ht hW => ⟨⟨_, _, rfl, h, vaP_at ht hP⟩, hS.F ht⟩) hS.2.2 d_Mo_inner_25
  · have h := h.2 c9
    refine lv_aload_n hx hb d_Mo_inner_15 rfl (lv_at hl 1 rfl) ?_
    refine lv_iload_n hx hb d_Mo_inner_16 rfl (lv_at hl 3 rfl) ?_
    refine lv_iload_n hx hb d_Mo_inner_17 rfl (lv_at hl 4 rfl) ?_
    have hRc : va_P G.1 vwCl [] H := vaP_nil
    have hPc := hP.sub (ws' := [(a0_0, .inr (7, [.ref a0_1, .int (moN v5.1), .ref a0_2, .ref a0_3, .ref a0_4, .ref a0_5, .ref a0_6, .ref a0_7, .ref a0_8, .ref a0_9, .ref a0_10, .ref a0_11, .int (moM v5.1), .ref a0_12, .int (moT v5.1), .ref a0_13, .int (moW v5.1), .ref a0_14, .ref a0_15, .int (moG v5.1), .int (moS v5.1), .int (moI v5.1)])), (a0_12, .inl (G.2.1 1, iaN v5.2, .inl (iaF v5.2)))]) [0, 1] rfl
    have hDc := hD.sub (ws' := [(a0_0, .inr (7, [.ref a0_1, .int (moN v5.1), .ref a0_2, .ref a0_3, .ref a0_4, .ref a0_5, .ref a0_6, .ref a0_7, .ref a0_8, .ref a0_9, .ref a0_10, .ref a0_11, .int (moM v5.1), .ref a0_12, .int (moT v5.1), .ref a0_13, .int (moW v5.1), .ref a0_14, .ref a0_15, .int (moG v5.1), .int (moS v5.1), .int (moI v5.1)])), (a0_12, .inl (G.2.1 1, iaN v5.2, .inl (iaF v5.2)))]) [0, 1] (by decide) rfl
    have hFc := va_free (wc := [(a0_0, .inr (7, [.ref a0_1, .int (moN v5.1), .ref a0_2, .ref a0_3, .ref a0_4, .ref a0_5, .ref a0_6, .ref a0_7, .ref a0_8, .ref a0_9, .ref a0_10, .ref a0_11, .int (moM v5.1), .ref a0_12, .int (moT v5.1), .ref a0_13, .int (moW v5.1), .ref a0_14, .ref a0_15, .int (moG v5.1), .int (moS v5.1), .int (moI v5.1)])), (a0_12, .inl (G.2.1 1, iaN v5.2, .inl (iaF v5.2)))]) hD hS hA [0, 1] rfl
    have hQc : mw_ap [(a0_0, .inr (7, [.ref a0_1, .int (moN v5.1), .ref a0_2, .ref a0_3, .ref a0_4, .ref a0_5, .ref a0_6, .ref a0_7, .ref a0_8, .ref a0_9, .ref a0_10, .ref a0_11, .int (moM v5.1), .ref a0_12, .int (moT v5.1), .ref a0_13, .int (moW v5.1), .ref a0_14, .ref a0_15, .int (moG v5.1), .int (moS v5.1), .int (moI v5.1)])), (a0_12, .inl (G.2.1 1, iaN v5.2, .inl (iaF v5.2)))] [] := mw_ap_nil
    refine va_calli (va_runV (As := [.int x2, .int x3]) (rest := []) ⟨hx, hb, hml, hown, hts⟩ (c_M_start l G a0_0 a0_1 a0_2 a0_3 a0_4 a0_5 a0_6 a0_7 a0_8 a0_9 a0_10 a0_11 a0_12 a0_13 a0_14 a0_15 v5.1 v5.2 x2 x3 H.size _ h) (cwV 2 hts (gwV b_441 b_442 b_443 b_427 b_440) rfl rfl rfl hd_Mo_start ⟨Nat.le_of_ble_eq_true rfl, Nat.le_of_ble_eq_true rfl⟩) ⟨mW_blind, va_recv hK hPc (ci := 7) (q0 := 0) rfl rfl, fun U hU hW => ⟨rfl, hC.to hW hU hS hAB, by rw [hU], by rw [hU]; exact hPc, hDc.weaken (fun _ _ _ => hAB _), by rw [hU]; exact hRc, hQc⟩⟩ rfl rfl hl.1 rfl (lv_room (Nat.le_of_ble_eq_true rfl)) d_Mo_inner_18 ⟨Nat.le_of_ble_eq_true rfl, Nat.le_of_ble_eq_true rfl⟩) hS (fun q _ h => hFc q h) hFc (fun r8 v7 t H1 locs ht hvm h hB hz1 hk1 hS => ?_)
    rw [ht] at hB
    have hj9 := mw_join (wr := []) (w1 := [(a0_0, .inr (7, [.ref a0_1, .int (moN v7.1), .ref a0_2, .ref a0_3, .ref a0_4, .ref a0_5, .ref a0_6, .ref a0_7, .ref a0_8, .ref a0_9, .ref a0_10, .ref a0_11, .int (moM v7.1), .ref a0_12, .int (moT v7.1), .ref a0_13, .int (moW v7.1), .ref a0_14, .ref a0_15, .int (moG v7.1), .int (moS v7.1), .int (moI v7.1)])), (a0_12, .inl (G.2.1 1, iaN v7.2, .inl (iaF v7.2)))]) hP hD [0, 1] [] rfl rfl (by decide) (by decide) (by decide) hk1 hFc hB rfl
    have hP : va_P G.1 vwCl [(a0_0, .inr (7, [.ref a0_1, .int (moN v7.1), .ref a0_2, .ref a0_3, .ref a0_4, .ref a0_5, .ref a0_6, .ref a0_7, .ref a0_8, .ref a0_9, .ref a0_10, .ref a0_11, .int (moM v7.1), .ref a0_12, .int (moT v7.1), .ref a0_13, .int (moW v7.1), .ref a0_14, .ref a0_15, .int (moG v7.1), .int (moS v7.1), .int (moI v7.1)])), (a0_12, .inl (G.2.1 1, iaN v7.2, .inl (iaF v7.2)))] H1 := hj9.1
    have hD : va_D A [(a0_0, .inr (7, [.ref a0_1, .int (moN v7.1), .ref a0_2, .ref a0_3, .ref a0_4, .ref a0_5, .ref a0_6, .ref a0_7, .ref a0_8, .ref a0_9, .ref a0_10, .ref a0_11, .int (moM v7.1), .ref a0_12, .int (moT v7.1), .ref a0_13, .int (moW v7.1), .ref a0_14, .ref a0_15, .int (moG v7.1), .int (moS v7.1), .int (moI v7.1)])), (a0_12, .inl (G.2.1 1, iaN v7.2, .inl (iaF v7.2)))] := hj9.2
    generalize H1 = H at hP hS ⊢
    refine lv_goto (tgt := 25) hx hb d_Mo_inner_21 (by decide) ?_
    exact W.iret hx hb hr (fun t ht hW => ⟨⟨_, _, rfl, h, vaP_at ht hP⟩, hS.F ht⟩) hS.2.2 d_Mo_inner_25
set_option maxHeartbeats 4000000 in
set_option maxRecDepth 100000 in
theorem c_M_inner (l : Launch) (G : GX) (a0_0 a0_1 a0_2 a0_3 a0_4 a0_5 a0_6 a0_7 a0_8 a0_9 a0_10 a0_11 a0_12 a0_13 a0_14 a0_15 : Nat) (u0 : MoC) (u4 : IaC) (x1 : Int32) (x2 : Int32) (x3 : Int32) (sz : Nat) (post : Int32 → (MoC × IaC) → Prop) (h : wp_M_inner post u0 u4 x1 x2 x3) : Met l y_Mo_inner wc_Mo_inner rm_M_inner (mW G [.ref a0_0, .int x1, .int x2, .int x3] sz [(a0_0, .inr (7, [.ref a0_1, .int (moN u0), .ref a0_2, .ref a0_3, .ref a0_4, .ref a0_5, .ref a0_6, .ref a0_7, .ref a0_8, .ref a0_9, .ref a0_10, .ref a0_11, .int (moM u0), .ref a0_12, .int (moT u0), .ref a0_13, .int (moW u0), .ref a0_14, .ref a0_15, .int (moG u0), .int (moS u0), .int (moI u0)])), (a0_12, .inl (G.2.1 1, iaN u4, .inl (iaF u4)))] []) (va_Qi post (fun (u : MoC × IaC) (t : State) => va_P G.1 vwCl [(a0_0, .inr (7, [.ref a0_1, .int (moN u.1), .ref a0_2, .ref a0_3, .ref a0_4, .ref a0_5, .ref a0_6, .ref a0_7, .ref a0_8, .ref a0_9, .ref a0_10, .ref a0_11, .int (moM u.1), .ref a0_12, .int (moT u.1), .ref a0_13, .int (moW u.1), .ref a0_14, .ref a0_15, .int (moG u.1), .int (moS u.1), .int (moI u.1)])), (a0_12, .inl (G.2.1 1, iaN u.2, .inl (iaF u.2)))] t.heap) (va_A [(a0_0, .inr (7, [.ref a0_1, .int (moN u0), .ref a0_2, .ref a0_3, .ref a0_4, .ref a0_5, .ref a0_6, .ref a0_7, .ref a0_8, .ref a0_9, .ref a0_10, .ref a0_11, .int (moM u0), .ref a0_12, .int (moT u0), .ref a0_13, .int (moW u0), .ref a0_14, .ref a0_15, .int (moG u0), .int (moS u0), .int (moI u0)])), (a0_12, .inl (G.2.1 1, iaN u4, .inl (iaF u4)))] sz)) 0 0 (va_A [(a0_0, .inr (7, [.ref a0_1, .int (moN u0), .ref a0_2, .ref a0_3, .ref a0_4, .ref a0_5, .ref a0_6, .ref a0_7, .ref a0_8, .ref a0_9, .ref a0_10, .ref a0_11, .int (moM u0), .ref a0_12, .int (moT u0), .ref a0_13, .int (moW u0), .ref a0_14, .ref a0_15, .int (moG u0), .int (moS u0), .int (moI u0)])), (a0_12, .inl (G.2.1 1, iaN u4, .inl (iaF u4)))] sz) := by
  refine Met.ofW (cc := cc_Mo_inner) (maxL := 5) (ret := (some .int)) (by decide) rfl ?_
  intro p e s m args below meth c s₁ B hml hv
  obtain ⟨rfl, hC, hsz, hP, hD0, hR, hap⟩ := hv
  have E : EN p s m ([.ref a0_0, .int x1, .int x2, .int x3] : List Value).toArray meth c G R_Mo cc_Mo_inner 5 (some .int) BG := ⟨B.exec, B.bytes, B.returns, fun w h => atoms_spec (ws := wc_Mo_inner) B.pre w (List.mem_cons_of_mem _ h), findClass_of_methodNamed B.named, B.notSynchronized, hml, hC⟩
  subst hsz
  have hD := hD0.self (sz := s.heap.size)
  have hRn := mw_notA hR hap
  have hAB := mw_AB hD0 hC
  have hA : ∀ q : Nat, s.heap.size ≤ q → va_A [(a0_0, .inr (7, [.ref a0_1, .int (moN u0), .ref a0_2, .ref a0_3, .ref a0_4, .ref a0_5, .ref a0_6, .ref a0_7, .ref a0_8, .ref a0_9, .ref a0_10, .ref a0_11, .int (moM u0), .ref a0_12, .int (moT u0), .ref a0_13, .int (moW u0), .ref a0_14, .ref a0_15, .int (moG u0), .int (moS u0), .int (moI u0)])), (a0_12, .inl (G.2.1 1, iaN u4, .inl (iaF u4)))] s.heap.size q := fun q z => Or.inr z
  generalize va_A [(a0_0, .inr (7, [.ref a0_1, .int (moN u0), .ref a0_2, .ref a0_3, .ref a0_4, .ref a0_5, .ref a0_6, .ref a0_7, .ref a0_8, .ref a0_9, .ref a0_10, .ref a0_11, .int (moM u0), .ref a0_12, .int (moT u0), .ref a0_13, .int (moW u0), .ref a0_14, .ref a0_15, .int (moG u0), .int (moS u0), .int (moI u0)])), (a0_12, .inl (G.2.1 1, iaN u4, .inl (iaF u4)))] s.heap.size = A at hD hRn hAB hA ⊢
  have hl := lv_entry ([.ref a0_0, .int x1, .int x2, .int x3]) (n := 5) (Nat.le_of_ble_eq_true rfl)
  rw [lg_entry_eq]
  generalize (lg_sl ([.ref a0_0, .int x1, .int x2, .int x3]) ++ List.replicate (5 - (lg_sl ([.ref a0_0, .int x1, .int x2, .int x3])).length) Slot.unset).toArray = ls at hl ⊢
  have hl : lv_has ls 5 [(0, .ref a0_0), (1, .int x1), (2, .int x2), (3, .int x3)] := hl
  exact t_M_inner_in E hR hA hAB hRn _ _ _ h hP hD va_S.rf hl
set_option maxHeartbeats 4000000 in
set_option maxRecDepth 100000 in
theorem t_M_inArguments_44 {p : Program} {l : Launch} {e : Env} {s : State} {m : MethodId} {args : Array Value} {below : List Frame} {meth : Method} {c : Code} {G : GX} {a0_0 a0_1 a0_2 a0_3 a0_4 a0_5 a0_6 a0_7 a0_8 a0_9 a0_10 a0_11 a0_12 a0_13 a0_14 a0_15 : Nat} {post : Int32 → (MoC × IaC) → Prop} {A : Nat → Prop} (E : EN p s m args meth c G R_Mo cc_Mo_inArguments 3 (some .int) BG) (hR : va_P G.1 vwCl [] s.heap) (hA : ∀ q : Nat, s.heap.size ≤ q → A q) (hAB : ∀ q : Nat, A q → G.2.2.1 ≤ q) (hRn : ∀ (j : Nat) (q : Nat × va_E), ([] : va_W)[j]? = some q → ¬ A q.1) : ∀ (z0 : Int32) (z1 : Int32) (z2 : Int32) (w0 : MoC) (w1 : IaC) (H : Heap) (locs : List Loc) (ls : Array Slot), w_M_inArguments_44 post z0 z1 z2 w0 w1 → va_P G.1 vwCl [(a0_0, .inr (7, [.ref a0_1, .int (moN w0), .ref a0_2, .ref a0_3, .ref a0_4, .ref a0_5, .ref a0_6, .ref a0_7, .ref a0_8, .ref a0_9, .ref a0_10, .ref a0_11, .int (moM w0), .ref a0_12, .int (moT w0), .ref a0_13, .int (moW w0), .ref a0_14, .ref a0_15, .int (moG w0), .int (moS w0), .int (moI w0)])), (a0_12, .inl (G.2.1 1, iaN w1, .inl (iaF w1)))] H → va_D A [(a0_0, .inr (7, [.ref a0_1, .int (moN w0), .ref a0_2, .ref a0_3, .ref a0_4, .ref a0_5, .ref a0_6, .ref a0_7, .ref a0_8, .ref a0_9, .ref a0_10, .ref a0_11, .int (moM w0), .ref a0_12, .int (moT w0), .ref a0_13, .int (moW w0), .ref a0_14, .ref a0_15, .int (moG w0), .int (moS w0), .int (moI w0)])), (a0_12, .inl (G.2.1 1, iaN w1, .inl (iaF w1)))] → va_S A s.heap H locs → lv_has ls 3 [] → W p l e rm_M_inArguments s m args below meth c H locs 0 0 (MQ below (va_Qi post (fun (u : MoC × IaC) (t : State) => va_P G.1 vwCl [(a0_0, .inr (7, [.ref a0_1, .int (moN u.1), .ref a0_2, .ref a0_3, .ref a0_4, .ref a0_5, .ref a0_6, .ref a0_7, .ref a0_8, .ref a0_9, .ref a0_10, .ref a0_11, .int (moM u.1), .ref a0_12, .int (moT u.1), .ref a0_13, .int (moW u.1), .ref a0_14, .ref a0_15, .int (moG u.1), .int (moS u.1), .int (moI u.1)])), (a0_12, .inl (G.2.1 1, iaN u.2, .inl (iaF u.2)))] t.heap) A) args s 0 0 A) (F0 m 44 ls [.int z0, .int z1, .int z2, .ref a0_0]) := by
  obtain ⟨hx, hb, hr, hts, hown, hlocks, hml, hC⟩ := id E
  have hK := hC.1
  intro z0 z1 z2 w0 w1  H locs ls h hP hD hS hl
  unfold w_M_inArguments_44 at h
  have hRc : va_P G.1 vwCl [] H := vaP_nil
  have hPc := hP.sub (ws' := [(a0_0, .inr (7, [.ref a0_1, .int (moN w0), .ref a0_2, .ref a0_3, .ref a0_4, .ref a0_5, .ref a0_6, .ref a0_7, .ref a0_8, .ref a0_9, .ref a0_10, .ref a0_11, .int (moM w0), .ref a0_12, .int (moT w0), .ref a0_13, .int (moW w0), .ref a0_14, .ref a0_15, .int (moG w0), .int (moS w0), .int (moI w0)])), (a0_12, .inl (G.2.1 1, iaN w1, .inl (iaF w1)))]) [0, 1] rfl
  have hDc := hD.sub (ws' := [(a0_0, .inr (7, [.ref a0_1, .int (moN w0), .ref a0_2, .ref a0_3, .ref a0_4, .ref a0_5, .ref a0_6, .ref a0_7, .ref a0_8, .ref a0_9, .ref a0_10, .ref a0_11, .int (moM w0), .ref a0_12, .int (moT w0), .ref a0_13, .int (moW w0), .ref a0_14, .ref a0_15, .int (moG w0), .int (moS w0), .int (moI w0)])), (a0_12, .inl (G.2.1 1, iaN w1, .inl (iaF w1)))]) [0, 1] (by decide) rfl
  have hFc := va_free (wc := [(a0_0, .inr (7, [.ref a0_1, .int (moN w0), .ref a0_2, .ref a0_3, .ref a0_4, .ref a0_5, .ref a0_6, .ref a0_7, .ref a0_8, .ref a0_9, .ref a0_10, .ref a0_11, .int (moM w0), .ref a0_12, .int (moT w0), .ref a0_13, .int (moW w0), .ref a0_14, .ref a0_15, .int (moG w0), .int (moS w0), .int (moI w0)])), (a0_12, .inl (G.2.1 1, iaN w1, .inl (iaF w1)))]) hD hS hA [0, 1] rfl
  have hQc : mw_ap [(a0_0, .inr (7, [.ref a0_1, .int (moN w0), .ref a0_2, .ref a0_3, .ref a0_4, .ref a0_5, .ref a0_6, .ref a0_7, .ref a0_8, .ref a0_9, .ref a0_10, .ref a0_11, .int (moM w0), .ref a0_12, .int (moT w0), .ref a0_13, .int (moW w0), .ref a0_14, .ref a0_15, .int (moG w0), .int (moS w0), .int (moI w0)])), (a0_12, .inl (G.2.1 1, iaN w1, .inl (iaF w1)))] [] := mw_ap_nil
  refine va_calli (va_runV (As := [.int z2, .int z1, .int z0]) (rest := []) ⟨hx, hb, hml, hown, hts⟩ (c_M_push l G a0_0 a0_1 a0_2 a0_3 a0_4 a0_5 a0_6 a0_7 a0_8 a0_9 a0_10 a0_11 a0_12 a0_13 a0_14 a0_15 w0 w1 z2 z1 z0 H.size _ h) (cwV 3 hts (gwV b_437 b_438 b_439 b_427 b_436) rfl rfl rfl hd_Mo_push ⟨Nat.le_of_ble_eq_true rfl, Nat.le_of_ble_eq_true rfl⟩) ⟨mW_blind, va_recv hK hPc (ci := 7) (q0 := 0) rfl rfl, fun U hU hW => ⟨rfl, hC.to hW hU hS hAB, by rw [hU], by rw [hU]; exact hPc, hDc.weaken (fun _ _ _ => hAB _), by rw [hU]; exact hRc, hQc⟩⟩ rfl rfl hl.1 rfl (lv_room (Nat.le_of_ble_eq_true rfl)) d_Mo_inArguments_44 ⟨Nat.le_of_ble_eq_true rfl, Nat.le_of_ble_eq_true rfl⟩) hS (fun q _ h => hFc q h) hFc (fun r10 v9 t H1 locs ht hvm h hB hz1 hk1 hS => ?_)
  rw [ht] at hB
  have hj9 := mw_join (wr := []) (w1 := [(a0_0, .inr (7, [.ref a0_1, .int (moN v9.1), .ref a0_2, .ref a0_3, .ref a0_4, .ref a0_5, .ref a0_6, .ref a0_7, .ref a0_8, .ref a0_9, .ref a0_10, .ref a0_11, .int (moM v9.1), .ref a0_12, .int (moT v9.1), .ref a0_13, .int (moW v9.1), .ref a0_14, .ref a0_15, .int (moG v9.1), .int (moS v9.1), .int (moI v9.1)])), (a0_12, .inl (G.2.1 1, iaN v9.2, .inl (iaF v9.2)))]) hP hD [0, 1] [] rfl rfl (by decide) (by decide) (by decide) hk1 hFc hB rfl
  have hP : va_P G.1 vwCl [(a0_0, .inr (7, [.ref a0_1, .int (moN v9.1), .ref a0_2, .ref a0_3, .ref a0_4, .ref a0_5, .ref a0_6, .ref a0_7, .ref a0_8, .ref a0_9, .ref a0_10, .ref a0_11, .int (moM v9.1), .ref a0_12, .int (moT v9.1), .ref a0_13, .int (moW v9.1), .ref a0_14, .ref a0_15, .int (moG v9.1), .int (moS v9.1), .int (moI v9.1)])), (a0_12, .inl (G.2.1 1, iaN v9.2, .inl (iaF v9.2)))] H1 := hj9.1
  have hD : va_D A [(a0_0, .inr (7, [.ref a0_1, .int (moN v9.1), .ref a0_2, .ref a0_3, .ref a0_4, .ref a0_5, .ref a0_6, .ref a0_7, .ref a0_8, .ref a0_9, .ref a0_10, .ref a0_11, .int (moM v9.1), .ref a0_12, .int (moT v9.1), .ref a0_13, .int (moW v9.1), .ref a0_14, .ref a0_15, .int (moG v9.1), .int (moS v9.1), .int (moI v9.1)])), (a0_12, .inl (G.2.1 1, iaN v9.2, .inl (iaF v9.2)))] := hj9.2
  generalize H1 = H at hP hS ⊢
  exact W.iret hx hb hr (fun t ht hW => ⟨⟨_, _, rfl, h, vaP_at ht hP⟩, hS.F ht⟩) hS.2.2 d_Mo_inArguments_47
set_option maxHeartbeats 4000000 in
set_option maxRecDepth 100000 in
theorem t_M_inArguments_27 {p : Program} {l : Launch} {e : Env} {s : State} {m : MethodId} {args : Array Value} {below : List Frame} {meth : Method} {c : Code} {G : GX} {a0_0 a0_1 a0_2 a0_3 a0_4 a0_5 a0_6 a0_7 a0_8 a0_9 a0_10 a0_11 a0_12 a0_13 a0_14 a0_15 : Nat} {post : Int32 → (MoC × IaC) → Prop} {A : Nat → Prop} (E : EN p s m args meth c G R_Mo cc_Mo_inArguments 3 (some .int) BG) (hR : va_P G.1 vwCl [] s.heap) (hA : ∀ q : Nat, s.heap.size ≤ q → A q) (hAB : ∀ q : Nat, A q → G.2.2.1 ≤ q) (hRn : ∀ (j : Nat) (q : Nat × va_E), ([] : va_W)[j]? = some q → ¬ A q.1) : ∀ (y2 : Int32) (w0 : MoC) (w1 : IaC) (H : Heap) (locs : List Loc) (ls : Array Slot), w_M_inArguments_27 post y2 w0 w1 → va_P G.1 vwCl [(a0_0, .inr (7, [.ref a0_1, .int (moN w0), .ref a0_2, .ref a0_3, .ref a0_4, .ref a0_5, .ref a0_6, .ref a0_7, .ref a0_8, .ref a0_9, .ref a0_10, .ref a0_11, .int (moM w0), .ref a0_12, .int (moT w0), .ref a0_13, .int (moW w0), .ref a0_14, .ref a0_15, .int (moG w0), .int (moS w0), .int (moI w0)])), (a0_12, .inl (G.2.1 1, iaN w1, .inl (iaF w1)))] H → va_D A [(a0_0, .inr (7, [.ref a0_1, .int (moN w0), .ref a0_2, .ref a0_3, .ref a0_4, .ref a0_5, .ref a0_6, .ref a0_7, .ref a0_8, .ref a0_9, .ref a0_10, .ref a0_11, .int (moM w0), .ref a0_12, .int (moT w0), .ref a0_13, .int (moW w0), .ref a0_14, .ref a0_15, .int (moG w0), .int (moS w0), .int (moI w0)])), (a0_12, .inl (G.2.1 1, iaN w1, .inl (iaF w1)))] → va_S A s.heap H locs → lv_has ls 3 [(0, .ref a0_0), (2, .int y2)] → W p l e rm_M_inArguments s m args below meth c H locs 0 0 (MQ below (va_Qi post (fun (u : MoC × IaC) (t : State) => va_P G.1 vwCl [(a0_0, .inr (7, [.ref a0_1, .int (moN u.1), .ref a0_2, .ref a0_3, .ref a0_4, .ref a0_5, .ref a0_6, .ref a0_7, .ref a0_8, .ref a0_9, .ref a0_10, .ref a0_11, .int (moM u.1), .ref a0_12, .int (moT u.1), .ref a0_13, .int (moW u.1), .ref a0_14, .ref a0_15, .int (moG u.1), .int (moS u.1), .int (moI u.1)])), (a0_12, .inl (G.2.1 1, iaN u.2, .inl (iaF u.2)))] t.heap) A) args s 0 0 A) (F0 m 27 ls []) := by
  obtain ⟨hx, hb, hr, hts, hown, hlocks, hml, hC⟩ := id E
  have hK := hC.1
  intro y2 w0 w1  H locs ls h hP hD hS hl
  unfold w_M_inArguments_27 at h
  refine lv_aload_n hx hb d_Mo_inArguments_27 rfl (lv_at hl 0 rfl) ?_
  refine lv_bipush (v := 11) hx hb d_Mo_inArguments_28 (by decide) ?_
  refine lv_iconst (v := 2) hx hb d_Mo_inArguments_30 (by decide) ?_
  refine lv_iload_n hx hb d_Mo_inArguments_31 rfl (lv_at hl 1 rfl) ?_
  refine lv_bipush (v := 43) hx hb d_Mo_inArguments_32 (by decide) ?_
  refine lv_icmp_ne (tgt := 42) hx hb d_Mo_inArguments_34 (by decide) (fun c9 => ?_) (fun c9 => ?_)
  · have h := h.1 c9
    refine lv_bipush (v := 12) hx hb d_Mo_inArguments_42 (by decide) ?_
    exact t_M_inArguments_44 E hR hA hAB hRn  _ _ _ _ _ _ _ _ h hP hD hS (lv_sub hl [] rfl)
  · have h := h.2 c9
    refine lv_bipush (v := 11) hx hb d_Mo_inArguments_37 (by decide) ?_
    refine lv_goto (tgt := 44) hx hb d_Mo_inArguments_39 (by decide) ?_
    exact t_M_inArguments_44 E hR hA hAB hRn  _ _ _ _ _ _ _ _ h hP hD hS (lv_sub hl [] rfl)
set_option maxHeartbeats 4000000 in
set_option maxRecDepth 100000 in
theorem t_M_inArguments_in {p : Program} {l : Launch} {e : Env} {s : State} {m : MethodId} {args : Array Value} {below : List Frame} {meth : Method} {c : Code} {G : GX} {a0_0 a0_1 a0_2 a0_3 a0_4 a0_5 a0_6 a0_7 a0_8 a0_9 a0_10 a0_11 a0_12 a0_13 a0_14 a0_15 : Nat} {post : Int32 → (MoC × IaC) → Prop} {A : Nat → Prop} {u0 : MoC} {u3 : IaC} {x1 : Int32} {x2 : Int32} (E : EN p s m args meth c G R_Mo cc_Mo_inArguments 3 (some .int) BG) (hR : va_P G.1 vwCl [] s.heap) (hA : ∀ q : Nat, s.heap.size ≤ q → A q) (hAB : ∀ q : Nat, A q → G.2.2.1 ≤ q) (hRn : ∀ (j : Nat) (q : Nat × va_E), ([] : va_W)[j]? = some q → ¬ A q.1) : ∀ (H : Heap) (locs : List Loc) (ls : Array Slot), wp_M_inArguments post u0 u3 x1 x2 → va_P G.1 vwCl [(a0_0, .inr (7, [.ref a0_1, .int (moN u0), .ref a0_2, .ref a0_3, .ref a0_4, .ref a0_5, .ref a0_6, .ref a0_7, .ref a0_8, .ref a0_9, .ref a0_10, .ref a0_11, .int (moM u0), .ref a0_12, .int (moT u0), .ref a0_13, .int (moW u0), .ref a0_14, .ref a0_15, .int (moG u0), .int (moS u0), .int (moI u0)])), (a0_12, .inl (G.2.1 1, iaN u3, .inl (iaF u3)))] H → va_D A [(a0_0, .inr (7, [.ref a0_1, .int (moN u0), .ref a0_2, .ref a0_3, .ref a0_4, .ref a0_5, .ref a0_6, .ref a0_7, .ref a0_8, .ref a0_9, .ref a0_10, .ref a0_11, .int (moM u0), .ref a0_12, .int (moT u0), .ref a0_13, .int (moW u0), .ref a0_14, .ref a0_15, .int (moG u0), .int (moS u0), .int (moI u0)])), (a0_12, .inl (G.2.1 1, iaN u3, .inl (iaF u3)))] → va_S A s.heap H locs → lv_has ls 3 [(0, .ref a0_0), (1, .int x1), (2, .int x2)] → W p l e rm_M_inArguments s m args below meth c H locs 0 0 (MQ below (va_Qi post (fun (u : MoC × IaC) (t : State) => va_P G.1 vwCl [(a0_0, .inr (7, [.ref a0_1, .int (moN u.1), .ref a0_2, .ref a0_3, .ref a0_4, .ref a0_5, .ref a0_6, .ref a0_7, .ref a0_8, .ref a0_9, .ref a0_10, .ref a0_11, .int (moM u.1), .ref a0_12, .int (moT u.1), .ref a0_13, .int (moW u.1), .ref a0_14, .ref a0_15, .int (moG u.1), .int (moS u.1), .int (moI u.1)])), (a0_12, .inl (G.2.1 1, iaN u.2, .inl (iaF u.2)))] t.heap) A) args s 0 0 A) (F0 m 0 ls []) := by
  obtain ⟨hx, hb, hr, hts, hown, hlocks, hml, hC⟩ := id E
  have hK := hC.1
  intro H locs ls h hP hD hS hl
  unfold wp_M_inArguments at h
  refine lv_iload_n hx hb d_Mo_inArguments_0 rfl (lv_at hl 2 rfl) ?_
  refine lv_bipush (v := 42) hx hb d_Mo_inArguments_1 (by decide) ?_
  refine lv_icmp_ne (tgt := 15) hx hb d_Mo_inArguments_3 (by decide) (fun c9 => ?_) (fun c9 => ?_)
  · have h := h.1 c9
    refine lv_iload_n hx hb d_Mo_inArguments_15 rfl (lv_at hl 2 rfl) ?_
    refine lv_bipush (v := 43) hx hb d_Mo_inArguments_16 (by decide) ?_
    refine lv_icmp_eq (tgt := 27) hx hb d_Mo_inArguments_18 (by decide) (fun c9 => ?_) (fun c9 => ?_)
    · have h := h.1 c9
      exact t_M_inArguments_27 E hR hA hAB hRn  _ _ _ _ _ _ h hP hD hS (lv_sub hl [0, 2] rfl)
    · have h := h.2 c9
      refine lv_iload_n hx hb d_Mo_inArguments_21 rfl (lv_at hl 2 rfl) ?_
      refine lv_bipush (v := 45) hx hb d_Mo_inArguments_22 (by decide) ?_
      refine lv_icmp_ne (tgt := 48) hx hb d_Mo_inArguments_24 (by decide) (fun c9 => ?_) (fun c9 => ?_)
      · have h := h.1 c9
        refine lv_iload_n hx hb d_Mo_inArguments_48 rfl (lv_at hl 2 rfl) ?_
        refine lv_bipush (v := 62) hx hb d_Mo_inArguments_49 (by decide) ?_
        refine lv_icmp_ne (tgt := 71) hx hb d_Mo_inArguments_51 (by decide) (fun c9 => ?_) (fun c9 => ?_)
        · have h := h.1 c9
          refine lv_aload_n hx hb d_Mo_inArguments_71 rfl (lv_at hl 0 rfl) ?_
          refine lv_bipush (v := 11) hx hb d_Mo_inArguments_72 (by decide) ?_
          refine lv_iconst (v := 2) hx hb d_Mo_inArguments_74 (by decide) ?_
          refine lv_iload_n hx hb d_Mo_inArguments_75 rfl (lv_at hl 2 rfl) ?_
          have hRc : va_P G.1 vwCl [] H := vaP_nil
          have hPc := hP.sub (ws' := [(a0_0, .inr (7, [.ref a0_1, .int (moN u0), .ref a0_2, .ref a0_3, .ref a0_4, .ref a0_5, .ref a0_6, .ref a0_7, .ref a0_8, .ref a0_9, .ref a0_10, .ref a0_11, .int (moM u0), .ref a0_12, .int (moT u0), .ref a0_13, .int (moW u0), .ref a0_14, .ref a0_15, .int (moG u0), .int (moS u0), .int (moI u0)])), (a0_12, .inl (G.2.1 1, iaN u3, .inl (iaF u3)))]) [0, 1] rfl
          have hDc := hD.sub (ws' := [(a0_0, .inr (7, [.ref a0_1, .int (moN u0), .ref a0_2, .ref a0_3, .ref a0_4, .ref a0_5, .ref a0_6, .ref a0_7, .ref a0_8, .ref a0_9, .ref a0_10, .ref a0_11, .int (moM u0), .ref a0_12, .int (moT u0), .ref a0_13, .int (moW u0), .ref a0_14, .ref a0_15, .int (moG u0), .int (moS u0), .int (moI u0)])), (a0_12, .inl (G.2.1 1, iaN u3, .inl (iaF u3)))]) [0, 1] (by decide) rfl
          have hFc := va_free (wc := [(a0_0, .inr (7, [.ref a0_1, .int (moN u0), .ref a0_2, .ref a0_3, .ref a0_4, .ref a0_5, .ref a0_6, .ref a0_7, .ref a0_8, .ref a0_9, .ref a0_10, .ref a0_11, .int (moM u0), .ref a0_12, .int (moT u0), .ref a0_13, .int (moW u0), .ref a0_14, .ref a0_15, .int (moG u0), .int (moS u0), .int (moI u0)])), (a0_12, .inl (G.2.1 1, iaN u3, .inl (iaF u3)))]) hD hS hA [0, 1] rfl
          have hQc : mw_ap [(a0_0, .inr (7, [.ref a0_1, .int (moN u0), .ref a0_2, .ref a0_3, .ref a0_4, .ref a0_5, .ref a0_6, .ref a0_7, .ref a0_8, .ref a0_9, .ref a0_10, .ref a0_11, .int (moM u0), .ref a0_12, .int (moT u0), .ref a0_13, .int (moW u0), .ref a0_14, .ref a0_15, .int (moG u0), .int (moS u0), .int (moI u0)])), (a0_12, .inl (G.2.1 1, iaN u3, .inl (iaF u3)))] [] := mw_ap_nil
          refine va_calli (va_runV (As := [.int 11, .int 2, .int x2]) (rest := []) ⟨hx, hb, hml, hown, hts⟩ (c_M_inner l G a0_0 a0_1 a0_2 a0_3 a0_4 a0_5 a0_6 a0_7 a0_8 a0_9 a0_10 a0_11 a0_12 a0_13 a0_14 a0_15 u0 u3 11 2 x2 H.size _ h) (cwV 3 hts (gwV b_445 b_446 b_447 b_427 b_444) rfl rfl rfl hd_Mo_inner ⟨Nat.le_of_ble_eq_true rfl, Nat.le_of_ble_eq_true rfl⟩) ⟨mW_blind, va_recv hK hPc (ci := 7) (q0 := 0) rfl rfl, fun U hU hW => ⟨rfl, hC.to hW hU hS hAB, by rw [hU], by rw [hU]; exact hPc, hDc.weaken (fun _ _ _ => hAB _), by rw [hU]; exact hRc, hQc⟩⟩ rfl rfl hl.1 rfl (lv_room (Nat.le_of_ble_eq_true rfl)) d_Mo_inArguments_76 ⟨Nat.le_of_ble_eq_true rfl, Nat.le_of_ble_eq_true rfl⟩) hS (fun q _ h => hFc q h) hFc (fun r12 v11 t H1 locs ht hvm h hB hz1 hk1 hS => ?_)
          rw [ht] at hB
          have hj9 := mw_join (wr := []) (w1 := [(a0_0, .inr (7, [.ref a0_1, .int (moN v11.1), .ref a0_2, .ref a0_3, .ref a0_4, .ref a0_5, .ref a0_6, .ref a0_7, .ref a0_8, .ref a0_9, .ref a0_10, .ref a0_11, .int (moM v11.1), .ref a0_12, .int (moT v11.1), .ref a0_13, .int (moW v11.1), .ref a0_14, .ref a0_15, .int (moG v11.1), .int (moS v11.1), .int (moI v11.1)])), (a0_12, .inl (G.2.1 1, iaN v11.2, .inl (iaF v11.2)))]) hP hD [0, 1] [] rfl rfl (by decide) (by decide) (by decide) hk1 hFc hB rfl
          have hP : va_P G.1 vwCl [(a0_0, .inr (7, [.ref a0_1, .int (moN v11.1), .ref a0_2, .ref a0_3, .ref a0_4, .ref a0_5, .ref a0_6, .ref a0_7, .ref a0_8, .ref a0_9, .ref a0_10, .ref a0_11, .int (moM v11.1), .ref a0_12, .int (moT v11.1), .ref a0_13, .int (moW v11.1), .ref a0_14, .ref a0_15, .int (moG v11.1), .int (moS v11.1), .int (moI v11.1)])), (a0_12, .inl (G.2.1 1, iaN v11.2, .inl (iaF v11.2)))] H1 := hj9.1
          have hD : va_D A [(a0_0, .inr (7, [.ref a0_1, .int (moN v11.1), .ref a0_2, .ref a0_3, .ref a0_4, .ref a0_5, .ref a0_6, .ref a0_7, .ref a0_8, .ref a0_9, .ref a0_10, .ref a0_11, .int (moM v11.1), .ref a0_12, .int (moT v11.1), .ref a0_13, .int (moW v11.1), .ref a0_14, .ref a0_15, .int (moG v11.1), .int (moS v11.1), .int (moI v11.1)])), (a0_12, .inl (G.2.1 1, iaN v11.2, .inl (iaF v11.2)))] := hj9.2
          generalize H1 = H at hP hS ⊢
          exact W.iret hx hb hr (fun t ht hW => ⟨⟨_, _, rfl, h, vaP_at ht hP⟩, hS.F ht⟩) hS.2.2 d_Mo_inArguments_79
        · have h := h.2 c9
          refine lv_iload_n hx hb d_Mo_inArguments_54 rfl (lv_at hl 1 rfl) ?_
          refine lv_bipush (v := 11) hx hb d_Mo_inArguments_55 (by decide) ?_
          refine lv_icmp_ne (tgt := 69) hx hb d_Mo_inArguments_57 (by decide) (fun c9 => ?_) (fun c9 => ?_)
          · have h := h.1 c9
            refine lv_iconst (v := 0) hx hb d_Mo_inArguments_69 (by decide) ?_
            exact W.iret hx hb hr (fun t ht hW => ⟨⟨_, _, rfl, h, vaP_at ht hP⟩, hS.F ht⟩) hS.2.2 d_Mo_inArguments_70
          · have h := h.2 c9
            refine lv_aload_n hx hb d_Mo_inArguments_60 rfl (lv_at hl 0 rfl) ?_
            refine lv_bipush (v := 13) hx hb d_Mo_inArguments_61 (by decide) ?_
            have hRc : va_P G.1 vwCl [] H := vaP_nil
            have hPc := hP.sub (ws' := [(a0_0, .inr (7, [.ref a0_1, .int (moN u0), .ref a0_2, .ref a0_3, .ref a0_4, .ref a0_5, .ref a0_6, .ref a0_7, .ref a0_8, .ref a0_9, .ref a0_10, .ref a0_11, .int (moM u0), .ref a0_12, .int (moT u0), .ref a0_13, .int (moW u0), .ref a0_14, .ref a0_15, .int (moG u0), .int (moS u0), .int (moI u0)]))]) [0] rfl
            have hDc := hD.sub (ws' := [(a0_0, .inr (7, [.ref a0_1, .int (moN u0), .ref a0_2, .ref a0_3, .ref a0_4, .ref a0_5, .ref a0_6, .ref a0_7, .ref a0_8, .ref a0_9, .ref a0_10, .ref a0_11, .int (moM u0), .ref a0_12, .int (moT u0), .ref a0_13, .int (moW u0), .ref a0_14, .ref a0_15, .int (moG u0), .int (moS u0), .int (moI u0)]))]) [0] (by decide) rfl
            have hFc := va_free (wc := [(a0_0, .inr (7, [.ref a0_1, .int (moN u0), .ref a0_2, .ref a0_3, .ref a0_4, .ref a0_5, .ref a0_6, .ref a0_7, .ref a0_8, .ref a0_9, .ref a0_10, .ref a0_11, .int (moM u0), .ref a0_12, .int (moT u0), .ref a0_13, .int (moW u0), .ref a0_14, .ref a0_15, .int (moG u0), .int (moS u0), .int (moI u0)]))]) hD hS hA [0] rfl
            have hQc : mw_ap [(a0_0, .inr (7, [.ref a0_1, .int (moN u0), .ref a0_2, .ref a0_3, .ref a0_4, .ref a0_5, .ref a0_6, .ref a0_7, .ref a0_8, .ref a0_9, .ref a0_10, .ref a0_11, .int (moM u0), .ref a0_12, .int (moT u0), .ref a0_13, .int (moW u0), .ref a0_14, .ref a0_15, .int (moG u0), .int (moS u0), .int (moI u0)]))] [] := mw_ap_nil
            refine va_calli (va_runV (As := [.int 13]) (rest := []) ⟨hx, hb, hml, hown, hts⟩ (c_M_pop l G a0_0 a0_1 a0_2 a0_3 a0_4 a0_5 a0_6 a0_7 a0_8 a0_9 a0_10 a0_11 a0_12 a0_13 a0_14 a0_15 u0 13 H.size _ h) (cwV 1 hts (gwV b_429 b_430 b_431 b_427 b_428) rfl rfl rfl hd_Mo_pop ⟨Nat.le_of_ble_eq_true rfl, Nat.le_of_ble_eq_true rfl⟩) ⟨mW_blind, va_recv hK hPc (ci := 7) (q0 := 0) rfl rfl, fun U hU hW => ⟨rfl, hC.to hW hU hS hAB, by rw [hU], by rw [hU]; exact hPc, hDc.weaken (fun _ _ _ => hAB _), by rw [hU]; exact hRc, hQc⟩⟩ rfl rfl hl.1 rfl (lv_room (Nat.le_of_ble_eq_true rfl)) d_Mo_inArguments_63 ⟨Nat.le_of_ble_eq_true rfl, Nat.le_of_ble_eq_true rfl⟩) hS (fun q _ h => hFc q h) hFc (fun r14 v13 t H1 locs ht hvm h hB hz1 hk1 hS => ?_)
            rw [ht] at hB
            have hj9 := mw_join (wr := [(a0_12, .inl (G.2.1 1, iaN u3, .inl (iaF u3)))]) (w1 := [(a0_0, .inr (7, [.ref a0_1, .int (moN v13), .ref a0_2, .ref a0_3, .ref a0_4, .ref a0_5, .ref a0_6, .ref a0_7, .ref a0_8, .ref a0_9, .ref a0_10, .ref a0_11, .int (moM v13), .ref a0_12, .int (moT v13), .ref a0_13, .int (moW v13), .ref a0_14, .ref a0_15, .int (moG v13), .int (moS v13), .int (moI v13)]))]) hP hD [0] [1] rfl rfl (by decide) (by decide) (by decide) hk1 hFc hB rfl
            have hP : va_P G.1 vwCl [(a0_12, .inl (G.2.1 1, iaN u3, .inl (iaF u3))), (a0_0, .inr (7, [.ref a0_1, .int (moN v13), .ref a0_2, .ref a0_3, .ref a0_4, .ref a0_5, .ref a0_6, .ref a0_7, .ref a0_8, .ref a0_9, .ref a0_10, .ref a0_11, .int (moM v13), .ref a0_12, .int (moT v13), .ref a0_13, .int (moW v13), .ref a0_14, .ref a0_15, .int (moG v13), .int (moS v13), .int (moI v13)]))] H1 := hj9.1
            have hD : va_D A [(a0_12, .inl (G.2.1 1, iaN u3, .inl (iaF u3))), (a0_0, .inr (7, [.ref a0_1, .int (moN v13), .ref a0_2, .ref a0_3, .ref a0_4, .ref a0_5, .ref a0_6, .ref a0_7, .ref a0_8, .ref a0_9, .ref a0_10, .ref a0_11, .int (moM v13), .ref a0_12, .int (moT v13), .ref a0_13, .int (moW v13), .ref a0_14, .ref a0_15, .int (moG v13), .int (moS v13), .int (moI v13)]))] := hj9.2
            generalize H1 = H at hP hS ⊢
            refine lv_goto (tgt := 70) hx hb d_Mo_inArguments_66 (by decide) ?_
            have hP := hP.sub (ws' := [(a0_0, .inr (7, [.ref a0_1, .int (moN v13), .ref a0_2, .ref a0_3, .ref a0_4, .ref a0_5, .ref a0_6, .ref a0_7, .ref a0_8, .ref a0_9, .ref a0_10, .ref a0_11, .int (moM v13), .ref a0_12, .int (moT v13), .ref a0_13, .int (moW v13), .ref a0_14, .ref a0_15, .int (moG v13), .int (moS v13), .int (moI v13)])), (a0_12, .inl (G.2.1 1, iaN u3, .inl (iaF u3)))]) [1, 0] rfl
            exact W.iret hx hb hr (fun t ht hW => ⟨⟨_, _, rfl, h, vaP_at ht hP⟩, hS.F ht⟩) hS.2.2 d_Mo_inArguments_70
      · have h := h.2 c9
        exact t_M_inArguments_27 E hR hA hAB hRn  _ _ _ _ _ _ h hP hD hS (lv_sub hl [0, 2] rfl)
  · have h := h.2 c9
    refine lv_aload_n hx hb d_Mo_inArguments_6 rfl (lv_at hl 0 rfl) ?_
    refine lv_bipush (v := 11) hx hb d_Mo_inArguments_7 (by decide) ?_
    refine lv_bipush (v := 10) hx hb d_Mo_inArguments_9 (by decide) ?_
    have hRc : va_P G.1 vwCl [(a0_0, .inr (7, [.ref a0_1, .int (moN u0), .ref a0_2, .ref a0_3, .ref a0_4, .ref a0_5, .ref a0_6, .ref a0_7, .ref a0_8, .ref a0_9, .ref a0_10, .ref a0_11, .int (moM u0), .ref a0_12, .int (moT u0), .ref a0_13, .int (moW u0), .ref a0_14, .ref a0_15, .int (moG u0), .int (moS u0), .int (moI u0)]))] H := (hP.sub (ws' := [(a0_0, .inr (7, [.ref a0_1, .int (moN u0), .ref a0_2, .ref a0_3, .ref a0_4, .ref a0_5, .ref a0_6, .ref a0_7, .ref a0_8, .ref a0_9, .ref a0_10, .ref a0_11, .int (moM u0), .ref a0_12, .int (moT u0), .ref a0_13, .int (moW u0), .ref a0_14, .ref a0_15, .int (moG u0), .int (moS u0), .int (moI u0)]))]) [0] rfl)
    have hPc := hP.sub (ws' := [(a0_12, .inl (G.2.1 1, iaN u3, .inl (iaF u3)))]) [1] rfl
    have hDc := hD.sub (ws' := [(a0_12, .inl (G.2.1 1, iaN u3, .inl (iaF u3)))]) [1] (by decide) rfl
    have hFc := va_free (wc := [(a0_12, .inl (G.2.1 1, iaN u3, .inl (iaF u3)))]) hD hS hA [1] rfl
    have hQc : mw_ap [(a0_12, .inl (G.2.1 1, iaN u3, .inl (iaF u3)))] [(a0_0, .inr (7, [.ref a0_1, .int (moN u0), .ref a0_2, .ref a0_3, .ref a0_4, .ref a0_5, .ref a0_6, .ref a0_7, .ref a0_8, .ref a0_9, .ref a0_10, .ref a0_11, .int (moM u0), .ref a0_12, .int (moT u0), .ref a0_13, .int (moW u0), .ref a0_14, .ref a0_15, .int (moG u0), .int (moS u0), .int (moI u0)]))] := (mw_ap_D (wc := [(a0_12, .inl (G.2.1 1, iaN u3, .inl (iaF u3)))]) (wr := [(a0_0, .inr (7, [.ref a0_1, .int (moN u0), .ref a0_2, .ref a0_3, .ref a0_4, .ref a0_5, .ref a0_6, .ref a0_7, .ref a0_8, .ref a0_9, .ref a0_10, .ref a0_11, .int (moM u0), .ref a0_12, .int (moT u0), .ref a0_13, .int (moW u0), .ref a0_14, .ref a0_15, .int (moG u0), .int (moS u0), .int (moI u0)]))]) hD [1] [0] rfl rfl (by decide))
    refine va_calli (va_runV (As := [.int 11, .int 10]) (rest := []) ⟨hx, hb, hml, hown, hts⟩ (c_M_go l G a0_0 a0_1 a0_2 a0_3 a0_4 a0_5 a0_6 a0_7 a0_8 a0_9 a0_10 a0_11 a0_12 a0_13 a0_14 a0_15 u0 u3 11 10 H.size _ h) (cwV 2 hts (gwV b_433 b_434 b_435 b_427 b_432) rfl rfl rfl hd_Mo_go ⟨Nat.le_of_ble_eq_true rfl, Nat.le_of_ble_eq_true rfl⟩) ⟨mW_blind, va_recv hK hRc (ci := 7) (q0 := 0) rfl rfl, fun U hU hW => ⟨rfl, hC.to hW hU hS hAB, by rw [hU], by rw [hU]; exact hPc, hDc.weaken (fun _ _ _ => hAB _), by rw [hU]; exact hRc, hQc⟩⟩ rfl rfl hl.1 rfl (lv_room (Nat.le_of_ble_eq_true rfl)) d_Mo_inArguments_11 ⟨Nat.le_of_ble_eq_true rfl, Nat.le_of_ble_eq_true rfl⟩) hS (fun q _ h => hFc q h) hFc (fun r16 v15 t H1 locs ht hvm h hB hz1 hk1 hS => ?_)
    rw [ht] at hB
    have hj9 := mw_join (wr := [(a0_0, .inr (7, [.ref a0_1, .int (moN u0), .ref a0_2, .ref a0_3, .ref a0_4, .ref a0_5, .ref a0_6, .ref a0_7, .ref a0_8, .ref a0_9, .ref a0_10, .ref a0_11, .int (moM u0), .ref a0_12, .int (moT u0), .ref a0_13, .int (moW u0), .ref a0_14, .ref a0_15, .int (moG u0), .int (moS u0), .int (moI u0)]))]) (w1 := [(a0_12, .inl (G.2.1 1, iaN v15, .inl (iaF v15)))]) hP hD [1] [0] rfl rfl (by decide) (by decide) (by decide) hk1 hFc hB rfl
    have hP : va_P G.1 vwCl [(a0_0, .inr (7, [.ref a0_1, .int (moN u0), .ref a0_2, .ref a0_3, .ref a0_4, .ref a0_5, .ref a0_6, .ref a0_7, .ref a0_8, .ref a0_9, .ref a0_10, .ref a0_11, .int (moM u0), .ref a0_12, .int (moT u0), .ref a0_13, .int (moW u0), .ref a0_14, .ref a0_15, .int (moG u0), .int (moS u0), .int (moI u0)])), (a0_12, .inl (G.2.1 1, iaN v15, .inl (iaF v15)))] H1 := hj9.1
    have hD : va_D A [(a0_0, .inr (7, [.ref a0_1, .int (moN u0), .ref a0_2, .ref a0_3, .ref a0_4, .ref a0_5, .ref a0_6, .ref a0_7, .ref a0_8, .ref a0_9, .ref a0_10, .ref a0_11, .int (moM u0), .ref a0_12, .int (moT u0), .ref a0_13, .int (moW u0), .ref a0_14, .ref a0_15, .int (moG u0), .int (moS u0), .int (moI u0)])), (a0_12, .inl (G.2.1 1, iaN v15, .inl (iaF v15)))] := hj9.2
    generalize H1 = H at hP hS ⊢
    exact W.iret hx hb hr (fun t ht hW => ⟨⟨_, _, rfl, h, vaP_at ht hP⟩, hS.F ht⟩) hS.2.2 d_Mo_inArguments_14
set_option maxHeartbeats 4000000 in
set_option maxRecDepth 100000 in
theorem c_M_inArguments (l : Launch) (G : GX) (a0_0 a0_1 a0_2 a0_3 a0_4 a0_5 a0_6 a0_7 a0_8 a0_9 a0_10 a0_11 a0_12 a0_13 a0_14 a0_15 : Nat) (u0 : MoC) (u3 : IaC) (x1 : Int32) (x2 : Int32) (sz : Nat) (post : Int32 → (MoC × IaC) → Prop) (h : wp_M_inArguments post u0 u3 x1 x2) : Met l y_Mo_inArguments wc_Mo_inArguments rm_M_inArguments (mW G [.ref a0_0, .int x1, .int x2] sz [(a0_0, .inr (7, [.ref a0_1, .int (moN u0), .ref a0_2, .ref a0_3, .ref a0_4, .ref a0_5, .ref a0_6, .ref a0_7, .ref a0_8, .ref a0_9, .ref a0_10, .ref a0_11, .int (moM u0), .ref a0_12, .int (moT u0), .ref a0_13, .int (moW u0), .ref a0_14, .ref a0_15, .int (moG u0), .int (moS u0), .int (moI u0)])), (a0_12, .inl (G.2.1 1, iaN u3, .inl (iaF u3)))] []) (va_Qi post (fun (u : MoC × IaC) (t : State) => va_P G.1 vwCl [(a0_0, .inr (7, [.ref a0_1, .int (moN u.1), .ref a0_2, .ref a0_3, .ref a0_4, .ref a0_5, .ref a0_6, .ref a0_7, .ref a0_8, .ref a0_9, .ref a0_10, .ref a0_11, .int (moM u.1), .ref a0_12, .int (moT u.1), .ref a0_13, .int (moW u.1), .ref a0_14, .ref a0_15, .int (moG u.1), .int (moS u.1), .int (moI u.1)])), (a0_12, .inl (G.2.1 1, iaN u.2, .inl (iaF u.2)))] t.heap) (va_A [(a0_0, .inr (7, [.ref a0_1, .int (moN u0), .ref a0_2, .ref a0_3, .ref a0_4, .ref a0_5, .ref a0_6, .ref a0_7, .ref a0_8, .ref a0_9, .ref a0_10, .ref a0_11, .int (moM u0), .ref a0_12, .int (moT u0), .ref a0_13, .int (moW u0), .ref a0_14, .ref a0_15, .int (moG u0), .int (moS u0), .int (moI u0)])), (a0_12, .inl (G.2.1 1, iaN u3, .inl (iaF u3)))] sz)) 0 0 (va_A [(a0_0, .inr (7, [.ref a0_1, .int (moN u0), .ref a0_2, .ref a0_3, .ref a0_4, .ref a0_5, .ref a0_6, .ref a0_7, .ref a0_8, .ref a0_9, .ref a0_10, .ref a0_11, .int (moM u0), .ref a0_12, .int (moT u0), .ref a0_13, .int (moW u0), .ref a0_14, .ref a0_15, .int (moG u0), .int (moS u0), .int (moI u0)])), (a0_12, .inl (G.2.1 1, iaN u3, .inl (iaF u3)))] sz) := by
  refine Met.ofW (cc := cc_Mo_inArguments) (maxL := 3) (ret := (some .int)) (by decide) rfl ?_
  intro p e s m args below meth c s₁ B hml hv
  obtain ⟨rfl, hC, hsz, hP, hD0, hR, hap⟩ := hv
  have E : EN p s m ([.ref a0_0, .int x1, .int x2] : List Value).toArray meth c G R_Mo cc_Mo_inArguments 3 (some .int) BG := ⟨B.exec, B.bytes, B.returns, fun w h => atoms_spec (ws := wc_Mo_inArguments) B.pre w (List.mem_cons_of_mem _ h), findClass_of_methodNamed B.named, B.notSynchronized, hml, hC⟩
  subst hsz
  have hD := hD0.self (sz := s.heap.size)
  have hRn := mw_notA hR hap
  have hAB := mw_AB hD0 hC
  have hA : ∀ q : Nat, s.heap.size ≤ q → va_A [(a0_0, .inr (7, [.ref a0_1, .int (moN u0), .ref a0_2, .ref a0_3, .ref a0_4, .ref a0_5, .ref a0_6, .ref a0_7, .ref a0_8, .ref a0_9, .ref a0_10, .ref a0_11, .int (moM u0), .ref a0_12, .int (moT u0), .ref a0_13, .int (moW u0), .ref a0_14, .ref a0_15, .int (moG u0), .int (moS u0), .int (moI u0)])), (a0_12, .inl (G.2.1 1, iaN u3, .inl (iaF u3)))] s.heap.size q := fun q z => Or.inr z
  generalize va_A [(a0_0, .inr (7, [.ref a0_1, .int (moN u0), .ref a0_2, .ref a0_3, .ref a0_4, .ref a0_5, .ref a0_6, .ref a0_7, .ref a0_8, .ref a0_9, .ref a0_10, .ref a0_11, .int (moM u0), .ref a0_12, .int (moT u0), .ref a0_13, .int (moW u0), .ref a0_14, .ref a0_15, .int (moG u0), .int (moS u0), .int (moI u0)])), (a0_12, .inl (G.2.1 1, iaN u3, .inl (iaF u3)))] s.heap.size = A at hD hRn hAB hA ⊢
  have hl := lv_entry ([.ref a0_0, .int x1, .int x2]) (n := 3) (Nat.le_of_ble_eq_true rfl)
  rw [lg_entry_eq]
  generalize (lg_sl ([.ref a0_0, .int x1, .int x2]) ++ List.replicate (3 - (lg_sl ([.ref a0_0, .int x1, .int x2])).length) Slot.unset).toArray = ls at hl ⊢
  have hl : lv_has ls 3 [(0, .ref a0_0), (1, .int x1), (2, .int x2)] := hl
  exact t_M_inArguments_in E hR hA hAB hRn _ _ _ h hP hD va_S.rf hl
set_option maxHeartbeats 4000000 in
set_option maxRecDepth 100000 in
theorem t_M_name_in {p : Program} {l : Launch} {e : Env} {s : State} {m : MethodId} {args : Array Value} {below : List Frame} {meth : Method} {c : Code} {G : GX} {post : Int32 → Prop} {x0 : Int32} (E : EN p s m args meth c G R_Mo cc_Mo_name 1 (some .boolean) BG) (hR : va_P G.1 vwCl [] s.heap) : ∀ (ls : Array Slot), wp_M_name post x0 → lv_has ls 1 [(0, .int x0)] → W p l e rm_M_name s m args below meth c s.heap [] 0 0 (MQ below (vp_Si post) args s 0 0 (fun _ => False)) (F0 m 0 ls []) := by
  obtain ⟨hx, hb, hr, hts, hown, hlocks, hml, hC⟩ := id E
  have hK := hC.1
  intro ls h hl
  unfold wp_M_name at h
  refine lv_iload_n hx hb d_Mo_name_0 rfl (lv_at hl 0 rfl) ?_
  refine lv_bipush (v := 46) hx hb d_Mo_name_1 (by decide) ?_
  refine lv_icmp_eq (tgt := 46) hx hb d_Mo_name_3 (by decide) (fun c9 => ?_) (fun c9 => ?_)
  · have h := h.1 c9
    refine lv_iconst (v := 0) hx hb d_Mo_name_46 (by decide) ?_
    exact W.zret hx hb hr (by decide) (fun t ht hW => ⟨_, rfl, h, ht⟩) (fun _ z => by cases z) d_Mo_name_47
  · have h := h.2 c9
    refine lv_iload_n hx hb d_Mo_name_6 rfl (lv_at hl 0 rfl) ?_
    refine lv_bipush (v := 59) hx hb d_Mo_name_7 (by decide) ?_
    refine lv_icmp_eq (tgt := 46) hx hb d_Mo_name_9 (by decide) (fun c9 => ?_) (fun c9 => ?_)
    · have h := h.1 c9
      refine lv_iconst (v := 0) hx hb d_Mo_name_46 (by decide) ?_
      exact W.zret hx hb hr (by decide) (fun t ht hW => ⟨_, rfl, h, ht⟩) (fun _ z => by cases z) d_Mo_name_47
    · have h := h.2 c9
      refine lv_iload_n hx hb d_Mo_name_12 rfl (lv_at hl 0 rfl) ?_
      refine lv_bipush (v := 47) hx hb d_Mo_name_13 (by decide) ?_
      refine lv_icmp_eq (tgt := 46) hx hb d_Mo_name_15 (by decide) (fun c9 => ?_) (fun c9 => ?_)
      · have h := h.1 c9
        refine lv_iconst (v := 0) hx hb d_Mo_name_46 (by decide) ?_
        exact W.zret hx hb hr (by decide) (fun t ht hW => ⟨_, rfl, h, ht⟩) (fun _ z => by cases z) d_Mo_name_47
      · have h := h.2 c9
        refine lv_iload_n hx hb d_Mo_name_18 rfl (lv_at hl 0 rfl) ?_
        refine lv_bipush (v := 58) hx hb d_Mo_name_19 (by decide) ?_
        refine lv_icmp_eq (tgt := 46) hx hb d_Mo_name_21 (by decide) (fun c9 => ?_) (fun c9 => ?_)
        · have h := h.1 c9
          refine lv_iconst (v := 0) hx hb d_Mo_name_46 (by decide) ?_
          exact W.zret hx hb hr (by decide) (fun t ht hW => ⟨_, rfl, h, ht⟩) (fun _ z => by cases z) d_Mo_name_47
        · have h := h.2 c9
          refine lv_iload_n hx hb d_Mo_name_24 rfl (lv_at hl 0 rfl) ?_
          refine lv_bipush (v := 60) hx hb d_Mo_name_25 (by decide) ?_
          refine lv_icmp_eq (tgt := 46) hx hb d_Mo_name_27 (by decide) (fun c9 => ?_) (fun c9 => ?_)
          · have h := h.1 c9
            refine lv_iconst (v := 0) hx hb d_Mo_name_46 (by decide) ?_
            exact W.zret hx hb hr (by decide) (fun t ht hW => ⟨_, rfl, h, ht⟩) (fun _ z => by cases z) d_Mo_name_47
          · have h := h.2 c9
            refine lv_iload_n hx hb d_Mo_name_30 rfl (lv_at hl 0 rfl) ?_
            refine lv_bipush (v := 62) hx hb d_Mo_name_31 (by decide) ?_
            refine lv_icmp_eq (tgt := 46) hx hb d_Mo_name_33 (by decide) (fun c9 => ?_) (fun c9 => ?_)
            · have h := h.1 c9
              refine lv_iconst (v := 0) hx hb d_Mo_name_46 (by decide) ?_
              exact W.zret hx hb hr (by decide) (fun t ht hW => ⟨_, rfl, h, ht⟩) (fun _ z => by cases z) d_Mo_name_47
            · have h := h.2 c9
              refine lv_iload_n hx hb d_Mo_name_36 rfl (lv_at hl 0 rfl) ?_
              refine lv_bipush (v := 91) hx hb d_Mo_name_37 (by decide) ?_
              refine lv_icmp_eq (tgt := 46) hx hb d_Mo_name_39 (by decide) (fun c9 => ?_) (fun c9 => ?_)
              · have h := h.1 c9
                refine lv_iconst (v := 0) hx hb d_Mo_name_46 (by decide) ?_
                exact W.zret hx hb hr (by decide) (fun t ht hW => ⟨_, rfl, h, ht⟩) (fun _ z => by cases z) d_Mo_name_47
              · have h := h.2 c9
                refine lv_iconst (v := 1) hx hb d_Mo_name_42 (by decide) ?_
                refine lv_goto (tgt := 47) hx hb d_Mo_name_43 (by decide) ?_
                exact W.zret hx hb hr (by decide) (fun t ht hW => ⟨_, rfl, h, ht⟩) (fun _ z => by cases z) d_Mo_name_47
set_option maxHeartbeats 4000000 in
set_option maxRecDepth 100000 in
theorem c_M_name (l : Launch) (G : GX) (x0 : Int32) (post : Int32 → Prop) (h : wp_M_name post x0) : Met l y_Mo_name wc_Mo_name rm_M_name (mP G [.int x0] []) (vp_Si post) 0 0 (fun _ => False) := by
  refine Met.ofW (cc := cc_Mo_name) (maxL := 1) (ret := (some .boolean)) (by decide) rfl ?_
  intro p e s m args below meth c s₁ B hml hv
  obtain ⟨rfl, hC, hR⟩ := hv
  have E : EN p s m ([.int x0] : List Value).toArray meth c G R_Mo cc_Mo_name 1 (some .boolean) BG := ⟨B.exec, B.bytes, B.returns, fun w h => atoms_spec (ws := wc_Mo_name) B.pre w (List.mem_cons_of_mem _ h), findClass_of_methodNamed B.named, B.notSynchronized, hml, hC⟩
  have hl := lv_entry ([.int x0]) (n := 1) (Nat.le_of_ble_eq_true rfl)
  rw [lg_entry_eq]
  generalize (lg_sl ([.int x0]) ++ List.replicate (1 - (lg_sl ([.int x0])).length) Slot.unset).toArray = ls at hl ⊢
  have hl : lv_has ls 1 [(0, .int x0)] := hl
  exact t_M_name_in E hR _ h hl
set_option maxHeartbeats 4000000 in
set_option maxRecDepth 100000 in
theorem t_M_inClass_107 {p : Program} {l : Launch} {e : Env} {s : State} {m : MethodId} {args : Array Value} {below : List Frame} {meth : Method} {c : Code} {G : GX} {a0_0 a0_1 a0_2 a0_3 a0_4 a0_5 a0_6 a0_7 a0_8 a0_9 a0_10 a0_11 a0_12 a0_13 a0_14 a0_15 : Nat} {post : Int32 → (MoC × IaC) → Prop} {A : Nat → Prop} (E : EN p s m args meth c G R_Mo cc_Mo_inClass 4 (some .int) BG) (hR : va_P G.1 vwCl [] s.heap) (hA : ∀ q : Nat, s.heap.size ≤ q → A q) (hAB : ∀ q : Nat, A q → G.2.2.1 ≤ q) (hRn : ∀ (j : Nat) (q : Nat × va_E), ([] : va_W)[j]? = some q → ¬ A q.1) : ∀ (y2 : Int32) (w0 : MoC) (w1 : IaC) (H : Heap) (locs : List Loc) (ls : Array Slot), w_M_inClass_107 post y2 w0 w1 → va_P G.1 vwCl [(a0_0, .inr (7, [.ref a0_1, .int (moN w0), .ref a0_2, .ref a0_3, .ref a0_4, .ref a0_5, .ref a0_6, .ref a0_7, .ref a0_8, .ref a0_9, .ref a0_10, .ref a0_11, .int (moM w0), .ref a0_12, .int (moT w0), .ref a0_13, .int (moW w0), .ref a0_14, .ref a0_15, .int (moG w0), .int (moS w0), .int (moI w0)])), (a0_12, .inl (G.2.1 1, iaN w1, .inl (iaF w1)))] H → va_D A [(a0_0, .inr (7, [.ref a0_1, .int (moN w0), .ref a0_2, .ref a0_3, .ref a0_4, .ref a0_5, .ref a0_6, .ref a0_7, .ref a0_8, .ref a0_9, .ref a0_10, .ref a0_11, .int (moM w0), .ref a0_12, .int (moT w0), .ref a0_13, .int (moW w0), .ref a0_14, .ref a0_15, .int (moG w0), .int (moS w0), .int (moI w0)])), (a0_12, .inl (G.2.1 1, iaN w1, .inl (iaF w1)))] → va_S A s.heap H locs → lv_has ls 4 [(0, .ref a0_0), (2, .int y2)] → W p l e rm_M_inClass s m args below meth c H locs 0 0 (MQ below (va_Qi post (fun (u : MoC × IaC) (t : State) => va_P G.1 vwCl [(a0_0, .inr (7, [.ref a0_1, .int (moN u.1), .ref a0_2, .ref a0_3, .ref a0_4, .ref a0_5, .ref a0_6, .ref a0_7, .ref a0_8, .ref a0_9, .ref a0_10, .ref a0_11, .int (moM u.1), .ref a0_12, .int (moT u.1), .ref a0_13, .int (moW u.1), .ref a0_14, .ref a0_15, .int (moG u.1), .int (moS u.1), .int (moI u.1)])), (a0_12, .inl (G.2.1 1, iaN u.2, .inl (iaF u.2)))] t.heap) A) args s 0 0 A) (F0 m 107 ls []) := by
  obtain ⟨hx, hb, hr, hts, hown, hlocks, hml, hC⟩ := id E
  have hK := hC.1
  intro y2 w0 w1  H locs ls h hP hD hS hl
  unfold w_M_inClass_107 at h
  refine lv_iload_n hx hb d_Mo_inClass_107 rfl (lv_at hl 1 rfl) ?_
  refine lv_bipush (v := 46) hx hb d_Mo_inClass_108 (by decide) ?_
  refine lv_icmp_ne (tgt := 124) hx hb d_Mo_inClass_110 (by decide) (fun c9 => ?_) (fun c9 => ?_)
  · have h := h.1 c9
    refine lv_iload_n hx hb d_Mo_inClass_124 rfl (lv_at hl 1 rfl) ?_
    refine lv_bipush (v := 59) hx hb d_Mo_inClass_125 (by decide) ?_
    refine lv_icmp_ne (tgt := 139) hx hb d_Mo_inClass_127 (by decide) (fun c9 => ?_) (fun c9 => ?_)
    · have h := h.1 c9
      refine lv_iconst (v := 0) hx hb d_Mo_inClass_139 (by decide) ?_
      exact W.iret hx hb hr (fun t ht hW => ⟨⟨_, _, rfl, h, vaP_at ht hP⟩, hS.F ht⟩) hS.2.2 d_Mo_inClass_140
    · have h := h.2 c9
      refine lv_aload_n hx hb d_Mo_inClass_130 rfl (lv_at hl 0 rfl) ?_
      refine lv_bipush (v := 9) hx hb d_Mo_inClass_131 (by decide) ?_
      have hRc : va_P G.1 vwCl [] H := vaP_nil
      have hPc := hP.sub (ws' := [(a0_0, .inr (7, [.ref a0_1, .int (moN w0), .ref a0_2, .ref a0_3, .ref a0_4, .ref a0_5, .ref a0_6, .ref a0_7, .ref a0_8, .ref a0_9, .ref a0_10, .ref a0_11, .int (moM w0), .ref a0_12, .int (moT w0), .ref a0_13, .int (moW w0), .ref a0_14, .ref a0_15, .int (moG w0), .int (moS w0), .int (moI w0)]))]) [0] rfl
      have hDc := hD.sub (ws' := [(a0_0, .inr (7, [.ref a0_1, .int (moN w0), .ref a0_2, .ref a0_3, .ref a0_4, .ref a0_5, .ref a0_6, .ref a0_7, .ref a0_8, .ref a0_9, .ref a0_10, .ref a0_11, .int (moM w0), .ref a0_12, .int (moT w0), .ref a0_13, .int (moW w0), .ref a0_14, .ref a0_15, .int (moG w0), .int (moS w0), .int (moI w0)]))]) [0] (by decide) rfl
      have hFc := va_free (wc := [(a0_0, .inr (7, [.ref a0_1, .int (moN w0), .ref a0_2, .ref a0_3, .ref a0_4, .ref a0_5, .ref a0_6, .ref a0_7, .ref a0_8, .ref a0_9, .ref a0_10, .ref a0_11, .int (moM w0), .ref a0_12, .int (moT w0), .ref a0_13, .int (moW w0), .ref a0_14, .ref a0_15, .int (moG w0), .int (moS w0), .int (moI w0)]))]) hD hS hA [0] rfl
      have hQc : mw_ap [(a0_0, .inr (7, [.ref a0_1, .int (moN w0), .ref a0_2, .ref a0_3, .ref a0_4, .ref a0_5, .ref a0_6, .ref a0_7, .ref a0_8, .ref a0_9, .ref a0_10, .ref a0_11, .int (moM w0), .ref a0_12, .int (moT w0), .ref a0_13, .int (moW w0), .ref a0_14, .ref a0_15, .int (moG w0), .int (moS w0), .int (moI w0)]))] [] := mw_ap_nil
      refine va_calli (va_runV (As := [.int 9]) (rest := []) ⟨hx, hb, hml, hown, hts⟩ (c_M_pop l G a0_0 a0_1 a0_2 a0_3 a0_4 a0_5 a0_6 a0_7 a0_8 a0_9 a0_10 a0_11 a0_12 a0_13 a0_14 a0_15 w0 9 H.size _ h) (cwV 1 hts (gwV b_429 b_430 b_431 b_427 b_428) rfl rfl rfl hd_Mo_pop ⟨Nat.le_of_ble_eq_true rfl, Nat.le_of_ble_eq_true rfl⟩) ⟨mW_blind, va_recv hK hPc (ci := 7) (q0 := 0) rfl rfl, fun U hU hW => ⟨rfl, hC.to hW hU hS hAB, by rw [hU], by rw [hU]; exact hPc, hDc.weaken (fun _ _ _ => hAB _), by rw [hU]; exact hRc, hQc⟩⟩ rfl rfl hl.1 rfl (lv_room (Nat.le_of_ble_eq_true rfl)) d_Mo_inClass_133 ⟨Nat.le_of_ble_eq_true rfl, Nat.le_of_ble_eq_true rfl⟩) hS (fun q _ h => hFc q h) hFc (fun r13 v12 t H1 locs ht hvm h hB hz1 hk1 hS => ?_)
      rw [ht] at hB
      have hj9 := mw_join (wr := [(a0_12, .inl (G.2.1 1, iaN w1, .inl (iaF w1)))]) (w1 := [(a0_0, .inr (7, [.ref a0_1, .int (moN v12), .ref a0_2, .ref a0_3, .ref a0_4, .ref a0_5, .ref a0_6, .ref a0_7, .ref a0_8, .ref a0_9, .ref a0_10, .ref a0_11, .int (moM v12), .ref a0_12, .int (moT v12), .ref a0_13, .int (moW v12), .ref a0_14, .ref a0_15, .int (moG v12), .int (moS v12), .int (moI v12)]))]) hP hD [0] [1] rfl rfl (by decide) (by decide) (by decide) hk1 hFc hB rfl
      have hP : va_P G.1 vwCl [(a0_12, .inl (G.2.1 1, iaN w1, .inl (iaF w1))), (a0_0, .inr (7, [.ref a0_1, .int (moN v12), .ref a0_2, .ref a0_3, .ref a0_4, .ref a0_5, .ref a0_6, .ref a0_7, .ref a0_8, .ref a0_9, .ref a0_10, .ref a0_11, .int (moM v12), .ref a0_12, .int (moT v12), .ref a0_13, .int (moW v12), .ref a0_14, .ref a0_15, .int (moG v12), .int (moS v12), .int (moI v12)]))] H1 := hj9.1
      have hD : va_D A [(a0_12, .inl (G.2.1 1, iaN w1, .inl (iaF w1))), (a0_0, .inr (7, [.ref a0_1, .int (moN v12), .ref a0_2, .ref a0_3, .ref a0_4, .ref a0_5, .ref a0_6, .ref a0_7, .ref a0_8, .ref a0_9, .ref a0_10, .ref a0_11, .int (moM v12), .ref a0_12, .int (moT v12), .ref a0_13, .int (moW v12), .ref a0_14, .ref a0_15, .int (moG v12), .int (moS v12), .int (moI v12)]))] := hj9.2
      generalize H1 = H at hP hS ⊢
      refine lv_goto (tgt := 140) hx hb d_Mo_inClass_136 (by decide) ?_
      have hP := hP.sub (ws' := [(a0_0, .inr (7, [.ref a0_1, .int (moN v12), .ref a0_2, .ref a0_3, .ref a0_4, .ref a0_5, .ref a0_6, .ref a0_7, .ref a0_8, .ref a0_9, .ref a0_10, .ref a0_11, .int (moM v12), .ref a0_12, .int (moT v12), .ref a0_13, .int (moW v12), .ref a0_14, .ref a0_15, .int (moG v12), .int (moS v12), .int (moI v12)])), (a0_12, .inl (G.2.1 1, iaN w1, .inl (iaF w1)))]) [1, 0] rfl
      exact W.iret hx hb hr (fun t ht hW => ⟨⟨_, _, rfl, h, vaP_at ht hP⟩, hS.F ht⟩) hS.2.2 d_Mo_inClass_140
  · have h := h.2 c9
    refine lv_aload_n hx hb d_Mo_inClass_113 rfl (lv_at hl 0 rfl) ?_
    refine lv_bipush (v := 7) hx hb d_Mo_inClass_114 (by decide) ?_
    refine lv_bipush (v := 7) hx hb d_Mo_inClass_116 (by decide) ?_
    have hRc : va_P G.1 vwCl [(a0_0, .inr (7, [.ref a0_1, .int (moN w0), .ref a0_2, .ref a0_3, .ref a0_4, .ref a0_5, .ref a0_6, .ref a0_7, .ref a0_8, .ref a0_9, .ref a0_10, .ref a0_11, .int (moM w0), .ref a0_12, .int (moT w0), .ref a0_13, .int (moW w0), .ref a0_14, .ref a0_15, .int (moG w0), .int (moS w0), .int (moI w0)]))] H := (hP.sub (ws' := [(a0_0, .inr (7, [.ref a0_1, .int (moN w0), .ref a0_2, .ref a0_3, .ref a0_4, .ref a0_5, .ref a0_6, .ref a0_7, .ref a0_8, .ref a0_9, .ref a0_10, .ref a0_11, .int (moM w0), .ref a0_12, .int (moT w0), .ref a0_13, .int (moW w0), .ref a0_14, .ref a0_15, .int (moG w0), .int (moS w0), .int (moI w0)]))]) [0] rfl)
    have hPc := hP.sub (ws' := [(a0_12, .inl (G.2.1 1, iaN w1, .inl (iaF w1)))]) [1] rfl
    have hDc := hD.sub (ws' := [(a0_12, .inl (G.2.1 1, iaN w1, .inl (iaF w1)))]) [1] (by decide) rfl
    have hFc := va_free (wc := [(a0_12, .inl (G.2.1 1, iaN w1, .inl (iaF w1)))]) hD hS hA [1] rfl
    have hQc : mw_ap [(a0_12, .inl (G.2.1 1, iaN w1, .inl (iaF w1)))] [(a0_0, .inr (7, [.ref a0_1, .int (moN w0), .ref a0_2, .ref a0_3, .ref a0_4, .ref a0_5, .ref a0_6, .ref a0_7, .ref a0_8, .ref a0_9, .ref a0_10, .ref a0_11, .int (moM w0), .ref a0_12, .int (moT w0), .ref a0_13, .int (moW w0), .ref a0_14, .ref a0_15, .int (moG w0), .int (moS w0), .int (moI w0)]))] := (mw_ap_D (wc := [(a0_12, .inl (G.2.1 1, iaN w1, .inl (iaF w1)))]) (wr := [(a0_0, .inr (7, [.ref a0_1, .int (moN w0), .ref a0_2, .ref a0_3, .ref a0_4, .ref a0_5, .ref a0_6, .ref a0_7, .ref a0_8, .ref a0_9, .ref a0_10, .ref a0_11, .int (moM w0), .ref a0_12, .int (moT w0), .ref a0_13, .int (moW w0), .ref a0_14, .ref a0_15, .int (moG w0), .int (moS w0), .int (moI w0)]))]) hD [1] [0] rfl rfl (by decide))
    refine va_calli (va_runV (As := [.int 7, .int 7]) (rest := []) ⟨hx, hb, hml, hown, hts⟩ (c_M_go l G a0_0 a0_1 a0_2 a0_3 a0_4 a0_5 a0_6 a0_7 a0_8 a0_9 a0_10 a0_11 a0_12 a0_13 a0_14 a0_15 w0 w1 7 7 H.size _ h) (cwV 2 hts (gwV b_433 b_434 b_435 b_427 b_432) rfl rfl rfl hd_Mo_go ⟨Nat.le_of_ble_eq_true rfl, Nat.le_of_ble_eq_true rfl⟩) ⟨mW_blind, va_recv hK hRc (ci := 7) (q0 := 0) rfl rfl, fun U hU hW => ⟨rfl, hC.to hW hU hS hAB, by rw [hU], by rw [hU]; exact hPc, hDc.weaken (fun _ _ _ => hAB _), by rw [hU]; exact hRc, hQc⟩⟩ rfl rfl hl.1 rfl (lv_room (Nat.le_of_ble_eq_true rfl)) d_Mo_inClass_118 ⟨Nat.le_of_ble_eq_true rfl, Nat.le_of_ble_eq_true rfl⟩) hS (fun q _ h => hFc q h) hFc (fun r15 v14 t H1 locs ht hvm h hB hz1 hk1 hS => ?_)
    rw [ht] at hB
    have hj9 := mw_join (wr := [(a0_0, .inr (7, [.ref a0_1, .int (moN w0), .ref a0_2, .ref a0_3, .ref a0_4, .ref a0_5, .ref a0_6, .ref a0_7, .ref a0_8, .ref a0_9, .ref a0_10, .ref a0_11, .int (moM w0), .ref a0_12, .int (moT w0), .ref a0_13, .int (moW w0), .ref a0_14, .ref a0_15, .int (moG w0), .int (moS w0), .int (moI w0)]))]) (w1 := [(a0_12, .inl (G.2.1 1, iaN v14, .inl (iaF v14)))]) hP hD [1] [0] rfl rfl (by decide) (by decide) (by decide) hk1 hFc hB rfl
    have hP : va_P G.1 vwCl [(a0_0, .inr (7, [.ref a0_1, .int (moN w0), .ref a0_2, .ref a0_3, .ref a0_4, .ref a0_5, .ref a0_6, .ref a0_7, .ref a0_8, .ref a0_9, .ref a0_10, .ref a0_11, .int (moM w0), .ref a0_12, .int (moT w0), .ref a0_13, .int (moW w0), .ref a0_14, .ref a0_15, .int (moG w0), .int (moS w0), .int (moI w0)])), (a0_12, .inl (G.2.1 1, iaN v14, .inl (iaF v14)))] H1 := hj9.1
    have hD : va_D A [(a0_0, .inr (7, [.ref a0_1, .int (moN w0), .ref a0_2, .ref a0_3, .ref a0_4, .ref a0_5, .ref a0_6, .ref a0_7, .ref a0_8, .ref a0_9, .ref a0_10, .ref a0_11, .int (moM w0), .ref a0_12, .int (moT w0), .ref a0_13, .int (moW w0), .ref a0_14, .ref a0_15, .int (moG w0), .int (moS w0), .int (moI w0)])), (a0_12, .inl (G.2.1 1, iaN v14, .inl (iaF v14)))] := hj9.2
    generalize H1 = H at hP hS ⊢
    refine lv_goto (tgt := 140) hx hb d_Mo_inClass_121 (by decide) ?_
    exact W.iret hx hb hr (fun t ht hW => ⟨⟨_, _, rfl, h, vaP_at ht hP⟩, hS.F ht⟩) hS.2.2 d_Mo_inClass_140
set_option maxHeartbeats 4000000 in
set_option maxRecDepth 100000 in
theorem t_M_inClass_95 {p : Program} {l : Launch} {e : Env} {s : State} {m : MethodId} {args : Array Value} {below : List Frame} {meth : Method} {c : Code} {G : GX} {a0_0 a0_1 a0_2 a0_3 a0_4 a0_5 a0_6 a0_7 a0_8 a0_9 a0_10 a0_11 a0_12 a0_13 a0_14 a0_15 : Nat} {post : Int32 → (MoC × IaC) → Prop} {A : Nat → Prop} (E : EN p s m args meth c G R_Mo cc_Mo_inClass 4 (some .int) BG) (hR : va_P G.1 vwCl [] s.heap) (hA : ∀ q : Nat, s.heap.size ≤ q → A q) (hAB : ∀ q : Nat, A q → G.2.2.1 ≤ q) (hRn : ∀ (j : Nat) (q : Nat × va_E), ([] : va_W)[j]? = some q → ¬ A q.1) : ∀ (y1 : Int32) (y2 : Int32) (y3 : Int32) (w0 : MoC) (w1 : IaC) (H : Heap) (locs : List Loc) (ls : Array Slot), w_M_inClass_95 post y1 y2 y3 w0 w1 → va_P G.1 vwCl [(a0_0, .inr (7, [.ref a0_1, .int (moN w0), .ref a0_2, .ref a0_3, .ref a0_4, .ref a0_5, .ref a0_6, .ref a0_7, .ref a0_8, .ref a0_9, .ref a0_10, .ref a0_11, .int (moM w0), .ref a0_12, .int (moT w0), .ref a0_13, .int (moW w0), .ref a0_14, .ref a0_15, .int (moG w0), .int (moS w0), .int (moI w0)])), (a0_12, .inl (G.2.1 1, iaN w1, .inl (iaF w1)))] H → va_D A [(a0_0, .inr (7, [.ref a0_1, .int (moN w0), .ref a0_2, .ref a0_3, .ref a0_4, .ref a0_5, .ref a0_6, .ref a0_7, .ref a0_8, .ref a0_9, .ref a0_10, .ref a0_11, .int (moM w0), .ref a0_12, .int (moT w0), .ref a0_13, .int (moW w0), .ref a0_14, .ref a0_15, .int (moG w0), .int (moS w0), .int (moI w0)])), (a0_12, .inl (G.2.1 1, iaN w1, .inl (iaF w1)))] → va_S A s.heap H locs → lv_has ls 4 [(0, .ref a0_0), (1, .int y1), (2, .int y2), (3, .int y3)] → W p l e rm_M_inClass s m args below meth c H locs 0 0 (MQ below (va_Qi post (fun (u : MoC × IaC) (t : State) => va_P G.1 vwCl [(a0_0, .inr (7, [.ref a0_1, .int (moN u.1), .ref a0_2, .ref a0_3, .ref a0_4, .ref a0_5, .ref a0_6, .ref a0_7, .ref a0_8, .ref a0_9, .ref a0_10, .ref a0_11, .int (moM u.1), .ref a0_12, .int (moT u.1), .ref a0_13, .int (moW u.1), .ref a0_14, .ref a0_15, .int (moG u.1), .int (moS u.1), .int (moI u.1)])), (a0_12, .inl (G.2.1 1, iaN u.2, .inl (iaF u.2)))] t.heap) A) args s 0 0 A) (F0 m 95 ls []) := by
  obtain ⟨hx, hb, hr, hts, hown, hlocks, hml, hC⟩ := id E
  have hK := hC.1
  intro y1 y2 y3 w0 w1  H locs ls h hP hD hS hl
  unfold w_M_inClass_95 at h
  refine lv_iload_n hx hb d_Mo_inClass_95 rfl (lv_at hl 3 rfl) ?_
  refine lv_if_ne (tgt := 107) hx hb d_Mo_inClass_96 (by decide) (fun c9 => ?_) (fun c9 => ?_)
  · have h := h.1 c9
    exact t_M_inClass_107 E hR hA hAB hRn  _ _ _ _ _ _ h hP hD hS (lv_sub hl [0, 2] rfl)
  · have h := h.2 c9
    refine lv_iload_n hx hb d_Mo_inClass_99 rfl (lv_at hl 1 rfl) ?_
    refine lv_bipush (v := 9) hx hb d_Mo_inClass_100 (by decide) ?_
    refine lv_icmp_eq (tgt := 107) hx hb d_Mo_inClass_102 (by decide) (fun c9 => ?_) (fun c9 => ?_)
    · have h := h.1 c9
      exact t_M_inClass_107 E hR hA hAB hRn  _ _ _ _ _ _ h hP hD hS (lv_sub hl [0, 2] rfl)
    · have h := h.2 c9
      refine lv_iconst (v := 0) hx hb d_Mo_inClass_105 (by decide) ?_
      exact W.iret hx hb hr (fun t ht hW => ⟨⟨_, _, rfl, h, vaP_at ht hP⟩, hS.F ht⟩) hS.2.2 d_Mo_inClass_106
set_option maxHeartbeats 4000000 in
set_option maxRecDepth 100000 in
theorem t_M_inClass_74 {p : Program} {l : Launch} {e : Env} {s : State} {m : MethodId} {args : Array Value} {below : List Frame} {meth : Method} {c : Code} {G : GX} {a0_0 a0_1 a0_2 a0_3 a0_4 a0_5 a0_6 a0_7 a0_8 a0_9 a0_10 a0_11 a0_12 a0_13 a0_14 a0_15 : Nat} {post : Int32 → (MoC × IaC) → Prop} {A : Nat → Prop} (E : EN p s m args meth c G R_Mo cc_Mo_inClass 4 (some .int) BG) (hR : va_P G.1 vwCl [] s.heap) (hA : ∀ q : Nat, s.heap.size ≤ q → A q) (hAB : ∀ q : Nat, A q → G.2.2.1 ≤ q) (hRn : ∀ (j : Nat) (q : Nat × va_E), ([] : va_W)[j]? = some q → ¬ A q.1) : ∀ (y1 : Int32) (y2 : Int32) (y3 : Int32) (w0 : MoC) (w1 : IaC) (H : Heap) (locs : List Loc) (ls : Array Slot), w_M_inClass_74 post y1 y2 y3 w0 w1 → va_P G.1 vwCl [(a0_0, .inr (7, [.ref a0_1, .int (moN w0), .ref a0_2, .ref a0_3, .ref a0_4, .ref a0_5, .ref a0_6, .ref a0_7, .ref a0_8, .ref a0_9, .ref a0_10, .ref a0_11, .int (moM w0), .ref a0_12, .int (moT w0), .ref a0_13, .int (moW w0), .ref a0_14, .ref a0_15, .int (moG w0), .int (moS w0), .int (moI w0)])), (a0_12, .inl (G.2.1 1, iaN w1, .inl (iaF w1)))] H → va_D A [(a0_0, .inr (7, [.ref a0_1, .int (moN w0), .ref a0_2, .ref a0_3, .ref a0_4, .ref a0_5, .ref a0_6, .ref a0_7, .ref a0_8, .ref a0_9, .ref a0_10, .ref a0_11, .int (moM w0), .ref a0_12, .int (moT w0), .ref a0_13, .int (moW w0), .ref a0_14, .ref a0_15, .int (moG w0), .int (moS w0), .int (moI w0)])), (a0_12, .inl (G.2.1 1, iaN w1, .inl (iaF w1)))] → va_S A s.heap H locs → lv_has ls 4 [(0, .ref a0_0), (1, .int y1), (2, .int y2), (3, .int y3)] → W p l e rm_M_inClass s m args below meth c H locs 0 0 (MQ below (va_Qi post (fun (u : MoC × IaC) (t : State) => va_P G.1 vwCl [(a0_0, .inr (7, [.ref a0_1, .int (moN u.1), .ref a0_2, .ref a0_3, .ref a0_4, .ref a0_5, .ref a0_6, .ref a0_7, .ref a0_8, .ref a0_9, .ref a0_10, .ref a0_11, .int (moM u.1), .ref a0_12, .int (moT u.1), .ref a0_13, .int (moW u.1), .ref a0_14, .ref a0_15, .int (moG u.1), .int (moS u.1), .int (moI u.1)])), (a0_12, .inl (G.2.1 1, iaN u.2, .inl (iaF u.2)))] t.heap) A) args s 0 0 A) (F0 m 74 ls []) := by
  obtain ⟨hx, hb, hr, hts, hown, hlocks, hml, hC⟩ := id E
  have hK := hC.1
  intro y1 y2 y3 w0 w1  H locs ls h hP hD hS hl
  unfold w_M_inClass_74 at h
  refine lv_iload_n hx hb d_Mo_inClass_74 rfl (lv_at hl 2 rfl) ?_
  refine lv_bipush (v := 60) hx hb d_Mo_inClass_75 (by decide) ?_
  refine lv_icmp_ne (tgt := 95) hx hb d_Mo_inClass_77 (by decide) (fun c9 => ?_) (fun c9 => ?_)
  · have h := h.1 c9
    exact t_M_inClass_95 E hR hA hAB hRn  _ _ _ _ _ _ _ _ h hP hD hS (lv_sub hl [0, 1, 2, 3] rfl)
  · have h := h.2 c9
    refine lv_iload_n hx hb d_Mo_inClass_80 rfl (lv_at hl 3 rfl) ?_
    refine lv_if_eq (tgt := 95) hx hb d_Mo_inClass_81 (by decide) (fun c9 => ?_) (fun c9 => ?_)
    · have h := h.1 c9
      exact t_M_inClass_95 E hR hA hAB hRn  _ _ _ _ _ _ _ _ h hP hD hS (lv_sub hl [0, 1, 2, 3] rfl)
    · have h := h.2 c9
      refine lv_aload_n hx hb d_Mo_inClass_84 rfl (lv_at hl 0 rfl) ?_
      refine lv_bipush (v := 9) hx hb d_Mo_inClass_85 (by decide) ?_
      refine lv_bipush (v := 10) hx hb d_Mo_inClass_87 (by decide) ?_
      refine lv_bipush (v := 8) hx hb d_Mo_inClass_89 (by decide) ?_
      have hRc : va_P G.1 vwCl [] H := vaP_nil
      have hPc := hP.sub (ws' := [(a0_0, .inr (7, [.ref a0_1, .int (moN w0), .ref a0_2, .ref a0_3, .ref a0_4, .ref a0_5, .ref a0_6, .ref a0_7, .ref a0_8, .ref a0_9, .ref a0_10, .ref a0_11, .int (moM w0), .ref a0_12, .int (moT w0), .ref a0_13, .int (moW w0), .ref a0_14, .ref a0_15, .int (moG w0), .int (moS w0), .int (moI w0)])), (a0_12, .inl (G.2.1 1, iaN w1, .inl (iaF w1)))]) [0, 1] rfl
      have hDc := hD.sub (ws' := [(a0_0, .inr (7, [.ref a0_1, .int (moN w0), .ref a0_2, .ref a0_3, .ref a0_4, .ref a0_5, .ref a0_6, .ref a0_7, .ref a0_8, .ref a0_9, .ref a0_10, .ref a0_11, .int (moM w0), .ref a0_12, .int (moT w0), .ref a0_13, .int (moW w0), .ref a0_14, .ref a0_15, .int (moG w0), .int (moS w0), .int (moI w0)])), (a0_12, .inl (G.2.1 1, iaN w1, .inl (iaF w1)))]) [0, 1] (by decide) rfl
      have hFc := va_free (wc := [(a0_0, .inr (7, [.ref a0_1, .int (moN w0), .ref a0_2, .ref a0_3, .ref a0_4, .ref a0_5, .ref a0_6, .ref a0_7, .ref a0_8, .ref a0_9, .ref a0_10, .ref a0_11, .int (moM w0), .ref a0_12, .int (moT w0), .ref a0_13, .int (moW w0), .ref a0_14, .ref a0_15, .int (moG w0), .int (moS w0), .int (moI w0)])), (a0_12, .inl (G.2.1 1, iaN w1, .inl (iaF w1)))]) hD hS hA [0, 1] rfl
      have hQc : mw_ap [(a0_0, .inr (7, [.ref a0_1, .int (moN w0), .ref a0_2, .ref a0_3, .ref a0_4, .ref a0_5, .ref a0_6, .ref a0_7, .ref a0_8, .ref a0_9, .ref a0_10, .ref a0_11, .int (moM w0), .ref a0_12, .int (moT w0), .ref a0_13, .int (moW w0), .ref a0_14, .ref a0_15, .int (moG w0), .int (moS w0), .int (moI w0)])), (a0_12, .inl (G.2.1 1, iaN w1, .inl (iaF w1)))] [] := mw_ap_nil
      refine va_calli (va_runV (As := [.int 9, .int 10, .int 8]) (rest := []) ⟨hx, hb, hml, hown, hts⟩ (c_M_push l G a0_0 a0_1 a0_2 a0_3 a0_4 a0_5 a0_6 a0_7 a0_8 a0_9 a0_10 a0_11 a0_12 a0_13 a0_14 a0_15 w0 w1 9 10 8 H.size _ h) (cwV 3 hts (gwV b_437 b_438 b_439 b_427 b_436) rfl rfl rfl hd_Mo_push ⟨Nat.le_of_ble_eq_true rfl, Nat.le_of_ble_eq_true rfl⟩) ⟨mW_blind, va_recv hK hPc (ci := 7) (q0 := 0) rfl rfl, fun U hU hW => ⟨rfl, hC.to hW hU hS hAB, by rw [hU], by rw [hU]; exact hPc, hDc.weaken (fun _ _ _ => hAB _), by rw [hU]; exact hRc, hQc⟩⟩ rfl rfl hl.1 rfl (lv_room (Nat.le_of_ble_eq_true rfl)) d_Mo_inClass_91 ⟨Nat.le_of_ble_eq_true rfl, Nat.le_of_ble_eq_true rfl⟩) hS (fun q _ h => hFc q h) hFc (fun r17 v16 t H1 locs ht hvm h hB hz1 hk1 hS => ?_)
      rw [ht] at hB
      have hj9 := mw_join (wr := []) (w1 := [(a0_0, .inr (7, [.ref a0_1, .int (moN v16.1), .ref a0_2, .ref a0_3, .ref a0_4, .ref a0_5, .ref a0_6, .ref a0_7, .ref a0_8, .ref a0_9, .ref a0_10, .ref a0_11, .int (moM v16.1), .ref a0_12, .int (moT v16.1), .ref a0_13, .int (moW v16.1), .ref a0_14, .ref a0_15, .int (moG v16.1), .int (moS v16.1), .int (moI v16.1)])), (a0_12, .inl (G.2.1 1, iaN v16.2, .inl (iaF v16.2)))]) hP hD [0, 1] [] rfl rfl (by decide) (by decide) (by decide) hk1 hFc hB rfl
      have hP : va_P G.1 vwCl [(a0_0, .inr (7, [.ref a0_1, .int (moN v16.1), .ref a0_2, .ref a0_3, .ref a0_4, .ref a0_5, .ref a0_6, .ref a0_7, .ref a0_8, .ref a0_9, .ref a0_10, .ref a0_11, .int (moM v16.1), .ref a0_12, .int (moT v16.1), .ref a0_13, .int (moW v16.1), .ref a0_14, .ref a0_15, .int (moG v16.1), .int (moS v16.1), .int (moI v16.1)])), (a0_12, .inl (G.2.1 1, iaN v16.2, .inl (iaF v16.2)))] H1 := hj9.1
      have hD : va_D A [(a0_0, .inr (7, [.ref a0_1, .int (moN v16.1), .ref a0_2, .ref a0_3, .ref a0_4, .ref a0_5, .ref a0_6, .ref a0_7, .ref a0_8, .ref a0_9, .ref a0_10, .ref a0_11, .int (moM v16.1), .ref a0_12, .int (moT v16.1), .ref a0_13, .int (moW v16.1), .ref a0_14, .ref a0_15, .int (moG v16.1), .int (moS v16.1), .int (moI v16.1)])), (a0_12, .inl (G.2.1 1, iaN v16.2, .inl (iaF v16.2)))] := hj9.2
      generalize H1 = H at hP hS ⊢
      exact W.iret hx hb hr (fun t ht hW => ⟨⟨_, _, rfl, h, vaP_at ht hP⟩, hS.F ht⟩) hS.2.2 d_Mo_inClass_94
set_option maxHeartbeats 4000000 in
set_option maxRecDepth 100000 in
theorem t_M_inClass_49 {p : Program} {l : Launch} {e : Env} {s : State} {m : MethodId} {args : Array Value} {below : List Frame} {meth : Method} {c : Code} {G : GX} {a0_0 a0_1 a0_2 a0_3 a0_4 a0_5 a0_6 a0_7 a0_8 a0_9 a0_10 a0_11 a0_12 a0_13 a0_14 a0_15 : Nat} {post : Int32 → (MoC × IaC) → Prop} {A : Nat → Prop} (E : EN p s m args meth c G R_Mo cc_Mo_inClass 4 (some .int) BG) (hR : va_P G.1 vwCl [] s.heap) (hA : ∀ q : Nat, s.heap.size ≤ q → A q) (hAB : ∀ q : Nat, A q → G.2.2.1 ≤ q) (hRn : ∀ (j : Nat) (q : Nat × va_E), ([] : va_W)[j]? = some q → ¬ A q.1) : ∀ (z0 : Int32) (w0 : MoC) (w1 : IaC) (H : Heap) (locs : List Loc) (ls : Array Slot), w_M_inClass_49 post z0 w0 w1 → va_P G.1 vwCl [(a0_0, .inr (7, [.ref a0_1, .int (moN w0), .ref a0_2, .ref a0_3, .ref a0_4, .ref a0_5, .ref a0_6, .ref a0_7, .ref a0_8, .ref a0_9, .ref a0_10, .ref a0_11, .int (moM w0), .ref a0_12, .int (moT w0), .ref a0_13, .int (moW w0), .ref a0_14, .ref a0_15, .int (moG w0), .int (moS w0), .int (moI w0)])), (a0_12, .inl (G.2.1 1, iaN w1, .inl (iaF w1)))] H → va_D A [(a0_0, .inr (7, [.ref a0_1, .int (moN w0), .ref a0_2, .ref a0_3, .ref a0_4, .ref a0_5, .ref a0_6, .ref a0_7, .ref a0_8, .ref a0_9, .ref a0_10, .ref a0_11, .int (moM w0), .ref a0_12, .int (moT w0), .ref a0_13, .int (moW w0), .ref a0_14, .ref a0_15, .int (moG w0), .int (moS w0), .int (moI w0)])), (a0_12, .inl (G.2.1 1, iaN w1, .inl (iaF w1)))] → va_S A s.heap H locs → lv_has ls 4 [] → W p l e rm_M_inClass s m args below meth c H locs 0 0 (MQ below (va_Qi post (fun (u : MoC × IaC) (t : State) => va_P G.1 vwCl [(a0_0, .inr (7, [.ref a0_1, .int (moN u.1), .ref a0_2, .ref a0_3, .ref a0_4, .ref a0_5, .ref a0_6, .ref a0_7, .ref a0_8, .ref a0_9, .ref a0_10, .ref a0_11, .int (moM u.1), .ref a0_12, .int (moT u.1), .ref a0_13, .int (moW u.1), .ref a0_14, .ref a0_15, .int (moG u.1), .int (moS u.1), .int (moI u.1)])), (a0_12, .inl (G.2.1 1, iaN u.2, .inl (iaF u.2)))] t.heap) A) args s 0 0 A) (F0 m 49 ls [.int z0, .ref a0_0]) := by
  obtain ⟨hx, hb, hr, hts, hown, hlocks, hml, hC⟩ := id E
  have hK := hC.1
  intro z0 w0 w1  H locs ls h hP hD hS hl
  unfold w_M_inClass_49 at h
  refine lv_iconst (v := 5) hx hb d_Mo_inClass_49 (by decide) ?_
  have hRc : va_P G.1 vwCl [(a0_0, .inr (7, [.ref a0_1, .int (moN w0), .ref a0_2, .ref a0_3, .ref a0_4, .ref a0_5, .ref a0_6, .ref a0_7, .ref a0_8, .ref a0_9, .ref a0_10, .ref a0_11, .int (moM w0), .ref a0_12, .int (moT w0), .ref a0_13, .int (moW w0), .ref a0_14, .ref a0_15, .int (moG w0), .int (moS w0), .int (moI w0)]))] H := (hP.sub (ws' := [(a0_0, .inr (7, [.ref a0_1, .int (moN w0), .ref a0_2, .ref a0_3, .ref a0_4, .ref a0_5, .ref a0_6, .ref a0_7, .ref a0_8, .ref a0_9, .ref a0_10, .ref a0_11, .int (moM w0), .ref a0_12, .int (moT w0), .ref a0_13, .int (moW w0), .ref a0_14, .ref a0_15, .int (moG w0), .int (moS w0), .int (moI w0)]))]) [0] rfl)
  have hPc := hP.sub (ws' := [(a0_12, .inl (G.2.1 1, iaN w1, .inl (iaF w1)))]) [1] rfl
  have hDc := hD.sub (ws' := [(a0_12, .inl (G.2.1 1, iaN w1, .inl (iaF w1)))]) [1] (by decide) rfl
  have hFc := va_free (wc := [(a0_12, .inl (G.2.1 1, iaN w1, .inl (iaF w1)))]) hD hS hA [1] rfl
  have hQc : mw_ap [(a0_12, .inl (G.2.1 1, iaN w1, .inl (iaF w1)))] [(a0_0, .inr (7, [.ref a0_1, .int (moN w0), .ref a0_2, .ref a0_3, .ref a0_4, .ref a0_5, .ref a0_6, .ref a0_7, .ref a0_8, .ref a0_9, .ref a0_10, .ref a0_11, .int (moM w0), .ref a0_12, .int (moT w0), .ref a0_13, .int (moW w0), .ref a0_14, .ref a0_15, .int (moG w0), .int (moS w0), .int (moI w0)]))] := (mw_ap_D (wc := [(a0_12, .inl (G.2.1 1, iaN w1, .inl (iaF w1)))]) (wr := [(a0_0, .inr (7, [.ref a0_1, .int (moN w0), .ref a0_2, .ref a0_3, .ref a0_4, .ref a0_5, .ref a0_6, .ref a0_7, .ref a0_8, .ref a0_9, .ref a0_10, .ref a0_11, .int (moM w0), .ref a0_12, .int (moT w0), .ref a0_13, .int (moW w0), .ref a0_14, .ref a0_15, .int (moG w0), .int (moS w0), .int (moI w0)]))]) hD [1] [0] rfl rfl (by decide))
  refine va_calli (va_runV (As := [.int z0, .int 5]) (rest := []) ⟨hx, hb, hml, hown, hts⟩ (c_M_go l G a0_0 a0_1 a0_2 a0_3 a0_4 a0_5 a0_6 a0_7 a0_8 a0_9 a0_10 a0_11 a0_12 a0_13 a0_14 a0_15 w0 w1 z0 5 H.size _ h) (cwV 2 hts (gwV b_433 b_434 b_435 b_427 b_432) rfl rfl rfl hd_Mo_go ⟨Nat.le_of_ble_eq_true rfl, Nat.le_of_ble_eq_true rfl⟩) ⟨mW_blind, va_recv hK hRc (ci := 7) (q0 := 0) rfl rfl, fun U hU hW => ⟨rfl, hC.to hW hU hS hAB, by rw [hU], by rw [hU]; exact hPc, hDc.weaken (fun _ _ _ => hAB _), by rw [hU]; exact hRc, hQc⟩⟩ rfl rfl hl.1 rfl (lv_room (Nat.le_of_ble_eq_true rfl)) d_Mo_inClass_50 ⟨Nat.le_of_ble_eq_true rfl, Nat.le_of_ble_eq_true rfl⟩) hS (fun q _ h => hFc q h) hFc (fun r19 v18 t H1 locs ht hvm h hB hz1 hk1 hS => ?_)
  rw [ht] at hB
  have hj9 := mw_join (wr := [(a0_0, .inr (7, [.ref a0_1, .int (moN w0), .ref a0_2, .ref a0_3, .ref a0_4, .ref a0_5, .ref a0_6, .ref a0_7, .ref a0_8, .ref a0_9, .ref a0_10, .ref a0_11, .int (moM w0), .ref a0_12, .int (moT w0), .ref a0_13, .int (moW w0), .ref a0_14, .ref a0_15, .int (moG w0), .int (moS w0), .int (moI w0)]))]) (w1 := [(a0_12, .inl (G.2.1 1, iaN v18, .inl (iaF v18)))]) hP hD [1] [0] rfl rfl (by decide) (by decide) (by decide) hk1 hFc hB rfl
  have hP : va_P G.1 vwCl [(a0_0, .inr (7, [.ref a0_1, .int (moN w0), .ref a0_2, .ref a0_3, .ref a0_4, .ref a0_5, .ref a0_6, .ref a0_7, .ref a0_8, .ref a0_9, .ref a0_10, .ref a0_11, .int (moM w0), .ref a0_12, .int (moT w0), .ref a0_13, .int (moW w0), .ref a0_14, .ref a0_15, .int (moG w0), .int (moS w0), .int (moI w0)])), (a0_12, .inl (G.2.1 1, iaN v18, .inl (iaF v18)))] H1 := hj9.1
  have hD : va_D A [(a0_0, .inr (7, [.ref a0_1, .int (moN w0), .ref a0_2, .ref a0_3, .ref a0_4, .ref a0_5, .ref a0_6, .ref a0_7, .ref a0_8, .ref a0_9, .ref a0_10, .ref a0_11, .int (moM w0), .ref a0_12, .int (moT w0), .ref a0_13, .int (moW w0), .ref a0_14, .ref a0_15, .int (moG w0), .int (moS w0), .int (moI w0)])), (a0_12, .inl (G.2.1 1, iaN v18, .inl (iaF v18)))] := hj9.2
  generalize H1 = H at hP hS ⊢
  exact W.iret hx hb hr (fun t ht hW => ⟨⟨_, _, rfl, h, vaP_at ht hP⟩, hS.F ht⟩) hS.2.2 d_Mo_inClass_53
set_option maxHeartbeats 4000000 in
set_option maxRecDepth 100000 in
theorem t_M_inClass_17 {p : Program} {l : Launch} {e : Env} {s : State} {m : MethodId} {args : Array Value} {below : List Frame} {meth : Method} {c : Code} {G : GX} {a0_0 a0_1 a0_2 a0_3 a0_4 a0_5 a0_6 a0_7 a0_8 a0_9 a0_10 a0_11 a0_12 a0_13 a0_14 a0_15 : Nat} {post : Int32 → (MoC × IaC) → Prop} {A : Nat → Prop} (E : EN p s m args meth c G R_Mo cc_Mo_inClass 4 (some .int) BG) (hR : va_P G.1 vwCl [] s.heap) (hA : ∀ q : Nat, s.heap.size ≤ q → A q) (hAB : ∀ q : Nat, A q → G.2.2.1 ≤ q) (hRn : ∀ (j : Nat) (q : Nat × va_E), ([] : va_W)[j]? = some q → ¬ A q.1) : ∀ (y1 : Int32) (y2 : Int32) (z0 : Int32) (w0 : MoC) (w1 : IaC) (H : Heap) (locs : List Loc) (ls : Array Slot), w_M_inClass_17 post y1 y2 z0 w0 w1 → va_P G.1 vwCl [(a0_0, .inr (7, [.ref a0_1, .int (moN w0), .ref a0_2, .ref a0_3, .ref a0_4, .ref a0_5, .ref a0_6, .ref a0_7, .ref a0_8, .ref a0_9, .ref a0_10, .ref a0_11, .int (moM w0), .ref a0_12, .int (moT w0), .ref a0_13, .int (moW w0), .ref a0_14, .ref a0_15, .int (moG w0), .int (moS w0), .int (moI w0)])), (a0_12, .inl (G.2.1 1, iaN w1, .inl (iaF w1)))] H → va_D A [(a0_0, .inr (7, [.ref a0_1, .int (moN w0), .ref a0_2, .ref a0_3, .ref a0_4, .ref a0_5, .ref a0_6, .ref a0_7, .ref a0_8, .ref a0_9, .ref a0_10, .ref a0_11, .int (moM w0), .ref a0_12, .int (moT w0), .ref a0_13, .int (moW w0), .ref a0_14, .ref a0_15, .int (moG w0), .int (moS w0), .int (moI w0)])), (a0_12, .inl (G.2.1 1, iaN w1, .inl (iaF w1)))] → va_S A s.heap H locs → lv_has ls 4 [(0, .ref a0_0), (1, .int y1), (2, .int y2)] → W p l e rm_M_inClass s m args below meth c H locs 0 0 (MQ below (va_Qi post (fun (u : MoC × IaC) (t : State) => va_P G.1 vwCl [(a0_0, .inr (7, [.ref a0_1, .int (moN u.1), .ref a0_2, .ref a0_3, .ref a0_4, .ref a0_5, .ref a0_6, .ref a0_7, .ref a0_8, .ref a0_9, .ref a0_10, .ref a0_11, .int (moM u.1), .ref a0_12, .int (moT u.1), .ref a0_13, .int (moW u.1), .ref a0_14, .ref a0_15, .int (moG u.1), .int (moS u.1), .int (moI u.1)])), (a0_12, .inl (G.2.1 1, iaN u.2, .inl (iaF u.2)))] t.heap) A) args s 0 0 A) (F0 m 17 ls [.int z0]) := by
  obtain ⟨hx, hb, hr, hts, hown, hlocks, hml, hC⟩ := id E
  have hK := hC.1
  intro y1 y2 z0 w0 w1  H locs ls h hP hD hS hl
  unfold w_M_inClass_17 at h
  refine lv_istore_n (lv' := [(3, .int z0), (0, .ref a0_0), (1, .int y1), (2, .int y2)]) hx hb d_Mo_inClass_17 rfl hl (by decide) rfl (fun ls hl => ?_)
  refine lv_iload_n hx hb d_Mo_inClass_18 rfl (lv_at hl 3 rfl) ?_
  have hRc : va_P G.1 vwCl [] H := vaP_nil
  refine vp_callSi (va_runS (As := [.int y2]) (rest := []) ⟨hx, hb, hml, hown, hts⟩ (c_M_name l G y2 _ h) (va_cwS 1 hts (gwS b_449 b_450 b_427 b_448) rfl rfl rfl hd_Mo_name.2 ⟨Nat.le_of_ble_eq_true rfl, Nat.le_of_ble_eq_true rfl⟩) ⟨mP_blind, fun U hU hW => ⟨rfl, hC.to hW hU hS hAB, by rw [hU]; exact hRc⟩⟩ rfl rfl hl.1 rfl (lv_room (Nat.le_of_ble_eq_true rfl)) d_Mo_inClass_19 ⟨Nat.le_of_ble_eq_true rfl, Nat.le_of_ble_eq_true rfl⟩).run (fun r20 h => ?_)
  refine lv_if_eq (tgt := 54) hx hb d_Mo_inClass_22 (by decide) (fun c9 => ?_) (fun c9 => ?_)
  · have h := h.1 c9
    refine lv_iload_n hx hb d_Mo_inClass_54 rfl (lv_at hl 3 rfl) ?_
    refine lv_bipush (v := 47) hx hb d_Mo_inClass_55 (by decide) ?_
    refine lv_icmp_ne (tgt := 74) hx hb d_Mo_inClass_57 (by decide) (fun c9 => ?_) (fun c9 => ?_)
    · have h := h.1 c9
      exact t_M_inClass_74 E hR hA hAB hRn  _ _ _ _ _ _ _ _ h hP hD hS (lv_sub hl [1, 2, 3, 0] rfl)
    · have h := h.2 c9
      refine lv_iload_n hx hb d_Mo_inClass_60 rfl (lv_at hl 2 rfl) ?_
      refine lv_bipush (v := 6) hx hb d_Mo_inClass_61 (by decide) ?_
      refine lv_icmp_ne (tgt := 74) hx hb d_Mo_inClass_63 (by decide) (fun c9 => ?_) (fun c9 => ?_)
      · have h := h.1 c9
        exact t_M_inClass_74 E hR hA hAB hRn  _ _ _ _ _ _ _ _ h hP hD hS (lv_sub hl [1, 2, 3, 0] rfl)
      · have h := h.2 c9
        refine lv_aload_n hx hb d_Mo_inClass_66 rfl (lv_at hl 1 rfl) ?_
        refine lv_iconst (v := 5) hx hb d_Mo_inClass_67 (by decide) ?_
        refine lv_bipush (v := 6) hx hb d_Mo_inClass_68 (by decide) ?_
        have hRc : va_P G.1 vwCl [(a0_0, .inr (7, [.ref a0_1, .int (moN w0), .ref a0_2, .ref a0_3, .ref a0_4, .ref a0_5, .ref a0_6, .ref a0_7, .ref a0_8, .ref a0_9, .ref a0_10, .ref a0_11, .int (moM w0), .ref a0_12, .int (moT w0), .ref a0_13, .int (moW w0), .ref a0_14, .ref a0_15, .int (moG w0), .int (moS w0), .int (moI w0)]))] H := (hP.sub (ws' := [(a0_0, .inr (7, [.ref a0_1, .int (moN w0), .ref a0_2, .ref a0_3, .ref a0_4, .ref a0_5, .ref a0_6, .ref a0_7, .ref a0_8, .ref a0_9, .ref a0_10, .ref a0_11, .int (moM w0), .ref a0_12, .int (moT w0), .ref a0_13, .int (moW w0), .ref a0_14, .ref a0_15, .int (moG w0), .int (moS w0), .int (moI w0)]))]) [0] rfl)
        have hPc := hP.sub (ws' := [(a0_12, .inl (G.2.1 1, iaN w1, .inl (iaF w1)))]) [1] rfl
        have hDc := hD.sub (ws' := [(a0_12, .inl (G.2.1 1, iaN w1, .inl (iaF w1)))]) [1] (by decide) rfl
        have hFc := va_free (wc := [(a0_12, .inl (G.2.1 1, iaN w1, .inl (iaF w1)))]) hD hS hA [1] rfl
        have hQc : mw_ap [(a0_12, .inl (G.2.1 1, iaN w1, .inl (iaF w1)))] [(a0_0, .inr (7, [.ref a0_1, .int (moN w0), .ref a0_2, .ref a0_3, .ref a0_4, .ref a0_5, .ref a0_6, .ref a0_7, .ref a0_8, .ref a0_9, .ref a0_10, .ref a0_11, .int (moM w0), .ref a0_12, .int (moT w0), .ref a0_13, .int (moW w0), .ref a0_14, .ref a0_15, .int (moG w0), .int (moS w0), .int (moI w0)]))] := (mw_ap_D (wc := [(a0_12, .inl (G.2.1 1, iaN w1, .inl (iaF w1)))]) (wr := [(a0_0, .inr (7, [.ref a0_1, .int (moN w0), .ref a0_2, .ref a0_3, .ref a0_4, .ref a0_5, .ref a0_6, .ref a0_7, .ref a0_8, .ref a0_9, .ref a0_10, .ref a0_11, .int (moM w0), .ref a0_12, .int (moT w0), .ref a0_13, .int (moW w0), .ref a0_14, .ref a0_15, .int (moG w0), .int (moS w0), .int (moI w0)]))]) hD [1] [0] rfl rfl (by decide))
        refine va_calli (va_runV (As := [.int 5, .int 6]) (rest := []) ⟨hx, hb, hml, hown, hts⟩ (c_M_go l G a0_0 a0_1 a0_2 a0_3 a0_4 a0_5 a0_6 a0_7 a0_8 a0_9 a0_10 a0_11 a0_12 a0_13 a0_14 a0_15 w0 w1 5 6 H.size _ h) (cwV 2 hts (gwV b_433 b_434 b_435 b_427 b_432) rfl rfl rfl hd_Mo_go ⟨Nat.le_of_ble_eq_true rfl, Nat.le_of_ble_eq_true rfl⟩) ⟨mW_blind, va_recv hK hRc (ci := 7) (q0 := 0) rfl rfl, fun U hU hW => ⟨rfl, hC.to hW hU hS hAB, by rw [hU], by rw [hU]; exact hPc, hDc.weaken (fun _ _ _ => hAB _), by rw [hU]; exact hRc, hQc⟩⟩ rfl rfl hl.1 rfl (lv_room (Nat.le_of_ble_eq_true rfl)) d_Mo_inClass_70 ⟨Nat.le_of_ble_eq_true rfl, Nat.le_of_ble_eq_true rfl⟩) hS (fun q _ h => hFc q h) hFc (fun r22 v21 t H1 locs ht hvm h hB hz1 hk1 hS => ?_)
        rw [ht] at hB
        have hj9 := mw_join (wr := [(a0_0, .inr (7, [.ref a0_1, .int (moN w0), .ref a0_2, .ref a0_3, .ref a0_4, .ref a0_5, .ref a0_6, .ref a0_7, .ref a0_8, .ref a0_9, .ref a0_10, .ref a0_11, .int (moM w0), .ref a0_12, .int (moT w0), .ref a0_13, .int (moW w0), .ref a0_14, .ref a0_15, .int (moG w0), .int (moS w0), .int (moI w0)]))]) (w1 := [(a0_12, .inl (G.2.1 1, iaN v21, .inl (iaF v21)))]) hP hD [1] [0] rfl rfl (by decide) (by decide) (by decide) hk1 hFc hB rfl
        have hP : va_P G.1 vwCl [(a0_0, .inr (7, [.ref a0_1, .int (moN w0), .ref a0_2, .ref a0_3, .ref a0_4, .ref a0_5, .ref a0_6, .ref a0_7, .ref a0_8, .ref a0_9, .ref a0_10, .ref a0_11, .int (moM w0), .ref a0_12, .int (moT w0), .ref a0_13, .int (moW w0), .ref a0_14, .ref a0_15, .int (moG w0), .int (moS w0), .int (moI w0)])), (a0_12, .inl (G.2.1 1, iaN v21, .inl (iaF v21)))] H1 := hj9.1
        have hD : va_D A [(a0_0, .inr (7, [.ref a0_1, .int (moN w0), .ref a0_2, .ref a0_3, .ref a0_4, .ref a0_5, .ref a0_6, .ref a0_7, .ref a0_8, .ref a0_9, .ref a0_10, .ref a0_11, .int (moM w0), .ref a0_12, .int (moT w0), .ref a0_13, .int (moW w0), .ref a0_14, .ref a0_15, .int (moG w0), .int (moS w0), .int (moI w0)])), (a0_12, .inl (G.2.1 1, iaN v21, .inl (iaF v21)))] := hj9.2
        generalize H1 = H at hP hS ⊢
        exact W.iret hx hb hr (fun t ht hW => ⟨⟨_, _, rfl, h, vaP_at ht hP⟩, hS.F ht⟩) hS.2.2 d_Mo_inClass_73
  · have h := h.2 c9
    refine lv_iload_n hx hb d_Mo_inClass_25 rfl (lv_at hl 2 rfl) ?_
    refine lv_bipush (v := 9) hx hb d_Mo_inClass_26 (by decide) ?_
    refine lv_icmp_ne (tgt := 35) hx hb d_Mo_inClass_28 (by decide) (fun c9 => ?_) (fun c9 => ?_)
    · have h := h.1 c9
      refine lv_aload_n hx hb d_Mo_inClass_35 rfl (lv_at hl 1 rfl) ?_
      refine lv_iload_n hx hb d_Mo_inClass_36 rfl (lv_at hl 2 rfl) ?_
      refine lv_bipush (v := 7) hx hb d_Mo_inClass_37 (by decide) ?_
      refine lv_icmp_ge (tgt := 47) hx hb d_Mo_inClass_39 (by decide) (fun c9 => ?_) (fun c9 => ?_)
      · have h := h.1 c9
        refine lv_bipush (v := 8) hx hb d_Mo_inClass_47 (by decide) ?_
        exact t_M_inClass_49 E hR hA hAB hRn  _ _ _ _ _ _ h hP hD hS (lv_sub hl [] rfl)
      · have h := h.2 c9
        refine lv_bipush (v := 6) hx hb d_Mo_inClass_42 (by decide) ?_
        refine lv_goto (tgt := 49) hx hb d_Mo_inClass_44 (by decide) ?_
        exact t_M_inClass_49 E hR hA hAB hRn  _ _ _ _ _ _ h hP hD hS (lv_sub hl [] rfl)
    · have h := h.2 c9
      refine lv_iconst (v := 0) hx hb d_Mo_inClass_31 (by decide) ?_
      refine lv_goto (tgt := 53) hx hb d_Mo_inClass_32 (by decide) ?_
      exact W.iret hx hb hr (fun t ht hW => ⟨⟨_, _, rfl, h, vaP_at ht hP⟩, hS.F ht⟩) hS.2.2 d_Mo_inClass_53
set_option maxHeartbeats 4000000 in
set_option maxRecDepth 100000 in
theorem t_M_inClass_12 {p : Program} {l : Launch} {e : Env} {s : State} {m : MethodId} {args : Array Value} {below : List Frame} {meth : Method} {c : Code} {G : GX} {a0_0 a0_1 a0_2 a0_3 a0_4 a0_5 a0_6 a0_7 a0_8 a0_9 a0_10 a0_11 a0_12 a0_13 a0_14 a0_15 : Nat} {post : Int32 → (MoC × IaC) → Prop} {A : Nat → Prop} (E : EN p s m args meth c G R_Mo cc_Mo_inClass 4 (some .int) BG) (hR : va_P G.1 vwCl [] s.heap) (hA : ∀ q : Nat, s.heap.size ≤ q → A q) (hAB : ∀ q : Nat, A q → G.2.2.1 ≤ q) (hRn : ∀ (j : Nat) (q : Nat × va_E), ([] : va_W)[j]? = some q → ¬ A q.1) : ∀ (y1 : Int32) (y2 : Int32) (w0 : MoC) (w1 : IaC) (H : Heap) (locs : List Loc) (ls : Array Slot), w_M_inClass_12 post y1 y2 w0 w1 → va_P G.1 vwCl [(a0_0, .inr (7, [.ref a0_1, .int (moN w0), .ref a0_2, .ref a0_3, .ref a0_4, .ref a0_5, .ref a0_6, .ref a0_7, .ref a0_8, .ref a0_9, .ref a0_10, .ref a0_11, .int (moM w0), .ref a0_12, .int (moT w0), .ref a0_13, .int (moW w0), .ref a0_14, .ref a0_15, .int (moG w0), .int (moS w0), .int (moI w0)])), (a0_12, .inl (G.2.1 1, iaN w1, .inl (iaF w1)))] H → va_D A [(a0_0, .inr (7, [.ref a0_1, .int (moN w0), .ref a0_2, .ref a0_3, .ref a0_4, .ref a0_5, .ref a0_6, .ref a0_7, .ref a0_8, .ref a0_9, .ref a0_10, .ref a0_11, .int (moM w0), .ref a0_12, .int (moT w0), .ref a0_13, .int (moW w0), .ref a0_14, .ref a0_15, .int (moG w0), .int (moS w0), .int (moI w0)])), (a0_12, .inl (G.2.1 1, iaN w1, .inl (iaF w1)))] → va_S A s.heap H locs → lv_has ls 4 [(0, .ref a0_0), (1, .int y1), (2, .int y2)] → W p l e rm_M_inClass s m args below meth c H locs 0 0 (MQ below (va_Qi post (fun (u : MoC × IaC) (t : State) => va_P G.1 vwCl [(a0_0, .inr (7, [.ref a0_1, .int (moN u.1), .ref a0_2, .ref a0_3, .ref a0_4, .ref a0_5, .ref a0_6, .ref a0_7, .ref a0_8, .ref a0_9, .ref a0_10, .ref a0_11, .int (moM u.1), .ref a0_12, .int (moT u.1), .ref a0_13, .int (moW u.1), .ref a0_14, .ref a0_15, .int (moG u.1), .int (moS u.1), .int (moI u.1)])), (a0_12, .inl (G.2.1 1, iaN u.2, .inl (iaF u.2)))] t.heap) A) args s 0 0 A) (F0 m 12 ls []) := by
  obtain ⟨hx, hb, hr, hts, hown, hlocks, hml, hC⟩ := id E
  have hK := hC.1
  intro y1 y2 w0 w1  H locs ls h hP hD hS hl
  unfold w_M_inClass_12 at h
  refine lv_iconst (v := 1) hx hb d_Mo_inClass_12 (by decide) ?_
  refine lv_goto (tgt := 17) hx hb d_Mo_inClass_13 (by decide) ?_
  exact t_M_inClass_17 E hR hA hAB hRn  _ _ _ _ _ _ _ _ h hP hD hS (lv_sub hl [0, 1, 2] rfl)
set_option maxHeartbeats 4000000 in
set_option maxRecDepth 100000 in
theorem t_M_inClass_in {p : Program} {l : Launch} {e : Env} {s : State} {m : MethodId} {args : Array Value} {below : List Frame} {meth : Method} {c : Code} {G : GX} {a0_0 a0_1 a0_2 a0_3 a0_4 a0_5 a0_6 a0_7 a0_8 a0_9 a0_10 a0_11 a0_12 a0_13 a0_14 a0_15 : Nat} {post : Int32 → (MoC × IaC) → Prop} {A : Nat → Prop} {u0 : MoC} {u3 : IaC} {x1 : Int32} {x2 : Int32} (E : EN p s m args meth c G R_Mo cc_Mo_inClass 4 (some .int) BG) (hR : va_P G.1 vwCl [] s.heap) (hA : ∀ q : Nat, s.heap.size ≤ q → A q) (hAB : ∀ q : Nat, A q → G.2.2.1 ≤ q) (hRn : ∀ (j : Nat) (q : Nat × va_E), ([] : va_W)[j]? = some q → ¬ A q.1) : ∀ (H : Heap) (locs : List Loc) (ls : Array Slot), wp_M_inClass post u0 u3 x1 x2 → va_P G.1 vwCl [(a0_0, .inr (7, [.ref a0_1, .int (moN u0), .ref a0_2, .ref a0_3, .ref a0_4, .ref a0_5, .ref a0_6, .ref a0_7, .ref a0_8, .ref a0_9, .ref a0_10, .ref a0_11, .int (moM u0), .ref a0_12, .int (moT u0), .ref a0_13, .int (moW u0), .ref a0_14, .ref a0_15, .int (moG u0), .int (moS u0), .int (moI u0)])), (a0_12, .inl (G.2.1 1, iaN u3, .inl (iaF u3)))] H → va_D A [(a0_0, .inr (7, [.ref a0_1, .int (moN u0), .ref a0_2, .ref a0_3, .ref a0_4, .ref a0_5, .ref a0_6, .ref a0_7, .ref a0_8, .ref a0_9, .ref a0_10, .ref a0_11, .int (moM u0), .ref a0_12, .int (moT u0), .ref a0_13, .int (moW u0), .ref a0_14, .ref a0_15, .int (moG u0), .int (moS u0), .int (moI u0)])), (a0_12, .inl (G.2.1 1, iaN u3, .inl (iaF u3)))] → va_S A s.heap H locs → lv_has ls 4 [(0, .ref a0_0), (1, .int x1), (2, .int x2)] → W p l e rm_M_inClass s m args below meth c H locs 0 0 (MQ below (va_Qi post (fun (u : MoC × IaC) (t : State) => va_P G.1 vwCl [(a0_0, .inr (7, [.ref a0_1, .int (moN u.1), .ref a0_2, .ref a0_3, .ref a0_4, .ref a0_5, .ref a0_6, .ref a0_7, .ref a0_8, .ref a0_9, .ref a0_10, .ref a0_11, .int (moM u.1), .ref a0_12, .int (moT u.1), .ref a0_13, .int (moW u.1), .ref a0_14, .ref a0_15, .int (moG u.1), .int (moS u.1), .int (moI u.1)])), (a0_12, .inl (G.2.1 1, iaN u.2, .inl (iaF u.2)))] t.heap) A) args s 0 0 A) (F0 m 0 ls []) := by
  obtain ⟨hx, hb, hr, hts, hown, hlocks, hml, hC⟩ := id E
  have hK := hC.1
  intro H locs ls h hP hD hS hl
  unfold wp_M_inClass at h
  refine lv_iload_n hx hb d_Mo_inClass_0 rfl (lv_at hl 1 rfl) ?_
  refine lv_bipush (v := 6) hx hb d_Mo_inClass_1 (by decide) ?_
  refine lv_icmp_eq (tgt := 12) hx hb d_Mo_inClass_3 (by decide) (fun c9 => ?_) (fun c9 => ?_)
  · have h := h.1 c9
    exact t_M_inClass_12 E hR hA hAB hRn  _ _ _ _ _ _ _ h hP hD hS (lv_sub hl [0, 1, 2] rfl)
  · have h := h.2 c9
    refine lv_iload_n hx hb d_Mo_inClass_6 rfl (lv_at hl 1 rfl) ?_
    refine lv_bipush (v := 8) hx hb d_Mo_inClass_7 (by decide) ?_
    refine lv_icmp_ne (tgt := 16) hx hb d_Mo_inClass_9 (by decide) (fun c9 => ?_) (fun c9 => ?_)
    · have h := h.1 c9
      refine lv_iconst (v := 0) hx hb d_Mo_inClass_16 (by decide) ?_
      exact t_M_inClass_17 E hR hA hAB hRn  _ _ _ _ _ _ _ _ h hP hD hS (lv_sub hl [0, 1, 2] rfl)
    · have h := h.2 c9
      exact t_M_inClass_12 E hR hA hAB hRn  _ _ _ _ _ _ _ h hP hD hS (lv_sub hl [0, 1, 2] rfl)
set_option maxHeartbeats 4000000 in
set_option maxRecDepth 100000 in
theorem c_M_inClass (l : Launch) (G : GX) (a0_0 a0_1 a0_2 a0_3 a0_4 a0_5 a0_6 a0_7 a0_8 a0_9 a0_10 a0_11 a0_12 a0_13 a0_14 a0_15 : Nat) (u0 : MoC) (u3 : IaC) (x1 : Int32) (x2 : Int32) (sz : Nat) (post : Int32 → (MoC × IaC) → Prop) (h : wp_M_inClass post u0 u3 x1 x2) : Met l y_Mo_inClass wc_Mo_inClass rm_M_inClass (mW G [.ref a0_0, .int x1, .int x2] sz [(a0_0, .inr (7, [.ref a0_1, .int (moN u0), .ref a0_2, .ref a0_3, .ref a0_4, .ref a0_5, .ref a0_6, .ref a0_7, .ref a0_8, .ref a0_9, .ref a0_10, .ref a0_11, .int (moM u0), .ref a0_12, .int (moT u0), .ref a0_13, .int (moW u0), .ref a0_14, .ref a0_15, .int (moG u0), .int (moS u0), .int (moI u0)])), (a0_12, .inl (G.2.1 1, iaN u3, .inl (iaF u3)))] []) (va_Qi post (fun (u : MoC × IaC) (t : State) => va_P G.1 vwCl [(a0_0, .inr (7, [.ref a0_1, .int (moN u.1), .ref a0_2, .ref a0_3, .ref a0_4, .ref a0_5, .ref a0_6, .ref a0_7, .ref a0_8, .ref a0_9, .ref a0_10, .ref a0_11, .int (moM u.1), .ref a0_12, .int (moT u.1), .ref a0_13, .int (moW u.1), .ref a0_14, .ref a0_15, .int (moG u.1), .int (moS u.1), .int (moI u.1)])), (a0_12, .inl (G.2.1 1, iaN u.2, .inl (iaF u.2)))] t.heap) (va_A [(a0_0, .inr (7, [.ref a0_1, .int (moN u0), .ref a0_2, .ref a0_3, .ref a0_4, .ref a0_5, .ref a0_6, .ref a0_7, .ref a0_8, .ref a0_9, .ref a0_10, .ref a0_11, .int (moM u0), .ref a0_12, .int (moT u0), .ref a0_13, .int (moW u0), .ref a0_14, .ref a0_15, .int (moG u0), .int (moS u0), .int (moI u0)])), (a0_12, .inl (G.2.1 1, iaN u3, .inl (iaF u3)))] sz)) 0 0 (va_A [(a0_0, .inr (7, [.ref a0_1, .int (moN u0), .ref a0_2, .ref a0_3, .ref a0_4, .ref a0_5, .ref a0_6, .ref a0_7, .ref a0_8, .ref a0_9, .ref a0_10, .ref a0_11, .int (moM u0), .ref a0_12, .int (moT u0), .ref a0_13, .int (moW u0), .ref a0_14, .ref a0_15, .int (moG u0), .int (moS u0), .int (moI u0)])), (a0_12, .inl (G.2.1 1, iaN u3, .inl (iaF u3)))] sz) := by
  refine Met.ofW (cc := cc_Mo_inClass) (maxL := 4) (ret := (some .int)) (by decide) rfl ?_
  intro p e s m args below meth c s₁ B hml hv
  obtain ⟨rfl, hC, hsz, hP, hD0, hR, hap⟩ := hv
  have E : EN p s m ([.ref a0_0, .int x1, .int x2] : List Value).toArray meth c G R_Mo cc_Mo_inClass 4 (some .int) BG := ⟨B.exec, B.bytes, B.returns, fun w h => atoms_spec (ws := wc_Mo_inClass) B.pre w (List.mem_cons_of_mem _ h), findClass_of_methodNamed B.named, B.notSynchronized, hml, hC⟩
  subst hsz
  have hD := hD0.self (sz := s.heap.size)
  have hRn := mw_notA hR hap
  have hAB := mw_AB hD0 hC
  have hA : ∀ q : Nat, s.heap.size ≤ q → va_A [(a0_0, .inr (7, [.ref a0_1, .int (moN u0), .ref a0_2, .ref a0_3, .ref a0_4, .ref a0_5, .ref a0_6, .ref a0_7, .ref a0_8, .ref a0_9, .ref a0_10, .ref a0_11, .int (moM u0), .ref a0_12, .int (moT u0), .ref a0_13, .int (moW u0), .ref a0_14, .ref a0_15, .int (moG u0), .int (moS u0), .int (moI u0)])), (a0_12, .inl (G.2.1 1, iaN u3, .inl (iaF u3)))] s.heap.size q := fun q z => Or.inr z
  generalize va_A [(a0_0, .inr (7, [.ref a0_1, .int (moN u0), .ref a0_2, .ref a0_3, .ref a0_4, .ref a0_5, .ref a0_6, .ref a0_7, .ref a0_8, .ref a0_9, .ref a0_10, .ref a0_11, .int (moM u0), .ref a0_12, .int (moT u0), .ref a0_13, .int (moW u0), .ref a0_14, .ref a0_15, .int (moG u0), .int (moS u0), .int (moI u0)])), (a0_12, .inl (G.2.1 1, iaN u3, .inl (iaF u3)))] s.heap.size = A at hD hRn hAB hA ⊢
  have hl := lv_entry ([.ref a0_0, .int x1, .int x2]) (n := 4) (Nat.le_of_ble_eq_true rfl)
  rw [lg_entry_eq]
  generalize (lg_sl ([.ref a0_0, .int x1, .int x2]) ++ List.replicate (4 - (lg_sl ([.ref a0_0, .int x1, .int x2])).length) Slot.unset).toArray = ls at hl ⊢
  have hl : lv_has ls 4 [(0, .ref a0_0), (1, .int x1), (2, .int x2)] := hl
  exact t_M_inClass_in E hR hA hAB hRn _ _ _ h hP hD va_S.rf hl
set_option maxHeartbeats 4000000 in
set_option maxRecDepth 100000 in
theorem tb_M_alikeNames_16 {p : Program} {l : Launch} {e : Env} {s : State} {m : MethodId} {args : Array Value} {below : List Frame} {meth : Method} {c : Code} {G : GX} {a0_0 a0_1 a0_2 a0_3 a0_4 a0_5 a0_6 a0_7 a0_8 a0_9 a0_10 a0_11 a0_12 a0_13 a0_14 a0_15 : Nat} {u0 : MoC} {u7 : IaC} {post : Int32 → Prop} (E : EN p s m args meth c G R_Mo cc_Mo_alikeNames 8 (some .boolean) BG) (hR : va_P G.1 vwCl [(a0_0, .inr (7, [.ref a0_1, .int (moN u0), .ref a0_2, .ref a0_3, .ref a0_4, .ref a0_5, .ref a0_6, .ref a0_7, .ref a0_8, .ref a0_9, .ref a0_10, .ref a0_11, .int (moM u0), .ref a0_12, .int (moT u0), .ref a0_13, .int (moW u0), .ref a0_14, .ref a0_15, .int (moG u0), .int (moS u0), .int (moI u0)])), (a0_2, .inl (G.2.1 1, iaN u7, .inl (iaF u7)))] s.heap) {K0 : Int32 → Int32 → Int32 → Int32 → Int32 → Int32 → Prop} (hK0 : ∀ (y1 : Int32) (y2 : Int32) (y3 : Int32) (y4 : Int32) (y5 : Int32) (y7 : Int32) (ls : Array Slot), K0 y1 y2 y3 y4 y5 y7 → lv_has ls 8 [(0, .ref a0_0), (1, .int y1), (2, .int y2), (3, .int y3), (4, .int y4), (5, .int y5), (7, .int y7)] → W p l e rm_M_alikeNames s m args below meth c s.heap [] 0 0 (MQ below (vp_Si post) args s 0 0 (fun _ => False)) (F0 m 16 ls [])) : ∀ (y1 : Int32) (y2 : Int32) (y3 : Int32) (y4 : Int32) (y5 : Int32) (y7 : Int32) (ls : Array Slot), wb_M_alikeNames_16 post u0 u7 K0 y1 y2 y3 y4 y5 y7 → lv_has ls 8 [(0, .ref a0_0), (1, .int y1), (2, .int y2), (3, .int y3), (4, .int y4), (5, .int y5), (7, .int y7)] → W p l e rm_M_alikeNames s m args below meth c s.heap [] 0 0 (MQ below (vp_Si post) args s 0 0 (fun _ => False)) (F0 m 16 ls []) := by
  obtain ⟨hx, hb, hr, hts, hown, hlocks, hml, hC⟩ := id E
  have hK := hC.1
  intro y1 y2 y3 y4 y5 y7  ls h hl
  unfold wb_M_alikeNames_16 at h
  refine lv_iload hx hb d_Mo_alikeNames_16 (lv_at hl 6 rfl) ?_
  refine lv_iload_n hx hb d_Mo_alikeNames_18 rfl (lv_at hl 3 rfl) ?_
  refine lv_iload_n hx hb d_Mo_alikeNames_19 rfl (lv_at hl 2 rfl) ?_
  refine lv_isub hx hb d_Mo_alikeNames_20 ?_
  refine lv_icmp_ge (tgt := 55) hx hb d_Mo_alikeNames_21 (by decide) (fun c9 => ?_) (fun c9 => ?_)
  · have h := h.1 c9
    refine lv_iconst (v := 1) hx hb d_Mo_alikeNames_55 (by decide) ?_
    exact W.zret hx hb hr (by decide) (fun t ht hW => ⟨_, rfl, h, ht⟩) (fun _ z => by cases z) d_Mo_alikeNames_56
  · have h := h.2 c9
    refine lv_aload_n hx hb d_Mo_alikeNames_24 rfl (lv_at hl 0 rfl) ?_
    refine lv_iload_n hx hb d_Mo_alikeNames_25 rfl (lv_at hl 1 rfl) ?_
    refine lv_iload_n hx hb d_Mo_alikeNames_26 rfl (lv_at hl 2 rfl) ?_
    refine lv_iload hx hb d_Mo_alikeNames_27 (lv_at hl 6 rfl) ?_
    refine lv_iadd hx hb d_Mo_alikeNames_29 ?_
    have hRc : va_P G.1 vwCl [(a0_0, .inr (7, [.ref a0_1, .int (moN u0), .ref a0_2, .ref a0_3, .ref a0_4, .ref a0_5, .ref a0_6, .ref a0_7, .ref a0_8, .ref a0_9, .ref a0_10, .ref a0_11, .int (moM u0), .ref a0_12, .int (moT u0), .ref a0_13, .int (moW u0), .ref a0_14, .ref a0_15, .int (moG u0), .int (moS u0), .int (moI u0)])), (a0_2, .inl (G.2.1 1, iaN u7, .inl (iaF u7)))] s.heap := (hR.sub (ws' := [(a0_0, .inr (7, [.ref a0_1, .int (moN u0), .ref a0_2, .ref a0_3, .ref a0_4, .ref a0_5, .ref a0_6, .ref a0_7, .ref a0_8, .ref a0_9, .ref a0_10, .ref a0_11, .int (moM u0), .ref a0_12, .int (moT u0), .ref a0_13, .int (moW u0), .ref a0_14, .ref a0_15, .int (moG u0), .int (moS u0), .int (moI u0)])), (a0_2, .inl (G.2.1 1, iaN u7, .inl (iaF u7)))]) [0, 1] rfl)
    refine vp_callSi (va_runV (As := [.int y1, .int (y2 + y7)]) (rest := []) ⟨hx, hb, hml, hown, hts⟩ (c_M_at l G a0_0 a0_1 a0_2 a0_3 a0_4 a0_5 a0_6 a0_7 a0_8 a0_9 a0_10 a0_11 a0_12 a0_13 a0_14 a0_15 u0 u7 y1 (y2 + y7) _ h) (cwV 2 hts (gwV b_452 b_453 b_454 b_427 b_451) rfl rfl rfl hd_Mo_at ⟨Nat.le_of_ble_eq_true rfl, Nat.le_of_ble_eq_true rfl⟩) ⟨mP_blind, va_recv hK hRc (ci := 7) (q0 := 0) rfl rfl, fun U hU hW => ⟨rfl, hC.to0 hW hU, by rw [hU]; exact hRc⟩⟩ rfl rfl hl.1 rfl (lv_room (Nat.le_of_ble_eq_true rfl)) d_Mo_alikeNames_30 ⟨Nat.le_of_ble_eq_true rfl, Nat.le_of_ble_eq_true rfl⟩).run (fun r3 h => ?_)
    refine lv_aload_n hx hb d_Mo_alikeNames_33 rfl (lv_at hl 0 rfl) ?_
    refine lv_iload hx hb d_Mo_alikeNames_34 (lv_at hl 4 rfl) ?_
    refine lv_iload hx hb d_Mo_alikeNames_36 (lv_at hl 5 rfl) ?_
    refine lv_iload hx hb d_Mo_alikeNames_38 (lv_at hl 6 rfl) ?_
    refine lv_iadd hx hb d_Mo_alikeNames_40 ?_
    have hRc : va_P G.1 vwCl [(a0_0, .inr (7, [.ref a0_1, .int (moN u0), .ref a0_2, .ref a0_3, .ref a0_4, .ref a0_5, .ref a0_6, .ref a0_7, .ref a0_8, .ref a0_9, .ref a0_10, .ref a0_11, .int (moM u0), .ref a0_12, .int (moT u0), .ref a0_13, .int (moW u0), .ref a0_14, .ref a0_15, .int (moG u0), .int (moS u0), .int (moI u0)])), (a0_2, .inl (G.2.1 1, iaN u7, .inl (iaF u7)))] s.heap := (hR.sub (ws' := [(a0_0, .inr (7, [.ref a0_1, .int (moN u0), .ref a0_2, .ref a0_3, .ref a0_4, .ref a0_5, .ref a0_6, .ref a0_7, .ref a0_8, .ref a0_9, .ref a0_10, .ref a0_11, .int (moM u0), .ref a0_12, .int (moT u0), .ref a0_13, .int (moW u0), .ref a0_14, .ref a0_15, .int (moG u0), .int (moS u0), .int (moI u0)])), (a0_2, .inl (G.2.1 1, iaN u7, .inl (iaF u7)))]) [0, 1] rfl)
    refine vp_callSi (va_runV (As := [.int y4, .int (y5 + y7)]) (rest := [.int r3]) ⟨hx, hb, hml, hown, hts⟩ (c_M_at l G a0_0 a0_1 a0_2 a0_3 a0_4 a0_5 a0_6 a0_7 a0_8 a0_9 a0_10 a0_11 a0_12 a0_13 a0_14 a0_15 u0 u7 y4 (y5 + y7) _ h) (cwV 2 hts (gwV b_452 b_453 b_454 b_427 b_451) rfl rfl rfl hd_Mo_at ⟨Nat.le_of_ble_eq_true rfl, Nat.le_of_ble_eq_true rfl⟩) ⟨mP_blind, va_recv hK hRc (ci := 7) (q0 := 0) rfl rfl, fun U hU hW => ⟨rfl, hC.to0 hW hU, by rw [hU]; exact hRc⟩⟩ rfl rfl hl.1 rfl (lv_room (Nat.le_of_ble_eq_true rfl)) d_Mo_alikeNames_41 ⟨Nat.le_of_ble_eq_true rfl, Nat.le_of_ble_eq_true rfl⟩).run (fun r4 h => ?_)
    refine lv_icmp_eq (tgt := 49) hx hb d_Mo_alikeNames_44 (by decide) (fun c9 => ?_) (fun c9 => ?_)
    · have h := h.1 c9
      refine lv_iinc (v := y7 + 1) (lv' := [(7, .int (y7 + 1)), (0, .ref a0_0), (1, .int y1), (2, .int y2), (3, .int y3), (4, .int y4), (5, .int y5)]) hx hb d_Mo_alikeNames_49 hl (k := 6) rfl rfl (by decide) rfl (fun ls hl => ?_)
      refine lv_goto (tgt := 16) hx hb d_Mo_alikeNames_52 (by decide) ?_
      exact hK0 _ _ _ _ _ _ _ h (lv_sub hl [1, 2, 3, 4, 5, 6, 0] rfl)
    · have h := h.2 c9
      refine lv_iconst (v := 0) hx hb d_Mo_alikeNames_47 (by decide) ?_
      exact W.zret hx hb hr (by decide) (fun t ht hW => ⟨_, rfl, h, ht⟩) (fun _ z => by cases z) d_Mo_alikeNames_48
set_option maxHeartbeats 4000000 in
set_option maxRecDepth 100000 in
theorem t_M_alikeNames_16 {p : Program} {l : Launch} {e : Env} {s : State} {m : MethodId} {args : Array Value} {below : List Frame} {meth : Method} {c : Code} {G : GX} {a0_0 a0_1 a0_2 a0_3 a0_4 a0_5 a0_6 a0_7 a0_8 a0_9 a0_10 a0_11 a0_12 a0_13 a0_14 a0_15 : Nat} {u0 : MoC} {u7 : IaC} {post : Int32 → Prop} (E : EN p s m args meth c G R_Mo cc_Mo_alikeNames 8 (some .boolean) BG) (hR : va_P G.1 vwCl [(a0_0, .inr (7, [.ref a0_1, .int (moN u0), .ref a0_2, .ref a0_3, .ref a0_4, .ref a0_5, .ref a0_6, .ref a0_7, .ref a0_8, .ref a0_9, .ref a0_10, .ref a0_11, .int (moM u0), .ref a0_12, .int (moT u0), .ref a0_13, .int (moW u0), .ref a0_14, .ref a0_15, .int (moG u0), .int (moS u0), .int (moI u0)])), (a0_2, .inl (G.2.1 1, iaN u7, .inl (iaF u7)))] s.heap) : ∀ (n : Nat) (y1 : Int32) (y2 : Int32) (y3 : Int32) (y4 : Int32) (y5 : Int32) (y7 : Int32) (ls : Array Slot), w_M_alikeNames_16 post u0 u7 n y1 y2 y3 y4 y5 y7 → lv_has ls 8 [(0, .ref a0_0), (1, .int y1), (2, .int y2), (3, .int y3), (4, .int y4), (5, .int y5), (7, .int y7)] → W p l e rm_M_alikeNames s m args below meth c s.heap [] 0 0 (MQ below (vp_Si post) args s 0 0 (fun _ => False)) (F0 m 16 ls []) := by
  intro n
  induction n with
  | zero => intro y1 y2 y3 y4 y5 y7  ls h; exact h.elim
  | succ n ih =>
    intro y1 y2 y3 y4 y5 y7  ls h hl
    exact tb_M_alikeNames_16 E hR  ih _ _ _ _ _ _ _ h hl
set_option maxHeartbeats 4000000 in
set_option maxRecDepth 100000 in
theorem t_M_alikeNames_in {p : Program} {l : Launch} {e : Env} {s : State} {m : MethodId} {args : Array Value} {below : List Frame} {meth : Method} {c : Code} {G : GX} {a0_0 a0_1 a0_2 a0_3 a0_4 a0_5 a0_6 a0_7 a0_8 a0_9 a0_10 a0_11 a0_12 a0_13 a0_14 a0_15 : Nat} {u0 : MoC} {u7 : IaC} {post : Int32 → Prop} {x1 : Int32} {x2 : Int32} {x3 : Int32} {x4 : Int32} {x5 : Int32} {x6 : Int32} (E : EN p s m args meth c G R_Mo cc_Mo_alikeNames 8 (some .boolean) BG) (hR : va_P G.1 vwCl [(a0_0, .inr (7, [.ref a0_1, .int (moN u0), .ref a0_2, .ref a0_3, .ref a0_4, .ref a0_5, .ref a0_6, .ref a0_7, .ref a0_8, .ref a0_9, .ref a0_10, .ref a0_11, .int (moM u0), .ref a0_12, .int (moT u0), .ref a0_13, .int (moW u0), .ref a0_14, .ref a0_15, .int (moG u0), .int (moS u0), .int (moI u0)])), (a0_2, .inl (G.2.1 1, iaN u7, .inl (iaF u7)))] s.heap) : ∀ (ls : Array Slot), wp_M_alikeNames post u0 u7 x1 x2 x3 x4 x5 x6 → lv_has ls 8 [(0, .ref a0_0), (1, .int x1), (2, .int x2), (3, .int x3), (4, .int x4), (5, .int x5), (6, .int x6)] → W p l e rm_M_alikeNames s m args below meth c s.heap [] 0 0 (MQ below (vp_Si post) args s 0 0 (fun _ => False)) (F0 m 0 ls []) := by
  obtain ⟨hx, hb, hr, hts, hown, hlocks, hml, hC⟩ := id E
  have hK := hC.1
  intro ls h hl
  unfold wp_M_alikeNames at h
  refine lv_iload_n hx hb d_Mo_alikeNames_0 rfl (lv_at hl 3 rfl) ?_
  refine lv_iload_n hx hb d_Mo_alikeNames_1 rfl (lv_at hl 2 rfl) ?_
  refine lv_isub hx hb d_Mo_alikeNames_2 ?_
  refine lv_iload hx hb d_Mo_alikeNames_3 (lv_at hl 6 rfl) ?_
  refine lv_iload hx hb d_Mo_alikeNames_5 (lv_at hl 5 rfl) ?_
  refine lv_isub hx hb d_Mo_alikeNames_7 ?_
  refine lv_icmp_eq (tgt := 13) hx hb d_Mo_alikeNames_8 (by decide) (fun c9 => ?_) (fun c9 => ?_)
  · have h := h.1 c9
    refine lv_iconst (v := 0) hx hb d_Mo_alikeNames_13 (by decide) ?_
    refine lv_istore (lv' := [(7, .int 0), (0, .ref a0_0), (1, .int x1), (2, .int x2), (3, .int x3), (4, .int x4), (5, .int x5), (6, .int x6)]) hx hb d_Mo_alikeNames_14 hl (by decide) rfl (fun ls hl => ?_)
    obtain ⟨n, h⟩ := h
    exact t_M_alikeNames_16 E hR  n _ _ _ _ _ _ _ h (lv_sub hl [1, 2, 3, 4, 5, 6, 0] rfl)
  · have h := h.2 c9
    refine lv_iconst (v := 0) hx hb d_Mo_alikeNames_11 (by decide) ?_
    exact W.zret hx hb hr (by decide) (fun t ht hW => ⟨_, rfl, h, ht⟩) (fun _ z => by cases z) d_Mo_alikeNames_12
set_option maxHeartbeats 4000000 in
set_option maxRecDepth 100000 in
theorem c_M_alikeNames (l : Launch) (G : GX) (a0_0 a0_1 a0_2 a0_3 a0_4 a0_5 a0_6 a0_7 a0_8 a0_9 a0_10 a0_11 a0_12 a0_13 a0_14 a0_15 : Nat) (u0 : MoC) (u7 : IaC) (x1 : Int32) (x2 : Int32) (x3 : Int32) (x4 : Int32) (x5 : Int32) (x6 : Int32) (post : Int32 → Prop) (h : wp_M_alikeNames post u0 u7 x1 x2 x3 x4 x5 x6) : Met l y_Mo_alikeNames wc_Mo_alikeNames rm_M_alikeNames (mP G [.ref a0_0, .int x1, .int x2, .int x3, .int x4, .int x5, .int x6] [(a0_0, .inr (7, [.ref a0_1, .int (moN u0), .ref a0_2, .ref a0_3, .ref a0_4, .ref a0_5, .ref a0_6, .ref a0_7, .ref a0_8, .ref a0_9, .ref a0_10, .ref a0_11, .int (moM u0), .ref a0_12, .int (moT u0), .ref a0_13, .int (moW u0), .ref a0_14, .ref a0_15, .int (moG u0), .int (moS u0), .int (moI u0)])), (a0_2, .inl (G.2.1 1, iaN u7, .inl (iaF u7)))]) (vp_Si post) 0 0 (fun _ => False) := by
  refine Met.ofW (cc := cc_Mo_alikeNames) (maxL := 8) (ret := (some .boolean)) (by decide) rfl ?_
  intro p e s m args below meth c s₁ B hml hv
  obtain ⟨rfl, hC, hR⟩ := hv
  have E : EN p s m ([.ref a0_0, .int x1, .int x2, .int x3, .int x4, .int x5, .int x6] : List Value).toArray meth c G R_Mo cc_Mo_alikeNames 8 (some .boolean) BG := ⟨B.exec, B.bytes, B.returns, fun w h => atoms_spec (ws := wc_Mo_alikeNames) B.pre w (List.mem_cons_of_mem _ h), findClass_of_methodNamed B.named, B.notSynchronized, hml, hC⟩
  have hl := lv_entry ([.ref a0_0, .int x1, .int x2, .int x3, .int x4, .int x5, .int x6]) (n := 8) (Nat.le_of_ble_eq_true rfl)
  rw [lg_entry_eq]
  generalize (lg_sl ([.ref a0_0, .int x1, .int x2, .int x3, .int x4, .int x5, .int x6]) ++ List.replicate (8 - (lg_sl ([.ref a0_0, .int x1, .int x2, .int x3, .int x4, .int x5, .int x6])).length) Slot.unset).toArray = ls at hl ⊢
  have hl : lv_has ls 8 [(0, .ref a0_0), (1, .int x1), (2, .int x2), (3, .int x3), (4, .int x4), (5, .int x5), (6, .int x6)] := hl
  exact t_M_alikeNames_in E hR _ h hl
set_option maxHeartbeats 4000000 in
set_option maxRecDepth 100000 in
theorem tb_M_twice_19 {p : Program} {l : Launch} {e : Env} {s : State} {m : MethodId} {args : Array Value} {below : List Frame} {meth : Method} {c : Code} {G : GX} {a0_0 a0_1 a0_2 a0_3 a0_4 a0_5 a0_6 a0_7 a0_8 a0_9 a0_10 a0_11 a0_12 a0_13 a0_14 a0_15 : Nat} {u0 : MoC} {u2 : IaC} {u3 : IaC} {u4 : IaC} {u5 : IaC} {post : Int32 → Prop} (E : EN p s m args meth c G R_Mo cc_Mo_twice 4 (some .boolean) BG) (hR : va_P G.1 vwCl [(a0_0, .inr (7, [.ref a0_1, .int (moN u0), .ref a0_2, .ref a0_3, .ref a0_4, .ref a0_5, .ref a0_6, .ref a0_7, .ref a0_8, .ref a0_9, .ref a0_10, .ref a0_11, .int (moM u0), .ref a0_12, .int (moT u0), .ref a0_13, .int (moW u0), .ref a0_14, .ref a0_15, .int (moG u0), .int (moS u0), .int (moI u0)])), (a0_2, .inl (G.2.1 1, iaN u2, .inl (iaF u2))), (a0_7, .inl (G.2.1 1, iaN u3, .inl (iaF u3))), (a0_8, .inl (G.2.1 1, iaN u4, .inl (iaF u4))), (a0_11, .inl (G.2.1 1, iaN u5, .inl (iaF u5)))] s.heap) {K0 : Int32 → Int32 → Int32 → Prop} (hK0 : ∀ (y1 : Int32) (y2 : Int32) (y3 : Int32) (ls : Array Slot), K0 y1 y2 y3 → lv_has ls 4 [(0, .ref a0_0), (1, .int y1), (2, .int y2), (3, .int y3)] → W p l e rm_M_twice s m args below meth c s.heap [] 0 0 (MQ below (vp_Si post) args s 0 0 (fun _ => False)) (F0 m 19 ls [])) : ∀ (y1 : Int32) (y2 : Int32) (y3 : Int32) (ls : Array Slot), wb_M_twice_19 post u0 u2 u3 u4 u5 K0 y1 y2 y3 → lv_has ls 4 [(0, .ref a0_0), (1, .int y1), (2, .int y2), (3, .int y3)] → W p l e rm_M_twice s m args below meth c s.heap [] 0 0 (MQ below (vp_Si post) args s 0 0 (fun _ => False)) (F0 m 19 ls []) := by
  obtain ⟨hx, hb, hr, hts, hown, hlocks, hml, hC⟩ := id E
  have hK := hC.1
  intro y1 y2 y3  ls h hl
  unfold wb_M_twice_19 at h
  refine lv_iload_n hx hb d_Mo_twice_19 rfl (lv_at hl 3 rfl) ?_
  refine lv_iload_n hx hb d_Mo_twice_20 rfl (lv_at hl 2 rfl) ?_
  refine lv_icmp_ge (tgt := 65) hx hb d_Mo_twice_21 (by decide) (fun c9 => ?_) (fun c9 => ?_)
  · have h := h.1 c9
    refine lv_iconst (v := 0) hx hb d_Mo_twice_65 (by decide) ?_
    exact W.zret hx hb hr (by decide) (fun t ht hW => ⟨_, rfl, h, ht⟩) (fun _ z => by cases z) d_Mo_twice_66
  · have h := h.2 c9
    refine lv_aload_n hx hb d_Mo_twice_24 rfl (lv_at hl 0 rfl) ?_
    refine lv_iload_n hx hb d_Mo_twice_25 rfl (lv_at hl 1 rfl) ?_
    refine lv_aload_n hx hb d_Mo_twice_26 rfl (lv_at hl 0 rfl) ?_
    refine va_get (D := G.1) (ci := 7) (v := .ref a0_7) (C := R_Mo) (T := T_Mo) (N := 22) hx hb hts i_Mo hown hK hR 0 rfl rfl 7 (by decide) (hts _ b_456) (fun _ h9 => h9) rfl d_Mo_twice_27 ?_
    refine lv_iload_n hx hb d_Mo_twice_30 rfl (lv_at hl 3 rfl) ?_
    have hi9 := h.1
    have h := h.2
    refine va_iald hx hb hK hR 2 1 rfl rfl hi9 d_Mo_twice_31 ?_
    refine lv_aload_n hx hb d_Mo_twice_32 rfl (lv_at hl 0 rfl) ?_
    refine va_get (D := G.1) (ci := 7) (v := .ref a0_8) (C := R_Mo) (T := T_Mo) (N := 22) hx hb hts i_Mo hown hK hR 0 rfl rfl 8 (by decide) (hts _ b_457) (fun _ h9 => h9) rfl d_Mo_twice_33 ?_
    refine lv_iload_n hx hb d_Mo_twice_36 rfl (lv_at hl 3 rfl) ?_
    have hi9 := h.1
    have h := h.2
    refine va_iald hx hb hK hR 3 1 rfl rfl hi9 d_Mo_twice_37 ?_
    refine lv_iload_n hx hb d_Mo_twice_38 rfl (lv_at hl 1 rfl) ?_
    refine lv_aload_n hx hb d_Mo_twice_39 rfl (lv_at hl 0 rfl) ?_
    refine va_get (D := G.1) (ci := 7) (v := .ref a0_7) (C := R_Mo) (T := T_Mo) (N := 22) hx hb hts i_Mo hown hK hR 0 rfl rfl 7 (by decide) (hts _ b_456) (fun _ h9 => h9) rfl d_Mo_twice_40 ?_
    refine lv_iload_n hx hb d_Mo_twice_43 rfl (lv_at hl 2 rfl) ?_
    have hi9 := h.1
    have h := h.2
    refine va_iald hx hb hK hR 2 1 rfl rfl hi9 d_Mo_twice_44 ?_
    refine lv_aload_n hx hb d_Mo_twice_45 rfl (lv_at hl 0 rfl) ?_
    refine va_get (D := G.1) (ci := 7) (v := .ref a0_8) (C := R_Mo) (T := T_Mo) (N := 22) hx hb hts i_Mo hown hK hR 0 rfl rfl 8 (by decide) (hts _ b_457) (fun _ h9 => h9) rfl d_Mo_twice_46 ?_
    refine lv_iload_n hx hb d_Mo_twice_49 rfl (lv_at hl 2 rfl) ?_
    have hi9 := h.1
    have h := h.2
    refine va_iald hx hb hK hR 3 1 rfl rfl hi9 d_Mo_twice_50 ?_
    have hRc : va_P G.1 vwCl [(a0_0, .inr (7, [.ref a0_1, .int (moN u0), .ref a0_2, .ref a0_3, .ref a0_4, .ref a0_5, .ref a0_6, .ref a0_7, .ref a0_8, .ref a0_9, .ref a0_10, .ref a0_11, .int (moM u0), .ref a0_12, .int (moT u0), .ref a0_13, .int (moW u0), .ref a0_14, .ref a0_15, .int (moG u0), .int (moS u0), .int (moI u0)])), (a0_2, .inl (G.2.1 1, iaN u2, .inl (iaF u2)))] s.heap := (hR.sub (ws' := [(a0_0, .inr (7, [.ref a0_1, .int (moN u0), .ref a0_2, .ref a0_3, .ref a0_4, .ref a0_5, .ref a0_6, .ref a0_7, .ref a0_8, .ref a0_9, .ref a0_10, .ref a0_11, .int (moM u0), .ref a0_12, .int (moT u0), .ref a0_13, .int (moW u0), .ref a0_14, .ref a0_15, .int (moG u0), .int (moS u0), .int (moI u0)])), (a0_2, .inl (G.2.1 1, iaN u2, .inl (iaF u2)))]) [0, 1] rfl)
    refine vp_callSi (va_runV (As := [.int y1, .int ((iaF u3) y3.toNatClampNeg), .int ((iaF u4) y3.toNatClampNeg), .int y1, .int ((iaF u3) y2.toNatClampNeg), .int ((iaF u4) y2.toNatClampNeg)]) (rest := []) ⟨hx, hb, hml, hown, hts⟩ (c_M_alikeNames l G a0_0 a0_1 a0_2 a0_3 a0_4 a0_5 a0_6 a0_7 a0_8 a0_9 a0_10 a0_11 a0_12 a0_13 a0_14 a0_15 u0 u2 y1 ((iaF u3) y3.toNatClampNeg) ((iaF u4) y3.toNatClampNeg) y1 ((iaF u3) y2.toNatClampNeg) ((iaF u4) y2.toNatClampNeg) _ h) (cwV 6 hts (gwV b_459 b_460 b_461 b_427 b_458) rfl rfl rfl hd_Mo_alikeNames ⟨Nat.le_of_ble_eq_true rfl, Nat.le_of_ble_eq_true rfl⟩) ⟨mP_blind, va_recv hK hRc (ci := 7) (q0 := 0) rfl rfl, fun U hU hW => ⟨rfl, hC.to0 hW hU, by rw [hU]; exact hRc⟩⟩ rfl rfl hl.1 rfl (lv_room (Nat.le_of_ble_eq_true rfl)) d_Mo_twice_51 ⟨Nat.le_of_ble_eq_true rfl, Nat.le_of_ble_eq_true rfl⟩).run (fun r2 h => ?_)
    refine lv_if_eq (tgt := 59) hx hb d_Mo_twice_54 (by decide) (fun c9 => ?_) (fun c9 => ?_)
    · have h := h.1 c9
      refine lv_iinc (v := y3 + 1) (lv' := [(3, .int (y3 + 1)), (0, .ref a0_0), (1, .int y1), (2, .int y2)]) hx hb d_Mo_twice_59 hl (k := 3) rfl rfl (by decide) rfl (fun ls hl => ?_)
      refine lv_goto (tgt := 19) hx hb d_Mo_twice_62 (by decide) ?_
      exact hK0 _ _ _ _ h (lv_sub hl [1, 2, 3, 0] rfl)
    · have h := h.2 c9
      refine lv_iconst (v := 1) hx hb d_Mo_twice_57 (by decide) ?_
      exact W.zret hx hb hr (by decide) (fun t ht hW => ⟨_, rfl, h, ht⟩) (fun _ z => by cases z) d_Mo_twice_58
set_option maxHeartbeats 4000000 in
set_option maxRecDepth 100000 in
theorem t_M_twice_19 {p : Program} {l : Launch} {e : Env} {s : State} {m : MethodId} {args : Array Value} {below : List Frame} {meth : Method} {c : Code} {G : GX} {a0_0 a0_1 a0_2 a0_3 a0_4 a0_5 a0_6 a0_7 a0_8 a0_9 a0_10 a0_11 a0_12 a0_13 a0_14 a0_15 : Nat} {u0 : MoC} {u2 : IaC} {u3 : IaC} {u4 : IaC} {u5 : IaC} {post : Int32 → Prop} (E : EN p s m args meth c G R_Mo cc_Mo_twice 4 (some .boolean) BG) (hR : va_P G.1 vwCl [(a0_0, .inr (7, [.ref a0_1, .int (moN u0), .ref a0_2, .ref a0_3, .ref a0_4, .ref a0_5, .ref a0_6, .ref a0_7, .ref a0_8, .ref a0_9, .ref a0_10, .ref a0_11, .int (moM u0), .ref a0_12, .int (moT u0), .ref a0_13, .int (moW u0), .ref a0_14, .ref a0_15, .int (moG u0), .int (moS u0), .int (moI u0)])), (a0_2, .inl (G.2.1 1, iaN u2, .inl (iaF u2))), (a0_7, .inl (G.2.1 1, iaN u3, .inl (iaF u3))), (a0_8, .inl (G.2.1 1, iaN u4, .inl (iaF u4))), (a0_11, .inl (G.2.1 1, iaN u5, .inl (iaF u5)))] s.heap) : ∀ (n : Nat) (y1 : Int32) (y2 : Int32) (y3 : Int32) (ls : Array Slot), w_M_twice_19 post u0 u2 u3 u4 u5 n y1 y2 y3 → lv_has ls 4 [(0, .ref a0_0), (1, .int y1), (2, .int y2), (3, .int y3)] → W p l e rm_M_twice s m args below meth c s.heap [] 0 0 (MQ below (vp_Si post) args s 0 0 (fun _ => False)) (F0 m 19 ls []) := by
  intro n
  induction n with
  | zero => intro y1 y2 y3  ls h; exact h.elim
  | succ n ih =>
    intro y1 y2 y3  ls h hl
    exact tb_M_twice_19 E hR  ih _ _ _ _ h hl
set_option maxHeartbeats 4000000 in
set_option maxRecDepth 100000 in
theorem t_M_twice_in {p : Program} {l : Launch} {e : Env} {s : State} {m : MethodId} {args : Array Value} {below : List Frame} {meth : Method} {c : Code} {G : GX} {a0_0 a0_1 a0_2 a0_3 a0_4 a0_5 a0_6 a0_7 a0_8 a0_9 a0_10 a0_11 a0_12 a0_13 a0_14 a0_15 : Nat} {u0 : MoC} {u2 : IaC} {u3 : IaC} {u4 : IaC} {u5 : IaC} {post : Int32 → Prop} {x1 : Int32} (E : EN p s m args meth c G R_Mo cc_Mo_twice 4 (some .boolean) BG) (hR : va_P G.1 vwCl [(a0_0, .inr (7, [.ref a0_1, .int (moN u0), .ref a0_2, .ref a0_3, .ref a0_4, .ref a0_5, .ref a0_6, .ref a0_7, .ref a0_8, .ref a0_9, .ref a0_10, .ref a0_11, .int (moM u0), .ref a0_12, .int (moT u0), .ref a0_13, .int (moW u0), .ref a0_14, .ref a0_15, .int (moG u0), .int (moS u0), .int (moI u0)])), (a0_2, .inl (G.2.1 1, iaN u2, .inl (iaF u2))), (a0_7, .inl (G.2.1 1, iaN u3, .inl (iaF u3))), (a0_8, .inl (G.2.1 1, iaN u4, .inl (iaF u4))), (a0_11, .inl (G.2.1 1, iaN u5, .inl (iaF u5)))] s.heap) : ∀ (ls : Array Slot), wp_M_twice post u0 u2 u3 u4 u5 x1 → lv_has ls 4 [(0, .ref a0_0), (1, .int x1)] → W p l e rm_M_twice s m args below meth c s.heap [] 0 0 (MQ below (vp_Si post) args s 0 0 (fun _ => False)) (F0 m 0 ls []) := by
  obtain ⟨hx, hb, hr, hts, hown, hlocks, hml, hC⟩ := id E
  have hK := hC.1
  intro ls h hl
  unfold wp_M_twice at h
  refine lv_bipush (v := 20) hx hb d_Mo_twice_0 (by decide) ?_
  refine lv_iload_n hx hb d_Mo_twice_2 rfl (lv_at hl 1 rfl) ?_
  refine lv_imul hx hb d_Mo_twice_3 ?_
  refine lv_aload_n hx hb d_Mo_twice_4 rfl (lv_at hl 0 rfl) ?_
  refine va_get (D := G.1) (ci := 7) (v := .ref a0_11) (C := R_Mo) (T := T_Mo) (N := 22) hx hb hts i_Mo hown hK hR 0 rfl rfl 11 (by decide) (hts _ b_455) (fun _ h9 => h9) rfl d_Mo_twice_5 ?_
  refine lv_iload_n hx hb d_Mo_twice_8 rfl (lv_at hl 1 rfl) ?_
  have hi9 := h.1
  have h := h.2
  refine va_iald hx hb hK hR 4 1 rfl rfl hi9 d_Mo_twice_9 ?_
  refine lv_iadd hx hb d_Mo_twice_10 ?_
  refine lv_iconst (v := 1) hx hb d_Mo_twice_11 (by decide) ?_
  refine lv_isub hx hb d_Mo_twice_12 ?_
  refine lv_istore_n (lv' := [(2, .int (((20 * x1) + ((iaF u5) x1.toNatClampNeg)) - 1)), (0, .ref a0_0), (1, .int x1)]) hx hb d_Mo_twice_13 rfl hl (by decide) rfl (fun ls hl => ?_)
  refine lv_bipush (v := 20) hx hb d_Mo_twice_14 (by decide) ?_
  refine lv_iload_n hx hb d_Mo_twice_16 rfl (lv_at hl 2 rfl) ?_
  refine lv_imul hx hb d_Mo_twice_17 ?_
  refine lv_istore_n (lv' := [(3, .int (20 * x1)), (2, .int (((20 * x1) + ((iaF u5) x1.toNatClampNeg)) - 1)), (0, .ref a0_0), (1, .int x1)]) hx hb d_Mo_twice_18 rfl hl (by decide) rfl (fun ls hl => ?_)
  obtain ⟨n, h⟩ := h
  exact t_M_twice_19 E hR  n _ _ _ _ h (lv_sub hl [2, 3, 1, 0] rfl)
set_option maxHeartbeats 4000000 in
set_option maxRecDepth 100000 in
theorem c_M_twice (l : Launch) (G : GX) (a0_0 a0_1 a0_2 a0_3 a0_4 a0_5 a0_6 a0_7 a0_8 a0_9 a0_10 a0_11 a0_12 a0_13 a0_14 a0_15 : Nat) (u0 : MoC) (u2 : IaC) (u3 : IaC) (u4 : IaC) (u5 : IaC) (x1 : Int32) (post : Int32 → Prop) (h : wp_M_twice post u0 u2 u3 u4 u5 x1) : Met l y_Mo_twice wc_Mo_twice rm_M_twice (mP G [.ref a0_0, .int x1] [(a0_0, .inr (7, [.ref a0_1, .int (moN u0), .ref a0_2, .ref a0_3, .ref a0_4, .ref a0_5, .ref a0_6, .ref a0_7, .ref a0_8, .ref a0_9, .ref a0_10, .ref a0_11, .int (moM u0), .ref a0_12, .int (moT u0), .ref a0_13, .int (moW u0), .ref a0_14, .ref a0_15, .int (moG u0), .int (moS u0), .int (moI u0)])), (a0_2, .inl (G.2.1 1, iaN u2, .inl (iaF u2))), (a0_7, .inl (G.2.1 1, iaN u3, .inl (iaF u3))), (a0_8, .inl (G.2.1 1, iaN u4, .inl (iaF u4))), (a0_11, .inl (G.2.1 1, iaN u5, .inl (iaF u5)))]) (vp_Si post) 0 0 (fun _ => False) := by
  refine Met.ofW (cc := cc_Mo_twice) (maxL := 4) (ret := (some .boolean)) (by decide) rfl ?_
  intro p e s m args below meth c s₁ B hml hv
  obtain ⟨rfl, hC, hR⟩ := hv
  have E : EN p s m ([.ref a0_0, .int x1] : List Value).toArray meth c G R_Mo cc_Mo_twice 4 (some .boolean) BG := ⟨B.exec, B.bytes, B.returns, fun w h => atoms_spec (ws := wc_Mo_twice) B.pre w (List.mem_cons_of_mem _ h), findClass_of_methodNamed B.named, B.notSynchronized, hml, hC⟩
  have hl := lv_entry ([.ref a0_0, .int x1]) (n := 4) (Nat.le_of_ble_eq_true rfl)
  rw [lg_entry_eq]
  generalize (lg_sl ([.ref a0_0, .int x1]) ++ List.replicate (4 - (lg_sl ([.ref a0_0, .int x1])).length) Slot.unset).toArray = ls at hl ⊢
  have hl : lv_has ls 4 [(0, .ref a0_0), (1, .int x1)] := hl
  exact t_M_twice_in E hR _ h hl
set_option maxHeartbeats 4000000 in
set_option maxRecDepth 100000 in
theorem t_M_inParameters_117 {p : Program} {l : Launch} {e : Env} {s : State} {m : MethodId} {args : Array Value} {below : List Frame} {meth : Method} {c : Code} {G : GX} {a0_0 a0_1 a0_2 a0_3 a0_4 a0_5 a0_6 a0_7 a0_8 a0_9 a0_10 a0_11 a0_12 a0_13 a0_14 a0_15 : Nat} {u4 : IaC} {u5 : IaC} {u6 : IaC} {u7 : IaC} {post : Int32 → (MoC × IaC) → Prop} {A : Nat → Prop} (E : EN p s m args meth c G R_Mo cc_Mo_inParameters 4 (some .int) BG) (hR : va_P G.1 vwCl [(a0_2, .inl (G.2.1 1, iaN u4, .inl (iaF u4))), (a0_7, .inl (G.2.1 1, iaN u5, .inl (iaF u5))), (a0_8, .inl (G.2.1 1, iaN u6, .inl (iaF u6))), (a0_11, .inl (G.2.1 1, iaN u7, .inl (iaF u7)))] s.heap) (hA : ∀ q : Nat, s.heap.size ≤ q → A q) (hAB : ∀ q : Nat, A q → G.2.2.1 ≤ q) (hRn : ∀ (j : Nat) (q : Nat × va_E), ([(a0_2, .inl (G.2.1 1, iaN u4, .inl (iaF u4))), (a0_7, .inl (G.2.1 1, iaN u5, .inl (iaF u5))), (a0_8, .inl (G.2.1 1, iaN u6, .inl (iaF u6))), (a0_11, .inl (G.2.1 1, iaN u7, .inl (iaF u7)))] : va_W)[j]? = some q → ¬ A q.1) : ∀ (y3 : Int32) (w0 : MoC) (w1 : IaC) (H : Heap) (locs : List Loc) (ls : Array Slot), w_M_inParameters_117 post u4 u5 u6 u7 y3 w0 w1 → va_P G.1 vwCl [(a0_0, .inr (7, [.ref a0_1, .int (moN w0), .ref a0_2, .ref a0_3, .ref a0_4, .ref a0_5, .ref a0_6, .ref a0_7, .ref a0_8, .ref a0_9, .ref a0_10, .ref a0_11, .int (moM w0), .ref a0_12, .int (moT w0), .ref a0_13, .int (moW w0), .ref a0_14, .ref a0_15, .int (moG w0), .int (moS w0), .int (moI w0)])), (a0_12, .inl (G.2.1 1, iaN w1, .inl (iaF w1)))] H → va_D A [(a0_0, .inr (7, [.ref a0_1, .int (moN w0), .ref a0_2, .ref a0_3, .ref a0_4, .ref a0_5, .ref a0_6, .ref a0_7, .ref a0_8, .ref a0_9, .ref a0_10, .ref a0_11, .int (moM w0), .ref a0_12, .int (moT w0), .ref a0_13, .int (moW w0), .ref a0_14, .ref a0_15, .int (moG w0), .int (moS w0), .int (moI w0)])), (a0_12, .inl (G.2.1 1, iaN w1, .inl (iaF w1)))] → va_S A s.heap H locs → lv_has ls 4 [(0, .ref a0_0), (3, .int y3)] → W p l e rm_M_inParameters s m args below meth c H locs 0 0 (MQ below (va_Qi post (fun (u : MoC × IaC) (t : State) => va_P G.1 vwCl [(a0_0, .inr (7, [.ref a0_1, .int (moN u.1), .ref a0_2, .ref a0_3, .ref a0_4, .ref a0_5, .ref a0_6, .ref a0_7, .ref a0_8, .ref a0_9, .ref a0_10, .ref a0_11, .int (moM u.1), .ref a0_12, .int (moT u.1), .ref a0_13, .int (moW u.1), .ref a0_14, .ref a0_15, .int (moG u.1), .int (moS u.1), .int (moI u.1)])), (a0_12, .inl (G.2.1 1, iaN u.2, .inl (iaF u.2)))] t.heap) A) args s 0 0 A) (F0 m 117 ls []) := by
  obtain ⟨hx, hb, hr, hts, hown, hlocks, hml, hC⟩ := id E
  have hK := hC.1
  intro y3 w0 w1  H locs ls h hP hD hS hl
  unfold w_M_inParameters_117 at h
  refine lv_iload_n hx hb d_Mo_inParameters_117 rfl (lv_at hl 1 rfl) ?_
  have hRc : va_P G.1 vwCl [] H := vaP_nil
  refine vp_callSi (va_runS (As := [.int y3]) (rest := []) ⟨hx, hb, hml, hown, hts⟩ (c_M_name l G y3 _ h) (va_cwS 1 hts (gwS b_449 b_450 b_427 b_448) rfl rfl rfl hd_Mo_name.2 ⟨Nat.le_of_ble_eq_true rfl, Nat.le_of_ble_eq_true rfl⟩) ⟨mP_blind, fun U hU hW => ⟨rfl, hC.to hW hU hS hAB, by rw [hU]; exact hRc⟩⟩ rfl rfl hl.1 rfl (lv_room (Nat.le_of_ble_eq_true rfl)) d_Mo_inParameters_118 ⟨Nat.le_of_ble_eq_true rfl, Nat.le_of_ble_eq_true rfl⟩).run (fun r14 h => ?_)
  refine lv_if_eq (tgt := 135) hx hb d_Mo_inParameters_121 (by decide) (fun c9 => ?_) (fun c9 => ?_)
  · have h := h.1 c9
    refine lv_iconst (v := 0) hx hb d_Mo_inParameters_135 (by decide) ?_
    exact W.iret hx hb hr (fun t ht hW => ⟨⟨_, _, rfl, h, vaP_at ht hP⟩, hS.F ht⟩) hS.2.2 d_Mo_inParameters_136
  · have h := h.2 c9
    refine lv_aload_n hx hb d_Mo_inParameters_124 rfl (lv_at hl 0 rfl) ?_
    refine lv_bipush (v := 15) hx hb d_Mo_inParameters_125 (by decide) ?_
    refine lv_bipush (v := 17) hx hb d_Mo_inParameters_127 (by decide) ?_
    have hRc : va_P G.1 vwCl [(a0_0, .inr (7, [.ref a0_1, .int (moN w0), .ref a0_2, .ref a0_3, .ref a0_4, .ref a0_5, .ref a0_6, .ref a0_7, .ref a0_8, .ref a0_9, .ref a0_10, .ref a0_11, .int (moM w0), .ref a0_12, .int (moT w0), .ref a0_13, .int (moW w0), .ref a0_14, .ref a0_15, .int (moG w0), .int (moS w0), .int (moI w0)]))] H := (hP.sub (ws' := [(a0_0, .inr (7, [.ref a0_1, .int (moN w0), .ref a0_2, .ref a0_3, .ref a0_4, .ref a0_5, .ref a0_6, .ref a0_7, .ref a0_8, .ref a0_9, .ref a0_10, .ref a0_11, .int (moM w0), .ref a0_12, .int (moT w0), .ref a0_13, .int (moW w0), .ref a0_14, .ref a0_15, .int (moG w0), .int (moS w0), .int (moI w0)]))]) [0] rfl)
    have hPc := hP.sub (ws' := [(a0_12, .inl (G.2.1 1, iaN w1, .inl (iaF w1)))]) [1] rfl
    have hDc := hD.sub (ws' := [(a0_12, .inl (G.2.1 1, iaN w1, .inl (iaF w1)))]) [1] (by decide) rfl
    have hFc := va_free (wc := [(a0_12, .inl (G.2.1 1, iaN w1, .inl (iaF w1)))]) hD hS hA [1] rfl
    have hQc : mw_ap [(a0_12, .inl (G.2.1 1, iaN w1, .inl (iaF w1)))] [(a0_0, .inr (7, [.ref a0_1, .int (moN w0), .ref a0_2, .ref a0_3, .ref a0_4, .ref a0_5, .ref a0_6, .ref a0_7, .ref a0_8, .ref a0_9, .ref a0_10, .ref a0_11, .int (moM w0), .ref a0_12, .int (moT w0), .ref a0_13, .int (moW w0), .ref a0_14, .ref a0_15, .int (moG w0), .int (moS w0), .int (moI w0)]))] := (mw_ap_D (wc := [(a0_12, .inl (G.2.1 1, iaN w1, .inl (iaF w1)))]) (wr := [(a0_0, .inr (7, [.ref a0_1, .int (moN w0), .ref a0_2, .ref a0_3, .ref a0_4, .ref a0_5, .ref a0_6, .ref a0_7, .ref a0_8, .ref a0_9, .ref a0_10, .ref a0_11, .int (moM w0), .ref a0_12, .int (moT w0), .ref a0_13, .int (moW w0), .ref a0_14, .ref a0_15, .int (moG w0), .int (moS w0), .int (moI w0)]))]) hD [1] [0] rfl rfl (by decide))
    refine va_calli (va_runV (As := [.int 15, .int 17]) (rest := []) ⟨hx, hb, hml, hown, hts⟩ (c_M_go l G a0_0 a0_1 a0_2 a0_3 a0_4 a0_5 a0_6 a0_7 a0_8 a0_9 a0_10 a0_11 a0_12 a0_13 a0_14 a0_15 w0 w1 15 17 H.size _ h) (cwV 2 hts (gwV b_433 b_434 b_435 b_427 b_432) rfl rfl rfl hd_Mo_go ⟨Nat.le_of_ble_eq_true rfl, Nat.le_of_ble_eq_true rfl⟩) ⟨mW_blind, va_recv hK hRc (ci := 7) (q0 := 0) rfl rfl, fun U hU hW => ⟨rfl, hC.to hW hU hS hAB, by rw [hU], by rw [hU]; exact hPc, hDc.weaken (fun _ _ _ => hAB _), by rw [hU]; exact hRc, hQc⟩⟩ rfl rfl hl.1 rfl (lv_room (Nat.le_of_ble_eq_true rfl)) d_Mo_inParameters_129 ⟨Nat.le_of_ble_eq_true rfl, Nat.le_of_ble_eq_true rfl⟩) hS (fun q _ h => hFc q h) hFc (fun r16 v15 t H1 locs ht hvm h hB hz1 hk1 hS => ?_)
    rw [ht] at hB
    have hj9 := mw_join (wr := [(a0_0, .inr (7, [.ref a0_1, .int (moN w0), .ref a0_2, .ref a0_3, .ref a0_4, .ref a0_5, .ref a0_6, .ref a0_7, .ref a0_8, .ref a0_9, .ref a0_10, .ref a0_11, .int (moM w0), .ref a0_12, .int (moT w0), .ref a0_13, .int (moW w0), .ref a0_14, .ref a0_15, .int (moG w0), .int (moS w0), .int (moI w0)]))]) (w1 := [(a0_12, .inl (G.2.1 1, iaN v15, .inl (iaF v15)))]) hP hD [1] [0] rfl rfl (by decide) (by decide) (by decide) hk1 hFc hB rfl
    have hP : va_P G.1 vwCl [(a0_0, .inr (7, [.ref a0_1, .int (moN w0), .ref a0_2, .ref a0_3, .ref a0_4, .ref a0_5, .ref a0_6, .ref a0_7, .ref a0_8, .ref a0_9, .ref a0_10, .ref a0_11, .int (moM w0), .ref a0_12, .int (moT w0), .ref a0_13, .int (moW w0), .ref a0_14, .ref a0_15, .int (moG w0), .int (moS w0), .int (moI w0)])), (a0_12, .inl (G.2.1 1, iaN v15, .inl (iaF v15)))] H1 := hj9.1
    have hD : va_D A [(a0_0, .inr (7, [.ref a0_1, .int (moN w0), .ref a0_2, .ref a0_3, .ref a0_4, .ref a0_5, .ref a0_6, .ref a0_7, .ref a0_8, .ref a0_9, .ref a0_10, .ref a0_11, .int (moM w0), .ref a0_12, .int (moT w0), .ref a0_13, .int (moW w0), .ref a0_14, .ref a0_15, .int (moG w0), .int (moS w0), .int (moI w0)])), (a0_12, .inl (G.2.1 1, iaN v15, .inl (iaF v15)))] := hj9.2
    generalize H1 = H at hP hS ⊢
    refine lv_goto (tgt := 136) hx hb d_Mo_inParameters_132 (by decide) ?_
    exact W.iret hx hb hr (fun t ht hW => ⟨⟨_, _, rfl, h, vaP_at ht hP⟩, hS.F ht⟩) hS.2.2 d_Mo_inParameters_136
set_option maxHeartbeats 4000000 in
set_option maxRecDepth 100000 in
theorem t_M_inParameters_108 {p : Program} {l : Launch} {e : Env} {s : State} {m : MethodId} {args : Array Value} {below : List Frame} {meth : Method} {c : Code} {G : GX} {a0_0 a0_1 a0_2 a0_3 a0_4 a0_5 a0_6 a0_7 a0_8 a0_9 a0_10 a0_11 a0_12 a0_13 a0_14 a0_15 : Nat} {u4 : IaC} {u5 : IaC} {u6 : IaC} {u7 : IaC} {post : Int32 → (MoC × IaC) → Prop} {A : Nat → Prop} (E : EN p s m args meth c G R_Mo cc_Mo_inParameters 4 (some .int) BG) (hR : va_P G.1 vwCl [(a0_2, .inl (G.2.1 1, iaN u4, .inl (iaF u4))), (a0_7, .inl (G.2.1 1, iaN u5, .inl (iaF u5))), (a0_8, .inl (G.2.1 1, iaN u6, .inl (iaF u6))), (a0_11, .inl (G.2.1 1, iaN u7, .inl (iaF u7)))] s.heap) (hA : ∀ q : Nat, s.heap.size ≤ q → A q) (hAB : ∀ q : Nat, A q → G.2.2.1 ≤ q) (hRn : ∀ (j : Nat) (q : Nat × va_E), ([(a0_2, .inl (G.2.1 1, iaN u4, .inl (iaF u4))), (a0_7, .inl (G.2.1 1, iaN u5, .inl (iaF u5))), (a0_8, .inl (G.2.1 1, iaN u6, .inl (iaF u6))), (a0_11, .inl (G.2.1 1, iaN u7, .inl (iaF u7)))] : va_W)[j]? = some q → ¬ A q.1) : ∀ (y3 : Int32) (w0 : MoC) (w1 : IaC) (H : Heap) (locs : List Loc) (ls : Array Slot), w_M_inParameters_108 post u4 u5 u6 u7 y3 w0 w1 → va_P G.1 vwCl [(a0_0, .inr (7, [.ref a0_1, .int (moN w0), .ref a0_2, .ref a0_3, .ref a0_4, .ref a0_5, .ref a0_6, .ref a0_7, .ref a0_8, .ref a0_9, .ref a0_10, .ref a0_11, .int (moM w0), .ref a0_12, .int (moT w0), .ref a0_13, .int (moW w0), .ref a0_14, .ref a0_15, .int (moG w0), .int (moS w0), .int (moI w0)])), (a0_12, .inl (G.2.1 1, iaN w1, .inl (iaF w1)))] H → va_D A [(a0_0, .inr (7, [.ref a0_1, .int (moN w0), .ref a0_2, .ref a0_3, .ref a0_4, .ref a0_5, .ref a0_6, .ref a0_7, .ref a0_8, .ref a0_9, .ref a0_10, .ref a0_11, .int (moM w0), .ref a0_12, .int (moT w0), .ref a0_13, .int (moW w0), .ref a0_14, .ref a0_15, .int (moG w0), .int (moS w0), .int (moI w0)])), (a0_12, .inl (G.2.1 1, iaN w1, .inl (iaF w1)))] → va_S A s.heap H locs → lv_has ls 4 [(0, .ref a0_0), (3, .int y3)] → W p l e rm_M_inParameters s m args below meth c H locs 0 0 (MQ below (va_Qi post (fun (u : MoC × IaC) (t : State) => va_P G.1 vwCl [(a0_0, .inr (7, [.ref a0_1, .int (moN u.1), .ref a0_2, .ref a0_3, .ref a0_4, .ref a0_5, .ref a0_6, .ref a0_7, .ref a0_8, .ref a0_9, .ref a0_10, .ref a0_11, .int (moM u.1), .ref a0_12, .int (moT u.1), .ref a0_13, .int (moW u.1), .ref a0_14, .ref a0_15, .int (moG u.1), .int (moS u.1), .int (moI u.1)])), (a0_12, .inl (G.2.1 1, iaN u.2, .inl (iaF u.2)))] t.heap) A) args s 0 0 A) (F0 m 108 ls []) := by
  obtain ⟨hx, hb, hr, hts, hown, hlocks, hml, hC⟩ := id E
  have hK := hC.1
  intro y3 w0 w1  H locs ls h hP hD hS hl
  unfold w_M_inParameters_108 at h
  refine lv_aload_n hx hb d_Mo_inParameters_108 rfl (lv_at hl 0 rfl) ?_
  refine lv_bipush (v := 17) hx hb d_Mo_inParameters_109 (by decide) ?_
  refine lv_iconst (v := 2) hx hb d_Mo_inParameters_111 (by decide) ?_
  refine lv_iload_n hx hb d_Mo_inParameters_112 rfl (lv_at hl 1 rfl) ?_
  have hRc : va_P G.1 vwCl [] H := vaP_nil
  have hPc := hP.sub (ws' := [(a0_0, .inr (7, [.ref a0_1, .int (moN w0), .ref a0_2, .ref a0_3, .ref a0_4, .ref a0_5, .ref a0_6, .ref a0_7, .ref a0_8, .ref a0_9, .ref a0_10, .ref a0_11, .int (moM w0), .ref a0_12, .int (moT w0), .ref a0_13, .int (moW w0), .ref a0_14, .ref a0_15, .int (moG w0), .int (moS w0), .int (moI w0)])), (a0_12, .inl (G.2.1 1, iaN w1, .inl (iaF w1)))]) [0, 1] rfl
  have hDc := hD.sub (ws' := [(a0_0, .inr (7, [.ref a0_1, .int (moN w0), .ref a0_2, .ref a0_3, .ref a0_4, .ref a0_5, .ref a0_6, .ref a0_7, .ref a0_8, .ref a0_9, .ref a0_10, .ref a0_11, .int (moM w0), .ref a0_12, .int (moT w0), .ref a0_13, .int (moW w0), .ref a0_14, .ref a0_15, .int (moG w0), .int (moS w0), .int (moI w0)])), (a0_12, .inl (G.2.1 1, iaN w1, .inl (iaF w1)))]) [0, 1] (by decide) rfl
  have hFc := va_free (wc := [(a0_0, .inr (7, [.ref a0_1, .int (moN w0), .ref a0_2, .ref a0_3, .ref a0_4, .ref a0_5, .ref a0_6, .ref a0_7, .ref a0_8, .ref a0_9, .ref a0_10, .ref a0_11, .int (moM w0), .ref a0_12, .int (moT w0), .ref a0_13, .int (moW w0), .ref a0_14, .ref a0_15, .int (moG w0), .int (moS w0), .int (moI w0)])), (a0_12, .inl (G.2.1 1, iaN w1, .inl (iaF w1)))]) hD hS hA [0, 1] rfl
  have hQc : mw_ap [(a0_0, .inr (7, [.ref a0_1, .int (moN w0), .ref a0_2, .ref a0_3, .ref a0_4, .ref a0_5, .ref a0_6, .ref a0_7, .ref a0_8, .ref a0_9, .ref a0_10, .ref a0_11, .int (moM w0), .ref a0_12, .int (moT w0), .ref a0_13, .int (moW w0), .ref a0_14, .ref a0_15, .int (moG w0), .int (moS w0), .int (moI w0)])), (a0_12, .inl (G.2.1 1, iaN w1, .inl (iaF w1)))] [] := mw_ap_nil
  refine va_calli (va_runV (As := [.int 17, .int 2, .int y3]) (rest := []) ⟨hx, hb, hml, hown, hts⟩ (c_M_inner l G a0_0 a0_1 a0_2 a0_3 a0_4 a0_5 a0_6 a0_7 a0_8 a0_9 a0_10 a0_11 a0_12 a0_13 a0_14 a0_15 w0 w1 17 2 y3 H.size _ h) (cwV 3 hts (gwV b_445 b_446 b_447 b_427 b_444) rfl rfl rfl hd_Mo_inner ⟨Nat.le_of_ble_eq_true rfl, Nat.le_of_ble_eq_true rfl⟩) ⟨mW_blind, va_recv hK hPc (ci := 7) (q0 := 0) rfl rfl, fun U hU hW => ⟨rfl, hC.to hW hU hS hAB, by rw [hU], by rw [hU]; exact hPc, hDc.weaken (fun _ _ _ => hAB _), by rw [hU]; exact hRc, hQc⟩⟩ rfl rfl hl.1 rfl (lv_room (Nat.le_of_ble_eq_true rfl)) d_Mo_inParameters_113 ⟨Nat.le_of_ble_eq_true rfl, Nat.le_of_ble_eq_true rfl⟩) hS (fun q _ h => hFc q h) hFc (fun r18 v17 t H1 locs ht hvm h hB hz1 hk1 hS => ?_)
  rw [ht] at hB
  have hj9 := mw_join (wr := []) (w1 := [(a0_0, .inr (7, [.ref a0_1, .int (moN v17.1), .ref a0_2, .ref a0_3, .ref a0_4, .ref a0_5, .ref a0_6, .ref a0_7, .ref a0_8, .ref a0_9, .ref a0_10, .ref a0_11, .int (moM v17.1), .ref a0_12, .int (moT v17.1), .ref a0_13, .int (moW v17.1), .ref a0_14, .ref a0_15, .int (moG v17.1), .int (moS v17.1), .int (moI v17.1)])), (a0_12, .inl (G.2.1 1, iaN v17.2, .inl (iaF v17.2)))]) hP hD [0, 1] [] rfl rfl (by decide) (by decide) (by decide) hk1 hFc hB rfl
  have hP : va_P G.1 vwCl [(a0_0, .inr (7, [.ref a0_1, .int (moN v17.1), .ref a0_2, .ref a0_3, .ref a0_4, .ref a0_5, .ref a0_6, .ref a0_7, .ref a0_8, .ref a0_9, .ref a0_10, .ref a0_11, .int (moM v17.1), .ref a0_12, .int (moT v17.1), .ref a0_13, .int (moW v17.1), .ref a0_14, .ref a0_15, .int (moG v17.1), .int (moS v17.1), .int (moI v17.1)])), (a0_12, .inl (G.2.1 1, iaN v17.2, .inl (iaF v17.2)))] H1 := hj9.1
  have hD : va_D A [(a0_0, .inr (7, [.ref a0_1, .int (moN v17.1), .ref a0_2, .ref a0_3, .ref a0_4, .ref a0_5, .ref a0_6, .ref a0_7, .ref a0_8, .ref a0_9, .ref a0_10, .ref a0_11, .int (moM v17.1), .ref a0_12, .int (moT v17.1), .ref a0_13, .int (moW v17.1), .ref a0_14, .ref a0_15, .int (moG v17.1), .int (moS v17.1), .int (moI v17.1)])), (a0_12, .inl (G.2.1 1, iaN v17.2, .inl (iaF v17.2)))] := hj9.2
  generalize H1 = H at hP hS ⊢
  exact W.iret hx hb hr (fun t ht hW => ⟨⟨_, _, rfl, h, vaP_at ht hP⟩, hS.F ht⟩) hS.2.2 d_Mo_inParameters_116
set_option maxHeartbeats 4000000 in
set_option maxRecDepth 100000 in
theorem t_M_inParameters_84 {p : Program} {l : Launch} {e : Env} {s : State} {m : MethodId} {args : Array Value} {below : List Frame} {meth : Method} {c : Code} {G : GX} {a0_0 a0_1 a0_2 a0_3 a0_4 a0_5 a0_6 a0_7 a0_8 a0_9 a0_10 a0_11 a0_12 a0_13 a0_14 a0_15 : Nat} {u4 : IaC} {u5 : IaC} {u6 : IaC} {u7 : IaC} {post : Int32 → (MoC × IaC) → Prop} {A : Nat → Prop} (E : EN p s m args meth c G R_Mo cc_Mo_inParameters 4 (some .int) BG) (hR : va_P G.1 vwCl [(a0_2, .inl (G.2.1 1, iaN u4, .inl (iaF u4))), (a0_7, .inl (G.2.1 1, iaN u5, .inl (iaF u5))), (a0_8, .inl (G.2.1 1, iaN u6, .inl (iaF u6))), (a0_11, .inl (G.2.1 1, iaN u7, .inl (iaF u7)))] s.heap) (hA : ∀ q : Nat, s.heap.size ≤ q → A q) (hAB : ∀ q : Nat, A q → G.2.2.1 ≤ q) (hRn : ∀ (j : Nat) (q : Nat × va_E), ([(a0_2, .inl (G.2.1 1, iaN u4, .inl (iaF u4))), (a0_7, .inl (G.2.1 1, iaN u5, .inl (iaF u5))), (a0_8, .inl (G.2.1 1, iaN u6, .inl (iaF u6))), (a0_11, .inl (G.2.1 1, iaN u7, .inl (iaF u7)))] : va_W)[j]? = some q → ¬ A q.1) : ∀ (y2 : Int32) (y3 : Int32) (w0 : MoC) (w1 : IaC) (H : Heap) (locs : List Loc) (ls : Array Slot), w_M_inParameters_84 post u4 u5 u6 u7 y2 y3 w0 w1 → va_P G.1 vwCl [(a0_0, .inr (7, [.ref a0_1, .int (moN w0), .ref a0_2, .ref a0_3, .ref a0_4, .ref a0_5, .ref a0_6, .ref a0_7, .ref a0_8, .ref a0_9, .ref a0_10, .ref a0_11, .int (moM w0), .ref a0_12, .int (moT w0), .ref a0_13, .int (moW w0), .ref a0_14, .ref a0_15, .int (moG w0), .int (moS w0), .int (moI w0)])), (a0_12, .inl (G.2.1 1, iaN w1, .inl (iaF w1)))] H → va_D A [(a0_0, .inr (7, [.ref a0_1, .int (moN w0), .ref a0_2, .ref a0_3, .ref a0_4, .ref a0_5, .ref a0_6, .ref a0_7, .ref a0_8, .ref a0_9, .ref a0_10, .ref a0_11, .int (moM w0), .ref a0_12, .int (moT w0), .ref a0_13, .int (moW w0), .ref a0_14, .ref a0_15, .int (moG w0), .int (moS w0), .int (moI w0)])), (a0_12, .inl (G.2.1 1, iaN w1, .inl (iaF w1)))] → va_S A s.heap H locs → lv_has ls 4 [(0, .ref a0_0), (2, .int y2), (3, .int y3)] → W p l e rm_M_inParameters s m args below meth c H locs 0 0 (MQ below (va_Qi post (fun (u : MoC × IaC) (t : State) => va_P G.1 vwCl [(a0_0, .inr (7, [.ref a0_1, .int (moN u.1), .ref a0_2, .ref a0_3, .ref a0_4, .ref a0_5, .ref a0_6, .ref a0_7, .ref a0_8, .ref a0_9, .ref a0_10, .ref a0_11, .int (moM u.1), .ref a0_12, .int (moT u.1), .ref a0_13, .int (moW u.1), .ref a0_14, .ref a0_15, .int (moG u.1), .int (moS u.1), .int (moI u.1)])), (a0_12, .inl (G.2.1 1, iaN u.2, .inl (iaF u.2)))] t.heap) A) args s 0 0 A) (F0 m 84 ls []) := by
  obtain ⟨hx, hb, hr, hts, hown, hlocks, hml, hC⟩ := id E
  have hK := hC.1
  intro y2 y3 w0 w1  H locs ls h hP hD hS hl
  unfold w_M_inParameters_84 at h
  refine lv_iload_n hx hb d_Mo_inParameters_84 rfl (lv_at hl 1 rfl) ?_
  refine lv_bipush (v := 16) hx hb d_Mo_inParameters_85 (by decide) ?_
  refine lv_icmp_ne (tgt := 117) hx hb d_Mo_inParameters_87 (by decide) (fun c9 => ?_) (fun c9 => ?_)
  · have h := h.1 c9
    exact t_M_inParameters_117 E hR hA hAB hRn  _ _ _ _ _ _ h hP hD hS (lv_sub hl [0, 2] rfl)
  · have h := h.2 c9
    refine lv_iload_n hx hb d_Mo_inParameters_90 rfl (lv_at hl 2 rfl) ?_
    refine lv_bipush (v := 76) hx hb d_Mo_inParameters_91 (by decide) ?_
    refine lv_icmp_eq (tgt := 108) hx hb d_Mo_inParameters_93 (by decide) (fun c9 => ?_) (fun c9 => ?_)
    · have h := h.1 c9
      exact t_M_inParameters_108 E hR hA hAB hRn  _ _ _ _ _ _ h hP hD hS (lv_sub hl [0, 2] rfl)
    · have h := h.2 c9
      refine lv_iload_n hx hb d_Mo_inParameters_96 rfl (lv_at hl 2 rfl) ?_
      refine lv_bipush (v := 84) hx hb d_Mo_inParameters_97 (by decide) ?_
      refine lv_icmp_eq (tgt := 108) hx hb d_Mo_inParameters_99 (by decide) (fun c9 => ?_) (fun c9 => ?_)
      · have h := h.1 c9
        exact t_M_inParameters_108 E hR hA hAB hRn  _ _ _ _ _ _ h hP hD hS (lv_sub hl [0, 2] rfl)
      · have h := h.2 c9
        refine lv_iload_n hx hb d_Mo_inParameters_102 rfl (lv_at hl 2 rfl) ?_
        refine lv_bipush (v := 91) hx hb d_Mo_inParameters_103 (by decide) ?_
        refine lv_icmp_ne (tgt := 117) hx hb d_Mo_inParameters_105 (by decide) (fun c9 => ?_) (fun c9 => ?_)
        · have h := h.1 c9
          exact t_M_inParameters_117 E hR hA hAB hRn  _ _ _ _ _ _ h hP hD hS (lv_sub hl [0, 2] rfl)
        · have h := h.2 c9
          exact t_M_inParameters_108 E hR hA hAB hRn  _ _ _ _ _ _ h hP hD hS (lv_sub hl [0, 2] rfl)
set_option maxHeartbeats 4000000 in
set_option maxRecDepth 100000 in
theorem t_M_inParameters_62 {p : Program} {l : Launch} {e : Env} {s : State} {m : MethodId} {args : Array Value} {below : List Frame} {meth : Method} {c : Code} {G : GX} {a0_0 a0_1 a0_2 a0_3 a0_4 a0_5 a0_6 a0_7 a0_8 a0_9 a0_10 a0_11 a0_12 a0_13 a0_14 a0_15 : Nat} {u4 : IaC} {u5 : IaC} {u6 : IaC} {u7 : IaC} {post : Int32 → (MoC × IaC) → Prop} {A : Nat → Prop} (E : EN p s m args meth c G R_Mo cc_Mo_inParameters 4 (some .int) BG) (hR : va_P G.1 vwCl [(a0_2, .inl (G.2.1 1, iaN u4, .inl (iaF u4))), (a0_7, .inl (G.2.1 1, iaN u5, .inl (iaF u5))), (a0_8, .inl (G.2.1 1, iaN u6, .inl (iaF u6))), (a0_11, .inl (G.2.1 1, iaN u7, .inl (iaF u7)))] s.heap) (hA : ∀ q : Nat, s.heap.size ≤ q → A q) (hAB : ∀ q : Nat, A q → G.2.2.1 ≤ q) (hRn : ∀ (j : Nat) (q : Nat × va_E), ([(a0_2, .inl (G.2.1 1, iaN u4, .inl (iaF u4))), (a0_7, .inl (G.2.1 1, iaN u5, .inl (iaF u5))), (a0_8, .inl (G.2.1 1, iaN u6, .inl (iaF u6))), (a0_11, .inl (G.2.1 1, iaN u7, .inl (iaF u7)))] : va_W)[j]? = some q → ¬ A q.1) : ∀ (y2 : Int32) (y3 : Int32) (w0 : MoC) (w1 : IaC) (H : Heap) (locs : List Loc) (ls : Array Slot), w_M_inParameters_62 post u4 u5 u6 u7 y2 y3 w0 w1 → va_P G.1 vwCl [(a0_0, .inr (7, [.ref a0_1, .int (moN w0), .ref a0_2, .ref a0_3, .ref a0_4, .ref a0_5, .ref a0_6, .ref a0_7, .ref a0_8, .ref a0_9, .ref a0_10, .ref a0_11, .int (moM w0), .ref a0_12, .int (moT w0), .ref a0_13, .int (moW w0), .ref a0_14, .ref a0_15, .int (moG w0), .int (moS w0), .int (moI w0)])), (a0_12, .inl (G.2.1 1, iaN w1, .inl (iaF w1)))] H → va_D A [(a0_0, .inr (7, [.ref a0_1, .int (moN w0), .ref a0_2, .ref a0_3, .ref a0_4, .ref a0_5, .ref a0_6, .ref a0_7, .ref a0_8, .ref a0_9, .ref a0_10, .ref a0_11, .int (moM w0), .ref a0_12, .int (moT w0), .ref a0_13, .int (moW w0), .ref a0_14, .ref a0_15, .int (moG w0), .int (moS w0), .int (moI w0)])), (a0_12, .inl (G.2.1 1, iaN w1, .inl (iaF w1)))] → va_S A s.heap H locs → lv_has ls 4 [(0, .ref a0_0), (2, .int y2), (3, .int y3)] → W p l e rm_M_inParameters s m args below meth c H locs 0 0 (MQ below (va_Qi post (fun (u : MoC × IaC) (t : State) => va_P G.1 vwCl [(a0_0, .inr (7, [.ref a0_1, .int (moN u.1), .ref a0_2, .ref a0_3, .ref a0_4, .ref a0_5, .ref a0_6, .ref a0_7, .ref a0_8, .ref a0_9, .ref a0_10, .ref a0_11, .int (moM u.1), .ref a0_12, .int (moT u.1), .ref a0_13, .int (moW u.1), .ref a0_14, .ref a0_15, .int (moG u.1), .int (moS u.1), .int (moI u.1)])), (a0_12, .inl (G.2.1 1, iaN u.2, .inl (iaF u.2)))] t.heap) A) args s 0 0 A) (F0 m 62 ls []) := by
  obtain ⟨hx, hb, hr, hts, hown, hlocks, hml, hC⟩ := id E
  have hK := hC.1
  intro y2 y3 w0 w1  H locs ls h hP hD hS hl
  unfold w_M_inParameters_62 at h
  refine lv_iload_n hx hb d_Mo_inParameters_62 rfl (lv_at hl 1 rfl) ?_
  refine lv_bipush (v := 15) hx hb d_Mo_inParameters_63 (by decide) ?_
  refine lv_icmp_le (tgt := 84) hx hb d_Mo_inParameters_65 (by decide) (fun c9 => ?_) (fun c9 => ?_)
  · have h := h.1 c9
    exact t_M_inParameters_84 E hR hA hAB hRn  _ _ _ _ _ _ _ h hP hD hS (lv_sub hl [0, 1, 2] rfl)
  · have h := h.2 c9
    refine lv_iload_n hx hb d_Mo_inParameters_68 rfl (lv_at hl 2 rfl) ?_
    refine lv_bipush (v := 58) hx hb d_Mo_inParameters_69 (by decide) ?_
    refine lv_icmp_ne (tgt := 84) hx hb d_Mo_inParameters_71 (by decide) (fun c9 => ?_) (fun c9 => ?_)
    · have h := h.1 c9
      exact t_M_inParameters_84 E hR hA hAB hRn  _ _ _ _ _ _ _ h hP hD hS (lv_sub hl [0, 1, 2] rfl)
    · have h := h.2 c9
      refine lv_aload_n hx hb d_Mo_inParameters_74 rfl (lv_at hl 0 rfl) ?_
      refine lv_bipush (v := 17) hx hb d_Mo_inParameters_75 (by decide) ?_
      refine lv_iconst (v := 2) hx hb d_Mo_inParameters_77 (by decide) ?_
      refine lv_bipush (v := 19) hx hb d_Mo_inParameters_78 (by decide) ?_
      have hRc : va_P G.1 vwCl [] H := vaP_nil
      have hPc := hP.sub (ws' := [(a0_0, .inr (7, [.ref a0_1, .int (moN w0), .ref a0_2, .ref a0_3, .ref a0_4, .ref a0_5, .ref a0_6, .ref a0_7, .ref a0_8, .ref a0_9, .ref a0_10, .ref a0_11, .int (moM w0), .ref a0_12, .int (moT w0), .ref a0_13, .int (moW w0), .ref a0_14, .ref a0_15, .int (moG w0), .int (moS w0), .int (moI w0)])), (a0_12, .inl (G.2.1 1, iaN w1, .inl (iaF w1)))]) [0, 1] rfl
      have hDc := hD.sub (ws' := [(a0_0, .inr (7, [.ref a0_1, .int (moN w0), .ref a0_2, .ref a0_3, .ref a0_4, .ref a0_5, .ref a0_6, .ref a0_7, .ref a0_8, .ref a0_9, .ref a0_10, .ref a0_11, .int (moM w0), .ref a0_12, .int (moT w0), .ref a0_13, .int (moW w0), .ref a0_14, .ref a0_15, .int (moG w0), .int (moS w0), .int (moI w0)])), (a0_12, .inl (G.2.1 1, iaN w1, .inl (iaF w1)))]) [0, 1] (by decide) rfl
      have hFc := va_free (wc := [(a0_0, .inr (7, [.ref a0_1, .int (moN w0), .ref a0_2, .ref a0_3, .ref a0_4, .ref a0_5, .ref a0_6, .ref a0_7, .ref a0_8, .ref a0_9, .ref a0_10, .ref a0_11, .int (moM w0), .ref a0_12, .int (moT w0), .ref a0_13, .int (moW w0), .ref a0_14, .ref a0_15, .int (moG w0), .int (moS w0), .int (moI w0)])), (a0_12, .inl (G.2.1 1, iaN w1, .inl (iaF w1)))]) hD hS hA [0, 1] rfl
      have hQc : mw_ap [(a0_0, .inr (7, [.ref a0_1, .int (moN w0), .ref a0_2, .ref a0_3, .ref a0_4, .ref a0_5, .ref a0_6, .ref a0_7, .ref a0_8, .ref a0_9, .ref a0_10, .ref a0_11, .int (moM w0), .ref a0_12, .int (moT w0), .ref a0_13, .int (moW w0), .ref a0_14, .ref a0_15, .int (moG w0), .int (moS w0), .int (moI w0)])), (a0_12, .inl (G.2.1 1, iaN w1, .inl (iaF w1)))] [] := mw_ap_nil
      refine va_calli (va_runV (As := [.int 17, .int 2, .int 19]) (rest := []) ⟨hx, hb, hml, hown, hts⟩ (c_M_push l G a0_0 a0_1 a0_2 a0_3 a0_4 a0_5 a0_6 a0_7 a0_8 a0_9 a0_10 a0_11 a0_12 a0_13 a0_14 a0_15 w0 w1 17 2 19 H.size _ h) (cwV 3 hts (gwV b_437 b_438 b_439 b_427 b_436) rfl rfl rfl hd_Mo_push ⟨Nat.le_of_ble_eq_true rfl, Nat.le_of_ble_eq_true rfl⟩) ⟨mW_blind, va_recv hK hPc (ci := 7) (q0 := 0) rfl rfl, fun U hU hW => ⟨rfl, hC.to hW hU hS hAB, by rw [hU], by rw [hU]; exact hPc, hDc.weaken (fun _ _ _ => hAB _), by rw [hU]; exact hRc, hQc⟩⟩ rfl rfl hl.1 rfl (lv_room (Nat.le_of_ble_eq_true rfl)) d_Mo_inParameters_80 ⟨Nat.le_of_ble_eq_true rfl, Nat.le_of_ble_eq_true rfl⟩) hS (fun q _ h => hFc q h) hFc (fun r20 v19 t H1 locs ht hvm h hB hz1 hk1 hS => ?_)
      rw [ht] at hB
      have hj9 := mw_join (wr := []) (w1 := [(a0_0, .inr (7, [.ref a0_1, .int (moN v19.1), .ref a0_2, .ref a0_3, .ref a0_4, .ref a0_5, .ref a0_6, .ref a0_7, .ref a0_8, .ref a0_9, .ref a0_10, .ref a0_11, .int (moM v19.1), .ref a0_12, .int (moT v19.1), .ref a0_13, .int (moW v19.1), .ref a0_14, .ref a0_15, .int (moG v19.1), .int (moS v19.1), .int (moI v19.1)])), (a0_12, .inl (G.2.1 1, iaN v19.2, .inl (iaF v19.2)))]) hP hD [0, 1] [] rfl rfl (by decide) (by decide) (by decide) hk1 hFc hB rfl
      have hP : va_P G.1 vwCl [(a0_0, .inr (7, [.ref a0_1, .int (moN v19.1), .ref a0_2, .ref a0_3, .ref a0_4, .ref a0_5, .ref a0_6, .ref a0_7, .ref a0_8, .ref a0_9, .ref a0_10, .ref a0_11, .int (moM v19.1), .ref a0_12, .int (moT v19.1), .ref a0_13, .int (moW v19.1), .ref a0_14, .ref a0_15, .int (moG v19.1), .int (moS v19.1), .int (moI v19.1)])), (a0_12, .inl (G.2.1 1, iaN v19.2, .inl (iaF v19.2)))] H1 := hj9.1
      have hD : va_D A [(a0_0, .inr (7, [.ref a0_1, .int (moN v19.1), .ref a0_2, .ref a0_3, .ref a0_4, .ref a0_5, .ref a0_6, .ref a0_7, .ref a0_8, .ref a0_9, .ref a0_10, .ref a0_11, .int (moM v19.1), .ref a0_12, .int (moT v19.1), .ref a0_13, .int (moW v19.1), .ref a0_14, .ref a0_15, .int (moG v19.1), .int (moS v19.1), .int (moI v19.1)])), (a0_12, .inl (G.2.1 1, iaN v19.2, .inl (iaF v19.2)))] := hj9.2
      generalize H1 = H at hP hS ⊢
      exact W.iret hx hb hr (fun t ht hW => ⟨⟨_, _, rfl, h, vaP_at ht hP⟩, hS.F ht⟩) hS.2.2 d_Mo_inParameters_83
set_option maxHeartbeats 4000000 in
set_option maxRecDepth 100000 in
theorem t_M_inParameters_in {p : Program} {l : Launch} {e : Env} {s : State} {m : MethodId} {args : Array Value} {below : List Frame} {meth : Method} {c : Code} {G : GX} {a0_0 a0_1 a0_2 a0_3 a0_4 a0_5 a0_6 a0_7 a0_8 a0_9 a0_10 a0_11 a0_12 a0_13 a0_14 a0_15 : Nat} {u4 : IaC} {u5 : IaC} {u6 : IaC} {u7 : IaC} {post : Int32 → (MoC × IaC) → Prop} {A : Nat → Prop} {u0 : MoC} {u8 : IaC} {x1 : Int32} {x2 : Int32} {x3 : Int32} (E : EN p s m args meth c G R_Mo cc_Mo_inParameters 4 (some .int) BG) (hR : va_P G.1 vwCl [(a0_2, .inl (G.2.1 1, iaN u4, .inl (iaF u4))), (a0_7, .inl (G.2.1 1, iaN u5, .inl (iaF u5))), (a0_8, .inl (G.2.1 1, iaN u6, .inl (iaF u6))), (a0_11, .inl (G.2.1 1, iaN u7, .inl (iaF u7)))] s.heap) (hA : ∀ q : Nat, s.heap.size ≤ q → A q) (hAB : ∀ q : Nat, A q → G.2.2.1 ≤ q) (hRn : ∀ (j : Nat) (q : Nat × va_E), ([(a0_2, .inl (G.2.1 1, iaN u4, .inl (iaF u4))), (a0_7, .inl (G.2.1 1, iaN u5, .inl (iaF u5))), (a0_8, .inl (G.2.1 1, iaN u6, .inl (iaF u6))), (a0_11, .inl (G.2.1 1, iaN u7, .inl (iaF u7)))] : va_W)[j]? = some q → ¬ A q.1) : ∀ (H : Heap) (locs : List Loc) (ls : Array Slot), wp_M_inParameters post u0 u4 u5 u6 u7 u8 x1 x2 x3 → va_P G.1 vwCl [(a0_0, .inr (7, [.ref a0_1, .int (moN u0), .ref a0_2, .ref a0_3, .ref a0_4, .ref a0_5, .ref a0_6, .ref a0_7, .ref a0_8, .ref a0_9, .ref a0_10, .ref a0_11, .int (moM u0), .ref a0_12, .int (moT u0), .ref a0_13, .int (moW u0), .ref a0_14, .ref a0_15, .int (moG u0), .int (moS u0), .int (moI u0)])), (a0_12, .inl (G.2.1 1, iaN u8, .inl (iaF u8)))] H → va_D A [(a0_0, .inr (7, [.ref a0_1, .int (moN u0), .ref a0_2, .ref a0_3, .ref a0_4, .ref a0_5, .ref a0_6, .ref a0_7, .ref a0_8, .ref a0_9, .ref a0_10, .ref a0_11, .int (moM u0), .ref a0_12, .int (moT u0), .ref a0_13, .int (moW u0), .ref a0_14, .ref a0_15, .int (moG u0), .int (moS u0), .int (moI u0)])), (a0_12, .inl (G.2.1 1, iaN u8, .inl (iaF u8)))] → va_S A s.heap H locs → lv_has ls 4 [(0, .ref a0_0), (1, .int x1), (2, .int x2), (3, .int x3)] → W p l e rm_M_inParameters s m args below meth c H locs 0 0 (MQ below (va_Qi post (fun (u : MoC × IaC) (t : State) => va_P G.1 vwCl [(a0_0, .inr (7, [.ref a0_1, .int (moN u.1), .ref a0_2, .ref a0_3, .ref a0_4, .ref a0_5, .ref a0_6, .ref a0_7, .ref a0_8, .ref a0_9, .ref a0_10, .ref a0_11, .int (moM u.1), .ref a0_12, .int (moT u.1), .ref a0_13, .int (moW u.1), .ref a0_14, .ref a0_15, .int (moG u.1), .int (moS u.1), .int (moI u.1)])), (a0_12, .inl (G.2.1 1, iaN u.2, .inl (iaF u.2)))] t.heap) A) args s 0 0 A) (F0 m 0 ls []) := by
  obtain ⟨hx, hb, hr, hts, hown, hlocks, hml, hC⟩ := id E
  have hK := hC.1
  intro H locs ls h hP hD hS hl
  unfold wp_M_inParameters at h
  refine lv_iload_n hx hb d_Mo_inParameters_0 rfl (lv_at hl 2 rfl) ?_
  refine lv_bipush (v := 15) hx hb d_Mo_inParameters_1 (by decide) ?_
  refine lv_icmp_ne (tgt := 43) hx hb d_Mo_inParameters_3 (by decide) (fun c9 => ?_) (fun c9 => ?_)
  · have h := h.1 c9
    refine lv_iload_n hx hb d_Mo_inParameters_43 rfl (lv_at hl 2 rfl) ?_
    refine lv_bipush (v := 15) hx hb d_Mo_inParameters_44 (by decide) ?_
    refine lv_icmp_le (tgt := 62) hx hb d_Mo_inParameters_46 (by decide) (fun c9 => ?_) (fun c9 => ?_)
    · have h := h.1 c9
      exact t_M_inParameters_62 E hR hA hAB hRn  _ _ _ _ _ _ _ h hP hD hS (lv_sub hl [0, 2, 3] rfl)
    · have h := h.2 c9
      refine lv_iload_n hx hb d_Mo_inParameters_49 rfl (lv_at hl 3 rfl) ?_
      refine lv_bipush (v := 62) hx hb d_Mo_inParameters_50 (by decide) ?_
      refine lv_icmp_ne (tgt := 62) hx hb d_Mo_inParameters_52 (by decide) (fun c9 => ?_) (fun c9 => ?_)
      · have h := h.1 c9
        exact t_M_inParameters_62 E hR hA hAB hRn  _ _ _ _ _ _ _ h hP hD hS (lv_sub hl [0, 2, 3] rfl)
      · have h := h.2 c9
        refine lv_aload_n hx hb d_Mo_inParameters_55 rfl (lv_at hl 0 rfl) ?_
        refine lv_bipush (v := 20) hx hb d_Mo_inParameters_56 (by decide) ?_
        have hRc : va_P G.1 vwCl [] H := vaP_nil
        have hPc := hP.sub (ws' := [(a0_0, .inr (7, [.ref a0_1, .int (moN u0), .ref a0_2, .ref a0_3, .ref a0_4, .ref a0_5, .ref a0_6, .ref a0_7, .ref a0_8, .ref a0_9, .ref a0_10, .ref a0_11, .int (moM u0), .ref a0_12, .int (moT u0), .ref a0_13, .int (moW u0), .ref a0_14, .ref a0_15, .int (moG u0), .int (moS u0), .int (moI u0)]))]) [0] rfl
        have hDc := hD.sub (ws' := [(a0_0, .inr (7, [.ref a0_1, .int (moN u0), .ref a0_2, .ref a0_3, .ref a0_4, .ref a0_5, .ref a0_6, .ref a0_7, .ref a0_8, .ref a0_9, .ref a0_10, .ref a0_11, .int (moM u0), .ref a0_12, .int (moT u0), .ref a0_13, .int (moW u0), .ref a0_14, .ref a0_15, .int (moG u0), .int (moS u0), .int (moI u0)]))]) [0] (by decide) rfl
        have hFc := va_free (wc := [(a0_0, .inr (7, [.ref a0_1, .int (moN u0), .ref a0_2, .ref a0_3, .ref a0_4, .ref a0_5, .ref a0_6, .ref a0_7, .ref a0_8, .ref a0_9, .ref a0_10, .ref a0_11, .int (moM u0), .ref a0_12, .int (moT u0), .ref a0_13, .int (moW u0), .ref a0_14, .ref a0_15, .int (moG u0), .int (moS u0), .int (moI u0)]))]) hD hS hA [0] rfl
        have hQc : mw_ap [(a0_0, .inr (7, [.ref a0_1, .int (moN u0), .ref a0_2, .ref a0_3, .ref a0_4, .ref a0_5, .ref a0_6, .ref a0_7, .ref a0_8, .ref a0_9, .ref a0_10, .ref a0_11, .int (moM u0), .ref a0_12, .int (moT u0), .ref a0_13, .int (moW u0), .ref a0_14, .ref a0_15, .int (moG u0), .int (moS u0), .int (moI u0)]))] [] := mw_ap_nil
        refine va_calli (va_runV (As := [.int 20]) (rest := []) ⟨hx, hb, hml, hown, hts⟩ (c_M_pop l G a0_0 a0_1 a0_2 a0_3 a0_4 a0_5 a0_6 a0_7 a0_8 a0_9 a0_10 a0_11 a0_12 a0_13 a0_14 a0_15 u0 20 H.size _ h) (cwV 1 hts (gwV b_429 b_430 b_431 b_427 b_428) rfl rfl rfl hd_Mo_pop ⟨Nat.le_of_ble_eq_true rfl, Nat.le_of_ble_eq_true rfl⟩) ⟨mW_blind, va_recv hK hPc (ci := 7) (q0 := 0) rfl rfl, fun U hU hW => ⟨rfl, hC.to hW hU hS hAB, by rw [hU], by rw [hU]; exact hPc, hDc.weaken (fun _ _ _ => hAB _), by rw [hU]; exact hRc, hQc⟩⟩ rfl rfl hl.1 rfl (lv_room (Nat.le_of_ble_eq_true rfl)) d_Mo_inParameters_58 ⟨Nat.le_of_ble_eq_true rfl, Nat.le_of_ble_eq_true rfl⟩) hS (fun q _ h => hFc q h) hFc (fun r22 v21 t H1 locs ht hvm h hB hz1 hk1 hS => ?_)
        rw [ht] at hB
        have hj9 := mw_join (wr := [(a0_12, .inl (G.2.1 1, iaN u8, .inl (iaF u8)))]) (w1 := [(a0_0, .inr (7, [.ref a0_1, .int (moN v21), .ref a0_2, .ref a0_3, .ref a0_4, .ref a0_5, .ref a0_6, .ref a0_7, .ref a0_8, .ref a0_9, .ref a0_10, .ref a0_11, .int (moM v21), .ref a0_12, .int (moT v21), .ref a0_13, .int (moW v21), .ref a0_14, .ref a0_15, .int (moG v21), .int (moS v21), .int (moI v21)]))]) hP hD [0] [1] rfl rfl (by decide) (by decide) (by decide) hk1 hFc hB rfl
        have hP : va_P G.1 vwCl [(a0_12, .inl (G.2.1 1, iaN u8, .inl (iaF u8))), (a0_0, .inr (7, [.ref a0_1, .int (moN v21), .ref a0_2, .ref a0_3, .ref a0_4, .ref a0_5, .ref a0_6, .ref a0_7, .ref a0_8, .ref a0_9, .ref a0_10, .ref a0_11, .int (moM v21), .ref a0_12, .int (moT v21), .ref a0_13, .int (moW v21), .ref a0_14, .ref a0_15, .int (moG v21), .int (moS v21), .int (moI v21)]))] H1 := hj9.1
        have hD : va_D A [(a0_12, .inl (G.2.1 1, iaN u8, .inl (iaF u8))), (a0_0, .inr (7, [.ref a0_1, .int (moN v21), .ref a0_2, .ref a0_3, .ref a0_4, .ref a0_5, .ref a0_6, .ref a0_7, .ref a0_8, .ref a0_9, .ref a0_10, .ref a0_11, .int (moM v21), .ref a0_12, .int (moT v21), .ref a0_13, .int (moW v21), .ref a0_14, .ref a0_15, .int (moG v21), .int (moS v21), .int (moI v21)]))] := hj9.2
        generalize H1 = H at hP hS ⊢
        have hP := hP.sub (ws' := [(a0_0, .inr (7, [.ref a0_1, .int (moN v21), .ref a0_2, .ref a0_3, .ref a0_4, .ref a0_5, .ref a0_6, .ref a0_7, .ref a0_8, .ref a0_9, .ref a0_10, .ref a0_11, .int (moM v21), .ref a0_12, .int (moT v21), .ref a0_13, .int (moW v21), .ref a0_14, .ref a0_15, .int (moG v21), .int (moS v21), .int (moI v21)])), (a0_12, .inl (G.2.1 1, iaN u8, .inl (iaF u8)))]) [1, 0] rfl
        exact W.iret hx hb hr (fun t ht hW => ⟨⟨_, _, rfl, h, vaP_at ht hP⟩, hS.F ht⟩) hS.2.2 d_Mo_inParameters_61
  · have h := h.2 c9
    refine lv_iload_n hx hb d_Mo_inParameters_6 rfl (lv_at hl 3 rfl) ?_
    have hRc : va_P G.1 vwCl [] H := vaP_nil
    refine vp_callSi (va_runS (As := [.int x3]) (rest := []) ⟨hx, hb, hml, hown, hts⟩ (c_M_name l G x3 _ h) (va_cwS 1 hts (gwS b_449 b_450 b_427 b_448) rfl rfl rfl hd_Mo_name.2 ⟨Nat.le_of_ble_eq_true rfl, Nat.le_of_ble_eq_true rfl⟩) ⟨mP_blind, fun U hU hW => ⟨rfl, hC.to hW hU hS hAB, by rw [hU]; exact hRc⟩⟩ rfl rfl hl.1 rfl (lv_room (Nat.le_of_ble_eq_true rfl)) d_Mo_inParameters_7 ⟨Nat.le_of_ble_eq_true rfl, Nat.le_of_ble_eq_true rfl⟩).run (fun r23 h => ?_)
    refine lv_if_eq (tgt := 16) hx hb d_Mo_inParameters_10 (by decide) (fun c9 => ?_) (fun c9 => ?_)
    · have h := h.1 c9
      refine lv_iload_n hx hb d_Mo_inParameters_16 rfl (lv_at hl 3 rfl) ?_
      refine lv_bipush (v := 58) hx hb d_Mo_inParameters_17 (by decide) ?_
      refine lv_icmp_ne (tgt := 41) hx hb d_Mo_inParameters_19 (by decide) (fun c9 => ?_) (fun c9 => ?_)
      · have h := h.1 c9
        refine lv_iconst (v := 0) hx hb d_Mo_inParameters_41 (by decide) ?_
        exact W.iret hx hb hr (fun t ht hW => ⟨⟨_, _, rfl, h, vaP_at ht hP⟩, hS.F ht⟩) hS.2.2 d_Mo_inParameters_42
      · have h := h.2 c9
        refine lv_aload_n hx hb d_Mo_inParameters_22 rfl (lv_at hl 0 rfl) ?_
        refine lv_iload_n hx hb d_Mo_inParameters_23 rfl (lv_at hl 1 rfl) ?_
        have hRc : va_P G.1 vwCl [(a0_0, .inr (7, [.ref a0_1, .int (moN u0), .ref a0_2, .ref a0_3, .ref a0_4, .ref a0_5, .ref a0_6, .ref a0_7, .ref a0_8, .ref a0_9, .ref a0_10, .ref a0_11, .int (moM u0), .ref a0_12, .int (moT u0), .ref a0_13, .int (moW u0), .ref a0_14, .ref a0_15, .int (moG u0), .int (moS u0), .int (moI u0)])), (a0_2, .inl (G.2.1 1, iaN u4, .inl (iaF u4))), (a0_7, .inl (G.2.1 1, iaN u5, .inl (iaF u5))), (a0_8, .inl (G.2.1 1, iaN u6, .inl (iaF u6))), (a0_11, .inl (G.2.1 1, iaN u7, .inl (iaF u7)))] H := ((hP.sub (ws' := [(a0_0, .inr (7, [.ref a0_1, .int (moN u0), .ref a0_2, .ref a0_3, .ref a0_4, .ref a0_5, .ref a0_6, .ref a0_7, .ref a0_8, .ref a0_9, .ref a0_10, .ref a0_11, .int (moM u0), .ref a0_12, .int (moT u0), .ref a0_13, .int (moW u0), .ref a0_14, .ref a0_15, .int (moG u0), .int (moS u0), .int (moI u0)]))]) [0] rfl).app ((ro_now hR hRn hS).sub (ws' := [(a0_2, .inl (G.2.1 1, iaN u4, .inl (iaF u4))), (a0_7, .inl (G.2.1 1, iaN u5, .inl (iaF u5))), (a0_8, .inl (G.2.1 1, iaN u6, .inl (iaF u6))), (a0_11, .inl (G.2.1 1, iaN u7, .inl (iaF u7)))]) [0, 1, 2, 3] rfl))
        refine vp_callSi (va_runV (As := [.int x1]) (rest := []) ⟨hx, hb, hml, hown, hts⟩ (c_M_twice l G a0_0 a0_1 a0_2 a0_3 a0_4 a0_5 a0_6 a0_7 a0_8 a0_9 a0_10 a0_11 a0_12 a0_13 a0_14 a0_15 u0 u4 u5 u6 u7 x1 _ h) (cwV 1 hts (gwV b_463 b_464 b_465 b_427 b_462) rfl rfl rfl hd_Mo_twice ⟨Nat.le_of_ble_eq_true rfl, Nat.le_of_ble_eq_true rfl⟩) ⟨mP_blind, va_recv hK hRc (ci := 7) (q0 := 0) rfl rfl, fun U hU hW => ⟨rfl, hC.to hW hU hS hAB, by rw [hU]; exact hRc⟩⟩ rfl rfl hl.1 rfl (lv_room (Nat.le_of_ble_eq_true rfl)) d_Mo_inParameters_24 ⟨Nat.le_of_ble_eq_true rfl, Nat.le_of_ble_eq_true rfl⟩).run (fun r24 h => ?_)
        refine lv_if_ne (tgt := 41) hx hb d_Mo_inParameters_27 (by decide) (fun c9 => ?_) (fun c9 => ?_)
        · have h := h.1 c9
          refine lv_iconst (v := 0) hx hb d_Mo_inParameters_41 (by decide) ?_
          exact W.iret hx hb hr (fun t ht hW => ⟨⟨_, _, rfl, h, vaP_at ht hP⟩, hS.F ht⟩) hS.2.2 d_Mo_inParameters_42
        · have h := h.2 c9
          refine lv_aload_n hx hb d_Mo_inParameters_30 rfl (lv_at hl 0 rfl) ?_
          refine lv_bipush (v := 16) hx hb d_Mo_inParameters_31 (by decide) ?_
          refine lv_bipush (v := 18) hx hb d_Mo_inParameters_33 (by decide) ?_
          have hRc : va_P G.1 vwCl [(a0_0, .inr (7, [.ref a0_1, .int (moN u0), .ref a0_2, .ref a0_3, .ref a0_4, .ref a0_5, .ref a0_6, .ref a0_7, .ref a0_8, .ref a0_9, .ref a0_10, .ref a0_11, .int (moM u0), .ref a0_12, .int (moT u0), .ref a0_13, .int (moW u0), .ref a0_14, .ref a0_15, .int (moG u0), .int (moS u0), .int (moI u0)]))] H := (hP.sub (ws' := [(a0_0, .inr (7, [.ref a0_1, .int (moN u0), .ref a0_2, .ref a0_3, .ref a0_4, .ref a0_5, .ref a0_6, .ref a0_7, .ref a0_8, .ref a0_9, .ref a0_10, .ref a0_11, .int (moM u0), .ref a0_12, .int (moT u0), .ref a0_13, .int (moW u0), .ref a0_14, .ref a0_15, .int (moG u0), .int (moS u0), .int (moI u0)]))]) [0] rfl)
          have hPc := hP.sub (ws' := [(a0_12, .inl (G.2.1 1, iaN u8, .inl (iaF u8)))]) [1] rfl
          have hDc := hD.sub (ws' := [(a0_12, .inl (G.2.1 1, iaN u8, .inl (iaF u8)))]) [1] (by decide) rfl
          have hFc := va_free (wc := [(a0_12, .inl (G.2.1 1, iaN u8, .inl (iaF u8)))]) hD hS hA [1] rfl
          have hQc : mw_ap [(a0_12, .inl (G.2.1 1, iaN u8, .inl (iaF u8)))] [(a0_0, .inr (7, [.ref a0_1, .int (moN u0), .ref a0_2, .ref a0_3, .ref a0_4, .ref a0_5, .ref a0_6, .ref a0_7, .ref a0_8, .ref a0_9, .ref a0_10, .ref a0_11, .int (moM u0), .ref a0_12, .int (moT u0), .ref a0_13, .int (moW u0), .ref a0_14, .ref a0_15, .int (moG u0), .int (moS u0), .int (moI u0)]))] := (mw_ap_D (wc := [(a0_12, .inl (G.2.1 1, iaN u8, .inl (iaF u8)))]) (wr := [(a0_0, .inr (7, [.ref a0_1, .int (moN u0), .ref a0_2, .ref a0_3, .ref a0_4, .ref a0_5, .ref a0_6, .ref a0_7, .ref a0_8, .ref a0_9, .ref a0_10, .ref a0_11, .int (moM u0), .ref a0_12, .int (moT u0), .ref a0_13, .int (moW u0), .ref a0_14, .ref a0_15, .int (moG u0), .int (moS u0), .int (moI u0)]))]) hD [1] [0] rfl rfl (by decide))
          refine va_calli (va_runV (As := [.int 16, .int 18]) (rest := []) ⟨hx, hb, hml, hown, hts⟩ (c_M_go l G a0_0 a0_1 a0_2 a0_3 a0_4 a0_5 a0_6 a0_7 a0_8 a0_9 a0_10 a0_11 a0_12 a0_13 a0_14 a0_15 u0 u8 16 18 H.size _ h) (cwV 2 hts (gwV b_433 b_434 b_435 b_427 b_432) rfl rfl rfl hd_Mo_go ⟨Nat.le_of_ble_eq_true rfl, Nat.le_of_ble_eq_true rfl⟩) ⟨mW_blind, va_recv hK hRc (ci := 7) (q0 := 0) rfl rfl, fun U hU hW => ⟨rfl, hC.to hW hU hS hAB, by rw [hU], by rw [hU]; exact hPc, hDc.weaken (fun _ _ _ => hAB _), by rw [hU]; exact hRc, hQc⟩⟩ rfl rfl hl.1 rfl (lv_room (Nat.le_of_ble_eq_true rfl)) d_Mo_inParameters_35 ⟨Nat.le_of_ble_eq_true rfl, Nat.le_of_ble_eq_true rfl⟩) hS (fun q _ h => hFc q h) hFc (fun r26 v25 t H1 locs ht hvm h hB hz1 hk1 hS => ?_)
          rw [ht] at hB
          have hj9 := mw_join (wr := [(a0_0, .inr (7, [.ref a0_1, .int (moN u0), .ref a0_2, .ref a0_3, .ref a0_4, .ref a0_5, .ref a0_6, .ref a0_7, .ref a0_8, .ref a0_9, .ref a0_10, .ref a0_11, .int (moM u0), .ref a0_12, .int (moT u0), .ref a0_13, .int (moW u0), .ref a0_14, .ref a0_15, .int (moG u0), .int (moS u0), .int (moI u0)]))]) (w1 := [(a0_12, .inl (G.2.1 1, iaN v25, .inl (iaF v25)))]) hP hD [1] [0] rfl rfl (by decide) (by decide) (by decide) hk1 hFc hB rfl
          have hP : va_P G.1 vwCl [(a0_0, .inr (7, [.ref a0_1, .int (moN u0), .ref a0_2, .ref a0_3, .ref a0_4, .ref a0_5, .ref a0_6, .ref a0_7, .ref a0_8, .ref a0_9, .ref a0_10, .ref a0_11, .int (moM u0), .ref a0_12, .int (moT u0), .ref a0_13, .int (moW u0), .ref a0_14, .ref a0_15, .int (moG u0), .int (moS u0), .int (moI u0)])), (a0_12, .inl (G.2.1 1, iaN v25, .inl (iaF v25)))] H1 := hj9.1
          have hD : va_D A [(a0_0, .inr (7, [.ref a0_1, .int (moN u0), .ref a0_2, .ref a0_3, .ref a0_4, .ref a0_5, .ref a0_6, .ref a0_7, .ref a0_8, .ref a0_9, .ref a0_10, .ref a0_11, .int (moM u0), .ref a0_12, .int (moT u0), .ref a0_13, .int (moW u0), .ref a0_14, .ref a0_15, .int (moG u0), .int (moS u0), .int (moI u0)])), (a0_12, .inl (G.2.1 1, iaN v25, .inl (iaF v25)))] := hj9.2
          generalize H1 = H at hP hS ⊢
          refine lv_goto (tgt := 42) hx hb d_Mo_inParameters_38 (by decide) ?_
          exact W.iret hx hb hr (fun t ht hW => ⟨⟨_, _, rfl, h, vaP_at ht hP⟩, hS.F ht⟩) hS.2.2 d_Mo_inParameters_42
    · have h := h.2 c9
      refine lv_bipush (v := 17) hx hb d_Mo_inParameters_13 (by decide) ?_
      exact W.iret hx hb hr (fun t ht hW => ⟨⟨_, _, rfl, h, vaP_at ht hP⟩, hS.F ht⟩) hS.2.2 d_Mo_inParameters_15
set_option maxHeartbeats 4000000 in
set_option maxRecDepth 100000 in
theorem c_M_inParameters (l : Launch) (G : GX) (a0_0 a0_1 a0_2 a0_3 a0_4 a0_5 a0_6 a0_7 a0_8 a0_9 a0_10 a0_11 a0_12 a0_13 a0_14 a0_15 : Nat) (u0 : MoC) (u4 : IaC) (u5 : IaC) (u6 : IaC) (u7 : IaC) (u8 : IaC) (x1 : Int32) (x2 : Int32) (x3 : Int32) (sz : Nat) (post : Int32 → (MoC × IaC) → Prop) (h : wp_M_inParameters post u0 u4 u5 u6 u7 u8 x1 x2 x3) : Met l y_Mo_inParameters wc_Mo_inParameters rm_M_inParameters (mW G [.ref a0_0, .int x1, .int x2, .int x3] sz [(a0_0, .inr (7, [.ref a0_1, .int (moN u0), .ref a0_2, .ref a0_3, .ref a0_4, .ref a0_5, .ref a0_6, .ref a0_7, .ref a0_8, .ref a0_9, .ref a0_10, .ref a0_11, .int (moM u0), .ref a0_12, .int (moT u0), .ref a0_13, .int (moW u0), .ref a0_14, .ref a0_15, .int (moG u0), .int (moS u0), .int (moI u0)])), (a0_12, .inl (G.2.1 1, iaN u8, .inl (iaF u8)))] [(a0_2, .inl (G.2.1 1, iaN u4, .inl (iaF u4))), (a0_7, .inl (G.2.1 1, iaN u5, .inl (iaF u5))), (a0_8, .inl (G.2.1 1, iaN u6, .inl (iaF u6))), (a0_11, .inl (G.2.1 1, iaN u7, .inl (iaF u7)))]) (va_Qi post (fun (u : MoC × IaC) (t : State) => va_P G.1 vwCl [(a0_0, .inr (7, [.ref a0_1, .int (moN u.1), .ref a0_2, .ref a0_3, .ref a0_4, .ref a0_5, .ref a0_6, .ref a0_7, .ref a0_8, .ref a0_9, .ref a0_10, .ref a0_11, .int (moM u.1), .ref a0_12, .int (moT u.1), .ref a0_13, .int (moW u.1), .ref a0_14, .ref a0_15, .int (moG u.1), .int (moS u.1), .int (moI u.1)])), (a0_12, .inl (G.2.1 1, iaN u.2, .inl (iaF u.2)))] t.heap) (va_A [(a0_0, .inr (7, [.ref a0_1, .int (moN u0), .ref a0_2, .ref a0_3, .ref a0_4, .ref a0_5, .ref a0_6, .ref a0_7, .ref a0_8, .ref a0_9, .ref a0_10, .ref a0_11, .int (moM u0), .ref a0_12, .int (moT u0), .ref a0_13, .int (moW u0), .ref a0_14, .ref a0_15, .int (moG u0), .int (moS u0), .int (moI u0)])), (a0_12, .inl (G.2.1 1, iaN u8, .inl (iaF u8)))] sz)) 0 0 (va_A [(a0_0, .inr (7, [.ref a0_1, .int (moN u0), .ref a0_2, .ref a0_3, .ref a0_4, .ref a0_5, .ref a0_6, .ref a0_7, .ref a0_8, .ref a0_9, .ref a0_10, .ref a0_11, .int (moM u0), .ref a0_12, .int (moT u0), .ref a0_13, .int (moW u0), .ref a0_14, .ref a0_15, .int (moG u0), .int (moS u0), .int (moI u0)])), (a0_12, .inl (G.2.1 1, iaN u8, .inl (iaF u8)))] sz) := by
  refine Met.ofW (cc := cc_Mo_inParameters) (maxL := 4) (ret := (some .int)) (by decide) rfl ?_
  intro p e s m args below meth c s₁ B hml hv
  obtain ⟨rfl, hC, hsz, hP, hD0, hR, hap⟩ := hv
  have E : EN p s m ([.ref a0_0, .int x1, .int x2, .int x3] : List Value).toArray meth c G R_Mo cc_Mo_inParameters 4 (some .int) BG := ⟨B.exec, B.bytes, B.returns, fun w h => atoms_spec (ws := wc_Mo_inParameters) B.pre w (List.mem_cons_of_mem _ h), findClass_of_methodNamed B.named, B.notSynchronized, hml, hC⟩
  subst hsz
  have hD := hD0.self (sz := s.heap.size)
  have hRn := mw_notA hR hap
  have hAB := mw_AB hD0 hC
  have hA : ∀ q : Nat, s.heap.size ≤ q → va_A [(a0_0, .inr (7, [.ref a0_1, .int (moN u0), .ref a0_2, .ref a0_3, .ref a0_4, .ref a0_5, .ref a0_6, .ref a0_7, .ref a0_8, .ref a0_9, .ref a0_10, .ref a0_11, .int (moM u0), .ref a0_12, .int (moT u0), .ref a0_13, .int (moW u0), .ref a0_14, .ref a0_15, .int (moG u0), .int (moS u0), .int (moI u0)])), (a0_12, .inl (G.2.1 1, iaN u8, .inl (iaF u8)))] s.heap.size q := fun q z => Or.inr z
  generalize va_A [(a0_0, .inr (7, [.ref a0_1, .int (moN u0), .ref a0_2, .ref a0_3, .ref a0_4, .ref a0_5, .ref a0_6, .ref a0_7, .ref a0_8, .ref a0_9, .ref a0_10, .ref a0_11, .int (moM u0), .ref a0_12, .int (moT u0), .ref a0_13, .int (moW u0), .ref a0_14, .ref a0_15, .int (moG u0), .int (moS u0), .int (moI u0)])), (a0_12, .inl (G.2.1 1, iaN u8, .inl (iaF u8)))] s.heap.size = A at hD hRn hAB hA ⊢
  have hl := lv_entry ([.ref a0_0, .int x1, .int x2, .int x3]) (n := 4) (Nat.le_of_ble_eq_true rfl)
  rw [lg_entry_eq]
  generalize (lg_sl ([.ref a0_0, .int x1, .int x2, .int x3]) ++ List.replicate (4 - (lg_sl ([.ref a0_0, .int x1, .int x2, .int x3])).length) Slot.unset).toArray = ls at hl ⊢
  have hl : lv_has ls 4 [(0, .ref a0_0), (1, .int x1), (2, .int x2), (3, .int x3)] := hl
  exact t_M_inParameters_in E hR hA hAB hRn _ _ _ h hP hD va_S.rf hl
