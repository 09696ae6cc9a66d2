set_option maxHeartbeats 4000000 in
set_option maxRecDepth 100000 in
theorem t_Sk_start_in {p : Program} {l : Launch} {e : Env} {s : State} {m : MethodId} {args : Array Value} {below : List Frame} {meth : Method} {c : Code} {G : GX} {a0_0 : Nat} {post : SkC → Prop} {A : Nat → Prop} {u0 : SkC} {x1 : Int32} (E : EN p s m args meth c G R_Sk cc_Sk_start 2 none BG) (hR : va_P G.1 vwCl [] s.heap) (hA : ∀ q : Nat, s.heap.size ≤ q → A q) (hAB : ∀ q : Nat, A q → G.2.2.1 ≤ q) (hRn : ∀ (j : Nat) (q : Nat × va_E), ([] : va_W)[j]? = some q → ¬ A q.1) : ∀ (H : Heap) (locs : List Loc) (ls : Array Slot), wp_Sk_start post u0 x1 → va_P G.1 vwCl [(a0_0, .inr (3, [.int (skW u0), .int (skP u0), .int (skF u0)]))] H → va_D A [(a0_0, .inr (3, [.int (skW u0), .int (skP u0), .int (skF u0)]))] → va_S A s.heap H locs → lv_has ls 2 [(0, .ref a0_0), (1, .int x1)] → W p l e rm_Sk_start s m args below meth c H locs 0 0 (MQ below (va_Qv post (fun (u : SkC) (t : State) => va_P G.1 vwCl [(a0_0, .inr (3, [.int (skW u), .int (skP u), .int (skF u)]))] t.heap) A) args s 0 0 A) (F0 m 0 ls []) := by
  obtain ⟨hx, hb, hr, hts, hown, hlocks, hml, hC⟩ := id E
  have hK := hC.1
  intro H locs ls h hP hD hS hl
  unfold wp_Sk_start at h
  refine lv_aload_n hx hb d_Sk_start_0 rfl (lv_at hl 0 rfl) ?_
  refine lv_iload_n hx hb d_Sk_start_1 rfl (lv_at hl 1 rfl) ?_
  refine va_put (D := G.1) (ci := 3) (v := .int x1) (ty := .int) (C := R_Sk) (T := T_Sk) (N := 3) hx hb hts i_Sk ty_Sk tyok_Sk nm_Sk hown hK hP hD hS 0 rfl rfl 0 (by decide) (hts _ b_72) (fun _ h9 => h9) rfl (by decide +kernel) rfl rfl (Nat.le_of_ble_eq_true rfl) d_Sk_start_2 (fun H locs hP hD hS => ?_)
  have hP : va_P G.1 vwCl [(a0_0, .inr (3, [.int x1, .int (skP u0), .int (skF u0)]))] H := hP
  have hD : va_D A [(a0_0, .inr (3, [.int x1, .int (skP u0), .int (skF u0)]))] := hD
  refine lv_aload_n hx hb d_Sk_start_5 rfl (lv_at hl 0 rfl) ?_
  refine lv_iconst (v := 0) hx hb d_Sk_start_6 (by decide) ?_
  refine va_put (D := G.1) (ci := 3) (v := .int 0) (ty := .int) (C := R_Sk) (T := T_Sk) (N := 3) hx hb hts i_Sk ty_Sk tyok_Sk nm_Sk hown hK hP hD hS 0 rfl rfl 1 (by decide) (hts _ b_73) (fun _ h9 => h9) rfl (by decide +kernel) rfl rfl (Nat.le_of_ble_eq_true rfl) d_Sk_start_7 (fun H locs hP hD hS => ?_)
  have hP : va_P G.1 vwCl [(a0_0, .inr (3, [.int x1, .int 0, .int (skF u0)]))] H := hP
  have hD : va_D A [(a0_0, .inr (3, [.int x1, .int 0, .int (skF u0)]))] := hD
  refine lv_aload_n hx hb d_Sk_start_10 rfl (lv_at hl 0 rfl) ?_
  refine lv_iconst (v := (-1)) hx hb d_Sk_start_11 (by decide) ?_
  refine va_put (D := G.1) (ci := 3) (v := .int (-1)) (ty := .int) (C := R_Sk) (T := T_Sk) (N := 3) hx hb hts i_Sk ty_Sk tyok_Sk nm_Sk hown hK hP hD hS 0 rfl rfl 2 (by decide) (hts _ b_74) (fun _ h9 => h9) rfl (by decide +kernel) rfl rfl (Nat.le_of_ble_eq_true rfl) d_Sk_start_12 (fun H locs hP hD hS => ?_)
  have hP : va_P G.1 vwCl [(a0_0, .inr (3, [.int x1, .int 0, .int (-1)]))] H := hP
  have hD : va_D A [(a0_0, .inr (3, [.int x1, .int 0, .int (-1)]))] := hD
  exact W.vret hx hb hr (fun t ht hW => ⟨⟨_, rfl, h, vaP_at ht hP⟩, hS.F ht⟩) hS.2.2 d_Sk_start_15
set_option maxHeartbeats 4000000 in
set_option maxRecDepth 100000 in
theorem c_Sk_start (l : Launch) (G : GX) (a0_0 : Nat) (u0 : SkC) (x1 : Int32) (sz : Nat) (post : SkC → Prop) (h : wp_Sk_start post u0 x1) : Met l y_Sk_start wc_Sk_start rm_Sk_start (mW G [.ref a0_0, .int x1] sz [(a0_0, .inr (3, [.int (skW u0), .int (skP u0), .int (skF u0)]))] []) (va_Qv post (fun (u : SkC) (t : State) => va_P G.1 vwCl [(a0_0, .inr (3, [.int (skW u), .int (skP u), .int (skF u)]))] t.heap) (va_A [(a0_0, .inr (3, [.int (skW u0), .int (skP u0), .int (skF u0)]))] sz)) 0 0 (va_A [(a0_0, .inr (3, [.int (skW u0), .int (skP u0), .int (skF u0)]))] sz) := by
  refine Met.ofW (cc := cc_Sk_start) (maxL := 2) (ret := none) (by decide) rfl ?_
  intro p e s m args below meth c s₁ B hml hv
  obtain ⟨rfl, hC, hsz, hP, hD0, hR, hap⟩ := hv
  have E : EN p s m ([.ref a0_0, .int x1] : List Value).toArray meth c G R_Sk cc_Sk_start 2 none BG := ⟨B.exec, B.bytes, B.returns, fun w h => atoms_spec (ws := wc_Sk_start) B.pre w (List.mem_cons_of_mem _ h), findClass_of_methodNamed B.named, B.notSynchronized, hml, hC⟩
  subst hsz
  have hD := hD0.self (sz := s.heap.size)
  have hRn := mw_notA hR hap
  have hAB := mw_AB hD0 hC
  have hA : ∀ q : Nat, s.heap.size ≤ q → va_A [(a0_0, .inr (3, [.int (skW u0), .int (skP u0), .int (skF u0)]))] s.heap.size q := fun q z => Or.inr z
  generalize va_A [(a0_0, .inr (3, [.int (skW u0), .int (skP u0), .int (skF u0)]))] s.heap.size = A at hD hRn hAB hA ⊢
  have hl := lv_entry ([.ref a0_0, .int x1]) (n := 2) (Nat.le_of_ble_eq_true rfl)
  rw [lg_entry_eq]
  generalize (lg_sl ([.ref a0_0, .int x1]) ++ List.replicate (2 - (lg_sl ([.ref a0_0, .int x1])).length) Slot.unset).toArray = ls at hl ⊢
  have hl : lv_has ls 2 [(0, .ref a0_0), (1, .int x1)] := hl
  exact t_Sk_start_in E hR hA hAB hRn _ _ _ h hP hD va_S.rf hl
set_option maxHeartbeats 4000000 in
set_option maxRecDepth 100000 in
theorem t_Sk_pass_16 {p : Program} {l : Launch} {e : Env} {s : State} {m : MethodId} {args : Array Value} {below : List Frame} {meth : Method} {c : Code} {G : GX} {a0_0 : Nat} {post : SkC → Prop} {A : Nat → Prop} (E : EN p s m args meth c G R_Sk cc_Sk_pass 2 none BG) (hR : va_P G.1 vwCl [] s.heap) (hA : ∀ q : Nat, s.heap.size ≤ q → A q) (hAB : ∀ q : Nat, A q → G.2.2.1 ≤ q) (hRn : ∀ (j : Nat) (q : Nat × va_E), ([] : va_W)[j]? = some q → ¬ A q.1) : ∀ (w0 : SkC) (H : Heap) (locs : List Loc) (ls : Array Slot), w_Sk_pass_16 post w0 → va_P G.1 vwCl [(a0_0, .inr (3, [.int (skW w0), .int (skP w0), .int (skF w0)]))] H → va_D A [(a0_0, .inr (3, [.int (skW w0), .int (skP w0), .int (skF w0)]))] → va_S A s.heap H locs → lv_has ls 2 [(0, .ref a0_0)] → W p l e rm_Sk_pass s m args below meth c H locs 0 0 (MQ below (va_Qv post (fun (u : SkC) (t : State) => va_P G.1 vwCl [(a0_0, .inr (3, [.int (skW u), .int (skP u), .int (skF u)]))] t.heap) A) args s 0 0 A) (F0 m 16 ls []) := by
  obtain ⟨hx, hb, hr, hts, hown, hlocks, hml, hC⟩ := id E
  have hK := hC.1
  intro w0  H locs ls h hP hD hS hl
  unfold w_Sk_pass_16 at h
  refine lv_aload_n hx hb d_Sk_pass_16 rfl (lv_at hl 0 rfl) ?_
  refine lv_dup hx hb d_Sk_pass_17 rfl ?_
  refine va_get (D := G.1) (ci := 3) (v := .int (skP w0)) (C := R_Sk) (T := T_Sk) (N := 3) hx hb hts i_Sk hown hK hP 0 rfl rfl 1 (by decide) (hts _ b_73) (fun _ h9 => h9) rfl d_Sk_pass_18 ?_
  refine lv_iconst (v := 1) hx hb d_Sk_pass_21 (by decide) ?_
  refine lv_iadd hx hb d_Sk_pass_22 ?_
  refine va_put (D := G.1) (ci := 3) (v := .int ((skP w0) + 1)) (ty := .int) (C := R_Sk) (T := T_Sk) (N := 3) hx hb hts i_Sk ty_Sk tyok_Sk nm_Sk hown hK hP hD hS 0 rfl rfl 1 (by decide) (hts _ b_73) (fun _ h9 => h9) rfl (by decide +kernel) rfl rfl (Nat.le_of_ble_eq_true rfl) d_Sk_pass_23 (fun H locs hP hD hS => ?_)
  have hP : va_P G.1 vwCl [(a0_0, .inr (3, [.int (skW w0), .int ((skP w0) + 1), .int (skF w0)]))] H := hP
  have hD : va_D A [(a0_0, .inr (3, [.int (skW w0), .int ((skP w0) + 1), .int (skF w0)]))] := hD
  exact W.vret hx hb hr (fun t ht hW => ⟨⟨_, rfl, h, vaP_at ht hP⟩, hS.F ht⟩) hS.2.2 d_Sk_pass_26
set_option maxHeartbeats 4000000 in
set_option maxRecDepth 100000 in
theorem t_Sk_pass_in {p : Program} {l : Launch} {e : Env} {s : State} {m : MethodId} {args : Array Value} {below : List Frame} {meth : Method} {c : Code} {G : GX} {a0_0 : Nat} {post : SkC → Prop} {A : Nat → Prop} {u0 : SkC} {x1 : Int32} (E : EN p s m args meth c G R_Sk cc_Sk_pass 2 none BG) (hR : va_P G.1 vwCl [] s.heap) (hA : ∀ q : Nat, s.heap.size ≤ q → A q) (hAB : ∀ q : Nat, A q → G.2.2.1 ≤ q) (hRn : ∀ (j : Nat) (q : Nat × va_E), ([] : va_W)[j]? = some q → ¬ A q.1) : ∀ (H : Heap) (locs : List Loc) (ls : Array Slot), wp_Sk_pass post u0 x1 → va_P G.1 vwCl [(a0_0, .inr (3, [.int (skW u0), .int (skP u0), .int (skF u0)]))] H → va_D A [(a0_0, .inr (3, [.int (skW u0), .int (skP u0), .int (skF u0)]))] → va_S A s.heap H locs → lv_has ls 2 [(0, .ref a0_0), (1, .int x1)] → W p l e rm_Sk_pass s m args below meth c H locs 0 0 (MQ below (va_Qv post (fun (u : SkC) (t : State) => va_P G.1 vwCl [(a0_0, .inr (3, [.int (skW u), .int (skP u), .int (skF u)]))] t.heap) A) args s 0 0 A) (F0 m 0 ls []) := by
  obtain ⟨hx, hb, hr, hts, hown, hlocks, hml, hC⟩ := id E
  have hK := hC.1
  intro H locs ls h hP hD hS hl
  unfold wp_Sk_pass at h
  refine lv_aload_n hx hb d_Sk_pass_0 rfl (lv_at hl 0 rfl) ?_
  refine va_get (D := G.1) (ci := 3) (v := .int (skP u0)) (C := R_Sk) (T := T_Sk) (N := 3) hx hb hts i_Sk hown hK hP 0 rfl rfl 1 (by decide) (hts _ b_73) (fun _ h9 => h9) rfl d_Sk_pass_1 ?_
  refine lv_aload_n hx hb d_Sk_pass_4 rfl (lv_at hl 0 rfl) ?_
  refine va_get (D := G.1) (ci := 3) (v := .int (skW u0)) (C := R_Sk) (T := T_Sk) (N := 3) hx hb hts i_Sk hown hK hP 0 rfl rfl 0 (by decide) (hts _ b_72) (fun _ h9 => h9) rfl d_Sk_pass_5 ?_
  refine lv_icmp_ne (tgt := 16) hx hb d_Sk_pass_8 (by decide) (fun c9 => ?_) (fun c9 => ?_)
  · have h := h.1 c9
    exact t_Sk_pass_16 E hR hA hAB hRn  _ _ _ _ h hP hD hS (lv_sub hl [0] rfl)
  · have h := h.2 c9
    refine lv_aload_n hx hb d_Sk_pass_11 rfl (lv_at hl 0 rfl) ?_
    refine lv_iload_n hx hb d_Sk_pass_12 rfl (lv_at hl 1 rfl) ?_
    refine va_put (D := G.1) (ci := 3) (v := .int x1) (ty := .int) (C := R_Sk) (T := T_Sk) (N := 3) hx hb hts i_Sk ty_Sk tyok_Sk nm_Sk hown hK hP hD hS 0 rfl rfl 2 (by decide) (hts _ b_74) (fun _ h9 => h9) rfl (by decide +kernel) rfl rfl (Nat.le_of_ble_eq_true rfl) d_Sk_pass_13 (fun H locs hP hD hS => ?_)
    have hP : va_P G.1 vwCl [(a0_0, .inr (3, [.int (skW u0), .int (skP u0), .int x1]))] H := hP
    have hD : va_D A [(a0_0, .inr (3, [.int (skW u0), .int (skP u0), .int x1]))] := hD
    exact t_Sk_pass_16 E hR hA hAB hRn  _ _ _ _ h hP hD hS (lv_sub hl [0] rfl)
set_option maxHeartbeats 4000000 in
set_option maxRecDepth 100000 in
theorem c_Sk_pass (l : Launch) (G : GX) (a0_0 : Nat) (u0 : SkC) (x1 : Int32) (sz : Nat) (post : SkC → Prop) (h : wp_Sk_pass post u0 x1) : Met l y_Sk_pass wc_Sk_pass rm_Sk_pass (mW G [.ref a0_0, .int x1] sz [(a0_0, .inr (3, [.int (skW u0), .int (skP u0), .int (skF u0)]))] []) (va_Qv post (fun (u : SkC) (t : State) => va_P G.1 vwCl [(a0_0, .inr (3, [.int (skW u), .int (skP u), .int (skF u)]))] t.heap) (va_A [(a0_0, .inr (3, [.int (skW u0), .int (skP u0), .int (skF u0)]))] sz)) 0 0 (va_A [(a0_0, .inr (3, [.int (skW u0), .int (skP u0), .int (skF u0)]))] sz) := by
  refine Met.ofW (cc := cc_Sk_pass) (maxL := 2) (ret := none) (by decide) rfl ?_
  intro p e s m args below meth c s₁ B hml hv
  obtain ⟨rfl, hC, hsz, hP, hD0, hR, hap⟩ := hv
  have E : EN p s m ([.ref a0_0, .int x1] : List Value).toArray meth c G R_Sk cc_Sk_pass 2 none BG := ⟨B.exec, B.bytes, B.returns, fun w h => atoms_spec (ws := wc_Sk_pass) B.pre w (List.mem_cons_of_mem _ h), findClass_of_methodNamed B.named, B.notSynchronized, hml, hC⟩
  subst hsz
  have hD := hD0.self (sz := s.heap.size)
  have hRn := mw_notA hR hap
  have hAB := mw_AB hD0 hC
  have hA : ∀ q : Nat, s.heap.size ≤ q → va_A [(a0_0, .inr (3, [.int (skW u0), .int (skP u0), .int (skF u0)]))] s.heap.size q := fun q z => Or.inr z
  generalize va_A [(a0_0, .inr (3, [.int (skW u0), .int (skP u0), .int (skF u0)]))] s.heap.size = A at hD hRn hAB hA ⊢
  have hl := lv_entry ([.ref a0_0, .int x1]) (n := 2) (Nat.le_of_ble_eq_true rfl)
  rw [lg_entry_eq]
  generalize (lg_sl ([.ref a0_0, .int x1]) ++ List.replicate (2 - (lg_sl ([.ref a0_0, .int x1])).length) Slot.unset).toArray = ls at hl ⊢
  have hl : lv_has ls 2 [(0, .ref a0_0), (1, .int x1)] := hl
  exact t_Sk_pass_in E hR hA hAB hRn _ _ _ h hP hD va_S.rf hl
set_option maxHeartbeats 4000000 in
set_option maxRecDepth 100000 in
theorem tb_Sk_passText_2 {p : Program} {l : Launch} {e : Env} {s : State} {m : MethodId} {args : Array Value} {below : List Frame} {meth : Method} {c : Code} {G : GX} {a0_0 : Nat} {post : SkC → Prop} {A : Nat → Prop} (E : EN p s m args meth c G R_Sk cc_Sk_passText 3 none BG) (hR : va_P G.1 vwCl [] s.heap) (hA : ∀ q : Nat, s.heap.size ≤ q → A q) (hAB : ∀ q : Nat, A q → G.2.2.1 ≤ q) (hRn : ∀ (j : Nat) (q : Nat × va_E), ([] : va_W)[j]? = some q → ¬ A q.1) {K0 : Nat → Int32 → SkC → Prop} (hK0 : ∀ (y1 : Nat) (y2 : Int32) (w0 : SkC) (H : Heap) (locs : List Loc) (ls : Array Slot), K0 y1 y2 w0 → va_P G.1 vwCl [(a0_0, .inr (3, [.int (skW w0), .int (skP w0), .int (skF w0)]))] H → va_D A [(a0_0, .inr (3, [.int (skW w0), .int (skP w0), .int (skF w0)]))] → va_S A s.heap H locs → lv_has ls 3 [(0, .ref a0_0), (1, .ref (G.2.2.2.1 y1)), (2, .int y2)] → W p l e rm_Sk_passText s m args below meth c H locs 0 0 (MQ below (va_Qv post (fun (u : SkC) (t : State) => va_P G.1 vwCl [(a0_0, .inr (3, [.int (skW u), .int (skP u), .int (skF u)]))] t.heap) A) args s 0 0 A) (F0 m 2 ls [])) : ∀ (y1 : Nat) (y2 : Int32) (w0 : SkC) (H : Heap) (locs : List Loc) (ls : Array Slot), wb_Sk_passText_2 post K0 y1 y2 w0 → va_P G.1 vwCl [(a0_0, .inr (3, [.int (skW w0), .int (skP w0), .int (skF w0)]))] H → va_D A [(a0_0, .inr (3, [.int (skW w0), .int (skP w0), .int (skF w0)]))] → va_S A s.heap H locs → lv_has ls 3 [(0, .ref a0_0), (1, .ref (G.2.2.2.1 y1)), (2, .int y2)] → W p l e rm_Sk_passText s m args below meth c H locs 0 0 (MQ below (va_Qv post (fun (u : SkC) (t : State) => va_P G.1 vwCl [(a0_0, .inr (3, [.int (skW u), .int (skP u), .int (skF u)]))] t.heap) A) args s 0 0 A) (F0 m 2 ls []) := by
  obtain ⟨hx, hb, hr, hts, hown, hlocks, hml, hC⟩ := id E
  have hK := hC.1
  intro y1 y2 w0  H locs ls h hP hD hS hl
  unfold wb_Sk_passText_2 at h
  refine lv_iload_n hx hb d_Sk_passText_2 rfl (lv_at hl 2 rfl) ?_
  refine lv_aload_n hx hb d_Sk_passText_3 rfl (lv_at hl 1 rfl) ?_
  have hRc : va_P G.1 vwCl [] H := vaP_nil
  have hk9 := h.1
  have h := h.2
  refine vp_callSi (va_runV (As := []) (rest := [.int y2]) ⟨hx, hb, hml, hown, hts⟩ (c_J_length l G y1 _ h) (cwV 0 hts (gwV b_75 b_39 b_40 b_12 b_37) rfl rfl rfl hd_JS_length ⟨Nat.le_of_ble_eq_true rfl, Nat.le_of_ble_eq_true rfl⟩) ⟨mP_blind, vk_recv hC.2.2.2.2.1 hk9 (va_S_up hS hAB), fun U hU hW => ⟨rfl, hC.to hW hU hS hAB, by rw [hU]; exact hRc⟩⟩ rfl rfl hl.1 rfl (lv_room (Nat.le_of_ble_eq_true rfl)) d_Sk_passText_4 ⟨Nat.le_of_ble_eq_true rfl, Nat.le_of_ble_eq_true rfl⟩).run (fun r4 h => ?_)
  refine lv_icmp_ge (tgt := 25) hx hb d_Sk_passText_7 (by decide) (fun c9 => ?_) (fun c9 => ?_)
  · have h := h.1 c9
    exact W.vret hx hb hr (fun t ht hW => ⟨⟨_, rfl, h, vaP_at ht hP⟩, hS.F ht⟩) hS.2.2 d_Sk_passText_25
  · have h := h.2 c9
    refine lv_aload_n hx hb d_Sk_passText_10 rfl (lv_at hl 0 rfl) ?_
    refine lv_aload_n hx hb d_Sk_passText_11 rfl (lv_at hl 1 rfl) ?_
    refine lv_iload_n hx hb d_Sk_passText_12 rfl (lv_at hl 2 rfl) ?_
    have hRc : va_P G.1 vwCl [] H := vaP_nil
    have hk9 := h.1
    have h := h.2
    refine vp_callSi (va_runV (As := [.int y2]) (rest := [.ref a0_0]) ⟨hx, hb, hml, hown, hts⟩ (c_J_charAt l G y1 y2 _ h) (cwV 1 hts (gwV b_76 b_57 b_58 b_12 b_55) rfl rfl rfl hd_JS_charAt ⟨Nat.le_of_ble_eq_true rfl, Nat.le_of_ble_eq_true rfl⟩) ⟨mP_blind, vk_recv hC.2.2.2.2.1 hk9 (va_S_up hS hAB), fun U hU hW => ⟨rfl, hC.to hW hU hS hAB, by rw [hU]; exact hRc⟩⟩ rfl rfl hl.1 rfl (lv_room (Nat.le_of_ble_eq_true rfl)) d_Sk_passText_13 ⟨Nat.le_of_ble_eq_true rfl, Nat.le_of_ble_eq_true rfl⟩).run (fun r5 h => ?_)
    have hRc : va_P G.1 vwCl [] H := vaP_nil
    have hPc := hP.sub (ws' := [(a0_0, .inr (3, [.int (skW w0), .int (skP w0), .int (skF w0)]))]) [0] rfl
    have hDc := hD.sub (ws' := [(a0_0, .inr (3, [.int (skW w0), .int (skP w0), .int (skF w0)]))]) [0] (by decide) rfl
    have hFc := va_free (wc := [(a0_0, .inr (3, [.int (skW w0), .int (skP w0), .int (skF w0)]))]) hD hS hA [0] rfl
    have hQc : mw_ap [(a0_0, .inr (3, [.int (skW w0), .int (skP w0), .int (skF w0)]))] [] := mw_ap_nil
    refine va_callv (va_runV (As := [.int r5]) (rest := []) ⟨hx, hb, hml, hown, hts⟩ (c_Sk_pass l G a0_0 w0 r5 H.size _ h) (cwV 1 hts (gwV b_78 b_79 b_80 b_81 b_77) rfl rfl rfl hd_Sk_pass ⟨Nat.le_of_ble_eq_true rfl, Nat.le_of_ble_eq_true rfl⟩) ⟨mW_blind, va_recv hK hPc (ci := 3) (q0 := 0) rfl rfl, fun U hU hW => ⟨rfl, hC.to hW hU hS hAB, by rw [hU], by rw [hU]; exact hPc, hDc.weaken (fun _ _ _ => hAB _), by rw [hU]; exact hRc, hQc⟩⟩ rfl rfl hl.1 rfl (lv_room (Nat.le_of_ble_eq_true rfl)) d_Sk_passText_16 ⟨Nat.le_of_ble_eq_true rfl, Nat.le_of_ble_eq_true rfl⟩) hS (fun q _ h => hFc q h) hFc (fun v6 t H1 locs ht hvm h hB hz1 hk1 hS => ?_)
    rw [ht] at hB
    have hj9 := mw_join (wr := []) (w1 := [(a0_0, .inr (3, [.int (skW v6), .int (skP v6), .int (skF v6)]))]) hP hD [0] [] rfl rfl (by decide) (by decide) (by decide) hk1 hFc hB rfl
    have hP : va_P G.1 vwCl [(a0_0, .inr (3, [.int (skW v6), .int (skP v6), .int (skF v6)]))] H1 := hj9.1
    have hD : va_D A [(a0_0, .inr (3, [.int (skW v6), .int (skP v6), .int (skF v6)]))] := hj9.2
    generalize H1 = H at hP hS ⊢
    refine lv_iinc (v := y2 + 1) (lv' := [(2, .int (y2 + 1)), (0, .ref a0_0), (1, .ref (G.2.2.2.1 y1))]) hx hb d_Sk_passText_19 hl (k := 2) rfl rfl (by decide) rfl (fun ls hl => ?_)
    refine lv_goto (tgt := 2) hx hb d_Sk_passText_22 (by decide) ?_
    exact hK0 _ _ _ _ _ _ h hP hD hS (lv_sub hl [1, 2, 0] rfl)
set_option maxHeartbeats 4000000 in
set_option maxRecDepth 100000 in
theorem t_Sk_passText_2 {p : Program} {l : Launch} {e : Env} {s : State} {m : MethodId} {args : Array Value} {below : List Frame} {meth : Method} {c : Code} {G : GX} {a0_0 : Nat} {post : SkC → Prop} {A : Nat → Prop} (E : EN p s m args meth c G R_Sk cc_Sk_passText 3 none BG) (hR : va_P G.1 vwCl [] s.heap) (hA : ∀ q : Nat, s.heap.size ≤ q → A q) (hAB : ∀ q : Nat, A q → G.2.2.1 ≤ q) (hRn : ∀ (j : Nat) (q : Nat × va_E), ([] : va_W)[j]? = some q → ¬ A q.1) : ∀ (n : Nat) (y1 : Nat) (y2 : Int32) (w0 : SkC) (H : Heap) (locs : List Loc) (ls : Array Slot), w_Sk_passText_2 post n y1 y2 w0 → va_P G.1 vwCl [(a0_0, .inr (3, [.int (skW w0), .int (skP w0), .int (skF w0)]))] H → va_D A [(a0_0, .inr (3, [.int (skW w0), .int (skP w0), .int (skF w0)]))] → va_S A s.heap H locs → lv_has ls 3 [(0, .ref a0_0), (1, .ref (G.2.2.2.1 y1)), (2, .int y2)] → W p l e rm_Sk_passText s m args below meth c H locs 0 0 (MQ below (va_Qv post (fun (u : SkC) (t : State) => va_P G.1 vwCl [(a0_0, .inr (3, [.int (skW u), .int (skP u), .int (skF u)]))] t.heap) A) args s 0 0 A) (F0 m 2 ls []) := by
  intro n
  induction n with
  | zero => intro y1 y2 w0  H locs ls h; exact h.elim
  | succ n ih =>
    intro y1 y2 w0  H locs ls h hP hD hS hl
    exact tb_Sk_passText_2 E hR hA hAB hRn  ih _ _ _ _ _ _ h hP hD hS hl
set_option maxHeartbeats 4000000 in
set_option maxRecDepth 100000 in
theorem t_Sk_passText_in {p : Program} {l : Launch} {e : Env} {s : State} {m : MethodId} {args : Array Value} {below : List Frame} {meth : Method} {c : Code} {G : GX} {a0_0 : Nat} {post : SkC → Prop} {A : Nat → Prop} {u0 : SkC} {x1 : Nat} (E : EN p s m args meth c G R_Sk cc_Sk_passText 3 none BG) (hR : va_P G.1 vwCl [] s.heap) (hA : ∀ q : Nat, s.heap.size ≤ q → A q) (hAB : ∀ q : Nat, A q → G.2.2.1 ≤ q) (hRn : ∀ (j : Nat) (q : Nat × va_E), ([] : va_W)[j]? = some q → ¬ A q.1) : ∀ (H : Heap) (locs : List Loc) (ls : Array Slot), wp_Sk_passText post u0 x1 → va_P G.1 vwCl [(a0_0, .inr (3, [.int (skW u0), .int (skP u0), .int (skF u0)]))] H → va_D A [(a0_0, .inr (3, [.int (skW u0), .int (skP u0), .int (skF u0)]))] → va_S A s.heap H locs → lv_has ls 3 [(0, .ref a0_0), (1, .ref (G.2.2.2.1 x1))] → W p l e rm_Sk_passText s m args below meth c H locs 0 0 (MQ below (va_Qv post (fun (u : SkC) (t : State) => va_P G.1 vwCl [(a0_0, .inr (3, [.int (skW u), .int (skP u), .int (skF u)]))] t.heap) A) args s 0 0 A) (F0 m 0 ls []) := by
  obtain ⟨hx, hb, hr, hts, hown, hlocks, hml, hC⟩ := id E
  have hK := hC.1
  intro H locs ls h hP hD hS hl
  unfold wp_Sk_passText at h
  refine lv_iconst (v := 0) hx hb d_Sk_passText_0 (by decide) ?_
  refine lv_istore_n (lv' := [(2, .int 0), (0, .ref a0_0), (1, .ref (G.2.2.2.1 x1))]) hx hb d_Sk_passText_1 rfl hl (by decide) rfl (fun ls hl => ?_)
  obtain ⟨n, h⟩ := h
  exact t_Sk_passText_2 E hR hA hAB hRn  n _ _ _ _ _ _ h hP hD hS (lv_sub hl [1, 2, 0] rfl)
set_option maxHeartbeats 4000000 in
set_option maxRecDepth 100000 in
theorem c_Sk_passText (l : Launch) (G : GX) (a0_0 : Nat) (u0 : SkC) (x1 : Nat) (sz : Nat) (post : SkC → Prop) (h : wp_Sk_passText post u0 x1) : Met l y_Sk_passText wc_Sk_passText rm_Sk_passText (mW G [.ref a0_0, .ref (G.2.2.2.1 x1)] sz [(a0_0, .inr (3, [.int (skW u0), .int (skP u0), .int (skF u0)]))] []) (va_Qv post (fun (u : SkC) (t : State) => va_P G.1 vwCl [(a0_0, .inr (3, [.int (skW u), .int (skP u), .int (skF u)]))] t.heap) (va_A [(a0_0, .inr (3, [.int (skW u0), .int (skP u0), .int (skF u0)]))] sz)) 0 0 (va_A [(a0_0, .inr (3, [.int (skW u0), .int (skP u0), .int (skF u0)]))] sz) := by
  refine Met.ofW (cc := cc_Sk_passText) (maxL := 3) (ret := none) (by decide) rfl ?_
  intro p e s m args below meth c s₁ B hml hv
  obtain ⟨rfl, hC, hsz, hP, hD0, hR, hap⟩ := hv
  have E : EN p s m ([.ref a0_0, .ref (G.2.2.2.1 x1)] : List Value).toArray meth c G R_Sk cc_Sk_passText 3 none BG := ⟨B.exec, B.bytes, B.returns, fun w h => atoms_spec (ws := wc_Sk_passText) B.pre w (List.mem_cons_of_mem _ h), findClass_of_methodNamed B.named, B.notSynchronized, hml, hC⟩
  subst hsz
  have hD := hD0.self (sz := s.heap.size)
  have hRn := mw_notA hR hap
  have hAB := mw_AB hD0 hC
  have hA : ∀ q : Nat, s.heap.size ≤ q → va_A [(a0_0, .inr (3, [.int (skW u0), .int (skP u0), .int (skF u0)]))] s.heap.size q := fun q z => Or.inr z
  generalize va_A [(a0_0, .inr (3, [.int (skW u0), .int (skP u0), .int (skF u0)]))] s.heap.size = A at hD hRn hAB hA ⊢
  have hl := lv_entry ([.ref a0_0, .ref (G.2.2.2.1 x1)]) (n := 3) (Nat.le_of_ble_eq_true rfl)
  rw [lg_entry_eq]
  generalize (lg_sl ([.ref a0_0, .ref (G.2.2.2.1 x1)]) ++ List.replicate (3 - (lg_sl ([.ref a0_0, .ref (G.2.2.2.1 x1)])).length) Slot.unset).toArray = ls at hl ⊢
  have hl : lv_has ls 3 [(0, .ref a0_0), (1, .ref (G.2.2.2.1 x1))] := hl
  exact t_Sk_passText_in E hR hA hAB hRn _ _ _ h hP hD va_S.rf hl
set_option maxHeartbeats 4000000 in
set_option maxRecDepth 100000 in
theorem t_Sk_passRow_32 {p : Program} {l : Launch} {e : Env} {s : State} {m : MethodId} {args : Array Value} {below : List Frame} {meth : Method} {c : Code} {G : GX} {a0_0 a1_0 : Nat} {u1 : CaC} {post : SkC → Prop} {A : Nat → Prop} (E : EN p s m args meth c G R_Sk cc_Sk_passRow 4 none BG) (hR : va_P G.1 vwCl [(a1_0, .inl (G.2.1 0, caN u1, .inl (caF u1)))] s.heap) (hA : ∀ q : Nat, s.heap.size ≤ q → A q) (hAB : ∀ q : Nat, A q → G.2.2.1 ≤ q) (hRn : ∀ (j : Nat) (q : Nat × va_E), ([(a1_0, .inl (G.2.1 0, caN u1, .inl (caF u1)))] : va_W)[j]? = some q → ¬ A q.1) : ∀ (y2 : Int32) (w0 : SkC) (H : Heap) (locs : List Loc) (ls : Array Slot), w_Sk_passRow_32 post u1 y2 w0 → va_P G.1 vwCl [(a0_0, .inr (3, [.int (skW w0), .int (skP w0), .int (skF w0)]))] H → va_D A [(a0_0, .inr (3, [.int (skW w0), .int (skP w0), .int (skF w0)]))] → va_S A s.heap H locs → lv_has ls 4 [(0, .ref a0_0), (2, .int y2)] → W p l e rm_Sk_passRow s m args below meth c H locs 0 0 (MQ below (va_Qv post (fun (u : SkC) (t : State) => va_P G.1 vwCl [(a0_0, .inr (3, [.int (skW u), .int (skP u), .int (skF u)]))] t.heap) A) args s 0 0 A) (F0 m 32 ls []) := by
  obtain ⟨hx, hb, hr, hts, hown, hlocks, hml, hC⟩ := id E
  have hK := hC.1
  intro y2 w0  H locs ls h hP hD hS hl
  unfold w_Sk_passRow_32 at h
  refine lv_aload_n hx hb d_Sk_passRow_32 rfl (lv_at hl 0 rfl) ?_
  refine lv_dup hx hb d_Sk_passRow_33 rfl ?_
  refine va_get (D := G.1) (ci := 3) (v := .int (skP w0)) (C := R_Sk) (T := T_Sk) (N := 3) hx hb hts i_Sk hown hK hP 0 rfl rfl 1 (by decide) (hts _ b_73) (fun _ h9 => h9) rfl d_Sk_passRow_34 ?_
  refine lv_iload_n hx hb d_Sk_passRow_37 rfl (lv_at hl 1 rfl) ?_
  refine lv_iadd hx hb d_Sk_passRow_38 ?_
  refine va_put (D := G.1) (ci := 3) (v := .int ((skP w0) + y2)) (ty := .int) (C := R_Sk) (T := T_Sk) (N := 3) hx hb hts i_Sk ty_Sk tyok_Sk nm_Sk hown hK hP hD hS 0 rfl rfl 1 (by decide) (hts _ b_73) (fun _ h9 => h9) rfl (by decide +kernel) rfl rfl (Nat.le_of_ble_eq_true rfl) d_Sk_passRow_39 (fun H locs hP hD hS => ?_)
  have hP : va_P G.1 vwCl [(a0_0, .inr (3, [.int (skW w0), .int ((skP w0) + y2), .int (skF w0)]))] H := hP
  have hD : va_D A [(a0_0, .inr (3, [.int (skW w0), .int ((skP w0) + y2), .int (skF w0)]))] := hD
  exact W.vret hx hb hr (fun t ht hW => ⟨⟨_, rfl, h, vaP_at ht hP⟩, hS.F ht⟩) hS.2.2 d_Sk_passRow_42
set_option maxHeartbeats 4000000 in
set_option maxRecDepth 100000 in
theorem t_Sk_passRow_in {p : Program} {l : Launch} {e : Env} {s : State} {m : MethodId} {args : Array Value} {below : List Frame} {meth : Method} {c : Code} {G : GX} {a0_0 a1_0 : Nat} {u1 : CaC} {post : SkC → Prop} {A : Nat → Prop} {u0 : SkC} {x2 : Int32} (E : EN p s m args meth c G R_Sk cc_Sk_passRow 4 none BG) (hR : va_P G.1 vwCl [(a1_0, .inl (G.2.1 0, caN u1, .inl (caF u1)))] s.heap) (hA : ∀ q : Nat, s.heap.size ≤ q → A q) (hAB : ∀ q : Nat, A q → G.2.2.1 ≤ q) (hRn : ∀ (j : Nat) (q : Nat × va_E), ([(a1_0, .inl (G.2.1 0, caN u1, .inl (caF u1)))] : va_W)[j]? = some q → ¬ A q.1) : ∀ (H : Heap) (locs : List Loc) (ls : Array Slot), wp_Sk_passRow post u0 u1 x2 → va_P G.1 vwCl [(a0_0, .inr (3, [.int (skW u0), .int (skP u0), .int (skF u0)]))] H → va_D A [(a0_0, .inr (3, [.int (skW u0), .int (skP u0), .int (skF u0)]))] → va_S A s.heap H locs → lv_has ls 4 [(0, .ref a0_0), (1, .ref a1_0), (2, .int x2)] → W p l e rm_Sk_passRow s m args below meth c H locs 0 0 (MQ below (va_Qv post (fun (u : SkC) (t : State) => va_P G.1 vwCl [(a0_0, .inr (3, [.int (skW u), .int (skP u), .int (skF u)]))] t.heap) A) args s 0 0 A) (F0 m 0 ls []) := by
  obtain ⟨hx, hb, hr, hts, hown, hlocks, hml, hC⟩ := id E
  have hK := hC.1
  intro H locs ls h hP hD hS hl
  unfold wp_Sk_passRow at h
  refine lv_aload_n hx hb d_Sk_passRow_0 rfl (lv_at hl 0 rfl) ?_
  refine va_get (D := G.1) (ci := 3) (v := .int (skW u0)) (C := R_Sk) (T := T_Sk) (N := 3) hx hb hts i_Sk hown hK hP 0 rfl rfl 0 (by decide) (hts _ b_72) (fun _ h9 => h9) rfl d_Sk_passRow_1 ?_
  refine lv_aload_n hx hb d_Sk_passRow_4 rfl (lv_at hl 0 rfl) ?_
  refine va_get (D := G.1) (ci := 3) (v := .int (skP u0)) (C := R_Sk) (T := T_Sk) (N := 3) hx hb hts i_Sk hown hK hP 0 rfl rfl 1 (by decide) (hts _ b_73) (fun _ h9 => h9) rfl d_Sk_passRow_5 ?_
  refine lv_isub hx hb d_Sk_passRow_8 ?_
  refine lv_istore_n (lv' := [(3, .int ((skW u0) - (skP u0))), (0, .ref a0_0), (1, .ref a1_0), (2, .int x2)]) hx hb d_Sk_passRow_9 rfl hl (by decide) rfl (fun ls hl => ?_)
  refine lv_iload_n hx hb d_Sk_passRow_10 rfl (lv_at hl 0 rfl) ?_
  refine lv_if_lt (tgt := 32) hx hb d_Sk_passRow_11 (by decide) (fun c9 => ?_) (fun c9 => ?_)
  · have h := h.1 c9
    exact t_Sk_passRow_32 E hR hA hAB hRn  _ _ _ _ _ h hP hD hS (lv_sub hl [1, 3] rfl)
  · have h := h.2 c9
    refine lv_iload_n hx hb d_Sk_passRow_14 rfl (lv_at hl 0 rfl) ?_
    refine lv_iload_n hx hb d_Sk_passRow_15 rfl (lv_at hl 3 rfl) ?_
    refine lv_icmp_ge (tgt := 32) hx hb d_Sk_passRow_16 (by decide) (fun c9 => ?_) (fun c9 => ?_)
    · have h := h.1 c9
      exact t_Sk_passRow_32 E hR hA hAB hRn  _ _ _ _ _ h hP hD hS (lv_sub hl [1, 3] rfl)
    · have h := h.2 c9
      refine lv_iload_n hx hb d_Sk_passRow_19 rfl (lv_at hl 0 rfl) ?_
      refine lv_aload_n hx hb d_Sk_passRow_20 rfl (lv_at hl 2 rfl) ?_
      refine va_alen hx hb hK (ro_now hR hRn hS) 0 0 rfl rfl (v := Int32.ofNat (caN u1)) rfl d_Sk_passRow_21 ?_
      refine lv_icmp_ge (tgt := 32) hx hb d_Sk_passRow_22 (by decide) (fun c9 => ?_) (fun c9 => ?_)
      · have h := h.1 c9
        exact t_Sk_passRow_32 E hR hA hAB hRn  _ _ _ _ _ h hP hD hS (lv_sub hl [1, 3] rfl)
      · have h := h.2 c9
        refine lv_aload_n hx hb d_Sk_passRow_25 rfl (lv_at hl 1 rfl) ?_
        refine lv_aload_n hx hb d_Sk_passRow_26 rfl (lv_at hl 2 rfl) ?_
        refine lv_iload_n hx hb d_Sk_passRow_27 rfl (lv_at hl 0 rfl) ?_
        have hi9 := h.1
        have h := h.2
        refine va_cald hx hb hK (ro_now hR hRn hS) 0 0 rfl rfl hi9 d_Sk_passRow_28 ?_
        refine va_put (D := G.1) (ci := 3) (v := .int ((caF u1) ((skW u0) - (skP u0)).toNatClampNeg)) (ty := .int) (C := R_Sk) (T := T_Sk) (N := 3) hx hb hts i_Sk ty_Sk tyok_Sk nm_Sk hown hK hP hD hS 0 rfl rfl 2 (by decide) (hts _ b_74) (fun _ h9 => h9) rfl (by decide +kernel) rfl rfl (Nat.le_of_ble_eq_true rfl) d_Sk_passRow_29 (fun H locs hP hD hS => ?_)
        have hP : va_P G.1 vwCl [(a0_0, .inr (3, [.int (skW u0), .int (skP u0), .int ((caF u1) ((skW u0) - (skP u0)).toNatClampNeg)]))] H := hP
        have hD : va_D A [(a0_0, .inr (3, [.int (skW u0), .int (skP u0), .int ((caF u1) ((skW u0) - (skP u0)).toNatClampNeg)]))] := hD
        exact t_Sk_passRow_32 E hR hA hAB hRn  _ _ _ _ _ h hP hD hS (lv_sub hl [1, 3] rfl)
set_option maxHeartbeats 4000000 in
set_option maxRecDepth 100000 in
theorem c_Sk_passRow (l : Launch) (G : GX) (a0_0 a1_0 : Nat) (u0 : SkC) (u1 : CaC) (x2 : Int32) (sz : Nat) (post : SkC → Prop) (h : wp_Sk_passRow post u0 u1 x2) : Met l y_Sk_passRow wc_Sk_passRow rm_Sk_passRow (mW G [.ref a0_0, .ref a1_0, .int x2] sz [(a0_0, .inr (3, [.int (skW u0), .int (skP u0), .int (skF u0)]))] [(a1_0, .inl (G.2.1 0, caN u1, .inl (caF u1)))]) (va_Qv post (fun (u : SkC) (t : State) => va_P G.1 vwCl [(a0_0, .inr (3, [.int (skW u), .int (skP u), .int (skF u)]))] t.heap) (va_A [(a0_0, .inr (3, [.int (skW u0), .int (skP u0), .int (skF u0)]))] sz)) 0 0 (va_A [(a0_0, .inr (3, [.int (skW u0), .int (skP u0), .int (skF u0)]))] sz) := by
  refine Met.ofW (cc := cc_Sk_passRow) (maxL := 4) (ret := none) (by decide) rfl ?_
  intro p e s m args below meth c s₁ B hml hv
  obtain ⟨rfl, hC, hsz, hP, hD0, hR, hap⟩ := hv
  have E : EN p s m ([.ref a0_0, .ref a1_0, .int x2] : List Value).toArray meth c G R_Sk cc_Sk_passRow 4 none BG := ⟨B.exec, B.bytes, B.returns, fun w h => atoms_spec (ws := wc_Sk_passRow) B.pre w (List.mem_cons_of_mem _ h), findClass_of_methodNamed B.named, B.notSynchronized, hml, hC⟩
  subst hsz
  have hD := hD0.self (sz := s.heap.size)
  have hRn := mw_notA hR hap
  have hAB := mw_AB hD0 hC
  have hA : ∀ q : Nat, s.heap.size ≤ q → va_A [(a0_0, .inr (3, [.int (skW u0), .int (skP u0), .int (skF u0)]))] s.heap.size q := fun q z => Or.inr z
  generalize va_A [(a0_0, .inr (3, [.int (skW u0), .int (skP u0), .int (skF u0)]))] s.heap.size = A at hD hRn hAB hA ⊢
  have hl := lv_entry ([.ref a0_0, .ref a1_0, .int x2]) (n := 4) (Nat.le_of_ble_eq_true rfl)
  rw [lg_entry_eq]
  generalize (lg_sl ([.ref a0_0, .ref a1_0, .int x2]) ++ List.replicate (4 - (lg_sl ([.ref a0_0, .ref a1_0, .int x2])).length) Slot.unset).toArray = ls at hl ⊢
  have hl : lv_has ls 4 [(0, .ref a0_0), (1, .ref a1_0), (2, .int x2)] := hl
  exact t_Sk_passRow_in E hR hA hAB hRn _ _ _ h hP hD va_S.rf hl
set_option maxHeartbeats 4000000 in
set_option maxRecDepth 100000 in
theorem t_Sk_init_in {p : Program} {l : Launch} {e : Env} {s : State} {m : MethodId} {args : Array Value} {below : List Frame} {meth : Method} {c : Code} {G : GX} {a0_0 : Nat} {post : SkC → Prop} {A : Nat → Prop} {u0 : SkC} (E : EN p s m args meth c G R_Sk cc_Sk_init 1 none BG) (hR : va_P G.1 vwCl [] s.heap) (hA : ∀ q : Nat, s.heap.size ≤ q → A q) (hAB : ∀ q : Nat, A q → G.2.2.1 ≤ q) (hRn : ∀ (j : Nat) (q : Nat × va_E), ([] : va_W)[j]? = some q → ¬ A q.1) : ∀ (H : Heap) (locs : List Loc) (ls : Array Slot), wp_Sk_init post u0 → va_P G.1 vwCl [(a0_0, .inr (3, [.int (skW u0), .int (skP u0), .int (skF u0)]))] H → va_D A [(a0_0, .inr (3, [.int (skW u0), .int (skP u0), .int (skF u0)]))] → va_S A s.heap H locs → lv_has ls 1 [(0, .ref a0_0)] → W p l e rm_Sk_init s m args below meth c H locs 0 0 (MQ below (va_Qv post (fun (u : SkC) (t : State) => va_P G.1 vwCl [(a0_0, .inr (3, [.int (skW u), .int (skP u), .int (skF u)]))] t.heap) A) args s 0 0 A) (F0 m 0 ls []) := by
  obtain ⟨hx, hb, hr, hts, hown, hlocks, hml, hC⟩ := id E
  have hK := hC.1
  intro H locs ls h hP hD hS hl
  unfold wp_Sk_init at h
  refine lv_aload_n hx hb d_Sk_init_0 rfl (lv_at hl 0 rfl) ?_
  refine W.objInit hx hb hown (hts _ b_82) (hts _ b_69) (hts _ b_70) rfl (by rw [hml]; exact hl.1) rfl d_Sk_init_1 (Nat.le_of_ble_eq_true rfl) (Nat.le_of_ble_eq_true rfl) ?_
  refine W.eq (g2 := F0 m 4 ls []) rfl ?_
  exact W.vret hx hb hr (fun t ht hW => ⟨⟨_, rfl, h, vaP_at ht hP⟩, hS.F ht⟩) hS.2.2 d_Sk_init_4
set_option maxHeartbeats 4000000 in
set_option maxRecDepth 100000 in
theorem c_Sk_init (l : Launch) (G : GX) (a0_0 : Nat) (u0 : SkC) (sz : Nat) (post : SkC → Prop) (h : wp_Sk_init post u0) : Met l y_Sk_init wc_Sk_init rm_Sk_init (mW G [.ref a0_0] sz [(a0_0, .inr (3, [.int (skW u0), .int (skP u0), .int (skF u0)]))] []) (va_Qv post (fun (u : SkC) (t : State) => va_P G.1 vwCl [(a0_0, .inr (3, [.int (skW u), .int (skP u), .int (skF u)]))] t.heap) (va_A [(a0_0, .inr (3, [.int (skW u0), .int (skP u0), .int (skF u0)]))] sz)) 0 0 (va_A [(a0_0, .inr (3, [.int (skW u0), .int (skP u0), .int (skF u0)]))] sz) := by
  refine Met.ofW (cc := cc_Sk_init) (maxL := 1) (ret := none) (by decide) rfl ?_
  intro p e s m args below meth c s₁ B hml hv
  obtain ⟨rfl, hC, hsz, hP, hD0, hR, hap⟩ := hv
  have E : EN p s m ([.ref a0_0] : List Value).toArray meth c G R_Sk cc_Sk_init 1 none BG := ⟨B.exec, B.bytes, B.returns, fun w h => atoms_spec (ws := wc_Sk_init) B.pre w (List.mem_cons_of_mem _ h), findClass_of_methodNamed B.named, B.notSynchronized, hml, hC⟩
  subst hsz
  have hD := hD0.self (sz := s.heap.size)
  have hRn := mw_notA hR hap
  have hAB := mw_AB hD0 hC
  have hA : ∀ q : Nat, s.heap.size ≤ q → va_A [(a0_0, .inr (3, [.int (skW u0), .int (skP u0), .int (skF u0)]))] s.heap.size q := fun q z => Or.inr z
  generalize va_A [(a0_0, .inr (3, [.int (skW u0), .int (skP u0), .int (skF u0)]))] s.heap.size = A at hD hRn hAB hA ⊢
  have hl := lv_entry ([.ref a0_0]) (n := 1) (Nat.le_of_ble_eq_true rfl)
  rw [lg_entry_eq]
  generalize (lg_sl ([.ref a0_0]) ++ List.replicate (1 - (lg_sl ([.ref a0_0])).length) Slot.unset).toArray = ls at hl ⊢
  have hl : lv_has ls 1 [(0, .ref a0_0)] := hl
  exact t_Sk_init_in E hR hA hAB hRn _ _ _ h hP hD va_S.rf hl
