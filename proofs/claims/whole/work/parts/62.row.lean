set_option maxHeartbeats 4000000 in
set_option maxRecDepth 100000 in
theorem t_Rw_add_in {p : Program} {l : Launch} {e : Env} {s : State} {m : MethodId} {args : Array Value} {below : List Frame} {meth : Method} {c : Code} {G : GX} {a0_0 a0_1 : Nat} {post : Int32 → RowC → Prop} {A : Nat → Prop} {u0 : RowC} {x1 : Int32} (E : EN p s m args meth c G R_Rw cc_Rw_add 2 (some .boolean) BG) (hR : va_P G.1 vwCl [] s.heap) (hA : ∀ q : Nat, s.heap.size ≤ q → A q) (hAB : ∀ q : Nat, A q → G.2.2.1 ≤ q) (hRn : ∀ (j : Nat) (q : Nat × va_E), ([] : va_W)[j]? = some q → ¬ A q.1) : ∀ (H : Heap) (locs : List Loc) (ls : Array Slot), wp_Rw_add post u0 x1 → va_P G.1 vwCl [(a0_0, .inr (2, [.ref a0_1, .int (rwS u0)])), (a0_1, .inl (G.2.1 0, rwN u0, .inl (rwF u0)))] H → va_D A [(a0_0, .inr (2, [.ref a0_1, .int (rwS u0)])), (a0_1, .inl (G.2.1 0, rwN u0, .inl (rwF u0)))] → va_S A s.heap H locs → lv_has ls 2 [(0, .ref a0_0), (1, .int x1)] → W p l e rm_Rw_add s m args below meth c H locs 0 0 (MQ below (va_Qi post (fun (u : RowC) (t : State) => va_P G.1 vwCl [(a0_0, .inr (2, [.ref a0_1, .int (rwS u)])), (a0_1, .inl (G.2.1 0, rwN u, .inl (rwF u)))] t.heap) A) args s 0 0 A) (F0 m 0 ls []) := by
  obtain ⟨hx, hb, hr, hts, hown, hlocks, hml, hC⟩ := id E
  have hK := hC.1
  intro H locs ls h hP hD hS hl
  unfold wp_Rw_add at h
  refine lv_aload_n hx hb d_Rw_add_0 rfl (lv_at hl 0 rfl) ?_
  refine va_get (D := G.1) (ci := 2) (v := .int (rwS u0)) (C := R_Rw) (T := T_Rw) (N := 2) hx hb hts i_Rw hown hK hP 0 rfl rfl 1 (by decide) (hts _ b_52) (fun _ h9 => h9) rfl d_Rw_add_1 ?_
  refine lv_aload_n hx hb d_Rw_add_4 rfl (lv_at hl 0 rfl) ?_
  refine va_get (D := G.1) (ci := 2) (v := .ref a0_1) (C := R_Rw) (T := T_Rw) (N := 2) hx hb hts i_Rw hown hK hP 0 rfl rfl 0 (by decide) (hts _ b_53) (fun _ h9 => h9) rfl d_Rw_add_5 ?_
  refine va_alen hx hb hK hP 1 0 rfl rfl (v := Int32.ofNat (rwN u0)) rfl d_Rw_add_8 ?_
  refine lv_icmp_lt (tgt := 14) hx hb d_Rw_add_9 (by decide) (fun c9 => ?_) (fun c9 => ?_)
  · have h := h.1 c9
    refine lv_aload_n hx hb d_Rw_add_14 rfl (lv_at hl 0 rfl) ?_
    refine va_get (D := G.1) (ci := 2) (v := .ref a0_1) (C := R_Rw) (T := T_Rw) (N := 2) hx hb hts i_Rw hown hK hP 0 rfl rfl 0 (by decide) (hts _ b_53) (fun _ h9 => h9) rfl d_Rw_add_15 ?_
    refine lv_aload_n hx hb d_Rw_add_18 rfl (lv_at hl 0 rfl) ?_
    refine va_get (D := G.1) (ci := 2) (v := .int (rwS u0)) (C := R_Rw) (T := T_Rw) (N := 2) hx hb hts i_Rw hown hK hP 0 rfl rfl 1 (by decide) (hts _ b_52) (fun _ h9 => h9) rfl d_Rw_add_19 ?_
    refine lv_iload_n hx hb d_Rw_add_22 rfl (lv_at hl 1 rfl) ?_
    have hi9 := h.1
    have h := h.2
    refine va_cast hx hb hK hP hD hS 1 0 rfl rfl hi9 d_Rw_add_23 (fun H locs hP hD hS => ?_)
    have hP : va_P G.1 vwCl [(a0_0, .inr (2, [.ref a0_1, .int (rwS u0)])), (a0_1, .inl (G.2.1 0, rwN u0, .inl (upd (rwF u0) (rwS u0).toNatClampNeg (vp_nar .char x1))))] H := hP
    have hD : va_D A [(a0_0, .inr (2, [.ref a0_1, .int (rwS u0)])), (a0_1, .inl (G.2.1 0, rwN u0, .inl (upd (rwF u0) (rwS u0).toNatClampNeg (vp_nar .char x1))))] := hD
    refine lv_aload_n hx hb d_Rw_add_24 rfl (lv_at hl 0 rfl) ?_
    refine lv_dup hx hb d_Rw_add_25 rfl ?_
    refine va_get (D := G.1) (ci := 2) (v := .int (rwS u0)) (C := R_Rw) (T := T_Rw) (N := 2) hx hb hts i_Rw hown hK hP 0 rfl rfl 1 (by decide) (hts _ b_52) (fun _ h9 => h9) rfl d_Rw_add_26 ?_
    refine lv_iconst (v := 1) hx hb d_Rw_add_29 (by decide) ?_
    refine lv_iadd hx hb d_Rw_add_30 ?_
    refine va_put (D := G.1) (ci := 2) (v := .int ((rwS u0) + 1)) (ty := .int) (C := R_Rw) (T := T_Rw) (N := 2) hx hb hts i_Rw ty_Rw tyok_Rw nm_Rw hown hK hP hD hS 0 rfl rfl 1 (by decide) (hts _ b_52) (fun _ h9 => h9) rfl (by decide +kernel) rfl rfl (Nat.le_of_ble_eq_true rfl) d_Rw_add_31 (fun H locs hP hD hS => ?_)
    have hP : va_P G.1 vwCl [(a0_0, .inr (2, [.ref a0_1, .int ((rwS u0) + 1)])), (a0_1, .inl (G.2.1 0, rwN u0, .inl (upd (rwF u0) (rwS u0).toNatClampNeg (vp_nar .char x1))))] H := hP
    have hD : va_D A [(a0_0, .inr (2, [.ref a0_1, .int ((rwS u0) + 1)])), (a0_1, .inl (G.2.1 0, rwN u0, .inl (upd (rwF u0) (rwS u0).toNatClampNeg (vp_nar .char x1))))] := hD
    refine lv_iconst (v := 1) hx hb d_Rw_add_34 (by decide) ?_
    exact W.zret hx hb hr (by decide) (fun t ht hW => ⟨⟨_, _, rfl, h, vaP_at ht hP⟩, hS.F ht⟩) hS.2.2 d_Rw_add_35
  · have h := h.2 c9
    refine lv_iconst (v := 0) hx hb d_Rw_add_12 (by decide) ?_
    exact W.zret hx hb hr (by decide) (fun t ht hW => ⟨⟨_, _, rfl, h, vaP_at ht hP⟩, hS.F ht⟩) hS.2.2 d_Rw_add_13
set_option maxHeartbeats 4000000 in
set_option maxRecDepth 100000 in
theorem c_Rw_add (l : Launch) (G : GX) (a0_0 a0_1 : Nat) (u0 : RowC) (x1 : Int32) (sz : Nat) (post : Int32 → RowC → Prop) (h : wp_Rw_add post u0 x1) : Met l y_Rw_add wc_Rw_add rm_Rw_add (mW G [.ref a0_0, .int x1] sz [(a0_0, .inr (2, [.ref a0_1, .int (rwS u0)])), (a0_1, .inl (G.2.1 0, rwN u0, .inl (rwF u0)))] []) (va_Qi post (fun (u : RowC) (t : State) => va_P G.1 vwCl [(a0_0, .inr (2, [.ref a0_1, .int (rwS u)])), (a0_1, .inl (G.2.1 0, rwN u, .inl (rwF u)))] t.heap) (va_A [(a0_0, .inr (2, [.ref a0_1, .int (rwS u0)])), (a0_1, .inl (G.2.1 0, rwN u0, .inl (rwF u0)))] sz)) 0 0 (va_A [(a0_0, .inr (2, [.ref a0_1, .int (rwS u0)])), (a0_1, .inl (G.2.1 0, rwN u0, .inl (rwF u0)))] sz) := by
  refine Met.ofW (cc := cc_Rw_add) (maxL := 2) (ret := (some .boolean)) (by decide) rfl ?_
  intro p e s m args below meth c s₁ B hml hv
  obtain ⟨rfl, hC, hsz, hP, hD0, hR, hap⟩ := hv
  have E : EN p s m ([.ref a0_0, .int x1] : List Value).toArray meth c G R_Rw cc_Rw_add 2 (some .boolean) BG := ⟨B.exec, B.bytes, B.returns, fun w h => atoms_spec (ws := wc_Rw_add) B.pre w (List.mem_cons_of_mem _ h), findClass_of_methodNamed B.named, B.notSynchronized, hml, hC⟩
  subst hsz
  have hD := hD0.self (sz := s.heap.size)
  have hRn := mw_notA hR hap
  have hAB := mw_AB hD0 hC
  have hA : ∀ q : Nat, s.heap.size ≤ q → va_A [(a0_0, .inr (2, [.ref a0_1, .int (rwS u0)])), (a0_1, .inl (G.2.1 0, rwN u0, .inl (rwF u0)))] s.heap.size q := fun q z => Or.inr z
  generalize va_A [(a0_0, .inr (2, [.ref a0_1, .int (rwS u0)])), (a0_1, .inl (G.2.1 0, rwN u0, .inl (rwF u0)))] s.heap.size = A at hD hRn hAB hA ⊢
  have hl := lv_entry ([.ref a0_0, .int x1]) (n := 2) (Nat.le_of_ble_eq_true rfl)
  rw [lg_entry_eq]
  generalize (lg_sl ([.ref a0_0, .int x1]) ++ List.replicate (2 - (lg_sl ([.ref a0_0, .int x1])).length) Slot.unset).toArray = ls at hl ⊢
  have hl : lv_has ls 2 [(0, .ref a0_0), (1, .int x1)] := hl
  exact t_Rw_add_in E hR hA hAB hRn _ _ _ h hP hD va_S.rf hl
set_option maxHeartbeats 4000000 in
set_option maxRecDepth 100000 in
theorem tb_Rw_addText_2 {p : Program} {l : Launch} {e : Env} {s : State} {m : MethodId} {args : Array Value} {below : List Frame} {meth : Method} {c : Code} {G : GX} {a0_0 a0_1 : Nat} {post : RowC → Prop} {A : Nat → Prop} (E : EN p s m args meth c G R_Rw cc_Rw_addText 3 none BG) (hR : va_P G.1 vwCl [] s.heap) (hA : ∀ q : Nat, s.heap.size ≤ q → A q) (hAB : ∀ q : Nat, A q → G.2.2.1 ≤ q) (hRn : ∀ (j : Nat) (q : Nat × va_E), ([] : va_W)[j]? = some q → ¬ A q.1) {K0 : Nat → Int32 → RowC → Prop} (hK0 : ∀ (y1 : Nat) (y2 : Int32) (w0 : RowC) (H : Heap) (locs : List Loc) (ls : Array Slot), K0 y1 y2 w0 → va_P G.1 vwCl [(a0_0, .inr (2, [.ref a0_1, .int (rwS w0)])), (a0_1, .inl (G.2.1 0, rwN w0, .inl (rwF w0)))] H → va_D A [(a0_0, .inr (2, [.ref a0_1, .int (rwS w0)])), (a0_1, .inl (G.2.1 0, rwN w0, .inl (rwF w0)))] → va_S A s.heap H locs → lv_has ls 3 [(0, .ref a0_0), (1, .ref (G.2.2.2.1 y1)), (2, .int y2)] → W p l e rm_Rw_addText s m args below meth c H locs 0 0 (MQ below (va_Qv post (fun (u : RowC) (t : State) => va_P G.1 vwCl [(a0_0, .inr (2, [.ref a0_1, .int (rwS u)])), (a0_1, .inl (G.2.1 0, rwN u, .inl (rwF u)))] t.heap) A) args s 0 0 A) (F0 m 2 ls [])) : ∀ (y1 : Nat) (y2 : Int32) (w0 : RowC) (H : Heap) (locs : List Loc) (ls : Array Slot), wb_Rw_addText_2 post K0 y1 y2 w0 → va_P G.1 vwCl [(a0_0, .inr (2, [.ref a0_1, .int (rwS w0)])), (a0_1, .inl (G.2.1 0, rwN w0, .inl (rwF w0)))] H → va_D A [(a0_0, .inr (2, [.ref a0_1, .int (rwS w0)])), (a0_1, .inl (G.2.1 0, rwN w0, .inl (rwF w0)))] → va_S A s.heap H locs → lv_has ls 3 [(0, .ref a0_0), (1, .ref (G.2.2.2.1 y1)), (2, .int y2)] → W p l e rm_Rw_addText s m args below meth c H locs 0 0 (MQ below (va_Qv post (fun (u : RowC) (t : State) => va_P G.1 vwCl [(a0_0, .inr (2, [.ref a0_1, .int (rwS u)])), (a0_1, .inl (G.2.1 0, rwN u, .inl (rwF u)))] t.heap) A) args s 0 0 A) (F0 m 2 ls []) := by
  obtain ⟨hx, hb, hr, hts, hown, hlocks, hml, hC⟩ := id E
  have hK := hC.1
  intro y1 y2 w0  H locs ls h hP hD hS hl
  unfold wb_Rw_addText_2 at h
  refine lv_iload_n hx hb d_Rw_addText_2 rfl (lv_at hl 2 rfl) ?_
  refine lv_aload_n hx hb d_Rw_addText_3 rfl (lv_at hl 1 rfl) ?_
  have hRc : va_P G.1 vwCl [] H := vaP_nil
  have hk9 := h.1
  have h := h.2
  refine vp_callSi (va_runV (As := []) (rest := [.int y2]) ⟨hx, hb, hml, hown, hts⟩ (c_J_length l G y1 _ h) (cwV 0 hts (gwV b_54 b_39 b_40 b_12 b_37) rfl rfl rfl hd_JS_length ⟨Nat.le_of_ble_eq_true rfl, Nat.le_of_ble_eq_true rfl⟩) ⟨mP_blind, vk_recv hC.2.2.2.2.1 hk9 (va_S_up hS hAB), fun U hU hW => ⟨rfl, hC.to hW hU hS hAB, by rw [hU]; exact hRc⟩⟩ rfl rfl hl.1 rfl (lv_room (Nat.le_of_ble_eq_true rfl)) d_Rw_addText_4 ⟨Nat.le_of_ble_eq_true rfl, Nat.le_of_ble_eq_true rfl⟩).run (fun r5 h => ?_)
  refine lv_icmp_ge (tgt := 26) hx hb d_Rw_addText_7 (by decide) (fun c9 => ?_) (fun c9 => ?_)
  · have h := h.1 c9
    exact W.vret hx hb hr (fun t ht hW => ⟨⟨_, rfl, h, vaP_at ht hP⟩, hS.F ht⟩) hS.2.2 d_Rw_addText_26
  · have h := h.2 c9
    refine lv_aload_n hx hb d_Rw_addText_10 rfl (lv_at hl 0 rfl) ?_
    refine lv_aload_n hx hb d_Rw_addText_11 rfl (lv_at hl 1 rfl) ?_
    refine lv_iload_n hx hb d_Rw_addText_12 rfl (lv_at hl 2 rfl) ?_
    have hRc : va_P G.1 vwCl [] H := vaP_nil
    have hk9 := h.1
    have h := h.2
    refine vp_callSi (va_runV (As := [.int y2]) (rest := [.ref a0_0]) ⟨hx, hb, hml, hown, hts⟩ (c_J_charAt l G y1 y2 _ h) (cwV 1 hts (gwV b_56 b_57 b_58 b_12 b_55) rfl rfl rfl hd_JS_charAt ⟨Nat.le_of_ble_eq_true rfl, Nat.le_of_ble_eq_true rfl⟩) ⟨mP_blind, vk_recv hC.2.2.2.2.1 hk9 (va_S_up hS hAB), fun U hU hW => ⟨rfl, hC.to hW hU hS hAB, by rw [hU]; exact hRc⟩⟩ rfl rfl hl.1 rfl (lv_room (Nat.le_of_ble_eq_true rfl)) d_Rw_addText_13 ⟨Nat.le_of_ble_eq_true rfl, Nat.le_of_ble_eq_true rfl⟩).run (fun r6 h => ?_)
    have hRc : va_P G.1 vwCl [] H := vaP_nil
    have hPc := hP.sub (ws' := [(a0_0, .inr (2, [.ref a0_1, .int (rwS w0)])), (a0_1, .inl (G.2.1 0, rwN w0, .inl (rwF w0)))]) [0, 1] rfl
    have hDc := hD.sub (ws' := [(a0_0, .inr (2, [.ref a0_1, .int (rwS w0)])), (a0_1, .inl (G.2.1 0, rwN w0, .inl (rwF w0)))]) [0, 1] (by decide) rfl
    have hFc := va_free (wc := [(a0_0, .inr (2, [.ref a0_1, .int (rwS w0)])), (a0_1, .inl (G.2.1 0, rwN w0, .inl (rwF w0)))]) hD hS hA [0, 1] rfl
    have hQc : mw_ap [(a0_0, .inr (2, [.ref a0_1, .int (rwS w0)])), (a0_1, .inl (G.2.1 0, rwN w0, .inl (rwF w0)))] [] := mw_ap_nil
    refine va_calli (va_runV (As := [.int r6]) (rest := []) ⟨hx, hb, hml, hown, hts⟩ (c_Rw_add l G a0_0 a0_1 w0 r6 H.size _ h) (cwV 1 hts (gwV b_60 b_61 b_62 b_63 b_59) rfl rfl rfl hd_Rw_add ⟨Nat.le_of_ble_eq_true rfl, Nat.le_of_ble_eq_true rfl⟩) ⟨mW_blind, va_recv hK hPc (ci := 2) (q0 := 0) rfl rfl, fun U hU hW => ⟨rfl, hC.to hW hU hS hAB, by rw [hU], by rw [hU]; exact hPc, hDc.weaken (fun _ _ _ => hAB _), by rw [hU]; exact hRc, hQc⟩⟩ rfl rfl hl.1 rfl (lv_room (Nat.le_of_ble_eq_true rfl)) d_Rw_addText_16 ⟨Nat.le_of_ble_eq_true rfl, Nat.le_of_ble_eq_true rfl⟩) hS (fun q _ h => hFc q h) hFc (fun r8 v7 t H1 locs ht hvm h hB hz1 hk1 hS => ?_)
    rw [ht] at hB
    have hj9 := mw_join (wr := []) (w1 := [(a0_0, .inr (2, [.ref a0_1, .int (rwS v7)])), (a0_1, .inl (G.2.1 0, rwN v7, .inl (rwF v7)))]) hP hD [0, 1] [] rfl rfl (by decide) (by decide) (by decide) hk1 hFc hB rfl
    have hP : va_P G.1 vwCl [(a0_0, .inr (2, [.ref a0_1, .int (rwS v7)])), (a0_1, .inl (G.2.1 0, rwN v7, .inl (rwF v7)))] H1 := hj9.1
    have hD : va_D A [(a0_0, .inr (2, [.ref a0_1, .int (rwS v7)])), (a0_1, .inl (G.2.1 0, rwN v7, .inl (rwF v7)))] := hj9.2
    generalize H1 = H at hP hS ⊢
    refine lv_pop hx hb d_Rw_addText_19 rfl ?_
    refine lv_iinc (v := y2 + 1) (lv' := [(2, .int (y2 + 1)), (0, .ref a0_0), (1, .ref (G.2.2.2.1 y1))]) hx hb d_Rw_addText_20 hl (k := 2) rfl rfl (by decide) rfl (fun ls hl => ?_)
    refine lv_goto (tgt := 2) hx hb d_Rw_addText_23 (by decide) ?_
    exact hK0 _ _ _ _ _ _ h hP hD hS (lv_sub hl [1, 2, 0] rfl)
set_option maxHeartbeats 4000000 in
set_option maxRecDepth 100000 in
theorem t_Rw_addText_2 {p : Program} {l : Launch} {e : Env} {s : State} {m : MethodId} {args : Array Value} {below : List Frame} {meth : Method} {c : Code} {G : GX} {a0_0 a0_1 : Nat} {post : RowC → Prop} {A : Nat → Prop} (E : EN p s m args meth c G R_Rw cc_Rw_addText 3 none BG) (hR : va_P G.1 vwCl [] s.heap) (hA : ∀ q : Nat, s.heap.size ≤ q → A q) (hAB : ∀ q : Nat, A q → G.2.2.1 ≤ q) (hRn : ∀ (j : Nat) (q : Nat × va_E), ([] : va_W)[j]? = some q → ¬ A q.1) : ∀ (n : Nat) (y1 : Nat) (y2 : Int32) (w0 : RowC) (H : Heap) (locs : List Loc) (ls : Array Slot), w_Rw_addText_2 post n y1 y2 w0 → va_P G.1 vwCl [(a0_0, .inr (2, [.ref a0_1, .int (rwS w0)])), (a0_1, .inl (G.2.1 0, rwN w0, .inl (rwF w0)))] H → va_D A [(a0_0, .inr (2, [.ref a0_1, .int (rwS w0)])), (a0_1, .inl (G.2.1 0, rwN w0, .inl (rwF w0)))] → va_S A s.heap H locs → lv_has ls 3 [(0, .ref a0_0), (1, .ref (G.2.2.2.1 y1)), (2, .int y2)] → W p l e rm_Rw_addText s m args below meth c H locs 0 0 (MQ below (va_Qv post (fun (u : RowC) (t : State) => va_P G.1 vwCl [(a0_0, .inr (2, [.ref a0_1, .int (rwS u)])), (a0_1, .inl (G.2.1 0, rwN u, .inl (rwF u)))] t.heap) A) args s 0 0 A) (F0 m 2 ls []) := by
  intro n
  induction n with
  | zero => intro y1 y2 w0  H locs ls h; exact h.elim
  | succ n ih =>
    intro y1 y2 w0  H locs ls h hP hD hS hl
    exact tb_Rw_addText_2 E hR hA hAB hRn  ih _ _ _ _ _ _ h hP hD hS hl
set_option maxHeartbeats 4000000 in
set_option maxRecDepth 100000 in
theorem t_Rw_addText_in {p : Program} {l : Launch} {e : Env} {s : State} {m : MethodId} {args : Array Value} {below : List Frame} {meth : Method} {c : Code} {G : GX} {a0_0 a0_1 : Nat} {post : RowC → Prop} {A : Nat → Prop} {u0 : RowC} {x1 : Nat} (E : EN p s m args meth c G R_Rw cc_Rw_addText 3 none BG) (hR : va_P G.1 vwCl [] s.heap) (hA : ∀ q : Nat, s.heap.size ≤ q → A q) (hAB : ∀ q : Nat, A q → G.2.2.1 ≤ q) (hRn : ∀ (j : Nat) (q : Nat × va_E), ([] : va_W)[j]? = some q → ¬ A q.1) : ∀ (H : Heap) (locs : List Loc) (ls : Array Slot), wp_Rw_addText post u0 x1 → va_P G.1 vwCl [(a0_0, .inr (2, [.ref a0_1, .int (rwS u0)])), (a0_1, .inl (G.2.1 0, rwN u0, .inl (rwF u0)))] H → va_D A [(a0_0, .inr (2, [.ref a0_1, .int (rwS u0)])), (a0_1, .inl (G.2.1 0, rwN u0, .inl (rwF u0)))] → va_S A s.heap H locs → lv_has ls 3 [(0, .ref a0_0), (1, .ref (G.2.2.2.1 x1))] → W p l e rm_Rw_addText s m args below meth c H locs 0 0 (MQ below (va_Qv post (fun (u : RowC) (t : State) => va_P G.1 vwCl [(a0_0, .inr (2, [.ref a0_1, .int (rwS u)])), (a0_1, .inl (G.2.1 0, rwN u, .inl (rwF u)))] t.heap) A) args s 0 0 A) (F0 m 0 ls []) := by
  obtain ⟨hx, hb, hr, hts, hown, hlocks, hml, hC⟩ := id E
  have hK := hC.1
  intro H locs ls h hP hD hS hl
  unfold wp_Rw_addText at h
  refine lv_iconst (v := 0) hx hb d_Rw_addText_0 (by decide) ?_
  refine lv_istore_n (lv' := [(2, .int 0), (0, .ref a0_0), (1, .ref (G.2.2.2.1 x1))]) hx hb d_Rw_addText_1 rfl hl (by decide) rfl (fun ls hl => ?_)
  obtain ⟨n, h⟩ := h
  exact t_Rw_addText_2 E hR hA hAB hRn  n _ _ _ _ _ _ h hP hD hS (lv_sub hl [1, 2, 0] rfl)
set_option maxHeartbeats 4000000 in
set_option maxRecDepth 100000 in
theorem c_Rw_addText (l : Launch) (G : GX) (a0_0 a0_1 : Nat) (u0 : RowC) (x1 : Nat) (sz : Nat) (post : RowC → Prop) (h : wp_Rw_addText post u0 x1) : Met l y_Rw_addText wc_Rw_addText rm_Rw_addText (mW G [.ref a0_0, .ref (G.2.2.2.1 x1)] sz [(a0_0, .inr (2, [.ref a0_1, .int (rwS u0)])), (a0_1, .inl (G.2.1 0, rwN u0, .inl (rwF u0)))] []) (va_Qv post (fun (u : RowC) (t : State) => va_P G.1 vwCl [(a0_0, .inr (2, [.ref a0_1, .int (rwS u)])), (a0_1, .inl (G.2.1 0, rwN u, .inl (rwF u)))] t.heap) (va_A [(a0_0, .inr (2, [.ref a0_1, .int (rwS u0)])), (a0_1, .inl (G.2.1 0, rwN u0, .inl (rwF u0)))] sz)) 0 0 (va_A [(a0_0, .inr (2, [.ref a0_1, .int (rwS u0)])), (a0_1, .inl (G.2.1 0, rwN u0, .inl (rwF u0)))] sz) := by
  refine Met.ofW (cc := cc_Rw_addText) (maxL := 3) (ret := none) (by decide) rfl ?_
  intro p e s m args below meth c s₁ B hml hv
  obtain ⟨rfl, hC, hsz, hP, hD0, hR, hap⟩ := hv
  have E : EN p s m ([.ref a0_0, .ref (G.2.2.2.1 x1)] : List Value).toArray meth c G R_Rw cc_Rw_addText 3 none BG := ⟨B.exec, B.bytes, B.returns, fun w h => atoms_spec (ws := wc_Rw_addText) B.pre w (List.mem_cons_of_mem _ h), findClass_of_methodNamed B.named, B.notSynchronized, hml, hC⟩
  subst hsz
  have hD := hD0.self (sz := s.heap.size)
  have hRn := mw_notA hR hap
  have hAB := mw_AB hD0 hC
  have hA : ∀ q : Nat, s.heap.size ≤ q → va_A [(a0_0, .inr (2, [.ref a0_1, .int (rwS u0)])), (a0_1, .inl (G.2.1 0, rwN u0, .inl (rwF u0)))] s.heap.size q := fun q z => Or.inr z
  generalize va_A [(a0_0, .inr (2, [.ref a0_1, .int (rwS u0)])), (a0_1, .inl (G.2.1 0, rwN u0, .inl (rwF u0)))] s.heap.size = A at hD hRn hAB hA ⊢
  have hl := lv_entry ([.ref a0_0, .ref (G.2.2.2.1 x1)]) (n := 3) (Nat.le_of_ble_eq_true rfl)
  rw [lg_entry_eq]
  generalize (lg_sl ([.ref a0_0, .ref (G.2.2.2.1 x1)]) ++ List.replicate (3 - (lg_sl ([.ref a0_0, .ref (G.2.2.2.1 x1)])).length) Slot.unset).toArray = ls at hl ⊢
  have hl : lv_has ls 3 [(0, .ref a0_0), (1, .ref (G.2.2.2.1 x1))] := hl
  exact t_Rw_addText_in E hR hA hAB hRn _ _ _ h hP hD va_S.rf hl
set_option maxHeartbeats 4000000 in
set_option maxRecDepth 100000 in
theorem tb_Rw_holdsSameAs_15 {p : Program} {l : Launch} {e : Env} {s : State} {m : MethodId} {args : Array Value} {below : List Frame} {meth : Method} {c : Code} {G : GX} {a0_0 a0_1 a1_0 a1_1 : Nat} {u0 : RowC} {u1 : RowC} {post : Int32 → Prop} (E : EN p s m args meth c G R_Rw cc_Rw_holdsSameAs 3 (some .boolean) BG) (hR : va_P G.1 vwCl [(a0_0, .inr (2, [.ref a0_1, .int (rwS u0)])), (a0_1, .inl (G.2.1 0, rwN u0, .inl (rwF u0))), (a1_0, .inr (2, [.ref a1_1, .int (rwS u1)])), (a1_1, .inl (G.2.1 0, rwN u1, .inl (rwF u1)))] s.heap) {K0 : Int32 → Prop} (hK0 : ∀ (y2 : Int32) (ls : Array Slot), K0 y2 → lv_has ls 3 [(0, .ref a0_0), (1, .ref a1_0), (2, .int y2)] → W p l e rm_Rw_holdsSameAs s m args below meth c s.heap [] 0 0 (MQ below (vp_Si post) args s 0 0 (fun _ => False)) (F0 m 15 ls [])) : ∀ (y2 : Int32) (ls : Array Slot), wb_Rw_holdsSameAs_15 post u0 u1 K0 y2 → lv_has ls 3 [(0, .ref a0_0), (1, .ref a1_0), (2, .int y2)] → W p l e rm_Rw_holdsSameAs s m args below meth c s.heap [] 0 0 (MQ below (vp_Si post) args s 0 0 (fun _ => False)) (F0 m 15 ls []) := by
  obtain ⟨hx, hb, hr, hts, hown, hlocks, hml, hC⟩ := id E
  have hK := hC.1
  intro y2  ls h hl
  unfold wb_Rw_holdsSameAs_15 at h
  refine lv_iload_n hx hb d_Rw_holdsSameAs_15 rfl (lv_at hl 2 rfl) ?_
  refine lv_aload_n hx hb d_Rw_holdsSameAs_16 rfl (lv_at hl 0 rfl) ?_
  refine va_get (D := G.1) (ci := 2) (v := .int (rwS u0)) (C := R_Rw) (T := T_Rw) (N := 2) hx hb hts i_Rw hown hK hR 0 rfl rfl 1 (by decide) (hts _ b_52) (fun _ h9 => h9) rfl d_Rw_holdsSameAs_17 ?_
  refine lv_icmp_ge (tgt := 64) hx hb d_Rw_holdsSameAs_20 (by decide) (fun c9 => ?_) (fun c9 => ?_)
  · have h := h.1 c9
    refine lv_iconst (v := 1) hx hb d_Rw_holdsSameAs_64 (by decide) ?_
    exact W.zret hx hb hr (by decide) (fun t ht hW => ⟨_, rfl, h, ht⟩) (fun _ z => by cases z) d_Rw_holdsSameAs_65
  · have h := h.2 c9
    refine lv_iload_n hx hb d_Rw_holdsSameAs_23 rfl (lv_at hl 2 rfl) ?_
    refine lv_aload_n hx hb d_Rw_holdsSameAs_24 rfl (lv_at hl 0 rfl) ?_
    refine va_get (D := G.1) (ci := 2) (v := .ref a0_1) (C := R_Rw) (T := T_Rw) (N := 2) hx hb hts i_Rw hown hK hR 0 rfl rfl 0 (by decide) (hts _ b_53) (fun _ h9 => h9) rfl d_Rw_holdsSameAs_25 ?_
    refine va_alen hx hb hK hR 1 0 rfl rfl (v := Int32.ofNat (rwN u0)) rfl d_Rw_holdsSameAs_28 ?_
    refine lv_icmp_ge (tgt := 64) hx hb d_Rw_holdsSameAs_29 (by decide) (fun c9 => ?_) (fun c9 => ?_)
    · have h := h.1 c9
      refine lv_iconst (v := 1) hx hb d_Rw_holdsSameAs_64 (by decide) ?_
      exact W.zret hx hb hr (by decide) (fun t ht hW => ⟨_, rfl, h, ht⟩) (fun _ z => by cases z) d_Rw_holdsSameAs_65
    · have h := h.2 c9
      refine lv_iload_n hx hb d_Rw_holdsSameAs_32 rfl (lv_at hl 2 rfl) ?_
      refine lv_aload_n hx hb d_Rw_holdsSameAs_33 rfl (lv_at hl 1 rfl) ?_
      refine va_get (D := G.1) (ci := 2) (v := .ref a1_1) (C := R_Rw) (T := T_Rw) (N := 2) hx hb hts i_Rw hown hK hR 2 rfl rfl 0 (by decide) (hts _ b_53) (fun _ h9 => h9) rfl d_Rw_holdsSameAs_34 ?_
      refine va_alen hx hb hK hR 3 0 rfl rfl (v := Int32.ofNat (rwN u1)) rfl d_Rw_holdsSameAs_37 ?_
      refine lv_icmp_ge (tgt := 64) hx hb d_Rw_holdsSameAs_38 (by decide) (fun c9 => ?_) (fun c9 => ?_)
      · have h := h.1 c9
        refine lv_iconst (v := 1) hx hb d_Rw_holdsSameAs_64 (by decide) ?_
        exact W.zret hx hb hr (by decide) (fun t ht hW => ⟨_, rfl, h, ht⟩) (fun _ z => by cases z) d_Rw_holdsSameAs_65
      · have h := h.2 c9
        refine lv_aload_n hx hb d_Rw_holdsSameAs_41 rfl (lv_at hl 0 rfl) ?_
        refine va_get (D := G.1) (ci := 2) (v := .ref a0_1) (C := R_Rw) (T := T_Rw) (N := 2) hx hb hts i_Rw hown hK hR 0 rfl rfl 0 (by decide) (hts _ b_53) (fun _ h9 => h9) rfl d_Rw_holdsSameAs_42 ?_
        refine lv_iload_n hx hb d_Rw_holdsSameAs_45 rfl (lv_at hl 2 rfl) ?_
        have hi9 := h.1
        have h := h.2
        refine va_cald hx hb hK hR 1 0 rfl rfl hi9 d_Rw_holdsSameAs_46 ?_
        refine lv_aload_n hx hb d_Rw_holdsSameAs_47 rfl (lv_at hl 1 rfl) ?_
        refine va_get (D := G.1) (ci := 2) (v := .ref a1_1) (C := R_Rw) (T := T_Rw) (N := 2) hx hb hts i_Rw hown hK hR 2 rfl rfl 0 (by decide) (hts _ b_53) (fun _ h9 => h9) rfl d_Rw_holdsSameAs_48 ?_
        refine lv_iload_n hx hb d_Rw_holdsSameAs_51 rfl (lv_at hl 2 rfl) ?_
        have hi9 := h.1
        have h := h.2
        refine va_cald hx hb hK hR 3 0 rfl rfl hi9 d_Rw_holdsSameAs_52 ?_
        refine lv_icmp_eq (tgt := 58) hx hb d_Rw_holdsSameAs_53 (by decide) (fun c9 => ?_) (fun c9 => ?_)
        · have h := h.1 c9
          refine lv_iinc (v := y2 + 1) (lv' := [(2, .int (y2 + 1)), (0, .ref a0_0), (1, .ref a1_0)]) hx hb d_Rw_holdsSameAs_58 hl (k := 2) rfl rfl (by decide) rfl (fun ls hl => ?_)
          refine lv_goto (tgt := 15) hx hb d_Rw_holdsSameAs_61 (by decide) ?_
          exact hK0 _ _ h (lv_sub hl [1, 2, 0] rfl)
        · have h := h.2 c9
          refine lv_iconst (v := 0) hx hb d_Rw_holdsSameAs_56 (by decide) ?_
          exact W.zret hx hb hr (by decide) (fun t ht hW => ⟨_, rfl, h, ht⟩) (fun _ z => by cases z) d_Rw_holdsSameAs_57
set_option maxHeartbeats 4000000 in
set_option maxRecDepth 100000 in
theorem t_Rw_holdsSameAs_15 {p : Program} {l : Launch} {e : Env} {s : State} {m : MethodId} {args : Array Value} {below : List Frame} {meth : Method} {c : Code} {G : GX} {a0_0 a0_1 a1_0 a1_1 : Nat} {u0 : RowC} {u1 : RowC} {post : Int32 → Prop} (E : EN p s m args meth c G R_Rw cc_Rw_holdsSameAs 3 (some .boolean) BG) (hR : va_P G.1 vwCl [(a0_0, .inr (2, [.ref a0_1, .int (rwS u0)])), (a0_1, .inl (G.2.1 0, rwN u0, .inl (rwF u0))), (a1_0, .inr (2, [.ref a1_1, .int (rwS u1)])), (a1_1, .inl (G.2.1 0, rwN u1, .inl (rwF u1)))] s.heap) : ∀ (n : Nat) (y2 : Int32) (ls : Array Slot), w_Rw_holdsSameAs_15 post u0 u1 n y2 → lv_has ls 3 [(0, .ref a0_0), (1, .ref a1_0), (2, .int y2)] → W p l e rm_Rw_holdsSameAs s m args below meth c s.heap [] 0 0 (MQ below (vp_Si post) args s 0 0 (fun _ => False)) (F0 m 15 ls []) := by
  intro n
  induction n with
  | zero => intro y2  ls h; exact h.elim
  | succ n ih =>
    intro y2  ls h hl
    exact tb_Rw_holdsSameAs_15 E hR  ih _ _ h hl
set_option maxHeartbeats 4000000 in
set_option maxRecDepth 100000 in
theorem t_Rw_holdsSameAs_in {p : Program} {l : Launch} {e : Env} {s : State} {m : MethodId} {args : Array Value} {below : List Frame} {meth : Method} {c : Code} {G : GX} {a0_0 a0_1 a1_0 a1_1 : Nat} {u0 : RowC} {u1 : RowC} {post : Int32 → Prop}  (E : EN p s m args meth c G R_Rw cc_Rw_holdsSameAs 3 (some .boolean) BG) (hR : va_P G.1 vwCl [(a0_0, .inr (2, [.ref a0_1, .int (rwS u0)])), (a0_1, .inl (G.2.1 0, rwN u0, .inl (rwF u0))), (a1_0, .inr (2, [.ref a1_1, .int (rwS u1)])), (a1_1, .inl (G.2.1 0, rwN u1, .inl (rwF u1)))] s.heap) : ∀ (ls : Array Slot), wp_Rw_holdsSameAs post u0 u1 → lv_has ls 3 [(0, .ref a0_0), (1, .ref a1_0)] → W p l e rm_Rw_holdsSameAs s m args below meth c s.heap [] 0 0 (MQ below (vp_Si post) args s 0 0 (fun _ => False)) (F0 m 0 ls []) := by
  obtain ⟨hx, hb, hr, hts, hown, hlocks, hml, hC⟩ := id E
  have hK := hC.1
  intro ls h hl
  unfold wp_Rw_holdsSameAs at h
  refine lv_aload_n hx hb d_Rw_holdsSameAs_0 rfl (lv_at hl 0 rfl) ?_
  refine va_get (D := G.1) (ci := 2) (v := .int (rwS u0)) (C := R_Rw) (T := T_Rw) (N := 2) hx hb hts i_Rw hown hK hR 0 rfl rfl 1 (by decide) (hts _ b_52) (fun _ h9 => h9) rfl d_Rw_holdsSameAs_1 ?_
  refine lv_aload_n hx hb d_Rw_holdsSameAs_4 rfl (lv_at hl 1 rfl) ?_
  refine va_get (D := G.1) (ci := 2) (v := .int (rwS u1)) (C := R_Rw) (T := T_Rw) (N := 2) hx hb hts i_Rw hown hK hR 2 rfl rfl 1 (by decide) (hts _ b_52) (fun _ h9 => h9) rfl d_Rw_holdsSameAs_5 ?_
  refine lv_icmp_eq (tgt := 13) hx hb d_Rw_holdsSameAs_8 (by decide) (fun c9 => ?_) (fun c9 => ?_)
  · have h := h.1 c9
    refine lv_iconst (v := 0) hx hb d_Rw_holdsSameAs_13 (by decide) ?_
    refine lv_istore_n (lv' := [(2, .int 0), (0, .ref a0_0), (1, .ref a1_0)]) hx hb d_Rw_holdsSameAs_14 rfl hl (by decide) rfl (fun ls hl => ?_)
    obtain ⟨n, h⟩ := h
    exact t_Rw_holdsSameAs_15 E hR  n _ _ h (lv_sub hl [1, 2, 0] rfl)
  · have h := h.2 c9
    refine lv_iconst (v := 0) hx hb d_Rw_holdsSameAs_11 (by decide) ?_
    exact W.zret hx hb hr (by decide) (fun t ht hW => ⟨_, rfl, h, ht⟩) (fun _ z => by cases z) d_Rw_holdsSameAs_12
set_option maxHeartbeats 4000000 in
set_option maxRecDepth 100000 in
theorem c_Rw_holdsSameAs (l : Launch) (G : GX) (a0_0 a0_1 a1_0 a1_1 : Nat) (u0 : RowC) (u1 : RowC) (post : Int32 → Prop) (h : wp_Rw_holdsSameAs post u0 u1) : Met l y_Rw_holdsSameAs wc_Rw_holdsSameAs rm_Rw_holdsSameAs (mP G [.ref a0_0, .ref a1_0] [(a0_0, .inr (2, [.ref a0_1, .int (rwS u0)])), (a0_1, .inl (G.2.1 0, rwN u0, .inl (rwF u0))), (a1_0, .inr (2, [.ref a1_1, .int (rwS u1)])), (a1_1, .inl (G.2.1 0, rwN u1, .inl (rwF u1)))]) (vp_Si post) 0 0 (fun _ => False) := by
  refine Met.ofW (cc := cc_Rw_holdsSameAs) (maxL := 3) (ret := (some .boolean)) (by decide) rfl ?_
  intro p e s m args below meth c s₁ B hml hv
  obtain ⟨rfl, hC, hR⟩ := hv
  have E : EN p s m ([.ref a0_0, .ref a1_0] : List Value).toArray meth c G R_Rw cc_Rw_holdsSameAs 3 (some .boolean) BG := ⟨B.exec, B.bytes, B.returns, fun w h => atoms_spec (ws := wc_Rw_holdsSameAs) B.pre w (List.mem_cons_of_mem _ h), findClass_of_methodNamed B.named, B.notSynchronized, hml, hC⟩
  have hl := lv_entry ([.ref a0_0, .ref a1_0]) (n := 3) (Nat.le_of_ble_eq_true rfl)
  rw [lg_entry_eq]
  generalize (lg_sl ([.ref a0_0, .ref a1_0]) ++ List.replicate (3 - (lg_sl ([.ref a0_0, .ref a1_0])).length) Slot.unset).toArray = ls at hl ⊢
  have hl : lv_has ls 3 [(0, .ref a0_0), (1, .ref a1_0)] := hl
  exact t_Rw_holdsSameAs_in E hR _ h hl
set_option maxHeartbeats 4000000 in
set_option maxRecDepth 100000 in
theorem t_Rw_addAll_in {p : Program} {l : Launch} {e : Env} {s : State} {m : MethodId} {args : Array Value} {below : List Frame} {meth : Method} {c : Code} {G : GX} {a0_0 a0_1 a1_0 : Nat} {u1 : CaC} {post : Int32 → RowC → Prop} {A : Nat → Prop} {u0 : RowC} (E : EN p s m args meth c G R_Rw cc_Rw_addAll 2 (some .boolean) BG) (hR : va_P G.1 vwCl [(a1_0, .inl (G.2.1 0, caN u1, .inl (caF u1)))] s.heap) (hA : ∀ q : Nat, s.heap.size ≤ q → A q) (hAB : ∀ q : Nat, A q → G.2.2.1 ≤ q) (hRn : ∀ (j : Nat) (q : Nat × va_E), ([(a1_0, .inl (G.2.1 0, caN u1, .inl (caF u1)))] : va_W)[j]? = some q → ¬ A q.1) : ∀ (H : Heap) (locs : List Loc) (ls : Array Slot), wp_Rw_addAll post u0 u1 → va_P G.1 vwCl [(a0_0, .inr (2, [.ref a0_1, .int (rwS u0)])), (a0_1, .inl (G.2.1 0, rwN u0, .inl (rwF u0)))] H → va_D A [(a0_0, .inr (2, [.ref a0_1, .int (rwS u0)])), (a0_1, .inl (G.2.1 0, rwN u0, .inl (rwF u0)))] → va_S A s.heap H locs → lv_has ls 2 [(0, .ref a0_0), (1, .ref a1_0)] → W p l e rm_Rw_addAll s m args below meth c H locs 0 0 (MQ below (va_Qi post (fun (u : RowC) (t : State) => va_P G.1 vwCl [(a0_0, .inr (2, [.ref a0_1, .int (rwS u)])), (a0_1, .inl (G.2.1 0, rwN u, .inl (rwF u)))] t.heap) A) args s 0 0 A) (F0 m 0 ls []) := by
  obtain ⟨hx, hb, hr, hts, hown, hlocks, hml, hC⟩ := id E
  have hK := hC.1
  intro H locs ls h hP hD hS hl
  unfold wp_Rw_addAll at h
  refine lv_aload_n hx hb d_Rw_addAll_0 rfl (lv_at hl 1 rfl) ?_
  refine va_alen hx hb hK (ro_now hR hRn hS) 0 0 rfl rfl (v := Int32.ofNat (caN u1)) rfl d_Rw_addAll_1 ?_
  refine lv_aload_n hx hb d_Rw_addAll_2 rfl (lv_at hl 0 rfl) ?_
  refine va_get (D := G.1) (ci := 2) (v := .ref a0_1) (C := R_Rw) (T := T_Rw) (N := 2) hx hb hts i_Rw hown hK hP 0 rfl rfl 0 (by decide) (hts _ b_53) (fun _ h9 => h9) rfl d_Rw_addAll_3 ?_
  refine va_alen hx hb hK hP 1 0 rfl rfl (v := Int32.ofNat (rwN u0)) rfl d_Rw_addAll_6 ?_
  refine lv_aload_n hx hb d_Rw_addAll_7 rfl (lv_at hl 0 rfl) ?_
  refine va_get (D := G.1) (ci := 2) (v := .int (rwS u0)) (C := R_Rw) (T := T_Rw) (N := 2) hx hb hts i_Rw hown hK hP 0 rfl rfl 1 (by decide) (hts _ b_52) (fun _ h9 => h9) rfl d_Rw_addAll_8 ?_
  refine lv_isub hx hb d_Rw_addAll_11 ?_
  refine lv_icmp_le (tgt := 17) hx hb d_Rw_addAll_12 (by decide) (fun c9 => ?_) (fun c9 => ?_)
  · have h := h.1 c9
    refine lv_aload_n hx hb d_Rw_addAll_17 rfl (lv_at hl 1 rfl) ?_
    refine lv_iconst (v := 0) hx hb d_Rw_addAll_18 (by decide) ?_
    refine lv_aload_n hx hb d_Rw_addAll_19 rfl (lv_at hl 0 rfl) ?_
    refine va_get (D := G.1) (ci := 2) (v := .ref a0_1) (C := R_Rw) (T := T_Rw) (N := 2) hx hb hts i_Rw hown hK hP 0 rfl rfl 0 (by decide) (hts _ b_53) (fun _ h9 => h9) rfl d_Rw_addAll_20 ?_
    refine lv_aload_n hx hb d_Rw_addAll_23 rfl (lv_at hl 0 rfl) ?_
    refine va_get (D := G.1) (ci := 2) (v := .int (rwS u0)) (C := R_Rw) (T := T_Rw) (N := 2) hx hb hts i_Rw hown hK hP 0 rfl rfl 1 (by decide) (hts _ b_52) (fun _ h9 => h9) rfl d_Rw_addAll_24 ?_
    refine lv_aload_n hx hb d_Rw_addAll_27 rfl (lv_at hl 1 rfl) ?_
    refine va_alen hx hb hK (ro_now hR hRn hS) 0 0 rfl rfl (v := Int32.ofNat (caN u1)) rfl d_Rw_addAll_28 ?_
    have hc9 := h.1
    have h := h.2
    refine ro_copy hx hb (hml.trans hl.1.symm) hown (hts _ b_64) (hts _ b_65) (hts _ b_66) (hts _ b_67) hK hP hD hS ((ro_now hR hRn hS) 0 _ rfl) 1 0 0 rfl rfl rfl rfl hc9.1.1 hc9.1.2.1 hc9.1.2.2.1 hc9.1.2.2.2.1 hc9.1.2.2.2.2 hc9.2 (Nat.le_of_ble_eq_true rfl) (Nat.le_of_ble_eq_true rfl) d_Rw_addAll_29 (fun H locs hP hD hS => ?_)
    have hP : va_P G.1 vwCl [(a0_0, .inr (2, [.ref a0_1, .int (rwS u0)])), (a0_1, .inl (G.2.1 0, rwN u0, .inl (va_cpy (caF u1) (rwF u0) (0 : Int32).toNatClampNeg (rwS u0).toNatClampNeg (Int32.ofNat (caN u1)).toNatClampNeg)))] H := hP
    have hD : va_D A [(a0_0, .inr (2, [.ref a0_1, .int (rwS u0)])), (a0_1, .inl (G.2.1 0, rwN u0, .inl (va_cpy (caF u1) (rwF u0) (0 : Int32).toNatClampNeg (rwS u0).toNatClampNeg (Int32.ofNat (caN u1)).toNatClampNeg)))] := hD
    refine lv_aload_n hx hb d_Rw_addAll_32 rfl (lv_at hl 0 rfl) ?_
    refine lv_dup hx hb d_Rw_addAll_33 rfl ?_
    refine va_get (D := G.1) (ci := 2) (v := .int (rwS u0)) (C := R_Rw) (T := T_Rw) (N := 2) hx hb hts i_Rw hown hK hP 0 rfl rfl 1 (by decide) (hts _ b_52) (fun _ h9 => h9) rfl d_Rw_addAll_34 ?_
    refine lv_aload_n hx hb d_Rw_addAll_37 rfl (lv_at hl 1 rfl) ?_
    refine va_alen hx hb hK (ro_now hR hRn hS) 0 0 rfl rfl (v := Int32.ofNat (caN u1)) rfl d_Rw_addAll_38 ?_
    refine lv_iadd hx hb d_Rw_addAll_39 ?_
    refine va_put (D := G.1) (ci := 2) (v := .int ((rwS u0) + (Int32.ofNat (caN u1)))) (ty := .int) (C := R_Rw) (T := T_Rw) (N := 2) hx hb hts i_Rw ty_Rw tyok_Rw nm_Rw hown hK hP hD hS 0 rfl rfl 1 (by decide) (hts _ b_52) (fun _ h9 => h9) rfl (by decide +kernel) rfl rfl (Nat.le_of_ble_eq_true rfl) d_Rw_addAll_40 (fun H locs hP hD hS => ?_)
    have hP : va_P G.1 vwCl [(a0_0, .inr (2, [.ref a0_1, .int ((rwS u0) + (Int32.ofNat (caN u1)))])), (a0_1, .inl (G.2.1 0, rwN u0, .inl (va_cpy (caF u1) (rwF u0) (0 : Int32).toNatClampNeg (rwS u0).toNatClampNeg (Int32.ofNat (caN u1)).toNatClampNeg)))] H := hP
    have hD : va_D A [(a0_0, .inr (2, [.ref a0_1, .int ((rwS u0) + (Int32.ofNat (caN u1)))])), (a0_1, .inl (G.2.1 0, rwN u0, .inl (va_cpy (caF u1) (rwF u0) (0 : Int32).toNatClampNeg (rwS u0).toNatClampNeg (Int32.ofNat (caN u1)).toNatClampNeg)))] := hD
    refine lv_iconst (v := 1) hx hb d_Rw_addAll_43 (by decide) ?_
    exact W.zret hx hb hr (by decide) (fun t ht hW => ⟨⟨_, _, rfl, h, vaP_at ht hP⟩, hS.F ht⟩) hS.2.2 d_Rw_addAll_44
  · have h := h.2 c9
    refine lv_iconst (v := 0) hx hb d_Rw_addAll_15 (by decide) ?_
    exact W.zret hx hb hr (by decide) (fun t ht hW => ⟨⟨_, _, rfl, h, vaP_at ht hP⟩, hS.F ht⟩) hS.2.2 d_Rw_addAll_16
set_option maxHeartbeats 4000000 in
set_option maxRecDepth 100000 in
theorem c_Rw_addAll (l : Launch) (G : GX) (a0_0 a0_1 a1_0 : Nat) (u0 : RowC) (u1 : CaC) (sz : Nat) (post : Int32 → RowC → Prop) (h : wp_Rw_addAll post u0 u1) : Met l y_Rw_addAll wc_Rw_addAll rm_Rw_addAll (mW G [.ref a0_0, .ref a1_0] sz [(a0_0, .inr (2, [.ref a0_1, .int (rwS u0)])), (a0_1, .inl (G.2.1 0, rwN u0, .inl (rwF u0)))] [(a1_0, .inl (G.2.1 0, caN u1, .inl (caF u1)))]) (va_Qi post (fun (u : RowC) (t : State) => va_P G.1 vwCl [(a0_0, .inr (2, [.ref a0_1, .int (rwS u)])), (a0_1, .inl (G.2.1 0, rwN u, .inl (rwF u)))] t.heap) (va_A [(a0_0, .inr (2, [.ref a0_1, .int (rwS u0)])), (a0_1, .inl (G.2.1 0, rwN u0, .inl (rwF u0)))] sz)) 0 0 (va_A [(a0_0, .inr (2, [.ref a0_1, .int (rwS u0)])), (a0_1, .inl (G.2.1 0, rwN u0, .inl (rwF u0)))] sz) := by
  refine Met.ofW (cc := cc_Rw_addAll) (maxL := 2) (ret := (some .boolean)) (by decide) rfl ?_
  intro p e s m args below meth c s₁ B hml hv
  obtain ⟨rfl, hC, hsz, hP, hD0, hR, hap⟩ := hv
  have E : EN p s m ([.ref a0_0, .ref a1_0] : List Value).toArray meth c G R_Rw cc_Rw_addAll 2 (some .boolean) BG := ⟨B.exec, B.bytes, B.returns, fun w h => atoms_spec (ws := wc_Rw_addAll) B.pre w (List.mem_cons_of_mem _ h), findClass_of_methodNamed B.named, B.notSynchronized, hml, hC⟩
  subst hsz
  have hD := hD0.self (sz := s.heap.size)
  have hRn := mw_notA hR hap
  have hAB := mw_AB hD0 hC
  have hA : ∀ q : Nat, s.heap.size ≤ q → va_A [(a0_0, .inr (2, [.ref a0_1, .int (rwS u0)])), (a0_1, .inl (G.2.1 0, rwN u0, .inl (rwF u0)))] s.heap.size q := fun q z => Or.inr z
  generalize va_A [(a0_0, .inr (2, [.ref a0_1, .int (rwS u0)])), (a0_1, .inl (G.2.1 0, rwN u0, .inl (rwF u0)))] s.heap.size = A at hD hRn hAB hA ⊢
  have hl := lv_entry ([.ref a0_0, .ref a1_0]) (n := 2) (Nat.le_of_ble_eq_true rfl)
  rw [lg_entry_eq]
  generalize (lg_sl ([.ref a0_0, .ref a1_0]) ++ List.replicate (2 - (lg_sl ([.ref a0_0, .ref a1_0])).length) Slot.unset).toArray = ls at hl ⊢
  have hl : lv_has ls 2 [(0, .ref a0_0), (1, .ref a1_0)] := hl
  exact t_Rw_addAll_in E hR hA hAB hRn _ _ _ h hP hD va_S.rf hl
set_option maxHeartbeats 4000000 in
set_option maxRecDepth 100000 in
theorem t_Rw_init_in {p : Program} {l : Launch} {e : Env} {s : State} {m : MethodId} {args : Array Value} {below : List Frame} {meth : Method} {c : Code} {G : GX} {a0_0 : Nat} {post : RowC → Prop} {A : Nat → Prop} {u0 : RowBC} {x1 : Int32} (E : EN p s m args meth c G R_Rw cc_Rw_init 2 none BG) (hR : va_P G.1 vwCl [] s.heap) (hA : ∀ q : Nat, s.heap.size ≤ q → A q) (hAB : ∀ q : Nat, A q → G.2.2.1 ≤ q) (hRn : ∀ (j : Nat) (q : Nat × va_E), ([] : va_W)[j]? = some q → ¬ A q.1) (hin : meth.name = "<init>") : ∀ (H : Heap) (locs : List Loc) (ls : Array Slot), wp_Rw_init post u0 x1 → va_P G.1 vwCl [(a0_0, .inr (2, [.null, .int (rowb_1 u0)]))] H → va_D A [(a0_0, .inr (2, [.null, .int (rowb_1 u0)]))] → va_S A s.heap H locs → lv_has ls 2 [(0, .ref a0_0), (1, .int x1)] → W p l e rm_Rw_init s m args below meth c H locs 0 0 (MQ below (va_Qv post (fun (u : RowC) (t : State) => ∃ (q6 : Nat), va_P G.1 vwCl [(a0_0, .inr (2, [.ref q6, .int (rwS u)])), (q6, .inl (G.2.1 0, rwN u, .inl (rwF u)))] t.heap ∧ va_D A [(a0_0, .inr (2, [.ref q6, .int (rwS u)])), (q6, .inl (G.2.1 0, rwN u, .inl (rwF u)))]) A) args s 1 260 A) (F0 m 0 ls []) := by
  obtain ⟨hx, hb, hr, hts, hown, hlocks, hml, hC⟩ := id E
  have hK := hC.1
  intro H locs ls h hP hD hS hl
  unfold wp_Rw_init at h
  refine lv_aload_n hx hb d_Rw_init_0 rfl (lv_at hl 0 rfl) ?_
  refine W.objInit hx hb hown (hts _ b_68) (hts _ b_69) (hts _ b_70) rfl (by rw [hml]; exact hl.1) rfl d_Rw_init_1 (Nat.le_of_ble_eq_true rfl) (Nat.le_of_ble_eq_true rfl) ?_
  refine W.eq (g2 := F0 m 4 ls []) rfl ?_
  refine lv_aload_n hx hb d_Rw_init_4 rfl (lv_at hl 0 rfl) ?_
  refine lv_iload_n hx hb d_Rw_init_5 rfl (lv_at hl 1 rfl) ?_
  have hn9 := h.1
  have h := h.2
  refine va_newa (atype := .char) (ty := .char) (a0 := (x1.toNatClampNeg, .inl (fun _ => 0))) (N' := x1.toNatClampNeg) hx hb (hts _ b_71) rfl hK hP hD hS hA (fun _ => rfl) hn9.1 rfl (Nat.le_trans (Nat.mul_le_mul_right _ hn9.2) (by decide)) (by decide) (Nat.le_trans (Nat.add_le_add_left hn9.2 _) (by decide)) d_Rw_init_6 (fun q6 cA9 H hK9 hP hD hS => ?_)
  obtain rfl : cA9 = G.2.1 0 := ka_one hK9 0 4 rfl rfl rfl
  have hP : va_P G.1 vwCl [(a0_0, .inr (2, [.null, .int (rowb_1 u0)])), (q6, .inl (G.2.1 0, x1.toNatClampNeg, .inl (fun _ => 0)))] H := hP
  have hD : va_D A [(a0_0, .inr (2, [.null, .int (rowb_1 u0)])), (q6, .inl (G.2.1 0, x1.toNatClampNeg, .inl (fun _ => 0)))] := hD
  refine W.widen (k := 1) (n := 260) (by decide) (Nat.add_le_add_left hn9.2 _) ?_
  refine va_putF (D := G.1) (ci := 2) (v := .ref q6) (ty := (.array .char)) (C := R_Rw) (T := T_Rw) (N := 2) hx hb hts i_Rw ty_Rw tyok_Rw nm_Rw hown hK hP hD hS 0 rfl rfl 0 (by decide) (hts _ b_53) (fun _ h9 => h9) rfl hin rfl (by decide +kernel) rfl rfl (Nat.le_of_ble_eq_true rfl) d_Rw_init_8 (fun H locs hP hD hS => ?_)
  have hP : va_P G.1 vwCl [(a0_0, .inr (2, [.ref q6, .int (rowb_1 u0)])), (q6, .inl (G.2.1 0, x1.toNatClampNeg, .inl (fun _ => 0)))] H := hP
  have hD : va_D A [(a0_0, .inr (2, [.ref q6, .int (rowb_1 u0)])), (q6, .inl (G.2.1 0, x1.toNatClampNeg, .inl (fun _ => 0)))] := hD
  refine W.widen (k := 1) (n := 260) (by decide) (by decide) ?_
  exact W.vret hx hb hr (fun t ht hW => ⟨⟨_, rfl, h, q6, vaP_at ht hP, hD⟩, hS.F ht⟩) hS.2.2 d_Rw_init_11
set_option maxHeartbeats 4000000 in
set_option maxRecDepth 100000 in
theorem c_Rw_init (l : Launch) (G : GX) (a0_0 : Nat) (u0 : RowBC) (x1 : Int32) (sz : Nat) (post : RowC → Prop) (h : wp_Rw_init post u0 x1) : Met l y_Rw_init wc_Rw_init rm_Rw_init (mW G [.ref a0_0, .int x1] sz [(a0_0, .inr (2, [.null, .int (rowb_1 u0)]))] []) (va_Qv post (fun (u : RowC) (t : State) => ∃ (q6 : Nat), va_P G.1 vwCl [(a0_0, .inr (2, [.ref q6, .int (rwS u)])), (q6, .inl (G.2.1 0, rwN u, .inl (rwF u)))] t.heap ∧ va_D (va_A [(a0_0, .inr (2, [.null, .int (rowb_1 u0)]))] sz) [(a0_0, .inr (2, [.ref q6, .int (rwS u)])), (q6, .inl (G.2.1 0, rwN u, .inl (rwF u)))]) (va_A [(a0_0, .inr (2, [.null, .int (rowb_1 u0)]))] sz)) 1 260 (va_A [(a0_0, .inr (2, [.null, .int (rowb_1 u0)]))] sz) := by
  refine Met.ofW (cc := cc_Rw_init) (maxL := 2) (ret := none) (by decide) rfl ?_
  intro p e s m args below meth c s₁ B hml hv
  obtain ⟨rfl, hC, hsz, hP, hD0, hR, hap⟩ := hv
  have E : EN p s m ([.ref a0_0, .int x1] : List Value).toArray meth c G R_Rw cc_Rw_init 2 none BG := ⟨B.exec, B.bytes, B.returns, fun w h => atoms_spec (ws := wc_Rw_init) B.pre w (List.mem_cons_of_mem _ h), findClass_of_methodNamed B.named, B.notSynchronized, hml, hC⟩
  have hin : meth.name = "<init>" := (name_of_methodNamed B.named B.method).1
  subst hsz
  have hD := hD0.self (sz := s.heap.size)
  have hRn := mw_notA hR hap
  have hAB := mw_AB hD0 hC
  have hA : ∀ q : Nat, s.heap.size ≤ q → va_A [(a0_0, .inr (2, [.null, .int (rowb_1 u0)]))] s.heap.size q := fun q z => Or.inr z
  generalize va_A [(a0_0, .inr (2, [.null, .int (rowb_1 u0)]))] s.heap.size = A at hD hRn hAB hA ⊢
  have hl := lv_entry ([.ref a0_0, .int x1]) (n := 2) (Nat.le_of_ble_eq_true rfl)
  rw [lg_entry_eq]
  generalize (lg_sl ([.ref a0_0, .int x1]) ++ List.replicate (2 - (lg_sl ([.ref a0_0, .int x1])).length) Slot.unset).toArray = ls at hl ⊢
  have hl : lv_has ls 2 [(0, .ref a0_0), (1, .int x1)] := hl
  exact t_Rw_init_in E hR hA hAB hRn hin _ _ _ h hP hD va_S.rf hl
