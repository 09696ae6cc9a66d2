set_option maxHeartbeats 4000000 in
set_option maxRecDepth 100000 in
theorem t_Rd_reference_in {p : Program} {l : Launch} {e : Env} {s : State} {m : MethodId} {args : Array Value} {below : List Frame} {meth : Method} {c : Code} {G : GX} {post : Int32 → Prop} {x0 : Int32} (E : EN p s m args meth c G R_Rd cc_Rd_reference 1 (some .int) BG) (hR : va_P G.1 vwCl [] s.heap) : ∀ (ls : Array Slot), wp_Rd_reference post x0 → lv_has ls 1 [(0, .int x0)] → W p l e rm_Rd_reference s m args below meth c s.heap [] 0 0 (MQ below (vp_Si post) args s 0 0 (fun _ => False)) (F0 m 0 ls []) := by
  obtain ⟨hx, hb, hr, hts, hown, hlocks, hml, hC⟩ := id E
  have hK := hC.1
  intro ls h hl
  unfold wp_Rd_reference at h
  refine lv_iload_n hx hb d_Rd_reference_0 rfl (lv_at hl 0 rfl) ?_
  have hsw := h
  by_cases c1076 : x0 = 76
  · have h := hsw
    have h := h.1 (c1076)
    refine lv_lookup (tgt := 36) (off := 35) hx hb d_Rd_reference_1 (by decide) (by rw [c1076, t32_76] <;> rfl) (by decide) ?_
    refine lv_bipush (v := 9) hx hb d_Rd_reference_36 (by decide) ?_
    exact W.iret hx hb hr (fun t ht hW => ⟨_, rfl, h, ht⟩) (fun _ z => by cases z) d_Rd_reference_38
  by_cases c1084 : x0 = 84
  · have h := hsw
    have h := h.2.1 (c1084)
    refine lv_lookup (tgt := 39) (off := 38) hx hb d_Rd_reference_1 (by decide) (by rw [c1084, t32_84] <;> rfl) (by decide) ?_
    refine lv_bipush (v := 6) hx hb d_Rd_reference_39 (by decide) ?_
    exact W.iret hx hb hr (fun t ht hW => ⟨_, rfl, h, ht⟩) (fun _ z => by cases z) d_Rd_reference_41
  by_cases c1091 : x0 = 91
  · have h := hsw
    have h := h.2.2.1 (c1091)
    refine lv_lookup (tgt := 42) (off := 41) hx hb d_Rd_reference_1 (by decide) (by rw [c1091, t32_91] <;> rfl) (by decide) ?_
    refine lv_bipush (v := 19) hx hb d_Rd_reference_42 (by decide) ?_
    exact W.iret hx hb hr (fun t ht hW => ⟨_, rfl, h, ht⟩) (fun _ z => by cases z) d_Rd_reference_44
  have h := hsw.2.2.2 ⟨c1076, c1084, c1091⟩
  refine lv_lookup (tgt := 45) (off := 44) hx hb d_Rd_reference_1 (by decide) (by rw [lv_osw c1076 t32_76, lv_osw c1084 t32_84, lv_osw c1091 t32_91] <;> rfl) (by decide) ?_
  refine lv_iconst (v := 0) hx hb d_Rd_reference_45 (by decide) ?_
  exact W.iret hx hb hr (fun t ht hW => ⟨_, rfl, h, ht⟩) (fun _ z => by cases z) d_Rd_reference_46
set_option maxHeartbeats 4000000 in
set_option maxRecDepth 100000 in
theorem c_Rd_reference (l : Launch) (G : GX) (x0 : Int32) (post : Int32 → Prop) (h : wp_Rd_reference post x0) : Met l y_Rd_reference wc_Rd_reference rm_Rd_reference (mP G [.int x0] []) (vp_Si post) 0 0 (fun _ => False) := by
  refine Met.ofW (cc := cc_Rd_reference) (maxL := 1) (ret := (some .int)) (by decide) rfl ?_
  intro p e s m args below meth c s₁ B hml hv
  obtain ⟨rfl, hC, hR⟩ := hv
  have E : EN p s m ([.int x0] : List Value).toArray meth c G R_Rd cc_Rd_reference 1 (some .int) BG := ⟨B.exec, B.bytes, B.returns, fun w h => atoms_spec (ws := wc_Rd_reference) B.pre w (List.mem_cons_of_mem _ h), findClass_of_methodNamed B.named, B.notSynchronized, hml, hC⟩
  have hl := lv_entry ([.int x0]) (n := 1) (Nat.le_of_ble_eq_true rfl)
  rw [lg_entry_eq]
  generalize (lg_sl ([.int x0]) ++ List.replicate (1 - (lg_sl ([.int x0])).length) Slot.unset).toArray = ls at hl ⊢
  have hl : lv_has ls 1 [(0, .int x0)] := hl
  exact t_Rd_reference_in E hR _ h hl
set_option maxHeartbeats 4000000 in
set_option maxRecDepth 100000 in
theorem t_Rd_nameOnly_in {p : Program} {l : Launch} {e : Env} {s : State} {m : MethodId} {args : Array Value} {below : List Frame} {meth : Method} {c : Code} {G : GX} {post : Int32 → Prop} {x0 : Int32} {x1 : Int32} (E : EN p s m args meth c G R_Rd cc_Rd_nameOnly 2 (some .int) BG) (hR : va_P G.1 vwCl [] s.heap) : ∀ (ls : Array Slot), wp_Rd_nameOnly post x0 x1 → lv_has ls 2 [(0, .int x0), (1, .int x1)] → W p l e rm_Rd_nameOnly s m args below meth c s.heap [] 0 0 (MQ below (vp_Si post) args s 0 0 (fun _ => False)) (F0 m 0 ls []) := by
  obtain ⟨hx, hb, hr, hts, hown, hlocks, hml, hC⟩ := id E
  have hK := hC.1
  intro ls h hl
  unfold wp_Rd_nameOnly at h
  refine va_ldcS hx hb hown (sr_0 hC) d_Rd_nameOnly_0 ?_
  refine lv_iload_n hx hb d_Rd_nameOnly_2 rfl (lv_at hl 0 rfl) ?_
  have hRc : va_P G.1 vwCl [] s.heap := vaP_nil
  refine vp_callSi (va_runV (As := [.int x0]) (rest := []) ⟨hx, hb, hml, hown, hts⟩ (c_J_indexOf l G 0 x0 _ h) (cwV 1 hts (gwV b_84 b_85 b_86 b_12 b_83) rfl rfl rfl hd_JS_indexOf ⟨Nat.le_of_ble_eq_true rfl, Nat.le_of_ble_eq_true rfl⟩) ⟨mP_blind, vk_recv hC.2.2.2.2.1 (by decide) va_S.rf, fun U hU hW => ⟨rfl, hC.to0 hW hU, by rw [hU]; exact hRc⟩⟩ rfl rfl hl.1 rfl (lv_room (Nat.le_of_ble_eq_true rfl)) d_Rd_nameOnly_3 ⟨Nat.le_of_ble_eq_true rfl, Nat.le_of_ble_eq_true rfl⟩).run (fun r2 h => ?_)
  refine lv_if_lt (tgt := 13) hx hb d_Rd_nameOnly_6 (by decide) (fun c9 => ?_) (fun c9 => ?_)
  · have h := h.1 c9
    refine lv_iload_n hx hb d_Rd_nameOnly_13 rfl (lv_at hl 1 rfl) ?_
    exact W.iret hx hb hr (fun t ht hW => ⟨_, rfl, h, ht⟩) (fun _ z => by cases z) d_Rd_nameOnly_14
  · have h := h.2 c9
    refine lv_iconst (v := 0) hx hb d_Rd_nameOnly_9 (by decide) ?_
    refine lv_goto (tgt := 14) hx hb d_Rd_nameOnly_10 (by decide) ?_
    exact W.iret hx hb hr (fun t ht hW => ⟨_, rfl, h, ht⟩) (fun _ z => by cases z) d_Rd_nameOnly_14
set_option maxHeartbeats 4000000 in
set_option maxRecDepth 100000 in
theorem c_Rd_nameOnly (l : Launch) (G : GX) (x0 : Int32) (x1 : Int32) (post : Int32 → Prop) (h : wp_Rd_nameOnly post x0 x1) : Met l y_Rd_nameOnly wc_Rd_nameOnly rm_Rd_nameOnly (mP G [.int x0, .int x1] []) (vp_Si post) 0 0 (fun _ => False) := by
  refine Met.ofW (cc := cc_Rd_nameOnly) (maxL := 2) (ret := (some .int)) (by decide) rfl ?_
  intro p e s m args below meth c s₁ B hml hv
  obtain ⟨rfl, hC, hR⟩ := hv
  have E : EN p s m ([.int x0, .int x1] : List Value).toArray meth c G R_Rd cc_Rd_nameOnly 2 (some .int) BG := ⟨B.exec, B.bytes, B.returns, fun w h => atoms_spec (ws := wc_Rd_nameOnly) B.pre w (List.mem_cons_of_mem _ h), findClass_of_methodNamed B.named, B.notSynchronized, hml, hC⟩
  have hl := lv_entry ([.int x0, .int x1]) (n := 2) (Nat.le_of_ble_eq_true rfl)
  rw [lg_entry_eq]
  generalize (lg_sl ([.int x0, .int x1]) ++ List.replicate (2 - (lg_sl ([.int x0, .int x1])).length) Slot.unset).toArray = ls at hl ⊢
  have hl : lv_has ls 2 [(0, .int x0), (1, .int x1)] := hl
  exact t_Rd_nameOnly_in E hR _ h hl
set_option maxHeartbeats 4000000 in
set_option maxRecDepth 100000 in
theorem t_Rd_typeOnly_in {p : Program} {l : Launch} {e : Env} {s : State} {m : MethodId} {args : Array Value} {below : List Frame} {meth : Method} {c : Code} {G : GX} {post : Int32 → Prop} {x0 : Int32} (E : EN p s m args meth c G R_Rd cc_Rd_typeOnly 1 (some .int) BG) (hR : va_P G.1 vwCl [] s.heap) : ∀ (ls : Array Slot), wp_Rd_typeOnly post x0 → lv_has ls 1 [(0, .int x0)] → W p l e rm_Rd_typeOnly s m args below meth c s.heap [] 0 0 (MQ below (vp_Si post) args s 0 0 (fun _ => False)) (F0 m 0 ls []) := by
  obtain ⟨hx, hb, hr, hts, hown, hlocks, hml, hC⟩ := id E
  have hK := hC.1
  intro ls h hl
  unfold wp_Rd_typeOnly at h
  refine va_ldcS hx hb hown (sr_1 hC) d_Rd_typeOnly_0 ?_
  refine lv_iload_n hx hb d_Rd_typeOnly_2 rfl (lv_at hl 0 rfl) ?_
  have hRc : va_P G.1 vwCl [] s.heap := vaP_nil
  refine vp_callSi (va_runV (As := [.int x0]) (rest := []) ⟨hx, hb, hml, hown, hts⟩ (c_J_indexOf l G 1 x0 _ h) (cwV 1 hts (gwV b_84 b_85 b_86 b_12 b_83) rfl rfl rfl hd_JS_indexOf ⟨Nat.le_of_ble_eq_true rfl, Nat.le_of_ble_eq_true rfl⟩) ⟨mP_blind, vk_recv hC.2.2.2.2.1 (by decide) va_S.rf, fun U hU hW => ⟨rfl, hC.to0 hW hU, by rw [hU]; exact hRc⟩⟩ rfl rfl hl.1 rfl (lv_room (Nat.le_of_ble_eq_true rfl)) d_Rd_typeOnly_3 ⟨Nat.le_of_ble_eq_true rfl, Nat.le_of_ble_eq_true rfl⟩).run (fun r3 h => ?_)
  refine lv_if_lt (tgt := 14) hx hb d_Rd_typeOnly_6 (by decide) (fun c9 => ?_) (fun c9 => ?_)
  · have h := h.1 c9
    refine lv_iload_n hx hb d_Rd_typeOnly_14 rfl (lv_at hl 0 rfl) ?_
    have hRc : va_P G.1 vwCl [] s.heap := vaP_nil
    refine vp_callSi (va_runS (As := [.int x0]) (rest := []) ⟨hx, hb, hml, hown, hts⟩ (c_Rd_reference l G x0 _ h) (va_cwS 1 hts (gwS b_88 b_89 b_90 b_87) rfl rfl rfl hd_Rd_reference.2 ⟨Nat.le_of_ble_eq_true rfl, Nat.le_of_ble_eq_true rfl⟩) ⟨mP_blind, fun U hU hW => ⟨rfl, hC.to0 hW hU, by rw [hU]; exact hRc⟩⟩ rfl rfl hl.1 rfl (lv_room (Nat.le_of_ble_eq_true rfl)) d_Rd_typeOnly_15 ⟨Nat.le_of_ble_eq_true rfl, Nat.le_of_ble_eq_true rfl⟩).run (fun r4 h => ?_)
    exact W.iret hx hb hr (fun t ht hW => ⟨_, rfl, h, ht⟩) (fun _ z => by cases z) d_Rd_typeOnly_18
  · have h := h.2 c9
    refine lv_bipush (v := 20) hx hb d_Rd_typeOnly_9 (by decide) ?_
    refine lv_goto (tgt := 18) hx hb d_Rd_typeOnly_11 (by decide) ?_
    exact W.iret hx hb hr (fun t ht hW => ⟨_, rfl, h, ht⟩) (fun _ z => by cases z) d_Rd_typeOnly_18
set_option maxHeartbeats 4000000 in
set_option maxRecDepth 100000 in
theorem c_Rd_typeOnly (l : Launch) (G : GX) (x0 : Int32) (post : Int32 → Prop) (h : wp_Rd_typeOnly post x0) : Met l y_Rd_typeOnly wc_Rd_typeOnly rm_Rd_typeOnly (mP G [.int x0] []) (vp_Si post) 0 0 (fun _ => False) := by
  refine Met.ofW (cc := cc_Rd_typeOnly) (maxL := 1) (ret := (some .int)) (by decide) rfl ?_
  intro p e s m args below meth c s₁ B hml hv
  obtain ⟨rfl, hC, hR⟩ := hv
  have E : EN p s m ([.int x0] : List Value).toArray meth c G R_Rd cc_Rd_typeOnly 1 (some .int) BG := ⟨B.exec, B.bytes, B.returns, fun w h => atoms_spec (ws := wc_Rd_typeOnly) B.pre w (List.mem_cons_of_mem _ h), findClass_of_methodNamed B.named, B.notSynchronized, hml, hC⟩
  have hl := lv_entry ([.int x0]) (n := 1) (Nat.le_of_ble_eq_true rfl)
  rw [lg_entry_eq]
  generalize (lg_sl ([.int x0]) ++ List.replicate (1 - (lg_sl ([.int x0])).length) Slot.unset).toArray = ls at hl ⊢
  have hl : lv_has ls 1 [(0, .int x0)] := hl
  exact t_Rd_typeOnly_in E hR _ h hl
set_option maxHeartbeats 4000000 in
set_option maxRecDepth 100000 in
theorem t_Rd_argument_21 {p : Program} {l : Launch} {e : Env} {s : State} {m : MethodId} {args : Array Value} {below : List Frame} {meth : Method} {c : Code} {G : GX} {post : Int32 → Prop} (E : EN p s m args meth c G R_Rd cc_Rd_argument 1 (some .int) BG) (hR : va_P G.1 vwCl [] s.heap) : ∀ (ls : Array Slot), w_Rd_argument_21 post → lv_has ls 1 [] → W p l e rm_Rd_argument s m args below meth c s.heap [] 0 0 (MQ below (vp_Si post) args s 0 0 (fun _ => False)) (F0 m 21 ls []) := by
  obtain ⟨hx, hb, hr, hts, hown, hlocks, hml, hC⟩ := id E
  have hK := hC.1
  intro   ls h hl
  unfold w_Rd_argument_21 at h
  refine lv_bipush (v := 18) hx hb d_Rd_argument_21 (by decide) ?_
  refine lv_goto (tgt := 30) hx hb d_Rd_argument_23 (by decide) ?_
  exact W.iret hx hb hr (fun t ht hW => ⟨_, rfl, h, ht⟩) (fun _ z => by cases z) d_Rd_argument_30
set_option maxHeartbeats 4000000 in
set_option maxRecDepth 100000 in
theorem t_Rd_argument_in {p : Program} {l : Launch} {e : Env} {s : State} {m : MethodId} {args : Array Value} {below : List Frame} {meth : Method} {c : Code} {G : GX} {post : Int32 → Prop} {x0 : Int32} (E : EN p s m args meth c G R_Rd cc_Rd_argument 1 (some .int) BG) (hR : va_P G.1 vwCl [] s.heap) : ∀ (ls : Array Slot), wp_Rd_argument post x0 → lv_has ls 1 [(0, .int x0)] → W p l e rm_Rd_argument s m args below meth c s.heap [] 0 0 (MQ below (vp_Si post) args s 0 0 (fun _ => False)) (F0 m 0 ls []) := by
  obtain ⟨hx, hb, hr, hts, hown, hlocks, hml, hC⟩ := id E
  have hK := hC.1
  intro ls h hl
  unfold wp_Rd_argument at h
  refine lv_iload_n hx hb d_Rd_argument_0 rfl (lv_at hl 0 rfl) ?_
  refine lv_bipush (v := 42) hx hb d_Rd_argument_1 (by decide) ?_
  refine lv_icmp_ne (tgt := 9) hx hb d_Rd_argument_3 (by decide) (fun c9 => ?_) (fun c9 => ?_)
  · have h := h.1 c9
    refine lv_iload_n hx hb d_Rd_argument_9 rfl (lv_at hl 0 rfl) ?_
    refine lv_bipush (v := 43) hx hb d_Rd_argument_10 (by decide) ?_
    refine lv_icmp_eq (tgt := 21) hx hb d_Rd_argument_12 (by decide) (fun c9 => ?_) (fun c9 => ?_)
    · have h := h.1 c9
      exact t_Rd_argument_21 E hR  _ h (lv_sub hl [] rfl)
    · have h := h.2 c9
      refine lv_iload_n hx hb d_Rd_argument_15 rfl (lv_at hl 0 rfl) ?_
      refine lv_bipush (v := 45) hx hb d_Rd_argument_16 (by decide) ?_
      refine lv_icmp_ne (tgt := 26) hx hb d_Rd_argument_18 (by decide) (fun c9 => ?_) (fun c9 => ?_)
      · have h := h.1 c9
        refine lv_iload_n hx hb d_Rd_argument_26 rfl (lv_at hl 0 rfl) ?_
        have hRc : va_P G.1 vwCl [] s.heap := vaP_nil
        refine vp_callSi (va_runS (As := [.int x0]) (rest := []) ⟨hx, hb, hml, hown, hts⟩ (c_Rd_reference l G x0 _ h) (va_cwS 1 hts (gwS b_88 b_89 b_90 b_87) rfl rfl rfl hd_Rd_reference.2 ⟨Nat.le_of_ble_eq_true rfl, Nat.le_of_ble_eq_true rfl⟩) ⟨mP_blind, fun U hU hW => ⟨rfl, hC.to0 hW hU, by rw [hU]; exact hRc⟩⟩ rfl rfl hl.1 rfl (lv_room (Nat.le_of_ble_eq_true rfl)) d_Rd_argument_27 ⟨Nat.le_of_ble_eq_true rfl, Nat.le_of_ble_eq_true rfl⟩).run (fun r2 h => ?_)
        exact W.iret hx hb hr (fun t ht hW => ⟨_, rfl, h, ht⟩) (fun _ z => by cases z) d_Rd_argument_30
      · have h := h.2 c9
        exact t_Rd_argument_21 E hR  _ h (lv_sub hl [] rfl)
  · have h := h.2 c9
    refine lv_bipush (v := 17) hx hb d_Rd_argument_6 (by decide) ?_
    exact W.iret hx hb hr (fun t ht hW => ⟨_, rfl, h, ht⟩) (fun _ z => by cases z) d_Rd_argument_8
set_option maxHeartbeats 4000000 in
set_option maxRecDepth 100000 in
theorem c_Rd_argument (l : Launch) (G : GX) (x0 : Int32) (post : Int32 → Prop) (h : wp_Rd_argument post x0) : Met l y_Rd_argument wc_Rd_argument rm_Rd_argument (mP G [.int x0] []) (vp_Si post) 0 0 (fun _ => False) := by
  refine Met.ofW (cc := cc_Rd_argument) (maxL := 1) (ret := (some .int)) (by decide) rfl ?_
  intro p e s m args below meth c s₁ B hml hv
  obtain ⟨rfl, hC, hR⟩ := hv
  have E : EN p s m ([.int x0] : List Value).toArray meth c G R_Rd cc_Rd_argument 1 (some .int) BG := ⟨B.exec, B.bytes, B.returns, fun w h => atoms_spec (ws := wc_Rd_argument) B.pre w (List.mem_cons_of_mem _ h), findClass_of_methodNamed B.named, B.notSynchronized, hml, hC⟩
  have hl := lv_entry ([.int x0]) (n := 1) (Nat.le_of_ble_eq_true rfl)
  rw [lg_entry_eq]
  generalize (lg_sl ([.int x0]) ++ List.replicate (1 - (lg_sl ([.int x0])).length) Slot.unset).toArray = ls at hl ⊢
  have hl : lv_has ls 1 [(0, .int x0)] := hl
  exact t_Rd_argument_in E hR _ h hl
set_option maxHeartbeats 4000000 in
set_option maxRecDepth 100000 in
theorem t_Rd_closingOr_in {p : Program} {l : Launch} {e : Env} {s : State} {m : MethodId} {args : Array Value} {below : List Frame} {meth : Method} {c : Code} {G : GX} {post : Int32 → Prop} {x0 : Int32} {x1 : Int32} (E : EN p s m args meth c G R_Rd cc_Rd_closingOr 2 (some .int) BG) (hR : va_P G.1 vwCl [] s.heap) : ∀ (ls : Array Slot), wp_Rd_closingOr post x0 x1 → lv_has ls 2 [(0, .int x0), (1, .int x1)] → W p l e rm_Rd_closingOr s m args below meth c s.heap [] 0 0 (MQ below (vp_Si post) args s 0 0 (fun _ => False)) (F0 m 0 ls []) := by
  obtain ⟨hx, hb, hr, hts, hown, hlocks, hml, hC⟩ := id E
  have hK := hC.1
  intro ls h hl
  unfold wp_Rd_closingOr at h
  refine lv_iload_n hx hb d_Rd_closingOr_0 rfl (lv_at hl 0 rfl) ?_
  refine lv_bipush (v := 46) hx hb d_Rd_closingOr_1 (by decide) ?_
  refine lv_icmp_ne (tgt := 9) hx hb d_Rd_closingOr_3 (by decide) (fun c9 => ?_) (fun c9 => ?_)
  · have h := h.1 c9
    refine lv_iload_n hx hb d_Rd_closingOr_9 rfl (lv_at hl 0 rfl) ?_
    refine lv_bipush (v := 59) hx hb d_Rd_closingOr_10 (by decide) ?_
    refine lv_icmp_ne (tgt := 20) hx hb d_Rd_closingOr_12 (by decide) (fun c9 => ?_) (fun c9 => ?_)
    · have h := h.1 c9
      refine lv_iload_n hx hb d_Rd_closingOr_20 rfl (lv_at hl 1 rfl) ?_
      exact W.iret hx hb hr (fun t ht hW => ⟨_, rfl, h, ht⟩) (fun _ z => by cases z) d_Rd_closingOr_21
    · have h := h.2 c9
      refine lv_bipush (v := 14) hx hb d_Rd_closingOr_15 (by decide) ?_
      refine lv_goto (tgt := 21) hx hb d_Rd_closingOr_17 (by decide) ?_
      exact W.iret hx hb hr (fun t ht hW => ⟨_, rfl, h, ht⟩) (fun _ z => by cases z) d_Rd_closingOr_21
  · have h := h.2 c9
    refine lv_bipush (v := 12) hx hb d_Rd_closingOr_6 (by decide) ?_
    exact W.iret hx hb hr (fun t ht hW => ⟨_, rfl, h, ht⟩) (fun _ z => by cases z) d_Rd_closingOr_8
set_option maxHeartbeats 4000000 in
set_option maxRecDepth 100000 in
theorem c_Rd_closingOr (l : Launch) (G : GX) (x0 : Int32) (x1 : Int32) (post : Int32 → Prop) (h : wp_Rd_closingOr post x0 x1) : Met l y_Rd_closingOr wc_Rd_closingOr rm_Rd_closingOr (mP G [.int x0, .int x1] []) (vp_Si post) 0 0 (fun _ => False) := by
  refine Met.ofW (cc := cc_Rd_closingOr) (maxL := 2) (ret := (some .int)) (by decide) rfl ?_
  intro p e s m args below meth c s₁ B hml hv
  obtain ⟨rfl, hC, hR⟩ := hv
  have E : EN p s m ([.int x0, .int x1] : List Value).toArray meth c G R_Rd cc_Rd_closingOr 2 (some .int) BG := ⟨B.exec, B.bytes, B.returns, fun w h => atoms_spec (ws := wc_Rd_closingOr) B.pre w (List.mem_cons_of_mem _ h), findClass_of_methodNamed B.named, B.notSynchronized, hml, hC⟩
  have hl := lv_entry ([.int x0, .int x1]) (n := 2) (Nat.le_of_ble_eq_true rfl)
  rw [lg_entry_eq]
  generalize (lg_sl ([.int x0, .int x1]) ++ List.replicate (2 - (lg_sl ([.int x0, .int x1])).length) Slot.unset).toArray = ls at hl ⊢
  have hl : lv_has ls 2 [(0, .int x0), (1, .int x1)] := hl
  exact t_Rd_closingOr_in E hR _ h hl
set_option maxHeartbeats 4000000 in
set_option maxRecDepth 100000 in
theorem t_Rd_behindArguments_in {p : Program} {l : Launch} {e : Env} {s : State} {m : MethodId} {args : Array Value} {below : List Frame} {meth : Method} {c : Code} {G : GX} {post : Int32 → Prop} {x0 : Int32} (E : EN p s m args meth c G R_Rd cc_Rd_behindArguments 1 (some .int) BG) (hR : va_P G.1 vwCl [] s.heap) : ∀ (ls : Array Slot), wp_Rd_behindArguments post x0 → lv_has ls 1 [(0, .int x0)] → W p l e rm_Rd_behindArguments s m args below meth c s.heap [] 0 0 (MQ below (vp_Si post) args s 0 0 (fun _ => False)) (F0 m 0 ls []) := by
  obtain ⟨hx, hb, hr, hts, hown, hlocks, hml, hC⟩ := id E
  have hK := hC.1
  intro ls h hl
  unfold wp_Rd_behindArguments at h
  refine lv_iload_n hx hb d_Rd_behindArguments_0 rfl (lv_at hl 0 rfl) ?_
  refine lv_iconst (v := 0) hx hb d_Rd_behindArguments_1 (by decide) ?_
  have hRc : va_P G.1 vwCl [] s.heap := vaP_nil
  refine vp_callSi (va_runS (As := [.int x0, .int 0]) (rest := []) ⟨hx, hb, hml, hown, hts⟩ (c_Rd_closingOr l G x0 0 _ h) (va_cwS 2 hts (gwS b_92 b_93 b_90 b_91) rfl rfl rfl hd_Rd_closingOr.2 ⟨Nat.le_of_ble_eq_true rfl, Nat.le_of_ble_eq_true rfl⟩) ⟨mP_blind, fun U hU hW => ⟨rfl, hC.to0 hW hU, by rw [hU]; exact hRc⟩⟩ rfl rfl hl.1 rfl (lv_room (Nat.le_of_ble_eq_true rfl)) d_Rd_behindArguments_2 ⟨Nat.le_of_ble_eq_true rfl, Nat.le_of_ble_eq_true rfl⟩).run (fun r2 h => ?_)
  exact W.iret hx hb hr (fun t ht hW => ⟨_, rfl, h, ht⟩) (fun _ z => by cases z) d_Rd_behindArguments_5
set_option maxHeartbeats 4000000 in
set_option maxRecDepth 100000 in
theorem c_Rd_behindArguments (l : Launch) (G : GX) (x0 : Int32) (post : Int32 → Prop) (h : wp_Rd_behindArguments post x0) : Met l y_Rd_behindArguments wc_Rd_behindArguments rm_Rd_behindArguments (mP G [.int x0] []) (vp_Si post) 0 0 (fun _ => False) := by
  refine Met.ofW (cc := cc_Rd_behindArguments) (maxL := 1) (ret := (some .int)) (by decide) rfl ?_
  intro p e s m args below meth c s₁ B hml hv
  obtain ⟨rfl, hC, hR⟩ := hv
  have E : EN p s m ([.int x0] : List Value).toArray meth c G R_Rd cc_Rd_behindArguments 1 (some .int) BG := ⟨B.exec, B.bytes, B.returns, fun w h => atoms_spec (ws := wc_Rd_behindArguments) B.pre w (List.mem_cons_of_mem _ h), findClass_of_methodNamed B.named, B.notSynchronized, hml, hC⟩
  have hl := lv_entry ([.int x0]) (n := 1) (Nat.le_of_ble_eq_true rfl)
  rw [lg_entry_eq]
  generalize (lg_sl ([.int x0]) ++ List.replicate (1 - (lg_sl ([.int x0])).length) Slot.unset).toArray = ls at hl ⊢
  have hl : lv_has ls 1 [(0, .int x0)] := hl
  exact t_Rd_behindArguments_in E hR _ h hl
set_option maxHeartbeats 4000000 in
set_option maxRecDepth 100000 in
theorem t_Rd_inSegment_in {p : Program} {l : Launch} {e : Env} {s : State} {m : MethodId} {args : Array Value} {below : List Frame} {meth : Method} {c : Code} {G : GX} {post : Int32 → Prop} {x0 : Int32} {x1 : Int32} (E : EN p s m args meth c G R_Rd cc_Rd_inSegment 2 (some .int) BG) (hR : va_P G.1 vwCl [] s.heap) : ∀ (ls : Array Slot), wp_Rd_inSegment post x0 x1 → lv_has ls 2 [(0, .int x0), (1, .int x1)] → W p l e rm_Rd_inSegment s m args below meth c s.heap [] 0 0 (MQ below (vp_Si post) args s 0 0 (fun _ => False)) (F0 m 0 ls []) := by
  obtain ⟨hx, hb, hr, hts, hown, hlocks, hml, hC⟩ := id E
  have hK := hC.1
  intro ls h hl
  unfold wp_Rd_inSegment at h
  refine lv_iload_n hx hb d_Rd_inSegment_0 rfl (lv_at hl 0 rfl) ?_
  refine lv_bipush (v := 60) hx hb d_Rd_inSegment_1 (by decide) ?_
  refine lv_icmp_ne (tgt := 11) hx hb d_Rd_inSegment_3 (by decide) (fun c9 => ?_) (fun c9 => ?_)
  · have h := h.1 c9
    refine lv_iload_n hx hb d_Rd_inSegment_11 rfl (lv_at hl 0 rfl) ?_
    refine lv_iload_n hx hb d_Rd_inSegment_12 rfl (lv_at hl 0 rfl) ?_
    refine lv_iload_n hx hb d_Rd_inSegment_13 rfl (lv_at hl 1 rfl) ?_
    have hRc : va_P G.1 vwCl [] s.heap := vaP_nil
    refine vp_callSi (va_runS (As := [.int x0, .int x1]) (rest := [.int x0]) ⟨hx, hb, hml, hown, hts⟩ (c_Rd_nameOnly l G x0 x1 _ h) (va_cwS 2 hts (gwS b_95 b_96 b_90 b_94) rfl rfl rfl hd_Rd_nameOnly.2 ⟨Nat.le_of_ble_eq_true rfl, Nat.le_of_ble_eq_true rfl⟩) ⟨mP_blind, fun U hU hW => ⟨rfl, hC.to0 hW hU, by rw [hU]; exact hRc⟩⟩ rfl rfl hl.1 rfl (lv_room (Nat.le_of_ble_eq_true rfl)) d_Rd_inSegment_14 ⟨Nat.le_of_ble_eq_true rfl, Nat.le_of_ble_eq_true rfl⟩).run (fun r3 h => ?_)
    have hRc : va_P G.1 vwCl [] s.heap := vaP_nil
    refine vp_callSi (va_runS (As := [.int x0, .int r3]) (rest := []) ⟨hx, hb, hml, hown, hts⟩ (c_Rd_closingOr l G x0 r3 _ h) (va_cwS 2 hts (gwS b_92 b_93 b_90 b_91) rfl rfl rfl hd_Rd_closingOr.2 ⟨Nat.le_of_ble_eq_true rfl, Nat.le_of_ble_eq_true rfl⟩) ⟨mP_blind, fun U hU hW => ⟨rfl, hC.to0 hW hU, by rw [hU]; exact hRc⟩⟩ rfl rfl hl.1 rfl (lv_room (Nat.le_of_ble_eq_true rfl)) d_Rd_inSegment_17 ⟨Nat.le_of_ble_eq_true rfl, Nat.le_of_ble_eq_true rfl⟩).run (fun r4 h => ?_)
    exact W.iret hx hb hr (fun t ht hW => ⟨_, rfl, h, ht⟩) (fun _ z => by cases z) d_Rd_inSegment_20
  · have h := h.2 c9
    refine lv_bipush (v := 15) hx hb d_Rd_inSegment_6 (by decide) ?_
    refine lv_goto (tgt := 20) hx hb d_Rd_inSegment_8 (by decide) ?_
    exact W.iret hx hb hr (fun t ht hW => ⟨_, rfl, h, ht⟩) (fun _ z => by cases z) d_Rd_inSegment_20
set_option maxHeartbeats 4000000 in
set_option maxRecDepth 100000 in
theorem c_Rd_inSegment (l : Launch) (G : GX) (x0 : Int32) (x1 : Int32) (post : Int32 → Prop) (h : wp_Rd_inSegment post x0 x1) : Met l y_Rd_inSegment wc_Rd_inSegment rm_Rd_inSegment (mP G [.int x0, .int x1] []) (vp_Si post) 0 0 (fun _ => False) := by
  refine Met.ofW (cc := cc_Rd_inSegment) (maxL := 2) (ret := (some .int)) (by decide) rfl ?_
  intro p e s m args below meth c s₁ B hml hv
  obtain ⟨rfl, hC, hR⟩ := hv
  have E : EN p s m ([.int x0, .int x1] : List Value).toArray meth c G R_Rd cc_Rd_inSegment 2 (some .int) BG := ⟨B.exec, B.bytes, B.returns, fun w h => atoms_spec (ws := wc_Rd_inSegment) B.pre w (List.mem_cons_of_mem _ h), findClass_of_methodNamed B.named, B.notSynchronized, hml, hC⟩
  have hl := lv_entry ([.int x0, .int x1]) (n := 2) (Nat.le_of_ble_eq_true rfl)
  rw [lg_entry_eq]
  generalize (lg_sl ([.int x0, .int x1]) ++ List.replicate (2 - (lg_sl ([.int x0, .int x1])).length) Slot.unset).toArray = ls at hl ⊢
  have hl : lv_has ls 2 [(0, .int x0), (1, .int x1)] := hl
  exact t_Rd_inSegment_in E hR _ h hl
set_option maxHeartbeats 4000000 in
set_option maxRecDepth 100000 in
theorem t_Rd_inTypes_in {p : Program} {l : Launch} {e : Env} {s : State} {m : MethodId} {args : Array Value} {below : List Frame} {meth : Method} {c : Code} {G : GX} {post : Int32 → Prop} {x0 : Int32} (E : EN p s m args meth c G R_Rd cc_Rd_inTypes 1 (some .int) BG) (hR : va_P G.1 vwCl [] s.heap) : ∀ (ls : Array Slot), wp_Rd_inTypes post x0 → lv_has ls 1 [(0, .int x0)] → W p l e rm_Rd_inTypes s m args below meth c s.heap [] 0 0 (MQ below (vp_Si post) args s 0 0 (fun _ => False)) (F0 m 0 ls []) := by
  obtain ⟨hx, hb, hr, hts, hown, hlocks, hml, hC⟩ := id E
  have hK := hC.1
  intro ls h hl
  unfold wp_Rd_inTypes at h
  refine lv_iload_n hx hb d_Rd_inTypes_0 rfl (lv_at hl 0 rfl) ?_
  refine lv_bipush (v := 41) hx hb d_Rd_inTypes_1 (by decide) ?_
  refine lv_icmp_ne (tgt := 11) hx hb d_Rd_inTypes_3 (by decide) (fun c9 => ?_) (fun c9 => ?_)
  · have h := h.1 c9
    refine lv_iload_n hx hb d_Rd_inTypes_11 rfl (lv_at hl 0 rfl) ?_
    have hRc : va_P G.1 vwCl [] s.heap := vaP_nil
    refine vp_callSi (va_runS (As := [.int x0]) (rest := []) ⟨hx, hb, hml, hown, hts⟩ (c_Rd_typeOnly l G x0 _ h) (va_cwS 1 hts (gwS b_98 b_99 b_90 b_97) rfl rfl rfl hd_Rd_typeOnly.2 ⟨Nat.le_of_ble_eq_true rfl, Nat.le_of_ble_eq_true rfl⟩) ⟨mP_blind, fun U hU hW => ⟨rfl, hC.to0 hW hU, by rw [hU]; exact hRc⟩⟩ rfl rfl hl.1 rfl (lv_room (Nat.le_of_ble_eq_true rfl)) d_Rd_inTypes_12 ⟨Nat.le_of_ble_eq_true rfl, Nat.le_of_ble_eq_true rfl⟩).run (fun r2 h => ?_)
    exact W.iret hx hb hr (fun t ht hW => ⟨_, rfl, h, ht⟩) (fun _ z => by cases z) d_Rd_inTypes_15
  · have h := h.2 c9
    refine lv_bipush (v := 23) hx hb d_Rd_inTypes_6 (by decide) ?_
    refine lv_goto (tgt := 15) hx hb d_Rd_inTypes_8 (by decide) ?_
    exact W.iret hx hb hr (fun t ht hW => ⟨_, rfl, h, ht⟩) (fun _ z => by cases z) d_Rd_inTypes_15
set_option maxHeartbeats 4000000 in
set_option maxRecDepth 100000 in
theorem c_Rd_inTypes (l : Launch) (G : GX) (x0 : Int32) (post : Int32 → Prop) (h : wp_Rd_inTypes post x0) : Met l y_Rd_inTypes wc_Rd_inTypes rm_Rd_inTypes (mP G [.int x0] []) (vp_Si post) 0 0 (fun _ => False) := by
  refine Met.ofW (cc := cc_Rd_inTypes) (maxL := 1) (ret := (some .int)) (by decide) rfl ?_
  intro p e s m args below meth c s₁ B hml hv
  obtain ⟨rfl, hC, hR⟩ := hv
  have E : EN p s m ([.int x0] : List Value).toArray meth c G R_Rd cc_Rd_inTypes 1 (some .int) BG := ⟨B.exec, B.bytes, B.returns, fun w h => atoms_spec (ws := wc_Rd_inTypes) B.pre w (List.mem_cons_of_mem _ h), findClass_of_methodNamed B.named, B.notSynchronized, hml, hC⟩
  have hl := lv_entry ([.int x0]) (n := 1) (Nat.le_of_ble_eq_true rfl)
  rw [lg_entry_eq]
  generalize (lg_sl ([.int x0]) ++ List.replicate (1 - (lg_sl ([.int x0])).length) Slot.unset).toArray = ls at hl ⊢
  have hl : lv_has ls 1 [(0, .int x0)] := hl
  exact t_Rd_inTypes_in E hR _ h hl
set_option maxHeartbeats 4000000 in
set_option maxRecDepth 100000 in
theorem t_Rd_behindBound_in {p : Program} {l : Launch} {e : Env} {s : State} {m : MethodId} {args : Array Value} {below : List Frame} {meth : Method} {c : Code} {G : GX} {post : Int32 → Prop} {x0 : Int32} (E : EN p s m args meth c G R_Rd cc_Rd_behindBound 1 (some .int) BG) (hR : va_P G.1 vwCl [] s.heap) : ∀ (ls : Array Slot), wp_Rd_behindBound post x0 → lv_has ls 1 [(0, .int x0)] → W p l e rm_Rd_behindBound s m args below meth c s.heap [] 0 0 (MQ below (vp_Si post) args s 0 0 (fun _ => False)) (F0 m 0 ls []) := by
  obtain ⟨hx, hb, hr, hts, hown, hlocks, hml, hC⟩ := id E
  have hK := hC.1
  intro ls h hl
  unfold wp_Rd_behindBound at h
  refine lv_iload_n hx hb d_Rd_behindBound_0 rfl (lv_at hl 0 rfl) ?_
  refine lv_bipush (v := 58) hx hb d_Rd_behindBound_1 (by decide) ?_
  refine lv_icmp_ne (tgt := 8) hx hb d_Rd_behindBound_3 (by decide) (fun c9 => ?_) (fun c9 => ?_)
  · have h := h.1 c9
    refine lv_iload_n hx hb d_Rd_behindBound_8 rfl (lv_at hl 0 rfl) ?_
    refine lv_bipush (v := 62) hx hb d_Rd_behindBound_9 (by decide) ?_
    refine lv_icmp_ne (tgt := 18) hx hb d_Rd_behindBound_11 (by decide) (fun c9 => ?_) (fun c9 => ?_)
    · have h := h.1 c9
      refine lv_iload_n hx hb d_Rd_behindBound_18 rfl (lv_at hl 0 rfl) ?_
      refine lv_iconst (v := 2) hx hb d_Rd_behindBound_19 (by decide) ?_
      have hRc : va_P G.1 vwCl [] s.heap := vaP_nil
      refine vp_callSi (va_runS (As := [.int x0, .int 2]) (rest := []) ⟨hx, hb, hml, hown, hts⟩ (c_Rd_nameOnly l G x0 2 _ h) (va_cwS 2 hts (gwS b_95 b_96 b_90 b_94) rfl rfl rfl hd_Rd_nameOnly.2 ⟨Nat.le_of_ble_eq_true rfl, Nat.le_of_ble_eq_true rfl⟩) ⟨mP_blind, fun U hU hW => ⟨rfl, hC.to0 hW hU, by rw [hU]; exact hRc⟩⟩ rfl rfl hl.1 rfl (lv_room (Nat.le_of_ble_eq_true rfl)) d_Rd_behindBound_20 ⟨Nat.le_of_ble_eq_true rfl, Nat.le_of_ble_eq_true rfl⟩).run (fun r2 h => ?_)
      exact W.iret hx hb hr (fun t ht hW => ⟨_, rfl, h, ht⟩) (fun _ z => by cases z) d_Rd_behindBound_23
    · have h := h.2 c9
      refine lv_iconst (v := 5) hx hb d_Rd_behindBound_14 (by decide) ?_
      refine lv_goto (tgt := 23) hx hb d_Rd_behindBound_15 (by decide) ?_
      exact W.iret hx hb hr (fun t ht hW => ⟨_, rfl, h, ht⟩) (fun _ z => by cases z) d_Rd_behindBound_23
  · have h := h.2 c9
    refine lv_iconst (v := 4) hx hb d_Rd_behindBound_6 (by decide) ?_
    exact W.iret hx hb hr (fun t ht hW => ⟨_, rfl, h, ht⟩) (fun _ z => by cases z) d_Rd_behindBound_7
set_option maxHeartbeats 4000000 in
set_option maxRecDepth 100000 in
theorem c_Rd_behindBound (l : Launch) (G : GX) (x0 : Int32) (post : Int32 → Prop) (h : wp_Rd_behindBound post x0) : Met l y_Rd_behindBound wc_Rd_behindBound rm_Rd_behindBound (mP G [.int x0] []) (vp_Si post) 0 0 (fun _ => False) := by
  refine Met.ofW (cc := cc_Rd_behindBound) (maxL := 1) (ret := (some .int)) (by decide) rfl ?_
  intro p e s m args below meth c s₁ B hml hv
  obtain ⟨rfl, hC, hR⟩ := hv
  have E : EN p s m ([.int x0] : List Value).toArray meth c G R_Rd cc_Rd_behindBound 1 (some .int) BG := ⟨B.exec, B.bytes, B.returns, fun w h => atoms_spec (ws := wc_Rd_behindBound) B.pre w (List.mem_cons_of_mem _ h), findClass_of_methodNamed B.named, B.notSynchronized, hml, hC⟩
  have hl := lv_entry ([.int x0]) (n := 1) (Nat.le_of_ble_eq_true rfl)
  rw [lg_entry_eq]
  generalize (lg_sl ([.int x0]) ++ List.replicate (1 - (lg_sl ([.int x0])).length) Slot.unset).toArray = ls at hl ⊢
  have hl : lv_has ls 1 [(0, .int x0)] := hl
  exact t_Rd_behindBound_in E hR _ h hl
set_option maxHeartbeats 4000000 in
set_option maxRecDepth 100000 in
theorem t_Rd_behindFirstColon_in {p : Program} {l : Launch} {e : Env} {s : State} {m : MethodId} {args : Array Value} {below : List Frame} {meth : Method} {c : Code} {G : GX} {post : Int32 → Prop} {x0 : Int32} (E : EN p s m args meth c G R_Rd cc_Rd_behindFirstColon 2 (some .int) BG) (hR : va_P G.1 vwCl [] s.heap) : ∀ (ls : Array Slot), wp_Rd_behindFirstColon post x0 → lv_has ls 2 [(0, .int x0)] → W p l e rm_Rd_behindFirstColon s m args below meth c s.heap [] 0 0 (MQ below (vp_Si post) args s 0 0 (fun _ => False)) (F0 m 0 ls []) := by
  obtain ⟨hx, hb, hr, hts, hown, hlocks, hml, hC⟩ := id E
  have hK := hC.1
  intro ls h hl
  unfold wp_Rd_behindFirstColon at h
  refine lv_iload_n hx hb d_Rd_behindFirstColon_0 rfl (lv_at hl 0 rfl) ?_
  have hRc : va_P G.1 vwCl [] s.heap := vaP_nil
  refine vp_callSi (va_runS (As := [.int x0]) (rest := []) ⟨hx, hb, hml, hown, hts⟩ (c_Rd_reference l G x0 _ h) (va_cwS 1 hts (gwS b_88 b_89 b_90 b_87) rfl rfl rfl hd_Rd_reference.2 ⟨Nat.le_of_ble_eq_true rfl, Nat.le_of_ble_eq_true rfl⟩) ⟨mP_blind, fun U hU hW => ⟨rfl, hC.to0 hW hU, by rw [hU]; exact hRc⟩⟩ rfl rfl hl.1 rfl (lv_room (Nat.le_of_ble_eq_true rfl)) d_Rd_behindFirstColon_1 ⟨Nat.le_of_ble_eq_true rfl, Nat.le_of_ble_eq_true rfl⟩).run (fun r3 h => ?_)
  refine lv_istore_n (lv' := [(1, .int r3), (0, .int x0)]) hx hb d_Rd_behindFirstColon_4 rfl hl (by decide) rfl (fun ls hl => ?_)
  refine lv_iload_n hx hb d_Rd_behindFirstColon_5 rfl (lv_at hl 0 rfl) ?_
  refine lv_if_ne (tgt := 16) hx hb d_Rd_behindFirstColon_6 (by decide) (fun c9 => ?_) (fun c9 => ?_)
  · have h := h.1 c9
    refine lv_iload_n hx hb d_Rd_behindFirstColon_16 rfl (lv_at hl 0 rfl) ?_
    exact W.iret hx hb hr (fun t ht hW => ⟨_, rfl, h, ht⟩) (fun _ z => by cases z) d_Rd_behindFirstColon_17
  · have h := h.2 c9
    refine lv_iload_n hx hb d_Rd_behindFirstColon_9 rfl (lv_at hl 1 rfl) ?_
    have hRc : va_P G.1 vwCl [] s.heap := vaP_nil
    refine vp_callSi (va_runS (As := [.int x0]) (rest := []) ⟨hx, hb, hml, hown, hts⟩ (c_Rd_behindBound l G x0 _ h) (va_cwS 1 hts (gwS b_101 b_102 b_90 b_100) rfl rfl rfl hd_Rd_behindBound.2 ⟨Nat.le_of_ble_eq_true rfl, Nat.le_of_ble_eq_true rfl⟩) ⟨mP_blind, fun U hU hW => ⟨rfl, hC.to0 hW hU, by rw [hU]; exact hRc⟩⟩ rfl rfl hl.1 rfl (lv_room (Nat.le_of_ble_eq_true rfl)) d_Rd_behindFirstColon_10 ⟨Nat.le_of_ble_eq_true rfl, Nat.le_of_ble_eq_true rfl⟩).run (fun r4 h => ?_)
    refine lv_goto (tgt := 17) hx hb d_Rd_behindFirstColon_13 (by decide) ?_
    exact W.iret hx hb hr (fun t ht hW => ⟨_, rfl, h, ht⟩) (fun _ z => by cases z) d_Rd_behindFirstColon_17
set_option maxHeartbeats 4000000 in
set_option maxRecDepth 100000 in
theorem c_Rd_behindFirstColon (l : Launch) (G : GX) (x0 : Int32) (post : Int32 → Prop) (h : wp_Rd_behindFirstColon post x0) : Met l y_Rd_behindFirstColon wc_Rd_behindFirstColon rm_Rd_behindFirstColon (mP G [.int x0] []) (vp_Si post) 0 0 (fun _ => False) := by
  refine Met.ofW (cc := cc_Rd_behindFirstColon) (maxL := 2) (ret := (some .int)) (by decide) rfl ?_
  intro p e s m args below meth c s₁ B hml hv
  obtain ⟨rfl, hC, hR⟩ := hv
  have E : EN p s m ([.int x0] : List Value).toArray meth c G R_Rd cc_Rd_behindFirstColon 2 (some .int) BG := ⟨B.exec, B.bytes, B.returns, fun w h => atoms_spec (ws := wc_Rd_behindFirstColon) B.pre w (List.mem_cons_of_mem _ h), findClass_of_methodNamed B.named, B.notSynchronized, hml, hC⟩
  have hl := lv_entry ([.int x0]) (n := 2) (Nat.le_of_ble_eq_true rfl)
  rw [lg_entry_eq]
  generalize (lg_sl ([.int x0]) ++ List.replicate (2 - (lg_sl ([.int x0])).length) Slot.unset).toArray = ls at hl ⊢
  have hl : lv_has ls 2 [(0, .int x0)] := hl
  exact t_Rd_behindFirstColon_in E hR _ h hl
set_option maxHeartbeats 4000000 in
set_option maxRecDepth 100000 in
theorem t_Rd_behindItem_79 {p : Program} {l : Launch} {e : Env} {s : State} {m : MethodId} {args : Array Value} {below : List Frame} {meth : Method} {c : Code} {G : GX} {a0_0 a0_1 a0_2 a0_3 : Nat} {u0 : RdC} {post : Int32 → Prop} (E : EN p s m args meth c G R_Rd cc_Rd_behindItem 2 (some .int) BG) (hR : va_P G.1 vwCl [(a0_0, .inr (1, [.ref a0_1, .ref a0_2, .ref a0_3, .int (rdC u0), .int (rdK u0), .int (rdX u0), .int (rdD u0), .int (rdL u0)])), (a0_1, .inl (G.2.1 1, rdN u0, .inl (rdR u0))), (a0_2, .inl (G.2.1 1, rdN u0, .inl (rdB u0))), (a0_3, .inl (G.2.1 1, rdN u0, .inl (rdE u0)))] s.heap) : ∀ (y1 : Int32) (ls : Array Slot), w_Rd_behindItem_79 post u0 y1 → lv_has ls 2 [(0, .ref a0_0), (1, .int y1)] → W p l e rm_Rd_behindItem s m args below meth c s.heap [] 0 0 (MQ below (vp_Si post) args s 0 0 (fun _ => False)) (F0 m 79 ls []) := by
  obtain ⟨hx, hb, hr, hts, hown, hlocks, hml, hC⟩ := id E
  have hK := hC.1
  intro y1  ls h hl
  unfold w_Rd_behindItem_79 at h
  refine lv_aload_n hx hb d_Rd_behindItem_79 rfl (lv_at hl 0 rfl) ?_
  refine va_get (D := G.1) (ci := 1) (v := .int (rdK u0)) (C := R_Rd) (T := T_Rd) (N := 8) hx hb hts i_Rd hown hK hR 0 rfl rfl 4 (by decide) (hts _ b_111) (fun _ h9 => h9) rfl d_Rd_behindItem_80 ?_
  refine lv_if_ne (tgt := 97) hx hb d_Rd_behindItem_83 (by decide) (fun c9 => ?_) (fun c9 => ?_)
  · have h := h.1 c9
    refine lv_iconst (v := 0) hx hb d_Rd_behindItem_97 (by decide) ?_
    exact W.iret hx hb hr (fun t ht hW => ⟨_, rfl, h, ht⟩) (fun _ z => by cases z) d_Rd_behindItem_98
  · have h := h.2 c9
    refine lv_iload_n hx hb d_Rd_behindItem_86 rfl (lv_at hl 1 rfl) ?_
    refine lv_bipush (v := 76) hx hb d_Rd_behindItem_87 (by decide) ?_
    refine lv_icmp_ne (tgt := 97) hx hb d_Rd_behindItem_89 (by decide) (fun c9 => ?_) (fun c9 => ?_)
    · have h := h.1 c9
      refine lv_iconst (v := 0) hx hb d_Rd_behindItem_97 (by decide) ?_
      exact W.iret hx hb hr (fun t ht hW => ⟨_, rfl, h, ht⟩) (fun _ z => by cases z) d_Rd_behindItem_98
    · have h := h.2 c9
      refine lv_bipush (v := 9) hx hb d_Rd_behindItem_92 (by decide) ?_
      refine lv_goto (tgt := 98) hx hb d_Rd_behindItem_94 (by decide) ?_
      exact W.iret hx hb hr (fun t ht hW => ⟨_, rfl, h, ht⟩) (fun _ z => by cases z) d_Rd_behindItem_98
set_option maxHeartbeats 4000000 in
set_option maxRecDepth 100000 in
theorem t_Rd_behindItem_in {p : Program} {l : Launch} {e : Env} {s : State} {m : MethodId} {args : Array Value} {below : List Frame} {meth : Method} {c : Code} {G : GX} {a0_0 a0_1 a0_2 a0_3 : Nat} {u0 : RdC} {post : Int32 → Prop} {x1 : Int32} (E : EN p s m args meth c G R_Rd cc_Rd_behindItem 2 (some .int) BG) (hR : va_P G.1 vwCl [(a0_0, .inr (1, [.ref a0_1, .ref a0_2, .ref a0_3, .int (rdC u0), .int (rdK u0), .int (rdX u0), .int (rdD u0), .int (rdL u0)])), (a0_1, .inl (G.2.1 1, rdN u0, .inl (rdR u0))), (a0_2, .inl (G.2.1 1, rdN u0, .inl (rdB u0))), (a0_3, .inl (G.2.1 1, rdN u0, .inl (rdE u0)))] s.heap) : ∀ (ls : Array Slot), wp_Rd_behindItem post u0 x1 → lv_has ls 2 [(0, .ref a0_0), (1, .int x1)] → W p l e rm_Rd_behindItem s m args below meth c s.heap [] 0 0 (MQ below (vp_Si post) args s 0 0 (fun _ => False)) (F0 m 0 ls []) := by
  obtain ⟨hx, hb, hr, hts, hown, hlocks, hml, hC⟩ := id E
  have hK := hC.1
  intro ls h hl
  unfold wp_Rd_behindItem at h
  refine lv_aload_n hx hb d_Rd_behindItem_0 rfl (lv_at hl 0 rfl) ?_
  refine va_get (D := G.1) (ci := 1) (v := .int (rdD u0)) (C := R_Rd) (T := T_Rd) (N := 8) hx hb hts i_Rd hown hK hR 0 rfl rfl 6 (by decide) (hts _ b_103) (fun _ h9 => h9) rfl d_Rd_behindItem_1 ?_
  refine lv_if_le (tgt := 23) hx hb d_Rd_behindItem_4 (by decide) (fun c9 => ?_) (fun c9 => ?_)
  · have h := h.1 c9
    refine lv_aload_n hx hb d_Rd_behindItem_23 rfl (lv_at hl 0 rfl) ?_
    refine va_get (D := G.1) (ci := 1) (v := .int (rdX u0)) (C := R_Rd) (T := T_Rd) (N := 8) hx hb hts i_Rd hown hK hR 0 rfl rfl 5 (by decide) (hts _ b_104) (fun _ h9 => h9) rfl d_Rd_behindItem_24 ?_
    have hsw := h
    by_cases c1000 : (rdX u0) = 0
    · have h := hsw
      have h := h.1 (c1000)
      refine lv_tabK (a := 0) (off := 29) (tgt := 56) hx hb d_Rd_behindItem_27 c1000 t32_0 (by decide) (by decide) rfl (by decide) ?_
      refine lv_iload_n hx hb d_Rd_behindItem_56 rfl (lv_at hl 1 rfl) ?_
      have hRc : va_P G.1 vwCl [] s.heap := vaP_nil
      refine vp_callSi (va_runS (As := [.int x1]) (rest := []) ⟨hx, hb, hml, hown, hts⟩ (c_Rd_behindBound l G x1 _ h) (va_cwS 1 hts (gwS b_101 b_102 b_90 b_100) rfl rfl rfl hd_Rd_behindBound.2 ⟨Nat.le_of_ble_eq_true rfl, Nat.le_of_ble_eq_true rfl⟩) ⟨mP_blind, fun U hU hW => ⟨rfl, hC.to0 hW hU, by rw [hU]; exact hRc⟩⟩ rfl rfl hl.1 rfl (lv_room (Nat.le_of_ble_eq_true rfl)) d_Rd_behindItem_57 ⟨Nat.le_of_ble_eq_true rfl, Nat.le_of_ble_eq_true rfl⟩).run (fun r8 h => ?_)
      exact W.iret hx hb hr (fun t ht hW => ⟨_, rfl, h, ht⟩) (fun _ z => by cases z) d_Rd_behindItem_60
    by_cases c1001 : (rdX u0) = 1
    · have h := hsw
      have h := h.2.2.2 ⟨(fun z => absurd (c1001.symm.trans z) (by decide)), (fun z => absurd (c1001.symm.trans z) (by decide)), (fun z => absurd (c1001.symm.trans z) (by decide))⟩
      refine lv_tabK (a := 1) (off := 52) (tgt := 79) hx hb d_Rd_behindItem_27 c1001 t32_1 (by decide) (by decide) rfl (by decide) ?_
      exact t_Rd_behindItem_79 E hR  _ _ h (lv_sub hl [0, 1] rfl)
    by_cases c1002 : (rdX u0) = 2
    · have h := hsw
      have h := h.2.1 (c1002)
      refine lv_tabK (a := 2) (off := 34) (tgt := 61) hx hb d_Rd_behindItem_27 c1002 t32_2 (by decide) (by decide) rfl (by decide) ?_
      refine lv_iload_n hx hb d_Rd_behindItem_61 rfl (lv_at hl 1 rfl) ?_
      have hRc : va_P G.1 vwCl [] s.heap := vaP_nil
      refine vp_callSi (va_runS (As := [.int x1]) (rest := []) ⟨hx, hb, hml, hown, hts⟩ (c_Rd_inTypes l G x1 _ h) (va_cwS 1 hts (gwS b_106 b_107 b_90 b_105) rfl rfl rfl hd_Rd_inTypes.2 ⟨Nat.le_of_ble_eq_true rfl, Nat.le_of_ble_eq_true rfl⟩) ⟨mP_blind, fun U hU hW => ⟨rfl, hC.to0 hW hU, by rw [hU]; exact hRc⟩⟩ rfl rfl hl.1 rfl (lv_room (Nat.le_of_ble_eq_true rfl)) d_Rd_behindItem_62 ⟨Nat.le_of_ble_eq_true rfl, Nat.le_of_ble_eq_true rfl⟩).run (fun r9 h => ?_)
      exact W.iret hx hb hr (fun t ht hW => ⟨_, rfl, h, ht⟩) (fun _ z => by cases z) d_Rd_behindItem_65
    by_cases c1003 : (rdX u0) = 3
    · have h := hsw
      have h := h.2.2.1 (c1003)
      refine lv_tabK (a := 3) (off := 39) (tgt := 66) hx hb d_Rd_behindItem_27 c1003 t32_3 (by decide) (by decide) rfl (by decide) ?_
      refine lv_iload_n hx hb d_Rd_behindItem_66 rfl (lv_at hl 1 rfl) ?_
      refine lv_bipush (v := 94) hx hb d_Rd_behindItem_67 (by decide) ?_
      refine lv_icmp_ne (tgt := 77) hx hb d_Rd_behindItem_69 (by decide) (fun c9 => ?_) (fun c9 => ?_)
      · have h := h.1 c9
        refine lv_iconst (v := 0) hx hb d_Rd_behindItem_77 (by decide) ?_
        exact W.iret hx hb hr (fun t ht hW => ⟨_, rfl, h, ht⟩) (fun _ z => by cases z) d_Rd_behindItem_78
      · have h := h.2 c9
        refine lv_bipush (v := 24) hx hb d_Rd_behindItem_72 (by decide) ?_
        refine lv_goto (tgt := 78) hx hb d_Rd_behindItem_74 (by decide) ?_
        exact W.iret hx hb hr (fun t ht hW => ⟨_, rfl, h, ht⟩) (fun _ z => by cases z) d_Rd_behindItem_78
    have h := hsw.2.2.2 ⟨c1000, c1002, c1003⟩
    refine lv_tableOut (tgt := 79) hx hb d_Rd_behindItem_27 (sw_out (lo := 0) (n := 4) (lt_s (lt_s (lt_s (lt_s lt_0 (lv_neT c1000 t32_0)) (lv_neT c1001 t32_1)) (lv_neT c1002 t32_2)) (lv_neT c1003 t32_3))) (by decide) ?_
    exact t_Rd_behindItem_79 E hR  _ _ h (lv_sub hl [0, 1] rfl)
  · have h := h.2 c9
    refine lv_iload_n hx hb d_Rd_behindItem_7 rfl (lv_at hl 1 rfl) ?_
    refine lv_bipush (v := 62) hx hb d_Rd_behindItem_8 (by decide) ?_
    refine lv_icmp_ne (tgt := 18) hx hb d_Rd_behindItem_10 (by decide) (fun c9 => ?_) (fun c9 => ?_)
    · have h := h.1 c9
      refine lv_iload_n hx hb d_Rd_behindItem_18 rfl (lv_at hl 1 rfl) ?_
      have hRc : va_P G.1 vwCl [] s.heap := vaP_nil
      refine vp_callSi (va_runS (As := [.int x1]) (rest := []) ⟨hx, hb, hml, hown, hts⟩ (c_Rd_argument l G x1 _ h) (va_cwS 1 hts (gwS b_109 b_110 b_90 b_108) rfl rfl rfl hd_Rd_argument.2 ⟨Nat.le_of_ble_eq_true rfl, Nat.le_of_ble_eq_true rfl⟩) ⟨mP_blind, fun U hU hW => ⟨rfl, hC.to0 hW hU, by rw [hU]; exact hRc⟩⟩ rfl rfl hl.1 rfl (lv_room (Nat.le_of_ble_eq_true rfl)) d_Rd_behindItem_19 ⟨Nat.le_of_ble_eq_true rfl, Nat.le_of_ble_eq_true rfl⟩).run (fun r10 h => ?_)
      exact W.iret hx hb hr (fun t ht hW => ⟨_, rfl, h, ht⟩) (fun _ z => by cases z) d_Rd_behindItem_22
    · have h := h.2 c9
      refine lv_bipush (v := 16) hx hb d_Rd_behindItem_13 (by decide) ?_
      refine lv_goto (tgt := 22) hx hb d_Rd_behindItem_15 (by decide) ?_
      exact W.iret hx hb hr (fun t ht hW => ⟨_, rfl, h, ht⟩) (fun _ z => by cases z) d_Rd_behindItem_22
set_option maxHeartbeats 4000000 in
set_option maxRecDepth 100000 in
theorem c_Rd_behindItem (l : Launch) (G : GX) (a0_0 a0_1 a0_2 a0_3 : Nat) (u0 : RdC) (x1 : Int32) (post : Int32 → Prop) (h : wp_Rd_behindItem post u0 x1) : Met l y_Rd_behindItem wc_Rd_behindItem rm_Rd_behindItem (mP G [.ref a0_0, .int x1] [(a0_0, .inr (1, [.ref a0_1, .ref a0_2, .ref a0_3, .int (rdC u0), .int (rdK u0), .int (rdX u0), .int (rdD u0), .int (rdL u0)])), (a0_1, .inl (G.2.1 1, rdN u0, .inl (rdR u0))), (a0_2, .inl (G.2.1 1, rdN u0, .inl (rdB u0))), (a0_3, .inl (G.2.1 1, rdN u0, .inl (rdE u0)))]) (vp_Si post) 0 0 (fun _ => False) := by
  refine Met.ofW (cc := cc_Rd_behindItem) (maxL := 2) (ret := (some .int)) (by decide) rfl ?_
  intro p e s m args below meth c s₁ B hml hv
  obtain ⟨rfl, hC, hR⟩ := hv
  have E : EN p s m ([.ref a0_0, .int x1] : List Value).toArray meth c G R_Rd cc_Rd_behindItem 2 (some .int) BG := ⟨B.exec, B.bytes, B.returns, fun w h => atoms_spec (ws := wc_Rd_behindItem) B.pre w (List.mem_cons_of_mem _ h), findClass_of_methodNamed B.named, B.notSynchronized, hml, hC⟩
  have hl := lv_entry ([.ref a0_0, .int x1]) (n := 2) (Nat.le_of_ble_eq_true rfl)
  rw [lg_entry_eq]
  generalize (lg_sl ([.ref a0_0, .int x1]) ++ List.replicate (2 - (lg_sl ([.ref a0_0, .int x1])).length) Slot.unset).toArray = ls at hl ⊢
  have hl : lv_has ls 2 [(0, .ref a0_0), (1, .int x1)] := hl
  exact t_Rd_behindItem_in E hR _ h hl
set_option maxHeartbeats 4000000 in
set_option maxRecDepth 100000 in
theorem t_Rd_atBody_in {p : Program} {l : Launch} {e : Env} {s : State} {m : MethodId} {args : Array Value} {below : List Frame} {meth : Method} {c : Code} {G : GX} {a0_0 a0_1 a0_2 a0_3 : Nat} {u0 : RdC} {post : Int32 → Prop} {x1 : Int32} (E : EN p s m args meth c G R_Rd cc_Rd_atBody 2 (some .int) BG) (hR : va_P G.1 vwCl [(a0_0, .inr (1, [.ref a0_1, .ref a0_2, .ref a0_3, .int (rdC u0), .int (rdK u0), .int (rdX u0), .int (rdD u0), .int (rdL u0)])), (a0_1, .inl (G.2.1 1, rdN u0, .inl (rdR u0))), (a0_2, .inl (G.2.1 1, rdN u0, .inl (rdB u0))), (a0_3, .inl (G.2.1 1, rdN u0, .inl (rdE u0)))] s.heap) : ∀ (ls : Array Slot), wp_Rd_atBody post u0 x1 → lv_has ls 2 [(0, .ref a0_0), (1, .int x1)] → W p l e rm_Rd_atBody s m args below meth c s.heap [] 0 0 (MQ below (vp_Si post) args s 0 0 (fun _ => False)) (F0 m 0 ls []) := by
  obtain ⟨hx, hb, hr, hts, hown, hlocks, hml, hC⟩ := id E
  have hK := hC.1
  intro ls h hl
  unfold wp_Rd_atBody at h
  refine lv_aload_n hx hb d_Rd_atBody_0 rfl (lv_at hl 0 rfl) ?_
  refine va_get (D := G.1) (ci := 1) (v := .int (rdK u0)) (C := R_Rd) (T := T_Rd) (N := 8) hx hb hts i_Rd hown hK hR 0 rfl rfl 4 (by decide) (hts _ b_111) (fun _ h9 => h9) rfl d_Rd_atBody_1 ?_
  refine lv_iconst (v := 1) hx hb d_Rd_atBody_4 (by decide) ?_
  refine lv_icmp_ne (tgt := 21) hx hb d_Rd_atBody_5 (by decide) (fun c9 => ?_) (fun c9 => ?_)
  · have h := h.1 c9
    refine lv_iload_n hx hb d_Rd_atBody_21 rfl (lv_at hl 1 rfl) ?_
    refine lv_bipush (v := 76) hx hb d_Rd_atBody_22 (by decide) ?_
    refine lv_icmp_ne (tgt := 32) hx hb d_Rd_atBody_24 (by decide) (fun c9 => ?_) (fun c9 => ?_)
    · have h := h.1 c9
      refine lv_iconst (v := 0) hx hb d_Rd_atBody_32 (by decide) ?_
      exact W.iret hx hb hr (fun t ht hW => ⟨_, rfl, h, ht⟩) (fun _ z => by cases z) d_Rd_atBody_33
    · have h := h.2 c9
      refine lv_bipush (v := 9) hx hb d_Rd_atBody_27 (by decide) ?_
      refine lv_goto (tgt := 33) hx hb d_Rd_atBody_29 (by decide) ?_
      exact W.iret hx hb hr (fun t ht hW => ⟨_, rfl, h, ht⟩) (fun _ z => by cases z) d_Rd_atBody_33
  · have h := h.2 c9
    refine lv_iload_n hx hb d_Rd_atBody_8 rfl (lv_at hl 1 rfl) ?_
    refine lv_bipush (v := 40) hx hb d_Rd_atBody_9 (by decide) ?_
    refine lv_icmp_ne (tgt := 19) hx hb d_Rd_atBody_11 (by decide) (fun c9 => ?_) (fun c9 => ?_)
    · have h := h.1 c9
      refine lv_iconst (v := 0) hx hb d_Rd_atBody_19 (by decide) ?_
      exact W.iret hx hb hr (fun t ht hW => ⟨_, rfl, h, ht⟩) (fun _ z => by cases z) d_Rd_atBody_20
    · have h := h.2 c9
      refine lv_bipush (v := 22) hx hb d_Rd_atBody_14 (by decide) ?_
      refine lv_goto (tgt := 20) hx hb d_Rd_atBody_16 (by decide) ?_
      exact W.iret hx hb hr (fun t ht hW => ⟨_, rfl, h, ht⟩) (fun _ z => by cases z) d_Rd_atBody_20
set_option maxHeartbeats 4000000 in
set_option maxRecDepth 100000 in
theorem c_Rd_atBody (l : Launch) (G : GX) (a0_0 a0_1 a0_2 a0_3 : Nat) (u0 : RdC) (x1 : Int32) (post : Int32 → Prop) (h : wp_Rd_atBody post u0 x1) : Met l y_Rd_atBody wc_Rd_atBody rm_Rd_atBody (mP G [.ref a0_0, .int x1] [(a0_0, .inr (1, [.ref a0_1, .ref a0_2, .ref a0_3, .int (rdC u0), .int (rdK u0), .int (rdX u0), .int (rdD u0), .int (rdL u0)])), (a0_1, .inl (G.2.1 1, rdN u0, .inl (rdR u0))), (a0_2, .inl (G.2.1 1, rdN u0, .inl (rdB u0))), (a0_3, .inl (G.2.1 1, rdN u0, .inl (rdE u0)))]) (vp_Si post) 0 0 (fun _ => False) := by
  refine Met.ofW (cc := cc_Rd_atBody) (maxL := 2) (ret := (some .int)) (by decide) rfl ?_
  intro p e s m args below meth c s₁ B hml hv
  obtain ⟨rfl, hC, hR⟩ := hv
  have E : EN p s m ([.ref a0_0, .int x1] : List Value).toArray meth c G R_Rd cc_Rd_atBody 2 (some .int) BG := ⟨B.exec, B.bytes, B.returns, fun w h => atoms_spec (ws := wc_Rd_atBody) B.pre w (List.mem_cons_of_mem _ h), findClass_of_methodNamed B.named, B.notSynchronized, hml, hC⟩
  have hl := lv_entry ([.ref a0_0, .int x1]) (n := 2) (Nat.le_of_ble_eq_true rfl)
  rw [lg_entry_eq]
  generalize (lg_sl ([.ref a0_0, .int x1]) ++ List.replicate (2 - (lg_sl ([.ref a0_0, .int x1])).length) Slot.unset).toArray = ls at hl ⊢
  have hl : lv_has ls 2 [(0, .ref a0_0), (1, .int x1)] := hl
  exact t_Rd_atBody_in E hR _ h hl
set_option maxHeartbeats 4000000 in
set_option maxRecDepth 100000 in
theorem t_Rd_atStart_in {p : Program} {l : Launch} {e : Env} {s : State} {m : MethodId} {args : Array Value} {below : List Frame} {meth : Method} {c : Code} {G : GX} {a0_0 a0_1 a0_2 a0_3 : Nat} {u0 : RdC} {post : Int32 → Prop} {x1 : Int32} (E : EN p s m args meth c G R_Rd cc_Rd_atStart 2 (some .int) BG) (hR : va_P G.1 vwCl [(a0_0, .inr (1, [.ref a0_1, .ref a0_2, .ref a0_3, .int (rdC u0), .int (rdK u0), .int (rdX u0), .int (rdD u0), .int (rdL u0)])), (a0_1, .inl (G.2.1 1, rdN u0, .inl (rdR u0))), (a0_2, .inl (G.2.1 1, rdN u0, .inl (rdB u0))), (a0_3, .inl (G.2.1 1, rdN u0, .inl (rdE u0)))] s.heap) : ∀ (ls : Array Slot), wp_Rd_atStart post u0 x1 → lv_has ls 2 [(0, .ref a0_0), (1, .int x1)] → W p l e rm_Rd_atStart s m args below meth c s.heap [] 0 0 (MQ below (vp_Si post) args s 0 0 (fun _ => False)) (F0 m 0 ls []) := by
  obtain ⟨hx, hb, hr, hts, hown, hlocks, hml, hC⟩ := id E
  have hK := hC.1
  intro ls h hl
  unfold wp_Rd_atStart at h
  refine lv_aload_n hx hb d_Rd_atStart_0 rfl (lv_at hl 0 rfl) ?_
  refine va_get (D := G.1) (ci := 1) (v := .int (rdK u0)) (C := R_Rd) (T := T_Rd) (N := 8) hx hb hts i_Rd hown hK hR 0 rfl rfl 4 (by decide) (hts _ b_111) (fun _ h9 => h9) rfl d_Rd_atStart_1 ?_
  refine lv_iconst (v := 2) hx hb d_Rd_atStart_4 (by decide) ?_
  refine lv_icmp_ne (tgt := 13) hx hb d_Rd_atStart_5 (by decide) (fun c9 => ?_) (fun c9 => ?_)
  · have h := h.1 c9
    refine lv_iload_n hx hb d_Rd_atStart_13 rfl (lv_at hl 1 rfl) ?_
    refine lv_bipush (v := 60) hx hb d_Rd_atStart_14 (by decide) ?_
    refine lv_icmp_ne (tgt := 23) hx hb d_Rd_atStart_16 (by decide) (fun c9 => ?_) (fun c9 => ?_)
    · have h := h.1 c9
      refine lv_aload_n hx hb d_Rd_atStart_23 rfl (lv_at hl 0 rfl) ?_
      refine lv_iload_n hx hb d_Rd_atStart_24 rfl (lv_at hl 1 rfl) ?_
      have hRc : va_P G.1 vwCl [(a0_0, .inr (1, [.ref a0_1, .ref a0_2, .ref a0_3, .int (rdC u0), .int (rdK u0), .int (rdX u0), .int (rdD u0), .int (rdL u0)])), (a0_1, .inl (G.2.1 1, rdN u0, .inl (rdR u0))), (a0_2, .inl (G.2.1 1, rdN u0, .inl (rdB u0))), (a0_3, .inl (G.2.1 1, rdN u0, .inl (rdE u0)))] s.heap := (hR.sub (ws' := [(a0_0, .inr (1, [.ref a0_1, .ref a0_2, .ref a0_3, .int (rdC u0), .int (rdK u0), .int (rdX u0), .int (rdD u0), .int (rdL u0)])), (a0_1, .inl (G.2.1 1, rdN u0, .inl (rdR u0))), (a0_2, .inl (G.2.1 1, rdN u0, .inl (rdB u0))), (a0_3, .inl (G.2.1 1, rdN u0, .inl (rdE u0)))]) [0, 1, 2, 3] rfl)
      refine vp_callSi (va_runV (As := [.int x1]) (rest := []) ⟨hx, hb, hml, hown, hts⟩ (c_Rd_atBody l G a0_0 a0_1 a0_2 a0_3 u0 x1 _ h) (cwV 1 hts (gwV b_113 b_114 b_115 b_90 b_112) rfl rfl rfl hd_Rd_atBody ⟨Nat.le_of_ble_eq_true rfl, Nat.le_of_ble_eq_true rfl⟩) ⟨mP_blind, va_recv hK hRc (ci := 1) (q0 := 0) rfl rfl, fun U hU hW => ⟨rfl, hC.to0 hW hU, by rw [hU]; exact hRc⟩⟩ rfl rfl hl.1 rfl (lv_room (Nat.le_of_ble_eq_true rfl)) d_Rd_atStart_25 ⟨Nat.le_of_ble_eq_true rfl, Nat.le_of_ble_eq_true rfl⟩).run (fun r3 h => ?_)
      exact W.iret hx hb hr (fun t ht hW => ⟨_, rfl, h, ht⟩) (fun _ z => by cases z) d_Rd_atStart_28
    · have h := h.2 c9
      refine lv_iconst (v := 1) hx hb d_Rd_atStart_19 (by decide) ?_
      refine lv_goto (tgt := 28) hx hb d_Rd_atStart_20 (by decide) ?_
      exact W.iret hx hb hr (fun t ht hW => ⟨_, rfl, h, ht⟩) (fun _ z => by cases z) d_Rd_atStart_28
  · have h := h.2 c9
    refine lv_iload_n hx hb d_Rd_atStart_8 rfl (lv_at hl 1 rfl) ?_
    have hRc : va_P G.1 vwCl [] s.heap := vaP_nil
    refine vp_callSi (va_runS (As := [.int x1]) (rest := []) ⟨hx, hb, hml, hown, hts⟩ (c_Rd_reference l G x1 _ h) (va_cwS 1 hts (gwS b_88 b_89 b_90 b_87) rfl rfl rfl hd_Rd_reference.2 ⟨Nat.le_of_ble_eq_true rfl, Nat.le_of_ble_eq_true rfl⟩) ⟨mP_blind, fun U hU hW => ⟨rfl, hC.to0 hW hU, by rw [hU]; exact hRc⟩⟩ rfl rfl hl.1 rfl (lv_room (Nat.le_of_ble_eq_true rfl)) d_Rd_atStart_9 ⟨Nat.le_of_ble_eq_true rfl, Nat.le_of_ble_eq_true rfl⟩).run (fun r4 h => ?_)
    exact W.iret hx hb hr (fun t ht hW => ⟨_, rfl, h, ht⟩) (fun _ z => by cases z) d_Rd_atStart_12
set_option maxHeartbeats 4000000 in
set_option maxRecDepth 100000 in
theorem c_Rd_atStart (l : Launch) (G : GX) (a0_0 a0_1 a0_2 a0_3 : Nat) (u0 : RdC) (x1 : Int32) (post : Int32 → Prop) (h : wp_Rd_atStart post u0 x1) : Met l y_Rd_atStart wc_Rd_atStart rm_Rd_atStart (mP G [.ref a0_0, .int x1] [(a0_0, .inr (1, [.ref a0_1, .ref a0_2, .ref a0_3, .int (rdC u0), .int (rdK u0), .int (rdX u0), .int (rdD u0), .int (rdL u0)])), (a0_1, .inl (G.2.1 1, rdN u0, .inl (rdR u0))), (a0_2, .inl (G.2.1 1, rdN u0, .inl (rdB u0))), (a0_3, .inl (G.2.1 1, rdN u0, .inl (rdE u0)))]) (vp_Si post) 0 0 (fun _ => False) := by
  refine Met.ofW (cc := cc_Rd_atStart) (maxL := 2) (ret := (some .int)) (by decide) rfl ?_
  intro p e s m args below meth c s₁ B hml hv
  obtain ⟨rfl, hC, hR⟩ := hv
  have E : EN p s m ([.ref a0_0, .int x1] : List Value).toArray meth c G R_Rd cc_Rd_atStart 2 (some .int) BG := ⟨B.exec, B.bytes, B.returns, fun w h => atoms_spec (ws := wc_Rd_atStart) B.pre w (List.mem_cons_of_mem _ h), findClass_of_methodNamed B.named, B.notSynchronized, hml, hC⟩
  have hl := lv_entry ([.ref a0_0, .int x1]) (n := 2) (Nat.le_of_ble_eq_true rfl)
  rw [lg_entry_eq]
  generalize (lg_sl ([.ref a0_0, .int x1]) ++ List.replicate (2 - (lg_sl ([.ref a0_0, .int x1])).length) Slot.unset).toArray = ls at hl ⊢
  have hl : lv_has ls 2 [(0, .ref a0_0), (1, .int x1)] := hl
  exact t_Rd_atStart_in E hR _ h hl
