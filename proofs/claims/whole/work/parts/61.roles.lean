set_option maxHeartbeats 4000000 in
set_option maxRecDepth 100000 in
theorem t_beginsReference_18 {p : Program} {l : Launch} {e : Env} {s : State} {m : MethodId} {args : Array Value} {below : List Frame} {meth : Method} {c : Code} {G : GX} {post : Int32 → Prop} (E : EN p s m args meth c G R_Fo cc_Fo_beginsReference 1 (some .boolean) BG) (hR : va_P G.1 vwCl [] s.heap) : ∀ (ls : Array Slot), w_beginsReference_18 post → lv_has ls 1 [] → W p l e rm_beginsReference s m args below meth c s.heap [] 0 0 (MQ below (vp_Si post) args s 0 0 (fun _ => False)) (F0 m 18 ls []) := by
  obtain ⟨hx, hb, hr, hts, hown, hlocks, hml, hC⟩ := id E
  have hK := hC.1
  intro   ls h hl
  unfold w_beginsReference_18 at h
  refine lv_iconst (v := 1) hx hb d_Fo_beginsReference_18 (by decide) ?_
  refine lv_goto (tgt := 23) hx hb d_Fo_beginsReference_19 (by decide) ?_
  exact W.zret hx hb hr (by decide) (fun t ht hW => ⟨_, rfl, h, ht⟩) (fun _ z => by cases z) d_Fo_beginsReference_23
set_option maxHeartbeats 4000000 in
set_option maxRecDepth 100000 in
theorem t_beginsReference_in {p : Program} {l : Launch} {e : Env} {s : State} {m : MethodId} {args : Array Value} {below : List Frame} {meth : Method} {c : Code} {G : GX} {post : Int32 → Prop} {x0 : Int32} (E : EN p s m args meth c G R_Fo cc_Fo_beginsReference 1 (some .boolean) BG) (hR : va_P G.1 vwCl [] s.heap) : ∀ (ls : Array Slot), wp_beginsReference post x0 → lv_has ls 1 [(0, .int x0)] → W p l e rm_beginsReference s m args below meth c s.heap [] 0 0 (MQ below (vp_Si post) args s 0 0 (fun _ => False)) (F0 m 0 ls []) := by
  obtain ⟨hx, hb, hr, hts, hown, hlocks, hml, hC⟩ := id E
  have hK := hC.1
  intro ls h hl
  unfold wp_beginsReference at h
  refine lv_iload_n hx hb d_Fo_beginsReference_0 rfl (lv_at hl 0 rfl) ?_
  refine lv_bipush (v := 9) hx hb d_Fo_beginsReference_1 (by decide) ?_
  refine lv_icmp_eq (tgt := 18) hx hb d_Fo_beginsReference_3 (by decide) (fun c9 => ?_) (fun c9 => ?_)
  · have h := h.1 c9
    exact t_beginsReference_18 E hR  _ h (lv_sub hl [] rfl)
  · have h := h.2 c9
    refine lv_iload_n hx hb d_Fo_beginsReference_6 rfl (lv_at hl 0 rfl) ?_
    refine lv_bipush (v := 6) hx hb d_Fo_beginsReference_7 (by decide) ?_
    refine lv_icmp_eq (tgt := 18) hx hb d_Fo_beginsReference_9 (by decide) (fun c9 => ?_) (fun c9 => ?_)
    · have h := h.1 c9
      exact t_beginsReference_18 E hR  _ h (lv_sub hl [] rfl)
    · have h := h.2 c9
      refine lv_iload_n hx hb d_Fo_beginsReference_12 rfl (lv_at hl 0 rfl) ?_
      refine lv_bipush (v := 19) hx hb d_Fo_beginsReference_13 (by decide) ?_
      refine lv_icmp_ne (tgt := 22) hx hb d_Fo_beginsReference_15 (by decide) (fun c9 => ?_) (fun c9 => ?_)
      · have h := h.1 c9
        refine lv_iconst (v := 0) hx hb d_Fo_beginsReference_22 (by decide) ?_
        exact W.zret hx hb hr (by decide) (fun t ht hW => ⟨_, rfl, h, ht⟩) (fun _ z => by cases z) d_Fo_beginsReference_23
      · have h := h.2 c9
        exact t_beginsReference_18 E hR  _ h (lv_sub hl [] rfl)
set_option maxHeartbeats 4000000 in
set_option maxRecDepth 100000 in
theorem c_beginsReference (l : Launch) (G : GX) (x0 : Int32) (post : Int32 → Prop) (h : wp_beginsReference post x0) : Met l y_Fo_beginsReference wc_Fo_beginsReference rm_beginsReference (mP G [.int x0] []) (vp_Si post) 0 0 (fun _ => False) := by
  refine Met.ofW (cc := cc_Fo_beginsReference) (maxL := 1) (ret := (some .boolean)) (by decide) rfl ?_
  intro p e s m args below meth c s₁ B hml hv
  obtain ⟨rfl, hC, hR⟩ := hv
  have E : EN p s m ([.int x0] : List Value).toArray meth c G R_Fo cc_Fo_beginsReference 1 (some .boolean) BG := ⟨B.exec, B.bytes, B.returns, fun w h => atoms_spec (ws := wc_Fo_beginsReference) B.pre w (List.mem_cons_of_mem _ h), findClass_of_methodNamed B.named, B.notSynchronized, hml, hC⟩
  have hl := lv_entry ([.int x0]) (n := 1) (Nat.le_of_ble_eq_true rfl)
  rw [lg_entry_eq]
  generalize (lg_sl ([.int x0]) ++ List.replicate (1 - (lg_sl ([.int x0])).length) Slot.unset).toArray = ls at hl ⊢
  have hl : lv_has ls 1 [(0, .int x0)] := hl
  exact t_beginsReference_in E hR _ h hl
set_option maxHeartbeats 4000000 in
set_option maxRecDepth 100000 in
theorem t_beginsItem_25 {p : Program} {l : Launch} {e : Env} {s : State} {m : MethodId} {args : Array Value} {below : List Frame} {meth : Method} {c : Code} {G : GX} {post : Int32 → Prop} (E : EN p s m args meth c G R_Fo cc_Fo_beginsItem 1 (some .boolean) BG) (hR : va_P G.1 vwCl [] s.heap) : ∀ (ls : Array Slot), w_beginsItem_25 post → lv_has ls 1 [] → W p l e rm_beginsItem s m args below meth c s.heap [] 0 0 (MQ below (vp_Si post) args s 0 0 (fun _ => False)) (F0 m 25 ls []) := by
  obtain ⟨hx, hb, hr, hts, hown, hlocks, hml, hC⟩ := id E
  have hK := hC.1
  intro   ls h hl
  unfold w_beginsItem_25 at h
  refine lv_iconst (v := 1) hx hb d_Fo_beginsItem_25 (by decide) ?_
  refine lv_goto (tgt := 30) hx hb d_Fo_beginsItem_26 (by decide) ?_
  exact W.zret hx hb hr (by decide) (fun t ht hW => ⟨_, rfl, h, ht⟩) (fun _ z => by cases z) d_Fo_beginsItem_30
set_option maxHeartbeats 4000000 in
set_option maxRecDepth 100000 in
theorem t_beginsItem_in {p : Program} {l : Launch} {e : Env} {s : State} {m : MethodId} {args : Array Value} {below : List Frame} {meth : Method} {c : Code} {G : GX} {post : Int32 → Prop} {x0 : Int32} (E : EN p s m args meth c G R_Fo cc_Fo_beginsItem 1 (some .boolean) BG) (hR : va_P G.1 vwCl [] s.heap) : ∀ (ls : Array Slot), wp_beginsItem post x0 → lv_has ls 1 [(0, .int x0)] → W p l e rm_beginsItem s m args below meth c s.heap [] 0 0 (MQ below (vp_Si post) args s 0 0 (fun _ => False)) (F0 m 0 ls []) := by
  obtain ⟨hx, hb, hr, hts, hown, hlocks, hml, hC⟩ := id E
  have hK := hC.1
  intro ls h hl
  unfold wp_beginsItem at h
  refine lv_iload_n hx hb d_Fo_beginsItem_0 rfl (lv_at hl 0 rfl) ?_
  have hRc : va_P G.1 vwCl [] s.heap := vaP_nil
  refine vp_callSi (va_runS (As := [.int x0]) (rest := []) ⟨hx, hb, hml, hown, hts⟩ (c_beginsReference l G x0 _ h) (va_cwS 1 hts (gwS b_49 b_50 b_51 b_48) rfl rfl rfl hd_Fo_beginsReference.2 ⟨Nat.le_of_ble_eq_true rfl, Nat.le_of_ble_eq_true rfl⟩) ⟨mP_blind, fun U hU hW => ⟨rfl, hC.to0 hW hU, by rw [hU]; exact hRc⟩⟩ rfl rfl hl.1 rfl (lv_room (Nat.le_of_ble_eq_true rfl)) d_Fo_beginsItem_1 ⟨Nat.le_of_ble_eq_true rfl, Nat.le_of_ble_eq_true rfl⟩).run (fun r2 h => ?_)
  refine lv_if_ne (tgt := 25) hx hb d_Fo_beginsItem_4 (by decide) (fun c9 => ?_) (fun c9 => ?_)
  · have h := h.1 c9
    exact t_beginsItem_25 E hR  _ h (lv_sub hl [] rfl)
  · have h := h.2 c9
    refine lv_iload_n hx hb d_Fo_beginsItem_7 rfl (lv_at hl 0 rfl) ?_
    refine lv_bipush (v := 20) hx hb d_Fo_beginsItem_8 (by decide) ?_
    refine lv_icmp_eq (tgt := 25) hx hb d_Fo_beginsItem_10 (by decide) (fun c9 => ?_) (fun c9 => ?_)
    · have h := h.1 c9
      exact t_beginsItem_25 E hR  _ h (lv_sub hl [] rfl)
    · have h := h.2 c9
      refine lv_iload_n hx hb d_Fo_beginsItem_13 rfl (lv_at hl 0 rfl) ?_
      refine lv_bipush (v := 17) hx hb d_Fo_beginsItem_14 (by decide) ?_
      refine lv_icmp_eq (tgt := 25) hx hb d_Fo_beginsItem_16 (by decide) (fun c9 => ?_) (fun c9 => ?_)
      · have h := h.1 c9
        exact t_beginsItem_25 E hR  _ h (lv_sub hl [] rfl)
      · have h := h.2 c9
        refine lv_iload_n hx hb d_Fo_beginsItem_19 rfl (lv_at hl 0 rfl) ?_
        refine lv_bipush (v := 18) hx hb d_Fo_beginsItem_20 (by decide) ?_
        refine lv_icmp_ne (tgt := 29) hx hb d_Fo_beginsItem_22 (by decide) (fun c9 => ?_) (fun c9 => ?_)
        · have h := h.1 c9
          refine lv_iconst (v := 0) hx hb d_Fo_beginsItem_29 (by decide) ?_
          exact W.zret hx hb hr (by decide) (fun t ht hW => ⟨_, rfl, h, ht⟩) (fun _ z => by cases z) d_Fo_beginsItem_30
        · have h := h.2 c9
          exact t_beginsItem_25 E hR  _ h (lv_sub hl [] rfl)
set_option maxHeartbeats 4000000 in
set_option maxRecDepth 100000 in
theorem c_beginsItem (l : Launch) (G : GX) (x0 : Int32) (post : Int32 → Prop) (h : wp_beginsItem post x0) : Met l y_Fo_beginsItem wc_Fo_beginsItem rm_beginsItem (mP G [.int x0] []) (vp_Si post) 0 0 (fun _ => False) := by
  refine Met.ofW (cc := cc_Fo_beginsItem) (maxL := 1) (ret := (some .boolean)) (by decide) rfl ?_
  intro p e s m args below meth c s₁ B hml hv
  obtain ⟨rfl, hC, hR⟩ := hv
  have E : EN p s m ([.int x0] : List Value).toArray meth c G R_Fo cc_Fo_beginsItem 1 (some .boolean) BG := ⟨B.exec, B.bytes, B.returns, fun w h => atoms_spec (ws := wc_Fo_beginsItem) B.pre w (List.mem_cons_of_mem _ h), findClass_of_methodNamed B.named, B.notSynchronized, hml, hC⟩
  have hl := lv_entry ([.int x0]) (n := 1) (Nat.le_of_ble_eq_true rfl)
  rw [lg_entry_eq]
  generalize (lg_sl ([.int x0]) ++ List.replicate (1 - (lg_sl ([.int x0])).length) Slot.unset).toArray = ls at hl ⊢
  have hl : lv_has ls 1 [(0, .int x0)] := hl
  exact t_beginsItem_in E hR _ h hl
set_option maxHeartbeats 4000000 in
set_option maxRecDepth 100000 in
theorem t_endsItem_30 {p : Program} {l : Launch} {e : Env} {s : State} {m : MethodId} {args : Array Value} {below : List Frame} {meth : Method} {c : Code} {G : GX} {post : Int32 → Prop} (E : EN p s m args meth c G R_Fo cc_Fo_endsItem 1 (some .boolean) BG) (hR : va_P G.1 vwCl [] s.heap) : ∀ (ls : Array Slot), w_endsItem_30 post → lv_has ls 1 [] → W p l e rm_endsItem s m args below meth c s.heap [] 0 0 (MQ below (vp_Si post) args s 0 0 (fun _ => False)) (F0 m 30 ls []) := by
  obtain ⟨hx, hb, hr, hts, hown, hlocks, hml, hC⟩ := id E
  have hK := hC.1
  intro   ls h hl
  unfold w_endsItem_30 at h
  refine lv_iconst (v := 1) hx hb d_Fo_endsItem_30 (by decide) ?_
  refine lv_goto (tgt := 35) hx hb d_Fo_endsItem_31 (by decide) ?_
  exact W.zret hx hb hr (by decide) (fun t ht hW => ⟨_, rfl, h, ht⟩) (fun _ z => by cases z) d_Fo_endsItem_35
set_option maxHeartbeats 4000000 in
set_option maxRecDepth 100000 in
theorem t_endsItem_in {p : Program} {l : Launch} {e : Env} {s : State} {m : MethodId} {args : Array Value} {below : List Frame} {meth : Method} {c : Code} {G : GX} {post : Int32 → Prop} {x0 : Int32} (E : EN p s m args meth c G R_Fo cc_Fo_endsItem 1 (some .boolean) BG) (hR : va_P G.1 vwCl [] s.heap) : ∀ (ls : Array Slot), wp_endsItem post x0 → lv_has ls 1 [(0, .int x0)] → W p l e rm_endsItem s m args below meth c s.heap [] 0 0 (MQ below (vp_Si post) args s 0 0 (fun _ => False)) (F0 m 0 ls []) := by
  obtain ⟨hx, hb, hr, hts, hown, hlocks, hml, hC⟩ := id E
  have hK := hC.1
  intro ls h hl
  unfold wp_endsItem at h
  refine lv_iload_n hx hb d_Fo_endsItem_0 rfl (lv_at hl 0 rfl) ?_
  refine lv_bipush (v := 14) hx hb d_Fo_endsItem_1 (by decide) ?_
  refine lv_icmp_eq (tgt := 30) hx hb d_Fo_endsItem_3 (by decide) (fun c9 => ?_) (fun c9 => ?_)
  · have h := h.1 c9
    exact t_endsItem_30 E hR  _ h (lv_sub hl [] rfl)
  · have h := h.2 c9
    refine lv_iload_n hx hb d_Fo_endsItem_6 rfl (lv_at hl 0 rfl) ?_
    refine lv_bipush (v := 8) hx hb d_Fo_endsItem_7 (by decide) ?_
    refine lv_icmp_eq (tgt := 30) hx hb d_Fo_endsItem_9 (by decide) (fun c9 => ?_) (fun c9 => ?_)
    · have h := h.1 c9
      exact t_endsItem_30 E hR  _ h (lv_sub hl [] rfl)
    · have h := h.2 c9
      refine lv_iload_n hx hb d_Fo_endsItem_12 rfl (lv_at hl 0 rfl) ?_
      refine lv_bipush (v := 20) hx hb d_Fo_endsItem_13 (by decide) ?_
      refine lv_icmp_eq (tgt := 30) hx hb d_Fo_endsItem_15 (by decide) (fun c9 => ?_) (fun c9 => ?_)
      · have h := h.1 c9
        exact t_endsItem_30 E hR  _ h (lv_sub hl [] rfl)
      · have h := h.2 c9
        refine lv_iload_n hx hb d_Fo_endsItem_18 rfl (lv_at hl 0 rfl) ?_
        refine lv_bipush (v := 21) hx hb d_Fo_endsItem_19 (by decide) ?_
        refine lv_icmp_eq (tgt := 30) hx hb d_Fo_endsItem_21 (by decide) (fun c9 => ?_) (fun c9 => ?_)
        · have h := h.1 c9
          exact t_endsItem_30 E hR  _ h (lv_sub hl [] rfl)
        · have h := h.2 c9
          refine lv_iload_n hx hb d_Fo_endsItem_24 rfl (lv_at hl 0 rfl) ?_
          refine lv_bipush (v := 17) hx hb d_Fo_endsItem_25 (by decide) ?_
          refine lv_icmp_ne (tgt := 34) hx hb d_Fo_endsItem_27 (by decide) (fun c9 => ?_) (fun c9 => ?_)
          · have h := h.1 c9
            refine lv_iconst (v := 0) hx hb d_Fo_endsItem_34 (by decide) ?_
            exact W.zret hx hb hr (by decide) (fun t ht hW => ⟨_, rfl, h, ht⟩) (fun _ z => by cases z) d_Fo_endsItem_35
          · have h := h.2 c9
            exact t_endsItem_30 E hR  _ h (lv_sub hl [] rfl)
set_option maxHeartbeats 4000000 in
set_option maxRecDepth 100000 in
theorem c_endsItem (l : Launch) (G : GX) (x0 : Int32) (post : Int32 → Prop) (h : wp_endsItem post x0) : Met l y_Fo_endsItem wc_Fo_endsItem rm_endsItem (mP G [.int x0] []) (vp_Si post) 0 0 (fun _ => False) := by
  refine Met.ofW (cc := cc_Fo_endsItem) (maxL := 1) (ret := (some .boolean)) (by decide) rfl ?_
  intro p e s m args below meth c s₁ B hml hv
  obtain ⟨rfl, hC, hR⟩ := hv
  have E : EN p s m ([.int x0] : List Value).toArray meth c G R_Fo cc_Fo_endsItem 1 (some .boolean) BG := ⟨B.exec, B.bytes, B.returns, fun w h => atoms_spec (ws := wc_Fo_endsItem) B.pre w (List.mem_cons_of_mem _ h), findClass_of_methodNamed B.named, B.notSynchronized, hml, hC⟩
  have hl := lv_entry ([.int x0]) (n := 1) (Nat.le_of_ble_eq_true rfl)
  rw [lg_entry_eq]
  generalize (lg_sl ([.int x0]) ++ List.replicate (1 - (lg_sl ([.int x0])).length) Slot.unset).toArray = ls at hl ⊢
  have hl : lv_has ls 1 [(0, .int x0)] := hl
  exact t_endsItem_in E hR _ h hl
