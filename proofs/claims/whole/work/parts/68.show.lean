set_option maxHeartbeats 4000000 in
set_option maxRecDepth 100000 in
theorem t_Sh_wordOf_in {p : Program} {l : Launch} {e : Env} {s : State} {m : MethodId} {args : Array Value} {below : List Frame} {meth : Method} {c : Code} {G : GX} {post : Nat → Prop} {x0 : Int32} (E : EN p s m args meth c G R_Sh cc_Sh_wordOf 1 (some (.object "java/lang/String")) BG) (hR : va_P G.1 vwCl [] s.heap) : ∀ (ls : Array Slot), wp_Sh_wordOf post x0 → lv_has ls 1 [(0, .int x0)] → W p l e rm_Sh_wordOf s m args below meth c s.heap [] 0 0 (MQ below (va_Sr post (fun k => .ref (G.2.2.2.1 k))) args s 0 0 (fun _ => False)) (F0 m 0 ls []) := by
  obtain ⟨hx, hb, hr, hts, hown, hlocks, hml, hC⟩ := id E
  have hK := hC.1
  intro ls h hl
  unfold wp_Sh_wordOf at h
  refine lv_iload_n hx hb d_Sh_wordOf_0 rfl (lv_at hl 0 rfl) ?_
  have hsw := h
  by_cases c1066 : x0 = 66
  · have h := hsw
    have h := h.1 (c1066)
    refine lv_tabK (a := 66) (off := 115) (tgt := 116) hx hb d_Sh_wordOf_1 c1066 t32_66 (by decide) (by decide) rfl (by decide) ?_
    refine va_ldcS hx hb hown (sr_3 hC) d_Sh_wordOf_116 ?_
    exact W.aret hx hb hr (Or.inl ⟨_, rfl⟩) (Or.inr ⟨_, rfl⟩) (fun t ht hW => ⟨_, rfl, h, ht⟩) (fun _ z => by cases z) d_Sh_wordOf_118
  by_cases c1067 : x0 = 67
  · have h := hsw
    have h := h.2.1 (c1067)
    refine lv_tabK (a := 67) (off := 118) (tgt := 119) hx hb d_Sh_wordOf_1 c1067 t32_67 (by decide) (by decide) rfl (by decide) ?_
    refine va_ldcS hx hb hown (sr_4 hC) d_Sh_wordOf_119 ?_
    exact W.aret hx hb hr (Or.inl ⟨_, rfl⟩) (Or.inr ⟨_, rfl⟩) (fun t ht hW => ⟨_, rfl, h, ht⟩) (fun _ z => by cases z) d_Sh_wordOf_121
  by_cases c1068 : x0 = 68
  · have h := hsw
    have h := h.2.2.1 (c1068)
    refine lv_tabK (a := 68) (off := 121) (tgt := 122) hx hb d_Sh_wordOf_1 c1068 t32_68 (by decide) (by decide) rfl (by decide) ?_
    refine va_ldcS hx hb hown (sr_5 hC) d_Sh_wordOf_122 ?_
    exact W.aret hx hb hr (Or.inl ⟨_, rfl⟩) (Or.inr ⟨_, rfl⟩) (fun t ht hW => ⟨_, rfl, h, ht⟩) (fun _ z => by cases z) d_Sh_wordOf_124
  by_cases c1069 : x0 = 69
  · have h := hsw
    have h := h.2.2.2.2.2.2.2.2 ⟨(fun z => absurd (c1069.symm.trans z) (by decide)), (fun z => absurd (c1069.symm.trans z) (by decide)), (fun z => absurd (c1069.symm.trans z) (by decide)), (fun z => absurd (c1069.symm.trans z) (by decide)), (fun z => absurd (c1069.symm.trans z) (by decide)), (fun z => absurd (c1069.symm.trans z) (by decide)), (fun z => absurd (c1069.symm.trans z) (by decide)), (fun z => absurd (c1069.symm.trans z) (by decide))⟩
    refine lv_tabK (a := 69) (off := 139) (tgt := 140) hx hb d_Sh_wordOf_1 c1069 t32_69 (by decide) (by decide) rfl (by decide) ?_
    refine va_ldcS hx hb hown (sr_11 hC) d_Sh_wordOf_140 ?_
    exact W.aret hx hb hr (Or.inl ⟨_, rfl⟩) (Or.inr ⟨_, rfl⟩) (fun t ht hW => ⟨_, rfl, h, ht⟩) (fun _ z => by cases z) d_Sh_wordOf_142
  by_cases c1070 : x0 = 70
  · have h := hsw
    have h := h.2.2.2.1 (c1070)
    refine lv_tabK (a := 70) (off := 124) (tgt := 125) hx hb d_Sh_wordOf_1 c1070 t32_70 (by decide) (by decide) rfl (by decide) ?_
    refine va_ldcS hx hb hown (sr_6 hC) d_Sh_wordOf_125 ?_
    exact W.aret hx hb hr (Or.inl ⟨_, rfl⟩) (Or.inr ⟨_, rfl⟩) (fun t ht hW => ⟨_, rfl, h, ht⟩) (fun _ z => by cases z) d_Sh_wordOf_127
  by_cases c1071 : x0 = 71
  · have h := hsw
    have h := h.2.2.2.2.2.2.2.2 ⟨(fun z => absurd (c1071.symm.trans z) (by decide)), (fun z => absurd (c1071.symm.trans z) (by decide)), (fun z => absurd (c1071.symm.trans z) (by decide)), (fun z => absurd (c1071.symm.trans z) (by decide)), (fun z => absurd (c1071.symm.trans z) (by decide)), (fun z => absurd (c1071.symm.trans z) (by decide)), (fun z => absurd (c1071.symm.trans z) (by decide)), (fun z => absurd (c1071.symm.trans z) (by decide))⟩
    refine lv_tabK (a := 71) (off := 139) (tgt := 140) hx hb d_Sh_wordOf_1 c1071 t32_71 (by decide) (by decide) rfl (by decide) ?_
    refine va_ldcS hx hb hown (sr_11 hC) d_Sh_wordOf_140 ?_
    exact W.aret hx hb hr (Or.inl ⟨_, rfl⟩) (Or.inr ⟨_, rfl⟩) (fun t ht hW => ⟨_, rfl, h, ht⟩) (fun _ z => by cases z) d_Sh_wordOf_142
  by_cases c1072 : x0 = 72
  · have h := hsw
    have h := h.2.2.2.2.2.2.2.2 ⟨(fun z => absurd (c1072.symm.trans z) (by decide)), (fun z => absurd (c1072.symm.trans z) (by decide)), (fun z => absurd (c1072.symm.trans z) (by decide)), (fun z => absurd (c1072.symm.trans z) (by decide)), (fun z => absurd (c1072.symm.trans z) (by decide)), (fun z => absurd (c1072.symm.trans z) (by decide)), (fun z => absurd (c1072.symm.trans z) (by decide)), (fun z => absurd (c1072.symm.trans z) (by decide))⟩
    refine lv_tabK (a := 72) (off := 139) (tgt := 140) hx hb d_Sh_wordOf_1 c1072 t32_72 (by decide) (by decide) rfl (by decide) ?_
    refine va_ldcS hx hb hown (sr_11 hC) d_Sh_wordOf_140 ?_
    exact W.aret hx hb hr (Or.inl ⟨_, rfl⟩) (Or.inr ⟨_, rfl⟩) (fun t ht hW => ⟨_, rfl, h, ht⟩) (fun _ z => by cases z) d_Sh_wordOf_142
  by_cases c1073 : x0 = 73
  · have h := hsw
    have h := h.2.2.2.2.1 (c1073)
    refine lv_tabK (a := 73) (off := 127) (tgt := 128) hx hb d_Sh_wordOf_1 c1073 t32_73 (by decide) (by decide) rfl (by decide) ?_
    refine va_ldcS hx hb hown (sr_7 hC) d_Sh_wordOf_128 ?_
    exact W.aret hx hb hr (Or.inl ⟨_, rfl⟩) (Or.inr ⟨_, rfl⟩) (fun t ht hW => ⟨_, rfl, h, ht⟩) (fun _ z => by cases z) d_Sh_wordOf_130
  by_cases c1074 : x0 = 74
  · have h := hsw
    have h := h.2.2.2.2.2.1 (c1074)
    refine lv_tabK (a := 74) (off := 130) (tgt := 131) hx hb d_Sh_wordOf_1 c1074 t32_74 (by decide) (by decide) rfl (by decide) ?_
    refine va_ldcS hx hb hown (sr_8 hC) d_Sh_wordOf_131 ?_
    exact W.aret hx hb hr (Or.inl ⟨_, rfl⟩) (Or.inr ⟨_, rfl⟩) (fun t ht hW => ⟨_, rfl, h, ht⟩) (fun _ z => by cases z) d_Sh_wordOf_133
  by_cases c1075 : x0 = 75
  · have h := hsw
    have h := h.2.2.2.2.2.2.2.2 ⟨(fun z => absurd (c1075.symm.trans z) (by decide)), (fun z => absurd (c1075.symm.trans z) (by decide)), (fun z => absurd (c1075.symm.trans z) (by decide)), (fun z => absurd (c1075.symm.trans z) (by decide)), (fun z => absurd (c1075.symm.trans z) (by decide)), (fun z => absurd (c1075.symm.trans z) (by decide)), (fun z => absurd (c1075.symm.trans z) (by decide)), (fun z => absurd (c1075.symm.trans z) (by decide))⟩
    refine lv_tabK (a := 75) (off := 139) (tgt := 140) hx hb d_Sh_wordOf_1 c1075 t32_75 (by decide) (by decide) rfl (by decide) ?_
    refine va_ldcS hx hb hown (sr_11 hC) d_Sh_wordOf_140 ?_
    exact W.aret hx hb hr (Or.inl ⟨_, rfl⟩) (Or.inr ⟨_, rfl⟩) (fun t ht hW => ⟨_, rfl, h, ht⟩) (fun _ z => by cases z) d_Sh_wordOf_142
  by_cases c1076 : x0 = 76
  · have h := hsw
    have h := h.2.2.2.2.2.2.2.2 ⟨(fun z => absurd (c1076.symm.trans z) (by decide)), (fun z => absurd (c1076.symm.trans z) (by decide)), (fun z => absurd (c1076.symm.trans z) (by decide)), (fun z => absurd (c1076.symm.trans z) (by decide)), (fun z => absurd (c1076.symm.trans z) (by decide)), (fun z => absurd (c1076.symm.trans z) (by decide)), (fun z => absurd (c1076.symm.trans z) (by decide)), (fun z => absurd (c1076.symm.trans z) (by decide))⟩
    refine lv_tabK (a := 76) (off := 139) (tgt := 140) hx hb d_Sh_wordOf_1 c1076 t32_76 (by decide) (by decide) rfl (by decide) ?_
    refine va_ldcS hx hb hown (sr_11 hC) d_Sh_wordOf_140 ?_
    exact W.aret hx hb hr (Or.inl ⟨_, rfl⟩) (Or.inr ⟨_, rfl⟩) (fun t ht hW => ⟨_, rfl, h, ht⟩) (fun _ z => by cases z) d_Sh_wordOf_142
  by_cases c1077 : x0 = 77
  · have h := hsw
    have h := h.2.2.2.2.2.2.2.2 ⟨(fun z => absurd (c1077.symm.trans z) (by decide)), (fun z => absurd (c1077.symm.trans z) (by decide)), (fun z => absurd (c1077.symm.trans z) (by decide)), (fun z => absurd (c1077.symm.trans z) (by decide)), (fun z => absurd (c1077.symm.trans z) (by decide)), (fun z => absurd (c1077.symm.trans z) (by decide)), (fun z => absurd (c1077.symm.trans z) (by decide)), (fun z => absurd (c1077.symm.trans z) (by decide))⟩
    refine lv_tabK (a := 77) (off := 139) (tgt := 140) hx hb d_Sh_wordOf_1 c1077 t32_77 (by decide) (by decide) rfl (by decide) ?_
    refine va_ldcS hx hb hown (sr_11 hC) d_Sh_wordOf_140 ?_
    exact W.aret hx hb hr (Or.inl ⟨_, rfl⟩) (Or.inr ⟨_, rfl⟩) (fun t ht hW => ⟨_, rfl, h, ht⟩) (fun _ z => by cases z) d_Sh_wordOf_142
  by_cases c1078 : x0 = 78
  · have h := hsw
    have h := h.2.2.2.2.2.2.2.2 ⟨(fun z => absurd (c1078.symm.trans z) (by decide)), (fun z => absurd (c1078.symm.trans z) (by decide)), (fun z => absurd (c1078.symm.trans z) (by decide)), (fun z => absurd (c1078.symm.trans z) (by decide)), (fun z => absurd (c1078.symm.trans z) (by decide)), (fun z => absurd (c1078.symm.trans z) (by decide)), (fun z => absurd (c1078.symm.trans z) (by decide)), (fun z => absurd (c1078.symm.trans z) (by decide))⟩
    refine lv_tabK (a := 78) (off := 139) (tgt := 140) hx hb d_Sh_wordOf_1 c1078 t32_78 (by decide) (by decide) rfl (by decide) ?_
    refine va_ldcS hx hb hown (sr_11 hC) d_Sh_wordOf_140 ?_
    exact W.aret hx hb hr (Or.inl ⟨_, rfl⟩) (Or.inr ⟨_, rfl⟩) (fun t ht hW => ⟨_, rfl, h, ht⟩) (fun _ z => by cases z) d_Sh_wordOf_142
  by_cases c1079 : x0 = 79
  · have h := hsw
    have h := h.2.2.2.2.2.2.2.2 ⟨(fun z => absurd (c1079.symm.trans z) (by decide)), (fun z => absurd (c1079.symm.trans z) (by decide)), (fun z => absurd (c1079.symm.trans z) (by decide)), (fun z => absurd (c1079.symm.trans z) (by decide)), (fun z => absurd (c1079.symm.trans z) (by decide)), (fun z => absurd (c1079.symm.trans z) (by decide)), (fun z => absurd (c1079.symm.trans z) (by decide)), (fun z => absurd (c1079.symm.trans z) (by decide))⟩
    refine lv_tabK (a := 79) (off := 139) (tgt := 140) hx hb d_Sh_wordOf_1 c1079 t32_79 (by decide) (by decide) rfl (by decide) ?_
    refine va_ldcS hx hb hown (sr_11 hC) d_Sh_wordOf_140 ?_
    exact W.aret hx hb hr (Or.inl ⟨_, rfl⟩) (Or.inr ⟨_, rfl⟩) (fun t ht hW => ⟨_, rfl, h, ht⟩) (fun _ z => by cases z) d_Sh_wordOf_142
  by_cases c1080 : x0 = 80
  · have h := hsw
    have h := h.2.2.2.2.2.2.2.2 ⟨(fun z => absurd (c1080.symm.trans z) (by decide)), (fun z => absurd (c1080.symm.trans z) (by decide)), (fun z => absurd (c1080.symm.trans z) (by decide)), (fun z => absurd (c1080.symm.trans z) (by decide)), (fun z => absurd (c1080.symm.trans z) (by decide)), (fun z => absurd (c1080.symm.trans z) (by decide)), (fun z => absurd (c1080.symm.trans z) (by decide)), (fun z => absurd (c1080.symm.trans z) (by decide))⟩
    refine lv_tabK (a := 80) (off := 139) (tgt := 140) hx hb d_Sh_wordOf_1 c1080 t32_80 (by decide) (by decide) rfl (by decide) ?_
    refine va_ldcS hx hb hown (sr_11 hC) d_Sh_wordOf_140 ?_
    exact W.aret hx hb hr (Or.inl ⟨_, rfl⟩) (Or.inr ⟨_, rfl⟩) (fun t ht hW => ⟨_, rfl, h, ht⟩) (fun _ z => by cases z) d_Sh_wordOf_142
  by_cases c1081 : x0 = 81
  · have h := hsw
    have h := h.2.2.2.2.2.2.2.2 ⟨(fun z => absurd (c1081.symm.trans z) (by decide)), (fun z => absurd (c1081.symm.trans z) (by decide)), (fun z => absurd (c1081.symm.trans z) (by decide)), (fun z => absurd (c1081.symm.trans z) (by decide)), (fun z => absurd (c1081.symm.trans z) (by decide)), (fun z => absurd (c1081.symm.trans z) (by decide)), (fun z => absurd (c1081.symm.trans z) (by decide)), (fun z => absurd (c1081.symm.trans z) (by decide))⟩
    refine lv_tabK (a := 81) (off := 139) (tgt := 140) hx hb d_Sh_wordOf_1 c1081 t32_81 (by decide) (by decide) rfl (by decide) ?_
    refine va_ldcS hx hb hown (sr_11 hC) d_Sh_wordOf_140 ?_
    exact W.aret hx hb hr (Or.inl ⟨_, rfl⟩) (Or.inr ⟨_, rfl⟩) (fun t ht hW => ⟨_, rfl, h, ht⟩) (fun _ z => by cases z) d_Sh_wordOf_142
  by_cases c1082 : x0 = 82
  · have h := hsw
    have h := h.2.2.2.2.2.2.2.2 ⟨(fun z => absurd (c1082.symm.trans z) (by decide)), (fun z => absurd (c1082.symm.trans z) (by decide)), (fun z => absurd (c1082.symm.trans z) (by decide)), (fun z => absurd (c1082.symm.trans z) (by decide)), (fun z => absurd (c1082.symm.trans z) (by decide)), (fun z => absurd (c1082.symm.trans z) (by decide)), (fun z => absurd (c1082.symm.trans z) (by decide)), (fun z => absurd (c1082.symm.trans z) (by decide))⟩
    refine lv_tabK (a := 82) (off := 139) (tgt := 140) hx hb d_Sh_wordOf_1 c1082 t32_82 (by decide) (by decide) rfl (by decide) ?_
    refine va_ldcS hx hb hown (sr_11 hC) d_Sh_wordOf_140 ?_
    exact W.aret hx hb hr (Or.inl ⟨_, rfl⟩) (Or.inr ⟨_, rfl⟩) (fun t ht hW => ⟨_, rfl, h, ht⟩) (fun _ z => by cases z) d_Sh_wordOf_142
  by_cases c1083 : x0 = 83
  · have h := hsw
    have h := h.2.2.2.2.2.2.1 (c1083)
    refine lv_tabK (a := 83) (off := 133) (tgt := 134) hx hb d_Sh_wordOf_1 c1083 t32_83 (by decide) (by decide) rfl (by decide) ?_
    refine va_ldcS hx hb hown (sr_9 hC) d_Sh_wordOf_134 ?_
    exact W.aret hx hb hr (Or.inl ⟨_, rfl⟩) (Or.inr ⟨_, rfl⟩) (fun t ht hW => ⟨_, rfl, h, ht⟩) (fun _ z => by cases z) d_Sh_wordOf_136
  by_cases c1084 : x0 = 84
  · have h := hsw
    have h := h.2.2.2.2.2.2.2.2 ⟨(fun z => absurd (c1084.symm.trans z) (by decide)), (fun z => absurd (c1084.symm.trans z) (by decide)), (fun z => absurd (c1084.symm.trans z) (by decide)), (fun z => absurd (c1084.symm.trans z) (by decide)), (fun z => absurd (c1084.symm.trans z) (by decide)), (fun z => absurd (c1084.symm.trans z) (by decide)), (fun z => absurd (c1084.symm.trans z) (by decide)), (fun z => absurd (c1084.symm.trans z) (by decide))⟩
    refine lv_tabK (a := 84) (off := 139) (tgt := 140) hx hb d_Sh_wordOf_1 c1084 t32_84 (by decide) (by decide) rfl (by decide) ?_
    refine va_ldcS hx hb hown (sr_11 hC) d_Sh_wordOf_140 ?_
    exact W.aret hx hb hr (Or.inl ⟨_, rfl⟩) (Or.inr ⟨_, rfl⟩) (fun t ht hW => ⟨_, rfl, h, ht⟩) (fun _ z => by cases z) d_Sh_wordOf_142
  by_cases c1085 : x0 = 85
  · have h := hsw
    have h := h.2.2.2.2.2.2.2.2 ⟨(fun z => absurd (c1085.symm.trans z) (by decide)), (fun z => absurd (c1085.symm.trans z) (by decide)), (fun z => absurd (c1085.symm.trans z) (by decide)), (fun z => absurd (c1085.symm.trans z) (by decide)), (fun z => absurd (c1085.symm.trans z) (by decide)), (fun z => absurd (c1085.symm.trans z) (by decide)), (fun z => absurd (c1085.symm.trans z) (by decide)), (fun z => absurd (c1085.symm.trans z) (by decide))⟩
    refine lv_tabK (a := 85) (off := 139) (tgt := 140) hx hb d_Sh_wordOf_1 c1085 t32_85 (by decide) (by decide) rfl (by decide) ?_
    refine va_ldcS hx hb hown (sr_11 hC) d_Sh_wordOf_140 ?_
    exact W.aret hx hb hr (Or.inl ⟨_, rfl⟩) (Or.inr ⟨_, rfl⟩) (fun t ht hW => ⟨_, rfl, h, ht⟩) (fun _ z => by cases z) d_Sh_wordOf_142
  by_cases c1086 : x0 = 86
  · have h := hsw
    have h := h.2.2.2.2.2.2.2.2 ⟨(fun z => absurd (c1086.symm.trans z) (by decide)), (fun z => absurd (c1086.symm.trans z) (by decide)), (fun z => absurd (c1086.symm.trans z) (by decide)), (fun z => absurd (c1086.symm.trans z) (by decide)), (fun z => absurd (c1086.symm.trans z) (by decide)), (fun z => absurd (c1086.symm.trans z) (by decide)), (fun z => absurd (c1086.symm.trans z) (by decide)), (fun z => absurd (c1086.symm.trans z) (by decide))⟩
    refine lv_tabK (a := 86) (off := 139) (tgt := 140) hx hb d_Sh_wordOf_1 c1086 t32_86 (by decide) (by decide) rfl (by decide) ?_
    refine va_ldcS hx hb hown (sr_11 hC) d_Sh_wordOf_140 ?_
    exact W.aret hx hb hr (Or.inl ⟨_, rfl⟩) (Or.inr ⟨_, rfl⟩) (fun t ht hW => ⟨_, rfl, h, ht⟩) (fun _ z => by cases z) d_Sh_wordOf_142
  by_cases c1087 : x0 = 87
  · have h := hsw
    have h := h.2.2.2.2.2.2.2.2 ⟨(fun z => absurd (c1087.symm.trans z) (by decide)), (fun z => absurd (c1087.symm.trans z) (by decide)), (fun z => absurd (c1087.symm.trans z) (by decide)), (fun z => absurd (c1087.symm.trans z) (by decide)), (fun z => absurd (c1087.symm.trans z) (by decide)), (fun z => absurd (c1087.symm.trans z) (by decide)), (fun z => absurd (c1087.symm.trans z) (by decide)), (fun z => absurd (c1087.symm.trans z) (by decide))⟩
    refine lv_tabK (a := 87) (off := 139) (tgt := 140) hx hb d_Sh_wordOf_1 c1087 t32_87 (by decide) (by decide) rfl (by decide) ?_
    refine va_ldcS hx hb hown (sr_11 hC) d_Sh_wordOf_140 ?_
    exact W.aret hx hb hr (Or.inl ⟨_, rfl⟩) (Or.inr ⟨_, rfl⟩) (fun t ht hW => ⟨_, rfl, h, ht⟩) (fun _ z => by cases z) d_Sh_wordOf_142
  by_cases c1088 : x0 = 88
  · have h := hsw
    have h := h.2.2.2.2.2.2.2.2 ⟨(fun z => absurd (c1088.symm.trans z) (by decide)), (fun z => absurd (c1088.symm.trans z) (by decide)), (fun z => absurd (c1088.symm.trans z) (by decide)), (fun z => absurd (c1088.symm.trans z) (by decide)), (fun z => absurd (c1088.symm.trans z) (by decide)), (fun z => absurd (c1088.symm.trans z) (by decide)), (fun z => absurd (c1088.symm.trans z) (by decide)), (fun z => absurd (c1088.symm.trans z) (by decide))⟩
    refine lv_tabK (a := 88) (off := 139) (tgt := 140) hx hb d_Sh_wordOf_1 c1088 t32_88 (by decide) (by decide) rfl (by decide) ?_
    refine va_ldcS hx hb hown (sr_11 hC) d_Sh_wordOf_140 ?_
    exact W.aret hx hb hr (Or.inl ⟨_, rfl⟩) (Or.inr ⟨_, rfl⟩) (fun t ht hW => ⟨_, rfl, h, ht⟩) (fun _ z => by cases z) d_Sh_wordOf_142
  by_cases c1089 : x0 = 89
  · have h := hsw
    have h := h.2.2.2.2.2.2.2.2 ⟨(fun z => absurd (c1089.symm.trans z) (by decide)), (fun z => absurd (c1089.symm.trans z) (by decide)), (fun z => absurd (c1089.symm.trans z) (by decide)), (fun z => absurd (c1089.symm.trans z) (by decide)), (fun z => absurd (c1089.symm.trans z) (by decide)), (fun z => absurd (c1089.symm.trans z) (by decide)), (fun z => absurd (c1089.symm.trans z) (by decide)), (fun z => absurd (c1089.symm.trans z) (by decide))⟩
    refine lv_tabK (a := 89) (off := 139) (tgt := 140) hx hb d_Sh_wordOf_1 c1089 t32_89 (by decide) (by decide) rfl (by decide) ?_
    refine va_ldcS hx hb hown (sr_11 hC) d_Sh_wordOf_140 ?_
    exact W.aret hx hb hr (Or.inl ⟨_, rfl⟩) (Or.inr ⟨_, rfl⟩) (fun t ht hW => ⟨_, rfl, h, ht⟩) (fun _ z => by cases z) d_Sh_wordOf_142
  by_cases c1090 : x0 = 90
  · have h := hsw
    have h := h.2.2.2.2.2.2.2.1 (c1090)
    refine lv_tabK (a := 90) (off := 136) (tgt := 137) hx hb d_Sh_wordOf_1 c1090 t32_90 (by decide) (by decide) rfl (by decide) ?_
    refine va_ldcS hx hb hown (sr_10 hC) d_Sh_wordOf_137 ?_
    exact W.aret hx hb hr (Or.inl ⟨_, rfl⟩) (Or.inr ⟨_, rfl⟩) (fun t ht hW => ⟨_, rfl, h, ht⟩) (fun _ z => by cases z) d_Sh_wordOf_139
  have h := hsw.2.2.2.2.2.2.2.2 ⟨c1066, c1067, c1068, c1070, c1073, c1074, c1083, c1090⟩
  refine lv_tableOut (tgt := 140) hx hb d_Sh_wordOf_1 (sw_out (lo := 66) (n := 25) (lt_s (lt_s (lt_s (lt_s (lt_s (lt_s (lt_s (lt_s (lt_s (lt_s (lt_s (lt_s (lt_s (lt_s (lt_s (lt_s (lt_s (lt_s (lt_s (lt_s (lt_s (lt_s (lt_s (lt_s (lt_s lt_0 (lv_neT c1066 t32_66)) (lv_neT c1067 t32_67)) (lv_neT c1068 t32_68)) (lv_neT c1069 t32_69)) (lv_neT c1070 t32_70)) (lv_neT c1071 t32_71)) (lv_neT c1072 t32_72)) (lv_neT c1073 t32_73)) (lv_neT c1074 t32_74)) (lv_neT c1075 t32_75)) (lv_neT c1076 t32_76)) (lv_neT c1077 t32_77)) (lv_neT c1078 t32_78)) (lv_neT c1079 t32_79)) (lv_neT c1080 t32_80)) (lv_neT c1081 t32_81)) (lv_neT c1082 t32_82)) (lv_neT c1083 t32_83)) (lv_neT c1084 t32_84)) (lv_neT c1085 t32_85)) (lv_neT c1086 t32_86)) (lv_neT c1087 t32_87)) (lv_neT c1088 t32_88)) (lv_neT c1089 t32_89)) (lv_neT c1090 t32_90))) (by decide) ?_
  refine va_ldcS hx hb hown (sr_11 hC) d_Sh_wordOf_140 ?_
  exact W.aret hx hb hr (Or.inl ⟨_, rfl⟩) (Or.inr ⟨_, rfl⟩) (fun t ht hW => ⟨_, rfl, h, ht⟩) (fun _ z => by cases z) d_Sh_wordOf_142
set_option maxHeartbeats 4000000 in
set_option maxRecDepth 100000 in
theorem c_Sh_wordOf (l : Launch) (G : GX) (x0 : Int32) (post : Nat → Prop) (h : wp_Sh_wordOf post x0) : Met l y_Sh_wordOf wc_Sh_wordOf rm_Sh_wordOf (mP G [.int x0] []) (va_Sr post (fun k => .ref (G.2.2.2.1 k))) 0 0 (fun _ => False) := by
  refine Met.ofW (cc := cc_Sh_wordOf) (maxL := 1) (ret := (some (.object "java/lang/String"))) (by decide) rfl ?_
  intro p e s m args below meth c s₁ B hml hv
  obtain ⟨rfl, hC, hR⟩ := hv
  have E : EN p s m ([.int x0] : List Value).toArray meth c G R_Sh cc_Sh_wordOf 1 (some (.object "java/lang/String")) BG := ⟨B.exec, B.bytes, B.returns, fun w h => atoms_spec (ws := wc_Sh_wordOf) B.pre w (List.mem_cons_of_mem _ h), findClass_of_methodNamed B.named, B.notSynchronized, hml, hC⟩
  have hl := lv_entry ([.int x0]) (n := 1) (Nat.le_of_ble_eq_true rfl)
  rw [lg_entry_eq]
  generalize (lg_sl ([.int x0]) ++ List.replicate (1 - (lg_sl ([.int x0])).length) Slot.unset).toArray = ls at hl ⊢
  have hl : lv_has ls 1 [(0, .int x0)] := hl
  exact t_Sh_wordOf_in E hR _ h hl
set_option maxHeartbeats 4000000 in
set_option maxRecDepth 100000 in
theorem t_Sh_partingItems_in {p : Program} {l : Launch} {e : Env} {s : State} {m : MethodId} {args : Array Value} {below : List Frame} {meth : Method} {c : Code} {G : GX} {a0_0 a0_1 a1_0 a1_1 a1_2 a1_3 a1_4 : Nat} {u1 : SgC} {post : Int32 → ShC → Prop} {A : Nat → Prop} {u0 : ShC} (E : EN p s m args meth c G R_Sh cc_Sh_partingItems 2 (some .char) BG) (hR : va_P G.1 vwCl [(a1_0, .inr (5, [.int (sgK u1), .ref a1_1, .ref a1_2, .ref a1_3, .ref a1_4, .int (sgO u1), .int (sgP u1)])), (a1_1, .inl (G.2.1 0, sgN u1, .inl (sgL u1))), (a1_2, .inl (G.2.1 1, sgN u1, .inl (sgR u1))), (a1_3, .inl (G.2.1 1, sgM u1, .inl (sgB u1))), (a1_4, .inl (G.2.1 1, sgM u1, .inl (sgE u1)))] s.heap) (hA : ∀ q : Nat, s.heap.size ≤ q → A q) (hAB : ∀ q : Nat, A q → G.2.2.1 ≤ q) (hRn : ∀ (j : Nat) (q : Nat × va_E), ([(a1_0, .inr (5, [.int (sgK u1), .ref a1_1, .ref a1_2, .ref a1_3, .ref a1_4, .int (sgO u1), .int (sgP u1)])), (a1_1, .inl (G.2.1 0, sgN u1, .inl (sgL u1))), (a1_2, .inl (G.2.1 1, sgN u1, .inl (sgR u1))), (a1_3, .inl (G.2.1 1, sgM u1, .inl (sgB u1))), (a1_4, .inl (G.2.1 1, sgM u1, .inl (sgE u1)))] : va_W)[j]? = some q → ¬ A q.1) : ∀ (H : Heap) (locs : List Loc) (ls : Array Slot), wp_Sh_partingItems post u0 u1 → va_P G.1 vwCl [(a0_0, .inr (4, [.ref a0_1, .int (shD u0), .int (shC u0), .int (shT u0)])), (a0_1, .inl (G.2.1 1, shN u0, .inl (shF u0)))] H → va_D A [(a0_0, .inr (4, [.ref a0_1, .int (shD u0), .int (shC u0), .int (shT u0)])), (a0_1, .inl (G.2.1 1, shN u0, .inl (shF u0)))] → va_S A s.heap H locs → lv_has ls 2 [(0, .ref a0_0), (1, .ref a1_0)] → W p l e rm_Sh_partingItems s m args below meth c H locs 0 0 (MQ below (va_Qi post (fun (u : ShC) (t : State) => va_P G.1 vwCl [(a0_0, .inr (4, [.ref a0_1, .int (shD u), .int (shC u), .int (shT u)])), (a0_1, .inl (G.2.1 1, shN u, .inl (shF u)))] t.heap) A) args s 0 0 A) (F0 m 0 ls []) := by
  obtain ⟨hx, hb, hr, hts, hown, hlocks, hml, hC⟩ := id E
  have hK := hC.1
  intro H locs ls h hP hD hS hl
  unfold wp_Sh_partingItems at h
  refine lv_aload_n hx hb d_Sh_partingItems_0 rfl (lv_at hl 1 rfl) ?_
  refine va_getN (D := G.1) (ci := 5) (v := .int (sgK u1)) (C := R_Sg) (T := T_Sg) (N := 7) hx hb hts i_Sg hown hK (ro_now hR hRn hS) 0 rfl rfl 0 (by decide) (nf_15 hC) (fun _ h9 => h9) rfl d_Sh_partingItems_1 ?_
  refine lv_if_ne (tgt := 21) hx hb d_Sh_partingItems_4 (by decide) (fun c9 => ?_) (fun c9 => ?_)
  · have h := h.1 c9
    refine lv_bipush (v := 44) hx hb d_Sh_partingItems_21 (by decide) ?_
    exact W.zret hx hb hr (by decide) (fun t ht hW => ⟨⟨_, _, rfl, h, vaP_at ht hP⟩, hS.F ht⟩) hS.2.2 d_Sh_partingItems_23
  · have h := h.2 c9
    refine lv_aload_n hx hb d_Sh_partingItems_7 rfl (lv_at hl 0 rfl) ?_
    refine va_get (D := G.1) (ci := 4) (v := .int (shD u0)) (C := R_Sh) (T := T_Sh) (N := 4) hx hb hts i_Sh hown hK hP 0 rfl rfl 1 (by decide) (hts _ b_228) (fun _ h9 => h9) rfl d_Sh_partingItems_8 ?_
    refine lv_if_gt (tgt := 21) hx hb d_Sh_partingItems_11 (by decide) (fun c9 => ?_) (fun c9 => ?_)
    · have h := h.1 c9
      refine lv_bipush (v := 44) hx hb d_Sh_partingItems_21 (by decide) ?_
      exact W.zret hx hb hr (by decide) (fun t ht hW => ⟨⟨_, _, rfl, h, vaP_at ht hP⟩, hS.F ht⟩) hS.2.2 d_Sh_partingItems_23
    · have h := h.2 c9
      refine lv_aload_n hx hb d_Sh_partingItems_14 rfl (lv_at hl 0 rfl) ?_
      refine va_get (D := G.1) (ci := 4) (v := .int (shC u0)) (C := R_Sh) (T := T_Sh) (N := 4) hx hb hts i_Sh hown hK hP 0 rfl rfl 2 (by decide) (hts _ b_229) (fun _ h9 => h9) rfl d_Sh_partingItems_15 ?_
      refine lv_if_eq (tgt := 24) hx hb d_Sh_partingItems_18 (by decide) (fun c9 => ?_) (fun c9 => ?_)
      · have h := h.1 c9
        refine lv_aload_n hx hb d_Sh_partingItems_24 rfl (lv_at hl 0 rfl) ?_
        refine lv_iconst (v := 1) hx hb d_Sh_partingItems_25 (by decide) ?_
        refine va_put (D := G.1) (ci := 4) (v := .int 1) (ty := .boolean) (C := R_Sh) (T := T_Sh) (N := 4) hx hb hts i_Sh ty_Sh tyok_Sh nm_Sh hown hK hP hD hS 0 rfl rfl 2 (by decide) (hts _ b_229) (fun _ h9 => h9) rfl (by decide +kernel) (by decide) (by decide) (Nat.le_of_ble_eq_true rfl) d_Sh_partingItems_26 (fun H locs hP hD hS => ?_)
        have hP : va_P G.1 vwCl [(a0_0, .inr (4, [.ref a0_1, .int (shD u0), .int 1, .int (shT u0)])), (a0_1, .inl (G.2.1 1, shN u0, .inl (shF u0)))] H := hP
        have hD : va_D A [(a0_0, .inr (4, [.ref a0_1, .int (shD u0), .int 1, .int (shT u0)])), (a0_1, .inl (G.2.1 1, shN u0, .inl (shF u0)))] := hD
        refine lv_bipush (v := 58) hx hb d_Sh_partingItems_29 (by decide) ?_
        exact W.zret hx hb hr (by decide) (fun t ht hW => ⟨⟨_, _, rfl, h, vaP_at ht hP⟩, hS.F ht⟩) hS.2.2 d_Sh_partingItems_31
      · have h := h.2 c9
        refine lv_bipush (v := 44) hx hb d_Sh_partingItems_21 (by decide) ?_
        exact W.zret hx hb hr (by decide) (fun t ht hW => ⟨⟨_, _, rfl, h, vaP_at ht hP⟩, hS.F ht⟩) hS.2.2 d_Sh_partingItems_23
set_option maxHeartbeats 4000000 in
set_option maxRecDepth 100000 in
theorem c_Sh_partingItems (l : Launch) (G : GX) (a0_0 a0_1 a1_0 a1_1 a1_2 a1_3 a1_4 : Nat) (u0 : ShC) (u1 : SgC) (sz : Nat) (post : Int32 → ShC → Prop) (h : wp_Sh_partingItems post u0 u1) : Met l y_Sh_partingItems wc_Sh_partingItems rm_Sh_partingItems (mW G [.ref a0_0, .ref a1_0] sz [(a0_0, .inr (4, [.ref a0_1, .int (shD u0), .int (shC u0), .int (shT u0)])), (a0_1, .inl (G.2.1 1, shN u0, .inl (shF u0)))] [(a1_0, .inr (5, [.int (sgK u1), .ref a1_1, .ref a1_2, .ref a1_3, .ref a1_4, .int (sgO u1), .int (sgP u1)])), (a1_1, .inl (G.2.1 0, sgN u1, .inl (sgL u1))), (a1_2, .inl (G.2.1 1, sgN u1, .inl (sgR u1))), (a1_3, .inl (G.2.1 1, sgM u1, .inl (sgB u1))), (a1_4, .inl (G.2.1 1, sgM u1, .inl (sgE u1)))]) (va_Qi post (fun (u : ShC) (t : State) => va_P G.1 vwCl [(a0_0, .inr (4, [.ref a0_1, .int (shD u), .int (shC u), .int (shT u)])), (a0_1, .inl (G.2.1 1, shN u, .inl (shF u)))] t.heap) (va_A [(a0_0, .inr (4, [.ref a0_1, .int (shD u0), .int (shC u0), .int (shT u0)])), (a0_1, .inl (G.2.1 1, shN u0, .inl (shF u0)))] sz)) 0 0 (va_A [(a0_0, .inr (4, [.ref a0_1, .int (shD u0), .int (shC u0), .int (shT u0)])), (a0_1, .inl (G.2.1 1, shN u0, .inl (shF u0)))] sz) := by
  refine Met.ofW (cc := cc_Sh_partingItems) (maxL := 2) (ret := (some .char)) (by decide) rfl ?_
  intro p e s m args below meth c s₁ B hml hv
  obtain ⟨rfl, hC, hsz, hP, hD0, hR, hap⟩ := hv
  have E : EN p s m ([.ref a0_0, .ref a1_0] : List Value).toArray meth c G R_Sh cc_Sh_partingItems 2 (some .char) BG := ⟨B.exec, B.bytes, B.returns, fun w h => atoms_spec (ws := wc_Sh_partingItems) B.pre w (List.mem_cons_of_mem _ h), findClass_of_methodNamed B.named, B.notSynchronized, hml, hC⟩
  subst hsz
  have hD := hD0.self (sz := s.heap.size)
  have hRn := mw_notA hR hap
  have hAB := mw_AB hD0 hC
  have hA : ∀ q : Nat, s.heap.size ≤ q → va_A [(a0_0, .inr (4, [.ref a0_1, .int (shD u0), .int (shC u0), .int (shT u0)])), (a0_1, .inl (G.2.1 1, shN u0, .inl (shF u0)))] s.heap.size q := fun q z => Or.inr z
  generalize va_A [(a0_0, .inr (4, [.ref a0_1, .int (shD u0), .int (shC u0), .int (shT u0)])), (a0_1, .inl (G.2.1 1, shN u0, .inl (shF u0)))] s.heap.size = A at hD hRn hAB hA ⊢
  have hl := lv_entry ([.ref a0_0, .ref a1_0]) (n := 2) (Nat.le_of_ble_eq_true rfl)
  rw [lg_entry_eq]
  generalize (lg_sl ([.ref a0_0, .ref a1_0]) ++ List.replicate (2 - (lg_sl ([.ref a0_0, .ref a1_0])).length) Slot.unset).toArray = ls at hl ⊢
  have hl : lv_has ls 2 [(0, .ref a0_0), (1, .ref a1_0)] := hl
  exact t_Sh_partingItems_in E hR hA hAB hRn _ _ _ h hP hD va_S.rf hl
set_option maxHeartbeats 4000000 in
set_option maxRecDepth 100000 in
theorem t_Sh_part_37 {p : Program} {l : Launch} {e : Env} {s : State} {m : MethodId} {args : Array Value} {below : List Frame} {meth : Method} {c : Code} {G : GX} {a0_0 a0_1 a1_0 a1_1 a1_2 a1_3 a1_4 a4_0 : Nat} {u1 : SgC} {post : (ShC × SkC) → Prop} {A : Nat → Prop} (E : EN p s m args meth c G R_Sh cc_Sh_part 6 none BG) (hR : va_P G.1 vwCl [(a1_0, .inr (5, [.int (sgK u1), .ref a1_1, .ref a1_2, .ref a1_3, .ref a1_4, .int (sgO u1), .int (sgP u1)])), (a1_1, .inl (G.2.1 0, sgN u1, .inl (sgL u1))), (a1_2, .inl (G.2.1 1, sgN u1, .inl (sgR u1))), (a1_3, .inl (G.2.1 1, sgM u1, .inl (sgB u1))), (a1_4, .inl (G.2.1 1, sgM u1, .inl (sgE u1)))] s.heap) (hA : ∀ q : Nat, s.heap.size ≤ q → A q) (hAB : ∀ q : Nat, A q → G.2.2.1 ≤ q) (hRn : ∀ (j : Nat) (q : Nat × va_E), ([(a1_0, .inr (5, [.int (sgK u1), .ref a1_1, .ref a1_2, .ref a1_3, .ref a1_4, .int (sgO u1), .int (sgP u1)])), (a1_1, .inl (G.2.1 0, sgN u1, .inl (sgL u1))), (a1_2, .inl (G.2.1 1, sgN u1, .inl (sgR u1))), (a1_3, .inl (G.2.1 1, sgM u1, .inl (sgB u1))), (a1_4, .inl (G.2.1 1, sgM u1, .inl (sgE u1)))] : va_W)[j]? = some q → ¬ A q.1) : ∀ (y3 : Int32) (y5 : Int32) (w0 : ShC) (w1 : SkC) (H : Heap) (locs : List Loc) (ls : Array Slot), w_Sh_part_37 post u1 y3 y5 w0 w1 → va_P G.1 vwCl [(a0_0, .inr (4, [.ref a0_1, .int (shD w0), .int (shC w0), .int (shT w0)])), (a0_1, .inl (G.2.1 1, shN w0, .inl (shF w0))), (a4_0, .inr (3, [.int (skW w1), .int (skP w1), .int (skF w1)]))] H → va_D A [(a0_0, .inr (4, [.ref a0_1, .int (shD w0), .int (shC w0), .int (shT w0)])), (a0_1, .inl (G.2.1 1, shN w0, .inl (shF w0))), (a4_0, .inr (3, [.int (skW w1), .int (skP w1), .int (skF w1)]))] → va_S A s.heap H locs → lv_has ls 6 [(3, .int y3), (4, .ref a4_0), (5, .int y5)] → W p l e rm_Sh_part s m args below meth c H locs 0 0 (MQ below (va_Qv post (fun (u : ShC × SkC) (t : State) => va_P G.1 vwCl [(a0_0, .inr (4, [.ref a0_1, .int (shD u.1), .int (shC u.1), .int (shT u.1)])), (a0_1, .inl (G.2.1 1, shN u.1, .inl (shF u.1))), (a4_0, .inr (3, [.int (skW u.2), .int (skP u.2), .int (skF u.2)]))] t.heap) A) args s 0 0 A) (F0 m 37 ls []) := by
  obtain ⟨hx, hb, hr, hts, hown, hlocks, hml, hC⟩ := id E
  have hK := hC.1
  intro y3 y5 w0 w1  H locs ls h hP hD hS hl
  unfold w_Sh_part_37 at h
  refine lv_iload_n hx hb d_Sh_part_37 rfl (lv_at hl 0 rfl) ?_
  refine lv_iconst (v := 2) hx hb d_Sh_part_38 (by decide) ?_
  refine lv_icmp_ne (tgt := 61) hx hb d_Sh_part_39 (by decide) (fun c9 => ?_) (fun c9 => ?_)
  · have h := h.1 c9
    exact W.vret hx hb hr (fun t ht hW => ⟨⟨_, rfl, h, vaP_at ht hP⟩, hS.F ht⟩) hS.2.2 d_Sh_part_61
  · have h := h.2 c9
    refine lv_iload hx hb d_Sh_part_42 (lv_at hl 2 rfl) ?_
    refine lv_iconst (v := 2) hx hb d_Sh_part_44 (by decide) ?_
    refine lv_icmp_eq (tgt := 61) hx hb d_Sh_part_45 (by decide) (fun c9 => ?_) (fun c9 => ?_)
    · have h := h.1 c9
      exact W.vret hx hb hr (fun t ht hW => ⟨⟨_, rfl, h, vaP_at ht hP⟩, hS.F ht⟩) hS.2.2 d_Sh_part_61
    · have h := h.2 c9
      refine lv_iload hx hb d_Sh_part_48 (lv_at hl 2 rfl) ?_
      refine lv_iconst (v := 1) hx hb d_Sh_part_50 (by decide) ?_
      refine lv_icmp_eq (tgt := 61) hx hb d_Sh_part_51 (by decide) (fun c9 => ?_) (fun c9 => ?_)
      · have h := h.1 c9
        exact W.vret hx hb hr (fun t ht hW => ⟨⟨_, rfl, h, vaP_at ht hP⟩, hS.F ht⟩) hS.2.2 d_Sh_part_61
      · have h := h.2 c9
        refine lv_aload hx hb d_Sh_part_54 (lv_at hl 1 rfl) ?_
        refine lv_bipush (v := 44) hx hb d_Sh_part_56 (by decide) ?_
        have hRc : va_P G.1 vwCl [] H := vaP_nil
        have hPc := hP.sub (ws' := [(a4_0, .inr (3, [.int (skW w1), .int (skP w1), .int (skF w1)]))]) [2] rfl
        have hDc := hD.sub (ws' := [(a4_0, .inr (3, [.int (skW w1), .int (skP w1), .int (skF w1)]))]) [2] (by decide) rfl
        have hFc := va_free (wc := [(a4_0, .inr (3, [.int (skW w1), .int (skP w1), .int (skF w1)]))]) hD hS hA [2] rfl
        have hQc : mw_ap [(a4_0, .inr (3, [.int (skW w1), .int (skP w1), .int (skF w1)]))] [] := mw_ap_nil
        refine va_callv (va_runV (As := [.int 44]) (rest := []) ⟨hx, hb, hml, hown, hts⟩ (c_Sk_pass l G a4_0 w1 44 H.size _ h) (cwV 1 hts (gwV b_238 b_79 b_80 b_81 b_77) rfl rfl rfl hd_Sk_pass ⟨Nat.le_of_ble_eq_true rfl, Nat.le_of_ble_eq_true rfl⟩) ⟨mW_blind, va_recv hK hPc (ci := 3) (q0 := 0) rfl rfl, fun U hU hW => ⟨rfl, hC.to hW hU hS hAB, by rw [hU], by rw [hU]; exact hPc, hDc.weaken (fun _ _ _ => hAB _), by rw [hU]; exact hRc, hQc⟩⟩ rfl rfl hl.1 rfl (lv_room (Nat.le_of_ble_eq_true rfl)) d_Sh_part_58 ⟨Nat.le_of_ble_eq_true rfl, Nat.le_of_ble_eq_true rfl⟩) hS (fun q _ h => hFc q h) hFc (fun v8 t H1 locs ht hvm h hB hz1 hk1 hS => ?_)
        rw [ht] at hB
        have hj9 := mw_join (wr := [(a0_0, .inr (4, [.ref a0_1, .int (shD w0), .int (shC w0), .int (shT w0)])), (a0_1, .inl (G.2.1 1, shN w0, .inl (shF w0)))]) (w1 := [(a4_0, .inr (3, [.int (skW v8), .int (skP v8), .int (skF v8)]))]) hP hD [2] [0, 1] rfl rfl (by decide) (by decide) (by decide) hk1 hFc hB rfl
        have hP : va_P G.1 vwCl [(a0_0, .inr (4, [.ref a0_1, .int (shD w0), .int (shC w0), .int (shT w0)])), (a0_1, .inl (G.2.1 1, shN w0, .inl (shF w0))), (a4_0, .inr (3, [.int (skW v8), .int (skP v8), .int (skF v8)]))] H1 := hj9.1
        have hD : va_D A [(a0_0, .inr (4, [.ref a0_1, .int (shD w0), .int (shC w0), .int (shT w0)])), (a0_1, .inl (G.2.1 1, shN w0, .inl (shF w0))), (a4_0, .inr (3, [.int (skW v8), .int (skP v8), .int (skF v8)]))] := hj9.2
        generalize H1 = H at hP hS ⊢
        exact W.vret hx hb hr (fun t ht hW => ⟨⟨_, rfl, h, vaP_at ht hP⟩, hS.F ht⟩) hS.2.2 d_Sh_part_61
set_option maxHeartbeats 4000000 in
set_option maxRecDepth 100000 in
theorem t_Sh_part_in {p : Program} {l : Launch} {e : Env} {s : State} {m : MethodId} {args : Array Value} {below : List Frame} {meth : Method} {c : Code} {G : GX} {a0_0 a0_1 a1_0 a1_1 a1_2 a1_3 a1_4 a4_0 : Nat} {u1 : SgC} {post : (ShC × SkC) → Prop} {A : Nat → Prop} {u0 : ShC} {u4 : SkC} {x2 : Int32} {x3 : Int32} (E : EN p s m args meth c G R_Sh cc_Sh_part 6 none BG) (hR : va_P G.1 vwCl [(a1_0, .inr (5, [.int (sgK u1), .ref a1_1, .ref a1_2, .ref a1_3, .ref a1_4, .int (sgO u1), .int (sgP u1)])), (a1_1, .inl (G.2.1 0, sgN u1, .inl (sgL u1))), (a1_2, .inl (G.2.1 1, sgN u1, .inl (sgR u1))), (a1_3, .inl (G.2.1 1, sgM u1, .inl (sgB u1))), (a1_4, .inl (G.2.1 1, sgM u1, .inl (sgE u1)))] s.heap) (hA : ∀ q : Nat, s.heap.size ≤ q → A q) (hAB : ∀ q : Nat, A q → G.2.2.1 ≤ q) (hRn : ∀ (j : Nat) (q : Nat × va_E), ([(a1_0, .inr (5, [.int (sgK u1), .ref a1_1, .ref a1_2, .ref a1_3, .ref a1_4, .int (sgO u1), .int (sgP u1)])), (a1_1, .inl (G.2.1 0, sgN u1, .inl (sgL u1))), (a1_2, .inl (G.2.1 1, sgN u1, .inl (sgR u1))), (a1_3, .inl (G.2.1 1, sgM u1, .inl (sgB u1))), (a1_4, .inl (G.2.1 1, sgM u1, .inl (sgE u1)))] : va_W)[j]? = some q → ¬ A q.1) : ∀ (H : Heap) (locs : List Loc) (ls : Array Slot), wp_Sh_part post u0 u1 u4 x2 x3 → va_P G.1 vwCl [(a0_0, .inr (4, [.ref a0_1, .int (shD u0), .int (shC u0), .int (shT u0)])), (a0_1, .inl (G.2.1 1, shN u0, .inl (shF u0))), (a4_0, .inr (3, [.int (skW u4), .int (skP u4), .int (skF u4)]))] H → va_D A [(a0_0, .inr (4, [.ref a0_1, .int (shD u0), .int (shC u0), .int (shT u0)])), (a0_1, .inl (G.2.1 1, shN u0, .inl (shF u0))), (a4_0, .inr (3, [.int (skW u4), .int (skP u4), .int (skF u4)]))] → va_S A s.heap H locs → lv_has ls 6 [(0, .ref a0_0), (1, .ref a1_0), (2, .int x2), (3, .int x3), (4, .ref a4_0)] → W p l e rm_Sh_part s m args below meth c H locs 0 0 (MQ below (va_Qv post (fun (u : ShC × SkC) (t : State) => va_P G.1 vwCl [(a0_0, .inr (4, [.ref a0_1, .int (shD u.1), .int (shC u.1), .int (shT u.1)])), (a0_1, .inl (G.2.1 1, shN u.1, .inl (shF u.1))), (a4_0, .inr (3, [.int (skW u.2), .int (skP u.2), .int (skF u.2)]))] t.heap) A) args s 0 0 A) (F0 m 0 ls []) := by
  obtain ⟨hx, hb, hr, hts, hown, hlocks, hml, hC⟩ := id E
  have hK := hC.1
  intro H locs ls h hP hD hS hl
  unfold wp_Sh_part at h
  refine lv_aload_n hx hb d_Sh_part_0 rfl (lv_at hl 1 rfl) ?_
  refine lv_iload_n hx hb d_Sh_part_1 rfl (lv_at hl 2 rfl) ?_
  refine lv_iconst (v := 1) hx hb d_Sh_part_2 (by decide) ?_
  refine lv_isub hx hb d_Sh_part_3 ?_
  have hRc : va_P G.1 vwCl [(a1_0, .inr (5, [.int (sgK u1), .ref a1_1, .ref a1_2, .ref a1_3, .ref a1_4, .int (sgO u1), .int (sgP u1)])), (a1_1, .inl (G.2.1 0, sgN u1, .inl (sgL u1))), (a1_2, .inl (G.2.1 1, sgN u1, .inl (sgR u1))), (a1_3, .inl (G.2.1 1, sgM u1, .inl (sgB u1))), (a1_4, .inl (G.2.1 1, sgM u1, .inl (sgE u1)))] H := ((ro_now hR hRn hS).sub (ws' := [(a1_0, .inr (5, [.int (sgK u1), .ref a1_1, .ref a1_2, .ref a1_3, .ref a1_4, .int (sgO u1), .int (sgP u1)])), (a1_1, .inl (G.2.1 0, sgN u1, .inl (sgL u1))), (a1_2, .inl (G.2.1 1, sgN u1, .inl (sgR u1))), (a1_3, .inl (G.2.1 1, sgM u1, .inl (sgB u1))), (a1_4, .inl (G.2.1 1, sgM u1, .inl (sgE u1)))]) [0, 1, 2, 3, 4] rfl)
  refine vp_callSi (va_runV (As := [.int (x2 - 1)]) (rest := []) ⟨hx, hb, hml, hown, hts⟩ (c_Sg_roleAt l G a1_0 a1_1 a1_2 a1_3 a1_4 u1 (x2 - 1) _ h) (cwV 1 hts (gwV b_230 b_177 b_178 b_173 b_175) rfl rfl rfl hd_Sg_roleAt ⟨Nat.le_of_ble_eq_true rfl, Nat.le_of_ble_eq_true rfl⟩) ⟨mP_blind, va_recv hK hRc (ci := 5) (q0 := 0) rfl rfl, fun U hU hW => ⟨rfl, hC.to hW hU hS hAB, by rw [hU]; exact hRc⟩⟩ rfl rfl hl.1 rfl (lv_room (Nat.le_of_ble_eq_true rfl)) d_Sh_part_4 ⟨Nat.le_of_ble_eq_true rfl, Nat.le_of_ble_eq_true rfl⟩).run (fun r9 h => ?_)
  refine lv_istore (lv' := [(5, .int r9), (0, .ref a0_0), (1, .ref a1_0), (2, .int x2), (3, .int x3), (4, .ref a4_0)]) hx hb d_Sh_part_7 hl (by decide) rfl (fun ls hl => ?_)
  refine lv_iload hx hb d_Sh_part_9 (lv_at hl 0 rfl) ?_
  have hRc : va_P G.1 vwCl [] H := vaP_nil
  refine vp_callSi (va_runSN (As := [.int r9]) (rest := []) ⟨hx, hb, hml, hown, hts⟩ (c_endsItem l G r9 _ h) ⟨va_cnB 1 hts (gwC b_141) rfl rfl rfl (nm9_2 hC) (hts _ b_51) hd_Fo_endsItem.2 ⟨Nat.le_of_ble_eq_true rfl, Nat.le_of_ble_eq_true rfl⟩, hts _ b_142, trivial⟩ ⟨mP_blind, fun U hU hW => ⟨rfl, hC.to hW hU hS hAB, by rw [hU]; exact hRc⟩⟩ rfl rfl hl.1 rfl (lv_room (Nat.le_of_ble_eq_true rfl)) d_Sh_part_11 ⟨Nat.le_of_ble_eq_true rfl, Nat.le_of_ble_eq_true rfl⟩).run (fun r10 h => ?_)
  refine lv_if_eq (tgt := 37) hx hb d_Sh_part_14 (by decide) (fun c9 => ?_) (fun c9 => ?_)
  · have h := h.1 c9
    exact t_Sh_part_37 E hR hA hAB hRn  _ _ _ _ _ _ _ h hP hD hS (lv_sub hl [4, 5, 0] rfl)
  · have h := h.2 c9
    refine lv_iload_n hx hb d_Sh_part_17 rfl (lv_at hl 4 rfl) ?_
    have hRc : va_P G.1 vwCl [] H := vaP_nil
    refine vp_callSi (va_runSN (As := [.int x3]) (rest := []) ⟨hx, hb, hml, hown, hts⟩ (c_beginsItem l G x3 _ h) ⟨va_cnB 1 hts (gwC b_231) rfl rfl rfl (nm9_3 hC) (hts _ b_51) hd_Fo_beginsItem.2 ⟨Nat.le_of_ble_eq_true rfl, Nat.le_of_ble_eq_true rfl⟩, hts _ b_232, trivial⟩ ⟨mP_blind, fun U hU hW => ⟨rfl, hC.to hW hU hS hAB, by rw [hU]; exact hRc⟩⟩ rfl rfl hl.1 rfl (lv_room (Nat.le_of_ble_eq_true rfl)) d_Sh_part_18 ⟨Nat.le_of_ble_eq_true rfl, Nat.le_of_ble_eq_true rfl⟩).run (fun r11 h => ?_)
    refine lv_if_eq (tgt := 37) hx hb d_Sh_part_21 (by decide) (fun c9 => ?_) (fun c9 => ?_)
    · have h := h.1 c9
      exact t_Sh_part_37 E hR hA hAB hRn  _ _ _ _ _ _ _ h hP hD hS (lv_sub hl [4, 5, 0] rfl)
    · have h := h.2 c9
      refine lv_aload hx hb d_Sh_part_24 (lv_at hl 5 rfl) ?_
      refine lv_aload_n hx hb d_Sh_part_26 rfl (lv_at hl 1 rfl) ?_
      refine lv_aload_n hx hb d_Sh_part_27 rfl (lv_at hl 2 rfl) ?_
      have hRc : va_P G.1 vwCl [(a1_0, .inr (5, [.int (sgK u1), .ref a1_1, .ref a1_2, .ref a1_3, .ref a1_4, .int (sgO u1), .int (sgP u1)])), (a1_1, .inl (G.2.1 0, sgN u1, .inl (sgL u1))), (a1_2, .inl (G.2.1 1, sgN u1, .inl (sgR u1))), (a1_3, .inl (G.2.1 1, sgM u1, .inl (sgB u1))), (a1_4, .inl (G.2.1 1, sgM u1, .inl (sgE u1)))] H := ((ro_now hR hRn hS).sub (ws' := [(a1_0, .inr (5, [.int (sgK u1), .ref a1_1, .ref a1_2, .ref a1_3, .ref a1_4, .int (sgO u1), .int (sgP u1)])), (a1_1, .inl (G.2.1 0, sgN u1, .inl (sgL u1))), (a1_2, .inl (G.2.1 1, sgN u1, .inl (sgR u1))), (a1_3, .inl (G.2.1 1, sgM u1, .inl (sgB u1))), (a1_4, .inl (G.2.1 1, sgM u1, .inl (sgE u1)))]) [0, 1, 2, 3, 4] rfl)
      have hPc := hP.sub (ws' := [(a0_0, .inr (4, [.ref a0_1, .int (shD u0), .int (shC u0), .int (shT u0)])), (a0_1, .inl (G.2.1 1, shN u0, .inl (shF u0)))]) [0, 1] rfl
      have hDc := hD.sub (ws' := [(a0_0, .inr (4, [.ref a0_1, .int (shD u0), .int (shC u0), .int (shT u0)])), (a0_1, .inl (G.2.1 1, shN u0, .inl (shF u0)))]) [0, 1] (by decide) rfl
      have hFc := va_free (wc := [(a0_0, .inr (4, [.ref a0_1, .int (shD u0), .int (shC u0), .int (shT u0)])), (a0_1, .inl (G.2.1 1, shN u0, .inl (shF u0)))]) hD hS hA [0, 1] rfl
      have hQc : mw_ap [(a0_0, .inr (4, [.ref a0_1, .int (shD u0), .int (shC u0), .int (shT u0)])), (a0_1, .inl (G.2.1 1, shN u0, .inl (shF u0)))] [(a1_0, .inr (5, [.int (sgK u1), .ref a1_1, .ref a1_2, .ref a1_3, .ref a1_4, .int (sgO u1), .int (sgP u1)])), (a1_1, .inl (G.2.1 0, sgN u1, .inl (sgL u1))), (a1_2, .inl (G.2.1 1, sgN u1, .inl (sgR u1))), (a1_3, .inl (G.2.1 1, sgM u1, .inl (sgB u1))), (a1_4, .inl (G.2.1 1, sgM u1, .inl (sgE u1)))] := (mw_ap_R (wc := [(a0_0, .inr (4, [.ref a0_1, .int (shD u0), .int (shC u0), .int (shT u0)])), (a0_1, .inl (G.2.1 1, shN u0, .inl (shF u0)))]) (wr := [(a1_0, .inr (5, [.int (sgK u1), .ref a1_1, .ref a1_2, .ref a1_3, .ref a1_4, .int (sgO u1), .int (sgP u1)])), (a1_1, .inl (G.2.1 0, sgN u1, .inl (sgL u1))), (a1_2, .inl (G.2.1 1, sgN u1, .inl (sgR u1))), (a1_3, .inl (G.2.1 1, sgM u1, .inl (sgB u1))), (a1_4, .inl (G.2.1 1, sgM u1, .inl (sgE u1)))]) hFc hRn [0, 1, 2, 3, 4] rfl)
      refine va_calli (va_runV (As := [.ref a1_0]) (rest := [.ref a4_0]) ⟨hx, hb, hml, hown, hts⟩ (c_Sh_partingItems l G a0_0 a0_1 a1_0 a1_1 a1_2 a1_3 a1_4 u0 u1 H.size _ h) (cwV 1 hts (gwV b_234 b_235 b_236 b_237 b_233) rfl rfl rfl hd_Sh_partingItems ⟨Nat.le_of_ble_eq_true rfl, Nat.le_of_ble_eq_true rfl⟩) ⟨mW_blind, va_recv hK hPc (ci := 4) (q0 := 0) rfl rfl, fun U hU hW => ⟨rfl, hC.to hW hU hS hAB, by rw [hU], by rw [hU]; exact hPc, hDc.weaken (fun _ _ _ => hAB _), by rw [hU]; exact hRc, hQc⟩⟩ rfl rfl hl.1 rfl (lv_room (Nat.le_of_ble_eq_true rfl)) d_Sh_part_28 ⟨Nat.le_of_ble_eq_true rfl, Nat.le_of_ble_eq_true rfl⟩) hS (fun q _ h => hFc q h) hFc (fun r13 v12 t H1 locs ht hvm h hB hz1 hk1 hS => ?_)
      rw [ht] at hB
      have hj9 := mw_join (wr := [(a4_0, .inr (3, [.int (skW u4), .int (skP u4), .int (skF u4)]))]) (w1 := [(a0_0, .inr (4, [.ref a0_1, .int (shD v12), .int (shC v12), .int (shT v12)])), (a0_1, .inl (G.2.1 1, shN v12, .inl (shF v12)))]) hP hD [0, 1] [2] rfl rfl (by decide) (by decide) (by decide) hk1 hFc hB rfl
      have hP : va_P G.1 vwCl [(a4_0, .inr (3, [.int (skW u4), .int (skP u4), .int (skF u4)])), (a0_0, .inr (4, [.ref a0_1, .int (shD v12), .int (shC v12), .int (shT v12)])), (a0_1, .inl (G.2.1 1, shN v12, .inl (shF v12)))] H1 := hj9.1
      have hD : va_D A [(a4_0, .inr (3, [.int (skW u4), .int (skP u4), .int (skF u4)])), (a0_0, .inr (4, [.ref a0_1, .int (shD v12), .int (shC v12), .int (shT v12)])), (a0_1, .inl (G.2.1 1, shN v12, .inl (shF v12)))] := hj9.2
      generalize H1 = H at hP hS ⊢
      have hRc : va_P G.1 vwCl [] H := vaP_nil
      have hPc := hP.sub (ws' := [(a4_0, .inr (3, [.int (skW u4), .int (skP u4), .int (skF u4)]))]) [0] rfl
      have hDc := hD.sub (ws' := [(a4_0, .inr (3, [.int (skW u4), .int (skP u4), .int (skF u4)]))]) [0] (by decide) rfl
      have hFc := va_free (wc := [(a4_0, .inr (3, [.int (skW u4), .int (skP u4), .int (skF u4)]))]) hD hS hA [0] rfl
      have hQc : mw_ap [(a4_0, .inr (3, [.int (skW u4), .int (skP u4), .int (skF u4)]))] [] := mw_ap_nil
      refine va_callv (va_runV (As := [.int r13]) (rest := []) ⟨hx, hb, hml, hown, hts⟩ (c_Sk_pass l G a4_0 u4 r13 H.size _ h) (cwV 1 hts (gwV b_238 b_79 b_80 b_81 b_77) rfl rfl rfl hd_Sk_pass ⟨Nat.le_of_ble_eq_true rfl, Nat.le_of_ble_eq_true rfl⟩) ⟨mW_blind, va_recv hK hPc (ci := 3) (q0 := 0) rfl rfl, fun U hU hW => ⟨rfl, hC.to hW hU hS hAB, by rw [hU], by rw [hU]; exact hPc, hDc.weaken (fun _ _ _ => hAB _), by rw [hU]; exact hRc, hQc⟩⟩ rfl rfl hl.1 rfl (lv_room (Nat.le_of_ble_eq_true rfl)) d_Sh_part_31 ⟨Nat.le_of_ble_eq_true rfl, Nat.le_of_ble_eq_true rfl⟩) hS (fun q _ h => hFc q h) hFc (fun v14 t H1 locs ht hvm h hB hz1 hk1 hS => ?_)
      rw [ht] at hB
      have hj9 := mw_join (wr := [(a0_0, .inr (4, [.ref a0_1, .int (shD v12), .int (shC v12), .int (shT v12)])), (a0_1, .inl (G.2.1 1, shN v12, .inl (shF v12)))]) (w1 := [(a4_0, .inr (3, [.int (skW v14), .int (skP v14), .int (skF v14)]))]) hP hD [0] [1, 2] rfl rfl (by decide) (by decide) (by decide) hk1 hFc hB rfl
      have hP : va_P G.1 vwCl [(a0_0, .inr (4, [.ref a0_1, .int (shD v12), .int (shC v12), .int (shT v12)])), (a0_1, .inl (G.2.1 1, shN v12, .inl (shF v12))), (a4_0, .inr (3, [.int (skW v14), .int (skP v14), .int (skF v14)]))] H1 := hj9.1
      have hD : va_D A [(a0_0, .inr (4, [.ref a0_1, .int (shD v12), .int (shC v12), .int (shT v12)])), (a0_1, .inl (G.2.1 1, shN v12, .inl (shF v12))), (a4_0, .inr (3, [.int (skW v14), .int (skP v14), .int (skF v14)]))] := hj9.2
      generalize H1 = H at hP hS ⊢
      refine lv_goto (tgt := 61) hx hb d_Sh_part_34 (by decide) ?_
      exact W.vret hx hb hr (fun t ht hW => ⟨⟨_, rfl, h, vaP_at ht hP⟩, hS.F ht⟩) hS.2.2 d_Sh_part_61
set_option maxHeartbeats 4000000 in
set_option maxRecDepth 100000 in
theorem c_Sh_part (l : Launch) (G : GX) (a0_0 a0_1 a1_0 a1_1 a1_2 a1_3 a1_4 a4_0 : Nat) (u0 : ShC) (u1 : SgC) (u4 : SkC) (x2 : Int32) (x3 : Int32) (sz : Nat) (post : (ShC × SkC) → Prop) (h : wp_Sh_part post u0 u1 u4 x2 x3) : Met l y_Sh_part wc_Sh_part rm_Sh_part (mW G [.ref a0_0, .ref a1_0, .int x2, .int x3, .ref a4_0] sz [(a0_0, .inr (4, [.ref a0_1, .int (shD u0), .int (shC u0), .int (shT u0)])), (a0_1, .inl (G.2.1 1, shN u0, .inl (shF u0))), (a4_0, .inr (3, [.int (skW u4), .int (skP u4), .int (skF u4)]))] [(a1_0, .inr (5, [.int (sgK u1), .ref a1_1, .ref a1_2, .ref a1_3, .ref a1_4, .int (sgO u1), .int (sgP u1)])), (a1_1, .inl (G.2.1 0, sgN u1, .inl (sgL u1))), (a1_2, .inl (G.2.1 1, sgN u1, .inl (sgR u1))), (a1_3, .inl (G.2.1 1, sgM u1, .inl (sgB u1))), (a1_4, .inl (G.2.1 1, sgM u1, .inl (sgE u1)))]) (va_Qv post (fun (u : ShC × SkC) (t : State) => va_P G.1 vwCl [(a0_0, .inr (4, [.ref a0_1, .int (shD u.1), .int (shC u.1), .int (shT u.1)])), (a0_1, .inl (G.2.1 1, shN u.1, .inl (shF u.1))), (a4_0, .inr (3, [.int (skW u.2), .int (skP u.2), .int (skF u.2)]))] t.heap) (va_A [(a0_0, .inr (4, [.ref a0_1, .int (shD u0), .int (shC u0), .int (shT u0)])), (a0_1, .inl (G.2.1 1, shN u0, .inl (shF u0))), (a4_0, .inr (3, [.int (skW u4), .int (skP u4), .int (skF u4)]))] sz)) 0 0 (va_A [(a0_0, .inr (4, [.ref a0_1, .int (shD u0), .int (shC u0), .int (shT u0)])), (a0_1, .inl (G.2.1 1, shN u0, .inl (shF u0))), (a4_0, .inr (3, [.int (skW u4), .int (skP u4), .int (skF u4)]))] sz) := by
  refine Met.ofW (cc := cc_Sh_part) (maxL := 6) (ret := none) (by decide) rfl ?_
  intro p e s m args below meth c s₁ B hml hv
  obtain ⟨rfl, hC, hsz, hP, hD0, hR, hap⟩ := hv
  have E : EN p s m ([.ref a0_0, .ref a1_0, .int x2, .int x3, .ref a4_0] : List Value).toArray meth c G R_Sh cc_Sh_part 6 none BG := ⟨B.exec, B.bytes, B.returns, fun w h => atoms_spec (ws := wc_Sh_part) B.pre w (List.mem_cons_of_mem _ h), findClass_of_methodNamed B.named, B.notSynchronized, hml, hC⟩
  subst hsz
  have hD := hD0.self (sz := s.heap.size)
  have hRn := mw_notA hR hap
  have hAB := mw_AB hD0 hC
  have hA : ∀ q : Nat, s.heap.size ≤ q → va_A [(a0_0, .inr (4, [.ref a0_1, .int (shD u0), .int (shC u0), .int (shT u0)])), (a0_1, .inl (G.2.1 1, shN u0, .inl (shF u0))), (a4_0, .inr (3, [.int (skW u4), .int (skP u4), .int (skF u4)]))] s.heap.size q := fun q z => Or.inr z
  generalize va_A [(a0_0, .inr (4, [.ref a0_1, .int (shD u0), .int (shC u0), .int (shT u0)])), (a0_1, .inl (G.2.1 1, shN u0, .inl (shF u0))), (a4_0, .inr (3, [.int (skW u4), .int (skP u4), .int (skF u4)]))] s.heap.size = A at hD hRn hAB hA ⊢
  have hl := lv_entry ([.ref a0_0, .ref a1_0, .int x2, .int x3, .ref a4_0]) (n := 6) (Nat.le_of_ble_eq_true rfl)
  rw [lg_entry_eq]
  generalize (lg_sl ([.ref a0_0, .ref a1_0, .int x2, .int x3, .ref a4_0]) ++ List.replicate (6 - (lg_sl ([.ref a0_0, .ref a1_0, .int x2, .int x3, .ref a4_0])).length) Slot.unset).toArray = ls at hl ⊢
  have hl : lv_has ls 6 [(0, .ref a0_0), (1, .ref a1_0), (2, .int x2), (3, .int x3), (4, .ref a4_0)] := hl
  exact t_Sh_part_in E hR hA hAB hRn _ _ _ h hP hD va_S.rf hl
set_option maxHeartbeats 4000000 in
set_option maxRecDepth 100000 in
theorem t_Sh_changeDepth_43 {p : Program} {l : Launch} {e : Env} {s : State} {m : MethodId} {args : Array Value} {below : List Frame} {meth : Method} {c : Code} {G : GX} {a0_0 a0_1 : Nat} {post : ShC → Prop} {A : Nat → Prop} (E : EN p s m args meth c G R_Sh cc_Sh_changeDepth 2 none BG) (hR : va_P G.1 vwCl [] s.heap) (hA : ∀ q : Nat, s.heap.size ≤ q → A q) (hAB : ∀ q : Nat, A q → G.2.2.1 ≤ q) (hRn : ∀ (j : Nat) (q : Nat × va_E), ([] : va_W)[j]? = some q → ¬ A q.1) : ∀ (y1 : Int32) (w0 : ShC) (H : Heap) (locs : List Loc) (ls : Array Slot), w_Sh_changeDepth_43 post y1 w0 → va_P G.1 vwCl [(a0_0, .inr (4, [.ref a0_1, .int (shD w0), .int (shC w0), .int (shT w0)])), (a0_1, .inl (G.2.1 1, shN w0, .inl (shF w0)))] H → va_D A [(a0_0, .inr (4, [.ref a0_1, .int (shD w0), .int (shC w0), .int (shT w0)])), (a0_1, .inl (G.2.1 1, shN w0, .inl (shF w0)))] → va_S A s.heap H locs → lv_has ls 2 [(0, .ref a0_0), (1, .int y1)] → W p l e rm_Sh_changeDepth s m args below meth c H locs 0 0 (MQ below (va_Qv post (fun (u : ShC) (t : State) => va_P G.1 vwCl [(a0_0, .inr (4, [.ref a0_1, .int (shD u), .int (shC u), .int (shT u)])), (a0_1, .inl (G.2.1 1, shN u, .inl (shF u)))] t.heap) A) args s 0 0 A) (F0 m 43 ls []) := by
  obtain ⟨hx, hb, hr, hts, hown, hlocks, hml, hC⟩ := id E
  have hK := hC.1
  intro y1 w0  H locs ls h hP hD hS hl
  unfold w_Sh_changeDepth_43 at h
  refine lv_iload_n hx hb d_Sh_changeDepth_43 rfl (lv_at hl 1 rfl) ?_
  refine lv_bipush (v := 16) hx hb d_Sh_changeDepth_44 (by decide) ?_
  refine lv_icmp_ne (tgt := 66) hx hb d_Sh_changeDepth_46 (by decide) (fun c9 => ?_) (fun c9 => ?_)
  · have h := h.1 c9
    exact W.vret hx hb hr (fun t ht hW => ⟨⟨_, rfl, h, vaP_at ht hP⟩, hS.F ht⟩) hS.2.2 d_Sh_changeDepth_66
  · have h := h.2 c9
    refine lv_aload_n hx hb d_Sh_changeDepth_49 rfl (lv_at hl 0 rfl) ?_
    refine va_get (D := G.1) (ci := 4) (v := .int (shD w0)) (C := R_Sh) (T := T_Sh) (N := 4) hx hb hts i_Sh hown hK hP 0 rfl rfl 1 (by decide) (hts _ b_228) (fun _ h9 => h9) rfl d_Sh_changeDepth_50 ?_
    refine lv_if_le (tgt := 66) hx hb d_Sh_changeDepth_53 (by decide) (fun c9 => ?_) (fun c9 => ?_)
    · have h := h.1 c9
      exact W.vret hx hb hr (fun t ht hW => ⟨⟨_, rfl, h, vaP_at ht hP⟩, hS.F ht⟩) hS.2.2 d_Sh_changeDepth_66
    · have h := h.2 c9
      refine lv_aload_n hx hb d_Sh_changeDepth_56 rfl (lv_at hl 0 rfl) ?_
      refine lv_dup hx hb d_Sh_changeDepth_57 rfl ?_
      refine va_get (D := G.1) (ci := 4) (v := .int (shD w0)) (C := R_Sh) (T := T_Sh) (N := 4) hx hb hts i_Sh hown hK hP 0 rfl rfl 1 (by decide) (hts _ b_228) (fun _ h9 => h9) rfl d_Sh_changeDepth_58 ?_
      refine lv_iconst (v := 1) hx hb d_Sh_changeDepth_61 (by decide) ?_
      refine lv_isub hx hb d_Sh_changeDepth_62 ?_
      refine va_put (D := G.1) (ci := 4) (v := .int ((shD w0) - 1)) (ty := .int) (C := R_Sh) (T := T_Sh) (N := 4) hx hb hts i_Sh ty_Sh tyok_Sh nm_Sh hown hK hP hD hS 0 rfl rfl 1 (by decide) (hts _ b_228) (fun _ h9 => h9) rfl (by decide +kernel) rfl rfl (Nat.le_of_ble_eq_true rfl) d_Sh_changeDepth_63 (fun H locs hP hD hS => ?_)
      have hP : va_P G.1 vwCl [(a0_0, .inr (4, [.ref a0_1, .int ((shD w0) - 1), .int (shC w0), .int (shT w0)])), (a0_1, .inl (G.2.1 1, shN w0, .inl (shF w0)))] H := hP
      have hD : va_D A [(a0_0, .inr (4, [.ref a0_1, .int ((shD w0) - 1), .int (shC w0), .int (shT w0)])), (a0_1, .inl (G.2.1 1, shN w0, .inl (shF w0)))] := hD
      exact W.vret hx hb hr (fun t ht hW => ⟨⟨_, rfl, h, vaP_at ht hP⟩, hS.F ht⟩) hS.2.2 d_Sh_changeDepth_66
set_option maxHeartbeats 4000000 in
set_option maxRecDepth 100000 in
theorem t_Sh_changeDepth_in {p : Program} {l : Launch} {e : Env} {s : State} {m : MethodId} {args : Array Value} {below : List Frame} {meth : Method} {c : Code} {G : GX} {a0_0 a0_1 : Nat} {post : ShC → Prop} {A : Nat → Prop} {u0 : ShC} {x1 : Int32} (E : EN p s m args meth c G R_Sh cc_Sh_changeDepth 2 none BG) (hR : va_P G.1 vwCl [] s.heap) (hA : ∀ q : Nat, s.heap.size ≤ q → A q) (hAB : ∀ q : Nat, A q → G.2.2.1 ≤ q) (hRn : ∀ (j : Nat) (q : Nat × va_E), ([] : va_W)[j]? = some q → ¬ A q.1) : ∀ (H : Heap) (locs : List Loc) (ls : Array Slot), wp_Sh_changeDepth post u0 x1 → va_P G.1 vwCl [(a0_0, .inr (4, [.ref a0_1, .int (shD u0), .int (shC u0), .int (shT u0)])), (a0_1, .inl (G.2.1 1, shN u0, .inl (shF u0)))] H → va_D A [(a0_0, .inr (4, [.ref a0_1, .int (shD u0), .int (shC u0), .int (shT u0)])), (a0_1, .inl (G.2.1 1, shN u0, .inl (shF u0)))] → va_S A s.heap H locs → lv_has ls 2 [(0, .ref a0_0), (1, .int x1)] → W p l e rm_Sh_changeDepth s m args below meth c H locs 0 0 (MQ below (va_Qv post (fun (u : ShC) (t : State) => va_P G.1 vwCl [(a0_0, .inr (4, [.ref a0_1, .int (shD u), .int (shC u), .int (shT u)])), (a0_1, .inl (G.2.1 1, shN u, .inl (shF u)))] t.heap) A) args s 0 0 A) (F0 m 0 ls []) := by
  obtain ⟨hx, hb, hr, hts, hown, hlocks, hml, hC⟩ := id E
  have hK := hC.1
  intro H locs ls h hP hD hS hl
  unfold wp_Sh_changeDepth at h
  refine lv_iload_n hx hb d_Sh_changeDepth_0 rfl (lv_at hl 1 rfl) ?_
  refine lv_bipush (v := 15) hx hb d_Sh_changeDepth_1 (by decide) ?_
  refine lv_icmp_ne (tgt := 43) hx hb d_Sh_changeDepth_3 (by decide) (fun c9 => ?_) (fun c9 => ?_)
  · have h := h.1 c9
    exact t_Sh_changeDepth_43 E hR hA hAB hRn  _ _ _ _ _ h hP hD hS (lv_sub hl [0, 1] rfl)
  · have h := h.2 c9
    refine lv_aload_n hx hb d_Sh_changeDepth_6 rfl (lv_at hl 0 rfl) ?_
    refine va_get (D := G.1) (ci := 4) (v := .int (shD u0)) (C := R_Sh) (T := T_Sh) (N := 4) hx hb hts i_Sh hown hK hP 0 rfl rfl 1 (by decide) (hts _ b_228) (fun _ h9 => h9) rfl d_Sh_changeDepth_7 ?_
    refine lv_iconst (v := 1) hx hb d_Sh_changeDepth_10 (by decide) ?_
    refine lv_iadd hx hb d_Sh_changeDepth_11 ?_
    refine lv_aload_n hx hb d_Sh_changeDepth_12 rfl (lv_at hl 0 rfl) ?_
    refine va_get (D := G.1) (ci := 4) (v := .ref a0_1) (C := R_Sh) (T := T_Sh) (N := 4) hx hb hts i_Sh hown hK hP 0 rfl rfl 0 (by decide) (hts _ b_239) (fun _ h9 => h9) rfl d_Sh_changeDepth_13 ?_
    refine va_alen hx hb hK hP 1 1 rfl rfl (v := Int32.ofNat (shN u0)) rfl d_Sh_changeDepth_16 ?_
    refine lv_icmp_ge (tgt := 43) hx hb d_Sh_changeDepth_17 (by decide) (fun c9 => ?_) (fun c9 => ?_)
    · have h := h.1 c9
      exact t_Sh_changeDepth_43 E hR hA hAB hRn  _ _ _ _ _ h hP hD hS (lv_sub hl [0, 1] rfl)
    · have h := h.2 c9
      refine lv_aload_n hx hb d_Sh_changeDepth_20 rfl (lv_at hl 0 rfl) ?_
      refine lv_dup hx hb d_Sh_changeDepth_21 rfl ?_
      refine va_get (D := G.1) (ci := 4) (v := .int (shD u0)) (C := R_Sh) (T := T_Sh) (N := 4) hx hb hts i_Sh hown hK hP 0 rfl rfl 1 (by decide) (hts _ b_228) (fun _ h9 => h9) rfl d_Sh_changeDepth_22 ?_
      refine lv_iconst (v := 1) hx hb d_Sh_changeDepth_25 (by decide) ?_
      refine lv_iadd hx hb d_Sh_changeDepth_26 ?_
      refine va_put (D := G.1) (ci := 4) (v := .int ((shD u0) + 1)) (ty := .int) (C := R_Sh) (T := T_Sh) (N := 4) hx hb hts i_Sh ty_Sh tyok_Sh nm_Sh hown hK hP hD hS 0 rfl rfl 1 (by decide) (hts _ b_228) (fun _ h9 => h9) rfl (by decide +kernel) rfl rfl (Nat.le_of_ble_eq_true rfl) d_Sh_changeDepth_27 (fun H locs hP hD hS => ?_)
      have hP : va_P G.1 vwCl [(a0_0, .inr (4, [.ref a0_1, .int ((shD u0) + 1), .int (shC u0), .int (shT u0)])), (a0_1, .inl (G.2.1 1, shN u0, .inl (shF u0)))] H := hP
      have hD : va_D A [(a0_0, .inr (4, [.ref a0_1, .int ((shD u0) + 1), .int (shC u0), .int (shT u0)])), (a0_1, .inl (G.2.1 1, shN u0, .inl (shF u0)))] := hD
      refine lv_aload_n hx hb d_Sh_changeDepth_30 rfl (lv_at hl 0 rfl) ?_
      refine va_get (D := G.1) (ci := 4) (v := .ref a0_1) (C := R_Sh) (T := T_Sh) (N := 4) hx hb hts i_Sh hown hK hP 0 rfl rfl 0 (by decide) (hts _ b_239) (fun _ h9 => h9) rfl d_Sh_changeDepth_31 ?_
      refine lv_aload_n hx hb d_Sh_changeDepth_34 rfl (lv_at hl 0 rfl) ?_
      refine va_get (D := G.1) (ci := 4) (v := .int ((shD u0) + 1)) (C := R_Sh) (T := T_Sh) (N := 4) hx hb hts i_Sh hown hK hP 0 rfl rfl 1 (by decide) (hts _ b_228) (fun _ h9 => h9) rfl d_Sh_changeDepth_35 ?_
      refine lv_iconst (v := 0) hx hb d_Sh_changeDepth_38 (by decide) ?_
      have hi9 := h.1
      have h := h.2
      refine va_iast hx hb hK hP hD hS 1 1 rfl rfl hi9 d_Sh_changeDepth_39 (fun H locs hP hD hS => ?_)
      have hP : va_P G.1 vwCl [(a0_0, .inr (4, [.ref a0_1, .int ((shD u0) + 1), .int (shC u0), .int (shT u0)])), (a0_1, .inl (G.2.1 1, shN u0, .inl (upd (shF u0) ((shD u0) + 1).toNatClampNeg 0)))] H := hP
      have hD : va_D A [(a0_0, .inr (4, [.ref a0_1, .int ((shD u0) + 1), .int (shC u0), .int (shT u0)])), (a0_1, .inl (G.2.1 1, shN u0, .inl (upd (shF u0) ((shD u0) + 1).toNatClampNeg 0)))] := hD
      refine lv_goto (tgt := 66) hx hb d_Sh_changeDepth_40 (by decide) ?_
      exact W.vret hx hb hr (fun t ht hW => ⟨⟨_, rfl, h, vaP_at ht hP⟩, hS.F ht⟩) hS.2.2 d_Sh_changeDepth_66
set_option maxHeartbeats 4000000 in
set_option maxRecDepth 100000 in
theorem c_Sh_changeDepth (l : Launch) (G : GX) (a0_0 a0_1 : Nat) (u0 : ShC) (x1 : Int32) (sz : Nat) (post : ShC → Prop) (h : wp_Sh_changeDepth post u0 x1) : Met l y_Sh_changeDepth wc_Sh_changeDepth rm_Sh_changeDepth (mW G [.ref a0_0, .int x1] sz [(a0_0, .inr (4, [.ref a0_1, .int (shD u0), .int (shC u0), .int (shT u0)])), (a0_1, .inl (G.2.1 1, shN u0, .inl (shF u0)))] []) (va_Qv post (fun (u : ShC) (t : State) => va_P G.1 vwCl [(a0_0, .inr (4, [.ref a0_1, .int (shD u), .int (shC u), .int (shT u)])), (a0_1, .inl (G.2.1 1, shN u, .inl (shF u)))] t.heap) (va_A [(a0_0, .inr (4, [.ref a0_1, .int (shD u0), .int (shC u0), .int (shT u0)])), (a0_1, .inl (G.2.1 1, shN u0, .inl (shF u0)))] sz)) 0 0 (va_A [(a0_0, .inr (4, [.ref a0_1, .int (shD u0), .int (shC u0), .int (shT u0)])), (a0_1, .inl (G.2.1 1, shN u0, .inl (shF u0)))] sz) := by
  refine Met.ofW (cc := cc_Sh_changeDepth) (maxL := 2) (ret := none) (by decide) rfl ?_
  intro p e s m args below meth c s₁ B hml hv
  obtain ⟨rfl, hC, hsz, hP, hD0, hR, hap⟩ := hv
  have E : EN p s m ([.ref a0_0, .int x1] : List Value).toArray meth c G R_Sh cc_Sh_changeDepth 2 none BG := ⟨B.exec, B.bytes, B.returns, fun w h => atoms_spec (ws := wc_Sh_changeDepth) B.pre w (List.mem_cons_of_mem _ h), findClass_of_methodNamed B.named, B.notSynchronized, hml, hC⟩
  subst hsz
  have hD := hD0.self (sz := s.heap.size)
  have hRn := mw_notA hR hap
  have hAB := mw_AB hD0 hC
  have hA : ∀ q : Nat, s.heap.size ≤ q → va_A [(a0_0, .inr (4, [.ref a0_1, .int (shD u0), .int (shC u0), .int (shT u0)])), (a0_1, .inl (G.2.1 1, shN u0, .inl (shF u0)))] s.heap.size q := fun q z => Or.inr z
  generalize va_A [(a0_0, .inr (4, [.ref a0_1, .int (shD u0), .int (shC u0), .int (shT u0)])), (a0_1, .inl (G.2.1 1, shN u0, .inl (shF u0)))] s.heap.size = A at hD hRn hAB hA ⊢
  have hl := lv_entry ([.ref a0_0, .int x1]) (n := 2) (Nat.le_of_ble_eq_true rfl)
  rw [lg_entry_eq]
  generalize (lg_sl ([.ref a0_0, .int x1]) ++ List.replicate (2 - (lg_sl ([.ref a0_0, .int x1])).length) Slot.unset).toArray = ls at hl ⊢
  have hl : lv_has ls 2 [(0, .ref a0_0), (1, .int x1)] := hl
  exact t_Sh_changeDepth_in E hR hA hAB hRn _ _ _ h hP hD va_S.rf hl
set_option maxHeartbeats 4000000 in
set_option maxRecDepth 100000 in
theorem tb_Sh_showWaiting_2 {p : Program} {l : Launch} {e : Env} {s : State} {m : MethodId} {args : Array Value} {below : List Frame} {meth : Method} {c : Code} {G : GX} {a0_0 a0_1 a1_0 : Nat} {post : (ShC × SkC) → Prop} {A : Nat → Prop} (E : EN p s m args meth c G R_Sh cc_Sh_showWaiting 3 none BG) (hR : va_P G.1 vwCl [] s.heap) (hA : ∀ q : Nat, s.heap.size ≤ q → A q) (hAB : ∀ q : Nat, A q → G.2.2.1 ≤ q) (hRn : ∀ (j : Nat) (q : Nat × va_E), ([] : va_W)[j]? = some q → ¬ A q.1) {K0 : Int32 → ShC → SkC → Prop} (hK0 : ∀ (y2 : Int32) (w0 : ShC) (w1 : SkC) (H : Heap) (locs : List Loc) (ls : Array Slot), K0 y2 w0 w1 → va_P G.1 vwCl [(a0_0, .inr (4, [.ref a0_1, .int (shD w0), .int (shC w0), .int (shT w0)])), (a0_1, .inl (G.2.1 1, shN w0, .inl (shF w0))), (a1_0, .inr (3, [.int (skW w1), .int (skP w1), .int (skF w1)]))] H → va_D A [(a0_0, .inr (4, [.ref a0_1, .int (shD w0), .int (shC w0), .int (shT w0)])), (a0_1, .inl (G.2.1 1, shN w0, .inl (shF w0))), (a1_0, .inr (3, [.int (skW w1), .int (skP w1), .int (skF w1)]))] → va_S A s.heap H locs → lv_has ls 3 [(0, .ref a0_0), (1, .ref a1_0), (2, .int y2)] → W p l e rm_Sh_showWaiting s m args below meth c H locs 0 0 (MQ below (va_Qv post (fun (u : ShC × SkC) (t : State) => va_P G.1 vwCl [(a0_0, .inr (4, [.ref a0_1, .int (shD u.1), .int (shC u.1), .int (shT u.1)])), (a0_1, .inl (G.2.1 1, shN u.1, .inl (shF u.1))), (a1_0, .inr (3, [.int (skW u.2), .int (skP u.2), .int (skF u.2)]))] t.heap) A) args s 0 0 A) (F0 m 2 ls [])) : ∀ (y2 : Int32) (w0 : ShC) (w1 : SkC) (H : Heap) (locs : List Loc) (ls : Array Slot), wb_Sh_showWaiting_2 post K0 y2 w0 w1 → va_P G.1 vwCl [(a0_0, .inr (4, [.ref a0_1, .int (shD w0), .int (shC w0), .int (shT w0)])), (a0_1, .inl (G.2.1 1, shN w0, .inl (shF w0))), (a1_0, .inr (3, [.int (skW w1), .int (skP w1), .int (skF w1)]))] H → va_D A [(a0_0, .inr (4, [.ref a0_1, .int (shD w0), .int (shC w0), .int (shT w0)])), (a0_1, .inl (G.2.1 1, shN w0, .inl (shF w0))), (a1_0, .inr (3, [.int (skW w1), .int (skP w1), .int (skF w1)]))] → va_S A s.heap H locs → lv_has ls 3 [(0, .ref a0_0), (1, .ref a1_0), (2, .int y2)] → W p l e rm_Sh_showWaiting s m args below meth c H locs 0 0 (MQ below (va_Qv post (fun (u : ShC × SkC) (t : State) => va_P G.1 vwCl [(a0_0, .inr (4, [.ref a0_1, .int (shD u.1), .int (shC u.1), .int (shT u.1)])), (a0_1, .inl (G.2.1 1, shN u.1, .inl (shF u.1))), (a1_0, .inr (3, [.int (skW u.2), .int (skP u.2), .int (skF u.2)]))] t.heap) A) args s 0 0 A) (F0 m 2 ls []) := by
  obtain ⟨hx, hb, hr, hts, hown, hlocks, hml, hC⟩ := id E
  have hK := hC.1
  intro y2 w0 w1  H locs ls h hP hD hS hl
  unfold wb_Sh_showWaiting_2 at h
  refine lv_iload_n hx hb d_Sh_showWaiting_2 rfl (lv_at hl 2 rfl) ?_
  refine lv_aload_n hx hb d_Sh_showWaiting_3 rfl (lv_at hl 0 rfl) ?_
  refine va_get (D := G.1) (ci := 4) (v := .ref a0_1) (C := R_Sh) (T := T_Sh) (N := 4) hx hb hts i_Sh hown hK hP 0 rfl rfl 0 (by decide) (hts _ b_239) (fun _ h9 => h9) rfl d_Sh_showWaiting_4 ?_
  refine lv_aload_n hx hb d_Sh_showWaiting_7 rfl (lv_at hl 0 rfl) ?_
  refine va_get (D := G.1) (ci := 4) (v := .int (shD w0)) (C := R_Sh) (T := T_Sh) (N := 4) hx hb hts i_Sh hown hK hP 0 rfl rfl 1 (by decide) (hts _ b_228) (fun _ h9 => h9) rfl d_Sh_showWaiting_8 ?_
  have hi9 := h.1
  have h := h.2
  refine va_iald hx hb hK hP 1 1 rfl rfl hi9 d_Sh_showWaiting_11 ?_
  refine lv_icmp_ge (tgt := 27) hx hb d_Sh_showWaiting_12 (by decide) (fun c9 => ?_) (fun c9 => ?_)
  · have h := h.1 c9
    refine lv_aload_n hx hb d_Sh_showWaiting_27 rfl (lv_at hl 0 rfl) ?_
    refine va_get (D := G.1) (ci := 4) (v := .ref a0_1) (C := R_Sh) (T := T_Sh) (N := 4) hx hb hts i_Sh hown hK hP 0 rfl rfl 0 (by decide) (hts _ b_239) (fun _ h9 => h9) rfl d_Sh_showWaiting_28 ?_
    refine lv_aload_n hx hb d_Sh_showWaiting_31 rfl (lv_at hl 0 rfl) ?_
    refine va_get (D := G.1) (ci := 4) (v := .int (shD w0)) (C := R_Sh) (T := T_Sh) (N := 4) hx hb hts i_Sh hown hK hP 0 rfl rfl 1 (by decide) (hts _ b_228) (fun _ h9 => h9) rfl d_Sh_showWaiting_32 ?_
    refine lv_iconst (v := 0) hx hb d_Sh_showWaiting_35 (by decide) ?_
    have hi9 := h.1
    have h := h.2
    refine va_iast hx hb hK hP hD hS 1 1 rfl rfl hi9 d_Sh_showWaiting_36 (fun H locs hP hD hS => ?_)
    have hP : va_P G.1 vwCl [(a0_0, .inr (4, [.ref a0_1, .int (shD w0), .int (shC w0), .int (shT w0)])), (a0_1, .inl (G.2.1 1, shN w0, .inl (upd (shF w0) (shD w0).toNatClampNeg 0))), (a1_0, .inr (3, [.int (skW w1), .int (skP w1), .int (skF w1)]))] H := hP
    have hD : va_D A [(a0_0, .inr (4, [.ref a0_1, .int (shD w0), .int (shC w0), .int (shT w0)])), (a0_1, .inl (G.2.1 1, shN w0, .inl (upd (shF w0) (shD w0).toNatClampNeg 0))), (a1_0, .inr (3, [.int (skW w1), .int (skP w1), .int (skF w1)]))] := hD
    exact W.vret hx hb hr (fun t ht hW => ⟨⟨_, rfl, h, vaP_at ht hP⟩, hS.F ht⟩) hS.2.2 d_Sh_showWaiting_37
  · have h := h.2 c9
    refine lv_aload_n hx hb d_Sh_showWaiting_15 rfl (lv_at hl 1 rfl) ?_
    refine va_ldcS hx hb hown (sr_2 hC) d_Sh_showWaiting_16 ?_
    have hRc : va_P G.1 vwCl [] H := vaP_nil
    have hPc := hP.sub (ws' := [(a1_0, .inr (3, [.int (skW w1), .int (skP w1), .int (skF w1)]))]) [2] rfl
    have hDc := hD.sub (ws' := [(a1_0, .inr (3, [.int (skW w1), .int (skP w1), .int (skF w1)]))]) [2] (by decide) rfl
    have hFc := va_free (wc := [(a1_0, .inr (3, [.int (skW w1), .int (skP w1), .int (skF w1)]))]) hD hS hA [2] rfl
    have hQc : mw_ap [(a1_0, .inr (3, [.int (skW w1), .int (skP w1), .int (skF w1)]))] [] := mw_ap_nil
    refine va_callv (va_runV (As := [.ref (G.2.2.2.1 2)]) (rest := []) ⟨hx, hb, hml, hown, hts⟩ (c_Sk_passText l G a1_0 w1 2 H.size _ h) (cwV 1 hts (gwV b_241 b_242 b_243 b_81 b_240) rfl rfl rfl hd_Sk_passText ⟨Nat.le_of_ble_eq_true rfl, Nat.le_of_ble_eq_true rfl⟩) ⟨mW_blind, va_recv hK hPc (ci := 3) (q0 := 0) rfl rfl, fun U hU hW => ⟨rfl, hC.to hW hU hS hAB, by rw [hU], by rw [hU]; exact hPc, hDc.weaken (fun _ _ _ => hAB _), by rw [hU]; exact hRc, hQc⟩⟩ rfl rfl hl.1 rfl (lv_room (Nat.le_of_ble_eq_true rfl)) d_Sh_showWaiting_18 ⟨Nat.le_of_ble_eq_true rfl, Nat.le_of_ble_eq_true rfl⟩) hS (fun q _ h => hFc q h) hFc (fun v2 t H1 locs ht hvm h hB hz1 hk1 hS => ?_)
    rw [ht] at hB
    have hj9 := mw_join (wr := [(a0_0, .inr (4, [.ref a0_1, .int (shD w0), .int (shC w0), .int (shT w0)])), (a0_1, .inl (G.2.1 1, shN w0, .inl (shF w0)))]) (w1 := [(a1_0, .inr (3, [.int (skW v2), .int (skP v2), .int (skF v2)]))]) hP hD [2] [0, 1] rfl rfl (by decide) (by decide) (by decide) hk1 hFc hB rfl
    have hP : va_P G.1 vwCl [(a0_0, .inr (4, [.ref a0_1, .int (shD w0), .int (shC w0), .int (shT w0)])), (a0_1, .inl (G.2.1 1, shN w0, .inl (shF w0))), (a1_0, .inr (3, [.int (skW v2), .int (skP v2), .int (skF v2)]))] H1 := hj9.1
    have hD : va_D A [(a0_0, .inr (4, [.ref a0_1, .int (shD w0), .int (shC w0), .int (shT w0)])), (a0_1, .inl (G.2.1 1, shN w0, .inl (shF w0))), (a1_0, .inr (3, [.int (skW v2), .int (skP v2), .int (skF v2)]))] := hj9.2
    generalize H1 = H at hP hS ⊢
    refine lv_iinc (v := y2 + 1) (lv' := [(2, .int (y2 + 1)), (0, .ref a0_0), (1, .ref a1_0)]) hx hb d_Sh_showWaiting_21 hl (k := 2) rfl rfl (by decide) rfl (fun ls hl => ?_)
    refine lv_goto (tgt := 2) hx hb d_Sh_showWaiting_24 (by decide) ?_
    exact hK0 _ _ _ _ _ _ h hP hD hS (lv_sub hl [1, 2, 0] rfl)
set_option maxHeartbeats 4000000 in
set_option maxRecDepth 100000 in
theorem t_Sh_showWaiting_2 {p : Program} {l : Launch} {e : Env} {s : State} {m : MethodId} {args : Array Value} {below : List Frame} {meth : Method} {c : Code} {G : GX} {a0_0 a0_1 a1_0 : Nat} {post : (ShC × SkC) → Prop} {A : Nat → Prop} (E : EN p s m args meth c G R_Sh cc_Sh_showWaiting 3 none BG) (hR : va_P G.1 vwCl [] s.heap) (hA : ∀ q : Nat, s.heap.size ≤ q → A q) (hAB : ∀ q : Nat, A q → G.2.2.1 ≤ q) (hRn : ∀ (j : Nat) (q : Nat × va_E), ([] : va_W)[j]? = some q → ¬ A q.1) : ∀ (n : Nat) (y2 : Int32) (w0 : ShC) (w1 : SkC) (H : Heap) (locs : List Loc) (ls : Array Slot), w_Sh_showWaiting_2 post n y2 w0 w1 → va_P G.1 vwCl [(a0_0, .inr (4, [.ref a0_1, .int (shD w0), .int (shC w0), .int (shT w0)])), (a0_1, .inl (G.2.1 1, shN w0, .inl (shF w0))), (a1_0, .inr (3, [.int (skW w1), .int (skP w1), .int (skF w1)]))] H → va_D A [(a0_0, .inr (4, [.ref a0_1, .int (shD w0), .int (shC w0), .int (shT w0)])), (a0_1, .inl (G.2.1 1, shN w0, .inl (shF w0))), (a1_0, .inr (3, [.int (skW w1), .int (skP w1), .int (skF w1)]))] → va_S A s.heap H locs → lv_has ls 3 [(0, .ref a0_0), (1, .ref a1_0), (2, .int y2)] → W p l e rm_Sh_showWaiting s m args below meth c H locs 0 0 (MQ below (va_Qv post (fun (u : ShC × SkC) (t : State) => va_P G.1 vwCl [(a0_0, .inr (4, [.ref a0_1, .int (shD u.1), .int (shC u.1), .int (shT u.1)])), (a0_1, .inl (G.2.1 1, shN u.1, .inl (shF u.1))), (a1_0, .inr (3, [.int (skW u.2), .int (skP u.2), .int (skF u.2)]))] t.heap) A) args s 0 0 A) (F0 m 2 ls []) := by
  intro n
  induction n with
  | zero => intro y2 w0 w1  H locs ls h; exact h.elim
  | succ n ih =>
    intro y2 w0 w1  H locs ls h hP hD hS hl
    exact tb_Sh_showWaiting_2 E hR hA hAB hRn  ih _ _ _ _ _ _ h hP hD hS hl
set_option maxHeartbeats 4000000 in
set_option maxRecDepth 100000 in
theorem t_Sh_showWaiting_in {p : Program} {l : Launch} {e : Env} {s : State} {m : MethodId} {args : Array Value} {below : List Frame} {meth : Method} {c : Code} {G : GX} {a0_0 a0_1 a1_0 : Nat} {post : (ShC × SkC) → Prop} {A : Nat → Prop} {u0 : ShC} {u1 : SkC} (E : EN p s m args meth c G R_Sh cc_Sh_showWaiting 3 none BG) (hR : va_P G.1 vwCl [] s.heap) (hA : ∀ q : Nat, s.heap.size ≤ q → A q) (hAB : ∀ q : Nat, A q → G.2.2.1 ≤ q) (hRn : ∀ (j : Nat) (q : Nat × va_E), ([] : va_W)[j]? = some q → ¬ A q.1) : ∀ (H : Heap) (locs : List Loc) (ls : Array Slot), wp_Sh_showWaiting post u0 u1 → va_P G.1 vwCl [(a0_0, .inr (4, [.ref a0_1, .int (shD u0), .int (shC u0), .int (shT u0)])), (a0_1, .inl (G.2.1 1, shN u0, .inl (shF u0))), (a1_0, .inr (3, [.int (skW u1), .int (skP u1), .int (skF u1)]))] H → va_D A [(a0_0, .inr (4, [.ref a0_1, .int (shD u0), .int (shC u0), .int (shT u0)])), (a0_1, .inl (G.2.1 1, shN u0, .inl (shF u0))), (a1_0, .inr (3, [.int (skW u1), .int (skP u1), .int (skF u1)]))] → va_S A s.heap H locs → lv_has ls 3 [(0, .ref a0_0), (1, .ref a1_0)] → W p l e rm_Sh_showWaiting s m args below meth c H locs 0 0 (MQ below (va_Qv post (fun (u : ShC × SkC) (t : State) => va_P G.1 vwCl [(a0_0, .inr (4, [.ref a0_1, .int (shD u.1), .int (shC u.1), .int (shT u.1)])), (a0_1, .inl (G.2.1 1, shN u.1, .inl (shF u.1))), (a1_0, .inr (3, [.int (skW u.2), .int (skP u.2), .int (skF u.2)]))] t.heap) A) args s 0 0 A) (F0 m 0 ls []) := by
  obtain ⟨hx, hb, hr, hts, hown, hlocks, hml, hC⟩ := id E
  have hK := hC.1
  intro H locs ls h hP hD hS hl
  unfold wp_Sh_showWaiting at h
  refine lv_iconst (v := 0) hx hb d_Sh_showWaiting_0 (by decide) ?_
  refine lv_istore_n (lv' := [(2, .int 0), (0, .ref a0_0), (1, .ref a1_0)]) hx hb d_Sh_showWaiting_1 rfl hl (by decide) rfl (fun ls hl => ?_)
  obtain ⟨n, h⟩ := h
  exact t_Sh_showWaiting_2 E hR hA hAB hRn  n _ _ _ _ _ _ h hP hD hS (lv_sub hl [1, 2, 0] rfl)
set_option maxHeartbeats 4000000 in
set_option maxRecDepth 100000 in
theorem c_Sh_showWaiting (l : Launch) (G : GX) (a0_0 a0_1 a1_0 : Nat) (u0 : ShC) (u1 : SkC) (sz : Nat) (post : (ShC × SkC) → Prop) (h : wp_Sh_showWaiting post u0 u1) : Met l y_Sh_showWaiting wc_Sh_showWaiting rm_Sh_showWaiting (mW G [.ref a0_0, .ref a1_0] sz [(a0_0, .inr (4, [.ref a0_1, .int (shD u0), .int (shC u0), .int (shT u0)])), (a0_1, .inl (G.2.1 1, shN u0, .inl (shF u0))), (a1_0, .inr (3, [.int (skW u1), .int (skP u1), .int (skF u1)]))] []) (va_Qv post (fun (u : ShC × SkC) (t : State) => va_P G.1 vwCl [(a0_0, .inr (4, [.ref a0_1, .int (shD u.1), .int (shC u.1), .int (shT u.1)])), (a0_1, .inl (G.2.1 1, shN u.1, .inl (shF u.1))), (a1_0, .inr (3, [.int (skW u.2), .int (skP u.2), .int (skF u.2)]))] t.heap) (va_A [(a0_0, .inr (4, [.ref a0_1, .int (shD u0), .int (shC u0), .int (shT u0)])), (a0_1, .inl (G.2.1 1, shN u0, .inl (shF u0))), (a1_0, .inr (3, [.int (skW u1), .int (skP u1), .int (skF u1)]))] sz)) 0 0 (va_A [(a0_0, .inr (4, [.ref a0_1, .int (shD u0), .int (shC u0), .int (shT u0)])), (a0_1, .inl (G.2.1 1, shN u0, .inl (shF u0))), (a1_0, .inr (3, [.int (skW u1), .int (skP u1), .int (skF u1)]))] sz) := by
  refine Met.ofW (cc := cc_Sh_showWaiting) (maxL := 3) (ret := none) (by decide) rfl ?_
  intro p e s m args below meth c s₁ B hml hv
  obtain ⟨rfl, hC, hsz, hP, hD0, hR, hap⟩ := hv
  have E : EN p s m ([.ref a0_0, .ref a1_0] : List Value).toArray meth c G R_Sh cc_Sh_showWaiting 3 none BG := ⟨B.exec, B.bytes, B.returns, fun w h => atoms_spec (ws := wc_Sh_showWaiting) B.pre w (List.mem_cons_of_mem _ h), findClass_of_methodNamed B.named, B.notSynchronized, hml, hC⟩
  subst hsz
  have hD := hD0.self (sz := s.heap.size)
  have hRn := mw_notA hR hap
  have hAB := mw_AB hD0 hC
  have hA : ∀ q : Nat, s.heap.size ≤ q → va_A [(a0_0, .inr (4, [.ref a0_1, .int (shD u0), .int (shC u0), .int (shT u0)])), (a0_1, .inl (G.2.1 1, shN u0, .inl (shF u0))), (a1_0, .inr (3, [.int (skW u1), .int (skP u1), .int (skF u1)]))] s.heap.size q := fun q z => Or.inr z
  generalize va_A [(a0_0, .inr (4, [.ref a0_1, .int (shD u0), .int (shC u0), .int (shT u0)])), (a0_1, .inl (G.2.1 1, shN u0, .inl (shF u0))), (a1_0, .inr (3, [.int (skW u1), .int (skP u1), .int (skF u1)]))] s.heap.size = A at hD hRn hAB hA ⊢
  have hl := lv_entry ([.ref a0_0, .ref a1_0]) (n := 3) (Nat.le_of_ble_eq_true rfl)
  rw [lg_entry_eq]
  generalize (lg_sl ([.ref a0_0, .ref a1_0]) ++ List.replicate (3 - (lg_sl ([.ref a0_0, .ref a1_0])).length) Slot.unset).toArray = ls at hl ⊢
  have hl : lv_has ls 3 [(0, .ref a0_0), (1, .ref a1_0)] := hl
  exact t_Sh_showWaiting_in E hR hA hAB hRn _ _ _ h hP hD va_S.rf hl
set_option maxHeartbeats 4000000 in
set_option maxRecDepth 100000 in
theorem t_Sh_showColon_46 {p : Program} {l : Launch} {e : Env} {s : State} {m : MethodId} {args : Array Value} {below : List Frame} {meth : Method} {c : Code} {G : GX} {a0_0 a0_1 a0_2 a0_3 a0_4 a3_0 : Nat} {u0 : SgC} {post : SkC → Prop} {A : Nat → Prop} (E : EN p s m args meth c G R_Sh cc_Sh_showColon 5 none BG) (hR : va_P G.1 vwCl [(a0_0, .inr (5, [.int (sgK u0), .ref a0_1, .ref a0_2, .ref a0_3, .ref a0_4, .int (sgO u0), .int (sgP u0)])), (a0_1, .inl (G.2.1 0, sgN u0, .inl (sgL u0))), (a0_2, .inl (G.2.1 1, sgN u0, .inl (sgR u0))), (a0_3, .inl (G.2.1 1, sgM u0, .inl (sgB u0))), (a0_4, .inl (G.2.1 1, sgM u0, .inl (sgE u0)))] s.heap) (hA : ∀ q : Nat, s.heap.size ≤ q → A q) (hAB : ∀ q : Nat, A q → G.2.2.1 ≤ q) (hRn : ∀ (j : Nat) (q : Nat × va_E), ([(a0_0, .inr (5, [.int (sgK u0), .ref a0_1, .ref a0_2, .ref a0_3, .ref a0_4, .int (sgO u0), .int (sgP u0)])), (a0_1, .inl (G.2.1 0, sgN u0, .inl (sgL u0))), (a0_2, .inl (G.2.1 1, sgN u0, .inl (sgR u0))), (a0_3, .inl (G.2.1 1, sgM u0, .inl (sgB u0))), (a0_4, .inl (G.2.1 1, sgM u0, .inl (sgE u0)))] : va_W)[j]? = some q → ¬ A q.1) : ∀ (w0 : SkC) (H : Heap) (locs : List Loc) (ls : Array Slot), w_Sh_showColon_46 post u0 w0 → va_P G.1 vwCl [(a3_0, .inr (3, [.int (skW w0), .int (skP w0), .int (skF w0)]))] H → va_D A [(a3_0, .inr (3, [.int (skW w0), .int (skP w0), .int (skF w0)]))] → va_S A s.heap H locs → lv_has ls 5 [(3, .ref a3_0)] → W p l e rm_Sh_showColon s m args below meth c H locs 0 0 (MQ below (va_Qv post (fun (u : SkC) (t : State) => va_P G.1 vwCl [(a3_0, .inr (3, [.int (skW u), .int (skP u), .int (skF u)]))] t.heap) A) args s 0 0 A) (F0 m 46 ls []) := by
  obtain ⟨hx, hb, hr, hts, hown, hlocks, hml, hC⟩ := id E
  have hK := hC.1
  intro w0  H locs ls h hP hD hS hl
  unfold w_Sh_showColon_46 at h
  refine lv_aload_n hx hb d_Sh_showColon_46 rfl (lv_at hl 0 rfl) ?_
  refine lv_bipush (v := 58) hx hb d_Sh_showColon_47 (by decide) ?_
  have hRc : va_P G.1 vwCl [] H := vaP_nil
  have hPc := hP.sub (ws' := [(a3_0, .inr (3, [.int (skW w0), .int (skP w0), .int (skF w0)]))]) [0] rfl
  have hDc := hD.sub (ws' := [(a3_0, .inr (3, [.int (skW w0), .int (skP w0), .int (skF w0)]))]) [0] (by decide) rfl
  have hFc := va_free (wc := [(a3_0, .inr (3, [.int (skW w0), .int (skP w0), .int (skF w0)]))]) hD hS hA [0] rfl
  have hQc : mw_ap [(a3_0, .inr (3, [.int (skW w0), .int (skP w0), .int (skF w0)]))] [] := mw_ap_nil
  refine va_callv (va_runV (As := [.int 58]) (rest := []) ⟨hx, hb, hml, hown, hts⟩ (c_Sk_pass l G a3_0 w0 58 H.size _ h) (cwV 1 hts (gwV b_238 b_79 b_80 b_81 b_77) rfl rfl rfl hd_Sk_pass ⟨Nat.le_of_ble_eq_true rfl, Nat.le_of_ble_eq_true rfl⟩) ⟨mW_blind, va_recv hK hPc (ci := 3) (q0 := 0) rfl rfl, fun U hU hW => ⟨rfl, hC.to hW hU hS hAB, by rw [hU], by rw [hU]; exact hPc, hDc.weaken (fun _ _ _ => hAB _), by rw [hU]; exact hRc, hQc⟩⟩ rfl rfl hl.1 rfl (lv_room (Nat.le_of_ble_eq_true rfl)) d_Sh_showColon_49 ⟨Nat.le_of_ble_eq_true rfl, Nat.le_of_ble_eq_true rfl⟩) hS (fun q _ h => hFc q h) hFc (fun v6 t H1 locs ht hvm h hB hz1 hk1 hS => ?_)
  rw [ht] at hB
  have hj9 := mw_join (wr := []) (w1 := [(a3_0, .inr (3, [.int (skW v6), .int (skP v6), .int (skF v6)]))]) hP hD [0] [] rfl rfl (by decide) (by decide) (by decide) hk1 hFc hB rfl
  have hP : va_P G.1 vwCl [(a3_0, .inr (3, [.int (skW v6), .int (skP v6), .int (skF v6)]))] H1 := hj9.1
  have hD : va_D A [(a3_0, .inr (3, [.int (skW v6), .int (skP v6), .int (skF v6)]))] := hj9.2
  generalize H1 = H at hP hS ⊢
  exact W.vret hx hb hr (fun t ht hW => ⟨⟨_, rfl, h, vaP_at ht hP⟩, hS.F ht⟩) hS.2.2 d_Sh_showColon_52
set_option maxHeartbeats 4000000 in
set_option maxRecDepth 100000 in
theorem t_Sh_showColon_in {p : Program} {l : Launch} {e : Env} {s : State} {m : MethodId} {args : Array Value} {below : List Frame} {meth : Method} {c : Code} {G : GX} {a0_0 a0_1 a0_2 a0_3 a0_4 a3_0 : Nat} {u0 : SgC} {post : SkC → Prop} {A : Nat → Prop} {u3 : SkC} {x1 : Int32} {x2 : Int32} (E : EN p s m args meth c G R_Sh cc_Sh_showColon 5 none BG) (hR : va_P G.1 vwCl [(a0_0, .inr (5, [.int (sgK u0), .ref a0_1, .ref a0_2, .ref a0_3, .ref a0_4, .int (sgO u0), .int (sgP u0)])), (a0_1, .inl (G.2.1 0, sgN u0, .inl (sgL u0))), (a0_2, .inl (G.2.1 1, sgN u0, .inl (sgR u0))), (a0_3, .inl (G.2.1 1, sgM u0, .inl (sgB u0))), (a0_4, .inl (G.2.1 1, sgM u0, .inl (sgE u0)))] s.heap) (hA : ∀ q : Nat, s.heap.size ≤ q → A q) (hAB : ∀ q : Nat, A q → G.2.2.1 ≤ q) (hRn : ∀ (j : Nat) (q : Nat × va_E), ([(a0_0, .inr (5, [.int (sgK u0), .ref a0_1, .ref a0_2, .ref a0_3, .ref a0_4, .int (sgO u0), .int (sgP u0)])), (a0_1, .inl (G.2.1 0, sgN u0, .inl (sgL u0))), (a0_2, .inl (G.2.1 1, sgN u0, .inl (sgR u0))), (a0_3, .inl (G.2.1 1, sgM u0, .inl (sgB u0))), (a0_4, .inl (G.2.1 1, sgM u0, .inl (sgE u0)))] : va_W)[j]? = some q → ¬ A q.1) : ∀ (H : Heap) (locs : List Loc) (ls : Array Slot), wp_Sh_showColon post u0 u3 x1 x2 → va_P G.1 vwCl [(a3_0, .inr (3, [.int (skW u3), .int (skP u3), .int (skF u3)]))] H → va_D A [(a3_0, .inr (3, [.int (skW u3), .int (skP u3), .int (skF u3)]))] → va_S A s.heap H locs → lv_has ls 5 [(0, .ref a0_0), (1, .int x1), (2, .int x2), (3, .ref a3_0)] → W p l e rm_Sh_showColon s m args below meth c H locs 0 0 (MQ below (va_Qv post (fun (u : SkC) (t : State) => va_P G.1 vwCl [(a3_0, .inr (3, [.int (skW u), .int (skP u), .int (skF u)]))] t.heap) A) args s 0 0 A) (F0 m 0 ls []) := by
  obtain ⟨hx, hb, hr, hts, hown, hlocks, hml, hC⟩ := id E
  have hK := hC.1
  intro H locs ls h hP hD hS hl
  unfold wp_Sh_showColon at h
  refine lv_iload_n hx hb d_Sh_showColon_0 rfl (lv_at hl 2 rfl) ?_
  refine lv_iconst (v := 4) hx hb d_Sh_showColon_1 (by decide) ?_
  refine lv_icmp_ne (tgt := 23) hx hb d_Sh_showColon_2 (by decide) (fun c9 => ?_) (fun c9 => ?_)
  · have h := h.1 c9
    refine lv_aload_n hx hb d_Sh_showColon_23 rfl (lv_at hl 0 rfl) ?_
    refine lv_iload_n hx hb d_Sh_showColon_24 rfl (lv_at hl 1 rfl) ?_
    refine lv_iconst (v := 1) hx hb d_Sh_showColon_25 (by decide) ?_
    refine lv_iadd hx hb d_Sh_showColon_26 ?_
    have hRc : va_P G.1 vwCl [(a0_0, .inr (5, [.int (sgK u0), .ref a0_1, .ref a0_2, .ref a0_3, .ref a0_4, .int (sgO u0), .int (sgP u0)])), (a0_1, .inl (G.2.1 0, sgN u0, .inl (sgL u0))), (a0_2, .inl (G.2.1 1, sgN u0, .inl (sgR u0))), (a0_3, .inl (G.2.1 1, sgM u0, .inl (sgB u0))), (a0_4, .inl (G.2.1 1, sgM u0, .inl (sgE u0)))] H := ((ro_now hR hRn hS).sub (ws' := [(a0_0, .inr (5, [.int (sgK u0), .ref a0_1, .ref a0_2, .ref a0_3, .ref a0_4, .int (sgO u0), .int (sgP u0)])), (a0_1, .inl (G.2.1 0, sgN u0, .inl (sgL u0))), (a0_2, .inl (G.2.1 1, sgN u0, .inl (sgR u0))), (a0_3, .inl (G.2.1 1, sgM u0, .inl (sgB u0))), (a0_4, .inl (G.2.1 1, sgM u0, .inl (sgE u0)))]) [0, 1, 2, 3, 4] rfl)
    refine vp_callSi (va_runV (As := [.int (x1 + 1)]) (rest := []) ⟨hx, hb, hml, hown, hts⟩ (c_Sg_roleAt l G a0_0 a0_1 a0_2 a0_3 a0_4 u0 (x1 + 1) _ h) (cwV 1 hts (gwV b_230 b_177 b_178 b_173 b_175) rfl rfl rfl hd_Sg_roleAt ⟨Nat.le_of_ble_eq_true rfl, Nat.le_of_ble_eq_true rfl⟩) ⟨mP_blind, va_recv hK hRc (ci := 5) (q0 := 0) rfl rfl, fun U hU hW => ⟨rfl, hC.to hW hU hS hAB, by rw [hU]; exact hRc⟩⟩ rfl rfl hl.1 rfl (lv_room (Nat.le_of_ble_eq_true rfl)) d_Sh_showColon_27 ⟨Nat.le_of_ble_eq_true rfl, Nat.le_of_ble_eq_true rfl⟩).run (fun r7 h => ?_)
    refine lv_istore (lv' := [(4, .int r7), (0, .ref a0_0), (1, .int x1), (2, .int x2), (3, .ref a3_0)]) hx hb d_Sh_showColon_30 hl (by decide) rfl (fun ls hl => ?_)
    refine lv_iload hx hb d_Sh_showColon_32 (lv_at hl 0 rfl) ?_
    refine lv_iconst (v := 4) hx hb d_Sh_showColon_34 (by decide) ?_
    refine lv_icmp_eq (tgt := 46) hx hb d_Sh_showColon_35 (by decide) (fun c9 => ?_) (fun c9 => ?_)
    · have h := h.1 c9
      exact t_Sh_showColon_46 E hR hA hAB hRn  _ _ _ _ h hP hD hS (lv_sub hl [4] rfl)
    · have h := h.2 c9
      refine lv_iload hx hb d_Sh_showColon_38 (lv_at hl 0 rfl) ?_
      have hRc : va_P G.1 vwCl [] H := vaP_nil
      refine vp_callSi (va_runSN (As := [.int r7]) (rest := []) ⟨hx, hb, hml, hown, hts⟩ (c_beginsReference l G r7 _ h) ⟨va_cnB 1 hts (gwC b_48) rfl rfl rfl (nm9_4 hC) (hts _ b_51) hd_Fo_beginsReference.2 ⟨Nat.le_of_ble_eq_true rfl, Nat.le_of_ble_eq_true rfl⟩, hts _ b_50, trivial⟩ ⟨mP_blind, fun U hU hW => ⟨rfl, hC.to hW hU hS hAB, by rw [hU]; exact hRc⟩⟩ rfl rfl hl.1 rfl (lv_room (Nat.le_of_ble_eq_true rfl)) d_Sh_showColon_40 ⟨Nat.le_of_ble_eq_true rfl, Nat.le_of_ble_eq_true rfl⟩).run (fun r8 h => ?_)
      refine lv_if_eq (tgt := 52) hx hb d_Sh_showColon_43 (by decide) (fun c9 => ?_) (fun c9 => ?_)
      · have h := h.1 c9
        exact W.vret hx hb hr (fun t ht hW => ⟨⟨_, rfl, h, vaP_at ht hP⟩, hS.F ht⟩) hS.2.2 d_Sh_showColon_52
      · have h := h.2 c9
        exact t_Sh_showColon_46 E hR hA hAB hRn  _ _ _ _ h hP hD hS (lv_sub hl [4] rfl)
  · have h := h.2 c9
    refine lv_aload_n hx hb d_Sh_showColon_5 rfl (lv_at hl 0 rfl) ?_
    refine lv_iload_n hx hb d_Sh_showColon_6 rfl (lv_at hl 1 rfl) ?_
    refine lv_iconst (v := 1) hx hb d_Sh_showColon_7 (by decide) ?_
    refine lv_isub hx hb d_Sh_showColon_8 ?_
    have hRc : va_P G.1 vwCl [(a0_0, .inr (5, [.int (sgK u0), .ref a0_1, .ref a0_2, .ref a0_3, .ref a0_4, .int (sgO u0), .int (sgP u0)])), (a0_1, .inl (G.2.1 0, sgN u0, .inl (sgL u0))), (a0_2, .inl (G.2.1 1, sgN u0, .inl (sgR u0))), (a0_3, .inl (G.2.1 1, sgM u0, .inl (sgB u0))), (a0_4, .inl (G.2.1 1, sgM u0, .inl (sgE u0)))] H := ((ro_now hR hRn hS).sub (ws' := [(a0_0, .inr (5, [.int (sgK u0), .ref a0_1, .ref a0_2, .ref a0_3, .ref a0_4, .int (sgO u0), .int (sgP u0)])), (a0_1, .inl (G.2.1 0, sgN u0, .inl (sgL u0))), (a0_2, .inl (G.2.1 1, sgN u0, .inl (sgR u0))), (a0_3, .inl (G.2.1 1, sgM u0, .inl (sgB u0))), (a0_4, .inl (G.2.1 1, sgM u0, .inl (sgE u0)))]) [0, 1, 2, 3, 4] rfl)
    refine vp_callSi (va_runV (As := [.int (x1 - 1)]) (rest := []) ⟨hx, hb, hml, hown, hts⟩ (c_Sg_roleAt l G a0_0 a0_1 a0_2 a0_3 a0_4 u0 (x1 - 1) _ h) (cwV 1 hts (gwV b_230 b_177 b_178 b_173 b_175) rfl rfl rfl hd_Sg_roleAt ⟨Nat.le_of_ble_eq_true rfl, Nat.le_of_ble_eq_true rfl⟩) ⟨mP_blind, va_recv hK hRc (ci := 5) (q0 := 0) rfl rfl, fun U hU hW => ⟨rfl, hC.to hW hU hS hAB, by rw [hU]; exact hRc⟩⟩ rfl rfl hl.1 rfl (lv_room (Nat.le_of_ble_eq_true rfl)) d_Sh_showColon_9 ⟨Nat.le_of_ble_eq_true rfl, Nat.le_of_ble_eq_true rfl⟩).run (fun r9 h => ?_)
    refine lv_iconst (v := 3) hx hb d_Sh_showColon_12 (by decide) ?_
    refine lv_icmp_eq (tgt := 22) hx hb d_Sh_showColon_13 (by decide) (fun c9 => ?_) (fun c9 => ?_)
    · have h := h.1 c9
      exact W.vret hx hb hr (fun t ht hW => ⟨⟨_, rfl, h, vaP_at ht hP⟩, hS.F ht⟩) hS.2.2 d_Sh_showColon_22
    · have h := h.2 c9
      refine lv_aload_n hx hb d_Sh_showColon_16 rfl (lv_at hl 3 rfl) ?_
      refine lv_bipush (v := 38) hx hb d_Sh_showColon_17 (by decide) ?_
      have hRc : va_P G.1 vwCl [] H := vaP_nil
      have hPc := hP.sub (ws' := [(a3_0, .inr (3, [.int (skW u3), .int (skP u3), .int (skF u3)]))]) [0] rfl
      have hDc := hD.sub (ws' := [(a3_0, .inr (3, [.int (skW u3), .int (skP u3), .int (skF u3)]))]) [0] (by decide) rfl
      have hFc := va_free (wc := [(a3_0, .inr (3, [.int (skW u3), .int (skP u3), .int (skF u3)]))]) hD hS hA [0] rfl
      have hQc : mw_ap [(a3_0, .inr (3, [.int (skW u3), .int (skP u3), .int (skF u3)]))] [] := mw_ap_nil
      refine va_callv (va_runV (As := [.int 38]) (rest := []) ⟨hx, hb, hml, hown, hts⟩ (c_Sk_pass l G a3_0 u3 38 H.size _ h) (cwV 1 hts (gwV b_238 b_79 b_80 b_81 b_77) rfl rfl rfl hd_Sk_pass ⟨Nat.le_of_ble_eq_true rfl, Nat.le_of_ble_eq_true rfl⟩) ⟨mW_blind, va_recv hK hPc (ci := 3) (q0 := 0) rfl rfl, fun U hU hW => ⟨rfl, hC.to hW hU hS hAB, by rw [hU], by rw [hU]; exact hPc, hDc.weaken (fun _ _ _ => hAB _), by rw [hU]; exact hRc, hQc⟩⟩ rfl rfl hl.1 rfl (lv_room (Nat.le_of_ble_eq_true rfl)) d_Sh_showColon_19 ⟨Nat.le_of_ble_eq_true rfl, Nat.le_of_ble_eq_true rfl⟩) hS (fun q _ h => hFc q h) hFc (fun v10 t H1 locs ht hvm h hB hz1 hk1 hS => ?_)
      rw [ht] at hB
      have hj9 := mw_join (wr := []) (w1 := [(a3_0, .inr (3, [.int (skW v10), .int (skP v10), .int (skF v10)]))]) hP hD [0] [] rfl rfl (by decide) (by decide) (by decide) hk1 hFc hB rfl
      have hP : va_P G.1 vwCl [(a3_0, .inr (3, [.int (skW v10), .int (skP v10), .int (skF v10)]))] H1 := hj9.1
      have hD : va_D A [(a3_0, .inr (3, [.int (skW v10), .int (skP v10), .int (skF v10)]))] := hj9.2
      generalize H1 = H at hP hS ⊢
      exact W.vret hx hb hr (fun t ht hW => ⟨⟨_, rfl, h, vaP_at ht hP⟩, hS.F ht⟩) hS.2.2 d_Sh_showColon_22
set_option maxHeartbeats 4000000 in
set_option maxRecDepth 100000 in
theorem c_Sh_showColon (l : Launch) (G : GX) (a0_0 a0_1 a0_2 a0_3 a0_4 a3_0 : Nat) (u0 : SgC) (u3 : SkC) (x1 : Int32) (x2 : Int32) (sz : Nat) (post : SkC → Prop) (h : wp_Sh_showColon post u0 u3 x1 x2) : Met l y_Sh_showColon wc_Sh_showColon rm_Sh_showColon (mW G [.ref a0_0, .int x1, .int x2, .ref a3_0] sz [(a3_0, .inr (3, [.int (skW u3), .int (skP u3), .int (skF u3)]))] [(a0_0, .inr (5, [.int (sgK u0), .ref a0_1, .ref a0_2, .ref a0_3, .ref a0_4, .int (sgO u0), .int (sgP u0)])), (a0_1, .inl (G.2.1 0, sgN u0, .inl (sgL u0))), (a0_2, .inl (G.2.1 1, sgN u0, .inl (sgR u0))), (a0_3, .inl (G.2.1 1, sgM u0, .inl (sgB u0))), (a0_4, .inl (G.2.1 1, sgM u0, .inl (sgE u0)))]) (va_Qv post (fun (u : SkC) (t : State) => va_P G.1 vwCl [(a3_0, .inr (3, [.int (skW u), .int (skP u), .int (skF u)]))] t.heap) (va_A [(a3_0, .inr (3, [.int (skW u3), .int (skP u3), .int (skF u3)]))] sz)) 0 0 (va_A [(a3_0, .inr (3, [.int (skW u3), .int (skP u3), .int (skF u3)]))] sz) := by
  refine Met.ofW (cc := cc_Sh_showColon) (maxL := 5) (ret := none) (by decide) rfl ?_
  intro p e s m args below meth c s₁ B hml hv
  obtain ⟨rfl, hC, hsz, hP, hD0, hR, hap⟩ := hv
  have E : EN p s m ([.ref a0_0, .int x1, .int x2, .ref a3_0] : List Value).toArray meth c G R_Sh cc_Sh_showColon 5 none BG := ⟨B.exec, B.bytes, B.returns, fun w h => atoms_spec (ws := wc_Sh_showColon) B.pre w (List.mem_cons_of_mem _ h), findClass_of_methodNamed B.named, B.notSynchronized, hml, hC⟩
  subst hsz
  have hD := hD0.self (sz := s.heap.size)
  have hRn := mw_notA hR hap
  have hAB := mw_AB hD0 hC
  have hA : ∀ q : Nat, s.heap.size ≤ q → va_A [(a3_0, .inr (3, [.int (skW u3), .int (skP u3), .int (skF u3)]))] s.heap.size q := fun q z => Or.inr z
  generalize va_A [(a3_0, .inr (3, [.int (skW u3), .int (skP u3), .int (skF u3)]))] s.heap.size = A at hD hRn hAB hA ⊢
  have hl := lv_entry ([.ref a0_0, .int x1, .int x2, .ref a3_0]) (n := 5) (Nat.le_of_ble_eq_true rfl)
  rw [lg_entry_eq]
  generalize (lg_sl ([.ref a0_0, .int x1, .int x2, .ref a3_0]) ++ List.replicate (5 - (lg_sl ([.ref a0_0, .int x1, .int x2, .ref a3_0])).length) Slot.unset).toArray = ls at hl ⊢
  have hl : lv_has ls 5 [(0, .ref a0_0), (1, .int x1), (2, .int x2), (3, .ref a3_0)] := hl
  exact t_Sh_showColon_in E hR hA hAB hRn _ _ _ h hP hD va_S.rf hl
set_option maxHeartbeats 4000000 in
set_option maxRecDepth 100000 in
theorem t_Sh_showLetter_196 {p : Program} {l : Launch} {e : Env} {s : State} {m : MethodId} {args : Array Value} {below : List Frame} {meth : Method} {c : Code} {G : GX} {a0_0 a0_1 a1_0 a1_1 a1_2 a1_3 a1_4 a4_0 : Nat} {u1 : SgC} {post : (ShC × SkC) → Prop} {A : Nat → Prop} (E : EN p s m args meth c G R_Sh cc_Sh_showLetter 6 none BG) (hR : va_P G.1 vwCl [(a1_0, .inr (5, [.int (sgK u1), .ref a1_1, .ref a1_2, .ref a1_3, .ref a1_4, .int (sgO u1), .int (sgP u1)])), (a1_1, .inl (G.2.1 0, sgN u1, .inl (sgL u1))), (a1_2, .inl (G.2.1 1, sgN u1, .inl (sgR u1))), (a1_3, .inl (G.2.1 1, sgM u1, .inl (sgB u1))), (a1_4, .inl (G.2.1 1, sgM u1, .inl (sgE u1)))] s.heap) (hA : ∀ q : Nat, s.heap.size ≤ q → A q) (hAB : ∀ q : Nat, A q → G.2.2.1 ≤ q) (hRn : ∀ (j : Nat) (q : Nat × va_E), ([(a1_0, .inr (5, [.int (sgK u1), .ref a1_1, .ref a1_2, .ref a1_3, .ref a1_4, .int (sgO u1), .int (sgP u1)])), (a1_1, .inl (G.2.1 0, sgN u1, .inl (sgL u1))), (a1_2, .inl (G.2.1 1, sgN u1, .inl (sgR u1))), (a1_3, .inl (G.2.1 1, sgM u1, .inl (sgB u1))), (a1_4, .inl (G.2.1 1, sgM u1, .inl (sgE u1)))] : va_W)[j]? = some q → ¬ A q.1) : ∀ (y2 : Int32) (y3 : Int32) (w0 : ShC) (w1 : SkC) (H : Heap) (locs : List Loc) (ls : Array Slot), w_Sh_showLetter_196 post u1 y2 y3 w0 w1 → va_P G.1 vwCl [(a0_0, .inr (4, [.ref a0_1, .int (shD w0), .int (shC w0), .int (shT w0)])), (a0_1, .inl (G.2.1 1, shN w0, .inl (shF w0))), (a4_0, .inr (3, [.int (skW w1), .int (skP w1), .int (skF w1)]))] H → va_D A [(a0_0, .inr (4, [.ref a0_1, .int (shD w0), .int (shC w0), .int (shT w0)])), (a0_1, .inl (G.2.1 1, shN w0, .inl (shF w0))), (a4_0, .inr (3, [.int (skW w1), .int (skP w1), .int (skF w1)]))] → va_S A s.heap H locs → lv_has ls 6 [(1, .ref a1_0), (2, .int y2), (3, .int y3), (4, .ref a4_0)] → W p l e rm_Sh_showLetter s m args below meth c H locs 0 0 (MQ below (va_Qv post (fun (u : ShC × SkC) (t : State) => va_P G.1 vwCl [(a0_0, .inr (4, [.ref a0_1, .int (shD u.1), .int (shC u.1), .int (shT u.1)])), (a0_1, .inl (G.2.1 1, shN u.1, .inl (shF u.1))), (a4_0, .inr (3, [.int (skW u.2), .int (skP u.2), .int (skF u.2)]))] t.heap) A) args s 0 0 A) (F0 m 196 ls []) := by
  obtain ⟨hx, hb, hr, hts, hown, hlocks, hml, hC⟩ := id E
  have hK := hC.1
  intro y2 y3 w0 w1  H locs ls h hP hD hS hl
  unfold w_Sh_showLetter_196 at h
  refine lv_aload_n hx hb d_Sh_showLetter_196 rfl (lv_at hl 0 rfl) ?_
  refine lv_iload_n hx hb d_Sh_showLetter_197 rfl (lv_at hl 1 rfl) ?_
  refine lv_iload_n hx hb d_Sh_showLetter_198 rfl (lv_at hl 2 rfl) ?_
  refine lv_aload hx hb d_Sh_showLetter_199 (lv_at hl 3 rfl) ?_
  have hRc : va_P G.1 vwCl [(a1_0, .inr (5, [.int (sgK u1), .ref a1_1, .ref a1_2, .ref a1_3, .ref a1_4, .int (sgO u1), .int (sgP u1)])), (a1_1, .inl (G.2.1 0, sgN u1, .inl (sgL u1))), (a1_2, .inl (G.2.1 1, sgN u1, .inl (sgR u1))), (a1_3, .inl (G.2.1 1, sgM u1, .inl (sgB u1))), (a1_4, .inl (G.2.1 1, sgM u1, .inl (sgE u1)))] H := ((ro_now hR hRn hS).sub (ws' := [(a1_0, .inr (5, [.int (sgK u1), .ref a1_1, .ref a1_2, .ref a1_3, .ref a1_4, .int (sgO u1), .int (sgP u1)])), (a1_1, .inl (G.2.1 0, sgN u1, .inl (sgL u1))), (a1_2, .inl (G.2.1 1, sgN u1, .inl (sgR u1))), (a1_3, .inl (G.2.1 1, sgM u1, .inl (sgB u1))), (a1_4, .inl (G.2.1 1, sgM u1, .inl (sgE u1)))]) [0, 1, 2, 3, 4] rfl)
  have hPc := hP.sub (ws' := [(a4_0, .inr (3, [.int (skW w1), .int (skP w1), .int (skF w1)]))]) [2] rfl
  have hDc := hD.sub (ws' := [(a4_0, .inr (3, [.int (skW w1), .int (skP w1), .int (skF w1)]))]) [2] (by decide) rfl
  have hFc := va_free (wc := [(a4_0, .inr (3, [.int (skW w1), .int (skP w1), .int (skF w1)]))]) hD hS hA [2] rfl
  have hQc : mw_ap [(a4_0, .inr (3, [.int (skW w1), .int (skP w1), .int (skF w1)]))] [(a1_0, .inr (5, [.int (sgK u1), .ref a1_1, .ref a1_2, .ref a1_3, .ref a1_4, .int (sgO u1), .int (sgP u1)])), (a1_1, .inl (G.2.1 0, sgN u1, .inl (sgL u1))), (a1_2, .inl (G.2.1 1, sgN u1, .inl (sgR u1))), (a1_3, .inl (G.2.1 1, sgM u1, .inl (sgB u1))), (a1_4, .inl (G.2.1 1, sgM u1, .inl (sgE u1)))] := (mw_ap_R (wc := [(a4_0, .inr (3, [.int (skW w1), .int (skP w1), .int (skF w1)]))]) (wr := [(a1_0, .inr (5, [.int (sgK u1), .ref a1_1, .ref a1_2, .ref a1_3, .ref a1_4, .int (sgO u1), .int (sgP u1)])), (a1_1, .inl (G.2.1 0, sgN u1, .inl (sgL u1))), (a1_2, .inl (G.2.1 1, sgN u1, .inl (sgR u1))), (a1_3, .inl (G.2.1 1, sgM u1, .inl (sgB u1))), (a1_4, .inl (G.2.1 1, sgM u1, .inl (sgE u1)))]) hFc hRn [0, 1, 2, 3, 4] rfl)
  refine va_callv (va_runS (As := [.ref a1_0, .int y2, .int y3, .ref a4_0]) (rest := []) ⟨hx, hb, hml, hown, hts⟩ (c_Sh_showColon l G a1_0 a1_1 a1_2 a1_3 a1_4 a4_0 u1 w1 y2 y3 H.size _ h) (va_cwS 4 hts (gwS b_247 b_248 b_237 b_246) rfl rfl rfl hd_Sh_showColon.2 ⟨Nat.le_of_ble_eq_true rfl, Nat.le_of_ble_eq_true rfl⟩) ⟨mW_blind, fun U hU hW => ⟨rfl, hC.to hW hU hS hAB, by rw [hU], by rw [hU]; exact hPc, hDc.weaken (fun _ _ _ => hAB _), by rw [hU]; exact hRc, hQc⟩⟩ rfl rfl hl.1 rfl (lv_room (Nat.le_of_ble_eq_true rfl)) d_Sh_showLetter_201 ⟨Nat.le_of_ble_eq_true rfl, Nat.le_of_ble_eq_true rfl⟩) hS (fun q _ h => hFc q h) hFc (fun v17 t H1 locs ht hvm h hB hz1 hk1 hS => ?_)
  rw [ht] at hB
  have hj9 := mw_join (wr := [(a0_0, .inr (4, [.ref a0_1, .int (shD w0), .int (shC w0), .int (shT w0)])), (a0_1, .inl (G.2.1 1, shN w0, .inl (shF w0)))]) (w1 := [(a4_0, .inr (3, [.int (skW v17), .int (skP v17), .int (skF v17)]))]) hP hD [2] [0, 1] rfl rfl (by decide) (by decide) (by decide) hk1 hFc hB rfl
  have hP : va_P G.1 vwCl [(a0_0, .inr (4, [.ref a0_1, .int (shD w0), .int (shC w0), .int (shT w0)])), (a0_1, .inl (G.2.1 1, shN w0, .inl (shF w0))), (a4_0, .inr (3, [.int (skW v17), .int (skP v17), .int (skF v17)]))] H1 := hj9.1
  have hD : va_D A [(a0_0, .inr (4, [.ref a0_1, .int (shD w0), .int (shC w0), .int (shT w0)])), (a0_1, .inl (G.2.1 1, shN w0, .inl (shF w0))), (a4_0, .inr (3, [.int (skW v17), .int (skP v17), .int (skF v17)]))] := hj9.2
  generalize H1 = H at hP hS ⊢
  refine lv_goto (tgt := 246) hx hb d_Sh_showLetter_204 (by decide) ?_
  exact W.vret hx hb hr (fun t ht hW => ⟨⟨_, rfl, h, vaP_at ht hP⟩, hS.F ht⟩) hS.2.2 d_Sh_showLetter_246
set_option maxHeartbeats 4000000 in
set_option maxRecDepth 100000 in
theorem t_Sh_showLetter_112 {p : Program} {l : Launch} {e : Env} {s : State} {m : MethodId} {args : Array Value} {below : List Frame} {meth : Method} {c : Code} {G : GX} {a0_0 a0_1 a1_0 a1_1 a1_2 a1_3 a1_4 a4_0 : Nat} {u1 : SgC} {post : (ShC × SkC) → Prop} {A : Nat → Prop} (E : EN p s m args meth c G R_Sh cc_Sh_showLetter 6 none BG) (hR : va_P G.1 vwCl [(a1_0, .inr (5, [.int (sgK u1), .ref a1_1, .ref a1_2, .ref a1_3, .ref a1_4, .int (sgO u1), .int (sgP u1)])), (a1_1, .inl (G.2.1 0, sgN u1, .inl (sgL u1))), (a1_2, .inl (G.2.1 1, sgN u1, .inl (sgR u1))), (a1_3, .inl (G.2.1 1, sgM u1, .inl (sgB u1))), (a1_4, .inl (G.2.1 1, sgM u1, .inl (sgE u1)))] s.heap) (hA : ∀ q : Nat, s.heap.size ≤ q → A q) (hAB : ∀ q : Nat, A q → G.2.2.1 ≤ q) (hRn : ∀ (j : Nat) (q : Nat × va_E), ([(a1_0, .inr (5, [.int (sgK u1), .ref a1_1, .ref a1_2, .ref a1_3, .ref a1_4, .int (sgO u1), .int (sgP u1)])), (a1_1, .inl (G.2.1 0, sgN u1, .inl (sgL u1))), (a1_2, .inl (G.2.1 1, sgN u1, .inl (sgR u1))), (a1_3, .inl (G.2.1 1, sgM u1, .inl (sgB u1))), (a1_4, .inl (G.2.1 1, sgM u1, .inl (sgE u1)))] : va_W)[j]? = some q → ¬ A q.1) : ∀ (w0 : ShC) (w1 : SkC) (H : Heap) (locs : List Loc) (ls : Array Slot), w_Sh_showLetter_112 post u1 w0 w1 → va_P G.1 vwCl [(a0_0, .inr (4, [.ref a0_1, .int (shD w0), .int (shC w0), .int (shT w0)])), (a0_1, .inl (G.2.1 1, shN w0, .inl (shF w0))), (a4_0, .inr (3, [.int (skW w1), .int (skP w1), .int (skF w1)]))] H → va_D A [(a0_0, .inr (4, [.ref a0_1, .int (shD w0), .int (shC w0), .int (shT w0)])), (a0_1, .inl (G.2.1 1, shN w0, .inl (shF w0))), (a4_0, .inr (3, [.int (skW w1), .int (skP w1), .int (skF w1)]))] → va_S A s.heap H locs → lv_has ls 6 [] → W p l e rm_Sh_showLetter s m args below meth c H locs 0 0 (MQ below (va_Qv post (fun (u : ShC × SkC) (t : State) => va_P G.1 vwCl [(a0_0, .inr (4, [.ref a0_1, .int (shD u.1), .int (shC u.1), .int (shT u.1)])), (a0_1, .inl (G.2.1 1, shN u.1, .inl (shF u.1))), (a4_0, .inr (3, [.int (skW u.2), .int (skP u.2), .int (skF u.2)]))] t.heap) A) args s 0 0 A) (F0 m 112 ls []) := by
  obtain ⟨hx, hb, hr, hts, hown, hlocks, hml, hC⟩ := id E
  have hK := hC.1
  intro w0 w1  H locs ls h hP hD hS hl
  unfold w_Sh_showLetter_112 at h
  refine lv_goto (tgt := 246) hx hb d_Sh_showLetter_112 (by decide) ?_
  exact W.vret hx hb hr (fun t ht hW => ⟨⟨_, rfl, h, vaP_at ht hP⟩, hS.F ht⟩) hS.2.2 d_Sh_showLetter_246
set_option maxHeartbeats 4000000 in
set_option maxRecDepth 100000 in
theorem t_Sh_showLetter_115 {p : Program} {l : Launch} {e : Env} {s : State} {m : MethodId} {args : Array Value} {below : List Frame} {meth : Method} {c : Code} {G : GX} {a0_0 a0_1 a1_0 a1_1 a1_2 a1_3 a1_4 a4_0 : Nat} {u1 : SgC} {post : (ShC × SkC) → Prop} {A : Nat → Prop} (E : EN p s m args meth c G R_Sh cc_Sh_showLetter 6 none BG) (hR : va_P G.1 vwCl [(a1_0, .inr (5, [.int (sgK u1), .ref a1_1, .ref a1_2, .ref a1_3, .ref a1_4, .int (sgO u1), .int (sgP u1)])), (a1_1, .inl (G.2.1 0, sgN u1, .inl (sgL u1))), (a1_2, .inl (G.2.1 1, sgN u1, .inl (sgR u1))), (a1_3, .inl (G.2.1 1, sgM u1, .inl (sgB u1))), (a1_4, .inl (G.2.1 1, sgM u1, .inl (sgE u1)))] s.heap) (hA : ∀ q : Nat, s.heap.size ≤ q → A q) (hAB : ∀ q : Nat, A q → G.2.2.1 ≤ q) (hRn : ∀ (j : Nat) (q : Nat × va_E), ([(a1_0, .inr (5, [.int (sgK u1), .ref a1_1, .ref a1_2, .ref a1_3, .ref a1_4, .int (sgO u1), .int (sgP u1)])), (a1_1, .inl (G.2.1 0, sgN u1, .inl (sgL u1))), (a1_2, .inl (G.2.1 1, sgN u1, .inl (sgR u1))), (a1_3, .inl (G.2.1 1, sgM u1, .inl (sgB u1))), (a1_4, .inl (G.2.1 1, sgM u1, .inl (sgE u1)))] : va_W)[j]? = some q → ¬ A q.1) : ∀ (w0 : ShC) (w1 : SkC) (H : Heap) (locs : List Loc) (ls : Array Slot), w_Sh_showLetter_115 post u1 w0 w1 → va_P G.1 vwCl [(a0_0, .inr (4, [.ref a0_1, .int (shD w0), .int (shC w0), .int (shT w0)])), (a0_1, .inl (G.2.1 1, shN w0, .inl (shF w0))), (a4_0, .inr (3, [.int (skW w1), .int (skP w1), .int (skF w1)]))] H → va_D A [(a0_0, .inr (4, [.ref a0_1, .int (shD w0), .int (shC w0), .int (shT w0)])), (a0_1, .inl (G.2.1 1, shN w0, .inl (shF w0))), (a4_0, .inr (3, [.int (skW w1), .int (skP w1), .int (skF w1)]))] → va_S A s.heap H locs → lv_has ls 6 [(0, .ref a0_0), (4, .ref a4_0)] → W p l e rm_Sh_showLetter s m args below meth c H locs 0 0 (MQ below (va_Qv post (fun (u : ShC × SkC) (t : State) => va_P G.1 vwCl [(a0_0, .inr (4, [.ref a0_1, .int (shD u.1), .int (shC u.1), .int (shT u.1)])), (a0_1, .inl (G.2.1 1, shN u.1, .inl (shF u.1))), (a4_0, .inr (3, [.int (skW u.2), .int (skP u.2), .int (skF u.2)]))] t.heap) A) args s 0 0 A) (F0 m 115 ls []) := by
  obtain ⟨hx, hb, hr, hts, hown, hlocks, hml, hC⟩ := id E
  have hK := hC.1
  intro w0 w1  H locs ls h hP hD hS hl
  unfold w_Sh_showLetter_115 at h
  refine lv_aload_n hx hb d_Sh_showLetter_115 rfl (lv_at hl 0 rfl) ?_
  refine lv_aload hx hb d_Sh_showLetter_116 (lv_at hl 1 rfl) ?_
  have hRc : va_P G.1 vwCl [] H := vaP_nil
  have hPc := hP.sub (ws' := [(a0_0, .inr (4, [.ref a0_1, .int (shD w0), .int (shC w0), .int (shT w0)])), (a0_1, .inl (G.2.1 1, shN w0, .inl (shF w0))), (a4_0, .inr (3, [.int (skW w1), .int (skP w1), .int (skF w1)]))]) [0, 1, 2] rfl
  have hDc := hD.sub (ws' := [(a0_0, .inr (4, [.ref a0_1, .int (shD w0), .int (shC w0), .int (shT w0)])), (a0_1, .inl (G.2.1 1, shN w0, .inl (shF w0))), (a4_0, .inr (3, [.int (skW w1), .int (skP w1), .int (skF w1)]))]) [0, 1, 2] (by decide) rfl
  have hFc := va_free (wc := [(a0_0, .inr (4, [.ref a0_1, .int (shD w0), .int (shC w0), .int (shT w0)])), (a0_1, .inl (G.2.1 1, shN w0, .inl (shF w0))), (a4_0, .inr (3, [.int (skW w1), .int (skP w1), .int (skF w1)]))]) hD hS hA [0, 1, 2] rfl
  have hQc : mw_ap [(a0_0, .inr (4, [.ref a0_1, .int (shD w0), .int (shC w0), .int (shT w0)])), (a0_1, .inl (G.2.1 1, shN w0, .inl (shF w0))), (a4_0, .inr (3, [.int (skW w1), .int (skP w1), .int (skF w1)]))] [] := mw_ap_nil
  refine va_callv (va_runV (As := [.ref a4_0]) (rest := []) ⟨hx, hb, hml, hown, hts⟩ (c_Sh_showWaiting l G a0_0 a0_1 a4_0 w0 w1 H.size _ h) (cwV 1 hts (gwV b_250 b_251 b_252 b_237 b_249) rfl rfl rfl hd_Sh_showWaiting ⟨Nat.le_of_ble_eq_true rfl, Nat.le_of_ble_eq_true rfl⟩) ⟨mW_blind, va_recv hK hPc (ci := 4) (q0 := 0) rfl rfl, fun U hU hW => ⟨rfl, hC.to hW hU hS hAB, by rw [hU], by rw [hU]; exact hPc, hDc.weaken (fun _ _ _ => hAB _), by rw [hU]; exact hRc, hQc⟩⟩ rfl rfl hl.1 rfl (lv_room (Nat.le_of_ble_eq_true rfl)) d_Sh_showLetter_118 ⟨Nat.le_of_ble_eq_true rfl, Nat.le_of_ble_eq_true rfl⟩) hS (fun q _ h => hFc q h) hFc (fun v18 t H1 locs ht hvm h hB hz1 hk1 hS => ?_)
  rw [ht] at hB
  have hj9 := mw_join (wr := []) (w1 := [(a0_0, .inr (4, [.ref a0_1, .int (shD v18.1), .int (shC v18.1), .int (shT v18.1)])), (a0_1, .inl (G.2.1 1, shN v18.1, .inl (shF v18.1))), (a4_0, .inr (3, [.int (skW v18.2), .int (skP v18.2), .int (skF v18.2)]))]) hP hD [0, 1, 2] [] rfl rfl (by decide) (by decide) (by decide) hk1 hFc hB rfl
  have hP : va_P G.1 vwCl [(a0_0, .inr (4, [.ref a0_1, .int (shD v18.1), .int (shC v18.1), .int (shT v18.1)])), (a0_1, .inl (G.2.1 1, shN v18.1, .inl (shF v18.1))), (a4_0, .inr (3, [.int (skW v18.2), .int (skP v18.2), .int (skF v18.2)]))] H1 := hj9.1
  have hD : va_D A [(a0_0, .inr (4, [.ref a0_1, .int (shD v18.1), .int (shC v18.1), .int (shT v18.1)])), (a0_1, .inl (G.2.1 1, shN v18.1, .inl (shF v18.1))), (a4_0, .inr (3, [.int (skW v18.2), .int (skP v18.2), .int (skF v18.2)]))] := hj9.2
  generalize H1 = H at hP hS ⊢
  refine lv_goto (tgt := 246) hx hb d_Sh_showLetter_121 (by decide) ?_
  exact W.vret hx hb hr (fun t ht hW => ⟨⟨_, rfl, h, vaP_at ht hP⟩, hS.F ht⟩) hS.2.2 d_Sh_showLetter_246
set_option maxHeartbeats 4000000 in
set_option maxRecDepth 100000 in
theorem t_Sh_showLetter_159 {p : Program} {l : Launch} {e : Env} {s : State} {m : MethodId} {args : Array Value} {below : List Frame} {meth : Method} {c : Code} {G : GX} {a0_0 a0_1 a1_0 a1_1 a1_2 a1_3 a1_4 a4_0 : Nat} {u1 : SgC} {post : (ShC × SkC) → Prop} {A : Nat → Prop} (E : EN p s m args meth c G R_Sh cc_Sh_showLetter 6 none BG) (hR : va_P G.1 vwCl [(a1_0, .inr (5, [.int (sgK u1), .ref a1_1, .ref a1_2, .ref a1_3, .ref a1_4, .int (sgO u1), .int (sgP u1)])), (a1_1, .inl (G.2.1 0, sgN u1, .inl (sgL u1))), (a1_2, .inl (G.2.1 1, sgN u1, .inl (sgR u1))), (a1_3, .inl (G.2.1 1, sgM u1, .inl (sgB u1))), (a1_4, .inl (G.2.1 1, sgM u1, .inl (sgE u1)))] s.heap) (hA : ∀ q : Nat, s.heap.size ≤ q → A q) (hAB : ∀ q : Nat, A q → G.2.2.1 ≤ q) (hRn : ∀ (j : Nat) (q : Nat × va_E), ([(a1_0, .inr (5, [.int (sgK u1), .ref a1_1, .ref a1_2, .ref a1_3, .ref a1_4, .int (sgO u1), .int (sgP u1)])), (a1_1, .inl (G.2.1 0, sgN u1, .inl (sgL u1))), (a1_2, .inl (G.2.1 1, sgN u1, .inl (sgR u1))), (a1_3, .inl (G.2.1 1, sgM u1, .inl (sgB u1))), (a1_4, .inl (G.2.1 1, sgM u1, .inl (sgE u1)))] : va_W)[j]? = some q → ¬ A q.1) : ∀ (w0 : ShC) (w1 : SkC) (H : Heap) (locs : List Loc) (ls : Array Slot), w_Sh_showLetter_159 post u1 w0 w1 → va_P G.1 vwCl [(a0_0, .inr (4, [.ref a0_1, .int (shD w0), .int (shC w0), .int (shT w0)])), (a0_1, .inl (G.2.1 1, shN w0, .inl (shF w0))), (a4_0, .inr (3, [.int (skW w1), .int (skP w1), .int (skF w1)]))] H → va_D A [(a0_0, .inr (4, [.ref a0_1, .int (shD w0), .int (shC w0), .int (shT w0)])), (a0_1, .inl (G.2.1 1, shN w0, .inl (shF w0))), (a4_0, .inr (3, [.int (skW w1), .int (skP w1), .int (skF w1)]))] → va_S A s.heap H locs → lv_has ls 6 [(4, .ref a4_0)] → W p l e rm_Sh_showLetter s m args below meth c H locs 0 0 (MQ below (va_Qv post (fun (u : ShC × SkC) (t : State) => va_P G.1 vwCl [(a0_0, .inr (4, [.ref a0_1, .int (shD u.1), .int (shC u.1), .int (shT u.1)])), (a0_1, .inl (G.2.1 1, shN u.1, .inl (shF u.1))), (a4_0, .inr (3, [.int (skW u.2), .int (skP u.2), .int (skF u.2)]))] t.heap) A) args s 0 0 A) (F0 m 159 ls []) := by
  obtain ⟨hx, hb, hr, hts, hown, hlocks, hml, hC⟩ := id E
  have hK := hC.1
  intro w0 w1  H locs ls h hP hD hS hl
  unfold w_Sh_showLetter_159 at h
  refine lv_aload hx hb d_Sh_showLetter_159 (lv_at hl 0 rfl) ?_
  refine lv_bipush (v := 46) hx hb d_Sh_showLetter_161 (by decide) ?_
  have hRc : va_P G.1 vwCl [] H := vaP_nil
  have hPc := hP.sub (ws' := [(a4_0, .inr (3, [.int (skW w1), .int (skP w1), .int (skF w1)]))]) [2] rfl
  have hDc := hD.sub (ws' := [(a4_0, .inr (3, [.int (skW w1), .int (skP w1), .int (skF w1)]))]) [2] (by decide) rfl
  have hFc := va_free (wc := [(a4_0, .inr (3, [.int (skW w1), .int (skP w1), .int (skF w1)]))]) hD hS hA [2] rfl
  have hQc : mw_ap [(a4_0, .inr (3, [.int (skW w1), .int (skP w1), .int (skF w1)]))] [] := mw_ap_nil
  refine va_callv (va_runV (As := [.int 46]) (rest := []) ⟨hx, hb, hml, hown, hts⟩ (c_Sk_pass l G a4_0 w1 46 H.size _ h) (cwV 1 hts (gwV b_238 b_79 b_80 b_81 b_77) rfl rfl rfl hd_Sk_pass ⟨Nat.le_of_ble_eq_true rfl, Nat.le_of_ble_eq_true rfl⟩) ⟨mW_blind, va_recv hK hPc (ci := 3) (q0 := 0) rfl rfl, fun U hU hW => ⟨rfl, hC.to hW hU hS hAB, by rw [hU], by rw [hU]; exact hPc, hDc.weaken (fun _ _ _ => hAB _), by rw [hU]; exact hRc, hQc⟩⟩ rfl rfl hl.1 rfl (lv_room (Nat.le_of_ble_eq_true rfl)) d_Sh_showLetter_163 ⟨Nat.le_of_ble_eq_true rfl, Nat.le_of_ble_eq_true rfl⟩) hS (fun q _ h => hFc q h) hFc (fun v19 t H1 locs ht hvm h hB hz1 hk1 hS => ?_)
  rw [ht] at hB
  have hj9 := mw_join (wr := [(a0_0, .inr (4, [.ref a0_1, .int (shD w0), .int (shC w0), .int (shT w0)])), (a0_1, .inl (G.2.1 1, shN w0, .inl (shF w0)))]) (w1 := [(a4_0, .inr (3, [.int (skW v19), .int (skP v19), .int (skF v19)]))]) hP hD [2] [0, 1] rfl rfl (by decide) (by decide) (by decide) hk1 hFc hB rfl
  have hP : va_P G.1 vwCl [(a0_0, .inr (4, [.ref a0_1, .int (shD w0), .int (shC w0), .int (shT w0)])), (a0_1, .inl (G.2.1 1, shN w0, .inl (shF w0))), (a4_0, .inr (3, [.int (skW v19), .int (skP v19), .int (skF v19)]))] H1 := hj9.1
  have hD : va_D A [(a0_0, .inr (4, [.ref a0_1, .int (shD w0), .int (shC w0), .int (shT w0)])), (a0_1, .inl (G.2.1 1, shN w0, .inl (shF w0))), (a4_0, .inr (3, [.int (skW v19), .int (skP v19), .int (skF v19)]))] := hj9.2
  generalize H1 = H at hP hS ⊢
  refine lv_goto (tgt := 246) hx hb d_Sh_showLetter_166 (by decide) ?_
  exact W.vret hx hb hr (fun t ht hW => ⟨⟨_, rfl, h, vaP_at ht hP⟩, hS.F ht⟩) hS.2.2 d_Sh_showLetter_246
set_option maxHeartbeats 4000000 in
set_option maxRecDepth 100000 in
theorem t_Sh_showLetter_124 {p : Program} {l : Launch} {e : Env} {s : State} {m : MethodId} {args : Array Value} {below : List Frame} {meth : Method} {c : Code} {G : GX} {a0_0 a0_1 a1_0 a1_1 a1_2 a1_3 a1_4 a4_0 : Nat} {u1 : SgC} {post : (ShC × SkC) → Prop} {A : Nat → Prop} (E : EN p s m args meth c G R_Sh cc_Sh_showLetter 6 none BG) (hR : va_P G.1 vwCl [(a1_0, .inr (5, [.int (sgK u1), .ref a1_1, .ref a1_2, .ref a1_3, .ref a1_4, .int (sgO u1), .int (sgP u1)])), (a1_1, .inl (G.2.1 0, sgN u1, .inl (sgL u1))), (a1_2, .inl (G.2.1 1, sgN u1, .inl (sgR u1))), (a1_3, .inl (G.2.1 1, sgM u1, .inl (sgB u1))), (a1_4, .inl (G.2.1 1, sgM u1, .inl (sgE u1)))] s.heap) (hA : ∀ q : Nat, s.heap.size ≤ q → A q) (hAB : ∀ q : Nat, A q → G.2.2.1 ≤ q) (hRn : ∀ (j : Nat) (q : Nat × va_E), ([(a1_0, .inr (5, [.int (sgK u1), .ref a1_1, .ref a1_2, .ref a1_3, .ref a1_4, .int (sgO u1), .int (sgP u1)])), (a1_1, .inl (G.2.1 0, sgN u1, .inl (sgL u1))), (a1_2, .inl (G.2.1 1, sgN u1, .inl (sgR u1))), (a1_3, .inl (G.2.1 1, sgM u1, .inl (sgB u1))), (a1_4, .inl (G.2.1 1, sgM u1, .inl (sgE u1)))] : va_W)[j]? = some q → ¬ A q.1) : ∀ (y5 : Int32) (w0 : ShC) (w1 : SkC) (H : Heap) (locs : List Loc) (ls : Array Slot), w_Sh_showLetter_124 post u1 y5 w0 w1 → va_P G.1 vwCl [(a0_0, .inr (4, [.ref a0_1, .int (shD w0), .int (shC w0), .int (shT w0)])), (a0_1, .inl (G.2.1 1, shN w0, .inl (shF w0))), (a4_0, .inr (3, [.int (skW w1), .int (skP w1), .int (skF w1)]))] H → va_D A [(a0_0, .inr (4, [.ref a0_1, .int (shD w0), .int (shC w0), .int (shT w0)])), (a0_1, .inl (G.2.1 1, shN w0, .inl (shF w0))), (a4_0, .inr (3, [.int (skW w1), .int (skP w1), .int (skF w1)]))] → va_S A s.heap H locs → lv_has ls 6 [(0, .ref a0_0), (4, .ref a4_0), (5, .int y5)] → W p l e rm_Sh_showLetter s m args below meth c H locs 0 0 (MQ below (va_Qv post (fun (u : ShC × SkC) (t : State) => va_P G.1 vwCl [(a0_0, .inr (4, [.ref a0_1, .int (shD u.1), .int (shC u.1), .int (shT u.1)])), (a0_1, .inl (G.2.1 1, shN u.1, .inl (shF u.1))), (a4_0, .inr (3, [.int (skW u.2), .int (skP u.2), .int (skF u.2)]))] t.heap) A) args s 0 0 A) (F0 m 124 ls []) := by
  obtain ⟨hx, hb, hr, hts, hown, hlocks, hml, hC⟩ := id E
  have hK := hC.1
  intro y5 w0 w1  H locs ls h hP hD hS hl
  unfold w_Sh_showLetter_124 at h
  refine lv_aload hx hb d_Sh_showLetter_124 (lv_at hl 1 rfl) ?_
  refine lv_iload hx hb d_Sh_showLetter_126 (lv_at hl 2 rfl) ?_
  have hRc : va_P G.1 vwCl [] H := vaP_nil
  refine va_csr (va_runS (As := [.int y5]) (rest := [.ref a4_0]) ⟨hx, hb, hml, hown, hts⟩ (c_Sh_wordOf l G y5 _ h) (va_cwS 1 hts (gwS b_254 b_255 b_237 b_253) rfl rfl rfl hd_Sh_wordOf.2 ⟨Nat.le_of_ble_eq_true rfl, Nat.le_of_ble_eq_true rfl⟩) ⟨mP_blind, fun U hU hW => ⟨rfl, hC.to hW hU hS hAB, by rw [hU]; exact hRc⟩⟩ rfl rfl hl.1 rfl (lv_room (Nat.le_of_ble_eq_true rfl)) d_Sh_showLetter_128 ⟨Nat.le_of_ble_eq_true rfl, Nat.le_of_ble_eq_true rfl⟩).run (fun r20 h => ?_)
  have hRc : va_P G.1 vwCl [] H := vaP_nil
  have hPc := hP.sub (ws' := [(a4_0, .inr (3, [.int (skW w1), .int (skP w1), .int (skF w1)]))]) [2] rfl
  have hDc := hD.sub (ws' := [(a4_0, .inr (3, [.int (skW w1), .int (skP w1), .int (skF w1)]))]) [2] (by decide) rfl
  have hFc := va_free (wc := [(a4_0, .inr (3, [.int (skW w1), .int (skP w1), .int (skF w1)]))]) hD hS hA [2] rfl
  have hQc : mw_ap [(a4_0, .inr (3, [.int (skW w1), .int (skP w1), .int (skF w1)]))] [] := mw_ap_nil
  refine va_callv (va_runV (As := [.ref (G.2.2.2.1 r20)]) (rest := []) ⟨hx, hb, hml, hown, hts⟩ (c_Sk_passText l G a4_0 w1 r20 H.size _ h) (cwV 1 hts (gwV b_241 b_242 b_243 b_81 b_240) rfl rfl rfl hd_Sk_passText ⟨Nat.le_of_ble_eq_true rfl, Nat.le_of_ble_eq_true rfl⟩) ⟨mW_blind, va_recv hK hPc (ci := 3) (q0 := 0) rfl rfl, fun U hU hW => ⟨rfl, hC.to hW hU hS hAB, by rw [hU], by rw [hU]; exact hPc, hDc.weaken (fun _ _ _ => hAB _), by rw [hU]; exact hRc, hQc⟩⟩ rfl rfl hl.1 rfl (lv_room (Nat.le_of_ble_eq_true rfl)) d_Sh_showLetter_131 ⟨Nat.le_of_ble_eq_true rfl, Nat.le_of_ble_eq_true rfl⟩) hS (fun q _ h => hFc q h) hFc (fun v21 t H1 locs ht hvm h hB hz1 hk1 hS => ?_)
  rw [ht] at hB
  have hj9 := mw_join (wr := [(a0_0, .inr (4, [.ref a0_1, .int (shD w0), .int (shC w0), .int (shT w0)])), (a0_1, .inl (G.2.1 1, shN w0, .inl (shF w0)))]) (w1 := [(a4_0, .inr (3, [.int (skW v21), .int (skP v21), .int (skF v21)]))]) hP hD [2] [0, 1] rfl rfl (by decide) (by decide) (by decide) hk1 hFc hB rfl
  have hP : va_P G.1 vwCl [(a0_0, .inr (4, [.ref a0_1, .int (shD w0), .int (shC w0), .int (shT w0)])), (a0_1, .inl (G.2.1 1, shN w0, .inl (shF w0))), (a4_0, .inr (3, [.int (skW v21), .int (skP v21), .int (skF v21)]))] H1 := hj9.1
  have hD : va_D A [(a0_0, .inr (4, [.ref a0_1, .int (shD w0), .int (shC w0), .int (shT w0)])), (a0_1, .inl (G.2.1 1, shN w0, .inl (shF w0))), (a4_0, .inr (3, [.int (skW v21), .int (skP v21), .int (skF v21)]))] := hj9.2
  generalize H1 = H at hP hS ⊢
  refine lv_aload_n hx hb d_Sh_showLetter_134 rfl (lv_at hl 0 rfl) ?_
  refine lv_aload hx hb d_Sh_showLetter_135 (lv_at hl 1 rfl) ?_
  have hRc : va_P G.1 vwCl [] H := vaP_nil
  have hPc := hP.sub (ws' := [(a0_0, .inr (4, [.ref a0_1, .int (shD w0), .int (shC w0), .int (shT w0)])), (a0_1, .inl (G.2.1 1, shN w0, .inl (shF w0))), (a4_0, .inr (3, [.int (skW v21), .int (skP v21), .int (skF v21)]))]) [0, 1, 2] rfl
  have hDc := hD.sub (ws' := [(a0_0, .inr (4, [.ref a0_1, .int (shD w0), .int (shC w0), .int (shT w0)])), (a0_1, .inl (G.2.1 1, shN w0, .inl (shF w0))), (a4_0, .inr (3, [.int (skW v21), .int (skP v21), .int (skF v21)]))]) [0, 1, 2] (by decide) rfl
  have hFc := va_free (wc := [(a0_0, .inr (4, [.ref a0_1, .int (shD w0), .int (shC w0), .int (shT w0)])), (a0_1, .inl (G.2.1 1, shN w0, .inl (shF w0))), (a4_0, .inr (3, [.int (skW v21), .int (skP v21), .int (skF v21)]))]) hD hS hA [0, 1, 2] rfl
  have hQc : mw_ap [(a0_0, .inr (4, [.ref a0_1, .int (shD w0), .int (shC w0), .int (shT w0)])), (a0_1, .inl (G.2.1 1, shN w0, .inl (shF w0))), (a4_0, .inr (3, [.int (skW v21), .int (skP v21), .int (skF v21)]))] [] := mw_ap_nil
  refine va_callv (va_runV (As := [.ref a4_0]) (rest := []) ⟨hx, hb, hml, hown, hts⟩ (c_Sh_showWaiting l G a0_0 a0_1 a4_0 w0 v21 H.size _ h) (cwV 1 hts (gwV b_250 b_251 b_252 b_237 b_249) rfl rfl rfl hd_Sh_showWaiting ⟨Nat.le_of_ble_eq_true rfl, Nat.le_of_ble_eq_true rfl⟩) ⟨mW_blind, va_recv hK hPc (ci := 4) (q0 := 0) rfl rfl, fun U hU hW => ⟨rfl, hC.to hW hU hS hAB, by rw [hU], by rw [hU]; exact hPc, hDc.weaken (fun _ _ _ => hAB _), by rw [hU]; exact hRc, hQc⟩⟩ rfl rfl hl.1 rfl (lv_room (Nat.le_of_ble_eq_true rfl)) d_Sh_showLetter_137 ⟨Nat.le_of_ble_eq_true rfl, Nat.le_of_ble_eq_true rfl⟩) hS (fun q _ h => hFc q h) hFc (fun v22 t H1 locs ht hvm h hB hz1 hk1 hS => ?_)
  rw [ht] at hB
  have hj9 := mw_join (wr := []) (w1 := [(a0_0, .inr (4, [.ref a0_1, .int (shD v22.1), .int (shC v22.1), .int (shT v22.1)])), (a0_1, .inl (G.2.1 1, shN v22.1, .inl (shF v22.1))), (a4_0, .inr (3, [.int (skW v22.2), .int (skP v22.2), .int (skF v22.2)]))]) hP hD [0, 1, 2] [] rfl rfl (by decide) (by decide) (by decide) hk1 hFc hB rfl
  have hP : va_P G.1 vwCl [(a0_0, .inr (4, [.ref a0_1, .int (shD v22.1), .int (shC v22.1), .int (shT v22.1)])), (a0_1, .inl (G.2.1 1, shN v22.1, .inl (shF v22.1))), (a4_0, .inr (3, [.int (skW v22.2), .int (skP v22.2), .int (skF v22.2)]))] H1 := hj9.1
  have hD : va_D A [(a0_0, .inr (4, [.ref a0_1, .int (shD v22.1), .int (shC v22.1), .int (shT v22.1)])), (a0_1, .inl (G.2.1 1, shN v22.1, .inl (shF v22.1))), (a4_0, .inr (3, [.int (skW v22.2), .int (skP v22.2), .int (skF v22.2)]))] := hj9.2
  generalize H1 = H at hP hS ⊢
  refine lv_goto (tgt := 246) hx hb d_Sh_showLetter_140 (by decide) ?_
  exact W.vret hx hb hr (fun t ht hW => ⟨⟨_, rfl, h, vaP_at ht hP⟩, hS.F ht⟩) hS.2.2 d_Sh_showLetter_246
set_option maxHeartbeats 4000000 in
set_option maxRecDepth 100000 in
theorem t_Sh_showLetter_223 {p : Program} {l : Launch} {e : Env} {s : State} {m : MethodId} {args : Array Value} {below : List Frame} {meth : Method} {c : Code} {G : GX} {a0_0 a0_1 a1_0 a1_1 a1_2 a1_3 a1_4 a4_0 : Nat} {u1 : SgC} {post : (ShC × SkC) → Prop} {A : Nat → Prop} (E : EN p s m args meth c G R_Sh cc_Sh_showLetter 6 none BG) (hR : va_P G.1 vwCl [(a1_0, .inr (5, [.int (sgK u1), .ref a1_1, .ref a1_2, .ref a1_3, .ref a1_4, .int (sgO u1), .int (sgP u1)])), (a1_1, .inl (G.2.1 0, sgN u1, .inl (sgL u1))), (a1_2, .inl (G.2.1 1, sgN u1, .inl (sgR u1))), (a1_3, .inl (G.2.1 1, sgM u1, .inl (sgB u1))), (a1_4, .inl (G.2.1 1, sgM u1, .inl (sgE u1)))] s.heap) (hA : ∀ q : Nat, s.heap.size ≤ q → A q) (hAB : ∀ q : Nat, A q → G.2.2.1 ≤ q) (hRn : ∀ (j : Nat) (q : Nat × va_E), ([(a1_0, .inr (5, [.int (sgK u1), .ref a1_1, .ref a1_2, .ref a1_3, .ref a1_4, .int (sgO u1), .int (sgP u1)])), (a1_1, .inl (G.2.1 0, sgN u1, .inl (sgL u1))), (a1_2, .inl (G.2.1 1, sgN u1, .inl (sgR u1))), (a1_3, .inl (G.2.1 1, sgM u1, .inl (sgB u1))), (a1_4, .inl (G.2.1 1, sgM u1, .inl (sgE u1)))] : va_W)[j]? = some q → ¬ A q.1) : ∀ (z0 : Int32) (w0 : ShC) (w1 : SkC) (H : Heap) (locs : List Loc) (ls : Array Slot), w_Sh_showLetter_223 post u1 z0 w0 w1 → va_P G.1 vwCl [(a0_0, .inr (4, [.ref a0_1, .int (shD w0), .int (shC w0), .int (shT w0)])), (a0_1, .inl (G.2.1 1, shN w0, .inl (shF w0))), (a4_0, .inr (3, [.int (skW w1), .int (skP w1), .int (skF w1)]))] H → va_D A [(a0_0, .inr (4, [.ref a0_1, .int (shD w0), .int (shC w0), .int (shT w0)])), (a0_1, .inl (G.2.1 1, shN w0, .inl (shF w0))), (a4_0, .inr (3, [.int (skW w1), .int (skP w1), .int (skF w1)]))] → va_S A s.heap H locs → lv_has ls 6 [(0, .ref a0_0)] → W p l e rm_Sh_showLetter s m args below meth c H locs 0 0 (MQ below (va_Qv post (fun (u : ShC × SkC) (t : State) => va_P G.1 vwCl [(a0_0, .inr (4, [.ref a0_1, .int (shD u.1), .int (shC u.1), .int (shT u.1)])), (a0_1, .inl (G.2.1 1, shN u.1, .inl (shF u.1))), (a4_0, .inr (3, [.int (skW u.2), .int (skP u.2), .int (skF u.2)]))] t.heap) A) args s 0 0 A) (F0 m 223 ls [.int z0, .ref a4_0]) := by
  obtain ⟨hx, hb, hr, hts, hown, hlocks, hml, hC⟩ := id E
  have hK := hC.1
  intro z0 w0 w1  H locs ls h hP hD hS hl
  unfold w_Sh_showLetter_223 at h
  have hRc : va_P G.1 vwCl [] H := vaP_nil
  have hPc := hP.sub (ws' := [(a4_0, .inr (3, [.int (skW w1), .int (skP w1), .int (skF w1)]))]) [2] rfl
  have hDc := hD.sub (ws' := [(a4_0, .inr (3, [.int (skW w1), .int (skP w1), .int (skF w1)]))]) [2] (by decide) rfl
  have hFc := va_free (wc := [(a4_0, .inr (3, [.int (skW w1), .int (skP w1), .int (skF w1)]))]) hD hS hA [2] rfl
  have hQc : mw_ap [(a4_0, .inr (3, [.int (skW w1), .int (skP w1), .int (skF w1)]))] [] := mw_ap_nil
  refine va_callv (va_runV (As := [.int z0]) (rest := []) ⟨hx, hb, hml, hown, hts⟩ (c_Sk_pass l G a4_0 w1 z0 H.size _ h) (cwV 1 hts (gwV b_238 b_79 b_80 b_81 b_77) rfl rfl rfl hd_Sk_pass ⟨Nat.le_of_ble_eq_true rfl, Nat.le_of_ble_eq_true rfl⟩) ⟨mW_blind, va_recv hK hPc (ci := 3) (q0 := 0) rfl rfl, fun U hU hW => ⟨rfl, hC.to hW hU hS hAB, by rw [hU], by rw [hU]; exact hPc, hDc.weaken (fun _ _ _ => hAB _), by rw [hU]; exact hRc, hQc⟩⟩ rfl rfl hl.1 rfl (lv_room (Nat.le_of_ble_eq_true rfl)) d_Sh_showLetter_223 ⟨Nat.le_of_ble_eq_true rfl, Nat.le_of_ble_eq_true rfl⟩) hS (fun q _ h => hFc q h) hFc (fun v23 t H1 locs ht hvm h hB hz1 hk1 hS => ?_)
  rw [ht] at hB
  have hj9 := mw_join (wr := [(a0_0, .inr (4, [.ref a0_1, .int (shD w0), .int (shC w0), .int (shT w0)])), (a0_1, .inl (G.2.1 1, shN w0, .inl (shF w0)))]) (w1 := [(a4_0, .inr (3, [.int (skW v23), .int (skP v23), .int (skF v23)]))]) hP hD [2] [0, 1] rfl rfl (by decide) (by decide) (by decide) hk1 hFc hB rfl
  have hP : va_P G.1 vwCl [(a0_0, .inr (4, [.ref a0_1, .int (shD w0), .int (shC w0), .int (shT w0)])), (a0_1, .inl (G.2.1 1, shN w0, .inl (shF w0))), (a4_0, .inr (3, [.int (skW v23), .int (skP v23), .int (skF v23)]))] H1 := hj9.1
  have hD : va_D A [(a0_0, .inr (4, [.ref a0_1, .int (shD w0), .int (shC w0), .int (shT w0)])), (a0_1, .inl (G.2.1 1, shN w0, .inl (shF w0))), (a4_0, .inr (3, [.int (skW v23), .int (skP v23), .int (skF v23)]))] := hj9.2
  generalize H1 = H at hP hS ⊢
  refine lv_aload_n hx hb d_Sh_showLetter_226 rfl (lv_at hl 0 rfl) ?_
  refine lv_iconst (v := 1) hx hb d_Sh_showLetter_227 (by decide) ?_
  refine va_put (D := G.1) (ci := 4) (v := .int 1) (ty := .boolean) (C := R_Sh) (T := T_Sh) (N := 4) hx hb hts i_Sh ty_Sh tyok_Sh nm_Sh hown hK hP hD hS 0 rfl rfl 3 (by decide) (hts _ b_245) (fun _ h9 => h9) rfl (by decide +kernel) (by decide) (by decide) (Nat.le_of_ble_eq_true rfl) d_Sh_showLetter_228 (fun H locs hP hD hS => ?_)
  have hP : va_P G.1 vwCl [(a0_0, .inr (4, [.ref a0_1, .int (shD w0), .int (shC w0), .int 1])), (a0_1, .inl (G.2.1 1, shN w0, .inl (shF w0))), (a4_0, .inr (3, [.int (skW v23), .int (skP v23), .int (skF v23)]))] H := hP
  have hD : va_D A [(a0_0, .inr (4, [.ref a0_1, .int (shD w0), .int (shC w0), .int 1])), (a0_1, .inl (G.2.1 1, shN w0, .inl (shF w0))), (a4_0, .inr (3, [.int (skW v23), .int (skP v23), .int (skF v23)]))] := hD
  refine lv_goto (tgt := 246) hx hb d_Sh_showLetter_231 (by decide) ?_
  exact W.vret hx hb hr (fun t ht hW => ⟨⟨_, rfl, h, vaP_at ht hP⟩, hS.F ht⟩) hS.2.2 d_Sh_showLetter_246
set_option maxHeartbeats 4000000 in
set_option maxRecDepth 100000 in
theorem t_Sh_showLetter_234 {p : Program} {l : Launch} {e : Env} {s : State} {m : MethodId} {args : Array Value} {below : List Frame} {meth : Method} {c : Code} {G : GX} {a0_0 a0_1 a1_0 a1_1 a1_2 a1_3 a1_4 a4_0 : Nat} {u1 : SgC} {post : (ShC × SkC) → Prop} {A : Nat → Prop} (E : EN p s m args meth c G R_Sh cc_Sh_showLetter 6 none BG) (hR : va_P G.1 vwCl [(a1_0, .inr (5, [.int (sgK u1), .ref a1_1, .ref a1_2, .ref a1_3, .ref a1_4, .int (sgO u1), .int (sgP u1)])), (a1_1, .inl (G.2.1 0, sgN u1, .inl (sgL u1))), (a1_2, .inl (G.2.1 1, sgN u1, .inl (sgR u1))), (a1_3, .inl (G.2.1 1, sgM u1, .inl (sgB u1))), (a1_4, .inl (G.2.1 1, sgM u1, .inl (sgE u1)))] s.heap) (hA : ∀ q : Nat, s.heap.size ≤ q → A q) (hAB : ∀ q : Nat, A q → G.2.2.1 ≤ q) (hRn : ∀ (j : Nat) (q : Nat × va_E), ([(a1_0, .inr (5, [.int (sgK u1), .ref a1_1, .ref a1_2, .ref a1_3, .ref a1_4, .int (sgO u1), .int (sgP u1)])), (a1_1, .inl (G.2.1 0, sgN u1, .inl (sgL u1))), (a1_2, .inl (G.2.1 1, sgN u1, .inl (sgR u1))), (a1_3, .inl (G.2.1 1, sgM u1, .inl (sgB u1))), (a1_4, .inl (G.2.1 1, sgM u1, .inl (sgE u1)))] : va_W)[j]? = some q → ¬ A q.1) : ∀ (y3 : Int32) (y5 : Int32) (w0 : ShC) (w1 : SkC) (H : Heap) (locs : List Loc) (ls : Array Slot), w_Sh_showLetter_234 post u1 y3 y5 w0 w1 → va_P G.1 vwCl [(a0_0, .inr (4, [.ref a0_1, .int (shD w0), .int (shC w0), .int (shT w0)])), (a0_1, .inl (G.2.1 1, shN w0, .inl (shF w0))), (a4_0, .inr (3, [.int (skW w1), .int (skP w1), .int (skF w1)]))] H → va_D A [(a0_0, .inr (4, [.ref a0_1, .int (shD w0), .int (shC w0), .int (shT w0)])), (a0_1, .inl (G.2.1 1, shN w0, .inl (shF w0))), (a4_0, .inr (3, [.int (skW w1), .int (skP w1), .int (skF w1)]))] → va_S A s.heap H locs → lv_has ls 6 [(0, .ref a0_0), (3, .int y3), (4, .ref a4_0), (5, .int y5)] → W p l e rm_Sh_showLetter s m args below meth c H locs 0 0 (MQ below (va_Qv post (fun (u : ShC × SkC) (t : State) => va_P G.1 vwCl [(a0_0, .inr (4, [.ref a0_1, .int (shD u.1), .int (shC u.1), .int (shT u.1)])), (a0_1, .inl (G.2.1 1, shN u.1, .inl (shF u.1))), (a4_0, .inr (3, [.int (skW u.2), .int (skP u.2), .int (skF u.2)]))] t.heap) A) args s 0 0 A) (F0 m 234 ls []) := by
  obtain ⟨hx, hb, hr, hts, hown, hlocks, hml, hC⟩ := id E
  have hK := hC.1
  intro y3 y5 w0 w1  H locs ls h hP hD hS hl
  unfold w_Sh_showLetter_234 at h
  refine lv_aload_n hx hb d_Sh_showLetter_234 rfl (lv_at hl 0 rfl) ?_
  refine lv_iload_n hx hb d_Sh_showLetter_235 rfl (lv_at hl 1 rfl) ?_
  have hRc : va_P G.1 vwCl [] H := vaP_nil
  have hPc := hP.sub (ws' := [(a0_0, .inr (4, [.ref a0_1, .int (shD w0), .int (shC w0), .int (shT w0)])), (a0_1, .inl (G.2.1 1, shN w0, .inl (shF w0)))]) [0, 1] rfl
  have hDc := hD.sub (ws' := [(a0_0, .inr (4, [.ref a0_1, .int (shD w0), .int (shC w0), .int (shT w0)])), (a0_1, .inl (G.2.1 1, shN w0, .inl (shF w0)))]) [0, 1] (by decide) rfl
  have hFc := va_free (wc := [(a0_0, .inr (4, [.ref a0_1, .int (shD w0), .int (shC w0), .int (shT w0)])), (a0_1, .inl (G.2.1 1, shN w0, .inl (shF w0)))]) hD hS hA [0, 1] rfl
  have hQc : mw_ap [(a0_0, .inr (4, [.ref a0_1, .int (shD w0), .int (shC w0), .int (shT w0)])), (a0_1, .inl (G.2.1 1, shN w0, .inl (shF w0)))] [] := mw_ap_nil
  refine va_callv (va_runV (As := [.int y3]) (rest := []) ⟨hx, hb, hml, hown, hts⟩ (c_Sh_changeDepth l G a0_0 a0_1 w0 y3 H.size _ h) (cwV 1 hts (gwV b_257 b_258 b_259 b_237 b_256) rfl rfl rfl hd_Sh_changeDepth ⟨Nat.le_of_ble_eq_true rfl, Nat.le_of_ble_eq_true rfl⟩) ⟨mW_blind, va_recv hK hPc (ci := 4) (q0 := 0) rfl rfl, fun U hU hW => ⟨rfl, hC.to hW hU hS hAB, by rw [hU], by rw [hU]; exact hPc, hDc.weaken (fun _ _ _ => hAB _), by rw [hU]; exact hRc, hQc⟩⟩ rfl rfl hl.1 rfl (lv_room (Nat.le_of_ble_eq_true rfl)) d_Sh_showLetter_236 ⟨Nat.le_of_ble_eq_true rfl, Nat.le_of_ble_eq_true rfl⟩) hS (fun q _ h => hFc q h) hFc (fun v24 t H1 locs ht hvm h hB hz1 hk1 hS => ?_)
  rw [ht] at hB
  have hj9 := mw_join (wr := [(a4_0, .inr (3, [.int (skW w1), .int (skP w1), .int (skF w1)]))]) (w1 := [(a0_0, .inr (4, [.ref a0_1, .int (shD v24), .int (shC v24), .int (shT v24)])), (a0_1, .inl (G.2.1 1, shN v24, .inl (shF v24)))]) hP hD [0, 1] [2] rfl rfl (by decide) (by decide) (by decide) hk1 hFc hB rfl
  have hP : va_P G.1 vwCl [(a4_0, .inr (3, [.int (skW w1), .int (skP w1), .int (skF w1)])), (a0_0, .inr (4, [.ref a0_1, .int (shD v24), .int (shC v24), .int (shT v24)])), (a0_1, .inl (G.2.1 1, shN v24, .inl (shF v24)))] H1 := hj9.1
  have hD : va_D A [(a4_0, .inr (3, [.int (skW w1), .int (skP w1), .int (skF w1)])), (a0_0, .inr (4, [.ref a0_1, .int (shD v24), .int (shC v24), .int (shT v24)])), (a0_1, .inl (G.2.1 1, shN v24, .inl (shF v24)))] := hj9.2
  generalize H1 = H at hP hS ⊢
  refine lv_aload hx hb d_Sh_showLetter_239 (lv_at hl 2 rfl) ?_
  refine lv_iload hx hb d_Sh_showLetter_241 (lv_at hl 3 rfl) ?_
  have hRc : va_P G.1 vwCl [] H := vaP_nil
  have hPc := hP.sub (ws' := [(a4_0, .inr (3, [.int (skW w1), .int (skP w1), .int (skF w1)]))]) [0] rfl
  have hDc := hD.sub (ws' := [(a4_0, .inr (3, [.int (skW w1), .int (skP w1), .int (skF w1)]))]) [0] (by decide) rfl
  have hFc := va_free (wc := [(a4_0, .inr (3, [.int (skW w1), .int (skP w1), .int (skF w1)]))]) hD hS hA [0] rfl
  have hQc : mw_ap [(a4_0, .inr (3, [.int (skW w1), .int (skP w1), .int (skF w1)]))] [] := mw_ap_nil
  refine va_callv (va_runV (As := [.int y5]) (rest := []) ⟨hx, hb, hml, hown, hts⟩ (c_Sk_pass l G a4_0 w1 y5 H.size _ h) (cwV 1 hts (gwV b_238 b_79 b_80 b_81 b_77) rfl rfl rfl hd_Sk_pass ⟨Nat.le_of_ble_eq_true rfl, Nat.le_of_ble_eq_true rfl⟩) ⟨mW_blind, va_recv hK hPc (ci := 3) (q0 := 0) rfl rfl, fun U hU hW => ⟨rfl, hC.to hW hU hS hAB, by rw [hU], by rw [hU]; exact hPc, hDc.weaken (fun _ _ _ => hAB _), by rw [hU]; exact hRc, hQc⟩⟩ rfl rfl hl.1 rfl (lv_room (Nat.le_of_ble_eq_true rfl)) d_Sh_showLetter_243 ⟨Nat.le_of_ble_eq_true rfl, Nat.le_of_ble_eq_true rfl⟩) hS (fun q _ h => hFc q h) hFc (fun v25 t H1 locs ht hvm h hB hz1 hk1 hS => ?_)
  rw [ht] at hB
  have hj9 := mw_join (wr := [(a0_0, .inr (4, [.ref a0_1, .int (shD v24), .int (shC v24), .int (shT v24)])), (a0_1, .inl (G.2.1 1, shN v24, .inl (shF v24)))]) (w1 := [(a4_0, .inr (3, [.int (skW v25), .int (skP v25), .int (skF v25)]))]) hP hD [0] [1, 2] rfl rfl (by decide) (by decide) (by decide) hk1 hFc hB rfl
  have hP : va_P G.1 vwCl [(a0_0, .inr (4, [.ref a0_1, .int (shD v24), .int (shC v24), .int (shT v24)])), (a0_1, .inl (G.2.1 1, shN v24, .inl (shF v24))), (a4_0, .inr (3, [.int (skW v25), .int (skP v25), .int (skF v25)]))] H1 := hj9.1
  have hD : va_D A [(a0_0, .inr (4, [.ref a0_1, .int (shD v24), .int (shC v24), .int (shT v24)])), (a0_1, .inl (G.2.1 1, shN v24, .inl (shF v24))), (a4_0, .inr (3, [.int (skW v25), .int (skP v25), .int (skF v25)]))] := hj9.2
  generalize H1 = H at hP hS ⊢
  exact W.vret hx hb hr (fun t ht hW => ⟨⟨_, rfl, h, vaP_at ht hP⟩, hS.F ht⟩) hS.2.2 d_Sh_showLetter_246
set_option maxHeartbeats 4000000 in
set_option maxRecDepth 100000 in
theorem t_Sh_showLetter_in {p : Program} {l : Launch} {e : Env} {s : State} {m : MethodId} {args : Array Value} {below : List Frame} {meth : Method} {c : Code} {G : GX} {a0_0 a0_1 a1_0 a1_1 a1_2 a1_3 a1_4 a4_0 : Nat} {u1 : SgC} {post : (ShC × SkC) → Prop} {A : Nat → Prop} {u0 : ShC} {u4 : SkC} {x2 : Int32} {x3 : Int32} (E : EN p s m args meth c G R_Sh cc_Sh_showLetter 6 none BG) (hR : va_P G.1 vwCl [(a1_0, .inr (5, [.int (sgK u1), .ref a1_1, .ref a1_2, .ref a1_3, .ref a1_4, .int (sgO u1), .int (sgP u1)])), (a1_1, .inl (G.2.1 0, sgN u1, .inl (sgL u1))), (a1_2, .inl (G.2.1 1, sgN u1, .inl (sgR u1))), (a1_3, .inl (G.2.1 1, sgM u1, .inl (sgB u1))), (a1_4, .inl (G.2.1 1, sgM u1, .inl (sgE u1)))] s.heap) (hA : ∀ q : Nat, s.heap.size ≤ q → A q) (hAB : ∀ q : Nat, A q → G.2.2.1 ≤ q) (hRn : ∀ (j : Nat) (q : Nat × va_E), ([(a1_0, .inr (5, [.int (sgK u1), .ref a1_1, .ref a1_2, .ref a1_3, .ref a1_4, .int (sgO u1), .int (sgP u1)])), (a1_1, .inl (G.2.1 0, sgN u1, .inl (sgL u1))), (a1_2, .inl (G.2.1 1, sgN u1, .inl (sgR u1))), (a1_3, .inl (G.2.1 1, sgM u1, .inl (sgB u1))), (a1_4, .inl (G.2.1 1, sgM u1, .inl (sgE u1)))] : va_W)[j]? = some q → ¬ A q.1) : ∀ (H : Heap) (locs : List Loc) (ls : Array Slot), wp_Sh_showLetter post u0 u1 u4 x2 x3 → va_P G.1 vwCl [(a0_0, .inr (4, [.ref a0_1, .int (shD u0), .int (shC u0), .int (shT u0)])), (a0_1, .inl (G.2.1 1, shN u0, .inl (shF u0))), (a4_0, .inr (3, [.int (skW u4), .int (skP u4), .int (skF u4)]))] H → va_D A [(a0_0, .inr (4, [.ref a0_1, .int (shD u0), .int (shC u0), .int (shT u0)])), (a0_1, .inl (G.2.1 1, shN u0, .inl (shF u0))), (a4_0, .inr (3, [.int (skW u4), .int (skP u4), .int (skF u4)]))] → va_S A s.heap H locs → lv_has ls 6 [(0, .ref a0_0), (1, .ref a1_0), (2, .int x2), (3, .int x3), (4, .ref a4_0)] → W p l e rm_Sh_showLetter s m args below meth c H locs 0 0 (MQ below (va_Qv post (fun (u : ShC × SkC) (t : State) => va_P G.1 vwCl [(a0_0, .inr (4, [.ref a0_1, .int (shD u.1), .int (shC u.1), .int (shT u.1)])), (a0_1, .inl (G.2.1 1, shN u.1, .inl (shF u.1))), (a4_0, .inr (3, [.int (skW u.2), .int (skP u.2), .int (skF u.2)]))] t.heap) A) args s 0 0 A) (F0 m 0 ls []) := by
  obtain ⟨hx, hb, hr, hts, hown, hlocks, hml, hC⟩ := id E
  have hK := hC.1
  intro H locs ls h hP hD hS hl
  unfold wp_Sh_showLetter at h
  refine lv_aload_n hx hb d_Sh_showLetter_0 rfl (lv_at hl 1 rfl) ?_
  refine lv_iload_n hx hb d_Sh_showLetter_1 rfl (lv_at hl 2 rfl) ?_
  have hRc : va_P G.1 vwCl [(a1_0, .inr (5, [.int (sgK u1), .ref a1_1, .ref a1_2, .ref a1_3, .ref a1_4, .int (sgO u1), .int (sgP u1)])), (a1_1, .inl (G.2.1 0, sgN u1, .inl (sgL u1))), (a1_2, .inl (G.2.1 1, sgN u1, .inl (sgR u1))), (a1_3, .inl (G.2.1 1, sgM u1, .inl (sgB u1))), (a1_4, .inl (G.2.1 1, sgM u1, .inl (sgE u1)))] H := ((ro_now hR hRn hS).sub (ws' := [(a1_0, .inr (5, [.int (sgK u1), .ref a1_1, .ref a1_2, .ref a1_3, .ref a1_4, .int (sgO u1), .int (sgP u1)])), (a1_1, .inl (G.2.1 0, sgN u1, .inl (sgL u1))), (a1_2, .inl (G.2.1 1, sgN u1, .inl (sgR u1))), (a1_3, .inl (G.2.1 1, sgM u1, .inl (sgB u1))), (a1_4, .inl (G.2.1 1, sgM u1, .inl (sgE u1)))]) [0, 1, 2, 3, 4] rfl)
  refine vp_callSi (va_runV (As := [.int x2]) (rest := []) ⟨hx, hb, hml, hown, hts⟩ (c_Sg_letterAt l G a1_0 a1_1 a1_2 a1_3 a1_4 u1 x2 _ h) (cwV 1 hts (gwV b_244 b_194 b_195 b_173 b_192) rfl rfl rfl hd_Sg_letterAt ⟨Nat.le_of_ble_eq_true rfl, Nat.le_of_ble_eq_true rfl⟩) ⟨mP_blind, va_recv hK hRc (ci := 5) (q0 := 0) rfl rfl, fun U hU hW => ⟨rfl, hC.to hW hU hS hAB, by rw [hU]; exact hRc⟩⟩ rfl rfl hl.1 rfl (lv_room (Nat.le_of_ble_eq_true rfl)) d_Sh_showLetter_2 ⟨Nat.le_of_ble_eq_true rfl, Nat.le_of_ble_eq_true rfl⟩).run (fun r26 h => ?_)
  refine lv_istore (lv' := [(5, .int r26), (0, .ref a0_0), (1, .ref a1_0), (2, .int x2), (3, .int x3), (4, .ref a4_0)]) hx hb d_Sh_showLetter_5 hl (by decide) rfl (fun ls hl => ?_)
  refine lv_iload_n hx hb d_Sh_showLetter_7 rfl (lv_at hl 4 rfl) ?_
  have hsw := h
  by_cases c1003 : x3 = 3
  · have h := hsw
    have h := h.1 (Or.inl c1003)
    refine lv_tabK (a := 3) (off := 188) (tgt := 196) hx hb d_Sh_showLetter_8 c1003 t32_3 (by decide) (by decide) rfl (by decide) ?_
    exact t_Sh_showLetter_196 E hR hA hAB hRn  _ _ _ _ _ _ _ h hP hD hS (lv_sub hl [2, 3, 4, 5] rfl)
  by_cases c1004 : x3 = 4
  · have h := hsw
    have h := h.1 (Or.inr (c1004))
    refine lv_tabK (a := 4) (off := 188) (tgt := 196) hx hb d_Sh_showLetter_8 c1004 t32_4 (by decide) (by decide) rfl (by decide) ?_
    exact t_Sh_showLetter_196 E hR hA hAB hRn  _ _ _ _ _ _ _ h hP hD hS (lv_sub hl [2, 3, 4, 5] rfl)
  by_cases c1005 : x3 = 5
  · have h := hsw
    have h := h.2.2.2.2.2.2.2.2.2 ⟨(fun z => absurd (c1005.symm.trans z) (by decide)), (fun z => absurd (c1005.symm.trans z) (by decide)), (fun z => absurd (c1005.symm.trans z) (by decide)), (fun z => absurd (c1005.symm.trans z) (by decide)), (fun z => absurd (c1005.symm.trans z) (by decide)), (fun z => absurd (c1005.symm.trans z) (by decide)), (fun z => absurd (c1005.symm.trans z) (by decide)), (fun z => absurd (c1005.symm.trans z) (by decide)), (fun z => absurd (c1005.symm.trans z) (by decide)), (fun z => absurd (c1005.symm.trans z) (by decide)), (fun z => absurd (c1005.symm.trans z) (by decide)), (fun z => absurd (c1005.symm.trans z) (by decide)), (fun z => absurd (c1005.symm.trans z) (by decide)), (fun z => absurd (c1005.symm.trans z) (by decide))⟩
    refine lv_tabK (a := 5) (off := 226) (tgt := 234) hx hb d_Sh_showLetter_8 c1005 t32_5 (by decide) (by decide) rfl (by decide) ?_
    exact t_Sh_showLetter_234 E hR hA hAB hRn  _ _ _ _ _ _ _ h hP hD hS (lv_sub hl [1, 4, 5, 0] rfl)
  by_cases c1006 : x3 = 6
  · have h := hsw
    have h := h.2.1 (Or.inl c1006)
    refine lv_tabK (a := 6) (off := 104) (tgt := 112) hx hb d_Sh_showLetter_8 c1006 t32_6 (by decide) (by decide) rfl (by decide) ?_
    exact t_Sh_showLetter_112 E hR hA hAB hRn  _ _ _ _ _ h hP hD hS (lv_sub hl [] rfl)
  by_cases c1007 : x3 = 7
  · have h := hsw
    have h := h.2.2.2.2.2.2.2.2.2 ⟨(fun z => absurd (c1007.symm.trans z) (by decide)), (fun z => absurd (c1007.symm.trans z) (by decide)), (fun z => absurd (c1007.symm.trans z) (by decide)), (fun z => absurd (c1007.symm.trans z) (by decide)), (fun z => absurd (c1007.symm.trans z) (by decide)), (fun z => absurd (c1007.symm.trans z) (by decide)), (fun z => absurd (c1007.symm.trans z) (by decide)), (fun z => absurd (c1007.symm.trans z) (by decide)), (fun z => absurd (c1007.symm.trans z) (by decide)), (fun z => absurd (c1007.symm.trans z) (by decide)), (fun z => absurd (c1007.symm.trans z) (by decide)), (fun z => absurd (c1007.symm.trans z) (by decide)), (fun z => absurd (c1007.symm.trans z) (by decide)), (fun z => absurd (c1007.symm.trans z) (by decide))⟩
    refine lv_tabK (a := 7) (off := 226) (tgt := 234) hx hb d_Sh_showLetter_8 c1007 t32_7 (by decide) (by decide) rfl (by decide) ?_
    exact t_Sh_showLetter_234 E hR hA hAB hRn  _ _ _ _ _ _ _ h hP hD hS (lv_sub hl [1, 4, 5, 0] rfl)
  by_cases c1008 : x3 = 8
  · have h := hsw
    have h := h.2.2.1 (Or.inl c1008)
    refine lv_tabK (a := 8) (off := 107) (tgt := 115) hx hb d_Sh_showLetter_8 c1008 t32_8 (by decide) (by decide) rfl (by decide) ?_
    exact t_Sh_showLetter_115 E hR hA hAB hRn  _ _ _ _ _ h hP hD hS (lv_sub hl [1, 5] rfl)
  by_cases c1009 : x3 = 9
  · have h := hsw
    have h := h.2.1 (Or.inr (c1009))
    refine lv_tabK (a := 9) (off := 104) (tgt := 112) hx hb d_Sh_showLetter_8 c1009 t32_9 (by decide) (by decide) rfl (by decide) ?_
    exact t_Sh_showLetter_112 E hR hA hAB hRn  _ _ _ _ _ h hP hD hS (lv_sub hl [] rfl)
  by_cases c1010 : x3 = 10
  · have h := hsw
    have h := h.2.2.2.2.2.2.2.2.2 ⟨(fun z => absurd (c1010.symm.trans z) (by decide)), (fun z => absurd (c1010.symm.trans z) (by decide)), (fun z => absurd (c1010.symm.trans z) (by decide)), (fun z => absurd (c1010.symm.trans z) (by decide)), (fun z => absurd (c1010.symm.trans z) (by decide)), (fun z => absurd (c1010.symm.trans z) (by decide)), (fun z => absurd (c1010.symm.trans z) (by decide)), (fun z => absurd (c1010.symm.trans z) (by decide)), (fun z => absurd (c1010.symm.trans z) (by decide)), (fun z => absurd (c1010.symm.trans z) (by decide)), (fun z => absurd (c1010.symm.trans z) (by decide)), (fun z => absurd (c1010.symm.trans z) (by decide)), (fun z => absurd (c1010.symm.trans z) (by decide)), (fun z => absurd (c1010.symm.trans z) (by decide))⟩
    refine lv_tabK (a := 10) (off := 226) (tgt := 234) hx hb d_Sh_showLetter_8 c1010 t32_10 (by decide) (by decide) rfl (by decide) ?_
    exact t_Sh_showLetter_234 E hR hA hAB hRn  _ _ _ _ _ _ _ h hP hD hS (lv_sub hl [1, 4, 5, 0] rfl)
  by_cases c1011 : x3 = 11
  · have h := hsw
    have h := h.2.2.2.1 (Or.inl c1011)
    refine lv_tabK (a := 11) (off := 151) (tgt := 159) hx hb d_Sh_showLetter_8 c1011 t32_11 (by decide) (by decide) rfl (by decide) ?_
    exact t_Sh_showLetter_159 E hR hA hAB hRn  _ _ _ _ _ h hP hD hS (lv_sub hl [5] rfl)
  by_cases c1012 : x3 = 12
  · have h := hsw
    have h := h.2.2.2.1 (Or.inr (c1012))
    refine lv_tabK (a := 12) (off := 151) (tgt := 159) hx hb d_Sh_showLetter_8 c1012 t32_12 (by decide) (by decide) rfl (by decide) ?_
    exact t_Sh_showLetter_159 E hR hA hAB hRn  _ _ _ _ _ h hP hD hS (lv_sub hl [5] rfl)
  by_cases c1013 : x3 = 13
  · have h := hsw
    have h := h.2.2.2.2.2.2.2.2.2 ⟨(fun z => absurd (c1013.symm.trans z) (by decide)), (fun z => absurd (c1013.symm.trans z) (by decide)), (fun z => absurd (c1013.symm.trans z) (by decide)), (fun z => absurd (c1013.symm.trans z) (by decide)), (fun z => absurd (c1013.symm.trans z) (by decide)), (fun z => absurd (c1013.symm.trans z) (by decide)), (fun z => absurd (c1013.symm.trans z) (by decide)), (fun z => absurd (c1013.symm.trans z) (by decide)), (fun z => absurd (c1013.symm.trans z) (by decide)), (fun z => absurd (c1013.symm.trans z) (by decide)), (fun z => absurd (c1013.symm.trans z) (by decide)), (fun z => absurd (c1013.symm.trans z) (by decide)), (fun z => absurd (c1013.symm.trans z) (by decide)), (fun z => absurd (c1013.symm.trans z) (by decide))⟩
    refine lv_tabK (a := 13) (off := 226) (tgt := 234) hx hb d_Sh_showLetter_8 c1013 t32_13 (by decide) (by decide) rfl (by decide) ?_
    exact t_Sh_showLetter_234 E hR hA hAB hRn  _ _ _ _ _ _ _ h hP hD hS (lv_sub hl [1, 4, 5, 0] rfl)
  by_cases c1014 : x3 = 14
  · have h := hsw
    have h := h.2.2.1 (Or.inr (c1014))
    refine lv_tabK (a := 14) (off := 107) (tgt := 115) hx hb d_Sh_showLetter_8 c1014 t32_14 (by decide) (by decide) rfl (by decide) ?_
    exact t_Sh_showLetter_115 E hR hA hAB hRn  _ _ _ _ _ h hP hD hS (lv_sub hl [1, 5] rfl)
  by_cases c1015 : x3 = 15
  · have h := hsw
    have h := h.2.2.2.2.2.2.2.2.2 ⟨(fun z => absurd (c1015.symm.trans z) (by decide)), (fun z => absurd (c1015.symm.trans z) (by decide)), (fun z => absurd (c1015.symm.trans z) (by decide)), (fun z => absurd (c1015.symm.trans z) (by decide)), (fun z => absurd (c1015.symm.trans z) (by decide)), (fun z => absurd (c1015.symm.trans z) (by decide)), (fun z => absurd (c1015.symm.trans z) (by decide)), (fun z => absurd (c1015.symm.trans z) (by decide)), (fun z => absurd (c1015.symm.trans z) (by decide)), (fun z => absurd (c1015.symm.trans z) (by decide)), (fun z => absurd (c1015.symm.trans z) (by decide)), (fun z => absurd (c1015.symm.trans z) (by decide)), (fun z => absurd (c1015.symm.trans z) (by decide)), (fun z => absurd (c1015.symm.trans z) (by decide))⟩
    refine lv_tabK (a := 15) (off := 226) (tgt := 234) hx hb d_Sh_showLetter_8 c1015 t32_15 (by decide) (by decide) rfl (by decide) ?_
    exact t_Sh_showLetter_234 E hR hA hAB hRn  _ _ _ _ _ _ _ h hP hD hS (lv_sub hl [1, 4, 5, 0] rfl)
  by_cases c1016 : x3 = 16
  · have h := hsw
    have h := h.2.2.2.2.2.2.2.2.2 ⟨(fun z => absurd (c1016.symm.trans z) (by decide)), (fun z => absurd (c1016.symm.trans z) (by decide)), (fun z => absurd (c1016.symm.trans z) (by decide)), (fun z => absurd (c1016.symm.trans z) (by decide)), (fun z => absurd (c1016.symm.trans z) (by decide)), (fun z => absurd (c1016.symm.trans z) (by decide)), (fun z => absurd (c1016.symm.trans z) (by decide)), (fun z => absurd (c1016.symm.trans z) (by decide)), (fun z => absurd (c1016.symm.trans z) (by decide)), (fun z => absurd (c1016.symm.trans z) (by decide)), (fun z => absurd (c1016.symm.trans z) (by decide)), (fun z => absurd (c1016.symm.trans z) (by decide)), (fun z => absurd (c1016.symm.trans z) (by decide)), (fun z => absurd (c1016.symm.trans z) (by decide))⟩
    refine lv_tabK (a := 16) (off := 226) (tgt := 234) hx hb d_Sh_showLetter_8 c1016 t32_16 (by decide) (by decide) rfl (by decide) ?_
    exact t_Sh_showLetter_234 E hR hA hAB hRn  _ _ _ _ _ _ _ h hP hD hS (lv_sub hl [1, 4, 5, 0] rfl)
  by_cases c1017 : x3 = 17
  · have h := hsw
    have h := h.2.2.2.2.1 (c1017)
    refine lv_tabK (a := 17) (off := 161) (tgt := 169) hx hb d_Sh_showLetter_8 c1017 t32_17 (by decide) (by decide) rfl (by decide) ?_
    refine lv_aload hx hb d_Sh_showLetter_169 (lv_at hl 5 rfl) ?_
    refine lv_bipush (v := 63) hx hb d_Sh_showLetter_171 (by decide) ?_
    have hRc : va_P G.1 vwCl [] H := vaP_nil
    have hPc := hP.sub (ws' := [(a4_0, .inr (3, [.int (skW u4), .int (skP u4), .int (skF u4)]))]) [2] rfl
    have hDc := hD.sub (ws' := [(a4_0, .inr (3, [.int (skW u4), .int (skP u4), .int (skF u4)]))]) [2] (by decide) rfl
    have hFc := va_free (wc := [(a4_0, .inr (3, [.int (skW u4), .int (skP u4), .int (skF u4)]))]) hD hS hA [2] rfl
    have hQc : mw_ap [(a4_0, .inr (3, [.int (skW u4), .int (skP u4), .int (skF u4)]))] [] := mw_ap_nil
    refine va_callv (va_runV (As := [.int 63]) (rest := []) ⟨hx, hb, hml, hown, hts⟩ (c_Sk_pass l G a4_0 u4 63 H.size _ h) (cwV 1 hts (gwV b_238 b_79 b_80 b_81 b_77) rfl rfl rfl hd_Sk_pass ⟨Nat.le_of_ble_eq_true rfl, Nat.le_of_ble_eq_true rfl⟩) ⟨mW_blind, va_recv hK hPc (ci := 3) (q0 := 0) rfl rfl, fun U hU hW => ⟨rfl, hC.to hW hU hS hAB, by rw [hU], by rw [hU]; exact hPc, hDc.weaken (fun _ _ _ => hAB _), by rw [hU]; exact hRc, hQc⟩⟩ rfl rfl hl.1 rfl (lv_room (Nat.le_of_ble_eq_true rfl)) d_Sh_showLetter_173 ⟨Nat.le_of_ble_eq_true rfl, Nat.le_of_ble_eq_true rfl⟩) hS (fun q _ h => hFc q h) hFc (fun v30 t H1 locs ht hvm h hB hz1 hk1 hS => ?_)
    rw [ht] at hB
    have hj9 := mw_join (wr := [(a0_0, .inr (4, [.ref a0_1, .int (shD u0), .int (shC u0), .int (shT u0)])), (a0_1, .inl (G.2.1 1, shN u0, .inl (shF u0)))]) (w1 := [(a4_0, .inr (3, [.int (skW v30), .int (skP v30), .int (skF v30)]))]) hP hD [2] [0, 1] rfl rfl (by decide) (by decide) (by decide) hk1 hFc hB rfl
    have hP : va_P G.1 vwCl [(a0_0, .inr (4, [.ref a0_1, .int (shD u0), .int (shC u0), .int (shT u0)])), (a0_1, .inl (G.2.1 1, shN u0, .inl (shF u0))), (a4_0, .inr (3, [.int (skW v30), .int (skP v30), .int (skF v30)]))] H1 := hj9.1
    have hD : va_D A [(a0_0, .inr (4, [.ref a0_1, .int (shD u0), .int (shC u0), .int (shT u0)])), (a0_1, .inl (G.2.1 1, shN u0, .inl (shF u0))), (a4_0, .inr (3, [.int (skW v30), .int (skP v30), .int (skF v30)]))] := hj9.2
    generalize H1 = H at hP hS ⊢
    refine lv_goto (tgt := 246) hx hb d_Sh_showLetter_176 (by decide) ?_
    exact W.vret hx hb hr (fun t ht hW => ⟨⟨_, rfl, h, vaP_at ht hP⟩, hS.F ht⟩) hS.2.2 d_Sh_showLetter_246
  by_cases c1018 : x3 = 18
  · have h := hsw
    have h := h.2.2.2.2.2.1 (c1018)
    refine lv_tabK (a := 18) (off := 171) (tgt := 179) hx hb d_Sh_showLetter_8 c1018 t32_18 (by decide) (by decide) rfl (by decide) ?_
    refine lv_aload hx hb d_Sh_showLetter_179 (lv_at hl 5 rfl) ?_
    refine lv_bipush (v := 63) hx hb d_Sh_showLetter_181 (by decide) ?_
    have hRc : va_P G.1 vwCl [] H := vaP_nil
    have hPc := hP.sub (ws' := [(a4_0, .inr (3, [.int (skW u4), .int (skP u4), .int (skF u4)]))]) [2] rfl
    have hDc := hD.sub (ws' := [(a4_0, .inr (3, [.int (skW u4), .int (skP u4), .int (skF u4)]))]) [2] (by decide) rfl
    have hFc := va_free (wc := [(a4_0, .inr (3, [.int (skW u4), .int (skP u4), .int (skF u4)]))]) hD hS hA [2] rfl
    have hQc : mw_ap [(a4_0, .inr (3, [.int (skW u4), .int (skP u4), .int (skF u4)]))] [] := mw_ap_nil
    refine va_callv (va_runV (As := [.int 63]) (rest := []) ⟨hx, hb, hml, hown, hts⟩ (c_Sk_pass l G a4_0 u4 63 H.size _ h) (cwV 1 hts (gwV b_238 b_79 b_80 b_81 b_77) rfl rfl rfl hd_Sk_pass ⟨Nat.le_of_ble_eq_true rfl, Nat.le_of_ble_eq_true rfl⟩) ⟨mW_blind, va_recv hK hPc (ci := 3) (q0 := 0) rfl rfl, fun U hU hW => ⟨rfl, hC.to hW hU hS hAB, by rw [hU], by rw [hU]; exact hPc, hDc.weaken (fun _ _ _ => hAB _), by rw [hU]; exact hRc, hQc⟩⟩ rfl rfl hl.1 rfl (lv_room (Nat.le_of_ble_eq_true rfl)) d_Sh_showLetter_183 ⟨Nat.le_of_ble_eq_true rfl, Nat.le_of_ble_eq_true rfl⟩) hS (fun q _ h => hFc q h) hFc (fun v31 t H1 locs ht hvm h hB hz1 hk1 hS => ?_)
    rw [ht] at hB
    have hj9 := mw_join (wr := [(a0_0, .inr (4, [.ref a0_1, .int (shD u0), .int (shC u0), .int (shT u0)])), (a0_1, .inl (G.2.1 1, shN u0, .inl (shF u0)))]) (w1 := [(a4_0, .inr (3, [.int (skW v31), .int (skP v31), .int (skF v31)]))]) hP hD [2] [0, 1] rfl rfl (by decide) (by decide) (by decide) hk1 hFc hB rfl
    have hP : va_P G.1 vwCl [(a0_0, .inr (4, [.ref a0_1, .int (shD u0), .int (shC u0), .int (shT u0)])), (a0_1, .inl (G.2.1 1, shN u0, .inl (shF u0))), (a4_0, .inr (3, [.int (skW v31), .int (skP v31), .int (skF v31)]))] H1 := hj9.1
    have hD : va_D A [(a0_0, .inr (4, [.ref a0_1, .int (shD u0), .int (shC u0), .int (shT u0)])), (a0_1, .inl (G.2.1 1, shN u0, .inl (shF u0))), (a4_0, .inr (3, [.int (skW v31), .int (skP v31), .int (skF v31)]))] := hj9.2
    generalize H1 = H at hP hS ⊢
    refine lv_aload hx hb d_Sh_showLetter_186 (lv_at hl 5 rfl) ?_
    refine lv_iload hx hb d_Sh_showLetter_188 (lv_at hl 0 rfl) ?_
    have hRc : va_P G.1 vwCl [] H := vaP_nil
    have hPc := hP.sub (ws' := [(a4_0, .inr (3, [.int (skW v31), .int (skP v31), .int (skF v31)]))]) [2] rfl
    have hDc := hD.sub (ws' := [(a4_0, .inr (3, [.int (skW v31), .int (skP v31), .int (skF v31)]))]) [2] (by decide) rfl
    have hFc := va_free (wc := [(a4_0, .inr (3, [.int (skW v31), .int (skP v31), .int (skF v31)]))]) hD hS hA [2] rfl
    have hQc : mw_ap [(a4_0, .inr (3, [.int (skW v31), .int (skP v31), .int (skF v31)]))] [] := mw_ap_nil
    refine va_callv (va_runV (As := [.int r26]) (rest := []) ⟨hx, hb, hml, hown, hts⟩ (c_Sk_pass l G a4_0 v31 r26 H.size _ h) (cwV 1 hts (gwV b_238 b_79 b_80 b_81 b_77) rfl rfl rfl hd_Sk_pass ⟨Nat.le_of_ble_eq_true rfl, Nat.le_of_ble_eq_true rfl⟩) ⟨mW_blind, va_recv hK hPc (ci := 3) (q0 := 0) rfl rfl, fun U hU hW => ⟨rfl, hC.to hW hU hS hAB, by rw [hU], by rw [hU]; exact hPc, hDc.weaken (fun _ _ _ => hAB _), by rw [hU]; exact hRc, hQc⟩⟩ rfl rfl hl.1 rfl (lv_room (Nat.le_of_ble_eq_true rfl)) d_Sh_showLetter_190 ⟨Nat.le_of_ble_eq_true rfl, Nat.le_of_ble_eq_true rfl⟩) hS (fun q _ h => hFc q h) hFc (fun v32 t H1 locs ht hvm h hB hz1 hk1 hS => ?_)
    rw [ht] at hB
    have hj9 := mw_join (wr := [(a0_0, .inr (4, [.ref a0_1, .int (shD u0), .int (shC u0), .int (shT u0)])), (a0_1, .inl (G.2.1 1, shN u0, .inl (shF u0)))]) (w1 := [(a4_0, .inr (3, [.int (skW v32), .int (skP v32), .int (skF v32)]))]) hP hD [2] [0, 1] rfl rfl (by decide) (by decide) (by decide) hk1 hFc hB rfl
    have hP : va_P G.1 vwCl [(a0_0, .inr (4, [.ref a0_1, .int (shD u0), .int (shC u0), .int (shT u0)])), (a0_1, .inl (G.2.1 1, shN u0, .inl (shF u0))), (a4_0, .inr (3, [.int (skW v32), .int (skP v32), .int (skF v32)]))] H1 := hj9.1
    have hD : va_D A [(a0_0, .inr (4, [.ref a0_1, .int (shD u0), .int (shC u0), .int (shT u0)])), (a0_1, .inl (G.2.1 1, shN u0, .inl (shF u0))), (a4_0, .inr (3, [.int (skW v32), .int (skP v32), .int (skF v32)]))] := hj9.2
    generalize H1 = H at hP hS ⊢
    refine lv_goto (tgt := 246) hx hb d_Sh_showLetter_193 (by decide) ?_
    exact W.vret hx hb hr (fun t ht hW => ⟨⟨_, rfl, h, vaP_at ht hP⟩, hS.F ht⟩) hS.2.2 d_Sh_showLetter_246
  by_cases c1019 : x3 = 19
  · have h := hsw
    have h := h.2.2.2.2.2.2.1 (c1019)
    refine lv_tabK (a := 19) (off := 135) (tgt := 143) hx hb d_Sh_showLetter_8 c1019 t32_19 (by decide) (by decide) rfl (by decide) ?_
    refine lv_aload_n hx hb d_Sh_showLetter_143 rfl (lv_at hl 1 rfl) ?_
    refine va_get (D := G.1) (ci := 4) (v := .ref a0_1) (C := R_Sh) (T := T_Sh) (N := 4) hx hb hts i_Sh hown hK hP 0 rfl rfl 0 (by decide) (hts _ b_239) (fun _ h9 => h9) rfl d_Sh_showLetter_144 ?_
    refine lv_aload_n hx hb d_Sh_showLetter_147 rfl (lv_at hl 1 rfl) ?_
    refine va_get (D := G.1) (ci := 4) (v := .int (shD u0)) (C := R_Sh) (T := T_Sh) (N := 4) hx hb hts i_Sh hown hK hP 0 rfl rfl 1 (by decide) (hts _ b_228) (fun _ h9 => h9) rfl d_Sh_showLetter_148 ?_
    refine lv_dup2_11 hx hb d_Sh_showLetter_151 rfl rfl ?_
    have hi9 := h.1
    have h := h.2
    refine va_iald hx hb hK hP 1 1 rfl rfl hi9 d_Sh_showLetter_152 ?_
    refine lv_iconst (v := 1) hx hb d_Sh_showLetter_153 (by decide) ?_
    refine lv_iadd hx hb d_Sh_showLetter_154 ?_
    have hi9 := h.1
    have h := h.2
    refine va_iast hx hb hK hP hD hS 1 1 rfl rfl hi9 d_Sh_showLetter_155 (fun H locs hP hD hS => ?_)
    have hP : va_P G.1 vwCl [(a0_0, .inr (4, [.ref a0_1, .int (shD u0), .int (shC u0), .int (shT u0)])), (a0_1, .inl (G.2.1 1, shN u0, .inl (upd (shF u0) (shD u0).toNatClampNeg (((shF u0) (shD u0).toNatClampNeg) + 1)))), (a4_0, .inr (3, [.int (skW u4), .int (skP u4), .int (skF u4)]))] H := hP
    have hD : va_D A [(a0_0, .inr (4, [.ref a0_1, .int (shD u0), .int (shC u0), .int (shT u0)])), (a0_1, .inl (G.2.1 1, shN u0, .inl (upd (shF u0) (shD u0).toNatClampNeg (((shF u0) (shD u0).toNatClampNeg) + 1)))), (a4_0, .inr (3, [.int (skW u4), .int (skP u4), .int (skF u4)]))] := hD
    refine lv_goto (tgt := 246) hx hb d_Sh_showLetter_156 (by decide) ?_
    exact W.vret hx hb hr (fun t ht hW => ⟨⟨_, rfl, h, vaP_at ht hP⟩, hS.F ht⟩) hS.2.2 d_Sh_showLetter_246
  by_cases c1020 : x3 = 20
  · have h := hsw
    have h := h.2.2.2.2.2.2.2.1 (Or.inl c1020)
    refine lv_tabK (a := 20) (off := 116) (tgt := 124) hx hb d_Sh_showLetter_8 c1020 t32_20 (by decide) (by decide) rfl (by decide) ?_
    exact t_Sh_showLetter_124 E hR hA hAB hRn  _ _ _ _ _ _ h hP hD hS (lv_sub hl [1, 5, 0] rfl)
  by_cases c1021 : x3 = 21
  · have h := hsw
    have h := h.2.2.2.2.2.2.2.1 (Or.inr (c1021))
    refine lv_tabK (a := 21) (off := 116) (tgt := 124) hx hb d_Sh_showLetter_8 c1021 t32_21 (by decide) (by decide) rfl (by decide) ?_
    exact t_Sh_showLetter_124 E hR hA hAB hRn  _ _ _ _ _ _ h hP hD hS (lv_sub hl [1, 5, 0] rfl)
  by_cases c1022 : x3 = 22
  · have h := hsw
    have h := h.2.2.2.2.2.2.2.2.2 ⟨(fun z => absurd (c1022.symm.trans z) (by decide)), (fun z => absurd (c1022.symm.trans z) (by decide)), (fun z => absurd (c1022.symm.trans z) (by decide)), (fun z => absurd (c1022.symm.trans z) (by decide)), (fun z => absurd (c1022.symm.trans z) (by decide)), (fun z => absurd (c1022.symm.trans z) (by decide)), (fun z => absurd (c1022.symm.trans z) (by decide)), (fun z => absurd (c1022.symm.trans z) (by decide)), (fun z => absurd (c1022.symm.trans z) (by decide)), (fun z => absurd (c1022.symm.trans z) (by decide)), (fun z => absurd (c1022.symm.trans z) (by decide)), (fun z => absurd (c1022.symm.trans z) (by decide)), (fun z => absurd (c1022.symm.trans z) (by decide)), (fun z => absurd (c1022.symm.trans z) (by decide))⟩
    refine lv_tabK (a := 22) (off := 226) (tgt := 234) hx hb d_Sh_showLetter_8 c1022 t32_22 (by decide) (by decide) rfl (by decide) ?_
    exact t_Sh_showLetter_234 E hR hA hAB hRn  _ _ _ _ _ _ _ h hP hD hS (lv_sub hl [1, 4, 5, 0] rfl)
  by_cases c1023 : x3 = 23
  · have h := hsw
    have h := h.2.2.2.2.2.2.2.2.2 ⟨(fun z => absurd (c1023.symm.trans z) (by decide)), (fun z => absurd (c1023.symm.trans z) (by decide)), (fun z => absurd (c1023.symm.trans z) (by decide)), (fun z => absurd (c1023.symm.trans z) (by decide)), (fun z => absurd (c1023.symm.trans z) (by decide)), (fun z => absurd (c1023.symm.trans z) (by decide)), (fun z => absurd (c1023.symm.trans z) (by decide)), (fun z => absurd (c1023.symm.trans z) (by decide)), (fun z => absurd (c1023.symm.trans z) (by decide)), (fun z => absurd (c1023.symm.trans z) (by decide)), (fun z => absurd (c1023.symm.trans z) (by decide)), (fun z => absurd (c1023.symm.trans z) (by decide)), (fun z => absurd (c1023.symm.trans z) (by decide)), (fun z => absurd (c1023.symm.trans z) (by decide))⟩
    refine lv_tabK (a := 23) (off := 226) (tgt := 234) hx hb d_Sh_showLetter_8 c1023 t32_23 (by decide) (by decide) rfl (by decide) ?_
    exact t_Sh_showLetter_234 E hR hA hAB hRn  _ _ _ _ _ _ _ h hP hD hS (lv_sub hl [1, 4, 5, 0] rfl)
  by_cases c1024 : x3 = 24
  · have h := hsw
    have h := h.2.2.2.2.2.2.2.2.1 (c1024)
    refine lv_tabK (a := 24) (off := 199) (tgt := 207) hx hb d_Sh_showLetter_8 c1024 t32_24 (by decide) (by decide) rfl (by decide) ?_
    refine lv_aload hx hb d_Sh_showLetter_207 (lv_at hl 5 rfl) ?_
    refine lv_aload_n hx hb d_Sh_showLetter_209 rfl (lv_at hl 1 rfl) ?_
    refine va_get (D := G.1) (ci := 4) (v := .int (shT u0)) (C := R_Sh) (T := T_Sh) (N := 4) hx hb hts i_Sh hown hK hP 0 rfl rfl 3 (by decide) (hts _ b_245) (fun _ h9 => h9) rfl d_Sh_showLetter_210 ?_
    refine lv_if_eq (tgt := 221) hx hb d_Sh_showLetter_213 (by decide) (fun c9 => ?_) (fun c9 => ?_)
    · have h := h.1 c9
      refine lv_bipush (v := 94) hx hb d_Sh_showLetter_221 (by decide) ?_
      exact t_Sh_showLetter_223 E hR hA hAB hRn  _ _ _ _ _ _ h hP hD hS (lv_sub hl [1] rfl)
    · have h := h.2 c9
      refine lv_bipush (v := 44) hx hb d_Sh_showLetter_216 (by decide) ?_
      refine lv_goto (tgt := 223) hx hb d_Sh_showLetter_218 (by decide) ?_
      exact t_Sh_showLetter_223 E hR hA hAB hRn  _ _ _ _ _ _ h hP hD hS (lv_sub hl [1] rfl)
  have h := hsw.2.2.2.2.2.2.2.2.2 ⟨c1003, c1004, c1006, c1008, c1009, c1011, c1012, c1014, c1017, c1018, c1019, c1020, c1021, c1024⟩
  refine lv_tableOut (tgt := 234) hx hb d_Sh_showLetter_8 (sw_out (lo := 3) (n := 22) (lt_s (lt_s (lt_s (lt_s (lt_s (lt_s (lt_s (lt_s (lt_s (lt_s (lt_s (lt_s (lt_s (lt_s (lt_s (lt_s (lt_s (lt_s (lt_s (lt_s (lt_s (lt_s lt_0 (lv_neT c1003 t32_3)) (lv_neT c1004 t32_4)) (lv_neT c1005 t32_5)) (lv_neT c1006 t32_6)) (lv_neT c1007 t32_7)) (lv_neT c1008 t32_8)) (lv_neT c1009 t32_9)) (lv_neT c1010 t32_10)) (lv_neT c1011 t32_11)) (lv_neT c1012 t32_12)) (lv_neT c1013 t32_13)) (lv_neT c1014 t32_14)) (lv_neT c1015 t32_15)) (lv_neT c1016 t32_16)) (lv_neT c1017 t32_17)) (lv_neT c1018 t32_18)) (lv_neT c1019 t32_19)) (lv_neT c1020 t32_20)) (lv_neT c1021 t32_21)) (lv_neT c1022 t32_22)) (lv_neT c1023 t32_23)) (lv_neT c1024 t32_24))) (by decide) ?_
  exact t_Sh_showLetter_234 E hR hA hAB hRn  _ _ _ _ _ _ _ h hP hD hS (lv_sub hl [1, 4, 5, 0] rfl)
set_option maxHeartbeats 4000000 in
set_option maxRecDepth 100000 in
theorem c_Sh_showLetter (l : Launch) (G : GX) (a0_0 a0_1 a1_0 a1_1 a1_2 a1_3 a1_4 a4_0 : Nat) (u0 : ShC) (u1 : SgC) (u4 : SkC) (x2 : Int32) (x3 : Int32) (sz : Nat) (post : (ShC × SkC) → Prop) (h : wp_Sh_showLetter post u0 u1 u4 x2 x3) : Met l y_Sh_showLetter wc_Sh_showLetter rm_Sh_showLetter (mW G [.ref a0_0, .ref a1_0, .int x2, .int x3, .ref a4_0] sz [(a0_0, .inr (4, [.ref a0_1, .int (shD u0), .int (shC u0), .int (shT u0)])), (a0_1, .inl (G.2.1 1, shN u0, .inl (shF u0))), (a4_0, .inr (3, [.int (skW u4), .int (skP u4), .int (skF u4)]))] [(a1_0, .inr (5, [.int (sgK u1), .ref a1_1, .ref a1_2, .ref a1_3, .ref a1_4, .int (sgO u1), .int (sgP u1)])), (a1_1, .inl (G.2.1 0, sgN u1, .inl (sgL u1))), (a1_2, .inl (G.2.1 1, sgN u1, .inl (sgR u1))), (a1_3, .inl (G.2.1 1, sgM u1, .inl (sgB u1))), (a1_4, .inl (G.2.1 1, sgM u1, .inl (sgE u1)))]) (va_Qv post (fun (u : ShC × SkC) (t : State) => va_P G.1 vwCl [(a0_0, .inr (4, [.ref a0_1, .int (shD u.1), .int (shC u.1), .int (shT u.1)])), (a0_1, .inl (G.2.1 1, shN u.1, .inl (shF u.1))), (a4_0, .inr (3, [.int (skW u.2), .int (skP u.2), .int (skF u.2)]))] t.heap) (va_A [(a0_0, .inr (4, [.ref a0_1, .int (shD u0), .int (shC u0), .int (shT u0)])), (a0_1, .inl (G.2.1 1, shN u0, .inl (shF u0))), (a4_0, .inr (3, [.int (skW u4), .int (skP u4), .int (skF u4)]))] sz)) 0 0 (va_A [(a0_0, .inr (4, [.ref a0_1, .int (shD u0), .int (shC u0), .int (shT u0)])), (a0_1, .inl (G.2.1 1, shN u0, .inl (shF u0))), (a4_0, .inr (3, [.int (skW u4), .int (skP u4), .int (skF u4)]))] sz) := by
  refine Met.ofW (cc := cc_Sh_showLetter) (maxL := 6) (ret := none) (by decide) rfl ?_
  intro p e s m args below meth c s₁ B hml hv
  obtain ⟨rfl, hC, hsz, hP, hD0, hR, hap⟩ := hv
  have E : EN p s m ([.ref a0_0, .ref a1_0, .int x2, .int x3, .ref a4_0] : List Value).toArray meth c G R_Sh cc_Sh_showLetter 6 none BG := ⟨B.exec, B.bytes, B.returns, fun w h => atoms_spec (ws := wc_Sh_showLetter) B.pre w (List.mem_cons_of_mem _ h), findClass_of_methodNamed B.named, B.notSynchronized, hml, hC⟩
  subst hsz
  have hD := hD0.self (sz := s.heap.size)
  have hRn := mw_notA hR hap
  have hAB := mw_AB hD0 hC
  have hA : ∀ q : Nat, s.heap.size ≤ q → va_A [(a0_0, .inr (4, [.ref a0_1, .int (shD u0), .int (shC u0), .int (shT u0)])), (a0_1, .inl (G.2.1 1, shN u0, .inl (shF u0))), (a4_0, .inr (3, [.int (skW u4), .int (skP u4), .int (skF u4)]))] s.heap.size q := fun q z => Or.inr z
  generalize va_A [(a0_0, .inr (4, [.ref a0_1, .int (shD u0), .int (shC u0), .int (shT u0)])), (a0_1, .inl (G.2.1 1, shN u0, .inl (shF u0))), (a4_0, .inr (3, [.int (skW u4), .int (skP u4), .int (skF u4)]))] s.heap.size = A at hD hRn hAB hA ⊢
  have hl := lv_entry ([.ref a0_0, .ref a1_0, .int x2, .int x3, .ref a4_0]) (n := 6) (Nat.le_of_ble_eq_true rfl)
  rw [lg_entry_eq]
  generalize (lg_sl ([.ref a0_0, .ref a1_0, .int x2, .int x3, .ref a4_0]) ++ List.replicate (6 - (lg_sl ([.ref a0_0, .ref a1_0, .int x2, .int x3, .ref a4_0])).length) Slot.unset).toArray = ls at hl ⊢
  have hl : lv_has ls 6 [(0, .ref a0_0), (1, .ref a1_0), (2, .int x2), (3, .int x3), (4, .ref a4_0)] := hl
  exact t_Sh_showLetter_in E hR hA hAB hRn _ _ _ h hP hD va_S.rf hl
set_option maxHeartbeats 4000000 in
set_option maxRecDepth 100000 in
theorem tb_Sh_show_24 {p : Program} {l : Launch} {e : Env} {s : State} {m : MethodId} {args : Array Value} {below : List Frame} {meth : Method} {c : Code} {G : GX} {a0_0 a0_1 a1_0 a1_1 a1_2 a1_3 a1_4 a2_0 : Nat} {u1 : SgC} {post : (ShC × SkC) → Prop} {A : Nat → Prop} (E : EN p s m args meth c G R_Sh cc_Sh_show 5 none BG) (hR : va_P G.1 vwCl [(a1_0, .inr (5, [.int (sgK u1), .ref a1_1, .ref a1_2, .ref a1_3, .ref a1_4, .int (sgO u1), .int (sgP u1)])), (a1_1, .inl (G.2.1 0, sgN u1, .inl (sgL u1))), (a1_2, .inl (G.2.1 1, sgN u1, .inl (sgR u1))), (a1_3, .inl (G.2.1 1, sgM u1, .inl (sgB u1))), (a1_4, .inl (G.2.1 1, sgM u1, .inl (sgE u1)))] s.heap) (hA : ∀ q : Nat, s.heap.size ≤ q → A q) (hAB : ∀ q : Nat, A q → G.2.2.1 ≤ q) (hRn : ∀ (j : Nat) (q : Nat × va_E), ([(a1_0, .inr (5, [.int (sgK u1), .ref a1_1, .ref a1_2, .ref a1_3, .ref a1_4, .int (sgO u1), .int (sgP u1)])), (a1_1, .inl (G.2.1 0, sgN u1, .inl (sgL u1))), (a1_2, .inl (G.2.1 1, sgN u1, .inl (sgR u1))), (a1_3, .inl (G.2.1 1, sgM u1, .inl (sgB u1))), (a1_4, .inl (G.2.1 1, sgM u1, .inl (sgE u1)))] : va_W)[j]? = some q → ¬ A q.1) {K0 : Int32 → ShC → SkC → Prop} (hK0 : ∀ (y3 : Int32) (w0 : ShC) (w1 : SkC) (H : Heap) (locs : List Loc) (ls : Array Slot), K0 y3 w0 w1 → va_P G.1 vwCl [(a0_0, .inr (4, [.ref a0_1, .int (shD w0), .int (shC w0), .int (shT w0)])), (a0_1, .inl (G.2.1 1, shN w0, .inl (shF w0))), (a2_0, .inr (3, [.int (skW w1), .int (skP w1), .int (skF w1)]))] H → va_D A [(a0_0, .inr (4, [.ref a0_1, .int (shD w0), .int (shC w0), .int (shT w0)])), (a0_1, .inl (G.2.1 1, shN w0, .inl (shF w0))), (a2_0, .inr (3, [.int (skW w1), .int (skP w1), .int (skF w1)]))] → va_S A s.heap H locs → lv_has ls 5 [(0, .ref a0_0), (1, .ref a1_0), (2, .ref a2_0), (3, .int y3)] → W p l e rm_Sh_show s m args below meth c H locs 0 0 (MQ below (va_Qv post (fun (u : ShC × SkC) (t : State) => va_P G.1 vwCl [(a0_0, .inr (4, [.ref a0_1, .int (shD u.1), .int (shC u.1), .int (shT u.1)])), (a0_1, .inl (G.2.1 1, shN u.1, .inl (shF u.1))), (a2_0, .inr (3, [.int (skW u.2), .int (skP u.2), .int (skF u.2)]))] t.heap) A) args s 0 0 A) (F0 m 24 ls [])) : ∀ (y3 : Int32) (w0 : ShC) (w1 : SkC) (H : Heap) (locs : List Loc) (ls : Array Slot), wb_Sh_show_24 post u1 K0 y3 w0 w1 → va_P G.1 vwCl [(a0_0, .inr (4, [.ref a0_1, .int (shD w0), .int (shC w0), .int (shT w0)])), (a0_1, .inl (G.2.1 1, shN w0, .inl (shF w0))), (a2_0, .inr (3, [.int (skW w1), .int (skP w1), .int (skF w1)]))] H → va_D A [(a0_0, .inr (4, [.ref a0_1, .int (shD w0), .int (shC w0), .int (shT w0)])), (a0_1, .inl (G.2.1 1, shN w0, .inl (shF w0))), (a2_0, .inr (3, [.int (skW w1), .int (skP w1), .int (skF w1)]))] → va_S A s.heap H locs → lv_has ls 5 [(0, .ref a0_0), (1, .ref a1_0), (2, .ref a2_0), (3, .int y3)] → W p l e rm_Sh_show s m args below meth c H locs 0 0 (MQ below (va_Qv post (fun (u : ShC × SkC) (t : State) => va_P G.1 vwCl [(a0_0, .inr (4, [.ref a0_1, .int (shD u.1), .int (shC u.1), .int (shT u.1)])), (a0_1, .inl (G.2.1 1, shN u.1, .inl (shF u.1))), (a2_0, .inr (3, [.int (skW u.2), .int (skP u.2), .int (skF u.2)]))] t.heap) A) args s 0 0 A) (F0 m 24 ls []) := by
  obtain ⟨hx, hb, hr, hts, hown, hlocks, hml, hC⟩ := id E
  have hK := hC.1
  intro y3 w0 w1  H locs ls h hP hD hS hl
  unfold wb_Sh_show_24 at h
  refine lv_iload_n hx hb d_Sh_show_24 rfl (lv_at hl 3 rfl) ?_
  refine lv_aload_n hx hb d_Sh_show_25 rfl (lv_at hl 1 rfl) ?_
  refine va_getN (D := G.1) (ci := 5) (v := .ref a1_1) (C := R_Sg) (T := T_Sg) (N := 7) hx hb hts i_Sg hown hK (ro_now hR hRn hS) 0 rfl rfl 1 (by decide) (nf_17 hC) (fun _ h9 => h9) rfl d_Sh_show_26 ?_
  refine va_alen hx hb hK (ro_now hR hRn hS) 1 0 rfl rfl (v := Int32.ofNat (sgN u1)) rfl d_Sh_show_29 ?_
  refine lv_icmp_ge (tgt := 64) hx hb d_Sh_show_30 (by decide) (fun c9 => ?_) (fun c9 => ?_)
  · have h := h.1 c9
    exact W.vret hx hb hr (fun t ht hW => ⟨⟨_, rfl, h, vaP_at ht hP⟩, hS.F ht⟩) hS.2.2 d_Sh_show_64
  · have h := h.2 c9
    refine lv_aload_n hx hb d_Sh_show_33 rfl (lv_at hl 1 rfl) ?_
    refine lv_iload_n hx hb d_Sh_show_34 rfl (lv_at hl 3 rfl) ?_
    have hRc : va_P G.1 vwCl [(a1_0, .inr (5, [.int (sgK u1), .ref a1_1, .ref a1_2, .ref a1_3, .ref a1_4, .int (sgO u1), .int (sgP u1)])), (a1_1, .inl (G.2.1 0, sgN u1, .inl (sgL u1))), (a1_2, .inl (G.2.1 1, sgN u1, .inl (sgR u1))), (a1_3, .inl (G.2.1 1, sgM u1, .inl (sgB u1))), (a1_4, .inl (G.2.1 1, sgM u1, .inl (sgE u1)))] H := ((ro_now hR hRn hS).sub (ws' := [(a1_0, .inr (5, [.int (sgK u1), .ref a1_1, .ref a1_2, .ref a1_3, .ref a1_4, .int (sgO u1), .int (sgP u1)])), (a1_1, .inl (G.2.1 0, sgN u1, .inl (sgL u1))), (a1_2, .inl (G.2.1 1, sgN u1, .inl (sgR u1))), (a1_3, .inl (G.2.1 1, sgM u1, .inl (sgB u1))), (a1_4, .inl (G.2.1 1, sgM u1, .inl (sgE u1)))]) [0, 1, 2, 3, 4] rfl)
    refine vp_callSi (va_runV (As := [.int y3]) (rest := []) ⟨hx, hb, hml, hown, hts⟩ (c_Sg_roleAt l G a1_0 a1_1 a1_2 a1_3 a1_4 u1 y3 _ h) (cwV 1 hts (gwV b_230 b_177 b_178 b_173 b_175) rfl rfl rfl hd_Sg_roleAt ⟨Nat.le_of_ble_eq_true rfl, Nat.le_of_ble_eq_true rfl⟩) ⟨mP_blind, va_recv hK hRc (ci := 5) (q0 := 0) rfl rfl, fun U hU hW => ⟨rfl, hC.to hW hU hS hAB, by rw [hU]; exact hRc⟩⟩ rfl rfl hl.1 rfl (lv_room (Nat.le_of_ble_eq_true rfl)) d_Sh_show_35 ⟨Nat.le_of_ble_eq_true rfl, Nat.le_of_ble_eq_true rfl⟩).run (fun r4 h => ?_)
    refine lv_istore (lv' := [(4, .int r4), (0, .ref a0_0), (1, .ref a1_0), (2, .ref a2_0), (3, .int y3)]) hx hb d_Sh_show_38 hl (by decide) rfl (fun ls hl => ?_)
    refine lv_aload_n hx hb d_Sh_show_40 rfl (lv_at hl 1 rfl) ?_
    refine lv_aload_n hx hb d_Sh_show_41 rfl (lv_at hl 2 rfl) ?_
    refine lv_iload_n hx hb d_Sh_show_42 rfl (lv_at hl 4 rfl) ?_
    refine lv_iload hx hb d_Sh_show_43 (lv_at hl 0 rfl) ?_
    refine lv_aload_n hx hb d_Sh_show_45 rfl (lv_at hl 3 rfl) ?_
    have hRc : va_P G.1 vwCl [(a1_0, .inr (5, [.int (sgK u1), .ref a1_1, .ref a1_2, .ref a1_3, .ref a1_4, .int (sgO u1), .int (sgP u1)])), (a1_1, .inl (G.2.1 0, sgN u1, .inl (sgL u1))), (a1_2, .inl (G.2.1 1, sgN u1, .inl (sgR u1))), (a1_3, .inl (G.2.1 1, sgM u1, .inl (sgB u1))), (a1_4, .inl (G.2.1 1, sgM u1, .inl (sgE u1)))] H := ((ro_now hR hRn hS).sub (ws' := [(a1_0, .inr (5, [.int (sgK u1), .ref a1_1, .ref a1_2, .ref a1_3, .ref a1_4, .int (sgO u1), .int (sgP u1)])), (a1_1, .inl (G.2.1 0, sgN u1, .inl (sgL u1))), (a1_2, .inl (G.2.1 1, sgN u1, .inl (sgR u1))), (a1_3, .inl (G.2.1 1, sgM u1, .inl (sgB u1))), (a1_4, .inl (G.2.1 1, sgM u1, .inl (sgE u1)))]) [0, 1, 2, 3, 4] rfl)
    have hPc := hP.sub (ws' := [(a0_0, .inr (4, [.ref a0_1, .int (shD w0), .int (shC w0), .int (shT w0)])), (a0_1, .inl (G.2.1 1, shN w0, .inl (shF w0))), (a2_0, .inr (3, [.int (skW w1), .int (skP w1), .int (skF w1)]))]) [0, 1, 2] rfl
    have hDc := hD.sub (ws' := [(a0_0, .inr (4, [.ref a0_1, .int (shD w0), .int (shC w0), .int (shT w0)])), (a0_1, .inl (G.2.1 1, shN w0, .inl (shF w0))), (a2_0, .inr (3, [.int (skW w1), .int (skP w1), .int (skF w1)]))]) [0, 1, 2] (by decide) rfl
    have hFc := va_free (wc := [(a0_0, .inr (4, [.ref a0_1, .int (shD w0), .int (shC w0), .int (shT w0)])), (a0_1, .inl (G.2.1 1, shN w0, .inl (shF w0))), (a2_0, .inr (3, [.int (skW w1), .int (skP w1), .int (skF w1)]))]) hD hS hA [0, 1, 2] rfl
    have hQc : mw_ap [(a0_0, .inr (4, [.ref a0_1, .int (shD w0), .int (shC w0), .int (shT w0)])), (a0_1, .inl (G.2.1 1, shN w0, .inl (shF w0))), (a2_0, .inr (3, [.int (skW w1), .int (skP w1), .int (skF w1)]))] [(a1_0, .inr (5, [.int (sgK u1), .ref a1_1, .ref a1_2, .ref a1_3, .ref a1_4, .int (sgO u1), .int (sgP u1)])), (a1_1, .inl (G.2.1 0, sgN u1, .inl (sgL u1))), (a1_2, .inl (G.2.1 1, sgN u1, .inl (sgR u1))), (a1_3, .inl (G.2.1 1, sgM u1, .inl (sgB u1))), (a1_4, .inl (G.2.1 1, sgM u1, .inl (sgE u1)))] := (mw_ap_R (wc := [(a0_0, .inr (4, [.ref a0_1, .int (shD w0), .int (shC w0), .int (shT w0)])), (a0_1, .inl (G.2.1 1, shN w0, .inl (shF w0))), (a2_0, .inr (3, [.int (skW w1), .int (skP w1), .int (skF w1)]))]) (wr := [(a1_0, .inr (5, [.int (sgK u1), .ref a1_1, .ref a1_2, .ref a1_3, .ref a1_4, .int (sgO u1), .int (sgP u1)])), (a1_1, .inl (G.2.1 0, sgN u1, .inl (sgL u1))), (a1_2, .inl (G.2.1 1, sgN u1, .inl (sgR u1))), (a1_3, .inl (G.2.1 1, sgM u1, .inl (sgB u1))), (a1_4, .inl (G.2.1 1, sgM u1, .inl (sgE u1)))]) hFc hRn [0, 1, 2, 3, 4] rfl)
    refine va_callv (va_runV (As := [.ref a1_0, .int y3, .int r4, .ref a2_0]) (rest := []) ⟨hx, hb, hml, hown, hts⟩ (c_Sh_part l G a0_0 a0_1 a1_0 a1_1 a1_2 a1_3 a1_4 a2_0 w0 u1 w1 y3 r4 H.size _ h) (cwV 4 hts (gwV b_261 b_262 b_263 b_237 b_260) rfl rfl rfl hd_Sh_part ⟨Nat.le_of_ble_eq_true rfl, Nat.le_of_ble_eq_true rfl⟩) ⟨mW_blind, va_recv hK hPc (ci := 4) (q0 := 0) rfl rfl, fun U hU hW => ⟨rfl, hC.to hW hU hS hAB, by rw [hU], by rw [hU]; exact hPc, hDc.weaken (fun _ _ _ => hAB _), by rw [hU]; exact hRc, hQc⟩⟩ rfl rfl hl.1 rfl (lv_room (Nat.le_of_ble_eq_true rfl)) d_Sh_show_46 ⟨Nat.le_of_ble_eq_true rfl, Nat.le_of_ble_eq_true rfl⟩) hS (fun q _ h => hFc q h) hFc (fun v5 t H1 locs ht hvm h hB hz1 hk1 hS => ?_)
    rw [ht] at hB
    have hj9 := mw_join (wr := []) (w1 := [(a0_0, .inr (4, [.ref a0_1, .int (shD v5.1), .int (shC v5.1), .int (shT v5.1)])), (a0_1, .inl (G.2.1 1, shN v5.1, .inl (shF v5.1))), (a2_0, .inr (3, [.int (skW v5.2), .int (skP v5.2), .int (skF v5.2)]))]) hP hD [0, 1, 2] [] rfl rfl (by decide) (by decide) (by decide) hk1 hFc hB rfl
    have hP : va_P G.1 vwCl [(a0_0, .inr (4, [.ref a0_1, .int (shD v5.1), .int (shC v5.1), .int (shT v5.1)])), (a0_1, .inl (G.2.1 1, shN v5.1, .inl (shF v5.1))), (a2_0, .inr (3, [.int (skW v5.2), .int (skP v5.2), .int (skF v5.2)]))] H1 := hj9.1
    have hD : va_D A [(a0_0, .inr (4, [.ref a0_1, .int (shD v5.1), .int (shC v5.1), .int (shT v5.1)])), (a0_1, .inl (G.2.1 1, shN v5.1, .inl (shF v5.1))), (a2_0, .inr (3, [.int (skW v5.2), .int (skP v5.2), .int (skF v5.2)]))] := hj9.2
    generalize H1 = H at hP hS ⊢
    refine lv_aload_n hx hb d_Sh_show_49 rfl (lv_at hl 1 rfl) ?_
    refine lv_aload_n hx hb d_Sh_show_50 rfl (lv_at hl 2 rfl) ?_
    refine lv_iload_n hx hb d_Sh_show_51 rfl (lv_at hl 4 rfl) ?_
    refine lv_iload hx hb d_Sh_show_52 (lv_at hl 0 rfl) ?_
    refine lv_aload_n hx hb d_Sh_show_54 rfl (lv_at hl 3 rfl) ?_
    have hRc : va_P G.1 vwCl [(a1_0, .inr (5, [.int (sgK u1), .ref a1_1, .ref a1_2, .ref a1_3, .ref a1_4, .int (sgO u1), .int (sgP u1)])), (a1_1, .inl (G.2.1 0, sgN u1, .inl (sgL u1))), (a1_2, .inl (G.2.1 1, sgN u1, .inl (sgR u1))), (a1_3, .inl (G.2.1 1, sgM u1, .inl (sgB u1))), (a1_4, .inl (G.2.1 1, sgM u1, .inl (sgE u1)))] H := ((ro_now hR hRn hS).sub (ws' := [(a1_0, .inr (5, [.int (sgK u1), .ref a1_1, .ref a1_2, .ref a1_3, .ref a1_4, .int (sgO u1), .int (sgP u1)])), (a1_1, .inl (G.2.1 0, sgN u1, .inl (sgL u1))), (a1_2, .inl (G.2.1 1, sgN u1, .inl (sgR u1))), (a1_3, .inl (G.2.1 1, sgM u1, .inl (sgB u1))), (a1_4, .inl (G.2.1 1, sgM u1, .inl (sgE u1)))]) [0, 1, 2, 3, 4] rfl)
    have hPc := hP.sub (ws' := [(a0_0, .inr (4, [.ref a0_1, .int (shD v5.1), .int (shC v5.1), .int (shT v5.1)])), (a0_1, .inl (G.2.1 1, shN v5.1, .inl (shF v5.1))), (a2_0, .inr (3, [.int (skW v5.2), .int (skP v5.2), .int (skF v5.2)]))]) [0, 1, 2] rfl
    have hDc := hD.sub (ws' := [(a0_0, .inr (4, [.ref a0_1, .int (shD v5.1), .int (shC v5.1), .int (shT v5.1)])), (a0_1, .inl (G.2.1 1, shN v5.1, .inl (shF v5.1))), (a2_0, .inr (3, [.int (skW v5.2), .int (skP v5.2), .int (skF v5.2)]))]) [0, 1, 2] (by decide) rfl
    have hFc := va_free (wc := [(a0_0, .inr (4, [.ref a0_1, .int (shD v5.1), .int (shC v5.1), .int (shT v5.1)])), (a0_1, .inl (G.2.1 1, shN v5.1, .inl (shF v5.1))), (a2_0, .inr (3, [.int (skW v5.2), .int (skP v5.2), .int (skF v5.2)]))]) hD hS hA [0, 1, 2] rfl
    have hQc : mw_ap [(a0_0, .inr (4, [.ref a0_1, .int (shD v5.1), .int (shC v5.1), .int (shT v5.1)])), (a0_1, .inl (G.2.1 1, shN v5.1, .inl (shF v5.1))), (a2_0, .inr (3, [.int (skW v5.2), .int (skP v5.2), .int (skF v5.2)]))] [(a1_0, .inr (5, [.int (sgK u1), .ref a1_1, .ref a1_2, .ref a1_3, .ref a1_4, .int (sgO u1), .int (sgP u1)])), (a1_1, .inl (G.2.1 0, sgN u1, .inl (sgL u1))), (a1_2, .inl (G.2.1 1, sgN u1, .inl (sgR u1))), (a1_3, .inl (G.2.1 1, sgM u1, .inl (sgB u1))), (a1_4, .inl (G.2.1 1, sgM u1, .inl (sgE u1)))] := (mw_ap_R (wc := [(a0_0, .inr (4, [.ref a0_1, .int (shD v5.1), .int (shC v5.1), .int (shT v5.1)])), (a0_1, .inl (G.2.1 1, shN v5.1, .inl (shF v5.1))), (a2_0, .inr (3, [.int (skW v5.2), .int (skP v5.2), .int (skF v5.2)]))]) (wr := [(a1_0, .inr (5, [.int (sgK u1), .ref a1_1, .ref a1_2, .ref a1_3, .ref a1_4, .int (sgO u1), .int (sgP u1)])), (a1_1, .inl (G.2.1 0, sgN u1, .inl (sgL u1))), (a1_2, .inl (G.2.1 1, sgN u1, .inl (sgR u1))), (a1_3, .inl (G.2.1 1, sgM u1, .inl (sgB u1))), (a1_4, .inl (G.2.1 1, sgM u1, .inl (sgE u1)))]) hFc hRn [0, 1, 2, 3, 4] rfl)
    refine va_callv (va_runV (As := [.ref a1_0, .int y3, .int r4, .ref a2_0]) (rest := []) ⟨hx, hb, hml, hown, hts⟩ (c_Sh_showLetter l G a0_0 a0_1 a1_0 a1_1 a1_2 a1_3 a1_4 a2_0 v5.1 u1 v5.2 y3 r4 H.size _ h) (cwV 4 hts (gwV b_265 b_266 b_267 b_237 b_264) rfl rfl rfl hd_Sh_showLetter ⟨Nat.le_of_ble_eq_true rfl, Nat.le_of_ble_eq_true rfl⟩) ⟨mW_blind, va_recv hK hPc (ci := 4) (q0 := 0) rfl rfl, fun U hU hW => ⟨rfl, hC.to hW hU hS hAB, by rw [hU], by rw [hU]; exact hPc, hDc.weaken (fun _ _ _ => hAB _), by rw [hU]; exact hRc, hQc⟩⟩ rfl rfl hl.1 rfl (lv_room (Nat.le_of_ble_eq_true rfl)) d_Sh_show_55 ⟨Nat.le_of_ble_eq_true rfl, Nat.le_of_ble_eq_true rfl⟩) hS (fun q _ h => hFc q h) hFc (fun v6 t H1 locs ht hvm h hB hz1 hk1 hS => ?_)
    rw [ht] at hB
    have hj9 := mw_join (wr := []) (w1 := [(a0_0, .inr (4, [.ref a0_1, .int (shD v6.1), .int (shC v6.1), .int (shT v6.1)])), (a0_1, .inl (G.2.1 1, shN v6.1, .inl (shF v6.1))), (a2_0, .inr (3, [.int (skW v6.2), .int (skP v6.2), .int (skF v6.2)]))]) hP hD [0, 1, 2] [] rfl rfl (by decide) (by decide) (by decide) hk1 hFc hB rfl
    have hP : va_P G.1 vwCl [(a0_0, .inr (4, [.ref a0_1, .int (shD v6.1), .int (shC v6.1), .int (shT v6.1)])), (a0_1, .inl (G.2.1 1, shN v6.1, .inl (shF v6.1))), (a2_0, .inr (3, [.int (skW v6.2), .int (skP v6.2), .int (skF v6.2)]))] H1 := hj9.1
    have hD : va_D A [(a0_0, .inr (4, [.ref a0_1, .int (shD v6.1), .int (shC v6.1), .int (shT v6.1)])), (a0_1, .inl (G.2.1 1, shN v6.1, .inl (shF v6.1))), (a2_0, .inr (3, [.int (skW v6.2), .int (skP v6.2), .int (skF v6.2)]))] := hj9.2
    generalize H1 = H at hP hS ⊢
    refine lv_iinc (v := y3 + 1) (lv' := [(3, .int (y3 + 1)), (4, .int r4), (0, .ref a0_0), (1, .ref a1_0), (2, .ref a2_0)]) hx hb d_Sh_show_58 hl (k := 4) rfl rfl (by decide) rfl (fun ls hl => ?_)
    refine lv_goto (tgt := 24) hx hb d_Sh_show_61 (by decide) ?_
    exact hK0 _ _ _ _ _ _ h hP hD hS (lv_sub hl [2, 3, 4, 0] rfl)
set_option maxHeartbeats 4000000 in
set_option maxRecDepth 100000 in
theorem t_Sh_show_24 {p : Program} {l : Launch} {e : Env} {s : State} {m : MethodId} {args : Array Value} {below : List Frame} {meth : Method} {c : Code} {G : GX} {a0_0 a0_1 a1_0 a1_1 a1_2 a1_3 a1_4 a2_0 : Nat} {u1 : SgC} {post : (ShC × SkC) → Prop} {A : Nat → Prop} (E : EN p s m args meth c G R_Sh cc_Sh_show 5 none BG) (hR : va_P G.1 vwCl [(a1_0, .inr (5, [.int (sgK u1), .ref a1_1, .ref a1_2, .ref a1_3, .ref a1_4, .int (sgO u1), .int (sgP u1)])), (a1_1, .inl (G.2.1 0, sgN u1, .inl (sgL u1))), (a1_2, .inl (G.2.1 1, sgN u1, .inl (sgR u1))), (a1_3, .inl (G.2.1 1, sgM u1, .inl (sgB u1))), (a1_4, .inl (G.2.1 1, sgM u1, .inl (sgE u1)))] s.heap) (hA : ∀ q : Nat, s.heap.size ≤ q → A q) (hAB : ∀ q : Nat, A q → G.2.2.1 ≤ q) (hRn : ∀ (j : Nat) (q : Nat × va_E), ([(a1_0, .inr (5, [.int (sgK u1), .ref a1_1, .ref a1_2, .ref a1_3, .ref a1_4, .int (sgO u1), .int (sgP u1)])), (a1_1, .inl (G.2.1 0, sgN u1, .inl (sgL u1))), (a1_2, .inl (G.2.1 1, sgN u1, .inl (sgR u1))), (a1_3, .inl (G.2.1 1, sgM u1, .inl (sgB u1))), (a1_4, .inl (G.2.1 1, sgM u1, .inl (sgE u1)))] : va_W)[j]? = some q → ¬ A q.1) : ∀ (n : Nat) (y3 : Int32) (w0 : ShC) (w1 : SkC) (H : Heap) (locs : List Loc) (ls : Array Slot), w_Sh_show_24 post u1 n y3 w0 w1 → va_P G.1 vwCl [(a0_0, .inr (4, [.ref a0_1, .int (shD w0), .int (shC w0), .int (shT w0)])), (a0_1, .inl (G.2.1 1, shN w0, .inl (shF w0))), (a2_0, .inr (3, [.int (skW w1), .int (skP w1), .int (skF w1)]))] H → va_D A [(a0_0, .inr (4, [.ref a0_1, .int (shD w0), .int (shC w0), .int (shT w0)])), (a0_1, .inl (G.2.1 1, shN w0, .inl (shF w0))), (a2_0, .inr (3, [.int (skW w1), .int (skP w1), .int (skF w1)]))] → va_S A s.heap H locs → lv_has ls 5 [(0, .ref a0_0), (1, .ref a1_0), (2, .ref a2_0), (3, .int y3)] → W p l e rm_Sh_show s m args below meth c H locs 0 0 (MQ below (va_Qv post (fun (u : ShC × SkC) (t : State) => va_P G.1 vwCl [(a0_0, .inr (4, [.ref a0_1, .int (shD u.1), .int (shC u.1), .int (shT u.1)])), (a0_1, .inl (G.2.1 1, shN u.1, .inl (shF u.1))), (a2_0, .inr (3, [.int (skW u.2), .int (skP u.2), .int (skF u.2)]))] t.heap) A) args s 0 0 A) (F0 m 24 ls []) := by
  intro n
  induction n with
  | zero => intro y3 w0 w1  H locs ls h; exact h.elim
  | succ n ih =>
    intro y3 w0 w1  H locs ls h hP hD hS hl
    exact tb_Sh_show_24 E hR hA hAB hRn  ih _ _ _ _ _ _ h hP hD hS hl
set_option maxHeartbeats 4000000 in
set_option maxRecDepth 100000 in
theorem t_Sh_show_in {p : Program} {l : Launch} {e : Env} {s : State} {m : MethodId} {args : Array Value} {below : List Frame} {meth : Method} {c : Code} {G : GX} {a0_0 a0_1 a1_0 a1_1 a1_2 a1_3 a1_4 a2_0 : Nat} {u1 : SgC} {post : (ShC × SkC) → Prop} {A : Nat → Prop} {u0 : ShC} {u2 : SkC} (E : EN p s m args meth c G R_Sh cc_Sh_show 5 none BG) (hR : va_P G.1 vwCl [(a1_0, .inr (5, [.int (sgK u1), .ref a1_1, .ref a1_2, .ref a1_3, .ref a1_4, .int (sgO u1), .int (sgP u1)])), (a1_1, .inl (G.2.1 0, sgN u1, .inl (sgL u1))), (a1_2, .inl (G.2.1 1, sgN u1, .inl (sgR u1))), (a1_3, .inl (G.2.1 1, sgM u1, .inl (sgB u1))), (a1_4, .inl (G.2.1 1, sgM u1, .inl (sgE u1)))] s.heap) (hA : ∀ q : Nat, s.heap.size ≤ q → A q) (hAB : ∀ q : Nat, A q → G.2.2.1 ≤ q) (hRn : ∀ (j : Nat) (q : Nat × va_E), ([(a1_0, .inr (5, [.int (sgK u1), .ref a1_1, .ref a1_2, .ref a1_3, .ref a1_4, .int (sgO u1), .int (sgP u1)])), (a1_1, .inl (G.2.1 0, sgN u1, .inl (sgL u1))), (a1_2, .inl (G.2.1 1, sgN u1, .inl (sgR u1))), (a1_3, .inl (G.2.1 1, sgM u1, .inl (sgB u1))), (a1_4, .inl (G.2.1 1, sgM u1, .inl (sgE u1)))] : va_W)[j]? = some q → ¬ A q.1) : ∀ (H : Heap) (locs : List Loc) (ls : Array Slot), wp_Sh_show post u0 u1 u2 → va_P G.1 vwCl [(a0_0, .inr (4, [.ref a0_1, .int (shD u0), .int (shC u0), .int (shT u0)])), (a0_1, .inl (G.2.1 1, shN u0, .inl (shF u0))), (a2_0, .inr (3, [.int (skW u2), .int (skP u2), .int (skF u2)]))] H → va_D A [(a0_0, .inr (4, [.ref a0_1, .int (shD u0), .int (shC u0), .int (shT u0)])), (a0_1, .inl (G.2.1 1, shN u0, .inl (shF u0))), (a2_0, .inr (3, [.int (skW u2), .int (skP u2), .int (skF u2)]))] → va_S A s.heap H locs → lv_has ls 5 [(0, .ref a0_0), (1, .ref a1_0), (2, .ref a2_0)] → W p l e rm_Sh_show s m args below meth c H locs 0 0 (MQ below (va_Qv post (fun (u : ShC × SkC) (t : State) => va_P G.1 vwCl [(a0_0, .inr (4, [.ref a0_1, .int (shD u.1), .int (shC u.1), .int (shT u.1)])), (a0_1, .inl (G.2.1 1, shN u.1, .inl (shF u.1))), (a2_0, .inr (3, [.int (skW u.2), .int (skP u.2), .int (skF u.2)]))] t.heap) A) args s 0 0 A) (F0 m 0 ls []) := by
  obtain ⟨hx, hb, hr, hts, hown, hlocks, hml, hC⟩ := id E
  have hK := hC.1
  intro H locs ls h hP hD hS hl
  unfold wp_Sh_show at h
  refine lv_aload_n hx hb d_Sh_show_0 rfl (lv_at hl 0 rfl) ?_
  refine lv_iconst (v := 0) hx hb d_Sh_show_1 (by decide) ?_
  refine va_put (D := G.1) (ci := 4) (v := .int 0) (ty := .int) (C := R_Sh) (T := T_Sh) (N := 4) hx hb hts i_Sh ty_Sh tyok_Sh nm_Sh hown hK hP hD hS 0 rfl rfl 1 (by decide) (hts _ b_228) (fun _ h9 => h9) rfl (by decide +kernel) rfl rfl (Nat.le_of_ble_eq_true rfl) d_Sh_show_2 (fun H locs hP hD hS => ?_)
  have hP : va_P G.1 vwCl [(a0_0, .inr (4, [.ref a0_1, .int 0, .int (shC u0), .int (shT u0)])), (a0_1, .inl (G.2.1 1, shN u0, .inl (shF u0))), (a2_0, .inr (3, [.int (skW u2), .int (skP u2), .int (skF u2)]))] H := hP
  have hD : va_D A [(a0_0, .inr (4, [.ref a0_1, .int 0, .int (shC u0), .int (shT u0)])), (a0_1, .inl (G.2.1 1, shN u0, .inl (shF u0))), (a2_0, .inr (3, [.int (skW u2), .int (skP u2), .int (skF u2)]))] := hD
  refine lv_aload_n hx hb d_Sh_show_5 rfl (lv_at hl 0 rfl) ?_
  refine va_get (D := G.1) (ci := 4) (v := .ref a0_1) (C := R_Sh) (T := T_Sh) (N := 4) hx hb hts i_Sh hown hK hP 0 rfl rfl 0 (by decide) (hts _ b_239) (fun _ h9 => h9) rfl d_Sh_show_6 ?_
  refine lv_iconst (v := 0) hx hb d_Sh_show_9 (by decide) ?_
  refine lv_iconst (v := 0) hx hb d_Sh_show_10 (by decide) ?_
  have hi9 := h.1
  have h := h.2
  refine va_iast hx hb hK hP hD hS 1 1 rfl rfl hi9 d_Sh_show_11 (fun H locs hP hD hS => ?_)
  have hP : va_P G.1 vwCl [(a0_0, .inr (4, [.ref a0_1, .int 0, .int (shC u0), .int (shT u0)])), (a0_1, .inl (G.2.1 1, shN u0, .inl (upd (shF u0) (0 : Int32).toNatClampNeg 0))), (a2_0, .inr (3, [.int (skW u2), .int (skP u2), .int (skF u2)]))] H := hP
  have hD : va_D A [(a0_0, .inr (4, [.ref a0_1, .int 0, .int (shC u0), .int (shT u0)])), (a0_1, .inl (G.2.1 1, shN u0, .inl (upd (shF u0) (0 : Int32).toNatClampNeg 0))), (a2_0, .inr (3, [.int (skW u2), .int (skP u2), .int (skF u2)]))] := hD
  refine lv_aload_n hx hb d_Sh_show_12 rfl (lv_at hl 0 rfl) ?_
  refine lv_iconst (v := 0) hx hb d_Sh_show_13 (by decide) ?_
  refine va_put (D := G.1) (ci := 4) (v := .int 0) (ty := .boolean) (C := R_Sh) (T := T_Sh) (N := 4) hx hb hts i_Sh ty_Sh tyok_Sh nm_Sh hown hK hP hD hS 0 rfl rfl 2 (by decide) (hts _ b_229) (fun _ h9 => h9) rfl (by decide +kernel) (by decide) (by decide) (Nat.le_of_ble_eq_true rfl) d_Sh_show_14 (fun H locs hP hD hS => ?_)
  have hP : va_P G.1 vwCl [(a0_0, .inr (4, [.ref a0_1, .int 0, .int 0, .int (shT u0)])), (a0_1, .inl (G.2.1 1, shN u0, .inl (upd (shF u0) (0 : Int32).toNatClampNeg 0))), (a2_0, .inr (3, [.int (skW u2), .int (skP u2), .int (skF u2)]))] H := hP
  have hD : va_D A [(a0_0, .inr (4, [.ref a0_1, .int 0, .int 0, .int (shT u0)])), (a0_1, .inl (G.2.1 1, shN u0, .inl (upd (shF u0) (0 : Int32).toNatClampNeg 0))), (a2_0, .inr (3, [.int (skW u2), .int (skP u2), .int (skF u2)]))] := hD
  refine lv_aload_n hx hb d_Sh_show_17 rfl (lv_at hl 0 rfl) ?_
  refine lv_iconst (v := 0) hx hb d_Sh_show_18 (by decide) ?_
  refine va_put (D := G.1) (ci := 4) (v := .int 0) (ty := .boolean) (C := R_Sh) (T := T_Sh) (N := 4) hx hb hts i_Sh ty_Sh tyok_Sh nm_Sh hown hK hP hD hS 0 rfl rfl 3 (by decide) (hts _ b_245) (fun _ h9 => h9) rfl (by decide +kernel) (by decide) (by decide) (Nat.le_of_ble_eq_true rfl) d_Sh_show_19 (fun H locs hP hD hS => ?_)
  have hP : va_P G.1 vwCl [(a0_0, .inr (4, [.ref a0_1, .int 0, .int 0, .int 0])), (a0_1, .inl (G.2.1 1, shN u0, .inl (upd (shF u0) (0 : Int32).toNatClampNeg 0))), (a2_0, .inr (3, [.int (skW u2), .int (skP u2), .int (skF u2)]))] H := hP
  have hD : va_D A [(a0_0, .inr (4, [.ref a0_1, .int 0, .int 0, .int 0])), (a0_1, .inl (G.2.1 1, shN u0, .inl (upd (shF u0) (0 : Int32).toNatClampNeg 0))), (a2_0, .inr (3, [.int (skW u2), .int (skP u2), .int (skF u2)]))] := hD
  refine lv_iconst (v := 0) hx hb d_Sh_show_22 (by decide) ?_
  refine lv_istore_n (lv' := [(3, .int 0), (0, .ref a0_0), (1, .ref a1_0), (2, .ref a2_0)]) hx hb d_Sh_show_23 rfl hl (by decide) rfl (fun ls hl => ?_)
  obtain ⟨n, h⟩ := h
  exact t_Sh_show_24 E hR hA hAB hRn  n _ _ _ _ _ _ h hP hD hS (lv_sub hl [1, 2, 3, 0] rfl)
set_option maxHeartbeats 4000000 in
set_option maxRecDepth 100000 in
theorem c_Sh_show (l : Launch) (G : GX) (a0_0 a0_1 a1_0 a1_1 a1_2 a1_3 a1_4 a2_0 : Nat) (u0 : ShC) (u1 : SgC) (u2 : SkC) (sz : Nat) (post : (ShC × SkC) → Prop) (h : wp_Sh_show post u0 u1 u2) : Met l y_Sh_show wc_Sh_show rm_Sh_show (mW G [.ref a0_0, .ref a1_0, .ref a2_0] sz [(a0_0, .inr (4, [.ref a0_1, .int (shD u0), .int (shC u0), .int (shT u0)])), (a0_1, .inl (G.2.1 1, shN u0, .inl (shF u0))), (a2_0, .inr (3, [.int (skW u2), .int (skP u2), .int (skF u2)]))] [(a1_0, .inr (5, [.int (sgK u1), .ref a1_1, .ref a1_2, .ref a1_3, .ref a1_4, .int (sgO u1), .int (sgP u1)])), (a1_1, .inl (G.2.1 0, sgN u1, .inl (sgL u1))), (a1_2, .inl (G.2.1 1, sgN u1, .inl (sgR u1))), (a1_3, .inl (G.2.1 1, sgM u1, .inl (sgB u1))), (a1_4, .inl (G.2.1 1, sgM u1, .inl (sgE u1)))]) (va_Qv post (fun (u : ShC × SkC) (t : State) => va_P G.1 vwCl [(a0_0, .inr (4, [.ref a0_1, .int (shD u.1), .int (shC u.1), .int (shT u.1)])), (a0_1, .inl (G.2.1 1, shN u.1, .inl (shF u.1))), (a2_0, .inr (3, [.int (skW u.2), .int (skP u.2), .int (skF u.2)]))] t.heap) (va_A [(a0_0, .inr (4, [.ref a0_1, .int (shD u0), .int (shC u0), .int (shT u0)])), (a0_1, .inl (G.2.1 1, shN u0, .inl (shF u0))), (a2_0, .inr (3, [.int (skW u2), .int (skP u2), .int (skF u2)]))] sz)) 0 0 (va_A [(a0_0, .inr (4, [.ref a0_1, .int (shD u0), .int (shC u0), .int (shT u0)])), (a0_1, .inl (G.2.1 1, shN u0, .inl (shF u0))), (a2_0, .inr (3, [.int (skW u2), .int (skP u2), .int (skF u2)]))] sz) := by
  refine Met.ofW (cc := cc_Sh_show) (maxL := 5) (ret := none) (by decide) rfl ?_
  intro p e s m args below meth c s₁ B hml hv
  obtain ⟨rfl, hC, hsz, hP, hD0, hR, hap⟩ := hv
  have E : EN p s m ([.ref a0_0, .ref a1_0, .ref a2_0] : List Value).toArray meth c G R_Sh cc_Sh_show 5 none BG := ⟨B.exec, B.bytes, B.returns, fun w h => atoms_spec (ws := wc_Sh_show) B.pre w (List.mem_cons_of_mem _ h), findClass_of_methodNamed B.named, B.notSynchronized, hml, hC⟩
  subst hsz
  have hD := hD0.self (sz := s.heap.size)
  have hRn := mw_notA hR hap
  have hAB := mw_AB hD0 hC
  have hA : ∀ q : Nat, s.heap.size ≤ q → va_A [(a0_0, .inr (4, [.ref a0_1, .int (shD u0), .int (shC u0), .int (shT u0)])), (a0_1, .inl (G.2.1 1, shN u0, .inl (shF u0))), (a2_0, .inr (3, [.int (skW u2), .int (skP u2), .int (skF u2)]))] s.heap.size q := fun q z => Or.inr z
  generalize va_A [(a0_0, .inr (4, [.ref a0_1, .int (shD u0), .int (shC u0), .int (shT u0)])), (a0_1, .inl (G.2.1 1, shN u0, .inl (shF u0))), (a2_0, .inr (3, [.int (skW u2), .int (skP u2), .int (skF u2)]))] s.heap.size = A at hD hRn hAB hA ⊢
  have hl := lv_entry ([.ref a0_0, .ref a1_0, .ref a2_0]) (n := 5) (Nat.le_of_ble_eq_true rfl)
  rw [lg_entry_eq]
  generalize (lg_sl ([.ref a0_0, .ref a1_0, .ref a2_0]) ++ List.replicate (5 - (lg_sl ([.ref a0_0, .ref a1_0, .ref a2_0])).length) Slot.unset).toArray = ls at hl ⊢
  have hl : lv_has ls 5 [(0, .ref a0_0), (1, .ref a1_0), (2, .ref a2_0)] := hl
  exact t_Sh_show_in E hR hA hAB hRn _ _ _ h hP hD va_S.rf hl
set_option maxHeartbeats 4000000 in
set_option maxRecDepth 100000 in
theorem t_Sh_init_in {p : Program} {l : Launch} {e : Env} {s : State} {m : MethodId} {args : Array Value} {below : List Frame} {meth : Method} {c : Code} {G : GX} {a0_0 : Nat} {post : ShC → Prop} {A : Nat → Prop} {u0 : ShowBC} (E : EN p s m args meth c G R_Sh cc_Sh_init 1 none BG) (hR : va_P G.1 vwCl [] s.heap) (hA : ∀ q : Nat, s.heap.size ≤ q → A q) (hAB : ∀ q : Nat, A q → G.2.2.1 ≤ q) (hRn : ∀ (j : Nat) (q : Nat × va_E), ([] : va_W)[j]? = some q → ¬ A q.1) (hin : meth.name = "<init>") : ∀ (H : Heap) (locs : List Loc) (ls : Array Slot), wp_Sh_init post u0 → va_P G.1 vwCl [(a0_0, .inr (4, [.null, .int (showb_1 u0), .int (showb_2 u0), .int (showb_3 u0)]))] H → va_D A [(a0_0, .inr (4, [.null, .int (showb_1 u0), .int (showb_2 u0), .int (showb_3 u0)]))] → va_S A s.heap H locs → lv_has ls 1 [(0, .ref a0_0)] → W p l e rm_Sh_init s m args below meth c H locs 0 0 (MQ below (va_Qv post (fun (u : ShC) (t : State) => ∃ (q7 : Nat), va_P G.1 vwCl [(a0_0, .inr (4, [.ref q7, .int (shD u), .int (shC u), .int (shT u)])), (q7, .inl (G.2.1 1, shN u, .inl (shF u)))] t.heap ∧ va_D A [(a0_0, .inr (4, [.ref q7, .int (shD u), .int (shC u), .int (shT u)])), (q7, .inl (G.2.1 1, shN u, .inl (shF u)))]) A) args s 1 120 A) (F0 m 0 ls []) := by
  obtain ⟨hx, hb, hr, hts, hown, hlocks, hml, hC⟩ := id E
  have hK := hC.1
  intro H locs ls h hP hD hS hl
  unfold wp_Sh_init at h
  refine lv_aload_n hx hb d_Sh_init_0 rfl (lv_at hl 0 rfl) ?_
  refine W.objInit hx hb hown (hts _ b_268) (hts _ b_69) (hts _ b_70) rfl (by rw [hml]; exact hl.1) rfl d_Sh_init_1 (Nat.le_of_ble_eq_true rfl) (Nat.le_of_ble_eq_true rfl) ?_
  refine W.eq (g2 := F0 m 4 ls []) rfl ?_
  refine lv_aload_n hx hb d_Sh_init_4 rfl (lv_at hl 0 rfl) ?_
  refine lv_bipush (v := 120) hx hb d_Sh_init_5 (by decide) ?_
  refine va_newa (atype := .int) (ty := .int) (a0 := (120, .inl (fun _ => 0))) (N' := 120) hx hb (hts _ b_165) rfl hK hP hD hS hA (fun _ => rfl) (by decide) (by decide) (by decide) (by decide) (by decide) d_Sh_init_7 (fun q7 cA9 H hK9 hP hD hS => ?_)
  obtain rfl : cA9 = G.2.1 1 := ka_one hK9 1 4 rfl rfl rfl
  have hP : va_P G.1 vwCl [(a0_0, .inr (4, [.null, .int (showb_1 u0), .int (showb_2 u0), .int (showb_3 u0)])), (q7, .inl (G.2.1 1, 120, .inl (fun _ => 0)))] H := hP
  have hD : va_D A [(a0_0, .inr (4, [.null, .int (showb_1 u0), .int (showb_2 u0), .int (showb_3 u0)])), (q7, .inl (G.2.1 1, 120, .inl (fun _ => 0)))] := hD
  refine W.widen (k := 1) (n := 120) (by decide) (by decide) ?_
  refine va_putF (D := G.1) (ci := 4) (v := .ref q7) (ty := (.array .int)) (C := R_Sh) (T := T_Sh) (N := 4) hx hb hts i_Sh ty_Sh tyok_Sh nm_Sh hown hK hP hD hS 0 rfl rfl 0 (by decide) (hts _ b_239) (fun _ h9 => h9) rfl hin rfl (by decide +kernel) rfl rfl (Nat.le_of_ble_eq_true rfl) d_Sh_init_9 (fun H locs hP hD hS => ?_)
  have hP : va_P G.1 vwCl [(a0_0, .inr (4, [.ref q7, .int (showb_1 u0), .int (showb_2 u0), .int (showb_3 u0)])), (q7, .inl (G.2.1 1, 120, .inl (fun _ => 0)))] H := hP
  have hD : va_D A [(a0_0, .inr (4, [.ref q7, .int (showb_1 u0), .int (showb_2 u0), .int (showb_3 u0)])), (q7, .inl (G.2.1 1, 120, .inl (fun _ => 0)))] := hD
  refine W.widen (k := 1) (n := 120) (by decide) (by decide) ?_
  exact W.vret hx hb hr (fun t ht hW => ⟨⟨_, rfl, h, q7, vaP_at ht hP, hD⟩, hS.F ht⟩) hS.2.2 d_Sh_init_12
set_option maxHeartbeats 4000000 in
set_option maxRecDepth 100000 in
theorem c_Sh_init (l : Launch) (G : GX) (a0_0 : Nat) (u0 : ShowBC) (sz : Nat) (post : ShC → Prop) (h : wp_Sh_init post u0) : Met l y_Sh_init wc_Sh_init rm_Sh_init (mW G [.ref a0_0] sz [(a0_0, .inr (4, [.null, .int (showb_1 u0), .int (showb_2 u0), .int (showb_3 u0)]))] []) (va_Qv post (fun (u : ShC) (t : State) => ∃ (q7 : Nat), va_P G.1 vwCl [(a0_0, .inr (4, [.ref q7, .int (shD u), .int (shC u), .int (shT u)])), (q7, .inl (G.2.1 1, shN u, .inl (shF u)))] t.heap ∧ va_D (va_A [(a0_0, .inr (4, [.null, .int (showb_1 u0), .int (showb_2 u0), .int (showb_3 u0)]))] sz) [(a0_0, .inr (4, [.ref q7, .int (shD u), .int (shC u), .int (shT u)])), (q7, .inl (G.2.1 1, shN u, .inl (shF u)))]) (va_A [(a0_0, .inr (4, [.null, .int (showb_1 u0), .int (showb_2 u0), .int (showb_3 u0)]))] sz)) 1 120 (va_A [(a0_0, .inr (4, [.null, .int (showb_1 u0), .int (showb_2 u0), .int (showb_3 u0)]))] sz) := by
  refine Met.ofW (cc := cc_Sh_init) (maxL := 1) (ret := none) (by decide) rfl ?_
  intro p e s m args below meth c s₁ B hml hv
  obtain ⟨rfl, hC, hsz, hP, hD0, hR, hap⟩ := hv
  have E : EN p s m ([.ref a0_0] : List Value).toArray meth c G R_Sh cc_Sh_init 1 none BG := ⟨B.exec, B.bytes, B.returns, fun w h => atoms_spec (ws := wc_Sh_init) B.pre w (List.mem_cons_of_mem _ h), findClass_of_methodNamed B.named, B.notSynchronized, hml, hC⟩
  have hin : meth.name = "<init>" := (name_of_methodNamed B.named B.method).1
  subst hsz
  have hD := hD0.self (sz := s.heap.size)
  have hRn := mw_notA hR hap
  have hAB := mw_AB hD0 hC
  have hA : ∀ q : Nat, s.heap.size ≤ q → va_A [(a0_0, .inr (4, [.null, .int (showb_1 u0), .int (showb_2 u0), .int (showb_3 u0)]))] s.heap.size q := fun q z => Or.inr z
  generalize va_A [(a0_0, .inr (4, [.null, .int (showb_1 u0), .int (showb_2 u0), .int (showb_3 u0)]))] s.heap.size = A at hD hRn hAB hA ⊢
  have hl := lv_entry ([.ref a0_0]) (n := 1) (Nat.le_of_ble_eq_true rfl)
  rw [lg_entry_eq]
  generalize (lg_sl ([.ref a0_0]) ++ List.replicate (1 - (lg_sl ([.ref a0_0])).length) Slot.unset).toArray = ls at hl ⊢
  have hl : lv_has ls 1 [(0, .ref a0_0)] := hl
  exact t_Sh_init_in E hR hA hAB hRn hin _ _ _ h hP hD va_S.rf hl
