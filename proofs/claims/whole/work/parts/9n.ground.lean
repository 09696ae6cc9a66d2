theorem lwt1 {w : Cond} {i : Nat} (h : tables_1_1[i]? = some w) : w ∈ lw_tbl := List.mem_append_right _ (List.mem_append_left _ (List.mem_of_getElem? h))
theorem lwt2 {w : Cond} {i : Nat} (h : tables_1_2[i]? = some w) : w ∈ lw_tbl := List.mem_append_right _ (List.mem_append_right _ (List.mem_append_left _ (List.mem_of_getElem? h)))
theorem lwt3 {w : Cond} {i : Nat} (h : tables_1_3[i]? = some w) : w ∈ lw_tbl := List.mem_append_right _ (List.mem_append_right _ (List.mem_append_right _ (List.mem_append_left _ (List.mem_of_getElem? h))))
theorem lwt4 {w : Cond} {i : Nat} (h : tables_1_4[i]? = some w) : w ∈ lw_tbl := List.mem_append_right _ (List.mem_append_right _ (List.mem_append_right _ (List.mem_append_right _ (List.mem_of_getElem? h))))
theorem gr_nsF {s : State} {b : Nat} (hts : ∀ w ∈ lw_tbl, w.before #[Value.ref b] s = true) : ∀ q ∈ nsF, va_Nw (.fieldLinkNest q.1 q.2.1 q.2.2.1 q.2.2.2.1 q.2.2.2.2.1 q.2.2.2.2.2) s := by
  unfold nsF
  exact List.forall_mem_cons.mpr ⟨va_Nw.of rfl (hts _ (lwt1 (i := 31) rfl)), List.forall_mem_cons.mpr ⟨va_Nw.of rfl (hts _ (lwt1 (i := 32) rfl)), List.forall_mem_cons.mpr ⟨va_Nw.of rfl (hts _ (lwt1 (i := 33) rfl)), List.forall_mem_cons.mpr ⟨va_Nw.of rfl (hts _ (lwt1 (i := 34) rfl)), List.forall_mem_cons.mpr ⟨va_Nw.of rfl (hts _ (lwt1 (i := 36) rfl)), List.forall_mem_cons.mpr ⟨va_Nw.of rfl (hts _ (lwt1 (i := 37) rfl)), List.forall_mem_cons.mpr ⟨va_Nw.of rfl (hts _ (lwt1 (i := 38) rfl)), List.forall_mem_cons.mpr ⟨va_Nw.of rfl (hts _ (lwt1 (i := 52) rfl)), List.forall_mem_cons.mpr ⟨va_Nw.of rfl (hts _ (lwt1 (i := 54) rfl)), List.forall_mem_cons.mpr ⟨va_Nw.of rfl (hts _ (lwt1 (i := 56) rfl)), List.forall_mem_cons.mpr ⟨va_Nw.of rfl (hts _ (lwt1 (i := 57) rfl)), List.forall_mem_cons.mpr ⟨va_Nw.of rfl (hts _ (lwt1 (i := 59) rfl)), List.forall_mem_cons.mpr ⟨va_Nw.of rfl (hts _ (lwt1 (i := 90) rfl)), List.forall_mem_cons.mpr ⟨va_Nw.of rfl (hts _ (lwt1 (i := 92) rfl)), List.forall_mem_cons.mpr ⟨va_Nw.of rfl (hts _ (lwt1 (i := 128) rfl)), List.forall_mem_cons.mpr ⟨va_Nw.of rfl (hts _ (lwt2 (i := 112) rfl)), List.forall_mem_cons.mpr ⟨va_Nw.of rfl (hts _ (lwt2 (i := 113) rfl)), List.forall_mem_cons.mpr ⟨va_Nw.of rfl (hts _ (lwt2 (i := 115) rfl)), List.forall_mem_cons.mpr ⟨va_Nw.of rfl (hts _ (lwt2 (i := 116) rfl)), List.forall_mem_cons.mpr ⟨va_Nw.of rfl (hts _ (lwt2 (i := 117) rfl)), List.forall_mem_cons.mpr ⟨va_Nw.of rfl (hts _ (lwt2 (i := 120) rfl)), List.forall_mem_cons.mpr ⟨va_Nw.of rfl (hts _ (lwt2 (i := 123) rfl)), List.forall_mem_cons.mpr ⟨va_Nw.of rfl (hts _ (lwt2 (i := 125) rfl)), fun _ h => absurd h List.not_mem_nil⟩⟩⟩⟩⟩⟩⟩⟩⟩⟩⟩⟩⟩⟩⟩⟩⟩⟩⟩⟩⟩⟩⟩
theorem gr_nsM {s : State} {b : Nat} (hts : ∀ w ∈ lw_tbl, w.before #[Value.ref b] s = true) : ∀ q ∈ nsM, va_Nw (.methodLinkNest q.1 q.2.1 q.2.2.1 q.2.2.2) s := by
  unfold nsM
  exact List.forall_mem_cons.mpr ⟨va_Nw.of rfl (hts _ (lwt1 (i := 84) rfl)), List.forall_mem_cons.mpr ⟨va_Nw.of rfl (hts _ (lwt2 (i := 96) rfl)), List.forall_mem_cons.mpr ⟨va_Nw.of rfl (hts _ (lwt2 (i := 182) rfl)), List.forall_mem_cons.mpr ⟨va_Nw.of rfl (hts _ (lwt2 (i := 183) rfl)), List.forall_mem_cons.mpr ⟨va_Nw.of rfl (hts _ (lwt3 (i := 11) rfl)), List.forall_mem_cons.mpr ⟨va_Nw.of rfl (hts _ (lwt3 (i := 42) rfl)), List.forall_mem_cons.mpr ⟨va_Nw.of rfl (hts _ (lwt3 (i := 73) rfl)), fun _ h => absurd h List.not_mem_nil⟩⟩⟩⟩⟩⟩⟩
def ltT : Nat → Term := fun k => match k with
  | 0 => .string "SignatureForest$Reader" 122
  | 1 => .string "SignatureForest$Reader" 114
  | 2 => .string "SignatureForest$Shower" 86
  | 3 => .string "SignatureForest$Shower" 91
  | 4 => .string "SignatureForest$Shower" 93
  | 5 => .string "SignatureForest$Shower" 95
  | 6 => .string "SignatureForest$Shower" 97
  | 7 => .string "SignatureForest$Shower" 99
  | 8 => .string "SignatureForest$Shower" 101
  | 9 => .string "SignatureForest$Shower" 103
  | 10 => .string "SignatureForest$Shower" 105
  | 11 => .string "SignatureForest$Shower" 107
  | _ => .string "SignatureForest$Eraser" 44
theorem gr_srF {s : State} {b : Nat} (hts : ∀ w ∈ lw_tbl, w.before #[Value.ref b] s = true) {adK : Nat → Nat} (hev : ∀ i : Nat, i < 13 → (ltT i).eval #[Value.ref b] s none [] s = some (.ref (adK i))) : ∀ q ∈ srF, vk_R q.1 q.2.1 q.2.2.1 (adK q.2.2.2) s := by
  unfold srF
  exact List.forall_mem_cons.mpr ⟨vk_R.of (hts _ (lwt1 (i := 200) rfl)) (hev 0 (by decide)), List.forall_mem_cons.mpr ⟨vk_R.of (hts _ (lwt2 (i := 68) rfl)) (hev 1 (by decide)), List.forall_mem_cons.mpr ⟨vk_R.of (hts _ (lwt2 (i := 209) rfl)) (hev 2 (by decide)), List.forall_mem_cons.mpr ⟨vk_R.of (hts _ (lwt2 (i := 239) rfl)) (hev 3 (by decide)), List.forall_mem_cons.mpr ⟨vk_R.of (hts _ (lwt3 (i := 0) rfl)) (hev 4 (by decide)), List.forall_mem_cons.mpr ⟨vk_R.of (hts _ (lwt3 (i := 1) rfl)) (hev 5 (by decide)), List.forall_mem_cons.mpr ⟨vk_R.of (hts _ (lwt3 (i := 2) rfl)) (hev 6 (by decide)), List.forall_mem_cons.mpr ⟨vk_R.of (hts _ (lwt3 (i := 3) rfl)) (hev 7 (by decide)), List.forall_mem_cons.mpr ⟨vk_R.of (hts _ (lwt3 (i := 4) rfl)) (hev 8 (by decide)), List.forall_mem_cons.mpr ⟨vk_R.of (hts _ (lwt3 (i := 5) rfl)) (hev 9 (by decide)), List.forall_mem_cons.mpr ⟨vk_R.of (hts _ (lwt3 (i := 6) rfl)) (hev 10 (by decide)), List.forall_mem_cons.mpr ⟨vk_R.of (hts _ (lwt3 (i := 7) rfl)) (hev 11 (by decide)), List.forall_mem_cons.mpr ⟨vk_R.of (hts _ (lwt3 (i := 74) rfl)) (hev 12 (by decide)), fun _ h => absurd h List.not_mem_nil⟩⟩⟩⟩⟩⟩⟩⟩⟩⟩⟩⟩⟩
abbrev gvF : List Cond := flatC (Jvm.Cond.and given_1 narrow_1)
theorem gx_0 : (Jvm.Cond.exactly (Jvm.Term.string "SignatureForest$Reader" (122 : Nat)) "java/lang/String") ∈ gvF := List.mem_of_getElem? (i := 9) rfl
theorem gc_0 : (Jvm.Cond.eq (Jvm.Term.field (Jvm.Term.string "SignatureForest$Reader" (122 : Nat)) "java/lang/String" "coder" "B") (Jvm.Term.int (0 : Int32))) ∈ gvF := List.mem_of_getElem? (i := 10) rfl
theorem ga_0 : (Jvm.Cond.arrayOf (Jvm.Term.field (Jvm.Term.string "SignatureForest$Reader" (122 : Nat)) "java/lang/String" "value" "[B") Jvm.ClassFile.FieldType.byte) ∈ gvF := List.mem_of_getElem? (i := 11) rfl
theorem gl_0 : (Jvm.Cond.eq (Jvm.Term.length (Jvm.Term.field (Jvm.Term.string "SignatureForest$Reader" (122 : Nat)) "java/lang/String" "value" "[B")) (Jvm.Term.int (7 : Int32))) ∈ gvF := List.mem_of_getElem? (i := 12) rfl
theorem ge_0_0 : (Jvm.Cond.eq (Jvm.Term.elem (Jvm.Term.field (Jvm.Term.string "SignatureForest$Reader" (122 : Nat)) "java/lang/String" "value" "[B") (Jvm.Term.int (0 : Int32))) (Jvm.Term.int (46 : Int32))) ∈ gvF := List.mem_of_getElem? (i := 13) rfl
theorem ge_0_1 : (Jvm.Cond.eq (Jvm.Term.elem (Jvm.Term.field (Jvm.Term.string "SignatureForest$Reader" (122 : Nat)) "java/lang/String" "value" "[B") (Jvm.Term.int (1 : Int32))) (Jvm.Term.int (59 : Int32))) ∈ gvF := List.mem_of_getElem? (i := 14) rfl
theorem ge_0_2 : (Jvm.Cond.eq (Jvm.Term.elem (Jvm.Term.field (Jvm.Term.string "SignatureForest$Reader" (122 : Nat)) "java/lang/String" "value" "[B") (Jvm.Term.int (2 : Int32))) (Jvm.Term.int (47 : Int32))) ∈ gvF := List.mem_of_getElem? (i := 15) rfl
theorem ge_0_3 : (Jvm.Cond.eq (Jvm.Term.elem (Jvm.Term.field (Jvm.Term.string "SignatureForest$Reader" (122 : Nat)) "java/lang/String" "value" "[B") (Jvm.Term.int (3 : Int32))) (Jvm.Term.int (58 : Int32))) ∈ gvF := List.mem_of_getElem? (i := 16) rfl
theorem ge_0_4 : (Jvm.Cond.eq (Jvm.Term.elem (Jvm.Term.field (Jvm.Term.string "SignatureForest$Reader" (122 : Nat)) "java/lang/String" "value" "[B") (Jvm.Term.int (4 : Int32))) (Jvm.Term.int (60 : Int32))) ∈ gvF := List.mem_of_getElem? (i := 17) rfl
theorem ge_0_5 : (Jvm.Cond.eq (Jvm.Term.elem (Jvm.Term.field (Jvm.Term.string "SignatureForest$Reader" (122 : Nat)) "java/lang/String" "value" "[B") (Jvm.Term.int (5 : Int32))) (Jvm.Term.int (62 : Int32))) ∈ gvF := List.mem_of_getElem? (i := 18) rfl
theorem ge_0_6 : (Jvm.Cond.eq (Jvm.Term.elem (Jvm.Term.field (Jvm.Term.string "SignatureForest$Reader" (122 : Nat)) "java/lang/String" "value" "[B") (Jvm.Term.int (6 : Int32))) (Jvm.Term.int (91 : Int32))) ∈ gvF := List.mem_of_getElem? (i := 19) rfl
theorem gx_1 : (Jvm.Cond.exactly (Jvm.Term.string "SignatureForest$Reader" (114 : Nat)) "java/lang/String") ∈ gvF := List.mem_of_getElem? (i := 20) rfl
theorem gc_1 : (Jvm.Cond.eq (Jvm.Term.field (Jvm.Term.string "SignatureForest$Reader" (114 : Nat)) "java/lang/String" "coder" "B") (Jvm.Term.int (0 : Int32))) ∈ gvF := List.mem_of_getElem? (i := 21) rfl
theorem ga_1 : (Jvm.Cond.arrayOf (Jvm.Term.field (Jvm.Term.string "SignatureForest$Reader" (114 : Nat)) "java/lang/String" "value" "[B") Jvm.ClassFile.FieldType.byte) ∈ gvF := List.mem_of_getElem? (i := 22) rfl
theorem gl_1 : (Jvm.Cond.eq (Jvm.Term.length (Jvm.Term.field (Jvm.Term.string "SignatureForest$Reader" (114 : Nat)) "java/lang/String" "value" "[B")) (Jvm.Term.int (8 : Int32))) ∈ gvF := List.mem_of_getElem? (i := 23) rfl
theorem ge_1_0 : (Jvm.Cond.eq (Jvm.Term.elem (Jvm.Term.field (Jvm.Term.string "SignatureForest$Reader" (114 : Nat)) "java/lang/String" "value" "[B") (Jvm.Term.int (0 : Int32))) (Jvm.Term.int (66 : Int32))) ∈ gvF := List.mem_of_getElem? (i := 24) rfl
theorem ge_1_1 : (Jvm.Cond.eq (Jvm.Term.elem (Jvm.Term.field (Jvm.Term.string "SignatureForest$Reader" (114 : Nat)) "java/lang/String" "value" "[B") (Jvm.Term.int (1 : Int32))) (Jvm.Term.int (67 : Int32))) ∈ gvF := List.mem_of_getElem? (i := 25) rfl
theorem ge_1_2 : (Jvm.Cond.eq (Jvm.Term.elem (Jvm.Term.field (Jvm.Term.string "SignatureForest$Reader" (114 : Nat)) "java/lang/String" "value" "[B") (Jvm.Term.int (2 : Int32))) (Jvm.Term.int (68 : Int32))) ∈ gvF := List.mem_of_getElem? (i := 26) rfl
theorem ge_1_3 : (Jvm.Cond.eq (Jvm.Term.elem (Jvm.Term.field (Jvm.Term.string "SignatureForest$Reader" (114 : Nat)) "java/lang/String" "value" "[B") (Jvm.Term.int (3 : Int32))) (Jvm.Term.int (70 : Int32))) ∈ gvF := List.mem_of_getElem? (i := 27) rfl
theorem ge_1_4 : (Jvm.Cond.eq (Jvm.Term.elem (Jvm.Term.field (Jvm.Term.string "SignatureForest$Reader" (114 : Nat)) "java/lang/String" "value" "[B") (Jvm.Term.int (4 : Int32))) (Jvm.Term.int (73 : Int32))) ∈ gvF := List.mem_of_getElem? (i := 28) rfl
theorem ge_1_5 : (Jvm.Cond.eq (Jvm.Term.elem (Jvm.Term.field (Jvm.Term.string "SignatureForest$Reader" (114 : Nat)) "java/lang/String" "value" "[B") (Jvm.Term.int (5 : Int32))) (Jvm.Term.int (74 : Int32))) ∈ gvF := List.mem_of_getElem? (i := 29) rfl
theorem ge_1_6 : (Jvm.Cond.eq (Jvm.Term.elem (Jvm.Term.field (Jvm.Term.string "SignatureForest$Reader" (114 : Nat)) "java/lang/String" "value" "[B") (Jvm.Term.int (6 : Int32))) (Jvm.Term.int (83 : Int32))) ∈ gvF := List.mem_of_getElem? (i := 30) rfl
theorem ge_1_7 : (Jvm.Cond.eq (Jvm.Term.elem (Jvm.Term.field (Jvm.Term.string "SignatureForest$Reader" (114 : Nat)) "java/lang/String" "value" "[B") (Jvm.Term.int (7 : Int32))) (Jvm.Term.int (90 : Int32))) ∈ gvF := List.mem_of_getElem? (i := 31) rfl
theorem gn_0_1 : (Jvm.Cond.not (Jvm.Cond.eq (Jvm.Term.string "SignatureForest$Reader" (122 : Nat)) (Jvm.Term.string "SignatureForest$Reader" (114 : Nat)))) ∈ gvF := List.mem_of_getElem? (i := 32) rfl
theorem gx_2 : (Jvm.Cond.exactly (Jvm.Term.string "SignatureForest$Shower" (86 : Nat)) "java/lang/String") ∈ gvF := List.mem_of_getElem? (i := 33) rfl
theorem gc_2 : (Jvm.Cond.eq (Jvm.Term.field (Jvm.Term.string "SignatureForest$Shower" (86 : Nat)) "java/lang/String" "coder" "B") (Jvm.Term.int (0 : Int32))) ∈ gvF := List.mem_of_getElem? (i := 34) rfl
theorem ga_2 : (Jvm.Cond.arrayOf (Jvm.Term.field (Jvm.Term.string "SignatureForest$Shower" (86 : Nat)) "java/lang/String" "value" "[B") Jvm.ClassFile.FieldType.byte) ∈ gvF := List.mem_of_getElem? (i := 35) rfl
theorem gl_2 : (Jvm.Cond.eq (Jvm.Term.length (Jvm.Term.field (Jvm.Term.string "SignatureForest$Shower" (86 : Nat)) "java/lang/String" "value" "[B")) (Jvm.Term.int (2 : Int32))) ∈ gvF := List.mem_of_getElem? (i := 36) rfl
theorem ge_2_0 : (Jvm.Cond.eq (Jvm.Term.elem (Jvm.Term.field (Jvm.Term.string "SignatureForest$Shower" (86 : Nat)) "java/lang/String" "value" "[B") (Jvm.Term.int (0 : Int32))) (Jvm.Term.int (91 : Int32))) ∈ gvF := List.mem_of_getElem? (i := 37) rfl
theorem ge_2_1 : (Jvm.Cond.eq (Jvm.Term.elem (Jvm.Term.field (Jvm.Term.string "SignatureForest$Shower" (86 : Nat)) "java/lang/String" "value" "[B") (Jvm.Term.int (1 : Int32))) (Jvm.Term.int (93 : Int32))) ∈ gvF := List.mem_of_getElem? (i := 38) rfl
theorem gn_0_2 : (Jvm.Cond.not (Jvm.Cond.eq (Jvm.Term.string "SignatureForest$Reader" (122 : Nat)) (Jvm.Term.string "SignatureForest$Shower" (86 : Nat)))) ∈ gvF := List.mem_of_getElem? (i := 39) rfl
theorem gn_1_2 : (Jvm.Cond.not (Jvm.Cond.eq (Jvm.Term.string "SignatureForest$Reader" (114 : Nat)) (Jvm.Term.string "SignatureForest$Shower" (86 : Nat)))) ∈ gvF := List.mem_of_getElem? (i := 40) rfl
theorem gx_3 : (Jvm.Cond.exactly (Jvm.Term.string "SignatureForest$Shower" (91 : Nat)) "java/lang/String") ∈ gvF := List.mem_of_getElem? (i := 41) rfl
theorem gc_3 : (Jvm.Cond.eq (Jvm.Term.field (Jvm.Term.string "SignatureForest$Shower" (91 : Nat)) "java/lang/String" "coder" "B") (Jvm.Term.int (0 : Int32))) ∈ gvF := List.mem_of_getElem? (i := 42) rfl
theorem ga_3 : (Jvm.Cond.arrayOf (Jvm.Term.field (Jvm.Term.string "SignatureForest$Shower" (91 : Nat)) "java/lang/String" "value" "[B") Jvm.ClassFile.FieldType.byte) ∈ gvF := List.mem_of_getElem? (i := 43) rfl
theorem gl_3 : (Jvm.Cond.eq (Jvm.Term.length (Jvm.Term.field (Jvm.Term.string "SignatureForest$Shower" (91 : Nat)) "java/lang/String" "value" "[B")) (Jvm.Term.int (4 : Int32))) ∈ gvF := List.mem_of_getElem? (i := 44) rfl
theorem ge_3_0 : (Jvm.Cond.eq (Jvm.Term.elem (Jvm.Term.field (Jvm.Term.string "SignatureForest$Shower" (91 : Nat)) "java/lang/String" "value" "[B") (Jvm.Term.int (0 : Int32))) (Jvm.Term.int (98 : Int32))) ∈ gvF := List.mem_of_getElem? (i := 45) rfl
theorem ge_3_1 : (Jvm.Cond.eq (Jvm.Term.elem (Jvm.Term.field (Jvm.Term.string "SignatureForest$Shower" (91 : Nat)) "java/lang/String" "value" "[B") (Jvm.Term.int (1 : Int32))) (Jvm.Term.int (121 : Int32))) ∈ gvF := List.mem_of_getElem? (i := 46) rfl
theorem ge_3_2 : (Jvm.Cond.eq (Jvm.Term.elem (Jvm.Term.field (Jvm.Term.string "SignatureForest$Shower" (91 : Nat)) "java/lang/String" "value" "[B") (Jvm.Term.int (2 : Int32))) (Jvm.Term.int (116 : Int32))) ∈ gvF := List.mem_of_getElem? (i := 47) rfl
theorem ge_3_3 : (Jvm.Cond.eq (Jvm.Term.elem (Jvm.Term.field (Jvm.Term.string "SignatureForest$Shower" (91 : Nat)) "java/lang/String" "value" "[B") (Jvm.Term.int (3 : Int32))) (Jvm.Term.int (101 : Int32))) ∈ gvF := List.mem_of_getElem? (i := 48) rfl
theorem gn_0_3 : (Jvm.Cond.not (Jvm.Cond.eq (Jvm.Term.string "SignatureForest$Reader" (122 : Nat)) (Jvm.Term.string "SignatureForest$Shower" (91 : Nat)))) ∈ gvF := List.mem_of_getElem? (i := 49) rfl
theorem gn_1_3 : (Jvm.Cond.not (Jvm.Cond.eq (Jvm.Term.string "SignatureForest$Reader" (114 : Nat)) (Jvm.Term.string "SignatureForest$Shower" (91 : Nat)))) ∈ gvF := List.mem_of_getElem? (i := 50) rfl
theorem gn_2_3 : (Jvm.Cond.not (Jvm.Cond.eq (Jvm.Term.string "SignatureForest$Shower" (86 : Nat)) (Jvm.Term.string "SignatureForest$Shower" (91 : Nat)))) ∈ gvF := List.mem_of_getElem? (i := 51) rfl
theorem gx_4 : (Jvm.Cond.exactly (Jvm.Term.string "SignatureForest$Shower" (93 : Nat)) "java/lang/String") ∈ gvF := List.mem_of_getElem? (i := 52) rfl
theorem gc_4 : (Jvm.Cond.eq (Jvm.Term.field (Jvm.Term.string "SignatureForest$Shower" (93 : Nat)) "java/lang/String" "coder" "B") (Jvm.Term.int (0 : Int32))) ∈ gvF := List.mem_of_getElem? (i := 53) rfl
theorem ga_4 : (Jvm.Cond.arrayOf (Jvm.Term.field (Jvm.Term.string "SignatureForest$Shower" (93 : Nat)) "java/lang/String" "value" "[B") Jvm.ClassFile.FieldType.byte) ∈ gvF := List.mem_of_getElem? (i := 54) rfl
theorem gl_4 : (Jvm.Cond.eq (Jvm.Term.length (Jvm.Term.field (Jvm.Term.string "SignatureForest$Shower" (93 : Nat)) "java/lang/String" "value" "[B")) (Jvm.Term.int (4 : Int32))) ∈ gvF := List.mem_of_getElem? (i := 55) rfl
theorem ge_4_0 : (Jvm.Cond.eq (Jvm.Term.elem (Jvm.Term.field (Jvm.Term.string "SignatureForest$Shower" (93 : Nat)) "java/lang/String" "value" "[B") (Jvm.Term.int (0 : Int32))) (Jvm.Term.int (99 : Int32))) ∈ gvF := List.mem_of_getElem? (i := 56) rfl
theorem ge_4_1 : (Jvm.Cond.eq (Jvm.Term.elem (Jvm.Term.field (Jvm.Term.string "SignatureForest$Shower" (93 : Nat)) "java/lang/String" "value" "[B") (Jvm.Term.int (1 : Int32))) (Jvm.Term.int (104 : Int32))) ∈ gvF := List.mem_of_getElem? (i := 57) rfl
theorem ge_4_2 : (Jvm.Cond.eq (Jvm.Term.elem (Jvm.Term.field (Jvm.Term.string "SignatureForest$Shower" (93 : Nat)) "java/lang/String" "value" "[B") (Jvm.Term.int (2 : Int32))) (Jvm.Term.int (97 : Int32))) ∈ gvF := List.mem_of_getElem? (i := 58) rfl
theorem ge_4_3 : (Jvm.Cond.eq (Jvm.Term.elem (Jvm.Term.field (Jvm.Term.string "SignatureForest$Shower" (93 : Nat)) "java/lang/String" "value" "[B") (Jvm.Term.int (3 : Int32))) (Jvm.Term.int (114 : Int32))) ∈ gvF := List.mem_of_getElem? (i := 59) rfl
theorem gn_0_4 : (Jvm.Cond.not (Jvm.Cond.eq (Jvm.Term.string "SignatureForest$Reader" (122 : Nat)) (Jvm.Term.string "SignatureForest$Shower" (93 : Nat)))) ∈ gvF := List.mem_of_getElem? (i := 60) rfl
theorem gn_1_4 : (Jvm.Cond.not (Jvm.Cond.eq (Jvm.Term.string "SignatureForest$Reader" (114 : Nat)) (Jvm.Term.string "SignatureForest$Shower" (93 : Nat)))) ∈ gvF := List.mem_of_getElem? (i := 61) rfl
theorem gn_2_4 : (Jvm.Cond.not (Jvm.Cond.eq (Jvm.Term.string "SignatureForest$Shower" (86 : Nat)) (Jvm.Term.string "SignatureForest$Shower" (93 : Nat)))) ∈ gvF := List.mem_of_getElem? (i := 62) rfl
theorem gn_3_4 : (Jvm.Cond.not (Jvm.Cond.eq (Jvm.Term.string "SignatureForest$Shower" (91 : Nat)) (Jvm.Term.string "SignatureForest$Shower" (93 : Nat)))) ∈ gvF := List.mem_of_getElem? (i := 63) rfl
theorem gx_5 : (Jvm.Cond.exactly (Jvm.Term.string "SignatureForest$Shower" (95 : Nat)) "java/lang/String") ∈ gvF := List.mem_of_getElem? (i := 64) rfl
theorem gc_5 : (Jvm.Cond.eq (Jvm.Term.field (Jvm.Term.string "SignatureForest$Shower" (95 : Nat)) "java/lang/String" "coder" "B") (Jvm.Term.int (0 : Int32))) ∈ gvF := List.mem_of_getElem? (i := 65) rfl
theorem ga_5 : (Jvm.Cond.arrayOf (Jvm.Term.field (Jvm.Term.string "SignatureForest$Shower" (95 : Nat)) "java/lang/String" "value" "[B") Jvm.ClassFile.FieldType.byte) ∈ gvF := List.mem_of_getElem? (i := 66) rfl
theorem gl_5 : (Jvm.Cond.eq (Jvm.Term.length (Jvm.Term.field (Jvm.Term.string "SignatureForest$Shower" (95 : Nat)) "java/lang/String" "value" "[B")) (Jvm.Term.int (6 : Int32))) ∈ gvF := List.mem_of_getElem? (i := 67) rfl
theorem ge_5_0 : (Jvm.Cond.eq (Jvm.Term.elem (Jvm.Term.field (Jvm.Term.string "SignatureForest$Shower" (95 : Nat)) "java/lang/String" "value" "[B") (Jvm.Term.int (0 : Int32))) (Jvm.Term.int (100 : Int32))) ∈ gvF := List.mem_of_getElem? (i := 68) rfl
theorem ge_5_1 : (Jvm.Cond.eq (Jvm.Term.elem (Jvm.Term.field (Jvm.Term.string "SignatureForest$Shower" (95 : Nat)) "java/lang/String" "value" "[B") (Jvm.Term.int (1 : Int32))) (Jvm.Term.int (111 : Int32))) ∈ gvF := List.mem_of_getElem? (i := 69) rfl
theorem ge_5_2 : (Jvm.Cond.eq (Jvm.Term.elem (Jvm.Term.field (Jvm.Term.string "SignatureForest$Shower" (95 : Nat)) "java/lang/String" "value" "[B") (Jvm.Term.int (2 : Int32))) (Jvm.Term.int (117 : Int32))) ∈ gvF := List.mem_of_getElem? (i := 70) rfl
theorem ge_5_3 : (Jvm.Cond.eq (Jvm.Term.elem (Jvm.Term.field (Jvm.Term.string "SignatureForest$Shower" (95 : Nat)) "java/lang/String" "value" "[B") (Jvm.Term.int (3 : Int32))) (Jvm.Term.int (98 : Int32))) ∈ gvF := List.mem_of_getElem? (i := 71) rfl
theorem ge_5_4 : (Jvm.Cond.eq (Jvm.Term.elem (Jvm.Term.field (Jvm.Term.string "SignatureForest$Shower" (95 : Nat)) "java/lang/String" "value" "[B") (Jvm.Term.int (4 : Int32))) (Jvm.Term.int (108 : Int32))) ∈ gvF := List.mem_of_getElem? (i := 72) rfl
theorem ge_5_5 : (Jvm.Cond.eq (Jvm.Term.elem (Jvm.Term.field (Jvm.Term.string "SignatureForest$Shower" (95 : Nat)) "java/lang/String" "value" "[B") (Jvm.Term.int (5 : Int32))) (Jvm.Term.int (101 : Int32))) ∈ gvF := List.mem_of_getElem? (i := 73) rfl
theorem gn_0_5 : (Jvm.Cond.not (Jvm.Cond.eq (Jvm.Term.string "SignatureForest$Reader" (122 : Nat)) (Jvm.Term.string "SignatureForest$Shower" (95 : Nat)))) ∈ gvF := List.mem_of_getElem? (i := 74) rfl
theorem gn_1_5 : (Jvm.Cond.not (Jvm.Cond.eq (Jvm.Term.string "SignatureForest$Reader" (114 : Nat)) (Jvm.Term.string "SignatureForest$Shower" (95 : Nat)))) ∈ gvF := List.mem_of_getElem? (i := 75) rfl
theorem gn_2_5 : (Jvm.Cond.not (Jvm.Cond.eq (Jvm.Term.string "SignatureForest$Shower" (86 : Nat)) (Jvm.Term.string "SignatureForest$Shower" (95 : Nat)))) ∈ gvF := List.mem_of_getElem? (i := 76) rfl
theorem gn_3_5 : (Jvm.Cond.not (Jvm.Cond.eq (Jvm.Term.string "SignatureForest$Shower" (91 : Nat)) (Jvm.Term.string "SignatureForest$Shower" (95 : Nat)))) ∈ gvF := List.mem_of_getElem? (i := 77) rfl
theorem gn_4_5 : (Jvm.Cond.not (Jvm.Cond.eq (Jvm.Term.string "SignatureForest$Shower" (93 : Nat)) (Jvm.Term.string "SignatureForest$Shower" (95 : Nat)))) ∈ gvF := List.mem_of_getElem? (i := 78) rfl
theorem gx_6 : (Jvm.Cond.exactly (Jvm.Term.string "SignatureForest$Shower" (97 : Nat)) "java/lang/String") ∈ gvF := List.mem_of_getElem? (i := 79) rfl
theorem gc_6 : (Jvm.Cond.eq (Jvm.Term.field (Jvm.Term.string "SignatureForest$Shower" (97 : Nat)) "java/lang/String" "coder" "B") (Jvm.Term.int (0 : Int32))) ∈ gvF := List.mem_of_getElem? (i := 80) rfl
theorem ga_6 : (Jvm.Cond.arrayOf (Jvm.Term.field (Jvm.Term.string "SignatureForest$Shower" (97 : Nat)) "java/lang/String" "value" "[B") Jvm.ClassFile.FieldType.byte) ∈ gvF := List.mem_of_getElem? (i := 81) rfl
theorem gl_6 : (Jvm.Cond.eq (Jvm.Term.length (Jvm.Term.field (Jvm.Term.string "SignatureForest$Shower" (97 : Nat)) "java/lang/String" "value" "[B")) (Jvm.Term.int (5 : Int32))) ∈ gvF := List.mem_of_getElem? (i := 82) rfl
theorem ge_6_0 : (Jvm.Cond.eq (Jvm.Term.elem (Jvm.Term.field (Jvm.Term.string "SignatureForest$Shower" (97 : Nat)) "java/lang/String" "value" "[B") (Jvm.Term.int (0 : Int32))) (Jvm.Term.int (102 : Int32))) ∈ gvF := List.mem_of_getElem? (i := 83) rfl
theorem ge_6_1 : (Jvm.Cond.eq (Jvm.Term.elem (Jvm.Term.field (Jvm.Term.string "SignatureForest$Shower" (97 : Nat)) "java/lang/String" "value" "[B") (Jvm.Term.int (1 : Int32))) (Jvm.Term.int (108 : Int32))) ∈ gvF := List.mem_of_getElem? (i := 84) rfl
theorem ge_6_2 : (Jvm.Cond.eq (Jvm.Term.elem (Jvm.Term.field (Jvm.Term.string "SignatureForest$Shower" (97 : Nat)) "java/lang/String" "value" "[B") (Jvm.Term.int (2 : Int32))) (Jvm.Term.int (111 : Int32))) ∈ gvF := List.mem_of_getElem? (i := 85) rfl
theorem ge_6_3 : (Jvm.Cond.eq (Jvm.Term.elem (Jvm.Term.field (Jvm.Term.string "SignatureForest$Shower" (97 : Nat)) "java/lang/String" "value" "[B") (Jvm.Term.int (3 : Int32))) (Jvm.Term.int (97 : Int32))) ∈ gvF := List.mem_of_getElem? (i := 86) rfl
theorem ge_6_4 : (Jvm.Cond.eq (Jvm.Term.elem (Jvm.Term.field (Jvm.Term.string "SignatureForest$Shower" (97 : Nat)) "java/lang/String" "value" "[B") (Jvm.Term.int (4 : Int32))) (Jvm.Term.int (116 : Int32))) ∈ gvF := List.mem_of_getElem? (i := 87) rfl
theorem gn_0_6 : (Jvm.Cond.not (Jvm.Cond.eq (Jvm.Term.string "SignatureForest$Reader" (122 : Nat)) (Jvm.Term.string "SignatureForest$Shower" (97 : Nat)))) ∈ gvF := List.mem_of_getElem? (i := 88) rfl
theorem gn_1_6 : (Jvm.Cond.not (Jvm.Cond.eq (Jvm.Term.string "SignatureForest$Reader" (114 : Nat)) (Jvm.Term.string "SignatureForest$Shower" (97 : Nat)))) ∈ gvF := List.mem_of_getElem? (i := 89) rfl
theorem gn_2_6 : (Jvm.Cond.not (Jvm.Cond.eq (Jvm.Term.string "SignatureForest$Shower" (86 : Nat)) (Jvm.Term.string "SignatureForest$Shower" (97 : Nat)))) ∈ gvF := List.mem_of_getElem? (i := 90) rfl
theorem gn_3_6 : (Jvm.Cond.not (Jvm.Cond.eq (Jvm.Term.string "SignatureForest$Shower" (91 : Nat)) (Jvm.Term.string "SignatureForest$Shower" (97 : Nat)))) ∈ gvF := List.mem_of_getElem? (i := 91) rfl
theorem gn_4_6 : (Jvm.Cond.not (Jvm.Cond.eq (Jvm.Term.string "SignatureForest$Shower" (93 : Nat)) (Jvm.Term.string "SignatureForest$Shower" (97 : Nat)))) ∈ gvF := List.mem_of_getElem? (i := 92) rfl
theorem gn_5_6 : (Jvm.Cond.not (Jvm.Cond.eq (Jvm.Term.string "SignatureForest$Shower" (95 : Nat)) (Jvm.Term.string "SignatureForest$Shower" (97 : Nat)))) ∈ gvF := List.mem_of_getElem? (i := 93) rfl
theorem gx_7 : (Jvm.Cond.exactly (Jvm.Term.string "SignatureForest$Shower" (99 : Nat)) "java/lang/String") ∈ gvF := List.mem_of_getElem? (i := 94) rfl
theorem gc_7 : (Jvm.Cond.eq (Jvm.Term.field (Jvm.Term.string "SignatureForest$Shower" (99 : Nat)) "java/lang/String" "coder" "B") (Jvm.Term.int (0 : Int32))) ∈ gvF := List.mem_of_getElem? (i := 95) rfl
theorem ga_7 : (Jvm.Cond.arrayOf (Jvm.Term.field (Jvm.Term.string "SignatureForest$Shower" (99 : Nat)) "java/lang/String" "value" "[B") Jvm.ClassFile.FieldType.byte) ∈ gvF := List.mem_of_getElem? (i := 96) rfl
theorem gl_7 : (Jvm.Cond.eq (Jvm.Term.length (Jvm.Term.field (Jvm.Term.string "SignatureForest$Shower" (99 : Nat)) "java/lang/String" "value" "[B")) (Jvm.Term.int (3 : Int32))) ∈ gvF := List.mem_of_getElem? (i := 97) rfl
theorem ge_7_0 : (Jvm.Cond.eq (Jvm.Term.elem (Jvm.Term.field (Jvm.Term.string "SignatureForest$Shower" (99 : Nat)) "java/lang/String" "value" "[B") (Jvm.Term.int (0 : Int32))) (Jvm.Term.int (105 : Int32))) ∈ gvF := List.mem_of_getElem? (i := 98) rfl
theorem ge_7_1 : (Jvm.Cond.eq (Jvm.Term.elem (Jvm.Term.field (Jvm.Term.string "SignatureForest$Shower" (99 : Nat)) "java/lang/String" "value" "[B") (Jvm.Term.int (1 : Int32))) (Jvm.Term.int (110 : Int32))) ∈ gvF := List.mem_of_getElem? (i := 99) rfl
theorem ge_7_2 : (Jvm.Cond.eq (Jvm.Term.elem (Jvm.Term.field (Jvm.Term.string "SignatureForest$Shower" (99 : Nat)) "java/lang/String" "value" "[B") (Jvm.Term.int (2 : Int32))) (Jvm.Term.int (116 : Int32))) ∈ gvF := List.mem_of_getElem? (i := 100) rfl
theorem gn_0_7 : (Jvm.Cond.not (Jvm.Cond.eq (Jvm.Term.string "SignatureForest$Reader" (122 : Nat)) (Jvm.Term.string "SignatureForest$Shower" (99 : Nat)))) ∈ gvF := List.mem_of_getElem? (i := 101) rfl
theorem gn_1_7 : (Jvm.Cond.not (Jvm.Cond.eq (Jvm.Term.string "SignatureForest$Reader" (114 : Nat)) (Jvm.Term.string "SignatureForest$Shower" (99 : Nat)))) ∈ gvF := List.mem_of_getElem? (i := 102) rfl
theorem gn_2_7 : (Jvm.Cond.not (Jvm.Cond.eq (Jvm.Term.string "SignatureForest$Shower" (86 : Nat)) (Jvm.Term.string "SignatureForest$Shower" (99 : Nat)))) ∈ gvF := List.mem_of_getElem? (i := 103) rfl
theorem gn_3_7 : (Jvm.Cond.not (Jvm.Cond.eq (Jvm.Term.string "SignatureForest$Shower" (91 : Nat)) (Jvm.Term.string "SignatureForest$Shower" (99 : Nat)))) ∈ gvF := List.mem_of_getElem? (i := 104) rfl
theorem gn_4_7 : (Jvm.Cond.not (Jvm.Cond.eq (Jvm.Term.string "SignatureForest$Shower" (93 : Nat)) (Jvm.Term.string "SignatureForest$Shower" (99 : Nat)))) ∈ gvF := List.mem_of_getElem? (i := 105) rfl
theorem gn_5_7 : (Jvm.Cond.not (Jvm.Cond.eq (Jvm.Term.string "SignatureForest$Shower" (95 : Nat)) (Jvm.Term.string "SignatureForest$Shower" (99 : Nat)))) ∈ gvF := List.mem_of_getElem? (i := 106) rfl
theorem gn_6_7 : (Jvm.Cond.not (Jvm.Cond.eq (Jvm.Term.string "SignatureForest$Shower" (97 : Nat)) (Jvm.Term.string "SignatureForest$Shower" (99 : Nat)))) ∈ gvF := List.mem_of_getElem? (i := 107) rfl
theorem gx_8 : (Jvm.Cond.exactly (Jvm.Term.string "SignatureForest$Shower" (101 : Nat)) "java/lang/String") ∈ gvF := List.mem_of_getElem? (i := 108) rfl
theorem gc_8 : (Jvm.Cond.eq (Jvm.Term.field (Jvm.Term.string "SignatureForest$Shower" (101 : Nat)) "java/lang/String" "coder" "B") (Jvm.Term.int (0 : Int32))) ∈ gvF := List.mem_of_getElem? (i := 109) rfl
theorem ga_8 : (Jvm.Cond.arrayOf (Jvm.Term.field (Jvm.Term.string "SignatureForest$Shower" (101 : Nat)) "java/lang/String" "value" "[B") Jvm.ClassFile.FieldType.byte) ∈ gvF := List.mem_of_getElem? (i := 110) rfl
theorem gl_8 : (Jvm.Cond.eq (Jvm.Term.length (Jvm.Term.field (Jvm.Term.string "SignatureForest$Shower" (101 : Nat)) "java/lang/String" "value" "[B")) (Jvm.Term.int (4 : Int32))) ∈ gvF := List.mem_of_getElem? (i := 111) rfl
theorem ge_8_0 : (Jvm.Cond.eq (Jvm.Term.elem (Jvm.Term.field (Jvm.Term.string "SignatureForest$Shower" (101 : Nat)) "java/lang/String" "value" "[B") (Jvm.Term.int (0 : Int32))) (Jvm.Term.int (108 : Int32))) ∈ gvF := List.mem_of_getElem? (i := 112) rfl
theorem ge_8_1 : (Jvm.Cond.eq (Jvm.Term.elem (Jvm.Term.field (Jvm.Term.string "SignatureForest$Shower" (101 : Nat)) "java/lang/String" "value" "[B") (Jvm.Term.int (1 : Int32))) (Jvm.Term.int (111 : Int32))) ∈ gvF := List.mem_of_getElem? (i := 113) rfl
theorem ge_8_2 : (Jvm.Cond.eq (Jvm.Term.elem (Jvm.Term.field (Jvm.Term.string "SignatureForest$Shower" (101 : Nat)) "java/lang/String" "value" "[B") (Jvm.Term.int (2 : Int32))) (Jvm.Term.int (110 : Int32))) ∈ gvF := List.mem_of_getElem? (i := 114) rfl
theorem ge_8_3 : (Jvm.Cond.eq (Jvm.Term.elem (Jvm.Term.field (Jvm.Term.string "SignatureForest$Shower" (101 : Nat)) "java/lang/String" "value" "[B") (Jvm.Term.int (3 : Int32))) (Jvm.Term.int (103 : Int32))) ∈ gvF := List.mem_of_getElem? (i := 115) rfl
theorem gn_0_8 : (Jvm.Cond.not (Jvm.Cond.eq (Jvm.Term.string "SignatureForest$Reader" (122 : Nat)) (Jvm.Term.string "SignatureForest$Shower" (101 : Nat)))) ∈ gvF := List.mem_of_getElem? (i := 116) rfl
theorem gn_1_8 : (Jvm.Cond.not (Jvm.Cond.eq (Jvm.Term.string "SignatureForest$Reader" (114 : Nat)) (Jvm.Term.string "SignatureForest$Shower" (101 : Nat)))) ∈ gvF := List.mem_of_getElem? (i := 117) rfl
theorem gn_2_8 : (Jvm.Cond.not (Jvm.Cond.eq (Jvm.Term.string "SignatureForest$Shower" (86 : Nat)) (Jvm.Term.string "SignatureForest$Shower" (101 : Nat)))) ∈ gvF := List.mem_of_getElem? (i := 118) rfl
theorem gn_3_8 : (Jvm.Cond.not (Jvm.Cond.eq (Jvm.Term.string "SignatureForest$Shower" (91 : Nat)) (Jvm.Term.string "SignatureForest$Shower" (101 : Nat)))) ∈ gvF := List.mem_of_getElem? (i := 119) rfl
theorem gn_4_8 : (Jvm.Cond.not (Jvm.Cond.eq (Jvm.Term.string "SignatureForest$Shower" (93 : Nat)) (Jvm.Term.string "SignatureForest$Shower" (101 : Nat)))) ∈ gvF := List.mem_of_getElem? (i := 120) rfl
theorem gn_5_8 : (Jvm.Cond.not (Jvm.Cond.eq (Jvm.Term.string "SignatureForest$Shower" (95 : Nat)) (Jvm.Term.string "SignatureForest$Shower" (101 : Nat)))) ∈ gvF := List.mem_of_getElem? (i := 121) rfl
theorem gn_6_8 : (Jvm.Cond.not (Jvm.Cond.eq (Jvm.Term.string "SignatureForest$Shower" (97 : Nat)) (Jvm.Term.string "SignatureForest$Shower" (101 : Nat)))) ∈ gvF := List.mem_of_getElem? (i := 122) rfl
theorem gn_7_8 : (Jvm.Cond.not (Jvm.Cond.eq (Jvm.Term.string "SignatureForest$Shower" (99 : Nat)) (Jvm.Term.string "SignatureForest$Shower" (101 : Nat)))) ∈ gvF := List.mem_of_getElem? (i := 123) rfl
theorem gx_9 : (Jvm.Cond.exactly (Jvm.Term.string "SignatureForest$Shower" (103 : Nat)) "java/lang/String") ∈ gvF := List.mem_of_getElem? (i := 124) rfl
theorem gc_9 : (Jvm.Cond.eq (Jvm.Term.field (Jvm.Term.string "SignatureForest$Shower" (103 : Nat)) "java/lang/String" "coder" "B") (Jvm.Term.int (0 : Int32))) ∈ gvF := List.mem_of_getElem? (i := 125) rfl
theorem ga_9 : (Jvm.Cond.arrayOf (Jvm.Term.field (Jvm.Term.string "SignatureForest$Shower" (103 : Nat)) "java/lang/String" "value" "[B") Jvm.ClassFile.FieldType.byte) ∈ gvF := List.mem_of_getElem? (i := 126) rfl
theorem gl_9 : (Jvm.Cond.eq (Jvm.Term.length (Jvm.Term.field (Jvm.Term.string "SignatureForest$Shower" (103 : Nat)) "java/lang/String" "value" "[B")) (Jvm.Term.int (5 : Int32))) ∈ gvF := List.mem_of_getElem? (i := 127) rfl
theorem ge_9_0 : (Jvm.Cond.eq (Jvm.Term.elem (Jvm.Term.field (Jvm.Term.string "SignatureForest$Shower" (103 : Nat)) "java/lang/String" "value" "[B") (Jvm.Term.int (0 : Int32))) (Jvm.Term.int (115 : Int32))) ∈ gvF := List.mem_of_getElem? (i := 128) rfl
theorem ge_9_1 : (Jvm.Cond.eq (Jvm.Term.elem (Jvm.Term.field (Jvm.Term.string "SignatureForest$Shower" (103 : Nat)) "java/lang/String" "value" "[B") (Jvm.Term.int (1 : Int32))) (Jvm.Term.int (104 : Int32))) ∈ gvF := List.mem_of_getElem? (i := 129) rfl
theorem ge_9_2 : (Jvm.Cond.eq (Jvm.Term.elem (Jvm.Term.field (Jvm.Term.string "SignatureForest$Shower" (103 : Nat)) "java/lang/String" "value" "[B") (Jvm.Term.int (2 : Int32))) (Jvm.Term.int (111 : Int32))) ∈ gvF := List.mem_of_getElem? (i := 130) rfl
theorem ge_9_3 : (Jvm.Cond.eq (Jvm.Term.elem (Jvm.Term.field (Jvm.Term.string "SignatureForest$Shower" (103 : Nat)) "java/lang/String" "value" "[B") (Jvm.Term.int (3 : Int32))) (Jvm.Term.int (114 : Int32))) ∈ gvF := List.mem_of_getElem? (i := 131) rfl
theorem ge_9_4 : (Jvm.Cond.eq (Jvm.Term.elem (Jvm.Term.field (Jvm.Term.string "SignatureForest$Shower" (103 : Nat)) "java/lang/String" "value" "[B") (Jvm.Term.int (4 : Int32))) (Jvm.Term.int (116 : Int32))) ∈ gvF := List.mem_of_getElem? (i := 132) rfl
theorem gn_0_9 : (Jvm.Cond.not (Jvm.Cond.eq (Jvm.Term.string "SignatureForest$Reader" (122 : Nat)) (Jvm.Term.string "SignatureForest$Shower" (103 : Nat)))) ∈ gvF := List.mem_of_getElem? (i := 133) rfl
theorem gn_1_9 : (Jvm.Cond.not (Jvm.Cond.eq (Jvm.Term.string "SignatureForest$Reader" (114 : Nat)) (Jvm.Term.string "SignatureForest$Shower" (103 : Nat)))) ∈ gvF := List.mem_of_getElem? (i := 134) rfl
theorem gn_2_9 : (Jvm.Cond.not (Jvm.Cond.eq (Jvm.Term.string "SignatureForest$Shower" (86 : Nat)) (Jvm.Term.string "SignatureForest$Shower" (103 : Nat)))) ∈ gvF := List.mem_of_getElem? (i := 135) rfl
theorem gn_3_9 : (Jvm.Cond.not (Jvm.Cond.eq (Jvm.Term.string "SignatureForest$Shower" (91 : Nat)) (Jvm.Term.string "SignatureForest$Shower" (103 : Nat)))) ∈ gvF := List.mem_of_getElem? (i := 136) rfl
theorem gn_4_9 : (Jvm.Cond.not (Jvm.Cond.eq (Jvm.Term.string "SignatureForest$Shower" (93 : Nat)) (Jvm.Term.string "SignatureForest$Shower" (103 : Nat)))) ∈ gvF := List.mem_of_getElem? (i := 137) rfl
theorem gn_5_9 : (Jvm.Cond.not (Jvm.Cond.eq (Jvm.Term.string "SignatureForest$Shower" (95 : Nat)) (Jvm.Term.string "SignatureForest$Shower" (103 : Nat)))) ∈ gvF := List.mem_of_getElem? (i := 138) rfl
theorem gn_6_9 : (Jvm.Cond.not (Jvm.Cond.eq (Jvm.Term.string "SignatureForest$Shower" (97 : Nat)) (Jvm.Term.string "SignatureForest$Shower" (103 : Nat)))) ∈ gvF := List.mem_of_getElem? (i := 139) rfl
theorem gn_7_9 : (Jvm.Cond.not (Jvm.Cond.eq (Jvm.Term.string "SignatureForest$Shower" (99 : Nat)) (Jvm.Term.string "SignatureForest$Shower" (103 : Nat)))) ∈ gvF := List.mem_of_getElem? (i := 140) rfl
theorem gn_8_9 : (Jvm.Cond.not (Jvm.Cond.eq (Jvm.Term.string "SignatureForest$Shower" (101 : Nat)) (Jvm.Term.string "SignatureForest$Shower" (103 : Nat)))) ∈ gvF := List.mem_of_getElem? (i := 141) rfl
theorem gx_10 : (Jvm.Cond.exactly (Jvm.Term.string "SignatureForest$Shower" (105 : Nat)) "java/lang/String") ∈ gvF := List.mem_of_getElem? (i := 142) rfl
theorem gc_10 : (Jvm.Cond.eq (Jvm.Term.field (Jvm.Term.string "SignatureForest$Shower" (105 : Nat)) "java/lang/String" "coder" "B") (Jvm.Term.int (0 : Int32))) ∈ gvF := List.mem_of_getElem? (i := 143) rfl
theorem ga_10 : (Jvm.Cond.arrayOf (Jvm.Term.field (Jvm.Term.string "SignatureForest$Shower" (105 : Nat)) "java/lang/String" "value" "[B") Jvm.ClassFile.FieldType.byte) ∈ gvF := List.mem_of_getElem? (i := 144) rfl
theorem gl_10 : (Jvm.Cond.eq (Jvm.Term.length (Jvm.Term.field (Jvm.Term.string "SignatureForest$Shower" (105 : Nat)) "java/lang/String" "value" "[B")) (Jvm.Term.int (7 : Int32))) ∈ gvF := List.mem_of_getElem? (i := 145) rfl
theorem ge_10_0 : (Jvm.Cond.eq (Jvm.Term.elem (Jvm.Term.field (Jvm.Term.string "SignatureForest$Shower" (105 : Nat)) "java/lang/String" "value" "[B") (Jvm.Term.int (0 : Int32))) (Jvm.Term.int (98 : Int32))) ∈ gvF := List.mem_of_getElem? (i := 146) rfl
theorem ge_10_1 : (Jvm.Cond.eq (Jvm.Term.elem (Jvm.Term.field (Jvm.Term.string "SignatureForest$Shower" (105 : Nat)) "java/lang/String" "value" "[B") (Jvm.Term.int (1 : Int32))) (Jvm.Term.int (111 : Int32))) ∈ gvF := List.mem_of_getElem? (i := 147) rfl
theorem ge_10_2 : (Jvm.Cond.eq (Jvm.Term.elem (Jvm.Term.field (Jvm.Term.string "SignatureForest$Shower" (105 : Nat)) "java/lang/String" "value" "[B") (Jvm.Term.int (2 : Int32))) (Jvm.Term.int (111 : Int32))) ∈ gvF := List.mem_of_getElem? (i := 148) rfl
theorem ge_10_3 : (Jvm.Cond.eq (Jvm.Term.elem (Jvm.Term.field (Jvm.Term.string "SignatureForest$Shower" (105 : Nat)) "java/lang/String" "value" "[B") (Jvm.Term.int (3 : Int32))) (Jvm.Term.int (108 : Int32))) ∈ gvF := List.mem_of_getElem? (i := 149) rfl
theorem ge_10_4 : (Jvm.Cond.eq (Jvm.Term.elem (Jvm.Term.field (Jvm.Term.string "SignatureForest$Shower" (105 : Nat)) "java/lang/String" "value" "[B") (Jvm.Term.int (4 : Int32))) (Jvm.Term.int (101 : Int32))) ∈ gvF := List.mem_of_getElem? (i := 150) rfl
theorem ge_10_5 : (Jvm.Cond.eq (Jvm.Term.elem (Jvm.Term.field (Jvm.Term.string "SignatureForest$Shower" (105 : Nat)) "java/lang/String" "value" "[B") (Jvm.Term.int (5 : Int32))) (Jvm.Term.int (97 : Int32))) ∈ gvF := List.mem_of_getElem? (i := 151) rfl
theorem ge_10_6 : (Jvm.Cond.eq (Jvm.Term.elem (Jvm.Term.field (Jvm.Term.string "SignatureForest$Shower" (105 : Nat)) "java/lang/String" "value" "[B") (Jvm.Term.int (6 : Int32))) (Jvm.Term.int (110 : Int32))) ∈ gvF := List.mem_of_getElem? (i := 152) rfl
theorem gn_0_10 : (Jvm.Cond.not (Jvm.Cond.eq (Jvm.Term.string "SignatureForest$Reader" (122 : Nat)) (Jvm.Term.string "SignatureForest$Shower" (105 : Nat)))) ∈ gvF := List.mem_of_getElem? (i := 153) rfl
theorem gn_1_10 : (Jvm.Cond.not (Jvm.Cond.eq (Jvm.Term.string "SignatureForest$Reader" (114 : Nat)) (Jvm.Term.string "SignatureForest$Shower" (105 : Nat)))) ∈ gvF := List.mem_of_getElem? (i := 154) rfl
theorem gn_2_10 : (Jvm.Cond.not (Jvm.Cond.eq (Jvm.Term.string "SignatureForest$Shower" (86 : Nat)) (Jvm.Term.string "SignatureForest$Shower" (105 : Nat)))) ∈ gvF := List.mem_of_getElem? (i := 155) rfl
theorem gn_3_10 : (Jvm.Cond.not (Jvm.Cond.eq (Jvm.Term.string "SignatureForest$Shower" (91 : Nat)) (Jvm.Term.string "SignatureForest$Shower" (105 : Nat)))) ∈ gvF := List.mem_of_getElem? (i := 156) rfl
theorem gn_4_10 : (Jvm.Cond.not (Jvm.Cond.eq (Jvm.Term.string "SignatureForest$Shower" (93 : Nat)) (Jvm.Term.string "SignatureForest$Shower" (105 : Nat)))) ∈ gvF := List.mem_of_getElem? (i := 157) rfl
theorem gn_5_10 : (Jvm.Cond.not (Jvm.Cond.eq (Jvm.Term.string "SignatureForest$Shower" (95 : Nat)) (Jvm.Term.string "SignatureForest$Shower" (105 : Nat)))) ∈ gvF := List.mem_of_getElem? (i := 158) rfl
theorem gn_6_10 : (Jvm.Cond.not (Jvm.Cond.eq (Jvm.Term.string "SignatureForest$Shower" (97 : Nat)) (Jvm.Term.string "SignatureForest$Shower" (105 : Nat)))) ∈ gvF := List.mem_of_getElem? (i := 159) rfl
theorem gn_7_10 : (Jvm.Cond.not (Jvm.Cond.eq (Jvm.Term.string "SignatureForest$Shower" (99 : Nat)) (Jvm.Term.string "SignatureForest$Shower" (105 : Nat)))) ∈ gvF := List.mem_of_getElem? (i := 160) rfl
theorem gn_8_10 : (Jvm.Cond.not (Jvm.Cond.eq (Jvm.Term.string "SignatureForest$Shower" (101 : Nat)) (Jvm.Term.string "SignatureForest$Shower" (105 : Nat)))) ∈ gvF := List.mem_of_getElem? (i := 161) rfl
theorem gn_9_10 : (Jvm.Cond.not (Jvm.Cond.eq (Jvm.Term.string "SignatureForest$Shower" (103 : Nat)) (Jvm.Term.string "SignatureForest$Shower" (105 : Nat)))) ∈ gvF := List.mem_of_getElem? (i := 162) rfl
theorem gx_11 : (Jvm.Cond.exactly (Jvm.Term.string "SignatureForest$Shower" (107 : Nat)) "java/lang/String") ∈ gvF := List.mem_of_getElem? (i := 163) rfl
theorem gc_11 : (Jvm.Cond.eq (Jvm.Term.field (Jvm.Term.string "SignatureForest$Shower" (107 : Nat)) "java/lang/String" "coder" "B") (Jvm.Term.int (0 : Int32))) ∈ gvF := List.mem_of_getElem? (i := 164) rfl
theorem ga_11 : (Jvm.Cond.arrayOf (Jvm.Term.field (Jvm.Term.string "SignatureForest$Shower" (107 : Nat)) "java/lang/String" "value" "[B") Jvm.ClassFile.FieldType.byte) ∈ gvF := List.mem_of_getElem? (i := 165) rfl
theorem gl_11 : (Jvm.Cond.eq (Jvm.Term.length (Jvm.Term.field (Jvm.Term.string "SignatureForest$Shower" (107 : Nat)) "java/lang/String" "value" "[B")) (Jvm.Term.int (4 : Int32))) ∈ gvF := List.mem_of_getElem? (i := 166) rfl
theorem ge_11_0 : (Jvm.Cond.eq (Jvm.Term.elem (Jvm.Term.field (Jvm.Term.string "SignatureForest$Shower" (107 : Nat)) "java/lang/String" "value" "[B") (Jvm.Term.int (0 : Int32))) (Jvm.Term.int (118 : Int32))) ∈ gvF := List.mem_of_getElem? (i := 167) rfl
theorem ge_11_1 : (Jvm.Cond.eq (Jvm.Term.elem (Jvm.Term.field (Jvm.Term.string "SignatureForest$Shower" (107 : Nat)) "java/lang/String" "value" "[B") (Jvm.Term.int (1 : Int32))) (Jvm.Term.int (111 : Int32))) ∈ gvF := List.mem_of_getElem? (i := 168) rfl
theorem ge_11_2 : (Jvm.Cond.eq (Jvm.Term.elem (Jvm.Term.field (Jvm.Term.string "SignatureForest$Shower" (107 : Nat)) "java/lang/String" "value" "[B") (Jvm.Term.int (2 : Int32))) (Jvm.Term.int (105 : Int32))) ∈ gvF := List.mem_of_getElem? (i := 169) rfl
theorem ge_11_3 : (Jvm.Cond.eq (Jvm.Term.elem (Jvm.Term.field (Jvm.Term.string "SignatureForest$Shower" (107 : Nat)) "java/lang/String" "value" "[B") (Jvm.Term.int (3 : Int32))) (Jvm.Term.int (100 : Int32))) ∈ gvF := List.mem_of_getElem? (i := 170) rfl
theorem gn_0_11 : (Jvm.Cond.not (Jvm.Cond.eq (Jvm.Term.string "SignatureForest$Reader" (122 : Nat)) (Jvm.Term.string "SignatureForest$Shower" (107 : Nat)))) ∈ gvF := List.mem_of_getElem? (i := 171) rfl
theorem gn_1_11 : (Jvm.Cond.not (Jvm.Cond.eq (Jvm.Term.string "SignatureForest$Reader" (114 : Nat)) (Jvm.Term.string "SignatureForest$Shower" (107 : Nat)))) ∈ gvF := List.mem_of_getElem? (i := 172) rfl
theorem gn_2_11 : (Jvm.Cond.not (Jvm.Cond.eq (Jvm.Term.string "SignatureForest$Shower" (86 : Nat)) (Jvm.Term.string "SignatureForest$Shower" (107 : Nat)))) ∈ gvF := List.mem_of_getElem? (i := 173) rfl
theorem gn_3_11 : (Jvm.Cond.not (Jvm.Cond.eq (Jvm.Term.string "SignatureForest$Shower" (91 : Nat)) (Jvm.Term.string "SignatureForest$Shower" (107 : Nat)))) ∈ gvF := List.mem_of_getElem? (i := 174) rfl
theorem gn_4_11 : (Jvm.Cond.not (Jvm.Cond.eq (Jvm.Term.string "SignatureForest$Shower" (93 : Nat)) (Jvm.Term.string "SignatureForest$Shower" (107 : Nat)))) ∈ gvF := List.mem_of_getElem? (i := 175) rfl
theorem gn_5_11 : (Jvm.Cond.not (Jvm.Cond.eq (Jvm.Term.string "SignatureForest$Shower" (95 : Nat)) (Jvm.Term.string "SignatureForest$Shower" (107 : Nat)))) ∈ gvF := List.mem_of_getElem? (i := 176) rfl
theorem gn_6_11 : (Jvm.Cond.not (Jvm.Cond.eq (Jvm.Term.string "SignatureForest$Shower" (97 : Nat)) (Jvm.Term.string "SignatureForest$Shower" (107 : Nat)))) ∈ gvF := List.mem_of_getElem? (i := 177) rfl
theorem gn_7_11 : (Jvm.Cond.not (Jvm.Cond.eq (Jvm.Term.string "SignatureForest$Shower" (99 : Nat)) (Jvm.Term.string "SignatureForest$Shower" (107 : Nat)))) ∈ gvF := List.mem_of_getElem? (i := 178) rfl
theorem gn_8_11 : (Jvm.Cond.not (Jvm.Cond.eq (Jvm.Term.string "SignatureForest$Shower" (101 : Nat)) (Jvm.Term.string "SignatureForest$Shower" (107 : Nat)))) ∈ gvF := List.mem_of_getElem? (i := 179) rfl
theorem gn_9_11 : (Jvm.Cond.not (Jvm.Cond.eq (Jvm.Term.string "SignatureForest$Shower" (103 : Nat)) (Jvm.Term.string "SignatureForest$Shower" (107 : Nat)))) ∈ gvF := List.mem_of_getElem? (i := 180) rfl
theorem gn_10_11 : (Jvm.Cond.not (Jvm.Cond.eq (Jvm.Term.string "SignatureForest$Shower" (105 : Nat)) (Jvm.Term.string "SignatureForest$Shower" (107 : Nat)))) ∈ gvF := List.mem_of_getElem? (i := 181) rfl
theorem gx_12 : (Jvm.Cond.exactly (Jvm.Term.string "SignatureForest$Eraser" (44 : Nat)) "java/lang/String") ∈ gvF := List.mem_of_getElem? (i := 182) rfl
theorem gc_12 : (Jvm.Cond.eq (Jvm.Term.field (Jvm.Term.string "SignatureForest$Eraser" (44 : Nat)) "java/lang/String" "coder" "B") (Jvm.Term.int (0 : Int32))) ∈ gvF := List.mem_of_getElem? (i := 183) rfl
theorem ga_12 : (Jvm.Cond.arrayOf (Jvm.Term.field (Jvm.Term.string "SignatureForest$Eraser" (44 : Nat)) "java/lang/String" "value" "[B") Jvm.ClassFile.FieldType.byte) ∈ gvF := List.mem_of_getElem? (i := 184) rfl
theorem gl_12 : (Jvm.Cond.eq (Jvm.Term.length (Jvm.Term.field (Jvm.Term.string "SignatureForest$Eraser" (44 : Nat)) "java/lang/String" "value" "[B")) (Jvm.Term.int (18 : Int32))) ∈ gvF := List.mem_of_getElem? (i := 185) rfl
theorem ge_12_0 : (Jvm.Cond.eq (Jvm.Term.elem (Jvm.Term.field (Jvm.Term.string "SignatureForest$Eraser" (44 : Nat)) "java/lang/String" "value" "[B") (Jvm.Term.int (0 : Int32))) (Jvm.Term.int (76 : Int32))) ∈ gvF := List.mem_of_getElem? (i := 186) rfl
theorem ge_12_1 : (Jvm.Cond.eq (Jvm.Term.elem (Jvm.Term.field (Jvm.Term.string "SignatureForest$Eraser" (44 : Nat)) "java/lang/String" "value" "[B") (Jvm.Term.int (1 : Int32))) (Jvm.Term.int (106 : Int32))) ∈ gvF := List.mem_of_getElem? (i := 187) rfl
theorem ge_12_2 : (Jvm.Cond.eq (Jvm.Term.elem (Jvm.Term.field (Jvm.Term.string "SignatureForest$Eraser" (44 : Nat)) "java/lang/String" "value" "[B") (Jvm.Term.int (2 : Int32))) (Jvm.Term.int (97 : Int32))) ∈ gvF := List.mem_of_getElem? (i := 188) rfl
theorem ge_12_3 : (Jvm.Cond.eq (Jvm.Term.elem (Jvm.Term.field (Jvm.Term.string "SignatureForest$Eraser" (44 : Nat)) "java/lang/String" "value" "[B") (Jvm.Term.int (3 : Int32))) (Jvm.Term.int (118 : Int32))) ∈ gvF := List.mem_of_getElem? (i := 189) rfl
theorem ge_12_4 : (Jvm.Cond.eq (Jvm.Term.elem (Jvm.Term.field (Jvm.Term.string "SignatureForest$Eraser" (44 : Nat)) "java/lang/String" "value" "[B") (Jvm.Term.int (4 : Int32))) (Jvm.Term.int (97 : Int32))) ∈ gvF := List.mem_of_getElem? (i := 190) rfl
theorem ge_12_5 : (Jvm.Cond.eq (Jvm.Term.elem (Jvm.Term.field (Jvm.Term.string "SignatureForest$Eraser" (44 : Nat)) "java/lang/String" "value" "[B") (Jvm.Term.int (5 : Int32))) (Jvm.Term.int (47 : Int32))) ∈ gvF := List.mem_of_getElem? (i := 191) rfl
theorem ge_12_6 : (Jvm.Cond.eq (Jvm.Term.elem (Jvm.Term.field (Jvm.Term.string "SignatureForest$Eraser" (44 : Nat)) "java/lang/String" "value" "[B") (Jvm.Term.int (6 : Int32))) (Jvm.Term.int (108 : Int32))) ∈ gvF := List.mem_of_getElem? (i := 192) rfl
theorem ge_12_7 : (Jvm.Cond.eq (Jvm.Term.elem (Jvm.Term.field (Jvm.Term.string "SignatureForest$Eraser" (44 : Nat)) "java/lang/String" "value" "[B") (Jvm.Term.int (7 : Int32))) (Jvm.Term.int (97 : Int32))) ∈ gvF := List.mem_of_getElem? (i := 193) rfl
theorem ge_12_8 : (Jvm.Cond.eq (Jvm.Term.elem (Jvm.Term.field (Jvm.Term.string "SignatureForest$Eraser" (44 : Nat)) "java/lang/String" "value" "[B") (Jvm.Term.int (8 : Int32))) (Jvm.Term.int (110 : Int32))) ∈ gvF := List.mem_of_getElem? (i := 194) rfl
theorem ge_12_9 : (Jvm.Cond.eq (Jvm.Term.elem (Jvm.Term.field (Jvm.Term.string "SignatureForest$Eraser" (44 : Nat)) "java/lang/String" "value" "[B") (Jvm.Term.int (9 : Int32))) (Jvm.Term.int (103 : Int32))) ∈ gvF := List.mem_of_getElem? (i := 195) rfl
theorem ge_12_10 : (Jvm.Cond.eq (Jvm.Term.elem (Jvm.Term.field (Jvm.Term.string "SignatureForest$Eraser" (44 : Nat)) "java/lang/String" "value" "[B") (Jvm.Term.int (10 : Int32))) (Jvm.Term.int (47 : Int32))) ∈ gvF := List.mem_of_getElem? (i := 196) rfl
theorem ge_12_11 : (Jvm.Cond.eq (Jvm.Term.elem (Jvm.Term.field (Jvm.Term.string "SignatureForest$Eraser" (44 : Nat)) "java/lang/String" "value" "[B") (Jvm.Term.int (11 : Int32))) (Jvm.Term.int (79 : Int32))) ∈ gvF := List.mem_of_getElem? (i := 197) rfl
theorem ge_12_12 : (Jvm.Cond.eq (Jvm.Term.elem (Jvm.Term.field (Jvm.Term.string "SignatureForest$Eraser" (44 : Nat)) "java/lang/String" "value" "[B") (Jvm.Term.int (12 : Int32))) (Jvm.Term.int (98 : Int32))) ∈ gvF := List.mem_of_getElem? (i := 198) rfl
theorem ge_12_13 : (Jvm.Cond.eq (Jvm.Term.elem (Jvm.Term.field (Jvm.Term.string "SignatureForest$Eraser" (44 : Nat)) "java/lang/String" "value" "[B") (Jvm.Term.int (13 : Int32))) (Jvm.Term.int (106 : Int32))) ∈ gvF := List.mem_of_getElem? (i := 199) rfl
theorem ge_12_14 : (Jvm.Cond.eq (Jvm.Term.elem (Jvm.Term.field (Jvm.Term.string "SignatureForest$Eraser" (44 : Nat)) "java/lang/String" "value" "[B") (Jvm.Term.int (14 : Int32))) (Jvm.Term.int (101 : Int32))) ∈ gvF := List.mem_of_getElem? (i := 200) rfl
theorem ge_12_15 : (Jvm.Cond.eq (Jvm.Term.elem (Jvm.Term.field (Jvm.Term.string "SignatureForest$Eraser" (44 : Nat)) "java/lang/String" "value" "[B") (Jvm.Term.int (15 : Int32))) (Jvm.Term.int (99 : Int32))) ∈ gvF := List.mem_of_getElem? (i := 201) rfl
theorem ge_12_16 : (Jvm.Cond.eq (Jvm.Term.elem (Jvm.Term.field (Jvm.Term.string "SignatureForest$Eraser" (44 : Nat)) "java/lang/String" "value" "[B") (Jvm.Term.int (16 : Int32))) (Jvm.Term.int (116 : Int32))) ∈ gvF := List.mem_of_getElem? (i := 202) rfl
theorem ge_12_17 : (Jvm.Cond.eq (Jvm.Term.elem (Jvm.Term.field (Jvm.Term.string "SignatureForest$Eraser" (44 : Nat)) "java/lang/String" "value" "[B") (Jvm.Term.int (17 : Int32))) (Jvm.Term.int (59 : Int32))) ∈ gvF := List.mem_of_getElem? (i := 203) rfl
theorem gn_0_12 : (Jvm.Cond.not (Jvm.Cond.eq (Jvm.Term.string "SignatureForest$Reader" (122 : Nat)) (Jvm.Term.string "SignatureForest$Eraser" (44 : Nat)))) ∈ gvF := List.mem_of_getElem? (i := 204) rfl
theorem gn_1_12 : (Jvm.Cond.not (Jvm.Cond.eq (Jvm.Term.string "SignatureForest$Reader" (114 : Nat)) (Jvm.Term.string "SignatureForest$Eraser" (44 : Nat)))) ∈ gvF := List.mem_of_getElem? (i := 205) rfl
theorem gn_2_12 : (Jvm.Cond.not (Jvm.Cond.eq (Jvm.Term.string "SignatureForest$Shower" (86 : Nat)) (Jvm.Term.string "SignatureForest$Eraser" (44 : Nat)))) ∈ gvF := List.mem_of_getElem? (i := 206) rfl
theorem gn_3_12 : (Jvm.Cond.not (Jvm.Cond.eq (Jvm.Term.string "SignatureForest$Shower" (91 : Nat)) (Jvm.Term.string "SignatureForest$Eraser" (44 : Nat)))) ∈ gvF := List.mem_of_getElem? (i := 207) rfl
theorem gn_4_12 : (Jvm.Cond.not (Jvm.Cond.eq (Jvm.Term.string "SignatureForest$Shower" (93 : Nat)) (Jvm.Term.string "SignatureForest$Eraser" (44 : Nat)))) ∈ gvF := List.mem_of_getElem? (i := 208) rfl
theorem gn_5_12 : (Jvm.Cond.not (Jvm.Cond.eq (Jvm.Term.string "SignatureForest$Shower" (95 : Nat)) (Jvm.Term.string "SignatureForest$Eraser" (44 : Nat)))) ∈ gvF := List.mem_of_getElem? (i := 209) rfl
theorem gn_6_12 : (Jvm.Cond.not (Jvm.Cond.eq (Jvm.Term.string "SignatureForest$Shower" (97 : Nat)) (Jvm.Term.string "SignatureForest$Eraser" (44 : Nat)))) ∈ gvF := List.mem_of_getElem? (i := 210) rfl
theorem gn_7_12 : (Jvm.Cond.not (Jvm.Cond.eq (Jvm.Term.string "SignatureForest$Shower" (99 : Nat)) (Jvm.Term.string "SignatureForest$Eraser" (44 : Nat)))) ∈ gvF := List.mem_of_getElem? (i := 211) rfl
theorem gn_8_12 : (Jvm.Cond.not (Jvm.Cond.eq (Jvm.Term.string "SignatureForest$Shower" (101 : Nat)) (Jvm.Term.string "SignatureForest$Eraser" (44 : Nat)))) ∈ gvF := List.mem_of_getElem? (i := 212) rfl
theorem gn_9_12 : (Jvm.Cond.not (Jvm.Cond.eq (Jvm.Term.string "SignatureForest$Shower" (103 : Nat)) (Jvm.Term.string "SignatureForest$Eraser" (44 : Nat)))) ∈ gvF := List.mem_of_getElem? (i := 213) rfl
theorem gn_10_12 : (Jvm.Cond.not (Jvm.Cond.eq (Jvm.Term.string "SignatureForest$Shower" (105 : Nat)) (Jvm.Term.string "SignatureForest$Eraser" (44 : Nat)))) ∈ gvF := List.mem_of_getElem? (i := 214) rfl
theorem gn_11_12 : (Jvm.Cond.not (Jvm.Cond.eq (Jvm.Term.string "SignatureForest$Shower" (107 : Nat)) (Jvm.Term.string "SignatureForest$Eraser" (44 : Nat)))) ∈ gvF := List.mem_of_getElem? (i := 215) rfl
theorem gv_ex : ∀ i : Nat, i < 13 → Cond.exactly (ltT i) "java/lang/String" ∈ gvF := by
  intro i hi
  match i, hi with
  | 0, _ => exact gx_0
  | 1, _ => exact gx_1
  | 2, _ => exact gx_2
  | 3, _ => exact gx_3
  | 4, _ => exact gx_4
  | 5, _ => exact gx_5
  | 6, _ => exact gx_6
  | 7, _ => exact gx_7
  | 8, _ => exact gx_8
  | 9, _ => exact gx_9
  | 10, _ => exact gx_10
  | 11, _ => exact gx_11
  | 12, _ => exact gx_12
theorem gv_co : ∀ i : Nat, i < 13 → Cond.eq (.field (ltT i) "java/lang/String" "coder" "B") (.int 0) ∈ gvF := by
  intro i hi
  match i, hi with
  | 0, _ => exact gc_0
  | 1, _ => exact gc_1
  | 2, _ => exact gc_2
  | 3, _ => exact gc_3
  | 4, _ => exact gc_4
  | 5, _ => exact gc_5
  | 6, _ => exact gc_6
  | 7, _ => exact gc_7
  | 8, _ => exact gc_8
  | 9, _ => exact gc_9
  | 10, _ => exact gc_10
  | 11, _ => exact gc_11
  | 12, _ => exact gc_12
theorem gv_ar : ∀ i : Nat, i < 13 → Cond.arrayOf (.field (ltT i) "java/lang/String" "value" "[B") .byte ∈ gvF := by
  intro i hi
  match i, hi with
  | 0, _ => exact ga_0
  | 1, _ => exact ga_1
  | 2, _ => exact ga_2
  | 3, _ => exact ga_3
  | 4, _ => exact ga_4
  | 5, _ => exact ga_5
  | 6, _ => exact ga_6
  | 7, _ => exact ga_7
  | 8, _ => exact ga_8
  | 9, _ => exact ga_9
  | 10, _ => exact ga_10
  | 11, _ => exact ga_11
  | 12, _ => exact ga_12
theorem gv_le : ∀ i : Nat, i < 13 → Cond.eq (.length (.field (ltT i) "java/lang/String" "value" "[B")) (.int (Int32.ofNat (ltL.getD i 0))) ∈ gvF := by
  intro i hi
  match i, hi with
  | 0, _ => exact gl_0
  | 1, _ => exact gl_1
  | 2, _ => exact gl_2
  | 3, _ => exact gl_3
  | 4, _ => exact gl_4
  | 5, _ => exact gl_5
  | 6, _ => exact gl_6
  | 7, _ => exact gl_7
  | 8, _ => exact gl_8
  | 9, _ => exact gl_9
  | 10, _ => exact gl_10
  | 11, _ => exact gl_11
  | 12, _ => exact gl_12
theorem gw_0 : ∀ j : Nat, j < 7 → Cond.eq (.elem (.field (ltT 0) "java/lang/String" "value" "[B") (.int (Int32.ofNat j))) (.int ((ltB.getD 0 []).getD j 0)) ∈ gvF := by
  intro j hj
  match j, hj with
  | 0, _ => exact ge_0_0
  | 1, _ => exact ge_0_1
  | 2, _ => exact ge_0_2
  | 3, _ => exact ge_0_3
  | 4, _ => exact ge_0_4
  | 5, _ => exact ge_0_5
  | 6, _ => exact ge_0_6
theorem gw_1 : ∀ j : Nat, j < 8 → Cond.eq (.elem (.field (ltT 1) "java/lang/String" "value" "[B") (.int (Int32.ofNat j))) (.int ((ltB.getD 1 []).getD j 0)) ∈ gvF := by
  intro j hj
  match j, hj with
  | 0, _ => exact ge_1_0
  | 1, _ => exact ge_1_1
  | 2, _ => exact ge_1_2
  | 3, _ => exact ge_1_3
  | 4, _ => exact ge_1_4
  | 5, _ => exact ge_1_5
  | 6, _ => exact ge_1_6
  | 7, _ => exact ge_1_7
theorem gw_2 : ∀ j : Nat, j < 2 → Cond.eq (.elem (.field (ltT 2) "java/lang/String" "value" "[B") (.int (Int32.ofNat j))) (.int ((ltB.getD 2 []).getD j 0)) ∈ gvF := by
  intro j hj
  match j, hj with
  | 0, _ => exact ge_2_0
  | 1, _ => exact ge_2_1
theorem gw_3 : ∀ j : Nat, j < 4 → Cond.eq (.elem (.field (ltT 3) "java/lang/String" "value" "[B") (.int (Int32.ofNat j))) (.int ((ltB.getD 3 []).getD j 0)) ∈ gvF := by
  intro j hj
  match j, hj with
  | 0, _ => exact ge_3_0
  | 1, _ => exact ge_3_1
  | 2, _ => exact ge_3_2
  | 3, _ => exact ge_3_3
theorem gw_4 : ∀ j : Nat, j < 4 → Cond.eq (.elem (.field (ltT 4) "java/lang/String" "value" "[B") (.int (Int32.ofNat j))) (.int ((ltB.getD 4 []).getD j 0)) ∈ gvF := by
  intro j hj
  match j, hj with
  | 0, _ => exact ge_4_0
  | 1, _ => exact ge_4_1
  | 2, _ => exact ge_4_2
  | 3, _ => exact ge_4_3
theorem gw_5 : ∀ j : Nat, j < 6 → Cond.eq (.elem (.field (ltT 5) "java/lang/String" "value" "[B") (.int (Int32.ofNat j))) (.int ((ltB.getD 5 []).getD j 0)) ∈ gvF := by
  intro j hj
  match j, hj with
  | 0, _ => exact ge_5_0
  | 1, _ => exact ge_5_1
  | 2, _ => exact ge_5_2
  | 3, _ => exact ge_5_3
  | 4, _ => exact ge_5_4
  | 5, _ => exact ge_5_5
theorem gw_6 : ∀ j : Nat, j < 5 → Cond.eq (.elem (.field (ltT 6) "java/lang/String" "value" "[B") (.int (Int32.ofNat j))) (.int ((ltB.getD 6 []).getD j 0)) ∈ gvF := by
  intro j hj
  match j, hj with
  | 0, _ => exact ge_6_0
  | 1, _ => exact ge_6_1
  | 2, _ => exact ge_6_2
  | 3, _ => exact ge_6_3
  | 4, _ => exact ge_6_4
theorem gw_7 : ∀ j : Nat, j < 3 → Cond.eq (.elem (.field (ltT 7) "java/lang/String" "value" "[B") (.int (Int32.ofNat j))) (.int ((ltB.getD 7 []).getD j 0)) ∈ gvF := by
  intro j hj
  match j, hj with
  | 0, _ => exact ge_7_0
  | 1, _ => exact ge_7_1
  | 2, _ => exact ge_7_2
theorem gw_8 : ∀ j : Nat, j < 4 → Cond.eq (.elem (.field (ltT 8) "java/lang/String" "value" "[B") (.int (Int32.ofNat j))) (.int ((ltB.getD 8 []).getD j 0)) ∈ gvF := by
  intro j hj
  match j, hj with
  | 0, _ => exact ge_8_0
  | 1, _ => exact ge_8_1
  | 2, _ => exact ge_8_2
  | 3, _ => exact ge_8_3
theorem gw_9 : ∀ j : Nat, j < 5 → Cond.eq (.elem (.field (ltT 9) "java/lang/String" "value" "[B") (.int (Int32.ofNat j))) (.int ((ltB.getD 9 []).getD j 0)) ∈ gvF := by
  intro j hj
  match j, hj with
  | 0, _ => exact ge_9_0
  | 1, _ => exact ge_9_1
  | 2, _ => exact ge_9_2
  | 3, _ => exact ge_9_3
  | 4, _ => exact ge_9_4
theorem gw_10 : ∀ j : Nat, j < 7 → Cond.eq (.elem (.field (ltT 10) "java/lang/String" "value" "[B") (.int (Int32.ofNat j))) (.int ((ltB.getD 10 []).getD j 0)) ∈ gvF := by
  intro j hj
  match j, hj with
  | 0, _ => exact ge_10_0
  | 1, _ => exact ge_10_1
  | 2, _ => exact ge_10_2
  | 3, _ => exact ge_10_3
  | 4, _ => exact ge_10_4
  | 5, _ => exact ge_10_5
  | 6, _ => exact ge_10_6
theorem gw_11 : ∀ j : Nat, j < 4 → Cond.eq (.elem (.field (ltT 11) "java/lang/String" "value" "[B") (.int (Int32.ofNat j))) (.int ((ltB.getD 11 []).getD j 0)) ∈ gvF := by
  intro j hj
  match j, hj with
  | 0, _ => exact ge_11_0
  | 1, _ => exact ge_11_1
  | 2, _ => exact ge_11_2
  | 3, _ => exact ge_11_3
theorem gw_12 : ∀ j : Nat, j < 18 → Cond.eq (.elem (.field (ltT 12) "java/lang/String" "value" "[B") (.int (Int32.ofNat j))) (.int ((ltB.getD 12 []).getD j 0)) ∈ gvF := by
  intro j hj
  match j, hj with
  | 0, _ => exact ge_12_0
  | 1, _ => exact ge_12_1
  | 2, _ => exact ge_12_2
  | 3, _ => exact ge_12_3
  | 4, _ => exact ge_12_4
  | 5, _ => exact ge_12_5
  | 6, _ => exact ge_12_6
  | 7, _ => exact ge_12_7
  | 8, _ => exact ge_12_8
  | 9, _ => exact ge_12_9
  | 10, _ => exact ge_12_10
  | 11, _ => exact ge_12_11
  | 12, _ => exact ge_12_12
  | 13, _ => exact ge_12_13
  | 14, _ => exact ge_12_14
  | 15, _ => exact ge_12_15
  | 16, _ => exact ge_12_16
  | 17, _ => exact ge_12_17
  | q_ + 18, h_ => exact absurd h_ (by omega)
theorem gv_el : ∀ i : Nat, i < 13 → ∀ j : Nat, j < ltL.getD i 0 → Cond.eq (.elem (.field (ltT i) "java/lang/String" "value" "[B") (.int (Int32.ofNat j))) (.int ((ltB.getD i []).getD j 0)) ∈ gvF := by
  intro i hi
  match i, hi with
  | 0, _ => exact gw_0
  | 1, _ => exact gw_1
  | 2, _ => exact gw_2
  | 3, _ => exact gw_3
  | 4, _ => exact gw_4
  | 5, _ => exact gw_5
  | 6, _ => exact gw_6
  | 7, _ => exact gw_7
  | 8, _ => exact gw_8
  | 9, _ => exact gw_9
  | 10, _ => exact gw_10
  | 11, _ => exact gw_11
  | 12, _ => exact gw_12
theorem gy_0 : ∀ j : Nat, j < 13 → 0 ≠ j → Cond.not (Cond.eq (ltT 0) (ltT j)) ∈ gvF ∨ Cond.not (Cond.eq (ltT j) (ltT 0)) ∈ gvF := by
  intro j hj hne
  match j, hj, hne with
  | 0, _, h9 => exact absurd rfl h9
  | 1, _, _ => exact Or.inl gn_0_1
  | 2, _, _ => exact Or.inl gn_0_2
  | 3, _, _ => exact Or.inl gn_0_3
  | 4, _, _ => exact Or.inl gn_0_4
  | 5, _, _ => exact Or.inl gn_0_5
  | 6, _, _ => exact Or.inl gn_0_6
  | 7, _, _ => exact Or.inl gn_0_7
  | 8, _, _ => exact Or.inl gn_0_8
  | 9, _, _ => exact Or.inl gn_0_9
  | 10, _, _ => exact Or.inl gn_0_10
  | 11, _, _ => exact Or.inl gn_0_11
  | 12, _, _ => exact Or.inl gn_0_12
theorem gy_1 : ∀ j : Nat, j < 13 → 1 ≠ j → Cond.not (Cond.eq (ltT 1) (ltT j)) ∈ gvF ∨ Cond.not (Cond.eq (ltT j) (ltT 1)) ∈ gvF := by
  intro j hj hne
  match j, hj, hne with
  | 0, _, _ => exact Or.inr gn_0_1
  | 1, _, h9 => exact absurd rfl h9
  | 2, _, _ => exact Or.inl gn_1_2
  | 3, _, _ => exact Or.inl gn_1_3
  | 4, _, _ => exact Or.inl gn_1_4
  | 5, _, _ => exact Or.inl gn_1_5
  | 6, _, _ => exact Or.inl gn_1_6
  | 7, _, _ => exact Or.inl gn_1_7
  | 8, _, _ => exact Or.inl gn_1_8
  | 9, _, _ => exact Or.inl gn_1_9
  | 10, _, _ => exact Or.inl gn_1_10
  | 11, _, _ => exact Or.inl gn_1_11
  | 12, _, _ => exact Or.inl gn_1_12
theorem gy_2 : ∀ j : Nat, j < 13 → 2 ≠ j → Cond.not (Cond.eq (ltT 2) (ltT j)) ∈ gvF ∨ Cond.not (Cond.eq (ltT j) (ltT 2)) ∈ gvF := by
  intro j hj hne
  match j, hj, hne with
  | 0, _, _ => exact Or.inr gn_0_2
  | 1, _, _ => exact Or.inr gn_1_2
  | 2, _, h9 => exact absurd rfl h9
  | 3, _, _ => exact Or.inl gn_2_3
  | 4, _, _ => exact Or.inl gn_2_4
  | 5, _, _ => exact Or.inl gn_2_5
  | 6, _, _ => exact Or.inl gn_2_6
  | 7, _, _ => exact Or.inl gn_2_7
  | 8, _, _ => exact Or.inl gn_2_8
  | 9, _, _ => exact Or.inl gn_2_9
  | 10, _, _ => exact Or.inl gn_2_10
  | 11, _, _ => exact Or.inl gn_2_11
  | 12, _, _ => exact Or.inl gn_2_12
theorem gy_3 : ∀ j : Nat, j < 13 → 3 ≠ j → Cond.not (Cond.eq (ltT 3) (ltT j)) ∈ gvF ∨ Cond.not (Cond.eq (ltT j) (ltT 3)) ∈ gvF := by
  intro j hj hne
  match j, hj, hne with
  | 0, _, _ => exact Or.inr gn_0_3
  | 1, _, _ => exact Or.inr gn_1_3
  | 2, _, _ => exact Or.inr gn_2_3
  | 3, _, h9 => exact absurd rfl h9
  | 4, _, _ => exact Or.inl gn_3_4
  | 5, _, _ => exact Or.inl gn_3_5
  | 6, _, _ => exact Or.inl gn_3_6
  | 7, _, _ => exact Or.inl gn_3_7
  | 8, _, _ => exact Or.inl gn_3_8
  | 9, _, _ => exact Or.inl gn_3_9
  | 10, _, _ => exact Or.inl gn_3_10
  | 11, _, _ => exact Or.inl gn_3_11
  | 12, _, _ => exact Or.inl gn_3_12
theorem gy_4 : ∀ j : Nat, j < 13 → 4 ≠ j → Cond.not (Cond.eq (ltT 4) (ltT j)) ∈ gvF ∨ Cond.not (Cond.eq (ltT j) (ltT 4)) ∈ gvF := by
  intro j hj hne
  match j, hj, hne with
  | 0, _, _ => exact Or.inr gn_0_4
  | 1, _, _ => exact Or.inr gn_1_4
  | 2, _, _ => exact Or.inr gn_2_4
  | 3, _, _ => exact Or.inr gn_3_4
  | 4, _, h9 => exact absurd rfl h9
  | 5, _, _ => exact Or.inl gn_4_5
  | 6, _, _ => exact Or.inl gn_4_6
  | 7, _, _ => exact Or.inl gn_4_7
  | 8, _, _ => exact Or.inl gn_4_8
  | 9, _, _ => exact Or.inl gn_4_9
  | 10, _, _ => exact Or.inl gn_4_10
  | 11, _, _ => exact Or.inl gn_4_11
  | 12, _, _ => exact Or.inl gn_4_12
theorem gy_5 : ∀ j : Nat, j < 13 → 5 ≠ j → Cond.not (Cond.eq (ltT 5) (ltT j)) ∈ gvF ∨ Cond.not (Cond.eq (ltT j) (ltT 5)) ∈ gvF := by
  intro j hj hne
  match j, hj, hne with
  | 0, _, _ => exact Or.inr gn_0_5
  | 1, _, _ => exact Or.inr gn_1_5
  | 2, _, _ => exact Or.inr gn_2_5
  | 3, _, _ => exact Or.inr gn_3_5
  | 4, _, _ => exact Or.inr gn_4_5
  | 5, _, h9 => exact absurd rfl h9
  | 6, _, _ => exact Or.inl gn_5_6
  | 7, _, _ => exact Or.inl gn_5_7
  | 8, _, _ => exact Or.inl gn_5_8
  | 9, _, _ => exact Or.inl gn_5_9
  | 10, _, _ => exact Or.inl gn_5_10
  | 11, _, _ => exact Or.inl gn_5_11
  | 12, _, _ => exact Or.inl gn_5_12
theorem gy_6 : ∀ j : Nat, j < 13 → 6 ≠ j → Cond.not (Cond.eq (ltT 6) (ltT j)) ∈ gvF ∨ Cond.not (Cond.eq (ltT j) (ltT 6)) ∈ gvF := by
  intro j hj hne
  match j, hj, hne with
  | 0, _, _ => exact Or.inr gn_0_6
  | 1, _, _ => exact Or.inr gn_1_6
  | 2, _, _ => exact Or.inr gn_2_6
  | 3, _, _ => exact Or.inr gn_3_6
  | 4, _, _ => exact Or.inr gn_4_6
  | 5, _, _ => exact Or.inr gn_5_6
  | 6, _, h9 => exact absurd rfl h9
  | 7, _, _ => exact Or.inl gn_6_7
  | 8, _, _ => exact Or.inl gn_6_8
  | 9, _, _ => exact Or.inl gn_6_9
  | 10, _, _ => exact Or.inl gn_6_10
  | 11, _, _ => exact Or.inl gn_6_11
  | 12, _, _ => exact Or.inl gn_6_12
theorem gy_7 : ∀ j : Nat, j < 13 → 7 ≠ j → Cond.not (Cond.eq (ltT 7) (ltT j)) ∈ gvF ∨ Cond.not (Cond.eq (ltT j) (ltT 7)) ∈ gvF := by
  intro j hj hne
  match j, hj, hne with
  | 0, _, _ => exact Or.inr gn_0_7
  | 1, _, _ => exact Or.inr gn_1_7
  | 2, _, _ => exact Or.inr gn_2_7
  | 3, _, _ => exact Or.inr gn_3_7
  | 4, _, _ => exact Or.inr gn_4_7
  | 5, _, _ => exact Or.inr gn_5_7
  | 6, _, _ => exact Or.inr gn_6_7
  | 7, _, h9 => exact absurd rfl h9
  | 8, _, _ => exact Or.inl gn_7_8
  | 9, _, _ => exact Or.inl gn_7_9
  | 10, _, _ => exact Or.inl gn_7_10
  | 11, _, _ => exact Or.inl gn_7_11
  | 12, _, _ => exact Or.inl gn_7_12
theorem gy_8 : ∀ j : Nat, j < 13 → 8 ≠ j → Cond.not (Cond.eq (ltT 8) (ltT j)) ∈ gvF ∨ Cond.not (Cond.eq (ltT j) (ltT 8)) ∈ gvF := by
  intro j hj hne
  match j, hj, hne with
  | 0, _, _ => exact Or.inr gn_0_8
  | 1, _, _ => exact Or.inr gn_1_8
  | 2, _, _ => exact Or.inr gn_2_8
  | 3, _, _ => exact Or.inr gn_3_8
  | 4, _, _ => exact Or.inr gn_4_8
  | 5, _, _ => exact Or.inr gn_5_8
  | 6, _, _ => exact Or.inr gn_6_8
  | 7, _, _ => exact Or.inr gn_7_8
  | 8, _, h9 => exact absurd rfl h9
  | 9, _, _ => exact Or.inl gn_8_9
  | 10, _, _ => exact Or.inl gn_8_10
  | 11, _, _ => exact Or.inl gn_8_11
  | 12, _, _ => exact Or.inl gn_8_12
theorem gy_9 : ∀ j : Nat, j < 13 → 9 ≠ j → Cond.not (Cond.eq (ltT 9) (ltT j)) ∈ gvF ∨ Cond.not (Cond.eq (ltT j) (ltT 9)) ∈ gvF := by
  intro j hj hne
  match j, hj, hne with
  | 0, _, _ => exact Or.inr gn_0_9
  | 1, _, _ => exact Or.inr gn_1_9
  | 2, _, _ => exact Or.inr gn_2_9
  | 3, _, _ => exact Or.inr gn_3_9
  | 4, _, _ => exact Or.inr gn_4_9
  | 5, _, _ => exact Or.inr gn_5_9
  | 6, _, _ => exact Or.inr gn_6_9
  | 7, _, _ => exact Or.inr gn_7_9
  | 8, _, _ => exact Or.inr gn_8_9
  | 9, _, h9 => exact absurd rfl h9
  | 10, _, _ => exact Or.inl gn_9_10
  | 11, _, _ => exact Or.inl gn_9_11
  | 12, _, _ => exact Or.inl gn_9_12
theorem gy_10 : ∀ j : Nat, j < 13 → 10 ≠ j → Cond.not (Cond.eq (ltT 10) (ltT j)) ∈ gvF ∨ Cond.not (Cond.eq (ltT j) (ltT 10)) ∈ gvF := by
  intro j hj hne
  match j, hj, hne with
  | 0, _, _ => exact Or.inr gn_0_10
  | 1, _, _ => exact Or.inr gn_1_10
  | 2, _, _ => exact Or.inr gn_2_10
  | 3, _, _ => exact Or.inr gn_3_10
  | 4, _, _ => exact Or.inr gn_4_10
  | 5, _, _ => exact Or.inr gn_5_10
  | 6, _, _ => exact Or.inr gn_6_10
  | 7, _, _ => exact Or.inr gn_7_10
  | 8, _, _ => exact Or.inr gn_8_10
  | 9, _, _ => exact Or.inr gn_9_10
  | 10, _, h9 => exact absurd rfl h9
  | 11, _, _ => exact Or.inl gn_10_11
  | 12, _, _ => exact Or.inl gn_10_12
theorem gy_11 : ∀ j : Nat, j < 13 → 11 ≠ j → Cond.not (Cond.eq (ltT 11) (ltT j)) ∈ gvF ∨ Cond.not (Cond.eq (ltT j) (ltT 11)) ∈ gvF := by
  intro j hj hne
  match j, hj, hne with
  | 0, _, _ => exact Or.inr gn_0_11
  | 1, _, _ => exact Or.inr gn_1_11
  | 2, _, _ => exact Or.inr gn_2_11
  | 3, _, _ => exact Or.inr gn_3_11
  | 4, _, _ => exact Or.inr gn_4_11
  | 5, _, _ => exact Or.inr gn_5_11
  | 6, _, _ => exact Or.inr gn_6_11
  | 7, _, _ => exact Or.inr gn_7_11
  | 8, _, _ => exact Or.inr gn_8_11
  | 9, _, _ => exact Or.inr gn_9_11
  | 10, _, _ => exact Or.inr gn_10_11
  | 11, _, h9 => exact absurd rfl h9
  | 12, _, _ => exact Or.inl gn_11_12
theorem gy_12 : ∀ j : Nat, j < 13 → 12 ≠ j → Cond.not (Cond.eq (ltT 12) (ltT j)) ∈ gvF ∨ Cond.not (Cond.eq (ltT j) (ltT 12)) ∈ gvF := by
  intro j hj hne
  match j, hj, hne with
  | 0, _, _ => exact Or.inr gn_0_12
  | 1, _, _ => exact Or.inr gn_1_12
  | 2, _, _ => exact Or.inr gn_2_12
  | 3, _, _ => exact Or.inr gn_3_12
  | 4, _, _ => exact Or.inr gn_4_12
  | 5, _, _ => exact Or.inr gn_5_12
  | 6, _, _ => exact Or.inr gn_6_12
  | 7, _, _ => exact Or.inr gn_7_12
  | 8, _, _ => exact Or.inr gn_8_12
  | 9, _, _ => exact Or.inr gn_9_12
  | 10, _, _ => exact Or.inr gn_10_12
  | 11, _, _ => exact Or.inr gn_11_12
  | 12, _, h9 => exact absurd rfl h9
theorem gv_ne : ∀ i : Nat, i < 13 → ∀ j : Nat, j < 13 → i ≠ j → Cond.not (Cond.eq (ltT i) (ltT j)) ∈ gvF ∨ Cond.not (Cond.eq (ltT j) (ltT i)) ∈ gvF := by
  intro i hi
  match i, hi with
  | 0, _ => exact gy_0
  | 1, _ => exact gy_1
  | 2, _ => exact gy_2
  | 3, _ => exact gy_3
  | 4, _ => exact gy_4
  | 5, _ => exact gy_5
  | 6, _ => exact gy_6
  | 7, _ => exact gy_7
  | 8, _ => exact gy_8
  | 9, _ => exact gy_9
  | 10, _ => exact gy_10
  | 11, _ => exact gy_11
  | 12, _ => exact gy_12
theorem gv_nn : ∀ i : Nat, i < 13 → ltL.getD i 0 < 2 ^ 31 := by decide +kernel
theorem gv_cs : (Jvm.Cond.eq (Jvm.Term.static "java/lang/String" "COMPACT_STRINGS" "Z") (Jvm.Term.int (1 : Int32))) ∈ gvF := List.mem_of_getElem? (i := 4) rfl
theorem gv_sf : (Jvm.Cond.isRef (Jvm.Term.static "jdk/internal/util/Preconditions" "SIOOBE_FORMATTER" "Ljava/util/function/BiFunction;")) ∈ gvF := List.mem_of_getElem? (i := 5) rfl
theorem gr_of {p : Program} {s : State} {m : MethodId} {meth : Method} {c : Code} {b L : Nat} {xs : Nat → Int32} (C0 : lw_At p s m meth c b L xs) : ∃ G : GX, LE p s m meth c b L xs G := by
  obtain ⟨hx, hb, hr, hml, hown, hts, hX, hbl, hlocks, hgv⟩ := id C0
  have htB : ∀ w ∈ BG, w.before #[Value.ref b] s = true := fun w hw => hts w (List.mem_filter.mp hw).1
  have hgs : ∀ w ∈ gvF, w.before #[Value.ref b] s = true := flat_of_before _ hgv
  have hA : ∀ q : Nat, q < s.heap.size → ¬ s.heap.size ≤ q := fun q h => Nat.not_le.mpr h
  obtain ⟨c0, iS0, hK0⟩ := u_known (C := R_Er) (T := T_Er) (N := 1) (n := 1) htB i_Er (htB (.instantiable R_Er 1) b_415)
  obtain ⟨c1, iS1, hK1⟩ := u_known (C := R_Rd) (T := T_Rd) (N := 8) (n := 8) htB i_Rd (htB (.instantiable R_Rd 8) b_401)
  obtain ⟨c2, iS2, hK2⟩ := u_known (C := R_Rw) (T := T_Rw) (N := 2) (n := 2) htB i_Rw (htB (.instantiable R_Rw 2) b_297)
  obtain ⟨c3, iS3, hK3⟩ := u_known (C := R_Sk) (T := T_Sk) (N := 3) (n := 3) htB i_Sk (htB (.instantiable R_Sk 3) b_406)
  obtain ⟨c4, iS4, hK4⟩ := u_known (C := R_Sh) (T := T_Sh) (N := 4) (n := 4) htB i_Sh (htB (.instantiable R_Sh 4) b_410)
  obtain ⟨c5, iS5, hK5⟩ := u_known (C := R_Sg) (T := T_Sg) (N := 7) (n := 7) htB i_Sg (htB (.instantiable R_Sg 7) b_380)
  obtain ⟨c6, iS6, hK6⟩ := u_known (C := R_Fo) (T := T_Fo) (N := 9) (n := 9) htB i_Fo (htB (.instantiable R_Fo 9) b_757)
  obtain ⟨c7, iS7, hK7⟩ := u_known (C := R_Mo) (T := T_Mo) (N := 22) (n := 22) htB i_Mo (htB (.instantiable R_Mo 22) b_759)
  obtain ⟨cA0, kA0, cm0, ha0, hb0, hc0⟩ := Cond.arrayClass_spec (htB (.arrayClass .char) b_71)
  obtain ⟨cA1, kA1, cm1, ha1, hb1, hc1⟩ := Cond.arrayClass_spec (htB (.arrayClass .int) b_165)
  obtain ⟨cA3, kA3, cm3, ha3, hb3, hc3⟩ := Cond.arrayClass_spec (htB (.arrayClass .boolean) b_581)
  obtain ⟨cm2, cA2, kA2, hd2, -, hb2, hc2, ha2⟩ := Cond.arrayOver_spec (hts (.arrayOver (.object R_Sg)) (lwt1 (i := 133) rfl))
  obtain ⟨adK, adV, hSt, hev⟩ := vk_Sof (N := ltN) (tm := ltT) (len := ltL) (byt := ltB) (A := fun q => s.heap.size ≤ q) gv_nn (fun i hi => hgs _ (gv_ex i hi)) (fun i hi => hgs _ (gv_co i hi)) (fun i hi => hgs _ (gv_ar i hi)) (fun i hi => hgs _ (gv_le i hi)) (fun i hi j hj => hgs _ (gv_el i hi j hj)) (fun i j hi hj h => (gv_ne i hi j hj h).imp (fun q => hgs _ q) (fun q => hgs _ q)) hA
  have hZ1 := va_Zof (A := fun q => s.heap.size ≤ q) (hts _ (lwt1 (i := 214) rfl)) (htB _ b_12) (va_eqi (hgs _ gv_cs)) hA
  have hZ2 : ∃ rz : Option Nat, va_Z "jdk/internal/util/Preconditions" "SIOOBE_FORMATTER" "Ljava/util/function/BiFunction;" (va_rf rz) (fun q => s.heap.size ≤ q) s s.heap := by
    rcases va_Zqof (A := fun q => s.heap.size ≤ q) (hts _ (lwt2 (i := 17) rfl)) (htB _ b_4) (hgs _ gv_sf) hA with h | ⟨t, h⟩
    · exact ⟨none, h⟩
    · exact ⟨some t, h⟩
  refine ⟨(((fun k => if k = 0 then c0 else if k = 1 then c1 else if k = 2 then c2 else if k = 3 then c3 else if k = 4 then c4 else if k = 5 then c5 else if k = 6 then c6 else c7), (fun k => if k = 0 then iS0 else if k = 1 then iS1 else if k = 2 then iS2 else if k = 3 then iS3 else if k = 4 then iS4 else if k = 5 then iS5 else if k = 6 then iS6 else iS7)), (fun k => if k = 0 then cA0 else if k = 1 then cA1 else if k = 2 then cA2 else cA3), s.heap.size, adK, adV), C0, ⟨⟨?_, ?_⟩, gr_nsF hts, gr_nsM hts, Nat.le_refl _, hSt, gr_srF hts hev, hZ1, va_AO.of (hts (.arrayOver (.object R_Sg)) (lwt1 (i := 133) rfl)), hZ2⟩, rfl⟩
  · intro k q hq
    match k, hq with
    | 0, hq => cases hq; exact hK0
    | 1, hq => cases hq; exact hK1
    | 2, hq => cases hq; exact hK2
    | 3, hq => cases hq; exact hK3
    | 4, hq => cases hq; exact hK4
    | 5, hq => cases hq; exact hK5
    | 6, hq => cases hq; exact hK6
    | 7, hq => cases hq; exact hK7
    | k + 8, hq => simp [vwCl] at hq
  · intro k q hq
    match k, hq with
    | 0, hq => cases hq; exact ⟨fun n z => ⟨fun k h => (by cases h), kA0, hb0, cm0, hc0⟩, ha0⟩
    | 1, hq => cases hq; exact ⟨fun n z => ⟨fun k h => (by cases h), kA1, hb1, cm1, hc1⟩, ha1⟩
    | 2, hq => cases hq; exact ⟨fun n z => ⟨fun k h => (by cases h), kA2, hb2, cm2, hc2⟩, ⟨kA2, cm2, hb2, hc2, hd2, ha2⟩⟩
    | 3, hq => cases hq; exact ⟨fun n z => ⟨fun k h => (by cases h), kA3, hb3, cm3, hc3⟩, ha3⟩
    | k + 4, hq => simp [gTys] at hq
