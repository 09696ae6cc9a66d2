/-! the ground of all walks: the fixed things of a launch (G), what holds of them (CX), contracts of readers (mP) and of writers (mW) -/
/-- G: classes' numbers and slots; array classes by their place in gTys; the first address of the law's own cells; the literals' addresses, and those of their bytes -/
abbrev GX : Type := va_G × (Nat → ClassId) × Nat × (Nat → Nat) × (Nat → Nat)
abbrev gTys (G : GX) : List (ClassId × FieldType) := [(G.2.1 0, .char), (G.2.1 1, .int), (G.2.1 2, .object R_Sg), (G.2.1 3, .boolean)]
def CX (G : GX) (U : State) : Prop :=
  va_K G.1 vwCl (gTys G) U ∧ (∀ q ∈ nsF, va_Nw (.fieldLinkNest q.1 q.2.1 q.2.2.1 q.2.2.2.1 q.2.2.2.2.1 q.2.2.2.2.2) U) ∧ (∀ q ∈ nsM, va_Nw (.methodLinkNest q.1 q.2.1 q.2.2.1 q.2.2.2) U) ∧ G.2.2.1 ≤ U.heap.size ∧
  vk_S ltN ltL ltB G.2.2.2.1 G.2.2.2.2 (fun q => G.2.2.1 ≤ q) U U.heap ∧ (∀ q ∈ srF, vk_R q.1 q.2.1 q.2.2.1 (G.2.2.2.1 q.2.2.2) U) ∧ va_Z "java/lang/String" "COMPACT_STRINGS" "Z" (.int 1) (fun q => G.2.2.1 ≤ q) U U.heap ∧ va_AO R_Sg U ∧ ∃ rz : Option Nat, va_Z "jdk/internal/util/Preconditions" "SIOOBE_FORMATTER" "Ljava/util/function/BiFunction;" (va_rf rz) (fun q => G.2.2.1 ≤ q) U U.heap
theorem CX.move {G : GX} {s U : State} (h : CX G s) (hW : s.WarmedH U.vm) (hz : s.heap.size ≤ U.heap.size) (hk : ∀ q : Nat, q < s.heap.size → ¬ G.2.2.1 ≤ q → U.heap[q]? = s.heap[q]?) : CX G U := by
  obtain ⟨h1, h2, h3, h4, h5, h6, h7, h8, rz, h9⟩ := h
  exact ⟨va_K.moved hW.alike h1, fun q hq => va_Nw.warmF hW (h2 q hq), fun q hq => va_Nw.warmM hW (h3 q hq), Nat.le_trans h4 hz, (vk_S.moved hW.alike h5).kept hk, fun q hq => vk_R.warm hW (h6 q hq), (va_Z.moved hW.alike h7).kept hk, va_AO.moved hW.alike h8, rz, (va_Z.moved hW.alike h9).kept hk⟩
theorem CX.to0 {G : GX} {s U : State} (h : CX G s) (hW : s.WarmedH U.vm) (hU : U.heap = s.heap) : CX G U :=
  h.move hW (by rw [hU]; exact Nat.le_refl _) (fun q _ _ => by rw [hU])
theorem CX.to {G : GX} {s U : State} {A : Nat → Prop} {H : Heap} {locs : List Loc} (h : CX G s) (hW : s.WarmedH U.vm) (hU : U.heap = H) (hS : va_S A s.heap H locs) (hAB : ∀ q : Nat, A q → G.2.2.1 ≤ q) : CX G U :=
  h.move hW (by rw [hU]; exact hS.1) (fun q h1 h2 => by rw [hU]; exact hS.2.1 q h1 (fun z => h2 (hAB q z)))
theorem CX.calling {G : GX} {U : State} (h : CX G U) (g : JFrame) (mk : MethodId) (a : Array Value) : CX G (U.calling g mk a) := by
  obtain ⟨h1, h2, h3, h4, h5, h6, h7, h8, rz, h9⟩ := h
  exact ⟨va_K.moved (u := U) (U := U.calling g mk a) (Vm.Alike.refl U.vm) h1, fun q hq => va_Nw.same rfl (u := U) (U := U.calling g mk a) rfl (h2 q hq), fun q hq => va_Nw.same rfl (u := U) (U := U.calling g mk a) rfl (h3 q hq), h4, vk_S.moved (u := U) (U := U.calling g mk a) (Vm.Alike.refl U.vm) h5, fun q hq => vk_R.same (u := U) (U := U.calling g mk a) rfl (h6 q hq), va_Z.moved (u := U) (U := U.calling g mk a) (Vm.Alike.refl U.vm) h7, va_AO.moved (u := U) (U := U.calling g mk a) (Vm.Alike.refl U.vm) h8, rz, va_Z.moved (u := U) (U := U.calling g mk a) (Vm.Alike.refl U.vm) h9⟩
/-- what a method's walk stands on -/
def EN (p : Program) (s : State) (m : MethodId) (args : Array Value) (meth : Method) (c : Code) (G : GX) (own : String) (cc : ByteArray) (nL : Nat) (rt : Option FieldType) (ws : List Cond) : Prop :=
  p.tables.exec = Jvm.exec ∧ c.code = cc ∧ meth.sig.returnType = rt ∧ (∀ w ∈ ws, w.before args s = true) ∧ s.vm.findClass own = some m.cls ∧ meth.locks = false ∧ c.maxLocals = nL ∧ CX G s
/-- a reader's start -/
def mP (G : GX) (av : List Value) (ro : va_W) : Array Value → State → Prop := va_Pc av (fun U => CX G U ∧ va_P G.1 vwCl ro U.heap)
theorem mP_blind {G : GX} {av : List Value} {ro : va_W} : FrameBlind (mP G av ro) := fun a _ g mk q => ⟨q.1, q.2.1.calling g mk a, q.2.2⟩
def mw_ap (a b : va_W) : Prop := ∀ (i j : Nat) (p q : Nat × va_E), a[i]? = some p → b[j]? = some q → p.1 ≠ q.1
/-- a writer's start: the cells that it may write, those that it only reads -/
def mW (G : GX) (av : List Value) (sz : Nat) (rw ro : va_W) : Array Value → State → Prop :=
  va_Pc av (fun U => CX G U ∧ U.heap.size = sz ∧ va_P G.1 vwCl rw U.heap ∧ va_D (fun q => G.2.2.1 ≤ q) rw ∧ va_P G.1 vwCl ro U.heap ∧ mw_ap rw ro)
theorem mW_blind {G : GX} {av : List Value} {sz : Nat} {rw ro : va_W} : FrameBlind (mW G av sz rw ro) := fun a _ g mk q => ⟨q.1, q.2.1.calling g mk a, q.2.2⟩
theorem vaP_at {D : va_G} {cl : List vw_C} {ws : va_W} {t : State} {H : Heap} (ht : t.heap = H) (hP : va_P D cl ws H) : va_P D cl ws t.heap := by rw [ht]; exact hP
theorem sw_out {x : Int32} {lo : Int} {n : Nat} (h : ∀ k : Nat, k < n → ¬ x.toInt = lo + (k : Int)) : x.toInt < lo ∨ lo + (n : Int) - 1 < x.toInt := by
  rcases Int.lt_or_le x.toInt lo with q | q
  · exact Or.inl q
  · rcases Int.lt_or_le (lo + (n : Int) - 1) x.toInt with r | r
    · exact Or.inr r
    · exact absurd (show x.toInt = lo + (((x.toInt - lo).toNat : Nat) : Int) by omega) (h (x.toInt - lo).toNat (by omega))
theorem lv_tabK {p : Program} {l : Launch} {e : Env} {R : Room} {s : State} {m : MethodId} {args : Array Value} {below : List Frame} {meth : Method} {c : Code} {H : Heap} {locs : List Loc} {cells slots : Nat} {Q : State → Prop} {cc : ByteArray} {pc : Nat} {ls : Array Slot} {rest : List Value} (hexec : p.tables.exec = Jvm.exec) (hb : c.code = cc) {dflt lo hi : Int} {offs : Array Int} {len : Nat} {x k : Int32} {a off : Int} {tgt : Nat} (hdg : decode cc pc = .ok (.tableswitch dflt lo hi offs, len)) (hc : x = k) (ha : k.toInt = a) (h1 : ¬ a < lo) (h2 : ¬ hi < a) (ho : offs[(a - lo).toNat]? = some off) (ht : (pc : Int) + off = (tgt : Int))
    (kk : W p l e R s m args below meth c H locs cells slots Q (F0 m tgt ls rest)) : W p l e R s m args below meth c H locs cells slots Q (F0 m pc ls (.int x :: rest)) := by
  subst hc
  subst ha
  exact lv_tableIn hexec hb hdg h1 h2 ho ht kk
theorem vaP_nil {D : va_G} {cl : List vw_C} {H : Heap} : va_P D cl [] H := fun k q h => by simp at h
theorem mw_ap_nil {a : va_W} : mw_ap a [] := fun i j p q _ h => by simp at h
theorem mw_ap.app {a b c : va_W} (h1 : mw_ap a b) (h2 : mw_ap a c) : mw_ap a (b ++ c) := by
  intro i j p q hp hq
  rcases List.mem_append.mp (List.mem_of_getElem? hq) with h | h
  · obtain ⟨k, hk⟩ := List.getElem?_of_mem h
    exact h1 i k p q hp hk
  · obtain ⟨k, hk⟩ := List.getElem?_of_mem h
    exact h2 i k p q hp hk
theorem mw_at {ws w : va_W} {is : List Nat} (hs : is.map (fun i => ws[i]?) = w.map some) {k : Nat} {q : Nat × va_E} (hq : w[k]? = some q) : ∃ i, is[k]? = some i ∧ ws[i]? = some q := by
  have h1 : (is.map (fun i => ws[i]?))[k]? = some (some q) := by rw [hs, List.getElem?_map, hq]; rfl
  rw [List.getElem?_map] at h1
  cases hi : is[k]? with
  | none => rw [hi] at h1; cases h1
  | some i => rw [hi] at h1; exact ⟨i, rfl, Option.some.inj h1⟩
theorem mw_ap_D {A : Nat → Prop} {ws wc wr : va_W} (hD : va_D A ws) (isC isR : List Nat) (hC : isC.map (fun i => ws[i]?) = wc.map some) (hR : isR.map (fun i => ws[i]?) = wr.map some) (hd : ∀ i ∈ isR, i ∉ isC) : mw_ap wc wr := by
  intro i j p q hp hq e
  obtain ⟨a, ha, h1⟩ := mw_at hC hp
  obtain ⟨b, hb, h2⟩ := mw_at hR hq
  have hab := hD.1 a b p q h1 h2 e
  subst hab
  exact hd a (List.mem_of_getElem? hb) (List.mem_of_getElem? ha)
theorem mw_ap_R {A : Nat → Prop} {ro wc wr : va_W} {n : Nat} (hF : ∀ q : Nat, va_A wc n q → A q) (hRn : ∀ (j : Nat) (q : Nat × va_E), ro[j]? = some q → ¬ A q.1) (isR : List Nat) (hR : isR.map (fun i => ro[i]?) = wr.map some) : mw_ap wc wr := by
  intro i j p q hp hq e
  obtain ⟨b, hb, h2⟩ := mw_at hR hq
  exact hRn b q h2 (hF q.1 (Or.inl ⟨i, p.2, by rw [← e]; exact hp⟩))
theorem mw_notA {G : GX} {s : State} {rw ro : va_W} (hR : va_P G.1 vwCl ro s.heap) (hap : mw_ap rw ro) : ∀ (j : Nat) (q : Nat × va_E), ro[j]? = some q → ¬ va_A rw s.heap.size q.1 := by
  intro j q hq h
  rcases h with ⟨k, e, hk⟩ | h
  · exact hap k j (q.1, e) q hk hq rfl
  · exact absurd (hR j q hq).lt (Nat.not_lt.mpr h)
theorem mw_AB {G : GX} {s : State} {rw : va_W} (hD : va_D (fun q => G.2.2.1 ≤ q) rw) (hC : CX G s) : ∀ q : Nat, va_A rw s.heap.size q → G.2.2.1 ≤ q := by
  intro q h
  rcases h with ⟨k, e, hk⟩ | h
  · exact hD.2 k (q, e) hk
  · exact Nat.le_trans hC.2.2.2.1 h
theorem ro_now {D : va_G} {cl : List vw_C} {A : Nat → Prop} {ro : va_W} {H0 H : Heap} {locs : List Loc} (hR : va_P D cl ro H0) (hRn : ∀ (j : Nat) (q : Nat × va_E), ro[j]? = some q → ¬ A q.1) (hS : va_S A H0 H locs) : va_P D cl ro H :=
  hR.kept (fun k q hk => hS.2.1 q.1 (hR k q hk).lt (hRn k q hk))
theorem va_S_up {A : Nat → Prop} {B : Nat} {H0 H : Heap} {locs : List Loc} (hS : va_S A H0 H locs) (hAB : ∀ q : Nat, A q → B ≤ q) : va_S (fun q => B ≤ q) H0 H locs :=
  ⟨hS.1, fun q h1 h2 => hS.2.1 q h1 (fun z => h2 (hAB q z)), fun l hl => hAB _ (hS.2.2 l hl)⟩
theorem va_D_same {A : Nat → Prop} {ws w1 : va_W} (h : va_D A ws) (hs : w1.map (fun q => q.1) = ws.map (fun q => q.1)) : va_D A w1 := by
  have key : ∀ (k : Nat) (q : Nat × va_E), w1[k]? = some q → ∃ q0, ws[k]? = some q0 ∧ q0.1 = q.1 := by
    intro k q hk
    have h1 : (w1.map (fun q => q.1))[k]? = some q.1 := by rw [List.getElem?_map, hk]; rfl
    rw [hs, List.getElem?_map] at h1
    cases hw : ws[k]? with
    | none => rw [hw] at h1; cases h1
    | some q0 => rw [hw] at h1; exact ⟨q0, rfl, Option.some.inj h1⟩
  refine ⟨fun i j x y hi hj hxy => ?_, fun k q hk => ?_⟩
  · obtain ⟨x0, h1, h2⟩ := key i x hi
    obtain ⟨y0, h3, h4⟩ := key j y hj
    exact h.1 i j x0 y0 h1 h3 (h2.trans (hxy.trans h4.symm))
  · obtain ⟨q0, h1, h2⟩ := key k q hk
    rw [← h2]
    exact h.2 k q0 h1
theorem mw_join {A0 : Nat → Prop} {D : va_G} {cl : List vw_C} {ws wc wr w1 : va_W} {H H1 : Heap} (hP : va_P D cl ws H) (hD : va_D A0 ws) (isC isR : List Nat) (hC : isC.map (fun i => ws[i]?) = wc.map some) (hR : isR.map (fun i => ws[i]?) = wr.map some) (hn : va_nd isR = true) (hdis : ∀ i ∈ isR, i ∉ isC) (hnC : va_nd isC = true)
    (hk : ∀ q : Nat, q < H.size → ¬ va_A wc H.size q → H1[q]? = H[q]?) (hF : ∀ q, va_A wc H.size q → A0 q) (hP1 : va_P D cl w1 H1) (hs : w1.map (fun q => q.1) = wc.map (fun q => q.1)) : va_P D cl (wr ++ w1) H1 ∧ va_D A0 (wr ++ w1) :=
  va_join hP hD isC isR hC hR hn hdis hk hF hP1 (va_D_same ((hD.sub isC hnC hC).self) hs)
/-- two array classes of one element type are one -/
theorem ka_one {D : va_G} {cl : List vw_C} {tys : List (ClassId × FieldType)} {U : State} {a b : ClassId} {ty : FieldType} (h : va_K D cl tys U) (i j : Nat) (hi : tys[i]? = some (a, ty)) (hj : tys[j]? = some (b, ty)) (_ : True = True) : b = a := by
  have h1 := (h.2 i _ hi).2
  have h2 := (h.2 j _ hj).2
  cases ty with
  | object C =>
    obtain ⟨_, _, _, _, _, g1⟩ := h1
    obtain ⟨_, _, _, _, _, g2⟩ := h2
    exact Option.some.inj (g2.symm.trans g1)
  | _ => exact Option.some.inj ((show _ = some b from h2).symm.trans h1)
section ROC
variable {p : Program} {l : Launch} {e : Env} {R : Room} {s : State} {m : MethodId} {args : Array Value} {below : List Frame} {meth : Method} {c : Code} {H : Heap} {locs : List Loc} {cells slots : Nat} {Q : State → Prop}
variable {cc : ByteArray} {pc : Nat} {ls : Array Slot} {rest : List Value} {D : va_G} {cl : List vw_C} {A : Nat → Prop} {a : Nat} {tys : List (ClassId × FieldType)} {ws : va_W} {H0 : Heap}
/-- System.arraycopy out of a cell that is only read -/
theorem ro_copy (hexec : p.tables.exec = Jvm.exec) (hb : c.code = cc) (hml : c.maxLocals = ls.size) {own : String} {index : Nat} (hown : s.vm.findClass own = some m.cls) (hlink : (Cond.methodLink own index arraycopyName).before args s = true) (hnat : (Cond.native arraycopyName).before args s = true) (hstat : (Cond.static arraycopyName).before args s = true) (hini : (Cond.initialized "java/lang/System").before args s = true)
    (hK : va_K D cl tys s) (hP : va_P D cl ws H) (hD : va_D A ws) (hS : va_S A H0 H locs) {a0 : Nat} {c0 : ClassId} {n0 : Nat} {f : Nat → Int32} (hs0 : va_at D cl (a0, .inl (c0, n0, .inl f)) H) (q1 t0 t1 : Nat) {c1 : ClassId} {n1 : Nat} {g : Nat → Int32} {ty : FieldType} (ha1 : ws[q1]? = some (a, .inl (c1, n1, .inl g))) (ht0 : tys[t0]? = some (c0, ty)) (ht1 : tys[t1]? = some (c1, ty)) (hprim : refKind ty = false)
    {sp dp n : Int32} (h1 : ¬ sp < 0) (h2 : ¬ dp < 0) (h3 : ¬ n < 0) (h4 : sp.toNatClampNeg + n.toNatClampNeg ≤ n0) (h5 : dp.toNatClampNeg + n.toNatClampNeg ≤ n1) (hfit : ∀ i, i < n.toNatClampNeg → fits ty (.int (f (sp.toNatClampNeg + i))) = true)
    (hframes : 1 ≤ R.frames) (hlocals : (rest.map fun v => v.category).sum + (nativeFrameWords "java/lang/System" "arraycopy" 5 + 11) ≤ R.locals) (hdg : decode cc pc = .ok (.invokestatic index, 3))
    (kk : ∀ (H1 : Heap) (locs1 : List Loc), va_P D cl (ws.set q1 (a, .inl (c1, n1, .inl (va_cpy f g sp.toNatClampNeg dp.toNatClampNeg n.toNatClampNeg)))) H1 → va_D A (ws.set q1 (a, .inl (c1, n1, .inl (va_cpy f g sp.toNatClampNeg dp.toNatClampNeg n.toNatClampNeg)))) → va_S A H0 H1 locs1 → W p l e R s m args below meth c H1 locs1 cells slots Q (F0 m (pc + 3) ls rest)) : W p l e R s m args below meth c H locs cells slots Q (F0 m pc ls (.int n :: .int dp :: .ref a :: .int sp :: .ref a0 :: rest)) := by
  have nn : ∀ z : Int32, ¬ z < 0 → z.toInt = (z.toNatClampNeg : Int) := by
    intro z hz
    have hz0 : (0 : Int) ≤ z.toInt := by
      have := Int32.not_lt.mp hz
      simpa using Int32.le_iff_toInt_le.mp this
    show z.toInt = ((z.toInt.toNat : Nat) : Int)
    omega
  intro T hT X
  have hc0 : H[a0]? = some (vp_cell c0 (n0, .inl f)) := hs0
  have hc1 : H[a]? = some (vp_cell c1 (n1, .inl g)) := hP q1 _ ha1
  obtain ⟨-, k0, hk0, cm0, hkk0⟩ := (hK.2 t0 _ ht0).1 n0 (fun j => .int (f j))
  obtain ⟨-, k1, hk1, cm1, hkk1⟩ := (hK.2 t1 _ ht1).1 n1 (fun j => .int (g j))
  have rd : ∀ i, i < n.toNatClampNeg → (vp_cell c0 (n0, .inl f)).slots.getD (sp.toNatClampNeg + i) .null = .int (f (sp.toNatClampNeg + i)) := by
    intro i hi
    show (arrV c0 n0 (fun j => .int (f j))).slots.getD _ _ = _
    rw [Array.getD_eq_getD_getElem?, arrV_read _ _ (by omega)]
    rfl
  obtain ⟨vm', X', step⟩ := X.arraycopy hexec hown hlink hnat hstat hini (src := a0) (dst := a) (cs := vp_cell c0 (n0, .inl f)) (cd := vp_cell c1 (n1, .inl g)) (srcPos := sp) (destPos := dp) (n := n) (by rw [hT]; exact hc0) (by rw [hT]; exact hc1)
    (fun _ h => by cases h) (fun _ h => by cases h) (fun h => by cases h) (fun h => by cases h) hk0 hk1 hkk0 hkk1 (by simp [hprim]) h1 h2 h3
    (by rw [nn sp h1, nn n h3]; show ¬ _ > ((arrV c0 n0 (fun j => .int (f j))).slots.size : Int); rw [arrV_size]; omega)
    (by rw [nn dp h2, nn n h3]; show ¬ _ > ((arrV c1 n1 (fun j => .int (g j))).slots.size : Int); rw [arrV_size]; omega)
    (fun vm₁ _ i hi => ⟨by rw [rd i hi]; exact hfit i hi, by rw [rd i hi]; exact trivial⟩)
    (g := F0 m pc ls (.int n :: .int dp :: .ref a :: .int sp :: .ref a0 :: rest)) rfl (by rw [hml]) (rest := rest) rfl (by rw [hb]; exact hdg) hframes (by show 2 * 0 + _ + _ ≤ _; omega)
  have e1 : copied (vp_cell c0 (n0, .inl f)) (vp_cell c1 (n1, .inl g)) sp dp n = vp_cell c1 (n1, .inl (va_cpy f g sp.toNatClampNeg dp.toNatClampNeg n.toNatClampNeg)) := va_copied (fun z => .int z) c0 c1 f g h4
  rw [e1] at X' step
  have hl : a < H.size := (Array.getElem?_eq_some_iff.mp hc1).1
  have hheap : ((T.setVm vm').setCell a (vp_cell c1 (n1, .inl (va_cpy f g sp.toNatClampNeg dp.toNatClampNeg n.toNatClampNeg)))).heap = H.setIfInBounds a (vp_cell c1 (n1, .inl (va_cpy f g sp.toNatClampNeg dp.toNatClampNeg n.toNatClampNeg))) := by rw [← hT]; rfl
  have oq : ∀ q : Nat, q ≠ a → (H.setIfInBounds a (vp_cell c1 (n1, .inl (va_cpy f g sp.toNatClampNeg dp.toNatClampNeg n.toNatClampNeg))))[q]? = H[q]? := fun q hq => by simp [Array.getElem?_setIfInBounds, Ne.symm hq]
  obtain ⟨t, a1, b1⟩ := kk _ _ (hP.set hD ha1 (show (H.setIfInBounds a _)[a]? = some _ by simp [Array.getElem?_setIfInBounds, hl]) oq) (hD.set ha1) ⟨by simp; exact hS.1, fun q g1 g2 => by
      rw [oq q (fun e => g2 (by rw [e]; exact hD.2 q1 _ ha1))]
      exact hS.2.1 q g1 g2, fun q hq => by
      rcases List.mem_append.mp hq with h | h
      · exact hS.2.2 q h
      · obtain ⟨z, -, hz⟩ := List.mem_map.mp h
        rw [← hz]
        exact hD.2 q1 _ ha1⟩ _ hheap X'
  exact ⟨t, step t a1, b1⟩
end ROC
theorem nf_0 {G : GX} {U : State} {A : Array Value} (h : CX G U) : (Cond.fieldLinkNest R_Sg 27 "SignatureForest$Row" "letters" "[C" R_Fo).before A U = true := va_Nw.use rfl (h.2.1 (R_Sg, 27, "SignatureForest$Row", "letters", "[C", R_Fo) (List.mem_of_getElem? (i := 0) rfl))
theorem nf_1 {G : GX} {U : State} {A : Array Value} (h : CX G U) : (Cond.fieldLinkNest R_Rd 42 "SignatureForest$Row" "letters" "[C" R_Fo).before A U = true := va_Nw.use rfl (h.2.1 (R_Rd, 42, "SignatureForest$Row", "letters", "[C", R_Fo) (List.mem_of_getElem? (i := 1) rfl))
theorem nf_2 {G : GX} {U : State} {A : Array Value} (h : CX G U) : (Cond.fieldLinkNest R_Fo 176 "SignatureForest$Row" "letters" "[C" R_Fo).before A U = true := va_Nw.use rfl (h.2.1 (R_Fo, 176, "SignatureForest$Row", "letters", "[C", R_Fo) (List.mem_of_getElem? (i := 2) rfl))
theorem nf_3 {G : GX} {U : State} {A : Array Value} (h : CX G U) : (Cond.fieldLinkNest R_Sg 18 "SignatureForest$Row" "size" "I" R_Fo).before A U = true := va_Nw.use rfl (h.2.1 (R_Sg, 18, "SignatureForest$Row", "size", "I", R_Fo) (List.mem_of_getElem? (i := 3) rfl))
theorem nf_4 {G : GX} {U : State} {A : Array Value} (h : CX G U) : (Cond.fieldLinkNest R_Er 20 "SignatureForest$Row" "size" "I" R_Fo).before A U = true := va_Nw.use rfl (h.2.1 (R_Er, 20, "SignatureForest$Row", "size", "I", R_Fo) (List.mem_of_getElem? (i := 4) rfl))
theorem nf_5 {G : GX} {U : State} {A : Array Value} (h : CX G U) : (Cond.fieldLinkNest R_Rd 37 "SignatureForest$Row" "size" "I" R_Fo).before A U = true := va_Nw.use rfl (h.2.1 (R_Rd, 37, "SignatureForest$Row", "size", "I", R_Fo) (List.mem_of_getElem? (i := 5) rfl))
theorem nf_6 {G : GX} {U : State} {A : Array Value} (h : CX G U) : (Cond.fieldLinkNest R_Fo 62 "SignatureForest$Row" "size" "I" R_Fo).before A U = true := va_Nw.use rfl (h.2.1 (R_Fo, 62, "SignatureForest$Row", "size", "I", R_Fo) (List.mem_of_getElem? (i := 6) rfl))
theorem nf_7 {G : GX} {U : State} {A : Array Value} (h : CX G U) : (Cond.fieldLinkNest R_Sg 38 "SignatureForest$Reader" "roles" "[I" R_Fo).before A U = true := va_Nw.use rfl (h.2.1 (R_Sg, 38, "SignatureForest$Reader", "roles", "[I", R_Fo) (List.mem_of_getElem? (i := 7) rfl))
theorem nf_8 {G : GX} {U : State} {A : Array Value} (h : CX G U) : (Cond.fieldLinkNest R_Sg 45 "SignatureForest$Reader" "nameStarts" "[I" R_Fo).before A U = true := va_Nw.use rfl (h.2.1 (R_Sg, 45, "SignatureForest$Reader", "nameStarts", "[I", R_Fo) (List.mem_of_getElem? (i := 8) rfl))
theorem nf_9 {G : GX} {U : State} {A : Array Value} (h : CX G U) : (Cond.fieldLinkNest R_Sg 49 "SignatureForest$Reader" "nameEnds" "[I" R_Fo).before A U = true := va_Nw.use rfl (h.2.1 (R_Sg, 49, "SignatureForest$Reader", "nameEnds", "[I", R_Fo) (List.mem_of_getElem? (i := 9) rfl))
theorem nf_10 {G : GX} {U : State} {A : Array Value} (h : CX G U) : (Cond.fieldLinkNest R_Sg 39 "SignatureForest$Reader" "nameCount" "I" R_Fo).before A U = true := va_Nw.use rfl (h.2.1 (R_Sg, 39, "SignatureForest$Reader", "nameCount", "I", R_Fo) (List.mem_of_getElem? (i := 10) rfl))
theorem nf_11 {G : GX} {U : State} {A : Array Value} (h : CX G U) : (Cond.fieldLinkNest R_Sg 9 "SignatureForest$Reader" "sort" "I" R_Fo).before A U = true := va_Nw.use rfl (h.2.1 (R_Sg, 9, "SignatureForest$Reader", "sort", "I", R_Fo) (List.mem_of_getElem? (i := 11) rfl))
theorem nf_12 {G : GX} {U : State} {A : Array Value} (h : CX G U) : (Cond.fieldLinkNest R_Fo 90 "SignatureForest$Seeker" "passed" "I" R_Fo).before A U = true := va_Nw.use rfl (h.2.1 (R_Fo, 90, "SignatureForest$Seeker", "passed", "I", R_Fo) (List.mem_of_getElem? (i := 12) rfl))
theorem nf_13 {G : GX} {U : State} {A : Array Value} (h : CX G U) : (Cond.fieldLinkNest R_Fo 87 "SignatureForest$Seeker" "found" "I" R_Fo).before A U = true := va_Nw.use rfl (h.2.1 (R_Fo, 87, "SignatureForest$Seeker", "found", "I", R_Fo) (List.mem_of_getElem? (i := 13) rfl))
theorem nf_14 {G : GX} {U : State} {A : Array Value} (h : CX G U) : (Cond.fieldLinkNest R_Fo 173 "SignatureForest$Eraser" "erased" "LSignatureForest$Row;" R_Fo).before A U = true := va_Nw.use rfl (h.2.1 (R_Fo, 173, "SignatureForest$Eraser", "erased", "LSignatureForest$Row;", R_Fo) (List.mem_of_getElem? (i := 14) rfl))
theorem nf_15 {G : GX} {U : State} {A : Array Value} (h : CX G U) : (Cond.fieldLinkNest R_Sh 60 "SignatureForest$Signature" "sort" "I" R_Fo).before A U = true := va_Nw.use rfl (h.2.1 (R_Sh, 60, "SignatureForest$Signature", "sort", "I", R_Fo) (List.mem_of_getElem? (i := 15) rfl))
theorem nf_16 {G : GX} {U : State} {A : Array Value} (h : CX G U) : (Cond.fieldLinkNest R_Fo 77 "SignatureForest$Signature" "sort" "I" R_Fo).before A U = true := va_Nw.use rfl (h.2.1 (R_Fo, 77, "SignatureForest$Signature", "sort", "I", R_Fo) (List.mem_of_getElem? (i := 16) rfl))
theorem nf_17 {G : GX} {U : State} {A : Array Value} (h : CX G U) : (Cond.fieldLinkNest R_Sh 26 "SignatureForest$Signature" "letters" "[C" R_Fo).before A U = true := va_Nw.use rfl (h.2.1 (R_Sh, 26, "SignatureForest$Signature", "letters", "[C", R_Fo) (List.mem_of_getElem? (i := 17) rfl))
theorem nf_18 {G : GX} {U : State} {A : Array Value} (h : CX G U) : (Cond.fieldLinkNest R_Er 50 "SignatureForest$Signature" "letters" "[C" R_Fo).before A U = true := va_Nw.use rfl (h.2.1 (R_Er, 50, "SignatureForest$Signature", "letters", "[C", R_Fo) (List.mem_of_getElem? (i := 18) rfl))
theorem nf_19 {G : GX} {U : State} {A : Array Value} (h : CX G U) : (Cond.fieldLinkNest R_Fo 139 "SignatureForest$Signature" "letters" "[C" R_Fo).before A U = true := va_Nw.use rfl (h.2.1 (R_Fo, 139, "SignatureForest$Signature", "letters", "[C", R_Fo) (List.mem_of_getElem? (i := 19) rfl))
theorem nf_20 {G : GX} {U : State} {A : Array Value} (h : CX G U) : (Cond.fieldLinkNest R_Fo 93 "SignatureForest$Signature" "nameStarts" "[I" R_Fo).before A U = true := va_Nw.use rfl (h.2.1 (R_Fo, 93, "SignatureForest$Signature", "nameStarts", "[I", R_Fo) (List.mem_of_getElem? (i := 20) rfl))
theorem nf_21 {G : GX} {U : State} {A : Array Value} (h : CX G U) : (Cond.fieldLinkNest R_Fo 155 "SignatureForest$Signature" "bodyStart" "I" R_Fo).before A U = true := va_Nw.use rfl (h.2.1 (R_Fo, 155, "SignatureForest$Signature", "bodyStart", "I", R_Fo) (List.mem_of_getElem? (i := 21) rfl))
theorem nf_22 {G : GX} {U : State} {A : Array Value} (h : CX G U) : (Cond.fieldLinkNest R_Fo 80 "SignatureForest$Signature" "scopeNumber" "I" R_Fo).before A U = true := va_Nw.use rfl (h.2.1 (R_Fo, 80, "SignatureForest$Signature", "scopeNumber", "I", R_Fo) (List.mem_of_getElem? (i := 22) rfl))
theorem nm9_0 {G : GX} {U : State} (h : CX G U) : va_Nw (.methodLinkNest R_Fo 30 y_Sk_init R_Fo) U := h.2.2.1 (R_Fo, 30, y_Sk_init, R_Fo) (List.mem_of_getElem? (i := 0) rfl)
theorem nm9_1 {G : GX} {U : State} (h : CX G U) : va_Nw (.methodLinkNest R_Rd 66 y_Fo_endsItem R_Fo) U := h.2.2.1 (R_Rd, 66, y_Fo_endsItem, R_Fo) (List.mem_of_getElem? (i := 1) rfl)
theorem nm9_2 {G : GX} {U : State} (h : CX G U) : va_Nw (.methodLinkNest R_Sh 43 y_Fo_endsItem R_Fo) U := h.2.2.1 (R_Sh, 43, y_Fo_endsItem, R_Fo) (List.mem_of_getElem? (i := 2) rfl)
theorem nm9_3 {G : GX} {U : State} (h : CX G U) : va_Nw (.methodLinkNest R_Sh 47 y_Fo_beginsItem R_Fo) U := h.2.2.1 (R_Sh, 47, y_Fo_beginsItem, R_Fo) (List.mem_of_getElem? (i := 3) rfl)
theorem nm9_4 {G : GX} {U : State} (h : CX G U) : va_Nw (.methodLinkNest R_Sh 88 y_Fo_beginsReference R_Fo) U := h.2.2.1 (R_Sh, 88, y_Fo_beginsReference, R_Fo) (List.mem_of_getElem? (i := 4) rfl)
theorem nm9_5 {G : GX} {U : State} (h : CX G U) : va_Nw (.methodLinkNest R_Sg 91 y_Fo_endsItem R_Fo) U := h.2.2.1 (R_Sg, 91, y_Fo_endsItem, R_Fo) (List.mem_of_getElem? (i := 5) rfl)
theorem nm9_6 {G : GX} {U : State} (h : CX G U) : va_Nw (.methodLinkNest R_Sg 70 y_Fo_beginsReference R_Fo) U := h.2.2.1 (R_Sg, 70, y_Fo_beginsReference, R_Fo) (List.mem_of_getElem? (i := 6) rfl)
theorem sr_0 {G : GX} {U : State} (h : CX G U) : vk_R R_Rd 122 ".;/:<>[" (G.2.2.2.1 0) U := h.2.2.2.2.2.1 (R_Rd, 122, ".;/:<>[", 0) (List.mem_of_getElem? (i := 0) rfl)
theorem sr_1 {G : GX} {U : State} (h : CX G U) : vk_R R_Rd 114 "BCDFIJSZ" (G.2.2.2.1 1) U := h.2.2.2.2.2.1 (R_Rd, 114, "BCDFIJSZ", 1) (List.mem_of_getElem? (i := 1) rfl)
theorem sr_2 {G : GX} {U : State} (h : CX G U) : vk_R R_Sh 86 "[]" (G.2.2.2.1 2) U := h.2.2.2.2.2.1 (R_Sh, 86, "[]", 2) (List.mem_of_getElem? (i := 2) rfl)
theorem sr_3 {G : GX} {U : State} (h : CX G U) : vk_R R_Sh 91 "byte" (G.2.2.2.1 3) U := h.2.2.2.2.2.1 (R_Sh, 91, "byte", 3) (List.mem_of_getElem? (i := 3) rfl)
theorem sr_4 {G : GX} {U : State} (h : CX G U) : vk_R R_Sh 93 "char" (G.2.2.2.1 4) U := h.2.2.2.2.2.1 (R_Sh, 93, "char", 4) (List.mem_of_getElem? (i := 4) rfl)
theorem sr_5 {G : GX} {U : State} (h : CX G U) : vk_R R_Sh 95 "double" (G.2.2.2.1 5) U := h.2.2.2.2.2.1 (R_Sh, 95, "double", 5) (List.mem_of_getElem? (i := 5) rfl)
theorem sr_6 {G : GX} {U : State} (h : CX G U) : vk_R R_Sh 97 "float" (G.2.2.2.1 6) U := h.2.2.2.2.2.1 (R_Sh, 97, "float", 6) (List.mem_of_getElem? (i := 6) rfl)
theorem sr_7 {G : GX} {U : State} (h : CX G U) : vk_R R_Sh 99 "int" (G.2.2.2.1 7) U := h.2.2.2.2.2.1 (R_Sh, 99, "int", 7) (List.mem_of_getElem? (i := 7) rfl)
theorem sr_8 {G : GX} {U : State} (h : CX G U) : vk_R R_Sh 101 "long" (G.2.2.2.1 8) U := h.2.2.2.2.2.1 (R_Sh, 101, "long", 8) (List.mem_of_getElem? (i := 8) rfl)
theorem sr_9 {G : GX} {U : State} (h : CX G U) : vk_R R_Sh 103 "short" (G.2.2.2.1 9) U := h.2.2.2.2.2.1 (R_Sh, 103, "short", 9) (List.mem_of_getElem? (i := 9) rfl)
theorem sr_10 {G : GX} {U : State} (h : CX G U) : vk_R R_Sh 105 "boolean" (G.2.2.2.1 10) U := h.2.2.2.2.2.1 (R_Sh, 105, "boolean", 10) (List.mem_of_getElem? (i := 10) rfl)
theorem sr_11 {G : GX} {U : State} (h : CX G U) : vk_R R_Sh 107 "void" (G.2.2.2.1 11) U := h.2.2.2.2.2.1 (R_Sh, 107, "void", 11) (List.mem_of_getElem? (i := 11) rfl)
theorem sr_12 {G : GX} {U : State} (h : CX G U) : vk_R R_Er 44 "Ljava/lang/Object;" (G.2.2.2.1 12) U := h.2.2.2.2.2.1 (R_Er, 44, "Ljava/lang/Object;", 12) (List.mem_of_getElem? (i := 12) rfl)
abbrev RowC : Type := Nat × (Nat → Int32) × Int32
abbrev rwN (u : RowC) : Nat := u.1
abbrev rwF (u : RowC) : Nat → Int32 := u.2.1
abbrev rwS (u : RowC) : Int32 := u.2.2
abbrev CaC : Type := Nat × (Nat → Int32)
abbrev caN (u : CaC) : Nat := u.1
abbrev caF (u : CaC) : Nat → Int32 := u.2
abbrev SkC : Type := Int32 × Int32 × Int32
abbrev skW (u : SkC) : Int32 := u.1
abbrev skP (u : SkC) : Int32 := u.2.1
abbrev skF (u : SkC) : Int32 := u.2.2
abbrev RdC : Type := Nat × (Nat → Int32) × (Nat → Int32) × (Nat → Int32) × Int32 × Int32 × Int32 × Int32 × Int32
abbrev rdN (u : RdC) : Nat := u.1
abbrev rdR (u : RdC) : Nat → Int32 := u.2.1
abbrev rdB (u : RdC) : Nat → Int32 := u.2.2.1
abbrev rdE (u : RdC) : Nat → Int32 := u.2.2.2.1
abbrev rdC (u : RdC) : Int32 := u.2.2.2.2.1
abbrev rdK (u : RdC) : Int32 := u.2.2.2.2.2.1
abbrev rdX (u : RdC) : Int32 := u.2.2.2.2.2.2.1
abbrev rdD (u : RdC) : Int32 := u.2.2.2.2.2.2.2.1
abbrev rdL (u : RdC) : Int32 := u.2.2.2.2.2.2.2.2
abbrev SgC : Type := Int32 × Nat × (Nat → Int32) × (Nat → Int32) × Nat × (Nat → Int32) × (Nat → Int32) × Int32 × Int32
abbrev sgK (u : SgC) : Int32 := u.1
abbrev sgN (u : SgC) : Nat := u.2.1
abbrev sgL (u : SgC) : Nat → Int32 := u.2.2.1
abbrev sgR (u : SgC) : Nat → Int32 := u.2.2.2.1
abbrev sgM (u : SgC) : Nat := u.2.2.2.2.1
abbrev sgB (u : SgC) : Nat → Int32 := u.2.2.2.2.2.1
abbrev sgE (u : SgC) : Nat → Int32 := u.2.2.2.2.2.2.1
abbrev sgO (u : SgC) : Int32 := u.2.2.2.2.2.2.2.1
abbrev sgP (u : SgC) : Int32 := u.2.2.2.2.2.2.2.2
abbrev ShC : Type := Nat × (Nat → Int32) × Int32 × Int32 × Int32
abbrev shN (u : ShC) : Nat := u.1
abbrev shF (u : ShC) : Nat → Int32 := u.2.1
abbrev shD (u : ShC) : Int32 := u.2.2.1
abbrev shC (u : ShC) : Int32 := u.2.2.2.1
abbrev shT (u : ShC) : Int32 := u.2.2.2.2
abbrev FoC : Type := Int32
abbrev foC (u : FoC) : Int32 := u
abbrev MaC : Type := Nat × (Nat → Option Nat)
abbrev maN (u : MaC) : Nat := u.1
abbrev maF (u : MaC) : Nat → Option Nat := u.2
abbrev RowBC : Type := Int32
abbrev rowb_1 (u : RowBC) : Int32 := u
abbrev ReadBC : Type := Int32 × Int32 × Int32 × Int32 × Int32
abbrev readb_3 (u : ReadBC) : Int32 := u.1
abbrev readb_4 (u : ReadBC) : Int32 := u.2.1
abbrev readb_5 (u : ReadBC) : Int32 := u.2.2.1
abbrev readb_6 (u : ReadBC) : Int32 := u.2.2.2.1
abbrev readb_7 (u : ReadBC) : Int32 := u.2.2.2.2
abbrev ShowBC : Type := Int32 × Int32 × Int32
abbrev showb_1 (u : ShowBC) : Int32 := u.1
abbrev showb_2 (u : ShowBC) : Int32 := u.2.1
abbrev showb_3 (u : ShowBC) : Int32 := u.2.2
abbrev EraBC : Type := Unit
abbrev erab_u (u : EraBC) : Unit := u
abbrev SigBC : Type := Int32 × Int32 × Int32
abbrev sigb_0 (u : SigBC) : Int32 := u.1
abbrev sigb_5 (u : SigBC) : Int32 := u.2.1
abbrev sigb_6 (u : SigBC) : Int32 := u.2.2
abbrev FoBC : Type := Int32
abbrev fob_8 (u : FoBC) : Int32 := u
abbrev MoC : Type := Int32 × Int32 × Int32 × Int32 × Int32 × Int32 × Int32
abbrev moN (u : MoC) : Int32 := u.1
abbrev moM (u : MoC) : Int32 := u.2.1
abbrev moT (u : MoC) : Int32 := u.2.2.1
abbrev moW (u : MoC) : Int32 := u.2.2.2.1
abbrev moG (u : MoC) : Int32 := u.2.2.2.2.1
abbrev moS (u : MoC) : Int32 := u.2.2.2.2.2.1
abbrev moI (u : MoC) : Int32 := u.2.2.2.2.2.2
abbrev IaC : Type := Nat × (Nat → Int32)
abbrev iaN (u : IaC) : Nat := u.1
abbrev iaF (u : IaC) : Nat → Int32 := u.2
abbrev ZaC : Type := Nat × (Nat → Int32)
abbrev zaN (u : ZaC) : Nat := u.1
abbrev zaF (u : ZaC) : Nat → Int32 := u.2
abbrev MoBC : Type := Int32 × Int32 × Int32 × Int32 × Int32 × Int32 × Int32
abbrev mob_0 (u : MoBC) : Int32 := u.1
abbrev mob_1 (u : MoBC) : Int32 := u.2.1
abbrev mob_2 (u : MoBC) : Int32 := u.2.2.1
abbrev mob_3 (u : MoBC) : Int32 := u.2.2.2.1
abbrev mob_4 (u : MoBC) : Int32 := u.2.2.2.2.1
abbrev mob_5 (u : MoBC) : Int32 := u.2.2.2.2.2.1
abbrev mob_6 (u : MoBC) : Int32 := u.2.2.2.2.2.2
