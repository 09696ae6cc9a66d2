/-! the two constructors -/
def z0 : ST := (0, fun _ => (0, fun _ => 0, 0), fun _ => none, 0, fun _ => 0)
theorem VS_z0 : VS z0 := ⟨by decide, fun i hi => absurd (show i < 0 from hi) (by omega), fun i j hi => absurd (show i < 0 from hi) (by omega), by decide, fun j hj => absurd (show j < 0 from hj) (by omega)⟩
theorem fo_init {post : (FoC × RowC × RowC × RdC × SkC × ShC × RowC × RowC × MaC) → Prop} {ad : Nat → Nat} {pu : Nat → SgC} (h : ∀ uF uL uD uR uS uH uE uO uM, FQ uF uL uD uR uH uE uO uM ad pu z0 → post (uF, uL, uD, uR, uS, uH, uE, uO, uM)) : wp_F_init post 0 := by
  unfold wp_F_init wp_Rw_init wp_Rd_init wp_Sk_init wp_Sh_init wp_Er_init wp_Rw_init
  refine ⟨⟨by decide, by decide⟩, ⟨by decide, by decide⟩, ⟨by decide, by decide⟩, ⟨by decide, by decide⟩, ?_⟩
  refine h _ _ _ _ _ _ _ _ _ ⟨⟨rfl, by decide, rfl, fun i hi => absurd (show i < 0 from hi) (by omega)⟩, ⟨rfl, by decide, by decide, fun j hj => absurd (show j < 0 from hj) (by omega)⟩, by decide, by decide, rfl, rfl, by decide, by decide, fun i hi => absurd (show i < 0 from hi) (by omega)⟩
theorem mo_init {post : (MoC × IaC × IaC × IaC × IaC × IaC × IaC × IaC × IaC × IaC × IaC × IaC × IaC × IaC × IaC × ZaC) → Prop} (h : ∀ u ln X x5 st o p m, MZ u ln X x5 st o p m z0 → post (u, ln, X.1, X.2.1, X.2.2.1, X.2.2.2.1, x5, X.2.2.2.2.1, X.2.2.2.2.2.1, X.2.2.2.2.2.2.1, X.2.2.2.2.2.2.2.1, X.2.2.2.2.2.2.2.2, st, o, p, m)) : wp_M_init post (0, 0, 0, 0, 0, 0, 0) := by
  unfold wp_M_init
  exact h (0, 0, 0, 0, 0, 0, 0) (40, fun _ => 0) ((3000, fun _ => 0), (3000, fun _ => 0), (25, fun _ => 0), (25, fun _ => 0), (500, fun _ => 0), (500, fun _ => 0), (500, fun _ => 0), (500, fun _ => 0), (25, fun _ => 0)) (25, fun _ => 0) (130, fun _ => 0) (5000, fun _ => 0) (5000, fun _ => 0) (500, fun _ => 0) ⟨rfl, rfl, rfl, fun j hj => absurd (show j < 0 from hj) (by omega), ⟨rfl, rfl, rfl, rfl, rfl, rfl, rfl, rfl, rfl⟩, rfl, fun i hi => absurd (show i < 0 from hi) (by omega), rfl, rfl, rfl, rfl⟩
