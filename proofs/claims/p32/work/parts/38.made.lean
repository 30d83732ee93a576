/-! THE CLASS: a new one. -/
def nO : Nat → Option Nat := fun _ => none
def pIni : axPD := (z0F, 0, 0, 0, 0, 0, 0)
def gIni : axGD := (z0F, 0, 0, 0)
section AX38
variable {ro : axRo} {d : Nat} {h0 : axH}
theorem x1_init : axEv ro (d + 1) kX1_init [.ref h0.length] (h0 ++ [.inr (.inr (1, axDf 1))]) none (h0 ++ [.inr (.inr (1, [.ref (h0.length + 1), .int 0, .int 0])), .inr (.inl (7, nO))]) := by
  refine ev_in rfl rfl (Nat.le_of_ble_eq_true rfl) rfl ?_
  refine wp_run rfl ?_
  refine wp_obj rfl (Nat.le_of_ble_eq_true rfl) ?_
  refine wp_run rfl ?_
  refine wp_newq (q := h0.length + 1) (N := 7) (h1 := h0 ++ [.inr (.inr (1, [.null, .int 0, .int 0])), .inr (.inl (7, nO))]) rfl (by decide) (by decide) (by decide) (gL rfl) (gP rfl) ?_
  refine wp_run rfl ?_
  refine wp_putF (h1 := h0 ++ [.inr (.inr (1, [.ref (h0.length + 1), .int 0, .int 0])), .inr (.inl (7, nO))]) rfl (gA 0) (Nat.le_of_ble_eq_true rfl) ⟨rfl, rfl, fun _ hz_ => by cases hz_⟩ (gS 0 _) ?_
  refine wp_run rfl ?_
  exact wp_retv rfl ⟨rfl, rfl⟩
theorem x2_init : axEv ro (d + 1) kX2_init [.ref h0.length] (h0 ++ [.inr (.inr (2, axDf 2))]) none (h0 ++ [.inr (.inr (2, [.ref (h0.length + 1), .int 0, .int 0, .int 0, .int 0, .int 0, .int 0])), .inl (1, 80, z0F)]) := by
  refine ev_in rfl rfl (Nat.le_of_ble_eq_true rfl) rfl ?_
  refine wp_run rfl ?_
  refine wp_obj rfl (Nat.le_of_ble_eq_true rfl) ?_
  refine wp_run rfl ?_
  refine wp_newa (q := h0.length + 1) (N := 80) (h1 := h0 ++ [.inr (.inr (2, [.null, .int 0, .int 0, .int 0, .int 0, .int 0, .int 0])), .inl (1, 80, z0F)]) rfl (by decide) (by decide) (by decide) (gL rfl) (gP rfl) ?_
  refine wp_run rfl ?_
  refine wp_putF (h1 := h0 ++ [.inr (.inr (2, [.ref (h0.length + 1), .int 0, .int 0, .int 0, .int 0, .int 0, .int 0])), .inl (1, 80, z0F)]) rfl (gA 0) (Nat.le_of_ble_eq_true rfl) ⟨rfl, rfl, fun _ hz_ => by cases hz_⟩ (gS 0 _) ?_
  refine wp_run rfl ?_
  exact wp_retv rfl ⟨rfl, rfl⟩
theorem x3_init : axEv ro (d + 1) kX3_init [.ref h0.length] (h0 ++ [.inr (.inr (3, axDf 3))]) none (h0 ++ [.inr (.inr (3, [.ref (h0.length + 1), .int 0, .int 0, .int 0])), .inl (0, 24, z0F)]) := by
  refine ev_in rfl rfl (Nat.le_of_ble_eq_true rfl) rfl ?_
  refine wp_run rfl ?_
  refine wp_obj rfl (Nat.le_of_ble_eq_true rfl) ?_
  refine wp_run rfl ?_
  refine wp_newa (q := h0.length + 1) (N := 24) (h1 := h0 ++ [.inr (.inr (3, [.null, .int 0, .int 0, .int 0])), .inl (0, 24, z0F)]) rfl (by decide) (by decide) (by decide) (gL rfl) (gP rfl) ?_
  refine wp_run rfl ?_
  refine wp_putF (h1 := h0 ++ [.inr (.inr (3, [.ref (h0.length + 1), .int 0, .int 0, .int 0])), .inl (0, 24, z0F)]) rfl (gA 0) (Nat.le_of_ble_eq_true rfl) ⟨rfl, rfl, fun _ hz_ => by cases hz_⟩ (gS 0 _) ?_
  refine wp_run rfl ?_
  exact wp_retv rfl ⟨rfl, rfl⟩
/-- the class' object while it is made -/
def o4 (a b c e f : Value) : axC := .inr (.inr (4, [a, b, c, e, f]))
def hi1 (a : axC) : axH := a :: bdL 1 bIni
def hi2 (a : axC) : axH := hi1 a ++ [.inr (.inr (1, [.ref 9, .int 0, .int 0])), .inr (.inl (7, nO))]
def hi3 (a : axC) : axH := hi2 a ++ [.inr (.inl (2, nO))]
def hi4 (a : axC) : axH := hi3 a ++ [.inr (.inr (2, [.ref 12, .int 0, .int 0, .int 0, .int 0, .int 0, .int 0])), .inl (1, 80, z0F)]
theorem x4_init : axEv ro (d + 2) kX4_init [.ref 0] [.inr (.inr (4, axDf 4))] none (hX bIni (nO, 0, 0) nO pIni gIni []) := by
  refine ev_in rfl rfl (Nat.le_of_ble_eq_true rfl) rfl ?_
  refine wp_run rfl ?_
  refine wp_obj rfl (Nat.le_of_ble_eq_true rfl) ?_
  refine wp_run rfl ?_
  refine wp_new (q := 1) (h1 := [o4 .null .null .null .null .null] ++ [.inr (.inr (0, axDf 0))]) rfl rfl rfl ?_
  refine wp_run rfl ?_
  refine wp_i0 rfl (Nat.le_of_ble_eq_true rfl) (x0_init (h0 := [o4 .null .null .null .null .null])) ?_
  refine wp_run rfl ?_
  refine wp_putF (h1 := hi1 (o4 (.ref 1) .null .null .null .null)) (k := 0) rfl rfl (Nat.le_of_ble_eq_true rfl) ⟨rfl, rfl, fun _ hz_ => by cases hz_⟩ rfl ?_
  refine wp_run rfl ?_
  refine wp_new (q := 8) (h1 := hi1 (o4 (.ref 1) .null .null .null .null) ++ [.inr (.inr (1, axDf 1))]) rfl rfl rfl ?_
  refine wp_run rfl ?_
  refine wp_i0 rfl (Nat.le_of_ble_eq_true rfl) (x1_init (h0 := hi1 (o4 (.ref 1) .null .null .null .null))) ?_
  refine wp_run rfl ?_
  refine wp_putF (h1 := hi2 (o4 (.ref 1) (.ref 8) .null .null .null)) (k := 0) rfl rfl (Nat.le_of_ble_eq_true rfl) ⟨rfl, rfl, fun _ hz_ => by cases hz_⟩ rfl ?_
  refine wp_run rfl ?_
  refine wp_newq (q := 10) (N := 2) (h1 := hi3 (o4 (.ref 1) (.ref 8) .null .null .null)) rfl (by decide) (by decide) (by decide) rfl rfl ?_
  refine wp_run rfl ?_
  refine wp_putF (h1 := hi3 (o4 (.ref 1) (.ref 8) (.ref 10) .null .null)) (k := 0) rfl rfl (Nat.le_of_ble_eq_true rfl) ⟨rfl, rfl, fun _ hz_ => by cases hz_⟩ rfl ?_
  refine wp_run rfl ?_
  refine wp_new (q := 11) (h1 := hi3 (o4 (.ref 1) (.ref 8) (.ref 10) .null .null) ++ [.inr (.inr (2, axDf 2))]) rfl rfl rfl ?_
  refine wp_run rfl ?_
  refine wp_i0 rfl (Nat.le_of_ble_eq_true rfl) (x2_init (h0 := hi3 (o4 (.ref 1) (.ref 8) (.ref 10) .null .null))) ?_
  refine wp_run rfl ?_
  refine wp_putF (h1 := hi4 (o4 (.ref 1) (.ref 8) (.ref 10) (.ref 11) .null)) (k := 0) rfl rfl (Nat.le_of_ble_eq_true rfl) ⟨rfl, rfl, fun _ hz_ => by cases hz_⟩ rfl ?_
  refine wp_run rfl ?_
  refine wp_new (q := 13) (h1 := hi4 (o4 (.ref 1) (.ref 8) (.ref 10) (.ref 11) .null) ++ [.inr (.inr (3, axDf 3))]) rfl rfl rfl ?_
  refine wp_run rfl ?_
  refine wp_i0 rfl (Nat.le_of_ble_eq_true rfl) (x3_init (h0 := hi4 (o4 (.ref 1) (.ref 8) (.ref 10) (.ref 11) .null))) ?_
  refine wp_run rfl ?_
  refine wp_putF (h1 := hX bIni (nO, 0, 0) nO pIni gIni []) (k := 0) rfl rfl (Nat.le_of_ble_eq_true rfl) ⟨rfl, rfl, fun _ hz_ => by cases hz_⟩ rfl ?_
  refine wp_run rfl ?_
  exact wp_retv rfl ⟨rfl, rfl⟩
end AX38
