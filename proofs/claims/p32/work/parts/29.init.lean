/-! THE CLASS: a new board. Written by a program. -/
theorem gA {h0 l : axH} (i : Nat) : (h0 ++ l)[h0.length + i]? = l[i]? := by rw [List.getElem?_append_right (by omega), Nat.add_sub_cancel_left]
theorem gS {h0 l : axH} (i : Nat) (x : axC) : (h0 ++ l).set (h0.length + i) x = h0 ++ l.set i x := by rw [List.set_append_right _ _ (by omega), Nat.add_sub_cancel_left]
theorem gL {h0 l : axH} {n : Nat} (h : l.length = n) : (h0 ++ l).length = h0.length + n := by rw [List.length_append, h]
theorem gP {h0 l m : axH} {x : axC} (h : l ++ [x] = m) : (h0 ++ l) ++ [x] = h0 ++ m := by rw [List.append_assoc, h]
def z0F : Nat → Int32 := fun _ => 0
/-- a board as it is made -/
def bIni : axBD := (upd (upd (upd z0F 0 16) 1 2) 2 50, upd (upd (upd (upd (upd (upd z0F 0 60) 1 60) 2 60) 3 60) 4 60) 5 60, z0F, z0F, z0F, z0F, 0, 0, 0)
def bdL (o : Nat) (B : axBD) : axH := [axBo o B, axAi 3 (bSt B), axAi 6 (bTg B), axAi 24 (bRw B), axAi 24 (bWr B), axAi 24 (bBt B), axAi 24 (bNd B)]
section AX29
variable {ro : axRo} {d : Nat}
theorem x0_init {h0 : axH} : axEv ro (d + 1) kX0_init [.ref h0.length] (h0 ++ [.inr (.inr (0, axDf 0))]) none (h0 ++ bdL h0.length bIni) := by
  refine ev_in rfl rfl (Nat.le_of_ble_eq_true rfl) rfl ?_
  refine wp_run rfl ?_
  refine wp_obj rfl (Nat.le_of_ble_eq_true rfl) ?_
  refine wp_run rfl ?_
  refine wp_newa (q := h0.length + 1) (N := 3) (h1 := (h0 ++ [.inr (.inr (0, [.null, .null, .null, .null, .null, .null, .int 0, .int 0, .int 0])), .inl (0, 3, z0F)])) rfl (by decide) (by decide) (by decide) (gL rfl) (gP rfl) ?_
  refine wp_run rfl ?_
  refine wp_ast (h1 := (h0 ++ [.inr (.inr (0, [.null, .null, .null, .null, .null, .null, .int 0, .int 0, .int 0])), .inl (0, 3, (upd z0F 0 16))])) rfl (gA 1) (vp_in_nI (n := 0) (N := 3) (by decide) (by decide)) rfl (gS 1 _) ?_
  refine wp_run rfl ?_
  refine wp_ast (h1 := (h0 ++ [.inr (.inr (0, [.null, .null, .null, .null, .null, .null, .int 0, .int 0, .int 0])), .inl (0, 3, (upd (upd z0F 0 16) 1 2))])) rfl (gA 1) (vp_in_nI (n := 1) (N := 3) (by decide) (by decide)) rfl (gS 1 _) ?_
  refine wp_run rfl ?_
  refine wp_ast (h1 := (h0 ++ [.inr (.inr (0, [.null, .null, .null, .null, .null, .null, .int 0, .int 0, .int 0])), .inl (0, 3, (upd (upd (upd z0F 0 16) 1 2) 2 50))])) rfl (gA 1) (vp_in_nI (n := 2) (N := 3) (by decide) (by decide)) rfl (gS 1 _) ?_
  refine wp_run rfl ?_
  refine wp_putF (h1 := (h0 ++ [.inr (.inr (0, [.ref (h0.length + 1), .null, .null, .null, .null, .null, .int 0, .int 0, .int 0])), .inl (0, 3, (upd (upd (upd z0F 0 16) 1 2) 2 50))])) rfl (gA 0) (Nat.le_of_ble_eq_true rfl) ⟨rfl, rfl, fun _ hz_ => by cases hz_⟩ (gS 0 _) ?_
  refine wp_run rfl ?_
  refine wp_newa (q := h0.length + 2) (N := 6) (h1 := (h0 ++ [.inr (.inr (0, [.ref (h0.length + 1), .null, .null, .null, .null, .null, .int 0, .int 0, .int 0])), .inl (0, 3, (upd (upd (upd z0F 0 16) 1 2) 2 50)), .inl (0, 6, z0F)])) rfl (by decide) (by decide) (by decide) (gL rfl) (gP rfl) ?_
  refine wp_run rfl ?_
  refine wp_ast (h1 := (h0 ++ [.inr (.inr (0, [.ref (h0.length + 1), .null, .null, .null, .null, .null, .int 0, .int 0, .int 0])), .inl (0, 3, (upd (upd (upd z0F 0 16) 1 2) 2 50)), .inl (0, 6, (upd z0F 0 60))])) rfl (gA 2) (vp_in_nI (n := 0) (N := 6) (by decide) (by decide)) rfl (gS 2 _) ?_
  refine wp_run rfl ?_
  refine wp_ast (h1 := (h0 ++ [.inr (.inr (0, [.ref (h0.length + 1), .null, .null, .null, .null, .null, .int 0, .int 0, .int 0])), .inl (0, 3, (upd (upd (upd z0F 0 16) 1 2) 2 50)), .inl (0, 6, (upd (upd z0F 0 60) 1 60))])) rfl (gA 2) (vp_in_nI (n := 1) (N := 6) (by decide) (by decide)) rfl (gS 2 _) ?_
  refine wp_run rfl ?_
  refine wp_ast (h1 := (h0 ++ [.inr (.inr (0, [.ref (h0.length + 1), .null, .null, .null, .null, .null, .int 0, .int 0, .int 0])), .inl (0, 3, (upd (upd (upd z0F 0 16) 1 2) 2 50)), .inl (0, 6, (upd (upd (upd z0F 0 60) 1 60) 2 60))])) rfl (gA 2) (vp_in_nI (n := 2) (N := 6) (by decide) (by decide)) rfl (gS 2 _) ?_
  refine wp_run rfl ?_
  refine wp_ast (h1 := (h0 ++ [.inr (.inr (0, [.ref (h0.length + 1), .null, .null, .null, .null, .null, .int 0, .int 0, .int 0])), .inl (0, 3, (upd (upd (upd z0F 0 16) 1 2) 2 50)), .inl (0, 6, (upd (upd (upd (upd z0F 0 60) 1 60) 2 60) 3 60))])) rfl (gA 2) (vp_in_nI (n := 3) (N := 6) (by decide) (by decide)) rfl (gS 2 _) ?_
  refine wp_run rfl ?_
  refine wp_ast (h1 := (h0 ++ [.inr (.inr (0, [.ref (h0.length + 1), .null, .null, .null, .null, .null, .int 0, .int 0, .int 0])), .inl (0, 3, (upd (upd (upd z0F 0 16) 1 2) 2 50)), .inl (0, 6, (upd (upd (upd (upd (upd z0F 0 60) 1 60) 2 60) 3 60) 4 60))])) rfl (gA 2) (vp_in_nI (n := 4) (N := 6) (by decide) (by decide)) rfl (gS 2 _) ?_
  refine wp_run rfl ?_
  refine wp_ast (h1 := (h0 ++ [.inr (.inr (0, [.ref (h0.length + 1), .null, .null, .null, .null, .null, .int 0, .int 0, .int 0])), .inl (0, 3, (upd (upd (upd z0F 0 16) 1 2) 2 50)), .inl (0, 6, (upd (upd (upd (upd (upd (upd z0F 0 60) 1 60) 2 60) 3 60) 4 60) 5 60))])) rfl (gA 2) (vp_in_nI (n := 5) (N := 6) (by decide) (by decide)) rfl (gS 2 _) ?_
  refine wp_run rfl ?_
  refine wp_putF (h1 := (h0 ++ [.inr (.inr (0, [.ref (h0.length + 1), .ref (h0.length + 2), .null, .null, .null, .null, .int 0, .int 0, .int 0])), .inl (0, 3, (upd (upd (upd z0F 0 16) 1 2) 2 50)), .inl (0, 6, (upd (upd (upd (upd (upd (upd z0F 0 60) 1 60) 2 60) 3 60) 4 60) 5 60))])) rfl (gA 0) (Nat.le_of_ble_eq_true rfl) ⟨rfl, rfl, fun _ hz_ => by cases hz_⟩ (gS 0 _) ?_
  refine wp_run rfl ?_
  refine wp_newa (q := h0.length + 3) (N := 24) (h1 := (h0 ++ [.inr (.inr (0, [.ref (h0.length + 1), .ref (h0.length + 2), .null, .null, .null, .null, .int 0, .int 0, .int 0])), .inl (0, 3, (upd (upd (upd z0F 0 16) 1 2) 2 50)), .inl (0, 6, (upd (upd (upd (upd (upd (upd z0F 0 60) 1 60) 2 60) 3 60) 4 60) 5 60)), .inl (0, 24, z0F)])) rfl (by decide) (by decide) (by decide) (gL rfl) (gP rfl) ?_
  refine wp_run rfl ?_
  refine wp_putF (h1 := (h0 ++ [.inr (.inr (0, [.ref (h0.length + 1), .ref (h0.length + 2), .ref (h0.length + 3), .null, .null, .null, .int 0, .int 0, .int 0])), .inl (0, 3, (upd (upd (upd z0F 0 16) 1 2) 2 50)), .inl (0, 6, (upd (upd (upd (upd (upd (upd z0F 0 60) 1 60) 2 60) 3 60) 4 60) 5 60)), .inl (0, 24, z0F)])) rfl (gA 0) (Nat.le_of_ble_eq_true rfl) ⟨rfl, rfl, fun _ hz_ => by cases hz_⟩ (gS 0 _) ?_
  refine wp_run rfl ?_
  refine wp_newa (q := h0.length + 4) (N := 24) (h1 := (h0 ++ [.inr (.inr (0, [.ref (h0.length + 1), .ref (h0.length + 2), .ref (h0.length + 3), .null, .null, .null, .int 0, .int 0, .int 0])), .inl (0, 3, (upd (upd (upd z0F 0 16) 1 2) 2 50)), .inl (0, 6, (upd (upd (upd (upd (upd (upd z0F 0 60) 1 60) 2 60) 3 60) 4 60) 5 60)), .inl (0, 24, z0F), .inl (0, 24, z0F)])) rfl (by decide) (by decide) (by decide) (gL rfl) (gP rfl) ?_
  refine wp_run rfl ?_
  refine wp_putF (h1 := (h0 ++ [.inr (.inr (0, [.ref (h0.length + 1), .ref (h0.length + 2), .ref (h0.length + 3), .ref (h0.length + 4), .null, .null, .int 0, .int 0, .int 0])), .inl (0, 3, (upd (upd (upd z0F 0 16) 1 2) 2 50)), .inl (0, 6, (upd (upd (upd (upd (upd (upd z0F 0 60) 1 60) 2 60) 3 60) 4 60) 5 60)), .inl (0, 24, z0F), .inl (0, 24, z0F)])) rfl (gA 0) (Nat.le_of_ble_eq_true rfl) ⟨rfl, rfl, fun _ hz_ => by cases hz_⟩ (gS 0 _) ?_
  refine wp_run rfl ?_
  refine wp_newa (q := h0.length + 5) (N := 24) (h1 := (h0 ++ [.inr (.inr (0, [.ref (h0.length + 1), .ref (h0.length + 2), .ref (h0.length + 3), .ref (h0.length + 4), .null, .null, .int 0, .int 0, .int 0])), .inl (0, 3, (upd (upd (upd z0F 0 16) 1 2) 2 50)), .inl (0, 6, (upd (upd (upd (upd (upd (upd z0F 0 60) 1 60) 2 60) 3 60) 4 60) 5 60)), .inl (0, 24, z0F), .inl (0, 24, z0F), .inl (0, 24, z0F)])) rfl (by decide) (by decide) (by decide) (gL rfl) (gP rfl) ?_
  refine wp_run rfl ?_
  refine wp_putF (h1 := (h0 ++ [.inr (.inr (0, [.ref (h0.length + 1), .ref (h0.length + 2), .ref (h0.length + 3), .ref (h0.length + 4), .ref (h0.length + 5), .null, .int 0, .int 0, .int 0])), .inl (0, 3, (upd (upd (upd z0F 0 16) 1 2) 2 50)), .inl (0, 6, (upd (upd (upd (upd (upd (upd z0F 0 60) 1 60) 2 60) 3 60) 4 60) 5 60)), .inl (0, 24, z0F), .inl (0, 24, z0F), .inl (0, 24, z0F)])) rfl (gA 0) (Nat.le_of_ble_eq_true rfl) ⟨rfl, rfl, fun _ hz_ => by cases hz_⟩ (gS 0 _) ?_
  refine wp_run rfl ?_
  refine wp_newa (q := h0.length + 6) (N := 24) (h1 := (h0 ++ [.inr (.inr (0, [.ref (h0.length + 1), .ref (h0.length + 2), .ref (h0.length + 3), .ref (h0.length + 4), .ref (h0.length + 5), .null, .int 0, .int 0, .int 0])), .inl (0, 3, (upd (upd (upd z0F 0 16) 1 2) 2 50)), .inl (0, 6, (upd (upd (upd (upd (upd (upd z0F 0 60) 1 60) 2 60) 3 60) 4 60) 5 60)), .inl (0, 24, z0F), .inl (0, 24, z0F), .inl (0, 24, z0F), .inl (0, 24, z0F)])) rfl (by decide) (by decide) (by decide) (gL rfl) (gP rfl) ?_
  refine wp_run rfl ?_
  refine wp_putF (h1 := (h0 ++ [.inr (.inr (0, [.ref (h0.length + 1), .ref (h0.length + 2), .ref (h0.length + 3), .ref (h0.length + 4), .ref (h0.length + 5), .ref (h0.length + 6), .int 0, .int 0, .int 0])), .inl (0, 3, (upd (upd (upd z0F 0 16) 1 2) 2 50)), .inl (0, 6, (upd (upd (upd (upd (upd (upd z0F 0 60) 1 60) 2 60) 3 60) 4 60) 5 60)), .inl (0, 24, z0F), .inl (0, 24, z0F), .inl (0, 24, z0F), .inl (0, 24, z0F)])) rfl (gA 0) (Nat.le_of_ble_eq_true rfl) ⟨rfl, rfl, fun _ hz_ => by cases hz_⟩ (gS 0 _) ?_
  refine wp_run rfl ?_
  exact wp_retv rfl ⟨rfl, rfl⟩
end AX29
