/-! THE CLASS: undo. -/
def spUndo (V : axV) (r : Int32) (V' : axV) : Prop :=
  (vK V = 0 ∧ r = -5 ∧ V' = V) ∨ (0 < vK V ∧ r = nI (vK V - 1) ∧ V' = (vH V 0, vK V - 1, fun j => vH V (j + 1), vS V, vP V, vT V))
section AX44
variable {ro : axRo} {d m : Nat} {mc h : axH} {V V' : axV} {x r : Int32}
theorem spUndo_ex (V : axV) : ∃ r V', spUndo V r V' := by
  by_cases h : vK V = 0
  · exact ⟨_, _, Or.inl ⟨h, rfl, rfl⟩⟩
  · exact ⟨_, _, Or.inr ⟨by omega, rfl, rfl⟩⟩
theorem XS_more {m' : Nat} (hm : m ≤ m') (hx : XS V mc m h) : XS V mc m' h := by
  obtain ⟨B, nx, sf, lf, f, cu, la, ki, fi, se, G, bs, e, hC, hO, hK, hT, hb1, hb2⟩ := hx
  exact ⟨B, nx, sf, lf, f, cu, la, ki, fi, se, G, bs, e, hC, hO, hK, hT, by omega, by omega⟩
theorem x4_undo (hm : mc.length = 0) (hx : XS V mc m h) (hS : spUndo V r V') : ∃ h', axEv ro (d + 6) kX4_undo [.ref 0] h (some (.int r)) h' ∧ XS V' mc (m + 1) h' := by
  have hx' := XS_more (Nat.le_succ m) hx
  obtain ⟨B, nx, sf, lf, f, cu, la, ki, fi, se, G, bs, rfl, hC, hO, hK, hT, hb1, hb2⟩ := hx
  rcases hS with ⟨h1, rfl, rfl⟩ | ⟨h1, rfl, rfl⟩
  · refine ⟨_, ?_, hx'⟩
    refine ev_in rfl rfl (Nat.le_of_ble_eq_true rfl) rfl ?_
    refine wp_run rfl ?_
    refine wp_v1 rfl rfl (Nat.le_of_ble_eq_true rfl) (x1_takeBack_no (d := d + 3) hK.1 h1) ?_
    refine wp_run rfl ?_
    exact wp_ret rfl rfl ⟨rfl, rfl⟩
  · obtain ⟨B', hev, hC', hO', hK'⟩ := x1_takeBack (ro := ro) (d := d + 3) hm h1 hK
    refine ⟨_, ?_, B', (nx + 6) % 7, sf, lf, f, cu, la, ki, fi, se, G, bs, rfl, hC', hO', hK', hT, by omega, by omega⟩
    refine ev_in rfl rfl (Nat.le_of_ble_eq_true rfl) rfl ?_
    refine wp_run rfl ?_
    refine wp_v1 rfl rfl (Nat.le_of_ble_eq_true rfl) (hev) ?_
    refine wp_run rfl ?_
    exact wp_ret rfl rfl ⟨rfl, rfl⟩
end AX44
