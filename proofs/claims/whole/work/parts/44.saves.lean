/-! THE CLASS: undo, save, restore, put, wipe, fault. -/
def spUndo (V : axV) (r : Int32) (V' : axV) : Prop :=
  (vK V = 0 ∧ r = -5 ∧ V' = V) ∨ (0 < vK V ∧ r = nI (vK V - 1) ∧ V' = (vH V 0, vK V - 1, fun j => vH V (j + 1), vS V, vP V, vT V))
def spSave (V : axV) (x r : Int32) (V' : axV) : Prop :=
  ((x < 0 ∨ nI 2 ≤ x) ∧ r = -2 ∧ V' = V) ∨ (∃ i, i < 2 ∧ x = nI i ∧ r = nI (aN (vA V)) ∧ V' = (vA V, vK V, vH V, va_up (vS V) i (some (vA V)), vP V, vT V))
def spRestore (V : axV) (x r : Int32) (V' : axV) : Prop :=
  ((x < 0 ∨ nI 2 ≤ x) ∧ r = -2 ∧ V' = V) ∨ (∃ i, i < 2 ∧ x = nI i ∧ ((vS V i = none ∧ r = -5 ∧ V' = V) ∨ (∃ A, vS V i = some A ∧ r = nI (aN A) ∧ V' = stpN V A)))
def spPut (V : axV) (c : Int64) (r : Int32) (V' : axV) : Prop :=
  (sgOk c = false ∧ r = -2 ∧ V' = V) ∨ (sgOk c = true ∧ ((80 < vP V + sgN c ∧ r = -4 ∧ V' = V) ∨
    (vP V + sgN c ≤ 80 ∧ r = nI (vP V + sgN c) ∧ V' = (vA V, vK V, vH V, vS V, vP V + sgN c, putT (vT V) (vP V) c))))
section AX44
variable {ro : axRo} {d m : Nat} {mc h : axH} {V V' : axV} {x r : Int32}
theorem spUndo_ex (V : axV) : ∃ r V', spUndo V r V' := by
  by_cases h : vK V = 0
  · exact ⟨_, _, Or.inl ⟨h, rfl, rfl⟩⟩
  · exact ⟨_, _, Or.inr ⟨by omega, rfl, rfl⟩⟩
theorem spSave_ex (V : axV) (x : Int32) : ∃ r V', spSave V x r V' := by
  rcases sp_int x 2 (by decide) with h | ⟨i, hi, e⟩
  · exact ⟨_, _, Or.inl ⟨h, rfl, rfl⟩⟩
  · exact ⟨_, _, Or.inr ⟨i, hi, e, rfl, rfl⟩⟩
theorem spRestore_ex (V : axV) (x : Int32) : ∃ r V', spRestore V x r V' := by
  rcases sp_int x 2 (by decide) with h | ⟨i, hi, e⟩
  · exact ⟨_, _, Or.inl ⟨h, rfl, rfl⟩⟩
  · cases hs : vS V i with
    | none => exact ⟨_, _, Or.inr ⟨i, hi, e, Or.inl ⟨hs, rfl, rfl⟩⟩⟩
    | some A => exact ⟨_, _, Or.inr ⟨i, hi, e, Or.inr ⟨A, hs, rfl, rfl⟩⟩⟩
theorem spPut_ex (V : axV) (c : Int64) : ∃ r V', spPut V c r V' := by
  cases h : sgOk c with
  | false => exact ⟨_, _, Or.inl ⟨h, rfl, rfl⟩⟩
  | true =>
    by_cases h2 : vP V + sgN c ≤ 80
    · exact ⟨_, _, Or.inr ⟨h, Or.inr ⟨h2, rfl, rfl⟩⟩⟩
    · exact ⟨_, _, Or.inr ⟨h, Or.inl ⟨by omega, rfl, rfl⟩⟩⟩
theorem XS_more {m' : Nat} (hm : m ≤ m') (hx : XS V mc m h) : XS V mc m' h := by
  obtain ⟨B, nx, sf, lf, f, cu, la, ki, fi, se, G, bs, e, hC, hO, hK, hT, hb1, hb2⟩ := hx
  exact ⟨B, nx, sf, lf, f, cu, la, ki, fi, se, G, bs, e, hC, hO, hK, hT, by omega, by omega⟩
theorem x4_undo (hm : mc.length = 7) (hx : XS V mc m h) (hS : spUndo V r V') : ∃ h', axEv ro (d + 6) kX4_undo [.ref 0] h (some (.int r)) h' ∧ XS V' mc (m + 1) h' := by
  have hx' := XS_more (Nat.le_succ m) hx
  obtain ⟨B, nx, sf, lf, f, cu, la, ki, fi, se, G, bs, rfl, hC, hO, hK, hT, hb1, hb2⟩ := hx
  rcases hS with ⟨h1, rfl, rfl⟩ | ⟨h1, rfl, rfl⟩
  · refine ⟨_, ?_, hx'⟩
    refine ev_in rfl rfl (Nat.le_of_ble_eq_true rfl) rfl ?_
    refine wp_run rfl ?_
    refine wp_v1 rfl rfl (Nat.le_of_ble_eq_true rfl) (x1_takeBack_no (d := d + 3) hK.1 h1) ?_
    refine wp_run rfl ?_
    exact wp_ret rfl rfl ⟨rfl, rfl⟩
  · obtain ⟨B', hev, hC', hO', hK'⟩ := x1_takeBack (ro := ro) (d := d + 3) hm h1 hK
    refine ⟨_, ?_, B', (nx + 6) % 7, sf, lf, f, cu, la, ki, fi, se, G, bs, rfl, hC', hO', hK', hT, by omega, by omega⟩
    refine ev_in rfl rfl (Nat.le_of_ble_eq_true rfl) rfl ?_
    refine wp_run rfl ?_
    refine wp_v1 rfl rfl (Nat.le_of_ble_eq_true rfl) (hev) ?_
    refine wp_run rfl ?_
    exact wp_ret rfl rfl ⟨rfl, rfl⟩
theorem x4_save (hm : mc.length = 7) (hx : XS V mc m h) (hS : spSave V x r V') : ∃ h', axEv ro (d + 6) kX4_save [.ref 0, .int x] h (some (.int r)) h' ∧ XS V' mc (m + 1) h' := by
  have hx' := XS_more (Nat.le_succ m) hx
  obtain ⟨B, nx, sf, lf, f, cu, la, ki, fi, se, G, bs, rfl, hC, hO, ⟨k1, k2, k3, k4, k5⟩, hT, hb1, hb2⟩ := hx
  rcases hS with ⟨h1, rfl, rfl⟩ | ⟨i, hi, rfl, rfl, rfl⟩
  · refine ⟨_, ?_, hx'⟩
    by_cases e : x < 0
    · refine ev_in rfl rfl (Nat.le_of_ble_eq_true rfl) rfl ?_
      refine wp_run rfl ?_
      refine wp_iflt rfl (fun _ => ?_) (fun hz_ => absurd (e) hz_)
      refine wp_run rfl ?_
      exact wp_ret rfl rfl ⟨rfl, rfl⟩
    · have h1 := h1.resolve_left e
      refine ev_in rfl rfl (Nat.le_of_ble_eq_true rfl) rfl ?_
      refine wp_run rfl ?_
      refine wp_iflt rfl (fun hz_ => absurd hz_ (e)) (fun _ => ?_)
      refine wp_run rfl ?_
      refine wp_iclt rfl (fun hz_ => absurd hz_ (Int32.not_lt.mpr h1)) (fun _ => ?_)
      refine wp_run rfl ?_
      exact wp_ret rfl rfl ⟨rfl, rfl⟩
  · obtain ⟨o, h', hev, z1, z2, z3, hsm, ⟨fs, hfs⟩, -, hl2, hsl⟩ := x4_copyInto (ro := ro) (d := d + 3) (B := B) (i := 7 + i) ⟨rfl, rfl, rfl, rfl, rfl, rfl, rfl⟩ hC hO (by rw [hX_len, List.length_append, hm]; omega) k3 (by omega)
    rw [zO_sl] at z1 z2 z3
    have hbo : zO sf lf (7 + i) = lf i := by unfold zO; rw [if_neg (by omega), Nat.add_sub_cancel_left]
    rw [hbo] at hev
    obtain ⟨bs', e⟩ := hX_to (B := B) (Y := (sf, nI nx, nI (vK V))) (sl := lf) (P := (f, nI (vP V), cu, la, ki, fi, se)) (G := G) (mc := mc) (h' := h') (fun k hk => (hsm k (by omega)).trans (by
        show (hX B (sf, nI nx, nI (vK V)) lf (f, nI (vP V), cu, la, ki, fi, se) G [] ++ (mc ++ bs))[k]? = _
        rw [List.getElem?_append_left (show k < (hX B (sf, nI nx, nI (vK V)) lf (f, nI (vP V), cu, la, ki, fi, se) G []).length from hk)])) (fun k h1 h2 => (hsm k h2).trans (by rw [hX_get h1, List.getElem?_append_left (by omega)])) hm
    subst e
    rw [hX_len, hX_len, List.length_append, List.length_append] at hl2
    have hsl2 := axSl_hX (B := B) (Y := (sf, nI nx, nI (vK V))) (sl := lf) (P := (f, nI (vP V), cu, la, ki, fi, se)) (G := G) (mc := mc) (bs := bs) (bs' := bs')
    refine ⟨hX B (sf, nI nx, nI (vK V)) (va_up lf i (some o)) (f, nI (vP V), cu, la, ki, fi, se) G (mc ++ bs'), ?_, B, nx, sf, va_up lf i (some o), f, cu, la, ki, fi, se, G, bs', rfl, hC, hO, KP_go (B := B) (Y := (sf, nI nx, nI (vK V))) (sl := lf) (P := (f, nI (vP V), cu, la, ki, fi, se)) (G := G) ⟨k1, k2, z1, fun j hj => z3 _ (by omega) (by omega) _ (k4 j hj), fun i' hi' => ?_⟩, hT, by omega, by omega⟩
    · refine ev_in rfl rfl (Nat.le_of_ble_eq_true rfl) rfl ?_
      refine wp_run rfl ?_
      refine wp_iflt rfl (fun hz_ => absurd hz_ (nI_pos (by omega))) (fun _ => ?_)
      refine wp_run rfl ?_
      refine wp_iclt rfl (fun _ => ?_) (fun hz_ => absurd (nI_lt (b := 2) hi (by omega)) hz_)
      refine wp_run rfl ?_
      refine wp_aald rfl rfl (vp_in_nI hi (by decide)) (by rw [nI_clamp (by omega)]) ?_
      refine wp_run rfl ?_
      refine wp_s2 rfl (Nat.le_of_ble_eq_true rfl) (hev) ?_
      refine wp_run rfl ?_
      refine wp_aast (h1 := hX B (sf, nI nx, nI (vK V)) (va_up lf i (some o)) (f, nI (vP V), cu, la, ki, fi, se) G (mc ++ bs')) rfl rfl hfs (vp_in_nI hi (by decide)) (by rw [nI_clamp (by omega)]; rfl) ?_
      refine wp_run rfl ?_
      refine wp_v0 rfl rfl (Nat.le_of_ble_eq_true rfl) (x0_size (d := d + 4) hC) ?_
      refine wp_run rfl ?_
      exact wp_ret rfl rfl ⟨rfl, rfl⟩
    · show (va_up (vS V) i (some (vA V)) i' = none → va_up lf i (some o) i' = none) ∧ ∀ A, va_up (vS V) i (some (vA V)) i' = some A → _
      by_cases e : i' = i
      · subst e
        rw [va_is]
        exact ⟨fun z => (by cases z), fun A hA => (by cases hA; exact z2)⟩
      · rw [va_no e, va_no e]
        exact ⟨(k5 i' hi').1, fun A hA => z3 _ (by omega) (by omega) _ ((k5 i' hi').2 A hA)⟩
theorem x4_restore (hm : mc.length = 7) (hx : XS V mc m h) (hS : spRestore V x r V') : ∃ h', axEv ro (d + 6) kX4_restore [.ref 0, .int x] h (some (.int r)) h' ∧ XS V' mc (m + 1) h' := by
  have hx' := XS_more (Nat.le_succ m) hx
  obtain ⟨B, nx, sf, lf, f, cu, la, ki, fi, se, G, bs, rfl, hC, hO, hK, hT, hb1, hb2⟩ := hx
  rcases hS with ⟨h1, rfl, rfl⟩ | ⟨i, hi, rfl, ⟨h1, rfl, rfl⟩ | ⟨A, h1, rfl, rfl⟩⟩
  · refine ⟨_, ?_, hx'⟩
    by_cases e : x < 0
    · refine ev_in rfl rfl (Nat.le_of_ble_eq_true rfl) rfl ?_
      refine wp_run rfl ?_
      refine wp_iflt rfl (fun _ => ?_) (fun hz_ => absurd (e) hz_)
      refine wp_run rfl ?_
      exact wp_ret rfl rfl ⟨rfl, rfl⟩
    · have h1 := h1.resolve_left e
      refine ev_in rfl rfl (Nat.le_of_ble_eq_true rfl) rfl ?_
      refine wp_run rfl ?_
      refine wp_iflt rfl (fun hz_ => absurd hz_ (e)) (fun _ => ?_)
      refine wp_run rfl ?_
      refine wp_iclt rfl (fun hz_ => absurd hz_ (Int32.not_lt.mpr h1)) (fun _ => ?_)
      refine wp_run rfl ?_
      exact wp_ret rfl rfl ⟨rfl, rfl⟩
  · have hlf := (hK.2.2.2.2 i hi).1 h1
    refine ⟨_, ?_, hx'⟩
    refine ev_in rfl rfl (Nat.le_of_ble_eq_true rfl) rfl ?_
    refine wp_run rfl ?_
    refine wp_iflt rfl (fun hz_ => absurd hz_ (nI_pos (by omega))) (fun _ => ?_)
    refine wp_run rfl ?_
    refine wp_iclt rfl (fun _ => ?_) (fun hz_ => absurd (nI_lt (b := 2) hi (by omega)) hz_)
    refine wp_run rfl ?_
    refine wp_aald (v := .null) rfl rfl (vp_in_nI hi (by decide)) (by rw [nI_clamp (by omega), hlf]; rfl) ?_
    refine wp_run rfl ?_
    refine wp_nnN rfl ?_
    refine wp_run rfl ?_
    exact wp_ret rfl rfl ⟨rfl, rfl⟩
  · obtain ⟨sf', bs', hev1, hK1, hZ1, hc1, hc2⟩ := x1_prepare (ro := ro) (d := d + 2) hm hC hO hK
    obtain ⟨o, B', ho, hev2, hC2, hO2⟩ := x0_take (ro := ro) (d := d + 4) hm (show 7 + i < 9 by omega) hK1.2.2.1 ((hK1.2.2.2.2 i hi).2 A h1)
    have hlf : lf i = some o := by
      have : zO sf' lf (7 + i) = lf i := by unfold zO; rw [if_neg (by omega), Nat.add_sub_cancel_left]
      rw [← this, ho]
    have hn := hO2.n
    obtain ⟨h', hev3, hx3⟩ := x1_settle_xs (ro := ro) (d := d + 4) (m := m + 1) (V := V) (A' := A) (r := nI (aN A)) hC2 hO2 (spR_n (by omega)) hK1 hZ1 hT (by omega) (by omega)
    rw [show stp V (nI (aN A)) A = stpN V A from if_neg (nI_pos (by omega))] at hx3
    refine ⟨h', ?_, hx3⟩
    refine ev_in rfl rfl (Nat.le_of_ble_eq_true rfl) rfl ?_
    refine wp_run rfl ?_
    refine wp_iflt rfl (fun hz_ => absurd hz_ (nI_pos (by omega))) (fun _ => ?_)
    refine wp_run rfl ?_
    refine wp_iclt rfl (fun _ => ?_) (fun hz_ => absurd (nI_lt (b := 2) hi (by omega)) hz_)
    refine wp_run rfl ?_
    refine wp_aald (v := .ref o) rfl rfl (vp_in_nI hi (by decide)) (by rw [nI_clamp (by omega), hlf]; rfl) ?_
    refine wp_run rfl ?_
    refine wp_nn rfl ?_
    refine wp_run rfl ?_
    refine wp_v1v rfl rfl (Nat.le_of_ble_eq_true rfl) (hev1) ?_
    refine wp_run rfl ?_
    refine wp_v1v rfl rfl (Nat.le_of_ble_eq_true rfl) (hev2) ?_
    refine wp_run rfl ?_
    refine wp_v0 rfl rfl (Nat.le_of_ble_eq_true rfl) (x0_size (d := d + 4) hC2) ?_
    refine wp_run rfl ?_
    refine wp_v1 rfl rfl (Nat.le_of_ble_eq_true rfl) (hev3) ?_
    refine wp_run rfl ?_
    exact wp_ret rfl rfl ⟨rfl, rfl⟩
theorem x4_put (hx : XS V mc m h) {c : Int64} (hS : spPut V c r V') : ∃ h', axEv ro (d + 6) kX4_put [.ref 0, .long c] h (some (.int r)) h' ∧ XS V' mc (m + 1) h' := by
  have hx' := XS_more (Nat.le_succ m) hx
  obtain ⟨B, nx, sf, lf, f, cu, la, ki, fi, se, G, bs, rfl, hC, hO, hK, hT, hb1, hb2⟩ := hx
  rcases hS with ⟨h1, rfl, rfl⟩ | ⟨h1, ⟨h2, rfl, rfl⟩ | ⟨h2, rfl, rfl⟩⟩
  · refine ⟨_, ?_, hx'⟩
    refine ev_in rfl rfl (Nat.le_of_ble_eq_true rfl) rfl ?_
    refine wp_run rfl ?_
    refine wp_v1 rfl rfl (Nat.le_of_ble_eq_true rfl) (x2_append_bad (d := d + 2) h1) ?_
    refine wp_run rfl ?_
    exact wp_ret rfl rfl ⟨rfl, rfl⟩
  · refine ⟨_, ?_, hx'⟩
    refine ev_in rfl rfl (Nat.le_of_ble_eq_true rfl) rfl ?_
    refine wp_run rfl ?_
    refine wp_v1 rfl rfl (Nat.le_of_ble_eq_true rfl) (x2_append_tm (d := d + 2) h1 hT.1 h2) ?_
    refine wp_run rfl ?_
    exact wp_ret rfl rfl ⟨rfl, rfl⟩
  · refine ⟨_, ?_, B, nx, sf, lf, _, cu, la, ki, fi, se, G, bs, rfl, hC, hO, KP_go hK, PT_put hT h1 h2, by omega, by omega⟩
    refine ev_in rfl rfl (Nat.le_of_ble_eq_true rfl) rfl ?_
    refine wp_run rfl ?_
    refine wp_v1 rfl rfl (Nat.le_of_ble_eq_true rfl) (x2_append (d := d + 2) h1 h2) ?_
    refine wp_run rfl ?_
    exact wp_ret rfl rfl ⟨rfl, rfl⟩
theorem x4_wipe (hx : XS V mc m h) : ∃ h', axEv ro (d + 6) kX4_wipe [.ref 0] h (some (.int (nI (vP V)))) h' ∧ XS (vA V, vK V, vH V, vS V, 0, vT V) mc (m + 1) h' := by
  obtain ⟨B, nx, sf, lf, f, cu, la, ki, fi, se, G, bs, rfl, hC, hO, hK, hT, hb1, hb2⟩ := hx
  refine ⟨_, ?_, B, nx, sf, lf, f, cu, la, ki, fi, se, G, bs, rfl, hC, hO, KP_go hK, ⟨by show 0 ≤ 80; omega, fun i hi => absurd hi (Nat.not_lt_zero i)⟩, by omega, by omega⟩
  refine ev_in rfl rfl (Nat.le_of_ble_eq_true rfl) rfl ?_
  refine wp_run rfl ?_
  refine wp_v0 rfl rfl (Nat.le_of_ble_eq_true rfl) (x2_clear (d := d + 4)) ?_
  refine wp_run rfl ?_
  exact wp_ret rfl rfl ⟨rfl, rfl⟩
theorem x4_fault (hx : XS V mc m h) : ∃ h', axEv ro (d + 7) kX4_fault [.ref 0] h (some (.int (faR (aFa (vT V) (vP V) 81 0)))) h' ∧ XS V mc (m + 1) h' := by
  obtain ⟨B, nx, sf, lf, f, cu, la, ki, fi, se, G, bs, rfl, hC, hO, hK, hT, hb1, hb2⟩ := hx
  obtain ⟨cu', la', ki', fi', se', hev⟩ := x2_firstFault (ro := ro) (d := d) (B := B) (Y := (sf, nI nx, nI (vK V))) (sl := lf) (G := G) (tl := mc ++ bs) (cu := cu) (la := la) (ki := ki) (fi := fi) (se := se) hT
  refine ⟨_, ?_, B, nx, sf, lf, f, cu', la', ki', fi', se', G, bs, rfl, hC, hO, KP_go hK, hT, by omega, by omega⟩
  refine ev_in rfl rfl (Nat.le_of_ble_eq_true rfl) rfl ?_
  refine wp_run rfl ?_
  refine wp_v0 rfl rfl (Nat.le_of_ble_eq_true rfl) (hev) ?_
  refine wp_run rfl ?_
  exact wp_ret rfl rfl ⟨rfl, rfl⟩
end AX44
