/-! THE CLASS: its whole state, and its public changes. -/
/-- what there is, for both: board, how many to undo, which, the slots, the pad -/
abbrev axV : Type := axAD × Nat × (Nat → axAD) × (Nat → Option axAD) × Nat × (Nat → Nat)
abbrev vA (V : axV) : axAD := V.1
abbrev vK (V : axV) : Nat := V.2.1
abbrev vH (V : axV) : Nat → axAD := V.2.2.1
abbrev vS (V : axV) : Nat → Option axAD := V.2.2.2.1
abbrev vP (V : axV) : Nat := V.2.2.2.2.1
abbrev vT (V : axV) : Nat → Nat := V.2.2.2.2.2
/-- the class' heap, with the other's cells mc, after m calls -/
def XS (V : axV) (mc : axH) (m : Nat) (h : axH) : Prop := ∃ B nx sf lf f cu la ki fi se G bs, h = hX B (sf, nI nx, nI (vK V)) lf (f, nI (vP V), cu, la, ki, fi, se) G (mc ++ bs) ∧ CR B (vA V) ∧ aOk (vA V) ∧ KP h sf lf nx (vK V) (vH V) (vS V) ∧ PT f (vT V) (vP V) ∧ bs.length ≤ 7 * m ∧ axSl bs ≤ 114 * m
/-- what there is after a change -/
def stpN (V : axV) (A' : axAD) : axV := (A', min (vK V + 1) 6, fun j => if j = 0 then vA V else vH V (j - 1), vS V, vP V, vT V)
def stp (V : axV) (r : Int32) (A' : axAD) : axV := if r < 0 then V else stpN V A'
section AX43
variable {LL : Nat} {xs : Nat → Int32} {ro : axRo} {d m : Nat} {B B' : axBD} {Y : axYD} {sf lf : Nat → Option Nat} {nx : Nat} {G : axGD} {mc bs h : axH} {V : axV} {A' : axAD} {x y w r : Int32} {f : Nat → Int32} {cu la ki fi se : Int32}
theorem x1_settle_xs (hC : CR B' A') (hO : aOk A') (hr : spR (vA V) r A') (hK : KP (hX B Y lf (f, nI (vP V), cu, la, ki, fi, se) G (mc ++ bs)) sf lf nx (vK V) (vH V) (vS V)) (hZ : ZH (hX B Y lf (f, nI (vP V), cu, la, ki, fi, se) G (mc ++ bs)) (zO sf lf) nx (vA V)) (hT : PT f (vT V) (vP V)) (h1 : bs.length ≤ 7 * m) (h2 : axSl bs ≤ 114 * m) : ∃ h', axEv ro (d + 1) kX1_settle [.ref 8, .int r] (hX B' (sf, nI nx, nI (vK V)) lf (f, nI (vP V), cu, la, ki, fi, se) G (mc ++ bs)) (some (.int r)) h' ∧ XS (stp V r A') mc m h' := by
  rcases hr with ⟨hn, rfl⟩ | ⟨n, hn, rfl⟩
  · unfold stp
    rw [if_pos hn]
    exact ⟨_, x1_settle_neg hn, B', nx, sf, lf, f, cu, la, ki, fi, se, G, bs, rfl, hC, hO, KP_go hK, hT, h1, h2⟩
  · unfold stp
    rw [if_neg (nI_pos hn)]
    exact ⟨_, x1_settle hn hK.1 hK.2.1, B', (nx + 1) % 7, sf, lf, f, cu, la, ki, fi, se, G, bs, rfl, hC, hO, KP_settle (KP_go hK) (ZH_go (by have := hK.1; omega) hK.2.2.1 hZ), hT, h1, h2⟩
theorem x4_set (hm : mc.length = 0) (hx : XS V mc m h) (hS : spSet (vA V) x y r A') : ∃ h', axEv (axRoL LL xs) (d + 6) kX4_set [.ref 0, .int x, .int y] h (some (.int r)) h' ∧ XS (stp V r A') mc (m + 1) h' := by
  obtain ⟨B, nx, sf, lf, f, cu, la, ki, fi, se, G, bs, rfl, hC, hO, hK, hT, hb1, hb2⟩ := hx
  obtain ⟨sf', bs', hev1, hK1, hZ1, hc1, hc2⟩ := x1_prepare (ro := (axRoL LL xs)) (d := d + 2) hm hC hO hK
  obtain ⟨B', hev2, hC2, hO2, hr⟩ := x0_set_sp (LL := LL) (xs := xs) (d := d) (Y := (sf', nI nx, nI (vK V))) (sl := lf) (P := (f, nI (vP V), cu, la, ki, fi, se)) (G := G) (tl := mc ++ bs') hO hC hS
  obtain ⟨h', hev3, hx3⟩ := x1_settle_xs (ro := (axRoL LL xs)) (d := d + 4) (m := m + 1) hC2 hO2 hr hK1 hZ1 hT (by omega) (by omega)
  refine ⟨h', ?_, hx3⟩
  refine ev_in rfl rfl (Nat.le_of_ble_eq_true rfl) rfl ?_
  refine wp_run rfl ?_
  refine wp_v1v rfl rfl (Nat.le_of_ble_eq_true rfl) (hev1) ?_
  refine wp_run rfl ?_
  refine wp_v2 rfl rfl (Nat.le_of_ble_eq_true rfl) (hev2) ?_
  refine wp_run rfl ?_
  refine wp_v1 rfl rfl (Nat.le_of_ble_eq_true rfl) (hev3) ?_
  refine wp_run rfl ?_
  exact wp_ret rfl rfl ⟨rfl, rfl⟩
theorem x4_target (hm : mc.length = 0) (hx : XS V mc m h) (hS : spTarget (vA V) x y r A') : ∃ h', axEv ro (d + 6) kX4_target [.ref 0, .int x, .int y] h (some (.int r)) h' ∧ XS (stp V r A') mc (m + 1) h' := by
  obtain ⟨B, nx, sf, lf, f, cu, la, ki, fi, se, G, bs, rfl, hC, hO, hK, hT, hb1, hb2⟩ := hx
  obtain ⟨sf', bs', hev1, hK1, hZ1, hc1, hc2⟩ := x1_prepare (ro := ro) (d := d + 2) hm hC hO hK
  obtain ⟨B', hev2, hC2, hO2, hr⟩ := x0_target_sp (ro := ro) (d := d) (Y := (sf', nI nx, nI (vK V))) (sl := lf) (P := (f, nI (vP V), cu, la, ki, fi, se)) (G := G) (tl := mc ++ bs') hO hC hS
  obtain ⟨h', hev3, hx3⟩ := x1_settle_xs (ro := ro) (d := d + 4) (m := m + 1) hC2 hO2 hr hK1 hZ1 hT (by omega) (by omega)
  refine ⟨h', ?_, hx3⟩
  refine ev_in rfl rfl (Nat.le_of_ble_eq_true rfl) rfl ?_
  refine wp_run rfl ?_
  refine wp_v1v rfl rfl (Nat.le_of_ble_eq_true rfl) (hev1) ?_
  refine wp_run rfl ?_
  refine wp_v2 rfl rfl (Nat.le_of_ble_eq_true rfl) (hev2) ?_
  refine wp_run rfl ?_
  refine wp_v1 rfl rfl (Nat.le_of_ble_eq_true rfl) (hev3) ?_
  refine wp_run rfl ?_
  exact wp_ret rfl rfl ⟨rfl, rfl⟩
theorem x4_slug (hm : mc.length = 0) (hx : XS V mc m h) (hS : spAdd (vA V) x y w r A') : ∃ h', axEv ro (d + 6) kX4_slug [.ref 0, .int x, .int y, .int w] h (some (.int r)) h' ∧ XS (stp V r A') mc (m + 1) h' := by
  obtain ⟨B, nx, sf, lf, f, cu, la, ki, fi, se, G, bs, rfl, hC, hO, hK, hT, hb1, hb2⟩ := hx
  obtain ⟨sf', bs', hev1, hK1, hZ1, hc1, hc2⟩ := x1_prepare (ro := ro) (d := d + 2) hm hC hO hK
  obtain ⟨B', hev2, hC2, hO2, hr⟩ := x0_add_sp (ro := ro) (d := d) (Y := (sf', nI nx, nI (vK V))) (sl := lf) (P := (f, nI (vP V), cu, la, ki, fi, se)) (G := G) (tl := mc ++ bs') hO hC hS
  obtain ⟨h', hev3, hx3⟩ := x1_settle_xs (ro := ro) (d := d + 4) (m := m + 1) hC2 hO2 hr hK1 hZ1 hT (by omega) (by omega)
  refine ⟨h', ?_, hx3⟩
  refine ev_in rfl rfl (Nat.le_of_ble_eq_true rfl) rfl ?_
  refine wp_run rfl ?_
  refine wp_v1v rfl rfl (Nat.le_of_ble_eq_true rfl) (hev1) ?_
  refine wp_run rfl ?_
  refine wp_v3 rfl rfl (Nat.le_of_ble_eq_true rfl) (hev2) ?_
  refine wp_run rfl ?_
  refine wp_v1 rfl rfl (Nat.le_of_ble_eq_true rfl) (hev3) ?_
  refine wp_run rfl ?_
  exact wp_ret rfl rfl ⟨rfl, rfl⟩
theorem x4_drop (hm : mc.length = 0) (hx : XS V mc m h) (hS : spDrop (vA V) x r A') : ∃ h', axEv ro (d + 6) kX4_drop [.ref 0, .int x] h (some (.int r)) h' ∧ XS (stp V r A') mc (m + 1) h' := by
  obtain ⟨B, nx, sf, lf, f, cu, la, ki, fi, se, G, bs, rfl, hC, hO, hK, hT, hb1, hb2⟩ := hx
  obtain ⟨sf', bs', hev1, hK1, hZ1, hc1, hc2⟩ := x1_prepare (ro := ro) (d := d + 2) hm hC hO hK
  obtain ⟨B', hev2, hC2, hO2, hr⟩ := x0_drop_sp (ro := ro) (d := d) (Y := (sf', nI nx, nI (vK V))) (sl := lf) (P := (f, nI (vP V), cu, la, ki, fi, se)) (G := G) (tl := mc ++ bs') hO hC hS
  obtain ⟨h', hev3, hx3⟩ := x1_settle_xs (ro := ro) (d := d + 4) (m := m + 1) hC2 hO2 hr hK1 hZ1 hT (by omega) (by omega)
  refine ⟨h', ?_, hx3⟩
  refine ev_in rfl rfl (Nat.le_of_ble_eq_true rfl) rfl ?_
  refine wp_run rfl ?_
  refine wp_v1v rfl rfl (Nat.le_of_ble_eq_true rfl) (hev1) ?_
  refine wp_run rfl ?_
  refine wp_v1 rfl rfl (Nat.le_of_ble_eq_true rfl) (hev2) ?_
  refine wp_run rfl ?_
  refine wp_v1 rfl rfl (Nat.le_of_ble_eq_true rfl) (hev3) ?_
  refine wp_run rfl ?_
  exact wp_ret rfl rfl ⟨rfl, rfl⟩
theorem x4_turn (hm : mc.length = 0) (hx : XS V mc m h) (hS : spTurn (vA V) x r A') : ∃ h', axEv ro (d + 6) kX4_turn [.ref 0, .int x] h (some (.int r)) h' ∧ XS (stp V r A') mc (m + 1) h' := by
  obtain ⟨B, nx, sf, lf, f, cu, la, ki, fi, se, G, bs, rfl, hC, hO, hK, hT, hb1, hb2⟩ := hx
  obtain ⟨sf', bs', hev1, hK1, hZ1, hc1, hc2⟩ := x1_prepare (ro := ro) (d := d + 2) hm hC hO hK
  obtain ⟨B', hev2, hC2, hO2, hr⟩ := x0_turn_sp (ro := ro) (d := d) (Y := (sf', nI nx, nI (vK V))) (sl := lf) (P := (f, nI (vP V), cu, la, ki, fi, se)) (G := G) (tl := mc ++ bs') hO hC hS
  obtain ⟨h', hev3, hx3⟩ := x1_settle_xs (ro := ro) (d := d + 4) (m := m + 1) hC2 hO2 hr hK1 hZ1 hT (by omega) (by omega)
  refine ⟨h', ?_, hx3⟩
  refine ev_in rfl rfl (Nat.le_of_ble_eq_true rfl) rfl ?_
  refine wp_run rfl ?_
  refine wp_v1v rfl rfl (Nat.le_of_ble_eq_true rfl) (hev1) ?_
  refine wp_run rfl ?_
  refine wp_v1 rfl rfl (Nat.le_of_ble_eq_true rfl) (hev2) ?_
  refine wp_run rfl ?_
  refine wp_v1 rfl rfl (Nat.le_of_ble_eq_true rfl) (hev3) ?_
  refine wp_run rfl ?_
  exact wp_ret rfl rfl ⟨rfl, rfl⟩
theorem x4_need (hm : mc.length = 0) (hx : XS V mc m h) (hS : spNeed (vA V) x y r A') : ∃ h', axEv ro (d + 6) kX4_need [.ref 0, .int x, .int y] h (some (.int r)) h' ∧ XS (stp V r A') mc (m + 1) h' := by
  obtain ⟨B, nx, sf, lf, f, cu, la, ki, fi, se, G, bs, rfl, hC, hO, hK, hT, hb1, hb2⟩ := hx
  obtain ⟨sf', bs', hev1, hK1, hZ1, hc1, hc2⟩ := x1_prepare (ro := ro) (d := d + 2) hm hC hO hK
  obtain ⟨B', hev2, hC2, hO2, hr⟩ := x0_need_sp (ro := ro) (d := d) (Y := (sf', nI nx, nI (vK V))) (sl := lf) (P := (f, nI (vP V), cu, la, ki, fi, se)) (G := G) (tl := mc ++ bs') hO hC hS
  obtain ⟨h', hev3, hx3⟩ := x1_settle_xs (ro := ro) (d := d + 4) (m := m + 1) hC2 hO2 hr hK1 hZ1 hT (by omega) (by omega)
  refine ⟨h', ?_, hx3⟩
  refine ev_in rfl rfl (Nat.le_of_ble_eq_true rfl) rfl ?_
  refine wp_run rfl ?_
  refine wp_v1v rfl rfl (Nat.le_of_ble_eq_true rfl) (hev1) ?_
  refine wp_run rfl ?_
  refine wp_v2 rfl rfl (Nat.le_of_ble_eq_true rfl) (hev2) ?_
  refine wp_run rfl ?_
  refine wp_v1 rfl rfl (Nat.le_of_ble_eq_true rfl) (hev3) ?_
  refine wp_run rfl ?_
  exact wp_ret rfl rfl ⟨rfl, rfl⟩
theorem x4_trim (hm : mc.length = 0) (hx : XS V mc m h) (hS : spTrim (vA V) x y r A') : ∃ h', axEv ro (d + 6) kX4_trim [.ref 0, .int x, .int y] h (some (.int r)) h' ∧ XS (stp V r A') mc (m + 1) h' := by
  obtain ⟨B, nx, sf, lf, f, cu, la, ki, fi, se, G, bs, rfl, hC, hO, hK, hT, hb1, hb2⟩ := hx
  obtain ⟨sf', bs', hev1, hK1, hZ1, hc1, hc2⟩ := x1_prepare (ro := ro) (d := d + 2) hm hC hO hK
  obtain ⟨B', hev2, hC2, hO2, hr⟩ := x0_trim_sp (ro := ro) (d := d) (Y := (sf', nI nx, nI (vK V))) (sl := lf) (P := (f, nI (vP V), cu, la, ki, fi, se)) (G := G) (tl := mc ++ bs') hO hC hS
  obtain ⟨h', hev3, hx3⟩ := x1_settle_xs (ro := ro) (d := d + 4) (m := m + 1) hC2 hO2 hr hK1 hZ1 hT (by omega) (by omega)
  refine ⟨h', ?_, hx3⟩
  refine ev_in rfl rfl (Nat.le_of_ble_eq_true rfl) rfl ?_
  refine wp_run rfl ?_
  refine wp_v1v rfl rfl (Nat.le_of_ble_eq_true rfl) (hev1) ?_
  refine wp_run rfl ?_
  refine wp_v2 rfl rfl (Nat.le_of_ble_eq_true rfl) (hev2) ?_
  refine wp_run rfl ?_
  refine wp_v1 rfl rfl (Nat.le_of_ble_eq_true rfl) (hev3) ?_
  refine wp_run rfl ?_
  exact wp_ret rfl rfl ⟨rfl, rfl⟩
theorem x4_restoreTail (hm : mc.length = 0) (hx : XS V mc m h) (hS : spGive (vA V) x r A') : ∃ h', axEv ro (d + 6) kX4_restoreTail [.ref 0, .int x] h (some (.int r)) h' ∧ XS (stp V r A') mc (m + 1) h' := by
  obtain ⟨B, nx, sf, lf, f, cu, la, ki, fi, se, G, bs, rfl, hC, hO, hK, hT, hb1, hb2⟩ := hx
  obtain ⟨sf', bs', hev1, hK1, hZ1, hc1, hc2⟩ := x1_prepare (ro := ro) (d := d + 2) hm hC hO hK
  obtain ⟨B', hev2, hC2, hO2, hr⟩ := x0_give_sp (ro := ro) (d := d) (Y := (sf', nI nx, nI (vK V))) (sl := lf) (P := (f, nI (vP V), cu, la, ki, fi, se)) (G := G) (tl := mc ++ bs') hO hC hS
  obtain ⟨h', hev3, hx3⟩ := x1_settle_xs (ro := ro) (d := d + 4) (m := m + 1) hC2 hO2 hr hK1 hZ1 hT (by omega) (by omega)
  refine ⟨h', ?_, hx3⟩
  refine ev_in rfl rfl (Nat.le_of_ble_eq_true rfl) rfl ?_
  refine wp_run rfl ?_
  refine wp_v1v rfl rfl (Nat.le_of_ble_eq_true rfl) (hev1) ?_
  refine wp_run rfl ?_
  refine wp_v1 rfl rfl (Nat.le_of_ble_eq_true rfl) (hev2) ?_
  refine wp_run rfl ?_
  refine wp_v1 rfl rfl (Nat.le_of_ble_eq_true rfl) (hev3) ?_
  refine wp_run rfl ?_
  exact wp_ret rfl rfl ⟨rfl, rfl⟩
theorem x4_move (hm : mc.length = 0) (hx : XS V mc m h) (hS : spMove (vA V) x y r A') : ∃ h', axEv ro (d + 6) kX4_move [.ref 0, .int x, .int y] h (some (.int r)) h' ∧ XS (stp V r A') mc (m + 1) h' := by
  obtain ⟨B, nx, sf, lf, f, cu, la, ki, fi, se, G, bs, rfl, hC, hO, hK, hT, hb1, hb2⟩ := hx
  obtain ⟨sf', bs', hev1, hK1, hZ1, hc1, hc2⟩ := x1_prepare (ro := ro) (d := d + 2) hm hC hO hK
  obtain ⟨B', hev2, hC2, hO2, hr⟩ := x0_move_sp (ro := ro) (d := d) (Y := (sf', nI nx, nI (vK V))) (sl := lf) (P := (f, nI (vP V), cu, la, ki, fi, se)) (G := G) (tl := mc ++ bs') hO hC hS
  obtain ⟨h', hev3, hx3⟩ := x1_settle_xs (ro := ro) (d := d + 4) (m := m + 1) hC2 hO2 hr hK1 hZ1 hT (by omega) (by omega)
  refine ⟨h', ?_, hx3⟩
  refine ev_in rfl rfl (Nat.le_of_ble_eq_true rfl) rfl ?_
  refine wp_run rfl ?_
  refine wp_v1v rfl rfl (Nat.le_of_ble_eq_true rfl) (hev1) ?_
  refine wp_run rfl ?_
  refine wp_v2 rfl rfl (Nat.le_of_ble_eq_true rfl) (hev2) ?_
  refine wp_run rfl ?_
  refine wp_v1 rfl rfl (Nat.le_of_ble_eq_true rfl) (hev3) ?_
  refine wp_run rfl ?_
  exact wp_ret rfl rfl ⟨rfl, rfl⟩
theorem x4_swap (hm : mc.length = 0) (hx : XS V mc m h) (hS : spSwap (vA V) x y r A') : ∃ h', axEv ro (d + 6) kX4_swap [.ref 0, .int x, .int y] h (some (.int r)) h' ∧ XS (stp V r A') mc (m + 1) h' := by
  obtain ⟨B, nx, sf, lf, f, cu, la, ki, fi, se, G, bs, rfl, hC, hO, hK, hT, hb1, hb2⟩ := hx
  obtain ⟨sf', bs', hev1, hK1, hZ1, hc1, hc2⟩ := x1_prepare (ro := ro) (d := d + 2) hm hC hO hK
  obtain ⟨B', hev2, hC2, hO2, hr⟩ := x0_swap_sp (ro := ro) (d := d) (Y := (sf', nI nx, nI (vK V))) (sl := lf) (P := (f, nI (vP V), cu, la, ki, fi, se)) (G := G) (tl := mc ++ bs') hO hC hS
  obtain ⟨h', hev3, hx3⟩ := x1_settle_xs (ro := ro) (d := d + 4) (m := m + 1) hC2 hO2 hr hK1 hZ1 hT (by omega) (by omega)
  refine ⟨h', ?_, hx3⟩
  refine ev_in rfl rfl (Nat.le_of_ble_eq_true rfl) rfl ?_
  refine wp_run rfl ?_
  refine wp_v1v rfl rfl (Nat.le_of_ble_eq_true rfl) (hev1) ?_
  refine wp_run rfl ?_
  refine wp_v2 rfl rfl (Nat.le_of_ble_eq_true rfl) (hev2) ?_
  refine wp_run rfl ?_
  refine wp_v1 rfl rfl (Nat.le_of_ble_eq_true rfl) (hev3) ?_
  refine wp_run rfl ?_
  exact wp_ret rfl rfl ⟨rfl, rfl⟩
theorem x4_split (hm : mc.length = 0) (hx : XS V mc m h) (hS : spSplit (vA V) x y r A') : ∃ h', axEv ro (d + 6) kX4_split [.ref 0, .int x, .int y] h (some (.int r)) h' ∧ XS (stp V r A') mc (m + 1) h' := by
  obtain ⟨B, nx, sf, lf, f, cu, la, ki, fi, se, G, bs, rfl, hC, hO, hK, hT, hb1, hb2⟩ := hx
  obtain ⟨sf', bs', hev1, hK1, hZ1, hc1, hc2⟩ := x1_prepare (ro := ro) (d := d + 2) hm hC hO hK
  obtain ⟨B', hev2, hC2, hO2, hr⟩ := x0_split_sp (ro := ro) (d := d) (Y := (sf', nI nx, nI (vK V))) (sl := lf) (P := (f, nI (vP V), cu, la, ki, fi, se)) (G := G) (tl := mc ++ bs') hO hC hS
  obtain ⟨h', hev3, hx3⟩ := x1_settle_xs (ro := ro) (d := d + 4) (m := m + 1) hC2 hO2 hr hK1 hZ1 hT (by omega) (by omega)
  refine ⟨h', ?_, hx3⟩
  refine ev_in rfl rfl (Nat.le_of_ble_eq_true rfl) rfl ?_
  refine wp_run rfl ?_
  refine wp_v1v rfl rfl (Nat.le_of_ble_eq_true rfl) (hev1) ?_
  refine wp_run rfl ?_
  refine wp_v2 rfl rfl (Nat.le_of_ble_eq_true rfl) (hev2) ?_
  refine wp_run rfl ?_
  refine wp_v1 rfl rfl (Nat.le_of_ble_eq_true rfl) (hev3) ?_
  refine wp_run rfl ?_
  exact wp_ret rfl rfl ⟨rfl, rfl⟩
theorem x4_fit (hm : mc.length = 0) (hx : XS V mc m h) (hS : spFit (vA V) x r A') : ∃ h', axEv ro (d + 6) kX4_fit [.ref 0, .int x] h (some (.int r)) h' ∧ XS (stp V r A') mc (m + 1) h' := by
  obtain ⟨B, nx, sf, lf, f, cu, la, ki, fi, se, G, bs, rfl, hC, hO, hK, hT, hb1, hb2⟩ := hx
  obtain ⟨sf', bs', hev1, hK1, hZ1, hc1, hc2⟩ := x1_prepare (ro := ro) (d := d + 2) hm hC hO hK
  obtain ⟨B', hev2, hC2, hO2, hr⟩ := x0_fit_sp (ro := ro) (d := d) (Y := (sf', nI nx, nI (vK V))) (sl := lf) (P := (f, nI (vP V), cu, la, ki, fi, se)) (G := G) (tl := mc ++ bs') hO hC hS
  obtain ⟨h', hev3, hx3⟩ := x1_settle_xs (ro := ro) (d := d + 4) (m := m + 1) hC2 hO2 hr hK1 hZ1 hT (by omega) (by omega)
  refine ⟨h', ?_, hx3⟩
  refine ev_in rfl rfl (Nat.le_of_ble_eq_true rfl) rfl ?_
  refine wp_run rfl ?_
  refine wp_v1v rfl rfl (Nat.le_of_ble_eq_true rfl) (hev1) ?_
  refine wp_run rfl ?_
  refine wp_v1 rfl rfl (Nat.le_of_ble_eq_true rfl) (hev2) ?_
  refine wp_run rfl ?_
  refine wp_v1 rfl rfl (Nat.le_of_ble_eq_true rfl) (hev3) ?_
  refine wp_run rfl ?_
  exact wp_ret rfl rfl ⟨rfl, rfl⟩
end AX43
