/-! THE LAW: what it reads of an object, and its small methods. -/
section AX53
variable {ro : axRo} {d m : Nat} {h : axH} {V : axV} {x y r : Int32}
theorem XS_o4 {mc : axH} (hx : XS V mc m h) : ∃ f0, h[0]? = some (.inr (.inr (4, f0))) := by
  obtain ⟨B, nx, sf, lf, f, cu, la, ki, fi, se, G, bs, rfl, -⟩ := hx
  exact ⟨_, rfl⟩
theorem XS_ok {mc : axH} (hx : XS V mc m h) : aOk (vA V) := by
  obtain ⟨B, nx, sf, lf, f, cu, la, ki, fi, se, G, bs, -, -, hO, -⟩ := hx
  exact hO
theorem L_of_sp (hx : XS V [] m h) (hS : spOf (vA V) x y r) : axEv ro (d + 6) kX4_of [.ref 0, .int x, .int y] h (some (.int r)) h := by
  obtain ⟨B, nx, sf, lf, f, cu, la, ki, fi, se, G, bs, rfl, hC, hO, hK, hT, hb1, hb2⟩ := hx
  exact x4_of_b hO hC hS
theorem L_of (hx : XS V [] m h) {i : Nat} (hi : i < aN (vA V)) (k : Nat) (hk : k < 10) : axEv ro (d + 6) kX4_of [.ref 0, .int (nI (aR (vA V) i)), .int (nI k)] h (some (.int (ofV (vA V) i k))) h :=
  L_of_sp hx (Or.inr ⟨i, ⟨hi, rfl⟩, Or.inl ⟨k, hk, rfl, rfl⟩⟩)
theorem L_ofN (hx : XS V [] m h) (hn : spNo (vA V) x) : axEv ro (d + 6) kX4_of [.ref 0, .int x, .int y] h (some (.int (-1))) h :=
  L_of_sp hx (Or.inl ⟨hn, rfl⟩)
theorem L_ofF (hx : XS V [] m h) {k j : Nat} (hk : k < 24) (hj : j < 10) : axEv ro (d + 6) kX4_of [.ref 0, .int (nI k), .int (nI j)] h (some (.int (ofF (vA V) k j))) h :=
  L_of_sp hx (ofF_sp (XS_ok hx) hk hj)
theorem L_at_sp (hx : XS V [] m h) (hS : spAt (vA V) x r) : axEv ro (d + 6) kX4_at [.ref 0, .int x] h (some (.int r)) h := by
  obtain ⟨B, nx, sf, lf, f, cu, la, ki, fi, se, G, bs, rfl, hC, hO, hK, hT, hb1, hb2⟩ := hx
  exact x4_at_b hO hC hS
theorem L_at (hx : XS V [] m h) {i : Nat} (hi : i < aN (vA V)) : axEv ro (d + 6) kX4_at [.ref 0, .int (nI i)] h (some (.int (nI (aR (vA V) i)))) h :=
  L_at_sp hx (Or.inr ⟨i, hi, rfl, rfl⟩)
theorem L_atE (hx : XS V [] m h) : axEv ro (d + 6) kX4_at [.ref 0, .int (nI (aN (vA V)))] h (some (.int (-1))) h :=
  L_at_sp hx (Or.inl ⟨Or.inr (Int32.le_refl _), rfl⟩)
theorem L_atB_sp (hx : XS V [] m h) (hS : spAtBeat (vA V) x r) : axEv ro (d + 6) kX4_atBeat [.ref 0, .int x] h (some (.int r)) h := by
  obtain ⟨B, nx, sf, lf, f, cu, la, ki, fi, se, G, bs, rfl, hC, hO, hK, hT, hb1, hb2⟩ := hx
  exact x4_atBeat_b hO hC hS
theorem L_atB (hx : XS V [] m h) {i : Nat} (hi : i < aN (vA V)) : axEv ro (d + 6) kX4_atBeat [.ref 0, .int (nI (aBeg (vA V) i))] h (some (.int (nI (aR (vA V) i)))) h := by
  have hO := XS_ok hx
  have hb := aBeg_le hO (show i ≤ aN (vA V) by omega)
  have hn := hO.n
  exact L_atB_sp hx (Or.inr ⟨aBeg (vA V) i, by omega, rfl, by rw [pu_atB hO hi, if_pos hi]⟩)
theorem L_atBE (hx : XS V [] m h) : axEv ro (d + 6) kX4_atBeat [.ref 0, .int (nI (aBeg (vA V) (aN (vA V))))] h (some (.int (-6))) h := by
  have hO := XS_ok hx
  have hb := aBeg_le hO (Nat.le_refl (aN (vA V)))
  have hn := hO.n
  exact L_atB_sp hx (Or.inr ⟨aBeg (vA V) (aN (vA V)), by omega, rfl, by rw [pu_atE hO, if_neg (Nat.lt_irrefl _)]⟩)
theorem L_ofAct (hx : XS V [] m h) {a : Nat} (ha : a < aActs (vA V)) (k : Nat) (hk : k < 8) : axEv ro (d + 7) kX4_ofAct [.ref 0, .int (nI a), .int (nI k)] h (some (.int (actV (vA V) a k))) h := by
  obtain ⟨B, nx, sf, lf, f, cu, la, ki, fi, se, G, bs, rfl, hC, hO, hK, hT, hb1, hb2⟩ := hx
  exact x4_ofAct_b hO hC (Or.inr ⟨a, ha, rfl, Or.inl ⟨k, hk, rfl, rfl⟩⟩)
theorem L_cnt (hx : XS V [] m h) (k : Nat) (hk : k < 10) : axEv ro (d + 7) kX4_count [.ref 0, .int (nI k)] h (some (.int (cntA (vA V) k))) h := by
  rw [← cntA_is V k hk]
  exact x4_count hx (Or.inr ⟨k, by omega, rfl, rfl⟩)
theorem L_places (hx : XS V [] m h) {i : Nat} (hi : i < aN (vA V)) : axEv ro (d + 6) kX4_places [.ref 0, .int (nI (aR (vA V) i))] h (some (.int (plS (vA V) i (aN (vA V))))) h := by
  obtain ⟨B, nx, sf, lf, f, cu, la, ki, fi, se, G, bs, rfl, hC, hO, hK, hT, hb1, hb2⟩ := hx
  exact x4_places_b hO hC (Or.inr ⟨i, ⟨hi, rfl⟩, rfl⟩)
theorem L_needs (hx : XS V [] m h) {i : Nat} (hi : i < aN (vA V)) : axEv ro (d + 6) kX4_needs [.ref 0, .int (nI (aR (vA V) i))] h (some (.int (aClo (vA V) (aN (vA V)) (aD (vA V) (aR (vA V) i))))) h := by
  obtain ⟨B, nx, sf, lf, f, cu, la, ki, fi, se, G, bs, rfl, hC, hO, hK, hT, hb1, hb2⟩ := hx
  exact x4_needs_b hO hC (Or.inr ⟨i, ⟨hi, rfl⟩, rfl⟩)
theorem L_turned (hx : XS V [] m h) {i : Nat} (hi : i < aN (vA V)) : axEv ro (d + 6) kX4_ifTurned [.ref 0, .int (nI (aR (vA V) i))] h (some (.int (nI (aAll (aFlip (vA V) (aR (vA V) i)))))) h := by
  obtain ⟨B, nx, sf, lf, f, cu, la, ki, fi, se, G, bs, rfl, hC, hO, hK, hT, hb1, hb2⟩ := hx
  exact x4_ifTurned_b hO hC (Or.inr ⟨i, ⟨hi, rfl⟩, rfl⟩)
theorem L_fitted {A' : axAD} (hx : XS V [] m h) (hS : spFit (vA V) x r A') : axEv ro (d + 6) kX4_ifFitted [.ref 0, .int x] h (some (.int r)) h := by
  obtain ⟨B, nx, sf, lf, f, cu, la, ki, fi, se, G, bs, rfl, hC, hO, hK, hT, hb1, hb2⟩ := hx
  exact x4_ifFitted_b hO hC hS
theorem L_best (hx : XS V [] m h) (k : Nat) (hk : k < 3) : ∃ h', axEv ro (d + 7) kX4_bestSwap [.ref 0, .int (nI k)] h (some (.int (bsV (vA V) k))) h' ∧ XS V [] (m + 1) h' :=
  x4_bestSwap hx (Or.inr ⟨k, hk, rfl, rfl⟩)
theorem stp_e {A' : axAD} (h : r < 0) : stp V r A' = V := if_pos h
theorem stp_n {A' : axAD} {n : Nat} (h : n < 2 ^ 31) : stp V (nI n) A' = stpN V A' := if_neg (nI_pos h)
theorem stp_vA {A' : axAD} (h : spR (vA V) r A') : vA (stp V r A') = A' := by
  rcases h with ⟨h1, rfl⟩ | ⟨n, hn, rfl⟩
  · rw [stp_e h1]
  · rw [stp_n hn]; rfl
/-! its small methods -/
theorem L_low {h : axH} (x : Int32) {n : Nat} (h0 : 0 < n) (hn : n < 2 ^ 31) : ∃ j, j < n ∧ axEv ro (d + 1) kL_low [.int x, .int (nI n)] h (some (.int (nI j))) h := by
  obtain ⟨a, ha, e⟩ := lw_lo x
  refine ⟨a % n, Nat.mod_lt _ h0, ?_⟩
  refine ev_in rfl rfl (Nat.le_of_ble_eq_true rfl) rfl ?_
  refine wp_run rfl ?_
  refine wp_irem (v := nI (a % n)) rfl (nI_ne0 h0 hn) (by rw [e]; exact nI_rem ha h0 hn) ?_
  refine wp_run rfl ?_
  exact wp_ret rfl rfl ⟨rfl, rfl⟩
theorem L_cell {h : axH} {L : Nat} {xs : Nat → Int32} (hL : L ≤ 260) {k : Nat} (hk : k < 1000) : ∃ r, axEv (axRoL L xs) (d + 1) kL_cell [.retAddr 0, .int (nI k)] h (some (.int r)) h := by
  by_cases e : k < L
  · refine ⟨xs k, ?_⟩
    refine ev_in rfl rfl (Nat.le_of_ble_eq_true rfl) rfl ?_
    refine wp_run rfl ?_
    refine wp_lenR rfl (by decide) ?_
    refine wp_run rfl ?_
    refine wp_icge rfl (fun hz_ => absurd hz_ (nI_ge (b := L) e (by omega))) (fun _ => ?_)
    refine wp_run rfl ?_
    refine wp_aldR (v := xs k) rfl (by decide) (vp_in_nI (show k < L from e) (show L < 2 ^ 31 by omega)) (by show xs (nI k).toNatClampNeg = xs k; rw [nI_clamp (by omega)]) ?_
    refine wp_run rfl ?_
    exact wp_ret rfl rfl ⟨rfl, rfl⟩
  · refine ⟨834001351 * (nI k + 5) + 782758355, ?_⟩
    refine ev_in rfl rfl (Nat.le_of_ble_eq_true rfl) rfl ?_
    refine wp_run rfl ?_
    refine wp_lenR rfl (by decide) ?_
    refine wp_run rfl ?_
    refine wp_icge rfl (fun _ => ?_) (fun hz_ => absurd (nI_le (a := L) (b := k) (by omega) (by omega)) hz_)
    refine wp_run rfl ?_
    exact wp_ret rfl rfl ⟨rfl, rfl⟩
theorem L_many (hx : XS V [] m h) : axEv ro (d + 7) kL_many [.ref 0] h (some (.int (nI (aN (vA V))))) h := by
  obtain ⟨f0, e0⟩ := XS_o4 hx
  have hO := XS_ok hx
  have hn := hO.n
  have loop : ∀ j i, i + j = aN (vA V) → axW ro (axEv ro (d + 6)) cdL_many 4 [some (.ref 0), some (.int (nI i))] [.int (nI i), .ref 0] h (fun r' h' => r' = some (.int (nI (aN (vA V)))) ∧ h' = h) := by
    intro j
    induction j with
    | zero =>
      intro i hi
      have : i = aN (vA V) := by omega
      subst this
      refine wp_v1 rfl e0 (Nat.le_of_ble_eq_true rfl) (L_atE hx) ?_
      refine wp_run rfl ?_
      refine wp_iflt rfl (fun _ => ?_) (fun hz_ => absurd ((by decide : (-1 : Int32) < 0)) hz_)
      refine wp_run rfl ?_
      exact wp_ret rfl rfl ⟨rfl, rfl⟩
    | succ j ih =>
      intro i hi
      have hr := hO.r (show i < aN (vA V) by omega)
      refine wp_v1 rfl e0 (Nat.le_of_ble_eq_true rfl) (L_at hx (show i < aN (vA V) by omega)) ?_
      refine wp_run rfl ?_
      refine wp_iflt rfl (fun hz_ => absurd hz_ (nI_pos (by omega))) (fun _ => ?_)
      refine wp_run rfl ?_
      rw [nI_1]
      exact ih (i + 1) (by omega)
  refine ev_in rfl rfl (Nat.le_of_ble_eq_true rfl) rfl ?_
  refine wp_run rfl ?_
  exact loop (aN (vA V)) 0 (by omega)
theorem L_tale (hx : XS V [] m h) : axEv ro (d + 8) kL_tale [.ref 0] h (some (.long (tale (vA V)))) h := by
  obtain ⟨f0, e0⟩ := XS_o4 hx
  have loop2 : ∀ j k, k + j = 240 → axW ro (axEv ro (d + 7)) cdL_tale 37 [some (.ref 0), some (.long (tlO (vA V) k)), none, some (.int (nI k))] [.int 240, .int (nI k)] h (fun r' h' => r' = some (.long (tale (vA V))) ∧ h' = h) := by
    intro j
    induction j with
    | zero =>
      intro k hk
      have : k = 240 := by omega
      subst this
      refine wp_icge rfl (fun _ => ?_) (fun hz_ => absurd ((Int32.le_refl _ : (240 : Int32) ≤ nI 240)) hz_)
      refine wp_run rfl ?_
      exact wp_retl rfl ⟨rfl, rfl⟩
    | succ j ih =>
      intro k hk
      refine wp_icge rfl (fun hz_ => absurd hz_ (nI_ge (a := k) (b := 240) (by omega) (by omega))) (fun _ => ?_)
      refine wp_run rfl ?_
      refine wp_idiv (v := nI (k / 10)) rfl (by decide) (nI_div (b := 10) (by omega) (by omega) (by omega)) ?_
      refine wp_run rfl ?_
      refine wp_irem (v := nI (k % 10)) rfl (by decide) (nI_rem (b := 10) (by omega) (by omega) (by omega)) ?_
      refine wp_run rfl ?_
      refine wp_v2 rfl e0 (Nat.le_of_ble_eq_true rfl) (L_ofF (d := d + 1) hx (show k / 10 < 24 by omega) (show k % 10 < 10 by omega)) ?_
      refine wp_run rfl ?_
      rw [nI_1]
      exact ih (k + 1) (by omega)
  have loop1 : ∀ j k, k + j = 10 → axW ro (axEv ro (d + 7)) cdL_tale 9 [some (.ref 0), some (.long (tlC (vA V) k)), none, some (.int (nI k))] [.int 10, .int (nI k)] h (fun r' h' => r' = some (.long (tale (vA V))) ∧ h' = h) := by
    intro j
    induction j with
    | zero =>
      intro k hk
      have : k = 10 := by omega
      subst this
      refine wp_icge rfl (fun _ => ?_) (fun hz_ => absurd ((Int32.le_refl _ : (10 : Int32) ≤ nI 10)) hz_)
      refine wp_run rfl ?_
      exact loop2 240 0 rfl
    | succ j ih =>
      intro k hk
      refine wp_icge rfl (fun hz_ => absurd hz_ (nI_ge (a := k) (b := 10) (by omega) (by omega))) (fun _ => ?_)
      refine wp_run rfl ?_
      refine wp_v1 rfl e0 (Nat.le_of_ble_eq_true rfl) (L_cnt hx k (by omega)) ?_
      refine wp_run rfl ?_
      rw [nI_1]
      exact ih (k + 1) (by omega)
  refine ev_in rfl rfl (Nat.le_of_ble_eq_true rfl) rfl ?_
  refine wp_run rfl ?_
  exact loop1 10 0 rfl
end AX53
