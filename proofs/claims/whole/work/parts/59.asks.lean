/-! THE REFERENCE: its public methods that change nothing. -/
theorem in_out1 {x : Int32} {n : Nat} (hn : n < 2 ^ 31) (h : x < 0 ∨ nI n ≤ x) : x < 0 ∨ ¬ x ≤ nI n - 1 := by
  by_cases e : n = 0
  · subst e
    rcases h with h | h
    · exact Or.inl h
    · exact Or.inr (fun z => absurd (Int32.le_trans h z) (by decide))
  · rw [nI_p1 (by omega)]
    exact in_out (by omega) (by rw [show n - 1 + 1 = n by omega]; exact h)
section AX59
variable {ro : axRo} {d : Nat} {h : axH} {c : Nat → axC} {M : axMD} {tl : axH} {A A' : axAD} {V V' : axV} {x y w r : Int32}
theorem x5_of (hO : aOw A) (hR : MR (mS M) A) (hS : spOf A x y r) : axEv ro (d + 4) kX5_of [.ref 15, .int x, .int y] (hM c M tl) (some (.int r)) (hM c M tl) := by
  have hn := hO.n
  rcases hS with ⟨h, rfl⟩ | ⟨i, ⟨hi, rfl⟩, ⟨k, hk, rfl, rfl⟩ | ⟨h, rfl⟩⟩
  · refine ev_in rfl rfl (Nat.le_of_ble_eq_true rfl) rfl ?_
    refine wp_run rfl ?_
    refine wp_v1 rfl rfl (Nat.le_of_ble_eq_true rfl) (x5_isSlug_no (d := d + 1) hR h) ?_
    refine wp_run rfl ?_
    refine wp_ifne rfl (fun hz_ => absurd hz_ (fun z => z rfl)) (fun _ => ?_)
    refine wp_run rfl ?_
    exact wp_ret rfl rfl ⟨rfl, rfl⟩
  · have hk24 := hO.r hi
    match k, hk with
    | 0, _ =>
      refine ev_in rfl rfl (Nat.le_of_ble_eq_true rfl) rfl ?_
      refine wp_run rfl ?_
      refine wp_v1 rfl rfl (Nat.le_of_ble_eq_true rfl) (x5_isSlug_yes (d := d + 1) hO hR hi) ?_
      refine wp_run rfl ?_
      refine wp_ifne rfl (fun _ => ?_) (fun hz_ => absurd ((by decide : ¬ (1 : Int32) = 0)) hz_)
      refine wp_run rfl ?_
      refine wp_sw rfl ?_
      refine wp_run rfl ?_
      refine wp_v1 rfl rfl (Nat.le_of_ble_eq_true rfl) (x5_placeOf_A (d := d + 2) hO hR hi) ?_
      refine wp_run rfl ?_
      exact wp_ret rfl rfl ⟨rfl, rfl⟩
    | 1, _ =>
      refine ev_in rfl rfl (Nat.le_of_ble_eq_true rfl) rfl ?_
      refine wp_run rfl ?_
      refine wp_v1 rfl rfl (Nat.le_of_ble_eq_true rfl) (x5_isSlug_yes (d := d + 1) hO hR hi) ?_
      refine wp_run rfl ?_
      refine wp_ifne rfl (fun _ => ?_) (fun hz_ => absurd ((by decide : ¬ (1 : Int32) = 0)) hz_)
      refine wp_run rfl ?_
      refine wp_sw rfl ?_
      refine wp_run rfl ?_
      refine wp_v2 rfl rfl (Nat.le_of_ble_eq_true rfl) (x5_gW (d := d + 2) hO hR hi) ?_
      refine wp_run rfl ?_
      exact wp_ret rfl rfl ⟨rfl, rfl⟩
    | 2, _ =>
      refine ev_in rfl rfl (Nat.le_of_ble_eq_true rfl) rfl ?_
      refine wp_run rfl ?_
      refine wp_v1 rfl rfl (Nat.le_of_ble_eq_true rfl) (x5_isSlug_yes (d := d + 1) hO hR hi) ?_
      refine wp_run rfl ?_
      refine wp_ifne rfl (fun _ => ?_) (fun hz_ => absurd ((by decide : ¬ (1 : Int32) = 0)) hz_)
      refine wp_run rfl ?_
      refine wp_sw rfl ?_
      refine wp_run rfl ?_
      refine wp_v2 rfl rfl (Nat.le_of_ble_eq_true rfl) (x5_gB (d := d + 2) hO hR hi) ?_
      refine wp_run rfl ?_
      exact wp_ret rfl rfl ⟨rfl, rfl⟩
    | 3, _ =>
      show axEv ro (d + 4) kX5_of [.ref 15, .int (nI (aR A i)), .int (nI 3)] (hM c M tl) (some (.int (if aT A (aR A i) = true then 1 else 0))) (hM c M tl)
      refine ev_in rfl rfl (Nat.le_of_ble_eq_true rfl) rfl ?_
      refine wp_run rfl ?_
      refine wp_v1 rfl rfl (Nat.le_of_ble_eq_true rfl) (x5_isSlug_yes (d := d + 1) hO hR hi) ?_
      refine wp_run rfl ?_
      refine wp_ifne rfl (fun _ => ?_) (fun hz_ => absurd ((by decide : ¬ (1 : Int32) = 0)) hz_)
      refine wp_run rfl ?_
      refine wp_sw rfl ?_
      refine wp_run rfl ?_
      refine wp_v2 rfl rfl (Nat.le_of_ble_eq_true rfl) (x5_gT (d := d + 2) hO hR hi) ?_
      refine wp_run rfl ?_
      exact wp_ret rfl rfl ⟨rfl, rfl⟩
    | 4, _ =>
      refine ev_in rfl rfl (Nat.le_of_ble_eq_true rfl) rfl ?_
      refine wp_run rfl ?_
      refine wp_v1 rfl rfl (Nat.le_of_ble_eq_true rfl) (x5_isSlug_yes (d := d + 1) hO hR hi) ?_
      refine wp_run rfl ?_
      refine wp_ifne rfl (fun _ => ?_) (fun hz_ => absurd ((by decide : ¬ (1 : Int32) = 0)) hz_)
      refine wp_run rfl ?_
      refine wp_sw rfl ?_
      refine wp_run rfl ?_
      refine wp_v2 rfl rfl (Nat.le_of_ble_eq_true rfl) (x5_gD (d := d + 2) hO hR hi) ?_
      refine wp_run rfl ?_
      exact wp_ret rfl rfl ⟨rfl, rfl⟩
    | 5, _ =>
      refine ev_in rfl rfl (Nat.le_of_ble_eq_true rfl) rfl ?_
      refine wp_run rfl ?_
      refine wp_v1 rfl rfl (Nat.le_of_ble_eq_true rfl) (x5_isSlug_yes (d := d + 1) hO hR hi) ?_
      refine wp_run rfl ?_
      refine wp_ifne rfl (fun _ => ?_) (fun hz_ => absurd ((by decide : ¬ (1 : Int32) = 0)) hz_)
      refine wp_run rfl ?_
      refine wp_sw rfl ?_
      refine wp_run rfl ?_
      refine wp_v1 rfl rfl (Nat.le_of_ble_eq_true rfl) (x5_neededBy (d := d + 1) hO hR (show aR A i < 32 by omega)) ?_
      refine wp_run rfl ?_
      exact wp_ret rfl rfl ⟨rfl, rfl⟩
    | 6, _ =>
      refine ev_in rfl rfl (Nat.le_of_ble_eq_true rfl) rfl ?_
      refine wp_run rfl ?_
      refine wp_v1 rfl rfl (Nat.le_of_ble_eq_true rfl) (x5_isSlug_yes (d := d + 1) hO hR hi) ?_
      refine wp_run rfl ?_
      refine wp_ifne rfl (fun _ => ?_) (fun hz_ => absurd ((by decide : ¬ (1 : Int32) = 0)) hz_)
      refine wp_run rfl ?_
      refine wp_sw rfl ?_
      refine wp_run rfl ?_
      refine wp_v1 rfl rfl (Nat.le_of_ble_eq_true rfl) (x5_placeOf_A (d := d + 2) hO hR hi) ?_
      refine wp_run rfl ?_
      refine wp_v1 rfl rfl (Nat.le_of_ble_eq_true rfl) (x5_begin (d := d + 1) hO hR (Nat.le_of_lt hi)) ?_
      refine wp_run rfl ?_
      exact wp_ret rfl rfl ⟨rfl, rfl⟩
    | 7, _ =>
      have hbg := aBeg_leW hO (show i ≤ aN A by omega)
      have hpg := hO.pg
      refine ev_in rfl rfl (Nat.le_of_ble_eq_true rfl) rfl ?_
      refine wp_run rfl ?_
      refine wp_v1 rfl rfl (Nat.le_of_ble_eq_true rfl) (x5_isSlug_yes (d := d + 1) hO hR hi) ?_
      refine wp_run rfl ?_
      refine wp_ifne rfl (fun _ => ?_) (fun hz_ => absurd ((by decide : ¬ (1 : Int32) = 0)) hz_)
      refine wp_run rfl ?_
      refine wp_sw rfl ?_
      refine wp_run rfl ?_
      refine wp_v1 rfl rfl (Nat.le_of_ble_eq_true rfl) (x5_placeOf_A (d := d + 2) hO hR hi) ?_
      refine wp_run rfl ?_
      refine wp_v1 rfl rfl (Nat.le_of_ble_eq_true rfl) (x5_begin (d := d + 1) hO hR (Nat.le_of_lt hi)) ?_
      refine wp_run rfl ?_
      refine wp_ald rfl rfl (vp_in_nI (n := 1) (by decide) (by decide)) (mr_pg hR) ?_
      refine wp_run rfl ?_
      refine wp_idiv rfl (nI_ne0 (by omega) (by omega)) (nI_div (show aBeg A i < 2 ^ 31 by omega) (by omega) (by omega)) ?_
      refine wp_run rfl ?_
      exact wp_ret rfl rfl ⟨rfl, rfl⟩
    | 8, _ =>
      refine ev_in rfl rfl (Nat.le_of_ble_eq_true rfl) rfl ?_
      refine wp_run rfl ?_
      refine wp_v1 rfl rfl (Nat.le_of_ble_eq_true rfl) (x5_isSlug_yes (d := d + 1) hO hR hi) ?_
      refine wp_run rfl ?_
      refine wp_ifne rfl (fun _ => ?_) (fun hz_ => absurd ((by decide : ¬ (1 : Int32) = 0)) hz_)
      refine wp_run rfl ?_
      refine wp_sw rfl ?_
      refine wp_run rfl ?_
      refine wp_v1 rfl rfl (Nat.le_of_ble_eq_true rfl) (x5_placeOf_A (d := d + 2) hO hR hi) ?_
      refine wp_run rfl ?_
      refine wp_v1 rfl rfl (Nat.le_of_ble_eq_true rfl) (x5_actAt (d := d + 1) hO hR (Nat.le_of_lt hi)) ?_
      refine wp_run rfl ?_
      exact wp_ret rfl rfl ⟨rfl, rfl⟩
    | 9, _ =>
      refine ev_in rfl rfl (Nat.le_of_ble_eq_true rfl) rfl ?_
      refine wp_run rfl ?_
      refine wp_v1 rfl rfl (Nat.le_of_ble_eq_true rfl) (x5_isSlug_yes (d := d + 1) hO hR hi) ?_
      refine wp_run rfl ?_
      refine wp_ifne rfl (fun _ => ?_) (fun hz_ => absurd ((by decide : ¬ (1 : Int32) = 0)) hz_)
      refine wp_run rfl ?_
      refine wp_sw rfl ?_
      refine wp_run rfl ?_
      refine wp_v1 rfl rfl (Nat.le_of_ble_eq_true rfl) (x5_canTrim (d := d) hO hR hi) ?_
      refine wp_run rfl ?_
      exact wp_ret rfl rfl ⟨rfl, rfl⟩
    | n + 10, hk => exact absurd hk (by omega)
  · have ne : ∀ k, k < 10 → y ≠ nI k := fun k hk => sw_out h (by decide) hk
    refine ev_in rfl rfl (Nat.le_of_ble_eq_true rfl) rfl ?_
    refine wp_run rfl ?_
    refine wp_v1 rfl rfl (Nat.le_of_ble_eq_true rfl) (x5_isSlug_yes (d := d + 1) hO hR hi) ?_
    refine wp_run rfl ?_
    refine wp_ifne rfl (fun _ => ?_) (fun hz_ => absurd ((by decide : ¬ (1 : Int32) = 0)) hz_)
    refine wp_run rfl ?_
    refine wp_sw rfl ?_
    refine axSw_go ⟨ne 0 (by decide), ne 1 (by decide), ne 2 (by decide), ne 3 (by decide), ne 4 (by decide), ne 5 (by decide), ne 6 (by decide), ne 7 (by decide), ne 8 (by decide), ne 9 (by decide), trivial⟩ ?_
    refine wp_run rfl ?_
    exact wp_ret rfl rfl ⟨rfl, rfl⟩
theorem x5_at (hO : aOw A) (hR : MR (mS M) A) (hS : spAt A x r) : axEv ro (d + 2) kX5_at [.ref 15, .int x] (hM c M tl) (some (.int r)) (hM c M tl) := by
  have hn := hO.n
  rcases hS with ⟨h, rfl⟩ | ⟨i, hi, rfl, rfl⟩
  · refine ev_in rfl rfl (Nat.le_of_ble_eq_true rfl) rfl ?_
    refine wp_run rfl ?_
    refine wp_ald rfl rfl (vp_in_nI (n := 0) (by decide) (by decide)) (mr_sz hR) ?_
    refine wp_run rfl ?_
    refine wp_s3 rfl (Nat.le_of_ble_eq_true rfl) (x5_in_no (in_out1 (by omega) h)) ?_
    refine wp_run rfl ?_
    refine wp_ifeq rfl (fun _ => ?_) (fun hz_ => absurd (rfl) hz_)
    refine wp_run rfl ?_
    exact wp_ret rfl rfl ⟨rfl, rfl⟩
  · refine ev_in rfl rfl (Nat.le_of_ble_eq_true rfl) rfl ?_
    refine wp_run rfl ?_
    refine wp_ald rfl rfl (vp_in_nI (n := 0) (by decide) (by decide)) (mr_sz hR) ?_
    refine wp_run rfl ?_
    rw [nI_p1 (by omega)]
    refine wp_s3 rfl (Nat.le_of_ble_eq_true rfl) (x5_in_yes (nI_pos (by omega)) (nI_le (show i ≤ aN A - 1 by omega) (by omega))) ?_
    refine wp_run rfl ?_
    refine wp_ifeq rfl (fun hz_ => absurd hz_ ((by decide : ¬ (1 : Int32) = 0))) (fun _ => ?_)
    refine wp_run rfl ?_
    rw [show (10 : Int32) + nI (i) = nI (10 + (i)) from nI_add 10 (i)]
    refine wp_ald rfl rfl (vp_in_nI ((show 10 + i < 154 by omega)) (by decide)) (by rw [nI_clamp (by omega)]) ?_
    refine wp_run rfl ?_
    rw [mr_rw hR hi]
    exact wp_ret rfl rfl ⟨rfl, rfl⟩
theorem x5_atBeat (hO : aOw A) (hR : MR (mS M) A) (hS : spAtBeat A x r) : axEv ro (d + 3) kX5_atBeat [.ref 15, .int x] (hM c M tl) (some (.int r)) (hM c M tl) := by
  have hn := hO.n
  rcases hS with ⟨h, rfl⟩ | ⟨v, hv, rfl, rfl⟩
  · refine ev_in rfl rfl (Nat.le_of_ble_eq_true rfl) rfl ?_
    refine wp_run rfl ?_
    refine wp_ifge rfl (fun hz_ => absurd hz_ (Int32.not_le.mpr h)) (fun _ => ?_)
    refine wp_run rfl ?_
    exact wp_ret rfl rfl ⟨rfl, rfl⟩
  · have hle := aAtB_le A v
    have fin : axW ro (axEv ro (d + 2)) cdX5_atBeat 42 [some (.ref 15), some (.int (nI v)), some (.int (nI (aAtB A v)))] [.int 0, .ref 16, .int (nI (aAtB A v))] (hM c M tl) (fun r' h' => r' = some (.int (if aAtB A v < aN A then nI (aR A (aAtB A v)) else -6)) ∧ h' = (hM c M tl)) := by
      refine wp_ald rfl rfl (vp_in_nI (n := 0) (by decide) (by decide)) (mr_sz hR) ?_
      refine wp_run rfl ?_
      by_cases e : aAtB A v < aN A
      · rw [if_pos e]
        refine wp_icge rfl (fun hz_ => absurd hz_ (nI_ge e (by omega))) (fun _ => ?_)
        refine wp_run rfl ?_
        rw [show (10 : Int32) + nI (aAtB A v) = nI (10 + (aAtB A v)) from nI_add 10 (aAtB A v)]
        refine wp_ald rfl rfl (vp_in_nI ((show 10 + aAtB A v < 154 by omega)) (by decide)) (by rw [nI_clamp (by omega)]) ?_
        refine wp_run rfl ?_
        rw [mr_rw hR e]
        exact wp_ret rfl rfl ⟨rfl, rfl⟩
      · rw [if_neg e]
        refine wp_icge rfl (fun _ => ?_) (fun hz_ => absurd (nI_le (by omega) (by omega)) hz_)
        refine wp_run rfl ?_
        exact wp_ret rfl rfl ⟨rfl, rfl⟩
    have loop : ∀ m q, q + m = aAtB A v → axW ro (axEv ro (d + 2)) cdX5_atBeat 15 [some (.ref 15), some (.int (nI v)), some (.int (nI q))] [.int 0, .ref 16, .int (nI q)] (hM c M tl) (fun r' h' => r' = some (.int (if aAtB A v < aN A then nI (aR A (aAtB A v)) else -6)) ∧ h' = (hM c M tl)) := by
      intro m
      induction m with
      | zero =>
        intro q e
        have e : q = aAtB A v := by omega
        subst e
        refine wp_ald rfl rfl (vp_in_nI (n := 0) (by decide) (by decide)) (mr_sz hR) ?_
        refine wp_run rfl ?_
        by_cases e : aAtB A v < aN A
        · have h1 : v < aBeg A (aAtB A v + 1) := by
            rcases Nat.lt_or_ge v (aBeg A (aAtB A v + 1)) with z | z
            · exact z
            · have := (aAtB_lt A v (aAtB A v)).mpr ⟨e, z⟩; omega
          have h2 := aBeg_leW hO (show aAtB A v + 1 ≤ aN A by omega)
          refine wp_icge rfl (fun hz_ => absurd hz_ (nI_ge e (by omega))) (fun _ => ?_)
          refine wp_run rfl ?_
          rw [nI_1]
          refine wp_v1 rfl rfl (Nat.le_of_ble_eq_true rfl) (x5_begin hO hR (by omega)) ?_
          refine wp_run rfl ?_
          refine wp_icgt rfl (fun _ => ?_) (fun hz_ => absurd (nI_lt h1 (by omega)) hz_)
          refine wp_run rfl ?_
          exact fin
        · refine wp_icge rfl (fun _ => ?_) (fun hz_ => absurd (nI_le (by omega) (by omega)) hz_)
          refine wp_run rfl ?_
          exact fin
      | succ m ih =>
        intro q e
        obtain ⟨hq, h1⟩ := (aAtB_lt A v q).mp (by omega)
        refine wp_ald rfl rfl (vp_in_nI (n := 0) (by decide) (by decide)) (mr_sz hR) ?_
        refine wp_run rfl ?_
        refine wp_icge rfl (fun hz_ => absurd hz_ (nI_ge hq (by omega))) (fun _ => ?_)
        refine wp_run rfl ?_
        rw [nI_1]
        refine wp_v1 rfl rfl (Nat.le_of_ble_eq_true rfl) (x5_begin hO hR (by omega)) ?_
        refine wp_run rfl ?_
        refine wp_icgt rfl (fun hz_ => absurd hz_ (nI_nlt h1 hv)) (fun _ => ?_)
        refine wp_run rfl ?_
        rw [nI_1]
        exact ih (q + 1) (by omega)
    refine ev_in rfl rfl (Nat.le_of_ble_eq_true rfl) rfl ?_
    refine wp_run rfl ?_
    refine wp_ifge rfl (fun _ => ?_) (fun hz_ => absurd (nI_pos' hv) hz_)
    refine wp_run rfl ?_
    exact loop _ 0 (Nat.zero_add _)
theorem x5_ofAct (hO : aOw A) (hR : MR (mS M) A) (hS : spOfAct A x y r) : axEv ro (d + 7) kX5_ofAct [.ref 15, .int x, .int y] (hM c M tl) (some (.int r)) (hM c M tl) := by
  have hn := hO.n
  have hal := aActs_le A
  have hal1 := aActs_le1 A
  rcases hS with ⟨h, rfl⟩ | ⟨a, ha, rfl, hv⟩
  · refine ev_in rfl rfl (Nat.le_of_ble_eq_true rfl) rfl ?_
    refine wp_run rfl ?_
    refine wp_v0 rfl rfl (Nat.le_of_ble_eq_true rfl) (x5_acts (d := d + 3) hO hR) ?_
    refine wp_run rfl ?_
    refine wp_s3 rfl (Nat.le_of_ble_eq_true rfl) (x5_in_no (d := d + 5) (in_out1 (by omega) h)) ?_
    refine wp_run rfl ?_
    refine wp_ifne rfl (fun hz_ => absurd hz_ (fun z => z rfl)) (fun _ => ?_)
    refine wp_run rfl ?_
    exact wp_ret rfl rfl ⟨rfl, rfl⟩
  · have pre : ∀ Q : Option Value → axH → Prop, axW ro (axEv ro (d + 6)) cdX5_ofAct 17 [some (.ref 15), some (.int (nI a)), some (.int y)] [.int y] (hM c M tl) Q → axW ro (axEv ro (d + 6)) cdX5_ofAct 3 [some (.ref 15), some (.int (nI a)), some (.int y)] [.ref 15, .int 0, .int (nI a)] (hM c M tl) Q := by
      intro Q k
      refine wp_v0 rfl rfl (Nat.le_of_ble_eq_true rfl) (x5_acts (d := d + 3) hO hR) ?_
      refine wp_run rfl ?_
      rw [nI_p1 (by omega)]
      refine wp_s3 rfl (Nat.le_of_ble_eq_true rfl) (x5_in_yes (d := d + 5) (nI_pos (by omega)) (nI_le (show a ≤ aActs A - 1 by omega) (by omega))) ?_
      refine wp_run rfl ?_
      refine wp_ifne rfl (fun _ => ?_) (fun hz_ => absurd ((by decide : ¬ (1 : Int32) = 0)) hz_)
      refine wp_run rfl ?_
      exact k
    rcases hv with ⟨k, hk, rfl, rfl⟩ | ⟨h, rfl⟩
    · match k, hk with
      | 0, _ =>
        refine ev_in rfl rfl (Nat.le_of_ble_eq_true rfl) rfl ?_
        refine wp_run rfl ?_
        refine pre _ ?_
        refine wp_sw rfl ?_
        refine wp_run rfl ?_
        refine wp_v2 rfl rfl (Nat.le_of_ble_eq_true rfl) (x5_sumOf0 (d := d + 2) hO hR (by omega)) ?_
        refine wp_run rfl ?_
        exact wp_ret rfl rfl ⟨rfl, rfl⟩
      | 1, _ =>
        refine ev_in rfl rfl (Nat.le_of_ble_eq_true rfl) rfl ?_
        refine wp_run rfl ?_
        refine pre _ ?_
        refine wp_sw rfl ?_
        refine wp_run rfl ?_
        refine wp_v1 rfl rfl (Nat.le_of_ble_eq_true rfl) (x5_targetOf (d := d + 5) hO hR (by omega)) ?_
        refine wp_run rfl ?_
        exact wp_ret rfl rfl ⟨rfl, rfl⟩
      | 2, _ =>
        refine ev_in rfl rfl (Nat.le_of_ble_eq_true rfl) rfl ?_
        refine wp_run rfl ?_
        refine pre _ ?_
        refine wp_sw rfl ?_
        refine wp_run rfl ?_
        refine wp_v1 rfl rfl (Nat.le_of_ble_eq_true rfl) (x5_off (d := d + 1) hO hR (by omega)) ?_
        refine wp_run rfl ?_
        rw [show zI (aOff A a) + 5000 = zI (aOff A a + 5000) from zI_add (aOff A a) 5000]
        exact wp_ret rfl rfl ⟨rfl, rfl⟩
      | 3, _ =>
        show axEv ro (d + 7) kX5_ofAct [.ref 15, .int (nI a), .int (nI 3)] (hM c M tl) (some (.int (if a < aAct A (aN A) ∧ (aOff A a).natAbs ≤ aSl A then 1 else 0))) (hM c M tl)
        refine ev_in rfl rfl (Nat.le_of_ble_eq_true rfl) rfl ?_
        refine wp_run rfl ?_
        refine pre _ ?_
        refine wp_sw rfl ?_
        refine wp_run rfl ?_
        refine wp_v1 rfl rfl (Nat.le_of_ble_eq_true rfl) (x5_fits (d := d) hO hR (by omega)) ?_
        refine wp_run rfl ?_
        by_cases e : a < aAct A (aN A) ∧ (aOff A a).natAbs ≤ aSl A
        · rw [if_pos e, if_pos ⟨e.2, by omega⟩]
          refine wp_ifeq rfl (fun hz_ => absurd hz_ ((by decide : ¬ (1 : Int32) = 0))) (fun _ => ?_)
          refine wp_run rfl ?_
          exact wp_ret rfl rfl ⟨rfl, rfl⟩
        · rw [if_neg e, if_neg (fun z => e ⟨by omega, z.1⟩)]
          refine wp_ifeq rfl (fun _ => ?_) (fun hz_ => absurd (rfl) hz_)
          refine wp_run rfl ?_
          exact wp_ret rfl rfl ⟨rfl, rfl⟩
      | 4, _ =>
        show axEv ro (d + 7) kX5_ofAct [.ref 15, .int (nI a), .int (nI 4)] (hM c M tl) (some (.int (if aAct A (aN A) ≤ a then 1 else 0))) (hM c M tl)
        refine ev_in rfl rfl (Nat.le_of_ble_eq_true rfl) rfl ?_
        refine wp_run rfl ?_
        refine pre _ ?_
        refine wp_sw rfl ?_
        refine wp_run rfl ?_
        refine wp_v1 rfl rfl (Nat.le_of_ble_eq_true rfl) (x5_isOpen (d := d + 3) hO hR (by omega)) ?_
        refine wp_run rfl ?_
        by_cases e : aAct A (aN A) ≤ a
        · rw [if_pos e, if_pos (by omega)]
          refine wp_ifeq rfl (fun hz_ => absurd hz_ ((by decide : ¬ (1 : Int32) = 0))) (fun _ => ?_)
          refine wp_run rfl ?_
          exact wp_ret rfl rfl ⟨rfl, rfl⟩
        · rw [if_neg e, if_neg (by omega)]
          refine wp_ifeq rfl (fun _ => ?_) (fun hz_ => absurd (rfl) hz_)
          refine wp_run rfl ?_
          exact wp_ret rfl rfl ⟨rfl, rfl⟩
      | 5, _ =>
        refine ev_in rfl rfl (Nat.le_of_ble_eq_true rfl) rfl ?_
        refine wp_run rfl ?_
        refine pre _ ?_
        refine wp_sw rfl ?_
        refine wp_run rfl ?_
        refine wp_v2 rfl rfl (Nat.le_of_ble_eq_true rfl) (x5_sumOf1 (d := d + 2) hO hR (by omega)) ?_
        refine wp_run rfl ?_
        exact wp_ret rfl rfl ⟨rfl, rfl⟩
      | 6, _ =>
        refine ev_in rfl rfl (Nat.le_of_ble_eq_true rfl) rfl ?_
        refine wp_run rfl ?_
        refine pre _ ?_
        refine wp_sw rfl ?_
        refine wp_run rfl ?_
        refine wp_v1 rfl rfl (Nat.le_of_ble_eq_true rfl) (x5_beginOfAct (d := d + 3) hO hR ha) ?_
        refine wp_run rfl ?_
        exact wp_ret rfl rfl ⟨rfl, rfl⟩
      | 7, _ =>
        refine ev_in rfl rfl (Nat.le_of_ble_eq_true rfl) rfl ?_
        refine wp_run rfl ?_
        refine pre _ ?_
        refine wp_sw rfl ?_
        refine wp_run rfl ?_
        refine wp_v2 rfl rfl (Nat.le_of_ble_eq_true rfl) (x5_sumOf2 (d := d + 2) hO hR (by omega)) ?_
        refine wp_run rfl ?_
        exact wp_ret rfl rfl ⟨rfl, rfl⟩
      | n + 8, hk => exact absurd hk (by omega)
    · have ne : ∀ k, k < 8 → y ≠ nI k := fun k hk => sw_out h (by decide) hk
      refine ev_in rfl rfl (Nat.le_of_ble_eq_true rfl) rfl ?_
      refine wp_run rfl ?_
      refine pre _ ?_
      refine wp_sw rfl ?_
      refine axSw_go ⟨ne 0 (by decide), ne 1 (by decide), ne 2 (by decide), ne 3 (by decide), ne 4 (by decide), ne 5 (by decide), ne 6 (by decide), ne 7 (by decide), trivial⟩ ?_
      refine wp_run rfl ?_
      exact wp_ret rfl rfl ⟨rfl, rfl⟩
theorem x5_count (hV : MSt V M) (hS : spCount V x r) : axEv ro (d + 8) kX5_count [.ref 15, .int x] (hM c M tl) (some (.int r)) (hM c M tl) := by
  have hR := hV.1
  have hO := hV.2.1.w
  have hn := hO.n
  rcases hS with ⟨h, rfl⟩ | ⟨k, hk, rfl, rfl⟩
  · have ne : ∀ k, k < 12 → x ≠ nI k := fun k hk => sw_out h (by decide) hk
    refine ev_in rfl rfl (Nat.le_of_ble_eq_true rfl) rfl ?_
    refine wp_run rfl ?_
    refine wp_sw rfl ?_
    refine axSw_go ⟨ne 0 (by decide), ne 1 (by decide), ne 2 (by decide), ne 3 (by decide), ne 4 (by decide), ne 5 (by decide), ne 6 (by decide), ne 7 (by decide), ne 8 (by decide), ne 9 (by decide), ne 10 (by decide), ne 11 (by decide), trivial⟩ ?_
    refine wp_run rfl ?_
    exact wp_ret rfl rfl ⟨rfl, rfl⟩
  · match k, hk with
    | 0, _ =>
      refine ev_in rfl rfl (Nat.le_of_ble_eq_true rfl) rfl ?_
      refine wp_run rfl ?_
      refine wp_sw rfl ?_
      refine wp_run rfl ?_
      refine wp_v0 rfl rfl (Nat.le_of_ble_eq_true rfl) (x5_slugs (d := d + 6) hO hR) ?_
      refine wp_run rfl ?_
      exact wp_ret rfl rfl ⟨rfl, rfl⟩
    | 1, _ =>
      refine ev_in rfl rfl (Nat.le_of_ble_eq_true rfl) rfl ?_
      refine wp_run rfl ?_
      refine wp_sw rfl ?_
      refine wp_run rfl ?_
      refine wp_v0 rfl rfl (Nat.le_of_ble_eq_true rfl) (x5_acts (d := d + 4) hO hR) ?_
      refine wp_run rfl ?_
      exact wp_ret rfl rfl ⟨rfl, rfl⟩
    | 2, _ =>
      refine ev_in rfl rfl (Nat.le_of_ble_eq_true rfl) rfl ?_
      refine wp_run rfl ?_
      refine wp_sw rfl ?_
      refine wp_run rfl ?_
      refine wp_ald rfl rfl (vp_in_nI (n := 0) (by decide) (by decide)) (mr_sz hR) ?_
      refine wp_run rfl ?_
      refine wp_v1 rfl rfl (Nat.le_of_ble_eq_true rfl) (x5_begin (d := d + 5) hO hR (Nat.le_refl _)) ?_
      refine wp_run rfl ?_
      exact wp_ret rfl rfl ⟨rfl, rfl⟩
    | 3, _ =>
      have hbg := aBeg_leW hO (Nat.le_refl (aN (vA V)))
      have hpg := hO.pg
      refine ev_in rfl rfl (Nat.le_of_ble_eq_true rfl) rfl ?_
      refine wp_run rfl ?_
      refine wp_sw rfl ?_
      refine wp_run rfl ?_
      refine wp_ald rfl rfl (vp_in_nI (n := 0) (by decide) (by decide)) (mr_sz hR) ?_
      refine wp_run rfl ?_
      refine wp_v1 rfl rfl (Nat.le_of_ble_eq_true rfl) (x5_begin (d := d + 5) hO hR (Nat.le_refl _)) ?_
      refine wp_run rfl ?_
      refine wp_ald rfl rfl (vp_in_nI (n := 1) (by decide) (by decide)) (mr_pg hR) ?_
      refine wp_run rfl ?_
      rw [nI_add, nI_p1 (by omega)]
      refine wp_ald rfl rfl (vp_in_nI (n := 1) (by decide) (by decide)) (mr_pg hR) ?_
      refine wp_run rfl ?_
      refine wp_idiv rfl (nI_ne0 (by omega) (by omega)) (nI_div (by omega) (by omega) (by omega)) ?_
      refine wp_run rfl ?_
      exact wp_ret rfl rfl ⟨rfl, rfl⟩
    | 4, _ =>
      refine ev_in rfl rfl (Nat.le_of_ble_eq_true rfl) rfl ?_
      refine wp_run rfl ?_
      refine wp_sw rfl ?_
      refine wp_run rfl ?_
      refine wp_v0 rfl rfl (Nat.le_of_ble_eq_true rfl) (x5_allOff (d := d + 1) hO hR) ?_
      refine wp_run rfl ?_
      exact wp_ret rfl rfl ⟨rfl, rfl⟩
    | 5, _ =>
      refine ev_in rfl rfl (Nat.le_of_ble_eq_true rfl) rfl ?_
      refine wp_run rfl ?_
      refine wp_sw rfl ?_
      refine wp_run rfl ?_
      refine wp_v0 rfl rfl (Nat.le_of_ble_eq_true rfl) (x5_fitting (d := d) hO hR) ?_
      refine wp_run rfl ?_
      exact wp_ret rfl rfl ⟨rfl, rfl⟩
    | 6, _ =>
      refine ev_in rfl rfl (Nat.le_of_ble_eq_true rfl) rfl ?_
      refine wp_run rfl ?_
      refine wp_sw rfl ?_
      refine wp_run rfl ?_
      refine wp_v0 rfl rfl (Nat.le_of_ble_eq_true rfl) (x5_longest (d := d + 5) hO hR) ?_
      refine wp_run rfl ?_
      exact wp_ret rfl rfl ⟨rfl, rfl⟩
    | 7, _ =>
      refine ev_in rfl rfl (Nat.le_of_ble_eq_true rfl) rfl ?_
      refine wp_run rfl ?_
      refine wp_sw rfl ?_
      refine wp_run rfl ?_
      rw [show (1 : Int32) + nI 7 - 7 = nI 1 by decide]
      refine wp_ald rfl rfl (vp_in_nI ((show 1 < 154 by decide)) (by decide)) (by rw [nI_clamp (by omega)]) ?_
      refine wp_run rfl ?_
      rw [mr_pg hR]
      exact wp_ret rfl rfl ⟨rfl, rfl⟩
    | 8, _ =>
      refine ev_in rfl rfl (Nat.le_of_ble_eq_true rfl) rfl ?_
      refine wp_run rfl ?_
      refine wp_sw rfl ?_
      refine wp_run rfl ?_
      rw [show (1 : Int32) + nI 8 - 7 = nI 2 by decide]
      refine wp_ald rfl rfl (vp_in_nI ((show 2 < 154 by decide)) (by decide)) (by rw [nI_clamp (by omega)]) ?_
      refine wp_run rfl ?_
      rw [mr_sl hR]
      exact wp_ret rfl rfl ⟨rfl, rfl⟩
    | 9, _ =>
      refine ev_in rfl rfl (Nat.le_of_ble_eq_true rfl) rfl ?_
      refine wp_run rfl ?_
      refine wp_sw rfl ?_
      refine wp_run rfl ?_
      rw [show (1 : Int32) + nI 9 - 7 = nI 3 by decide]
      refine wp_ald rfl rfl (vp_in_nI ((show 3 < 154 by decide)) (by decide)) (by rw [nI_clamp (by omega)]) ?_
      refine wp_run rfl ?_
      rw [mr_tr hR]
      exact wp_ret rfl rfl ⟨rfl, rfl⟩
    | 10, _ =>
      refine ev_in rfl rfl (Nat.le_of_ble_eq_true rfl) rfl ?_
      refine wp_run rfl ?_
      refine wp_sw rfl ?_
      refine wp_run rfl ?_
      exact wp_ret rfl rfl ⟨by rw [hV.2.2.2.2.2.2.1]; rfl, rfl⟩
    | 11, _ =>
      refine ev_in rfl rfl (Nat.le_of_ble_eq_true rfl) rfl ?_
      refine wp_run rfl ?_
      refine wp_sw rfl ?_
      refine wp_run rfl ?_
      exact wp_ret rfl rfl ⟨by rw [hV.2.2.1]; rfl, rfl⟩
    | n + 12, hk => exact absurd hk (by omega)
theorem ms_s (hV : MSt V M) {s' : Nat → Int32} (hR : MR s' (vA V)) {b : Nat → Int32} : MSt V (s', mHs M, mKp M, mSl M, mSv M, b, M.2.2.2.2.2.2) := ⟨hR, hV.2⟩
theorem x5_ifFitted (hV : MSt V M) (hS : spFit (vA V) x r A') : ∃ M', axEv ro (d + 7) kX5_ifFitted [.ref 15, .int x] (hM c M tl) (some (.int r)) (hM c M' tl) ∧ MSt V M' := by
  obtain ⟨s', hev, -⟩ := x5_doFit (ro := ro) (d := d) (c := c) (tl := tl) (M := (mS M, mHs M, mKp M, mSl M, mSv M, va_cpy (mS M) (mBf M) 0 0 154, M.2.2.2.2.2.2)) hV.2.1 hV.1 hS
  have hcp : axEv ro (d + 6) kX5_copy [.ref 16, .int 0, .ref 20, .int 0] (hM c M tl) none (hM c (mS M, mHs M, mKp M, mSl M, mSv M, va_cpy (mS M) (mBf M) 0 0 154, M.2.2.2.2.2.2) tl) := x5_copy (a := 16) (b := 20) (fo := 0) (t := 0) (n := 154) (m := 154) (f := mS M) (g := mBf M) rfl rfl (by decide) (by decide) (by decide) (by decide) (by decide)
  refine ⟨_, ?_, ms_s hV (b := va_cpy (mS M) (mBf M) 0 0 154) (cp2 (g := s') (bf := mBf M) hV.2.1.w hV.1)⟩
  refine ev_in rfl rfl (Nat.le_of_ble_eq_true rfl) rfl ?_
  refine wp_run rfl ?_
  refine wp_s4v rfl (Nat.le_of_ble_eq_true rfl) (hcp) ?_
  refine wp_run rfl ?_
  refine wp_v1 rfl rfl (Nat.le_of_ble_eq_true rfl) (hev) ?_
  refine wp_run rfl ?_
  refine wp_s4v rfl (Nat.le_of_ble_eq_true rfl) (x5_back (d := d + 5) (M := (s', ((mS M, mHs M, mKp M, mSl M, mSv M, va_cpy (mS M) (mBf M) 0 0 154, M.2.2.2.2.2.2) : axMD).2))) ?_
  refine wp_run rfl ?_
  exact wp_ret rfl rfl ⟨rfl, rfl⟩
theorem x5_ifTurned (hV : MSt V M) (hS : spTurned (vA V) x r) : ∃ M', axEv ro (d + 7) kX5_ifTurned [.ref 15, .int x] (hM c M tl) (some (.int r)) (hM c M' tl) ∧ MSt V M' := by
  have hO := hV.2.1
  have hR := hV.1
  have hn := hO.n
  rcases hS with ⟨h, rfl⟩ | ⟨i, ⟨hi, rfl⟩, rfl⟩
  · refine ⟨M, ?_, hV⟩
    refine ev_in rfl rfl (Nat.le_of_ble_eq_true rfl) rfl ?_
    refine wp_run rfl ?_
    refine wp_v1 rfl rfl (Nat.le_of_ble_eq_true rfl) (x5_isSlug_no (d := d + 4) hR h) ?_
    refine wp_run rfl ?_
    refine wp_ifne rfl (fun hz_ => absurd hz_ (fun z => z rfl)) (fun _ => ?_)
    refine wp_run rfl ?_
    exact wp_ret rfl rfl ⟨rfl, rfl⟩
  · have hk := hO.r hi
    have e1 : (1 : Int32) - (if aT (vA V) (aR (vA V) i) = true then 1 else 0) = if aT (vA V) (aR (vA V) i) = true then 0 else 1 := by cases aT (vA V) (aR (vA V) i) <;> rfl
    have e2 : (1 : Int32) - (if aT (vA V) (aR (vA V) i) = true then 0 else 1) = if aT (vA V) (aR (vA V) i) = true then 1 else 0 := by cases aT (vA V) (aR (vA V) i) <;> rfl
    have hR2 := mr_flip hR hn (aR (vA V) i)
    have hg := x5_get (ro := ro) (d := d + 5) (c := c) (M := (upd (mS M) (37 + 5 * aR (vA V) i) (if aT (vA V) (aR (vA V) i) = true then 0 else 1), M.2)) (tl := tl) (w := 3) hk (by decide)
    rw [show mS (upd (mS M) (37 + 5 * aR (vA V) i) (if aT (vA V) (aR (vA V) i) = true then 0 else 1), M.2) (34 + 5 * aR (vA V) i + 3) = (if aT (vA V) (aR (vA V) i) = true then 0 else 1) by rw [show 34 + 5 * aR (vA V) i + 3 = 37 + 5 * aR (vA V) i by omega]; exact pk_us] at hg
    refine ⟨(upd (upd (mS M) (37 + 5 * aR (vA V) i) (if aT (vA V) (aR (vA V) i) = true then 0 else 1)) (37 + 5 * aR (vA V) i) (if aT (vA V) (aR (vA V) i) = true then 1 else 0), M.2), ?_, ?_, hV.2⟩
    · refine ev_in rfl rfl (Nat.le_of_ble_eq_true rfl) rfl ?_
      refine wp_run rfl ?_
      refine wp_v1 rfl rfl (Nat.le_of_ble_eq_true rfl) (x5_isSlug_yes (d := d + 4) hO.w hR hi) ?_
      refine wp_run rfl ?_
      refine wp_ifne rfl (fun _ => ?_) (fun hz_ => absurd ((by decide : ¬ (1 : Int32) = 0)) hz_)
      refine wp_run rfl ?_
      refine wp_v2 rfl rfl (Nat.le_of_ble_eq_true rfl) (x5_gT (d := d + 5) hO.w hR hi) ?_
      refine wp_run rfl ?_
      rw [e1]
      refine wp_v3v rfl rfl (Nat.le_of_ble_eq_true rfl) (x5_l (d := d + 5) 3 hk (by decide) (show 34 + 5 * aR (vA V) i + 3 = 37 + 5 * aR (vA V) i by omega)) ?_
      refine wp_run rfl ?_
      refine wp_v0 rfl rfl (Nat.le_of_ble_eq_true rfl) (x5_allOff (M := (upd (mS M) (37 + 5 * aR (vA V) i) (if aT (vA V) (aR (vA V) i) = true then 0 else 1), M.2)) (A := aFlip (vA V) (aR (vA V) i)) (d := d) (aOk_flip hO _).w hR2) ?_
      refine wp_run rfl ?_
      refine wp_v2 rfl rfl (Nat.le_of_ble_eq_true rfl) (hg) ?_
      refine wp_run rfl ?_
      rw [e2]
      refine wp_v3v rfl rfl (Nat.le_of_ble_eq_true rfl) (x5_l (M := (upd (mS M) (37 + 5 * aR (vA V) i) (if aT (vA V) (aR (vA V) i) = true then 0 else 1), M.2)) (d := d + 5) 3 hk (by decide) (show 34 + 5 * aR (vA V) i + 3 = 37 + 5 * aR (vA V) i by omega)) ?_
      refine wp_run rfl ?_
      exact wp_ret rfl rfl ⟨rfl, rfl⟩
    · refine mr_cong hO.w hR (fun q hq => ?_)
      show upd (upd (mS M) (37 + 5 * aR (vA V) i) (if aT (vA V) (aR (vA V) i) = true then 0 else 1)) (37 + 5 * aR (vA V) i) (if aT (vA V) (aR (vA V) i) = true then 1 else 0) q = mS M q
      by_cases e : q = 37 + 5 * aR (vA V) i
      · rw [e, pk_us]; exact (mr_tn hR hi).symm
      · rw [pk_un e, pk_un e]
theorem x5_places (hV : MSt V M) (hS : spPlaces (vA V) x r) : ∃ M', axEv ro (d + 4) kX5_places [.ref 15, .int x] (hM c M tl) (some (.int r)) (hM c M' tl) ∧ MSt V M' := by
  have hO := hV.2.1
  have hR := hV.1
  have hn := hO.n
  rcases hS with ⟨h, rfl⟩ | ⟨i, ⟨hi, rfl⟩, rfl⟩
  · refine ⟨M, ?_, hV⟩
    refine ev_in rfl rfl (Nat.le_of_ble_eq_true rfl) rfl ?_
    refine wp_run rfl ?_
    refine wp_v1 rfl rfl (Nat.le_of_ble_eq_true rfl) (x5_isSlug_no (d := d + 1) hR h) ?_
    refine wp_run rfl ?_
    refine wp_ifne rfl (fun hz_ => absurd hz_ (fun z => z rfl)) (fun _ => ?_)
    refine wp_run rfl ?_
    exact wp_ret rfl rfl ⟨rfl, rfl⟩
  · have hcp : axEv ro (d + 3) kX5_copy [.ref 16, .int 0, .ref 20, .int 0] (hM c M tl) none (hM c (mS M, mHs M, mKp M, mSl M, mSv M, va_cpy (mS M) (mBf M) 0 0 154, M.2.2.2.2.2.2) tl) := x5_copy (a := 16) (b := 20) (fo := 0) (t := 0) (n := 154) (m := 154) (f := mS M) (g := mBf M) rfl rfl (by decide) (by decide) (by decide) (by decide) (by decide)
    have loop : ∀ m q, q + m = aN (vA V) → ∀ s, MR s (vA V) → ∃ s', MR s' (vA V) ∧ ∀ Q : Option Value → axH → Prop,
        axW ro (axEv ro (d + 3)) cdX5_places 76 [some (.ref 15), some (.int (nI (aR (vA V) i))), some (.int (plS (vA V) i (aN (vA V)))), some (.int (nI (aN (vA V))))] [.int (plS (vA V) i (aN (vA V)))] (hM c (s', ((mS M, mHs M, mKp M, mSl M, mSv M, va_cpy (mS M) (mBf M) 0 0 154, M.2.2.2.2.2.2) : axMD).2) tl) Q →
        axW ro (axEv ro (d + 3)) cdX5_places 33 [some (.ref 15), some (.int (nI (aR (vA V) i))), some (.int (plS (vA V) i q)), some (.int (nI q))] [.int 0, .ref 16, .int (nI q)] (hM c (s, ((mS M, mHs M, mKp M, mSl M, mSv M, va_cpy (mS M) (mBf M) 0 0 154, M.2.2.2.2.2.2) : axMD).2) tl) Q := by
      intro m
      induction m with
      | zero =>
        intro q e s hs
        have e : q = aN (vA V) := by omega
        subst e
        refine ⟨s, hs, fun Q k => ?_⟩
        refine wp_ald rfl rfl (vp_in_nI (n := 0) (by decide) (by decide)) (mr_sz hs) ?_
        refine wp_run rfl ?_
        refine wp_icge rfl (fun _ => ?_) (fun hz_ => absurd (nI_le (Nat.le_refl _) (by omega)) hz_)
        refine wp_run rfl ?_
        exact k
      | succ m ih =>
        intro q e s hs
        have hq : q < aN (vA V) := by omega
        by_cases hm : aLo (vA V) i ≤ q ∧ q < aHi (vA V) i
        · obtain ⟨s1, hev, -⟩ := x5_doMove (ro := ro) (d := d) (c := c) (tl := tl) (M := (s, ((mS M, mHs M, mKp M, mSl M, mSv M, va_cpy (mS M) (mBf M) 0 0 154, M.2.2.2.2.2.2) : axMD).2)) (r := nI i) hO hs (Or.inr ⟨i, q, ⟨hi, rfl⟩, hq, rfl, Or.inr ⟨hm, rfl, rfl⟩⟩)
          obtain ⟨s', h1, h2⟩ := ih (q + 1) (by omega) _ (cp2 (g := s1) (bf := mBf M) hO.w hR)
          refine ⟨s', h1, fun Q k => ?_⟩
          have h2 := h2 Q k
          rw [plS, if_pos hm] at h2
          refine wp_ald rfl rfl (vp_in_nI (n := 0) (by decide) (by decide)) (mr_sz hs) ?_
          refine wp_run rfl ?_
          refine wp_icge rfl (fun hz_ => absurd hz_ (nI_ge hq (by omega))) (fun _ => ?_)
          refine wp_run rfl ?_
          refine wp_v2 rfl rfl (Nat.le_of_ble_eq_true rfl) (hev) ?_
          refine wp_run rfl ?_
          refine wp_iflt rfl (fun hz_ => absurd hz_ (nI_pos (by omega))) (fun _ => ?_)
          refine wp_run rfl ?_
          refine wp_s4v rfl (Nat.le_of_ble_eq_true rfl) (x5_back (d := d + 2) (M := (s1, ((mS M, mHs M, mKp M, mSl M, mSv M, va_cpy (mS M) (mBf M) 0 0 154, M.2.2.2.2.2.2) : axMD).2))) ?_
          refine wp_run rfl ?_
          rw [nI_1]
          exact h2
        · obtain ⟨s1, hev, -⟩ := x5_doMove (ro := ro) (d := d) (c := c) (tl := tl) (M := (s, ((mS M, mHs M, mKp M, mSl M, mSv M, va_cpy (mS M) (mBf M) 0 0 154, M.2.2.2.2.2.2) : axMD).2)) (r := -5) hO hs (Or.inr ⟨i, q, ⟨hi, rfl⟩, hq, rfl, Or.inl ⟨hm, rfl, rfl⟩⟩)
          obtain ⟨s', h1, h2⟩ := ih (q + 1) (by omega) _ (cp2 (g := s1) (bf := mBf M) hO.w hR)
          refine ⟨s', h1, fun Q k => ?_⟩
          have h2 := h2 Q k
          rw [plS, if_neg hm] at h2
          refine wp_ald rfl rfl (vp_in_nI (n := 0) (by decide) (by decide)) (mr_sz hs) ?_
          refine wp_run rfl ?_
          refine wp_icge rfl (fun hz_ => absurd hz_ (nI_ge hq (by omega))) (fun _ => ?_)
          refine wp_run rfl ?_
          refine wp_v2 rfl rfl (Nat.le_of_ble_eq_true rfl) (hev) ?_
          refine wp_run rfl ?_
          refine wp_iflt rfl (fun _ => ?_) (fun hz_ => absurd ((by decide : (-5 : Int32) < 0)) hz_)
          refine wp_run rfl ?_
          rw [Int32.or_zero]
          refine wp_s4v rfl (Nat.le_of_ble_eq_true rfl) (x5_back (d := d + 2) (M := (s1, ((mS M, mHs M, mKp M, mSl M, mSv M, va_cpy (mS M) (mBf M) 0 0 154, M.2.2.2.2.2.2) : axMD).2))) ?_
          refine wp_run rfl ?_
          rw [nI_1]
          exact h2
    obtain ⟨s', h1, h2⟩ := loop _ 0 (Nat.zero_add _) (mS M) hR
    refine ⟨_, ?_, ms_s hV h1 (b := va_cpy (mS M) (mBf M) 0 0 154)⟩
    refine ev_in rfl rfl (Nat.le_of_ble_eq_true rfl) rfl ?_
    refine wp_run rfl ?_
    refine wp_v1 rfl rfl (Nat.le_of_ble_eq_true rfl) (x5_isSlug_yes (d := d + 1) hO.w hR hi) ?_
    refine wp_run rfl ?_
    refine wp_ifne rfl (fun _ => ?_) (fun hz_ => absurd ((by decide : ¬ (1 : Int32) = 0)) hz_)
    refine wp_run rfl ?_
    refine wp_s4v rfl (Nat.le_of_ble_eq_true rfl) (hcp) ?_
    refine wp_run rfl ?_
    refine h2 _ ?_
    exact wp_ret rfl rfl ⟨rfl, rfl⟩
end AX59
