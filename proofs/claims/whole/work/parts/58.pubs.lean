/-! THE REFERENCE: its public changes that record at once; undo, save, restore, wipe. -/
def ndC (s : Nat → Int32) (k q : Nat) : Nat → Int32 := fun j => if 38 ≤ j ∧ j < 38 + 5 * q ∧ j % 5 = 3 then s j &&& (bi k ^^^ (-1)) else s j
theorem ndC_no {s : Nat → Int32} {k q j : Nat} (h : ¬ (38 ≤ j ∧ j < 38 + 5 * q ∧ j % 5 = 3)) : ndC s k q j = s j := if_neg h
theorem ndC_0 (s : Nat → Int32) (k : Nat) : ndC s k 0 = s := by funext j; exact ndC_no (by omega)
theorem ndC_s (s : Nat → Int32) (k q : Nat) : upd (ndC s k q) (38 + 5 * q) (s (38 + 5 * q) &&& (bi k ^^^ (-1))) = ndC s k (q + 1) := by
  funext j
  unfold ndC
  by_cases e : j = 38 + 5 * q
  · rw [e, pk_us, if_pos (by omega)]
  · rw [pk_un e]
    by_cases e2 : 38 ≤ j ∧ j < 38 + 5 * q ∧ j % 5 = 3
    · rw [if_pos e2, if_pos (by omega)]
    · rw [if_neg e2, if_neg (by omega)]
theorem mr_setV {s : Nat → Int32} {A : axAD} (hR : MR s A) {j : Nat} (hj : j < 3) : s (1 + j) = nI (aSetV A j) := by
  match j, hj with
  | 0, _ => exact mr_pg hR
  | 1, _ => exact mr_sl hR
  | 2, _ => exact mr_tr hR
  | n + 3, h => exact absurd h (by omega)
section AX58
variable {ro : axRo} {d : Nat} {h : axH} {c : Nat → axC} {M : axMD} {tl : axH} {A A' : axAD} {V V' : axV} {x y w r : Int32}
theorem x5_rec_s (hV : MSt V M) : ∃ hi', axEv ro (d + 2) kX5_record [.ref 15, .ref 16] (hM c M tl) none (hM c (mS M, hi', nI (min (vK V + 1) 6), M.2.2.2) tl) ∧ ∀ s' A', MR s' A' → aOk A' → MSt (stpN V A') (s', hi', nI (min (vK V + 1) 6), M.2.2.2) := by
  obtain ⟨hR, hO, hk, hk6, hH, hS, hl, hP⟩ := hV
  obtain ⟨hi', hev, hH2⟩ := x5_record (ro := ro) (d := d) (c := c) (tl := tl) (M := M) (rr := 16) (f := mS M) (k := vK V) (H := vH V) (A := vA V) (fun _ _ => rfl) (by decide) hk hk6 hH hR hO
  exact ⟨hi', hev, fun s' A' h1 h2 => ⟨h1, h2, rfl, Nat.min_le_right _ _, hH2, hS, hl, hP⟩⟩
theorem stp_neg (hr : r < 0) : stp V r A' = V := if_pos hr
theorem stp_n {n : Nat} (hn : n < 2 ^ 31) : stp V (nI n) A' = stpN V A' := if_neg (nI_pos hn)
theorem x5_isValue {j : Nat} (hj : j < 3) {b : Int32} (hb : b = 0 ∨ b = 1) (hin : axEv ro (d + 1) kX5_in [.int y, .int (nI (aLs j)), .int (nI (aMs j))] h (some (.int b)) h) : axEv ro (d + 2) kX5_isValue [.int (nI j), .int y] h (some (.int b)) h := by
  have hbn : narrow (axEt 2) (.int b) = .int b := by rcases hb with rfl | rfl <;> rfl
  match j, hj with
  | 0, _ =>
    refine ev_in rfl rfl (Nat.le_of_ble_eq_true rfl) rfl ?_
    refine wp_run rfl ?_
    refine wp_ifne rfl (fun hz_ => absurd hz_ (fun z => z rfl)) (fun _ => ?_)
    refine wp_run rfl ?_
    refine wp_s3 rfl (Nat.le_of_ble_eq_true rfl) (hin) ?_
    refine wp_run rfl ?_
    exact wp_ret rfl hbn ⟨rfl, rfl⟩
  | 1, _ =>
    refine ev_in rfl rfl (Nat.le_of_ble_eq_true rfl) rfl ?_
    refine wp_run rfl ?_
    refine wp_ifne rfl (fun _ => ?_) (fun hz_ => absurd ((by decide : ¬ (1 : Int32) = 0)) hz_)
    refine wp_run rfl ?_
    refine wp_icne rfl (fun hz_ => absurd hz_ (fun z => z rfl)) (fun _ => ?_)
    refine wp_run rfl ?_
    refine wp_s3 rfl (Nat.le_of_ble_eq_true rfl) (hin) ?_
    refine wp_run rfl ?_
    exact wp_ret rfl hbn ⟨rfl, rfl⟩
  | 2, _ =>
    refine ev_in rfl rfl (Nat.le_of_ble_eq_true rfl) rfl ?_
    refine wp_run rfl ?_
    refine wp_ifne rfl (fun _ => ?_) (fun hz_ => absurd ((by decide : ¬ (2 : Int32) = 0)) hz_)
    refine wp_run rfl ?_
    refine wp_icne rfl (fun _ => ?_) (fun hz_ => absurd ((by decide : ¬ (2 : Int32) = 1)) hz_)
    refine wp_run rfl ?_
    refine wp_s3 rfl (Nat.le_of_ble_eq_true rfl) (hin) ?_
    refine wp_run rfl ?_
    exact wp_ret rfl hbn ⟨rfl, rfl⟩
  | n + 3, h => exact absurd h (by omega)
theorem x5_set (hV : MSt V M) (hS : spSet (vA V) x y r A') : ∃ M', axEv ro (d + 3) kX5_set [.ref 15, .int x, .int y] (hM c M tl) (some (.int r)) (hM c M' tl) ∧ MSt (stp V r A') M' := by
  have hO := hV.2.1
  have hR := hV.1
  rcases hS with ⟨j, v, hj, rfl, rfl, h1, h2, rfl, rfl⟩ | ⟨h, rfl, -⟩
  · have hb : aSetV (vA V) j < 2 ^ 31 := by
      have := hO.pg; have := hO.sl; have := hO.tr
      unfold aSetV; split
      · omega
      · split <;> omega
    have hl : aLs j < 2 ^ 31 ∧ aMs j < 2 ^ 31 := by unfold aLs aMs; constructor <;> (split <;> (try split) <;> omega)
    obtain ⟨hi', hev, hms⟩ := x5_rec_s (ro := ro) (d := d) (c := c) (tl := tl) hV
    rw [stp_n hb]
    refine ⟨_, ?_, hms _ _ (mr_setS hR hj) (aOk_setS hO hj h1 h2)⟩
    refine ev_in rfl rfl (Nat.le_of_ble_eq_true rfl) rfl ?_
    refine wp_run rfl ?_
    refine wp_s3 rfl (Nat.le_of_ble_eq_true rfl) (x5_in_yes (d := d + 1) (nI_pos (by omega)) (nI_le (b := 2) (by omega) (by omega))) ?_
    refine wp_run rfl ?_
    refine wp_ifeq rfl (fun hz_ => absurd hz_ ((by decide : ¬ (1 : Int32) = 0))) (fun _ => ?_)
    refine wp_run rfl ?_
    refine wp_s2 rfl (Nat.le_of_ble_eq_true rfl) (x5_isValue hj (Or.inr rfl) (x5_in_yes (nI_nlt h1 (by omega)) (nI_le h2 hl.2))) ?_
    refine wp_run rfl ?_
    refine wp_ifne rfl (fun _ => ?_) (fun hz_ => absurd ((by decide : ¬ (1 : Int32) = 0)) hz_)
    refine wp_run rfl ?_
    refine wp_v1v rfl rfl (Nat.le_of_ble_eq_true rfl) (hev) ?_
    refine wp_run rfl ?_
    rw [show (1 : Int32) + nI j = nI (1 + j) from nI_add 1 j]
    refine wp_ald rfl rfl (vp_in_nI ((show 1 + j < 154 by omega)) (by decide)) (by rw [nI_clamp (by omega)]) ?_
    refine wp_run rfl ?_
    rw [show (1 : Int32) + nI j = nI (1 + j) from nI_add 1 j]
    refine wp_ast (h1 := (hM c (upd (mS M) (1 + j) (nI v), hi', nI (min (vK V + 1) 6), M.2.2.2) tl)) rfl rfl (vp_in_nI (show 1 + j < 154 by omega) (by decide)) rfl (by rw [nI_clamp (by omega)]; rfl) ?_
    refine wp_run rfl ?_
    exact wp_ret rfl rfl ⟨by rw [← mr_setV hR hj], rfl⟩
  · rw [stp_neg (by decide)]
    refine ⟨M, ?_, hV⟩
    rcases sp_int x 3 (by decide) with hx | ⟨j, hj, rfl⟩
    · refine ev_in rfl rfl (Nat.le_of_ble_eq_true rfl) rfl ?_
      refine wp_run rfl ?_
      refine wp_s3 rfl (Nat.le_of_ble_eq_true rfl) (x5_in_no (d := d + 1) (in_out (n := 2) (by decide) hx)) ?_
      refine wp_run rfl ?_
      refine wp_ifeq rfl (fun _ => ?_) (fun hz_ => absurd (rfl) hz_)
      refine wp_run rfl ?_
      exact wp_ret rfl rfl ⟨rfl, rfl⟩
    · have hl : aLs j < 2 ^ 31 ∧ aMs j < 2 ^ 31 := by unfold aLs aMs; constructor <;> (split <;> (try split) <;> omega)
      rcases sp_rng y (aLs j) (aMs j) hl.1 hl.2 with hy | ⟨v, h1, h2, rfl⟩
      · refine ev_in rfl rfl (Nat.le_of_ble_eq_true rfl) rfl ?_
        refine wp_run rfl ?_
        refine wp_s3 rfl (Nat.le_of_ble_eq_true rfl) (x5_in_yes (d := d + 1) (nI_pos (by omega)) (nI_le (b := 2) (by omega) (by omega))) ?_
        refine wp_run rfl ?_
        refine wp_ifeq rfl (fun hz_ => absurd hz_ ((by decide : ¬ (1 : Int32) = 0))) (fun _ => ?_)
        refine wp_run rfl ?_
        refine wp_s2 rfl (Nat.le_of_ble_eq_true rfl) (x5_isValue hj (Or.inl rfl) (x5_in_no hy)) ?_
        refine wp_run rfl ?_
        refine wp_ifne rfl (fun hz_ => absurd hz_ (fun z => z rfl)) (fun _ => ?_)
        refine wp_run rfl ?_
        exact wp_ret rfl rfl ⟨rfl, rfl⟩
      · exact absurd h2 (h j v hj rfl rfl h1)
theorem x5_target (hV : MSt V M) (hS : spTarget (vA V) x y r A') : ∃ M', axEv ro (d + 3) kX5_target [.ref 15, .int x, .int y] (hM c M tl) (some (.int r)) (hM c M' tl) ∧ MSt (stp V r A') M' := by
  have hO := hV.2.1
  have hR := hV.1
  rcases hS with ⟨a, v, ha, rfl, h1, h2, rfl, rfl, rfl⟩ | ⟨hx, rfl, -⟩ | ⟨a, ha, rfl, hy, rfl, -⟩
  · have hb := hO.tg ha
    obtain ⟨hi', hev, hms⟩ := x5_rec_s (ro := ro) (d := d) (c := c) (tl := tl) hV
    rw [stp_n (by omega)]
    refine ⟨_, ?_, hms _ _ (mr_setT hR ha) (aOk_setT hO h1 h2)⟩
    refine ev_in rfl rfl (Nat.le_of_ble_eq_true rfl) rfl ?_
    refine wp_run rfl ?_
    refine wp_s3 rfl (Nat.le_of_ble_eq_true rfl) (x5_in_yes (d := d + 1) (nI_pos (by omega)) (nI_le (b := 5) (by omega) (by omega))) ?_
    refine wp_run rfl ?_
    refine wp_ifne rfl (fun _ => ?_) (fun hz_ => absurd ((by decide : ¬ (1 : Int32) = 0)) hz_)
    refine wp_run rfl ?_
    refine wp_s3 rfl (Nat.le_of_ble_eq_true rfl) (x5_in_yes (d := d + 1) (nI_nlt (b := 1) h1 (by omega)) (nI_le (b := 999) h2 (by omega))) ?_
    refine wp_run rfl ?_
    refine wp_ifne rfl (fun _ => ?_) (fun hz_ => absurd ((by decide : ¬ (1 : Int32) = 0)) hz_)
    refine wp_run rfl ?_
    refine wp_v1v rfl rfl (Nat.le_of_ble_eq_true rfl) (hev) ?_
    refine wp_run rfl ?_
    rw [show (4 : Int32) + nI a = nI (4 + a) from nI_add 4 a]
    refine wp_ald rfl rfl (vp_in_nI ((show 4 + a < 154 by omega)) (by decide)) (by rw [nI_clamp (by omega)]) ?_
    refine wp_run rfl ?_
    rw [show (4 : Int32) + nI a = nI (4 + a) from nI_add 4 a]
    refine wp_ast (h1 := (hM c (upd (mS M) (4 + a) (nI v), hi', nI (min (vK V + 1) 6), M.2.2.2) tl)) rfl rfl (vp_in_nI (show 4 + a < 154 by omega) (by decide)) rfl (by rw [nI_clamp (by omega)]; rfl) ?_
    refine wp_run rfl ?_
    exact wp_ret rfl rfl ⟨by rw [← mr_tg hR ha], rfl⟩
  · rw [stp_neg (by decide)]
    refine ⟨M, ?_, hV⟩
    refine ev_in rfl rfl (Nat.le_of_ble_eq_true rfl) rfl ?_
    refine wp_run rfl ?_
    refine wp_s3 rfl (Nat.le_of_ble_eq_true rfl) (x5_in_no (d := d + 1) (in_out (n := 5) (by decide) hx)) ?_
    refine wp_run rfl ?_
    refine wp_ifne rfl (fun hz_ => absurd hz_ (fun z => z rfl)) (fun _ => ?_)
    refine wp_run rfl ?_
    exact wp_ret rfl rfl ⟨rfl, rfl⟩
  · rw [stp_neg (by decide)]
    refine ⟨M, ?_, hV⟩
    refine ev_in rfl rfl (Nat.le_of_ble_eq_true rfl) rfl ?_
    refine wp_run rfl ?_
    refine wp_s3 rfl (Nat.le_of_ble_eq_true rfl) (x5_in_yes (d := d + 1) (nI_pos (by omega)) (nI_le (b := 5) (by omega) (by omega))) ?_
    refine wp_run rfl ?_
    refine wp_ifne rfl (fun _ => ?_) (fun hz_ => absurd ((by decide : ¬ (1 : Int32) = 0)) hz_)
    refine wp_run rfl ?_
    refine wp_s3 rfl (Nat.le_of_ble_eq_true rfl) (x5_in_no (d := d + 1) hy) ?_
    refine wp_run rfl ?_
    refine wp_ifne rfl (fun hz_ => absurd hz_ (fun z => z rfl)) (fun _ => ?_)
    refine wp_run rfl ?_
    exact wp_ret rfl rfl ⟨rfl, rfl⟩
theorem x5_drop (hV : MSt V M) (hS : spDrop (vA V) x r A') : ∃ M', axEv ro (d + 3) kX5_drop [.ref 15, .int x] (hM c M tl) (some (.int r)) (hM c M' tl) ∧ MSt (stp V r A') M' := by
  have hO := hV.2.1
  have hR := hV.1
  have hn := hO.n
  rcases hS with ⟨hx, rfl, -⟩ | ⟨p, ⟨hp, rfl⟩, rfl, rfl⟩
  · rw [stp_neg (by decide)]
    refine ⟨M, ?_, hV⟩
    refine ev_in rfl rfl (Nat.le_of_ble_eq_true rfl) rfl ?_
    refine wp_run rfl ?_
    refine wp_v1 rfl rfl (Nat.le_of_ble_eq_true rfl) (x5_isSlug_no (d := d) hR hx) ?_
    refine wp_run rfl ?_
    refine wp_ifne rfl (fun hz_ => absurd hz_ (fun z => z rfl)) (fun _ => ?_)
    refine wp_run rfl ?_
    exact wp_ret rfl rfl ⟨rfl, rfl⟩
  · obtain ⟨hi', hev, hms⟩ := x5_rec_s (ro := ro) (d := d) (c := c) (tl := tl) hV
    rw [stp_n (by omega)]
    have hk := hO.r hp
    generalize hs3 : upd (upd (tkF (upd (mS M) 0 (nI (aN (vA V) - 1))) (10 + p) (10 + aN (vA V))) (34 + 5 * aR (vA V) p) 0) (38 + 5 * aR (vA V) p) 0 = s3
    have f1 : ∀ j, j < 10 → s3 j = upd (mS M) 0 (nI (aN (vA V) - 1)) j := fun j hj => by rw [← hs3, pk_un (by omega), pk_un (by omega), tkF_lo _ (by omega)]
    have f2 : ∀ i, i < 24 → s3 (10 + i) = tkF (upd (mS M) 0 (nI (aN (vA V) - 1))) (10 + p) (10 + aN (vA V)) (10 + i) := fun i hi => by rw [← hs3, pk_un (by omega), pk_un (by omega)]
    have f3 : s3 (34 + 5 * aR (vA V) p) = 0 := by rw [← hs3, pk_un (by omega), pk_us]
    have f4 : ∀ k u, k ≠ aR (vA V) p → u < 5 → s3 (34 + 5 * k + u) = mS M (34 + 5 * k + u) := fun k u hk2 hu => by rw [← hs3, pk_un (by omega), pk_un (by omega), tkF_lo _ (by omega), pk_un (by omega)]
    have hR2 : MR (ndC s3 (aR (vA V) p) 24) (aDrop (vA V) p) := by
      refine mr_drop hO.w hR hp ?_ (fun j h1 h2 => ?_) (fun i hi => ?_) ?_ (fun k u hk2 hu => ?_) (fun k hk2 hk3 => ?_)
      · rw [ndC_no (by omega), f1 0 (by decide), pk_us]
      · rw [ndC_no (by omega), f1 j h2, pk_un (by omega)]
      · rw [ndC_no (by omega), f2 i (by omega), tk_off]
        exact tk_row (fun k hk => by rw [pk_un (by omega)]; exact (mr_rw hR hk :)) hi
      · rw [ndC_no (by omega), f3]
      · rw [ndC_no (by omega), f4 k u hk2 (by omega)]
      · unfold ndC
        have := f4 k 4 hk3 (by decide)
        rw [show 34 + 5 * k + 4 = 38 + 5 * k by omega] at this
        rw [if_pos (by omega), this]
    refine ⟨_, ?_, hms _ _ hR2 (aOk_drop hO hp)⟩
    have loop : ∀ m q, q + m = 24 → axW ro (axEv ro (d + 2)) cdX5_drop 46 [some (.ref 15), some (.int (nI (aR (vA V) p))), some (.int (nI q))] [.int 24, .int (nI q)] (hM c (ndC s3 (aR (vA V) p) q, hi', nI (min (vK V + 1) 6), M.2.2.2) tl) (fun r' h' => r' = some (.int (nI (aN (vA V) - 1))) ∧ h' = (hM c (ndC s3 (aR (vA V) p) 24, hi', nI (min (vK V + 1) 6), M.2.2.2) tl)) := by
      intro m
      induction m with
      | zero =>
        intro q e
        have e : q = 24 := by omega
        subst e
        refine wp_icge rfl (fun _ => ?_) (fun hz_ => absurd (nI_le (b := 24) (Nat.le_refl 24) (by decide)) hz_)
        refine wp_run rfl ?_
        refine wp_ald rfl rfl (vp_in_nI (n := 0) (by decide) (by decide)) (show ndC s3 (aR (vA V) p) 24 0 = nI (aN (vA V) - 1) by rw [ndC_no (by omega), f1 0 (by decide), pk_us]) ?_
        refine wp_run rfl ?_
        exact wp_ret rfl rfl ⟨rfl, rfl⟩
      | succ m ih =>
        intro q e
        have hq : q < 24 := by omega
        have hg := x5_get (ro := ro) (d := d + 1) (c := c) (M := (ndC s3 (aR (vA V) p) q, hi', nI (min (vK V + 1) 6), M.2.2.2)) (tl := tl) (w := 4) hq (by decide)
        rw [show mS (ndC s3 (aR (vA V) p) q, hi', nI (min (vK V + 1) 6), M.2.2.2) (34 + 5 * q + 4) = s3 (38 + 5 * q) by rw [show 34 + 5 * q + 4 = 38 + 5 * q by omega]; exact ndC_no (by omega)] at hg
        have hl : axEv ro (d + 2) kX5_lay [.ref 15, .int (nI q), .int 4, .int (s3 (38 + 5 * q) &&& (bi (aR (vA V) p) ^^^ (-1)))] (hM c (ndC s3 (aR (vA V) p) q, hi', nI (min (vK V + 1) 6), M.2.2.2) tl) none (hM c (ndC s3 (aR (vA V) p) (q + 1), hi', nI (min (vK V + 1) 6), M.2.2.2) tl) := by
          rw [← ndC_s]
          exact x5_l (M := (ndC s3 (aR (vA V) p) q, hi', nI (min (vK V + 1) 6), M.2.2.2)) (d := d + 1) 4 hq (by decide) (show 34 + 5 * q + 4 = 38 + 5 * q by omega)
        refine wp_icge rfl (fun hz_ => absurd hz_ (nlt24 hq)) (fun _ => ?_)
        refine wp_run rfl ?_
        refine wp_v2 rfl rfl (Nat.le_of_ble_eq_true rfl) (hg) ?_
        refine wp_run rfl ?_
        rw [show (1 : Int32) <<< (nI (aR (vA V) p) &&& 31) = bi (aR (vA V) p) from rfl]
        refine wp_v3v rfl rfl (Nat.le_of_ble_eq_true rfl) (hl) ?_
        refine wp_run rfl ?_
        rw [nI_1]
        exact ih (q + 1) (by omega)
    have h24 := loop 24 0 (by decide)
    rw [ndC_0, ← hs3] at h24
    refine ev_in rfl rfl (Nat.le_of_ble_eq_true rfl) rfl ?_
    refine wp_run rfl ?_
    refine wp_v1 rfl rfl (Nat.le_of_ble_eq_true rfl) (x5_isSlug_yes (d := d) hO.w hR hp) ?_
    refine wp_run rfl ?_
    refine wp_ifne rfl (fun _ => ?_) (fun hz_ => absurd ((by decide : ¬ (1 : Int32) = 0)) hz_)
    refine wp_run rfl ?_
    refine wp_v1v rfl rfl (Nat.le_of_ble_eq_true rfl) (hev) ?_
    refine wp_run rfl ?_
    refine wp_v1 rfl rfl (Nat.le_of_ble_eq_true rfl) (x5_placeOf_A (M := (mS M, hi', nI (min (vK V + 1) 6), M.2.2.2)) (d := d + 1) hO.w hR hp) ?_
    refine wp_run rfl ?_
    refine wp_v1v rfl rfl (Nat.le_of_ble_eq_true rfl) (x5_takeOut (M := (mS M, hi', nI (min (vK V + 1) 6), M.2.2.2)) (d := d + 1) (mr_sz hR) hn hp) ?_
    refine wp_run rfl ?_
    refine wp_v3v rfl rfl (Nat.le_of_ble_eq_true rfl) (x5_l (d := d + 1) 0 hk (by decide) (Nat.add_zero _)) ?_
    refine wp_run rfl ?_
    refine wp_v3v rfl rfl (Nat.le_of_ble_eq_true rfl) (x5_l (d := d + 1) 4 hk (by decide) (show 34 + 5 * aR (vA V) p + 4 = 38 + 5 * aR (vA V) p by omega)) ?_
    refine wp_run rfl ?_
    rw [hs3] at h24 ⊢
    exact h24
theorem x5_turn (hV : MSt V M) (hS : spTurn (vA V) x r A') : ∃ M', axEv ro (d + 3) kX5_turn [.ref 15, .int x] (hM c M tl) (some (.int r)) (hM c M' tl) ∧ MSt (stp V r A') M' := by
  have hO := hV.2.1
  have hR := hV.1
  have hn := hO.n
  rcases hS with ⟨hx, rfl, -⟩ | ⟨p, ⟨hp, rfl⟩, rfl, rfl⟩
  · rw [stp_neg (by decide)]
    refine ⟨M, ?_, hV⟩
    refine ev_in rfl rfl (Nat.le_of_ble_eq_true rfl) rfl ?_
    refine wp_run rfl ?_
    refine wp_v1 rfl rfl (Nat.le_of_ble_eq_true rfl) (x5_isSlug_no (d := d) hR hx) ?_
    refine wp_run rfl ?_
    refine wp_ifne rfl (fun hz_ => absurd hz_ (fun z => z rfl)) (fun _ => ?_)
    refine wp_run rfl ?_
    exact wp_ret rfl rfl ⟨rfl, rfl⟩
  · obtain ⟨hi', hev, hms⟩ := x5_rec_s (ro := ro) (d := d) (c := c) (tl := tl) hV
    have hk := hO.r hp
    have hstp : stp V (if aT (vA V) (aR (vA V) p) = true then 0 else 1) (aFlip (vA V) (aR (vA V) p)) = stpN V (aFlip (vA V) (aR (vA V) p)) := if_neg (by split <;> decide)
    rw [hstp]
    refine ⟨_, ?_, hms _ _ (mr_flip hR hn (aR (vA V) p)) (aOk_flip hO _)⟩
    have e1 : (1 : Int32) - (if aT (vA V) (aR (vA V) p) = true then 1 else 0) = if aT (vA V) (aR (vA V) p) = true then 0 else 1 := by cases aT (vA V) (aR (vA V) p) <;> rfl
    have hg := x5_get (ro := ro) (d := d + 1) (c := c) (M := (upd (mS M) (37 + 5 * aR (vA V) p) (if aT (vA V) (aR (vA V) p) = true then 0 else 1), hi', nI (min (vK V + 1) 6), M.2.2.2)) (tl := tl) (w := 3) hk (by decide)
    rw [show mS (upd (mS M) (37 + 5 * aR (vA V) p) (if aT (vA V) (aR (vA V) p) = true then 0 else 1), hi', nI (min (vK V + 1) 6), M.2.2.2) (34 + 5 * aR (vA V) p + 3) = (if aT (vA V) (aR (vA V) p) = true then 0 else 1) by rw [show 34 + 5 * aR (vA V) p + 3 = 37 + 5 * aR (vA V) p by omega]; exact pk_us] at hg
    refine ev_in rfl rfl (Nat.le_of_ble_eq_true rfl) rfl ?_
    refine wp_run rfl ?_
    refine wp_v1 rfl rfl (Nat.le_of_ble_eq_true rfl) (x5_isSlug_yes (d := d) hO.w hR hp) ?_
    refine wp_run rfl ?_
    refine wp_ifne rfl (fun _ => ?_) (fun hz_ => absurd ((by decide : ¬ (1 : Int32) = 0)) hz_)
    refine wp_run rfl ?_
    refine wp_v1v rfl rfl (Nat.le_of_ble_eq_true rfl) (hev) ?_
    refine wp_run rfl ?_
    refine wp_v2 rfl rfl (Nat.le_of_ble_eq_true rfl) (x5_gT (M := (mS M, hi', nI (min (vK V + 1) 6), M.2.2.2)) (d := d + 1) hO.w hR hp) ?_
    refine wp_run rfl ?_
    rw [e1]
    refine wp_v3v rfl rfl (Nat.le_of_ble_eq_true rfl) (x5_l (M := (mS M, hi', nI (min (vK V + 1) 6), M.2.2.2)) (d := d + 1) 3 hk (by decide) (show 34 + 5 * aR (vA V) p + 3 = 37 + 5 * aR (vA V) p by omega)) ?_
    refine wp_run rfl ?_
    refine wp_v2 rfl rfl (Nat.le_of_ble_eq_true rfl) (hg) ?_
    refine wp_run rfl ?_
    exact wp_ret rfl rfl ⟨rfl, rfl⟩
theorem x5_restoreTail (hV : MSt V M) (hS : spGive (vA V) x r A') : ∃ M', axEv ro (d + 3) kX5_restoreTail [.ref 15, .int x] (hM c M tl) (some (.int r)) (hM c M' tl) ∧ MSt (stp V r A') M' := by
  have hO := hV.2.1
  have hR := hV.1
  have hn := hO.n
  rcases hS with ⟨hx, rfl, -⟩ | ⟨p, ⟨hp, rfl⟩, rfl, rfl⟩
  · rw [stp_neg (by decide)]
    refine ⟨M, ?_, hV⟩
    refine ev_in rfl rfl (Nat.le_of_ble_eq_true rfl) rfl ?_
    refine wp_run rfl ?_
    refine wp_v1 rfl rfl (Nat.le_of_ble_eq_true rfl) (x5_isSlug_no (d := d) hR hx) ?_
    refine wp_run rfl ?_
    refine wp_ifne rfl (fun hz_ => absurd hz_ (fun z => z rfl)) (fun _ => ?_)
    refine wp_run rfl ?_
    exact wp_ret rfl rfl ⟨rfl, rfl⟩
  · obtain ⟨hi', hev, hms⟩ := x5_rec_s (ro := ro) (d := d) (c := c) (tl := tl) hV
    have hk := hO.r hp
    have hb := hO.b hp
    rw [stp_n (by omega)]
    refine ⟨_, ?_, hms _ _ (mr_bts hR hn (aR (vA V) p) (aW (vA V) (aR (vA V) p))) (aOk_bts hO hp (by omega) (Nat.le_refl _))⟩
    refine ev_in rfl rfl (Nat.le_of_ble_eq_true rfl) rfl ?_
    refine wp_run rfl ?_
    refine wp_v1 rfl rfl (Nat.le_of_ble_eq_true rfl) (x5_isSlug_yes (d := d) hO.w hR hp) ?_
    refine wp_run rfl ?_
    refine wp_ifne rfl (fun _ => ?_) (fun hz_ => absurd ((by decide : ¬ (1 : Int32) = 0)) hz_)
    refine wp_run rfl ?_
    refine wp_v1v rfl rfl (Nat.le_of_ble_eq_true rfl) (hev) ?_
    refine wp_run rfl ?_
    refine wp_v2 rfl rfl (Nat.le_of_ble_eq_true rfl) (x5_gW (M := (mS M, hi', nI (min (vK V + 1) 6), M.2.2.2)) (d := d + 1) hO.w hR hp) ?_
    refine wp_run rfl ?_
    refine wp_v2 rfl rfl (Nat.le_of_ble_eq_true rfl) (x5_gB (M := (mS M, hi', nI (min (vK V + 1) 6), M.2.2.2)) (d := d + 1) hO.w hR hp) ?_
    refine wp_run rfl ?_
    rw [pk_sub (by omega)]
    refine wp_v2 rfl rfl (Nat.le_of_ble_eq_true rfl) (x5_gW (M := (mS M, hi', nI (min (vK V + 1) 6), M.2.2.2)) (d := d + 1) hO.w hR hp) ?_
    refine wp_run rfl ?_
    refine wp_v3v rfl rfl (Nat.le_of_ble_eq_true rfl) (x5_l (M := (mS M, hi', nI (min (vK V + 1) 6), M.2.2.2)) (d := d + 1) 2 hk (by decide) (show 34 + 5 * aR (vA V) p + 2 = 36 + 5 * aR (vA V) p by omega)) ?_
    refine wp_run rfl ?_
    exact wp_ret rfl rfl ⟨rfl, rfl⟩
theorem x5_undo (hV : MSt V M) (hS : spUndo V r V') : ∃ M', axEv ro (d + 2) kX5_undo [.ref 15] (hM c M tl) (some (.int r)) (hM c M' tl) ∧ MSt V' M' := by
  rcases hS with ⟨h1, rfl, rfl⟩ | ⟨h1, rfl, rfl⟩
  · refine ⟨M, ?_, hV⟩
    refine ev_in rfl rfl (Nat.le_of_ble_eq_true rfl) rfl ?_
    refine wp_run rfl ?_
    refine wp_ifne rfl (fun hz_ => absurd hz_ (fun z => z (by rw [hV.2.2.1, h1]; rfl))) (fun _ => ?_)
    refine wp_run rfl ?_
    exact wp_ret rfl rfl ⟨rfl, rfl⟩
  · obtain ⟨hR, hO, hk, hk6, hH, hS, hl, hP⟩ := hV
    obtain ⟨q1, q2⟩ := hH 0 h1
    refine ⟨(va_cpy (mHs M) (mS M) (154 * (vK V - 1)) 0 154, mHs M, nI (vK V - 1), M.2.2.2), ?_, ?_, q2, rfl, by show vK V - 1 ≤ 6; omega, fun j hj => ?_, hS, hl, hP⟩
    · have hcp : axEv ro (d + 1) kX5_copy [.ref 17, .int (nI (154 * (vK V - 1))), .ref 16, .int 0] (hM c (mS M, mHs M, nI (vK V - 1), M.2.2.2) tl) none (hM c (va_cpy (mHs M) (mS M) (154 * (vK V - 1)) 0 154, mHs M, nI (vK V - 1), M.2.2.2) tl) := x5_copy (a := 17) (b := 16) (t := 0) (n := 924) (m := 154) (f := mHs M) (g := mS M) rfl rfl (by decide) (by omega) (by decide) (by decide) (by decide)
      refine ev_in rfl rfl (Nat.le_of_ble_eq_true rfl) rfl ?_
      refine wp_run rfl ?_
      refine wp_ifne rfl (fun _ => ?_) (fun hz_ => absurd (by rw [hk]; exact nI_ne0 h1 (by omega)) hz_)
      refine wp_run rfl ?_
      rw [hk, nI_p1 h1]
      refine wp_putf (h1 := (hM c (mS M, mHs M, nI (vK V - 1), M.2.2.2) tl)) rfl rfl (Nat.le_of_ble_eq_true rfl) ⟨rfl, rfl, fun _ hz_ => by cases hz_⟩ rfl ?_
      refine wp_run rfl ?_
      rw [show (154 : Int32) * nI (vK V - 1) = nI (154 * (vK V - 1)) from nI_mul 154 _]
      refine wp_s4v rfl (Nat.le_of_ble_eq_true rfl) (hcp) ?_
      refine wp_run rfl ?_
      exact wp_ret rfl rfl ⟨rfl, rfl⟩
    · refine mr_cong q2.w q1 (fun q hq => ?_)
      show va_cpy (mHs M) (mS M) (154 * (vK V - 1)) 0 154 q = mHs M (154 * (vK V - 1 - 0) + q)
      rw [pk_cpy_in (by omega) (by omega)]
      rfl
    · have hj : j < vK V - 1 := hj
      obtain ⟨p1, p2⟩ := hH (j + 1) (by omega)
      refine ⟨mr_cong p2.w p1 (fun q hq => ?_), p2⟩
      show mHs M (154 * (vK V - 1 - 1 - j) + q) = mHs M (154 * (vK V - 1 - (j + 1)) + q)
      congr 1; omega
theorem x5_save (hV : MSt V M) (hS : spSave V x r V') : ∃ M', axEv ro (d + 2) kX5_save [.ref 15, .int x] (hM c M tl) (some (.int r)) (hM c M' tl) ∧ MSt V' M' := by
  rcases hS with ⟨hx, rfl, rfl⟩ | ⟨i, hi, rfl, rfl, rfl⟩
  · refine ⟨M, ?_, hV⟩
    refine ev_in rfl rfl (Nat.le_of_ble_eq_true rfl) rfl ?_
    refine wp_run rfl ?_
    refine wp_s3 rfl (Nat.le_of_ble_eq_true rfl) (x5_in_no (in_out (n := 1) (by decide) hx)) ?_
    refine wp_run rfl ?_
    refine wp_ifne rfl (fun hz_ => absurd hz_ (fun z => z rfl)) (fun _ => ?_)
    refine wp_run rfl ?_
    exact wp_ret rfl rfl ⟨rfl, rfl⟩
  · obtain ⟨hR, hO, hk, hk6, hH, hS, hl, hP⟩ := hV
    have hcp : axEv ro (d + 1) kX5_copy [.ref 16, .int 0, .ref 18, .int (nI (154 * i))] (hM c M tl) none (hM c (mS M, mHs M, mKp M, va_cpy (mS M) (mSl M) 0 (154 * i) 154, M.2.2.2.2) tl) := x5_copy (a := 16) (b := 18) (fo := 0) (n := 154) (m := 308) (f := mS M) (g := mSl M) rfl rfl (by decide) (by decide) (by omega) (by decide) (by decide)
    refine ⟨(mS M, mHs M, mKp M, va_cpy (mS M) (mSl M) 0 (154 * i) 154, upd (mSv M) i 1, M.2.2.2.2.2), ?_, hR, hO, hk, hk6, hH, fun j hj => ?_, hl, hP⟩
    · refine ev_in rfl rfl (Nat.le_of_ble_eq_true rfl) rfl ?_
      refine wp_run rfl ?_
      refine wp_s3 rfl (Nat.le_of_ble_eq_true rfl) (x5_in_yes (nI_pos (by omega)) (nI_le (b := 1) (by omega) (by omega))) ?_
      refine wp_run rfl ?_
      refine wp_ifne rfl (fun _ => ?_) (fun hz_ => absurd ((by decide : ¬ (1 : Int32) = 0)) hz_)
      refine wp_run rfl ?_
      rw [show (154 : Int32) * nI i = nI (154 * i) from nI_mul 154 _]
      refine wp_s4v rfl (Nat.le_of_ble_eq_true rfl) (hcp) ?_
      refine wp_run rfl ?_
      refine wp_ast (h1 := (hM c (mS M, mHs M, mKp M, va_cpy (mS M) (mSl M) 0 (154 * i) 154, upd (mSv M) i 1, M.2.2.2.2.2) tl)) rfl rfl (vp_in_nI (show i < 2 by omega) (by decide)) rfl (by rw [nI_clamp (by omega)]; rfl) ?_
      refine wp_run rfl ?_
      refine wp_ald rfl rfl (vp_in_nI (n := 0) (by decide) (by decide)) (mr_sz hR) ?_
      refine wp_run rfl ?_
      exact wp_ret rfl rfl ⟨rfl, rfl⟩
    · show (va_up (vS V) i (some (vA V)) j = none → upd (mSv M) i 1 j = 0) ∧ ∀ A, va_up (vS V) i (some (vA V)) j = some A → upd (mSv M) i 1 j = 1 ∧ MR (fun q => va_cpy (mS M) (mSl M) 0 (154 * i) 154 (154 * j + q)) A ∧ aOk A
      by_cases e : j = i
      · subst e
        rw [va_is, pk_us]
        refine ⟨(fun z => by cases z), fun A z => ?_⟩
        cases z
        refine ⟨rfl, mr_cong hO.w hR (fun q hq => ?_), hO⟩
        rw [pk_cpy_in (by omega) (by omega)]
        congr 1; omega
      · rw [va_no e, pk_un e]
        obtain ⟨q1, q2⟩ := hS j hj
        refine ⟨q1, fun A z => ?_⟩
        obtain ⟨p1, p2, p3⟩ := q2 A z
        refine ⟨p1, mr_cong p3.w p2 (fun q hq => ?_), p3⟩
        rw [pk_cpy_out (by omega)]
theorem x5_restore (hV : MSt V M) (hS : spRestore V x r V') : ∃ M', axEv ro (d + 3) kX5_restore [.ref 15, .int x] (hM c M tl) (some (.int r)) (hM c M' tl) ∧ MSt V' M' := by
  rcases hS with ⟨hx, rfl, rfl⟩ | ⟨i, hi, rfl, ⟨hno, rfl, rfl⟩ | ⟨A, hA, rfl, rfl⟩⟩
  · refine ⟨M, ?_, hV⟩
    refine ev_in rfl rfl (Nat.le_of_ble_eq_true rfl) rfl ?_
    refine wp_run rfl ?_
    refine wp_s3 rfl (Nat.le_of_ble_eq_true rfl) (x5_in_no (d := d + 1) (in_out (n := 1) (by decide) hx)) ?_
    refine wp_run rfl ?_
    refine wp_ifne rfl (fun hz_ => absurd hz_ (fun z => z rfl)) (fun _ => ?_)
    refine wp_run rfl ?_
    exact wp_ret rfl rfl ⟨rfl, rfl⟩
  · refine ⟨M, ?_, hV⟩
    have h0 := (hV.2.2.2.2.2.1 i hi).1 hno
    refine ev_in rfl rfl (Nat.le_of_ble_eq_true rfl) rfl ?_
    refine wp_run rfl ?_
    refine wp_s3 rfl (Nat.le_of_ble_eq_true rfl) (x5_in_yes (d := d + 1) (nI_pos (by omega)) (nI_le (b := 1) (by omega) (by omega))) ?_
    refine wp_run rfl ?_
    refine wp_ifne rfl (fun _ => ?_) (fun hz_ => absurd ((by decide : ¬ (1 : Int32) = 0)) hz_)
    refine wp_run rfl ?_
    refine wp_ald rfl rfl (vp_in_nI ((show i < 2 by omega)) (by decide)) (by rw [nI_clamp (by omega)]) ?_
    refine wp_run rfl ?_
    rw [h0]
    refine wp_ifne rfl (fun hz_ => absurd hz_ (fun z => z rfl)) (fun _ => ?_)
    refine wp_run rfl ?_
    exact wp_ret rfl rfl ⟨rfl, rfl⟩
  · obtain ⟨h1, h2, h3⟩ := (hV.2.2.2.2.2.1 i hi).2 A hA
    obtain ⟨hi', hev, hms⟩ := x5_rec_s (ro := ro) (d := d) (c := c) (tl := tl) hV
    have hR2 : MR (va_cpy (mSl M) (mS M) (154 * i) 0 154) A := mr_cong h3.w h2 (fun q hq => by rw [pk_cpy_in (by omega) (by omega)]; rfl)
    have hcp : axEv ro (d + 2) kX5_copy [.ref 18, .int (nI (154 * i)), .ref 16, .int 0] (hM c (mS M, hi', nI (min (vK V + 1) 6), M.2.2.2) tl) none (hM c (va_cpy (mSl M) (mS M) (154 * i) 0 154, hi', nI (min (vK V + 1) 6), M.2.2.2) tl) := x5_copy (a := 18) (b := 16) (t := 0) (n := 308) (m := 154) (f := mSl M) (g := mS M) rfl rfl (by decide) (by omega) (by decide) (by decide) (by decide)
    refine ⟨_, ?_, hms _ _ hR2 h3⟩
    refine ev_in rfl rfl (Nat.le_of_ble_eq_true rfl) rfl ?_
    refine wp_run rfl ?_
    refine wp_s3 rfl (Nat.le_of_ble_eq_true rfl) (x5_in_yes (d := d + 1) (nI_pos (by omega)) (nI_le (b := 1) (by omega) (by omega))) ?_
    refine wp_run rfl ?_
    refine wp_ifne rfl (fun _ => ?_) (fun hz_ => absurd ((by decide : ¬ (1 : Int32) = 0)) hz_)
    refine wp_run rfl ?_
    refine wp_ald rfl rfl (vp_in_nI ((show i < 2 by omega)) (by decide)) (by rw [nI_clamp (by omega)]) ?_
    refine wp_run rfl ?_
    rw [h1]
    refine wp_ifne rfl (fun _ => ?_) (fun hz_ => absurd ((by decide : ¬ (1 : Int32) = 0)) hz_)
    refine wp_run rfl ?_
    refine wp_v1v rfl rfl (Nat.le_of_ble_eq_true rfl) (hev) ?_
    refine wp_run rfl ?_
    rw [show (154 : Int32) * nI i = nI (154 * i) from nI_mul 154 _]
    refine wp_s4v rfl (Nat.le_of_ble_eq_true rfl) (hcp) ?_
    refine wp_run rfl ?_
    refine wp_ald rfl rfl (vp_in_nI (n := 0) (by decide) (by decide)) (mr_sz hR2) ?_
    refine wp_run rfl ?_
    exact wp_ret rfl rfl ⟨rfl, rfl⟩
theorem x5_wipe (hV : MSt V M) : ∃ M', axEv ro (d + 1) kX5_wipe [.ref 15] (hM c M tl) (some (.int (nI (vP V)))) (hM c M' tl) ∧ MSt (vA V, vK V, vH V, vS V, 0, vT V) M' := by
  obtain ⟨hR, hO, hk, hk6, hH, hS, hl, hP⟩ := hV
  refine ⟨(mS M, mHs M, mKp M, mSl M, mSv M, mBf M, mPd M, nI 0, M.2.2.2.2.2.2.2.2), ?_, hR, hO, hk, hk6, hH, hS, rfl, ⟨by show 0 ≤ 80; omega, fun i hi => absurd hi (Nat.not_lt_zero i)⟩⟩
  refine ev_in rfl rfl (Nat.le_of_ble_eq_true rfl) rfl ?_
  refine wp_run rfl ?_
  refine wp_putf (h1 := (hM c (mS M, mHs M, mKp M, mSl M, mSv M, mBf M, mPd M, nI 0, M.2.2.2.2.2.2.2.2) tl)) rfl rfl (Nat.le_of_ble_eq_true rfl) ⟨rfl, rfl, fun _ hz_ => by cases hz_⟩ rfl ?_
  refine wp_run rfl ?_
  exact wp_ret rfl rfl ⟨by rw [hl], rfl⟩
end AX58
