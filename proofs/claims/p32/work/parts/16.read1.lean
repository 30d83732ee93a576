/-! THE CLASS: helpers, and what only reads the board (1). -/
section AX16
variable {ro : axRo} {d : Nat} {h h1 : axH} {B : axBD} {Y : axYD} {sl : Nat → Option Nat} {P : axPD} {G : axGD} {tl : axH} {A : axAD}
theorem nlt24 {k : Nat} (h : k < 24) : ¬ (24 : Int32) ≤ nI k := nI_ge (b := 24) h (by omega)
theorem x4_cellR {j k : Nat} (hj : j < 3) (hk : k < (ro j).1) (hn : (ro j).1 < 2 ^ 31) : axEv ro (d + 1) kX4_cell [.retAddr j, .int (nI k)] h (some (.int ((ro j).2 k))) h := by
  refine ev_in rfl rfl (Nat.le_of_ble_eq_true rfl) rfl ?_
  refine wp_runk 1 rfl ?_
  refine wp_iflt rfl (fun hz_ => absurd hz_ (nI_pos (by omega))) (fun _ => ?_)
  refine wp_runk 2 rfl ?_
  refine wp_lenR rfl hj ?_
  refine wp_icge rfl (fun hz_ => absurd hz_ (nI_ge hk hn)) (fun _ => ?_)
  refine wp_runk 2 rfl ?_
  refine wp_aldR rfl hj (vp_in_nI hk hn) (by rw [nI_clamp (by omega)]) ?_
  refine wp_runk 1 rfl ?_
  exact wp_ret rfl rfl ⟨rfl, rfl⟩
theorem x4_store {k n0 j : Nat} {f : Nat → Int32} {v : Int32} (hh : h[k]? = some (.inl (0, n0, f))) (hj : j < n0) (hn : n0 < 2 ^ 31) (hs : h.set k (.inl (0, n0, upd f j v)) = h1) : axEv ro (d + 1) kX4_store [.ref k, .int (nI j), .int v] h none h1 := by
  refine ev_in rfl rfl (Nat.le_of_ble_eq_true rfl) rfl ?_
  refine wp_runk 1 rfl ?_
  refine wp_iflt rfl (fun hz_ => absurd hz_ (nI_pos (by omega))) (fun _ => ?_)
  refine wp_runk 2 rfl ?_
  refine wp_len rfl hh (by decide) ?_
  refine wp_icge rfl (fun hz_ => absurd hz_ (nI_ge hj hn)) (fun _ => ?_)
  refine wp_runk 3 rfl ?_
  refine wp_ast (h1 := h1) rfl hh (vp_in_nI hj hn) rfl (by rw [nI_clamp (by omega)]; exact hs) ?_
  exact wp_retv rfl ⟨rfl, rfl⟩
theorem x4_bit {k : Nat} (hk : k < 24) : axEv ro (d + 1) kX4_bit [.int (nI k)] h (some (.int (bi k))) h := by
  refine ev_in rfl rfl (Nat.le_of_ble_eq_true rfl) rfl ?_
  refine wp_run rfl ?_
  refine wp_iflt rfl (fun hz_ => absurd hz_ (nI_pos (by omega))) (fun _ => ?_)
  refine wp_run rfl ?_
  refine wp_run rfl ?_
  refine wp_icge rfl (fun hz_ => absurd hz_ (nlt24 hk)) (fun _ => ?_)
  refine wp_run rfl ?_
  refine wp_run rfl ?_
  exact wp_ret rfl rfl ⟨rfl, rfl⟩
theorem x4_contains_in {x : Int32} {k : Nat} (hk : k < 24) : axEv ro (d + 1) kX4_contains [.int x, .int (nI k)] h (some (.int (if bt x k = true then 1 else 0))) h := by
  refine ev_in rfl rfl (Nat.le_of_ble_eq_true rfl) rfl ?_
  refine wp_run rfl ?_
  refine wp_iflt rfl (fun hz_ => absurd hz_ (nI_pos (by omega))) (fun _ => ?_)
  refine wp_run rfl ?_
  refine wp_run rfl ?_
  refine wp_icge rfl (fun hz_ => absurd hz_ (nlt24 hk)) (fun _ => ?_)
  refine wp_run rfl ?_
  refine wp_run rfl ?_
  rw [bt_has (by omega)]
  by_cases hb : bt x k = true
  · rw [if_pos hb]
    refine wp_ifeq rfl (fun hz_ => absurd hz_ ((by decide : ¬ (1 : Int32) = 0))) (fun _ => ?_)
    refine wp_run rfl ?_
    refine wp_run rfl ?_
    exact wp_ret rfl rfl ⟨rfl, rfl⟩
  · rw [if_neg hb]
    refine wp_ifeq rfl (fun _ => ?_) (fun hz_ => absurd (rfl) hz_)
    refine wp_run rfl ?_
    refine wp_run rfl ?_
    exact wp_ret rfl rfl ⟨rfl, rfl⟩
theorem x4_contains_out {x y : Int32} (hy : y < 0 ∨ 24 ≤ y) : axEv ro (d + 1) kX4_contains [.int x, .int y] h (some (.int 0)) h := by
  refine ev_in rfl rfl (Nat.le_of_ble_eq_true rfl) rfl ?_
  refine wp_run rfl ?_
  refine wp_iflt rfl (fun q => ?_) (fun q => ?_)
  · refine wp_run rfl ?_
    exact wp_ret rfl rfl ⟨rfl, rfl⟩
  · refine wp_run rfl ?_
    refine wp_icge rfl (fun q2 => ?_) (fun q2 => ?_)
    · refine wp_run rfl ?_
      exact wp_ret rfl rfl ⟨rfl, rfl⟩
    · exact absurd hy (fun z => z.elim q q2)
/-! the board -/
theorem x0_has_in (hO : aOk A) (hC : CR B A) {i : Nat} (hi : i < aN A) : axEv ro (d + 2) kX0_has [.ref 1, .int (nI (aR A i))] (hX B Y sl P G tl) (some (.int 1)) (hX B Y sl P G tl) := by
  refine ev_in rfl rfl (Nat.le_of_ble_eq_true rfl) rfl ?_
  refine wp_run rfl ?_
  refine wp_s2 rfl (Nat.le_of_ble_eq_true rfl) (x4_contains_in (hO.r hi)) ?_
  refine wp_run rfl ?_
  rw [if_pos ((cr_sg hC _).mpr ⟨i, hi, rfl⟩)]
  exact wp_ret rfl rfl ⟨rfl, rfl⟩
theorem x0_has_out (hC : CR B A) {y : Int32} (hy : ∀ i, i < aN A → y ≠ nI (aR A i)) : axEv ro (d + 2) kX0_has [.ref 1, .int y] (hX B Y sl P G tl) (some (.int 0)) (hX B Y sl P G tl) := by
  rcases pk_ix y (show 24 < 2 ^ 31 by omega) with h | h | ⟨k, hk, rfl⟩
  · refine ev_in rfl rfl (Nat.le_of_ble_eq_true rfl) rfl ?_
    refine wp_run rfl ?_
    refine wp_s2 rfl (Nat.le_of_ble_eq_true rfl) (x4_contains_out (Or.inl h)) ?_
    refine wp_run rfl ?_
    exact wp_ret rfl rfl ⟨rfl, rfl⟩
  · refine ev_in rfl rfl (Nat.le_of_ble_eq_true rfl) rfl ?_
    refine wp_run rfl ?_
    refine wp_s2 rfl (Nat.le_of_ble_eq_true rfl) (x4_contains_out (Or.inr h)) ?_
    refine wp_run rfl ?_
    exact wp_ret rfl rfl ⟨rfl, rfl⟩
  · refine ev_in rfl rfl (Nat.le_of_ble_eq_true rfl) rfl ?_
    refine wp_run rfl ?_
    refine wp_s2 rfl (Nat.le_of_ble_eq_true rfl) (x4_contains_in hk) ?_
    refine wp_run rfl ?_
    rw [if_neg (fun q => by obtain ⟨i, hi, e⟩ := (cr_sg hC k).mp q; exact hy i hi (by rw [e]))]
    exact wp_ret rfl rfl ⟨rfl, rfl⟩
theorem x0_isTurn (hO : aOk A) (hC : CR B A) {i : Nat} (hi : i < aN A) : axEv ro (d + 2) kX0_isTurn [.ref 1, .int (nI (aR A i))] (hX B Y sl P G tl) (some (.int (if aT A (aR A i) = true then 1 else 0))) (hX B Y sl P G tl) := by
  refine ev_in rfl rfl (Nat.le_of_ble_eq_true rfl) rfl ?_
  refine wp_run rfl ?_
  refine wp_s2 rfl (Nat.le_of_ble_eq_true rfl) (x4_contains_in (hO.r hi)) ?_
  refine wp_run rfl ?_
  rw [cr_tnr hC hi]
  cases aT A (aR A i)
  · exact wp_ret rfl rfl ⟨rfl, rfl⟩
  · exact wp_ret rfl rfl ⟨rfl, rfl⟩
theorem x0_writtenOf (hO : aOk A) (hC : CR B A) {i : Nat} (hi : i < aN A) : axEv ro (d + 2) kX0_writtenOf [.ref 1, .int (nI (aR A i))] (hX B Y sl P G tl) (some (.int (nI (aW A (aR A i))))) (hX B Y sl P G tl) := by
  refine ev_in rfl rfl (Nat.le_of_ble_eq_true rfl) rfl ?_
  refine wp_run rfl ?_
  refine wp_s2 rfl (Nat.le_of_ble_eq_true rfl) (x4_cell rfl (hO.r hi) (by decide)) ?_
  refine wp_run rfl ?_
  exact wp_ret rfl rfl ⟨by rw [cr_wr hC hi], rfl⟩
theorem x0_beatsOf (hO : aOk A) (hC : CR B A) {i : Nat} (hi : i < aN A) : axEv ro (d + 2) kX0_beatsOf [.ref 1, .int (nI (aR A i))] (hX B Y sl P G tl) (some (.int (nI (aB A (aR A i))))) (hX B Y sl P G tl) := by
  refine ev_in rfl rfl (Nat.le_of_ble_eq_true rfl) rfl ?_
  refine wp_run rfl ?_
  refine wp_s2 rfl (Nat.le_of_ble_eq_true rfl) (x4_cell rfl (hO.r hi) (by decide)) ?_
  refine wp_run rfl ?_
  exact wp_ret rfl rfl ⟨by rw [cr_bt hC hi], rfl⟩
theorem x0_needsOf (hO : aOk A) (hC : CR B A) {i : Nat} (hi : i < aN A) : axEv ro (d + 2) kX0_needsOf [.ref 1, .int (nI (aR A i))] (hX B Y sl P G tl) (some (.int (aD A (aR A i)))) (hX B Y sl P G tl) := by
  refine ev_in rfl rfl (Nat.le_of_ble_eq_true rfl) rfl ?_
  refine wp_run rfl ?_
  refine wp_s2 rfl (Nat.le_of_ble_eq_true rfl) (x4_cell rfl (hO.r hi) (by decide)) ?_
  refine wp_run rfl ?_
  exact wp_ret rfl rfl ⟨by rw [cr_nd hC hi], rfl⟩
theorem x0_settingOf {j : Nat} (hj : j < 3) : axEv ro (d + 2) kX0_settingOf [.ref 1, .int (nI j)] (hX B Y sl P G tl) (some (.int (bSt B j))) (hX B Y sl P G tl) := by
  refine ev_in rfl rfl (Nat.le_of_ble_eq_true rfl) rfl ?_
  refine wp_run rfl ?_
  refine wp_s2 rfl (Nat.le_of_ble_eq_true rfl) (x4_cell rfl hj (by decide)) ?_
  refine wp_run rfl ?_
  exact wp_ret rfl rfl ⟨rfl, rfl⟩
theorem x0_pageBeats (hO : aOk A) (hC : CR B A) : axEv ro (d + 3) kX0_pageBeats [.ref 1] (hX B Y sl P G tl) (some (.int (nI (aPg A)))) (hX B Y sl P G tl) := by
  have := hO.pg
  refine ev_in rfl rfl (Nat.le_of_ble_eq_true rfl) rfl ?_
  refine wp_run rfl ?_
  refine wp_v1 rfl rfl (Nat.le_of_ble_eq_true rfl) (x0_settingOf (j := 0) (by omega)) ?_
  refine wp_run rfl ?_
  rw [cr_pg hC]
  refine wp_max rfl (Nat.le_of_ble_eq_true rfl) ((nI_max (a := 1) (by omega) (by omega))) ?_
  refine wp_run rfl ?_
  exact wp_ret rfl rfl ⟨by rw [Nat.max_eq_right (by omega)], rfl⟩
theorem x0_size (hC : CR B A) : axEv ro (d + 1) kX0_size [.ref 1] (hX B Y sl P G tl) (some (.int (nI (aN A)))) (hX B Y sl P G tl) := by
  refine ev_in rfl rfl (Nat.le_of_ble_eq_true rfl) rfl ?_
  refine wp_run rfl ?_
  exact wp_ret rfl rfl ⟨by rw [← cr_sz hC], rfl⟩
theorem x0_allSlugs : axEv ro (d + 1) kX0_allSlugs [.ref 1] (hX B Y sl P G tl) (some (.int (bSg B))) (hX B Y sl P G tl) := by
  refine ev_in rfl rfl (Nat.le_of_ble_eq_true rfl) rfl ?_
  refine wp_run rfl ?_
  exact wp_ret rfl rfl ⟨rfl, rfl⟩
theorem x0_allTurns : axEv ro (d + 1) kX0_allTurns [.ref 1] (hX B Y sl P G tl) (some (.int (bTn B))) (hX B Y sl P G tl) := by
  refine ev_in rfl rfl (Nat.le_of_ble_eq_true rfl) rfl ?_
  refine wp_run rfl ?_
  exact wp_ret rfl rfl ⟨rfl, rfl⟩
theorem x0_slugIn_in (hO : aOk A) (hC : CR B A) {i : Nat} (hi : i < aN A) : axEv ro (d + 2) kX0_slugIn [.ref 1, .int (nI i)] (hX B Y sl P G tl) (some (.int (nI (aR A i)))) (hX B Y sl P G tl) := by
  have := hO.n
  refine ev_in rfl rfl (Nat.le_of_ble_eq_true rfl) rfl ?_
  refine wp_run rfl ?_
  refine wp_iflt rfl (fun hz_ => absurd hz_ (nI_pos (by omega))) (fun _ => ?_)
  refine wp_run rfl ?_
  refine wp_run rfl ?_
  rw [cr_sz hC]
  refine wp_icge rfl (fun hz_ => absurd hz_ (nI_ge hi (by omega))) (fun _ => ?_)
  refine wp_run rfl ?_
  refine wp_run rfl ?_
  refine wp_s2 rfl (Nat.le_of_ble_eq_true rfl) (x4_cell rfl (show i < 24 by omega) (by decide)) ?_
  refine wp_run rfl ?_
  exact wp_ret rfl rfl ⟨by rw [cr_rw hC hi], rfl⟩
theorem x0_slugIn_out (hC : CR B A) {y : Int32} (hy : y < 0 ∨ nI (aN A) ≤ y) : axEv ro (d + 2) kX0_slugIn [.ref 1, .int y] (hX B Y sl P G tl) (some (.int (-1))) (hX B Y sl P G tl) := by
  refine ev_in rfl rfl (Nat.le_of_ble_eq_true rfl) rfl ?_
  refine wp_run rfl ?_
  refine wp_iflt rfl (fun q => ?_) (fun q => ?_)
  · refine wp_run rfl ?_
    exact wp_ret rfl rfl ⟨rfl, rfl⟩
  · refine wp_run rfl ?_
    rw [cr_sz hC]
    refine wp_icge rfl (fun q2 => ?_) (fun q2 => ?_)
    · refine wp_run rfl ?_
      exact wp_ret rfl rfl ⟨rfl, rfl⟩
    · exact absurd hy (fun z => z.elim q q2)
theorem x0_placeOf (hO : aOk A) (hC : CR B A) {p : Nat} (hp : p < aN A) : axEv ro (d + 2) kX0_placeOf [.ref 1, .int (nI (aR A p))] (hX B Y sl P G tl) (some (.int (nI p))) (hX B Y sl P G tl) := by
  have hn := hO.n
  have loop : ∀ m q, q + m = p → axW ro (axEv ro (d + 1)) cdX0_placeOf 7 [some (.ref 1), some (.int (nI (aR A p))), some (.int (nI q))] [.int (bSz B), .int (nI q)] (hX B Y sl P G tl) (fun r' h' => r' = some (.int (nI p)) ∧ h' = (hX B Y sl P G tl)) := by
    intro m
    induction m with
    | zero =>
      intro q e
      have e : q = p := by omega
      subst e
      rw [cr_sz hC]
      refine wp_icge rfl (fun hz_ => absurd hz_ (nI_ge hp (by omega))) (fun _ => ?_)
      refine wp_run rfl ?_
      refine wp_s2 rfl (Nat.le_of_ble_eq_true rfl) (x4_cell rfl (show q < 24 by omega) (by decide)) ?_
      refine wp_run rfl ?_
      rw [cr_rw hC hp]
      refine wp_icne rfl (fun hz_ => absurd hz_ (fun z => z rfl)) (fun _ => ?_)
      refine wp_run rfl ?_
      exact wp_ret rfl rfl ⟨rfl, rfl⟩
    | succ m ih =>
      intro q e
      have hq : q < aN A := by omega
      rw [cr_sz hC]
      refine wp_icge rfl (fun hz_ => absurd hz_ (nI_ge hq (by omega))) (fun _ => ?_)
      refine wp_run rfl ?_
      refine wp_s2 rfl (Nat.le_of_ble_eq_true rfl) (x4_cell rfl (show q < 24 by omega) (by decide)) ?_
      refine wp_run rfl ?_
      rw [cr_rw hC hq]
      refine wp_icne rfl (fun _ => ?_) (fun hz_ => absurd (fun z => by have := (nI_eq (by have := hO.r hq; omega) (by have := hO.r hp; omega)).mp z; have := hO.inj hq hp this; omega) hz_)
      refine wp_run rfl ?_
      rw [nI_1]
      exact ih (q + 1) (by omega)
  refine ev_in rfl rfl (Nat.le_of_ble_eq_true rfl) rfl ?_
  refine wp_run rfl ?_
  exact loop p 0 (by omega)
end AX16
