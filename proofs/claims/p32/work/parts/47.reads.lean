/-! THE CLASS: its public methods that change nothing. -/
def ofV (A : axAD) (i k : Nat) : Int32 := match k with
  | 0 => nI i
  | 1 => nI (aW A (aR A i))
  | 2 => nI (aB A (aR A i))
  | 3 => if aT A (aR A i) = true then 1 else 0
  | 4 => aD A (aR A i)
  | 5 => aNdr A (aR A i) (aN A)
  | 6 => nI (aBeg A i)
  | 7 => nI (aBeg A i / aPg A)
  | 8 => nI (aAct A i)
  | _ => nI (aCan A (aR A i))
def spOf (A : axAD) (x y r : Int32) : Prop := (spNo A x ∧ r = -1) ∨ ∃ i, spSlug A x i ∧ ((∃ k, k < 10 ∧ y = nI k ∧ r = ofV A i k) ∨ ((y < 0 ∨ nI 10 ≤ y) ∧ r = -2))
def spAt (A : axAD) (x r : Int32) : Prop := ((x < 0 ∨ nI (aN A) ≤ x) ∧ r = -1) ∨ ∃ i, i < aN A ∧ x = nI i ∧ r = nI (aR A i)
def spAtBeat (A : axAD) (x r : Int32) : Prop := (x < 0 ∧ r = -2) ∨ ∃ v, v < 2 ^ 31 ∧ x = nI v ∧ r = (if aAtB A v < aN A then nI (aR A (aAtB A v)) else -6)
def actV (A : axAD) (a k : Nat) : Int32 := match k with
  | 0 => nI (aBeg A (aSt A (a + 1)) - aBeg A (aSt A a))
  | 1 => nI (aTgt A a)
  | 2 => zI (aOff A a + 5000)
  | 3 => if a < aAct A (aN A) ∧ (aOff A a).natAbs ≤ aSl A then 1 else 0
  | 4 => if aAct A (aN A) ≤ a then 1 else 0
  | 5 => nI (aSt A (a + 1) - aSt A a)
  | 6 => nI (aBeg A (aSt A a))
  | _ => nI (aRm A (aSt A (a + 1)) - aRm A (aSt A a))
def spOfAct (A : axAD) (x y r : Int32) : Prop := ((x < 0 ∨ nI (aActs A) ≤ x) ∧ r = -1) ∨ ∃ a, a < aActs A ∧ x = nI a ∧ ((∃ k, k < 8 ∧ y = nI k ∧ r = actV A a k) ∨ ((y < 0 ∨ nI 8 ≤ y) ∧ r = -2))
theorem sw_out {y : Int32} {n : Nat} (h : y < 0 ∨ nI n ≤ y) (hn : n < 2 ^ 31) {k : Nat} (hk : k < n) : y ≠ nI k := fun e => by
  rcases h with h | h
  · rw [e] at h; exact nI_pos (by omega) h
  · rw [e] at h; exact nI_ge hk hn h
theorem spOf_ex (A : axAD) (x y : Int32) : ∃ r, spOf A x y r := by
  rcases sp_slug A x with h | ⟨i, hi⟩
  · exact ⟨_, Or.inl ⟨h, rfl⟩⟩
  · rcases sp_int y 10 (by decide) with h | ⟨k, hk, e⟩
    · exact ⟨_, Or.inr ⟨i, hi, Or.inr ⟨h, rfl⟩⟩⟩
    · exact ⟨_, Or.inr ⟨i, hi, Or.inl ⟨k, hk, e, rfl⟩⟩⟩
theorem spAt_ex {A : axAD} (hO : aOk A) (x : Int32) : ∃ r, spAt A x r := by
  have hn := hO.n
  rcases sp_int x (aN A) (by omega) with h | ⟨k, hk, e⟩
  · exact ⟨_, Or.inl ⟨h, rfl⟩⟩
  · exact ⟨_, Or.inr ⟨k, hk, e, rfl⟩⟩
theorem spAtBeat_ex (A : axAD) (x : Int32) : ∃ r, spAtBeat A x r := by
  by_cases h : x < 0
  · exact ⟨_, Or.inl ⟨h, rfl⟩⟩
  · obtain ⟨v, hv, e⟩ := nI_of h
    exact ⟨_, Or.inr ⟨v, hv, e, rfl⟩⟩
theorem spOfAct_ex {A : axAD} (hO : aOk A) (x y : Int32) : ∃ r, spOfAct A x y r := by
  have hn := hO.n
  have ha := aActs_le A
  rcases sp_int x (aActs A) (by omega) with h | ⟨a, ha, e⟩
  · exact ⟨_, Or.inl ⟨h, rfl⟩⟩
  · rcases sp_int y 8 (by decide) with h | ⟨k, hk, e2⟩
    · exact ⟨_, Or.inr ⟨a, ha, e, Or.inr ⟨h, rfl⟩⟩⟩
    · exact ⟨_, Or.inr ⟨a, ha, e, Or.inl ⟨k, hk, e2, rfl⟩⟩⟩
section AX47
variable {ro : axRo} {d : Nat} {B : axBD} {Y : axYD} {sl : Nat → Option Nat} {P : axPD} {G : axGD} {tl : axH} {A : axAD} {x y r : Int32}
theorem x4_of_b (hO : aOk A) (hC : CR B A) (hS : spOf A x y r) : axEv ro (d + 6) kX4_of [.ref 0, .int x, .int y] (hX B Y sl P G tl) (some (.int r)) (hX B Y sl P G tl) := by
  have hn := hO.n
  rcases hS with ⟨h, rfl⟩ | ⟨i, ⟨hi, rfl⟩, ⟨k, hk, rfl, rfl⟩ | ⟨h, rfl⟩⟩
  · refine ev_in rfl rfl (Nat.le_of_ble_eq_true rfl) rfl ?_
    refine wp_run rfl ?_
    refine wp_v1 rfl rfl (Nat.le_of_ble_eq_true rfl) (x0_has_out (d := d + 3) hC h) ?_
    refine wp_run rfl ?_
    refine wp_ifne rfl (fun hz_ => absurd hz_ (fun z => z rfl)) (fun _ => ?_)
    refine wp_run rfl ?_
    exact wp_ret rfl rfl ⟨rfl, rfl⟩
  · have hk24 := hO.r hi
    match k, hk with
    | 0, _ =>
      refine ev_in rfl rfl (Nat.le_of_ble_eq_true rfl) rfl ?_
      refine wp_run rfl ?_
      refine wp_v1 rfl rfl (Nat.le_of_ble_eq_true rfl) (x0_has_in (d := d + 3) hO hC hi) ?_
      refine wp_run rfl ?_
      refine wp_ifne rfl (fun _ => ?_) (fun hz_ => absurd ((by decide : ¬ (1 : Int32) = 0)) hz_)
      refine wp_run rfl ?_
      refine wp_v1 rfl rfl (Nat.le_of_ble_eq_true rfl) (x0_placeOf (d := d + 3) hO hC hi) ?_
      refine wp_run rfl ?_
      refine wp_sw rfl ?_
      refine wp_run rfl ?_
      exact wp_ret rfl rfl ⟨rfl, rfl⟩
    | 1, _ =>
      refine ev_in rfl rfl (Nat.le_of_ble_eq_true rfl) rfl ?_
      refine wp_run rfl ?_
      refine wp_v1 rfl rfl (Nat.le_of_ble_eq_true rfl) (x0_has_in (d := d + 3) hO hC hi) ?_
      refine wp_run rfl ?_
      refine wp_ifne rfl (fun _ => ?_) (fun hz_ => absurd ((by decide : ¬ (1 : Int32) = 0)) hz_)
      refine wp_run rfl ?_
      refine wp_v1 rfl rfl (Nat.le_of_ble_eq_true rfl) (x0_placeOf (d := d + 3) hO hC hi) ?_
      refine wp_run rfl ?_
      refine wp_sw rfl ?_
      refine wp_run rfl ?_
      refine wp_v1 rfl rfl (Nat.le_of_ble_eq_true rfl) (x0_writtenOf (d := d + 3) hO hC hi) ?_
      refine wp_run rfl ?_
      exact wp_ret rfl rfl ⟨rfl, rfl⟩
    | 2, _ =>
      refine ev_in rfl rfl (Nat.le_of_ble_eq_true rfl) rfl ?_
      refine wp_run rfl ?_
      refine wp_v1 rfl rfl (Nat.le_of_ble_eq_true rfl) (x0_has_in (d := d + 3) hO hC hi) ?_
      refine wp_run rfl ?_
      refine wp_ifne rfl (fun _ => ?_) (fun hz_ => absurd ((by decide : ¬ (1 : Int32) = 0)) hz_)
      refine wp_run rfl ?_
      refine wp_v1 rfl rfl (Nat.le_of_ble_eq_true rfl) (x0_placeOf (d := d + 3) hO hC hi) ?_
      refine wp_run rfl ?_
      refine wp_sw rfl ?_
      refine wp_run rfl ?_
      refine wp_v1 rfl rfl (Nat.le_of_ble_eq_true rfl) (x0_beatsOf (d := d + 3) hO hC hi) ?_
      refine wp_run rfl ?_
      exact wp_ret rfl rfl ⟨rfl, rfl⟩
    | 3, _ =>
      have ht := x0_isTurn (ro := ro) (d := d + 3) (Y := Y) (sl := sl) (P := P) (G := G) (tl := tl) hO hC hi
      show axEv ro (d + 6) kX4_of [.ref 0, .int (nI (aR A i)), .int (nI 3)] (hX B Y sl P G tl) (some (.int (if aT A (aR A i) = true then 1 else 0))) (hX B Y sl P G tl)
      refine ev_in rfl rfl (Nat.le_of_ble_eq_true rfl) rfl ?_
      refine wp_run rfl ?_
      refine wp_v1 rfl rfl (Nat.le_of_ble_eq_true rfl) (x0_has_in (d := d + 3) hO hC hi) ?_
      refine wp_run rfl ?_
      refine wp_ifne rfl (fun _ => ?_) (fun hz_ => absurd ((by decide : ¬ (1 : Int32) = 0)) hz_)
      refine wp_run rfl ?_
      refine wp_v1 rfl rfl (Nat.le_of_ble_eq_true rfl) (x0_placeOf (d := d + 3) hO hC hi) ?_
      refine wp_run rfl ?_
      refine wp_sw rfl ?_
      refine wp_run rfl ?_
      cases hb : aT A (aR A i) with
      | true =>
        rw [hb] at ht
        refine wp_v1 rfl rfl (Nat.le_of_ble_eq_true rfl) (ht) ?_
        refine wp_run rfl ?_
        refine wp_ifeq rfl (fun hz_ => absurd hz_ ((by decide : ¬ (1 : Int32) = 0))) (fun _ => ?_)
        refine wp_run rfl ?_
        exact wp_ret rfl rfl ⟨rfl, rfl⟩
      | false =>
        rw [hb] at ht
        refine wp_v1 rfl rfl (Nat.le_of_ble_eq_true rfl) (ht) ?_
        refine wp_run rfl ?_
        refine wp_ifeq rfl (fun _ => ?_) (fun hz_ => absurd (rfl) hz_)
        refine wp_run rfl ?_
        exact wp_ret rfl rfl ⟨rfl, rfl⟩
    | 4, _ =>
      refine ev_in rfl rfl (Nat.le_of_ble_eq_true rfl) rfl ?_
      refine wp_run rfl ?_
      refine wp_v1 rfl rfl (Nat.le_of_ble_eq_true rfl) (x0_has_in (d := d + 3) hO hC hi) ?_
      refine wp_run rfl ?_
      refine wp_ifne rfl (fun _ => ?_) (fun hz_ => absurd ((by decide : ¬ (1 : Int32) = 0)) hz_)
      refine wp_run rfl ?_
      refine wp_v1 rfl rfl (Nat.le_of_ble_eq_true rfl) (x0_placeOf (d := d + 3) hO hC hi) ?_
      refine wp_run rfl ?_
      refine wp_sw rfl ?_
      refine wp_run rfl ?_
      refine wp_v1 rfl rfl (Nat.le_of_ble_eq_true rfl) (x0_needsOf (d := d + 3) hO hC hi) ?_
      refine wp_run rfl ?_
      exact wp_ret rfl rfl ⟨rfl, rfl⟩
    | 5, _ =>
      refine ev_in rfl rfl (Nat.le_of_ble_eq_true rfl) rfl ?_
      refine wp_run rfl ?_
      refine wp_v1 rfl rfl (Nat.le_of_ble_eq_true rfl) (x0_has_in (d := d + 3) hO hC hi) ?_
      refine wp_run rfl ?_
      refine wp_ifne rfl (fun _ => ?_) (fun hz_ => absurd ((by decide : ¬ (1 : Int32) = 0)) hz_)
      refine wp_run rfl ?_
      refine wp_v1 rfl rfl (Nat.le_of_ble_eq_true rfl) (x0_placeOf (d := d + 3) hO hC hi) ?_
      refine wp_run rfl ?_
      refine wp_sw rfl ?_
      refine wp_run rfl ?_
      refine wp_v1 rfl rfl (Nat.le_of_ble_eq_true rfl) (x0_needersOf (d := d + 2) hO hC hk24) ?_
      refine wp_run rfl ?_
      exact wp_ret rfl rfl ⟨rfl, rfl⟩
    | 6, _ =>
      have hb := x0_beatsIn (ro := ro) (d := d + 3) (Y := Y) (sl := sl) (P := P) (G := G) (tl := tl) hO hC (f := 0) (t := i) (Nat.zero_le _) (by omega)
      refine ev_in rfl rfl (Nat.le_of_ble_eq_true rfl) rfl ?_
      refine wp_run rfl ?_
      refine wp_v1 rfl rfl (Nat.le_of_ble_eq_true rfl) (x0_has_in (d := d + 3) hO hC hi) ?_
      refine wp_run rfl ?_
      refine wp_ifne rfl (fun _ => ?_) (fun hz_ => absurd ((by decide : ¬ (1 : Int32) = 0)) hz_)
      refine wp_run rfl ?_
      refine wp_v1 rfl rfl (Nat.le_of_ble_eq_true rfl) (x0_placeOf (d := d + 3) hO hC hi) ?_
      refine wp_run rfl ?_
      refine wp_sw rfl ?_
      refine wp_run rfl ?_
      refine wp_v2 rfl rfl (Nat.le_of_ble_eq_true rfl) (hb) ?_
      refine wp_run rfl ?_
      exact wp_ret rfl rfl ⟨rfl, rfl⟩
    | 7, _ =>
      have hb := x0_beatsIn (ro := ro) (d := d + 3) (Y := Y) (sl := sl) (P := P) (G := G) (tl := tl) hO hC (f := 0) (t := i) (Nat.zero_le _) (by omega)
      have hbg := aBeg_le hO (show i ≤ aN A by omega)
      have hpg := hO.pg
      refine ev_in rfl rfl (Nat.le_of_ble_eq_true rfl) rfl ?_
      refine wp_run rfl ?_
      refine wp_v1 rfl rfl (Nat.le_of_ble_eq_true rfl) (x0_has_in (d := d + 3) hO hC hi) ?_
      refine wp_run rfl ?_
      refine wp_ifne rfl (fun _ => ?_) (fun hz_ => absurd ((by decide : ¬ (1 : Int32) = 0)) hz_)
      refine wp_run rfl ?_
      refine wp_v1 rfl rfl (Nat.le_of_ble_eq_true rfl) (x0_placeOf (d := d + 3) hO hC hi) ?_
      refine wp_run rfl ?_
      refine wp_sw rfl ?_
      refine wp_run rfl ?_
      refine wp_v2 rfl rfl (Nat.le_of_ble_eq_true rfl) (hb) ?_
      refine wp_run rfl ?_
      refine wp_v0 rfl rfl (Nat.le_of_ble_eq_true rfl) (x0_pageBeats (d := d + 2) hO hC) ?_
      refine wp_run rfl ?_
      refine wp_idiv rfl (nI_ne0 (by omega) (by omega)) (nI_div (show aBeg A i - aBeg A 0 < 2 ^ 31 by omega) (by omega) (by omega)) ?_
      refine wp_run rfl ?_
      exact wp_ret rfl rfl ⟨rfl, rfl⟩
    | 8, _ =>
      refine ev_in rfl rfl (Nat.le_of_ble_eq_true rfl) rfl ?_
      refine wp_run rfl ?_
      refine wp_v1 rfl rfl (Nat.le_of_ble_eq_true rfl) (x0_has_in (d := d + 3) hO hC hi) ?_
      refine wp_run rfl ?_
      refine wp_ifne rfl (fun _ => ?_) (fun hz_ => absurd ((by decide : ¬ (1 : Int32) = 0)) hz_)
      refine wp_run rfl ?_
      refine wp_v1 rfl rfl (Nat.le_of_ble_eq_true rfl) (x0_placeOf (d := d + 3) hO hC hi) ?_
      refine wp_run rfl ?_
      refine wp_sw rfl ?_
      refine wp_run rfl ?_
      refine wp_v1 rfl rfl (Nat.le_of_ble_eq_true rfl) (x0_turnsAhead (d := d + 3) hO hC (by omega)) ?_
      refine wp_run rfl ?_
      exact wp_ret rfl rfl ⟨rfl, rfl⟩
    | 9, _ =>
      refine ev_in rfl rfl (Nat.le_of_ble_eq_true rfl) rfl ?_
      refine wp_run rfl ?_
      refine wp_v1 rfl rfl (Nat.le_of_ble_eq_true rfl) (x0_has_in (d := d + 3) hO hC hi) ?_
      refine wp_run rfl ?_
      refine wp_ifne rfl (fun _ => ?_) (fun hz_ => absurd ((by decide : ¬ (1 : Int32) = 0)) hz_)
      refine wp_run rfl ?_
      refine wp_v1 rfl rfl (Nat.le_of_ble_eq_true rfl) (x0_placeOf (d := d + 3) hO hC hi) ?_
      refine wp_run rfl ?_
      refine wp_sw rfl ?_
      refine wp_run rfl ?_
      refine wp_v1 rfl rfl (Nat.le_of_ble_eq_true rfl) (x0_roomOf (d := d + 3) hO hC hi) ?_
      refine wp_run rfl ?_
      exact wp_ret rfl rfl ⟨rfl, rfl⟩
    | n + 10, hk => exact absurd hk (by omega)
  · have ne : ∀ k, k < 10 → y ≠ nI k := fun k hk => sw_out h (by decide) hk
    refine ev_in rfl rfl (Nat.le_of_ble_eq_true rfl) rfl ?_
    refine wp_run rfl ?_
    refine wp_v1 rfl rfl (Nat.le_of_ble_eq_true rfl) (x0_has_in (d := d + 3) hO hC hi) ?_
    refine wp_run rfl ?_
    refine wp_ifne rfl (fun _ => ?_) (fun hz_ => absurd ((by decide : ¬ (1 : Int32) = 0)) hz_)
    refine wp_run rfl ?_
    refine wp_v1 rfl rfl (Nat.le_of_ble_eq_true rfl) (x0_placeOf (d := d + 3) hO hC hi) ?_
    refine wp_run rfl ?_
    refine wp_sw rfl ?_
    refine axSw_go ⟨ne 0 (by decide), ne 1 (by decide), ne 2 (by decide), ne 3 (by decide), ne 4 (by decide), ne 5 (by decide), ne 6 (by decide), ne 7 (by decide), ne 8 (by decide), ne 9 (by decide), trivial⟩ ?_
    refine wp_run rfl ?_
    exact wp_ret rfl rfl ⟨rfl, rfl⟩
theorem x4_at_b (hO : aOk A) (hC : CR B A) (hS : spAt A x r) : axEv ro (d + 6) kX4_at [.ref 0, .int x] (hX B Y sl P G tl) (some (.int r)) (hX B Y sl P G tl) := by
  rcases hS with ⟨h, rfl⟩ | ⟨i, hi, rfl, rfl⟩
  · refine ev_in rfl rfl (Nat.le_of_ble_eq_true rfl) rfl ?_
    refine wp_run rfl ?_
    refine wp_v1 rfl rfl (Nat.le_of_ble_eq_true rfl) (x0_slugIn_out (d := d + 3) hC h) ?_
    refine wp_run rfl ?_
    exact wp_ret rfl rfl ⟨rfl, rfl⟩
  · refine ev_in rfl rfl (Nat.le_of_ble_eq_true rfl) rfl ?_
    refine wp_run rfl ?_
    refine wp_v1 rfl rfl (Nat.le_of_ble_eq_true rfl) (x0_slugIn_in (d := d + 3) hO hC hi) ?_
    refine wp_run rfl ?_
    exact wp_ret rfl rfl ⟨rfl, rfl⟩
theorem x4_atBeat_b (hO : aOk A) (hC : CR B A) (hS : spAtBeat A x r) : axEv ro (d + 6) kX4_atBeat [.ref 0, .int x] (hX B Y sl P G tl) (some (.int r)) (hX B Y sl P G tl) := by
  rcases hS with ⟨h, rfl⟩ | ⟨v, hv, rfl, rfl⟩
  · refine ev_in rfl rfl (Nat.le_of_ble_eq_true rfl) rfl ?_
    refine wp_run rfl ?_
    refine wp_ifge rfl (fun hz_ => absurd hz_ (Int32.not_le.mpr h)) (fun _ => ?_)
    refine wp_run rfl ?_
    exact wp_ret rfl rfl ⟨rfl, rfl⟩
  · refine ev_in rfl rfl (Nat.le_of_ble_eq_true rfl) rfl ?_
    refine wp_run rfl ?_
    refine wp_ifge rfl (fun _ => ?_) (fun hz_ => absurd (nI_pos' hv) hz_)
    refine wp_run rfl ?_
    refine wp_v1 rfl rfl (Nat.le_of_ble_eq_true rfl) (x0_slugAtBeat (d := d + 2) hO hC hv) ?_
    refine wp_run rfl ?_
    exact wp_ret rfl rfl ⟨rfl, rfl⟩
end AX47
