/-! THE CLASS: its public methods that change nothing (2). -/
def aSet (A : axAD) : Nat → Int32
  | 0 => 0
  | q + 1 => aSet A q ||| bi (aR A q)
def plS (A : axAD) (i : Nat) : Nat → Int32
  | 0 => 0
  | q + 1 => if aLo A i ≤ q ∧ q < aHi A i then plS A i q ||| bi q else plS A i q
def spPlaces (A : axAD) (x r : Int32) : Prop := (spNo A x ∧ r = -1) ∨ ∃ i, spSlug A x i ∧ r = plS A i (aN A)
def spTurned (A : axAD) (x r : Int32) : Prop := (spNo A x ∧ r = -1) ∨ ∃ i, spSlug A x i ∧ r = nI (aAll (aFlip A (aR A i)))
def spNeeds (A : axAD) (x r : Int32) : Prop := (spNo A x ∧ r = -1) ∨ ∃ i, spSlug A x i ∧ r = aClo A (aN A) (aD A (aR A i))
def bsV (A : axAD) (k : Nat) : Int32 := if (aBS A (aN A)).1 < (aBS A (aN A)).2.1 then (match k with
  | 0 => nI (aR A (aBS A (aN A)).1)
  | 1 => nI (aR A (aBS A (aN A)).2.1)
  | _ => nI (aBS A (aN A)).2.2) else -6
def spBest (A : axAD) (x r : Int32) : Prop := ((x < 0 ∨ nI 3 ≤ x) ∧ r = -2) ∨ ∃ k, k < 3 ∧ x = nI k ∧ r = bsV A k
def cntV (V : axV) (k : Nat) : Int32 := match k with
  | 0 => aSet (vA V) (aN (vA V))
  | 1 => nI (aActs (vA V))
  | 2 => nI (aBeg (vA V) (aN (vA V)))
  | 3 => nI ((aBeg (vA V) (aN (vA V)) + aPg (vA V) - 1) / aPg (vA V))
  | 4 => nI (aAll (vA V))
  | 5 => nI (bc (fun a => decide (a < aAct (vA V) (aN (vA V)) ∧ (aOff (vA V) a).natAbs ≤ aSl (vA V))) (aActs (vA V)))
  | 6 => (aLng (vA V) (aN (vA V))).1
  | 7 => nI (aPg (vA V))
  | 8 => nI (aSl (vA V))
  | 9 => nI (aTr (vA V))
  | 10 => nI (vP V)
  | _ => nI (vK V)
def spCount (V : axV) (x r : Int32) : Prop := ((x < 0 ∨ nI 12 ≤ x) ∧ r = -2) ∨ ∃ k, k < 12 ∧ x = nI k ∧ r = cntV V k
theorem spPlaces_ex (A : axAD) (x : Int32) : ∃ r, spPlaces A x r := by
  rcases sp_slug A x with h | ⟨i, hi⟩
  · exact ⟨_, Or.inl ⟨h, rfl⟩⟩
  · exact ⟨_, Or.inr ⟨i, hi, rfl⟩⟩
theorem spTurned_ex (A : axAD) (x : Int32) : ∃ r, spTurned A x r := by
  rcases sp_slug A x with h | ⟨i, hi⟩
  · exact ⟨_, Or.inl ⟨h, rfl⟩⟩
  · exact ⟨_, Or.inr ⟨i, hi, rfl⟩⟩
theorem spNeeds_ex (A : axAD) (x : Int32) : ∃ r, spNeeds A x r := by
  rcases sp_slug A x with h | ⟨i, hi⟩
  · exact ⟨_, Or.inl ⟨h, rfl⟩⟩
  · exact ⟨_, Or.inr ⟨i, hi, rfl⟩⟩
theorem spBest_ex (A : axAD) (x : Int32) : ∃ r, spBest A x r := by
  rcases sp_int x 3 (by decide) with h | ⟨i, hi, e⟩
  · exact ⟨_, Or.inl ⟨h, rfl⟩⟩
  · exact ⟨_, Or.inr ⟨i, hi, e, rfl⟩⟩
theorem spCount_ex (V : axV) (x : Int32) : ∃ r, spCount V x r := by
  rcases sp_int x 12 (by decide) with h | ⟨i, hi, e⟩
  · exact ⟨_, Or.inl ⟨h, rfl⟩⟩
  · exact ⟨_, Or.inr ⟨i, hi, e, rfl⟩⟩
theorem bt_aSet {A : axAD} (hO : aOk A) (k : Nat) : ∀ q, q ≤ aN A → (bt (aSet A q) k = true ↔ ∃ i, i < q ∧ aR A i = k)
  | 0, _ => ⟨fun h => (by rw [aSet, b_0] at h; cases h), fun ⟨i, hi, _⟩ => absurd hi (Nat.not_lt_zero i)⟩
  | q + 1, hq => by
    have hr := hO.r (show q < aN A by omega)
    rw [aSet, bt_set (by omega), Bool.or_eq_true, bt_aSet hO k q (by omega)]
    constructor
    · rintro (⟨i, hi, e⟩ | h)
      · exact ⟨i, by omega, e⟩
      · exact ⟨q, by omega, (of_decide_eq_true h).symm⟩
    · rintro ⟨i, hi, e⟩
      by_cases e2 : i = q
      · subst e2; exact Or.inr (decide_eq_true e.symm)
      · exact Or.inl ⟨i, by omega, e⟩
theorem cr_set0 {A : axAD} {B : axBD} (hO : aOk A) (hC : CR B A) : bSg B = aSet A (aN A) :=
  bt_ext fun i _ => by rw [cr_sg hC, bt_aSet hO i _ (Nat.le_refl _)]; rfl
def bsOk (A : axAD) (s : axBS) : Prop := s.1 = 0 ∧ s.2.1 = 0 ∨ s.1 < s.2.1 ∧ s.2.1 < aN A
theorem aBr_ok {A : axAD} {p : Nat} {s : axBS} (hs : bsOk A s) : ∀ m, m ≤ aN A → bsOk A (aBr A p m s)
  | 0, _ => hs
  | m + 1, hm => by
    have ih := aBr_ok (p := p) hs m (by omega)
    rw [aBr]
    split
    · unfold aBst
      split
      · exact Or.inr ⟨by assumption, by show m < aN A; omega⟩
      · exact ih
    · exact ih
theorem aBS_ok (A : axAD) : ∀ p, bsOk A (aBS A p)
  | 0 => Or.inl ⟨rfl, rfl⟩
  | p + 1 => aBr_ok (aBS_ok A p) _ (Nat.le_refl _)
section AX48
variable {ro : axRo} {d : Nat} {B : axBD} {Y : axYD} {sl : Nat → Option Nat} {P : axPD} {G : axGD} {tl : axH} {A : axAD} {x y r : Int32}
theorem x4_ofAct_b (hO : aOk A) (hC : CR B A) (hS : spOfAct A x y r) : axEv ro (d + 7) kX4_ofAct [.ref 0, .int x, .int y] (hX B Y sl P G tl) (some (.int r)) (hX B Y sl P G tl) := by
  have hn := hO.n
  have hacts := aActs_le A
  rcases hS with ⟨h, rfl⟩ | ⟨a, ha, rfl, ⟨k, hk, rfl, rfl⟩ | ⟨h, rfl⟩⟩
  · refine ev_in rfl rfl (Nat.le_of_ble_eq_true rfl) rfl ?_
    refine wp_run rfl ?_
    refine wp_v1 rfl rfl (Nat.le_of_ble_eq_true rfl) (x0_hasAct_out (d := d + 3) hO hC h) ?_
    refine wp_run rfl ?_
    refine wp_ifne rfl (fun hz_ => absurd hz_ (fun z => z rfl)) (fun _ => ?_)
    refine wp_run rfl ?_
    exact wp_ret rfl rfl ⟨rfl, rfl⟩
  · have hm := aSt_mono A (show a ≤ a + 1 by omega)
    have hl := aSt_le A (a + 1)
    have hb := aBeg_le hO hl
    match k, hk with
    | 0, _ =>
      refine ev_in rfl rfl (Nat.le_of_ble_eq_true rfl) rfl ?_
      refine wp_run rfl ?_
      refine wp_v1 rfl rfl (Nat.le_of_ble_eq_true rfl) (x0_hasAct_in (d := d + 3) hO hC ha) ?_
      refine wp_run rfl ?_
      refine wp_ifne rfl (fun _ => ?_) (fun hz_ => absurd ((by decide : ¬ (1 : Int32) = 0)) hz_)
      refine wp_run rfl ?_
      refine wp_v1 rfl rfl (Nat.le_of_ble_eq_true rfl) (x0_startOf (d := d + 4) hO hC (a := a) (by omega)) ?_
      refine wp_run rfl ?_
      rw [nI_1]
      refine wp_v1 rfl rfl (Nat.le_of_ble_eq_true rfl) (x0_startOf (d := d + 4) hO hC (a := a + 1) (by omega)) ?_
      refine wp_run rfl ?_
      refine wp_sw rfl ?_
      refine wp_run rfl ?_
      refine wp_v2 rfl rfl (Nat.le_of_ble_eq_true rfl) (x0_beatsIn (d := d + 4) hO hC hm hl) ?_
      refine wp_run rfl ?_
      exact wp_ret rfl rfl ⟨rfl, rfl⟩
    | 1, _ =>
      refine ev_in rfl rfl (Nat.le_of_ble_eq_true rfl) rfl ?_
      refine wp_run rfl ?_
      refine wp_v1 rfl rfl (Nat.le_of_ble_eq_true rfl) (x0_hasAct_in (d := d + 3) hO hC ha) ?_
      refine wp_run rfl ?_
      refine wp_ifne rfl (fun _ => ?_) (fun hz_ => absurd ((by decide : ¬ (1 : Int32) = 0)) hz_)
      refine wp_run rfl ?_
      refine wp_v1 rfl rfl (Nat.le_of_ble_eq_true rfl) (x0_startOf (d := d + 4) hO hC (a := a) (by omega)) ?_
      refine wp_run rfl ?_
      rw [nI_1]
      refine wp_v1 rfl rfl (Nat.le_of_ble_eq_true rfl) (x0_startOf (d := d + 4) hO hC (a := a + 1) (by omega)) ?_
      refine wp_run rfl ?_
      refine wp_sw rfl ?_
      refine wp_run rfl ?_
      refine wp_v1 rfl rfl (Nat.le_of_ble_eq_true rfl) (x0_targetOf (d := d + 4) hO hC (by omega)) ?_
      refine wp_run rfl ?_
      exact wp_ret rfl rfl ⟨rfl, rfl⟩
    | 2, _ =>
      refine ev_in rfl rfl (Nat.le_of_ble_eq_true rfl) rfl ?_
      refine wp_run rfl ?_
      refine wp_v1 rfl rfl (Nat.le_of_ble_eq_true rfl) (x0_hasAct_in (d := d + 3) hO hC ha) ?_
      refine wp_run rfl ?_
      refine wp_ifne rfl (fun _ => ?_) (fun hz_ => absurd ((by decide : ¬ (1 : Int32) = 0)) hz_)
      refine wp_run rfl ?_
      refine wp_v1 rfl rfl (Nat.le_of_ble_eq_true rfl) (x0_startOf (d := d + 4) hO hC (a := a) (by omega)) ?_
      refine wp_run rfl ?_
      rw [nI_1]
      refine wp_v1 rfl rfl (Nat.le_of_ble_eq_true rfl) (x0_startOf (d := d + 4) hO hC (a := a + 1) (by omega)) ?_
      refine wp_run rfl ?_
      refine wp_sw rfl ?_
      refine wp_run rfl ?_
      refine wp_v1 rfl rfl (Nat.le_of_ble_eq_true rfl) (x0_offOf (d := d + 3) hO hC (by omega)) ?_
      refine wp_run rfl ?_
      rw [show (5000 : Int32) = zI 5000 from rfl, zI_add]
      exact wp_ret rfl rfl ⟨rfl, rfl⟩
    | 3, _ =>
      have hf := x0_isFitting (ro := ro) (d := d + 2) (Y := Y) (sl := sl) (P := P) (G := G) (tl := tl) hO hC (show a < 2 ^ 30 by omega)
      show axEv ro (d + 7) kX4_ofAct [.ref 0, .int (nI a), .int (nI 3)] (hX B Y sl P G tl) (some (.int (if a < aAct A (aN A) ∧ (aOff A a).natAbs ≤ aSl A then 1 else 0))) (hX B Y sl P G tl)
      refine ev_in rfl rfl (Nat.le_of_ble_eq_true rfl) rfl ?_
      refine wp_run rfl ?_
      refine wp_v1 rfl rfl (Nat.le_of_ble_eq_true rfl) (x0_hasAct_in (d := d + 3) hO hC ha) ?_
      refine wp_run rfl ?_
      refine wp_ifne rfl (fun _ => ?_) (fun hz_ => absurd ((by decide : ¬ (1 : Int32) = 0)) hz_)
      refine wp_run rfl ?_
      refine wp_v1 rfl rfl (Nat.le_of_ble_eq_true rfl) (x0_startOf (d := d + 4) hO hC (a := a) (by omega)) ?_
      refine wp_run rfl ?_
      rw [nI_1]
      refine wp_v1 rfl rfl (Nat.le_of_ble_eq_true rfl) (x0_startOf (d := d + 4) hO hC (a := a + 1) (by omega)) ?_
      refine wp_run rfl ?_
      refine wp_sw rfl ?_
      refine wp_run rfl ?_
      by_cases e : a < aAct A (aN A) ∧ (aOff A a).natAbs ≤ aSl A
      · rw [if_pos e] at hf ⊢
        refine wp_v1 rfl rfl (Nat.le_of_ble_eq_true rfl) (hf) ?_
        refine wp_run rfl ?_
        refine wp_ifeq rfl (fun hz_ => absurd hz_ ((by decide : ¬ (1 : Int32) = 0))) (fun _ => ?_)
        refine wp_run rfl ?_
        exact wp_ret rfl rfl ⟨rfl, rfl⟩
      · rw [if_neg e] at hf ⊢
        refine wp_v1 rfl rfl (Nat.le_of_ble_eq_true rfl) (hf) ?_
        refine wp_run rfl ?_
        refine wp_ifeq rfl (fun _ => ?_) (fun hz_ => absurd (rfl) hz_)
        refine wp_run rfl ?_
        exact wp_ret rfl rfl ⟨rfl, rfl⟩
    | 4, _ =>
      have hf := x0_isOpen (ro := ro) (d := d + 4) (Y := Y) (sl := sl) (P := P) (G := G) (tl := tl) hO hC (show a < 2 ^ 31 by omega)
      show axEv ro (d + 7) kX4_ofAct [.ref 0, .int (nI a), .int (nI 4)] (hX B Y sl P G tl) (some (.int (if aAct A (aN A) ≤ a then 1 else 0))) (hX B Y sl P G tl)
      refine ev_in rfl rfl (Nat.le_of_ble_eq_true rfl) rfl ?_
      refine wp_run rfl ?_
      refine wp_v1 rfl rfl (Nat.le_of_ble_eq_true rfl) (x0_hasAct_in (d := d + 3) hO hC ha) ?_
      refine wp_run rfl ?_
      refine wp_ifne rfl (fun _ => ?_) (fun hz_ => absurd ((by decide : ¬ (1 : Int32) = 0)) hz_)
      refine wp_run rfl ?_
      refine wp_v1 rfl rfl (Nat.le_of_ble_eq_true rfl) (x0_startOf (d := d + 4) hO hC (a := a) (by omega)) ?_
      refine wp_run rfl ?_
      rw [nI_1]
      refine wp_v1 rfl rfl (Nat.le_of_ble_eq_true rfl) (x0_startOf (d := d + 4) hO hC (a := a + 1) (by omega)) ?_
      refine wp_run rfl ?_
      refine wp_sw rfl ?_
      refine wp_run rfl ?_
      by_cases e : aAct A (aN A) ≤ a
      · rw [if_pos e] at hf ⊢
        refine wp_v1 rfl rfl (Nat.le_of_ble_eq_true rfl) (hf) ?_
        refine wp_run rfl ?_
        refine wp_ifeq rfl (fun hz_ => absurd hz_ ((by decide : ¬ (1 : Int32) = 0))) (fun _ => ?_)
        refine wp_run rfl ?_
        exact wp_ret rfl rfl ⟨rfl, rfl⟩
      · rw [if_neg e] at hf ⊢
        refine wp_v1 rfl rfl (Nat.le_of_ble_eq_true rfl) (hf) ?_
        refine wp_run rfl ?_
        refine wp_ifeq rfl (fun _ => ?_) (fun hz_ => absurd (rfl) hz_)
        refine wp_run rfl ?_
        exact wp_ret rfl rfl ⟨rfl, rfl⟩
    | 5, _ =>
      refine ev_in rfl rfl (Nat.le_of_ble_eq_true rfl) rfl ?_
      refine wp_run rfl ?_
      refine wp_v1 rfl rfl (Nat.le_of_ble_eq_true rfl) (x0_hasAct_in (d := d + 3) hO hC ha) ?_
      refine wp_run rfl ?_
      refine wp_ifne rfl (fun _ => ?_) (fun hz_ => absurd ((by decide : ¬ (1 : Int32) = 0)) hz_)
      refine wp_run rfl ?_
      refine wp_v1 rfl rfl (Nat.le_of_ble_eq_true rfl) (x0_startOf (d := d + 4) hO hC (a := a) (by omega)) ?_
      refine wp_run rfl ?_
      rw [nI_1]
      refine wp_v1 rfl rfl (Nat.le_of_ble_eq_true rfl) (x0_startOf (d := d + 4) hO hC (a := a + 1) (by omega)) ?_
      refine wp_run rfl ?_
      refine wp_sw rfl ?_
      refine wp_run rfl ?_
      rw [pk_sub hm]
      exact wp_ret rfl rfl ⟨rfl, rfl⟩
    | 6, _ =>
      have hb2 := x0_beatsIn (ro := ro) (d := d + 4) (Y := Y) (sl := sl) (P := P) (G := G) (tl := tl) hO hC (f := 0) (t := aSt A a) (Nat.zero_le _) (by omega)
      refine ev_in rfl rfl (Nat.le_of_ble_eq_true rfl) rfl ?_
      refine wp_run rfl ?_
      refine wp_v1 rfl rfl (Nat.le_of_ble_eq_true rfl) (x0_hasAct_in (d := d + 3) hO hC ha) ?_
      refine wp_run rfl ?_
      refine wp_ifne rfl (fun _ => ?_) (fun hz_ => absurd ((by decide : ¬ (1 : Int32) = 0)) hz_)
      refine wp_run rfl ?_
      refine wp_v1 rfl rfl (Nat.le_of_ble_eq_true rfl) (x0_startOf (d := d + 4) hO hC (a := a) (by omega)) ?_
      refine wp_run rfl ?_
      rw [nI_1]
      refine wp_v1 rfl rfl (Nat.le_of_ble_eq_true rfl) (x0_startOf (d := d + 4) hO hC (a := a + 1) (by omega)) ?_
      refine wp_run rfl ?_
      refine wp_sw rfl ?_
      refine wp_run rfl ?_
      refine wp_v2 rfl rfl (Nat.le_of_ble_eq_true rfl) (hb2) ?_
      refine wp_run rfl ?_
      exact wp_ret rfl rfl ⟨rfl, rfl⟩
    | 7, _ =>
      refine ev_in rfl rfl (Nat.le_of_ble_eq_true rfl) rfl ?_
      refine wp_run rfl ?_
      refine wp_v1 rfl rfl (Nat.le_of_ble_eq_true rfl) (x0_hasAct_in (d := d + 3) hO hC ha) ?_
      refine wp_run rfl ?_
      refine wp_ifne rfl (fun _ => ?_) (fun hz_ => absurd ((by decide : ¬ (1 : Int32) = 0)) hz_)
      refine wp_run rfl ?_
      refine wp_v1 rfl rfl (Nat.le_of_ble_eq_true rfl) (x0_startOf (d := d + 4) hO hC (a := a) (by omega)) ?_
      refine wp_run rfl ?_
      rw [nI_1]
      refine wp_v1 rfl rfl (Nat.le_of_ble_eq_true rfl) (x0_startOf (d := d + 4) hO hC (a := a + 1) (by omega)) ?_
      refine wp_run rfl ?_
      refine wp_sw rfl ?_
      refine wp_run rfl ?_
      refine wp_v2 rfl rfl (Nat.le_of_ble_eq_true rfl) (x0_roomIn (d := d + 3) hO hC hm hl) ?_
      refine wp_run rfl ?_
      exact wp_ret rfl rfl ⟨rfl, rfl⟩
    | n + 8, hk => exact absurd hk (by omega)
  · have ne : ∀ k, k < 8 → y ≠ nI k := fun k hk => sw_out h (by decide) hk
    refine ev_in rfl rfl (Nat.le_of_ble_eq_true rfl) rfl ?_
    refine wp_run rfl ?_
    refine wp_v1 rfl rfl (Nat.le_of_ble_eq_true rfl) (x0_hasAct_in (d := d + 3) hO hC ha) ?_
    refine wp_run rfl ?_
    refine wp_ifne rfl (fun _ => ?_) (fun hz_ => absurd ((by decide : ¬ (1 : Int32) = 0)) hz_)
    refine wp_run rfl ?_
    refine wp_v1 rfl rfl (Nat.le_of_ble_eq_true rfl) (x0_startOf (d := d + 4) hO hC (a := a) (by omega)) ?_
    refine wp_run rfl ?_
    rw [nI_1]
    refine wp_v1 rfl rfl (Nat.le_of_ble_eq_true rfl) (x0_startOf (d := d + 4) hO hC (a := a + 1) (by omega)) ?_
    refine wp_run rfl ?_
    refine wp_sw rfl ?_
    refine axSw_go ⟨ne 0 (by decide), ne 1 (by decide), ne 2 (by decide), ne 3 (by decide), ne 4 (by decide), ne 5 (by decide), ne 6 (by decide), ne 7 (by decide), trivial⟩ ?_
    refine wp_run rfl ?_
    exact wp_ret rfl rfl ⟨rfl, rfl⟩
theorem x4_places_b (hO : aOk A) (hC : CR B A) (hS : spPlaces A x r) : axEv ro (d + 6) kX4_places [.ref 0, .int x] (hX B Y sl P G tl) (some (.int r)) (hX B Y sl P G tl) := by
  have hn := hO.n
  rcases hS with ⟨h, rfl⟩ | ⟨i, ⟨hi, rfl⟩, rfl⟩
  · refine ev_in rfl rfl (Nat.le_of_ble_eq_true rfl) rfl ?_
    refine wp_run rfl ?_
    refine wp_v1 rfl rfl (Nat.le_of_ble_eq_true rfl) (x0_has_out (d := d + 3) hC h) ?_
    refine wp_run rfl ?_
    refine wp_ifne rfl (fun hz_ => absurd hz_ (fun z => z rfl)) (fun _ => ?_)
    refine wp_run rfl ?_
    exact wp_ret rfl rfl ⟨rfl, rfl⟩
  · have hgt := aHi_gt hO hi
    have hle := aHi_le A i
    have hlo := aLo_le hO hi
    have z0 : ∀ q, q ≤ aLo A i → plS A i q = 0 := by
      intro q
      induction q with
      | zero => intro _; rfl
      | succ q ih => intro hq; rw [plS, if_neg (by omega)]; exact ih (by omega)
    have z1 : ∀ q, aHi A i ≤ q → plS A i q = plS A i (aHi A i) := by
      intro q
      induction q with
      | zero => intro hq; rw [show aHi A i = 0 by omega]
      | succ q ih =>
        intro hq
        by_cases e : aHi A i = q + 1
        · rw [e]
        · rw [plS, if_neg (by omega)]; exact ih (by omega)
    have loop : ∀ m q, q + m = aHi A i → aLo A i ≤ q → axW ro (axEv ro (d + 5)) cdX4_places 37 [some (.ref 0), some (.int (nI (aR A i))), some (.int (plS A i q)), some (.int (nI (aHi A i - 1))), some (.int (nI q))] [.int (nI (aHi A i - 1)), .int (nI q)] (hX B Y sl P G tl) (fun r' h' => r' = some (.int (plS A i (aN A))) ∧ h' = (hX B Y sl P G tl)) := by
      intro m
      induction m with
      | zero =>
        intro q e _
        have e : q = aHi A i := by omega
        refine wp_icgt rfl (fun _ => ?_) (fun hz_ => absurd (nI_lt (show aHi A i - 1 < q by omega) (by omega)) hz_)
        refine wp_run rfl ?_
        rw [z1 (aN A) hle, e]
        exact wp_ret rfl rfl ⟨rfl, rfl⟩
      | succ m ih =>
        intro q e hq
        have ih := ih (q + 1) (by omega) (by omega)
        rw [plS, if_pos ⟨hq, by omega⟩] at ih
        refine wp_icgt rfl (fun hz_ => absurd hz_ (nI_nlt (show q ≤ aHi A i - 1 by omega) (by omega))) (fun _ => ?_)
        refine wp_run rfl ?_
        refine wp_s1 rfl (Nat.le_of_ble_eq_true rfl) (x4_bit (show q < 24 by omega)) ?_
        refine wp_run rfl ?_
        rw [nI_1]
        exact ih
    have h0 := loop (aHi A i - aLo A i) (aLo A i) (by omega) (Nat.le_refl _)
    rw [z0 _ (Nat.le_refl _)] at h0
    refine ev_in rfl rfl (Nat.le_of_ble_eq_true rfl) rfl ?_
    refine wp_run rfl ?_
    refine wp_v1 rfl rfl (Nat.le_of_ble_eq_true rfl) (x0_has_in (d := d + 3) hO hC hi) ?_
    refine wp_run rfl ?_
    refine wp_ifne rfl (fun _ => ?_) (fun hz_ => absurd ((by decide : ¬ (1 : Int32) = 0)) hz_)
    refine wp_run rfl ?_
    refine wp_v1 rfl rfl (Nat.le_of_ble_eq_true rfl) (x0_highestPlace (d := d + 3) hO hC hi) ?_
    refine wp_run rfl ?_
    refine wp_v1 rfl rfl (Nat.le_of_ble_eq_true rfl) (x0_lowestPlace (d := d + 2) hO hC hi) ?_
    refine wp_run rfl ?_
    exact h0
theorem x4_ifFitted_b {A' : axAD} (hO : aOk A) (hC : CR B A) (hS : spFit A x r A') : axEv ro (d + 6) kX4_ifFitted [.ref 0, .int x] (hX B Y sl P G tl) (some (.int r)) (hX B Y sl P G tl) := by
  rcases hS with ⟨h, rfl, rfl⟩ | ⟨a, ha, rfl, ⟨h, rfl, rfl⟩ | ⟨h, rfl, rfl⟩⟩
  · refine ev_in rfl rfl (Nat.le_of_ble_eq_true rfl) rfl ?_
    refine wp_run rfl ?_
    refine wp_v1 rfl rfl (Nat.le_of_ble_eq_true rfl) (x0_cutOf_out (d := d + 1) hO hC h) ?_
    refine wp_run rfl ?_
    exact wp_ret rfl rfl ⟨rfl, rfl⟩
  · have := x0_cutOf_in (ro := ro) (d := d + 1) (Y := Y) (sl := sl) (P := P) (G := G) (tl := tl) hO hC ha
    rw [if_neg h] at this
    refine ev_in rfl rfl (Nat.le_of_ble_eq_true rfl) rfl ?_
    refine wp_run rfl ?_
    refine wp_v1 rfl rfl (Nat.le_of_ble_eq_true rfl) (this) ?_
    refine wp_run rfl ?_
    exact wp_ret rfl rfl ⟨rfl, rfl⟩
  · have := x0_cutOf_in (ro := ro) (d := d + 1) (Y := Y) (sl := sl) (P := P) (G := G) (tl := tl) hO hC ha
    rw [if_pos h] at this
    refine ev_in rfl rfl (Nat.le_of_ble_eq_true rfl) rfl ?_
    refine wp_run rfl ?_
    refine wp_v1 rfl rfl (Nat.le_of_ble_eq_true rfl) (this) ?_
    refine wp_run rfl ?_
    exact wp_ret rfl rfl ⟨rfl, rfl⟩
theorem x4_ifTurned_b (hO : aOk A) (hC : CR B A) (hS : spTurned A x r) : axEv ro (d + 6) kX4_ifTurned [.ref 0, .int x] (hX B Y sl P G tl) (some (.int r)) (hX B Y sl P G tl) := by
  rcases hS with ⟨h, rfl⟩ | ⟨i, ⟨hi, rfl⟩, rfl⟩
  · refine ev_in rfl rfl (Nat.le_of_ble_eq_true rfl) rfl ?_
    refine wp_run rfl ?_
    refine wp_v1 rfl rfl (Nat.le_of_ble_eq_true rfl) (x0_has_out (d := d + 3) hC h) ?_
    refine wp_run rfl ?_
    refine wp_ifeq rfl (fun _ => ?_) (fun hz_ => absurd (rfl) hz_)
    refine wp_run rfl ?_
    exact wp_ret rfl rfl ⟨rfl, rfl⟩
  · refine ev_in rfl rfl (Nat.le_of_ble_eq_true rfl) rfl ?_
    refine wp_run rfl ?_
    refine wp_v1 rfl rfl (Nat.le_of_ble_eq_true rfl) (x0_has_in (d := d + 3) hO hC hi) ?_
    refine wp_run rfl ?_
    refine wp_ifeq rfl (fun hz_ => absurd hz_ ((by decide : ¬ (1 : Int32) = 0))) (fun _ => ?_)
    refine wp_run rfl ?_
    refine wp_v1 rfl rfl (Nat.le_of_ble_eq_true rfl) (x0_offIfTurned (d := d + 1) hO hC hi) ?_
    refine wp_run rfl ?_
    exact wp_ret rfl rfl ⟨rfl, rfl⟩
theorem x4_needs_b (hO : aOk A) (hC : CR B A) (hS : spNeeds A x r) : axEv ro (d + 6) kX4_needs [.ref 0, .int x] (hX B Y sl P G tl) (some (.int r)) (hX B Y sl P G tl) := by
  rcases hS with ⟨h, rfl⟩ | ⟨i, ⟨hi, rfl⟩, rfl⟩
  · refine ev_in rfl rfl (Nat.le_of_ble_eq_true rfl) rfl ?_
    refine wp_run rfl ?_
    refine wp_v1 rfl rfl (Nat.le_of_ble_eq_true rfl) (x0_has_out (d := d + 3) hC h) ?_
    refine wp_run rfl ?_
    refine wp_ifeq rfl (fun _ => ?_) (fun hz_ => absurd (rfl) hz_)
    refine wp_run rfl ?_
    exact wp_ret rfl rfl ⟨rfl, rfl⟩
  · refine ev_in rfl rfl (Nat.le_of_ble_eq_true rfl) rfl ?_
    refine wp_run rfl ?_
    refine wp_v1 rfl rfl (Nat.le_of_ble_eq_true rfl) (x0_has_in (d := d + 3) hO hC hi) ?_
    refine wp_run rfl ?_
    refine wp_ifeq rfl (fun hz_ => absurd hz_ ((by decide : ¬ (1 : Int32) = 0))) (fun _ => ?_)
    refine wp_run rfl ?_
    refine wp_v1 rfl rfl (Nat.le_of_ble_eq_true rfl) (x0_allNeedsOf (d := d + 2) hO hC hi) ?_
    refine wp_run rfl ?_
    exact wp_ret rfl rfl ⟨rfl, rfl⟩
end AX48
