/-! THE CLASS: what only reads the board (2): rooms, sums, needs, places. -/
section AX18
variable {ro : axRo} {d : Nat} {h h1 : axH} {B : axBD} {Y : axYD} {sl : Nat → Option Nat} {P : axPD} {G : axGD} {tl : axH} {A : axAD}
theorem aS_diff {f : Nat → Nat} {a q : Nat} (h : a ≤ q) : aS f q - aS f a + f q = aS f (q + 1) - aS f a := by
  have := aS_mono (f := f) h
  rw [aS]; omega
theorem aCan_min {A : axAD} (h : aOk A) {i : Nat} (hi : i < aN A) : aW A (aR A i) * aTr A ≤ 99 * 90 := Nat.mul_le_mul (h.b hi).2.2 h.tr
theorem x0_roomOf (hO : aOk A) (hC : CR B A) {i : Nat} (hi : i < aN A) : axEv ro (d + 2) kX0_roomOf [.ref 1, .int (nI (aR A i))] (hX B Y sl P G tl) (some (.int (nI (aCan A (aR A i))))) (hX B Y sl P G tl) := by
  have h1 := hO.b hi
  have h2 := aCan_min hO hi
  have h3 : aW A (aR A i) * aTr A ≤ aW A (aR A i) * 90 := Nat.mul_le_mul_left _ hO.tr
  refine ev_in rfl rfl (Nat.le_of_ble_eq_true rfl) rfl ?_
  refine wp_run rfl ?_
  refine wp_s2 rfl (Nat.le_of_ble_eq_true rfl) (x4_cell rfl (hO.r hi) (by decide)) ?_
  refine wp_run rfl ?_
  refine wp_s2 rfl (Nat.le_of_ble_eq_true rfl) (x4_cell (j := 2) rfl (by omega) (by decide)) ?_
  refine wp_run rfl ?_
  rw [cr_wr hC hi, cr_tr hC, pk_mul]
  refine wp_idiv rfl (by decide) (pk_div (d := 100) (by omega) (by omega) (by omega)) ?_
  refine wp_run rfl ?_
  rw [pk_sub (by omega)]
  refine wp_max rfl (Nat.le_of_ble_eq_true rfl) ((nI_max (a := 1) (by omega) (by omega))) ?_
  refine wp_run rfl ?_
  refine wp_s2 rfl (Nat.le_of_ble_eq_true rfl) (x4_cell rfl (hO.r hi) (by decide)) ?_
  refine wp_run rfl ?_
  rw [cr_bt hC hi]
  by_cases hle : max 1 (aW A (aR A i) - aW A (aR A i) * aTr A / 100) ≤ aB A (aR A i)
  · rw [pk_sub hle]
    refine wp_max rfl (Nat.le_of_ble_eq_true rfl) ((nI_max (a := 0) (by omega) (by omega))) ?_
    refine wp_run rfl ?_
    exact wp_ret rfl rfl ⟨by rw [Nat.max_eq_right (by omega)]; rfl, rfl⟩
  · rw [show nI (aB A (aR A i)) - nI (max 1 (aW A (aR A i) - aW A (aR A i) * aTr A / 100)) = zI ((aB A (aR A i) : Int) - (max 1 (aW A (aR A i) - aW A (aR A i) * aTr A / 100) : Nat)) by rw [← zI_nI, ← zI_nI, zI_sub]]
    refine wp_max rfl (Nat.le_of_ble_eq_true rfl) (if_neg (by rw [zI_0, zI_lt ⟨by omega, by omega⟩ ⟨by omega, by omega⟩]; omega)) ?_
    refine wp_run rfl ?_
    exact wp_ret rfl rfl ⟨by unfold aCan; rw [show aB A (aR A i) - max 1 (aW A (aR A i) - aW A (aR A i) * aTr A / 100) = 0 by omega]; rfl, rfl⟩
theorem x0_beatsIn (hO : aOk A) (hC : CR B A) {f t : Nat} (hf : f ≤ t) (ht : t ≤ aN A) : axEv ro (d + 2) kX0_beatsIn [.ref 1, .int (nI f), .int (nI t)] (hX B Y sl P G tl) (some (.int (nI (aBeg A t - aBeg A f)))) (hX B Y sl P G tl) := by
  have hn := hO.n
  have loop : ∀ m q, q + m = t → f ≤ q → axW ro (axEv ro (d + 1)) cdX0_beatsIn 8 [some (.ref 1), some (.int (nI f)), some (.int (nI t)), some (.int (nI (aBeg A q - aBeg A f))), some (.int (nI q))] [.int (nI t), .int (nI q)] (hX B Y sl P G tl) (fun r' h' => r' = some (.int (nI (aBeg A t - aBeg A f))) ∧ h' = (hX B Y sl P G tl)) := by
    intro m
    induction m with
    | zero =>
      intro q e _
      have e : q = t := by omega
      subst e
      refine wp_icge rfl (fun _ => ?_) (fun hz_ => absurd (nI_le (Nat.le_refl _) (by omega)) hz_)
      refine wp_run rfl ?_
      exact wp_ret rfl rfl ⟨rfl, rfl⟩
    | succ m ih =>
      intro q e hq
      have hqn : q < aN A := by omega
      refine wp_icge rfl (fun hz_ => absurd hz_ (nI_ge (show q < t by omega) (by omega))) (fun _ => ?_)
      refine wp_run rfl ?_
      refine wp_s2 rfl (Nat.le_of_ble_eq_true rfl) (x4_cell rfl (show q < 24 by omega) (by decide)) ?_
      refine wp_run rfl ?_
      rw [cr_rw hC hqn]
      refine wp_s2 rfl (Nat.le_of_ble_eq_true rfl) (x4_cell rfl (hO.r hqn) (by decide)) ?_
      refine wp_run rfl ?_
      rw [cr_bt hC hqn, nI_add, nI_1, show aBeg A q - aBeg A f + aB A (aR A q) = aBeg A (q + 1) - aBeg A f from aS_diff hq]
      exact ih (q + 1) (by omega) (by omega)
  refine ev_in rfl rfl (Nat.le_of_ble_eq_true rfl) rfl ?_
  refine wp_run rfl ?_
  have := loop (t - f) f (by omega) (Nat.le_refl _)
  rw [Nat.sub_self] at this
  exact this
theorem x0_roomIn (hO : aOk A) (hC : CR B A) {f t : Nat} (hf : f ≤ t) (ht : t ≤ aN A) : axEv ro (d + 3) kX0_roomIn [.ref 1, .int (nI f), .int (nI t)] (hX B Y sl P G tl) (some (.int (nI (aRm A t - aRm A f)))) (hX B Y sl P G tl) := by
  have hn := hO.n
  have loop : ∀ m q, q + m = t → f ≤ q → axW ro (axEv ro (d + 2)) cdX0_roomIn 8 [some (.ref 1), some (.int (nI f)), some (.int (nI t)), some (.int (nI (aRm A q - aRm A f))), some (.int (nI q))] [.int (nI t), .int (nI q)] (hX B Y sl P G tl) (fun r' h' => r' = some (.int (nI (aRm A t - aRm A f))) ∧ h' = (hX B Y sl P G tl)) := by
    intro m
    induction m with
    | zero =>
      intro q e _
      have e : q = t := by omega
      subst e
      refine wp_icge rfl (fun _ => ?_) (fun hz_ => absurd (nI_le (Nat.le_refl _) (by omega)) hz_)
      refine wp_run rfl ?_
      exact wp_ret rfl rfl ⟨rfl, rfl⟩
    | succ m ih =>
      intro q e hq
      have hqn : q < aN A := by omega
      refine wp_icge rfl (fun hz_ => absurd hz_ (nI_ge (show q < t by omega) (by omega))) (fun _ => ?_)
      refine wp_run rfl ?_
      refine wp_s2 rfl (Nat.le_of_ble_eq_true rfl) (x4_cell rfl (show q < 24 by omega) (by decide)) ?_
      refine wp_run rfl ?_
      rw [cr_rw hC hqn]
      refine wp_v1 rfl rfl (Nat.le_of_ble_eq_true rfl) (x0_roomOf hO hC hqn) ?_
      refine wp_run rfl ?_
      rw [nI_add, nI_1, show aRm A q - aRm A f + aCan A (aR A q) = aRm A (q + 1) - aRm A f from aS_diff hq]
      exact ih (q + 1) (by omega) (by omega)
  refine ev_in rfl rfl (Nat.le_of_ble_eq_true rfl) rfl ?_
  refine wp_run rfl ?_
  have := loop (t - f) f (by omega) (Nat.le_refl _)
  rw [Nat.sub_self] at this
  exact this
theorem x0_allBeats (hO : aOk A) (hC : CR B A) : axEv ro (d + 3) kX0_allBeats [.ref 1] (hX B Y sl P G tl) (some (.int (nI (aBeg A (aN A))))) (hX B Y sl P G tl) := by
  refine ev_in rfl rfl (Nat.le_of_ble_eq_true rfl) rfl ?_
  refine wp_run rfl ?_
  rw [cr_sz hC]
  refine wp_v2 rfl rfl (Nat.le_of_ble_eq_true rfl) (x0_beatsIn (f := 0) hO hC (Nat.zero_le _) (Nat.le_refl _)) ?_
  refine wp_run rfl ?_
  exact wp_ret rfl rfl ⟨rfl, rfl⟩
theorem x0_turnsAhead (hO : aOk A) (hC : CR B A) {t : Nat} (ht : t ≤ aN A) : axEv ro (d + 2) kX0_turnsAhead [.ref 1, .int (nI t)] (hX B Y sl P G tl) (some (.int (nI (aAct A t)))) (hX B Y sl P G tl) := by
  have hn := hO.n
  have loop : ∀ m q, q + m = t → axW ro (axEv ro (d + 1)) cdX0_turnsAhead 6 [some (.ref 1), some (.int (nI t)), some (.int (nI (aAct A q))), some (.int (nI q))] [.int (nI t), .int (nI q)] (hX B Y sl P G tl) (fun r' h' => r' = some (.int (nI (aAct A t))) ∧ h' = (hX B Y sl P G tl)) := by
    intro m
    induction m with
    | zero =>
      intro q e
      have e : q = t := by omega
      subst e
      refine wp_icge rfl (fun _ => ?_) (fun hz_ => absurd (nI_le (Nat.le_refl _) (by omega)) hz_)
      refine wp_run rfl ?_
      exact wp_ret rfl rfl ⟨rfl, rfl⟩
    | succ m ih =>
      intro q e
      have hqn : q < aN A := by omega
      refine wp_icge rfl (fun hz_ => absurd hz_ (nI_ge (show q < t by omega) (by omega))) (fun _ => ?_)
      refine wp_run rfl ?_
      refine wp_s2 rfl (Nat.le_of_ble_eq_true rfl) (x4_cell rfl (show q < 24 by omega) (by decide)) ?_
      refine wp_run rfl ?_
      rw [cr_rw hC hqn]
      refine wp_s2 rfl (Nat.le_of_ble_eq_true rfl) (x4_contains_in (hO.r hqn)) ?_
      refine wp_run rfl ?_
      rw [cr_tnr hC hqn]
      have e1 : aAct A (q + 1) = aAct A q + (if aT A (aR A q) = true then 1 else 0) := rfl
      cases ht : aT A (aR A q) with
      | true =>
        rw [ht] at e1
        refine wp_ifeq rfl (fun hz_ => absurd hz_ ((by decide : ¬ (1 : Int32) = 0))) (fun _ => ?_)
        refine wp_run rfl ?_
        rw [nI_1, nI_1, show aAct A q + 1 = aAct A (q + 1) by rw [e1]; rfl]
        exact ih (q + 1) (by omega)
      | false =>
        rw [ht] at e1
        refine wp_ifeq rfl (fun _ => ?_) (fun hz_ => absurd (rfl) hz_)
        refine wp_run rfl ?_
        rw [nI_1, show aAct A q = aAct A (q + 1) by rw [e1]; rfl]
        exact ih (q + 1) (by omega)
  refine ev_in rfl rfl (Nat.le_of_ble_eq_true rfl) rfl ?_
  refine wp_run rfl ?_
  exact loop t 0 (by omega)
/-- the slug that runs at a beat: the first place whose end is behind it -/
def aAtB (A : axAD) (x : Nat) : Nat := bc (fun p => decide (aBeg A (p + 1) ≤ x)) (aN A)
theorem bc_pre {p : Nat → Bool} : ∀ (n : Nat), (∀ q, q + 1 < n → p (q + 1) = true → p q = true) → ∀ q, q < bc p n ↔ (q < n ∧ p q = true)
  | 0, _, q => by simp [bc]
  | n + 1, h, q => by
    have ih := bc_pre n (fun q hq => h q (by omega))
    have hall : p n = true → ∀ j, j ≤ n → p (n - j) = true := by
      intro hn j
      induction j with
      | zero => intro _; exact hn
      | succ j ihj =>
        intro hj
        have := ihj (by omega)
        apply h (n - (j + 1)) (by omega)
        rw [show n - (j + 1) + 1 = n - j by omega]; exact this
    rw [bc]
    by_cases hn : p n = true
    · rw [if_pos hn]
      have e : bc p n = n := by
        rcases Nat.lt_or_ge (bc p n) n with z | z
        · have h1 := (ih (bc p n)).mpr ⟨z, by have := hall hn (n - bc p n) (by omega); rw [show n - (n - bc p n) = bc p n by omega] at this; exact this⟩
          omega
        · have := bc_le p n; omega
      rw [e]
      constructor
      · intro hq
        exact ⟨hq, by have := hall hn (n - q) (by omega); rw [show n - (n - q) = q by omega] at this; exact this⟩
      · intro hq; exact hq.1
    · rw [if_neg hn, Nat.add_zero]
      constructor
      · intro hq
        have := (ih q).mp hq
        exact ⟨by omega, this.2⟩
      · intro hq
        apply (ih q).mpr
        refine ⟨?_, hq.2⟩
        by_cases e : q = n
        · rw [e] at hq; exact absurd hq.2 hn
        · omega
theorem aAtB_lt (A : axAD) (x q : Nat) : q < aAtB A x ↔ (q < aN A ∧ aBeg A (q + 1) ≤ x) := by
  unfold aAtB
  rw [bc_pre (aN A) (fun q _ hq => by
    rw [decide_eq_true_eq] at *
    have : aBeg A (q + 1) ≤ aBeg A (q + 1 + 1) := aS_mono (by omega)
    omega) q, decide_eq_true_eq]
theorem aAtB_le (A : axAD) (x : Nat) : aAtB A x ≤ aN A := bc_le _ _
theorem x0_slugAtBeat (hO : aOk A) (hC : CR B A) {x : Nat} (hx : x < 2 ^ 31) : axEv ro (d + 3) kX0_slugAtBeat [.ref 1, .int (nI x)] (hX B Y sl P G tl) (some (.int (if aAtB A x < aN A then nI (aR A (aAtB A x)) else -6))) (hX B Y sl P G tl) := by
  have hn := hO.n
  have loop : ∀ m q, q + m = aAtB A x → ∀ v : Option Value, axW ro (axEv ro (d + 2)) cdX0_slugAtBeat 9 [some (.ref 1), some (.int (nI x)), some (.int (nI (aBeg A q))), some (.int (nI q)), v] [.int (bSz B), .int (nI q)] (hX B Y sl P G tl) (fun r' h' => r' = some (.int (if aAtB A x < aN A then nI (aR A (aAtB A x)) else -6)) ∧ h' = (hX B Y sl P G tl)) := by
    intro m
    induction m with
    | zero =>
      intro q e v
      have e : q = aAtB A x := by omega
      rw [cr_sz hC]
      by_cases hlt : q < aN A
      · refine wp_icge rfl (fun hz_ => absurd hz_ (nI_ge hlt (by omega))) (fun _ => ?_)
        refine wp_run rfl ?_
        refine wp_s2 rfl (Nat.le_of_ble_eq_true rfl) (x4_cell rfl (show q < 24 by omega) (by decide)) ?_
        refine wp_run rfl ?_
        rw [cr_rw hC hlt]
        refine wp_v1 rfl rfl (Nat.le_of_ble_eq_true rfl) (x0_beatsOf hO hC hlt) ?_
        refine wp_run rfl ?_
        have h3 : aBeg A (q + 1) = aBeg A q + aB A (aR A q) := rfl
        have h4 : ¬ aBeg A (q + 1) ≤ x := fun z => by have := (aAtB_lt A x q).mpr ⟨hlt, z⟩; omega
        have h5 := aBeg_le hO (show q + 1 ≤ aN A by omega)
        rw [nI_add, ← h3]
        refine wp_icge rfl (fun hz_ => absurd hz_ (nI_ge (show x < aBeg A (q + 1) by omega) (by omega))) (fun _ => ?_)
        refine wp_run rfl ?_
        exact wp_ret rfl rfl ⟨by rw [← e, if_pos hlt], rfl⟩
      · have := aAtB_le A x
        refine wp_icge rfl (fun _ => ?_) (fun hz_ => absurd (nI_le (show aN A ≤ q by omega) (by omega)) hz_)
        refine wp_run rfl ?_
        exact wp_ret rfl rfl ⟨by rw [← e, if_neg hlt], rfl⟩
    | succ m ih =>
      intro q e v
      obtain ⟨hlt, h4⟩ := (aAtB_lt A x q).mp (by omega)
      rw [cr_sz hC]
      refine wp_icge rfl (fun hz_ => absurd hz_ (nI_ge hlt (by omega))) (fun _ => ?_)
      refine wp_run rfl ?_
      refine wp_s2 rfl (Nat.le_of_ble_eq_true rfl) (x4_cell rfl (show q < 24 by omega) (by decide)) ?_
      refine wp_run rfl ?_
      rw [cr_rw hC hlt]
      refine wp_v1 rfl rfl (Nat.le_of_ble_eq_true rfl) (x0_beatsOf hO hC hlt) ?_
      refine wp_run rfl ?_
      have h3 : aBeg A (q + 1) = aBeg A q + aB A (aR A q) := rfl
      rw [nI_add, ← h3]
      refine wp_icge rfl (fun _ => ?_) (fun hz_ => absurd (nI_le h4 hx) hz_)
      refine wp_run rfl ?_
      rw [nI_1]
      exact ih (q + 1) (by omega) _
  refine ev_in rfl rfl (Nat.le_of_ble_eq_true rfl) rfl ?_
  refine wp_run rfl ?_
  exact loop (aAtB A x) 0 (by omega) _
end AX18
