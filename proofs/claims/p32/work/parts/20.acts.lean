/-! THE CLASS: acts. -/
/-- how many acts; where an act begins; its target; by how much it is off; is it open; does it fit -/
def aActs (A : axAD) : Nat := if aN A = 0 then 0 else aAct A (aN A - 1) + 1
def aSt (A : axAD) (a : Nat) : Nat := bc (fun q => decide (aAct A q < a)) (aN A)
def aTgt (A : axAD) (a : Nat) : Nat := aTg A (min a 5)
def aOff (A : axAD) (a : Nat) : Int := ((aBeg A (aSt A (a + 1)) - aBeg A (aSt A a) : Nat) : Int) - (aTgt A a : Int)
theorem aSt_lt (A : axAD) (a q : Nat) : q < aSt A a ↔ (q < aN A ∧ aAct A q < a) := by
  unfold aSt
  rw [bc_pre (aN A) (fun q _ hq => by
    rw [decide_eq_true_eq] at *
    have : aAct A q ≤ aAct A (q + 1) := aS_mono (by omega)
    omega) q, decide_eq_true_eq]
theorem aSt_le (A : axAD) (a : Nat) : aSt A a ≤ aN A := bc_le _ _
theorem aSt_mono (A : axAD) {a b : Nat} (h : a ≤ b) : aSt A a ≤ aSt A b := by
  rcases Nat.lt_or_ge (aSt A b) (aSt A a) with z | z
  · have h1 := (aSt_lt A a (aSt A b)).mp z
    have h2 := (aSt_lt A b (aSt A b)).mpr ⟨h1.1, by omega⟩
    omega
  · exact z
theorem aTgt_le {A : axAD} (h : aOk A) (a : Nat) : 1 ≤ aTgt A a ∧ aTgt A a ≤ 999 := h.tg (by omega)
theorem aActs_le (A : axAD) : aActs A ≤ aN A := by
  unfold aActs
  split
  · omega
  · have := aAct_le (A := A) (aN A - 1); omega
theorem aOff_b {A : axAD} (h : aOk A) (a : Nat) : -999 ≤ aOff A a ∧ aOff A a ≤ 2376 := by
  have h1 := aTgt_le h a
  have h2 := aBeg_le h (aSt_le A (a + 1))
  have h3 := aSt_le A (a + 1)
  have h4 := h.n
  unfold aOff
  omega
theorem bc_point {f : Nat → Bool} {a : Nat} {c : Bool} (hf : f a = false) : ∀ N, bc (fun k => f k || (decide (k = a) && c)) N = bc f N + (if a < N ∧ c = true then 1 else 0)
  | 0 => by simp [bc]
  | N + 1 => by
    rw [bc, bc, bc_point hf N]
    by_cases e : N = a
    · subst e
      rw [hf]
      cases c
      · simp
      · simp
    · have : decide (N = a) = false := decide_eq_false e
      rw [this]
      simp only [Bool.false_and, Bool.or_false]
      by_cases h1 : a < N
      · have : a < N + 1 := by omega
        simp only [h1, this, true_and]; omega
      · have : ¬ a < N + 1 := by omega
        simp only [h1, this, false_and, if_false, Nat.add_zero]
theorem bc_row {r : Nat → Nat} {t : Nat → Bool} {n N : Nat} (hr : ∀ i, i < n → r i < N) (inj : ∀ i j, i < n → j < n → r i = r j → i = j) : ∀ p, p ≤ n → ∀ f : Nat → Bool, (∀ k, f k = true ↔ ∃ i, i < p ∧ r i = k ∧ t k = true) → bc f N = aS (fun i => if t (r i) = true then 1 else 0) p
  | 0, _, f, hf => by
    have : ∀ k, k < N → f k = (fun _ => false) k := fun k _ => by
      cases h : f k with
      | false => rfl
      | true => obtain ⟨i, hi, _⟩ := (hf k).mp h; omega
    rw [bc_cong N this]
    have z : ∀ N, bc (fun _ => false) N = 0 := by
      intro N
      induction N with
      | zero => rfl
      | succ N ih => rw [bc, ih]; rfl
    rw [z]; rfl
  | p + 1, hp, f, hf => by
    have ih := bc_row (t := t) hr inj p (by omega)
    obtain ⟨g, hg⟩ : ∃ g : Nat → Bool, ∀ k, g k = true ↔ ∃ i, i < p ∧ r i = k ∧ t k = true := ⟨fun k => @decide _ (Classical.propDecidable (∃ i, i < p ∧ r i = k ∧ t k = true)), fun k => by simp⟩
    have hgp : g (r p) = false := by
      cases h : g (r p) with
      | false => rfl
      | true =>
        obtain ⟨i, hi, e, _⟩ := (hg (r p)).mp h
        have := inj i p (by omega) (by omega) e
        omega
    have e : ∀ k, k < N → f k = (fun k => g k || (decide (k = r p) && t (r p))) k := by
      intro k _
      have h1 := hf k
      have h2 := hg k
      show f k = (g k || (decide (k = r p) && t (r p)))
      cases hfk : f k
      · cases hgk : g k
        · by_cases ek : k = r p
          · subst ek
            cases ht : t (r p)
            · simp
            · exact absurd (h1.mpr ⟨p, by omega, rfl, ht⟩) (by rw [hfk]; decide)
          · simp [ek]
        · obtain ⟨i, hi, q1, q2⟩ := h2.mp hgk
          exact absurd (h1.mpr ⟨i, by omega, q1, q2⟩) (by rw [hfk]; decide)
      · obtain ⟨i, hi, q1, q2⟩ := h1.mp hfk
        by_cases ei : i = p
        · subst ei
          subst q1
          simp [q2]
        · have := h2.mpr ⟨i, by omega, q1, q2⟩
          rw [this]; rfl
    rw [bc_cong N e, bc_point hgp, ih g hg, aS]
    congr 1
    have := hr p (by omega)
    cases t (r p)
    · simp
    · simp [this]
section AX20
variable {ro : axRo} {d : Nat} {h h1 : axH} {B : axBD} {Y : axYD} {sl : Nat → Option Nat} {P : axPD} {G : axGD} {tl : axH} {A : axAD}
theorem aTurns (hO : aOk A) (hC : CR B A) : pcN (bTn B) = aAct A (aN A) := by
  unfold pcN aAct
  refine bc_row (r := aR A) (t := aT A) (n := aN A) (fun i hi => by have := hO.r hi; omega) (fun i j hi hj e => hO.inj hi hj e) (aN A) (Nat.le_refl _) _ (fun k => ?_)
  rw [cr_tn hC k]
  constructor
  · rintro ⟨⟨i, hi, e⟩, ht⟩
    exact ⟨i, hi, e, ht⟩
  · rintro ⟨i, hi, e, ht⟩
    exact ⟨⟨i, hi, e⟩, ht⟩
theorem x0_actCount (hO : aOk A) (hC : CR B A) : axEv ro (d + 2) kX0_actCount [.ref 1] (hX B Y sl P G tl) (some (.int (nI (aActs A)))) (hX B Y sl P G tl) := by
  have hn := hO.n
  have ha := aAct_le (A := A) (aN A)
  have ht := aTurns hO hC
  refine ev_in rfl rfl (Nat.le_of_ble_eq_true rfl) rfl ?_
  refine wp_run rfl ?_
  rw [cr_sz hC]
  by_cases h0 : aN A = 0
  · refine wp_ifle rfl (fun _ => ?_) (fun hz_ => absurd (by rw [h0]; decide) hz_)
    refine wp_run rfl ?_
    refine wp_s1 rfl (Nat.le_of_ble_eq_true rfl) (xJ_bitCount _) ?_
    refine wp_run rfl ?_
    refine wp_ifeq rfl (fun _ => ?_) (fun hz_ => absurd (rfl) hz_)
    refine wp_run rfl ?_
    rw [ht, show aAct A (aN A) = 0 by omega]
    exact wp_ret rfl rfl ⟨by unfold aActs; rw [if_pos h0]; rfl, rfl⟩
  · have hp : aN A - 1 < aN A := by omega
    refine wp_ifle rfl (fun hz_ => absurd hz_ (nI_nle (by omega) (by omega))) (fun _ => ?_)
    refine wp_run rfl ?_
    rw [cr_sz hC, nI_p1 (by omega)]
    refine wp_s2 rfl (Nat.le_of_ble_eq_true rfl) (x4_cell rfl (show aN A - 1 < 24 by omega) (by decide)) ?_
    refine wp_run rfl ?_
    rw [cr_rw hC hp]
    refine wp_s2 rfl (Nat.le_of_ble_eq_true rfl) (x4_contains_in (hO.r hp)) ?_
    refine wp_run rfl ?_
    rw [cr_tnr hC hp]
    have e1 : aAct A (aN A - 1 + 1) = aAct A (aN A - 1) + (if aT A (aR A (aN A - 1)) = true then 1 else 0) := rfl
    rw [show aN A - 1 + 1 = aN A by omega] at e1
    cases hb : aT A (aR A (aN A - 1)) with
    | true =>
      rw [hb] at e1
      refine wp_ifne rfl (fun _ => ?_) (fun hz_ => absurd ((by decide : ¬ (1 : Int32) = 0)) hz_)
      refine wp_run rfl ?_
      refine wp_s1 rfl (Nat.le_of_ble_eq_true rfl) (xJ_bitCount _) ?_
      refine wp_run rfl ?_
      refine wp_ifeq rfl (fun _ => ?_) (fun hz_ => absurd (rfl) hz_)
      refine wp_run rfl ?_
      rw [ht, e1]
      exact wp_ret rfl rfl ⟨by unfold aActs; rw [if_neg h0]; exact congrArg (fun z => some (Value.int z)) (Int32.add_zero _), rfl⟩
    | false =>
      rw [hb] at e1
      refine wp_ifne rfl (fun hz_ => absurd hz_ (fun z => z rfl)) (fun _ => ?_)
      refine wp_run rfl ?_
      refine wp_s1 rfl (Nat.le_of_ble_eq_true rfl) (xJ_bitCount _) ?_
      refine wp_run rfl ?_
      refine wp_ifeq rfl (fun hz_ => absurd hz_ ((by decide : ¬ (1 : Int32) = 0))) (fun _ => ?_)
      refine wp_run rfl ?_
      rw [ht, e1, nI_1]
      exact wp_ret rfl rfl ⟨by unfold aActs; rw [if_neg h0]; rfl, rfl⟩
theorem x0_hasAct_in (hO : aOk A) (hC : CR B A) {a : Nat} (ha : a < aActs A) : axEv ro (d + 3) kX0_hasAct [.ref 1, .int (nI a)] (hX B Y sl P G tl) (some (.int 1)) (hX B Y sl P G tl) := by
  have hn := hO.n
  have hl := aActs_le A
  refine ev_in rfl rfl (Nat.le_of_ble_eq_true rfl) rfl ?_
  refine wp_run rfl ?_
  refine wp_iflt rfl (fun hz_ => absurd hz_ (nI_pos (by omega))) (fun _ => ?_)
  refine wp_run rfl ?_
  refine wp_v0 rfl rfl (Nat.le_of_ble_eq_true rfl) (x0_actCount hO hC) ?_
  refine wp_run rfl ?_
  refine wp_icge rfl (fun hz_ => absurd hz_ (nI_ge ha (by omega))) (fun _ => ?_)
  refine wp_run rfl ?_
  exact wp_ret rfl rfl ⟨rfl, rfl⟩
theorem x0_hasAct_out (hO : aOk A) (hC : CR B A) {y : Int32} (hy : y < 0 ∨ nI (aActs A) ≤ y) : axEv ro (d + 3) kX0_hasAct [.ref 1, .int y] (hX B Y sl P G tl) (some (.int 0)) (hX B Y sl P G tl) := by
  refine ev_in rfl rfl (Nat.le_of_ble_eq_true rfl) rfl ?_
  refine wp_run rfl ?_
  refine wp_iflt rfl (fun q => ?_) (fun q => ?_)
  · refine wp_run rfl ?_
    exact wp_ret rfl rfl ⟨rfl, rfl⟩
  · refine wp_run rfl ?_
    refine wp_v0 rfl rfl (Nat.le_of_ble_eq_true rfl) (x0_actCount hO hC) ?_
    refine wp_run rfl ?_
    refine wp_icge rfl (fun q2 => ?_) (fun q2 => ?_)
    · refine wp_run rfl ?_
      exact wp_ret rfl rfl ⟨rfl, rfl⟩
    · exact absurd hy (fun z => z.elim q q2)
theorem x0_startOf (hO : aOk A) (hC : CR B A) {a : Nat} (ha : a < 2 ^ 31) : axEv ro (d + 2) kX0_startOf [.ref 1, .int (nI a)] (hX B Y sl P G tl) (some (.int (nI (aSt A a)))) (hX B Y sl P G tl) := by
  have hn := hO.n
  have hl := aSt_le A a
  have loop : ∀ m q, q + m = aSt A a → axW ro (axEv ro (d + 1)) cdX0_startOf 9 [some (.ref 1), some (.int (nI a)), some (.int (nI q)), some (.int (nI (a - aAct A q)))] [.int (bSz B), .int (nI q)] (hX B Y sl P G tl) (fun r' h' => r' = some (.int (nI (aSt A a))) ∧ h' = (hX B Y sl P G tl)) := by
    intro m
    induction m with
    | zero =>
      intro q e
      have e : q = aSt A a := by omega
      subst e
      rw [cr_sz hC]
      by_cases hq : aSt A a < aN A
      · have h1 : ¬ aAct A (aSt A a) < a := fun z => by have := (aSt_lt A a (aSt A a)).mpr ⟨hq, z⟩; omega
        refine wp_icge rfl (fun hz_ => absurd hz_ (nI_ge hq (by omega))) (fun _ => ?_)
        refine wp_run rfl ?_
        refine wp_ifle rfl (fun _ => ?_) (fun hz_ => absurd (by rw [show a - aAct A (aSt A a) = 0 by omega]; decide) hz_)
        refine wp_run rfl ?_
        exact wp_ret rfl rfl ⟨rfl, rfl⟩
      · refine wp_icge rfl (fun _ => ?_) (fun hz_ => absurd (nI_le (show aN A ≤ aSt A a by omega) (by omega)) hz_)
        refine wp_run rfl ?_
        exact wp_ret rfl rfl ⟨rfl, rfl⟩
    | succ m ih =>
      intro q e
      obtain ⟨hq, h1⟩ := (aSt_lt A a q).mp (by omega)
      rw [cr_sz hC]
      refine wp_icge rfl (fun hz_ => absurd hz_ (nI_ge hq (by omega))) (fun _ => ?_)
      refine wp_run rfl ?_
      refine wp_ifle rfl (fun hz_ => absurd hz_ (nI_nle (show 0 < a - aAct A q by omega) (by omega))) (fun _ => ?_)
      refine wp_run rfl ?_
      refine wp_s2 rfl (Nat.le_of_ble_eq_true rfl) (x4_cell rfl (show q < 24 by omega) (by decide)) ?_
      refine wp_run rfl ?_
      rw [cr_rw hC hq]
      refine wp_s2 rfl (Nat.le_of_ble_eq_true rfl) (x4_contains_in (hO.r hq)) ?_
      refine wp_run rfl ?_
      rw [cr_tnr hC hq]
      have e1 : aAct A (q + 1) = aAct A q + (if aT A (aR A q) = true then 1 else 0) := rfl
      cases hb : aT A (aR A q) with
      | true =>
        rw [hb] at e1
        refine wp_ifeq rfl (fun hz_ => absurd hz_ ((by decide : ¬ (1 : Int32) = 0))) (fun _ => ?_)
        refine wp_run rfl ?_
        have e2 : nI (a - aAct A q) + (-1) = nI (a - aAct A (q + 1)) := by
          rw [e1, show a - aAct A q = (a - (aAct A q + if true = true then 1 else 0)) + 1 by simp; omega, pk_m1]
        rw [e2, nI_1]
        exact ih (q + 1) (by omega)
      | false =>
        rw [hb] at e1
        refine wp_ifeq rfl (fun _ => ?_) (fun hz_ => absurd (rfl) hz_)
        refine wp_run rfl ?_
        rw [nI_1, show aAct A q = aAct A (q + 1) by rw [e1]; rfl]
        exact ih (q + 1) (by omega)
  refine ev_in rfl rfl (Nat.le_of_ble_eq_true rfl) rfl ?_
  refine wp_run rfl ?_
  exact loop (aSt A a) 0 (by omega)
theorem x0_targetOf (hO : aOk A) (hC : CR B A) {a : Nat} (ha : a < 2 ^ 31) : axEv ro (d + 2) kX0_targetOf [.ref 1, .int (nI a)] (hX B Y sl P G tl) (some (.int (nI (aTgt A a)))) (hX B Y sl P G tl) := by
  refine ev_in rfl rfl (Nat.le_of_ble_eq_true rfl) rfl ?_
  refine wp_run rfl ?_
  refine wp_min rfl (Nat.le_of_ble_eq_true rfl) ((nI_min (b := 5) ha (by omega))) ?_
  refine wp_run rfl ?_
  refine wp_s2 rfl (Nat.le_of_ble_eq_true rfl) (x4_cell rfl (show min a 5 < 6 by omega) (by decide)) ?_
  refine wp_run rfl ?_
  rw [cr_tg hC (show min a 5 < 6 by omega)]
  exact wp_ret rfl rfl ⟨rfl, rfl⟩
theorem x0_offOf (hO : aOk A) (hC : CR B A) {a : Nat} (ha : a < 2 ^ 30) : axEv ro (d + 3) kX0_offOf [.ref 1, .int (nI a)] (hX B Y sl P G tl) (some (.int (zI (aOff A a)))) (hX B Y sl P G tl) := by
  refine ev_in rfl rfl (Nat.le_of_ble_eq_true rfl) rfl ?_
  refine wp_run rfl ?_
  refine wp_v1 rfl rfl (Nat.le_of_ble_eq_true rfl) (x0_startOf hO hC (by omega)) ?_
  refine wp_run rfl ?_
  rw [nI_1]
  refine wp_v1 rfl rfl (Nat.le_of_ble_eq_true rfl) (x0_startOf hO hC (by omega)) ?_
  refine wp_run rfl ?_
  refine wp_v2 rfl rfl (Nat.le_of_ble_eq_true rfl) (x0_beatsIn hO hC (aSt_mono A (by omega)) (aSt_le A _)) ?_
  refine wp_run rfl ?_
  refine wp_v1 rfl rfl (Nat.le_of_ble_eq_true rfl) (x0_targetOf hO hC (by omega)) ?_
  refine wp_run rfl ?_
  rw [show nI (aBeg A (aSt A (a + 1)) - aBeg A (aSt A a)) - nI (aTgt A a) = zI (aOff A a) by unfold aOff; rw [← zI_nI, ← zI_nI, zI_sub]]
  exact wp_ret rfl rfl ⟨rfl, rfl⟩
theorem x0_isOpen (hO : aOk A) (hC : CR B A) {a : Nat} (ha : a < 2 ^ 31) : axEv ro (d + 2) kX0_isOpen [.ref 1, .int (nI a)] (hX B Y sl P G tl) (some (.int (if aAct A (aN A) ≤ a then 1 else 0))) (hX B Y sl P G tl) := by
  have hl := aAct_le (A := A) (aN A)
  have hn := hO.n
  refine ev_in rfl rfl (Nat.le_of_ble_eq_true rfl) rfl ?_
  refine wp_run rfl ?_
  refine wp_s1 rfl (Nat.le_of_ble_eq_true rfl) (xJ_bitCount _) ?_
  refine wp_run rfl ?_
  rw [aTurns hO hC]
  by_cases h : aAct A (aN A) ≤ a
  · rw [if_pos h]
    refine wp_iclt rfl (fun hz_ => absurd hz_ (nI_nlt h (by omega))) (fun _ => ?_)
    refine wp_run rfl ?_
    exact wp_ret rfl rfl ⟨rfl, rfl⟩
  · rw [if_neg h]
    refine wp_iclt rfl (fun _ => ?_) (fun hz_ => absurd (nI_lt (show a < aAct A (aN A) by omega) (by omega)) hz_)
    refine wp_run rfl ?_
    exact wp_ret rfl rfl ⟨rfl, rfl⟩
theorem x0_isFitting (hO : aOk A) (hC : CR B A) {a : Nat} (ha : a < 2 ^ 30) : axEv ro (d + 4) kX0_isFitting [.ref 1, .int (nI a)] (hX B Y sl P G tl) (some (.int (if a < aAct A (aN A) ∧ (aOff A a).natAbs ≤ aSl A then 1 else 0))) (hX B Y sl P G tl) := by
  have hb := aOff_b hO a
  have hs := hO.sl
  refine ev_in rfl rfl (Nat.le_of_ble_eq_true rfl) rfl ?_
  refine wp_run rfl ?_
  refine wp_v1 rfl rfl (Nat.le_of_ble_eq_true rfl) (x0_isOpen hO hC (by omega)) ?_
  refine wp_run rfl ?_
  by_cases h : aAct A (aN A) ≤ a
  · rw [if_pos h, if_neg (fun z => by omega)]
    refine wp_ifne rfl (fun _ => ?_) (fun hz_ => absurd ((by decide : ¬ (1 : Int32) = 0)) hz_)
    refine wp_run rfl ?_
    exact wp_ret rfl rfl ⟨rfl, rfl⟩
  · rw [if_neg h]
    refine wp_ifne rfl (fun hz_ => absurd hz_ (fun z => z rfl)) (fun _ => ?_)
    refine wp_run rfl ?_
    refine wp_v1 rfl rfl (Nat.le_of_ble_eq_true rfl) (x0_offOf hO hC ha) ?_
    refine wp_run rfl ?_
    refine wp_abs rfl (Nat.le_of_ble_eq_true rfl) ((zI_abs (by omega) (by omega))) ?_
    refine wp_run rfl ?_
    refine wp_v1 rfl rfl (Nat.le_of_ble_eq_true rfl) (x0_settingOf (j := 1) (by omega)) ?_
    refine wp_run rfl ?_
    rw [cr_sl hC]
    by_cases h2 : (aOff A a).natAbs ≤ aSl A
    · rw [if_pos ⟨by omega, h2⟩]
      refine wp_icgt rfl (fun hz_ => absurd hz_ (nI_nlt h2 (by omega))) (fun _ => ?_)
      refine wp_run rfl ?_
      exact wp_ret rfl rfl ⟨rfl, rfl⟩
    · rw [if_neg (fun z => h2 z.2)]
      refine wp_icgt rfl (fun _ => ?_) (fun hz_ => absurd (nI_lt (show aSl A < (aOff A a).natAbs by omega) (by omega)) hz_)
      refine wp_run rfl ?_
      exact wp_ret rfl rfl ⟨rfl, rfl⟩
theorem x0_fittingActs (hO : aOk A) (hC : CR B A) : axEv ro (d + 5) kX0_fittingActs [.ref 1] (hX B Y sl P G tl) (some (.int (nI (bc (fun a => decide (a < aAct A (aN A) ∧ (aOff A a).natAbs ≤ aSl A)) (aActs A))))) (hX B Y sl P G tl) := by
  have hl := aActs_le A
  have hn := hO.n
  have loop : ∀ m q, q + m = aActs A → axW ro (axEv ro (d + 4)) cdX0_fittingActs 11 [some (.ref 1), some (.int (nI (bc (fun a => decide (a < aAct A (aN A) ∧ (aOff A a).natAbs ≤ aSl A)) q))), some (.int (nI (aActs A))), some (.int (nI q))] [.int (nI (aActs A)), .int (nI q)] (hX B Y sl P G tl) (fun r' h' => r' = some (.int (nI (bc (fun a => decide (a < aAct A (aN A) ∧ (aOff A a).natAbs ≤ aSl A)) (aActs A)))) ∧ h' = (hX B Y sl P G tl)) := by
    intro m
    induction m with
    | zero =>
      intro q e
      have e : q = aActs A := by omega
      subst e
      refine wp_icge rfl (fun _ => ?_) (fun hz_ => absurd (nI_le (Nat.le_refl _) (by omega)) hz_)
      refine wp_run rfl ?_
      exact wp_ret rfl rfl ⟨rfl, rfl⟩
    | succ m ih =>
      intro q e
      refine wp_icge rfl (fun hz_ => absurd hz_ (nI_ge (show q < aActs A by omega) (by omega))) (fun _ => ?_)
      refine wp_run rfl ?_
      refine wp_v1 rfl rfl (Nat.le_of_ble_eq_true rfl) (x0_isFitting hO hC (show q < 2 ^ 30 by omega)) ?_
      refine wp_run rfl ?_
      have ih := ih (q + 1) (by omega)
      rw [bc] at ih
      by_cases h2 : q < aAct A (aN A) ∧ (aOff A q).natAbs ≤ aSl A
      · rw [if_pos h2]
        rw [if_pos (decide_eq_true h2)] at ih
        refine wp_ifeq rfl (fun hz_ => absurd hz_ ((by decide : ¬ (1 : Int32) = 0))) (fun _ => ?_)
        refine wp_run rfl ?_
        rw [nI_1, nI_1]
        exact ih
      · rw [if_neg h2]
        rw [if_neg (by rw [decide_eq_false h2]; decide), Nat.add_zero] at ih
        refine wp_ifeq rfl (fun _ => ?_) (fun hz_ => absurd (rfl) hz_)
        refine wp_run rfl ?_
        rw [nI_1]
        exact ih
  refine ev_in rfl rfl (Nat.le_of_ble_eq_true rfl) rfl ?_
  refine wp_run rfl ?_
  refine wp_v0 rfl rfl (Nat.le_of_ble_eq_true rfl) (x0_actCount hO hC) ?_
  refine wp_run rfl ?_
  exact loop (aActs A) 0 (by omega)
/-- what fit() would trim of an act -/
def aCut (A : axAD) (a : Nat) : Nat := min (aOff A a).toNat (aRm A (aSt A (a + 1)) - aRm A (aSt A a))
theorem x0_cutOf_out (hO : aOk A) (hC : CR B A) {y : Int32} (hy : y < 0 ∨ nI (aActs A) ≤ y) : axEv ro (d + 4) kX0_cutOf [.ref 1, .int y] (hX B Y sl P G tl) (some (.int (-1))) (hX B Y sl P G tl) := by
  refine ev_in rfl rfl (Nat.le_of_ble_eq_true rfl) rfl ?_
  refine wp_run rfl ?_
  refine wp_v1 rfl rfl (Nat.le_of_ble_eq_true rfl) (x0_hasAct_out hO hC hy) ?_
  refine wp_run rfl ?_
  refine wp_ifne rfl (fun hz_ => absurd hz_ (fun z => z rfl)) (fun _ => ?_)
  refine wp_run rfl ?_
  exact wp_ret rfl rfl ⟨rfl, rfl⟩
theorem x0_cutOf_in (hO : aOk A) (hC : CR B A) {a : Nat} (ha : a < aActs A) : axEv ro (d + 4) kX0_cutOf [.ref 1, .int (nI a)] (hX B Y sl P G tl) (some (.int (if (aOff A a).toNat - aCut A a ≤ aSl A then nI (aCut A a) else -5))) (hX B Y sl P G tl) := by
  have hl := aActs_le A
  have hn := hO.n
  have hb := aOff_b hO a
  have hr := aRm_le hO (aSt_le A (a + 1))
  have hq := aSt_le A (a + 1)
  have hs := hO.sl
  refine ev_in rfl rfl (Nat.le_of_ble_eq_true rfl) rfl ?_
  refine wp_run rfl ?_
  refine wp_v1 rfl rfl (Nat.le_of_ble_eq_true rfl) (x0_hasAct_in hO hC ha) ?_
  refine wp_run rfl ?_
  refine wp_ifne rfl (fun _ => ?_) (fun hz_ => absurd ((by decide : ¬ (1 : Int32) = 0)) hz_)
  refine wp_run rfl ?_
  refine wp_v1 rfl rfl (Nat.le_of_ble_eq_true rfl) (x0_offOf hO hC (by omega)) ?_
  refine wp_run rfl ?_
  have e0 : (if (0 : Int32) < zI (aOff A a) then zI (aOff A a) else 0) = nI (aOff A a).toNat := by
    have e : (0 : Int32) < zI (aOff A a) ↔ 0 < aOff A a := by rw [zI_0, zI_lt ⟨by omega, by omega⟩ ⟨by omega, by omega⟩]
    by_cases h : 0 < aOff A a
    · rw [if_pos (e.mpr h), ← zI_nI]; congr 1; omega
    · rw [if_neg (fun z => h (e.mp z)), show (aOff A a).toNat = 0 by omega]; rfl
  refine wp_max rfl (Nat.le_of_ble_eq_true rfl) (e0) ?_
  refine wp_run rfl ?_
  refine wp_v1 rfl rfl (Nat.le_of_ble_eq_true rfl) (x0_startOf hO hC (by omega)) ?_
  refine wp_run rfl ?_
  rw [nI_1]
  refine wp_v1 rfl rfl (Nat.le_of_ble_eq_true rfl) (x0_startOf hO hC (by omega)) ?_
  refine wp_run rfl ?_
  refine wp_v2 rfl rfl (Nat.le_of_ble_eq_true rfl) (x0_roomIn hO hC (aSt_mono A (by omega)) (aSt_le A _)) ?_
  refine wp_run rfl ?_
  refine wp_min rfl (Nat.le_of_ble_eq_true rfl) ((nI_min (by omega) (by omega))) ?_
  refine wp_run rfl ?_
  have hm : min (aOff A a).toNat (aRm A (aSt A (a + 1)) - aRm A (aSt A a)) ≤ (aOff A a).toNat := Nat.min_le_left _ _
  rw [pk_sub hm]
  refine wp_v1 rfl rfl (Nat.le_of_ble_eq_true rfl) (x0_settingOf (j := 1) (by omega)) ?_
  refine wp_run rfl ?_
  rw [cr_sl hC]
  by_cases h2 : (aOff A a).toNat - aCut A a ≤ aSl A
  · rw [if_pos h2]
    refine wp_icle rfl (fun _ => ?_) (fun hz_ => absurd (nI_le h2 (by omega)) hz_)
    refine wp_run rfl ?_
    exact wp_ret rfl rfl ⟨rfl, rfl⟩
  · rw [if_neg h2]
    refine wp_icle rfl (fun hz_ => absurd hz_ (nI_ge (show aSl A < (aOff A a).toNat - aCut A a by omega) (by have : aCut A a = min (aOff A a).toNat (aRm A (aSt A (a + 1)) - aRm A (aSt A a)) := rfl; omega))) (fun _ => ?_)
    refine wp_run rfl ?_
    exact wp_ret rfl rfl ⟨rfl, rfl⟩
end AX20
