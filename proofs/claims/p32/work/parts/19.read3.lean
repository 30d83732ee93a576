/-! THE CLASS: what only reads the board (3): needs, places, the longest slug. -/
/-- the first of the first n for which f holds, n if there is none -/
def aFst (f : Nat → Bool) : Nat → Nat
  | 0 => 0
  | n + 1 => if aFst f n < n then aFst f n else if f n = true then n else n + 1
theorem aFst_le (f : Nat → Bool) : ∀ n, aFst f n ≤ n
  | 0 => Nat.le_refl _
  | n + 1 => by
    have := aFst_le f n
    rw [aFst]
    split
    · omega
    · split <;> omega
theorem aFst_no (f : Nat → Bool) : ∀ n k, k < aFst f n → f k = false
  | 0, k, h => absurd h (Nat.not_lt_zero k)
  | n + 1, k, h => by
    have ih := aFst_no f n
    have hle := aFst_le f n
    rw [aFst] at h
    split at h
    · exact ih k h
    · split at h
      · exact ih k (by omega)
      · rename_i h1 h2
        by_cases e : k = n
        · rw [e]; simpa using h2
        · exact ih k (by omega)
theorem aFst_yes (f : Nat → Bool) : ∀ n, aFst f n < n → f (aFst f n) = true
  | 0, h => absurd h (Nat.not_lt_zero _)
  | n + 1, h => by
    have ih := aFst_yes f n
    have hle := aFst_le f n
    rw [aFst] at h ⊢
    split
    · rename_i h1
      exact ih h1
    · rename_i h1
      rw [if_neg h1] at h
      split
      · rename_i h2; exact h2
      · rename_i h2
        rw [if_neg h2] at h
        omega
theorem aFst_lt {f : Nat → Bool} {n k : Nat} (hk : k < n) (hf : f k = true) : aFst f n ≤ k := by
  rcases Nat.lt_or_ge k (aFst f n) with h | h
  · have := aFst_no f n k h; rw [hf] at this; cases this
  · exact h
theorem aFst_eq {f : Nat → Bool} {n k : Nat} (hk : k ≤ n) (h1 : ∀ j, j < k → f j = false) (h2 : k < n → f k = true) : aFst f n = k := by
  rcases Nat.lt_or_ge k n with h | h
  · have a := aFst_lt h (h2 h)
    rcases Nat.lt_or_ge (aFst f n) k with b | b
    · have := aFst_yes f n (by omega); rw [h1 _ b] at this; cases this
    · omega
  · have e : k = n := by omega
    have a := aFst_le f n
    rcases Nat.lt_or_ge (aFst f n) k with b | b
    · have := aFst_yes f n (by omega); rw [h1 _ b] at this; cases this
    · omega
/-- who needs the slug k -/
def aNdr (A : axAD) (k : Nat) : Nat → Int32
  | 0 => 0
  | p + 1 => if bt (aD A (aR A p)) k = true then aNdr A k p ||| bi (aR A p) else aNdr A k p
/-- all that is needed, and what these need, down from a place -/
def aClo (A : axAD) : Nat → Int32 → Int32
  | 0, x => x
  | p + 1, x => aClo A p (if bt x (aR A p) = true then x ||| aD A (aR A p) else x)
/-- the place behind the last slug of a set -/
def aLoF (A : axAD) (x : Int32) : Nat → Nat
  | 0 => 0
  | p + 1 => if bt x (aR A p) = true then p + 1 else aLoF A x p
theorem aLoF_le (A : axAD) (x : Int32) : ∀ p, aLoF A x p ≤ p
  | 0 => Nat.le_refl _
  | p + 1 => by
    have := aLoF_le A x p
    rw [aLoF]
    split <;> omega
def aLo (A : axAD) (i : Nat) : Nat := aLoF A (aD A (aR A i)) (aN A)
def aHi (A : axAD) (i : Nat) : Nat := aFst (fun p => bt (aD A (aR A p)) (aR A i)) (aN A)
/-- the longest slug, and how long it is -/
def aLng (A : axAD) : Nat → Int32 × Nat
  | 0 => (-6, 0)
  | p + 1 => if (aLng A p).2 < aB A (aR A p) then (nI (aR A p), aB A (aR A p)) else aLng A p
section AX19
variable {ro : axRo} {d : Nat} {h h1 : axH} {B : axBD} {Y : axYD} {sl : Nat → Option Nat} {P : axPD} {G : axGD} {tl : axH} {A : axAD}
theorem nI_p1 {a : Nat} (h : 1 ≤ a) : nI a - 1 = nI (a - 1) := pk_sub (b := 1) h
theorem aHi_pos (hO : aOk A) {i : Nat} (hi : i < aN A) : 1 ≤ aHi A i := by
  rcases Nat.eq_zero_or_pos (aHi A i) with h | h
  · have h2 := aFst_yes (fun p => bt (aD A (aR A p)) (aR A i)) (aN A) (by unfold aHi at h; omega)
    unfold aHi at h
    rw [h] at h2
    obtain ⟨j, hj, _⟩ := hO.d (show 0 < aN A by omega) h2
    omega
  · exact h
theorem x0_needersOf (hO : aOk A) (hC : CR B A) {k : Nat} (hk : k < 24) : axEv ro (d + 3) kX0_needersOf [.ref 1, .int (nI k)] (hX B Y sl P G tl) (some (.int (aNdr A k (aN A)))) (hX B Y sl P G tl) := by
  have hn := hO.n
  have loop : ∀ m q, q + m = aN A → ∀ v : Option Value, axW ro (axEv ro (d + 2)) cdX0_needersOf 9 [some (.ref 1), some (.int (nI k)), some (.int (aNdr A k q)), some (.int (nI q)), v] [.int (bSz B), .int (nI q)] (hX B Y sl P G tl) (fun r' h' => r' = some (.int (aNdr A k (aN A))) ∧ h' = (hX B Y sl P G tl)) := by
    intro m
    induction m with
    | zero =>
      intro q e v
      have e : q = aN A := by omega
      subst e
      rw [cr_sz hC]
      refine wp_icge rfl (fun _ => ?_) (fun hz_ => absurd (nI_le (Nat.le_refl _) (by omega)) hz_)
      refine wp_run rfl ?_
      exact wp_ret rfl rfl ⟨rfl, rfl⟩
    | succ m ih =>
      intro q e v
      have hq : q < aN A := by omega
      rw [cr_sz hC]
      refine wp_icge rfl (fun hz_ => absurd hz_ (nI_ge hq (by omega))) (fun _ => ?_)
      refine wp_run rfl ?_
      refine wp_s2 rfl (Nat.le_of_ble_eq_true rfl) (x4_cell rfl (show q < 24 by omega) (by decide)) ?_
      refine wp_run rfl ?_
      rw [cr_rw hC hq]
      refine wp_v1 rfl rfl (Nat.le_of_ble_eq_true rfl) (x0_needsOf hO hC hq) ?_
      refine wp_run rfl ?_
      refine wp_s2 rfl (Nat.le_of_ble_eq_true rfl) (x4_contains_in hk) ?_
      refine wp_run rfl ?_
      have e1 : aNdr A k (q + 1) = if bt (aD A (aR A q)) k = true then aNdr A k q ||| bi (aR A q) else aNdr A k q := rfl
      by_cases hb : bt (aD A (aR A q)) k = true
      · rw [if_pos hb]
        rw [if_pos hb] at e1
        refine wp_ifeq rfl (fun hz_ => absurd hz_ ((by decide : ¬ (1 : Int32) = 0))) (fun _ => ?_)
        refine wp_run rfl ?_
        refine wp_s1 rfl (Nat.le_of_ble_eq_true rfl) (x4_bit (hO.r hq)) ?_
        refine wp_run rfl ?_
        rw [← e1, nI_1]
        exact ih (q + 1) (by omega) _
      · rw [if_neg hb]
        rw [if_neg hb] at e1
        refine wp_ifeq rfl (fun _ => ?_) (fun hz_ => absurd (rfl) hz_)
        refine wp_run rfl ?_
        rw [← e1, nI_1]
        exact ih (q + 1) (by omega) _
  refine ev_in rfl rfl (Nat.le_of_ble_eq_true rfl) rfl ?_
  refine wp_run rfl ?_
  exact loop (aN A) 0 (by omega) _
theorem x0_allNeedsOf (hO : aOk A) (hC : CR B A) {i : Nat} (hi : i < aN A) : axEv ro (d + 3) kX0_allNeedsOf [.ref 1, .int (nI (aR A i))] (hX B Y sl P G tl) (some (.int (aClo A (aN A) (aD A (aR A i))))) (hX B Y sl P G tl) := by
  have hn := hO.n
  have loop : ∀ m, m ≤ aN A → ∀ (x : Int32) (v : Option Value), aClo A m x = aClo A (aN A) (aD A (aR A i)) → axW ro (axEv ro (d + 2)) cdX0_allNeedsOf 14 [some (.ref 1), some (.int (nI (aR A i))), some (.int x), some (.int (nI m - 1)), v] [.int (nI m - 1)] (hX B Y sl P G tl) (fun r' h' => r' = some (.int (aClo A (aN A) (aD A (aR A i)))) ∧ h' = (hX B Y sl P G tl)) := by
    intro m
    induction m with
    | zero =>
      intro _ x v hx
      refine wp_iflt rfl (fun _ => ?_) (fun hz_ => absurd ((by decide : nI 0 - 1 < 0)) hz_)
      refine wp_run rfl ?_
      exact wp_ret rfl rfl ⟨by rw [← hx]; rfl, rfl⟩
    | succ m ih =>
      intro hm x v hx
      have hq : m < aN A := by omega
      rw [show nI (m + 1) - 1 = nI m from nI_pred m]
      refine wp_iflt rfl (fun hz_ => absurd hz_ (nI_pos (by omega))) (fun _ => ?_)
      refine wp_run rfl ?_
      refine wp_s2 rfl (Nat.le_of_ble_eq_true rfl) (x4_cell rfl (show m < 24 by omega) (by decide)) ?_
      refine wp_run rfl ?_
      rw [cr_rw hC hq]
      refine wp_s2 rfl (Nat.le_of_ble_eq_true rfl) (x4_contains_in (hO.r hq)) ?_
      refine wp_run rfl ?_
      have e1 : aClo A (m + 1) x = aClo A m (if bt x (aR A m) = true then x ||| aD A (aR A m) else x) := rfl
      rw [e1] at hx
      by_cases hb : bt x (aR A m) = true
      · rw [if_pos hb]
        rw [if_pos hb] at hx
        refine wp_ifeq rfl (fun hz_ => absurd hz_ ((by decide : ¬ (1 : Int32) = 0))) (fun _ => ?_)
        refine wp_run rfl ?_
        refine wp_v1 rfl rfl (Nat.le_of_ble_eq_true rfl) (x0_needsOf hO hC hq) ?_
        refine wp_run rfl ?_
        rw [show nI m + (-1) = nI m - 1 by rw [Int32.sub_eq_add_neg]]
        exact ih (by omega) _ _ hx
      · rw [if_neg hb]
        rw [if_neg hb] at hx
        refine wp_ifeq rfl (fun _ => ?_) (fun hz_ => absurd (rfl) hz_)
        refine wp_run rfl ?_
        rw [show nI m + (-1) = nI m - 1 by rw [Int32.sub_eq_add_neg]]
        exact ih (by omega) _ _ hx
  refine ev_in rfl rfl (Nat.le_of_ble_eq_true rfl) rfl ?_
  refine wp_run rfl ?_
  refine wp_v1 rfl rfl (Nat.le_of_ble_eq_true rfl) (x0_needsOf hO hC hi) ?_
  refine wp_run rfl ?_
  rw [cr_sz hC]
  exact loop (aN A) (Nat.le_refl _) _ _ rfl
theorem x0_lowestPlace (hO : aOk A) (hC : CR B A) {i : Nat} (hi : i < aN A) : axEv ro (d + 3) kX0_lowestPlace [.ref 1, .int (nI (aR A i))] (hX B Y sl P G tl) (some (.int (nI (aLo A i)))) (hX B Y sl P G tl) := by
  have hn := hO.n
  have loop : ∀ m, m ≤ aN A → aLoF A (aD A (aR A i)) m = aLo A i → axW ro (axEv ro (d + 2)) cdX0_lowestPlace 14 [some (.ref 1), some (.int (nI (aR A i))), some (.int (aD A (aR A i))), some (.int (nI m - 1))] [.int (nI m - 1)] (hX B Y sl P G tl) (fun r' h' => r' = some (.int (nI (aLo A i))) ∧ h' = (hX B Y sl P G tl)) := by
    intro m
    induction m with
    | zero =>
      intro _ hx
      refine wp_iflt rfl (fun _ => ?_) (fun hz_ => absurd ((by decide : nI 0 - 1 < 0)) hz_)
      refine wp_run rfl ?_
      exact wp_ret rfl rfl ⟨by rw [← hx]; rfl, rfl⟩
    | succ m ih =>
      intro hm hx
      have hq : m < aN A := by omega
      rw [show nI (m + 1) - 1 = nI m from nI_pred m]
      refine wp_iflt rfl (fun hz_ => absurd hz_ (nI_pos (by omega))) (fun _ => ?_)
      refine wp_run rfl ?_
      refine wp_s2 rfl (Nat.le_of_ble_eq_true rfl) (x4_cell rfl (show m < 24 by omega) (by decide)) ?_
      refine wp_run rfl ?_
      rw [cr_rw hC hq]
      refine wp_s2 rfl (Nat.le_of_ble_eq_true rfl) (x4_contains_in (hO.r hq)) ?_
      refine wp_run rfl ?_
      have e1 : aLoF A (aD A (aR A i)) (m + 1) = if bt (aD A (aR A i)) (aR A m) = true then m + 1 else aLoF A (aD A (aR A i)) m := rfl
      rw [e1] at hx
      by_cases hb : bt (aD A (aR A i)) (aR A m) = true
      · rw [if_pos hb]
        rw [if_pos hb] at hx
        refine wp_ifeq rfl (fun hz_ => absurd hz_ ((by decide : ¬ (1 : Int32) = 0))) (fun _ => ?_)
        refine wp_run rfl ?_
        rw [nI_1, hx]
        exact wp_ret rfl rfl ⟨rfl, rfl⟩
      · rw [if_neg hb]
        rw [if_neg hb] at hx
        refine wp_ifeq rfl (fun _ => ?_) (fun hz_ => absurd (rfl) hz_)
        refine wp_run rfl ?_
        rw [show nI m + (-1) = nI m - 1 by rw [Int32.sub_eq_add_neg]]
        exact ih (by omega) hx
  refine ev_in rfl rfl (Nat.le_of_ble_eq_true rfl) rfl ?_
  refine wp_run rfl ?_
  refine wp_v1 rfl rfl (Nat.le_of_ble_eq_true rfl) (x0_needsOf hO hC hi) ?_
  refine wp_run rfl ?_
  rw [cr_sz hC]
  exact loop (aN A) (Nat.le_refl _) rfl
theorem x0_highestPlace (hO : aOk A) (hC : CR B A) {i : Nat} (hi : i < aN A) : axEv ro (d + 2) kX0_highestPlace [.ref 1, .int (nI (aR A i))] (hX B Y sl P G tl) (some (.int (nI (aHi A i - 1)))) (hX B Y sl P G tl) := by
  have hn := hO.n
  have hp := aHi_pos hO hi
  have hle : aHi A i ≤ aN A := aFst_le _ _
  have loop : ∀ m q, q + m = aHi A i → axW ro (axEv ro (d + 1)) cdX0_highestPlace 7 [some (.ref 1), some (.int (nI (aR A i))), some (.int (nI q))] [.int (bSz B), .int (nI q)] (hX B Y sl P G tl) (fun r' h' => r' = some (.int (nI (aHi A i - 1))) ∧ h' = (hX B Y sl P G tl)) := by
    intro m
    induction m with
    | zero =>
      intro q e
      have e : q = aHi A i := by omega
      subst e
      rw [cr_sz hC]
      by_cases hq : aHi A i < aN A
      · refine wp_icge rfl (fun hz_ => absurd hz_ (nI_ge hq (by omega))) (fun _ => ?_)
        refine wp_run rfl ?_
        refine wp_s2 rfl (Nat.le_of_ble_eq_true rfl) (x4_cell rfl (show aHi A i < 24 by omega) (by decide)) ?_
        refine wp_run rfl ?_
        rw [cr_rw hC hq]
        refine wp_s2 rfl (Nat.le_of_ble_eq_true rfl) (x4_cell rfl (hO.r hq) (by decide)) ?_
        refine wp_run rfl ?_
        rw [cr_nd hC hq]
        refine wp_s2 rfl (Nat.le_of_ble_eq_true rfl) (x4_contains_in (hO.r hi)) ?_
        refine wp_run rfl ?_
        rw [if_pos (show bt (aD A (aR A (aHi A i))) (aR A i) = true from aFst_yes (fun p => bt (aD A (aR A p)) (aR A i)) (aN A) hq)]
        refine wp_ifeq rfl (fun hz_ => absurd hz_ ((by decide : ¬ (1 : Int32) = 0))) (fun _ => ?_)
        refine wp_run rfl ?_
        rw [nI_p1 hp]
        exact wp_ret rfl rfl ⟨rfl, rfl⟩
      · refine wp_icge rfl (fun _ => ?_) (fun hz_ => absurd (nI_le (show aN A ≤ aHi A i by omega) (by omega)) hz_)
        refine wp_run rfl ?_
        rw [cr_sz hC, nI_p1 (a := aN A) (by omega), show aN A - 1 = aHi A i - 1 by omega]
        exact wp_ret rfl rfl ⟨rfl, rfl⟩
    | succ m ih =>
      intro q e
      have hq : q < aN A := by omega
      rw [cr_sz hC]
      refine wp_icge rfl (fun hz_ => absurd hz_ (nI_ge hq (by omega))) (fun _ => ?_)
      refine wp_run rfl ?_
      refine wp_s2 rfl (Nat.le_of_ble_eq_true rfl) (x4_cell rfl (show q < 24 by omega) (by decide)) ?_
      refine wp_run rfl ?_
      rw [cr_rw hC hq]
      refine wp_s2 rfl (Nat.le_of_ble_eq_true rfl) (x4_cell rfl (hO.r hq) (by decide)) ?_
      refine wp_run rfl ?_
      rw [cr_nd hC hq]
      refine wp_s2 rfl (Nat.le_of_ble_eq_true rfl) (x4_contains_in (hO.r hi)) ?_
      refine wp_run rfl ?_
      have h3 : bt (aD A (aR A q)) (aR A i) = false := aFst_no (fun p => bt (aD A (aR A p)) (aR A i)) (aN A) q (by unfold aHi at e; omega)
      rw [if_neg (by rw [h3]; decide)]
      refine wp_ifeq rfl (fun _ => ?_) (fun hz_ => absurd (rfl) hz_)
      refine wp_run rfl ?_
      rw [nI_1]
      exact ih (q + 1) (by omega)
  refine ev_in rfl rfl (Nat.le_of_ble_eq_true rfl) rfl ?_
  refine wp_run rfl ?_
  exact loop (aHi A i) 0 (by omega)
theorem x0_mayStandIn (hO : aOk A) (hC : CR B A) {i q : Nat} (hi : i < aN A) (hq : q < aN A) : axEv ro (d + 4) kX0_mayStandIn [.ref 1, .int (nI (aR A i)), .int (nI q)] (hX B Y sl P G tl) (some (.int (if aLo A i ≤ q ∧ q < aHi A i then 1 else 0))) (hX B Y sl P G tl) := by
  have hn := hO.n
  have hp := aHi_pos hO hi
  have hle : aHi A i ≤ aN A := aFst_le _ _
  have hl : aLo A i ≤ aN A := aLoF_le _ _ _
  refine ev_in rfl rfl (Nat.le_of_ble_eq_true rfl) rfl ?_
  refine wp_run rfl ?_
  refine wp_v1 rfl rfl (Nat.le_of_ble_eq_true rfl) (x0_lowestPlace hO hC hi) ?_
  refine wp_run rfl ?_
  by_cases h1 : aLo A i ≤ q
  · refine wp_iclt rfl (fun hz_ => absurd hz_ (nI_nlt h1 (by omega))) (fun _ => ?_)
    refine wp_run rfl ?_
    refine wp_v1 rfl rfl (Nat.le_of_ble_eq_true rfl) (x0_highestPlace hO hC hi) ?_
    refine wp_run rfl ?_
    by_cases h2 : q < aHi A i
    · rw [if_pos ⟨h1, h2⟩]
      refine wp_icgt rfl (fun hz_ => absurd hz_ (nI_nlt (show q ≤ aHi A i - 1 by omega) (by omega))) (fun _ => ?_)
      refine wp_run rfl ?_
      exact wp_ret rfl rfl ⟨rfl, rfl⟩
    · rw [if_neg (fun z => h2 z.2)]
      refine wp_icgt rfl (fun _ => ?_) (fun hz_ => absurd (nI_lt (show aHi A i - 1 < q by omega) (by omega)) hz_)
      refine wp_run rfl ?_
      exact wp_ret rfl rfl ⟨rfl, rfl⟩
  · rw [if_neg (fun z => h1 z.1)]
    refine wp_iclt rfl (fun _ => ?_) (fun hz_ => absurd (nI_lt (show q < aLo A i by omega) (by omega)) hz_)
    refine wp_run rfl ?_
    exact wp_ret rfl rfl ⟨rfl, rfl⟩
theorem aLng_le (hO : aOk A) : ∀ p, p ≤ aN A → (aLng A p).2 ≤ 99
  | 0, _ => by simp [aLng]
  | p + 1, h => by
    have ih := aLng_le hO p (by omega)
    have := hO.b (show p < aN A by omega)
    rw [aLng]
    split
    · show aB A (aR A p) ≤ 99; omega
    · exact ih
theorem x0_longestSlug (hO : aOk A) (hC : CR B A) : axEv ro (d + 3) kX0_longestSlug [.ref 1] (hX B Y sl P G tl) (some (.int (aLng A (aN A)).1)) (hX B Y sl P G tl) := by
  have hn := hO.n
  have loop : ∀ m q, q + m = aN A → ∀ v : Option Value, axW ro (axEv ro (d + 2)) cdX0_longestSlug 12 [some (.ref 1), some (.int (aLng A q).1), some (.int (nI (aLng A q).2)), some (.int (nI q)), v] [.int (bSz B), .int (nI q)] (hX B Y sl P G tl) (fun r' h' => r' = some (.int ((aLng A (aN A)).1)) ∧ h' = (hX B Y sl P G tl)) := by
    intro m
    induction m with
    | zero =>
      intro q e v
      have e : q = aN A := by omega
      subst e
      rw [cr_sz hC]
      refine wp_icge rfl (fun _ => ?_) (fun hz_ => absurd (nI_le (Nat.le_refl _) (by omega)) hz_)
      refine wp_run rfl ?_
      exact wp_ret rfl rfl ⟨rfl, rfl⟩
    | succ m ih =>
      intro q e v
      have hq : q < aN A := by omega
      have hm := aLng_le hO q (by omega)
      have hb := hO.b hq
      rw [cr_sz hC]
      refine wp_icge rfl (fun hz_ => absurd hz_ (nI_ge hq (by omega))) (fun _ => ?_)
      refine wp_run rfl ?_
      refine wp_s2 rfl (Nat.le_of_ble_eq_true rfl) (x4_cell rfl (show q < 24 by omega) (by decide)) ?_
      refine wp_run rfl ?_
      rw [cr_rw hC hq]
      refine wp_v1 rfl rfl (Nat.le_of_ble_eq_true rfl) (x0_beatsOf hO hC hq) ?_
      refine wp_run rfl ?_
      have e1 : aLng A (q + 1) = if (aLng A q).2 < aB A (aR A q) then (nI (aR A q), aB A (aR A q)) else aLng A q := rfl
      by_cases h2 : (aLng A q).2 < aB A (aR A q)
      · rw [if_pos h2] at e1
        refine wp_icle rfl (fun hz_ => absurd hz_ (nI_ge h2 (by omega))) (fun _ => ?_)
        refine wp_run rfl ?_
        refine wp_v1 rfl rfl (Nat.le_of_ble_eq_true rfl) (x0_beatsOf hO hC hq) ?_
        refine wp_run rfl ?_
        rw [nI_1]
        have := ih (q + 1) (by omega) (some (.int (nI (aR A q))))
        rw [e1] at this
        exact this
      · rw [if_neg h2] at e1
        refine wp_icle rfl (fun _ => ?_) (fun hz_ => absurd (nI_le (show aB A (aR A q) ≤ (aLng A q).2 by omega) (by omega)) hz_)
        refine wp_run rfl ?_
        rw [nI_1]
        have := ih (q + 1) (by omega) (some (.int (nI (aR A q))))
        rw [e1] at this
        exact this
  refine ev_in rfl rfl (Nat.le_of_ble_eq_true rfl) rfl ?_
  refine wp_run rfl ?_
  exact loop (aN A) 0 (by omega) _
end AX19
