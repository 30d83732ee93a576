/-! THE REFERENCE: its small methods. -/
/-- what the reference needs of a board to read it: all but the order of needs -/
def aOw (A : axAD) : Prop :=
  aN A ≤ 24 ∧ (∀ i, i < aN A → aR A i < 24) ∧ (∀ i j, i < aN A → j < aN A → aR A i = aR A j → i = j) ∧
  (∀ i, i < aN A → 1 ≤ aB A (aR A i) ∧ aB A (aR A i) ≤ aW A (aR A i) ∧ aW A (aR A i) ≤ 99) ∧
  (4 ≤ aPg A ∧ aPg A ≤ 60) ∧ aSl A ≤ 20 ∧ aTr A ≤ 90 ∧ (∀ a, a < 6 → 1 ≤ aTg A a ∧ aTg A a ≤ 999)
section AX50a
variable {A : axAD}
theorem aOk.w (h : aOk A) : aOw A := ⟨h.1, h.2.1, h.2.2.1, h.2.2.2.1, h.2.2.2.2.2⟩
theorem aOw.n (h : aOw A) : aN A ≤ 24 := h.1
theorem aOw.r (h : aOw A) {i : Nat} (hi : i < aN A) : aR A i < 24 := h.2.1 i hi
theorem aOw.inj (h : aOw A) {i j : Nat} (hi : i < aN A) (hj : j < aN A) (e : aR A i = aR A j) : i = j := h.2.2.1 i j hi hj e
theorem aOw.b (h : aOw A) {i : Nat} (hi : i < aN A) : 1 ≤ aB A (aR A i) ∧ aB A (aR A i) ≤ aW A (aR A i) ∧ aW A (aR A i) ≤ 99 := h.2.2.2.1 i hi
theorem aOw.pg (h : aOw A) : 4 ≤ aPg A ∧ aPg A ≤ 60 := h.2.2.2.2.1
theorem aOw.sl (h : aOw A) : aSl A ≤ 20 := h.2.2.2.2.2.1
theorem aOw.tr (h : aOw A) : aTr A ≤ 90 := h.2.2.2.2.2.2.1
theorem aOw.tg (h : aOw A) {a : Nat} (ha : a < 6) : 1 ≤ aTg A a ∧ aTg A a ≤ 999 := h.2.2.2.2.2.2.2 a ha
theorem aOw.k (h : aOw A) : aOk (aNdF A fun _ => 0) := ⟨h.1, h.2.1, h.2.2.1, h.2.2.2.1, (fun i k _ hk => by
  have hk : bt 0 k = true := hk
  rw [b_0] at hk; cases hk), h.2.2.2.2⟩
theorem aBeg_leW (h : aOw A) {p : Nat} (hp : p ≤ aN A) : aBeg A p ≤ p * 99 := aS_le p fun i hi => by have := h.b (show i < aN A by omega); omega
theorem aTgt_leW (h : aOw A) (a : Nat) : 1 ≤ aTgt A a ∧ aTgt A a ≤ 999 := h.tg (by omega)
theorem aOff_bW (h : aOw A) (a : Nat) : -999 ≤ aOff A a ∧ aOff A a ≤ 2376 := aOff_b h.k a
theorem aRm_leW (h : aOw A) {p : Nat} (hp : p ≤ aN A) : aRm A p ≤ p * 99 := aS_le p fun i hi => by have := h.b (show i < aN A by omega); unfold aCan; omega
theorem aAll_ltW (h : aOw A) : aAll A ≤ 70000 := aAll_le h.n (fun i hi => by have := h.b hi; omega) (fun a ha => (h.tg ha).2)
end AX50a
section AX50
variable {ro : axRo} {d : Nat} {h : axH} {c : Nat → axC} {M : axMD} {tl : axH} {A : axAD}
theorem x5_in_yes {v lo up : Int32} (h1 : ¬ v < lo) (h2 : v ≤ up) : axEv ro (d + 1) kX5_in [.int v, .int lo, .int up] h (some (.int 1)) h := by
  refine ev_in rfl rfl (Nat.le_of_ble_eq_true rfl) rfl ?_
  refine wp_run rfl ?_
  refine wp_iclt rfl (fun hz_ => absurd hz_ (h1)) (fun _ => ?_)
  refine wp_run rfl ?_
  refine wp_icgt rfl (fun hz_ => absurd hz_ (Int32.not_lt.mpr h2)) (fun _ => ?_)
  refine wp_run rfl ?_
  exact wp_ret rfl rfl ⟨rfl, rfl⟩
theorem x5_in_no {v lo up : Int32} (h1 : v < lo ∨ ¬ v ≤ up) : axEv ro (d + 1) kX5_in [.int v, .int lo, .int up] h (some (.int 0)) h := by
  by_cases e : v < lo
  · refine ev_in rfl rfl (Nat.le_of_ble_eq_true rfl) rfl ?_
    refine wp_run rfl ?_
    refine wp_iclt rfl (fun _ => ?_) (fun hz_ => absurd (e) hz_)
    refine wp_run rfl ?_
    exact wp_ret rfl rfl ⟨rfl, rfl⟩
  · have h1 := h1.resolve_left e
    refine ev_in rfl rfl (Nat.le_of_ble_eq_true rfl) rfl ?_
    refine wp_run rfl ?_
    refine wp_iclt rfl (fun hz_ => absurd hz_ (e)) (fun _ => ?_)
    refine wp_run rfl ?_
    refine wp_icgt rfl (fun _ => ?_) (fun hz_ => absurd (Int32.not_le.mp h1) hz_)
    refine wp_run rfl ?_
    exact wp_ret rfl rfl ⟨rfl, rfl⟩
theorem x5_has {x : Int32} {k : Nat} (hk : k < 32) : axEv ro (d + 1) kX5_has [.int x, .int (nI k)] h (some (.int (if bt x k = true then 1 else 0))) h := by
  refine ev_in rfl rfl (Nat.le_of_ble_eq_true rfl) rfl ?_
  refine wp_run rfl ?_
  rw [bt_has hk]
  by_cases e : bt x k = true
  · rw [if_pos e]
    refine wp_icne rfl (fun hz_ => absurd hz_ (fun z => z rfl)) (fun _ => ?_)
    refine wp_run rfl ?_
    exact wp_ret rfl rfl ⟨rfl, rfl⟩
  · rw [if_neg e]
    refine wp_icne rfl (fun _ => ?_) (fun hz_ => absurd ((by decide : ¬ (0 : Int32) = 1)) hz_)
    refine wp_run rfl ?_
    exact wp_ret rfl rfl ⟨rfl, rfl⟩
theorem x5_get {k w : Nat} (hk : k < 24) (hw : w < 5) : axEv ro (d + 1) kX5_get [.ref 15, .int (nI k), .int (nI w)] (hM c M tl) (some (.int (mS M (34 + 5 * k + w)))) (hM c M tl) := by
  refine ev_in rfl rfl (Nat.le_of_ble_eq_true rfl) rfl ?_
  refine wp_run rfl ?_
  rw [show (34 : Int32) + 5 * nI k + nI w = nI (34 + 5 * k + w) by rw [show (34 : Int32) = nI 34 from rfl, show (5 : Int32) = nI 5 from rfl, nI_mul, nI_add, nI_add]]
  refine wp_ald rfl rfl (vp_in_nI ((show 34 + 5 * k + w < 154 by omega)) (by decide)) (by rw [nI_clamp (by omega)]) ?_
  refine wp_run rfl ?_
  exact wp_ret rfl rfl ⟨rfl, rfl⟩
theorem x5_lay {k w : Nat} {v : Int32} (hk : k < 24) (hw : w < 5) : axEv ro (d + 1) kX5_lay [.ref 15, .int (nI k), .int (nI w), .int v] (hM c M tl) none (hM c (upd (mS M) (34 + 5 * k + w) v, M.2) tl) := by
  refine ev_in rfl rfl (Nat.le_of_ble_eq_true rfl) rfl ?_
  refine wp_run rfl ?_
  rw [show (34 : Int32) + 5 * nI k + nI w = nI (34 + 5 * k + w) by rw [show (34 : Int32) = nI 34 from rfl, show (5 : Int32) = nI 5 from rfl, nI_mul, nI_add, nI_add]]
  refine wp_ast (h1 := (hM c (upd (mS M) (34 + 5 * k + w) v, M.2) tl)) rfl rfl (vp_in_nI (show 34 + 5 * k + w < 154 by omega) (by decide)) rfl (by rw [nI_clamp (by omega)]; rfl) ?_
  refine wp_run rfl ?_
  exact wp_retv rfl ⟨rfl, rfl⟩
theorem x5_isSlug_yes (hO : aOw A) (hR : MR (mS M) A) {i : Nat} (hi' : i < aN A) : axEv ro (d + 2) kX5_isSlug [.ref 15, .int (nI (aR A i))] (hM c M tl) (some (.int 1)) (hM c M tl) := by
  have hr := hO.r hi'
  have h1 := mr_in hR hr ⟨i, hi', rfl⟩
  have hg := x5_get (ro := ro) (d := d) (c := c) (M := M) (tl := tl) (w := 0) hr (by decide)
  rw [show 34 + 5 * aR A i + 0 = 34 + 5 * aR A i from rfl, h1] at hg
  refine ev_in rfl rfl (Nat.le_of_ble_eq_true rfl) rfl ?_
  refine wp_run rfl ?_
  refine wp_s3 rfl (Nat.le_of_ble_eq_true rfl) (x5_in_yes (nI_pos (by omega)) (nI_le (b := 23) (by omega) (by omega))) ?_
  refine wp_run rfl ?_
  refine wp_ifeq rfl (fun hz_ => absurd hz_ ((by decide : ¬ (1 : Int32) = 0))) (fun _ => ?_)
  refine wp_run rfl ?_
  refine wp_v2 rfl rfl (Nat.le_of_ble_eq_true rfl) (hg) ?_
  refine wp_run rfl ?_
  refine wp_icne rfl (fun hz_ => absurd hz_ (fun z => z rfl)) (fun _ => ?_)
  refine wp_run rfl ?_
  exact wp_ret rfl rfl ⟨rfl, rfl⟩
theorem x5_isSlug_no (hR : MR (mS M) A) {x : Int32} (hx : spNo A x) : axEv ro (d + 2) kX5_isSlug [.ref 15, .int x] (hM c M tl) (some (.int 0)) (hM c M tl) := by
  rcases sp_rng x 0 23 (by decide) (by decide) with h | ⟨k, -, hk, rfl⟩
  · refine ev_in rfl rfl (Nat.le_of_ble_eq_true rfl) rfl ?_
    refine wp_run rfl ?_
    refine wp_s3 rfl (Nat.le_of_ble_eq_true rfl) (x5_in_no h) ?_
    refine wp_run rfl ?_
    refine wp_ifeq rfl (fun _ => ?_) (fun hz_ => absurd (rfl) hz_)
    refine wp_run rfl ?_
    exact wp_ret rfl rfl ⟨rfl, rfl⟩
  · have h1 := mr_out hR (show k < 24 by omega) (fun ⟨i, hi, e⟩ => hx i hi (by rw [e]))
    have hg := x5_get (ro := ro) (d := d) (c := c) (M := M) (tl := tl) (k := k) (w := 0) (by omega) (by decide)
    rw [show 34 + 5 * k + 0 = 34 + 5 * k from rfl, h1] at hg
    refine ev_in rfl rfl (Nat.le_of_ble_eq_true rfl) rfl ?_
    refine wp_run rfl ?_
    refine wp_s3 rfl (Nat.le_of_ble_eq_true rfl) (x5_in_yes (nI_pos (by omega)) (nI_le (b := 23) (by omega) (by omega))) ?_
    refine wp_run rfl ?_
    refine wp_ifeq rfl (fun hz_ => absurd hz_ ((by decide : ¬ (1 : Int32) = 0))) (fun _ => ?_)
    refine wp_run rfl ?_
    refine wp_v2 rfl rfl (Nat.le_of_ble_eq_true rfl) (hg) ?_
    refine wp_run rfl ?_
    refine wp_icne rfl (fun _ => ?_) (fun hz_ => absurd ((by decide : ¬ (0 : Int32) = 1)) hz_)
    refine wp_run rfl ?_
    exact wp_ret rfl rfl ⟨rfl, rfl⟩
theorem x5_placeOf {r : Nat → Nat} {n : Nat} (hn : n ≤ 24) (hr : ∀ i, i < n → mS M (10 + i) = nI (r i) ∧ r i < 24) {p : Nat} (hp : p < n) (hinj : ∀ i, i < p → r i ≠ r p) : axEv ro (d + 1) kX5_placeOf [.ref 15, .int (nI (r p))] (hM c M tl) (some (.int (nI p))) (hM c M tl) := by
  have loop : ∀ m q, q + m = p → axW ro (axEv ro d) cdX5_placeOf 10 [some (.ref 15), some (.int (nI (r p))), some (.int (nI q))] [.int ((10 : Int32) + nI q), .ref 16] (hM c M tl) (fun r' h' => r' = some (.int (nI p)) ∧ h' = (hM c M tl)) := by
    intro m
    induction m with
    | zero =>
      intro q e
      have e : q = p := by omega
      subst e
      rw [show (10 : Int32) + nI q = nI (10 + q) from nI_add 10 q]
      refine wp_ald rfl rfl (vp_in_nI ((show 10 + q < 154 by omega)) (by decide)) (by rw [nI_clamp (by omega)]) ?_
      refine wp_run rfl ?_
      rw [(hr q hp).1]
      refine wp_iceq rfl (fun _ => ?_) (fun hz => absurd rfl hz)
      refine wp_run rfl ?_
      exact wp_ret rfl rfl ⟨rfl, rfl⟩
    | succ m ih =>
      intro q e
      have hq : q < n := by omega
      rw [show (10 : Int32) + nI q = nI (10 + q) from nI_add 10 q]
      refine wp_ald rfl rfl (vp_in_nI ((show 10 + q < 154 by omega)) (by decide)) (by rw [nI_clamp (by omega)]) ?_
      refine wp_run rfl ?_
      rw [(hr q hq).1]
      refine wp_iceq rfl (fun hz => absurd ((nI_eq (by have := (hr q hq).2; omega) (by have := (hr p hp).2; omega)).mp hz) (hinj q (by omega))) (fun _ => ?_)
      refine wp_run rfl ?_
      rw [nI_1]
      exact ih (q + 1) (by omega)
  refine ev_in rfl rfl (Nat.le_of_ble_eq_true rfl) rfl ?_
  refine wp_run rfl ?_
  exact loop p 0 (by omega)
theorem x5_placeOf_A (hO : aOw A) (hR : MR (mS M) A) {p : Nat} (hp : p < aN A) : axEv ro (d + 1) kX5_placeOf [.ref 15, .int (nI (aR A p))] (hM c M tl) (some (.int (nI p))) (hM c M tl) :=
  x5_placeOf hO.n (fun i hi => ⟨mr_rw hR hi, hO.r hi⟩) hp fun i hi e => by have := hO.inj (by omega) hp e; omega
end AX50
