/-! THE REFERENCE: what it reads of a board (1): sums, rooms, acts. -/
theorem nI_ite (a : Nat) (b : Bool) : nI a + (if b = true then (1 : Int32) else 0) = nI (a + if b = true then 1 else 0) := by
  cases b
  · exact Int32.add_zero _
  · exact nI_add a 1
theorem aS_seg {f g : Nat → Nat} {u v : Nat} (huv : u ≤ v) : ∀ p, (∀ q, q < p → g q = if u ≤ q ∧ q < v then f q else 0) → aS g p = aS f (min p v) - aS f (min p u)
  | 0, _ => by rw [Nat.zero_min, Nat.zero_min]; simp [aS]
  | p + 1, h => by
    have ih := aS_seg huv p (fun q hq => h q (by omega))
    have h1 := h p (by omega)
    rw [aS, ih, h1]
    by_cases e1 : p < u
    · rw [if_neg (fun z => by omega), Nat.min_eq_left (show p ≤ v by omega), Nat.min_eq_left (show p ≤ u by omega), Nat.min_eq_left (show p + 1 ≤ v by omega), Nat.min_eq_left (show p + 1 ≤ u by omega)]
      omega
    · by_cases e2 : p < v
      · rw [if_pos ⟨by omega, e2⟩, Nat.min_eq_left (show p ≤ v by omega), Nat.min_eq_right (show u ≤ p by omega), Nat.min_eq_left (show p + 1 ≤ v by omega), Nat.min_eq_right (show u ≤ p + 1 by omega)]
        exact aS_diff (by omega)
      · rw [if_neg (fun z => e2 z.2), Nat.min_eq_right (show v ≤ p by omega), Nat.min_eq_right (show u ≤ p by omega), Nat.min_eq_right (show v ≤ p + 1 by omega), Nat.min_eq_right (show u ≤ p + 1 by omega)]
        omega
theorem aS_act (A : axAD) (f : Nat → Nat) (a : Nat) : aS (fun k => if aAct A k = a then f k else 0) (aN A) = aS f (aSt A (a + 1)) - aS f (aSt A a) := by
  have h := aS_seg (f := f) (g := fun k => if aAct A k = a then f k else 0) (aSt_mono A (show a ≤ a + 1 by omega)) (aN A) (fun q hq => by
    show (if aAct A q = a then f q else 0) = _
    have h1 := aSt_lt A a q
    have h2 := aSt_lt A (a + 1) q
    by_cases e : aAct A q = a
    · have e3 : aSt A a ≤ q := by
        rcases Nat.lt_or_ge q (aSt A a) with z | z
        · have := (h1.mp z).2; omega
        · exact z
      rw [if_pos e, if_pos ⟨e3, h2.mpr ⟨hq, by omega⟩⟩]
    · rw [if_neg e, if_neg]
      rintro ⟨z1, z2⟩
      have z2 := (h2.mp z2).2
      have z3 : ¬ q < aSt A a := by omega
      exact z3 (h1.mpr ⟨hq, by omega⟩))
  rw [h, Nat.min_eq_right (aSt_le A _), Nat.min_eq_right (aSt_le A _)]
section AX51
variable {ro : axRo} {d : Nat} {h : axH} {c : Nat → axC} {M : axMD} {tl : axH} {A : axAD}
theorem x5_gW (hO : aOw A) (hR : MR (mS M) A) {i : Nat} (hi : i < aN A) : axEv ro (d + 1) kX5_get [.ref 15, .int (nI (aR A i)), .int 1] (hM c M tl) (some (.int (nI (aW A (aR A i))))) (hM c M tl) := by
  have hg := x5_get (ro := ro) (d := d) (c := c) (M := M) (tl := tl) (w := 1) (hO.r hi) (by decide)
  rw [show 34 + 5 * aR A i + 1 = 35 + 5 * aR A i by omega, mr_wr hR hi] at hg
  exact hg
theorem x5_gB (hO : aOw A) (hR : MR (mS M) A) {i : Nat} (hi : i < aN A) : axEv ro (d + 1) kX5_get [.ref 15, .int (nI (aR A i)), .int 2] (hM c M tl) (some (.int (nI (aB A (aR A i))))) (hM c M tl) := by
  have hg := x5_get (ro := ro) (d := d) (c := c) (M := M) (tl := tl) (w := 2) (hO.r hi) (by decide)
  rw [show 34 + 5 * aR A i + 2 = 36 + 5 * aR A i by omega, mr_bt hR hi] at hg
  exact hg
theorem x5_gT (hO : aOw A) (hR : MR (mS M) A) {i : Nat} (hi : i < aN A) : axEv ro (d + 1) kX5_get [.ref 15, .int (nI (aR A i)), .int 3] (hM c M tl) (some (.int (if aT A (aR A i) = true then 1 else 0))) (hM c M tl) := by
  have hg := x5_get (ro := ro) (d := d) (c := c) (M := M) (tl := tl) (w := 3) (hO.r hi) (by decide)
  rw [show 34 + 5 * aR A i + 3 = 37 + 5 * aR A i by omega, mr_tn hR hi] at hg
  exact hg
theorem x5_gD (hO : aOw A) (hR : MR (mS M) A) {i : Nat} (hi : i < aN A) : axEv ro (d + 1) kX5_get [.ref 15, .int (nI (aR A i)), .int 4] (hM c M tl) (some (.int (aD A (aR A i)))) (hM c M tl) := by
  have hg := x5_get (ro := ro) (d := d) (c := c) (M := M) (tl := tl) (w := 4) (hO.r hi) (by decide)
  rw [show 34 + 5 * aR A i + 4 = 38 + 5 * aR A i by omega, mr_nd hR hi] at hg
  exact hg
theorem x5_begin (hO : aOw A) (hR : MR (mS M) A) {t : Nat} (ht : t ≤ aN A) : axEv ro (d + 2) kX5_begin [.ref 15, .int (nI t)] (hM c M tl) (some (.int (nI (aBeg A t)))) (hM c M tl) := by
  have hn := hO.n
  have loop : ∀ m q, q + m = t → axW ro (axEv ro (d + 1)) cdX5_begin 6 [some (.ref 15), some (.int (nI t)), some (.int (nI (aBeg A q))), some (.int (nI q))] [.int (nI t), .int (nI q)] (hM c M tl) (fun r' h' => r' = some (.int (nI (aBeg A t))) ∧ h' = (hM c M tl)) := by
    intro m
    induction m with
    | zero =>
      intro q e
      have e : q = t := by omega
      subst e
      refine wp_icge rfl (fun _ => ?_) (fun hz_ => absurd (nI_le (Nat.le_refl _) (by omega)) hz_)
      refine wp_run rfl ?_
      exact wp_ret rfl rfl ⟨rfl, rfl⟩
    | succ m ih =>
      intro q e
      have hq : q < aN A := by omega
      refine wp_icge rfl (fun hz_ => absurd hz_ (nI_ge (show q < t by omega) (by omega))) (fun _ => ?_)
      refine wp_run rfl ?_
      rw [show (10 : Int32) + nI (q) = nI (10 + (q)) from nI_add 10 (q)]
      refine wp_ald rfl rfl (vp_in_nI ((show 10 + q < 154 by omega)) (by decide)) (by rw [nI_clamp (by omega)]) ?_
      refine wp_run rfl ?_
      rw [mr_rw hR hq]
      refine wp_v2 rfl rfl (Nat.le_of_ble_eq_true rfl) (x5_gB hO hR hq) ?_
      refine wp_run rfl ?_
      rw [nI_add, nI_1, show aBeg A q + aB A (aR A q) = aBeg A (q + 1) from rfl]
      exact ih (q + 1) (by omega)
  refine ev_in rfl rfl (Nat.le_of_ble_eq_true rfl) rfl ?_
  refine wp_run rfl ?_
  exact loop t 0 (by omega)
theorem x5_actAt (hO : aOw A) (hR : MR (mS M) A) {t : Nat} (ht : t ≤ aN A) : axEv ro (d + 2) kX5_actAt [.ref 15, .int (nI t)] (hM c M tl) (some (.int (nI (aAct A t)))) (hM c M tl) := by
  have hn := hO.n
  have loop : ∀ m q, q + m = t → axW ro (axEv ro (d + 1)) cdX5_actAt 6 [some (.ref 15), some (.int (nI t)), some (.int (nI (aAct A q))), some (.int (nI q))] [.int (nI t), .int (nI q)] (hM c M tl) (fun r' h' => r' = some (.int (nI (aAct A t))) ∧ h' = (hM c M tl)) := by
    intro m
    induction m with
    | zero =>
      intro q e
      have e : q = t := by omega
      subst e
      refine wp_icge rfl (fun _ => ?_) (fun hz_ => absurd (nI_le (Nat.le_refl _) (by omega)) hz_)
      refine wp_run rfl ?_
      exact wp_ret rfl rfl ⟨rfl, rfl⟩
    | succ m ih =>
      intro q e
      have hq : q < aN A := by omega
      refine wp_icge rfl (fun hz_ => absurd hz_ (nI_ge (show q < t by omega) (by omega))) (fun _ => ?_)
      refine wp_run rfl ?_
      rw [show (10 : Int32) + nI (q) = nI (10 + (q)) from nI_add 10 (q)]
      refine wp_ald rfl rfl (vp_in_nI ((show 10 + q < 154 by omega)) (by decide)) (by rw [nI_clamp (by omega)]) ?_
      refine wp_run rfl ?_
      rw [mr_rw hR hq]
      refine wp_v2 rfl rfl (Nat.le_of_ble_eq_true rfl) (x5_gT hO hR hq) ?_
      refine wp_run rfl ?_
      rw [nI_ite, nI_1, show (aAct A q + if aT A (aR A q) = true then 1 else 0) = aAct A (q + 1) from rfl]
      exact ih (q + 1) (by omega)
  refine ev_in rfl rfl (Nat.le_of_ble_eq_true rfl) rfl ?_
  refine wp_run rfl ?_
  exact loop t 0 (by omega)
theorem x5_leastBeats (hO : aOw A) (hR : MR (mS M) A) {i : Nat} (hi : i < aN A) : axEv ro (d + 2) kX5_leastBeats [.ref 15, .int (nI (aR A i))] (hM c M tl) (some (.int (nI (max 1 (aW A (aR A i) - aW A (aR A i) * aTr A / 100))))) (hM c M tl) := by
  have h1 := hO.b hi
  have h2 : aW A (aR A i) * aTr A ≤ 99 * 90 := Nat.mul_le_mul h1.2.2 hO.tr
  have h3 : aW A (aR A i) * aTr A ≤ aW A (aR A i) * 90 := Nat.mul_le_mul_left _ hO.tr
  refine ev_in rfl rfl (Nat.le_of_ble_eq_true rfl) rfl ?_
  refine wp_run rfl ?_
  refine wp_v2 rfl rfl (Nat.le_of_ble_eq_true rfl) (x5_gW hO hR hi) ?_
  refine wp_run rfl ?_
  refine wp_v2 rfl rfl (Nat.le_of_ble_eq_true rfl) (x5_gW hO hR hi) ?_
  refine wp_run rfl ?_
  refine wp_ald rfl rfl (vp_in_nI (n := 3) (by decide) (by decide)) (mr_tr hR) ?_
  refine wp_run rfl ?_
  rw [pk_mul]
  refine wp_idiv rfl (by decide) (pk_div (d := 100) (by omega) (by omega) (by omega)) ?_
  refine wp_run rfl ?_
  rw [pk_sub (by omega)]
  by_cases e : 1 ≤ aW A (aR A i) - aW A (aR A i) * aTr A / 100
  · refine wp_icge rfl (fun _ => ?_) (fun hz_ => absurd (nI_le (a := 1) e (by omega)) hz_)
    refine wp_run rfl ?_
    exact wp_ret rfl rfl ⟨by rw [Nat.max_eq_right e], rfl⟩
  · refine wp_icge rfl (fun hz_ => absurd hz_ (nI_ge (b := 1) (by omega) (by omega))) (fun _ => ?_)
    refine wp_run rfl ?_
    exact wp_ret rfl rfl ⟨by rw [Nat.max_eq_left (by omega)]; rfl, rfl⟩
theorem x5_canTrim (hO : aOw A) (hR : MR (mS M) A) {i : Nat} (hi : i < aN A) : axEv ro (d + 3) kX5_canTrim [.ref 15, .int (nI (aR A i))] (hM c M tl) (some (.int (nI (aCan A (aR A i))))) (hM c M tl) := by
  have h1 := hO.b hi
  refine ev_in rfl rfl (Nat.le_of_ble_eq_true rfl) rfl ?_
  refine wp_run rfl ?_
  refine wp_v2 rfl rfl (Nat.le_of_ble_eq_true rfl) (x5_gB (d := d + 1) hO hR hi) ?_
  refine wp_run rfl ?_
  refine wp_v1 rfl rfl (Nat.le_of_ble_eq_true rfl) (x5_leastBeats hO hR hi) ?_
  refine wp_run rfl ?_
  by_cases hle : max 1 (aW A (aR A i) - aW A (aR A i) * aTr A / 100) ≤ aB A (aR A i)
  · rw [pk_sub hle]
    refine wp_ifge rfl (fun _ => ?_) (fun hz_ => absurd (nI_pos' (by omega)) hz_)
    refine wp_run rfl ?_
    exact wp_ret rfl rfl ⟨rfl, rfl⟩
  · rw [show nI (aB A (aR A i)) - nI (max 1 (aW A (aR A i) - aW A (aR A i) * aTr A / 100)) = zI ((aB A (aR A i) : Int) - (max 1 (aW A (aR A i) - aW A (aR A i) * aTr A / 100) : Nat)) by rw [← zI_nI, ← zI_nI, zI_sub]]
    refine wp_ifge rfl (fun hz_ => absurd hz_ ((by rw [zI_0, zI_le ⟨by omega, by omega⟩ ⟨by omega, by omega⟩]; omega))) (fun _ => ?_)
    refine wp_run rfl ?_
    exact wp_ret rfl rfl ⟨by unfold aCan; rw [show aB A (aR A i) - max 1 (aW A (aR A i) - aW A (aR A i) * aTr A / 100) = 0 by omega]; rfl, rfl⟩
theorem x5_acts (hO : aOw A) (hR : MR (mS M) A) : axEv ro (d + 3) kX5_acts [.ref 15] (hM c M tl) (some (.int (nI (aActs A)))) (hM c M tl) := by
  have hn := hO.n
  refine ev_in rfl rfl (Nat.le_of_ble_eq_true rfl) rfl ?_
  refine wp_run rfl ?_
  refine wp_ald rfl rfl (vp_in_nI (n := 0) (by decide) (by decide)) (mr_sz hR) ?_
  by_cases h0 : aN A = 0
  · refine wp_run rfl ?_
    refine wp_ifne rfl (fun hz_ => absurd hz_ (fun z => z (by rw [h0]; rfl))) (fun _ => ?_)
    refine wp_run rfl ?_
    exact wp_ret rfl rfl ⟨by unfold aActs; rw [if_pos h0]; rfl, rfl⟩
  · refine wp_run rfl ?_
    refine wp_ifne rfl (fun _ => ?_) (fun hz_ => absurd (nI_ne0 (by omega) (by omega)) hz_)
    refine wp_run rfl ?_
    refine wp_ald rfl rfl (vp_in_nI (n := 0) (by decide) (by decide)) (mr_sz hR) ?_
    refine wp_run rfl ?_
    rw [nI_p1 (by omega)]
    refine wp_v1 rfl rfl (Nat.le_of_ble_eq_true rfl) (x5_actAt hO hR (by omega)) ?_
    refine wp_run rfl ?_
    rw [nI_1]
    exact wp_ret rfl rfl ⟨by unfold aActs; rw [if_neg h0], rfl⟩
theorem x5_isOpen (hO : aOw A) (hR : MR (mS M) A) {a : Nat} (ha : a < 2 ^ 31) : axEv ro (d + 3) kX5_isOpen [.ref 15, .int (nI a)] (hM c M tl) (some (.int (if aAct A (aN A) = a then 1 else 0))) (hM c M tl) := by
  have hn := hO.n
  have hl := aAct_le (A := A) (aN A)
  refine ev_in rfl rfl (Nat.le_of_ble_eq_true rfl) rfl ?_
  refine wp_run rfl ?_
  refine wp_ald rfl rfl (vp_in_nI (n := 0) (by decide) (by decide)) (mr_sz hR) ?_
  refine wp_run rfl ?_
  refine wp_v1 rfl rfl (Nat.le_of_ble_eq_true rfl) (x5_actAt hO hR (Nat.le_refl _)) ?_
  refine wp_run rfl ?_
  by_cases e : aAct A (aN A) = a
  · rw [if_pos e]
    refine wp_icne rfl (fun hz_ => absurd hz_ (fun z => z (by rw [e]))) (fun _ => ?_)
    refine wp_run rfl ?_
    exact wp_ret rfl rfl ⟨rfl, rfl⟩
  · rw [if_neg e]
    refine wp_icne rfl (fun _ => ?_) (fun hz_ => absurd (fun z => e ((nI_eq (by omega) ha).mp z)) hz_)
    refine wp_run rfl ?_
    exact wp_ret rfl rfl ⟨rfl, rfl⟩
theorem x5_targetOf (hO : aOw A) (hR : MR (mS M) A) {a : Nat} (ha : a < 2 ^ 31) : axEv ro (d + 1) kX5_targetOf [.ref 15, .int (nI a)] (hM c M tl) (some (.int (nI (aTgt A a)))) (hM c M tl) := by
  refine ev_in rfl rfl (Nat.le_of_ble_eq_true rfl) rfl ?_
  refine wp_run rfl ?_
  by_cases e : a < 6
  · refine wp_icge rfl (fun hz_ => absurd hz_ (nI_ge (b := 6) e (by omega))) (fun _ => ?_)
    refine wp_run rfl ?_
    rw [show (4 : Int32) + nI a = nI (4 + a) from nI_add 4 a]
    refine wp_ald rfl rfl (vp_in_nI ((show 4 + a < 154 by omega)) (by decide)) (by rw [nI_clamp (by omega)]) ?_
    refine wp_run rfl ?_
    rw [mr_tg hR e]
    exact wp_ret rfl rfl ⟨by unfold aTgt; rw [Nat.min_eq_left (by omega)], rfl⟩
  · refine wp_icge rfl (fun _ => ?_) (fun hz_ => absurd (nI_le (a := 6) (by omega) ha) hz_)
    refine wp_run rfl ?_
    refine wp_ald rfl rfl (vp_in_nI (n := 9) (by decide) (by decide)) (mr_tg hR (a := 5) (by decide)) ?_
    refine wp_run rfl ?_
    exact wp_ret rfl rfl ⟨by unfold aTgt; rw [Nat.min_eq_right (by omega)], rfl⟩
theorem x5_sumOf (hO : aOw A) (hR : MR (mS M) A) {a : Nat} (ha : a < 2 ^ 31) {w : Int32} {f : Nat → Nat} (hs : ∀ (q x : Nat) (Q : Option Value → axH → Prop), q < aN A →
    axW ro (axEv ro (d + 3)) cdX5_sumOf 12 [some (.ref 15), some (.int (nI a)), some (.int w), some (.int (nI (x + f q))), some (.int (nI (q + 1)))] [.int 0, .ref 16, .int (nI (q + 1))] (hM c M tl) Q →
    axW ro (axEv ro (d + 3)) cdX5_sumOf 28 [some (.ref 15), some (.int (nI a)), some (.int w), some (.int (nI x)), some (.int (nI q))] [.int w, .int (nI x)] (hM c M tl) Q) : axEv ro (d + 4) kX5_sumOf [.ref 15, .int (nI a), .int w] (hM c M tl) (some (.int (nI (aS f (aSt A (a + 1)) - aS f (aSt A a))))) (hM c M tl) := by
  have hn := hO.n
  rw [← aS_act]
  have loop : ∀ m q, q + m = aN A → axW ro (axEv ro (d + 3)) cdX5_sumOf 12 [some (.ref 15), some (.int (nI a)), some (.int w), some (.int (nI (aS (fun k => if aAct A k = a then f k else 0) q))), some (.int (nI q))] [.int 0, .ref 16, .int (nI q)] (hM c M tl) (fun r' h' => r' = some (.int (nI (aS (fun k => if aAct A k = a then f k else 0) (aN A)))) ∧ h' = (hM c M tl)) := by
    intro m
    induction m with
    | zero =>
      intro q e
      have e : q = aN A := by omega
      subst e
      refine wp_ald rfl rfl (vp_in_nI (n := 0) (by decide) (by decide)) (mr_sz hR) ?_
      refine wp_run rfl ?_
      refine wp_icge rfl (fun _ => ?_) (fun hz_ => absurd (nI_le (Nat.le_refl _) (by omega)) hz_)
      refine wp_run rfl ?_
      exact wp_ret rfl rfl ⟨rfl, rfl⟩
    | succ m ih =>
      intro q e
      have hq : q < aN A := by omega
      have hl := aAct_le (A := A) q
      refine wp_ald rfl rfl (vp_in_nI (n := 0) (by decide) (by decide)) (mr_sz hR) ?_
      refine wp_run rfl ?_
      refine wp_icge rfl (fun hz_ => absurd hz_ (nI_ge hq (by omega))) (fun _ => ?_)
      refine wp_run rfl ?_
      refine wp_v1 rfl rfl (Nat.le_of_ble_eq_true rfl) (x5_actAt (d := d + 1) hO hR (by omega)) ?_
      refine wp_run rfl ?_
      have ih := ih (q + 1) (by omega)
      rw [aS] at ih
      by_cases e2 : aAct A q = a
      · rw [if_pos e2] at ih
        refine wp_icne rfl (fun hz_ => absurd hz_ (fun z => z (by rw [e2]))) (fun _ => ?_)
        refine wp_run rfl ?_
        exact hs q _ _ hq ih
      · rw [if_neg e2, Nat.add_zero] at ih
        refine wp_icne rfl (fun _ => ?_) (fun hz_ => absurd (fun z => e2 ((nI_eq (by omega) ha).mp z)) hz_)
        refine wp_run rfl ?_
        rw [nI_1]
        exact ih
  refine ev_in rfl rfl (Nat.le_of_ble_eq_true rfl) rfl ?_
  refine wp_run rfl ?_
  exact loop (aN A) 0 (by omega)
theorem x5_sumOf0 (hO : aOw A) (hR : MR (mS M) A) {a : Nat} (ha : a < 2 ^ 31) : axEv ro (d + 4) kX5_sumOf [.ref 15, .int (nI a), .int 0] (hM c M tl) (some (.int (nI (aBeg A (aSt A (a + 1)) - aBeg A (aSt A a))))) (hM c M tl) := by
  refine x5_sumOf hO hR ha (w := 0) (f := fun i => aB A (aR A i)) (fun q x Q hq k => ?_)
  have hn := hO.n
  refine wp_ifne rfl (fun hz_ => absurd hz_ (fun z => z rfl)) (fun _ => ?_)
  refine wp_run rfl ?_
  rw [show (10 : Int32) + nI (q) = nI (10 + (q)) from nI_add 10 (q)]
  refine wp_ald rfl rfl (vp_in_nI ((show 10 + q < 154 by omega)) (by decide)) (by rw [nI_clamp (by omega)]) ?_
  refine wp_run rfl ?_
  rw [mr_rw hR hq]
  refine wp_v2 rfl rfl (Nat.le_of_ble_eq_true rfl) (x5_gB (d := d + 2) hO hR hq) ?_
  refine wp_run rfl ?_
  rw [nI_add, nI_1]
  exact k
theorem x5_sumOf1 (hO : aOw A) (hR : MR (mS M) A) {a : Nat} (ha : a < 2 ^ 31) : axEv ro (d + 4) kX5_sumOf [.ref 15, .int (nI a), .int 1] (hM c M tl) (some (.int (nI (aSt A (a + 1) - aSt A a)))) (hM c M tl) := by
  have e1 : ∀ n, aS (fun _ => 1) n = n := fun n => by
    induction n with
    | zero => rfl
    | succ n ih => rw [aS, ih]
  have := x5_sumOf (ro := ro) (d := d) (c := c) (tl := tl) hO hR ha (w := 1) (f := fun _ => 1) (fun q x Q hq k => by
    refine wp_ifne rfl (fun _ => ?_) (fun hz_ => absurd ((by decide : ¬ (1 : Int32) = 0)) hz_)
    refine wp_run rfl ?_
    refine wp_icne rfl (fun hz_ => absurd hz_ (fun z => z rfl)) (fun _ => ?_)
    refine wp_run rfl ?_
    rw [nI_1, nI_1]
    exact k)
  rw [e1, e1] at this
  exact this
theorem x5_sumOf2 (hO : aOw A) (hR : MR (mS M) A) {a : Nat} (ha : a < 2 ^ 31) : axEv ro (d + 4) kX5_sumOf [.ref 15, .int (nI a), .int 2] (hM c M tl) (some (.int (nI (aRm A (aSt A (a + 1)) - aRm A (aSt A a))))) (hM c M tl) := by
  refine x5_sumOf hO hR ha (w := 2) (f := fun i => aCan A (aR A i)) (fun q x Q hq k => ?_)
  have hn := hO.n
  refine wp_ifne rfl (fun _ => ?_) (fun hz_ => absurd ((by decide : ¬ (2 : Int32) = 0)) hz_)
  refine wp_run rfl ?_
  refine wp_icne rfl (fun _ => ?_) (fun hz_ => absurd ((by decide : ¬ (2 : Int32) = 1)) hz_)
  refine wp_run rfl ?_
  rw [show (10 : Int32) + nI (q) = nI (10 + (q)) from nI_add 10 (q)]
  refine wp_ald rfl rfl (vp_in_nI ((show 10 + q < 154 by omega)) (by decide)) (by rw [nI_clamp (by omega)]) ?_
  refine wp_run rfl ?_
  rw [mr_rw hR hq]
  refine wp_v1 rfl rfl (Nat.le_of_ble_eq_true rfl) (x5_canTrim hO hR hq) ?_
  refine wp_run rfl ?_
  rw [nI_add, nI_1]
  exact k
theorem x5_off (hO : aOw A) (hR : MR (mS M) A) {a : Nat} (ha : a < 2 ^ 31) : axEv ro (d + 5) kX5_off [.ref 15, .int (nI a)] (hM c M tl) (some (.int (zI (aOff A a)))) (hM c M tl) := by
  refine ev_in rfl rfl (Nat.le_of_ble_eq_true rfl) rfl ?_
  refine wp_run rfl ?_
  refine wp_v2 rfl rfl (Nat.le_of_ble_eq_true rfl) (x5_sumOf0 hO hR ha) ?_
  refine wp_run rfl ?_
  refine wp_v1 rfl rfl (Nat.le_of_ble_eq_true rfl) (x5_targetOf (d := d + 3) hO hR ha) ?_
  refine wp_run rfl ?_
  rw [show nI (aBeg A (aSt A (a + 1)) - aBeg A (aSt A a)) - nI (aTgt A a) = zI (aOff A a) by unfold aOff; rw [← zI_nI, ← zI_nI, zI_sub]]
  exact wp_ret rfl rfl ⟨rfl, rfl⟩
theorem x5_size {z : Int} (h0 : -2147483648 < z) (h1 : z < 2147483648) : axEv ro (d + 1) kX5_size [.int (zI z)] h (some (.int (nI z.natAbs))) h := by
  have hle : (0 : Int32) ≤ zI z ↔ 0 ≤ z := by rw [zI_0, zI_le ⟨by omega, by omega⟩ ⟨by omega, h1⟩]
  refine ev_in rfl rfl (Nat.le_of_ble_eq_true rfl) rfl ?_
  refine wp_run rfl ?_
  by_cases e : 0 ≤ z
  · refine wp_ifge rfl (fun _ => ?_) (fun hz_ => absurd (hle.mpr e) hz_)
    refine wp_run rfl ?_
    exact wp_ret rfl rfl ⟨by rw [← zI_nI]; congr 3; omega, rfl⟩
  · refine wp_ifge rfl (fun hz_ => absurd hz_ (fun q => e (hle.mp q))) (fun _ => ?_)
    refine wp_run rfl ?_
    exact wp_ret rfl rfl ⟨by rw [← zI_nI, zI_neg]; congr 3; omega, rfl⟩
theorem x5_fits (hO : aOw A) (hR : MR (mS M) A) {a : Nat} (ha : a < 2 ^ 31) : axEv ro (d + 6) kX5_fits [.ref 15, .int (nI a)] (hM c M tl) (some (.int (if (aOff A a).natAbs ≤ aSl A ∧ aAct A (aN A) ≠ a then 1 else 0))) (hM c M tl) := by
  have hb := aOff_bW hO a
  have hs := hO.sl
  refine ev_in rfl rfl (Nat.le_of_ble_eq_true rfl) rfl ?_
  refine wp_run rfl ?_
  refine wp_v1 rfl rfl (Nat.le_of_ble_eq_true rfl) (x5_off hO hR ha) ?_
  refine wp_run rfl ?_
  refine wp_s1 rfl (Nat.le_of_ble_eq_true rfl) (x5_size (d := d + 4) (by omega) (by omega)) ?_
  refine wp_run rfl ?_
  refine wp_ald rfl rfl (vp_in_nI (n := 2) (by decide) (by decide)) (mr_sl hR) ?_
  refine wp_run rfl ?_
  by_cases e : (aOff A a).natAbs ≤ aSl A
  · refine wp_icgt rfl (fun hz_ => absurd hz_ (nI_nlt e (by omega))) (fun _ => ?_)
    refine wp_run rfl ?_
    refine wp_v1 rfl rfl (Nat.le_of_ble_eq_true rfl) (x5_isOpen (d := d + 2) hO hR ha) ?_
    refine wp_run rfl ?_
    by_cases e2 : aAct A (aN A) = a
    · rw [if_pos e2, if_neg (fun z => z.2 e2)]
      refine wp_ifne rfl (fun _ => ?_) (fun hz_ => absurd ((by decide : ¬ (1 : Int32) = 0)) hz_)
      refine wp_run rfl ?_
      exact wp_ret rfl rfl ⟨rfl, rfl⟩
    · rw [if_neg e2, if_pos ⟨e, e2⟩]
      refine wp_ifne rfl (fun hz_ => absurd hz_ (fun z => z rfl)) (fun _ => ?_)
      refine wp_run rfl ?_
      exact wp_ret rfl rfl ⟨rfl, rfl⟩
  · rw [if_neg (fun z => e z.1)]
    refine wp_icgt rfl (fun _ => ?_) (fun hz_ => absurd (nI_lt (by omega) (by omega)) hz_)
    refine wp_run rfl ?_
    exact wp_ret rfl rfl ⟨rfl, rfl⟩
end AX51
