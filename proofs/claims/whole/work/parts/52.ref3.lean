/-! THE REFERENCE: what it reads of a board (2): how far acts are off, sets, the order of needs, bits. -/
theorem low_bit : ∀ n : Nat, 0 < n → ∃ l, n.testBit l = true ∧ ∀ j, (n &&& (n - 1)).testBit j = (n.testBit j && decide (j ≠ l)) := by
  intro n
  induction n using Nat.strongRecOn with
  | _ n ih =>
    intro hn
    by_cases e : n % 2 = 1
    · have h0 : n.testBit 0 = true := by rw [Nat.testBit_zero]; exact decide_eq_true e
      refine ⟨0, h0, fun j => ?_⟩
      rw [Nat.testBit_and]
      cases j with
      | zero =>
        have : (n - 1).testBit 0 = false := by rw [Nat.testBit_zero]; exact decide_eq_false (by omega)
        rw [this, Bool.and_false]; simp
      | succ j =>
        rw [Nat.testBit_succ, Nat.testBit_succ, show (n - 1) / 2 = n / 2 by omega]
        simp
    · obtain ⟨l, h1, h2⟩ := ih (n / 2) (by omega) (by omega)
      refine ⟨l + 1, by rw [Nat.testBit_succ]; exact h1, fun j => ?_⟩
      cases j with
      | zero =>
        have : n.testBit 0 = false := by rw [Nat.testBit_zero]; exact decide_eq_false e
        rw [Nat.testBit_and, this]; rfl
      | succ j =>
        have := h2 j
        rw [Nat.testBit_and] at this
        rw [Nat.testBit_and, Nat.testBit_succ, Nat.testBit_succ, show (n - 1) / 2 = n / 2 - 1 by omega, this]
        congr 1
        exact decide_eq_decide.mpr (by omega)
theorem bits_step (x : Int32) (hx : x ≠ 0) : pcN (x &&& (x - 1)) + 1 = pcN x := by
  obtain ⟨a, b, c, e, ha, hb, hc, he, rfl⟩ := pc_of x
  generalize hn : 256 * (256 * (256 * e + c) + b) + a = n at hx
  have hlt : n < 2 ^ 32 := by omega
  have h0 : 0 < n := Nat.pos_of_ne_zero (fun z => hx (by rw [z]; rfl))
  obtain ⟨l, h1, h2⟩ := low_bit n h0
  have hl : l < 32 := by
    rcases Nat.lt_or_ge l 32 with z | z
    · exact z
    · have := Nat.testBit_lt_two_pow (Nat.lt_of_lt_of_le hlt (Nat.pow_le_pow_right (by decide) z))
      rw [this] at h1; cases h1
  have hle : n &&& (n - 1) < 2 ^ 32 := Nat.lt_of_le_of_lt Nat.and_le_left hlt
  rw [show nI n - 1 = nI (n - 1) from nI_p1 h0, nx_and]
  have hp := bc_point (f := fun i => bt (nI (n &&& (n - 1))) i) (a := l) (c := true) (by
    show bt (nI (n &&& (n - 1))) l = false
    rw [pc_bits hle l hl, h2, decide_eq_false (fun z => z rfl), Bool.and_false]) 32
  rw [if_pos ⟨hl, rfl⟩] at hp
  unfold pcN
  rw [← hp]
  refine bc_cong 32 (fun i hi => ?_)
  show (bt (nI (n &&& (n - 1))) i || (decide (i = l) && true)) = bt (nI n) i
  rw [pc_bits hle i hi, h2, pc_bits hlt i hi]
  by_cases e2 : i = l
  · rw [e2, h1]; simp
  · simp [e2]
theorem aActs_le1 (A : axAD) : aActs A ≤ aAct A (aN A) + 1 := by
  unfold aActs
  split
  · omega
  · have e1 : aAct A (aN A - 1 + 1) = aAct A (aN A - 1) + (if aT A (aR A (aN A - 1)) = true then 1 else 0) := rfl
    rw [show aN A - 1 + 1 = aN A by omega] at e1
    omega
theorem aAct_mono (A : axAD) {a b : Nat} (h : a ≤ b) : aAct A a ≤ aAct A b := aS_mono h
theorem aSt_act (A : axAD) (p : Nat) : aSt A (aAct A p) ≤ p := by
  rcases Nat.lt_or_ge p (aSt A (aAct A p)) with z | z
  · have := ((aSt_lt A (aAct A p) p).mp z).2; omega
  · exact z
theorem aSt_end (A : axAD) {a p : Nat} (hp : p < aN A) (h1 : aAct A p ≤ a) (h2 : aAct A (p + 1) = a + 1) : aSt A (a + 1) = p + 1 := by
  have h3 := aSt_act A (p + 1)
  rw [h2] at h3
  have h4 := (aSt_lt A (a + 1) p).mpr ⟨hp, by omega⟩
  omega
theorem aFo_inv (A : axAD) : ∀ p, p ≤ aN A → (aFo A p).1 = aS (fun a => (aOff A a).natAbs) (aAct A p) ∧ (aFo A p).2.1 = aAct A p ∧ (aFo A p).2.2.1 = aBeg A p - aBeg A (aSt A (aAct A p)) ∧ (aFo A p).2.2.2 = (decide (0 < p) && !aT A (aR A (p - 1)))
  | 0, _ => ⟨rfl, rfl, by show 0 = aBeg A 0 - _; rw [show aBeg A 0 = 0 from rfl]; omega, rfl⟩
  | p + 1, hp => by
    obtain ⟨h1, h2, h3, h4⟩ := aFo_inv A p (by omega)
    have hs := aSt_act A p
    have hd : aBeg A p - aBeg A (aSt A (aAct A p)) + aB A (aR A p) = aBeg A (p + 1) - aBeg A (aSt A (aAct A p)) := aS_diff hs
    have e1 : aAct A (p + 1) = aAct A p + (if aT A (aR A p) = true then 1 else 0) := rfl
    have e0 : decide (0 < p + 1) = true := decide_eq_true (by omega)
    rw [aFo, Nat.add_sub_cancel, e0]
    cases ht : aT A (aR A p) with
    | true =>
      rw [ht, if_pos rfl] at e1
      have h5 := aSt_end A (show p < aN A by omega) (Nat.le_refl _) e1
      rw [if_pos rfl, e1]
      refine ⟨?_, ?_, ?_, rfl⟩
      · show (aFo A p).1 + _ = aS _ _ + _
        rw [h1, h2, h3, hd]
        show _ = _ + (((aBeg A (aSt A (aAct A p + 1)) - aBeg A (aSt A (aAct A p)) : Nat) : Int) - (aTgt A (aAct A p) : Int)).natAbs
        rw [h5]
      · show (aFo A p).2.1 + 1 = _; rw [h2]
      · show 0 = _; rw [h5]; omega
    | false =>
      rw [ht, if_neg (by decide)] at e1
      rw [if_neg (by decide), e1]
      refine ⟨h1, h2, ?_, rfl⟩
      show (aFo A p).2.2.1 + _ = _
      rw [h3]; exact hd
theorem aAll_sum (A : axAD) : aS (fun a => (aOff A a).natAbs) (aActs A) = aAll A := by
  obtain ⟨h1, h2, h3, h4⟩ := aFo_inv A (aN A) (Nat.le_refl _)
  unfold aAll
  by_cases h0 : aN A = 0
  · rw [h4, h0, show (decide (0 < 0) && !aT A (aR A (0 - 1))) = false from rfl, if_neg (by decide)]
    unfold aActs
    rw [if_pos h0]
    rfl
  · have e1 : aAct A (aN A - 1 + 1) = aAct A (aN A - 1) + (if aT A (aR A (aN A - 1)) = true then 1 else 0) := rfl
    rw [show aN A - 1 + 1 = aN A by omega] at e1
    have e2 : aActs A = aAct A (aN A - 1) + 1 := by unfold aActs; rw [if_neg h0]
    rw [decide_eq_true (show 0 < aN A by omega)] at h4
    rw [h4]
    cases ht : aT A (aR A (aN A - 1)) with
    | true =>
      rw [ht, if_pos rfl] at e1
      rw [if_neg (by decide), h1, e1, e2]
    | false =>
      rw [ht, if_neg (by decide)] at e1
      rw [if_pos (by decide), h1, h2, h3, e2, ← show aAct A (aN A) = aAct A (aN A - 1) from e1]
      have h5 : aSt A (aAct A (aN A) + 1) = aN A := by
        have := (aSt_lt A (aAct A (aN A) + 1) (aN A - 1)).mpr ⟨by omega, by omega⟩
        have := aSt_le A (aAct A (aN A) + 1)
        omega
      show aS _ _ + (((aBeg A (aSt A (aAct A (aN A) + 1)) - aBeg A (aSt A (aAct A (aN A))) : Nat) : Int) - (aTgt A (aAct A (aN A)) : Int)).natAbs = _
      rw [h5]
/-- the slugs that need k, by their numbers -/
def ndM (A : axAD) (k : Nat) : Nat → Int32
  | 0 => 0
  | q + 1 => if aPr A q = true ∧ bt (aD A q) k = true then ndM A k q ||| bi q else ndM A k q
theorem bt_ndM (A : axAD) (k j : Nat) : ∀ q, q ≤ 24 → (bt (ndM A k q) j = true ↔ j < q ∧ aPr A j = true ∧ bt (aD A j) k = true)
  | 0, _ => ⟨fun h => (by rw [ndM, b_0] at h; cases h), fun h => absurd h.1 (Nat.not_lt_zero j)⟩
  | q + 1, hq => by
    have ih := bt_ndM A k j q (by omega)
    rw [ndM]
    by_cases e : aPr A q = true ∧ bt (aD A q) k = true
    · rw [if_pos e, bt_set (by omega), Bool.or_eq_true, ih]
      constructor
      · rintro (h | h)
        · exact ⟨by omega, h.2⟩
        · rw [of_decide_eq_true h]; exact ⟨by omega, e⟩
      · rintro ⟨h, h2⟩
        by_cases e2 : j = q
        · exact Or.inr (decide_eq_true e2)
        · exact Or.inl ⟨by omega, h2⟩
    · rw [if_neg e, ih]
      constructor
      · rintro ⟨h, h2⟩; exact ⟨by omega, h2⟩
      · rintro ⟨h, h2⟩
        by_cases e2 : j = q
        · rw [e2] at h2; exact absurd h2 e
        · exact ⟨by omega, h2⟩
theorem bt_aNdr {A : axAD} (hO : aOw A) (k j : Nat) : ∀ p, p ≤ aN A → (bt (aNdr A k p) j = true ↔ ∃ i, i < p ∧ aR A i = j ∧ bt (aD A j) k = true)
  | 0, _ => ⟨fun h => (by rw [aNdr, b_0] at h; cases h), fun ⟨i, hi, _⟩ => absurd hi (Nat.not_lt_zero i)⟩
  | p + 1, hp => by
    have ih := bt_aNdr hO k j p (by omega)
    have hr := hO.r (show p < aN A by omega)
    rw [aNdr]
    by_cases e : bt (aD A (aR A p)) k = true
    · rw [if_pos e, bt_set (by omega), Bool.or_eq_true, ih]
      constructor
      · rintro (⟨i, hi, h2⟩ | h)
        · exact ⟨i, by omega, h2⟩
        · have h := of_decide_eq_true h
          exact ⟨p, by omega, h.symm, by rw [h]; exact e⟩
      · rintro ⟨i, hi, h2, h3⟩
        by_cases e2 : i = p
        · subst e2; exact Or.inr (decide_eq_true h2.symm)
        · exact Or.inl ⟨i, by omega, h2, h3⟩
    · rw [if_neg e, ih]
      constructor
      · rintro ⟨i, hi, h2⟩; exact ⟨i, by omega, h2⟩
      · rintro ⟨i, hi, h2, h3⟩
        by_cases e2 : i = p
        · subst e2; rw [← h2] at h3; exact absurd h3 e
        · exact ⟨i, by omega, h2, h3⟩
theorem ndM_is {A : axAD} (hO : aOw A) (k : Nat) : ndM A k 24 = aNdr A k (aN A) := bt_ext fun j hj => by
  rw [bt_ndM A k j 24 (Nat.le_refl _), bt_aNdr hO k j _ (Nat.le_refl _), aPr_iff]
  constructor
  · rintro ⟨-, ⟨i, hi, e⟩, h⟩; exact ⟨i, hi, e, h⟩
  · rintro ⟨i, hi, e, h⟩; exact ⟨by rw [← e]; exact hO.r hi, ⟨i, hi, e⟩, h⟩
/-- is each slug of the first q behind all that it needs -/
def orB (A : axAD) : Nat → Bool
  | 0 => true
  | q + 1 => orB A q && decide (aD A (aR A q) &&& (aSet A q ^^^ (-1)) = 0)
theorem bt_aSetW {A : axAD} (hO : aOw A) (k : Nat) : ∀ q, q ≤ aN A → (bt (aSet A q) k = true ↔ ∃ i, i < q ∧ aR A i = k)
  | 0, _ => ⟨fun h => (by rw [aSet, b_0] at h; cases h), fun ⟨i, hi, _⟩ => absurd hi (Nat.not_lt_zero i)⟩
  | q + 1, hq => by
    have hr := hO.r (show q < aN A by omega)
    rw [aSet, bt_set (by omega), Bool.or_eq_true, bt_aSetW hO k q (by omega)]
    constructor
    · rintro (⟨i, hi, e⟩ | h)
      · exact ⟨i, by omega, e⟩
      · exact ⟨q, by omega, (of_decide_eq_true h).symm⟩
    · rintro ⟨i, hi, e⟩
      by_cases e2 : i = q
      · subst e2; exact Or.inr (decide_eq_true e.symm)
      · exact Or.inl ⟨i, by omega, e⟩
theorem or_one {A : axAD} (hO : aOw A) {q : Nat} (hq : q ≤ aN A) (x : Int32) : x &&& (aSet A q ^^^ (-1)) = 0 ↔ ∀ k, bt x k = true → ∃ j, j < q ∧ aR A j = k := by
  constructor
  · intro h k hk
    have this : bt (x &&& (aSet A q ^^^ (-1))) k = bt 0 k := congrArg (fun z => bt z k) h
    have hk32 : k < 32 := by
      rcases Nat.lt_or_ge k 32 with z | z
      · exact z
      · rw [b_big z] at hk; cases hk
    rw [b_and, b_xor, bt_m1, b_0, hk, decide_eq_true hk32, Bool.true_and, Bool.xor_true] at this
    refine (bt_aSetW hO k q hq).mp ?_
    cases h2 : bt (aSet A q) k
    · rw [h2] at this; cases this
    · rfl
  · intro h
    refine b_ext fun k hk => ?_
    rw [b_and, b_xor, bt_m1, b_0, decide_eq_true hk]
    cases h2 : bt x k
    · rfl
    · rw [(bt_aSetW hO k q hq).mpr (h k h2)]; rfl
theorem orB_iff {A : axAD} (hO : aOw A) : ∀ q, q ≤ aN A → (orB A q = true ↔ ∀ i k, i < q → bt (aD A (aR A i)) k = true → ∃ j, j < i ∧ aR A j = k)
  | 0, _ => ⟨fun _ i _ hi => absurd hi (Nat.not_lt_zero i), fun _ => rfl⟩
  | q + 1, hq => by
    rw [orB, Bool.and_eq_true, orB_iff hO q (by omega)]
    constructor
    · rintro ⟨h1, h2⟩ i k hi hk
      by_cases e : i = q
      · subst e; exact (or_one hO (by omega) _).mp (of_decide_eq_true h2) k hk
      · exact h1 i k (by omega) hk
    · intro h
      exact ⟨fun i k hi => h i k (by omega), decide_eq_true ((or_one hO (by omega) _).mpr fun k => h q k (by omega))⟩
theorem orB_ord {A : axAD} (hO : aOw A) : orB A (aN A) = true ↔ aOrd A (aR A) := orB_iff hO _ (Nat.le_refl _)
theorem aLng_is {A : axAD} (hO : aOw A) : ∀ p, 0 < p → p ≤ aN A → ∃ i, i < p ∧ aLng A p = (nI (aR A i), aB A (aR A i))
  | 0, h, _ => absurd h (Nat.lt_irrefl 0)
  | p + 1, _, hp => by
    have hb := hO.b (show p < aN A by omega)
    rw [aLng]
    by_cases e : (aLng A p).2 < aB A (aR A p)
    · rw [if_pos e]; exact ⟨p, by omega, rfl⟩
    · rw [if_neg e]
      by_cases h0 : p = 0
      · subst h0; exact absurd (show (aLng A 0).2 < _ by show 0 < _; omega) e
      · obtain ⟨i, hi, e2⟩ := aLng_is hO p (by omega) (by omega)
        exact ⟨i, by omega, e2⟩
theorem aFr_nd (A : axAD) (g : Nat → Int32) : aFr (aNdF A g) = aFr A := by
  unfold aFr
  exact congrArg (fun f => aFst f 24) (funext fun k => rfl)
theorem aFr_w {A : axAD} (hO : aOw A) (hn : aN A < 24) {z : Nat} (hz : z = aFr A) : z < 24 ∧ ¬ aIn A z ∧ ∀ j, j < z → aIn A j := by
  have h1 := aFr_lt hO.k hn
  have h2 := aFr_free hO.k hn
  rw [aFr_nd, ← hz] at h1 h2
  refine ⟨h1, h2, fun j hj => ?_⟩
  have := aFst_no (fun k => !aPr A k) 24 j (by rw [hz] at hj; exact hj)
  rw [← aPr_iff]
  cases h : aPr A j
  · rw [h] at this; cases this
  · rfl
section AX52
variable {ro : axRo} {d : Nat} {h : axH} {c : Nat → axC} {M : axMD} {tl : axH} {A : axAD}
theorem x5_bits (x : Int32) : axEv ro (d + 1) kX5_bits [.int x] h (some (.int (nI (pcN x)))) h := by
  have loop : ∀ m k z, pcN z = m → axW ro (axEv ro d) cdX5_bits 5 [some (.int x), some (.int (nI k)), some (.int z)] [.int z] h (fun r' h' => r' = some (.int (nI (k + m))) ∧ h' = h) := by
    intro m
    induction m with
    | zero =>
      intro k z e
      have hz : z = 0 := by
        by_cases hz : z = 0
        · exact hz
        · have := bits_step z hz; omega
      subst hz
      refine wp_ifeq rfl (fun _ => ?_) (fun hz_ => absurd (rfl) hz_)
      refine wp_run rfl ?_
      exact wp_ret rfl rfl ⟨rfl, rfl⟩
    | succ m ih =>
      intro k z e
      have hz : z ≠ 0 := fun hz => by
        subst hz
        have : pcN 0 = 0 := by decide +kernel
        omega
      have hs := bits_step z hz
      refine wp_ifeq rfl (fun hz_ => absurd hz_ (hz)) (fun _ => ?_)
      refine wp_run rfl ?_
      rw [nI_1, show k + (m + 1) = k + 1 + m by omega]
      exact ih (k + 1) _ (by omega)
  have := loop _ 0 x rfl
  rw [Nat.zero_add] at this
  refine ev_in rfl rfl (Nat.le_of_ble_eq_true rfl) rfl ?_
  refine wp_run rfl ?_
  exact this
theorem x5_beginOfAct (hO : aOw A) (hR : MR (mS M) A) {a : Nat} (ha : a < aActs A) : axEv ro (d + 3) kX5_beginOfAct [.ref 15, .int (nI a)] (hM c M tl) (some (.int (nI (aBeg A (aSt A a))))) (hM c M tl) := by
  have hn := hO.n
  have hl := aActs_le A
  have hl1 := aActs_le1 A
  have hs := aSt_le A a
  have loop : ∀ m q, q + m = aSt A a → axW ro (axEv ro (d + 2)) cdX5_beginOfAct 4 [some (.ref 15), some (.int (nI a)), some (.int (nI q))] [.int (nI q), .ref 15] (hM c M tl) (fun r' h' => r' = some (.int (nI (aBeg A (aSt A a)))) ∧ h' = (hM c M tl)) := by
    intro m
    induction m with
    | zero =>
      intro q e
      have e : q = aSt A a := by omega
      subst e
      have h1 : a ≤ aAct A (aSt A a) := by
        by_cases hq : aSt A a < aN A
        · rcases Nat.lt_or_ge (aAct A (aSt A a)) a with z | z
          · have := (aSt_lt A a (aSt A a)).mpr ⟨hq, z⟩; omega
          · exact z
        · rw [show aSt A a = aN A by omega]; omega
      have h2 := aAct_le (A := A) (aSt A a)
      refine wp_v1 rfl rfl (Nat.le_of_ble_eq_true rfl) (x5_actAt hO hR hs) ?_
      refine wp_run rfl ?_
      refine wp_icge rfl (fun _ => ?_) (fun hz_ => absurd (nI_le h1 (by omega)) hz_)
      refine wp_run rfl ?_
      refine wp_v1 rfl rfl (Nat.le_of_ble_eq_true rfl) (x5_begin hO hR hs) ?_
      refine wp_run rfl ?_
      exact wp_ret rfl rfl ⟨rfl, rfl⟩
    | succ m ih =>
      intro q e
      obtain ⟨hq, h1⟩ := (aSt_lt A a q).mp (by omega)
      refine wp_v1 rfl rfl (Nat.le_of_ble_eq_true rfl) (x5_actAt hO hR (by omega)) ?_
      refine wp_run rfl ?_
      refine wp_icge rfl (fun hz_ => absurd hz_ (nI_ge h1 (by omega))) (fun _ => ?_)
      refine wp_run rfl ?_
      rw [nI_1]
      exact ih (q + 1) (by omega)
  refine ev_in rfl rfl (Nat.le_of_ble_eq_true rfl) rfl ?_
  refine wp_run rfl ?_
  exact loop _ 0 (Nat.zero_add _)
theorem x5_allOff (hO : aOw A) (hR : MR (mS M) A) : axEv ro (d + 6) kX5_allOff [.ref 15] (hM c M tl) (some (.int (nI (aAll A)))) (hM c M tl) := by
  have hn := hO.n
  have hl := aActs_le A
  rw [← aAll_sum]
  have loop : ∀ m a, a + m = aActs A → axW ro (axEv ro (d + 5)) cdX5_allOff 6 [some (.ref 15), some (.int (nI (aS (fun a => (aOff A a).natAbs) a))), some (.int (nI a))] [.ref 15, .int (nI a)] (hM c M tl) (fun r' h' => r' = some (.int (nI (aS (fun a => (aOff A a).natAbs) (aActs A)))) ∧ h' = (hM c M tl)) := by
    intro m
    induction m with
    | zero =>
      intro a e
      have e : a = aActs A := by omega
      subst e
      refine wp_v0 rfl rfl (Nat.le_of_ble_eq_true rfl) (x5_acts (d := d + 2) hO hR) ?_
      refine wp_run rfl ?_
      refine wp_icge rfl (fun _ => ?_) (fun hz_ => absurd (nI_le (Nat.le_refl _) (by omega)) hz_)
      refine wp_run rfl ?_
      exact wp_ret rfl rfl ⟨rfl, rfl⟩
    | succ m ih =>
      intro a e
      have hb := aOff_bW hO a
      refine wp_v0 rfl rfl (Nat.le_of_ble_eq_true rfl) (x5_acts (d := d + 2) hO hR) ?_
      refine wp_run rfl ?_
      refine wp_icge rfl (fun hz_ => absurd hz_ (nI_ge (show a < aActs A by omega) (by omega))) (fun _ => ?_)
      refine wp_run rfl ?_
      refine wp_v1 rfl rfl (Nat.le_of_ble_eq_true rfl) (x5_off hO hR (by omega)) ?_
      refine wp_run rfl ?_
      refine wp_s1 rfl (Nat.le_of_ble_eq_true rfl) (x5_size (d := d + 4) (by omega) (by omega)) ?_
      refine wp_run rfl ?_
      rw [nI_add, nI_1]
      exact ih (a + 1) (by omega)
  refine ev_in rfl rfl (Nat.le_of_ble_eq_true rfl) rfl ?_
  refine wp_run rfl ?_
  exact loop _ 0 (Nat.zero_add _)
theorem x5_fitting (hO : aOw A) (hR : MR (mS M) A) : axEv ro (d + 7) kX5_fitting [.ref 15] (hM c M tl) (some (.int (nI (bc (fun a => decide (a < aAct A (aN A) ∧ (aOff A a).natAbs ≤ aSl A)) (aActs A))))) (hM c M tl) := by
  have hn := hO.n
  have hl := aActs_le A
  have hl1 := aActs_le1 A
  have loop : ∀ m a, a + m = aActs A → axW ro (axEv ro (d + 6)) cdX5_fitting 6 [some (.ref 15), some (.int (nI (bc (fun a => decide (a < aAct A (aN A) ∧ (aOff A a).natAbs ≤ aSl A)) a))), some (.int (nI a))] [.ref 15, .int (nI a)] (hM c M tl) (fun r' h' => r' = some (.int (nI (bc (fun a => decide (a < aAct A (aN A) ∧ (aOff A a).natAbs ≤ aSl A)) (aActs A)))) ∧ h' = (hM c M tl)) := by
    intro m
    induction m with
    | zero =>
      intro a e
      have e : a = aActs A := by omega
      subst e
      refine wp_v0 rfl rfl (Nat.le_of_ble_eq_true rfl) (x5_acts (d := d + 3) hO hR) ?_
      refine wp_run rfl ?_
      refine wp_icge rfl (fun _ => ?_) (fun hz_ => absurd (nI_le (Nat.le_refl _) (by omega)) hz_)
      refine wp_run rfl ?_
      exact wp_ret rfl rfl ⟨rfl, rfl⟩
    | succ m ih =>
      intro a e
      have ih := ih (a + 1) (by omega)
      rw [bc] at ih
      refine wp_v0 rfl rfl (Nat.le_of_ble_eq_true rfl) (x5_acts (d := d + 3) hO hR) ?_
      refine wp_run rfl ?_
      refine wp_icge rfl (fun hz_ => absurd hz_ (nI_ge (show a < aActs A by omega) (by omega))) (fun _ => ?_)
      refine wp_run rfl ?_
      refine wp_v1 rfl rfl (Nat.le_of_ble_eq_true rfl) (x5_fits hO hR (by omega)) ?_
      refine wp_run rfl ?_
      by_cases e2 : a < aAct A (aN A) ∧ (aOff A a).natAbs ≤ aSl A
      · rw [if_pos (decide_eq_true e2)] at ih
        rw [if_pos ⟨e2.2, by omega⟩]
        refine wp_ifeq rfl (fun hz_ => absurd hz_ ((by decide : ¬ (1 : Int32) = 0))) (fun _ => ?_)
        refine wp_run rfl ?_
        rw [nI_1, nI_1]
        exact ih
      · rw [if_neg (fun z => e2 (of_decide_eq_true z)), Nat.add_zero] at ih
        rw [if_neg (fun z => e2 ⟨by omega, z.1⟩)]
        refine wp_ifeq rfl (fun _ => ?_) (fun hz_ => absurd (rfl) hz_)
        refine wp_run rfl ?_
        rw [nI_1, Int32.add_zero]
        exact ih
  refine ev_in rfl rfl (Nat.le_of_ble_eq_true rfl) rfl ?_
  refine wp_run rfl ?_
  exact loop _ 0 (Nat.zero_add _)
theorem x5_slugs (hO : aOw A) (hR : MR (mS M) A) : axEv ro (d + 1) kX5_slugs [.ref 15] (hM c M tl) (some (.int (aSet A (aN A)))) (hM c M tl) := by
  have hn := hO.n
  have loop : ∀ m q, q + m = aN A → axW ro (axEv ro d) cdX5_slugs 10 [some (.ref 15), some (.int (aSet A q)), some (.int (nI q))] [.int 0, .ref 16, .int (nI q)] (hM c M tl) (fun r' h' => r' = some (.int (aSet A (aN A))) ∧ h' = (hM c M tl)) := by
    intro m
    induction m with
    | zero =>
      intro q e
      have e : q = aN A := by omega
      subst e
      refine wp_ald rfl rfl (vp_in_nI (n := 0) (by decide) (by decide)) (mr_sz hR) ?_
      refine wp_run rfl ?_
      refine wp_icge rfl (fun _ => ?_) (fun hz_ => absurd (nI_le (Nat.le_refl _) (by omega)) hz_)
      refine wp_run rfl ?_
      exact wp_ret rfl rfl ⟨rfl, rfl⟩
    | succ m ih =>
      intro q e
      have hq : q < aN A := by omega
      refine wp_ald rfl rfl (vp_in_nI (n := 0) (by decide) (by decide)) (mr_sz hR) ?_
      refine wp_run rfl ?_
      refine wp_icge rfl (fun hz_ => absurd hz_ (nI_ge hq (by omega))) (fun _ => ?_)
      refine wp_run rfl ?_
      rw [show (10 : Int32) + nI (q) = nI (10 + (q)) from nI_add 10 (q)]
      refine wp_ald rfl rfl (vp_in_nI ((show 10 + q < 154 by omega)) (by decide)) (by rw [nI_clamp (by omega)]) ?_
      refine wp_run rfl ?_
      rw [mr_rw hR hq, nI_1]
      exact ih (q + 1) (by omega)
  refine ev_in rfl rfl (Nat.le_of_ble_eq_true rfl) rfl ?_
  refine wp_run rfl ?_
  exact loop _ 0 (Nat.zero_add _)
theorem x5_longest (hO : aOw A) (hR : MR (mS M) A) : axEv ro (d + 2) kX5_longest [.ref 15] (hM c M tl) (some (.int (aLng A (aN A)).1)) (hM c M tl) := by
  have hn := hO.n
  have loop : ∀ m q, q + m = aN A → axW ro (axEv ro (d + 1)) cdX5_longest 11 [some (.ref 15), some (.int (aLng A q).1), some (.int (nI q))] [.int 0, .ref 16, .int (nI q)] (hM c M tl) (fun r' h' => r' = some (.int ((aLng A (aN A)).1)) ∧ h' = (hM c M tl)) := by
    intro m
    induction m with
    | zero =>
      intro q e
      have e : q = aN A := by omega
      subst e
      refine wp_ald rfl rfl (vp_in_nI (n := 0) (by decide) (by decide)) (mr_sz hR) ?_
      refine wp_run rfl ?_
      refine wp_icge rfl (fun _ => ?_) (fun hz_ => absurd (nI_le (Nat.le_refl _) (by omega)) hz_)
      refine wp_run rfl ?_
      exact wp_ret rfl rfl ⟨rfl, rfl⟩
    | succ m ih =>
      intro q e
      have hq : q < aN A := by omega
      have ih := ih (q + 1) (by omega)
      have hb := hO.b hq
      rw [aLng] at ih
      refine wp_ald rfl rfl (vp_in_nI (n := 0) (by decide) (by decide)) (mr_sz hR) ?_
      refine wp_run rfl ?_
      refine wp_icge rfl (fun hz_ => absurd hz_ (nI_ge hq (by omega))) (fun _ => ?_)
      refine wp_run rfl ?_
      by_cases h0 : q = 0
      · subst h0
        rw [if_pos (show (aLng A 0).2 < _ by show 0 < _; omega)] at ih
        refine wp_iceq rfl (fun _ => ?_) (fun hz_ => absurd (rfl) hz_)
        refine wp_run rfl ?_
        rw [show (10 : Int32) + nI (0) = nI (10 + (0)) from nI_add 10 (0)]
        refine wp_ald rfl rfl (vp_in_nI ((show 10 + 0 < 154 by omega)) (by decide)) (by rw [nI_clamp (by omega)]) ?_
        refine wp_run rfl ?_
        rw [mr_rw hR hq]
        exact ih
      · obtain ⟨i, hi, e2⟩ := aLng_is hO q (by omega) (by omega)
        have hr := hO.r (show i < aN A by omega)
        have hb2 := hO.b (show i < aN A by omega)
        rw [e2] at ih ⊢
        refine wp_iceq rfl (fun hz => absurd (show nI (aR A i) < 0 by rw [show nI (aR A i) = -6 from hz]; decide) (nI_pos (by omega))) (fun _ => ?_)
        refine wp_run rfl ?_
        rw [show (10 : Int32) + nI (q) = nI (10 + (q)) from nI_add 10 (q)]
        refine wp_ald rfl rfl (vp_in_nI ((show 10 + q < 154 by omega)) (by decide)) (by rw [nI_clamp (by omega)]) ?_
        refine wp_run rfl ?_
        rw [mr_rw hR hq]
        refine wp_v2 rfl rfl (Nat.le_of_ble_eq_true rfl) (x5_gB hO hR hq) ?_
        refine wp_run rfl ?_
        refine wp_v2 rfl rfl (Nat.le_of_ble_eq_true rfl) (x5_gB hO hR (show i < aN A by omega)) ?_
        refine wp_run rfl ?_
        by_cases e3 : aB A (aR A i) < aB A (aR A q)
        · rw [if_pos e3] at ih
          refine wp_icle rfl (fun hz_ => absurd hz_ (nI_ge e3 (by omega))) (fun _ => ?_)
          refine wp_run rfl ?_
          rw [show (10 : Int32) + nI (q) = nI (10 + (q)) from nI_add 10 (q)]
          refine wp_ald rfl rfl (vp_in_nI ((show 10 + q < 154 by omega)) (by decide)) (by rw [nI_clamp (by omega)]) ?_
          refine wp_run rfl ?_
          rw [mr_rw hR hq, nI_1]
          exact ih
        · rw [if_neg e3] at ih
          refine wp_icle rfl (fun _ => ?_) (fun hz_ => absurd (nI_le (by omega) (by omega)) hz_)
          refine wp_run rfl ?_
          rw [nI_1]
          exact ih
  refine ev_in rfl rfl (Nat.le_of_ble_eq_true rfl) rfl ?_
  refine wp_run rfl ?_
  exact loop _ 0 (Nat.zero_add _)
theorem x5_neededBy (hO : aOw A) (hR : MR (mS M) A) {k : Nat} (hk : k < 32) : axEv ro (d + 2) kX5_neededBy [.ref 15, .int (nI k)] (hM c M tl) (some (.int (aNdr A k (aN A)))) (hM c M tl) := by
  have hn := hO.n
  rw [← ndM_is hO]
  have loop : ∀ m q, q + m = 24 → axW ro (axEv ro (d + 1)) cdX5_neededBy 7 [some (.ref 15), some (.int (nI k)), some (.int (ndM A k q)), some (.int (nI q))] [.int 24, .int (nI q)] (hM c M tl) (fun r' h' => r' = some (.int (ndM A k 24)) ∧ h' = (hM c M tl)) := by
    intro m
    induction m with
    | zero =>
      intro q e
      have e : q = 24 := by omega
      subst e
      refine wp_icge rfl (fun _ => ?_) (fun hz_ => absurd (nI_le (b := 24) (Nat.le_refl 24) (by decide)) hz_)
      refine wp_run rfl ?_
      exact wp_ret rfl rfl ⟨rfl, rfl⟩
    | succ m ih =>
      intro q e
      have hq : q < 24 := by omega
      have ih := ih (q + 1) (by omega)
      rw [ndM] at ih
      refine wp_icge rfl (fun hz_ => absurd hz_ (nlt24 hq)) (fun _ => ?_)
      refine wp_run rfl ?_
      have hg := x5_get (ro := ro) (d := d) (c := c) (M := M) (tl := tl) (w := 0) hq (by decide)
      rw [show 34 + 5 * q + 0 = 34 + 5 * q from rfl] at hg
      by_cases h1 : aIn A q
      · have h2 := (aPr_iff A q).mpr h1
        rw [mr_in hR hq h1] at hg
        obtain ⟨i, hi, rfl⟩ := h1
        refine wp_v2 rfl rfl (Nat.le_of_ble_eq_true rfl) (hg) ?_
        refine wp_run rfl ?_
        refine wp_icne rfl (fun hz_ => absurd hz_ (fun z => z rfl)) (fun _ => ?_)
        refine wp_run rfl ?_
        refine wp_v2 rfl rfl (Nat.le_of_ble_eq_true rfl) (x5_gD hO hR hi) ?_
        refine wp_run rfl ?_
        refine wp_s2 rfl (Nat.le_of_ble_eq_true rfl) (x5_has hk) ?_
        refine wp_run rfl ?_
        by_cases e2 : bt (aD A (aR A i)) k = true
        · rw [if_pos ⟨h2, e2⟩] at ih
          rw [if_pos e2]
          refine wp_ifeq rfl (fun hz_ => absurd hz_ ((by decide : ¬ (1 : Int32) = 0))) (fun _ => ?_)
          refine wp_run rfl ?_
          rw [nI_1]
          exact ih
        · rw [if_neg (fun z => e2 z.2)] at ih
          rw [if_neg e2]
          refine wp_ifeq rfl (fun _ => ?_) (fun hz_ => absurd (rfl) hz_)
          refine wp_run rfl ?_
          rw [nI_1, Int32.or_zero]
          exact ih
      · rw [mr_out hR hq h1] at hg
        rw [if_neg (fun z => h1 ((aPr_iff A q).mp z.1))] at ih
        refine wp_v2 rfl rfl (Nat.le_of_ble_eq_true rfl) (hg) ?_
        refine wp_run rfl ?_
        refine wp_icne rfl (fun _ => ?_) (fun hz_ => absurd ((by decide : ¬ (0 : Int32) = 1)) hz_)
        refine wp_run rfl ?_
        rw [nI_1, Int32.or_zero]
        exact ih
  refine ev_in rfl rfl (Nat.le_of_ble_eq_true rfl) rfl ?_
  refine wp_run rfl ?_
  exact loop _ 0 (Nat.zero_add _)
theorem x5_needs_b (hO : aOw A) (hR : MR (mS M) A) {x r : Int32} (hS : spNeeds A x r) : axEv ro (d + 3) kX5_needs [.ref 15, .int x] (hM c M tl) (some (.int r)) (hM c M tl) := by
  have hn := hO.n
  rcases hS with ⟨hx, rfl⟩ | ⟨i, ⟨hi, rfl⟩, rfl⟩
  · refine ev_in rfl rfl (Nat.le_of_ble_eq_true rfl) rfl ?_
    refine wp_run rfl ?_
    refine wp_v1 rfl rfl (Nat.le_of_ble_eq_true rfl) (x5_isSlug_no hR hx) ?_
    refine wp_run rfl ?_
    refine wp_ifne rfl (fun hz_ => absurd hz_ (fun z => z rfl)) (fun _ => ?_)
    refine wp_run rfl ?_
    exact wp_ret rfl rfl ⟨rfl, rfl⟩
  · generalize hy : aClo A (aN A) (aD A (aR A i)) = y
    have loop : ∀ m, m ≤ aN A → ∀ x, aClo A m x = y → axW ro (axEv ro (d + 2)) cdX5_needs 27 [some (.ref 15), some (.int (nI (aR A i))), some (.int x), some (.int (nI m - 1))] [.int (nI m - 1)] (hM c M tl) (fun r' h' => r' = some (.int (y)) ∧ h' = (hM c M tl)) := by
      intro m
      induction m with
      | zero =>
        intro _ x hx
        refine wp_iflt rfl (fun _ => ?_) (fun hz_ => absurd ((by decide : nI 0 - 1 < 0)) hz_)
        refine wp_run rfl ?_
        exact wp_ret rfl rfl ⟨by rw [← hx]; rfl, rfl⟩
      | succ m ih =>
        intro hm x hx
        have hq : m < aN A := by omega
        have hr := hO.r hq
        rw [show nI (m + 1) - 1 = nI m from nI_pred m]
        refine wp_iflt rfl (fun hz_ => absurd hz_ (nI_pos (by omega))) (fun _ => ?_)
        refine wp_run rfl ?_
        rw [show (10 : Int32) + nI (m) = nI (10 + (m)) from nI_add 10 (m)]
        refine wp_ald rfl rfl (vp_in_nI ((show 10 + m < 154 by omega)) (by decide)) (by rw [nI_clamp (by omega)]) ?_
        refine wp_run rfl ?_
        rw [mr_rw hR hq]
        refine wp_s2 rfl (Nat.le_of_ble_eq_true rfl) (x5_has (by omega)) ?_
        refine wp_run rfl ?_
        have e1 : aClo A (m + 1) x = aClo A m (if bt x (aR A m) = true then x ||| aD A (aR A m) else x) := rfl
        rw [e1] at hx
        by_cases hb : bt x (aR A m) = true
        · rw [if_pos hb]
          rw [if_pos hb] at hx
          refine wp_ifeq rfl (fun hz_ => absurd hz_ ((by decide : ¬ (1 : Int32) = 0))) (fun _ => ?_)
          refine wp_run rfl ?_
          rw [show (10 : Int32) + nI (m) = nI (10 + (m)) from nI_add 10 (m)]
          refine wp_ald rfl rfl (vp_in_nI ((show 10 + m < 154 by omega)) (by decide)) (by rw [nI_clamp (by omega)]) ?_
          refine wp_run rfl ?_
          rw [mr_rw hR hq]
          refine wp_v2 rfl rfl (Nat.le_of_ble_eq_true rfl) (x5_gD (d := d + 1) hO hR hq) ?_
          refine wp_run rfl ?_
          rw [show nI m + (-1) = nI m - 1 by rw [Int32.sub_eq_add_neg]]
          exact ih (by omega) _ hx
        · rw [if_neg hb]
          rw [if_neg hb] at hx
          refine wp_ifeq rfl (fun _ => ?_) (fun hz_ => absurd (rfl) hz_)
          refine wp_run rfl ?_
          rw [show nI m + (-1) = nI m - 1 by rw [Int32.sub_eq_add_neg], Int32.or_zero]
          exact ih (by omega) _ hx
    refine ev_in rfl rfl (Nat.le_of_ble_eq_true rfl) rfl ?_
    refine wp_run rfl ?_
    refine wp_v1 rfl rfl (Nat.le_of_ble_eq_true rfl) (x5_isSlug_yes hO hR hi) ?_
    refine wp_run rfl ?_
    refine wp_ifne rfl (fun _ => ?_) (fun hz_ => absurd ((by decide : ¬ (1 : Int32) = 0)) hz_)
    refine wp_run rfl ?_
    refine wp_v2 rfl rfl (Nat.le_of_ble_eq_true rfl) (x5_gD (d := d + 1) hO hR hi) ?_
    refine wp_run rfl ?_
    refine wp_ald rfl rfl (vp_in_nI (n := 0) (by decide) (by decide)) (mr_sz hR) ?_
    refine wp_run rfl ?_
    exact loop (aN A) (Nat.le_refl _) _ hy
theorem x5_isOrdered (hO : aOw A) (hR : MR (mS M) A) : axEv ro (d + 2) kX5_isOrdered [.ref 15] (hM c M tl) (some (.int (if orB A (aN A) = true then 1 else 0))) (hM c M tl) := by
  have hn := hO.n
  have loop : ∀ m q, q + m = aN A → axW ro (axEv ro (d + 1)) cdX5_isOrdered 12 [some (.ref 15), some (.int (aSet A q)), some (.int (if orB A q = true then 1 else 0)), some (.int (nI q))] [.int 0, .ref 16, .int (nI q)] (hM c M tl) (fun r' h' => r' = some (.int (if orB A (aN A) = true then 1 else 0)) ∧ h' = (hM c M tl)) := by
    intro m
    induction m with
    | zero =>
      intro q e
      have e : q = aN A := by omega
      subst e
      refine wp_ald rfl rfl (vp_in_nI (n := 0) (by decide) (by decide)) (mr_sz hR) ?_
      refine wp_run rfl ?_
      refine wp_icge rfl (fun _ => ?_) (fun hz_ => absurd (nI_le (Nat.le_refl _) (by omega)) hz_)
      refine wp_run rfl ?_
      refine wp_ret rfl ?_ ⟨rfl, rfl⟩
      split <;> rfl
    | succ m ih =>
      intro q e
      have hq : q < aN A := by omega
      have ih := ih (q + 1) (by omega)
      rw [orB] at ih
      have k2 : ∀ v : Int32, v = (if (orB A q && decide (aD A (aR A q) &&& (aSet A q ^^^ (-1)) = 0)) = true then 1 else 0) → axW ro (axEv ro (d + 1)) cdX5_isOrdered 57 [some (.ref 15), some (.int (aSet A q)), some (.int v), some (.int (nI q))] [.int ((10 : Int32) + nI q), .ref 16, .int 1, .int (aSet A q)] (hM c M tl) (fun r' h' => r' = some (.int (if orB A (aN A) = true then 1 else 0)) ∧ h' = (hM c M tl)) := by
        intro v hv
        subst hv
        rw [show (10 : Int32) + nI (q) = nI (10 + (q)) from nI_add 10 (q)]
        refine wp_ald rfl rfl (vp_in_nI ((show 10 + q < 154 by omega)) (by decide)) (by rw [nI_clamp (by omega)]) ?_
        refine wp_run rfl ?_
        rw [mr_rw hR hq, nI_1]
        exact ih
      refine wp_ald rfl rfl (vp_in_nI (n := 0) (by decide) (by decide)) (mr_sz hR) ?_
      refine wp_run rfl ?_
      refine wp_icge rfl (fun hz_ => absurd hz_ (nI_ge hq (by omega))) (fun _ => ?_)
      refine wp_run rfl ?_
      cases ho : orB A q with
      | false =>
        rw [ho] at k2
        refine wp_ifeq rfl (fun _ => ?_) (fun hz_ => absurd (rfl) hz_)
        refine wp_run rfl ?_
        exact k2 0 rfl
      | true =>
        rw [ho] at k2
        refine wp_ifeq rfl (fun hz_ => absurd hz_ ((by decide : ¬ (1 : Int32) = 0))) (fun _ => ?_)
        refine wp_run rfl ?_
        rw [show (10 : Int32) + nI (q) = nI (10 + (q)) from nI_add 10 (q)]
        refine wp_ald rfl rfl (vp_in_nI ((show 10 + q < 154 by omega)) (by decide)) (by rw [nI_clamp (by omega)]) ?_
        refine wp_run rfl ?_
        rw [mr_rw hR hq]
        refine wp_v2 rfl rfl (Nat.le_of_ble_eq_true rfl) (x5_gD hO hR hq) ?_
        refine wp_run rfl ?_
        by_cases e2 : aD A (aR A q) &&& (aSet A q ^^^ (-1)) = 0
        · refine wp_ifne rfl (fun hz_ => absurd hz_ (fun z => z e2)) (fun _ => ?_)
          refine wp_run rfl ?_
          exact k2 1 (by rw [decide_eq_true e2]; rfl)
        · refine wp_ifne rfl (fun _ => ?_) (fun hz_ => absurd (e2) hz_)
          refine wp_run rfl ?_
          exact k2 0 (by rw [decide_eq_false e2]; rfl)
  refine ev_in rfl rfl (Nat.le_of_ble_eq_true rfl) rfl ?_
  refine wp_run rfl ?_
  exact loop _ 0 (Nat.zero_add _)
theorem x5_freeNumber (hR : MR (mS M) A) {z : Nat} (hlt : z < 24) (hfr : ¬ aIn A z) (hbel : ∀ j, j < z → aIn A j) : axEv ro (d + 2) kX5_freeNumber [.ref 15] (hM c M tl) (some (.int (nI z))) (hM c M tl) := by
  have loop : ∀ m q, q + m = z → axW ro (axEv ro (d + 1)) cdX5_freeNumber 5 [some (.ref 15), some (.int (nI q))] [.int 0, .int (nI q), .ref 15] (hM c M tl) (fun r' h' => r' = some (.int (nI (z))) ∧ h' = (hM c M tl)) := by
    intro m
    induction m with
    | zero =>
      intro q e
      have e : q = z := by omega
      have hg := x5_get (ro := ro) (d := d) (c := c) (M := M) (tl := tl) (w := 0) hlt (by decide)
      rw [show 34 + 5 * z + 0 = 34 + 5 * z from rfl, mr_out hR hlt hfr] at hg
      rw [e]
      refine wp_v2 rfl rfl (Nat.le_of_ble_eq_true rfl) (hg) ?_
      refine wp_run rfl ?_
      refine wp_icne rfl (fun _ => ?_) (fun hz_ => absurd ((by decide : ¬ (0 : Int32) = 1)) hz_)
      refine wp_run rfl ?_
      exact wp_ret rfl rfl ⟨rfl, rfl⟩
    | succ m ih =>
      intro q e
      have hg := x5_get (ro := ro) (d := d) (c := c) (M := M) (tl := tl) (k := q) (w := 0) (by omega) (by decide)
      rw [show 34 + 5 * q + 0 = 34 + 5 * q from rfl, mr_in hR (by omega) (hbel q (by omega))] at hg
      refine wp_v2 rfl rfl (Nat.le_of_ble_eq_true rfl) (hg) ?_
      refine wp_run rfl ?_
      refine wp_icne rfl (fun hz_ => absurd hz_ (fun z => z rfl)) (fun _ => ?_)
      refine wp_run rfl ?_
      rw [nI_1]
      exact ih (q + 1) (by omega)
  refine ev_in rfl rfl (Nat.le_of_ble_eq_true rfl) rfl ?_
  refine wp_run rfl ?_
  exact loop _ 0 (Nat.zero_add _)
end AX52
