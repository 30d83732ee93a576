/-! PURE: what the law asks of a board (2): changes there and back, beats and acts after a change. -/
theorem aDel_ins (r : Nat → Nat) (q k : Nat) : aDel (aIns r q k) q = r := by
  funext i
  show (if i < q then aIns r q k i else aIns r q k (i + 1)) = r i
  unfold aIns
  by_cases h : i < q
  · rw [if_pos h, if_pos h]
  · rw [if_neg h, if_neg (by omega), if_neg (by omega)]; rfl
theorem aIns_del (r : Nat → Nat) (p : Nat) : aIns (aDel r p) p (r p) = r := by
  funext i
  by_cases h : i < p
  · unfold aIns aDel; rw [if_pos h, if_pos h]
  · by_cases h2 : i = p
    · rw [h2, aIns_at]
    · unfold aIns aDel; rw [if_neg h, if_neg h2, if_neg (by omega), show i - 1 + 1 = i by omega]
section AX51
variable {A : axAD}
theorem pu_mv_row (A : axAD) (p q : Nat) : aIns (aDel (aR (aMove A p q)) q) p (aR (aMove A p q) q) = aR A := by
  show aIns (aDel (aIns (aDel (aR A) p) q (aR A p)) q) p (aIns (aDel (aR A) p) q (aR A p) q) = aR A
  rw [aDel_ins, aIns_at, aIns_del]
theorem pu_mv_back (A : axAD) (p q : Nat) : aMove (aMove A p q) q p = A := by
  show aRow A (aIns (aDel (aR (aMove A p q)) q) p (aR (aMove A p q) q)) = A
  rw [pu_mv_row]; rfl
theorem pu_mv_at (A : axAD) (p q : Nat) : aR (aMove A p q) q = aR A p := aIns_at _ _ _
theorem pu_mv_may (hO : aOk A) {p q : Nat} (hp : p < aN A) (hq : q < aN A) (h : aLo A p ≤ q ∧ q < aHi A p) : aLo (aMove A p q) q ≤ p ∧ p < aHi (aMove A p q) q := by
  refine (aMove_ord (aOk_move hO hp hq h) hq hp).mp ?_
  rw [pu_mv_row]
  exact hO.2.2.2.2.1
theorem pu_sw_row (A : axAD) {p q : Nat} (h : p ≠ q) : (fun i => if i = q then aR (aSwp A p q) p else if i = p then aR (aSwp A p q) q else aR (aSwp A p q) i) = aR A := by
  funext i
  show (if i = q then (if p = p then aR A q else if p = q then aR A p else aR A p) else if i = p then (if q = p then aR A q else if q = q then aR A p else aR A q) else (if i = p then aR A q else if i = q then aR A p else aR A i)) = aR A i
  by_cases h1 : i = q
  · rw [if_pos h1, if_pos rfl, h1]
  · rw [if_neg h1]
    by_cases h2 : i = p
    · rw [if_pos h2, if_neg (Ne.symm h), if_pos rfl, h2]
    · rw [if_neg h2, if_neg h2, if_neg h1]
theorem pu_sw_back (A : axAD) {p q : Nat} (h : p ≠ q) : aSwp (aSwp A p q) q p = A := by
  show aRow A (fun i => if i = q then aR (aSwp A p q) p else if i = p then aR (aSwp A p q) q else aR (aSwp A p q) i) = A
  rw [pu_sw_row A h]; rfl
theorem pu_sw_p (A : axAD) (p q : Nat) : aR (aSwp A p q) p = aR A q := if_pos rfl
theorem pu_sw_q (A : axAD) {p q : Nat} (h : p ≠ q) : aR (aSwp A p q) q = aR A p := by
  show (if q = p then aR A q else if q = q then aR A p else aR A q) = aR A p
  rw [if_neg (Ne.symm h), if_pos rfl]
theorem pu_sw_may (hO : aOk A) {p q : Nat} (hp : p < aN A) (hq : q < aN A) (hpq : p ≠ q) (h : aMay A p q) : aMay (aSwp A p q) q p := by
  refine (aSwp_ord (aOk_swp hO hp hq hpq h) hq hp (Ne.symm hpq)).mp ?_
  rw [pu_sw_row A hpq]
  exact hO.2.2.2.2.1
theorem va_up_back {α : Type} (f : Nat → α) (k : Nat) (v : α) : va_up (va_up f k v) k (f k) = f := by
  funext j
  by_cases h : j = k
  · rw [h, va_is]
  · rw [va_no h, va_no h]
theorem pu_bts_back (A : axAD) (k v : Nat) : aBts (aBts A k v) k (aB A k) = A := by
  show (aN A, aR A, aW A, va_up (va_up (aB A) k v) k (aB A k), aD A, aT A, aPg A, aSl A, aTr A, aTg A) = A
  rw [va_up_back]
/-! beats after a change -/
theorem aBeg_bts (hO : aOk A) {i v : Nat} (hi : i < aN A) : ∀ q, q ≤ aN A → aBeg (aBts A (aR A i) v) q + (if i < q then aB A (aR A i) else 0) = aBeg A q + (if i < q then v else 0)
  | 0, _ => rfl
  | q + 1, hq => by
    have ih := aBeg_bts hO (v := v) hi q (by omega)
    have e1 : aBeg (aBts A (aR A i) v) (q + 1) = aBeg (aBts A (aR A i) v) q + va_up (aB A) (aR A i) v (aR A q) := rfl
    rw [e1, aBeg_s]
    by_cases e : q = i
    · subst e
      rw [if_neg (by omega), if_neg (by omega)] at ih
      rw [if_pos (by omega), if_pos (by omega), va_is]; omega
    · rw [va_no (fun z => e (hO.inj (show q < aN A by omega) hi z))]
      by_cases e2 : i < q
      · rw [if_pos e2, if_pos e2] at ih
        rw [if_pos (by omega), if_pos (by omega)]; omega
      · rw [if_neg e2, if_neg e2] at ih
        rw [if_neg (by omega), if_neg (by omega)]; omega
theorem pu_bts_n (hO : aOk A) {i v : Nat} (hi : i < aN A) : aBeg (aBts A (aR A i) v) (aN A) + aB A (aR A i) = aBeg A (aN A) + v := by
  have := aBeg_bts hO (v := v) hi (aN A) (Nat.le_refl _)
  rw [if_pos hi, if_pos hi] at this
  exact this
theorem aBeg_drop1 (A : axAD) (p : Nat) : ∀ q, q ≤ p → aBeg (aDrop A p) q = aBeg A q
  | 0, _ => rfl
  | q + 1, hq => by
    have ih := aBeg_drop1 A p q (by omega)
    have e1 : aBeg (aDrop A p) (q + 1) = aBeg (aDrop A p) q + aB A (if q < p then aR A q else aR A (q + 1)) := rfl
    rw [e1, aBeg_s, if_pos (by omega), ih]
theorem aBeg_drop2 (A : axAD) (p : Nat) : ∀ q, p ≤ q → aBeg (aDrop A p) q + aB A (aR A p) = aBeg A (q + 1)
  | 0, hq => by
    have : p = 0 := by omega
    subst this
    rw [aBeg_s, aBeg_drop1 A 0 0 (Nat.le_refl _)]
  | q + 1, hq => by
    by_cases e : p = q + 1
    · subst e
      rw [aBeg_s (A := A) (q + 1), aBeg_drop1 A _ _ (Nat.le_refl _)]
    · have ih := aBeg_drop2 A p q (by omega)
      have e1 : aBeg (aDrop A p) (q + 1) = aBeg (aDrop A p) q + aB A (if q < p then aR A q else aR A (q + 1)) := rfl
      rw [e1, if_neg (by omega), aBeg_s (q + 1)]; omega
theorem pu_drop_n {p : Nat} (hp : p < aN A) : aBeg (aDrop A p) (aN A - 1) + aB A (aR A p) = aBeg A (aN A) := by
  have := aBeg_drop2 A p (aN A - 1) (by omega)
  rw [show aN A - 1 + 1 = aN A by omega] at this
  exact this
theorem pu_drop_no (hO : aOk A) {p : Nat} (hp : p < aN A) : spNo (aDrop A p) (nI (aR A p)) := by
  intro i hi e
  have hi : i < aN A - 1 := hi
  have e : nI (aR A p) = nI (aDel (aR A) p i) := e
  obtain ⟨j, hj, hjp, e2⟩ := aDel_is (aR A) hi hp
  rw [e2] at e
  exact absurd e.symm (aR_ne hO hj hp hjp)
/-- only the beats are others -/
def aBf (A : axAD) (f : Nat → Nat) : axAD := (aN A, aR A, aW A, f, aD A, aT A, aPg A, aSl A, aTr A, aTg A)
theorem aS_diff2 {f : Nat → Nat} {a m : Nat} : aS f (a + (m + 1)) - aS f a = aS f (a + m) - aS f a + f (a + m) := by
  have h1 : aS f (a + (m + 1)) = aS f (a + m) + f (a + m) := rfl
  have h2 := aS_mono (f := f) (show a ≤ a + m by omega)
  omega
theorem aFt_is (lo : Nat) : ∀ (m left : Nat) (A : axAD), aOk A → lo + m ≤ aN A → left ≤ aRm A (lo + m) - aRm A lo → ∃ f, aFt lo m left A = aBf A f ∧ (∀ q, q ≤ lo → aBeg (aBf A f) q = aBeg A q) ∧ (∀ q, lo + m ≤ q → q ≤ aN A → aBeg (aBf A f) q + left = aBeg A q)
  | 0, left, A, hO, hn, hl => by
    refine ⟨aB A, rfl, fun _ _ => rfl, fun q _ _ => ?_⟩
    have : left = 0 := by rw [Nat.add_zero, Nat.sub_self] at hl; omega
    rw [this]; rfl
  | m + 1, left, A, hO, hn, hl => by
    rw [aFt]
    by_cases h0 : left = 0
    · rw [if_pos h0, h0]
      exact ⟨aB A, rfl, fun _ _ => rfl, fun q _ _ => rfl⟩
    · rw [if_neg h0]
      have hi : lo + m < aN A := by omega
      have hb := hO.b hi
      have hc := aCan_lt hO hi
      have hl : left ≤ aRm A (lo + m) - aRm A lo + aCan A (aR A (lo + m)) := by
        have : aRm A (lo + (m + 1)) - aRm A lo = aRm A (lo + m) - aRm A lo + aCan A (aR A (lo + m)) := aS_diff2
        omega
      generalize hcc : min left (aCan A (aR A (lo + m))) = c
      have hc1 : c ≤ left := by omega
      have hc2 : c ≤ aCan A (aR A (lo + m)) := by omega
      have hO2 : aOk (aBts A (aR A (lo + m)) (aB A (aR A (lo + m)) - c)) := aOk_bts hO hi (by omega) (by omega)
      have hrm : ∀ q, q ≤ lo + m → aRm (aBts A (aR A (lo + m)) (aB A (aR A (lo + m)) - c)) q = aRm A q := fun q hq => aS_cong q fun j hj => by
        show va_up (aB A) (aR A (lo + m)) (aB A (aR A (lo + m)) - c) (aR A j) - _ = aB A (aR A j) - _
        rw [va_no (fun z => by have := hO.inj (show j < aN A by omega) hi z; omega)]
        rfl
      obtain ⟨f, e, h1, h2⟩ := aFt_is lo m (left - c) _ hO2 (show lo + m ≤ aN A by omega) (by rw [hrm _ (Nat.le_refl _), hrm _ (by omega)]; omega)
      have hbt := fun q hq => aBeg_bts hO (i := lo + m) (v := aB A (aR A (lo + m)) - c) hi q hq
      refine ⟨f, e, fun q hq => (h1 q hq).trans ?_, fun q hq hqn => ?_⟩
      · have := hbt q (by omega)
        rw [if_neg (by omega), if_neg (by omega)] at this
        omega
      · have h3 := h2 q (by omega) hqn
        have := hbt q hqn
        rw [if_pos (by omega), if_pos (by omega)] at this
        have h4 : aBeg (aBf (aBts A (aR A (lo + m)) (aB A (aR A (lo + m)) - c)) f) q = aBeg (aBf A f) q := rfl
        omega
theorem pu_fit (hO : aOk A) {a : Nat} (ha : a < aActs A) : ∃ f, aFit A a = aBf A f ∧ aBeg (aBf A f) (aSt A a) = aBeg A (aSt A a) ∧ aBeg (aBf A f) (aSt A (a + 1)) + aCut A a = aBeg A (aSt A (a + 1)) ∧ aBeg (aBf A f) (aN A) + aCut A a = aBeg A (aN A) := by
  have hm := aSt_mono A (show a ≤ a + 1 by omega)
  have hl := aSt_le A (a + 1)
  obtain ⟨f, e, h1, h2⟩ := aFt_is (aSt A a) (aSt A (a + 1) - aSt A a) (aCut A a) A hO (by omega) (by rw [show aSt A a + (aSt A (a + 1) - aSt A a) = aSt A (a + 1) by omega]; exact Nat.min_le_right _ _)
  rw [show aSt A a + (aSt A (a + 1) - aSt A a) = aSt A (a + 1) by omega] at h2
  exact ⟨f, e, h1 _ (Nat.le_refl _), h2 _ (Nat.le_refl _) hl, h2 _ hl (Nat.le_refl _)⟩
/-! after a split -/
theorem spT (A : axAD) {p v k z : Nat} (hzk : z ≠ k) (j : Nat) : aT (aSplit A p v k z) j = if j = z then aT A k else if j = k then false else aT A j := by
  unfold aSplit
  by_cases ht : aT A k = true
  · rw [if_pos ht, ht]
    show (if j = z then !(if j = k then !(va_up (aT A) z false j) else va_up (aT A) z false j) else (if j = k then !(va_up (aT A) z false j) else va_up (aT A) z false j)) = _
    by_cases h1 : j = z
    · rw [if_pos h1, if_pos h1, if_neg (by omega), h1, va_is]; rfl
    · rw [if_neg h1, if_neg h1, va_no h1]
      by_cases h2 : j = k
      · rw [if_pos h2, if_pos h2, h2, ht]; rfl
      · rw [if_neg h2, if_neg h2]
  · rw [if_neg ht]
    show va_up (aT A) z false j = _
    have ht : aT A k = false := Bool.eq_false_iff.mpr ht
    by_cases h1 : j = z
    · rw [if_pos h1, h1, va_is, ht]
    · rw [if_neg h1, va_no h1]
      by_cases h2 : j = k
      · rw [if_pos h2, h2, ht]
      · rw [if_neg h2]
theorem spR_ (A : axAD) (p v k z : Nat) : aR (aSplit A p v k z) = aIns (aR A) (p + 1) z ∧ aN (aSplit A p v k z) = aN A + 1 ∧ aD (aSplit A p v k z) = aSplN A k z ∧ aPg (aSplit A p v k z) = aPg A := by
  unfold aSplit; split <;> exact ⟨rfl, rfl, rfl, rfl⟩
theorem spB (A : axAD) {p v k z : Nat} (hzk : z ≠ k) (j : Nat) : aB (aSplit A p v k z) j = (if j = k then v else if j = z then aB A k - v else aB A j) ∧ aW (aSplit A p v k z) j = (if j = k then v else if j = z then aW A k - v else aW A j) := by
  have e : aB (aSplit A p v k z) j = va_up (va_up (va_up (aB A) z (aW A k - v)) z (aB A k - v)) k v j ∧ aW (aSplit A p v k z) j = va_up (va_up (aW A) z (aW A k - v)) k v j := by
    unfold aSplit; split <;> exact ⟨rfl, rfl⟩
  rw [e.1, e.2]
  by_cases h1 : j = k
  · rw [if_pos h1, if_pos h1, h1, va_is, va_is]; exact ⟨rfl, rfl⟩
  · rw [if_neg h1, if_neg h1, va_no h1, va_no h1]
    by_cases h2 : j = z
    · rw [if_pos h2, if_pos h2, h2, va_is, va_is]; exact ⟨rfl, rfl⟩
    · rw [if_neg h2, if_neg h2, va_no h2, va_no h2, va_no h2]; exact ⟨rfl, rfl⟩
/-- a sum over the row after a split -/
theorem aS_ins {f g : Nat → Nat} {n p : Nat} (hp : p < n) (h1 : ∀ i, i < p → g i = f i) (h2 : g p + g (p + 1) = f p) (h3 : ∀ i, p < i → i < n → g (i + 1) = f i) : ∀ q, p < q → q ≤ n → aS g (q + 1) = aS f q
  | 0, h, _ => absurd h (Nat.not_lt_zero _)
  | q + 1, hq, hn => by
    by_cases e : q = p
    · subst e
      have e1 : aS g q = aS f q := aS_cong q fun i hi => h1 i hi
      show aS g q + g q + g (q + 1) = aS f q + f q
      omega
    · have ih := aS_ins hp h1 h2 h3 q (by omega) (by omega)
      have := h3 q (by omega) (by omega)
      show aS g (q + 1) + g (q + 1) = aS f q + f q
      omega
theorem pu_split (hO : aOk A) {p v z : Nat} (hp : p < aN A) (hf : ¬ aIn A z) (h2 : v < aB A (aR A p)) : aBeg (aSplit A p v (aR A p) z) (aN A + 1) = aBeg A (aN A) ∧ aActs (aSplit A p v (aR A p) z) = aActs A := by
  have hne : ∀ a, a < aN A → aR A a ≠ z := fun a ha e => hf ⟨a, ha, e⟩
  have hzk : z ≠ aR A p := fun e => hne p hp e.symm
  obtain ⟨r1, r2, -, -⟩ := spR_ A p v (aR A p) z
  have row1 : ∀ i, i ≤ p → aR (aSplit A p v (aR A p) z) i = aR A i := fun i hi => by
    rw [r1]; unfold aIns; rw [if_pos (by omega)]
  have row2 : aR (aSplit A p v (aR A p) z) (p + 1) = z := by rw [r1, aIns_at]
  have row3 : ∀ i, p < i → aR (aSplit A p v (aR A p) z) (i + 1) = aR A i := fun i hi => by
    rw [r1]; unfold aIns; rw [if_neg (by omega), if_neg (by omega)]; rfl
  have ne : ∀ i, i < aN A → i ≠ p → aR A i ≠ aR A p := fun i hi h z => h (hO.inj hi hp z)
  have sb : ∀ q, p < q → q ≤ aN A → aBeg (aSplit A p v (aR A p) z) (q + 1) = aBeg A q := aS_ins hp
    (fun i hi => by show aB (aSplit A p v (aR A p) z) (aR (aSplit A p v (aR A p) z) i) = aB A (aR A i); rw [row1 i (by omega), (spB A hzk _).1, if_neg (ne i (by omega) (by omega)), if_neg (hne i (by omega))])
    (by show aB (aSplit A p v (aR A p) z) (aR (aSplit A p v (aR A p) z) p) + aB (aSplit A p v (aR A p) z) (aR (aSplit A p v (aR A p) z) (p + 1)) = aB A (aR A p); rw [row1 p (Nat.le_refl _), row2, (spB A hzk _).1, (spB A hzk _).1, if_pos rfl, if_neg hzk, if_pos rfl]; omega)
    (fun i h1 h2 => by show aB (aSplit A p v (aR A p) z) (aR (aSplit A p v (aR A p) z) (i + 1)) = aB A (aR A i); rw [row3 i h1, (spB A hzk _).1, if_neg (ne i h2 (by omega)), if_neg (hne i h2)])
  have ta : ∀ i, i ≤ p → aAct (aSplit A p v (aR A p) z) i = aAct A i := fun i hi => aS_cong i fun j hj => by
    show (if aT (aSplit A p v (aR A p) z) (aR (aSplit A p v (aR A p) z) j) = true then 1 else 0) = _
    rw [row1 j (by omega), spT A hzk, if_neg (hne j (by omega)), if_neg (ne j (by omega) (by omega))]
  have tp : aAct (aSplit A p v (aR A p) z) (p + 1) = aAct A p := by
    rw [aAct_s, ta p (Nat.le_refl _), row1 p (Nat.le_refl _), spT A hzk, if_neg (Ne.symm hzk), if_pos rfl]; rfl
  have st : ∀ q, p < q → q ≤ aN A → aAct (aSplit A p v (aR A p) z) (q + 1) = aAct A q := aS_ins hp
    (fun i hi => by show (if aT (aSplit A p v (aR A p) z) (aR (aSplit A p v (aR A p) z) i) = true then 1 else 0) = _; rw [row1 i (by omega), spT A hzk, if_neg (hne i (by omega)), if_neg (ne i (by omega) (by omega))])
    (by show (if aT (aSplit A p v (aR A p) z) (aR (aSplit A p v (aR A p) z) p) = true then 1 else 0) + (if aT (aSplit A p v (aR A p) z) (aR (aSplit A p v (aR A p) z) (p + 1)) = true then 1 else 0) = _
        rw [row1 p (Nat.le_refl _), row2, spT A hzk, spT A hzk, if_neg (Ne.symm hzk), if_pos rfl, if_pos rfl, if_neg (by decide : ¬ false = true), Nat.zero_add])
    (fun i h1 h2 => by show (if aT (aSplit A p v (aR A p) z) (aR (aSplit A p v (aR A p) z) (i + 1)) = true then 1 else 0) = _; rw [row3 i h1, spT A hzk, if_neg (hne i h2), if_neg (ne i h2 (by omega))])
  refine ⟨sb _ hp (Nat.le_refl _), ?_⟩
  unfold aActs
  rw [if_neg (by omega), if_neg (by omega), r2, Nat.add_sub_cancel]
  congr 1
  by_cases e : aN A = p + 1
  · rw [e, tp, Nat.add_sub_cancel]
  · have := st (aN A - 1) (by omega) (by omega)
    rw [show aN A - 1 + 1 = aN A by omega] at this
    exact this
end AX51
