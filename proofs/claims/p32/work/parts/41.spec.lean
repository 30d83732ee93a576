/-! What each change answers, and what board it leaves: for the class and for the reference. -/
def spSlug (A : axAD) (x : Int32) (i : Nat) : Prop := i < aN A ∧ x = nI (aR A i)
def spNo (A : axAD) (x : Int32) : Prop := ∀ i, i < aN A → x ≠ nI (aR A i)
theorem sp_slug (A : axAD) (x : Int32) : spNo A x ∨ ∃ i, spSlug A x i := by
  by_cases h : ∃ i, spSlug A x i
  · exact Or.inr h
  · exact Or.inl fun i hi e => h ⟨i, hi, e⟩
theorem sp_int (x : Int32) (n : Nat) (hn : n < 2 ^ 31) : (x < 0 ∨ nI n ≤ x) ∨ ∃ j, j < n ∧ x = nI j := by
  by_cases h : x < 0
  · exact Or.inl (Or.inl h)
  · obtain ⟨j, hj, e⟩ := nI_of h
    by_cases h2 : j < n
    · exact Or.inr ⟨j, h2, e⟩
    · exact Or.inl (Or.inr (by rw [e]; exact nI_le (by omega) hj))
theorem sp_rng (x : Int32) (a b : Nat) (ha : a < 2 ^ 31) (hb : b < 2 ^ 31) : (x < nI a ∨ ¬ x ≤ nI b) ∨ ∃ j, a ≤ j ∧ j ≤ b ∧ x = nI j := by
  by_cases h : x < nI a
  · exact Or.inl (Or.inl h)
  by_cases h2 : x ≤ nI b
  · refine Or.inr ?_
    have h0 : ¬ x < 0 := fun z => h (Int32.lt_of_lt_of_le z (nI_pos' ha))
    obtain ⟨j, hj, e⟩ := nI_of h0
    subst e
    exact ⟨j, by have hh : ¬ j < a := fun z => h ((nI_ltI hj ha).mpr z); omega, (nI_leI hj hb).mp h2, rfl⟩
  · exact Or.inl (Or.inr h2)
def spSet (A : axAD) (x y r : Int32) (A' : axAD) : Prop :=
  (∃ j v, j < 3 ∧ x = nI j ∧ y = nI v ∧ aLs j ≤ v ∧ v ≤ aMs j ∧ r = nI (aSetV A j) ∧ A' = aSetS A j v) ∨
  ((∀ j v, j < 3 → x = nI j → y = nI v → aLs j ≤ v → ¬ v ≤ aMs j) ∧ r = -2 ∧ A' = A)
def spTarget (A : axAD) (x y r : Int32) (A' : axAD) : Prop :=
  (∃ a v, a < 6 ∧ x = nI a ∧ 1 ≤ v ∧ v ≤ 999 ∧ y = nI v ∧ r = nI (aTg A a) ∧ A' = aSetT A a v) ∨
  ((x < 0 ∨ nI 6 ≤ x) ∧ r = -1 ∧ A' = A) ∨ (∃ a, a < 6 ∧ x = nI a ∧ (y < nI 1 ∨ ¬ y ≤ nI 999) ∧ r = -2 ∧ A' = A)
def spAdd (A : axAD) (x y w r : Int32) (A' : axAD) : Prop :=
  ((x < 0 ∨ nI (aN A + 1) ≤ x) ∧ r = -1 ∧ A' = A) ∨
  (∃ p, p < aN A + 1 ∧ x = nI p ∧ ((y < nI 1 ∨ ¬ y ≤ nI 99) ∨ (w < nI 0 ∨ ¬ w ≤ nI 1)) ∧ r = -2 ∧ A' = A) ∨
  (∃ p v t, p < aN A + 1 ∧ x = nI p ∧ 1 ≤ v ∧ v ≤ 99 ∧ y = nI v ∧ t ≤ 1 ∧ w = nI t ∧
    ((aN A = 24 ∧ r = -4 ∧ A' = A) ∨ (aN A < 24 ∧ ∃ z, z = aFr A ∧ r = nI z ∧ A' = aAdd A p v z (decide (t = 1)))))
def spDrop (A : axAD) (x r : Int32) (A' : axAD) : Prop :=
  (spNo A x ∧ r = -1 ∧ A' = A) ∨ (∃ p, spSlug A x p ∧ r = nI (aN A - 1) ∧ A' = aDrop A p)
def spTurn (A : axAD) (x r : Int32) (A' : axAD) : Prop :=
  (spNo A x ∧ r = -1 ∧ A' = A) ∨ (∃ p, spSlug A x p ∧ r = (if aT A (aR A p) = true then 0 else 1) ∧ A' = aFlip A (aR A p))
def spNeed (A : axAD) (x y r : Int32) (A' : axAD) : Prop :=
  ((spNo A x ∨ spNo A y) ∧ r = -1 ∧ A' = A) ∨
  (∃ i j, spSlug A x i ∧ spSlug A y j ∧ ((i = j ∧ r = -2 ∧ A' = A) ∨ (i < j ∧ nd A i j = false ∧ r = -5 ∧ A' = A) ∨
    (i ≠ j ∧ (nd A i j = true ∨ j < i) ∧ r = nI (pcN (aD A (aR A i) ^^^ bi (aR A j))) ∧ A' = aSetD A (aR A i) (aD A (aR A i) ^^^ bi (aR A j)))))
def spTrim (A : axAD) (x y r : Int32) (A' : axAD) : Prop :=
  (spNo A x ∧ r = -1 ∧ A' = A) ∨
  (∃ i, spSlug A x i ∧ (((y < nI 1 ∨ ¬ y ≤ nI 98) ∧ r = -2 ∧ A' = A) ∨
    (∃ v, 1 ≤ v ∧ v ≤ 98 ∧ y = nI v ∧ ((aCan A (aR A i) < v ∧ r = -5 ∧ A' = A) ∨ (v ≤ aCan A (aR A i) ∧ r = nI (aB A (aR A i) - v) ∧ A' = aBts A (aR A i) (aB A (aR A i) - v))))))
def spGive (A : axAD) (x r : Int32) (A' : axAD) : Prop :=
  (spNo A x ∧ r = -1 ∧ A' = A) ∨ (∃ p, spSlug A x p ∧ r = nI (aW A (aR A p) - aB A (aR A p)) ∧ A' = aBts A (aR A p) (aW A (aR A p)))
def spMove (A : axAD) (x y r : Int32) (A' : axAD) : Prop :=
  ((spNo A x ∨ (y < 0 ∨ nI (aN A) ≤ y)) ∧ r = -1 ∧ A' = A) ∨
  (∃ p q, spSlug A x p ∧ q < aN A ∧ y = nI q ∧ ((¬ (aLo A p ≤ q ∧ q < aHi A p) ∧ r = -5 ∧ A' = A) ∨ ((aLo A p ≤ q ∧ q < aHi A p) ∧ r = nI p ∧ A' = aMove A p q)))
def spSwap (A : axAD) (x y r : Int32) (A' : axAD) : Prop :=
  ((spNo A x ∨ spNo A y) ∧ r = -1 ∧ A' = A) ∨
  (∃ p q, spSlug A x p ∧ spSlug A y q ∧ ((p = q ∧ r = -2 ∧ A' = A) ∨ (p ≠ q ∧ ¬ aMay A p q ∧ r = -5 ∧ A' = A) ∨
    (p ≠ q ∧ aMay A p q ∧ r = nI (((p : Int) - q).natAbs - 1) ∧ A' = aSwp A p q)))
def spSplit (A : axAD) (x y r : Int32) (A' : axAD) : Prop :=
  (spNo A x ∧ r = -1 ∧ A' = A) ∨
  (∃ i, spSlug A x i ∧ (((y < nI 1 ∨ ¬ y ≤ nI 98) ∧ r = -2 ∧ A' = A) ∨
    (∃ v, 1 ≤ v ∧ v ≤ 98 ∧ y = nI v ∧ ((aB A (aR A i) ≤ v ∧ r = -5 ∧ A' = A) ∨ (v < aB A (aR A i) ∧ aN A = 24 ∧ r = -4 ∧ A' = A) ∨
      (v < aB A (aR A i) ∧ aN A < 24 ∧ ∃ z, z = aFr A ∧ r = nI z ∧ A' = aSplit A i v (aR A i) z)))))
def spFit (A : axAD) (x r : Int32) (A' : axAD) : Prop :=
  ((x < 0 ∨ nI (aActs A) ≤ x) ∧ r = -1 ∧ A' = A) ∨
  (∃ a, a < aActs A ∧ x = nI a ∧ ((¬ (aOff A a).toNat - aCut A a ≤ aSl A ∧ r = -5 ∧ A' = A) ∨ ((aOff A a).toNat - aCut A a ≤ aSl A ∧ r = nI (aCut A a) ∧ A' = aFit A a)))
section AX41
variable {A : axAD}
theorem spSet_ex (A : axAD) (x y : Int32) : ∃ r A', spSet A x y r A' := by
  by_cases h : ∃ j v, j < 3 ∧ x = nI j ∧ y = nI v ∧ aLs j ≤ v ∧ v ≤ aMs j
  · obtain ⟨j, v, h1, h2, h3, h4, h5⟩ := h
    exact ⟨_, _, Or.inl ⟨j, v, h1, h2, h3, h4, h5, rfl, rfl⟩⟩
  · exact ⟨_, _, Or.inr ⟨fun j v h1 h2 h3 h4 h5 => h ⟨j, v, h1, h2, h3, h4, h5⟩, rfl, rfl⟩⟩
theorem spTarget_ex (A : axAD) (x y : Int32) : ∃ r A', spTarget A x y r A' := by
  rcases sp_int x 6 (by decide) with h | ⟨a, ha, e⟩
  · exact ⟨_, _, Or.inr (Or.inl ⟨h, rfl, rfl⟩)⟩
  · rcases sp_rng y 1 999 (by decide) (by decide) with h | ⟨v, h1, h2, e2⟩
    · exact ⟨_, _, Or.inr (Or.inr ⟨a, ha, e, h, rfl, rfl⟩)⟩
    · exact ⟨_, _, Or.inl ⟨a, v, ha, e, h1, h2, e2, rfl, rfl⟩⟩
theorem spAdd_ex (hO : aOk A) (x y w : Int32) : ∃ r A', spAdd A x y w r A' := by
  have hn := hO.n
  rcases sp_int x (aN A + 1) (by omega) with h | ⟨p, hp, e⟩
  · exact ⟨_, _, Or.inl ⟨h, rfl, rfl⟩⟩
  · rcases sp_rng y 1 99 (by decide) (by decide) with h | ⟨v, h1, h2, e2⟩
    · exact ⟨_, _, Or.inr (Or.inl ⟨p, hp, e, Or.inl h, rfl, rfl⟩)⟩
    · rcases sp_rng w 0 1 (by decide) (by decide) with h | ⟨t, h3, h4, e3⟩
      · exact ⟨_, _, Or.inr (Or.inl ⟨p, hp, e, Or.inr h, rfl, rfl⟩)⟩
      · by_cases hf : aN A < 24
        · generalize hz : aFr A = z
          exact ⟨nI z, aAdd A p v z (decide (t = 1)), Or.inr (Or.inr ⟨p, v, t, hp, e, h1, h2, e2, h4, e3, Or.inr ⟨hf, z, hz.symm, rfl, rfl⟩⟩)⟩
        · exact ⟨-4, A, Or.inr (Or.inr ⟨p, v, t, hp, e, h1, h2, e2, h4, e3, Or.inl ⟨by omega, rfl, rfl⟩⟩)⟩
theorem spDrop_ex (A : axAD) (x : Int32) : ∃ r A', spDrop A x r A' := by
  rcases sp_slug A x with h | ⟨p, hp⟩
  · exact ⟨_, _, Or.inl ⟨h, rfl, rfl⟩⟩
  · exact ⟨_, _, Or.inr ⟨p, hp, rfl, rfl⟩⟩
theorem spTurn_ex (A : axAD) (x : Int32) : ∃ r A', spTurn A x r A' := by
  rcases sp_slug A x with h | ⟨p, hp⟩
  · exact ⟨_, _, Or.inl ⟨h, rfl, rfl⟩⟩
  · exact ⟨_, _, Or.inr ⟨p, hp, rfl, rfl⟩⟩
theorem spNeed_ex (A : axAD) (x y : Int32) : ∃ r A', spNeed A x y r A' := by
  rcases sp_slug A x with h | ⟨i, hi⟩
  · exact ⟨_, _, Or.inl ⟨Or.inl h, rfl, rfl⟩⟩
  · rcases sp_slug A y with h | ⟨j, hj⟩
    · exact ⟨_, _, Or.inl ⟨Or.inr h, rfl, rfl⟩⟩
    · by_cases e : i = j
      · exact ⟨_, _, Or.inr ⟨i, j, hi, hj, Or.inl ⟨e, rfl, rfl⟩⟩⟩
      · cases hb : nd A i j with
        | true => exact ⟨_, _, Or.inr ⟨i, j, hi, hj, Or.inr (Or.inr ⟨e, Or.inl hb, rfl, rfl⟩)⟩⟩
        | false =>
          by_cases e2 : j < i
          · exact ⟨_, _, Or.inr ⟨i, j, hi, hj, Or.inr (Or.inr ⟨e, Or.inr e2, rfl, rfl⟩)⟩⟩
          · exact ⟨_, _, Or.inr ⟨i, j, hi, hj, Or.inr (Or.inl ⟨by omega, hb, rfl, rfl⟩)⟩⟩
theorem spTrim_ex (A : axAD) (x y : Int32) : ∃ r A', spTrim A x y r A' := by
  rcases sp_slug A x with h | ⟨i, hi⟩
  · exact ⟨_, _, Or.inl ⟨h, rfl, rfl⟩⟩
  · rcases sp_rng y 1 98 (by decide) (by decide) with h | ⟨v, h1, h2, e2⟩
    · exact ⟨_, _, Or.inr ⟨i, hi, Or.inl ⟨h, rfl, rfl⟩⟩⟩
    · by_cases e : v ≤ aCan A (aR A i)
      · exact ⟨_, _, Or.inr ⟨i, hi, Or.inr ⟨v, h1, h2, e2, Or.inr ⟨e, rfl, rfl⟩⟩⟩⟩
      · exact ⟨_, _, Or.inr ⟨i, hi, Or.inr ⟨v, h1, h2, e2, Or.inl ⟨by omega, rfl, rfl⟩⟩⟩⟩
theorem spGive_ex (A : axAD) (x : Int32) : ∃ r A', spGive A x r A' := by
  rcases sp_slug A x with h | ⟨p, hp⟩
  · exact ⟨_, _, Or.inl ⟨h, rfl, rfl⟩⟩
  · exact ⟨_, _, Or.inr ⟨p, hp, rfl, rfl⟩⟩
theorem spMove_ex (hO : aOk A) (x y : Int32) : ∃ r A', spMove A x y r A' := by
  have hn := hO.n
  rcases sp_slug A x with h | ⟨p, hp⟩
  · exact ⟨_, _, Or.inl ⟨Or.inl h, rfl, rfl⟩⟩
  · rcases sp_int y (aN A) (by omega) with h | ⟨q, hq, e⟩
    · exact ⟨_, _, Or.inl ⟨Or.inr h, rfl, rfl⟩⟩
    · by_cases hm : aLo A p ≤ q ∧ q < aHi A p
      · exact ⟨_, _, Or.inr ⟨p, q, hp, hq, e, Or.inr ⟨hm, rfl, rfl⟩⟩⟩
      · exact ⟨_, _, Or.inr ⟨p, q, hp, hq, e, Or.inl ⟨hm, rfl, rfl⟩⟩⟩
theorem spSwap_ex (A : axAD) (x y : Int32) : ∃ r A', spSwap A x y r A' := by
  rcases sp_slug A x with h | ⟨p, hp⟩
  · exact ⟨_, _, Or.inl ⟨Or.inl h, rfl, rfl⟩⟩
  · rcases sp_slug A y with h | ⟨q, hq⟩
    · exact ⟨_, _, Or.inl ⟨Or.inr h, rfl, rfl⟩⟩
    · by_cases e : p = q
      · exact ⟨_, _, Or.inr ⟨p, q, hp, hq, Or.inl ⟨e, rfl, rfl⟩⟩⟩
      · by_cases hm : aMay A p q
        · exact ⟨_, _, Or.inr ⟨p, q, hp, hq, Or.inr (Or.inr ⟨e, hm, rfl, rfl⟩)⟩⟩
        · exact ⟨_, _, Or.inr ⟨p, q, hp, hq, Or.inr (Or.inl ⟨e, hm, rfl, rfl⟩)⟩⟩
theorem spSplit_ex (hO : aOk A) (x y : Int32) : ∃ r A', spSplit A x y r A' := by
  have hn := hO.n
  rcases sp_slug A x with h | ⟨i, hi⟩
  · exact ⟨_, _, Or.inl ⟨h, rfl, rfl⟩⟩
  · rcases sp_rng y 1 98 (by decide) (by decide) with h | ⟨v, h1, h2, e2⟩
    · exact ⟨_, _, Or.inr ⟨i, hi, Or.inl ⟨h, rfl, rfl⟩⟩⟩
    · by_cases e : v < aB A (aR A i)
      · by_cases hf : aN A < 24
        · generalize hz : aFr A = z
          exact ⟨nI z, aSplit A i v (aR A i) z, Or.inr ⟨i, hi, Or.inr ⟨v, h1, h2, e2, Or.inr (Or.inr ⟨e, hf, z, hz.symm, rfl, rfl⟩)⟩⟩⟩
        · exact ⟨-4, A, Or.inr ⟨i, hi, Or.inr ⟨v, h1, h2, e2, Or.inr (Or.inl ⟨e, by omega, rfl, rfl⟩)⟩⟩⟩
      · exact ⟨_, _, Or.inr ⟨i, hi, Or.inr ⟨v, h1, h2, e2, Or.inl ⟨by omega, rfl, rfl⟩⟩⟩⟩
theorem spFit_ex (hO : aOk A) (x : Int32) : ∃ r A', spFit A x r A' := by
  have hn := hO.n
  have ha := aActs_le A
  rcases sp_int x (aActs A) (by omega) with h | ⟨a, ha, e⟩
  · exact ⟨_, _, Or.inl ⟨h, rfl, rfl⟩⟩
  · by_cases hm : (aOff A a).toNat - aCut A a ≤ aSl A
    · exact ⟨_, _, Or.inr ⟨a, ha, e, Or.inr ⟨hm, rfl, rfl⟩⟩⟩
    · exact ⟨_, _, Or.inr ⟨a, ha, e, Or.inl ⟨hm, rfl, rfl⟩⟩⟩
end AX41
