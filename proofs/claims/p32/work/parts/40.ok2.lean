/-! What holds of every board goes on to hold: drop, add, split. -/
def dlI (p i : Nat) : Nat := if i < p then i else i + 1
theorem aDel_dl (r : Nat → Nat) (p i : Nat) : aDel r p i = r (dlI p i) := by
  unfold aDel dlI; split <;> rfl
theorem dlI_lt {p i n : Nat} (hi : i < n - 1) : dlI p i < n ∧ dlI p i ≠ p := by
  unfold dlI; split <;> omega
theorem dlI_has {p b n : Nat} (hb : b < n) (hbp : b ≠ p) (hp : p < n) : ∃ i, i < n - 1 ∧ dlI p i = b := by
  by_cases e : b < p
  · exact ⟨b, by omega, if_pos e⟩
  · exact ⟨b - 1, by omega, by unfold dlI; rw [if_neg (by omega)]; omega⟩
theorem dlI_mono {p i j : Nat} (h : dlI p i < dlI p j) : i < j := by
  unfold dlI at h; split at h <;> split at h <;> omega
theorem dlI_inj {p i j : Nat} (h : dlI p i = dlI p j) : i = j := by
  unfold dlI at h; split at h <;> split at h <;> omega
theorem aOk_drop {A : axAD} (hO : aOk A) {p : Nat} (hp : p < aN A) : aOk (aDrop A p) := by
  have hk := hO.r hp
  obtain ⟨o1, o2, o3, o4, o5, o6⟩ := hO
  refine ⟨?_, fun i hi => ?_, fun i j hi hj e => ?_, fun i hi => ?_, fun i k hi hb => ?_, o6⟩
  · show aN A - 1 ≤ 24; omega
  · show aDel (aR A) p i < 24
    rw [aDel_dl]; exact o2 _ (dlI_lt hi).1
  · have e : aDel (aR A) p i = aDel (aR A) p j := e
    rw [aDel_dl, aDel_dl] at e
    exact dlI_inj (o3 _ _ (dlI_lt hi).1 (dlI_lt hj).1 e)
  · show 1 ≤ aB A (aDel (aR A) p i) ∧ aB A (aDel (aR A) p i) ≤ aW A (aDel (aR A) p i) ∧ aW A (aDel (aR A) p i) ≤ 99
    rw [aDel_dl]; exact o4 _ (dlI_lt hi).1
  · have hb : bt (aD A (aDel (aR A) p i) &&& (bi (aR A p) ^^^ (-1))) k = true := hb
    rw [bt_clr (by omega), aDel_dl, Bool.and_eq_true] at hb
    obtain ⟨b, hb1, hb2⟩ := o5 _ k (dlI_lt hi).1 hb.1
    have hne : b ≠ p := fun z => by
      rw [z] at hb2
      rw [← hb2, decide_eq_true rfl] at hb
      cases hb.2
    obtain ⟨j, hj, e⟩ := dlI_has (by have := (dlI_lt (p := p) hi).1; omega) hne hp
    refine ⟨j, dlI_mono (p := p) (by rw [e]; exact hb1), ?_⟩
    show aDel (aR A) p j = k
    rw [aDel_dl, e, hb2]
def isP (p a : Nat) : Nat := if a < p then a else a + 1
theorem aIns_isP (r : Nat → Nat) (p k a : Nat) : aIns r p k (isP p a) = r a := by
  unfold aIns isP
  by_cases e : a < p
  · rw [if_pos e, if_pos e]
  · rw [if_neg e, if_neg (by omega), if_neg (by omega), Nat.add_sub_cancel]
theorem isP_ex {p i n : Nat} (hi : i < n + 1) (hp : p ≤ n) : i = p ∨ ∃ a, a < n ∧ isP p a = i := by
  by_cases e : i = p
  · exact Or.inl e
  · refine Or.inr ?_
    by_cases e2 : i < p
    · exact ⟨i, by omega, if_pos e2⟩
    · exact ⟨i - 1, by omega, by unfold isP; rw [if_neg (by omega)]; omega⟩
theorem isP_lt {p a b : Nat} (h : a < b) : isP p a < isP p b := by
  unfold isP; split <;> split <;> omega
theorem isP_inj {p a b : Nat} (h : isP p a = isP p b) : a = b := by
  unfold isP at h; split at h <;> split at h <;> omega
theorem aOk_add {A : axAD} (hO : aOk A) {p v k : Nat} {t : Bool} (hn : aN A < 24) (hp : p ≤ aN A) (hk : k < 24) (hf : ¬ aIn A k) (h1 : 1 ≤ v) (h2 : v ≤ 99) : aOk (aAdd A p v k t) := by
  have hne : ∀ a, a < aN A → aR A a ≠ k := fun a ha z => hf ⟨a, ha, z⟩
  obtain ⟨o1, o2, o3, o4, o5, o6⟩ := hO
  refine ⟨hn, fun i hi => ?_, fun i j hi hj e => ?_, fun i hi => ?_, fun i x hi hb => ?_, o6⟩
  · show aIns (aR A) p k i < 24
    rcases isP_ex hi hp with e | ⟨a, ha, e⟩
    · rw [e, aIns_at]; exact hk
    · rw [← e, aIns_isP]; exact o2 a ha
  · have e : aIns (aR A) p k i = aIns (aR A) p k j := e
    rcases isP_ex hi hp with e1 | ⟨a, ha, e1⟩
    · rcases isP_ex hj hp with e2 | ⟨b, hb, e2⟩
      · rw [e1, e2]
      · rw [e1, ← e2, aIns_at, aIns_isP] at e
        exact absurd e.symm (hne b hb)
    · rcases isP_ex hj hp with e2 | ⟨b, hb, e2⟩
      · rw [e2, ← e1, aIns_at, aIns_isP] at e
        exact absurd e (hne a ha)
      · rw [← e1, ← e2, aIns_isP, aIns_isP] at e
        rw [← e1, ← e2, o3 a b ha hb e]
  · show 1 ≤ va_up (aB A) k v (aIns (aR A) p k i) ∧ va_up (aB A) k v (aIns (aR A) p k i) ≤ va_up (aW A) k v (aIns (aR A) p k i) ∧ va_up (aW A) k v (aIns (aR A) p k i) ≤ 99
    rcases isP_ex hi hp with e1 | ⟨a, ha, e1⟩
    · rw [e1, aIns_at, va_is, va_is]; exact ⟨h1, Nat.le_refl _, h2⟩
    · rw [← e1, aIns_isP, va_no (hne a ha), va_no (hne a ha)]; exact o4 a ha
  · have hb : bt (va_up (aD A) k 0 (aIns (aR A) p k i)) x = true := hb
    rcases isP_ex hi hp with e1 | ⟨a, ha, e1⟩
    · rw [e1, aIns_at, va_is, b_0] at hb; cases hb
    · rw [← e1, aIns_isP, va_no (hne a ha)] at hb
      obtain ⟨b, hb1, hb2⟩ := o5 a x ha hb
      refine ⟨isP p b, by rw [← e1]; exact isP_lt hb1, ?_⟩
      show aIns (aR A) p k (isP p b) = x
      rw [aIns_isP, hb2]
theorem aOk_spl0 {A : axAD} (hO : aOk A) {p v z : Nat} (hn : aN A < 24) (hp : p < aN A) (hz : z < 24) (hf : ¬ aIn A z) (h1 : 1 ≤ v) (h2 : v < aB A (aR A p)) : aOk (aSpl0 A p v (aR A p) z) := by
  have hne : ∀ a, a < aN A → aR A a ≠ z := fun a ha e => hf ⟨a, ha, e⟩
  have hk := hO.r hp
  have hbb := hO.b hp
  have hzk : z ≠ aR A p := fun e => hne p hp e.symm
  have hinj : ∀ a, a < aN A → a ≠ p → aR A a ≠ aR A p := fun a ha hap e => hap (hO.inj ha hp e)
  obtain ⟨a1, a2, a3, -, -, a6⟩ := aOk_add (t := false) hO hn (show p + 1 ≤ aN A by omega) hz hf (show 1 ≤ aW A (aR A p) - v by omega) (show aW A (aR A p) - v ≤ 99 by omega)
  obtain ⟨o1, o2, o3, o4, o5, o6⟩ := hO
  refine ⟨a1, a2, a3, fun i hi => ?_, fun i x hi hb => ?_, a6⟩
  · show 1 ≤ va_up (va_up (va_up (aB A) z (aW A (aR A p) - v)) z (aB A (aR A p) - v)) (aR A p) v (aIns (aR A) (p + 1) z i) ∧ va_up (va_up (va_up (aB A) z (aW A (aR A p) - v)) z (aB A (aR A p) - v)) (aR A p) v (aIns (aR A) (p + 1) z i) ≤ va_up (va_up (aW A) z (aW A (aR A p) - v)) (aR A p) v (aIns (aR A) (p + 1) z i) ∧ va_up (va_up (aW A) z (aW A (aR A p) - v)) (aR A p) v (aIns (aR A) (p + 1) z i) ≤ 99
    rcases isP_ex hi (show p + 1 ≤ aN A by omega) with e1 | ⟨a, ha, e1⟩
    · rw [e1, aIns_at, va_no hzk, va_is, va_no hzk, va_is]; omega
    · rw [← e1, aIns_isP]
      by_cases e : a = p
      · subst e
        rw [va_is, va_is]; omega
      · rw [va_no (hinj a ha e), va_no (hne a ha), va_no (hne a ha), va_no (hinj a ha e), va_no (hne a ha)]
        exact o4 a ha
  · have hb : bt (aSplN A (aR A p) z (aIns (aR A) (p + 1) z i)) x = true := hb
    have go : ∀ b, b < aN A → isP (p + 1) b < i → ∃ j, j < i ∧ aIns (aR A) (p + 1) z j = aR A b := fun b _ hbi => ⟨_, hbi, aIns_isP _ _ _ _⟩
    show ∃ j, j < i ∧ aIns (aR A) (p + 1) z j = x
    unfold aSplN at hb
    rcases isP_ex hi (show p + 1 ≤ aN A by omega) with e1 | ⟨a, ha, e1⟩
    · rw [e1, aIns_at, if_pos rfl, bt_bi (by omega)] at hb
      rw [of_decide_eq_true hb]
      exact go p hp (by unfold isP; rw [if_pos (by omega)]; omega)
    · rw [← e1, aIns_isP, if_neg (hne a ha)] at hb
      have old : bt (aD A (aR A a)) x = true → ∃ j, j < i ∧ aIns (aR A) (p + 1) z j = x := fun hx => by
        obtain ⟨b, hb1, hb2⟩ := o5 a x ha hx
        rw [← hb2]
        exact go b (by omega) (by rw [← e1]; exact isP_lt hb1)
      by_cases e : bt (aD A (aR A a)) (aR A p) = true
      · rw [if_pos e, bt_set (by omega), Bool.or_eq_true] at hb
        rcases hb with hb3 | hb3
        · exact old hb3
        · obtain ⟨b, hb1, hb2⟩ := o5 a _ ha e
          have : b = p := o3 b p (by omega) hp hb2
          subst this
          rw [of_decide_eq_true hb3]
          refine ⟨b + 1, ?_, aIns_at _ _ _⟩
          rw [← e1]; unfold isP; rw [if_neg (by omega)]; omega
      · rw [if_neg e] at hb
        exact old hb
theorem aOk_split {A : axAD} (hO : aOk A) {p v z : Nat} (hn : aN A < 24) (hp : p < aN A) (hz : z < 24) (hf : ¬ aIn A z) (h1 : 1 ≤ v) (h2 : v < aB A (aR A p)) : aOk (aSplit A p v (aR A p) z) := by
  unfold aSplit
  split
  · exact aOk_flip (aOk_flip (aOk_spl0 hO hn hp hz hf h1 h2) _) _
  · exact aOk_spl0 hO hn hp hz hf h1 h2
