/-! PURE: what the law asks of a board (3): the swap that helps the most; a slug by its number; the tale of a board. -/
section AX52
variable {A : axAD}
/-- what is held while the swaps are tried -/
def bsI (A : axAD) (s : axBS) : Prop := (s.1 = 0 ∧ s.2.1 = 0 ∧ s.2.2 = aAll A) ∨ (s.1 < s.2.1 ∧ s.2.1 < aN A ∧ aMay A s.1 s.2.1 ∧ s.2.2 = aAll (aSwp A s.1 s.2.1) ∧ s.2.2 < aAll A)
theorem bsI_le {s : axBS} (h : bsI A s) : s.2.2 ≤ aAll A := by
  rcases h with h | h <;> omega
theorem aBst_I {p q : Nat} {s : axBS} (hs : bsI A s) (hpq : p < q) (hq : q < aN A) : bsI A (aBst A p q s) ∧ (aBst A p q s).2.2 ≤ s.2.2 ∧ (aMay A p q → (aBst A p q s).2.2 ≤ aAll (aSwp A p q)) := by
  have hl := bsI_le hs
  unfold aBst
  by_cases h : ((aLo A p ≤ q ∧ q < aHi A p) ∧ (aLo A q ≤ p ∧ p < aHi A q)) ∧ aAll (aSwp A p q) < s.2.2
  · rw [if_pos h]
    have h2 := h.2
    exact ⟨Or.inr ⟨hpq, hq, h.1, rfl, by show aAll (aSwp A p q) < aAll A; omega⟩, by show aAll (aSwp A p q) ≤ s.2.2; omega, fun _ => Nat.le_refl _⟩
  · rw [if_neg h]
    refine ⟨hs, Nat.le_refl _, fun hm => Nat.not_lt.mp fun z => h ⟨hm, z⟩⟩
theorem aBr_I {p : Nat} {s : axBS} (hs : bsI A s) : ∀ m, m ≤ aN A → bsI A (aBr A p m s) ∧ (aBr A p m s).2.2 ≤ s.2.2 ∧ ∀ q, p < q → q < m → aMay A p q → (aBr A p m s).2.2 ≤ aAll (aSwp A p q)
  | 0, _ => ⟨hs, Nat.le_refl _, fun q _ h => absurd h (Nat.not_lt_zero q)⟩
  | m + 1, hm => by
    obtain ⟨i1, i2, i3⟩ := aBr_I (p := p) hs m (by omega)
    rw [aBr]
    by_cases e : p < m
    · rw [if_pos e]
      obtain ⟨j1, j2, j3⟩ := aBst_I (p := p) (q := m) i1 e (by omega)
      refine ⟨j1, by omega, fun q h1 h2 h3 => ?_⟩
      by_cases e2 : q = m
      · subst e2; exact j3 h3
      · have := i3 q h1 (by omega) h3; omega
    · rw [if_neg e]
      exact ⟨i1, i2, fun q h1 h2 h3 => i3 q h1 (by omega) h3⟩
theorem aBS_I (A : axAD) : ∀ k, k ≤ aN A → bsI A (aBS A k) ∧ ∀ p q, p < k → p < q → q < aN A → aMay A p q → (aBS A k).2.2 ≤ aAll (aSwp A p q)
  | 0, _ => ⟨Or.inl ⟨rfl, rfl, rfl⟩, fun p q h => absurd h (Nat.not_lt_zero p)⟩
  | k + 1, hk => by
    obtain ⟨i1, i2⟩ := aBS_I A k (by omega)
    rw [aBS]
    obtain ⟨j1, j2, j3⟩ := aBr_I (p := k) i1 (aN A) (Nat.le_refl _)
    refine ⟨j1, fun p q h1 h2 h3 h4 => ?_⟩
    by_cases e : p = k
    · subst e; exact j3 q h2 h3 h4
    · have := i2 p q (by omega) h2 h3 h4; omega
/-! a slug by its number -/
def plc (A : axAD) (k : Nat) : Nat := aFst (fun i => decide (aR A i = k)) (aN A)
def ofF (A : axAD) (k j : Nat) : Int32 := if plc A k < aN A then ofV A (plc A k) j else -1
theorem ofF_sp (hO : aOk A) {k j : Nat} (hk : k < 24) (hj : j < 10) : spOf A (nI k) (nI j) (ofF A k j) := by
  unfold ofF
  by_cases h : plc A k < aN A
  · rw [if_pos h]
    have e : aR A (plc A k) = k := of_decide_eq_true (aFst_yes (fun i => decide (aR A i = k)) (aN A) h)
    exact Or.inr ⟨plc A k, ⟨h, by rw [e]⟩, Or.inl ⟨j, hj, rfl, rfl⟩⟩
  · rw [if_neg h]
    refine Or.inl ⟨fun i hi e => h ?_, rfl⟩
    have hr := hO.r hi
    have e : k = aR A i := (nI_eq (by omega) (by omega)).mp e
    have := aFst_lt (f := fun i => decide (aR A i = k)) hi (decide_eq_true e.symm)
    have : plc A k ≤ i := this
    omega
/-! the tale -/
def cntA (A : axAD) (k : Nat) : Int32 := cntV (A, 0, fun _ => A, fun _ => none, 0, fun _ => 0) k
theorem cntA_is (V : axV) : ∀ k, k < 10 → cntV V k = cntA (vA V) k
  | 0, _ => rfl
  | 1, _ => rfl
  | 2, _ => rfl
  | 3, _ => rfl
  | 4, _ => rfl
  | 5, _ => rfl
  | 6, _ => rfl
  | 7, _ => rfl
  | 8, _ => rfl
  | 9, _ => rfl
  | n + 10, h => absurd h (by omega)
def tlC (A : axAD) : Nat → Int64
  | 0 => 19
  | k + 1 => 31 * tlC A k + (cntA A k).toInt64
def tlO (A : axAD) : Nat → Int64
  | 0 => tlC A 10
  | k + 1 => 31 * tlO A k + (ofF A (k / 10) (k % 10)).toInt64
def tale (A : axAD) : Int64 := tlO A 240
/-- the low bits of a number, as the law takes them -/
theorem lw_lo (x : Int32) : ∃ a, a < 2 ^ 31 ∧ x &&& 2147483647 = nI a := by
  obtain ⟨a, b, c, e, -, -, -, -, rfl⟩ := pc_of x
  refine ⟨(256 * (256 * (256 * e + c) + b) + a) % 2 ^ 31, Nat.mod_lt _ (by decide), ?_⟩
  rw [show (2147483647 : Int32) = nI (2 ^ 31 - 1) from rfl, nx_and, Nat.and_two_pow_sub_one_eq_mod]
theorem nI_rem {a b : Nat} (ha : a < 2 ^ 31) (h0 : 0 < b) (hb : b < 2 ^ 31) : nI a - nI a / nI b * nI b = nI (a % b) := by
  have h1 : a / b * b ≤ a := Nat.div_mul_le_self a b
  rw [nI_div ha h0 hb, pk_mul, pk_sub h1]
  congr 1
  have := Nat.mod_add_div a b
  rw [Nat.mul_comm] at this
  omega
end AX52
