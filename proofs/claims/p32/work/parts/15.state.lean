/-! The state of a board in plain numbers, and how the class' arrays and the reference's row hold it. -/
/-- slugs, the row, written, beats, needs (sets), turns, PAGE, SLACK, TRIM, targets -/
abbrev axAD : Type := Nat × (Nat → Nat) × (Nat → Nat) × (Nat → Nat) × (Nat → Int32) × (Nat → Bool) × Nat × Nat × Nat × (Nat → Nat)
abbrev aN (A : axAD) : Nat := A.1
abbrev aR (A : axAD) : Nat → Nat := A.2.1
abbrev aW (A : axAD) : Nat → Nat := A.2.2.1
abbrev aB (A : axAD) : Nat → Nat := A.2.2.2.1
abbrev aD (A : axAD) : Nat → Int32 := A.2.2.2.2.1
abbrev aT (A : axAD) : Nat → Bool := A.2.2.2.2.2.1
abbrev aPg (A : axAD) : Nat := A.2.2.2.2.2.2.1
abbrev aSl (A : axAD) : Nat := A.2.2.2.2.2.2.2.1
abbrev aTr (A : axAD) : Nat := A.2.2.2.2.2.2.2.2.1
abbrev aTg (A : axAD) : Nat → Nat := A.2.2.2.2.2.2.2.2.2
/-- the slug k is there -/
def aIn (A : axAD) (k : Nat) : Prop := ∃ i, i < aN A ∧ aR A i = k
/-- what holds of every board -/
def aOk (A : axAD) : Prop :=
  aN A ≤ 24 ∧ (∀ i, i < aN A → aR A i < 24) ∧ (∀ i j, i < aN A → j < aN A → aR A i = aR A j → i = j) ∧
  (∀ i, i < aN A → 1 ≤ aB A (aR A i) ∧ aB A (aR A i) ≤ aW A (aR A i) ∧ aW A (aR A i) ≤ 99) ∧
  (∀ i k, i < aN A → bt (aD A (aR A i)) k = true → ∃ j, j < i ∧ aR A j = k) ∧
  (4 ≤ aPg A ∧ aPg A ≤ 60) ∧ aSl A ≤ 20 ∧ aTr A ≤ 90 ∧ (∀ a, a < 6 → 1 ≤ aTg A a ∧ aTg A a ≤ 999)
/-- the class' arrays hold it -/
def CR (B : axBD) (A : axAD) : Prop :=
  bSz B = nI (aN A) ∧ (∀ i, i < aN A → bRw B i = nI (aR A i)) ∧
  (∀ i, i < aN A → bWr B (aR A i) = nI (aW A (aR A i)) ∧ bBt B (aR A i) = nI (aB A (aR A i)) ∧ bNd B (aR A i) = aD A (aR A i)) ∧
  (∀ k, bt (bSg B) k = true ↔ aIn A k) ∧ (∀ k, bt (bTn B) k = true ↔ (aIn A k ∧ aT A k = true)) ∧
  (bSt B 0 = nI (aPg A) ∧ bSt B 1 = nI (aSl A) ∧ bSt B 2 = nI (aTr A)) ∧ (∀ a, a < 6 → bTg B a = nI (aTg A a))
/-- the reference's row of numbers holds it -/
def MR (s : Nat → Int32) (A : axAD) : Prop :=
  s 0 = nI (aN A) ∧ (∀ i, i < aN A → s (10 + i) = nI (aR A i)) ∧
  (∀ i, i < aN A → s (35 + 5 * aR A i) = nI (aW A (aR A i)) ∧ s (36 + 5 * aR A i) = nI (aB A (aR A i)) ∧ s (37 + 5 * aR A i) = (if aT A (aR A i) = true then 1 else 0) ∧ s (38 + 5 * aR A i) = aD A (aR A i)) ∧
  (∀ k, k < 24 → (aIn A k → s (34 + 5 * k) = 1) ∧ (¬ aIn A k → s (34 + 5 * k) = 0)) ∧
  (s 1 = nI (aPg A) ∧ s 2 = nI (aSl A) ∧ s 3 = nI (aTr A)) ∧ (∀ a, a < 6 → s (4 + a) = nI (aTg A a))
section AX15
variable {A : axAD} {B : axBD}
theorem aOk.n (h : aOk A) : aN A ≤ 24 := h.1
theorem aOk.r (h : aOk A) {i : Nat} (hi : i < aN A) : aR A i < 24 := h.2.1 i hi
theorem aOk.inj (h : aOk A) {i j : Nat} (hi : i < aN A) (hj : j < aN A) (e : aR A i = aR A j) : i = j := h.2.2.1 i j hi hj e
theorem aOk.b (h : aOk A) {i : Nat} (hi : i < aN A) : 1 ≤ aB A (aR A i) ∧ aB A (aR A i) ≤ aW A (aR A i) ∧ aW A (aR A i) ≤ 99 := h.2.2.2.1 i hi
theorem aOk.d (h : aOk A) {i k : Nat} (hi : i < aN A) (hk : bt (aD A (aR A i)) k = true) : ∃ j, j < i ∧ aR A j = k := h.2.2.2.2.1 i k hi hk
theorem aOk.pg (h : aOk A) : 4 ≤ aPg A ∧ aPg A ≤ 60 := h.2.2.2.2.2.1
theorem aOk.sl (h : aOk A) : aSl A ≤ 20 := h.2.2.2.2.2.2.1
theorem aOk.tr (h : aOk A) : aTr A ≤ 90 := h.2.2.2.2.2.2.2.1
theorem aOk.tg (h : aOk A) {a : Nat} (ha : a < 6) : 1 ≤ aTg A a ∧ aTg A a ≤ 999 := h.2.2.2.2.2.2.2.2 a ha
theorem cr_sz (h : CR B A) : bSz B = nI (aN A) := h.1
theorem cr_rw (h : CR B A) {i : Nat} (hi : i < aN A) : bRw B i = nI (aR A i) := h.2.1 i hi
theorem cr_wr (h : CR B A) {i : Nat} (hi : i < aN A) : bWr B (aR A i) = nI (aW A (aR A i)) := (h.2.2.1 i hi).1
theorem cr_bt (h : CR B A) {i : Nat} (hi : i < aN A) : bBt B (aR A i) = nI (aB A (aR A i)) := (h.2.2.1 i hi).2.1
theorem cr_nd (h : CR B A) {i : Nat} (hi : i < aN A) : bNd B (aR A i) = aD A (aR A i) := (h.2.2.1 i hi).2.2
theorem cr_sg (h : CR B A) (k : Nat) : bt (bSg B) k = true ↔ aIn A k := h.2.2.2.1 k
theorem cr_tn (h : CR B A) (k : Nat) : bt (bTn B) k = true ↔ (aIn A k ∧ aT A k = true) := h.2.2.2.2.1 k
theorem cr_pg (h : CR B A) : bSt B 0 = nI (aPg A) := h.2.2.2.2.2.1.1
theorem cr_sl (h : CR B A) : bSt B 1 = nI (aSl A) := h.2.2.2.2.2.1.2.1
theorem cr_tr (h : CR B A) : bSt B 2 = nI (aTr A) := h.2.2.2.2.2.1.2.2
theorem cr_tg (h : CR B A) {a : Nat} (ha : a < 6) : bTg B a = nI (aTg A a) := h.2.2.2.2.2.2 a ha
theorem cr_tnr (h : CR B A) {i : Nat} (hi : i < aN A) : bt (bTn B) (aR A i) = aT A (aR A i) := by
  have := cr_tn h (aR A i)
  cases h1 : bt (bTn B) (aR A i) <;> cases h2 : aT A (aR A i) <;> rw [h1, h2] at this <;> simp at this
  all_goals first | rfl | exact absurd ⟨i, hi, rfl⟩ this
variable {s : Nat → Int32}
theorem mr_sz (h : MR s A) : s 0 = nI (aN A) := h.1
theorem mr_rw (h : MR s A) {i : Nat} (hi : i < aN A) : s (10 + i) = nI (aR A i) := h.2.1 i hi
theorem mr_wr (h : MR s A) {i : Nat} (hi : i < aN A) : s (35 + 5 * aR A i) = nI (aW A (aR A i)) := (h.2.2.1 i hi).1
theorem mr_bt (h : MR s A) {i : Nat} (hi : i < aN A) : s (36 + 5 * aR A i) = nI (aB A (aR A i)) := (h.2.2.1 i hi).2.1
theorem mr_tn (h : MR s A) {i : Nat} (hi : i < aN A) : s (37 + 5 * aR A i) = (if aT A (aR A i) = true then 1 else 0) := (h.2.2.1 i hi).2.2.1
theorem mr_nd (h : MR s A) {i : Nat} (hi : i < aN A) : s (38 + 5 * aR A i) = aD A (aR A i) := (h.2.2.1 i hi).2.2.2
theorem mr_in (h : MR s A) {k : Nat} (hk : k < 24) (hi : aIn A k) : s (34 + 5 * k) = 1 := (h.2.2.2.1 k hk).1 hi
theorem mr_out (h : MR s A) {k : Nat} (hk : k < 24) (hi : ¬ aIn A k) : s (34 + 5 * k) = 0 := (h.2.2.2.1 k hk).2 hi
theorem mr_pg (h : MR s A) : s 1 = nI (aPg A) := h.2.2.2.2.1.1
theorem mr_sl (h : MR s A) : s 2 = nI (aSl A) := h.2.2.2.2.1.2.1
theorem mr_tr (h : MR s A) : s 3 = nI (aTr A) := h.2.2.2.2.1.2.2
theorem mr_tg (h : MR s A) {a : Nat} (ha : a < 6) : s (4 + a) = nI (aTg A a) := h.2.2.2.2.2 a ha
end AX15
/-- beats ahead of a place; turns ahead of it; what can be trimmed of a slug; and of all ahead of a place -/
def aBeg (A : axAD) : Nat → Nat := aS (fun i => aB A (aR A i))
def aAct (A : axAD) : Nat → Nat := aS (fun i => if aT A (aR A i) = true then 1 else 0)
def aCan (A : axAD) (k : Nat) : Nat := aB A k - max 1 (aW A k - aW A k * aTr A / 100)
def aRm (A : axAD) : Nat → Nat := aS (fun i => aCan A (aR A i))
theorem aBeg_le {A : axAD} (h : aOk A) {p : Nat} (hp : p ≤ aN A) : aBeg A p ≤ p * 99 := aS_le p fun i hi => by have := h.b (show i < aN A by omega); omega
theorem aAct_le {A : axAD} (p : Nat) : aAct A p ≤ p := by
  have := aS_le (f := fun i => if aT A (aR A i) = true then 1 else 0) (c := 1) p (fun i _ => by split <;> omega)
  unfold aAct; omega
theorem aRm_le {A : axAD} (h : aOk A) {p : Nat} (hp : p ≤ aN A) : aRm A p ≤ p * 99 := aS_le p fun i hi => by have := h.b (show i < aN A by omega); unfold aCan; omega
