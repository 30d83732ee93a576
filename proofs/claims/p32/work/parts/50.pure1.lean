/-! PURE: what the law asks of a board (1): sets of slugs, what is needed, places, acts. -/
theorem b_not (x : Int32) {i : Nat} (hi : i < 32) : bt (x ^^^ (-1)) i = !bt x i := by
  rw [b_xor, b_m1 i hi]; cases bt x i <;> rfl
theorem b_sub {x y : Int32} (h : ∀ i, bt x i = true → bt y i = true) : x &&& (y ^^^ (-1)) = 0 := b_ext fun i hi => by
  rw [b_and, b_not y hi, b_0]
  cases h1 : bt x i with
  | false => rfl
  | true => rw [h i h1]; rfl
section AX50
variable {A : axAD}
/-! what is needed -/
theorem pu_ahead (hO : aOk A) {i : Nat} (hi : i < aN A) : bt (aSet A i) (aR A i) = false := by
  cases h : bt (aSet A i) (aR A i) with
  | false => rfl
  | true =>
    obtain ⟨j, hj, e⟩ := (bt_aSet hO (aR A i) i (by omega)).mp h
    have := hO.inj (show j < aN A by omega) hi e
    omega
theorem pu_need (hO : aOk A) {i : Nat} (hi : i < aN A) (b : Nat) (h : bt (aD A (aR A i)) b = true) : bt (aSet A i) b = true :=
  (bt_aSet hO b i (by omega)).mpr (hO.d hi h)
theorem aClo_up : ∀ (m : Nat) (x : Int32) (b : Nat), bt x b = true → bt (aClo A m x) b = true
  | 0, _, _, h => h
  | m + 1, x, b, h => by
    rw [aClo]
    refine aClo_up m _ b ?_
    split
    · rw [b_or, h]; rfl
    · exact h
theorem aClo_min {y : Int32} : ∀ (m : Nat) (x : Int32), (∀ p, p < m → bt y (aR A p) = true → ∀ b, bt (aD A (aR A p)) b = true → bt y b = true) → (∀ b, bt x b = true → bt y b = true) → ∀ b, bt (aClo A m x) b = true → bt y b = true
  | 0, _, _, hx, b, h => hx b h
  | m + 1, x, hy, hx, b, h => by
    rw [aClo] at h
    refine aClo_min m _ (fun p hp => hy p (by omega)) (fun c hc => ?_) b h
    split at hc
    · rename_i e
      rw [b_or, Bool.or_eq_true] at hc
      rcases hc with hc | hc
      · exact hx c hc
      · exact hy m (by omega) (hx _ e) c hc
    · exact hx c hc
theorem aClo_hi (hO : aOk A) : ∀ (m : Nat), m ≤ aN A → ∀ (x : Int32) (q : Nat), m ≤ q → q < aN A → bt (aClo A m x) (aR A q) = true → bt x (aR A q) = true
  | 0, _, _, _, _, _, h => h
  | m + 1, hm, x, q, hq, hqn, h => by
    rw [aClo] at h
    have h := aClo_hi hO m (by omega) _ q (by omega) hqn h
    split at h
    · rw [b_or, Bool.or_eq_true] at h
      rcases h with h | h
      · exact h
      · obtain ⟨j, hj, e⟩ := hO.d (show m < aN A by omega) h
        have := hO.inj (show j < aN A by omega) hqn e
        omega
    · exact h
theorem aClo_cl (hO : aOk A) : ∀ (m : Nat), m ≤ aN A → ∀ (x : Int32) (p : Nat), p < m → bt (aClo A m x) (aR A p) = true → ∀ b, bt (aD A (aR A p)) b = true → bt (aClo A m x) b = true
  | 0, _, _, _, hp, _, _, _ => absurd hp (Nat.not_lt_zero _)
  | m + 1, hm, x, p, hp, h, b, hb => by
    rw [aClo] at h ⊢
    by_cases e : p = m
    · subst e
      have h := aClo_hi hO p (by omega) _ p (Nat.le_refl _) (by omega) h
      have h2 : bt x (aR A p) = true := by
        split at h
        · assumption
        · exact h
      rw [if_pos h2]
      refine aClo_up p _ b ?_
      rw [b_or, hb, Bool.or_true]
    · exact aClo_cl hO m (by omega) _ p (by omega) h b hb
/-- all that a slug needs: it needs what it needs first; it is ahead; what a needed one needs is in it -/
theorem pu_clo1 (i : Nat) (b : Nat) (h : bt (aD A (aR A i)) b = true) : bt (aClo A (aN A) (aD A (aR A i))) b = true := aClo_up _ _ b h
theorem pu_clo2 (hO : aOk A) {i : Nat} (hi : i < aN A) (b : Nat) (h : bt (aClo A (aN A) (aD A (aR A i))) b = true) : bt (aSet A i) b = true := by
  refine aClo_min (aN A) _ (fun p hp h1 c hc => ?_) (pu_need hO hi) b h
  obtain ⟨j, hj, e⟩ := (bt_aSet hO (aR A p) i (by omega)).mp h1
  have := hO.inj (show j < aN A by omega) hp e
  subst this
  obtain ⟨q, hq, e2⟩ := hO.d hp hc
  exact (bt_aSet hO c i (by omega)).mpr ⟨q, by omega, e2⟩
theorem pu_clo3 (hO : aOk A) {i j : Nat} (hj : j < aN A) (h : bt (aD A (aR A i)) (aR A j) = true) (b : Nat) (hb : bt (aClo A (aN A) (aD A (aR A j))) b = true) : bt (aClo A (aN A) (aD A (aR A i))) b = true :=
  aClo_min (aN A) _ (fun p hp h1 => aClo_cl hO _ (Nat.le_refl _) _ p hp h1) (fun c hc => aClo_cl hO _ (Nat.le_refl _) _ j hj (aClo_up _ _ _ h) c hc) b hb
theorem bt_aNdr (hO : aOk A) (k b : Nat) : ∀ q, q ≤ aN A → (bt (aNdr A k q) b = true ↔ ∃ p, p < q ∧ aR A p = b ∧ bt (aD A (aR A p)) k = true)
  | 0, _ => ⟨fun h => (by rw [aNdr, b_0] at h; cases h), fun ⟨i, hi, _⟩ => absurd hi (Nat.not_lt_zero i)⟩
  | q + 1, hq => by
    have hr := hO.r (show q < aN A by omega)
    have ih := bt_aNdr hO k b q (by omega)
    rw [aNdr]
    split
    · rename_i e
      rw [bt_set (by omega), Bool.or_eq_true, ih]
      constructor
      · rintro (⟨i, hi, e⟩ | h)
        · exact ⟨i, by omega, e⟩
        · exact ⟨q, by omega, (of_decide_eq_true h).symm, e⟩
      · rintro ⟨i, hi, e1, e3⟩
        by_cases e2 : i = q
        · subst e2; exact Or.inr (decide_eq_true e1.symm)
        · exact Or.inl ⟨i, by omega, e1, e3⟩
    · rename_i e
      rw [ih]
      constructor
      · rintro ⟨i, hi, e1⟩
        exact ⟨i, by omega, e1⟩
      · rintro ⟨i, hi, e1, e3⟩
        by_cases e2 : i = q
        · subst e2; exact absurd e3 e
        · exact ⟨i, by omega, e1, e3⟩
theorem aNdr_0 (hO : aOk A) {k : Nat} (h : ∀ p, p < aN A → bt (aD A (aR A p)) k = false) : aNdr A k (aN A) = 0 := by
  refine bt_ext fun b _ => ?_
  rw [bt_aNdr hO k b _ (Nat.le_refl _), b_0]
  constructor
  · rintro ⟨p, hp, -, e⟩
    rw [h p hp] at e; cases e
  · intro z; cases z
/-! places -/
theorem bt_plS (hO : aOk A) (i b : Nat) : ∀ q, q ≤ aN A → (bt (plS A i q) b = true ↔ (b < q ∧ aLo A i ≤ b ∧ b < aHi A i))
  | 0, _ => ⟨fun h => (by rw [plS, b_0] at h; cases h), fun h => absurd h.1 (Nat.not_lt_zero b)⟩
  | q + 1, hq => by
    have hn := hO.n
    have ih := bt_plS hO i b q (by omega)
    rw [plS]
    split
    · rename_i e
      rw [bt_set (by omega), Bool.or_eq_true, ih, decide_eq_true_eq]
      constructor
      · rintro (h | h)
        · exact ⟨by omega, h.2⟩
        · subst h; exact ⟨by omega, e⟩
      · rintro ⟨h1, h2⟩
        by_cases e2 : b = q
        · exact Or.inr e2
        · exact Or.inl ⟨by omega, h2⟩
    · rename_i e
      rw [ih]
      constructor
      · rintro ⟨h1, h2⟩
        exact ⟨by omega, h2⟩
      · rintro ⟨h1, h2⟩
        by_cases e2 : b = q
        · subst e2; exact absurd h2 e
        · exact ⟨by omega, h2⟩
theorem pu_place (hO : aOk A) {i q : Nat} (hq : q < aN A) : (plS A i (aN A) >>> (nI q &&& 31)) &&& 1 = if aLo A i ≤ q ∧ q < aHi A i then 1 else 0 := by
  have hn := hO.n
  rw [bt_has (by omega)]
  by_cases h : aLo A i ≤ q ∧ q < aHi A i
  · rw [if_pos h, if_pos ((bt_plS hO i q _ (Nat.le_refl _)).mpr ⟨hq, h⟩)]
  · rw [if_neg h, if_neg (fun z => h ((bt_plS hO i q _ (Nat.le_refl _)).mp z).2)]
/-! beats -/
theorem aBeg_s (p : Nat) : aBeg A (p + 1) = aBeg A p + aB A (aR A p) := rfl
theorem aAct_s (p : Nat) : aAct A (p + 1) = aAct A p + (if aT A (aR A p) = true then 1 else 0) := rfl
theorem aBeg_mono {p q : Nat} (h : p ≤ q) : aBeg A p ≤ aBeg A q := aS_mono h
theorem aAct_mono {p q : Nat} (h : p ≤ q) : aAct A p ≤ aAct A q := aS_mono h
theorem pu_atB (hO : aOk A) {i : Nat} (hi : i < aN A) : aAtB A (aBeg A i) = i := by
  have h1 : ¬ i < aAtB A (aBeg A i) := fun z => by
    have := ((aAtB_lt A (aBeg A i) i).mp z).2
    rw [aBeg_s] at this
    have := hO.b hi
    omega
  have h2 : ¬ aAtB A (aBeg A i) < i := fun z => by
    have h3 := (aAtB_lt A (aBeg A i) (aAtB A (aBeg A i))).mpr ⟨by omega, aBeg_mono (by omega)⟩
    omega
  omega
theorem pu_atE (hO : aOk A) : aAtB A (aBeg A (aN A)) = aN A := by
  have h2 : ¬ aAtB A (aBeg A (aN A)) < aN A := fun z => by
    have h3 := (aAtB_lt A (aBeg A (aN A)) (aAtB A (aBeg A (aN A)))).mpr ⟨z, aBeg_mono (by omega)⟩
    omega
  have := aAtB_le A (aBeg A (aN A))
  omega
/-! acts -/
theorem aAct_le1 (p : Nat) : aAct A p ≤ aAct A (p + 1) ∧ aAct A (p + 1) ≤ aAct A p + 1 := by
  rw [aAct_s]; split <;> omega
theorem pu_act {a : Nat} (ha : a < aActs A) : aSt A a < aSt A (a + 1) ∧ aSt A (a + 1) ≤ aN A ∧ aAct A (aSt A (a + 1) - 1) = a ∧ (aT A (aR A (aSt A (a + 1) - 1)) = true ↔ a < aAct A (aN A)) ∧ (aAct A (aN A) ≤ a → a + 1 = aActs A) := by
  unfold aActs at ha ⊢
  by_cases h0 : aN A = 0
  · rw [if_pos h0] at ha; omega
  rw [if_neg h0] at ha ⊢
  have hS := aSt_le A (a + 1)
  have hS0 : 0 < aSt A (a + 1) := (aSt_lt A (a + 1) 0).mpr ⟨by omega, by show 0 < a + 1; omega⟩
  obtain ⟨L, hL⟩ : ∃ L, aSt A (a + 1) = L + 1 := ⟨aSt A (a + 1) - 1, by omega⟩
  have hL1 := (aSt_lt A (a + 1) L).mp (by omega)
  have hs := aAct_s (A := A) L
  have hno : aN A = L + 1 ∨ (L + 1 < aN A ∧ a + 1 ≤ aAct A (L + 1)) := by
    by_cases e : aN A = L + 1
    · exact Or.inl e
    · refine Or.inr ⟨by omega, Nat.not_lt.mp fun z => ?_⟩
      have := (aSt_lt A (a + 1) (L + 1)).mpr ⟨by omega, z⟩
      omega
  have hLa : aAct A L = a := by
    rcases hno with e | ⟨e1, e2⟩
    · rw [e, Nat.add_sub_cancel] at ha; omega
    · split at hs <;> omega
  have hst : aSt A a ≤ L := Nat.not_lt.mp fun z => by
    have := ((aSt_lt A a L).mp z).2
    omega
  rw [hL, Nat.add_sub_cancel]
  refine ⟨by omega, by omega, hLa, ?_, ?_⟩
  · rcases hno with e | ⟨e1, e2⟩
    · rw [e, hs, hLa]
      by_cases ht : aT A (aR A L) = true
      · rw [if_pos ht]; exact ⟨fun _ => by omega, fun _ => ht⟩
      · rw [if_neg ht]; exact ⟨fun z => absurd z ht, fun z => by omega⟩
    · have hm := aAct_mono (A := A) (show L + 1 ≤ aN A by omega)
      refine ⟨fun _ => by omega, fun _ => ?_⟩
      by_cases ht : aT A (aR A L) = true
      · exact ht
      · rw [if_neg ht] at hs; omega
  · intro z
    rcases hno with e | ⟨e1, e2⟩
    · rw [e, Nat.add_sub_cancel, hLa]
    · have hm := aAct_mono (A := A) (show L + 1 ≤ aN A by omega)
      omega
theorem aSt_0 : aSt A 0 = 0 := by
  by_cases h : 0 < aSt A 0
  · have := ((aSt_lt A 0 0).mp h).2
    omega
  · omega
theorem aSt_all : aSt A (aActs A) = aN A := by
  have h := aSt_le A (aActs A)
  by_cases h0 : aN A = 0
  · omega
  · have h1 := (aSt_lt A (aActs A) (aN A - 1)).mpr ⟨by omega, by unfold aActs; rw [if_neg h0]; omega⟩
    omega
theorem pu_turns : aAct A (aN A) ≤ aActs A ∧ aActs A ≤ aAct A (aN A) + 1 := by
  unfold aActs
  by_cases h0 : aN A = 0
  · rw [if_pos h0, h0]
    exact ⟨Nat.le_refl 0, Nat.zero_le _⟩
  · rw [if_neg h0]
    have := aAct_le1 (A := A) (aN A - 1)
    rw [show aN A - 1 + 1 = aN A by omega] at this
    omega
/-! how far all acts are off -/
def ofs (A : axAD) : Nat → Nat := aS (fun a => (aOff A a).natAbs)
theorem ofs_s (a : Nat) : ofs A (a + 1) = ofs A a + (aOff A a).natAbs := rfl
theorem aSt_at {c p : Nat} (hp : p ≤ aN A) (h1 : ∀ q, q < p → aAct A q < c) (h2 : p < aN A → c ≤ aAct A p) : aSt A c = p := by
  have a1 : ¬ aSt A c < p := fun z => by
    have := (aSt_lt A c (aSt A c)).mpr ⟨by omega, h1 _ z⟩
    omega
  have a2 : ¬ p < aSt A c := fun z => by
    have := (aSt_lt A c p).mp z
    have := h2 this.1
    omega
  omega
theorem aFo_inv (p : Nat) : p ≤ aN A → (aFo A p).1 = ofs A (aAct A p) ∧ (aFo A p).2.1 = aAct A p ∧ (aFo A p).2.2.1 = aBeg A p - aBeg A (aSt A (aAct A p)) ∧ aSt A (aAct A p) ≤ p ∧ ((aFo A p).2.2.2 = true ↔ aSt A (aAct A p) < p) := by
  induction p with
  | zero =>
    intro _
    have e : aAct A 0 = 0 := rfl
    rw [e, aSt_0]
    exact ⟨rfl, rfl, (Nat.sub_self _).symm, Nat.le_refl _, ⟨fun z => (by cases z), fun z => by omega⟩⟩
  | succ p ih =>
    intro hp
    obtain ⟨i1, i2, i3, i4, i5⟩ := ih (by omega)
    have hb := aBeg_s (A := A) p
    have hm := aBeg_mono (A := A) i4
    have hs := aAct_s (A := A) p
    rw [aFo]
    by_cases ht : aT A (aR A p) = true
    · rw [if_pos ht] at hs ⊢
      have hst : aSt A (aAct A p + 1) = p + 1 := aSt_at hp (fun q hq => by have := aAct_mono (A := A) (show q ≤ p by omega); omega) (fun _ => by omega)
      rw [hs, hst]
      refine ⟨?_, by rw [i2], (Nat.sub_self _).symm, Nat.le_refl _, ⟨fun z => (by cases z), fun z => by omega⟩⟩
      show (aFo A p).1 + _ = _
      rw [i1, ofs_s, i2, i3, show aBeg A p - aBeg A (aSt A (aAct A p)) + aB A (aR A p) = aBeg A (p + 1) - aBeg A (aSt A (aAct A p)) by omega]
      unfold aOff
      rw [hst]
    · rw [if_neg ht] at hs ⊢
      rw [show aAct A (p + 1) = aAct A p from hs]
      refine ⟨i1, i2, ?_, by omega, ⟨fun _ => by omega, fun _ => rfl⟩⟩
      show (aFo A p).2.2.1 + aB A (aR A p) = _
      rw [i3]; omega
theorem aAll_ofs : aAll A = ofs A (aActs A) := by
  obtain ⟨i1, i2, i3, i4, i5⟩ := aFo_inv (A := A) (aN A) (Nat.le_refl _)
  unfold aAll
  by_cases h : aSt A (aAct A (aN A)) < aN A
  · rw [if_pos (i5.mpr h)]
    have h0 : aN A ≠ 0 := by omega
    have hge : aAct A (aN A) ≤ aAct A (aN A - 1) := Nat.not_lt.mp fun z => by
      have := (aSt_lt A (aAct A (aN A)) (aN A - 1)).mpr ⟨by omega, z⟩
      omega
    have hle := aAct_mono (A := A) (show aN A - 1 ≤ aN A by omega)
    have hac : aActs A = aAct A (aN A) + 1 := by unfold aActs; rw [if_neg h0]; omega
    have hst : aSt A (aAct A (aN A) + 1) = aN A := by rw [← hac]; exact aSt_all
    rw [hac, ofs_s, i1, i2, i3]
    unfold aOff
    rw [hst]
  · have h4 : aSt A (aAct A (aN A)) = aN A := by omega
    rw [if_neg (fun z => h (i5.mp z)), i1]
    congr 1
    unfold aActs
    by_cases h0 : aN A = 0
    · rw [if_pos h0, h0]; rfl
    · rw [if_neg h0]
      have h5 := ((aSt_lt A (aAct A (aN A)) (aN A - 1)).mp (by omega)).2
      have h6 := aAct_le1 (A := A) (aN A - 1)
      rw [show aN A - 1 + 1 = aN A by omega] at h6
      omega
theorem aLng_0 (h : aN A = 0) : (aLng A (aN A)).1 = -6 := by rw [h]; rfl
theorem aLng_n (hO : aOk A) : ∀ p, p < aN A → ∃ k, k < 24 ∧ (aLng A (p + 1)).1 = nI k ∧ 0 < (aLng A (p + 1)).2
  | 0, hp => by
    have hb := hO.b hp
    refine ⟨aR A 0, hO.r hp, ?_, ?_⟩ <;> rw [aLng, if_pos (show (aLng A 0).2 < aB A (aR A 0) by show 0 < _; omega)]
    show 0 < aB A (aR A 0)
    omega
  | p + 1, hp => by
    obtain ⟨k, h1, h2, h3⟩ := aLng_n hO p (by omega)
    have hb := hO.b hp
    rw [aLng]
    split
    · exact ⟨aR A (p + 1), hO.r hp, rfl, by show 0 < aB A (aR A (p + 1)); omega⟩
    · exact ⟨k, h1, h2, h3⟩
end AX50
