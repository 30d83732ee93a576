/-! What holds of every board goes on to hold after every change. -/
/-- the place p needs the place b -/
def nd (A : axAD) (a b : Nat) : Bool := bt (aD A (aR A a)) (aR A b)
theorem nd_lt {A : axAD} (hO : aOk A) {a b : Nat} (ha : a < aN A) (hb : b < aN A) (h : nd A a b = true) : b < a := by
  obtain ⟨j, hj, e⟩ := hO.d ha h
  have := hO.inj (show j < aN A by omega) hb e
  omega
theorem aLo_iff {A : axAD} {p q : Nat} : aLo A p ≤ q ↔ ∀ b, b < aN A → nd A p b = true → b < q := by
  have key : ∀ n, aLoF A (aD A (aR A p)) n ≤ q ↔ ∀ b, b < n → nd A p b = true → b < q := by
    intro n
    induction n with
    | zero => exact ⟨fun _ b hb => absurd hb (by omega), fun _ => Nat.zero_le _⟩
    | succ n ih =>
      rw [aLoF]
      by_cases e : bt (aD A (aR A p)) (aR A n) = true
      · rw [if_pos e]
        exact ⟨fun h b hb _ => by omega, fun h => h n (by omega) e⟩
      · rw [if_neg e, ih]
        exact ⟨fun h b hb hn => by
          by_cases e2 : b = n
          · subst e2; exact absurd hn e
          · exact h b (by omega) hn, fun h b hb hn => h b (by omega) hn⟩
  exact key _
theorem aHi_iff {A : axAD} {p q : Nat} (hq : q < aN A) : q < aHi A p ↔ ∀ a, a < aN A → nd A a p = true → q < a := by
  constructor
  · intro h a ha hn
    have := aFst_lt (f := fun i => bt (aD A (aR A i)) (aR A p)) ha hn
    have h : q < aFst (fun i => bt (aD A (aR A i)) (aR A p)) (aN A) := h
    omega
  · intro h
    by_cases e : aHi A p < aN A
    · exact h _ e (aFst_yes (fun i => bt (aD A (aR A i)) (aR A p)) (aN A) e)
    · omega
/-- is each slug behind all that it needs, in the row r -/
def aOrd (A : axAD) (r : Nat → Nat) : Prop := ∀ i k, i < aN A → bt (aD A (r i)) k = true → ∃ j, j < i ∧ r j = k
theorem aRow_ord {A : axAD} (hO : aOk A) {r π : Nat → Nat} (h1 : ∀ a, a < aN A → π a < aN A ∧ r (π a) = aR A a) (h2 : ∀ i, i < aN A → ∃ a, a < aN A ∧ π a = i) : aOrd A r ↔ ∀ a b, a < aN A → b < aN A → nd A a b = true → π b < π a := by
  constructor
  · intro h a b ha hb hn
    obtain ⟨j, hj, e⟩ := h (π a) (aR A b) (h1 a ha).1 (by rw [(h1 a ha).2]; exact hn)
    obtain ⟨c, hc, e2⟩ := h2 j (by have := (h1 a ha).1; omega)
    have : c = b := hO.inj hc hb (by rw [← (h1 c hc).2, e2, e])
    rw [← this, e2]; exact hj
  · intro h i k hi hn
    obtain ⟨a, ha, e⟩ := h2 i hi
    rw [← e, (h1 a ha).2] at hn
    obtain ⟨b, hb, e2⟩ := hO.d ha hn
    refine ⟨π b, ?_, by rw [(h1 b (by omega)).2, e2]⟩
    rw [← e]
    exact h a b ha (by omega) (by unfold nd; rw [e2]; exact hn)
theorem aOk_row {A : axAD} (hO : aOk A) {r π : Nat → Nat} (h1 : ∀ a, a < aN A → π a < aN A ∧ r (π a) = aR A a) (h2 : ∀ i, i < aN A → ∃ a, a < aN A ∧ π a = i) (ho : aOrd A r) : aOk (aRow A r) := by
  have hr : ∀ i, i < aN A → ∃ a, a < aN A ∧ π a = i ∧ r i = aR A a := fun i hi => by
    obtain ⟨a, ha, e⟩ := h2 i hi
    exact ⟨a, ha, e, by rw [← e]; exact (h1 a ha).2⟩
  obtain ⟨o1, o2, o3, o4, o5, o6⟩ := hO
  refine ⟨o1, fun i hi => ?_, fun i j hi hj e => ?_, fun i hi => ?_, ho, o6⟩
  · obtain ⟨a, ha, -, e⟩ := hr i hi
    show r i < 24
    rw [e]; exact o2 a ha
  · obtain ⟨a, ha, ea, e1⟩ := hr i hi
    obtain ⟨b, hb, eb, e2⟩ := hr j hj
    have : a = b := o3 a b ha hb (by rw [← e1, ← e2]; exact e)
    rw [← ea, ← eb, this]
  · obtain ⟨a, ha, -, e⟩ := hr i hi
    show 1 ≤ aB A (r i) ∧ aB A (r i) ≤ aW A (r i) ∧ aW A (r i) ≤ 99
    rw [e]; exact o4 a ha
/-- where places go when p moves to q -/
def mvP (p q a : Nat) : Nat := if a = p then q else if a < p then (if a < q then a else a + 1) else (if a - 1 < q then a - 1 else a)
theorem mvP_is {A : axAD} {p q : Nat} (hp : p < aN A) (hq : q < aN A) : ∀ a, a < aN A → mvP p q a < aN A ∧ aIns (aDel (aR A) p) q (aR A p) (mvP p q a) = aR A a := by
  intro a ha
  unfold mvP
  by_cases e : a = p
  · rw [if_pos e, aIns_at, e]; exact ⟨hq, rfl⟩
  · rw [if_neg e]
    by_cases e2 : a < p
    · rw [if_pos e2]
      by_cases e3 : a < q
      · rw [if_pos e3]; refine ⟨ha, ?_⟩
        unfold aIns aDel; rw [if_pos e3, if_pos e2]
      · rw [if_neg e3]; refine ⟨by omega, ?_⟩
        unfold aIns aDel; rw [if_neg (by omega), if_neg (by omega), if_pos (by omega)]; rfl
    · rw [if_neg e2]
      by_cases e3 : a - 1 < q
      · rw [if_pos e3]; refine ⟨by omega, ?_⟩
        unfold aIns aDel; rw [if_pos e3, if_neg (by omega), show a - 1 + 1 = a by omega]
      · rw [if_neg e3]; refine ⟨ha, ?_⟩
        unfold aIns aDel; rw [if_neg (by omega), if_neg (by omega), if_neg (by omega), show a - 1 + 1 = a by omega]
theorem mvP_has {n p q : Nat} (hp : p < n) (hq : q < n) : ∀ i, i < n → ∃ a, a < n ∧ mvP p q a = i := by
  intro i hi
  by_cases e : i = q
  · exact ⟨p, hp, by unfold mvP; rw [if_pos rfl, e]⟩
  · by_cases e1 : i < q
    · by_cases e2 : i < p
      · exact ⟨i, hi, by unfold mvP; rw [if_neg (by omega), if_pos e2, if_pos e1]⟩
      · exact ⟨i + 1, by omega, by unfold mvP; rw [if_neg (by omega), if_neg (by omega), if_pos (by omega)]; omega⟩
    · by_cases e2 : i ≤ p
      · exact ⟨i - 1, by omega, by unfold mvP; rw [if_neg (by omega), if_pos (by omega), if_neg (by omega)]; omega⟩
      · exact ⟨i, hi, by unfold mvP; rw [if_neg (by omega), if_neg (by omega), if_neg (by omega)]⟩
theorem aMove_ord {A : axAD} (hO : aOk A) {p q : Nat} (hp : p < aN A) (hq : q < aN A) : aOrd A (aIns (aDel (aR A) p) q (aR A p)) ↔ (aLo A p ≤ q ∧ q < aHi A p) := by
  rw [aRow_ord hO (mvP_is hp hq) (mvP_has hp hq), aLo_iff, aHi_iff hq]
  constructor
  · intro h
    constructor
    · intro b hb hn
      have h1 := nd_lt hO hp hb hn
      have h2 := h p b hp hb hn
      unfold mvP at h2
      rw [if_neg (by omega), if_pos rfl, if_pos h1] at h2
      split at h2 <;> omega
    · intro a ha hn
      have h1 := nd_lt hO ha hp hn
      have h2 := h a p ha hp hn
      unfold mvP at h2
      rw [if_pos rfl, if_neg (by omega), if_neg (by omega)] at h2
      split at h2 <;> omega
  · rintro ⟨g1, g2⟩ a b ha hb hn
    have h1 := nd_lt hO ha hb hn
    by_cases ea : a = p
    · subst ea
      have := g1 b hb hn
      unfold mvP
      rw [if_neg (by omega), if_pos rfl, if_pos h1, if_pos this]; exact this
    · by_cases eb : b = p
      · subst eb
        have := g2 a ha hn
        unfold mvP
        rw [if_pos rfl, if_neg ea, if_neg (by omega), if_neg (by omega)]; exact this
      · unfold mvP
        rw [if_neg ea, if_neg eb]
        split <;> split <;> split <;> (try split) <;> omega
theorem aOk_move {A : axAD} (hO : aOk A) {p q : Nat} (hp : p < aN A) (hq : q < aN A) (h : aLo A p ≤ q ∧ q < aHi A p) : aOk (aMove A p q) :=
  aOk_row hO (mvP_is hp hq) (mvP_has hp hq) ((aMove_ord hO hp hq).mpr h)
def swP (p q a : Nat) : Nat := if a = p then q else if a = q then p else a
theorem swP_is {A : axAD} {p q : Nat} (hp : p < aN A) (hq : q < aN A) : ∀ a, a < aN A → swP p q a < aN A ∧ (fun i => if i = p then aR A q else if i = q then aR A p else aR A i) (swP p q a) = aR A a := by
  intro a ha
  show swP p q a < aN A ∧ (if swP p q a = p then aR A q else if swP p q a = q then aR A p else aR A (swP p q a)) = aR A a
  unfold swP
  by_cases e : a = p
  · rw [if_pos e]
    refine ⟨hq, ?_⟩
    by_cases e2 : q = p
    · rw [if_pos e2, e, e2]
    · rw [if_neg e2, if_pos rfl, e]
  · rw [if_neg e]
    by_cases e2 : a = q
    · rw [if_pos e2]; exact ⟨hp, by rw [if_pos rfl, e2]⟩
    · rw [if_neg e2, if_neg e, if_neg e2]; exact ⟨ha, rfl⟩
theorem swP_has {n p q : Nat} (hp : p < n) (hq : q < n) : ∀ i, i < n → ∃ a, a < n ∧ swP p q a = i := by
  intro i hi
  unfold swP
  by_cases e : i = q
  · exact ⟨p, hp, by rw [if_pos rfl, e]⟩
  · by_cases e2 : i = p
    · exact ⟨q, hq, by
        by_cases e3 : q = p
        · rw [if_pos e3, e2, e3]
        · rw [if_neg e3, if_pos rfl, e2]⟩
    · exact ⟨i, hi, by rw [if_neg e2, if_neg e]⟩
theorem aSwp_ord {A : axAD} (hO : aOk A) {p q : Nat} (hp : p < aN A) (hq : q < aN A) (hpq : p ≠ q) : aOrd A (fun i => if i = p then aR A q else if i = q then aR A p else aR A i) ↔ aMay A p q := by
  rw [aRow_ord hO (swP_is hp hq) (swP_has hp hq)]
  unfold aMay
  rw [aLo_iff, aHi_iff hq, aLo_iff, aHi_iff hp]
  constructor
  · intro h
    refine ⟨⟨fun b hb hn => ?_, fun a ha hn => ?_⟩, fun b hb hn => ?_, fun a ha hn => ?_⟩
    · have h1 := nd_lt hO hp hb hn
      have h2 := h p b hp hb hn
      unfold swP at h2
      rw [if_pos rfl, if_neg (by omega)] at h2
      split at h2 <;> omega
    · have h1 := nd_lt hO ha hp hn
      have h2 := h a p ha hp hn
      unfold swP at h2
      rw [if_pos rfl, if_neg (by omega)] at h2
      split at h2 <;> omega
    · have h1 := nd_lt hO hq hb hn
      have h2 := h q b hq hb hn
      unfold swP at h2
      rw [if_neg (show ¬ q = p from fun z => hpq z.symm), if_pos (show q = q from rfl)] at h2
      split at h2
      · omega
      · rw [if_neg (by omega)] at h2; omega
    · have h1 := nd_lt hO ha hq hn
      have h2 := h a q ha hq hn
      unfold swP at h2
      rw [if_neg (show ¬ q = p from fun z => hpq z.symm), if_pos (show q = q from rfl)] at h2
      split at h2
      · omega
      · rw [if_neg (by omega)] at h2; omega
  · rintro ⟨⟨g1, g2⟩, g3, g4⟩ a b ha hb hn
    have h1 := nd_lt hO ha hb hn
    unfold swP
    by_cases ea : a = p
    · subst ea
      have := g1 b hb hn
      rw [if_pos rfl, if_neg (by omega), if_neg (by omega)]; exact this
    · rw [if_neg ea]
      by_cases ea2 : a = q
      · subst ea2
        have := g3 b hb hn
        rw [if_pos rfl, if_neg (by omega), if_neg (by omega)]; exact this
      · rw [if_neg ea2]
        by_cases eb : b = p
        · subst eb
          rw [if_pos rfl]; exact g2 a ha hn
        · rw [if_neg eb]
          by_cases eb2 : b = q
          · subst eb2
            rw [if_pos rfl]; exact g4 a ha hn
          · rw [if_neg eb2]; exact h1
theorem aOk_swp {A : axAD} (hO : aOk A) {p q : Nat} (hp : p < aN A) (hq : q < aN A) (hpq : p ≠ q) (h : aMay A p q) : aOk (aSwp A p q) :=
  aOk_row hO (swP_is hp hq) (swP_has hp hq) ((aSwp_ord hO hp hq hpq).mpr h)
theorem aOk_setS {A : axAD} (hO : aOk A) {j v : Nat} (hj : j < 3) (h1 : aLs j ≤ v) (h2 : v ≤ aMs j) : aOk (aSetS A j v) := by
  obtain ⟨o1, o2, o3, o4, o5, o6, o7, o8, o9⟩ := hO
  refine ⟨o1, o2, o3, o4, o5, ?_, ?_, ?_, o9⟩
  · show 4 ≤ (if j = 0 then v else aPg A) ∧ (if j = 0 then v else aPg A) ≤ 60
    by_cases e : j = 0
    · subst e; rw [if_pos rfl]; exact ⟨h1, h2⟩
    · rw [if_neg e]; exact o6
  · show (if j = 1 then v else aSl A) ≤ 20
    by_cases e : j = 1
    · subst e; rw [if_pos rfl]; exact h2
    · rw [if_neg e]; exact o7
  · show (if j = 2 then v else aTr A) ≤ 90
    by_cases e : j = 2
    · subst e; rw [if_pos rfl]; exact h2
    · rw [if_neg e]; exact o8
theorem aOk_setT {A : axAD} (hO : aOk A) {a v : Nat} (h1 : 1 ≤ v) (h2 : v ≤ 999) : aOk (aSetT A a v) := by
  obtain ⟨o1, o2, o3, o4, o5, o6, o7, o8, o9⟩ := hO
  refine ⟨o1, o2, o3, o4, o5, o6, o7, o8, fun b hb => ?_⟩
  show 1 ≤ va_up (aTg A) a v b ∧ va_up (aTg A) a v b ≤ 999
  by_cases e : b = a
  · rw [e, va_is]; exact ⟨h1, h2⟩
  · rw [va_no e]; exact o9 b hb
theorem aOk_flip {A : axAD} (hO : aOk A) (k : Nat) : aOk (aFlip A k) := hO
theorem aOk_setD {A : axAD} (hO : aOk A) {p : Nat} (hp : p < aN A) {x : Int32} (h : ∀ k, bt x k = true → ∃ j, j < p ∧ aR A j = k) : aOk (aSetD A (aR A p) x) := by
  have inj : ∀ j, j < aN A → aR A p = aR A j → p = j := fun j hj e => hO.inj hp hj e
  obtain ⟨o1, o2, o3, o4, o5, o6⟩ := hO
  refine ⟨o1, o2, o3, o4, fun i k hi hb => ?_, o6⟩
  have hb : bt (va_up (aD A) (aR A p) x (aR A i)) k = true := hb
  by_cases e : aR A i = aR A p
  · have : i = p := (inj i hi e.symm).symm
    subst this
    rw [va_is] at hb
    exact h k hb
  · rw [va_no e] at hb
    exact o5 i k hi hb
theorem aOk_need {A : axAD} (hO : aOk A) {i j : Nat} (hi : i < aN A) (hj : j < aN A) (hb : bt (aD A (aR A i)) (aR A j) = true ∨ j < i) : aOk (aSetD A (aR A i) (aD A (aR A i) ^^^ bi (aR A j))) := by
  have hk := hO.r hj
  refine aOk_setD hO hi fun k hk2 => ?_
  rw [bt_flp (by omega)] at hk2
  by_cases e : k = aR A j
  · rcases hb with hb | hb
    · rw [e, hb, decide_eq_true rfl] at hk2; cases hk2
    · exact ⟨j, hb, e.symm⟩
  · rw [decide_eq_false e, Bool.xor_false] at hk2
    exact hO.d hi hk2
