/-! THE CLASS: changes of the board (3): slugs go, come, are moved, are swapped. -/
def aIns (r : Nat → Nat) (p k : Nat) : Nat → Nat := fun i => if i < p then r i else if i = p then k else r (i - 1)
def aDel (r : Nat → Nat) (p : Nat) : Nat → Nat := fun i => if i < p then r i else r (i + 1)
theorem aDel_is (r : Nat → Nat) {p i n : Nat} (hi : i < n - 1) (hp : p < n) : ∃ j, j < n ∧ j ≠ p ∧ aDel r p i = r j := by
  unfold aDel
  by_cases h : i < p
  · exact ⟨i, by omega, by omega, by rw [if_pos h]⟩
  · exact ⟨i + 1, by omega, by omega, by rw [if_neg h]⟩
theorem aDel_has (r : Nat → Nat) {p j n : Nat} (hj : j < n) (hjp : j ≠ p) (hp : p < n) : ∃ i, i < n - 1 ∧ aDel r p i = r j := by
  unfold aDel
  by_cases h : j < p
  · exact ⟨j, by omega, by rw [if_pos h]⟩
  · exact ⟨j - 1, by omega, by rw [if_neg (by omega), show j - 1 + 1 = j by omega]⟩
theorem aIns_is (r : Nat → Nat) {p k i n : Nat} (hi : i < n + 1) (hp : p ≤ n) : (i = p ∧ aIns r p k i = k) ∨ ∃ j, j < n ∧ aIns r p k i = r j := by
  unfold aIns
  by_cases h : i < p
  · exact Or.inr ⟨i, by omega, by rw [if_pos h]⟩
  · by_cases h2 : i = p
    · exact Or.inl ⟨h2, by rw [if_neg h, if_pos h2]⟩
    · exact Or.inr ⟨i - 1, by omega, by rw [if_neg h, if_neg h2]⟩
theorem aIns_at (r : Nat → Nat) (p k : Nat) : aIns r p k p = k := by unfold aIns; rw [if_neg (by omega), if_pos rfl]
theorem aIns_has (r : Nat → Nat) {p k j n : Nat} (hj : j < n) (hp : p ≤ n) : ∃ i, i < n + 1 ∧ i ≠ p ∧ aIns r p k i = r j := by
  unfold aIns
  by_cases h : j < p
  · exact ⟨j, by omega, by omega, by rw [if_pos h]⟩
  · exact ⟨j + 1, by omega, by omega, by rw [if_neg (by omega), if_neg (by omega), Nat.add_sub_cancel]⟩
def aDrop (A : axAD) (p : Nat) : axAD := (aN A - 1, aDel (aR A) p, aW A, aB A, fun k => aD A k &&& (bi (aR A p) ^^^ (-1)), aT A, aPg A, aSl A, aTr A, aTg A)
def aAdd (A : axAD) (p v k : Nat) (t : Bool) : axAD := (aN A + 1, aIns (aR A) p k, va_up (aW A) k v, va_up (aB A) k v, va_up (aD A) k 0, va_up (aT A) k t, aPg A, aSl A, aTr A, aTg A)
def aRow (A : axAD) (r : Nat → Nat) : axAD := (aN A, r, aW A, aB A, aD A, aT A, aPg A, aSl A, aTr A, aTg A)
def aMove (A : axAD) (p q : Nat) : axAD := aRow A (aIns (aDel (aR A) p) q (aR A p))
def aSwp (A : axAD) (p q : Nat) : axAD := aRow A (fun i => if i = p then aR A q else if i = q then aR A p else aR A i)
/-- is it there; the lowest number that is free -/
def aPr (A : axAD) (k : Nat) : Bool := decide (aFst (fun i => decide (aR A i = k)) (aN A) < aN A)
def aFr (A : axAD) : Nat := aFst (fun k => !aPr A k) 24
theorem aPr_iff (A : axAD) (k : Nat) : aPr A k = true ↔ aIn A k := by
  unfold aPr aIn
  rw [decide_eq_true_eq]
  constructor
  · intro h
    exact ⟨_, h, of_decide_eq_true (aFst_yes (fun i => decide (aR A i = k)) (aN A) h)⟩
  · rintro ⟨i, hi, e⟩
    have := aFst_lt (f := fun i => decide (aR A i = k)) hi (decide_eq_true e)
    omega
section AX24
variable {ro : axRo} {d : Nat} {h h1 : axH} {B : axBD} {Y : axYD} {sl : Nat → Option Nat} {P : axPD} {G : axGD} {tl : axH} {A : axAD}
theorem aFr_lt (hO : aOk A) (hn : aN A < 24) : aFr A < 24 := by
  rcases Nat.lt_or_ge (aFr A) 24 with h | h
  · exact h
  · have hle : aFr A ≤ 24 := aFst_le _ _
    have all : ∀ k, k < 24 → aPr A k = true := fun k hk => by
      have := aFst_no (fun k => !aPr A k) 24 k (by unfold aFr at h; omega)
      simpa using this
    have h1 := bc_row (r := aR A) (t := fun _ => true) (N := 24) (fun i hi => hO.r hi) (fun i j hi hj e => hO.inj hi hj e) (aN A) (Nat.le_refl _) (fun k => aPr A k) (fun k => by
      rw [aPr_iff]
      constructor
      · rintro ⟨i, hi, e⟩; exact ⟨i, hi, e, rfl⟩
      · rintro ⟨i, hi, e, _⟩; exact ⟨i, hi, e⟩)
    have h2 : bc (fun k => aPr A k) 24 = 24 := by
      have : ∀ N, N ≤ 24 → bc (fun k => aPr A k) N = N := by
        intro N
        induction N with
        | zero => intro _; rfl
        | succ N ih => intro hN; rw [bc, ih (by omega), if_pos (all N (by omega))]
      exact this 24 (Nat.le_refl _)
    have h3 : aS (fun i => if (fun _ : Nat => true) (aR A i) = true then 1 else 0) (aN A) ≤ aN A * 1 := aS_le _ (fun i _ => by simp)
    rw [h1] at h2
    have h4 := Nat.le_trans (Nat.le_of_eq h2.symm) h3
    omega
theorem aFr_free (hO : aOk A) (hn : aN A < 24) : ¬ aIn A (aFr A) := by
  have := aFst_yes (fun k => !aPr A k) 24 (aFr_lt hO hn)
  intro h
  have h2 := (aPr_iff A (aFr A)).mpr h
  unfold aFr at h2
  simp only [h2] at this
  cases this
theorem cr_pr (hC : CR B A) (k : Nat) : bt (bSg B) k = aPr A k := by
  have h1 := cr_sg hC k
  have h2 := aPr_iff A k
  cases h3 : bt (bSg B) k <;> cases h4 : aPr A k <;> simp_all
theorem x0_lowestFree (hO : aOk A) (hC : CR B A) (hn : aN A < 24) : axEv ro (d + 2) kX0_lowestFree [.ref 1] (hX B Y sl P G tl) (some (.int (nI (aFr A)))) (hX B Y sl P G tl) := by
  have hlt := aFr_lt hO hn
  have loop : ∀ m q, q + m = aFr A → axW ro (axEv ro (d + 1)) cdX0_lowestFree 5 [some (.ref 1), some (.int (nI q))] [.int 24, .int (nI q)] (hX B Y sl P G tl) (fun r' h' => r' = some (.int (nI (aFr A))) ∧ h' = (hX B Y sl P G tl)) := by
    intro m
    induction m with
    | zero =>
      intro q e
      have e : q = aFr A := by omega
      refine wp_icge rfl (fun hz_ => absurd hz_ (nlt24 (show q < 24 by omega))) (fun _ => ?_)
      refine wp_run rfl ?_
      refine wp_s2 rfl (Nat.le_of_ble_eq_true rfl) (x4_contains_in (show q < 24 by omega)) ?_
      refine wp_run rfl ?_
      have h2 : aPr A q = false := by
        have := aFst_yes (fun k => !aPr A k) 24 hlt
        rw [e]; simpa [aFr] using this
      rw [if_neg (by rw [cr_pr hC, h2]; decide)]
      refine wp_ifne rfl (fun hz_ => absurd hz_ (fun z => z rfl)) (fun _ => ?_)
      refine wp_run rfl ?_
      rw [e]
      exact wp_ret rfl rfl ⟨rfl, rfl⟩
    | succ m ih =>
      intro q e
      refine wp_icge rfl (fun hz_ => absurd hz_ (nlt24 (show q < 24 by omega))) (fun _ => ?_)
      refine wp_run rfl ?_
      refine wp_s2 rfl (Nat.le_of_ble_eq_true rfl) (x4_contains_in (show q < 24 by omega)) ?_
      refine wp_run rfl ?_
      have h2 : aPr A q = true := by
        have := aFst_no (fun k => !aPr A k) 24 q (by unfold aFr at e; omega)
        simpa using this
      rw [if_pos (by rw [cr_pr hC, h2])]
      refine wp_ifne rfl (fun _ => ?_) (fun hz_ => absurd ((by decide : ¬ (1 : Int32) = 0)) hz_)
      refine wp_run rfl ?_
      rw [nI_1]
      exact ih (q + 1) (by omega)
  refine ev_in rfl rfl (Nat.le_of_ble_eq_true rfl) rfl ?_
  refine wp_run rfl ?_
  exact loop (aFr A) 0 (by omega)
/-- a new slug's arrays, the row included -/
def bAdd (B : axBD) (n p v k : Nat) : axBD := (bSt B, bTg B, upd (pnF (bRw B) p n) p (nI k), upd (bWr B) k (nI v), upd (bBt B) k (nI v), upd (bNd B) k 0, bSg B ||| bi k, bTn B, nI (n + 1))
theorem x0_makeSlug (hO : aOk A) (hC : CR B A) {p v : Nat} (hn : aN A < 24) (hp : p ≤ aN A) : axEv ro (d + 3) kX0_makeSlug [.ref 1, .int (nI p), .int (nI v)] (hX B Y sl P G tl) (some (.int (nI (aFr A)))) (hX (bAdd B (aN A) p v (aFr A)) Y sl P G tl) := by
  have hlt := aFr_lt hO hn
  have hz := cr_sz hC
  refine ev_in rfl rfl (Nat.le_of_ble_eq_true rfl) rfl ?_
  refine wp_run rfl ?_
  refine wp_v0 rfl rfl (Nat.le_of_ble_eq_true rfl) (x0_lowestFree hO hC hn) ?_
  refine wp_run rfl ?_
  refine wp_s1 rfl (Nat.le_of_ble_eq_true rfl) (x4_bit hlt) ?_
  refine wp_run rfl ?_
  refine wp_putf (h1 := hX (bSg_ B (bSg B ||| bi (aFr A))) Y sl P G tl) rfl rfl (Nat.le_of_ble_eq_true rfl) ⟨rfl, rfl, fun _ hz_ => by cases hz_⟩ rfl ?_
  refine wp_run rfl ?_
  refine wp_s3v rfl (Nat.le_of_ble_eq_true rfl) (x4_store (h1 := hX (bWr_ (bSg_ B (bSg B ||| bi (aFr A))) (upd (bWr B) (aFr A) (nI v))) Y sl P G tl) rfl hlt (by decide) rfl) ?_
  refine wp_run rfl ?_
  refine wp_s3v rfl (Nat.le_of_ble_eq_true rfl) (x4_store (h1 := hX (bBt_ (bWr_ (bSg_ B (bSg B ||| bi (aFr A))) (upd (bWr B) (aFr A) (nI v))) (upd (bBt B) (aFr A) (nI v))) Y sl P G tl) rfl hlt (by decide) rfl) ?_
  refine wp_run rfl ?_
  refine wp_s3v rfl (Nat.le_of_ble_eq_true rfl) (x4_store (h1 := hX (bNd_ (bBt_ (bWr_ (bSg_ B (bSg B ||| bi (aFr A))) (upd (bWr B) (aFr A) (nI v))) (upd (bBt B) (aFr A) (nI v))) (upd (bNd B) (aFr A) 0)) Y sl P G tl) rfl hlt (by decide) rfl) ?_
  refine wp_run rfl ?_
  refine wp_v2v rfl rfl (Nat.le_of_ble_eq_true rfl) (x0_putIn (n := aN A) hz hn hp) ?_
  refine wp_run rfl ?_
  exact wp_ret rfl rfl ⟨rfl, rfl⟩
theorem va_is {α : Type} {f : Nat → α} {k : Nat} {v : α} : va_up f k v k = v := if_pos rfl
theorem va_no {α : Type} {f : Nat → α} {k j : Nat} {v : α} (h : j ≠ k) : va_up f k v j = f j := if_neg h
theorem pn_row {f : Nat → Int32} {r : Nat → Nat} {n p k : Nat} (hf : ∀ i, i < n → f i = nI (r i)) (hp : p ≤ n) {i : Nat} (hi : i < n + 1) : upd (pnF f p n) p (nI k) i = nI (aIns r p k i) := by
  rw [upd_up]
  unfold pnF aIns
  by_cases e : i = p
  · rw [if_pos e, if_neg (by omega), if_pos e]
  · rw [if_neg e]
    by_cases e2 : i < p
    · rw [if_neg (by omega), if_pos e2, hf i (by omega)]
    · rw [if_pos (by omega), if_neg e2, if_neg e, hf (i - 1) (by omega)]
theorem tk_row {f : Nat → Int32} {r : Nat → Nat} {n p : Nat} (hf : ∀ i, i < n → f i = nI (r i)) {i : Nat} (hi : i < n - 1) : tkF f p n i = nI (aDel r p i) := by
  unfold tkF aDel
  by_cases e : i < p
  · rw [if_neg (by omega), if_pos e, hf i (by omega)]
  · rw [if_pos (by omega), if_neg e, hf (i + 1) (by omega)]
theorem cr_add (hC : CR B A) {p v z0 : Nat} (hlt : z0 < 24) (hfr : ¬ aIn A z0) (hp : p ≤ aN A) : CR (bAdd B (aN A) p v z0) (aAdd A p v z0 false) := by
  obtain ⟨c1, c2, c3, c4, c5, c6, c9⟩ := hC
  have hin : ∀ k, aIn (aAdd A p v z0 false) k ↔ (aIn A k ∨ k = z0) := by
    intro k
    constructor
    · rintro ⟨i, hi, e⟩
      rcases aIns_is (aR A) (p := p) (k := z0) hi hp with ⟨-, e2⟩ | ⟨j, hj, e2⟩
      · exact Or.inr (e.symm.trans e2)
      · exact Or.inl ⟨j, hj, e2.symm.trans e⟩
    · rintro (⟨j, hj, e⟩ | e)
      · obtain ⟨i, hi, -, e2⟩ := aIns_has (aR A) (p := p) (k := z0) hj hp
        exact ⟨i, hi, e2.trans e⟩
      · exact ⟨p, by show p < aN A + 1; omega, (aIns_at (aR A) p z0).trans e.symm⟩
  have hne : ∀ j, j < aN A → aR A j ≠ z0 := fun j hj e => hfr ⟨j, hj, e⟩
  refine ⟨rfl, fun i hi => pn_row c2 hp hi, fun i hi => ?_, fun k => ?_, fun k => ?_, c6, c9⟩
  · have key : ∀ z, aIns (aR A) p z0 i = z → upd (bWr B) z0 (nI v) z = nI (va_up (aW A) z0 v z) ∧ upd (bBt B) z0 (nI v) z = nI (va_up (aB A) z0 v z) ∧ upd (bNd B) z0 0 z = va_up (aD A) z0 0 z := by
      intro z hz
      rcases aIns_is (aR A) (p := p) (k := z0) hi hp with ⟨-, e2⟩ | ⟨j, hj, e2⟩
      · rw [← hz, e2, pk_us, pk_us, pk_us, va_is, va_is, va_is]
        exact ⟨rfl, rfl, rfl⟩
      · have hj2 := hne j hj
        rw [← hz, e2, pk_un hj2, pk_un hj2, pk_un hj2, va_no hj2, va_no hj2, va_no hj2]
        exact c3 j hj
    exact key _ rfl
  · rw [hin k, ← c4 k]
    show bt (bSg B ||| bi z0) k = true ↔ _
    rw [bt_set (by omega), Bool.or_eq_true, decide_eq_true_eq]
  · rw [hin k]
    show bt (bTn B) k = true ↔ (_ ∧ va_up (aT A) z0 false k = true)
    rw [c5 k]
    by_cases e : k = z0
    · subst e
      rw [va_is]
      constructor
      · intro h; exact absurd h.1 hfr
      · intro h; cases h.2
    · rw [va_no e]
      constructor
      · intro h; exact ⟨Or.inl h.1, h.2⟩
      · intro h; exact ⟨h.1.resolve_right e, h.2⟩
theorem cr_turnOn (hC : CR B A) {k : Nat} (hk : k < 24) (hin : aIn A k) (hf : aT A k = false) : CR (bTn_ B (bTn B ||| bi k)) (aFlip A k) := by
  obtain ⟨c1, c2, c3, c4, c5, c6, c9⟩ := hC
  refine ⟨c1, c2, c3, c4, fun j => ?_, c6, c9⟩
  show bt (bTn B ||| bi k) j = true ↔ (aIn A j ∧ (if j = k then !aT A j else aT A j) = true)
  rw [bt_set (by omega), Bool.or_eq_true, decide_eq_true_eq, c5 j]
  by_cases e : j = k
  · subst e
    rw [if_pos rfl, hf]
    simp [hin]
  · rw [if_neg e]
    simp [e]
theorem x0_addSlug_ns (hC : CR B A) {x y z : Int32} (hx : x < 0 ∨ ¬ x ≤ nI (aN A)) : axEv ro (d + 4) kX0_addSlug [.ref 1, .int x, .int y, .int z] (hX B Y sl P G tl) (some (.int (-1))) (hX B Y sl P G tl) := by
  refine ev_in rfl rfl (Nat.le_of_ble_eq_true rfl) rfl ?_
  refine wp_run rfl ?_
  refine wp_iflt rfl (fun q => ?_) (fun q => ?_)
  · refine wp_run rfl ?_
    exact wp_ret rfl rfl ⟨rfl, rfl⟩
  · refine wp_run rfl ?_
    rw [cr_sz hC]
    refine wp_icle rfl (fun hz_ => absurd hz_ (hx.elim (fun w => absurd w q) id)) (fun _ => ?_)
    refine wp_run rfl ?_
    exact wp_ret rfl rfl ⟨rfl, rfl⟩
theorem x0_addSlug_bv (hO : aOk A) (hC : CR B A) {p : Nat} {y z : Int32} (hp : p ≤ aN A) (hv : y < 1 ∨ 99 < y ∨ z < 0 ∨ ¬ z ≤ 1) : axEv ro (d + 4) kX0_addSlug [.ref 1, .int (nI p), .int y, .int z] (hX B Y sl P G tl) (some (.int (-2))) (hX B Y sl P G tl) := by
  have hn := hO.n
  refine ev_in rfl rfl (Nat.le_of_ble_eq_true rfl) rfl ?_
  refine wp_run rfl ?_
  refine wp_iflt rfl (fun hz_ => absurd hz_ (nI_pos (by omega))) (fun _ => ?_)
  refine wp_run rfl ?_
  rw [cr_sz hC]
  refine wp_icle rfl (fun _ => ?_) (fun hz_ => absurd (nI_le hp (by omega)) hz_)
  refine wp_run rfl ?_
  refine wp_iclt rfl (fun q1 => ?_) (fun q1 => ?_)
  · refine wp_run rfl ?_
    exact wp_ret rfl rfl ⟨rfl, rfl⟩
  · refine wp_run rfl ?_
    refine wp_icgt rfl (fun q2 => ?_) (fun q2 => ?_)
    · refine wp_run rfl ?_
      exact wp_ret rfl rfl ⟨rfl, rfl⟩
    · refine wp_run rfl ?_
      refine wp_iflt rfl (fun q3 => ?_) (fun q3 => ?_)
      · refine wp_run rfl ?_
        exact wp_ret rfl rfl ⟨rfl, rfl⟩
      · refine wp_run rfl ?_
        refine wp_icle rfl (fun hz_ => absurd hz_ (fun q4 => hv.elim q1 (fun w => w.elim q2 (fun w => w.elim q3 (fun w => w q4))))) (fun _ => ?_)
        refine wp_run rfl ?_
        exact wp_ret rfl rfl ⟨rfl, rfl⟩
theorem x0_addSlug_tm (hO : aOk A) (hC : CR B A) {p v t : Nat} (hp : p ≤ aN A) (h1 : 1 ≤ v) (h2 : v ≤ 99) (h3 : t ≤ 1) (hn : aN A = 24) : axEv ro (d + 4) kX0_addSlug [.ref 1, .int (nI p), .int (nI v), .int (nI t)] (hX B Y sl P G tl) (some (.int (-4))) (hX B Y sl P G tl) := by
  refine ev_in rfl rfl (Nat.le_of_ble_eq_true rfl) rfl ?_
  refine wp_run rfl ?_
  refine wp_iflt rfl (fun hz_ => absurd hz_ (nI_pos (by omega))) (fun _ => ?_)
  refine wp_run rfl ?_
  rw [cr_sz hC]
  refine wp_icle rfl (fun _ => ?_) (fun hz_ => absurd (nI_le hp (by omega)) hz_)
  refine wp_run rfl ?_
  refine wp_iclt rfl (fun hz_ => absurd hz_ (nI_nlt (b := 1) h1 (by omega))) (fun _ => ?_)
  refine wp_run rfl ?_
  refine wp_icgt rfl (fun hz_ => absurd hz_ (nI_nlt (a := 99) h2 (by omega))) (fun _ => ?_)
  refine wp_run rfl ?_
  refine wp_iflt rfl (fun hz_ => absurd hz_ (nI_pos (by omega))) (fun _ => ?_)
  refine wp_run rfl ?_
  refine wp_icle rfl (fun _ => ?_) (fun hz_ => absurd (nI_le (b := 1) h3 (by omega)) hz_)
  refine wp_run rfl ?_
  rw [cr_sz hC, hn]
  refine wp_iclt rfl (fun hz_ => absurd hz_ ((by decide : ¬ nI 24 < 24))) (fun _ => ?_)
  refine wp_run rfl ?_
  exact wp_ret rfl rfl ⟨rfl, rfl⟩
theorem x0_addSlug_ok (hO : aOk A) (hC : CR B A) {p v t : Nat} (hp : p ≤ aN A) (h1 : 1 ≤ v) (h2 : v ≤ 99) (h3 : t ≤ 1) (hn : aN A < 24) : ∃ B', axEv ro (d + 4) kX0_addSlug [.ref 1, .int (nI p), .int (nI v), .int (nI t)] (hX B Y sl P G tl) (some (.int (nI (aFr A)))) (hX (B') Y sl P G tl) ∧ CR B' (aAdd A p v (aFr A) (decide (t = 1))) := by
  have hlt := aFr_lt hO hn
  have hfr := aFr_free hO hn
  have hc := cr_add (v := v) hC hlt hfr hp
  have hm := x0_makeSlug (ro := ro) (d := d) (Y := Y) (sl := sl) (P := P) (G := G) (tl := tl) (v := v) hO hC hn hp
  generalize aFr A = k at *
  rcases (show t = 0 ∨ t = 1 by omega) with rfl | rfl
  · refine ⟨_, ?_, hc⟩
    refine ev_in rfl rfl (Nat.le_of_ble_eq_true rfl) rfl ?_
    refine wp_run rfl ?_
    refine wp_iflt rfl (fun hz_ => absurd hz_ (nI_pos (by omega))) (fun _ => ?_)
    refine wp_run rfl ?_
    rw [cr_sz hC]
    refine wp_icle rfl (fun _ => ?_) (fun hz_ => absurd (nI_le hp (by omega)) hz_)
    refine wp_run rfl ?_
    refine wp_iclt rfl (fun hz_ => absurd hz_ (nI_nlt (b := 1) h1 (by omega))) (fun _ => ?_)
    refine wp_run rfl ?_
    refine wp_icgt rfl (fun hz_ => absurd hz_ (nI_nlt (a := 99) h2 (by omega))) (fun _ => ?_)
    refine wp_run rfl ?_
    refine wp_iflt rfl (fun hz_ => absurd hz_ (nI_pos (by omega))) (fun _ => ?_)
    refine wp_run rfl ?_
    refine wp_icle rfl (fun _ => ?_) (fun hz_ => absurd (nI_le (b := 1) h3 (by omega)) hz_)
    refine wp_run rfl ?_
    rw [cr_sz hC]
    refine wp_iclt rfl (fun _ => ?_) (fun hz_ => absurd (nI_lt (b := 24) hn (by omega)) hz_)
    refine wp_run rfl ?_
    refine wp_v2 rfl rfl (Nat.le_of_ble_eq_true rfl) (hm) ?_
    refine wp_run rfl ?_
    refine wp_icne rfl (fun _ => ?_) (fun hz_ => absurd ((by decide : ¬ nI 0 = 1)) hz_)
    refine wp_run rfl ?_
    exact wp_ret rfl rfl ⟨rfl, rfl⟩
  · have hc2 := cr_turnOn hc hlt ⟨p, by show p < aN A + 1; omega, aIns_at (aR A) p k⟩ va_is
    refine ⟨bTn_ (bAdd B (aN A) p v k) (bTn B ||| bi k), ?_, ?_⟩
    · refine ev_in rfl rfl (Nat.le_of_ble_eq_true rfl) rfl ?_
      refine wp_run rfl ?_
      refine wp_iflt rfl (fun hz_ => absurd hz_ (nI_pos (by omega))) (fun _ => ?_)
      refine wp_run rfl ?_
      rw [cr_sz hC]
      refine wp_icle rfl (fun _ => ?_) (fun hz_ => absurd (nI_le hp (by omega)) hz_)
      refine wp_run rfl ?_
      refine wp_iclt rfl (fun hz_ => absurd hz_ (nI_nlt (b := 1) h1 (by omega))) (fun _ => ?_)
      refine wp_run rfl ?_
      refine wp_icgt rfl (fun hz_ => absurd hz_ (nI_nlt (a := 99) h2 (by omega))) (fun _ => ?_)
      refine wp_run rfl ?_
      refine wp_iflt rfl (fun hz_ => absurd hz_ (nI_pos (by omega))) (fun _ => ?_)
      refine wp_run rfl ?_
      refine wp_icle rfl (fun _ => ?_) (fun hz_ => absurd (nI_le (b := 1) h3 (by omega)) hz_)
      refine wp_run rfl ?_
      rw [cr_sz hC]
      refine wp_iclt rfl (fun _ => ?_) (fun hz_ => absurd (nI_lt (b := 24) hn (by omega)) hz_)
      refine wp_run rfl ?_
      refine wp_v2 rfl rfl (Nat.le_of_ble_eq_true rfl) (hm) ?_
      refine wp_run rfl ?_
      refine wp_icne rfl (fun hz_ => absurd hz_ (fun z => z rfl)) (fun _ => ?_)
      refine wp_run rfl ?_
      refine wp_s1 rfl (Nat.le_of_ble_eq_true rfl) (x4_bit hlt) ?_
      refine wp_run rfl ?_
      refine wp_putf (h1 := hX (bTn_ (bAdd B (aN A) p v k) (bTn B ||| bi k)) Y sl P G tl) rfl rfl (Nat.le_of_ble_eq_true rfl) ⟨rfl, rfl, fun _ hz_ => by cases hz_⟩ rfl ?_
      refine wp_run rfl ?_
      exact wp_ret rfl rfl ⟨rfl, rfl⟩
    · have e : aFlip (aAdd A p v k false) k = aAdd A p v k (decide (1 = 1)) := by
        have e2 : (fun j => if j = k then !(va_up (aT A) k false j) else va_up (aT A) k false j) = va_up (aT A) k true := by
          funext j
          unfold va_up
          by_cases e : j = k
          · rw [if_pos e, if_pos e, if_pos e]; rfl
          · rw [if_neg e, if_neg e, if_neg e]
        show (_, _, _, _, _, (fun j => if j = k then !(va_up (aT A) k false j) else va_up (aT A) k false j), _) = (_, _, _, _, _, va_up (aT A) k true, _)
        rw [e2]
        rfl
      rw [← e]
      exact hc2
end AX24
