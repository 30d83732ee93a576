/-! THE CLASS: how far all acts are off. -/
/-- over the row: all that ended acts are off, the act, its beats so far, is it open -/
def aFo (A : axAD) : Nat → Nat × Nat × Nat × Bool
  | 0 => (0, 0, 0, false)
  | p + 1 => if aT A (aR A p) = true then ((aFo A p).1 + (((aFo A p).2.2.1 + aB A (aR A p) : Nat) - (aTgt A (aFo A p).2.1 : Int) : Int).natAbs, (aFo A p).2.1 + 1, 0, false) else ((aFo A p).1, (aFo A p).2.1, (aFo A p).2.2.1 + aB A (aR A p), true)
def aAll (A : axAD) : Nat := if (aFo A (aN A)).2.2.2 = true then (aFo A (aN A)).1 + (((aFo A (aN A)).2.2.1 : Int) - (aTgt A (aFo A (aN A)).2.1 : Int)).natAbs else (aFo A (aN A)).1
theorem aFo_le {A : axAD} (hn : aN A ≤ 24) (hb : ∀ i, i < aN A → aB A (aR A i) ≤ 99) (ht : ∀ a, a < 6 → aTg A a ≤ 999) : ∀ p, p ≤ aN A → (aFo A p).1 ≤ p * 2400 ∧ (aFo A p).2.1 ≤ p ∧ (aFo A p).2.2.1 ≤ p * 99
  | 0, _ => by simp [aFo]
  | p + 1, h => by
    obtain ⟨h1, h2, h3⟩ := aFo_le hn hb ht p (by omega)
    have h4 := hb p (by omega)
    have h5 : aTgt A (aFo A p).2.1 ≤ 999 := ht (min (aFo A p).2.1 5) (by omega)
    rw [aFo]
    generalize aFo A p = q at *
    generalize aTgt A q.2.1 = t at *
    generalize aB A (aR A p) = x at *
    have h6 : (((q.2.2.1 + x : Nat) : Int) - (t : Int)).natAbs ≤ 2400 := by omega
    have h7 : (p + 1) * 2400 = p * 2400 + 2400 := Nat.succ_mul p 2400
    split
    · refine ⟨?_, ?_, ?_⟩
      · rw [h7]
        exact Nat.add_le_add h1 h6
      · show q.2.1 + 1 ≤ p + 1
        omega
      · show 0 ≤ _
        omega
    · refine ⟨?_, ?_, ?_⟩
      · rw [h7]
        exact Nat.le_trans h1 (Nat.le_add_right _ _)
      · show q.2.1 ≤ p + 1
        omega
      · show q.2.2.1 + x ≤ _
        omega
section AX21
variable {ro : axRo} {d : Nat} {h h1 : axH} {B : axBD} {Y : axYD} {sl : Nat → Option Nat} {P : axPD} {G : axGD} {tl : axH} {A A' : axAD}
theorem x0_offOfRow (hO : aOk A) (hC : CR B A) {rr : Nat} {ord : Nat → Int32} {ts : Int32} (hrr : ((hX B Y sl P G tl))[rr]? = some (axAi 24 ord)) (hn' : aN A' = aN A) (hb' : aB A' = aB A) (htg : aTg A' = aTg A) (hpm : ∀ i, i < aN A → ∃ j, j < aN A ∧ aR A' i = aR A j) (ho : ∀ i, i < aN A → ord i = nI (aR A' i)) (hts : ∀ i, i < aN A → bt ts (aR A' i) = aT A' (aR A' i)) : axEv ro (d + 3) kX0_offOfRow [.ref 1, .ref rr, .int ts] (hX B Y sl P G tl) (some (.int (nI (aAll A')))) (hX B Y sl P G tl) := by
  have hn := hO.n
  have hB : ∀ i, i < aN A' → aB A' (aR A' i) ≤ 99 := fun i hi => by
    obtain ⟨j, hj, e⟩ := hpm i (by omega)
    rw [e, hb']
    have := hO.b hj; omega
  have hT : ∀ a, a < 6 → aTg A' a ≤ 999 := fun a ha => by rw [htg]; exact (hO.tg ha).2
  have tg : ∀ {a : Nat}, a < 2 ^ 31 → axEv ro (d + 2) kX0_targetOf [.ref 1, .int (nI a)] (hX B Y sl P G tl) (some (.int (nI (aTgt A' a)))) (hX B Y sl P G tl) := fun ha => by
    have := x0_targetOf (ro := ro) (d := d) (Y := Y) (sl := sl) (P := P) (G := G) (tl := tl) hO hC ha
    unfold aTgt at *
    rw [htg]; exact this
  have ab : ∀ q : Nat, ∀ x : Nat, x ≤ 2400 → ((if 0 ≤ nI x - nI (aTgt A' (aFo A' q).2.1) then nI x - nI (aTgt A' (aFo A' q).2.1) else 0 - (nI x - nI (aTgt A' (aFo A' q).2.1))) : Int32) = nI ((x : Int) - (aTgt A' (aFo A' q).2.1 : Int)).natAbs := by
    intro q x hx
    have h5 : aTgt A' (aFo A' q).2.1 ≤ 999 := hT (min (aFo A' q).2.1 5) (by omega)
    rw [← zI_nI x, ← zI_nI (aTgt A' (aFo A' q).2.1), zI_sub]
    exact zI_abs (by omega) (by omega)
  have loop : ∀ m q, q + m = aN A → ∀ v : Option Value, axW ro (axEv ro (d + 2)) cdX0_offOfRow 20 [some (.ref 1), some (.ref rr), some (.int ts), some (.int (nI (aFo A' q).1)), some (.int (nI (aFo A' q).2.1)), some (.int (nI (aFo A' q).2.2.1)), some (.int (if (aFo A' q).2.2.2 = true then 1 else 0)), some (.int (nI q)), v] [.int (bSz B), .int (nI q)] (hX B Y sl P G tl) (fun r' h' => r' = some (.int (nI (aAll A'))) ∧ h' = (hX B Y sl P G tl)) := by
    intro m
    induction m with
    | zero =>
      intro q e v
      have e : q = aN A := by omega
      subst e
      obtain ⟨f1, f2, f3⟩ := aFo_le (by omega) hB hT (aN A) (by omega)
      rw [cr_sz hC]
      refine wp_icge rfl (fun _ => ?_) (fun hz_ => absurd (nI_le (Nat.le_refl _) (by omega)) hz_)
      refine wp_run rfl ?_
      by_cases ho : (aFo A' (aN A)).2.2.2 = true
      · rw [if_pos ho]
        refine wp_ifeq rfl (fun hz_ => absurd hz_ ((by decide : ¬ (1 : Int32) = 0))) (fun _ => ?_)
        refine wp_run rfl ?_
        refine wp_v1 rfl rfl (Nat.le_of_ble_eq_true rfl) (tg (by omega)) ?_
        refine wp_run rfl ?_
        refine wp_abs rfl (Nat.le_of_ble_eq_true rfl) (ab (aN A) _ (by omega)) ?_
        refine wp_run rfl ?_
        rw [nI_add]
        exact wp_ret rfl rfl ⟨by unfold aAll; rw [hn', if_pos ho], rfl⟩
      · rw [if_neg ho]
        refine wp_ifeq rfl (fun _ => ?_) (fun hz_ => absurd (rfl) hz_)
        refine wp_run rfl ?_
        exact wp_ret rfl rfl ⟨by unfold aAll; rw [hn', if_neg ho], rfl⟩
    | succ m ih =>
      intro q e v
      have hq : q < aN A := by omega
      obtain ⟨f1, f2, f3⟩ := aFo_le (by omega) hB hT q (by omega)
      obtain ⟨j, hj, ej⟩ := hpm q hq
      have hb := hB q (by omega)
      rw [cr_sz hC]
      refine wp_icge rfl (fun hz_ => absurd hz_ (nI_ge hq (by omega))) (fun _ => ?_)
      refine wp_run rfl ?_
      refine wp_s2 rfl (Nat.le_of_ble_eq_true rfl) (x4_cell hrr (show q < 24 by omega) (by decide)) ?_
      refine wp_run rfl ?_
      rw [ho q hq, ej]
      refine wp_s2 rfl (Nat.le_of_ble_eq_true rfl) (x4_cell rfl (hO.r hj) (by decide)) ?_
      refine wp_run rfl ?_
      rw [cr_bt hC hj, nI_add]
      refine wp_s2 rfl (Nat.le_of_ble_eq_true rfl) (x4_contains_in (hO.r hj)) ?_
      refine wp_run rfl ?_
      have ih := ih (q + 1) (by omega) (some (.int (nI (aR A j))))
      have eB : aB A' (aR A' q) = aB A (aR A j) := by rw [hb', ej]
      have hb2 : aB A (aR A j) ≤ 99 := by rw [← eB]; exact hb
      rw [aFo, eB] at ih
      rw [← ej, hts q hq, ej]
      rw [ej] at ih
      cases ht : aT A' (aR A j) with
      | true =>
        rw [ht, if_pos rfl] at ih
        refine wp_ifne rfl (fun _ => ?_) (fun hz_ => absurd ((by decide : ¬ (1 : Int32) = 0)) hz_)
        refine wp_run rfl ?_
        refine wp_ifne rfl (fun hz_ => absurd hz_ (fun z => z rfl)) (fun _ => ?_)
        refine wp_run rfl ?_
        refine wp_v1 rfl rfl (Nat.le_of_ble_eq_true rfl) (tg (by omega)) ?_
        refine wp_run rfl ?_
        refine wp_abs rfl (Nat.le_of_ble_eq_true rfl) (ab q _ (by omega)) ?_
        refine wp_run rfl ?_
        rw [nI_add, nI_1, nI_1]
        exact ih
      | false =>
        rw [ht, if_neg (by decide)] at ih
        refine wp_ifne rfl (fun hz_ => absurd hz_ (fun z => z rfl)) (fun _ => ?_)
        refine wp_run rfl ?_
        refine wp_ifne rfl (fun _ => ?_) (fun hz_ => absurd ((by decide : ¬ (1 : Int32) = 0)) hz_)
        refine wp_run rfl ?_
        rw [nI_1]
        exact ih
  refine ev_in rfl rfl (Nat.le_of_ble_eq_true rfl) rfl ?_
  refine wp_run rfl ?_
  exact loop (aN A) 0 (by omega) _
theorem x0_offTogether (hO : aOk A) (hC : CR B A) : axEv ro (d + 4) kX0_offTogether [.ref 1] (hX B Y sl P G tl) (some (.int (nI (aAll A)))) (hX B Y sl P G tl) := by
  refine ev_in rfl rfl (Nat.le_of_ble_eq_true rfl) rfl ?_
  refine wp_run rfl ?_
  refine wp_v2 rfl rfl (Nat.le_of_ble_eq_true rfl) (x0_offOfRow hO hC (rr := 4) (A' := A) rfl rfl rfl rfl (fun i hi => ⟨i, hi, rfl⟩) (fun i hi => cr_rw hC hi) (fun i hi => cr_tnr hC hi)) ?_
  refine wp_run rfl ?_
  exact wp_ret rfl rfl ⟨rfl, rfl⟩
/-- a board with one slug's turn flipped -/
def aFlip (A : axAD) (k : Nat) : axAD := (aN A, aR A, aW A, aB A, aD A, fun j => if j = k then !aT A j else aT A j, aPg A, aSl A, aTr A, aTg A)
theorem x0_offIfTurned (hO : aOk A) (hC : CR B A) {i : Nat} (hi : i < aN A) : axEv ro (d + 4) kX0_offIfTurned [.ref 1, .int (nI (aR A i))] (hX B Y sl P G tl) (some (.int (nI (aAll (aFlip A (aR A i)))))) (hX B Y sl P G tl) := by
  have ht : ∀ j, j < aN A → bt (bTn B ^^^ bi (aR A i)) (aR A j) = aT (aFlip A (aR A i)) (aR A j) := fun j hj => by
    show bt (bTn B ^^^ bi (aR A i)) (aR A j) = if aR A j = aR A i then !aT A (aR A j) else aT A (aR A j)
    rw [bt_flp (by have := hO.r hi; omega), cr_tnr hC hj]
    by_cases e : aR A j = aR A i
    · rw [if_pos e, decide_eq_true e]; cases aT A (aR A j) <;> rfl
    · rw [if_neg e, decide_eq_false e]; cases aT A (aR A j) <;> rfl
  refine ev_in rfl rfl (Nat.le_of_ble_eq_true rfl) rfl ?_
  refine wp_run rfl ?_
  refine wp_s1 rfl (Nat.le_of_ble_eq_true rfl) (x4_bit (hO.r hi)) ?_
  refine wp_run rfl ?_
  refine wp_v2 rfl rfl (Nat.le_of_ble_eq_true rfl) (x0_offOfRow hO hC (rr := 4) (A' := aFlip A (aR A i)) rfl rfl rfl rfl (fun i hi => ⟨i, hi, rfl⟩) (fun i hi => cr_rw hC hi) ht) ?_
  refine wp_run rfl ?_
  exact wp_ret rfl rfl ⟨rfl, rfl⟩
end AX21
