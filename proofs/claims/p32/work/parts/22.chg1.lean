/-! THE CLASS: changes of the board (1): settings, targets, turns, needs, trims. -/
def bSt_ (B : axBD) (f : Nat → Int32) : axBD := (f, bTg B, bRw B, bWr B, bBt B, bNd B, bSg B, bTn B, bSz B)
def bTg_ (B : axBD) (f : Nat → Int32) : axBD := (bSt B, f, bRw B, bWr B, bBt B, bNd B, bSg B, bTn B, bSz B)
def bRw_ (B : axBD) (f : Nat → Int32) : axBD := (bSt B, bTg B, f, bWr B, bBt B, bNd B, bSg B, bTn B, bSz B)
def bWr_ (B : axBD) (f : Nat → Int32) : axBD := (bSt B, bTg B, bRw B, f, bBt B, bNd B, bSg B, bTn B, bSz B)
def bBt_ (B : axBD) (f : Nat → Int32) : axBD := (bSt B, bTg B, bRw B, bWr B, f, bNd B, bSg B, bTn B, bSz B)
def bNd_ (B : axBD) (f : Nat → Int32) : axBD := (bSt B, bTg B, bRw B, bWr B, bBt B, f, bSg B, bTn B, bSz B)
def bSg_ (B : axBD) (x : Int32) : axBD := (bSt B, bTg B, bRw B, bWr B, bBt B, bNd B, x, bTn B, bSz B)
def bTn_ (B : axBD) (x : Int32) : axBD := (bSt B, bTg B, bRw B, bWr B, bBt B, bNd B, bSg B, x, bSz B)
def bSz_ (B : axBD) (x : Int32) : axBD := (bSt B, bTg B, bRw B, bWr B, bBt B, bNd B, bSg B, bTn B, x)
/-- the least and the most of a setting -/
def aLs (j : Nat) : Nat := if j = 0 then 4 else 0
def aMs (j : Nat) : Nat := if j = 0 then 60 else if j = 1 then 20 else 90
def aSetV (A : axAD) (j : Nat) : Nat := if j = 0 then aPg A else if j = 1 then aSl A else aTr A
def aSetS (A : axAD) (j v : Nat) : axAD := (aN A, aR A, aW A, aB A, aD A, aT A, if j = 0 then v else aPg A, if j = 1 then v else aSl A, if j = 2 then v else aTr A, aTg A)
def aSetT (A : axAD) (a v : Nat) : axAD := (aN A, aR A, aW A, aB A, aD A, aT A, aPg A, aSl A, aTr A, va_up (aTg A) a v)
def aNeed (A : axAD) (k o : Nat) : axAD := (aN A, aR A, aW A, aB A, va_up (aD A) k (aD A k ^^^ bi o), aT A, aPg A, aSl A, aTr A, aTg A)
def aBts (A : axAD) (k v : Nat) : axAD := (aN A, aR A, aW A, va_up (aB A) k v, aD A, aT A, aPg A, aSl A, aTr A, aTg A)
theorem upd_up {f : Nat → Int32} {k j : Nat} {v : Int32} : upd f k v j = if j = k then v else f j := rfl
section AX22
variable {ro : axRo} {d : Nat} {h h1 : axH} {B : axBD} {Y : axYD} {sl : Nat → Option Nat} {P : axPD} {G : axGD} {tl : axH} {A : axAD} {LL : Nat} {xs : Nat → Int32}
theorem cr_set (hC : CR B A) {j v : Nat} (hj : j < 3) : CR (bSt_ B (upd (bSt B) j (nI v))) (aSetS A j v) := by
  obtain ⟨c1, c2, c3, c4, c5, ⟨c6, c7, c8⟩, c9⟩ := hC
  refine ⟨c1, c2, c3, c4, c5, ⟨?_, ?_, ?_⟩, c9⟩
  · show upd (bSt B) j (nI v) 0 = nI (if j = 0 then v else aPg A)
    rw [upd_up]
    by_cases e : j = 0
    · rw [if_pos e.symm, if_pos e]
    · rw [if_neg (fun q => e q.symm), if_neg e, c6]
  · show upd (bSt B) j (nI v) 1 = nI (if j = 1 then v else aSl A)
    rw [upd_up]
    by_cases e : j = 1
    · rw [if_pos e.symm, if_pos e]
    · rw [if_neg (fun q => e q.symm), if_neg e, c7]
  · show upd (bSt B) j (nI v) 2 = nI (if j = 2 then v else aTr A)
    rw [upd_up]
    by_cases e : j = 2
    · rw [if_pos e.symm, if_pos e]
    · rw [if_neg (fun q => e q.symm), if_neg e, c8]
theorem cr_stv (hC : CR B A) {j : Nat} (hj : j < 3) : bSt B j = nI (aSetV A j) := by
  unfold aSetV
  rcases (show j = 0 ∨ j = 1 ∨ j = 2 by omega) with rfl | rfl | rfl
  · exact cr_pg hC
  · exact cr_sl hC
  · exact cr_tr hC
theorem roL_1 {j : Nat} (hj : j < 3) : (axRoL LL xs 1).2 j = nI (aLs j) := by
  rcases (show j = 0 ∨ j = 1 ∨ j = 2 by omega) with rfl | rfl | rfl <;> rfl
theorem roL_2 {j : Nat} (hj : j < 3) : (axRoL LL xs 2).2 j = nI (aMs j) := by
  rcases (show j = 0 ∨ j = 1 ∨ j = 2 by omega) with rfl | rfl | rfl <;> rfl
theorem aMs_le (j : Nat) : aMs j ≤ 90 := by unfold aMs; split <;> (try split) <;> omega
theorem aLs_le (j : Nat) : aLs j ≤ 4 := by unfold aLs; split <;> omega
theorem x0_changeSetting_in (hC : CR B A) {j v : Nat} (hj : j < 3) (h1 : aLs j ≤ v) (h2 : v ≤ aMs j) : axEv (axRoL LL xs) (d + 2) kX0_changeSetting [.ref 1, .int (nI j), .int (nI v)] (hX B Y sl P G tl) (some (.int (nI (aSetV A j)))) (hX (bSt_ B (upd (bSt B) j (nI v))) Y sl P G tl) := by
  have h3 := aMs_le j
  have h4 := aLs_le j
  refine ev_in rfl rfl (Nat.le_of_ble_eq_true rfl) rfl ?_
  refine wp_run rfl ?_
  refine wp_iflt rfl (fun hz_ => absurd hz_ (nI_pos (by omega))) (fun _ => ?_)
  refine wp_run rfl ?_
  refine wp_iclt rfl (fun _ => ?_) (fun hz_ => absurd (nI_lt (b := 3) hj (by omega)) hz_)
  refine wp_run rfl ?_
  refine wp_s2 rfl (Nat.le_of_ble_eq_true rfl) (x4_cellR (by decide) (show j < (axRoL LL xs 1).1 from hj) (show 3 < 2 ^ 31 by decide)) ?_
  refine wp_run rfl ?_
  rw [roL_1 hj]
  refine wp_iclt rfl (fun hz_ => absurd hz_ (nI_nlt h1 (by omega))) (fun _ => ?_)
  refine wp_run rfl ?_
  refine wp_s2 rfl (Nat.le_of_ble_eq_true rfl) (x4_cellR (by decide) (show j < (axRoL LL xs 2).1 from hj) (show 3 < 2 ^ 31 by decide)) ?_
  refine wp_run rfl ?_
  rw [roL_2 hj]
  refine wp_icle rfl (fun _ => ?_) (fun hz_ => absurd (nI_le h2 (by omega)) hz_)
  refine wp_run rfl ?_
  refine wp_ald rfl rfl (vp_in_nI (hj) (by decide)) (by rw [nI_clamp (by omega)]) ?_
  refine wp_run rfl ?_
  refine wp_ast (h1 := hX (bSt_ B (upd (bSt B) j (nI v))) Y sl P G tl) rfl rfl (vp_in_nI (hj) (by decide)) rfl (by rw [nI_clamp (by omega)]; rfl) ?_
  refine wp_run rfl ?_
  exact wp_ret rfl rfl ⟨by rw [cr_stv hC hj], rfl⟩
theorem x0_changeSetting_out {x y : Int32} (hv : ∀ j v, j < 3 → x = nI j → y = nI v → aLs j ≤ v → ¬ v ≤ aMs j) : axEv (axRoL LL xs) (d + 2) kX0_changeSetting [.ref 1, .int x, .int y] (hX B Y sl P G tl) (some (.int (-2))) (hX B Y sl P G tl) := by
  refine ev_in rfl rfl (Nat.le_of_ble_eq_true rfl) rfl ?_
  refine wp_run rfl ?_
  rcases pk_ix x (show 3 < 2 ^ 31 by omega) with h | h | ⟨j, hj, rfl⟩
  · refine wp_iflt rfl (fun _ => ?_) (fun hz_ => absurd (h) hz_)
    refine wp_run rfl ?_
    exact wp_ret rfl rfl ⟨rfl, rfl⟩
  · refine wp_iflt rfl (fun q => ?_) (fun q => ?_)
    · refine wp_run rfl ?_
      exact wp_ret rfl rfl ⟨rfl, rfl⟩
    · refine wp_run rfl ?_
      refine wp_iclt rfl (fun hz_ => absurd hz_ (fun z => absurd h (Int32.not_le.mpr z))) (fun _ => ?_)
      refine wp_run rfl ?_
      exact wp_ret rfl rfl ⟨rfl, rfl⟩
  · have h3 := aMs_le j
    have h4 := aLs_le j
    refine wp_iflt rfl (fun hz_ => absurd hz_ (nI_pos (by omega))) (fun _ => ?_)
    refine wp_run rfl ?_
    refine wp_iclt rfl (fun _ => ?_) (fun hz_ => absurd (nI_lt (b := 3) hj (by omega)) hz_)
    refine wp_run rfl ?_
    refine wp_s2 rfl (Nat.le_of_ble_eq_true rfl) (x4_cellR (by decide) (show j < (axRoL LL xs 1).1 from hj) (show 3 < 2 ^ 31 by decide)) ?_
    refine wp_run rfl ?_
    rw [roL_1 hj]
    by_cases c1 : y < nI (aLs j)
    · refine wp_iclt rfl (fun _ => ?_) (fun hz_ => absurd (c1) hz_)
      refine wp_run rfl ?_
      exact wp_ret rfl rfl ⟨rfl, rfl⟩
    · refine wp_iclt rfl (fun hz_ => absurd hz_ (c1)) (fun _ => ?_)
      refine wp_run rfl ?_
      refine wp_s2 rfl (Nat.le_of_ble_eq_true rfl) (x4_cellR (by decide) (show j < (axRoL LL xs 2).1 from hj) (show 3 < 2 ^ 31 by decide)) ?_
      refine wp_run rfl ?_
      rw [roL_2 hj]
      by_cases c2 : y ≤ nI (aMs j)
      · have h0 : ¬ y < 0 := fun z => c1 (Int32.lt_of_lt_of_le z (nI_pos' (by omega)))
        obtain ⟨v, hv1, rfl⟩ := nI_of h0
        have e1 := (nI_leI (by omega) (by omega)).mp c2
        have e2 : ¬ v < aLs j := fun z => c1 (nI_lt z (by omega))
        exact absurd e1 (hv j v hj rfl rfl (by omega))
      · refine wp_icle rfl (fun hz_ => absurd hz_ (c2)) (fun _ => ?_)
        refine wp_run rfl ?_
        exact wp_ret rfl rfl ⟨rfl, rfl⟩
theorem cr_tgt (hC : CR B A) {a v : Nat} (ha : a < 6) : CR (bTg_ B (upd (bTg B) a (nI v))) (aSetT A a v) := by
  obtain ⟨c1, c2, c3, c4, c5, c6, c9⟩ := hC
  refine ⟨c1, c2, c3, c4, c5, c6, fun b hb => ?_⟩
  show upd (bTg B) a (nI v) b = nI (va_up (aTg A) a v b)
  rw [upd_up]
  unfold va_up
  by_cases e : b = a
  · rw [if_pos e, if_pos e]
  · rw [if_neg e, if_neg e, c9 b hb]
theorem x0_changeTarget_in (hC : CR B A) {a v : Nat} (ha : a < 6) (h1 : 1 ≤ v) (h2 : v ≤ 999) : axEv ro (d + 2) kX0_changeTarget [.ref 1, .int (nI a), .int (nI v)] (hX B Y sl P G tl) (some (.int (nI (aTg A a)))) (hX (bTg_ B (upd (bTg B) a (nI v))) Y sl P G tl) := by
  refine ev_in rfl rfl (Nat.le_of_ble_eq_true rfl) rfl ?_
  refine wp_run rfl ?_
  refine wp_iflt rfl (fun hz_ => absurd hz_ (nI_pos (by omega))) (fun _ => ?_)
  refine wp_run rfl ?_
  refine wp_iclt rfl (fun _ => ?_) (fun hz_ => absurd (nI_lt (b := 6) ha (by omega)) hz_)
  refine wp_run rfl ?_
  refine wp_iclt rfl (fun hz_ => absurd hz_ (nI_nlt (b := 1) h1 (by omega))) (fun _ => ?_)
  refine wp_run rfl ?_
  refine wp_icle rfl (fun _ => ?_) (fun hz_ => absurd (nI_le (b := 999) h2 (by omega)) hz_)
  refine wp_run rfl ?_
  refine wp_ald rfl rfl (vp_in_nI (ha) (by decide)) (by rw [nI_clamp (by omega)]) ?_
  refine wp_run rfl ?_
  refine wp_ast (h1 := hX (bTg_ B (upd (bTg B) a (nI v))) Y sl P G tl) rfl rfl (vp_in_nI (ha) (by decide)) rfl (by rw [nI_clamp (by omega)]; rfl) ?_
  refine wp_run rfl ?_
  exact wp_ret rfl rfl ⟨by rw [cr_tg hC ha], rfl⟩
theorem x0_changeTarget_ns {x y : Int32} (hx : x < 0 ∨ nI 6 ≤ x) : axEv ro (d + 2) kX0_changeTarget [.ref 1, .int x, .int y] (hX B Y sl P G tl) (some (.int (-1))) (hX B Y sl P G tl) := by
  refine ev_in rfl rfl (Nat.le_of_ble_eq_true rfl) rfl ?_
  refine wp_run rfl ?_
  refine wp_iflt rfl (fun q => ?_) (fun q => ?_)
  · refine wp_run rfl ?_
    exact wp_ret rfl rfl ⟨rfl, rfl⟩
  · refine wp_run rfl ?_
    refine wp_iclt rfl (fun hz_ => absurd hz_ (fun z => hx.elim q (fun w => absurd w (Int32.not_le.mpr z)))) (fun _ => ?_)
    refine wp_run rfl ?_
    exact wp_ret rfl rfl ⟨rfl, rfl⟩
theorem x0_changeTarget_bv {a : Nat} {y : Int32} (ha : a < 6) (hy : y < nI 1 ∨ ¬ y ≤ nI 999) : axEv ro (d + 2) kX0_changeTarget [.ref 1, .int (nI a), .int y] (hX B Y sl P G tl) (some (.int (-2))) (hX B Y sl P G tl) := by
  refine ev_in rfl rfl (Nat.le_of_ble_eq_true rfl) rfl ?_
  refine wp_run rfl ?_
  refine wp_iflt rfl (fun hz_ => absurd hz_ (nI_pos (by omega))) (fun _ => ?_)
  refine wp_run rfl ?_
  refine wp_iclt rfl (fun _ => ?_) (fun hz_ => absurd (nI_lt (b := 6) ha (by omega)) hz_)
  refine wp_run rfl ?_
  refine wp_iclt rfl (fun q => ?_) (fun q => ?_)
  · refine wp_run rfl ?_
    exact wp_ret rfl rfl ⟨rfl, rfl⟩
  · refine wp_run rfl ?_
    refine wp_icle rfl (fun hz_ => absurd hz_ (hy.elim (fun w => absurd w q) id)) (fun _ => ?_)
    refine wp_run rfl ?_
    exact wp_ret rfl rfl ⟨rfl, rfl⟩
theorem cr_flip (hO : aOk A) (hC : CR B A) {i : Nat} (hi : i < aN A) : CR (bTn_ B (bTn B ^^^ bi (aR A i))) (aFlip A (aR A i)) := by
  obtain ⟨c1, c2, c3, c4, c5, c6, c9⟩ := hC
  refine ⟨c1, c2, c3, c4, fun k => ?_, c6, c9⟩
  show bt (bTn B ^^^ bi (aR A i)) k = true ↔ (aIn A k ∧ (if k = aR A i then !aT A k else aT A k) = true)
  rw [bt_flp (by have := hO.r hi; omega)]
  have := c5 k
  by_cases e : k = aR A i
  · subst e
    have hin : aIn A (aR A i) := ⟨i, hi, rfl⟩
    rw [if_pos rfl]
    cases h1 : bt (bTn B) (aR A i) <;> cases h2 : aT A (aR A i) <;> simp_all
  · rw [if_neg e, decide_eq_false e, Bool.xor_false]; exact this
theorem x0_flipTurn_out (hC : CR B A) {y : Int32} (hy : ∀ i, i < aN A → y ≠ nI (aR A i)) : axEv ro (d + 3) kX0_flipTurn [.ref 1, .int y] (hX B Y sl P G tl) (some (.int (-1))) (hX B Y sl P G tl) := by
  refine ev_in rfl rfl (Nat.le_of_ble_eq_true rfl) rfl ?_
  refine wp_run rfl ?_
  refine wp_v1 rfl rfl (Nat.le_of_ble_eq_true rfl) (x0_has_out hC hy) ?_
  refine wp_run rfl ?_
  refine wp_ifne rfl (fun hz_ => absurd hz_ (fun z => z rfl)) (fun _ => ?_)
  refine wp_run rfl ?_
  exact wp_ret rfl rfl ⟨rfl, rfl⟩
theorem x0_flipTurn_in (hO : aOk A) (hC : CR B A) {i : Nat} (hi : i < aN A) : axEv ro (d + 3) kX0_flipTurn [.ref 1, .int (nI (aR A i))] (hX B Y sl P G tl) (some (.int (if aT A (aR A i) = true then 0 else 1))) (hX (bTn_ B (bTn B ^^^ bi (aR A i))) Y sl P G tl) := by
  refine ev_in rfl rfl (Nat.le_of_ble_eq_true rfl) rfl ?_
  refine wp_run rfl ?_
  refine wp_v1 rfl rfl (Nat.le_of_ble_eq_true rfl) (x0_has_in hO hC hi) ?_
  refine wp_run rfl ?_
  refine wp_ifne rfl (fun _ => ?_) (fun hz_ => absurd ((by decide : ¬ (1 : Int32) = 0)) hz_)
  refine wp_run rfl ?_
  refine wp_s1 rfl (Nat.le_of_ble_eq_true rfl) (x4_bit (hO.r hi)) ?_
  refine wp_run rfl ?_
  refine wp_putf (h1 := hX (bTn_ B (bTn B ^^^ bi (aR A i))) Y sl P G tl) rfl rfl (Nat.le_of_ble_eq_true rfl) ⟨rfl, rfl, fun _ hz_ => by cases hz_⟩ rfl ?_
  refine wp_run rfl ?_
  refine wp_v1 rfl rfl (Nat.le_of_ble_eq_true rfl) (x0_isTurn (A := aFlip A (aR A i)) (by exact hO) (cr_flip hO hC hi) hi) ?_
  refine wp_run rfl ?_
  have e : aT (aFlip A (aR A i)) (aR (aFlip A (aR A i)) i) = !aT A (aR A i) := if_pos rfl
  rw [e]
  cases aT A (aR A i)
  · refine wp_ifeq rfl (fun hz_ => absurd hz_ ((by decide : ¬ (1 : Int32) = 0))) (fun _ => ?_)
    refine wp_run rfl ?_
    exact wp_ret rfl rfl ⟨rfl, rfl⟩
  · refine wp_ifeq rfl (fun _ => ?_) (fun hz_ => absurd (rfl) hz_)
    refine wp_run rfl ?_
    exact wp_ret rfl rfl ⟨rfl, rfl⟩
end AX22
