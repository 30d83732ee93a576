/-! THE CLASS: changes of the board (6): fit. -/
/-- trimming from the place lo + m - 1 down to lo, while something is left to trim -/
def aFt (lo : Nat) : Nat → Nat → axAD → axAD
  | 0, _, A => A
  | m + 1, left, A => if left = 0 then A else aFt lo m (left - min left (aCan A (aR A (lo + m)))) (aBts A (aR A (lo + m)) (aB A (aR A (lo + m)) - min left (aCan A (aR A (lo + m)))))
def aFit (A : axAD) (a : Nat) : axAD := aFt (aSt A a) (aSt A (a + 1) - aSt A a) (aCut A a) A
theorem aOk_bts {A : axAD} (hO : aOk A) {i v : Nat} (hi : i < aN A) (h1 : 1 ≤ v) (h2 : v ≤ aW A (aR A i)) : aOk (aBts A (aR A i) v) := by
  obtain ⟨o1, o2, o3, o4, o5⟩ := hO
  refine ⟨o1, o2, o3, fun j hj => ?_, o5⟩
  show 1 ≤ va_up (aB A) (aR A i) v (aR A j) ∧ va_up (aB A) (aR A i) v (aR A j) ≤ aW A (aR A j) ∧ aW A (aR A j) ≤ 99
  have := o4 j hj
  by_cases e : aR A j = aR A i
  · rw [e, va_is]
    have h3 := o4 i hi
    exact ⟨h1, h2, h3.2.2⟩
  · rw [va_no e]; exact this
theorem aCan_lt {A : axAD} (hO : aOk A) {i : Nat} (hi : i < aN A) : aCan A (aR A i) < aB A (aR A i) := by
  have := hO.b hi
  unfold aCan
  omega
section AX27
variable {ro : axRo} {d : Nat} {h h1 : axH} {B : axBD} {Y : axYD} {sl : Nat → Option Nat} {P : axPD} {G : axGD} {tl : axH} {A : axAD}
theorem x0_fitAct_bad {y : Int32} {e : Int32} (he : e < 0) (hc : axEv ro (d + 4) kX0_cutOf [.ref 1, .int y] (hX B Y sl P G tl) (some (.int e)) (hX B Y sl P G tl)) : axEv ro (d + 5) kX0_fitAct [.ref 1, .int y] (hX B Y sl P G tl) (some (.int e)) (hX B Y sl P G tl) := by
  refine ev_in rfl rfl (Nat.le_of_ble_eq_true rfl) rfl ?_
  refine wp_run rfl ?_
  refine wp_v1 rfl rfl (Nat.le_of_ble_eq_true rfl) (hc) ?_
  refine wp_run rfl ?_
  refine wp_ifge rfl (fun hz_ => absurd hz_ (Int32.not_le.mpr he)) (fun _ => ?_)
  refine wp_run rfl ?_
  exact wp_ret rfl rfl ⟨rfl, rfl⟩
theorem x0_fitAct_ok (hO : aOk A) (hC : CR B A) {a : Nat} (ha : a < aActs A) (hf : (aOff A a).toNat - aCut A a ≤ aSl A) : ∃ B', axEv ro (d + 5) kX0_fitAct [.ref 1, .int (nI a)] (hX B Y sl P G tl) (some (.int (nI (aCut A a)))) (hX (B') Y sl P G tl) ∧ CR B' (aFit A a) ∧ aOk (aFit A a) := by
  have hl := aActs_le A
  have hn := hO.n
  have hb := aOff_b hO a
  have hcut : aCut A a ≤ 2376 := by
    have : aCut A a ≤ (aOff A a).toNat := Nat.min_le_left _ _
    omega
  have hmono := aSt_mono A (show a ≤ a + 1 by omega)
  have hse := aSt_le A (a + 1)
  have hcv := x0_cutOf_in (ro := ro) (d := d) (Y := Y) (sl := sl) (P := P) (G := G) (tl := tl) hO hC ha
  rw [if_pos hf] at hcv
  have loop : ∀ m, aSt A a + m ≤ aN A → ∀ (left : Nat) (B1 : axBD) (A1 : axAD) (v6 v7 : Option Value), left ≤ 2376 → aOk A1 → CR B1 A1 → aN A1 = aN A → ∃ B', axW ro (axEv ro (d + 4)) cdX0_fitAct 35 [some (.ref 1), some (.int (nI a)), some (.int (nI (aCut A a))), some (.int (nI (aSt A a))), some (.int (nI left)), some (.int (nI (aSt A a + m) - 1)), v6, v7] [.int (nI (aSt A a)), .int (nI (aSt A a + m) - 1)] (hX (B1) Y sl P G tl) (fun r' h' => r' = some (.int (nI (aCut A a))) ∧ h' = hX (B') Y sl P G tl) ∧ CR B' (aFt (aSt A a) m left A1) ∧ aOk (aFt (aSt A a) m left A1) := by
    intro m
    induction m with
    | zero =>
      intro hm left B1 A1 v6 v7 hleft hO1 hC1 hn1
      refine ⟨B1, ?_, hC1, hO1⟩
      have e : nI (aSt A a + 0) - 1 < nI (aSt A a) := by
        rw [Nat.add_zero, Int32.lt_iff_toInt_lt]
        rcases Nat.eq_zero_or_pos (aSt A a) with z | z
        · rw [z]; decide
        · rw [nI_p1 z, nI_toInt (by omega), nI_toInt (by omega)]; omega
      refine wp_iclt rfl (fun _ => ?_) (fun hz_ => absurd (e) hz_)
      refine wp_run rfl ?_
      exact wp_ret rfl rfl ⟨rfl, rfl⟩
    | succ m ih =>
      intro hm left B1 A1 v6 v7 hleft hO1 hC1 hn1
      have hp : aSt A a + m < aN A1 := by omega
      rw [show nI (aSt A a + (m + 1)) - 1 = nI (aSt A a + m) from nI_pred (aSt A a + m)]
      by_cases hz : left = 0
      · refine ⟨B1, ?_, ?_, ?_⟩
        · refine wp_iclt rfl (fun hz_ => absurd hz_ (nI_nlt (show aSt A a ≤ aSt A a + m by omega) (by omega))) (fun _ => ?_)
          refine wp_run rfl ?_
          refine wp_ifle rfl (fun _ => ?_) (fun hz_ => absurd (by rw [hz]; decide) hz_)
          refine wp_run rfl ?_
          exact wp_ret rfl rfl ⟨rfl, rfl⟩
        · rw [aFt, if_pos hz]; exact hC1
        · rw [aFt, if_pos hz]; exact hO1
      · have hlt := aCan_lt hO1 hp
        have hbb := hO1.b hp
        have hO2 := aOk_bts hO1 hp (v := aB A1 (aR A1 (aSt A a + m)) - min left (aCan A1 (aR A1 (aSt A a + m)))) (by omega) (by omega)
        have hC2 := cr_bts (k := aR A1 (aSt A a + m)) (v := aB A1 (aR A1 (aSt A a + m)) - min left (aCan A1 (aR A1 (aSt A a + m)))) hC1
        obtain ⟨B', hw, hC3, hO3⟩ := ih (by omega) (left - min left (aCan A1 (aR A1 (aSt A a + m)))) _ _ (some (.int (nI (aR A1 (aSt A a + m))))) (some (.int (nI (min left (aCan A1 (aR A1 (aSt A a + m))))))) (by omega) hO2 hC2 hn1
        refine ⟨B', ?_, ?_, ?_⟩
        · refine wp_iclt rfl (fun hz_ => absurd hz_ (nI_nlt (show aSt A a ≤ aSt A a + m by omega) (by omega))) (fun _ => ?_)
          refine wp_run rfl ?_
          refine wp_ifle rfl (fun hz_ => absurd hz_ (nI_nle (show 0 < left by omega) (by omega))) (fun _ => ?_)
          refine wp_run rfl ?_
          refine wp_s2 rfl (Nat.le_of_ble_eq_true rfl) (x4_cell rfl (show aSt A a + m < 24 by omega) (by decide)) ?_
          refine wp_run rfl ?_
          rw [cr_rw hC1 hp]
          refine wp_v1 rfl rfl (Nat.le_of_ble_eq_true rfl) (x0_roomOf hO1 hC1 hp) ?_
          refine wp_run rfl ?_
          refine wp_min rfl (Nat.le_of_ble_eq_true rfl) ((nI_min (by omega) (by omega))) ?_
          refine wp_run rfl ?_
          refine wp_v1 rfl rfl (Nat.le_of_ble_eq_true rfl) (x0_beatsOf hO1 hC1 hp) ?_
          refine wp_run rfl ?_
          rw [pk_sub (show min left (aCan A1 (aR A1 (aSt A a + m))) ≤ aB A1 (aR A1 (aSt A a + m)) by omega)]
          refine wp_s3v rfl (Nat.le_of_ble_eq_true rfl) (x4_store (h1 := hX (bBt_ B1 (upd (bBt B1) (aR A1 (aSt A a + m)) (nI (aB A1 (aR A1 (aSt A a + m)) - min left (aCan A1 (aR A1 (aSt A a + m))))))) Y sl P G tl) rfl (hO1.r hp) (by decide) rfl) ?_
          refine wp_run rfl ?_
          rw [pk_sub (show min left (aCan A1 (aR A1 (aSt A a + m))) ≤ left by omega), show nI (aSt A a + m) + (-1) = nI (aSt A a + m) - 1 by rw [Int32.sub_eq_add_neg]]
          exact hw
        · rw [aFt, if_neg hz]; exact hC3
        · rw [aFt, if_neg hz]; exact hO3
  obtain ⟨B', hw, hC3, hO3⟩ := loop (aSt A (a + 1) - aSt A a) (by omega) (aCut A a) B A none none hcut hO hC rfl
  rw [show aSt A a + (aSt A (a + 1) - aSt A a) = aSt A (a + 1) by omega] at hw
  refine ⟨B', ?_, hC3, hO3⟩
  refine ev_in rfl rfl (Nat.le_of_ble_eq_true rfl) rfl ?_
  refine wp_run rfl ?_
  refine wp_v1 rfl rfl (Nat.le_of_ble_eq_true rfl) (hcv) ?_
  refine wp_run rfl ?_
  refine wp_ifge rfl (fun _ => ?_) (fun hz_ => absurd (nI_pos' (by omega)) hz_)
  refine wp_run rfl ?_
  refine wp_v1 rfl rfl (Nat.le_of_ble_eq_true rfl) (x0_startOf hO hC (by omega)) ?_
  refine wp_run rfl ?_
  rw [nI_1]
  refine wp_v1 rfl rfl (Nat.le_of_ble_eq_true rfl) (x0_startOf hO hC (by omega)) ?_
  refine wp_run rfl ?_
  exact hw
end AX27
