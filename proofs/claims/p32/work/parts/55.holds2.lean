/-! THE LAW: what holds of every slug of a board. -/
section AX55
variable {ro : axRo} {d m : Nat} {h : axH} {V : axV}
set_option maxRecDepth 40000 in
/-- one slug: all that is told of it holds, and what it needs first is in order -/
theorem L_h1b (hx : XS V [] m h) {k : Nat} (hk : k < (aN (vA V))) (u2 : Option Value) (fin : axW ro (axEv ro (d + 8)) cdL_holds 290 [some (.ref 0), some (.int (nI (aN (vA V)))), some (.int (aSet (vA V) k)), some (.int (nI (aBeg (vA V) k))), some (.int (nI (aAct (vA V) k))), some (.int 0), some (.int 0), some (.int 0), some (.int 0), some (.int (nI k)), some (.int (nI (aR (vA V) k))), u2, some (.int (aClo (vA V) (aN (vA V)) (aD (vA V) (aR (vA V) k)))), some (.int 1), some (.int (nI 24))] [.int 1] h (fun r' h' => r' = some (.int 1) ∧ h' = h)) : ∀ (j q : Nat), q + j = 24 → axW ro (axEv ro (d + 8)) cdL_holds 222 [some (.ref 0), some (.int (nI (aN (vA V)))), some (.int (aSet (vA V) k)), some (.int (nI (aBeg (vA V) k))), some (.int (nI (aAct (vA V) k))), some (.int 0), some (.int 0), some (.int 0), some (.int 0), some (.int (nI k)), some (.int (nI (aR (vA V) k))), u2, some (.int (aClo (vA V) (aN (vA V)) (aD (vA V) (aR (vA V) k)))), some (.int 1), some (.int (nI q))] [.int 24, .int (nI q)] h (fun r' h' => r' = some (.int 1) ∧ h' = h) := by
  obtain ⟨f0, e0⟩ := XS_o4 hx
  have hO := XS_ok hx
  have hn := hO.n
  have hr := hO.r hk
  intro j
  induction j with
  | zero =>
    intro q e
    have e : q = 24 := by omega
    subst e
    refine wp_icge rfl (fun _ => ?_) (fun hz_ => absurd ((Int32.le_refl _ : (24 : Int32) ≤ nI 24)) hz_)
    refine wp_run rfl ?_
    exact fin
  | succ j ih =>
    intro q e
    refine wp_icge rfl (fun hz_ => absurd hz_ (nI_ge (a := q) (b := 24) (by omega) (by omega))) (fun _ => ?_)
    refine wp_run rfl ?_
    refine wp_ifeq rfl (fun hz_ => absurd hz_ ((by decide : ¬ (1 : Int32) = 0))) (fun _ => ?_)
    refine wp_run rfl ?_
    refine wp_v2 rfl e0 (Nat.le_of_ble_eq_true rfl) (L_of (d := d + 2) hx hk 4 (by decide)) ?_
    refine wp_run rfl ?_
    have eb : (ofV (vA V) k 4 >>> (nI q &&& 31)) &&& 1 = if bt (aD (vA V) (aR (vA V) k)) q = true then 1 else 0 := bt_has (by omega)
    by_cases hb : bt (aD (vA V) (aR (vA V) k)) q = true
    · rw [if_pos hb] at eb
      obtain ⟨i, hi, ei⟩ := hO.d hk hb
      have hin : i < (aN (vA V)) := by omega
      have o5 : axEv ro (d + 8) kX4_of [.ref 0, .int (nI q), .int (nI 5)] h (some (.int (aNdr (vA V) q (aN (vA V))))) h := by
        rw [← ei]; exact L_of (d := d + 2) hx hin 5 (by decide)
      have o6 : axEv ro (d + 8) kX4_needs [.ref 0, .int (nI q)] h (some (.int (aClo (vA V) (aN (vA V)) (aD (vA V) q)))) h := by
        rw [← ei]; exact L_needs (d := d + 2) hx hin
      refine wp_ifeq rfl (fun hz_ => absurd hz_ (by rw [eb]; decide)) (fun _ => ?_)
      refine wp_run rfl ?_
      refine wp_v2 rfl e0 (Nat.le_of_ble_eq_true rfl) (o5) ?_
      refine wp_run rfl ?_
      refine wp_icne rfl (fun hz_ => absurd hz_ (fun z => z (by rw [bt_has (by omega), if_pos ((bt_aNdr hO q (aR (vA V) k) _ (Nat.le_refl _)).mpr ⟨k, hk, rfl, hb⟩)]))) (fun _ => ?_)
      refine wp_run rfl ?_
      refine wp_v1 rfl e0 (Nat.le_of_ble_eq_true rfl) (o6) ?_
      refine wp_run rfl ?_
      refine wp_ifne rfl (fun hz_ => absurd hz_ (fun z => z (b_sub (by rw [← ei] at hb ⊢; exact pu_clo3 hO hin hb)))) (fun _ => ?_)
      refine wp_run rfl ?_
      rw [nI_1]
      exact ih (q + 1) (by omega)
    · rw [if_neg hb] at eb
      refine wp_ifeq rfl (fun _ => ?_) (fun hz_ => absurd (eb) hz_)
      refine wp_run rfl ?_
      rw [nI_1]
      exact ih (q + 1) (by omega)
set_option maxRecDepth 40000 in
theorem L_h1 (hx : XS V [] m h) : ∀ (j k : Nat), k + j = (aN (vA V)) → ∀ u1 u2 u3 u4 u5 : Option Value, axW ro (axEv ro (d + 8)) cdL_holds 30 [some (.ref 0), some (.int (nI (aN (vA V)))), some (.int (aSet (vA V) k)), some (.int (nI (aBeg (vA V) k))), some (.int (nI (aAct (vA V) k))), some (.int 0), some (.int 0), some (.int 0), some (.int 0), some (.int (nI k)), u1, u2, u3, u4, u5] [.int (nI (aN (vA V))), .int (nI k)] h (fun r' h' => r' = some (.int 1) ∧ h' = h) := by
  obtain ⟨f0, e0⟩ := XS_o4 hx
  have hO := XS_ok hx
  have hn := hO.n
  intro j
  induction j with
  | zero =>
    intro k e u1 u2 u3 u4 u5
    have e : k = (aN (vA V)) := by omega
    subst e
    refine wp_icge rfl (fun _ => ?_) (fun hz_ => absurd (Int32.le_refl _) hz_)
    refine wp_run rfl ?_
    refine wp_v1 rfl e0 (Nat.le_of_ble_eq_true rfl) (L_cnt (d := d + 1) hx 1 (by decide)) ?_
    refine wp_run rfl ?_
    have key := L_h2 (ro := ro) (d := d) hx (aActs (vA V)) 0 (by omega) u2 u3 u4 u5
    rw [aSt_0] at key
    exact key
  | succ j ih =>
    intro k e u1 u2 u3 u4 u5
    have hk : k < (aN (vA V)) := by omega
    have hr := hO.r hk
    have hb := hO.b hk
    have hc := aCan_lt hO hk
    refine wp_icge rfl (fun hz_ => absurd hz_ (nI_ge hk (by omega))) (fun _ => ?_)
    refine wp_run rfl ?_
    refine wp_v1 rfl e0 (Nat.le_of_ble_eq_true rfl) (L_at (d := d + 2) hx hk) ?_
    refine wp_run rfl ?_
    refine wp_v2 rfl e0 (Nat.le_of_ble_eq_true rfl) (L_of (d := d + 2) hx hk 8 (by decide)) ?_
    refine wp_run rfl ?_
    refine wp_v1 rfl e0 (Nat.le_of_ble_eq_true rfl) (L_needs (d := d + 2) hx hk) ?_
    refine wp_run rfl ?_
    refine wp_ifne rfl (fun hz_ => absurd hz_ (fun z => z (by rw [bt_has (by omega), pu_ahead hO hk]; rfl))) (fun _ => ?_)
    refine wp_run rfl ?_
    refine wp_v2 rfl e0 (Nat.le_of_ble_eq_true rfl) (L_of (d := d + 2) hx hk 0 (by decide)) ?_
    refine wp_run rfl ?_
    refine wp_icne rfl (fun hz_ => absurd hz_ ((fun z => z rfl))) (fun _ => ?_)
    refine wp_run rfl ?_
    refine wp_v2 rfl e0 (Nat.le_of_ble_eq_true rfl) (L_of (d := d + 2) hx hk 2 (by decide)) ?_
    refine wp_run rfl ?_
    refine wp_iclt rfl (fun hz_ => absurd hz_ (nI_nlt (b := 1) hb.1 (by omega))) (fun _ => ?_)
    refine wp_run rfl ?_
    refine wp_v2 rfl e0 (Nat.le_of_ble_eq_true rfl) (L_of (d := d + 2) hx hk 2 (by decide)) ?_
    refine wp_run rfl ?_
    refine wp_v2 rfl e0 (Nat.le_of_ble_eq_true rfl) (L_of (d := d + 2) hx hk 1 (by decide)) ?_
    refine wp_run rfl ?_
    refine wp_icgt rfl (fun hz_ => absurd hz_ (nI_nlt hb.2.1 (by omega))) (fun _ => ?_)
    refine wp_run rfl ?_
    refine wp_v2 rfl e0 (Nat.le_of_ble_eq_true rfl) (L_of (d := d + 2) hx hk 4 (by decide)) ?_
    refine wp_run rfl ?_
    refine wp_ifne rfl (fun hz_ => absurd hz_ (fun z => z (b_sub (pu_need hO hk)))) (fun _ => ?_)
    refine wp_run rfl ?_
    refine wp_v2 rfl e0 (Nat.le_of_ble_eq_true rfl) (L_of (d := d + 2) hx hk 4 (by decide)) ?_
    refine wp_run rfl ?_
    refine wp_ifne rfl (fun hz_ => absurd hz_ (fun z => z (b_sub (pu_clo1 k)))) (fun _ => ?_)
    refine wp_run rfl ?_
    refine wp_ifne rfl (fun hz_ => absurd hz_ (fun z => z (b_sub (pu_clo2 hO hk)))) (fun _ => ?_)
    refine wp_run rfl ?_
    refine wp_v2 rfl e0 (Nat.le_of_ble_eq_true rfl) (L_of (d := d + 2) hx hk 6 (by decide)) ?_
    refine wp_run rfl ?_
    refine wp_icne rfl (fun hz_ => absurd hz_ ((fun z => z rfl))) (fun _ => ?_)
    refine wp_run rfl ?_
    refine wp_v1 rfl e0 (Nat.le_of_ble_eq_true rfl) (L_atB (d := d + 2) hx hk) ?_
    refine wp_run rfl ?_
    refine wp_icne rfl (fun hz_ => absurd hz_ ((fun z => z rfl))) (fun _ => ?_)
    refine wp_run rfl ?_
    refine wp_icne rfl (fun hz_ => absurd hz_ ((fun z => z rfl))) (fun _ => ?_)
    refine wp_run rfl ?_
    refine wp_v2 rfl e0 (Nat.le_of_ble_eq_true rfl) (L_of (d := d + 2) hx hk 9 (by decide)) ?_
    refine wp_run rfl ?_
    refine wp_v2 rfl e0 (Nat.le_of_ble_eq_true rfl) (L_of (d := d + 2) hx hk 2 (by decide)) ?_
    refine wp_run rfl ?_
    refine wp_icge rfl (fun hz_ => absurd hz_ (nI_ge hc (by omega))) (fun _ => ?_)
    refine wp_run rfl ?_
    refine wp_v1 rfl e0 (Nat.le_of_ble_eq_true rfl) (L_places (d := d + 2) hx hk) ?_
    refine wp_run rfl ?_
    refine wp_icne rfl (fun hz_ => absurd hz_ (fun z => z (by rw [pu_place hO hk, if_pos ⟨aLo_le hO hk, aHi_gt hO hk⟩]))) (fun _ => ?_)
    refine wp_run rfl ?_
    refine L_h1b hx hk _ ?_ 24 0 rfl
    refine wp_ifne rfl (fun _ => ?_) (fun hz_ => absurd (by decide) hz_)
    refine wp_run rfl ?_
    refine wp_v2 rfl e0 (Nat.le_of_ble_eq_true rfl) (L_of (d := d + 2) hx hk 2 (by decide)) ?_
    refine wp_run rfl ?_
    refine wp_v2 rfl e0 (Nat.le_of_ble_eq_true rfl) (L_of (d := d + 2) hx hk 3 (by decide)) ?_
    refine wp_run rfl ?_
    rw [show nI (aBeg (vA V) k) + ofV (vA V) k 2 = nI (aBeg (vA V) (k + 1)) from nI_add _ _, show nI (aAct (vA V) k) + ofV (vA V) k 3 = nI (aAct (vA V) (k + 1)) from by
      show nI (aAct (vA V) k) + (if aT (vA V) (aR (vA V) k) = true then 1 else 0) = _
      rw [aAct_s]
      split
      · rw [nI_1]
      · rw [Nat.add_zero]; exact Int32.add_zero _, nI_1]
    exact ih (k + 1) (by omega) _ _ _ _ _
theorem L_holds (hx : XS V [] m h) : axEv ro (d + 9) kL_holds [.ref 0] h (some (.int 1)) h := by
  refine ev_in rfl rfl (Nat.le_of_ble_eq_true rfl) rfl ?_
  refine wp_run rfl ?_
  refine wp_s1 rfl (Nat.le_of_ble_eq_true rfl) (L_many (d := d + 1) hx) ?_
  refine wp_run rfl ?_
  exact L_h1 hx (aN (vA V)) 0 (by omega) none none none none none
end AX55
