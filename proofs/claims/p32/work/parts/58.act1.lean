/-! THE LAW: its acts (1): drop, turn, need, trim, restoreTail, moves, swap, fits. -/
section AX58
variable {ro : axRo} {d m : Nat} {h : axH} {V : axV} {v w : Int32} {s i j : Nat}
set_option maxRecDepth 40000 in
theorem A_drop (hx : XS V [] m h) (hi : i < aN (vA V)) : ∃ V' h', axW ro (axEv ro (d + 9)) cdL_act 218 [some (.ref 0), some (.int v), some (.int w), some (.int (nI (aN (vA V)))), some (.int (nI s)), some (.int (nI (aR (vA V) i))), some (.int (nI (aR (vA V) j))), some (.int (cntA (vA V) 2)), some (.int (cntA (vA V) 1)), none, none, none, none, none, none, none] [.int 2, .int (nI (aR (vA V) i)), .ref 0] h (fun r' h'' => r' = some (.int 1) ∧ h'' = h') ∧ XS V' [] (m + 1200) h' := by
  have hO := XS_ok hx
  have hn := hO.n
  obtain ⟨f0, e0⟩ := XS_o4 hx
  obtain ⟨h1, ev1, x1⟩ := x4_drop (ro := ro) (d := d + 3) (mc := []) (x := nI (aR (vA V) i)) (r := nI (aN (vA V) - 1)) (A' := aDrop (vA V) i) rfl hx (Or.inr ⟨i, ⟨hi, rfl⟩, rfl, rfl⟩)
  rw [stp_n (by omega)] at x1
  obtain ⟨f1, e1⟩ := XS_o4 x1
  refine ⟨_, h1, ?_, XS_more (by omega) x1⟩
  refine wp_v2 rfl e0 (Nat.le_of_ble_eq_true rfl) (L_of (d := d + 3) hx hi 2 (by decide)) ?_
  refine wp_run rfl ?_
  refine wp_v1 rfl e0 (Nat.le_of_ble_eq_true rfl) (ev1) ?_
  refine wp_run rfl ?_
  refine wp_icne rfl (fun hz_ => absurd hz_ (fun z => z (nI_p1 (by omega)).symm)) (fun _ => ?_)
  refine wp_run rfl ?_
  refine wp_v2 rfl e1 (Nat.le_of_ble_eq_true rfl) (L_ofN (d := d + 3) x1 (pu_drop_no hO hi)) ?_
  refine wp_run rfl ?_
  refine wp_icne rfl (fun hz_ => absurd hz_ ((fun z => z rfl))) (fun _ => ?_)
  refine wp_run rfl ?_
  refine wp_v1 rfl e1 (Nat.le_of_ble_eq_true rfl) (L_cnt (d := d + 2) x1 2 (by decide)) ?_
  refine wp_run rfl ?_
  refine wp_icne rfl (fun hz_ => absurd hz_ (fun z => z (show nI (aBeg (aDrop (vA V) i) (aN (vA V) - 1)) = nI (aBeg (vA V) (aN (vA V))) - nI (aB (vA V) (aR (vA V) i)) by have := pu_drop_n hi; rw [pk_sub (by omega)]; congr 1; omega))) (fun _ => ?_)
  refine wp_run rfl ?_
  exact wp_ret rfl rfl ⟨rfl, rfl⟩
set_option maxRecDepth 40000 in
theorem A_turn (hx : XS V [] m h) (hi : i < aN (vA V)) : ∃ V' h', axW ro (axEv ro (d + 9)) cdL_act 275 [some (.ref 0), some (.int v), some (.int w), some (.int (nI (aN (vA V)))), some (.int (nI s)), some (.int (nI (aR (vA V) i))), some (.int (nI (aR (vA V) j))), some (.int (cntA (vA V) 2)), some (.int (cntA (vA V) 1)), none, none, none, none, none, none, none] [.int (nI (aR (vA V) i)), .ref 0] h (fun r' h'' => r' = some (.int 1) ∧ h'' = h') ∧ XS V' [] (m + 1200) h' := by
  obtain ⟨f0, e0⟩ := XS_o4 hx
  by_cases ht : aT (vA V) (aR (vA V) i) = true
  · have o3 : ofV (vA V) i 3 = 1 := if_pos ht
    have t1 : aT (aFlip (vA V) (aR (vA V) i)) (aR (vA V) i) = false := by
      show (if aR (vA V) i = aR (vA V) i then !aT (vA V) (aR (vA V) i) else aT (vA V) (aR (vA V) i)) = false
      rw [if_pos rfl, ht]; rfl
    obtain ⟨h1, ev1, x1⟩ := x4_turn (ro := ro) (d := d + 3) (mc := []) (x := nI (aR (vA V) i)) (r := 0) (A' := aFlip (vA V) (aR (vA V) i)) rfl hx (Or.inr ⟨i, ⟨hi, rfl⟩, (if_pos ht).symm, rfl⟩)
    rw [show stp V 0 (aFlip (vA V) (aR (vA V) i)) = stpN V (aFlip (vA V) (aR (vA V) i)) from if_neg (by decide)] at x1
    obtain ⟨f1, e1⟩ := XS_o4 x1
    refine ⟨_, h1, ?_, XS_more (by omega) x1⟩
    refine wp_v1 rfl e0 (Nat.le_of_ble_eq_true rfl) (L_turned (d := d + 3) hx hi) ?_
    refine wp_run rfl ?_
    refine wp_v2 rfl e0 (Nat.le_of_ble_eq_true rfl) (L_of (d := d + 3) hx hi 3 (by decide)) ?_
    refine wp_run rfl ?_
    refine wp_v1 rfl e0 (Nat.le_of_ble_eq_true rfl) (ev1) ?_
    refine wp_run rfl ?_
    refine wp_icne rfl (fun hz_ => absurd hz_ (fun z => z (by rw [o3]; decide))) (fun _ => ?_)
    refine wp_run rfl ?_
    refine wp_v2 rfl e1 (Nat.le_of_ble_eq_true rfl) (L_of (d := d + 3) x1 (i := i) hi 3 (by decide)) ?_
    refine wp_run rfl ?_
    refine wp_icne rfl (fun hz_ => absurd hz_ (fun z => z (show (if aT (aFlip (vA V) (aR (vA V) i)) (aR (vA V) i) = true then (1 : Int32) else 0) = 1 - ofV (vA V) i 3 by rw [t1, o3]; decide))) (fun _ => ?_)
    refine wp_run rfl ?_
    refine wp_v1 rfl e1 (Nat.le_of_ble_eq_true rfl) (L_cnt (d := d + 2) x1 4 (by decide)) ?_
    refine wp_run rfl ?_
    refine wp_icne rfl (fun hz_ => absurd hz_ ((fun z => z rfl))) (fun _ => ?_)
    refine wp_run rfl ?_
    exact wp_ret rfl rfl ⟨rfl, rfl⟩
  · have o3 : ofV (vA V) i 3 = 0 := if_neg ht
    have t1 : aT (aFlip (vA V) (aR (vA V) i)) (aR (vA V) i) = true := by
      show (if aR (vA V) i = aR (vA V) i then !aT (vA V) (aR (vA V) i) else aT (vA V) (aR (vA V) i)) = true
      rw [if_pos rfl, Bool.eq_false_iff.mpr ht]; rfl
    obtain ⟨h1, ev1, x1⟩ := x4_turn (ro := ro) (d := d + 3) (mc := []) (x := nI (aR (vA V) i)) (r := 1) (A' := aFlip (vA V) (aR (vA V) i)) rfl hx (Or.inr ⟨i, ⟨hi, rfl⟩, (if_neg ht).symm, rfl⟩)
    rw [show stp V 1 (aFlip (vA V) (aR (vA V) i)) = stpN V (aFlip (vA V) (aR (vA V) i)) from if_neg (by decide)] at x1
    obtain ⟨f1, e1⟩ := XS_o4 x1
    refine ⟨_, h1, ?_, XS_more (by omega) x1⟩
    refine wp_v1 rfl e0 (Nat.le_of_ble_eq_true rfl) (L_turned (d := d + 3) hx hi) ?_
    refine wp_run rfl ?_
    refine wp_v2 rfl e0 (Nat.le_of_ble_eq_true rfl) (L_of (d := d + 3) hx hi 3 (by decide)) ?_
    refine wp_run rfl ?_
    refine wp_v1 rfl e0 (Nat.le_of_ble_eq_true rfl) (ev1) ?_
    refine wp_run rfl ?_
    refine wp_icne rfl (fun hz_ => absurd hz_ (fun z => z (by rw [o3]; decide))) (fun _ => ?_)
    refine wp_run rfl ?_
    refine wp_v2 rfl e1 (Nat.le_of_ble_eq_true rfl) (L_of (d := d + 3) x1 (i := i) hi 3 (by decide)) ?_
    refine wp_run rfl ?_
    refine wp_icne rfl (fun hz_ => absurd hz_ (fun z => z (show (if aT (aFlip (vA V) (aR (vA V) i)) (aR (vA V) i) = true then (1 : Int32) else 0) = 1 - ofV (vA V) i 3 by rw [t1, o3]; decide))) (fun _ => ?_)
    refine wp_run rfl ?_
    refine wp_v1 rfl e1 (Nat.le_of_ble_eq_true rfl) (L_cnt (d := d + 2) x1 4 (by decide)) ?_
    refine wp_run rfl ?_
    refine wp_icne rfl (fun hz_ => absurd hz_ ((fun z => z rfl))) (fun _ => ?_)
    refine wp_run rfl ?_
    exact wp_ret rfl rfl ⟨rfl, rfl⟩
set_option maxRecDepth 40000 in
theorem A_need (hx : XS V [] m h) (hi : i < aN (vA V)) (hj : j < aN (vA V)) : ∃ V' h', axW ro (axEv ro (d + 9)) cdL_act 343 [some (.ref 0), some (.int v), some (.int w), some (.int (nI (aN (vA V)))), some (.int (nI s)), some (.int (nI (aR (vA V) i))), some (.int (nI (aR (vA V) j))), some (.int (cntA (vA V) 2)), some (.int (cntA (vA V) 1)), none, none, none, none, none, none, none] [.int 4, .int (nI (aR (vA V) i)), .ref 0] h (fun r' h'' => r' = some (.int 1) ∧ h'' = h') ∧ XS V' [] (m + 1200) h' := by
  have hO := XS_ok hx
  have hn := hO.n
  have hrj := hO.r hj
  obtain ⟨f0, e0⟩ := XS_o4 hx
  have eb : (ofV (vA V) i 4 >>> (nI (aR (vA V) j) &&& 31)) &&& 1 = if nd (vA V) i j = true then 1 else 0 := bt_has (by omega)
  by_cases hij : i = j
  · subst hij
    have hnd : nd (vA V) i i = false := by
      cases hb : nd (vA V) i i with
      | false => rfl
      | true => exact absurd (nd_lt hO hi hi hb) (Nat.lt_irrefl _)
    rw [hnd] at eb
    obtain ⟨h1, ev1, x1⟩ := x4_need (ro := ro) (d := d + 3) (mc := []) (x := nI (aR (vA V) i)) (y := nI (aR (vA V) i)) (r := -2) (A' := vA V) rfl hx (Or.inr ⟨i, i, ⟨hi, rfl⟩, ⟨hi, rfl⟩, Or.inl ⟨rfl, rfl, rfl⟩⟩)
    rw [stp_e m2_neg] at x1
    obtain ⟨f1, e1⟩ := XS_o4 x1
    refine ⟨_, h1, ?_, XS_more (by omega) x1⟩
    refine wp_v2 rfl e0 (Nat.le_of_ble_eq_true rfl) (L_of (d := d + 3) hx hi 4 (by decide)) ?_
    refine wp_run rfl ?_
    refine wp_v2 rfl e0 (Nat.le_of_ble_eq_true rfl) (ev1) ?_
    refine wp_run rfl ?_
    refine wp_iceq rfl (fun hz_ => absurd hz_ (by rw [eb]; decide)) (fun _ => ?_)
    refine wp_run rfl ?_
    refine wp_v2 rfl e1 (Nat.le_of_ble_eq_true rfl) (L_of (d := d + 3) x1 hi 0 (by decide)) ?_
    refine wp_run rfl ?_
    refine wp_v2 rfl e1 (Nat.le_of_ble_eq_true rfl) (L_of (d := d + 3) x1 hi 0 (by decide)) ?_
    refine wp_run rfl ?_
    refine wp_icge rfl (fun _ => ?_) (fun hz_ => absurd (Int32.le_refl _) hz_)
    refine wp_run rfl ?_
    refine wp_icne rfl (fun hz_ => absurd hz_ ((fun z => z rfl))) (fun _ => ?_)
    refine wp_run rfl ?_
    refine wp_icne rfl (fun hz_ => absurd hz_ ((fun z => z rfl))) (fun _ => ?_)
    refine wp_run rfl ?_
    exact wp_ret rfl rfl ⟨rfl, rfl⟩
  · have hne := aR_ne hO hi hj hij
    by_cases hm : nd (vA V) i j = true ∨ j < i
    · have hpc : pcN (aD (vA V) (aR (vA V) i) ^^^ bi (aR (vA V) j)) < 2 ^ 31 := Nat.lt_of_le_of_lt (bc_le _ _) (by decide)
      obtain ⟨h1, ev1, x1⟩ := x4_need (ro := ro) (d := d + 3) (mc := []) (x := nI (aR (vA V) i)) (y := nI (aR (vA V) j)) (r := nI (pcN (aD (vA V) (aR (vA V) i) ^^^ bi (aR (vA V) j)))) (A' := aSetD (vA V) (aR (vA V) i) (aD (vA V) (aR (vA V) i) ^^^ bi (aR (vA V) j))) rfl hx (Or.inr ⟨i, j, ⟨hi, rfl⟩, ⟨hj, rfl⟩, Or.inr (Or.inr ⟨hij, hm, rfl, rfl⟩)⟩)
      rw [stp_n hpc] at x1
      obtain ⟨f1, e1⟩ := XS_o4 x1
      refine ⟨_, h1, ?_, XS_more (by omega) x1⟩
      have t : axW ro (axEv ro (d + 9)) cdL_act 397 [some (.ref 0), some (.int v), some (.int w), some (.int (nI (aN (vA V)))), some (.int (nI s)), some (.int (nI (aR (vA V) i))), some (.int (nI (aR (vA V) j))), some (.int (cntA (vA V) 2)), some (.int (cntA (vA V) 1)), some (.int (ofV (vA V) i 4)), some (.int (nI (pcN (aD (vA V) (aR (vA V) i) ^^^ bi (aR (vA V) j))))), some (.int 1), none, none, none, none] [.int (nI (aR (vA V) j)), .int (nI (aR (vA V) i))] h1 (fun r' h'' => r' = some (.int 1) ∧ h'' = h1) := by
        refine wp_icne rfl (fun _ => ?_) (fun hz_ => absurd (hne) hz_)
        refine wp_run rfl ?_
        refine wp_ifeq rfl (fun hz_ => absurd hz_ ((by decide : ¬ (1 : Int32) = 0))) (fun _ => ?_)
        refine wp_run rfl ?_
        refine wp_v2 rfl e1 (Nat.le_of_ble_eq_true rfl) (L_of (d := d + 3) x1 (i := i) hi 4 (by decide)) ?_
        refine wp_run rfl ?_
        refine wp_icne rfl (fun hz_ => absurd hz_ (fun z => z (show va_up (aD (vA V)) (aR (vA V) i) (aD (vA V) (aR (vA V) i) ^^^ bi (aR (vA V) j)) (aR (vA V) i) = aD (vA V) (aR (vA V) i) ^^^ bi (aR (vA V) j) from va_is))) (fun _ => ?_)
        refine wp_run rfl ?_
        refine wp_iflt rfl (fun hz_ => absurd hz_ (nI_pos hpc)) (fun _ => ?_)
        refine wp_run rfl ?_
        exact wp_ret rfl rfl ⟨rfl, rfl⟩
      refine wp_v2 rfl e0 (Nat.le_of_ble_eq_true rfl) (L_of (d := d + 3) hx hi 4 (by decide)) ?_
      refine wp_run rfl ?_
      refine wp_v2 rfl e0 (Nat.le_of_ble_eq_true rfl) (ev1) ?_
      refine wp_run rfl ?_
      by_cases hb : nd (vA V) i j = true
      · rw [if_pos hb] at eb
        refine wp_iceq rfl (fun _ => ?_) (fun hz_ => absurd (eb) hz_)
        refine wp_run rfl ?_
        exact t
      · rw [if_neg hb] at eb
        have hji : j < i := hm.resolve_left hb
        refine wp_iceq rfl (fun hz_ => absurd hz_ (by rw [eb]; decide)) (fun _ => ?_)
        refine wp_run rfl ?_
        refine wp_v2 rfl e1 (Nat.le_of_ble_eq_true rfl) (L_of (d := d + 3) x1 (i := j) hj 0 (by decide)) ?_
        refine wp_run rfl ?_
        refine wp_v2 rfl e1 (Nat.le_of_ble_eq_true rfl) (L_of (d := d + 3) x1 (i := i) hi 0 (by decide)) ?_
        refine wp_run rfl ?_
        refine wp_icge rfl (fun hz_ => absurd hz_ (nI_ge hji (by omega))) (fun _ => ?_)
        refine wp_run rfl ?_
        exact t
    · have hnd : nd (vA V) i j = false := by
        cases hb : nd (vA V) i j with
        | false => rfl
        | true => exact absurd (Or.inl hb) hm
      have hlt : i < j := Nat.lt_of_le_of_ne (Nat.not_lt.mp fun z => hm (Or.inr z)) hij
      rw [hnd] at eb
      obtain ⟨h1, ev1, x1⟩ := x4_need (ro := ro) (d := d + 3) (mc := []) (x := nI (aR (vA V) i)) (y := nI (aR (vA V) j)) (r := -5) (A' := vA V) rfl hx (Or.inr ⟨i, j, ⟨hi, rfl⟩, ⟨hj, rfl⟩, Or.inr (Or.inl ⟨hlt, hnd, rfl, rfl⟩)⟩)
      rw [stp_e m5_neg] at x1
      obtain ⟨f1, e1⟩ := XS_o4 x1
      refine ⟨_, h1, ?_, XS_more (by omega) x1⟩
      refine wp_v2 rfl e0 (Nat.le_of_ble_eq_true rfl) (L_of (d := d + 3) hx hi 4 (by decide)) ?_
      refine wp_run rfl ?_
      refine wp_v2 rfl e0 (Nat.le_of_ble_eq_true rfl) (ev1) ?_
      refine wp_run rfl ?_
      refine wp_iceq rfl (fun hz_ => absurd hz_ (by rw [eb]; decide)) (fun _ => ?_)
      refine wp_run rfl ?_
      refine wp_v2 rfl e1 (Nat.le_of_ble_eq_true rfl) (L_of (d := d + 3) x1 hj 0 (by decide)) ?_
      refine wp_run rfl ?_
      refine wp_v2 rfl e1 (Nat.le_of_ble_eq_true rfl) (L_of (d := d + 3) x1 hi 0 (by decide)) ?_
      refine wp_run rfl ?_
      refine wp_icge rfl (fun _ => ?_) (fun hz_ => absurd (nI_le (by omega) (by omega)) hz_)
      refine wp_run rfl ?_
      refine wp_icne rfl (fun _ => ?_) (fun hz_ => absurd (hne) hz_)
      refine wp_run rfl ?_
      refine wp_ifeq rfl (fun _ => ?_) (fun hz_ => absurd (rfl) hz_)
      refine wp_run rfl ?_
      refine wp_icne rfl (fun hz_ => absurd hz_ ((fun z => z rfl))) (fun _ => ?_)
      refine wp_run rfl ?_
      refine wp_v2 rfl e1 (Nat.le_of_ble_eq_true rfl) (L_of (d := d + 3) x1 hi 4 (by decide)) ?_
      refine wp_run rfl ?_
      refine wp_icne rfl (fun hz_ => absurd hz_ ((fun z => z rfl))) (fun _ => ?_)
      refine wp_run rfl ?_
      exact wp_ret rfl rfl ⟨rfl, rfl⟩
set_option maxRecDepth 40000 in
theorem A_trim (hx : XS V [] m h) (hi : i < aN (vA V)) : ∃ V' h', axW ro (axEv ro (d + 9)) cdL_act 483 [some (.ref 0), some (.int v), some (.int w), some (.int (nI (aN (vA V)))), some (.int (nI s)), some (.int (nI (aR (vA V) i))), some (.int (nI (aR (vA V) j))), some (.int (cntA (vA V) 2)), some (.int (cntA (vA V) 1)), none, none, none, none, none, none, none] [.ref 0] h (fun r' h'' => r' = some (.int 1) ∧ h'' = h') ∧ XS V' [] (m + 1200) h' := by
  have hO := XS_ok hx
  have hn := hO.n
  have hb := hO.b hi
  have hc := aCan_lt hO hi
  obtain ⟨f0, e0⟩ := XS_o4 hx
  obtain ⟨t, ht, evl⟩ := L_low (ro := ro) (d := d + 8) (h := h) (w >>> ((5 : Int32) &&& 31)) (n := 30) (by decide) (by decide)
  have pre : ∀ Q : Option Value → axH → Prop, axW ro (axEv ro (d + 9)) cdL_act 543 [some (.ref 0), some (.int v), some (.int w), some (.int (nI (aN (vA V)))), some (.int (nI s)), some (.int (nI (aR (vA V) i))), some (.int (nI (aR (vA V) j))), some (.int (cntA (vA V) 2)), some (.int (cntA (vA V) 1)), some (.long (tale (vA V))), none, some (.int (ofV (vA V) i 9)), some (.int (nI (1 + t))), some (.int (ofV (vA V) i 2)), some (.int (if aB (vA V) (aR (vA V) i) = aW (vA V) (aR (vA V) i) then 1 else 0)), none] [.int (nI (1 + t)), .int (nI (aR (vA V) i)), .ref 0] h Q → axW ro (axEv ro (d + 9)) cdL_act 483 [some (.ref 0), some (.int v), some (.int w), some (.int (nI (aN (vA V)))), some (.int (nI s)), some (.int (nI (aR (vA V) i))), some (.int (nI (aR (vA V) j))), some (.int (cntA (vA V) 2)), some (.int (cntA (vA V) 1)), none, none, none, none, none, none, none] [.ref 0] h Q := fun Q K => by
    refine wp_s1 rfl (Nat.le_of_ble_eq_true rfl) (L_tale (d := d + 1) hx) ?_
    refine wp_run rfl ?_
    refine wp_v2 rfl e0 (Nat.le_of_ble_eq_true rfl) (L_of (d := d + 3) hx hi 9 (by decide)) ?_
    refine wp_run rfl ?_
    refine wp_s2 rfl (Nat.le_of_ble_eq_true rfl) (evl) ?_
    refine wp_run rfl ?_
    rw [show (1 : Int32) + nI t = nI (1 + t) from nI_add 1 t]
    refine wp_v2 rfl e0 (Nat.le_of_ble_eq_true rfl) (L_of (d := d + 3) hx hi 2 (by decide)) ?_
    refine wp_run rfl ?_
    refine wp_v2 rfl e0 (Nat.le_of_ble_eq_true rfl) (L_of (d := d + 3) hx hi 1 (by decide)) ?_
    refine wp_run rfl ?_
    by_cases hw : aB (vA V) (aR (vA V) i) = aW (vA V) (aR (vA V) i)
    · rw [if_pos hw] at K
      refine wp_icne rfl (fun hz_ => absurd hz_ (fun z => z (congrArg nI hw))) (fun _ => ?_)
      refine wp_run rfl ?_
      exact K
    · rw [if_neg hw] at K
      refine wp_icne rfl (fun _ => ?_) (fun hz_ => absurd (fun z => hw ((nI_eq (a := aB (vA V) (aR (vA V) i)) (b := aW (vA V) (aR (vA V) i)) (by omega) (by omega)).mp z)) hz_)
      refine wp_run rfl ?_
      exact K
  by_cases hm : 1 + t ≤ aCan (vA V) (aR (vA V) i)
  · obtain ⟨h1, ev1, x1⟩ := x4_trim (ro := ro) (d := d + 3) (mc := []) (x := nI (aR (vA V) i)) (y := nI (1 + t)) (r := nI (aB (vA V) (aR (vA V) i) - (1 + t))) (A' := aBts (vA V) (aR (vA V) i) (aB (vA V) (aR (vA V) i) - (1 + t))) rfl hx (Or.inr ⟨i, ⟨hi, rfl⟩, Or.inr ⟨1 + t, by omega, by omega, rfl, Or.inr ⟨hm, rfl, rfl⟩⟩⟩)
    rw [stp_n (by omega)] at x1
    obtain ⟨f1, e1⟩ := XS_o4 x1
    have c1 : ¬ ¬ nI (aB (vA V) (aR (vA V) i) - (1 + t)) = ofV (vA V) i 2 - nI (1 + t) := fun z => z (show nI (aB (vA V) (aR (vA V) i) - (1 + t)) = nI (aB (vA V) (aR (vA V) i)) - nI (1 + t) by rw [pk_sub (by omega)])
    have c2 : ¬ ¬ ofV (vA (stpN V (aBts (vA V) (aR (vA V) i) (aB (vA V) (aR (vA V) i) - (1 + t))))) i 2 = nI (aB (vA V) (aR (vA V) i) - (1 + t)) := fun z => z (show nI (va_up (aB (vA V)) (aR (vA V) i) (aB (vA V) (aR (vA V) i) - (1 + t)) (aR (vA V) i)) = nI (aB (vA V) (aR (vA V) i) - (1 + t)) by rw [va_is])
    by_cases hw : aB (vA V) (aR (vA V) i) = aW (vA V) (aR (vA V) i)
    · rw [if_pos hw] at pre
      obtain ⟨t2, ht2, evl2⟩ := L_low (ro := ro) (d := d + 8) (h := h1) (w >>> ((9 : Int32) &&& 31)) (n := 2) (by decide) (by decide)
      by_cases hz : t2 = 0
      · subst hz
        refine ⟨_, h1, pre _ ?_, XS_more (by omega) x1⟩
        refine wp_v2 rfl e0 (Nat.le_of_ble_eq_true rfl) (ev1) ?_
        refine wp_run rfl ?_
        refine wp_icle rfl (fun _ => ?_) (fun hz_ => absurd (nI_le hm (by omega)) hz_)
        refine wp_run rfl ?_
        refine wp_icne rfl (fun hz_ => absurd hz_ (c1)) (fun _ => ?_)
        refine wp_run rfl ?_
        refine wp_v2 rfl e1 (Nat.le_of_ble_eq_true rfl) (L_of (d := d + 3) x1 (i := i) hi 2 (by decide)) ?_
        refine wp_run rfl ?_
        refine wp_icne rfl (fun hz_ => absurd hz_ (c2)) (fun _ => ?_)
        refine wp_run rfl ?_
        refine wp_ifeq rfl (fun hz_ => absurd hz_ ((by decide : ¬ (1 : Int32) = 0))) (fun _ => ?_)
        refine wp_run rfl ?_
        refine wp_s2 rfl (Nat.le_of_ble_eq_true rfl) (evl2) ?_
        refine wp_run rfl ?_
        refine wp_ifeq rfl (fun _ => ?_) (fun hz_ => absurd (rfl) hz_)
        refine wp_run rfl ?_
        exact wp_ret rfl rfl ⟨rfl, rfl⟩
      · have w1 : aW (aBts (vA V) (aR (vA V) i) (aB (vA V) (aR (vA V) i) - (1 + t))) (aR (vA V) i) - aB (aBts (vA V) (aR (vA V) i) (aB (vA V) (aR (vA V) i) - (1 + t))) (aR (vA V) i) = 1 + t := by
          show aW (vA V) (aR (vA V) i) - va_up (aB (vA V)) (aR (vA V) i) (aB (vA V) (aR (vA V) i) - (1 + t)) (aR (vA V) i) = 1 + t
          rw [va_is]; omega
        have w2 : aBts (aBts (vA V) (aR (vA V) i) (aB (vA V) (aR (vA V) i) - (1 + t))) (aR (vA V) i) (aW (vA V) (aR (vA V) i)) = vA V := by
          rw [← hw]; exact pu_bts_back _ _ _
        obtain ⟨h2, ev2, x2⟩ := x4_restoreTail (ro := ro) (d := d + 3) (mc := []) (x := nI (aR (vA V) i)) (r := nI (1 + t)) (A' := vA V) rfl x1 (Or.inr ⟨i, ⟨hi, rfl⟩, congrArg nI w1.symm, w2.symm⟩)
        rw [stp_n (by omega)] at x2
        refine ⟨_, h2, pre _ ?_, XS_more (by omega) x2⟩
        refine wp_v2 rfl e0 (Nat.le_of_ble_eq_true rfl) (ev1) ?_
        refine wp_run rfl ?_
        refine wp_icle rfl (fun _ => ?_) (fun hz_ => absurd (nI_le hm (by omega)) hz_)
        refine wp_run rfl ?_
        refine wp_icne rfl (fun hz_ => absurd hz_ (c1)) (fun _ => ?_)
        refine wp_run rfl ?_
        refine wp_v2 rfl e1 (Nat.le_of_ble_eq_true rfl) (L_of (d := d + 3) x1 (i := i) hi 2 (by decide)) ?_
        refine wp_run rfl ?_
        refine wp_icne rfl (fun hz_ => absurd hz_ (c2)) (fun _ => ?_)
        refine wp_run rfl ?_
        refine wp_ifeq rfl (fun hz_ => absurd hz_ ((by decide : ¬ (1 : Int32) = 0))) (fun _ => ?_)
        refine wp_run rfl ?_
        refine wp_s2 rfl (Nat.le_of_ble_eq_true rfl) (evl2) ?_
        refine wp_run rfl ?_
        refine wp_ifeq rfl (fun hz_ => absurd hz_ (nI_ne0 (by omega) (by omega))) (fun _ => ?_)
        refine wp_run rfl ?_
        refine wp_v1 rfl e1 (Nat.le_of_ble_eq_true rfl) (ev2) ?_
        refine wp_run rfl ?_
        refine wp_icne rfl (fun hz_ => absurd hz_ ((fun z => z rfl))) (fun _ => ?_)
        refine wp_run rfl ?_
        refine wp_s1 rfl (Nat.le_of_ble_eq_true rfl) (L_tale (d := d + 1) x2) ?_
        refine wp_run rfl ?_
        refine wp_ifne rfl (fun hz_ => absurd hz_ ((fun z => z ((lg_cmp_eq _ _).mpr rfl)))) (fun _ => ?_)
        refine wp_run rfl ?_
        exact wp_ret rfl rfl ⟨rfl, rfl⟩
    · rw [if_neg hw] at pre
      refine ⟨_, h1, pre _ ?_, XS_more (by omega) x1⟩
      refine wp_v2 rfl e0 (Nat.le_of_ble_eq_true rfl) (ev1) ?_
      refine wp_run rfl ?_
      refine wp_icle rfl (fun _ => ?_) (fun hz_ => absurd (nI_le hm (by omega)) hz_)
      refine wp_run rfl ?_
      refine wp_icne rfl (fun hz_ => absurd hz_ (c1)) (fun _ => ?_)
      refine wp_run rfl ?_
      refine wp_v2 rfl e1 (Nat.le_of_ble_eq_true rfl) (L_of (d := d + 3) x1 (i := i) hi 2 (by decide)) ?_
      refine wp_run rfl ?_
      refine wp_icne rfl (fun hz_ => absurd hz_ (c2)) (fun _ => ?_)
      refine wp_run rfl ?_
      refine wp_ifeq rfl (fun _ => ?_) (fun hz_ => absurd (rfl) hz_)
      refine wp_run rfl ?_
      exact wp_ret rfl rfl ⟨rfl, rfl⟩
  · obtain ⟨h1, ev1, x1⟩ := x4_trim (ro := ro) (d := d + 3) (mc := []) (x := nI (aR (vA V) i)) (y := nI (1 + t)) (r := -5) (A' := vA V) rfl hx (Or.inr ⟨i, ⟨hi, rfl⟩, Or.inr ⟨1 + t, by omega, by omega, rfl, Or.inl ⟨by omega, rfl, rfl⟩⟩⟩)
    rw [stp_e m5_neg] at x1
    refine ⟨_, h1, pre _ ?_, XS_more (by omega) x1⟩
    refine wp_v2 rfl e0 (Nat.le_of_ble_eq_true rfl) (ev1) ?_
    refine wp_run rfl ?_
    refine wp_icle rfl (fun hz_ => absurd hz_ (nI_ge (a := aCan (vA V) (aR (vA V) i)) (by omega) (by omega))) (fun _ => ?_)
    refine wp_run rfl ?_
    refine wp_icne rfl (fun hz_ => absurd hz_ ((fun z => z rfl))) (fun _ => ?_)
    refine wp_run rfl ?_
    refine wp_s1 rfl (Nat.le_of_ble_eq_true rfl) (L_tale (d := d + 1) x1) ?_
    refine wp_run rfl ?_
    refine wp_ifne rfl (fun hz_ => absurd hz_ ((fun z => z ((lg_cmp_eq _ _).mpr rfl)))) (fun _ => ?_)
    refine wp_run rfl ?_
    exact wp_ret rfl rfl ⟨rfl, rfl⟩
set_option maxRecDepth 40000 in
theorem A_give (hx : XS V [] m h) (hi : i < aN (vA V)) : ∃ V' h', axW ro (axEv ro (d + 9)) cdL_act 656 [some (.ref 0), some (.int v), some (.int w), some (.int (nI (aN (vA V)))), some (.int (nI s)), some (.int (nI (aR (vA V) i))), some (.int (nI (aR (vA V) j))), some (.int (cntA (vA V) 2)), some (.int (cntA (vA V) 1)), none, none, none, none, none, none, none] [.int 1, .int (nI (aR (vA V) i)), .ref 0] h (fun r' h'' => r' = some (.int 1) ∧ h'' = h') ∧ XS V' [] (m + 1200) h' := by
  have hO := XS_ok hx
  have hn := hO.n
  have hb := hO.b hi
  obtain ⟨f0, e0⟩ := XS_o4 hx
  obtain ⟨h1, ev1, x1⟩ := x4_restoreTail (ro := ro) (d := d + 3) (mc := []) (x := nI (aR (vA V) i)) (r := nI (aW (vA V) (aR (vA V) i) - aB (vA V) (aR (vA V) i))) (A' := aBts (vA V) (aR (vA V) i) (aW (vA V) (aR (vA V) i))) rfl hx (Or.inr ⟨i, ⟨hi, rfl⟩, rfl, rfl⟩)
  rw [stp_n (by omega)] at x1
  obtain ⟨f1, e1⟩ := XS_o4 x1
  have hs := pu_bts_n hO (v := aW (vA V) (aR (vA V) i)) hi
  refine ⟨_, h1, ?_, XS_more (by omega) x1⟩
  refine wp_v2 rfl e0 (Nat.le_of_ble_eq_true rfl) (L_of (d := d + 3) hx hi 1 (by decide)) ?_
  refine wp_run rfl ?_
  refine wp_v2 rfl e0 (Nat.le_of_ble_eq_true rfl) (L_of (d := d + 3) hx hi 2 (by decide)) ?_
  refine wp_run rfl ?_
  refine wp_v1 rfl e0 (Nat.le_of_ble_eq_true rfl) (ev1) ?_
  refine wp_run rfl ?_
  refine wp_icne rfl (fun hz_ => absurd hz_ (fun z => z (show nI (aW (vA V) (aR (vA V) i) - aB (vA V) (aR (vA V) i)) = nI (aW (vA V) (aR (vA V) i)) - nI (aB (vA V) (aR (vA V) i)) by rw [pk_sub hb.2.1]))) (fun _ => ?_)
  refine wp_run rfl ?_
  refine wp_v2 rfl e1 (Nat.le_of_ble_eq_true rfl) (L_of (d := d + 3) x1 (i := i) hi 2 (by decide)) ?_
  refine wp_run rfl ?_
  refine wp_v2 rfl e1 (Nat.le_of_ble_eq_true rfl) (L_of (d := d + 3) x1 (i := i) hi 1 (by decide)) ?_
  refine wp_run rfl ?_
  refine wp_icne rfl (fun hz_ => absurd hz_ (fun z => z (show nI (va_up (aB (vA V)) (aR (vA V) i) (aW (vA V) (aR (vA V) i)) (aR (vA V) i)) = nI (aW (vA V) (aR (vA V) i)) by rw [va_is]))) (fun _ => ?_)
  refine wp_run rfl ?_
  refine wp_v1 rfl e1 (Nat.le_of_ble_eq_true rfl) (L_cnt (d := d + 2) x1 2 (by decide)) ?_
  refine wp_run rfl ?_
  refine wp_icne rfl (fun hz_ => absurd hz_ (fun z => z (show nI (aBeg (aBts (vA V) (aR (vA V) i) (aW (vA V) (aR (vA V) i))) (aN (vA V))) = nI (aBeg (vA V) (aN (vA V))) + (nI (aW (vA V) (aR (vA V) i)) - nI (aB (vA V) (aR (vA V) i))) by rw [pk_sub hb.2.1, nI_add]; congr 1; omega))) (fun _ => ?_)
  refine wp_run rfl ?_
  exact wp_ret rfl rfl ⟨rfl, rfl⟩
set_option maxRecDepth 40000 in
theorem A_move (hx : XS V [] m h) (hi : i < aN (vA V)) : ∃ V' h', axW ro (axEv ro (d + 9)) cdL_act 731 [some (.ref 0), some (.int v), some (.int w), some (.int (nI (aN (vA V)))), some (.int (nI s)), some (.int (nI (aR (vA V) i))), some (.int (nI (aR (vA V) j))), some (.int (cntA (vA V) 2)), some (.int (cntA (vA V) 1)), none, none, none, none, none, none, none] [.int (nI (aN (vA V))), .int (w >>> ((6 : Int32) &&& 31)), .int (nI (aR (vA V) i)), .ref 0] h (fun r' h'' => r' = some (.int 1) ∧ h'' = h') ∧ XS V' [] (m + 1200) h' := by
  have hn := (XS_ok hx).n
  obtain ⟨t, ht, evl⟩ := L_low (ro := ro) (d := d + 8) (h := h) (w >>> ((6 : Int32) &&& 31)) (n := aN (vA V)) (by omega) (by omega)
  obtain ⟨V', h', ev, x⟩ := L_moves (ro := ro) (d := d) hx hi ht
  refine ⟨V', h', ?_, x⟩
  refine wp_s2 rfl (Nat.le_of_ble_eq_true rfl) (evl) ?_
  refine wp_run rfl ?_
  refine wp_s3 rfl (Nat.le_of_ble_eq_true rfl) (ev) ?_
  refine wp_run rfl ?_
  exact wp_ret rfl rfl ⟨rfl, rfl⟩
set_option maxRecDepth 40000 in
theorem A_swap (hx : XS V [] m h) (hi : i < aN (vA V)) (hj : j < aN (vA V)) : ∃ V' h', axW ro (axEv ro (d + 9)) cdL_act 746 [some (.ref 0), some (.int v), some (.int w), some (.int (nI (aN (vA V)))), some (.int (nI s)), some (.int (nI (aR (vA V) i))), some (.int (nI (aR (vA V) j))), some (.int (cntA (vA V) 2)), some (.int (cntA (vA V) 1)), none, none, none, none, none, none, none] [.ref 0] h (fun r' h'' => r' = some (.int 1) ∧ h'' = h') ∧ XS V' [] (m + 1200) h' := by
  have hO := XS_ok hx
  have hn := hO.n
  obtain ⟨f0, e0⟩ := XS_o4 hx
  by_cases hij : i = j
  · subst hij
    obtain ⟨h1, ev1, x1⟩ := x4_swap (ro := ro) (d := d + 3) (mc := []) (x := nI (aR (vA V) i)) (y := nI (aR (vA V) i)) (r := -2) (A' := vA V) rfl hx (Or.inr ⟨i, i, ⟨hi, rfl⟩, ⟨hi, rfl⟩, Or.inl ⟨rfl, rfl, rfl⟩⟩)
    rw [stp_e m2_neg] at x1
    refine ⟨_, h1, ?_, XS_more (by omega) x1⟩
    refine wp_s1 rfl (Nat.le_of_ble_eq_true rfl) (L_tale (d := d + 1) hx) ?_
    refine wp_run rfl ?_
    refine wp_v2 rfl e0 (Nat.le_of_ble_eq_true rfl) (ev1) ?_
    refine wp_run rfl ?_
    refine wp_icne rfl (fun hz_ => absurd hz_ ((fun z => z rfl))) (fun _ => ?_)
    refine wp_run rfl ?_
    refine wp_icne rfl (fun hz_ => absurd hz_ ((fun z => z rfl))) (fun _ => ?_)
    refine wp_run rfl ?_
    exact wp_ret rfl rfl ⟨rfl, rfl⟩
  · have hne := aR_ne hO hi hj hij
    by_cases hm : aMay (vA V) i j
    · obtain ⟨h1, ev1, x1⟩ := x4_swap (ro := ro) (d := d + 3) (mc := []) (x := nI (aR (vA V) i)) (y := nI (aR (vA V) j)) (r := nI (((i : Int) - j).natAbs - 1)) (A' := aSwp (vA V) i j) rfl hx (Or.inr ⟨i, j, ⟨hi, rfl⟩, ⟨hj, rfl⟩, Or.inr (Or.inr ⟨hij, hm, rfl, rfl⟩)⟩)
      rw [stp_n (by omega)] at x1
      obtain ⟨f1, e1⟩ := XS_o4 x1
      obtain ⟨h2, ev2, x2⟩ := x4_swap (ro := ro) (d := d + 3) (mc := []) (x := nI (aR (vA V) i)) (y := nI (aR (vA V) j)) (r := nI (((j : Int) - i).natAbs - 1)) (A' := vA V) rfl x1 (Or.inr ⟨j, i, ⟨hj, congrArg nI (pu_sw_q (vA V) hij).symm⟩, ⟨hi, congrArg nI (pu_sw_p (vA V) i j).symm⟩, Or.inr (Or.inr ⟨Ne.symm hij, pu_sw_may hO hi hj hij hm, rfl, (pu_sw_back (vA V) hij).symm⟩)⟩)
      rw [stp_n (by omega)] at x2
      refine ⟨_, h2, ?_, XS_more (by omega) x2⟩
      refine wp_s1 rfl (Nat.le_of_ble_eq_true rfl) (L_tale (d := d + 1) hx) ?_
      refine wp_run rfl ?_
      refine wp_v2 rfl e0 (Nat.le_of_ble_eq_true rfl) (ev1) ?_
      refine wp_run rfl ?_
      refine wp_icne rfl (fun _ => ?_) (fun hz_ => absurd (hne) hz_)
      refine wp_run rfl ?_
      refine wp_icne rfl (fun _ => ?_) (fun hz_ => absurd (fun z => absurd (show nI (((i : Int) - j).natAbs - 1) < 0 by rw [z]; decide) (nI_pos (by omega))) hz_)
      refine wp_run rfl ?_
      refine wp_v2 rfl e1 (Nat.le_of_ble_eq_true rfl) (ev2) ?_
      refine wp_run rfl ?_
      refine wp_icne rfl (fun hz_ => absurd hz_ (fun z => z (by congr 1; omega))) (fun _ => ?_)
      refine wp_run rfl ?_
      refine wp_s1 rfl (Nat.le_of_ble_eq_true rfl) (L_tale (d := d + 1) x2) ?_
      refine wp_run rfl ?_
      refine wp_ifne rfl (fun hz_ => absurd hz_ ((fun z => z ((lg_cmp_eq _ _).mpr rfl)))) (fun _ => ?_)
      refine wp_run rfl ?_
      exact wp_ret rfl rfl ⟨rfl, rfl⟩
    · obtain ⟨h1, ev1, x1⟩ := x4_swap (ro := ro) (d := d + 3) (mc := []) (x := nI (aR (vA V) i)) (y := nI (aR (vA V) j)) (r := -5) (A' := vA V) rfl hx (Or.inr ⟨i, j, ⟨hi, rfl⟩, ⟨hj, rfl⟩, Or.inr (Or.inl ⟨hij, hm, rfl, rfl⟩)⟩)
      rw [stp_e m5_neg] at x1
      refine ⟨_, h1, ?_, XS_more (by omega) x1⟩
      refine wp_s1 rfl (Nat.le_of_ble_eq_true rfl) (L_tale (d := d + 1) hx) ?_
      refine wp_run rfl ?_
      refine wp_v2 rfl e0 (Nat.le_of_ble_eq_true rfl) (ev1) ?_
      refine wp_run rfl ?_
      refine wp_icne rfl (fun _ => ?_) (fun hz_ => absurd (hne) hz_)
      refine wp_run rfl ?_
      refine wp_icne rfl (fun hz_ => absurd hz_ ((fun z => z rfl))) (fun _ => ?_)
      refine wp_run rfl ?_
      refine wp_s1 rfl (Nat.le_of_ble_eq_true rfl) (L_tale (d := d + 1) x1) ?_
      refine wp_run rfl ?_
      refine wp_ifne rfl (fun hz_ => absurd hz_ ((fun z => z ((lg_cmp_eq _ _).mpr rfl)))) (fun _ => ?_)
      refine wp_run rfl ?_
      exact wp_ret rfl rfl ⟨rfl, rfl⟩
set_option maxRecDepth 40000 in
theorem A_fits (hx : XS V [] m h) : ∃ V' h', axW ro (axEv ro (d + 9)) cdL_act 1080 [some (.ref 0), some (.int v), some (.int w), some (.int (nI (aN (vA V)))), some (.int (nI s)), some (.int (nI (aR (vA V) i))), some (.int (nI (aR (vA V) j))), some (.int (cntA (vA V) 2)), some (.int (cntA (vA V) 1)), none, none, none, none, none, none, none] [.int 4, .int w, .ref 0] h (fun r' h'' => r' = some (.int 1) ∧ h'' = h') ∧ XS V' [] (m + 1200) h' := by
  obtain ⟨t, ht, evl⟩ := L_low (ro := ro) (d := d + 8) (h := h) w (n := 4) (by decide) (by decide)
  obtain ⟨V', h', ev, x⟩ := L_fits (ro := ro) (d := d) hx ht
  refine ⟨V', h', ?_, x⟩
  refine wp_s2 rfl (Nat.le_of_ble_eq_true rfl) (evl) ?_
  refine wp_run rfl ?_
  refine wp_s2 rfl (Nat.le_of_ble_eq_true rfl) (ev) ?_
  refine wp_run rfl ?_
  exact wp_ret rfl rfl ⟨rfl, rfl⟩
end AX58
