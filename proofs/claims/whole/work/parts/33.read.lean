/-! THE CLASS: the pad's text is read. -/
/-- the pad holds the text t of pl characters -/
def PT (f : Nat → Int32) (t : Nat → Nat) (pl : Nat) : Prop := pl ≤ 80 ∧ ∀ i, i < pl → f i = nI (t i) ∧ 33 ≤ t i ∧ t i ≤ 126
def sgA (t : Nat → Nat) (pl c : Nat) : Nat := if c < pl then t c else 0
def dgA (t : Nat → Nat) (pl c : Nat) : Bool := decide (48 ≤ sgA t pl c ∧ sgA t pl c ≤ 57)
/-- a number at c: its value, and where it ends -/
def rdV (t : Nat → Nat) (pl c : Nat) : Nat := if sgA t pl c = 48 then 0 else if dgA t pl (c + 1) = true then 10 * (sgA t pl c - 48) + (sgA t pl (c + 1) - 48) else sgA t pl c - 48
def rdC (t : Nat → Nat) (pl c : Nat) : Nat := if sgA t pl c = 48 then c + 1 else if dgA t pl (c + 1) = true then c + 2 else c + 1
/-- an order at c: is it one, where it ends or is at fault, its two numbers -/
abbrev axRD : Type := Bool × Nat × Nat × Nat
def rdS (t : Nat → Nat) (pl c : Nat) : axRD := if dgA t pl (c + 1) = true then (if sgA t pl (rdC t pl (c + 1)) = 33 then (true, rdC t pl (c + 1) + 1, rdV t pl (c + 1), 1) else (true, rdC t pl (c + 1), rdV t pl (c + 1), 0)) else (false, c + 1, 0, 0)
def rdP (t : Nat → Nat) (pl x c : Nat) : axRD := if dgA t pl (c + 1) = true then (if sgA t pl (rdC t pl (c + 1)) = x then (if dgA t pl (rdC t pl (c + 1) + 1) = true then (true, rdC t pl (rdC t pl (c + 1) + 1), rdV t pl (c + 1), rdV t pl (rdC t pl (c + 1) + 1)) else (false, rdC t pl (c + 1) + 1, 0, 0)) else (false, rdC t pl (c + 1), 0, 0)) else (false, c + 1, 0, 0)
def rdF (t : Nat → Nat) (pl c : Nat) : axRD := if dgA t pl (c + 1) = true then (true, c + 2, sgA t pl (c + 1) - 48, 0) else (false, c + 1, 0, 0)
def rdO (t : Nat → Nat) (pl c : Nat) : axRD :=
  if sgA t pl c = 115 then rdS t pl c else if sgA t pl c = 110 then rdP t pl 62 c else if sgA t pl c = 109 then rdP t pl 64 c else
  if sgA t pl c = 120 then rdP t pl 126 c else if sgA t pl c = 116 then rdP t pl 45 c else if sgA t pl c = 102 then rdF t pl c else (false, c, 0, 0)
theorem nar_c : ∀ n, n < 128 → (nI n).toUInt32.toUInt16.toUInt32.toInt32 = nI n := by decide +kernel
theorem nI_mul (a b : Nat) : nI a * nI b = nI (a * b) := (Int32.ofNat_mul a b).symm
theorem sgA_lt {f : Nat → Int32} {t : Nat → Nat} {pl : Nat} (hT : PT f t pl) (c : Nat) : sgA t pl c ≤ 126 := by
  unfold sgA; split
  · rename_i h; exact (hT.2 c h).2.2
  · omega
theorem sgA_in {t : Nat → Nat} {pl c : Nat} (h : sgA t pl c ≠ 0) : c < pl := by
  unfold sgA at h; split at h
  · assumption
  · exact absurd rfl h
theorem dgA_in {t : Nat → Nat} {pl c : Nat} (h : dgA t pl c = true) : c < pl ∧ 48 ≤ sgA t pl c ∧ sgA t pl c ≤ 57 := by
  have := of_decide_eq_true h
  exact ⟨sgA_in (show sgA t pl c ≠ 0 by omega), this⟩
theorem rdC_le {t : Nat → Nat} {pl c : Nat} (h : dgA t pl c = true) : rdC t pl c ≤ pl ∧ c < rdC t pl c := by
  have h1 := dgA_in h
  unfold rdC; split
  · omega
  · split
    · rename_i h2; have := dgA_in h2; omega
    · omega
theorem rdV_le {t : Nat → Nat} {pl c : Nat} (h : dgA t pl c = true) : rdV t pl c ≤ 99 := by
  have h1 := dgA_in h
  unfold rdV; split
  · omega
  · split
    · rename_i h2; have := dgA_in h2; omega
    · omega
section AX33
variable {ro : axRo} {d : Nat} {h h1 : axH} {B : axBD} {Y : axYD} {sl : Nat → Option Nat} {P : axPD} {G : axGD} {tl : axH} {A : axAD} {f : Nat → Int32} {t : Nat → Nat} {pl c : Nat} {cu la ki fi se : Int32}
theorem x2_signAt (hT : PT f t pl) (hc : c ≤ 100) : axEv ro (d + 1) kX2_signAt [.ref 11, .int (nI c)] ((hX B Y sl (f, nI pl, cu, la, ki, fi, se) G tl)) (some (.int (nI (sgA t pl c)))) ((hX B Y sl (f, nI pl, cu, la, ki, fi, se) G tl)) := by
  have hl := hT.1
  have hs := sgA_lt hT c
  refine ev_in rfl rfl (Nat.le_of_ble_eq_true rfl) rfl ?_
  refine wp_run rfl ?_
  refine wp_iflt rfl (fun hz_ => absurd hz_ (nI_pos (by omega))) (fun _ => ?_)
  refine wp_run rfl ?_
  by_cases e : c < pl
  · have hfc : f c = nI (sgA t pl c) := by unfold sgA; rw [if_pos e]; exact (hT.2 c e).1
    refine wp_icge rfl (fun hz_ => absurd hz_ (nI_ge e (by omega))) (fun _ => ?_)
    refine wp_run rfl ?_
    refine wp_icge rfl (fun hz_ => absurd hz_ (nI_ge (b := 80) (by omega) (by omega))) (fun _ => ?_)
    refine wp_run rfl ?_
    refine wp_ald rfl rfl (vp_in_nI ((show c < 80 by omega)) (by decide)) (by rw [nI_clamp (by omega)]) ?_
    refine wp_run rfl ?_
    rw [show (f, nI pl, cu, la, ki, fi, se).1 c = nI (sgA t pl c) from hfc]
    refine wp_ret rfl ?_ ⟨rfl, rfl⟩
    exact congrArg Value.int (nar_c _ (by omega))
  · refine wp_icge rfl (fun _ => ?_) (fun hz_ => absurd (nI_le (show pl ≤ c by omega) (by omega)) hz_)
    refine wp_run rfl ?_
    have e2 : sgA t pl c = 0 := by unfold sgA; rw [if_neg e]
    rw [e2]
    exact wp_ret rfl rfl ⟨rfl, rfl⟩
theorem x2_readDigit_no (hT : PT f t pl) (hc : c ≤ 100) (hd : dgA t pl c = false) : axEv ro (d + 2) kX2_readDigit [.ref 11] ((hX B Y sl (f, nI pl, nI c, la, ki, fi, se) G tl)) (some (.int (-6))) ((hX B Y sl (f, nI pl, nI c, la, ki, fi, se) G tl)) := by
  have hs := sgA_lt hT c
  have hd := of_decide_eq_false hd
  have e1 := x2_signAt (ro := ro) (d := d) (B := B) (Y := Y) (sl := sl) (G := G) (tl := tl) (cu := nI c) (la := la) (ki := ki) (fi := fi) (se := se) hT hc
  generalize sgA t pl c = x at *
  refine ev_in rfl rfl (Nat.le_of_ble_eq_true rfl) rfl ?_
  refine wp_run rfl ?_
  refine wp_v1 rfl rfl (Nat.le_of_ble_eq_true rfl) (e1) ?_
  refine wp_run rfl ?_
  by_cases e : x < 48
  · refine wp_iclt rfl (fun _ => ?_) (fun hz_ => absurd (nI_lt (b := 48) e (by omega)) hz_)
    refine wp_run rfl ?_
    exact wp_ret rfl rfl ⟨rfl, rfl⟩
  · refine wp_iclt rfl (fun hz_ => absurd hz_ (nI_nlt (b := 48) (by omega) (by omega))) (fun _ => ?_)
    refine wp_run rfl ?_
    refine wp_icle rfl (fun hz_ => absurd hz_ (nI_ge (a := 57) (by omega) (by omega))) (fun _ => ?_)
    refine wp_run rfl ?_
    exact wp_ret rfl rfl ⟨rfl, rfl⟩
theorem x2_readDigit (hT : PT f t pl) (hd : dgA t pl c = true) : axEv ro (d + 2) kX2_readDigit [.ref 11] ((hX B Y sl (f, nI pl, nI c, la, ki, fi, se) G tl)) (some (.int (nI (sgA t pl c - 48)))) ((hX B Y sl (f, nI pl, nI (c + 1), la, ki, fi, se) G tl)) := by
  have hs := sgA_lt hT c
  have hd := dgA_in hd
  have hl := hT.1
  have e1 := x2_signAt (ro := ro) (d := d) (B := B) (Y := Y) (sl := sl) (G := G) (tl := tl) (cu := nI c) (la := la) (ki := ki) (fi := fi) (se := se) hT (show c ≤ 100 by omega)
  generalize sgA t pl c = x at *
  refine ev_in rfl rfl (Nat.le_of_ble_eq_true rfl) rfl ?_
  refine wp_run rfl ?_
  refine wp_v1 rfl rfl (Nat.le_of_ble_eq_true rfl) (e1) ?_
  refine wp_run rfl ?_
  refine wp_iclt rfl (fun hz_ => absurd hz_ (nI_nlt (b := 48) (by omega) (by omega))) (fun _ => ?_)
  refine wp_run rfl ?_
  refine wp_icle rfl (fun _ => ?_) (fun hz_ => absurd (nI_le (b := 57) (by omega) (by omega)) hz_)
  refine wp_run rfl ?_
  rw [nI_1]
  refine wp_putf (h1 := (hX B Y sl (f, nI pl, nI (c + 1), la, ki, fi, se) G tl)) rfl rfl (Nat.le_of_ble_eq_true rfl) ⟨rfl, rfl, fun _ hz_ => by cases hz_⟩ rfl ?_
  refine wp_run rfl ?_
  rw [show nI x - 48 = nI (x - 48) from pk_sub (b := 48) (by omega)]
  exact wp_ret rfl rfl ⟨rfl, rfl⟩
theorem x2_readNumber_no (hT : PT f t pl) (hc : c ≤ 100) (hd : dgA t pl c = false) : axEv ro (d + 3) kX2_readNumber [.ref 11] ((hX B Y sl (f, nI pl, nI c, la, ki, fi, se) G tl)) (some (.int (-6))) ((hX B Y sl (f, nI pl, nI c, la, ki, fi, se) G tl)) := by
  refine ev_in rfl rfl (Nat.le_of_ble_eq_true rfl) rfl ?_
  refine wp_run rfl ?_
  refine wp_v0 rfl rfl (Nat.le_of_ble_eq_true rfl) (x2_readDigit_no hT hc hd) ?_
  refine wp_run rfl ?_
  refine wp_ifgt rfl (fun hz_ => absurd hz_ ((by decide : ¬ (0 : Int32) < -6))) (fun _ => ?_)
  refine wp_run rfl ?_
  exact wp_ret rfl rfl ⟨rfl, rfl⟩
theorem x2_readNumber (hT : PT f t pl) (hd : dgA t pl c = true) : axEv ro (d + 3) kX2_readNumber [.ref 11] ((hX B Y sl (f, nI pl, nI c, la, ki, fi, se) G tl)) (some (.int (nI (rdV t pl c)))) ((hX B Y sl (f, nI pl, nI (rdC t pl c), la, ki, fi, se) G tl)) := by
  have hd' := dgA_in hd
  have hl := hT.1
  refine ev_in rfl rfl (Nat.le_of_ble_eq_true rfl) rfl ?_
  refine wp_run rfl ?_
  refine wp_v0 rfl rfl (Nat.le_of_ble_eq_true rfl) (x2_readDigit hT hd) ?_
  refine wp_run rfl ?_
  unfold rdV rdC
  by_cases e : sgA t pl c = 48
  · rw [e, if_pos rfl, if_pos rfl]
    refine wp_ifgt rfl (fun hz_ => absurd hz_ ((by decide : ¬ (0 : Int32) < nI (48 - 48)))) (fun _ => ?_)
    refine wp_run rfl ?_
    exact wp_ret rfl rfl ⟨rfl, rfl⟩
  · rw [if_neg e, if_neg e]
    refine wp_ifgt rfl (fun _ => ?_) (fun hz_ => absurd (nI_lt (a := 0) (by omega) (by omega)) hz_)
    refine wp_run rfl ?_
    by_cases e2 : dgA t pl (c + 1) = true
    · have hd2 := dgA_in e2
      rw [if_pos e2, if_pos e2]
      refine wp_v0 rfl rfl (Nat.le_of_ble_eq_true rfl) (x2_readDigit hT e2) ?_
      refine wp_run rfl ?_
      refine wp_ifge rfl (fun _ => ?_) (fun hz_ => absurd (nI_pos' (by omega)) hz_)
      refine wp_run rfl ?_
      rw [show (10 : Int32) = nI 10 from rfl, nI_mul, nI_add]
      exact wp_ret rfl rfl ⟨rfl, rfl⟩
    · rw [if_neg e2, if_neg e2]
      refine wp_v0 rfl rfl (Nat.le_of_ble_eq_true rfl) (x2_readDigit_no hT (show c + 1 ≤ 100 by omega) (by cases hh : dgA t pl (c + 1) with | true => exact absurd hh e2 | false => rfl)) ?_
      refine wp_run rfl ?_
      refine wp_ifge rfl (fun hz_ => absurd hz_ ((by decide : ¬ (0 : Int32) ≤ -6))) (fun _ => ?_)
      refine wp_run rfl ?_
      exact wp_ret rfl rfl ⟨rfl, rfl⟩
theorem x2_skip_yes (hT : PT f t pl) {x : Nat} (hx : 0 < x) (h1 : sgA t pl c = x) : axEv ro (d + 2) kX2_skip [.ref 11, .int (nI x)] ((hX B Y sl (f, nI pl, nI c, la, ki, fi, se) G tl)) (some (.int 1)) ((hX B Y sl (f, nI pl, nI (c + 1), la, ki, fi, se) G tl)) := by
  have hl := hT.1
  have hc := sgA_in (show sgA t pl c ≠ 0 by omega)
  have e1 := x2_signAt (ro := ro) (d := d) (B := B) (Y := Y) (sl := sl) (G := G) (tl := tl) (cu := nI c) (la := la) (ki := ki) (fi := fi) (se := se) hT (show c ≤ 100 by omega)
  rw [h1] at e1
  refine ev_in rfl rfl (Nat.le_of_ble_eq_true rfl) rfl ?_
  refine wp_run rfl ?_
  refine wp_v1 rfl rfl (Nat.le_of_ble_eq_true rfl) (e1) ?_
  refine wp_run rfl ?_
  refine wp_iceq rfl (fun _ => ?_) (fun hz => absurd rfl hz)
  refine wp_run rfl ?_
  rw [nI_1]
  refine wp_putf (h1 := (hX B Y sl (f, nI pl, nI (c + 1), la, ki, fi, se) G tl)) rfl rfl (Nat.le_of_ble_eq_true rfl) ⟨rfl, rfl, fun _ hz_ => by cases hz_⟩ rfl ?_
  refine wp_run rfl ?_
  exact wp_ret rfl rfl ⟨rfl, rfl⟩
theorem x2_skip_no (hT : PT f t pl) (hc : c ≤ 100) {x : Nat} (hx : x < 128) (h1 : sgA t pl c ≠ x) : axEv ro (d + 2) kX2_skip [.ref 11, .int (nI x)] ((hX B Y sl (f, nI pl, nI c, la, ki, fi, se) G tl)) (some (.int 0)) ((hX B Y sl (f, nI pl, nI c, la, ki, fi, se) G tl)) := by
  have hs := sgA_lt hT c
  refine ev_in rfl rfl (Nat.le_of_ble_eq_true rfl) rfl ?_
  refine wp_run rfl ?_
  refine wp_v1 rfl rfl (Nat.le_of_ble_eq_true rfl) (x2_signAt hT hc) ?_
  refine wp_run rfl ?_
  refine wp_iceq rfl (fun hz => absurd ((nI_eq (by omega) (by omega)).mp hz) h1) (fun _ => ?_)
  refine wp_run rfl ?_
  exact wp_ret rfl rfl ⟨rfl, rfl⟩
end AX33
