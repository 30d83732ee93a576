/-! THE CLASS: an order of the pad is read. -/
/-- what follows an order: is it read, where it ends, is it the last -/
def rdT (t : Nat → Nat) (pl : Nat) (r : Bool) (c : Nat) : Bool × Nat × Bool := if r = true then (if pl ≤ c then (true, c, true) else if sgA t pl c = 59 then (true, c + 1, false) else (false, c, false)) else (false, c, false)
def rdE (t : Nat → Nat) (pl c : Nat) : Bool × Nat × Bool := rdT t pl (rdO t pl c).1 (rdO t pl c).2.1
def axSwO (d : Nat) (x : Int32) : List (Int32 × Nat) → Prop
  | [] => True
  | q :: r => match Nat.beq q.2 d with
    | true => axSwO d x r
    | false => x ≠ q.1 ∧ axSwO d x r
theorem axSw_def {d : Nat} {x : Int32} : ∀ (tb : List (Int32 × Nat)), axSwO d x tb → axSw tb d x = d
  | [], _ => rfl
  | q :: r, h => by
    unfold axSwO at h
    rw [axSw]
    cases e : Nat.beq q.2 d with
    | true =>
      rw [e] at h
      split
      · exact Nat.eq_of_beq_eq_true e
      · exact axSw_def r h
    | false =>
      rw [e] at h
      rw [if_neg h.1]
      exact axSw_def r h.2
theorem rdS_le {t : Nat → Nat} {pl c : Nat} (hc : c < pl) : (rdS t pl c).2.1 ≤ pl ∧ c < (rdS t pl c).2.1 ∧ (rdS t pl c).2.2.1 ≤ 99 ∧ (rdS t pl c).2.2.2 ≤ 1 := by
  unfold rdS
  by_cases e : dgA t pl (c + 1) = true
  · have h1 := rdC_le e
    have h2 := rdV_le e
    rw [if_pos e]
    by_cases e2 : sgA t pl (rdC t pl (c + 1)) = 33
    · have := sgA_in (show sgA t pl (rdC t pl (c + 1)) ≠ 0 by omega)
      rw [if_pos e2]
      refine ⟨?_, ?_, h2, ?_⟩
      · show rdC t pl (c + 1) + 1 ≤ pl; omega
      · show c < rdC t pl (c + 1) + 1; omega
      · exact Nat.le_refl 1
    · rw [if_neg e2]
      refine ⟨h1.1, ?_, h2, ?_⟩
      · show c < rdC t pl (c + 1); omega
      · exact Nat.zero_le 1
  · rw [if_neg e]
    exact ⟨hc, Nat.lt_succ_self c, Nat.zero_le _, Nat.zero_le _⟩
theorem rdP_le {t : Nat → Nat} {pl c x : Nat} (hx : 0 < x) (hc : c < pl) : (rdP t pl x c).2.1 ≤ pl ∧ c < (rdP t pl x c).2.1 ∧ (rdP t pl x c).2.2.1 ≤ 99 ∧ (rdP t pl x c).2.2.2 ≤ 99 := by
  unfold rdP
  by_cases e : dgA t pl (c + 1) = true
  · have h1 := rdC_le e
    have h2 := rdV_le e
    rw [if_pos e]
    by_cases e2 : sgA t pl (rdC t pl (c + 1)) = x
    · have := sgA_in (show sgA t pl (rdC t pl (c + 1)) ≠ 0 by omega)
      rw [if_pos e2]
      by_cases e3 : dgA t pl (rdC t pl (c + 1) + 1) = true
      · have h3 := rdC_le e3
        have h4 := rdV_le e3
        rw [if_pos e3]
        refine ⟨h3.1, ?_, h2, h4⟩
        show c < rdC t pl (rdC t pl (c + 1) + 1); omega
      · rw [if_neg e3]
        refine ⟨?_, ?_, Nat.zero_le _, Nat.zero_le _⟩
        · show rdC t pl (c + 1) + 1 ≤ pl; omega
        · show c < rdC t pl (c + 1) + 1; omega
    · rw [if_neg e2]
      refine ⟨h1.1, ?_, Nat.zero_le _, Nat.zero_le _⟩
      show c < rdC t pl (c + 1); omega
  · rw [if_neg e]
    exact ⟨hc, Nat.lt_succ_self c, Nat.zero_le _, Nat.zero_le _⟩
theorem rdF_le {t : Nat → Nat} {pl c : Nat} (hc : c < pl) : (rdF t pl c).2.1 ≤ pl ∧ c < (rdF t pl c).2.1 ∧ (rdF t pl c).2.2.1 ≤ 9 := by
  unfold rdF
  by_cases e : dgA t pl (c + 1) = true
  · have h1 := dgA_in e
    rw [if_pos e]
    refine ⟨?_, ?_, ?_⟩
    · show c + 2 ≤ pl; omega
    · show c < c + 2; omega
    · show sgA t pl (c + 1) - 48 ≤ 9; omega
  · rw [if_neg e]
    exact ⟨hc, Nat.lt_succ_self c, Nat.zero_le _⟩
theorem rdO_le {t : Nat → Nat} {pl c : Nat} (hc : c ≤ pl) : (rdO t pl c).2.1 ≤ pl ∧ ((rdO t pl c).1 = true → c < (rdO t pl c).2.1 ∧ c < pl) ∧ (rdO t pl c).2.2.1 ≤ 99 ∧ (rdO t pl c).2.2.2 ≤ 99 := by
  have hin : ∀ x, 0 < x → sgA t pl c = x → c < pl := fun x hx hh => sgA_in (show sgA t pl c ≠ 0 by omega)
  unfold rdO
  by_cases e1 : sgA t pl c = 115
  · have := rdS_le (t := t) (hin _ (by decide) e1)
    rw [if_pos e1]; exact ⟨this.1, fun _ => ⟨this.2.1, hin _ (by decide) e1⟩, this.2.2.1, by omega⟩
  · rw [if_neg e1]
    by_cases e2 : sgA t pl c = 110
    · have := rdP_le (t := t) (x := 62) (by decide) (hin _ (by decide) e2)
      rw [if_pos e2]; exact ⟨this.1, fun _ => ⟨this.2.1, hin _ (by decide) e2⟩, this.2.2.1, this.2.2.2⟩
    · rw [if_neg e2]
      by_cases e3 : sgA t pl c = 109
      · have := rdP_le (t := t) (x := 64) (by decide) (hin _ (by decide) e3)
        rw [if_pos e3]; exact ⟨this.1, fun _ => ⟨this.2.1, hin _ (by decide) e3⟩, this.2.2.1, this.2.2.2⟩
      · rw [if_neg e3]
        by_cases e4 : sgA t pl c = 120
        · have := rdP_le (t := t) (x := 126) (by decide) (hin _ (by decide) e4)
          rw [if_pos e4]; exact ⟨this.1, fun _ => ⟨this.2.1, hin _ (by decide) e4⟩, this.2.2.1, this.2.2.2⟩
        · rw [if_neg e4]
          by_cases e5 : sgA t pl c = 116
          · have := rdP_le (t := t) (x := 45) (by decide) (hin _ (by decide) e5)
            rw [if_pos e5]; exact ⟨this.1, fun _ => ⟨this.2.1, hin _ (by decide) e5⟩, this.2.2.1, this.2.2.2⟩
          · rw [if_neg e5]
            by_cases e6 : sgA t pl c = 102
            · have := rdF_le (t := t) (hin _ (by decide) e6)
              rw [if_pos e6]
              refine ⟨this.1, fun _ => ⟨this.2.1, hin _ (by decide) e6⟩, by omega, ?_⟩
              unfold rdF; split <;> exact Nat.zero_le _
            · rw [if_neg e6]
              exact ⟨hc, fun z => Bool.noConfusion z, Nat.zero_le _, Nat.zero_le _⟩
section AX34
variable {ro : axRo} {d : Nat} {h h1 : axH} {B : axBD} {Y : axYD} {sl : Nat → Option Nat} {P : axPD} {G : axGD} {tl : axH} {A : axAD} {f : Nat → Int32} {t : Nat → Nat} {pl c : Nat} {cu la ki fi se : Int32}
theorem x2_readSlug (hT : PT f t pl) (hc : c < pl) : ∃ fi' se', axEv ro (d + 4) kX2_readSlug [.ref 11] ((hX B Y sl (f, nI pl, nI c, la, ki, fi, se) G tl)) (some (.int (if (rdS t pl c).1 = true then 1 else 0))) ((hX B Y sl (f, nI pl, nI (rdS t pl c).2.1, la, ki, fi', se') G tl)) ∧ ((rdS t pl c).1 = true → fi' = nI (rdS t pl c).2.2.1 ∧ se' = nI (rdS t pl c).2.2.2) := by
  have hl := hT.1
  unfold rdS
  by_cases e : dgA t pl (c + 1) = true
  · have h1 := rdC_le e
    have h2 := rdV_le e
    rw [if_pos e]
    by_cases e2 : sgA t pl (rdC t pl (c + 1)) = 33
    · rw [if_pos e2]
      refine ⟨_, _, ?_, fun _ => ⟨rfl, rfl⟩⟩
      refine ev_in rfl rfl (Nat.le_of_ble_eq_true rfl) rfl ?_
      refine wp_run rfl ?_
      rw [nI_1]
      refine wp_putf (h1 := (hX B Y sl (f, nI pl, nI (c + 1), la, ki, fi, se) G tl)) rfl rfl (Nat.le_of_ble_eq_true rfl) ⟨rfl, rfl, fun _ hz_ => by cases hz_⟩ rfl ?_
      refine wp_run rfl ?_
      refine wp_v0 rfl rfl (Nat.le_of_ble_eq_true rfl) (x2_readNumber hT e) ?_
      refine wp_run rfl ?_
      refine wp_putf (h1 := (hX B Y sl (f, nI pl, nI (rdC t pl (c + 1)), la, ki, nI (rdV t pl (c + 1)), se) G tl)) rfl rfl (Nat.le_of_ble_eq_true rfl) ⟨rfl, rfl, fun _ hz_ => by cases hz_⟩ rfl ?_
      refine wp_run rfl ?_
      refine wp_ifge rfl (fun _ => ?_) (fun hz_ => absurd (nI_pos' (by omega)) hz_)
      refine wp_run rfl ?_
      refine wp_v1 rfl rfl (Nat.le_of_ble_eq_true rfl) (x2_skip_yes (x := 33) hT (by decide) e2) ?_
      refine wp_run rfl ?_
      refine wp_ifeq rfl (fun hz_ => absurd hz_ ((by decide : ¬ (1 : Int32) = 0))) (fun _ => ?_)
      refine wp_run rfl ?_
      refine wp_putf (h1 := (hX B Y sl (f, nI pl, nI (rdC t pl (c + 1) + 1), la, ki, nI (rdV t pl (c + 1)), nI 1) G tl)) rfl rfl (Nat.le_of_ble_eq_true rfl) ⟨rfl, rfl, fun _ hz_ => by cases hz_⟩ rfl ?_
      refine wp_run rfl ?_
      exact wp_ret rfl rfl ⟨rfl, rfl⟩
    · rw [if_neg e2]
      refine ⟨_, _, ?_, fun _ => ⟨rfl, rfl⟩⟩
      refine ev_in rfl rfl (Nat.le_of_ble_eq_true rfl) rfl ?_
      refine wp_run rfl ?_
      rw [nI_1]
      refine wp_putf (h1 := (hX B Y sl (f, nI pl, nI (c + 1), la, ki, fi, se) G tl)) rfl rfl (Nat.le_of_ble_eq_true rfl) ⟨rfl, rfl, fun _ hz_ => by cases hz_⟩ rfl ?_
      refine wp_run rfl ?_
      refine wp_v0 rfl rfl (Nat.le_of_ble_eq_true rfl) (x2_readNumber hT e) ?_
      refine wp_run rfl ?_
      refine wp_putf (h1 := (hX B Y sl (f, nI pl, nI (rdC t pl (c + 1)), la, ki, nI (rdV t pl (c + 1)), se) G tl)) rfl rfl (Nat.le_of_ble_eq_true rfl) ⟨rfl, rfl, fun _ hz_ => by cases hz_⟩ rfl ?_
      refine wp_run rfl ?_
      refine wp_ifge rfl (fun _ => ?_) (fun hz_ => absurd (nI_pos' (by omega)) hz_)
      refine wp_run rfl ?_
      refine wp_v1 rfl rfl (Nat.le_of_ble_eq_true rfl) (x2_skip_no (x := 33) hT (by omega) (by decide) e2) ?_
      refine wp_run rfl ?_
      refine wp_ifeq rfl (fun _ => ?_) (fun hz_ => absurd (rfl) hz_)
      refine wp_run rfl ?_
      refine wp_putf (h1 := (hX B Y sl (f, nI pl, nI (rdC t pl (c + 1)), la, ki, nI (rdV t pl (c + 1)), nI 0) G tl)) rfl rfl (Nat.le_of_ble_eq_true rfl) ⟨rfl, rfl, fun _ hz_ => by cases hz_⟩ rfl ?_
      refine wp_run rfl ?_
      exact wp_ret rfl rfl ⟨rfl, rfl⟩
  · rw [if_neg e]
    refine ⟨-6, se, ?_, fun z => by cases z⟩
    refine ev_in rfl rfl (Nat.le_of_ble_eq_true rfl) rfl ?_
    refine wp_run rfl ?_
    rw [nI_1]
    refine wp_putf (h1 := (hX B Y sl (f, nI pl, nI (c + 1), la, ki, fi, se) G tl)) rfl rfl (Nat.le_of_ble_eq_true rfl) ⟨rfl, rfl, fun _ hz_ => by cases hz_⟩ rfl ?_
    refine wp_run rfl ?_
    refine wp_v0 rfl rfl (Nat.le_of_ble_eq_true rfl) (x2_readNumber_no hT (show c + 1 ≤ 100 by omega) (by cases hh : dgA t pl (c + 1) with | true => exact absurd hh e | false => rfl)) ?_
    refine wp_run rfl ?_
    refine wp_putf (h1 := (hX B Y sl (f, nI pl, nI (c + 1), la, ki, -6, se) G tl)) rfl rfl (Nat.le_of_ble_eq_true rfl) ⟨rfl, rfl, fun _ hz_ => by cases hz_⟩ rfl ?_
    refine wp_run rfl ?_
    refine wp_ifge rfl (fun hz_ => absurd hz_ ((by decide : ¬ (0 : Int32) ≤ -6))) (fun _ => ?_)
    refine wp_run rfl ?_
    exact wp_ret rfl rfl ⟨rfl, rfl⟩
theorem x2_readPair (hT : PT f t pl) (hc : c < pl) {x : Nat} (hx : 0 < x) (hx2 : x < 128) : ∃ fi' se', axEv ro (d + 4) kX2_readPair [.ref 11, .int (nI x)] ((hX B Y sl (f, nI pl, nI c, la, ki, fi, se) G tl)) (some (.int (if (rdP t pl x c).1 = true then 1 else 0))) ((hX B Y sl (f, nI pl, nI (rdP t pl x c).2.1, la, ki, fi', se') G tl)) ∧ ((rdP t pl x c).1 = true → fi' = nI (rdP t pl x c).2.2.1 ∧ se' = nI (rdP t pl x c).2.2.2) := by
  have hl := hT.1
  unfold rdP
  by_cases e : dgA t pl (c + 1) = true
  · have h1 := rdC_le e
    have h2 := rdV_le e
    rw [if_pos e]
    by_cases e2 : sgA t pl (rdC t pl (c + 1)) = x
    · have hc2 := sgA_in (show sgA t pl (rdC t pl (c + 1)) ≠ 0 by omega)
      rw [if_pos e2]
      by_cases e3 : dgA t pl (rdC t pl (c + 1) + 1) = true
      · have h3 := rdC_le e3
        have h4 := rdV_le e3
        rw [if_pos e3]
        refine ⟨_, _, ?_, fun _ => ⟨rfl, rfl⟩⟩
        refine ev_in rfl rfl (Nat.le_of_ble_eq_true rfl) rfl ?_
        refine wp_run rfl ?_
        rw [nI_1]
        refine wp_putf (h1 := (hX B Y sl (f, nI pl, nI (c + 1), la, ki, fi, se) G tl)) rfl rfl (Nat.le_of_ble_eq_true rfl) ⟨rfl, rfl, fun _ hz_ => by cases hz_⟩ rfl ?_
        refine wp_run rfl ?_
        refine wp_v0 rfl rfl (Nat.le_of_ble_eq_true rfl) (x2_readNumber hT e) ?_
        refine wp_run rfl ?_
        refine wp_putf (h1 := (hX B Y sl (f, nI pl, nI (rdC t pl (c + 1)), la, ki, nI (rdV t pl (c + 1)), se) G tl)) rfl rfl (Nat.le_of_ble_eq_true rfl) ⟨rfl, rfl, fun _ hz_ => by cases hz_⟩ rfl ?_
        refine wp_run rfl ?_
        refine wp_iflt rfl (fun hz_ => absurd hz_ (nI_pos (by omega))) (fun _ => ?_)
        refine wp_run rfl ?_
        refine wp_v1 rfl rfl (Nat.le_of_ble_eq_true rfl) (x2_skip_yes hT hx e2) ?_
        refine wp_run rfl ?_
        refine wp_ifne rfl (fun _ => ?_) (fun hz_ => absurd ((by decide : ¬ (1 : Int32) = 0)) hz_)
        refine wp_run rfl ?_
        refine wp_v0 rfl rfl (Nat.le_of_ble_eq_true rfl) (x2_readNumber hT e3) ?_
        refine wp_run rfl ?_
        refine wp_putf (h1 := (hX B Y sl (f, nI pl, nI (rdC t pl (rdC t pl (c + 1) + 1)), la, ki, nI (rdV t pl (c + 1)), nI (rdV t pl (rdC t pl (c + 1) + 1))) G tl)) rfl rfl (Nat.le_of_ble_eq_true rfl) ⟨rfl, rfl, fun _ hz_ => by cases hz_⟩ rfl ?_
        refine wp_run rfl ?_
        refine wp_iflt rfl (fun hz_ => absurd hz_ (nI_pos (by omega))) (fun _ => ?_)
        refine wp_run rfl ?_
        exact wp_ret rfl rfl ⟨rfl, rfl⟩
      · rw [if_neg e3]
        refine ⟨nI (rdV t pl (c + 1)), -6, ?_, fun z => by cases z⟩
        refine ev_in rfl rfl (Nat.le_of_ble_eq_true rfl) rfl ?_
        refine wp_run rfl ?_
        rw [nI_1]
        refine wp_putf (h1 := (hX B Y sl (f, nI pl, nI (c + 1), la, ki, fi, se) G tl)) rfl rfl (Nat.le_of_ble_eq_true rfl) ⟨rfl, rfl, fun _ hz_ => by cases hz_⟩ rfl ?_
        refine wp_run rfl ?_
        refine wp_v0 rfl rfl (Nat.le_of_ble_eq_true rfl) (x2_readNumber hT e) ?_
        refine wp_run rfl ?_
        refine wp_putf (h1 := (hX B Y sl (f, nI pl, nI (rdC t pl (c + 1)), la, ki, nI (rdV t pl (c + 1)), se) G tl)) rfl rfl (Nat.le_of_ble_eq_true rfl) ⟨rfl, rfl, fun _ hz_ => by cases hz_⟩ rfl ?_
        refine wp_run rfl ?_
        refine wp_iflt rfl (fun hz_ => absurd hz_ (nI_pos (by omega))) (fun _ => ?_)
        refine wp_run rfl ?_
        refine wp_v1 rfl rfl (Nat.le_of_ble_eq_true rfl) (x2_skip_yes hT hx e2) ?_
        refine wp_run rfl ?_
        refine wp_ifne rfl (fun _ => ?_) (fun hz_ => absurd ((by decide : ¬ (1 : Int32) = 0)) hz_)
        refine wp_run rfl ?_
        refine wp_v0 rfl rfl (Nat.le_of_ble_eq_true rfl) (x2_readNumber_no hT (by omega) (by cases hh : dgA t pl (rdC t pl (c + 1) + 1) with | true => exact absurd hh e3 | false => rfl)) ?_
        refine wp_run rfl ?_
        refine wp_putf (h1 := (hX B Y sl (f, nI pl, nI (rdC t pl (c + 1) + 1), la, ki, nI (rdV t pl (c + 1)), -6) G tl)) rfl rfl (Nat.le_of_ble_eq_true rfl) ⟨rfl, rfl, fun _ hz_ => by cases hz_⟩ rfl ?_
        refine wp_run rfl ?_
        refine wp_iflt rfl (fun _ => ?_) (fun hz_ => absurd ((by decide : (-6 : Int32) < 0)) hz_)
        refine wp_run rfl ?_
        exact wp_ret rfl rfl ⟨rfl, rfl⟩
    · rw [if_neg e2]
      refine ⟨nI (rdV t pl (c + 1)), se, ?_, fun z => by cases z⟩
      refine ev_in rfl rfl (Nat.le_of_ble_eq_true rfl) rfl ?_
      refine wp_run rfl ?_
      rw [nI_1]
      refine wp_putf (h1 := (hX B Y sl (f, nI pl, nI (c + 1), la, ki, fi, se) G tl)) rfl rfl (Nat.le_of_ble_eq_true rfl) ⟨rfl, rfl, fun _ hz_ => by cases hz_⟩ rfl ?_
      refine wp_run rfl ?_
      refine wp_v0 rfl rfl (Nat.le_of_ble_eq_true rfl) (x2_readNumber hT e) ?_
      refine wp_run rfl ?_
      refine wp_putf (h1 := (hX B Y sl (f, nI pl, nI (rdC t pl (c + 1)), la, ki, nI (rdV t pl (c + 1)), se) G tl)) rfl rfl (Nat.le_of_ble_eq_true rfl) ⟨rfl, rfl, fun _ hz_ => by cases hz_⟩ rfl ?_
      refine wp_run rfl ?_
      refine wp_iflt rfl (fun hz_ => absurd hz_ (nI_pos (by omega))) (fun _ => ?_)
      refine wp_run rfl ?_
      refine wp_v1 rfl rfl (Nat.le_of_ble_eq_true rfl) (x2_skip_no hT (by omega) hx2 e2) ?_
      refine wp_run rfl ?_
      refine wp_ifne rfl (fun hz_ => absurd hz_ (fun z => z rfl)) (fun _ => ?_)
      refine wp_run rfl ?_
      exact wp_ret rfl rfl ⟨rfl, rfl⟩
  · rw [if_neg e]
    refine ⟨-6, se, ?_, fun z => by cases z⟩
    refine ev_in rfl rfl (Nat.le_of_ble_eq_true rfl) rfl ?_
    refine wp_run rfl ?_
    rw [nI_1]
    refine wp_putf (h1 := (hX B Y sl (f, nI pl, nI (c + 1), la, ki, fi, se) G tl)) rfl rfl (Nat.le_of_ble_eq_true rfl) ⟨rfl, rfl, fun _ hz_ => by cases hz_⟩ rfl ?_
    refine wp_run rfl ?_
    refine wp_v0 rfl rfl (Nat.le_of_ble_eq_true rfl) (x2_readNumber_no hT (show c + 1 ≤ 100 by omega) (by cases hh : dgA t pl (c + 1) with | true => exact absurd hh e | false => rfl)) ?_
    refine wp_run rfl ?_
    refine wp_putf (h1 := (hX B Y sl (f, nI pl, nI (c + 1), la, ki, -6, se) G tl)) rfl rfl (Nat.le_of_ble_eq_true rfl) ⟨rfl, rfl, fun _ hz_ => by cases hz_⟩ rfl ?_
    refine wp_run rfl ?_
    refine wp_iflt rfl (fun _ => ?_) (fun hz_ => absurd ((by decide : (-6 : Int32) < 0)) hz_)
    refine wp_run rfl ?_
    exact wp_ret rfl rfl ⟨rfl, rfl⟩
theorem x2_readAct (hT : PT f t pl) (hc : c < pl) : ∃ fi', axEv ro (d + 3) kX2_readAct [.ref 11] ((hX B Y sl (f, nI pl, nI c, la, ki, fi, se) G tl)) (some (.int (if (rdF t pl c).1 = true then 1 else 0))) ((hX B Y sl (f, nI pl, nI (rdF t pl c).2.1, la, ki, fi', se) G tl)) ∧ ((rdF t pl c).1 = true → fi' = nI (rdF t pl c).2.2.1) := by
  have hl := hT.1
  unfold rdF
  by_cases e : dgA t pl (c + 1) = true
  · have h1 := dgA_in e
    rw [if_pos e]
    refine ⟨_, ?_, fun _ => rfl⟩
    refine ev_in rfl rfl (Nat.le_of_ble_eq_true rfl) rfl ?_
    refine wp_run rfl ?_
    rw [nI_1]
    refine wp_putf (h1 := (hX B Y sl (f, nI pl, nI (c + 1), la, ki, fi, se) G tl)) rfl rfl (Nat.le_of_ble_eq_true rfl) ⟨rfl, rfl, fun _ hz_ => by cases hz_⟩ rfl ?_
    refine wp_run rfl ?_
    refine wp_v0 rfl rfl (Nat.le_of_ble_eq_true rfl) (x2_readDigit hT e) ?_
    refine wp_run rfl ?_
    refine wp_putf (h1 := (hX B Y sl (f, nI pl, nI (c + 2), la, ki, nI (sgA t pl (c + 1) - 48), se) G tl)) rfl rfl (Nat.le_of_ble_eq_true rfl) ⟨rfl, rfl, fun _ hz_ => by cases hz_⟩ rfl ?_
    refine wp_run rfl ?_
    refine wp_iflt rfl (fun hz_ => absurd hz_ (nI_pos (by omega))) (fun _ => ?_)
    refine wp_run rfl ?_
    exact wp_ret rfl rfl ⟨rfl, rfl⟩
  · rw [if_neg e]
    refine ⟨-6, ?_, fun z => by cases z⟩
    refine ev_in rfl rfl (Nat.le_of_ble_eq_true rfl) rfl ?_
    refine wp_run rfl ?_
    rw [nI_1]
    refine wp_putf (h1 := (hX B Y sl (f, nI pl, nI (c + 1), la, ki, fi, se) G tl)) rfl rfl (Nat.le_of_ble_eq_true rfl) ⟨rfl, rfl, fun _ hz_ => by cases hz_⟩ rfl ?_
    refine wp_run rfl ?_
    refine wp_v0 rfl rfl (Nat.le_of_ble_eq_true rfl) (x2_readDigit_no hT (show c + 1 ≤ 100 by omega) (by cases hh : dgA t pl (c + 1) with | true => exact absurd hh e | false => rfl)) ?_
    refine wp_run rfl ?_
    refine wp_putf (h1 := (hX B Y sl (f, nI pl, nI (c + 1), la, ki, -6, se) G tl)) rfl rfl (Nat.le_of_ble_eq_true rfl) ⟨rfl, rfl, fun _ hz_ => by cases hz_⟩ rfl ?_
    refine wp_run rfl ?_
    refine wp_iflt rfl (fun _ => ?_) (fun hz_ => absurd ((by decide : (-6 : Int32) < 0)) hz_)
    refine wp_run rfl ?_
    exact wp_ret rfl rfl ⟨rfl, rfl⟩
theorem rd_tail (hT : PT f t pl) (hc : c ≤ pl) (r : Bool) : axW ro (axEv ro (d + 4)) cdX2_readOrder 166 [some (.ref 11), some (.int (if r = true then 1 else 0))] [.int (if r = true then 1 else 0), .ref 11] ((hX B Y sl (f, nI pl, nI c, la, ki, fi, se) G tl)) (fun r' h' => r' = some (.int (if (rdT t pl r c).1 = true then 1 else 0)) ∧ h' = ((hX B Y sl (f, nI pl, nI (rdT t pl r c).2.1, (if (rdT t pl r c).2.2 = true then 1 else 0), ki, fi, se) G tl))) := by
  have hl := hT.1
  cases r with
  | false =>
    rw [show rdT t pl false c = (false, c, false) from rfl]
    refine wp_ifeq rfl (fun _ => ?_) (fun hz_ => absurd (rfl) hz_)
    refine wp_run rfl ?_
    refine wp_putf (h1 := (hX B Y sl (f, nI pl, nI c, 0, ki, fi, se) G tl)) rfl rfl (Nat.le_of_ble_eq_true rfl) ⟨rfl, rfl, fun _ hz_ => by cases hz_⟩ rfl ?_
    refine wp_run rfl ?_
    refine wp_ifne rfl (fun hz_ => absurd hz_ (fun z => z rfl)) (fun _ => ?_)
    refine wp_run rfl ?_
    refine wp_ifeq rfl (fun _ => ?_) (fun hz_ => absurd (rfl) hz_)
    refine wp_run rfl ?_
    exact wp_ret rfl rfl ⟨rfl, rfl⟩
  | true =>
    rw [show rdT t pl true c = if pl ≤ c then (true, c, true) else if sgA t pl c = 59 then (true, c + 1, false) else (false, c, false) from rfl]
    by_cases e : pl ≤ c
    · rw [if_pos e]
      refine wp_ifeq rfl (fun hz_ => absurd hz_ ((by decide : ¬ (1 : Int32) = 0))) (fun _ => ?_)
      refine wp_run rfl ?_
      refine wp_iclt rfl (fun hz_ => absurd hz_ (nI_nlt e (by omega))) (fun _ => ?_)
      refine wp_run rfl ?_
      refine wp_putf (h1 := (hX B Y sl (f, nI pl, nI c, 1, ki, fi, se) G tl)) rfl rfl (Nat.le_of_ble_eq_true rfl) ⟨rfl, rfl, fun _ hz_ => by cases hz_⟩ rfl ?_
      refine wp_run rfl ?_
      refine wp_ifne rfl (fun _ => ?_) (fun hz_ => absurd ((by decide : ¬ (1 : Int32) = 0)) hz_)
      refine wp_run rfl ?_
      exact wp_ret rfl rfl ⟨rfl, rfl⟩
    · rw [if_neg e]
      by_cases e2 : sgA t pl c = 59
      · rw [if_pos e2]
        refine wp_ifeq rfl (fun hz_ => absurd hz_ ((by decide : ¬ (1 : Int32) = 0))) (fun _ => ?_)
        refine wp_run rfl ?_
        refine wp_iclt rfl (fun _ => ?_) (fun hz_ => absurd (nI_lt (show c < pl by omega) (by omega)) hz_)
        refine wp_run rfl ?_
        refine wp_putf (h1 := (hX B Y sl (f, nI pl, nI c, 0, ki, fi, se) G tl)) rfl rfl (Nat.le_of_ble_eq_true rfl) ⟨rfl, rfl, fun _ hz_ => by cases hz_⟩ rfl ?_
        refine wp_run rfl ?_
        refine wp_ifne rfl (fun hz_ => absurd hz_ (fun z => z rfl)) (fun _ => ?_)
        refine wp_run rfl ?_
        refine wp_ifeq rfl (fun hz_ => absurd hz_ ((by decide : ¬ (1 : Int32) = 0))) (fun _ => ?_)
        refine wp_run rfl ?_
        refine wp_v1 rfl rfl (Nat.le_of_ble_eq_true rfl) (x2_skip_yes (x := 59) hT (by decide) e2) ?_
        refine wp_run rfl ?_
        refine wp_ifeq rfl (fun hz_ => absurd hz_ ((by decide : ¬ (1 : Int32) = 0))) (fun _ => ?_)
        refine wp_run rfl ?_
        exact wp_ret rfl rfl ⟨rfl, rfl⟩
      · rw [if_neg e2]
        refine wp_ifeq rfl (fun hz_ => absurd hz_ ((by decide : ¬ (1 : Int32) = 0))) (fun _ => ?_)
        refine wp_run rfl ?_
        refine wp_iclt rfl (fun _ => ?_) (fun hz_ => absurd (nI_lt (show c < pl by omega) (by omega)) hz_)
        refine wp_run rfl ?_
        refine wp_putf (h1 := (hX B Y sl (f, nI pl, nI c, 0, ki, fi, se) G tl)) rfl rfl (Nat.le_of_ble_eq_true rfl) ⟨rfl, rfl, fun _ hz_ => by cases hz_⟩ rfl ?_
        refine wp_run rfl ?_
        refine wp_ifne rfl (fun hz_ => absurd hz_ (fun z => z rfl)) (fun _ => ?_)
        refine wp_run rfl ?_
        refine wp_ifeq rfl (fun hz_ => absurd hz_ ((by decide : ¬ (1 : Int32) = 0))) (fun _ => ?_)
        refine wp_run rfl ?_
        refine wp_v1 rfl rfl (Nat.le_of_ble_eq_true rfl) (x2_skip_no (x := 59) hT (by omega) (by decide) e2) ?_
        refine wp_run rfl ?_
        refine wp_ifeq rfl (fun _ => ?_) (fun hz_ => absurd (rfl) hz_)
        refine wp_run rfl ?_
        exact wp_ret rfl rfl ⟨rfl, rfl⟩
end AX34
