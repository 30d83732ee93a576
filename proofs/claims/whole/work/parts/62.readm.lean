/-! THE REFERENCE: an order of the pad is read. -/
section AX62
variable {ro : axRo} {d : Nat} {ch : Nat → axC} {M : axMD} {tl : axH} {t : Nat → Nat} {pl c : Nat} {lt o1 o2 it dn : Int32}
theorem x5_isNext (hT : PT (mPd M) t pl) (hl : mLn M = nI pl) (hc : c ≤ 100) {lo hi : Nat} (h1 : 1 ≤ lo) (h2 : lo < 2 ^ 31) (h3 : hi < 2 ^ 31) : axEv ro (d + 2) kX5_isNext [.ref 15, .int (nI lo), .int (nI hi)] (hM ch (mS M, mHs M, mKp M, mSl M, mSv M, mBf M, mPd M, mLn M, nI c, lt, o1, o2, it, dn) tl) (some (.int (if lo ≤ sgA t pl c ∧ sgA t pl c ≤ hi then 1 else 0))) (hM ch (mS M, mHs M, mKp M, mSl M, mSv M, mBf M, mPd M, mLn M, nI c, lt, o1, o2, it, dn) tl) := by
  have hp := hT.1
  have hs := sgA_lt hT c
  by_cases e : c < pl
  · have hfc : mPd M c = nI (sgA t pl c) := by unfold sgA; rw [if_pos e]; exact (hT.2 c e).1
    refine ev_in rfl rfl (Nat.le_of_ble_eq_true rfl) rfl ?_
    refine wp_run rfl ?_
    rw [hl]
    refine wp_icge rfl (fun hz_ => absurd hz_ (nI_ge e (by omega))) (fun _ => ?_)
    refine wp_run rfl ?_
    refine wp_ald rfl rfl (vp_in_nI ((show c < 80 by omega)) (by decide)) (by rw [nI_clamp (by omega)]) ?_
    refine wp_run rfl ?_
    rw [show mPd (mS M, mHs M, mKp M, mSl M, mSv M, mBf M, mPd M, mLn M, nI c, lt, o1, o2, it, dn) c = nI (sgA t pl c) from hfc]
    by_cases e2 : lo ≤ sgA t pl c ∧ sgA t pl c ≤ hi
    · rw [if_pos e2]
      refine wp_s3 rfl (Nat.le_of_ble_eq_true rfl) (x5_in_yes (nI_nlt e2.1 (by omega)) (nI_le e2.2 h3)) ?_
      refine wp_run rfl ?_
      refine wp_ifeq rfl (fun hz_ => absurd hz_ ((by decide : ¬ (1 : Int32) = 0))) (fun _ => ?_)
      refine wp_run rfl ?_
      exact wp_ret rfl rfl ⟨rfl, rfl⟩
    · rw [if_neg e2]
      have e3 : nI (sgA t pl c) < nI lo ∨ ¬ nI (sgA t pl c) ≤ nI hi := by
        rcases Nat.lt_or_ge (sgA t pl c) lo with z | z
        · exact Or.inl (nI_lt z h2)
        · exact Or.inr (nI_ge (show hi < sgA t pl c by omega) (by omega))
      refine wp_s3 rfl (Nat.le_of_ble_eq_true rfl) (x5_in_no e3) ?_
      refine wp_run rfl ?_
      refine wp_ifeq rfl (fun _ => ?_) (fun hz_ => absurd (rfl) hz_)
      refine wp_run rfl ?_
      exact wp_ret rfl rfl ⟨rfl, rfl⟩
  · have h0 : sgA t pl c = 0 := by unfold sgA; rw [if_neg e]
    rw [h0, if_neg (by omega)]
    refine ev_in rfl rfl (Nat.le_of_ble_eq_true rfl) rfl ?_
    refine wp_run rfl ?_
    rw [hl]
    refine wp_icge rfl (fun _ => ?_) (fun hz_ => absurd (nI_le (by omega) (by omega)) hz_)
    refine wp_run rfl ?_
    exact wp_ret rfl rfl ⟨rfl, rfl⟩
theorem x5_takes_yes (hT : PT (mPd M) t pl) (hl : mLn M = nI pl) (hc : c ≤ 100) {x : Nat} (hx : 1 ≤ x) (hx2 : x < 2 ^ 31) (h : sgA t pl c = x) : axEv ro (d + 3) kX5_takes [.ref 15, .int (nI x)] (hM ch (mS M, mHs M, mKp M, mSl M, mSv M, mBf M, mPd M, mLn M, nI c, lt, o1, o2, it, dn) tl) (some (.int 1)) (hM ch (mS M, mHs M, mKp M, mSl M, mSv M, mBf M, mPd M, mLn M, nI (c + 1), lt, o1, o2, it, dn) tl) := by
  have hn := x5_isNext (ro := ro) (d := d) (ch := ch) (tl := tl) (lt := lt) (o1 := o1) (o2 := o2) (it := it) (dn := dn) hT hl hc hx hx2 hx2
  rw [if_pos ⟨by omega, by omega⟩] at hn
  refine ev_in rfl rfl (Nat.le_of_ble_eq_true rfl) rfl ?_
  refine wp_run rfl ?_
  refine wp_v2 rfl rfl (Nat.le_of_ble_eq_true rfl) (hn) ?_
  refine wp_run rfl ?_
  refine wp_ifeq rfl (fun hz_ => absurd hz_ ((by decide : ¬ (1 : Int32) = 0))) (fun _ => ?_)
  refine wp_run rfl ?_
  rw [nI_1]
  refine wp_putf (h1 := (hM ch (mS M, mHs M, mKp M, mSl M, mSv M, mBf M, mPd M, mLn M, nI (c + 1), lt, o1, o2, it, dn) tl)) rfl rfl (Nat.le_of_ble_eq_true rfl) ⟨rfl, rfl, fun _ hz_ => by cases hz_⟩ rfl ?_
  refine wp_run rfl ?_
  exact wp_ret rfl rfl ⟨rfl, rfl⟩
theorem x5_takes_no (hT : PT (mPd M) t pl) (hl : mLn M = nI pl) (hc : c ≤ 100) {x : Nat} (hx : 1 ≤ x) (hx2 : x < 2 ^ 31) (h : sgA t pl c ≠ x) : axEv ro (d + 3) kX5_takes [.ref 15, .int (nI x)] (hM ch (mS M, mHs M, mKp M, mSl M, mSv M, mBf M, mPd M, mLn M, nI c, lt, o1, o2, it, dn) tl) (some (.int 0)) (hM ch (mS M, mHs M, mKp M, mSl M, mSv M, mBf M, mPd M, mLn M, nI c, lt, o1, o2, it, dn) tl) := by
  have hn := x5_isNext (ro := ro) (d := d) (ch := ch) (tl := tl) (lt := lt) (o1 := o1) (o2 := o2) (it := it) (dn := dn) hT hl hc hx hx2 hx2
  rw [if_neg (by omega)] at hn
  refine ev_in rfl rfl (Nat.le_of_ble_eq_true rfl) rfl ?_
  refine wp_run rfl ?_
  refine wp_v2 rfl rfl (Nat.le_of_ble_eq_true rfl) (hn) ?_
  refine wp_run rfl ?_
  refine wp_ifeq rfl (fun _ => ?_) (fun hz_ => absurd (rfl) hz_)
  refine wp_run rfl ?_
  rw [Int32.add_zero]
  refine wp_putf (h1 := (hM ch (mS M, mHs M, mKp M, mSl M, mSv M, mBf M, mPd M, mLn M, nI c, lt, o1, o2, it, dn) tl)) rfl rfl (Nat.le_of_ble_eq_true rfl) ⟨rfl, rfl, fun _ hz_ => by cases hz_⟩ rfl ?_
  refine wp_run rfl ?_
  exact wp_ret rfl rfl ⟨rfl, rfl⟩
theorem isDg (hT : PT (mPd M) t pl) (hl : mLn M = nI pl) (hc : c ≤ 100) : axEv ro (d + 2) kX5_isNext [.ref 15, .int 48, .int 57] (hM ch (mS M, mHs M, mKp M, mSl M, mSv M, mBf M, mPd M, mLn M, nI c, lt, o1, o2, it, dn) tl) (some (.int (if dgA t pl c = true then 1 else 0))) (hM ch (mS M, mHs M, mKp M, mSl M, mSv M, mBf M, mPd M, mLn M, nI c, lt, o1, o2, it, dn) tl) := by
  have hn := x5_isNext (ro := ro) (d := d) (ch := ch) (tl := tl) (lt := lt) (o1 := o1) (o2 := o2) (it := it) (dn := dn) hT hl hc (lo := 48) (hi := 57) (by decide) (by decide) (by decide)
  have e : (if dgA t pl c = true then (1 : Int32) else 0) = if 48 ≤ sgA t pl c ∧ sgA t pl c ≤ 57 then 1 else 0 := by
    unfold dgA
    by_cases h : 48 ≤ sgA t pl c ∧ sgA t pl c ≤ 57
    · rw [decide_eq_true h, if_pos rfl, if_pos h]
    · rw [decide_eq_false h, if_neg (by decide), if_neg h]
  rw [e]
  exact hn
theorem x5_readNumber_no (hT : PT (mPd M) t pl) (hl : mLn M = nI pl) (hc : c ≤ 100) (hd : dgA t pl c = false) : axEv ro (d + 3) kX5_readNumber [.ref 15] (hM ch (mS M, mHs M, mKp M, mSl M, mSv M, mBf M, mPd M, mLn M, nI c, lt, o1, o2, it, dn) tl) (some (.int (-6))) (hM ch (mS M, mHs M, mKp M, mSl M, mSv M, mBf M, mPd M, mLn M, nI c, lt, o1, o2, it, dn) tl) := by
  have hn := isDg (ro := ro) (d := d) (ch := ch) (tl := tl) (lt := lt) (o1 := o1) (o2 := o2) (it := it) (dn := dn) hT hl hc
  rw [hd, if_neg (by decide)] at hn
  refine ev_in rfl rfl (Nat.le_of_ble_eq_true rfl) rfl ?_
  refine wp_run rfl ?_
  refine wp_v2 rfl rfl (Nat.le_of_ble_eq_true rfl) (hn) ?_
  refine wp_run rfl ?_
  refine wp_ifne rfl (fun hz_ => absurd hz_ (fun z => z rfl)) (fun _ => ?_)
  refine wp_run rfl ?_
  exact wp_ret rfl rfl ⟨rfl, rfl⟩
theorem x5_readNumber (hT : PT (mPd M) t pl) (hl : mLn M = nI pl) (hd : dgA t pl c = true) : axEv ro (d + 3) kX5_readNumber [.ref 15] (hM ch (mS M, mHs M, mKp M, mSl M, mSv M, mBf M, mPd M, mLn M, nI c, lt, o1, o2, it, dn) tl) (some (.int (nI (rdV t pl c)))) (hM ch (mS M, mHs M, mKp M, mSl M, mSv M, mBf M, mPd M, mLn M, nI (rdC t pl c), lt, o1, o2, it, dn) tl) := by
  have hp := hT.1
  obtain ⟨hc, h48, h57⟩ := dgA_in hd
  have hn := isDg (ro := ro) (d := d) (ch := ch) (tl := tl) (lt := lt) (o1 := o1) (o2 := o2) (it := it) (dn := dn) hT hl (show c ≤ 100 by omega)
  have hn2 := isDg (ro := ro) (d := d) (ch := ch) (tl := tl) (lt := lt) (o1 := o1) (o2 := o2) (it := it) (dn := dn) hT hl (show c + 1 ≤ 100 by omega)
  rw [hd, if_pos rfl] at hn
  have hfc : mPd M c = nI (sgA t pl c) := by unfold sgA; rw [if_pos hc]; exact (hT.2 c hc).1
  unfold rdV rdC
  refine ev_in rfl rfl (Nat.le_of_ble_eq_true rfl) rfl ?_
  refine wp_run rfl ?_
  refine wp_v2 rfl rfl (Nat.le_of_ble_eq_true rfl) (hn) ?_
  refine wp_run rfl ?_
  refine wp_ifne rfl (fun _ => ?_) (fun hz_ => absurd ((by decide : ¬ (1 : Int32) = 0)) hz_)
  refine wp_run rfl ?_
  refine wp_ald rfl rfl (vp_in_nI ((show c < 80 by omega)) (by decide)) (by rw [nI_clamp (by omega)]) ?_
  refine wp_run rfl ?_
  rw [show mPd (mS M, mHs M, mKp M, mSl M, mSv M, mBf M, mPd M, mLn M, nI c, lt, o1, o2, it, dn) c = nI (sgA t pl c) from hfc, nI_1, show nI (sgA t pl c) - 48 = nI (sgA t pl c - 48) from pk_sub (b := 48) h48]
  refine wp_putf (h1 := (hM ch (mS M, mHs M, mKp M, mSl M, mSv M, mBf M, mPd M, mLn M, nI (c + 1), lt, o1, o2, it, dn) tl)) rfl rfl (Nat.le_of_ble_eq_true rfl) ⟨rfl, rfl, fun _ hz_ => by cases hz_⟩ rfl ?_
  refine wp_run rfl ?_
  by_cases e : sgA t pl c = 48
  · rw [if_pos e, if_pos e]
    refine wp_ifle rfl (fun _ => ?_) (fun hz_ => absurd (by rw [e]; decide) hz_)
    refine wp_run rfl ?_
    exact wp_ret rfl rfl ⟨by rw [e], rfl⟩
  · rw [if_neg e, if_neg e]
    refine wp_ifle rfl (fun hz_ => absurd hz_ (nI_nle (by omega) (by omega))) (fun _ => ?_)
    refine wp_run rfl ?_
    by_cases e2 : dgA t pl (c + 1) = true
    · obtain ⟨hc2, g48, g57⟩ := dgA_in e2
      have hfc2 : mPd M (c + 1) = nI (sgA t pl (c + 1)) := by unfold sgA; rw [if_pos hc2]; exact (hT.2 (c + 1) hc2).1
      rw [e2, if_pos rfl] at hn2
      rw [if_pos e2, if_pos e2]
      refine wp_v2 rfl rfl (Nat.le_of_ble_eq_true rfl) (hn2) ?_
      refine wp_run rfl ?_
      refine wp_ifeq rfl (fun hz_ => absurd hz_ ((by decide : ¬ (1 : Int32) = 0))) (fun _ => ?_)
      refine wp_run rfl ?_
      refine wp_ald rfl rfl (vp_in_nI ((show c + 1 < 80 by omega)) (by decide)) (by rw [nI_clamp (by omega)]) ?_
      refine wp_run rfl ?_
      rw [show mPd (mS M, mHs M, mKp M, mSl M, mSv M, mBf M, mPd M, mLn M, nI (c + 1), lt, o1, o2, it, dn) (c + 1) = nI (sgA t pl (c + 1)) from hfc2, nI_1, show (10 : Int32) * nI (sgA t pl c - 48) = nI (10 * (sgA t pl c - 48)) from nI_mul 10 _, nI_add, show nI (10 * (sgA t pl c - 48) + sgA t pl (c + 1)) - 48 = nI (10 * (sgA t pl c - 48) + sgA t pl (c + 1) - 48) from pk_sub (b := 48) (by omega), show 10 * (sgA t pl c - 48) + sgA t pl (c + 1) - 48 = 10 * (sgA t pl c - 48) + (sgA t pl (c + 1) - 48) by omega]
      refine wp_putf (h1 := (hM ch (mS M, mHs M, mKp M, mSl M, mSv M, mBf M, mPd M, mLn M, nI (c + 1 + 1), lt, o1, o2, it, dn) tl)) rfl rfl (Nat.le_of_ble_eq_true rfl) ⟨rfl, rfl, fun _ hz_ => by cases hz_⟩ rfl ?_
      refine wp_run rfl ?_
      exact wp_ret rfl rfl ⟨rfl, rfl⟩
    · rw [if_neg e2] at hn2
      rw [if_neg e2, if_neg e2]
      refine wp_v2 rfl rfl (Nat.le_of_ble_eq_true rfl) (hn2) ?_
      refine wp_run rfl ?_
      refine wp_ifeq rfl (fun _ => ?_) (fun hz_ => absurd (rfl) hz_)
      refine wp_run rfl ?_
      exact wp_ret rfl rfl ⟨rfl, rfl⟩
/-- what stands between the two numbers -/
def sgO (k : Nat) : Nat := if k = 110 then 62 else if k = 109 then 64 else if k = 120 then 126 else 45
theorem x5_signOf {k : Nat} (hk : k < 2 ^ 31) {h : axH} : axEv ro (d + 1) kX5_signOf [.int (nI k)] h (some (.int (nI (sgO k)))) h := by
  have ne : ∀ j : Nat, j < 2 ^ 31 → k ≠ j → ¬ nI k = nI j := fun j hj hkj z => hkj ((nI_eq hk hj).mp z)
  unfold sgO
  refine ev_in rfl rfl (Nat.le_of_ble_eq_true rfl) rfl ?_
  refine wp_run rfl ?_
  by_cases e1 : k = 110
  · rw [if_pos e1]
    refine wp_icne rfl (fun hz_ => absurd hz_ (fun z => z (by rw [e1]; rfl))) (fun _ => ?_)
    refine wp_run rfl ?_
    exact wp_ret rfl rfl ⟨rfl, rfl⟩
  · rw [if_neg e1]
    refine wp_icne rfl (fun _ => ?_) (fun hz_ => absurd (ne 110 (by decide) e1) hz_)
    refine wp_run rfl ?_
    by_cases e2 : k = 109
    · rw [if_pos e2]
      refine wp_icne rfl (fun hz_ => absurd hz_ (fun z => z (by rw [e2]; rfl))) (fun _ => ?_)
      refine wp_run rfl ?_
      exact wp_ret rfl rfl ⟨rfl, rfl⟩
    · rw [if_neg e2]
      refine wp_icne rfl (fun _ => ?_) (fun hz_ => absurd (ne 109 (by decide) e2) hz_)
      refine wp_run rfl ?_
      by_cases e3 : k = 120
      · rw [if_pos e3]
        refine wp_icne rfl (fun hz_ => absurd hz_ (fun z => z (by rw [e3]; rfl))) (fun _ => ?_)
        refine wp_run rfl ?_
        exact wp_ret rfl rfl ⟨rfl, rfl⟩
      · rw [if_neg e3]
        refine wp_icne rfl (fun _ => ?_) (fun hz_ => absurd (ne 120 (by decide) e3) hz_)
        refine wp_run rfl ?_
        exact wp_ret rfl rfl ⟨rfl, rfl⟩
/-- from the first number on: a pair -/
theorem ro_pair (hT : PT (mPd M) t pl) (hl : mLn M = nI pl) (hc : c < pl) {k : Nat} (hk : k = 110 ∨ k = 109 ∨ k = 120 ∨ k = 116) : ∃ o1' o2', (∀ r1 : Option Value, axW ro (axEv ro (d + 3)) cdX5_readOrder 159 [some (.ref 15), r1] [.ref 15, .ref 15] (hM ch (mS M, mHs M, mKp M, mSl M, mSv M, mBf M, mPd M, mLn M, nI (c + 1), nI k, o1, o2, it, dn) tl) (fun r' h' => r' = some (.int (if (rdP t pl (sgO k) c).1 = true then 1 else 0)) ∧ h' = (hM ch (mS M, mHs M, mKp M, mSl M, mSv M, mBf M, mPd M, mLn M, nI (rdP t pl (sgO k) c).2.1, nI k, o1', o2', it, dn) tl))) ∧ ((rdP t pl (sgO k) c).1 = true → o1' = nI (rdP t pl (sgO k) c).2.2.1 ∧ o2' = nI (rdP t pl (sgO k) c).2.2.2) := by
  have hp := hT.1
  have hx : 1 ≤ sgO k ∧ sgO k ≤ 126 := by unfold sgO; split <;> (try split) <;> (try split) <;> omega
  have hk2 : k < 2 ^ 31 := by omega
  have h115 : ¬ nI k = nI 115 := fun z => absurd ((nI_eq hk2 (by decide)).mp z) (by omega)
  unfold rdP
  by_cases e : dgA t pl (c + 1) = true
  · rw [if_pos e]
    have hle := rdC_le e
    have hv := rdV_le e
    have hev := x5_readNumber (ro := ro) (d := d) (ch := ch) (tl := tl) (lt := nI k) (o1 := o1) (o2 := o2) (it := it) (dn := dn) hT hl e
    have head : ∀ (Q : Option Value → axH → Prop) (r1 : Option Value), axW ro (axEv ro (d + 3)) cdX5_readOrder 205 [some (.ref 15), r1] [.int (nI (sgO k)), .ref 15] (hM ch (mS M, mHs M, mKp M, mSl M, mSv M, mBf M, mPd M, mLn M, nI (rdC t pl (c + 1)), nI k, nI (rdV t pl (c + 1)), o2, it, dn) tl) Q → axW ro (axEv ro (d + 3)) cdX5_readOrder 159 [some (.ref 15), r1] [.ref 15, .ref 15] (hM ch (mS M, mHs M, mKp M, mSl M, mSv M, mBf M, mPd M, mLn M, nI (c + 1), nI k, o1, o2, it, dn) tl) Q := by
      intro Q r1 kk
      refine wp_v0 rfl rfl (Nat.le_of_ble_eq_true rfl) (hev) ?_
      refine wp_run rfl ?_
      refine wp_putf (h1 := (hM ch (mS M, mHs M, mKp M, mSl M, mSv M, mBf M, mPd M, mLn M, nI (rdC t pl (c + 1)), nI k, nI (rdV t pl (c + 1)), o2, it, dn) tl)) rfl rfl (Nat.le_of_ble_eq_true rfl) ⟨rfl, rfl, fun _ hz_ => by cases hz_⟩ rfl ?_
      refine wp_run rfl ?_
      refine wp_icne rfl (fun _ => ?_) (fun hz => absurd (show nI (rdV t pl (c + 1)) < 0 by rw [show nI (rdV t pl (c + 1)) = -6 from Classical.not_not.mp hz]; decide) (nI_pos (by omega)))
      refine wp_run rfl ?_
      refine wp_icne rfl (fun _ => ?_) (fun hz_ => absurd (h115) hz_)
      refine wp_run rfl ?_
      refine wp_s1 rfl (Nat.le_of_ble_eq_true rfl) (x5_signOf (d := d + 2) hk2) ?_
      refine wp_run rfl ?_
      exact kk
    by_cases e2 : sgA t pl (rdC t pl (c + 1)) = sgO k
    · rw [if_pos e2]
      have hc2 := sgA_in (show sgA t pl (rdC t pl (c + 1)) ≠ 0 by omega)
      have ht := x5_takes_yes (ro := ro) (d := d) (ch := ch) (tl := tl) (lt := nI k) (o1 := nI (rdV t pl (c + 1))) (o2 := o2) (it := it) (dn := dn) hT hl (show rdC t pl (c + 1) ≤ 100 by omega) hx.1 (by omega) e2
      by_cases e3 : dgA t pl (rdC t pl (c + 1) + 1) = true
      · rw [if_pos e3]
        have hv2 := rdV_le e3
        refine ⟨nI (rdV t pl (c + 1)), nI (rdV t pl (rdC t pl (c + 1) + 1)), fun r1 => ?_, fun _ => ⟨rfl, rfl⟩⟩
        refine head _ r1 ?_
        refine wp_v1 rfl rfl (Nat.le_of_ble_eq_true rfl) (ht) ?_
        refine wp_run rfl ?_
        refine wp_ifne rfl (fun _ => ?_) (fun hz_ => absurd ((by decide : ¬ (1 : Int32) = 0)) hz_)
        refine wp_run rfl ?_
        refine wp_v0 rfl rfl (Nat.le_of_ble_eq_true rfl) (x5_readNumber (d := d) hT hl e3) ?_
        refine wp_run rfl ?_
        refine wp_putf (h1 := (hM ch (mS M, mHs M, mKp M, mSl M, mSv M, mBf M, mPd M, mLn M, nI (rdC t pl (rdC t pl (c + 1) + 1)), nI k, nI (rdV t pl (c + 1)), nI (rdV t pl (rdC t pl (c + 1) + 1)), it, dn) tl)) rfl rfl (Nat.le_of_ble_eq_true rfl) ⟨rfl, rfl, fun _ hz_ => by cases hz_⟩ rfl ?_
        refine wp_run rfl ?_
        refine wp_iceq rfl (fun hz => absurd (show nI (rdV t pl (rdC t pl (c + 1) + 1)) < 0 by rw [show nI (rdV t pl (rdC t pl (c + 1) + 1)) = -6 from hz]; decide) (nI_pos (by omega))) (fun _ => ?_)
        refine wp_run rfl ?_
        exact wp_ret rfl rfl ⟨rfl, rfl⟩
      · rw [if_neg e3]
        refine ⟨nI (rdV t pl (c + 1)), -6, fun r1 => ?_, fun z => Bool.noConfusion z⟩
        refine head _ r1 ?_
        refine wp_v1 rfl rfl (Nat.le_of_ble_eq_true rfl) (ht) ?_
        refine wp_run rfl ?_
        refine wp_ifne rfl (fun _ => ?_) (fun hz_ => absurd ((by decide : ¬ (1 : Int32) = 0)) hz_)
        refine wp_run rfl ?_
        refine wp_v0 rfl rfl (Nat.le_of_ble_eq_true rfl) (x5_readNumber_no (d := d) hT hl (show rdC t pl (c + 1) + 1 ≤ 100 by omega) (by cases h : dgA t pl (rdC t pl (c + 1) + 1); rfl; exact absurd h e3)) ?_
        refine wp_run rfl ?_
        refine wp_putf (h1 := (hM ch (mS M, mHs M, mKp M, mSl M, mSv M, mBf M, mPd M, mLn M, nI (rdC t pl (c + 1) + 1), nI k, nI (rdV t pl (c + 1)), -6, it, dn) tl)) rfl rfl (Nat.le_of_ble_eq_true rfl) ⟨rfl, rfl, fun _ hz_ => by cases hz_⟩ rfl ?_
        refine wp_run rfl ?_
        refine wp_iceq rfl (fun _ => ?_) (fun hz_ => absurd (rfl) hz_)
        refine wp_run rfl ?_
        exact wp_ret rfl rfl ⟨rfl, rfl⟩
    · rw [if_neg e2]
      have ht := x5_takes_no (ro := ro) (d := d) (ch := ch) (tl := tl) (lt := nI k) (o1 := nI (rdV t pl (c + 1))) (o2 := o2) (it := it) (dn := dn) hT hl (show rdC t pl (c + 1) ≤ 100 by omega) hx.1 (by omega) e2
      refine ⟨nI (rdV t pl (c + 1)), o2, fun r1 => ?_, fun z => Bool.noConfusion z⟩
      refine head _ r1 ?_
      refine wp_v1 rfl rfl (Nat.le_of_ble_eq_true rfl) (ht) ?_
      refine wp_run rfl ?_
      refine wp_ifne rfl (fun hz_ => absurd hz_ (fun z => z rfl)) (fun _ => ?_)
      refine wp_run rfl ?_
      exact wp_ret rfl rfl ⟨rfl, rfl⟩
  · rw [if_neg e]
    refine ⟨-6, o2, fun r1 => ?_, fun z => Bool.noConfusion z⟩
    refine wp_v0 rfl rfl (Nat.le_of_ble_eq_true rfl) (x5_readNumber_no (d := d) hT hl (show c + 1 ≤ 100 by omega) (by cases h : dgA t pl (c + 1); rfl; exact absurd h e)) ?_
    refine wp_run rfl ?_
    refine wp_putf (h1 := (hM ch (mS M, mHs M, mKp M, mSl M, mSv M, mBf M, mPd M, mLn M, nI (c + 1), nI k, -6, o2, it, dn) tl)) rfl rfl (Nat.le_of_ble_eq_true rfl) ⟨rfl, rfl, fun _ hz_ => by cases hz_⟩ rfl ?_
    refine wp_run rfl ?_
    refine wp_icne rfl (fun hz_ => absurd hz_ (fun z => z rfl)) (fun _ => ?_)
    refine wp_run rfl ?_
    exact wp_ret rfl rfl ⟨rfl, rfl⟩
/-- from the number on: a slug -/
theorem ro_slug (hT : PT (mPd M) t pl) (hl : mLn M = nI pl) (hc : c < pl) : ∃ o1' it', (∀ r1 : Option Value, axW ro (axEv ro (d + 3)) cdX5_readOrder 159 [some (.ref 15), r1] [.ref 15, .ref 15] (hM ch (mS M, mHs M, mKp M, mSl M, mSv M, mBf M, mPd M, mLn M, nI (c + 1), nI 115, o1, o2, it, dn) tl) (fun r' h' => r' = some (.int (if (rdS t pl c).1 = true then 1 else 0)) ∧ h' = (hM ch (mS M, mHs M, mKp M, mSl M, mSv M, mBf M, mPd M, mLn M, nI (rdS t pl c).2.1, nI 115, o1', o2, it', dn) tl))) ∧ ((rdS t pl c).1 = true → o1' = nI (rdS t pl c).2.2.1 ∧ it' = nI (rdS t pl c).2.2.2) := by
  have hp := hT.1
  unfold rdS
  by_cases e : dgA t pl (c + 1) = true
  · rw [if_pos e]
    have hle := rdC_le e
    have hv := rdV_le e
    have hev := x5_readNumber (ro := ro) (d := d) (ch := ch) (tl := tl) (lt := nI 115) (o1 := o1) (o2 := o2) (it := it) (dn := dn) hT hl e
    have head : ∀ (Q : Option Value → axH → Prop) (r1 : Option Value), axW ro (axEv ro (d + 3)) cdX5_readOrder 189 [some (.ref 15), r1] [.int 33, .ref 15, .ref 15] (hM ch (mS M, mHs M, mKp M, mSl M, mSv M, mBf M, mPd M, mLn M, nI (rdC t pl (c + 1)), nI 115, nI (rdV t pl (c + 1)), o2, it, dn) tl) Q → axW ro (axEv ro (d + 3)) cdX5_readOrder 159 [some (.ref 15), r1] [.ref 15, .ref 15] (hM ch (mS M, mHs M, mKp M, mSl M, mSv M, mBf M, mPd M, mLn M, nI (c + 1), nI 115, o1, o2, it, dn) tl) Q := by
      intro Q r1 kk
      refine wp_v0 rfl rfl (Nat.le_of_ble_eq_true rfl) (hev) ?_
      refine wp_run rfl ?_
      refine wp_putf (h1 := (hM ch (mS M, mHs M, mKp M, mSl M, mSv M, mBf M, mPd M, mLn M, nI (rdC t pl (c + 1)), nI 115, nI (rdV t pl (c + 1)), o2, it, dn) tl)) rfl rfl (Nat.le_of_ble_eq_true rfl) ⟨rfl, rfl, fun _ hz_ => by cases hz_⟩ rfl ?_
      refine wp_run rfl ?_
      refine wp_icne rfl (fun _ => ?_) (fun hz => absurd (show nI (rdV t pl (c + 1)) < 0 by rw [show nI (rdV t pl (c + 1)) = -6 from Classical.not_not.mp hz]; decide) (nI_pos (by omega)))
      refine wp_run rfl ?_
      refine wp_icne rfl (fun hz_ => absurd hz_ (fun z => z rfl)) (fun _ => ?_)
      refine wp_run rfl ?_
      exact kk
    by_cases e2 : sgA t pl (rdC t pl (c + 1)) = 33
    · rw [if_pos e2]
      refine ⟨nI (rdV t pl (c + 1)), 1, fun r1 => ?_, fun _ => ⟨rfl, rfl⟩⟩
      refine head _ r1 ?_
      refine wp_v1 rfl rfl (Nat.le_of_ble_eq_true rfl) (x5_takes_yes (d := d) (x := 33) hT hl (show rdC t pl (c + 1) ≤ 100 by omega) (by decide) (by decide) e2) ?_
      refine wp_run rfl ?_
      refine wp_putf (h1 := (hM ch (mS M, mHs M, mKp M, mSl M, mSv M, mBf M, mPd M, mLn M, nI (rdC t pl (c + 1) + 1), nI 115, nI (rdV t pl (c + 1)), o2, 1, dn) tl)) rfl rfl (Nat.le_of_ble_eq_true rfl) ⟨rfl, rfl, fun _ hz_ => by cases hz_⟩ rfl ?_
      refine wp_run rfl ?_
      exact wp_ret rfl rfl ⟨rfl, rfl⟩
    · rw [if_neg e2]
      refine ⟨nI (rdV t pl (c + 1)), 0, fun r1 => ?_, fun _ => ⟨rfl, rfl⟩⟩
      refine head _ r1 ?_
      refine wp_v1 rfl rfl (Nat.le_of_ble_eq_true rfl) (x5_takes_no (d := d) (x := 33) hT hl (show rdC t pl (c + 1) ≤ 100 by omega) (by decide) (by decide) e2) ?_
      refine wp_run rfl ?_
      refine wp_putf (h1 := (hM ch (mS M, mHs M, mKp M, mSl M, mSv M, mBf M, mPd M, mLn M, nI (rdC t pl (c + 1)), nI 115, nI (rdV t pl (c + 1)), o2, 0, dn) tl)) rfl rfl (Nat.le_of_ble_eq_true rfl) ⟨rfl, rfl, fun _ hz_ => by cases hz_⟩ rfl ?_
      refine wp_run rfl ?_
      exact wp_ret rfl rfl ⟨rfl, rfl⟩
  · rw [if_neg e]
    refine ⟨-6, it, fun r1 => ?_, fun z => Bool.noConfusion z⟩
    refine wp_v0 rfl rfl (Nat.le_of_ble_eq_true rfl) (x5_readNumber_no (d := d) hT hl (show c + 1 ≤ 100 by omega) (by cases h : dgA t pl (c + 1); rfl; exact absurd h e)) ?_
    refine wp_run rfl ?_
    refine wp_putf (h1 := (hM ch (mS M, mHs M, mKp M, mSl M, mSv M, mBf M, mPd M, mLn M, nI (c + 1), nI 115, -6, o2, it, dn) tl)) rfl rfl (Nat.le_of_ble_eq_true rfl) ⟨rfl, rfl, fun _ hz_ => by cases hz_⟩ rfl ?_
    refine wp_run rfl ?_
    refine wp_icne rfl (fun hz_ => absurd hz_ (fun z => z rfl)) (fun _ => ?_)
    refine wp_run rfl ?_
    exact wp_ret rfl rfl ⟨rfl, rfl⟩
/-- the order's letter, and what is left to read behind it -/
theorem ro_let (hT : PT (mPd M) t pl) (hl : mLn M = nI pl) (hc : c ≤ pl) {Q : Option Value → axH → Prop} (hQ : axW ro (axEv ro (d + 3)) cdX5_readOrder 34 [some (.ref 15), none] [.int 115, .int (nI (sgA t pl c))] (hM ch (mS M, mHs M, mKp M, mSl M, mSv M, mBf M, mPd M, mLn M, nI c, nI (sgA t pl c), o1, o2, it, dn) tl) Q) : axW ro (axEv ro (d + 3)) cdX5_readOrder 0 [some (.ref 15), none] [] (hM ch (mS M, mHs M, mKp M, mSl M, mSv M, mBf M, mPd M, mLn M, nI c, lt, o1, o2, it, dn) tl) Q := by
  have hp := hT.1
  refine wp_run rfl ?_
  rw [hl]
  by_cases e : c < pl
  · have hfc : mPd M c = nI (sgA t pl c) := by unfold sgA; rw [if_pos e]; exact (hT.2 c e).1
    rw [← hl]
    refine wp_icge rfl (fun hz_ => absurd hz_ (by rw [hl]; exact nI_ge e (by omega))) (fun _ => ?_)
    refine wp_run rfl ?_
    refine wp_ald rfl rfl (vp_in_nI ((show c < 80 by omega)) (by decide)) (by rw [nI_clamp (by omega)]) ?_
    refine wp_run rfl ?_
    rw [show mPd (mS M, mHs M, mKp M, mSl M, mSv M, mBf M, mPd M, mLn M, nI c, lt, o1, o2, it, dn) c = nI (sgA t pl c) from hfc]
    refine wp_putf (h1 := (hM ch (mS M, mHs M, mKp M, mSl M, mSv M, mBf M, mPd M, mLn M, nI c, nI (sgA t pl c), o1, o2, it, dn) tl)) rfl rfl (Nat.le_of_ble_eq_true rfl) ⟨rfl, rfl, fun _ hz_ => by cases hz_⟩ rfl ?_
    refine wp_run rfl ?_
    exact hQ
  · have h0 : sgA t pl c = 0 := by unfold sgA; rw [if_neg e]
    rw [h0] at hQ
    rw [← hl]
    refine wp_icge rfl (fun _ => ?_) (fun hz_ => absurd (by rw [hl]; exact nI_le (by omega) (by omega)) hz_)
    refine wp_run rfl ?_
    refine wp_putf (h1 := (hM ch (mS M, mHs M, mKp M, mSl M, mSv M, mBf M, mPd M, mLn M, nI c, nI 0, o1, o2, it, dn) tl)) rfl rfl (Nat.le_of_ble_eq_true rfl) ⟨rfl, rfl, fun _ hz_ => by cases hz_⟩ rfl ?_
    refine wp_run rfl ?_
    exact hQ
end AX62
