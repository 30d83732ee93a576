/-! THE REFERENCE: its orders one after another; where the pad is at fault. -/
section AX63
variable {ro : axRo} {d : Nat} {ch : Nat → axC} {M : axMD} {tl : axH} {V : axV} {t : Nat → Nat} {pl c : Nat} {lt o1 o2 it dn : Int32}
theorem x5_readOrder (hT : PT (mPd M) t pl) (hl : mLn M = nI pl) (hc : c ≤ pl) (lt o1 o2 it dn : Int32) : ∃ o1' o2' it', axEv ro (d + 4) kX5_readOrder [.ref 15] (hM ch (mS M, mHs M, mKp M, mSl M, mSv M, mBf M, mPd M, mLn M, nI c, lt, o1, o2, it, dn) tl) (some (.int (if (rdO t pl c).1 = true then 1 else 0))) (hM ch (mS M, mHs M, mKp M, mSl M, mSv M, mBf M, mPd M, mLn M, nI (rdO t pl c).2.1, nI (sgA t pl c), o1', o2', it', dn) tl) ∧ ((rdO t pl c).1 = true → o1' = nI (rdO t pl c).2.2.1 ∧ (sgA t pl c = 115 → it' = nI (rdO t pl c).2.2.2) ∧ (sgA t pl c ≠ 115 → sgA t pl c ≠ 102 → o2' = nI (rdO t pl c).2.2.2)) := by
  have hp := hT.1
  have hs := sgA_lt hT c
  have ne : ∀ j : Nat, j < 2 ^ 31 → sgA t pl c ≠ j → ¬ nI (sgA t pl c) = nI j := fun j hj hkj z => hkj ((nI_eq (by omega) hj).mp z)
  have n102 : ∀ j : Nat, j < 2 ^ 31 → j ≠ 102 → ¬ nI j = 102 := fun j hj hkj z => hkj ((nI_eq (b := 102) hj (by decide)).mp z)
  by_cases e1 : sgA t pl c = 115
  · have hc2 := sgA_in (show sgA t pl c ≠ 0 by omega)
    obtain ⟨o1', it', hev, h2⟩ := ro_slug (ro := ro) (d := d) (ch := ch) (tl := tl) (o1 := o1) (o2 := o2) (it := it) (dn := dn) hT hl hc2
    rw [rdO_s e1, e1]
    refine ⟨o1', o2, it', ?_, fun z => ⟨(h2 z).1, fun _ => (h2 z).2, fun z2 => absurd rfl z2⟩⟩
    refine ev_in rfl rfl (Nat.le_of_ble_eq_true rfl) rfl ?_
    refine ro_let hT hl hc ?_
    rw [e1]
    refine wp_iceq rfl (fun _ => ?_) (fun hz_ => absurd (rfl) hz_)
    refine wp_run rfl ?_
    rw [nI_1]
    refine wp_putf (h1 := (hM ch (mS M, mHs M, mKp M, mSl M, mSv M, mBf M, mPd M, mLn M, nI (c + 1), nI 115, o1, o2, it, dn) tl)) rfl rfl (Nat.le_of_ble_eq_true rfl) ⟨rfl, rfl, fun _ hz_ => by cases hz_⟩ rfl ?_
    refine wp_run rfl ?_
    refine wp_icne rfl (fun _ => ?_) (fun hz_ => absurd (n102 115 (by decide) (by decide)) hz_)
    refine wp_run rfl ?_
    exact hev none
  by_cases e2 : sgA t pl c = 110
  · have hc2 := sgA_in (show sgA t pl c ≠ 0 by omega)
    obtain ⟨o1', o2', hev, h2⟩ := ro_pair (ro := ro) (d := d) (ch := ch) (tl := tl) (o1 := o1) (o2 := o2) (it := it) (dn := dn) hT hl hc2 (k := 110) (Or.inl rfl)
    rw [show sgO 110 = 62 from rfl] at hev h2
    rw [rdO_n e2, e2]
    refine ⟨o1', o2', it, ?_, fun z => ⟨(h2 z).1, fun z2 => absurd z2 (by decide), fun _ _ => (h2 z).2⟩⟩
    refine ev_in rfl rfl (Nat.le_of_ble_eq_true rfl) rfl ?_
    refine ro_let hT hl hc ?_
    refine wp_iceq rfl (fun hz_ => absurd hz_ (ne 115 (by decide) e1)) (fun _ => ?_)
    refine wp_run rfl ?_
    rw [e2]
    refine wp_iceq rfl (fun _ => ?_) (fun hz_ => absurd (rfl) hz_)
    refine wp_run rfl ?_
    rw [nI_1]
    refine wp_putf (h1 := (hM ch (mS M, mHs M, mKp M, mSl M, mSv M, mBf M, mPd M, mLn M, nI (c + 1), nI 110, o1, o2, it, dn) tl)) rfl rfl (Nat.le_of_ble_eq_true rfl) ⟨rfl, rfl, fun _ hz_ => by cases hz_⟩ rfl ?_
    refine wp_run rfl ?_
    refine wp_icne rfl (fun _ => ?_) (fun hz_ => absurd (n102 110 (by decide) (by decide)) hz_)
    refine wp_run rfl ?_
    exact hev none
  by_cases e3 : sgA t pl c = 109
  · have hc2 := sgA_in (show sgA t pl c ≠ 0 by omega)
    obtain ⟨o1', o2', hev, h2⟩ := ro_pair (ro := ro) (d := d) (ch := ch) (tl := tl) (o1 := o1) (o2 := o2) (it := it) (dn := dn) hT hl hc2 (k := 109) (Or.inr (Or.inl rfl))
    rw [show sgO 109 = 64 from rfl] at hev h2
    rw [rdO_m e3, e3]
    refine ⟨o1', o2', it, ?_, fun z => ⟨(h2 z).1, fun z2 => absurd z2 (by decide), fun _ _ => (h2 z).2⟩⟩
    refine ev_in rfl rfl (Nat.le_of_ble_eq_true rfl) rfl ?_
    refine ro_let hT hl hc ?_
    refine wp_iceq rfl (fun hz_ => absurd hz_ (ne 115 (by decide) e1)) (fun _ => ?_)
    refine wp_run rfl ?_
    refine wp_iceq rfl (fun hz_ => absurd hz_ (ne 110 (by decide) e2)) (fun _ => ?_)
    refine wp_run rfl ?_
    rw [e3]
    refine wp_iceq rfl (fun _ => ?_) (fun hz_ => absurd (rfl) hz_)
    refine wp_run rfl ?_
    rw [nI_1]
    refine wp_putf (h1 := (hM ch (mS M, mHs M, mKp M, mSl M, mSv M, mBf M, mPd M, mLn M, nI (c + 1), nI 109, o1, o2, it, dn) tl)) rfl rfl (Nat.le_of_ble_eq_true rfl) ⟨rfl, rfl, fun _ hz_ => by cases hz_⟩ rfl ?_
    refine wp_run rfl ?_
    refine wp_icne rfl (fun _ => ?_) (fun hz_ => absurd (n102 109 (by decide) (by decide)) hz_)
    refine wp_run rfl ?_
    exact hev none
  by_cases e4 : sgA t pl c = 120
  · have hc2 := sgA_in (show sgA t pl c ≠ 0 by omega)
    obtain ⟨o1', o2', hev, h2⟩ := ro_pair (ro := ro) (d := d) (ch := ch) (tl := tl) (o1 := o1) (o2 := o2) (it := it) (dn := dn) hT hl hc2 (k := 120) (Or.inr (Or.inr (Or.inl rfl)))
    rw [show sgO 120 = 126 from rfl] at hev h2
    rw [rdO_x e4, e4]
    refine ⟨o1', o2', it, ?_, fun z => ⟨(h2 z).1, fun z2 => absurd z2 (by decide), fun _ _ => (h2 z).2⟩⟩
    refine ev_in rfl rfl (Nat.le_of_ble_eq_true rfl) rfl ?_
    refine ro_let hT hl hc ?_
    refine wp_iceq rfl (fun hz_ => absurd hz_ (ne 115 (by decide) e1)) (fun _ => ?_)
    refine wp_run rfl ?_
    refine wp_iceq rfl (fun hz_ => absurd hz_ (ne 110 (by decide) e2)) (fun _ => ?_)
    refine wp_run rfl ?_
    refine wp_iceq rfl (fun hz_ => absurd hz_ (ne 109 (by decide) e3)) (fun _ => ?_)
    refine wp_run rfl ?_
    rw [e4]
    refine wp_iceq rfl (fun _ => ?_) (fun hz_ => absurd (rfl) hz_)
    refine wp_run rfl ?_
    rw [nI_1]
    refine wp_putf (h1 := (hM ch (mS M, mHs M, mKp M, mSl M, mSv M, mBf M, mPd M, mLn M, nI (c + 1), nI 120, o1, o2, it, dn) tl)) rfl rfl (Nat.le_of_ble_eq_true rfl) ⟨rfl, rfl, fun _ hz_ => by cases hz_⟩ rfl ?_
    refine wp_run rfl ?_
    refine wp_icne rfl (fun _ => ?_) (fun hz_ => absurd (n102 120 (by decide) (by decide)) hz_)
    refine wp_run rfl ?_
    exact hev none
  by_cases e5 : sgA t pl c = 116
  · have hc2 := sgA_in (show sgA t pl c ≠ 0 by omega)
    obtain ⟨o1', o2', hev, h2⟩ := ro_pair (ro := ro) (d := d) (ch := ch) (tl := tl) (o1 := o1) (o2 := o2) (it := it) (dn := dn) hT hl hc2 (k := 116) (Or.inr (Or.inr (Or.inr rfl)))
    rw [show sgO 116 = 45 from rfl] at hev h2
    rw [rdO_t e5, e5]
    refine ⟨o1', o2', it, ?_, fun z => ⟨(h2 z).1, fun z2 => absurd z2 (by decide), fun _ _ => (h2 z).2⟩⟩
    refine ev_in rfl rfl (Nat.le_of_ble_eq_true rfl) rfl ?_
    refine ro_let hT hl hc ?_
    refine wp_iceq rfl (fun hz_ => absurd hz_ (ne 115 (by decide) e1)) (fun _ => ?_)
    refine wp_run rfl ?_
    refine wp_iceq rfl (fun hz_ => absurd hz_ (ne 110 (by decide) e2)) (fun _ => ?_)
    refine wp_run rfl ?_
    refine wp_iceq rfl (fun hz_ => absurd hz_ (ne 109 (by decide) e3)) (fun _ => ?_)
    refine wp_run rfl ?_
    refine wp_iceq rfl (fun hz_ => absurd hz_ (ne 120 (by decide) e4)) (fun _ => ?_)
    refine wp_run rfl ?_
    rw [e5]
    refine wp_iceq rfl (fun _ => ?_) (fun hz_ => absurd (rfl) hz_)
    refine wp_run rfl ?_
    rw [nI_1]
    refine wp_putf (h1 := (hM ch (mS M, mHs M, mKp M, mSl M, mSv M, mBf M, mPd M, mLn M, nI (c + 1), nI 116, o1, o2, it, dn) tl)) rfl rfl (Nat.le_of_ble_eq_true rfl) ⟨rfl, rfl, fun _ hz_ => by cases hz_⟩ rfl ?_
    refine wp_run rfl ?_
    refine wp_icne rfl (fun _ => ?_) (fun hz_ => absurd (n102 116 (by decide) (by decide)) hz_)
    refine wp_run rfl ?_
    exact hev none
  by_cases e6 : sgA t pl c = 102
  · have hc2 := sgA_in (show sgA t pl c ≠ 0 by omega)
    have hd := isDg (ro := ro) (d := d + 1) (ch := ch) (tl := tl) (c := c + 1) (lt := nI 102) (o1 := o1) (o2 := o2) (it := it) (dn := dn) hT hl (by omega)
    rw [rdO_f e6, e6]
    unfold rdF
    by_cases e : dgA t pl (c + 1) = true
    · obtain ⟨g1, g2, g3⟩ := dgA_in e
      have hfc : mPd M (c + 1) = nI (sgA t pl (c + 1)) := by unfold sgA; rw [if_pos g1]; exact (hT.2 (c + 1) g1).1
      rw [if_pos e] at hd
      rw [if_pos e]
      refine ⟨nI (sgA t pl (c + 1) - 48), o2, it, ?_, fun z => ⟨rfl, fun z2 => absurd z2 (by decide), fun _ z2 => absurd rfl z2⟩⟩
      refine ev_in rfl rfl (Nat.le_of_ble_eq_true rfl) rfl ?_
      refine ro_let hT hl hc ?_
      refine wp_iceq rfl (fun hz_ => absurd hz_ (ne 115 (by decide) e1)) (fun _ => ?_)
      refine wp_run rfl ?_
      refine wp_iceq rfl (fun hz_ => absurd hz_ (ne 110 (by decide) e2)) (fun _ => ?_)
      refine wp_run rfl ?_
      refine wp_iceq rfl (fun hz_ => absurd hz_ (ne 109 (by decide) e3)) (fun _ => ?_)
      refine wp_run rfl ?_
      refine wp_iceq rfl (fun hz_ => absurd hz_ (ne 120 (by decide) e4)) (fun _ => ?_)
      refine wp_run rfl ?_
      refine wp_iceq rfl (fun hz_ => absurd hz_ (ne 116 (by decide) e5)) (fun _ => ?_)
      refine wp_run rfl ?_
      rw [e6]
      refine wp_iceq rfl (fun _ => ?_) (fun hz_ => absurd (rfl) hz_)
      refine wp_run rfl ?_
      rw [nI_1]
      refine wp_putf (h1 := (hM ch (mS M, mHs M, mKp M, mSl M, mSv M, mBf M, mPd M, mLn M, nI (c + 1), nI 102, o1, o2, it, dn) tl)) rfl rfl (Nat.le_of_ble_eq_true rfl) ⟨rfl, rfl, fun _ hz_ => by cases hz_⟩ rfl ?_
      refine wp_run rfl ?_
      refine wp_icne rfl (fun hz_ => absurd hz_ (fun z => z rfl)) (fun _ => ?_)
      refine wp_run rfl ?_
      refine wp_v2 rfl rfl (Nat.le_of_ble_eq_true rfl) (hd) ?_
      refine wp_run rfl ?_
      refine wp_ifeq rfl (fun hz_ => absurd hz_ ((by decide : ¬ (1 : Int32) = 0))) (fun _ => ?_)
      refine wp_run rfl ?_
      refine wp_ald rfl rfl (vp_in_nI ((show c + 1 < 80 by omega)) (by decide)) (by rw [nI_clamp (by omega)]) ?_
      refine wp_run rfl ?_
      rw [show mPd (mS M, mHs M, mKp M, mSl M, mSv M, mBf M, mPd M, mLn M, nI (c + 1), nI 102, o1, o2, it, dn) (c + 1) = nI (sgA t pl (c + 1)) from hfc, show nI (sgA t pl (c + 1)) - 48 = nI (sgA t pl (c + 1) - 48) from pk_sub (b := 48) g2]
      refine wp_putf (h1 := (hM ch (mS M, mHs M, mKp M, mSl M, mSv M, mBf M, mPd M, mLn M, nI (c + 1), nI 102, nI (sgA t pl (c + 1) - 48), o2, it, dn) tl)) rfl rfl (Nat.le_of_ble_eq_true rfl) ⟨rfl, rfl, fun _ hz_ => by cases hz_⟩ rfl ?_
      refine wp_run rfl ?_
      refine wp_ifeq rfl (fun hz_ => absurd hz_ ((by decide : ¬ (1 : Int32) = 0))) (fun _ => ?_)
      refine wp_run rfl ?_
      rw [nI_1]
      refine wp_putf (h1 := (hM ch (mS M, mHs M, mKp M, mSl M, mSv M, mBf M, mPd M, mLn M, nI (c + 1 + 1), nI 102, nI (sgA t pl (c + 1) - 48), o2, it, dn) tl)) rfl rfl (Nat.le_of_ble_eq_true rfl) ⟨rfl, rfl, fun _ hz_ => by cases hz_⟩ rfl ?_
      refine wp_run rfl ?_
      exact wp_ret rfl rfl ⟨rfl, rfl⟩
    · rw [if_neg e] at hd
      rw [if_neg e]
      refine ⟨-6, o2, it, ?_, fun z => Bool.noConfusion z⟩
      refine ev_in rfl rfl (Nat.le_of_ble_eq_true rfl) rfl ?_
      refine ro_let hT hl hc ?_
      refine wp_iceq rfl (fun hz_ => absurd hz_ (ne 115 (by decide) e1)) (fun _ => ?_)
      refine wp_run rfl ?_
      refine wp_iceq rfl (fun hz_ => absurd hz_ (ne 110 (by decide) e2)) (fun _ => ?_)
      refine wp_run rfl ?_
      refine wp_iceq rfl (fun hz_ => absurd hz_ (ne 109 (by decide) e3)) (fun _ => ?_)
      refine wp_run rfl ?_
      refine wp_iceq rfl (fun hz_ => absurd hz_ (ne 120 (by decide) e4)) (fun _ => ?_)
      refine wp_run rfl ?_
      refine wp_iceq rfl (fun hz_ => absurd hz_ (ne 116 (by decide) e5)) (fun _ => ?_)
      refine wp_run rfl ?_
      rw [e6]
      refine wp_iceq rfl (fun _ => ?_) (fun hz_ => absurd (rfl) hz_)
      refine wp_run rfl ?_
      rw [nI_1]
      refine wp_putf (h1 := (hM ch (mS M, mHs M, mKp M, mSl M, mSv M, mBf M, mPd M, mLn M, nI (c + 1), nI 102, o1, o2, it, dn) tl)) rfl rfl (Nat.le_of_ble_eq_true rfl) ⟨rfl, rfl, fun _ hz_ => by cases hz_⟩ rfl ?_
      refine wp_run rfl ?_
      refine wp_icne rfl (fun hz_ => absurd hz_ (fun z => z rfl)) (fun _ => ?_)
      refine wp_run rfl ?_
      refine wp_v2 rfl rfl (Nat.le_of_ble_eq_true rfl) (hd) ?_
      refine wp_run rfl ?_
      refine wp_ifeq rfl (fun _ => ?_) (fun hz_ => absurd (rfl) hz_)
      refine wp_run rfl ?_
      refine wp_putf (h1 := (hM ch (mS M, mHs M, mKp M, mSl M, mSv M, mBf M, mPd M, mLn M, nI (c + 1), nI 102, -6, o2, it, dn) tl)) rfl rfl (Nat.le_of_ble_eq_true rfl) ⟨rfl, rfl, fun _ hz_ => by cases hz_⟩ rfl ?_
      refine wp_run rfl ?_
      refine wp_ifeq rfl (fun _ => ?_) (fun hz_ => absurd (rfl) hz_)
      refine wp_run rfl ?_
      rw [Int32.add_zero]
      refine wp_putf (h1 := (hM ch (mS M, mHs M, mKp M, mSl M, mSv M, mBf M, mPd M, mLn M, nI (c + 1), nI 102, -6, o2, it, dn) tl)) rfl rfl (Nat.le_of_ble_eq_true rfl) ⟨rfl, rfl, fun _ hz_ => by cases hz_⟩ rfl ?_
      refine wp_run rfl ?_
      exact wp_ret rfl rfl ⟨rfl, rfl⟩
  · rw [rdO_no e1 e2 e3 e4 e5 e6]
    refine ⟨o1, o2, it, ?_, fun z => Bool.noConfusion z⟩
    refine ev_in rfl rfl (Nat.le_of_ble_eq_true rfl) rfl ?_
    refine ro_let hT hl hc ?_
    refine wp_iceq rfl (fun hz_ => absurd hz_ (ne 115 (by decide) e1)) (fun _ => ?_)
    refine wp_run rfl ?_
    refine wp_iceq rfl (fun hz_ => absurd hz_ (ne 110 (by decide) e2)) (fun _ => ?_)
    refine wp_run rfl ?_
    refine wp_iceq rfl (fun hz_ => absurd hz_ (ne 109 (by decide) e3)) (fun _ => ?_)
    refine wp_run rfl ?_
    refine wp_iceq rfl (fun hz_ => absurd hz_ (ne 120 (by decide) e4)) (fun _ => ?_)
    refine wp_run rfl ?_
    refine wp_iceq rfl (fun hz_ => absurd hz_ (ne 116 (by decide) e5)) (fun _ => ?_)
    refine wp_run rfl ?_
    refine wp_iceq rfl (fun hz_ => absurd hz_ (ne 102 (by decide) e6)) (fun _ => ?_)
    refine wp_run rfl ?_
    exact wp_ret rfl rfl ⟨rfl, rfl⟩
theorem rdE_f (h : (rdO t pl c).1 = false) : rdE t pl c = (false, (rdO t pl c).2.1, false) := by unfold rdE rdT; rw [h]; rfl
theorem rdE_l (h : (rdO t pl c).1 = true) (h2 : pl ≤ (rdO t pl c).2.1) : rdE t pl c = (true, (rdO t pl c).2.1, true) := by unfold rdE rdT; rw [h, if_pos rfl, if_pos h2]
theorem rdE_s (h : (rdO t pl c).1 = true) (h2 : ¬ pl ≤ (rdO t pl c).2.1) (h3 : sgA t pl (rdO t pl c).2.1 = 59) : rdE t pl c = (true, (rdO t pl c).2.1 + 1, false) := by unfold rdE rdT; rw [h, if_pos rfl, if_neg h2, if_pos h3]
theorem rdE_n (h : (rdO t pl c).1 = true) (h2 : ¬ pl ≤ (rdO t pl c).2.1) (h3 : sgA t pl (rdO t pl c).2.1 ≠ 59) : rdE t pl c = (false, (rdO t pl c).2.1, false) := by unfold rdE rdT; rw [h, if_pos rfl, if_neg h2, if_neg h3]
theorem pad_run0 (hT : PT (mPd M) t pl) (hl : mLn M = nI pl) : ∀ m c o1 o2 it dn, c ≤ pl → pl < c + m → ∃ pc' lt' o1' o2' it' dn', (∀ z, aFa t pl m c = some z → pc' = nI z) ∧
    axW ro (axEv ro (d + 4)) cdX5_readPad 16 [some (.ref 15), some (.int 0), some (.int (if (rdO t pl c).1 = true then 1 else 0))] [.int (if (rdO t pl c).1 = true then 1 else 0)] (hM ch (mS M, mHs M, mKp M, mSl M, mSv M, mBf M, mPd M, mLn M, nI (rdO t pl c).2.1, nI (sgA t pl c), o1, o2, it, dn) tl) (fun r' h' => r' = some (.int (if (aFa t pl m c).isNone = true then 1 else 0)) ∧ h' = (hM ch (mS M, mHs M, mKp M, mSl M, mSv M, mBf M, mPd M, mLn M, pc', lt', o1', o2', it', dn') tl)) := by
  have hp := hT.1
  intro m
  induction m with
  | zero => intro c o1 o2 it dn h1 h2; omega
  | succ m ih =>
    intro c o1 o2 it dn h1 h2
    obtain ⟨g1, g2, -⟩ := rdO_le (t := t) h1
    rw [aFa]
    cases hb : (rdO t pl c).1 with
    | false =>
      rw [rdE_f hb, if_neg (fun z => Bool.noConfusion z)]
      refine ⟨nI (rdO t pl c).2.1, nI (sgA t pl c), o1, o2, it, dn, fun z hz => by cases hz; rfl, ?_⟩
      refine wp_ifeq rfl (fun _ => ?_) (fun hz_ => absurd (rfl) hz_)
      refine wp_run rfl ?_
      exact wp_ret rfl rfl ⟨rfl, rfl⟩
    | true =>
      obtain ⟨g3, g4⟩ := g2 hb
      by_cases e : pl ≤ (rdO t pl c).2.1
      · have e : (rdO t pl c).2.1 = pl := by omega
        rw [rdE_l hb (by omega), if_pos rfl, if_pos rfl]
        refine ⟨nI (rdO t pl c).2.1, nI (sgA t pl c), o1, o2, it, dn + 1, (fun z hz => by cases hz), ?_⟩
        refine wp_ifeq rfl (fun hz_ => absurd hz_ ((by decide : ¬ (1 : Int32) = 0))) (fun _ => ?_)
        refine wp_run rfl ?_
        refine wp_ifeq rfl (fun _ => ?_) (fun hz_ => absurd (rfl) hz_)
        refine wp_run rfl ?_
        refine wp_putf (h1 := (hM ch (mS M, mHs M, mKp M, mSl M, mSv M, mBf M, mPd M, mLn M, nI (rdO t pl c).2.1, nI (sgA t pl c), o1, o2, it, dn + 1) tl)) rfl rfl (Nat.le_of_ble_eq_true rfl) ⟨rfl, rfl, fun _ hz_ => by cases hz_⟩ rfl ?_
        refine wp_run rfl ?_
        refine wp_icne rfl (fun hz_ => absurd (by rw [e]; exact hl.symm) hz_) (fun _ => ?_)
        refine wp_run rfl ?_
        exact wp_ret rfl rfl ⟨rfl, rfl⟩
      · have hne : ¬ nI (rdO t pl c).2.1 = mLn M := fun z => by rw [hl] at z; have := (nI_eq (by omega) (by omega)).mp z; omega
        by_cases e2 : sgA t pl (rdO t pl c).2.1 = 59
        · have hE := rdE_s hb e e2
          rw [hE, if_pos rfl, if_neg (fun z => Bool.noConfusion z)]
          obtain ⟨o1a, o2a, ita, hev, -⟩ := x5_readOrder (ro := ro) (d := d) (ch := ch) (tl := tl) hT hl (show (rdO t pl c).2.1 + 1 ≤ pl by omega) (nI (sgA t pl c)) o1 o2 it (dn + 1)
          obtain ⟨pc', lt', o1', o2', it', dn', k1, k2⟩ := ih ((rdO t pl c).2.1 + 1) o1a o2a ita (dn + 1) (by omega) (by omega)
          refine ⟨pc', lt', o1', o2', it', dn', k1, ?_⟩
          refine wp_ifeq rfl (fun hz_ => absurd hz_ ((by decide : ¬ (1 : Int32) = 0))) (fun _ => ?_)
          refine wp_run rfl ?_
          refine wp_ifeq rfl (fun _ => ?_) (fun hz_ => absurd (rfl) hz_)
          refine wp_run rfl ?_
          refine wp_putf (h1 := (hM ch (mS M, mHs M, mKp M, mSl M, mSv M, mBf M, mPd M, mLn M, nI (rdO t pl c).2.1, nI (sgA t pl c), o1, o2, it, dn + 1) tl)) rfl rfl (Nat.le_of_ble_eq_true rfl) ⟨rfl, rfl, fun _ hz_ => by cases hz_⟩ rfl ?_
          refine wp_run rfl ?_
          refine wp_icne rfl (fun _ => ?_) (fun hz_ => absurd (hne) hz_)
          refine wp_run rfl ?_
          refine wp_v1 rfl rfl (Nat.le_of_ble_eq_true rfl) (x5_takes_yes (d := d + 1) (x := 59) hT hl (by omega) (by decide) (by decide) e2) ?_
          refine wp_run rfl ?_
          refine wp_ifeq rfl (fun hz_ => absurd hz_ ((by decide : ¬ (1 : Int32) = 0))) (fun _ => ?_)
          refine wp_run rfl ?_
          refine wp_v0 rfl rfl (Nat.le_of_ble_eq_true rfl) (hev) ?_
          refine wp_run rfl ?_
          cases hb2 : (rdO t pl ((rdO t pl c).2.1 + 1)).1 with
          | false =>
            rw [hb2] at k2
            refine wp_ifeq rfl (fun _ => ?_) (fun hz_ => absurd (rfl) hz_)
            refine wp_run rfl ?_
            exact k2
          | true =>
            rw [hb2] at k2
            refine wp_ifeq rfl (fun hz_ => absurd hz_ ((by decide : ¬ (1 : Int32) = 0))) (fun _ => ?_)
            refine wp_run rfl ?_
            exact k2
        · rw [rdE_n hb e e2, if_neg (fun z => Bool.noConfusion z)]
          refine ⟨nI (rdO t pl c).2.1, nI (sgA t pl c), o1, o2, it, dn + 1, fun z hz => by cases hz; rfl, ?_⟩
          refine wp_ifeq rfl (fun hz_ => absurd hz_ ((by decide : ¬ (1 : Int32) = 0))) (fun _ => ?_)
          refine wp_run rfl ?_
          refine wp_ifeq rfl (fun _ => ?_) (fun hz_ => absurd (rfl) hz_)
          refine wp_run rfl ?_
          refine wp_putf (h1 := (hM ch (mS M, mHs M, mKp M, mSl M, mSv M, mBf M, mPd M, mLn M, nI (rdO t pl c).2.1, nI (sgA t pl c), o1, o2, it, dn + 1) tl)) rfl rfl (Nat.le_of_ble_eq_true rfl) ⟨rfl, rfl, fun _ hz_ => by cases hz_⟩ rfl ?_
          refine wp_run rfl ?_
          refine wp_icne rfl (fun _ => ?_) (fun hz_ => absurd (hne) hz_)
          refine wp_run rfl ?_
          refine wp_v1 rfl rfl (Nat.le_of_ble_eq_true rfl) (x5_takes_no (d := d + 1) (x := 59) hT hl (by omega) (by decide) (by decide) e2) ?_
          refine wp_run rfl ?_
          refine wp_ifeq rfl (fun _ => ?_) (fun hz_ => absurd (rfl) hz_)
          refine wp_run rfl ?_
          refine wp_ifeq rfl (fun _ => ?_) (fun hz_ => absurd (rfl) hz_)
          refine wp_run rfl ?_
          exact wp_ret rfl rfl ⟨rfl, rfl⟩
theorem x5_readPad0 (hT : PT (mPd M) t pl) (hl : mLn M = nI pl) : ∃ pc' lt' o1' o2' it' dn', (∀ z, aFa t pl 81 0 = some z → pc' = nI z) ∧
    axEv ro (d + 5) kX5_readPad [.ref 15, .int 0] (hM ch M tl) (some (.int (if (aFa t pl 81 0).isNone = true then 1 else 0))) (hM ch (mS M, mHs M, mKp M, mSl M, mSv M, mBf M, mPd M, mLn M, pc', lt', o1', o2', it', dn') tl) := by
  have hp := hT.1
  obtain ⟨o1a, o2a, ita, hev, -⟩ := x5_readOrder (ro := ro) (d := d) (ch := ch) (tl := tl) hT hl (Nat.zero_le pl) (mLt M) (mOn M) (mOt M) (mIt M) 0
  obtain ⟨pc', lt', o1', o2', it', dn', k1, k2⟩ := pad_run0 (ro := ro) (d := d) (ch := ch) (tl := tl) hT hl 81 0 o1a o2a ita 0 (Nat.zero_le _) (by omega)
  refine ⟨pc', lt', o1', o2', it', dn', k1, ?_⟩
  refine ev_in rfl rfl (Nat.le_of_ble_eq_true rfl) rfl ?_
  refine wp_run rfl ?_
  refine wp_putf (h1 := (hM ch (mS M, mHs M, mKp M, mSl M, mSv M, mBf M, mPd M, mLn M, nI 0, mLt M, mOn M, mOt M, mIt M, mDn M) tl)) rfl rfl (Nat.le_of_ble_eq_true rfl) ⟨rfl, rfl, fun _ hz_ => by cases hz_⟩ rfl ?_
  refine wp_run rfl ?_
  refine wp_putf (h1 := (hM ch (mS M, mHs M, mKp M, mSl M, mSv M, mBf M, mPd M, mLn M, nI 0, mLt M, mOn M, mOt M, mIt M, 0) tl)) rfl rfl (Nat.le_of_ble_eq_true rfl) ⟨rfl, rfl, fun _ hz_ => by cases hz_⟩ rfl ?_
  refine wp_run rfl ?_
  refine wp_v0 rfl rfl (Nat.le_of_ble_eq_true rfl) (hev) ?_
  refine wp_run rfl ?_
  exact k2
theorem x5_fault (hV : MSt V M) : ∃ M', axEv ro (d + 6) kX5_fault [.ref 15] (hM ch M tl) (some (.int (faR (aFa (vT V) (vP V) 81 0)))) (hM ch M' tl) ∧ MSt V M' := by
  obtain ⟨hR, hO, hk, hk6, hH, hSl, hl, hP⟩ := id hV
  obtain ⟨pc', lt', o1', o2', it', dn', k1, k2⟩ := x5_readPad0 (ro := ro) (d := d) (ch := ch) (tl := tl) hP hl
  refine ⟨(mS M, mHs M, mKp M, mSl M, mSv M, mBf M, mPd M, mLn M, pc', lt', o1', o2', it', dn'), ?_, hR, hO, hk, hk6, hH, hSl, hl, hP⟩
  cases h : aFa (vT V) (vP V) 81 0 with
  | none =>
    rw [h] at k2
    refine ev_in rfl rfl (Nat.le_of_ble_eq_true rfl) rfl ?_
    refine wp_run rfl ?_
    refine wp_v1 rfl rfl (Nat.le_of_ble_eq_true rfl) (k2) ?_
    refine wp_run rfl ?_
    refine wp_ifeq rfl (fun hz_ => absurd hz_ ((by decide : ¬ (1 : Int32) = 0))) (fun _ => ?_)
    refine wp_run rfl ?_
    exact wp_ret rfl rfl ⟨rfl, rfl⟩
  | some z =>
    rw [h] at k2
    have hz := k1 z h
    refine ev_in rfl rfl (Nat.le_of_ble_eq_true rfl) rfl ?_
    refine wp_run rfl ?_
    refine wp_v1 rfl rfl (Nat.le_of_ble_eq_true rfl) (k2) ?_
    refine wp_run rfl ?_
    refine wp_ifeq rfl (fun _ => ?_) (fun hz_ => absurd (rfl) hz_)
    refine wp_run rfl ?_
    exact wp_ret rfl rfl ⟨by show some (Value.int pc') = some (Value.int (nI z)); rw [hz], rfl⟩
end AX63
