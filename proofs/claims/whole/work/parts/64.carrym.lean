/-! THE REFERENCE: the pad's orders are carried out. -/
section AX64
variable {ro : axRo} {d : Nat} {ch : Nat → axC} {M : axMD} {tl : axH} {V V' : axV} {A A' : axAD} {t : Nat → Nat} {pl c : Nat} {r lt o1 o2 it dn : Int32}
theorem x5_does (hO : aOk A) (hR : MR (mS M) A) {k v w : Nat} (hS : spOrd A k v w r A') (hlt : mLt M = nI k) (h1 : mOn M = nI v) (h2 : k = 115 → mIt M = nI w ∧ w ≤ 1) (h3 : k ≠ 115 → k ≠ 102 → mOt M = nI w) : ∃ s', axEv ro (d + 7) kX5_does [.ref 15] (hM ch M tl) (some (.int r)) (hM ch (s', M.2) tl) ∧ (¬ r < 0 → MR s' A') := by
  rcases hS with ⟨rfl, hS⟩ | ⟨rfl, hS⟩ | ⟨rfl, hS⟩ | ⟨rfl, hS⟩ | ⟨rfl, hS⟩ | ⟨rfl, hS⟩
  · obtain ⟨hit, hw⟩ := h2 rfl
    obtain ⟨s', hev, hs⟩ := x5_doSlug (ro := ro) (d := d + 3) (c := ch) (tl := tl) hO.w hR hS
    refine ⟨s', ?_, hs⟩
    refine ev_in rfl rfl (Nat.le_of_ble_eq_true rfl) rfl ?_
    refine wp_run rfl ?_
    rw [hlt]
    refine wp_sw rfl ?_
    refine wp_run rfl ?_
    refine wp_ald rfl rfl (vp_in_nI (n := 0) (by decide) (by decide)) (mr_sz hR) ?_
    refine wp_run rfl ?_
    rw [h1, hit]
    rcases (show w = 0 ∨ w = 1 by omega) with rfl | rfl
    · refine wp_ifeq rfl (fun _ => ?_) (fun hz_ => absurd (rfl) hz_)
      refine wp_run rfl ?_
      refine wp_v3 rfl rfl (Nat.le_of_ble_eq_true rfl) (hev) ?_
      refine wp_run rfl ?_
      exact wp_ret rfl rfl ⟨rfl, rfl⟩
    · refine wp_ifeq rfl (fun hz_ => absurd hz_ ((by decide : ¬ nI 1 = 0))) (fun _ => ?_)
      refine wp_run rfl ?_
      refine wp_v3 rfl rfl (Nat.le_of_ble_eq_true rfl) (hev) ?_
      refine wp_run rfl ?_
      exact wp_ret rfl rfl ⟨rfl, rfl⟩
  · have h3 := h3 (by decide) (by decide)
    obtain ⟨s', hev, hs⟩ := x5_doNeed (ro := ro) (d := d + 3) (c := ch) (tl := tl) hO.w hR hS
    refine ⟨s', ?_, hs⟩
    refine ev_in rfl rfl (Nat.le_of_ble_eq_true rfl) rfl ?_
    refine wp_run rfl ?_
    rw [hlt]
    refine wp_sw rfl ?_
    refine wp_run rfl ?_
    rw [h1, h3]
    refine wp_v2 rfl rfl (Nat.le_of_ble_eq_true rfl) (hev) ?_
    refine wp_run rfl ?_
    exact wp_ret rfl rfl ⟨rfl, rfl⟩
  · have h3 := h3 (by decide) (by decide)
    obtain ⟨s', hev, hs⟩ := x5_doMove (ro := ro) (d := d + 3) (c := ch) (tl := tl) hO hR hS
    refine ⟨s', ?_, hs⟩
    refine ev_in rfl rfl (Nat.le_of_ble_eq_true rfl) rfl ?_
    refine wp_run rfl ?_
    rw [hlt]
    refine wp_sw rfl ?_
    refine wp_run rfl ?_
    rw [h1, h3]
    refine wp_v2 rfl rfl (Nat.le_of_ble_eq_true rfl) (hev) ?_
    refine wp_run rfl ?_
    exact wp_ret rfl rfl ⟨rfl, rfl⟩
  · have h3 := h3 (by decide) (by decide)
    obtain ⟨s', hev, hs⟩ := x5_doSwap (ro := ro) (d := d + 3) (c := ch) (tl := tl) hO hR hS
    refine ⟨s', ?_, hs⟩
    refine ev_in rfl rfl (Nat.le_of_ble_eq_true rfl) rfl ?_
    refine wp_run rfl ?_
    rw [hlt]
    refine wp_sw rfl ?_
    refine wp_run rfl ?_
    rw [h1, h3]
    refine wp_v2 rfl rfl (Nat.le_of_ble_eq_true rfl) (hev) ?_
    refine wp_run rfl ?_
    exact wp_ret rfl rfl ⟨rfl, rfl⟩
  · have h3 := h3 (by decide) (by decide)
    obtain ⟨s', hev, hs⟩ := x5_doTrim (ro := ro) (d := d + 2) (c := ch) (tl := tl) hO.w hR hS
    refine ⟨s', ?_, hs⟩
    refine ev_in rfl rfl (Nat.le_of_ble_eq_true rfl) rfl ?_
    refine wp_run rfl ?_
    rw [hlt]
    refine wp_sw rfl ?_
    refine wp_run rfl ?_
    rw [h1, h3]
    refine wp_v2 rfl rfl (Nat.le_of_ble_eq_true rfl) (hev) ?_
    refine wp_run rfl ?_
    exact wp_ret rfl rfl ⟨rfl, rfl⟩
  · obtain ⟨s', hev, hs⟩ := x5_doFit (ro := ro) (d := d) (c := ch) (tl := tl) hO hR hS
    refine ⟨s', ?_, hs⟩
    refine ev_in rfl rfl (Nat.le_of_ble_eq_true rfl) rfl ?_
    refine wp_run rfl ?_
    rw [hlt]
    refine wp_sw rfl ?_
    refine wp_run rfl ?_
    rw [h1]
    refine wp_v1 rfl rfl (Nat.le_of_ble_eq_true rfl) (hev) ?_
    refine wp_run rfl ?_
    exact wp_ret rfl rfl ⟨rfl, rfl⟩
/-- what readOrder leaves in the fields -/
def rdFld (t : Nat → Nat) (pl c : Nat) (o1 o2 it : Int32) : Prop := o1 = nI (rdO t pl c).2.2.1 ∧ (sgA t pl c = 115 → it = nI (rdO t pl c).2.2.2) ∧ (sgA t pl c ≠ 115 → sgA t pl c ≠ 102 → o2 = nI (rdO t pl c).2.2.2)
theorem aFa_ok {m : Nat} (hc : c ≤ pl) (h : pl < c + m) (hf : aFa t pl m c = none) : (rdO t pl c).1 = true := by
  match m, h, hf with
  | 0, h, _ => omega
  | m + 1, _, hf => exact (rdE_le hc).2.1 (aFa_none hf).1
theorem run_cp {s bf : Nat → Int32} {p D : Int32} : axEv ro (d + 7) kX5_copy [.ref 16, .int 0, .ref 20, .int 0] (hM ch (s, mHs M, mKp M, mSl M, mSv M, bf, mPd M, mLn M, p, lt, o1, o2, it, D) tl) none (hM ch (s, mHs M, mKp M, mSl M, mSv M, va_cpy s bf 0 0 154, mPd M, mLn M, p, lt, o1, o2, it, D) tl) := x5_copy (a := 16) (b := 20) (fo := 0) (t := 0) (n := 154) (m := 154) (f := s) (g := bf) rfl rfl (by decide) (by decide) (by decide) (by decide) (by decide)
theorem run_neg {s bf s1 : Nat → Int32} {p : Int32} {D : Int32} (hev : axEv ro (d + 7) kX5_does [.ref 15] (hM ch (s, mHs M, mKp M, mSl M, mSv M, va_cpy s bf 0 0 154, mPd M, mLn M, p, lt, o1, o2, it, D) tl) (some (.int r)) (hM ch (s1, mHs M, mKp M, mSl M, mSv M, va_cpy s bf 0 0 154, mPd M, mLn M, p, lt, o1, o2, it, D) tl)) (hr : r < 0) :
    axW ro (axEv ro (d + 7)) cdX5_readPad 16 [some (.ref 15), some (.int 1), some (.int 1)] [.int 1] (hM ch (s, mHs M, mKp M, mSl M, mSv M, bf, mPd M, mLn M, p, lt, o1, o2, it, D) tl) (fun r' h' => r' = some (.int 1) ∧ h' = hM ch (va_cpy (va_cpy s bf 0 0 154) s1 0 0 154, mHs M, mKp M, mSl M, mSv M, va_cpy s bf 0 0 154, mPd M, mLn M, p, lt, o1, o2, it, D) tl) := by
  refine wp_ifeq rfl (fun hz_ => absurd hz_ ((by decide : ¬ (1 : Int32) = 0))) (fun _ => ?_)
  refine wp_run rfl ?_
  refine wp_ifeq rfl (fun hz_ => absurd hz_ ((by decide : ¬ (1 : Int32) = 0))) (fun _ => ?_)
  refine wp_run rfl ?_
  refine wp_s4v rfl (Nat.le_of_ble_eq_true rfl) (run_cp) ?_
  refine wp_run rfl ?_
  refine wp_v0 rfl rfl (Nat.le_of_ble_eq_true rfl) (hev) ?_
  refine wp_run rfl ?_
  refine wp_ifge rfl (fun hz_ => absurd hz_ (Int32.not_le.mpr hr)) (fun _ => ?_)
  refine wp_run rfl ?_
  refine wp_s4v rfl (Nat.le_of_ble_eq_true rfl) (x5_back (d := d + 6) (M := (s1, mHs M, mKp M, mSl M, mSv M, va_cpy s bf 0 0 154, mPd M, mLn M, p, lt, o1, o2, it, D))) ?_
  refine wp_run rfl ?_
  exact wp_ret rfl rfl ⟨rfl, rfl⟩
theorem run_put {p D D' : Int32} {a b e : Nat → Int32} {Q : Option Value → axH → Prop}
    (kk : axW ro (axEv ro (d + 7)) cdX5_readPad 76 [some (.ref 15), some (.int 1), some (.int 1)] [.int (mLn M), .int p] (hM ch (a, mHs M, mKp M, mSl M, mSv M, b, mPd M, mLn M, p, lt, o1, o2, it, D') tl) Q) :
    axW ro (axEv ro (d + 7)) cdX5_readPad 65 [some (.ref 15), some (.int 1), some (.int 1)] [.int D', .ref 15] (hM ch (a, mHs M, mKp M, mSl M, mSv M, b, mPd M, mLn M, p, lt, o1, o2, it, D) tl) Q := by
  refine wp_putf (h1 := (hM ch (a, mHs M, mKp M, mSl M, mSv M, b, mPd M, mLn M, p, lt, o1, o2, it, D') tl)) rfl rfl (Nat.le_of_ble_eq_true rfl) ⟨rfl, rfl, fun _ hz_ => by cases hz_⟩ rfl ?_
  refine wp_run rfl ?_
  exact kk
theorem run_pos {s bf s1 : Nat → Int32} {p D : Int32} {Q : Option Value → axH → Prop} (hev : axEv ro (d + 7) kX5_does [.ref 15] (hM ch (s, mHs M, mKp M, mSl M, mSv M, va_cpy s bf 0 0 154, mPd M, mLn M, p, lt, o1, o2, it, D) tl) (some (.int r)) (hM ch (s1, mHs M, mKp M, mSl M, mSv M, va_cpy s bf 0 0 154, mPd M, mLn M, p, lt, o1, o2, it, D) tl)) (hr : ¬ r < 0)
    (kk : axW ro (axEv ro (d + 7)) cdX5_readPad 76 [some (.ref 15), some (.int 1), some (.int 1)] [.int (mLn M), .int p] (hM ch (s1, mHs M, mKp M, mSl M, mSv M, va_cpy s bf 0 0 154, mPd M, mLn M, p, lt, o1, o2, it, D + 1) tl) Q) :
    axW ro (axEv ro (d + 7)) cdX5_readPad 16 [some (.ref 15), some (.int 1), some (.int 1)] [.int 1] (hM ch (s, mHs M, mKp M, mSl M, mSv M, bf, mPd M, mLn M, p, lt, o1, o2, it, D) tl) Q := by
  refine wp_ifeq rfl (fun hz_ => absurd hz_ ((by decide : ¬ (1 : Int32) = 0))) (fun _ => ?_)
  refine wp_run rfl ?_
  refine wp_ifeq rfl (fun hz_ => absurd hz_ ((by decide : ¬ (1 : Int32) = 0))) (fun _ => ?_)
  refine wp_run rfl ?_
  refine wp_s4v rfl (Nat.le_of_ble_eq_true rfl) (run_cp) ?_
  refine wp_run rfl ?_
  refine wp_v0 rfl rfl (Nat.le_of_ble_eq_true rfl) (hev) ?_
  refine wp_run rfl ?_
  refine wp_ifge rfl (fun _ => ?_) (fun hz_ => absurd (Int32.not_lt.mp hr) hz_)
  refine wp_run rfl ?_
  exact run_put (e := s) kk
theorem run_end {p : Int32} {h : axH} {k1 k2 : Int32} {M' : axMD} (he : p = k2) : axW ro (axEv ro (d + 7)) cdX5_readPad 76 [some (.ref 15), some (.int 1), some (.int k1)] [.int k2, .int p] (hM ch M' tl) (fun r' h' => r' = some (.int 1) ∧ h' = hM ch M' tl) := by
  refine wp_icne rfl (fun hz_ => absurd hz_ (fun z => z he)) (fun _ => ?_)
  refine wp_run rfl ?_
  exact wp_ret rfl rfl ⟨rfl, rfl⟩
theorem run_next {p k2 : Int32} {M' M2 M3 : axMD} {Q : Option Value → axH → Prop} (hne : ¬ p = k2) (ht : axEv ro (d + 7) kX5_takes [.ref 15, .int (nI 59)] (hM ch M' tl) (some (.int 1)) (hM ch M2 tl)) (hev : axEv ro (d + 7) kX5_readOrder [.ref 15] (hM ch M2 tl) (some (.int 1)) (hM ch M3 tl))
    (kk : axW ro (axEv ro (d + 7)) cdX5_readPad 16 [some (.ref 15), some (.int 1), some (.int 1)] [.int 1] (hM ch M3 tl) Q) :
    axW ro (axEv ro (d + 7)) cdX5_readPad 76 [some (.ref 15), some (.int 1), some (.int 1)] [.int k2, .int p] (hM ch M' tl) Q := by
  refine wp_icne rfl (fun _ => ?_) (fun hz_ => absurd (hne) hz_)
  refine wp_run rfl ?_
  refine wp_v1 rfl rfl (Nat.le_of_ble_eq_true rfl) (ht) ?_
  refine wp_run rfl ?_
  refine wp_ifeq rfl (fun hz_ => absurd hz_ ((by decide : ¬ (1 : Int32) = 0))) (fun _ => ?_)
  refine wp_run rfl ?_
  refine wp_v0 rfl rfl (Nat.le_of_ble_eq_true rfl) (hev) ?_
  refine wp_run rfl ?_
  refine wp_ifeq rfl (fun hz_ => absurd hz_ ((by decide : ¬ (1 : Int32) = 0))) (fun _ => ?_)
  refine wp_run rfl ?_
  exact kk
theorem pad_run1 (hT : PT (mPd M) t pl) (hl : mLn M = nI pl) : ∀ m c (A : axAD) (n : Nat) (s bf : Nat → Int32) (o1 o2 it : Int32) (k : Nat), MR s A → aOk A → aFa t pl m c = none → spRun t pl m c A n A' → c ≤ pl → pl < c + m → rdFld t pl c o1 o2 it → ∃ s' bf' pc' lt' o1' o2' it', MR s' A' ∧ aOk A' ∧
    axW ro (axEv ro (d + 7)) cdX5_readPad 16 [some (.ref 15), some (.int 1), some (.int 1)] [.int 1] (hM ch (s, mHs M, mKp M, mSl M, mSv M, bf, mPd M, mLn M, nI (rdO t pl c).2.1, nI (sgA t pl c), o1, o2, it, nI k) tl) (fun r' h' => r' = some (.int 1) ∧ h' = (hM ch (s', mHs M, mKp M, mSl M, mSv M, bf', mPd M, mLn M, pc', lt', o1', o2', it', nI (k + n)) tl)) := by
  have hp := hT.1
  intro m
  induction m with
  | zero => intro c A n s bf o1 o2 it k _ _ _ _ h1 h2; omega
  | succ m ih =>
    intro c A n s bf o1 o2 it k hR hO hfa hrun h1 h2 hfld
    obtain ⟨r, A1, hord, hcase⟩ := hrun
    obtain ⟨g1, g2, -⟩ := rdO_le (t := t) h1
    have hb := aFa_ok h1 h2 hfa
    obtain ⟨g3, g4⟩ := g2 hb
    have hw1 : sgA t pl c = 115 → it = nI (rdO t pl c).2.2.2 ∧ (rdO t pl c).2.2.2 ≤ 1 := fun z => ⟨hfld.2.1 z, by rw [rdO_s z]; exact (rdS_le g4).2.2.2⟩
    obtain ⟨s1, hev, hs1⟩ := x5_does (ro := ro) (d := d) (ch := ch) (tl := tl) (M := (s, mHs M, mKp M, mSl M, mSv M, va_cpy s bf 0 0 154, mPd M, mLn M, nI (rdO t pl c).2.1, nI (sgA t pl c), o1, o2, it, nI k)) hO hR hord rfl hfld.1 hw1 hfld.2.2
    obtain ⟨q1, q2⟩ := aFa_none hfa
    have hE1 := rdE_l (t := t) (pl := pl) (c := c) hb
    have hE2 := rdE_s (t := t) (pl := pl) (c := c) hb
    have hE3 := rdE_n (t := t) (pl := pl) (c := c) hb
    generalize (rdO t pl c).2.1 = c' at *
    generalize sgA t pl c = lt at *
    rcases hcase with ⟨hr, rfl, rfl⟩ | ⟨hr, hcase⟩
    · exact ⟨_, _, _, _, _, _, _, cp2 hO.w hR, hO, run_neg hev hr⟩
    · have hR1 := hs1 hr
      have hO1 := spOrd_ok hO hord
      by_cases e : pl ≤ c'
      · have e0 : c' = pl := by omega
        rw [hE1 e] at hcase
        rcases hcase with ⟨-, rfl, rfl⟩ | ⟨z, -⟩
        · exact ⟨_, _, _, _, _, _, _, hR1, hO1, run_pos hev hr (by rw [nI_1]; exact run_end (h := []) (by rw [e0]; exact hl.symm))⟩
        · cases z
      · have hne : ¬ nI c' = mLn M := fun z => by rw [hl] at z; have := (nI_eq (by omega) (by omega)).mp z; omega
        by_cases e2 : sgA t pl c' = 59
        · rw [hE2 e e2] at hcase q2
          have q3 : aFa t pl m (c' + 1) = none := by
            rcases q2 with z | z
            · cases z
            · exact z.2
          rcases hcase with ⟨z, -⟩ | ⟨-, n', rfl, hrun⟩
          · cases z
          · have hb2 := aFa_ok (show c' + 1 ≤ pl by omega) (by omega) q3
            obtain ⟨o1a, o2a, ita, hev2, hf2⟩ := x5_readOrder (ro := ro) (d := d + 3) (ch := ch) (tl := tl) (M := (s1, mHs M, mKp M, mSl M, mSv M, va_cpy s bf 0 0 154, mPd M, mLn M, nI c', nI lt, o1, o2, it, nI (k + 1))) hT hl (show c' + 1 ≤ pl by omega) (nI lt) o1 o2 it (nI (k + 1))
            obtain ⟨s', bf', pc', lt', o1', o2', it', k1, k2, k3⟩ := ih (c' + 1) A1 n' s1 (va_cpy s bf 0 0 154) o1a o2a ita (k + 1) hR1 hO1 q3 hrun (by omega) (by omega) (hf2 hb2)
            rw [hb2, if_pos rfl] at hev2
            rw [show k + 1 + n' = k + (n' + 1) by omega] at k3
            have ht := x5_takes_yes (ro := ro) (ch := ch) (tl := tl) (M := (s1, mHs M, mKp M, mSl M, mSv M, va_cpy s bf 0 0 154, mPd M, mLn M, nI c', nI lt, o1, o2, it, nI (k + 1))) (lt := nI lt) (o1 := o1) (o2 := o2) (it := it) (dn := nI (k + 1)) (d := d + 4) (x := 59) hT hl (show c' ≤ 100 by omega) (by decide) (by decide) e2
            exact ⟨s', bf', pc', lt', o1', o2', it', k1, k2, run_pos hev hr (by rw [nI_1]; exact run_next hne ht hev2 k3)⟩
        · rw [hE3 e e2] at q1
          cases q1
theorem x5_carryOut (hV : MSt V M) (hS : spCarry V r V') : ∃ M', axEv ro (d + 9) kX5_carryOut [.ref 15] (hM ch M tl) (some (.int r)) (hM ch M' tl) ∧ MSt V' M' := by
  obtain ⟨hR, hO, hk, hk6, hH, hSl, hl, hP⟩ := id hV
  have hp := hP.1
  obtain ⟨pc', lt', o1', o2', it', dn', k1, k2⟩ := x5_readPad0 (ro := ro) (d := d + 3) (ch := ch) (tl := tl) hP hl
  have hV1 : MSt V (mS M, mHs M, mKp M, mSl M, mSv M, mBf M, mPd M, mLn M, pc', lt', o1', o2', it', dn') := ⟨hR, hO, hk, hk6, hH, hSl, hl, hP⟩
  rcases hS with ⟨⟨z, hz⟩, rfl, rfl⟩ | ⟨hfa, n, A', hrun, rfl, rfl⟩
  · refine ⟨_, ?_, hV1⟩
    rw [hz] at k2
    refine ev_in rfl rfl (Nat.le_of_ble_eq_true rfl) rfl ?_
    refine wp_run rfl ?_
    refine wp_v1 rfl rfl (Nat.le_of_ble_eq_true rfl) (k2) ?_
    refine wp_run rfl ?_
    refine wp_ifne rfl (fun hz_ => absurd hz_ (fun z => z rfl)) (fun _ => ?_)
    refine wp_run rfl ?_
    exact wp_ret rfl rfl ⟨rfl, rfl⟩
  · rw [hfa] at k2
    obtain ⟨hi', hev, hms⟩ := x5_rec_s (ro := ro) (d := d + 6) (c := ch) (tl := tl) hV1
    have hb := aFa_ok (Nat.zero_le (vP V)) (by omega) hfa
    obtain ⟨o1a, o2a, ita, hev2, hf2⟩ := x5_readOrder (ro := ro) (d := d + 3) (ch := ch) (tl := tl) (M := (mS M, hi', nI (min (vK V + 1) 6), mSl M, mSv M, mBf M, mPd M, mLn M, pc', lt', o1', o2', it', dn')) hP hl (Nat.zero_le _) lt' o1' o2' it' 0
    obtain ⟨s', bf', pc2, lt2, o12, o22, it2, g1, g2, g3⟩ := pad_run1 (ro := ro) (d := d) (ch := ch) (tl := tl) (M := (mS M, hi', nI (min (vK V + 1) 6), mSl M, mSv M, mBf M, mPd M, mLn M, pc', lt', o1', o2', it', dn')) hP hl 81 0 (vA V) n (mS M) (mBf M) o1a o2a ita 0 hR hO hfa hrun (Nat.zero_le _) (by omega) (hf2 hb)
    rw [hb, if_pos rfl] at hev2
    have hm := hms s' A' g1 g2
    have hrp : axEv ro (d + 8) kX5_readPad [.ref 15, .int 1] (hM ch (mS M, hi', nI (min (vK V + 1) 6), mSl M, mSv M, mBf M, mPd M, mLn M, pc', lt', o1', o2', it', dn') tl) (some (.int 1)) (hM ch (s', hi', nI (min (vK V + 1) 6), mSl M, mSv M, bf', mPd M, mLn M, pc2, lt2, o12, o22, it2, nI (0 + n)) tl) := by
      refine ev_in rfl rfl (Nat.le_of_ble_eq_true rfl) rfl ?_
      refine wp_run rfl ?_
      refine wp_putf (h1 := (hM ch (mS M, hi', nI (min (vK V + 1) 6), mSl M, mSv M, mBf M, mPd M, mLn M, nI 0, lt', o1', o2', it', dn') tl)) rfl rfl (Nat.le_of_ble_eq_true rfl) ⟨rfl, rfl, fun _ hz_ => by cases hz_⟩ rfl ?_
      refine wp_run rfl ?_
      refine wp_putf (h1 := (hM ch (mS M, hi', nI (min (vK V + 1) 6), mSl M, mSv M, mBf M, mPd M, mLn M, nI 0, lt', o1', o2', it', 0) tl)) rfl rfl (Nat.le_of_ble_eq_true rfl) ⟨rfl, rfl, fun _ hz_ => by cases hz_⟩ rfl ?_
      refine wp_run rfl ?_
      refine wp_v0 rfl rfl (Nat.le_of_ble_eq_true rfl) (hev2) ?_
      refine wp_run rfl ?_
      exact g3
    refine ⟨(s', hi', nI (min (vK V + 1) 6), mSl M, mSv M, bf', mPd M, nI 0, pc2, lt2, o12, o22, it2, nI (0 + n)), ?_, g1, g2, rfl, hm.2.2.2.1, hm.2.2.2.2.1, hSl, rfl, ⟨by show 0 ≤ 80; omega, fun i hi => absurd hi (Nat.not_lt_zero i)⟩⟩
    refine ev_in rfl rfl (Nat.le_of_ble_eq_true rfl) rfl ?_
    refine wp_run rfl ?_
    refine wp_v1 rfl rfl (Nat.le_of_ble_eq_true rfl) (k2) ?_
    refine wp_run rfl ?_
    refine wp_ifne rfl (fun _ => ?_) (fun hz_ => absurd ((by decide : ¬ (1 : Int32) = 0)) hz_)
    refine wp_run rfl ?_
    refine wp_v1v rfl rfl (Nat.le_of_ble_eq_true rfl) (hev) ?_
    refine wp_run rfl ?_
    refine wp_v1 rfl rfl (Nat.le_of_ble_eq_true rfl) (hrp) ?_
    refine wp_run rfl ?_
    refine wp_putf (h1 := (hM ch (s', hi', nI (min (vK V + 1) 6), mSl M, mSv M, bf', mPd M, nI 0, pc2, lt2, o12, o22, it2, nI (0 + n)) tl)) rfl rfl (Nat.le_of_ble_eq_true rfl) ⟨rfl, rfl, fun _ hz_ => by cases hz_⟩ rfl ?_
    refine wp_run rfl ?_
    refine wp_ifeq rfl (fun hz_ => absurd hz_ ((by decide : ¬ (1 : Int32) = 0))) (fun _ => ?_)
    refine wp_run rfl ?_
    exact wp_ret rfl rfl ⟨by show some (Value.int (nI (0 + n))) = some (Value.int (nI n)); rw [Nat.zero_add], rfl⟩
end AX64
