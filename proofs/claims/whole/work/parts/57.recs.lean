/-! THE REFERENCE: its whole state; what is recorded, and put back; its public changes. -/
def HK (hi : Nat → Int32) (k : Nat) (H : Nat → axAD) : Prop := ∀ j, j < k → MR (fun q => hi (154 * (k - 1 - j) + q)) (H j) ∧ aOk (H j)
def SLk (sl sv : Nat → Int32) (S : Nat → Option axAD) : Prop := ∀ i, i < 2 → (S i = none → sv i = 0) ∧ ∀ A, S i = some A → sv i = 1 ∧ MR (fun q => sl (154 * i + q)) A ∧ aOk A
/-- the reference holds the whole state V -/
def MSt (V : axV) (M : axMD) : Prop := MR (mS M) (vA V) ∧ aOk (vA V) ∧ mKp M = nI (vK V) ∧ vK V ≤ 6 ∧ HK (mHs M) (vK V) (vH V) ∧ SLk (mSl M) (mSv M) (vS V) ∧ mLn M = nI (vP V) ∧ PT (mPd M) (vT V) (vP V)
def shH (f : Nat → Int32) (q : Nat) : Nat → Int32 := fun i => if i < q then f (154 + i) else f i
theorem shH_0 (f : Nat → Int32) : shH f 0 = f := by funext i; exact if_neg (by omega)
theorem shH_s (f : Nat → Int32) (q : Nat) : upd (shH f q) q (f (154 + q)) = shH f (q + 1) := by
  funext i
  unfold shH
  by_cases e : i = q
  · rw [e, pk_us, if_pos (by omega)]
  · rw [pk_un e]
    by_cases e2 : i < q
    · rw [if_pos e2, if_pos (by omega)]
    · rw [if_neg e2, if_neg (by omega)]
theorem HK_sh {hi : Nat → Int32} {H : Nat → axAD} (h : HK hi 6 H) : HK (shH hi 770) 5 H := fun j hj => by
  obtain ⟨h1, h2⟩ := h j (by omega)
  refine ⟨mr_cong h2.w h1 (fun q hq => ?_), h2⟩
  show shH hi 770 (154 * (5 - 1 - j) + q) = hi (154 * (6 - 1 - j) + q)
  unfold shH
  rw [if_pos (by omega), show 154 + (154 * (5 - 1 - j) + q) = 154 * (6 - 1 - j) + q by omega]
theorem HK_add {hi f : Nat → Int32} {k : Nat} {H : Nat → axAD} {A : axAD} (hR : MR f A) (hO : aOk A) (h : HK hi k H) : HK (va_cpy f hi 0 (154 * k) 154) (k + 1) (fun j => if j = 0 then A else H (j - 1)) := fun j hj => by
  by_cases e : j = 0
  · subst e
    show MR (fun q => va_cpy f hi 0 (154 * k) 154 (154 * (k + 1 - 1 - 0) + q)) A ∧ aOk A
    refine ⟨mr_cong hO.w hR (fun q hq => ?_), hO⟩
    show va_cpy f hi 0 (154 * k) 154 (154 * (k + 1 - 1 - 0) + q) = f q
    rw [pk_cpy_in (by omega) (by omega)]
    congr 1; omega
  · show MR (fun q => va_cpy f hi 0 (154 * k) 154 (154 * (k + 1 - 1 - j) + q)) (if j = 0 then A else H (j - 1)) ∧ aOk (if j = 0 then A else H (j - 1))
    rw [if_neg e]
    obtain ⟨h1, h2⟩ := h (j - 1) (by omega)
    refine ⟨mr_cong h2.w h1 (fun q hq => ?_), h2⟩
    show va_cpy f hi 0 (154 * k) 154 (154 * (k + 1 - 1 - j) + q) = hi (154 * (k - 1 - (j - 1)) + q)
    rw [pk_cpy_out (by omega), show k + 1 - 1 - j = k - 1 - (j - 1) by omega]
section AX57
variable {ro : axRo} {d : Nat} {h : axH} {c : Nat → axC} {M : axMD} {tl : axH} {A A' : axAD} {V : axV} {x y w r : Int32}
theorem rec_rest {rr k : Nat} {f hi : Nat → Int32} {v2 : Option Value} (hk : k < 6) (hrr : ∀ hi' kp', (hM c (mS M, hi', kp', M.2.2.2) tl)[rr]? = some (axAi 154 f)) (hne : rr ≠ 17) : axW ro (axEv ro (d + 1)) cdX5_record 64 [some (.ref 15), some (.ref rr), v2] [.int ((154 : Int32) * nI k), .ref 17, .int 0, .ref rr] (hM c (mS M, hi, nI k, M.2.2.2) tl) (fun r' h' => r' = none ∧ h' = hM c (mS M, va_cpy f hi 0 (154 * k) 154, nI (k + 1), M.2.2.2) tl) := by
  have hcp : axEv ro (d + 1) kX5_copy [.ref rr, .int 0, .ref 17, .int (nI (154 * k))] (hM c (mS M, hi, nI k, M.2.2.2) tl) none (hM c (mS M, va_cpy f hi 0 (154 * k) 154, nI k, M.2.2.2) tl) := x5_copy (a := rr) (b := 17) (fo := 0) (n := 154) (m := 924) (g := hi) (hrr hi (nI k)) rfl hne (by decide) (by omega) (by decide) (by decide)
  rw [show (154 : Int32) * nI k = nI (154 * k) from nI_mul 154 k]
  refine wp_s4v rfl (Nat.le_of_ble_eq_true rfl) (hcp) ?_
  refine wp_run rfl ?_
  rw [nI_1]
  refine wp_putf (h1 := (hM c (mS M, va_cpy f hi 0 (154 * k) 154, nI (k + 1), M.2.2.2) tl)) rfl rfl (Nat.le_of_ble_eq_true rfl) ⟨rfl, rfl, fun _ hz_ => by cases hz_⟩ rfl ?_
  refine wp_run rfl ?_
  exact wp_retv rfl ⟨rfl, rfl⟩
theorem x5_record {rr k : Nat} {f : Nat → Int32} {H : Nat → axAD} (hrr : ∀ hi' kp', (hM c (mS M, hi', kp', M.2.2.2) tl)[rr]? = some (axAi 154 f)) (hne : rr ≠ 17) (hkp : mKp M = nI k) (hk : k ≤ 6) (hH : HK (mHs M) k H) (hR : MR f A) (hO : aOk A) :
    ∃ hi', axEv ro (d + 2) kX5_record [.ref 15, .ref rr] (hM c M tl) none (hM c (mS M, hi', nI (min (k + 1) 6), M.2.2.2) tl) ∧ HK hi' (min (k + 1) 6) (fun j => if j = 0 then A else H (j - 1)) := by
  by_cases e : k = 6
  · subst e
    refine ⟨va_cpy f (shH (mHs M) 770) 0 (154 * 5) 154, ?_, HK_add hR hO (HK_sh hH)⟩
    have loop : ∀ m q, q + m = 770 → axW ro (axEv ro (d + 1)) cdX5_record 15 [some (.ref 15), some (.ref rr), some (.int (nI q))] [.int 770, .int (nI q)] (hM c (mS M, shH (mHs M) q, mKp M, M.2.2.2) tl) (fun r' h' => r' = none ∧ h' = hM c (mS M, va_cpy f (shH (mHs M) 770) 0 (154 * 5) 154, nI 6, M.2.2.2) tl) := by
      intro m
      induction m with
      | zero =>
        intro q e
        have e : q = 770 := by omega
        subst e
        refine wp_icge rfl (fun _ => ?_) (fun hz_ => absurd (nI_le (b := 770) (Nat.le_refl 770) (by decide)) hz_)
        refine wp_run rfl ?_
        rw [hkp, show nI 6 - 1 = nI 5 from rfl]
        refine wp_putf (h1 := (hM c (mS M, shH (mHs M) 770, nI 5, M.2.2.2) tl)) rfl rfl (Nat.le_of_ble_eq_true rfl) ⟨rfl, rfl, fun _ hz_ => by cases hz_⟩ rfl ?_
        refine wp_run rfl ?_
        exact rec_rest (hi := shH (mHs M) 770) (by decide) hrr hne
      | succ m ih =>
        intro q e
        refine wp_icge rfl (fun hz_ => absurd hz_ (nI_ge (b := 770) (by omega) (by decide))) (fun _ => ?_)
        refine wp_run rfl ?_
        rw [show (154 : Int32) + nI q = nI (154 + q) from nI_add 154 q]
        refine wp_ald rfl rfl (vp_in_nI ((show 154 + q < 924 by omega)) (by decide)) (by rw [nI_clamp (by omega)]) ?_
        refine wp_run rfl ?_
        rw [show mHs (mS M, shH (mHs M) q, mKp M, M.2.2.2) (154 + q) = mHs M (154 + q) from if_neg (by omega)]
        refine wp_ast (h1 := hM c (mS M, shH (mHs M) (q + 1), mKp M, M.2.2.2) tl) rfl rfl (vp_in_nI (show q < 924 by omega) (by decide)) rfl (by rw [nI_clamp (by omega), ← shH_s]; rfl) ?_
        refine wp_run rfl ?_
        rw [nI_1]
        exact ih (q + 1) (by omega)
    have := loop 770 0 (by decide)
    rw [shH_0] at this
    refine ev_in rfl rfl (Nat.le_of_ble_eq_true rfl) rfl ?_
    refine wp_run rfl ?_
    refine wp_icne rfl (fun hz_ => absurd hz_ (fun z => z hkp)) (fun _ => ?_)
    refine wp_run rfl ?_
    exact this
  · refine ⟨va_cpy f (mHs M) 0 (154 * k) 154, ?_, by rw [show min (k + 1) 6 = k + 1 by omega]; exact HK_add hR hO hH⟩
    rw [show min (k + 1) 6 = k + 1 by omega]
    have := rec_rest (ro := ro) (d := d) (c := c) (M := M) (tl := tl) (rr := rr) (f := f) (hi := mHs M) (v2 := none) (show k < 6 by omega) hrr hne
    rw [← hkp] at this
    refine ev_in rfl rfl (Nat.le_of_ble_eq_true rfl) rfl ?_
    refine wp_run rfl ?_
    refine wp_icne rfl (fun _ => ?_) (fun hz_ => absurd (fun z => e ((nI_eq (b := 6) (by omega) (by decide)).mp (by rw [← hkp]; exact z))) hz_)
    refine wp_run rfl ?_
    exact this
theorem x5_begins : axEv ro (d + 2) kX5_begins [.ref 15] (hM c M tl) none (hM c (mS M, mHs M, mKp M, mSl M, mSv M, va_cpy (mS M) (mBf M) 0 0 154, M.2.2.2.2.2.2) tl) := by
  have hcp : axEv ro (d + 1) kX5_copy [.ref 16, .int 0, .ref 20, .int 0] (hM c M tl) none (hM c (mS M, mHs M, mKp M, mSl M, mSv M, va_cpy (mS M) (mBf M) 0 0 154, M.2.2.2.2.2.2) tl) := x5_copy (a := 16) (b := 20) (fo := 0) (t := 0) (n := 154) (m := 154) (f := mS M) (g := mBf M) rfl rfl (by decide) (by decide) (by decide) (by decide) (by decide)
  refine ev_in rfl rfl (Nat.le_of_ble_eq_true rfl) rfl ?_
  refine wp_run rfl ?_
  refine wp_s4v rfl (Nat.le_of_ble_eq_true rfl) (hcp) ?_
  refine wp_run rfl ?_
  exact wp_retv rfl ⟨rfl, rfl⟩
theorem x5_back : axEv ro (d + 1) kX5_copy [.ref 20, .int 0, .ref 16, .int 0] (hM c M tl) none (hM c (va_cpy (mBf M) (mS M) 0 0 154, M.2) tl) := x5_copy (a := 20) (b := 16) (fo := 0) (t := 0) (n := 154) (m := 154) (f := mBf M) (g := mS M) rfl rfl (by decide) (by decide) (by decide) (by decide) (by decide)
theorem cp2 {s g bf : Nat → Int32} (hO : aOw A) (hR : MR s A) : MR (va_cpy (va_cpy s bf 0 0 154) g 0 0 154) A := mr_cong hO hR (fun q hq => by rw [pk_cpy_in (by omega) (by omega), pk_cpy_in (by omega) (by omega)]; congr 1; omega)
theorem cp1 {s bf : Nat → Int32} (hO : aOw A) (hR : MR s A) : MR (va_cpy s bf 0 0 154) A := mr_cong hO hR (fun q hq => by rw [pk_cpy_in (by omega) (by omega)]; congr 1; omega)
theorem x5_ends (hV : MSt V M) {s' : Nat → Int32} (hs : ¬ r < 0 → MR s' A') (hO' : aOk A') : ∃ M', axEv ro (d + 3) kX5_ends [.ref 15, .int r] (hM c (s', ((mS M, mHs M, mKp M, mSl M, mSv M, va_cpy (mS M) (mBf M) 0 0 154, M.2.2.2.2.2.2) : axMD).2) tl) (some (.int r)) (hM c M' tl) ∧ MSt (stp V r A') M' := by
  obtain ⟨hR, hO, hk, hk6, hH, hS, hl, hP⟩ := hV
  by_cases e : r < 0
  · unfold stp
    rw [if_pos e]
    refine ⟨(va_cpy (va_cpy (mS M) (mBf M) 0 0 154) s' 0 0 154, ((mS M, mHs M, mKp M, mSl M, mSv M, va_cpy (mS M) (mBf M) 0 0 154, M.2.2.2.2.2.2) : axMD).2), ?_, cp2 hO.w hR, hO, hk, hk6, hH, hS, hl, hP⟩
    refine ev_in rfl rfl (Nat.le_of_ble_eq_true rfl) rfl ?_
    refine wp_run rfl ?_
    refine wp_ifge rfl (fun hz_ => absurd hz_ (Int32.not_le.mpr e)) (fun _ => ?_)
    refine wp_run rfl ?_
    refine wp_s4v rfl (Nat.le_of_ble_eq_true rfl) (x5_back (d := d + 1) (M := (s', ((mS M, mHs M, mKp M, mSl M, mSv M, va_cpy (mS M) (mBf M) 0 0 154, M.2.2.2.2.2.2) : axMD).2))) ?_
    refine wp_run rfl ?_
    exact wp_ret rfl rfl ⟨rfl, rfl⟩
  · unfold stp
    rw [if_neg e]
    obtain ⟨hi', hev, hH2⟩ := x5_record (ro := ro) (d := d) (c := c) (tl := tl) (M := (s', ((mS M, mHs M, mKp M, mSl M, mSv M, va_cpy (mS M) (mBf M) 0 0 154, M.2.2.2.2.2.2) : axMD).2)) (rr := 20) (f := va_cpy (mS M) (mBf M) 0 0 154) (k := vK V) (H := vH V) (A := vA V) (fun _ _ => rfl) (by decide) hk hk6 hH (cp1 hO.w hR) hO
    refine ⟨(s', hi', nI (min (vK V + 1) 6), mSl M, mSv M, va_cpy (mS M) (mBf M) 0 0 154, M.2.2.2.2.2.2), ?_, hs e, hO', rfl, Nat.min_le_right _ _, hH2, hS, hl, hP⟩
    refine ev_in rfl rfl (Nat.le_of_ble_eq_true rfl) rfl ?_
    refine wp_run rfl ?_
    refine wp_ifge rfl (fun _ => ?_) (fun hz_ => absurd (Int32.not_lt.mp e) hz_)
    refine wp_run rfl ?_
    refine wp_v1v rfl rfl (Nat.le_of_ble_eq_true rfl) (hev) ?_
    refine wp_run rfl ?_
    exact wp_ret rfl rfl ⟨rfl, rfl⟩
theorem x5_slug (hV : MSt V M) (hS : spAdd (vA V) x y w r A') : ∃ M', axEv ro (d + 5) kX5_slug [.ref 15, .int x, .int y, .int w] (hM c M tl) (some (.int r)) (hM c M' tl) ∧ MSt (stp V r A') M' := by
  obtain ⟨s', hev, hs⟩ := x5_doSlug (ro := ro) (d := d + 1) (c := c) (tl := tl) (M := (mS M, mHs M, mKp M, mSl M, mSv M, va_cpy (mS M) (mBf M) 0 0 154, M.2.2.2.2.2.2)) hV.2.1.w hV.1 hS
  obtain ⟨M', hev2, hV2⟩ := x5_ends (ro := ro) (d := d + 1) (c := c) (tl := tl) hV hs (spAdd_ok hV.2.1 hS)
  refine ⟨M', ?_, hV2⟩
  refine ev_in rfl rfl (Nat.le_of_ble_eq_true rfl) rfl ?_
  refine wp_run rfl ?_
  refine wp_v0v rfl rfl (Nat.le_of_ble_eq_true rfl) (x5_begins (d := d + 2)) ?_
  refine wp_run rfl ?_
  refine wp_v3 rfl rfl (Nat.le_of_ble_eq_true rfl) (hev) ?_
  refine wp_run rfl ?_
  refine wp_v1 rfl rfl (Nat.le_of_ble_eq_true rfl) (hev2) ?_
  refine wp_run rfl ?_
  exact wp_ret rfl rfl ⟨rfl, rfl⟩
theorem x5_need (hV : MSt V M) (hS : spNeed (vA V) x y r A') : ∃ M', axEv ro (d + 5) kX5_need [.ref 15, .int x, .int y] (hM c M tl) (some (.int r)) (hM c M' tl) ∧ MSt (stp V r A') M' := by
  obtain ⟨s', hev, hs⟩ := x5_doNeed (ro := ro) (d := d + 1) (c := c) (tl := tl) (M := (mS M, mHs M, mKp M, mSl M, mSv M, va_cpy (mS M) (mBf M) 0 0 154, M.2.2.2.2.2.2)) hV.2.1.w hV.1 hS
  obtain ⟨M', hev2, hV2⟩ := x5_ends (ro := ro) (d := d + 1) (c := c) (tl := tl) hV hs (spNeed_ok hV.2.1 hS)
  refine ⟨M', ?_, hV2⟩
  refine ev_in rfl rfl (Nat.le_of_ble_eq_true rfl) rfl ?_
  refine wp_run rfl ?_
  refine wp_v0v rfl rfl (Nat.le_of_ble_eq_true rfl) (x5_begins (d := d + 2)) ?_
  refine wp_run rfl ?_
  refine wp_v2 rfl rfl (Nat.le_of_ble_eq_true rfl) (hev) ?_
  refine wp_run rfl ?_
  refine wp_v1 rfl rfl (Nat.le_of_ble_eq_true rfl) (hev2) ?_
  refine wp_run rfl ?_
  exact wp_ret rfl rfl ⟨rfl, rfl⟩
theorem x5_trim (hV : MSt V M) (hS : spTrim (vA V) x y r A') : ∃ M', axEv ro (d + 5) kX5_trim [.ref 15, .int x, .int y] (hM c M tl) (some (.int r)) (hM c M' tl) ∧ MSt (stp V r A') M' := by
  obtain ⟨s', hev, hs⟩ := x5_doTrim (ro := ro) (d := d) (c := c) (tl := tl) (M := (mS M, mHs M, mKp M, mSl M, mSv M, va_cpy (mS M) (mBf M) 0 0 154, M.2.2.2.2.2.2)) hV.2.1.w hV.1 hS
  obtain ⟨M', hev2, hV2⟩ := x5_ends (ro := ro) (d := d + 1) (c := c) (tl := tl) hV hs (spTrim_ok hV.2.1 hS)
  refine ⟨M', ?_, hV2⟩
  refine ev_in rfl rfl (Nat.le_of_ble_eq_true rfl) rfl ?_
  refine wp_run rfl ?_
  refine wp_v0v rfl rfl (Nat.le_of_ble_eq_true rfl) (x5_begins (d := d + 2)) ?_
  refine wp_run rfl ?_
  refine wp_v2 rfl rfl (Nat.le_of_ble_eq_true rfl) (hev) ?_
  refine wp_run rfl ?_
  refine wp_v1 rfl rfl (Nat.le_of_ble_eq_true rfl) (hev2) ?_
  refine wp_run rfl ?_
  exact wp_ret rfl rfl ⟨rfl, rfl⟩
theorem x5_move (hV : MSt V M) (hS : spMove (vA V) x y r A') : ∃ M', axEv ro (d + 5) kX5_move [.ref 15, .int x, .int y] (hM c M tl) (some (.int r)) (hM c M' tl) ∧ MSt (stp V r A') M' := by
  obtain ⟨s', hev, hs⟩ := x5_doMove (ro := ro) (d := d + 1) (c := c) (tl := tl) (M := (mS M, mHs M, mKp M, mSl M, mSv M, va_cpy (mS M) (mBf M) 0 0 154, M.2.2.2.2.2.2)) hV.2.1 hV.1 hS
  obtain ⟨M', hev2, hV2⟩ := x5_ends (ro := ro) (d := d + 1) (c := c) (tl := tl) hV hs (spMove_ok hV.2.1 hS)
  refine ⟨M', ?_, hV2⟩
  refine ev_in rfl rfl (Nat.le_of_ble_eq_true rfl) rfl ?_
  refine wp_run rfl ?_
  refine wp_v0v rfl rfl (Nat.le_of_ble_eq_true rfl) (x5_begins (d := d + 2)) ?_
  refine wp_run rfl ?_
  refine wp_v2 rfl rfl (Nat.le_of_ble_eq_true rfl) (hev) ?_
  refine wp_run rfl ?_
  refine wp_v1 rfl rfl (Nat.le_of_ble_eq_true rfl) (hev2) ?_
  refine wp_run rfl ?_
  exact wp_ret rfl rfl ⟨rfl, rfl⟩
theorem x5_swap (hV : MSt V M) (hS : spSwap (vA V) x y r A') : ∃ M', axEv ro (d + 5) kX5_swap [.ref 15, .int x, .int y] (hM c M tl) (some (.int r)) (hM c M' tl) ∧ MSt (stp V r A') M' := by
  obtain ⟨s', hev, hs⟩ := x5_doSwap (ro := ro) (d := d + 1) (c := c) (tl := tl) (M := (mS M, mHs M, mKp M, mSl M, mSv M, va_cpy (mS M) (mBf M) 0 0 154, M.2.2.2.2.2.2)) hV.2.1 hV.1 hS
  obtain ⟨M', hev2, hV2⟩ := x5_ends (ro := ro) (d := d + 1) (c := c) (tl := tl) hV hs (spSwap_ok hV.2.1 hS)
  refine ⟨M', ?_, hV2⟩
  refine ev_in rfl rfl (Nat.le_of_ble_eq_true rfl) rfl ?_
  refine wp_run rfl ?_
  refine wp_v0v rfl rfl (Nat.le_of_ble_eq_true rfl) (x5_begins (d := d + 2)) ?_
  refine wp_run rfl ?_
  refine wp_v2 rfl rfl (Nat.le_of_ble_eq_true rfl) (hev) ?_
  refine wp_run rfl ?_
  refine wp_v1 rfl rfl (Nat.le_of_ble_eq_true rfl) (hev2) ?_
  refine wp_run rfl ?_
  exact wp_ret rfl rfl ⟨rfl, rfl⟩
theorem spSplit_ok (hO : aOk A) (hS : spSplit A x y r A') : aOk A' := by
  rcases hS with ⟨-, -, rfl⟩ | ⟨i, ⟨hi, -⟩, ⟨-, -, rfl⟩ | ⟨v, h1, h2, -, ⟨-, -, rfl⟩ | ⟨-, -, -, rfl⟩ | ⟨h3, hlt, z, hz, -, rfl⟩⟩⟩
  · exact hO
  · exact hO
  · exact hO
  · exact hO
  · obtain ⟨hz24, hfr, -⟩ := aFr_w hO.w hlt hz
    exact aOk_split hO hlt hi hz24 hfr h1 h3
theorem x5_split (hV : MSt V M) (hS : spSplit (vA V) x y r A') : ∃ M', axEv ro (d + 6) kX5_split [.ref 15, .int x, .int y] (hM c M tl) (some (.int r)) (hM c M' tl) ∧ MSt (stp V r A') M' := by
  obtain ⟨s', hev, hs⟩ := x5_doSplit (ro := ro) (d := d + 1) (c := c) (tl := tl) (M := (mS M, mHs M, mKp M, mSl M, mSv M, va_cpy (mS M) (mBf M) 0 0 154, M.2.2.2.2.2.2)) hV.2.1 hV.1 hS
  obtain ⟨M', hev2, hV2⟩ := x5_ends (ro := ro) (d := d + 2) (c := c) (tl := tl) hV hs (spSplit_ok hV.2.1 hS)
  refine ⟨M', ?_, hV2⟩
  refine ev_in rfl rfl (Nat.le_of_ble_eq_true rfl) rfl ?_
  refine wp_run rfl ?_
  refine wp_v0v rfl rfl (Nat.le_of_ble_eq_true rfl) (x5_begins (d := d + 3)) ?_
  refine wp_run rfl ?_
  refine wp_v2 rfl rfl (Nat.le_of_ble_eq_true rfl) (hev) ?_
  refine wp_run rfl ?_
  refine wp_v1 rfl rfl (Nat.le_of_ble_eq_true rfl) (hev2) ?_
  refine wp_run rfl ?_
  exact wp_ret rfl rfl ⟨rfl, rfl⟩
theorem x5_fit (hV : MSt V M) (hS : spFit (vA V) x r A') : ∃ M', axEv ro (d + 7) kX5_fit [.ref 15, .int x] (hM c M tl) (some (.int r)) (hM c M' tl) ∧ MSt (stp V r A') M' := by
  obtain ⟨s', hev, hs⟩ := x5_doFit (ro := ro) (d := d) (c := c) (tl := tl) (M := (mS M, mHs M, mKp M, mSl M, mSv M, va_cpy (mS M) (mBf M) 0 0 154, M.2.2.2.2.2.2)) hV.2.1 hV.1 hS
  obtain ⟨M', hev2, hV2⟩ := x5_ends (ro := ro) (d := d + 3) (c := c) (tl := tl) hV hs (spFit_ok hV.2.1 hS)
  refine ⟨M', ?_, hV2⟩
  refine ev_in rfl rfl (Nat.le_of_ble_eq_true rfl) rfl ?_
  refine wp_run rfl ?_
  refine wp_v0v rfl rfl (Nat.le_of_ble_eq_true rfl) (x5_begins (d := d + 4)) ?_
  refine wp_run rfl ?_
  refine wp_v1 rfl rfl (Nat.le_of_ble_eq_true rfl) (hev) ?_
  refine wp_run rfl ?_
  refine wp_v1 rfl rfl (Nat.le_of_ble_eq_true rfl) (hev2) ?_
  refine wp_run rfl ?_
  exact wp_ret rfl rfl ⟨rfl, rfl⟩
end AX57
