/-! THE REFERENCE: the swap that helps the most. -/
/-- the pairs of places one by one -/
def tBS (A : axAD) : Nat → axBS
  | 0 => (0, 0, aAll A)
  | k + 1 => if k / 24 < k % 24 ∧ k % 24 < aN A then aBst A (k / 24) (k % 24) (tBS A k) else tBS A k
theorem tBS_in {A : axAD} (hn : aN A ≤ 24) {p : Nat} (hp : p < aN A) (h : tBS A (24 * p) = aBS A p) : ∀ m, m ≤ 24 → tBS A (24 * p + m) = aBr A p (min m (aN A)) (aBS A p)
  | 0, _ => by rw [Nat.zero_min]; exact h
  | m + 1, hm => by
    have ih := tBS_in hn hp h m (by omega)
    rw [show 24 * p + (m + 1) = 24 * p + m + 1 by omega, tBS, show (24 * p + m) / 24 = p by omega, show (24 * p + m) % 24 = m by omega, ih]
    by_cases e : m < aN A
    · rw [show min (m + 1) (aN A) = m + 1 by omega, show min m (aN A) = m by omega, aBr]
      by_cases e2 : p < m
      · rw [if_pos ⟨e2, e⟩, if_pos e2]
      · rw [if_neg (fun z => e2 z.1), if_neg e2]
    · rw [if_neg (fun z => e z.2), show min (m + 1) (aN A) = aN A by omega, show min m (aN A) = aN A by omega]
theorem tBS_row {A : axAD} (hn : aN A ≤ 24) : ∀ p, p ≤ aN A → tBS A (24 * p) = aBS A p
  | 0, _ => rfl
  | p + 1, hp => by
    have h := tBS_in hn (show p < aN A by omega) (tBS_row hn p (by omega)) 24 (Nat.le_refl _)
    rw [show 24 * (p + 1) = 24 * p + 24 by omega, h, show min 24 (aN A) = aN A by omega]
    rfl
theorem tBS_end {A : axAD} (hn : aN A ≤ 24) : ∀ m, tBS A (24 * aN A + m) = aBS A (aN A)
  | 0 => tBS_row hn _ (Nat.le_refl _)
  | m + 1 => by
    rw [show 24 * aN A + (m + 1) = 24 * aN A + m + 1 by omega, tBS, if_neg (by omega)]
    exact tBS_end hn m
theorem tBS_all {A : axAD} (hn : aN A ≤ 24) : tBS A 576 = aBS A (aN A) := by
  have := tBS_end hn (576 - 24 * aN A)
  rw [show 24 * aN A + (576 - 24 * aN A) = 576 by omega] at this
  exact this
theorem aBst_ok {A : axAD} {p q : Nat} {s : axBS} (hpq : p < q) (hq : q < aN A) (hs : bsOk A s) : bsOk A (aBst A p q s) := by
  unfold aBst
  split
  · exact Or.inr ⟨hpq, hq⟩
  · exact hs
theorem tBS_ok {A : axAD} : ∀ k, bsOk A (tBS A k)
  | 0 => Or.inl ⟨rfl, rfl⟩
  | k + 1 => by
    rw [tBS]
    split
    · rename_i h; exact aBst_ok h.1 h.2 (tBS_ok k)
    · exact tBS_ok k
theorem tBS_le {A : axAD} (hO : aOk A) : ∀ k, (tBS A k).2.2 ≤ 70000
  | 0 => aAll_lt hO
  | k + 1 => by
    rw [tBS]
    split
    · exact aBst_le (tBS_le hO k)
    · exact tBS_le hO k
/-- the reference's word for the best pair -/
def bsI (s : axBS) : Int32 := if s.1 < s.2.1 then nI (24 * s.1 + s.2.1) else -6
section AX60
variable {ro : axRo} {d : Nat} {h : axH} {c : Nat → axC} {M : axMD} {tl : axH} {A A' : axAD} {V V' : axV} {x y w r : Int32}
/-- one pair tried, from the call of doSwap on; what was there is put back -/
theorem best_one (hO : aOk A) {s bf : Nat → Int32} {MB : axMD} (hs : MR s A) (hB : MR (mBf MB) A) {p q : Nat} (hp : p < aN A) (hq : q < aN A) (hpq : p < q) {X K : Int32} {t : axBS} (ht : t.2.2 ≤ 70000) (hK : K = nI (24 * p + q)) {v7 v8 : Option Value} : ∃ (s' : Nat → Int32) (v7' v8' : Int32), MR s' A ∧ ∀ Q : Option Value → axH → Prop,
    axW ro (axEv ro (d + 6)) cdX5_bestSwap 41 [some (.ref 15), some (.int X), some (.int (nI (aBst A p q t).2.2)), some (.int (bsI (aBst A p q t))), some (.int (K + 1)), some (.int (nI p)), some (.int (nI q)), some (.int v7'), some (.int v8')] [.int 576, .int (K + 1)] (hM c (s', MB.2) tl) Q →
    axW ro (axEv ro (d + 6)) cdX5_bestSwap 97 [some (.ref 15), some (.int X), some (.int (nI t.2.2)), some (.int (bsI t)), some (.int K), some (.int (nI p)), some (.int (nI q)), v7, v8] [.int (nI (aR A q)), .int (nI (aR A p)), .ref 15] (hM c (s, MB.2) tl) Q := by
  obtain ⟨s1, r1, hev, h1, h2, h3⟩ := x5_doSwap_go (ro := ro) (d := d + 3) (c := c) (tl := tl) (M := (s, MB.2)) hO hs hp hq (Nat.ne_of_lt hpq)
  have hn := hO.n
  have hw := aOw_swp hO.w hp hq
  have hall := aAll_ltW hw
  have hR2 : MR (va_cpy (mBf MB) s1 0 0 154) A := mr_cong hO.w hB (fun q hq => by rw [pk_cpy_in (by omega) (by omega)]; congr 1; omega)
  by_cases hm : aMay A p q
  · rw [h2 hm] at hev
    refine ⟨va_cpy (mBf MB) s1 0 0 154, 1, nI (aAll (aSwp A p q)), hR2, fun Q k => ?_⟩
    refine wp_v2 rfl rfl (Nat.le_of_ble_eq_true rfl) (hev) ?_
    refine wp_run rfl ?_
    refine wp_iflt rfl (fun hz_ => absurd hz_ (nI_pos (by omega))) (fun _ => ?_)
    refine wp_run rfl ?_
    refine wp_v0 rfl rfl (Nat.le_of_ble_eq_true rfl) (x5_allOff (M := (s1, MB.2)) (A := aSwp A p q) (d := d) hw h1) ?_
    refine wp_run rfl ?_
    refine wp_ifeq rfl (fun hz_ => absurd hz_ ((by decide : ¬ (1 : Int32) = 0))) (fun _ => ?_)
    refine wp_run rfl ?_
    by_cases e : aAll (aSwp A p q) < t.2.2
    · have e3 : aBst A p q t = (p, q, aAll (aSwp A p q)) := if_pos ⟨hm, e⟩
      rw [e3] at k
      rw [show bsI (p, q, aAll (aSwp A p q)) = K from (if_pos hpq).trans hK.symm] at k
      refine wp_icge rfl (fun hz_ => absurd hz_ (nI_ge e (by omega))) (fun _ => ?_)
      refine wp_run rfl ?_
      refine wp_ifeq rfl (fun hz_ => absurd hz_ ((by decide : ¬ (1 : Int32) = 0))) (fun _ => ?_)
      refine wp_run rfl ?_
      refine wp_icge rfl (fun hz_ => absurd hz_ (nI_ge e (by omega))) (fun _ => ?_)
      refine wp_run rfl ?_
      refine wp_s4v rfl (Nat.le_of_ble_eq_true rfl) (x5_back (d := d + 5) (M := (s1, MB.2))) ?_
      refine wp_run rfl ?_
      exact k
    · have e3 : aBst A p q t = t := if_neg (fun z => e z.2)
      rw [e3] at k
      refine wp_icge rfl (fun _ => ?_) (fun hz_ => absurd (nI_le (by omega) (by omega)) hz_)
      refine wp_run rfl ?_
      refine wp_ifeq rfl (fun hz_ => absurd hz_ ((by decide : ¬ (1 : Int32) = 0))) (fun _ => ?_)
      refine wp_run rfl ?_
      refine wp_icge rfl (fun _ => ?_) (fun hz_ => absurd (nI_le (by omega) (by omega)) hz_)
      refine wp_run rfl ?_
      refine wp_s4v rfl (Nat.le_of_ble_eq_true rfl) (x5_back (d := d + 5) (M := (s1, MB.2))) ?_
      refine wp_run rfl ?_
      exact k
  · rw [h3 hm] at hev
    have e3 : aBst A p q t = t := if_neg (fun z => hm z.1)
    refine ⟨va_cpy (mBf MB) s1 0 0 154, 0, nI (aAll (aSwp A p q)), hR2, fun Q k => ?_⟩
    rw [e3] at k
    refine wp_v2 rfl rfl (Nat.le_of_ble_eq_true rfl) (hev) ?_
    refine wp_run rfl ?_
    refine wp_iflt rfl (fun _ => ?_) (fun hz_ => absurd ((by decide : (-5 : Int32) < 0)) hz_)
    refine wp_run rfl ?_
    refine wp_v0 rfl rfl (Nat.le_of_ble_eq_true rfl) (x5_allOff (M := (s1, MB.2)) (A := aSwp A p q) (d := d) hw h1) ?_
    refine wp_run rfl ?_
    refine wp_ifeq rfl (fun _ => ?_) (fun hz_ => absurd (rfl) hz_)
    refine wp_run rfl ?_
    refine wp_ifeq rfl (fun _ => ?_) (fun hz_ => absurd (rfl) hz_)
    refine wp_run rfl ?_
    refine wp_s4v rfl (Nat.le_of_ble_eq_true rfl) (x5_back (d := d + 5) (M := (s1, MB.2))) ?_
    refine wp_run rfl ?_
    exact k
theorem best_loop (hO : aOk A) {MB : axMD} (hB : MR (mBf MB) A) {X : Int32} : ∀ m k, k + m = 576 → ∀ (s : Nat → Int32) (v5 v6 v7 v8 : Option Value), MR s A → ∃ (s' : Nat → Int32) (v5' v6' v7' v8' : Option Value), MR s' A ∧ ∀ Q : Option Value → axH → Prop,
    axW ro (axEv ro (d + 6)) cdX5_bestSwap 41 [some (.ref 15), some (.int X), some (.int (nI (tBS A 576).2.2)), some (.int (bsI (tBS A 576))), some (.int (nI 576)), v5', v6', v7', v8'] [.int 576, .int (nI 576)] (hM c (s', MB.2) tl) Q →
    axW ro (axEv ro (d + 6)) cdX5_bestSwap 41 [some (.ref 15), some (.int X), some (.int (nI (tBS A k).2.2)), some (.int (bsI (tBS A k))), some (.int (nI k)), v5, v6, v7, v8] [.int 576, .int (nI k)] (hM c (s, MB.2) tl) Q := by
  have hn := hO.n
  intro m
  induction m with
  | zero =>
    intro k e s v5 v6 v7 v8 hs
    have e : k = 576 := by omega
    subst e
    exact ⟨s, v5, v6, v7, v8, hs, fun Q k => k⟩
  | succ m ih =>
    intro k e s v5 v6 v7 v8 hs
    have hdiv : k / 24 < 24 := by omega
    have head : ∀ Q : Option Value → axH → Prop,
        axW ro (axEv ro (d + 6)) cdX5_bestSwap 62 [some (.ref 15), some (.int X), some (.int (nI (tBS A k).2.2)), some (.int (bsI (tBS A k))), some (.int (nI k)), some (.int (nI (k / 24))), some (.int (nI (k % 24))), v7, v8] [.int (nI (k % 24)), .int (nI (k / 24))] (hM c (s, MB.2) tl) Q →
        axW ro (axEv ro (d + 6)) cdX5_bestSwap 41 [some (.ref 15), some (.int X), some (.int (nI (tBS A k).2.2)), some (.int (bsI (tBS A k))), some (.int (nI k)), v5, v6, v7, v8] [.int 576, .int (nI k)] (hM c (s, MB.2) tl) Q := by
      intro Q kk
      refine wp_icge rfl (fun hz_ => absurd hz_ (nI_ge (b := 576) (by omega) (by decide))) (fun _ => ?_)
      refine wp_run rfl ?_
      refine wp_idiv rfl (by decide) (pk_div (d := 24) (by omega) (by decide) (by decide)) ?_
      refine wp_run rfl ?_
      refine wp_irem rfl (by decide) (pk_rem (d := 24) (by omega) (by decide) (by decide)) ?_
      refine wp_run rfl ?_
      exact kk
    have skip : tBS A (k + 1) = tBS A k → (∀ Q : Option Value → axH → Prop,
        axW ro (axEv ro (d + 6)) cdX5_bestSwap 41 [some (.ref 15), some (.int X), some (.int (nI (tBS A k).2.2)), some (.int (bsI (tBS A k))), some (.int (nI (k + 1))), some (.int (nI (k / 24))), some (.int (nI (k % 24))), v7, v8] [.int 576, .int (nI (k + 1))] (hM c (s, MB.2) tl) Q →
        axW ro (axEv ro (d + 6)) cdX5_bestSwap 62 [some (.ref 15), some (.int X), some (.int (nI (tBS A k).2.2)), some (.int (bsI (tBS A k))), some (.int (nI k)), some (.int (nI (k / 24))), some (.int (nI (k % 24))), v7, v8] [.int (nI (k % 24)), .int (nI (k / 24))] (hM c (s, MB.2) tl) Q) →
        ∃ (s' : Nat → Int32) (v5' v6' v7' v8' : Option Value), MR s' A ∧ ∀ Q : Option Value → axH → Prop,
        axW ro (axEv ro (d + 6)) cdX5_bestSwap 41 [some (.ref 15), some (.int X), some (.int (nI (tBS A 576).2.2)), some (.int (bsI (tBS A 576))), some (.int (nI 576)), v5', v6', v7', v8'] [.int 576, .int (nI 576)] (hM c (s', MB.2) tl) Q →
        axW ro (axEv ro (d + 6)) cdX5_bestSwap 41 [some (.ref 15), some (.int X), some (.int (nI (tBS A k).2.2)), some (.int (bsI (tBS A k))), some (.int (nI k)), v5, v6, v7, v8] [.int 576, .int (nI k)] (hM c (s, MB.2) tl) Q := by
      intro hsk hgo
      obtain ⟨s', v5', v6', v7', v8', g1, g2⟩ := ih (k + 1) (by omega) s (some (.int (nI (k / 24)))) (some (.int (nI (k % 24)))) v7 v8 hs
      rw [hsk] at g2
      exact ⟨s', v5', v6', v7', v8', g1, fun Q kk => head Q (hgo Q (g2 Q kk))⟩
    by_cases e1 : k / 24 < k % 24
    · by_cases e2 : k % 24 < aN A
      · have ht : tBS A (k + 1) = aBst A (k / 24) (k % 24) (tBS A k) := by rw [tBS, if_pos ⟨e1, e2⟩]
        obtain ⟨s1, w7, w8, g1, g2⟩ := best_one (ro := ro) (d := d) (c := c) (tl := tl) (MB := MB) (bf := mBf MB) hO hs hB (p := k / 24) (q := k % 24) (by omega) e2 e1 (X := X) (K := nI k) (t := tBS A k) (tBS_le hO k) (by congr 1; omega) (v7 := v7) (v8 := v8)
        obtain ⟨s', v5', v6', v7', v8', g3, g4⟩ := ih (k + 1) (by omega) s1 (some (.int (nI (k / 24)))) (some (.int (nI (k % 24)))) (some (.int w7)) (some (.int w8)) g1
        rw [ht] at g4
        refine ⟨s', v5', v6', v7', v8', g3, fun Q kk => head Q ?_⟩
        have g5 := g2 Q (by rw [nI_1]; exact g4 Q kk)
        refine wp_icge rfl (fun hz_ => absurd hz_ (nI_ge e1 (by omega))) (fun _ => ?_)
        refine wp_run rfl ?_
        refine wp_ald rfl rfl (vp_in_nI (n := 0) (by decide) (by decide)) (mr_sz hs) ?_
        refine wp_run rfl ?_
        refine wp_icge rfl (fun hz_ => absurd hz_ (nI_ge e2 (by omega))) (fun _ => ?_)
        refine wp_run rfl ?_
        rw [show (10 : Int32) + nI (k / 24) = nI (10 + (k / 24)) from nI_add 10 (k / 24)]
        refine wp_ald rfl rfl (vp_in_nI ((show 10 + k / 24 < 154 by omega)) (by decide)) (by rw [nI_clamp (by omega)]) ?_
        refine wp_run rfl ?_
        rw [show mS (s, MB.2) (10 + k / 24) = nI (aR A (k / 24)) from mr_rw hs (by omega)]
        rw [show (10 : Int32) + nI (k % 24) = nI (10 + (k % 24)) from nI_add 10 (k % 24)]
        refine wp_ald rfl rfl (vp_in_nI ((show 10 + k % 24 < 154 by omega)) (by decide)) (by rw [nI_clamp (by omega)]) ?_
        refine wp_run rfl ?_
        rw [show mS (s, MB.2) (10 + k % 24) = nI (aR A (k % 24)) from mr_rw hs e2]
        exact g5
      · refine skip (by rw [tBS, if_neg (fun z => e2 z.2)]) (fun Q kk => ?_)
        refine wp_icge rfl (fun hz_ => absurd hz_ (nI_ge e1 (by omega))) (fun _ => ?_)
        refine wp_run rfl ?_
        refine wp_ald rfl rfl (vp_in_nI (n := 0) (by decide) (by decide)) (mr_sz hs) ?_
        refine wp_run rfl ?_
        refine wp_icge rfl (fun _ => ?_) (fun hz_ => absurd (nI_le (by omega) (by omega)) hz_)
        refine wp_run rfl ?_
        rw [nI_1]
        exact kk
    · refine skip (by rw [tBS, if_neg (fun z => e1 z.1)]) (fun Q kk => ?_)
      refine wp_icge rfl (fun _ => ?_) (fun hz_ => absurd (nI_le (by omega) (by omega)) hz_)
      refine wp_run rfl ?_
      rw [nI_1]
      exact kk
theorem x5_bestSwap (hV : MSt V M) (hS : spBest (vA V) x r) : ∃ M', axEv ro (d + 7) kX5_bestSwap [.ref 15, .int x] (hM c M tl) (some (.int r)) (hM c M' tl) ∧ MSt V M' := by
  have hO := hV.2.1
  have hR := hV.1
  have hn := hO.n
  rcases hS with ⟨h, rfl⟩ | ⟨k, hk, rfl, rfl⟩
  · refine ⟨M, ?_, hV⟩
    refine ev_in rfl rfl (Nat.le_of_ble_eq_true rfl) rfl ?_
    refine wp_run rfl ?_
    refine wp_s3 rfl (Nat.le_of_ble_eq_true rfl) (x5_in_no (d := d + 5) (in_out (n := 2) (by decide) h)) ?_
    refine wp_run rfl ?_
    refine wp_ifne rfl (fun hz_ => absurd hz_ (fun z => z rfl)) (fun _ => ?_)
    refine wp_run rfl ?_
    exact wp_ret rfl rfl ⟨rfl, rfl⟩
  · have hcp : axEv ro (d + 6) kX5_copy [.ref 16, .int 0, .ref 20, .int 0] (hM c M tl) none (hM c (mS M, mHs M, mKp M, mSl M, mSv M, va_cpy (mS M) (mBf M) 0 0 154, M.2.2.2.2.2.2) tl) := x5_copy (a := 16) (b := 20) (fo := 0) (t := 0) (n := 154) (m := 154) (f := mS M) (g := mBf M) rfl rfl (by decide) (by decide) (by decide) (by decide) (by decide)
    obtain ⟨s', v5, v6, v7, v8, g1, g2⟩ := best_loop (ro := ro) (d := d) (c := c) (tl := tl) (MB := (mS M, mHs M, mKp M, mSl M, mSv M, va_cpy (mS M) (mBf M) 0 0 154, M.2.2.2.2.2.2)) (A := vA V) hO (cp1 hO.w hR) (X := nI k) 576 0 rfl (mS M) none none none none hR
    have hok := tBS_ok (A := vA V) 576
    unfold bsV
    rw [← tBS_all hn]
    generalize tBS (vA V) 576 = t at g2 hok ⊢
    refine ⟨_, ?_, ms_s hV g1 (b := va_cpy (mS M) (mBf M) 0 0 154)⟩
    refine ev_in rfl rfl (Nat.le_of_ble_eq_true rfl) rfl ?_
    refine wp_run rfl ?_
    refine wp_s3 rfl (Nat.le_of_ble_eq_true rfl) (x5_in_yes (d := d + 5) (nI_pos (by omega)) (nI_le (b := 2) (by omega) (by omega))) ?_
    refine wp_run rfl ?_
    refine wp_ifne rfl (fun _ => ?_) (fun hz_ => absurd ((by decide : ¬ (1 : Int32) = 0)) hz_)
    refine wp_run rfl ?_
    refine wp_v0 rfl rfl (Nat.le_of_ble_eq_true rfl) (x5_allOff (d := d) hO.w hR) ?_
    refine wp_run rfl ?_
    refine wp_s4v rfl (Nat.le_of_ble_eq_true rfl) (hcp) ?_
    refine wp_run rfl ?_
    refine g2 _ ?_
    refine wp_icge rfl (fun _ => ?_) (fun hz_ => absurd (nI_le (b := 576) (Nat.le_refl 576) (by decide)) hz_)
    refine wp_run rfl ?_
    unfold bsI
    by_cases e : t.1 < t.2.1
    · have hq : t.2.1 < aN (vA V) := by
        rcases hok with h | h
        · omega
        · exact h.2
      rw [if_pos e, if_pos e]
      refine wp_icne rfl (fun _ => ?_) (fun hz => absurd (show nI (24 * t.1 + t.2.1) < 0 by rw [show nI (24 * t.1 + t.2.1) = -6 from Classical.not_not.mp hz]; decide) (nI_pos (by omega)))
      refine wp_run rfl ?_
      match k, hk with
      | 0, _ =>
        refine wp_ifne rfl (fun hz_ => absurd hz_ (fun z => z rfl)) (fun _ => ?_)
        refine wp_run rfl ?_
        refine wp_idiv rfl (by decide) (pk_div (d := 24) (by omega) (by decide) (by decide)) ?_
        refine wp_run rfl ?_
        rw [show (24 * t.1 + t.2.1) / 24 = t.1 by omega]
        rw [show (10 : Int32) + nI (t.1) = nI (10 + (t.1)) from nI_add 10 (t.1)]
        refine wp_ald rfl rfl (vp_in_nI ((show 10 + t.1 < 154 by omega)) (by decide)) (by rw [nI_clamp (by omega)]) ?_
        refine wp_run rfl ?_
        rw [show mS (s', ((mS M, mHs M, mKp M, mSl M, mSv M, va_cpy (mS M) (mBf M) 0 0 154, M.2.2.2.2.2.2) : axMD).2) (10 + t.1) = nI (aR (vA V) t.1) from mr_rw g1 (by omega)]
        exact wp_ret rfl rfl ⟨rfl, rfl⟩
      | 1, _ =>
        refine wp_ifne rfl (fun _ => ?_) (fun hz_ => absurd ((by decide : ¬ (1 : Int32) = 0)) hz_)
        refine wp_run rfl ?_
        refine wp_icne rfl (fun hz_ => absurd hz_ (fun z => z rfl)) (fun _ => ?_)
        refine wp_run rfl ?_
        refine wp_irem rfl (by decide) (pk_rem (d := 24) (by omega) (by decide) (by decide)) ?_
        refine wp_run rfl ?_
        rw [show (24 * t.1 + t.2.1) % 24 = t.2.1 by omega]
        rw [show (10 : Int32) + nI (t.2.1) = nI (10 + (t.2.1)) from nI_add 10 (t.2.1)]
        refine wp_ald rfl rfl (vp_in_nI ((show 10 + t.2.1 < 154 by omega)) (by decide)) (by rw [nI_clamp (by omega)]) ?_
        refine wp_run rfl ?_
        rw [show mS (s', ((mS M, mHs M, mKp M, mSl M, mSv M, va_cpy (mS M) (mBf M) 0 0 154, M.2.2.2.2.2.2) : axMD).2) (10 + t.2.1) = nI (aR (vA V) t.2.1) from mr_rw g1 hq]
        exact wp_ret rfl rfl ⟨rfl, rfl⟩
      | 2, _ =>
        refine wp_ifne rfl (fun _ => ?_) (fun hz_ => absurd ((by decide : ¬ (2 : Int32) = 0)) hz_)
        refine wp_run rfl ?_
        refine wp_icne rfl (fun _ => ?_) (fun hz_ => absurd ((by decide : ¬ (2 : Int32) = 1)) hz_)
        refine wp_run rfl ?_
        exact wp_ret rfl rfl ⟨rfl, rfl⟩
      | n + 3, hk => exact absurd hk (by omega)
    · rw [if_neg e, if_neg e]
      refine wp_icne rfl (fun hz_ => absurd hz_ (fun z => z rfl)) (fun _ => ?_)
      refine wp_run rfl ?_
      exact wp_ret rfl rfl ⟨rfl, rfl⟩
end AX60
