/-! THE REFERENCE: a slug is split. -/
/-- those of the first q that need k need z, too -/
def ndL (s : Nat → Int32) (k z q : Nat) : Nat → Int32 := fun j => if (38 ≤ j ∧ j < 38 + 5 * q ∧ j % 5 = 3) ∧ bt (s j) k = true then s j ||| bi z else s j
theorem ndL_no {s : Nat → Int32} {k z q j : Nat} (h : ¬ (38 ≤ j ∧ j < 38 + 5 * q ∧ j % 5 = 3)) : ndL s k z q j = s j := if_neg (fun z => h z.1)
theorem ndL_0 (s : Nat → Int32) (k z : Nat) : ndL s k z 0 = s := by funext j; exact ndL_no (by omega)
theorem ndL_s (s : Nat → Int32) (k z q : Nat) : upd (ndL s k z q) (38 + 5 * q) (s (38 + 5 * q) ||| (if bt (s (38 + 5 * q)) k = true then bi z else 0)) = ndL s k z (q + 1) := by
  funext j
  by_cases e : j = 38 + 5 * q
  · rw [e, pk_us]
    unfold ndL
    by_cases e2 : bt (s (38 + 5 * q)) k = true
    · rw [if_pos e2, if_pos ⟨by omega, e2⟩]
    · rw [if_neg e2, if_neg (fun z => e2 z.2), Int32.or_zero]
  · rw [pk_un e]
    unfold ndL
    by_cases e2 : (38 ≤ j ∧ j < 38 + 5 * q ∧ j % 5 = 3) ∧ bt (s j) k = true
    · rw [if_pos e2, if_pos ⟨by omega, e2.2⟩]
    · rw [if_neg e2, if_neg (fun z => e2 ⟨by omega, z.2⟩)]
theorem mr_split {s1 s5 : Nat → Int32} {A : axAD} {i v z : Nat} (hO : aOw A) (hi : i < aN A) (hz : z < 24) (hf : ¬ aIn A z) (hn : aN A < 24) (hR : MR s1 (aAdd A (i + 1) (aW A (aR A i) - v) z (aT A (aR A i))))
    (hlo : ∀ j, j < 34 → s5 j = s1 j) (h0 : ∀ k, s5 (34 + 5 * k) = s1 (34 + 5 * k)) (h1 : ∀ k, s5 (35 + 5 * k) = if k = aR A i then nI v else s1 (35 + 5 * k)) (h2 : ∀ k, s5 (36 + 5 * k) = if k = aR A i then nI v else if k = z then nI (aB A (aR A i) - v) else s1 (36 + 5 * k))
    (h3 : ∀ k, s5 (37 + 5 * k) = if k = aR A i then 0 else s1 (37 + 5 * k)) (h4 : ∀ k, k < 24 → s5 (38 + 5 * k) = if k = z then bi (aR A i) else if bt (s1 (38 + 5 * k)) (aR A i) = true then s1 (38 + 5 * k) ||| bi z else s1 (38 + 5 * k)) : MR s5 (aSplit A i v (aR A i) z) := by
  have hzk : z ≠ aR A i := fun e => hf ⟨i, hi, e.symm⟩
  have hN : aN (aSplit A i v (aR A i) z) = aN A + 1 := by unfold aSplit; split <;> rfl
  have hRr : aR (aSplit A i v (aR A i) z) = aIns (aR A) (i + 1) z := by unfold aSplit; split <;> rfl
  have hW : ∀ k, aW (aSplit A i v (aR A i) z) k = if k = aR A i then v else va_up (aW A) z (aW A (aR A i) - v) k := by intro k; unfold aSplit; split <;> rfl
  have hB : ∀ k, aB (aSplit A i v (aR A i) z) k = if k = aR A i then v else if k = z then aB A (aR A i) - v else va_up (aB A) z (aW A (aR A i) - v) k := by intro k; unfold aSplit; split <;> rfl
  have hD : ∀ k, aD (aSplit A i v (aR A i) z) k = aSplN A (aR A i) z k := by intro k; unfold aSplit; split <;> rfl
  have hT : ∀ k, aT (aSplit A i v (aR A i) z) k = if k = aR A i then false else va_up (aT A) z (aT A (aR A i)) k := by
    intro k
    unfold aSplit
    by_cases ht : aT A (aR A i) = true
    · rw [if_pos ht, ht]
      show (if k = z then !(if k = aR A i then !(va_up (aT A) z false k) else va_up (aT A) z false k) else if k = aR A i then !(va_up (aT A) z false k) else va_up (aT A) z false k) = _
      by_cases e1 : k = z
      · rw [if_pos e1, if_neg (fun q => hzk (by rw [← e1]; exact q)), if_neg (fun q => hzk (by rw [← e1]; exact q)), e1, va_is, va_is]; rfl
      · rw [if_neg e1, va_no e1, va_no e1]
        by_cases e2 : k = aR A i
        · rw [if_pos e2, if_pos e2, e2, ht]; rfl
        · rw [if_neg e2, if_neg e2]
    · have ht : aT A (aR A i) = false := by cases h : aT A (aR A i); rfl; exact absurd h ht
      rw [if_neg (by rw [ht]; decide), ht]
      show va_up (aT A) z false k = _
      by_cases e2 : k = aR A i
      · rw [if_pos e2, va_no (fun q => hzk (by rw [← q]; exact e2)), e2, ht]
      · rw [if_neg e2]
  refine mr_slg hR (show aN A + 1 ≤ 24 by omega) hN hRr ?_ ?_ ?_ ?_ hlo h0 (fun j hj => ?_)
  · unfold aSplit; split <;> rfl
  · unfold aSplit; split <;> rfl
  · unfold aSplit; split <;> rfl
  · unfold aSplit; split <;> rfl
  · have q1 := mr_wr hR hj
    have q2 := mr_bt hR hj
    have q3 := mr_tn hR hj
    have q4 := mr_nd hR hj
    have hj24 : aR (aAdd A (i + 1) (aW A (aR A i) - v) z (aT A (aR A i))) j < 24 := by
      rcases aIns_is (aR A) (k := z) (p := i + 1) hj (by omega) with ⟨-, e2⟩ | ⟨j', hj', e2⟩
      · show aIns (aR A) (i + 1) z j < 24; rw [e2]; exact hz
      · show aIns (aR A) (i + 1) z j < 24; rw [e2]; exact hO.r hj'
    generalize aR (aAdd A (i + 1) (aW A (aR A i) - v) z (aT A (aR A i))) j = k at *
    have q1 : s1 (35 + 5 * k) = nI (va_up (aW A) z (aW A (aR A i) - v) k) := q1
    have q2 : s1 (36 + 5 * k) = nI (va_up (aB A) z (aW A (aR A i) - v) k) := q2
    have q3 : s1 (37 + 5 * k) = (if va_up (aT A) z (aT A (aR A i)) k = true then 1 else 0) := q3
    have q4 : s1 (38 + 5 * k) = va_up (aD A) z 0 k := q4
    rw [h1, h2, h3, h4 k hj24, hW, hB, hT, hD, q1, q2, q3, q4]
    by_cases e : k = aR A i
    · have e2 : k ≠ z := fun q => hzk (by rw [← q]; exact e)
      rw [if_pos e, if_pos e, if_pos e, if_pos e, if_pos e, if_pos e, if_neg e2, va_no e2]
      refine ⟨rfl, rfl, rfl, ?_⟩
      unfold aSplN
      rw [if_neg e2]
    · rw [if_neg e, if_neg e, if_neg e, if_neg e, if_neg e, if_neg e]
      unfold aSplN
      by_cases e2 : k = z
      · rw [if_pos e2, if_pos e2, if_pos e2, if_pos e2]
        exact ⟨rfl, rfl, rfl, rfl⟩
      · rw [if_neg e2, if_neg e2, if_neg e2, if_neg e2, va_no e2, va_no e2, va_no e2, va_no e2]
        exact ⟨rfl, rfl, rfl, rfl⟩
section AX56
variable {ro : axRo} {d : Nat} {h : axH} {c : Nat → axC} {M : axMD} {tl : axH} {A A' : axAD} {x y w r : Int32}
theorem split_nd {k z X Y : Nat} {s : Nat → Int32} {Q : Option Value → axH → Prop} {v4 : Option Value} (hk : k < 24) (hz : z < 24) (hQ : axW ro (axEv ro (d + 3)) cdX5_doSplit 148 [some (.ref 15), some (.int (nI k)), some (.int (nI Y)), some (.int (nI z)), some (.int (nI 24))] [.int (bi k), .int 4, .int (nI z), .ref 15] (hM c (ndL s k z 24, M.2) tl) Q) :
    axW ro (axEv ro (d + 3)) cdX5_doSplit 97 [some (.ref 15), some (.int (nI k)), some (.int (nI Y)), some (.int (nI z)), some (.int 0)] [.int 24, .int 0] (hM c (s, M.2) tl) Q := by
  have loop : ∀ m q, q + m = 24 → axW ro (axEv ro (d + 3)) cdX5_doSplit 97 [some (.ref 15), some (.int (nI k)), some (.int (nI Y)), some (.int (nI z)), some (.int (nI q))] [.int 24, .int (nI q)] (hM c (ndL s k z q, M.2) tl) Q := by
    intro m
    induction m with
    | zero =>
      intro q e
      have e : q = 24 := by omega
      subst e
      refine wp_icge rfl (fun _ => ?_) (fun hz_ => absurd (nI_le (b := 24) (Nat.le_refl 24) (by decide)) hz_)
      refine wp_run rfl ?_
      exact hQ
    | succ m ih =>
      intro q e
      have hq : q < 24 := by omega
      have hg := x5_get (ro := ro) (d := d + 2) (c := c) (M := (ndL s k z q, M.2)) (tl := tl) (w := 4) hq (by decide)
      rw [show mS (ndL s k z q, M.2) (34 + 5 * q + 4) = s (38 + 5 * q) by rw [show 34 + 5 * q + 4 = 38 + 5 * q by omega]; exact ndL_no (by omega)] at hg
      have hl : axEv ro (d + 3) kX5_lay [.ref 15, .int (nI q), .int 4, .int (s (38 + 5 * q) ||| (if bt (s (38 + 5 * q)) k = true then bi z else 0))] (hM c (ndL s k z q, M.2) tl) none (hM c (ndL s k z (q + 1), M.2) tl) := by
        rw [← ndL_s]
        exact x5_l (M := (ndL s k z q, M.2)) (d := d + 2) 4 hq (by decide) (show 34 + 5 * q + 4 = 38 + 5 * q by omega)
      refine wp_icge rfl (fun hz_ => absurd hz_ (nlt24 hq)) (fun _ => ?_)
      refine wp_run rfl ?_
      refine wp_v2 rfl rfl (Nat.le_of_ble_eq_true rfl) (hg) ?_
      refine wp_run rfl ?_
      refine wp_v2 rfl rfl (Nat.le_of_ble_eq_true rfl) (hg) ?_
      refine wp_run rfl ?_
      refine wp_s2 rfl (Nat.le_of_ble_eq_true rfl) (x5_has (d := d + 2) (by omega)) ?_
      refine wp_run rfl ?_
      by_cases e2 : bt (s (38 + 5 * q)) k = true
      · rw [if_pos e2]
        rw [if_pos e2] at hl
        refine wp_ifeq rfl (fun hz_ => absurd hz_ ((by decide : ¬ (1 : Int32) = 0))) (fun _ => ?_)
        refine wp_run rfl ?_
        refine wp_v3v rfl rfl (Nat.le_of_ble_eq_true rfl) (hl) ?_
        refine wp_run rfl ?_
        rw [nI_1]
        exact ih (q + 1) (by omega)
      · rw [if_neg e2]
        rw [if_neg e2] at hl
        refine wp_ifeq rfl (fun _ => ?_) (fun hz_ => absurd (rfl) hz_)
        refine wp_run rfl ?_
        refine wp_v3v rfl rfl (Nat.le_of_ble_eq_true rfl) (hl) ?_
        refine wp_run rfl ?_
        rw [nI_1]
        exact ih (q + 1) (by omega)
  have := loop 24 0 (by decide)
  rw [ndL_0] at this
  exact this
theorem x5_doSplit (hO : aOk A) (hR : MR (mS M) A) (hS : spSplit A x y r A') : ∃ s', axEv ro (d + 4) kX5_doSplit [.ref 15, .int x, .int y] (hM c M tl) (some (.int r)) (hM c (s', M.2) tl) ∧ (¬ r < 0 → MR s' A') := by
  have hn := hO.n
  have hw := hO.w
  rcases hS with ⟨hx, rfl, -⟩ | ⟨i, ⟨hi, rfl⟩, ⟨hy, rfl, -⟩ | ⟨v, h1, h2, rfl, ⟨h3, rfl, -⟩ | ⟨h3, h24, rfl, -⟩ | ⟨h3, hlt, z, hz, rfl, rfl⟩⟩⟩
  · refine ⟨mS M, ?_, fun z => absurd (by decide : (-1 : Int32) < 0) z⟩
    refine ev_in rfl rfl (Nat.le_of_ble_eq_true rfl) rfl ?_
    refine wp_run rfl ?_
    refine wp_v1 rfl rfl (Nat.le_of_ble_eq_true rfl) (x5_isSlug_no (d := d + 1) hR hx) ?_
    refine wp_run rfl ?_
    refine wp_ifne rfl (fun hz_ => absurd hz_ (fun z => z rfl)) (fun _ => ?_)
    refine wp_run rfl ?_
    exact wp_ret rfl rfl ⟨rfl, rfl⟩
  · refine ⟨mS M, ?_, fun z => absurd (by decide : (-2 : Int32) < 0) z⟩
    refine ev_in rfl rfl (Nat.le_of_ble_eq_true rfl) rfl ?_
    refine wp_run rfl ?_
    refine wp_v1 rfl rfl (Nat.le_of_ble_eq_true rfl) (x5_isSlug_yes (d := d + 1) hw hR hi) ?_
    refine wp_run rfl ?_
    refine wp_ifne rfl (fun _ => ?_) (fun hz_ => absurd ((by decide : ¬ (1 : Int32) = 0)) hz_)
    refine wp_run rfl ?_
    refine wp_s3 rfl (Nat.le_of_ble_eq_true rfl) (x5_in_no hy) ?_
    refine wp_run rfl ?_
    refine wp_ifne rfl (fun hz_ => absurd hz_ (fun z => z rfl)) (fun _ => ?_)
    refine wp_run rfl ?_
    exact wp_ret rfl rfl ⟨rfl, rfl⟩
  · have hb := hO.b hi
    refine ⟨mS M, ?_, fun z => absurd (by decide : (-5 : Int32) < 0) z⟩
    refine ev_in rfl rfl (Nat.le_of_ble_eq_true rfl) rfl ?_
    refine wp_run rfl ?_
    refine wp_v1 rfl rfl (Nat.le_of_ble_eq_true rfl) (x5_isSlug_yes (d := d + 1) hw hR hi) ?_
    refine wp_run rfl ?_
    refine wp_ifne rfl (fun _ => ?_) (fun hz_ => absurd ((by decide : ¬ (1 : Int32) = 0)) hz_)
    refine wp_run rfl ?_
    refine wp_s3 rfl (Nat.le_of_ble_eq_true rfl) (x5_in_yes (nI_nlt (b := 1) h1 (by omega)) (nI_le (b := 98) h2 (by omega))) ?_
    refine wp_run rfl ?_
    refine wp_ifne rfl (fun _ => ?_) (fun hz_ => absurd ((by decide : ¬ (1 : Int32) = 0)) hz_)
    refine wp_run rfl ?_
    refine wp_v2 rfl rfl (Nat.le_of_ble_eq_true rfl) (x5_gB (d := d + 2) hw hR hi) ?_
    refine wp_run rfl ?_
    refine wp_icgt rfl (fun hz_ => absurd hz_ (nI_nlt h3 (by omega))) (fun _ => ?_)
    refine wp_run rfl ?_
    exact wp_ret rfl rfl ⟨rfl, rfl⟩
  · have hb := hO.b hi
    refine ⟨mS M, ?_, fun z => absurd (by decide : (-4 : Int32) < 0) z⟩
    refine ev_in rfl rfl (Nat.le_of_ble_eq_true rfl) rfl ?_
    refine wp_run rfl ?_
    refine wp_v1 rfl rfl (Nat.le_of_ble_eq_true rfl) (x5_isSlug_yes (d := d + 1) hw hR hi) ?_
    refine wp_run rfl ?_
    refine wp_ifne rfl (fun _ => ?_) (fun hz_ => absurd ((by decide : ¬ (1 : Int32) = 0)) hz_)
    refine wp_run rfl ?_
    refine wp_s3 rfl (Nat.le_of_ble_eq_true rfl) (x5_in_yes (nI_nlt (b := 1) h1 (by omega)) (nI_le (b := 98) h2 (by omega))) ?_
    refine wp_run rfl ?_
    refine wp_ifne rfl (fun _ => ?_) (fun hz_ => absurd ((by decide : ¬ (1 : Int32) = 0)) hz_)
    refine wp_run rfl ?_
    refine wp_v2 rfl rfl (Nat.le_of_ble_eq_true rfl) (x5_gB (d := d + 2) hw hR hi) ?_
    refine wp_run rfl ?_
    refine wp_icgt rfl (fun _ => ?_) (fun hz_ => absurd (nI_lt h3 (by omega)) hz_)
    refine wp_run rfl ?_
    refine wp_ald rfl rfl (vp_in_nI (n := 0) (by decide) (by decide)) (mr_sz hR) ?_
    refine wp_run rfl ?_
    refine wp_icne rfl (fun hz_ => absurd hz_ (fun z => z (by rw [h24]; rfl))) (fun _ => ?_)
    refine wp_run rfl ?_
    exact wp_ret rfl rfl ⟨rfl, rfl⟩
  · have hb := hO.b hi
    have hk := hO.r hi
    obtain ⟨hz24, hfr, -⟩ := aFr_w hw hlt hz
    have hzk : z ≠ aR A i := fun e => hfr ⟨i, hi, e.symm⟩
    obtain ⟨s1, hev, hR1⟩ := x5_doSlug (ro := ro) (d := d) (c := c) (M := M) (tl := tl) (A := A) (x := nI (i + 1)) (y := nI (aW A (aR A i) - v)) (w := nI (if aT A (aR A i) = true then 1 else 0)) (r := nI z) (A' := aAdd A (i + 1) (aW A (aR A i) - v) z (aT A (aR A i))) hw hR
      (Or.inr (Or.inr ⟨i + 1, aW A (aR A i) - v, if aT A (aR A i) = true then 1 else 0, by omega, rfl, by omega, by omega, rfl, by split <;> omega, rfl, Or.inr ⟨hlt, z, hz, rfl, by cases aT A (aR A i) <;> rfl⟩⟩))
    have hR1 := hR1 (nI_pos (by omega))
    have hwt : (if aT A (aR A i) = true then (1 : Int32) else 0) = nI (if aT A (aR A i) = true then 1 else 0) := by cases aT A (aR A i) <;> rfl
    -- the slug as it is beside the new one
    obtain ⟨j, hj, ej⟩ : ∃ j, j < aN A + 1 ∧ aIns (aR A) (i + 1) z j = aR A i := by
      obtain ⟨j, hj, -, e⟩ := aIns_has (aR A) (k := z) hi (show i + 1 ≤ aN A by omega)
      exact ⟨j, hj, e⟩
    have hbt : s1 (36 + 5 * aR A i) = nI (aB A (aR A i)) := by
      have := mr_bt hR1 hj
      rw [show aR (aAdd A (i + 1) (aW A (aR A i) - v) z (aT A (aR A i))) j = aR A i from ej] at this
      rw [this]
      show nI (va_up (aB A) z (aW A (aR A i) - v) (aR A i)) = _
      rw [va_no (fun e => hzk e.symm)]
    refine ⟨upd (upd (upd (upd (ndL (upd s1 (36 + 5 * z) (nI (aB A (aR A i) - v))) (aR A i) z 24) (38 + 5 * z) (bi (aR A i))) (35 + 5 * aR A i) (nI v)) (36 + 5 * aR A i) (nI v)) (37 + 5 * aR A i) 0, ?_, fun _ => ?_⟩
    · refine ev_in rfl rfl (Nat.le_of_ble_eq_true rfl) rfl ?_
      refine wp_run rfl ?_
      refine wp_v1 rfl rfl (Nat.le_of_ble_eq_true rfl) (x5_isSlug_yes (d := d + 1) hw hR hi) ?_
      refine wp_run rfl ?_
      refine wp_ifne rfl (fun _ => ?_) (fun hz_ => absurd ((by decide : ¬ (1 : Int32) = 0)) hz_)
      refine wp_run rfl ?_
      refine wp_s3 rfl (Nat.le_of_ble_eq_true rfl) (x5_in_yes (nI_nlt (b := 1) h1 (by omega)) (nI_le (b := 98) h2 (by omega))) ?_
      refine wp_run rfl ?_
      refine wp_ifne rfl (fun _ => ?_) (fun hz_ => absurd ((by decide : ¬ (1 : Int32) = 0)) hz_)
      refine wp_run rfl ?_
      refine wp_v2 rfl rfl (Nat.le_of_ble_eq_true rfl) (x5_gB (d := d + 2) hw hR hi) ?_
      refine wp_run rfl ?_
      refine wp_icgt rfl (fun _ => ?_) (fun hz_ => absurd (nI_lt h3 (by omega)) hz_)
      refine wp_run rfl ?_
      refine wp_ald rfl rfl (vp_in_nI (n := 0) (by decide) (by decide)) (mr_sz hR) ?_
      refine wp_run rfl ?_
      refine wp_icne rfl (fun _ => ?_) (fun hz_ => absurd (fun z => absurd ((nI_eq (b := 24) (by omega) (by omega)).mp z) (by omega)) hz_)
      refine wp_run rfl ?_
      refine wp_v1 rfl rfl (Nat.le_of_ble_eq_true rfl) (x5_placeOf_A (d := d + 2) hw hR hi) ?_
      refine wp_run rfl ?_
      rw [nI_1]
      refine wp_v2 rfl rfl (Nat.le_of_ble_eq_true rfl) (x5_gW (d := d + 2) hw hR hi) ?_
      refine wp_run rfl ?_
      rw [pk_sub (by omega)]
      refine wp_v2 rfl rfl (Nat.le_of_ble_eq_true rfl) (x5_gT (d := d + 2) hw hR hi) ?_
      refine wp_run rfl ?_
      rw [hwt]
      refine wp_v3 rfl rfl (Nat.le_of_ble_eq_true rfl) (hev) ?_
      refine wp_run rfl ?_
      have hg := x5_get (ro := ro) (d := d + 2) (c := c) (M := (s1, M.2)) (tl := tl) (w := 2) hk (by decide)
      rw [show mS (s1, M.2) (34 + 5 * aR A i + 2) = nI (aB A (aR A i)) by rw [show 34 + 5 * aR A i + 2 = 36 + 5 * aR A i by omega]; exact hbt] at hg
      refine wp_v2 rfl rfl (Nat.le_of_ble_eq_true rfl) (hg) ?_
      refine wp_run rfl ?_
      rw [pk_sub (by omega)]
      refine wp_v3v rfl rfl (Nat.le_of_ble_eq_true rfl) (x5_l (M := (s1, M.2)) (d := d + 2) 2 hz24 (by decide) (show 34 + 5 * z + 2 = 36 + 5 * z by omega)) ?_
      refine wp_run rfl ?_
      refine split_nd (v4 := none) (X := 0) hk hz24 ?_
      refine wp_v3v rfl rfl (Nat.le_of_ble_eq_true rfl) (x5_l (M := (ndL (upd s1 (36 + 5 * z) (nI (aB A (aR A i) - v))) (aR A i) z 24, M.2)) (d := d + 2) 4 hz24 (by decide) (show 34 + 5 * z + 4 = 38 + 5 * z by omega)) ?_
      refine wp_run rfl ?_
      refine wp_v3v rfl rfl (Nat.le_of_ble_eq_true rfl) (x5_l (d := d + 2) 1 hk (by decide) (show 34 + 5 * aR A i + 1 = 35 + 5 * aR A i by omega)) ?_
      refine wp_run rfl ?_
      refine wp_v3v rfl rfl (Nat.le_of_ble_eq_true rfl) (x5_l (d := d + 2) 2 hk (by decide) (show 34 + 5 * aR A i + 2 = 36 + 5 * aR A i by omega)) ?_
      refine wp_run rfl ?_
      refine wp_v3v rfl rfl (Nat.le_of_ble_eq_true rfl) (x5_l (d := d + 2) 3 hk (by decide) (show 34 + 5 * aR A i + 3 = 37 + 5 * aR A i by omega)) ?_
      refine wp_run rfl ?_
      exact wp_ret rfl rfl ⟨rfl, rfl⟩
    · refine mr_split hw hi hz24 hfr hlt hR1 (fun j hj => ?_) (fun k => ?_) (fun k => ?_) (fun k => ?_) (fun k => ?_) (fun k hk2 => ?_)
      · rw [pk_un (by omega), pk_un (by omega), pk_un (by omega), pk_un (by omega), ndL_no (by omega), pk_un (by omega)]
      · rw [pk_un (by omega), pk_un (by omega), pk_un (by omega), pk_un (by omega), ndL_no (by omega), pk_un (by omega)]
      · rw [pk_un (by omega), pk_un (by omega)]
        by_cases e : k = aR A i
        · rw [if_pos e, e, pk_us]
        · rw [if_neg e, pk_un (by omega), pk_un (by omega), ndL_no (by omega), pk_un (by omega)]
      · rw [pk_un (by omega)]
        by_cases e : k = aR A i
        · rw [if_pos e, e, pk_us]
        · rw [if_neg e, pk_un (by omega), pk_un (by omega), pk_un (by omega), ndL_no (by omega)]
          by_cases e2 : k = z
          · rw [if_pos e2, e2, pk_us]
          · rw [if_neg e2, pk_un (by omega)]
      · by_cases e : k = aR A i
        · rw [if_pos e, e, pk_us]
        · rw [if_neg e, pk_un (by omega), pk_un (by omega), pk_un (by omega), pk_un (by omega), ndL_no (by omega), pk_un (by omega)]
      · rw [pk_un (by omega), pk_un (by omega), pk_un (by omega)]
        by_cases e : k = z
        · rw [if_pos e, e, pk_us]
        · rw [if_neg e, pk_un (by omega)]
          unfold ndL
          rw [pk_un (show 38 + 5 * k ≠ 36 + 5 * z by omega)]
          by_cases e2 : bt (s1 (38 + 5 * k)) (aR A i) = true
          · rw [if_pos ⟨by omega, e2⟩, if_pos e2]
          · rw [if_neg (fun z => e2 z.2), if_neg e2]
end AX56
