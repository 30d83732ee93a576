/-! THE CLASS: the best swap. -/
def exG (g : Nat → Int32) (p q : Nat) : Nat → Int32 := upd (upd g p (g q)) q (g p)
theorem exG_exG (g : Nat → Int32) {p q : Nat} (h : p ≠ q) : exG (exG g p q) p q = g := by
  funext i
  unfold exG
  rw [upd_up, upd_up, upd_up, upd_up, upd_up, upd_up, upd_up, upd_up]
  by_cases e : i = q
  · rw [if_pos e, if_neg h, if_pos rfl, e]
  · rw [if_neg e]
    by_cases e2 : i = p
    · rw [if_pos e2, if_pos rfl, e2]
    · rw [if_neg e2, if_neg e, if_neg e2]
theorem aHi_gt {A : axAD} (hO : aOk A) {i : Nat} (hi : i < aN A) : i < aHi A i := by
  by_cases e : aHi A i ≤ i
  · have hlt : aHi A i < aN A := by omega
    have := aFst_yes (fun p => bt (aD A (aR A p)) (aR A i)) (aN A) hlt
    obtain ⟨j, hj, e2⟩ := hO.d hlt this
    have := hO.inj (show j < aN A by omega) hi e2
    have : j < aHi A i := hj
    omega
  · omega
theorem aHi_le (A : axAD) (i : Nat) : aHi A i ≤ aN A := aFst_le _ _
theorem aLo_le {A : axAD} (hO : aOk A) {i : Nat} (hi : i < aN A) : aLo A i ≤ i := by
  have key : ∀ n, n ≤ aN A → aLoF A (aD A (aR A i)) n ≤ i := by
    intro n
    induction n with
    | zero => intro _; exact Nat.zero_le _
    | succ n ih =>
      intro hn
      rw [aLoF]
      split
      · rename_i hb
        obtain ⟨j, hj, e⟩ := hO.d hi hb
        have := hO.inj (show j < aN A by omega) (show n < aN A by omega) e
        omega
      · exact ih (by omega)
  exact key _ (Nat.le_refl _)
theorem aAll_le {A : axAD} (hn : aN A ≤ 24) (hb : ∀ i, i < aN A → aB A (aR A i) ≤ 99) (ht : ∀ a, a < 6 → aTg A a ≤ 999) : aAll A ≤ 70000 := by
  obtain ⟨h1, h2, h3⟩ := aFo_le hn hb ht _ (Nat.le_refl _)
  have h5 : aTgt A (aFo A (aN A)).2.1 ≤ 999 := ht (min (aFo A (aN A)).2.1 5) (by omega)
  unfold aAll
  generalize aFo A (aN A) = q at *
  generalize aTgt A q.2.1 = t at *
  have : aN A * 2400 ≤ 24 * 2400 := Nat.mul_le_mul_right _ hn
  have : aN A * 99 ≤ 24 * 99 := Nat.mul_le_mul_right _ hn
  split <;> omega
theorem aAll_lt {A : axAD} (hO : aOk A) : aAll A ≤ 70000 := aAll_le hO.n (fun i hi => by have := hO.b hi; omega) (fun a ha => (hO.tg ha).2)
theorem aSwp_is {A : axAD} {p q i : Nat} (hp : p < aN A) (hq : q < aN A) (hi : i < aN A) : ∃ j, j < aN A ∧ aR (aSwp A p q) i = aR A j := by
  show ∃ j, j < aN A ∧ (if i = p then aR A q else if i = q then aR A p else aR A i) = aR A j
  by_cases e : i = p
  · exact ⟨q, hq, by rw [if_pos e]⟩
  · by_cases e2 : i = q
    · exact ⟨p, hp, by rw [if_neg e, if_pos e2]⟩
    · exact ⟨i, hi, by rw [if_neg e, if_neg e2]⟩
theorem aSwp_all {A : axAD} (hO : aOk A) {p q : Nat} (hp : p < aN A) (hq : q < aN A) : aAll (aSwp A p q) ≤ 70000 := by
  refine aAll_le hO.n (fun i hi => ?_) (fun a ha => (hO.tg ha).2)
  obtain ⟨j, hj, e⟩ := aSwp_is hp hq hi
  rw [e]
  have := hO.b hj
  exact Nat.le_trans this.2.1 this.2.2
/-- lower, higher place, how far off: of the best swap so far -/
abbrev axBS : Type := Nat × Nat × Nat
def aBst (A : axAD) (p q : Nat) (s : axBS) : axBS := if ((aLo A p ≤ q ∧ q < aHi A p) ∧ (aLo A q ≤ p ∧ p < aHi A q)) ∧ aAll (aSwp A p q) < s.2.2 then (p, q, aAll (aSwp A p q)) else s
def aBr (A : axAD) (p : Nat) : Nat → axBS → axBS
  | 0, s => s
  | m + 1, s => if p < m then aBst A p m (aBr A p m s) else aBr A p m s
def aBS (A : axAD) : Nat → axBS
  | 0 => (0, 0, aAll A)
  | p + 1 => aBr A p (aN A) (aBS A p)
theorem aBr_lo (A : axAD) {p : Nat} (s : axBS) : ∀ m, m ≤ p + 1 → aBr A p m s = s
  | 0, _ => rfl
  | m + 1, h => by rw [aBr, if_neg (by omega)]; exact aBr_lo A s m (by omega)
theorem aBr_hi (A : axAD) {p : Nat} (s : axBS) : ∀ m, aHi A p ≤ m → aBr A p m s = aBr A p (aHi A p) s := by
  intro m hm
  induction m with
  | zero => rw [show aHi A p = 0 by omega]
  | succ m ih =>
    by_cases e : aHi A p = m + 1
    · rw [e]
    · rw [aBr, ih (by omega)]
      split
      · unfold aBst; rw [if_neg (fun z => by have := z.1.1.2; omega)]
      · rfl
theorem aBst_le {A : axAD} {p q : Nat} {s : axBS} (hs : s.2.2 ≤ 70000) : (aBst A p q s).2.2 ≤ 70000 := by
  unfold aBst; split
  · rename_i h; have := h.2; show aAll (aSwp A p q) ≤ _; omega
  · exact hs
section AX32
variable {ro : axRo} {d : Nat} {h h1 : axH} {B : axBD} {Y : axYD} {sl : Nat → Option Nat} {P : axPD} {G : axGD} {tl : axH} {A : axAD} {g : Nat → Int32} {lo hi le : Int32}
theorem x3_exchange {p q : Nat} (hp : p < 24) (hq : q < 24) : axEv ro (d + 2) kX3_exchange [.ref 13, .int (nI p), .int (nI q)] ((hX B Y sl P ((g, lo, hi, le)) tl)) none ((hX B Y sl P ((exG g p q, lo, hi, le)) tl)) := by
  refine ev_in rfl rfl (Nat.le_of_ble_eq_true rfl) rfl ?_
  refine wp_run rfl ?_
  refine wp_s2 rfl (Nat.le_of_ble_eq_true rfl) (x4_cell rfl hp (by decide)) ?_
  refine wp_run rfl ?_
  refine wp_s2 rfl (Nat.le_of_ble_eq_true rfl) (x4_cell rfl hq (by decide)) ?_
  refine wp_run rfl ?_
  refine wp_s3v rfl (Nat.le_of_ble_eq_true rfl) (x4_store (h1 := (hX B Y sl P ((upd g p (g q), lo, hi, le)) tl)) rfl hp (by decide) rfl) ?_
  refine wp_run rfl ?_
  refine wp_s3v rfl (Nat.le_of_ble_eq_true rfl) (x4_store (h1 := (hX B Y sl P ((exG g p q, lo, hi, le)) tl)) rfl hq (by decide) rfl) ?_
  refine wp_run rfl ?_
  exact wp_retv rfl ⟨rfl, rfl⟩
/-- the search's numbers -/
def gOf (g : Nat → Int32) (s : axBS) : axGD := (g, nI s.1, nI s.2.1, nI s.2.2)
theorem x3_tryOne (hO : aOk A) (hC : CR B A) (hg : ∀ i, i < aN A → g i = nI (aR A i)) {p q : Nat} (hpq : p < q) (hq : q < aN A) (hm : aMay A p q) {s : axBS} (hs : s.2.2 ≤ 70000) : axEv ro (d + 4) kX3_tryOne [.ref 13, .ref 1, .int (nI p), .int (nI q)] ((hX B Y sl P (gOf g s) tl)) none ((hX B Y sl P (gOf g (aBst A p q s)) tl)) := by
  have hn := hO.n
  have hp : p < aN A := by omega
  have hall := aSwp_all hO hp hq
  have hex : ∀ i, i < aN A → exG g p q i = nI (aR (aSwp A p q) i) := fun i hi => by
    show upd (upd g p (g q)) q (g p) i = nI (if i = p then aR A q else if i = q then aR A p else aR A i)
    rw [upd_up, upd_up]
    by_cases e : i = q
    · rw [if_pos e, if_neg (by omega), if_pos e, hg p hp]
    · rw [if_neg e, if_neg e]
      by_cases e2 : i = p
      · rw [if_pos e2, if_pos e2, hg q hq]
      · rw [if_neg e2, if_neg e2, hg i hi]
  have hts : ∀ i, i < aN A → bt (bTn B) (aR (aSwp A p q) i) = aT (aSwp A p q) (aR (aSwp A p q) i) := fun i hi => by
    obtain ⟨j, hj, e⟩ := aSwp_is hp hq hi
    rw [e]; exact cr_tnr hC hj
  have hoff := x0_offOfRow (ro := ro) (d := d) (Y := Y) (sl := sl) (P := P) (G := (exG g p q, nI s.1, nI s.2.1, nI s.2.2)) (tl := tl) (A' := aSwp A p q) (rr := 14) (ord := exG g p q) (ts := bTn B) hO hC rfl rfl rfl rfl (fun i hi => aSwp_is hp hq hi) hex hts
  refine ev_in rfl rfl (Nat.le_of_ble_eq_true rfl) rfl ?_
  refine wp_run rfl ?_
  refine wp_v2v rfl rfl (Nat.le_of_ble_eq_true rfl) (x3_exchange (by omega) (by omega)) ?_
  refine wp_run rfl ?_
  refine wp_v0 rfl rfl (Nat.le_of_ble_eq_true rfl) (x0_allTurns) ?_
  refine wp_run rfl ?_
  refine wp_v2 rfl rfl (Nat.le_of_ble_eq_true rfl) (hoff) ?_
  refine wp_run rfl ?_
  refine wp_v2v rfl rfl (Nat.le_of_ble_eq_true rfl) (x3_exchange (by omega) (by omega)) ?_
  refine wp_run rfl ?_
  rw [exG_exG g (by omega)]
  by_cases e : aAll (aSwp A p q) < s.2.2
  · have hb : aBst A p q s = (p, q, aAll (aSwp A p q)) := by unfold aBst; rw [if_pos ⟨hm, e⟩]
    rw [hb]
    refine wp_icge rfl (fun hz_ => absurd hz_ (nI_ge e (by omega))) (fun _ => ?_)
    refine wp_run rfl ?_
    refine wp_putf (h1 := (hX B Y sl P ((g, nI s.1, nI s.2.1, nI (aAll (aSwp A p q)))) tl)) rfl rfl (Nat.le_of_ble_eq_true rfl) ⟨rfl, rfl, fun _ hz_ => by cases hz_⟩ rfl ?_
    refine wp_run rfl ?_
    refine wp_putf (h1 := (hX B Y sl P ((g, nI p, nI s.2.1, nI (aAll (aSwp A p q)))) tl)) rfl rfl (Nat.le_of_ble_eq_true rfl) ⟨rfl, rfl, fun _ hz_ => by cases hz_⟩ rfl ?_
    refine wp_run rfl ?_
    refine wp_putf (h1 := (hX B Y sl P ((g, nI p, nI q, nI (aAll (aSwp A p q)))) tl)) rfl rfl (Nat.le_of_ble_eq_true rfl) ⟨rfl, rfl, fun _ hz_ => by cases hz_⟩ rfl ?_
    refine wp_run rfl ?_
    exact wp_retv rfl ⟨rfl, rfl⟩
  · have hb : aBst A p q s = s := by unfold aBst; rw [if_neg (fun z => e z.2)]
    rw [hb]
    refine wp_icge rfl (fun _ => ?_) (fun hz_ => absurd (nI_le (show s.2.2 ≤ aAll (aSwp A p q) by omega) (by omega)) hz_)
    refine wp_run rfl ?_
    exact wp_retv rfl ⟨rfl, rfl⟩
theorem aBr_le {A : axAD} {p : Nat} {s : axBS} (hs : s.2.2 ≤ 70000) : ∀ m, (aBr A p m s).2.2 ≤ 70000
  | 0 => hs
  | m + 1 => by
    rw [aBr]; split
    · exact aBst_le (aBr_le hs m)
    · exact aBr_le hs m
theorem aBS_le {A : axAD} (hO : aOk A) : ∀ p, (aBS A p).2.2 ≤ 70000
  | 0 => aAll_lt hO
  | p + 1 => aBr_le (aBS_le hO p) _
theorem x3_tryAllBehind (hO : aOk A) (hC : CR B A) (hg : ∀ i, i < aN A → g i = nI (aR A i)) {p : Nat} (hp : p < aN A) {s : axBS} (hs : s.2.2 ≤ 70000) : axEv ro (d + 5) kX3_tryAllBehind [.ref 13, .ref 1, .int (nI p)] ((hX B Y sl P (gOf g s) tl)) none ((hX B Y sl P (gOf g (aBr A p (aN A) s)) tl)) := by
  have hn := hO.n
  have hgt := aHi_gt hO hp
  have hle := aHi_le A p
  rw [aBr_hi A s (aN A) hle]
  have loop : ∀ m q, q + m = aHi A p → p < q → axW ro (axEv ro (d + 4)) cdX3_tryAllBehind 18 [some (.ref 13), some (.ref 1), some (.int (nI p)), some (.int (nI (aHi A p - 1))), some (.int (nI q))] [.int (nI (aHi A p - 1)), .int (nI q)] ((hX B Y sl P (gOf g (aBr A p q s)) tl)) (fun r' h' => r' = none ∧ h' = ((hX B Y sl P (gOf g (aBr A p (aHi A p) s)) tl))) := by
    intro m
    induction m with
    | zero =>
      intro q e _
      have e : q = aHi A p := by omega
      refine wp_icgt rfl (fun _ => ?_) (fun hz_ => absurd (nI_lt (show aHi A p - 1 < q by omega) (by omega)) hz_)
      refine wp_run rfl ?_
      rw [e]
      exact wp_retv rfl ⟨rfl, rfl⟩
    | succ m ih =>
      intro q e hpq
      have hq : q < aN A := by omega
      have ih := ih (q + 1) (by omega) (by omega)
      rw [aBr, if_pos hpq] at ih
      refine wp_icgt rfl (fun hz_ => absurd hz_ (nI_nlt (show q ≤ aHi A p - 1 by omega) (by omega))) (fun _ => ?_)
      refine wp_run rfl ?_
      refine wp_v1 rfl rfl (Nat.le_of_ble_eq_true rfl) (x0_slugIn_in hO hC hq) ?_
      refine wp_run rfl ?_
      refine wp_v1 rfl rfl (Nat.le_of_ble_eq_true rfl) (x0_lowestPlace hO hC hq) ?_
      refine wp_run rfl ?_
      by_cases e2 : aLo A q ≤ p
      · have hm : aMay A p q := ⟨⟨by have := aLo_le hO hp; omega, by omega⟩, e2, by have := aHi_gt hO hq; omega⟩
        refine wp_icgt rfl (fun hz_ => absurd hz_ (nI_nlt e2 (by omega))) (fun _ => ?_)
        refine wp_run rfl ?_
        refine wp_v3v rfl rfl (Nat.le_of_ble_eq_true rfl) (x3_tryOne hO hC hg hpq hq hm (aBr_le hs q)) ?_
        refine wp_run rfl ?_
        rw [nI_1]
        exact ih
      · rw [show aBst A p q (aBr A p q s) = aBr A p q s by unfold aBst; rw [if_neg (fun z => e2 z.1.2.1)]] at ih
        have := aLo_le hO hq
        refine wp_icgt rfl (fun _ => ?_) (fun hz_ => absurd (nI_lt (show p < aLo A q by omega) (by omega)) hz_)
        refine wp_run rfl ?_
        rw [nI_1]
        exact ih
  have h0 := loop (aHi A p - (p + 1)) (p + 1) (by omega) (by omega)
  rw [aBr_lo A s (p + 1) (Nat.le_refl _)] at h0
  refine ev_in rfl rfl (Nat.le_of_ble_eq_true rfl) rfl ?_
  refine wp_run rfl ?_
  refine wp_v1 rfl rfl (Nat.le_of_ble_eq_true rfl) (x0_slugIn_in hO hC hp) ?_
  refine wp_run rfl ?_
  refine wp_v1 rfl rfl (Nat.le_of_ble_eq_true rfl) (x0_highestPlace hO hC hp) ?_
  refine wp_run rfl ?_
  rw [nI_1]
  exact h0
theorem x3_run (hO : aOk A) (hC : CR B A) : ∃ g', axEv ro (d + 6) kX3_run [.ref 13, .ref 1] (hX B Y sl P G tl) none ((hX B Y sl P (gOf g' (aBS A (aN A))) tl)) := by
  have hn := hO.n
  have loop2 : ∀ g : Nat → Int32, (∀ i, i < aN A → g i = nI (aR A i)) → ∀ m p, p + m = aN A → axW ro (axEv ro (d + 5)) cdX3_run 53 [some (.ref 13), some (.ref 1), some (.int (nI (aN A))), some (.int (nI p))] [.int (nI (aN A)), .int (nI p)] ((hX B Y sl P (gOf g (aBS A p)) tl)) (fun r' h' => r' = none ∧ h' = ((hX B Y sl P (gOf g (aBS A (aN A))) tl))) := by
    intro g hg m
    induction m with
    | zero =>
      intro p e
      have e : p = aN A := by omega
      refine wp_icge rfl (fun _ => ?_) (fun hz_ => absurd (nI_le (show aN A ≤ p by omega) (by omega)) hz_)
      refine wp_run rfl ?_
      rw [e]
      exact wp_retv rfl ⟨rfl, rfl⟩
    | succ m ih =>
      intro p e
      refine wp_icge rfl (fun hz_ => absurd hz_ (nI_ge (show p < aN A by omega) (by omega))) (fun _ => ?_)
      refine wp_run rfl ?_
      refine wp_v2v rfl rfl (Nat.le_of_ble_eq_true rfl) (x3_tryAllBehind hO hC hg (by omega) (aBS_le hO p)) ?_
      refine wp_run rfl ?_
      rw [nI_1]
      exact ih (p + 1) (by omega)
  have loop1 : ∀ m p, p + m = aN A → ∀ g : Nat → Int32, (∀ i, i < p → g i = nI (aR A i)) → ∃ g', axW ro (axEv ro (d + 5)) cdX3_run 27 [some (.ref 13), some (.ref 1), some (.int (nI (aN A))), some (.int (nI p))] [.int (nI (aN A)), .int (nI p)] ((hX B Y sl P (gOf g (aBS A 0)) tl)) (fun r' h' => r' = none ∧ h' = ((hX B Y sl P (gOf g' (aBS A (aN A))) tl))) := by
    intro m
    induction m with
    | zero =>
      intro p e g hg
      have e : p = aN A := by omega
      refine ⟨g, ?_⟩
      refine wp_icge rfl (fun _ => ?_) (fun hz_ => absurd (nI_le (show aN A ≤ p by omega) (by omega)) hz_)
      refine wp_run rfl ?_
      exact loop2 g (fun i hi => hg i (by omega)) (aN A) 0 (by omega)
    | succ m ih =>
      intro p e g hg
      obtain ⟨g', ih⟩ := ih (p + 1) (by omega) (upd g p (nI (aR A p))) (fun i hi => by
        rw [upd_up]
        by_cases e : i = p
        · rw [if_pos e, e]
        · rw [if_neg e]; exact hg i (by omega))
      refine ⟨g', ?_⟩
      refine wp_icge rfl (fun hz_ => absurd hz_ (nI_ge (show p < aN A by omega) (by omega))) (fun _ => ?_)
      refine wp_run rfl ?_
      refine wp_v1 rfl rfl (Nat.le_of_ble_eq_true rfl) (x0_slugIn_in hO hC (show p < aN A by omega)) ?_
      refine wp_run rfl ?_
      refine wp_s3v rfl (Nat.le_of_ble_eq_true rfl) (x4_store (h1 := (hX B Y sl P (gOf (upd g p (nI (aR A p))) (aBS A 0)) tl)) rfl (show p < 24 by omega) (by decide) rfl) ?_
      refine wp_run rfl ?_
      rw [nI_1]
      exact ih
  obtain ⟨g', hw⟩ := loop1 (aN A) 0 (by omega) G.1 (fun i hi => absurd hi (by omega))
  refine ⟨g', ?_⟩
  refine ev_in rfl rfl (Nat.le_of_ble_eq_true rfl) rfl ?_
  refine wp_run rfl ?_
  refine wp_putf (h1 := (hX B Y sl P ((G.1, 0, G.2.2.1, G.2.2.2)) tl)) rfl rfl (Nat.le_of_ble_eq_true rfl) ⟨rfl, rfl, fun _ hz_ => by cases hz_⟩ rfl ?_
  refine wp_run rfl ?_
  refine wp_putf (h1 := (hX B Y sl P ((G.1, 0, 0, G.2.2.2)) tl)) rfl rfl (Nat.le_of_ble_eq_true rfl) ⟨rfl, rfl, fun _ hz_ => by cases hz_⟩ rfl ?_
  refine wp_run rfl ?_
  refine wp_v0 rfl rfl (Nat.le_of_ble_eq_true rfl) (x0_offTogether hO hC) ?_
  refine wp_run rfl ?_
  refine wp_putf (h1 := (hX B Y sl P (gOf G.1 (aBS A 0)) tl)) rfl rfl (Nat.le_of_ble_eq_true rfl) ⟨rfl, rfl, fun _ hz_ => by cases hz_⟩ rfl ?_
  refine wp_run rfl ?_
  refine wp_v0 rfl rfl (Nat.le_of_ble_eq_true rfl) (x0_size hC) ?_
  refine wp_run rfl ?_
  exact hw
end AX32
