/-! THE CLASS: changes of the board (4): drop, move, swap. -/
/-- the sets without one slug, of the first q -/
def clF (f : Nat → Int32) (k q : Nat) : Nat → Int32 := fun i => if i < q then f i &&& (bi k ^^^ (-1)) else f i
theorem clF_s (f : Nat → Int32) (k q : Nat) : upd (clF f k q) q (f q &&& (bi k ^^^ (-1))) = clF f k (q + 1) := by
  funext i
  rw [upd_up]
  unfold clF
  by_cases e : i = q
  · subst e
    rw [if_pos rfl, if_pos (by omega)]
  · rw [if_neg e]
    by_cases e2 : i < q
    · rw [if_pos e2, if_pos (by omega)]
    · rw [if_neg e2, if_neg (by omega)]
def bDrop (B : axBD) (n p k : Nat) : axBD := (bSt B, bTg B, tkF (bRw B) p n, bWr B, bBt B, clF (bNd B) k 24, bSg B &&& (bi k ^^^ (-1)), bTn B &&& (bi k ^^^ (-1)), nI (n - 1))
section AX25
variable {ro : axRo} {d : Nat} {h h1 : axH} {B : axBD} {Y : axYD} {sl : Nat → Option Nat} {P : axPD} {G : axGD} {tl : axH} {A : axAD}
theorem cr_row (hC : CR B A) {r : Nat → Nat} {f : Nat → Int32} (hf : ∀ i, i < aN A → f i = nI (r i)) (h1 : ∀ i, i < aN A → ∃ j, j < aN A ∧ r i = aR A j) (h2 : ∀ j, j < aN A → ∃ i, i < aN A ∧ r i = aR A j) : CR (bRw_ B f) (aRow A r) := by
  obtain ⟨c1, c2, c3, c4, c5, c6, c9⟩ := hC
  have hin : ∀ k, aIn (aRow A r) k ↔ aIn A k := by
    intro k
    constructor
    · rintro ⟨i, hi, e⟩
      obtain ⟨j, hj, e2⟩ := h1 i hi
      exact ⟨j, hj, e2.symm.trans e⟩
    · rintro ⟨j, hj, e⟩
      obtain ⟨i, hi, e2⟩ := h2 j hj
      exact ⟨i, hi, e2.trans e⟩
  refine ⟨c1, hf, fun i hi => ?_, fun k => (c4 k).trans (hin k).symm, fun k => ?_, c6, c9⟩
  · obtain ⟨j, hj, e⟩ := h1 i hi
    have key : ∀ z, r i = z → bWr B z = nI (aW A z) ∧ bBt B z = nI (aB A z) ∧ bNd B z = aD A z := fun z hz => by rw [← hz, e]; exact c3 j hj
    exact key _ rfl
  · rw [hin k]; exact c5 k
theorem aMove_is (hn : 0 < aN A) {p q i : Nat} (hp : p < aN A) (hq : q < aN A) (hi : i < aN A) : ∃ j, j < aN A ∧ aIns (aDel (aR A) p) q (aR A p) i = aR A j := by
  rcases aIns_is (aDel (aR A) p) (k := aR A p) (n := aN A - 1) (p := q) (i := i) (by omega) (by omega) with ⟨-, e⟩ | ⟨j, hj, e⟩
  · exact ⟨p, hp, e⟩
  · obtain ⟨j2, h1, -, h2⟩ := aDel_is (aR A) hj hp
    exact ⟨j2, h1, e.trans h2⟩
theorem aMove_has (hn : 0 < aN A) {p q j : Nat} (hp : p < aN A) (hq : q < aN A) (hj : j < aN A) : ∃ i, i < aN A ∧ aIns (aDel (aR A) p) q (aR A p) i = aR A j := by
  by_cases e : j = p
  · exact ⟨q, hq, by rw [aIns_at, e]⟩
  · obtain ⟨i, hi, e2⟩ := aDel_has (aR A) hj e hp
    obtain ⟨i2, h1, -, h2⟩ := aIns_has (aDel (aR A) p) (p := q) (k := aR A p) hi (by omega)
    exact ⟨i2, by omega, h2.trans e2⟩
theorem cr_move (hC : CR B A) {p q : Nat} (hp : p < aN A) (hq : q < aN A) : CR (bRw_ B (upd (pnF (tkF (bRw B) p (aN A)) q (aN A - 1)) q (nI (aR A p)))) (aMove A p q) :=
  cr_row hC (fun i hi => pn_row (fun i hi => tk_row (fun i hi => cr_rw hC hi) hi) (by omega) (by omega)) (fun i hi => aMove_is (by omega) hp hq hi) (fun j hj => aMove_has (by omega) hp hq hj)
theorem cr_swp (hC : CR B A) {p q : Nat} (hp : p < aN A) (hq : q < aN A) : CR (bRw_ B (upd (upd (bRw B) p (nI (aR A q))) q (nI (aR A p)))) (aSwp A p q) := by
  refine cr_row hC (fun i hi => ?_) (fun i hi => ?_) (fun j hj => ?_)
  · rw [upd_up, upd_up]
    by_cases e : i = q
    · rw [if_pos e]
      by_cases e2 : i = p
      · rw [if_pos e2, ← e2, e]
      · rw [if_neg e2, if_pos e]
    · rw [if_neg e]
      by_cases e2 : i = p
      · rw [if_pos e2, if_pos e2]
      · rw [if_neg e2, if_neg e2, if_neg e, cr_rw hC hi]
  · show ∃ j, j < aN A ∧ (if i = p then aR A q else if i = q then aR A p else aR A i) = aR A j
    by_cases e2 : i = p
    · exact ⟨q, hq, by rw [if_pos e2]⟩
    · by_cases e : i = q
      · exact ⟨p, hp, by rw [if_neg e2, if_pos e]⟩
      · exact ⟨i, hi, by rw [if_neg e2, if_neg e]⟩
  · show ∃ i, i < aN A ∧ (if i = p then aR A q else if i = q then aR A p else aR A i) = aR A j
    by_cases e2 : j = p
    · exact ⟨q, hq, by
        by_cases e : q = p
        · rw [if_pos e, e2, e]
        · rw [if_neg e, if_pos rfl, e2]⟩
    · by_cases e : j = q
      · exact ⟨p, hp, by rw [if_pos rfl, e]⟩
      · exact ⟨j, hj, by rw [if_neg e2, if_neg e]⟩
theorem cr_drop (hO : aOk A) (hC : CR B A) {p : Nat} (hp : p < aN A) : CR (bDrop B (aN A) p (aR A p)) (aDrop A p) := by
  have hk := hO.r hp
  have inj : ∀ j, j < aN A → j ≠ p → aR A j ≠ aR A p := fun j hj hne e => hne (hO.inj hj hp e)
  have hrow : ∀ {i : Nat}, i < aN A → aR A i < 24 := fun h => hO.r h
  obtain ⟨c1, c2, c3, c4, c5, c6, c9⟩ := hC
  have hin : ∀ k, aIn (aDrop A p) k ↔ (aIn A k ∧ k ≠ aR A p) := by
    intro k
    constructor
    · rintro ⟨i, hi, e⟩
      obtain ⟨j, hj, hjp, e2⟩ := aDel_is (aR A) hi hp
      have e3 : aR A j = k := e2.symm.trans e
      exact ⟨⟨j, hj, e3⟩, by rw [← e3]; exact inj j hj hjp⟩
    · rintro ⟨⟨j, hj, e⟩, hne⟩
      obtain ⟨i, hi, e2⟩ := aDel_has (aR A) hj (fun z => hne (by rw [← e, z])) hp
      exact ⟨i, hi, e2.trans e⟩
  refine ⟨rfl, fun i hi => tk_row c2 hi, fun i hi => ?_, fun k => ?_, fun k => ?_, c6, c9⟩
  · obtain ⟨j, hj, hjp, e2⟩ := aDel_is (aR A) hi hp
    have key : ∀ z, aDel (aR A) p i = z → bWr B z = nI (aW A z) ∧ bBt B z = nI (aB A z) ∧ clF (bNd B) (aR A p) 24 z = aD A z &&& (bi (aR A p) ^^^ (-1)) := by
      intro z hz
      rw [← hz, e2]
      refine ⟨(c3 j hj).1, (c3 j hj).2.1, ?_⟩
      unfold clF
      rw [if_pos (hrow hj), (c3 j hj).2.2]
    exact key _ rfl
  · rw [hin k, ← c4 k]
    show bt (bSg B &&& (bi (aR A p) ^^^ (-1))) k = true ↔ _
    rw [bt_clr (by omega)]
    by_cases e : k = aR A p <;> simp [e]
  · rw [hin k]
    show bt (bTn B &&& (bi (aR A p) ^^^ (-1))) k = true ↔ (_ ∧ aT A k = true)
    rw [bt_clr (by omega), Bool.and_eq_true, c5 k]
    by_cases e : k = aR A p <;> simp [e]
theorem x0_dropSlug_out (hC : CR B A) {x : Int32} (hx : ∀ i, i < aN A → x ≠ nI (aR A i)) : axEv ro (d + 3) kX0_dropSlug [.ref 1, .int x] (hX B Y sl P G tl) (some (.int (-1))) (hX B Y sl P G tl) := by
  refine ev_in rfl rfl (Nat.le_of_ble_eq_true rfl) rfl ?_
  refine wp_run rfl ?_
  refine wp_v1 rfl rfl (Nat.le_of_ble_eq_true rfl) (x0_has_out hC hx) ?_
  refine wp_run rfl ?_
  refine wp_ifne rfl (fun hz_ => absurd hz_ (fun z => z rfl)) (fun _ => ?_)
  refine wp_run rfl ?_
  exact wp_ret rfl rfl ⟨rfl, rfl⟩
theorem x0_dropSlug_in (hO : aOk A) (hC : CR B A) {p : Nat} (hp : p < aN A) : axEv ro (d + 3) kX0_dropSlug [.ref 1, .int (nI (aR A p))] (hX B Y sl P G tl) (some (.int (nI (aN A - 1)))) (hX (bDrop B (aN A) p (aR A p)) Y sl P G tl) := by
  have hn := hO.n
  have hk := hO.r hp
  have hz := cr_sz hC
  have hhas := x0_has_in (ro := ro) (d := d) (Y := Y) (sl := sl) (P := P) (G := G) (tl := tl) hO hC hp
  have hpl := x0_placeOf (ro := ro) (d := d) (Y := Y) (sl := sl) (P := P) (G := G) (tl := tl) hO hC hp
  generalize aR A p = k at *
  have loop : ∀ m q, q + m = 24 → axW ro (axEv ro (d + 2)) cdX0_dropSlug 57 [some (.ref 1), some (.int (nI k)), some (.int (nI q))] [.int 24, .int (nI q)] (hX ((bSt B, bTg B, tkF (bRw B) p (aN A), bWr B, bBt B, clF (bNd B) k q, bSg B &&& (bi k ^^^ (-1)), bTn B &&& (bi k ^^^ (-1)), nI (aN A - 1))) Y sl P G tl) (fun r' h' => r' = some (.int (nI (aN A - 1))) ∧ h' = hX (bDrop B (aN A) p k) Y sl P G tl) := by
    intro m
    induction m with
    | zero =>
      intro q e
      have e : q = 24 := by omega
      subst e
      refine wp_icge rfl (fun _ => ?_) (fun hz_ => absurd ((by decide : (24 : Int32) ≤ nI 24)) hz_)
      refine wp_run rfl ?_
      exact wp_ret rfl rfl ⟨rfl, rfl⟩
    | succ m ih =>
      intro q e
      refine wp_icge rfl (fun hz_ => absurd hz_ (nlt24 (show q < 24 by omega))) (fun _ => ?_)
      refine wp_run rfl ?_
      refine wp_ald rfl rfl (vp_in_nI ((show q < 24 by omega)) (by decide)) (by rw [nI_clamp (by omega)]) ?_
      refine wp_run rfl ?_
      rw [show bNd (bSt B, bTg B, tkF (bRw B) p (aN A), bWr B, bBt B, clF (bNd B) k q, bSg B &&& (bi k ^^^ (-1)), bTn B &&& (bi k ^^^ (-1)), nI (aN A - 1)) q = bNd B q from if_neg (by omega)]
      refine wp_s1 rfl (Nat.le_of_ble_eq_true rfl) (x4_bit hk) ?_
      refine wp_run rfl ?_
      refine wp_ast (h1 := hX ((bSt B, bTg B, tkF (bRw B) p (aN A), bWr B, bBt B, upd (clF (bNd B) k q) q (bNd B q &&& (bi k ^^^ (-1))), bSg B &&& (bi k ^^^ (-1)), bTn B &&& (bi k ^^^ (-1)), nI (aN A - 1))) Y sl P G tl) rfl rfl (vp_in_nI (show q < 24 by omega) (by decide)) rfl (by rw [nI_clamp (by omega)]; rfl) ?_
      refine wp_run rfl ?_
      rw [clF_s, nI_1]
      exact ih (q + 1) (by omega)
  refine ev_in rfl rfl (Nat.le_of_ble_eq_true rfl) rfl ?_
  refine wp_run rfl ?_
  refine wp_v1 rfl rfl (Nat.le_of_ble_eq_true rfl) (hhas) ?_
  refine wp_run rfl ?_
  refine wp_ifne rfl (fun _ => ?_) (fun hz_ => absurd ((by decide : ¬ (1 : Int32) = 0)) hz_)
  refine wp_run rfl ?_
  refine wp_v1 rfl rfl (Nat.le_of_ble_eq_true rfl) (hpl) ?_
  refine wp_run rfl ?_
  refine wp_v1v rfl rfl (Nat.le_of_ble_eq_true rfl) (x0_takeOut hz hn hp) ?_
  refine wp_run rfl ?_
  refine wp_s1 rfl (Nat.le_of_ble_eq_true rfl) (x4_bit hk) ?_
  refine wp_run rfl ?_
  refine wp_putf (h1 := hX ((bSt B, bTg B, tkF (bRw B) p (aN A), bWr B, bBt B, bNd B, bSg B &&& (bi k ^^^ (-1)), bTn B, nI (aN A - 1))) Y sl P G tl) rfl rfl (Nat.le_of_ble_eq_true rfl) ⟨rfl, rfl, fun _ hz_ => by cases hz_⟩ rfl ?_
  refine wp_run rfl ?_
  refine wp_s1 rfl (Nat.le_of_ble_eq_true rfl) (x4_bit hk) ?_
  refine wp_run rfl ?_
  refine wp_putf (h1 := hX ((bSt B, bTg B, tkF (bRw B) p (aN A), bWr B, bBt B, bNd B, bSg B &&& (bi k ^^^ (-1)), bTn B &&& (bi k ^^^ (-1)), nI (aN A - 1))) Y sl P G tl) rfl rfl (Nat.le_of_ble_eq_true rfl) ⟨rfl, rfl, fun _ hz_ => by cases hz_⟩ rfl ?_
  refine wp_run rfl ?_
  have := loop 24 0 (by omega)
  rw [show clF (bNd B) k 0 = bNd B from rfl] at this
  exact this
theorem x0_moveSlug_ns1 (hC : CR B A) {x y : Int32} (hx : ∀ i, i < aN A → x ≠ nI (aR A i)) : axEv ro (d + 5) kX0_moveSlug [.ref 1, .int x, .int y] (hX B Y sl P G tl) (some (.int (-1))) (hX B Y sl P G tl) := by
  refine ev_in rfl rfl (Nat.le_of_ble_eq_true rfl) rfl ?_
  refine wp_run rfl ?_
  refine wp_v1 rfl rfl (Nat.le_of_ble_eq_true rfl) (x0_has_out hC hx) ?_
  refine wp_run rfl ?_
  refine wp_ifeq rfl (fun _ => ?_) (fun hz_ => absurd (rfl) hz_)
  refine wp_run rfl ?_
  exact wp_ret rfl rfl ⟨rfl, rfl⟩
theorem x0_moveSlug_ns2 (hO : aOk A) (hC : CR B A) {p : Nat} (hp : p < aN A) {y : Int32} (hy : y < 0 ∨ nI (aN A) ≤ y) : axEv ro (d + 5) kX0_moveSlug [.ref 1, .int (nI (aR A p)), .int y] (hX B Y sl P G tl) (some (.int (-1))) (hX B Y sl P G tl) := by
  refine ev_in rfl rfl (Nat.le_of_ble_eq_true rfl) rfl ?_
  refine wp_run rfl ?_
  refine wp_v1 rfl rfl (Nat.le_of_ble_eq_true rfl) (x0_has_in hO hC hp) ?_
  refine wp_run rfl ?_
  refine wp_ifeq rfl (fun hz_ => absurd hz_ ((by decide : ¬ (1 : Int32) = 0))) (fun _ => ?_)
  refine wp_run rfl ?_
  refine wp_iflt rfl (fun q => ?_) (fun q => ?_)
  · refine wp_run rfl ?_
    exact wp_ret rfl rfl ⟨rfl, rfl⟩
  · refine wp_run rfl ?_
    rw [cr_sz hC]
    refine wp_iclt rfl (fun hz_ => absurd hz_ (fun z => hy.elim q (fun w => absurd w (Int32.not_le.mpr z)))) (fun _ => ?_)
    refine wp_run rfl ?_
    exact wp_ret rfl rfl ⟨rfl, rfl⟩
theorem x0_moveSlug_np (hO : aOk A) (hC : CR B A) {p q : Nat} (hp : p < aN A) (hq : q < aN A) (hm : ¬ (aLo A p ≤ q ∧ q < aHi A p)) : axEv ro (d + 5) kX0_moveSlug [.ref 1, .int (nI (aR A p)), .int (nI q)] (hX B Y sl P G tl) (some (.int (-5))) (hX B Y sl P G tl) := by
  have hn := hO.n
  refine ev_in rfl rfl (Nat.le_of_ble_eq_true rfl) rfl ?_
  refine wp_run rfl ?_
  refine wp_v1 rfl rfl (Nat.le_of_ble_eq_true rfl) (x0_has_in hO hC hp) ?_
  refine wp_run rfl ?_
  refine wp_ifeq rfl (fun hz_ => absurd hz_ ((by decide : ¬ (1 : Int32) = 0))) (fun _ => ?_)
  refine wp_run rfl ?_
  refine wp_iflt rfl (fun hz_ => absurd hz_ (nI_pos (by omega))) (fun _ => ?_)
  refine wp_run rfl ?_
  rw [cr_sz hC]
  refine wp_iclt rfl (fun _ => ?_) (fun hz_ => absurd (nI_lt hq (by omega)) hz_)
  refine wp_run rfl ?_
  refine wp_v2 rfl rfl (Nat.le_of_ble_eq_true rfl) (x0_mayStandIn hO hC hp hq) ?_
  refine wp_run rfl ?_
  rw [if_neg hm]
  refine wp_ifne rfl (fun hz_ => absurd hz_ (fun z => z rfl)) (fun _ => ?_)
  refine wp_run rfl ?_
  exact wp_ret rfl rfl ⟨rfl, rfl⟩
theorem x0_moveSlug_ok (hO : aOk A) (hC : CR B A) {p q : Nat} (hp : p < aN A) (hq : q < aN A) (hm : aLo A p ≤ q ∧ q < aHi A p) : axEv ro (d + 5) kX0_moveSlug [.ref 1, .int (nI (aR A p)), .int (nI q)] (hX B Y sl P G tl) (some (.int (nI p))) (hX (bSz_ (bRw_ B (upd (pnF (tkF (bRw B) p (aN A)) q (aN A - 1)) q (nI (aR A p)))) (nI (aN A - 1 + 1))) Y sl P G tl) := by
  have hn := hO.n
  have hz := cr_sz hC
  refine ev_in rfl rfl (Nat.le_of_ble_eq_true rfl) rfl ?_
  refine wp_run rfl ?_
  refine wp_v1 rfl rfl (Nat.le_of_ble_eq_true rfl) (x0_has_in hO hC hp) ?_
  refine wp_run rfl ?_
  refine wp_ifeq rfl (fun hz_ => absurd hz_ ((by decide : ¬ (1 : Int32) = 0))) (fun _ => ?_)
  refine wp_run rfl ?_
  refine wp_iflt rfl (fun hz_ => absurd hz_ (nI_pos (by omega))) (fun _ => ?_)
  refine wp_run rfl ?_
  rw [cr_sz hC]
  refine wp_iclt rfl (fun _ => ?_) (fun hz_ => absurd (nI_lt hq (by omega)) hz_)
  refine wp_run rfl ?_
  refine wp_v2 rfl rfl (Nat.le_of_ble_eq_true rfl) (x0_mayStandIn hO hC hp hq) ?_
  refine wp_run rfl ?_
  rw [if_pos hm]
  refine wp_ifne rfl (fun _ => ?_) (fun hz_ => absurd ((by decide : ¬ (1 : Int32) = 0)) hz_)
  refine wp_run rfl ?_
  refine wp_v1 rfl rfl (Nat.le_of_ble_eq_true rfl) (x0_placeOf hO hC hp) ?_
  refine wp_run rfl ?_
  refine wp_v1v rfl rfl (Nat.le_of_ble_eq_true rfl) (x0_takeOut hz hn hp) ?_
  refine wp_run rfl ?_
  refine wp_v2v rfl rfl (Nat.le_of_ble_eq_true rfl) (x0_putIn (n := aN A - 1) (B := bSz_ (bRw_ B (tkF (bRw B) p (aN A))) (nI (aN A - 1))) rfl (by omega) (by omega)) ?_
  refine wp_run rfl ?_
  exact wp_ret rfl rfl ⟨rfl, rfl⟩
theorem cr_szs (hC : CR B A) {f : Nat → Int32} {A' : axAD} (hn : 0 < aN A) (h : CR (bRw_ B f) A') : CR (bSz_ (bRw_ B f) (nI (aN A - 1 + 1))) A' := by
  rw [show aN A - 1 + 1 = aN A by omega, ← cr_sz hC]
  exact h
theorem x0_swapSlugs_ns1 (hC : CR B A) {x y : Int32} (hx : ∀ i, i < aN A → x ≠ nI (aR A i)) : axEv ro (d + 5) kX0_swapSlugs [.ref 1, .int x, .int y] (hX B Y sl P G tl) (some (.int (-1))) (hX B Y sl P G tl) := by
  refine ev_in rfl rfl (Nat.le_of_ble_eq_true rfl) rfl ?_
  refine wp_run rfl ?_
  refine wp_v1 rfl rfl (Nat.le_of_ble_eq_true rfl) (x0_has_out hC hx) ?_
  refine wp_run rfl ?_
  refine wp_ifeq rfl (fun _ => ?_) (fun hz_ => absurd (rfl) hz_)
  refine wp_run rfl ?_
  exact wp_ret rfl rfl ⟨rfl, rfl⟩
theorem x0_swapSlugs_ns2 (hO : aOk A) (hC : CR B A) {p : Nat} (hp : p < aN A) {y : Int32} (hy : ∀ i, i < aN A → y ≠ nI (aR A i)) : axEv ro (d + 5) kX0_swapSlugs [.ref 1, .int (nI (aR A p)), .int y] (hX B Y sl P G tl) (some (.int (-1))) (hX B Y sl P G tl) := by
  refine ev_in rfl rfl (Nat.le_of_ble_eq_true rfl) rfl ?_
  refine wp_run rfl ?_
  refine wp_v1 rfl rfl (Nat.le_of_ble_eq_true rfl) (x0_has_in hO hC hp) ?_
  refine wp_run rfl ?_
  refine wp_ifeq rfl (fun hz_ => absurd hz_ ((by decide : ¬ (1 : Int32) = 0))) (fun _ => ?_)
  refine wp_run rfl ?_
  refine wp_v1 rfl rfl (Nat.le_of_ble_eq_true rfl) (x0_has_out hC hy) ?_
  refine wp_run rfl ?_
  refine wp_ifne rfl (fun hz_ => absurd hz_ (fun z => z rfl)) (fun _ => ?_)
  refine wp_run rfl ?_
  exact wp_ret rfl rfl ⟨rfl, rfl⟩
theorem x0_swapSlugs_bv (hO : aOk A) (hC : CR B A) {p : Nat} (hp : p < aN A) : axEv ro (d + 5) kX0_swapSlugs [.ref 1, .int (nI (aR A p)), .int (nI (aR A p))] (hX B Y sl P G tl) (some (.int (-2))) (hX B Y sl P G tl) := by
  refine ev_in rfl rfl (Nat.le_of_ble_eq_true rfl) rfl ?_
  refine wp_run rfl ?_
  refine wp_v1 rfl rfl (Nat.le_of_ble_eq_true rfl) (x0_has_in hO hC hp) ?_
  refine wp_run rfl ?_
  refine wp_ifeq rfl (fun hz_ => absurd hz_ ((by decide : ¬ (1 : Int32) = 0))) (fun _ => ?_)
  refine wp_run rfl ?_
  refine wp_v1 rfl rfl (Nat.le_of_ble_eq_true rfl) (x0_has_in hO hC hp) ?_
  refine wp_run rfl ?_
  refine wp_ifne rfl (fun _ => ?_) (fun hz_ => absurd ((by decide : ¬ (1 : Int32) = 0)) hz_)
  refine wp_run rfl ?_
  refine wp_icne rfl (fun hz_ => absurd hz_ (fun z => z rfl)) (fun _ => ?_)
  refine wp_run rfl ?_
  exact wp_ret rfl rfl ⟨rfl, rfl⟩
/-- may two slugs be swapped -/
def aMay (A : axAD) (p q : Nat) : Prop := (aLo A p ≤ q ∧ q < aHi A p) ∧ (aLo A q ≤ p ∧ p < aHi A q)
theorem x0_swapSlugs_np (hO : aOk A) (hC : CR B A) {p q : Nat} (hp : p < aN A) (hq : q < aN A) (hpq : p ≠ q) (hm : ¬ aMay A p q) : axEv ro (d + 5) kX0_swapSlugs [.ref 1, .int (nI (aR A p)), .int (nI (aR A q))] (hX B Y sl P G tl) (some (.int (-5))) (hX B Y sl P G tl) := by
  refine ev_in rfl rfl (Nat.le_of_ble_eq_true rfl) rfl ?_
  refine wp_run rfl ?_
  refine wp_v1 rfl rfl (Nat.le_of_ble_eq_true rfl) (x0_has_in hO hC hp) ?_
  refine wp_run rfl ?_
  refine wp_ifeq rfl (fun hz_ => absurd hz_ ((by decide : ¬ (1 : Int32) = 0))) (fun _ => ?_)
  refine wp_run rfl ?_
  refine wp_v1 rfl rfl (Nat.le_of_ble_eq_true rfl) (x0_has_in hO hC hq) ?_
  refine wp_run rfl ?_
  refine wp_ifne rfl (fun _ => ?_) (fun hz_ => absurd ((by decide : ¬ (1 : Int32) = 0)) hz_)
  refine wp_run rfl ?_
  refine wp_icne rfl (fun _ => ?_) (fun hz_ => absurd (aR_ne hO hp hq hpq) hz_)
  refine wp_run rfl ?_
  refine wp_v1 rfl rfl (Nat.le_of_ble_eq_true rfl) (x0_placeOf hO hC hp) ?_
  refine wp_run rfl ?_
  refine wp_v1 rfl rfl (Nat.le_of_ble_eq_true rfl) (x0_placeOf hO hC hq) ?_
  refine wp_run rfl ?_
  refine wp_v2 rfl rfl (Nat.le_of_ble_eq_true rfl) (x0_mayStandIn hO hC hp hq) ?_
  refine wp_run rfl ?_
  by_cases h1 : aLo A p ≤ q ∧ q < aHi A p
  · rw [if_pos h1]
    refine wp_ifeq rfl (fun hz_ => absurd hz_ ((by decide : ¬ (1 : Int32) = 0))) (fun _ => ?_)
    refine wp_run rfl ?_
    refine wp_v2 rfl rfl (Nat.le_of_ble_eq_true rfl) (x0_mayStandIn hO hC hq hp) ?_
    refine wp_run rfl ?_
    rw [if_neg (fun z => hm ⟨h1, z⟩)]
    refine wp_ifne rfl (fun hz_ => absurd hz_ (fun z => z rfl)) (fun _ => ?_)
    refine wp_run rfl ?_
    exact wp_ret rfl rfl ⟨rfl, rfl⟩
  · rw [if_neg h1]
    refine wp_ifeq rfl (fun _ => ?_) (fun hz_ => absurd (rfl) hz_)
    refine wp_run rfl ?_
    exact wp_ret rfl rfl ⟨rfl, rfl⟩
theorem x0_swapSlugs_ok (hO : aOk A) (hC : CR B A) {p q : Nat} (hp : p < aN A) (hq : q < aN A) (hpq : p ≠ q) (hm : aMay A p q) : axEv ro (d + 5) kX0_swapSlugs [.ref 1, .int (nI (aR A p)), .int (nI (aR A q))] (hX B Y sl P G tl) (some (.int (nI (((p : Int) - q).natAbs - 1)))) (hX (bRw_ B (upd (upd (bRw B) p (nI (aR A q))) q (nI (aR A p)))) Y sl P G tl) := by
  have hn := hO.n
  refine ev_in rfl rfl (Nat.le_of_ble_eq_true rfl) rfl ?_
  refine wp_run rfl ?_
  refine wp_v1 rfl rfl (Nat.le_of_ble_eq_true rfl) (x0_has_in hO hC hp) ?_
  refine wp_run rfl ?_
  refine wp_ifeq rfl (fun hz_ => absurd hz_ ((by decide : ¬ (1 : Int32) = 0))) (fun _ => ?_)
  refine wp_run rfl ?_
  refine wp_v1 rfl rfl (Nat.le_of_ble_eq_true rfl) (x0_has_in hO hC hq) ?_
  refine wp_run rfl ?_
  refine wp_ifne rfl (fun _ => ?_) (fun hz_ => absurd ((by decide : ¬ (1 : Int32) = 0)) hz_)
  refine wp_run rfl ?_
  refine wp_icne rfl (fun _ => ?_) (fun hz_ => absurd (aR_ne hO hp hq hpq) hz_)
  refine wp_run rfl ?_
  refine wp_v1 rfl rfl (Nat.le_of_ble_eq_true rfl) (x0_placeOf hO hC hp) ?_
  refine wp_run rfl ?_
  refine wp_v1 rfl rfl (Nat.le_of_ble_eq_true rfl) (x0_placeOf hO hC hq) ?_
  refine wp_run rfl ?_
  refine wp_v2 rfl rfl (Nat.le_of_ble_eq_true rfl) (x0_mayStandIn hO hC hp hq) ?_
  refine wp_run rfl ?_
  rw [if_pos hm.1]
  refine wp_ifeq rfl (fun hz_ => absurd hz_ ((by decide : ¬ (1 : Int32) = 0))) (fun _ => ?_)
  refine wp_run rfl ?_
  refine wp_v2 rfl rfl (Nat.le_of_ble_eq_true rfl) (x0_mayStandIn hO hC hq hp) ?_
  refine wp_run rfl ?_
  rw [if_pos hm.2]
  refine wp_ifne rfl (fun _ => ?_) (fun hz_ => absurd ((by decide : ¬ (1 : Int32) = 0)) hz_)
  refine wp_run rfl ?_
  refine wp_s3v rfl (Nat.le_of_ble_eq_true rfl) (x4_store (h1 := hX (bRw_ B (upd (bRw B) p (nI (aR A q)))) Y sl P G tl) rfl (show p < 24 by omega) (by decide) rfl) ?_
  refine wp_run rfl ?_
  refine wp_s3v rfl (Nat.le_of_ble_eq_true rfl) (x4_store (h1 := hX (bRw_ B (upd (upd (bRw B) p (nI (aR A q))) q (nI (aR A p)))) Y sl P G tl) rfl (show q < 24 by omega) (by decide) rfl) ?_
  refine wp_run rfl ?_
  rw [show nI p - nI q = zI ((p : Int) - q) by rw [← zI_nI, ← zI_nI, zI_sub]]
  refine wp_abs rfl (Nat.le_of_ble_eq_true rfl) ((zI_abs (by omega) (by omega))) ?_
  refine wp_run rfl ?_
  rw [nI_p1 (by omega)]
  exact wp_ret rfl rfl ⟨rfl, rfl⟩
end AX25
