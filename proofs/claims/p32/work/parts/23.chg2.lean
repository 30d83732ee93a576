/-! THE CLASS: changes of the board (2): needs, trims; slugs that go out of the row and come in. -/
def aSetD (A : axAD) (k : Nat) (x : Int32) : axAD := (aN A, aR A, aW A, aB A, va_up (aD A) k x, aT A, aPg A, aSl A, aTr A, aTg A)
section AX23
variable {ro : axRo} {d : Nat} {h h1 : axH} {B : axBD} {Y : axYD} {sl : Nat → Option Nat} {P : axPD} {G : axGD} {tl : axH} {A : axAD}
theorem cr_setD (hC : CR B A) {k : Nat} {x : Int32} : CR (bNd_ B (upd (bNd B) k x)) (aSetD A k x) := by
  obtain ⟨c1, c2, c3, c4, c5, c6, c9⟩ := hC
  refine ⟨c1, c2, fun j hj => ⟨(c3 j hj).1, (c3 j hj).2.1, ?_⟩, c4, c5, c6, c9⟩
  show upd (bNd B) k x (aR A j) = va_up (aD A) k x (aR A j)
  rw [upd_up]
  unfold va_up
  by_cases e : aR A j = k
  · rw [if_pos e, if_pos e]
  · rw [if_neg e, if_neg e]
    exact (c3 j hj).2.2
theorem cr_bts (hC : CR B A) {k v : Nat} : CR (bBt_ B (upd (bBt B) k (nI v))) (aBts A k v) := by
  obtain ⟨c1, c2, c3, c4, c5, c6, c9⟩ := hC
  refine ⟨c1, c2, fun j hj => ⟨(c3 j hj).1, ?_, (c3 j hj).2.2⟩, c4, c5, c6, c9⟩
  show upd (bBt B) k (nI v) (aR A j) = nI (va_up (aB A) k v (aR A j))
  rw [upd_up]
  unfold va_up
  by_cases e : aR A j = k
  · rw [if_pos e, if_pos e]
  · rw [if_neg e, if_neg e]
    exact (c3 j hj).2.1
theorem x0_needsOf0 {j : Nat} (hj : j < 24) : axEv ro (d + 2) kX0_needsOf [.ref 1, .int (nI j)] (hX B Y sl P G tl) (some (.int (bNd B j))) (hX B Y sl P G tl) := by
  refine ev_in rfl rfl (Nat.le_of_ble_eq_true rfl) rfl ?_
  refine wp_run rfl ?_
  refine wp_s2 rfl (Nat.le_of_ble_eq_true rfl) (x4_cell rfl hj (by decide)) ?_
  refine wp_run rfl ?_
  exact wp_ret rfl rfl ⟨rfl, rfl⟩
theorem x0_beatsOf0 {j : Nat} (hj : j < 24) : axEv ro (d + 2) kX0_beatsOf [.ref 1, .int (nI j)] (hX B Y sl P G tl) (some (.int (bBt B j))) (hX B Y sl P G tl) := by
  refine ev_in rfl rfl (Nat.le_of_ble_eq_true rfl) rfl ?_
  refine wp_run rfl ?_
  refine wp_s2 rfl (Nat.le_of_ble_eq_true rfl) (x4_cell rfl hj (by decide)) ?_
  refine wp_run rfl ?_
  exact wp_ret rfl rfl ⟨rfl, rfl⟩
theorem x0_flipNeed_ns1 (hC : CR B A) {x y : Int32} (hx : ∀ i, i < aN A → x ≠ nI (aR A i)) : axEv ro (d + 3) kX0_flipNeed [.ref 1, .int x, .int y] (hX B Y sl P G tl) (some (.int (-1))) (hX B Y sl P G tl) := by
  refine ev_in rfl rfl (Nat.le_of_ble_eq_true rfl) rfl ?_
  refine wp_run rfl ?_
  refine wp_v1 rfl rfl (Nat.le_of_ble_eq_true rfl) (x0_has_out hC hx) ?_
  refine wp_run rfl ?_
  refine wp_ifeq rfl (fun _ => ?_) (fun hz_ => absurd (rfl) hz_)
  refine wp_run rfl ?_
  exact wp_ret rfl rfl ⟨rfl, rfl⟩
theorem x0_flipNeed_ns2 (hO : aOk A) (hC : CR B A) {i : Nat} (hi : i < aN A) {y : Int32} (hy : ∀ i, i < aN A → y ≠ nI (aR A i)) : axEv ro (d + 3) kX0_flipNeed [.ref 1, .int (nI (aR A i)), .int y] (hX B Y sl P G tl) (some (.int (-1))) (hX B Y sl P G tl) := by
  refine ev_in rfl rfl (Nat.le_of_ble_eq_true rfl) rfl ?_
  refine wp_run rfl ?_
  refine wp_v1 rfl rfl (Nat.le_of_ble_eq_true rfl) (x0_has_in hO hC hi) ?_
  refine wp_run rfl ?_
  refine wp_ifeq rfl (fun hz_ => absurd hz_ ((by decide : ¬ (1 : Int32) = 0))) (fun _ => ?_)
  refine wp_run rfl ?_
  refine wp_v1 rfl rfl (Nat.le_of_ble_eq_true rfl) (x0_has_out hC hy) ?_
  refine wp_run rfl ?_
  refine wp_ifne rfl (fun hz_ => absurd hz_ (fun z => z rfl)) (fun _ => ?_)
  refine wp_run rfl ?_
  exact wp_ret rfl rfl ⟨rfl, rfl⟩
theorem x0_flipNeed_bv (hO : aOk A) (hC : CR B A) {i : Nat} (hi : i < aN A) : axEv ro (d + 3) kX0_flipNeed [.ref 1, .int (nI (aR A i)), .int (nI (aR A i))] (hX B Y sl P G tl) (some (.int (-2))) (hX B Y sl P G tl) := by
  refine ev_in rfl rfl (Nat.le_of_ble_eq_true rfl) rfl ?_
  refine wp_run rfl ?_
  refine wp_v1 rfl rfl (Nat.le_of_ble_eq_true rfl) (x0_has_in hO hC hi) ?_
  refine wp_run rfl ?_
  refine wp_ifeq rfl (fun hz_ => absurd hz_ ((by decide : ¬ (1 : Int32) = 0))) (fun _ => ?_)
  refine wp_run rfl ?_
  refine wp_v1 rfl rfl (Nat.le_of_ble_eq_true rfl) (x0_has_in hO hC hi) ?_
  refine wp_run rfl ?_
  refine wp_ifne rfl (fun _ => ?_) (fun hz_ => absurd ((by decide : ¬ (1 : Int32) = 0)) hz_)
  refine wp_run rfl ?_
  refine wp_icne rfl (fun hz_ => absurd hz_ (fun z => z rfl)) (fun _ => ?_)
  refine wp_run rfl ?_
  exact wp_ret rfl rfl ⟨rfl, rfl⟩
theorem aR_ne (hO : aOk A) {i j : Nat} (hi : i < aN A) (hj : j < aN A) (hij : i ≠ j) : nI (aR A i) ≠ nI (aR A j) := fun z => hij (hO.inj hi hj ((nI_eq (by have := hO.r hi; omega) (by have := hO.r hj; omega)).mp z))
theorem x0_flipNeed_np (hO : aOk A) (hC : CR B A) {i j : Nat} (hi : i < aN A) (hj : j < aN A) (hij : i < j) (hb : bt (aD A (aR A i)) (aR A j) = false) : axEv ro (d + 3) kX0_flipNeed [.ref 1, .int (nI (aR A i)), .int (nI (aR A j))] (hX B Y sl P G tl) (some (.int (-5))) (hX B Y sl P G tl) := by
  have hn := hO.n
  refine ev_in rfl rfl (Nat.le_of_ble_eq_true rfl) rfl ?_
  refine wp_run rfl ?_
  refine wp_v1 rfl rfl (Nat.le_of_ble_eq_true rfl) (x0_has_in hO hC hi) ?_
  refine wp_run rfl ?_
  refine wp_ifeq rfl (fun hz_ => absurd hz_ ((by decide : ¬ (1 : Int32) = 0))) (fun _ => ?_)
  refine wp_run rfl ?_
  refine wp_v1 rfl rfl (Nat.le_of_ble_eq_true rfl) (x0_has_in hO hC hj) ?_
  refine wp_run rfl ?_
  refine wp_ifne rfl (fun _ => ?_) (fun hz_ => absurd ((by decide : ¬ (1 : Int32) = 0)) hz_)
  refine wp_run rfl ?_
  refine wp_icne rfl (fun _ => ?_) (fun hz_ => absurd (aR_ne hO hi hj (by omega)) hz_)
  refine wp_run rfl ?_
  refine wp_v1 rfl rfl (Nat.le_of_ble_eq_true rfl) (x0_needsOf hO hC hi) ?_
  refine wp_run rfl ?_
  refine wp_s2 rfl (Nat.le_of_ble_eq_true rfl) (x4_contains_in (hO.r hj)) ?_
  refine wp_run rfl ?_
  rw [if_neg (by rw [hb]; decide)]
  refine wp_ifne rfl (fun hz_ => absurd hz_ (fun z => z rfl)) (fun _ => ?_)
  refine wp_run rfl ?_
  refine wp_v1 rfl rfl (Nat.le_of_ble_eq_true rfl) (x0_placeOf hO hC hj) ?_
  refine wp_run rfl ?_
  refine wp_v1 rfl rfl (Nat.le_of_ble_eq_true rfl) (x0_placeOf hO hC hi) ?_
  refine wp_run rfl ?_
  refine wp_icle rfl (fun hz_ => absurd hz_ (nI_ge hij (by omega))) (fun _ => ?_)
  refine wp_run rfl ?_
  exact wp_ret rfl rfl ⟨rfl, rfl⟩
theorem x0_flipNeed_ok (hO : aOk A) (hC : CR B A) {i j : Nat} (hi : i < aN A) (hj : j < aN A) (hij : i ≠ j) (hb : bt (aD A (aR A i)) (aR A j) = true ∨ j < i) : axEv ro (d + 3) kX0_flipNeed [.ref 1, .int (nI (aR A i)), .int (nI (aR A j))] (hX B Y sl P G tl) (some (.int (nI (pcN (aD A (aR A i) ^^^ bi (aR A j)))))) (hX (bNd_ B (upd (bNd B) (aR A i) (aD A (aR A i) ^^^ bi (aR A j)))) Y sl P G tl) := by
  have hn := hO.n
  have fin : axW ro (axEv ro (d + 2)) cdX0_flipNeed 54 [some (.ref 1), some (.int (nI (aR A i))), some (.int (nI (aR A j)))] [] (hX B Y sl P G tl) (fun r' h' => r' = some (.int (nI (pcN (aD A (aR A i) ^^^ bi (aR A j))))) ∧ h' = hX (bNd_ B (upd (bNd B) (aR A i) (aD A (aR A i) ^^^ bi (aR A j)))) Y sl P G tl) := by
    refine wp_run rfl ?_
    refine wp_v1 rfl rfl (Nat.le_of_ble_eq_true rfl) (x0_needsOf hO hC hi) ?_
    refine wp_run rfl ?_
    refine wp_s1 rfl (Nat.le_of_ble_eq_true rfl) (x4_bit (hO.r hj)) ?_
    refine wp_run rfl ?_
    refine wp_s3v rfl (Nat.le_of_ble_eq_true rfl) (x4_store (h1 := hX (bNd_ B (upd (bNd B) (aR A i) (aD A (aR A i) ^^^ bi (aR A j)))) Y sl P G tl) rfl (hO.r hi) (by decide) rfl) ?_
    refine wp_run rfl ?_
    refine wp_v1 rfl rfl (Nat.le_of_ble_eq_true rfl) (x0_needsOf0 (hO.r hi)) ?_
    refine wp_run rfl ?_
    rw [show bNd (bNd_ B (upd (bNd B) (aR A i) (aD A (aR A i) ^^^ bi (aR A j)))) (aR A i) = aD A (aR A i) ^^^ bi (aR A j) from pk_us]
    refine wp_s1 rfl (Nat.le_of_ble_eq_true rfl) (xJ_bitCount _) ?_
    refine wp_run rfl ?_
    exact wp_ret rfl rfl ⟨rfl, rfl⟩
  refine ev_in rfl rfl (Nat.le_of_ble_eq_true rfl) rfl ?_
  refine wp_run rfl ?_
  refine wp_v1 rfl rfl (Nat.le_of_ble_eq_true rfl) (x0_has_in hO hC hi) ?_
  refine wp_run rfl ?_
  refine wp_ifeq rfl (fun hz_ => absurd hz_ ((by decide : ¬ (1 : Int32) = 0))) (fun _ => ?_)
  refine wp_run rfl ?_
  refine wp_v1 rfl rfl (Nat.le_of_ble_eq_true rfl) (x0_has_in hO hC hj) ?_
  refine wp_run rfl ?_
  refine wp_ifne rfl (fun _ => ?_) (fun hz_ => absurd ((by decide : ¬ (1 : Int32) = 0)) hz_)
  refine wp_run rfl ?_
  refine wp_icne rfl (fun _ => ?_) (fun hz_ => absurd (aR_ne hO hi hj hij) hz_)
  refine wp_run rfl ?_
  refine wp_v1 rfl rfl (Nat.le_of_ble_eq_true rfl) (x0_needsOf hO hC hi) ?_
  refine wp_run rfl ?_
  refine wp_s2 rfl (Nat.le_of_ble_eq_true rfl) (x4_contains_in (hO.r hj)) ?_
  refine wp_run rfl ?_
  by_cases h2 : bt (aD A (aR A i)) (aR A j) = true
  · rw [if_pos h2]
    refine wp_ifne rfl (fun _ => ?_) (fun hz_ => absurd ((by decide : ¬ (1 : Int32) = 0)) hz_)
    exact fin
  · rw [if_neg h2]
    refine wp_ifne rfl (fun hz_ => absurd hz_ (fun z => z rfl)) (fun _ => ?_)
    refine wp_run rfl ?_
    refine wp_v1 rfl rfl (Nat.le_of_ble_eq_true rfl) (x0_placeOf hO hC hj) ?_
    refine wp_run rfl ?_
    refine wp_v1 rfl rfl (Nat.le_of_ble_eq_true rfl) (x0_placeOf hO hC hi) ?_
    refine wp_run rfl ?_
    refine wp_icle rfl (fun _ => ?_) (fun hz_ => absurd (nI_le (show j ≤ i by have := hb.resolve_left h2; omega) (by omega)) hz_)
    exact fin
theorem x0_trimSlug_ns (hC : CR B A) {x y : Int32} (hx : ∀ i, i < aN A → x ≠ nI (aR A i)) : axEv ro (d + 3) kX0_trimSlug [.ref 1, .int x, .int y] (hX B Y sl P G tl) (some (.int (-1))) (hX B Y sl P G tl) := by
  refine ev_in rfl rfl (Nat.le_of_ble_eq_true rfl) rfl ?_
  refine wp_run rfl ?_
  refine wp_v1 rfl rfl (Nat.le_of_ble_eq_true rfl) (x0_has_out hC hx) ?_
  refine wp_run rfl ?_
  refine wp_ifne rfl (fun hz_ => absurd hz_ (fun z => z rfl)) (fun _ => ?_)
  refine wp_run rfl ?_
  exact wp_ret rfl rfl ⟨rfl, rfl⟩
theorem x0_trimSlug_bv (hO : aOk A) (hC : CR B A) {i : Nat} (hi : i < aN A) {y : Int32} (hy : y < nI 1 ∨ ¬ y ≤ nI 98) : axEv ro (d + 3) kX0_trimSlug [.ref 1, .int (nI (aR A i)), .int y] (hX B Y sl P G tl) (some (.int (-2))) (hX B Y sl P G tl) := by
  refine ev_in rfl rfl (Nat.le_of_ble_eq_true rfl) rfl ?_
  refine wp_run rfl ?_
  refine wp_v1 rfl rfl (Nat.le_of_ble_eq_true rfl) (x0_has_in hO hC hi) ?_
  refine wp_run rfl ?_
  refine wp_ifne rfl (fun _ => ?_) (fun hz_ => absurd ((by decide : ¬ (1 : Int32) = 0)) hz_)
  refine wp_run rfl ?_
  refine wp_iclt rfl (fun q => ?_) (fun q => ?_)
  · refine wp_run rfl ?_
    exact wp_ret rfl rfl ⟨rfl, rfl⟩
  · refine wp_run rfl ?_
    refine wp_icle rfl (fun hz_ => absurd hz_ (hy.elim (fun w => absurd w q) id)) (fun _ => ?_)
    refine wp_run rfl ?_
    exact wp_ret rfl rfl ⟨rfl, rfl⟩
theorem x0_trimSlug_np (hO : aOk A) (hC : CR B A) {i : Nat} (hi : i < aN A) {v : Nat} (h1 : 1 ≤ v) (h2 : v ≤ 98) (h3 : aCan A (aR A i) < v) : axEv ro (d + 3) kX0_trimSlug [.ref 1, .int (nI (aR A i)), .int (nI v)] (hX B Y sl P G tl) (some (.int (-5))) (hX B Y sl P G tl) := by
  refine ev_in rfl rfl (Nat.le_of_ble_eq_true rfl) rfl ?_
  refine wp_run rfl ?_
  refine wp_v1 rfl rfl (Nat.le_of_ble_eq_true rfl) (x0_has_in hO hC hi) ?_
  refine wp_run rfl ?_
  refine wp_ifne rfl (fun _ => ?_) (fun hz_ => absurd ((by decide : ¬ (1 : Int32) = 0)) hz_)
  refine wp_run rfl ?_
  refine wp_iclt rfl (fun hz_ => absurd hz_ (nI_nlt (b := 1) h1 (by omega))) (fun _ => ?_)
  refine wp_run rfl ?_
  refine wp_icle rfl (fun _ => ?_) (fun hz_ => absurd (nI_le (b := 98) h2 (by omega)) hz_)
  refine wp_run rfl ?_
  refine wp_v1 rfl rfl (Nat.le_of_ble_eq_true rfl) (x0_roomOf hO hC hi) ?_
  refine wp_run rfl ?_
  refine wp_icle rfl (fun hz_ => absurd hz_ (nI_ge h3 (by omega))) (fun _ => ?_)
  refine wp_run rfl ?_
  exact wp_ret rfl rfl ⟨rfl, rfl⟩
theorem x0_trimSlug_ok (hO : aOk A) (hC : CR B A) {i : Nat} (hi : i < aN A) {v : Nat} (h1 : 1 ≤ v) (h2 : v ≤ 98) (h3 : v ≤ aCan A (aR A i)) : axEv ro (d + 3) kX0_trimSlug [.ref 1, .int (nI (aR A i)), .int (nI v)] (hX B Y sl P G tl) (some (.int (nI (aB A (aR A i) - v)))) (hX (bBt_ B (upd (bBt B) (aR A i) (nI (aB A (aR A i) - v)))) Y sl P G tl) := by
  have hc : aCan A (aR A i) ≤ aB A (aR A i) := Nat.sub_le _ _
  have hb := hO.b hi
  refine ev_in rfl rfl (Nat.le_of_ble_eq_true rfl) rfl ?_
  refine wp_run rfl ?_
  refine wp_v1 rfl rfl (Nat.le_of_ble_eq_true rfl) (x0_has_in hO hC hi) ?_
  refine wp_run rfl ?_
  refine wp_ifne rfl (fun _ => ?_) (fun hz_ => absurd ((by decide : ¬ (1 : Int32) = 0)) hz_)
  refine wp_run rfl ?_
  refine wp_iclt rfl (fun hz_ => absurd hz_ (nI_nlt (b := 1) h1 (by omega))) (fun _ => ?_)
  refine wp_run rfl ?_
  refine wp_icle rfl (fun _ => ?_) (fun hz_ => absurd (nI_le (b := 98) h2 (by omega)) hz_)
  refine wp_run rfl ?_
  refine wp_v1 rfl rfl (Nat.le_of_ble_eq_true rfl) (x0_roomOf hO hC hi) ?_
  refine wp_run rfl ?_
  refine wp_icle rfl (fun _ => ?_) (fun hz_ => absurd (nI_le h3 (by omega)) hz_)
  refine wp_run rfl ?_
  refine wp_v1 rfl rfl (Nat.le_of_ble_eq_true rfl) (x0_beatsOf hO hC hi) ?_
  refine wp_run rfl ?_
  rw [pk_sub (by omega)]
  refine wp_s3v rfl (Nat.le_of_ble_eq_true rfl) (x4_store (h1 := hX (bBt_ B (upd (bBt B) (aR A i) (nI (aB A (aR A i) - v)))) Y sl P G tl) rfl (hO.r hi) (by decide) rfl) ?_
  refine wp_run rfl ?_
  refine wp_v1 rfl rfl (Nat.le_of_ble_eq_true rfl) (x0_beatsOf0 (hO.r hi)) ?_
  refine wp_run rfl ?_
  rw [show bBt (bBt_ B (upd (bBt B) (aR A i) (nI (aB A (aR A i) - v)))) (aR A i) = nI (aB A (aR A i) - v) from pk_us]
  exact wp_ret rfl rfl ⟨rfl, rfl⟩
theorem x0_giveBack_out (hC : CR B A) {x : Int32} (hx : ∀ i, i < aN A → x ≠ nI (aR A i)) : axEv ro (d + 3) kX0_giveBack [.ref 1, .int x] (hX B Y sl P G tl) (some (.int (-1))) (hX B Y sl P G tl) := by
  refine ev_in rfl rfl (Nat.le_of_ble_eq_true rfl) rfl ?_
  refine wp_run rfl ?_
  refine wp_v1 rfl rfl (Nat.le_of_ble_eq_true rfl) (x0_has_out hC hx) ?_
  refine wp_run rfl ?_
  refine wp_ifne rfl (fun hz_ => absurd hz_ (fun z => z rfl)) (fun _ => ?_)
  refine wp_run rfl ?_
  exact wp_ret rfl rfl ⟨rfl, rfl⟩
theorem x0_giveBack_in (hO : aOk A) (hC : CR B A) {i : Nat} (hi : i < aN A) : axEv ro (d + 3) kX0_giveBack [.ref 1, .int (nI (aR A i))] (hX B Y sl P G tl) (some (.int (nI (aW A (aR A i) - aB A (aR A i))))) (hX (bBt_ B (upd (bBt B) (aR A i) (nI (aW A (aR A i))))) Y sl P G tl) := by
  have hb := hO.b hi
  refine ev_in rfl rfl (Nat.le_of_ble_eq_true rfl) rfl ?_
  refine wp_run rfl ?_
  refine wp_v1 rfl rfl (Nat.le_of_ble_eq_true rfl) (x0_has_in hO hC hi) ?_
  refine wp_run rfl ?_
  refine wp_ifne rfl (fun _ => ?_) (fun hz_ => absurd ((by decide : ¬ (1 : Int32) = 0)) hz_)
  refine wp_run rfl ?_
  refine wp_v1 rfl rfl (Nat.le_of_ble_eq_true rfl) (x0_writtenOf hO hC hi) ?_
  refine wp_run rfl ?_
  refine wp_v1 rfl rfl (Nat.le_of_ble_eq_true rfl) (x0_beatsOf hO hC hi) ?_
  refine wp_run rfl ?_
  rw [pk_sub (by omega)]
  refine wp_v1 rfl rfl (Nat.le_of_ble_eq_true rfl) (x0_writtenOf hO hC hi) ?_
  refine wp_run rfl ?_
  refine wp_s3v rfl (Nat.le_of_ble_eq_true rfl) (x4_store (h1 := hX (bBt_ B (upd (bBt B) (aR A i) (nI (aW A (aR A i))))) Y sl P G tl) rfl (hO.r hi) (by decide) rfl) ?_
  refine wp_run rfl ?_
  exact wp_ret rfl rfl ⟨rfl, rfl⟩
/-- the row without the slug at p (what stands behind the end stays) -/
def tkF (f : Nat → Int32) (p q : Nat) : Nat → Int32 := fun i => if p ≤ i ∧ i + 1 < q then f (i + 1) else f i
theorem tkF_0 (f : Nat → Int32) (p : Nat) : tkF f p (p + 1) = f := by
  funext i
  unfold tkF
  rw [if_neg (by omega)]
theorem tkF_s (f : Nat → Int32) {p q : Nat} (h : p < q) : upd (tkF f p q) (q - 1) (f q) = tkF f p (q + 1) := by
  funext i
  rw [upd_up]
  unfold tkF
  by_cases e : i = q - 1
  · subst e
    rw [if_pos rfl, if_pos (by omega), show q - 1 + 1 = q by omega]
  · rw [if_neg e]
    by_cases e2 : p ≤ i ∧ i + 1 < q
    · rw [if_pos e2, if_pos (by omega)]
    · rw [if_neg e2, if_neg (by omega)]
theorem x0_takeOut {n p : Nat} (hs : bSz B = nI n) (hn : n ≤ 24) (hp : p < n) : axEv ro (d + 2) kX0_takeOut [.ref 1, .int (nI p)] (hX B Y sl P G tl) none (hX (bSz_ (bRw_ B (tkF (bRw B) p n)) (nI (n - 1))) Y sl P G tl) := by
  have loop : ∀ m q, q + m = n → p < q → axW ro (axEv ro (d + 1)) cdX0_takeOut 9 [some (.ref 1), some (.int (nI p)), some (.int (nI q))] [.int (bSz B), .int (nI q)] (hX (bRw_ B (tkF (bRw B) p q)) Y sl P G tl) (fun r' h' => r' = none ∧ h' = hX (bSz_ (bRw_ B (tkF (bRw B) p n)) (nI (n - 1))) Y sl P G tl) := by
    intro m
    induction m with
    | zero =>
      intro q e hq
      have e : q = n := by omega
      subst e
      rw [hs]
      refine wp_icge rfl (fun _ => ?_) (fun hz_ => absurd (nI_le (Nat.le_refl _) (by omega)) hz_)
      refine wp_run rfl ?_
      rw [show bSz (bRw_ B (tkF (bRw B) p q)) = nI q from hs, nI_p1 (by omega)]
      refine wp_putf (h1 := hX (bSz_ (bRw_ B (tkF (bRw B) p q)) (nI (q - 1))) Y sl P G tl) rfl rfl (Nat.le_of_ble_eq_true rfl) ⟨rfl, rfl, fun _ hz_ => by cases hz_⟩ rfl ?_
      refine wp_run rfl ?_
      exact wp_retv rfl ⟨rfl, rfl⟩
    | succ m ih =>
      intro q e hq
      rw [hs]
      refine wp_icge rfl (fun hz_ => absurd hz_ (nI_ge (show q < n by omega) (by omega))) (fun _ => ?_)
      refine wp_run rfl ?_
      rw [nI_p1 (by omega)]
      refine wp_s2 rfl (Nat.le_of_ble_eq_true rfl) (x4_cell rfl (show q < 24 by omega) (by decide)) ?_
      refine wp_run rfl ?_
      rw [show bRw (bRw_ B (tkF (bRw B) p q)) q = bRw B q from if_neg (by omega)]
      refine wp_s3v rfl (Nat.le_of_ble_eq_true rfl) (x4_store (h1 := hX (bRw_ B (upd (tkF (bRw B) p q) (q - 1) (bRw B q))) Y sl P G tl) rfl (show q - 1 < 24 by omega) (by decide) rfl) ?_
      refine wp_run rfl ?_
      rw [tkF_s _ hq, nI_1]
      exact ih (q + 1) (by omega) (by omega)
  refine ev_in rfl rfl (Nat.le_of_ble_eq_true rfl) rfl ?_
  refine wp_run rfl ?_
  have := loop (n - (p + 1)) (p + 1) (by omega) (by omega)
  rw [tkF_0] at this
  rw [nI_1]
  exact this
/-- the row, behind p each a place further -/
def pnF (f : Nat → Int32) (q n : Nat) : Nat → Int32 := fun i => if q < i ∧ i ≤ n then f (i - 1) else f i
theorem pnF_0 (f : Nat → Int32) (n : Nat) : pnF f n n = f := by
  funext i
  unfold pnF
  rw [if_neg (by omega)]
theorem pnF_s (f : Nat → Int32) {q n : Nat} (h : q + 1 ≤ n) : upd (pnF f (q + 1) n) (q + 1) (f q) = pnF f q n := by
  funext i
  rw [upd_up]
  unfold pnF
  by_cases e : i = q + 1
  · subst e
    rw [if_pos rfl, if_pos (by omega), show q + 1 - 1 = q by omega]
  · rw [if_neg e]
    by_cases e2 : q < i ∧ i ≤ n
    · rw [if_pos e2, if_pos (by omega)]
    · rw [if_neg e2, if_neg (by omega)]
theorem x0_putIn {n p k : Nat} (hs : bSz B = nI n) (hn : n < 24) (hp : p ≤ n) : axEv ro (d + 2) kX0_putIn [.ref 1, .int (nI p), .int (nI k)] (hX B Y sl P G tl) none (hX (bSz_ (bRw_ B (upd (pnF (bRw B) p n) p (nI k))) (nI (n + 1))) Y sl P G tl) := by
  have loop : ∀ m q, q = p + m → q ≤ n → axW ro (axEv ro (d + 1)) cdX0_putIn 7 [some (.ref 1), some (.int (nI p)), some (.int (nI k)), some (.int (nI q))] [.int (nI p), .int (nI q)] (hX (bRw_ B (pnF (bRw B) q n)) Y sl P G tl) (fun r' h' => r' = none ∧ h' = hX (bSz_ (bRw_ B (upd (pnF (bRw B) p n) p (nI k))) (nI (n + 1))) Y sl P G tl) := by
    intro m
    induction m with
    | zero =>
      intro q e hq
      have e : q = p := by omega
      subst e
      refine wp_icle rfl (fun _ => ?_) (fun hz_ => absurd (nI_le (Nat.le_refl _) (by omega)) hz_)
      refine wp_run rfl ?_
      refine wp_s3v rfl (Nat.le_of_ble_eq_true rfl) (x4_store (h1 := hX (bRw_ B (upd (pnF (bRw B) q n) q (nI k))) Y sl P G tl) rfl (show q < 24 by omega) (by decide) rfl) ?_
      refine wp_run rfl ?_
      rw [show bSz (bRw_ B (upd (pnF (bRw B) q n) q (nI k))) = nI n from hs, nI_1]
      refine wp_putf (h1 := hX (bSz_ (bRw_ B (upd (pnF (bRw B) q n) q (nI k))) (nI (n + 1))) Y sl P G tl) rfl rfl (Nat.le_of_ble_eq_true rfl) ⟨rfl, rfl, fun _ hz_ => by cases hz_⟩ rfl ?_
      refine wp_run rfl ?_
      exact wp_retv rfl ⟨rfl, rfl⟩
    | succ m ih =>
      intro q e hq
      obtain ⟨q', rfl⟩ : ∃ q', q = q' + 1 := ⟨q - 1, by omega⟩
      refine wp_icle rfl (fun hz_ => absurd hz_ (nI_ge (show p < q' + 1 by omega) (by omega))) (fun _ => ?_)
      refine wp_run rfl ?_
      rw [nI_pred]
      refine wp_s2 rfl (Nat.le_of_ble_eq_true rfl) (x4_cell rfl (show q' < 24 by omega) (by decide)) ?_
      refine wp_run rfl ?_
      rw [show bRw (bRw_ B (pnF (bRw B) (q' + 1) n)) q' = bRw B q' from if_neg (by omega)]
      refine wp_s3v rfl (Nat.le_of_ble_eq_true rfl) (x4_store (h1 := hX (bRw_ B (upd (pnF (bRw B) (q' + 1) n) (q' + 1) (bRw B q'))) Y sl P G tl) rfl (show q' + 1 < 24 by omega) (by decide) rfl) ?_
      refine wp_run rfl ?_
      rw [pnF_s _ (by omega), pk_m1]
      exact ih q' (by omega) (by omega)
  refine ev_in rfl rfl (Nat.le_of_ble_eq_true rfl) rfl ?_
  refine wp_run rfl ?_
  have := loop (n - p) n (by omega) (Nat.le_refl _)
  rw [pnF_0] at this
  rw [hs]
  exact this
end AX23
