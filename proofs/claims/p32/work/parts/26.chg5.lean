/-! THE CLASS: changes of the board (5): split, fit. -/
def aWrs (A : axAD) (k v : Nat) : axAD := (aN A, aR A, va_up (aW A) k v, aB A, aD A, aT A, aPg A, aSl A, aTr A, aTg A)
def aNdF (A : axAD) (g : Nat → Int32) : axAD := (aN A, aR A, aW A, aB A, g, aT A, aPg A, aSl A, aTr A, aTg A)
/-- the sets in which the slug k is, of the first q, with the slug z too -/
def hoF (f : Nat → Int32) (k z q : Nat) : Nat → Int32 := fun i => if i < q ∧ bt (f i) k = true then f i ||| bi z else f i
theorem hoF_s (f : Nat → Int32) (k z q : Nat) : (bt (f q) k = true → upd (hoF f k z q) q (f q ||| bi z) = hoF f k z (q + 1)) ∧ (bt (f q) k = false → hoF f k z q = hoF f k z (q + 1)) := by
  constructor
  · intro h
    funext i
    rw [upd_up]
    unfold hoF
    by_cases e : i = q
    · subst e
      rw [if_pos rfl, if_pos ⟨by omega, h⟩]
    · rw [if_neg e]
      by_cases e2 : i < q ∧ bt (f i) k = true
      · rw [if_pos e2, if_pos ⟨by omega, e2.2⟩]
      · rw [if_neg e2, if_neg (fun w => e2 ⟨by omega, w.2⟩)]
  · intro h
    funext i
    unfold hoF
    by_cases e2 : i < q ∧ bt (f i) k = true
    · rw [if_pos e2, if_pos ⟨by omega, e2.2⟩]
    · rw [if_neg e2, if_neg (fun w => e2 ⟨by
        by_cases e : i = q
        · subst e; rw [h] at w; cases w.2
        · omega, w.2⟩)]
section AX26
variable {ro : axRo} {d : Nat} {h h1 : axH} {B : axBD} {Y : axYD} {sl : Nat → Option Nat} {P : axPD} {G : axGD} {tl : axH} {A : axAD}
theorem cr_wrs (hC : CR B A) {k v : Nat} : CR (bWr_ B (upd (bWr B) k (nI v))) (aWrs A k v) := by
  obtain ⟨c1, c2, c3, c4, c5, c6, c9⟩ := hC
  refine ⟨c1, c2, fun j hj => ⟨?_, (c3 j hj).2⟩, c4, c5, c6, c9⟩
  show upd (bWr B) k (nI v) (aR A j) = nI (va_up (aW A) k v (aR A j))
  rw [upd_up]
  unfold va_up
  by_cases e : aR A j = k
  · rw [if_pos e, if_pos e]
  · rw [if_neg e, if_neg e]
    exact (c3 j hj).1
theorem cr_ndF (hC : CR B A) {f g : Nat → Int32} (h : ∀ i, i < aN A → f (aR A i) = g (aR A i)) : CR (bNd_ B f) (aNdF A g) := by
  obtain ⟨c1, c2, c3, c4, c5, c6, c9⟩ := hC
  exact ⟨c1, c2, fun j hj => ⟨(c3 j hj).1, (c3 j hj).2.1, h j hj⟩, c4, c5, c6, c9⟩
theorem cr_turnOff (hC : CR B A) {k : Nat} (hk : k < 24) (hf : aT A k = true) : CR (bTn_ B (bTn B &&& (bi k ^^^ (-1)))) (aFlip A k) := by
  obtain ⟨c1, c2, c3, c4, c5, c6, c9⟩ := hC
  refine ⟨c1, c2, c3, c4, fun j => ?_, c6, c9⟩
  show bt (bTn B &&& (bi k ^^^ (-1))) j = true ↔ (aIn A j ∧ (if j = k then !aT A j else aT A j) = true)
  rw [bt_clr (by omega), Bool.and_eq_true, c5 j]
  by_cases e : j = k
  · subst e
    rw [if_pos rfl, hf]
    simp
  · rw [if_neg e]
    simp [e]
theorem x0_isTurn0 {k : Nat} (hk : k < 24) : axEv ro (d + 2) kX0_isTurn [.ref 1, .int (nI k)] (hX B Y sl P G tl) (some (.int (if bt (bTn B) k = true then 1 else 0))) (hX B Y sl P G tl) := by
  refine ev_in rfl rfl (Nat.le_of_ble_eq_true rfl) rfl ?_
  refine wp_run rfl ?_
  refine wp_s2 rfl (Nat.le_of_ble_eq_true rfl) (x4_contains_in hk) ?_
  refine wp_run rfl ?_
  by_cases h : bt (bTn B) k = true
  · rw [if_pos h]
    exact wp_ret rfl rfl ⟨rfl, rfl⟩
  · rw [if_neg h]
    exact wp_ret rfl rfl ⟨rfl, rfl⟩
theorem x0_handOverNeeds {k z : Nat} (hk : k < 24) (hz : z < 24) : axEv ro (d + 2) kX0_handOverNeeds [.ref 1, .int (nI k), .int (nI z)] (hX B Y sl P G tl) none (hX (bNd_ B (upd (hoF (bNd B) k z 24) z (bi k))) Y sl P G tl) := by
  have loop : ∀ m q, q + m = 24 → axW ro (axEv ro (d + 1)) cdX0_handOverNeeds 8 [some (.ref 1), some (.int (nI k)), some (.int (nI z)), some (.int (nI q))] [.int 24, .int (nI q)] (hX (bNd_ B (hoF (bNd B) k z q)) Y sl P G tl) (fun r' h' => r' = none ∧ h' = hX (bNd_ B (upd (hoF (bNd B) k z 24) z (bi k))) Y sl P G tl) := by
    intro m
    induction m with
    | zero =>
      intro q e
      have e : q = 24 := by omega
      subst e
      refine wp_icge rfl (fun _ => ?_) (fun hz_ => absurd ((by decide : (24 : Int32) ≤ nI 24)) hz_)
      refine wp_run rfl ?_
      refine wp_s1 rfl (Nat.le_of_ble_eq_true rfl) (x4_bit hk) ?_
      refine wp_run rfl ?_
      refine wp_s3v rfl (Nat.le_of_ble_eq_true rfl) (x4_store (h1 := hX (bNd_ B (upd (hoF (bNd B) k z 24) z (bi k))) Y sl P G tl) rfl hz (by decide) rfl) ?_
      refine wp_run rfl ?_
      exact wp_retv rfl ⟨rfl, rfl⟩
    | succ m ih =>
      intro q e
      have hq : q < 24 := by omega
      have eq : bNd (bNd_ B (hoF (bNd B) k z q)) q = bNd B q := if_neg (fun w => by omega)
      refine wp_icge rfl (fun hz_ => absurd hz_ (nlt24 hq)) (fun _ => ?_)
      refine wp_run rfl ?_
      refine wp_ald rfl rfl (vp_in_nI (hq) (by decide)) (by rw [nI_clamp (by omega)]) ?_
      refine wp_run rfl ?_
      rw [eq]
      refine wp_s2 rfl (Nat.le_of_ble_eq_true rfl) (x4_contains_in hk) ?_
      refine wp_run rfl ?_
      by_cases hb : bt (bNd B q) k = true
      · rw [if_pos hb]
        refine wp_ifeq rfl (fun hz_ => absurd hz_ ((by decide : ¬ (1 : Int32) = 0))) (fun _ => ?_)
        refine wp_run rfl ?_
        refine wp_ald rfl rfl (vp_in_nI (hq) (by decide)) (by rw [nI_clamp (by omega)]) ?_
        refine wp_run rfl ?_
        rw [eq]
        refine wp_s1 rfl (Nat.le_of_ble_eq_true rfl) (x4_bit hz) ?_
        refine wp_run rfl ?_
        refine wp_ast (h1 := hX (bNd_ B (upd (hoF (bNd B) k z q) q (bNd B q ||| bi z))) Y sl P G tl) rfl rfl (vp_in_nI (hq) (by decide)) rfl (by rw [nI_clamp (by omega)]; rfl) ?_
        refine wp_run rfl ?_
        rw [(hoF_s (bNd B) k z q).1 hb, nI_1]
        exact ih (q + 1) (by omega)
      · rw [if_neg hb]
        refine wp_ifeq rfl (fun _ => ?_) (fun hz_ => absurd (rfl) hz_)
        refine wp_run rfl ?_
        rw [(hoF_s (bNd B) k z q).2 (by simpa using hb), nI_1]
        exact ih (q + 1) (by omega)
  refine ev_in rfl rfl (Nat.le_of_ble_eq_true rfl) rfl ?_
  refine wp_run rfl ?_
  exact loop 24 0 (by omega)
theorem x0_handOverTurn_no {k z : Nat} (hk : k < 24) (hb : bt (bTn B) k = false) : axEv ro (d + 3) kX0_handOverTurn [.ref 1, .int (nI k), .int (nI z)] (hX B Y sl P G tl) none (hX B Y sl P G tl) := by
  refine ev_in rfl rfl (Nat.le_of_ble_eq_true rfl) rfl ?_
  refine wp_run rfl ?_
  refine wp_v1 rfl rfl (Nat.le_of_ble_eq_true rfl) (x0_isTurn0 hk) ?_
  refine wp_run rfl ?_
  rw [if_neg (by rw [hb]; decide)]
  refine wp_ifeq rfl (fun _ => ?_) (fun hz_ => absurd (rfl) hz_)
  refine wp_run rfl ?_
  exact wp_retv rfl ⟨rfl, rfl⟩
theorem x0_handOverTurn_yes {k z : Nat} (hk : k < 24) (hz : z < 24) (hb : bt (bTn B) k = true) : axEv ro (d + 3) kX0_handOverTurn [.ref 1, .int (nI k), .int (nI z)] (hX B Y sl P G tl) none (hX (bTn_ B ((bTn B &&& (bi k ^^^ (-1))) ||| bi z)) Y sl P G tl) := by
  refine ev_in rfl rfl (Nat.le_of_ble_eq_true rfl) rfl ?_
  refine wp_run rfl ?_
  refine wp_v1 rfl rfl (Nat.le_of_ble_eq_true rfl) (x0_isTurn0 hk) ?_
  refine wp_run rfl ?_
  rw [if_pos hb]
  refine wp_ifeq rfl (fun hz_ => absurd hz_ ((by decide : ¬ (1 : Int32) = 0))) (fun _ => ?_)
  refine wp_run rfl ?_
  refine wp_s1 rfl (Nat.le_of_ble_eq_true rfl) (x4_bit hk) ?_
  refine wp_run rfl ?_
  refine wp_putf (h1 := hX (bTn_ B (bTn B &&& (bi k ^^^ (-1)))) Y sl P G tl) rfl rfl (Nat.le_of_ble_eq_true rfl) ⟨rfl, rfl, fun _ hz_ => by cases hz_⟩ rfl ?_
  refine wp_run rfl ?_
  refine wp_s1 rfl (Nat.le_of_ble_eq_true rfl) (x4_bit hz) ?_
  refine wp_run rfl ?_
  refine wp_putf (h1 := hX (bTn_ B ((bTn B &&& (bi k ^^^ (-1))) ||| bi z)) Y sl P G tl) rfl rfl (Nat.le_of_ble_eq_true rfl) ⟨rfl, rfl, fun _ hz_ => by cases hz_⟩ rfl ?_
  refine wp_run rfl ?_
  exact wp_retv rfl ⟨rfl, rfl⟩
/-- the slug in place p split at a beat, z the new one's number -/
def aSplN (A : axAD) (k z : Nat) : Nat → Int32 := fun j => if j = z then bi k else if bt (aD A j) k = true then aD A j ||| bi z else aD A j
def aSpl0 (A : axAD) (p v k z : Nat) : axAD := aNdF (aBts (aWrs (aBts (aAdd A (p + 1) (aW A k - v) z false) z (aB A k - v)) k v) k v) (aSplN A k z)
def aSplit (A : axAD) (p v k z : Nat) : axAD := if aT A k = true then aFlip (aFlip (aSpl0 A p v k z) k) z else aSpl0 A p v k z
theorem x0_splitSlug_ns (hC : CR B A) {x y : Int32} (hx : ∀ i, i < aN A → x ≠ nI (aR A i)) : axEv ro (d + 4) kX0_splitSlug [.ref 1, .int x, .int y] (hX B Y sl P G tl) (some (.int (-1))) (hX B Y sl P G tl) := by
  refine ev_in rfl rfl (Nat.le_of_ble_eq_true rfl) rfl ?_
  refine wp_run rfl ?_
  refine wp_v1 rfl rfl (Nat.le_of_ble_eq_true rfl) (x0_has_out hC hx) ?_
  refine wp_run rfl ?_
  refine wp_ifne rfl (fun hz_ => absurd hz_ (fun z => z rfl)) (fun _ => ?_)
  refine wp_run rfl ?_
  exact wp_ret rfl rfl ⟨rfl, rfl⟩
theorem x0_splitSlug_bv (hO : aOk A) (hC : CR B A) {i : Nat} (hi : i < aN A) {y : Int32} (hy : y < nI 1 ∨ ¬ y ≤ nI 98) : axEv ro (d + 4) kX0_splitSlug [.ref 1, .int (nI (aR A i)), .int y] (hX B Y sl P G tl) (some (.int (-2))) (hX B Y sl P G tl) := by
  refine ev_in rfl rfl (Nat.le_of_ble_eq_true rfl) rfl ?_
  refine wp_run rfl ?_
  refine wp_v1 rfl rfl (Nat.le_of_ble_eq_true rfl) (x0_has_in hO hC hi) ?_
  refine wp_run rfl ?_
  refine wp_ifne rfl (fun _ => ?_) (fun hz_ => absurd ((by decide : ¬ (1 : Int32) = 0)) hz_)
  refine wp_run rfl ?_
  refine wp_iclt rfl (fun q => ?_) (fun q => ?_)
  · refine wp_run rfl ?_
    exact wp_ret rfl rfl ⟨rfl, rfl⟩
  · refine wp_run rfl ?_
    refine wp_icle rfl (fun hz_ => absurd hz_ (hy.elim (fun w => absurd w q) id)) (fun _ => ?_)
    refine wp_run rfl ?_
    exact wp_ret rfl rfl ⟨rfl, rfl⟩
theorem x0_splitSlug_np (hO : aOk A) (hC : CR B A) {i : Nat} (hi : i < aN A) {v : Nat} (h1 : 1 ≤ v) (h2 : v ≤ 98) (h3 : aB A (aR A i) ≤ v) : axEv ro (d + 4) kX0_splitSlug [.ref 1, .int (nI (aR A i)), .int (nI v)] (hX B Y sl P G tl) (some (.int (-5))) (hX B Y sl P G tl) := by
  have hb := hO.b hi
  refine ev_in rfl rfl (Nat.le_of_ble_eq_true rfl) rfl ?_
  refine wp_run rfl ?_
  refine wp_v1 rfl rfl (Nat.le_of_ble_eq_true rfl) (x0_has_in hO hC hi) ?_
  refine wp_run rfl ?_
  refine wp_ifne rfl (fun _ => ?_) (fun hz_ => absurd ((by decide : ¬ (1 : Int32) = 0)) hz_)
  refine wp_run rfl ?_
  refine wp_iclt rfl (fun hz_ => absurd hz_ (nI_nlt (b := 1) h1 (by omega))) (fun _ => ?_)
  refine wp_run rfl ?_
  refine wp_icle rfl (fun _ => ?_) (fun hz_ => absurd (nI_le (b := 98) h2 (by omega)) hz_)
  refine wp_run rfl ?_
  refine wp_v1 rfl rfl (Nat.le_of_ble_eq_true rfl) (x0_beatsOf hO hC hi) ?_
  refine wp_run rfl ?_
  refine wp_icgt rfl (fun hz_ => absurd hz_ (nI_nlt h3 (by omega))) (fun _ => ?_)
  refine wp_run rfl ?_
  exact wp_ret rfl rfl ⟨rfl, rfl⟩
theorem x0_splitSlug_tm (hO : aOk A) (hC : CR B A) {i : Nat} (hi : i < aN A) {v : Nat} (h1 : 1 ≤ v) (h2 : v ≤ 98) (h3 : v < aB A (aR A i)) (hn : aN A = 24) : axEv ro (d + 4) kX0_splitSlug [.ref 1, .int (nI (aR A i)), .int (nI v)] (hX B Y sl P G tl) (some (.int (-4))) (hX B Y sl P G tl) := by
  have hb := hO.b hi
  refine ev_in rfl rfl (Nat.le_of_ble_eq_true rfl) rfl ?_
  refine wp_run rfl ?_
  refine wp_v1 rfl rfl (Nat.le_of_ble_eq_true rfl) (x0_has_in hO hC hi) ?_
  refine wp_run rfl ?_
  refine wp_ifne rfl (fun _ => ?_) (fun hz_ => absurd ((by decide : ¬ (1 : Int32) = 0)) hz_)
  refine wp_run rfl ?_
  refine wp_iclt rfl (fun hz_ => absurd hz_ (nI_nlt (b := 1) h1 (by omega))) (fun _ => ?_)
  refine wp_run rfl ?_
  refine wp_icle rfl (fun _ => ?_) (fun hz_ => absurd (nI_le (b := 98) h2 (by omega)) hz_)
  refine wp_run rfl ?_
  refine wp_v1 rfl rfl (Nat.le_of_ble_eq_true rfl) (x0_beatsOf hO hC hi) ?_
  refine wp_run rfl ?_
  refine wp_icgt rfl (fun _ => ?_) (fun hz_ => absurd (nI_lt h3 (by omega)) hz_)
  refine wp_run rfl ?_
  rw [cr_sz hC, hn]
  refine wp_iclt rfl (fun hz_ => absurd hz_ ((by decide : ¬ nI 24 < 24))) (fun _ => ?_)
  refine wp_run rfl ?_
  exact wp_ret rfl rfl ⟨rfl, rfl⟩
theorem x0_splitSlug_ok (hO : aOk A) (hC : CR B A) {i : Nat} (hi : i < aN A) {v : Nat} (h1 : 1 ≤ v) (h2 : v ≤ 98) (h3 : v < aB A (aR A i)) (hn : aN A < 24) : ∃ B', axEv ro (d + 4) kX0_splitSlug [.ref 1, .int (nI (aR A i)), .int (nI v)] (hX B Y sl P G tl) (some (.int (nI (aFr A)))) (hX (B') Y sl P G tl) ∧ CR B' (aSplit A i v (aR A i) (aFr A)) := by
  have hb := hO.b hi
  have hk := hO.r hi
  have hz := aFr_lt hO hn
  have hfr := aFr_free hO hn
  have hin : aIn A (aR A i) := ⟨i, hi, rfl⟩
  have c1 := cr_add (p := i + 1) (v := aW A (aR A i) - v) hC hz hfr (by omega)
  have hm := x0_makeSlug (ro := ro) (d := d) (Y := Y) (sl := sl) (P := P) (G := G) (tl := tl) (p := i + 1) (v := aW A (aR A i) - v) hO hC hn (by omega)
  have hhas := x0_has_in (ro := ro) (d := d + 1) (Y := Y) (sl := sl) (P := P) (G := G) (tl := tl) hO hC hi
  have hpl := x0_placeOf (ro := ro) (d := d + 1) (Y := Y) (sl := sl) (P := P) (G := G) (tl := tl) hO hC hi
  have hbt := x0_beatsOf (ro := ro) (d := d + 1) (Y := Y) (sl := sl) (P := P) (G := G) (tl := tl) hO hC hi
  have hwr := x0_writtenOf (ro := ro) (d := d + 1) (Y := Y) (sl := sl) (P := P) (G := G) (tl := tl) hO hC hi
  have ebt := cr_bt hC hi
  have etn := cr_tnr hC hi
  have hrows := fun j (hj : j < aN A) => cr_nd hC hj
  have hkz : aR A i ≠ aFr A := fun e => hfr (by rw [← e]; exact hin)
  have hne : ∀ j, j < aN A → aR A j ≠ aFr A := fun j hj e => hfr ⟨j, hj, e⟩
  generalize aFr A = z at *
  generalize hke : aR A i = k at *
  have c2 := cr_bts (k := z) (v := aB A k - v) c1
  have c3 := cr_wrs (k := k) (v := v) c2
  have c4 := cr_bts (k := k) (v := v) c3
  have c5 := cr_ndF (f := upd (hoF (upd (bNd B) z 0) k z 24) z (bi k)) (g := aSplN A k z) c4 (fun j hj => by
    have key : ∀ w, aIns (aR A) (i + 1) z j = w → upd (hoF (upd (bNd B) z 0) k z 24) z (bi k) w = aSplN A k z w := by
      intro w hw
      rcases aIns_is (aR A) (p := i + 1) (k := z) hj (by omega) with ⟨-, e2⟩ | ⟨j2, hj2, e2⟩
      · rw [← hw, e2, pk_us]
        unfold aSplN
        rw [if_pos rfl]
      · have hjz := hne j2 hj2
        have e3 := hrows j2 hj2
        have hr := hO.r hj2
        rw [← hw, e2, pk_un hjz]
        unfold aSplN hoF
        rw [pk_un hjz, e3, if_neg hjz]
        by_cases hb : bt (aD A (aR A j2)) k = true
        · rw [if_pos hb, if_pos ⟨hr, hb⟩]
        · rw [if_neg hb, if_neg (fun w => hb w.2)]
    exact key _ rfl)
  have pre : ∀ Bf r2, axEv ro (d + 3) kX0_handOverTurn [.ref 1, .int (nI k), .int (nI z)] (hX (bNd_ (bBt_ (bWr_ (bBt_ (bAdd B (aN A) (i + 1) (aW A k - v) z) (upd (upd (bBt B) z (nI (aW A k - v))) z (nI (aB A k - v)))) (upd (upd (bWr B) z (nI (aW A k - v))) k (nI v))) (upd (upd (upd (bBt B) z (nI (aW A k - v))) z (nI (aB A k - v))) k (nI v))) (upd (hoF (upd (bNd B) z 0) k z 24) z (bi k))) Y sl P G tl) none (hX (Bf) Y sl P G tl) → r2 = nI z → axEv ro (d + 4) kX0_splitSlug [.ref 1, .int (nI k), .int (nI v)] (hX B Y sl P G tl) (some (.int r2)) (hX (Bf) Y sl P G tl) := by
    intro Bf r2 ht hr2
    subst hr2
    refine ev_in rfl rfl (Nat.le_of_ble_eq_true rfl) rfl ?_
    refine wp_run rfl ?_
    refine wp_v1 rfl rfl (Nat.le_of_ble_eq_true rfl) (hhas) ?_
    refine wp_run rfl ?_
    refine wp_ifne rfl (fun _ => ?_) (fun hz_ => absurd ((by decide : ¬ (1 : Int32) = 0)) hz_)
    refine wp_run rfl ?_
    refine wp_iclt rfl (fun hz_ => absurd hz_ (nI_nlt (b := 1) h1 (by omega))) (fun _ => ?_)
    refine wp_run rfl ?_
    refine wp_icle rfl (fun _ => ?_) (fun hz_ => absurd (nI_le (b := 98) h2 (by omega)) hz_)
    refine wp_run rfl ?_
    refine wp_v1 rfl rfl (Nat.le_of_ble_eq_true rfl) (hbt) ?_
    refine wp_run rfl ?_
    refine wp_icgt rfl (fun _ => ?_) (fun hz_ => absurd (nI_lt h3 (by omega)) hz_)
    refine wp_run rfl ?_
    rw [cr_sz hC]
    refine wp_iclt rfl (fun _ => ?_) (fun hz_ => absurd (nI_lt (b := 24) hn (by omega)) hz_)
    refine wp_run rfl ?_
    refine wp_v1 rfl rfl (Nat.le_of_ble_eq_true rfl) (hpl) ?_
    refine wp_run rfl ?_
    refine wp_v1 rfl rfl (Nat.le_of_ble_eq_true rfl) (hwr) ?_
    refine wp_run rfl ?_
    rw [nI_1, pk_sub (by omega)]
    refine wp_v2 rfl rfl (Nat.le_of_ble_eq_true rfl) (hm) ?_
    refine wp_run rfl ?_
    refine wp_v1 rfl rfl (Nat.le_of_ble_eq_true rfl) (x0_beatsOf0 hk) ?_
    refine wp_run rfl ?_
    rw [show bBt (bAdd B (aN A) (i + 1) (aW A k - v) z) k = nI (aB A k) from (pk_un hkz).trans ebt, pk_sub (by omega)]
    refine wp_s3v rfl (Nat.le_of_ble_eq_true rfl) (x4_store (h1 := hX (bBt_ (bAdd B (aN A) (i + 1) (aW A k - v) z) (upd (upd (bBt B) z (nI (aW A k - v))) z (nI (aB A k - v)))) Y sl P G tl) rfl hz (by decide) rfl) ?_
    refine wp_run rfl ?_
    refine wp_s3v rfl (Nat.le_of_ble_eq_true rfl) (x4_store (h1 := hX (bWr_ (bBt_ (bAdd B (aN A) (i + 1) (aW A k - v) z) (upd (upd (bBt B) z (nI (aW A k - v))) z (nI (aB A k - v)))) (upd (upd (bWr B) z (nI (aW A k - v))) k (nI v))) Y sl P G tl) rfl hk (by decide) rfl) ?_
    refine wp_run rfl ?_
    refine wp_s3v rfl (Nat.le_of_ble_eq_true rfl) (x4_store (h1 := hX (bBt_ (bWr_ (bBt_ (bAdd B (aN A) (i + 1) (aW A k - v) z) (upd (upd (bBt B) z (nI (aW A k - v))) z (nI (aB A k - v)))) (upd (upd (bWr B) z (nI (aW A k - v))) k (nI v))) (upd (upd (upd (bBt B) z (nI (aW A k - v))) z (nI (aB A k - v))) k (nI v))) Y sl P G tl) rfl hk (by decide) rfl) ?_
    refine wp_run rfl ?_
    refine wp_v2v rfl rfl (Nat.le_of_ble_eq_true rfl) (x0_handOverNeeds hk hz) ?_
    refine wp_run rfl ?_
    refine wp_v2v rfl rfl (Nat.le_of_ble_eq_true rfl) (ht) ?_
    refine wp_run rfl ?_
    exact wp_ret rfl rfl ⟨rfl, rfl⟩
  cases htk : aT A k with
  | false =>
    rw [htk] at etn
    refine ⟨_, pre _ _ (x0_handOverTurn_no hk etn) rfl, ?_⟩
    unfold aSplit
    rw [if_neg (by rw [htk]; decide)]
    exact c5
  | true =>
    rw [htk] at etn
    refine ⟨_, pre _ _ (x0_handOverTurn_yes hk hz etn) rfl, ?_⟩
    unfold aSplit
    rw [if_pos htk]
    have c6 := cr_turnOff c5 hk (show va_up (aT A) z false k = true by rw [va_no hkz]; exact htk)
    have c7 := cr_turnOn (k := z) c6 hz ⟨i + 1, by show i + 1 < aN A + 1; omega, aIns_at (aR A) (i + 1) z⟩ (show (if z = k then _ else va_up (aT A) z false z) = false by rw [if_neg (fun e => hkz e.symm), va_is])
    exact c7
end AX26
