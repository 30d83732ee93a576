/-! THE CLASS: the pad's orders are carried out. -/
def spOrd (A : axAD) (k v w : Nat) (r : Int32) (A' : axAD) : Prop :=
  (k = 115 ∧ spAdd A (nI (aN A)) (nI v) (nI w) r A') ∨ (k = 110 ∧ spNeed A (nI v) (nI w) r A') ∨ (k = 109 ∧ spMove A (nI v) (nI w) r A') ∨
  (k = 120 ∧ spSwap A (nI v) (nI w) r A') ∨ (k = 116 ∧ spTrim A (nI v) (nI w) r A') ∨ (k = 102 ∧ spFit A (nI v) r A')
/-- the orders from c on, carried out: how many, and what board is left -/
def spRun (t : Nat → Nat) (pl : Nat) : Nat → Nat → axAD → Nat → axAD → Prop
  | 0, _, A, n, A' => n = 0 ∧ A' = A
  | m + 1, c, A, n, A' => ∃ r A1, spOrd A (sgA t pl c) (rdO t pl c).2.2.1 (rdO t pl c).2.2.2 r A1 ∧ ((r < 0 ∧ n = 0 ∧ A' = A) ∨ (¬ r < 0 ∧ (((rdE t pl c).2.2 = true ∧ n = 1 ∧ A' = A1) ∨ ((rdE t pl c).2.2 = false ∧ ∃ n', n = n' + 1 ∧ spRun t pl m (rdE t pl c).2.1 A1 n' A'))))
theorem rdO_k {t : Nat → Nat} {pl c : Nat} (h : (rdO t pl c).1 = true) : sgA t pl c = 115 ∨ sgA t pl c = 110 ∨ sgA t pl c = 109 ∨ sgA t pl c = 120 ∨ sgA t pl c = 116 ∨ sgA t pl c = 102 := by
  by_cases e1 : sgA t pl c = 115
  · exact Or.inl e1
  by_cases e2 : sgA t pl c = 110
  · exact Or.inr (Or.inl e2)
  by_cases e3 : sgA t pl c = 109
  · exact Or.inr (Or.inr (Or.inl e3))
  by_cases e4 : sgA t pl c = 120
  · exact Or.inr (Or.inr (Or.inr (Or.inl e4)))
  by_cases e5 : sgA t pl c = 116
  · exact Or.inr (Or.inr (Or.inr (Or.inr (Or.inl e5))))
  by_cases e6 : sgA t pl c = 102
  · exact Or.inr (Or.inr (Or.inr (Or.inr (Or.inr e6))))
  rw [rdO_no e1 e2 e3 e4 e5 e6] at h
  cases h
theorem spOrd_ex {A : axAD} (hO : aOk A) {k : Nat} (hk : k = 115 ∨ k = 110 ∨ k = 109 ∨ k = 120 ∨ k = 116 ∨ k = 102) (v w : Nat) : ∃ r A', spOrd A k v w r A' := by
  rcases hk with h | h | h | h | h | h
  · obtain ⟨r, A', hs⟩ := spAdd_ex hO (nI (aN A)) (nI v) (nI w)
    exact ⟨r, A', Or.inl ⟨h, hs⟩⟩
  · obtain ⟨r, A', hs⟩ := spNeed_ex A (nI v) (nI w)
    exact ⟨r, A', Or.inr (Or.inl ⟨h, hs⟩)⟩
  · obtain ⟨r, A', hs⟩ := spMove_ex hO (nI v) (nI w)
    exact ⟨r, A', Or.inr (Or.inr (Or.inl ⟨h, hs⟩))⟩
  · obtain ⟨r, A', hs⟩ := spSwap_ex A (nI v) (nI w)
    exact ⟨r, A', Or.inr (Or.inr (Or.inr (Or.inl ⟨h, hs⟩)))⟩
  · obtain ⟨r, A', hs⟩ := spTrim_ex A (nI v) (nI w)
    exact ⟨r, A', Or.inr (Or.inr (Or.inr (Or.inr (Or.inl ⟨h, hs⟩))))⟩
  · obtain ⟨r, A', hs⟩ := spFit_ex hO (nI v)
    exact ⟨r, A', Or.inr (Or.inr (Or.inr (Or.inr (Or.inr ⟨h, hs⟩))))⟩
theorem aFa_none {t : Nat → Nat} {pl m c : Nat} (h : aFa t pl (m + 1) c = none) : (rdE t pl c).1 = true ∧ ((rdE t pl c).2.2 = true ∨ ((rdE t pl c).2.2 = false ∧ aFa t pl m (rdE t pl c).2.1 = none)) := by
  rw [aFa] at h
  cases e : (rdE t pl c).1 with
  | false => rw [e, if_neg Bool.false_ne_true] at h; cases h
  | true =>
    rw [e, if_pos rfl] at h
    refine ⟨rfl, ?_⟩
    cases e2 : (rdE t pl c).2.2 with
    | true => exact Or.inl rfl
    | false => rw [e2, if_neg Bool.false_ne_true] at h; exact Or.inr ⟨rfl, h⟩
theorem rdE_end (t : Nat → Nat) (pl : Nat) : rdE t pl pl = (false, pl, false) := by
  have e : sgA t pl pl = 0 := by unfold sgA; rw [if_neg (Nat.lt_irrefl _)]
  unfold rdE
  rw [rdO_no (by omega) (by omega) (by omega) (by omega) (by omega) (by omega)]
  rfl
theorem rdE_last {t : Nat → Nat} {pl c : Nat} (hc : c ≤ pl) (h : (rdE t pl c).2.2 = true) : (rdE t pl c).2.1 = pl := by
  have h1 := (rdE_le (t := t) hc).1
  unfold rdE rdT at h h1 ⊢
  split at h
  · rename_i e
    rw [if_pos e] at h1 ⊢
    split at h
    · rename_i e2
      rw [if_pos e2] at h1 ⊢
      have h1 : (rdO t pl c).2.1 ≤ pl := h1
      show (rdO t pl c).2.1 = pl
      omega
    · split at h <;> cases h
  · cases h
section AX45
variable {ro : axRo} {E : axCall} {cd : List axE} {pc : Nat} {L : axL} {S : List Value} {Q : Option Value → axH → Prop} {d : Nat} {h h1 : axH} {B : axBD} {Y : axYD} {sl : Nat → Option Nat} {P : axPD} {G : axGD} {tl : axH} {A A' : axAD} {f : Nat → Int32} {t : Nat → Nat} {pl c : Nat} {cu la ki fi se r : Int32}
theorem x2_firstNumber : axEv ro (d + 1) kX2_firstNumber [.ref 11] ((hX B Y sl (f, nI pl, cu, la, ki, fi, se) G tl)) (some (.int fi)) ((hX B Y sl (f, nI pl, cu, la, ki, fi, se) G tl)) := by
  refine ev_in rfl rfl (Nat.le_of_ble_eq_true rfl) rfl ?_
  refine wp_run rfl ?_
  exact wp_ret rfl rfl ⟨rfl, rfl⟩
theorem x2_secondNumber : axEv ro (d + 1) kX2_secondNumber [.ref 11] ((hX B Y sl (f, nI pl, cu, la, ki, fi, se) G tl)) (some (.int se)) ((hX B Y sl (f, nI pl, cu, la, ki, fi, se) G tl)) := by
  refine ev_in rfl rfl (Nat.le_of_ble_eq_true rfl) rfl ?_
  refine wp_run rfl ?_
  exact wp_ret rfl rfl ⟨rfl, rfl⟩
theorem x2_kind {k : Nat} (hk : k < 128) : axEv ro (d + 1) kX2_kind [.ref 11] ((hX B Y sl (f, nI pl, cu, la, nI k, fi, se) G tl)) (some (.int (nI k))) ((hX B Y sl (f, nI pl, cu, la, nI k, fi, se) G tl)) := by
  refine ev_in rfl rfl (Nat.le_of_ble_eq_true rfl) rfl ?_
  refine wp_run rfl ?_
  exact wp_ret rfl (congrArg Value.int (nar_c k hk)) ⟨rfl, rfl⟩
theorem x4_carryOrder (hO : aOk A) (hC : CR B A) {k v w : Nat} (hS : spOrd A k v w r A') (hse : k ≠ 102 → se = nI w) : ∃ B', axEv ro (d + 6) kX4_carryOrder [.ref 0] (hX B Y sl (f, nI pl, cu, la, nI k, nI v, se) G tl) (some (.int r)) (hX B' Y sl (f, nI pl, cu, la, nI k, nI v, se) G tl) ∧ CR B' A' ∧ aOk A' ∧ spR A r A' := by
  rcases hS with ⟨rfl, hS⟩ | ⟨rfl, hS⟩ | ⟨rfl, hS⟩ | ⟨rfl, hS⟩ | ⟨rfl, hS⟩ | ⟨rfl, hS⟩
  · have := hse (by decide)
    subst this
    obtain ⟨B', hev, hC', hO', hr⟩ := x0_add_sp (ro := ro) (d := d) (Y := Y) (sl := sl) (P := (f, nI pl, cu, la, nI 115, nI v, nI w)) (G := G) (tl := tl) hO hC hS
    refine ⟨B', ?_, hC', hO', hr⟩
    refine ev_in rfl rfl (Nat.le_of_ble_eq_true rfl) rfl ?_
    refine wp_run rfl ?_
    refine wp_v0 rfl rfl (Nat.le_of_ble_eq_true rfl) (x2_firstNumber (d := d + 4)) ?_
    refine wp_run rfl ?_
    refine wp_v0 rfl rfl (Nat.le_of_ble_eq_true rfl) (x2_secondNumber (d := d + 4)) ?_
    refine wp_run rfl ?_
    refine wp_v0 rfl rfl (Nat.le_of_ble_eq_true rfl) (x2_kind (d := d + 4) (k := 115) (by decide)) ?_
    refine wp_run rfl ?_
    refine wp_sw rfl ?_
    refine wp_run rfl ?_
    refine wp_v0 rfl rfl (Nat.le_of_ble_eq_true rfl) (x0_size (d := d + 4) hC) ?_
    refine wp_run rfl ?_
    refine wp_v3 rfl rfl (Nat.le_of_ble_eq_true rfl) (hev) ?_
    refine wp_run rfl ?_
    exact wp_ret rfl rfl ⟨rfl, rfl⟩
  · have := hse (by decide)
    subst this
    obtain ⟨B', hev, hC', hO', hr⟩ := x0_need_sp (ro := ro) (d := d) (Y := Y) (sl := sl) (P := (f, nI pl, cu, la, nI 110, nI v, nI w)) (G := G) (tl := tl) hO hC hS
    refine ⟨B', ?_, hC', hO', hr⟩
    refine ev_in rfl rfl (Nat.le_of_ble_eq_true rfl) rfl ?_
    refine wp_run rfl ?_
    refine wp_v0 rfl rfl (Nat.le_of_ble_eq_true rfl) (x2_firstNumber (d := d + 4)) ?_
    refine wp_run rfl ?_
    refine wp_v0 rfl rfl (Nat.le_of_ble_eq_true rfl) (x2_secondNumber (d := d + 4)) ?_
    refine wp_run rfl ?_
    refine wp_v0 rfl rfl (Nat.le_of_ble_eq_true rfl) (x2_kind (d := d + 4) (k := 110) (by decide)) ?_
    refine wp_run rfl ?_
    refine wp_sw rfl ?_
    refine wp_run rfl ?_
    refine wp_v2 rfl rfl (Nat.le_of_ble_eq_true rfl) (hev) ?_
    refine wp_run rfl ?_
    exact wp_ret rfl rfl ⟨rfl, rfl⟩
  · have := hse (by decide)
    subst this
    obtain ⟨B', hev, hC', hO', hr⟩ := x0_move_sp (ro := ro) (d := d) (Y := Y) (sl := sl) (P := (f, nI pl, cu, la, nI 109, nI v, nI w)) (G := G) (tl := tl) hO hC hS
    refine ⟨B', ?_, hC', hO', hr⟩
    refine ev_in rfl rfl (Nat.le_of_ble_eq_true rfl) rfl ?_
    refine wp_run rfl ?_
    refine wp_v0 rfl rfl (Nat.le_of_ble_eq_true rfl) (x2_firstNumber (d := d + 4)) ?_
    refine wp_run rfl ?_
    refine wp_v0 rfl rfl (Nat.le_of_ble_eq_true rfl) (x2_secondNumber (d := d + 4)) ?_
    refine wp_run rfl ?_
    refine wp_v0 rfl rfl (Nat.le_of_ble_eq_true rfl) (x2_kind (d := d + 4) (k := 109) (by decide)) ?_
    refine wp_run rfl ?_
    refine wp_sw rfl ?_
    refine wp_run rfl ?_
    refine wp_v2 rfl rfl (Nat.le_of_ble_eq_true rfl) (hev) ?_
    refine wp_run rfl ?_
    exact wp_ret rfl rfl ⟨rfl, rfl⟩
  · have := hse (by decide)
    subst this
    obtain ⟨B', hev, hC', hO', hr⟩ := x0_swap_sp (ro := ro) (d := d) (Y := Y) (sl := sl) (P := (f, nI pl, cu, la, nI 120, nI v, nI w)) (G := G) (tl := tl) hO hC hS
    refine ⟨B', ?_, hC', hO', hr⟩
    refine ev_in rfl rfl (Nat.le_of_ble_eq_true rfl) rfl ?_
    refine wp_run rfl ?_
    refine wp_v0 rfl rfl (Nat.le_of_ble_eq_true rfl) (x2_firstNumber (d := d + 4)) ?_
    refine wp_run rfl ?_
    refine wp_v0 rfl rfl (Nat.le_of_ble_eq_true rfl) (x2_secondNumber (d := d + 4)) ?_
    refine wp_run rfl ?_
    refine wp_v0 rfl rfl (Nat.le_of_ble_eq_true rfl) (x2_kind (d := d + 4) (k := 120) (by decide)) ?_
    refine wp_run rfl ?_
    refine wp_sw rfl ?_
    refine wp_run rfl ?_
    refine wp_v2 rfl rfl (Nat.le_of_ble_eq_true rfl) (hev) ?_
    refine wp_run rfl ?_
    exact wp_ret rfl rfl ⟨rfl, rfl⟩
  · have := hse (by decide)
    subst this
    obtain ⟨B', hev, hC', hO', hr⟩ := x0_trim_sp (ro := ro) (d := d) (Y := Y) (sl := sl) (P := (f, nI pl, cu, la, nI 116, nI v, nI w)) (G := G) (tl := tl) hO hC hS
    refine ⟨B', ?_, hC', hO', hr⟩
    refine ev_in rfl rfl (Nat.le_of_ble_eq_true rfl) rfl ?_
    refine wp_run rfl ?_
    refine wp_v0 rfl rfl (Nat.le_of_ble_eq_true rfl) (x2_firstNumber (d := d + 4)) ?_
    refine wp_run rfl ?_
    refine wp_v0 rfl rfl (Nat.le_of_ble_eq_true rfl) (x2_secondNumber (d := d + 4)) ?_
    refine wp_run rfl ?_
    refine wp_v0 rfl rfl (Nat.le_of_ble_eq_true rfl) (x2_kind (d := d + 4) (k := 116) (by decide)) ?_
    refine wp_run rfl ?_
    refine wp_sw rfl ?_
    refine wp_run rfl ?_
    refine wp_v2 rfl rfl (Nat.le_of_ble_eq_true rfl) (hev) ?_
    refine wp_run rfl ?_
    exact wp_ret rfl rfl ⟨rfl, rfl⟩
  · obtain ⟨B', hev, hC', hO', hr⟩ := x0_fit_sp (ro := ro) (d := d) (Y := Y) (sl := sl) (P := (f, nI pl, cu, la, nI 102, nI v, se)) (G := G) (tl := tl) hO hC hS
    refine ⟨B', ?_, hC', hO', hr⟩
    refine ev_in rfl rfl (Nat.le_of_ble_eq_true rfl) rfl ?_
    refine wp_run rfl ?_
    refine wp_v0 rfl rfl (Nat.le_of_ble_eq_true rfl) (x2_firstNumber (d := d + 4)) ?_
    refine wp_run rfl ?_
    refine wp_v0 rfl rfl (Nat.le_of_ble_eq_true rfl) (x2_secondNumber (d := d + 4)) ?_
    refine wp_run rfl ?_
    refine wp_v0 rfl rfl (Nat.le_of_ble_eq_true rfl) (x2_kind (d := d + 4) (k := 102) (by decide)) ?_
    refine wp_run rfl ?_
    refine wp_sw rfl ?_
    refine wp_run rfl ?_
    refine wp_v1 rfl rfl (Nat.le_of_ble_eq_true rfl) (hev) ?_
    refine wp_run rfl ?_
    exact wp_ret rfl rfl ⟨rfl, rfl⟩
theorem x4_orders (hT : PT f t pl) {A' : axAD} : ∀ m c i B A n la ki fi se, CR B A → aOk A → aFa t pl m c = none → spRun t pl m c A n A' → pl < c + m → c ≤ pl → 2 * i ≤ c → ∃ B' cu' la' ki' fi' se', CR B' A' ∧ aOk A' ∧ i + n ≤ 80 ∧ ∀ Q : Option Value → axH → Prop, axW ro (axEv ro (d + 6)) cdX4_carryOut 68 [some (.ref 0), some (.int (nI (i + n)))] [.ref 11] (hX B' Y sl (f, nI pl, cu', la', ki', fi', se') G tl) Q → axW ro (axEv ro (d + 6)) cdX4_carryOut 38 [some (.ref 0), some (.int (nI i))] [.int 80, .int (nI i)] (hX B Y sl (f, nI pl, nI c, la, ki, fi, se) G tl) Q := by
  have hl := hT.1
  intro m
  induction m with
  | zero => intro c i B A n la ki fi se _ _ _ _ h1 h2; omega
  | succ m ih =>
    intro c i B A n la ki fi se hC hO hfa hrun h1 h2 h3
    obtain ⟨he1, he2⟩ := aFa_none hfa
    obtain ⟨r1, r2, r3⟩ := rdE_le (t := t) h2
    have hok := r2 he1
    have hlast := rdE_last (t := t) h2
    have hlt := ((rdO_le (t := t) h2).2.1 hok).2
    obtain ⟨fi', se', hev, hf⟩ := x2_readOrder (ro := ro) (d := d + 1) (B := B) (Y := Y) (sl := sl) (G := G) (tl := tl) (la := la) (ki := ki) (fi := fi) (se := se) hT h2
    obtain ⟨rfl, hse⟩ := hf hok
    obtain ⟨r, A1, hS, hrun⟩ := hrun
    obtain ⟨B1, hev2, hC1, hO1, hr⟩ := x4_carryOrder (ro := ro) (d := d) (B := B) (Y := Y) (sl := sl) (f := f) (pl := pl) (cu := nI (rdE t pl c).2.1) (la := if (rdE t pl c).2.2 = true then 1 else 0) (G := G) (tl := tl) hO hC hS hse
    rw [he1] at hev
    have hev : axEv ro (d + 6) kX2_readOrder [.ref 11] (hX B Y sl (f, nI pl, nI c, la, ki, fi, se) G tl) (some (.int 1)) (hX B Y sl (f, nI pl, nI (rdE t pl c).2.1, (if (rdE t pl c).2.2 = true then 1 else 0), nI (sgA t pl c), nI (rdO t pl c).2.2.1, se') G tl) := hev
    rcases hrun with ⟨hr0, rfl, rfl⟩ | ⟨hr0, hrun⟩
    · rcases hr with ⟨-, rfl⟩ | ⟨n1, hn1, rfl⟩
      · refine ⟨B1, nI (rdE t pl c).2.1, (if (rdE t pl c).2.2 = true then 1 else 0), nI (sgA t pl c), nI (rdO t pl c).2.2.1, se', hC1, hO1, by omega, fun Q K => ?_⟩
        refine wp_icge rfl (fun hz_ => absurd hz_ (nI_ge (b := 80) (by omega) (by omega))) (fun _ => ?_)
        refine wp_run rfl ?_
        refine wp_v0 rfl rfl (Nat.le_of_ble_eq_true rfl) (hev) ?_
        refine wp_run rfl ?_
        refine wp_ifeq rfl (fun hz_ => absurd hz_ ((by decide : ¬ (1 : Int32) = 0))) (fun _ => ?_)
        refine wp_run rfl ?_
        refine wp_v0 rfl rfl (Nat.le_of_ble_eq_true rfl) (hev2) ?_
        refine wp_run rfl ?_
        refine wp_iflt rfl (fun _ => ?_) (fun hz_ => absurd (hr0) hz_)
        refine wp_run rfl ?_
        exact K
      · exact absurd hr0 (nI_pos hn1)
    · rcases hrun with ⟨hb, rfl, rfl⟩ | ⟨hb, n', rfl, hrun⟩
      · obtain ⟨fi2, se2, hev3, -⟩ := x2_readOrder (ro := ro) (d := d + 1) (B := B1) (Y := Y) (sl := sl) (G := G) (tl := tl) (c := pl) (la := if (rdE t pl c).2.2 = true then 1 else 0) (ki := nI (sgA t pl c)) (fi := nI (rdO t pl c).2.2.1) (se := se') hT (Nat.le_refl _)
        rw [rdE_end] at hev3
        have hev3 : axEv ro (d + 6) kX2_readOrder [.ref 11] (hX B1 Y sl (f, nI pl, nI pl, (if (rdE t pl c).2.2 = true then 1 else 0), nI (sgA t pl c), nI (rdO t pl c).2.2.1, se') G tl) (some (.int 0)) (hX B1 Y sl (f, nI pl, nI pl, 0, nI (sgA t pl pl), fi2, se2) G tl) := hev3
        refine ⟨B1, nI pl, 0, nI (sgA t pl pl), fi2, se2, hC1, hO1, by omega, fun Q K => ?_⟩
        refine wp_icge rfl (fun hz_ => absurd hz_ (nI_ge (b := 80) (by omega) (by omega))) (fun _ => ?_)
        refine wp_run rfl ?_
        refine wp_v0 rfl rfl (Nat.le_of_ble_eq_true rfl) (hev) ?_
        refine wp_run rfl ?_
        refine wp_ifeq rfl (fun hz_ => absurd hz_ ((by decide : ¬ (1 : Int32) = 0))) (fun _ => ?_)
        refine wp_run rfl ?_
        refine wp_v0 rfl rfl (Nat.le_of_ble_eq_true rfl) (hev2) ?_
        refine wp_run rfl ?_
        refine wp_iflt rfl (fun hz_ => absurd hz_ (hr0)) (fun _ => ?_)
        refine wp_run rfl ?_
        rw [nI_1, hlast hb]
        refine wp_icge rfl (fun hz_ => absurd hz_ (nI_ge (b := 80) (show i + 1 < 80 by omega) (by omega))) (fun _ => ?_)
        refine wp_run rfl ?_
        refine wp_v0 rfl rfl (Nat.le_of_ble_eq_true rfl) (hev3) ?_
        refine wp_run rfl ?_
        refine wp_ifeq rfl (fun _ => ?_) (fun hz_ => absurd (rfl) hz_)
        refine wp_run rfl ?_
        exact K
      · have h4 := r3 he1 hb
        have hfa2 : aFa t pl m (rdE t pl c).2.1 = none := by
          rcases he2 with z | z
          · rw [hb] at z; cases z
          · exact z.2
        obtain ⟨B', cu', la', ki', fi', se2, hC', hO', hle, hgo⟩ := ih (rdE t pl c).2.1 (i + 1) B1 A1 n' (if (rdE t pl c).2.2 = true then 1 else 0) (nI (sgA t pl c)) (nI (rdO t pl c).2.2.1) se' hC1 hO1 hfa2 hrun (by omega) r1 (by omega)
        refine ⟨B', cu', la', ki', fi', se2, hC', hO', by omega, fun Q K => ?_⟩
        refine wp_icge rfl (fun hz_ => absurd hz_ (nI_ge (b := 80) (by omega) (by omega))) (fun _ => ?_)
        refine wp_run rfl ?_
        refine wp_v0 rfl rfl (Nat.le_of_ble_eq_true rfl) (hev) ?_
        refine wp_run rfl ?_
        refine wp_ifeq rfl (fun hz_ => absurd hz_ ((by decide : ¬ (1 : Int32) = 0))) (fun _ => ?_)
        refine wp_run rfl ?_
        refine wp_v0 rfl rfl (Nat.le_of_ble_eq_true rfl) (hev2) ?_
        refine wp_run rfl ?_
        refine wp_iflt rfl (fun hz_ => absurd hz_ (hr0)) (fun _ => ?_)
        refine wp_run rfl ?_
        rw [nI_1]
        refine hgo Q ?_
        rw [show i + 1 + n' = i + (n' + 1) by omega]
        exact K
end AX45
