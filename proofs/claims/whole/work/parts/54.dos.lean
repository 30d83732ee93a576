/-! THE REFERENCE: slugs come, need, are trimmed, moved, swapped. -/
theorem tkF_lo (f : Nat → Int32) {p q i : Nat} (h : i < p ∨ q ≤ i + 1) : tkF f p q i = f i := if_neg (fun z => by omega)
theorem pnF_lo (f : Nat → Int32) {q n i : Nat} (h : i ≤ q ∨ n < i) : pnF f q n i = f i := if_neg (fun z => by omega)
theorem tk_off (s : Nat → Int32) (p n i : Nat) : tkF s (10 + p) (10 + n) (10 + i) = tkF (fun i => s (10 + i)) p n i := by
  unfold tkF
  by_cases e : p ≤ i ∧ i + 1 < n
  · rw [if_pos e, if_pos (by omega)]; rfl
  · rw [if_neg e, if_neg (by omega)]
theorem pn_off (s : Nat → Int32) (q n i : Nat) (x : Int32) : upd (pnF s (10 + q) (10 + n)) (10 + q) x (10 + i) = upd (pnF (fun i => s (10 + i)) q n) q x i := by
  by_cases e0 : i = q
  · rw [e0, pk_us, pk_us]
  · rw [pk_un (by omega), pk_un e0]
    unfold pnF
    by_cases e : q < i ∧ i ≤ n
    · rw [if_pos e, if_pos (by omega), show 10 + i - 1 = 10 + (i - 1) by omega]
    · rw [if_neg e, if_neg (by omega)]
theorem in_out {x : Int32} {n : Nat} (hn : n + 1 < 2 ^ 31) (h : x < 0 ∨ nI (n + 1) ≤ x) : x < 0 ∨ ¬ x ≤ nI n := by
  rcases h with h | h
  · exact Or.inl h
  · exact Or.inr (fun z => nI_ge (Nat.lt_succ_self n) hn (Int32.le_trans h z))
theorem aOw_row {A : axAD} (hO : aOw A) {r π : Nat → Nat} (h1 : ∀ a, a < aN A → π a < aN A ∧ r (π a) = aR A a) (h2 : ∀ i, i < aN A → ∃ a, a < aN A ∧ π a = i) : aOw (aRow A r) := by
  have hr : ∀ i, i < aN A → ∃ a, a < aN A ∧ π a = i ∧ r i = aR A a := fun i hi => by
    obtain ⟨a, ha, e⟩ := h2 i hi
    exact ⟨a, ha, e, by rw [← e]; exact (h1 a ha).2⟩
  refine ⟨hO.n, fun i hi => ?_, fun i j hi hj e => ?_, fun i hi => ?_, hO.2.2.2.2⟩
  · obtain ⟨a, ha, -, e2⟩ := hr i hi
    show r i < 24; rw [e2]; exact hO.r ha
  · obtain ⟨a, ha, e1, e2⟩ := hr i hi
    obtain ⟨b, hb, e3, e4⟩ := hr j hj
    have e : r i = r j := e
    rw [e2, e4] at e
    have := hO.inj ha hb e
    subst this
    rw [← e1, ← e3]
  · obtain ⟨a, ha, -, e2⟩ := hr i hi
    show 1 ≤ aB A (r i) ∧ aB A (r i) ≤ aW A (r i) ∧ aW A (r i) ≤ 99
    rw [e2]; exact hO.b ha
theorem aOw_swp {A : axAD} (hO : aOw A) {p q : Nat} (hp : p < aN A) (hq : q < aN A) : aOw (aSwp A p q) := aOw_row hO (swP_is hp hq) (swP_has hp hq)
theorem aOw_move {A : axAD} (hO : aOw A) {p q : Nat} (hp : p < aN A) (hq : q < aN A) : aOw (aMove A p q) := aOw_row hO (mvP_is hp hq) (mvP_has hp hq)
theorem mr_swp {s : Nat → Int32} {A : axAD} (hO : aOw A) (hR : MR s A) {p q : Nat} (hp : p < aN A) (hq : q < aN A) : MR (upd (upd s (10 + p) (nI (aR A q))) (10 + q) (nI (aR A p))) (aSwp A p q) := by
  have hn := hO.n
  refine mr_row hR (fun j hj => by rw [pk_un (by omega), pk_un (by omega)]) (fun j hj => by rw [pk_un (by omega), pk_un (by omega)]) (fun i hi => ?_) (fun i hi => aSwp_is hp hq hi) (fun j hj => ?_)
  · show _ = nI (if i = p then aR A q else if i = q then aR A p else aR A i)
    by_cases e1 : i = q
    · rw [e1, pk_us]
      by_cases e2 : q = p
      · rw [if_pos e2, e2]
      · rw [if_neg e2, if_pos rfl]
    · rw [pk_un (by omega)]
      by_cases e2 : i = p
      · rw [if_pos e2, e2, pk_us]
      · rw [pk_un (by omega), if_neg e2, if_neg e1]; exact (mr_rw hR hi :)
  · exact ⟨swP p q j, (swP_is hp hq j hj).1, (swP_is hp hq j hj).2⟩
section AX54
variable {ro : axRo} {d : Nat} {h : axH} {c : Nat → axC} {M : axMD} {tl : axH} {A A' : axAD} {x y w r : Int32}
theorem x5_takeOut {n p : Nat} (h0 : mS M 0 = nI n) (hn : n ≤ 24) (hp : p < n) : axEv ro (d + 1) kX5_takeOut [.ref 15, .int (nI p)] (hM c M tl) none (hM c (tkF (upd (mS M) 0 (nI (n - 1))) (10 + p) (10 + n), M.2) tl) := by
  have loop : ∀ m q, q + m = n - 1 → p ≤ q → axW ro (axEv ro d) cdX5_takeOut 18 [some (.ref 15), some (.int (nI p)), some (.int (nI q))] [.int 0, .ref 16, .int (nI q)] (hM c (tkF (upd (mS M) 0 (nI (n - 1))) (10 + p) (10 + q + 1), M.2) tl) (fun r' h' => r' = none ∧ h' = (hM c (tkF (upd (mS M) 0 (nI (n - 1))) (10 + p) (10 + n), M.2) tl)) := by
    intro m
    induction m with
    | zero =>
      intro q e hq
      refine wp_ald rfl rfl (vp_in_nI (n := 0) (by decide) (by decide)) (show tkF (upd (mS M) 0 (nI (n - 1))) (10 + p) (10 + q + 1) 0 = nI (n - 1) by rw [tkF_lo _ (by omega), pk_us]) ?_
      refine wp_run rfl ?_
      refine wp_icge rfl (fun _ => ?_) (fun hz_ => absurd (nI_le (show n - 1 ≤ q by omega) (by omega)) hz_)
      refine wp_run rfl ?_
      rw [show 10 + q + 1 = 10 + n by omega]
      exact wp_retv rfl ⟨rfl, rfl⟩
    | succ m ih =>
      intro q e hq
      refine wp_ald rfl rfl (vp_in_nI (n := 0) (by decide) (by decide)) (show tkF (upd (mS M) 0 (nI (n - 1))) (10 + p) (10 + q + 1) 0 = nI (n - 1) by rw [tkF_lo _ (by omega), pk_us]) ?_
      refine wp_run rfl ?_
      refine wp_icge rfl (fun hz_ => absurd hz_ (nI_ge (show q < n - 1 by omega) (by omega))) (fun _ => ?_)
      refine wp_run rfl ?_
      rw [show (10 : Int32) + nI (q) = nI (10 + (q)) from nI_add 10 (q)]
      rw [nI_1]
      refine wp_ald rfl rfl (vp_in_nI ((show 10 + q + 1 < 154 by omega)) (by decide)) (by rw [nI_clamp (by omega)]) ?_
      refine wp_run rfl ?_
      rw [show mS (tkF (upd (mS M) 0 (nI (n - 1))) (10 + p) (10 + q + 1), M.2) (10 + q + 1) = upd (mS M) 0 (nI (n - 1)) (10 + q + 1) from tkF_lo _ (by omega)]
      refine wp_ast (h1 := (hM c (tkF (upd (mS M) 0 (nI (n - 1))) (10 + p) (10 + (q + 1) + 1), M.2) tl)) rfl rfl (vp_in_nI (show 10 + q < 154 by omega) (by decide)) rfl (by rw [nI_clamp (by omega), show 10 + (q + 1) + 1 = 10 + q + 1 + 1 by omega, ← tkF_s _ (show 10 + p < 10 + q + 1 by omega)]; rfl) ?_
      refine wp_run rfl ?_
      rw [nI_1]
      exact ih (q + 1) (by omega) (by omega)
  refine ev_in rfl rfl (Nat.le_of_ble_eq_true rfl) rfl ?_
  refine wp_run rfl ?_
  refine wp_ald rfl rfl (vp_in_nI (n := 0) (by decide) (by decide)) (h0) ?_
  refine wp_run rfl ?_
  rw [nI_p1 (by omega)]
  refine wp_ast (h1 := (hM c (upd (mS M) 0 (nI (n - 1)), M.2) tl)) rfl rfl (vp_in_nI (n := 0) (by decide) (by decide)) rfl rfl ?_
  refine wp_run rfl ?_
  have := loop (n - 1 - p) p (by omega) (Nat.le_refl _)
  rw [tkF_0] at this
  exact this
theorem x5_putIn {n p : Nat} {z : Int32} (h0 : mS M 0 = nI n) (hn : n < 24) (hp : p ≤ n) : axEv ro (d + 1) kX5_putIn [.ref 15, .int (nI p), .int z] (hM c M tl) none (hM c (upd (upd (pnF (mS M) (10 + p) (10 + n)) (10 + p) z) 0 (nI (n + 1)), M.2) tl) := by
  have loop : ∀ m q, p + m = q → q ≤ n → axW ro (axEv ro d) cdX5_putIn 9 [some (.ref 15), some (.int (nI p)), some (.int z), some (.int (nI q))] [.int (nI p), .int (nI q)] (hM c (pnF (mS M) (10 + q) (10 + n), M.2) tl) (fun r' h' => r' = none ∧ h' = (hM c (upd (upd (pnF (mS M) (10 + p) (10 + n)) (10 + p) z) 0 (nI (n + 1)), M.2) tl)) := by
    intro m
    induction m with
    | zero =>
      intro q e hq
      have e : q = p := by omega
      subst e
      refine wp_icle rfl (fun _ => ?_) (fun hz_ => absurd (nI_le (Nat.le_refl _) (by omega)) hz_)
      refine wp_run rfl ?_
      rw [show (10 : Int32) + nI (q) = nI (10 + (q)) from nI_add 10 (q)]
      refine wp_ast (h1 := (hM c (upd (pnF (mS M) (10 + q) (10 + n)) (10 + q) z, M.2) tl)) rfl rfl (vp_in_nI (show 10 + q < 154 by omega) (by decide)) rfl (by rw [nI_clamp (by omega)]; rfl) ?_
      refine wp_run rfl ?_
      refine wp_ald rfl rfl (vp_in_nI (n := 0) (by decide) (by decide)) (show upd (pnF (mS M) (10 + q) (10 + n)) (10 + q) z 0 = nI n by rw [pk_un (by omega), pnF_lo _ (by omega), h0]) ?_
      refine wp_run rfl ?_
      rw [nI_1]
      refine wp_ast (h1 := (hM c (upd (upd (pnF (mS M) (10 + q) (10 + n)) (10 + q) z) 0 (nI (n + 1)), M.2) tl)) rfl rfl (vp_in_nI (n := 0) (by decide) (by decide)) rfl rfl ?_
      refine wp_run rfl ?_
      exact wp_retv rfl ⟨rfl, rfl⟩
    | succ m ih =>
      intro q e hq
      obtain ⟨k, rfl⟩ : ∃ k, q = k + 1 := ⟨q - 1, by omega⟩
      refine wp_icle rfl (fun hz_ => absurd hz_ (nI_ge (show p < k + 1 by omega) (by omega))) (fun _ => ?_)
      refine wp_run rfl ?_
      rw [show (10 : Int32) + nI (k + 1) = nI (10 + (k + 1)) from nI_add 10 (k + 1)]
      rw [show nI (10 + (k + 1)) - 1 = nI (10 + k) from nI_pred (10 + k)]
      refine wp_ald rfl rfl (vp_in_nI ((show 10 + k < 154 by omega)) (by decide)) (by rw [nI_clamp (by omega)]) ?_
      refine wp_run rfl ?_
      rw [show mS (pnF (mS M) (10 + (k + 1)) (10 + n), M.2) (10 + k) = mS M (10 + k) from pnF_lo _ (by omega)]
      refine wp_ast (h1 := (hM c (pnF (mS M) (10 + k) (10 + n), M.2) tl)) rfl rfl (vp_in_nI (show 10 + (k + 1) < 154 by omega) (by decide)) rfl (by rw [nI_clamp (by omega), ← pnF_s _ (show 10 + k + 1 ≤ 10 + n by omega)]; rfl) ?_
      refine wp_run rfl ?_
      rw [pk_m1]
      exact ih k (by omega) (by omega)
  refine ev_in rfl rfl (Nat.le_of_ble_eq_true rfl) rfl ?_
  refine wp_run rfl ?_
  refine wp_ald rfl rfl (vp_in_nI (n := 0) (by decide) (by decide)) (h0) ?_
  refine wp_run rfl ?_
  have := loop (n - p) n (by omega) (Nat.le_refl _)
  rw [pnF_0] at this
  exact this
theorem x5_l {k j : Nat} {v : Int32} (u : Nat) (hk : k < 24) (hu : u < 5) (e : 34 + 5 * k + u = j) : axEv ro (d + 1) kX5_lay [.ref 15, .int (nI k), .int (nI u), .int v] (hM c M tl) none (hM c (upd (mS M) j v, M.2) tl) := by
  subst e; exact x5_lay hk hu
theorem x5_doSlug (hO : aOw A) (hR : MR (mS M) A) (hS : spAdd A x y w r A') : ∃ s', axEv ro (d + 3) kX5_doSlug [.ref 15, .int x, .int y, .int w] (hM c M tl) (some (.int r)) (hM c (s', M.2) tl) ∧ (¬ r < 0 → MR s' A') := by
  have hn := hO.n
  rcases hS with ⟨hx, rfl, -⟩ | ⟨p, hp, rfl, hv, rfl, -⟩ | ⟨p, v, t, hp, rfl, h1, h2, rfl, h3, rfl, ⟨h24, rfl, -⟩ | ⟨hlt, z, hz, rfl, rfl⟩⟩
  · refine ⟨mS M, ?_, fun z => absurd (by decide : (-1 : Int32) < 0) z⟩
    refine ev_in rfl rfl (Nat.le_of_ble_eq_true rfl) rfl ?_
    refine wp_run rfl ?_
    refine wp_ald rfl rfl (vp_in_nI (n := 0) (by decide) (by decide)) (mr_sz hR) ?_
    refine wp_run rfl ?_
    refine wp_s3 rfl (Nat.le_of_ble_eq_true rfl) (x5_in_no (in_out (by omega) hx)) ?_
    refine wp_run rfl ?_
    refine wp_ifne rfl (fun hz_ => absurd hz_ (fun z => z rfl)) (fun _ => ?_)
    refine wp_run rfl ?_
    exact wp_ret rfl rfl ⟨rfl, rfl⟩
  · refine ⟨mS M, ?_, fun z => absurd (by decide : (-2 : Int32) < 0) z⟩
    refine ev_in rfl rfl (Nat.le_of_ble_eq_true rfl) rfl ?_
    refine wp_run rfl ?_
    refine wp_ald rfl rfl (vp_in_nI (n := 0) (by decide) (by decide)) (mr_sz hR) ?_
    refine wp_run rfl ?_
    refine wp_s3 rfl (Nat.le_of_ble_eq_true rfl) (x5_in_yes (nI_pos (by omega)) (nI_le (show p ≤ aN A by omega) (by omega))) ?_
    refine wp_run rfl ?_
    refine wp_ifne rfl (fun _ => ?_) (fun hz_ => absurd ((by decide : ¬ (1 : Int32) = 0)) hz_)
    refine wp_run rfl ?_
    by_cases hy : y < nI 1 ∨ ¬ y ≤ nI 99
    · refine wp_s3 rfl (Nat.le_of_ble_eq_true rfl) (x5_in_no hy) ?_
      refine wp_run rfl ?_
      refine wp_ifeq rfl (fun _ => ?_) (fun hz_ => absurd (rfl) hz_)
      refine wp_run rfl ?_
      exact wp_ret rfl rfl ⟨rfl, rfl⟩
    · have hw := hv.resolve_left hy
      refine wp_s3 rfl (Nat.le_of_ble_eq_true rfl) (x5_in_yes (fun z => hy (Or.inl z)) (Classical.byContradiction fun z => hy (Or.inr z))) ?_
      refine wp_run rfl ?_
      refine wp_ifeq rfl (fun hz_ => absurd hz_ ((by decide : ¬ (1 : Int32) = 0))) (fun _ => ?_)
      refine wp_run rfl ?_
      refine wp_s3 rfl (Nat.le_of_ble_eq_true rfl) (x5_in_no hw) ?_
      refine wp_run rfl ?_
      refine wp_ifne rfl (fun hz_ => absurd hz_ (fun z => z rfl)) (fun _ => ?_)
      refine wp_run rfl ?_
      exact wp_ret rfl rfl ⟨rfl, rfl⟩
  · refine ⟨mS M, ?_, fun z => absurd (by decide : (-4 : Int32) < 0) z⟩
    refine ev_in rfl rfl (Nat.le_of_ble_eq_true rfl) rfl ?_
    refine wp_run rfl ?_
    refine wp_ald rfl rfl (vp_in_nI (n := 0) (by decide) (by decide)) (mr_sz hR) ?_
    refine wp_run rfl ?_
    refine wp_s3 rfl (Nat.le_of_ble_eq_true rfl) (x5_in_yes (nI_pos (by omega)) (nI_le (show p ≤ aN A by omega) (by omega))) ?_
    refine wp_run rfl ?_
    refine wp_ifne rfl (fun _ => ?_) (fun hz_ => absurd ((by decide : ¬ (1 : Int32) = 0)) hz_)
    refine wp_run rfl ?_
    refine wp_s3 rfl (Nat.le_of_ble_eq_true rfl) (x5_in_yes (nI_nlt (b := 1) h1 (by omega)) (nI_le (b := 99) h2 (by omega))) ?_
    refine wp_run rfl ?_
    refine wp_ifeq rfl (fun hz_ => absurd hz_ ((by decide : ¬ (1 : Int32) = 0))) (fun _ => ?_)
    refine wp_run rfl ?_
    refine wp_s3 rfl (Nat.le_of_ble_eq_true rfl) (x5_in_yes (nI_pos (by omega)) (nI_le (b := 1) h3 (by omega))) ?_
    refine wp_run rfl ?_
    refine wp_ifne rfl (fun _ => ?_) (fun hz_ => absurd ((by decide : ¬ (1 : Int32) = 0)) hz_)
    refine wp_run rfl ?_
    refine wp_ald rfl rfl (vp_in_nI (n := 0) (by decide) (by decide)) (mr_sz hR) ?_
    refine wp_run rfl ?_
    refine wp_icne rfl (fun hz_ => absurd hz_ (fun z => z (by rw [h24]; rfl))) (fun _ => ?_)
    refine wp_run rfl ?_
    exact wp_ret rfl rfl ⟨rfl, rfl⟩
  · obtain ⟨hz24, hfr, hbel⟩ := aFr_w hO hlt hz
    refine ⟨upd (upd (pnF (upd (upd (upd (upd (upd (mS M) (34 + 5 * z) 1) (35 + 5 * z) (nI v)) (36 + 5 * z) (nI v)) (37 + 5 * z) (nI t)) (38 + 5 * z) 0) (10 + p) (10 + aN A)) (10 + p) (nI z)) 0 (nI (aN A + 1)), ?_, fun _ => ?_⟩
    · refine ev_in rfl rfl (Nat.le_of_ble_eq_true rfl) rfl ?_
      refine wp_run rfl ?_
      refine wp_ald rfl rfl (vp_in_nI (n := 0) (by decide) (by decide)) (mr_sz hR) ?_
      refine wp_run rfl ?_
      refine wp_s3 rfl (Nat.le_of_ble_eq_true rfl) (x5_in_yes (nI_pos (by omega)) (nI_le (show p ≤ aN A by omega) (by omega))) ?_
      refine wp_run rfl ?_
      refine wp_ifne rfl (fun _ => ?_) (fun hz_ => absurd ((by decide : ¬ (1 : Int32) = 0)) hz_)
      refine wp_run rfl ?_
      refine wp_s3 rfl (Nat.le_of_ble_eq_true rfl) (x5_in_yes (nI_nlt (b := 1) h1 (by omega)) (nI_le (b := 99) h2 (by omega))) ?_
      refine wp_run rfl ?_
      refine wp_ifeq rfl (fun hz_ => absurd hz_ ((by decide : ¬ (1 : Int32) = 0))) (fun _ => ?_)
      refine wp_run rfl ?_
      refine wp_s3 rfl (Nat.le_of_ble_eq_true rfl) (x5_in_yes (nI_pos (by omega)) (nI_le (b := 1) h3 (by omega))) ?_
      refine wp_run rfl ?_
      refine wp_ifne rfl (fun _ => ?_) (fun hz_ => absurd ((by decide : ¬ (1 : Int32) = 0)) hz_)
      refine wp_run rfl ?_
      refine wp_ald rfl rfl (vp_in_nI (n := 0) (by decide) (by decide)) (mr_sz hR) ?_
      refine wp_run rfl ?_
      refine wp_icne rfl (fun _ => ?_) (fun hz_ => absurd (fun z => absurd ((nI_eq (b := 24) (by omega) (by omega)).mp z) (by omega)) hz_)
      refine wp_run rfl ?_
      refine wp_v0 rfl rfl (Nat.le_of_ble_eq_true rfl) (x5_freeNumber hR hz24 hfr hbel) ?_
      refine wp_run rfl ?_
      refine wp_v3v rfl rfl (Nat.le_of_ble_eq_true rfl) (x5_l 0 hz24 (by decide) (Nat.add_zero _)) ?_
      refine wp_run rfl ?_
      refine wp_v3v rfl rfl (Nat.le_of_ble_eq_true rfl) (x5_l 1 hz24 (by decide) (show 34 + 5 * z + 1 = 35 + 5 * z by omega)) ?_
      refine wp_run rfl ?_
      refine wp_v3v rfl rfl (Nat.le_of_ble_eq_true rfl) (x5_l 2 hz24 (by decide) (show 34 + 5 * z + 2 = 36 + 5 * z by omega)) ?_
      refine wp_run rfl ?_
      refine wp_v3v rfl rfl (Nat.le_of_ble_eq_true rfl) (x5_l 3 hz24 (by decide) (show 34 + 5 * z + 3 = 37 + 5 * z by omega)) ?_
      refine wp_run rfl ?_
      refine wp_v3v rfl rfl (Nat.le_of_ble_eq_true rfl) (x5_l 4 hz24 (by decide) (show 34 + 5 * z + 4 = 38 + 5 * z by omega)) ?_
      refine wp_run rfl ?_
      refine wp_v2v rfl rfl (Nat.le_of_ble_eq_true rfl) (x5_putIn (n := aN A) (show upd (upd (upd (upd (upd (mS M) (34 + 5 * z) 1) (35 + 5 * z) (nI v)) (36 + 5 * z) (nI v)) (37 + 5 * z) (nI t)) (38 + 5 * z) 0 0 = nI (aN A) by rw [pk_un (by omega), pk_un (by omega), pk_un (by omega), pk_un (by omega), pk_un (by omega)]; exact (mr_sz hR :)) hlt (by omega)) ?_
      refine wp_run rfl ?_
      exact wp_ret rfl rfl ⟨rfl, rfl⟩
    · refine mr_add hR hz24 hfr (show p ≤ aN A by omega) pk_us (fun j h1 h2 => ?_) (fun i hi => ?_) ⟨?_, ?_, ?_, ?_, ?_⟩ (fun k w hk hw => ?_)
      · rw [pk_un (by omega), pk_un (by omega), pnF_lo _ (by omega), pk_un (by omega), pk_un (by omega), pk_un (by omega), pk_un (by omega), pk_un (by omega)]
      · rw [pk_un (by omega), pn_off]
        refine pn_row (fun j hj => ?_) (by omega) hi
        rw [pk_un (by omega), pk_un (by omega), pk_un (by omega), pk_un (by omega), pk_un (by omega)]; exact (mr_rw hR hj :)
      · rw [pk_un (by omega), pk_un (by omega), pnF_lo _ (by omega), pk_un (by omega), pk_un (by omega), pk_un (by omega), pk_un (by omega), pk_us]
      · rw [pk_un (by omega), pk_un (by omega), pnF_lo _ (by omega), pk_un (by omega), pk_un (by omega), pk_un (by omega), pk_us]
      · rw [pk_un (by omega), pk_un (by omega), pnF_lo _ (by omega), pk_un (by omega), pk_un (by omega), pk_us]
      · rw [pk_un (by omega), pk_un (by omega), pnF_lo _ (by omega), pk_un (by omega), pk_us]
        rcases (show t = 0 ∨ t = 1 by omega) with rfl | rfl <;> rfl
      · rw [pk_un (by omega), pk_un (by omega), pnF_lo _ (by omega), pk_us]
      · rw [pk_un (by omega), pk_un (by omega), pnF_lo _ (by omega), pk_un (by omega), pk_un (by omega), pk_un (by omega), pk_un (by omega), pk_un (by omega)]
theorem x5_doNeed (hO : aOw A) (hR : MR (mS M) A) (hS : spNeed A x y r A') : ∃ s', axEv ro (d + 3) kX5_doNeed [.ref 15, .int x, .int y] (hM c M tl) (some (.int r)) (hM c (s', M.2) tl) ∧ (¬ r < 0 → MR s' A') := by
  have hn := hO.n
  have ne : ∀ i j, i < aN A → j < aN A → i ≠ j → nI (aR A i) ≠ nI (aR A j) := fun i j hi hj hij z => hij (hO.inj hi hj ((nI_eq (by have := hO.r hi; omega) (by have := hO.r hj; omega)).mp z))
  rcases hS with ⟨hno, rfl, -⟩ | ⟨i, j, ⟨hi, rfl⟩, ⟨hj, rfl⟩, ⟨rfl, rfl, -⟩ | ⟨hij, hb, rfl, -⟩ | ⟨hij, hb, rfl, rfl⟩⟩
  · refine ⟨mS M, ?_, fun z => absurd (by decide : (-1 : Int32) < 0) z⟩
    rcases sp_slug A x with hx | ⟨i, hi, rfl⟩
    · refine ev_in rfl rfl (Nat.le_of_ble_eq_true rfl) rfl ?_
      refine wp_run rfl ?_
      refine wp_v1 rfl rfl (Nat.le_of_ble_eq_true rfl) (x5_isSlug_no (d := d) hR hx) ?_
      refine wp_run rfl ?_
      refine wp_ifeq rfl (fun _ => ?_) (fun hz_ => absurd (rfl) hz_)
      refine wp_run rfl ?_
      exact wp_ret rfl rfl ⟨rfl, rfl⟩
    · rcases hno with hx | hy
      · exact absurd rfl (hx i hi)
      · refine ev_in rfl rfl (Nat.le_of_ble_eq_true rfl) rfl ?_
        refine wp_run rfl ?_
        refine wp_v1 rfl rfl (Nat.le_of_ble_eq_true rfl) (x5_isSlug_yes (d := d) hO hR hi) ?_
        refine wp_run rfl ?_
        refine wp_ifeq rfl (fun hz_ => absurd hz_ ((by decide : ¬ (1 : Int32) = 0))) (fun _ => ?_)
        refine wp_run rfl ?_
        refine wp_v1 rfl rfl (Nat.le_of_ble_eq_true rfl) (x5_isSlug_no (d := d) hR hy) ?_
        refine wp_run rfl ?_
        refine wp_ifne rfl (fun hz_ => absurd hz_ (fun z => z rfl)) (fun _ => ?_)
        refine wp_run rfl ?_
        exact wp_ret rfl rfl ⟨rfl, rfl⟩
  · refine ⟨mS M, ?_, fun z => absurd (by decide : (-2 : Int32) < 0) z⟩
    refine ev_in rfl rfl (Nat.le_of_ble_eq_true rfl) rfl ?_
    refine wp_run rfl ?_
    refine wp_v1 rfl rfl (Nat.le_of_ble_eq_true rfl) (x5_isSlug_yes (d := d) hO hR hi) ?_
    refine wp_run rfl ?_
    refine wp_ifeq rfl (fun hz_ => absurd hz_ ((by decide : ¬ (1 : Int32) = 0))) (fun _ => ?_)
    refine wp_run rfl ?_
    refine wp_v1 rfl rfl (Nat.le_of_ble_eq_true rfl) (x5_isSlug_yes (d := d) hO hR hi) ?_
    refine wp_run rfl ?_
    refine wp_ifne rfl (fun _ => ?_) (fun hz_ => absurd ((by decide : ¬ (1 : Int32) = 0)) hz_)
    refine wp_run rfl ?_
    refine wp_icne rfl (fun hz_ => absurd hz_ (fun z => z rfl)) (fun _ => ?_)
    refine wp_run rfl ?_
    exact wp_ret rfl rfl ⟨rfl, rfl⟩
  · have hb : bt (aD A (aR A i)) (aR A j) = false := hb
    refine ⟨mS M, ?_, fun z => absurd (by decide : (-5 : Int32) < 0) z⟩
    refine ev_in rfl rfl (Nat.le_of_ble_eq_true rfl) rfl ?_
    refine wp_run rfl ?_
    refine wp_v1 rfl rfl (Nat.le_of_ble_eq_true rfl) (x5_isSlug_yes (d := d) hO hR hi) ?_
    refine wp_run rfl ?_
    refine wp_ifeq rfl (fun hz_ => absurd hz_ ((by decide : ¬ (1 : Int32) = 0))) (fun _ => ?_)
    refine wp_run rfl ?_
    refine wp_v1 rfl rfl (Nat.le_of_ble_eq_true rfl) (x5_isSlug_yes (d := d) hO hR hj) ?_
    refine wp_run rfl ?_
    refine wp_ifne rfl (fun _ => ?_) (fun hz_ => absurd ((by decide : ¬ (1 : Int32) = 0)) hz_)
    refine wp_run rfl ?_
    refine wp_icne rfl (fun _ => ?_) (fun hz_ => absurd (ne i j hi hj (by omega)) hz_)
    refine wp_run rfl ?_
    refine wp_v2 rfl rfl (Nat.le_of_ble_eq_true rfl) (x5_gD (d := d + 1) hO hR hi) ?_
    refine wp_run rfl ?_
    refine wp_s2 rfl (Nat.le_of_ble_eq_true rfl) (x5_has (d := d + 1) (by have := hO.r hj; omega)) ?_
    refine wp_run rfl ?_
    rw [hb, if_neg (by decide)]
    refine wp_ifne rfl (fun hz_ => absurd hz_ (fun z => z rfl)) (fun _ => ?_)
    refine wp_run rfl ?_
    refine wp_v1 rfl rfl (Nat.le_of_ble_eq_true rfl) (x5_placeOf_A (d := d + 1) hO hR hj) ?_
    refine wp_run rfl ?_
    refine wp_v1 rfl rfl (Nat.le_of_ble_eq_true rfl) (x5_placeOf_A (d := d + 1) hO hR hi) ?_
    refine wp_run rfl ?_
    refine wp_icle rfl (fun hz_ => absurd hz_ (nI_ge hij (by omega))) (fun _ => ?_)
    refine wp_run rfl ?_
    exact wp_ret rfl rfl ⟨rfl, rfl⟩
  · have hri := hO.r hi
    have hrj := hO.r hj
    have rest : axW ro (axEv ro (d + 2)) cdX5_doNeed 61 [some (.ref 15), some (.int (nI (aR A i))), some (.int (nI (aR A j)))] [.int 4, .int (nI (aR A i)), .ref 15, .int 4, .int (nI (aR A i)), .ref 15] (hM c M tl) (fun r' h' => r' = some (.int (nI (pcN (aD A (aR A i) ^^^ bi (aR A j))))) ∧ h' = (hM c (upd (mS M) (38 + 5 * aR A i) (aD A (aR A i) ^^^ bi (aR A j)), M.2) tl)) := by
      refine wp_v2 rfl rfl (Nat.le_of_ble_eq_true rfl) (x5_gD (d := d + 1) hO hR hi) ?_
      refine wp_run rfl ?_
      rw [show (1 : Int32) <<< (nI (aR A j) &&& 31) = bi (aR A j) from rfl]
      refine wp_v3v rfl rfl (Nat.le_of_ble_eq_true rfl) (x5_l (d := d + 1) 4 hri (by decide) (show 34 + 5 * aR A i + 4 = 38 + 5 * aR A i by omega)) ?_
      refine wp_run rfl ?_
      have hg := x5_get (ro := ro) (d := d + 1) (c := c) (M := (upd (mS M) (38 + 5 * aR A i) (aD A (aR A i) ^^^ bi (aR A j)), M.2)) (tl := tl) (w := 4) hri (by decide)
      rw [show mS (upd (mS M) (38 + 5 * aR A i) (aD A (aR A i) ^^^ bi (aR A j)), M.2) (34 + 5 * aR A i + 4) = aD A (aR A i) ^^^ bi (aR A j) by rw [show 34 + 5 * aR A i + 4 = 38 + 5 * aR A i by omega]; exact pk_us] at hg
      refine wp_v2 rfl rfl (Nat.le_of_ble_eq_true rfl) (hg) ?_
      refine wp_run rfl ?_
      refine wp_s1 rfl (Nat.le_of_ble_eq_true rfl) (x5_bits (d := d + 1) _) ?_
      refine wp_run rfl ?_
      exact wp_ret rfl rfl ⟨rfl, rfl⟩
    refine ⟨_, ?_, fun _ => mr_setD hR hn _ _⟩
    refine ev_in rfl rfl (Nat.le_of_ble_eq_true rfl) rfl ?_
    refine wp_run rfl ?_
    refine wp_v1 rfl rfl (Nat.le_of_ble_eq_true rfl) (x5_isSlug_yes (d := d) hO hR hi) ?_
    refine wp_run rfl ?_
    refine wp_ifeq rfl (fun hz_ => absurd hz_ ((by decide : ¬ (1 : Int32) = 0))) (fun _ => ?_)
    refine wp_run rfl ?_
    refine wp_v1 rfl rfl (Nat.le_of_ble_eq_true rfl) (x5_isSlug_yes (d := d) hO hR hj) ?_
    refine wp_run rfl ?_
    refine wp_ifne rfl (fun _ => ?_) (fun hz_ => absurd ((by decide : ¬ (1 : Int32) = 0)) hz_)
    refine wp_run rfl ?_
    refine wp_icne rfl (fun _ => ?_) (fun hz_ => absurd (ne i j hi hj hij) hz_)
    refine wp_run rfl ?_
    refine wp_v2 rfl rfl (Nat.le_of_ble_eq_true rfl) (x5_gD (d := d + 1) hO hR hi) ?_
    refine wp_run rfl ?_
    refine wp_s2 rfl (Nat.le_of_ble_eq_true rfl) (x5_has (d := d + 1) (by omega)) ?_
    refine wp_run rfl ?_
    by_cases e : bt (aD A (aR A i)) (aR A j) = true
    · rw [if_pos e]
      refine wp_ifne rfl (fun _ => ?_) (fun hz_ => absurd ((by decide : ¬ (1 : Int32) = 0)) hz_)
      refine wp_run rfl ?_
      exact rest
    · have hb := hb.resolve_left e
      rw [if_neg e]
      refine wp_ifne rfl (fun hz_ => absurd hz_ (fun z => z rfl)) (fun _ => ?_)
      refine wp_run rfl ?_
      refine wp_v1 rfl rfl (Nat.le_of_ble_eq_true rfl) (x5_placeOf_A (d := d + 1) hO hR hj) ?_
      refine wp_run rfl ?_
      refine wp_v1 rfl rfl (Nat.le_of_ble_eq_true rfl) (x5_placeOf_A (d := d + 1) hO hR hi) ?_
      refine wp_run rfl ?_
      refine wp_icle rfl (fun _ => ?_) (fun hz_ => absurd (nI_le (Nat.le_of_lt hb) (by omega)) hz_)
      refine wp_run rfl ?_
      exact rest
theorem x5_doTrim (hO : aOw A) (hR : MR (mS M) A) (hS : spTrim A x y r A') : ∃ s', axEv ro (d + 4) kX5_doTrim [.ref 15, .int x, .int y] (hM c M tl) (some (.int r)) (hM c (s', M.2) tl) ∧ (¬ r < 0 → MR s' A') := by
  have hn := hO.n
  rcases hS with ⟨hx, rfl, -⟩ | ⟨i, ⟨hi, rfl⟩, ⟨hy, rfl, -⟩ | ⟨v, h1, h2, rfl, ⟨h3, rfl, -⟩ | ⟨h3, rfl, rfl⟩⟩⟩
  · refine ⟨mS M, ?_, fun z => absurd (by decide : (-1 : Int32) < 0) z⟩
    refine ev_in rfl rfl (Nat.le_of_ble_eq_true rfl) rfl ?_
    refine wp_run rfl ?_
    refine wp_v1 rfl rfl (Nat.le_of_ble_eq_true rfl) (x5_isSlug_no (d := d + 1) hR hx) ?_
    refine wp_run rfl ?_
    refine wp_ifne rfl (fun hz_ => absurd hz_ (fun z => z rfl)) (fun _ => ?_)
    refine wp_run rfl ?_
    exact wp_ret rfl rfl ⟨rfl, rfl⟩
  · refine ⟨mS M, ?_, fun z => absurd (by decide : (-2 : Int32) < 0) z⟩
    refine ev_in rfl rfl (Nat.le_of_ble_eq_true rfl) rfl ?_
    refine wp_run rfl ?_
    refine wp_v1 rfl rfl (Nat.le_of_ble_eq_true rfl) (x5_isSlug_yes (d := d + 1) hO hR hi) ?_
    refine wp_run rfl ?_
    refine wp_ifne rfl (fun _ => ?_) (fun hz_ => absurd ((by decide : ¬ (1 : Int32) = 0)) hz_)
    refine wp_run rfl ?_
    refine wp_s3 rfl (Nat.le_of_ble_eq_true rfl) (x5_in_no hy) ?_
    refine wp_run rfl ?_
    refine wp_ifne rfl (fun hz_ => absurd hz_ (fun z => z rfl)) (fun _ => ?_)
    refine wp_run rfl ?_
    exact wp_ret rfl rfl ⟨rfl, rfl⟩
  · refine ⟨mS M, ?_, fun z => absurd (by decide : (-5 : Int32) < 0) z⟩
    refine ev_in rfl rfl (Nat.le_of_ble_eq_true rfl) rfl ?_
    refine wp_run rfl ?_
    refine wp_v1 rfl rfl (Nat.le_of_ble_eq_true rfl) (x5_isSlug_yes (d := d + 1) hO hR hi) ?_
    refine wp_run rfl ?_
    refine wp_ifne rfl (fun _ => ?_) (fun hz_ => absurd ((by decide : ¬ (1 : Int32) = 0)) hz_)
    refine wp_run rfl ?_
    refine wp_s3 rfl (Nat.le_of_ble_eq_true rfl) (x5_in_yes (nI_nlt (b := 1) h1 (by omega)) (nI_le (b := 98) h2 (by omega))) ?_
    refine wp_run rfl ?_
    refine wp_ifne rfl (fun _ => ?_) (fun hz_ => absurd ((by decide : ¬ (1 : Int32) = 0)) hz_)
    refine wp_run rfl ?_
    refine wp_v1 rfl rfl (Nat.le_of_ble_eq_true rfl) (x5_canTrim hO hR hi) ?_
    refine wp_run rfl ?_
    refine wp_icle rfl (fun hz_ => absurd hz_ (nI_ge h3 (by omega))) (fun _ => ?_)
    refine wp_run rfl ?_
    exact wp_ret rfl rfl ⟨rfl, rfl⟩
  · have hri := hO.r hi
    have hb := hO.b hi
    have hcan : aCan A (aR A i) ≤ aB A (aR A i) := Nat.sub_le _ _
    refine ⟨_, ?_, fun _ => mr_bts hR hn (aR A i) (aB A (aR A i) - v)⟩
    refine ev_in rfl rfl (Nat.le_of_ble_eq_true rfl) rfl ?_
    refine wp_run rfl ?_
    refine wp_v1 rfl rfl (Nat.le_of_ble_eq_true rfl) (x5_isSlug_yes (d := d + 1) hO hR hi) ?_
    refine wp_run rfl ?_
    refine wp_ifne rfl (fun _ => ?_) (fun hz_ => absurd ((by decide : ¬ (1 : Int32) = 0)) hz_)
    refine wp_run rfl ?_
    refine wp_s3 rfl (Nat.le_of_ble_eq_true rfl) (x5_in_yes (nI_nlt (b := 1) h1 (by omega)) (nI_le (b := 98) h2 (by omega))) ?_
    refine wp_run rfl ?_
    refine wp_ifne rfl (fun _ => ?_) (fun hz_ => absurd ((by decide : ¬ (1 : Int32) = 0)) hz_)
    refine wp_run rfl ?_
    refine wp_v1 rfl rfl (Nat.le_of_ble_eq_true rfl) (x5_canTrim hO hR hi) ?_
    refine wp_run rfl ?_
    refine wp_icle rfl (fun _ => ?_) (fun hz_ => absurd (nI_le h3 (by omega)) hz_)
    refine wp_run rfl ?_
    refine wp_v2 rfl rfl (Nat.le_of_ble_eq_true rfl) (x5_gB (d := d + 2) hO hR hi) ?_
    refine wp_run rfl ?_
    rw [pk_sub (by omega)]
    refine wp_v3v rfl rfl (Nat.le_of_ble_eq_true rfl) (x5_l (d := d + 2) 2 hri (by decide) (show 34 + 5 * aR A i + 2 = 36 + 5 * aR A i by omega)) ?_
    refine wp_run rfl ?_
    have hg := x5_get (ro := ro) (d := d + 2) (c := c) (M := (upd (mS M) (36 + 5 * aR A i) (nI (aB A (aR A i) - v)), M.2)) (tl := tl) (w := 2) hri (by decide)
    rw [show mS (upd (mS M) (36 + 5 * aR A i) (nI (aB A (aR A i) - v)), M.2) (34 + 5 * aR A i + 2) = nI (aB A (aR A i) - v) by rw [show 34 + 5 * aR A i + 2 = 36 + 5 * aR A i by omega]; exact pk_us] at hg
    refine wp_v2 rfl rfl (Nat.le_of_ble_eq_true rfl) (hg) ?_
    refine wp_run rfl ?_
    exact wp_ret rfl rfl ⟨rfl, rfl⟩
theorem mr_move {s : Nat → Int32} (hO : aOw A) (hR : MR s A) {p q : Nat} (hp : p < aN A) (hq : q < aN A) : MR (upd (upd (pnF (tkF (upd s 0 (nI (aN A - 1))) (10 + p) (10 + aN A)) (10 + q) (10 + (aN A - 1))) (10 + q) (nI (aR A p))) 0 (nI (aN A - 1 + 1))) (aMove A p q) := by
  have hn := hO.n
  refine mr_row hR (fun j hj => ?_) (fun j hj => ?_) (fun i hi => ?_) (fun i hi => aMove_is (by omega) hp hq hi) (fun j hj => aMove_has (by omega) hp hq hj)
  · by_cases e : j = 0
    · rw [e, pk_us, show aN A - 1 + 1 = aN A by omega]; exact (mr_sz hR).symm
    · rw [pk_un e, pk_un (by omega), pnF_lo _ (by omega), tkF_lo _ (by omega), pk_un e]
  · rw [pk_un (by omega), pk_un (by omega), pnF_lo _ (by omega), tkF_lo _ (by omega), pk_un (by omega)]
  · rw [pk_un (by omega), pn_off]
    refine pn_row (n := aN A - 1) (fun j hj => ?_) (by omega) (by omega)
    rw [tk_off]
    exact tk_row (fun k hk => by rw [pk_un (by omega)]; exact (mr_rw hR hk :)) hj
theorem x5_doMove (hO : aOk A) (hR : MR (mS M) A) (hS : spMove A x y r A') : ∃ s', axEv ro (d + 3) kX5_doMove [.ref 15, .int x, .int y] (hM c M tl) (some (.int r)) (hM c (s', M.2) tl) ∧ (¬ r < 0 → MR s' A') := by
  have hn := hO.n
  have hw := hO.w
  rcases hS with ⟨hno, rfl, -⟩ | ⟨p, q, ⟨hp, rfl⟩, hq, rfl, hm⟩
  · refine ⟨mS M, ?_, fun z => absurd (by decide : (-1 : Int32) < 0) z⟩
    rcases sp_slug A x with hx | ⟨i, hi, rfl⟩
    · refine ev_in rfl rfl (Nat.le_of_ble_eq_true rfl) rfl ?_
      refine wp_run rfl ?_
      refine wp_v1 rfl rfl (Nat.le_of_ble_eq_true rfl) (x5_isSlug_no (d := d) hR hx) ?_
      refine wp_run rfl ?_
      refine wp_ifeq rfl (fun _ => ?_) (fun hz_ => absurd (rfl) hz_)
      refine wp_run rfl ?_
      exact wp_ret rfl rfl ⟨rfl, rfl⟩
    · rcases hno with hx | hy
      · exact absurd rfl (hx i hi)
      · have hy2 : y < 0 ∨ nI (aN A - 1 + 1) ≤ y := by rw [show aN A - 1 + 1 = aN A by omega]; exact hy
        refine ev_in rfl rfl (Nat.le_of_ble_eq_true rfl) rfl ?_
        refine wp_run rfl ?_
        refine wp_v1 rfl rfl (Nat.le_of_ble_eq_true rfl) (x5_isSlug_yes (d := d) hw hR hi) ?_
        refine wp_run rfl ?_
        refine wp_ifeq rfl (fun hz_ => absurd hz_ ((by decide : ¬ (1 : Int32) = 0))) (fun _ => ?_)
        refine wp_run rfl ?_
        refine wp_ald rfl rfl (vp_in_nI (n := 0) (by decide) (by decide)) (mr_sz hR) ?_
        refine wp_run rfl ?_
        rw [nI_p1 (by omega)]
        refine wp_s3 rfl (Nat.le_of_ble_eq_true rfl) (x5_in_no (d := d + 1) (in_out (by omega) hy2)) ?_
        refine wp_run rfl ?_
        refine wp_ifne rfl (fun hz_ => absurd hz_ (fun z => z rfl)) (fun _ => ?_)
        refine wp_run rfl ?_
        exact wp_ret rfl rfl ⟨rfl, rfl⟩
  · have hr := hO.r hp
    have hR2 := mr_move hw hR hp hq
    have hor := (orB_ord (aOw_move hw hp hq)).trans (aMove_ord hO hp hq)
    have hev : axEv ro (d + 3) kX5_doMove [.ref 15, .int (nI (aR A p)), .int (nI q)] (hM c M tl) (some (.int (if orB (aMove A p q) (aN (aMove A p q)) = true then nI p else -5))) (hM c (upd (upd (pnF (tkF (upd (mS M) 0 (nI (aN A - 1))) (10 + p) (10 + aN A)) (10 + q) (10 + (aN A - 1))) (10 + q) (nI (aR A p))) 0 (nI (aN A - 1 + 1)), M.2) tl) := by
      refine ev_in rfl rfl (Nat.le_of_ble_eq_true rfl) rfl ?_
      refine wp_run rfl ?_
      refine wp_v1 rfl rfl (Nat.le_of_ble_eq_true rfl) (x5_isSlug_yes (d := d) hw hR hp) ?_
      refine wp_run rfl ?_
      refine wp_ifeq rfl (fun hz_ => absurd hz_ ((by decide : ¬ (1 : Int32) = 0))) (fun _ => ?_)
      refine wp_run rfl ?_
      refine wp_ald rfl rfl (vp_in_nI (n := 0) (by decide) (by decide)) (mr_sz hR) ?_
      refine wp_run rfl ?_
      rw [nI_p1 (by omega)]
      refine wp_s3 rfl (Nat.le_of_ble_eq_true rfl) (x5_in_yes (d := d + 1) (nI_pos (by omega)) (nI_le (show q ≤ aN A - 1 by omega) (by omega))) ?_
      refine wp_run rfl ?_
      refine wp_ifne rfl (fun _ => ?_) (fun hz_ => absurd ((by decide : ¬ (1 : Int32) = 0)) hz_)
      refine wp_run rfl ?_
      refine wp_v1 rfl rfl (Nat.le_of_ble_eq_true rfl) (x5_placeOf_A (d := d + 1) hw hR hp) ?_
      refine wp_run rfl ?_
      refine wp_v1v rfl rfl (Nat.le_of_ble_eq_true rfl) (x5_takeOut (d := d + 1) (mr_sz hR) hn hp) ?_
      refine wp_run rfl ?_
      refine wp_v2v rfl rfl (Nat.le_of_ble_eq_true rfl) (x5_putIn (d := d + 1) (n := aN A - 1) (by show tkF _ _ _ 0 = _; rw [tkF_lo _ (by omega), pk_us]) (by omega) (by omega)) ?_
      refine wp_run rfl ?_
      refine wp_v0 rfl rfl (Nat.le_of_ble_eq_true rfl) (x5_isOrdered (A := aMove A p q) (aOw_move hw hp hq) hR2) ?_
      refine wp_run rfl ?_
      by_cases e : orB (aMove A p q) (aN (aMove A p q)) = true
      · rw [if_pos e, if_pos e]
        refine wp_ifeq rfl (fun hz_ => absurd hz_ ((by decide : ¬ (1 : Int32) = 0))) (fun _ => ?_)
        refine wp_run rfl ?_
        exact wp_ret rfl rfl ⟨rfl, rfl⟩
      · rw [if_neg e, if_neg e]
        refine wp_ifeq rfl (fun _ => ?_) (fun hz_ => absurd (rfl) hz_)
        refine wp_run rfl ?_
        exact wp_ret rfl rfl ⟨rfl, rfl⟩
    rcases hm with ⟨hm, rfl, -⟩ | ⟨hm, rfl, rfl⟩
    · rw [if_neg (fun z => hm (hor.mp z))] at hev
      exact ⟨_, hev, fun z => absurd (by decide : (-5 : Int32) < 0) z⟩
    · rw [if_pos (hor.mpr hm)] at hev
      exact ⟨_, hev, fun _ => hR2⟩
/-- the swap is made, and told whether it may stand -/
theorem x5_doSwap_go (hO : aOk A) (hR : MR (mS M) A) {p q : Nat} (hp : p < aN A) (hq : q < aN A) (hpq : p ≠ q) : ∃ s' r, axEv ro (d + 3) kX5_doSwap [.ref 15, .int (nI (aR A p)), .int (nI (aR A q))] (hM c M tl) (some (.int r)) (hM c (s', M.2) tl) ∧ MR s' (aSwp A p q) ∧ (aMay A p q → r = nI (((p : Int) - q).natAbs - 1)) ∧ (¬ aMay A p q → r = -5) := by
  have hn := hO.n
  have hw := hO.w
  have hR2 := mr_swp hw hR hp hq
  have hor := (orB_ord (aOw_swp hw hp hq)).trans (aSwp_ord hO hp hq hpq)
  have ne : nI (aR A p) ≠ nI (aR A q) := fun z => hpq (hO.inj hp hq ((nI_eq (by have := hO.r hp; omega) (by have := hO.r hq; omega)).mp z))
  refine ⟨_, if orB (aSwp A p q) (aN (aSwp A p q)) = true then nI (((p : Int) - q).natAbs - 1) else -5, ?_, hR2, fun hm => if_pos (hor.mpr hm), fun hm => if_neg (fun z => hm (hor.mp z))⟩
  refine ev_in rfl rfl (Nat.le_of_ble_eq_true rfl) rfl ?_
  refine wp_run rfl ?_
  refine wp_v1 rfl rfl (Nat.le_of_ble_eq_true rfl) (x5_isSlug_yes (d := d) hw hR hp) ?_
  refine wp_run rfl ?_
  refine wp_ifeq rfl (fun hz_ => absurd hz_ ((by decide : ¬ (1 : Int32) = 0))) (fun _ => ?_)
  refine wp_run rfl ?_
  refine wp_v1 rfl rfl (Nat.le_of_ble_eq_true rfl) (x5_isSlug_yes (d := d) hw hR hq) ?_
  refine wp_run rfl ?_
  refine wp_ifne rfl (fun _ => ?_) (fun hz_ => absurd ((by decide : ¬ (1 : Int32) = 0)) hz_)
  refine wp_run rfl ?_
  refine wp_icne rfl (fun _ => ?_) (fun hz_ => absurd (ne) hz_)
  refine wp_run rfl ?_
  refine wp_v1 rfl rfl (Nat.le_of_ble_eq_true rfl) (x5_placeOf_A (d := d + 1) hw hR hp) ?_
  refine wp_run rfl ?_
  refine wp_v1 rfl rfl (Nat.le_of_ble_eq_true rfl) (x5_placeOf_A (d := d + 1) hw hR hq) ?_
  refine wp_run rfl ?_
  rw [show (10 : Int32) + nI (p) = nI (10 + (p)) from nI_add 10 (p)]
  refine wp_ast (h1 := (hM c (upd (mS M) (10 + p) (nI (aR A q)), M.2) tl)) rfl rfl (vp_in_nI (show 10 + p < 154 by omega) (by decide)) rfl (by rw [nI_clamp (by omega)]; rfl) ?_
  refine wp_run rfl ?_
  rw [show (10 : Int32) + nI (q) = nI (10 + (q)) from nI_add 10 (q)]
  refine wp_ast (h1 := (hM c (upd (upd (mS M) (10 + p) (nI (aR A q))) (10 + q) (nI (aR A p)), M.2) tl)) rfl rfl (vp_in_nI (show 10 + q < 154 by omega) (by decide)) rfl (by rw [nI_clamp (by omega)]; rfl) ?_
  refine wp_run rfl ?_
  refine wp_v0 rfl rfl (Nat.le_of_ble_eq_true rfl) (x5_isOrdered (A := aSwp A p q) (aOw_swp hw hp hq) hR2) ?_
  refine wp_run rfl ?_
  by_cases e : orB (aSwp A p q) (aN (aSwp A p q)) = true
  · rw [if_pos e, if_pos e]
    refine wp_ifeq rfl (fun hz_ => absurd hz_ ((by decide : ¬ (1 : Int32) = 0))) (fun _ => ?_)
    refine wp_run rfl ?_
    rw [show nI p - nI q = zI ((p : Int) - q) by rw [← zI_nI, ← zI_nI, zI_sub]]
    refine wp_s1 rfl (Nat.le_of_ble_eq_true rfl) (x5_size (d := d + 1) (by omega) (by omega)) ?_
    refine wp_run rfl ?_
    rw [nI_p1 (by omega)]
    exact wp_ret rfl rfl ⟨rfl, rfl⟩
  · rw [if_neg e, if_neg e]
    refine wp_ifeq rfl (fun _ => ?_) (fun hz_ => absurd (rfl) hz_)
    refine wp_run rfl ?_
    exact wp_ret rfl rfl ⟨rfl, rfl⟩
theorem x5_doSwap (hO : aOk A) (hR : MR (mS M) A) (hS : spSwap A x y r A') : ∃ s', axEv ro (d + 3) kX5_doSwap [.ref 15, .int x, .int y] (hM c M tl) (some (.int r)) (hM c (s', M.2) tl) ∧ (¬ r < 0 → MR s' A') := by
  have hw := hO.w
  rcases hS with ⟨hno, rfl, -⟩ | ⟨p, q, ⟨hp, rfl⟩, ⟨hq, rfl⟩, hm⟩
  · refine ⟨mS M, ?_, fun z => absurd (by decide : (-1 : Int32) < 0) z⟩
    rcases sp_slug A x with hx | ⟨i, hi, rfl⟩
    · refine ev_in rfl rfl (Nat.le_of_ble_eq_true rfl) rfl ?_
      refine wp_run rfl ?_
      refine wp_v1 rfl rfl (Nat.le_of_ble_eq_true rfl) (x5_isSlug_no (d := d) hR hx) ?_
      refine wp_run rfl ?_
      refine wp_ifeq rfl (fun _ => ?_) (fun hz_ => absurd (rfl) hz_)
      refine wp_run rfl ?_
      exact wp_ret rfl rfl ⟨rfl, rfl⟩
    · rcases hno with hx | hy
      · exact absurd rfl (hx i hi)
      · refine ev_in rfl rfl (Nat.le_of_ble_eq_true rfl) rfl ?_
        refine wp_run rfl ?_
        refine wp_v1 rfl rfl (Nat.le_of_ble_eq_true rfl) (x5_isSlug_yes (d := d) hw hR hi) ?_
        refine wp_run rfl ?_
        refine wp_ifeq rfl (fun hz_ => absurd hz_ ((by decide : ¬ (1 : Int32) = 0))) (fun _ => ?_)
        refine wp_run rfl ?_
        refine wp_v1 rfl rfl (Nat.le_of_ble_eq_true rfl) (x5_isSlug_no (d := d) hR hy) ?_
        refine wp_run rfl ?_
        refine wp_ifne rfl (fun hz_ => absurd hz_ (fun z => z rfl)) (fun _ => ?_)
        refine wp_run rfl ?_
        exact wp_ret rfl rfl ⟨rfl, rfl⟩
  · rcases hm with ⟨rfl, rfl, -⟩ | ⟨hpq, hm, rfl, -⟩ | ⟨hpq, hm, rfl, rfl⟩
    · refine ⟨mS M, ?_, fun z => absurd (by decide : (-2 : Int32) < 0) z⟩
      refine ev_in rfl rfl (Nat.le_of_ble_eq_true rfl) rfl ?_
      refine wp_run rfl ?_
      refine wp_v1 rfl rfl (Nat.le_of_ble_eq_true rfl) (x5_isSlug_yes (d := d) hw hR hp) ?_
      refine wp_run rfl ?_
      refine wp_ifeq rfl (fun hz_ => absurd hz_ ((by decide : ¬ (1 : Int32) = 0))) (fun _ => ?_)
      refine wp_run rfl ?_
      refine wp_v1 rfl rfl (Nat.le_of_ble_eq_true rfl) (x5_isSlug_yes (d := d) hw hR hp) ?_
      refine wp_run rfl ?_
      refine wp_ifne rfl (fun _ => ?_) (fun hz_ => absurd ((by decide : ¬ (1 : Int32) = 0)) hz_)
      refine wp_run rfl ?_
      refine wp_icne rfl (fun hz_ => absurd hz_ (fun z => z rfl)) (fun _ => ?_)
      refine wp_run rfl ?_
      exact wp_ret rfl rfl ⟨rfl, rfl⟩
    · obtain ⟨s', r, hev, -, -, h2⟩ := x5_doSwap_go (ro := ro) (d := d) (c := c) (tl := tl) hO hR hp hq hpq
      rw [h2 hm] at hev
      exact ⟨s', hev, fun z => absurd (by decide : (-5 : Int32) < 0) z⟩
    · obtain ⟨s', r, hev, h1, h2, -⟩ := x5_doSwap_go (ro := ro) (d := d) (c := c) (tl := tl) hO hR hp hq hpq
      rw [h2 hm] at hev
      exact ⟨s', hev, fun _ => h1⟩
end AX54
