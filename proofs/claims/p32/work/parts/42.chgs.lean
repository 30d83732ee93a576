/-! THE CLASS: each change of the board does what is told of it. -/
/-- what is told is an error, and nothing changed; or a number from 0 on -/
def spR (A : axAD) (r : Int32) (A' : axAD) : Prop := (r < 0 ∧ A' = A) ∨ ∃ n, n < 2 ^ 31 ∧ r = nI n
theorem spR_e (A : axAD) {r : Int32} (h : r < 0) : spR A r A := Or.inl ⟨h, rfl⟩
theorem spR_n {A A' : axAD} {n : Nat} (h : n < 2 ^ 31) : spR A (nI n) A' := Or.inr ⟨n, h, rfl⟩
theorem m1_neg : (-1 : Int32) < 0 := by decide
theorem m2_neg : (-2 : Int32) < 0 := by decide
theorem m4_neg : (-4 : Int32) < 0 := by decide
theorem m5_neg : (-5 : Int32) < 0 := by decide
section AX42
variable {LL : Nat} {xs : Nat → Int32} {ro : axRo} {d : Nat} {B : axBD} {Y : axYD} {sl : Nat → Option Nat} {P : axPD} {G : axGD} {tl : axH} {A A' : axAD} {x y w r : Int32}
theorem x0_set_sp (hO : aOk A) (hC : CR B A) (hS : spSet A x y r A') : ∃ B', axEv (axRoL LL xs) (d + 5) kX0_changeSetting [.ref 1, .int x, .int y] (hX B Y sl P G tl) (some (.int r)) ((hX (B') Y sl P G tl)) ∧ CR B' A' ∧ aOk A' ∧ spR A r A' := by
  rcases hS with ⟨j, v, hj, rfl, rfl, h1, h2, rfl, rfl⟩ | ⟨h, rfl, rfl⟩
  · refine ⟨_, x0_changeSetting_in (d := d + 3) hC hj h1 h2, cr_set hC hj, aOk_setS hO hj h1 h2, spR_n ?_⟩
    have := hO.pg; have := hO.sl; have := hO.tr
    unfold aSetV; split <;> (try split) <;> omega
  · exact ⟨B, x0_changeSetting_out (d := d + 3) h, hC, hO, spR_e _ m2_neg⟩
theorem x0_target_sp (hO : aOk A) (hC : CR B A) (hS : spTarget A x y r A') : ∃ B', axEv ro (d + 5) kX0_changeTarget [.ref 1, .int x, .int y] (hX B Y sl P G tl) (some (.int r)) ((hX (B') Y sl P G tl)) ∧ CR B' A' ∧ aOk A' ∧ spR A r A' := by
  rcases hS with ⟨a, v, ha, rfl, h1, h2, rfl, rfl, rfl⟩ | ⟨h, rfl, rfl⟩ | ⟨a, ha, rfl, h, rfl, rfl⟩
  · refine ⟨_, x0_changeTarget_in (d := d + 3) hC ha h1 h2, cr_tgt hC ha, aOk_setT hO h1 h2, spR_n ?_⟩
    have := hO.tg ha; omega
  · exact ⟨B, x0_changeTarget_ns (d := d + 3) h, hC, hO, spR_e _ m1_neg⟩
  · exact ⟨B, x0_changeTarget_bv (d := d + 3) ha h, hC, hO, spR_e _ m2_neg⟩
theorem x0_add_sp (hO : aOk A) (hC : CR B A) (hS : spAdd A x y w r A') : ∃ B', axEv ro (d + 5) kX0_addSlug [.ref 1, .int x, .int y, .int w] (hX B Y sl P G tl) (some (.int r)) ((hX (B') Y sl P G tl)) ∧ CR B' A' ∧ aOk A' ∧ spR A r A' := by
  have hn := hO.n
  rcases hS with ⟨h, rfl, rfl⟩ | ⟨p, hp, rfl, h, rfl, rfl⟩ | ⟨p, v, t, hp, rfl, h1, h2, rfl, h3, rfl, ⟨h4, rfl, rfl⟩ | ⟨h4, z, hz, rfl, rfl⟩⟩
  · refine ⟨B, x0_addSlug_ns (d := d + 1) hC ?_, hC, hO, spR_e _ m1_neg⟩
    rcases h with h | h
    · exact Or.inl h
    · refine Or.inr fun hle => ?_
      exact absurd (Int32.le_trans h hle) (nI_ge (by omega) (by omega))
  · refine ⟨B, x0_addSlug_bv (d := d + 1) hO hC (by omega) ?_, hC, hO, spR_e _ m2_neg⟩
    rcases h with (h | h) | (h | h)
    · exact Or.inl h
    · exact Or.inr (Or.inl (Int32.not_le.mp h))
    · exact Or.inr (Or.inr (Or.inl h))
    · exact Or.inr (Or.inr (Or.inr h))
  · exact ⟨B, x0_addSlug_tm (d := d + 1) hO hC (by omega) h1 h2 h3 h4, hC, hO, spR_e _ m4_neg⟩
  · obtain ⟨B', hev, hcr⟩ := x0_addSlug_ok (ro := ro) (d := d + 1) (Y := Y) (sl := sl) (P := P) (G := G) (tl := tl) hO hC (show p ≤ aN A by omega) h1 h2 h3 h4
    have hfl := aFr_lt hO h4
    have hff := aFr_free hO h4
    rw [← hz] at hev hcr hfl hff
    exact ⟨B', hev, hcr, aOk_add hO h4 (by omega) hfl hff h1 h2, spR_n (by omega)⟩
theorem x0_drop_sp (hO : aOk A) (hC : CR B A) (hS : spDrop A x r A') : ∃ B', axEv ro (d + 5) kX0_dropSlug [.ref 1, .int x] (hX B Y sl P G tl) (some (.int r)) ((hX (B') Y sl P G tl)) ∧ CR B' A' ∧ aOk A' ∧ spR A r A' := by
  have hn := hO.n
  rcases hS with ⟨h, rfl, rfl⟩ | ⟨p, ⟨hp, rfl⟩, rfl, rfl⟩
  · exact ⟨B, x0_dropSlug_out (d := d + 2) hC h, hC, hO, spR_e _ m1_neg⟩
  · exact ⟨_, x0_dropSlug_in (d := d + 2) hO hC hp, cr_drop hO hC hp, aOk_drop hO hp, spR_n (by omega)⟩
theorem x0_turn_sp (hO : aOk A) (hC : CR B A) (hS : spTurn A x r A') : ∃ B', axEv ro (d + 5) kX0_flipTurn [.ref 1, .int x] (hX B Y sl P G tl) (some (.int r)) ((hX (B') Y sl P G tl)) ∧ CR B' A' ∧ aOk A' ∧ spR A r A' := by
  rcases hS with ⟨h, rfl, rfl⟩ | ⟨p, ⟨hp, rfl⟩, rfl, rfl⟩
  · exact ⟨B, x0_flipTurn_out (d := d + 2) hC h, hC, hO, spR_e _ m1_neg⟩
  · refine ⟨_, x0_flipTurn_in (d := d + 2) hO hC hp, cr_flip hO hC hp, aOk_flip hO _, ?_⟩
    split
    · exact spR_n (n := 0) (by decide)
    · exact spR_n (n := 1) (by decide)
theorem x0_need_sp (hO : aOk A) (hC : CR B A) (hS : spNeed A x y r A') : ∃ B', axEv ro (d + 5) kX0_flipNeed [.ref 1, .int x, .int y] (hX B Y sl P G tl) (some (.int r)) ((hX (B') Y sl P G tl)) ∧ CR B' A' ∧ aOk A' ∧ spR A r A' := by
  rcases hS with ⟨h, rfl, rfl⟩ | ⟨i, j, ⟨hi, rfl⟩, ⟨hj, rfl⟩, ⟨e, rfl, rfl⟩ | ⟨e, hb, rfl, rfl⟩ | ⟨e, hb, rfl, rfl⟩⟩
  · refine ⟨B, ?_, hC, hO, spR_e _ m1_neg⟩
    rcases h with h | h
    · exact x0_flipNeed_ns1 (d := d + 2) hC h
    · rcases sp_slug A' x with h2 | ⟨i, hi, rfl⟩
      · exact x0_flipNeed_ns1 (d := d + 2) hC h2
      · exact x0_flipNeed_ns2 (d := d + 2) hO hC hi h
  · subst e
    exact ⟨B, x0_flipNeed_bv (d := d + 2) hO hC hi, hC, hO, spR_e _ m2_neg⟩
  · exact ⟨B, x0_flipNeed_np (d := d + 2) hO hC hi hj e hb, hC, hO, spR_e _ m5_neg⟩
  · refine ⟨_, x0_flipNeed_ok (d := d + 2) hO hC hi hj e hb, cr_setD hC, aOk_need hO hi hj hb, spR_n ?_⟩
    exact Nat.lt_of_le_of_lt (bc_le _ _) (by decide)
theorem x0_trim_sp (hO : aOk A) (hC : CR B A) (hS : spTrim A x y r A') : ∃ B', axEv ro (d + 5) kX0_trimSlug [.ref 1, .int x, .int y] (hX B Y sl P G tl) (some (.int r)) ((hX (B') Y sl P G tl)) ∧ CR B' A' ∧ aOk A' ∧ spR A r A' := by
  rcases hS with ⟨h, rfl, rfl⟩ | ⟨i, ⟨hi, rfl⟩, ⟨h, rfl, rfl⟩ | ⟨v, h1, h2, rfl, ⟨h3, rfl, rfl⟩ | ⟨h3, rfl, rfl⟩⟩⟩
  · exact ⟨B, x0_trimSlug_ns (d := d + 2) hC h, hC, hO, spR_e _ m1_neg⟩
  · exact ⟨B, x0_trimSlug_bv (d := d + 2) hO hC hi h, hC, hO, spR_e _ m2_neg⟩
  · exact ⟨B, x0_trimSlug_np (d := d + 2) hO hC hi h1 h2 h3, hC, hO, spR_e _ m5_neg⟩
  · have hb := hO.b hi
    have hc := aCan_lt hO hi
    exact ⟨_, x0_trimSlug_ok (d := d + 2) hO hC hi h1 h2 h3, cr_bts hC, aOk_bts hO hi (by omega) (by omega), spR_n (by omega)⟩
theorem x0_give_sp (hO : aOk A) (hC : CR B A) (hS : spGive A x r A') : ∃ B', axEv ro (d + 5) kX0_giveBack [.ref 1, .int x] (hX B Y sl P G tl) (some (.int r)) ((hX (B') Y sl P G tl)) ∧ CR B' A' ∧ aOk A' ∧ spR A r A' := by
  rcases hS with ⟨h, rfl, rfl⟩ | ⟨p, ⟨hp, rfl⟩, rfl, rfl⟩
  · exact ⟨B, x0_giveBack_out (d := d + 2) hC h, hC, hO, spR_e _ m1_neg⟩
  · have hb := hO.b hp
    exact ⟨_, x0_giveBack_in (d := d + 2) hO hC hp, cr_bts hC, aOk_bts hO hp (by omega) (Nat.le_refl _), spR_n (by omega)⟩
theorem x0_move_sp (hO : aOk A) (hC : CR B A) (hS : spMove A x y r A') : ∃ B', axEv ro (d + 5) kX0_moveSlug [.ref 1, .int x, .int y] (hX B Y sl P G tl) (some (.int r)) ((hX (B') Y sl P G tl)) ∧ CR B' A' ∧ aOk A' ∧ spR A r A' := by
  have hn := hO.n
  rcases hS with ⟨h, rfl, rfl⟩ | ⟨p, q, ⟨hp, rfl⟩, hq, rfl, ⟨h, rfl, rfl⟩ | ⟨h, rfl, rfl⟩⟩
  · refine ⟨B, ?_, hC, hO, spR_e _ m1_neg⟩
    rcases sp_slug A' x with h2 | ⟨p, hp, rfl⟩
    · exact x0_moveSlug_ns1 hC h2
    · rcases h with h | h
      · exact absurd rfl (h p hp)
      · exact x0_moveSlug_ns2 hO hC hp h
  · exact ⟨B, x0_moveSlug_np hO hC hp hq h, hC, hO, spR_e _ m5_neg⟩
  · exact ⟨_, x0_moveSlug_ok hO hC hp hq h, cr_szs hC (by omega) (cr_move hC hp hq), aOk_move hO hp hq h, spR_n (by omega)⟩
theorem x0_swap_sp (hO : aOk A) (hC : CR B A) (hS : spSwap A x y r A') : ∃ B', axEv ro (d + 5) kX0_swapSlugs [.ref 1, .int x, .int y] (hX B Y sl P G tl) (some (.int r)) ((hX (B') Y sl P G tl)) ∧ CR B' A' ∧ aOk A' ∧ spR A r A' := by
  have hn := hO.n
  rcases hS with ⟨h, rfl, rfl⟩ | ⟨p, q, ⟨hp, rfl⟩, ⟨hq, rfl⟩, ⟨e, rfl, rfl⟩ | ⟨e, h, rfl, rfl⟩ | ⟨e, h, rfl, rfl⟩⟩
  · refine ⟨B, ?_, hC, hO, spR_e _ m1_neg⟩
    rcases sp_slug A' x with h2 | ⟨p, hp, rfl⟩
    · exact x0_swapSlugs_ns1 hC h2
    · rcases h with h | h
      · exact absurd rfl (h p hp)
      · exact x0_swapSlugs_ns2 hO hC hp h
  · subst e
    exact ⟨B, x0_swapSlugs_bv hO hC hp, hC, hO, spR_e _ m2_neg⟩
  · exact ⟨B, x0_swapSlugs_np hO hC hp hq e h, hC, hO, spR_e _ m5_neg⟩
  · exact ⟨_, x0_swapSlugs_ok hO hC hp hq e h, cr_swp hC hp hq, aOk_swp hO hp hq e h, spR_n (by omega)⟩
theorem x0_split_sp (hO : aOk A) (hC : CR B A) (hS : spSplit A x y r A') : ∃ B', axEv ro (d + 5) kX0_splitSlug [.ref 1, .int x, .int y] (hX B Y sl P G tl) (some (.int r)) ((hX (B') Y sl P G tl)) ∧ CR B' A' ∧ aOk A' ∧ spR A r A' := by
  rcases hS with ⟨h, rfl, rfl⟩ | ⟨i, ⟨hi, rfl⟩, ⟨h, rfl, rfl⟩ | ⟨v, h1, h2, rfl, ⟨h3, rfl, rfl⟩ | ⟨h3, h4, rfl, rfl⟩ | ⟨h3, h4, z, hz, rfl, rfl⟩⟩⟩
  · exact ⟨B, x0_splitSlug_ns (d := d + 1) hC h, hC, hO, spR_e _ m1_neg⟩
  · exact ⟨B, x0_splitSlug_bv (d := d + 1) hO hC hi h, hC, hO, spR_e _ m2_neg⟩
  · exact ⟨B, x0_splitSlug_np (d := d + 1) hO hC hi h1 h2 h3, hC, hO, spR_e _ m5_neg⟩
  · exact ⟨B, x0_splitSlug_tm (d := d + 1) hO hC hi h1 h2 h3 h4, hC, hO, spR_e _ m4_neg⟩
  · obtain ⟨B', hev, hcr⟩ := x0_splitSlug_ok (ro := ro) (d := d + 1) (Y := Y) (sl := sl) (P := P) (G := G) (tl := tl) hO hC hi h1 h2 h3 h4
    have hfl := aFr_lt hO h4
    have hff := aFr_free hO h4
    rw [← hz] at hev hcr hfl hff
    exact ⟨B', hev, hcr, aOk_split hO h4 hi hfl hff h1 h3, spR_n (by omega)⟩
theorem x0_fit_sp (hO : aOk A) (hC : CR B A) (hS : spFit A x r A') : ∃ B', axEv ro (d + 5) kX0_fitAct [.ref 1, .int x] (hX B Y sl P G tl) (some (.int r)) ((hX (B') Y sl P G tl)) ∧ CR B' A' ∧ aOk A' ∧ spR A r A' := by
  rcases hS with ⟨h, rfl, rfl⟩ | ⟨a, ha, rfl, ⟨h, rfl, rfl⟩ | ⟨h, rfl, rfl⟩⟩
  · exact ⟨B, x0_fitAct_bad m1_neg (x0_cutOf_out hO hC h), hC, hO, spR_e _ m1_neg⟩
  · refine ⟨B, x0_fitAct_bad m5_neg ?_, hC, hO, spR_e _ m5_neg⟩
    have := x0_cutOf_in (ro := ro) (d := d) (Y := Y) (sl := sl) (P := P) (G := G) (tl := tl) hO hC ha
    rw [if_neg h] at this
    exact this
  · obtain ⟨B', hev, hcr, hok⟩ := x0_fitAct_ok (ro := ro) (d := d) (Y := Y) (sl := sl) (P := P) (G := G) (tl := tl) hO hC ha h
    refine ⟨B', hev, hcr, hok, spR_n ?_⟩
    have h1 := aOff_b hO a
    have : aCut A a ≤ (aOff A a).toNat := Nat.min_le_left _ _
    omega
end AX42
