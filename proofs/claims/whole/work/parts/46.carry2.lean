/-! What holds of every board goes on to hold after each change; the pad's orders carried out, from the public method. -/
section AX46a
variable {A A' : axAD} {x y w r : Int32}
theorem spAdd_ok (hO : aOk A) (hS : spAdd A x y w r A') : aOk A' := by
  rcases hS with ⟨h, rfl, rfl⟩ | ⟨p, hp, rfl, h, rfl, rfl⟩ | ⟨p, v, t, hp, rfl, h1, h2, rfl, h3, rfl, ⟨h4, rfl, rfl⟩ | ⟨h4, z, hz, rfl, rfl⟩⟩
  · exact hO
  · exact hO
  · exact hO
  · have hfl := aFr_lt hO h4
    have hff := aFr_free hO h4
    rw [← hz] at hfl hff
    exact aOk_add hO h4 (by omega) hfl hff h1 h2
theorem spNeed_ok (hO : aOk A) (hS : spNeed A x y r A') : aOk A' := by
  rcases hS with ⟨h, rfl, rfl⟩ | ⟨i, j, ⟨hi, rfl⟩, ⟨hj, rfl⟩, ⟨e, rfl, rfl⟩ | ⟨e, hb, rfl, rfl⟩ | ⟨e, hb, rfl, rfl⟩⟩
  · exact hO
  · exact hO
  · exact hO
  · exact aOk_need hO hi hj hb
theorem spTrim_ok (hO : aOk A) (hS : spTrim A x y r A') : aOk A' := by
  rcases hS with ⟨h, rfl, rfl⟩ | ⟨i, ⟨hi, rfl⟩, ⟨h, rfl, rfl⟩ | ⟨v, h1, h2, rfl, ⟨h3, rfl, rfl⟩ | ⟨h3, rfl, rfl⟩⟩⟩
  · exact hO
  · exact hO
  · exact hO
  · have hb := hO.b hi
    have hc := aCan_lt hO hi
    exact aOk_bts hO hi (by omega) (by omega)
theorem spMove_ok (hO : aOk A) (hS : spMove A x y r A') : aOk A' := by
  rcases hS with ⟨h, rfl, rfl⟩ | ⟨p, q, ⟨hp, rfl⟩, hq, rfl, ⟨h, rfl, rfl⟩ | ⟨h, rfl, rfl⟩⟩
  · exact hO
  · exact hO
  · exact aOk_move hO hp hq h
theorem spSwap_ok (hO : aOk A) (hS : spSwap A x y r A') : aOk A' := by
  rcases hS with ⟨h, rfl, rfl⟩ | ⟨p, q, ⟨hp, rfl⟩, ⟨hq, rfl⟩, ⟨e, rfl, rfl⟩ | ⟨e, h, rfl, rfl⟩ | ⟨e, h, rfl, rfl⟩⟩
  · exact hO
  · exact hO
  · exact hO
  · exact aOk_swp hO hp hq e h
theorem aOk_ft (lo : Nat) : ∀ m left (A : axAD), aOk A → lo + m ≤ aN A → aOk (aFt lo m left A)
  | 0, _, A, hO, _ => by rw [aFt]; exact hO
  | m + 1, left, A, hO, hn => by
    rw [aFt]
    split
    · exact hO
    · have hlt := aCan_lt hO (show lo + m < aN A by omega)
      have hbb := hO.b (show lo + m < aN A by omega)
      exact aOk_ft lo m _ _ (aOk_bts hO (show lo + m < aN A by omega) (by omega) (by omega)) (by show lo + m ≤ aN A; omega)
theorem aOk_fit (hO : aOk A) (a : Nat) : aOk (aFit A a) := by
  have h1 := aSt_mono A (show a ≤ a + 1 by omega)
  have h2 := aSt_le A (a + 1)
  exact aOk_ft _ _ _ _ hO (by omega)
theorem spFit_ok (hO : aOk A) (hS : spFit A x r A') : aOk A' := by
  rcases hS with ⟨h, rfl, rfl⟩ | ⟨a, ha, rfl, ⟨h, rfl, rfl⟩ | ⟨h, rfl, rfl⟩⟩
  · exact hO
  · exact hO
  · exact aOk_fit hO a
theorem spOrd_ok (hO : aOk A) {k v w : Nat} (hS : spOrd A k v w r A') : aOk A' := by
  rcases hS with ⟨rfl, hS⟩ | ⟨rfl, hS⟩ | ⟨rfl, hS⟩ | ⟨rfl, hS⟩ | ⟨rfl, hS⟩ | ⟨rfl, hS⟩
  · exact spAdd_ok hO hS
  · exact spNeed_ok hO hS
  · exact spMove_ok hO hS
  · exact spSwap_ok hO hS
  · exact spTrim_ok hO hS
  · exact spFit_ok hO hS
theorem spRun_ex {t : Nat → Nat} {pl : Nat} : ∀ m c (A : axAD), aOk A → c ≤ pl → aFa t pl m c = none → ∃ n A', spRun t pl m c A n A'
  | 0, _, A, _, _, _ => ⟨0, A, rfl, rfl⟩
  | m + 1, c, A, hO, hc, hfa => by
    obtain ⟨he1, he2⟩ := aFa_none hfa
    obtain ⟨r1, r2, -⟩ := rdE_le (t := t) hc
    obtain ⟨r, A1, hS⟩ := spOrd_ex hO (rdO_k (r2 he1)) (rdO t pl c).2.2.1 (rdO t pl c).2.2.2
    by_cases hr : r < 0
    · exact ⟨0, A, r, A1, hS, Or.inl ⟨hr, rfl, rfl⟩⟩
    · rcases he2 with h | ⟨h, h2⟩
      · exact ⟨1, A1, r, A1, hS, Or.inr ⟨hr, Or.inl ⟨h, rfl, rfl⟩⟩⟩
      · obtain ⟨n', A', hn⟩ := spRun_ex m _ A1 (spOrd_ok hO hS) r1 h2
        exact ⟨n' + 1, A', r, A1, hS, Or.inr ⟨hr, Or.inr ⟨h, n', rfl, hn⟩⟩⟩
theorem aFa_le {t : Nat → Nat} {pl : Nat} : ∀ m c z, c ≤ pl → aFa t pl m c = some z → z ≤ pl
  | 0, _, _, _, h => by cases h
  | m + 1, c, z, hc, h => by
    have h1 := (rdE_le (t := t) hc).1
    rw [aFa] at h
    split at h
    · split at h
      · cases h
      · exact aFa_le m _ z h1 h
    · cases h; exact h1
end AX46a
def spCarry (V : axV) (r : Int32) (V' : axV) : Prop :=
  ((∃ c, aFa (vT V) (vP V) 81 0 = some c) ∧ r = -3 ∧ V' = V) ∨
  (aFa (vT V) (vP V) 81 0 = none ∧ ∃ n A', spRun (vT V) (vP V) 81 0 (vA V) n A' ∧ r = nI n ∧ V' = stpN (vA V, vK V, vH V, vS V, 0, vT V) A')
section AX46
variable {ro : axRo} {d m : Nat} {mc h : axH} {V V' : axV} {x r : Int32}
theorem spCarry_ex (hO : aOk (vA V)) : ∃ r V', spCarry V r V' := by
  cases h : aFa (vT V) (vP V) 81 0 with
  | some c => exact ⟨_, _, Or.inl ⟨⟨c, h⟩, rfl, rfl⟩⟩
  | none =>
    obtain ⟨n, A', hn⟩ := spRun_ex 81 0 (vA V) hO (Nat.zero_le _) h
    exact ⟨_, _, Or.inr ⟨h, n, A', hn, rfl, rfl⟩⟩
theorem x4_carryOut (hm : mc.length = 7) (hx : XS V mc m h) (hS : spCarry V r V') : ∃ h', axEv ro (d + 7) kX4_carryOut [.ref 0] h (some (.int r)) h' ∧ XS V' mc (m + 1) h' := by
  obtain ⟨B, nx, sf, lf, f, cu, la, ki, fi, se, G, bs, rfl, hC, hO, hK, hT, hb1, hb2⟩ := hx
  have hl := hT.1
  obtain ⟨cu', la', ki', fi', se', hev⟩ := x2_firstFault (ro := ro) (d := d) (B := B) (Y := (sf, nI nx, nI (vK V))) (sl := lf) (G := G) (tl := mc ++ bs) (cu := cu) (la := la) (ki := ki) (fi := fi) (se := se) hT
  rcases hS with ⟨⟨c, hc⟩, rfl, rfl⟩ | ⟨hfa, n, A', hrun, rfl, rfl⟩
  · refine ⟨_, ?_, B, nx, sf, lf, f, cu', la', ki', fi', se', G, bs, rfl, hC, hO, KP_go hK, hT, by omega, by omega⟩
    have hle := aFa_le 81 0 c (Nat.zero_le _) hc
    rw [hc] at hev
    have hev : axEv ro (d + 6) kX2_firstFault [.ref 11] (hX B (sf, nI nx, nI (vK V')) lf (f, nI (vP V'), cu, la, ki, fi, se) G (mc ++ bs)) (some (.int (nI c))) (hX B (sf, nI nx, nI (vK V')) lf (f, nI (vP V'), cu', la', ki', fi', se') G (mc ++ bs)) := hev
    refine ev_in rfl rfl (Nat.le_of_ble_eq_true rfl) rfl ?_
    refine wp_run rfl ?_
    refine wp_v0 rfl rfl (Nat.le_of_ble_eq_true rfl) (hev) ?_
    refine wp_run rfl ?_
    refine wp_iceq rfl (fun hz => absurd (show nI c < 0 by rw [hz]; decide) (nI_pos (by omega))) (fun _ => ?_)
    refine wp_run rfl ?_
    exact wp_ret rfl rfl ⟨rfl, rfl⟩
  · obtain ⟨sf', bs', hev1, hK1, hZ1, hc1, hc2⟩ := x1_prepare (ro := ro) (d := d + 3) hm hC hO (KP_go (P' := (f, nI (vP V), cu', la', ki', fi', se')) (B' := B) (Y' := (sf, nI nx, nI (vK V))) (sl' := lf) (G' := G) hK)
    rw [hfa] at hev
    have hev : axEv ro (d + 6) kX2_firstFault [.ref 11] (hX B (sf, nI nx, nI (vK V)) lf (f, nI (vP V), cu, la, ki, fi, se) G (mc ++ bs)) (some (.int (-6))) (hX B (sf, nI nx, nI (vK V)) lf (f, nI (vP V), cu', la', ki', fi', se') G (mc ++ bs)) := hev
    obtain ⟨B', cu2, la2, ki2, fi2, se2, hC2, hO2, hle, hgo⟩ := x4_orders (ro := ro) (d := d) (Y := (sf', nI nx, nI (vK V))) (sl := lf) (G := G) (tl := mc ++ bs') hT 81 0 0 B (vA V) n la' ki' fi' se' hC hO hfa hrun (by omega) (Nat.zero_le _) (Nat.le_refl _)
    obtain ⟨h', hev3, hx3⟩ := x1_settle_xs (ro := ro) (d := d + 5) (m := m + 1) (V := (vA V, vK V, vH V, vS V, 0, vT V)) (A' := A') (r := nI n) (B := B) (B' := B') (Y := (sf', nI nx, nI (vK V))) (f := f) (cu := cu2) (la := la2) (ki := ki2) (fi := fi2) (se := se2) (G := G) hC2 hO2 (spR_n (by omega)) (KP_go hK1) (ZH_go (by have := hK.1; omega) hK1.2.2.1 hZ1) ⟨by show 0 ≤ 80; omega, fun i hi => absurd hi (Nat.not_lt_zero i)⟩ (by omega) (by omega)
    rw [show stp (vA V, vK V, vH V, vS V, 0, vT V) (nI n) A' = stpN (vA V, vK V, vH V, vS V, 0, vT V) A' from if_neg (nI_pos (by omega))] at hx3
    refine ⟨h', ?_, hx3⟩
    rw [Nat.zero_add] at hgo
    refine ev_in rfl rfl (Nat.le_of_ble_eq_true rfl) rfl ?_
    refine wp_run rfl ?_
    refine wp_v0 rfl rfl (Nat.le_of_ble_eq_true rfl) (hev) ?_
    refine wp_run rfl ?_
    refine wp_iceq rfl (fun _ => ?_) (fun hz => absurd rfl hz)
    refine wp_run rfl ?_
    refine wp_v1v rfl rfl (Nat.le_of_ble_eq_true rfl) (hev1) ?_
    refine wp_run rfl ?_
    refine wp_v0v rfl rfl (Nat.le_of_ble_eq_true rfl) (x2_rewind (d := d + 5)) ?_
    refine wp_run rfl ?_
    refine hgo _ ?_
    refine wp_v0 rfl rfl (Nat.le_of_ble_eq_true rfl) (x2_clear (d := d + 5)) ?_
    refine wp_run rfl ?_
    refine wp_v1 rfl rfl (Nat.le_of_ble_eq_true rfl) (hev3) ?_
    refine wp_run rfl ?_
    exact wp_ret rfl rfl ⟨rfl, rfl⟩
end AX46
