/-! THE REFERENCE: a new one; both beside each other at the start. -/
def hN (c : Nat → axC) (fs : List Value) (tl : axH) : axH := c 0 :: c 1 :: c 2 :: c 3 :: c 4 :: c 5 :: c 6 :: c 7 :: c 8 :: c 9 :: c 10 :: c 11 :: c 12 :: c 13 :: c 14 :: .inr (.inr (5, fs)) :: tl
/-- the object's fields while it is made: its seven arrays -/
def fN (a b s v f p : Value) : List Value := [a, b, .int 0, s, v, f, p, .int 0, .int 0, .int 0, .int 0, .int 0, .int 0, .int 0]
def tgF (s : Nat → Int32) (q : Nat) : Nat → Int32 := fun j => if 4 ≤ j ∧ j < 4 + q then 60 else s j
theorem tgF_0 (s : Nat → Int32) : tgF s 0 = s := by funext j; exact if_neg (by omega)
theorem tgF_s (s : Nat → Int32) (q : Nat) : upd (tgF s q) (4 + q) 60 = tgF s (q + 1) := by
  funext j
  unfold tgF
  by_cases e : j = 4 + q
  · rw [e, pk_us, if_pos (by omega)]
  · rw [pk_un e]
    by_cases e2 : 4 ≤ j ∧ j < 4 + q
    · rw [if_pos e2, if_pos (by omega)]
    · rw [if_neg e2, if_neg (by omega)]
def sIni : Nat → Int32 := tgF (upd (upd (upd z0F 1 16) 2 2) 3 50) 6
def mIni : axMD := (sIni, z0F, 0, z0F, z0F, z0F, z0F, 0, 0, 0, 0, 0, 0, 0)
def aIni : axAD := (0, fun _ => 0, fun _ => 0, fun _ => 0, fun _ => 0, fun _ => false, 16, 2, 50, fun _ => 60)
def vIni : axV := (aIni, 0, fun _ => aIni, fun _ => none, 0, fun _ => 0)
section AX65
variable {ro : axRo} {d : Nat} {c : Nat → axC}
def arN (n : Nat) : axC := .inl (0, n, z0F)
theorem x5_init : axEv ro (d + 1) kX5_init [.ref 15] (hN c (axDf 5) []) none (hM c mIni []) := by
  have loop : ∀ m q, q + m = 6 → axW ro (axEv ro d) cdX5_init 83 [some (.ref 15), some (.int (nI q))] [.int 6, .int (nI q)] (hM c (tgF (upd (upd (upd z0F 1 16) 2 2) 3 50) q, z0F, 0, z0F, z0F, z0F, z0F, 0, 0, 0, 0, 0, 0, 0) []) (fun r' h' => r' = none ∧ h' = hM c mIni []) := by
    intro m
    induction m with
    | zero =>
      intro q e
      have e : q = 6 := by omega
      subst e
      refine wp_icge rfl (fun _ => ?_) (fun hz_ => absurd (nI_le (b := 6) (Nat.le_refl 6) (by decide)) hz_)
      refine wp_run rfl ?_
      exact wp_retv rfl ⟨rfl, rfl⟩
    | succ m ih =>
      intro q e
      refine wp_icge rfl (fun hz_ => absurd hz_ (nI_ge (b := 6) (by omega) (by decide))) (fun _ => ?_)
      refine wp_run rfl ?_
      rw [show (4 : Int32) + nI q = nI (4 + q) from nI_add 4 q]
      refine wp_ast (h1 := hM c (tgF (upd (upd (upd z0F 1 16) 2 2) 3 50) (q + 1), z0F, 0, z0F, z0F, z0F, z0F, 0, 0, 0, 0, 0, 0, 0) []) rfl rfl (vp_in_nI (show 4 + q < 154 by omega) (by decide)) rfl (by rw [nI_clamp (by omega), ← tgF_s]; rfl) ?_
      refine wp_run rfl ?_
      rw [nI_1]
      exact ih (q + 1) (by omega)
  have loop0 := loop 6 0 (by decide)
  rw [tgF_0] at loop0
  refine ev_in rfl rfl (Nat.le_of_ble_eq_true rfl) rfl ?_
  refine wp_run rfl ?_
  refine wp_obj rfl (Nat.le_of_ble_eq_true rfl) ?_
  refine wp_run rfl ?_
  refine wp_newa (q := 16) (N := 154) (h1 := hN c (fN .null .null .null .null .null .null) [arN 154]) rfl (by decide) (by decide) (by decide) rfl rfl ?_
  refine wp_run rfl ?_
  refine wp_putF (h1 := hN c (fN (.ref 16) .null .null .null .null .null) [arN 154]) rfl rfl (Nat.le_of_ble_eq_true rfl) ⟨rfl, rfl, fun _ hz_ => by cases hz_⟩ rfl ?_
  refine wp_run rfl ?_
  refine wp_newa (q := 17) (N := 924) (h1 := hN c (fN (.ref 16) .null .null .null .null .null) [arN 154, arN 924]) rfl (by decide) (by decide) (by decide) rfl rfl ?_
  refine wp_run rfl ?_
  refine wp_putF (h1 := hN c (fN (.ref 16) (.ref 17) .null .null .null .null) [arN 154, arN 924]) rfl rfl (Nat.le_of_ble_eq_true rfl) ⟨rfl, rfl, fun _ hz_ => by cases hz_⟩ rfl ?_
  refine wp_run rfl ?_
  refine wp_newa (q := 18) (N := 308) (h1 := hN c (fN (.ref 16) (.ref 17) .null .null .null .null) [arN 154, arN 924, arN 308]) rfl (by decide) (by decide) (by decide) rfl rfl ?_
  refine wp_run rfl ?_
  refine wp_putF (h1 := hN c (fN (.ref 16) (.ref 17) (.ref 18) .null .null .null) [arN 154, arN 924, arN 308]) rfl rfl (Nat.le_of_ble_eq_true rfl) ⟨rfl, rfl, fun _ hz_ => by cases hz_⟩ rfl ?_
  refine wp_run rfl ?_
  refine wp_newa (q := 19) (N := 2) (h1 := hN c (fN (.ref 16) (.ref 17) (.ref 18) .null .null .null) [arN 154, arN 924, arN 308, .inl (2, 2, z0F)]) rfl (by decide) (by decide) (by decide) rfl rfl ?_
  refine wp_run rfl ?_
  refine wp_putF (h1 := hN c (fN (.ref 16) (.ref 17) (.ref 18) (.ref 19) .null .null) [arN 154, arN 924, arN 308, .inl (2, 2, z0F)]) rfl rfl (Nat.le_of_ble_eq_true rfl) ⟨rfl, rfl, fun _ hz_ => by cases hz_⟩ rfl ?_
  refine wp_run rfl ?_
  refine wp_newa (q := 20) (N := 154) (h1 := hN c (fN (.ref 16) (.ref 17) (.ref 18) (.ref 19) .null .null) [arN 154, arN 924, arN 308, .inl (2, 2, z0F), arN 154]) rfl (by decide) (by decide) (by decide) rfl rfl ?_
  refine wp_run rfl ?_
  refine wp_putF (h1 := hN c (fN (.ref 16) (.ref 17) (.ref 18) (.ref 19) (.ref 20) .null) [arN 154, arN 924, arN 308, .inl (2, 2, z0F), arN 154]) rfl rfl (Nat.le_of_ble_eq_true rfl) ⟨rfl, rfl, fun _ hz_ => by cases hz_⟩ rfl ?_
  refine wp_run rfl ?_
  refine wp_newa (q := 21) (N := 80) (h1 := hN c (fN (.ref 16) (.ref 17) (.ref 18) (.ref 19) (.ref 20) .null) [arN 154, arN 924, arN 308, .inl (2, 2, z0F), arN 154, arN 80]) rfl (by decide) (by decide) (by decide) rfl rfl ?_
  refine wp_run rfl ?_
  refine wp_putF (h1 := hM c (z0F, z0F, 0, z0F, z0F, z0F, z0F, 0, 0, 0, 0, 0, 0, 0) []) rfl rfl (Nat.le_of_ble_eq_true rfl) ⟨rfl, rfl, fun _ hz_ => by cases hz_⟩ rfl ?_
  refine wp_run rfl ?_
  refine wp_ast (h1 := hM c (upd z0F 1 16, z0F, 0, z0F, z0F, z0F, z0F, 0, 0, 0, 0, 0, 0, 0) []) rfl rfl (vp_in_nI (n := 1) (by decide) (by decide)) rfl rfl ?_
  refine wp_run rfl ?_
  refine wp_ast (h1 := hM c (upd (upd z0F 1 16) 2 2, z0F, 0, z0F, z0F, z0F, z0F, 0, 0, 0, 0, 0, 0, 0) []) rfl rfl (vp_in_nI (n := 2) (by decide) (by decide)) rfl rfl ?_
  refine wp_run rfl ?_
  refine wp_ast (h1 := hM c (upd (upd (upd z0F 1 16) 2 2) 3 50, z0F, 0, z0F, z0F, z0F, z0F, 0, 0, 0, 0, 0, 0, 0) []) rfl rfl (vp_in_nI (n := 3) (by decide) (by decide)) rfl rfl ?_
  refine wp_run rfl ?_
  exact loop0
theorem aOk_ini : aOk aIni := ⟨by show 0 ≤ 24; omega, fun i hi => absurd hi (Nat.not_lt_zero i), fun i _ hi => absurd hi (Nat.not_lt_zero i), fun i hi => absurd hi (Nat.not_lt_zero i), fun i _ hi => absurd hi (Nat.not_lt_zero i), ⟨by show 4 ≤ 16; omega, by show 16 ≤ 60; omega⟩, by show 2 ≤ 20; omega, by show 50 ≤ 90; omega, fun a _ => ⟨by show 1 ≤ 60; omega, by show 60 ≤ 999; omega⟩⟩
theorem MR_ini : MR sIni aIni := by
  refine ⟨rfl, fun i hi => absurd hi (Nat.not_lt_zero i), fun i hi => absurd hi (Nat.not_lt_zero i), fun k hk => ⟨fun ⟨i, hi, _⟩ => absurd hi (Nat.not_lt_zero i), fun _ => ?_⟩, ⟨rfl, rfl, rfl⟩, fun a ha => ?_⟩
  · show (if 4 ≤ 34 + 5 * k ∧ 34 + 5 * k < 4 + 6 then 60 else upd (upd (upd z0F 1 16) 2 2) 3 50 (34 + 5 * k)) = 0
    rw [if_neg (by omega), pk_un (by omega), pk_un (by omega), pk_un (by omega)]; rfl
  · show (if 4 ≤ 4 + a ∧ 4 + a < 4 + 6 then 60 else upd (upd (upd z0F 1 16) 2 2) 3 50 (4 + a)) = nI 60
    rw [if_pos (by omega)]; rfl
theorem MSt_ini : MSt vIni mIni := ⟨MR_ini, aOk_ini, rfl, by show 0 ≤ 6; omega, fun j hj => absurd hj (Nat.not_lt_zero j), fun i hi => ⟨fun _ => rfl, fun A hA => by cases hA⟩, rfl, ⟨by show 0 ≤ 80; omega, fun i hi => absurd hi (Nat.not_lt_zero i)⟩⟩
theorem CR_ini : CR bIni aIni := by
  refine ⟨rfl, fun i hi => absurd hi (Nat.not_lt_zero i), fun i hi => absurd hi (Nat.not_lt_zero i), fun k => ?_, fun k => ?_, ⟨rfl, rfl, rfl⟩, fun a ha => ?_⟩
  · show bt 0 k = true ↔ _
    rw [b_0]
    exact ⟨fun h => Bool.noConfusion h, fun ⟨i, hi, _⟩ => absurd hi (Nat.not_lt_zero i)⟩
  · show bt 0 k = true ↔ _
    rw [b_0]
    exact ⟨fun h => Bool.noConfusion h, fun ⟨⟨i, hi, _⟩, _⟩ => absurd hi (Nat.not_lt_zero i)⟩
  · match a, ha with
    | 0, _ => rfl
    | 1, _ => rfl
    | 2, _ => rfl
    | 3, _ => rfl
    | 4, _ => rfl
    | 5, _ => rfl
    | n + 6, h => exact absurd h (by omega)
/-- the reference's cells -/
def mcO (M : axMD) : axH := [axMO M, axAi 154 (mS M), axAi 924 (mHs M), axAi 308 (mSl M), .inl (2, 2, mSv M), axAi 154 (mBf M), axAi 80 (mPd M)]
def cX (B : axBD) (Y : axYD) (sl : Nat → Option Nat) (P : axPD) (G : axGD) : Nat → axC := fun i => match i with
  | 0 => .inr (.inr (4, [.ref 1, .ref 8, .ref 10, .ref 11, .ref 13]))
  | 1 => .inr (.inr (0, [.ref 2, .ref 3, .ref 4, .ref 5, .ref 6, .ref 7, .int (bSg B), .int (bTn B), .int (bSz B)]))
  | 2 => axAi 3 (bSt B)
  | 3 => axAi 6 (bTg B)
  | 4 => axAi 24 (bRw B)
  | 5 => axAi 24 (bWr B)
  | 6 => axAi 24 (bBt B)
  | 7 => axAi 24 (bNd B)
  | 8 => .inr (.inr (1, [.ref 9, .int Y.2.1, .int Y.2.2]))
  | 9 => .inr (.inl (7, Y.1))
  | 10 => .inr (.inl (2, sl))
  | 11 => .inr (.inr (2, [.ref 12, .int P.2.1, .int P.2.2.1, .int P.2.2.2.1, .int P.2.2.2.2.1, .int P.2.2.2.2.2.1, .int P.2.2.2.2.2.2]))
  | 12 => .inl (1, 80, P.1)
  | 13 => .inr (.inr (3, [.ref 14, .int G.2.1, .int G.2.2.1, .int G.2.2.2]))
  | _ => axAi 24 G.1
theorem hM_hX {B Y sl P G M bs} : hM (cX B Y sl P G) M bs = hX B Y sl P G (mcO M ++ bs) := rfl
theorem hN_hX {B Y sl P G fs} : hN (cX B Y sl P G) fs [] = hX B Y sl P G [] ++ [.inr (.inr (5, fs))] := rfl
theorem XS_hM {V : axV} {M : axMD} {m : Nat} {h : axH} (hx : XS V (mcO M) m h) : ∃ c tl, h = hM c M tl ∧ ∀ M', XS V (mcO M') m (hM c M' tl) := by
  obtain ⟨B, nx, sf, lf, f, cu, la, ki, fi, se, G, bs, rfl, hC, hO, hK, hT, hb1, hb2⟩ := hx
  refine ⟨cX B (sf, nI nx, nI (vK V)) lf (f, nI (vP V), cu, la, ki, fi, se) G, bs, rfl, fun M' => ⟨B, nx, sf, lf, f, cu, la, ki, fi, se, G, bs, rfl, hC, hO, KP_same hK (fun k hk => ?_), hT, hb1, hb2⟩⟩
  rw [hM_hX, hX_get (by omega), hX_get (by omega), List.getElem?_append_right (by show 7 ≤ k - 15; omega), List.getElem?_append_right (by show 7 ≤ k - 15; omega)]
  rfl
theorem XS_ini : XS vIni (mcO mIni) 0 (hM (cX bIni (nO, 0, 0) nO pIni gIni) mIni []) := by
  refine ⟨bIni, 0, nO, nO, z0F, 0, 0, 0, 0, 0, gIni, [], rfl, CR_ini, aOk_ini, ⟨by omega, by show 0 ≤ 6; omega, ⟨fun i _ o ho => ?_, fun i j _ _ _ o q ho => ?_⟩, fun j hj => absurd hj (Nat.not_lt_zero j), fun i _ => ⟨fun _ => rfl, fun A hA => by cases hA⟩⟩, ⟨by show 0 ≤ 80; omega, fun i hi => absurd hi (Nat.not_lt_zero i)⟩, Nat.le_refl 0, Nat.le_refl 0⟩
  · unfold zO nO at ho; split at ho <;> cases ho
  · unfold zO nO at ho; split at ho <;> cases ho
end AX65
