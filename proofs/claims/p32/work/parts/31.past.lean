/-! THE CLASS: what is kept of earlier boards: prepare, settle, takeBack, save, restore. -/
theorem hX_get {B Y sl P G tl} {k : Nat} (hk : 15 ≤ k) : (hX B Y sl P G tl)[k]? = tl[k - 15]? := by
  show (hX B Y sl P G [] ++ tl)[k]? = _
  rw [List.getElem?_append_right hk]; rfl
theorem hX_len {B Y sl P G tl} : (hX B Y sl P G tl).length = 15 + tl.length := by
  show (hX B Y sl P G [] ++ tl).length = _
  rw [List.length_append]; rfl
theorem hX_to {B Y sl P G} {mc h' : axH} (h1 : ∀ k, k < 15 → h'[k]? = (hX B Y sl P G [])[k]?) (h2 : ∀ k, 15 ≤ k → k < 15 → h'[k]? = mc[k - 15]?) (hm : mc.length = 0) : ∃ bs, h' = hX B Y sl P G (mc ++ bs) := by
  refine ⟨h'.drop 15, List.ext_getElem? fun k => ?_⟩
  by_cases a : k < 15
  · rw [h1 k a]
    show _ = (hX B Y sl P G [] ++ (mc ++ h'.drop 15))[k]?
    rw [List.getElem?_append_left (show k < (hX B Y sl P G []).length from a)]
  · rw [hX_get (by omega)]
    by_cases b : k < 15
    · rw [h2 k (by omega) b, List.getElem?_append_left (by omega)]
    · rw [List.getElem?_append_right (by omega), hm, List.getElem?_drop]
      congr 1; omega
theorem ZB_same {h h' : axH} {bo : Nat → Option Nat} (hZ : ZB h bo) (hs : ∀ k, 15 ≤ k → h'[k]? = h[k]?) : ZB h' bo :=
  ⟨fun i hi o ho => by
    obtain ⟨a, C, b⟩ := hZ.1 i hi o ho
    exact ⟨a, C, HBd_same b fun k h1 _ => hs k (by omega)⟩, hZ.2⟩
theorem ZH_same {h h' : axH} {bo : Nat → Option Nat} {i : Nat} {A : axAD} (hi : i < 9) (hB : ZB h bo) (hZ : ZH h bo i A) (hs : ∀ k, 15 ≤ k → h'[k]? = h[k]?) : ZH h' bo i A := by
  obtain ⟨o, C, a, b, c⟩ := hZ
  have := (hB.1 i hi o a).1
  exact ⟨o, C, a, HBd_same b fun k h1 _ => hs k (by omega), c⟩
/-- what is kept: the states (the next to be written, how many), the slots -/
def KP (h : axH) (sf lf : Nat → Option Nat) (nx k : Nat) (hs : Nat → axAD) (sv : Nat → Option axAD) : Prop :=
  nx < 7 ∧ k ≤ 6 ∧ ZB h (zO sf lf) ∧ (∀ j, j < k → ZH h (zO sf lf) ((nx + 6 - j) % 7) (hs j)) ∧ (∀ i, i < 2 → (sv i = none → lf i = none) ∧ ∀ A, sv i = some A → ZH h (zO sf lf) (7 + i) A)
theorem KP_same {h h' : axH} {sf lf : Nat → Option Nat} {nx k : Nat} {hs : Nat → axAD} {sv : Nat → Option axAD} (hK : KP h sf lf nx k hs sv) (hs' : ∀ k, 15 ≤ k → h'[k]? = h[k]?) : KP h' sf lf nx k hs sv := by
  obtain ⟨k1, k2, k3, k4, k5⟩ := hK
  exact ⟨k1, k2, ZB_same k3 hs', fun j hj => ZH_same (by omega) k3 (k4 j hj) hs', fun i hi => ⟨(k5 i hi).1, fun A hA => ZH_same (by omega) k3 ((k5 i hi).2 A hA) hs'⟩⟩
theorem hX_same {B Y sl P G B' Y' sl' P' G' tl} : ∀ k, 15 ≤ k → (hX B' Y' sl' P' G' tl)[k]? = (hX B Y sl P G tl)[k]? := fun k hk => by rw [hX_get (by omega), hX_get (by omega)]
theorem KP_go {B Y sl P G B' Y' sl' P' G' tl} {sf lf : Nat → Option Nat} {nx k : Nat} {hs : Nat → axAD} {sv : Nat → Option axAD} (hK : KP (hX B Y sl P G tl) sf lf nx k hs sv) : KP (hX B' Y' sl' P' G' tl) sf lf nx k hs sv := KP_same hK hX_same
theorem ZH_go {B Y sl P G B' Y' sl' P' G' tl} {bo : Nat → Option Nat} {i : Nat} {A : axAD} (hi : i < 9) (hB : ZB (hX B Y sl P G tl) bo) (hZ : ZH (hX B Y sl P G tl) bo i A) : ZH (hX B' Y' sl' P' G' tl) bo i A := ZH_same hi hB hZ hX_same
theorem zO_st {sf lf : Nat → Option Nat} {i : Nat} {v : Option Nat} (hi : i < 7) : va_up (zO sf lf) i v = zO (va_up sf i v) lf := by
  funext j
  by_cases e : j = i
  · subst e
    rw [va_is]; unfold zO; rw [if_pos hi, va_is]
  · rw [va_no e]; unfold zO
    by_cases e2 : j < 7
    · rw [if_pos e2, if_pos e2, va_no e]
    · rw [if_neg e2, if_neg e2]
theorem zO_sl {sf lf : Nat → Option Nat} {i : Nat} {v : Option Nat} : va_up (zO sf lf) (7 + i) v = zO sf (va_up lf i v) := by
  funext j
  by_cases e : j = 7 + i
  · subst e
    rw [va_is]; unfold zO; rw [if_neg (by omega), Nat.add_sub_cancel_left, va_is]
  · rw [va_no e]; unfold zO
    by_cases e2 : j < 7
    · rw [if_pos e2, if_pos e2]
    · rw [if_neg e2, if_neg e2, va_no (by omega)]
section AX31
variable {ro : axRo} {d : Nat} {h : axH} {A : axAD} {B : axBD} {sf lf : Nat → Option Nat} {nx k : Nat} {hs : Nat → axAD} {sv : Nat → Option axAD} {P : axPD} {G : axGD} {mc bs tl : axH} {Y : axYD} {sl : Nat → Option Nat}
theorem axSl_apps (a b : axH) : axSl (a ++ b) = axSl a + axSl b := by
  unfold axSl; rw [List.map_append, List.sum_append]
theorem axSl_hX {bs' : axH} : axSl (hX B Y sl P G (mc ++ bs')) + axSl bs = axSl (hX B Y sl P G (mc ++ bs)) + axSl bs' := by
  show axSl (hX B Y sl P G [] ++ (mc ++ bs')) + axSl bs = axSl (hX B Y sl P G [] ++ (mc ++ bs)) + axSl bs'
  rw [axSl_apps, axSl_apps, axSl_apps, axSl_apps]; omega
theorem x1_prepare (hm : mc.length = 0) (hC : CR B A) (hO : aOk A) (hK : KP (hX B (sf, nI nx, nI k) lf P G (mc ++ bs)) sf lf nx k hs sv) : ∃ sf' bs', axEv ro (d + 3) kX1_prepare [.ref 8, .ref 1] (hX B (sf, nI nx, nI k) lf P G (mc ++ bs)) none (hX B (sf', nI nx, nI k) lf P G (mc ++ bs')) ∧ KP (hX B (sf', nI nx, nI k) lf P G (mc ++ bs')) sf' lf nx k hs sv ∧ ZH (hX B (sf', nI nx, nI k) lf P G (mc ++ bs')) (zO sf' lf) nx A ∧ bs'.length ≤ bs.length + 7 ∧ axSl bs' ≤ axSl bs + 114 := by
  obtain ⟨k1, k2, k3, k4, k5⟩ := hK
  obtain ⟨o, h', hev, z1, z2, z3, hsm, ⟨fs, hfs⟩, -, hl2, hsl⟩ := x4_copyInto (ro := ro) (d := d) (B := B) (i := nx) ⟨rfl, rfl, rfl, rfl, rfl, rfl, rfl⟩ hC hO (by rw [hX_len, List.length_append, hm]; omega) k3 (by omega)
  rw [zO_st k1] at z1 z2 z3
  have hbo : zO sf lf nx = sf nx := if_pos k1
  rw [hbo] at hev
  obtain ⟨bs', e⟩ := hX_to (B := B) (Y := (sf, nI nx, nI k)) (sl := lf) (P := P) (G := G) (mc := mc) (h' := h') (fun k hk => (hsm k (by omega)).trans (by
      show (hX B _ lf P G [] ++ (mc ++ bs))[k]? = _
      rw [List.getElem?_append_left (show k < (hX B (sf, nI nx, _) lf P G []).length from hk)])) (fun k h1 h2 => (hsm k h2).trans (by rw [hX_get h1, List.getElem?_append_left (by omega)])) hm
  subst e
  rw [hX_len, hX_len, List.length_append, List.length_append] at hl2
  have hsl2 := axSl_hX (B := B) (Y := (sf, nI nx, nI k)) (sl := lf) (P := P) (G := G) (mc := mc) (bs := bs) (bs' := bs')
  refine ⟨va_up sf nx (some o), bs', ?_, KP_go (Y := (sf, nI nx, nI k)) (B := B) (sl := lf) (P := P) (G := G) ⟨k1, k2, z1, fun j hj => z3 _ (by omega) (by omega) _ (k4 j hj), fun i hi => ⟨(k5 i hi).1, fun A' hA => z3 _ (by omega) (by omega) _ ((k5 i hi).2 A' hA)⟩⟩, ZH_go (by omega) z1 z2, by omega, by omega⟩
  refine ev_in rfl rfl (Nat.le_of_ble_eq_true rfl) rfl ?_
  refine wp_run rfl ?_
  refine wp_iflt rfl (fun hz_ => absurd hz_ (nI_pos (by omega))) (fun _ => ?_)
  refine wp_run rfl ?_
  refine wp_icge rfl (fun hz_ => absurd hz_ (nI_ge (b := 7) k1 (by omega))) (fun _ => ?_)
  refine wp_run rfl ?_
  refine wp_aald rfl rfl (vp_in_nI k1 (by decide)) (by rw [nI_clamp (by omega)]) ?_
  refine wp_run rfl ?_
  refine wp_s2 rfl (Nat.le_of_ble_eq_true rfl) (hev) ?_
  refine wp_run rfl ?_
  refine wp_aast (h1 := hX B (va_up sf nx (some o), nI nx, nI k) lf P G (mc ++ bs')) rfl rfl hfs (vp_in_nI k1 (by decide)) (by rw [nI_clamp (by omega)]; rfl) ?_
  refine wp_run rfl ?_
  exact wp_retv rfl ⟨rfl, rfl⟩
theorem x1_settle_neg {x : Int32} (hx : x < 0) : axEv ro (d + 1) kX1_settle [.ref 8, .int x] h (some (.int x)) h := by
  refine ev_in rfl rfl (Nat.le_of_ble_eq_true rfl) rfl ?_
  refine wp_run rfl ?_
  refine wp_iflt rfl (fun _ => ?_) (fun hz_ => absurd (hx) hz_)
  refine wp_run rfl ?_
  exact wp_ret rfl rfl ⟨rfl, rfl⟩
theorem x1_settle {n : Nat} (hn : n < 2 ^ 31) (h1 : nx < 7) (h2 : k ≤ 6) : axEv ro (d + 1) kX1_settle [.ref 8, .int (nI n)] (hX B (sf, nI nx, nI k) sl P G tl) (some (.int (nI n))) (hX B (sf, nI ((nx + 1) % 7), nI (min (k + 1) 6)) sl P G tl) := by
  refine ev_in rfl rfl (Nat.le_of_ble_eq_true rfl) rfl ?_
  refine wp_run rfl ?_
  refine wp_iflt rfl (fun hz_ => absurd hz_ (nI_pos hn)) (fun _ => ?_)
  refine wp_run rfl ?_
  generalize hz : (nx + 1) % 7 = z
  have key : axW ro (axEv ro d) cdX1_settle 29 [some (.ref 8), some (.int (nI n))] [.int (nI z), .ref 8] (hX B (sf, nI nx, nI k) sl P G tl) (fun r' h' => r' = some (.int (nI n)) ∧ h' = hX B (sf, nI z, nI (min (k + 1) 6)) sl P G tl) := by
    refine wp_putf (h1 := hX B (sf, nI z, nI k) sl P G tl) rfl rfl (Nat.le_of_ble_eq_true rfl) ⟨rfl, rfl, fun _ hz_ => by cases hz_⟩ rfl ?_
    refine wp_run rfl ?_
    rw [nI_1]
    refine wp_min rfl (Nat.le_of_ble_eq_true rfl) ((nI_min (b := 6) (by omega) (by omega))) ?_
    refine wp_run rfl ?_
    refine wp_putf (h1 := hX B (sf, nI z, nI (min (k + 1) 6)) sl P G tl) rfl rfl (Nat.le_of_ble_eq_true rfl) ⟨rfl, rfl, fun _ hz_ => by cases hz_⟩ rfl ?_
    refine wp_run rfl ?_
    exact wp_ret rfl rfl ⟨rfl, rfl⟩
  rw [nI_1]
  by_cases e : nx + 1 < 7
  · refine wp_icge rfl (fun hz_ => absurd hz_ (nI_ge (b := 7) e (by omega))) (fun _ => ?_)
    refine wp_run rfl ?_
    rw [nI_1, show nx + 1 = z by omega]
    exact key
  · refine wp_icge rfl (fun _ => ?_) (fun hz_ => absurd (nI_le (a := 7) (by omega) (by omega)) hz_)
    refine wp_run rfl ?_
    have hz0 : z = 0 := by omega
    subst hz0
    exact key
theorem KP_settle (hK : KP h sf lf nx k hs sv) (hZ : ZH h (zO sf lf) nx A) : KP h sf lf ((nx + 1) % 7) (min (k + 1) 6) (fun j => if j = 0 then A else hs (j - 1)) sv := by
  obtain ⟨k1, k2, k3, k4, k5⟩ := hK
  refine ⟨by omega, by omega, k3, fun j hj => ?_, k5⟩
  by_cases e : j = 0
  · subst e
    show ZH h (zO sf lf) (((nx + 1) % 7 + 6 - 0) % 7) (if 0 = 0 then A else hs (0 - 1))
    rw [if_pos rfl, show ((nx + 1) % 7 + 6 - 0) % 7 = nx by omega]; exact hZ
  · show ZH h (zO sf lf) (((nx + 1) % 7 + 6 - j) % 7) (if j = 0 then A else hs (j - 1))
    rw [if_neg e, show ((nx + 1) % 7 + 6 - j) % 7 = (nx + 6 - (j - 1)) % 7 by omega]
    exact k4 (j - 1) (by omega)
theorem hX_bd (hm : mc.length = 0) {h' : axH} {B' : axBD} (h1 : HBd h' 1 B') (h2 : ∀ k, k < 1 ∨ 8 ≤ k → h'[k]? = (hX B Y sl P G (mc ++ bs))[k]?) : h' = hX B' Y sl P G (mc ++ bs) := by
  obtain ⟨b0, b1, b2, b3, b4, b5, b6⟩ := h1
  refine List.ext_getElem? fun k => ?_
  by_cases a : k < 8
  · match k, a with
    | 0, _ => exact h2 0 (by omega)
    | 1, _ => exact b0
    | 2, _ => exact b1
    | 3, _ => exact b2
    | 4, _ => exact b3
    | 5, _ => exact b4
    | 6, _ => exact b5
    | 7, _ => exact b6
    | n + 8, a => exact absurd a (by omega)
  · rw [h2 k (by omega)]
    by_cases b : k < 15
    · match k, a, b with
      | 8, _, _ => rfl
      | 9, _, _ => rfl
      | 10, _, _ => rfl
      | 11, _, _ => rfl
      | 12, _, _ => rfl
      | 13, _, _ => rfl
      | 14, _, _ => rfl
      | n + 15, _, b => exact absurd b (by omega)
    · rw [hX_get (by omega), hX_get (by omega)]
/-- the board is taken over from one that is kept -/
theorem x0_take (hm : mc.length = 0) {i : Nat} (hi : i < 9) (hB : ZB (hX B Y sl P G (mc ++ bs)) (zO sf lf)) (hZ : ZH (hX B Y sl P G (mc ++ bs)) (zO sf lf) i A) : ∃ o B', zO sf lf i = some o ∧ axEv ro (d + 1) kX0_takeOver [.ref 1, .ref o] (hX B Y sl P G (mc ++ bs)) none (hX B' Y sl P G (mc ++ bs)) ∧ CR B' A ∧ aOk A := by
  obtain ⟨o, C, a, b, c, e⟩ := hZ
  have ho := (hB.1 i hi o a).1
  obtain ⟨h', hev, hH, hsm, -, -⟩ := x0_takeOver (ro := ro) (d := d) (o := 1) (q := o) (C := B) b ⟨rfl, rfl, rfl, rfl, rfl, rfl, rfl⟩ (by omega)
  have := hX_bd hm hH hsm
  subst this
  exact ⟨o, bCp C B, a, hev, cr_cp e c, e⟩
theorem x1_takeBack_no (h1 : nx < 7) (h2 : k = 0) : axEv ro (d + 2) kX1_takeBack [.ref 8, .ref 1] (hX B (sf, nI nx, nI k) sl P G tl) (some (.int (-5))) (hX B (sf, nI nx, nI k) sl P G tl) := by
  subst h2
  refine ev_in rfl rfl (Nat.le_of_ble_eq_true rfl) rfl ?_
  refine wp_run rfl ?_
  by_cases e : nx = 0
  · subst e
    refine wp_ifle rfl (fun _ => ?_) (fun hz_ => absurd ((by decide : (nI 0) ≤ 0)) hz_)
    refine wp_run rfl ?_
    refine wp_ifle rfl (fun _ => ?_) (fun hz_ => absurd ((by decide : (nI 0) ≤ 0)) hz_)
    refine wp_run rfl ?_
    exact wp_ret rfl rfl ⟨rfl, rfl⟩
  · refine wp_ifle rfl (fun hz_ => absurd hz_ (nI_nle (by omega) (by omega))) (fun _ => ?_)
    refine wp_run rfl ?_
    refine wp_ifle rfl (fun _ => ?_) (fun hz_ => absurd ((by decide : (nI 0) ≤ 0)) hz_)
    refine wp_run rfl ?_
    exact wp_ret rfl rfl ⟨rfl, rfl⟩
theorem x1_takeBack (hm : mc.length = 0) (h2 : 0 < k) (hK : KP (hX B (sf, nI nx, nI k) lf P G (mc ++ bs)) sf lf nx k hs sv) : ∃ B', axEv ro (d + 2) kX1_takeBack [.ref 8, .ref 1] (hX B (sf, nI nx, nI k) lf P G (mc ++ bs)) (some (.int (nI (k - 1)))) (hX B' (sf, nI ((nx + 6) % 7), nI (k - 1)) lf P G (mc ++ bs)) ∧ CR B' (hs 0) ∧ aOk (hs 0) ∧ KP (hX B' (sf, nI ((nx + 6) % 7), nI (k - 1)) lf P G (mc ++ bs)) sf lf ((nx + 6) % 7) (k - 1) (fun j => hs (j + 1)) sv := by
  obtain ⟨k1, k2, k3, k4, k5⟩ := hK
  obtain ⟨o, B', ho, hev, hC, hO⟩ := x0_take (ro := ro) (d := d) hm (by omega) k3 (k4 0 h2)
  rw [show (nx + 6 - 0) % 7 = (nx + 6) % 7 by omega] at ho
  have hlt : (nx + 6) % 7 < 7 := by omega
  have ho : sf ((nx + 6) % 7) = some o := by rw [← ho]; unfold zO; rw [if_pos hlt]
  refine ⟨B', ?_, hC, hO, KP_go (B := B) (Y := (sf, nI nx, nI k)) (sl := lf) (P := P) (G := G) ⟨by omega, by omega, k3, fun j hj => ?_, k5⟩⟩
  · have key : axW ro (axEv ro (d + 1)) cdX1_takeBack 23 [some (.ref 8), some (.ref 1), none, none] [.int (nI ((nx + 6) % 7))] (hX B (sf, nI nx, nI k) lf P G (mc ++ bs)) (fun r' h' => r' = some (.int (nI (k - 1))) ∧ h' = hX B' (sf, nI ((nx + 6) % 7), nI (k - 1)) lf P G (mc ++ bs)) := by
      refine wp_run rfl ?_
      refine wp_ifle rfl (fun hz_ => absurd hz_ (nI_nle (by omega) (by omega))) (fun _ => ?_)
      refine wp_run rfl ?_
      refine wp_iclt rfl (fun _ => ?_) (fun hz_ => absurd (nI_lt (b := 7) hlt (by omega)) hz_)
      refine wp_run rfl ?_
      refine wp_aald (v := .ref o) rfl rfl (vp_in_nI hlt (by decide)) (by rw [nI_clamp (by omega)]; exact congrArg va_rf ho) ?_
      refine wp_run rfl ?_
      refine wp_nn rfl ?_
      refine wp_run rfl ?_
      refine wp_v1v rfl rfl (Nat.le_of_ble_eq_true rfl) (hev) ?_
      refine wp_run rfl ?_
      refine wp_putf (h1 := hX B' (sf, nI ((nx + 6) % 7), nI k) lf P G (mc ++ bs)) rfl rfl (Nat.le_of_ble_eq_true rfl) ⟨rfl, rfl, fun _ hz_ => by cases hz_⟩ rfl ?_
      refine wp_run rfl ?_
      rw [nI_p1 h2]
      refine wp_putf (h1 := hX B' (sf, nI ((nx + 6) % 7), nI (k - 1)) lf P G (mc ++ bs)) rfl rfl (Nat.le_of_ble_eq_true rfl) ⟨rfl, rfl, fun _ hz_ => by cases hz_⟩ rfl ?_
      refine wp_run rfl ?_
      exact wp_ret rfl rfl ⟨rfl, rfl⟩
    refine ev_in rfl rfl (Nat.le_of_ble_eq_true rfl) rfl ?_
    refine wp_run rfl ?_
    by_cases e : nx = 0
    · subst e
      refine wp_ifle rfl (fun _ => ?_) (fun hz_ => absurd ((by decide : (nI 0) ≤ 0)) hz_)
      refine wp_runk 5 rfl ?_
      exact key
    · refine wp_ifle rfl (fun hz_ => absurd hz_ (nI_nle (by omega) (by omega))) (fun _ => ?_)
      refine wp_runk 5 rfl ?_
      rw [nI_p1 (by omega), show nx - 1 = (nx + 6) % 7 by omega]
      exact key
  · have := k4 (j + 1) (by omega)
    rw [show ((nx + 6) % 7 + 6 - j) % 7 = (nx + 6 - (j + 1)) % 7 by omega]
    exact this
theorem x1_size : axEv ro (d + 1) kX1_size [.ref 8] (hX B Y sl P G tl) (some (.int Y.2.2)) (hX B Y sl P G tl) := by
  refine ev_in rfl rfl (Nat.le_of_ble_eq_true rfl) rfl ?_
  refine wp_run rfl ?_
  exact wp_ret rfl rfl ⟨rfl, rfl⟩
end AX31
