/-! THE CLASS: the boards that are kept (six states and one more, two slots), and the history. -/
/-- who keeps a board: the seven states, the two slots -/
def zO (sf lf : Nat → Option Nat) : Nat → Option Nat := fun i => if i < 7 then sf i else lf (i - 7)
def ZB (h : axH) (bo : Nat → Option Nat) : Prop := (∀ i, i < 9 → ∀ o, bo i = some o → 15 ≤ o ∧ ∃ C, HBd h o C) ∧ ∀ i j, i < 9 → j < 9 → i ≠ j → ∀ o q, bo i = some o → bo j = some q → o + 7 ≤ q ∨ q + 7 ≤ o
/-- the i-th holds the board A -/
def ZH (h : axH) (bo : Nat → Option Nat) (i : Nat) (A : axAD) : Prop := ∃ o C, bo i = some o ∧ HBd h o C ∧ CR C A ∧ aOk A
theorem HBd_same {h h' : axH} {o : Nat} {C : axBD} (hC : HBd h o C) (hs : ∀ k, o ≤ k → k < o + 7 → h'[k]? = h[k]?) : HBd h' o C := by
  obtain ⟨b0, b1, b2, b3, b4, b5, b6⟩ := hC
  exact ⟨(hs _ (by omega) (by omega)).trans b0, (hs _ (by omega) (by omega)).trans b1, (hs _ (by omega) (by omega)).trans b2, (hs _ (by omega) (by omega)).trans b3, (hs _ (by omega) (by omega)).trans b4, (hs _ (by omega) (by omega)).trans b5, (hs _ (by omega) (by omega)).trans b6⟩
theorem HBd_lt {h : axH} {o : Nat} {C : axBD} (hC : HBd h o C) : o + 7 ≤ h.length := by
  have := (List.getElem?_eq_some_iff.mp hC.2.2.2.2.2.2).1
  omega
theorem HBd_app {h l : axH} {o : Nat} {C : axBD} (hC : HBd h o C) : HBd (h ++ l) o C := HBd_same hC fun k h1 h2 => List.getElem?_append_left (by have := HBd_lt hC; omega)
theorem HBd_new {h : axH} {C : axBD} : HBd (h ++ bdL h.length C) h.length C := ⟨gA 0, gA 1, gA 2, gA 3, gA 4, gA 5, gA 6⟩
section AX30
variable {ro : axRo} {d : Nat} {h : axH} {A : axAD} {B : axBD} {bo : Nat → Option Nat}
theorem x4_copyInto (hB : HBd h 1 B) (hC : CR B A) (hO : aOk A) (hl : 15 ≤ h.length) (hZ : ZB h bo) {i : Nat} (hi : i < 9) : ∃ o h', axEv ro (d + 2) kX4_copyInto [va_rf (bo i), .ref 1] h (some (.ref o)) h' ∧ ZB h' (va_up bo i (some o)) ∧ ZH h' (va_up bo i (some o)) i A ∧ (∀ j, j < 9 → j ≠ i → ∀ A', ZH h bo j A' → ZH h' (va_up bo i (some o)) j A') ∧ (∀ k, k < 15 → h'[k]? = h[k]?) ∧ (∃ fs, h'[o]? = some (.inr (.inr (0, fs)))) ∧ h.length ≤ h'.length ∧ h'.length ≤ h.length + 7 ∧ axSl h' ≤ axSl h + 114 := by
  obtain ⟨Z1, Z2⟩ := hZ
  -- what follows from the copy at o
  have fin : ∀ o h1 h', 15 ≤ o → HBd h' o (bCp B h1) → (∀ k, k < o ∨ o + 7 ≤ k → k < h.length → h'[k]? = h[k]?) → (∀ j, j < 9 → j ≠ i → ∀ q, bo j = some q → o + 7 ≤ q ∨ q + 7 ≤ o) → ZB h' (va_up bo i (some o)) ∧ ZH h' (va_up bo i (some o)) i A ∧ (∀ j, j < 9 → j ≠ i → ∀ A', ZH h bo j A' → ZH h' (va_up bo i (some o)) j A') ∧ (∀ k, k < 15 → h'[k]? = h[k]?) ∧ (∃ fs, h'[o]? = some (.inr (.inr (0, fs)))) := by
    intro o C h' ho hH hs ha
    have keep : ∀ j, j < 9 → j ≠ i → ∀ q, bo j = some q → ∀ C', HBd h q C' → HBd h' q C' := fun j hj hji q hq C' hC' => HBd_same hC' fun k h1 h2 => by
      have := ha j hj hji q hq
      have := HBd_lt hC'
      exact hs k (by omega) (by omega)
    refine ⟨⟨fun j hj q hq => ?_, fun j l hj hl hjl q r hq hr => ?_⟩, ⟨o, _, va_is, hH, cr_cp hO hC, hO⟩, fun j hj hji A' ⟨q, C', e1, e2, e3⟩ => ⟨q, C', (va_no hji).trans e1, keep j hj hji q e1 C' e2, e3⟩, fun k hk => hs k (by omega) (by omega), ⟨_, hH.1⟩⟩
    · by_cases e : j = i
      · subst e
        rw [va_is] at hq
        cases hq
        exact ⟨ho, _, hH⟩
      · rw [va_no e] at hq
        obtain ⟨z1, C', z2⟩ := Z1 j hj q hq
        exact ⟨z1, C', keep j hj e q hq C' z2⟩
    · by_cases e : j = i
      · subst e
        rw [va_is] at hq
        cases hq
        rw [va_no (fun z => hjl z.symm)] at hr
        exact ha l hl (fun z => hjl z.symm) r hr
      · rw [va_no e] at hq
        by_cases e2 : l = i
        · subst e2
          rw [va_is] at hr
          cases hr
          exact (ha j hj e q hq).symm
        · rw [va_no e2] at hr
          exact Z2 j l hj hl hjl q r hq hr
  cases hb : bo i with
  | none =>
    obtain ⟨h', hev, hH, hsm, hlen, hsl⟩ := x0_takeOver (ro := ro) (d := d) (h := h ++ bdL h.length bIni) (o := h.length) (q := 1) (HBd_app hB) HBd_new (Or.inr (by omega))
    have hlen2 : h'.length = h.length + 7 := by rw [hlen, List.length_append]; rfl
    have hsl2 : axSl h' = axSl h + 114 := by
      rw [hsl]
      unfold axSl
      rw [List.map_append, List.sum_append]
      rfl
    obtain ⟨f1, f2, f3, f4, f5⟩ := fin h.length bIni h' hl hH (fun k hk hkl => (hsm k hk).trans (List.getElem?_append_left hkl)) (fun j hj _ q hq => by
      obtain ⟨_, C', z2⟩ := Z1 j hj q hq
      have := HBd_lt z2
      omega)
    refine ⟨h.length, h', ?_, f1, f2, f3, f4, f5, by omega, by omega, by omega⟩
    refine ev_in rfl rfl (Nat.le_of_ble_eq_true rfl) rfl ?_
    refine wp_run rfl ?_
    refine wp_nnN rfl ?_
    refine wp_new (q := h.length) (h1 := h ++ [.inr (.inr (0, axDf 0))]) rfl rfl rfl ?_
    refine wp_run rfl ?_
    refine wp_i0 rfl (Nat.le_of_ble_eq_true rfl) x0_init ?_
    refine wp_run rfl ?_
    refine wp_v1v rfl HBd_new.1 (Nat.le_of_ble_eq_true rfl) hev ?_
    refine wp_run rfl ?_
    exact wp_reta rfl ⟨rfl, rfl⟩
  | some o =>
    obtain ⟨z1, C, z2⟩ := Z1 i hi o hb
    obtain ⟨h', hev, hH, hsm, hlen, hsl⟩ := x0_takeOver (ro := ro) (d := d) (h := h) (o := o) (q := 1) hB z2 (Or.inr (by omega))
    obtain ⟨f1, f2, f3, f4, f5⟩ := fin o C h' z1 hH (fun k hk _ => hsm k hk) (fun j hj hji q hq => Z2 i j hi hj (fun z => hji z.symm) o q hb hq)
    refine ⟨o, h', ?_, f1, f2, f3, f4, f5, by omega, by omega, by omega⟩
    refine ev_in rfl rfl (Nat.le_of_ble_eq_true rfl) rfl ?_
    refine wp_run rfl ?_
    refine wp_nn rfl ?_
    refine wp_run rfl ?_
    refine wp_v1v rfl z2.1 (Nat.le_of_ble_eq_true rfl) hev ?_
    refine wp_run rfl ?_
    exact wp_reta rfl ⟨rfl, rfl⟩
end AX30
