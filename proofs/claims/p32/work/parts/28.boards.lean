/-! THE CLASS: boards anywhere in the heap: made, copied. -/
/-- a board of its own at o -/
def HBd (h : axH) (o : Nat) (B : axBD) : Prop := h[o]? = some (axBo o B) ∧ h[o + 1]? = some (axAi 3 (bSt B)) ∧ h[o + 2]? = some (axAi 6 (bTg B)) ∧ h[o + 3]? = some (axAi 24 (bRw B)) ∧ h[o + 4]? = some (axAi 24 (bWr B)) ∧ h[o + 5]? = some (axAi 24 (bBt B)) ∧ h[o + 6]? = some (axAi 24 (bNd B))
/-- what one board takes over of another -/
def bCp (B C : axBD) : axBD := (va_cpy (bSt B) (bSt C) 0 0 3, va_cpy (bTg B) (bTg C) 0 0 6, va_cpy (bRw B) (bRw C) 0 0 24, va_cpy (bWr B) (bWr C) 0 0 24, va_cpy (bBt B) (bBt C) 0 0 24, va_cpy (bNd B) (bNd C) 0 0 24, bSg B, bTn B, bSz B)
theorem va_cpy0 {α : Type} {f g : Nat → α} {n i : Nat} (h : i < n) : va_cpy f g 0 0 n i = f i := by
  unfold va_cpy
  rw [if_pos ⟨by omega, by omega⟩, Nat.sub_zero, Nat.zero_add]
theorem cr_cp {A : axAD} {B C : axBD} (hO : aOk A) (h : CR B A) : CR (bCp B C) A := by
  have hn := hO.n
  have hr := fun i (hi : i < aN A) => hO.r hi
  obtain ⟨c1, c2, c3, c4, c5, ⟨c6, c7, c8⟩, c9⟩ := h
  refine ⟨c1, fun i hi => ?_, fun i hi => ⟨?_, ?_, ?_⟩, c4, c5, ⟨?_, ?_, ?_⟩, fun a ha => ?_⟩
  · exact (va_cpy0 (show i < 24 by omega)).trans (c2 i hi)
  · exact (va_cpy0 (hr i hi)).trans (c3 i hi).1
  · exact (va_cpy0 (hr i hi)).trans (c3 i hi).2.1
  · exact (va_cpy0 (hr i hi)).trans (c3 i hi).2.2
  · exact (va_cpy0 (f := bSt B) (g := bSt C) (show 0 < 3 by omega)).trans c6
  · exact (va_cpy0 (f := bSt B) (g := bSt C) (show 1 < 3 by omega)).trans c7
  · exact (va_cpy0 (f := bSt B) (g := bSt C) (show 2 < 3 by omega)).trans c8
  · exact (va_cpy0 ha).trans (c9 a ha)
section AX28
variable {ro : axRo} {E : axCall} {cd : List axE} {pc : Nat} {L : axL} {S : List Value} {h h1 : axH} {Q : Option Value → axH → Prop} {p0 b c nx : Nat} {a : Value} {tb : List (Int32 × Nat)}
theorem wp_getf {k : Nat} {fs : List Value} {v : Value} (hf : axF cd pc = some (p0, 36, a, b, c, tb, nx)) (hh : h[k]? = some (.inr (.inr (b, fs)))) (hv : fs[c]? = some v) (kk : axW ro E cd nx L (v :: S) h Q) : axW ro E cd pc L (.ref k :: S) h Q := by
  obtain ⟨n, kk⟩ := kk
  exact wp_one hf ⟨n, ⟨k, S, fs, v, rfl, hh, hv, kk⟩⟩
variable {d : Nat}
theorem gset_ne {i j : Nat} {x : axC} (hij : i ≠ j) : (h.set i x)[j]? = h[j]? := List.getElem?_set_ne hij
theorem gset_eq {i : Nat} {x y : axC} (hi : h[i]? = some y) : (h.set i x)[i]? = some x := by
  rw [List.getElem?_set_self (List.getElem?_eq_some_iff.mp hi).1]
theorem x0_takeOver {o q : Nat} {B C : axBD} (hB : HBd h q B) (hC : HBd h o C) (hd : o + 7 ≤ q ∨ q + 7 ≤ o) : ∃ h', axEv ro (d + 1) kX0_takeOver [.ref o, .ref q] h none h' ∧ HBd h' o (bCp B C) ∧ (∀ k, k < o ∨ o + 7 ≤ k → h'[k]? = h[k]?) ∧ h'.length = h.length ∧ axSl h' = axSl h := by
  obtain ⟨b0, b1, b2, b3, b4, b5, b6⟩ := hB
  obtain ⟨c0, c1, c2, c3, c4, c5, c6⟩ := hC
  generalize e1 : h.set (o + 1) (axAi 3 (va_cpy (bSt B) (bSt C) 0 0 3)) = h1
  have g1 : ∀ k, k ≠ o + 1 → h1[k]? = h[k]? := fun k hk => by rw [← e1, gset_ne (Ne.symm hk)]
  have f1 : h1[o + 1]? = some (axAi 3 (va_cpy (bSt B) (bSt C) 0 0 3)) := by rw [← e1]; exact gset_eq c1
  generalize e2 : h1.set (o + 2) (axAi 6 (va_cpy (bTg B) (bTg C) 0 0 6)) = h2
  have g2 : ∀ k, k ≠ o + 2 → h2[k]? = h1[k]? := fun k hk => by rw [← e2, gset_ne (Ne.symm hk)]
  have f2 : h2[o + 2]? = some (axAi 6 (va_cpy (bTg B) (bTg C) 0 0 6)) := by rw [← e2]; exact gset_eq (by rw [g1 _ (by omega)]; exact c2)
  generalize e3 : h2.set (o + 3) (axAi 24 (va_cpy (bRw B) (bRw C) 0 0 24)) = h3
  have g3 : ∀ k, k ≠ o + 3 → h3[k]? = h2[k]? := fun k hk => by rw [← e3, gset_ne (Ne.symm hk)]
  have f3 : h3[o + 3]? = some (axAi 24 (va_cpy (bRw B) (bRw C) 0 0 24)) := by rw [← e3]; exact gset_eq (by rw [g2 _ (by omega), g1 _ (by omega)]; exact c3)
  generalize e4 : h3.set (o + 4) (axAi 24 (va_cpy (bWr B) (bWr C) 0 0 24)) = h4
  have g4 : ∀ k, k ≠ o + 4 → h4[k]? = h3[k]? := fun k hk => by rw [← e4, gset_ne (Ne.symm hk)]
  have f4 : h4[o + 4]? = some (axAi 24 (va_cpy (bWr B) (bWr C) 0 0 24)) := by rw [← e4]; exact gset_eq (by rw [g3 _ (by omega), g2 _ (by omega), g1 _ (by omega)]; exact c4)
  generalize e5 : h4.set (o + 5) (axAi 24 (va_cpy (bBt B) (bBt C) 0 0 24)) = h5
  have g5 : ∀ k, k ≠ o + 5 → h5[k]? = h4[k]? := fun k hk => by rw [← e5, gset_ne (Ne.symm hk)]
  have f5 : h5[o + 5]? = some (axAi 24 (va_cpy (bBt B) (bBt C) 0 0 24)) := by rw [← e5]; exact gset_eq (by rw [g4 _ (by omega), g3 _ (by omega), g2 _ (by omega), g1 _ (by omega)]; exact c5)
  generalize e6 : h5.set (o + 6) (axAi 24 (va_cpy (bNd B) (bNd C) 0 0 24)) = h6
  have g6 : ∀ k, k ≠ o + 6 → h6[k]? = h5[k]? := fun k hk => by rw [← e6, gset_ne (Ne.symm hk)]
  have f6 : h6[o + 6]? = some (axAi 24 (va_cpy (bNd B) (bNd C) 0 0 24)) := by rw [← e6]; exact gset_eq (by rw [g5 _ (by omega), g4 _ (by omega), g3 _ (by omega), g2 _ (by omega), g1 _ (by omega)]; exact c6)
  have ob : ∀ k, (k < o + 1 ∨ o + 7 ≤ k) → h6[k]? = h[k]? ∧ h5[k]? = h[k]? ∧ h4[k]? = h[k]? ∧ h3[k]? = h[k]? ∧ h2[k]? = h[k]? ∧ h1[k]? = h[k]? := fun k hk => by
    have a1 := g1 k (by omega)
    have a2 := (g2 k (by omega)).trans a1
    have a3 := (g3 k (by omega)).trans a2
    have a4 := (g4 k (by omega)).trans a3
    have a5 := (g5 k (by omega)).trans a4
    have a6 := (g6 k (by omega)).trans a5
    exact ⟨a6, a5, a4, a3, a2, a1⟩
  generalize e7 : h6.set o (.inr (.inr (0, [.ref (o + 1), .ref (o + 2), .ref (o + 3), .ref (o + 4), .ref (o + 5), .ref (o + 6), .int (bSg B), .int (bTn C), .int (bSz C)]))) = h7
  have c06 : h6[o]? = some (axBo o C) := (ob o (by omega)).1.trans c0
  have f7 : h7[o]? = some (.inr (.inr (0, [.ref (o + 1), .ref (o + 2), .ref (o + 3), .ref (o + 4), .ref (o + 5), .ref (o + 6), .int (bSg B), .int (bTn C), .int (bSz C)]))) := by rw [← e7]; exact gset_eq c06
  have g7 : ∀ k, k ≠ o → h7[k]? = h6[k]? := fun k hk => by rw [← e7, gset_ne (Ne.symm hk)]
  generalize e8 : h7.set o (.inr (.inr (0, [.ref (o + 1), .ref (o + 2), .ref (o + 3), .ref (o + 4), .ref (o + 5), .ref (o + 6), .int (bSg B), .int (bTn B), .int (bSz C)]))) = h8
  have f8 : h8[o]? = some (.inr (.inr (0, [.ref (o + 1), .ref (o + 2), .ref (o + 3), .ref (o + 4), .ref (o + 5), .ref (o + 6), .int (bSg B), .int (bTn B), .int (bSz C)]))) := by rw [← e8]; exact gset_eq f7
  have g8 : ∀ k, k ≠ o → h8[k]? = h7[k]? := fun k hk => by rw [← e8, gset_ne (Ne.symm hk)]
  generalize e9 : h8.set o (axBo o (bCp B C)) = h9
  have f9 : h9[o]? = some (axBo o (bCp B C)) := by rw [← e9]; exact gset_eq f8
  have g9 : ∀ k, k ≠ o → h9[k]? = h6[k]? := fun k hk => by rw [← e9, gset_ne (Ne.symm hk), g8 k hk, g7 k hk]
  have qb : q < o + 1 ∨ o + 7 ≤ q := by omega
  have qn : q ≠ o := by omega
  refine ⟨h9, ?_, ⟨f9, ?_, ?_, ?_, ?_, ?_, ?_⟩, fun k hk => by rw [g9 k (by omega)]; exact (ob k (by omega)).1, ?_, ?_⟩
  · refine ev_in rfl rfl (Nat.le_of_ble_eq_true rfl) rfl ?_
    refine wp_runk 1 rfl ?_
    refine wp_getf rfl b0 rfl ?_
    refine wp_runk 2 rfl ?_
    refine wp_getf rfl c0 rfl ?_
    refine wp_runk 2 rfl ?_
    refine wp_getf rfl c0 rfl ?_
    refine wp_len rfl c1 (by decide) ?_
    refine wp_cpy (h1 := h1) rfl b1 c1 (by decide) (by decide) (by decide) (by decide) (by decide) (Nat.le_of_ble_eq_true rfl) e1 ?_
    refine wp_runk 1 rfl ?_
    refine wp_getf rfl ((ob q qb).2.2.2.2.2.trans b0) rfl ?_
    refine wp_runk 2 rfl ?_
    refine wp_getf rfl ((ob o (by omega)).2.2.2.2.2.trans c0) rfl ?_
    refine wp_runk 2 rfl ?_
    refine wp_getf rfl ((ob o (by omega)).2.2.2.2.2.trans c0) rfl ?_
    refine wp_len rfl ((g1 _ (by omega)).trans c2) (by decide) ?_
    refine wp_cpy (h1 := h2) rfl ((g1 _ (by omega)).trans b2) ((g1 _ (by omega)).trans c2) (by decide) (by decide) (by decide) (by decide) (by decide) (Nat.le_of_ble_eq_true rfl) e2 ?_
    refine wp_runk 1 rfl ?_
    refine wp_getf rfl ((ob q qb).2.2.2.2.1.trans b0) rfl ?_
    refine wp_runk 2 rfl ?_
    refine wp_getf rfl ((ob o (by omega)).2.2.2.2.1.trans c0) rfl ?_
    refine wp_runk 2 rfl ?_
    refine wp_getf rfl ((ob o (by omega)).2.2.2.2.1.trans c0) rfl ?_
    refine wp_len rfl (((g2 _ (by omega)).trans (g1 _ (by omega))).trans c3) (by decide) ?_
    refine wp_cpy (h1 := h3) rfl (((g2 _ (by omega)).trans (g1 _ (by omega))).trans b3) (((g2 _ (by omega)).trans (g1 _ (by omega))).trans c3) (by decide) (by decide) (by decide) (by decide) (by decide) (Nat.le_of_ble_eq_true rfl) e3 ?_
    refine wp_runk 1 rfl ?_
    refine wp_getf rfl ((ob q qb).2.2.2.1.trans b0) rfl ?_
    refine wp_runk 2 rfl ?_
    refine wp_getf rfl ((ob o (by omega)).2.2.2.1.trans c0) rfl ?_
    refine wp_runk 2 rfl ?_
    refine wp_getf rfl ((ob o (by omega)).2.2.2.1.trans c0) rfl ?_
    refine wp_len rfl ((((g3 _ (by omega)).trans (g2 _ (by omega))).trans (g1 _ (by omega))).trans c4) (by decide) ?_
    refine wp_cpy (h1 := h4) rfl ((((g3 _ (by omega)).trans (g2 _ (by omega))).trans (g1 _ (by omega))).trans b4) ((((g3 _ (by omega)).trans (g2 _ (by omega))).trans (g1 _ (by omega))).trans c4) (by decide) (by decide) (by decide) (by decide) (by decide) (Nat.le_of_ble_eq_true rfl) e4 ?_
    refine wp_runk 1 rfl ?_
    refine wp_getf rfl ((ob q qb).2.2.1.trans b0) rfl ?_
    refine wp_runk 2 rfl ?_
    refine wp_getf rfl ((ob o (by omega)).2.2.1.trans c0) rfl ?_
    refine wp_runk 2 rfl ?_
    refine wp_getf rfl ((ob o (by omega)).2.2.1.trans c0) rfl ?_
    refine wp_len rfl (((((g4 _ (by omega)).trans (g3 _ (by omega))).trans (g2 _ (by omega))).trans (g1 _ (by omega))).trans c5) (by decide) ?_
    refine wp_cpy (h1 := h5) rfl (((((g4 _ (by omega)).trans (g3 _ (by omega))).trans (g2 _ (by omega))).trans (g1 _ (by omega))).trans b5) (((((g4 _ (by omega)).trans (g3 _ (by omega))).trans (g2 _ (by omega))).trans (g1 _ (by omega))).trans c5) (by decide) (by decide) (by decide) (by decide) (by decide) (Nat.le_of_ble_eq_true rfl) e5 ?_
    refine wp_runk 1 rfl ?_
    refine wp_getf rfl ((ob q qb).2.1.trans b0) rfl ?_
    refine wp_runk 2 rfl ?_
    refine wp_getf rfl ((ob o (by omega)).2.1.trans c0) rfl ?_
    refine wp_runk 2 rfl ?_
    refine wp_getf rfl ((ob o (by omega)).2.1.trans c0) rfl ?_
    refine wp_len rfl ((((((g5 _ (by omega)).trans (g4 _ (by omega))).trans (g3 _ (by omega))).trans (g2 _ (by omega))).trans (g1 _ (by omega))).trans c6) (by decide) ?_
    refine wp_cpy (h1 := h6) rfl ((((((g5 _ (by omega)).trans (g4 _ (by omega))).trans (g3 _ (by omega))).trans (g2 _ (by omega))).trans (g1 _ (by omega))).trans b6) ((((((g5 _ (by omega)).trans (g4 _ (by omega))).trans (g3 _ (by omega))).trans (g2 _ (by omega))).trans (g1 _ (by omega))).trans c6) (by decide) (by decide) (by decide) (by decide) (by decide) (Nat.le_of_ble_eq_true rfl) e6 ?_
    refine wp_runk 2 rfl ?_
    refine wp_getf rfl ((ob q qb).1.trans b0) rfl ?_
    refine wp_putf (h1 := h7) rfl c06 (Nat.le_of_ble_eq_true rfl) ⟨rfl, rfl, fun _ hz_ => by cases hz_⟩ e7 ?_
    refine wp_runk 2 rfl ?_
    refine wp_getf rfl (((g7 q qn).trans (ob q qb).1).trans b0) rfl ?_
    refine wp_putf (h1 := h8) rfl f7 (Nat.le_of_ble_eq_true rfl) ⟨rfl, rfl, fun _ hz_ => by cases hz_⟩ e8 ?_
    refine wp_runk 2 rfl ?_
    refine wp_getf rfl (((g8 q qn).trans ((g7 q qn).trans (ob q qb).1)).trans b0) rfl ?_
    refine wp_putf (h1 := h9) rfl f8 (Nat.le_of_ble_eq_true rfl) ⟨rfl, rfl, fun _ hz_ => by cases hz_⟩ e9 ?_
    exact wp_retv rfl ⟨rfl, rfl⟩
  · rw [g9 _ (by omega), g6 _ (by omega), g5 _ (by omega), g4 _ (by omega), g3 _ (by omega), g2 _ (by omega)]; exact f1
  · rw [g9 _ (by omega), g6 _ (by omega), g5 _ (by omega), g4 _ (by omega), g3 _ (by omega)]; exact f2
  · rw [g9 _ (by omega), g6 _ (by omega), g5 _ (by omega), g4 _ (by omega)]; exact f3
  · rw [g9 _ (by omega), g6 _ (by omega), g5 _ (by omega)]; exact f4
  · rw [g9 _ (by omega), g6 _ (by omega)]; exact f5
  · rw [g9 _ (by omega)]; exact f6
  · rw [← e9, ← e8, ← e7, ← e6, ← e5, ← e4, ← e3, ← e2, ← e1]
    simp only [List.length_set]
  · rw [← e9, axSl_set _ _ _ _ f8 (by rfl), ← e8, axSl_set _ _ _ _ f7 (by rfl), ← e7, axSl_set _ _ _ _ c06 (by rfl), ← e6, axSl_set h5 _ _ (axAi 24 (bNd C)) (by rw [g5 _ (by omega), g4 _ (by omega), g3 _ (by omega), g2 _ (by omega), g1 _ (by omega)]; exact c6) (by rfl),
      ← e5, axSl_set h4 _ _ (axAi 24 (bBt C)) (by rw [g4 _ (by omega), g3 _ (by omega), g2 _ (by omega), g1 _ (by omega)]; exact c5) (by rfl),
      ← e4, axSl_set h3 _ _ (axAi 24 (bWr C)) (by rw [g3 _ (by omega), g2 _ (by omega), g1 _ (by omega)]; exact c4) (by rfl),
      ← e3, axSl_set h2 _ _ (axAi 24 (bRw C)) (by rw [g2 _ (by omega), g1 _ (by omega)]; exact c3) (by rfl),
      ← e2, axSl_set h1 _ _ (axAi 6 (bTg C)) (by rw [g1 _ (by omega)]; exact c2) (by rfl),
      ← e1, axSl_set h _ _ (axAi 3 (bSt C)) c1 (by rfl)]
end AX28
