/-! THE LAW: its walk. -/
section AX67
variable {L : Nat} {xs : Nat → Int32} {V : axV} {j : Nat} {h : axH}
theorem lw_arg {E : axCall} {cd : List axE} {pc p0 b c nx i : Nat} {a : Value} {tb : List (Int32 × Nat)} {LL : axL} {S : List Value} {h : axH} {Q : Option Value → axH → Prop} (hf : axF cd pc = some (p0, 40, a, 0, c, tb, nx)) (hi : i < L) (hL : L ≤ 2048) (kk : axW (axRoL L xs) E cd nx LL (.int (xs i) :: S) h Q) : axW (axRoL L xs) E cd pc LL (.int (nI i) :: .retAddr 0 :: S) h Q :=
  wp_aldR (v := xs i) hf (by decide) (vp_in_nI (show i < L from hi) (show L < 2 ^ 31 by omega)) (by show xs (nI i).toNatClampNeg = xs i; rw [nI_clamp (by omega)]) kk
/-- at the loop's head, with i on the stack -/
def lwH (L : Nat) (xs : Nat → Int32) (j : Nat) (h : axH) : Prop := axW (axRoL L xs) (axEv (axRoL L xs) 10) cdL_law 20 [some (.retAddr 0), some (.ref 0), some (.ref 15), some (.int (nI (4 * j)))] [.retAddr 0, .int (nI (4 * j))] h (fun r h => r = some (.int 1) ∧ h.length ≤ 600000 ∧ axSl h ≤ 7302250)
set_option maxRecDepth 40000 in
theorem lw_set (hL : L ≤ 2048) (hj : 4 * j + 4 ≤ L) (hs : StV V j h) (hn : ∀ V' h', StV V' (j + 1) h' → lwH L xs (j + 1) h') : axW (axRoL L xs) (axEv (axRoL L xs) 10) cdL_law 32 [some (.retAddr 0), some (.ref 0), some (.ref 15), some (.int (nI (4 * j)))] [.int (nI 0)] h (fun r h => r = some (.int 1) ∧ h.length ≤ 600000 ∧ axSl h ≤ 7302250) := by
  obtain ⟨r, h1, h2, V', f0, f15, e1, e2, hs2, o0, o15⟩ := call_set (L := L) (xs := xs) hs (xs (4 * j + 1)) (xs (4 * j + 2))
  have hn := hn V' h2 hs2
  unfold lwH at hn
  rw [show nI (4 * (j + 1)) = nI (4 * j) + 4 by rw [show nI (4 * j) + 4 = nI (4 * j + 4) from nI_add (4 * j) 4]; congr 1] at hn
  refine wp_sw rfl ?_
  refine wp_run rfl ?_
  rw [show nI (4 * j) + 1 = nI (4 * j + 1) from nI_add (4 * j) 1]
  refine lw_arg (b := 0) rfl (by omega) hL ?_
  refine wp_run rfl ?_
  rw [show nI (4 * j) + 2 = nI (4 * j + 2) from nI_add (4 * j) 2]
  refine lw_arg (b := 0) rfl (by omega) hL ?_
  refine wp_run rfl ?_
  refine wp_v2 rfl o0 (Nat.le_of_ble_eq_true rfl) e1 ?_
  refine wp_run rfl ?_
  rw [show nI (4 * j) + 1 = nI (4 * j + 1) from nI_add (4 * j) 1]
  refine lw_arg (b := 0) rfl (by omega) hL ?_
  refine wp_run rfl ?_
  rw [show nI (4 * j) + 2 = nI (4 * j + 2) from nI_add (4 * j) 2]
  refine lw_arg (b := 0) rfl (by omega) hL ?_
  refine wp_run rfl ?_
  refine wp_v2 rfl o15 (Nat.le_of_ble_eq_true rfl) e2 ?_
  refine wp_run rfl ?_
  refine wp_iceq rfl (fun _ => ?_) (fun hz_ => absurd (rfl) hz_)
  refine wp_run rfl ?_
  exact hn
set_option maxRecDepth 40000 in
theorem lw_target (hL : L ≤ 2048) (hj : 4 * j + 4 ≤ L) (hs : StV V j h) (hn : ∀ V' h', StV V' (j + 1) h' → lwH L xs (j + 1) h') : axW (axRoL L xs) (axEv (axRoL L xs) 10) cdL_law 32 [some (.retAddr 0), some (.ref 0), some (.ref 15), some (.int (nI (4 * j)))] [.int (nI 1)] h (fun r h => r = some (.int 1) ∧ h.length ≤ 600000 ∧ axSl h ≤ 7302250) := by
  obtain ⟨r, h1, h2, V', f0, f15, e1, e2, hs2, o0, o15⟩ := call_target (L := L) (xs := xs) hs (xs (4 * j + 1)) (xs (4 * j + 2))
  have hn := hn V' h2 hs2
  unfold lwH at hn
  rw [show nI (4 * (j + 1)) = nI (4 * j) + 4 by rw [show nI (4 * j) + 4 = nI (4 * j + 4) from nI_add (4 * j) 4]; congr 1] at hn
  refine wp_sw rfl ?_
  refine wp_run rfl ?_
  rw [show nI (4 * j) + 1 = nI (4 * j + 1) from nI_add (4 * j) 1]
  refine lw_arg (b := 0) rfl (by omega) hL ?_
  refine wp_run rfl ?_
  rw [show nI (4 * j) + 2 = nI (4 * j + 2) from nI_add (4 * j) 2]
  refine lw_arg (b := 0) rfl (by omega) hL ?_
  refine wp_run rfl ?_
  refine wp_v2 rfl o0 (Nat.le_of_ble_eq_true rfl) e1 ?_
  refine wp_run rfl ?_
  rw [show nI (4 * j) + 1 = nI (4 * j + 1) from nI_add (4 * j) 1]
  refine lw_arg (b := 0) rfl (by omega) hL ?_
  refine wp_run rfl ?_
  rw [show nI (4 * j) + 2 = nI (4 * j + 2) from nI_add (4 * j) 2]
  refine lw_arg (b := 0) rfl (by omega) hL ?_
  refine wp_run rfl ?_
  refine wp_v2 rfl o15 (Nat.le_of_ble_eq_true rfl) e2 ?_
  refine wp_run rfl ?_
  refine wp_iceq rfl (fun _ => ?_) (fun hz_ => absurd (rfl) hz_)
  refine wp_run rfl ?_
  exact hn
set_option maxRecDepth 40000 in
theorem lw_slug (hL : L ≤ 2048) (hj : 4 * j + 4 ≤ L) (hs : StV V j h) (hn : ∀ V' h', StV V' (j + 1) h' → lwH L xs (j + 1) h') : axW (axRoL L xs) (axEv (axRoL L xs) 10) cdL_law 32 [some (.retAddr 0), some (.ref 0), some (.ref 15), some (.int (nI (4 * j)))] [.int (nI 2)] h (fun r h => r = some (.int 1) ∧ h.length ≤ 600000 ∧ axSl h ≤ 7302250) := by
  obtain ⟨r, h1, h2, V', f0, f15, e1, e2, hs2, o0, o15⟩ := call_slug (L := L) (xs := xs) hs (xs (4 * j + 1)) (xs (4 * j + 2)) (xs (4 * j + 3))
  have hn := hn V' h2 hs2
  unfold lwH at hn
  rw [show nI (4 * (j + 1)) = nI (4 * j) + 4 by rw [show nI (4 * j) + 4 = nI (4 * j + 4) from nI_add (4 * j) 4]; congr 1] at hn
  refine wp_sw rfl ?_
  refine wp_run rfl ?_
  rw [show nI (4 * j) + 1 = nI (4 * j + 1) from nI_add (4 * j) 1]
  refine lw_arg (b := 0) rfl (by omega) hL ?_
  refine wp_run rfl ?_
  rw [show nI (4 * j) + 2 = nI (4 * j + 2) from nI_add (4 * j) 2]
  refine lw_arg (b := 0) rfl (by omega) hL ?_
  refine wp_run rfl ?_
  rw [show nI (4 * j) + 3 = nI (4 * j + 3) from nI_add (4 * j) 3]
  refine lw_arg (b := 0) rfl (by omega) hL ?_
  refine wp_run rfl ?_
  refine wp_v3 rfl o0 (Nat.le_of_ble_eq_true rfl) e1 ?_
  refine wp_run rfl ?_
  rw [show nI (4 * j) + 1 = nI (4 * j + 1) from nI_add (4 * j) 1]
  refine lw_arg (b := 0) rfl (by omega) hL ?_
  refine wp_run rfl ?_
  rw [show nI (4 * j) + 2 = nI (4 * j + 2) from nI_add (4 * j) 2]
  refine lw_arg (b := 0) rfl (by omega) hL ?_
  refine wp_run rfl ?_
  rw [show nI (4 * j) + 3 = nI (4 * j + 3) from nI_add (4 * j) 3]
  refine lw_arg (b := 0) rfl (by omega) hL ?_
  refine wp_run rfl ?_
  refine wp_v3 rfl o15 (Nat.le_of_ble_eq_true rfl) e2 ?_
  refine wp_run rfl ?_
  refine wp_iceq rfl (fun _ => ?_) (fun hz_ => absurd (rfl) hz_)
  refine wp_run rfl ?_
  exact hn
set_option maxRecDepth 40000 in
theorem lw_drop (hL : L ≤ 2048) (hj : 4 * j + 4 ≤ L) (hs : StV V j h) (hn : ∀ V' h', StV V' (j + 1) h' → lwH L xs (j + 1) h') : axW (axRoL L xs) (axEv (axRoL L xs) 10) cdL_law 32 [some (.retAddr 0), some (.ref 0), some (.ref 15), some (.int (nI (4 * j)))] [.int (nI 3)] h (fun r h => r = some (.int 1) ∧ h.length ≤ 600000 ∧ axSl h ≤ 7302250) := by
  obtain ⟨r, h1, h2, V', f0, f15, e1, e2, hs2, o0, o15⟩ := call_drop (L := L) (xs := xs) hs (xs (4 * j + 1))
  have hn := hn V' h2 hs2
  unfold lwH at hn
  rw [show nI (4 * (j + 1)) = nI (4 * j) + 4 by rw [show nI (4 * j) + 4 = nI (4 * j + 4) from nI_add (4 * j) 4]; congr 1] at hn
  refine wp_sw rfl ?_
  refine wp_run rfl ?_
  rw [show nI (4 * j) + 1 = nI (4 * j + 1) from nI_add (4 * j) 1]
  refine lw_arg (b := 0) rfl (by omega) hL ?_
  refine wp_run rfl ?_
  refine wp_v1 rfl o0 (Nat.le_of_ble_eq_true rfl) e1 ?_
  refine wp_run rfl ?_
  rw [show nI (4 * j) + 1 = nI (4 * j + 1) from nI_add (4 * j) 1]
  refine lw_arg (b := 0) rfl (by omega) hL ?_
  refine wp_run rfl ?_
  refine wp_v1 rfl o15 (Nat.le_of_ble_eq_true rfl) e2 ?_
  refine wp_run rfl ?_
  refine wp_iceq rfl (fun _ => ?_) (fun hz_ => absurd (rfl) hz_)
  refine wp_run rfl ?_
  exact hn
set_option maxRecDepth 40000 in
theorem lw_turn (hL : L ≤ 2048) (hj : 4 * j + 4 ≤ L) (hs : StV V j h) (hn : ∀ V' h', StV V' (j + 1) h' → lwH L xs (j + 1) h') : axW (axRoL L xs) (axEv (axRoL L xs) 10) cdL_law 32 [some (.retAddr 0), some (.ref 0), some (.ref 15), some (.int (nI (4 * j)))] [.int (nI 4)] h (fun r h => r = some (.int 1) ∧ h.length ≤ 600000 ∧ axSl h ≤ 7302250) := by
  obtain ⟨r, h1, h2, V', f0, f15, e1, e2, hs2, o0, o15⟩ := call_turn (L := L) (xs := xs) hs (xs (4 * j + 1))
  have hn := hn V' h2 hs2
  unfold lwH at hn
  rw [show nI (4 * (j + 1)) = nI (4 * j) + 4 by rw [show nI (4 * j) + 4 = nI (4 * j + 4) from nI_add (4 * j) 4]; congr 1] at hn
  refine wp_sw rfl ?_
  refine wp_run rfl ?_
  rw [show nI (4 * j) + 1 = nI (4 * j + 1) from nI_add (4 * j) 1]
  refine lw_arg (b := 0) rfl (by omega) hL ?_
  refine wp_run rfl ?_
  refine wp_v1 rfl o0 (Nat.le_of_ble_eq_true rfl) e1 ?_
  refine wp_run rfl ?_
  rw [show nI (4 * j) + 1 = nI (4 * j + 1) from nI_add (4 * j) 1]
  refine lw_arg (b := 0) rfl (by omega) hL ?_
  refine wp_run rfl ?_
  refine wp_v1 rfl o15 (Nat.le_of_ble_eq_true rfl) e2 ?_
  refine wp_run rfl ?_
  refine wp_iceq rfl (fun _ => ?_) (fun hz_ => absurd (rfl) hz_)
  refine wp_run rfl ?_
  exact hn
set_option maxRecDepth 40000 in
theorem lw_need (hL : L ≤ 2048) (hj : 4 * j + 4 ≤ L) (hs : StV V j h) (hn : ∀ V' h', StV V' (j + 1) h' → lwH L xs (j + 1) h') : axW (axRoL L xs) (axEv (axRoL L xs) 10) cdL_law 32 [some (.retAddr 0), some (.ref 0), some (.ref 15), some (.int (nI (4 * j)))] [.int (nI 5)] h (fun r h => r = some (.int 1) ∧ h.length ≤ 600000 ∧ axSl h ≤ 7302250) := by
  obtain ⟨r, h1, h2, V', f0, f15, e1, e2, hs2, o0, o15⟩ := call_need (L := L) (xs := xs) hs (xs (4 * j + 1)) (xs (4 * j + 2))
  have hn := hn V' h2 hs2
  unfold lwH at hn
  rw [show nI (4 * (j + 1)) = nI (4 * j) + 4 by rw [show nI (4 * j) + 4 = nI (4 * j + 4) from nI_add (4 * j) 4]; congr 1] at hn
  refine wp_sw rfl ?_
  refine wp_run rfl ?_
  rw [show nI (4 * j) + 1 = nI (4 * j + 1) from nI_add (4 * j) 1]
  refine lw_arg (b := 0) rfl (by omega) hL ?_
  refine wp_run rfl ?_
  rw [show nI (4 * j) + 2 = nI (4 * j + 2) from nI_add (4 * j) 2]
  refine lw_arg (b := 0) rfl (by omega) hL ?_
  refine wp_run rfl ?_
  refine wp_v2 rfl o0 (Nat.le_of_ble_eq_true rfl) e1 ?_
  refine wp_run rfl ?_
  rw [show nI (4 * j) + 1 = nI (4 * j + 1) from nI_add (4 * j) 1]
  refine lw_arg (b := 0) rfl (by omega) hL ?_
  refine wp_run rfl ?_
  rw [show nI (4 * j) + 2 = nI (4 * j + 2) from nI_add (4 * j) 2]
  refine lw_arg (b := 0) rfl (by omega) hL ?_
  refine wp_run rfl ?_
  refine wp_v2 rfl o15 (Nat.le_of_ble_eq_true rfl) e2 ?_
  refine wp_run rfl ?_
  refine wp_iceq rfl (fun _ => ?_) (fun hz_ => absurd (rfl) hz_)
  refine wp_run rfl ?_
  exact hn
set_option maxRecDepth 40000 in
theorem lw_trim (hL : L ≤ 2048) (hj : 4 * j + 4 ≤ L) (hs : StV V j h) (hn : ∀ V' h', StV V' (j + 1) h' → lwH L xs (j + 1) h') : axW (axRoL L xs) (axEv (axRoL L xs) 10) cdL_law 32 [some (.retAddr 0), some (.ref 0), some (.ref 15), some (.int (nI (4 * j)))] [.int (nI 6)] h (fun r h => r = some (.int 1) ∧ h.length ≤ 600000 ∧ axSl h ≤ 7302250) := by
  obtain ⟨r, h1, h2, V', f0, f15, e1, e2, hs2, o0, o15⟩ := call_trim (L := L) (xs := xs) hs (xs (4 * j + 1)) (xs (4 * j + 2))
  have hn := hn V' h2 hs2
  unfold lwH at hn
  rw [show nI (4 * (j + 1)) = nI (4 * j) + 4 by rw [show nI (4 * j) + 4 = nI (4 * j + 4) from nI_add (4 * j) 4]; congr 1] at hn
  refine wp_sw rfl ?_
  refine wp_run rfl ?_
  rw [show nI (4 * j) + 1 = nI (4 * j + 1) from nI_add (4 * j) 1]
  refine lw_arg (b := 0) rfl (by omega) hL ?_
  refine wp_run rfl ?_
  rw [show nI (4 * j) + 2 = nI (4 * j + 2) from nI_add (4 * j) 2]
  refine lw_arg (b := 0) rfl (by omega) hL ?_
  refine wp_run rfl ?_
  refine wp_v2 rfl o0 (Nat.le_of_ble_eq_true rfl) e1 ?_
  refine wp_run rfl ?_
  rw [show nI (4 * j) + 1 = nI (4 * j + 1) from nI_add (4 * j) 1]
  refine lw_arg (b := 0) rfl (by omega) hL ?_
  refine wp_run rfl ?_
  rw [show nI (4 * j) + 2 = nI (4 * j + 2) from nI_add (4 * j) 2]
  refine lw_arg (b := 0) rfl (by omega) hL ?_
  refine wp_run rfl ?_
  refine wp_v2 rfl o15 (Nat.le_of_ble_eq_true rfl) e2 ?_
  refine wp_run rfl ?_
  refine wp_iceq rfl (fun _ => ?_) (fun hz_ => absurd (rfl) hz_)
  refine wp_run rfl ?_
  exact hn
set_option maxRecDepth 40000 in
theorem lw_restoreTail (hL : L ≤ 2048) (hj : 4 * j + 4 ≤ L) (hs : StV V j h) (hn : ∀ V' h', StV V' (j + 1) h' → lwH L xs (j + 1) h') : axW (axRoL L xs) (axEv (axRoL L xs) 10) cdL_law 32 [some (.retAddr 0), some (.ref 0), some (.ref 15), some (.int (nI (4 * j)))] [.int (nI 7)] h (fun r h => r = some (.int 1) ∧ h.length ≤ 600000 ∧ axSl h ≤ 7302250) := by
  obtain ⟨r, h1, h2, V', f0, f15, e1, e2, hs2, o0, o15⟩ := call_restoreTail (L := L) (xs := xs) hs (xs (4 * j + 1))
  have hn := hn V' h2 hs2
  unfold lwH at hn
  rw [show nI (4 * (j + 1)) = nI (4 * j) + 4 by rw [show nI (4 * j) + 4 = nI (4 * j + 4) from nI_add (4 * j) 4]; congr 1] at hn
  refine wp_sw rfl ?_
  refine wp_run rfl ?_
  rw [show nI (4 * j) + 1 = nI (4 * j + 1) from nI_add (4 * j) 1]
  refine lw_arg (b := 0) rfl (by omega) hL ?_
  refine wp_run rfl ?_
  refine wp_v1 rfl o0 (Nat.le_of_ble_eq_true rfl) e1 ?_
  refine wp_run rfl ?_
  rw [show nI (4 * j) + 1 = nI (4 * j + 1) from nI_add (4 * j) 1]
  refine lw_arg (b := 0) rfl (by omega) hL ?_
  refine wp_run rfl ?_
  refine wp_v1 rfl o15 (Nat.le_of_ble_eq_true rfl) e2 ?_
  refine wp_run rfl ?_
  refine wp_iceq rfl (fun _ => ?_) (fun hz_ => absurd (rfl) hz_)
  refine wp_run rfl ?_
  exact hn
set_option maxRecDepth 40000 in
theorem lw_move (hL : L ≤ 2048) (hj : 4 * j + 4 ≤ L) (hs : StV V j h) (hn : ∀ V' h', StV V' (j + 1) h' → lwH L xs (j + 1) h') : axW (axRoL L xs) (axEv (axRoL L xs) 10) cdL_law 32 [some (.retAddr 0), some (.ref 0), some (.ref 15), some (.int (nI (4 * j)))] [.int (nI 8)] h (fun r h => r = some (.int 1) ∧ h.length ≤ 600000 ∧ axSl h ≤ 7302250) := by
  obtain ⟨r, h1, h2, V', f0, f15, e1, e2, hs2, o0, o15⟩ := call_move (L := L) (xs := xs) hs (xs (4 * j + 1)) (xs (4 * j + 2))
  have hn := hn V' h2 hs2
  unfold lwH at hn
  rw [show nI (4 * (j + 1)) = nI (4 * j) + 4 by rw [show nI (4 * j) + 4 = nI (4 * j + 4) from nI_add (4 * j) 4]; congr 1] at hn
  refine wp_sw rfl ?_
  refine wp_run rfl ?_
  rw [show nI (4 * j) + 1 = nI (4 * j + 1) from nI_add (4 * j) 1]
  refine lw_arg (b := 0) rfl (by omega) hL ?_
  refine wp_run rfl ?_
  rw [show nI (4 * j) + 2 = nI (4 * j + 2) from nI_add (4 * j) 2]
  refine lw_arg (b := 0) rfl (by omega) hL ?_
  refine wp_run rfl ?_
  refine wp_v2 rfl o0 (Nat.le_of_ble_eq_true rfl) e1 ?_
  refine wp_run rfl ?_
  rw [show nI (4 * j) + 1 = nI (4 * j + 1) from nI_add (4 * j) 1]
  refine lw_arg (b := 0) rfl (by omega) hL ?_
  refine wp_run rfl ?_
  rw [show nI (4 * j) + 2 = nI (4 * j + 2) from nI_add (4 * j) 2]
  refine lw_arg (b := 0) rfl (by omega) hL ?_
  refine wp_run rfl ?_
  refine wp_v2 rfl o15 (Nat.le_of_ble_eq_true rfl) e2 ?_
  refine wp_run rfl ?_
  refine wp_iceq rfl (fun _ => ?_) (fun hz_ => absurd (rfl) hz_)
  refine wp_run rfl ?_
  exact hn
set_option maxRecDepth 40000 in
theorem lw_swap (hL : L ≤ 2048) (hj : 4 * j + 4 ≤ L) (hs : StV V j h) (hn : ∀ V' h', StV V' (j + 1) h' → lwH L xs (j + 1) h') : axW (axRoL L xs) (axEv (axRoL L xs) 10) cdL_law 32 [some (.retAddr 0), some (.ref 0), some (.ref 15), some (.int (nI (4 * j)))] [.int (nI 9)] h (fun r h => r = some (.int 1) ∧ h.length ≤ 600000 ∧ axSl h ≤ 7302250) := by
  obtain ⟨r, h1, h2, V', f0, f15, e1, e2, hs2, o0, o15⟩ := call_swap (L := L) (xs := xs) hs (xs (4 * j + 1)) (xs (4 * j + 2))
  have hn := hn V' h2 hs2
  unfold lwH at hn
  rw [show nI (4 * (j + 1)) = nI (4 * j) + 4 by rw [show nI (4 * j) + 4 = nI (4 * j + 4) from nI_add (4 * j) 4]; congr 1] at hn
  refine wp_sw rfl ?_
  refine wp_run rfl ?_
  rw [show nI (4 * j) + 1 = nI (4 * j + 1) from nI_add (4 * j) 1]
  refine lw_arg (b := 0) rfl (by omega) hL ?_
  refine wp_run rfl ?_
  rw [show nI (4 * j) + 2 = nI (4 * j + 2) from nI_add (4 * j) 2]
  refine lw_arg (b := 0) rfl (by omega) hL ?_
  refine wp_run rfl ?_
  refine wp_v2 rfl o0 (Nat.le_of_ble_eq_true rfl) e1 ?_
  refine wp_run rfl ?_
  rw [show nI (4 * j) + 1 = nI (4 * j + 1) from nI_add (4 * j) 1]
  refine lw_arg (b := 0) rfl (by omega) hL ?_
  refine wp_run rfl ?_
  rw [show nI (4 * j) + 2 = nI (4 * j + 2) from nI_add (4 * j) 2]
  refine lw_arg (b := 0) rfl (by omega) hL ?_
  refine wp_run rfl ?_
  refine wp_v2 rfl o15 (Nat.le_of_ble_eq_true rfl) e2 ?_
  refine wp_run rfl ?_
  refine wp_iceq rfl (fun _ => ?_) (fun hz_ => absurd (rfl) hz_)
  refine wp_run rfl ?_
  exact hn
set_option maxRecDepth 40000 in
theorem lw_split (hL : L ≤ 2048) (hj : 4 * j + 4 ≤ L) (hs : StV V j h) (hn : ∀ V' h', StV V' (j + 1) h' → lwH L xs (j + 1) h') : axW (axRoL L xs) (axEv (axRoL L xs) 10) cdL_law 32 [some (.retAddr 0), some (.ref 0), some (.ref 15), some (.int (nI (4 * j)))] [.int (nI 10)] h (fun r h => r = some (.int 1) ∧ h.length ≤ 600000 ∧ axSl h ≤ 7302250) := by
  obtain ⟨r, h1, h2, V', f0, f15, e1, e2, hs2, o0, o15⟩ := call_split (L := L) (xs := xs) hs (xs (4 * j + 1)) (xs (4 * j + 2))
  have hn := hn V' h2 hs2
  unfold lwH at hn
  rw [show nI (4 * (j + 1)) = nI (4 * j) + 4 by rw [show nI (4 * j) + 4 = nI (4 * j + 4) from nI_add (4 * j) 4]; congr 1] at hn
  refine wp_sw rfl ?_
  refine wp_run rfl ?_
  rw [show nI (4 * j) + 1 = nI (4 * j + 1) from nI_add (4 * j) 1]
  refine lw_arg (b := 0) rfl (by omega) hL ?_
  refine wp_run rfl ?_
  rw [show nI (4 * j) + 2 = nI (4 * j + 2) from nI_add (4 * j) 2]
  refine lw_arg (b := 0) rfl (by omega) hL ?_
  refine wp_run rfl ?_
  refine wp_v2 rfl o0 (Nat.le_of_ble_eq_true rfl) e1 ?_
  refine wp_run rfl ?_
  rw [show nI (4 * j) + 1 = nI (4 * j + 1) from nI_add (4 * j) 1]
  refine lw_arg (b := 0) rfl (by omega) hL ?_
  refine wp_run rfl ?_
  rw [show nI (4 * j) + 2 = nI (4 * j + 2) from nI_add (4 * j) 2]
  refine lw_arg (b := 0) rfl (by omega) hL ?_
  refine wp_run rfl ?_
  refine wp_v2 rfl o15 (Nat.le_of_ble_eq_true rfl) e2 ?_
  refine wp_run rfl ?_
  refine wp_iceq rfl (fun _ => ?_) (fun hz_ => absurd (rfl) hz_)
  refine wp_run rfl ?_
  exact hn
set_option maxRecDepth 40000 in
theorem lw_fit (hL : L ≤ 2048) (hj : 4 * j + 4 ≤ L) (hs : StV V j h) (hn : ∀ V' h', StV V' (j + 1) h' → lwH L xs (j + 1) h') : axW (axRoL L xs) (axEv (axRoL L xs) 10) cdL_law 32 [some (.retAddr 0), some (.ref 0), some (.ref 15), some (.int (nI (4 * j)))] [.int (nI 11)] h (fun r h => r = some (.int 1) ∧ h.length ≤ 600000 ∧ axSl h ≤ 7302250) := by
  obtain ⟨r, h1, h2, V', f0, f15, e1, e2, hs2, o0, o15⟩ := call_fit (L := L) (xs := xs) hs (xs (4 * j + 1))
  have hn := hn V' h2 hs2
  unfold lwH at hn
  rw [show nI (4 * (j + 1)) = nI (4 * j) + 4 by rw [show nI (4 * j) + 4 = nI (4 * j + 4) from nI_add (4 * j) 4]; congr 1] at hn
  refine wp_sw rfl ?_
  refine wp_run rfl ?_
  rw [show nI (4 * j) + 1 = nI (4 * j + 1) from nI_add (4 * j) 1]
  refine lw_arg (b := 0) rfl (by omega) hL ?_
  refine wp_run rfl ?_
  refine wp_v1 rfl o0 (Nat.le_of_ble_eq_true rfl) e1 ?_
  refine wp_run rfl ?_
  rw [show nI (4 * j) + 1 = nI (4 * j + 1) from nI_add (4 * j) 1]
  refine lw_arg (b := 0) rfl (by omega) hL ?_
  refine wp_run rfl ?_
  refine wp_v1 rfl o15 (Nat.le_of_ble_eq_true rfl) e2 ?_
  refine wp_run rfl ?_
  refine wp_iceq rfl (fun _ => ?_) (fun hz_ => absurd (rfl) hz_)
  refine wp_run rfl ?_
  exact hn
set_option maxRecDepth 40000 in
theorem lw_of (hL : L ≤ 2048) (hj : 4 * j + 4 ≤ L) (hs : StV V j h) (hn : ∀ V' h', StV V' (j + 1) h' → lwH L xs (j + 1) h') : axW (axRoL L xs) (axEv (axRoL L xs) 10) cdL_law 32 [some (.retAddr 0), some (.ref 0), some (.ref 15), some (.int (nI (4 * j)))] [.int (nI 12)] h (fun r h => r = some (.int 1) ∧ h.length ≤ 600000 ∧ axSl h ≤ 7302250) := by
  obtain ⟨r, h1, h2, V', f0, f15, e1, e2, hs2, o0, o15⟩ := call_of (L := L) (xs := xs) hs (xs (4 * j + 1)) (xs (4 * j + 2))
  have hn := hn V' h2 hs2
  unfold lwH at hn
  rw [show nI (4 * (j + 1)) = nI (4 * j) + 4 by rw [show nI (4 * j) + 4 = nI (4 * j + 4) from nI_add (4 * j) 4]; congr 1] at hn
  refine wp_sw rfl ?_
  refine wp_run rfl ?_
  rw [show nI (4 * j) + 1 = nI (4 * j + 1) from nI_add (4 * j) 1]
  refine lw_arg (b := 0) rfl (by omega) hL ?_
  refine wp_run rfl ?_
  rw [show nI (4 * j) + 2 = nI (4 * j + 2) from nI_add (4 * j) 2]
  refine lw_arg (b := 0) rfl (by omega) hL ?_
  refine wp_run rfl ?_
  refine wp_v2 rfl o0 (Nat.le_of_ble_eq_true rfl) e1 ?_
  refine wp_run rfl ?_
  rw [show nI (4 * j) + 1 = nI (4 * j + 1) from nI_add (4 * j) 1]
  refine lw_arg (b := 0) rfl (by omega) hL ?_
  refine wp_run rfl ?_
  rw [show nI (4 * j) + 2 = nI (4 * j + 2) from nI_add (4 * j) 2]
  refine lw_arg (b := 0) rfl (by omega) hL ?_
  refine wp_run rfl ?_
  refine wp_v2 rfl o15 (Nat.le_of_ble_eq_true rfl) e2 ?_
  refine wp_run rfl ?_
  refine wp_iceq rfl (fun _ => ?_) (fun hz_ => absurd (rfl) hz_)
  refine wp_run rfl ?_
  exact hn
set_option maxRecDepth 40000 in
theorem lw_at (hL : L ≤ 2048) (hj : 4 * j + 4 ≤ L) (hs : StV V j h) (hn : ∀ V' h', StV V' (j + 1) h' → lwH L xs (j + 1) h') : axW (axRoL L xs) (axEv (axRoL L xs) 10) cdL_law 32 [some (.retAddr 0), some (.ref 0), some (.ref 15), some (.int (nI (4 * j)))] [.int (nI 13)] h (fun r h => r = some (.int 1) ∧ h.length ≤ 600000 ∧ axSl h ≤ 7302250) := by
  obtain ⟨r, h1, h2, V', f0, f15, e1, e2, hs2, o0, o15⟩ := call_at (L := L) (xs := xs) hs (xs (4 * j + 1))
  have hn := hn V' h2 hs2
  unfold lwH at hn
  rw [show nI (4 * (j + 1)) = nI (4 * j) + 4 by rw [show nI (4 * j) + 4 = nI (4 * j + 4) from nI_add (4 * j) 4]; congr 1] at hn
  refine wp_sw rfl ?_
  refine wp_run rfl ?_
  rw [show nI (4 * j) + 1 = nI (4 * j + 1) from nI_add (4 * j) 1]
  refine lw_arg (b := 0) rfl (by omega) hL ?_
  refine wp_run rfl ?_
  refine wp_v1 rfl o0 (Nat.le_of_ble_eq_true rfl) e1 ?_
  refine wp_run rfl ?_
  rw [show nI (4 * j) + 1 = nI (4 * j + 1) from nI_add (4 * j) 1]
  refine lw_arg (b := 0) rfl (by omega) hL ?_
  refine wp_run rfl ?_
  refine wp_v1 rfl o15 (Nat.le_of_ble_eq_true rfl) e2 ?_
  refine wp_run rfl ?_
  refine wp_iceq rfl (fun _ => ?_) (fun hz_ => absurd (rfl) hz_)
  refine wp_run rfl ?_
  exact hn
set_option maxRecDepth 40000 in
theorem lw_atBeat (hL : L ≤ 2048) (hj : 4 * j + 4 ≤ L) (hs : StV V j h) (hn : ∀ V' h', StV V' (j + 1) h' → lwH L xs (j + 1) h') : axW (axRoL L xs) (axEv (axRoL L xs) 10) cdL_law 32 [some (.retAddr 0), some (.ref 0), some (.ref 15), some (.int (nI (4 * j)))] [.int (nI 14)] h (fun r h => r = some (.int 1) ∧ h.length ≤ 600000 ∧ axSl h ≤ 7302250) := by
  obtain ⟨r, h1, h2, V', f0, f15, e1, e2, hs2, o0, o15⟩ := call_atBeat (L := L) (xs := xs) hs (xs (4 * j + 1))
  have hn := hn V' h2 hs2
  unfold lwH at hn
  rw [show nI (4 * (j + 1)) = nI (4 * j) + 4 by rw [show nI (4 * j) + 4 = nI (4 * j + 4) from nI_add (4 * j) 4]; congr 1] at hn
  refine wp_sw rfl ?_
  refine wp_run rfl ?_
  rw [show nI (4 * j) + 1 = nI (4 * j + 1) from nI_add (4 * j) 1]
  refine lw_arg (b := 0) rfl (by omega) hL ?_
  refine wp_run rfl ?_
  refine wp_v1 rfl o0 (Nat.le_of_ble_eq_true rfl) e1 ?_
  refine wp_run rfl ?_
  rw [show nI (4 * j) + 1 = nI (4 * j + 1) from nI_add (4 * j) 1]
  refine lw_arg (b := 0) rfl (by omega) hL ?_
  refine wp_run rfl ?_
  refine wp_v1 rfl o15 (Nat.le_of_ble_eq_true rfl) e2 ?_
  refine wp_run rfl ?_
  refine wp_iceq rfl (fun _ => ?_) (fun hz_ => absurd (rfl) hz_)
  refine wp_run rfl ?_
  exact hn
set_option maxRecDepth 40000 in
theorem lw_ofAct (hL : L ≤ 2048) (hj : 4 * j + 4 ≤ L) (hs : StV V j h) (hn : ∀ V' h', StV V' (j + 1) h' → lwH L xs (j + 1) h') : axW (axRoL L xs) (axEv (axRoL L xs) 10) cdL_law 32 [some (.retAddr 0), some (.ref 0), some (.ref 15), some (.int (nI (4 * j)))] [.int (nI 15)] h (fun r h => r = some (.int 1) ∧ h.length ≤ 600000 ∧ axSl h ≤ 7302250) := by
  obtain ⟨r, h1, h2, V', f0, f15, e1, e2, hs2, o0, o15⟩ := call_ofAct (L := L) (xs := xs) hs (xs (4 * j + 1)) (xs (4 * j + 2))
  have hn := hn V' h2 hs2
  unfold lwH at hn
  rw [show nI (4 * (j + 1)) = nI (4 * j) + 4 by rw [show nI (4 * j) + 4 = nI (4 * j + 4) from nI_add (4 * j) 4]; congr 1] at hn
  refine wp_sw rfl ?_
  refine wp_run rfl ?_
  rw [show nI (4 * j) + 1 = nI (4 * j + 1) from nI_add (4 * j) 1]
  refine lw_arg (b := 0) rfl (by omega) hL ?_
  refine wp_run rfl ?_
  rw [show nI (4 * j) + 2 = nI (4 * j + 2) from nI_add (4 * j) 2]
  refine lw_arg (b := 0) rfl (by omega) hL ?_
  refine wp_run rfl ?_
  refine wp_v2 rfl o0 (Nat.le_of_ble_eq_true rfl) e1 ?_
  refine wp_run rfl ?_
  rw [show nI (4 * j) + 1 = nI (4 * j + 1) from nI_add (4 * j) 1]
  refine lw_arg (b := 0) rfl (by omega) hL ?_
  refine wp_run rfl ?_
  rw [show nI (4 * j) + 2 = nI (4 * j + 2) from nI_add (4 * j) 2]
  refine lw_arg (b := 0) rfl (by omega) hL ?_
  refine wp_run rfl ?_
  refine wp_v2 rfl o15 (Nat.le_of_ble_eq_true rfl) e2 ?_
  refine wp_run rfl ?_
  refine wp_iceq rfl (fun _ => ?_) (fun hz_ => absurd (rfl) hz_)
  refine wp_run rfl ?_
  exact hn
set_option maxRecDepth 40000 in
theorem lw_count (hL : L ≤ 2048) (hj : 4 * j + 4 ≤ L) (hs : StV V j h) (hn : ∀ V' h', StV V' (j + 1) h' → lwH L xs (j + 1) h') : axW (axRoL L xs) (axEv (axRoL L xs) 10) cdL_law 32 [some (.retAddr 0), some (.ref 0), some (.ref 15), some (.int (nI (4 * j)))] [.int (nI 16)] h (fun r h => r = some (.int 1) ∧ h.length ≤ 600000 ∧ axSl h ≤ 7302250) := by
  obtain ⟨r, h1, h2, V', f0, f15, e1, e2, hs2, o0, o15⟩ := call_count (L := L) (xs := xs) hs (xs (4 * j + 1))
  have hn := hn V' h2 hs2
  unfold lwH at hn
  rw [show nI (4 * (j + 1)) = nI (4 * j) + 4 by rw [show nI (4 * j) + 4 = nI (4 * j + 4) from nI_add (4 * j) 4]; congr 1] at hn
  refine wp_sw rfl ?_
  refine wp_run rfl ?_
  rw [show nI (4 * j) + 1 = nI (4 * j + 1) from nI_add (4 * j) 1]
  refine lw_arg (b := 0) rfl (by omega) hL ?_
  refine wp_run rfl ?_
  refine wp_v1 rfl o0 (Nat.le_of_ble_eq_true rfl) e1 ?_
  refine wp_run rfl ?_
  rw [show nI (4 * j) + 1 = nI (4 * j + 1) from nI_add (4 * j) 1]
  refine lw_arg (b := 0) rfl (by omega) hL ?_
  refine wp_run rfl ?_
  refine wp_v1 rfl o15 (Nat.le_of_ble_eq_true rfl) e2 ?_
  refine wp_run rfl ?_
  refine wp_iceq rfl (fun _ => ?_) (fun hz_ => absurd (rfl) hz_)
  refine wp_run rfl ?_
  exact hn
set_option maxRecDepth 40000 in
theorem lw_places (hL : L ≤ 2048) (hj : 4 * j + 4 ≤ L) (hs : StV V j h) (hn : ∀ V' h', StV V' (j + 1) h' → lwH L xs (j + 1) h') : axW (axRoL L xs) (axEv (axRoL L xs) 10) cdL_law 32 [some (.retAddr 0), some (.ref 0), some (.ref 15), some (.int (nI (4 * j)))] [.int (nI 17)] h (fun r h => r = some (.int 1) ∧ h.length ≤ 600000 ∧ axSl h ≤ 7302250) := by
  obtain ⟨r, h1, h2, V', f0, f15, e1, e2, hs2, o0, o15⟩ := call_places (L := L) (xs := xs) hs (xs (4 * j + 1))
  have hn := hn V' h2 hs2
  unfold lwH at hn
  rw [show nI (4 * (j + 1)) = nI (4 * j) + 4 by rw [show nI (4 * j) + 4 = nI (4 * j + 4) from nI_add (4 * j) 4]; congr 1] at hn
  refine wp_sw rfl ?_
  refine wp_run rfl ?_
  rw [show nI (4 * j) + 1 = nI (4 * j + 1) from nI_add (4 * j) 1]
  refine lw_arg (b := 0) rfl (by omega) hL ?_
  refine wp_run rfl ?_
  refine wp_v1 rfl o0 (Nat.le_of_ble_eq_true rfl) e1 ?_
  refine wp_run rfl ?_
  rw [show nI (4 * j) + 1 = nI (4 * j + 1) from nI_add (4 * j) 1]
  refine lw_arg (b := 0) rfl (by omega) hL ?_
  refine wp_run rfl ?_
  refine wp_v1 rfl o15 (Nat.le_of_ble_eq_true rfl) e2 ?_
  refine wp_run rfl ?_
  refine wp_iceq rfl (fun _ => ?_) (fun hz_ => absurd (rfl) hz_)
  refine wp_run rfl ?_
  exact hn
set_option maxRecDepth 40000 in
theorem lw_bestSwap (hL : L ≤ 2048) (hj : 4 * j + 4 ≤ L) (hs : StV V j h) (hn : ∀ V' h', StV V' (j + 1) h' → lwH L xs (j + 1) h') : axW (axRoL L xs) (axEv (axRoL L xs) 10) cdL_law 32 [some (.retAddr 0), some (.ref 0), some (.ref 15), some (.int (nI (4 * j)))] [.int (nI 18)] h (fun r h => r = some (.int 1) ∧ h.length ≤ 600000 ∧ axSl h ≤ 7302250) := by
  obtain ⟨r, h1, h2, V', f0, f15, e1, e2, hs2, o0, o15⟩ := call_bestSwap (L := L) (xs := xs) hs (xs (4 * j + 1))
  have hn := hn V' h2 hs2
  unfold lwH at hn
  rw [show nI (4 * (j + 1)) = nI (4 * j) + 4 by rw [show nI (4 * j) + 4 = nI (4 * j + 4) from nI_add (4 * j) 4]; congr 1] at hn
  refine wp_sw rfl ?_
  refine wp_run rfl ?_
  rw [show nI (4 * j) + 1 = nI (4 * j + 1) from nI_add (4 * j) 1]
  refine lw_arg (b := 0) rfl (by omega) hL ?_
  refine wp_run rfl ?_
  refine wp_v1 rfl o0 (Nat.le_of_ble_eq_true rfl) e1 ?_
  refine wp_run rfl ?_
  rw [show nI (4 * j) + 1 = nI (4 * j + 1) from nI_add (4 * j) 1]
  refine lw_arg (b := 0) rfl (by omega) hL ?_
  refine wp_run rfl ?_
  refine wp_v1 rfl o15 (Nat.le_of_ble_eq_true rfl) e2 ?_
  refine wp_run rfl ?_
  refine wp_iceq rfl (fun _ => ?_) (fun hz_ => absurd (rfl) hz_)
  refine wp_run rfl ?_
  exact hn
set_option maxRecDepth 40000 in
theorem lw_ifFitted (hL : L ≤ 2048) (hj : 4 * j + 4 ≤ L) (hs : StV V j h) (hn : ∀ V' h', StV V' (j + 1) h' → lwH L xs (j + 1) h') : axW (axRoL L xs) (axEv (axRoL L xs) 10) cdL_law 32 [some (.retAddr 0), some (.ref 0), some (.ref 15), some (.int (nI (4 * j)))] [.int (nI 19)] h (fun r h => r = some (.int 1) ∧ h.length ≤ 600000 ∧ axSl h ≤ 7302250) := by
  obtain ⟨r, h1, h2, V', f0, f15, e1, e2, hs2, o0, o15⟩ := call_ifFitted (L := L) (xs := xs) hs (xs (4 * j + 1))
  have hn := hn V' h2 hs2
  unfold lwH at hn
  rw [show nI (4 * (j + 1)) = nI (4 * j) + 4 by rw [show nI (4 * j) + 4 = nI (4 * j + 4) from nI_add (4 * j) 4]; congr 1] at hn
  refine wp_sw rfl ?_
  refine wp_run rfl ?_
  rw [show nI (4 * j) + 1 = nI (4 * j + 1) from nI_add (4 * j) 1]
  refine lw_arg (b := 0) rfl (by omega) hL ?_
  refine wp_run rfl ?_
  refine wp_v1 rfl o0 (Nat.le_of_ble_eq_true rfl) e1 ?_
  refine wp_run rfl ?_
  rw [show nI (4 * j) + 1 = nI (4 * j + 1) from nI_add (4 * j) 1]
  refine lw_arg (b := 0) rfl (by omega) hL ?_
  refine wp_run rfl ?_
  refine wp_v1 rfl o15 (Nat.le_of_ble_eq_true rfl) e2 ?_
  refine wp_run rfl ?_
  refine wp_iceq rfl (fun _ => ?_) (fun hz_ => absurd (rfl) hz_)
  refine wp_run rfl ?_
  exact hn
set_option maxRecDepth 40000 in
theorem lw_ifTurned (hL : L ≤ 2048) (hj : 4 * j + 4 ≤ L) (hs : StV V j h) (hn : ∀ V' h', StV V' (j + 1) h' → lwH L xs (j + 1) h') : axW (axRoL L xs) (axEv (axRoL L xs) 10) cdL_law 32 [some (.retAddr 0), some (.ref 0), some (.ref 15), some (.int (nI (4 * j)))] [.int (nI 20)] h (fun r h => r = some (.int 1) ∧ h.length ≤ 600000 ∧ axSl h ≤ 7302250) := by
  obtain ⟨r, h1, h2, V', f0, f15, e1, e2, hs2, o0, o15⟩ := call_ifTurned (L := L) (xs := xs) hs (xs (4 * j + 1))
  have hn := hn V' h2 hs2
  unfold lwH at hn
  rw [show nI (4 * (j + 1)) = nI (4 * j) + 4 by rw [show nI (4 * j) + 4 = nI (4 * j + 4) from nI_add (4 * j) 4]; congr 1] at hn
  refine wp_sw rfl ?_
  refine wp_run rfl ?_
  rw [show nI (4 * j) + 1 = nI (4 * j + 1) from nI_add (4 * j) 1]
  refine lw_arg (b := 0) rfl (by omega) hL ?_
  refine wp_run rfl ?_
  refine wp_v1 rfl o0 (Nat.le_of_ble_eq_true rfl) e1 ?_
  refine wp_run rfl ?_
  rw [show nI (4 * j) + 1 = nI (4 * j + 1) from nI_add (4 * j) 1]
  refine lw_arg (b := 0) rfl (by omega) hL ?_
  refine wp_run rfl ?_
  refine wp_v1 rfl o15 (Nat.le_of_ble_eq_true rfl) e2 ?_
  refine wp_run rfl ?_
  refine wp_iceq rfl (fun _ => ?_) (fun hz_ => absurd (rfl) hz_)
  refine wp_run rfl ?_
  exact hn
set_option maxRecDepth 40000 in
theorem lw_needs (hL : L ≤ 2048) (hj : 4 * j + 4 ≤ L) (hs : StV V j h) (hn : ∀ V' h', StV V' (j + 1) h' → lwH L xs (j + 1) h') : axW (axRoL L xs) (axEv (axRoL L xs) 10) cdL_law 32 [some (.retAddr 0), some (.ref 0), some (.ref 15), some (.int (nI (4 * j)))] [.int (nI 21)] h (fun r h => r = some (.int 1) ∧ h.length ≤ 600000 ∧ axSl h ≤ 7302250) := by
  obtain ⟨r, h1, h2, V', f0, f15, e1, e2, hs2, o0, o15⟩ := call_needs (L := L) (xs := xs) hs (xs (4 * j + 1))
  have hn := hn V' h2 hs2
  unfold lwH at hn
  rw [show nI (4 * (j + 1)) = nI (4 * j) + 4 by rw [show nI (4 * j) + 4 = nI (4 * j + 4) from nI_add (4 * j) 4]; congr 1] at hn
  refine wp_sw rfl ?_
  refine wp_run rfl ?_
  rw [show nI (4 * j) + 1 = nI (4 * j + 1) from nI_add (4 * j) 1]
  refine lw_arg (b := 0) rfl (by omega) hL ?_
  refine wp_run rfl ?_
  refine wp_v1 rfl o0 (Nat.le_of_ble_eq_true rfl) e1 ?_
  refine wp_run rfl ?_
  rw [show nI (4 * j) + 1 = nI (4 * j + 1) from nI_add (4 * j) 1]
  refine lw_arg (b := 0) rfl (by omega) hL ?_
  refine wp_run rfl ?_
  refine wp_v1 rfl o15 (Nat.le_of_ble_eq_true rfl) e2 ?_
  refine wp_run rfl ?_
  refine wp_iceq rfl (fun _ => ?_) (fun hz_ => absurd (rfl) hz_)
  refine wp_run rfl ?_
  exact hn
set_option maxRecDepth 40000 in
theorem lw_put (hL : L ≤ 2048) (hj : 4 * j + 4 ≤ L) (hs : StV V j h) (hn : ∀ V' h', StV V' (j + 1) h' → lwH L xs (j + 1) h') : axW (axRoL L xs) (axEv (axRoL L xs) 10) cdL_law 32 [some (.retAddr 0), some (.ref 0), some (.ref 15), some (.int (nI (4 * j)))] [.int (nI 22)] h (fun r h => r = some (.int 1) ∧ h.length ≤ 600000 ∧ axSl h ≤ 7302250) := by
  obtain ⟨r, h1, h2, V', f0, f15, e1, e2, hs2, o0, o15⟩ := call_put (L := L) (xs := xs) hs (((xs (4 * j + 1)).toInt64 <<< ((32 : Int32).toInt64 &&& 63)) ||| ((xs (4 * j + 2)).toInt64 &&& 4294967295))
  have hn := hn V' h2 hs2
  unfold lwH at hn
  rw [show nI (4 * (j + 1)) = nI (4 * j) + 4 by rw [show nI (4 * j) + 4 = nI (4 * j + 4) from nI_add (4 * j) 4]; congr 1] at hn
  refine wp_sw rfl ?_
  refine wp_run rfl ?_
  rw [show nI (4 * j) + 1 = nI (4 * j + 1) from nI_add (4 * j) 1]
  refine lw_arg (b := 0) rfl (by omega) hL ?_
  refine wp_run rfl ?_
  rw [show nI (4 * j) + 2 = nI (4 * j + 2) from nI_add (4 * j) 2]
  refine lw_arg (b := 0) rfl (by omega) hL ?_
  refine wp_run rfl ?_
  refine wp_v1 rfl o0 (Nat.le_of_ble_eq_true rfl) e1 ?_
  refine wp_run rfl ?_
  rw [show nI (4 * j) + 1 = nI (4 * j + 1) from nI_add (4 * j) 1]
  refine lw_arg (b := 0) rfl (by omega) hL ?_
  refine wp_run rfl ?_
  rw [show nI (4 * j) + 2 = nI (4 * j + 2) from nI_add (4 * j) 2]
  refine lw_arg (b := 0) rfl (by omega) hL ?_
  refine wp_run rfl ?_
  refine wp_v1 rfl o15 (Nat.le_of_ble_eq_true rfl) e2 ?_
  refine wp_run rfl ?_
  refine wp_iceq rfl (fun _ => ?_) (fun hz_ => absurd (rfl) hz_)
  refine wp_run rfl ?_
  exact hn
set_option maxRecDepth 40000 in
theorem lw_wipe (hL : L ≤ 2048) (hj : 4 * j + 4 ≤ L) (hs : StV V j h) (hn : ∀ V' h', StV V' (j + 1) h' → lwH L xs (j + 1) h') : axW (axRoL L xs) (axEv (axRoL L xs) 10) cdL_law 32 [some (.retAddr 0), some (.ref 0), some (.ref 15), some (.int (nI (4 * j)))] [.int (nI 23)] h (fun r h => r = some (.int 1) ∧ h.length ≤ 600000 ∧ axSl h ≤ 7302250) := by
  obtain ⟨r, h1, h2, V', f0, f15, e1, e2, hs2, o0, o15⟩ := call_wipe (L := L) (xs := xs) hs 
  have hn := hn V' h2 hs2
  unfold lwH at hn
  rw [show nI (4 * (j + 1)) = nI (4 * j) + 4 by rw [show nI (4 * j) + 4 = nI (4 * j + 4) from nI_add (4 * j) 4]; congr 1] at hn
  refine wp_sw rfl ?_
  refine wp_run rfl ?_
  refine wp_v0 rfl o0 (Nat.le_of_ble_eq_true rfl) e1 ?_
  refine wp_run rfl ?_
  refine wp_v0 rfl o15 (Nat.le_of_ble_eq_true rfl) e2 ?_
  refine wp_run rfl ?_
  refine wp_iceq rfl (fun _ => ?_) (fun hz_ => absurd (rfl) hz_)
  refine wp_run rfl ?_
  exact hn
set_option maxRecDepth 40000 in
theorem lw_fault (hL : L ≤ 2048) (hj : 4 * j + 4 ≤ L) (hs : StV V j h) (hn : ∀ V' h', StV V' (j + 1) h' → lwH L xs (j + 1) h') : axW (axRoL L xs) (axEv (axRoL L xs) 10) cdL_law 32 [some (.retAddr 0), some (.ref 0), some (.ref 15), some (.int (nI (4 * j)))] [.int (nI 24)] h (fun r h => r = some (.int 1) ∧ h.length ≤ 600000 ∧ axSl h ≤ 7302250) := by
  obtain ⟨r, h1, h2, V', f0, f15, e1, e2, hs2, o0, o15⟩ := call_fault (L := L) (xs := xs) hs 
  have hn := hn V' h2 hs2
  unfold lwH at hn
  rw [show nI (4 * (j + 1)) = nI (4 * j) + 4 by rw [show nI (4 * j) + 4 = nI (4 * j + 4) from nI_add (4 * j) 4]; congr 1] at hn
  refine wp_sw rfl ?_
  refine wp_run rfl ?_
  refine wp_v0 rfl o0 (Nat.le_of_ble_eq_true rfl) e1 ?_
  refine wp_run rfl ?_
  refine wp_v0 rfl o15 (Nat.le_of_ble_eq_true rfl) e2 ?_
  refine wp_run rfl ?_
  refine wp_iceq rfl (fun _ => ?_) (fun hz_ => absurd (rfl) hz_)
  refine wp_run rfl ?_
  exact hn
set_option maxRecDepth 40000 in
theorem lw_carryOut (hL : L ≤ 2048) (hj : 4 * j + 4 ≤ L) (hs : StV V j h) (hn : ∀ V' h', StV V' (j + 1) h' → lwH L xs (j + 1) h') : axW (axRoL L xs) (axEv (axRoL L xs) 10) cdL_law 32 [some (.retAddr 0), some (.ref 0), some (.ref 15), some (.int (nI (4 * j)))] [.int (nI 25)] h (fun r h => r = some (.int 1) ∧ h.length ≤ 600000 ∧ axSl h ≤ 7302250) := by
  obtain ⟨r, h1, h2, V', f0, f15, e1, e2, hs2, o0, o15⟩ := call_carryOut (L := L) (xs := xs) hs 
  have hn := hn V' h2 hs2
  unfold lwH at hn
  rw [show nI (4 * (j + 1)) = nI (4 * j) + 4 by rw [show nI (4 * j) + 4 = nI (4 * j + 4) from nI_add (4 * j) 4]; congr 1] at hn
  refine wp_sw rfl ?_
  refine wp_run rfl ?_
  refine wp_v0 rfl o0 (Nat.le_of_ble_eq_true rfl) e1 ?_
  refine wp_run rfl ?_
  refine wp_v0 rfl o15 (Nat.le_of_ble_eq_true rfl) e2 ?_
  refine wp_run rfl ?_
  refine wp_iceq rfl (fun _ => ?_) (fun hz_ => absurd (rfl) hz_)
  refine wp_run rfl ?_
  exact hn
set_option maxRecDepth 40000 in
theorem lw_undo (hL : L ≤ 2048) (hj : 4 * j + 4 ≤ L) (hs : StV V j h) (hn : ∀ V' h', StV V' (j + 1) h' → lwH L xs (j + 1) h') : axW (axRoL L xs) (axEv (axRoL L xs) 10) cdL_law 32 [some (.retAddr 0), some (.ref 0), some (.ref 15), some (.int (nI (4 * j)))] [.int (nI 26)] h (fun r h => r = some (.int 1) ∧ h.length ≤ 600000 ∧ axSl h ≤ 7302250) := by
  obtain ⟨r, h1, h2, V', f0, f15, e1, e2, hs2, o0, o15⟩ := call_undo (L := L) (xs := xs) hs 
  have hn := hn V' h2 hs2
  unfold lwH at hn
  rw [show nI (4 * (j + 1)) = nI (4 * j) + 4 by rw [show nI (4 * j) + 4 = nI (4 * j + 4) from nI_add (4 * j) 4]; congr 1] at hn
  refine wp_sw rfl ?_
  refine wp_run rfl ?_
  refine wp_v0 rfl o0 (Nat.le_of_ble_eq_true rfl) e1 ?_
  refine wp_run rfl ?_
  refine wp_v0 rfl o15 (Nat.le_of_ble_eq_true rfl) e2 ?_
  refine wp_run rfl ?_
  refine wp_iceq rfl (fun _ => ?_) (fun hz_ => absurd (rfl) hz_)
  refine wp_run rfl ?_
  exact hn
set_option maxRecDepth 40000 in
theorem lw_save (hL : L ≤ 2048) (hj : 4 * j + 4 ≤ L) (hs : StV V j h) (hn : ∀ V' h', StV V' (j + 1) h' → lwH L xs (j + 1) h') : axW (axRoL L xs) (axEv (axRoL L xs) 10) cdL_law 32 [some (.retAddr 0), some (.ref 0), some (.ref 15), some (.int (nI (4 * j)))] [.int (nI 27)] h (fun r h => r = some (.int 1) ∧ h.length ≤ 600000 ∧ axSl h ≤ 7302250) := by
  obtain ⟨r, h1, h2, V', f0, f15, e1, e2, hs2, o0, o15⟩ := call_save (L := L) (xs := xs) hs (xs (4 * j + 1))
  have hn := hn V' h2 hs2
  unfold lwH at hn
  rw [show nI (4 * (j + 1)) = nI (4 * j) + 4 by rw [show nI (4 * j) + 4 = nI (4 * j + 4) from nI_add (4 * j) 4]; congr 1] at hn
  refine wp_sw rfl ?_
  refine wp_run rfl ?_
  rw [show nI (4 * j) + 1 = nI (4 * j + 1) from nI_add (4 * j) 1]
  refine lw_arg (b := 0) rfl (by omega) hL ?_
  refine wp_run rfl ?_
  refine wp_v1 rfl o0 (Nat.le_of_ble_eq_true rfl) e1 ?_
  refine wp_run rfl ?_
  rw [show nI (4 * j) + 1 = nI (4 * j + 1) from nI_add (4 * j) 1]
  refine lw_arg (b := 0) rfl (by omega) hL ?_
  refine wp_run rfl ?_
  refine wp_v1 rfl o15 (Nat.le_of_ble_eq_true rfl) e2 ?_
  refine wp_run rfl ?_
  refine wp_iceq rfl (fun _ => ?_) (fun hz_ => absurd (rfl) hz_)
  refine wp_run rfl ?_
  exact hn
set_option maxRecDepth 40000 in
theorem lw_restore (hL : L ≤ 2048) (hj : 4 * j + 4 ≤ L) (hs : StV V j h) (hn : ∀ V' h', StV V' (j + 1) h' → lwH L xs (j + 1) h') : axW (axRoL L xs) (axEv (axRoL L xs) 10) cdL_law 32 [some (.retAddr 0), some (.ref 0), some (.ref 15), some (.int (nI (4 * j)))] [.int (nI 28)] h (fun r h => r = some (.int 1) ∧ h.length ≤ 600000 ∧ axSl h ≤ 7302250) := by
  obtain ⟨r, h1, h2, V', f0, f15, e1, e2, hs2, o0, o15⟩ := call_restore (L := L) (xs := xs) hs (xs (4 * j + 1))
  have hn := hn V' h2 hs2
  unfold lwH at hn
  rw [show nI (4 * (j + 1)) = nI (4 * j) + 4 by rw [show nI (4 * j) + 4 = nI (4 * j + 4) from nI_add (4 * j) 4]; congr 1] at hn
  refine wp_sw rfl ?_
  refine wp_run rfl ?_
  rw [show nI (4 * j) + 1 = nI (4 * j + 1) from nI_add (4 * j) 1]
  refine lw_arg (b := 0) rfl (by omega) hL ?_
  refine wp_run rfl ?_
  refine wp_v1 rfl o0 (Nat.le_of_ble_eq_true rfl) e1 ?_
  refine wp_run rfl ?_
  rw [show nI (4 * j) + 1 = nI (4 * j + 1) from nI_add (4 * j) 1]
  refine lw_arg (b := 0) rfl (by omega) hL ?_
  refine wp_run rfl ?_
  refine wp_v1 rfl o15 (Nat.le_of_ble_eq_true rfl) e2 ?_
  refine wp_run rfl ?_
  refine wp_iceq rfl (fun _ => ?_) (fun hz_ => absurd (rfl) hz_)
  refine wp_run rfl ?_
  exact hn
set_option maxRecDepth 40000 in
theorem lw_other (hs : StV V j h) {k : Nat} (hk : 29 ≤ k) (hk2 : k < 32) (hn : ∀ V' h', StV V' (j + 1) h' → lwH L xs (j + 1) h') : axW (axRoL L xs) (axEv (axRoL L xs) 10) cdL_law 32 [some (.retAddr 0), some (.ref 0), some (.ref 15), some (.int (nI (4 * j)))] [.int (nI k)] h (fun r h => r = some (.int 1) ∧ h.length ≤ 600000 ∧ axSl h ≤ 7302250) := by
  obtain ⟨M, hx, hV⟩ := hs
  have hn := hn V h ⟨M, XS_more (Nat.le_succ j) hx, hV⟩
  unfold lwH at hn
  rw [show nI (4 * (j + 1)) = nI (4 * j) + 4 by rw [show nI (4 * j) + 4 = nI (4 * j + 4) from nI_add (4 * j) 4]; congr 1] at hn
  rcases (show k = 29 ∨ k = 30 ∨ k = 31 by omega) with rfl | rfl | rfl
  · refine wp_sw rfl ?_
    refine wp_run rfl ?_
    exact hn
  · refine wp_sw rfl ?_
    refine wp_run rfl ?_
    exact hn
  · refine wp_sw rfl ?_
    refine wp_run rfl ?_
    exact hn
set_option maxRecDepth 40000 in
theorem lw_loop (hL : L ≤ 2048) : ∀ n j V h, j + n = L / 4 → StV V j h → lwH L xs j h := by
  intro n
  induction n with
  | zero =>
    intro j V h e hs
    have hc : nI L - 4 < nI (4 * j) := by
      rw [← zI_nI, ← zI_nI, show (4 : Int32) = zI 4 from rfl, zI_sub, zI_lt ⟨by omega, by omega⟩ ⟨by omega, by omega⟩]; omega
    unfold lwH
    refine wp_lenR rfl (by decide) ?_
    refine wp_run rfl ?_
    refine wp_icgt rfl (fun _ => ?_) (fun hz_ => absurd (hc) hz_)
    refine wp_run rfl ?_
    exact wp_ret rfl rfl ⟨rfl, StV_room hs (by omega)⟩
  | succ n ih =>
    intro j V h e hs
    have hj : 4 * j + 4 ≤ L := by omega
    have hc : ¬ nI L - 4 < nI (4 * j) := by
      rw [← zI_nI, ← zI_nI, show (4 : Int32) = zI 4 from rfl, zI_sub, zI_lt ⟨by omega, by omega⟩ ⟨by omega, by omega⟩]; omega
    have hn : ∀ V' h', StV V' (j + 1) h' → lwH L xs (j + 1) h' := fun V' h' hs' => ih (j + 1) V' h' (by omega) hs'
    obtain ⟨k, hk, ek⟩ := pk_andE (xs (4 * j)) (m := 31) 5 (by decide)
    unfold lwH
    refine wp_lenR rfl (by decide) ?_
    refine wp_run rfl ?_
    refine wp_icgt rfl (fun hz_ => absurd hz_ (hc)) (fun _ => ?_)
    refine wp_run rfl ?_
    refine lw_arg (b := 0) rfl (by omega) hL ?_
    refine wp_run rfl ?_
    rw [ek]
    clear ek
    match k, hk with
    | 0, _ => exact lw_set hL hj hs hn
    | 1, _ => exact lw_target hL hj hs hn
    | 2, _ => exact lw_slug hL hj hs hn
    | 3, _ => exact lw_drop hL hj hs hn
    | 4, _ => exact lw_turn hL hj hs hn
    | 5, _ => exact lw_need hL hj hs hn
    | 6, _ => exact lw_trim hL hj hs hn
    | 7, _ => exact lw_restoreTail hL hj hs hn
    | 8, _ => exact lw_move hL hj hs hn
    | 9, _ => exact lw_swap hL hj hs hn
    | 10, _ => exact lw_split hL hj hs hn
    | 11, _ => exact lw_fit hL hj hs hn
    | 12, _ => exact lw_of hL hj hs hn
    | 13, _ => exact lw_at hL hj hs hn
    | 14, _ => exact lw_atBeat hL hj hs hn
    | 15, _ => exact lw_ofAct hL hj hs hn
    | 16, _ => exact lw_count hL hj hs hn
    | 17, _ => exact lw_places hL hj hs hn
    | 18, _ => exact lw_bestSwap hL hj hs hn
    | 19, _ => exact lw_ifFitted hL hj hs hn
    | 20, _ => exact lw_ifTurned hL hj hs hn
    | 21, _ => exact lw_needs hL hj hs hn
    | 22, _ => exact lw_put hL hj hs hn
    | 23, _ => exact lw_wipe hL hj hs hn
    | 24, _ => exact lw_fault hL hj hs hn
    | 25, _ => exact lw_carryOut hL hj hs hn
    | 26, _ => exact lw_undo hL hj hs hn
    | 27, _ => exact lw_save hL hj hs hn
    | 28, _ => exact lw_restore hL hj hs hn
    | 29, _ => exact lw_other hs (by decide) (by decide) hn
    | 30, _ => exact lw_other hs (by decide) (by decide) hn
    | 31, _ => exact lw_other hs (by decide) (by decide) hn
    | n + 32, hk => exact absurd hk (by omega)
end AX67
set_option maxRecDepth 40000 in
theorem ax_law_run (L : Nat) (xs : Nat → Int32) (hL : L ≤ 2048) : axW (axRoL L xs) (axEv (axRoL L xs) 10) cdL_law 0 [some (.retAddr 0), none, none, none] [] [] (fun r h => r = some (.int 1) ∧ h.length ≤ 600000 ∧ axSl h ≤ 7302250) := by
  have hgo := lw_loop (xs := xs) hL (L / 4) 0 vIni _ (Nat.zero_add _) ⟨mIni, XS_ini, MSt_ini⟩
  unfold lwH at hgo
  refine wp_run rfl ?_
  refine wp_new (q := 0) (h1 := [.inr (.inr (4, axDf 4))]) rfl rfl rfl ?_
  refine wp_run rfl ?_
  refine wp_i0 rfl (Nat.le_of_ble_eq_true rfl) (x4_init (d := 8)) ?_
  refine wp_run rfl ?_
  refine wp_new (q := 15) (h1 := hN (cX bIni (nO, 0, 0) nO pIni gIni) (axDf 5) []) rfl rfl rfl ?_
  refine wp_run rfl ?_
  refine wp_i0 rfl (Nat.le_of_ble_eq_true rfl) (x5_init (d := 9)) ?_
  refine wp_run rfl ?_
  exact hgo
