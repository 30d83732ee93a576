/-! The heap of the run: the class' cells 0 to 14, the reference's 15 to 21, behind them the boards that are made later. -/
abbrev axBD : Type := (Nat → Int32) × (Nat → Int32) × (Nat → Int32) × (Nat → Int32) × (Nat → Int32) × (Nat → Int32) × Int32 × Int32 × Int32
abbrev bSt (B : axBD) : Nat → Int32 := B.1
abbrev bTg (B : axBD) : Nat → Int32 := B.2.1
abbrev bRw (B : axBD) : Nat → Int32 := B.2.2.1
abbrev bWr (B : axBD) : Nat → Int32 := B.2.2.2.1
abbrev bBt (B : axBD) : Nat → Int32 := B.2.2.2.2.1
abbrev bNd (B : axBD) : Nat → Int32 := B.2.2.2.2.2.1
abbrev bSg (B : axBD) : Int32 := B.2.2.2.2.2.2.1
abbrev bTn (B : axBD) : Int32 := B.2.2.2.2.2.2.2.1
abbrev bSz (B : axBD) : Int32 := B.2.2.2.2.2.2.2.2
/-- states, next, kept -/
abbrev axYD : Type := (Nat → Option Nat) × Int32 × Int32
/-- signs, length, cursor, last, kind, first, second -/
abbrev axPD : Type := (Nat → Int32) × Int32 × Int32 × Int32 × Int32 × Int32 × Int32
/-- trial, lower, higher, least -/
abbrev axGD : Type := (Nat → Int32) × Int32 × Int32 × Int32
def axAi (n : Nat) (f : Nat → Int32) : axC := .inl (0, n, f)
def axBo (o : Nat) (B : axBD) : axC := .inr (.inr (0, [.ref (o + 1), .ref (o + 2), .ref (o + 3), .ref (o + 4), .ref (o + 5), .ref (o + 6), .int (bSg B), .int (bTn B), .int (bSz B)]))
def hX (B : axBD) (Y : axYD) (sl : Nat → Option Nat) (P : axPD) (G : axGD) (tl : axH) : axH :=
  .inr (.inr (4, [.ref 1, .ref 8, .ref 10, .ref 11, .ref 13])) ::
  .inr (.inr (0, [.ref 2, .ref 3, .ref 4, .ref 5, .ref 6, .ref 7, .int (bSg B), .int (bTn B), .int (bSz B)])) ::
  axAi 3 (bSt B) :: axAi 6 (bTg B) :: axAi 24 (bRw B) :: axAi 24 (bWr B) :: axAi 24 (bBt B) :: axAi 24 (bNd B) ::
  .inr (.inr (1, [.ref 9, .int Y.2.1, .int Y.2.2])) :: .inr (.inl (7, Y.1)) ::
  .inr (.inl (2, sl)) ::
  .inr (.inr (2, [.ref 12, .int P.2.1, .int P.2.2.1, .int P.2.2.2.1, .int P.2.2.2.2.1, .int P.2.2.2.2.2.1, .int P.2.2.2.2.2.2])) :: .inl (1, 80, P.1) ::
  .inr (.inr (3, [.ref 14, .int G.2.1, .int G.2.2.1, .int G.2.2.2])) :: axAi 24 G.1 :: tl
/-- s, history, kept, slots, isSaved, before, pad, length, place, letter, one, other, isTurn, done -/
abbrev axMD : Type := (Nat → Int32) × (Nat → Int32) × Int32 × (Nat → Int32) × (Nat → Int32) × (Nat → Int32) × (Nat → Int32) × Int32 × Int32 × Int32 × Int32 × Int32 × Int32 × Int32
abbrev mS (M : axMD) : Nat → Int32 := M.1
abbrev mHs (M : axMD) : Nat → Int32 := M.2.1
abbrev mKp (M : axMD) : Int32 := M.2.2.1
abbrev mSl (M : axMD) : Nat → Int32 := M.2.2.2.1
abbrev mSv (M : axMD) : Nat → Int32 := M.2.2.2.2.1
abbrev mBf (M : axMD) : Nat → Int32 := M.2.2.2.2.2.1
abbrev mPd (M : axMD) : Nat → Int32 := M.2.2.2.2.2.2.1
abbrev mLn (M : axMD) : Int32 := M.2.2.2.2.2.2.2.1
abbrev mPl (M : axMD) : Int32 := M.2.2.2.2.2.2.2.2.1
abbrev mLt (M : axMD) : Int32 := M.2.2.2.2.2.2.2.2.2.1
abbrev mOn (M : axMD) : Int32 := M.2.2.2.2.2.2.2.2.2.2.1
abbrev mOt (M : axMD) : Int32 := M.2.2.2.2.2.2.2.2.2.2.2.1
abbrev mIt (M : axMD) : Int32 := M.2.2.2.2.2.2.2.2.2.2.2.2.1
abbrev mDn (M : axMD) : Int32 := M.2.2.2.2.2.2.2.2.2.2.2.2.2
def axMO (M : axMD) : axC := .inr (.inr (5, [.ref 16, .ref 17, .int (mKp M), .ref 18, .ref 19, .ref 20, .ref 21, .int (mLn M), .int (mPl M), .int (mLt M), .int (mOn M), .int (mOt M), .int (mIt M), .int (mDn M)]))
def hM (c : Nat → axC) (M : axMD) (tl : axH) : axH :=
  c 0 :: c 1 :: c 2 :: c 3 :: c 4 :: c 5 :: c 6 :: c 7 :: c 8 :: c 9 :: c 10 :: c 11 :: c 12 :: c 13 :: c 14 ::
  .inr (.inr (5, [.ref 16, .ref 17, .int (mKp M), .ref 18, .ref 19, .ref 20, .ref 21, .int (mLn M), .int (mPl M), .int (mLt M), .int (mOn M), .int (mOt M), .int (mIt M), .int (mDn M)])) ::
  axAi 154 (mS M) :: axAi 924 (mHs M) :: axAi 308 (mSl M) :: .inl (2, 2, mSv M) :: axAi 154 (mBf M) :: axAi 80 (mPd M) :: tl
section AX13
variable {ro : axRo} {E : axCall} {cd : List axE} {pc : Nat} {L : axL} {S : List Value} {h h1 : axH} {Q : Option Value → axH → Prop} {p0 b c nx : Nat} {a : Value} {tb : List (Int32 × Nat)}
theorem wp_runk {pc' : Nat} {L' : axL} {S' : List Value} (k : Nat) (hr : axRn cd h k pc L S = (pc', L', S')) (kk : axW ro E cd pc' L' S' h Q) : axW ro E cd pc L S h Q := axRn_ok k pc L S (by rw [hr]; exact kk)
theorem wp_len {k n0 : Nat} {f : Nat → Int32} (hf : axF cd pc = some (p0, 39, a, b, c, tb, nx)) (hh : h[k]? = some (.inl (b, n0, f))) (hb : b < 3) (kk : axW ro E cd nx L (.int (Int32.ofNat n0) :: S) h Q) : axW ro E cd pc L (.ref k :: S) h Q := by
  obtain ⟨n, kk⟩ := kk
  exact wp_one hf ⟨n, Or.inl ⟨k, S, b, n0, f, rfl, hh, hb, kk⟩⟩
variable {d : Nat}
theorem x4_cell {k n0 j : Nat} {f : Nat → Int32} (hh : h[k]? = some (.inl (0, n0, f))) (hj : j < n0) (hn : n0 < 2 ^ 31) : axEv ro (d + 1) kX4_cell [.ref k, .int (nI j)] h (some (.int (f j))) h := by
  refine ev_in rfl rfl (Nat.le_of_ble_eq_true rfl) rfl ?_
  refine wp_runk 1 rfl ?_
  refine wp_iflt rfl (fun q => absurd q (nI_pos (by omega))) (fun _ => ?_)
  refine wp_runk 2 rfl ?_
  refine wp_len rfl hh (by decide) ?_
  refine wp_icge rfl (fun q => absurd q (nI_ge hj hn)) (fun _ => ?_)
  refine wp_runk 2 rfl ?_
  refine wp_ald rfl hh (vp_in_nI hj hn) (by rw [nI_clamp (by omega)]) ?_
  refine wp_runk 1 rfl ?_
  exact wp_ret rfl rfl ⟨rfl, rfl⟩
theorem x0_size0 {B Y sl P G tl} : axEv ro (d + 1) kX0_size [.ref 1] (hX B Y sl P G tl) (some (.int (bSz B))) (hX B Y sl P G tl) := by
  refine ev_in rfl rfl (Nat.le_of_ble_eq_true rfl) rfl ?_
  refine wp_run rfl ?_
  exact wp_ret rfl rfl ⟨rfl, rfl⟩
theorem x0_writtenOf0 {B Y sl P G tl} {j : Nat} (hj : j < 24) : axEv ro (d + 2) kX0_writtenOf [.ref 1, .int (nI j)] (hX B Y sl P G tl) (some (.int (bWr B j))) (hX B Y sl P G tl) := by
  refine ev_in rfl rfl (Nat.le_of_ble_eq_true rfl) rfl ?_
  refine wp_run rfl ?_
  refine wp_s2 rfl (by decide) (x4_cell rfl hj (by decide)) ?_
  refine wp_run rfl ?_
  exact wp_ret rfl rfl ⟨rfl, rfl⟩
end AX13
