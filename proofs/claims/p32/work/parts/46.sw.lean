/-! THE LAW: a switch that goes to its default. -/
def axSwO (d : Nat) (x : Int32) : List (Int32 × Nat) → Prop
  | [] => True
  | q :: r => match Nat.beq q.2 d with
    | true => axSwO d x r
    | false => x ≠ q.1 ∧ axSwO d x r
theorem axSw_def {d : Nat} {x : Int32} : ∀ (tb : List (Int32 × Nat)), axSwO d x tb → axSw tb d x = d
  | [], _ => rfl
  | q :: r, h => by
    unfold axSwO at h
    rw [axSw]
    cases e : Nat.beq q.2 d with
    | true =>
      rw [e] at h
      split
      · exact Nat.eq_of_beq_eq_true e
      · exact axSw_def r h
    | false =>
      rw [e] at h
      rw [if_neg h.1]
      exact axSw_def r h.2
theorem axSw_go {ro : axRo} {E : axCall} {cd : List axE} {L : axL} {S : List Value} {Q : Option Value → axH → Prop} {h : axH} {x : Int32} {tb : List (Int32 × Nat)} {z : Nat} (hs : axSwO z x tb) (k : axW ro E cd z L S h Q) : axW ro E cd (axSw tb z x) L S h Q := by rw [axSw_def tb hs]; exact k
