/-! The text on the pad (no method of this law changes it). -/
def PT (f : Nat → Int32) (t : Nat → Nat) (pl : Nat) : Prop := pl ≤ 80 ∧ ∀ i, i < pl → f i = nI (t i) ∧ 33 ≤ t i ∧ t i ≤ 126
