/-! THE REFERENCE: its row of numbers after a change; copies of it. -/
section AX53
variable {s s' : Nat → Int32} {A A' : axAD}
theorem mr_cong (hO : aOw A) (hR : MR s A) (h : ∀ q, q < 154 → s' q = s q) : MR s' A := by
  have hn := hO.n
  refine ⟨by rw [h 0 (by decide)]; exact (mr_sz hR :), fun i hi => by rw [h _ (by omega)]; exact (mr_rw hR hi :), fun i hi => ?_, fun k hk => ⟨fun z => by rw [h _ (by omega)]; exact (mr_in hR hk z :), fun z => by rw [h _ (by omega)]; exact (mr_out hR hk z :)⟩, ⟨by rw [h 1 (by decide)]; exact (mr_pg hR :), by rw [h 2 (by decide)]; exact (mr_sl hR :), by rw [h 3 (by decide)]; exact (mr_tr hR :)⟩, fun a ha => by rw [h _ (by omega)]; exact (mr_tg hR ha :)⟩
  have hr := hO.r hi
  exact ⟨by rw [h _ (by omega)]; exact (mr_wr hR hi :), by rw [h _ (by omega)]; exact (mr_bt hR hi :), by rw [h _ (by omega)]; exact (mr_tn hR hi :), by rw [h _ (by omega)]; exact (mr_nd hR hi :)⟩
/-- a change of slugs' numbers alone -/
theorem mr_slg (hR : MR s A) (hn : aN A ≤ 24) (e1 : aN A' = aN A) (e2 : aR A' = aR A) (e3 : aPg A' = aPg A) (e4 : aSl A' = aSl A) (e5 : aTr A' = aTr A) (e6 : aTg A' = aTg A) (hlo : ∀ j, j < 34 → s' j = s j) (hin : ∀ k, s' (34 + 5 * k) = s (34 + 5 * k))
    (h : ∀ i, i < aN A → s' (35 + 5 * aR A i) = nI (aW A' (aR A i)) ∧ s' (36 + 5 * aR A i) = nI (aB A' (aR A i)) ∧ s' (37 + 5 * aR A i) = (if aT A' (aR A i) = true then 1 else 0) ∧ s' (38 + 5 * aR A i) = aD A' (aR A i)) : MR s' A' := by
  have hi : ∀ k, aIn A' k ↔ aIn A k := fun k => by unfold aIn; rw [e1, e2]
  refine ⟨by rw [hlo 0 (by decide), e1]; exact (mr_sz hR :), fun i hi => ?_, fun i hi => ?_, fun k hk => ⟨fun z => by rw [hin]; exact (mr_in hR hk ((hi k).mp z) :), fun z => by rw [hin]; exact (mr_out hR hk (fun z2 => z ((hi k).mpr z2)) :)⟩, ⟨by rw [hlo 1 (by decide), e3]; exact (mr_pg hR :), by rw [hlo 2 (by decide), e4]; exact (mr_sl hR :), by rw [hlo 3 (by decide), e5]; exact (mr_tr hR :)⟩, fun a ha => by rw [hlo _ (by omega), e6]; exact (mr_tg hR ha :)⟩
  · rw [e1] at hi; rw [hlo _ (by omega), e2]; exact (mr_rw hR hi :)
  · rw [e1] at hi; rw [e2]; exact h i hi
theorem mr_bts (hR : MR s A) (hn : aN A ≤ 24) (k v : Nat) : MR (upd s (36 + 5 * k) (nI v)) (aBts A k v) := by
  refine mr_slg hR hn rfl rfl rfl rfl rfl rfl (fun j hj => pk_un (by omega)) (fun j => pk_un (by omega)) (fun i hi => ⟨?_, ?_, ?_, ?_⟩)
  · rw [pk_un (by omega)]; exact (mr_wr hR hi :)
  · show _ = nI (va_up (aB A) k v (aR A i))
    by_cases e : aR A i = k
    · rw [e, pk_us, va_is]
    · rw [pk_un (by omega), va_no e]; exact (mr_bt hR hi :)
  · rw [pk_un (by omega)]; exact (mr_tn hR hi :)
  · rw [pk_un (by omega)]; exact (mr_nd hR hi :)
theorem mr_wrs (hR : MR s A) (hn : aN A ≤ 24) (k v : Nat) : MR (upd s (35 + 5 * k) (nI v)) (aWrs A k v) := by
  refine mr_slg hR hn rfl rfl rfl rfl rfl rfl (fun j hj => pk_un (by omega)) (fun j => pk_un (by omega)) (fun i hi => ⟨?_, ?_, ?_, ?_⟩)
  · show _ = nI (va_up (aW A) k v (aR A i))
    by_cases e : aR A i = k
    · rw [e, pk_us, va_is]
    · rw [pk_un (by omega), va_no e]; exact (mr_wr hR hi :)
  · rw [pk_un (by omega)]; exact (mr_bt hR hi :)
  · rw [pk_un (by omega)]; exact (mr_tn hR hi :)
  · rw [pk_un (by omega)]; exact (mr_nd hR hi :)
theorem mr_setD (hR : MR s A) (hn : aN A ≤ 24) (k : Nat) (x : Int32) : MR (upd s (38 + 5 * k) x) (aSetD A k x) := by
  refine mr_slg hR hn rfl rfl rfl rfl rfl rfl (fun j hj => pk_un (by omega)) (fun j => pk_un (by omega)) (fun i hi => ⟨?_, ?_, ?_, ?_⟩)
  · rw [pk_un (by omega)]; exact (mr_wr hR hi :)
  · rw [pk_un (by omega)]; exact (mr_bt hR hi :)
  · rw [pk_un (by omega)]; exact (mr_tn hR hi :)
  · show _ = va_up (aD A) k x (aR A i)
    by_cases e : aR A i = k
    · rw [e, pk_us, va_is]
    · rw [pk_un (by omega), va_no e]; exact (mr_nd hR hi :)
theorem mr_flip (hR : MR s A) (hn : aN A ≤ 24) (k : Nat) : MR (upd s (37 + 5 * k) (if aT A k = true then 0 else 1)) (aFlip A k) := by
  refine mr_slg hR hn rfl rfl rfl rfl rfl rfl (fun j hj => pk_un (by omega)) (fun j => pk_un (by omega)) (fun i hi => ⟨?_, ?_, ?_, ?_⟩)
  · rw [pk_un (by omega)]; exact (mr_wr hR hi :)
  · rw [pk_un (by omega)]; exact (mr_bt hR hi :)
  · show _ = if (if aR A i = k then !aT A (aR A i) else aT A (aR A i)) = true then 1 else 0
    by_cases e : aR A i = k
    · rw [e, pk_us, if_pos rfl]; cases aT A k <;> rfl
    · rw [pk_un (by omega), if_neg e]; exact (mr_tn hR hi :)
  · rw [pk_un (by omega)]; exact (mr_nd hR hi :)
theorem mr_setS (hR : MR s A) {j v : Nat} (hj : j < 3) : MR (upd s (1 + j) (nI v)) (aSetS A j v) := by
  refine ⟨by rw [pk_un (by omega)]; exact (mr_sz hR :), fun i hi => by rw [pk_un (by omega)]; exact (mr_rw hR hi :), fun i hi => ⟨by rw [pk_un (by omega)]; exact (mr_wr hR hi :), by rw [pk_un (by omega)]; exact (mr_bt hR hi :), by rw [pk_un (by omega)]; exact (mr_tn hR hi :), by rw [pk_un (by omega)]; exact (mr_nd hR hi :)⟩, fun k hk => ⟨fun z => by rw [pk_un (by omega)]; exact (mr_in hR hk z :), fun z => by rw [pk_un (by omega)]; exact (mr_out hR hk z :)⟩, ?_, fun a ha => by rw [pk_un (by omega)]; exact (mr_tg hR ha :)⟩
  match j, hj with
  | 0, _ => exact ⟨pk_us, by rw [pk_un (by decide)]; exact (mr_sl hR :), by rw [pk_un (by decide)]; exact (mr_tr hR :)⟩
  | 1, _ => exact ⟨by rw [pk_un (by decide)]; exact (mr_pg hR :), pk_us, by rw [pk_un (by decide)]; exact (mr_tr hR :)⟩
  | 2, _ => exact ⟨by rw [pk_un (by decide)]; exact (mr_pg hR :), by rw [pk_un (by decide)]; exact (mr_sl hR :), pk_us⟩
  | n + 3, h => exact absurd h (by omega)
theorem mr_setT (hR : MR s A) {a v : Nat} (ha : a < 6) : MR (upd s (4 + a) (nI v)) (aSetT A a v) := by
  refine ⟨by rw [pk_un (by omega)]; exact (mr_sz hR :), fun i hi => by rw [pk_un (by omega)]; exact (mr_rw hR hi :), fun i hi => ⟨by rw [pk_un (by omega)]; exact (mr_wr hR hi :), by rw [pk_un (by omega)]; exact (mr_bt hR hi :), by rw [pk_un (by omega)]; exact (mr_tn hR hi :), by rw [pk_un (by omega)]; exact (mr_nd hR hi :)⟩, fun k hk => ⟨fun z => by rw [pk_un (by omega)]; exact (mr_in hR hk z :), fun z => by rw [pk_un (by omega)]; exact (mr_out hR hk z :)⟩, ⟨by rw [pk_un (by omega)]; exact (mr_pg hR :), by rw [pk_un (by omega)]; exact (mr_sl hR :), by rw [pk_un (by omega)]; exact (mr_tr hR :)⟩, fun b hb => ?_⟩
  show _ = nI (va_up (aTg A) a v b)
  by_cases e : b = a
  · rw [e, pk_us, va_is]
  · rw [pk_un (by omega), va_no e]; exact (mr_tg hR hb :)
theorem mr_row (hR : MR s A) {r : Nat → Nat} (hlo : ∀ j, j < 10 → s' j = s j) (hhi : ∀ j, 34 ≤ j → s' j = s j) (hrw : ∀ i, i < aN A → s' (10 + i) = nI (r i)) (h1 : ∀ i, i < aN A → ∃ j, j < aN A ∧ r i = aR A j) (h2 : ∀ j, j < aN A → ∃ i, i < aN A ∧ r i = aR A j) : MR s' (aRow A r) := by
  have hi : ∀ k, aIn (aRow A r) k ↔ aIn A k := fun k => by
    constructor
    · rintro ⟨i, hi, e⟩
      obtain ⟨j, hj, e2⟩ := h1 i hi
      exact ⟨j, hj, by rw [← e2]; exact e⟩
    · rintro ⟨j, hj, e⟩
      obtain ⟨i, hi, e2⟩ := h2 j hj
      exact ⟨i, hi, by show r i = k; rw [e2]; exact e⟩
  refine ⟨by rw [hlo 0 (by decide)]; exact (mr_sz hR :), hrw, fun i hi => ?_, fun k hk => ⟨fun z => by rw [hhi _ (by omega)]; exact (mr_in hR hk ((hi k).mp z) :), fun z => by rw [hhi _ (by omega)]; exact (mr_out hR hk (fun z2 => z ((hi k).mpr z2)) :)⟩, ⟨by rw [hlo 1 (by decide)]; exact (mr_pg hR :), by rw [hlo 2 (by decide)]; exact (mr_sl hR :), by rw [hlo 3 (by decide)]; exact (mr_tr hR :)⟩, fun a ha => by rw [hlo _ (by omega)]; exact (mr_tg hR ha :)⟩
  obtain ⟨j, hj, e⟩ := h1 i hi
  show s' (35 + 5 * r i) = nI (aW A (r i)) ∧ s' (36 + 5 * r i) = nI (aB A (r i)) ∧ s' (37 + 5 * r i) = (if aT A (r i) = true then 1 else 0) ∧ s' (38 + 5 * r i) = aD A (r i)
  rw [e, hhi _ (by omega), hhi _ (by omega), hhi _ (by omega), hhi _ (by omega)]
  exact hR.2.2.1 j hj
theorem mr_add (hR : MR s A) {p v z : Nat} {t : Bool} (hz : z < 24) (hf : ¬ aIn A z) (hp : p ≤ aN A) (h0 : s' 0 = nI (aN A + 1)) (hlo : ∀ j, 1 ≤ j → j < 10 → s' j = s j) (hrw : ∀ i, i < aN A + 1 → s' (10 + i) = nI (aIns (aR A) p z i))
    (hs : s' (34 + 5 * z) = 1 ∧ s' (35 + 5 * z) = nI v ∧ s' (36 + 5 * z) = nI v ∧ s' (37 + 5 * z) = (if t = true then 1 else 0) ∧ s' (38 + 5 * z) = 0) (ho : ∀ k w, k ≠ z → w < 5 → s' (34 + 5 * k + w) = s (34 + 5 * k + w)) : MR s' (aAdd A p v z t) := by
  have hi : ∀ k, aIn (aAdd A p v z t) k ↔ (k = z ∨ aIn A k) := fun k => by
    constructor
    · rintro ⟨i, hi, e⟩
      rcases aIns_is (aR A) (k := z) hi hp with ⟨-, e2⟩ | ⟨j, hj, e2⟩
      · exact Or.inl (by rw [← e]; exact e2)
      · exact Or.inr ⟨j, hj, by rw [← e2]; exact e⟩
    · rintro (e | ⟨j, hj, e⟩)
      · exact ⟨p, by show p < aN A + 1; omega, by rw [e]; exact aIns_at (aR A) p z⟩
      · obtain ⟨i, hi, -, e2⟩ := aIns_has (aR A) (k := z) hj hp
        exact ⟨i, hi, by rw [← e]; exact e2⟩
  refine ⟨h0, hrw, fun i hi => ?_, fun k hk => ⟨fun h => ?_, fun h => ?_⟩, ⟨by rw [hlo 1 (by decide) (by decide)]; exact (mr_pg hR :), by rw [hlo 2 (by decide) (by decide)]; exact (mr_sl hR :), by rw [hlo 3 (by decide) (by decide)]; exact (mr_tr hR :)⟩, fun a ha => by rw [hlo _ (by omega) (by omega)]; exact (mr_tg hR ha :)⟩
  · show s' (35 + 5 * aIns (aR A) p z i) = nI (va_up (aW A) z v (aIns (aR A) p z i)) ∧ s' (36 + 5 * aIns (aR A) p z i) = nI (va_up (aB A) z v (aIns (aR A) p z i)) ∧ s' (37 + 5 * aIns (aR A) p z i) = (if va_up (aT A) z t (aIns (aR A) p z i) = true then 1 else 0) ∧ s' (38 + 5 * aIns (aR A) p z i) = va_up (aD A) z 0 (aIns (aR A) p z i)
    rcases aIns_is (aR A) (k := z) hi hp with ⟨-, e2⟩ | ⟨j, hj, e2⟩
    · rw [e2, va_is, va_is, va_is, va_is]; exact hs.2
    · have hne : aR A j ≠ z := fun e => hf ⟨j, hj, e⟩
      rw [e2, va_no hne, va_no hne, va_no hne, va_no hne]
      have q1 := ho (aR A j) 1 hne (by decide)
      have q2 := ho (aR A j) 2 hne (by decide)
      have q3 := ho (aR A j) 3 hne (by decide)
      have q4 := ho (aR A j) 4 hne (by decide)
      rw [show 34 + 5 * aR A j + 1 = 35 + 5 * aR A j by omega] at q1
      rw [show 34 + 5 * aR A j + 2 = 36 + 5 * aR A j by omega] at q2
      rw [show 34 + 5 * aR A j + 3 = 37 + 5 * aR A j by omega] at q3
      rw [show 34 + 5 * aR A j + 4 = 38 + 5 * aR A j by omega] at q4
      rw [q1, q2, q3, q4]
      exact hR.2.2.1 j hj
  · rcases (hi k).mp h with e | h2
    · rw [e]; exact hs.1
    · have hne : k ≠ z := fun e => hf (by rw [← e]; exact h2)
      have := ho k 0 hne (by decide)
      rw [Nat.add_zero] at this
      rw [this]; exact (mr_in hR hk h2 :)
  · have hne : k ≠ z := fun e => h ((hi k).mpr (Or.inl e))
    have := ho k 0 hne (by decide)
    rw [Nat.add_zero] at this
    rw [this]; exact (mr_out hR hk (fun h2 => h ((hi k).mpr (Or.inr h2))) :)
theorem mr_drop (hO : aOw A) (hR : MR s A) {p : Nat} (hp : p < aN A) (h0 : s' 0 = nI (aN A - 1)) (hlo : ∀ j, 1 ≤ j → j < 10 → s' j = s j) (hrw : ∀ i, i < aN A - 1 → s' (10 + i) = nI (aDel (aR A) p i))
    (hs : s' (34 + 5 * aR A p) = 0) (ho : ∀ k w, k ≠ aR A p → w < 4 → s' (34 + 5 * k + w) = s (34 + 5 * k + w)) (hd : ∀ k, k < 24 → k ≠ aR A p → s' (38 + 5 * k) = s (38 + 5 * k) &&& (bi (aR A p) ^^^ (-1))) : MR s' (aDrop A p) := by
  have hi : ∀ k, aIn (aDrop A p) k ↔ (k ≠ aR A p ∧ aIn A k) := fun k => by
    constructor
    · rintro ⟨i, hi, e⟩
      obtain ⟨j, hj, hjp, e2⟩ := aDel_is (aR A) hi hp
      have e3 : aR A j = k := by rw [← e2]; exact e
      exact ⟨fun z => hjp (hO.inj hj hp (by rw [e3]; exact z)), j, hj, e3⟩
    · rintro ⟨h, j, hj, e⟩
      obtain ⟨i, hi, e2⟩ := aDel_has (aR A) hj (fun z => h (by rw [← e, z])) hp
      exact ⟨i, hi, by rw [← e]; exact e2⟩
  refine ⟨h0, hrw, fun i hi => ?_, fun k hk => ⟨fun h => ?_, fun h => ?_⟩, ⟨by rw [hlo 1 (by decide) (by decide)]; exact (mr_pg hR :), by rw [hlo 2 (by decide) (by decide)]; exact (mr_sl hR :), by rw [hlo 3 (by decide) (by decide)]; exact (mr_tr hR :)⟩, fun a ha => by rw [hlo _ (by omega) (by omega)]; exact (mr_tg hR ha :)⟩
  · obtain ⟨j, hj, hjp, e2⟩ := aDel_is (aR A) hi hp
    have hne : aR A j ≠ aR A p := fun z => hjp (hO.inj hj hp z)
    show s' (35 + 5 * aDel (aR A) p i) = nI (aW A (aDel (aR A) p i)) ∧ s' (36 + 5 * aDel (aR A) p i) = nI (aB A (aDel (aR A) p i)) ∧ s' (37 + 5 * aDel (aR A) p i) = (if aT A (aDel (aR A) p i) = true then 1 else 0) ∧ s' (38 + 5 * aDel (aR A) p i) = aD A (aDel (aR A) p i) &&& (bi (aR A p) ^^^ (-1))
    rw [e2]
    have q1 := ho (aR A j) 1 hne (by decide)
    have q2 := ho (aR A j) 2 hne (by decide)
    have q3 := ho (aR A j) 3 hne (by decide)
    rw [show 34 + 5 * aR A j + 1 = 35 + 5 * aR A j by omega] at q1
    rw [show 34 + 5 * aR A j + 2 = 36 + 5 * aR A j by omega] at q2
    rw [show 34 + 5 * aR A j + 3 = 37 + 5 * aR A j by omega] at q3
    rw [q1, q2, q3, hd _ (hO.r hj) hne]
    exact ⟨mr_wr hR hj, mr_bt hR hj, mr_tn hR hj, by rw [mr_nd hR hj]⟩
  · obtain ⟨hne, h2⟩ := (hi k).mp h
    have := ho k 0 hne (by decide)
    rw [Nat.add_zero] at this
    rw [this]; exact (mr_in hR hk h2 :)
  · by_cases e : k = aR A p
    · rw [e]; exact hs
    · have := ho k 0 e (by decide)
      rw [Nat.add_zero] at this
      rw [this]; exact (mr_out hR hk (fun h2 => h ((hi k).mpr ⟨e, h2⟩)) :)
end AX53
section AX53b
variable {ro : axRo} {d : Nat} {h : axH}
theorem cpy_0 (f g : Nat → Int32) (fo t : Nat) : va_cpy f g fo t 0 = g := by
  funext i; exact pk_cpy_out (by omega)
theorem cpy_s (f g : Nat → Int32) (fo t q : Nat) : upd (va_cpy f g fo t q) (t + q) (f (fo + q)) = va_cpy f g fo t (q + 1) := by
  funext i
  by_cases e : i = t + q
  · rw [e, pk_us, pk_cpy_in (by omega) (by omega), Nat.add_sub_cancel_left]
  · rw [pk_un e]
    by_cases e2 : t ≤ i ∧ i < t + q
    · rw [pk_cpy_in e2.1 e2.2, pk_cpy_in e2.1 (by omega)]
    · rw [pk_cpy_out (by omega), pk_cpy_out (by omega)]
theorem set_is {h : axH} {b : Nat} {x : axC} (hb : h[b]? = some x) : h.set b x = h := by
  apply List.ext_getElem?
  intro i
  by_cases e : b = i
  · subst e
    rw [List.getElem?_set_self (List.getElem?_eq_some_iff.mp hb).1, hb]
  · rw [List.getElem?_set_ne e]
theorem x5_copy {a b n m fo t : Nat} {f g : Nat → Int32} (ha : h[a]? = some (axAi n f)) (hb : h[b]? = some (axAi m g)) (hab : a ≠ b) (hf : fo + 154 ≤ n) (ht : t + 154 ≤ m) (hn : n < 2 ^ 30) (hm : m < 2 ^ 30) : axEv ro (d + 1) kX5_copy [.ref a, .int (nI fo), .ref b, .int (nI t)] h none (h.set b (axAi m (va_cpy f g fo t 154))) := by
  have hl : b < h.length := (List.getElem?_eq_some_iff.mp hb).1
  have loop : ∀ k q, q + k = 154 → axW ro (axEv ro d) cdX5_copy 8 [some (.ref a), some (.int (nI fo)), some (.ref b), some (.int (nI t)), some (.int (nI q))] [.int 154, .int (nI q)] (h.set b (axAi m (va_cpy f g fo t q))) (fun r' h' => r' = none ∧ h' = h.set b (axAi m (va_cpy f g fo t 154))) := by
    intro k
    induction k with
    | zero =>
      intro q e
      have e : q = 154 := by omega
      subst e
      refine wp_icge rfl (fun _ => ?_) (fun hz_ => absurd (nI_le (b := 154) (Nat.le_refl 154) (by decide)) hz_)
      refine wp_run rfl ?_
      exact wp_retv rfl ⟨rfl, rfl⟩
    | succ k ih =>
      intro q e
      have hq : q < 154 := by omega
      refine wp_icge rfl (fun hz_ => absurd hz_ (nI_ge (b := 154) hq (by decide))) (fun _ => ?_)
      refine wp_run rfl ?_
      rw [nI_add, nI_add]
      refine wp_ald (n0 := n) (f := f) rfl (by rw [List.getElem?_set_ne (fun z => hab z.symm)]; exact ha) (vp_in_nI (show fo + q < n by omega) (by omega)) (by rw [nI_clamp (by omega)]) ?_
      refine wp_run rfl ?_
      refine wp_ast (h1 := h.set b (axAi m (va_cpy f g fo t (q + 1)))) (n0 := m) (f := va_cpy f g fo t q) rfl (by rw [List.getElem?_set_self hl]; rfl) (vp_in_nI (show t + q < m by omega) (by omega)) rfl (by rw [nI_clamp (by omega), List.set_set, cpy_s]; rfl) ?_
      refine wp_run rfl ?_
      rw [nI_1]
      exact ih (q + 1) (by omega)
  refine ev_in rfl rfl (Nat.le_of_ble_eq_true rfl) rfl ?_
  refine wp_run rfl ?_
  have := loop 154 0 (by decide)
  rw [cpy_0, set_is hb] at this
  exact this
end AX53b
