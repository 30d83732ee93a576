/-! The abstract heap on the Java heap. b: the heap's size at the law's entry; rb: the three arrays that nobody writes; ca: the array classes. -/
def axTW : List Cond := lw_tbl.filter goodWord
theorem axTW_mem {w : Cond} (h : w ∈ lw_tbl) (g : goodWord w = true) : w ∈ axTW := List.mem_filter.mpr ⟨h, g⟩
theorem axTW_good {w : Cond} (h : w ∈ axTW) : (w.onTables && w.keeps) = true ∨ ∃ ty, w = .arrayClass ty := good_of_word (List.mem_filter.mp h).2
def axCv (b : Nat) (rb : Nat → Nat) : Value → Value := fun v => match v with
  | .ref k => .ref (b + k)
  | .retAddr i => .ref (rb i)
  | v => v
def axCe (b : Nat) (rb : Nat → Nat) (ca : Nat → ClassId) : axC → va_E := fun c => match c with
  | .inl (k, n, f) => .inl (ca k, n, .inl f)
  | .inr (.inl (n, f)) => .inl (ca 3, n, .inr (.inr (.inr (.inr (fun i => (f i).map (fun k => b + k))))))
  | .inr (.inr (ci, fs)) => .inr (ci, fs.map (axCv b rb))
def axWs (b : Nat) (rb : Nat → Nat) (ca : Nat → ClassId) : Nat → axH → va_W
  | _, [] => []
  | k, c :: l => (k, axCe b rb ca c) :: axWs b rb ca (k + 1) l
section AX6
variable {b : Nat} {rb : Nat → Nat} {ca : Nat → ClassId}
theorem axWs_get : ∀ (h : axH) (k i : Nat), (axWs b rb ca k h)[i]? = (h[i]?).map (fun c => (k + i, axCe b rb ca c))
  | [], k, i => by simp [axWs]
  | c :: l, k, 0 => by simp [axWs]
  | c :: l, k, i + 1 => by
    show (axWs b rb ca (k + 1) l)[i]? = (l[i]?).map _
    rw [axWs_get l (k + 1) i]
    congr 1
    funext c
    rw [show k + 1 + i = k + (i + 1) by omega]
theorem axWs_at {h : axH} {i : Nat} {c : axC} (e : h[i]? = some c) : (axWs b rb ca b h)[i]? = some (b + i, axCe b rb ca c) := by rw [axWs_get, e]; rfl
theorem axWs_set : ∀ (h : axH) (k i : Nat) (c : axC), axWs b rb ca k (h.set i c) = (axWs b rb ca k h).set i (k + i, axCe b rb ca c)
  | [], k, i, c => by simp [axWs]
  | _ :: l, k, 0, c => by simp [axWs]
  | d :: l, k, i + 1, c => by
    show (k, axCe b rb ca d) :: axWs b rb ca (k + 1) (l.set i c) = (k, axCe b rb ca d) :: (axWs b rb ca (k + 1) l).set i (k + (i + 1), axCe b rb ca c)
    rw [axWs_set l (k + 1) i c, show k + 1 + i = k + (i + 1) by omega]
theorem axWs_app : ∀ (h : axH) (k : Nat) (c : axC), axWs b rb ca k (h ++ [c]) = axWs b rb ca k h ++ [(k + h.length, axCe b rb ca c)]
  | [], k, c => by simp [axWs]
  | d :: l, k, c => by
    show (k, axCe b rb ca d) :: axWs b rb ca (k + 1) (l ++ [c]) = (k, axCe b rb ca d) :: (axWs b rb ca (k + 1) l ++ [(k + (l.length + 1), axCe b rb ca c)])
    rw [axWs_app l (k + 1) c, show k + 1 + l.length = k + (l.length + 1) by omega]
theorem axWs_D (h : axH) : va_D (fun q : Nat => b ≤ q) (axWs b rb ca b h) := by
  have key : ∀ (k : Nat) (q : Nat × va_E), (axWs b rb ca b h)[k]? = some q → q.1 = b + k := by
    intro k q hq
    rw [axWs_get] at hq
    obtain ⟨c, -, e⟩ := Option.map_eq_some_iff.mp hq
    rw [← e]
  refine ⟨fun i j p q hi hj he => ?_, fun k q hq => ?_⟩
  · rw [key i p hi, key j q hj] at he
    omega
  · show b ≤ q.1
    rw [key k q hq]; omega
theorem axCv_cat (v : Value) : (axCv b rb v).category = v.category := by cases v <;> rfl
theorem axCv_sum (S : List Value) : ((S.map (axCv b rb)).map fun v => v.category).sum = axSum S := by
  unfold axSum
  rw [List.map_map]
  congr 1
  apply List.map_congr_left
  intro v _
  exact axCv_cat v
end AX6
def axTys (ca : Nat → ClassId) : List (ClassId × FieldType) := [(ca 0, .int), (ca 1, .char), (ca 2, .int), (ca 3, .object "BeatSlugs$Board")]
def axNest : Cond → Bool
  | .methodLinkNest _ _ _ _ => true
  | .fieldLinkNest _ _ _ _ _ _ => true
  | _ => false
/-- what stays as it was at the law's entry: the arrays that nobody writes, the static fields, the words on nest mates -/
def axSt (b : Nat) (rb : Nat → Nat) (ro : axRo) (U : State) (H : Heap) : Prop :=
  (∀ i, i < 3 → rb i < b ∧ va_T .int (rb i) (ro i).1 (fun j => .int ((ro i).2 j)) (fun q : Nat => b ≤ q) U H) ∧ va_Z "BeatSlugs" "LEAST_SETTING" "[I" (.ref (rb 1)) (fun q : Nat => b ≤ q) U H ∧ va_Z "BeatSlugs" "MOST_SETTING" "[I" (.ref (rb 2)) (fun q : Nat => b ≤ q) U H ∧ (∀ w ∈ lw_tbl, axNest w = true → va_Nw w U) ∧ va_AO "BeatSlugs$Board" U
def axRep (b : Nat) (rb : Nat → Nat) (ca : Nat → ClassId) (D : va_G) (ro : axRo) (h : axH) (U : State) : Prop :=
  U.heap.size = b + h.length ∧ va_P D axCl (axWs b rb ca b h) U.heap ∧ va_K D axCl (axTys ca) U ∧ axSt b rb ro U U.heap
def axInv (b : Nat) (rb : Nat → Nat) (ca : Nat → ClassId) (D : va_G) (s : State) (h : axH) (H : Heap) (locs : List Loc) : Prop :=
  H.size = b + h.length ∧ va_P D axCl (axWs b rb ca b h) H ∧ va_S (fun q : Nat => b ≤ q) s.heap H locs
section AX6b
variable {b : Nat} {rb : Nat → Nat} {ca : Nat → ClassId} {D : va_G} {ro : axRo}
theorem axSt_moved {u U : State} {H H1 : Heap} (hvm : u.vm.Alike U.vm) (hnw : ∀ w ∈ lw_tbl, axNest w = true → va_Nw w u → va_Nw w U) (hq : ∀ a : Nat, a < H.size → ¬ b ≤ a → H1[a]? = H[a]?) (hb : b ≤ H.size) (h : axSt b rb ro u H) : axSt b rb ro U H1 := by
  obtain ⟨h1, h2, h3, h4, h5⟩ := h
  refine ⟨fun i hi => ⟨(h1 i hi).1, ((h1 i hi).2.kept hq).moved hvm⟩, (h2.kept hq).moved hvm, (h3.kept hq).moved hvm, fun w hw hn => hnw w hw hn (h4 w hw hn), h5.moved hvm⟩
theorem axNw_warm {s U : State} (hW : s.WarmedH U.vm) {w : Cond} (hn : axNest w = true) (h : va_Nw w s) : va_Nw w U := by
  cases w <;> simp only [axNest] at hn
  case methodLinkNest => exact va_Nw.warmM hW h
  case fieldLinkNest => exact va_Nw.warmF hW h
  all_goals cases hn
theorem axNw_same {s U : State} (hv : s.vm = U.vm) {w : Cond} (hn : axNest w = true) (h : va_Nw w s) : va_Nw w U := by
  cases w <;> simp only [axNest] at hn
  case methodLinkNest => exact va_Nw.same rfl hv h
  case fieldLinkNest => exact va_Nw.same rfl hv h
  all_goals cases hn
theorem axRep_at {s U : State} {h : axH} {H : Heap} {locs : List Loc} (hW : s.WarmedH U.vm) (hU : U.heap = H) (hK : va_K D axCl (axTys ca) s) (hs : b ≤ s.heap.size) (h0 : axSt b rb ro s s.heap) (hI : axInv b rb ca D s h H locs) : axRep b rb ca D ro h U := by
  obtain ⟨i1, i2, i3⟩ := hI
  refine ⟨by rw [hU]; exact i1, by rw [hU]; exact i2, va_K.moved hW.alike hK, ?_⟩
  rw [hU]
  exact axSt_moved hW.alike (fun w _ hn h => axNw_warm hW hn h) (fun a ha hb => i3.2.1 a ha hb) hs h0
theorem axRep_calling {U : State} {h : axH} (g : JFrame) (mk : MethodId) (a : Array Value) (hR : axRep b rb ca D ro h U) : axRep b rb ca D ro h (U.calling g mk a) := by
  obtain ⟨i1, i2, i3, i4⟩ := hR
  refine ⟨i1, i2, va_K.moved (u := U) (U := U.calling g mk a) (Vm.Alike.refl U.vm) i3, ?_⟩
  refine axSt_moved (u := U) (U := U.calling g mk a) (H := U.heap) (H1 := U.heap) (Vm.Alike.refl U.vm) (fun w _ hn h => axNw_same (s := U) (U := U.calling g mk a) rfl hn h) (fun _ _ _ => rfl) (by omega) i4
end AX6b
def axPc (b : Nat) (rb : Nat → Nat) (ca : Nat → ClassId) (D : va_G) (ro : axRo) (vs : List Value) (h : axH) : Array Value → State → Prop := fun a U => a = (vs.map (axCv b rb)).toArray ∧ axRep b rb ca D ro h U
def axQc (b : Nat) (rb : Nat → Nat) (ca : Nat → ClassId) (D : va_G) (ro : axRo) (r : Option Value) (h : axH) : Array Value → State → Outcome → State → Prop := fun _ st o t => o = .returned (r.map (axCv b rb)) ∧ axRep b rb ca D ro h t ∧ va_F (fun q : Nat => b ≤ q) st t
def axRm (d mc ms : Nat) : Room := { frames := d, cells := mc, slots := ms, locals := 36 * d }
def axCs : axC → Nat := fun c => match c with
  | .inl (_, n, _) => n
  | .inr (.inl (n, _)) => n
  | .inr (.inr (_, fs)) => fs.length
def axSl (h : axH) : Nat := (h.map axCs).sum
theorem axSl_app (h : axH) (c : axC) : axSl (h ++ [c]) = axSl h + axCs c := by simp [axSl]
theorem axSl_set : ∀ (h : axH) (i : Nat) (c d : axC), h[i]? = some d → axCs c = axCs d → axSl (h.set i c) = axSl h
  | [], i, c, d, h, _ => by simp at h
  | a :: l, 0, c, d, h, e => by
    simp only [List.getElem?_cons_zero, Option.some.injEq] at h
    simp [axSl, e, h]
  | a :: l, i + 1, c, d, h, e => by
    rw [List.getElem?_cons_succ] at h
    have := axSl_set l i c d h e
    unfold axSl at *
    rw [List.set_cons_succ, List.map_cons, List.sum_cons, this, List.map_cons, List.sum_cons]
def axWM (M : axM) : List Cond := Cond.code M.1 M.2.1 M.2.2.1 M.2.2.2.1 :: axTW
theorem axWM_good {M : axM} (hM : axGood M) : GoodIn axTW (axWM M) := by
  intro w hw
  have hc : Cond.code M.1 M.2.1 M.2.2.1 M.2.2.2.1 ∈ axTW := axTW_mem hM.1 rfl
  rcases List.mem_cons.mp hw with rfl | h
  · exact ⟨hc, axTW_good hc⟩
  · exact ⟨h, axTW_good h⟩
theorem goodIn_one {big : List Cond} {w : Cond} (h : w ∈ lw_tbl) (g : goodWord w = true) : w ∈ axTW ∧ ((w.onTables && w.keeps) = true ∨ ∃ ty, w = .arrayClass ty) := ⟨axTW_mem h g, good_of_word g⟩
/-! the locals -/
def axEn (b : Nat) (rb : Nat → Nat) : Nat → axL → List (Nat × Value)
  | _, [] => []
  | k, some v :: l => (k, axCv b rb v) :: axEn b rb (k + 1) l
  | k, none :: l => axEn b rb (k + 1) l
def axLr (b : Nat) (rb : Nat → Nat) (L : axL) (ls : Array Slot) (nL : Nat) : Prop := L.length = nL ∧ lv_has ls nL (axEn b rb 0 L)
section AX6c
variable {b : Nat} {rb : Nat → Nat}
theorem axEn_mem : ∀ (L : axL) (k j : Nat) (w : Value), (j, w) ∈ axEn b rb k L ↔ ∃ i v, j = k + i ∧ axG L i = some v ∧ w = axCv b rb v
  | [], k, j, w => by simp [axEn, axG]
  | some u :: l, k, j, w => by
    rw [axEn, List.mem_cons, axEn_mem l (k + 1) j w]
    constructor
    · rintro (h | ⟨i, v, h1, h2, h3⟩)
      · cases h
        exact ⟨0, u, rfl, rfl, rfl⟩
      · exact ⟨i + 1, v, by omega, h2, h3⟩
    · rintro ⟨i, v, h1, h2, h3⟩
      cases i with
      | zero =>
        have : u = v := Option.some.inj h2
        subst this
        left
        rw [h1, h3]; rfl
      | succ i => exact Or.inr ⟨i, v, by omega, h2, h3⟩
  | none :: l, k, j, w => by
    rw [axEn, axEn_mem l (k + 1) j w]
    constructor
    · rintro ⟨i, v, h1, h2, h3⟩
      exact ⟨i + 1, v, by omega, h2, h3⟩
    · rintro ⟨i, v, h1, h2, h3⟩
      cases i with
      | zero => cases h2
      | succ i => exact ⟨i, v, by omega, h2, h3⟩
theorem axLr_get {L : axL} {ls : Array Slot} {nL i : Nat} {v : Value} (h : axLr b rb L ls nL) (e : axG L i = some v) : ls[i]? = some (.val (axCv b rb v)) := h.2.2.2 (i, axCv b rb v) ((axEn_mem L 0 i _).mpr ⟨i, v, by omega, e, rfl⟩)
theorem axP_succ {u : Option Value} {l L' : axL} {i : Nat} {v : Value} (h : axP (u :: l) (i + 1) v = some L') : (∃ l', axP l i v = some l' ∧ L' = u :: l') ∧ (i = 0 → ∀ w, u = some w → ¬ w.category = 2) := by
  have key : ∀ o : Option axL, (match o with | some l' => some (u :: l') | none => none) = some L' → ∃ l', o = some l' ∧ L' = u :: l' := by
    intro o ho
    cases o with
    | none => cases ho
    | some l' => exact ⟨l', rfl, (Option.some.inj ho).symm⟩
  cases i with
  | succ n => exact ⟨key _ (by rw [axP] at h; exact h; all_goals (intros; omega)), fun q => by omega⟩
  | zero =>
    cases u with
    | none => exact ⟨key _ h, fun _ w q => by cases q⟩
    | some w =>
      cases w with
      | long x => cases h
      | double x => cases h
      | _ => exact ⟨key _ h, fun _ w q => by cases q; intro z; cases z⟩
theorem axP_spec : ∀ (L L' : axL) (i : Nat) (v : Value), axP L i v = some L' → L'.length = L.length ∧ i < L.length ∧ ∀ j w, axG L' j = some w → (j = i ∧ w = v) ∨ (j ≠ i ∧ axG L j = some w ∧ ¬ (j + 1 = i ∧ w.category = 2))
  | [], L', i, v, h => by cases h
  | u :: l, L', 0, v, h => by
    have h := (Option.some.inj h).symm
    subst h
    refine ⟨rfl, by simp, fun j w e => ?_⟩
    cases j with
    | zero => exact Or.inl ⟨rfl, (Option.some.inj e).symm⟩
    | succ j => exact Or.inr ⟨by omega, e, by omega⟩
  | u :: l, L', i + 1, v, h => by
    obtain ⟨⟨l', hl, rfl⟩, hn⟩ := axP_succ h
    obtain ⟨a1, a2, a3⟩ := axP_spec l l' i v hl
    refine ⟨by simp [a1], by simp; omega, fun j w e => ?_⟩
    cases j with
    | zero => exact Or.inr ⟨by omega, e, fun q => hn (by omega) w e q.2⟩
    | succ j =>
      rcases a3 j w e with ⟨z1, z2⟩ | ⟨z1, z2, z3⟩
      · exact Or.inl ⟨by omega, z2⟩
      · exact Or.inr ⟨by omega, z2, by omega⟩
theorem axN_spec : ∀ (L L' : axL) (i : Nat), axN L i = some L' → L'.length = L.length ∧ i < L.length ∧ ∀ j w, axG L' j = some w → j ≠ i ∧ axG L j = some w
  | [], L', i, h => by cases h
  | u :: l, L', 0, h => by
    have h := (Option.some.inj h).symm
    subst h
    refine ⟨rfl, by simp, fun j w e => ?_⟩
    cases j with
    | zero => cases e
    | succ j => exact ⟨by omega, e⟩
  | u :: l, L', i + 1, h => by
    have key : ∀ o : Option axL, (match o with | some l' => some (u :: l') | none => none) = some L' → ∃ l', o = some l' ∧ L' = u :: l' := by
      intro o ho
      cases o with
      | none => cases ho
      | some l' => exact ⟨l', rfl, (Option.some.inj ho).symm⟩
    obtain ⟨l', hl, rfl⟩ := key _ h
    obtain ⟨a1, a2, a3⟩ := axN_spec l l' i hl
    refine ⟨by simp [a1], by simp; omega, fun j w e => ?_⟩
    cases j with
    | zero => exact ⟨by omega, e⟩
    | succ j =>
      obtain ⟨z1, z2⟩ := a3 j w e
      exact ⟨by omega, z2⟩
end AX6c
