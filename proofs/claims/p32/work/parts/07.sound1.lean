/-! SOUNDNESS, an instruction at a time: where the abstract machine goes on, the Java machine does (1: locals, stack, jumps). Written by wip/whole/mk07.py. -/
/-- what stays for a method's whole body: the machine, the code, the class, the words, the classes' numbers, what nobody writes -/
def axFx (p : Program) (s : State) (m : MethodId) (args : Array Value) (meth : Method) (c : Code) (b : Nat) (rb : Nat → Nat) (ca : Nat → ClassId) (D : va_G) (ro : axRo) (cc : ByteArray) (nL o : Nat) : Prop :=
  p.tables.exec = Jvm.exec ∧ c.code = cc ∧ c.maxLocals = nL ∧ s.vm.findClass (axCn o) = some m.cls ∧ (∀ w ∈ axTW, w.before args s = true) ∧ va_K D axCl (axTys ca) s ∧ axSt b rb ro s s.heap ∧ b ≤ s.heap.size
/-- from every heap that holds the abstract one, with these locals and this stack at pc, the method comes to QQ -/
def axWW (p : Program) (l : Launch) (e : Env) (R : Room) (s : State) (m : MethodId) (args : Array Value) (below : List Frame) (meth : Method) (c : Code) (b : Nat) (rb : Nat → Nat) (ca : Nat → ClassId) (D : va_G) (QQ : State → Prop) (nL n0 s0 : Nat) (pc : Nat) (L : axL) (S : List Value) (h : axH) : Prop :=
  n0 ≤ h.length → s0 ≤ axSl h → ∀ (H : Heap) (locs : List Loc) (ls : Array Slot), axInv b rb ca D s h H locs → axLr b rb L ls nL → W p l e R s m args below meth c H locs (h.length - n0) (axSl h - s0) QQ (F0 m pc ls (S.map (axCv b rb)))
theorem axI_ok {k len : Nat} {e e' : axE} (h : axI k len e = some e') : len = k ∧ e = e' := by
  unfold axI at h
  split at h
  · exact ⟨by assumption, Option.some.inj h⟩
  · cases h
theorem axTg_ok {pc len : Nat} {off : Int} {k : Nat → axE} {e' : axE} (h : axTg pc len off k = some e') : len = 3 ∧ (pc : Int) + off = ((((pc : Int) + off).toNat : Nat) : Int) ∧ k ((pc : Int) + off).toNat = e' := by
  unfold axTg at h
  split at h
  · rename_i q
    exact ⟨q.2, (Int.toNat_of_nonneg q.1).symm, Option.some.inj h⟩
  · cases h
theorem axLr_put {b : Nat} {rb : Nat → Nat} {L L' : axL} {nL i : Nat} {v : Value} {ls' : Array Slot} (hp : axP L i v = some L') (hn : L.length = nL) (hl : lv_has ls' nL ((i, axCv b rb v) :: (axEn b rb 0 L).filter (fun q => !(q.1 == i) && !(q.1 + 1 == i && q.2.category == 2)))) : axLr b rb L' ls' nL := by
  obtain ⟨a1, a2, a3⟩ := axP_spec L L' i v hp
  refine ⟨a1.trans hn, hl.1, hl.2.1, fun q hq => ?_⟩
  obtain ⟨j, w⟩ := q
  obtain ⟨i0, v0, h1, h2, h3⟩ := (axEn_mem L' 0 j w).mp hq
  have h1 : j = i0 := by omega
  subst h1
  subst h3
  rcases a3 j v0 h2 with ⟨z1, z2⟩ | ⟨z1, z2, z3⟩
  · rw [z1, z2]
    exact hl.2.2 (i, axCv b rb v) List.mem_cons_self
  · refine hl.2.2 (j, axCv b rb v0) (List.mem_cons_of_mem _ (List.mem_filter.mpr ⟨(axEn_mem L 0 j _).mpr ⟨j, v0, by omega, z2, rfl⟩, ?_⟩))
    rw [axCv_cat]
    simp only [Bool.and_eq_true, Bool.not_eq_true', beq_eq_false_iff_ne, ne_eq, Bool.and_eq_false_iff]
    refine ⟨z1, ?_⟩
    by_cases hj : j + 1 = i
    · exact Or.inr (fun q => z3 ⟨hj, q⟩)
    · exact Or.inl hj
theorem axLr_put2 {b : Nat} {rb : Nat → Nat} {L L' L'' : axL} {nL i : Nat} {v : Value} {ls' : Array Slot} (hp : axP L i v = some L') (hp2 : axN L' (i + 1) = some L'') (hn : L.length = nL) (hl : lv_has ls' nL ((i, axCv b rb v) :: (axEn b rb 0 L).filter (fun q => !(q.1 == i) && (!(q.1 == i + 1) && !(q.1 + 1 == i && q.2.category == 2))))) : axLr b rb L'' ls' nL := by
  obtain ⟨a1, a2, a3⟩ := axP_spec L L' i v hp
  obtain ⟨b1, b2, b3⟩ := axN_spec L' L'' (i + 1) hp2
  refine ⟨b1.trans (a1.trans hn), hl.1, hl.2.1, fun q hq => ?_⟩
  obtain ⟨j, w⟩ := q
  obtain ⟨i0, v0, h1, h2, h3⟩ := (axEn_mem L'' 0 j w).mp hq
  have h1 : j = i0 := by omega
  subst h1
  subst h3
  obtain ⟨c1, c2⟩ := b3 j v0 h2
  rcases a3 j v0 c2 with ⟨z1, z2⟩ | ⟨z1, z2, z3⟩
  · rw [z1, z2]
    exact hl.2.2 (i, axCv b rb v) List.mem_cons_self
  · refine hl.2.2 (j, axCv b rb v0) (List.mem_cons_of_mem _ (List.mem_filter.mpr ⟨(axEn_mem L 0 j _).mpr ⟨j, v0, by omega, z2, rfl⟩, ?_⟩))
    rw [axCv_cat]
    simp only [Bool.and_eq_true, Bool.not_eq_true', beq_eq_false_iff_ne, ne_eq, Bool.and_eq_false_iff]
    refine ⟨z1, c1, ?_⟩
    by_cases hj : j + 1 = i
    · exact Or.inr (fun q => z3 ⟨hj, q⟩)
    · exact Or.inl hj
theorem axFnd_mem {α : Type} {o i : Nat} : ∀ (l : List (Nat × Nat × α)) {x : α}, axFnd o i l = some x → (o, i, x) ∈ l
  | [], x, h => by cases h
  | q :: r, x, h => by
    unfold axFnd at h
    by_cases hq : (Nat.beq q.1 o && Nat.beq q.2.1 i) = true
    · rw [hq] at h
      rw [Bool.and_eq_true] at hq
      have h := Option.some.inj h
      have e1 := Nat.eq_of_beq_eq_true hq.1
      have e2 := Nat.eq_of_beq_eq_true hq.2
      rw [← h, ← e1, ← e2]
      exact List.mem_cons_self
    · rw [Bool.not_eq_true] at hq
      rw [hq] at h
      exact List.mem_cons_of_mem _ (axFnd_mem r h)
section AX7
variable {p : Program} {l : Launch} {e : Env} {R : Room} {s : State} {m : MethodId} {args : Array Value} {below : List Frame} {meth : Method} {c : Code} {b : Nat} {rb : Nat → Nat} {ca : Nat → ClassId} {D : va_G} {ro : axRo} {QQ : State → Prop} {cc : ByteArray} {nL n0 s0 o : Nat} {pc : Nat} {L : axL} {S : List Value} {h : axH} {K : Nat → axL → List Value → axH → Prop} {Q : Option Value → axH → Prop} {E : axCall} {ent : axE} {ini : Bool} {rt len : Nat}

theorem sx_iconst (n : Int) (F : axFx p s m args meth c b rb ca D ro cc nL o) (hd : decode cc pc = .ok (.iconst n, len)) (ht : axTr o ini rt pc (.iconst n) len = some ent) (h1 : axOne ro E ent L S h K Q) (hK : ∀ pc' L' S' h', K pc' L' S' h' → axWW p l e R s m args below meth c b rb ca D QQ nL n0 s0 pc' L' S' h') : axWW p l e R s m args below meth c b rb ca D QQ nL n0 s0 pc L S h := by
  obtain ⟨rfl, rfl⟩ := axI_ok ht
  obtain ⟨q, hq, hk⟩ := h1
  cases (Option.some.inj hq)
  intro g1 g2 H locs ls hI hL
  exact lv_iconst F.1 F.2.1 hd rfl (hK _ _ _ _ hk g1 g2 H locs ls hI hL)
theorem sx_bipush (n : Int) (F : axFx p s m args meth c b rb ca D ro cc nL o) (hd : decode cc pc = .ok (.bipush n, len)) (ht : axTr o ini rt pc (.bipush n) len = some ent) (h1 : axOne ro E ent L S h K Q) (hK : ∀ pc' L' S' h', K pc' L' S' h' → axWW p l e R s m args below meth c b rb ca D QQ nL n0 s0 pc' L' S' h') : axWW p l e R s m args below meth c b rb ca D QQ nL n0 s0 pc L S h := by
  obtain ⟨rfl, rfl⟩ := axI_ok ht
  obtain ⟨q, hq, hk⟩ := h1
  cases (Option.some.inj hq)
  intro g1 g2 H locs ls hI hL
  exact lv_bipush F.1 F.2.1 hd rfl (hK _ _ _ _ hk g1 g2 H locs ls hI hL)
theorem sx_sipush (n : Int) (F : axFx p s m args meth c b rb ca D ro cc nL o) (hd : decode cc pc = .ok (.sipush n, len)) (ht : axTr o ini rt pc (.sipush n) len = some ent) (h1 : axOne ro E ent L S h K Q) (hK : ∀ pc' L' S' h', K pc' L' S' h' → axWW p l e R s m args below meth c b rb ca D QQ nL n0 s0 pc' L' S' h') : axWW p l e R s m args below meth c b rb ca D QQ nL n0 s0 pc L S h := by
  obtain ⟨rfl, rfl⟩ := axI_ok ht
  obtain ⟨q, hq, hk⟩ := h1
  cases (Option.some.inj hq)
  intro g1 g2 H locs ls hI hL
  exact lv_sipush F.1 F.2.1 hd rfl (hK _ _ _ _ hk g1 g2 H locs ls hI hL)
theorem sx_lconst (n : Fin 2) (F : axFx p s m args meth c b rb ca D ro cc nL o) (hd : decode cc pc = .ok (.lconst n, len)) (ht : axTr o ini rt pc (.lconst n) len = some ent) (h1 : axOne ro E ent L S h K Q) (hK : ∀ pc' L' S' h', K pc' L' S' h' → axWW p l e R s m args below meth c b rb ca D QQ nL n0 s0 pc' L' S' h') : axWW p l e R s m args below meth c b rb ca D QQ nL n0 s0 pc L S h := by
  obtain ⟨rfl, rfl⟩ := axI_ok ht
  obtain ⟨q, hq, hk⟩ := h1
  cases (Option.some.inj hq)
  intro g1 g2 H locs ls hI hL
  exact lv_lconst F.1 F.2.1 hd rfl (hK _ _ _ _ hk g1 g2 H locs ls hI hL)
theorem sx_ldc_w (i : Nat) (F : axFx p s m args meth c b rb ca D ro cc nL o) (hd : decode cc pc = .ok (.ldc_w i, len)) (ht : axTr o ini rt pc (.ldc_w i) len = some ent) (h1 : axOne ro E ent L S h K Q) (hK : ∀ pc' L' S' h', K pc' L' S' h' → axWW p l e R s m args below meth c b rb ca D QQ nL n0 s0 pc' L' S' h') : axWW p l e R s m args below meth c b rb ca D QQ nL n0 s0 pc L S h := by
  rcases hq0 : axFnd o i axCsT with _ | ⟨v, w⟩
  · simp only [axTr, hq0] at ht
    cases ht
  · simp only [axTr, hq0] at ht
    obtain ⟨rfl, rfl⟩ := axI_ok ht
    obtain ⟨q, hq, hk⟩ := h1
    cases (Option.some.inj hq)
    intro g1 g2 H locs ls hI hL
    exact lv_ldcw F.1 F.2.1 F.2.2.2.1 (F.2.2.2.2.1 _ (axTW_mem (axCsT_ok _ (axFnd_mem _ hq0)) rfl)) hd (hK _ _ _ _ hk g1 g2 H locs ls hI hL)
theorem sx_ldc2_w (i : Nat) (F : axFx p s m args meth c b rb ca D ro cc nL o) (hd : decode cc pc = .ok (.ldc2_w i, len)) (ht : axTr o ini rt pc (.ldc2_w i) len = some ent) (h1 : axOne ro E ent L S h K Q) (hK : ∀ pc' L' S' h', K pc' L' S' h' → axWW p l e R s m args below meth c b rb ca D QQ nL n0 s0 pc' L' S' h') : axWW p l e R s m args below meth c b rb ca D QQ nL n0 s0 pc L S h := by
  rcases hq0 : axFnd o i axLcT with _ | ⟨v, w⟩
  · simp only [axTr, hq0] at ht
    cases ht
  · simp only [axTr, hq0] at ht
    obtain ⟨rfl, rfl⟩ := axI_ok ht
    obtain ⟨q, hq, hk⟩ := h1
    cases (Option.some.inj hq)
    intro g1 g2 H locs ls hI hL
    exact lv_ldc2 F.1 F.2.1 F.2.2.2.1 (F.2.2.2.2.1 _ (axTW_mem (axLcT_ok _ (axFnd_mem _ hq0)) rfl)) hd (hK _ _ _ _ hk g1 g2 H locs ls hI hL)
theorem sx_iload_n (k : Fin 4) (F : axFx p s m args meth c b rb ca D ro cc nL o) (hd : decode cc pc = .ok (.iload_n k, len)) (ht : axTr o ini rt pc (.iload_n k) len = some ent) (h1 : axOne ro E ent L S h K Q) (hK : ∀ pc' L' S' h', K pc' L' S' h' → axWW p l e R s m args below meth c b rb ca D QQ nL n0 s0 pc' L' S' h') : axWW p l e R s m args below meth c b rb ca D QQ nL n0 s0 pc L S h := by
  obtain ⟨rfl, rfl⟩ := axI_ok ht
  obtain ⟨q, hq, hk⟩ := h1
  simp only [axStp] at hq
  split at hq
  · rename_i x hx
    cases (Option.some.inj hq)
    intro g1 g2 H locs ls hI hL
    exact lv_iload_n F.1 F.2.1 hd rfl (axLr_get hL hx) (hK _ _ _ _ hk g1 g2 H locs ls hI hL)
  · cases hq
theorem sx_iload (k : Nat) (F : axFx p s m args meth c b rb ca D ro cc nL o) (hd : decode cc pc = .ok (.iload k, len)) (ht : axTr o ini rt pc (.iload k) len = some ent) (h1 : axOne ro E ent L S h K Q) (hK : ∀ pc' L' S' h', K pc' L' S' h' → axWW p l e R s m args below meth c b rb ca D QQ nL n0 s0 pc' L' S' h') : axWW p l e R s m args below meth c b rb ca D QQ nL n0 s0 pc L S h := by
  obtain ⟨rfl, rfl⟩ := axI_ok ht
  obtain ⟨q, hq, hk⟩ := h1
  simp only [axStp] at hq
  split at hq
  · rename_i x hx
    cases (Option.some.inj hq)
    intro g1 g2 H locs ls hI hL
    exact lv_iload F.1 F.2.1 hd (axLr_get hL hx) (hK _ _ _ _ hk g1 g2 H locs ls hI hL)
  · cases hq
theorem sx_lload_n (k : Fin 4) (F : axFx p s m args meth c b rb ca D ro cc nL o) (hd : decode cc pc = .ok (.lload_n k, len)) (ht : axTr o ini rt pc (.lload_n k) len = some ent) (h1 : axOne ro E ent L S h K Q) (hK : ∀ pc' L' S' h', K pc' L' S' h' → axWW p l e R s m args below meth c b rb ca D QQ nL n0 s0 pc' L' S' h') : axWW p l e R s m args below meth c b rb ca D QQ nL n0 s0 pc L S h := by
  obtain ⟨rfl, rfl⟩ := axI_ok ht
  obtain ⟨q, hq, hk⟩ := h1
  simp only [axStp] at hq
  split at hq
  · rename_i x hx
    cases (Option.some.inj hq)
    intro g1 g2 H locs ls hI hL
    exact lv_lload_n F.1 F.2.1 hd rfl (axLr_get hL hx) (hK _ _ _ _ hk g1 g2 H locs ls hI hL)
  · cases hq
theorem sx_lload (k : Nat) (F : axFx p s m args meth c b rb ca D ro cc nL o) (hd : decode cc pc = .ok (.lload k, len)) (ht : axTr o ini rt pc (.lload k) len = some ent) (h1 : axOne ro E ent L S h K Q) (hK : ∀ pc' L' S' h', K pc' L' S' h' → axWW p l e R s m args below meth c b rb ca D QQ nL n0 s0 pc' L' S' h') : axWW p l e R s m args below meth c b rb ca D QQ nL n0 s0 pc L S h := by
  obtain ⟨rfl, rfl⟩ := axI_ok ht
  obtain ⟨q, hq, hk⟩ := h1
  simp only [axStp] at hq
  split at hq
  · rename_i x hx
    cases (Option.some.inj hq)
    intro g1 g2 H locs ls hI hL
    exact lv_lload F.1 F.2.1 hd (axLr_get hL hx) (hK _ _ _ _ hk g1 g2 H locs ls hI hL)
  · cases hq
theorem sx_aload_n (k : Fin 4) (F : axFx p s m args meth c b rb ca D ro cc nL o) (hd : decode cc pc = .ok (.aload_n k, len)) (ht : axTr o ini rt pc (.aload_n k) len = some ent) (h1 : axOne ro E ent L S h K Q) (hK : ∀ pc' L' S' h', K pc' L' S' h' → axWW p l e R s m args below meth c b rb ca D QQ nL n0 s0 pc' L' S' h') : axWW p l e R s m args below meth c b rb ca D QQ nL n0 s0 pc L S h := by
  obtain ⟨rfl, rfl⟩ := axI_ok ht
  obtain ⟨q, hq, hk⟩ := h1
  simp only [axStp] at hq
  split at hq
  · rename_i x hx
    cases (Option.some.inj hq)
    intro g1 g2 H locs ls hI hL
    exact lv_aload_n F.1 F.2.1 hd rfl (axLr_get hL hx) (hK _ _ _ _ hk g1 g2 H locs ls hI hL)
  · rename_i hx
    cases (Option.some.inj hq)
    intro g1 g2 H locs ls hI hL
    exact lv_aload_nN F.1 F.2.1 hd rfl (axLr_get hL hx) (hK _ _ _ _ hk g1 g2 H locs ls hI hL)
  · rename_i x hx
    cases (Option.some.inj hq)
    intro g1 g2 H locs ls hI hL
    exact lv_aload_n F.1 F.2.1 hd rfl (axLr_get hL hx) (hK _ _ _ _ hk g1 g2 H locs ls hI hL)
  · cases hq
theorem sx_aload (k : Nat) (F : axFx p s m args meth c b rb ca D ro cc nL o) (hd : decode cc pc = .ok (.aload k, len)) (ht : axTr o ini rt pc (.aload k) len = some ent) (h1 : axOne ro E ent L S h K Q) (hK : ∀ pc' L' S' h', K pc' L' S' h' → axWW p l e R s m args below meth c b rb ca D QQ nL n0 s0 pc' L' S' h') : axWW p l e R s m args below meth c b rb ca D QQ nL n0 s0 pc L S h := by
  obtain ⟨rfl, rfl⟩ := axI_ok ht
  obtain ⟨q, hq, hk⟩ := h1
  simp only [axStp] at hq
  split at hq
  · rename_i x hx
    cases (Option.some.inj hq)
    intro g1 g2 H locs ls hI hL
    exact lv_aload F.1 F.2.1 hd (axLr_get hL hx) (hK _ _ _ _ hk g1 g2 H locs ls hI hL)
  · rename_i hx
    cases (Option.some.inj hq)
    intro g1 g2 H locs ls hI hL
    exact lv_aloadN F.1 F.2.1 hd (axLr_get hL hx) (hK _ _ _ _ hk g1 g2 H locs ls hI hL)
  · rename_i x hx
    cases (Option.some.inj hq)
    intro g1 g2 H locs ls hI hL
    exact lv_aload F.1 F.2.1 hd (axLr_get hL hx) (hK _ _ _ _ hk g1 g2 H locs ls hI hL)
  · cases hq
theorem sx_istore_n (k : Fin 4) (F : axFx p s m args meth c b rb ca D ro cc nL o) (hd : decode cc pc = .ok (.istore_n k, len)) (ht : axTr o ini rt pc (.istore_n k) len = some ent) (h1 : axOne ro E ent L S h K Q) (hK : ∀ pc' L' S' h', K pc' L' S' h' → axWW p l e R s m args below meth c b rb ca D QQ nL n0 s0 pc' L' S' h') : axWW p l e R s m args below meth c b rb ca D QQ nL n0 s0 pc L S h := by
  obtain ⟨rfl, rfl⟩ := axI_ok ht
  obtain ⟨q, hq, hk⟩ := h1
  simp only [axStp] at hq
  split at hq
  · rename_i x S'
    split at hq
    · rename_i L' hp
      cases (Option.some.inj hq)
      intro g1 g2 H locs ls hI hL
      exact lv_istore_n F.1 F.2.1 hd rfl hL.2 (by have := (axP_spec _ _ _ _ hp).2.1; rw [hL.1] at this; exact this) rfl (fun ls hl => hK _ _ _ _ hk g1 g2 H locs ls hI (axLr_put hp hL.1 hl))
    · cases hq
  · cases hq
theorem sx_istore (k : Nat) (F : axFx p s m args meth c b rb ca D ro cc nL o) (hd : decode cc pc = .ok (.istore k, len)) (ht : axTr o ini rt pc (.istore k) len = some ent) (h1 : axOne ro E ent L S h K Q) (hK : ∀ pc' L' S' h', K pc' L' S' h' → axWW p l e R s m args below meth c b rb ca D QQ nL n0 s0 pc' L' S' h') : axWW p l e R s m args below meth c b rb ca D QQ nL n0 s0 pc L S h := by
  obtain ⟨rfl, rfl⟩ := axI_ok ht
  obtain ⟨q, hq, hk⟩ := h1
  simp only [axStp] at hq
  split at hq
  · rename_i x S'
    split at hq
    · rename_i L' hp
      cases (Option.some.inj hq)
      intro g1 g2 H locs ls hI hL
      exact lv_istore F.1 F.2.1 hd hL.2 (by have := (axP_spec _ _ _ _ hp).2.1; rw [hL.1] at this; exact this) rfl (fun ls hl => hK _ _ _ _ hk g1 g2 H locs ls hI (axLr_put hp hL.1 hl))
    · cases hq
  · cases hq
theorem sx_astore_n (k : Fin 4) (F : axFx p s m args meth c b rb ca D ro cc nL o) (hd : decode cc pc = .ok (.astore_n k, len)) (ht : axTr o ini rt pc (.astore_n k) len = some ent) (h1 : axOne ro E ent L S h K Q) (hK : ∀ pc' L' S' h', K pc' L' S' h' → axWW p l e R s m args below meth c b rb ca D QQ nL n0 s0 pc' L' S' h') : axWW p l e R s m args below meth c b rb ca D QQ nL n0 s0 pc L S h := by
  obtain ⟨rfl, rfl⟩ := axI_ok ht
  obtain ⟨q, hq, hk⟩ := h1
  simp only [axStp] at hq
  split at hq
  · rename_i x S'
    split at hq
    · rename_i L' hp
      cases (Option.some.inj hq)
      intro g1 g2 H locs ls hI hL
      exact lv_astore_n F.1 F.2.1 hd rfl hL.2 (by have := (axP_spec _ _ _ _ hp).2.1; rw [hL.1] at this; exact this) rfl (fun ls hl => hK _ _ _ _ hk g1 g2 H locs ls hI (axLr_put hp hL.1 hl))
    · cases hq
  · rename_i S'
    split at hq
    · rename_i L' hp
      cases (Option.some.inj hq)
      intro g1 g2 H locs ls hI hL
      exact lv_astore_nN F.1 F.2.1 hd rfl hL.2 (by have := (axP_spec _ _ _ _ hp).2.1; rw [hL.1] at this; exact this) rfl (fun ls hl => hK _ _ _ _ hk g1 g2 H locs ls hI (axLr_put hp hL.1 hl))
    · cases hq
  · cases hq
theorem sx_astore (k : Nat) (F : axFx p s m args meth c b rb ca D ro cc nL o) (hd : decode cc pc = .ok (.astore k, len)) (ht : axTr o ini rt pc (.astore k) len = some ent) (h1 : axOne ro E ent L S h K Q) (hK : ∀ pc' L' S' h', K pc' L' S' h' → axWW p l e R s m args below meth c b rb ca D QQ nL n0 s0 pc' L' S' h') : axWW p l e R s m args below meth c b rb ca D QQ nL n0 s0 pc L S h := by
  obtain ⟨rfl, rfl⟩ := axI_ok ht
  obtain ⟨q, hq, hk⟩ := h1
  simp only [axStp] at hq
  split at hq
  · rename_i x S'
    split at hq
    · rename_i L' hp
      cases (Option.some.inj hq)
      intro g1 g2 H locs ls hI hL
      exact lv_astore F.1 F.2.1 hd hL.2 (by have := (axP_spec _ _ _ _ hp).2.1; rw [hL.1] at this; exact this) rfl (fun ls hl => hK _ _ _ _ hk g1 g2 H locs ls hI (axLr_put hp hL.1 hl))
    · cases hq
  · rename_i S'
    split at hq
    · rename_i L' hp
      cases (Option.some.inj hq)
      intro g1 g2 H locs ls hI hL
      exact lv_astoreN F.1 F.2.1 hd hL.2 (by have := (axP_spec _ _ _ _ hp).2.1; rw [hL.1] at this; exact this) rfl (fun ls hl => hK _ _ _ _ hk g1 g2 H locs ls hI (axLr_put hp hL.1 hl))
    · cases hq
  · cases hq
theorem sx_iinc (i : Nat) (n : Int) (F : axFx p s m args meth c b rb ca D ro cc nL o) (hd : decode cc pc = .ok (.iinc i n, len)) (ht : axTr o ini rt pc (.iinc i n) len = some ent) (h1 : axOne ro E ent L S h K Q) (hK : ∀ pc' L' S' h', K pc' L' S' h' → axWW p l e R s m args below meth c b rb ca D QQ nL n0 s0 pc' L' S' h') : axWW p l e R s m args below meth c b rb ca D QQ nL n0 s0 pc L S h := by
  obtain ⟨rfl, rfl⟩ := axI_ok ht
  obtain ⟨q, hq, hk⟩ := h1
  simp only [axStp] at hq
  split at hq
  · rename_i x hx
    split at hq
    · rename_i L' hp
      cases (Option.some.inj hq)
      intro g1 g2 H locs ls hI hL
      obtain ⟨k, hkk⟩ := List.getElem?_of_mem ((axEn_mem (b := b) (rb := rb) L 0 i _).mpr ⟨i, _, by omega, hx, rfl⟩)
      exact lv_iinc F.1 F.2.1 hd hL.2 (k := k) hkk rfl (by have := (axP_spec _ _ _ _ hp).2.1; rw [hL.1] at this; exact this) rfl (fun ls hl => hK _ _ _ _ hk g1 g2 H locs ls hI (axLr_put hp hL.1 hl))
    · cases hq
  · cases hq
theorem sx_dup (F : axFx p s m args meth c b rb ca D ro cc nL o) (hd : decode cc pc = .ok (.dup, len)) (ht : axTr o ini rt pc (.dup) len = some ent) (h1 : axOne ro E ent L S h K Q) (hK : ∀ pc' L' S' h', K pc' L' S' h' → axWW p l e R s m args below meth c b rb ca D QQ nL n0 s0 pc' L' S' h') : axWW p l e R s m args below meth c b rb ca D QQ nL n0 s0 pc L S h := by
  obtain ⟨rfl, rfl⟩ := axI_ok ht
  obtain ⟨q, hq, hk⟩ := h1
  simp only [axStp] at hq
  split at hq
  · cases (Option.some.inj hq)
    intro g1 g2 H locs ls hI hL
    exact lv_dup F.1 F.2.1 hd rfl (hK _ _ _ _ hk g1 g2 H locs ls hI hL)
  · cases (Option.some.inj hq)
    intro g1 g2 H locs ls hI hL
    exact lv_dup F.1 F.2.1 hd rfl (hK _ _ _ _ hk g1 g2 H locs ls hI hL)
  · cases hq
theorem sx_pop (F : axFx p s m args meth c b rb ca D ro cc nL o) (hd : decode cc pc = .ok (.pop, len)) (ht : axTr o ini rt pc (.pop) len = some ent) (h1 : axOne ro E ent L S h K Q) (hK : ∀ pc' L' S' h', K pc' L' S' h' → axWW p l e R s m args below meth c b rb ca D QQ nL n0 s0 pc' L' S' h') : axWW p l e R s m args below meth c b rb ca D QQ nL n0 s0 pc L S h := by
  obtain ⟨rfl, rfl⟩ := axI_ok ht
  obtain ⟨q, hq, hk⟩ := h1
  simp only [axStp] at hq
  split at hq
  · cases (Option.some.inj hq)
    intro g1 g2 H locs ls hI hL
    exact lv_pop F.1 F.2.1 hd rfl (hK _ _ _ _ hk g1 g2 H locs ls hI hL)
  · cases (Option.some.inj hq)
    intro g1 g2 H locs ls hI hL
    exact lv_pop F.1 F.2.1 hd rfl (hK _ _ _ _ hk g1 g2 H locs ls hI hL)
  · cases hq
theorem sx_dup2 (F : axFx p s m args meth c b rb ca D ro cc nL o) (hd : decode cc pc = .ok (.dup2, len)) (ht : axTr o ini rt pc (.dup2) len = some ent) (h1 : axOne ro E ent L S h K Q) (hK : ∀ pc' L' S' h', K pc' L' S' h' → axWW p l e R s m args below meth c b rb ca D QQ nL n0 s0 pc' L' S' h') : axWW p l e R s m args below meth c b rb ca D QQ nL n0 s0 pc L S h := by
  obtain ⟨rfl, rfl⟩ := axI_ok ht
  obtain ⟨q, hq, hk⟩ := h1
  simp only [axStp] at hq
  split at hq
  · cases (Option.some.inj hq)
    intro g1 g2 H locs ls hI hL
    exact lv_dup2_11 F.1 F.2.1 hd rfl rfl (hK _ _ _ _ hk g1 g2 H locs ls hI hL)
  · cases hq
theorem sx_iadd (F : axFx p s m args meth c b rb ca D ro cc nL o) (hd : decode cc pc = .ok (.iadd, len)) (ht : axTr o ini rt pc (.iadd) len = some ent) (h1 : axOne ro E ent L S h K Q) (hK : ∀ pc' L' S' h', K pc' L' S' h' → axWW p l e R s m args below meth c b rb ca D QQ nL n0 s0 pc' L' S' h') : axWW p l e R s m args below meth c b rb ca D QQ nL n0 s0 pc L S h := by
  obtain ⟨rfl, rfl⟩ := axI_ok ht
  obtain ⟨q, hq, hk⟩ := h1
  simp only [axStp] at hq
  split at hq
  · cases (Option.some.inj hq)
    intro g1 g2 H locs ls hI hL
    exact lv_iadd F.1 F.2.1 hd (hK _ _ _ _ hk g1 g2 H locs ls hI hL)
  · cases hq
theorem sx_isub (F : axFx p s m args meth c b rb ca D ro cc nL o) (hd : decode cc pc = .ok (.isub, len)) (ht : axTr o ini rt pc (.isub) len = some ent) (h1 : axOne ro E ent L S h K Q) (hK : ∀ pc' L' S' h', K pc' L' S' h' → axWW p l e R s m args below meth c b rb ca D QQ nL n0 s0 pc' L' S' h') : axWW p l e R s m args below meth c b rb ca D QQ nL n0 s0 pc L S h := by
  obtain ⟨rfl, rfl⟩ := axI_ok ht
  obtain ⟨q, hq, hk⟩ := h1
  simp only [axStp] at hq
  split at hq
  · cases (Option.some.inj hq)
    intro g1 g2 H locs ls hI hL
    exact lv_isub F.1 F.2.1 hd (hK _ _ _ _ hk g1 g2 H locs ls hI hL)
  · cases hq
theorem sx_imul (F : axFx p s m args meth c b rb ca D ro cc nL o) (hd : decode cc pc = .ok (.imul, len)) (ht : axTr o ini rt pc (.imul) len = some ent) (h1 : axOne ro E ent L S h K Q) (hK : ∀ pc' L' S' h', K pc' L' S' h' → axWW p l e R s m args below meth c b rb ca D QQ nL n0 s0 pc' L' S' h') : axWW p l e R s m args below meth c b rb ca D QQ nL n0 s0 pc L S h := by
  obtain ⟨rfl, rfl⟩ := axI_ok ht
  obtain ⟨q, hq, hk⟩ := h1
  simp only [axStp] at hq
  split at hq
  · cases (Option.some.inj hq)
    intro g1 g2 H locs ls hI hL
    exact lv_imul F.1 F.2.1 hd (hK _ _ _ _ hk g1 g2 H locs ls hI hL)
  · cases hq
theorem sx_iand (F : axFx p s m args meth c b rb ca D ro cc nL o) (hd : decode cc pc = .ok (.iand, len)) (ht : axTr o ini rt pc (.iand) len = some ent) (h1 : axOne ro E ent L S h K Q) (hK : ∀ pc' L' S' h', K pc' L' S' h' → axWW p l e R s m args below meth c b rb ca D QQ nL n0 s0 pc' L' S' h') : axWW p l e R s m args below meth c b rb ca D QQ nL n0 s0 pc L S h := by
  obtain ⟨rfl, rfl⟩ := axI_ok ht
  obtain ⟨q, hq, hk⟩ := h1
  simp only [axStp] at hq
  split at hq
  · cases (Option.some.inj hq)
    intro g1 g2 H locs ls hI hL
    exact lv_iand F.1 F.2.1 hd (hK _ _ _ _ hk g1 g2 H locs ls hI hL)
  · cases hq
theorem sx_ior (F : axFx p s m args meth c b rb ca D ro cc nL o) (hd : decode cc pc = .ok (.ior, len)) (ht : axTr o ini rt pc (.ior) len = some ent) (h1 : axOne ro E ent L S h K Q) (hK : ∀ pc' L' S' h', K pc' L' S' h' → axWW p l e R s m args below meth c b rb ca D QQ nL n0 s0 pc' L' S' h') : axWW p l e R s m args below meth c b rb ca D QQ nL n0 s0 pc L S h := by
  obtain ⟨rfl, rfl⟩ := axI_ok ht
  obtain ⟨q, hq, hk⟩ := h1
  simp only [axStp] at hq
  split at hq
  · cases (Option.some.inj hq)
    intro g1 g2 H locs ls hI hL
    exact lv_ior F.1 F.2.1 hd (hK _ _ _ _ hk g1 g2 H locs ls hI hL)
  · cases hq
theorem sx_ixor (F : axFx p s m args meth c b rb ca D ro cc nL o) (hd : decode cc pc = .ok (.ixor, len)) (ht : axTr o ini rt pc (.ixor) len = some ent) (h1 : axOne ro E ent L S h K Q) (hK : ∀ pc' L' S' h', K pc' L' S' h' → axWW p l e R s m args below meth c b rb ca D QQ nL n0 s0 pc' L' S' h') : axWW p l e R s m args below meth c b rb ca D QQ nL n0 s0 pc L S h := by
  obtain ⟨rfl, rfl⟩ := axI_ok ht
  obtain ⟨q, hq, hk⟩ := h1
  simp only [axStp] at hq
  split at hq
  · cases (Option.some.inj hq)
    intro g1 g2 H locs ls hI hL
    exact lv_ixor F.1 F.2.1 hd (hK _ _ _ _ hk g1 g2 H locs ls hI hL)
  · cases hq
theorem sx_ishl (F : axFx p s m args meth c b rb ca D ro cc nL o) (hd : decode cc pc = .ok (.ishl, len)) (ht : axTr o ini rt pc (.ishl) len = some ent) (h1 : axOne ro E ent L S h K Q) (hK : ∀ pc' L' S' h', K pc' L' S' h' → axWW p l e R s m args below meth c b rb ca D QQ nL n0 s0 pc' L' S' h') : axWW p l e R s m args below meth c b rb ca D QQ nL n0 s0 pc L S h := by
  obtain ⟨rfl, rfl⟩ := axI_ok ht
  obtain ⟨q, hq, hk⟩ := h1
  simp only [axStp] at hq
  split at hq
  · cases (Option.some.inj hq)
    intro g1 g2 H locs ls hI hL
    exact lv_ishl F.1 F.2.1 hd (hK _ _ _ _ hk g1 g2 H locs ls hI hL)
  · cases hq
theorem sx_ishr (F : axFx p s m args meth c b rb ca D ro cc nL o) (hd : decode cc pc = .ok (.ishr, len)) (ht : axTr o ini rt pc (.ishr) len = some ent) (h1 : axOne ro E ent L S h K Q) (hK : ∀ pc' L' S' h', K pc' L' S' h' → axWW p l e R s m args below meth c b rb ca D QQ nL n0 s0 pc' L' S' h') : axWW p l e R s m args below meth c b rb ca D QQ nL n0 s0 pc L S h := by
  obtain ⟨rfl, rfl⟩ := axI_ok ht
  obtain ⟨q, hq, hk⟩ := h1
  simp only [axStp] at hq
  split at hq
  · cases (Option.some.inj hq)
    intro g1 g2 H locs ls hI hL
    exact lv_ishr F.1 F.2.1 hd (hK _ _ _ _ hk g1 g2 H locs ls hI hL)
  · cases hq
theorem sx_iushr (F : axFx p s m args meth c b rb ca D ro cc nL o) (hd : decode cc pc = .ok (.iushr, len)) (ht : axTr o ini rt pc (.iushr) len = some ent) (h1 : axOne ro E ent L S h K Q) (hK : ∀ pc' L' S' h', K pc' L' S' h' → axWW p l e R s m args below meth c b rb ca D QQ nL n0 s0 pc' L' S' h') : axWW p l e R s m args below meth c b rb ca D QQ nL n0 s0 pc L S h := by
  obtain ⟨rfl, rfl⟩ := axI_ok ht
  obtain ⟨q, hq, hk⟩ := h1
  simp only [axStp] at hq
  split at hq
  · cases (Option.some.inj hq)
    intro g1 g2 H locs ls hI hL
    exact lv_iushr F.1 F.2.1 hd rfl (hK _ _ _ _ hk g1 g2 H locs ls hI hL)
  · cases hq
theorem sx_ineg (F : axFx p s m args meth c b rb ca D ro cc nL o) (hd : decode cc pc = .ok (.ineg, len)) (ht : axTr o ini rt pc (.ineg) len = some ent) (h1 : axOne ro E ent L S h K Q) (hK : ∀ pc' L' S' h', K pc' L' S' h' → axWW p l e R s m args below meth c b rb ca D QQ nL n0 s0 pc' L' S' h') : axWW p l e R s m args below meth c b rb ca D QQ nL n0 s0 pc L S h := by
  obtain ⟨rfl, rfl⟩ := axI_ok ht
  obtain ⟨q, hq, hk⟩ := h1
  simp only [axStp] at hq
  split at hq
  · cases (Option.some.inj hq)
    intro g1 g2 H locs ls hI hL
    exact lv_ineg F.1 F.2.1 hd (hK _ _ _ _ hk g1 g2 H locs ls hI hL)
  · cases hq
theorem sx_i2c (F : axFx p s m args meth c b rb ca D ro cc nL o) (hd : decode cc pc = .ok (.i2c, len)) (ht : axTr o ini rt pc (.i2c) len = some ent) (h1 : axOne ro E ent L S h K Q) (hK : ∀ pc' L' S' h', K pc' L' S' h' → axWW p l e R s m args below meth c b rb ca D QQ nL n0 s0 pc' L' S' h') : axWW p l e R s m args below meth c b rb ca D QQ nL n0 s0 pc L S h := by
  obtain ⟨rfl, rfl⟩ := axI_ok ht
  obtain ⟨q, hq, hk⟩ := h1
  simp only [axStp] at hq
  split at hq
  · cases (Option.some.inj hq)
    intro g1 g2 H locs ls hI hL
    exact lv_i2c F.1 F.2.1 hd rfl (hK _ _ _ _ hk g1 g2 H locs ls hI hL)
  · cases hq
theorem sx_i2l (F : axFx p s m args meth c b rb ca D ro cc nL o) (hd : decode cc pc = .ok (.i2l, len)) (ht : axTr o ini rt pc (.i2l) len = some ent) (h1 : axOne ro E ent L S h K Q) (hK : ∀ pc' L' S' h', K pc' L' S' h' → axWW p l e R s m args below meth c b rb ca D QQ nL n0 s0 pc' L' S' h') : axWW p l e R s m args below meth c b rb ca D QQ nL n0 s0 pc L S h := by
  obtain ⟨rfl, rfl⟩ := axI_ok ht
  obtain ⟨q, hq, hk⟩ := h1
  simp only [axStp] at hq
  split at hq
  · cases (Option.some.inj hq)
    intro g1 g2 H locs ls hI hL
    exact lv_i2l F.1 F.2.1 hd rfl (hK _ _ _ _ hk g1 g2 H locs ls hI hL)
  · cases hq
theorem sx_l2i (F : axFx p s m args meth c b rb ca D ro cc nL o) (hd : decode cc pc = .ok (.l2i, len)) (ht : axTr o ini rt pc (.l2i) len = some ent) (h1 : axOne ro E ent L S h K Q) (hK : ∀ pc' L' S' h', K pc' L' S' h' → axWW p l e R s m args below meth c b rb ca D QQ nL n0 s0 pc' L' S' h') : axWW p l e R s m args below meth c b rb ca D QQ nL n0 s0 pc L S h := by
  obtain ⟨rfl, rfl⟩ := axI_ok ht
  obtain ⟨q, hq, hk⟩ := h1
  simp only [axStp] at hq
  split at hq
  · cases (Option.some.inj hq)
    intro g1 g2 H locs ls hI hL
    exact lv_l2i F.1 F.2.1 hd rfl (hK _ _ _ _ hk g1 g2 H locs ls hI hL)
  · cases hq
theorem sx_land (F : axFx p s m args meth c b rb ca D ro cc nL o) (hd : decode cc pc = .ok (.land, len)) (ht : axTr o ini rt pc (.land) len = some ent) (h1 : axOne ro E ent L S h K Q) (hK : ∀ pc' L' S' h', K pc' L' S' h' → axWW p l e R s m args below meth c b rb ca D QQ nL n0 s0 pc' L' S' h') : axWW p l e R s m args below meth c b rb ca D QQ nL n0 s0 pc L S h := by
  obtain ⟨rfl, rfl⟩ := axI_ok ht
  obtain ⟨q, hq, hk⟩ := h1
  simp only [axStp] at hq
  split at hq
  · cases (Option.some.inj hq)
    intro g1 g2 H locs ls hI hL
    exact lv_land F.1 F.2.1 hd (hK _ _ _ _ hk g1 g2 H locs ls hI hL)
  · cases hq
theorem sx_lor (F : axFx p s m args meth c b rb ca D ro cc nL o) (hd : decode cc pc = .ok (.lor, len)) (ht : axTr o ini rt pc (.lor) len = some ent) (h1 : axOne ro E ent L S h K Q) (hK : ∀ pc' L' S' h', K pc' L' S' h' → axWW p l e R s m args below meth c b rb ca D QQ nL n0 s0 pc' L' S' h') : axWW p l e R s m args below meth c b rb ca D QQ nL n0 s0 pc L S h := by
  obtain ⟨rfl, rfl⟩ := axI_ok ht
  obtain ⟨q, hq, hk⟩ := h1
  simp only [axStp] at hq
  split at hq
  · cases (Option.some.inj hq)
    intro g1 g2 H locs ls hI hL
    exact lv_lor F.1 F.2.1 hd (hK _ _ _ _ hk g1 g2 H locs ls hI hL)
  · cases hq
theorem sx_lshl (F : axFx p s m args meth c b rb ca D ro cc nL o) (hd : decode cc pc = .ok (.lshl, len)) (ht : axTr o ini rt pc (.lshl) len = some ent) (h1 : axOne ro E ent L S h K Q) (hK : ∀ pc' L' S' h', K pc' L' S' h' → axWW p l e R s m args below meth c b rb ca D QQ nL n0 s0 pc' L' S' h') : axWW p l e R s m args below meth c b rb ca D QQ nL n0 s0 pc L S h := by
  obtain ⟨rfl, rfl⟩ := axI_ok ht
  obtain ⟨q, hq, hk⟩ := h1
  simp only [axStp] at hq
  split at hq
  · cases (Option.some.inj hq)
    intro g1 g2 H locs ls hI hL
    exact lv_lshl F.1 F.2.1 hd rfl (hK _ _ _ _ hk g1 g2 H locs ls hI hL)
  · cases hq
theorem sx_lshr (F : axFx p s m args meth c b rb ca D ro cc nL o) (hd : decode cc pc = .ok (.lshr, len)) (ht : axTr o ini rt pc (.lshr) len = some ent) (h1 : axOne ro E ent L S h K Q) (hK : ∀ pc' L' S' h', K pc' L' S' h' → axWW p l e R s m args below meth c b rb ca D QQ nL n0 s0 pc' L' S' h') : axWW p l e R s m args below meth c b rb ca D QQ nL n0 s0 pc L S h := by
  obtain ⟨rfl, rfl⟩ := axI_ok ht
  obtain ⟨q, hq, hk⟩ := h1
  simp only [axStp] at hq
  split at hq
  · cases (Option.some.inj hq)
    intro g1 g2 H locs ls hI hL
    exact lv_lshr F.1 F.2.1 hd rfl (hK _ _ _ _ hk g1 g2 H locs ls hI hL)
  · cases hq
theorem sx_lushr (F : axFx p s m args meth c b rb ca D ro cc nL o) (hd : decode cc pc = .ok (.lushr, len)) (ht : axTr o ini rt pc (.lushr) len = some ent) (h1 : axOne ro E ent L S h K Q) (hK : ∀ pc' L' S' h', K pc' L' S' h' → axWW p l e R s m args below meth c b rb ca D QQ nL n0 s0 pc' L' S' h') : axWW p l e R s m args below meth c b rb ca D QQ nL n0 s0 pc L S h := by
  obtain ⟨rfl, rfl⟩ := axI_ok ht
  obtain ⟨q, hq, hk⟩ := h1
  simp only [axStp] at hq
  split at hq
  · cases (Option.some.inj hq)
    intro g1 g2 H locs ls hI hL
    exact lv_lushr F.1 F.2.1 hd rfl (hK _ _ _ _ hk g1 g2 H locs ls hI hL)
  · cases hq
theorem sx_lcmp (F : axFx p s m args meth c b rb ca D ro cc nL o) (hd : decode cc pc = .ok (.lcmp, len)) (ht : axTr o ini rt pc (.lcmp) len = some ent) (h1 : axOne ro E ent L S h K Q) (hK : ∀ pc' L' S' h', K pc' L' S' h' → axWW p l e R s m args below meth c b rb ca D QQ nL n0 s0 pc' L' S' h') : axWW p l e R s m args below meth c b rb ca D QQ nL n0 s0 pc L S h := by
  obtain ⟨rfl, rfl⟩ := axI_ok ht
  obtain ⟨q, hq, hk⟩ := h1
  simp only [axStp] at hq
  split at hq
  · cases (Option.some.inj hq)
    intro g1 g2 H locs ls hI hL
    exact W.lcmp F.1 F.2.1 hd (hK _ _ _ _ hk g1 g2 H locs ls hI hL)
  · cases hq
theorem sx_lstore_n (k : Fin 4) (F : axFx p s m args meth c b rb ca D ro cc nL o) (hd : decode cc pc = .ok (.lstore_n k, len)) (ht : axTr o ini rt pc (.lstore_n k) len = some ent) (h1 : axOne ro E ent L S h K Q) (hK : ∀ pc' L' S' h', K pc' L' S' h' → axWW p l e R s m args below meth c b rb ca D QQ nL n0 s0 pc' L' S' h') : axWW p l e R s m args below meth c b rb ca D QQ nL n0 s0 pc L S h := by
  obtain ⟨rfl, rfl⟩ := axI_ok ht
  obtain ⟨q, hq, hk⟩ := h1
  simp only [axStp] at hq
  split at hq
  · rename_i x S'
    split at hq
    · rename_i L' hp
      split at hq
      · rename_i L'' hp2
        cases (Option.some.inj hq)
        intro g1 g2 H locs ls hI hL
        exact lv_lstore_n F.1 F.2.1 hd rfl hL.2 (by have := (axN_spec _ _ _ hp2).2.1; rw [(axP_spec _ _ _ _ hp).1, hL.1] at this; exact this) rfl (fun ls hl => hK _ _ _ _ hk g1 g2 H locs ls hI (axLr_put2 hp hp2 hL.1 hl))
      · cases hq
    · cases hq
  · cases hq
theorem sx_lstore (k : Nat) (F : axFx p s m args meth c b rb ca D ro cc nL o) (hd : decode cc pc = .ok (.lstore k, len)) (ht : axTr o ini rt pc (.lstore k) len = some ent) (h1 : axOne ro E ent L S h K Q) (hK : ∀ pc' L' S' h', K pc' L' S' h' → axWW p l e R s m args below meth c b rb ca D QQ nL n0 s0 pc' L' S' h') : axWW p l e R s m args below meth c b rb ca D QQ nL n0 s0 pc L S h := by
  obtain ⟨rfl, rfl⟩ := axI_ok ht
  obtain ⟨q, hq, hk⟩ := h1
  simp only [axStp] at hq
  split at hq
  · rename_i x S'
    split at hq
    · rename_i L' hp
      split at hq
      · rename_i L'' hp2
        cases (Option.some.inj hq)
        intro g1 g2 H locs ls hI hL
        exact lv_lstore F.1 F.2.1 hd hL.2 (by have := (axN_spec _ _ _ hp2).2.1; rw [(axP_spec _ _ _ _ hp).1, hL.1] at this; exact this) rfl (fun ls hl => hK _ _ _ _ hk g1 g2 H locs ls hI (axLr_put2 hp hp2 hL.1 hl))
      · cases hq
    · cases hq
  · cases hq
theorem sx_ladd (F : axFx p s m args meth c b rb ca D ro cc nL o) (hd : decode cc pc = .ok (.ladd, len)) (ht : axTr o ini rt pc (.ladd) len = some ent) (h1 : axOne ro E ent L S h K Q) (hK : ∀ pc' L' S' h', K pc' L' S' h' → axWW p l e R s m args below meth c b rb ca D QQ nL n0 s0 pc' L' S' h') : axWW p l e R s m args below meth c b rb ca D QQ nL n0 s0 pc L S h := by
  obtain ⟨rfl, rfl⟩ := axI_ok ht
  obtain ⟨q, hq, hk⟩ := h1
  simp only [axStp] at hq
  split at hq
  · cases (Option.some.inj hq)
    intro g1 g2 H locs ls hI hL
    exact lv_ladd F.1 F.2.1 hd (hK _ _ _ _ hk g1 g2 H locs ls hI hL)
  · cases hq
theorem sx_lmul (F : axFx p s m args meth c b rb ca D ro cc nL o) (hd : decode cc pc = .ok (.lmul, len)) (ht : axTr o ini rt pc (.lmul) len = some ent) (h1 : axOne ro E ent L S h K Q) (hK : ∀ pc' L' S' h', K pc' L' S' h' → axWW p l e R s m args below meth c b rb ca D QQ nL n0 s0 pc' L' S' h') : axWW p l e R s m args below meth c b rb ca D QQ nL n0 s0 pc L S h := by
  obtain ⟨rfl, rfl⟩ := axI_ok ht
  obtain ⟨q, hq, hk⟩ := h1
  simp only [axStp] at hq
  split at hq
  · cases (Option.some.inj hq)
    intro g1 g2 H locs ls hI hL
    exact lv_lmul F.1 F.2.1 hd (hK _ _ _ _ hk g1 g2 H locs ls hI hL)
  · cases hq
theorem sx_ldc (i : Nat) (F : axFx p s m args meth c b rb ca D ro cc nL o) (hd : decode cc pc = .ok (.ldc i, len)) (ht : axTr o ini rt pc (.ldc i) len = some ent) (h1 : axOne ro E ent L S h K Q) (hK : ∀ pc' L' S' h', K pc' L' S' h' → axWW p l e R s m args below meth c b rb ca D QQ nL n0 s0 pc' L' S' h') : axWW p l e R s m args below meth c b rb ca D QQ nL n0 s0 pc L S h := by
  rcases hq0 : axFnd o i axCsT with _ | ⟨v, w⟩
  · simp only [axTr, hq0] at ht
    cases ht
  · simp only [axTr, hq0] at ht
    obtain ⟨rfl, rfl⟩ := axI_ok ht
    obtain ⟨q, hq, hk⟩ := h1
    cases (Option.some.inj hq)
    intro g1 g2 H locs ls hI hL
    exact lv_ldc F.1 F.2.1 F.2.2.2.1 (F.2.2.2.2.1 _ (axTW_mem (axCsT_ok _ (axFnd_mem _ hq0)) rfl)) hd (hK _ _ _ _ hk g1 g2 H locs ls hI hL)
theorem sx_goto (off : Int) (F : axFx p s m args meth c b rb ca D ro cc nL o) (hd : decode cc pc = .ok (.goto off, len)) (ht : axTr o ini rt pc (.goto off) len = some ent) (h1 : axOne ro E ent L S h K Q) (hK : ∀ pc' L' S' h', K pc' L' S' h' → axWW p l e R s m args below meth c b rb ca D QQ nL n0 s0 pc' L' S' h') : axWW p l e R s m args below meth c b rb ca D QQ nL n0 s0 pc L S h := by
  simp only [axTr] at ht
  obtain ⟨rfl, et, rfl⟩ := axTg_ok ht
  obtain ⟨q, hq, hk⟩ := h1
  cases (Option.some.inj hq)
  intro g1 g2 H locs ls hI hL
  exact lv_goto F.1 F.2.1 hd et (hK _ _ _ _ hk g1 g2 H locs ls hI hL)
theorem sx_if_icmp (cd : ClassFile.Cond) (off : Int) (F : axFx p s m args meth c b rb ca D ro cc nL o) (hd : decode cc pc = .ok (.if_icmp cd off, len)) (ht : axTr o ini rt pc (.if_icmp cd off) len = some ent) (h1 : axOne ro E ent L S h K Q) (hK : ∀ pc' L' S' h', K pc' L' S' h' → axWW p l e R s m args below meth c b rb ca D QQ nL n0 s0 pc' L' S' h') : axWW p l e R s m args below meth c b rb ca D QQ nL n0 s0 pc L S h := by
  simp only [axTr] at ht
  obtain ⟨rfl, et, rfl⟩ := axTg_ok ht
  obtain ⟨x, y, S', rfl, h2, h3⟩ := h1
  intro g1 g2 H locs ls hI hL
  cases cd
  · exact lv_icmp_eq F.1 F.2.1 hd et (fun q => hK _ _ _ _ (h2 q) g1 g2 H locs ls hI hL) (fun q => hK _ _ _ _ (h3 q) g1 g2 H locs ls hI hL)
  · exact lv_icmp_ne F.1 F.2.1 hd et (fun q => hK _ _ _ _ (h2 q) g1 g2 H locs ls hI hL) (fun q => hK _ _ _ _ (h3 (fun z => z q)) g1 g2 H locs ls hI hL)
  · exact lv_icmp_lt F.1 F.2.1 hd et (fun q => hK _ _ _ _ (h2 q) g1 g2 H locs ls hI hL) (fun q => hK _ _ _ _ (h3 q) g1 g2 H locs ls hI hL)
  · exact lv_icmp_ge F.1 F.2.1 hd et (fun q => hK _ _ _ _ (h2 q) g1 g2 H locs ls hI hL) (fun q => hK _ _ _ _ (h3 q) g1 g2 H locs ls hI hL)
  · exact lv_icmp_gt F.1 F.2.1 hd et (fun q => hK _ _ _ _ (h2 q) g1 g2 H locs ls hI hL) (fun q => hK _ _ _ _ (h3 q) g1 g2 H locs ls hI hL)
  · exact lv_icmp_le F.1 F.2.1 hd et (fun q => hK _ _ _ _ (h2 q) g1 g2 H locs ls hI hL) (fun q => hK _ _ _ _ (h3 q) g1 g2 H locs ls hI hL)
theorem sx_ifCond (cd : ClassFile.Cond) (off : Int) (F : axFx p s m args meth c b rb ca D ro cc nL o) (hd : decode cc pc = .ok (.ifCond cd off, len)) (ht : axTr o ini rt pc (.ifCond cd off) len = some ent) (h1 : axOne ro E ent L S h K Q) (hK : ∀ pc' L' S' h', K pc' L' S' h' → axWW p l e R s m args below meth c b rb ca D QQ nL n0 s0 pc' L' S' h') : axWW p l e R s m args below meth c b rb ca D QQ nL n0 s0 pc L S h := by
  simp only [axTr] at ht
  obtain ⟨rfl, et, rfl⟩ := axTg_ok ht
  obtain ⟨x, S', rfl, h2, h3⟩ := h1
  intro g1 g2 H locs ls hI hL
  cases cd
  · exact lv_if_eq F.1 F.2.1 hd et (fun q => hK _ _ _ _ (h2 q) g1 g2 H locs ls hI hL) (fun q => hK _ _ _ _ (h3 q) g1 g2 H locs ls hI hL)
  · exact lv_if_ne F.1 F.2.1 hd et (fun q => hK _ _ _ _ (h2 q) g1 g2 H locs ls hI hL) (fun q => hK _ _ _ _ (h3 (fun z => z q)) g1 g2 H locs ls hI hL)
  · exact lv_if_lt F.1 F.2.1 hd et (fun q => hK _ _ _ _ (h2 q) g1 g2 H locs ls hI hL) (fun q => hK _ _ _ _ (h3 q) g1 g2 H locs ls hI hL)
  · exact lv_if_ge F.1 F.2.1 hd et (fun q => hK _ _ _ _ (h2 q) g1 g2 H locs ls hI hL) (fun q => hK _ _ _ _ (h3 q) g1 g2 H locs ls hI hL)
  · exact lv_if_gt F.1 F.2.1 hd et (fun q => hK _ _ _ _ (h2 q) g1 g2 H locs ls hI hL) (fun q => hK _ _ _ _ (h3 q) g1 g2 H locs ls hI hL)
  · exact lv_if_le F.1 F.2.1 hd et (fun q => hK _ _ _ _ (h2 q) g1 g2 H locs ls hI hL) (fun q => hK _ _ _ _ (h3 q) g1 g2 H locs ls hI hL)
theorem sx_ifnonnull (off : Int) (F : axFx p s m args meth c b rb ca D ro cc nL o) (hd : decode cc pc = .ok (.ifnonnull off, len)) (ht : axTr o ini rt pc (.ifnonnull off) len = some ent) (h1 : axOne ro E ent L S h K Q) (hK : ∀ pc' L' S' h', K pc' L' S' h' → axWW p l e R s m args below meth c b rb ca D QQ nL n0 s0 pc' L' S' h') : axWW p l e R s m args below meth c b rb ca D QQ nL n0 s0 pc L S h := by
  simp only [axTr] at ht
  obtain ⟨rfl, et, rfl⟩ := axTg_ok ht
  rcases h1 with ⟨k, S', rfl, hk⟩ | ⟨S', rfl, hk⟩
  · intro g1 g2 H locs ls hI hL
    exact lv_ifnonnull F.1 F.2.1 hd et (hK _ _ _ _ hk g1 g2 H locs ls hI hL)
  · intro g1 g2 H locs ls hI hL
    exact lv_ifnonnullN F.1 F.2.1 hd (hK _ _ _ _ hk g1 g2 H locs ls hI hL)
end AX7
