/-! SOUNDNESS 4: the whole body, and the contracts by the depth of the calls. Written by wip/whole/mk10.py. -/
section AX10
variable {p : Program} {l : Launch} {e : Env} {R : Room} {s : State} {m : MethodId} {args : Array Value} {below : List Frame} {meth : Method} {c : Code} {b : Nat} {rb : Nat → Nat} {ca : Nat → ClassId} {D : va_G} {ro : axRo} {QQ : State → Prop} {cc : ByteArray} {nL n0 s0 o : Nat} {pc : Nat} {L : axL} {S : List Value} {h : axH} {K : Nat → axL → List Value → axH → Prop} {Q : Option Value → axH → Prop} {E : axCall} {ent : axE} {ini : Bool} {rt len dd : Nat} {cd : List axE}

theorem sx_all (F : axFx p s m args meth c b rb ca D ro cc nL o) (hn : s.heap.size = b + n0) (hini : ini = true → meth.name = "<init>") (hE : axHE E l dd b rb ca D ro) (hR : dd + 1 ≤ R.frames ∧ 36 * (dd + 1) ≤ R.locals)
    (hri : ∀ (pc : Nat) (H : Heap) (locs : List Loc) (h : axH) (ls : Array Slot) (x : Int32), (∃ q ∈ cd, q.2.1 = 49) → decode cc pc = .ok (.ireturn, 1) → narrow (axEt rt) (.int x) = .int x → Q (some (.int x)) h → n0 ≤ h.length → s0 ≤ axSl h → axInv b rb ca D s h H locs → W p l e R s m args below meth c H locs (h.length - n0) (axSl h - s0) QQ (F0 m pc ls [.int x]))
    (hrv : ∀ (pc : Nat) (H : Heap) (locs : List Loc) (h : axH) (ls : Array Slot), (∃ q ∈ cd, q.2.1 = 50) → decode cc pc = .ok (.return_, 1) → Q none h → n0 ≤ h.length → s0 ≤ axSl h → axInv b rb ca D s h H locs → W p l e R s m args below meth c H locs (h.length - n0) (axSl h - s0) QQ (F0 m pc ls []))
    (hra : ∀ (pc : Nat) (H : Heap) (locs : List Loc) (h : axH) (ls : Array Slot) (k : Nat), (∃ q ∈ cd, q.2.1 = 51) → decode cc pc = .ok (.areturn, 1) → Q (some (.ref k)) h → n0 ≤ h.length → s0 ≤ axSl h → axInv b rb ca D s h H locs → W p l e R s m args below meth c H locs (h.length - n0) (axSl h - s0) QQ (F0 m pc ls [.ref (b + k)]))
    (hrl : ∀ (pc : Nat) (H : Heap) (locs : List Loc) (h : axH) (ls : Array Slot) (x : Int64), (∃ q ∈ cd, q.2.1 = 62) → decode cc pc = .ok (.lreturn, 1) → Q (some (.long x)) h → n0 ≤ h.length → s0 ≤ axSl h → axInv b rb ca D s h H locs → W p l e R s m args below meth c H locs (h.length - n0) (axSl h - s0) QQ (F0 m pc ls [.long x]))
    (hcap : ∀ pc' L' S' h', K pc' L' S' h' → h'.length - n0 ≤ R.cells ∧ axSl h' - s0 ≤ R.slots) (hmem : ent ∈ cd) (ins : Instr) (hd : decode cc pc = .ok (ins, len)) (ht : axTr o ini rt pc ins len = some ent) (h1 : axOne ro E ent L S h K Q) (hK : ∀ pc' L' S' h', K pc' L' S' h' → axWW p l e R s m args below meth c b rb ca D QQ nL n0 s0 pc' L' S' h') : axWW p l e R s m args below meth c b rb ca D QQ nL n0 s0 pc L S h := by
  have hR1 : 1 ≤ R.frames ∧ 36 ≤ R.locals := ⟨by omega, by omega⟩
  cases ins with
  | iconst n => exact sx_iconst n F hd ht h1 hK
  | bipush n => exact sx_bipush n F hd ht h1 hK
  | sipush n => exact sx_sipush n F hd ht h1 hK
  | lconst n => exact sx_lconst n F hd ht h1 hK
  | ldc_w i => exact sx_ldc_w i F hd ht h1 hK
  | ldc2_w i => exact sx_ldc2_w i F hd ht h1 hK
  | iload_n k => exact sx_iload_n k F hd ht h1 hK
  | iload k => exact sx_iload k F hd ht h1 hK
  | lload_n k => exact sx_lload_n k F hd ht h1 hK
  | lload k => exact sx_lload k F hd ht h1 hK
  | aload_n k => exact sx_aload_n k F hd ht h1 hK
  | aload k => exact sx_aload k F hd ht h1 hK
  | istore_n k => exact sx_istore_n k F hd ht h1 hK
  | istore k => exact sx_istore k F hd ht h1 hK
  | astore_n k => exact sx_astore_n k F hd ht h1 hK
  | astore k => exact sx_astore k F hd ht h1 hK
  | iinc i n => exact sx_iinc i n F hd ht h1 hK
  | dup => exact sx_dup  F hd ht h1 hK
  | pop => exact sx_pop  F hd ht h1 hK
  | dup2 => exact sx_dup2  F hd ht h1 hK
  | iadd => exact sx_iadd  F hd ht h1 hK
  | isub => exact sx_isub  F hd ht h1 hK
  | imul => exact sx_imul  F hd ht h1 hK
  | iand => exact sx_iand  F hd ht h1 hK
  | ior => exact sx_ior  F hd ht h1 hK
  | ixor => exact sx_ixor  F hd ht h1 hK
  | ishl => exact sx_ishl  F hd ht h1 hK
  | ishr => exact sx_ishr  F hd ht h1 hK
  | iushr => exact sx_iushr  F hd ht h1 hK
  | ineg => exact sx_ineg  F hd ht h1 hK
  | i2c => exact sx_i2c  F hd ht h1 hK
  | i2l => exact sx_i2l  F hd ht h1 hK
  | l2i => exact sx_l2i  F hd ht h1 hK
  | land => exact sx_land  F hd ht h1 hK
  | lor => exact sx_lor  F hd ht h1 hK
  | lshl => exact sx_lshl  F hd ht h1 hK
  | lshr => exact sx_lshr  F hd ht h1 hK
  | lushr => exact sx_lushr  F hd ht h1 hK
  | lcmp => exact sx_lcmp  F hd ht h1 hK
  | lstore_n k => exact sx_lstore_n k F hd ht h1 hK
  | lstore k => exact sx_lstore k F hd ht h1 hK
  | ladd => exact sx_ladd F hd ht h1 hK
  | lmul => exact sx_lmul F hd ht h1 hK
  | ldc i => exact sx_ldc i F hd ht h1 hK
  | goto off => exact sx_goto off F hd ht h1 hK
  | if_icmp cd off => exact sx_if_icmp cd off F hd ht h1 hK
  | ifCond cd off => exact sx_ifCond cd off F hd ht h1 hK
  | ifnonnull off => exact sx_ifnonnull off F hd ht h1 hK
  | getfield i => exact sx_getfield i F hn hini hR1 hcap hd ht h1 hK
  | putfield i => exact sx_putfield i F hn hini hR1 hcap hd ht h1 hK
  | getstatic i => exact sx_getstatic i F hn hini hR1 hcap hd ht h1 hK
  | arraylength => exact sx_arraylength  F hn hini hR1 hcap hd ht h1 hK
  | iaload => exact sx_iaload  F hn hini hR1 hcap hd ht h1 hK
  | caload => exact sx_caload  F hn hini hR1 hcap hd ht h1 hK
  | aaload => exact sx_aaload  F hn hini hR1 hcap hd ht h1 hK
  | iastore => exact sx_iastore  F hn hini hR1 hcap hd ht h1 hK
  | castore => exact sx_castore  F hn hini hR1 hcap hd ht h1 hK
  | aastore => exact sx_aastore  F hn hini hR1 hcap hd ht h1 hK
  | newarray t => exact sx_newarray t F hn hini hR1 hcap hd ht h1 hK
  | anewarray i => exact sx_anewarray i F hn hini hR1 hcap hd ht h1 hK
  | new i => exact sx_new i F hn hini hR1 hcap hd ht h1 hK
  | idiv => exact sx_idiv  F hn hini hR1 hcap hd ht h1 hK
  | irem => exact sx_irem  F hn hini hR1 hcap hd ht h1 hK
  | tableswitch d lo hi offs => exact sx_tableswitch d lo hi offs F hn hE hR hcap hd ht h1 hK
  | lookupswitch d ps => exact sx_lookupswitch d ps F hn hE hR hcap hd ht h1 hK
  | invokevirtual i => exact sx_invokevirtual i F hn hE hR hcap hd ht h1 hK
  | invokestatic i => exact sx_invokestatic i F hn hE hR hcap hd ht h1 hK
  | invokespecial i => exact sx_invokespecial i F hn hE hR hcap hd ht h1 hK
  | ireturn =>
    obtain ⟨rfl, rfl⟩ := axI_ok ht
    obtain ⟨x, rfl, hnar, hq⟩ := h1
    exact fun g1 g2 H locs ls hI hL => hri pc H locs h ls x ⟨_, hmem, rfl⟩ hd hnar hq g1 g2 hI
  | return_ =>
    obtain ⟨rfl, rfl⟩ := axI_ok ht
    obtain ⟨rfl, hq⟩ := h1
    exact fun g1 g2 H locs ls hI hL => hrv pc H locs h ls ⟨_, hmem, rfl⟩ hd hq g1 g2 hI
  | areturn =>
    obtain ⟨rfl, rfl⟩ := axI_ok ht
    obtain ⟨k, rfl, hq⟩ := h1
    exact fun g1 g2 H locs ls hI hL => hra pc H locs h ls k ⟨_, hmem, rfl⟩ hd hq g1 g2 hI
  | lreturn =>
    obtain ⟨rfl, rfl⟩ := axI_ok ht
    obtain ⟨x, rfl, hq⟩ := h1
    exact fun g1 g2 H locs ls hI hL => hrl pc H locs h ls x ⟨_, hmem, rfl⟩ hd hq g1 g2 hI
  | _ => cases ht
theorem axOne_up (hE : ∀ z vs h r h1, E z vs h r h1 → h.length ≤ h1.length ∧ axSl h ≤ axSl h1) (h1 : axOne ro E ent L S h K Q) : (∃ r, Q r h) ∨ ∃ pc' L' S' h', K pc' L' S' h' ∧ h.length ≤ h'.length ∧ axSl h ≤ axSl h' := by
  obtain ⟨pc, op, a, b, c, tb, nx⟩ := ent
  have same : ∀ {pc' L' S'}, K pc' L' S' h → (∃ r, Q r h) ∨ ∃ pc' L' S' h', K pc' L' S' h' ∧ h.length ≤ h'.length ∧ axSl h ≤ axSl h' := fun hk => Or.inr ⟨_, _, _, _, hk, Nat.le_refl _, Nat.le_refl _⟩
  have setc : ∀ {pc' L' S' k x d}, h[k]? = some d → axCs x = axCs d → K pc' L' S' (h.set k x) → (∃ r, Q r h) ∨ ∃ pc' L' S' h', K pc' L' S' h' ∧ h.length ≤ h'.length ∧ axSl h ≤ axSl h' := fun hc hs hk => Or.inr ⟨_, _, _, _, hk, by rw [List.length_set]; exact Nat.le_refl _, by rw [axSl_set _ _ _ _ hc hs]; exact Nat.le_refl _⟩
  have app : ∀ {pc' L' S' x}, K pc' L' S' (h ++ [x]) → (∃ r, Q r h) ∨ ∃ pc' L' S' h', K pc' L' S' h' ∧ h.length ≤ h'.length ∧ axSl h ≤ axSl h' := fun hk => Or.inr ⟨_, _, _, _, hk, by simp, by rw [axSl_app]; omega⟩
  have call : ∀ {pc' L' S' z vs r h2}, E z vs h r h2 → K pc' L' S' h2 → (∃ r, Q r h) ∨ ∃ pc' L' S' h', K pc' L' S' h' ∧ h.length ≤ h'.length ∧ axSl h ≤ axSl h' := fun he hk => Or.inr ⟨_, _, _, _, hk, (hE _ _ _ _ _ he).1, (hE _ _ _ _ _ he).2⟩
  dsimp only [axOne] at h1
  split at h1
  · obtain ⟨x, y, S', rfl, h2, h3⟩ := h1
    by_cases q : axCnd b x y
    · exact same (h2 q)
    · exact same (h3 q)
  · obtain ⟨x, S', rfl, h2, h3⟩ := h1
    by_cases q : axCnd b x 0
    · exact same (h2 q)
    · exact same (h3 q)
  · rcases h1 with ⟨k, S', rfl, hk⟩ | ⟨S', rfl, hk⟩
    · exact same hk
    · exact same hk
  · obtain ⟨x, S', rfl, hk⟩ := h1
    exact same hk
  · obtain ⟨k, S', fs, v, rfl, hc, hv, hk⟩ := h1
    exact same hk
  · obtain ⟨v, k, S', fs, rfl, hc, hlt, hf, hk⟩ := h1
    exact setc hc (by simp [axCs]) hk
  · exact same h1
  · rcases h1 with ⟨k, S', ki, n, f, rfl, hc, hki, hk⟩ | ⟨k, S', n, f, rfl, hc, hk⟩ | ⟨i, S', rfl, hi, hk⟩
    · exact same hk
    · exact same hk
    · exact same hk
  · rcases h1 with ⟨k, i, S', n, f, rfl, hc, hin, hk⟩ | ⟨hb, j, i, S', rfl, hj, hin, hk⟩
    · exact same hk
    · exact same hk
  · obtain ⟨k, i, S', n, f, rfl, hc, hin, hk⟩ := h1
    exact same hk
  · obtain ⟨x, i, k, S', n, f, rfl, hc, hin, hnar, hk⟩ := h1
    exact setc hc (by rfl) hk
  · obtain ⟨v, i, k, S', n, f, fs, rfl, hc, hv, hin, hk⟩ := h1
    exact setc hc (by rfl) hk
  · obtain ⟨x, S', rfl, h0, hN, hk⟩ := h1
    exact app hk
  · obtain ⟨x, S', rfl, h0, hN, hk⟩ := h1
    exact app hk
  · exact app h1
  · obtain ⟨x, y, S', rfl, hy, hk⟩ := h1
    exact same hk
  · obtain ⟨x, y, S', rfl, hy, hk⟩ := h1
    exact same hk
  · obtain ⟨x, rfl, hnar, hq⟩ := h1
    exact Or.inl ⟨_, hq⟩
  · exact Or.inl ⟨_, h1.2⟩
  · obtain ⟨k, rfl, hq⟩ := h1
    exact Or.inl ⟨_, hq⟩
  · obtain ⟨ci, As, k0, rest, fs, r, h2, ea, rfl, hAs, hsum, hc, hEv, hk⟩ := h1
    exact call hEv hk
  · obtain ⟨As, rest, r, h2, rfl, hAs, hsum, hEv, hk⟩ := h1
    exact call hEv hk
  · obtain ⟨As, k0, rest, r, h2, rfl, hAs, hsum, hEv, hk⟩ := h1
    exact call hEv hk
  · obtain ⟨k, rest, rfl, hsum, hk⟩ := h1
    exact same hk
  · obtain ⟨n, dp, k1, sp, k0, rest, n0, n1, f, g, rfl, hc0, hc1, q1, q2, q3, q4, q5, hsum, hk⟩ := h1
    exact setc hc1 (by rfl) hk
  · obtain ⟨x, y, S', rfl, hsum, hk⟩ := h1
    exact same hk
  · obtain ⟨x, y, S', rfl, hsum, hk⟩ := h1
    exact same hk
  · obtain ⟨x, S', rfl, hsum, hk⟩ := h1
    exact same hk
  · obtain ⟨v, k, S', fs, rfl, hc, hlt, hf, hk⟩ := h1
    exact setc hc (by simp [axCs]) hk
  · obtain ⟨x, rfl, hq⟩ := h1
    exact Or.inl ⟨_, hq⟩
  · obtain ⟨q, hq, hk⟩ := h1
    exact same hk
theorem axWn_up (hE : ∀ z vs h r h1, E z vs h r h1 → h.length ≤ h1.length ∧ axSl h ≤ axSl h1) : ∀ (n pc : Nat) (L : axL) (S : List Value) (h : axH), axWn ro E cd n pc L S h Q → ∃ r h', Q r h' ∧ h.length ≤ h'.length ∧ axSl h ≤ axSl h'
  | 0, _, _, _, _, h1 => h1.elim
  | n + 1, pc, L, S, h, h1 => by
    obtain ⟨ent, he, h1⟩ := h1
    rcases axOne_up hE h1 with ⟨r, hq⟩ | ⟨pc', L', S', h', hk, a1, a2⟩
    · exact ⟨r, h, hq, Nat.le_refl _, Nat.le_refl _⟩
    · obtain ⟨r, h2, hq, b1, b2⟩ := axWn_up hE n pc' L' S' h' hk
      exact ⟨r, h2, hq, Nat.le_trans a1 b1, Nat.le_trans a2 b2⟩
theorem axF_spec : ∀ (cd : List axE) (pc : Nat) {ent : axE}, axF cd pc = some ent → ent ∈ cd ∧ ent.1 = pc
  | [], pc, ent, h => by cases h
  | a :: r, pc, ent, h => by
    unfold axF at h
    cases hq : Nat.beq a.1 pc with
    | true =>
      rw [hq] at h
      have h := Option.some.inj h
      subst h
      exact ⟨List.mem_cons_self, Nat.eq_of_beq_eq_true hq⟩
    | false =>
      rw [hq] at h
      have z := axF_spec r pc h
      exact ⟨List.mem_cons_of_mem _ z.1, z.2⟩
theorem axWn_sound (F : axFx p s m args meth c b rb ca D ro cc nL o) (hn : s.heap.size = b + n0) (hini : ini = true → meth.name = "<init>") (hE : axHE E l dd b rb ca D ro) (hR : dd + 1 ≤ R.frames ∧ 36 * (dd + 1) ≤ R.locals)
    (hri : ∀ (pc : Nat) (H : Heap) (locs : List Loc) (h : axH) (ls : Array Slot) (x : Int32), (∃ q ∈ cd, q.2.1 = 49) → decode cc pc = .ok (.ireturn, 1) → narrow (axEt rt) (.int x) = .int x → Q (some (.int x)) h → n0 ≤ h.length → s0 ≤ axSl h → axInv b rb ca D s h H locs → W p l e R s m args below meth c H locs (h.length - n0) (axSl h - s0) QQ (F0 m pc ls [.int x]))
    (hrv : ∀ (pc : Nat) (H : Heap) (locs : List Loc) (h : axH) (ls : Array Slot), (∃ q ∈ cd, q.2.1 = 50) → decode cc pc = .ok (.return_, 1) → Q none h → n0 ≤ h.length → s0 ≤ axSl h → axInv b rb ca D s h H locs → W p l e R s m args below meth c H locs (h.length - n0) (axSl h - s0) QQ (F0 m pc ls []))
    (hra : ∀ (pc : Nat) (H : Heap) (locs : List Loc) (h : axH) (ls : Array Slot) (k : Nat), (∃ q ∈ cd, q.2.1 = 51) → decode cc pc = .ok (.areturn, 1) → Q (some (.ref k)) h → n0 ≤ h.length → s0 ≤ axSl h → axInv b rb ca D s h H locs → W p l e R s m args below meth c H locs (h.length - n0) (axSl h - s0) QQ (F0 m pc ls [.ref (b + k)]))
    (hrl : ∀ (pc : Nat) (H : Heap) (locs : List Loc) (h : axH) (ls : Array Slot) (x : Int64), (∃ q ∈ cd, q.2.1 = 62) → decode cc pc = .ok (.lreturn, 1) → Q (some (.long x)) h → n0 ≤ h.length → s0 ≤ axSl h → axInv b rb ca D s h H locs → W p l e R s m args below meth c H locs (h.length - n0) (axSl h - s0) QQ (F0 m pc ls [.long x]))
    (hQ : ∀ r h', Q r h' → h'.length - n0 ≤ R.cells ∧ axSl h' - s0 ≤ R.slots) (hck : axCk o ini rt cc cd = true) : ∀ (n pc : Nat) (L : axL) (S : List Value) (h : axH), axWn ro E cd n pc L S h Q → axWW p l e R s m args below meth c b rb ca D QQ nL n0 s0 pc L S h
  | 0, _, _, _, _, h1 => h1.elim
  | n + 1, pc, L, S, h, h1 => by
    obtain ⟨ent, he, h1⟩ := h1
    obtain ⟨hmem, hpc⟩ := axF_spec cd pc he
    have hz := List.all_eq_true.mp hck ent hmem
    rw [hpc] at hz
    split at hz
    · rename_i ins len hd
      have ht := axEqO_ok hz
      refine sx_all F hn hini hE hR hri hrv hra hrl (fun pc' L' S' h' hk => ?_) hmem ins hd ht h1 (fun pc' L' S' h' hk => axWn_sound F hn hini hE hR hri hrv hra hrl hQ hck n pc' L' S' h' hk)
      obtain ⟨r, h2, hq, b1, b2⟩ := axWn_up (fun z vs h r h1 q => (hE z vs h r h1 q).1) n pc' L' S' h' hk
      have := hQ r h2 hq
      exact ⟨by omega, by omega⟩
    · cases hz
end AX10
def axOkA : List Value → Bool
  | [] => true
  | .double _ :: _ => false
  | _ :: l => axOkA l
/-- METHOD z, CALLED WITH vs OVER h, comes with the answer r to the heap h1: calls at most d deep -/
def axEv (ro : axRo) : Nat → axCall
  | 0 => fun _ _ _ _ _ => False
  | d + 1 => fun z vs h r h1 => ∃ M, axMs[z]? = some M ∧ axOkA vs = true ∧ axSz vs ≤ M.2.2.1 ∧ axW ro (axEv ro d) M.2.2.2.2.2.2 0 (axIn vs M.2.2.1) [] h (fun r' h' => r' = r ∧ h' = h1)
theorem axIn_len : ∀ (vs : List Value) (n : Nat), axSz vs ≤ n → (axIn vs n).length = n
  | [], n, _ => by simp [axIn]
  | v :: l, n, h => by
    have hc : v.category + axSz l ≤ n := h
    cases v with
    | long x =>
      have hc : 2 + axSz l ≤ n := hc
      show (some (.long x) :: none :: axIn l (n - 2)).length = n
      rw [List.length_cons, List.length_cons, axIn_len l (n - 2) (by omega)]
      omega
    | double x =>
      have hc : 2 + axSz l ≤ n := hc
      show (some (.double x) :: axIn l (n - 1)).length = n
      rw [List.length_cons, axIn_len l (n - 1) (by omega)]
      omega
    | _ =>
      have hc : 1 + axSz l ≤ n := hc
      show (some _ :: axIn l (n - 1)).length = n
      rw [List.length_cons, axIn_len l (n - 1) (by omega)]
      omega
theorem axIn_mem {b : Nat} {rb : Nat → Nat} : ∀ (vs : List Value) (n k : Nat) (q : Nat × Value), axOkA vs = true → q ∈ axEn b rb k (axIn vs n) → q ∈ lv_args k (vs.map (axCv b rb))
  | [], n, k, q, _, h => by
    have : ∀ (n k : Nat), axEn b rb k (List.replicate n none) = [] := by
      intro n
      induction n with
      | zero => intro k; rfl
      | succ n ih => intro k; rw [List.replicate_succ]; exact ih (k + 1)
    rw [show axIn [] n = List.replicate n none from rfl, this] at h
    cases h
  | v :: l, n, k, q, ho, h => by
    have one : ∀ (w : Value), axCv b rb v = w → w.category = 1 → axOkA l = true → q ∈ (k, w) :: axEn b rb (k + 1) (axIn l (n - 1)) → q ∈ lv_args k ((v :: l).map (axCv b rb)) := by
      intro w hw hc hol hq
      show q ∈ (k, axCv b rb v) :: lv_args (if (axCv b rb v).category = 2 then k + 2 else k + 1) (l.map (axCv b rb))
      rw [hw, if_neg (by omega)]
      rcases List.mem_cons.mp hq with z | z
      · exact List.mem_cons.mpr (Or.inl z)
      · exact List.mem_cons_of_mem _ (axIn_mem l (n - 1) (k + 1) q hol z)
    cases v with
    | double x => cases ho
    | long x =>
      show q ∈ (k, .long x) :: lv_args (k + 2) (l.map (axCv b rb))
      have h : q ∈ (k, Value.long x) :: axEn b rb (k + 2) (axIn l (n - 2)) := h
      rcases List.mem_cons.mp h with z | z
      · exact List.mem_cons.mpr (Or.inl z)
      · exact List.mem_cons_of_mem _ (axIn_mem l (n - 2) (k + 2) q ho z)
    | _ => exact one _ rfl rfl ho h
theorem axSz_sl {b : Nat} {rb : Nat → Nat} : ∀ (vs : List Value), (lg_sl (vs.map (axCv b rb))).length = axSz vs
  | [] => rfl
  | v :: l => by
    have ih := axSz_sl (b := b) (rb := rb) l
    unfold lg_sl at *
    rw [List.map_cons, List.flatMap_cons, List.length_append, ih, axCv_cat]
    show _ = v.category + axSz l
    rcases lv_cat v with z | z <;> simp [z]
def axRetOk (M : axM) : Bool := M.2.2.2.2.2.2.all fun e => match e.2.1 with
  | 49 => match M.2.2.2.1 with
    | some .int => true
    | some .char => true
    | some .boolean => true
    | _ => false
  | 50 => match M.2.2.2.1 with
    | none => true
    | _ => false
  | 51 => match M.2.2.2.1 with
    | some (.object _) => true
    | _ => false
  | 62 => match M.2.2.2.1 with
    | some .long => true
    | _ => false
  | _ => true
set_option maxRecDepth 100000 in
theorem axRetAll : axMs.all axRetOk = true := by decide +kernel
theorem axRk_ok {r : Option FieldType} (h : (match r with | some .int => true | some .char => true | some .boolean => true | _ => false) = true) : r = some (axEt (axRk r)) := by
  split at h <;> first | rfl | cases h
theorem axEv_HE (l : Launch) (b : Nat) (rb : Nat → Nat) (ca : Nat → ClassId) (D : va_G) (ro : axRo) : ∀ dd, axHE (axEv ro dd) l dd b rb ca D ro
  | 0 => fun _ _ _ _ _ h => h.elim
  | dd + 1 => by
    intro z vs h r h1 hEv
    have hE := axEv_HE l b rb ca D ro dd
    obtain ⟨M, hM, hok, hsz, n, hn⟩ := hEv
    obtain ⟨r', h', ⟨rfl, rfl⟩, u1, u2⟩ := axWn_up (fun z vs h r h1 q => (hE z vs h r h1 q).1) n _ _ _ _ hn
    refine ⟨⟨u1, u2⟩, fun M' hM' => ?_⟩
    have hMM : M = M' := Option.some.inj (hM.symm.trans hM')
    subst hMM
    have hmem := List.mem_of_getElem? hM
    obtain ⟨G1, G2, G3, G4, G5, G6, G7, G8⟩ := axMs_ok M hmem
    have hret := List.all_eq_true.mp (List.all_eq_true.mp axRetAll M hmem)
    refine Met.ofW (cc := M.2.1) (maxL := M.2.2.1) (ret := M.2.2.2.1) G5 rfl ?_
    intro p e s m args below meth c s₁ B hml hv
    obtain ⟨rfl, hRep⟩ := hv
    have hr := B.returns
    have hts := atoms_spec (ws := axWM M) B.pre
    have hown : s.vm.findClass M.1.cls = some m.cls := findClass_of_methodNamed B.named
    have hlocks := B.notSynchronized
    have hname : meth.name = M.1.name := (name_of_methodNamed B.named B.method).1
    obtain ⟨R1, R2, R3, R4⟩ := hRep
    have F : axFx p s m (vs.map (axCv b rb)).toArray meth c b rb ca D ro M.2.1 M.2.2.1 M.2.2.2.2.1 := ⟨B.exec, B.bytes, hml, by rw [G3]; exact hown, fun w hw => hts w (List.mem_cons_of_mem _ hw), R3, R4, by omega⟩
    have hl := lv_entry (vs.map (axCv b rb)) (n := M.2.2.1) (by rw [axSz_sl]; exact hsz)
    rw [lg_entry_eq]
    generalize (lg_sl (vs.map (axCv b rb)) ++ List.replicate (M.2.2.1 - (lg_sl (vs.map (axCv b rb))).length) Slot.unset).toArray = ls at hl ⊢
    have hL : axLr b rb (axIn vs M.2.2.1) ls M.2.2.1 := ⟨axIn_len vs _ hsz, hl.1, hl.2.1, fun q hq => hl.2.2 q (axIn_mem vs _ 0 q hok hq)⟩
    have hq : ∀ (H : Heap) (locs : List Loc), axInv b rb ca D s h' H locs → ∀ t : State, t.heap = H → s.WarmedH t.vm → axQc b rb ca D ro r' h' (vs.map (axCv b rb)).toArray s (.returned (r'.map (axCv b rb))) t := fun H locs hI t ht hW => ⟨rfl, axRep_at hW ht R3 (by omega) R4 hI, hI.2.2.F ht⟩
    have hf : ∀ (H : Heap) (locs : List Loc), axInv b rb ca D s h' H locs → ∀ q ∈ locs, b ≤ q.base := fun H locs hI q hq => hI.2.2.2.2 q hq
    have key := axWn_sound (QQ := MQ below (axQc b rb ca D ro r' h') (vs.map (axCv b rb)).toArray s (h'.length - h.length) (axSl h' - axSl h) (fun q : Nat => b ≤ q)) (l := l) (R := axRm (dd + 1) (h'.length - h.length) (axSl h' - axSl h)) (e := e) (below := below) (n0 := h.length) (s0 := axSl h) (ini := M.2.2.2.2.2.1) (rt := axRk M.2.2.2.1) (cd := M.2.2.2.2.2.2) (Q := fun r1 h1 => r1 = r' ∧ h1 = h') F R1 (fun q => by rw [hname]; exact G8 q) hE ⟨Nat.le_refl _, Nat.le_refl _⟩ ?_ ?_ ?_ ?_ ?_ G7 n 0 (axIn vs M.2.2.1) [] h hn (Nat.le_refl _) (Nat.le_refl _) s.heap [] ls ⟨R1, R2, va_S.rf⟩ hL
    · rw [Nat.sub_self, Nat.sub_self] at key
      exact key
    · intro pc H locs h0 ls x hx hd hnar hq1 _ _ hI
      obtain ⟨e1, rfl⟩ := hq1
      subst e1
      obtain ⟨q, hq0, hq1⟩ := hx
      have hz := hret q hq0
      rw [hq1] at hz
      exact W.zret (ty := axEt (axRk M.2.2.2.1)) B.exec B.bytes (hr.trans (axRk_ok hz)) hnar (hq H locs hI) (hf H locs hI) hd hlocks
    · intro pc H locs h0 ls hx hd hq1 _ _ hI
      obtain ⟨e1, rfl⟩ := hq1
      subst e1
      obtain ⟨q, hq0, hq1⟩ := hx
      have hz := hret q hq0
      rw [hq1] at hz
      have hnone : M.2.2.2.1 = none := by
        cases hmr : M.2.2.2.1 with
        | none => rfl
        | some t => simp only [hmr] at hz; cases hz
      exact W.vret B.exec B.bytes (hr.trans hnone) (hq H locs hI) (hf H locs hI) hd hlocks
    · intro pc H locs h0 ls k hx hd hq1 _ _ hI
      obtain ⟨e1, rfl⟩ := hq1
      subst e1
      obtain ⟨q, hq0, hq1⟩ := hx
      have hz := hret q hq0
      rw [hq1] at hz
      have hobj : ∃ n, M.2.2.2.1 = some (.object n) := by
        cases hmr : M.2.2.2.1 with
        | none => simp only [hmr] at hz; cases hz
        | some t => cases t <;> simp only [hmr] at hz <;> first | exact ⟨_, rfl⟩ | cases hz
      obtain ⟨n1, hobj⟩ := hobj
      exact W.aret B.exec B.bytes (hr.trans hobj) (Or.inl ⟨_, rfl⟩) (Or.inr ⟨_, rfl⟩) (hq H locs hI) (hf H locs hI) hd hlocks
    · intro pc H locs h0 ls x hx hd hq1 _ _ hI
      obtain ⟨e1, rfl⟩ := hq1
      subst e1
      obtain ⟨q, hq0, hq1⟩ := hx
      have hz := hret q hq0
      rw [hq1] at hz
      have hlong : M.2.2.2.1 = some .long := by
        cases hmr : M.2.2.2.1 with
        | none => simp only [hmr] at hz; cases hz
        | some t => cases t <;> simp only [hmr] at hz <;> first | rfl | cases hz
      exact W.lret B.exec B.bytes (hr.trans hlong) (hq H locs hI) (hf H locs hI) hd hlocks
    · intro r1 h2 hq1
      rw [hq1.2]
      exact ⟨Nat.le_refl _, Nat.le_refl _⟩
