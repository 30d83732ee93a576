/-! SOUNDNESS 2: the heap. Written by wip/whole/mk08.py. -/
theorem axLay_good {C : String} {T : u_T} {N : Nat} : ∀ w ∈ u_ws C T N, goodWord w = true := by
  intro w hw
  obtain ⟨k, -, rfl⟩ := List.mem_map.mp hw
  unfold u_lay
  split <;> rfl
theorem axLay : ∀ c, c < 5 → ∀ w ∈ u_ws (axCn c) (axT c) (axNf c), w ∈ axTW
  | 0, _ => fun w hw => axTW_mem (axW_lay0 w hw) (axLay_good w hw)
  | 1, _ => fun w hw => axTW_mem (axW_lay1 w hw) (axLay_good w hw)
  | 2, _ => fun w hw => axTW_mem (axW_lay2 w hw) (axLay_good w hw)
  | 3, _ => fun w hw => axTW_mem (axW_lay3 w hw) (axLay_good w hw)
  | 4, _ => fun w hw => axTW_mem (axW_lay4 w hw) (axLay_good w hw)
  | n + 5, h => absurd h (by omega)
theorem axTyOk : ∀ c, c < 5 → ∀ k, k < axNf c → parseFieldDescriptor (axT c k).2.2.1 = some (axTy c k)
  | 0, _ => axW_ty0
  | 1, _ => axW_ty1
  | 2, _ => axW_ty2
  | 3, _ => axW_ty3
  | 4, _ => axW_ty4
  | n + 5, h => absurd h (by omega)
theorem axNmOk : ∀ c, c < 5 → ∀ a, a < axNf c → ∀ b, b < axNf c → a ≠ b → (axT c a).2.1 ≠ (axT c b).2.1
  | 0, _ => axW_nm0
  | 1, _ => axW_nm1
  | 2, _ => axW_nm2
  | 3, _ => axW_nm3
  | 4, _ => axW_nm4
  | n + 5, h => absurd h (by omega)
theorem axOwnOk : ∀ c, c < 5 → ∀ k, k < axNf c → (axT c k).1 = axCn c
  | 0, _ => axW_own0
  | 1, _ => axW_own1
  | 2, _ => axW_own2
  | 3, _ => axW_own3
  | 4, _ => axW_own4
  | n + 5, h => absurd h (by omega)
theorem axDfOk : ∀ c, c < 5 → ∀ k, k < axNf c → defaultValue (axTy c k) = vp_V (axDf c) k
  | 0, _ => axW_df0
  | 1, _ => axW_df1
  | 2, _ => axW_df2
  | 3, _ => axW_df3
  | 4, _ => axW_df4
  | n + 5, h => absurd h (by omega)
theorem axInsOk : ∀ c, c < 5 → Cond.instantiable (axCn c) (axNf c) ∈ axTW
  | 0, _ => axTW_mem axW_in0 rfl
  | 1, _ => axTW_mem axW_in1 rfl
  | 2, _ => axTW_mem axW_in2 rfl
  | 3, _ => axTW_mem axW_in3 rfl
  | 4, _ => axTW_mem axW_in4 rfl
  | n + 5, h => absurd h (by omega)
theorem axIniOk : ∀ c, c < 5 → Cond.initialized (axCn c) ∈ axTW
  | 0, _ => axTW_mem axW_ini0 rfl
  | 1, _ => axTW_mem axW_ini1 rfl
  | 2, _ => axTW_mem axW_ini2 rfl
  | 3, _ => axTW_mem axW_ini3 rfl
  | 4, _ => axTW_mem axW_ini4 rfl
  | n + 5, h => absurd h (by omega)
theorem axClOk : ∀ c, c < 5 → axCl[c]? = some (axCn c, axT c, axNf c)
  | 0, _ => rfl
  | 1, _ => rfl
  | 2, _ => rfl
  | 3, _ => rfl
  | 4, _ => rfl
  | n + 5, h => absurd h (by omega)
theorem axDfN : ∀ c, c < 5 → (axDf c).length = axNf c
  | 0, _ => rfl
  | 1, _ => rfl
  | 2, _ => rfl
  | 3, _ => rfl
  | 4, _ => rfl
  | n + 5, h => absurd h (by omega)
theorem axDf_cv (b : Nat) (rb : Nat → Nat) : ∀ c, (axDf c).map (axCv b rb) = axDf c
  | 0 => rfl
  | 1 => rfl
  | 2 => rfl
  | 3 => rfl
  | 4 => rfl
  | n + 5 => rfl
theorem axCl_lt {c : Nat} {x : vw_C} (h : axCl[c]? = some x) : c < 5 := (List.getElem?_eq_some_iff.mp h).1
theorem axFit_cv {b : Nat} {rb : Nat → Nat} {c k : Nat} {v : Value} (h : axFit c k v) : narrow (axTy c k) (axCv b rb v) = axCv b rb v ∧ fits (axTy c k) (axCv b rb v) = true := by
  obtain ⟨h1, h2, h3⟩ := h
  cases v with
  | retAddr j => exact absurd rfl (h3 j)
  | ref j =>
    refine ⟨?_, ?_⟩
    · generalize axTy c k = ty
      cases ty <;> rfl
    · generalize axTy c k = ty at h2
      cases ty <;> first | exact h2 | rfl
  | _ => exact ⟨h1, h2⟩
section AX8
variable {p : Program} {l : Launch} {e : Env} {R : Room} {s : State} {m : MethodId} {args : Array Value} {below : List Frame} {meth : Method} {c : Code} {b : Nat} {rb : Nat → Nat} {ca : Nat → ClassId} {D : va_G} {ro : axRo} {QQ : State → Prop} {cc : ByteArray} {nL n0 s0 o : Nat} {pc : Nat} {L : axL} {S : List Value} {h : axH} {K : Nat → axL → List Value → axH → Prop} {Q : Option Value → axH → Prop} {E : axCall} {ent : axE} {ini : Bool} {rt len : Nat}
theorem axWs_lt {H : Heap} (hP : va_P D axCl (axWs b rb ca b h) H) (hne : 0 < h.length) : b + (h.length - 1) < H.size := by
  have hc : h[h.length - 1]? = some (h[h.length - 1]'(by omega)) := List.getElem?_eq_getElem (by omega)
  exact (hP _ _ (axWs_at (b := b) (rb := rb) (ca := ca) hc)).lt
/-- the heap's size, out of what the machine says of the room that is used -/
theorem axW_sz (hn : s.heap.size = b + n0) {H : Heap} {locs : List Loc} {slots : Nat} {g : JFrame} (g1 : n0 ≤ h.length) (hP : va_P D axCl (axWs b rb ca b h) H) (hS : va_S (fun q : Nat => b ≤ q) s.heap H locs) (k : H.size = b + h.length → W p l e R s m args below meth c H locs (h.length - n0) slots QQ g) : W p l e R s m args below meth c H locs (h.length - n0) slots QQ g := by
  intro T hT X
  refine k ?_ T hT X
  have h1 := X.heapSize
  rw [hT, hn] at h1
  have h2 := hS.1
  rw [hn] at h2
  by_cases hne : 0 < h.length
  · have h3 := axWs_lt hP hne
    omega
  · omega
theorem axWW_set (hn : s.heap.size = b + n0) {k0 : Nat} {x d : axC} (hc : h[k0]? = some d) (hcs : axCs x = axCs d) (hW : axWW p l e R s m args below meth c b rb ca D QQ nL n0 s0 pc L S (h.set k0 x)) (g1 : n0 ≤ h.length) (g2 : s0 ≤ axSl h) {H : Heap} {locs : List Loc} {ls : Array Slot}
    (hP : va_P D axCl (axWs b rb ca b (h.set k0 x)) H) (hS : va_S (fun q : Nat => b ≤ q) s.heap H locs) (hL : axLr b rb L ls nL) : W p l e R s m args below meth c H locs (h.length - n0) (axSl h - s0) QQ (F0 m pc ls (S.map (axCv b rb))) := by
  have e1 : (h.set k0 x).length = h.length := List.length_set
  have e2 : axSl (h.set k0 x) = axSl h := axSl_set h k0 x d hc hcs
  unfold axWW at hW
  rw [e1, e2] at hW
  have hz := axW_sz (p := p) (l := l) (e := e) (R := R) (m := m) (args := args) (below := below) (meth := meth) (c := c) (QQ := QQ) (slots := axSl h - s0) (g := F0 m pc ls (S.map (axCv b rb))) hn (h := h.set k0 x) (by rw [e1]; exact g1) hP hS
  rw [e1] at hz
  exact hz fun z => hW g1 g2 H locs ls ⟨by rw [e1]; exact z, hP, hS⟩ hL
/-- a new cell's place is the next one -/
theorem axWW_push (hn : s.heap.size = b + n0) {x : axC} {q : Nat} {ls : Array Slot} {S' : List Value} (hW : axWW p l e R s m args below meth c b rb ca D QQ nL n0 s0 pc L (.ref h.length :: S') (h ++ [x])) (g1 : n0 ≤ h.length) (g2 : s0 ≤ axSl h) {H : Heap} {locs : List Loc} {N : Nat} (hN : N = axCs x)
    (hP : va_P D axCl (axWs b rb ca b h ++ [(q, axCe b rb ca x)]) H) (hD : va_D (fun q : Nat => b ≤ q) (axWs b rb ca b h ++ [(q, axCe b rb ca x)])) (hS : va_S (fun q : Nat => b ≤ q) s.heap H locs) (hL : axLr b rb L ls nL) : W p l e R s m args below meth c H locs (h.length - n0 + 1) (axSl h - s0 + N) QQ (F0 m pc ls (.ref q :: S'.map (axCv b rb))) := by
  have hlen : (axWs b rb ca b h).length = h.length := by
    have : ∀ (h : axH) (k : Nat), (axWs b rb ca k h).length = h.length := by
      intro h
      induction h with
      | nil => intro k; rfl
      | cons a t ih => intro k; simp [axWs, ih]
    exact this h b
  have hlast : (axWs b rb ca b h ++ [(q, axCe b rb ca x)])[h.length]? = some (q, axCe b rb ca x) := by rw [← hlen]; simp
  have hlt : q < H.size := (hP _ _ hlast).lt
  have hge : b ≤ q := hD.2 _ _ hlast
  have hq : b + h.length ≤ q := by
    rcases Nat.lt_or_ge q (b + h.length) with z | z
    · have hi : q - b < h.length := by omega
      have hc : h[q - b]? = some (h[q - b]'hi) := List.getElem?_eq_getElem hi
      have h1 : (axWs b rb ca b h ++ [(q, axCe b rb ca x)])[q - b]? = some (b + (q - b), axCe b rb ca (h[q - b]'hi)) := by
        rw [List.getElem?_append_left (by rw [hlen]; exact hi)]
        exact axWs_at hc
      have := hD.1 _ _ _ _ h1 hlast (by show b + (q - b) = q; omega)
      omega
    · exact z
  intro T hT X
  have h1 := X.heapSize
  rw [hT, hn] at h1
  have hqe : q = b + h.length := by omega
  subst hqe
  have e1 : (h ++ [x]).length = h.length + 1 := by simp
  have e2 : axSl (h ++ [x]) = axSl h + N := by rw [axSl_app, hN]
  rw [← axWs_app] at hP
  unfold axWW at hW
  rw [e1, e2] at hW
  have hw := hW (by omega) (by omega) H locs ls ⟨by rw [e1]; omega, hP, hS⟩ hL
  rw [show h.length + 1 - n0 = h.length - n0 + 1 by omega, show axSl h + N - s0 = axSl h - s0 + N by omega] at hw
  exact hw T hT X

theorem sx_getfield (i : Nat) (F : axFx p s m args meth c b rb ca D ro cc nL o) (hn : s.heap.size = b + n0) (hini : ini = true → meth.name = "<init>") (hR : 1 ≤ R.frames ∧ 36 ≤ R.locals) (hcap : ∀ pc' L' S' h', K pc' L' S' h' → h'.length - n0 ≤ R.cells ∧ axSl h' - s0 ≤ R.slots) (hd : decode cc pc = .ok (.getfield i, len)) (ht : axTr o ini rt pc (.getfield i) len = some ent) (h1 : axOne ro E ent L S h K Q) (hK : ∀ pc' L' S' h', K pc' L' S' h' → axWW p l e R s m args below meth c b rb ca D QQ nL n0 s0 pc' L' S' h') : axWW p l e R s m args below meth c b rb ca D QQ nL n0 s0 pc L S h := by
  rcases hq0 : axFnd o i axFlT with _ | ⟨ci, k, w⟩
  · simp only [axTr, hq0] at ht
    cases ht
  · simp only [axTr, hq0] at ht
    obtain ⟨rfl, rfl⟩ := axI_ok ht
    obtain ⟨k0, S', fs, v, rfl, hc, hv, hk⟩ := h1
    obtain ⟨f1, f2, f3⟩ := axFlT_ok _ (axFnd_mem _ hq0)
    intro g1 g2 H locs ls hI hL
    exact va_get F.1 F.2.1 (Ts := axTW) F.2.2.2.2.1 (axLay ci (axCl_lt f3)) F.2.2.2.1 F.2.2.2.2.2.1 hI.2.1 k0 (axWs_at hc) f3 k f2 (F.2.2.2.2.1 _ (axTW_mem f1 rfl)) (fun x hx => hx) (v := axCv b rb v) (by rw [List.getElem?_map, hv]; rfl) hd (hK _ _ _ _ hk g1 g2 H locs ls hI hL)
theorem sx_putfield (i : Nat) (F : axFx p s m args meth c b rb ca D ro cc nL o) (hn : s.heap.size = b + n0) (hini : ini = true → meth.name = "<init>") (hR : 1 ≤ R.frames ∧ 36 ≤ R.locals) (hcap : ∀ pc' L' S' h', K pc' L' S' h' → h'.length - n0 ≤ R.cells ∧ axSl h' - s0 ≤ R.slots) (hd : decode cc pc = .ok (.putfield i, len)) (ht : axTr o ini rt pc (.putfield i) len = some ent) (h1 : axOne ro E ent L S h K Q) (hK : ∀ pc' L' S' h', K pc' L' S' h' → axWW p l e R s m args below meth c b rb ca D QQ nL n0 s0 pc' L' S' h') : axWW p l e R s m args below meth c b rb ca D QQ nL n0 s0 pc L S h := by
  rcases hq0 : axFnd o i axFlT with _ | ⟨ci, k, w⟩
  · simp only [axTr, hq0] at ht
    cases ht
  · simp only [axTr, hq0] at ht
    cases hfin : axFin ci k with
    | false =>
      simp only [hfin, cond_false] at ht
      obtain ⟨rfl, rfl⟩ := axI_ok ht
      obtain ⟨v, k0, S', fs, rfl, hc, hlt, hfit, hk⟩ := h1
      obtain ⟨f1, f2, f3⟩ := axFlT_ok _ (axFnd_mem _ hq0)
      obtain ⟨n1, n2⟩ := axFit_cv (b := b) (rb := rb) hfit
      intro g1 g2 H locs ls hI hL
      refine va_put F.1 F.2.1 (Ts := axTW) F.2.2.2.2.1 (axLay ci (axCl_lt f3)) (axTy ci) (axTyOk ci (axCl_lt f3)) (axNmOk ci (axCl_lt f3)) F.2.2.2.1 F.2.2.2.2.2.1 hI.2.1 (axWs_D h) hI.2.2 k0 (axWs_at hc) f3 k f2 (F.2.2.2.2.1 _ (axTW_mem f1 rfl)) (fun x hx => hx) hfin (axTyOk ci (axCl_lt f3) k f2) n1 n2 (by rw [List.length_map]; exact hlt) hd (fun H1 locs1 hP1 hD1 hS1 => ?_)
      refine axWW_set hn hc (x := .inr (.inr (ci, fs.set k v))) (by simp [axCs]) (hK _ _ _ _ hk) g1 g2 ?_ hS1 hL
      rw [axWs_set]
      show va_P D axCl ((axWs b rb ca b h).set k0 (b + k0, .inr (ci, (fs.set k v).map (axCv b rb)))) H1
      rw [List.map_set]
      exact hP1
    | true =>
      simp only [hfin, cond_true] at ht
      cases hio : (ini && Nat.beq ci o) with
      | false => rw [hio] at ht; cases ht
      | true =>
        rw [hio, cond_true] at ht
        rw [Bool.and_eq_true] at hio
        have e2 := Nat.eq_of_beq_eq_true hio.2
        obtain ⟨rfl, rfl⟩ := axI_ok ht
        obtain ⟨v, k0, S', fs, rfl, hc, hlt, hfit, hk⟩ := h1
        obtain ⟨f1, f2, f3⟩ := axFlT_ok _ (axFnd_mem _ hq0)
        obtain ⟨n1, n2⟩ := axFit_cv (b := b) (rb := rb) hfit
        intro g1 g2 H locs ls hI hL
        refine va_putF F.1 F.2.1 (Ts := axTW) F.2.2.2.2.1 (axLay ci (axCl_lt f3)) (axTy ci) (axTyOk ci (axCl_lt f3)) (axNmOk ci (axCl_lt f3)) F.2.2.2.1 F.2.2.2.2.2.1 hI.2.1 (axWs_D h) hI.2.2 k0 (axWs_at hc) f3 k f2 (F.2.2.2.2.1 _ (axTW_mem f1 rfl)) (fun x hx => hx) hfin (hini hio.1) (by have z := axOwnOk ci (axCl_lt (axFlT_ok _ (axFnd_mem _ hq0)).2.2) k f2; rw [z, e2]) (axTyOk ci (axCl_lt f3) k f2) n1 n2 (by rw [List.length_map]; exact hlt) hd (fun H1 locs1 hP1 hD1 hS1 => ?_)
        refine axWW_set hn hc (x := .inr (.inr (ci, fs.set k v))) (by simp [axCs]) (hK _ _ _ _ hk) g1 g2 ?_ hS1 hL
        rw [axWs_set]
        show va_P D axCl ((axWs b rb ca b h).set k0 (b + k0, .inr (ci, (fs.set k v).map (axCv b rb)))) H1
        rw [List.map_set]
        exact hP1
theorem sx_getstatic (i : Nat) (F : axFx p s m args meth c b rb ca D ro cc nL o) (hn : s.heap.size = b + n0) (hini : ini = true → meth.name = "<init>") (hR : 1 ≤ R.frames ∧ 36 ≤ R.locals) (hcap : ∀ pc' L' S' h', K pc' L' S' h' → h'.length - n0 ≤ R.cells ∧ axSl h' - s0 ≤ R.slots) (hd : decode cc pc = .ok (.getstatic i, len)) (ht : axTr o ini rt pc (.getstatic i) len = some ent) (h1 : axOne ro E ent L S h K Q) (hK : ∀ pc' L' S' h', K pc' L' S' h' → axWW p l e R s m args below meth c b rb ca D QQ nL n0 s0 pc' L' S' h') : axWW p l e R s m args below meth c b rb ca D QQ nL n0 s0 pc L S h := by
  rcases hq0 : axFnd o i axStT with _ | ⟨j, w⟩
  · simp only [axTr, hq0] at ht
    cases ht
  · simp only [axTr, hq0] at ht
    obtain ⟨rfl, rfl⟩ := axI_ok ht
    have hk := h1
    obtain ⟨f1, f2⟩ := axStT_ok _ (axFnd_mem _ hq0)
    obtain ⟨q1, q2, q3, q4, q5⟩ := F.2.2.2.2.2.2.1
    intro g1 g2 H locs ls hI hL
    have f2 : j = 1 ∨ j = 2 := f2
    rcases f2 with rfl | rfl
    · exact va_getsN F.1 F.2.1 q2 hI.2.2 F.2.2.2.1 (va_Nw.use rfl (q4 _ f1 rfl)) (fun x hx => hx) hd (hK _ _ _ _ hk g1 g2 H locs ls hI hL)
    · exact va_getsN F.1 F.2.1 q3 hI.2.2 F.2.2.2.1 (va_Nw.use rfl (q4 _ f1 rfl)) (fun x hx => hx) hd (hK _ _ _ _ hk g1 g2 H locs ls hI hL)
theorem sx_arraylength (F : axFx p s m args meth c b rb ca D ro cc nL o) (hn : s.heap.size = b + n0) (hini : ini = true → meth.name = "<init>") (hR : 1 ≤ R.frames ∧ 36 ≤ R.locals) (hcap : ∀ pc' L' S' h', K pc' L' S' h' → h'.length - n0 ≤ R.cells ∧ axSl h' - s0 ≤ R.slots) (hd : decode cc pc = .ok (.arraylength, len)) (ht : axTr o ini rt pc (.arraylength) len = some ent) (h1 : axOne ro E ent L S h K Q) (hK : ∀ pc' L' S' h', K pc' L' S' h' → axWW p l e R s m args below meth c b rb ca D QQ nL n0 s0 pc' L' S' h') : axWW p l e R s m args below meth c b rb ca D QQ nL n0 s0 pc L S h := by
  obtain ⟨rfl, rfl⟩ := axI_ok ht
  rcases h1 with ⟨k0, S', ki, n, f, rfl, hc, hlt, hk⟩ | ⟨k0, S', n, f, rfl, hc, hk⟩ | ⟨i, S', rfl, hi, hk⟩
  · intro g1 g2 H locs ls hI hL
    have hki : ∃ ty, (axTys ca)[ki]? = some (ca ki, ty) := by
      rcases (show ki = 0 ∨ ki = 1 ∨ ki = 2 by omega) with rfl | rfl | rfl
      · exact ⟨_, rfl⟩
      · exact ⟨_, rfl⟩
      · exact ⟨_, rfl⟩
    obtain ⟨ty, hty⟩ := hki
    exact va_alen F.1 F.2.1 F.2.2.2.2.2.1 hI.2.1 k0 ki (axWs_at hc) hty rfl hd (hK _ _ _ _ hk g1 g2 H locs ls hI hL)
  · intro g1 g2 H locs ls hI hL
    exact va_alen F.1 F.2.1 F.2.2.2.2.2.1 hI.2.1 k0 3 (axWs_at hc) rfl rfl hd (hK _ _ _ _ hk g1 g2 H locs ls hI hL)
  · intro g1 g2 H locs ls hI hL
    obtain ⟨hlt, scr, q1, q2, q3, q4, q5, q6, q7⟩ := F.2.2.2.2.2.2.1.1 i hi
    exact W.alen F.1 F.2.1 (by rw [hI.2.2.2.1 _ (by have z := F.2.2.2.2.2.2.2; omega) q7]; exact q1) q2 q5 rfl rfl hd (hK _ _ _ _ hk g1 g2 H locs ls hI hL)
theorem sx_iaload (F : axFx p s m args meth c b rb ca D ro cc nL o) (hn : s.heap.size = b + n0) (hini : ini = true → meth.name = "<init>") (hR : 1 ≤ R.frames ∧ 36 ≤ R.locals) (hcap : ∀ pc' L' S' h', K pc' L' S' h' → h'.length - n0 ≤ R.cells ∧ axSl h' - s0 ≤ R.slots) (hd : decode cc pc = .ok (.iaload, len)) (ht : axTr o ini rt pc (.iaload) len = some ent) (h1 : axOne ro E ent L S h K Q) (hK : ∀ pc' L' S' h', K pc' L' S' h' → axWW p l e R s m args below meth c b rb ca D QQ nL n0 s0 pc' L' S' h') : axWW p l e R s m args below meth c b rb ca D QQ nL n0 s0 pc L S h := by
  obtain ⟨rfl, rfl⟩ := axI_ok ht
  rcases h1 with ⟨k0, i, S', n, f, rfl, hc, hin, hk⟩ | ⟨hb0, j, i, S', rfl, hj, hin, hk⟩
  · intro g1 g2 H locs ls hI hL
    exact va_iald F.1 F.2.1 F.2.2.2.2.2.1 hI.2.1 k0 0 (axWs_at hc) rfl hin hd (hK _ _ _ _ hk g1 g2 H locs ls hI hL)
  · intro g1 g2 H locs ls hI hL
    obtain ⟨hlt, scr, q1, q2, q3, q4, q5, q6, q7⟩ := F.2.2.2.2.2.2.1.1 j hj
    have hlt2 : i.toNatClampNeg < (ro j).1 := Nat.not_le.mp fun q => hin (Or.inr q)
    exact W.iald F.1 F.2.1 (by rw [hI.2.2.2.1 _ (by have z := F.2.2.2.2.2.2.2; omega) q7]; exact q1) q2 q3 (fun z => hin (z.elim Or.inl (fun z => Or.inr (Nat.le_trans q4 z)))) (q6 _ hlt2) rfl rfl hd (hK _ _ _ _ hk g1 g2 H locs ls hI hL)
theorem sx_caload (F : axFx p s m args meth c b rb ca D ro cc nL o) (hn : s.heap.size = b + n0) (hini : ini = true → meth.name = "<init>") (hR : 1 ≤ R.frames ∧ 36 ≤ R.locals) (hcap : ∀ pc' L' S' h', K pc' L' S' h' → h'.length - n0 ≤ R.cells ∧ axSl h' - s0 ≤ R.slots) (hd : decode cc pc = .ok (.caload, len)) (ht : axTr o ini rt pc (.caload) len = some ent) (h1 : axOne ro E ent L S h K Q) (hK : ∀ pc' L' S' h', K pc' L' S' h' → axWW p l e R s m args below meth c b rb ca D QQ nL n0 s0 pc' L' S' h') : axWW p l e R s m args below meth c b rb ca D QQ nL n0 s0 pc L S h := by
  obtain ⟨rfl, rfl⟩ := axI_ok ht
  rcases h1 with ⟨k0, i, S', n, f, rfl, hc, hin, hk⟩ | ⟨hb0, j, i, S', rfl, hj, hin, hk⟩
  · intro g1 g2 H locs ls hI hL
    exact va_cald F.1 F.2.1 F.2.2.2.2.2.1 hI.2.1 k0 1 (axWs_at hc) rfl hin hd (hK _ _ _ _ hk g1 g2 H locs ls hI hL)
  · cases hb0
theorem sx_aaload (F : axFx p s m args meth c b rb ca D ro cc nL o) (hn : s.heap.size = b + n0) (hini : ini = true → meth.name = "<init>") (hR : 1 ≤ R.frames ∧ 36 ≤ R.locals) (hcap : ∀ pc' L' S' h', K pc' L' S' h' → h'.length - n0 ≤ R.cells ∧ axSl h' - s0 ≤ R.slots) (hd : decode cc pc = .ok (.aaload, len)) (ht : axTr o ini rt pc (.aaload) len = some ent) (h1 : axOne ro E ent L S h K Q) (hK : ∀ pc' L' S' h', K pc' L' S' h' → axWW p l e R s m args below meth c b rb ca D QQ nL n0 s0 pc' L' S' h') : axWW p l e R s m args below meth c b rb ca D QQ nL n0 s0 pc L S h := by
  obtain ⟨rfl, rfl⟩ := axI_ok ht
  obtain ⟨k0, i, S', n, f, rfl, hc, hin, hk⟩ := h1
  intro g1 g2 H locs ls hI hL
  refine va_aldq F.1 F.2.1 F.2.2.2.2.2.1 hI.2.1 k0 3 (axWs_at hc) rfl hin hd ?_
  have hk := (hK _ _ _ _ hk g1 g2 H locs ls hI hL)
  have e1 : axCv b rb (va_rf (f i.toNatClampNeg)) = va_rf ((f i.toNatClampNeg).map (fun k => b + k)) := by cases f i.toNatClampNeg <;> rfl
  rw [List.map_cons, e1] at hk
  exact hk
theorem sx_iastore (F : axFx p s m args meth c b rb ca D ro cc nL o) (hn : s.heap.size = b + n0) (hini : ini = true → meth.name = "<init>") (hR : 1 ≤ R.frames ∧ 36 ≤ R.locals) (hcap : ∀ pc' L' S' h', K pc' L' S' h' → h'.length - n0 ≤ R.cells ∧ axSl h' - s0 ≤ R.slots) (hd : decode cc pc = .ok (.iastore, len)) (ht : axTr o ini rt pc (.iastore) len = some ent) (h1 : axOne ro E ent L S h K Q) (hK : ∀ pc' L' S' h', K pc' L' S' h' → axWW p l e R s m args below meth c b rb ca D QQ nL n0 s0 pc' L' S' h') : axWW p l e R s m args below meth c b rb ca D QQ nL n0 s0 pc L S h := by
  obtain ⟨rfl, rfl⟩ := axI_ok ht
  obtain ⟨x, i, k0, S', n, f, rfl, hc, hin, hnar, hk⟩ := h1
  intro g1 g2 H locs ls hI hL
  refine va_iast F.1 F.2.1 F.2.2.2.2.2.1 hI.2.1 (axWs_D h) hI.2.2 k0 0 (axWs_at hc) rfl hin hd (fun H1 locs1 hP1 hD1 hS1 => ?_)
  refine axWW_set hn hc (x := .inl (0, n, upd f i.toNatClampNeg x)) rfl (hK _ _ _ _ hk) g1 g2 ?_ hS1 hL
  rw [axWs_set]
  exact hP1
theorem sx_castore (F : axFx p s m args meth c b rb ca D ro cc nL o) (hn : s.heap.size = b + n0) (hini : ini = true → meth.name = "<init>") (hR : 1 ≤ R.frames ∧ 36 ≤ R.locals) (hcap : ∀ pc' L' S' h', K pc' L' S' h' → h'.length - n0 ≤ R.cells ∧ axSl h' - s0 ≤ R.slots) (hd : decode cc pc = .ok (.castore, len)) (ht : axTr o ini rt pc (.castore) len = some ent) (h1 : axOne ro E ent L S h K Q) (hK : ∀ pc' L' S' h', K pc' L' S' h' → axWW p l e R s m args below meth c b rb ca D QQ nL n0 s0 pc' L' S' h') : axWW p l e R s m args below meth c b rb ca D QQ nL n0 s0 pc L S h := by
  obtain ⟨rfl, rfl⟩ := axI_ok ht
  obtain ⟨x, i, k0, S', n, f, rfl, hc, hin, hnar, hk⟩ := h1
  intro g1 g2 H locs ls hI hL
  refine va_cast F.1 F.2.1 F.2.2.2.2.2.1 hI.2.1 (axWs_D h) hI.2.2 k0 1 (axWs_at hc) rfl hin hd (fun H1 locs1 hP1 hD1 hS1 => ?_)
  refine axWW_set hn hc (x := .inl (1, n, upd f i.toNatClampNeg x)) rfl (hK _ _ _ _ hk) g1 g2 ?_ hS1 hL
  rw [axWs_set]
  rw [show vp_nar .char x = x from hnar] at hP1
  exact hP1
theorem sx_aastore (F : axFx p s m args meth c b rb ca D ro cc nL o) (hn : s.heap.size = b + n0) (hini : ini = true → meth.name = "<init>") (hR : 1 ≤ R.frames ∧ 36 ≤ R.locals) (hcap : ∀ pc' L' S' h', K pc' L' S' h' → h'.length - n0 ≤ R.cells ∧ axSl h' - s0 ≤ R.slots) (hd : decode cc pc = .ok (.aastore, len)) (ht : axTr o ini rt pc (.aastore) len = some ent) (h1 : axOne ro E ent L S h K Q) (hK : ∀ pc' L' S' h', K pc' L' S' h' → axWW p l e R s m args below meth c b rb ca D QQ nL n0 s0 pc' L' S' h') : axWW p l e R s m args below meth c b rb ca D QQ nL n0 s0 pc L S h := by
  obtain ⟨rfl, rfl⟩ := axI_ok ht
  obtain ⟨v, i, k0, S', n, f, fs, rfl, hc, hv, hin, hk⟩ := h1
  intro g1 g2 H locs ls hI hL
  refine va_astq F.1 F.2.1 F.2.2.2.2.2.1 hI.2.1 (axWs_D h) hI.2.2 k0 3 v 0 (axWs_at hc) (r := ("BeatSlugs$Board", axT0, 9)) rfl (axWs_at hv) rfl hin hd (fun H1 locs1 hP1 hD1 hS1 => ?_)
  refine axWW_set hn hc (x := .inr (.inl (n, va_up f i.toNatClampNeg (some v)))) rfl (hK _ _ _ _ hk) g1 g2 ?_ hS1 hL
  rw [axWs_set]
  have e1 : (fun j => (va_up f i.toNatClampNeg (some v) j).map (fun k => b + k)) = va_up (fun j => (f j).map (fun k => b + k)) i.toNatClampNeg (some (b + v)) := by
    funext j
    unfold va_up
    split <;> rfl
  show va_P D axCl ((axWs b rb ca b h).set k0 (b + k0, .inl (ca 3, n, .inr (.inr (.inr (.inr (fun j => (va_up f i.toNatClampNeg (some v) j).map (fun k => b + k)))))))) H1
  rw [e1]
  exact hP1
theorem sx_newarray (t : ArrayType) (F : axFx p s m args meth c b rb ca D ro cc nL o) (hn : s.heap.size = b + n0) (hini : ini = true → meth.name = "<init>") (hR : 1 ≤ R.frames ∧ 36 ≤ R.locals) (hcap : ∀ pc' L' S' h', K pc' L' S' h' → h'.length - n0 ≤ R.cells ∧ axSl h' - s0 ≤ R.slots) (hd : decode cc pc = .ok (.newarray t, len)) (ht : axTr o ini rt pc (.newarray t) len = some ent) (h1 : axOne ro E ent L S h K Q) (hK : ∀ pc' L' S' h', K pc' L' S' h' → axWW p l e R s m args below meth c b rb ca D QQ nL n0 s0 pc' L' S' h') : axWW p l e R s m args below meth c b rb ca D QQ nL n0 s0 pc L S h := by
  have key : ∀ (b_ : Nat) (ty : FieldType), newarray.typeOf t = ty → Cond.arrayClass (newarray.typeOf t) ∈ axTW → (axTys ca)[b_]? = some (ca b_, ty) → componentBytes ty ≤ 8 → defaultValue ty = .int 0 → axI 2 len (pc, 44, .null, b_, 0, [], pc + 2) = some ent → axWW p l e R s m args below meth c b rb ca D QQ nL n0 s0 pc L S h := by
    intro b_ ty hty hw htys hcb hdef hti
    obtain ⟨rfl, rfl⟩ := axI_ok hti
    obtain ⟨x, S', rfl, hx0, hxn, hk⟩ := h1
    intro g1 g2 H locs ls hI hL
    have hcp := hcap _ _ _ _ hk
    rw [axSl_app] at hcp
    have hcp : h.length + 1 - n0 ≤ R.cells ∧ axSl h + x.toNatClampNeg - s0 ≤ R.slots := by simpa [axCs] using hcp
    refine va_newa F.1 F.2.1 (F.2.2.2.2.1 _ hw) hty F.2.2.2.2.2.1 hI.2.1 (axWs_D h) hI.2.2 (fun q hq => by show b ≤ q; have := F.2.2.2.2.2.2.2; omega) (a0 := (x.toNatClampNeg, .inl (fun _ => 0))) (N' := x.toNatClampNeg) (fun cA => by rw [hdef]; rfl) hx0 rfl ?_ (by omega) (by omega) hd (fun q cA H1 hK1 hP1 hD1 hS1 => ?_)
    · calc x.toNatClampNeg * componentBytes ty ≤ 65536 * 8 := Nat.mul_le_mul hxn hcb
        _ ≤ 536870912 := by decide
    · have hcA : cA = ca b_ := by
        have z1 := (hK1.2 (axTys ca).length (cA, ty) (by simp)).2
        have z2 := (F.2.2.2.2.2.1.2 b_ (ca b_, ty) htys).2
        cases ty with
        | object C => cases hdef
        | _ => exact Option.some.inj (z1.symm.trans z2)
      subst hcA
      exact axWW_push hn (x := .inl (b_, x.toNatClampNeg, fun _ => 0)) (hK _ _ _ _ hk) g1 g2 rfl hP1 hD1 hS1 hL
  cases t with
  | int => exact key 0 .int rfl (axTW_mem axW_ari rfl) rfl (by decide) rfl ht
  | char => exact key 1 .char rfl (axTW_mem axW_arc rfl) rfl (by decide) rfl ht
  | _ => cases ht
theorem sx_anewarray (i : Nat) (F : axFx p s m args meth c b rb ca D ro cc nL o) (hn : s.heap.size = b + n0) (hini : ini = true → meth.name = "<init>") (hR : 1 ≤ R.frames ∧ 36 ≤ R.locals) (hcap : ∀ pc' L' S' h', K pc' L' S' h' → h'.length - n0 ≤ R.cells ∧ axSl h' - s0 ≤ R.slots) (hd : decode cc pc = .ok (.anewarray i, len)) (ht : axTr o ini rt pc (.anewarray i) len = some ent) (h1 : axOne ro E ent L S h K Q) (hK : ∀ pc' L' S' h', K pc' L' S' h' → axWW p l e R s m args below meth c b rb ca D QQ nL n0 s0 pc' L' S' h') : axWW p l e R s m args below meth c b rb ca D QQ nL n0 s0 pc L S h := by
  rcases hq0 : axFnd o i axClsT with _ | ⟨ci, w⟩
  · simp only [axTr, hq0] at ht
    cases ht
  · cases ci with
    | succ z => simp only [axTr, hq0] at ht; cases ht
    | zero =>
      simp only [axTr, hq0] at ht
      obtain ⟨rfl, rfl⟩ := axI_ok ht
      obtain ⟨x, S', rfl, hx0, hxn, hk⟩ := h1
      have f1 := axClsT_ok _ (axFnd_mem _ hq0)
      intro g1 g2 H locs ls hI hL
      have hcp := hcap _ _ _ _ hk
      rw [axSl_app] at hcp
      have hcp : h.length + 1 - n0 ≤ R.cells ∧ axSl h + x.toNatClampNeg - s0 ≤ R.slots := by simpa [axCs] using hcp
      refine va_newq (C := "BeatSlugs$Board") F.1 F.2.1 F.2.2.2.1 (F.2.2.2.2.1 _ (axTW_mem f1 rfl)) F.2.2.2.2.2.2.1.2.2.2.2 F.2.2.2.2.2.1 hI.2.1 (axWs_D h) hI.2.2 (fun q hq => by show b ≤ q; have := F.2.2.2.2.2.2.2; omega) (N' := x.toNatClampNeg) hx0 rfl (by omega) (by omega) (by omega) hd (fun q cA H1 hK1 hP1 hD1 hS1 => ?_)
      have hcA : cA = ca 3 := by
        obtain ⟨k1, c1, -, -, -, z1⟩ := (hK1.2 (axTys ca).length (cA, .object "BeatSlugs$Board") (by simp)).2
        obtain ⟨k2, c2, -, -, -, z2⟩ := (F.2.2.2.2.2.1.2 3 (ca 3, .object "BeatSlugs$Board") rfl).2
        exact Option.some.inj (z1.symm.trans z2)
      subst hcA
      exact axWW_push hn (x := .inr (.inl (x.toNatClampNeg, fun _ => none))) (hK _ _ _ _ hk) g1 g2 rfl hP1 hD1 hS1 hL
theorem sx_new (i : Nat) (F : axFx p s m args meth c b rb ca D ro cc nL o) (hn : s.heap.size = b + n0) (hini : ini = true → meth.name = "<init>") (hR : 1 ≤ R.frames ∧ 36 ≤ R.locals) (hcap : ∀ pc' L' S' h', K pc' L' S' h' → h'.length - n0 ≤ R.cells ∧ axSl h' - s0 ≤ R.slots) (hd : decode cc pc = .ok (.new i, len)) (ht : axTr o ini rt pc (.new i) len = some ent) (h1 : axOne ro E ent L S h K Q) (hK : ∀ pc' L' S' h', K pc' L' S' h' → axWW p l e R s m args below meth c b rb ca D QQ nL n0 s0 pc' L' S' h') : axWW p l e R s m args below meth c b rb ca D QQ nL n0 s0 pc L S h := by
  rcases hq0 : axFnd o i axClsT with _ | ⟨ci, w⟩
  · simp only [axTr, hq0] at ht
    cases ht
  · simp only [axTr, hq0] at ht
    cases hb6 : Nat.blt ci 5 with
    | false => rw [hb6] at ht; cases ht
    | true =>
      rw [hb6, cond_true] at ht
      have hlt : ci < 5 := Nat.le_of_ble_eq_true hb6
      obtain ⟨rfl, rfl⟩ := axI_ok ht
      have hk := h1
      have f1 := axClsT_ok _ (axFnd_mem _ hq0)
      intro g1 g2 H locs ls hI hL
      have hcp := hcap _ _ _ _ hk
      rw [axSl_app] at hcp
      have hcp : h.length + 1 - n0 ≤ R.cells ∧ axSl h + axNf ci - s0 ≤ R.slots := by rw [← axDfN ci hlt]; simpa [axCs] using hcp
      refine va_new (ci := ci) (C := axCn ci) (T := axT ci) (N := axNf ci) (fs := (axDf ci).map (axCv b rb)) F.1 F.2.1 F.2.2.2.2.1 (axLay ci hlt) (axTy ci) (axTyOk ci hlt) F.2.2.2.1 (F.2.2.2.2.1 _ (axTW_mem f1 rfl)) (F.2.2.2.2.1 _ (axInsOk ci hlt)) (F.2.2.2.2.1 _ (axIniOk ci hlt)) F.2.2.2.2.2.1 hI.2.1 (axWs_D h) hI.2.2 (fun q hq => by show b ≤ q; have := F.2.2.2.2.2.2.2; omega) (axClOk ci hlt) (fun j hj => by rw [axDf_cv]; exact axDfOk ci hlt j hj) (by omega) (by omega) hd (fun q H1 hP1 hD1 hS1 => ?_)
      exact axWW_push hn (x := .inr (.inr (ci, axDf ci))) (hK _ _ _ _ hk) g1 g2 (axDfN ci hlt).symm hP1 hD1 hS1 hL
theorem sx_idiv (F : axFx p s m args meth c b rb ca D ro cc nL o) (hn : s.heap.size = b + n0) (hini : ini = true → meth.name = "<init>") (hR : 1 ≤ R.frames ∧ 36 ≤ R.locals) (hcap : ∀ pc' L' S' h', K pc' L' S' h' → h'.length - n0 ≤ R.cells ∧ axSl h' - s0 ≤ R.slots) (hd : decode cc pc = .ok (.idiv, len)) (ht : axTr o ini rt pc (.idiv) len = some ent) (h1 : axOne ro E ent L S h K Q) (hK : ∀ pc' L' S' h', K pc' L' S' h' → axWW p l e R s m args below meth c b rb ca D QQ nL n0 s0 pc' L' S' h') : axWW p l e R s m args below meth c b rb ca D QQ nL n0 s0 pc L S h := by
  obtain ⟨rfl, rfl⟩ := axI_ok ht
  obtain ⟨x, y, S', rfl, hy, hk⟩ := h1
  intro g1 g2 H locs ls hI hL
  exact lv_idiv F.1 F.2.1 hd hy (hK _ _ _ _ hk g1 g2 H locs ls hI hL)
theorem sx_irem (F : axFx p s m args meth c b rb ca D ro cc nL o) (hn : s.heap.size = b + n0) (hini : ini = true → meth.name = "<init>") (hR : 1 ≤ R.frames ∧ 36 ≤ R.locals) (hcap : ∀ pc' L' S' h', K pc' L' S' h' → h'.length - n0 ≤ R.cells ∧ axSl h' - s0 ≤ R.slots) (hd : decode cc pc = .ok (.irem, len)) (ht : axTr o ini rt pc (.irem) len = some ent) (h1 : axOne ro E ent L S h K Q) (hK : ∀ pc' L' S' h', K pc' L' S' h' → axWW p l e R s m args below meth c b rb ca D QQ nL n0 s0 pc' L' S' h') : axWW p l e R s m args below meth c b rb ca D QQ nL n0 s0 pc L S h := by
  obtain ⟨rfl, rfl⟩ := axI_ok ht
  obtain ⟨x, y, S', rfl, hy, hk⟩ := h1
  intro g1 g2 H locs ls hI hL
  exact lv_irem F.1 F.2.1 hd hy (hK _ _ _ _ hk g1 g2 H locs ls hI hL)
end AX8
