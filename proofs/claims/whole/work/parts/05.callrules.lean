/-! CALLS in the logic -/
theorem gPc_blind {G : gG} {D : va_G} {cy : Nat → ClassId} {ad : Nat → Nat} {sz : Nat} {as : List gAV} {σ : gSt} : FrameBlind (gPc G D cy ad sz as σ) := by
  intro a U g mk h
  obtain ⟨h1, h2, h3, h4, h5⟩ := h
  exact ⟨h1, h2, h3, va_K.moved (u := U) (U := U.calling g mk a) (Vm.Alike.refl U.vm) h4, h5.calling⟩
theorem gPc_at {G : gG} {D : va_G} {cy : Nat → ClassId} {ad : Nat → Nat} {as : List gAV} {σ : gSt} {s U : State} {H : Heap} {locs : List Loc} (X : gHx G s D cy ad σ H locs) (hK : va_K D vwCl (gtys cy) s) (hU : U.heap = H) (hW : s.WarmedH U.vm) : gPc G D cy ad H.size as σ (as.map (gv ad)).toArray U := by
  subst hU
  exact ⟨rfl, rfl, X.1, va_K.moved hW.alike hK, X.2.2.warm hW (gA_le X.2.1.1)⟩
theorem vx_run_of {p : Program} {l : Launch} {e : Env} {R : Room} {s : State} {m : MethodId} {args : Array Value} {below : List Frame} {meth : Method} {c : Code} {H : Heap} {locs : List Loc} {cells slots mc ms : Nat} {g : JFrame} {rest : List Value} {Qa : State → Outcome → State → Prop} {XC : String → State → State → Prop} {free : Addr → Prop}
    (h : va_Run p l e R s m args below meth c H locs cells slots mc ms g rest Qa free) : vx_Run p l e R s m args below meth c H locs cells slots mc ms g rest Qa XC free := fun T hT X => Or.inl (h T hT X)
/-- a contract without throws is one of the kit's -/
theorem gEM_met {G : gG} {M : gM} {b : Nat} {as : List gAV} {σ : gSt} {Q : gOut → gSt → Prop} (h : gEM G M b as σ Q) (hn : ∀ k σ', ¬ Q (.inr k) σ') {l : Launch} {D : va_G} {cy : Nat → ClassId} {ad : Nat → Nat} {sz : Nat} (hl : l.stackTraces = false) (hi : gInj G ad) :
    Met l M.y M.ws { frames := M.fr, cells := b, slots := 6 * b, locals := M.lo } (gPc G D cy ad sz as σ) (gQc G D cy ad (gA G ad sz) Q) b (6 * b) (gA G ad sz) := by
  intro p e ha hc hk s m args below hf happ hP hK
  obtain ⟨n, o, h1, h2, h3, h4⟩ := h l D cy ad sz hl hi p e ha hc hk s m args below hf happ hP hK
  refine ⟨n, o, h1, h2, h3, ?_⟩
  rcases h4 with h4 | ⟨q, e1, E, ce, L, ⟨⟨k, σ1, f1, f2, f3⟩, f4⟩, f5⟩
  · exact h4
  · exact absurd f2 (hn k σ1)
section GC
variable {G : gG} {M M' : gM} {b b' pc : Nat} {lv : List (Option gAV)} {σ : gSt} {Q Q' : gOut → gSt → Prop}
theorem g_after {p : Program} {l : Launch} {e : Env} {R : Room} {s : State} {m : MethodId} {args : Array Value} {below : List Frame} {meth : Method} {c : Code} {D : va_G} {cy : Nat → ClassId} {ad : Nat → Nat} {H : Heap} {locs : List Loc} {cells slots mc ms : Nat} {ls : Array Slot} {st0 rest : List Value} {st : List gAV} {a : Array Value}
    (C : gCx G M b p l R s m args meth c D cy ad cells slots mc ms) (X : gHx G s D cy ad σ H locs) (L : gLs ad M.nL lv ls) (hb : b' ≤ b) (hrest : rest = st.map (gv ad))
    (hr : vx_Run p l e R s m args below meth c H locs cells slots b' (6 * b') (F0 m pc ls st0) rest (gQc G D cy ad (gA G ad H.size) Q' a) (gXC G D cy ad (gA G ad H.size) Q') (gA G ad H.size))
    (kr : ∀ (v : Option gAV) (σ' : gSt), Q' (.inl v) σ' → gEx G M (b - b') (pc + 3) lv (v.toList ++ st) σ' Q) (kx : ∀ (k : Nat) (σ' : gSt), Q' (.inr k) σ' → Q (.inr k) σ') :
    W p l e R s m args below meth c H locs cells slots (vx_MQ below (gQc G D cy ad (gA G ad s.heap.size) Q) (gXC G D cy ad (gA G ad s.heap.size) Q) args s mc ms (gA G ad s.heap.size)) (F0 m pc ls st0) := by
  intro T hT Xs
  have hA1 : ∀ q, q < H.size → gA G ad H.size q → gA G ad s.heap.size q := fun q _ h => gA_le X.2.1.1 q h
  have hf1 : ∀ q, gA G ad H.size q → gA G ad s.heap.size q := fun q h => gA_le X.2.1.1 q h
  have hc9 := C.2.2.2.2.2.2.2.1
  have C1 : gCx G M (b - b') p l R s m args meth c D cy ad (cells + b') (slots + 6 * b') mc ms := ⟨C.1, C.2.1, C.2.2.1, C.2.2.2.1, C.2.2.2.2.1, C.2.2.2.2.2.1, C.2.2.2.2.2.2.1, ⟨by omega, by omega⟩, C.2.2.2.2.2.2.2.2⟩
  rcases hr T hT Xs with ⟨v, st₀, t, T', L', h0, X', hL, e1, e2, ⟨⟨v', σ', ev, hQ, hP⟩, hF⟩, step⟩ | ⟨q, st₀, t, T', L', E, ce, h0, X', hL, e1, e2, ⟨⟨k, σ', eE, hQ, hP⟩, hF⟩, hce, hcv, hcl, step⟩
  · obtain ⟨k1, k2, k3⟩ := vx_keep h0 e1 X.2.1 hA1 hf1 hL hF
    cases ev
    have X1 : gHx G s D cy ad σ' T'.heap (locs ++ L') := ⟨by rw [e1]; exact hP, k3, X.2.2.step (fun q h => gA_new h) X.2.1 k3⟩
    obtain ⟨t2, a1, b1⟩ := kr v' σ' hQ p l e R s m args below meth c D cy ad T'.heap (locs ++ L') (cells + b') (slots + 6 * b') mc ms ls C1 X1 L T' rfl X'
    refine ⟨t2, step t2 ?_, b1⟩
    have es : (v'.map (gv ad)).toList ++ rest = (v'.toList ++ st).map (gv ad) := by
      rw [hrest]
      cases v' <;> rfl
    show Steps p.tables e below (T'.setTop (F0 m (pc + 3) ls ((v'.map (gv ad)).toList ++ rest))) t2
    rw [es]
    exact a1
  · obtain ⟨k1, k2, k3⟩ := vx_keep h0 e1 X.2.1 hA1 hf1 hL hF
    subst eE
    have K : vx_W p l e R s m args below meth c T'.heap (locs ++ L') (cells + b') (slots + 6 * b') (vx_MQ below (gQc G D cy ad (gA G ad s.heap.size) Q) (gXC G D cy ad (gA G ad s.heap.size) Q) args s mc ms (gA G ad s.heap.size)) (F0 m pc ls rest) q :=
      vx_out (fun x hx => (C.2.2.2.2.1 x hx).elim) C.2.2.2.2.2.1 (by rw [e1]; exact hce) hcv hcl (fun t9 h9 _ => ⟨⟨k, σ', rfl, kx k σ' hQ, by rw [h9, e1]; exact hP⟩, k3.F h9⟩) k3.2.2 (by omega) (by omega)
    obtain ⟨t2, a1, b1⟩ := K T' rfl X'
    exact ⟨t2, step.trans a1, b1⟩
/-- a call of an object's own method -/
theorem g_callV {n9 o ci index : Nat} {fs : List (Option Nat)} {Cn : String} {T : u_T} {N : Nat} {ws' : List Cond} (as st : List gAV) {stk : List gAV} (h : gEM G M' b' (.inr o :: as) σ Q') (d : decode M.cc pc = .ok (.invokevirtual index, 3)) (hg : GoodIn M.ws (wsV M.y.cls index Cn M'.y M'.ws)) (hw : M'.ws = Cond.code M'.y M'.cc M'.nL M'.ret :: ws')
    (hd : M'.y.cls = Cn ∧ M'.y.cls ≠ "java/lang/invoke/MethodHandle" ∧ M'.y.cls ≠ "java/lang/invoke/VarHandle" ∧ (parseMethodDescriptor M'.y.desc).map (fun d => d.parameters.length) = some n9) (hn9 : as.length = n9) (hR : M'.fr + 1 ≤ M.fr ∧ 8 + (M'.nL + 11) + M'.lo ≤ M.lo)
    (ho : o ∈ G.1) (hs : G.2 o = .inr (ci, fs)) (hc : vwCl[ci]? = some (Cn, T, N)) (hst : stk = as.reverse ++ .inr o :: st) (hl : st.length ≤ 8) (hb : b' ≤ b)
    (kr : ∀ (v : Option gAV) (σ' : gSt), Q' (.inl v) σ' → gEx G M (b - b') (pc + 3) lv (v.toList ++ st) σ' Q) (kx : ∀ (k : Nat) (σ' : gSt), Q' (.inr k) σ' → Q (.inr k) σ') : gEx G M b pc lv stk σ Q := by
  subst hn9
  intro p l e R s m args below meth c D cy ad H locs cells slots mc ms ls C X L
  have hc9 := C.2.2.2.2.2.2.2.1
  have hr9 := C.2.2.2.1
  obtain ⟨i0, -, hw0⟩ := gws_at (cy := cy) (ad := ad) (σ := σ) ho hs
  refine g_after (b' := b') (Q' := Q') (st := st) (rest := st.map (gv ad)) (a := ((.inr o :: as).map (gv ad)).toArray) C X L hb rfl ?_ kr kx
  exact vx_runV (As := as.map (gv ad)) (rest := st.map (gv ad)) (b := ad o) C.1 (h l D cy ad H.size C.2.1 C.2.2.1) (cwV as.length C.1.2.2.2.2 hg hw rfl rfl hd ⟨by show M'.fr + 1 ≤ R.frames; omega, by show 8 + (M'.nL + 11) + M'.lo ≤ R.locals; omega⟩)
    ⟨gPc_blind, va_recv C.2.2.2.2.2.2.1 (gws_P X.1) hc hw0, fun U hU hW => gPc_at (as := .inr o :: as) X C.2.2.2.2.2.2.1 hU hW⟩ rfl (by rw [List.length_map]) (L.1) (by show stk.map (gv ad) = _; rw [hst, List.map_append, List.map_reverse]; rfl) (lv_room (by rw [gv_sum]; exact hl)) d ⟨by omega, by omega⟩
/-- a static call -/
theorem g_callS {n9 index : Nat} {ws' : List Cond} (as st : List gAV) {stk : List gAV} (h : gEM G M' b' as σ Q') (d : decode M.cc pc = .ok (.invokestatic index, 3)) (hg : GoodIn M.ws (va_wsS M.y.cls index M'.y M'.ws)) (hw : M'.ws = Cond.code M'.y M'.cc M'.nL M'.ret :: ws')
    (hd : M'.y.cls ≠ "java/lang/invoke/MethodHandle" ∧ M'.y.cls ≠ "java/lang/invoke/VarHandle" ∧ (parseMethodDescriptor M'.y.desc).map (fun d => d.parameters.length) = some n9) (hn9 : as.length = n9) (hR : M'.fr + 1 ≤ M.fr ∧ 8 + (M'.nL + 11) + M'.lo ≤ M.lo)
    (hst : stk = as.reverse ++ st) (hl : st.length ≤ 8) (hb : b' ≤ b)
    (kr : ∀ (v : Option gAV) (σ' : gSt), Q' (.inl v) σ' → gEx G M (b - b') (pc + 3) lv (v.toList ++ st) σ' Q) (kx : ∀ (k : Nat) (σ' : gSt), Q' (.inr k) σ' → Q (.inr k) σ') : gEx G M b pc lv stk σ Q := by
  subst hn9
  intro p l e R s m args below meth c D cy ad H locs cells slots mc ms ls C X L
  have hc9 := C.2.2.2.2.2.2.2.1
  have hr9 := C.2.2.2.1
  refine g_after (b' := b') (Q' := Q') (st := st) (rest := st.map (gv ad)) (a := (as.map (gv ad)).toArray) C X L hb rfl ?_ kr kx
  exact vx_runS (As := as.map (gv ad)) (rest := st.map (gv ad)) C.1 (h l D cy ad H.size C.2.1 C.2.2.1) (va_cwS as.length C.1.2.2.2.2 hg hw rfl rfl hd ⟨by show M'.fr + 1 ≤ R.frames; omega, by show 8 + (M'.nL + 11) + M'.lo ≤ R.locals; omega⟩)
    ⟨gPc_blind, fun U hU hW => gPc_at (as := as) X C.2.2.2.2.2.2.1 hU hW⟩ rfl (by rw [List.length_map]) (L.1) (by show stk.map (gv ad) = _; rw [hst, List.map_append, List.map_reverse]) (lv_room (by rw [gv_sum]; exact hl)) d ⟨by omega, by omega⟩
/-- a static call of a nest mate's private method, which doesn't throw -/
theorem g_callSN {n9 index : Nat} {host : String} {ws' : List Cond} (as st : List gAV) {stk : List gAV} (h : gEM G M' b' as σ Q') (d : decode M.cc pc = .ok (.invokestatic index, 3)) (hg : GoodIn M.ws M'.ws) (hw : M'.ws = Cond.code M'.y M'.cc M'.nL M'.ret :: ws') (hn : Cond.methodLinkNest M.y.cls index M'.y host ∈ gNest) (hini : Cond.initialized M'.y.cls ∈ M.ws) (hsta : Cond.static M'.y ∈ M.ws)
    (hd : M'.y.cls ≠ "java/lang/invoke/MethodHandle" ∧ M'.y.cls ≠ "java/lang/invoke/VarHandle" ∧ (parseMethodDescriptor M'.y.desc).map (fun d => d.parameters.length) = some n9) (hn9 : as.length = n9) (hR : M'.fr + 1 ≤ M.fr ∧ 8 + (M'.nL + 11) + M'.lo ≤ M.lo)
    (hst : stk = as.reverse ++ st) (hl : st.length ≤ 8) (hb : b' ≤ b)
    (kr : ∀ (v : Option gAV) (σ' : gSt), Q' (.inl v) σ' → gEx G M (b - b') (pc + 3) lv (v.toList ++ st) σ' Q) (kx : ∀ (k : Nat) (σ' : gSt), ¬ Q' (.inr k) σ') : gEx G M b pc lv stk σ Q := by
  subst hn9
  intro p l e R s m args below meth c D cy ad H locs cells slots mc ms ls C X L
  have hc9 := C.2.2.2.2.2.2.2.1
  have hr9 := C.2.2.2.1
  refine g_after (b' := b') (Q' := Q') (st := st) (rest := st.map (gv ad)) (a := (as.map (gv ad)).toArray) C X L hb rfl (vx_run_of ?_) kr (fun k σ' hq => absurd hq (kx k σ'))
  exact va_runSN (As := as.map (gv ad)) (rest := st.map (gv ad)) C.1 (gEM_met h kx C.2.1 C.2.2.1) ⟨va_cnB as.length C.1.2.2.2.2 hg hw rfl rfl (X.2.2.1 _ hn) (C.1.2.2.2.2 _ hini) hd ⟨by show M'.fr + 1 ≤ R.frames; omega, by show 8 + (M'.nL + 11) + M'.lo ≤ R.locals; omega⟩, C.1.2.2.2.2 _ hsta, trivial⟩
    ⟨gPc_blind, fun U hU hW => gPc_at (as := as) X C.2.2.2.2.2.2.1 hU hW⟩ rfl (by rw [List.length_map]) (L.1) (by show stk.map (gv ad) = _; rw [hst, List.map_append, List.map_reverse]) (lv_room (by rw [gv_sum]; exact hl)) d ⟨by omega, by omega⟩
end GC
