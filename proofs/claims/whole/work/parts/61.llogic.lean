/-! THE LAW'S OWN METHODS: wrappers that catch -/
abbrev mL_cell : gM := (yL_cell, cL_cell, 2, Cond.code yL_cell cL_cell 2 (some .int) :: wsU, 0, 0, (some .int))
abbrev mL_prepare : gM := (yL_prepare, cL_prepare, 4, Cond.codeWith yL_prepare cL_prepare 4 (some .int) [(0, 16, 19, 13)] :: wsU, 8, 132, (some .int))
abbrev mL_refuse : gM := (yL_refuse, cL_refuse, 4, Cond.codeWith yL_refuse cL_refuse 4 (some .int) [(0, 16, 19, 13)] :: wsU, 8, 132, (some .int))
abbrev mL_resend : gM := (yL_resend, cL_resend, 4, Cond.codeWith yL_resend cL_resend 4 (some .int) [(0, 16, 19, 13)] :: wsU, 8, 134, (some .int))
abbrev mL_question : gM := (yL_question, cL_question, 4, Cond.codeWith yL_question cL_question 4 (some .int) [(0, 16, 19, 13)] :: wsU, 8, 133, (some .int))
abbrev mL_begin : gM := (yL_begin, cL_begin, 4, Cond.codeWith yL_begin cL_begin 4 (some .int) [(0, 9, 12, 13)] :: wsU, 8, 136, (some .int))
abbrev mL_deliver : gM := (yL_deliver, cL_deliver, 4, Cond.codeWith yL_deliver cL_deliver 4 (some .int) [(0, 9, 12, 13)] :: wsU, 8, 174, (some .int))
abbrev mL_drop : gM := (yL_drop, cL_drop, 3, Cond.codeWith yL_drop cL_drop 3 (some .int) [(0, 5, 8, 13)] :: wsU, 8, 132, (some .int))
abbrev mL_copy : gM := (yL_copy, cL_copy, 4, Cond.codeWith yL_copy cL_copy 4 (some .int) [(0, 9, 12, 13)] :: wsU, 8, 132, (some .int))
abbrev mL_calm : gM := (yL_calm, cL_calm, 4, Cond.codeWith yL_calm cL_calm 4 (some .int) [(0, 9, 12, 41)] :: wsU, 7, 175, (some .int))
abbrev mL_crash : gM := (yL_crash, cL_crash, 5, Cond.codeWith yL_crash cL_crash 5 (some .int) [(0, 17, 20, 41), (0, 17, 24, 13)] :: wsU, 9, 156, (some .int))
abbrev mL_recover : gM := (yL_recover, cL_recover, 5, Cond.codeWith yL_recover cL_recover 5 (some .int) [(0, 17, 20, 41), (0, 17, 24, 13)] :: wsU, 9, 157, (some .int))
abbrev mL_message : gM := (yL_message, cL_message, 5, Cond.codeWith yL_message cL_message 5 (some .int) [(0, 10, 13, 13)] :: wsU, 8, 133, (some .int))
abbrev mL_told : gM := (yL_told, cL_told, 6, Cond.codeWith yL_told cL_told 6 (some .int) [(0, 12, 15, 13)] :: wsU, 8, 135, (some .int))
abbrev mL_manager : gM := (yL_manager, cL_manager, 5, Cond.codeWith yL_manager cL_manager 5 (some .int) [(0, 10, 13, 13)] :: wsU, 8, 134, (some .int))
abbrev mL_acceptor : gM := (yL_acceptor, cL_acceptor, 6, Cond.codeWith yL_acceptor cL_acceptor 6 (some .int) [(0, 12, 15, 13)] :: wsU, 8, 135, (some .int))
abbrev mL_leader : gM := (yL_leader, cL_leader, 5, Cond.codeWith yL_leader cL_leader 5 (some .int) [(0, 10, 13, 13)] :: wsU, 8, 134, (some .int))
abbrev mL_outcome : gM := (yL_outcome, cL_outcome, 5, Cond.codeWith yL_outcome cL_outcome 5 (some .int) [(0, 10, 13, 13)] :: wsU, 8, 133, (some .int))
abbrev mL_seen : gM := (yL_seen, cL_seen, 6, Cond.codeWith yL_seen cL_seen 6 (some .int) [(0, 12, 15, 13)] :: wsU, 8, 134, (some .int))
abbrev mL_chosen : gM := (yL_chosen, cL_chosen, 4, Cond.codeWith yL_chosen cL_chosen 4 (some .int) [(0, 9, 12, 13)] :: wsU, 8, 132, (some .int))
def lA (R A : Nat) (ad1 ad2 : Nat → Nat) (o sz : Nat) : Nat → Prop := fun q => (∃ k, k ∈ (cG R A).1 ∧ ad1 k = q) ∨ (∃ k, k ∈ mG.1 ∧ ad2 k = q) ∨ q = o ∨ sz ≤ q
def lWf (R A : Nat) (ad1 ad2 : Nat → Nat) (o : Nat) : Prop := gInj (cG R A) ad1 ∧ gInj mG ad2 ∧ (∀ k j, k ∈ (cG R A).1 → j ∈ mG.1 → ad1 k ≠ ad2 j) ∧ (∀ k, k ∈ (cG R A).1 → ad1 k ≠ o) ∧ ∀ k, k ∈ mG.1 → ad2 k ≠ o
def lOut (cl : ClassId) (o : Nat) (f : Int64) (H : Heap) : Prop := H[o]? = some (vp_cell cl (1, .inr (.inl (fun _ => f))))
def lH (R A : Nat) (D : va_G) (cy : Nat → ClassId) (cl : ClassId) (ad1 ad2 : Nat → Nat) (o : Nat) (σ1 σ2 : gSt) (f : Int64) (H : Heap) : Prop := gP (cG R A) D cy ad1 σ1 H ∧ gP mG D cy ad2 σ2 H ∧ lOut cl o f H
def lK (D : va_G) (cy : Nat → ClassId) (cl : ClassId) (U : State) : Prop := va_K D vwCl (gtys cy ++ [(cl, .long)]) U
theorem lK.g {D : va_G} {cy : Nat → ClassId} {cl : ClassId} {U : State} (h : lK D cy cl U) : va_K D vwCl (gtys cy) U := va_K.sub h [0, 1, 2, 3, 4, 5] rfl
def lEnv (A : Nat → Prop) (U : State) (H : Heap) : Prop := gEnv A U H ∧ va_Nc (gE 0) (gE 1) U
theorem lEnv.warm {A B : Nat → Prop} {s U : State} {H : Heap} (h : lEnv A s H) (hW : s.WarmedH U.vm) (hAB : ∀ q, B q → A q) : lEnv B U H := ⟨h.1.warm hW hAB, h.2.moved hW.alike⟩
theorem lEnv.step {A : Nat → Prop} {s : State} {H H1 : Heap} {locs locs1 : List Loc} (h : lEnv A s H) (hA : ∀ q, s.heap.size ≤ q → A q) (h0 : va_S A s.heap H locs) (h1 : va_S A s.heap H1 locs1) : lEnv A s H1 := ⟨h.1.step hA h0 h1, h.2⟩
theorem lEnv.calling {A : Nat → Prop} {U : State} {H : Heap} {g : JFrame} {mk : MethodId} {a : Array Value} (h : lEnv A U H) : lEnv A (U.calling g mk a) H := ⟨h.1.calling, h.2.moved (Vm.Alike.refl U.vm)⟩
section LA
variable {R A : Nat} {ad1 ad2 : Nat → Nat} {o sz : Nat}
theorem lA_c {q : Nat} {sz' : Nat} (h : gA (cG R A) ad1 sz' q) (hs : sz ≤ sz') : lA R A ad1 ad2 o sz q := h.elim Or.inl (fun z => Or.inr (Or.inr (Or.inr (Nat.le_trans hs z))))
theorem lA_m {q : Nat} {sz' : Nat} (h : gA mG ad2 sz' q) (hs : sz ≤ sz') : lA R A ad1 ad2 o sz q := h.elim (fun z => Or.inr (Or.inl z)) (fun z => Or.inr (Or.inr (Or.inr (Nat.le_trans hs z))))
theorem lA_n {q : Nat} (h : sz ≤ q) : lA R A ad1 ad2 o sz q := Or.inr (Or.inr (Or.inr h))
theorem lA_le {q sz' : Nat} (hs : sz ≤ sz') (h : lA R A ad1 ad2 o sz' q) : lA R A ad1 ad2 o sz q := by
  rcases h with h | h | h | h
  · exact Or.inl h
  · exact Or.inr (Or.inl h)
  · exact Or.inr (Or.inr (Or.inl h))
  · exact Or.inr (Or.inr (Or.inr (Nat.le_trans hs h)))
end LA
/-- what a call of the class leaves as it was -/
theorem lH_c {R A : Nat} {D : va_G} {cy : Nat → ClassId} {cl : ClassId} {ad1 ad2 : Nat → Nat} {o : Nat} {σ1 σ2 σ1' : gSt} {f : Int64} {H H1 : Heap} (hw : lWf R A ad1 ad2 o) (h : lH R A D cy cl ad1 ad2 o σ1 σ2 f H) (h1 : gP (cG R A) D cy ad1 σ1' H1) (hk : ∀ q : Nat, q < H.size → ¬ gA (cG R A) ad1 H.size q → H1[q]? = H[q]?) : lH R A D cy cl ad1 ad2 o σ1' σ2 f H1 := by
  have hlt : o < H.size := (Array.getElem?_eq_some_iff.mp h.2.2).1
  refine ⟨h1, gP_kept h.2.1 (fun k hk2 => hk _ (h.2.1 k hk2).lt (fun z => ?_)), ?_⟩
  · rcases z with ⟨j, hj, e⟩ | z
    · exact hw.2.2.1 j k hj hk2 e
    · exact absurd (h.2.1 k hk2).lt (Nat.not_lt.mpr z)
  · show H1[o]? = _
    rw [hk o hlt (fun z => by
      rcases z with ⟨j, hj, e⟩ | z
      · exact hw.2.2.2.1 j hj e
      · exact absurd hlt (Nat.not_lt.mpr z))]
    exact h.2.2
theorem lH_m {R A : Nat} {D : va_G} {cy : Nat → ClassId} {cl : ClassId} {ad1 ad2 : Nat → Nat} {o : Nat} {σ1 σ2 σ2' : gSt} {f : Int64} {H H1 : Heap} (hw : lWf R A ad1 ad2 o) (h : lH R A D cy cl ad1 ad2 o σ1 σ2 f H) (h1 : gP mG D cy ad2 σ2' H1) (hk : ∀ q : Nat, q < H.size → ¬ gA mG ad2 H.size q → H1[q]? = H[q]?) : lH R A D cy cl ad1 ad2 o σ1 σ2' f H1 := by
  have hlt : o < H.size := (Array.getElem?_eq_some_iff.mp h.2.2).1
  refine ⟨gP_kept h.1 (fun k hk2 => hk _ (h.1 k hk2).lt (fun z => ?_)), h1, ?_⟩
  · rcases z with ⟨j, hj, e⟩ | z
    · exact hw.2.2.1 k j hk2 hj e.symm
    · exact absurd (h.1 k hk2).lt (Nat.not_lt.mpr z)
  · show H1[o]? = _
    rw [hk o hlt (fun z => by
      rcases z with ⟨j, hj, e⟩ | z
      · exact hw.2.2.2.2 j hj e
      · exact absurd hlt (Nat.not_lt.mpr z))]
    exact h.2.2
def lPc (R A : Nat) (D : va_G) (cy : Nat → ClassId) (cl : ClassId) (ad1 ad2 : Nat → Nat) (o sz : Nat) (as : List Value) (σ1 σ2 : gSt) (f : Int64) : Array Value → State → Prop :=
  va_Pc as (fun U => U.heap.size = sz ∧ lH R A D cy cl ad1 ad2 o σ1 σ2 f U.heap ∧ lK D cy cl U ∧ lEnv (lA R A ad1 ad2 o sz) U U.heap)
def lQc (R A : Nat) (D : va_G) (cy : Nat → ClassId) (cl : ClassId) (ad1 ad2 : Nat → Nat) (o sz : Nat) (σ2 : gSt) (Q : Int32 → gSt → Int64 → Prop) : Array Value → State → Outcome → State → Prop := fun _ st oc t =>
  (∃ (r : Int32) (σ1 : gSt) (f : Int64), oc = .returned (some (.int r)) ∧ Q r σ1 f ∧ lH R A D cy cl ad1 ad2 o σ1 σ2 f t.heap) ∧ va_F (lA R A ad1 ad2 o sz) st t
/-- an argument: an int, or which of the two cells -/
def lar (ad1 : Nat → Nat) (o : Nat) : Int32 ⊕ Bool → Value
  | .inl i => .int i
  | .inr true => .ref (ad1 0)
  | .inr false => .ref o
def lEM (R A : Nat) (M : gM) (as : List (Int32 ⊕ Bool)) (σ1 σ2 : gSt) (f : Int64) (Q : Int32 → gSt → Int64 → Prop) : Prop :=
  ∀ (l : Launch) (D : va_G) (cy : Nat → ClassId) (cl : ClassId) (ad1 ad2 : Nat → Nat) (o sz : Nat), l.stackTraces = false → lWf R A ad1 ad2 o →
    Met l M.y M.ws { frames := M.fr, cells := 1, slots := 6, locals := M.lo } (lPc R A D cy cl ad1 ad2 o sz (as.map (lar ad1 o)) σ1 σ2 f) (lQc R A D cy cl ad1 ad2 o sz σ2 Q) 1 6 (lA R A ad1 ad2 o sz)
/-- rows of an exception table -/
def lRow (x : Nat × Nat × Nat × Nat) : ExceptionTableEntry := { startPc := x.1, endPc := x.2.1, handlerPc := x.2.2.1, catchType := x.2.2.2 }
def lCx (R A : Nat) (M : gM) (hh : List (Nat × Nat × Nat × Nat)) (b : Nat) (p : Program) (l : Launch) (Rm : Room) (s : State) (m : MethodId) (args : Array Value) (meth : Method) (c : Code) (D : va_G) (cy : Nat → ClassId) (cl : ClassId) (ad1 ad2 : Nat → Nat) (o cells slots : Nat) : Prop :=
  (p.tables.exec = Jvm.exec ∧ c.code = M.cc ∧ c.maxLocals = M.nL ∧ s.vm.findClass M.y.cls = some m.cls ∧ (∀ w ∈ M.ws, w.before args s = true)) ∧ l.stackTraces = false ∧ lWf R A ad1 ad2 o ∧
  (M.fr ≤ Rm.frames ∧ M.lo ≤ Rm.locals ∧ 1 ≤ Rm.cells ∧ 6 ≤ Rm.slots) ∧ c.exceptionTable.toList = hh.map lRow ∧ meth.locks = false ∧ lK D cy cl s ∧ (cells + b ≤ 1 ∧ slots + 6 * b ≤ 6) ∧ meth.sig.returnType = M.ret
def lHx (R A : Nat) (s : State) (D : va_G) (cy : Nat → ClassId) (cl : ClassId) (ad1 ad2 : Nat → Nat) (o : Nat) (σ1 σ2 : gSt) (f : Int64) (H : Heap) (locs : List Loc) : Prop :=
  lH R A D cy cl ad1 ad2 o σ1 σ2 f H ∧ va_S (lA R A ad1 ad2 o s.heap.size) s.heap H locs ∧ lEnv (lA R A ad1 ad2 o s.heap.size) s H
def lEx (R A : Nat) (M : gM) (hh : List (Nat × Nat × Nat × Nat)) (ad1 : Nat → Nat) (o b pc : Nat) (lv : List (Nat × Value)) (st : List Value) (σ1 σ2 : gSt) (f : Int64) (Q : Int32 → gSt → Int64 → Prop) : Prop :=
  ∀ (p : Program) (l : Launch) (e : Env) (Rm : Room) (s : State) (m : MethodId) (args : Array Value) (below : List Frame) (meth : Method) (c : Code) (D : va_G) (cy : Nat → ClassId) (cl : ClassId) (ad2 : Nat → Nat) (H : Heap) (locs : List Loc) (cells slots : Nat) (ls : Array Slot),
    lCx R A M hh b p l Rm s m args meth c D cy cl ad1 ad2 o cells slots → lHx R A s D cy cl ad1 ad2 o σ1 σ2 f H locs → lv_has ls M.nL lv →
    W p l e Rm s m args below meth c H locs cells slots (vx_MQ below (lQc R A D cy cl ad1 ad2 o s.heap.size σ2 Q) kNo args s 1 6 (lA R A ad1 ad2 o s.heap.size)) (F0 m pc ls st)
theorem lEM_of {R A : Nat} {M : gM} {hh : List (Nat × Nat × Nat × Nat)} {as : List (Int32 ⊕ Bool)} {σ1 σ2 : gSt} {f : Int64} {Q : Int32 → gSt → Int64 → Prop} {ws' : List Cond} (hy : plainName M.y.cls = true) (hw : M.ws = Cond.codeWith M.y M.cc M.nL M.ret hh :: ws') (hn : as.length ≤ M.nL)
    (k : ∀ (ad1 : Nat → Nat) (o : Nat), lEx R A M hh ad1 o 1 0 (lv_args 0 (as.map (lar ad1 o))) [] σ1 σ2 f Q) : lEM R A M as σ1 σ2 f Q := by
  intro l D cy cl ad1 ad2 o sz hl hwf
  have hx : vx_Met l M.y M.ws { frames := M.fr, cells := 1, slots := 6, locals := M.lo } (lPc R A D cy cl ad1 ad2 o sz (as.map (lar ad1 o)) σ1 σ2 f) (lQc R A D cy cl ad1 ad2 o sz σ2 Q) kNo 1 6 (lA R A ad1 ad2 o sz) := by
    refine vx_ofWH (cc := M.cc) (maxL := M.nL) (ret := M.ret) hy hw ?_
    intro p e s m args below meth c s₁ B hml hv
    obtain ⟨hargs, hsz, hH, hK, hE⟩ := hv
    subst hsz
    subst hargs
    rw [lg_entry_eq]
    have hcat : ∀ (as : List (Int32 ⊕ Bool)), (lg_sl (as.map (lar ad1 o))).length = as.length := fun as => by
      induction as with
      | nil => rfl
      | cons a t ih =>
        unfold lg_sl at ih ⊢
        rw [List.map_cons, List.flatMap_cons, List.length_append, ih]
        cases a with
        | inl i => show 1 + t.length = t.length + 1; omega
        | inr b => cases b <;> (show 1 + t.length = t.length + 1; omega)
    have ht : c.exceptionTable.toList = hh.map lRow := by
      obtain ⟨m9, meth9, c9, hn9, h1, h2, -, -, h7, -⟩ := Cond.codeWith_spec (atoms_spec (ws := M.ws) B.pre _ (by rw [hw]; exact List.mem_cons_self))
      cases B.named.symm.trans hn9
      cases Option.some.inj (h1.symm.trans B.method)
      cases Option.some.inj (h2.symm.trans (Stand.of_body B).code)
      rw [← h7, List.map_map]
      have e9 : (lRow ∘ fun h : ExceptionTableEntry => (h.startPc, h.endPc, h.handlerPc, h.catchType)) = id := by
        funext z
        rfl
      rw [e9, List.map_id]
    exact k ad1 o p l e _ s m _ below meth c D cy cl ad2 s.heap [] 0 0 _ ⟨⟨B.exec, B.bytes, hml, findClass_of_methodNamed B.named, atoms_spec (ws := M.ws) B.pre⟩, hl, hwf, ⟨Nat.le_refl _, Nat.le_refl _, Nat.le_refl _, Nat.le_refl _⟩, ht, B.notSynchronized, hK, ⟨by omega, by omega⟩, B.returns⟩ ⟨hH, va_S.rf, hE⟩ (lv_entry _ (by rw [hcat]; exact hn))
  intro p e ha hc hk s m args below hf happ hP hK
  obtain ⟨n, o, h1, h2, h3, h4⟩ := hx p e ha hc hk s m args below hf happ hP hK
  refine ⟨n, o, h1, h2, h3, ?_⟩
  rcases h4 with h4 | ⟨q, e1, E, ce, L, f2, f5⟩
  · exact h4
  · exact absurd f2 (fun h => h)
section LR
variable {R A : Nat} {M : gM} {hh : List (Nat × Nat × Nat × Nat)} {ad1 : Nat → Nat} {o b pc : Nat} {lv : List (Nat × Value)} {st : List Value} {σ1 σ2 : gSt} {f : Int64} {Q : Int32 → gSt → Int64 → Prop}
theorem l_iconst {n' : Int} (v : Int32) (d : decode M.cc pc = .ok (.iconst n', 1)) (hv : Int32.ofInt n' = v) (k : lEx R A M hh ad1 o b (pc + 1) lv (.int v :: st) σ1 σ2 f Q) : lEx R A M hh ad1 o b pc lv st σ1 σ2 f Q := by
  intro p l e Rm s m args below meth c D cy cl ad2 H locs cells slots ls C X L
  exact lv_iconst C.1.1 C.1.2.1 d hv (k p l e Rm s m args below meth c D cy cl ad2 H locs cells slots ls C X L)
theorem l_iload_n {i : Fin 4} {x : Int32} (d : decode M.cc pc = .ok (.iload_n i, 1)) (h : ((i : Nat), Value.int x) ∈ lv) (k : lEx R A M hh ad1 o b (pc + 1) lv (.int x :: st) σ1 σ2 f Q) : lEx R A M hh ad1 o b pc lv st σ1 σ2 f Q := by
  intro p l e Rm s m args below meth c D cy cl ad2 H locs cells slots ls C X L
  exact lv_iload_n C.1.1 C.1.2.1 d rfl (L.2.2 _ h) (k p l e Rm s m args below meth c D cy cl ad2 H locs cells slots ls C X L)
theorem l_iload {i : Nat} {x : Int32} (d : decode M.cc pc = .ok (.iload i, 2)) (h : (i, Value.int x) ∈ lv) (k : lEx R A M hh ad1 o b (pc + 2) lv (.int x :: st) σ1 σ2 f Q) : lEx R A M hh ad1 o b pc lv st σ1 σ2 f Q := by
  intro p l e Rm s m args below meth c D cy cl ad2 H locs cells slots ls C X L
  exact lv_iload C.1.1 C.1.2.1 d (L.2.2 _ h) (k p l e Rm s m args below meth c D cy cl ad2 H locs cells slots ls C X L)
theorem l_aload_n {i : Fin 4} {x : Nat} (d : decode M.cc pc = .ok (.aload_n i, 1)) (h : ((i : Nat), Value.ref x) ∈ lv) (k : lEx R A M hh ad1 o b (pc + 1) lv (.ref x :: st) σ1 σ2 f Q) : lEx R A M hh ad1 o b pc lv st σ1 σ2 f Q := by
  intro p l e Rm s m args below meth c D cy cl ad2 H locs cells slots ls C X L
  exact lv_aload_n C.1.1 C.1.2.1 d rfl (L.2.2 _ h) (k p l e Rm s m args below meth c D cy cl ad2 H locs cells slots ls C X L)
theorem l_aload {i : Nat} {x : Nat} (d : decode M.cc pc = .ok (.aload i, 2)) (h : (i, Value.ref x) ∈ lv) (k : lEx R A M hh ad1 o b (pc + 2) lv (.ref x :: st) σ1 σ2 f Q) : lEx R A M hh ad1 o b pc lv st σ1 σ2 f Q := by
  intro p l e Rm s m args below meth c D cy cl ad2 H locs cells slots ls C X L
  exact lv_aload C.1.1 C.1.2.1 d (L.2.2 _ h) (k p l e Rm s m args below meth c D cy cl ad2 H locs cells slots ls C X L)
theorem l_astore_n {i : Fin 4} {x : Nat} (d : decode M.cc pc = .ok (.astore_n i, 1)) (hn : (i : Nat) < M.nL) (k : lEx R A M hh ad1 o b (pc + 1) [] st σ1 σ2 f Q) : lEx R A M hh ad1 o b pc lv (.ref x :: st) σ1 σ2 f Q := by
  intro p l e Rm s m args below meth c D cy cl ad2 H locs cells slots ls C X L
  exact lv_astore_n C.1.1 C.1.2.1 d rfl L hn rfl (fun ls1 h1 => k p l e Rm s m args below meth c D cy cl ad2 H locs cells slots ls1 C X ⟨h1.1, h1.2.1, fun q h => by cases h⟩)
theorem l_astore {i : Nat} {x : Nat} (d : decode M.cc pc = .ok (.astore i, 2)) (hn : i < M.nL) (k : lEx R A M hh ad1 o b (pc + 2) [] st σ1 σ2 f Q) : lEx R A M hh ad1 o b pc lv (.ref x :: st) σ1 σ2 f Q := by
  intro p l e Rm s m args below meth c D cy cl ad2 H locs cells slots ls C X L
  exact lv_astore C.1.1 C.1.2.1 d L hn rfl (fun ls1 h1 => k p l e Rm s m args below meth c D cy cl ad2 H locs cells slots ls1 C X ⟨h1.1, h1.2.1, fun q h => by cases h⟩)
theorem l_lconst {n' : Fin 2} (v : Int64) (d : decode M.cc pc = .ok (.lconst n', 1)) (hv : Int64.ofNat (n' : Nat) = v) (k : lEx R A M hh ad1 o b (pc + 1) lv (.long v :: st) σ1 σ2 f Q) : lEx R A M hh ad1 o b pc lv st σ1 σ2 f Q := by
  intro p l e Rm s m args below meth c D cy cl ad2 H locs cells slots ls C X L
  exact lv_lconst C.1.1 C.1.2.1 d hv (k p l e Rm s m args below meth c D cy cl ad2 H locs cells slots ls C X L)
theorem l_i2l {x : Int32} (d : decode M.cc pc = .ok (.i2l, 1)) (k : lEx R A M hh ad1 o b (pc + 1) lv (.long x.toInt64 :: st) σ1 σ2 f Q) : lEx R A M hh ad1 o b pc lv (.int x :: st) σ1 σ2 f Q := by
  intro p l e Rm s m args below meth c D cy cl ad2 H locs cells slots ls C X L
  exact lv_i2l C.1.1 C.1.2.1 d rfl (k p l e Rm s m args below meth c D cy cl ad2 H locs cells slots ls C X L)
theorem l_goto {off : Int} (tgt : Nat) (d : decode M.cc pc = .ok (.goto off, 3)) (ht : (pc : Int) + off = (tgt : Int)) (k : lEx R A M hh ad1 o b tgt lv st σ1 σ2 f Q) : lEx R A M hh ad1 o b pc lv st σ1 σ2 f Q := by
  intro p l e Rm s m args below meth c D cy cl ad2 H locs cells slots ls C X L
  exact lv_goto C.1.1 C.1.2.1 d ht (k p l e Rm s m args below meth c D cy cl ad2 H locs cells slots ls C X L)
theorem l_if_eq {x : Int32} {off : Int} (tgt : Nat) (d : decode M.cc pc = .ok (.ifCond .eq off, 3)) (ht : (pc : Int) + off = (tgt : Int)) (kt : x = 0 → lEx R A M hh ad1 o b tgt lv st σ1 σ2 f Q) (kf : ¬ x = 0 → lEx R A M hh ad1 o b (pc + 3) lv st σ1 σ2 f Q) : lEx R A M hh ad1 o b pc lv (.int x :: st) σ1 σ2 f Q := by
  intro p l e Rm s m args below meth c D cy cl ad2 H locs cells slots ls C X L
  exact lv_if_eq C.1.1 C.1.2.1 d ht (fun h => kt h p l e Rm s m args below meth c D cy cl ad2 H locs cells slots ls C X L) (fun h => kf h p l e Rm s m args below meth c D cy cl ad2 H locs cells slots ls C X L)
/-- out[0] = x -/
theorem l_last {x : Int64} (d : decode M.cc pc = .ok (.lastore, 1)) (k : lEx R A M hh ad1 o b (pc + 1) lv st σ1 σ2 x Q) : lEx R A M hh ad1 o b pc lv (.long x :: .int (nI 0) :: .ref o :: st) σ1 σ2 f Q := by
  intro p l e Rm s m args below meth c D cy cl ad2 H locs cells slots ls C X L
  have e0 : (nI 0).toNatClampNeg = 0 := nI_clamp (by decide)
  refine W.last C.1.1 C.1.2.1 X.1.2.2 ((C.2.2.2.2.2.2.1.2 6 (cl, .long) rfl).1 1 (fun _ => .long f)) (fun q => by cases q) (by show ¬ (nI 0 < 0 ∨ (arrV _ _ _).slots.size ≤ _); rw [arrV_size]; exact vp_inN (n := 1) (by decide) (by decide)) rfl rfl d fun H1 e1 z1 oq => ?_
  have hS : va_S (lA R A ad1 ad2 o s.heap.size) s.heap H1 (locs ++ [⟨o, (nI 0).toNatClampNeg⟩]) := X.2.1.put z1 oq (Or.inr (Or.inr (Or.inl rfl)))
  have hw := C.2.2.1
  refine k p l e Rm s m args below meth c D cy cl ad2 H1 _ cells slots ls C ⟨⟨gP_kept X.1.1 (fun k hk => oq _ (hw.2.2.2.1 k hk)), gP_kept X.1.2.1 (fun k hk => oq _ (hw.2.2.2.2 k hk)), ?_⟩, hS, X.2.2.step (fun q h => lA_n h) X.2.1 hS⟩ L
  show H1[o]? = _
  rw [e1, vp_cell_l, vp_cell_l, arrV_store]
  congr 1
theorem l_iret {x : Int32} (d : decode M.cc pc = .ok (.ireturn, 1)) (hr : M.ret = some .int) (hq : Q x σ1 f) : lEx R A M hh ad1 o b pc lv [.int x] σ1 σ2 f Q := by
  intro p l e Rm s m args below meth c D cy cl ad2 H locs cells slots ls C X L
  have hlocks : meth.locks = false := C.2.2.2.2.2.1
  refine vx_ret (W.widen (k := 1) (n := 6) (by have := C.2.2.2.2.2.2.2.1; omega) (by have := C.2.2.2.2.2.2.2.1; omega) ?_)
  exact W.iret (v := x) C.1.1 C.1.2.1 (C.2.2.2.2.2.2.2.2.trans hr) (fun t ht hW => ⟨⟨x, σ1, f, rfl, hq, by rw [ht]; exact X.1⟩, X.2.1.F ht⟩) X.2.1.2.2 d
/-- the class's method is called: it returns, or what it throws is caught -/
theorem l_call {M' : gM} {n9 index : Nat} {Q' : gOut → gSt → Prop} {ws' : List Cond} (as : List Int32) (st' : List Value) {stk : List Value} (h : gEM (cG R A) M' b (.inr 0 :: as.map .inl) σ1 Q') (d : decode M.cc pc = .ok (.invokevirtual index, 3)) (hg : GoodIn M.ws (wsV M.y.cls index RX6 M'.y M'.ws)) (hw : M'.ws = Cond.code M'.y M'.cc M'.nL M'.ret :: ws')
    (hd : M'.y.cls = RX6 ∧ M'.y.cls ≠ "java/lang/invoke/MethodHandle" ∧ M'.y.cls ≠ "java/lang/invoke/VarHandle" ∧ (parseMethodDescriptor M'.y.desc).map (fun d => d.parameters.length) = some n9) (hn9 : as.length = n9) (hR : M'.fr + 1 ≤ M.fr ∧ 8 + (M'.nL + 11) + M'.lo ≤ M.lo)
    (hstk : stk = (as.map Value.int).reverse ++ .ref (ad1 0) :: st') (hl : (st'.map fun v => v.category).sum ≤ 8)
    (kr : ∀ (v : Option gAV) (σ' : gSt), Q' (.inl v) σ' → lEx R A M hh ad1 o 0 (pc + 3) lv ((v.map (gv ad1)).toList ++ st') σ' σ2 f Q)
    (kx : ∀ (k : Nat) (σ' : gSt), Q' (.inr k) σ' → ∃ (pre suf : List (Nat × Nat × Nat × Nat)) (x : Nat × Nat × Nat × Nat), hh = pre ++ x :: suf ∧ covers (lRow x) pc = true ∧ x.2.2.2 ≠ 0 ∧ Cond.classLink M.y.cls x.2.2.2 (gE k) ∈ M.ws ∧ Cond.castable (gE k) (gE k) ∈ gCast ∧ (∀ z ∈ pre, (lRow z).catchType ≠ 0 ∧ k = 0 ∧ Cond.classLink M.y.cls (lRow z).catchType (gE 1) ∈ M.ws) ∧ ∀ q, lEx R A M hh ad1 o 0 x.2.2.1 lv [.ref q] σ' σ2 f Q) :
    lEx R A M hh ad1 o b pc lv stk σ1 σ2 f Q := by
  subst hn9
  intro p l e Rm s m args below meth c D cy cl ad2 H locs cells slots ls C X L
  have hc9 := C.2.2.2.2.2.2.2.1
  have hr9 := C.2.2.2.1
  have hwf := C.2.2.1
  have h0 : (0 : Nat) ∈ (cG R A).1 := cIn_lo (by decide)
  obtain ⟨i0, -, hw0⟩ := gws_at (cy := cy) (ad := ad1) (σ := σ1) h0 cSh_0
  have ea : (as.map (Sum.inl : Int32 → gAV)).map (gv ad1) = as.map Value.int := by
    rw [List.map_map]
    rfl
  have hr := vx_runV (l := l) (e := e) (below := below) (meth := meth) (locs := locs) (cells := cells) (slots := slots) (As := as.map Value.int) (rest := st') (b := ad1 0) (g := F0 m pc ls stk) C.1 (h l D cy ad1 H.size C.2.1 hwf.1) (cwV as.length C.1.2.2.2.2 hg hw rfl rfl hd ⟨by show M'.fr + 1 ≤ Rm.frames; omega, by show 8 + (M'.nL + 11) + M'.lo ≤ Rm.locals; omega⟩)
    ⟨gPc_blind, va_recv C.2.2.2.2.2.2.1.g (gws_P X.1.1) rfl hw0, fun U hU hW => ⟨by show _ = (Value.ref (ad1 0) :: (as.map (Sum.inl : Int32 → gAV)).map (gv ad1)).toArray; rw [ea], by rw [hU], by rw [hU]; exact X.1.1, va_K.moved hW.alike C.2.2.2.2.2.2.1.g, by rw [hU]; exact X.2.2.1.warm hW (fun q hq => lA_c hq X.2.1.1)⟩⟩ rfl (by rw [List.length_map]) L.1 (by show stk = _; rw [hstk]) (lv_room hl) d ⟨by omega, by omega⟩
  have C1 : lCx R A M hh 0 p l Rm s m args meth c D cy cl ad1 ad2 o (cells + b) (slots + 6 * b) := ⟨C.1, C.2.1, C.2.2.1, C.2.2.2.1, C.2.2.2.2.1, C.2.2.2.2.2.1, C.2.2.2.2.2.2.1, ⟨by omega, by omega⟩, C.2.2.2.2.2.2.2.2⟩
  intro T hT Xs
  rcases hr T hT Xs with ⟨v, st₀, t, T', L', h0', X', hL, e1, e2, ⟨⟨v', σ', ev, hQ, hP⟩, hF⟩, step⟩ | ⟨q, st₀, t, T', L', E, ce, h0', X', hL, e1, e2, ⟨⟨k, σ', eE, hQ, hP⟩, hF⟩, hce, hcv, hcl, step⟩
  · obtain ⟨k1, k2, k3⟩ := vx_keep h0' e1 X.2.1 (fun q _ hq => lA_c hq X.2.1.1) (fun q hq => lA_c hq X.2.1.1) hL hF
    cases ev
    have X1 : lHx R A s D cy cl ad1 ad2 o σ' σ2 f T'.heap (locs ++ L') := ⟨lH_c hwf X.1 (by rw [e1]; exact hP) k2, k3, X.2.2.step (fun q h => lA_n h) X.2.1 k3⟩
    obtain ⟨t2, a1, b1⟩ := kr v' σ' hQ p l e Rm s m args below meth c D cy cl ad2 T'.heap (locs ++ L') (cells + b) (slots + 6 * b) ls C1 X1 L T' rfl X'
    exact ⟨t2, step t2 a1, b1⟩
  · obtain ⟨k1, k2, k3⟩ := vx_keep h0' e1 X.2.1 (fun q _ hq => lA_c hq X.2.1.1) (fun q hq => lA_c hq X.2.1.1) hL hF
    subst eE
    have X1 : lHx R A s D cy cl ad1 ad2 o σ' σ2 f T'.heap (locs ++ L') := ⟨lH_c hwf X.1 (by rw [e1]; exact hP) k2, k3, X.2.2.step (fun q h => lA_n h) X.2.1 k3⟩
    obtain ⟨pre, suf, x, ehh, hcov, hct, hlk, hcast, hpre, kh⟩ := kx k σ' hQ
    have hE0 := X.2.2
    have K : vx_W p l e Rm s m args below meth c T'.heap (locs ++ L') (cells + b) (slots + 6 * b) (vx_MQ below (lQc R A D cy cl ad1 ad2 o s.heap.size σ2 Q) kNo args s 1 6 (lA R A ad1 ad2 o s.heap.size)) (F0 m pc ls st') q := by
      refine vx_catch (own := M.y.cls) (name := gE k) (E := gE k) (ce := ce) C.1.2.2.2.1 (pre.map lRow) (lRow x) (suf.map lRow) (by rw [C.2.2.2.2.1, ehh, List.map_append, List.map_cons]) (fun z hz => ?_) hcov hct (C.1.2.2.2.2 _ hlk) ?_ (by rw [e1]; exact hce) hcv hcl (kh q p l e Rm s m args below meth c D cy cl ad2 T'.heap (locs ++ L') (cells + b) (slots + 6 * b) ls C1 X1 L)
      · obtain ⟨y, hy, rfl⟩ := List.mem_map.mp hz
        obtain ⟨q1, q2, q3⟩ := hpre y hy
        subst q2
        exact Or.inr ⟨q1, gE 1, C.1.2.2.2.2 _ q3, hE0.2⟩
      · have h9 := hE0.1.2.1 _ hcast
        exact va_Nw.use rfl h9
    obtain ⟨t2, a1, b1⟩ := K T' rfl X'
    exact ⟨t2, step.trans a1, b1⟩
end LR
