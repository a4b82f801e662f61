/-! contracts by their kind of end -/
def gR (r : Int32) (P : gSt → Prop) : gOut → gSt → Prop := fun o σ => o = .inl (some (.inl r)) ∧ P σ
def gRr (r : Nat) (P : gSt → Prop) : gOut → gSt → Prop := fun o σ => o = .inl (some (.inr r)) ∧ P σ
def gV (P : gSt → Prop) : gOut → gSt → Prop := fun o σ => o = .inl none ∧ P σ
def gX (k : Nat) (P : gSt → Prop) : gOut → gSt → Prop := fun o σ => o = .inr k ∧ P σ
section GC2
variable {G : gG} {M M' : gM} {b pc : Nat} {lv : List (Option gAV)} {σ : gSt} {Q : gOut → gSt → Prop} {P : gSt → Prop}
variable {n9 o ci index : Nat} {fs : List (Option Nat)} {Cn : String} {T : u_T} {N : Nat} {ws' : List Cond} {host : String}
theorem g_callVi (r : Int32) (as st : List gAV) {stk : List gAV} (h : gEM G M' 0 (.inr o :: as) σ (gR r P)) (d : decode M.cc pc = .ok (.invokevirtual index, 3)) (hg : GoodIn M.ws (wsV M.y.cls index Cn M'.y M'.ws)) (hw : M'.ws = Cond.code M'.y M'.cc M'.nL M'.ret :: ws')
    (hd : M'.y.cls = Cn ∧ M'.y.cls ≠ "java/lang/invoke/MethodHandle" ∧ M'.y.cls ≠ "java/lang/invoke/VarHandle" ∧ (parseMethodDescriptor M'.y.desc).map (fun d => d.parameters.length) = some n9) (hn9 : as.length = n9) (hR : M'.fr + 1 ≤ M.fr ∧ 8 + (M'.nL + 11) + M'.lo ≤ M.lo)
    (ho : o ∈ G.1) (hs : G.2 o = .inr (ci, fs)) (hc : vwCl[ci]? = some (Cn, T, N)) (hst : stk = as.reverse ++ .inr o :: st) (hl : st.length ≤ 8) (kr : ∀ σ' : gSt, P σ' → gEx G M b (pc + 3) lv (.inl r :: st) σ' Q) : gEx G M b pc lv stk σ Q :=
  g_callV (b' := 0) as st h d hg hw hd hn9 hR ho hs hc hst hl (Nat.zero_le _) (fun v σ' hq => by obtain ⟨e, hP⟩ := hq; cases e; exact kr σ' hP) (fun k σ' hq => by cases hq.1)
theorem g_callVr (r : Nat) (as st : List gAV) {stk : List gAV} (h : gEM G M' 0 (.inr o :: as) σ (gRr r P)) (d : decode M.cc pc = .ok (.invokevirtual index, 3)) (hg : GoodIn M.ws (wsV M.y.cls index Cn M'.y M'.ws)) (hw : M'.ws = Cond.code M'.y M'.cc M'.nL M'.ret :: ws')
    (hd : M'.y.cls = Cn ∧ M'.y.cls ≠ "java/lang/invoke/MethodHandle" ∧ M'.y.cls ≠ "java/lang/invoke/VarHandle" ∧ (parseMethodDescriptor M'.y.desc).map (fun d => d.parameters.length) = some n9) (hn9 : as.length = n9) (hR : M'.fr + 1 ≤ M.fr ∧ 8 + (M'.nL + 11) + M'.lo ≤ M.lo)
    (ho : o ∈ G.1) (hs : G.2 o = .inr (ci, fs)) (hc : vwCl[ci]? = some (Cn, T, N)) (hst : stk = as.reverse ++ .inr o :: st) (hl : st.length ≤ 8) (kr : ∀ σ' : gSt, P σ' → gEx G M b (pc + 3) lv (.inr r :: st) σ' Q) : gEx G M b pc lv stk σ Q :=
  g_callV (b' := 0) as st h d hg hw hd hn9 hR ho hs hc hst hl (Nat.zero_le _) (fun v σ' hq => by obtain ⟨e, hP⟩ := hq; cases e; exact kr σ' hP) (fun k σ' hq => by cases hq.1)
theorem g_callVv (as st : List gAV) {stk : List gAV} (h : gEM G M' 0 (.inr o :: as) σ (gV P)) (d : decode M.cc pc = .ok (.invokevirtual index, 3)) (hg : GoodIn M.ws (wsV M.y.cls index Cn M'.y M'.ws)) (hw : M'.ws = Cond.code M'.y M'.cc M'.nL M'.ret :: ws')
    (hd : M'.y.cls = Cn ∧ M'.y.cls ≠ "java/lang/invoke/MethodHandle" ∧ M'.y.cls ≠ "java/lang/invoke/VarHandle" ∧ (parseMethodDescriptor M'.y.desc).map (fun d => d.parameters.length) = some n9) (hn9 : as.length = n9) (hR : M'.fr + 1 ≤ M.fr ∧ 8 + (M'.nL + 11) + M'.lo ≤ M.lo)
    (ho : o ∈ G.1) (hs : G.2 o = .inr (ci, fs)) (hc : vwCl[ci]? = some (Cn, T, N)) (hst : stk = as.reverse ++ .inr o :: st) (hl : st.length ≤ 8) (kr : ∀ σ' : gSt, P σ' → gEx G M b (pc + 3) lv st σ' Q) : gEx G M b pc lv stk σ Q :=
  g_callV (b' := 0) as st h d hg hw hd hn9 hR ho hs hc hst hl (Nat.zero_le _) (fun v σ' hq => by obtain ⟨e, hP⟩ := hq; cases e; exact kr σ' hP) (fun k σ' hq => by cases hq.1)
theorem g_callVx (k : Nat) (as st : List gAV) {stk : List gAV} (h : gEM G M' 1 (.inr o :: as) σ (gX k P)) (d : decode M.cc pc = .ok (.invokevirtual index, 3)) (hg : GoodIn M.ws (wsV M.y.cls index Cn M'.y M'.ws)) (hw : M'.ws = Cond.code M'.y M'.cc M'.nL M'.ret :: ws')
    (hd : M'.y.cls = Cn ∧ M'.y.cls ≠ "java/lang/invoke/MethodHandle" ∧ M'.y.cls ≠ "java/lang/invoke/VarHandle" ∧ (parseMethodDescriptor M'.y.desc).map (fun d => d.parameters.length) = some n9) (hn9 : as.length = n9) (hR : M'.fr + 1 ≤ M.fr ∧ 8 + (M'.nL + 11) + M'.lo ≤ M.lo)
    (ho : o ∈ G.1) (hs : G.2 o = .inr (ci, fs)) (hc : vwCl[ci]? = some (Cn, T, N)) (hst : stk = as.reverse ++ .inr o :: st) (hl : st.length ≤ 8) (hb : 1 ≤ b) (kr : ∀ σ' : gSt, P σ' → Q (.inr k) σ') : gEx G M b pc lv stk σ Q :=
  g_callV (b' := 1) as st h d hg hw hd hn9 hR ho hs hc hst hl hb (fun v σ' hq => by cases hq.1) (fun k σ' hq => by obtain ⟨e, hP⟩ := hq; cases e; exact kr σ' hP)
theorem g_callSi (r : Int32) (as st : List gAV) {stk : List gAV} (h : gEM G M' 0 as σ (gR r P)) (d : decode M.cc pc = .ok (.invokestatic index, 3)) (hg : GoodIn M.ws (va_wsS M.y.cls index M'.y M'.ws)) (hw : M'.ws = Cond.code M'.y M'.cc M'.nL M'.ret :: ws')
    (hd : M'.y.cls ≠ "java/lang/invoke/MethodHandle" ∧ M'.y.cls ≠ "java/lang/invoke/VarHandle" ∧ (parseMethodDescriptor M'.y.desc).map (fun d => d.parameters.length) = some n9) (hn9 : as.length = n9) (hR : M'.fr + 1 ≤ M.fr ∧ 8 + (M'.nL + 11) + M'.lo ≤ M.lo)
    (hst : stk = as.reverse ++ st) (hl : st.length ≤ 8) (kr : ∀ σ' : gSt, P σ' → gEx G M b (pc + 3) lv (.inl r :: st) σ' Q) : gEx G M b pc lv stk σ Q :=
  g_callS (b' := 0) as st h d hg hw hd hn9 hR hst hl (Nat.zero_le _) (fun v σ' hq => by obtain ⟨e, hP⟩ := hq; cases e; exact kr σ' hP) (fun k σ' hq => by cases hq.1)
theorem g_callSv (as st : List gAV) {stk : List gAV} (h : gEM G M' 0 as σ (gV P)) (d : decode M.cc pc = .ok (.invokestatic index, 3)) (hg : GoodIn M.ws (va_wsS M.y.cls index M'.y M'.ws)) (hw : M'.ws = Cond.code M'.y M'.cc M'.nL M'.ret :: ws')
    (hd : M'.y.cls ≠ "java/lang/invoke/MethodHandle" ∧ M'.y.cls ≠ "java/lang/invoke/VarHandle" ∧ (parseMethodDescriptor M'.y.desc).map (fun d => d.parameters.length) = some n9) (hn9 : as.length = n9) (hR : M'.fr + 1 ≤ M.fr ∧ 8 + (M'.nL + 11) + M'.lo ≤ M.lo)
    (hst : stk = as.reverse ++ st) (hl : st.length ≤ 8) (kr : ∀ σ' : gSt, P σ' → gEx G M b (pc + 3) lv st σ' Q) : gEx G M b pc lv stk σ Q :=
  g_callS (b' := 0) as st h d hg hw hd hn9 hR hst hl (Nat.zero_le _) (fun v σ' hq => by obtain ⟨e, hP⟩ := hq; cases e; exact kr σ' hP) (fun k σ' hq => by cases hq.1)
theorem g_callSx (k : Nat) (as st : List gAV) {stk : List gAV} (h : gEM G M' 1 as σ (gX k P)) (d : decode M.cc pc = .ok (.invokestatic index, 3)) (hg : GoodIn M.ws (va_wsS M.y.cls index M'.y M'.ws)) (hw : M'.ws = Cond.code M'.y M'.cc M'.nL M'.ret :: ws')
    (hd : M'.y.cls ≠ "java/lang/invoke/MethodHandle" ∧ M'.y.cls ≠ "java/lang/invoke/VarHandle" ∧ (parseMethodDescriptor M'.y.desc).map (fun d => d.parameters.length) = some n9) (hn9 : as.length = n9) (hR : M'.fr + 1 ≤ M.fr ∧ 8 + (M'.nL + 11) + M'.lo ≤ M.lo)
    (hst : stk = as.reverse ++ st) (hl : st.length ≤ 8) (hb : 1 ≤ b) (kr : ∀ σ' : gSt, P σ' → Q (.inr k) σ') : gEx G M b pc lv stk σ Q :=
  g_callS (b' := 1) as st h d hg hw hd hn9 hR hst hl hb (fun v σ' hq => by cases hq.1) (fun k σ' hq => by obtain ⟨e, hP⟩ := hq; cases e; exact kr σ' hP)
theorem g_callNi (r : Int32) (as st : List gAV) {stk : List gAV} (h : gEM G M' 0 as σ (gR r P)) (d : decode M.cc pc = .ok (.invokestatic index, 3)) (hg : GoodIn M.ws M'.ws) (hw : M'.ws = Cond.code M'.y M'.cc M'.nL M'.ret :: ws') (hn : Cond.methodLinkNest M.y.cls index M'.y host ∈ gNest) (hini : Cond.initialized M'.y.cls ∈ M.ws) (hsta : Cond.static M'.y ∈ M.ws)
    (hd : M'.y.cls ≠ "java/lang/invoke/MethodHandle" ∧ M'.y.cls ≠ "java/lang/invoke/VarHandle" ∧ (parseMethodDescriptor M'.y.desc).map (fun d => d.parameters.length) = some n9) (hn9 : as.length = n9) (hR : M'.fr + 1 ≤ M.fr ∧ 8 + (M'.nL + 11) + M'.lo ≤ M.lo)
    (hst : stk = as.reverse ++ st) (hl : st.length ≤ 8) (kr : ∀ σ' : gSt, P σ' → gEx G M b (pc + 3) lv (.inl r :: st) σ' Q) : gEx G M b pc lv stk σ Q :=
  g_callSN (b' := 0) as st h d hg hw hn hini hsta hd hn9 hR hst hl (Nat.zero_le _) (fun v σ' hq => by obtain ⟨e, hP⟩ := hq; cases e; exact kr σ' hP) (fun k σ' hq => by cases hq.1)
-- places by natural numbers
variable {st : List gAV}
theorem g_ialdN {a n j : Nat} (d : decode M.cc pc = .ok (.iaload, 1)) (ha : a ∈ G.1) (hs : G.2 a = .inl (0, n, none)) (hj : j < n) (hn : n < 2 ^ 31) (k : gEx G M b (pc + 1) lv (.inl (σ a j) :: st) σ Q) : gEx G M b pc lv (.inl (nI j) :: .inr a :: st) σ Q :=
  g_iald d ha hs (vp_in_nI hj hn) (by rw [nI_clamp (Nat.lt_trans hj hn)]; exact k)
theorem g_zaldN {a n j : Nat} (d : decode M.cc pc = .ok (.baload, 1)) (ha : a ∈ G.1) (hs : G.2 a = .inl (1, n, none)) (hj : j < n) (hn : n < 2 ^ 31) (k : gEx G M b (pc + 1) lv (.inl (σ a j) :: st) σ Q) : gEx G M b pc lv (.inl (nI j) :: .inr a :: st) σ Q :=
  g_zald d ha hs (vp_in_nI hj hn) (by rw [nI_clamp (Nat.lt_trans hj hn)]; exact k)
theorem g_iastN {a n j : Nat} {x : Int32} (d : decode M.cc pc = .ok (.iastore, 1)) (ha : a ∈ G.1) (hs : G.2 a = .inl (0, n, none)) (hj : j < n) (hn : n < 2 ^ 31) (k : gEx G M b (pc + 1) lv st (gup σ a j x) Q) : gEx G M b pc lv (.inl x :: .inl (nI j) :: .inr a :: st) σ Q :=
  g_iast d ha hs (vp_in_nI hj hn) (by rw [nI_clamp (Nat.lt_trans hj hn)]; exact k)
theorem g_zastN {a n j : Nat} {x : Int32} (d : decode M.cc pc = .ok (.bastore, 1)) (ha : a ∈ G.1) (hs : G.2 a = .inl (1, n, none)) (hj : j < n) (hn : n < 2 ^ 31) (hx : vp_nar .boolean x = x) (k : gEx G M b (pc + 1) lv st (gup σ a j x) Q) : gEx G M b pc lv (.inl x :: .inl (nI j) :: .inr a :: st) σ Q :=
  g_zast d ha hs (vp_in_nI hj hn) (by rw [nI_clamp (Nat.lt_trans hj hn), hx]; exact k)
theorem g_aald2N {a n j : Nat} {g : Nat → Nat} (d : decode M.cc pc = .ok (.aaload, 1)) (ha : a ∈ G.1) (hs : G.2 a = .inl (2, n, some g)) (hj : j < n) (hn : n < 2 ^ 31) (k : gEx G M b (pc + 1) lv (.inr (g j) :: st) σ Q) : gEx G M b pc lv (.inl (nI j) :: .inr a :: st) σ Q :=
  g_aald2 d ha hs (vp_in_nI hj hn) (by rw [nI_clamp (Nat.lt_trans hj hn)]; exact k)
theorem g_aald3N {a n j : Nat} {g : Nat → Nat} (d : decode M.cc pc = .ok (.aaload, 1)) (ha : a ∈ G.1) (hs : G.2 a = .inl (3, n, some g)) (hj : j < n) (hn : n < 2 ^ 31) (k : gEx G M b (pc + 1) lv (.inr (g j) :: st) σ Q) : gEx G M b pc lv (.inl (nI j) :: .inr a :: st) σ Q :=
  g_aald3 d ha hs (vp_in_nI hj hn) (by rw [nI_clamp (Nat.lt_trans hj hn)]; exact k)
theorem g_aald4N {a n j : Nat} {g : Nat → Nat} (d : decode M.cc pc = .ok (.aaload, 1)) (ha : a ∈ G.1) (hs : G.2 a = .inl (4, n, some g)) (hj : j < n) (hn : n < 2 ^ 31) (k : gEx G M b (pc + 1) lv (.inr (g j) :: st) σ Q) : gEx G M b pc lv (.inl (nI j) :: .inr a :: st) σ Q :=
  g_aald4 d ha hs (vp_in_nI hj hn) (by rw [nI_clamp (Nat.lt_trans hj hn)]; exact k)
theorem g_aald5N {a n j : Nat} {g : Nat → Nat} (d : decode M.cc pc = .ok (.aaload, 1)) (ha : a ∈ G.1) (hs : G.2 a = .inl (5, n, some g)) (hj : j < n) (hn : n < 2 ^ 31) (k : gEx G M b (pc + 1) lv (.inr (g j) :: st) σ Q) : gEx G M b pc lv (.inl (nI j) :: .inr a :: st) σ Q :=
  g_aald5 d ha hs (vp_in_nI hj hn) (by rw [nI_clamp (Nat.lt_trans hj hn)]; exact k)
end GC2
theorem vx_ofWF {l : Launch} {y : MethodName} {ws ws' : List Cond} {rm : Room} {Pc : Array Value → State → Prop} {Qc : Array Value → State → Outcome → State → Prop} {XC : String → State → State → Prop} {mc ms : Nat} {free : Addr → Prop} {cc : ByteArray} {maxL : Nat} {ret : Option FieldType}
    (hy : plainFor y = true) (hw : ws = Cond.code y cc maxL ret :: ws')
    (body : ∀ p e s m args below meth c s₁, BodyLoose p l y (headSpec ws rm) cc maxL ret e s m args below meth c s₁ → c.maxLocals = maxL → (∀ x ∈ c.exceptionTable.toList, False) → Pc args s →
      W p l e (headSpec ws rm).room s m args below meth c s.heap [] 0 0 (vx_MQ below Qc XC args s mc ms free) (entryFrame m args maxL)) : vx_Met l y ws rm Pc Qc XC mc ms free := by
  refine MetFree.of_bodySF (code := cc) (maxLocals := maxL) (ret := ret) hy ?_ ?_
  · intro args s m h hn
    obtain ⟨meth, c, h1, h2, h3, h4, h5, h6, -, -⟩ := Cond.code_spec hn (atoms_spec (ws := ws) h _ (by rw [hw]; exact List.mem_cons_self))
    exact ⟨meth, c, h1, h2, h3, h4, h5, h6⟩
  · intro p e s m args below meth c s₁ B hml hP _
    have hh0 : s₁.heap = s.heap := by rw [B.state]; rfl
    have ht : ∀ x ∈ c.exceptionTable.toList, False := by
      obtain ⟨meth9, c9, h1, h2, -, -, -, -, h7, -⟩ := Cond.code_spec B.named (atoms_spec (ws := ws) B.pre _ (by rw [hw]; exact List.mem_cons_self))
      cases Option.some.inj (h1.symm.trans B.method)
      cases Option.some.inj (h2.symm.trans (Stand.of_body B).code)
      intro x hx
      rw [Array.isEmpty_iff.mp h7] at hx
      cases hx
    obtain ⟨t, a1, o, b1, b2, b3⟩ := body p e s m args below meth c s₁ B hml ht hP s₁ hh0 (Stand.of_body B)
    exact ⟨t, o, a1, b1, b2, b3⟩
theorem gEM_ofF {G : gG} {M : gM} {b : Nat} {as : List gAV} {σ : gSt} {Q : gOut → gSt → Prop} {ws' : List Cond} (hy : plainFor M.y = true) (hw : M.ws = Cond.code M.y M.cc M.nL M.ret :: ws') (hn : as.length ≤ M.nL)
    (k : gEx G M b 0 (gL0 as M.nL) [] σ Q) : gEM G M b as σ Q := by
  intro l D cy ad sz hl hi
  refine vx_ofWF (cc := M.cc) (maxL := M.nL) (ret := M.ret) hy hw ?_
  intro p e s m args below meth c s₁ B hml ht hv
  obtain ⟨hargs, hsz, hP, hK, hE⟩ := hv
  subst hsz
  subst hargs
  rw [lg_entry_eq]
  exact k p l e _ s m _ below meth c D cy ad s.heap [] 0 0 b (6 * b) _ ⟨⟨B.exec, B.bytes, hml, findClass_of_methodNamed B.named, atoms_spec (ws := M.ws) B.pre⟩, hl, hi, ⟨Nat.le_refl _, Nat.le_refl _, Nat.le_refl _, Nat.le_refl _⟩, ht, B.notSynchronized, hK, by omega, B.returns⟩ ⟨hP, va_S.rf, hE⟩ (gLs_0 hn)
