/-! contracts by their kind of end -/
def gR (r : Int32) (P : gSt → Prop) : gOut → gSt → Prop := fun o σ => o = .inl (some (.inl r)) ∧ P σ
def gRr (r : Nat) (P : gSt → Prop) : gOut → gSt → Prop := fun o σ => o = .inl (some (.inr r)) ∧ P σ
def gV (P : gSt → Prop) : gOut → gSt → Prop := fun o σ => o = .inl none ∧ P σ
def gX (k : Nat) (P : gSt → Prop) : gOut → gSt → Prop := fun o σ => o = .inr k ∧ P σ
section GC2
variable {G : gG} {M M' : gM} {b pc : Nat} {lv : List (Option gAV)} {σ : gSt} {Q : gOut → gSt → Prop} {P : gSt → Prop}
variable {n9 o ci index : Nat} {fs : List (Option Nat)} {Cn : String} {T : u_T} {N : Nat} {ws' : List Cond} {host : String}
theorem g_callVi (r : Int32) (as st : List gAV) {stk : List gAV} (h : gEM G M' 0 (.inr o :: as) σ (gR r P)) (d : decode M.cc pc = .ok (.invokevirtual index, 3)) (hg : GoodIn M.ws (wsV M.y.cls index Cn M'.y M'.ws)) (hw : M'.ws = Cond.code M'.y M'.cc M'.nL M'.ret :: ws')
    (hd : M'.y.cls = Cn ∧ M'.y.cls ≠ "java/lang/invoke/MethodHandle" ∧ M'.y.cls ≠ "java/lang/invoke/VarHandle" ∧ (parseMethodDescriptor M'.y.desc).map (fun d => d.parameters.length) = some n9) (hn9 : as.length = n9) (hR : M'.fr + 1 ≤ M.fr ∧ 8 + (M'.nL + 11) + M'.lo ≤ M.lo)
    (ho : o ∈ G.1) (hs : G.2 o = .inr (ci, fs)) (hc : vwCl[ci]? = some (Cn, T, N)) (hst : stk = as.reverse ++ .inr o :: st) (hl : st.length ≤ 8) (kr : ∀ σ' : gSt, P σ' → gEx G M b (pc + 3) lv (.inl r :: st) σ' Q) : gEx G M b pc lv stk σ Q :=
  g_callV (b' := 0) as st h d hg hw hd hn9 hR ho hs hc hst hl (Nat.zero_le _) (fun v σ' hq => by obtain ⟨e, hP⟩ := hq; cases e; exact kr σ' hP) (fun k σ' hq => by cases hq.1)
theorem g_callVr (r : Nat) (as st : List gAV) {stk : List gAV} (h : gEM G M' 0 (.inr o :: as) σ (gRr r P)) (d : decode M.cc pc = .ok (.invokevirtual index, 3)) (hg : GoodIn M.ws (wsV M.y.cls index Cn M'.y M'.ws)) (hw : M'.ws = Cond.code M'.y M'.cc M'.nL M'.ret :: ws')
    (hd : M'.y.cls = Cn ∧ M'.y.cls ≠ "java/lang/invoke/MethodHandle" ∧ M'.y.cls ≠ "java/lang/invoke/VarHandle" ∧ (parseMethodDescriptor M'.y.desc).map (fun d => d.parameters.length) = some n9) (hn9 : as.length = n9) (hR : M'.fr + 1 ≤ M.fr ∧ 8 + (M'.nL + 11) + M'.lo ≤ M.lo)
    (ho : o ∈ G.1) (hs : G.2 o = .inr (ci, fs)) (hc : vwCl[ci]? = some (Cn, T, N)) (hst : stk = as.reverse ++ .inr o :: st) (hl : st.length ≤ 8) (kr : ∀ σ' : gSt, P σ' → gEx G M b (pc + 3) lv (.inr r :: st) σ' Q) : gEx G M b pc lv stk σ Q :=
  g_callV (b' := 0) as st h d hg hw hd hn9 hR ho hs hc hst hl (Nat.zero_le _) (fun v σ' hq => by obtain ⟨e, hP⟩ := hq; cases e; exact kr σ' hP) (fun k σ' hq => by cases hq.1)
theorem g_callVv (as st : List gAV) {stk : List gAV} (h : gEM G M' 0 (.inr o :: as) σ (gV P)) (d : decode M.cc pc = .ok (.invokevirtual index, 3)) (hg : GoodIn M.ws (wsV M.y.cls index Cn M'.y M'.ws)) (hw : M'.ws = Cond.code M'.y M'.cc M'.nL M'.ret :: ws')
    (hd : M'.y.cls = Cn ∧ M'.y.cls ≠ "java/lang/invoke/MethodHandle" ∧ M'.y.cls ≠ "java/lang/invoke/VarHandle" ∧ (parseMethodDescriptor M'.y.desc).map (fun d => d.parameters.length) = some n9) (hn9 : as.length = n9) (hR : M'.fr + 1 ≤ M.fr ∧ 8 + (M'.nL + 11) + M'.lo ≤ M.lo)
    (ho : o ∈ G.1) (hs : G.2 o = .inr (ci, fs)) (hc : vwCl[ci]? = some (Cn, T, N)) (hst : stk = as.reverse ++ .inr o :: st) (hl : st.length ≤ 8) (kr : ∀ σ' : gSt, P σ' → gEx G M b (pc + 3) lv st σ' Q) : gEx G M b pc lv stk σ Q :=
  g_callV (b' := 0) as st h d hg hw hd hn9 hR ho hs hc hst hl (Nat.zero_le _) (fun v σ' hq => by obtain ⟨e, hP⟩ := hq; cases e; exact kr σ' hP) (fun k σ' hq => by cases hq.1)
theorem g_callVx (k : Nat) (as st : List gAV) {stk : List gAV} (h : gEM G M' 1 (.inr o :: as) σ (gX k P)) (d : decode M.cc pc = .ok (.invokevirtual index, 3)) (hg : GoodIn M.ws (wsV M.y.cls index Cn M'.y M'.ws)) (hw : M'.ws = Cond.code M'.y M'.cc M'.nL M'.ret :: ws')
    (hd : M'.y.cls = Cn ∧ M'.y.cls ≠ "java/lang/invoke/MethodHandle" ∧ M'.y.cls ≠ "java/lang/invoke/VarHandle" ∧ (parseMethodDescriptor M'.y.desc).map (fun d => d.parameters.length) = some n9) (hn9 : as.length = n9) (hR : M'.fr + 1 ≤ M.fr ∧ 8 + (M'.nL + 11) + M'.lo ≤ M.lo)
    (ho : o ∈ G.1) (hs : G.2 o = .inr (ci, fs)) (hc : vwCl[ci]? = some (Cn, T, N)) (hst : stk = as.reverse ++ .inr o :: st) (hl : st.length ≤ 8) (hb : 1 ≤ b) (kr : ∀ σ' : gSt, P σ' → Q (.inr k) σ') : gEx G M b pc lv stk σ Q :=
  g_callV (b' := 1) as st h d hg hw hd hn9 hR ho hs hc hst hl hb (fun v σ' hq => by cases hq.1) (fun k σ' hq => by obtain ⟨e, hP⟩ := hq; cases e; exact kr σ' hP)
theorem g_callSi (r : Int32) (as st : List gAV) {stk : List gAV} (h : gEM G M' 0 as σ (gR r P)) (d : decode M.cc pc = .ok (.invokestatic index, 3)) (hg : GoodIn M.ws (va_wsS M.y.cls index M'.y M'.ws)) (hw : M'.ws = Cond.code M'.y M'.cc M'.nL M'.ret :: ws')
    (hd : M'.y.cls ≠ "java/lang/invoke/MethodHandle" ∧ M'.y.cls ≠ "java/lang/invoke/VarHandle" ∧ (parseMethodDescriptor M'.y.desc).map (fun d => d.parameters.length) = some n9) (hn9 : as.length = n9) (hR : M'.fr + 1 ≤ M.fr ∧ 8 + (M'.nL + 11) + M'.lo ≤ M.lo)
    (hst : stk = as.reverse ++ st) (hl : st.length ≤ 8) (kr : ∀ σ' : gSt, P σ' → gEx G M b (pc + 3) lv (.inl r :: st) σ' Q) : gEx G M b pc lv stk σ Q :=
  g_callS (b' := 0) as st h d hg hw hd hn9 hR hst hl (Nat.zero_le _) (fun v σ' hq => by obtain ⟨e, hP⟩ := hq; cases e; exact kr σ' hP) (fun k σ' hq => by cases hq.1)
theorem g_callSv (as st : List gAV) {stk : List gAV} (h : gEM G M' 0 as σ (gV P)) (d : decode M.cc pc = .ok (.invokestatic index, 3)) (hg : GoodIn M.ws (va_wsS M.y.cls index M'.y M'.ws)) (hw : M'.ws = Cond.code M'.y M'.cc M'.nL M'.ret :: ws')
    (hd : M'.y.cls ≠ "java/lang/invoke/MethodHandle" ∧ M'.y.cls ≠ "java/lang/invoke/VarHandle" ∧ (parseMethodDescriptor M'.y.desc).map (fun d => d.parameters.length) = some n9) (hn9 : as.length = n9) (hR : M'.fr + 1 ≤ M.fr ∧ 8 + (M'.nL + 11) + M'.lo ≤ M.lo)
    (hst : stk = as.reverse ++ st) (hl : st.length ≤ 8) (kr : ∀ σ' : gSt, P σ' → gEx G M b (pc + 3) lv st σ' Q) : gEx G M b pc lv stk σ Q :=
  g_callS (b' := 0) as st h d hg hw hd hn9 hR hst hl (Nat.zero_le _) (fun v σ' hq => by obtain ⟨e, hP⟩ := hq; cases e; exact kr σ' hP) (fun k σ' hq => by cases hq.1)
theorem g_callSx (k : Nat) (as st : List gAV) {stk : List gAV} (h : gEM G M' 1 as σ (gX k P)) (d : decode M.cc pc = .ok (.invokestatic index, 3)) (hg : GoodIn M.ws (va_wsS M.y.cls index M'.y M'.ws)) (hw : M'.ws = Cond.code M'.y M'.cc M'.nL M'.ret :: ws')
    (hd : M'.y.cls ≠ "java/lang/invoke/MethodHandle" ∧ M'.y.cls ≠ "java/lang/invoke/VarHandle" ∧ (parseMethodDescriptor M'.y.desc).map (fun d => d.parameters.length) = some n9) (hn9 : as.length = n9) (hR : M'.fr + 1 ≤ M.fr ∧ 8 + (M'.nL + 11) + M'.lo ≤ M.lo)
    (hst : stk = as.reverse ++ st) (hl : st.length ≤ 8) (hb : 1 ≤ b) (kr : ∀ σ' : gSt, P σ' → Q (.inr k) σ') : gEx G M b pc lv stk σ Q :=
  g_callS (b' := 1) as st h d hg hw hd hn9 hR hst hl hb (fun v σ' hq => by cases hq.1) (fun k σ' hq => by obtain ⟨e, hP⟩ := hq; cases e; exact kr σ' hP)
theorem g_callNi (r : Int32) (as st : List gAV) {stk : List gAV} (h : gEM G M' 0 as σ (gR r P)) (d : decode M.cc pc = .ok (.invokestatic index, 3)) (hg : GoodIn M.ws M'.ws) (hw : M'.ws = Cond.code M'.y M'.cc M'.nL M'.ret :: ws') (hn : Cond.methodLinkNest M.y.cls index M'.y host ∈ gNest) (hini : Cond.initialized M'.y.cls ∈ M.ws) (hsta : Cond.static M'.y ∈ M.ws)
    (hd : M'.y.cls ≠ "java/lang/invoke/MethodHandle" ∧ M'.y.cls ≠ "java/lang/invoke/VarHandle" ∧ (parseMethodDescriptor M'.y.desc).map (fun d => d.parameters.length) = some n9) (hn9 : as.length = n9) (hR : M'.fr + 1 ≤ M.fr ∧ 8 + (M'.nL + 11) + M'.lo ≤ M.lo)
    (hst : stk = as.reverse ++ st) (hl : st.length ≤ 8) (kr : ∀ σ' : gSt, P σ' → gEx G M b (pc + 3) lv (.inl r :: st) σ' Q) : gEx G M b pc lv stk σ Q :=
  g_callSN (b' := 0) as st h d hg hw hn hini hsta hd hn9 hR hst hl (Nat.zero_le _) (fun v σ' hq => by obtain ⟨e, hP⟩ := hq; cases e; exact kr σ' hP) (fun k σ' hq => by cases hq.1)
-- places by natural numbers
variable {st : List gAV}
theorem g_ialdN {a n j : Nat} (d : decode M.cc pc = .ok (.iaload, 1)) (ha : a ∈ G.1) (hs : G.2 a = .inl (0, n, none)) (hj : j < n) (hn : n < 2 ^ 31) (k : gEx G M b (pc + 1) lv (.inl (σ a j) :: st) σ Q) : gEx G M b pc lv (.inl (nI j) :: .inr a :: st) σ Q :=
  g_iald d ha hs (vp_in_nI hj hn) (by rw [nI_clamp (Nat.lt_trans hj hn)]; exact k)
theorem g_zaldN {a n j : Nat} (d : decode M.cc pc = .ok (.baload, 1)) (ha : a ∈ G.1) (hs : G.2 a = .inl (1, n, none)) (hj : j < n) (hn : n < 2 ^ 31) (k : gEx G M b (pc + 1) lv (.inl (σ a j) :: st) σ Q) : gEx G M b pc lv (.inl (nI j) :: .inr a :: st) σ Q :=
  g_zald d ha hs (vp_in_nI hj hn) (by rw [nI_clamp (Nat.lt_trans hj hn)]; exact k)
theorem g_iastN {a n j : Nat} {x : Int32} (d : decode M.cc pc = .ok (.iastore, 1)) (ha : a ∈ G.1) (hs : G.2 a = .inl (0, n, none)) (hj : j < n) (hn : n < 2 ^ 31) (k : gEx G M b (pc + 1) lv st (gup σ a j x) Q) : gEx G M b pc lv (.inl x :: .inl (nI j) :: .inr a :: st) σ Q :=
  g_iast d ha hs (vp_in_nI hj hn) (by rw [nI_clamp (Nat.lt_trans hj hn)]; exact k)
theorem g_zastN {a n j : Nat} {x : Int32} (d : decode M.cc pc = .ok (.bastore, 1)) (ha : a ∈ G.1) (hs : G.2 a = .inl (1, n, none)) (hj : j < n) (hn : n < 2 ^ 31) (hx : vp_nar .boolean x = x) (k : gEx G M b (pc + 1) lv st (gup σ a j x) Q) : gEx G M b pc lv (.inl x :: .inl (nI j) :: .inr a :: st) σ Q :=
  g_zast d ha hs (vp_in_nI hj hn) (by rw [nI_clamp (Nat.lt_trans hj hn), hx]; exact k)
theorem g_aald2N {a n j : Nat} {g : Nat → Nat} (d : decode M.cc pc = .ok (.aaload, 1)) (ha : a ∈ G.1) (hs : G.2 a = .inl (2, n, some g)) (hj : j < n) (hn : n < 2 ^ 31) (k : gEx G M b (pc + 1) lv (.inr (g j) :: st) σ Q) : gEx G M b pc lv (.inl (nI j) :: .inr a :: st) σ Q :=
  g_aald2 d ha hs (vp_in_nI hj hn) (by rw [nI_clamp (Nat.lt_trans hj hn)]; exact k)
theorem g_aald3N {a n j : Nat} {g : Nat → Nat} (d : decode M.cc pc = .ok (.aaload, 1)) (ha : a ∈ G.1) (hs : G.2 a = .inl (3, n, some g)) (hj : j < n) (hn : n < 2 ^ 31) (k : gEx G M b (pc + 1) lv (.inr (g j) :: st) σ Q) : gEx G M b pc lv (.inl (nI j) :: .inr a :: st) σ Q :=
  g_aald3 d ha hs (vp_in_nI hj hn) (by rw [nI_clamp (Nat.lt_trans hj hn)]; exact k)
theorem g_aald4N {a n j : Nat} {g : Nat → Nat} (d : decode M.cc pc = .ok (.aaload, 1)) (ha : a ∈ G.1) (hs : G.2 a = .inl (4, n, some g)) (hj : j < n) (hn : n < 2 ^ 31) (k : gEx G M b (pc + 1) lv (.inr (g j) :: st) σ Q) : gEx G M b pc lv (.inl (nI j) :: .inr a :: st) σ Q :=
  g_aald4 d ha hs (vp_in_nI hj hn) (by rw [nI_clamp (Nat.lt_trans hj hn)]; exact k)
theorem g_aald5N {a n j : Nat} {g : Nat → Nat} (d : decode M.cc pc = .ok (.aaload, 1)) (ha : a ∈ G.1) (hs : G.2 a = .inl (5, n, some g)) (hj : j < n) (hn : n < 2 ^ 31) (k : gEx G M b (pc + 1) lv (.inr (g j) :: st) σ Q) : gEx G M b pc lv (.inl (nI j) :: .inr a :: st) σ Q :=
  g_aald5 d ha hs (vp_in_nI hj hn) (by rw [nI_clamp (Nat.lt_trans hj hn)]; exact k)
end GC2
