/-! THE MAKING OF CELLS: the logic of the constructors -/
abbrev kC : Type := (Nat × Nat × ((Nat → Int32) ⊕ (Nat → Option Nat))) ⊕ (Nat × List (Option gAV))
def kfv (ad : Nat → Nat) : Option gAV → Value
  | none => .null
  | some v => gv ad v
def kce (cy : Nat → ClassId) (ad : Nat → Nat) (x : kC) : va_E := match x with
  | .inl (ty, n, .inl f) => .inl (cy ty, n, .inl f)
  | .inl (ty, n, .inr g) => .inl (cy ty, n, .inr (.inr (.inr (.inr (fun j => (g j).map ad)))))
  | .inr (ci, fs) => .inr (ci, fs.map (kfv ad))
/-- which cells there will be, and the order in which they are made -/
abbrev kI : Type := List Nat × (Nat → Nat)
def kOk (I : kI) : Prop := I.1.Nodup ∧ ∀ i j, i ∈ I.1 → j ∈ I.1 → I.2 i = I.2 j → i = j
abbrev kW : Type := Nat → kC
/-- cell k is made among the first n -/
def kM (I : kI) (n k : Nat) : Prop := k ∈ I.1 ∧ I.2 k < n
def kvOk (I : kI) (n : Nat) (x : gAV) : Prop := ∀ k, x = .inr k → kM I n k
def kcOk (I : kI) (n : Nat) (x : kC) : Prop := match x with
  | .inl (_, _, .inl _) => True
  | .inl (_, _, .inr g) => ∀ j k, g j = some k → kM I n k
  | .inr (_, fs) => ∀ v, some v ∈ fs → kvOk I n v
def kwOk (I : kI) (n : Nat) (κ : kW) : Prop := ∀ k, kM I n k → kcOk I n (κ k)
theorem kM.mono {I : kI} {n n' k : Nat} (h : n ≤ n') (q : kM I n k) : kM I n' k := ⟨q.1, Nat.lt_of_lt_of_le q.2 h⟩
theorem kvOk.mono {I : kI} {n n' : Nat} {x : gAV} (h : n ≤ n') (q : kvOk I n x) : kvOk I n' x := fun k e => (q k e).mono h
theorem kcOk.mono {I : kI} {n n' : Nat} {x : kC} (h : n ≤ n') (q : kcOk I n x) : kcOk I n' x := by
  match x, q with
  | .inl (_, _, .inl _), _ => exact trivial
  | .inl (_, _, .inr g), q => exact fun j k e => (q j k e).mono h
  | .inr (_, fs), q => exact fun v hv => (q v hv).mono h
theorem gv_same {I : kI} {n : Nat} {ad ad' : Nat → Nat} (h : ∀ k, kM I n k → ad' k = ad k) {x : gAV} (q : kvOk I n x) : gv ad' x = gv ad x := by
  cases x with
  | inl i => rfl
  | inr k => show Value.ref (ad' k) = .ref (ad k); rw [h k (q k rfl)]
theorem kce_same {I : kI} {n : Nat} {cy : Nat → ClassId} {ad ad' : Nat → Nat} (h : ∀ k, kM I n k → ad' k = ad k) {x : kC} (q : kcOk I n x) : kce cy ad' x = kce cy ad x := by
  match x, q with
  | .inl (_, _, .inl _), _ => rfl
  | .inl (ty, m, .inr g), q =>
    show (Sum.inl (cy ty, m, .inr (.inr (.inr (.inr (fun j => (g j).map ad'))))) : va_E) = .inl (cy ty, m, .inr (.inr (.inr (.inr (fun j => (g j).map ad)))))
    congr 7
    funext j
    cases e : g j with
    | none => rfl
    | some k => show some (ad' k) = some (ad k); rw [h k (q j k e)]
  | .inr (ci, fs), q =>
    show (Sum.inr (ci, fs.map (kfv ad')) : va_E) = .inr (ci, fs.map (kfv ad))
    congr 2
    apply List.map_congr_left
    intro v hv
    cases v with
    | none => rfl
    | some v => exact gv_same h (q v hv)
def kP (I : kI) (D : va_G) (cy : Nat → ClassId) (ad : Nat → Nat) (n : Nat) (κ : kW) (H : Heap) : Prop := ∀ k, kM I n k → va_at D vwCl (ad k, kce cy ad (κ k)) H
def kInj (I : kI) (ad : Nat → Nat) (n : Nat) : Prop := ∀ i j, kM I n i → kM I n j → ad i = ad j → i = j
def kl (I : kI) (n : Nat) : List Nat := I.1.filter (fun k => decide (I.2 k < n))
theorem kl_mem {I : kI} {n k : Nat} : k ∈ kl I n ↔ kM I n k := by
  unfold kl kM
  rw [List.mem_filter]
  simp
theorem kl_nd {I : kI} (h : kOk I) (n : Nat) : (kl I n).Nodup := h.1.filter _
def kws (I : kI) (cy : Nat → ClassId) (ad : Nat → Nat) (n : Nat) (κ : kW) : va_W := (kl I n).map (fun k => (ad k, kce cy ad (κ k)))
theorem kws_P {I : kI} {D : va_G} {cy : Nat → ClassId} {ad : Nat → Nat} {n : Nat} {κ : kW} {H : Heap} (h : kP I D cy ad n κ H) : va_P D vwCl (kws I cy ad n κ) H := by
  intro i q hq
  obtain ⟨k, hk, rfl⟩ := List.mem_map.mp (List.mem_of_getElem? hq)
  exact h k (kl_mem.mp hk)
theorem kP_ws {I : kI} {D : va_G} {cy : Nat → ClassId} {ad : Nat → Nat} {n : Nat} {κ : kW} {H : Heap} (h : va_P D vwCl (kws I cy ad n κ) H) : kP I D cy ad n κ H := by
  intro k hk
  obtain ⟨i, hi⟩ := List.getElem?_of_mem (List.mem_map.mpr ⟨k, kl_mem.mpr hk, rfl⟩ : (ad k, kce cy ad (κ k)) ∈ kws I cy ad n κ)
  exact h i _ hi
theorem kws_D {I : kI} {cy : Nat → ClassId} {ad : Nat → Nat} {n : Nat} {κ : kW} {A : Nat → Prop} (hI : kOk I) (h : kInj I ad n) (hA : ∀ k, kM I n k → A (ad k)) : va_D A (kws I cy ad n κ) := by
  refine ⟨fun i j p q hi hj e => ?_, fun i q hq => ?_⟩
  · unfold kws at hi hj
    rw [List.getElem?_map] at hi hj
    cases ha : (kl I n)[i]? with
    | none => rw [ha] at hi; cases hi
    | some a =>
      cases hb : (kl I n)[j]? with
      | none => rw [hb] at hj; cases hj
      | some b =>
        rw [ha] at hi
        rw [hb] at hj
        cases hi
        cases hj
        have hab := h a b (kl_mem.mp (List.mem_of_getElem? ha)) (kl_mem.mp (List.mem_of_getElem? hb)) e
        subst hab
        exact (List.getElem?_inj (List.getElem?_eq_some_iff.mp ha).1 (kl_nd hI n)).mp (ha.trans hb.symm)
  · obtain ⟨k, hk, rfl⟩ := List.mem_map.mp (List.mem_of_getElem? hq)
    exact hA k (kl_mem.mp hk)
theorem kws_at {I : kI} {cy : Nat → ClassId} {ad : Nat → Nat} {n : Nat} {κ : kW} {k : Nat} (hk : kM I n k) {x : kC} (hx : κ k = x) : ∃ i : Nat, (kl I n)[i]? = some k ∧ (kws I cy ad n κ)[i]? = some (ad k, kce cy ad x) := by
  obtain ⟨i, hi⟩ := List.getElem?_of_mem (kl_mem.mpr hk)
  refine ⟨i, hi, ?_⟩
  unfold kws
  rw [List.getElem?_map, hi, ← hx]
  rfl
theorem kws_set {I : kI} {cy : Nat → ClassId} {ad : Nat → Nat} {n : Nat} {κ : kW} {i k : Nat} (hI : kOk I) (hi : (kl I n)[i]? = some k) {x : kC} {e : va_E} (he : kce cy ad x = e) : (kws I cy ad n κ).set i (ad k, e) = kws I cy ad n (va_up κ k x) := by
  apply List.ext_getElem?
  intro j
  unfold kws
  by_cases hj : j = i
  · subst hj
    have hl : j < ((kl I n).map (fun k => (ad k, kce cy ad (κ k)))).length := by rw [List.length_map]; exact (List.getElem?_eq_some_iff.mp hi).1
    rw [List.getElem?_set_self hl, List.getElem?_map, hi, ← he]
    show some (ad k, kce cy ad x) = some (ad k, kce cy ad (va_up κ k x k))
    rw [va_up_self]
  · rw [List.getElem?_set_ne (fun q => hj q.symm), List.getElem?_map, List.getElem?_map]
    cases ha : (kl I n)[j]? with
    | none => rfl
    | some a =>
      have hak : a ≠ k := by
        intro q
        subst q
        exact hj ((List.getElem?_inj (List.getElem?_eq_some_iff.mp ha).1 (kl_nd hI n)).mp (ha.trans hi.symm))
      show some (ad a, kce cy ad (κ a)) = some (ad a, kce cy ad (va_up κ k x a))
      rw [va_up_ne _ _ hak]
/-- what the tables give beside the words -/
def gAOA (U : State) : Prop := (Cond.arrayOver (.array .boolean)).before #[] U = true
theorem gAOA.use {A : Array Value} {U : State} (h : gAOA U) : (Cond.arrayOver (.array .boolean)).before A U = true := h
theorem gAOA.warm {s U : State} (hW : s.WarmedH U.vm) (h : gAOA s) : gAOA U := by
  have h1 : (Cond.arrayOver (.array .boolean)).before #[] (s.setVm U.vm) = true := by rw [Cond.arrayOver_setVmC hW.alike]; exact h
  exact h1
def kEnv (U : State) : Prop := (∀ w ∈ gNest, va_Nw w U) ∧ va_AO RX0 U ∧ va_AO RX1 U ∧ va_AO RX4 U ∧ gAOA U
theorem kEnv.warm {s U : State} (h : kEnv s) (hW : s.WarmedH U.vm) : kEnv U := ⟨gNest_warm hW h.1, h.2.1.moved hW.alike, h.2.2.1.moved hW.alike, h.2.2.2.1.moved hW.alike, gAOA.warm hW h.2.2.2.2⟩
theorem kEnv.calling {U : State} {g : JFrame} {mk : MethodId} {a : Array Value} (h : kEnv U) : kEnv (U.calling g mk a) := by
  obtain ⟨h1, h2, h3, h4, h5⟩ := h
  refine ⟨fun w hw => ?_, h2.moved (Vm.Alike.refl U.vm), h3.moved (Vm.Alike.refl U.vm), h4.moved (Vm.Alike.refl U.vm), h5⟩
  have h0 := h1 w hw
  have hv : (U.calling g mk a).vm = U.vm := rfl
  unfold gNest at hw
  simp only [List.mem_cons, List.not_mem_nil, or_false] at hw
  rcases hw with rfl | rfl | rfl | rfl | rfl | rfl | rfl <;> exact va_Nw.same rfl hv.symm h0
def kPc (I : kI) (D : va_G) (cy : Nat → ClassId) (ad : Nat → Nat) (A : Nat → Prop) (n : Nat) (as : List gAV) (κ : kW) : Array Value → State → Prop :=
  va_Pc (as.map (gv ad)) (fun U => (∀ q, U.heap.size ≤ q → A q) ∧ kP I D cy ad n κ U.heap ∧ kInj I ad n ∧ (∀ k, kM I n k → A (ad k)) ∧ va_K D vwCl (gtys cy) U ∧ kEnv U)
def kQc (I : kI) (D : va_G) (cy : Nat → ClassId) (ad : Nat → Nat) (A : Nat → Prop) (n0 : Nat) (Q : Nat → kW → Prop) : Array Value → State → Outcome → State → Prop := fun _ st oc t =>
  (∃ (ad' : Nat → Nat) (n : Nat) (κ : kW), oc = .returned none ∧ (∀ k, kM I n0 k → ad' k = ad k) ∧ n0 ≤ n ∧ kwOk I n κ ∧ Q n κ ∧ kP I D cy ad' n κ t.heap ∧ kInj I ad' n ∧ ∀ k, kM I n k → A (ad' k)) ∧ va_F A st t
def kNo : String → State → State → Prop := fun _ _ _ => False
/-- THE CONTRACT of a constructor -/
def kEM (I : kI) (M : gM) (bc bs : Nat) (as : List gAV) (n : Nat) (κ : kW) (Q : Nat → kW → Prop) : Prop :=
  ∀ (l : Launch) (D : va_G) (cy : Nat → ClassId) (ad : Nat → Nat) (A : Nat → Prop), vx_Met l M.y M.ws { frames := M.fr, cells := bc, slots := bs, locals := M.lo } (kPc I D cy ad A n as κ) (kQc I D cy ad A n Q) kNo bc bs A
def kCx (I : kI) (M : gM) (bc bs : Nat) (p : Program) (R : Room) (s : State) (m : MethodId) (args : Array Value) (meth : Method) (c : Code) (D : va_G) (cy : Nat → ClassId) (cells slots mc ms : Nat) : Prop :=
  (p.tables.exec = Jvm.exec ∧ c.code = M.cc ∧ c.maxLocals = M.nL ∧ s.vm.findClass M.y.cls = some m.cls ∧ (∀ w ∈ M.ws, w.before args s = true)) ∧ kOk I ∧
  (M.fr ≤ R.frames ∧ M.lo ≤ R.locals ∧ mc ≤ R.cells ∧ ms ≤ R.slots) ∧ (meth.name = M.y.name ∧ meth.locks = false ∧ meth.sig.returnType = M.ret) ∧ va_K D vwCl (gtys cy) s ∧ (cells + bc ≤ mc ∧ slots + bs ≤ ms) ∧ kEnv s
def kHx (I : kI) (s : State) (D : va_G) (cy : Nat → ClassId) (ad : Nat → Nat) (A : Nat → Prop) (n : Nat) (κ : kW) (H : Heap) (locs : List Loc) : Prop :=
  kP I D cy ad n κ H ∧ kInj I ad n ∧ (∀ k, kM I n k → A (ad k)) ∧ (∀ q, s.heap.size ≤ q → A q) ∧ va_S A s.heap H locs
def kEx (I : kI) (M : gM) (bc bs pc : Nat) (lv : List (Option gAV)) (st : List gAV) (n : Nat) (κ : kW) (n0 : Nat) (Q : Nat → kW → Prop) : Prop :=
  kwOk I n κ → (∀ v ∈ st, kvOk I n v) → (∀ v, some v ∈ lv → kvOk I n v) → n0 ≤ n →
  ∀ (p : Program) (l : Launch) (e : Env) (R : Room) (s : State) (m : MethodId) (args : Array Value) (below : List Frame) (meth : Method) (c : Code) (D : va_G) (cy : Nat → ClassId) (ad0 ad : Nat → Nat) (A : Nat → Prop) (H : Heap) (locs : List Loc) (cells slots mc ms : Nat) (ls : Array Slot),
    kCx I M bc bs p R s m args meth c D cy cells slots mc ms → kHx I s D cy ad A n κ H locs → (∀ k, kM I n0 k → ad k = ad0 k) → gLs ad M.nL lv ls →
    W p l e R s m args below meth c H locs cells slots (vx_MQ below (kQc I D cy ad0 A n0 Q) kNo args s mc ms A) (F0 m pc ls (st.map (gv ad)))
theorem kEM_of {I : kI} {M : gM} {bc bs : Nat} {as : List gAV} {n : Nat} {κ : kW} {Q : Nat → kW → Prop} {ws' : List Cond} (hI : kOk I) (hwf : kwOk I n κ) (has : ∀ v ∈ as, kvOk I n v) (hy : plainName M.y.cls = true) (hw : M.ws = Cond.code M.y M.cc M.nL M.ret :: ws') (hn : as.length ≤ M.nL)
    (k : kEx I M bc bs 0 (gL0 as M.nL) [] n κ n Q) : kEM I M bc bs as n κ Q := by
  intro l D cy ad A
  refine vx_ofW (cc := M.cc) (maxL := M.nL) (ret := M.ret) hy hw ?_
  intro p e s m args below meth c s₁ B hml ht hv
  obtain ⟨hargs, hA0, hP, hIn, hA1, hK, hE⟩ := hv
  subst hargs
  rw [lg_entry_eq]
  refine k hwf (fun v hv => by cases hv) (fun v hv => ?_) (Nat.le_refl _) p l e _ s m _ below meth c D cy ad ad A s.heap [] 0 0 bc bs _ ⟨⟨B.exec, B.bytes, hml, findClass_of_methodNamed B.named, atoms_spec (ws := M.ws) B.pre⟩, hI, ⟨Nat.le_refl _, Nat.le_refl _, Nat.le_refl _, Nat.le_refl _⟩, ⟨(name_of_methodNamed B.named B.method).1, B.notSynchronized, B.returns⟩, hK, ⟨by omega, by omega⟩, hE⟩ ⟨hP, hIn, hA1, hA0, va_S.rf⟩ (fun _ _ => rfl) (gLs_0 hn)
  unfold gL0 at hv
  rcases List.mem_append.mp hv with h | h
  · obtain ⟨x, hx, e⟩ := List.mem_map.mp h
    cases e
    exact has v hx
  · have := (List.mem_replicate.mp h).2
    cases this
theorem gpl_same {I : kI} {n : Nat} {ad ad' : Nat → Nat} (h : ∀ k, kM I n k → ad' k = ad k) : ∀ (lv : List (Option gAV)) (i : Nat), (∀ v, some v ∈ lv → kvOk I n v) → gpl ad' i lv = gpl ad i lv
  | [], _, _ => rfl
  | none :: r, i, q => gpl_same h r (i + 1) (fun v hv => q v (List.mem_cons_of_mem _ hv))
  | some v :: r, i, q => by
    show (i, gv ad' v) :: gpl ad' (i + 1) r = (i, gv ad v) :: gpl ad (i + 1) r
    rw [gv_same h (q v List.mem_cons_self), gpl_same h r (i + 1) (fun v hv => q v (List.mem_cons_of_mem _ hv))]
theorem gLs_same {I : kI} {n : Nat} {ad ad' : Nat → Nat} (h : ∀ k, kM I n k → ad' k = ad k) {nL : Nat} {lv : List (Option gAV)} {ls : Array Slot} (q : ∀ v, some v ∈ lv → kvOk I n v) (L : gLs ad nL lv ls) : gLs ad' nL lv ls := by
  unfold gLs
  rw [gpl_same h lv 0 q]
  exact L
theorem map_same {I : kI} {n : Nat} {ad ad' : Nat → Nat} (h : ∀ k, kM I n k → ad' k = ad k) {st : List gAV} (q : ∀ v ∈ st, kvOk I n v) : st.map (gv ad') = st.map (gv ad) := List.map_congr_left (fun v hv => gv_same h (q v hv))
theorem klv_get {lv : List (Option gAV)} {i : Nat} {x : gAV} (h : lv[i]? = some (some x)) : some x ∈ lv := List.mem_of_getElem? h
theorem klv_set {I : kI} {n : Nat} {lv : List (Option gAV)} {i : Nat} {x : gAV} (h : ∀ v, some v ∈ lv → kvOk I n v) (hx : kvOk I n x) : ∀ v, some v ∈ lv.set i (some x) → kvOk I n v := fun v hv => by
  rcases List.mem_or_eq_of_mem_set hv with q | q
  · exact h v q
  · cases q
    exact hx
theorem ok_i {I : kI} {n : Nat} (x : Int32) : kvOk I n (.inl x) := fun k e => by cases e
/-- one more is made -/
theorem k_grow {I : kI} {D : va_G} {cy : Nat → ClassId} {ad : Nat → Nat} {A : Nat → Prop} {n : Nat} {κ : kW} {H1 : Heap} (hI : kOk I) (hwf : kwOk I n κ) (hIn : kInj I ad n) {k q : Nat} {x : kC} (hk : k ∈ I.1) (hp : I.2 k = n) (hx : kcOk I n x)
    (hP : va_P D vwCl (kws I cy ad n κ ++ [(q, kce cy ad x)]) H1) (hD : va_D A (kws I cy ad n κ ++ [(q, kce cy ad x)])) :
    (∀ j, kM I n j → va_up ad k q j = ad j) ∧ kwOk I (n + 1) (va_up κ k x) ∧ kP I D cy (va_up ad k q) (n + 1) (va_up κ k x) H1 ∧ kInj I (va_up ad k q) (n + 1) ∧ ∀ j, kM I (n + 1) j → A (va_up ad k q j) := by
  have hne : ∀ j, kM I n j → j ≠ k := fun j hj e => by
    have := hj.2
    rw [e, hp] at this
    omega
  have hag : ∀ j, kM I n j → va_up ad k q j = ad j := fun j hj => va_up_ne _ _ (hne j hj)
  have hor : ∀ j, kM I (n + 1) j → j = k ∨ kM I n j := fun j hj => by
    by_cases e : I.2 j < n
    · exact Or.inr ⟨hj.1, e⟩
    · refine Or.inl (hI.2 j k hj.1 hk ?_)
      have := hj.2
      omega
  have hlen : (kws I cy ad n κ).length = (kws I cy ad n κ).length := rfl
  have hold : ∀ j, kM I n j → ∃ i : Nat, i < (kws I cy ad n κ).length ∧ (kws I cy ad n κ ++ [(q, kce cy ad x)])[i]? = some (ad j, kce cy ad (κ j)) := fun j hj => by
    obtain ⟨i, -, hi⟩ := kws_at (cy := cy) (ad := ad) (κ := κ) hj rfl
    have hl := (List.getElem?_eq_some_iff.mp hi).1
    exact ⟨i, hl, by rw [List.getElem?_append_left hl]; exact hi⟩
  have hnew : (kws I cy ad n κ ++ [(q, kce cy ad x)])[(kws I cy ad n κ).length]? = some (q, kce cy ad x) := by
    rw [List.getElem?_append_right (Nat.le_refl _), Nat.sub_self]
    rfl
  refine ⟨hag, fun j hj => ?_, fun j hj => ?_, fun i j hi hj e => ?_, fun j hj => ?_⟩
  · rcases hor j hj with e | e
    · rw [e, va_up_self]
      exact hx.mono (by omega)
    · rw [va_up_ne _ _ (hne j e)]
      exact (hwf j e).mono (by omega)
  · rcases hor j hj with e | e
    · rw [e, va_up_self, va_up_self, kce_same hag hx]
      exact hP _ _ hnew
    · rw [hag j e, va_up_ne _ _ (hne j e), kce_same hag (hwf j e)]
      obtain ⟨i, -, hi⟩ := hold j e
      exact hP _ _ hi
  · rcases hor i hi with a | a
    · rcases hor j hj with b | b
      · rw [a, b]
      · rw [a, va_up_self, hag j b] at e
        obtain ⟨i9, h9, hi9⟩ := hold j b
        have := hD.1 _ _ _ _ hnew hi9 e
        omega
    · rcases hor j hj with b | b
      · rw [b, va_up_self, hag i a] at e
        obtain ⟨i9, h9, hi9⟩ := hold i a
        have := hD.1 _ _ _ _ hi9 hnew e
        omega
      · rw [hag i a, hag j b] at e
        exact hIn i j a b e
  · rcases hor j hj with e | e
    · rw [e, va_up_self]
      exact hD.2 _ _ hnew
    · rw [hag j e]
      obtain ⟨i, -, hi⟩ := hold j e
      exact hD.2 _ _ hi
/-- one more cell, wherever it is -/
theorem k_add {I : kI} {D : va_G} {cy : Nat → ClassId} {ad : Nat → Nat} {A : Nat → Prop} {n : Nat} {κ : kW} {H1 : Heap} (hI : kOk I) (hwf : kwOk I n κ) (hIn : kInj I ad n) (hA : ∀ k, kM I n k → A (ad k)) (hP : kP I D cy ad n κ H1) {k q : Nat} {x : kC} (hk : k ∈ I.1) (hp : I.2 k = n) (hx : kcOk I n x) (hq : va_at D vwCl (q, kce cy ad x) H1) (hAq : A q) (hne : ∀ k, kM I n k → ad k ≠ q) :
    (∀ j, kM I n j → va_up ad k q j = ad j) ∧ kwOk I (n + 1) (va_up κ k x) ∧ kP I D cy (va_up ad k q) (n + 1) (va_up κ k x) H1 ∧ kInj I (va_up ad k q) (n + 1) ∧ ∀ j, kM I (n + 1) j → A (va_up ad k q j) := by
  refine k_grow hI hwf hIn hk hp hx ((kws_P hP).app (fun i y hy => ?_)) ((kws_D hI hIn hA).app ⟨fun i j a b hi hj _ => ?_, fun i y hy => ?_⟩ (fun i j a b hi hj => ?_))
  · have h0 : i < 1 := (List.getElem?_eq_some_iff.mp hy).1
    rw [show i = 0 by omega] at hy
    cases hy
    exact hq
  · have h0 : i < 1 := (List.getElem?_eq_some_iff.mp hi).1
    have h1 : j < 1 := (List.getElem?_eq_some_iff.mp hj).1
    omega
  · have h0 : i < 1 := (List.getElem?_eq_some_iff.mp hy).1
    rw [show i = 0 by omega] at hy
    cases hy
    exact hAq
  · have h1 : j < 1 := (List.getElem?_eq_some_iff.mp hj).1
    rw [show j = 0 by omega] at hj
    cases hj
    obtain ⟨k9, hk9, rfl⟩ := List.mem_map.mp (List.mem_of_getElem? hi)
    exact hne k9 (kl_mem.mp hk9)
/-- a cell is changed -/
theorem k_upd {I : kI} {n : Nat} {κ : kW} (hwf : kwOk I n κ) {k : Nat} {x : kC} (hx : kcOk I n x) : kwOk I n (va_up κ k x) := fun j hj => by
  by_cases e : j = k
  · rw [e, va_up_self]
    exact hx
  · rw [va_up_ne _ _ e]
    exact hwf j hj
section KR
variable {I : kI} {M : gM} {bc bs pc : Nat} {lv : List (Option gAV)} {st : List gAV} {n n0 : Nat} {κ : kW} {Q : Nat → kW → Prop}
theorem kEx.top {x v : gAV} (h : x = v) (k : kEx I M bc bs pc lv (v :: st) n κ n0 Q) : kEx I M bc bs pc lv (x :: st) n κ n0 Q := by subst h; exact k
theorem kEx.sto {κ' : kW} (h : κ = κ') (k : kEx I M bc bs pc lv st n κ' n0 Q) : kEx I M bc bs pc lv st n κ n0 Q := by subst h; exact k
theorem kEx.bud {bc' bs' : Nat} (h1 : bc' ≤ bc) (h2 : bs' ≤ bs) (k : kEx I M bc' bs' pc lv st n κ n0 Q) : kEx I M bc bs pc lv st n κ n0 Q := fun a1 a2 a3 a4 p l e R s m args below meth c D cy ad0 ad A H locs cells slots mc ms ls C X a5 L =>
  k a1 a2 a3 a4 p l e R s m args below meth c D cy ad0 ad A H locs cells slots mc ms ls ⟨C.1, C.2.1, C.2.2.1, C.2.2.2.1, C.2.2.2.2.1, ⟨by have := C.2.2.2.2.2.1.1; omega, by have := C.2.2.2.2.2.1.2; omega⟩, C.2.2.2.2.2.2⟩ X a5 L
theorem k_iconst {n' : Int} (v : Int32) (d : decode M.cc pc = .ok (.iconst n', 1)) (hv : Int32.ofInt n' = v) (k : kEx I M bc bs (pc + 1) lv (.inl v :: st) n κ n0 Q) : kEx I M bc bs pc lv st n κ n0 Q := by
  intro hwf hst hlv hn0 p l e R s m args below meth c D cy ad0 ad A H locs cells slots mc ms ls C X hag L
  exact lv_iconst C.1.1 C.1.2.1 d hv (k hwf (fun v hv => by
    rcases List.mem_cons.mp hv with h9 | h9
    · rw [h9]; exact ok_i _
    · exact hst v h9) hlv hn0 p l e R s m args below meth c D cy ad0 ad A H locs cells slots mc ms ls C X hag L)
theorem k_bipush {n' : Int} (v : Int32) (d : decode M.cc pc = .ok (.bipush n', 2)) (hv : (Int8.ofInt n').toInt32 = v) (k : kEx I M bc bs (pc + 2) lv (.inl v :: st) n κ n0 Q) : kEx I M bc bs pc lv st n κ n0 Q := by
  intro hwf hst hlv hn0 p l e R s m args below meth c D cy ad0 ad A H locs cells slots mc ms ls C X hag L
  exact lv_bipush C.1.1 C.1.2.1 d hv (k hwf (fun v hv => by
    rcases List.mem_cons.mp hv with h9 | h9
    · rw [h9]; exact ok_i _
    · exact hst v h9) hlv hn0 p l e R s m args below meth c D cy ad0 ad A H locs cells slots mc ms ls C X hag L)
theorem k_sipush {n' : Int} (v : Int32) (d : decode M.cc pc = .ok (.sipush n', 3)) (hv : (Int16.ofInt n').toInt32 = v) (k : kEx I M bc bs (pc + 3) lv (.inl v :: st) n κ n0 Q) : kEx I M bc bs pc lv st n κ n0 Q := by
  intro hwf hst hlv hn0 p l e R s m args below meth c D cy ad0 ad A H locs cells slots mc ms ls C X hag L
  exact lv_sipush C.1.1 C.1.2.1 d hv (k hwf (fun v hv => by
    rcases List.mem_cons.mp hv with h9 | h9
    · rw [h9]; exact ok_i _
    · exact hst v h9) hlv hn0 p l e R s m args below meth c D cy ad0 ad A H locs cells slots mc ms ls C X hag L)
theorem k_iload_n {i : Fin 4} {x : Int32} (d : decode M.cc pc = .ok (.iload_n i, 1)) (h : lv[(i : Nat)]? = some (some (.inl x))) (k : kEx I M bc bs (pc + 1) lv (.inl x :: st) n κ n0 Q) : kEx I M bc bs pc lv st n κ n0 Q := by
  intro hwf hst hlv hn0 p l e R s m args below meth c D cy ad0 ad A H locs cells slots mc ms ls C X hag L
  exact lv_iload_n C.1.1 C.1.2.1 d rfl (gLs_at L h) (k hwf (fun v hv => by
    rcases List.mem_cons.mp hv with h9 | h9
    · rw [h9]; exact hlv _ (klv_get h)
    · exact hst v h9) hlv hn0 p l e R s m args below meth c D cy ad0 ad A H locs cells slots mc ms ls C X hag L)
theorem k_iload {i : Nat} {x : Int32} (d : decode M.cc pc = .ok (.iload i, 2)) (h : lv[i]? = some (some (.inl x))) (k : kEx I M bc bs (pc + 2) lv (.inl x :: st) n κ n0 Q) : kEx I M bc bs pc lv st n κ n0 Q := by
  intro hwf hst hlv hn0 p l e R s m args below meth c D cy ad0 ad A H locs cells slots mc ms ls C X hag L
  exact lv_iload C.1.1 C.1.2.1 d (gLs_at L h) (k hwf (fun v hv => by
    rcases List.mem_cons.mp hv with h9 | h9
    · rw [h9]; exact hlv _ (klv_get h)
    · exact hst v h9) hlv hn0 p l e R s m args below meth c D cy ad0 ad A H locs cells slots mc ms ls C X hag L)
theorem k_aload_n {i : Fin 4} {x : Nat} (d : decode M.cc pc = .ok (.aload_n i, 1)) (h : lv[(i : Nat)]? = some (some (.inr x))) (k : kEx I M bc bs (pc + 1) lv (.inr x :: st) n κ n0 Q) : kEx I M bc bs pc lv st n κ n0 Q := by
  intro hwf hst hlv hn0 p l e R s m args below meth c D cy ad0 ad A H locs cells slots mc ms ls C X hag L
  exact lv_aload_n C.1.1 C.1.2.1 d rfl (gLs_at L h) (k hwf (fun v hv => by
    rcases List.mem_cons.mp hv with h9 | h9
    · rw [h9]; exact hlv _ (klv_get h)
    · exact hst v h9) hlv hn0 p l e R s m args below meth c D cy ad0 ad A H locs cells slots mc ms ls C X hag L)
theorem k_aload {i : Nat} {x : Nat} (d : decode M.cc pc = .ok (.aload i, 2)) (h : lv[i]? = some (some (.inr x))) (k : kEx I M bc bs (pc + 2) lv (.inr x :: st) n κ n0 Q) : kEx I M bc bs pc lv st n κ n0 Q := by
  intro hwf hst hlv hn0 p l e R s m args below meth c D cy ad0 ad A H locs cells slots mc ms ls C X hag L
  exact lv_aload C.1.1 C.1.2.1 d (gLs_at L h) (k hwf (fun v hv => by
    rcases List.mem_cons.mp hv with h9 | h9
    · rw [h9]; exact hlv _ (klv_get h)
    · exact hst v h9) hlv hn0 p l e R s m args below meth c D cy ad0 ad A H locs cells slots mc ms ls C X hag L)
theorem k_istore_n {i : Fin 4} {x : Int32} (d : decode M.cc pc = .ok (.istore_n i, 1)) (hn : (i : Nat) < M.nL) (k : kEx I M bc bs (pc + 1) (lv.set i (some (.inl x))) st n κ n0 Q) : kEx I M bc bs pc lv (.inl x :: st) n κ n0 Q := by
  intro hwf hst hlv hn0 p l e R s m args below meth c D cy ad0 ad A H locs cells slots mc ms ls C X hag L
  exact lv_istore_n (lv := gpl ad 0 lv) C.1.1 C.1.2.1 d rfl L hn rfl (fun ls1 h1 => (k hwf (fun v hv => hst v (List.mem_cons_of_mem _ hv)) (klv_set hlv (ok_i _)) hn0 p l e R s m args below meth c D cy ad0 ad A H locs cells slots mc ms ls1 C X hag (gLs_set h1)))
theorem k_istore {i : Nat} {x : Int32} (d : decode M.cc pc = .ok (.istore i, 2)) (hn : i < M.nL) (k : kEx I M bc bs (pc + 2) (lv.set i (some (.inl x))) st n κ n0 Q) : kEx I M bc bs pc lv (.inl x :: st) n κ n0 Q := by
  intro hwf hst hlv hn0 p l e R s m args below meth c D cy ad0 ad A H locs cells slots mc ms ls C X hag L
  exact lv_istore (lv := gpl ad 0 lv) C.1.1 C.1.2.1 d L hn rfl (fun ls1 h1 => (k hwf (fun v hv => hst v (List.mem_cons_of_mem _ hv)) (klv_set hlv (ok_i _)) hn0 p l e R s m args below meth c D cy ad0 ad A H locs cells slots mc ms ls1 C X hag (gLs_set h1)))
theorem k_iinc {i : Nat} {n' : Int} {x : Int32} (v : Int32) (d : decode M.cc pc = .ok (.iinc i n', 3)) (h : lv[i]? = some (some (.inl x))) (hv : x + Int32.ofInt n' = v) (hn : i < M.nL) (k : kEx I M bc bs (pc + 3) (lv.set i (some (.inl v))) st n κ n0 Q) : kEx I M bc bs pc lv st n κ n0 Q := by
  intro hwf hst hlv hn0 p l e R s m args below meth c D cy ad0 ad A H locs cells slots mc ms ls C X hag L
  have h0 := gpl_in ad lv 0 i _ h
  rw [Nat.zero_add] at h0
  obtain ⟨j, hj⟩ := List.getElem?_of_mem h0
  exact lv_iinc (v := v) (lv := gpl ad 0 lv) C.1.1 C.1.2.1 d L hj hv hn rfl (fun ls1 h1 => (k hwf hst (klv_set hlv (ok_i _)) hn0 p l e R s m args below meth c D cy ad0 ad A H locs cells slots mc ms ls1 C X hag (gLs_set (v := .inl v) h1)))
theorem k_iadd {x y : Int32} (d : decode M.cc pc = .ok (.iadd, 1)) (k : kEx I M bc bs (pc + 1) lv (.inl (x + y) :: st) n κ n0 Q) : kEx I M bc bs pc lv (.inl y :: .inl x :: st) n κ n0 Q := by
  intro hwf hst hlv hn0 p l e R s m args below meth c D cy ad0 ad A H locs cells slots mc ms ls C X hag L
  exact lv_iadd C.1.1 C.1.2.1 d (k hwf (fun v hv => by
    rcases List.mem_cons.mp hv with h9 | h9
    · rw [h9]; exact ok_i _
    · exact hst v (List.mem_cons_of_mem _ (List.mem_cons_of_mem _ h9))) hlv hn0 p l e R s m args below meth c D cy ad0 ad A H locs cells slots mc ms ls C X hag L)
theorem k_imul {x y : Int32} (d : decode M.cc pc = .ok (.imul, 1)) (k : kEx I M bc bs (pc + 1) lv (.inl (x * y) :: st) n κ n0 Q) : kEx I M bc bs pc lv (.inl y :: .inl x :: st) n κ n0 Q := by
  intro hwf hst hlv hn0 p l e R s m args below meth c D cy ad0 ad A H locs cells slots mc ms ls C X hag L
  exact lv_imul C.1.1 C.1.2.1 d (k hwf (fun v hv => by
    rcases List.mem_cons.mp hv with h9 | h9
    · rw [h9]; exact ok_i _
    · exact hst v (List.mem_cons_of_mem _ (List.mem_cons_of_mem _ h9))) hlv hn0 p l e R s m args below meth c D cy ad0 ad A H locs cells slots mc ms ls C X hag L)
theorem k_dup {x : gAV} (d : decode M.cc pc = .ok (.dup, 1)) (k : kEx I M bc bs (pc + 1) lv (x :: x :: st) n κ n0 Q) : kEx I M bc bs pc lv (x :: st) n κ n0 Q := by
  intro hwf hst hlv hn0 p l e R s m args below meth c D cy ad0 ad A H locs cells slots mc ms ls C X hag L
  exact lv_dup C.1.1 C.1.2.1 d (gv_cat ad x) (k hwf (fun v hv => by
    rcases List.mem_cons.mp hv with h9 | h9
    · rw [h9]; exact hst _ List.mem_cons_self
    · exact hst v h9) hlv hn0 p l e R s m args below meth c D cy ad0 ad A H locs cells slots mc ms ls C X hag L)
theorem k_goto {off : Int} (tgt : Nat) (d : decode M.cc pc = .ok (.goto off, 3)) (ht : (pc : Int) + off = (tgt : Int)) (k : kEx I M bc bs tgt lv st n κ n0 Q) : kEx I M bc bs pc lv st n κ n0 Q := by
  intro hwf hst hlv hn0 p l e R s m args below meth c D cy ad0 ad A H locs cells slots mc ms ls C X hag L
  exact lv_goto C.1.1 C.1.2.1 d ht (k hwf hst hlv hn0 p l e R s m args below meth c D cy ad0 ad A H locs cells slots mc ms ls C X hag L)
theorem k_icmp_eq {x y : Int32} {off : Int} (tgt : Nat) (d : decode M.cc pc = .ok (.if_icmp .eq off, 3)) (ht : (pc : Int) + off = (tgt : Int)) (kt : x = y → kEx I M bc bs tgt lv st n κ n0 Q) (kf : ¬ (x = y) → kEx I M bc bs (pc + 3) lv st n κ n0 Q) : kEx I M bc bs pc lv (.inl y :: .inl x :: st) n κ n0 Q := by
  intro hwf hst hlv hn0 p l e R s m args below meth c D cy ad0 ad A H locs cells slots mc ms ls C X hag L
  exact lv_icmp_eq C.1.1 C.1.2.1 d ht (fun h => kt (by first | exact h | simpa using h) hwf (fun v hv => hst v (List.mem_cons_of_mem _ (List.mem_cons_of_mem _ hv))) hlv hn0 p l e R s m args below meth c D cy ad0 ad A H locs cells slots mc ms ls C X hag L) (fun h => kf (by first | exact h | simpa using h) hwf (fun v hv => hst v (List.mem_cons_of_mem _ (List.mem_cons_of_mem _ hv))) hlv hn0 p l e R s m args below meth c D cy ad0 ad A H locs cells slots mc ms ls C X hag L)
theorem k_icmp_ne {x y : Int32} {off : Int} (tgt : Nat) (d : decode M.cc pc = .ok (.if_icmp .ne off, 3)) (ht : (pc : Int) + off = (tgt : Int)) (kt : ¬ x = y → kEx I M bc bs tgt lv st n κ n0 Q) (kf : ¬ (¬ x = y) → kEx I M bc bs (pc + 3) lv st n κ n0 Q) : kEx I M bc bs pc lv (.inl y :: .inl x :: st) n κ n0 Q := by
  intro hwf hst hlv hn0 p l e R s m args below meth c D cy ad0 ad A H locs cells slots mc ms ls C X hag L
  exact lv_icmp_ne C.1.1 C.1.2.1 d ht (fun h => kt (by first | exact h | simpa using h) hwf (fun v hv => hst v (List.mem_cons_of_mem _ (List.mem_cons_of_mem _ hv))) hlv hn0 p l e R s m args below meth c D cy ad0 ad A H locs cells slots mc ms ls C X hag L) (fun h => kf (by first | exact h | simpa using h) hwf (fun v hv => hst v (List.mem_cons_of_mem _ (List.mem_cons_of_mem _ hv))) hlv hn0 p l e R s m args below meth c D cy ad0 ad A H locs cells slots mc ms ls C X hag L)
theorem k_icmp_lt {x y : Int32} {off : Int} (tgt : Nat) (d : decode M.cc pc = .ok (.if_icmp .lt off, 3)) (ht : (pc : Int) + off = (tgt : Int)) (kt : x < y → kEx I M bc bs tgt lv st n κ n0 Q) (kf : ¬ (x < y) → kEx I M bc bs (pc + 3) lv st n κ n0 Q) : kEx I M bc bs pc lv (.inl y :: .inl x :: st) n κ n0 Q := by
  intro hwf hst hlv hn0 p l e R s m args below meth c D cy ad0 ad A H locs cells slots mc ms ls C X hag L
  exact lv_icmp_lt C.1.1 C.1.2.1 d ht (fun h => kt (by first | exact h | simpa using h) hwf (fun v hv => hst v (List.mem_cons_of_mem _ (List.mem_cons_of_mem _ hv))) hlv hn0 p l e R s m args below meth c D cy ad0 ad A H locs cells slots mc ms ls C X hag L) (fun h => kf (by first | exact h | simpa using h) hwf (fun v hv => hst v (List.mem_cons_of_mem _ (List.mem_cons_of_mem _ hv))) hlv hn0 p l e R s m args below meth c D cy ad0 ad A H locs cells slots mc ms ls C X hag L)
theorem k_icmp_ge {x y : Int32} {off : Int} (tgt : Nat) (d : decode M.cc pc = .ok (.if_icmp .ge off, 3)) (ht : (pc : Int) + off = (tgt : Int)) (kt : y ≤ x → kEx I M bc bs tgt lv st n κ n0 Q) (kf : ¬ (y ≤ x) → kEx I M bc bs (pc + 3) lv st n κ n0 Q) : kEx I M bc bs pc lv (.inl y :: .inl x :: st) n κ n0 Q := by
  intro hwf hst hlv hn0 p l e R s m args below meth c D cy ad0 ad A H locs cells slots mc ms ls C X hag L
  exact lv_icmp_ge C.1.1 C.1.2.1 d ht (fun h => kt (by first | exact h | simpa using h) hwf (fun v hv => hst v (List.mem_cons_of_mem _ (List.mem_cons_of_mem _ hv))) hlv hn0 p l e R s m args below meth c D cy ad0 ad A H locs cells slots mc ms ls C X hag L) (fun h => kf (by first | exact h | simpa using h) hwf (fun v hv => hst v (List.mem_cons_of_mem _ (List.mem_cons_of_mem _ hv))) hlv hn0 p l e R s m args below meth c D cy ad0 ad A H locs cells slots mc ms ls C X hag L)
theorem k_icmp_gt {x y : Int32} {off : Int} (tgt : Nat) (d : decode M.cc pc = .ok (.if_icmp .gt off, 3)) (ht : (pc : Int) + off = (tgt : Int)) (kt : y < x → kEx I M bc bs tgt lv st n κ n0 Q) (kf : ¬ (y < x) → kEx I M bc bs (pc + 3) lv st n κ n0 Q) : kEx I M bc bs pc lv (.inl y :: .inl x :: st) n κ n0 Q := by
  intro hwf hst hlv hn0 p l e R s m args below meth c D cy ad0 ad A H locs cells slots mc ms ls C X hag L
  exact lv_icmp_gt C.1.1 C.1.2.1 d ht (fun h => kt (by first | exact h | simpa using h) hwf (fun v hv => hst v (List.mem_cons_of_mem _ (List.mem_cons_of_mem _ hv))) hlv hn0 p l e R s m args below meth c D cy ad0 ad A H locs cells slots mc ms ls C X hag L) (fun h => kf (by first | exact h | simpa using h) hwf (fun v hv => hst v (List.mem_cons_of_mem _ (List.mem_cons_of_mem _ hv))) hlv hn0 p l e R s m args below meth c D cy ad0 ad A H locs cells slots mc ms ls C X hag L)
theorem k_icmp_le {x y : Int32} {off : Int} (tgt : Nat) (d : decode M.cc pc = .ok (.if_icmp .le off, 3)) (ht : (pc : Int) + off = (tgt : Int)) (kt : x ≤ y → kEx I M bc bs tgt lv st n κ n0 Q) (kf : ¬ (x ≤ y) → kEx I M bc bs (pc + 3) lv st n κ n0 Q) : kEx I M bc bs pc lv (.inl y :: .inl x :: st) n κ n0 Q := by
  intro hwf hst hlv hn0 p l e R s m args below meth c D cy ad0 ad A H locs cells slots mc ms ls C X hag L
  exact lv_icmp_le C.1.1 C.1.2.1 d ht (fun h => kt (by first | exact h | simpa using h) hwf (fun v hv => hst v (List.mem_cons_of_mem _ (List.mem_cons_of_mem _ hv))) hlv hn0 p l e R s m args below meth c D cy ad0 ad A H locs cells slots mc ms ls C X hag L) (fun h => kf (by first | exact h | simpa using h) hwf (fun v hv => hst v (List.mem_cons_of_mem _ (List.mem_cons_of_mem _ hv))) hlv hn0 p l e R s m args below meth c D cy ad0 ad A H locs cells slots mc ms ls C X hag L)
/-- a field: an int or a cell -/
theorem k_get {i o ci : Nat} {fs : List (Option gAV)} {ref Cn : String} {T : u_T} {N : Nat} {x : gAV} (j : Nat) (d : decode M.cc pc = .ok (.getfield i, 3)) (ho : kM I n o) (hs : κ o = .inr (ci, fs)) (hc : vwCl[ci]? = some (Cn, T, N)) (hin : ∀ w ∈ u_ws Cn T N, w ∈ M.ws) (hj : j < N)
    (hl : Cond.fieldLink M.y.cls i ref (T j).2.1 (T j).2.2.1 ∈ M.ws) (hsame : ref = (T j).1 ∨ Cond.sameField ref (T j).1 (T j).2.1 (T j).2.2.1 ∈ M.ws) (hf : fs[j]? = some (some x)) (k : kEx I M bc bs (pc + 3) lv (x :: st) n κ n0 Q) : kEx I M bc bs pc lv (.inr o :: st) n κ n0 Q := by
  intro hwf hst hlv hn0 p l e R s m args below meth c D cy ad0 ad A H locs cells slots mc ms ls C X hag L
  obtain ⟨i0, -, hw⟩ := kws_at (cy := cy) (ad := ad) (κ := κ) ho hs
  have hx : kvOk I n x := by
    have := hwf o ho
    rw [hs] at this
    exact this x (List.mem_of_getElem? hf)
  refine va_get (D := D) (ws := kws I cy ad n κ) (tys := gtys cy) (v := gv ad x) C.1.1 C.1.2.1 C.1.2.2.2.2 hin C.1.2.2.2.1 C.2.2.2.2.1 (kws_P X.1) i0 hw hc j hj (C.1.2.2.2.2 _ hl) (fun x hx => ?_) ?_ d (k hwf (fun v hv => ?_) hlv hn0 p l e R s m args below meth c D cy ad0 ad A H locs cells slots mc ms ls C X hag L)
  · rcases hsame with h | h
    · rw [h]; exact hx
    · exact u_same (C.1.2.2.2.2 _ h) x hx
  · rw [List.getElem?_map, hf]
    rfl
  · rcases List.mem_cons.mp hv with h9 | h9
    · rw [h9]; exact hx
    · exact hst v (List.mem_cons_of_mem _ h9)
theorem k_put {i o ci : Nat} {fs : List (Option gAV)} {ref Cn : String} {T : u_T} {N : Nat} {ty0 : Nat → FieldType} {v : gAV} (j : Nat) (d : decode M.cc pc = .ok (.putfield i, 3)) (ho : kM I n o) (hs : κ o = .inr (ci, fs)) (hc : vwCl[ci]? = some (Cn, T, N)) (hin : ∀ w ∈ u_ws Cn T N, w ∈ M.ws) (hty : ∀ k, k < N → parseFieldDescriptor (T k).2.2.1 = some (ty0 k)) (hnm : ∀ a, a < N → ∀ b, b < N → a ≠ b → (T a).2.1 ≠ (T b).2.1) (hj : j < N)
    (hl : Cond.fieldLink M.y.cls i ref (T j).2.1 (T j).2.2.1 ∈ M.ws) (hsame : ref = (T j).1 ∨ Cond.sameField ref (T j).1 (T j).2.1 (T j).2.2.1 ∈ M.ws) (hfl : j < fs.length) (hfin : (T j).2.2.2 = false) (hn : ∀ ad, narrow (ty0 j) (gv ad v) = gv ad v) (hfit : ∀ ad, fits (ty0 j) (gv ad v) = true)
    (k : kEx I M bc bs (pc + 3) lv st n (va_up κ o (.inr (ci, fs.set j (some v)))) n0 Q) : kEx I M bc bs pc lv (v :: .inr o :: st) n κ n0 Q := by
  intro hwf hst hlv hn0 p l e R s m args below meth c D cy ad0 ad A H locs cells slots mc ms ls C X hag L
  obtain ⟨i0, hi0, hw⟩ := kws_at (cy := cy) (ad := ad) (κ := κ) ho hs
  have hcx : kcOk I n (.inr (ci, fs.set j (some v))) := by
    intro x hx
    rcases List.mem_or_eq_of_mem_set hx with q | q
    · have := hwf o ho
      rw [hs] at this
      exact this x q
    · cases q
      exact hst _ List.mem_cons_self
  refine va_put (D := D) (ws := kws I cy ad n κ) (tys := gtys cy) (ty := ty0 j) (v := gv ad v) C.1.1 C.1.2.1 C.1.2.2.2.2 hin ty0 hty hnm C.1.2.2.2.1 C.2.2.2.2.1 (kws_P X.1) (kws_D C.2.1 X.2.1 X.2.2.1) X.2.2.2.2 i0 hw hc j hj (C.1.2.2.2.2 _ hl) (fun x hx => ?_) hfin (hty j hj) (hn ad) (hfit ad) (by rw [List.length_map]; exact hfl) d (fun H1 locs1 hP1 hD1 hS1 => ?_)
  · rcases hsame with h | h
    · rw [h]; exact hx
    · exact u_same (C.1.2.2.2.2 _ h) x hx
  · rw [kws_set (x := .inr (ci, fs.set j (some v))) C.2.1 hi0 (by show (Sum.inr (ci, (fs.set j (some v)).map (kfv ad)) : va_E) = _; rw [List.map_set]; rfl)] at hP1
    exact k (k_upd hwf hcx) (fun v hv => hst v (List.mem_cons_of_mem _ (List.mem_cons_of_mem _ hv))) hlv hn0 p l e R s m args below meth c D cy ad0 ad A H1 locs1 cells slots mc ms ls C ⟨kP_ws hP1, X.2.1, X.2.2.1, X.2.2.2.1, hS1⟩ hag L
theorem k_putF {i o ci : Nat} {fs : List (Option gAV)} {ref Cn : String} {T : u_T} {N : Nat} {ty0 : Nat → FieldType} {v : gAV} (j : Nat) (d : decode M.cc pc = .ok (.putfield i, 3)) (ho : kM I n o) (hs : κ o = .inr (ci, fs)) (hc : vwCl[ci]? = some (Cn, T, N)) (hin : ∀ w ∈ u_ws Cn T N, w ∈ M.ws) (hty : ∀ k, k < N → parseFieldDescriptor (T k).2.2.1 = some (ty0 k)) (hnm : ∀ a, a < N → ∀ b, b < N → a ≠ b → (T a).2.1 ≠ (T b).2.1) (hj : j < N)
    (hl : Cond.fieldLink M.y.cls i ref (T j).2.1 (T j).2.2.1 ∈ M.ws) (hsame : ref = (T j).1 ∨ Cond.sameField ref (T j).1 (T j).2.1 (T j).2.2.1 ∈ M.ws) (hfl : j < fs.length) (hfin : (T j).2.2.2 = true) (hy : M.y.name = "<init>") (hdecl : (T j).1 = M.y.cls) (hn : ∀ ad, narrow (ty0 j) (gv ad v) = gv ad v) (hfit : ∀ ad, fits (ty0 j) (gv ad v) = true)
    (k : kEx I M bc bs (pc + 3) lv st n (va_up κ o (.inr (ci, fs.set j (some v)))) n0 Q) : kEx I M bc bs pc lv (v :: .inr o :: st) n κ n0 Q := by
  intro hwf hst hlv hn0 p l e R s m args below meth c D cy ad0 ad A H locs cells slots mc ms ls C X hag L
  obtain ⟨i0, hi0, hw⟩ := kws_at (cy := cy) (ad := ad) (κ := κ) ho hs
  have hcx : kcOk I n (.inr (ci, fs.set j (some v))) := by
    intro x hx
    rcases List.mem_or_eq_of_mem_set hx with q | q
    · have := hwf o ho
      rw [hs] at this
      exact this x q
    · cases q
      exact hst _ List.mem_cons_self
  refine va_putF (D := D) (ws := kws I cy ad n κ) (tys := gtys cy) (ty := ty0 j) (v := gv ad v) C.1.1 C.1.2.1 C.1.2.2.2.2 hin ty0 hty hnm C.1.2.2.2.1 C.2.2.2.2.1 (kws_P X.1) (kws_D C.2.1 X.2.1 X.2.2.1) X.2.2.2.2 i0 hw hc j hj (C.1.2.2.2.2 _ hl) (fun x hx => ?_) hfin (C.2.2.2.1.1.trans hy) hdecl (hty j hj) (hn ad) (hfit ad) (by rw [List.length_map]; exact hfl) d (fun H1 locs1 hP1 hD1 hS1 => ?_)
  · rcases hsame with h | h
    · rw [h]; exact hx
    · exact u_same (C.1.2.2.2.2 _ h) x hx
  · rw [kws_set (x := .inr (ci, fs.set j (some v))) C.2.1 hi0 (by show (Sum.inr (ci, (fs.set j (some v)).map (kfv ad)) : va_E) = _; rw [List.map_set]; rfl)] at hP1
    exact k (k_upd hwf hcx) (fun v hv => hst v (List.mem_cons_of_mem _ (List.mem_cons_of_mem _ hv))) hlv hn0 p l e R s m args below meth c D cy ad0 ad A H1 locs1 cells slots mc ms ls C ⟨kP_ws hP1, X.2.1, X.2.2.1, X.2.2.2.1, hS1⟩ hag L
theorem k_iast {a N : Nat} {f : Nat → Int32} {i x : Int32} (d : decode M.cc pc = .ok (.iastore, 1)) (ha : kM I n a) (hs : κ a = .inl (0, N, .inl f)) (hi : vp_in i N) (k : kEx I M bc bs (pc + 1) lv st n (va_up κ a (.inl (0, N, .inl (upd f i.toNatClampNeg (x))))) n0 Q) : kEx I M bc bs pc lv (.inl x :: .inl i :: .inr a :: st) n κ n0 Q := by
  intro hwf hst hlv hn0 p l e R s m args below meth c D cy ad0 ad A H locs cells slots mc ms ls C X hag L
  obtain ⟨i0, hi0, hw⟩ := kws_at (cy := cy) (ad := ad) (κ := κ) ha hs
  refine va_iast (D := D) (ws := kws I cy ad n κ) (tys := gtys cy) C.1.1 C.1.2.1 C.2.2.2.2.1 (kws_P X.1) (kws_D C.2.1 X.2.1 X.2.2.1) X.2.2.2.2 i0 0 hw rfl hi d (fun H1 locs1 hP1 hD1 hS1 => ?_)
  rw [kws_set (cy := cy) (ad := ad) (x := .inl (0, N, .inl (upd f i.toNatClampNeg (x)))) (e := .inl (cy 0, N, .inl (upd f i.toNatClampNeg (x)))) C.2.1 hi0 rfl] at hP1
  exact k (k_upd hwf trivial) (fun v hv => hst v (List.mem_cons_of_mem _ (List.mem_cons_of_mem _ (List.mem_cons_of_mem _ hv)))) hlv hn0 p l e R s m args below meth c D cy ad0 ad A H1 locs1 cells slots mc ms ls C ⟨kP_ws hP1, X.2.1, X.2.2.1, X.2.2.2.1, hS1⟩ hag L
theorem k_zast {a N : Nat} {f : Nat → Int32} {i x : Int32} (d : decode M.cc pc = .ok (.bastore, 1)) (ha : kM I n a) (hs : κ a = .inl (1, N, .inl f)) (hi : vp_in i N) (k : kEx I M bc bs (pc + 1) lv st n (va_up κ a (.inl (1, N, .inl (upd f i.toNatClampNeg (vp_nar .boolean x))))) n0 Q) : kEx I M bc bs pc lv (.inl x :: .inl i :: .inr a :: st) n κ n0 Q := by
  intro hwf hst hlv hn0 p l e R s m args below meth c D cy ad0 ad A H locs cells slots mc ms ls C X hag L
  obtain ⟨i0, hi0, hw⟩ := kws_at (cy := cy) (ad := ad) (κ := κ) ha hs
  refine va_zast (D := D) (ws := kws I cy ad n κ) (tys := gtys cy) C.1.1 C.1.2.1 C.2.2.2.2.1 (kws_P X.1) (kws_D C.2.1 X.2.1 X.2.2.1) X.2.2.2.2 i0 1 hw rfl hi d (fun H1 locs1 hP1 hD1 hS1 => ?_)
  rw [kws_set (cy := cy) (ad := ad) (x := .inl (1, N, .inl (upd f i.toNatClampNeg (vp_nar .boolean x)))) (e := .inl (cy 1, N, .inl (upd f i.toNatClampNeg (vp_nar .boolean x)))) C.2.1 hi0 rfl] at hP1
  exact k (k_upd hwf trivial) (fun v hv => hst v (List.mem_cons_of_mem _ (List.mem_cons_of_mem _ (List.mem_cons_of_mem _ hv)))) hlv hn0 p l e R s m args below meth c D cy ad0 ad A H1 locs1 cells slots mc ms ls C ⟨kP_ws hP1, X.2.1, X.2.2.1, X.2.2.2.1, hS1⟩ hag L
theorem k_alen {a ty N : Nat} {f : (Nat → Int32) ⊕ (Nat → Option Nat)} (v : Int32) (d : decode M.cc pc = .ok (.arraylength, 1)) (ha : kM I n a) (hs : κ a = .inl (ty, N, f)) (ht : ty < 6) (hv : nI N = v) (k : kEx I M bc bs (pc + 1) lv (.inl v :: st) n κ n0 Q) : kEx I M bc bs pc lv (.inr a :: st) n κ n0 Q := by
  intro hwf hst hlv hn0 p l e R s m args below meth c D cy ad0 ad A H locs cells slots mc ms ls C X hag L
  obtain ⟨i0, -, hw⟩ := kws_at (cy := cy) (ad := ad) (κ := κ) ha hs
  have ht6 : (gtys cy)[ty]? = some (cy ty, gty ty) := by
    rcases (show ty = 0 ∨ ty = 1 ∨ ty = 2 ∨ ty = 3 ∨ ty = 4 ∨ ty = 5 by omega) with h | h | h | h | h | h <;> subst h <;> rfl
  have K := k hwf (fun v hv => by
    rcases List.mem_cons.mp hv with h9 | h9
    · rw [h9]; exact ok_i _
    · exact hst v (List.mem_cons_of_mem _ h9)) hlv hn0 p l e R s m args below meth c D cy ad0 ad A H locs cells slots mc ms ls C X hag L
  cases f with
  | inl f => exact va_alen (D := D) (ws := kws I cy ad n κ) (tys := gtys cy) C.1.1 C.1.2.1 C.2.2.2.2.1 (kws_P X.1) i0 ty hw ht6 hv d K
  | inr g => exact va_alen (D := D) (ws := kws I cy ad n κ) (tys := gtys cy) C.1.1 C.1.2.1 C.2.2.2.2.1 (kws_P X.1) i0 ty hw ht6 hv d K
theorem k_aald5 {a N t : Nat} {g : Nat → Option Nat} {i : Int32} (d : decode M.cc pc = .ok (.aaload, 1)) (ha : kM I n a) (hs : κ a = .inl (5, N, .inr g)) (hi : vp_in i N) (hg : g i.toNatClampNeg = some t) (k : kEx I M bc bs (pc + 1) lv (.inr t :: st) n κ n0 Q) : kEx I M bc bs pc lv (.inl i :: .inr a :: st) n κ n0 Q := by
  intro hwf hst hlv hn0 p l e R s m args below meth c D cy ad0 ad A H locs cells slots mc ms ls C X hag L
  obtain ⟨i0, -, hw⟩ := kws_at (cy := cy) (ad := ad) (κ := κ) ha hs
  have hlt : i.toNatClampNeg < N := Nat.not_le.mp fun q => hi (Or.inr q)
  have ht : kM I n t := by
    have := hwf a ha
    rw [hs] at this
    exact this _ _ hg
  have K := k hwf (fun v hv => by
    rcases List.mem_cons.mp hv with h9 | h9
    · rw [h9]; intro k e; cases e; exact ht
    · exact hst v (List.mem_cons_of_mem _ (List.mem_cons_of_mem _ h9))) hlv hn0 p l e R s m args below meth c D cy ad0 ad A H locs cells slots mc ms ls C X hag L
  exact W.aald (v := va_rf ((fun j => (g j).map ad) i.toNatClampNeg)) (ty := .array .boolean) C.1.1 C.1.2.1 (kws_P X.1 i0 _ hw) ((C.2.2.2.2.1.2 5 _ rfl).1 N (fun j => va_rf ((fun j => (g j).map ad) j))) rfl (fun q => by cases q) (by show ¬ (i < 0 ∨ (arrV _ _ _).slots.size ≤ _); rw [arrV_size]; exact hi) (by show (arrV _ _ _).slots[_]? = _; rw [arrV_read _ _ hlt]) rfl rfl d (by
    have e9 : va_rf ((fun j => (g j).map ad) i.toNatClampNeg) = .ref (ad t) := by
      show va_rf ((g i.toNatClampNeg).map ad) = _
      rw [hg]
      rfl
    rw [e9]
    exact K)
theorem k_aast2 {a N o : Nat} {g : Nat → Option Nat} {fs : List (Option gAV)} {T : u_T} {NF : Nat} {i : Int32} (d : decode M.cc pc = .ok (.aastore, 1)) (ha : kM I n a) (hs : κ a = .inl (2, N, .inr g)) (ho : kM I n o) (hso : κ o = .inr (0, fs)) (hc : vwCl[0]? = some (RX0, T, NF)) (hi : vp_in i N) (k : kEx I M bc bs (pc + 1) lv st n (va_up κ a (.inl (2, N, .inr (va_up g i.toNatClampNeg (some o))))) n0 Q) : kEx I M bc bs pc lv (.inr o :: .inl i :: .inr a :: st) n κ n0 Q := by
  intro hwf hst hlv hn0 p l e R s m args below meth c D cy ad0 ad A H locs cells slots mc ms ls C X hag L
  obtain ⟨i0, hi0, hw⟩ := kws_at (cy := cy) (ad := ad) (κ := κ) ha hs
  obtain ⟨i1, hi1, hw1⟩ := kws_at (cy := cy) (ad := ad) (κ := κ) ho hso
  refine va_astq (D := D) (ws := kws I cy ad n κ) (tys := gtys cy) C.1.1 C.1.2.1 C.2.2.2.2.1 (kws_P X.1) (kws_D C.2.1 X.2.1 X.2.2.1) X.2.2.2.2 i0 2 i1 0 hw rfl hw1 hc hi d (fun H1 locs1 hP1 hD1 hS1 => ?_)
  rw [kws_set (x := .inl (2, N, .inr (va_up g i.toNatClampNeg (some o)))) C.2.1 hi0 (by
    show (Sum.inl (cy 2, N, .inr (.inr (.inr (.inr (fun j => (va_up g i.toNatClampNeg (some o) j).map ad))))) : va_E) = _
    congr 7
    funext j
    unfold va_up
    split <;> rfl)] at hP1
  refine k (k_upd hwf (fun j t e => ?_)) (fun v hv => hst v (List.mem_cons_of_mem _ (List.mem_cons_of_mem _ (List.mem_cons_of_mem _ hv)))) hlv hn0 p l e R s m args below meth c D cy ad0 ad A H1 locs1 cells slots mc ms ls C ⟨kP_ws hP1, X.2.1, X.2.2.1, X.2.2.2.1, hS1⟩ hag L
  by_cases q : j = i.toNatClampNeg
  · rw [q, va_up_self] at e
    cases e
    exact ho
  · rw [va_up_ne _ _ q] at e
    have := hwf a ha
    rw [hs] at this
    exact this _ _ e
theorem k_aast3 {a N o : Nat} {g : Nat → Option Nat} {fs : List (Option gAV)} {T : u_T} {NF : Nat} {i : Int32} (d : decode M.cc pc = .ok (.aastore, 1)) (ha : kM I n a) (hs : κ a = .inl (3, N, .inr g)) (ho : kM I n o) (hso : κ o = .inr (1, fs)) (hc : vwCl[1]? = some (RX1, T, NF)) (hi : vp_in i N) (k : kEx I M bc bs (pc + 1) lv st n (va_up κ a (.inl (3, N, .inr (va_up g i.toNatClampNeg (some o))))) n0 Q) : kEx I M bc bs pc lv (.inr o :: .inl i :: .inr a :: st) n κ n0 Q := by
  intro hwf hst hlv hn0 p l e R s m args below meth c D cy ad0 ad A H locs cells slots mc ms ls C X hag L
  obtain ⟨i0, hi0, hw⟩ := kws_at (cy := cy) (ad := ad) (κ := κ) ha hs
  obtain ⟨i1, hi1, hw1⟩ := kws_at (cy := cy) (ad := ad) (κ := κ) ho hso
  refine va_astq (D := D) (ws := kws I cy ad n κ) (tys := gtys cy) C.1.1 C.1.2.1 C.2.2.2.2.1 (kws_P X.1) (kws_D C.2.1 X.2.1 X.2.2.1) X.2.2.2.2 i0 3 i1 1 hw rfl hw1 hc hi d (fun H1 locs1 hP1 hD1 hS1 => ?_)
  rw [kws_set (x := .inl (3, N, .inr (va_up g i.toNatClampNeg (some o)))) C.2.1 hi0 (by
    show (Sum.inl (cy 3, N, .inr (.inr (.inr (.inr (fun j => (va_up g i.toNatClampNeg (some o) j).map ad))))) : va_E) = _
    congr 7
    funext j
    unfold va_up
    split <;> rfl)] at hP1
  refine k (k_upd hwf (fun j t e => ?_)) (fun v hv => hst v (List.mem_cons_of_mem _ (List.mem_cons_of_mem _ (List.mem_cons_of_mem _ hv)))) hlv hn0 p l e R s m args below meth c D cy ad0 ad A H1 locs1 cells slots mc ms ls C ⟨kP_ws hP1, X.2.1, X.2.2.1, X.2.2.2.1, hS1⟩ hag L
  by_cases q : j = i.toNatClampNeg
  · rw [q, va_up_self] at e
    cases e
    exact ho
  · rw [va_up_ne _ _ q] at e
    have := hwf a ha
    rw [hs] at this
    exact this _ _ e
theorem k_aast4 {a N o : Nat} {g : Nat → Option Nat} {fs : List (Option gAV)} {T : u_T} {NF : Nat} {i : Int32} (d : decode M.cc pc = .ok (.aastore, 1)) (ha : kM I n a) (hs : κ a = .inl (4, N, .inr g)) (ho : kM I n o) (hso : κ o = .inr (4, fs)) (hc : vwCl[4]? = some (RX4, T, NF)) (hi : vp_in i N) (k : kEx I M bc bs (pc + 1) lv st n (va_up κ a (.inl (4, N, .inr (va_up g i.toNatClampNeg (some o))))) n0 Q) : kEx I M bc bs pc lv (.inr o :: .inl i :: .inr a :: st) n κ n0 Q := by
  intro hwf hst hlv hn0 p l e R s m args below meth c D cy ad0 ad A H locs cells slots mc ms ls C X hag L
  obtain ⟨i0, hi0, hw⟩ := kws_at (cy := cy) (ad := ad) (κ := κ) ha hs
  obtain ⟨i1, hi1, hw1⟩ := kws_at (cy := cy) (ad := ad) (κ := κ) ho hso
  refine va_astq (D := D) (ws := kws I cy ad n κ) (tys := gtys cy) C.1.1 C.1.2.1 C.2.2.2.2.1 (kws_P X.1) (kws_D C.2.1 X.2.1 X.2.2.1) X.2.2.2.2 i0 4 i1 4 hw rfl hw1 hc hi d (fun H1 locs1 hP1 hD1 hS1 => ?_)
  rw [kws_set (x := .inl (4, N, .inr (va_up g i.toNatClampNeg (some o)))) C.2.1 hi0 (by
    show (Sum.inl (cy 4, N, .inr (.inr (.inr (.inr (fun j => (va_up g i.toNatClampNeg (some o) j).map ad))))) : va_E) = _
    congr 7
    funext j
    unfold va_up
    split <;> rfl)] at hP1
  refine k (k_upd hwf (fun j t e => ?_)) (fun v hv => hst v (List.mem_cons_of_mem _ (List.mem_cons_of_mem _ (List.mem_cons_of_mem _ hv)))) hlv hn0 p l e R s m args below meth c D cy ad0 ad A H1 locs1 cells slots mc ms ls C ⟨kP_ws hP1, X.2.1, X.2.2.1, X.2.2.2.1, hS1⟩ hag L
  by_cases q : j = i.toNatClampNeg
  · rw [q, va_up_self] at e
    cases e
    exact ho
  · rw [va_up_ne _ _ q] at e
    have := hwf a ha
    rw [hs] at this
    exact this _ _ e
theorem k_newi {k N bc' bs' : Nat} {v : Int32} (d : decode M.cc pc = .ok (.newarray .int, 2)) (harr : Cond.arrayClass .int ∈ M.ws) (hk : k ∈ I.1) (hp : I.2 k = n) (hN : v = nI N) (hN2 : N ≤ 20000) (hbc : bc' + 1 ≤ bc) (hbs : bs' + N ≤ bs) (k' : kEx I M bc' bs' (pc + 2) lv (.inr k :: st) (n + 1) (va_up κ k (.inl (0, N, .inl (fun _ => 0)))) n0 Q) : kEx I M bc bs pc lv (.inl v :: st) n κ n0 Q := by
  intro hwf hst hlv hn0 p l e R s m args below meth c D cy ad0 ad A H locs cells slots mc ms ls C X hag L
  subst hN
  have hb1 := C.2.2.1
  have hb2 := C.2.2.2.2.2.1
  refine va_newa (D := D) (atype := .int) (ws := kws I cy ad n κ) (tys := gtys cy) (ty := .int) (a0 := (N, .inl (fun _ => 0))) C.1.1 C.1.2.1 (C.1.2.2.2.2 _ harr) rfl C.2.2.2.2.1 (kws_P X.1) (kws_D C.2.1 X.2.1 X.2.2.1) X.2.2.2.2 X.2.2.2.1 (fun _ => rfl) (nI_pos (by omega)) (nI_clamp (by omega)) (by show N * _ ≤ 536870912; simp [componentBytes]; omega) (by omega) (by omega) d (fun q cA H1 hK1 hP1 hD1 hS1 => ?_)
  have hcA : cA = cy 0 := by
    have r1 := (hK1.2 6 (cA, .int) rfl).2
    have r2 := (C.2.2.2.2.1.2 0 (cy 0, .int) rfl).2
    exact Option.some.inj (Eq.trans (Eq.symm r1) r2)
  subst hcA
  obtain ⟨g1, g2, g3, g4, g5⟩ := k_grow C.2.1 hwf X.2.1 (x := .inl (0, N, .inl (fun _ => 0))) hk hp (trivial) hP1 hD1
  have C1 : kCx I M bc' bs' p R s m args meth c D cy (cells + 1) (slots + N) mc ms := ⟨C.1, C.2.1, C.2.2.1, C.2.2.2.1, C.2.2.2.2.1, ⟨by have := C.2.2.2.2.2.1.1; omega, by have := C.2.2.2.2.2.1.2; omega⟩, C.2.2.2.2.2.2⟩
  have K := k' g2 (fun v hv => by
    rcases List.mem_cons.mp hv with h9 | h9
    · rw [h9]; intro k9 e9; cases e9; exact ⟨hk, by omega⟩
    · exact (hst v (List.mem_cons_of_mem _ h9)).mono (by omega)) (fun v hv => (hlv v hv).mono (by omega)) (by omega) p l e R s m args below meth c D cy ad0 (va_up ad k q) A H1 locs (cells + 1) (slots + N) mc ms ls C1 ⟨g3, g4, g5, X.2.2.2.1, hS1⟩ (fun j hj => (g1 j (hj.mono hn0)).trans (hag j hj)) (gLs_same g1 hlv L)
  have e1 : (Sum.inr k :: st : List gAV).map (gv (va_up ad k q)) = .ref q :: st.map (gv ad) := by
    show Value.ref (va_up ad k q k) :: st.map (gv (va_up ad k q)) = _
    rw [va_up_self, map_same g1 (fun v hv => hst v (List.mem_cons_of_mem _ hv))]
  rw [e1] at K
  exact K
theorem k_newz {k N bc' bs' : Nat} {v : Int32} (d : decode M.cc pc = .ok (.newarray .boolean, 2)) (harr : Cond.arrayClass .boolean ∈ M.ws) (hk : k ∈ I.1) (hp : I.2 k = n) (hN : v = nI N) (hN2 : N ≤ 20000) (hbc : bc' + 1 ≤ bc) (hbs : bs' + N ≤ bs) (k' : kEx I M bc' bs' (pc + 2) lv (.inr k :: st) (n + 1) (va_up κ k (.inl (1, N, .inl (fun _ => 0)))) n0 Q) : kEx I M bc bs pc lv (.inl v :: st) n κ n0 Q := by
  intro hwf hst hlv hn0 p l e R s m args below meth c D cy ad0 ad A H locs cells slots mc ms ls C X hag L
  subst hN
  have hb1 := C.2.2.1
  have hb2 := C.2.2.2.2.2.1
  refine va_newa (D := D) (atype := .boolean) (ws := kws I cy ad n κ) (tys := gtys cy) (ty := .boolean) (a0 := (N, .inl (fun _ => 0))) C.1.1 C.1.2.1 (C.1.2.2.2.2 _ harr) rfl C.2.2.2.2.1 (kws_P X.1) (kws_D C.2.1 X.2.1 X.2.2.1) X.2.2.2.2 X.2.2.2.1 (fun _ => rfl) (nI_pos (by omega)) (nI_clamp (by omega)) (by show N * _ ≤ 536870912; simp [componentBytes]; omega) (by omega) (by omega) d (fun q cA H1 hK1 hP1 hD1 hS1 => ?_)
  have hcA : cA = cy 1 := by
    have r1 := (hK1.2 6 (cA, .boolean) rfl).2
    have r2 := (C.2.2.2.2.1.2 1 (cy 1, .boolean) rfl).2
    exact Option.some.inj (Eq.trans (Eq.symm r1) r2)
  subst hcA
  obtain ⟨g1, g2, g3, g4, g5⟩ := k_grow C.2.1 hwf X.2.1 (x := .inl (1, N, .inl (fun _ => 0))) hk hp (trivial) hP1 hD1
  have C1 : kCx I M bc' bs' p R s m args meth c D cy (cells + 1) (slots + N) mc ms := ⟨C.1, C.2.1, C.2.2.1, C.2.2.2.1, C.2.2.2.2.1, ⟨by have := C.2.2.2.2.2.1.1; omega, by have := C.2.2.2.2.2.1.2; omega⟩, C.2.2.2.2.2.2⟩
  have K := k' g2 (fun v hv => by
    rcases List.mem_cons.mp hv with h9 | h9
    · rw [h9]; intro k9 e9; cases e9; exact ⟨hk, by omega⟩
    · exact (hst v (List.mem_cons_of_mem _ h9)).mono (by omega)) (fun v hv => (hlv v hv).mono (by omega)) (by omega) p l e R s m args below meth c D cy ad0 (va_up ad k q) A H1 locs (cells + 1) (slots + N) mc ms ls C1 ⟨g3, g4, g5, X.2.2.2.1, hS1⟩ (fun j hj => (g1 j (hj.mono hn0)).trans (hag j hj)) (gLs_same g1 hlv L)
  have e1 : (Sum.inr k :: st : List gAV).map (gv (va_up ad k q)) = .ref q :: st.map (gv ad) := by
    show Value.ref (va_up ad k q k) :: st.map (gv (va_up ad k q)) = _
    rw [va_up_self, map_same g1 (fun v hv => hst v (List.mem_cons_of_mem _ hv))]
  rw [e1] at K
  exact K
theorem k_newq2 {k N bc' bs' index : Nat} {v : Int32} (d : decode M.cc pc = .ok (.anewarray index, 3)) (hcl : Cond.classLink M.y.cls index RX0 ∈ M.ws) (hk : k ∈ I.1) (hp : I.2 k = n) (hN : v = nI N) (hN2 : N ≤ 20000) (hbc : bc' + 1 ≤ bc) (hbs : bs' + N ≤ bs) (k' : kEx I M bc' bs' (pc + 3) lv (.inr k :: st) (n + 1) (va_up κ k (.inl (2, N, .inr (fun _ => none)))) n0 Q) : kEx I M bc bs pc lv (.inl v :: st) n κ n0 Q := by
  intro hwf hst hlv hn0 p l e R s m args below meth c D cy ad0 ad A H locs cells slots mc ms ls C X hag L
  subst hN
  have hb1 := C.2.2.1
  have hb2 := C.2.2.2.2.2.1
  refine va_newq (D := D) (C := RX0) (ws := kws I cy ad n κ) (tys := gtys cy) C.1.1 C.1.2.1 C.1.2.2.2.1 (C.1.2.2.2.2 _ hcl) C.2.2.2.2.2.2.2.1 C.2.2.2.2.1 (kws_P X.1) (kws_D C.2.1 X.2.1 X.2.2.1) X.2.2.2.2 X.2.2.2.1 (nI_pos (by omega)) (nI_clamp (by omega)) (by omega) (by omega) (by omega) d (fun q cA H1 hK1 hP1 hD1 hS1 => ?_)
  have hcA : cA = cy 2 := by
    obtain ⟨_, _, _, _, _, r1⟩ := (hK1.2 6 (cA, .object RX0) rfl).2
    obtain ⟨_, _, _, _, _, r2⟩ := (C.2.2.2.2.1.2 2 (cy 2, .object RX0) rfl).2
    exact Option.some.inj (Eq.trans (Eq.symm r1) r2)
  subst hcA
  obtain ⟨g1, g2, g3, g4, g5⟩ := k_grow C.2.1 hwf X.2.1 (x := .inl (2, N, .inr (fun _ => none))) hk hp (fun j t e9 => by cases e9) hP1 hD1
  have C1 : kCx I M bc' bs' p R s m args meth c D cy (cells + 1) (slots + N) mc ms := ⟨C.1, C.2.1, C.2.2.1, C.2.2.2.1, C.2.2.2.2.1, ⟨by have := C.2.2.2.2.2.1.1; omega, by have := C.2.2.2.2.2.1.2; omega⟩, C.2.2.2.2.2.2⟩
  have K := k' g2 (fun v hv => by
    rcases List.mem_cons.mp hv with h9 | h9
    · rw [h9]; intro k9 e9; cases e9; exact ⟨hk, by omega⟩
    · exact (hst v (List.mem_cons_of_mem _ h9)).mono (by omega)) (fun v hv => (hlv v hv).mono (by omega)) (by omega) p l e R s m args below meth c D cy ad0 (va_up ad k q) A H1 locs (cells + 1) (slots + N) mc ms ls C1 ⟨g3, g4, g5, X.2.2.2.1, hS1⟩ (fun j hj => (g1 j (hj.mono hn0)).trans (hag j hj)) (gLs_same g1 hlv L)
  have e1 : (Sum.inr k :: st : List gAV).map (gv (va_up ad k q)) = .ref q :: st.map (gv ad) := by
    show Value.ref (va_up ad k q k) :: st.map (gv (va_up ad k q)) = _
    rw [va_up_self, map_same g1 (fun v hv => hst v (List.mem_cons_of_mem _ hv))]
  rw [e1] at K
  exact K
theorem k_newq3 {k N bc' bs' index : Nat} {v : Int32} (d : decode M.cc pc = .ok (.anewarray index, 3)) (hcl : Cond.classLink M.y.cls index RX1 ∈ M.ws) (hk : k ∈ I.1) (hp : I.2 k = n) (hN : v = nI N) (hN2 : N ≤ 20000) (hbc : bc' + 1 ≤ bc) (hbs : bs' + N ≤ bs) (k' : kEx I M bc' bs' (pc + 3) lv (.inr k :: st) (n + 1) (va_up κ k (.inl (3, N, .inr (fun _ => none)))) n0 Q) : kEx I M bc bs pc lv (.inl v :: st) n κ n0 Q := by
  intro hwf hst hlv hn0 p l e R s m args below meth c D cy ad0 ad A H locs cells slots mc ms ls C X hag L
  subst hN
  have hb1 := C.2.2.1
  have hb2 := C.2.2.2.2.2.1
  refine va_newq (D := D) (C := RX1) (ws := kws I cy ad n κ) (tys := gtys cy) C.1.1 C.1.2.1 C.1.2.2.2.1 (C.1.2.2.2.2 _ hcl) C.2.2.2.2.2.2.2.2.1 C.2.2.2.2.1 (kws_P X.1) (kws_D C.2.1 X.2.1 X.2.2.1) X.2.2.2.2 X.2.2.2.1 (nI_pos (by omega)) (nI_clamp (by omega)) (by omega) (by omega) (by omega) d (fun q cA H1 hK1 hP1 hD1 hS1 => ?_)
  have hcA : cA = cy 3 := by
    obtain ⟨_, _, _, _, _, r1⟩ := (hK1.2 6 (cA, .object RX1) rfl).2
    obtain ⟨_, _, _, _, _, r2⟩ := (C.2.2.2.2.1.2 3 (cy 3, .object RX1) rfl).2
    exact Option.some.inj (Eq.trans (Eq.symm r1) r2)
  subst hcA
  obtain ⟨g1, g2, g3, g4, g5⟩ := k_grow C.2.1 hwf X.2.1 (x := .inl (3, N, .inr (fun _ => none))) hk hp (fun j t e9 => by cases e9) hP1 hD1
  have C1 : kCx I M bc' bs' p R s m args meth c D cy (cells + 1) (slots + N) mc ms := ⟨C.1, C.2.1, C.2.2.1, C.2.2.2.1, C.2.2.2.2.1, ⟨by have := C.2.2.2.2.2.1.1; omega, by have := C.2.2.2.2.2.1.2; omega⟩, C.2.2.2.2.2.2⟩
  have K := k' g2 (fun v hv => by
    rcases List.mem_cons.mp hv with h9 | h9
    · rw [h9]; intro k9 e9; cases e9; exact ⟨hk, by omega⟩
    · exact (hst v (List.mem_cons_of_mem _ h9)).mono (by omega)) (fun v hv => (hlv v hv).mono (by omega)) (by omega) p l e R s m args below meth c D cy ad0 (va_up ad k q) A H1 locs (cells + 1) (slots + N) mc ms ls C1 ⟨g3, g4, g5, X.2.2.2.1, hS1⟩ (fun j hj => (g1 j (hj.mono hn0)).trans (hag j hj)) (gLs_same g1 hlv L)
  have e1 : (Sum.inr k :: st : List gAV).map (gv (va_up ad k q)) = .ref q :: st.map (gv ad) := by
    show Value.ref (va_up ad k q k) :: st.map (gv (va_up ad k q)) = _
    rw [va_up_self, map_same g1 (fun v hv => hst v (List.mem_cons_of_mem _ hv))]
  rw [e1] at K
  exact K
theorem k_newq4 {k N bc' bs' index : Nat} {v : Int32} (d : decode M.cc pc = .ok (.anewarray index, 3)) (hcl : Cond.classLink M.y.cls index RX4 ∈ M.ws) (hk : k ∈ I.1) (hp : I.2 k = n) (hN : v = nI N) (hN2 : N ≤ 20000) (hbc : bc' + 1 ≤ bc) (hbs : bs' + N ≤ bs) (k' : kEx I M bc' bs' (pc + 3) lv (.inr k :: st) (n + 1) (va_up κ k (.inl (4, N, .inr (fun _ => none)))) n0 Q) : kEx I M bc bs pc lv (.inl v :: st) n κ n0 Q := by
  intro hwf hst hlv hn0 p l e R s m args below meth c D cy ad0 ad A H locs cells slots mc ms ls C X hag L
  subst hN
  have hb1 := C.2.2.1
  have hb2 := C.2.2.2.2.2.1
  refine va_newq (D := D) (C := RX4) (ws := kws I cy ad n κ) (tys := gtys cy) C.1.1 C.1.2.1 C.1.2.2.2.1 (C.1.2.2.2.2 _ hcl) C.2.2.2.2.2.2.2.2.2.1 C.2.2.2.2.1 (kws_P X.1) (kws_D C.2.1 X.2.1 X.2.2.1) X.2.2.2.2 X.2.2.2.1 (nI_pos (by omega)) (nI_clamp (by omega)) (by omega) (by omega) (by omega) d (fun q cA H1 hK1 hP1 hD1 hS1 => ?_)
  have hcA : cA = cy 4 := by
    obtain ⟨_, _, _, _, _, r1⟩ := (hK1.2 6 (cA, .object RX4) rfl).2
    obtain ⟨_, _, _, _, _, r2⟩ := (C.2.2.2.2.1.2 4 (cy 4, .object RX4) rfl).2
    exact Option.some.inj (Eq.trans (Eq.symm r1) r2)
  subst hcA
  obtain ⟨g1, g2, g3, g4, g5⟩ := k_grow C.2.1 hwf X.2.1 (x := .inl (4, N, .inr (fun _ => none))) hk hp (fun j t e9 => by cases e9) hP1 hD1
  have C1 : kCx I M bc' bs' p R s m args meth c D cy (cells + 1) (slots + N) mc ms := ⟨C.1, C.2.1, C.2.2.1, C.2.2.2.1, C.2.2.2.2.1, ⟨by have := C.2.2.2.2.2.1.1; omega, by have := C.2.2.2.2.2.1.2; omega⟩, C.2.2.2.2.2.2⟩
  have K := k' g2 (fun v hv => by
    rcases List.mem_cons.mp hv with h9 | h9
    · rw [h9]; intro k9 e9; cases e9; exact ⟨hk, by omega⟩
    · exact (hst v (List.mem_cons_of_mem _ h9)).mono (by omega)) (fun v hv => (hlv v hv).mono (by omega)) (by omega) p l e R s m args below meth c D cy ad0 (va_up ad k q) A H1 locs (cells + 1) (slots + N) mc ms ls C1 ⟨g3, g4, g5, X.2.2.2.1, hS1⟩ (fun j hj => (g1 j (hj.mono hn0)).trans (hag j hj)) (gLs_same g1 hlv L)
  have e1 : (Sum.inr k :: st : List gAV).map (gv (va_up ad k q)) = .ref q :: st.map (gv ad) := by
    show Value.ref (va_up ad k q k) :: st.map (gv (va_up ad k q)) = _
    rw [va_up_self, map_same g1 (fun v hv => hst v (List.mem_cons_of_mem _ hv))]
  rw [e1] at K
  exact K
theorem k_new {k ci index bc' bs' N : Nat} {Cn : String} {T : u_T} {ty0 : Nat → FieldType} {fs : List (Option gAV)} (d : decode M.cc pc = .ok (.new index, 3)) (hc : vwCl[ci]? = some (Cn, T, N)) (hin : ∀ w ∈ u_ws Cn T N, w ∈ M.ws) (hty : ∀ k, k < N → parseFieldDescriptor (T k).2.2.1 = some (ty0 k)) (hcl : Cond.classLink M.y.cls index Cn ∈ M.ws) (hinst : Cond.instantiable Cn N ∈ M.ws) (hini : Cond.initialized Cn ∈ M.ws) (hk : k ∈ I.1) (hp : I.2 k = n) (hfs : ∀ ad j, j < N → defaultValue (ty0 j) = vp_V (fs.map (kfv ad)) j) (hnr : ∀ x, some x ∈ fs → ∃ i, x = .inl i) (hbc : bc' + 1 ≤ bc) (hbs : bs' + N ≤ bs) (k' : kEx I M bc' bs' (pc + 3) lv (.inr k :: st) (n + 1) (va_up κ k (.inr (ci, fs))) n0 Q) : kEx I M bc bs pc lv st n κ n0 Q := by
  intro hwf hst hlv hn0 p l e R s m args below meth c D cy ad0 ad A H locs cells slots mc ms ls C X hag L
  have hb1 := C.2.2.1
  have hb2 := C.2.2.2.2.2.1
  refine va_new (D := D) (ws := kws I cy ad n κ) (tys := gtys cy) (fs := fs.map (kfv ad)) C.1.1 C.1.2.1 C.1.2.2.2.2 hin ty0 hty C.1.2.2.2.1 (C.1.2.2.2.2 _ hcl) (C.1.2.2.2.2 _ hinst) (C.1.2.2.2.2 _ hini) C.2.2.2.2.1 (kws_P X.1) (kws_D C.2.1 X.2.1 X.2.2.1) X.2.2.2.2 X.2.2.2.1 hc (hfs ad) (by omega) (by omega) d (fun q H1 hP1 hD1 hS1 => ?_)
  obtain ⟨g1, g2, g3, g4, g5⟩ := k_grow C.2.1 hwf X.2.1 (x := .inr (ci, fs)) hk hp (fun x hx => by obtain ⟨i, e9⟩ := hnr x hx; rw [e9]; exact ok_i _) hP1 hD1
  have C1 : kCx I M bc' bs' p R s m args meth c D cy (cells + 1) (slots + N) mc ms := ⟨C.1, C.2.1, C.2.2.1, C.2.2.2.1, C.2.2.2.2.1, ⟨by have := C.2.2.2.2.2.1.1; omega, by have := C.2.2.2.2.2.1.2; omega⟩, C.2.2.2.2.2.2⟩
  have K := k' g2 (fun v hv => by
    rcases List.mem_cons.mp hv with h9 | h9
    · rw [h9]; intro k9 e9; cases e9; exact ⟨hk, by omega⟩
    · exact (hst v (id h9)).mono (by omega)) (fun v hv => (hlv v hv).mono (by omega)) (by omega) p l e R s m args below meth c D cy ad0 (va_up ad k q) A H1 locs (cells + 1) (slots + N) mc ms ls C1 ⟨g3, g4, g5, X.2.2.2.1, hS1⟩ (fun j hj => (g1 j (hj.mono hn0)).trans (hag j hj)) (gLs_same g1 hlv L)
  have e1 : (Sum.inr k :: st : List gAV).map (gv (va_up ad k q)) = .ref q :: st.map (gv ad) := by
    show Value.ref (va_up ad k q k) :: st.map (gv (va_up ad k q)) = _
    rw [va_up_self, map_same g1 (fun v hv => hst v (id hv))]
  rw [e1] at K
  exact K
theorem k_objInit {idx o : Nat} (d : decode M.cc pc = .ok (.invokespecial idx, 3)) (hl : Cond.methodLink M.y.cls idx Lib.objectInit ∈ M.ws) (hi : Cond.instanceMethod Lib.objectInit ∈ M.ws) (hc : Cond.code Lib.objectInit ⟨#[0xb1]⟩ 1 none ∈ M.ws) (hR : 1 ≤ M.fr ∧ st.length + 12 ≤ M.lo) (k : kEx I M bc bs (pc + 3) lv st n κ n0 Q) : kEx I M bc bs pc lv (.inr o :: st) n κ n0 Q := by
  intro hwf hst hlv hn0 p l e R s m args below meth c D cy ad0 ad A H locs cells slots mc ms ls C X hag L
  have hr9 := C.2.2.1
  exact W.objInit C.1.1 C.1.2.1 C.1.2.2.2.1 (C.1.2.2.2.2 _ hl) (C.1.2.2.2.2 _ hi) (C.1.2.2.2.2 _ hc) rfl (L.1.trans C.1.2.2.1.symm) rfl d (by omega) (by show 2 * 0 + _ + 12 ≤ _; rw [gv_sum]; omega) (k hwf (fun v hv => hst v (List.mem_cons_of_mem _ hv)) hlv hn0 p l e R s m args below meth c D cy ad0 ad A H locs cells slots mc ms ls C X hag L)
theorem k_vret (d : decode M.cc pc = .ok (.return_, 1)) (hr : M.ret = none) (hq : Q n κ) : kEx I M bc bs pc lv [] n κ n0 Q := by
  intro hwf hst hlv hn0 p l e R s m args below meth c D cy ad0 ad A H locs cells slots mc ms ls C X hag L
  have hlocks : meth.locks = false := C.2.2.2.1.2.1
  refine vx_ret (W.widen (k := mc) (n := ms) (by have := C.2.2.2.2.2.1.1; omega) (by have := C.2.2.2.2.2.1.2; omega) ?_)
  exact W.vret C.1.1 C.1.2.1 (C.2.2.2.1.2.2.trans hr) (fun t ht hW => ⟨⟨ad, n, κ, rfl, hag, hn0, hwf, hq, by rw [ht]; exact X.1, X.2.1, X.2.2.1⟩, X.2.2.2.2.F ht⟩) X.2.2.2.2.2.2 d
end KR
/-! calls of constructors -/
theorem kPc_blind {I : kI} {D : va_G} {cy : Nat → ClassId} {ad : Nat → Nat} {A : Nat → Prop} {n : Nat} {as : List gAV} {κ : kW} : FrameBlind (kPc I D cy ad A n as κ) := by
  intro a U g mk h
  obtain ⟨h1, h2, h3, h4, h5, h6, h7⟩ := h
  exact ⟨h1, h2, h3, h4, h5, va_K.moved (u := U) (U := U.calling g mk a) (Vm.Alike.refl U.vm) h6, h7.calling⟩
theorem kEM_met {I : kI} {M : gM} {bc bs : Nat} {as : List gAV} {n : Nat} {κ : kW} {Q : Nat → kW → Prop} (h : kEM I M bc bs as n κ Q) {l : Launch} {D : va_G} {cy : Nat → ClassId} {ad : Nat → Nat} {A : Nat → Prop} :
    Met l M.y M.ws { frames := M.fr, cells := bc, slots := bs, locals := M.lo } (kPc I D cy ad A n as κ) (kQc I D cy ad A n Q) bc bs A := by
  intro p e ha hc hk s m args below hf happ hP hK
  obtain ⟨n, o, h1, h2, h3, h4⟩ := h l D cy ad A p e ha hc hk s m args below hf happ hP hK
  refine ⟨n, o, h1, h2, h3, ?_⟩
  rcases h4 with h4 | ⟨q, e1, E, ce, L, f2, f5⟩
  · exact h4
  · exact absurd f2 (fun h => h)
section KC
variable {I : kI} {M M' : gM} {bc bs bc' bs' b1 b2 pc : Nat} {lv : List (Option gAV)} {n n0 : Nat} {κ : kW} {Q Q' : Nat → kW → Prop}
theorem k_after {p : Program} {l : Launch} {e : Env} {R : Room} {s : State} {m : MethodId} {args : Array Value} {below : List Frame} {meth : Method} {c : Code} {D : va_G} {cy : Nat → ClassId} {ad0 ad : Nat → Nat} {A : Nat → Prop} {H : Heap} {locs : List Loc} {cells slots mc ms : Nat} {ls : Array Slot} {st0 : List Value} {st : List gAV} {a : Array Value}
    (hst : ∀ v ∈ st, kvOk I n v) (hlv : ∀ v, some v ∈ lv → kvOk I n v) (hn0 : n0 ≤ n)
    (C : kCx I M bc bs p R s m args meth c D cy cells slots mc ms) (X : kHx I s D cy ad A n κ H locs) (hag : ∀ k, kM I n0 k → ad k = ad0 k) (L : gLs ad M.nL lv ls) (hb1 : b1 + bc' ≤ bc) (hb2 : b2 + bs' ≤ bs)
    (hr : va_Run p l e R s m args below meth c H locs cells slots bc' bs' (F0 m pc ls st0) (st.map (gv ad)) (kQc I D cy ad A n Q' a) A)
    (kr : ∀ (n' : Nat) (κ' : kW), Q' n' κ' → kEx I M b1 b2 (pc + 3) lv st n' κ' n0 Q) :
    W p l e R s m args below meth c H locs cells slots (vx_MQ below (kQc I D cy ad0 A n0 Q) kNo args s mc ms A) (F0 m pc ls st0) := by
  intro T hT Xs
  obtain ⟨v, st₀, t, T', L', h0, X', hL, e1, e2, ⟨⟨ad', n', κ', ev, hag', hle, hwf', hQ, hP, hIn, hA'⟩, hF⟩, step⟩ := hr T hT Xs
  cases ev
  obtain ⟨k1, k2, k3⟩ := vx_keep h0 e1 X.2.2.2.2 (fun q _ h => h) (fun q h => h) hL hF
  have C1 : kCx I M b1 b2 p R s m args meth c D cy (cells + bc') (slots + bs') mc ms := ⟨C.1, C.2.1, C.2.2.1, C.2.2.2.1, C.2.2.2.2.1, ⟨by have := C.2.2.2.2.2.1.1; omega, by have := C.2.2.2.2.2.1.2; omega⟩, C.2.2.2.2.2.2⟩
  obtain ⟨t2, a1, b1⟩ := kr n' κ' hQ hwf' (fun v hv => (hst v hv).mono hle) (fun v hv => (hlv v hv).mono hle) (Nat.le_trans hn0 hle) p l e R s m args below meth c D cy ad0 ad' A T'.heap (locs ++ L') (cells + bc') (slots + bs') mc ms ls C1 ⟨by rw [e1]; exact hP, hIn, hA', X.2.2.2.1, k3⟩ (fun j hj => (hag' j (hj.mono hn0)).trans (hag j hj)) (gLs_same hag' hlv L) T' rfl X'
  refine ⟨t2, step t2 ?_, b1⟩
  show Steps p.tables e below (T'.setTop (F0 m (pc + 3) ls (([] : List Value) ++ st.map (gv ad)))) t2
  rw [map_same hag' hst] at a1
  exact a1
/-- a constructor is called -/
theorem k_callI {n9 o index : Nat} {ws' : List Cond} (as st : List gAV) {stk : List gAV} (h : kEM I M' bc' bs' (.inr o :: as) n κ Q') (d : decode M.cc pc = .ok (.invokespecial index, 3)) (hg : GoodIn M.ws M'.ws) (hw : M'.ws = Cond.code M'.y M'.cc M'.nL none :: ws') (hini : Cond.initialized M'.y.cls ∈ M.ws) (hln : Cond.methodLink M.y.cls index M'.y ∈ M.ws) (him : Cond.instanceMethod M'.y ∈ M.ws) (hyn : M'.y.name = "<init>")
    (hd : M'.y.cls ≠ "java/lang/invoke/MethodHandle" ∧ M'.y.cls ≠ "java/lang/invoke/VarHandle" ∧ (parseMethodDescriptor M'.y.desc).map (fun d => d.parameters.length) = some n9) (hn9 : as.length = n9) (hR : M'.fr + 1 ≤ M.fr ∧ 8 + (M'.nL + 11) + M'.lo ≤ M.lo)
    (hst' : stk = as.reverse ++ .inr o :: st) (hl : st.length ≤ 8) (hb1 : b1 + bc' ≤ bc) (hb2 : b2 + bs' ≤ bs)
    (kr : ∀ (n' : Nat) (κ' : kW), Q' n' κ' → kEx I M b1 b2 (pc + 3) lv st n' κ' n0 Q) : kEx I M bc bs pc lv stk n κ n0 Q := by
  subst hn9
  intro hwf hst hlv hn0 p l e R s m args below meth c D cy ad0 ad A H locs cells slots mc ms ls C X hag L
  have hc9 := C.2.2.2.2.2.1
  have hr9 := C.2.2.1
  refine k_after (bc' := bc') (bs' := bs') (Q' := Q') (st := st) (a := ((.inr o :: as).map (gv ad)).toArray) (fun v hv => hst v (by rw [hst']; exact List.mem_append_right _ (List.mem_cons_of_mem _ hv))) hlv hn0 C X hag L hb1 hb2 ?_ kr
  exact va_runI (As := as.map (gv ad)) (rest := st.map (gv ad)) (b := ad o) C.1 (kEM_met h) (cwI as.length C.1.2.2.2.2 hg hw rfl rfl (C.1.2.2.2.2 _ hini) (C.1.2.2.2.2 _ hln) (C.1.2.2.2.2 _ him) hyn hd ⟨by show M'.fr + 1 ≤ R.frames; omega, by show 8 + (M'.nL + 11) + M'.lo ≤ R.locals; omega⟩)
    ⟨kPc_blind, fun U hU hW => ⟨rfl, fun q hq => X.2.2.2.1 q (Nat.le_trans X.2.2.2.2.1 (by rw [← hU]; exact hq)), by rw [hU]; exact X.1, X.2.1, X.2.2.1, va_K.moved hW.alike C.2.2.2.2.1, C.2.2.2.2.2.2.warm hW⟩⟩ rfl (by rw [List.length_map]) (L.1) (by show stk.map (gv ad) = _; rw [hst', List.map_append, List.map_reverse]; rfl) (lv_room (by rw [gv_sum]; exact hl)) d ⟨by omega, by omega⟩
/-- a nest mate's private constructor -/
theorem k_callIN {n9 o index : Nat} {host : String} {ws' : List Cond} (as st : List gAV) {stk : List gAV} (h : kEM I M' bc' bs' (.inr o :: as) n κ Q') (d : decode M.cc pc = .ok (.invokespecial index, 3)) (hg : GoodIn M.ws M'.ws) (hw : M'.ws = Cond.code M'.y M'.cc M'.nL none :: ws') (hyn : M'.y.name = "<init>") (hn : Cond.methodLinkNest M.y.cls index M'.y host ∈ gNest) (hini : Cond.initialized M'.y.cls ∈ M.ws) (him : Cond.instanceMethod M'.y ∈ M.ws)
    (hd : M'.y.cls ≠ "java/lang/invoke/MethodHandle" ∧ M'.y.cls ≠ "java/lang/invoke/VarHandle" ∧ (parseMethodDescriptor M'.y.desc).map (fun d => d.parameters.length) = some n9) (hn9 : as.length = n9) (hR : M'.fr + 1 ≤ M.fr ∧ 8 + (M'.nL + 11) + M'.lo ≤ M.lo)
    (hst' : stk = as.reverse ++ .inr o :: st) (hl : st.length ≤ 8) (hb1 : b1 + bc' ≤ bc) (hb2 : b2 + bs' ≤ bs)
    (kr : ∀ (n' : Nat) (κ' : kW), Q' n' κ' → kEx I M b1 b2 (pc + 3) lv st n' κ' n0 Q) : kEx I M bc bs pc lv stk n κ n0 Q := by
  subst hn9
  intro hwf hst hlv hn0 p l e R s m args below meth c D cy ad0 ad A H locs cells slots mc ms ls C X hag L
  have hc9 := C.2.2.2.2.2.1
  have hr9 := C.2.2.1
  refine k_after (bc' := bc') (bs' := bs') (Q' := Q') (st := st) (a := ((.inr o :: as).map (gv ad)).toArray) (fun v hv => hst v (by rw [hst']; exact List.mem_append_right _ (List.mem_cons_of_mem _ hv))) hlv hn0 C X hag L hb1 hb2 ?_ kr
  exact va_runIN (As := as.map (gv ad)) (rest := st.map (gv ad)) (b := ad o) C.1 (kEM_met h) ⟨va_cnB as.length C.1.2.2.2.2 hg hw rfl rfl (C.2.2.2.2.2.2.1 _ hn) (C.1.2.2.2.2 _ hini) hd ⟨by show M'.fr + 1 ≤ R.frames; omega, by show 8 + (M'.nL + 11) + M'.lo ≤ R.locals; omega⟩, hyn, C.1.2.2.2.2 _ him⟩
    ⟨kPc_blind, fun U hU hW => ⟨rfl, fun q hq => X.2.2.2.1 q (Nat.le_trans X.2.2.2.2.1 (by rw [← hU]; exact hq)), by rw [hU]; exact X.1, X.2.1, X.2.2.1, va_K.moved hW.alike C.2.2.2.2.1, C.2.2.2.2.2.2.warm hW⟩⟩ rfl (by rw [List.length_map]) (L.1) (by show stk.map (gv ad) = _; rw [hst', List.map_append, List.map_reverse]; rfl) (lv_room (by rw [gv_sum]; exact hl)) d ⟨by omega, by omega⟩
end KC

