/-! THE LAW'S BODY: the rules -/
theorem gU_SW {x : Cond} {own : String} {idx nL : Nat} {y : MethodName} {cc : ByteArray} {ret : Option FieldType} {hh : List (Nat × Nat × Nat × Nat)} (h1 : Cond.methodLink own idx y ∈ wsU) (h2 : Cond.static y ∈ wsU) (h3 : Cond.initialized y.cls ∈ wsU) (h5 : Cond.codeWith y cc nL ret hh ∈ wsU) : GoodIn (x :: wsU) (va_wsS own idx y (Cond.codeWith y cc nL ret hh :: wsU)) := by
  intro w hw
  rcases List.mem_append.mp hw with h | h
  · simp only [List.mem_cons, List.not_mem_nil, or_false] at h
    rcases h with rfl | rfl | rfl
    · exact wsU_g h1
    · exact wsU_g h2
    · exact wsU_g h3
  · rcases List.mem_cons.mp h with rfl | h
    · exact wsU_g h5
    · exact wsU_g h
def lawWs : List Cond := Cond.initialized RL :: wsU
theorem lPc_blind {R A : Nat} {D : va_G} {cy : Nat → ClassId} {cl : ClassId} {ad1 ad2 : Nat → Nat} {o sz : Nat} {as : List Value} {σ1 σ2 : gSt} {f : Int64} : FrameBlind (lPc R A D cy cl ad1 ad2 o sz as σ1 σ2 f) := by
  intro a U g mk h
  obtain ⟨h1, h2, h3, h4, h5⟩ := h
  exact ⟨h1, h2, h3, va_K.moved (u := U) (U := U.calling g mk a) (Vm.Alike.refl U.vm) h4, h5.calling⟩
def qCx (p : Program) (l : Launch) (s : State) (m : MethodId) (args : Array Value) (meth : Method) (c : Code) (D : va_G) (cy : Nat → ClassId) (cl : ClassId) (ad1 ad2 : Nat → Nat) (o R A b L : Nat) (xs : Nat → Int32) : Prop :=
  (p.tables.exec = Jvm.exec ∧ c.code = code ∧ c.maxLocals = 7 ∧ s.vm.findClass RL = some m.cls ∧ (∀ w ∈ lawWs, w.before args s = true)) ∧ l.stackTraces = false ∧ lWf R A ad1 ad2 o ∧ lK D cy cl s ∧
  ((∀ k, k ∈ (cG R A).1 → s.heap.size ≤ ad1 k) ∧ (∀ k, k ∈ mG.1 → s.heap.size ≤ ad2 k) ∧ s.heap.size ≤ o) ∧ (va_X b L xs s s.heap ∧ b < s.heap.size) ∧ (meth.sig.returnType = ret ∧ meth.locks = false ∧ args = #[Value.ref b])
def qHx (s : State) (D : va_G) (cy : Nat → ClassId) (cl : ClassId) (ad1 ad2 : Nat → Nat) (o R A : Nat) (σ1 σ2 : gSt) (f : Int64) (H : Heap) (locs : List Loc) : Prop :=
  lH R A D cy cl ad1 ad2 o σ1 σ2 f H ∧ va_S (fun q => s.heap.size ≤ q) s.heap H locs ∧ lEnv (fun q => s.heap.size ≤ q) s H
def qEx (p : Program) (l : Launch) (e : Env) (s : State) (m : MethodId) (args : Array Value) (below : List Frame) (meth : Method) (c : Code) (D : va_G) (cy : Nat → ClassId) (cl : ClassId) (ad1 ad2 : Nat → Nat) (o R A : Nat) (bc pc : Nat) (lv : List (Nat × Value)) (st : List Value) (σ1 σ2 : gSt) (f : Int64) : Prop :=
  ∀ (H : Heap) (locs : List Loc) (cells slots : Nat) (ls : Array Slot), cells + bc ≤ 601024 → slots + 6 * bc ≤ 7293000 → qHx s D cy cl ad1 ad2 o R A σ1 σ2 f H locs → lv_has ls 7 lv →
    W p l e room_1 s m args below meth c H locs cells slots (lw_Z below args s) (F0 m pc ls st)
section QR
variable {p : Program} {l : Launch} {e : Env} {s : State} {m : MethodId} {args : Array Value} {below : List Frame} {meth : Method} {c : Code} {D : va_G} {cy : Nat → ClassId} {cl : ClassId} {ad1 ad2 : Nat → Nat} {o R A b L : Nat} {xs : Nat → Int32}
variable {bc pc : Nat} {lv : List (Nat × Value)} {st : List Value} {σ1 σ2 : gSt} {f : Int64}
theorem q_lA (C : qCx p l s m args meth c D cy cl ad1 ad2 o R A b L xs) {sz q : Nat} (hs : s.heap.size ≤ sz) (h : lA R A ad1 ad2 o sz q) : s.heap.size ≤ q := by
  obtain ⟨h1, h2, h3⟩ := C.2.2.2.2.1
  rcases h with ⟨k, hk, rfl⟩ | ⟨k, hk, rfl⟩ | h | h
  · exact h1 k hk
  · exact h2 k hk
  · rw [h]; exact h3
  · exact Nat.le_trans hs h
theorem q_top {x v : Value} (h : x = v) (k : qEx p l e s m args below meth c D cy cl ad1 ad2 o R A bc pc lv (v :: st) σ1 σ2 f) : qEx p l e s m args below meth c D cy cl ad1 ad2 o R A bc pc lv (x :: st) σ1 σ2 f := by subst h; exact k
theorem q_lv {lv' : List (Nat × Value)} (h : ∀ q ∈ lv', q ∈ lv) (k : qEx p l e s m args below meth c D cy cl ad1 ad2 o R A bc pc lv' st σ1 σ2 f) : qEx p l e s m args below meth c D cy cl ad1 ad2 o R A bc pc lv st σ1 σ2 f := fun H locs cells slots ls h1 h2 X Lv => k H locs cells slots ls h1 h2 X ⟨Lv.1, Lv.2.1, fun q hq => Lv.2.2 q (h q hq)⟩
theorem q_bud {bc' : Nat} (h : bc' ≤ bc) (k : qEx p l e s m args below meth c D cy cl ad1 ad2 o R A bc' pc lv st σ1 σ2 f) : qEx p l e s m args below meth c D cy cl ad1 ad2 o R A bc pc lv st σ1 σ2 f := fun H locs cells slots ls h1 h2 X Lv => k H locs cells slots ls (by omega) (by omega) X Lv
theorem q_iconst (C : qCx p l s m args meth c D cy cl ad1 ad2 o R A b L xs) {n' : Int} (v : Int32) (d : decode code pc = .ok (.iconst n', 1)) (hv : Int32.ofInt n' = v) (k : qEx p l e s m args below meth c D cy cl ad1 ad2 o R A bc (pc + 1) lv (.int v :: st) σ1 σ2 f) : qEx p l e s m args below meth c D cy cl ad1 ad2 o R A bc pc lv st σ1 σ2 f := by
  intro H locs cells slots ls hb1 hb2 X Lv
  exact lv_iconst C.1.1 C.1.2.1 d hv (k H locs cells slots ls hb1 hb2 X Lv)
theorem q_bipush (C : qCx p l s m args meth c D cy cl ad1 ad2 o R A b L xs) {n' : Int} (v : Int32) (d : decode code pc = .ok (.bipush n', 2)) (hv : (Int8.ofInt n').toInt32 = v) (k : qEx p l e s m args below meth c D cy cl ad1 ad2 o R A bc (pc + 2) lv (.int v :: st) σ1 σ2 f) : qEx p l e s m args below meth c D cy cl ad1 ad2 o R A bc pc lv st σ1 σ2 f := by
  intro H locs cells slots ls hb1 hb2 X Lv
  exact lv_bipush C.1.1 C.1.2.1 d hv (k H locs cells slots ls hb1 hb2 X Lv)
theorem q_iload_n (C : qCx p l s m args meth c D cy cl ad1 ad2 o R A b L xs) {i : Fin 4} {x : Int32} (d : decode code pc = .ok (.iload_n i, 1)) (h : ((i : Nat), Value.int x) ∈ lv) (k : qEx p l e s m args below meth c D cy cl ad1 ad2 o R A bc (pc + 1) lv (.int x :: st) σ1 σ2 f) : qEx p l e s m args below meth c D cy cl ad1 ad2 o R A bc pc lv st σ1 σ2 f := by
  intro H locs cells slots ls hb1 hb2 X Lv
  exact lv_iload_n C.1.1 C.1.2.1 d rfl (Lv.2.2 _ h) (k H locs cells slots ls hb1 hb2 X Lv)
theorem q_iload (C : qCx p l s m args meth c D cy cl ad1 ad2 o R A b L xs) {i : Nat} {x : Int32} (d : decode code pc = .ok (.iload i, 2)) (h : (i, Value.int x) ∈ lv) (k : qEx p l e s m args below meth c D cy cl ad1 ad2 o R A bc (pc + 2) lv (.int x :: st) σ1 σ2 f) : qEx p l e s m args below meth c D cy cl ad1 ad2 o R A bc pc lv st σ1 σ2 f := by
  intro H locs cells slots ls hb1 hb2 X Lv
  exact lv_iload C.1.1 C.1.2.1 d (Lv.2.2 _ h) (k H locs cells slots ls hb1 hb2 X Lv)
theorem q_aload_n (C : qCx p l s m args meth c D cy cl ad1 ad2 o R A b L xs) {i : Fin 4} {x : Nat} (d : decode code pc = .ok (.aload_n i, 1)) (h : ((i : Nat), Value.ref x) ∈ lv) (k : qEx p l e s m args below meth c D cy cl ad1 ad2 o R A bc (pc + 1) lv (.ref x :: st) σ1 σ2 f) : qEx p l e s m args below meth c D cy cl ad1 ad2 o R A bc pc lv st σ1 σ2 f := by
  intro H locs cells slots ls hb1 hb2 X Lv
  exact lv_aload_n C.1.1 C.1.2.1 d rfl (Lv.2.2 _ h) (k H locs cells slots ls hb1 hb2 X Lv)
theorem q_aload (C : qCx p l s m args meth c D cy cl ad1 ad2 o R A b L xs) {i : Nat} {x : Nat} (d : decode code pc = .ok (.aload i, 2)) (h : (i, Value.ref x) ∈ lv) (k : qEx p l e s m args below meth c D cy cl ad1 ad2 o R A bc (pc + 2) lv (.ref x :: st) σ1 σ2 f) : qEx p l e s m args below meth c D cy cl ad1 ad2 o R A bc pc lv st σ1 σ2 f := by
  intro H locs cells slots ls hb1 hb2 X Lv
  exact lv_aload C.1.1 C.1.2.1 d (Lv.2.2 _ h) (k H locs cells slots ls hb1 hb2 X Lv)
theorem q_istore (C : qCx p l s m args meth c D cy cl ad1 ad2 o R A b L xs) {i : Nat} {x : Int32} (lv' : List (Nat × Value)) (d : decode code pc = .ok (.istore i, 2)) (hn : i < 7) (hl : (i, Value.int x) :: lv.filter (fun q => !(q.1 == i) && !(q.1 + 1 == i && q.2.category == 2)) = lv') (k : qEx p l e s m args below meth c D cy cl ad1 ad2 o R A bc (pc + 2) lv' st σ1 σ2 f) : qEx p l e s m args below meth c D cy cl ad1 ad2 o R A bc pc lv (.int x :: st) σ1 σ2 f := by
  intro H locs cells slots ls hb1 hb2 X Lv
  exact lv_istore C.1.1 C.1.2.1 d Lv hn hl (fun ls1 h1 => k H locs cells slots ls1 hb1 hb2 X h1)
theorem q_iinc (C : qCx p l s m args meth c D cy cl ad1 ad2 o R A b L xs) {i : Nat} {n' : Int} {x : Int32} (v : Int32) (lv' : List (Nat × Value)) (d : decode code pc = .ok (.iinc i n', 3)) (h : (i, Value.int x) ∈ lv) (hv : x + Int32.ofInt n' = v) (hn : i < 7) (hl : (i, Value.int v) :: lv.filter (fun q => !(q.1 == i) && !(q.1 + 1 == i && q.2.category == 2)) = lv') (k : qEx p l e s m args below meth c D cy cl ad1 ad2 o R A bc (pc + 3) lv' st σ1 σ2 f) : qEx p l e s m args below meth c D cy cl ad1 ad2 o R A bc pc lv st σ1 σ2 f := by
  intro H locs cells slots ls hb1 hb2 X Lv
  obtain ⟨j, hj⟩ := List.getElem?_of_mem h
  exact lv_iinc (v := v) C.1.1 C.1.2.1 d Lv hj hv hn hl (fun ls1 h1 => k H locs cells slots ls1 hb1 hb2 X h1)
theorem q_iadd (C : qCx p l s m args meth c D cy cl ad1 ad2 o R A b L xs) {x y : Int32} (d : decode code pc = .ok (.iadd, 1)) (k : qEx p l e s m args below meth c D cy cl ad1 ad2 o R A bc (pc + 1) lv (.int (x + y) :: st) σ1 σ2 f) : qEx p l e s m args below meth c D cy cl ad1 ad2 o R A bc pc lv (.int y :: .int x :: st) σ1 σ2 f := by
  intro H locs cells slots ls hb1 hb2 X Lv
  exact lv_iadd C.1.1 C.1.2.1 d (k H locs cells slots ls hb1 hb2 X Lv)
theorem q_isub (C : qCx p l s m args meth c D cy cl ad1 ad2 o R A b L xs) {x y : Int32} (d : decode code pc = .ok (.isub, 1)) (k : qEx p l e s m args below meth c D cy cl ad1 ad2 o R A bc (pc + 1) lv (.int (x - y) :: st) σ1 σ2 f) : qEx p l e s m args below meth c D cy cl ad1 ad2 o R A bc pc lv (.int y :: .int x :: st) σ1 σ2 f := by
  intro H locs cells slots ls hb1 hb2 X Lv
  exact lv_isub C.1.1 C.1.2.1 d (k H locs cells slots ls hb1 hb2 X Lv)
theorem q_iand (C : qCx p l s m args meth c D cy cl ad1 ad2 o R A b L xs) {x y : Int32} (d : decode code pc = .ok (.iand, 1)) (k : qEx p l e s m args below meth c D cy cl ad1 ad2 o R A bc (pc + 1) lv (.int (x &&& y) :: st) σ1 σ2 f) : qEx p l e s m args below meth c D cy cl ad1 ad2 o R A bc pc lv (.int y :: .int x :: st) σ1 σ2 f := by
  intro H locs cells slots ls hb1 hb2 X Lv
  exact lv_iand C.1.1 C.1.2.1 d (k H locs cells slots ls hb1 hb2 X Lv)
theorem q_goto (C : qCx p l s m args meth c D cy cl ad1 ad2 o R A b L xs) {off : Int} (tgt : Nat) (d : decode code pc = .ok (.goto off, 3)) (ht : (pc : Int) + off = (tgt : Int)) (k : qEx p l e s m args below meth c D cy cl ad1 ad2 o R A bc tgt lv st σ1 σ2 f) : qEx p l e s m args below meth c D cy cl ad1 ad2 o R A bc pc lv st σ1 σ2 f := by
  intro H locs cells slots ls hb1 hb2 X Lv
  exact lv_goto C.1.1 C.1.2.1 d ht (k H locs cells slots ls hb1 hb2 X Lv)
theorem q_lconst (C : qCx p l s m args meth c D cy cl ad1 ad2 o R A b L xs) {n' : Fin 2} (v : Int64) (d : decode code pc = .ok (.lconst n', 1)) (hv : Int64.ofNat (n' : Nat) = v) (k : qEx p l e s m args below meth c D cy cl ad1 ad2 o R A bc (pc + 1) lv (.long v :: st) σ1 σ2 f) : qEx p l e s m args below meth c D cy cl ad1 ad2 o R A bc pc lv st σ1 σ2 f := by
  intro H locs cells slots ls hb1 hb2 X Lv
  exact lv_lconst C.1.1 C.1.2.1 d hv (k H locs cells slots ls hb1 hb2 X Lv)
theorem q_i2l (C : qCx p l s m args meth c D cy cl ad1 ad2 o R A b L xs) {x : Int32} (d : decode code pc = .ok (.i2l, 1)) (k : qEx p l e s m args below meth c D cy cl ad1 ad2 o R A bc (pc + 1) lv (.long x.toInt64 :: st) σ1 σ2 f) : qEx p l e s m args below meth c D cy cl ad1 ad2 o R A bc pc lv (.int x :: st) σ1 σ2 f := by
  intro H locs cells slots ls hb1 hb2 X Lv
  exact lv_i2l C.1.1 C.1.2.1 d rfl (k H locs cells slots ls hb1 hb2 X Lv)
theorem q_lcmp (C : qCx p l s m args meth c D cy cl ad1 ad2 o R A b L xs) {x y : Int64} (d : decode code pc = .ok (.lcmp, 1)) (k : qEx p l e s m args below meth c D cy cl ad1 ad2 o R A bc (pc + 1) lv (.int (lg_cmp x y) :: st) σ1 σ2 f) : qEx p l e s m args below meth c D cy cl ad1 ad2 o R A bc pc lv (.long y :: .long x :: st) σ1 σ2 f := by
  intro H locs cells slots ls hb1 hb2 X Lv
  exact W.lcmp C.1.1 C.1.2.1 d (k H locs cells slots ls hb1 hb2 X Lv)
theorem q_icmp_eq (C : qCx p l s m args meth c D cy cl ad1 ad2 o R A b L xs) {x y : Int32} {off : Int} (tgt : Nat) (d : decode code pc = .ok (.if_icmp .eq off, 3)) (ht : (pc : Int) + off = (tgt : Int)) (kt : x = y → qEx p l e s m args below meth c D cy cl ad1 ad2 o R A bc tgt lv st σ1 σ2 f) (kf : ¬ (x = y) → qEx p l e s m args below meth c D cy cl ad1 ad2 o R A bc (pc + 3) lv st σ1 σ2 f) : qEx p l e s m args below meth c D cy cl ad1 ad2 o R A bc pc lv (.int y :: .int x :: st) σ1 σ2 f := by
  intro H locs cells slots ls hb1 hb2 X Lv
  exact lv_icmp_eq C.1.1 C.1.2.1 d ht (fun h => kt (by first | exact h | simpa using h) H locs cells slots ls hb1 hb2 X Lv) (fun h => kf (by first | exact h | simpa using h) H locs cells slots ls hb1 hb2 X Lv)
theorem q_icmp_gt (C : qCx p l s m args meth c D cy cl ad1 ad2 o R A b L xs) {x y : Int32} {off : Int} (tgt : Nat) (d : decode code pc = .ok (.if_icmp .gt off, 3)) (ht : (pc : Int) + off = (tgt : Int)) (kt : y < x → qEx p l e s m args below meth c D cy cl ad1 ad2 o R A bc tgt lv st σ1 σ2 f) (kf : ¬ (y < x) → qEx p l e s m args below meth c D cy cl ad1 ad2 o R A bc (pc + 3) lv st σ1 σ2 f) : qEx p l e s m args below meth c D cy cl ad1 ad2 o R A bc pc lv (.int y :: .int x :: st) σ1 σ2 f := by
  intro H locs cells slots ls hb1 hb2 X Lv
  exact lv_icmp_gt C.1.1 C.1.2.1 d ht (fun h => kt (by first | exact h | simpa using h) H locs cells slots ls hb1 hb2 X Lv) (fun h => kf (by first | exact h | simpa using h) H locs cells slots ls hb1 hb2 X Lv)
theorem q_if_eq (C : qCx p l s m args meth c D cy cl ad1 ad2 o R A b L xs) {x : Int32} {off : Int} (tgt : Nat) (d : decode code pc = .ok (.ifCond .eq off, 3)) (ht : (pc : Int) + off = (tgt : Int)) (kt : x = 0 → qEx p l e s m args below meth c D cy cl ad1 ad2 o R A bc tgt lv st σ1 σ2 f) (kf : ¬ (x = 0) → qEx p l e s m args below meth c D cy cl ad1 ad2 o R A bc (pc + 3) lv st σ1 σ2 f) : qEx p l e s m args below meth c D cy cl ad1 ad2 o R A bc pc lv (.int x :: st) σ1 σ2 f := by
  intro H locs cells slots ls hb1 hb2 X Lv
  exact lv_if_eq C.1.1 C.1.2.1 d ht (fun h => kt (by first | exact h | simpa using h) H locs cells slots ls hb1 hb2 X Lv) (fun h => kf (by first | exact h | simpa using h) H locs cells slots ls hb1 hb2 X Lv)
theorem q_if_ne (C : qCx p l s m args meth c D cy cl ad1 ad2 o R A b L xs) {x : Int32} {off : Int} (tgt : Nat) (d : decode code pc = .ok (.ifCond .ne off, 3)) (ht : (pc : Int) + off = (tgt : Int)) (kt : ¬ x = 0 → qEx p l e s m args below meth c D cy cl ad1 ad2 o R A bc tgt lv st σ1 σ2 f) (kf : ¬ (¬ x = 0) → qEx p l e s m args below meth c D cy cl ad1 ad2 o R A bc (pc + 3) lv st σ1 σ2 f) : qEx p l e s m args below meth c D cy cl ad1 ad2 o R A bc pc lv (.int x :: st) σ1 σ2 f := by
  intro H locs cells slots ls hb1 hb2 X Lv
  exact lv_if_ne C.1.1 C.1.2.1 d ht (fun h => kt (by first | exact h | simpa using h) H locs cells slots ls hb1 hb2 X Lv) (fun h => kf (by first | exact h | simpa using h) H locs cells slots ls hb1 hb2 X Lv)
theorem q_tableIn (C : qCx p l s m args meth c D cy cl ad1 ad2 o R A b L xs) {dflt lo hi : Int} {offs : Array Int} {len : Nat} {x : Int32} {off : Int} (tgt : Nat) (d : decode code pc = .ok (.tableswitch dflt lo hi offs, len)) (h1 : ¬ x.toInt < lo) (h2 : ¬ hi < x.toInt) (ho : offs[(x.toInt - lo).toNat]? = some off) (ht : (pc : Int) + off = (tgt : Int)) (k : qEx p l e s m args below meth c D cy cl ad1 ad2 o R A bc tgt lv st σ1 σ2 f) : qEx p l e s m args below meth c D cy cl ad1 ad2 o R A bc pc lv (.int x :: st) σ1 σ2 f := by
  intro H locs cells slots ls hb1 hb2 X Lv
  exact lv_tableIn C.1.1 C.1.2.1 d h1 h2 ho ht (k H locs cells slots ls hb1 hb2 X Lv)
theorem q_tableOut (C : qCx p l s m args meth c D cy cl ad1 ad2 o R A b L xs) {dflt lo hi : Int} {offs : Array Int} {len : Nat} {x : Int32} (tgt : Nat) (d : decode code pc = .ok (.tableswitch dflt lo hi offs, len)) (h : x.toInt < lo ∨ hi < x.toInt) (ht : (pc : Int) + dflt = (tgt : Int)) (k : qEx p l e s m args below meth c D cy cl ad1 ad2 o R A bc tgt lv st σ1 σ2 f) : qEx p l e s m args below meth c D cy cl ad1 ad2 o R A bc pc lv (.int x :: st) σ1 σ2 f := by
  intro H locs cells slots ls hb1 hb2 X Lv
  exact lv_tableOut C.1.1 C.1.2.1 d h ht (k H locs cells slots ls hb1 hb2 X Lv)
theorem q_sld (C : qCx p l s m args meth c D cy cl ad1 ad2 o R A b L xs) (hL : L ≤ 2050) {j : Nat} (hj : j < L) (d : decode code pc = .ok (.iaload, 1)) (k : qEx p l e s m args below meth c D cy cl ad1 ad2 o R A bc (pc + 1) lv (.int (xs j) :: st) σ1 σ2 f) : qEx p l e s m args below meth c D cy cl ad1 ad2 o R A bc pc lv (.int (nI j) :: .ref b :: st) σ1 σ2 f := by
  intro H locs cells slots ls hb1 hb2 X Lv
  refine va_sld (A := fun q => s.heap.size ≤ q) C.1.1 C.1.2.1 C.2.2.2.2.2.1.1 C.2.2.2.2.2.1.2 (Nat.not_le.mpr C.2.2.2.2.2.1.2) X.2.1 (vp_inN hj (by omega)) d ?_
  rw [nI_clamp (by omega)]
  exact (k H locs cells slots ls hb1 hb2 X Lv)
theorem q_slen (C : qCx p l s m args meth c D cy cl ad1 ad2 o R A b L xs) (d : decode code pc = .ok (.arraylength, 1)) (k : qEx p l e s m args below meth c D cy cl ad1 ad2 o R A bc (pc + 1) lv (.int (nI L) :: st) σ1 σ2 f) : qEx p l e s m args below meth c D cy cl ad1 ad2 o R A bc pc lv (.ref b :: st) σ1 σ2 f := by
  intro H locs cells slots ls hb1 hb2 X Lv
  exact va_slen (A := fun q => s.heap.size ≤ q) C.1.1 C.1.2.1 C.2.2.2.2.2.1.1 C.2.2.2.2.2.1.2 (Nat.not_le.mpr C.2.2.2.2.2.1.2) X.2.1 d (k H locs cells slots ls hb1 hb2 X Lv)
theorem q_lald (C : qCx p l s m args meth c D cy cl ad1 ad2 o R A b L xs) (d : decode code pc = .ok (.laload, 1)) (k : qEx p l e s m args below meth c D cy cl ad1 ad2 o R A bc (pc + 1) lv (.long f :: st) σ1 σ2 f) : qEx p l e s m args below meth c D cy cl ad1 ad2 o R A bc pc lv (.int (nI 0) :: .ref o :: st) σ1 σ2 f := by
  intro H locs cells slots ls hb1 hb2 X Lv
  have e0 : (nI 0).toNatClampNeg = 0 := nI_clamp (by decide)
  exact W.lald (v := .long f) C.1.1 C.1.2.1 X.1.2.2 ((C.2.2.2.1.2 6 (cl, .long) rfl).1 1 (fun _ => .long f)) (fun q => by cases q) (by show ¬ (nI 0 < 0 ∨ (arrV _ _ _).slots.size ≤ _); rw [arrV_size]; exact vp_inN (n := 1) (by decide) (by decide)) (by rw [e0]; rfl) rfl rfl d (k H locs cells slots ls hb1 hb2 X Lv)
theorem q_end (C : qCx p l s m args meth c D cy cl ad1 ad2 o R A b L xs) (d : decode code pc = .ok (.ireturn, 1)) : qEx p l e s m args below meth c D cy cl ad1 ad2 o R A bc pc lv [.int 1] σ1 σ2 f := by
  intro H locs cells slots ls hb1 hb2 X Lv
  have ea := C.2.2.2.2.2.2.2.2
  subst ea
  exact va_forget (fun q hq => X.2.1.2.2 q hq) (W.widen (by omega) (by omega) (lw_ret C.1.1 C.1.2.1 C.2.2.2.2.2.2.1 C.2.2.2.2.2.2.2.1 d))
/-- a wrapper is called -/
theorem q_callW (C : qCx p l s m args meth c D cy cl ad1 ad2 o R A b L xs) {ML : gM} {hh : List (Nat × Nat × Nat × Nat)} {n9 index : Nat} {ws' : List Cond} {Q' : Int32 → gSt → Int64 → Prop} (as : List (Int32 ⊕ Bool)) (st' : List Value) {stk : List Value} (h : lEM R A ML as σ1 σ2 f Q') (d : decode code pc = .ok (.invokestatic index, 3)) (hg : GoodIn lawWs (va_wsS RL index ML.y ML.ws)) (hw : ML.ws = Cond.codeWith ML.y ML.cc ML.nL ML.ret hh :: ws')
    (hd : ML.y.cls ≠ "java/lang/invoke/MethodHandle" ∧ ML.y.cls ≠ "java/lang/invoke/VarHandle" ∧ (parseMethodDescriptor ML.y.desc).map (fun d => d.parameters.length) = some n9) (hn9 : as.length = n9) (hR : ML.fr + 1 ≤ 12 ∧ 8 + (ML.nL + 11) + ML.lo ≤ 432) (hstk : stk = (as.map (lar ad1 o)).reverse ++ st') (hl : (st'.map fun v => v.category).sum ≤ 8)
    (kr : ∀ (r : Int32) (σ1' : gSt) (f' : Int64), Q' r σ1' f' → qEx p l e s m args below meth c D cy cl ad1 ad2 o R A bc (pc + 3) lv (.int r :: st') σ1' σ2 f') : qEx p l e s m args below meth c D cy cl ad1 ad2 o R A (bc + 1) pc lv stk σ1 σ2 f := by
  subst hn9
  intro H locs cells slots ls hb1 hb2 X Lv
  have hr := vx_runSW (l := l) (e := e) (R := room_1) (below := below) (meth := meth) (H := H) (locs := locs) (cells := cells) (slots := slots) (As := as.map (lar ad1 o)) (rest := st') (g := F0 m pc ls stk) C.1 (h l D cy cl ad1 ad2 o H.size C.2.1 C.2.2.1) (vx_cwSW as.length C.1.2.2.2.2 hg hw rfl rfl hd ⟨hR.1, hR.2⟩)
    ⟨lPc_blind, fun U hU hW => ⟨rfl, by rw [hU], by rw [hU]; exact X.1, va_K.moved hW.alike C.2.2.2.1, by rw [hU]; exact X.2.2.warm hW (fun q hq => q_lA C X.2.1.1 hq)⟩⟩ rfl (by rw [List.length_map]) Lv.1 hstk (lv_room hl) d ⟨by show cells + 1 ≤ 601024; omega, by show slots + 6 ≤ 7293000; omega⟩
  intro T hT Xs
  obtain ⟨v, st₀, t, T', L', h0', X', hL, e1, e2, ⟨⟨r, σ1', f', ev, hQ, hH⟩, hF⟩, step⟩ := hr T hT Xs
  cases ev
  obtain ⟨k1, k2, k3⟩ := vx_keep h0' e1 X.2.1 (fun q _ hq => q_lA C X.2.1.1 hq) (fun q hq => q_lA C X.2.1.1 hq) hL hF
  obtain ⟨t2, a1, b1⟩ := kr r σ1' f' hQ T'.heap (locs ++ L') (cells + 1) (slots + 6) ls (by omega) (by omega) ⟨by rw [e1]; exact hH, k3, X.2.2.step (fun q h => h) X.2.1 k3⟩ Lv T' rfl X'
  exact ⟨t2, step t2 a1, b1⟩
/-- a method of the reference is called -/
theorem q_callM (C : qCx p l s m args meth c D cy cl ad1 ad2 o R A b L xs) {M' : gM} {n9 index : Nat} {ws' : List Cond} {Q' : gOut → gSt → Prop} (as : List Int32) (st' : List Value) {stk : List Value} (h : gEM mG M' 0 (.inr 0 :: as.map .inl) σ2 Q') (hnt : ∀ k σ', ¬ Q' (.inr k) σ') (d : decode code pc = .ok (.invokevirtual index, 3)) (hg : GoodIn lawWs (wsV RL index RX7 M'.y M'.ws)) (hw : M'.ws = Cond.code M'.y M'.cc M'.nL M'.ret :: ws')
    (hd : M'.y.cls = RX7 ∧ M'.y.cls ≠ "java/lang/invoke/MethodHandle" ∧ M'.y.cls ≠ "java/lang/invoke/VarHandle" ∧ (parseMethodDescriptor M'.y.desc).map (fun d => d.parameters.length) = some n9) (hn9 : as.length = n9) (hR : M'.fr + 1 ≤ 12 ∧ 8 + (M'.nL + 11) + M'.lo ≤ 432)
    (hstk : stk = (as.map Value.int).reverse ++ .ref (ad2 0) :: st') (hl : (st'.map fun v => v.category).sum ≤ 8)
    (kr : ∀ (v : Option gAV) (σ' : gSt), Q' (.inl v) σ' → qEx p l e s m args below meth c D cy cl ad1 ad2 o R A bc (pc + 3) lv ((v.map (gv ad2)).toList ++ st') σ1 σ' f) : qEx p l e s m args below meth c D cy cl ad1 ad2 o R A bc pc lv stk σ1 σ2 f := by
  subst hn9
  intro H locs cells slots ls hb1 hb2 X Lv
  have h0 : (0 : Nat) ∈ mG.1 := mIn (by decide)
  obtain ⟨i0, -, hw0⟩ := gws_at (cy := cy) (ad := ad2) (σ := σ2) h0 (x := mSh 0) rfl
  have ea : (as.map (Sum.inl : Int32 → gAV)).map (gv ad2) = as.map Value.int := by
    rw [List.map_map]
    rfl
  have hr := va_runV (l := l) (e := e) (R := room_1) (below := below) (meth := meth) (H := H) (locs := locs) (cells := cells) (slots := slots) (As := as.map Value.int) (rest := st') (b := ad2 0) (g := F0 m pc ls stk) C.1 (gEM_met h hnt (D := D) (cy := cy) (ad := ad2) (sz := H.size) C.2.1 C.2.2.1.2.1) (cwV as.length C.1.2.2.2.2 hg hw rfl rfl hd ⟨hR.1, hR.2⟩)
    ⟨gPc_blind, va_recv C.2.2.2.1.g (gws_P X.1.2.1) rfl hw0, fun U hU hW => ⟨by show _ = (Value.ref (ad2 0) :: (as.map (Sum.inl : Int32 → gAV)).map (gv ad2)).toArray; rw [ea], by rw [hU], by rw [hU]; exact X.1.2.1, va_K.moved hW.alike C.2.2.2.1.g, by rw [hU]; exact X.2.2.1.warm hW (fun q hq => q_lA C X.2.1.1 (lA_m hq (Nat.le_refl _)))⟩⟩ rfl (by rw [List.length_map]) Lv.1 hstk (lv_room hl) d ⟨by show cells + 0 ≤ 601024; omega, by show slots + 0 ≤ 7293000; omega⟩
  intro T hT Xs
  obtain ⟨v, st₀, t, T', L', h0', X', hL, e1, e2, ⟨⟨v', σ', ev, hQ, hP⟩, hF⟩, step⟩ := hr T hT Xs
  cases ev
  obtain ⟨k1, k2, k3⟩ := vx_keep h0' e1 X.2.1 (fun q _ hq => q_lA C X.2.1.1 (lA_m hq (Nat.le_refl _))) (fun q hq => q_lA C X.2.1.1 (lA_m hq (Nat.le_refl _))) hL hF
  obtain ⟨t2, a1, b1⟩ := kr v' σ' hQ T'.heap (locs ++ L') (cells + 0) (slots + 6 * 0) ls (by omega) (by omega) ⟨lH_m C.2.2.1 X.1 (by rw [e1]; exact hP) k2, k3, X.2.2.step (fun q h => h) X.2.1 k3⟩ Lv T' rfl X'
  exact ⟨t2, step t2 a1, b1⟩
/-- a method of the class is called -/
theorem q_callC (C : qCx p l s m args meth c D cy cl ad1 ad2 o R A b L xs) {M' : gM} {n9 index : Nat} {ws' : List Cond} {Q' : gOut → gSt → Prop} (as : List Int32) (st' : List Value) {stk : List Value} (h : gEM (cG R A) M' 0 (.inr 0 :: as.map .inl) σ1 Q') (hnt : ∀ k σ', ¬ Q' (.inr k) σ') (d : decode code pc = .ok (.invokevirtual index, 3)) (hg : GoodIn lawWs (wsV RL index RX6 M'.y M'.ws)) (hw : M'.ws = Cond.code M'.y M'.cc M'.nL M'.ret :: ws')
    (hd : M'.y.cls = RX6 ∧ M'.y.cls ≠ "java/lang/invoke/MethodHandle" ∧ M'.y.cls ≠ "java/lang/invoke/VarHandle" ∧ (parseMethodDescriptor M'.y.desc).map (fun d => d.parameters.length) = some n9) (hn9 : as.length = n9) (hR : M'.fr + 1 ≤ 12 ∧ 8 + (M'.nL + 11) + M'.lo ≤ 432)
    (hstk : stk = (as.map Value.int).reverse ++ .ref (ad1 0) :: st') (hl : (st'.map fun v => v.category).sum ≤ 8)
    (kr : ∀ (v : Option gAV) (σ' : gSt), Q' (.inl v) σ' → qEx p l e s m args below meth c D cy cl ad1 ad2 o R A bc (pc + 3) lv ((v.map (gv ad1)).toList ++ st') σ' σ2 f) : qEx p l e s m args below meth c D cy cl ad1 ad2 o R A bc pc lv stk σ1 σ2 f := by
  subst hn9
  intro H locs cells slots ls hb1 hb2 X Lv
  have h0 : (0 : Nat) ∈ (cG R A).1 := cIn_lo (by decide)
  obtain ⟨i0, -, hw0⟩ := gws_at (cy := cy) (ad := ad1) (σ := σ1) h0 cSh_0
  have ea : (as.map (Sum.inl : Int32 → gAV)).map (gv ad1) = as.map Value.int := by
    rw [List.map_map]
    rfl
  have hr := va_runV (l := l) (e := e) (R := room_1) (below := below) (meth := meth) (H := H) (locs := locs) (cells := cells) (slots := slots) (As := as.map Value.int) (rest := st') (b := ad1 0) (g := F0 m pc ls stk) C.1 (gEM_met h hnt (D := D) (cy := cy) (ad := ad1) (sz := H.size) C.2.1 C.2.2.1.1) (cwV as.length C.1.2.2.2.2 hg hw rfl rfl hd ⟨hR.1, hR.2⟩)
    ⟨gPc_blind, va_recv C.2.2.2.1.g (gws_P X.1.1) rfl hw0, fun U hU hW => ⟨by show _ = (Value.ref (ad1 0) :: (as.map (Sum.inl : Int32 → gAV)).map (gv ad1)).toArray; rw [ea], by rw [hU], by rw [hU]; exact X.1.1, va_K.moved hW.alike C.2.2.2.1.g, by rw [hU]; exact X.2.2.1.warm hW (fun q hq => q_lA C X.2.1.1 (lA_c hq (Nat.le_refl _)))⟩⟩ rfl (by rw [List.length_map]) Lv.1 hstk (lv_room hl) d ⟨by show cells + 0 ≤ 601024; omega, by show slots + 0 ≤ 7293000; omega⟩
  intro T hT Xs
  obtain ⟨v, st₀, t, T', L', h0', X', hL, e1, e2, ⟨⟨v', σ', ev, hQ, hP⟩, hF⟩, step⟩ := hr T hT Xs
  cases ev
  obtain ⟨k1, k2, k3⟩ := vx_keep h0' e1 X.2.1 (fun q _ hq => q_lA C X.2.1.1 (lA_c hq (Nat.le_refl _))) (fun q hq => q_lA C X.2.1.1 (lA_c hq (Nat.le_refl _))) hL hF
  obtain ⟨t2, a1, b1⟩ := kr v' σ' hQ T'.heap (locs ++ L') (cells + 0) (slots + 6 * 0) ls (by omega) (by omega) ⟨lH_c C.2.2.1 X.1 (by rw [e1]; exact hP) k2, k3, X.2.2.step (fun q h => h) X.2.1 k3⟩ Lv T' rfl X'
  exact ⟨t2, step t2 a1, b1⟩
end QR
