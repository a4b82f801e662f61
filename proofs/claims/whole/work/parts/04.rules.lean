section GR
variable {G : gG} {M : gM} {b pc : Nat} {lv : List (Option gAV)} {st : List gAV} {σ : gSt} {Q : gOut → gSt → Prop}
theorem g_iconst {n : Int} (v : Int32) (d : decode M.cc pc = .ok (.iconst n, 1)) (hv : Int32.ofInt n = v) (k : gEx G M b (pc + 1) lv (.inl v :: st) σ Q) : gEx G M b pc lv st σ Q := by
  intro p l e R s m args below meth c D cy ad H locs cells slots mc ms ls C X L
  exact lv_iconst C.1.1 C.1.2.1 d hv (k p l e R s m args below meth c D cy ad H locs cells slots mc ms ls C X L)
theorem g_bipush {n : Int} (v : Int32) (d : decode M.cc pc = .ok (.bipush n, 2)) (hv : (Int8.ofInt n).toInt32 = v) (k : gEx G M b (pc + 2) lv (.inl v :: st) σ Q) : gEx G M b pc lv st σ Q := by
  intro p l e R s m args below meth c D cy ad H locs cells slots mc ms ls C X L
  exact lv_bipush C.1.1 C.1.2.1 d hv (k p l e R s m args below meth c D cy ad H locs cells slots mc ms ls C X L)
theorem g_sipush {n : Int} (v : Int32) (d : decode M.cc pc = .ok (.sipush n, 3)) (hv : (Int16.ofInt n).toInt32 = v) (k : gEx G M b (pc + 3) lv (.inl v :: st) σ Q) : gEx G M b pc lv st σ Q := by
  intro p l e R s m args below meth c D cy ad H locs cells slots mc ms ls C X L
  exact lv_sipush C.1.1 C.1.2.1 d hv (k p l e R s m args below meth c D cy ad H locs cells slots mc ms ls C X L)
theorem g_iload_n {i : Fin 4} {x : Int32} (d : decode M.cc pc = .ok (.iload_n i, 1)) (h : lv[(i : Nat)]? = some (some (.inl x))) (k : gEx G M b (pc + 1) lv (.inl x :: st) σ Q) : gEx G M b pc lv st σ Q := by
  intro p l e R s m args below meth c D cy ad H locs cells slots mc ms ls C X L
  exact lv_iload_n C.1.1 C.1.2.1 d rfl (gLs_at L h) (k p l e R s m args below meth c D cy ad H locs cells slots mc ms ls C X L)
theorem g_iload {i : Nat} {x : Int32} (d : decode M.cc pc = .ok (.iload i, 2)) (h : lv[i]? = some (some (.inl x))) (k : gEx G M b (pc + 2) lv (.inl x :: st) σ Q) : gEx G M b pc lv st σ Q := by
  intro p l e R s m args below meth c D cy ad H locs cells slots mc ms ls C X L
  exact lv_iload C.1.1 C.1.2.1 d (gLs_at L h) (k p l e R s m args below meth c D cy ad H locs cells slots mc ms ls C X L)
theorem g_aload_n {i : Fin 4} {x : Nat} (d : decode M.cc pc = .ok (.aload_n i, 1)) (h : lv[(i : Nat)]? = some (some (.inr x))) (k : gEx G M b (pc + 1) lv (.inr x :: st) σ Q) : gEx G M b pc lv st σ Q := by
  intro p l e R s m args below meth c D cy ad H locs cells slots mc ms ls C X L
  exact lv_aload_n C.1.1 C.1.2.1 d rfl (gLs_at L h) (k p l e R s m args below meth c D cy ad H locs cells slots mc ms ls C X L)
theorem g_aload {i : Nat} {x : Nat} (d : decode M.cc pc = .ok (.aload i, 2)) (h : lv[i]? = some (some (.inr x))) (k : gEx G M b (pc + 2) lv (.inr x :: st) σ Q) : gEx G M b pc lv st σ Q := by
  intro p l e R s m args below meth c D cy ad H locs cells slots mc ms ls C X L
  exact lv_aload C.1.1 C.1.2.1 d (gLs_at L h) (k p l e R s m args below meth c D cy ad H locs cells slots mc ms ls C X L)
theorem g_istore_n {i : Fin 4} {x : Int32} (d : decode M.cc pc = .ok (.istore_n i, 1)) (hn : (i : Nat) < M.nL) (k : gEx G M b (pc + 1) (lv.set i (some (.inl x))) st σ Q) : gEx G M b pc lv (.inl x :: st) σ Q := by
  intro p l e R s m args below meth c D cy ad H locs cells slots mc ms ls C X L
  exact lv_istore_n (lv := gpl ad 0 lv) C.1.1 C.1.2.1 d rfl L hn rfl (fun ls1 h1 => k p l e R s m args below meth c D cy ad H locs cells slots mc ms ls1 C X (gLs_set h1))
theorem g_istore {i : Nat} {x : Int32} (d : decode M.cc pc = .ok (.istore i, 2)) (hn : i < M.nL) (k : gEx G M b (pc + 2) (lv.set i (some (.inl x))) st σ Q) : gEx G M b pc lv (.inl x :: st) σ Q := by
  intro p l e R s m args below meth c D cy ad H locs cells slots mc ms ls C X L
  exact lv_istore (lv := gpl ad 0 lv) C.1.1 C.1.2.1 d L hn rfl (fun ls1 h1 => k p l e R s m args below meth c D cy ad H locs cells slots mc ms ls1 C X (gLs_set h1))
theorem g_astore_n {i : Fin 4} {x : Nat} (d : decode M.cc pc = .ok (.astore_n i, 1)) (hn : (i : Nat) < M.nL) (k : gEx G M b (pc + 1) (lv.set i (some (.inr x))) st σ Q) : gEx G M b pc lv (.inr x :: st) σ Q := by
  intro p l e R s m args below meth c D cy ad H locs cells slots mc ms ls C X L
  exact lv_astore_n (lv := gpl ad 0 lv) C.1.1 C.1.2.1 d rfl L hn rfl (fun ls1 h1 => k p l e R s m args below meth c D cy ad H locs cells slots mc ms ls1 C X (gLs_set h1))
theorem g_astore {i : Nat} {x : Nat} (d : decode M.cc pc = .ok (.astore i, 2)) (hn : i < M.nL) (k : gEx G M b (pc + 2) (lv.set i (some (.inr x))) st σ Q) : gEx G M b pc lv (.inr x :: st) σ Q := by
  intro p l e R s m args below meth c D cy ad H locs cells slots mc ms ls C X L
  exact lv_astore (lv := gpl ad 0 lv) C.1.1 C.1.2.1 d L hn rfl (fun ls1 h1 => k p l e R s m args below meth c D cy ad H locs cells slots mc ms ls1 C X (gLs_set h1))
theorem g_iinc {i : Nat} {n : Int} {x : Int32} (v : Int32) (d : decode M.cc pc = .ok (.iinc i n, 3)) (h : lv[i]? = some (some (.inl x))) (hv : x + Int32.ofInt n = v) (hn : i < M.nL) (k : gEx G M b (pc + 3) (lv.set i (some (.inl v))) st σ Q) : gEx G M b pc lv st σ Q := by
  intro p l e R s m args below meth c D cy ad H locs cells slots mc ms ls C X L
  have h0 := gpl_in ad lv 0 i _ h
  rw [Nat.zero_add] at h0
  obtain ⟨j, hj⟩ := List.getElem?_of_mem h0
  exact lv_iinc (v := v) (lv := gpl ad 0 lv) C.1.1 C.1.2.1 d L hj hv hn rfl (fun ls1 h1 => k p l e R s m args below meth c D cy ad H locs cells slots mc ms ls1 C X (gLs_set (v := .inl v) h1))
theorem g_iadd {x y : Int32} (d : decode M.cc pc = .ok (.iadd, 1)) (k : gEx G M b (pc + 1) lv (.inl (x + y) :: st) σ Q) : gEx G M b pc lv (.inl y :: .inl x :: st) σ Q := by
  intro p l e R s m args below meth c D cy ad H locs cells slots mc ms ls C X L
  exact lv_iadd C.1.1 C.1.2.1 d (k p l e R s m args below meth c D cy ad H locs cells slots mc ms ls C X L)
theorem g_isub {x y : Int32} (d : decode M.cc pc = .ok (.isub, 1)) (k : gEx G M b (pc + 1) lv (.inl (x - y) :: st) σ Q) : gEx G M b pc lv (.inl y :: .inl x :: st) σ Q := by
  intro p l e R s m args below meth c D cy ad H locs cells slots mc ms ls C X L
  exact lv_isub C.1.1 C.1.2.1 d (k p l e R s m args below meth c D cy ad H locs cells slots mc ms ls C X L)
theorem g_imul {x y : Int32} (d : decode M.cc pc = .ok (.imul, 1)) (k : gEx G M b (pc + 1) lv (.inl (x * y) :: st) σ Q) : gEx G M b pc lv (.inl y :: .inl x :: st) σ Q := by
  intro p l e R s m args below meth c D cy ad H locs cells slots mc ms ls C X L
  exact lv_imul C.1.1 C.1.2.1 d (k p l e R s m args below meth c D cy ad H locs cells slots mc ms ls C X L)
theorem g_iand {x y : Int32} (d : decode M.cc pc = .ok (.iand, 1)) (k : gEx G M b (pc + 1) lv (.inl (x &&& y) :: st) σ Q) : gEx G M b pc lv (.inl y :: .inl x :: st) σ Q := by
  intro p l e R s m args below meth c D cy ad H locs cells slots mc ms ls C X L
  exact lv_iand C.1.1 C.1.2.1 d (k p l e R s m args below meth c D cy ad H locs cells slots mc ms ls C X L)
theorem g_ior {x y : Int32} (d : decode M.cc pc = .ok (.ior, 1)) (k : gEx G M b (pc + 1) lv (.inl (x ||| y) :: st) σ Q) : gEx G M b pc lv (.inl y :: .inl x :: st) σ Q := by
  intro p l e R s m args below meth c D cy ad H locs cells slots mc ms ls C X L
  exact lv_ior C.1.1 C.1.2.1 d (k p l e R s m args below meth c D cy ad H locs cells slots mc ms ls C X L)
theorem g_ixor {x y : Int32} (d : decode M.cc pc = .ok (.ixor, 1)) (k : gEx G M b (pc + 1) lv (.inl (x ^^^ y) :: st) σ Q) : gEx G M b pc lv (.inl y :: .inl x :: st) σ Q := by
  intro p l e R s m args below meth c D cy ad H locs cells slots mc ms ls C X L
  exact lv_ixor C.1.1 C.1.2.1 d (k p l e R s m args below meth c D cy ad H locs cells slots mc ms ls C X L)
theorem g_ishl {x y : Int32} (d : decode M.cc pc = .ok (.ishl, 1)) (k : gEx G M b (pc + 1) lv (.inl (x <<< (y &&& 31)) :: st) σ Q) : gEx G M b pc lv (.inl y :: .inl x :: st) σ Q := by
  intro p l e R s m args below meth c D cy ad H locs cells slots mc ms ls C X L
  exact lv_ishl C.1.1 C.1.2.1 d (k p l e R s m args below meth c D cy ad H locs cells slots mc ms ls C X L)
theorem g_ishr {x y : Int32} (d : decode M.cc pc = .ok (.ishr, 1)) (k : gEx G M b (pc + 1) lv (.inl (x >>> (y &&& 31)) :: st) σ Q) : gEx G M b pc lv (.inl y :: .inl x :: st) σ Q := by
  intro p l e R s m args below meth c D cy ad H locs cells slots mc ms ls C X L
  exact lv_ishr C.1.1 C.1.2.1 d (k p l e R s m args below meth c D cy ad H locs cells slots mc ms ls C X L)
theorem g_idiv {x y : Int32} (d : decode M.cc pc = .ok (.idiv, 1)) (hne : ¬ y = 0) (k : gEx G M b (pc + 1) lv (.inl (x / y) :: st) σ Q) : gEx G M b pc lv (.inl y :: .inl x :: st) σ Q := by
  intro p l e R s m args below meth c D cy ad H locs cells slots mc ms ls C X L
  exact lv_idiv C.1.1 C.1.2.1 d hne (k p l e R s m args below meth c D cy ad H locs cells slots mc ms ls C X L)
theorem g_irem {x y : Int32} (d : decode M.cc pc = .ok (.irem, 1)) (hne : ¬ y = 0) (k : gEx G M b (pc + 1) lv (.inl (x - x / y * y) :: st) σ Q) : gEx G M b pc lv (.inl y :: .inl x :: st) σ Q := by
  intro p l e R s m args below meth c D cy ad H locs cells slots mc ms ls C X L
  exact lv_irem C.1.1 C.1.2.1 d hne (k p l e R s m args below meth c D cy ad H locs cells slots mc ms ls C X L)
theorem g_iushr {x y : Int32} (d : decode M.cc pc = .ok (.iushr, 1)) (k : gEx G M b (pc + 1) lv (.inl ((x.toUInt32 >>> (y.toUInt32 &&& Int32.toUInt32 31)).toInt32) :: st) σ Q) : gEx G M b pc lv (.inl y :: .inl x :: st) σ Q := by
  intro p l e R s m args below meth c D cy ad H locs cells slots mc ms ls C X L
  exact lv_iushr C.1.1 C.1.2.1 d rfl (k p l e R s m args below meth c D cy ad H locs cells slots mc ms ls C X L)
theorem g_ineg {x : Int32} (d : decode M.cc pc = .ok (.ineg, 1)) (k : gEx G M b (pc + 1) lv (.inl (-x) :: st) σ Q) : gEx G M b pc lv (.inl x :: st) σ Q := by
  intro p l e R s m args below meth c D cy ad H locs cells slots mc ms ls C X L
  exact lv_ineg C.1.1 C.1.2.1 d (k p l e R s m args below meth c D cy ad H locs cells slots mc ms ls C X L)
theorem g_dup {x : gAV} (d : decode M.cc pc = .ok (.dup, 1)) (k : gEx G M b (pc + 1) lv (x :: x :: st) σ Q) : gEx G M b pc lv (x :: st) σ Q := by
  intro p l e R s m args below meth c D cy ad H locs cells slots mc ms ls C X L
  exact lv_dup C.1.1 C.1.2.1 d (gv_cat ad x) (k p l e R s m args below meth c D cy ad H locs cells slots mc ms ls C X L)
theorem g_pop {x : gAV} (d : decode M.cc pc = .ok (.pop, 1)) (k : gEx G M b (pc + 1) lv st σ Q) : gEx G M b pc lv (x :: st) σ Q := by
  intro p l e R s m args below meth c D cy ad H locs cells slots mc ms ls C X L
  exact lv_pop C.1.1 C.1.2.1 d (gv_cat ad x) (k p l e R s m args below meth c D cy ad H locs cells slots mc ms ls C X L)
theorem g_dup2 {x y : gAV} (d : decode M.cc pc = .ok (.dup2, 1)) (k : gEx G M b (pc + 1) lv (x :: y :: x :: y :: st) σ Q) : gEx G M b pc lv (x :: y :: st) σ Q := by
  intro p l e R s m args below meth c D cy ad H locs cells slots mc ms ls C X L
  exact lv_dup2_11 C.1.1 C.1.2.1 d (gv_cat ad x) (gv_cat ad y) (k p l e R s m args below meth c D cy ad H locs cells slots mc ms ls C X L)
theorem g_goto {off : Int} (tgt : Nat) (d : decode M.cc pc = .ok (.goto off, 3)) (ht : (pc : Int) + off = (tgt : Int)) (k : gEx G M b tgt lv st σ Q) : gEx G M b pc lv st σ Q := by
  intro p l e R s m args below meth c D cy ad H locs cells slots mc ms ls C X L
  exact lv_goto C.1.1 C.1.2.1 d ht (k p l e R s m args below meth c D cy ad H locs cells slots mc ms ls C X L)
theorem g_icmp_eq {x y : Int32} {off : Int} (tgt : Nat) (d : decode M.cc pc = .ok (.if_icmp .eq off, 3)) (ht : (pc : Int) + off = (tgt : Int)) (kt : x = y → gEx G M b tgt lv st σ Q) (kf : ¬ (x = y) → gEx G M b (pc + 3) lv st σ Q) : gEx G M b pc lv (.inl y :: .inl x :: st) σ Q := by
  intro p l e R s m args below meth c D cy ad H locs cells slots mc ms ls C X L
  exact lv_icmp_eq C.1.1 C.1.2.1 d ht (fun h => kt (by first | exact h | simpa using h) p l e R s m args below meth c D cy ad H locs cells slots mc ms ls C X L) (fun h => kf (by first | exact h | simpa using h) p l e R s m args below meth c D cy ad H locs cells slots mc ms ls C X L)
theorem g_if_eq {x : Int32} {off : Int} (tgt : Nat) (d : decode M.cc pc = .ok (.ifCond .eq off, 3)) (ht : (pc : Int) + off = (tgt : Int)) (kt : x = 0 → gEx G M b tgt lv st σ Q) (kf : ¬ (x = 0) → gEx G M b (pc + 3) lv st σ Q) : gEx G M b pc lv (.inl x :: st) σ Q := by
  intro p l e R s m args below meth c D cy ad H locs cells slots mc ms ls C X L
  exact lv_if_eq C.1.1 C.1.2.1 d ht (fun h => kt (by first | exact h | simpa using h) p l e R s m args below meth c D cy ad H locs cells slots mc ms ls C X L) (fun h => kf (by first | exact h | simpa using h) p l e R s m args below meth c D cy ad H locs cells slots mc ms ls C X L)
theorem g_icmp_ne {x y : Int32} {off : Int} (tgt : Nat) (d : decode M.cc pc = .ok (.if_icmp .ne off, 3)) (ht : (pc : Int) + off = (tgt : Int)) (kt : ¬ x = y → gEx G M b tgt lv st σ Q) (kf : ¬ (¬ x = y) → gEx G M b (pc + 3) lv st σ Q) : gEx G M b pc lv (.inl y :: .inl x :: st) σ Q := by
  intro p l e R s m args below meth c D cy ad H locs cells slots mc ms ls C X L
  exact lv_icmp_ne C.1.1 C.1.2.1 d ht (fun h => kt (by first | exact h | simpa using h) p l e R s m args below meth c D cy ad H locs cells slots mc ms ls C X L) (fun h => kf (by first | exact h | simpa using h) p l e R s m args below meth c D cy ad H locs cells slots mc ms ls C X L)
theorem g_if_ne {x : Int32} {off : Int} (tgt : Nat) (d : decode M.cc pc = .ok (.ifCond .ne off, 3)) (ht : (pc : Int) + off = (tgt : Int)) (kt : ¬ x = 0 → gEx G M b tgt lv st σ Q) (kf : ¬ (¬ x = 0) → gEx G M b (pc + 3) lv st σ Q) : gEx G M b pc lv (.inl x :: st) σ Q := by
  intro p l e R s m args below meth c D cy ad H locs cells slots mc ms ls C X L
  exact lv_if_ne C.1.1 C.1.2.1 d ht (fun h => kt (by first | exact h | simpa using h) p l e R s m args below meth c D cy ad H locs cells slots mc ms ls C X L) (fun h => kf (by first | exact h | simpa using h) p l e R s m args below meth c D cy ad H locs cells slots mc ms ls C X L)
theorem g_icmp_lt {x y : Int32} {off : Int} (tgt : Nat) (d : decode M.cc pc = .ok (.if_icmp .lt off, 3)) (ht : (pc : Int) + off = (tgt : Int)) (kt : x < y → gEx G M b tgt lv st σ Q) (kf : ¬ (x < y) → gEx G M b (pc + 3) lv st σ Q) : gEx G M b pc lv (.inl y :: .inl x :: st) σ Q := by
  intro p l e R s m args below meth c D cy ad H locs cells slots mc ms ls C X L
  exact lv_icmp_lt C.1.1 C.1.2.1 d ht (fun h => kt (by first | exact h | simpa using h) p l e R s m args below meth c D cy ad H locs cells slots mc ms ls C X L) (fun h => kf (by first | exact h | simpa using h) p l e R s m args below meth c D cy ad H locs cells slots mc ms ls C X L)
theorem g_if_lt {x : Int32} {off : Int} (tgt : Nat) (d : decode M.cc pc = .ok (.ifCond .lt off, 3)) (ht : (pc : Int) + off = (tgt : Int)) (kt : x < 0 → gEx G M b tgt lv st σ Q) (kf : ¬ (x < 0) → gEx G M b (pc + 3) lv st σ Q) : gEx G M b pc lv (.inl x :: st) σ Q := by
  intro p l e R s m args below meth c D cy ad H locs cells slots mc ms ls C X L
  exact lv_if_lt C.1.1 C.1.2.1 d ht (fun h => kt (by first | exact h | simpa using h) p l e R s m args below meth c D cy ad H locs cells slots mc ms ls C X L) (fun h => kf (by first | exact h | simpa using h) p l e R s m args below meth c D cy ad H locs cells slots mc ms ls C X L)
theorem g_icmp_ge {x y : Int32} {off : Int} (tgt : Nat) (d : decode M.cc pc = .ok (.if_icmp .ge off, 3)) (ht : (pc : Int) + off = (tgt : Int)) (kt : y ≤ x → gEx G M b tgt lv st σ Q) (kf : ¬ (y ≤ x) → gEx G M b (pc + 3) lv st σ Q) : gEx G M b pc lv (.inl y :: .inl x :: st) σ Q := by
  intro p l e R s m args below meth c D cy ad H locs cells slots mc ms ls C X L
  exact lv_icmp_ge C.1.1 C.1.2.1 d ht (fun h => kt (by first | exact h | simpa using h) p l e R s m args below meth c D cy ad H locs cells slots mc ms ls C X L) (fun h => kf (by first | exact h | simpa using h) p l e R s m args below meth c D cy ad H locs cells slots mc ms ls C X L)
theorem g_if_ge {x : Int32} {off : Int} (tgt : Nat) (d : decode M.cc pc = .ok (.ifCond .ge off, 3)) (ht : (pc : Int) + off = (tgt : Int)) (kt : 0 ≤ x → gEx G M b tgt lv st σ Q) (kf : ¬ (0 ≤ x) → gEx G M b (pc + 3) lv st σ Q) : gEx G M b pc lv (.inl x :: st) σ Q := by
  intro p l e R s m args below meth c D cy ad H locs cells slots mc ms ls C X L
  exact lv_if_ge C.1.1 C.1.2.1 d ht (fun h => kt (by first | exact h | simpa using h) p l e R s m args below meth c D cy ad H locs cells slots mc ms ls C X L) (fun h => kf (by first | exact h | simpa using h) p l e R s m args below meth c D cy ad H locs cells slots mc ms ls C X L)
theorem g_icmp_gt {x y : Int32} {off : Int} (tgt : Nat) (d : decode M.cc pc = .ok (.if_icmp .gt off, 3)) (ht : (pc : Int) + off = (tgt : Int)) (kt : y < x → gEx G M b tgt lv st σ Q) (kf : ¬ (y < x) → gEx G M b (pc + 3) lv st σ Q) : gEx G M b pc lv (.inl y :: .inl x :: st) σ Q := by
  intro p l e R s m args below meth c D cy ad H locs cells slots mc ms ls C X L
  exact lv_icmp_gt C.1.1 C.1.2.1 d ht (fun h => kt (by first | exact h | simpa using h) p l e R s m args below meth c D cy ad H locs cells slots mc ms ls C X L) (fun h => kf (by first | exact h | simpa using h) p l e R s m args below meth c D cy ad H locs cells slots mc ms ls C X L)
theorem g_if_gt {x : Int32} {off : Int} (tgt : Nat) (d : decode M.cc pc = .ok (.ifCond .gt off, 3)) (ht : (pc : Int) + off = (tgt : Int)) (kt : 0 < x → gEx G M b tgt lv st σ Q) (kf : ¬ (0 < x) → gEx G M b (pc + 3) lv st σ Q) : gEx G M b pc lv (.inl x :: st) σ Q := by
  intro p l e R s m args below meth c D cy ad H locs cells slots mc ms ls C X L
  exact lv_if_gt C.1.1 C.1.2.1 d ht (fun h => kt (by first | exact h | simpa using h) p l e R s m args below meth c D cy ad H locs cells slots mc ms ls C X L) (fun h => kf (by first | exact h | simpa using h) p l e R s m args below meth c D cy ad H locs cells slots mc ms ls C X L)
theorem g_icmp_le {x y : Int32} {off : Int} (tgt : Nat) (d : decode M.cc pc = .ok (.if_icmp .le off, 3)) (ht : (pc : Int) + off = (tgt : Int)) (kt : x ≤ y → gEx G M b tgt lv st σ Q) (kf : ¬ (x ≤ y) → gEx G M b (pc + 3) lv st σ Q) : gEx G M b pc lv (.inl y :: .inl x :: st) σ Q := by
  intro p l e R s m args below meth c D cy ad H locs cells slots mc ms ls C X L
  exact lv_icmp_le C.1.1 C.1.2.1 d ht (fun h => kt (by first | exact h | simpa using h) p l e R s m args below meth c D cy ad H locs cells slots mc ms ls C X L) (fun h => kf (by first | exact h | simpa using h) p l e R s m args below meth c D cy ad H locs cells slots mc ms ls C X L)
theorem g_if_le {x : Int32} {off : Int} (tgt : Nat) (d : decode M.cc pc = .ok (.ifCond .le off, 3)) (ht : (pc : Int) + off = (tgt : Int)) (kt : x ≤ 0 → gEx G M b tgt lv st σ Q) (kf : ¬ (x ≤ 0) → gEx G M b (pc + 3) lv st σ Q) : gEx G M b pc lv (.inl x :: st) σ Q := by
  intro p l e R s m args below meth c D cy ad H locs cells slots mc ms ls C X L
  exact lv_if_le C.1.1 C.1.2.1 d ht (fun h => kt (by first | exact h | simpa using h) p l e R s m args below meth c D cy ad H locs cells slots mc ms ls C X L) (fun h => kf (by first | exact h | simpa using h) p l e R s m args below meth c D cy ad H locs cells slots mc ms ls C X L)
theorem g_tableIn {dflt lo hi : Int} {offs : Array Int} {len : Nat} {x : Int32} {off : Int} (tgt : Nat) (d : decode M.cc pc = .ok (.tableswitch dflt lo hi offs, len)) (h1 : ¬ x.toInt < lo) (h2 : ¬ hi < x.toInt) (ho : offs[(x.toInt - lo).toNat]? = some off) (ht : (pc : Int) + off = (tgt : Int)) (k : gEx G M b tgt lv st σ Q) : gEx G M b pc lv (.inl x :: st) σ Q := by
  intro p l e R s m args below meth c D cy ad H locs cells slots mc ms ls C X L
  exact lv_tableIn C.1.1 C.1.2.1 d h1 h2 ho ht (k p l e R s m args below meth c D cy ad H locs cells slots mc ms ls C X L)
theorem g_tableOut {dflt lo hi : Int} {offs : Array Int} {len : Nat} {x : Int32} (tgt : Nat) (d : decode M.cc pc = .ok (.tableswitch dflt lo hi offs, len)) (h : x.toInt < lo ∨ hi < x.toInt) (ht : (pc : Int) + dflt = (tgt : Int)) (k : gEx G M b tgt lv st σ Q) : gEx G M b pc lv (.inl x :: st) σ Q := by
  intro p l e R s m args below meth c D cy ad H locs cells slots mc ms ls C X L
  exact lv_tableOut C.1.1 C.1.2.1 d h ht (k p l e R s m args below meth c D cy ad H locs cells slots mc ms ls C X L)
theorem g_lookup {dflt : Int} {ps : Array (Int × Int)} {len : Nat} {x : Int32} {off : Int} (tgt : Nat) (d : decode M.cc pc = .ok (.lookupswitch dflt ps, len)) (hp : (ps.toList.zip (ps.toList.drop 1)).all (fun (a, next) => a.1 < next.1) = true) (ho : Op.lookupswitch.offset ps.toList dflt x.toInt = off) (ht : (pc : Int) + off = (tgt : Int)) (k : gEx G M b tgt lv st σ Q) : gEx G M b pc lv (.inl x :: st) σ Q := by
  intro p l e R s m args below meth c D cy ad H locs cells slots mc ms ls C X L
  exact lv_lookup C.1.1 C.1.2.1 d hp ho ht (k p l e R s m args below meth c D cy ad H locs cells slots mc ms ls C X L)
theorem g_ldc {i : Nat} (v : Int32) (d : decode M.cc pc = .ok (.ldc i, 2)) (hw : Cond.constant M.y.cls i v ∈ M.ws) (k : gEx G M b (pc + 2) lv (.inl v :: st) σ Q) : gEx G M b pc lv st σ Q := by
  intro p l e R s m args below meth c D cy ad H locs cells slots mc ms ls C X L
  exact lv_ldc C.1.1 C.1.2.1 C.1.2.2.2.1 (C.1.2.2.2.2 _ hw) d (k p l e R s m args below meth c D cy ad H locs cells slots mc ms ls C X L)
/-- a field that holds an int -/
theorem g_get {i o ci : Nat} {fs : List (Option Nat)} {ref Cn : String} {T : u_T} {N : Nat} (j : Nat) (d : decode M.cc pc = .ok (.getfield i, 3)) (ho : o ∈ G.1) (hs : G.2 o = .inr (ci, fs)) (hc : vwCl[ci]? = some (Cn, T, N)) (hin : ∀ w ∈ u_ws Cn T N, w ∈ M.ws) (hj : j < N)
    (hl : Cond.fieldLink M.y.cls i ref (T j).2.1 (T j).2.2.1 ∈ M.ws) (hsame : ref = (T j).1 ∨ Cond.sameField ref (T j).1 (T j).2.1 (T j).2.2.1 ∈ M.ws) (hf : fs[j]? = some none) (k : gEx G M b (pc + 3) lv (.inl (σ o j) :: st) σ Q) : gEx G M b pc lv (.inr o :: st) σ Q := by
  intro p l e R s m args below meth c D cy ad H locs cells slots mc ms ls C X L
  obtain ⟨i0, -, hw⟩ := gws_at (cy := cy) (ad := ad) (σ := σ) ho hs
  refine va_get (D := D) (ws := gws G cy ad σ) (tys := gtys cy) (v := .int (σ o j)) C.1.1 C.1.2.1 C.1.2.2.2.2 hin C.1.2.2.2.1 C.2.2.2.2.2.2.1 (gws_P X.1) i0 hw hc j hj (C.1.2.2.2.2 _ hl) (fun x hx => ?_) ?_ d (k p l e R s m args below meth c D cy ad H locs cells slots mc ms ls C X L)
  · rcases hsame with h | h
    · rw [h]; exact hx
    · exact u_same (C.1.2.2.2.2 _ h) x hx
  · have h1 := gfl_int ad (σ o) fs 0 j hf
    rwa [Nat.zero_add] at h1
/-- a field that names a cell -/
theorem g_getr {i o t ci : Nat} {fs : List (Option Nat)} {ref Cn : String} {T : u_T} {N : Nat} (j : Nat) (d : decode M.cc pc = .ok (.getfield i, 3)) (ho : o ∈ G.1) (hs : G.2 o = .inr (ci, fs)) (hc : vwCl[ci]? = some (Cn, T, N)) (hin : ∀ w ∈ u_ws Cn T N, w ∈ M.ws) (hj : j < N)
    (hl : Cond.fieldLink M.y.cls i ref (T j).2.1 (T j).2.2.1 ∈ M.ws) (hsame : ref = (T j).1 ∨ Cond.sameField ref (T j).1 (T j).2.1 (T j).2.2.1 ∈ M.ws) (hf : fs[j]? = some (some t)) (k : gEx G M b (pc + 3) lv (.inr t :: st) σ Q) : gEx G M b pc lv (.inr o :: st) σ Q := by
  intro p l e R s m args below meth c D cy ad H locs cells slots mc ms ls C X L
  obtain ⟨i0, -, hw⟩ := gws_at (cy := cy) (ad := ad) (σ := σ) ho hs
  refine va_get (D := D) (ws := gws G cy ad σ) (tys := gtys cy) (v := .ref (ad t)) C.1.1 C.1.2.1 C.1.2.2.2.2 hin C.1.2.2.2.1 C.2.2.2.2.2.2.1 (gws_P X.1) i0 hw hc j hj (C.1.2.2.2.2 _ hl) (fun x hx => ?_) (gfl_ref ad (σ o) fs 0 j t hf) d (k p l e R s m args below meth c D cy ad H locs cells slots mc ms ls C X L)
  rcases hsame with h | h
  · rw [h]; exact hx
  · exact u_same (C.1.2.2.2.2 _ h) x hx
theorem g_put {i o ci : Nat} {fs : List (Option Nat)} {ref Cn : String} {T : u_T} {N : Nat} {ty0 : Nat → FieldType} {v : Int32} (j : Nat) (d : decode M.cc pc = .ok (.putfield i, 3)) (ho : o ∈ G.1) (hs : G.2 o = .inr (ci, fs)) (hc : vwCl[ci]? = some (Cn, T, N)) (hin : ∀ w ∈ u_ws Cn T N, w ∈ M.ws) (hty : ∀ k, k < N → parseFieldDescriptor (T k).2.2.1 = some (ty0 k)) (hnm : ∀ a, a < N → ∀ b, b < N → a ≠ b → (T a).2.1 ≠ (T b).2.1) (hj : j < N)
    (hl : Cond.fieldLink M.y.cls i ref (T j).2.1 (T j).2.2.1 ∈ M.ws) (hsame : ref = (T j).1 ∨ Cond.sameField ref (T j).1 (T j).2.1 (T j).2.2.1 ∈ M.ws) (hf : fs[j]? = some none) (hfin : (T j).2.2.2 = false) (hn : narrow (ty0 j) (.int v) = .int v) (hfit : fits (ty0 j) (.int v) = true)
    (k : gEx G M b (pc + 3) lv st (gup σ o j v) Q) : gEx G M b pc lv (.inl v :: .inr o :: st) σ Q := by
  intro p l e R s m args below meth c D cy ad H locs cells slots mc ms ls C X L
  obtain ⟨i0, hi0, hw⟩ := gws_at (cy := cy) (ad := ad) (σ := σ) ho hs
  refine va_put (D := D) (ws := gws G cy ad σ) (tys := gtys cy) (ty := ty0 j) (v := .int v) C.1.1 C.1.2.1 C.1.2.2.2.2 hin ty0 hty hnm C.1.2.2.2.1 C.2.2.2.2.2.2.1 (gws_P X.1) (gws_D C.2.2.1) X.2.1 i0 hw hc j hj (C.1.2.2.2.2 _ hl) (fun x hx => ?_) hfin (hty j hj) hn hfit (by rw [gfl_len]; exact (List.getElem?_eq_some_iff.mp hf).1) d (fun H1 locs1 hP1 hD1 hS1 => ?_)
  · rcases hsame with h | h
    · rw [h]; exact hx
    · exact u_same (C.1.2.2.2.2 _ h) x hx
  · rw [gws_set (σ' := gup σ o j v) C.2.2.1.1 hi0 (by rw [hs, gup_self]; show (Sum.inr (ci, gfl ad (upd (σ o) j v) 0 fs) : va_E) = _; rw [← gfl_upd ad (σ o) v fs 0 j hf, Nat.zero_add]) (fun a ha => gup_ne σ v ha)] at hP1
    exact k p l e R s m args below meth c D cy ad H1 locs1 cells slots mc ms ls C ⟨gP_ws hP1, hS1, X.2.2.step (fun q h => gA_new h) X.2.1 hS1⟩ L
theorem g_iald {a n : Nat} {i : Int32} (d : decode M.cc pc = .ok (.iaload, 1)) (ha : a ∈ G.1) (hs : G.2 a = .inl (0, n, none)) (hi : vp_in i n) (k : gEx G M b (pc + 1) lv (.inl (σ a i.toNatClampNeg) :: st) σ Q) : gEx G M b pc lv (.inl i :: .inr a :: st) σ Q := by
  intro p l e R s m args below meth c D cy ad H locs cells slots mc ms ls C X L
  obtain ⟨i0, -, hw⟩ := gws_at (cy := cy) (ad := ad) (σ := σ) ha hs
  exact va_iald (D := D) (ws := gws G cy ad σ) (tys := gtys cy) C.1.1 C.1.2.1 C.2.2.2.2.2.2.1 (gws_P X.1) i0 0 hw rfl hi d (k p l e R s m args below meth c D cy ad H locs cells slots mc ms ls C X L)
theorem g_zald {a n : Nat} {i : Int32} (d : decode M.cc pc = .ok (.baload, 1)) (ha : a ∈ G.1) (hs : G.2 a = .inl (1, n, none)) (hi : vp_in i n) (k : gEx G M b (pc + 1) lv (.inl (σ a i.toNatClampNeg) :: st) σ Q) : gEx G M b pc lv (.inl i :: .inr a :: st) σ Q := by
  intro p l e R s m args below meth c D cy ad H locs cells slots mc ms ls C X L
  obtain ⟨i0, -, hw⟩ := gws_at (cy := cy) (ad := ad) (σ := σ) ha hs
  exact va_zald (D := D) (ws := gws G cy ad σ) (tys := gtys cy) C.1.1 C.1.2.1 C.2.2.2.2.2.2.1 (gws_P X.1) i0 1 hw rfl hi d (k p l e R s m args below meth c D cy ad H locs cells slots mc ms ls C X L)
theorem g_iast {a n : Nat} {i x : Int32} (d : decode M.cc pc = .ok (.iastore, 1)) (ha : a ∈ G.1) (hs : G.2 a = .inl (0, n, none)) (hi : vp_in i n) (k : gEx G M b (pc + 1) lv st (gup σ a i.toNatClampNeg (x)) Q) : gEx G M b pc lv (.inl x :: .inl i :: .inr a :: st) σ Q := by
  intro p l e R s m args below meth c D cy ad H locs cells slots mc ms ls C X L
  obtain ⟨i0, hi0, hw⟩ := gws_at (cy := cy) (ad := ad) (σ := σ) ha hs
  refine va_iast (D := D) (ws := gws G cy ad σ) (tys := gtys cy) C.1.1 C.1.2.1 C.2.2.2.2.2.2.1 (gws_P X.1) (gws_D C.2.2.1) X.2.1 i0 0 hw rfl hi d (fun H1 locs1 hP1 hD1 hS1 => ?_)
  rw [gws_set (σ' := gup σ a i.toNatClampNeg (x)) C.2.2.1.1 hi0 (by rw [hs, gup_self]; rfl) (fun a ha => gup_ne σ _ ha)] at hP1
  exact k p l e R s m args below meth c D cy ad H1 locs1 cells slots mc ms ls C ⟨gP_ws hP1, hS1, X.2.2.step (fun q h => gA_new h) X.2.1 hS1⟩ L
theorem g_zast {a n : Nat} {i x : Int32} (d : decode M.cc pc = .ok (.bastore, 1)) (ha : a ∈ G.1) (hs : G.2 a = .inl (1, n, none)) (hi : vp_in i n) (k : gEx G M b (pc + 1) lv st (gup σ a i.toNatClampNeg (vp_nar .boolean x)) Q) : gEx G M b pc lv (.inl x :: .inl i :: .inr a :: st) σ Q := by
  intro p l e R s m args below meth c D cy ad H locs cells slots mc ms ls C X L
  obtain ⟨i0, hi0, hw⟩ := gws_at (cy := cy) (ad := ad) (σ := σ) ha hs
  refine va_zast (D := D) (ws := gws G cy ad σ) (tys := gtys cy) C.1.1 C.1.2.1 C.2.2.2.2.2.2.1 (gws_P X.1) (gws_D C.2.2.1) X.2.1 i0 1 hw rfl hi d (fun H1 locs1 hP1 hD1 hS1 => ?_)
  rw [gws_set (σ' := gup σ a i.toNatClampNeg (vp_nar .boolean x)) C.2.2.1.1 hi0 (by rw [hs, gup_self]; rfl) (fun a ha => gup_ne σ _ ha)] at hP1
  exact k p l e R s m args below meth c D cy ad H1 locs1 cells slots mc ms ls C ⟨gP_ws hP1, hS1, X.2.2.step (fun q h => gA_new h) X.2.1 hS1⟩ L
theorem g_alen {a ty n : Nat} {r : Option (Nat → Nat)} (v : Int32) (d : decode M.cc pc = .ok (.arraylength, 1)) (ha : a ∈ G.1) (hs : G.2 a = .inl (ty, n, r)) (ht : ty < 6) (hv : nI n = v) (k : gEx G M b (pc + 1) lv (.inl v :: st) σ Q) : gEx G M b pc lv (.inr a :: st) σ Q := by
  intro p l e R s m args below meth c D cy ad H locs cells slots mc ms ls C X L
  obtain ⟨i0, -, hw⟩ := gws_at (cy := cy) (ad := ad) (σ := σ) ha hs
  have ht6 : (gtys cy)[ty]? = some (cy ty, gty ty) := by
    rcases (show ty = 0 ∨ ty = 1 ∨ ty = 2 ∨ ty = 3 ∨ ty = 4 ∨ ty = 5 by omega) with h | h | h | h | h | h <;> subst h <;> rfl
  cases r with
  | none => exact va_alen (D := D) (ws := gws G cy ad σ) (tys := gtys cy) C.1.1 C.1.2.1 C.2.2.2.2.2.2.1 (gws_P X.1) i0 ty hw ht6 hv d (k p l e R s m args below meth c D cy ad H locs cells slots mc ms ls C X L)
  | some g => exact va_alen (D := D) (ws := gws G cy ad σ) (tys := gtys cy) C.1.1 C.1.2.1 C.2.2.2.2.2.2.1 (gws_P X.1) i0 ty hw ht6 hv d (k p l e R s m args below meth c D cy ad H locs cells slots mc ms ls C X L)
theorem g_aald2 {a n : Nat} {g : Nat → Nat} {i : Int32} (d : decode M.cc pc = .ok (.aaload, 1)) (ha : a ∈ G.1) (hs : G.2 a = .inl (2, n, some g)) (hi : vp_in i n) (k : gEx G M b (pc + 1) lv (.inr (g i.toNatClampNeg) :: st) σ Q) : gEx G M b pc lv (.inl i :: .inr a :: st) σ Q := by
  intro p l e R s m args below meth c D cy ad H locs cells slots mc ms ls C X L
  obtain ⟨i0, -, hw⟩ := gws_at (cy := cy) (ad := ad) (σ := σ) ha hs
  exact va_aldq (D := D) (C := RX0) (ws := gws G cy ad σ) (tys := gtys cy) C.1.1 C.1.2.1 C.2.2.2.2.2.2.1 (gws_P X.1) i0 2 hw rfl hi d (k p l e R s m args below meth c D cy ad H locs cells slots mc ms ls C X L)
theorem g_aald3 {a n : Nat} {g : Nat → Nat} {i : Int32} (d : decode M.cc pc = .ok (.aaload, 1)) (ha : a ∈ G.1) (hs : G.2 a = .inl (3, n, some g)) (hi : vp_in i n) (k : gEx G M b (pc + 1) lv (.inr (g i.toNatClampNeg) :: st) σ Q) : gEx G M b pc lv (.inl i :: .inr a :: st) σ Q := by
  intro p l e R s m args below meth c D cy ad H locs cells slots mc ms ls C X L
  obtain ⟨i0, -, hw⟩ := gws_at (cy := cy) (ad := ad) (σ := σ) ha hs
  exact va_aldq (D := D) (C := RX1) (ws := gws G cy ad σ) (tys := gtys cy) C.1.1 C.1.2.1 C.2.2.2.2.2.2.1 (gws_P X.1) i0 3 hw rfl hi d (k p l e R s m args below meth c D cy ad H locs cells slots mc ms ls C X L)
theorem g_aald4 {a n : Nat} {g : Nat → Nat} {i : Int32} (d : decode M.cc pc = .ok (.aaload, 1)) (ha : a ∈ G.1) (hs : G.2 a = .inl (4, n, some g)) (hi : vp_in i n) (k : gEx G M b (pc + 1) lv (.inr (g i.toNatClampNeg) :: st) σ Q) : gEx G M b pc lv (.inl i :: .inr a :: st) σ Q := by
  intro p l e R s m args below meth c D cy ad H locs cells slots mc ms ls C X L
  obtain ⟨i0, -, hw⟩ := gws_at (cy := cy) (ad := ad) (σ := σ) ha hs
  exact va_aldq (D := D) (C := RX4) (ws := gws G cy ad σ) (tys := gtys cy) C.1.1 C.1.2.1 C.2.2.2.2.2.2.1 (gws_P X.1) i0 4 hw rfl hi d (k p l e R s m args below meth c D cy ad H locs cells slots mc ms ls C X L)
theorem g_aald5 {a n : Nat} {g : Nat → Nat} {i : Int32} (d : decode M.cc pc = .ok (.aaload, 1)) (ha : a ∈ G.1) (hs : G.2 a = .inl (5, n, some g)) (hi : vp_in i n) (k : gEx G M b (pc + 1) lv (.inr (g i.toNatClampNeg) :: st) σ Q) : gEx G M b pc lv (.inl i :: .inr a :: st) σ Q := by
  intro p l e R s m args below meth c D cy ad H locs cells slots mc ms ls C X L
  obtain ⟨i0, -, hw⟩ := gws_at (cy := cy) (ad := ad) (σ := σ) ha hs
  have hlt : i.toNatClampNeg < n := Nat.not_le.mp fun q => hi (Or.inr q)
  exact W.aald (v := va_rf ((fun j => some (ad (g j))) i.toNatClampNeg)) (ty := .array .boolean) C.1.1 C.1.2.1 (gws_P X.1 i0 _ hw) ((C.2.2.2.2.2.2.1.2 5 _ rfl).1 n (fun j => va_rf ((fun j => some (ad (g j))) j))) rfl (fun q => by cases q) (by show ¬ (i < 0 ∨ (arrV _ _ _).slots.size ≤ _); rw [arrV_size]; exact hi) (by show (arrV _ _ _).slots[_]? = _; rw [arrV_read _ _ hlt]) rfl rfl d (k p l e R s m args below meth c D cy ad H locs cells slots mc ms ls C X L)
theorem g_iret {x : Int32} (d : decode M.cc pc = .ok (.ireturn, 1)) (hr : M.ret = some .int) (hq : Q (.inl (some (.inl x))) σ) : gEx G M b pc lv [.inl x] σ Q := by
  intro p l e R s m args below meth c D cy ad H locs cells slots mc ms ls C X L
  have hlocks : meth.locks = false := C.2.2.2.2.2.1
  refine vx_ret (W.widen (k := mc) (n := ms) (by have := C.2.2.2.2.2.2.2.1; omega) (by have := C.2.2.2.2.2.2.2.1; omega) ?_)
  exact W.iret (v := x) C.1.1 C.1.2.1 (C.2.2.2.2.2.2.2.2.trans hr) (fun t ht hW => ⟨⟨some (.inl x), σ, rfl, hq, by rw [ht]; exact X.1⟩, X.2.1.F ht⟩) X.2.1.2.2 d
theorem g_zret {x : Int32} (d : decode M.cc pc = .ok (.ireturn, 1)) (hr : M.ret = some .boolean) (hx : narrow .boolean (.int x) = .int x) (hq : Q (.inl (some (.inl x))) σ) : gEx G M b pc lv [.inl x] σ Q := by
  intro p l e R s m args below meth c D cy ad H locs cells slots mc ms ls C X L
  have hlocks : meth.locks = false := C.2.2.2.2.2.1
  refine vx_ret (W.widen (k := mc) (n := ms) (by have := C.2.2.2.2.2.2.2.1; omega) (by have := C.2.2.2.2.2.2.2.1; omega) ?_)
  exact W.zret (v := x) C.1.1 C.1.2.1 (C.2.2.2.2.2.2.2.2.trans hr) hx (fun t ht hW => ⟨⟨some (.inl x), σ, rfl, hq, by rw [ht]; exact X.1⟩, X.2.1.F ht⟩) X.2.1.2.2 d
theorem g_aret {x : Nat} {n : String} (d : decode M.cc pc = .ok (.areturn, 1)) (hr : M.ret = some (.object n)) (hq : Q (.inl (some (.inr x))) σ) : gEx G M b pc lv [.inr x] σ Q := by
  intro p l e R s m args below meth c D cy ad H locs cells slots mc ms ls C X L
  have hlocks : meth.locks = false := C.2.2.2.2.2.1
  refine vx_ret (W.widen (k := mc) (n := ms) (by have := C.2.2.2.2.2.2.2.1; omega) (by have := C.2.2.2.2.2.2.2.1; omega) ?_)
  exact W.aret (v := .ref (ad x)) C.1.1 C.1.2.1 (C.2.2.2.2.2.2.2.2.trans hr) (Or.inl ⟨_, rfl⟩) (Or.inr ⟨_, rfl⟩) (fun t ht hW => ⟨⟨some (.inr x), σ, rfl, hq, by rw [ht]; exact X.1⟩, X.2.1.F ht⟩) X.2.1.2.2 d
theorem g_vret (d : decode M.cc pc = .ok (.return_, 1)) (hr : M.ret = none) (hq : Q (.inl none) σ) : gEx G M b pc lv [] σ Q := by
  intro p l e R s m args below meth c D cy ad H locs cells slots mc ms ls C X L
  have hlocks : meth.locks = false := C.2.2.2.2.2.1
  refine vx_ret (W.widen (k := mc) (n := ms) (by have := C.2.2.2.2.2.2.2.1; omega) (by have := C.2.2.2.2.2.2.2.1; omega) ?_)
  exact W.vret C.1.1 C.1.2.1 (C.2.2.2.2.2.2.2.2.trans hr) (fun t ht hW => ⟨⟨none, σ, rfl, hq, by rw [ht]; exact X.1⟩, X.2.1.F ht⟩) X.2.1.2.2 d
end GR
