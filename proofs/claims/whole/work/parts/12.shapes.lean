/-! the class's cells: R managers, A acceptors -/
def cSh (R A k : Nat) : gSh :=
  if k < 10 then (match k with
    | 0 => .inr (5, [some 1, some 2, some 3, some 4, some 6, none, none])
    | 1 => .inl (4, R, some (fun m => 10 + m))
    | 2 => .inl (2, A, some (fun a => 20 + a))
    | 3 => .inl (3, 3, some (fun l => 40 + l))
    | 4 => .inr (3, [none, none, none, some 5])
    | 5 => .inl (0, 401 * (6 + R), none)
    | 6 => .inr (2, [some 7, some 8, none, some 9])
    | 7 => .inl (0, R, none)
    | 8 => .inl (1, R, none)
    | _ => .inl (0, 1537, none))
  else if k < 20 then .inr (4, [none, none, none])
  else if k < 30 then .inr (0, [none, none, some (k + 10)])
  else if k < 40 then .inl (0, R, none)
  else if k < 50 then .inr (1, [none, none, none, none, none, none, some (k + 10), some (k + 20), none, some (k + 30)])
  else if k < 70 then .inl (0, R, none)
  else .inl (0, R * A, none)
def cIds (R A : Nat) : List Nat := [0, 1, 2, 3, 4, 5, 6, 7, 8, 9] ++ ((List.range R).map (fun m => 10 + m) ++ ((List.range A).map (fun a => 20 + a) ++ ((List.range A).map (fun a => 30 + a) ++ [40, 41, 42, 50, 51, 52, 60, 61, 62, 70, 71, 72])))
def cG (R A : Nat) : gG := (cIds R A, cSh R A)
section CS
variable {R A : Nat}
theorem cIn_lo {k : Nat} (h : k < 10) : k ∈ (cG R A).1 := by
  refine List.mem_append_left _ ?_
  rcases (show k = 0 ∨ k = 1 ∨ k = 2 ∨ k = 3 ∨ k = 4 ∨ k = 5 ∨ k = 6 ∨ k = 7 ∨ k = 8 ∨ k = 9 by omega) with h | h | h | h | h | h | h | h | h | h <;> subst h <;> decide
theorem cIn_m {m : Nat} (h : m < R) : 10 + m ∈ (cG R A).1 := List.mem_append_right _ (List.mem_append_left _ (List.mem_map.mpr ⟨m, List.mem_range.mpr h, rfl⟩))
theorem cIn_a {a : Nat} (h : a < A) : 20 + a ∈ (cG R A).1 := List.mem_append_right _ (List.mem_append_right _ (List.mem_append_left _ (List.mem_map.mpr ⟨a, List.mem_range.mpr h, rfl⟩)))
theorem cIn_b {a : Nat} (h : a < A) : 30 + a ∈ (cG R A).1 := List.mem_append_right _ (List.mem_append_right _ (List.mem_append_right _ (List.mem_append_left _ (List.mem_map.mpr ⟨a, List.mem_range.mpr h, rfl⟩))))
theorem cIn_hi {k : Nat} (h : k ∈ [40, 41, 42, 50, 51, 52, 60, 61, 62, 70, 71, 72]) : k ∈ (cG R A).1 := List.mem_append_right _ (List.mem_append_right _ (List.mem_append_right _ (List.mem_append_right _ h)))
theorem cIn_l {l : Nat} (h : l < 3) : 40 + l ∈ (cG R A).1 := cIn_hi (by rcases (show l = 0 ∨ l = 1 ∨ l = 2 by omega) with h | h | h <;> subst h <;> decide)
theorem cIn_t {l : Nat} (h : l < 3) : 50 + l ∈ (cG R A).1 := cIn_hi (by rcases (show l = 0 ∨ l = 1 ∨ l = 2 by omega) with h | h | h <;> subst h <;> decide)
theorem cIn_o {l : Nat} (h : l < 3) : 60 + l ∈ (cG R A).1 := cIn_hi (by rcases (show l = 0 ∨ l = 1 ∨ l = 2 by omega) with h | h | h <;> subst h <;> decide)
theorem cIn_s {l : Nat} (h : l < 3) : 70 + l ∈ (cG R A).1 := cIn_hi (by rcases (show l = 0 ∨ l = 1 ∨ l = 2 by omega) with h | h | h <;> subst h <;> decide)
theorem cSh_m {m : Nat} (h : m < 10) : (cG R A).2 (10 + m) = .inr (4, [none, none, none]) := by
  show cSh R A (10 + m) = _
  unfold cSh
  rw [if_neg (by omega), if_pos (by omega)]
theorem cSh_a {a : Nat} (h : a < 10) : (cG R A).2 (20 + a) = .inr (0, [none, none, some (30 + a)]) := by
  show cSh R A (20 + a) = _
  unfold cSh
  rw [if_neg (by omega), if_neg (by omega), if_pos (by omega), show 20 + a + 10 = 30 + a by omega]
theorem cSh_b {a : Nat} (h : a < 10) : (cG R A).2 (30 + a) = .inl (0, R, none) := by
  show cSh R A (30 + a) = _
  unfold cSh
  rw [if_neg (by omega), if_neg (by omega), if_neg (by omega), if_pos (by omega)]
theorem cSh_l {l : Nat} (h : l < 3) : (cG R A).2 (40 + l) = .inr (1, [none, none, none, none, none, none, some (50 + l), some (60 + l), none, some (70 + l)]) := by
  rcases (show l = 0 ∨ l = 1 ∨ l = 2 by omega) with h | h | h <;> subst h <;> rfl
theorem cSh_t {l : Nat} (h : l < 3) : (cG R A).2 (50 + l) = .inl (0, R, none) := by
  rcases (show l = 0 ∨ l = 1 ∨ l = 2 by omega) with h | h | h <;> subst h <;> rfl
theorem cSh_o {l : Nat} (h : l < 3) : (cG R A).2 (60 + l) = .inl (0, R, none) := by
  rcases (show l = 0 ∨ l = 1 ∨ l = 2 by omega) with h | h | h <;> subst h <;> rfl
theorem cSh_s {l : Nat} (h : l < 3) : (cG R A).2 (70 + l) = .inl (0, R * A, none) := by
  rcases (show l = 0 ∨ l = 1 ∨ l = 2 by omega) with h | h | h <;> subst h <;> rfl
theorem cSh_0 : (cG R A).2 0 = .inr (5, [some 1, some 2, some 3, some 4, some 6, none, none]) := rfl
theorem cSh_1 : (cG R A).2 1 = .inl (4, R, some (fun m => 10 + m)) := rfl
theorem cSh_2 : (cG R A).2 2 = .inl (2, A, some (fun a => 20 + a)) := rfl
theorem cSh_3 : (cG R A).2 3 = .inl (3, 3, some (fun l => 40 + l)) := rfl
theorem cSh_4 : (cG R A).2 4 = .inr (3, [none, none, none, some 5]) := rfl
theorem cSh_5 : (cG R A).2 5 = .inl (0, 401 * (6 + R), none) := rfl
theorem cSh_6 : (cG R A).2 6 = .inr (2, [some 7, some 8, none, some 9]) := rfl
theorem cSh_7 : (cG R A).2 7 = .inl (0, R, none) := rfl
theorem cSh_8 : (cG R A).2 8 = .inl (1, R, none) := rfl
theorem cSh_9 : (cG R A).2 9 = .inl (0, 1537, none) := rfl
end CS
/-! the reference's cells -/
def mSh (k : Nat) : gSh := match k with
    | 0 => .inr (6, [none, none, none, some 1, some 2, none, none, none, none, some 3, some 4, some 5, some 6, some 7, some 8, some 9, some 10, some 11, some 12, some 13, some 14, some 15, some 16, some 17, some 18, some 19])
    | 1 => .inl (0, 7200, none)
    | 2 => .inl (0, 18, none)
    | 3 => .inl (0, 6, none)
    | 4 => .inl (5, 3, some (fun s => 20 + s))
    | 5 => .inl (0, 5, none)
    | 6 => .inl (0, 30, none)
    | 7 => .inl (0, 30, none)
    | 8 => .inl (0, 9600, none)
    | 9 => .inl (0, 9600, none)
    | 10 => .inl (0, 3, none)
    | 11 => .inl (0, 3, none)
    | 12 => .inl (0, 3, none)
    | 13 => .inl (0, 3, none)
    | 14 => .inl (0, 3, none)
    | 15 => .inl (0, 90, none)
    | 16 => .inl (0, 90, none)
    | 17 => .inl (0, 90, none)
    | 18 => .inl (0, 90, none)
    | 19 => .inl (0, 18, none)
    | _ => .inl (1, 6, none)
def mIds : List Nat := [0, 1, 2, 3, 4, 5, 6, 7, 8, 9, 10, 11, 12, 13, 14, 15, 16, 17, 18, 19, 20, 21, 22]
def mG : gG := (mIds, mSh)
theorem mIn {k : Nat} (h : k < 23) : k ∈ mG.1 := by
  show k ∈ mIds
  have e : mIds = List.range 23 := by decide
  rw [e]
  exact List.mem_range.mpr h
theorem mNd : gNd mG := by
  intro i j a hi hj
  exact va_nd_inj mIds (by decide) i j a hi hj
theorem mSh_u {s : Nat} (h : s < 3) : mG.2 (20 + s) = .inl (1, 6, none) := by
  rcases (show s = 0 ∨ s = 1 ∨ s = 2 by omega) with h | h | h <;> subst h <;> rfl
theorem cNd {R A : Nat} (hR : R ≤ 6) (hA : A ≤ 5) : gNd (cG R A) := by
  intro i j a hi hj
  refine va_nd_inj (cIds R A) ?_ i j a hi hj
  rcases (show R = 0 ∨ R = 1 ∨ R = 2 ∨ R = 3 ∨ R = 4 ∨ R = 5 ∨ R = 6 by omega) with h | h | h | h | h | h | h <;> subst h <;>
    (rcases (show A = 0 ∨ A = 1 ∨ A = 2 ∨ A = 3 ∨ A = 4 ∨ A = 5 by omega) with h | h | h | h | h | h <;> subst h <;> decide)
/-- true and false as ints -/
def bI (p : Prop) [Decidable p] : Int32 := if p then 1 else 0
theorem bI_nar (p : Prop) [Decidable p] : narrow .boolean (.int (bI p)) = .int (bI p) := by
  unfold bI
  split <;> rfl
theorem nI_z {a : Nat} (h : a < 2 ^ 31) : nI a = 0 ↔ a = 0 := ⟨fun e => (nI_eq h (by decide)).mp (e.trans nI_0.symm), fun e => by subst e; exact nI_0⟩
theorem nI_n {a : Nat} (h : a < 2 ^ 31) : nI a < 0 ↔ False := ⟨fun q => nI_pos h q, False.elim⟩
theorem nI_p {a : Nat} (h : a < 2 ^ 31) : 0 ≤ nI a ↔ True := ⟨fun _ => trivial, fun _ => nI_pos' h⟩
theorem nI_pp {a : Nat} (h : a < 2 ^ 31) : 0 < nI a ↔ 0 < a := by
  have := nI_ltI (a := 0) (b := a) (by decide) h
  rwa [nI_0] at this
theorem nI_np {a : Nat} (h : a < 2 ^ 31) : nI a ≤ 0 ↔ a = 0 := by
  have := nI_leI (a := a) (b := 0) h (by decide)
  rw [nI_0] at this
  rw [this]
  omega
theorem mlt {n R j N : Nat} (h : n < N) (hj : j < 6 + R) : n * (6 + R) + j < N * (6 + R) := by
  have h1 : (n + 1) * (6 + R) ≤ N * (6 + R) := Nat.mul_le_mul_right _ h
  rw [Nat.add_mul, Nat.one_mul] at h1
  omega
theorem mle {n R N : Nat} (h : n ≤ N) : n * (6 + R) ≤ N * (6 + R) := Nat.mul_le_mul_right _ h
section GCN
variable {G : gG} {M : gM} {b pc : Nat} {lv : List (Option gAV)} {st : List gAV} {σ : gSt} {Q : gOut → gSt → Prop}
theorem g_copyN {i a0 a1 n0 n1 p q c : Nat} (d : decode M.cc pc = .ok (.invokestatic i, 3)) (hl : Cond.methodLink M.y.cls i arraycopyName ∈ M.ws) (hna : Cond.native arraycopyName ∈ M.ws) (hst : Cond.static arraycopyName ∈ M.ws) (hi : Cond.initialized "java/lang/System" ∈ M.ws)
    (ha0 : a0 ∈ G.1) (hs0 : G.2 a0 = .inl (0, n0, none)) (ha1 : a1 ∈ G.1) (hs1 : G.2 a1 = .inl (0, n1, none)) (h4 : p + c ≤ n0) (h5 : q + c ≤ n1) (hn0 : n0 < 2 ^ 31) (hn1 : n1 < 2 ^ 31)
    (hR : 1 ≤ M.fr ∧ st.length + (nativeFrameWords "java/lang/System" "arraycopy" 5 + 11) ≤ M.lo)
    (k : gEx G M b (pc + 3) lv st (gur σ a1 (va_cpy (σ a0) (σ a1) p q c)) Q) : gEx G M b pc lv (.inl (nI c) :: .inl (nI q) :: .inr a1 :: .inl (nI p) :: .inr a0 :: st) σ Q := by
  have e1 : (nI p).toNatClampNeg = p := nI_clamp (by omega)
  have e2 : (nI q).toNatClampNeg = q := nI_clamp (by omega)
  have e3 : (nI c).toNatClampNeg = c := nI_clamp (by omega)
  exact g_copy d hl hna hst hi ha0 hs0 ha1 hs1 (nI_pos (by omega)) (nI_pos (by omega)) (nI_pos (by omega)) (by rw [e1, e3]; exact h4) (by rw [e2, e3]; exact h5) hR (by rw [e1, e2, e3]; exact k)
end GCN
theorem bI_z (p : Prop) [Decidable p] : bI p = 0 ↔ ¬ p := by
  unfold bI
  by_cases h : p
  · simp [h]
  · simp [h]
