/-! THE REFERENCE'S CONSTRUCTOR -/
def mPos (k : Nat) : Nat := if k < 4 then k else if k = 4 then 7 else if k < 20 then k + 3 else k - 16
def mI : kI := (mIds, mPos)
theorem mI_in (h : (mI.1.all (fun i => mI.1.all (fun j => !(mI.2 i == mI.2 j) || i == j))) = true) : ∀ i ∈ mI.1, ∀ j ∈ mI.1, mI.2 i = mI.2 j → i = j := fun i hi j hj e => by
  have h1 := List.all_eq_true.mp (List.all_eq_true.mp h i hi) j hj
  simpa [e] using h1
theorem mI_ok : kOk mI := ⟨by decide +kernel, fun i j hi hj => mI_in (by decide +kernel) i hi j hj⟩
def mLen (k : Nat) : Nat := match k with
  | 1 => 7200 | 2 => 18 | 3 => 6 | 5 => 5 | 6 => 30 | 7 => 30 | 8 => 9600 | 9 => 9600 | 10 => 3 | 11 => 3 | 12 => 3 | 13 => 3 | 14 => 3 | 15 => 90 | 16 => 90 | 17 => 90 | 18 => 90 | _ => 18
theorem mM_lo {k n : Nat} (h : k < 20) (hn : mPos k < n) : kM mI n k := ⟨mIn (by omega), hn⟩
theorem mM_u {s n : Nat} (h : s < 3) (hn : 7 < n) : kM mI n (20 + s) := ⟨mIn (by omega), by
  show mPos (20 + s) < n
  unfold mPos
  rw [if_neg (by omega), if_neg (by omega), if_neg (by omega)]
  omega⟩
theorem g_outer (c : ClassId) (N h0 : Nat) : ∀ i : Nat, Jvm.Free.Multi.outerC c N h0 i = arrV c N (fun j => va_rf (if j < i then some (h0 + 1 + j) else none))
  | 0 => by
    show ({ cls := c, slots := Array.replicate N .null, vm := .none } : Cell) = _
    rw [arrV_new]
    refine congrArg (arrV c N) (funext fun j => ?_)
    simp [va_rf]
  | i + 1 => by
    show (Jvm.Free.Multi.outerC c N h0 i).setSlot i (.ref (h0 + 1 + i)) = _
    rw [g_outer c N h0 i, arrV_store]
    refine congrArg (arrV c N) (funext fun j => ?_)
    by_cases e : j = i
    · subst e
      simp [updV, va_rf]
    · by_cases h : j < i
      · simp [updV, e, h, Nat.lt_succ_of_lt h]
      · simp [updV, e, h, show ¬ j < i + 1 by omega]
def gUp (k1 k2 k3 : Nat) : Nat → Option Nat := fun j => if j = 0 then some k1 else if j = 1 then some k2 else if j = 2 then some k3 else none
theorem gA_pick {I : kI} {n q : Nat} {ad : Nat → Nat} {k v : Nat} (h : ∀ j, kM I n j → ad j ≠ q) (hv : v ≠ q) {a9 : Nat → Nat} (hag : ∀ j, kM I n j → a9 j = ad j) (hk : a9 k = v) (hor : ∀ j, kM I (n + 1) j → j = k ∨ kM I n j) : ∀ j, kM I (n + 1) j → a9 j ≠ q := fun j hj => by
  rcases hor j hj with e | e
  · rw [e, hk]
    exact hv
  · rw [hag j e]
    exact h j e
theorem kM_or {I : kI} (hI : kOk I) {n k : Nat} (hk : k ∈ I.1) (hp : I.2 k = n) : ∀ j, kM I (n + 1) j → j = k ∨ kM I n j := fun j hj => by
  by_cases e : I.2 j < n
  · exact Or.inr ⟨hj.1, e⟩
  · refine Or.inl (hI.2 j k hj.1 hk ?_)
    have := hj.2
    omega
theorem k_mna {I : kI} {M : gM} {bc bs pc : Nat} {lv : List (Option gAV)} {st : List gAV} {n n0 : Nat} {κ : kW} {Q : Nat → kW → Prop} {index bc' bs' k0 k1 k2 k3 : Nat} (d : decode M.cc pc = .ok (.multianewarray index 2, 4)) (hcl : Cond.classLink M.y.cls index "[[Z" ∈ M.ws) (harr : Cond.arrayClass .boolean ∈ M.ws)
    (hk1 : k1 ∈ I.1) (hp1 : I.2 k1 = n) (hk2 : k2 ∈ I.1) (hp2 : I.2 k2 = n + 1) (hk3 : k3 ∈ I.1) (hp3 : I.2 k3 = n + 1 + 1) (hk0 : k0 ∈ I.1) (hp0 : I.2 k0 = n + 1 + 1 + 1) (hbc : bc' + 4 ≤ bc) (hbs : bs' + 21 ≤ bs)
    (k' : kEx I M bc' bs' (pc + 4) lv (.inr k0 :: st) (n + 1 + 1 + 1 + 1) (va_up (va_up (va_up (va_up κ k1 (.inl (1, 6, .inl (fun _ => 0)))) k2 (.inl (1, 6, .inl (fun _ => 0)))) k3 (.inl (1, 6, .inl (fun _ => 0)))) k0 (.inl (5, 3, .inr (gUp k1 k2 k3)))) n0 Q) : kEx I M bc bs pc lv (.inl (nI 6) :: .inl (nI 3) :: st) n κ n0 Q := by
  intro hwf hst hlv hn0 p l e R s m args below meth c D cy ad0 ad A H locs cells slots mc ms ls C X hag L
  have hb1 := C.2.2.1
  have hb2 := C.2.2.2.2.2.1
  have hI := C.2.1
  have e3 : (nI 3).toNatClampNeg = 3 := nI_clamp (by decide)
  have e6 : (nI 6).toNatClampNeg = 6 := nI_clamp (by decide)
  intro T hT Xs
  obtain ⟨vm₁, cA, comp, -, fA, fC, hO, -, X', step⟩ := Xs.multianewarray2F C.1.1 C.1.2.2.2.1 (ty := .boolean) (index := index) (C.1.2.2.2.2 _ hcl) (gAOA.use C.2.2.2.2.2.2.2.2.2.2) (C.1.2.2.2.2 _ harr) (g := F0 m pc ls (.int (nI 6) :: .int (nI 3) :: st.map (gv ad))) rfl (by rw [C.1.2.1]; exact d) rfl (nI_pos (by decide)) (nI_pos (by decide)) (by rw [e3]; decide) (by rw [e6]; decide) (by rw [e6]; decide) rfl rfl (by rw [e3]; omega) (by rw [e3, e6]; omega)
  have hcA : cA = cy 5 := Option.some.inj (Eq.trans (Eq.symm fA) (C.2.2.2.2.1.2 5 (cy 5, .array .boolean) rfl).2)
  have hco : comp = cy 1 := Option.some.inj (Eq.trans (Eq.symm fC) (C.2.2.2.2.1.2 1 (cy 1, .boolean) rfl).2)
  subst hcA
  subst hco
  rw [e3, e6] at X' step
  generalize hF : Jvm.Free.Multi.fill (T.setVm vm₁) (cy 5) (cy 1) 3 6 (defaultValue .boolean) 3 = F at X' step
  have hTh : (T.setVm vm₁).heap = H := hT
  obtain ⟨f1, f2, -, -⟩ := Jvm.Free.Multi.fill_facts (T.setVm vm₁) (cy 5) (cy 1) 3 6 (defaultValue .boolean) 3
  rw [hF, hTh] at f1 f2
  have hold : ∀ x : Nat, x < H.size → F.heap[x]? = H[x]? := fun x hx => by
    have := Jvm.Free.Multi.fill_old (T.setVm vm₁) (cy 5) (cy 1) 3 6 (defaultValue .boolean) (a := x) (by rw [hTh]; exact hx) 3
    rw [hF, hTh] at this
    exact this
  have hrow : ∀ j : Nat, j < 3 → F.heap[H.size + 1 + j]? = some (vp_cell (cy 1) (6, .inl (fun _ => 0))) := fun j hj => by
    have := Jvm.Free.Multi.fill_inner (T.setVm vm₁) (cy 5) (cy 1) 3 6 (defaultValue .boolean) 3 j hj
    rw [hF, hTh] at this
    rw [this]
    show some ({ cls := cy 1, slots := Array.replicate 6 (defaultValue .boolean), vm := .none } : Cell) = _
    rw [arrV_new]
    rfl
  rw [g_outer] at f2
  have hlt : ∀ j, kM I n j → ad j < H.size := fun j hj => (X.1 j hj).lt
  have hAq : ∀ q, H.size ≤ q → A q := fun q hq => X.2.2.2.1 q (Nat.le_trans X.2.2.2.2.1 hq)
  have hP0 : kP I D cy ad n κ F.heap := fun j hj => (X.1 j hj).kept (hold _ (hlt j hj))
  have n1 : ∀ j, kM I n j → ad j ≠ H.size + 1 + 0 := fun j hj => by have := hlt j hj; omega
  have n2 : ∀ j, kM I n j → ad j ≠ H.size + 1 + 1 := fun j hj => by have := hlt j hj; omega
  have n3 : ∀ j, kM I n j → ad j ≠ H.size + 1 + 2 := fun j hj => by have := hlt j hj; omega
  have n4 : ∀ j, kM I n j → ad j ≠ H.size := fun j hj => by have := hlt j hj; omega
  obtain ⟨a1, a2, a3, a4, a5⟩ := k_add (x := .inl (1, 6, .inl (fun _ => 0))) hI hwf X.2.1 X.2.2.1 hP0 hk1 hp1 trivial (hrow 0 (by decide)) (hAq _ (by omega)) n1
  have o1 := kM_or hI hk1 hp1
  have n2 := gA_pick n2 (show H.size + 1 + 0 ≠ H.size + 1 + 1 by omega) a1 (va_up_self _ _ _) o1
  have n3 := gA_pick n3 (show H.size + 1 + 0 ≠ H.size + 1 + 2 by omega) a1 (va_up_self _ _ _) o1
  have n4 := gA_pick n4 (show H.size + 1 + 0 ≠ H.size by omega) a1 (va_up_self _ _ _) o1
  obtain ⟨b1, b2, b3, b4, b5⟩ := k_add (x := .inl (1, 6, .inl (fun _ => 0))) hI a2 a4 a5 a3 hk2 hp2 trivial (hrow 1 (by decide)) (hAq _ (by omega)) n2
  have o2 := kM_or hI hk2 hp2
  have n3 := gA_pick n3 (show H.size + 1 + 1 ≠ H.size + 1 + 2 by omega) b1 (va_up_self _ _ _) o2
  have n4 := gA_pick n4 (show H.size + 1 + 1 ≠ H.size by omega) b1 (va_up_self _ _ _) o2
  obtain ⟨c1, c2, c3, c4, c5⟩ := k_add (x := .inl (1, 6, .inl (fun _ => 0))) hI b2 b4 b5 b3 hk3 hp3 trivial (hrow 2 (by decide)) (hAq _ (by omega)) n3
  have o3 := kM_or hI hk3 hp3
  have n4 := gA_pick n4 (show H.size + 1 + 2 ≠ H.size by omega) c1 (va_up_self _ _ _) o3
  have m1 : kM I (n + 1 + 1 + 1) k1 := ⟨hk1, by omega⟩
  have m2 : kM I (n + 1 + 1 + 1) k2 := ⟨hk2, by omega⟩
  have m3 : kM I (n + 1 + 1 + 1) k3 := ⟨hk3, by omega⟩
  have v1 : va_up (va_up (va_up ad k1 (H.size + 1 + 0)) k2 (H.size + 1 + 1)) k3 (H.size + 1 + 2) k1 = H.size + 1 + 0 := by
    rw [c1 k1 ⟨hk1, by omega⟩, b1 k1 ⟨hk1, by omega⟩, va_up_self]
  have v2 : va_up (va_up (va_up ad k1 (H.size + 1 + 0)) k2 (H.size + 1 + 1)) k3 (H.size + 1 + 2) k2 = H.size + 1 + 1 := by
    rw [c1 k2 ⟨hk2, by omega⟩, va_up_self]
  have v3 : va_up (va_up (va_up ad k1 (H.size + 1 + 0)) k2 (H.size + 1 + 1)) k3 (H.size + 1 + 2) k3 = H.size + 1 + 2 := va_up_self _ _ _
  have hq : va_at D vwCl (H.size, kce cy (va_up (va_up (va_up ad k1 (H.size + 1 + 0)) k2 (H.size + 1 + 1)) k3 (H.size + 1 + 2)) (.inl (5, 3, .inr (gUp k1 k2 k3)))) F.heap := by
    show F.heap[H.size]? = some (vp_cell (cy 5) (3, .inr (.inr (.inr (.inr (fun j => (gUp k1 k2 k3 j).map (va_up (va_up (va_up ad k1 (H.size + 1 + 0)) k2 (H.size + 1 + 1)) k3 (H.size + 1 + 2))))))))
    rw [f2, vp_cell_q]
    congr 2
    funext j
    congr 1
    unfold gUp
    by_cases q0 : j = 0
    · subst q0
      show some (H.size + 1 + 0) = some _
      rw [v1]
    · by_cases q1 : j = 1
      · subst q1
        show some (H.size + 1 + 1) = some _
        rw [v2]
      · by_cases q2 : j = 2
        · subst q2
          show some (H.size + 1 + 2) = some _
          rw [v3]
        · rw [if_neg (by omega), if_neg q0, if_neg q1, if_neg q2]
          rfl
  obtain ⟨d1, d2, d3, d4, d5⟩ := k_add (x := .inl (5, 3, .inr (gUp k1 k2 k3))) hI c2 c4 c5 c3 hk0 hp0 (fun j t e9 => by
    unfold gUp at e9
    split at e9
    · cases e9; exact m1
    · split at e9
      · cases e9; exact m2
      · split at e9
        · cases e9; exact m3
        · cases e9) hq (hAq _ (Nat.le_refl _)) n4
  have gag : ∀ j, kM I n j → va_up (va_up (va_up (va_up ad k1 (H.size + 1 + 0)) k2 (H.size + 1 + 1)) k3 (H.size + 1 + 2)) k0 H.size j = ad j := fun j hj => by
    rw [d1 j (hj.mono (by omega)), c1 j (hj.mono (by omega)), b1 j (hj.mono (by omega)), a1 j hj]
  have C1 : kCx I M bc' bs' p R s m args meth c D cy (cells + 1 + 3) (slots + 3 + 3 * 6) mc ms := ⟨C.1, C.2.1, C.2.2.1, C.2.2.2.1, C.2.2.2.2.1, ⟨by omega, by omega⟩, C.2.2.2.2.2.2⟩
  have hS1 : va_S A s.heap F.heap locs := ⟨by rw [f1]; have := X.2.2.2.2.1; omega, fun x h1 h2 => (hold x (Nat.lt_of_lt_of_le h1 X.2.2.2.2.1)).trans (X.2.2.2.2.2.1 x h1 h2), X.2.2.2.2.2.2⟩
  have K := k' d2 (fun v hv => by
    rcases List.mem_cons.mp hv with h9 | h9
    · rw [h9]; intro k9 e9; cases e9; exact ⟨hk0, by omega⟩
    · exact (hst v (List.mem_cons_of_mem _ (List.mem_cons_of_mem _ h9))).mono (by omega)) (fun v hv => (hlv v hv).mono (by omega)) (by omega) p l e R s m args below meth c D cy ad0 _ A F.heap locs (cells + 1 + 3) (slots + 3 + 3 * 6) mc ms ls C1 ⟨d3, d4, d5, X.2.2.2.1, hS1⟩ (fun j hj => (gag j (hj.mono hn0)).trans (hag j hj)) (gLs_same gag hlv L)
  obtain ⟨t, t1, t2⟩ := K F rfl X'
  refine ⟨t, step t ?_, t2⟩
  have eT : T.heap.size = H.size := by rw [hT]
  have e1 : (Sum.inr k0 :: st : List gAV).map (gv (va_up (va_up (va_up (va_up ad k1 (H.size + 1 + 0)) k2 (H.size + 1 + 1)) k3 (H.size + 1 + 2)) k0 H.size)) = .ref H.size :: st.map (gv ad) := by
    show Value.ref (va_up _ k0 H.size k0) :: st.map (gv (va_up (va_up (va_up (va_up ad k1 (H.size + 1 + 0)) k2 (H.size + 1 + 1)) k3 (H.size + 1 + 2)) k0 H.size)) = _
    rw [va_up_self, map_same gag (fun v hv => hst v (List.mem_cons_of_mem _ (List.mem_cons_of_mem _ hv)))]
  rw [e1] at t1
  rw [eT]
  exact t1
theorem dfX7 : ∀ (ad : Nat → Nat) (j : Nat), j < 26 → defaultValue (tyX7 j) = vp_V (([some (.inl (nI (0))), some (.inl (nI (0))), some (.inl (nI (0))), none, none, some (.inl (nI (0))), some (.inl (nI (0))), some (.inl (nI (0))), some (.inl (nI (0))), none, none, none, none, none, none, none, none, none, none, none, none, none, none, none, none, none] : List (Option gAV)).map (kfv ad)) j := fun ad j hj => by
  rcases (show j = 0 ∨ j = 1 ∨ j = 2 ∨ j = 3 ∨ j = 4 ∨ j = 5 ∨ j = 6 ∨ j = 7 ∨ j = 8 ∨ j = 9 ∨ j = 10 ∨ j = 11 ∨ j = 12 ∨ j = 13 ∨ j = 14 ∨ j = 15 ∨ j = 16 ∨ j = 17 ∨ j = 18 ∨ j = 19 ∨ j = 20 ∨ j = 21 ∨ j = 22 ∨ j = 23 ∨ j = 24 ∨ j = 25 by omega) with h | h | h | h | h | h | h | h | h | h | h | h | h | h | h | h | h | h | h | h | h | h | h | h | h | h <;> subst h <;> rfl
theorem nrX7 : ∀ x : gAV, some x ∈ ([some (.inl (nI (0))), some (.inl (nI (0))), some (.inl (nI (0))), none, none, some (.inl (nI (0))), some (.inl (nI (0))), some (.inl (nI (0))), some (.inl (nI (0))), none, none, none, none, none, none, none, none, none, none, none, none, none, none, none, none, none] : List (Option gAV)) → ∃ i, x = .inl i := fun x hx => by
  simp at hx
  exact ⟨_, hx⟩
def mFin (R A n : Nat) (κ : kW) : Prop := n = 23 ∧ κ 0 = .inr (6, [some (.inl (nI (0))), some (.inl (nI (R))), some (.inl (nI (A))), some (.inr (1)), some (.inr (2)), some (.inl (nI (0))), some (.inl (nI (0))), some (.inl (nI (0))), some (.inl (nI (0))), some (.inr (3)), some (.inr (4)), some (.inr (5)), some (.inr (6)), some (.inr (7)), some (.inr (8)), some (.inr (9)), some (.inr (10)), some (.inr (11)), some (.inr (12)), some (.inr (13)), some (.inr (14)), some (.inr (15)), some (.inr (16)), some (.inr (17)), some (.inr (18)), some (.inr (19))]) ∧ (∀ s, s < 3 → ∃ f, κ (20 + s) = .inl (1, 6, .inl f) ∧ ∀ p, p < 6 → f p = nI 1) ∧ κ 4 = .inl (5, 3, .inr (gUp 20 21 22)) ∧ (∃ f, κ 6 = .inl (0, 30, .inl f) ∧ ∀ p, p < 30 → f p = -1) ∧ (∃ f, κ 17 = .inl (0, 90, .inl f) ∧ ∀ p, p < 90 → f p = -1) ∧ ∀ k, 1 ≤ k ∧ k < 20 ∧ k ≠ 4 ∧ k ≠ 6 ∧ k ≠ 17 → κ k = .inl (0, mLen k, .inl (fun _ => 0))
def mUp (κ : kW) (j : Nat) : Prop := ∀ s, s < j → ∃ f, κ (20 + s) = .inl (1, 6, .inl f) ∧ ∀ p, p < 6 → f p = nI 1
theorem mUp_up {κ : kW} {j a : Nat} {x : kC} (h : mUp κ j) (ha : a < 20 ∨ 20 + j ≤ a) : mUp (va_up κ a x) j := fun s hs => by
  obtain ⟨f, h1, h2⟩ := h s hs
  exact ⟨f, by rw [va_up_ne _ _ (by omega)]; exact h1, h2⟩
set_option maxRecDepth 100000 in
theorem k_X7_255 {R A : Nat} {x y : Int32} {z : Option gAV} {f6 : Nat → Int32} (hf6 : ∀ p, p < 30 → f6 p = -1) : ∀ (k i : Nat), i ≤ 90 → 90 - i < k → ∀ (κ : kW) (f : Nat → Int32), κ (0) = .inr (6, [some (.inl (nI (0))), some (.inl (nI (R))), some (.inl (nI (A))), some (.inr (1)), some (.inr (2)), some (.inl (nI (0))), some (.inl (nI (0))), some (.inl (nI (0))), some (.inl (nI (0))), some (.inr (3)), some (.inr (4)), some (.inr (5)), some (.inr (6)), some (.inr (7)), some (.inr (8)), some (.inr (9)), some (.inr (10)), some (.inr (11)), some (.inr (12)), some (.inr (13)), some (.inr (14)), some (.inr (15)), some (.inr (16)), some (.inr (17)), some (.inr (18)), some (.inr (19))]) → κ (4) = .inl (5, 3, .inr (gUp 20 21 22)) → κ (6) = .inl (0, 30, .inl f6) → κ (17) = .inl (0, 90, .inl f) → (∀ k, 1 ≤ k ∧ k < 20 ∧ k ≠ 4 ∧ k ≠ 6 ∧ k ≠ 17 → κ (k) = .inl (0, mLen k, .inl (fun _ => 0))) → mUp κ 3 → (∀ p, p < i → f p = -1) → kEx mI mX7_init 0 0 255 [some (.inr 0), some (.inl x), some (.inl y), some (.inl (nI (i))), z] [] 23 κ 1 (mFin R A) := by
  intro k
  induction k with
  | zero => intro i hi1 hi2; exact absurd hi2 (by omega)
  | succ k ih =>
    intro i hi1 hi2 κ f h0 h4 h6 h17 hZ hup hf
    refine k_iload_n dX7_init_255 rfl ?_
    refine k_aload_n dX7_init_256 rfl ?_
    refine k_get (T := TX7) (N := 26) (Cn := RX7) (ref := "CommitCouncilModel") 23 dX7_init_257 (mM_lo (by decide) (by decide)) h0 rfl (fun w h => List.mem_cons_of_mem _ (hU7 w h)) (by decide) (List.mem_cons_of_mem _ uw_3_146) (Or.inl rfl) rfl ?_
    refine k_alen (nI (90)) dX7_init_260 (mM_lo (by decide) (by decide)) h17 (by decide) rfl ?_
    refine k_icmp_ge 277 dX7_init_261 (by decide) (fun h261 => ?_) (fun h261 => ?_)
    · skip
      rw [nI_leI (by omega) (by omega)] at h261
      have e9 : i = 90 := by omega
      subst e9
      refine k_vret dX7_init_277 rfl ?_
      exact ⟨rfl, h0, hup, h4, ⟨_, h6, hf6⟩, ⟨_, h17, hf⟩, hZ⟩
    · skip
      rw [nI_leI (by omega) (by omega)] at h261
      refine k_aload_n dX7_init_264 rfl ?_
      refine k_get (T := TX7) (N := 26) (Cn := RX7) (ref := "CommitCouncilModel") 23 dX7_init_265 (mM_lo (by decide) (by decide)) h0 rfl (fun w h => List.mem_cons_of_mem _ (hU7 w h)) (by decide) (List.mem_cons_of_mem _ uw_3_146) (Or.inl rfl) rfl ?_
      refine k_iload_n dX7_init_268 rfl ?_
      refine k_iconst ((-1)) dX7_init_269 (by decide) ?_
      refine k_iast dX7_init_270 (mM_lo (by decide) (by decide)) h17 (vp_inN (by omega) (by omega)) ?_
      generalize e1 : va_up κ (17) _ = κ1
      have h0 : κ1 (0) = .inr (6, [some (.inl (nI (0))), some (.inl (nI (R))), some (.inl (nI (A))), some (.inr (1)), some (.inr (2)), some (.inl (nI (0))), some (.inl (nI (0))), some (.inl (nI (0))), some (.inl (nI (0))), some (.inr (3)), some (.inr (4)), some (.inr (5)), some (.inr (6)), some (.inr (7)), some (.inr (8)), some (.inr (9)), some (.inr (10)), some (.inr (11)), some (.inr (12)), some (.inr (13)), some (.inr (14)), some (.inr (15)), some (.inr (16)), some (.inr (17)), some (.inr (18)), some (.inr (19))]) := by rw [← e1, va_up_ne _ _ (by omega)]; exact h0
      have h4 : κ1 (4) = .inl (5, 3, .inr (gUp 20 21 22)) := by rw [← e1, va_up_ne _ _ (by omega)]; exact h4
      have h6 : κ1 (6) = .inl (0, 30, .inl f6) := by rw [← e1, va_up_ne _ _ (by omega)]; exact h6
      have hZ : ∀ k, 1 ≤ k ∧ k < 20 ∧ k ≠ 4 ∧ k ≠ 6 ∧ k ≠ 17 → κ1 (k) = .inl (0, mLen k, .inl (fun _ => 0)) := fun k hc9 => by rw [← e1, va_up_ne _ _ (by omega)]; exact hZ k hc9
      have h17 : κ1 (17) = .inl (0, 90, .inl (upd f ((nI (i)).toNatClampNeg) ((-1)))) := by rw [← e1]; exact va_up_self _ _ _
      have hup : mUp κ1 (3) := by rw [← e1]; exact mUp_up hup (by omega)
      refine k_iinc (nI (i + 1)) dX7_init_271 rfl (show nI (i) + nI 1 = _ from nI_add _ _) (by decide) ?_
      refine k_goto 255 dX7_init_274 (by decide) ?_
      exact ih (i + 1) (by omega) (by omega) _ _ h0 h4 h6 h17 hZ hup (fun p hp => by
      by_cases q : p = i
      · subst q
        rw [nI_clamp (by omega)]
        exact if_pos rfl
      · rw [nI_clamp (by omega)]
        exact (if_neg q).trans (hf p (by omega)))
set_option maxRecDepth 100000 in
theorem k_X7_231 {R A : Nat} {x y : Int32} {z : Option gAV} : ∀ (k i : Nat), i ≤ 30 → 30 - i < k → ∀ (κ : kW) (f : Nat → Int32), κ (0) = .inr (6, [some (.inl (nI (0))), some (.inl (nI (R))), some (.inl (nI (A))), some (.inr (1)), some (.inr (2)), some (.inl (nI (0))), some (.inl (nI (0))), some (.inl (nI (0))), some (.inl (nI (0))), some (.inr (3)), some (.inr (4)), some (.inr (5)), some (.inr (6)), some (.inr (7)), some (.inr (8)), some (.inr (9)), some (.inr (10)), some (.inr (11)), some (.inr (12)), some (.inr (13)), some (.inr (14)), some (.inr (15)), some (.inr (16)), some (.inr (17)), some (.inr (18)), some (.inr (19))]) → κ (4) = .inl (5, 3, .inr (gUp 20 21 22)) → κ (6) = .inl (0, 30, .inl f) → (∀ k, 1 ≤ k ∧ k < 20 ∧ k ≠ 4 ∧ k ≠ 6 → κ (k) = .inl (0, mLen k, .inl (fun _ => 0))) → mUp κ 3 → (∀ p, p < i → f p = -1) → kEx mI mX7_init 0 0 231 [some (.inr 0), some (.inl x), some (.inl y), some (.inl (nI (i))), z] [] 23 κ 1 (mFin R A) := by
  intro k
  induction k with
  | zero => intro i hi1 hi2; exact absurd hi2 (by omega)
  | succ k ih =>
    intro i hi1 hi2 κ f h0 h4 h6 hZ hup hf
    refine k_iload_n dX7_init_231 rfl ?_
    refine k_aload_n dX7_init_232 rfl ?_
    refine k_get (T := TX7) (N := 26) (Cn := RX7) (ref := "CommitCouncilModel") 12 dX7_init_233 (mM_lo (by decide) (by decide)) h0 rfl (fun w h => List.mem_cons_of_mem _ (hU7 w h)) (by decide) (List.mem_cons_of_mem _ uw_3_135) (Or.inl rfl) rfl ?_
    refine k_alen (nI (30)) dX7_init_236 (mM_lo (by decide) (by decide)) h6 (by decide) rfl ?_
    refine k_icmp_ge 253 dX7_init_237 (by decide) (fun h237 => ?_) (fun h237 => ?_)
    · skip
      rw [nI_leI (by omega) (by omega)] at h237
      have e9 : i = 30 := by omega
      subst e9
      refine k_iconst (nI (0)) dX7_init_253 (by decide) ?_
      refine k_istore_n dX7_init_254 (by decide) ?_
      exact k_X7_255 hf 91 0 (by omega) (by omega) κ _ h0 h4 h6 (hZ 17 (by omega)) (fun k hk => hZ k (by omega)) hup (fun p hp => absurd hp (by omega))
    · skip
      rw [nI_leI (by omega) (by omega)] at h237
      refine k_aload_n dX7_init_240 rfl ?_
      refine k_get (T := TX7) (N := 26) (Cn := RX7) (ref := "CommitCouncilModel") 12 dX7_init_241 (mM_lo (by decide) (by decide)) h0 rfl (fun w h => List.mem_cons_of_mem _ (hU7 w h)) (by decide) (List.mem_cons_of_mem _ uw_3_135) (Or.inl rfl) rfl ?_
      refine k_iload_n dX7_init_244 rfl ?_
      refine k_iconst ((-1)) dX7_init_245 (by decide) ?_
      refine k_iast dX7_init_246 (mM_lo (by decide) (by decide)) h6 (vp_inN (by omega) (by omega)) ?_
      generalize e1 : va_up κ (6) _ = κ1
      have h0 : κ1 (0) = .inr (6, [some (.inl (nI (0))), some (.inl (nI (R))), some (.inl (nI (A))), some (.inr (1)), some (.inr (2)), some (.inl (nI (0))), some (.inl (nI (0))), some (.inl (nI (0))), some (.inl (nI (0))), some (.inr (3)), some (.inr (4)), some (.inr (5)), some (.inr (6)), some (.inr (7)), some (.inr (8)), some (.inr (9)), some (.inr (10)), some (.inr (11)), some (.inr (12)), some (.inr (13)), some (.inr (14)), some (.inr (15)), some (.inr (16)), some (.inr (17)), some (.inr (18)), some (.inr (19))]) := by rw [← e1, va_up_ne _ _ (by omega)]; exact h0
      have h4 : κ1 (4) = .inl (5, 3, .inr (gUp 20 21 22)) := by rw [← e1, va_up_ne _ _ (by omega)]; exact h4
      have hZ : ∀ k, 1 ≤ k ∧ k < 20 ∧ k ≠ 4 ∧ k ≠ 6 → κ1 (k) = .inl (0, mLen k, .inl (fun _ => 0)) := fun k hc9 => by rw [← e1, va_up_ne _ _ (by omega)]; exact hZ k hc9
      have h6 : κ1 (6) = .inl (0, 30, .inl (upd f ((nI (i)).toNatClampNeg) ((-1)))) := by rw [← e1]; exact va_up_self _ _ _
      have hup : mUp κ1 (3) := by rw [← e1]; exact mUp_up hup (by omega)
      refine k_iinc (nI (i + 1)) dX7_init_247 rfl (show nI (i) + nI 1 = _ from nI_add _ _) (by decide) ?_
      refine k_goto 231 dX7_init_250 (by decide) ?_
      exact ih (i + 1) (by omega) (by omega) _ _ h0 h4 h6 hZ hup (fun p hp => by
      by_cases q : p = i
      · subst q
        rw [nI_clamp (by omega)]
        exact if_pos rfl
      · rw [nI_clamp (by omega)]
        exact (if_neg q).trans (hf p (by omega)))
theorem gUp_at {i : Nat} (h : i < 3) : gUp 20 21 22 i = some (20 + i) := by
  rcases (show i = 0 ∨ i = 1 ∨ i = 2 by omega) with h | h | h <;> subst h <;> rfl
set_option maxRecDepth 100000 in
theorem k_X7_200 {R A : Nat} {x y : Int32} {i : Nat} (hi : i < 3) : ∀ (k j : Nat), j ≤ 6 → 6 - j < k → ∀ (κ : kW) (f : Nat → Int32), κ (0) = .inr (6, [some (.inl (nI (0))), some (.inl (nI (R))), some (.inl (nI (A))), some (.inr (1)), some (.inr (2)), some (.inl (nI (0))), some (.inl (nI (0))), some (.inl (nI (0))), some (.inl (nI (0))), some (.inr (3)), some (.inr (4)), some (.inr (5)), some (.inr (6)), some (.inr (7)), some (.inr (8)), some (.inr (9)), some (.inr (10)), some (.inr (11)), some (.inr (12)), some (.inr (13)), some (.inr (14)), some (.inr (15)), some (.inr (16)), some (.inr (17)), some (.inr (18)), some (.inr (19))]) → κ (4) = .inl (5, 3, .inr (gUp 20 21 22)) → (∀ k, 1 ≤ k ∧ k < 20 ∧ k ≠ 4 → κ (k) = .inl (0, mLen k, .inl (fun _ => 0))) → (∀ s, i < s ∧ s < 3 → κ (20 + s) = .inl (1, 6, .inl (fun _ => 0))) → κ (20 + i) = .inl (1, 6, .inl f) → mUp κ i → (∀ p, p < j → f p = nI 1) → (∀ (κ : kW) (f : Nat → Int32), κ (0) = .inr (6, [some (.inl (nI (0))), some (.inl (nI (R))), some (.inl (nI (A))), some (.inr (1)), some (.inr (2)), some (.inl (nI (0))), some (.inl (nI (0))), some (.inl (nI (0))), some (.inl (nI (0))), some (.inr (3)), some (.inr (4)), some (.inr (5)), some (.inr (6)), some (.inr (7)), some (.inr (8)), some (.inr (9)), some (.inr (10)), some (.inr (11)), some (.inr (12)), some (.inr (13)), some (.inr (14)), some (.inr (15)), some (.inr (16)), some (.inr (17)), some (.inr (18)), some (.inr (19))]) → κ (4) = .inl (5, 3, .inr (gUp 20 21 22)) → (∀ k, 1 ≤ k ∧ k < 20 ∧ k ≠ 4 → κ (k) = .inl (0, mLen k, .inl (fun _ => 0))) → (∀ s, i < s ∧ s < 3 → κ (20 + s) = .inl (1, 6, .inl (fun _ => 0))) → κ (20 + i) = .inl (1, 6, .inl f) → mUp κ i → (∀ p, p < 6 → f p = nI 1) → kEx mI mX7_init 0 0 223 [some (.inr 0), some (.inl x), some (.inl y), some (.inl (nI (i))), some (.inl (nI (6)))] [] 23 κ 1 (mFin R A)) → kEx mI mX7_init 0 0 200 [some (.inr 0), some (.inl x), some (.inl y), some (.inl (nI (i))), some (.inl (nI (j)))] [] 23 κ 1 (mFin R A) := by
  intro k
  induction k with
  | zero => intro j hj1 hj2; exact absurd hj2 (by omega)
  | succ k ih =>
    intro j hj1 hj2 κ f h0 h4 hZ hr hc hup hf hout
    refine k_iload dX7_init_200 rfl ?_
    refine k_bipush (nI (6)) dX7_init_202 (by decide) ?_
    refine k_icmp_ge 223 dX7_init_204 (by decide) (fun h204 => ?_) (fun h204 => ?_)
    · skip
      rw [nI_leI (by omega) (by omega)] at h204
      have e9 : j = 6 := by omega
      subst e9
      exact hout κ f h0 h4 hZ hr hc hup hf
    · skip
      rw [nI_leI (by omega) (by omega)] at h204
      refine k_aload_n dX7_init_207 rfl ?_
      refine k_get (T := TX7) (N := 26) (Cn := RX7) (ref := "CommitCouncilModel") 10 dX7_init_208 (mM_lo (by decide) (by decide)) h0 rfl (fun w h => List.mem_cons_of_mem _ (hU7 w h)) (by decide) (List.mem_cons_of_mem _ uw_3_133) (Or.inl rfl) rfl ?_
      refine k_iload_n dX7_init_211 rfl ?_
      refine k_aald5 (t := 20 + i) dX7_init_212 (mM_lo (by decide) (by decide)) h4 (vp_inN (by omega) (by omega)) (by rw [nI_clamp (by omega)]; exact gUp_at hi) ?_
      refine k_iload dX7_init_213 rfl ?_
      refine k_iconst (nI (1)) dX7_init_215 (by decide) ?_
      refine k_zast dX7_init_216 (mM_u (by omega) (by omega)) hc (vp_inN (by omega) (by omega)) ?_
      generalize e1 : va_up κ (20 + i) _ = κ1
      have h0 : κ1 (0) = .inr (6, [some (.inl (nI (0))), some (.inl (nI (R))), some (.inl (nI (A))), some (.inr (1)), some (.inr (2)), some (.inl (nI (0))), some (.inl (nI (0))), some (.inl (nI (0))), some (.inl (nI (0))), some (.inr (3)), some (.inr (4)), some (.inr (5)), some (.inr (6)), some (.inr (7)), some (.inr (8)), some (.inr (9)), some (.inr (10)), some (.inr (11)), some (.inr (12)), some (.inr (13)), some (.inr (14)), some (.inr (15)), some (.inr (16)), some (.inr (17)), some (.inr (18)), some (.inr (19))]) := by rw [← e1, va_up_ne _ _ (by omega)]; exact h0
      have h4 : κ1 (4) = .inl (5, 3, .inr (gUp 20 21 22)) := by rw [← e1, va_up_ne _ _ (by omega)]; exact h4
      have hZ : ∀ k, 1 ≤ k ∧ k < 20 ∧ k ≠ 4 → κ1 (k) = .inl (0, mLen k, .inl (fun _ => 0)) := fun k hc9 => by rw [← e1, va_up_ne _ _ (by omega)]; exact hZ k hc9
      have hr : ∀ s, i < s ∧ s < 3 → κ1 (20 + s) = .inl (1, 6, .inl (fun _ => 0)) := fun s hc9 => by rw [← e1, va_up_ne _ _ (by omega)]; exact hr s hc9
      have hc : κ1 (20 + i) = .inl (1, 6, .inl (upd f ((nI (j)).toNatClampNeg) (vp_nar .boolean (nI (1))))) := by rw [← e1]; exact va_up_self _ _ _
      have hup : mUp κ1 (i) := by rw [← e1]; exact mUp_up hup (by omega)
      refine k_iinc (nI (j + 1)) dX7_init_217 rfl (show nI (j) + nI 1 = _ from nI_add _ _) (by decide) ?_
      refine k_goto 200 dX7_init_220 (by decide) ?_
      exact ih (j + 1) (by omega) (by omega) _ _ h0 h4 hZ hr hc hup (fun p hp => by
      by_cases q : p = j
      · subst q
        rw [nI_clamp (by omega)]
        exact if_pos rfl
      · rw [nI_clamp (by omega)]
        exact (if_neg q).trans (hf p (by omega))) hout
set_option maxRecDepth 100000 in
theorem k_X7_192 {R A : Nat} {x y : Int32} : ∀ (k i : Nat), i ≤ 3 → 3 - i < k → ∀ (κ : kW) (z : Option gAV), κ (0) = .inr (6, [some (.inl (nI (0))), some (.inl (nI (R))), some (.inl (nI (A))), some (.inr (1)), some (.inr (2)), some (.inl (nI (0))), some (.inl (nI (0))), some (.inl (nI (0))), some (.inl (nI (0))), some (.inr (3)), some (.inr (4)), some (.inr (5)), some (.inr (6)), some (.inr (7)), some (.inr (8)), some (.inr (9)), some (.inr (10)), some (.inr (11)), some (.inr (12)), some (.inr (13)), some (.inr (14)), some (.inr (15)), some (.inr (16)), some (.inr (17)), some (.inr (18)), some (.inr (19))]) → κ (4) = .inl (5, 3, .inr (gUp 20 21 22)) → (∀ k, 1 ≤ k ∧ k < 20 ∧ k ≠ 4 → κ (k) = .inl (0, mLen k, .inl (fun _ => 0))) → (∀ s, i ≤ s ∧ s < 3 → κ (20 + s) = .inl (1, 6, .inl (fun _ => 0))) → mUp κ i → kEx mI mX7_init 0 0 192 [some (.inr 0), some (.inl x), some (.inl y), some (.inl (nI (i))), z] [] 23 κ 1 (mFin R A) := by
  intro k
  induction k with
  | zero => intro i hi1 hi2; exact absurd hi2 (by omega)
  | succ k ih =>
    intro i hi1 hi2 κ z h0 h4 hZ hr hup
    refine k_iload_n dX7_init_192 rfl ?_
    refine k_iconst (nI (3)) dX7_init_193 (by decide) ?_
    refine k_icmp_ge 229 dX7_init_194 (by decide) (fun h194 => ?_) (fun h194 => ?_)
    · skip
      rw [nI_leI (by omega) (by omega)] at h194
      have e9 : i = 3 := by omega
      subst e9
      refine k_iconst (nI (0)) dX7_init_229 (by decide) ?_
      refine k_istore_n dX7_init_230 (by decide) ?_
      exact k_X7_231 31 0 (by omega) (by omega) κ _ h0 h4 (hZ 6 (by omega)) (fun k hk => hZ k (by omega)) hup (fun p hp => absurd hp (by omega))
    · skip
      rw [nI_leI (by omega) (by omega)] at h194
      have hi : i < 3 := by omega
      refine k_iconst (nI (0)) dX7_init_197 (by decide) ?_
      refine k_istore dX7_init_198 (by decide) ?_
      refine k_X7_200 hi 7 0 (by omega) (by omega) κ _ h0 h4 hZ (fun s hs => hr s (by omega)) (hr i (by omega)) hup (fun p hp => absurd hp (by omega)) (fun κ f h0 h4 hZ hr hc hup hf => ?_)
      refine k_iinc (nI (i + 1)) dX7_init_223 rfl (show nI (i) + nI 1 = _ from nI_add _ _) (by decide) ?_
      refine k_goto 192 dX7_init_226 (by decide) ?_
      exact ih (i + 1) (by omega) (by omega) κ _ h0 h4 hZ (fun s hs => hr s (by omega)) (fun s hs => by
      by_cases q : s = i
      · subst q
        exact ⟨f, hc, hf⟩
      · exact hup s (by omega))
set_option maxRecDepth 100000 in
theorem k_X7_187 {R A : Nat} {x y : Int32} {κ : kW} (h0 : κ 0 = .inr (6, [some (.inl (nI (0))), some (.inl (nI (R))), some (.inl (nI (0))), some (.inr (1)), some (.inr (2)), some (.inl (nI (0))), some (.inl (nI (0))), some (.inl (nI (0))), some (.inl (nI (0))), some (.inr (3)), some (.inr (4)), some (.inr (5)), some (.inr (6)), some (.inr (7)), some (.inr (8)), some (.inr (9)), some (.inr (10)), some (.inr (11)), some (.inr (12)), some (.inr (13)), some (.inr (14)), some (.inr (15)), some (.inr (16)), some (.inr (17)), some (.inr (18)), some (.inr (19))])) (h4 : κ 4 = .inl (5, 3, .inr (gUp 20 21 22))) (hZ : ∀ k, 1 ≤ k ∧ k < 20 ∧ k ≠ 4 → κ k = .inl (0, mLen k, .inl (fun _ => 0))) (hr : ∀ s, s < 3 → κ (20 + s) = .inl (1, 6, .inl (fun _ => 0))) : kEx mI mX7_init 0 0 187 [some (.inr 0), some (.inl x), some (.inl y), none, none] [.inl (nI A), .inr 0] 23 κ 1 (mFin R A) := by
  refine k_putF (T := TX7) (N := 26) (Cn := RX7) (ref := "CommitCouncilModel") (ty0 := tyX7) 2 dX7_init_187 (mM_lo (by decide) (by decide)) h0 rfl (fun w h => List.mem_cons_of_mem _ (hU7 w h)) tyX7_ok nmX7 (by decide) (List.mem_cons_of_mem _ uw_3_125) (Or.inl rfl) (Nat.le_of_ble_eq_true rfl) rfl rfl rfl (fun _ => rfl) (fun _ => rfl) ?_
  generalize e1 : va_up κ (0) _ = κ1
  have h4 : κ1 (4) = .inl (5, 3, .inr (gUp 20 21 22)) := by rw [← e1, va_up_ne _ _ (by omega)]; exact h4
  have hZ : ∀ k, 1 ≤ k ∧ k < 20 ∧ k ≠ 4 → κ1 (k) = .inl (0, mLen k, .inl (fun _ => 0)) := fun k hc9 => by rw [← e1, va_up_ne _ _ (by omega)]; exact hZ k hc9
  have hr : ∀ s, s < 3 → κ1 (20 + s) = .inl (1, 6, .inl (fun _ => 0)) := fun s hc9 => by rw [← e1, va_up_ne _ _ (by omega)]; exact hr s hc9
  have h0 : κ1 (0) = .inr (6, [some (.inl (nI (0))), some (.inl (nI (R))), some (.inl (nI (A))), some (.inr (1)), some (.inr (2)), some (.inl (nI (0))), some (.inl (nI (0))), some (.inl (nI (0))), some (.inl (nI (0))), some (.inr (3)), some (.inr (4)), some (.inr (5)), some (.inr (6)), some (.inr (7)), some (.inr (8)), some (.inr (9)), some (.inr (10)), some (.inr (11)), some (.inr (12)), some (.inr (13)), some (.inr (14)), some (.inr (15)), some (.inr (16)), some (.inr (17)), some (.inr (18)), some (.inr (19))]) := by rw [← e1]; exact va_up_self _ _ _
  refine k_iconst (nI (0)) dX7_init_190 (by decide) ?_
  refine k_istore_n dX7_init_191 (by decide) ?_
  exact k_X7_192 4 0 (by omega) (by omega) _ _ h0 h4 hZ (fun s hs => hr s (by omega)) (fun s hs => absurd hs (by omega))
set_option maxRecDepth 100000 in
theorem k_X7_173 {R A : Nat} {x y : Int32} (hy : (y = nI 2 → A = 5) ∧ (¬ y = nI 2 → A = 3)) {κ : kW} (h0 : κ 0 = .inr (6, [some (.inl (nI (0))), some (.inl (nI (0))), some (.inl (nI (0))), some (.inr (1)), some (.inr (2)), some (.inl (nI (0))), some (.inl (nI (0))), some (.inl (nI (0))), some (.inl (nI (0))), some (.inr (3)), some (.inr (4)), some (.inr (5)), some (.inr (6)), some (.inr (7)), some (.inr (8)), some (.inr (9)), some (.inr (10)), some (.inr (11)), some (.inr (12)), some (.inr (13)), some (.inr (14)), some (.inr (15)), some (.inr (16)), some (.inr (17)), some (.inr (18)), some (.inr (19))])) (h4 : κ 4 = .inl (5, 3, .inr (gUp 20 21 22))) (hZ : ∀ k, 1 ≤ k ∧ k < 20 ∧ k ≠ 4 → κ k = .inl (0, mLen k, .inl (fun _ => 0))) (hr : ∀ s, s < 3 → κ (20 + s) = .inl (1, 6, .inl (fun _ => 0))) : kEx mI mX7_init 0 0 173 [some (.inr 0), some (.inl x), some (.inl y), none, none] [.inl (nI R), .inr 0] 23 κ 1 (mFin R A) := by
  refine k_putF (T := TX7) (N := 26) (Cn := RX7) (ref := "CommitCouncilModel") (ty0 := tyX7) 1 dX7_init_173 (mM_lo (by decide) (by decide)) h0 rfl (fun w h => List.mem_cons_of_mem _ (hU7 w h)) tyX7_ok nmX7 (by decide) (List.mem_cons_of_mem _ uw_3_124) (Or.inl rfl) (Nat.le_of_ble_eq_true rfl) rfl rfl rfl (fun _ => rfl) (fun _ => rfl) ?_
  generalize e1 : va_up κ (0) _ = κ1
  have h4 : κ1 (4) = .inl (5, 3, .inr (gUp 20 21 22)) := by rw [← e1, va_up_ne _ _ (by omega)]; exact h4
  have hZ : ∀ k, 1 ≤ k ∧ k < 20 ∧ k ≠ 4 → κ1 (k) = .inl (0, mLen k, .inl (fun _ => 0)) := fun k hc9 => by rw [← e1, va_up_ne _ _ (by omega)]; exact hZ k hc9
  have hr : ∀ s, s < 3 → κ1 (20 + s) = .inl (1, 6, .inl (fun _ => 0)) := fun s hc9 => by rw [← e1, va_up_ne _ _ (by omega)]; exact hr s hc9
  have h0 : κ1 (0) = .inr (6, [some (.inl (nI (0))), some (.inl (nI (R))), some (.inl (nI (0))), some (.inr (1)), some (.inr (2)), some (.inl (nI (0))), some (.inl (nI (0))), some (.inl (nI (0))), some (.inl (nI (0))), some (.inr (3)), some (.inr (4)), some (.inr (5)), some (.inr (6)), some (.inr (7)), some (.inr (8)), some (.inr (9)), some (.inr (10)), some (.inr (11)), some (.inr (12)), some (.inr (13)), some (.inr (14)), some (.inr (15)), some (.inr (16)), some (.inr (17)), some (.inr (18)), some (.inr (19))]) := by rw [← e1]; exact va_up_self _ _ _
  refine k_aload_n dX7_init_176 rfl ?_
  refine k_iload_n dX7_init_177 rfl ?_
  refine k_iconst (nI (2)) dX7_init_178 (by decide) ?_
  refine k_icmp_ne 186 dX7_init_179 (by decide) (fun h179 => ?_) (fun h179 => ?_)
  · skip
    refine k_iconst (nI (3)) dX7_init_186 (by decide) ?_
    have eA : A = 3 := hy.2 h179
    subst eA
    exact k_X7_187 h0 h4 hZ hr
  · skip
    refine k_iconst (nI (5)) dX7_init_182 (by decide) ?_
    refine k_goto 187 dX7_init_183 (by decide) ?_
    have eA : A = 5 := hy.1 (Decidable.of_not_not h179)
    subst eA
    exact k_X7_187 h0 h4 hZ hr
set_option maxRecDepth 100000 in
theorem k_X7_156 {R A : Nat} {x y : Int32} (hx : ((¬ x < nI 1) ∧ (¬ nI 6 < x) → x = nI R) ∧ (x < nI 1 ∨ nI 6 < x → R = 3)) (hy : (y = nI 2 → A = 5) ∧ (¬ y = nI 2 → A = 3)) {κ : kW} (h0 : κ 0 = .inr (6, [some (.inl (nI (0))), some (.inl (nI (0))), some (.inl (nI (0))), some (.inr (1)), some (.inr (2)), some (.inl (nI (0))), some (.inl (nI (0))), some (.inl (nI (0))), some (.inl (nI (0))), some (.inr (3)), some (.inr (4)), some (.inr (5)), some (.inr (6)), some (.inr (7)), some (.inr (8)), some (.inr (9)), some (.inr (10)), some (.inr (11)), some (.inr (12)), some (.inr (13)), some (.inr (14)), some (.inr (15)), some (.inr (16)), some (.inr (17)), some (.inr (18)), some (.inr (19))])) (h4 : κ 4 = .inl (5, 3, .inr (gUp 20 21 22))) (hZ : ∀ k, 1 ≤ k ∧ k < 20 ∧ k ≠ 4 → κ k = .inl (0, mLen k, .inl (fun _ => 0))) (hr : ∀ s, s < 3 → κ (20 + s) = .inl (1, 6, .inl (fun _ => 0))) : kEx mI mX7_init 0 0 156 [some (.inr 0), some (.inl x), some (.inl y), none, none] [] 23 κ 1 (mFin R A) := by
  refine k_aload_n dX7_init_156 rfl ?_
  refine k_iload_n dX7_init_157 rfl ?_
  refine k_iconst (nI (1)) dX7_init_158 (by decide) ?_
  refine k_icmp_lt 168 dX7_init_159 (by decide) (fun h159 => ?_) (fun h159 => ?_)
  · skip
    refine k_iconst (nI (3)) dX7_init_168 (by decide) ?_
    refine k_goto 173 dX7_init_169 (by decide) ?_
    have eR : R = 3 := hx.2 (Or.inl h159)
    subst eR
    exact k_X7_173 hy h0 h4 hZ hr
  · skip
    refine k_iload_n dX7_init_162 rfl ?_
    refine k_bipush (nI (6)) dX7_init_163 (by decide) ?_
    refine k_icmp_le 172 dX7_init_165 (by decide) (fun h165 => ?_) (fun h165 => ?_)
    · skip
      refine k_iload_n dX7_init_172 rfl ?_
      refine kEx.top (v := .inl (nI R)) (congrArg Sum.inl (hx.1 ⟨h159, fun q => Int32.lt_irrefl (Int32.lt_of_lt_of_le q h165)⟩)) ?_
      exact k_X7_173 hy h0 h4 hZ hr
    · skip
      refine k_iconst (nI (3)) dX7_init_168 (by decide) ?_
      refine k_goto 173 dX7_init_169 (by decide) ?_
      have eR : R = 3 := hx.2 (Or.inr (Int32.not_le.mp h165))
      subst eR
      exact k_X7_173 hy h0 h4 hZ hr
set_option maxRecDepth 100000 in
theorem k_X7 {R A : Nat} {x y : Int32} (hx : ((¬ x < nI 1) ∧ (¬ nI 6 < x) → x = nI R) ∧ (x < nI 1 ∨ nI 6 < x → R = 3)) (hy : (y = nI 2 → A = 5) ∧ (¬ y = nI 2 → A = 3)) {κ : kW} (h0 : κ 0 = .inr (6, [some (.inl (nI (0))), some (.inl (nI (0))), some (.inl (nI (0))), none, none, some (.inl (nI (0))), some (.inl (nI (0))), some (.inl (nI (0))), some (.inl (nI (0))), none, none, none, none, none, none, none, none, none, none, none, none, none, none, none, none, none])) : kEM mI mX7_init 22 26903 [.inr 0, .inl x, .inl y] 1 κ (mFin R A) := by
  refine kEM_of mI_ok (fun k hk => ?_) (fun v hv => ?_) (by decide +kernel) rfl (Nat.le_of_ble_eq_true rfl) ?_
  · have e : k = 0 := mI_ok.2 k 0 hk.1 (mIn (by decide)) (by have := hk.2; show mI.2 k = 0; omega)
    rw [e, h0]
    intro v hv
    obtain ⟨i, e9⟩ := nrX7 v hv
    rw [e9]
    exact ok_i _
  · rcases List.mem_cons.mp hv with h | h
    · rw [h]
      intro k e
      cases e
      exact ⟨mIn (by decide), by decide⟩
    · simp at h
      rcases h with h | h
      · rw [h]
        exact ok_i _
      · rw [h]
        exact ok_i _
  have hZ : ∀ k, 1 ≤ k ∧ k < 0 + 1 ∧ k ≠ 4 → κ (k) = .inl (0, mLen k, .inl (fun _ => 0)) := fun k hk => absurd hk (by omega)
  refine k_aload_n dX7_init_0 rfl ?_
  refine k_objInit dX7_init_1 (List.mem_cons_of_mem _ uw_3_120) (List.mem_cons_of_mem _ uw_1_24) (List.mem_cons_of_mem _ uw_1_25) ⟨by decide, by decide⟩ ?_
  refine k_aload_n dX7_init_4 rfl ?_
  refine k_sipush (nI (7200)) dX7_init_5 (by decide) ?_
  refine k_newi (k := 1) (N := 7200) (bc' := 21) (bs' := 19703) dX7_init_8 (List.mem_cons_of_mem _ uw_1_71) (mIn (by decide)) rfl rfl (by omega) (by omega) (by omega) ?_
  generalize e1 : va_up κ (1) _ = κ1
  have h0 : κ1 (0) = .inr (6, [some (.inl (nI (0))), some (.inl (nI (0))), some (.inl (nI (0))), none, none, some (.inl (nI (0))), some (.inl (nI (0))), some (.inl (nI (0))), some (.inl (nI (0))), none, none, none, none, none, none, none, none, none, none, none, none, none, none, none, none, none]) := by rw [← e1, va_up_ne _ _ (by omega)]; exact h0
  have hZ : ∀ k, 1 ≤ k ∧ k < 0 + 1 ∧ k ≠ 4 → κ1 (k) = .inl (0, mLen k, .inl (fun _ => 0)) := fun k hc9 => by rw [← e1, va_up_ne _ _ (by omega)]; exact hZ k hc9
  have hnew : κ1 (1) = .inl (0, 7200, .inl (fun _ => 0)) := by rw [← e1]; exact va_up_self _ _ _
  have hZ : ∀ k, 1 ≤ k ∧ k < 1 + 1 ∧ k ≠ 4 → κ1 (k) = .inl (0, mLen k, .inl (fun _ => 0)) := fun k hk => by
    by_cases q : k = 1
    · subst q
      exact hnew
    · exact hZ k (by omega)
  refine k_putF (T := TX7) (N := 26) (Cn := RX7) (ref := "CommitCouncilModel") (ty0 := tyX7) 3 dX7_init_10 (mM_lo (by decide) (by decide)) h0 rfl (fun w h => List.mem_cons_of_mem _ (hU7 w h)) tyX7_ok nmX7 (by decide) (List.mem_cons_of_mem _ uw_3_126) (Or.inl rfl) (Nat.le_of_ble_eq_true rfl) rfl rfl rfl (fun _ => rfl) (fun _ => rfl) ?_
  generalize e2 : va_up κ1 (0) _ = κ2
  have hZ : ∀ k, 1 ≤ k ∧ k < 1 + 1 ∧ k ≠ 4 → κ2 (k) = .inl (0, mLen k, .inl (fun _ => 0)) := fun k hc9 => by rw [← e2, va_up_ne _ _ (by omega)]; exact hZ k hc9
  have h0 : κ2 (0) = .inr (6, [some (.inl (nI (0))), some (.inl (nI (0))), some (.inl (nI (0))), some (.inr (1)), none, some (.inl (nI (0))), some (.inl (nI (0))), some (.inl (nI (0))), some (.inl (nI (0))), none, none, none, none, none, none, none, none, none, none, none, none, none, none, none, none, none]) := by rw [← e2]; exact va_up_self _ _ _
  refine k_aload_n dX7_init_13 rfl ?_
  refine k_bipush (nI (18)) dX7_init_14 (by decide) ?_
  refine k_newi (k := 2) (N := 18) (bc' := 20) (bs' := 19685) dX7_init_16 (List.mem_cons_of_mem _ uw_1_71) (mIn (by decide)) rfl rfl (by omega) (by omega) (by omega) ?_
  generalize e3 : va_up κ2 (2) _ = κ3
  have hZ : ∀ k, 1 ≤ k ∧ k < 1 + 1 ∧ k ≠ 4 → κ3 (k) = .inl (0, mLen k, .inl (fun _ => 0)) := fun k hc9 => by rw [← e3, va_up_ne _ _ (by omega)]; exact hZ k hc9
  have h0 : κ3 (0) = .inr (6, [some (.inl (nI (0))), some (.inl (nI (0))), some (.inl (nI (0))), some (.inr (1)), none, some (.inl (nI (0))), some (.inl (nI (0))), some (.inl (nI (0))), some (.inl (nI (0))), none, none, none, none, none, none, none, none, none, none, none, none, none, none, none, none, none]) := by rw [← e3, va_up_ne _ _ (by omega)]; exact h0
  have hnew : κ3 (2) = .inl (0, 18, .inl (fun _ => 0)) := by rw [← e3]; exact va_up_self _ _ _
  have hZ : ∀ k, 1 ≤ k ∧ k < 2 + 1 ∧ k ≠ 4 → κ3 (k) = .inl (0, mLen k, .inl (fun _ => 0)) := fun k hk => by
    by_cases q : k = 2
    · subst q
      exact hnew
    · exact hZ k (by omega)
  refine k_putF (T := TX7) (N := 26) (Cn := RX7) (ref := "CommitCouncilModel") (ty0 := tyX7) 4 dX7_init_18 (mM_lo (by decide) (by decide)) h0 rfl (fun w h => List.mem_cons_of_mem _ (hU7 w h)) tyX7_ok nmX7 (by decide) (List.mem_cons_of_mem _ uw_3_127) (Or.inl rfl) (Nat.le_of_ble_eq_true rfl) rfl rfl rfl (fun _ => rfl) (fun _ => rfl) ?_
  generalize e4 : va_up κ3 (0) _ = κ4
  have hZ : ∀ k, 1 ≤ k ∧ k < 2 + 1 ∧ k ≠ 4 → κ4 (k) = .inl (0, mLen k, .inl (fun _ => 0)) := fun k hc9 => by rw [← e4, va_up_ne _ _ (by omega)]; exact hZ k hc9
  have h0 : κ4 (0) = .inr (6, [some (.inl (nI (0))), some (.inl (nI (0))), some (.inl (nI (0))), some (.inr (1)), some (.inr (2)), some (.inl (nI (0))), some (.inl (nI (0))), some (.inl (nI (0))), some (.inl (nI (0))), none, none, none, none, none, none, none, none, none, none, none, none, none, none, none, none, none]) := by rw [← e4]; exact va_up_self _ _ _
  refine k_aload_n dX7_init_21 rfl ?_
  refine k_bipush (nI (6)) dX7_init_22 (by decide) ?_
  refine k_newi (k := 3) (N := 6) (bc' := 19) (bs' := 19679) dX7_init_24 (List.mem_cons_of_mem _ uw_1_71) (mIn (by decide)) rfl rfl (by omega) (by omega) (by omega) ?_
  generalize e5 : va_up κ4 (3) _ = κ5
  have hZ : ∀ k, 1 ≤ k ∧ k < 2 + 1 ∧ k ≠ 4 → κ5 (k) = .inl (0, mLen k, .inl (fun _ => 0)) := fun k hc9 => by rw [← e5, va_up_ne _ _ (by omega)]; exact hZ k hc9
  have h0 : κ5 (0) = .inr (6, [some (.inl (nI (0))), some (.inl (nI (0))), some (.inl (nI (0))), some (.inr (1)), some (.inr (2)), some (.inl (nI (0))), some (.inl (nI (0))), some (.inl (nI (0))), some (.inl (nI (0))), none, none, none, none, none, none, none, none, none, none, none, none, none, none, none, none, none]) := by rw [← e5, va_up_ne _ _ (by omega)]; exact h0
  have hnew : κ5 (3) = .inl (0, 6, .inl (fun _ => 0)) := by rw [← e5]; exact va_up_self _ _ _
  have hZ : ∀ k, 1 ≤ k ∧ k < 3 + 1 ∧ k ≠ 4 → κ5 (k) = .inl (0, mLen k, .inl (fun _ => 0)) := fun k hk => by
    by_cases q : k = 3
    · subst q
      exact hnew
    · exact hZ k (by omega)
  refine k_putF (T := TX7) (N := 26) (Cn := RX7) (ref := "CommitCouncilModel") (ty0 := tyX7) 9 dX7_init_26 (mM_lo (by decide) (by decide)) h0 rfl (fun w h => List.mem_cons_of_mem _ (hU7 w h)) tyX7_ok nmX7 (by decide) (List.mem_cons_of_mem _ uw_3_132) (Or.inl rfl) (Nat.le_of_ble_eq_true rfl) rfl rfl rfl (fun _ => rfl) (fun _ => rfl) ?_
  generalize e6 : va_up κ5 (0) _ = κ6
  have hZ : ∀ k, 1 ≤ k ∧ k < 3 + 1 ∧ k ≠ 4 → κ6 (k) = .inl (0, mLen k, .inl (fun _ => 0)) := fun k hc9 => by rw [← e6, va_up_ne _ _ (by omega)]; exact hZ k hc9
  have h0 : κ6 (0) = .inr (6, [some (.inl (nI (0))), some (.inl (nI (0))), some (.inl (nI (0))), some (.inr (1)), some (.inr (2)), some (.inl (nI (0))), some (.inl (nI (0))), some (.inl (nI (0))), some (.inl (nI (0))), some (.inr (3)), none, none, none, none, none, none, none, none, none, none, none, none, none, none, none, none]) := by rw [← e6]; exact va_up_self _ _ _
  refine k_aload_n dX7_init_29 rfl ?_
  refine k_iconst (nI (3)) dX7_init_30 (by decide) ?_
  refine k_bipush (nI (6)) dX7_init_31 (by decide) ?_
  refine k_mna (k0 := 4) (k1 := 20) (k2 := 21) (k3 := 22) (bc' := 15) (bs' := 19658) dX7_init_33 (List.mem_cons_of_mem _ uw_3_121) (List.mem_cons_of_mem _ uw_1_157) (mIn (by decide)) rfl (mIn (by decide)) rfl (mIn (by decide)) rfl (mIn (by decide)) rfl (by omega) (by omega) ?_
  generalize e7 : va_up (va_up (va_up (va_up κ6 20 _) 21 _) 22 _) 4 _ = κ7
  have h0 : κ7 (0) = .inr (6, [some (.inl (nI (0))), some (.inl (nI (0))), some (.inl (nI (0))), some (.inr (1)), some (.inr (2)), some (.inl (nI (0))), some (.inl (nI (0))), some (.inl (nI (0))), some (.inl (nI (0))), some (.inr (3)), none, none, none, none, none, none, none, none, none, none, none, none, none, none, none, none]) := by rw [← e7, va_up_ne _ _ (by omega), va_up_ne _ _ (by omega), va_up_ne _ _ (by omega), va_up_ne _ _ (by omega)]; exact h0
  have hZ : ∀ k, 1 ≤ k ∧ k < 3 + 1 ∧ k ≠ 4 → κ7 (k) = .inl (0, mLen k, .inl (fun _ => 0)) := fun k hk => by rw [← e7, va_up_ne _ _ (by omega), va_up_ne _ _ (by omega), va_up_ne _ _ (by omega), va_up_ne _ _ (by omega)]; exact hZ k hk
  have h4 : κ7 (4) = .inl (5, 3, .inr (gUp 20 21 22)) := by rw [← e7]; exact va_up_self _ _ _
  have hr : ∀ s, s < 3 → κ7 (20 + s) = .inl (1, 6, .inl (fun _ => 0)) := fun s hs => by
    rw [← e7, va_up_ne _ _ (by omega)]
    rcases (show s = 0 ∨ s = 1 ∨ s = 2 by omega) with h | h | h <;> subst h <;> rfl
  refine k_putF (T := TX7) (N := 26) (Cn := RX7) (ref := "CommitCouncilModel") (ty0 := tyX7) 10 dX7_init_37 (mM_lo (by decide) (by decide)) h0 rfl (fun w h => List.mem_cons_of_mem _ (hU7 w h)) tyX7_ok nmX7 (by decide) (List.mem_cons_of_mem _ uw_3_133) (Or.inl rfl) (Nat.le_of_ble_eq_true rfl) rfl rfl rfl (fun _ => rfl) (fun _ => rfl) ?_
  generalize e8 : va_up κ7 (0) _ = κ8
  have hZ : ∀ k, 1 ≤ k ∧ k < 3 + 1 ∧ k ≠ 4 → κ8 (k) = .inl (0, mLen k, .inl (fun _ => 0)) := fun k hc9 => by rw [← e8, va_up_ne _ _ (by omega)]; exact hZ k hc9
  have h4 : κ8 (4) = .inl (5, 3, .inr (gUp 20 21 22)) := by rw [← e8, va_up_ne _ _ (by omega)]; exact h4
  have hr : ∀ s, s < 3 → κ8 (20 + s) = .inl (1, 6, .inl (fun _ => 0)) := fun s hc9 => by rw [← e8, va_up_ne _ _ (by omega)]; exact hr s hc9
  have h0 : κ8 (0) = .inr (6, [some (.inl (nI (0))), some (.inl (nI (0))), some (.inl (nI (0))), some (.inr (1)), some (.inr (2)), some (.inl (nI (0))), some (.inl (nI (0))), some (.inl (nI (0))), some (.inl (nI (0))), some (.inr (3)), some (.inr (4)), none, none, none, none, none, none, none, none, none, none, none, none, none, none, none]) := by rw [← e8]; exact va_up_self _ _ _
  refine k_aload_n dX7_init_40 rfl ?_
  refine k_iconst (nI (5)) dX7_init_41 (by decide) ?_
  refine k_newi (k := 5) (N := 5) (bc' := 14) (bs' := 19653) dX7_init_42 (List.mem_cons_of_mem _ uw_1_71) (mIn (by decide)) rfl rfl (by omega) (by omega) (by omega) ?_
  generalize e9 : va_up κ8 (5) _ = κ9
  have hZ : ∀ k, 1 ≤ k ∧ k < 3 + 1 ∧ k ≠ 4 → κ9 (k) = .inl (0, mLen k, .inl (fun _ => 0)) := fun k hc9 => by rw [← e9, va_up_ne _ _ (by omega)]; exact hZ k hc9
  have h4 : κ9 (4) = .inl (5, 3, .inr (gUp 20 21 22)) := by rw [← e9, va_up_ne _ _ (by omega)]; exact h4
  have hr : ∀ s, s < 3 → κ9 (20 + s) = .inl (1, 6, .inl (fun _ => 0)) := fun s hc9 => by rw [← e9, va_up_ne _ _ (by omega)]; exact hr s hc9
  have h0 : κ9 (0) = .inr (6, [some (.inl (nI (0))), some (.inl (nI (0))), some (.inl (nI (0))), some (.inr (1)), some (.inr (2)), some (.inl (nI (0))), some (.inl (nI (0))), some (.inl (nI (0))), some (.inl (nI (0))), some (.inr (3)), some (.inr (4)), none, none, none, none, none, none, none, none, none, none, none, none, none, none, none]) := by rw [← e9, va_up_ne _ _ (by omega)]; exact h0
  have hnew : κ9 (5) = .inl (0, 5, .inl (fun _ => 0)) := by rw [← e9]; exact va_up_self _ _ _
  have hZ : ∀ k, 1 ≤ k ∧ k < 5 + 1 ∧ k ≠ 4 → κ9 (k) = .inl (0, mLen k, .inl (fun _ => 0)) := fun k hk => by
    by_cases q : k = 5
    · subst q
      exact hnew
    · exact hZ k (by omega)
  refine k_putF (T := TX7) (N := 26) (Cn := RX7) (ref := "CommitCouncilModel") (ty0 := tyX7) 11 dX7_init_44 (mM_lo (by decide) (by decide)) h0 rfl (fun w h => List.mem_cons_of_mem _ (hU7 w h)) tyX7_ok nmX7 (by decide) (List.mem_cons_of_mem _ uw_3_134) (Or.inl rfl) (Nat.le_of_ble_eq_true rfl) rfl rfl rfl (fun _ => rfl) (fun _ => rfl) ?_
  generalize e10 : va_up κ9 (0) _ = κ10
  have h4 : κ10 (4) = .inl (5, 3, .inr (gUp 20 21 22)) := by rw [← e10, va_up_ne _ _ (by omega)]; exact h4
  have hr : ∀ s, s < 3 → κ10 (20 + s) = .inl (1, 6, .inl (fun _ => 0)) := fun s hc9 => by rw [← e10, va_up_ne _ _ (by omega)]; exact hr s hc9
  have hZ : ∀ k, 1 ≤ k ∧ k < 5 + 1 ∧ k ≠ 4 → κ10 (k) = .inl (0, mLen k, .inl (fun _ => 0)) := fun k hc9 => by rw [← e10, va_up_ne _ _ (by omega)]; exact hZ k hc9
  have h0 : κ10 (0) = .inr (6, [some (.inl (nI (0))), some (.inl (nI (0))), some (.inl (nI (0))), some (.inr (1)), some (.inr (2)), some (.inl (nI (0))), some (.inl (nI (0))), some (.inl (nI (0))), some (.inl (nI (0))), some (.inr (3)), some (.inr (4)), some (.inr (5)), none, none, none, none, none, none, none, none, none, none, none, none, none, none]) := by rw [← e10]; exact va_up_self _ _ _
  refine k_aload_n dX7_init_47 rfl ?_
  refine k_bipush (nI (30)) dX7_init_48 (by decide) ?_
  refine k_newi (k := 6) (N := 30) (bc' := 13) (bs' := 19623) dX7_init_50 (List.mem_cons_of_mem _ uw_1_71) (mIn (by decide)) rfl rfl (by omega) (by omega) (by omega) ?_
  generalize e11 : va_up κ10 (6) _ = κ11
  have h4 : κ11 (4) = .inl (5, 3, .inr (gUp 20 21 22)) := by rw [← e11, va_up_ne _ _ (by omega)]; exact h4
  have hr : ∀ s, s < 3 → κ11 (20 + s) = .inl (1, 6, .inl (fun _ => 0)) := fun s hc9 => by rw [← e11, va_up_ne _ _ (by omega)]; exact hr s hc9
  have hZ : ∀ k, 1 ≤ k ∧ k < 5 + 1 ∧ k ≠ 4 → κ11 (k) = .inl (0, mLen k, .inl (fun _ => 0)) := fun k hc9 => by rw [← e11, va_up_ne _ _ (by omega)]; exact hZ k hc9
  have h0 : κ11 (0) = .inr (6, [some (.inl (nI (0))), some (.inl (nI (0))), some (.inl (nI (0))), some (.inr (1)), some (.inr (2)), some (.inl (nI (0))), some (.inl (nI (0))), some (.inl (nI (0))), some (.inl (nI (0))), some (.inr (3)), some (.inr (4)), some (.inr (5)), none, none, none, none, none, none, none, none, none, none, none, none, none, none]) := by rw [← e11, va_up_ne _ _ (by omega)]; exact h0
  have hnew : κ11 (6) = .inl (0, 30, .inl (fun _ => 0)) := by rw [← e11]; exact va_up_self _ _ _
  have hZ : ∀ k, 1 ≤ k ∧ k < 6 + 1 ∧ k ≠ 4 → κ11 (k) = .inl (0, mLen k, .inl (fun _ => 0)) := fun k hk => by
    by_cases q : k = 6
    · subst q
      exact hnew
    · exact hZ k (by omega)
  refine k_putF (T := TX7) (N := 26) (Cn := RX7) (ref := "CommitCouncilModel") (ty0 := tyX7) 12 dX7_init_52 (mM_lo (by decide) (by decide)) h0 rfl (fun w h => List.mem_cons_of_mem _ (hU7 w h)) tyX7_ok nmX7 (by decide) (List.mem_cons_of_mem _ uw_3_135) (Or.inl rfl) (Nat.le_of_ble_eq_true rfl) rfl rfl rfl (fun _ => rfl) (fun _ => rfl) ?_
  generalize e12 : va_up κ11 (0) _ = κ12
  have h4 : κ12 (4) = .inl (5, 3, .inr (gUp 20 21 22)) := by rw [← e12, va_up_ne _ _ (by omega)]; exact h4
  have hr : ∀ s, s < 3 → κ12 (20 + s) = .inl (1, 6, .inl (fun _ => 0)) := fun s hc9 => by rw [← e12, va_up_ne _ _ (by omega)]; exact hr s hc9
  have hZ : ∀ k, 1 ≤ k ∧ k < 6 + 1 ∧ k ≠ 4 → κ12 (k) = .inl (0, mLen k, .inl (fun _ => 0)) := fun k hc9 => by rw [← e12, va_up_ne _ _ (by omega)]; exact hZ k hc9
  have h0 : κ12 (0) = .inr (6, [some (.inl (nI (0))), some (.inl (nI (0))), some (.inl (nI (0))), some (.inr (1)), some (.inr (2)), some (.inl (nI (0))), some (.inl (nI (0))), some (.inl (nI (0))), some (.inl (nI (0))), some (.inr (3)), some (.inr (4)), some (.inr (5)), some (.inr (6)), none, none, none, none, none, none, none, none, none, none, none, none, none]) := by rw [← e12]; exact va_up_self _ _ _
  refine k_aload_n dX7_init_55 rfl ?_
  refine k_bipush (nI (30)) dX7_init_56 (by decide) ?_
  refine k_newi (k := 7) (N := 30) (bc' := 12) (bs' := 19593) dX7_init_58 (List.mem_cons_of_mem _ uw_1_71) (mIn (by decide)) rfl rfl (by omega) (by omega) (by omega) ?_
  generalize e13 : va_up κ12 (7) _ = κ13
  have h4 : κ13 (4) = .inl (5, 3, .inr (gUp 20 21 22)) := by rw [← e13, va_up_ne _ _ (by omega)]; exact h4
  have hr : ∀ s, s < 3 → κ13 (20 + s) = .inl (1, 6, .inl (fun _ => 0)) := fun s hc9 => by rw [← e13, va_up_ne _ _ (by omega)]; exact hr s hc9
  have hZ : ∀ k, 1 ≤ k ∧ k < 6 + 1 ∧ k ≠ 4 → κ13 (k) = .inl (0, mLen k, .inl (fun _ => 0)) := fun k hc9 => by rw [← e13, va_up_ne _ _ (by omega)]; exact hZ k hc9
  have h0 : κ13 (0) = .inr (6, [some (.inl (nI (0))), some (.inl (nI (0))), some (.inl (nI (0))), some (.inr (1)), some (.inr (2)), some (.inl (nI (0))), some (.inl (nI (0))), some (.inl (nI (0))), some (.inl (nI (0))), some (.inr (3)), some (.inr (4)), some (.inr (5)), some (.inr (6)), none, none, none, none, none, none, none, none, none, none, none, none, none]) := by rw [← e13, va_up_ne _ _ (by omega)]; exact h0
  have hnew : κ13 (7) = .inl (0, 30, .inl (fun _ => 0)) := by rw [← e13]; exact va_up_self _ _ _
  have hZ : ∀ k, 1 ≤ k ∧ k < 7 + 1 ∧ k ≠ 4 → κ13 (k) = .inl (0, mLen k, .inl (fun _ => 0)) := fun k hk => by
    by_cases q : k = 7
    · subst q
      exact hnew
    · exact hZ k (by omega)
  refine k_putF (T := TX7) (N := 26) (Cn := RX7) (ref := "CommitCouncilModel") (ty0 := tyX7) 13 dX7_init_60 (mM_lo (by decide) (by decide)) h0 rfl (fun w h => List.mem_cons_of_mem _ (hU7 w h)) tyX7_ok nmX7 (by decide) (List.mem_cons_of_mem _ uw_3_136) (Or.inl rfl) (Nat.le_of_ble_eq_true rfl) rfl rfl rfl (fun _ => rfl) (fun _ => rfl) ?_
  generalize e14 : va_up κ13 (0) _ = κ14
  have h4 : κ14 (4) = .inl (5, 3, .inr (gUp 20 21 22)) := by rw [← e14, va_up_ne _ _ (by omega)]; exact h4
  have hr : ∀ s, s < 3 → κ14 (20 + s) = .inl (1, 6, .inl (fun _ => 0)) := fun s hc9 => by rw [← e14, va_up_ne _ _ (by omega)]; exact hr s hc9
  have hZ : ∀ k, 1 ≤ k ∧ k < 7 + 1 ∧ k ≠ 4 → κ14 (k) = .inl (0, mLen k, .inl (fun _ => 0)) := fun k hc9 => by rw [← e14, va_up_ne _ _ (by omega)]; exact hZ k hc9
  have h0 : κ14 (0) = .inr (6, [some (.inl (nI (0))), some (.inl (nI (0))), some (.inl (nI (0))), some (.inr (1)), some (.inr (2)), some (.inl (nI (0))), some (.inl (nI (0))), some (.inl (nI (0))), some (.inl (nI (0))), some (.inr (3)), some (.inr (4)), some (.inr (5)), some (.inr (6)), some (.inr (7)), none, none, none, none, none, none, none, none, none, none, none, none]) := by rw [← e14]; exact va_up_self _ _ _
  refine k_aload_n dX7_init_63 rfl ?_
  refine k_sipush (nI (9600)) dX7_init_64 (by decide) ?_
  refine k_newi (k := 8) (N := 9600) (bc' := 11) (bs' := 9993) dX7_init_67 (List.mem_cons_of_mem _ uw_1_71) (mIn (by decide)) rfl rfl (by omega) (by omega) (by omega) ?_
  generalize e15 : va_up κ14 (8) _ = κ15
  have h4 : κ15 (4) = .inl (5, 3, .inr (gUp 20 21 22)) := by rw [← e15, va_up_ne _ _ (by omega)]; exact h4
  have hr : ∀ s, s < 3 → κ15 (20 + s) = .inl (1, 6, .inl (fun _ => 0)) := fun s hc9 => by rw [← e15, va_up_ne _ _ (by omega)]; exact hr s hc9
  have hZ : ∀ k, 1 ≤ k ∧ k < 7 + 1 ∧ k ≠ 4 → κ15 (k) = .inl (0, mLen k, .inl (fun _ => 0)) := fun k hc9 => by rw [← e15, va_up_ne _ _ (by omega)]; exact hZ k hc9
  have h0 : κ15 (0) = .inr (6, [some (.inl (nI (0))), some (.inl (nI (0))), some (.inl (nI (0))), some (.inr (1)), some (.inr (2)), some (.inl (nI (0))), some (.inl (nI (0))), some (.inl (nI (0))), some (.inl (nI (0))), some (.inr (3)), some (.inr (4)), some (.inr (5)), some (.inr (6)), some (.inr (7)), none, none, none, none, none, none, none, none, none, none, none, none]) := by rw [← e15, va_up_ne _ _ (by omega)]; exact h0
  have hnew : κ15 (8) = .inl (0, 9600, .inl (fun _ => 0)) := by rw [← e15]; exact va_up_self _ _ _
  have hZ : ∀ k, 1 ≤ k ∧ k < 8 + 1 ∧ k ≠ 4 → κ15 (k) = .inl (0, mLen k, .inl (fun _ => 0)) := fun k hk => by
    by_cases q : k = 8
    · subst q
      exact hnew
    · exact hZ k (by omega)
  refine k_putF (T := TX7) (N := 26) (Cn := RX7) (ref := "CommitCouncilModel") (ty0 := tyX7) 14 dX7_init_69 (mM_lo (by decide) (by decide)) h0 rfl (fun w h => List.mem_cons_of_mem _ (hU7 w h)) tyX7_ok nmX7 (by decide) (List.mem_cons_of_mem _ uw_3_137) (Or.inl rfl) (Nat.le_of_ble_eq_true rfl) rfl rfl rfl (fun _ => rfl) (fun _ => rfl) ?_
  generalize e16 : va_up κ15 (0) _ = κ16
  have h4 : κ16 (4) = .inl (5, 3, .inr (gUp 20 21 22)) := by rw [← e16, va_up_ne _ _ (by omega)]; exact h4
  have hr : ∀ s, s < 3 → κ16 (20 + s) = .inl (1, 6, .inl (fun _ => 0)) := fun s hc9 => by rw [← e16, va_up_ne _ _ (by omega)]; exact hr s hc9
  have hZ : ∀ k, 1 ≤ k ∧ k < 8 + 1 ∧ k ≠ 4 → κ16 (k) = .inl (0, mLen k, .inl (fun _ => 0)) := fun k hc9 => by rw [← e16, va_up_ne _ _ (by omega)]; exact hZ k hc9
  have h0 : κ16 (0) = .inr (6, [some (.inl (nI (0))), some (.inl (nI (0))), some (.inl (nI (0))), some (.inr (1)), some (.inr (2)), some (.inl (nI (0))), some (.inl (nI (0))), some (.inl (nI (0))), some (.inl (nI (0))), some (.inr (3)), some (.inr (4)), some (.inr (5)), some (.inr (6)), some (.inr (7)), some (.inr (8)), none, none, none, none, none, none, none, none, none, none, none]) := by rw [← e16]; exact va_up_self _ _ _
  refine k_aload_n dX7_init_72 rfl ?_
  refine k_sipush (nI (9600)) dX7_init_73 (by decide) ?_
  refine k_newi (k := 9) (N := 9600) (bc' := 10) (bs' := 393) dX7_init_76 (List.mem_cons_of_mem _ uw_1_71) (mIn (by decide)) rfl rfl (by omega) (by omega) (by omega) ?_
  generalize e17 : va_up κ16 (9) _ = κ17
  have h4 : κ17 (4) = .inl (5, 3, .inr (gUp 20 21 22)) := by rw [← e17, va_up_ne _ _ (by omega)]; exact h4
  have hr : ∀ s, s < 3 → κ17 (20 + s) = .inl (1, 6, .inl (fun _ => 0)) := fun s hc9 => by rw [← e17, va_up_ne _ _ (by omega)]; exact hr s hc9
  have hZ : ∀ k, 1 ≤ k ∧ k < 8 + 1 ∧ k ≠ 4 → κ17 (k) = .inl (0, mLen k, .inl (fun _ => 0)) := fun k hc9 => by rw [← e17, va_up_ne _ _ (by omega)]; exact hZ k hc9
  have h0 : κ17 (0) = .inr (6, [some (.inl (nI (0))), some (.inl (nI (0))), some (.inl (nI (0))), some (.inr (1)), some (.inr (2)), some (.inl (nI (0))), some (.inl (nI (0))), some (.inl (nI (0))), some (.inl (nI (0))), some (.inr (3)), some (.inr (4)), some (.inr (5)), some (.inr (6)), some (.inr (7)), some (.inr (8)), none, none, none, none, none, none, none, none, none, none, none]) := by rw [← e17, va_up_ne _ _ (by omega)]; exact h0
  have hnew : κ17 (9) = .inl (0, 9600, .inl (fun _ => 0)) := by rw [← e17]; exact va_up_self _ _ _
  have hZ : ∀ k, 1 ≤ k ∧ k < 9 + 1 ∧ k ≠ 4 → κ17 (k) = .inl (0, mLen k, .inl (fun _ => 0)) := fun k hk => by
    by_cases q : k = 9
    · subst q
      exact hnew
    · exact hZ k (by omega)
  refine k_putF (T := TX7) (N := 26) (Cn := RX7) (ref := "CommitCouncilModel") (ty0 := tyX7) 15 dX7_init_78 (mM_lo (by decide) (by decide)) h0 rfl (fun w h => List.mem_cons_of_mem _ (hU7 w h)) tyX7_ok nmX7 (by decide) (List.mem_cons_of_mem _ uw_3_138) (Or.inl rfl) (Nat.le_of_ble_eq_true rfl) rfl rfl rfl (fun _ => rfl) (fun _ => rfl) ?_
  generalize e18 : va_up κ17 (0) _ = κ18
  have h4 : κ18 (4) = .inl (5, 3, .inr (gUp 20 21 22)) := by rw [← e18, va_up_ne _ _ (by omega)]; exact h4
  have hr : ∀ s, s < 3 → κ18 (20 + s) = .inl (1, 6, .inl (fun _ => 0)) := fun s hc9 => by rw [← e18, va_up_ne _ _ (by omega)]; exact hr s hc9
  have hZ : ∀ k, 1 ≤ k ∧ k < 9 + 1 ∧ k ≠ 4 → κ18 (k) = .inl (0, mLen k, .inl (fun _ => 0)) := fun k hc9 => by rw [← e18, va_up_ne _ _ (by omega)]; exact hZ k hc9
  have h0 : κ18 (0) = .inr (6, [some (.inl (nI (0))), some (.inl (nI (0))), some (.inl (nI (0))), some (.inr (1)), some (.inr (2)), some (.inl (nI (0))), some (.inl (nI (0))), some (.inl (nI (0))), some (.inl (nI (0))), some (.inr (3)), some (.inr (4)), some (.inr (5)), some (.inr (6)), some (.inr (7)), some (.inr (8)), some (.inr (9)), none, none, none, none, none, none, none, none, none, none]) := by rw [← e18]; exact va_up_self _ _ _
  refine k_aload_n dX7_init_81 rfl ?_
  refine k_iconst (nI (3)) dX7_init_82 (by decide) ?_
  refine k_newi (k := 10) (N := 3) (bc' := 9) (bs' := 390) dX7_init_83 (List.mem_cons_of_mem _ uw_1_71) (mIn (by decide)) rfl rfl (by omega) (by omega) (by omega) ?_
  generalize e19 : va_up κ18 (10) _ = κ19
  have h4 : κ19 (4) = .inl (5, 3, .inr (gUp 20 21 22)) := by rw [← e19, va_up_ne _ _ (by omega)]; exact h4
  have hr : ∀ s, s < 3 → κ19 (20 + s) = .inl (1, 6, .inl (fun _ => 0)) := fun s hc9 => by rw [← e19, va_up_ne _ _ (by omega)]; exact hr s hc9
  have hZ : ∀ k, 1 ≤ k ∧ k < 9 + 1 ∧ k ≠ 4 → κ19 (k) = .inl (0, mLen k, .inl (fun _ => 0)) := fun k hc9 => by rw [← e19, va_up_ne _ _ (by omega)]; exact hZ k hc9
  have h0 : κ19 (0) = .inr (6, [some (.inl (nI (0))), some (.inl (nI (0))), some (.inl (nI (0))), some (.inr (1)), some (.inr (2)), some (.inl (nI (0))), some (.inl (nI (0))), some (.inl (nI (0))), some (.inl (nI (0))), some (.inr (3)), some (.inr (4)), some (.inr (5)), some (.inr (6)), some (.inr (7)), some (.inr (8)), some (.inr (9)), none, none, none, none, none, none, none, none, none, none]) := by rw [← e19, va_up_ne _ _ (by omega)]; exact h0
  have hnew : κ19 (10) = .inl (0, 3, .inl (fun _ => 0)) := by rw [← e19]; exact va_up_self _ _ _
  have hZ : ∀ k, 1 ≤ k ∧ k < 10 + 1 ∧ k ≠ 4 → κ19 (k) = .inl (0, mLen k, .inl (fun _ => 0)) := fun k hk => by
    by_cases q : k = 10
    · subst q
      exact hnew
    · exact hZ k (by omega)
  refine k_putF (T := TX7) (N := 26) (Cn := RX7) (ref := "CommitCouncilModel") (ty0 := tyX7) 16 dX7_init_85 (mM_lo (by decide) (by decide)) h0 rfl (fun w h => List.mem_cons_of_mem _ (hU7 w h)) tyX7_ok nmX7 (by decide) (List.mem_cons_of_mem _ uw_3_139) (Or.inl rfl) (Nat.le_of_ble_eq_true rfl) rfl rfl rfl (fun _ => rfl) (fun _ => rfl) ?_
  generalize e20 : va_up κ19 (0) _ = κ20
  have h4 : κ20 (4) = .inl (5, 3, .inr (gUp 20 21 22)) := by rw [← e20, va_up_ne _ _ (by omega)]; exact h4
  have hr : ∀ s, s < 3 → κ20 (20 + s) = .inl (1, 6, .inl (fun _ => 0)) := fun s hc9 => by rw [← e20, va_up_ne _ _ (by omega)]; exact hr s hc9
  have hZ : ∀ k, 1 ≤ k ∧ k < 10 + 1 ∧ k ≠ 4 → κ20 (k) = .inl (0, mLen k, .inl (fun _ => 0)) := fun k hc9 => by rw [← e20, va_up_ne _ _ (by omega)]; exact hZ k hc9
  have h0 : κ20 (0) = .inr (6, [some (.inl (nI (0))), some (.inl (nI (0))), some (.inl (nI (0))), some (.inr (1)), some (.inr (2)), some (.inl (nI (0))), some (.inl (nI (0))), some (.inl (nI (0))), some (.inl (nI (0))), some (.inr (3)), some (.inr (4)), some (.inr (5)), some (.inr (6)), some (.inr (7)), some (.inr (8)), some (.inr (9)), some (.inr (10)), none, none, none, none, none, none, none, none, none]) := by rw [← e20]; exact va_up_self _ _ _
  refine k_aload_n dX7_init_88 rfl ?_
  refine k_iconst (nI (3)) dX7_init_89 (by decide) ?_
  refine k_newi (k := 11) (N := 3) (bc' := 8) (bs' := 387) dX7_init_90 (List.mem_cons_of_mem _ uw_1_71) (mIn (by decide)) rfl rfl (by omega) (by omega) (by omega) ?_
  generalize e21 : va_up κ20 (11) _ = κ21
  have h4 : κ21 (4) = .inl (5, 3, .inr (gUp 20 21 22)) := by rw [← e21, va_up_ne _ _ (by omega)]; exact h4
  have hr : ∀ s, s < 3 → κ21 (20 + s) = .inl (1, 6, .inl (fun _ => 0)) := fun s hc9 => by rw [← e21, va_up_ne _ _ (by omega)]; exact hr s hc9
  have hZ : ∀ k, 1 ≤ k ∧ k < 10 + 1 ∧ k ≠ 4 → κ21 (k) = .inl (0, mLen k, .inl (fun _ => 0)) := fun k hc9 => by rw [← e21, va_up_ne _ _ (by omega)]; exact hZ k hc9
  have h0 : κ21 (0) = .inr (6, [some (.inl (nI (0))), some (.inl (nI (0))), some (.inl (nI (0))), some (.inr (1)), some (.inr (2)), some (.inl (nI (0))), some (.inl (nI (0))), some (.inl (nI (0))), some (.inl (nI (0))), some (.inr (3)), some (.inr (4)), some (.inr (5)), some (.inr (6)), some (.inr (7)), some (.inr (8)), some (.inr (9)), some (.inr (10)), none, none, none, none, none, none, none, none, none]) := by rw [← e21, va_up_ne _ _ (by omega)]; exact h0
  have hnew : κ21 (11) = .inl (0, 3, .inl (fun _ => 0)) := by rw [← e21]; exact va_up_self _ _ _
  have hZ : ∀ k, 1 ≤ k ∧ k < 11 + 1 ∧ k ≠ 4 → κ21 (k) = .inl (0, mLen k, .inl (fun _ => 0)) := fun k hk => by
    by_cases q : k = 11
    · subst q
      exact hnew
    · exact hZ k (by omega)
  refine k_putF (T := TX7) (N := 26) (Cn := RX7) (ref := "CommitCouncilModel") (ty0 := tyX7) 17 dX7_init_92 (mM_lo (by decide) (by decide)) h0 rfl (fun w h => List.mem_cons_of_mem _ (hU7 w h)) tyX7_ok nmX7 (by decide) (List.mem_cons_of_mem _ uw_3_140) (Or.inl rfl) (Nat.le_of_ble_eq_true rfl) rfl rfl rfl (fun _ => rfl) (fun _ => rfl) ?_
  generalize e22 : va_up κ21 (0) _ = κ22
  have h4 : κ22 (4) = .inl (5, 3, .inr (gUp 20 21 22)) := by rw [← e22, va_up_ne _ _ (by omega)]; exact h4
  have hr : ∀ s, s < 3 → κ22 (20 + s) = .inl (1, 6, .inl (fun _ => 0)) := fun s hc9 => by rw [← e22, va_up_ne _ _ (by omega)]; exact hr s hc9
  have hZ : ∀ k, 1 ≤ k ∧ k < 11 + 1 ∧ k ≠ 4 → κ22 (k) = .inl (0, mLen k, .inl (fun _ => 0)) := fun k hc9 => by rw [← e22, va_up_ne _ _ (by omega)]; exact hZ k hc9
  have h0 : κ22 (0) = .inr (6, [some (.inl (nI (0))), some (.inl (nI (0))), some (.inl (nI (0))), some (.inr (1)), some (.inr (2)), some (.inl (nI (0))), some (.inl (nI (0))), some (.inl (nI (0))), some (.inl (nI (0))), some (.inr (3)), some (.inr (4)), some (.inr (5)), some (.inr (6)), some (.inr (7)), some (.inr (8)), some (.inr (9)), some (.inr (10)), some (.inr (11)), none, none, none, none, none, none, none, none]) := by rw [← e22]; exact va_up_self _ _ _
  refine k_aload_n dX7_init_95 rfl ?_
  refine k_iconst (nI (3)) dX7_init_96 (by decide) ?_
  refine k_newi (k := 12) (N := 3) (bc' := 7) (bs' := 384) dX7_init_97 (List.mem_cons_of_mem _ uw_1_71) (mIn (by decide)) rfl rfl (by omega) (by omega) (by omega) ?_
  generalize e23 : va_up κ22 (12) _ = κ23
  have h4 : κ23 (4) = .inl (5, 3, .inr (gUp 20 21 22)) := by rw [← e23, va_up_ne _ _ (by omega)]; exact h4
  have hr : ∀ s, s < 3 → κ23 (20 + s) = .inl (1, 6, .inl (fun _ => 0)) := fun s hc9 => by rw [← e23, va_up_ne _ _ (by omega)]; exact hr s hc9
  have hZ : ∀ k, 1 ≤ k ∧ k < 11 + 1 ∧ k ≠ 4 → κ23 (k) = .inl (0, mLen k, .inl (fun _ => 0)) := fun k hc9 => by rw [← e23, va_up_ne _ _ (by omega)]; exact hZ k hc9
  have h0 : κ23 (0) = .inr (6, [some (.inl (nI (0))), some (.inl (nI (0))), some (.inl (nI (0))), some (.inr (1)), some (.inr (2)), some (.inl (nI (0))), some (.inl (nI (0))), some (.inl (nI (0))), some (.inl (nI (0))), some (.inr (3)), some (.inr (4)), some (.inr (5)), some (.inr (6)), some (.inr (7)), some (.inr (8)), some (.inr (9)), some (.inr (10)), some (.inr (11)), none, none, none, none, none, none, none, none]) := by rw [← e23, va_up_ne _ _ (by omega)]; exact h0
  have hnew : κ23 (12) = .inl (0, 3, .inl (fun _ => 0)) := by rw [← e23]; exact va_up_self _ _ _
  have hZ : ∀ k, 1 ≤ k ∧ k < 12 + 1 ∧ k ≠ 4 → κ23 (k) = .inl (0, mLen k, .inl (fun _ => 0)) := fun k hk => by
    by_cases q : k = 12
    · subst q
      exact hnew
    · exact hZ k (by omega)
  refine k_putF (T := TX7) (N := 26) (Cn := RX7) (ref := "CommitCouncilModel") (ty0 := tyX7) 18 dX7_init_99 (mM_lo (by decide) (by decide)) h0 rfl (fun w h => List.mem_cons_of_mem _ (hU7 w h)) tyX7_ok nmX7 (by decide) (List.mem_cons_of_mem _ uw_3_141) (Or.inl rfl) (Nat.le_of_ble_eq_true rfl) rfl rfl rfl (fun _ => rfl) (fun _ => rfl) ?_
  generalize e24 : va_up κ23 (0) _ = κ24
  have h4 : κ24 (4) = .inl (5, 3, .inr (gUp 20 21 22)) := by rw [← e24, va_up_ne _ _ (by omega)]; exact h4
  have hr : ∀ s, s < 3 → κ24 (20 + s) = .inl (1, 6, .inl (fun _ => 0)) := fun s hc9 => by rw [← e24, va_up_ne _ _ (by omega)]; exact hr s hc9
  have hZ : ∀ k, 1 ≤ k ∧ k < 12 + 1 ∧ k ≠ 4 → κ24 (k) = .inl (0, mLen k, .inl (fun _ => 0)) := fun k hc9 => by rw [← e24, va_up_ne _ _ (by omega)]; exact hZ k hc9
  have h0 : κ24 (0) = .inr (6, [some (.inl (nI (0))), some (.inl (nI (0))), some (.inl (nI (0))), some (.inr (1)), some (.inr (2)), some (.inl (nI (0))), some (.inl (nI (0))), some (.inl (nI (0))), some (.inl (nI (0))), some (.inr (3)), some (.inr (4)), some (.inr (5)), some (.inr (6)), some (.inr (7)), some (.inr (8)), some (.inr (9)), some (.inr (10)), some (.inr (11)), some (.inr (12)), none, none, none, none, none, none, none]) := by rw [← e24]; exact va_up_self _ _ _
  refine k_aload_n dX7_init_102 rfl ?_
  refine k_iconst (nI (3)) dX7_init_103 (by decide) ?_
  refine k_newi (k := 13) (N := 3) (bc' := 6) (bs' := 381) dX7_init_104 (List.mem_cons_of_mem _ uw_1_71) (mIn (by decide)) rfl rfl (by omega) (by omega) (by omega) ?_
  generalize e25 : va_up κ24 (13) _ = κ25
  have h4 : κ25 (4) = .inl (5, 3, .inr (gUp 20 21 22)) := by rw [← e25, va_up_ne _ _ (by omega)]; exact h4
  have hr : ∀ s, s < 3 → κ25 (20 + s) = .inl (1, 6, .inl (fun _ => 0)) := fun s hc9 => by rw [← e25, va_up_ne _ _ (by omega)]; exact hr s hc9
  have hZ : ∀ k, 1 ≤ k ∧ k < 12 + 1 ∧ k ≠ 4 → κ25 (k) = .inl (0, mLen k, .inl (fun _ => 0)) := fun k hc9 => by rw [← e25, va_up_ne _ _ (by omega)]; exact hZ k hc9
  have h0 : κ25 (0) = .inr (6, [some (.inl (nI (0))), some (.inl (nI (0))), some (.inl (nI (0))), some (.inr (1)), some (.inr (2)), some (.inl (nI (0))), some (.inl (nI (0))), some (.inl (nI (0))), some (.inl (nI (0))), some (.inr (3)), some (.inr (4)), some (.inr (5)), some (.inr (6)), some (.inr (7)), some (.inr (8)), some (.inr (9)), some (.inr (10)), some (.inr (11)), some (.inr (12)), none, none, none, none, none, none, none]) := by rw [← e25, va_up_ne _ _ (by omega)]; exact h0
  have hnew : κ25 (13) = .inl (0, 3, .inl (fun _ => 0)) := by rw [← e25]; exact va_up_self _ _ _
  have hZ : ∀ k, 1 ≤ k ∧ k < 13 + 1 ∧ k ≠ 4 → κ25 (k) = .inl (0, mLen k, .inl (fun _ => 0)) := fun k hk => by
    by_cases q : k = 13
    · subst q
      exact hnew
    · exact hZ k (by omega)
  refine k_putF (T := TX7) (N := 26) (Cn := RX7) (ref := "CommitCouncilModel") (ty0 := tyX7) 19 dX7_init_106 (mM_lo (by decide) (by decide)) h0 rfl (fun w h => List.mem_cons_of_mem _ (hU7 w h)) tyX7_ok nmX7 (by decide) (List.mem_cons_of_mem _ uw_3_142) (Or.inl rfl) (Nat.le_of_ble_eq_true rfl) rfl rfl rfl (fun _ => rfl) (fun _ => rfl) ?_
  generalize e26 : va_up κ25 (0) _ = κ26
  have h4 : κ26 (4) = .inl (5, 3, .inr (gUp 20 21 22)) := by rw [← e26, va_up_ne _ _ (by omega)]; exact h4
  have hr : ∀ s, s < 3 → κ26 (20 + s) = .inl (1, 6, .inl (fun _ => 0)) := fun s hc9 => by rw [← e26, va_up_ne _ _ (by omega)]; exact hr s hc9
  have hZ : ∀ k, 1 ≤ k ∧ k < 13 + 1 ∧ k ≠ 4 → κ26 (k) = .inl (0, mLen k, .inl (fun _ => 0)) := fun k hc9 => by rw [← e26, va_up_ne _ _ (by omega)]; exact hZ k hc9
  have h0 : κ26 (0) = .inr (6, [some (.inl (nI (0))), some (.inl (nI (0))), some (.inl (nI (0))), some (.inr (1)), some (.inr (2)), some (.inl (nI (0))), some (.inl (nI (0))), some (.inl (nI (0))), some (.inl (nI (0))), some (.inr (3)), some (.inr (4)), some (.inr (5)), some (.inr (6)), some (.inr (7)), some (.inr (8)), some (.inr (9)), some (.inr (10)), some (.inr (11)), some (.inr (12)), some (.inr (13)), none, none, none, none, none, none]) := by rw [← e26]; exact va_up_self _ _ _
  refine k_aload_n dX7_init_109 rfl ?_
  refine k_iconst (nI (3)) dX7_init_110 (by decide) ?_
  refine k_newi (k := 14) (N := 3) (bc' := 5) (bs' := 378) dX7_init_111 (List.mem_cons_of_mem _ uw_1_71) (mIn (by decide)) rfl rfl (by omega) (by omega) (by omega) ?_
  generalize e27 : va_up κ26 (14) _ = κ27
  have h4 : κ27 (4) = .inl (5, 3, .inr (gUp 20 21 22)) := by rw [← e27, va_up_ne _ _ (by omega)]; exact h4
  have hr : ∀ s, s < 3 → κ27 (20 + s) = .inl (1, 6, .inl (fun _ => 0)) := fun s hc9 => by rw [← e27, va_up_ne _ _ (by omega)]; exact hr s hc9
  have hZ : ∀ k, 1 ≤ k ∧ k < 13 + 1 ∧ k ≠ 4 → κ27 (k) = .inl (0, mLen k, .inl (fun _ => 0)) := fun k hc9 => by rw [← e27, va_up_ne _ _ (by omega)]; exact hZ k hc9
  have h0 : κ27 (0) = .inr (6, [some (.inl (nI (0))), some (.inl (nI (0))), some (.inl (nI (0))), some (.inr (1)), some (.inr (2)), some (.inl (nI (0))), some (.inl (nI (0))), some (.inl (nI (0))), some (.inl (nI (0))), some (.inr (3)), some (.inr (4)), some (.inr (5)), some (.inr (6)), some (.inr (7)), some (.inr (8)), some (.inr (9)), some (.inr (10)), some (.inr (11)), some (.inr (12)), some (.inr (13)), none, none, none, none, none, none]) := by rw [← e27, va_up_ne _ _ (by omega)]; exact h0
  have hnew : κ27 (14) = .inl (0, 3, .inl (fun _ => 0)) := by rw [← e27]; exact va_up_self _ _ _
  have hZ : ∀ k, 1 ≤ k ∧ k < 14 + 1 ∧ k ≠ 4 → κ27 (k) = .inl (0, mLen k, .inl (fun _ => 0)) := fun k hk => by
    by_cases q : k = 14
    · subst q
      exact hnew
    · exact hZ k (by omega)
  refine k_putF (T := TX7) (N := 26) (Cn := RX7) (ref := "CommitCouncilModel") (ty0 := tyX7) 20 dX7_init_113 (mM_lo (by decide) (by decide)) h0 rfl (fun w h => List.mem_cons_of_mem _ (hU7 w h)) tyX7_ok nmX7 (by decide) (List.mem_cons_of_mem _ uw_3_143) (Or.inl rfl) (Nat.le_of_ble_eq_true rfl) rfl rfl rfl (fun _ => rfl) (fun _ => rfl) ?_
  generalize e28 : va_up κ27 (0) _ = κ28
  have h4 : κ28 (4) = .inl (5, 3, .inr (gUp 20 21 22)) := by rw [← e28, va_up_ne _ _ (by omega)]; exact h4
  have hr : ∀ s, s < 3 → κ28 (20 + s) = .inl (1, 6, .inl (fun _ => 0)) := fun s hc9 => by rw [← e28, va_up_ne _ _ (by omega)]; exact hr s hc9
  have hZ : ∀ k, 1 ≤ k ∧ k < 14 + 1 ∧ k ≠ 4 → κ28 (k) = .inl (0, mLen k, .inl (fun _ => 0)) := fun k hc9 => by rw [← e28, va_up_ne _ _ (by omega)]; exact hZ k hc9
  have h0 : κ28 (0) = .inr (6, [some (.inl (nI (0))), some (.inl (nI (0))), some (.inl (nI (0))), some (.inr (1)), some (.inr (2)), some (.inl (nI (0))), some (.inl (nI (0))), some (.inl (nI (0))), some (.inl (nI (0))), some (.inr (3)), some (.inr (4)), some (.inr (5)), some (.inr (6)), some (.inr (7)), some (.inr (8)), some (.inr (9)), some (.inr (10)), some (.inr (11)), some (.inr (12)), some (.inr (13)), some (.inr (14)), none, none, none, none, none]) := by rw [← e28]; exact va_up_self _ _ _
  refine k_aload_n dX7_init_116 rfl ?_
  refine k_bipush (nI (90)) dX7_init_117 (by decide) ?_
  refine k_newi (k := 15) (N := 90) (bc' := 4) (bs' := 288) dX7_init_119 (List.mem_cons_of_mem _ uw_1_71) (mIn (by decide)) rfl rfl (by omega) (by omega) (by omega) ?_
  generalize e29 : va_up κ28 (15) _ = κ29
  have h4 : κ29 (4) = .inl (5, 3, .inr (gUp 20 21 22)) := by rw [← e29, va_up_ne _ _ (by omega)]; exact h4
  have hr : ∀ s, s < 3 → κ29 (20 + s) = .inl (1, 6, .inl (fun _ => 0)) := fun s hc9 => by rw [← e29, va_up_ne _ _ (by omega)]; exact hr s hc9
  have hZ : ∀ k, 1 ≤ k ∧ k < 14 + 1 ∧ k ≠ 4 → κ29 (k) = .inl (0, mLen k, .inl (fun _ => 0)) := fun k hc9 => by rw [← e29, va_up_ne _ _ (by omega)]; exact hZ k hc9
  have h0 : κ29 (0) = .inr (6, [some (.inl (nI (0))), some (.inl (nI (0))), some (.inl (nI (0))), some (.inr (1)), some (.inr (2)), some (.inl (nI (0))), some (.inl (nI (0))), some (.inl (nI (0))), some (.inl (nI (0))), some (.inr (3)), some (.inr (4)), some (.inr (5)), some (.inr (6)), some (.inr (7)), some (.inr (8)), some (.inr (9)), some (.inr (10)), some (.inr (11)), some (.inr (12)), some (.inr (13)), some (.inr (14)), none, none, none, none, none]) := by rw [← e29, va_up_ne _ _ (by omega)]; exact h0
  have hnew : κ29 (15) = .inl (0, 90, .inl (fun _ => 0)) := by rw [← e29]; exact va_up_self _ _ _
  have hZ : ∀ k, 1 ≤ k ∧ k < 15 + 1 ∧ k ≠ 4 → κ29 (k) = .inl (0, mLen k, .inl (fun _ => 0)) := fun k hk => by
    by_cases q : k = 15
    · subst q
      exact hnew
    · exact hZ k (by omega)
  refine k_putF (T := TX7) (N := 26) (Cn := RX7) (ref := "CommitCouncilModel") (ty0 := tyX7) 21 dX7_init_121 (mM_lo (by decide) (by decide)) h0 rfl (fun w h => List.mem_cons_of_mem _ (hU7 w h)) tyX7_ok nmX7 (by decide) (List.mem_cons_of_mem _ uw_3_144) (Or.inl rfl) (Nat.le_of_ble_eq_true rfl) rfl rfl rfl (fun _ => rfl) (fun _ => rfl) ?_
  generalize e30 : va_up κ29 (0) _ = κ30
  have h4 : κ30 (4) = .inl (5, 3, .inr (gUp 20 21 22)) := by rw [← e30, va_up_ne _ _ (by omega)]; exact h4
  have hr : ∀ s, s < 3 → κ30 (20 + s) = .inl (1, 6, .inl (fun _ => 0)) := fun s hc9 => by rw [← e30, va_up_ne _ _ (by omega)]; exact hr s hc9
  have hZ : ∀ k, 1 ≤ k ∧ k < 15 + 1 ∧ k ≠ 4 → κ30 (k) = .inl (0, mLen k, .inl (fun _ => 0)) := fun k hc9 => by rw [← e30, va_up_ne _ _ (by omega)]; exact hZ k hc9
  have h0 : κ30 (0) = .inr (6, [some (.inl (nI (0))), some (.inl (nI (0))), some (.inl (nI (0))), some (.inr (1)), some (.inr (2)), some (.inl (nI (0))), some (.inl (nI (0))), some (.inl (nI (0))), some (.inl (nI (0))), some (.inr (3)), some (.inr (4)), some (.inr (5)), some (.inr (6)), some (.inr (7)), some (.inr (8)), some (.inr (9)), some (.inr (10)), some (.inr (11)), some (.inr (12)), some (.inr (13)), some (.inr (14)), some (.inr (15)), none, none, none, none]) := by rw [← e30]; exact va_up_self _ _ _
  refine k_aload_n dX7_init_124 rfl ?_
  refine k_bipush (nI (90)) dX7_init_125 (by decide) ?_
  refine k_newi (k := 16) (N := 90) (bc' := 3) (bs' := 198) dX7_init_127 (List.mem_cons_of_mem _ uw_1_71) (mIn (by decide)) rfl rfl (by omega) (by omega) (by omega) ?_
  generalize e31 : va_up κ30 (16) _ = κ31
  have h4 : κ31 (4) = .inl (5, 3, .inr (gUp 20 21 22)) := by rw [← e31, va_up_ne _ _ (by omega)]; exact h4
  have hr : ∀ s, s < 3 → κ31 (20 + s) = .inl (1, 6, .inl (fun _ => 0)) := fun s hc9 => by rw [← e31, va_up_ne _ _ (by omega)]; exact hr s hc9
  have hZ : ∀ k, 1 ≤ k ∧ k < 15 + 1 ∧ k ≠ 4 → κ31 (k) = .inl (0, mLen k, .inl (fun _ => 0)) := fun k hc9 => by rw [← e31, va_up_ne _ _ (by omega)]; exact hZ k hc9
  have h0 : κ31 (0) = .inr (6, [some (.inl (nI (0))), some (.inl (nI (0))), some (.inl (nI (0))), some (.inr (1)), some (.inr (2)), some (.inl (nI (0))), some (.inl (nI (0))), some (.inl (nI (0))), some (.inl (nI (0))), some (.inr (3)), some (.inr (4)), some (.inr (5)), some (.inr (6)), some (.inr (7)), some (.inr (8)), some (.inr (9)), some (.inr (10)), some (.inr (11)), some (.inr (12)), some (.inr (13)), some (.inr (14)), some (.inr (15)), none, none, none, none]) := by rw [← e31, va_up_ne _ _ (by omega)]; exact h0
  have hnew : κ31 (16) = .inl (0, 90, .inl (fun _ => 0)) := by rw [← e31]; exact va_up_self _ _ _
  have hZ : ∀ k, 1 ≤ k ∧ k < 16 + 1 ∧ k ≠ 4 → κ31 (k) = .inl (0, mLen k, .inl (fun _ => 0)) := fun k hk => by
    by_cases q : k = 16
    · subst q
      exact hnew
    · exact hZ k (by omega)
  refine k_putF (T := TX7) (N := 26) (Cn := RX7) (ref := "CommitCouncilModel") (ty0 := tyX7) 22 dX7_init_129 (mM_lo (by decide) (by decide)) h0 rfl (fun w h => List.mem_cons_of_mem _ (hU7 w h)) tyX7_ok nmX7 (by decide) (List.mem_cons_of_mem _ uw_3_145) (Or.inl rfl) (Nat.le_of_ble_eq_true rfl) rfl rfl rfl (fun _ => rfl) (fun _ => rfl) ?_
  generalize e32 : va_up κ31 (0) _ = κ32
  have h4 : κ32 (4) = .inl (5, 3, .inr (gUp 20 21 22)) := by rw [← e32, va_up_ne _ _ (by omega)]; exact h4
  have hr : ∀ s, s < 3 → κ32 (20 + s) = .inl (1, 6, .inl (fun _ => 0)) := fun s hc9 => by rw [← e32, va_up_ne _ _ (by omega)]; exact hr s hc9
  have hZ : ∀ k, 1 ≤ k ∧ k < 16 + 1 ∧ k ≠ 4 → κ32 (k) = .inl (0, mLen k, .inl (fun _ => 0)) := fun k hc9 => by rw [← e32, va_up_ne _ _ (by omega)]; exact hZ k hc9
  have h0 : κ32 (0) = .inr (6, [some (.inl (nI (0))), some (.inl (nI (0))), some (.inl (nI (0))), some (.inr (1)), some (.inr (2)), some (.inl (nI (0))), some (.inl (nI (0))), some (.inl (nI (0))), some (.inl (nI (0))), some (.inr (3)), some (.inr (4)), some (.inr (5)), some (.inr (6)), some (.inr (7)), some (.inr (8)), some (.inr (9)), some (.inr (10)), some (.inr (11)), some (.inr (12)), some (.inr (13)), some (.inr (14)), some (.inr (15)), some (.inr (16)), none, none, none]) := by rw [← e32]; exact va_up_self _ _ _
  refine k_aload_n dX7_init_132 rfl ?_
  refine k_bipush (nI (90)) dX7_init_133 (by decide) ?_
  refine k_newi (k := 17) (N := 90) (bc' := 2) (bs' := 108) dX7_init_135 (List.mem_cons_of_mem _ uw_1_71) (mIn (by decide)) rfl rfl (by omega) (by omega) (by omega) ?_
  generalize e33 : va_up κ32 (17) _ = κ33
  have h4 : κ33 (4) = .inl (5, 3, .inr (gUp 20 21 22)) := by rw [← e33, va_up_ne _ _ (by omega)]; exact h4
  have hr : ∀ s, s < 3 → κ33 (20 + s) = .inl (1, 6, .inl (fun _ => 0)) := fun s hc9 => by rw [← e33, va_up_ne _ _ (by omega)]; exact hr s hc9
  have hZ : ∀ k, 1 ≤ k ∧ k < 16 + 1 ∧ k ≠ 4 → κ33 (k) = .inl (0, mLen k, .inl (fun _ => 0)) := fun k hc9 => by rw [← e33, va_up_ne _ _ (by omega)]; exact hZ k hc9
  have h0 : κ33 (0) = .inr (6, [some (.inl (nI (0))), some (.inl (nI (0))), some (.inl (nI (0))), some (.inr (1)), some (.inr (2)), some (.inl (nI (0))), some (.inl (nI (0))), some (.inl (nI (0))), some (.inl (nI (0))), some (.inr (3)), some (.inr (4)), some (.inr (5)), some (.inr (6)), some (.inr (7)), some (.inr (8)), some (.inr (9)), some (.inr (10)), some (.inr (11)), some (.inr (12)), some (.inr (13)), some (.inr (14)), some (.inr (15)), some (.inr (16)), none, none, none]) := by rw [← e33, va_up_ne _ _ (by omega)]; exact h0
  have hnew : κ33 (17) = .inl (0, 90, .inl (fun _ => 0)) := by rw [← e33]; exact va_up_self _ _ _
  have hZ : ∀ k, 1 ≤ k ∧ k < 17 + 1 ∧ k ≠ 4 → κ33 (k) = .inl (0, mLen k, .inl (fun _ => 0)) := fun k hk => by
    by_cases q : k = 17
    · subst q
      exact hnew
    · exact hZ k (by omega)
  refine k_putF (T := TX7) (N := 26) (Cn := RX7) (ref := "CommitCouncilModel") (ty0 := tyX7) 23 dX7_init_137 (mM_lo (by decide) (by decide)) h0 rfl (fun w h => List.mem_cons_of_mem _ (hU7 w h)) tyX7_ok nmX7 (by decide) (List.mem_cons_of_mem _ uw_3_146) (Or.inl rfl) (Nat.le_of_ble_eq_true rfl) rfl rfl rfl (fun _ => rfl) (fun _ => rfl) ?_
  generalize e34 : va_up κ33 (0) _ = κ34
  have h4 : κ34 (4) = .inl (5, 3, .inr (gUp 20 21 22)) := by rw [← e34, va_up_ne _ _ (by omega)]; exact h4
  have hr : ∀ s, s < 3 → κ34 (20 + s) = .inl (1, 6, .inl (fun _ => 0)) := fun s hc9 => by rw [← e34, va_up_ne _ _ (by omega)]; exact hr s hc9
  have hZ : ∀ k, 1 ≤ k ∧ k < 17 + 1 ∧ k ≠ 4 → κ34 (k) = .inl (0, mLen k, .inl (fun _ => 0)) := fun k hc9 => by rw [← e34, va_up_ne _ _ (by omega)]; exact hZ k hc9
  have h0 : κ34 (0) = .inr (6, [some (.inl (nI (0))), some (.inl (nI (0))), some (.inl (nI (0))), some (.inr (1)), some (.inr (2)), some (.inl (nI (0))), some (.inl (nI (0))), some (.inl (nI (0))), some (.inl (nI (0))), some (.inr (3)), some (.inr (4)), some (.inr (5)), some (.inr (6)), some (.inr (7)), some (.inr (8)), some (.inr (9)), some (.inr (10)), some (.inr (11)), some (.inr (12)), some (.inr (13)), some (.inr (14)), some (.inr (15)), some (.inr (16)), some (.inr (17)), none, none]) := by rw [← e34]; exact va_up_self _ _ _
  refine k_aload_n dX7_init_140 rfl ?_
  refine k_bipush (nI (90)) dX7_init_141 (by decide) ?_
  refine k_newi (k := 18) (N := 90) (bc' := 1) (bs' := 18) dX7_init_143 (List.mem_cons_of_mem _ uw_1_71) (mIn (by decide)) rfl rfl (by omega) (by omega) (by omega) ?_
  generalize e35 : va_up κ34 (18) _ = κ35
  have h4 : κ35 (4) = .inl (5, 3, .inr (gUp 20 21 22)) := by rw [← e35, va_up_ne _ _ (by omega)]; exact h4
  have hr : ∀ s, s < 3 → κ35 (20 + s) = .inl (1, 6, .inl (fun _ => 0)) := fun s hc9 => by rw [← e35, va_up_ne _ _ (by omega)]; exact hr s hc9
  have hZ : ∀ k, 1 ≤ k ∧ k < 17 + 1 ∧ k ≠ 4 → κ35 (k) = .inl (0, mLen k, .inl (fun _ => 0)) := fun k hc9 => by rw [← e35, va_up_ne _ _ (by omega)]; exact hZ k hc9
  have h0 : κ35 (0) = .inr (6, [some (.inl (nI (0))), some (.inl (nI (0))), some (.inl (nI (0))), some (.inr (1)), some (.inr (2)), some (.inl (nI (0))), some (.inl (nI (0))), some (.inl (nI (0))), some (.inl (nI (0))), some (.inr (3)), some (.inr (4)), some (.inr (5)), some (.inr (6)), some (.inr (7)), some (.inr (8)), some (.inr (9)), some (.inr (10)), some (.inr (11)), some (.inr (12)), some (.inr (13)), some (.inr (14)), some (.inr (15)), some (.inr (16)), some (.inr (17)), none, none]) := by rw [← e35, va_up_ne _ _ (by omega)]; exact h0
  have hnew : κ35 (18) = .inl (0, 90, .inl (fun _ => 0)) := by rw [← e35]; exact va_up_self _ _ _
  have hZ : ∀ k, 1 ≤ k ∧ k < 18 + 1 ∧ k ≠ 4 → κ35 (k) = .inl (0, mLen k, .inl (fun _ => 0)) := fun k hk => by
    by_cases q : k = 18
    · subst q
      exact hnew
    · exact hZ k (by omega)
  refine k_putF (T := TX7) (N := 26) (Cn := RX7) (ref := "CommitCouncilModel") (ty0 := tyX7) 24 dX7_init_145 (mM_lo (by decide) (by decide)) h0 rfl (fun w h => List.mem_cons_of_mem _ (hU7 w h)) tyX7_ok nmX7 (by decide) (List.mem_cons_of_mem _ uw_3_147) (Or.inl rfl) (Nat.le_of_ble_eq_true rfl) rfl rfl rfl (fun _ => rfl) (fun _ => rfl) ?_
  generalize e36 : va_up κ35 (0) _ = κ36
  have h4 : κ36 (4) = .inl (5, 3, .inr (gUp 20 21 22)) := by rw [← e36, va_up_ne _ _ (by omega)]; exact h4
  have hr : ∀ s, s < 3 → κ36 (20 + s) = .inl (1, 6, .inl (fun _ => 0)) := fun s hc9 => by rw [← e36, va_up_ne _ _ (by omega)]; exact hr s hc9
  have hZ : ∀ k, 1 ≤ k ∧ k < 18 + 1 ∧ k ≠ 4 → κ36 (k) = .inl (0, mLen k, .inl (fun _ => 0)) := fun k hc9 => by rw [← e36, va_up_ne _ _ (by omega)]; exact hZ k hc9
  have h0 : κ36 (0) = .inr (6, [some (.inl (nI (0))), some (.inl (nI (0))), some (.inl (nI (0))), some (.inr (1)), some (.inr (2)), some (.inl (nI (0))), some (.inl (nI (0))), some (.inl (nI (0))), some (.inl (nI (0))), some (.inr (3)), some (.inr (4)), some (.inr (5)), some (.inr (6)), some (.inr (7)), some (.inr (8)), some (.inr (9)), some (.inr (10)), some (.inr (11)), some (.inr (12)), some (.inr (13)), some (.inr (14)), some (.inr (15)), some (.inr (16)), some (.inr (17)), some (.inr (18)), none]) := by rw [← e36]; exact va_up_self _ _ _
  refine k_aload_n dX7_init_148 rfl ?_
  refine k_bipush (nI (18)) dX7_init_149 (by decide) ?_
  refine k_newi (k := 19) (N := 18) (bc' := 0) (bs' := 0) dX7_init_151 (List.mem_cons_of_mem _ uw_1_71) (mIn (by decide)) rfl rfl (by omega) (by omega) (by omega) ?_
  generalize e37 : va_up κ36 (19) _ = κ37
  have h4 : κ37 (4) = .inl (5, 3, .inr (gUp 20 21 22)) := by rw [← e37, va_up_ne _ _ (by omega)]; exact h4
  have hr : ∀ s, s < 3 → κ37 (20 + s) = .inl (1, 6, .inl (fun _ => 0)) := fun s hc9 => by rw [← e37, va_up_ne _ _ (by omega)]; exact hr s hc9
  have hZ : ∀ k, 1 ≤ k ∧ k < 18 + 1 ∧ k ≠ 4 → κ37 (k) = .inl (0, mLen k, .inl (fun _ => 0)) := fun k hc9 => by rw [← e37, va_up_ne _ _ (by omega)]; exact hZ k hc9
  have h0 : κ37 (0) = .inr (6, [some (.inl (nI (0))), some (.inl (nI (0))), some (.inl (nI (0))), some (.inr (1)), some (.inr (2)), some (.inl (nI (0))), some (.inl (nI (0))), some (.inl (nI (0))), some (.inl (nI (0))), some (.inr (3)), some (.inr (4)), some (.inr (5)), some (.inr (6)), some (.inr (7)), some (.inr (8)), some (.inr (9)), some (.inr (10)), some (.inr (11)), some (.inr (12)), some (.inr (13)), some (.inr (14)), some (.inr (15)), some (.inr (16)), some (.inr (17)), some (.inr (18)), none]) := by rw [← e37, va_up_ne _ _ (by omega)]; exact h0
  have hnew : κ37 (19) = .inl (0, 18, .inl (fun _ => 0)) := by rw [← e37]; exact va_up_self _ _ _
  have hZ : ∀ k, 1 ≤ k ∧ k < 19 + 1 ∧ k ≠ 4 → κ37 (k) = .inl (0, mLen k, .inl (fun _ => 0)) := fun k hk => by
    by_cases q : k = 19
    · subst q
      exact hnew
    · exact hZ k (by omega)
  refine k_putF (T := TX7) (N := 26) (Cn := RX7) (ref := "CommitCouncilModel") (ty0 := tyX7) 25 dX7_init_153 (mM_lo (by decide) (by decide)) h0 rfl (fun w h => List.mem_cons_of_mem _ (hU7 w h)) tyX7_ok nmX7 (by decide) (List.mem_cons_of_mem _ uw_3_148) (Or.inl rfl) (Nat.le_of_ble_eq_true rfl) rfl rfl rfl (fun _ => rfl) (fun _ => rfl) ?_
  generalize e38 : va_up κ37 (0) _ = κ38
  have h4 : κ38 (4) = .inl (5, 3, .inr (gUp 20 21 22)) := by rw [← e38, va_up_ne _ _ (by omega)]; exact h4
  have hr : ∀ s, s < 3 → κ38 (20 + s) = .inl (1, 6, .inl (fun _ => 0)) := fun s hc9 => by rw [← e38, va_up_ne _ _ (by omega)]; exact hr s hc9
  have hZ : ∀ k, 1 ≤ k ∧ k < 19 + 1 ∧ k ≠ 4 → κ38 (k) = .inl (0, mLen k, .inl (fun _ => 0)) := fun k hc9 => by rw [← e38, va_up_ne _ _ (by omega)]; exact hZ k hc9
  have h0 : κ38 (0) = .inr (6, [some (.inl (nI (0))), some (.inl (nI (0))), some (.inl (nI (0))), some (.inr (1)), some (.inr (2)), some (.inl (nI (0))), some (.inl (nI (0))), some (.inl (nI (0))), some (.inl (nI (0))), some (.inr (3)), some (.inr (4)), some (.inr (5)), some (.inr (6)), some (.inr (7)), some (.inr (8)), some (.inr (9)), some (.inr (10)), some (.inr (11)), some (.inr (12)), some (.inr (13)), some (.inr (14)), some (.inr (15)), some (.inr (16)), some (.inr (17)), some (.inr (18)), some (.inr (19))]) := by rw [← e38]; exact va_up_self _ _ _
  exact k_X7_156 hx hy h0 h4 (fun k hk => hZ k (by omega)) hr
