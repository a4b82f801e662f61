/-! A MESSAGE COMES: the invariant is kept -/
def kept (R A T : Nat) (α : pS) (r : pT) : Prop := iAll R A T r.1 ∧ gro R α r.1 ∧ ∀ y ∈ r.2, iX R A T r.1 y
theorem gro_refl (R : Nat) (α : pS) : gro R α α := gro_same rfl rfl rfl rfl
theorem kept_no {R A T : Nat} {α : pS} (h : iAll R A T α) : kept R A T α (α, []) := ⟨h, gro_refl R α, fun y hy => by cases hy⟩
theorem psum_mono {f g : Nat → Nat} (h : ∀ i, f i ≤ g i) : ∀ n, psum f n ≤ psum g n
  | 0 => Nat.le_refl _
  | n + 1 => Nat.add_le_add (psum_mono h n) (h n)
theorem psum_mono' {f g : Nat → Nat} : ∀ n, (∀ i, i < n → f i ≤ g i) → psum f n ≤ psum g n
  | 0, _ => Nat.le_refl _
  | n + 1, h => Nat.add_le_add (psum_mono' n (fun i hi => h i (by omega))) (h n (by omega))
/-- a QUESTION -/
theorem kept5 {R A T : Nat} {α : pS} {x : pMsg} (h : iAll R A T α) (hx : iX R A T α x) (hk : x 0 = 5) : kept R A T α (pTake R A α x) := by
  obtain ⟨h1, h2⟩ := hx.2.2.2.2.2.2.2 hk
  obtain ⟨hN, hM, hI, hB, hL, hS, hD, hC⟩ := id h
  have e : pTake R A α x = (α, if α 10 (x 1) 0 = 0 then [] else [mDec (x 2) (α 10 (x 1) 0)]) := by unfold pTake; rw [hk]; try rfl
  rw [e]
  refine ⟨h, gro_refl R α, fun y hy => ?_⟩
  dsimp only at hy
  split at hy
  · cases hy
  · rename_i hz
    rw [List.mem_singleton.mp hy]
    have hz2 : α 10 (x 1) 0 ≤ 2 := hN.1 10 _ _ (by decide) (by decide)
    refine ⟨Nat.zero_le _, by show 4 ≤ 5; decide, fun q => ?_, fun q => ?_, fun q => ?_, fun q => ?_, fun q => ⟨h2, by show α 10 (x 1) 0 = 1 ∨ α 10 (x 1) 0 = 2; omega, (hD _ h1).2⟩, fun q => ?_⟩
    all_goals exact absurd q (by show ¬ (4 = _); decide)
/-- a DECISION -/
theorem kept4 {R A T : Nat} {α : pS} {x : pMsg} (h : iAll R A T α) (hx : iX R A T α x) (hk : x 0 = 4) : kept R A T α (pTake R A α x) := by
  obtain ⟨h1, h2, h3⟩ := hx.2.2.2.2.2.2.1 hk
  obtain ⟨hN, hM, hI, hB, hL, hS, hD, hC⟩ := id h
  have e : pTake R A α x = (pu α 3 (x 1) 0 (x 5 + 2), []) := by unfold pTake; rw [hk]; try rfl
  rw [e]
  refine ⟨?_, gro_same rfl rfl rfl rfl, fun y hy => by cases hy⟩
  have h' := h.2
  refine ⟨iN_pu hN (by decide) (Or.inr (by show x 5 + 2 ≤ 4; omega)), ?_, hI, hB, hL, hS, hD, hC⟩
  intro m hm
  obtain ⟨q1, q2, q3, q4⟩ := hM m hm
  by_cases q : m = x 1
  · subst q
    have e3 : (pu α 3 (x 1) 0 (x 5 + 2)) 3 (x 1) 0 = x 5 + 2 := pu_at _ _ _ _ _
    show ((pu α 3 (x 1) 0 (x 5 + 2)) 3 (x 1) 0 = 0 → _) ∧ ((pu α 3 (x 1) 0 (x 5 + 2)) 3 (x 1) 0 = 1 ∨ (pu α 3 (x 1) 0 (x 5 + 2)) 3 (x 1) 0 = 2 → _) ∧ _ ∧ pDc R _ ((pu α 3 (x 1) 0 (x 5 + 2)) 3 (x 1) 0 - 2)
    rw [e3]
    refine ⟨fun z => by omega, fun z => by omega, q3, ?_⟩
    have e5 : x 5 + 2 - 2 = x 5 := by omega
    rw [e5]
    exact h3
  · have e3 : (pu α 3 (x 1) 0 (x 5 + 2)) 3 m 0 = α 3 m 0 := if_neg (fun z => q z.2.1)
    show ((pu α 3 (x 1) 0 (x 5 + 2)) 3 m 0 = 0 → _) ∧ ((pu α 3 (x 1) 0 (x 5 + 2)) 3 m 0 = 1 ∨ (pu α 3 (x 1) 0 (x 5 + 2)) 3 m 0 = 2 → _ = (pu α 3 (x 1) 0 (x 5 + 2)) 3 m 0 ∧ _ = (pu α 3 (x 1) 0 (x 5 + 2)) 3 m 0) ∧ _ ∧ pDc R _ ((pu α 3 (x 1) 0 (x 5 + 2)) 3 m 0 - 2)
    rw [e3]
    exact ⟨q1, q2, q3, q4⟩
theorem iN_tol {A T : Nat} {α : pS} (h : iN A T α) {b a R : Nat} {t : Nat → Nat} (ht : ∀ m, t m ≤ 4 * T + 2) : iN A T (pTol α b a R t) := by
  refine ⟨fun x y z h1 h2 => ?_, fun b m a h1 h2 => h.2 b m a h1 h2⟩
  unfold pTol
  split
  · rename_i q
    rw [q.1]
    exact ht _
  · exact h.1 x y z h1 h2
/-- an ASK -/
theorem kept2 {R A T : Nat} {α : pS} {x : pMsg} (hA : A ≤ 5) (h : iAll R A T α) (hx : iX R A T α x) (hk : x 0 = 2) : kept R A T α (pTake R A α x) := by
  obtain ⟨ha, hb⟩ := hx.2.2.2.2.1 hk
  have hT := hx.1
  obtain ⟨hN, hM, hI, hB, hL, hS, hD, hC⟩ := id h
  have e : pTake R A α x = if α 5 (x 1) 0 < x 4 then (pTol (pu α 5 (x 1) 0 (x 4)) (x 4) (x 1) R (α 6 (x 1)), [mTold ((x 4 - 1) % 3) (x 1) (x 4) (α 6 (x 1))]) else (α, []) := by unfold pTake; rw [hk]; try rfl
  rw [e]
  by_cases hlt : α 5 (x 1) 0 < x 4
  · rw [if_pos hlt]
    have e5 : pTol (pu α 5 (x 1) 0 (x 4)) (x 4) (x 1) R (α 6 (x 1)) 5 (x 1) 0 = x 4 := pu_at _ _ _ _ _
    have g : gro R α (pTol (pu α 5 (x 1) 0 (x 4)) (x 4) (x 1) R (α 6 (x 1))) := by
      refine ⟨fun a => ?_, fun b j q => q, fun b m' a _ _ q _ => q, fun b m' hm' q => rfl, fun _ _ _ => rfl⟩
      by_cases z : a = x 1
      · subst z
        rw [e5]
        omega
      · exact Nat.le_of_eq (if_neg (fun w => z w.2.1)).symm
    refine ⟨⟨iN_tol (iN_pu hN (by decide) (Or.inr hT)) (fun m => hN.1 6 _ _ (by decide) (by decide)), iM_gro g rfl rfl (fun m _ => rfl) (fun b' m hm q => (hM m hm).2.2.1 b' q) hM, iA_gro g rfl rfl hI, iB_gro g hA (fun b' m _ _ q => q) (fun i => Nat.le_of_eq rfl) hB, fun l hl => iL1_gro g hA rfl rfl (Nat.le_of_eq rfl) rfl rfl rfl (fun m _ _ => rfl) (hL l hl), fun l m hl hm => iS1_gro g hm rfl (fun _ _ => rfl) (hS l m hl hm), fun l hl => iD1_gro g rfl rfl (hD l hl), iC_gro g hN hI rfl rfl rfl hC⟩, g, fun y hy => ?_⟩
    rw [List.mem_singleton.mp hy]
    refine ⟨hT, by show 3 ≤ 5; decide, fun q => ?_, fun q => ?_, fun q => ?_, fun q => ?_, fun q => ?_, fun q => ?_⟩
    · exact absurd q (by show ¬ (3 = _); decide)
    · exact absurd q (by show ¬ (3 = _); decide)
    · exact absurd q (by show ¬ (3 = _); decide)
    · refine ⟨Nat.mod_lt _ (by decide), ha, hb, fun m => ?_, fun m hm => ?_⟩
      · show mTold _ _ _ _ (6 + m) ≤ _
        rw [Nat.add_comm 6 m]
        exact hN.1 6 (x 1) m (by decide) (by decide)
      · rw [Nat.add_comm 6 m]
        show pTo _ (x 1) (x 4) m (α 6 (x 1) m)
        obtain ⟨q1, q2⟩ := hI (x 1) m ha hm
        refine ⟨Nat.le_of_eq e5.symm, fun hz => ⟨pVo_gro g hm (q2 hz), ?_⟩, fun c hc hv => ?_⟩
        · have := (q1 _ (q2 hz).1).2.1
          omega
        · by_cases z : α 15 c (m * 5 + x 1) = 0
          · exact z
          · have := q1 c z
            omega
    · exact absurd q (by show ¬ (3 = _); decide)
    · exact absurd q (by show ¬ (3 = _); decide)
  · rw [if_neg hlt]
    exact kept_no h
/-- a VOTE -/
theorem kept0 {R A T : Nat} {α : pS} {x : pMsg} (hA' : A = 3 ∨ A = 5) (h : iAll R A T α) (hx : iX R A T α x) (hk : x 0 = 0) : kept R A T α (pTake R A α x) := by
  have hA : A ≤ 5 := by omega
  obtain ⟨ha, hm, hw, h16⟩ := hx.2.2.1 hk
  have hT := hx.1
  obtain ⟨hN, hM, hI, hB, hL, hS, hD, hC⟩ := id h
  have e : pTake R A α x = if α 5 (x 1) 0 ≤ x 4 then (pEnter A (pu (pu α 5 (x 1) 0 (x 4)) 6 (x 1) (x 3) (4 * x 4 + x 5)) (x 3) (x 4) (x 5) (x 1), lVoted (x 1) (x 3) (x 4) (x 5)) else (α, []) := by unfold pTake; rw [hk]; try rfl
  rw [e]
  rcases Nat.lt_or_ge (x 4) (α 5 (x 1) 0) with hlt | hlt
  · rw [if_neg (by omega)]
    exact kept_no h
  rw [if_pos hlt]
  have hlt : α 5 (x 1) 0 ≤ x 4 := hlt
  generalize x 1 = a at ha hlt
  generalize x 3 = m at hm h16
  generalize x 4 = b at hT h16 hlt
  generalize x 5 = w at hw h16
  clear e hx
  have hw2 : w ≤ 2 := by omega
  generalize hγ : pu (pu (pu α 5 a 0 b) 6 a m (4 * b + w)) 15 b (m * 5 + a) 1 = γ
  have e3 : γ 3 = α 3 := by subst hγ; rfl
  have e4 : γ 4 = α 4 := by subst hγ; rfl
  have e7 : γ 7 = α 7 := by subst hγ; rfl
  have e8 : γ 8 = α 8 := by subst hγ; rfl
  have e9 : γ 9 = α 9 := by subst hγ; rfl
  have e10 : γ 10 = α 10 := by subst hγ; rfl
  have e11 : γ 11 = α 11 := by subst hγ; rfl
  have e12 : γ 12 = α 12 := by subst hγ; rfl
  have e13 : γ 13 = α 13 := by subst hγ; rfl
  have e14 : γ 14 = α 14 := by subst hγ; rfl
  have e16 : γ 16 = α 16 := by subst hγ; rfl
  have e18 : γ 18 = α 18 := by subst hγ; rfl
  have e19 : γ 19 = α 19 := by subst hγ; rfl
  have e20 : γ 20 = α 20 := by subst hγ; rfl
  have e5 : γ 5 a 0 = b := by subst hγ; simp [pu]
  have o5 : ∀ a', a' ≠ a → γ 5 a' 0 = α 5 a' 0 := fun a' z => by subst hγ; simp [pu, z]
  have e6 : γ 6 a m = 4 * b + w := by subst hγ; simp [pu]
  have o6 : ∀ a' m', ¬ (a' = a ∧ m' = m) → γ 6 a' m' = α 6 a' m' := fun a' m' z => by subst hγ; simp [pu, z]
  have e15 : γ 15 b (m * 5 + a) = 1 := by subst hγ; simp [pu]
  have o15 : ∀ b' j, ¬ (b' = b ∧ j = m * 5 + a) → γ 15 b' j = α 15 b' j := fun b' j z => by subst hγ; simp [pu, z]
  have g : gro R α γ := by
    refine ⟨fun a' => ?_, fun b' j q => ?_, fun b' m' a' hm' ha' q r => ?_, fun b' m' hm' q => by rw [e16], fun _ _ _ => by rw [e18]⟩
    · by_cases z : a' = a
      · subst z
        rw [e5]
        exact hlt
      · rw [o5 a' z]
        exact Nat.le_refl _
    · by_cases z : b' = b ∧ j = m * 5 + a
      · rw [z.1, z.2, e15]
        decide
      · rw [o15 b' j z]
        exact q
    · by_cases z : b' = b ∧ m' * 5 + a' = m * 5 + a
      · have z1 : a' = a := by omega
        rw [z1] at r
        omega
      · rw [o15 _ _ z]
        exact q
  have hNγ : iN A T γ := by
    subst hγ
    exact iN_pu15 (iN_pu (iN_pu hN (by decide) (Or.inr hT)) (by decide) (Or.inr (by show 4 * b + w ≤ 4 * T + 2; omega))) ha hA
  have hIγ : iA R A γ := by
    intro a' m' ha' hm'
    obtain ⟨q1, q2⟩ := hI a' m' ha' hm'
    by_cases z : a' = a ∧ m' = m
    · obtain ⟨rfl, rfl⟩ := z
      rw [e6]
      refine ⟨fun b' hb' => ?_, fun _ => ⟨?_, ?_, ?_⟩⟩
      · by_cases y : b' = b
        · rw [y, e16, e5]
          omega
        · rw [o15 _ _ (fun v => y v.1)] at hb'
          have := q1 b' hb'
          rw [e16, e5]
          refine ⟨this.1, ?_, ?_, ?_⟩ <;> omega
      · have z4 : (4 * b + w) / 4 = b := by omega
        rw [z4, e15]
        decide
      · have z4 : (4 * b + w) / 4 = b := by omega
        rw [z4, e16]
        omega
      · omega
    · rw [o6 a' m' z]
      refine ⟨fun b' hb' => ?_, fun hz => pVo_gro g hm' (q2 hz)⟩
      rw [o15 _ _ (fun v => z (by omega))] at hb'
      obtain ⟨r1, r2, r3, r4⟩ := q1 b' hb'
      exact ⟨by rw [e16]; exact r1, Nat.le_trans r2 (g.1 a'), r3, r4⟩
  have hBγ : iB R A γ := iB_gro g hA (fun b' m _ _ q => by rw [e16] at q; exact q) (fun i => by rw [e9]; exact Nat.le_refl _) hB
  have up : ∀ b' m', pCh A α b' m' → pCh A γ b' m' := fun b' m' q => by
    unfold pCh at q ⊢
    have : psum (fun a => α 15 b' (m' * 5 + a)) 5 ≤ psum (fun a => γ 15 b' (m' * 5 + a)) 5 := psum_mono (fun c => by
      by_cases z : b' = b ∧ m' * 5 + c = m * 5 + a
      · show α 15 b' (m' * 5 + c) ≤ γ 15 b' (m' * 5 + c)
        rw [z.1, z.2, e15]
        exact hN.1 15 _ _ (by decide) (by decide)
      · show α 15 b' (m' * 5 + c) ≤ γ 15 b' (m' * 5 + c)
        rw [o15 _ _ z]
        exact Nat.le_refl _) 5
    omega
  have dn : ∀ b' m', ¬ (b' = b ∧ m' = m) → pCh A γ b' m' → pCh A α b' m' := fun b' m' hz q => by
    unfold pCh at q ⊢
    have : psum (fun a => α 15 b' (m' * 5 + a)) 5 = psum (fun a => γ 15 b' (m' * 5 + a)) 5 := psum_congr 5 (fun c hc => by
      show α 15 b' (m' * 5 + c) = γ 15 b' (m' * 5 + c)
      rw [o15 _ _ (fun v => hz (by omega))])
    omega
  -- the state behind it, whatever is chosen
  have fin : ∀ β : pS, (∀ c, c ≠ 18 → β c = γ c) → gro R γ β → iN A T β → iC R A β → kept R A T α (β, lVoted a m b w) := by
    intro β o gβ hNβ hCβ
    have g' := gro_trans g gβ
    have hIβ := iA_gro gβ (o 15 (by decide)) (o 6 (by decide)) hIγ
    show iAll R A T β ∧ gro R α β ∧ ∀ y ∈ lVoted a m b w, iX R A T β y
    refine ⟨⟨hNβ, iM_gro g' (by rw [o 3 (by decide), e3]) (by rw [o 4 (by decide), e4]) (fun m _ => by rw [o 16 (by decide), e16]) (fun b' m hm q => (hM m hm).2.2.1 b' (by rw [o 16 (by decide), e16] at q; exact q)) hM, hIβ, iB_gro g' hA (fun b' m _ _ q => by rw [o 16 (by decide), e16] at q; exact q) (fun i => by rw [o 9 (by decide), e9]; exact Nat.le_refl _) hB, fun l hl => iL1_gro g' hA (by rw [o 7 (by decide), e7]) (by rw [o 8 (by decide), e8]) (by rw [o 9 (by decide), e9]; exact Nat.le_refl _) (by rw [o 11 (by decide), e11]) (by rw [o 12 (by decide), e12]) (by rw [o 20 (by decide), e20]) (fun m _ _ => by rw [o 16 (by decide), e16]) (hL l hl), fun l m hl hm => iS1_gro g' hm (by rw [o 13 (by decide), e13]) (fun _ _ => by rw [o 14 (by decide), e14]) (hS l m hl hm), fun l hl => iD1_gro g' (by rw [o 10 (by decide), e10]) (by rw [o 13 (by decide), e13]) (hD l hl), hCβ⟩, g', fun y hy => ?_⟩
    unfold lVoted at hy
    obtain ⟨l, hl, rfl⟩ := List.mem_map.mp hy
    have hl' := List.mem_range.mp hl
    refine ⟨hT, by show 1 ≤ 5; decide, fun q => ?_, fun q => ⟨hl', ha, hm, hw, ?_, ?_⟩, fun q => ?_, fun q => ?_, fun q => ?_, fun q => ?_⟩
    · exact absurd q (by show ¬ (1 = _); decide)
    · show w = β 16 b m
      rw [o 16 (by decide), e16]
      exact h16
    · show β 15 b (m * 5 + a) ≠ 0
      rw [o 15 (by decide), e15]
      decide
    all_goals exact absurd q (by show ¬ (1 = _); decide)
  have chN : ∀ β : pS, (∀ c, c ≠ 18 → β c = γ c) → ∀ b' m', pCh A β b' m' ↔ pCh A γ b' m' := fun β o b' m' => by unfold pCh; rw [o 15 (by decide)]
  unfold pEnter
  dsimp only
  rw [hγ]
  by_cases hmaj : psum (fun c => γ 15 b (m * 5 + c)) 5 * 2 ≤ A
  · rw [if_pos hmaj]
    refine fin γ (fun _ _ => rfl) (gro_refl R γ) hNγ ?_
    intro m' hm'
    obtain ⟨q1, q2, q3⟩ := hC m' hm'
    rw [e19, e18, e16]
    refine ⟨q1, fun b' hb' => q2 b' (dn b' m' (fun z => ?_) hb'), fun hz => ?_⟩
    · rw [z.1, z.2] at hb'
      unfold pCh at hb'
      omega
    · obtain ⟨b', r1, r2⟩ := q3 hz
      exact ⟨b', up b' m' r1, r2⟩
  · rw [if_neg hmaj]
    have hch : pCh A γ b m := by unfold pCh; omega
    have one : ∀ b', pCh A γ b' m → α 16 b' m = w := fun b' hb' => by
      have := one_word hA' hNγ hBγ hIγ hm hb' hch
      rw [e16] at this
      rw [this, h16]
    by_cases hz : γ 18 m 0 = 0
    · rw [if_pos hz]
      have o : ∀ c, c ≠ 18 → (pu γ 18 m 0 w) c = γ c := fun c hc => pu_c _ hc
      have k18 : ∀ m', m' ≠ m → (pu γ 18 m 0 w) 18 m' 0 = γ 18 m' 0 := fun m' z => if_neg (fun v => z v.2.1)
      refine fin _ o ⟨fun _ => Nat.le_refl _, fun _ _ q => q, fun _ _ _ _ _ q _ => q, fun _ _ _ _ => rfl, fun m' hm' q => k18 m' (fun z => q (by rw [z]; exact hz))⟩ (iN_pu hNγ (by decide) (Or.inr hw2)) ?_
      intro m' hm'
      obtain ⟨q1, q2, q3⟩ := hC m' hm'
      rw [o 19 (by decide), o 16 (by decide), e19, e16]
      by_cases z : m' = m
      · subst z
        rw [pu_at]
        exact ⟨q1, fun b' hb' => one b' ((chN _ o b' m').mp hb'), fun _ => ⟨b, (chN _ o b m').mpr hch, h16.symm⟩⟩
      · rw [k18 m' z, e18]
        refine ⟨q1, fun b' hb' => q2 b' (dn b' m' (fun v => z v.2) ((chN _ o b' m').mp hb')), fun hz' => ?_⟩
        obtain ⟨b', r1, r2⟩ := q3 hz'
        exact ⟨b', (chN _ o b' m').mpr (up b' m' r1), r2⟩
    · rw [if_neg hz]
      have h18 : γ 18 m 0 = w := by
        rw [e18] at hz ⊢
        obtain ⟨b', r1, r2⟩ := (hC m hm).2.2 hz
        rw [← r2]
        exact one b' (up b' m r1)
      rw [if_pos h18]
      refine fin γ (fun _ _ => rfl) (gro_refl R γ) hNγ ?_
      intro m' hm'
      obtain ⟨q1, q2, q3⟩ := hC m' hm'
      rw [e19, e18, e16]
      rw [e18] at h18
      by_cases z : m' = m
      · subst z
        rw [h18]
        exact ⟨q1, fun b' hb' => one b' hb', fun _ => ⟨b, hch, h16.symm⟩⟩
      · refine ⟨q1, fun b' hb' => q2 b' (dn b' m' (fun v => z v.2) hb'), fun hz' => ?_⟩
        obtain ⟨b', r1, r2⟩ := q3 hz'
        exact ⟨b', up b' m' r1, r2⟩
