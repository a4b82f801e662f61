/-! TOLD and VOTED come -/
theorem iN_lat {A T : Nat} {α : pS} (h : iN A T α) {l R : Nat} {t : Nat → Nat} (ht : ∀ m, t m ≤ 4 * T + 2) : iN A T (pLat α l R t) := by
  refine ⟨fun x y z h1 h2 => ?_, fun b m a h1 h2 => h.2 b m a h1 h2⟩
  unfold pLat
  split
  · rename_i q
    rw [q.1]
    exact pMax_le (h.1 20 l z (by decide) (by decide)) (ht z)
  · exact h.1 x y z h1 h2
theorem iN_tel {A T : Nat} {α : pS} (h : iN A T α) {l a R : Nat} {t : Nat → Nat} (ht : ∀ m, t m ≤ 4 * T + 2) : iN A T (pTel α l a R t) := by
  refine ⟨fun x y z h1 h2 => ?_, fun b m a h1 h2 => h.2 b m a h1 h2⟩
  unfold pTel
  split
  · rename_i q
    rw [q.1]
    exact ht _
  · exact h.1 x y z h1 h2
theorem iN_lay {A T : Nat} {α : pS} (h : iN A T α) {b R : Nat} {f : Nat → Nat} (ht : ∀ m, m < R → f m ≤ 2) : iN A T (pLay α b R f) := by
  refine ⟨fun x y z h1 h2 => ?_, fun b m a h1 h2 => h.2 b m a h1 h2⟩
  unfold pLay
  split
  · rename_i q
    rw [q.1]
    exact ht _ q.2.2
  · exact h.1 x y z h1 h2
theorem pMax_l (a b : Nat) : a ≤ pMax a b := by unfold pMax; split <;> omega
theorem pMax_r (a b : Nat) : b ≤ pMax a b := by unfold pMax; split <;> omega
theorem pMax_or (a b : Nat) : pMax a b = a ∨ pMax a b = b := by unfold pMax; split <;> simp
/-- what was told is one thing -/
theorem pTo_one {α : pS} {a b m v w : Nat} (h : pTo α a b m v) (k : pTo α a b m w) : v = w := by
  obtain ⟨-, h2, h3⟩ := h
  obtain ⟨-, k2, k3⟩ := k
  by_cases hv : v = 0
  · by_cases hw : w = 0
    · omega
    · exact absurd (h3 _ (k2 hw).2 (Or.inl hv)) (k2 hw).1.1
  · by_cases hw : w = 0
    · exact absurd (k3 _ (h2 hv).2 (Or.inl hw)) (h2 hv).1.1
    · rcases Nat.lt_trichotomy (v / 4) (w / 4) with q | q | q
      · exact absurd (h3 _ (k2 hw).2 (Or.inr q)) (k2 hw).1.1
      · have e1 := (h2 hv).1.2.1
        have e2 := (k2 hw).1.2.1
        rw [q] at e1
        omega
      · exact absurd (k3 _ (h2 hv).2 (Or.inr q)) (h2 hv).1.1
/-- 9 grows -/
theorem nine {R A T : Nat} {α : pS} (hA : A ≤ 5) (h : iAll R A T α) {l b : Nat} (hb : b ≤ T) : iAll R A T (pu α 9 l 0 (pMax (α 9 l 0) b)) := by
  obtain ⟨hN, hM, hI, hB, hL, hS, hD, hC⟩ := h
  have h9 : ∀ i, α 9 i 0 ≤ pu α 9 l 0 (pMax (α 9 l 0) b) 9 i 0 := fun i => by
    by_cases q : i = l
    · subst q
      rw [pu_at]
      exact pMax_l _ _
    · rw [pu_i _ q]
      exact Nat.le_refl _
  have g : gro R α (pu α 9 l 0 (pMax (α 9 l 0) b)) := gro_same rfl rfl rfl rfl
  exact ⟨iN_pu hN (by decide) (Or.inr (pMax_le (hN.1 9 _ _ (by decide) (by decide)) hb)), hM, hI, iB_gro g hA (fun _ _ _ _ q => q) h9 hB, fun i hi => iL1_gro g hA rfl rfl (h9 i) rfl rfl rfl (fun _ _ _ => rfl) (hL i hi), hS, hD, hC⟩
/-- one more is told -/
theorem told1 {R A T : Nat} {α : pS} (hR : R ≤ 6) (hA : A ≤ 5) (h : iAll R A T α) {l a b : Nat} {t : Nat → Nat} (hl : l < 3) (ha : a < A) (hv1 : ∀ m, t m ≤ 4 * T + 2) (hv2 : ∀ m, m < R → pTo α a b m (t m)) (hkp : pKeep α l b a) :
    (¬ pEnough A α l → kept R A T α (pLat (pTel (pu α 11 l a 1) l a R t) l R t, [])) ∧
    (pEnough A α l → b ≤ T → kept R A T α (pLay (pu (pLat (pTel (pu α 11 l a 1) l a R t) l R t) 8 l 0 2) b R (fun m => pWrd (pLat (pTel (pu α 11 l a 1) l a R t) l R t 20 l m)), lAll R A b (pLat (pTel (pu α 11 l a 1) l a R t) l R t 20 l))) := by
  obtain ⟨p1, p2, p3⟩ := hkp
  obtain ⟨hN, hM, hI, hB, hL, hS, hD, hC⟩ := h
  obtain ⟨l1, l2, l3, l4, l5⟩ := hL l hl
  obtain ⟨l6, l7, l8, l9⟩ := l2 p1
  generalize hγ : pLat (pTel (pu α 11 l a 1) l a R t) l R t = γ
  have e3 : γ 3 = α 3 := by subst hγ; rfl
  have e4 : γ 4 = α 4 := by subst hγ; rfl
  have e5 : γ 5 = α 5 := by subst hγ; rfl
  have e6 : γ 6 = α 6 := by subst hγ; rfl
  have e7 : γ 7 = α 7 := by subst hγ; rfl
  have e8 : γ 8 = α 8 := by subst hγ; rfl
  have e9 : γ 9 = α 9 := by subst hγ; rfl
  have e10 : γ 10 = α 10 := by subst hγ; rfl
  have e13 : γ 13 = α 13 := by subst hγ; rfl
  have e14 : γ 14 = α 14 := by subst hγ; rfl
  have e15 : γ 15 = α 15 := by subst hγ; rfl
  have e16 : γ 16 = α 16 := by subst hγ; rfl
  have e18 : γ 18 = α 18 := by subst hγ; rfl
  have e19 : γ 19 = α 19 := by subst hγ; rfl
  have o : ∀ c i, i ≠ l → γ c i = α c i := fun c i hi => by
    subst hγ
    funext z
    unfold pLat pTel
    rw [if_neg (fun q => hi q.2.1), if_neg (fun q => hi q.2.1), pu_i _ hi]
  have e11 : ∀ c, γ 11 l c = if c = a then 1 else α 11 l c := fun c => by
    subst hγ
    show pu α 11 l a 1 11 l c = _
    unfold pu
    by_cases q : c = a
    · rw [if_pos ⟨rfl, rfl, q⟩, if_pos q]
    · rw [if_neg (fun z => q z.2.2), if_neg q]
  have e12 : ∀ c m, m < R → γ 12 l (c * 6 + m) = if c = a then t m else α 12 l (c * 6 + m) := fun c m hm => by
    subst hγ
    show pTel (pu α 11 l a 1) l a R t 12 l (c * 6 + m) = _
    unfold pTel
    by_cases q : c = a
    · subst q
      rw [if_pos ⟨rfl, rfl, by omega, by omega⟩, if_pos rfl]
      congr 1
      omega
    · rw [if_neg (fun z => by omega), if_neg q]
      rfl
  have e20 : ∀ m, m < R → γ 20 l m = pMax (α 20 l m) (t m) := fun m hm => by
    subst hγ
    show (if 20 = 20 ∧ l = l ∧ m < R then _ else _) = _
    rw [if_pos ⟨rfl, rfl, hm⟩]
    rfl
  have g : gro R α γ := gro_same e5 e15 e16 e18
  have hNγ : iN A T γ := by
    subst hγ
    exact iN_lat (iN_tel (iN_pu hN (by decide) (Or.inr (by show 1 ≤ 1; decide))) hv1) hv1
  have m3 : ∀ c, A ≤ c → γ 11 l c = 0 := fun c hc => by
    rw [e11, if_neg (by omega)]
    exact l3 c hc
  have m4 : ∀ c m, m < R → γ 11 l c ≠ 0 → pTo γ c b m (γ 12 l (c * 6 + m)) ∧ γ 12 l (c * 6 + m) ≤ γ 20 l m := fun c m hm hc => by
    rw [e12 c m hm, e20 m hm]
    by_cases q : c = a
    · subst q
      rw [if_pos rfl]
      exact ⟨pTo_gro g (by omega) hm (hv2 m hm), pMax_r _ _⟩
    · rw [if_neg q]
      rw [e11, if_neg q] at hc
      have hc5 : c < 5 := by
        by_cases z : A ≤ c
        · exact absurd (l3 c z) hc
        · omega
      obtain ⟨r1, r2⟩ := l4 c m hm hc
      rw [← p2] at r1
      exact ⟨pTo_gro g hc5 hm r1, Nat.le_trans r2 (pMax_l _ _)⟩
  have m5 : ∀ m, m < R → γ 20 l m ≠ 0 → ∃ c, γ 11 l c ≠ 0 ∧ γ 12 l (c * 6 + m) = γ 20 l m := fun m hm hz => by
    rw [e20 m hm] at hz ⊢
    by_cases q : pMax (α 20 l m) (t m) = t m
    · refine ⟨a, ?_, ?_⟩
      · rw [e11, if_pos rfl]
        decide
      · rw [e12 a m hm, if_pos rfl, q]
    · have q' : pMax (α 20 l m) (t m) = α 20 l m := by
        rcases pMax_or (α 20 l m) (t m) with z | z
        · exact z
        · exact absurd z q
      rw [q'] at hz ⊢
      obtain ⟨c, r1, r2⟩ := l5 m hm hz
      have hca : c ≠ a := fun z => by rw [z] at r1; exact r1 p3
      refine ⟨c, ?_, ?_⟩
      · rw [e11, if_neg hca]
        exact r1
      · rw [e12 c m hm, if_neg hca]
        exact r2
  have hps : psum (γ 11 l) 5 = psum (α 11 l) 5 + 1 := by
    rw [psum_set e11 p3 5, if_pos (by omega)]
  have hIγ := iA_gro g e15 e6 hI
  have hMγ : iM R γ := iM_gro g e3 e4 (fun m _ => by rw [e16]) (fun b' m hm q => (hM m hm).2.2.1 b' (by rw [e16] at q; exact q)) hM
  have hBγ : iB R A γ := iB_gro g hA (fun b' m _ _ q => by rw [e16] at q; exact q) (fun i => by rw [e9]; exact Nat.le_refl _) hB
  have hSγ : iS R A γ := fun i m hi hm => iS1_gro g hm (by rw [e13]) (fun _ _ => by rw [e14]) (hS i m hi hm)
  have hDγ : iD R γ := fun i hi => iD1_gro g (by rw [e10]) (by rw [e13]) (hD i hi)
  have hCγ : iC R A γ := iC_gro g hN hI e15 e18 e19 hC
  refine ⟨fun hen => ?_, fun hen hbT => ?_⟩
  · refine ⟨⟨hNγ, hMγ, hIγ, hBγ, fun i hi => ?_, hSγ, hDγ, hCγ⟩, g, fun y hy => by cases hy⟩
    show iL1 R A γ i
    by_cases q : i = l
    · subst q
      unfold iL1
      rw [e7, e8, e9, e16, ← p2]
      rw [← p2] at l1 l6 l7 l8
      refine ⟨l1, fun _ => ⟨l6, l7, l8, ?_⟩, m3, m4, m5⟩
      rw [hps]
      unfold pEnough at hen
      omega
    · exact iL1_gro g hA (o 7 i q) (o 8 i q) (by rw [e9]; exact Nat.le_refl _) (o 11 i q) (o 12 i q) (o 20 i q) (fun m _ _ => by rw [e16]) (hL i hi)
  · -- the words of the ballot are laid down
    have hz16 : ∀ m, m < R → α 16 b m = 0 := fun m hm => by rw [p2]; exact l8 m hm
    have hb1 : 1 ≤ b := by rw [p2]; exact l6
    have hbl : (b - 1) % 3 = l := by rw [p2]; exact l7
    have wv : ∀ m, m < R → γ 20 l m ≠ 0 → α 16 (γ 20 l m / 4) m = γ 20 l m % 4 ∧ γ 20 l m % 4 ≠ 0 := fun m hm hz => by
      obtain ⟨c, r1, r2⟩ := m5 m hm hz
      obtain ⟨⟨-, s1, -⟩, -⟩ := m4 c m hm r1
      rw [r2, ] at s1
      obtain ⟨⟨-, t2, t3⟩, -⟩ := s1 hz
      rw [e16] at t2
      exact ⟨t2.symm, t3⟩
    have hw : ∀ m, m < R → pWrd (γ 20 l m) = 1 ∨ pWrd (γ 20 l m) = 2 := fun m hm => by
      by_cases z : γ 20 l m = 0
      · rw [z]
        exact Or.inr rfl
      · rw [pWrd_nz z]
        obtain ⟨r1, r2⟩ := wv m hm z
        have : α 16 (γ 20 l m / 4) m ≤ 2 := hN.1 16 _ _ (by decide) (by decide)
        omega
    generalize hδ : pLay (pu γ 8 l 0 2) b R (fun m => pWrd (γ 20 l m)) = δ
    have o' : ∀ c, c ≠ 8 → c ≠ 16 → δ c = γ c := fun c h1 h2 => by
      subst hδ
      funext y z
      unfold pLay
      rw [if_neg (fun q => h2 q.1), pu_c _ h1]
    have f8 : ∀ i, i ≠ l → δ 8 i = γ 8 i := fun i hi => by
      subst hδ
      funext z
      show pu γ 8 l 0 2 8 i z = _
      rw [pu_i _ hi]
    have f8l : δ 8 l 0 = 2 := by
      subst hδ
      exact pu_at _ _ _ _ _
    have f16 : ∀ m, m < R → δ 16 b m = pWrd (γ 20 l m) := fun m hm => by
      subst hδ
      exact if_pos ⟨rfl, rfl, hm⟩
    have f16o : ∀ b' m, b' ≠ b → δ 16 b' m = α 16 b' m := fun b' m hb' => by
      subst hδ
      rw [← e16]
      exact if_neg (fun q => hb' q.2.1)
    have gδ : gro R α δ := by
      refine ⟨fun a => by rw [o' 5 (by decide) (by decide), e5]; exact Nat.le_refl _, fun b' j q => by rw [o' 15 (by decide) (by decide), e15]; exact q, fun b' m a _ _ q _ => by rw [o' 15 (by decide) (by decide), e15]; exact q, fun b' m hm q => f16o b' m (fun z => q (by rw [z]; exact hz16 m hm)), fun m _ _ => by rw [o' 18 (by decide) (by decide), e18]⟩
    have gδ' : gro R γ δ := by
      refine ⟨fun a => by rw [o' 5 (by decide) (by decide)]; exact Nat.le_refl _, fun b' j q => by rw [o' 15 (by decide) (by decide)]; exact q, fun b' m a _ _ q _ => by rw [o' 15 (by decide) (by decide)]; exact q, fun b' m hm q => by rw [e16] at q ⊢; exact f16o b' m (fun z => q (by rw [z]; exact hz16 m hm)), fun m _ _ => by rw [o' 18 (by decide) (by decide)]⟩
    have hNδ : iN A T δ := by
      subst hδ
      exact iN_lay (iN_pu hNγ (by decide) (Or.inr (by show 2 ≤ 2; decide))) (fun m hm => by have := hw m hm; omega)
    show iAll R A T δ ∧ gro R α δ ∧ ∀ y ∈ lAll R A b (γ 20 l), iX R A T δ y
    refine ⟨⟨hNδ, iM_gro gδ (by rw [o' 3 (by decide) (by decide), e3]) (by rw [o' 4 (by decide) (by decide), e4]) (fun m _ => f16o 0 m (by omega)) (fun b' m hm q => ?_) hM, iA_gro gδ (by rw [o' 15 (by decide) (by decide), e15]) (by rw [o' 6 (by decide) (by decide), e6]) hI, fun b' m hm hb' hz => ?_, fun i hi => ?_, fun i m hi hm => iS1_gro gδ hm (by rw [o' 13 (by decide) (by decide), e13]) (fun _ _ => by rw [o' 14 (by decide) (by decide), e14]) (hS i m hi hm), fun i hi => iD1_gro gδ (by rw [o' 10 (by decide) (by decide), e10]) (by rw [o' 13 (by decide) (by decide), e13]) (hD i hi), iC_gro gδ hN hI (by rw [o' 15 (by decide) (by decide), e15]) (by rw [o' 18 (by decide) (by decide), e18]) (by rw [o' 19 (by decide) (by decide), e19]) hC⟩, gδ, fun y hy => ?_⟩
    · by_cases z : b' = b
      · rw [z, f16 m hm] at q
        by_cases v : γ 20 l m = 0
        · rw [v] at q
          exact absurd q (by decide)
        · rw [pWrd_nz v] at q
          obtain ⟨r1, r2⟩ := wv m hm v
          exact (hM m hm).2.2.1 _ (by rw [r1]; exact q)
      · rw [f16o b' m z] at q
        exact (hM m hm).2.2.1 _ q
    · show b' ≤ δ 9 ((b' - 1) % 3) 0 ∧ pWy A δ b' m
      by_cases z : b' = b
      · subst z
        rw [hbl, o' 9 (by decide) (by decide), e9]
        refine ⟨by rw [p2]; exact l1, γ 11 l, fun c => γ 12 l (c * 6 + m), γ 20 l m, fun c => hNγ.1 11 _ _ (by decide) (by decide), m3, ?_, fun c hc => ?_, m5 m hm, f16 m hm⟩
        · rw [hps]
          unfold pEnough at hen
          omega
        · obtain ⟨r1, r2⟩ := m4 c m hm hc
          have hc5 : c < 5 := by
            by_cases z : A ≤ c
            · exact absurd (m3 c z) hc
            · omega
          exact ⟨pTo_gro gδ' hc5 hm r1, r2⟩
      · have hz' : α 16 b' m ≠ 0 := by
          have : δ 16 b' m ≠ 0 := hz
          rw [f16o b' m z] at this
          exact this
        obtain ⟨r1, r2⟩ := hB b' m hm hb' hz'
        rw [o' 9 (by decide) (by decide), e9]
        exact ⟨r1, pWy_gro gδ hA hm hz' r2⟩
    · show iL1 R A δ i
      by_cases q : i = l
      · subst q
        unfold iL1
        rw [f8l, o' 7 (by decide) (by decide), o' 9 (by decide) (by decide), o' 11 (by decide) (by decide), o' 12 (by decide) (by decide), o' 20 (by decide) (by decide), e7, e9, ← p2]
        rw [← p2] at l1
        refine ⟨l1, fun z => by omega, m3, fun c m hm hc => ?_, m5⟩
        obtain ⟨r1, r2⟩ := m4 c m hm hc
        have hc5 : c < 5 := by
          by_cases z : A ≤ c
          · exact absurd (m3 c z) hc
          · omega
        exact ⟨pTo_gro gδ' hc5 hm r1, r2⟩
      · refine iL1_gro gδ hA (by rw [o' 7 (by decide) (by decide), e7]) (by rw [f8 i q, e8]) (by rw [o' 9 (by decide) (by decide), e9]; exact Nat.le_refl _) (by rw [o' 11 (by decide) (by decide), o 11 i q]) (by rw [o' 12 (by decide) (by decide), o 12 i q]) (by rw [o' 20 (by decide) (by decide), o 20 i q]) (fun m hm z => f16o _ m (fun v => ?_)) (hL i hi)
        have := ((hL i hi).2.1 z).2.1
        rw [v] at this
        exact q (by omega)
    · unfold lAll at hy
      obtain ⟨m, hm, hy⟩ := List.mem_flatMap.mp hy
      have hm' := List.mem_range.mp hm
      exact vote_ok hm' hbT (hw m hm') (f16 m hm') y hy
theorem kept3 {R A T : Nat} {α : pS} {x : pMsg} (hR : R ≤ 6) (hA : A ≤ 5) (h : iAll R A T α) (hx : iX R A T α x) (hk : x 0 = 3) : kept R A T α (pTake R A α x) := by
  obtain ⟨hl, ha, hb1, hv1, hv2⟩ := hx.2.2.2.2.2.1 hk
  have hT := hx.1
  have h9 := nine (l := x 1) hA h hT
  have hg9 : gro R α (pu α 9 (x 1) 0 (pMax (α 9 (x 1) 0) (x 4))) := gro_same rfl rfl rfl rfl
  unfold pTake
  rw [hk]
  dsimp only
  by_cases hkp : pKeep α (x 1) (x 4) (x 2)
  · rw [if_pos hkp]
    obtain ⟨k1, k2⟩ := told1 (t := fun m => x (6 + m)) hR hA h9 hl ha hv1 hv2 hkp
    by_cases hen : pEnough A α (x 1)
    · rw [if_pos hen]
      have H := k2 hen hT
      exact ⟨H.1, gro_trans hg9 H.2.1, H.2.2⟩
    · rw [if_neg hen]
      have H := k1 hen
      exact ⟨H.1, gro_trans hg9 H.2.1, H.2.2⟩
  · rw [if_neg hkp]
    exact ⟨h9, hg9, fun y hy => by cases hy⟩
/-- the best of what is told is the greatest -/
theorem bst_max {d t : Nat → Nat} {V : Nat} (hle : ∀ c, d c ≠ 0 → t c ≤ V) : ∀ n, (pBst d t n = 0 ∨ ∃ c, c < n ∧ d c ≠ 0 ∧ t c = pBst d t n) ∧ ∀ c, c < n → d c ≠ 0 → t c ≠ 0 → pBst d t n ≠ 0 ∧ t c / 4 ≤ pBst d t n / 4
  | 0 => ⟨Or.inl rfl, fun c hc => by omega⟩
  | n + 1 => by
    obtain ⟨h1, h2⟩ := bst_max hle n
    show (((if d n ≠ 0 ∧ t n ≠ 0 ∧ (pBst d t n = 0 ∨ pBst d t n / 4 < t n / 4) then t n else pBst d t n) = 0 ∨ ∃ c, c < n + 1 ∧ d c ≠ 0 ∧ t c = (if d n ≠ 0 ∧ t n ≠ 0 ∧ (pBst d t n = 0 ∨ pBst d t n / 4 < t n / 4) then t n else pBst d t n)) ∧ ∀ c, c < n + 1 → d c ≠ 0 → t c ≠ 0 → (if d n ≠ 0 ∧ t n ≠ 0 ∧ (pBst d t n = 0 ∨ pBst d t n / 4 < t n / 4) then t n else pBst d t n) ≠ 0 ∧ t c / 4 ≤ (if d n ≠ 0 ∧ t n ≠ 0 ∧ (pBst d t n = 0 ∨ pBst d t n / 4 < t n / 4) then t n else pBst d t n) / 4)
    by_cases q : d n ≠ 0 ∧ t n ≠ 0 ∧ (pBst d t n = 0 ∨ pBst d t n / 4 < t n / 4)
    · rw [if_pos q]
      refine ⟨Or.inr ⟨n, by omega, q.1, rfl⟩, fun c hc h3 h4 => ⟨q.2.1, ?_⟩⟩
      by_cases z : c = n
      · rw [z]
        exact Nat.le_refl _
      · have := h2 c (by omega) h3 h4
        omega
    · rw [if_neg q]
      refine ⟨?_, fun c hc h3 h4 => ?_⟩
      · rcases h1 with h1 | ⟨c, r1, r2, r3⟩
        · exact Or.inl h1
        · exact Or.inr ⟨c, by omega, r2, r3⟩
      · by_cases z : c = n
        · subst z
          by_cases w : pBst d t c = 0
          · exact absurd ⟨h3, h4, Or.inl w⟩ q
          · refine ⟨w, ?_⟩
            by_cases v : pBst d t c / 4 < t c / 4
            · exact absurd ⟨h3, h4, Or.inr v⟩ q
            · omega
        · exact h2 c (by omega) h3 h4
theorem go3 {R A T : Nat} {α : pS} {x : pMsg} (hA : A ≤ 5) (h : iAll R A T α) (hx : iX R A T α x) (hk : x 0 = 3) : pGo3 R A α x := by
  obtain ⟨hl, ha, hb1, hv1, hv2⟩ := hx.2.2.2.2.2.1 hk
  obtain ⟨hN, hM, hI, hB, hL, hS, hD, hC⟩ := h
  obtain ⟨l1, l2, l3, l4, l5⟩ := hL (x 1) hl
  refine ⟨fun z => (l2 z).2.2.2, fun z1 z2 z3 m hm => ?_, fun hkp hen => ⟨fun m j hm => ?_, fun m hm => ?_⟩⟩
  · have := (l4 (x 2) m hm z3).1
    rw [← z2] at this
    exact pTo_one (hv2 m hm) this
  · obtain ⟨p1, p2, p3⟩ := hkp
    have z := (l2 p1).2.2.1 m hm
    rw [← p2] at z
    by_cases hj : 5 ≤ j
    · exact Or.inr hj
    · refine Or.inl ?_
      by_cases hjA : A ≤ j
      · exact hN.2 _ m j hjA (by omega)
      · by_cases w : α 15 (x 4) (m * 5 + j) = 0
        · exact w
        · exact absurd z ((hI j m (by omega) hm).1 _ w).1
  · obtain ⟨p1, p2, p3⟩ := hkp
    generalize hd : pu α 11 (x 1) (x 2) 1 11 (x 1) = d
    generalize ht : (fun c => if c = x 2 then x (6 + m) else α 12 (x 1) (c * 6 + m)) = t
    have hd' : ∀ c, d c = if c = x 2 then 1 else α 11 (x 1) c := fun c => by
      subst hd
      unfold pu
      by_cases q : c = x 2
      · rw [if_pos ⟨rfl, rfl, q⟩, if_pos q]
      · rw [if_neg (fun z => q z.2.2), if_neg q]
    have ht' : ∀ c, t c = if c = x 2 then x (6 + m) else α 12 (x 1) (c * 6 + m) := fun c => by subst ht; rfl
    have hto : ∀ c, d c ≠ 0 → pTo α c (x 4) m (t c) ∧ t c ≤ pMax (α 20 (x 1) m) (x (6 + m)) ∧ c < A := fun c hc => by
      rw [hd'] at hc
      rw [ht']
      by_cases q : c = x 2
      · rw [if_pos q, q]
        exact ⟨hv2 m hm, pMax_r _ _, ha⟩
      · rw [if_neg q]
        rw [if_neg q] at hc
        obtain ⟨r1, r2⟩ := l4 c m hm hc
        rw [← p2] at r1
        refine ⟨r1, Nat.le_trans r2 (pMax_l _ _), ?_⟩
        by_cases z : A ≤ c
        · exact absurd (l3 c z) hc
        · omega
    have hex : pMax (α 20 (x 1) m) (x (6 + m)) ≠ 0 → ∃ c, c < A ∧ d c ≠ 0 ∧ t c = pMax (α 20 (x 1) m) (x (6 + m)) := fun hz => by
      by_cases q : pMax (α 20 (x 1) m) (x (6 + m)) = x (6 + m)
      · refine ⟨x 2, ha, ?_, ?_⟩
        · rw [hd', if_pos rfl]
          decide
        · rw [ht', if_pos rfl, q]
      · have q' : pMax (α 20 (x 1) m) (x (6 + m)) = α 20 (x 1) m := by
          rcases pMax_or (α 20 (x 1) m) (x (6 + m)) with z | z
          · exact z
          · exact absurd z q
        rw [q'] at hz ⊢
        obtain ⟨c, r1, r2⟩ := l5 m hm hz
        have hca : c ≠ x 2 := fun z => by rw [z] at r1; exact r1 p3
        refine ⟨c, ?_, ?_, ?_⟩
        · by_cases z : A ≤ c
          · exact absurd (l3 c z) r1
          · omega
        · rw [hd', if_neg hca]
          exact r1
        · rw [ht', if_neg hca]
          exact r2
    generalize pMax (α 20 (x 1) m) (x (6 + m)) = V at hto hex
    obtain ⟨b1, b2⟩ := bst_max (d := d) (t := t) (V := V) (fun c hc => (hto c hc).2.1) A
    by_cases hV : V = 0
    · rcases b1 with b1 | ⟨c, r1, r2, r3⟩
      · rw [b1, hV]
      · have := (hto c r2).2.1
        rw [← r3, hV]
        congr 1
        omega
    · obtain ⟨c, r1, r2, r3⟩ := hex hV
      obtain ⟨s1, s2⟩ := b2 c r1 r2 (by omega)
      rcases b1 with b1 | ⟨c', u1, u2, u3⟩
      · exact absurd b1 s1
      · have v1 := (hto c' u2).2.1
        have w1 := ((hto c r2).1.2.1 (by omega)).1
        have w2 := ((hto c' u2).1.2.1 (by omega)).1
        rw [pWrd_nz s1, pWrd_nz hV, ← u3, ← r3]
        rw [w1.2.1, w2.2.1]
        have e4 : t c' / 4 = t c / 4 := by omega
        rw [e4]
