/-! VOTED comes -/
theorem psum_le_n {f : Nat → Nat} {n k : Nat} (h : n ≤ k) : psum f n ≤ psum f k := by
  induction k with
  | zero =>
    have : n = 0 := by omega
    rw [this]
    exact Nat.le_refl _
  | succ k ih =>
    by_cases q : n = k + 1
    · rw [q]
      exact Nat.le_refl _
    · exact Nat.le_trans (ih (by omega)) (Nat.le_add_right _ _)
/-- the votes seen, and one that is new -/
theorem cnt_new {A a b v : Nat} {f f' : Nat → Nat} (hf : ∀ c, f' c = if c = a then v else f c) (hv : v ≠ 0) (hb : v / 4 = b) (ha : a < A) {c : Nat} (hc : f' c / 4 = b) : pCnt f' c A = 1 + psum (fun c => if c ≠ a ∧ f c ≠ 0 ∧ f c / 4 = b then 1 else 0) A := by
  unfold pCnt
  rw [hc]
  have e := psum_set (f := fun c => if c ≠ a ∧ f c ≠ 0 ∧ f c / 4 = b then 1 else 0) (g := fun c => if f' c ≠ 0 ∧ f' c / 4 = b then 1 else 0) (a := a) (fun c => by
    show (if f' c ≠ 0 ∧ f' c / 4 = b then 1 else 0) = if c = a then 1 else if c ≠ a ∧ f c ≠ 0 ∧ f c / 4 = b then 1 else 0
    rw [hf c]
    by_cases q : c = a
    · rw [if_pos q, if_pos q, if_pos ⟨hv, hb⟩]
    · rw [if_neg q, if_neg q]
      by_cases z : f c ≠ 0 ∧ f c / 4 = b
      · rw [if_pos z, if_pos ⟨q, z⟩]
      · rw [if_neg z, if_neg (fun y => z y.2)]) (if_neg (fun q => q.1 rfl)) A
  rw [e, if_pos ha]
  omega
theorem cnt_old {A a b v : Nat} {f f' : Nat → Nat} (hf : ∀ c, f' c = if c = a then v else f c) (hb : v / 4 = b) {c : Nat} (hc : f' c / 4 ≠ b) : f' c = f c ∧ pCnt f' c A ≤ pCnt f c A := by
  have hca : c ≠ a := fun q => by
    rw [hf c, if_pos q] at hc
    exact hc hb
  have e : f' c = f c := by rw [hf c, if_neg hca]
  refine ⟨e, ?_⟩
  unfold pCnt
  refine psum_mono (fun i => ?_) A
  show (if f' i ≠ 0 ∧ f' i / 4 = f' c / 4 then 1 else 0) ≤ if f i ≠ 0 ∧ f i / 4 = f c / 4 then 1 else 0
  by_cases q : i = a
  · rw [if_neg (fun z => by
      rw [hf i, if_pos q] at z
      exact hc (by omega))]
    exact Nat.zero_le _
  · rw [hf i, if_neg q, e]
    exact Nat.le_refl _
def vw (α : pS) (l m a b w : Nat) (c : Nat) : Nat := if c = a ∧ pNew α l m a b then 4 * b + w else α 14 l (m * 5 + c)
theorem seen1 {R A T : Nat} {α : pS} (hA : A ≤ 5) (h : iAll R A T α) {l m a b w : Nat} (hl : l < 3) (ha : a < A) (hm : m < R) (hw : w = 1 ∨ w = 2) (h16 : w = α 16 b m) (h15 : α 15 b (m * 5 + a) ≠ 0) :
    (∀ c, c < A → vw α l m a b w c ≠ 0 → pVo α c m (vw α l m a b w c)) ∧ (pOut A α l m a b w ≠ 0 → pOut A α l m a b w = α 18 m 0) ∧ (pOut A α l m a b w = 0 → ∀ c, c < A → ¬ pMaj A (vw α l m a b w) c) ∧
    (α 13 l m = 0 → ∀ c, c < A → pMaj A (vw α l m a b w) c → vw α l m a b w c % 4 = pOut A α l m a b w) ∧ (α 13 l m = 0 → (∀ c, c < A → ¬ pMaj A (vw α l m a b w) c) → pOut A α l m a b w = 0) ∧ (α 13 l m ≠ 0 → pOut A α l m a b w = α 13 l m) := by
  obtain ⟨hN, hM, hI, hB, hL, hS, hD, hC⟩ := h
  obtain ⟨s1, s2, s3⟩ := hS l m hl hm
  have hvo : ∀ c, c < A → vw α l m a b w c ≠ 0 → pVo α c m (vw α l m a b w c) := fun c hc hz => by
    unfold vw at hz ⊢
    by_cases q : c = a ∧ pNew α l m a b
    · rw [if_pos q, q.1]
      have z4 : (4 * b + w) / 4 = b := by omega
      refine ⟨?_, ?_, ?_⟩
      · rw [z4]
        exact h15
      · rw [z4]
        omega
      · omega
    · rw [if_neg q] at hz ⊢
      exact s1 c hc hz
  refine ⟨hvo, ?_⟩
  by_cases h13 : α 13 l m ≠ 0
  · have e : pOut A α l m a b w = α 13 l m := if_pos (Or.inl h13)
    rw [e]
    exact ⟨s2, fun q => absurd q h13, fun q => absurd q h13, fun q => absurd q h13, fun _ => rfl⟩
  · have h13 : α 13 l m = 0 := by omega
    by_cases hnew : pNew α l m a b
    · have e : pOut A α l m a b w = if A < (1 + pAlk α l m a b A) * 2 then w else 0 := if_neg (fun q => by
        rcases q with q | q
        · exact q h13
        · exact q hnew)
      have hf : ∀ c, vw α l m a b w c = if c = a then 4 * b + w else (fun c => α 14 l (m * 5 + c)) c := fun c => by
        unfold vw
        by_cases q : c = a
        · rw [if_pos ⟨q, hnew⟩, if_pos q]
        · rw [if_neg (fun z => q z.1), if_neg q]
      have hv0 : 4 * b + w ≠ 0 := by omega
      have hvb : (4 * b + w) / 4 = b := by omega
      have k1 : ∀ c, vw α l m a b w c / 4 = b → pCnt (vw α l m a b w) c A = 1 + pAlk α l m a b A := fun c hc => cnt_new hf hv0 hvb ha hc
      have k2 : ∀ c, c < A → vw α l m a b w c / 4 ≠ b → ¬ pMaj A (vw α l m a b w) c := fun c hc hz hj => by
        obtain ⟨r1, r2⟩ := cnt_old (A := A) hf hvb hz
        refine s3 h13 c hc ⟨?_, ?_⟩
        · show α 14 l (m * 5 + c) ≠ 0
          have := hj.1
          rw [r1] at this
          exact this
        · have := hj.2
          omega
      have kva : vw α l m a b w a = 4 * b + w := by rw [hf a, if_pos rfl]
      by_cases hj : A < (1 + pAlk α l m a b A) * 2
      · rw [if_pos hj] at e
        rw [e]
        have ka : pCnt (vw α l m a b w) a A = 1 + pAlk α l m a b A := k1 a (by rw [kva]; exact hvb)
        refine ⟨fun _ => ?_, fun q => by omega, fun _ c hc hjc => ?_, fun _ q => ?_, fun q => absurd h13 q⟩
        · have hch : pCh A α b m := by
            unfold pCh
            have u1 : pCnt (vw α l m a b w) a A ≤ psum (fun c => α 15 b (m * 5 + c)) A := by
              unfold pCnt
              refine psum_mono' A (fun c hc => ?_)
              show (if vw α l m a b w c ≠ 0 ∧ vw α l m a b w c / 4 = vw α l m a b w a / 4 then 1 else 0) ≤ α 15 b (m * 5 + c)
              by_cases q : vw α l m a b w c ≠ 0 ∧ vw α l m a b w c / 4 = vw α l m a b w a / 4
              · rw [if_pos q]
                have := (hvo c hc q.1).1
                rw [q.2, kva, hvb] at this
                omega
              · rw [if_neg q]
                exact Nat.zero_le _
            have u2 : psum (fun c => α 15 b (m * 5 + c)) A ≤ psum (fun c => α 15 b (m * 5 + c)) 5 := psum_le_n hA
            omega
          rw [h16]
          exact (hC m hm).2.1 b hch
        · by_cases z : vw α l m a b w c / 4 = b
          · have := (hvo c hc hjc.1).2.1
            rw [this, z, ← h16]
          · exact absurd hjc (k2 c hc z)
        · exact absurd ⟨by rw [kva]; exact hv0, by rw [ka]; omega⟩ (q a ha)
      · rw [if_neg hj] at e
        rw [e]
        have no : ∀ c, c < A → ¬ pMaj A (vw α l m a b w) c := fun c hc => by
          by_cases z : vw α l m a b w c / 4 = b
          · intro y
            have := y.2
            rw [k1 c z] at this
            omega
          · exact k2 c hc z
        exact ⟨fun q => absurd rfl q, fun _ => no, fun _ c hc q => absurd q (no c hc), fun _ _ => rfl, fun q => absurd h13 q⟩
    · have e : pOut A α l m a b w = 0 := by
        rw [← h13]
        exact if_pos (Or.inr hnew)
      have hf : vw α l m a b w = fun c => α 14 l (m * 5 + c) := by
        funext c
        unfold vw
        rw [if_neg (fun z => hnew z.2)]
      rw [e, hf]
      have no := s3 h13
      exact ⟨fun q => absurd rfl q, fun _ => no, fun _ c hc q => absurd q (no c hc), fun _ _ => rfl, fun q => absurd h13 q⟩
theorem dcd1 {R A : Nat} {α : pS} {l m a b w : Nat} (hm : m < R) (hD : iD1 R α l) (h0 : α 10 l 0 = 0) {g : Nat → Nat} (hg : ∀ c, g c = if c = m then pOut A α l m a b w else α 13 l c) (ho : pOut A α l m a b w ≤ 2) : pDcd R g = pDec R A α l m a b w := by
  obtain ⟨d1, d2⟩ := hD.1 h0
  have edec : pDec R A α l m a b w = if pOut A α l m a b w = 1 then (if ∀ c, c < R → c ≠ m → α 13 l c = 1 then 1 else 0) else if pOut A α l m a b w = 2 then 2 else 0 := if_neg (fun q => q h0)
  rw [edec]
  clear edec
  unfold pDcd
  generalize pOut A α l m a b w = o at hg ho
  have hgm : g m = o := by rw [hg m, if_pos rfl]
  by_cases o1 : o = 1
  · rw [if_pos o1]
    have n2 : ∀ c, c < R → g c ≠ 2 := fun c hc => by
      by_cases q : c = m
      · rw [q, hgm, o1]
        decide
      · rw [hg c, if_neg q]
        exact d1 c hc
    rw [if_pos n2]
    by_cases q : ∀ c, c < R → c ≠ m → α 13 l c = 1
    · rw [if_pos q, if_pos (fun c hc => by
        by_cases z : c = m
        · rw [z, hgm, o1]
        · rw [hg c, if_neg z]
          exact q c hc z)]
    · rw [if_neg q, if_neg (fun z => q (fun c hc hcm => by
        have := z c hc
        rw [hg c, if_neg hcm] at this
        exact this))]
  · rw [if_neg o1]
    by_cases o2 : o = 2
    · rw [if_pos o2, if_neg (fun q => q m hm (by rw [hgm, o2]))]
    · rw [if_neg o2]
      have n2 : ∀ c, c < R → g c ≠ 2 := fun c hc => by
        by_cases q : c = m
        · rw [q, hgm]
          exact o2
        · rw [hg c, if_neg q]
          exact d1 c hc
      rw [if_pos n2, if_neg (fun z => o1 (by rw [← hgm]; exact z m hm))]
theorem pOut_leT {R A T : Nat} {α : pS} (h : iN A T α) {l m a b w : Nat} (hw : w ≤ 2) : pOut A α l m a b w ≤ 2 := by
  unfold pOut
  split
  · exact h.1 13 _ _ (by decide) (by decide)
  · split
    · exact hw
    · exact Nat.zero_le _
theorem go1 {R A T : Nat} {α : pS} {x : pMsg} (hA : A ≤ 5) (h : iAll R A T α) (hx : iX R A T α x) (hk : x 0 = 1) : pGo1 R A α x := by
  obtain ⟨hl, ha, hm, hw, h16, h15⟩ := hx.2.2.2.1 hk
  obtain ⟨k1, k2, k3, k4, k5, k6⟩ := seen1 (l := x 1) hA h hl ha hm hw h16 h15
  refine ⟨fun m hm' => ?_, fun h0 => dcd1 hm (h.2.2.2.2.2.2.1 _ hl) h0 (fun c => rfl) (pOut_leT (R := R) h.1 (by omega))⟩
  by_cases q : m = x 3
  · subst q
    have e1 : gx A α x (x 3) = pOut A α (x 1) (x 3) (x 2) (x 4) (x 5) := if_pos rfl
    have e2 : vf α x (x 3) = vw α (x 1) (x 3) (x 2) (x 4) (x 5) := by
      funext c
      unfold vf vw
      by_cases z : c = x 2 ∧ pNew α (x 1) (x 3) (x 2) (x 4)
      · rw [if_pos z, if_pos ⟨rfl, z⟩]
      · rw [if_neg z, if_neg (fun y => z y.2)]
    rw [e1, e2]
    exact ⟨k6, fun z => ⟨k4 z, k5 z⟩⟩
  · have e1 : gx A α x m = α 13 (x 1) m := if_neg q
    have e2 : vf α x m = fun c => α 14 (x 1) (m * 5 + c) := by
      funext c
      unfold vf
      rw [if_neg (fun y => q y.1)]
    rw [e1, e2]
    obtain ⟨s1, s2, s3⟩ := h.2.2.2.2.2.1 (x 1) m hl hm'
    exact ⟨fun _ => rfl, fun z => ⟨fun c hc y => absurd y (s3 z c hc), fun _ => z⟩⟩
theorem see_kept {R A T : Nat} {α : pS} (hA : A ≤ 5) (h : iAll R A T α) {l m a b w : Nat} (hl : l < 3) (ha : a < A) (hm : m < R) (hb : b ≤ T) (hw : w = 1 ∨ w = 2) (h16 : w = α 16 b m) (h15 : α 15 b (m * 5 + a) ≠ 0) :
    kept R A T α (tSee R A α l m a b w, if pDec R A α l m a b w = α 10 l 0 then [] else lDecs R (pDec R A α l m a b w)) := by
  obtain ⟨k1, k2, k3, k4, k5, k6⟩ := seen1 (l := l) hA h hl ha hm hw h16 h15
  have ho := pOut_leT (R := R) (l := l) (m := m) (a := a) (b := b) (w := w) h.1 (by omega)
  obtain ⟨hN, hM, hI, hB, hL, hS, hD, hC⟩ := h
  have hdc : α 10 l 0 = 0 → ∀ g : Nat → Nat, (∀ c, g c = if c = m then pOut A α l m a b w else α 13 l c) → pDcd R g = pDec R A α l m a b w := fun h0 g hg => dcd1 hm (hD _ hl) h0 hg ho
  have hd0 : α 10 l 0 ≠ 0 → pDec R A α l m a b w = α 10 l 0 := fun q => if_pos q
  have hd2 : pDec R A α l m a b w ≤ 2 := by
    by_cases q : α 10 l 0 = 0
    · rw [← hdc q _ (fun c => rfl)]
      unfold pDcd
      split
      · split <;> omega
      · exact Nat.le_refl _
    · rw [hd0 q]
      exact hN.1 10 _ _ (by decide) (by decide)
  generalize hβ : tSee R A α l m a b w = β
  have o : ∀ c, c ≠ 10 → c ≠ 13 → c ≠ 14 → β c = α c := fun c h1 h2 h3 => by
    subst hβ
    unfold tSee
    rw [pu_c _ h1, pu_c _ h2]
    split
    · rw [pu_c _ h3]
    · rfl
  have oi : ∀ c i, i ≠ l → β c i = α c i := fun c i hi => by
    subst hβ
    unfold tSee
    rw [pu_i _ hi, pu_i _ hi]
    split
    · rw [pu_i _ hi]
    · rfl
  have e10 : β 10 l 0 = pDec R A α l m a b w := by
    subst hβ
    exact pu_at _ _ _ _ _
  have e13 : ∀ c, β 13 l c = if c = m then pOut A α l m a b w else α 13 l c := fun c => by
    subst hβ
    unfold tSee
    rw [pu_c _ (by decide)]
    by_cases q : c = m
    · rw [if_pos q, q, pu_at]
    · rw [if_neg q, pu_j _ q]
      split
      · rw [pu_c _ (by decide)]
      · rfl
  have e14 : ∀ c, c < 5 → β 14 l (m * 5 + c) = vw α l m a b w c := fun c hc => by
    subst hβ
    unfold tSee vw
    rw [pu_c _ (by decide), pu_c _ (by decide)]
    by_cases z : pNew α l m a b
    · rw [if_pos z]
      by_cases q : c = a
      · rw [if_pos ⟨q, z⟩, q, pu_at]
      · rw [if_neg (fun y => q y.1), pu_j _ (by omega)]
    · rw [if_neg z, if_neg (fun y => z y.2)]
  have e14o : ∀ m' c, m' ≠ m → c < 5 → β 14 l (m' * 5 + c) = α 14 l (m' * 5 + c) := fun m' c hm' hc => by
    subst hβ
    unfold tSee
    rw [pu_c _ (by decide), pu_c _ (by decide)]
    split
    · rw [pu_j _ (by omega)]
    · rfl
  have hNβ : iN A T β := by
    subst hβ
    unfold tSee
    refine iN_pu (iN_pu ?_ (by decide) (Or.inr ho)) (by decide) (Or.inr hd2)
    split
    · exact iN_pu hN (by decide) (Or.inr (by show 4 * b + w ≤ 4 * T + 2; omega))
    · exact hN
  have g : gro R α β := gro_same (o 5 (by decide) (by decide) (by decide)) (o 15 (by decide) (by decide) (by decide)) (o 16 (by decide) (by decide) (by decide)) (o 18 (by decide) (by decide) (by decide))
  have hSβ : iS R A β := fun i m' hi hm' => by
    by_cases q : i = l
    · subst q
      by_cases z : m' = m
      · subst z
        have em : β 13 i m' = pOut A α i m' a b w := by rw [e13, if_pos rfl]
        refine ⟨fun c hc hz => ?_, fun hz => ?_, fun hz c hc => ?_⟩
        · rw [e14 c (by omega)] at hz ⊢
          exact pVo_gro g hm' (k1 c hc hz)
        · rw [em] at hz ⊢
          rw [o 18 (by decide) (by decide) (by decide)]
          exact k2 hz
        · rw [em] at hz
          exact fun y => k3 hz c hc ((pMaj_congr (f := fun c => β 14 i (m' * 5 + c)) (g := vw α i m' a b w) (fun c hc => e14 c (by omega)) hc).mp y)
      · exact iS1_gro g hm' (by rw [e13, if_neg z]) (fun c hc => e14o m' c z (by omega)) (hS i m' hi hm')
    · exact iS1_gro g hm' (by rw [oi 13 i q]) (fun _ _ => by rw [oi 14 i q]) (hS i m' hi hm')
  have hdβ : pDc R β (pDec R A α l m a b w) := by
    by_cases q : α 10 l 0 = 0
    · have e := hdc q (β 13 l) e13
      rw [← e]
      unfold pDcd
      refine ⟨fun y m' hm' => ?_, fun y => ?_⟩
      · split at y
        · split at y
          · rename_i z
            have z' := z m' hm'
            have := (hSβ l m' hl hm').2.1 (by omega)
            omega
          · omega
        · omega
      · split at y
        · split at y <;> omega
        · rename_i z
          by_cases u : ∃ m', m' < R ∧ β 13 l m' = 2
          · obtain ⟨m', hm', v⟩ := u
            have := (hSβ l m' hl hm').2.1 (by omega)
            exact ⟨m', hm', by omega⟩
          · exact absurd (fun m' hm' v => u ⟨m', hm', v⟩) z
    · rw [hd0 q]
      exact pDc_gro g (hD l hl).2
  refine ⟨⟨hNβ, iM_gro g (o 3 (by decide) (by decide) (by decide)) (o 4 (by decide) (by decide) (by decide)) (fun m _ => by rw [show (β, (if pDec R A α l m a b w = α 10 l 0 then ([] : List pMsg) else [])).1 = β from rfl, o 16 (by decide) (by decide) (by decide)]) (fun b' m hm q => (hM m hm).2.2.1 b' (by have q : β 16 b' m = 1 := q; rw [o 16 (by decide) (by decide) (by decide)] at q; exact q)) hM, iA_gro g (o 15 (by decide) (by decide) (by decide)) (o 6 (by decide) (by decide) (by decide)) hI, iB_gro g hA (fun b' m _ _ q => by have q : β 16 b' m ≠ 0 := q; rw [o 16 (by decide) (by decide) (by decide)] at q; exact q) (fun i => by show α 9 i 0 ≤ β 9 i 0; rw [o 9 (by decide) (by decide) (by decide)]; exact Nat.le_refl _) hB, fun i hi => iL1_gro g hA (by show β 7 i = _; rw [o 7 (by decide) (by decide) (by decide)]) (by show β 8 i = _; rw [o 8 (by decide) (by decide) (by decide)]) (by show _ ≤ β 9 i 0; rw [o 9 (by decide) (by decide) (by decide)]; exact Nat.le_refl _) (by show β 11 i = _; rw [o 11 (by decide) (by decide) (by decide)]) (by show β 12 i = _; rw [o 12 (by decide) (by decide) (by decide)]) (by show β 20 i = _; rw [o 20 (by decide) (by decide) (by decide)]) (fun m _ _ => by show β 16 _ m = _; rw [o 16 (by decide) (by decide) (by decide)]) (hL i hi), hSβ, fun i hi => ?_, iC_gro g hN hI (o 15 (by decide) (by decide) (by decide)) (o 18 (by decide) (by decide) (by decide)) (o 19 (by decide) (by decide) (by decide)) hC⟩, g, fun y hy => ?_⟩
  · show iD1 R β i
    by_cases q : i = l
    · subst q
      unfold iD1
      rw [e10]
      refine ⟨fun hz => ?_, hdβ⟩
      have q : α 10 i 0 = 0 := by
        by_cases z : α 10 i 0 = 0
        · exact z
        · rw [hd0 z] at hz
          exact hz
      have e := hdc q (β 13 i) e13
      rw [hz] at e
      unfold pDcd at e
      split at e
      · rename_i z
        refine ⟨z, ?_⟩
        split at e
        · omega
        · rename_i u
          by_cases v : ∃ m', m' < R ∧ β 13 i m' ≠ 1
          · exact v
          · refine absurd (fun m' hm' => ?_) u
            by_cases t : β 13 i m' = 1
            · exact t
            · exact absurd ⟨m', hm', t⟩ v
      · omega
    · exact iD1_gro g (by rw [oi 10 i q]) (oi 13 i q) (hD i hi)
  · dsimp only at hy
    split at hy
    · cases hy
    · rename_i hz
      have q : α 10 l 0 = 0 := by
        by_cases z : α 10 l 0 = 0
        · exact z
        · exact absurd (hd0 z) hz
      exact dec_ok (by omega) hdβ y hy
theorem kept1 {R A T : Nat} {α : pS} {x : pMsg} (hA : A ≤ 5) (h : iAll R A T α) (hx : iX R A T α x) (hk : x 0 = 1) : kept R A T α (pTake R A α x) := by
  obtain ⟨hl, ha, hm, hw, h16, h15⟩ := hx.2.2.2.1 hk
  have hT := hx.1
  have h9 := nine (l := x 1) hA h hT
  have hg9 : gro R α (pu α 9 (x 1) 0 (pMax (α 9 (x 1) 0) (x 4))) := gro_same rfl rfl rfl rfl
  have H := see_kept hA h9 hl ha hm hT hw h16 h15
  have e : pTake R A α x = (tSee R A (pu α 9 (x 1) 0 (pMax (α 9 (x 1) 0) (x 4))) (x 1) (x 3) (x 2) (x 4) (x 5), if pDec R A (pu α 9 (x 1) 0 (pMax (α 9 (x 1) 0) (x 4))) (x 1) (x 3) (x 2) (x 4) (x 5) = (pu α 9 (x 1) 0 (pMax (α 9 (x 1) 0) (x 4))) 10 (x 1) 0 then [] else lDecs R (pDec R A (pu α 9 (x 1) 0 (pMax (α 9 (x 1) 0) (x 4))) (x 1) (x 3) (x 2) (x 4) (x 5))) := by
    unfold pTake
    rw [hk]
    rfl
  rw [e]
  exact ⟨H.1, gro_trans hg9 H.2.1, H.2.2⟩
theorem kept_take {R A T : Nat} {α : pS} {x : pMsg} (hRA : pRA R A) (h : iAll R A T α) (hx : iX R A T α x) : kept R A T α (pTake R A α x) := by
  have hR := hRA.2.1
  have hA' := hRA.2.2
  have hA : A ≤ 5 := by omega
  have h5 := hx.2.1
  have c : x 0 = 0 ∨ x 0 = 1 ∨ x 0 = 2 ∨ x 0 = 3 ∨ x 0 = 4 ∨ x 0 = 5 := by omega
  rcases c with c | c | c | c | c | c
  · exact kept0 hA' h hx c
  · exact kept1 hA h hx c
  · exact kept2 hA h hx c
  · exact kept3 hR hA h hx c
  · exact kept4 h hx c
  · exact kept5 h hx c
theorem inv_brg {R A T : Nat} {s : pT} {x : pMsg} {i : Nat} (hRA : pRA R A) (h : pInv R A T s) (hi : s.2[i]? = some x) (hs : sBrg R A x s) : pInv R A T (tBrg R A i x s) := by
  have hA : A ≤ 5 := by have := hRA.2.2; omega
  obtain ⟨hI, hx, hl⟩ := h
  have hxx := hx x (List.mem_of_getElem? hi)
  have K : kept R A T s.1 (if pUpOf s.1 x = 0 then (s.1, []) else pTake R A s.1 x) := by
    split
    · exact kept_no hI
    · exact kept_take hRA hI hxx
  have hlen : (if pUpOf s.1 x = 0 then (s.1, []) else pTake R A s.1 x).2.length = pAnsH R A s.1 x := by
    unfold pAnsH
    split
    · rfl
    · exact pTake_len hxx.2.1
  have hil : i < s.2.length := by
    by_cases q : i < s.2.length
    · exact q
    · rw [List.getElem?_eq_none (by omega)] at hi
      cases hi
  have he : (s.2.eraseIdx i).length = s.2.length - 1 := by rw [List.length_eraseIdx, if_pos hil]
  unfold tBrg
  dsimp only
  generalize (if pUpOf s.1 x = 0 then (s.1, []) else pTake R A s.1 x) = t at K hlen
  obtain ⟨K1, K2, K3⟩ := K
  have G : gro R t.1 (pu (pSnd t.1 t.2.length) 1 1 0 (t.1 1 1 0 + 1)) := gro_same rfl rfl rfl rfl
  refine pInv_of (gro_trans K2 G) hA (Nat.le_refl T) (pu1_all 1 0 _ (snd_all _ K1)) hx (fun y hy => List.mem_of_mem_eraseIdx hy) (fun y hy => iX_gro G hA (Nat.le_refl T) (K3 y hy)) ?_
  rw [List.length_append, he, hlen]
  have hs' : s.2.length + pAnsH R A s.1 x ≤ 401 := hs
  omega
theorem inv_go {R A T : Nat} {s : pT} {x : pMsg} {i : Nat} (hRA : pRA R A) (h : pInv R A T s) (hi : s.2[i]? = some x) : pGo R A s.1 x := by
  have hA : A ≤ 5 := by have := hRA.2.2; omega
  have hxx := h.2.1 x (List.mem_of_getElem? hi)
  exact ⟨fun k => (hxx.2.2.1 k).2.2.2, fun k => go1 hA h.1 hxx k, fun k => go3 hA h.1 hxx k⟩
theorem inv_bu {R A T : Nat} {s : pT} (h : pInv R A T s) (hT : T ≤ 1536) : pBu s.1 := fun c i j h1 h2 => by
  have e : ∀ c : Fin 21, pBT 1536 c.1 ≤ pBnd c.1 := by decide
  exact Nat.le_trans (h.1.1.1 c i j h1 h2) (Nat.le_trans (pBT_mono hT c) (e ⟨c, by omega⟩))
theorem inv_mk {R A T : Nat} {s : pT} (h : pInv R A T s) (hT : T ≤ 1536) {i : Nat} {x : pMsg} (hi : s.2[i]? = some x) : pMk R A x := by
  obtain ⟨h4, h5, k0, k1, k2, k3, k4, k5⟩ := h.2.1 x (List.mem_of_getElem? hi)
  exact ⟨by omega, fun e => ⟨(k0 e).1, (k0 e).2.1, (k0 e).2.2.1⟩, fun e => ⟨(k1 e).1, (k1 e).2.1, (k1 e).2.2.1, (k1 e).2.2.2.1⟩, k2, fun e => ⟨(k3 e).1, (k3 e).2.1, (k3 e).2.2.1, fun m => by have := (k3 e).2.2.2.1 m; omega⟩, fun e => ⟨(k4 e).1, (k4 e).2.1⟩, k5, h5⟩
theorem inv_calm {R A T : Nat} (hRA : pRA R A) : ∀ (n : Nat) (s : pT), pInv R A T s → pInv R A T (tCalm R A n s).2
  | 0, s, h => h
  | n + 1, s, h => by
    unfold tCalm
    split
    · exact h
    · rename_i x l e
      split
      · rename_i hs
        exact inv_calm hRA n _ (inv_brg hRA h (i := 0) (by rw [e]; rfl) hs)
      · exact h
/-- the state at the beginning -/
def α0 : pS := fun c _ _ => if c = 2 then 1 else 0
theorem inv_0 {R A : Nat} (hRA : pRA R A) : pInv R A 0 (α0, []) := by
  have z : ∀ c i j, c ≠ 2 → α0 c i j = 0 := fun c i j h => if_neg h
  have p0 : ∀ b m, psum (fun a => α0 15 b (m * 5 + a)) 5 = 0 := fun b m => psum_0 (fun a => z _ _ _ (by decide)) 5
  refine ⟨⟨⟨fun c i j h1 h2 => ?_, fun b m a _ _ => rfl⟩, fun m hm => ⟨fun _ => ⟨rfl, rfl⟩, fun q => ?_, fun b q => ?_, fun q => ?_, fun q => ?_⟩, fun a m ha hm => ⟨fun b q => absurd rfl q, fun q => absurd rfl q⟩, fun b m hm _ q => absurd rfl q, fun l hl => ⟨Nat.le_refl _, fun q => ?_, fun a _ => rfl, fun a m _ q => absurd rfl q, fun m _ q => absurd rfl q⟩, fun l m hl hm => ⟨fun a _ q => absurd rfl q, fun q => absurd rfl q, fun _ a _ q => q.1 rfl⟩, fun l hl => ⟨fun _ => ⟨fun m _ q => ?_, 0, hRA.1, fun q => ?_⟩, fun q => ?_, fun q => ?_⟩, fun m hm => ⟨rfl, fun b q => ?_, fun q => absurd rfl q⟩⟩, fun x hx => (by cases hx), Nat.zero_le _⟩
  · by_cases q : c = 2
    · subst q
      exact Nat.le_refl 1
    · show α0 c i j ≤ _
      rw [z c i j q]
      exact Nat.zero_le _
  · have : (0 = 1 ∨ 0 = 2) := q
    omega
  · have : 0 = 1 := q
    omega
  · have : 0 - 2 = 1 := q
    omega
  · have : 0 - 2 = 2 := q
    omega
  · have : 0 = 1 := q
    omega
  · have : 0 = 2 := q
    omega
  · have : 0 = 1 := q
    omega
  · have : 0 = 1 := q
    omega
  · have : 0 = 2 := q
    omega
  · unfold pCh at q
    have e : psum (fun a => (α0, ([] : List pMsg)).1 15 b (m * 5 + a)) 5 = 0 := p0 b m
    rw [e] at q
    omega
