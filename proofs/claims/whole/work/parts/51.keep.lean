/-! THE INVARIANT IS KEPT -/
theorem pBT_mono {T T' : Nat} (h : T ≤ T') (c : Nat) : pBT T c ≤ pBT T' c := by
  unfold pBT
  split <;> omega
theorem iN_mono {A T T' : Nat} {α : pS} (h : T ≤ T') (hN : iN A T α) : iN A T' α := ⟨fun c i j h1 h2 => Nat.le_trans (hN.1 c i j h1 h2) (pBT_mono h c), hN.2⟩
theorem iN_pu {A T : Nat} {α : pS} (h : iN A T α) {c i j v : Nat} (hc : c ≠ 15) (hv : c < 2 ∨ v ≤ pBT T c) : iN A T (pu α c i j v) := by
  refine ⟨fun x y z h1 h2 => ?_, fun b m a h1 h2 => ?_⟩
  · unfold pu
    split
    · rename_i q
      rw [q.1] at h1 ⊢
      rcases hv with hv | hv
      · omega
      · exact hv
    · exact h.1 x y z h1 h2
  · rw [pu_c _ (fun q => hc q.symm)]
    exact h.2 b m a h1 h2
theorem iN_pu15 {A T : Nat} {α : pS} (h : iN A T α) {b m a : Nat} (ha : a < A) (hA : A ≤ 5) : iN A T (pu α 15 b (m * 5 + a) 1) := by
  refine ⟨fun x y z h1 h2 => ?_, fun b' m' a' h1 h2 => ?_⟩
  · unfold pu
    split
    · rename_i q
      rw [q.1]
      exact Nat.le_refl 1
    · exact h.1 x y z h1 h2
  · rw [pu_j _ (by omega)]
    exact h.2 b' m' a' h1 h2
theorem iN_clr {A T : Nat} {α : pS} (h : iN A T α) (c l : Nat) : iN A T (pClr α c l) := by
  refine ⟨fun x y z h1 h2 => ?_, fun b m a h1 h2 => ?_⟩
  · unfold pClr
    split
    · exact Nat.zero_le _
    · exact h.1 x y z h1 h2
  · unfold pClr
    split
    · rfl
    · exact h.2 b m a h1 h2
theorem iN_snd {A T : Nat} {α : pS} (h : iN A T α) (k : Nat) : iN A T (pSnd α k) := iN_pu h (by decide) (Or.inl (by decide))
theorem pSnd_c (α : pS) {k x : Nat} (h : x ≠ 1) : pSnd α k x = α x := pu_c α h
theorem iX_same {R A T : Nat} {α β : pS} (h5 : β 5 = α 5) (h15 : β 15 = α 15) (h16 : β 16 = α 16) (h18 : β 18 = α 18) {x : pMsg} (h : iX R A T α x) : iX R A T β x := by
  unfold iX pTo pVo pDc at h ⊢
  rw [h5, h15, h16, h18]
  exact h
/-- the invariant speaks of some components only -/
theorem iAll_same {R A T : Nat} {α β : pS} (h3 : β 3 = α 3) (h4 : β 4 = α 4) (h5 : β 5 = α 5) (h6 : β 6 = α 6) (h7 : β 7 = α 7) (h8 : β 8 = α 8) (h9 : β 9 = α 9) (h10 : β 10 = α 10) (h11 : β 11 = α 11) (h12 : β 12 = α 12) (h13 : β 13 = α 13) (h14 : β 14 = α 14) (h15 : β 15 = α 15) (h16 : β 16 = α 16) (h18 : β 18 = α 18) (h19 : β 19 = α 19) (h20 : β 20 = α 20) (hN : iN A T β) (h : iAll R A T α) : iAll R A T β := by
  refine ⟨hN, ?_⟩
  have h' := h.2
  unfold iM iA iB iL iL1 iS iS1 iD iD1 iC pWy pTo pVo pDc pCh at h' ⊢
  rw [h3, h4, h5, h6, h7, h8, h9, h10, h11, h12, h13, h14, h15, h16, h18, h19, h20]
  exact h'
/-- messages that are added -/
theorem pInv_of {R A T T' : Nat} {s : pT} {β : pS} {ms l : List pMsg} (hg : gro R s.1 β) (hA : A ≤ 5) (hT : T ≤ T') (hI : iAll R A T' β) (hs : ∀ x ∈ s.2, iX R A T s.1 x) (hm : ∀ x ∈ ms, x ∈ s.2) (hl : ∀ x ∈ l, iX R A T' β x) (hn : (ms ++ l).length ≤ 400) : pInv R A T' (β, ms ++ l) := by
  refine ⟨hI, fun x hx => ?_, hn⟩
  rcases List.mem_append.mp hx with q | q
  · exact iX_gro hg hA hT (hs x (hm x q))
  · exact hl x q
theorem snd_all {R A T : Nat} {α : pS} (k : Nat) (h : iAll R A T α) : iAll R A T (pSnd α k) :=
  iAll_same (pSnd_c _ (by decide)) (pSnd_c _ (by decide)) (pSnd_c _ (by decide)) (pSnd_c _ (by decide)) (pSnd_c _ (by decide)) (pSnd_c _ (by decide)) (pSnd_c _ (by decide)) (pSnd_c _ (by decide)) (pSnd_c _ (by decide)) (pSnd_c _ (by decide)) (pSnd_c _ (by decide)) (pSnd_c _ (by decide)) (pSnd_c _ (by decide)) (pSnd_c _ (by decide)) (pSnd_c _ (by decide)) (pSnd_c _ (by decide)) (pSnd_c _ (by decide)) (iN_snd h.1 k) h
theorem pu1_all {R A T : Nat} {α : pS} (j k v : Nat) (h : iAll R A T α) : iAll R A T (pu α 1 j k v) :=
  iAll_same (pu_c _ (by decide)) (pu_c _ (by decide)) (pu_c _ (by decide)) (pu_c _ (by decide)) (pu_c _ (by decide)) (pu_c _ (by decide)) (pu_c _ (by decide)) (pu_c _ (by decide)) (pu_c _ (by decide)) (pu_c _ (by decide)) (pu_c _ (by decide)) (pu_c _ (by decide)) (pu_c _ (by decide)) (pu_c _ (by decide)) (pu_c _ (by decide)) (pu_c _ (by decide)) (pu_c _ (by decide)) (iN_pu h.1 (by decide) (Or.inl (by decide))) h
theorem up_all {R A T : Nat} {α : pS} (j k : Nat) {v : Nat} (hv : v ≤ 1) (h : iAll R A T α) : iAll R A T (pu α 2 j k v) :=
  iAll_same (pu_c _ (by decide)) (pu_c _ (by decide)) (pu_c _ (by decide)) (pu_c _ (by decide)) (pu_c _ (by decide)) (pu_c _ (by decide)) (pu_c _ (by decide)) (pu_c _ (by decide)) (pu_c _ (by decide)) (pu_c _ (by decide)) (pu_c _ (by decide)) (pu_c _ (by decide)) (pu_c _ (by decide)) (pu_c _ (by decide)) (pu_c _ (by decide)) (pu_c _ (by decide)) (pu_c _ (by decide)) (iN_pu h.1 (by decide) (Or.inr hv)) h
theorem gro_snd (R : Nat) (α : pS) (k : Nat) : gro R α (pSnd α k) := gro_same (pSnd_c _ (by decide)) (pSnd_c _ (by decide)) (pSnd_c _ (by decide)) (pSnd_c _ (by decide))
theorem gro_trans {R : Nat} {α β γ : pS} (h : gro R α β) (k : gro R β γ) : gro R α γ := by
  obtain ⟨a1, a2, a3, a4, a5⟩ := h
  obtain ⟨b1, b2, b3, b4, b5⟩ := k
  refine ⟨fun a => Nat.le_trans (a1 a) (b1 a), fun b j q => b2 b j (a2 b j q), fun b m a hm ha q r => b3 b m a hm ha (a3 b m a hm ha q r) (Nat.lt_of_lt_of_le r (a1 a)), fun b m hm q => ?_, fun m hm q => ?_⟩
  · have e := a4 b m hm q
    rw [b4 b m hm (by rw [e]; exact q), e]
  · have e := a5 m hm q
    rw [b5 m hm (by rw [e]; exact q), e]
section KEEP
variable {R A : Nat} {α β : pS}
theorem iA_gro (g : gro R α β) (h15 : β 15 = α 15) (h6 : β 6 = α 6) (h : iA R A α) : iA R A β := by
  intro a m ha hm
  obtain ⟨q1, q2⟩ := h a m ha hm
  rw [h15, h6]
  refine ⟨fun b hb => ?_, fun hz => pVo_gro g hm (q2 hz)⟩
  obtain ⟨r1, r2, r3, r4⟩ := q1 b hb
  exact ⟨by rw [g.2.2.2.1 b m hm r1]; exact r1, Nat.le_trans r2 (g.1 a), r3, r4⟩
theorem ch_nz {T : Nat} (hN : iN A T α) (hI : iA R A α) {b m : Nat} (hm : m < R) (hb : pCh A α b m) : α 16 b m ≠ 0 := by
  obtain ⟨a, ha, q⟩ := one_of hb
  by_cases h : A ≤ a
  · exact absurd (hN.2 b m a h ha) q
  · exact ((hI a m (by omega) hm).1 b q).1
theorem iC_gro {T : Nat} (g : gro R α β) (hN : iN A T α) (hI : iA R A α) (h15 : β 15 = α 15) (h18 : β 18 = α 18) (h19 : β 19 = α 19) (h : iC R A α) : iC R A β := by
  intro m hm
  obtain ⟨q1, q2, q3⟩ := h m hm
  have e : ∀ b, pCh A β b m ↔ pCh A α b m := fun b => by unfold pCh; rw [h15]
  rw [h18, h19]
  refine ⟨q1, fun b hb => ?_, fun hz => ?_⟩
  · have hb' := (e b).mp hb
    rw [g.2.2.2.1 b m hm (ch_nz hN hI hm hb')]
    exact q2 b hb'
  · obtain ⟨b, hb, r⟩ := q3 hz
    refine ⟨b, (e b).mpr hb, ?_⟩
    rw [g.2.2.2.1 b m hm (ch_nz hN hI hm hb)]
    exact r
end KEEP
/-! the calls -/
theorem vote_ok {R A T : Nat} {α : pS} {m b w : Nat} (hm : m < R) (hb : b ≤ T) (hw : w = 1 ∨ w = 2) (h16 : α 16 b m = w) : ∀ x ∈ lVotes A m b w, iX R A T α x := by
  intro x hx
  unfold lVotes at hx
  obtain ⟨a, ha, rfl⟩ := List.mem_map.mp hx
  have ha' := List.mem_range.mp ha
  refine ⟨hb, Nat.zero_le _, fun _ => ⟨ha', hm, hw, h16.symm⟩, fun q => ?_, fun q => ?_, fun q => ?_, fun q => ?_, fun q => ?_⟩
  all_goals exact absurd q (by show ¬ (0 = _); decide)
theorem pInv_len {R A T : Nat} {s : pT} (h : pInv R A T s) : s.2.length ≤ 400 := h.2.2
theorem inv_say {R A T : Nat} {s : pT} (hRA : pRA R A) (h : pInv R A T s) {m w : Nat} (hm : m < R) (hw : w = 1 ∨ w = 2) (hs : sSay A m w s) : pInv R A T (tSay A m w s) := by
  have hA : A ≤ 5 := by have := hRA.2.2; omega
  obtain ⟨⟨hN, hM, hI, hB, hL, hS, hD, hC⟩, hx, hl⟩ := h
  obtain ⟨-, h0, hlen⟩ := hs
  obtain ⟨z16, z4⟩ := (hM m hm).1 h0
  have g : gro R s.1 (pu (pu (pu s.1 3 m 0 w) 4 m 0 w) 16 0 m w) := by
    refine ⟨fun a => Nat.le_of_eq rfl, fun b j q => q, fun b m' a _ _ q _ => q, fun b m' hm' q => ?_, fun _ _ _ => rfl⟩
    by_cases e : b = 0 ∧ m' = m
    · rw [e.1, e.2] at q
      exact absurd z16 q
    · exact if_neg (fun z => e ⟨z.2.1, z.2.2⟩)
  have k16 : ∀ b m', 1 ≤ b → (pu (pu (pu s.1 3 m 0 w) 4 m 0 w) 16 0 m w) 16 b m' = s.1 16 b m' := fun b m' hb => if_neg (fun z => by omega)
  have hw2 : w ≤ 2 := by omega
  have k : iAll R A T (pu (pu (pu s.1 3 m 0 w) 4 m 0 w) 16 0 m w) := by
    refine ⟨iN_pu (iN_pu (iN_pu hN (by decide) (Or.inr (by show w ≤ 4; omega))) (by decide) (Or.inr hw2)) (by decide) (Or.inr hw2), ?_, iA_gro g rfl rfl hI, iB_gro g hA (fun b m' _ hb q => by rw [k16 b m' hb] at q; exact q) (fun l => Nat.le_of_eq rfl) hB, fun l hl => iL1_gro g hA rfl rfl (Nat.le_of_eq rfl) rfl rfl rfl (fun m' _ e => k16 _ m' ((hL l hl).2.1 e).1) (hL l hl), fun l m' hl hm' => iS1_gro g hm' rfl (fun _ _ => rfl) (hS l m' hl hm'), fun l hl => iD1_gro g rfl rfl (hD l hl), iC_gro g hN hI rfl rfl rfl hC⟩
    intro m' hm'
    obtain ⟨q1, q2, q3, q4⟩ := hM m' hm'
    by_cases e : m' = m
    · subst e
      have e3 : (pu (pu (pu s.1 3 m' 0 w) 4 m' 0 w) 16 0 m' w) 3 m' 0 = w := by simp [pu]
      have e4 : (pu (pu (pu s.1 3 m' 0 w) 4 m' 0 w) 16 0 m' w) 4 m' 0 = w := by simp [pu]
      have e16 : (pu (pu (pu s.1 3 m' 0 w) 4 m' 0 w) 16 0 m' w) 16 0 m' = w := by simp [pu]
      rw [e3, e4, e16]
      refine ⟨fun q => by omega, fun _ => ⟨rfl, rfl⟩, fun b hb => ?_, ⟨fun q => by omega, fun q => by omega⟩⟩
      by_cases z : b = 0
      · rw [z, e16] at hb
        exact hb
      · rw [k16 b m' (by omega)] at hb
        have := q3 b hb
        omega
    · have e3 : (pu (pu (pu s.1 3 m 0 w) 4 m 0 w) 16 0 m w) 3 m' 0 = s.1 3 m' 0 := by simp [pu, e]
      have e4 : (pu (pu (pu s.1 3 m 0 w) 4 m 0 w) 16 0 m w) 4 m' 0 = s.1 4 m' 0 := by simp [pu, e]
      have e16 : ∀ b, (pu (pu (pu s.1 3 m 0 w) 4 m 0 w) 16 0 m w) 16 b m' = s.1 16 b m' := fun b => by simp [pu, e]
      rw [e3, e4, e16]
      exact ⟨q1, q2, fun b hb => q3 b (by rw [e16] at hb; exact hb), pDc_gro g q4⟩
  refine pInv_of (gro_trans g (gro_snd R _ A)) hA (Nat.le_refl T) (snd_all A k) hx (fun _ q => q) (vote_ok hm (Nat.zero_le _) hw ?_) ?_
  · show (pu (pu (pu s.1 3 m 0 w) 4 m 0 w) 16 0 m w) 16 0 m = w
    simp [pu]
  · unfold lVotes
    simp
    omega
theorem inv_res {R A T : Nat} {s : pT} (hRA : pRA R A) (h : pInv R A T s) {m : Nat} (hm : m < R) (hs : sRes A m s) : pInv R A T (tRes A m s) := by
  have hA : A ≤ 5 := by have := hRA.2.2; omega
  obtain ⟨hI, hx, hl⟩ := h
  obtain ⟨-, h1, hlen⟩ := hs
  obtain ⟨z16, z4⟩ := (hI.2.1 m hm).2.1 h1
  refine pInv_of (gro_snd R _ A) hA (Nat.le_refl T) (snd_all A hI) hx (fun _ q => q) (vote_ok hm (Nat.zero_le _) (by omega) ?_) ?_
  · show s.1 16 0 m = _
    omega
  · unfold lVotes
    simp
    omega
theorem inv_que {R A T : Nat} {s : pT} (hRA : pRA R A) (h : pInv R A T s) {m : Nat} (hm : m < R) (hs : sQue m s) : pInv R A T (tQue m s) := by
  have hA : A ≤ 5 := by have := hRA.2.2; omega
  obtain ⟨hI, hx, hl⟩ := h
  refine pInv_of (gro_snd R _ 3) hA (Nat.le_refl T) (snd_all 3 hI) hx (fun _ q => q) ?_ ?_
  · intro x hx
    unfold lQues at hx
    obtain ⟨a, ha, rfl⟩ := List.mem_map.mp hx
    have ha' := List.mem_range.mp ha
    refine ⟨Nat.zero_le _, Nat.le_refl 5, fun q => ?_, fun q => ?_, fun q => ?_, fun q => ?_, fun q => ?_, fun q => ⟨ha', hm⟩⟩
    all_goals exact absurd q (by show ¬ (5 = _); decide)
  · unfold lQues
    simp
    have := hs.2
    omega
theorem dec_ok {R A T : Nat} {α : pS} {d : Nat} (hd : d = 1 ∨ d = 2) (h : pDc R α d) : ∀ x ∈ lDecs R d, iX R A T α x := by
  intro x hx
  unfold lDecs at hx
  obtain ⟨a, ha, rfl⟩ := List.mem_map.mp hx
  have ha' := List.mem_range.mp ha
  refine ⟨Nat.zero_le _, by show 4 ≤ 5; decide, fun q => ?_, fun q => ?_, fun q => ?_, fun q => ?_, fun q => ⟨ha', hd, h⟩, fun q => ?_⟩
  all_goals exact absurd q (by show ¬ (4 = _); decide)
theorem lob_ok {l h : Nat} (hl : l < 3) : 1 ≤ lob l h ∧ (lob l h - 1) % 3 = l ∧ h < lob l h ∧ lob l h ≤ h + 3 := by
  unfold lob
  split <;> omega
theorem psum_0 {f : Nat → Nat} (h : ∀ i, f i = 0) : ∀ n, psum f n = 0
  | 0 => rfl
  | n + 1 => by
    show psum f n + f n = 0
    rw [psum_0 h n, h n]
theorem inv_beg {R A T : Nat} {s : pT} (hRA : pRA R A) (h : pInv R A T s) {l : Nat} (hl : l < 3) (hs : sBeg R A l s) : pInv R A (T + 3) (tBeg R A l s) := by
  have hA : A ≤ 5 := by have := hRA.2.2; omega
  obtain ⟨⟨hN, hM, hI, hB, hL, hS, hD, hC⟩, hx, hlen⟩ := h
  obtain ⟨b1, b2, b3, b4⟩ := lob_ok (l := l) (h := s.1 9 l 0) hl
  have hbT : lob l (s.1 9 l 0) ≤ T + 3 := by
    have : s.1 9 l 0 ≤ T := hN.1 9 l 0 (by decide) (by decide)
    omega
  have hN3 := iN_mono (T' := T + 3) (by omega) hN
  unfold tBeg
  dsimp only
  generalize lob l (s.1 9 l 0) = b at b1 b2 b3 b4 hbT
  generalize hβ : pu (pClr (pClr (pu (pu (pu s.1 7 l 0 b) 9 l 0 b) 8 l 0 1) 11 l) 20 l) 1 2 0 (s.1 1 2 0 + 1) = β
  have e3 : β 3 = s.1 3 := by subst hβ; rfl
  have e4 : β 4 = s.1 4 := by subst hβ; rfl
  have e5 : β 5 = s.1 5 := by subst hβ; rfl
  have e6 : β 6 = s.1 6 := by subst hβ; rfl
  have e10 : β 10 = s.1 10 := by subst hβ; rfl
  have e12 : β 12 = s.1 12 := by subst hβ; rfl
  have e13 : β 13 = s.1 13 := by subst hβ; rfl
  have e14 : β 14 = s.1 14 := by subst hβ; rfl
  have e15 : β 15 = s.1 15 := by subst hβ; rfl
  have e16 : β 16 = s.1 16 := by subst hβ; rfl
  have e18 : β 18 = s.1 18 := by subst hβ; rfl
  have e19 : β 19 = s.1 19 := by subst hβ; rfl
  have o : ∀ c i, 2 ≤ c → i ≠ l → β c i = s.1 c i := fun c i hc hi => by
    subst hβ
    rw [pu_c _ (by omega), pClr_i _ hi, pClr_i _ hi, pu_i _ hi, pu_i _ hi, pu_i _ hi]
  have e7 : β 7 l 0 = b := by subst hβ; simp [pu, pClr]
  have e9 : β 9 l 0 = b := by subst hβ; simp [pu, pClr]
  have e8 : β 8 l 0 = 1 := by subst hβ; simp [pu, pClr]
  have e11 : ∀ a, β 11 l a = 0 := fun a => by subst hβ; simp [pu, pClr]
  have e20 : ∀ a, β 20 l a = 0 := fun a => by subst hβ; simp [pu, pClr]
  have g : gro R s.1 β := gro_same e5 e15 e16 e18
  have hNβ : iN A (T + 3) β := by
    subst hβ
    exact iN_pu (iN_clr (iN_clr (iN_pu (iN_pu (iN_pu hN3 (by decide) (Or.inr hbT)) (by decide) (Or.inr hbT)) (by decide) (Or.inr (by show 1 ≤ 2; decide))) _ _) _ _) (by decide) (Or.inl (by decide))
  have k : iAll R A (T + 3) β := by
    refine ⟨hNβ, iM_gro g e3 e4 (fun m _ => by rw [e16]) (fun b' m hm q => (hM m hm).2.2.1 b' (by rw [e16] at q; exact q)) hM, iA_gro g e15 e6 hI, iB_gro g hA (fun b' m _ _ q => by rw [e16] at q; exact q) (fun i => ?_) hB, fun i hi => ?_, fun i m hi hm => iS1_gro g hm (by rw [e13]) (fun _ _ => by rw [e14]) (hS i m hi hm), fun i hi => iD1_gro g (by rw [e10]) (by rw [e13]) (hD i hi), iC_gro g hN hI e15 e18 e19 hC⟩
    · by_cases q : i = l
      · subst q
        rw [e9]
        omega
      · rw [o 9 i (by decide) q]
        exact Nat.le_refl _
    · by_cases q : i = l
      · subst q
        unfold iL1
        rw [e7, e8, e9]
        refine ⟨Nat.le_refl _, fun _ => ⟨b1, b2, fun m hm => ?_, ?_⟩, fun a _ => e11 a, fun a m _ ha => absurd (e11 a) ha, fun m _ ha => absurd (e20 m) ha⟩
        · rw [e16]
          by_cases z : s.1 16 b m = 0
          · exact z
          · have := (hB b m hm b1 z).1
            rw [b2] at this
            omega
        · rw [psum_0 e11]
          omega
      · exact iL1_gro g hA (o 7 i (by decide) q) (o 8 i (by decide) q) (by rw [o 9 i (by decide) q]; exact Nat.le_refl _) (o 11 i (by decide) q) (o 12 i (by decide) q) (o 20 i (by decide) q) (fun m _ _ => by rw [e16]) (hL i hi)
  refine pInv_of (gro_trans g (gro_snd R _ _)) hA (by omega) (snd_all _ k) hx (fun _ q => q) (fun x hx => ?_) ?_
  · rcases List.mem_append.mp hx with q | q
    · unfold lAsks at q
      obtain ⟨a, ha, rfl⟩ := List.mem_map.mp q
      have ha' := List.mem_range.mp ha
      refine ⟨hbT, by show 2 ≤ 5; decide, fun q => ?_, fun q => ?_, fun q => ⟨ha', b1⟩, fun q => ?_, fun q => ?_, fun q => ?_⟩
      all_goals exact absurd q (by show ¬ (2 = _); decide)
    · split at q
      · cases q
      · rename_i hz
        have h2 : s.1 10 l 0 ≤ 2 := hN.1 10 l 0 (by decide) (by decide)
        have hd := (hD l hl).2
        refine dec_ok (by omega) (pDc_gro (gro_trans g (gro_snd R _ _)) hd) x q
  · have := hs.2
    unfold nBeg at this
    unfold lAsks lDecs
    split
    · rename_i hz
      rw [if_pos hz] at this
      simp
      omega
    · rename_i hz
      rw [if_neg hz] at this
      simp
      omega
theorem inv_drop {R A T : Nat} {s : pT} (h : pInv R A T s) (i : Nat) : pInv R A T (tDrop i s) := by
  obtain ⟨hI, hx, hl⟩ := h
  refine ⟨hI, fun x q => hx x (List.mem_of_mem_eraseIdx q), ?_⟩
  show (s.2.eraseIdx i).length ≤ 400
  exact Nat.le_trans (List.length_eraseIdx_le _ _) hl
theorem inv_copy {R A T : Nat} {s : pT} (hRA : pRA R A) (h : pInv R A T s) {i : Nat} {x : pMsg} (hi : s.2[i]? = some x) (hs : s.2.length + 1 ≤ 400) : pInv R A T (tCopy x s) := by
  have hA : A ≤ 5 := by have := hRA.2.2; omega
  obtain ⟨hI, hx, hl⟩ := h
  refine pInv_of (gro_snd R _ 1) hA (Nat.le_refl T) (snd_all 1 hI) hx (fun _ q => q) (fun y hy => ?_) ?_
  · rw [List.mem_singleton.mp hy]
    exact iX_gro (gro_snd R _ 1) hA (Nat.le_refl T) (hx x (List.mem_of_getElem? hi))
  · simp
    omega
theorem inv_rec {R A T : Nat} {s : pT} (h : pInv R A T s) (k i : Nat) : pInv R A T (tRec k i s) := by
  obtain ⟨hI, hx, hl⟩ := h
  exact ⟨up_all k i (Nat.le_refl 1) hI, fun x q => iX_same rfl rfl rfl rfl (hx x q), hl⟩
theorem inv_crash {R A T : Nat} {s : pT} (hRA : pRA R A) (h : pInv R A T s) {k i : Nat} : pInv R A T (tCrash k i s) := by
  have hA : A ≤ 5 := by have := hRA.2.2; omega
  obtain ⟨hI', hx, hlen⟩ := h
  have hI2 := up_all k i (v := 0) (by decide) hI'
  have hx2 : ∀ x ∈ s.2, iX R A T (pu s.1 2 k i 0) x := fun x q => iX_same rfl rfl rfl rfl (hx x q)
  unfold tCrash
  by_cases e : k = 2
  · rw [if_pos e]
    generalize pu s.1 2 k i 0 = α at hI2 hx2
    obtain ⟨hN, hM, hI, hB, hL, hS, hD, hC⟩ := hI2
    refine ⟨?_, fun x q => iX_same rfl rfl rfl rfl (hx2 x q), hlen⟩
    show iAll R A T (tFor α i)
    generalize hβ : tFor α i = β
    have e3 : β 3 = α 3 := by subst hβ; rfl
    have e4 : β 4 = α 4 := by subst hβ; rfl
    have e5 : β 5 = α 5 := by subst hβ; rfl
    have e6 : β 6 = α 6 := by subst hβ; rfl
    have e7 : β 7 = α 7 := by subst hβ; rfl
    have e9 : β 9 = α 9 := by subst hβ; rfl
    have e12 : β 12 = α 12 := by subst hβ; rfl
    have e15 : β 15 = α 15 := by subst hβ; rfl
    have e16 : β 16 = α 16 := by subst hβ; rfl
    have e18 : β 18 = α 18 := by subst hβ; rfl
    have e19 : β 19 = α 19 := by subst hβ; rfl
    have o : ∀ c j, j ≠ i → β c j = α c j := fun c j hi => by
      subst hβ
      unfold tFor
      rw [pClr_i _ hi, pClr_i _ hi, pClr_i _ hi, pClr_i _ hi, pu_i _ hi, pu_i _ hi]
    have e8 : β 8 i 0 = 0 := by subst hβ; simp [tFor, pu, pClr]
    have e10 : β 10 i 0 = 0 := by subst hβ; simp [tFor, pu, pClr]
    have e11 : ∀ a, β 11 i a = 0 := fun a => by subst hβ; simp [tFor, pu, pClr]
    have e20 : ∀ a, β 20 i a = 0 := fun a => by subst hβ; simp [tFor, pu, pClr]
    have e13 : ∀ a, β 13 i a = 0 := fun a => by subst hβ; simp [tFor, pu, pClr]
    have e14 : ∀ a, β 14 i a = 0 := fun a => by subst hβ; simp [tFor, pu, pClr]
    have g : gro R α β := gro_same e5 e15 e16 e18
    have hNβ : iN A T β := by
      subst hβ
      unfold tFor
      exact iN_clr (iN_clr (iN_clr (iN_clr (iN_pu (iN_pu hN (by decide) (Or.inr (Nat.zero_le _))) (by decide) (Or.inr (Nat.zero_le _))) _ _) _ _) _ _) _ _
    refine ⟨hNβ, iM_gro g e3 e4 (fun m _ => by rw [e16]) (fun b' m hm q => (hM m hm).2.2.1 b' (by rw [e16] at q; exact q)) hM, iA_gro g e15 e6 hI, iB_gro g hA (fun b' m _ _ q => by rw [e16] at q; exact q) (fun i => by rw [e9]; exact Nat.le_refl _) hB, fun j hj => ?_, fun j m hj hm => ?_, fun j hj => ?_, iC_gro g hN hI e15 e18 e19 hC⟩
    · by_cases q : j = i
      · subst q
        unfold iL1
        rw [e8, e7, e9]
        refine ⟨(hL j hj).1, fun z => by omega, fun a _ => e11 a, fun a m _ ha => absurd (e11 a) ha, fun m _ ha => absurd (e20 m) ha⟩
      · exact iL1_gro g hA (o 7 j q) (o 8 j q) (by rw [o 9 j q]; exact Nat.le_refl _) (o 11 j q) (o 12 j q) (o 20 j q) (fun m _ _ => by rw [e16]) (hL j hj)
    · by_cases q : j = i
      · subst q
        refine ⟨fun a _ z => absurd (e14 _) z, fun z => absurd (e13 _) z, fun _ a _ z => ?_⟩
        exact z.1 (e14 _)
      · exact iS1_gro g hm (by rw [o 13 j q]) (fun _ _ => by rw [o 14 j q]) (hS j m hj hm)
    · by_cases q : j = i
      · subst q
        unfold iD1
        rw [e10]
        exact ⟨fun _ => ⟨fun m _ => by rw [e13]; decide, 0, by have := hRA.1; omega, by rw [e13]; decide⟩, fun z => by omega, fun z => by omega⟩
      · exact iD1_gro g (by rw [o 10 j q]) (o 13 j q) (hD j hj)
  · rw [if_neg e]
    exact ⟨hI2, hx2, hlen⟩
