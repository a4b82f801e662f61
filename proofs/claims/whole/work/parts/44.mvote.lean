theorem msk_congr {f g : Nat → Nat} (h : ∀ c, c < 5 → f c = g c) : msk f = msk g := by
  unfold msk
  rw [h 0 (by decide), h 1 (by decide), h 2 (by decide), h 3 (by decide), h 4 (by decide)]
theorem pEnter_15 {A : Nat} {α : pS} {m b w a : Nat} : pEnter A α m b w a 15 = pu α 15 b (m * 5 + a) 1 15 := by
  unfold pEnter
  try dsimp only
  split
  · rfl
  · split
    · rw [pu_c _ (by decide)]
    · split
      · rfl
      · rw [pu_c _ (by decide)]
theorem pEnter_c {A : Nat} {α : pS} {m b w a c : Nat} (h5 : c ≠ 15) (h8 : c ≠ 18) (h9 : c ≠ 19) : pEnter A α m b w a c = α c := by
  unfold pEnter
  try dsimp only
  split
  · exact pu_c _ h5
  · split
    · rw [pu_c _ h8, pu_c _ h5]
    · split
      · exact pu_c _ h5
      · rw [pu_c _ h9, pu_c _ h5]
theorem pB_vote {b w : Nat} (hw : w = 1 ∨ w = 2) : pB (4 * b + w) = nI b := pB_v (by omega) (by omega)
theorem mRel_vote {R A cm : Nat} {s : pT} {σ : gSt} (h : mRel R A cm s σ) (hR : R ≤ 6) {a m b w : Nat} (ha : a < 5) (hm : m < R) (hb : b < 1600) (hw : w = 1 ∨ w = 2) (h16 : w = s.1 16 b m) :
    mRel R A cm (pEnter A (pu (pu s.1 5 a 0 b) 6 a m (4 * b + w)) m b w a, s.2) (gup (gup (gup (gup (gup σ 5 a (nI b)) 6 (6 * a + m) (nI b)) 7 (6 * a + m) (nI w)) 8 (6 * b + m) (nI (msk (fun c => pu s.1 15 b (m * 5 + a) 1 15 b (m * 5 + c))))) 9 (6 * b + m) (nI w)) := by
  refine mRel_to h [5, 6, 7, 8, 9] [5, 6, 15, 18, 19] (by decide) (fun c _ hc _ => ?_) (fun d hd => ?_) (mO_kept h.1 (fun j _ => by rw [gup_ne _ _ (by decide), gup_ne _ _ (by decide), gup_ne _ _ (by decide), gup_ne _ _ (by decide), gup_ne _ _ (by decide)]) (by rw [pEnter_c (by decide) (by decide) (by decide)]; rfl) (by rw [pEnter_c (by decide) (by decide) (by decide)]; rfl)) (mMs_kept h.2.1 (by rw [gup_ne _ _ (by decide), gup_ne _ _ (by decide), gup_ne _ _ (by decide), gup_ne _ _ (by decide), gup_ne _ _ (by decide)])) (fun c hc => ?_)
  · simp only [List.mem_cons, List.not_mem_nil, or_false, not_or] at hc
    rw [gup_ne _ _ (by omega), gup_ne _ _ (by omega), gup_ne _ _ (by omega), gup_ne _ _ (by omega), gup_ne _ _ (by omega)]
  · simp only [List.mem_cons, List.not_mem_nil, or_false, not_or] at hd
    rw [pEnter_c (by omega) (by omega) (by omega), pu_c _ (by omega), pu_c _ (by omega)]
  · simp only [List.mem_cons, List.not_mem_nil, or_false] at hc
    rcases hc with rfl | rfl | rfl | rfl | rfl
    · intro k hk
      have q := mR_pro h hk
      rw [pEnter_c (by decide) (by decide) (by decide)]
      by_cases e : k = a
      · subst e; simp [gup, pu]
      · simp [gup, pu, e, q]
    · intro k n hk hn
      have q := mR_aB h hk hn
      rw [pEnter_c (by decide) (by decide) (by decide)]
      by_cases e : k = a ∧ n = m
      · obtain ⟨e1, e2⟩ := e
        subst e1; subst e2
        have e3 := pB_vote (b := b) hw
        simp [gup, pu, e3]
      · have e4 : ¬ 6 * k + n = 6 * a + m := by omega
        rw [gup_ne _ _ (by decide), gup_ne _ _ (by decide), gup_ne _ _ (by decide), gup_j _ _ e4, gup_ne _ _ (by decide), q]
        congr 1
        unfold pu
        rw [if_neg (fun z => e ⟨z.2.1, z.2.2⟩), if_neg (by omega)]
    · intro k n hk hn
      have q := mR_aW h hk hn
      rw [pEnter_c (by decide) (by decide) (by decide)]
      by_cases e : k = a ∧ n = m
      · obtain ⟨e1, e2⟩ := e
        subst e1; subst e2
        have e3 : (4 * b + w) % 4 = w := by omega
        simp [gup, pu, e3]
      · have e4 : ¬ 6 * k + n = 6 * a + m := by omega
        rw [gup_ne _ _ (by decide), gup_ne _ _ (by decide), gup_j _ _ e4, gup_ne _ _ (by decide), gup_ne _ _ (by decide), q]
        congr 2
        unfold pu
        rw [if_neg (fun z => e ⟨z.2.1, z.2.2⟩), if_neg (by omega)]
    · intro k n hk hn
      have q := mR_ev h hk hn
      rw [pEnter_15]
      by_cases e : k = b ∧ n = m
      · obtain ⟨e1, e2⟩ := e
        subst e1; subst e2
        rw [gup_ne _ _ (by decide), gup_at]
        rfl
      · have e4 : ¬ 6 * k + n = 6 * b + m := by omega
        rw [gup_ne _ _ (by decide), gup_j _ _ e4, gup_ne _ _ (by decide), gup_ne _ _ (by decide), gup_ne _ _ (by decide), q]
        have hj : ∀ c, c < 5 → pu s.1 15 b (m * 5 + a) 1 15 k (n * 5 + c) = s.1 15 k (n * 5 + c) := fun c hc => if_neg (fun z => e ⟨z.2.1, by omega⟩)
        show nI (msk _) = nI (msk (fun c => pu s.1 15 b (m * 5 + a) 1 15 k (n * 5 + c)))
        rw [msk_congr hj]
    · intro k n hk hn hz
      rw [pEnter_15] at hz
      rw [pEnter_c (by decide) (by decide) (by decide)]
      by_cases e : k = b ∧ n = m
      · obtain ⟨e1, e2⟩ := e
        subst e1; subst e2
        rw [gup_at, h16]
        rfl
      · have e4 : ¬ 6 * k + n = 6 * b + m := by omega
        have hj : ∀ c, c < 5 → pu s.1 15 b (m * 5 + a) 1 15 k (n * 5 + c) = s.1 15 k (n * 5 + c) := fun c hc => if_neg (fun z => e ⟨z.2.1, by omega⟩)
        have hz' : msk (fun c => s.1 15 k (n * 5 + c)) ≠ 0 := by
          intro q
          apply hz
          show msk (fun c => pu s.1 15 b (m * 5 + a) 1 15 k (n * 5 + c)) = 0
          rw [msk_congr hj]
          exact q
        have q := mR_ew h hk hn hz'
        rw [gup_j _ _ e4, gup_ne _ _ (by decide), gup_ne _ _ (by decide), gup_ne _ _ (by decide), gup_ne _ _ (by decide), q]
        rfl
theorem pEnter_pu {A : Nat} {α : pS} {m b w a : Nat} : True := trivial

set_option maxRecDepth 100000 in
theorem m_vc_l {R A : Nat} (hRA : pRA R A) {cm : Nat} {s : pT} {σ0 : gSt} {a m b w : Nat} (hn : s.2.length + 3 ≤ 400) : ∀ (k i : Nat), i ≤ 3 → 3 - i < k → ∀ σ, mRel R A cm (pAdd s i (fun l => mVoted l a m b w)) σ → mE σ0 σ → gEx mG mX7_voteComes 0 98 [some (.inr (0)), some (.inl (nI (a))), some (.inl (nI (b))), some (.inl (nI (m))), some (.inl (nI (w))), some (.inl (nI (i)))] [] σ (gV (fun τ => mRel R A cm (pAdd s 3 (fun l => mVoted l a m b w)) τ ∧ mE σ0 τ)) := by
  intro k
  induction k with
  | zero => intro i hi1 hi2; exact absurd hi2 (by omega)
  | succ k ih =>
    intro i hi1 hi2 σ hc hE
    obtain ⟨hR1, hR6, hA35⟩ := hRA
    refine g_iload dX7_voteComes_98 rfl ?_
    refine g_iconst (nI (3)) dX7_voteComes_100 (by decide) ?_
    refine g_icmp_ge 122 dX7_voteComes_101 (by decide) (fun h101 => ?_) (fun h101 => ?_)
    · skip
      rw [nI_leI (by omega) (by omega)] at h101
      refine g_vret dX7_voteComes_122 rfl ?_
      have e : i = 3 := by omega
      subst e
      exact ⟨rfl, hc, hE⟩
    · skip
      rw [nI_leI (by omega) (by omega)] at h101
      refine g_aload_n dX7_voteComes_104 rfl ?_
      refine g_iconst (nI (1)) dX7_voteComes_105 (by decide) ?_
      refine g_iload dX7_voteComes_106 rfl ?_
      refine g_iload_n dX7_voteComes_108 rfl ?_
      refine g_iload_n dX7_voteComes_109 rfl ?_
      refine g_iload_n dX7_voteComes_110 rfl ?_
      refine g_iload dX7_voteComes_111 rfl ?_
      refine g_callVv (n9 := 6) [.inl (nI (1)), .inl (nI (i)), .inl (nI (a)), .inl (nI (m)), .inl (nI (b)), .inl (nI (w))] [] (m_sends hc.1.2.2.1 (by rw [pAdd_len]; omega)) dX7_voteComes_113 (gU_V uw_3_230 uw_3_232 us_1_7 uw_1_8 uw_3_233) rfl (by decide +kernel) rfl ⟨by decide, by decide⟩ (mIn (by decide)) rfl rfl rfl (Nat.le_of_ble_eq_true rfl) (fun σ1 hp1 => ?_)
      refine g_iinc (nI (i + 1)) dX7_voteComes_116 rfl (show nI (i) + nI 1 = _ from nI_add _ _) (by decide) ?_
      refine g_goto 98 dX7_voteComes_119 (by decide) ?_
      subst hp1
      exact ih (i + 1) (by omega) (by omega) _ (by rw [← pAdd_s]; exact mRel_snd hc hR6 ((fun l => mVoted l a m b w) i) (by simp [mVote, mDec, mQue, mAsk, mVoted]) rfl rfl rfl rfl rfl rfl) (mE_tr hE sndM_E)

set_option maxRecDepth 100000 in
/-- a VOTE comes -/
theorem m_voteC {R A : Nat} (hRA : pRA R A) {cm : Nat} {s : pT} {σ : gSt} (hc : mRel R A cm s σ) (hb : pBu s.1) {x : pMsg} (hk : x 0 = 0) (hp : pMk R A x) (hmd : mOne R (σ 2) 0 x) (h16 : x 5 = s.1 16 (x 4) (x 3)) (hroom : s.2.length + pAns R A s.1 x ≤ 400) : gEM mG mX7_voteComes 0 [.inr (0), .inl (nI (x 1))] σ (gV (fun τ => mRel R A cm (pTk R A x s) τ ∧ mE σ τ)) := by
  obtain ⟨hR1, hR6, hA35⟩ := hRA
  have hA5 : A ≤ 5 := by omega
  have hx4 := hp.1
  obtain ⟨hx1, hx3, hx5⟩ := hp.2.1 hk
  have hb5 : s.1 5 (x 1) 0 ≤ 1536 := hb 5 (x 1) 0 (by decide) (by decide)
  have h15 : ∀ c, (fun c => s.1 15 (x 4) (x 3 * 5 + c)) c ≤ 1 := fun c => hb 15 _ _ (by decide) (by decide)
  refine gEM_of (by decide +kernel) rfl (Nat.le_of_ble_eq_true rfl) ?_
  refine g_aload_n dX7_voteComes_0 rfl ?_
  refine g_getr (T := TX7) (N := 26) (Cn := RX7) (ref := "CommitCouncilModel") 4 dX7_voteComes_1 (mIn (by decide)) rfl rfl (fun w h => List.mem_cons_of_mem _ (hU7 w h)) (by decide) (List.mem_cons_of_mem _ uw_3_127) (Or.inl rfl) rfl ?_
  refine g_iconst (nI (4)) dX7_voteComes_4 (by decide) ?_
  refine g_ialdN (n := 18) (j := 4) dX7_voteComes_5 (mIn (by decide)) rfl (by omega) (by omega) ?_
  refine gEx.top (v := .inl (nI (x 4))) (congrArg Sum.inl ((hmd.1 4 (by decide)).trans (ptN (by rw [hk]; rfl)))) ?_
  refine g_istore_n dX7_voteComes_6 (by decide) ?_
  refine g_aload_n dX7_voteComes_7 rfl ?_
  refine g_getr (T := TX7) (N := 26) (Cn := RX7) (ref := "CommitCouncilModel") 4 dX7_voteComes_8 (mIn (by decide)) rfl rfl (fun w h => List.mem_cons_of_mem _ (hU7 w h)) (by decide) (List.mem_cons_of_mem _ uw_3_127) (Or.inl rfl) rfl ?_
  refine g_iconst (nI (3)) dX7_voteComes_11 (by decide) ?_
  refine g_ialdN (n := 18) (j := 3) dX7_voteComes_12 (mIn (by decide)) rfl (by omega) (by omega) ?_
  refine gEx.top (v := .inl (nI (x 3))) (congrArg Sum.inl ((hmd.1 3 (by decide)).trans (ptN (by rw [hk]; rfl)))) ?_
  refine g_istore_n dX7_voteComes_13 (by decide) ?_
  refine g_aload_n dX7_voteComes_14 rfl ?_
  refine g_getr (T := TX7) (N := 26) (Cn := RX7) (ref := "CommitCouncilModel") 4 dX7_voteComes_15 (mIn (by decide)) rfl rfl (fun w h => List.mem_cons_of_mem _ (hU7 w h)) (by decide) (List.mem_cons_of_mem _ uw_3_127) (Or.inl rfl) rfl ?_
  refine g_iconst (nI (5)) dX7_voteComes_18 (by decide) ?_
  refine g_ialdN (n := 18) (j := 5) dX7_voteComes_19 (mIn (by decide)) rfl (by omega) (by omega) ?_
  refine gEx.top (v := .inl (nI (x 5))) (congrArg Sum.inl ((hmd.1 5 (by decide)).trans (ptN (by rw [hk]; rfl)))) ?_
  refine g_istore dX7_voteComes_20 (by decide) ?_
  refine g_iload_n dX7_voteComes_22 rfl ?_
  refine g_aload_n dX7_voteComes_23 rfl ?_
  refine g_getr (T := TX7) (N := 26) (Cn := RX7) (ref := "CommitCouncilModel") 11 dX7_voteComes_24 (mIn (by decide)) rfl rfl (fun w h => List.mem_cons_of_mem _ (hU7 w h)) (by decide) (List.mem_cons_of_mem _ uw_3_134) (Or.inl rfl) rfl ?_
  refine g_iload_n dX7_voteComes_27 rfl ?_
  refine g_ialdN (n := 5) (j := x 1) dX7_voteComes_28 (mIn (by decide)) rfl (by omega) (by omega) ?_
  refine gEx.top (v := .inl (nI (s.1 5 (x 1) 0))) (congrArg Sum.inl (mR_pro hc (by omega))) ?_
  refine g_icmp_ge 33 dX7_voteComes_29 (by decide) (fun h29 => ?_) (fun h29 => ?_)
  · skip
    rw [nI_leI (by omega) (by omega)] at h29
    refine g_aload_n dX7_voteComes_33 rfl ?_
    refine g_getr (T := TX7) (N := 26) (Cn := RX7) (ref := "CommitCouncilModel") 11 dX7_voteComes_34 (mIn (by decide)) rfl rfl (fun w h => List.mem_cons_of_mem _ (hU7 w h)) (by decide) (List.mem_cons_of_mem _ uw_3_134) (Or.inl rfl) rfl ?_
    refine g_iload_n dX7_voteComes_37 rfl ?_
    refine g_iload_n dX7_voteComes_38 rfl ?_
    refine g_iastN (n := 5) (j := x 1) dX7_voteComes_39 (mIn (by decide)) rfl (by omega) (by omega) ?_
    refine g_aload_n dX7_voteComes_40 rfl ?_
    refine g_getr (T := TX7) (N := 26) (Cn := RX7) (ref := "CommitCouncilModel") 12 dX7_voteComes_41 (mIn (by decide)) rfl rfl (fun w h => List.mem_cons_of_mem _ (hU7 w h)) (by decide) (List.mem_cons_of_mem _ uw_3_135) (Or.inl rfl) rfl ?_
    refine g_bipush (nI (6)) dX7_voteComes_44 (by decide) ?_
    refine g_iload_n dX7_voteComes_46 rfl ?_
    refine g_imul dX7_voteComes_47 ?_
    refine gEx.top (v := .inl (nI ((6) * (x 1)))) (congrArg Sum.inl (pk_mul _ _)) ?_
    refine g_iload_n dX7_voteComes_48 rfl ?_
    refine g_iadd dX7_voteComes_49 ?_
    refine gEx.top (v := .inl (nI ((6) * (x 1) + x 3))) (congrArg Sum.inl (nI_add _ _)) ?_
    refine g_iload_n dX7_voteComes_50 rfl ?_
    refine g_iastN (n := 30) (j := (6) * (x 1) + x 3) dX7_voteComes_51 (mIn (by decide)) rfl (by omega) (by omega) ?_
    refine g_aload_n dX7_voteComes_52 rfl ?_
    refine g_getr (T := TX7) (N := 26) (Cn := RX7) (ref := "CommitCouncilModel") 13 dX7_voteComes_53 (mIn (by decide)) rfl rfl (fun w h => List.mem_cons_of_mem _ (hU7 w h)) (by decide) (List.mem_cons_of_mem _ uw_3_136) (Or.inl rfl) rfl ?_
    refine g_bipush (nI (6)) dX7_voteComes_56 (by decide) ?_
    refine g_iload_n dX7_voteComes_58 rfl ?_
    refine g_imul dX7_voteComes_59 ?_
    refine gEx.top (v := .inl (nI ((6) * (x 1)))) (congrArg Sum.inl (pk_mul _ _)) ?_
    refine g_iload_n dX7_voteComes_60 rfl ?_
    refine g_iadd dX7_voteComes_61 ?_
    refine gEx.top (v := .inl (nI ((6) * (x 1) + x 3))) (congrArg Sum.inl (nI_add _ _)) ?_
    refine g_iload dX7_voteComes_62 rfl ?_
    refine g_iastN (n := 30) (j := (6) * (x 1) + x 3) dX7_voteComes_64 (mIn (by decide)) rfl (by omega) (by omega) ?_
    refine g_aload_n dX7_voteComes_65 rfl ?_
    refine g_getr (T := TX7) (N := 26) (Cn := RX7) (ref := "CommitCouncilModel") 14 dX7_voteComes_66 (mIn (by decide)) rfl rfl (fun w h => List.mem_cons_of_mem _ (hU7 w h)) (by decide) (List.mem_cons_of_mem _ uw_3_137) (Or.inl rfl) rfl ?_
    refine g_bipush (nI (6)) dX7_voteComes_69 (by decide) ?_
    refine g_iload_n dX7_voteComes_71 rfl ?_
    refine g_imul dX7_voteComes_72 ?_
    refine gEx.top (v := .inl (nI ((6) * (x 4)))) (congrArg Sum.inl (pk_mul _ _)) ?_
    refine g_iload_n dX7_voteComes_73 rfl ?_
    refine g_iadd dX7_voteComes_74 ?_
    refine gEx.top (v := .inl (nI ((6) * (x 4) + x 3))) (congrArg Sum.inl (nI_add _ _)) ?_
    refine g_dup2 dX7_voteComes_75 ?_
    refine g_ialdN (n := 9600) (j := (6) * (x 4) + x 3) dX7_voteComes_76 (mIn (by decide)) rfl (by omega) (by omega) ?_
    refine gEx.top (v := .inl (nI (msk (fun c => s.1 15 (x 4) (x 3 * 5 + c))))) (congrArg Sum.inl (mR_ev hc (by omega) hx3)) ?_
    refine g_iconst (nI (1)) dX7_voteComes_77 (by decide) ?_
    refine g_iload_n dX7_voteComes_78 rfl ?_
    refine g_ishl dX7_voteComes_79 ?_
    refine g_ior dX7_voteComes_80 ?_
    refine gEx.top (v := .inl (nI (msk (fun c => pu s.1 15 (x 4) (x 3 * 5 + x 1) 1 15 (x 4) (x 3 * 5 + c))))) (congrArg Sum.inl (msk_or h15 (by omega) (fun c _ => by unfold pu; by_cases q : c = x 1 <;> simp [q]))) ?_
    refine g_iastN (n := 9600) (j := (6) * (x 4) + x 3) dX7_voteComes_81 (mIn (by decide)) rfl (by omega) (by omega) ?_
    refine g_aload_n dX7_voteComes_82 rfl ?_
    refine g_getr (T := TX7) (N := 26) (Cn := RX7) (ref := "CommitCouncilModel") 15 dX7_voteComes_83 (mIn (by decide)) rfl rfl (fun w h => List.mem_cons_of_mem _ (hU7 w h)) (by decide) (List.mem_cons_of_mem _ uw_3_138) (Or.inl rfl) rfl ?_
    refine g_bipush (nI (6)) dX7_voteComes_86 (by decide) ?_
    refine g_iload_n dX7_voteComes_88 rfl ?_
    refine g_imul dX7_voteComes_89 ?_
    refine gEx.top (v := .inl (nI ((6) * (x 4)))) (congrArg Sum.inl (pk_mul _ _)) ?_
    refine g_iload_n dX7_voteComes_90 rfl ?_
    refine g_iadd dX7_voteComes_91 ?_
    refine gEx.top (v := .inl (nI ((6) * (x 4) + x 3))) (congrArg Sum.inl (nI_add _ _)) ?_
    refine g_iload dX7_voteComes_92 rfl ?_
    refine g_iastN (n := 9600) (j := (6) * (x 4) + x 3) dX7_voteComes_94 (mIn (by decide)) rfl (by omega) (by omega) ?_
    refine g_iconst (nI (0)) dX7_voteComes_95 (by decide) ?_
    refine g_istore dX7_voteComes_96 (by decide) ?_
    rw [ans0 hk, if_pos (by omega)] at hroom
    rw [pTk_of (n := 3) (f := fun l => mVoted l (x 1) (x 3) (x 4) (x 5)) ((take0 hk).trans (if_pos (by omega)))]
    exact m_vc_l (s := (pEnter A (pu (pu s.1 5 (x 1) 0 (x 4)) 6 (x 1) (x 3) (4 * x 4 + x 5)) (x 3) (x 4) (x 5) (x 1), s.2)) ⟨hR1, hR6, hA35⟩ hroom 4 0 (by decide) (by decide) _ (by rw [pAdd_0]; exact mRel_vote hc hR6 (by omega) hx3 (by omega) hx5 h16) ⟨rfl, rfl⟩
  · skip
    rw [nI_leI (by omega) (by omega)] at h29
    exact g_vret dX7_voteComes_32 rfl (⟨rfl, by rw [pTk_no (α := s.1) ((take0 hk).trans (if_neg (by omega)))]; exact hc, mE_rf⟩)

def tlP (σ τ : gSt) (base a j : Nat) : Prop := (∀ c, c ≠ 1 → τ c = σ c) ∧ (∀ p, p < base + 6 → τ 1 p = σ 1 p) ∧ ∀ m, m < j → τ 1 (base + (6 + m)) = σ 6 (6 * a + m) ∧ τ 1 (base + (12 + m)) = σ 7 (6 * a + m)
theorem tlP_0 (σ : gSt) (base a : Nat) : tlP σ σ base a 0 := ⟨fun _ _ => rfl, fun _ _ => rfl, fun m h => absurd h (Nat.not_lt_zero _)⟩
theorem tlP_s {σ τ : gSt} {base a j p q : Nat} {v w : Int32} (h : tlP σ τ base a j) (hj : j < 6) (hp : p = base + 6 + j) (hq : q = base + 12 + j) (hv : v = σ 6 (6 * a + j)) (hw : w = σ 7 (6 * a + j)) : tlP σ (gup (gup τ 1 p v) 1 q w) base a (j + 1) := by
  subst hp; subst hq; subst hv; subst hw
  obtain ⟨h1, h2, h3⟩ := h
  refine ⟨fun c hc => by rw [gup_ne _ _ hc, gup_ne _ _ hc]; exact h1 c hc, fun p hp => by rw [gup_j _ _ (by omega), gup_j _ _ (by omega)]; exact h2 p hp, fun m hm => ?_⟩
  by_cases e : m = j
  · subst e
    refine ⟨?_, ?_⟩
    · rw [gup_j _ _ (by omega), show base + (6 + m) = base + 6 + m by omega, gup_at]
    · rw [show base + (12 + m) = base + 12 + m by omega, gup_at]
  · obtain ⟨q1, q2⟩ := h3 m (by omega)
    refine ⟨?_, ?_⟩
    · rw [gup_j _ _ (by omega), gup_j _ _ (by omega)]; exact q1
    · rw [gup_j _ _ (by omega), gup_j _ _ (by omega)]; exact q2
theorem mRel_tol {R A cm : Nat} {s : pT} {σ τ : gSt} (h : mRel R A cm s σ) (hR : R ≤ 6) {l a b : Nat} (ha : a < 5) (ht : tlP (sndM σ s.2.length (nI 3) (nI l) (nI a) (-1) (nI b) (-1)) τ (18 * s.2.length) a R) :
    mRel R A cm (pSnd s.1 1, s.2 ++ [mTold l a b (s.1 6 a)]) τ := by
  obtain ⟨h1, h2, h3⟩ := ht
  refine mRel_to h [] [1] (by decide) (fun c _ _ h3 => by rw [h1 c (by omega), sndM_o (by omega) (by omega)]) (fun d hd => pu_c _ (fun q => hd (by rw [q]; decide))) ?_ ?_ (fun c hc => absurd hc List.not_mem_nil)
  · rw [List.length_append]
    have q := mO_snd (n := s.2.length) h.1 (x0 := nI 3) (x1 := nI l) (x2 := nI a) (x3 := -1) (x4 := nI b) (x5 := -1)
    unfold mO at q ⊢
    rw [h1 0 (by decide)]
    exact q
  · refine mMs_snd h.2.1 hR _ (fun p hp => by rw [h2 p (by omega), sndM_1, if_neg (by omega)]) ⟨fun j hj => ?_, fun _ m hm => ?_⟩
    · rw [h2 _ (by omega), sndM_1, if_pos (by omega), if_pos (by omega), Nat.add_sub_cancel_left]
      rcases (show j = 0 ∨ j = 1 ∨ j = 2 ∨ j = 3 ∨ j = 4 ∨ j = 5 by omega) with e | e | e | e | e | e <;> subst e <;> rfl
    · obtain ⟨q1, q2⟩ := h3 m hm
      rw [q1, q2, sndM_o (by decide) (by decide), sndM_o (by decide) (by decide), mR_aB h ha hm, mR_aW h ha hm, show 6 + m = m + 6 by omega]
      exact ⟨rfl, rfl⟩
theorem mRel_prom {R A cm : Nat} {s : pT} {σ : gSt} (h : mRel R A cm s σ) {a b : Nat} : mRel R A cm (pu s.1 5 a 0 b, s.2) (gup σ 5 a (nI b)) := by
  refine mRel_to h [5] [5] (by decide) (fun c _ hc _ => gup_ne _ _ (fun q => hc (by rw [q]; decide))) (fun d hd => pu_c _ (fun q => hd (by rw [q]; decide))) (mO_kept h.1 (fun j _ => by rw [gup_ne _ _ (by decide)]) rfl rfl) (mMs_kept h.2.1 (gup_ne _ _ (by decide))) (fun c hc => ?_)
  simp only [List.mem_cons, List.not_mem_nil, or_false] at hc
  subst hc
  intro k hk
  have q := mR_pro h hk
  by_cases e : k = a
  · subst e; simp [gup, pu]
  · simp [gup, pu, e, q]
/-- comps that the reference doesn't have -/
theorem mRel_gho {R A cm : Nat} {s : pT} {σ : gSt} (h : mRel R A cm s σ) {β : pS} (hβ : ∀ c, c ≠ 17 → c ≠ 20 → c ≠ 18 → c ≠ 19 → c ≠ 4 → β c = s.1 c) : mRel R A cm (β, s.2) σ :=
  mRel_to h [] [17, 20, 18, 19, 4] (by decide) (fun _ _ _ _ => rfl) (fun d hd => by
    simp only [List.mem_cons, List.not_mem_nil, or_false, not_or] at hd
    exact hβ d (by omega) (by omega) (by omega) (by omega) (by omega)) (mO_kept h.1 (fun _ _ => rfl) (by rw [hβ 1 (by decide) (by decide) (by decide) (by decide) (by decide)]) (by rw [hβ 1 (by decide) (by decide) (by decide) (by decide) (by decide)])) h.2.1 (fun c hc => absurd hc List.not_mem_nil)

set_option maxRecDepth 100000 in
theorem m_ask_l {R : Nat} (hR : R ≤ 6) {σ : gSt} (h1 : σ 0 1 = nI R) {a b n : Nat} (ha : a < 5) (hn : n < 400) : ∀ (k j : Nat), j ≤ R → R - j < k → ∀ τ, tlP σ τ (18 * n) a j → gEx mG mX7_askComes 0 52 [some (.inr 0), some (.inl (nI a)), some (.inl (nI b)), some (.inl (nI (18 * n))), some (.inl (nI j))] [] τ (gV (fun τ => tlP σ τ (18 * n) a R)) := by
  intro k
  induction k with
  | zero => intro j hi1 hi2; exact absurd hi2 (by omega)
  | succ k ih =>
    intro j hi1 hi2 τ ht
    refine g_iload dX7_askComes_52 rfl ?_
    refine g_aload_n dX7_askComes_54 rfl ?_
    refine g_get (T := TX7) (N := 26) (Cn := RX7) (ref := "CommitCouncilModel") 1 dX7_askComes_55 (mIn (by decide)) rfl rfl (fun w h => List.mem_cons_of_mem _ (hU7 w h)) (by decide) (List.mem_cons_of_mem _ uw_3_124) (Or.inl rfl) rfl ?_
    refine gEx.top (v := .inl (nI (R))) (congrArg Sum.inl ((congrFun (ht.1 0 (by decide)) 1).trans h1)) ?_
    refine g_icmp_ge 115 dX7_askComes_58 (by decide) (fun h58 => ?_) (fun h58 => ?_)
    · skip
      rw [nI_leI (by omega) (by omega)] at h58
      refine g_vret dX7_askComes_115 rfl ?_
      have e : j = R := by omega
      subst e
      exact ⟨rfl, ht⟩
    · skip
      rw [nI_leI (by omega) (by omega)] at h58
      refine g_aload_n dX7_askComes_61 rfl ?_
      refine g_getr (T := TX7) (N := 26) (Cn := RX7) (ref := "CommitCouncilModel") 3 dX7_askComes_62 (mIn (by decide)) rfl rfl (fun w h => List.mem_cons_of_mem _ (hU7 w h)) (by decide) (List.mem_cons_of_mem _ uw_3_126) (Or.inl rfl) rfl ?_
      refine g_iload_n dX7_askComes_65 rfl ?_
      refine g_bipush (nI (6)) dX7_askComes_66 (by decide) ?_
      refine g_iadd dX7_askComes_68 ?_
      refine gEx.top (v := .inl (nI (18 * n + 6))) (congrArg Sum.inl (nI_add _ _)) ?_
      refine g_iload dX7_askComes_69 rfl ?_
      refine g_iadd dX7_askComes_71 ?_
      refine gEx.top (v := .inl (nI (18 * n + 6 + j))) (congrArg Sum.inl (nI_add _ _)) ?_
      refine g_aload_n dX7_askComes_72 rfl ?_
      refine g_getr (T := TX7) (N := 26) (Cn := RX7) (ref := "CommitCouncilModel") 12 dX7_askComes_73 (mIn (by decide)) rfl rfl (fun w h => List.mem_cons_of_mem _ (hU7 w h)) (by decide) (List.mem_cons_of_mem _ uw_3_135) (Or.inl rfl) rfl ?_
      refine g_bipush (nI (6)) dX7_askComes_76 (by decide) ?_
      refine g_iload_n dX7_askComes_78 rfl ?_
      refine g_imul dX7_askComes_79 ?_
      refine gEx.top (v := .inl (nI ((6) * (a)))) (congrArg Sum.inl (pk_mul _ _)) ?_
      refine g_iload dX7_askComes_80 rfl ?_
      refine g_iadd dX7_askComes_82 ?_
      refine gEx.top (v := .inl (nI ((6) * (a) + j))) (congrArg Sum.inl (nI_add _ _)) ?_
      refine g_ialdN (n := 30) (j := (6) * (a) + j) dX7_askComes_83 (mIn (by decide)) rfl (by omega) (by omega) ?_
      refine gEx.top (v := .inl (σ 6 (6 * a + j))) (congrArg Sum.inl ((congrFun (ht.1 6 (by decide)) _))) ?_
      refine g_iastN (n := 7200) (j := 18 * n + 6 + j) dX7_askComes_84 (mIn (by decide)) rfl (by omega) (by omega) ?_
      refine g_aload_n dX7_askComes_85 rfl ?_
      refine g_getr (T := TX7) (N := 26) (Cn := RX7) (ref := "CommitCouncilModel") 3 dX7_askComes_86 (mIn (by decide)) rfl rfl (fun w h => List.mem_cons_of_mem _ (hU7 w h)) (by decide) (List.mem_cons_of_mem _ uw_3_126) (Or.inl rfl) rfl ?_
      refine g_iload_n dX7_askComes_89 rfl ?_
      refine g_bipush (nI (12)) dX7_askComes_90 (by decide) ?_
      refine g_iadd dX7_askComes_92 ?_
      refine gEx.top (v := .inl (nI (18 * n + 12))) (congrArg Sum.inl (nI_add _ _)) ?_
      refine g_iload dX7_askComes_93 rfl ?_
      refine g_iadd dX7_askComes_95 ?_
      refine gEx.top (v := .inl (nI (18 * n + 12 + j))) (congrArg Sum.inl (nI_add _ _)) ?_
      refine g_aload_n dX7_askComes_96 rfl ?_
      refine g_getr (T := TX7) (N := 26) (Cn := RX7) (ref := "CommitCouncilModel") 13 dX7_askComes_97 (mIn (by decide)) rfl rfl (fun w h => List.mem_cons_of_mem _ (hU7 w h)) (by decide) (List.mem_cons_of_mem _ uw_3_136) (Or.inl rfl) rfl ?_
      refine g_bipush (nI (6)) dX7_askComes_100 (by decide) ?_
      refine g_iload_n dX7_askComes_102 rfl ?_
      refine g_imul dX7_askComes_103 ?_
      refine gEx.top (v := .inl (nI ((6) * (a)))) (congrArg Sum.inl (pk_mul _ _)) ?_
      refine g_iload dX7_askComes_104 rfl ?_
      refine g_iadd dX7_askComes_106 ?_
      refine gEx.top (v := .inl (nI ((6) * (a) + j))) (congrArg Sum.inl (nI_add _ _)) ?_
      refine g_ialdN (n := 30) (j := (6) * (a) + j) dX7_askComes_107 (mIn (by decide)) rfl (by omega) (by omega) ?_
      refine gEx.top (v := .inl (σ 7 (6 * a + j))) (congrArg Sum.inl ((congrFun (ht.1 7 (by decide)) _))) ?_
      refine g_iastN (n := 7200) (j := 18 * n + 12 + j) dX7_askComes_108 (mIn (by decide)) rfl (by omega) (by omega) ?_
      refine g_iinc (nI (j + 1)) dX7_askComes_109 rfl (show nI (j) + nI 1 = _ from nI_add _ _) (by decide) ?_
      refine g_goto 52 dX7_askComes_112 (by decide) ?_
      exact ih (j + 1) (by omega) (by omega) _ (tlP_s ht (by omega) rfl rfl rfl rfl)

set_option maxRecDepth 100000 in
/-- an ASK comes -/
theorem m_askC {R A : Nat} (hRA : pRA R A) {cm : Nat} {s : pT} {σ : gSt} (hc : mRel R A cm s σ) (hb : pBu s.1) {x : pMsg} (hk : x 0 = 2) (hp : pMk R A x) (hmd : mOne R (σ 2) 0 x) (hroom : s.2.length + pAns R A s.1 x ≤ 400) : gEM mG mX7_askComes 0 [.inr (0), .inl (nI (x 1))] σ (gV (fun τ => mRel R A cm (pTk R A x s) τ ∧ mE σ τ)) := by
  obtain ⟨hR1, hR6, hA35⟩ := hRA
  have hA5 : A ≤ 5 := by omega
  have hx4 := hp.1
  obtain ⟨hx1, hx41⟩ := hp.2.2.2.1 hk
  have hb5 : s.1 5 (x 1) 0 ≤ 1536 := hb 5 (x 1) 0 (by decide) (by decide)
  refine gEM_of (by decide +kernel) rfl (Nat.le_of_ble_eq_true rfl) ?_
  refine g_aload_n dX7_askComes_0 rfl ?_
  refine g_getr (T := TX7) (N := 26) (Cn := RX7) (ref := "CommitCouncilModel") 4 dX7_askComes_1 (mIn (by decide)) rfl rfl (fun w h => List.mem_cons_of_mem _ (hU7 w h)) (by decide) (List.mem_cons_of_mem _ uw_3_127) (Or.inl rfl) rfl ?_
  refine g_iconst (nI (4)) dX7_askComes_4 (by decide) ?_
  refine g_ialdN (n := 18) (j := 4) dX7_askComes_5 (mIn (by decide)) rfl (by omega) (by omega) ?_
  refine gEx.top (v := .inl (nI (x 4))) (congrArg Sum.inl ((hmd.1 4 (by decide)).trans (ptN (by rw [hk]; rfl)))) ?_
  refine g_istore_n dX7_askComes_6 (by decide) ?_
  refine g_iload_n dX7_askComes_7 rfl ?_
  refine g_aload_n dX7_askComes_8 rfl ?_
  refine g_getr (T := TX7) (N := 26) (Cn := RX7) (ref := "CommitCouncilModel") 11 dX7_askComes_9 (mIn (by decide)) rfl rfl (fun w h => List.mem_cons_of_mem _ (hU7 w h)) (by decide) (List.mem_cons_of_mem _ uw_3_134) (Or.inl rfl) rfl ?_
  refine g_iload_n dX7_askComes_12 rfl ?_
  refine g_ialdN (n := 5) (j := x 1) dX7_askComes_13 (mIn (by decide)) rfl (by omega) (by omega) ?_
  refine gEx.top (v := .inl (nI (s.1 5 (x 1) 0))) (congrArg Sum.inl (mR_pro hc (by omega))) ?_
  refine g_icmp_gt 18 dX7_askComes_14 (by decide) (fun h14 => ?_) (fun h14 => ?_)
  · skip
    rw [nI_ltI (by omega) (by omega)] at h14
    refine g_aload_n dX7_askComes_18 rfl ?_
    refine g_getr (T := TX7) (N := 26) (Cn := RX7) (ref := "CommitCouncilModel") 11 dX7_askComes_19 (mIn (by decide)) rfl rfl (fun w h => List.mem_cons_of_mem _ (hU7 w h)) (by decide) (List.mem_cons_of_mem _ uw_3_134) (Or.inl rfl) rfl ?_
    refine g_iload_n dX7_askComes_22 rfl ?_
    refine g_iload_n dX7_askComes_23 rfl ?_
    have hlt : s.1 5 (x 1) 0 < x 4 := by omega
    rw [ans2 hk, if_pos hlt] at hroom
    refine g_iastN (n := 5) (j := x 1) dX7_askComes_24 (mIn (by decide)) rfl (by omega) (by omega) ?_
    have hc1 := mRel_prom hc (a := x 1) (b := x 4)
    refine g_aload_n dX7_askComes_25 rfl ?_
    refine g_iconst (nI (3)) dX7_askComes_26 (by decide) ?_
    refine g_iload_n dX7_askComes_27 rfl ?_
    refine g_iconst (nI (1)) dX7_askComes_28 (by decide) ?_
    refine g_isub dX7_askComes_29 ?_
    refine gEx.top (v := .inl (nI (x 4 - (1)))) (congrArg Sum.inl (pk_sub (by omega))) ?_
    refine g_iconst (nI (3)) dX7_askComes_30 (by decide) ?_
    refine g_irem dX7_askComes_31 (by decide) ?_
    refine gEx.top (v := .inl (nI ((x 4 - 1) % 3))) (congrArg Sum.inl (pk_rem (by omega) (by decide) (by decide))) ?_
    refine g_iload_n dX7_askComes_32 rfl ?_
    refine g_iconst ((-1)) dX7_askComes_33 (by decide) ?_
    refine g_iload_n dX7_askComes_34 rfl ?_
    refine g_iconst ((-1)) dX7_askComes_35 (by decide) ?_
    refine g_callVv (n9 := 6) [.inl (nI (3)), .inl (nI ((x 4 - 1) % 3)), .inl (nI (x 1)), .inl ((-1)), .inl (nI (x 4)), .inl ((-1))] [] (m_sends hc1.1.2.2.1 (show s.2.length < 400 by omega)) dX7_askComes_36 (gU_V uw_3_230 uw_3_232 us_1_7 uw_1_8 uw_3_233) rfl (by decide +kernel) rfl ⟨by decide, by decide⟩ (mIn (by decide)) rfl rfl rfl (Nat.le_of_ble_eq_true rfl) (fun σ3 hq3 => ?_)
    subst hq3
    refine g_bipush (nI (18)) dX7_askComes_39 (by decide) ?_
    refine g_aload_n dX7_askComes_41 rfl ?_
    refine g_get (T := TX7) (N := 26) (Cn := RX7) (ref := "CommitCouncilModel") 5 dX7_askComes_42 (mIn (by decide)) rfl rfl (fun w h => List.mem_cons_of_mem _ (hU7 w h)) (by decide) (List.mem_cons_of_mem _ uw_3_128) (Or.inl rfl) rfl ?_
    refine gEx.top (v := .inl (nI (s.2.length + 1))) (congrArg Sum.inl (by rw [sndM_0]; rfl)) ?_
    refine g_iconst (nI (1)) dX7_askComes_45 (by decide) ?_
    refine g_isub dX7_askComes_46 ?_
    refine gEx.top (v := .inl (nI (s.2.length))) (congrArg Sum.inl ((pk_sub (by omega)).trans (by rw [Nat.add_sub_cancel]))) ?_
    refine g_imul dX7_askComes_47 ?_
    refine gEx.top (v := .inl (nI ((18) * (s.2.length)))) (congrArg Sum.inl (pk_mul _ _)) ?_
    refine g_istore_n dX7_askComes_48 (by decide) ?_
    refine g_iconst (nI (0)) dX7_askComes_49 (by decide) ?_
    refine g_istore dX7_askComes_50 (by decide) ?_
    refine gEx_post (m_ask_l hR6 (show sndM _ _ _ _ _ _ _ _ 0 1 = nI R by rw [sndM_0]; exact hc1.1.1) (show x 1 < 5 by omega) (show s.2.length < 400 by omega) (R + 1) 0 (by omega) (by omega) _ (tlP_0 _ _ _)) (fun o τ q => ⟨q.1, ?_, ?_, ?_⟩)
    · rw [show pTk R A x s = (pSnd (pTol (pu s.1 5 (x 1) 0 (x 4)) (x 4) (x 1) R (s.1 6 (x 1))) 1, s.2 ++ [mTold ((x 4 - 1) % 3) (x 1) (x 4) (s.1 6 (x 1))]) by unfold pTk; rw [(take2 hk).trans (if_pos hlt)]; rfl]
      exact mRel_gho (mRel_tol (s := (pu s.1 5 (x 1) 0 (x 4), s.2)) hc1 hR6 (show x 1 < 5 by omega) q.2) (fun c h17 _ _ _ _ => tol_c h17)
    · rw [q.2.1 2 (by decide), sndM_o (by decide) (by decide)]; rfl
    · rw [q.2.1 0 (by decide), sndM_0]; rfl
  · skip
    rw [nI_ltI (by omega) (by omega)] at h14
    exact g_vret dX7_askComes_17 rfl (⟨rfl, by rw [pTk_no (α := s.1) ((take2 hk).trans (if_neg (by omega)))]; exact hc, mE_rf⟩)

/-- votes seen, and one more -/
def vf (α : pS) (x : pMsg) (m c : Nat) : Nat := if m = x 3 ∧ c = x 2 ∧ pNew α (x 1) (x 3) (x 2) (x 4) then 4 * x 4 + x 5 else α 14 (x 1) (m * 5 + c)
def pCnt (f : Nat → Nat) (a n : Nat) : Nat := psum (fun c => if f c ≠ 0 ∧ f c / 4 = f a / 4 then 1 else 0) n
def pMaj (A : Nat) (f : Nat → Nat) (a : Nat) : Prop := f a ≠ 0 ∧ A < 2 * pCnt f a A
/-- r is what is settled, with the outcome o so far and the votes f seen -/
def pSt (A o : Nat) (f : Nat → Nat) (r : Nat) : Prop := (o ≠ 0 → r = o) ∧ (o = 0 → (∀ a, a < A → pMaj A f a → f a % 4 = r) ∧ ((∀ a, a < A → ¬ pMaj A f a) → r = 0))
theorem pCnt_le (f : Nat → Nat) (a n : Nat) : pCnt f a n ≤ n := psum_ind (fun c => f c ≠ 0 ∧ f c / 4 = f a / 4) n
theorem pB_eqB {s t : Nat} (hs : s < 2 ^ 31) (ht : t < 2 ^ 31) (h0 : t ≠ 0) : pB s = pB t ↔ (s ≠ 0 ∧ s / 4 = t / 4) := by
  have e : pB t = nI (t / 4) := if_neg h0
  rw [e]
  exact pB_eq hs (by omega)
theorem pB_m1 {t : Nat} (ht : t < 2 ^ 31) : pB t = -1 ↔ t = 0 := by
  constructor
  · intro h
    by_cases h0 : t = 0
    · exact h0
    · have e : pB t = nI (t / 4) := if_neg h0
      rw [e] at h
      exact absurd h.symm (m1_ne (by omega))
  · intro h
    exact pB_neg h

set_option maxRecDepth 100000 in
/-- isNew -/
theorem m_newM {R A : Nat} (hRA : pRA R A) {cm : Nat} {s : pT} {σ : gSt} (hc : mRel R A cm s σ) (hb : pBu s.1) {i : Nat} {x : pMsg} (hx : s.2[i]? = some x) (hk : x 0 = 1) (hp : pMk R A x) (hlen : s.2.length ≤ 400) {m a : Nat} (hm : m < R) (ha : a < A) : gEM mG mX7_isNew 0 [.inr (0), .inl (nI (x 1)), .inl (nI (m)), .inl (nI (a)), .inl (nI (i))] σ (gR (bI (m = x 3 ∧ a = x 2 ∧ pNew s.1 (x 1) (x 3) (x 2) (x 4))) (fun τ => τ = σ)) := by
  obtain ⟨hR1, hR6, hA35⟩ := hRA
  have hA5 : A ≤ 5 := by omega
  have hi := (List.getElem?_eq_some_iff.mp hx).1
  have hx4 := hp.1
  obtain ⟨hx1, hx2, hx3, hx5⟩ := hp.2.2.1 hk
  have hv14 : ∀ l j, s.1 14 l j ≤ 6150 := fun l j => hb 14 l j (by decide) (by decide)
  refine gEM_of (by decide +kernel) rfl (Nat.le_of_ble_eq_true rfl) ?_
  refine g_iload dX7_isNew_0 rfl ?_
  refine g_iconst ((-1)) dX7_isNew_2 (by decide) ?_
  refine g_icmp_eq 54 dX7_isNew_3 (by decide) (fun h3 => ?_) (fun h3 => ?_)
  · skip
    skip
    exact absurd h3.symm (m1_ne (by omega))
  · skip
    skip
    refine g_aload_n dX7_isNew_6 rfl ?_
    refine g_iload dX7_isNew_7 rfl ?_
    refine g_iconst (nI (3)) dX7_isNew_9 (by decide) ?_
    refine g_callVi (_) (n9 := 2) [.inl (nI (i)), .inl (nI (3))] [] (m_of (i := i) (j := 3) (by omega)) dX7_isNew_10 (gU_V uw_4_25 uw_4_27 us_1_10 uw_1_8 uw_4_28) rfl (by decide +kernel) rfl ⟨by decide, by decide⟩ (mIn (by decide)) rfl rfl rfl (Nat.le_of_ble_eq_true rfl) (fun τ1 hq1 => ?_)
    subst hq1
    refine gEx.top (v := .inl (nI (x 3))) (congrArg Sum.inl (((hc.2.1 i x hx).1 3 (by decide)).trans (ptN (by rw [hk]; rfl)))) ?_
    refine g_iload_n dX7_isNew_13 rfl ?_
    refine g_icmp_ne 54 dX7_isNew_14 (by decide) (fun h14 => ?_) (fun h14 => ?_)
    · skip
      rw [nI_eq (by omega) (by omega)] at h14
      refine g_iconst (nI (0)) dX7_isNew_54 (by decide) ?_
      refine g_zret dX7_isNew_55 rfl (rfl) ?_
      refine ⟨?_, rfl⟩
      unfold bI
      first | (rw [if_neg (fun q => by omega)]; rfl) | (rw [if_neg (fun q => h47 (by have q3 := q.2.2; rw [← q.1, ← q.2.1] at q3; exact q3))]; rfl) | (rw [if_pos ⟨by omega, by omega, by have e1 : m = x 3 := (by omega); have e2 : a = x 2 := (by omega); rw [e1, e2] at h47; exact Decidable.not_not.mp h47⟩]; rfl)
    · skip
      rw [nI_eq (by omega) (by omega)] at h14
      refine g_aload_n dX7_isNew_17 rfl ?_
      refine g_iload dX7_isNew_18 rfl ?_
      refine g_iconst (nI (2)) dX7_isNew_20 (by decide) ?_
      refine g_callVi (_) (n9 := 2) [.inl (nI (i)), .inl (nI (2))] [] (m_of (i := i) (j := 2) (by omega)) dX7_isNew_21 (gU_V uw_4_25 uw_4_27 us_1_10 uw_1_8 uw_4_28) rfl (by decide +kernel) rfl ⟨by decide, by decide⟩ (mIn (by decide)) rfl rfl rfl (Nat.le_of_ble_eq_true rfl) (fun τ1 hq1 => ?_)
      subst hq1
      refine gEx.top (v := .inl (nI (x 2))) (congrArg Sum.inl (((hc.2.1 i x hx).1 2 (by decide)).trans (ptN (by rw [hk]; rfl)))) ?_
      refine g_iload_n dX7_isNew_24 rfl ?_
      refine g_icmp_ne 54 dX7_isNew_25 (by decide) (fun h25 => ?_) (fun h25 => ?_)
      · skip
        rw [nI_eq (by omega) (by omega)] at h25
        refine g_iconst (nI (0)) dX7_isNew_54 (by decide) ?_
        refine g_zret dX7_isNew_55 rfl (rfl) ?_
        refine ⟨?_, rfl⟩
        unfold bI
        first | (rw [if_neg (fun q => by omega)]; rfl) | (rw [if_neg (fun q => h47 (by have q3 := q.2.2; rw [← q.1, ← q.2.1] at q3; exact q3))]; rfl) | (rw [if_pos ⟨by omega, by omega, by have e1 : m = x 3 := (by omega); have e2 : a = x 2 := (by omega); rw [e1, e2] at h47; exact Decidable.not_not.mp h47⟩]; rfl)
      · skip
        rw [nI_eq (by omega) (by omega)] at h25
        refine g_aload_n dX7_isNew_28 rfl ?_
        refine g_iload dX7_isNew_29 rfl ?_
        refine g_iconst (nI (4)) dX7_isNew_31 (by decide) ?_
        refine g_callVi (_) (n9 := 2) [.inl (nI (i)), .inl (nI (4))] [] (m_of (i := i) (j := 4) (by omega)) dX7_isNew_32 (gU_V uw_4_25 uw_4_27 us_1_10 uw_1_8 uw_4_28) rfl (by decide +kernel) rfl ⟨by decide, by decide⟩ (mIn (by decide)) rfl rfl rfl (Nat.le_of_ble_eq_true rfl) (fun τ1 hq1 => ?_)
        subst hq1
        refine gEx.top (v := .inl (nI (x 4))) (congrArg Sum.inl (((hc.2.1 i x hx).1 4 (by decide)).trans (ptN (by rw [hk]; rfl)))) ?_
        refine g_aload_n dX7_isNew_35 rfl ?_
        refine g_getr (T := TX7) (N := 26) (Cn := RX7) (ref := "CommitCouncilModel") 23 dX7_isNew_36 (mIn (by decide)) rfl rfl (fun w h => List.mem_cons_of_mem _ (hU7 w h)) (by decide) (List.mem_cons_of_mem _ uw_3_146) (Or.inl rfl) rfl ?_
        refine g_aload_n dX7_isNew_39 rfl ?_
        refine g_iload_n dX7_isNew_40 rfl ?_
        refine g_iload_n dX7_isNew_41 rfl ?_
        refine g_iload_n dX7_isNew_42 rfl ?_
        refine g_callVi (nI ((x 1 * 6 + m) * 5 + a)) (n9 := 3) [.inl (nI (x 1)), .inl (nI (m)), .inl (nI (a))] [.inr (17), .inl (nI (x 4))] (m_seenAt) dX7_isNew_43 (gU_V uw_4_60 uw_4_62 us_2_2 uw_1_8 uw_4_63) rfl (by decide +kernel) rfl ⟨by decide, by decide⟩ (mIn (by decide)) rfl rfl rfl (Nat.le_of_ble_eq_true rfl) (fun τ2 hq2 => ?_)
        subst hq2
        refine g_ialdN (n := 90) (j := (x 1 * 6 + m) * 5 + a) dX7_isNew_46 (mIn (by decide)) rfl (by omega) (by omega) ?_
        refine gEx.top (v := .inl (pB (s.1 14 (x 1) (m * 5 + a)))) (congrArg Sum.inl (mR_sB hc hx1 hm (by omega))) ?_
        refine g_icmp_le 54 dX7_isNew_47 (by decide) (fun h47 => ?_) (fun h47 => ?_)
        · skip
          rw [← Int32.not_lt, pB_lt (by have := hv14 (x 1) (m * 5 + a); omega) (by omega)] at h47
          refine g_iconst (nI (0)) dX7_isNew_54 (by decide) ?_
          refine g_zret dX7_isNew_55 rfl (rfl) ?_
          refine ⟨?_, rfl⟩
          unfold bI
          first | (rw [if_neg (fun q => by omega)]; rfl) | (rw [if_neg (fun q => h47 (by have q3 := q.2.2; rw [← q.1, ← q.2.1] at q3; exact q3))]; rfl) | (rw [if_pos ⟨by omega, by omega, by have e1 : m = x 3 := (by omega); have e2 : a = x 2 := (by omega); rw [e1, e2] at h47; exact Decidable.not_not.mp h47⟩]; rfl)
        · skip
          rw [← Int32.not_lt, pB_lt (by have := hv14 (x 1) (m * 5 + a); omega) (by omega)] at h47
          refine g_iconst (nI (1)) dX7_isNew_50 (by decide) ?_
          refine g_goto 55 dX7_isNew_51 (by decide) ?_
          refine g_zret dX7_isNew_55 rfl (rfl) ?_
          refine ⟨?_, rfl⟩
          unfold bI
          first | (rw [if_neg (fun q => by omega)]; rfl) | (rw [if_neg (fun q => h47 (by have q3 := q.2.2; rw [← q.1, ← q.2.1] at q3; exact q3))]; rfl) | (rw [if_pos ⟨by omega, by omega, by have e1 : m = x 3 := (by omega); have e2 : a = x 2 := (by omega); rw [e1, e2] at h47; exact Decidable.not_not.mp h47⟩]; rfl)

set_option maxRecDepth 100000 in
/-- isNew -/
theorem m_newN {σ : gSt} {y1 y2 y3 : Int32} : gEM mG mX7_isNew 0 [.inr (0), .inl (y1), .inl (y2), .inl (y3), .inl (-1)] σ (gR 0 (fun τ => τ = σ)) := by
  refine gEM_of (by decide +kernel) rfl (Nat.le_of_ble_eq_true rfl) ?_
  refine g_iload dX7_isNew_0 rfl ?_
  refine g_iconst ((-1)) dX7_isNew_2 (by decide) ?_
  refine g_icmp_eq 54 dX7_isNew_3 (by decide) (fun h3 => ?_) (fun h3 => ?_)
  · skip
    skip
    refine g_iconst (nI (0)) dX7_isNew_54 (by decide) ?_
    exact g_zret dX7_isNew_55 rfl (rfl) (⟨rfl, rfl⟩)
  · skip
    skip
    exact absurd rfl h3

set_option maxRecDepth 100000 in
/-- ballotSeen -/
theorem m_bsM {R A : Nat} (hRA : pRA R A) {cm : Nat} {s : pT} {σ : gSt} (hc : mRel R A cm s σ) (hb : pBu s.1) {i : Nat} {x : pMsg} (hx : s.2[i]? = some x) (hk : x 0 = 1) (hp : pMk R A x) (hlen : s.2.length ≤ 400) {m a : Nat} (hm : m < R) (ha : a < A) : gEM mG mX7_ballotSeen 0 [.inr (0), .inl (nI (x 1)), .inl (nI (m)), .inl (nI (a)), .inl (nI (i))] σ (gR (pB (vf s.1 x m a)) (fun τ => τ = σ)) := by
  obtain ⟨hR1, hR6, hA35⟩ := hRA
  have hA5 : A ≤ 5 := by omega
  have hi := (List.getElem?_eq_some_iff.mp hx).1
  have hx4 := hp.1
  obtain ⟨hx1, hx2, hx3, hx5⟩ := hp.2.2.1 hk
  have hv14 : ∀ l j, s.1 14 l j ≤ 6150 := fun l j => hb 14 l j (by decide) (by decide)
  refine gEM_of (by decide +kernel) rfl (Nat.le_of_ble_eq_true rfl) ?_
  refine g_aload_n dX7_ballotSeen_0 rfl ?_
  refine g_iload_n dX7_ballotSeen_1 rfl ?_
  refine g_iload_n dX7_ballotSeen_2 rfl ?_
  refine g_iload_n dX7_ballotSeen_3 rfl ?_
  refine g_iload dX7_ballotSeen_4 rfl ?_
  refine g_callVi (bI (m = x 3 ∧ a = x 2 ∧ pNew s.1 (x 1) (x 3) (x 2) (x 4))) (n9 := 4) [.inl (nI (x 1)), .inl (nI (m)), .inl (nI (a)), .inl (nI (i))] [] (m_newM (a := a) ⟨hR1, hR6, hA35⟩ hc hb hx hk hp hlen hm (by omega)) dX7_ballotSeen_6 (gU_V uw_4_56 uw_4_58 us_2_1 uw_1_8 uw_4_59) rfl (by decide +kernel) rfl ⟨by decide, by decide⟩ (mIn (by decide)) rfl rfl rfl (Nat.le_of_ble_eq_true rfl) (fun τ3 hq3 => ?_)
  subst hq3
  refine g_if_eq 22 dX7_ballotSeen_9 (by decide) (fun h9 => ?_) (fun h9 => ?_)
  · skip
    rw [bI_z] at h9
    refine g_aload_n dX7_ballotSeen_22 rfl ?_
    refine g_getr (T := TX7) (N := 26) (Cn := RX7) (ref := "CommitCouncilModel") 23 dX7_ballotSeen_23 (mIn (by decide)) rfl rfl (fun w h => List.mem_cons_of_mem _ (hU7 w h)) (by decide) (List.mem_cons_of_mem _ uw_3_146) (Or.inl rfl) rfl ?_
    refine g_aload_n dX7_ballotSeen_26 rfl ?_
    refine g_iload_n dX7_ballotSeen_27 rfl ?_
    refine g_iload_n dX7_ballotSeen_28 rfl ?_
    refine g_iload_n dX7_ballotSeen_29 rfl ?_
    refine g_callVi (nI ((x 1 * 6 + m) * 5 + a)) (n9 := 3) [.inl (nI (x 1)), .inl (nI (m)), .inl (nI (a))] [.inr (17)] (m_seenAt) dX7_ballotSeen_30 (gU_V uw_4_60 uw_4_62 us_2_2 uw_1_8 uw_4_63) rfl (by decide +kernel) rfl ⟨by decide, by decide⟩ (mIn (by decide)) rfl rfl rfl (Nat.le_of_ble_eq_true rfl) (fun τ2 hq2 => ?_)
    subst hq2
    refine g_ialdN (n := 90) (j := (x 1 * 6 + m) * 5 + a) dX7_ballotSeen_33 (mIn (by decide)) rfl (by omega) (by omega) ?_
    refine gEx.top (v := .inl (pB (s.1 14 (x 1) (m * 5 + a)))) (congrArg Sum.inl (mR_sB hc hx1 hm (by omega))) ?_
    exact g_iret dX7_ballotSeen_34 rfl (⟨by unfold vf; rw [if_neg h9], rfl⟩)
  · skip
    rw [bI_z] at h9
    refine g_aload_n dX7_ballotSeen_12 rfl ?_
    refine g_iload dX7_ballotSeen_13 rfl ?_
    refine g_iconst (nI (4)) dX7_ballotSeen_15 (by decide) ?_
    refine g_callVi (_) (n9 := 2) [.inl (nI (i)), .inl (nI (4))] [] (m_of (i := i) (j := 4) (by omega)) dX7_ballotSeen_16 (gU_V uw_4_25 uw_4_27 us_1_10 uw_1_8 uw_4_28) rfl (by decide +kernel) rfl ⟨by decide, by decide⟩ (mIn (by decide)) rfl rfl rfl (Nat.le_of_ble_eq_true rfl) (fun τ1 hq1 => ?_)
    subst hq1
    refine gEx.top (v := .inl (nI (x 4))) (congrArg Sum.inl (((hc.2.1 i x hx).1 4 (by decide)).trans (ptN (by rw [hk]; rfl)))) ?_
    refine g_goto 34 dX7_ballotSeen_19 (by decide) ?_
    exact g_iret dX7_ballotSeen_34 rfl (⟨by unfold vf; rw [if_pos (Decidable.not_not.mp h9), pB_vote hx5], rfl⟩)

set_option maxRecDepth 100000 in
/-- ballotSeen -/
theorem m_bsN {R A : Nat} (hRA : pRA R A) {cm : Nat} {s : pT} {σ : gSt} (hc : mRel R A cm s σ) (hb : pBu s.1) {l m a : Nat} (hl : l < 3) (hm : m < R) (ha : a < A) : gEM mG mX7_ballotSeen 0 [.inr (0), .inl (nI (l)), .inl (nI (m)), .inl (nI (a)), .inl (-1)] σ (gR (pB (s.1 14 l (m * 5 + a))) (fun τ => τ = σ)) := by
  obtain ⟨hR1, hR6, hA35⟩ := hRA
  have hA5 : A ≤ 5 := by omega
  have hv14 : ∀ l j, s.1 14 l j ≤ 6150 := fun l j => hb 14 l j (by decide) (by decide)
  refine gEM_of (by decide +kernel) rfl (Nat.le_of_ble_eq_true rfl) ?_
  refine g_aload_n dX7_ballotSeen_0 rfl ?_
  refine g_iload_n dX7_ballotSeen_1 rfl ?_
  refine g_iload_n dX7_ballotSeen_2 rfl ?_
  refine g_iload_n dX7_ballotSeen_3 rfl ?_
  refine g_iload dX7_ballotSeen_4 rfl ?_
  refine g_callVi (nI (0)) (n9 := 4) [.inl (nI (l)), .inl (nI (m)), .inl (nI (a)), .inl (-1)] [] (m_newN) dX7_ballotSeen_6 (gU_V uw_4_56 uw_4_58 us_2_1 uw_1_8 uw_4_59) rfl (by decide +kernel) rfl ⟨by decide, by decide⟩ (mIn (by decide)) rfl rfl rfl (Nat.le_of_ble_eq_true rfl) (fun τ3 hq3 => ?_)
  subst hq3
  refine g_if_eq 22 dX7_ballotSeen_9 (by decide) (fun h9 => ?_) (fun h9 => ?_)
  · skip
    rw [nI_z (by omega)] at h9
    refine g_aload_n dX7_ballotSeen_22 rfl ?_
    refine g_getr (T := TX7) (N := 26) (Cn := RX7) (ref := "CommitCouncilModel") 23 dX7_ballotSeen_23 (mIn (by decide)) rfl rfl (fun w h => List.mem_cons_of_mem _ (hU7 w h)) (by decide) (List.mem_cons_of_mem _ uw_3_146) (Or.inl rfl) rfl ?_
    refine g_aload_n dX7_ballotSeen_26 rfl ?_
    refine g_iload_n dX7_ballotSeen_27 rfl ?_
    refine g_iload_n dX7_ballotSeen_28 rfl ?_
    refine g_iload_n dX7_ballotSeen_29 rfl ?_
    refine g_callVi (nI ((l * 6 + m) * 5 + a)) (n9 := 3) [.inl (nI (l)), .inl (nI (m)), .inl (nI (a))] [.inr (17)] (m_seenAt) dX7_ballotSeen_30 (gU_V uw_4_60 uw_4_62 us_2_2 uw_1_8 uw_4_63) rfl (by decide +kernel) rfl ⟨by decide, by decide⟩ (mIn (by decide)) rfl rfl rfl (Nat.le_of_ble_eq_true rfl) (fun τ2 hq2 => ?_)
    subst hq2
    refine g_ialdN (n := 90) (j := (l * 6 + m) * 5 + a) dX7_ballotSeen_33 (mIn (by decide)) rfl (by omega) (by omega) ?_
    refine gEx.top (v := .inl (pB (s.1 14 l (m * 5 + a)))) (congrArg Sum.inl (mR_sB hc hl hm (by omega))) ?_
    exact g_iret dX7_ballotSeen_34 rfl (⟨rfl, rfl⟩)
  · skip
    rw [nI_z (by omega)] at h9
    exfalso; omega

set_option maxRecDepth 100000 in
theorem m_setM_c {R A : Nat} (hRA : pRA R A) {cm : Nat} {s : pT} {σ : gSt} (hc : mRel R A cm s σ) (hb : pBu s.1) {i : Nat} {x : pMsg} (hx : s.2[i]? = some x) (hk : x 0 = 1) (hp : pMk R A x) (hlen : s.2.length ≤ 400) {m : Nat} (hm : m < R) {a : Nat} (ha : a < A) (h0 : (vf s.1 x m) a ≠ 0) {Q : gOut → gSt → Prop} (hq : gEx mG mX7_settled 0 100 [some (.inr 0), some (.inl (nI (x 1))), some (.inl (nI m)), some (.inl (nI (i))), some (.inl (nI a)), some (.inl (pB ((vf s.1 x m) a))), some (.inl (nI (pCnt (vf s.1 x m) a A))), some (.inl (nI (A)))] [] σ Q) : ∀ (k c : Nat), c ≤ A → A - c < k → gEx mG mX7_settled 0 55 [some (.inr 0), some (.inl (nI (x 1))), some (.inl (nI m)), some (.inl (nI (i))), some (.inl (nI a)), some (.inl (pB ((vf s.1 x m) a))), some (.inl (nI (pCnt (vf s.1 x m) a c))), some (.inl (nI (c)))] [] σ Q := by
  intro k
  induction k with
  | zero => intro c hi1 hi2; exact absurd hi2 (by omega)
  | succ k ih =>
    intro c hi1 hi2 
    obtain ⟨hR1, hR6, hA35⟩ := hRA
    have hA5 : A ≤ 5 := by omega
    have hi := (List.getElem?_eq_some_iff.mp hx).1
    have hx4 := hp.1
    obtain ⟨hx1, hx2, hx3, hx5⟩ := hp.2.2.1 hk
    have hv14 : ∀ l j, s.1 14 l j ≤ 6150 := fun l j => hb 14 l j (by decide) (by decide)
    have hf : ∀ c, (vf s.1 x m) c ≤ 6150 := fun c => by unfold vf; split; omega; exact hv14 _ _
    have hcl := pCnt_le (vf s.1 x m) a c
    refine g_iload dX7_settled_55 rfl ?_
    refine g_aload_n dX7_settled_57 rfl ?_
    refine g_get (T := TX7) (N := 26) (Cn := RX7) (ref := "CommitCouncilModel") 2 dX7_settled_58 (mIn (by decide)) rfl rfl (fun w h => List.mem_cons_of_mem _ (hU7 w h)) (by decide) (List.mem_cons_of_mem _ uw_3_125) (Or.inl rfl) rfl ?_
    refine gEx.top (v := .inl (nI (A))) (congrArg Sum.inl (hc.1.2.1)) ?_
    refine g_icmp_ge 100 dX7_settled_61 (by decide) (fun h61 => ?_) (fun h61 => ?_)
    · skip
      rw [nI_leI (by omega) (by omega)] at h61
      have e : c = A := by omega
      subst e
      exact hq
    · skip
      rw [nI_leI (by omega) (by omega)] at h61
      refine g_iload dX7_settled_64 rfl ?_
      refine g_iconst ((-1)) dX7_settled_66 (by decide) ?_
      refine g_icmp_eq 100 dX7_settled_67 (by decide) (fun h67 => ?_) (fun h67 => ?_)
      · skip
        rw [pB_m1 (by have := hf a; omega)] at h67
        exact absurd h67 h0
      · skip
        rw [pB_m1 (by have := hf a; omega)] at h67
        refine g_iload dX7_settled_70 rfl ?_
        refine g_aload_n dX7_settled_72 rfl ?_
        refine g_iload_n dX7_settled_73 rfl ?_
        refine g_iload_n dX7_settled_74 rfl ?_
        refine g_iload dX7_settled_75 rfl ?_
        refine g_iload_n dX7_settled_77 rfl ?_
        refine g_callVi (pB ((vf s.1 x m) (c))) (n9 := 4) [.inl (nI (x 1)), .inl (nI (m)), .inl (nI (c)), .inl (nI (i))] [.inl (nI (pCnt (vf s.1 x m) a c))] (m_bsM (a := c) ⟨hR1, hR6, hA35⟩ hc hb hx hk hp hlen hm (by omega)) dX7_settled_78 (gU_V uw_4_52 uw_4_54 us_2_0 uw_1_8 uw_4_55) rfl (by decide +kernel) rfl ⟨by decide, by decide⟩ (mIn (by decide)) rfl rfl rfl (Nat.le_of_ble_eq_true rfl) (fun τ4 hq4 => ?_)
        subst hq4
        refine g_iload dX7_settled_81 rfl ?_
        refine g_icmp_ne 90 dX7_settled_83 (by decide) (fun h83 => ?_) (fun h83 => ?_)
        · skip
          rw [pB_eqB (by have := hf c; omega) (by have := hf a; omega) h0] at h83
          refine g_iconst (nI (0)) dX7_settled_90 (by decide) ?_
          refine g_iadd dX7_settled_91 ?_
          refine gEx.top (v := .inl (nI (pCnt (vf s.1 x m) a c + 0))) (congrArg Sum.inl (nI_add _ _)) ?_
          refine g_istore dX7_settled_92 (by decide) ?_
          refine g_iinc (nI (c + 1)) dX7_settled_94 rfl (show nI (c) + nI 1 = _ from nI_add _ _) (by decide) ?_
          refine g_goto 55 dX7_settled_97 (by decide) ?_
          have e : pCnt (vf s.1 x m) a (c + 1) = pCnt (vf s.1 x m) a c + 0 := by show psum _ (c + 1) = _; simp only [psum]; first | (rw [if_pos (Decidable.not_not.mp h83)]; rfl) | (rw [if_neg h83]; rfl)
          have := ih (c + 1) (by omega) (by omega)
          rw [e] at this
          exact this
        · skip
          rw [pB_eqB (by have := hf c; omega) (by have := hf a; omega) h0] at h83
          refine g_iconst (nI (1)) dX7_settled_86 (by decide) ?_
          refine g_goto 91 dX7_settled_87 (by decide) ?_
          refine g_iadd dX7_settled_91 ?_
          refine gEx.top (v := .inl (nI (pCnt (vf s.1 x m) a c + 1))) (congrArg Sum.inl (nI_add _ _)) ?_
          refine g_istore dX7_settled_92 (by decide) ?_
          refine g_iinc (nI (c + 1)) dX7_settled_94 rfl (show nI (c) + nI 1 = _ from nI_add _ _) (by decide) ?_
          refine g_goto 55 dX7_settled_97 (by decide) ?_
          have e : pCnt (vf s.1 x m) a (c + 1) = pCnt (vf s.1 x m) a c + 1 := by show psum _ (c + 1) = _; simp only [psum]; first | (rw [if_pos (Decidable.not_not.mp h83)]; rfl) | (rw [if_neg h83]; rfl)
          have := ih (c + 1) (by omega) (by omega)
          rw [e] at this
          exact this

set_option maxRecDepth 100000 in
theorem m_setM_e {R A : Nat} (hRA : pRA R A) {cm : Nat} {s : pT} {σ : gSt} (hc : mRel R A cm s σ) (hb : pBu s.1) {i : Nat} {x : pMsg} (hx : s.2[i]? = some x) (hk : x 0 = 1) (hp : pMk R A x) (hlen : s.2.length ≤ 400) {m : Nat} (hm : m < R) {a n : Nat} {y1 y2 : Int32} (ha : a < A) (hn : n ≤ 5) {Q : gOut → gSt → Prop} (hq1 : A < 2 * n → (vf s.1 x m) a ≠ 0 ∧ Q (.inl (some (.inl (nI ((vf s.1 x m) a % 4))))) σ) (hq2 : ¬ A < 2 * n → ∀ z1 z2 z3, gEx mG mX7_settled 0 29 [some (.inr 0), some (.inl (nI (x 1))), some (.inl (nI m)), some (.inl (nI (i))), some (.inl (nI (a + 1))), z1, z2, z3] [] σ Q) : gEx mG mX7_settled 0 100 [some (.inr 0), some (.inl (nI (x 1))), some (.inl (nI m)), some (.inl (nI (i))), some (.inl (nI a)), some (.inl y1), some (.inl (nI n)), some (.inl y2)] [] σ Q := by
  obtain ⟨hR1, hR6, hA35⟩ := hRA
  have hA5 : A ≤ 5 := by omega
  have hi := (List.getElem?_eq_some_iff.mp hx).1
  have hx4 := hp.1
  obtain ⟨hx1, hx2, hx3, hx5⟩ := hp.2.2.1 hk
  have hv14 : ∀ l j, s.1 14 l j ≤ 6150 := fun l j => hb 14 l j (by decide) (by decide)
  have hf : ∀ c, (vf s.1 x m) c ≤ 6150 := fun c => by unfold vf; split; omega; exact hv14 _ _
  refine g_aload_n dX7_settled_100 rfl ?_
  refine g_iload dX7_settled_101 rfl ?_
  refine g_callVi (bI (A < 2 * n)) (n9 := 1) [.inl (nI (n))] [] (m_most hc.1.2.1 hA5 (by omega)) dX7_settled_103 (gU_V uw_4_36 uw_4_38 us_1_12 uw_1_8 uw_4_39) rfl (by decide +kernel) rfl ⟨by decide, by decide⟩ (mIn (by decide)) rfl rfl rfl (Nat.le_of_ble_eq_true rfl) (fun τ5 hq5 => ?_)
  subst hq5
  refine g_if_eq 144 dX7_settled_106 (by decide) (fun h106 => ?_) (fun h106 => ?_)
  · skip
    rw [bI_z] at h106
    refine g_iinc (nI (a + 1)) dX7_settled_144 rfl (show nI (a) + nI 1 = _ from nI_add _ _) (by decide) ?_
    refine g_goto 29 dX7_settled_147 (by decide) ?_
    exact hq2 h106 _ _ _
  · skip
    rw [bI_z] at h106
    refine g_aload_n dX7_settled_109 rfl ?_
    refine g_iload_n dX7_settled_110 rfl ?_
    refine g_iload_n dX7_settled_111 rfl ?_
    refine g_iload dX7_settled_112 rfl ?_
    refine g_iload_n dX7_settled_114 rfl ?_
    refine g_callVi (bI (m = x 3 ∧ a = x 2 ∧ pNew s.1 (x 1) (x 3) (x 2) (x 4))) (n9 := 4) [.inl (nI (x 1)), .inl (nI (m)), .inl (nI (a)), .inl (nI (i))] [] (m_newM (a := a) ⟨hR1, hR6, hA35⟩ hc hb hx hk hp hlen hm (by omega)) dX7_settled_115 (gU_V uw_4_56 uw_4_58 us_2_1 uw_1_8 uw_4_59) rfl (by decide +kernel) rfl ⟨by decide, by decide⟩ (mIn (by decide)) rfl rfl rfl (Nat.le_of_ble_eq_true rfl) (fun τ3 hq3 => ?_)
    subst hq3
    refine g_if_eq 130 dX7_settled_118 (by decide) (fun h118 => ?_) (fun h118 => ?_)
    · skip
      rw [bI_z] at h118
      refine g_aload_n dX7_settled_130 rfl ?_
      refine g_getr (T := TX7) (N := 26) (Cn := RX7) (ref := "CommitCouncilModel") 24 dX7_settled_131 (mIn (by decide)) rfl rfl (fun w h => List.mem_cons_of_mem _ (hU7 w h)) (by decide) (List.mem_cons_of_mem _ uw_3_147) (Or.inl rfl) rfl ?_
      refine g_aload_n dX7_settled_134 rfl ?_
      refine g_iload_n dX7_settled_135 rfl ?_
      refine g_iload_n dX7_settled_136 rfl ?_
      refine g_iload dX7_settled_137 rfl ?_
      refine g_callVi (nI ((x 1 * 6 + m) * 5 + a)) (n9 := 3) [.inl (nI (x 1)), .inl (nI (m)), .inl (nI (a))] [.inr (18)] (m_seenAt) dX7_settled_139 (gU_V uw_4_60 uw_4_62 us_2_2 uw_1_8 uw_4_63) rfl (by decide +kernel) rfl ⟨by decide, by decide⟩ (mIn (by decide)) rfl rfl rfl (Nat.le_of_ble_eq_true rfl) (fun τ2 hq2 => ?_)
      subst hq2
      refine g_ialdN (n := 90) (j := (x 1 * 6 + m) * 5 + a) dX7_settled_142 (mIn (by decide)) rfl (by omega) (by omega) ?_
      refine gEx.top (v := .inl (nI (s.1 14 (x 1) (m * 5 + a) % 4))) (congrArg Sum.inl (mR_sW hc hx1 hm (by omega) (by have q := (hq1 (Decidable.not_not.mp h106)).1; unfold vf at q; rw [if_neg h118] at q; exact q))) ?_
      refine g_iret dX7_settled_143 rfl ?_
      have q := (hq1 (Decidable.not_not.mp h106)).2
      unfold vf at q
      first | (rw [if_pos (Decidable.not_not.mp h118), show (4 * x 4 + x 5) % 4 = x 5 by omega] at q; exact q) | (rw [if_neg h118] at q; exact q)
    · skip
      rw [bI_z] at h118
      refine g_aload_n dX7_settled_121 rfl ?_
      refine g_iload_n dX7_settled_122 rfl ?_
      refine g_iconst (nI (5)) dX7_settled_123 (by decide) ?_
      refine g_callVi (_) (n9 := 2) [.inl (nI (i)), .inl (nI (5))] [] (m_of (i := i) (j := 5) (by omega)) dX7_settled_124 (gU_V uw_4_25 uw_4_27 us_1_10 uw_1_8 uw_4_28) rfl (by decide +kernel) rfl ⟨by decide, by decide⟩ (mIn (by decide)) rfl rfl rfl (Nat.le_of_ble_eq_true rfl) (fun τ1 hq1 => ?_)
      subst hq1
      refine gEx.top (v := .inl (nI (x 5))) (congrArg Sum.inl (((hc.2.1 i x hx).1 5 (by decide)).trans (ptN (by rw [hk]; rfl)))) ?_
      refine g_goto 143 dX7_settled_127 (by decide) ?_
      refine g_iret dX7_settled_143 rfl ?_
      have q := (hq1 (Decidable.not_not.mp h106)).2
      unfold vf at q
      first | (rw [if_pos (Decidable.not_not.mp h118), show (4 * x 4 + x 5) % 4 = x 5 by omega] at q; exact q) | (rw [if_neg h118] at q; exact q)

set_option maxRecDepth 100000 in
theorem m_setM_z {R A : Nat} (hRA : pRA R A) {cm : Nat} {s : pT} {σ : gSt} (hc : mRel R A cm s σ) (hb : pBu s.1) {i : Nat} {x : pMsg} (hx : s.2[i]? = some x) (hk : x 0 = 1) (hp : pMk R A x) (hlen : s.2.length ≤ 400) {m : Nat} (hm : m < R) {a : Nat} (ha : a < A) (h0 : (vf s.1 x m) a = 0) {Q : gOut → gSt → Prop} (hq : gEx mG mX7_settled 0 100 [some (.inr 0), some (.inl (nI (x 1))), some (.inl (nI m)), some (.inl (nI (i))), some (.inl (nI a)), some (.inl (pB ((vf s.1 x m) a))), some (.inl (nI (0))), some (.inl (nI (0)))] [] σ Q) : gEx mG mX7_settled 0 55 [some (.inr 0), some (.inl (nI (x 1))), some (.inl (nI m)), some (.inl (nI (i))), some (.inl (nI a)), some (.inl (pB ((vf s.1 x m) a))), some (.inl (nI (0))), some (.inl (nI (0)))] [] σ Q := by
  obtain ⟨hR1, hR6, hA35⟩ := hRA
  have hA5 : A ≤ 5 := by omega
  have hi := (List.getElem?_eq_some_iff.mp hx).1
  have hx4 := hp.1
  obtain ⟨hx1, hx2, hx3, hx5⟩ := hp.2.2.1 hk
  have hv14 : ∀ l j, s.1 14 l j ≤ 6150 := fun l j => hb 14 l j (by decide) (by decide)
  have hf : ∀ c, (vf s.1 x m) c ≤ 6150 := fun c => by unfold vf; split; omega; exact hv14 _ _
  refine g_iload dX7_settled_55 rfl ?_
  refine g_aload_n dX7_settled_57 rfl ?_
  refine g_get (T := TX7) (N := 26) (Cn := RX7) (ref := "CommitCouncilModel") 2 dX7_settled_58 (mIn (by decide)) rfl rfl (fun w h => List.mem_cons_of_mem _ (hU7 w h)) (by decide) (List.mem_cons_of_mem _ uw_3_125) (Or.inl rfl) rfl ?_
  refine gEx.top (v := .inl (nI (A))) (congrArg Sum.inl (hc.1.2.1)) ?_
  refine g_icmp_ge 100 dX7_settled_61 (by decide) (fun h61 => ?_) (fun h61 => ?_)
  · skip
    rw [nI_leI (by omega) (by omega)] at h61
    exfalso; omega
  · skip
    rw [nI_leI (by omega) (by omega)] at h61
    refine g_iload dX7_settled_64 rfl ?_
    refine g_iconst ((-1)) dX7_settled_66 (by decide) ?_
    refine g_icmp_eq 100 dX7_settled_67 (by decide) (fun h67 => ?_) (fun h67 => ?_)
    · skip
      rw [pB_m1 (by have := hf a; omega)] at h67
      exact hq
    · skip
      rw [pB_m1 (by have := hf a; omega)] at h67
      exact absurd h0 h67

set_option maxRecDepth 100000 in
theorem m_setM_a {R A : Nat} (hRA : pRA R A) {cm : Nat} {s : pT} {σ : gSt} (hc : mRel R A cm s σ) (hb : pBu s.1) {i : Nat} {x : pMsg} (hx : s.2[i]? = some x) (hk : x 0 = 1) (hp : pMk R A x) (hlen : s.2.length ≤ 400) {m : Nat} (hm : m < R) {r : Nat} (hr1 : ∀ a, a < A → pMaj A (vf s.1 x m) a → (vf s.1 x m) a % 4 = r) (hr2 : (∀ a, a < A → ¬ pMaj A (vf s.1 x m) a) → r = 0) : ∀ (k a : Nat), a ≤ A → A - a < k → (∀ c, c < a → ¬ pMaj A (vf s.1 x m) c) → ∀ z1 z2 z3, gEx mG mX7_settled 0 29 [some (.inr 0), some (.inl (nI (x 1))), some (.inl (nI m)), some (.inl (nI (i))), some (.inl (nI a)), z1, z2, z3] [] σ (gR (nI r) (fun τ => τ = σ)) := by
  intro k
  induction k with
  | zero => intro a hi1 hi2; exact absurd hi2 (by omega)
  | succ k ih =>
    intro a hi1 hi2 hbc z1 z2 z3
    obtain ⟨hR1, hR6, hA35⟩ := hRA
    have hA5 : A ≤ 5 := by omega
    have hi := (List.getElem?_eq_some_iff.mp hx).1
    have hx4 := hp.1
    obtain ⟨hx1, hx2, hx3, hx5⟩ := hp.2.2.1 hk
    have hv14 : ∀ l j, s.1 14 l j ≤ 6150 := fun l j => hb 14 l j (by decide) (by decide)
    have hf : ∀ c, (vf s.1 x m) c ≤ 6150 := fun c => by unfold vf; split; omega; exact hv14 _ _
    refine g_iload dX7_settled_29 rfl ?_
    refine g_aload_n dX7_settled_31 rfl ?_
    refine g_get (T := TX7) (N := 26) (Cn := RX7) (ref := "CommitCouncilModel") 2 dX7_settled_32 (mIn (by decide)) rfl rfl (fun w h => List.mem_cons_of_mem _ (hU7 w h)) (by decide) (List.mem_cons_of_mem _ uw_3_125) (Or.inl rfl) rfl ?_
    refine gEx.top (v := .inl (nI (A))) (congrArg Sum.inl (hc.1.2.1)) ?_
    refine g_icmp_ge 150 dX7_settled_35 (by decide) (fun h35 => ?_) (fun h35 => ?_)
    · skip
      rw [nI_leI (by omega) (by omega)] at h35
      refine g_iconst (nI (0)) dX7_settled_150 (by decide) ?_
      refine g_iret dX7_settled_151 rfl ?_
      exact ⟨by rw [hr2 (fun c hc9 => hbc c (by omega))], rfl⟩
    · skip
      rw [nI_leI (by omega) (by omega)] at h35
      refine g_aload_n dX7_settled_38 rfl ?_
      refine g_iload_n dX7_settled_39 rfl ?_
      refine g_iload_n dX7_settled_40 rfl ?_
      refine g_iload dX7_settled_41 rfl ?_
      refine g_iload_n dX7_settled_43 rfl ?_
      refine g_callVi (pB ((vf s.1 x m) (a))) (n9 := 4) [.inl (nI (x 1)), .inl (nI (m)), .inl (nI (a)), .inl (nI (i))] [] (m_bsM (a := a) ⟨hR1, hR6, hA35⟩ hc hb hx hk hp hlen hm (by omega)) dX7_settled_44 (gU_V uw_4_52 uw_4_54 us_2_0 uw_1_8 uw_4_55) rfl (by decide +kernel) rfl ⟨by decide, by decide⟩ (mIn (by decide)) rfl rfl rfl (Nat.le_of_ble_eq_true rfl) (fun τ4 hq4 => ?_)
      subst hq4
      refine g_istore dX7_settled_47 (by decide) ?_
      refine g_iconst (nI (0)) dX7_settled_49 (by decide) ?_
      refine g_istore dX7_settled_50 (by decide) ?_
      refine g_iconst (nI (0)) dX7_settled_52 (by decide) ?_
      refine g_istore dX7_settled_53 (by decide) ?_
      have hnx : ∀ z : ¬ pMaj A (vf s.1 x m) a, ∀ c, c < a + 1 → ¬ pMaj A (vf s.1 x m) c := fun z c hc9 => by rcases (show c < a ∨ c = a by omega) with e | e; exact hbc c e; subst e; exact z
      by_cases h0 : (vf s.1 x m) a = 0
      · exact m_setM_z ⟨hR1, hR6, hA35⟩ hc hb hx hk hp hlen hm (show a < A by omega) h0 (m_setM_e ⟨hR1, hR6, hA35⟩ hc hb hx hk hp hlen hm (show a < A by omega) (by decide) (fun q => absurd q (by omega)) (fun _ => ih (a + 1) (by omega) (by omega) (hnx (fun q => q.1 h0))))
      · exact m_setM_c ⟨hR1, hR6, hA35⟩ hc hb hx hk hp hlen hm (show a < A by omega) h0 (m_setM_e ⟨hR1, hR6, hA35⟩ hc hb hx hk hp hlen hm (show a < A by omega) (Nat.le_trans (pCnt_le _ _ _) hA5) (fun q => ⟨h0, by rw [hr1 a (by omega) ⟨h0, q⟩]; exact ⟨rfl, rfl⟩⟩) (fun q => ih (a + 1) (by omega) (by omega) (hnx (fun w => q w.2)))) (A + 1) 0 (by omega) (by omega)

set_option maxRecDepth 100000 in
/-- settled -/
theorem m_setM {R A : Nat} (hRA : pRA R A) {cm : Nat} {s : pT} {σ : gSt} (hc : mRel R A cm s σ) (hb : pBu s.1) {i : Nat} {x : pMsg} (hx : s.2[i]? = some x) (hk : x 0 = 1) (hp : pMk R A x) (hlen : s.2.length ≤ 400) {m : Nat} (hm : m < R) {r : Nat} (hr : pSt A (s.1 13 (x 1) m) (vf s.1 x m) r) : gEM mG mX7_settled 0 [.inr (0), .inl (nI (x 1)), .inl (nI (m)), .inl (nI (i))] σ (gR (nI r) (fun τ => τ = σ)) := by
  obtain ⟨hR1, hR6, hA35⟩ := hRA
  have hA5 : A ≤ 5 := by omega
  have hi := (List.getElem?_eq_some_iff.mp hx).1
  have hx4 := hp.1
  obtain ⟨hx1, hx2, hx3, hx5⟩ := hp.2.2.1 hk
  have hv14 : ∀ l j, s.1 14 l j ≤ 6150 := fun l j => hb 14 l j (by decide) (by decide)
  have h13 : s.1 13 (x 1) m ≤ 2 := hb 13 _ _ (by decide) (by decide)
  refine gEM_of (by decide +kernel) rfl (Nat.le_of_ble_eq_true rfl) ?_
  refine g_aload_n dX7_settled_0 rfl ?_
  refine g_getr (T := TX7) (N := 26) (Cn := RX7) (ref := "CommitCouncilModel") 25 dX7_settled_1 (mIn (by decide)) rfl rfl (fun w h => List.mem_cons_of_mem _ (hU7 w h)) (by decide) (List.mem_cons_of_mem _ uw_3_148) (Or.inl rfl) rfl ?_
  refine g_iload_n dX7_settled_4 rfl ?_
  refine g_bipush (nI (6)) dX7_settled_5 (by decide) ?_
  refine g_imul dX7_settled_7 ?_
  refine gEx.top (v := .inl (nI ((x 1) * (6)))) (congrArg Sum.inl (pk_mul _ _)) ?_
  refine g_iload_n dX7_settled_8 rfl ?_
  refine g_iadd dX7_settled_9 ?_
  refine gEx.top (v := .inl (nI ((x 1) * (6) + m))) (congrArg Sum.inl (nI_add _ _)) ?_
  refine g_ialdN (n := 18) (j := (x 1) * (6) + m) dX7_settled_10 (mIn (by decide)) rfl (by omega) (by omega) ?_
  refine gEx.top (v := .inl (nI (s.1 13 (x 1) m))) (congrArg Sum.inl (mR_oc hc hx1 hm)) ?_
  refine g_if_le 26 dX7_settled_11 (by decide) (fun h11 => ?_) (fun h11 => ?_)
  · skip
    rw [nI_np (by omega)] at h11
    refine g_iconst (nI (0)) dX7_settled_26 (by decide) ?_
    refine g_istore dX7_settled_27 (by decide) ?_
    exact m_setM_a ⟨hR1, hR6, hA35⟩ hc hb hx hk hp hlen hm (hr.2 (by omega)).1 (hr.2 (by omega)).2 (A + 1) 0 (by omega) (by omega) (fun c q => absurd q (Nat.not_lt_zero _)) _ _ _
  · skip
    rw [nI_np (by omega)] at h11
    refine g_aload_n dX7_settled_14 rfl ?_
    refine g_getr (T := TX7) (N := 26) (Cn := RX7) (ref := "CommitCouncilModel") 25 dX7_settled_15 (mIn (by decide)) rfl rfl (fun w h => List.mem_cons_of_mem _ (hU7 w h)) (by decide) (List.mem_cons_of_mem _ uw_3_148) (Or.inl rfl) rfl ?_
    refine g_iload_n dX7_settled_18 rfl ?_
    refine g_bipush (nI (6)) dX7_settled_19 (by decide) ?_
    refine g_imul dX7_settled_21 ?_
    refine gEx.top (v := .inl (nI ((x 1) * (6)))) (congrArg Sum.inl (pk_mul _ _)) ?_
    refine g_iload_n dX7_settled_22 rfl ?_
    refine g_iadd dX7_settled_23 ?_
    refine gEx.top (v := .inl (nI ((x 1) * (6) + m))) (congrArg Sum.inl (nI_add _ _)) ?_
    refine g_ialdN (n := 18) (j := (x 1) * (6) + m) dX7_settled_24 (mIn (by decide)) rfl (by omega) (by omega) ?_
    refine gEx.top (v := .inl (nI (s.1 13 (x 1) m))) (congrArg Sum.inl (mR_oc hc hx1 hm)) ?_
    exact g_iret dX7_settled_25 rfl (⟨by rw [hr.1 (by omega)], rfl⟩)

set_option maxRecDepth 100000 in
theorem m_setN_c {R A : Nat} (hRA : pRA R A) {cm : Nat} {s : pT} {σ : gSt} (hc : mRel R A cm s σ) (hb : pBu s.1) {l : Nat} (hl : l < 3) {m : Nat} (hm : m < R) {a : Nat} (ha : a < A) (h0 : (fun c => s.1 14 l (m * 5 + c)) a ≠ 0) {Q : gOut → gSt → Prop} (hq : gEx mG mX7_settled 0 100 [some (.inr 0), some (.inl (nI (l))), some (.inl (nI m)), some (.inl (-1)), some (.inl (nI a)), some (.inl (pB ((fun c => s.1 14 l (m * 5 + c)) a))), some (.inl (nI (pCnt (fun c => s.1 14 l (m * 5 + c)) a A))), some (.inl (nI (A)))] [] σ Q) : ∀ (k c : Nat), c ≤ A → A - c < k → gEx mG mX7_settled 0 55 [some (.inr 0), some (.inl (nI (l))), some (.inl (nI m)), some (.inl (-1)), some (.inl (nI a)), some (.inl (pB ((fun c => s.1 14 l (m * 5 + c)) a))), some (.inl (nI (pCnt (fun c => s.1 14 l (m * 5 + c)) a c))), some (.inl (nI (c)))] [] σ Q := by
  intro k
  induction k with
  | zero => intro c hi1 hi2; exact absurd hi2 (by omega)
  | succ k ih =>
    intro c hi1 hi2 
    obtain ⟨hR1, hR6, hA35⟩ := hRA
    have hA5 : A ≤ 5 := by omega
    have hv14 : ∀ l j, s.1 14 l j ≤ 6150 := fun l j => hb 14 l j (by decide) (by decide)
    have hf : ∀ c, (fun c => s.1 14 l (m * 5 + c)) c ≤ 6150 := fun c => by exact hv14 _ _
    have hcl := pCnt_le (fun c => s.1 14 l (m * 5 + c)) a c
    refine g_iload dX7_settled_55 rfl ?_
    refine g_aload_n dX7_settled_57 rfl ?_
    refine g_get (T := TX7) (N := 26) (Cn := RX7) (ref := "CommitCouncilModel") 2 dX7_settled_58 (mIn (by decide)) rfl rfl (fun w h => List.mem_cons_of_mem _ (hU7 w h)) (by decide) (List.mem_cons_of_mem _ uw_3_125) (Or.inl rfl) rfl ?_
    refine gEx.top (v := .inl (nI (A))) (congrArg Sum.inl (hc.1.2.1)) ?_
    refine g_icmp_ge 100 dX7_settled_61 (by decide) (fun h61 => ?_) (fun h61 => ?_)
    · skip
      rw [nI_leI (by omega) (by omega)] at h61
      have e : c = A := by omega
      subst e
      exact hq
    · skip
      rw [nI_leI (by omega) (by omega)] at h61
      refine g_iload dX7_settled_64 rfl ?_
      refine g_iconst ((-1)) dX7_settled_66 (by decide) ?_
      refine g_icmp_eq 100 dX7_settled_67 (by decide) (fun h67 => ?_) (fun h67 => ?_)
      · skip
        rw [pB_m1 (by have := hf a; omega)] at h67
        exact absurd h67 h0
      · skip
        rw [pB_m1 (by have := hf a; omega)] at h67
        refine g_iload dX7_settled_70 rfl ?_
        refine g_aload_n dX7_settled_72 rfl ?_
        refine g_iload_n dX7_settled_73 rfl ?_
        refine g_iload_n dX7_settled_74 rfl ?_
        refine g_iload dX7_settled_75 rfl ?_
        refine g_iload_n dX7_settled_77 rfl ?_
        refine g_callVi (pB ((fun c => s.1 14 l (m * 5 + c)) (c))) (n9 := 4) [.inl (nI (l)), .inl (nI (m)), .inl (nI (c)), .inl (-1)] [.inl (nI (pCnt (fun c => s.1 14 l (m * 5 + c)) a c))] (m_bsN (a := c) ⟨hR1, hR6, hA35⟩ hc hb hl hm (by omega)) dX7_settled_78 (gU_V uw_4_52 uw_4_54 us_2_0 uw_1_8 uw_4_55) rfl (by decide +kernel) rfl ⟨by decide, by decide⟩ (mIn (by decide)) rfl rfl rfl (Nat.le_of_ble_eq_true rfl) (fun τ4 hq4 => ?_)
        subst hq4
        refine g_iload dX7_settled_81 rfl ?_
        refine g_icmp_ne 90 dX7_settled_83 (by decide) (fun h83 => ?_) (fun h83 => ?_)
        · skip
          rw [pB_eqB (by have := hf c; omega) (by have := hf a; omega) h0] at h83
          refine g_iconst (nI (0)) dX7_settled_90 (by decide) ?_
          refine g_iadd dX7_settled_91 ?_
          refine gEx.top (v := .inl (nI (pCnt (fun c => s.1 14 l (m * 5 + c)) a c + 0))) (congrArg Sum.inl (nI_add _ _)) ?_
          refine g_istore dX7_settled_92 (by decide) ?_
          refine g_iinc (nI (c + 1)) dX7_settled_94 rfl (show nI (c) + nI 1 = _ from nI_add _ _) (by decide) ?_
          refine g_goto 55 dX7_settled_97 (by decide) ?_
          have e : pCnt (fun c => s.1 14 l (m * 5 + c)) a (c + 1) = pCnt (fun c => s.1 14 l (m * 5 + c)) a c + 0 := by show psum _ (c + 1) = _; simp only [psum]; first | (rw [if_pos (Decidable.not_not.mp h83)]; rfl) | (rw [if_neg h83]; rfl)
          have := ih (c + 1) (by omega) (by omega)
          rw [e] at this
          exact this
        · skip
          rw [pB_eqB (by have := hf c; omega) (by have := hf a; omega) h0] at h83
          refine g_iconst (nI (1)) dX7_settled_86 (by decide) ?_
          refine g_goto 91 dX7_settled_87 (by decide) ?_
          refine g_iadd dX7_settled_91 ?_
          refine gEx.top (v := .inl (nI (pCnt (fun c => s.1 14 l (m * 5 + c)) a c + 1))) (congrArg Sum.inl (nI_add _ _)) ?_
          refine g_istore dX7_settled_92 (by decide) ?_
          refine g_iinc (nI (c + 1)) dX7_settled_94 rfl (show nI (c) + nI 1 = _ from nI_add _ _) (by decide) ?_
          refine g_goto 55 dX7_settled_97 (by decide) ?_
          have e : pCnt (fun c => s.1 14 l (m * 5 + c)) a (c + 1) = pCnt (fun c => s.1 14 l (m * 5 + c)) a c + 1 := by show psum _ (c + 1) = _; simp only [psum]; first | (rw [if_pos (Decidable.not_not.mp h83)]; rfl) | (rw [if_neg h83]; rfl)
          have := ih (c + 1) (by omega) (by omega)
          rw [e] at this
          exact this

set_option maxRecDepth 100000 in
theorem m_setN_e {R A : Nat} (hRA : pRA R A) {cm : Nat} {s : pT} {σ : gSt} (hc : mRel R A cm s σ) (hb : pBu s.1) {l : Nat} (hl : l < 3) {m : Nat} (hm : m < R) {a n : Nat} {y1 y2 : Int32} (ha : a < A) (hn : n ≤ 5) {Q : gOut → gSt → Prop} (hq1 : A < 2 * n → (fun c => s.1 14 l (m * 5 + c)) a ≠ 0 ∧ Q (.inl (some (.inl (nI ((fun c => s.1 14 l (m * 5 + c)) a % 4))))) σ) (hq2 : ¬ A < 2 * n → ∀ z1 z2 z3, gEx mG mX7_settled 0 29 [some (.inr 0), some (.inl (nI (l))), some (.inl (nI m)), some (.inl (-1)), some (.inl (nI (a + 1))), z1, z2, z3] [] σ Q) : gEx mG mX7_settled 0 100 [some (.inr 0), some (.inl (nI (l))), some (.inl (nI m)), some (.inl (-1)), some (.inl (nI a)), some (.inl y1), some (.inl (nI n)), some (.inl y2)] [] σ Q := by
  obtain ⟨hR1, hR6, hA35⟩ := hRA
  have hA5 : A ≤ 5 := by omega
  have hv14 : ∀ l j, s.1 14 l j ≤ 6150 := fun l j => hb 14 l j (by decide) (by decide)
  have hf : ∀ c, (fun c => s.1 14 l (m * 5 + c)) c ≤ 6150 := fun c => by exact hv14 _ _
  refine g_aload_n dX7_settled_100 rfl ?_
  refine g_iload dX7_settled_101 rfl ?_
  refine g_callVi (bI (A < 2 * n)) (n9 := 1) [.inl (nI (n))] [] (m_most hc.1.2.1 hA5 (by omega)) dX7_settled_103 (gU_V uw_4_36 uw_4_38 us_1_12 uw_1_8 uw_4_39) rfl (by decide +kernel) rfl ⟨by decide, by decide⟩ (mIn (by decide)) rfl rfl rfl (Nat.le_of_ble_eq_true rfl) (fun τ5 hq5 => ?_)
  subst hq5
  refine g_if_eq 144 dX7_settled_106 (by decide) (fun h106 => ?_) (fun h106 => ?_)
  · skip
    rw [bI_z] at h106
    refine g_iinc (nI (a + 1)) dX7_settled_144 rfl (show nI (a) + nI 1 = _ from nI_add _ _) (by decide) ?_
    refine g_goto 29 dX7_settled_147 (by decide) ?_
    exact hq2 h106 _ _ _
  · skip
    rw [bI_z] at h106
    refine g_aload_n dX7_settled_109 rfl ?_
    refine g_iload_n dX7_settled_110 rfl ?_
    refine g_iload_n dX7_settled_111 rfl ?_
    refine g_iload dX7_settled_112 rfl ?_
    refine g_iload_n dX7_settled_114 rfl ?_
    refine g_callVi (nI (0)) (n9 := 4) [.inl (nI (l)), .inl (nI (m)), .inl (nI (a)), .inl (-1)] [] (m_newN) dX7_settled_115 (gU_V uw_4_56 uw_4_58 us_2_1 uw_1_8 uw_4_59) rfl (by decide +kernel) rfl ⟨by decide, by decide⟩ (mIn (by decide)) rfl rfl rfl (Nat.le_of_ble_eq_true rfl) (fun τ3 hq3 => ?_)
    subst hq3
    refine g_if_eq 130 dX7_settled_118 (by decide) (fun h118 => ?_) (fun h118 => ?_)
    · skip
      rw [nI_z (by omega)] at h118
      refine g_aload_n dX7_settled_130 rfl ?_
      refine g_getr (T := TX7) (N := 26) (Cn := RX7) (ref := "CommitCouncilModel") 24 dX7_settled_131 (mIn (by decide)) rfl rfl (fun w h => List.mem_cons_of_mem _ (hU7 w h)) (by decide) (List.mem_cons_of_mem _ uw_3_147) (Or.inl rfl) rfl ?_
      refine g_aload_n dX7_settled_134 rfl ?_
      refine g_iload_n dX7_settled_135 rfl ?_
      refine g_iload_n dX7_settled_136 rfl ?_
      refine g_iload dX7_settled_137 rfl ?_
      refine g_callVi (nI ((l * 6 + m) * 5 + a)) (n9 := 3) [.inl (nI (l)), .inl (nI (m)), .inl (nI (a))] [.inr (18)] (m_seenAt) dX7_settled_139 (gU_V uw_4_60 uw_4_62 us_2_2 uw_1_8 uw_4_63) rfl (by decide +kernel) rfl ⟨by decide, by decide⟩ (mIn (by decide)) rfl rfl rfl (Nat.le_of_ble_eq_true rfl) (fun τ2 hq2 => ?_)
      subst hq2
      refine g_ialdN (n := 90) (j := (l * 6 + m) * 5 + a) dX7_settled_142 (mIn (by decide)) rfl (by omega) (by omega) ?_
      refine gEx.top (v := .inl (nI (s.1 14 (l) (m * 5 + a) % 4))) (congrArg Sum.inl (mR_sW hc hl hm (by omega) (hq1 (Decidable.not_not.mp h106)).1)) ?_
      refine g_iret dX7_settled_143 rfl ?_
      have q := (hq1 (Decidable.not_not.mp h106)).2
      exact q
    · skip
      rw [nI_z (by omega)] at h118
      exfalso; omega

set_option maxRecDepth 100000 in
theorem m_setN_z {R A : Nat} (hRA : pRA R A) {cm : Nat} {s : pT} {σ : gSt} (hc : mRel R A cm s σ) (hb : pBu s.1) {l : Nat} (hl : l < 3) {m : Nat} (hm : m < R) {a : Nat} (ha : a < A) (h0 : (fun c => s.1 14 l (m * 5 + c)) a = 0) {Q : gOut → gSt → Prop} (hq : gEx mG mX7_settled 0 100 [some (.inr 0), some (.inl (nI (l))), some (.inl (nI m)), some (.inl (-1)), some (.inl (nI a)), some (.inl (pB ((fun c => s.1 14 l (m * 5 + c)) a))), some (.inl (nI (0))), some (.inl (nI (0)))] [] σ Q) : gEx mG mX7_settled 0 55 [some (.inr 0), some (.inl (nI (l))), some (.inl (nI m)), some (.inl (-1)), some (.inl (nI a)), some (.inl (pB ((fun c => s.1 14 l (m * 5 + c)) a))), some (.inl (nI (0))), some (.inl (nI (0)))] [] σ Q := by
  obtain ⟨hR1, hR6, hA35⟩ := hRA
  have hA5 : A ≤ 5 := by omega
  have hv14 : ∀ l j, s.1 14 l j ≤ 6150 := fun l j => hb 14 l j (by decide) (by decide)
  have hf : ∀ c, (fun c => s.1 14 l (m * 5 + c)) c ≤ 6150 := fun c => by exact hv14 _ _
  refine g_iload dX7_settled_55 rfl ?_
  refine g_aload_n dX7_settled_57 rfl ?_
  refine g_get (T := TX7) (N := 26) (Cn := RX7) (ref := "CommitCouncilModel") 2 dX7_settled_58 (mIn (by decide)) rfl rfl (fun w h => List.mem_cons_of_mem _ (hU7 w h)) (by decide) (List.mem_cons_of_mem _ uw_3_125) (Or.inl rfl) rfl ?_
  refine gEx.top (v := .inl (nI (A))) (congrArg Sum.inl (hc.1.2.1)) ?_
  refine g_icmp_ge 100 dX7_settled_61 (by decide) (fun h61 => ?_) (fun h61 => ?_)
  · skip
    rw [nI_leI (by omega) (by omega)] at h61
    exfalso; omega
  · skip
    rw [nI_leI (by omega) (by omega)] at h61
    refine g_iload dX7_settled_64 rfl ?_
    refine g_iconst ((-1)) dX7_settled_66 (by decide) ?_
    refine g_icmp_eq 100 dX7_settled_67 (by decide) (fun h67 => ?_) (fun h67 => ?_)
    · skip
      rw [pB_m1 (by have := hf a; omega)] at h67
      exact hq
    · skip
      rw [pB_m1 (by have := hf a; omega)] at h67
      exact absurd h0 h67

set_option maxRecDepth 100000 in
theorem m_setN_a {R A : Nat} (hRA : pRA R A) {cm : Nat} {s : pT} {σ : gSt} (hc : mRel R A cm s σ) (hb : pBu s.1) {l : Nat} (hl : l < 3) {m : Nat} (hm : m < R) {r : Nat} (hr1 : ∀ a, a < A → pMaj A (fun c => s.1 14 l (m * 5 + c)) a → (fun c => s.1 14 l (m * 5 + c)) a % 4 = r) (hr2 : (∀ a, a < A → ¬ pMaj A (fun c => s.1 14 l (m * 5 + c)) a) → r = 0) : ∀ (k a : Nat), a ≤ A → A - a < k → (∀ c, c < a → ¬ pMaj A (fun c => s.1 14 l (m * 5 + c)) c) → ∀ z1 z2 z3, gEx mG mX7_settled 0 29 [some (.inr 0), some (.inl (nI (l))), some (.inl (nI m)), some (.inl (-1)), some (.inl (nI a)), z1, z2, z3] [] σ (gR (nI r) (fun τ => τ = σ)) := by
  intro k
  induction k with
  | zero => intro a hi1 hi2; exact absurd hi2 (by omega)
  | succ k ih =>
    intro a hi1 hi2 hbc z1 z2 z3
    obtain ⟨hR1, hR6, hA35⟩ := hRA
    have hA5 : A ≤ 5 := by omega
    have hv14 : ∀ l j, s.1 14 l j ≤ 6150 := fun l j => hb 14 l j (by decide) (by decide)
    have hf : ∀ c, (fun c => s.1 14 l (m * 5 + c)) c ≤ 6150 := fun c => by exact hv14 _ _
    refine g_iload dX7_settled_29 rfl ?_
    refine g_aload_n dX7_settled_31 rfl ?_
    refine g_get (T := TX7) (N := 26) (Cn := RX7) (ref := "CommitCouncilModel") 2 dX7_settled_32 (mIn (by decide)) rfl rfl (fun w h => List.mem_cons_of_mem _ (hU7 w h)) (by decide) (List.mem_cons_of_mem _ uw_3_125) (Or.inl rfl) rfl ?_
    refine gEx.top (v := .inl (nI (A))) (congrArg Sum.inl (hc.1.2.1)) ?_
    refine g_icmp_ge 150 dX7_settled_35 (by decide) (fun h35 => ?_) (fun h35 => ?_)
    · skip
      rw [nI_leI (by omega) (by omega)] at h35
      refine g_iconst (nI (0)) dX7_settled_150 (by decide) ?_
      refine g_iret dX7_settled_151 rfl ?_
      exact ⟨by rw [hr2 (fun c hc9 => hbc c (by omega))], rfl⟩
    · skip
      rw [nI_leI (by omega) (by omega)] at h35
      refine g_aload_n dX7_settled_38 rfl ?_
      refine g_iload_n dX7_settled_39 rfl ?_
      refine g_iload_n dX7_settled_40 rfl ?_
      refine g_iload dX7_settled_41 rfl ?_
      refine g_iload_n dX7_settled_43 rfl ?_
      refine g_callVi (pB ((fun c => s.1 14 l (m * 5 + c)) (a))) (n9 := 4) [.inl (nI (l)), .inl (nI (m)), .inl (nI (a)), .inl (-1)] [] (m_bsN (a := a) ⟨hR1, hR6, hA35⟩ hc hb hl hm (by omega)) dX7_settled_44 (gU_V uw_4_52 uw_4_54 us_2_0 uw_1_8 uw_4_55) rfl (by decide +kernel) rfl ⟨by decide, by decide⟩ (mIn (by decide)) rfl rfl rfl (Nat.le_of_ble_eq_true rfl) (fun τ4 hq4 => ?_)
      subst hq4
      refine g_istore dX7_settled_47 (by decide) ?_
      refine g_iconst (nI (0)) dX7_settled_49 (by decide) ?_
      refine g_istore dX7_settled_50 (by decide) ?_
      refine g_iconst (nI (0)) dX7_settled_52 (by decide) ?_
      refine g_istore dX7_settled_53 (by decide) ?_
      have hnx : ∀ z : ¬ pMaj A (fun c => s.1 14 l (m * 5 + c)) a, ∀ c, c < a + 1 → ¬ pMaj A (fun c => s.1 14 l (m * 5 + c)) c := fun z c hc9 => by rcases (show c < a ∨ c = a by omega) with e | e; exact hbc c e; subst e; exact z
      by_cases h0 : (fun c => s.1 14 l (m * 5 + c)) a = 0
      · exact m_setN_z ⟨hR1, hR6, hA35⟩ hc hb hl hm (show a < A by omega) h0 (m_setN_e ⟨hR1, hR6, hA35⟩ hc hb hl hm (show a < A by omega) (by decide) (fun q => absurd q (by omega)) (fun _ => ih (a + 1) (by omega) (by omega) (hnx (fun q => q.1 h0))))
      · exact m_setN_c ⟨hR1, hR6, hA35⟩ hc hb hl hm (show a < A by omega) h0 (m_setN_e ⟨hR1, hR6, hA35⟩ hc hb hl hm (show a < A by omega) (Nat.le_trans (pCnt_le _ _ _) hA5) (fun q => ⟨h0, by rw [hr1 a (by omega) ⟨h0, q⟩]; exact ⟨rfl, rfl⟩⟩) (fun q => ih (a + 1) (by omega) (by omega) (hnx (fun w => q w.2)))) (A + 1) 0 (by omega) (by omega)

set_option maxRecDepth 100000 in
/-- settled -/
theorem m_setN {R A : Nat} (hRA : pRA R A) {cm : Nat} {s : pT} {σ : gSt} (hc : mRel R A cm s σ) (hb : pBu s.1) {l : Nat} (hl : l < 3) {m : Nat} (hm : m < R) {r : Nat} (hr : pSt A (s.1 13 (l) m) (fun c => s.1 14 l (m * 5 + c)) r) : gEM mG mX7_settled 0 [.inr (0), .inl (nI (l)), .inl (nI (m)), .inl (-1)] σ (gR (nI r) (fun τ => τ = σ)) := by
  obtain ⟨hR1, hR6, hA35⟩ := hRA
  have hA5 : A ≤ 5 := by omega
  have hv14 : ∀ l j, s.1 14 l j ≤ 6150 := fun l j => hb 14 l j (by decide) (by decide)
  have h13 : s.1 13 (l) m ≤ 2 := hb 13 _ _ (by decide) (by decide)
  refine gEM_of (by decide +kernel) rfl (Nat.le_of_ble_eq_true rfl) ?_
  refine g_aload_n dX7_settled_0 rfl ?_
  refine g_getr (T := TX7) (N := 26) (Cn := RX7) (ref := "CommitCouncilModel") 25 dX7_settled_1 (mIn (by decide)) rfl rfl (fun w h => List.mem_cons_of_mem _ (hU7 w h)) (by decide) (List.mem_cons_of_mem _ uw_3_148) (Or.inl rfl) rfl ?_
  refine g_iload_n dX7_settled_4 rfl ?_
  refine g_bipush (nI (6)) dX7_settled_5 (by decide) ?_
  refine g_imul dX7_settled_7 ?_
  refine gEx.top (v := .inl (nI ((l) * (6)))) (congrArg Sum.inl (pk_mul _ _)) ?_
  refine g_iload_n dX7_settled_8 rfl ?_
  refine g_iadd dX7_settled_9 ?_
  refine gEx.top (v := .inl (nI ((l) * (6) + m))) (congrArg Sum.inl (nI_add _ _)) ?_
  refine g_ialdN (n := 18) (j := (l) * (6) + m) dX7_settled_10 (mIn (by decide)) rfl (by omega) (by omega) ?_
  refine gEx.top (v := .inl (nI (s.1 13 (l) m))) (congrArg Sum.inl (mR_oc hc hl hm)) ?_
  refine g_if_le 26 dX7_settled_11 (by decide) (fun h11 => ?_) (fun h11 => ?_)
  · skip
    rw [nI_np (by omega)] at h11
    refine g_iconst (nI (0)) dX7_settled_26 (by decide) ?_
    refine g_istore dX7_settled_27 (by decide) ?_
    exact m_setN_a ⟨hR1, hR6, hA35⟩ hc hb hl hm (hr.2 (by omega)).1 (hr.2 (by omega)).2 (A + 1) 0 (by omega) (by omega) (fun c q => absurd q (Nat.not_lt_zero _)) _ _ _
  · skip
    rw [nI_np (by omega)] at h11
    refine g_aload_n dX7_settled_14 rfl ?_
    refine g_getr (T := TX7) (N := 26) (Cn := RX7) (ref := "CommitCouncilModel") 25 dX7_settled_15 (mIn (by decide)) rfl rfl (fun w h => List.mem_cons_of_mem _ (hU7 w h)) (by decide) (List.mem_cons_of_mem _ uw_3_148) (Or.inl rfl) rfl ?_
    refine g_iload_n dX7_settled_18 rfl ?_
    refine g_bipush (nI (6)) dX7_settled_19 (by decide) ?_
    refine g_imul dX7_settled_21 ?_
    refine gEx.top (v := .inl (nI ((l) * (6)))) (congrArg Sum.inl (pk_mul _ _)) ?_
    refine g_iload_n dX7_settled_22 rfl ?_
    refine g_iadd dX7_settled_23 ?_
    refine gEx.top (v := .inl (nI ((l) * (6) + m))) (congrArg Sum.inl (nI_add _ _)) ?_
    refine g_ialdN (n := 18) (j := (l) * (6) + m) dX7_settled_24 (mIn (by decide)) rfl (by omega) (by omega) ?_
    refine gEx.top (v := .inl (nI (s.1 13 (l) m))) (congrArg Sum.inl (mR_oc hc hl hm)) ?_
    exact g_iret dX7_settled_25 rfl (⟨by rw [hr.1 (by omega)], rfl⟩)

def pDcd (R : Nat) (g : Nat → Nat) : Nat := if ∀ m, m < R → g m ≠ 2 then (if ∀ m, m < R → g m = 1 then 1 else 0) else 2
theorem all_s {p : Nat → Prop} {n : Nat} (h : ∀ k, k < n → p k) (hn : p n) : ∀ k, k < n + 1 → p k := fun k hk => by
  rcases (show k < n ∨ k = n by omega) with e | e
  · exact h k e
  · subst e; exact hn

set_option maxRecDepth 100000 in
theorem m_dcdM_l {R A : Nat} (hRA : pRA R A) {cm : Nat} {s : pT} {σ : gSt} (hc : mRel R A cm s σ) (hb : pBu s.1) {i : Nat} {x : pMsg} (hx : s.2[i]? = some x) (hk : x 0 = 1) (hp : pMk R A x) (hlen : s.2.length ≤ 400) {g : Nat → Nat} (hg2 : ∀ m, m < R → g m ≤ 2) (hg : ∀ m, m < R → pSt A (s.1 13 (x 1) m) (vf s.1 x m) (g m)) : ∀ (k m : Nat), m ≤ R → R - m < k → (∀ k, k < m → g k ≠ 2) → ∀ e z, e ≤ 1 → (e = 1 ↔ ∀ k, k < m → g k = 1) → gEx mG mX7_decided 0 5 [some (.inr 0), some (.inl (nI (x 1))), some (.inl (nI (i))), some (.inl (nI e)), some (.inl (nI m)), z] [] σ (gR (nI (pDcd R g)) (fun τ => τ = σ)) := by
  intro k
  induction k with
  | zero => intro m hi1 hi2; exact absurd hi2 (by omega)
  | succ k ih =>
    intro m hi1 hi2 hn2 e z he1 he
    obtain ⟨hR1, hR6, hA35⟩ := hRA
    have hA5 : A ≤ 5 := by omega
    have hi := (List.getElem?_eq_some_iff.mp hx).1
    have hx4 := hp.1
    obtain ⟨hx1, hx2, hx3, hx5⟩ := hp.2.2.1 hk
    have hv14 : ∀ l j, s.1 14 l j ≤ 6150 := fun l j => hb 14 l j (by decide) (by decide)
    refine g_iload dX7_decided_5 rfl ?_
    refine g_aload_n dX7_decided_7 rfl ?_
    refine g_get (T := TX7) (N := 26) (Cn := RX7) (ref := "CommitCouncilModel") 1 dX7_decided_8 (mIn (by decide)) rfl rfl (fun w h => List.mem_cons_of_mem _ (hU7 w h)) (by decide) (List.mem_cons_of_mem _ uw_3_124) (Or.inl rfl) rfl ?_
    refine gEx.top (v := .inl (nI (R))) (congrArg Sum.inl (hc.1.1)) ?_
    refine g_icmp_ge 54 dX7_decided_11 (by decide) (fun h11 => ?_) (fun h11 => ?_)
    · skip
      rw [nI_leI (by omega) (by omega)] at h11
      refine g_iload_n dX7_decided_54 rfl ?_
      refine g_if_eq 62 dX7_decided_55 (by decide) (fun h55 => ?_) (fun h55 => ?_)
      · skip
        rw [nI_z (by omega)] at h55
        refine g_iconst (nI (0)) dX7_decided_62 (by decide) ?_
        refine g_iret dX7_decided_63 rfl ?_
        have e9 : m = R := by omega
        subst e9
        refine ⟨?_, rfl⟩
        unfold pDcd
        rw [if_pos hn2]
        first | (rw [if_pos (he.mp (by omega))]; done) | (rw [if_neg (fun q => by have := he.mpr q; omega)]; done)
      · skip
        rw [nI_z (by omega)] at h55
        refine g_iconst (nI (1)) dX7_decided_58 (by decide) ?_
        refine g_goto 63 dX7_decided_59 (by decide) ?_
        refine g_iret dX7_decided_63 rfl ?_
        have e9 : m = R := by omega
        subst e9
        refine ⟨?_, rfl⟩
        unfold pDcd
        rw [if_pos hn2]
        first | (rw [if_pos (he.mp (by omega))]; done) | (rw [if_neg (fun q => by have := he.mpr q; omega)]; done)
    · skip
      rw [nI_leI (by omega) (by omega)] at h11
      have hm : m < R := by omega
      have hgm := hg2 m hm
      refine g_aload_n dX7_decided_14 rfl ?_
      refine g_iload_n dX7_decided_15 rfl ?_
      refine g_iload dX7_decided_16 rfl ?_
      refine g_iload_n dX7_decided_18 rfl ?_
      refine g_callVi (nI (g m)) (n9 := 3) [.inl (nI (x 1)), .inl (nI (m)), .inl (nI (i))] [] (m_setM ⟨hR1, hR6, hA35⟩ hc hb hx hk hp hlen hm (hg m hm)) dX7_decided_19 (gU_V uw_4_48 uw_4_50 us_1_15 uw_1_8 uw_4_51) rfl (by decide +kernel) rfl ⟨by decide, by decide⟩ (mIn (by decide)) rfl rfl rfl (Nat.le_of_ble_eq_true rfl) (fun τ4 hq4 => ?_)
      subst hq4
      refine g_istore dX7_decided_22 (by decide) ?_
      refine g_iload dX7_decided_24 rfl ?_
      refine g_iconst (nI (2)) dX7_decided_26 (by decide) ?_
      refine g_icmp_ne 32 dX7_decided_27 (by decide) (fun h27 => ?_) (fun h27 => ?_)
      · skip
        rw [nI_eq (by omega) (by omega)] at h27
        refine g_iload_n dX7_decided_32 rfl ?_
        refine g_if_eq 46 dX7_decided_33 (by decide) (fun h33 => ?_) (fun h33 => ?_)
        · skip
          rw [nI_z (by omega)] at h33
          refine g_iconst (nI (0)) dX7_decided_46 (by decide) ?_
          refine g_istore_n dX7_decided_47 (by decide) ?_
          refine g_iinc (nI (m + 1)) dX7_decided_48 rfl (show nI (m) + nI 1 = _ from nI_add _ _) (by decide) ?_
          refine g_goto 5 dX7_decided_51 (by decide) ?_
          exact ih (m + 1) (by omega) (by omega) (all_s hn2 (by omega)) _ _ (by omega) ⟨fun q => by first | (exfalso; omega) | exact all_s (he.mp (by omega)) (by omega), fun q => by first | rfl | (exfalso; have := he.mpr (fun k hk9 => q k (by omega)); have := q m (by omega); omega)⟩
        · skip
          rw [nI_z (by omega)] at h33
          refine g_iload dX7_decided_36 rfl ?_
          refine g_iconst (nI (1)) dX7_decided_38 (by decide) ?_
          refine g_icmp_ne 46 dX7_decided_39 (by decide) (fun h39 => ?_) (fun h39 => ?_)
          · skip
            rw [nI_eq (by omega) (by omega)] at h39
            refine g_iconst (nI (0)) dX7_decided_46 (by decide) ?_
            refine g_istore_n dX7_decided_47 (by decide) ?_
            refine g_iinc (nI (m + 1)) dX7_decided_48 rfl (show nI (m) + nI 1 = _ from nI_add _ _) (by decide) ?_
            refine g_goto 5 dX7_decided_51 (by decide) ?_
            exact ih (m + 1) (by omega) (by omega) (all_s hn2 (by omega)) _ _ (by omega) ⟨fun q => by first | (exfalso; omega) | exact all_s (he.mp (by omega)) (by omega), fun q => by first | rfl | (exfalso; have := he.mpr (fun k hk9 => q k (by omega)); have := q m (by omega); omega)⟩
          · skip
            rw [nI_eq (by omega) (by omega)] at h39
            refine g_iconst (nI (1)) dX7_decided_42 (by decide) ?_
            refine g_goto 47 dX7_decided_43 (by decide) ?_
            refine g_istore_n dX7_decided_47 (by decide) ?_
            refine g_iinc (nI (m + 1)) dX7_decided_48 rfl (show nI (m) + nI 1 = _ from nI_add _ _) (by decide) ?_
            refine g_goto 5 dX7_decided_51 (by decide) ?_
            exact ih (m + 1) (by omega) (by omega) (all_s hn2 (by omega)) _ _ (by omega) ⟨fun q => by first | (exfalso; omega) | exact all_s (he.mp (by omega)) (by omega), fun q => by first | rfl | (exfalso; have := he.mpr (fun k hk9 => q k (by omega)); have := q m (by omega); omega)⟩
      · skip
        rw [nI_eq (by omega) (by omega)] at h27
        refine g_iconst (nI (2)) dX7_decided_30 (by decide) ?_
        exact g_iret dX7_decided_31 rfl (⟨by unfold pDcd; rw [if_neg (fun q => q m hm (by omega))], rfl⟩)

set_option maxRecDepth 100000 in
/-- decided -/
theorem m_dcdM {R A : Nat} (hRA : pRA R A) {cm : Nat} {s : pT} {σ : gSt} (hc : mRel R A cm s σ) (hb : pBu s.1) {i : Nat} {x : pMsg} (hx : s.2[i]? = some x) (hk : x 0 = 1) (hp : pMk R A x) (hlen : s.2.length ≤ 400) {g : Nat → Nat} (hg2 : ∀ m, m < R → g m ≤ 2) (hg : ∀ m, m < R → pSt A (s.1 13 (x 1) m) (vf s.1 x m) (g m)) : gEM mG mX7_decided 0 [.inr (0), .inl (nI (x 1)), .inl (nI (i))] σ (gR (nI (pDcd R g)) (fun τ => τ = σ)) := by
  refine gEM_of (by decide +kernel) rfl (Nat.le_of_ble_eq_true rfl) ?_
  refine g_iconst (nI (1)) dX7_decided_0 (by decide) ?_
  refine g_istore_n dX7_decided_1 (by decide) ?_
  refine g_iconst (nI (0)) dX7_decided_2 (by decide) ?_
  refine g_istore dX7_decided_3 (by decide) ?_
  exact m_dcdM_l hRA hc hb hx hk hp hlen hg2 hg (R + 1) 0 (by omega) (by omega) (fun k q => absurd q (Nat.not_lt_zero _)) 1 _ (by decide) ⟨fun _ k q => absurd q (Nat.not_lt_zero _), fun _ => rfl⟩

set_option maxRecDepth 100000 in
theorem m_dcdN_l {R A : Nat} (hRA : pRA R A) {cm : Nat} {s : pT} {σ : gSt} (hc : mRel R A cm s σ) (hb : pBu s.1) {l : Nat} (hl : l < 3) {g : Nat → Nat} (hg2 : ∀ m, m < R → g m ≤ 2) (hg : ∀ m, m < R → pSt A (s.1 13 (l) m) (fun c => s.1 14 l (m * 5 + c)) (g m)) : ∀ (k m : Nat), m ≤ R → R - m < k → (∀ k, k < m → g k ≠ 2) → ∀ e z, e ≤ 1 → (e = 1 ↔ ∀ k, k < m → g k = 1) → gEx mG mX7_decided 0 5 [some (.inr 0), some (.inl (nI (l))), some (.inl (-1)), some (.inl (nI e)), some (.inl (nI m)), z] [] σ (gR (nI (pDcd R g)) (fun τ => τ = σ)) := by
  intro k
  induction k with
  | zero => intro m hi1 hi2; exact absurd hi2 (by omega)
  | succ k ih =>
    intro m hi1 hi2 hn2 e z he1 he
    obtain ⟨hR1, hR6, hA35⟩ := hRA
    have hA5 : A ≤ 5 := by omega
    have hv14 : ∀ l j, s.1 14 l j ≤ 6150 := fun l j => hb 14 l j (by decide) (by decide)
    refine g_iload dX7_decided_5 rfl ?_
    refine g_aload_n dX7_decided_7 rfl ?_
    refine g_get (T := TX7) (N := 26) (Cn := RX7) (ref := "CommitCouncilModel") 1 dX7_decided_8 (mIn (by decide)) rfl rfl (fun w h => List.mem_cons_of_mem _ (hU7 w h)) (by decide) (List.mem_cons_of_mem _ uw_3_124) (Or.inl rfl) rfl ?_
    refine gEx.top (v := .inl (nI (R))) (congrArg Sum.inl (hc.1.1)) ?_
    refine g_icmp_ge 54 dX7_decided_11 (by decide) (fun h11 => ?_) (fun h11 => ?_)
    · skip
      rw [nI_leI (by omega) (by omega)] at h11
      refine g_iload_n dX7_decided_54 rfl ?_
      refine g_if_eq 62 dX7_decided_55 (by decide) (fun h55 => ?_) (fun h55 => ?_)
      · skip
        rw [nI_z (by omega)] at h55
        refine g_iconst (nI (0)) dX7_decided_62 (by decide) ?_
        refine g_iret dX7_decided_63 rfl ?_
        have e9 : m = R := by omega
        subst e9
        refine ⟨?_, rfl⟩
        unfold pDcd
        rw [if_pos hn2]
        first | (rw [if_pos (he.mp (by omega))]; done) | (rw [if_neg (fun q => by have := he.mpr q; omega)]; done)
      · skip
        rw [nI_z (by omega)] at h55
        refine g_iconst (nI (1)) dX7_decided_58 (by decide) ?_
        refine g_goto 63 dX7_decided_59 (by decide) ?_
        refine g_iret dX7_decided_63 rfl ?_
        have e9 : m = R := by omega
        subst e9
        refine ⟨?_, rfl⟩
        unfold pDcd
        rw [if_pos hn2]
        first | (rw [if_pos (he.mp (by omega))]; done) | (rw [if_neg (fun q => by have := he.mpr q; omega)]; done)
    · skip
      rw [nI_leI (by omega) (by omega)] at h11
      have hm : m < R := by omega
      have hgm := hg2 m hm
      refine g_aload_n dX7_decided_14 rfl ?_
      refine g_iload_n dX7_decided_15 rfl ?_
      refine g_iload dX7_decided_16 rfl ?_
      refine g_iload_n dX7_decided_18 rfl ?_
      refine g_callVi (nI (g m)) (n9 := 3) [.inl (nI (l)), .inl (nI (m)), .inl (-1)] [] (m_setN ⟨hR1, hR6, hA35⟩ hc hb hl hm (hg m hm)) dX7_decided_19 (gU_V uw_4_48 uw_4_50 us_1_15 uw_1_8 uw_4_51) rfl (by decide +kernel) rfl ⟨by decide, by decide⟩ (mIn (by decide)) rfl rfl rfl (Nat.le_of_ble_eq_true rfl) (fun τ4 hq4 => ?_)
      subst hq4
      refine g_istore dX7_decided_22 (by decide) ?_
      refine g_iload dX7_decided_24 rfl ?_
      refine g_iconst (nI (2)) dX7_decided_26 (by decide) ?_
      refine g_icmp_ne 32 dX7_decided_27 (by decide) (fun h27 => ?_) (fun h27 => ?_)
      · skip
        rw [nI_eq (by omega) (by omega)] at h27
        refine g_iload_n dX7_decided_32 rfl ?_
        refine g_if_eq 46 dX7_decided_33 (by decide) (fun h33 => ?_) (fun h33 => ?_)
        · skip
          rw [nI_z (by omega)] at h33
          refine g_iconst (nI (0)) dX7_decided_46 (by decide) ?_
          refine g_istore_n dX7_decided_47 (by decide) ?_
          refine g_iinc (nI (m + 1)) dX7_decided_48 rfl (show nI (m) + nI 1 = _ from nI_add _ _) (by decide) ?_
          refine g_goto 5 dX7_decided_51 (by decide) ?_
          exact ih (m + 1) (by omega) (by omega) (all_s hn2 (by omega)) _ _ (by omega) ⟨fun q => by first | (exfalso; omega) | exact all_s (he.mp (by omega)) (by omega), fun q => by first | rfl | (exfalso; have := he.mpr (fun k hk9 => q k (by omega)); have := q m (by omega); omega)⟩
        · skip
          rw [nI_z (by omega)] at h33
          refine g_iload dX7_decided_36 rfl ?_
          refine g_iconst (nI (1)) dX7_decided_38 (by decide) ?_
          refine g_icmp_ne 46 dX7_decided_39 (by decide) (fun h39 => ?_) (fun h39 => ?_)
          · skip
            rw [nI_eq (by omega) (by omega)] at h39
            refine g_iconst (nI (0)) dX7_decided_46 (by decide) ?_
            refine g_istore_n dX7_decided_47 (by decide) ?_
            refine g_iinc (nI (m + 1)) dX7_decided_48 rfl (show nI (m) + nI 1 = _ from nI_add _ _) (by decide) ?_
            refine g_goto 5 dX7_decided_51 (by decide) ?_
            exact ih (m + 1) (by omega) (by omega) (all_s hn2 (by omega)) _ _ (by omega) ⟨fun q => by first | (exfalso; omega) | exact all_s (he.mp (by omega)) (by omega), fun q => by first | rfl | (exfalso; have := he.mpr (fun k hk9 => q k (by omega)); have := q m (by omega); omega)⟩
          · skip
            rw [nI_eq (by omega) (by omega)] at h39
            refine g_iconst (nI (1)) dX7_decided_42 (by decide) ?_
            refine g_goto 47 dX7_decided_43 (by decide) ?_
            refine g_istore_n dX7_decided_47 (by decide) ?_
            refine g_iinc (nI (m + 1)) dX7_decided_48 rfl (show nI (m) + nI 1 = _ from nI_add _ _) (by decide) ?_
            refine g_goto 5 dX7_decided_51 (by decide) ?_
            exact ih (m + 1) (by omega) (by omega) (all_s hn2 (by omega)) _ _ (by omega) ⟨fun q => by first | (exfalso; omega) | exact all_s (he.mp (by omega)) (by omega), fun q => by first | rfl | (exfalso; have := he.mpr (fun k hk9 => q k (by omega)); have := q m (by omega); omega)⟩
      · skip
        rw [nI_eq (by omega) (by omega)] at h27
        refine g_iconst (nI (2)) dX7_decided_30 (by decide) ?_
        exact g_iret dX7_decided_31 rfl (⟨by unfold pDcd; rw [if_neg (fun q => q m hm (by omega))], rfl⟩)

set_option maxRecDepth 100000 in
/-- decided -/
theorem m_dcdN {R A : Nat} (hRA : pRA R A) {cm : Nat} {s : pT} {σ : gSt} (hc : mRel R A cm s σ) (hb : pBu s.1) {l : Nat} (hl : l < 3) {g : Nat → Nat} (hg2 : ∀ m, m < R → g m ≤ 2) (hg : ∀ m, m < R → pSt A (s.1 13 (l) m) (fun c => s.1 14 l (m * 5 + c)) (g m)) : gEM mG mX7_decided 0 [.inr (0), .inl (nI (l)), .inl (-1)] σ (gR (nI (pDcd R g)) (fun τ => τ = σ)) := by
  refine gEM_of (by decide +kernel) rfl (Nat.le_of_ble_eq_true rfl) ?_
  refine g_iconst (nI (1)) dX7_decided_0 (by decide) ?_
  refine g_istore_n dX7_decided_1 (by decide) ?_
  refine g_iconst (nI (0)) dX7_decided_2 (by decide) ?_
  refine g_istore dX7_decided_3 (by decide) ?_
  exact m_dcdN_l hRA hc hb hl hg2 hg (R + 1) 0 (by omega) (by omega) (fun k q => absurd q (Nat.not_lt_zero _)) 1 _ (by decide) ⟨fun _ k q => absurd q (Nat.not_lt_zero _), fun _ => rfl⟩

theorem pDcd_le (R : Nat) (g : Nat → Nat) : pDcd R g ≤ 2 := by
  unfold pDcd
  split
  · split <;> omega
  · omega

set_option maxRecDepth 100000 in
/-- decides -/
theorem m_decs {R A : Nat} (hRA : pRA R A) {cm : Nat} {s : pT} {σ : gSt} (hc : mRel R A cm s σ) (hb : pBu s.1) {i : Nat} {x : pMsg} (hx : s.2[i]? = some x) (hk : x 0 = 1) (hp : pMk R A x) (hlen : s.2.length ≤ 400) {g : Nat → Nat} (hg2 : ∀ m, m < R → g m ≤ 2) (hg : ∀ m, m < R → pSt A (s.1 13 (x 1) m) (vf s.1 x m) (g m)) : gEM mG mX7_decides 0 [.inr (0), .inl (nI (i))] σ (gR (bI (s.1 10 (x 1) 0 = 0 ∧ 0 < pDcd R g)) (fun τ => τ = σ)) := by
  obtain ⟨hR1, hR6, hA35⟩ := hRA
  have hA5 : A ≤ 5 := by omega
  have hi := (List.getElem?_eq_some_iff.mp hx).1
  have hx4 := hp.1
  obtain ⟨hx1, hx2, hx3, hx5⟩ := hp.2.2.1 hk
  have hv14 : ∀ l j, s.1 14 l j ≤ 6150 := fun l j => hb 14 l j (by decide) (by decide)
  have hb10 : s.1 10 (x 1) 0 ≤ 2 := hb 10 _ _ (by decide) (by decide)
  have hdl := pDcd_le R g
  refine gEM_of (by decide +kernel) rfl (Nat.le_of_ble_eq_true rfl) ?_
  refine g_aload_n dX7_decides_0 rfl ?_
  refine g_iload_n dX7_decides_1 rfl ?_
  refine g_iconst (nI (1)) dX7_decides_2 (by decide) ?_
  refine g_callVi (_) (n9 := 2) [.inl (nI (i)), .inl (nI (1))] [] (m_of (i := i) (j := 1) (by omega)) dX7_decides_3 (gU_V uw_4_25 uw_4_27 us_1_10 uw_1_8 uw_4_28) rfl (by decide +kernel) rfl ⟨by decide, by decide⟩ (mIn (by decide)) rfl rfl rfl (Nat.le_of_ble_eq_true rfl) (fun τ1 hq1 => ?_)
  subst hq1
  refine gEx.top (v := .inl (nI (x 1))) (congrArg Sum.inl (((hc.2.1 i x hx).1 1 (by decide)).trans (ptN (by rw [hk]; rfl)))) ?_
  refine g_istore_n dX7_decides_6 (by decide) ?_
  refine g_aload_n dX7_decides_7 rfl ?_
  refine g_getr (T := TX7) (N := 26) (Cn := RX7) (ref := "CommitCouncilModel") 19 dX7_decides_8 (mIn (by decide)) rfl rfl (fun w h => List.mem_cons_of_mem _ (hU7 w h)) (by decide) (List.mem_cons_of_mem _ uw_3_142) (Or.inl rfl) rfl ?_
  refine g_iload_n dX7_decides_11 rfl ?_
  refine g_ialdN (n := 3) (j := x 1) dX7_decides_12 (mIn (by decide)) rfl (by omega) (by omega) ?_
  refine gEx.top (v := .inl (nI (s.1 10 (x 1) 0))) (congrArg Sum.inl (mR_dec hc (by omega))) ?_
  refine g_if_ne 29 dX7_decides_13 (by decide) (fun h13 => ?_) (fun h13 => ?_)
  · skip
    rw [nI_z (by omega)] at h13
    refine g_iconst (nI (0)) dX7_decides_29 (by decide) ?_
    exact g_zret dX7_decides_30 rfl (rfl) (⟨by unfold bI; rw [if_neg (by omega)]; rfl, rfl⟩)
  · skip
    rw [nI_z (by omega)] at h13
    refine g_aload_n dX7_decides_16 rfl ?_
    refine g_iload_n dX7_decides_17 rfl ?_
    refine g_iload_n dX7_decides_18 rfl ?_
    refine g_callVi (nI (pDcd R g)) (n9 := 2) [.inl (nI (x 1)), .inl (nI (i))] [] (m_dcdM ⟨hR1, hR6, hA35⟩ hc hb hx hk hp hlen hg2 hg) dX7_decides_19 (gU_V uw_4_44 uw_4_46 us_1_14 uw_1_8 uw_4_47) rfl (by decide +kernel) rfl ⟨by decide, by decide⟩ (mIn (by decide)) rfl rfl rfl (Nat.le_of_ble_eq_true rfl) (fun τ4 hq4 => ?_)
    subst hq4
    refine g_if_le 29 dX7_decides_22 (by decide) (fun h22 => ?_) (fun h22 => ?_)
    · skip
      rw [nI_np (by omega)] at h22
      refine g_iconst (nI (0)) dX7_decides_29 (by decide) ?_
      exact g_zret dX7_decides_30 rfl (rfl) (⟨by unfold bI; rw [if_neg (by omega)]; rfl, rfl⟩)
    · skip
      rw [nI_np (by omega)] at h22
      refine g_iconst (nI (1)) dX7_decides_25 (by decide) ?_
      refine g_goto 30 dX7_decides_26 (by decide) ?_
      exact g_zret dX7_decides_30 rfl (rfl) (⟨by unfold bI; rw [if_pos ⟨by omega, by omega⟩]; rfl, rfl⟩)
