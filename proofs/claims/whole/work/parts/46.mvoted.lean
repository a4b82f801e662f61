/-- the outcomes as they will be -/
def gx (A : Nat) (α : pS) (x : pMsg) (m : Nat) : Nat := if m = x 3 then pOut A α (x 1) (x 3) (x 2) (x 4) (x 5) else α 13 (x 1) m
/-- what VOTED needs -/
def pGo1 (R A : Nat) (α : pS) (x : pMsg) : Prop := (∀ m, m < R → pSt A (α 13 (x 1) m) (vf α x m) (gx A α x m)) ∧ (α 10 (x 1) 0 = 0 → pDcd R (gx A α x) = pDec R A α (x 1) (x 3) (x 2) (x 4) (x 5))
def pOj (α : pS) (l : Nat) (g : Nat → Nat) (j : Nat) : pS := fun c i k => if c = 13 ∧ i = l ∧ k < j then g k else α c i k
theorem pOj_0 (α : pS) (l : Nat) (g : Nat → Nat) : pOj α l g 0 = α := by
  funext c i k
  unfold pOj
  rw [if_neg (fun q => absurd q.2.2 (Nat.not_lt_zero _))]
theorem pOj_s (α : pS) (l : Nat) (g : Nat → Nat) (j : Nat) : pu (pOj α l g j) 13 l j (g j) = pOj α l g (j + 1) := by
  funext c i k
  unfold pu pOj
  by_cases h : c = 13 ∧ i = l ∧ k = j
  · rw [if_pos h, if_pos ⟨h.1, h.2.1, by omega⟩, h.2.2]
  · rw [if_neg h]
    by_cases h2 : c = 13 ∧ i = l ∧ k < j
    · rw [if_pos h2, if_pos ⟨h2.1, h2.2.1, by omega⟩]
    · rw [if_neg h2, if_neg (fun q => by
        rcases (show k < j ∨ k = j by omega) with e | e
        · exact h2 ⟨q.1, q.2.1, e⟩
        · exact h ⟨q.1, q.2.1, e⟩)]
theorem pOj_c {α : pS} {l j c : Nat} {g : Nat → Nat} (h : c ≠ 13) : pOj α l g j c = α c := by
  funext i k
  unfold pOj
  rw [if_neg (fun q => h q.1)]
theorem pOj_hi {α : pS} {l j k : Nat} {g : Nat → Nat} (h : j ≤ k) : pOj α l g j 13 l k = α 13 l k := if_neg (fun q => by omega)
theorem pOj_lo {α : pS} {l j k : Nat} {g : Nat → Nat} (h : k < j) : pOj α l g j 13 l k = g k := if_pos ⟨rfl, rfl, h⟩
theorem pBu_oj {α : pS} (h : pBu α) {l j : Nat} {g : Nat → Nat} (hg : ∀ k, k < j → g k ≤ 2) : pBu (pOj α l g j) := by
  intro x y z h1 h2
  unfold pOj
  split
  · rename_i q
    rw [q.1]
    exact hg z q.2.2
  · exact h x y z h1 h2
theorem pSt_congr {A o r : Nat} {f g : Nat → Nat} (hA : ∀ c, c < A → f c = g c) (h : pSt A o f r) : pSt A o g r := by
  have hc : ∀ a, a < A → pCnt f a A = pCnt g a A := fun a ha => by
    unfold pCnt
    exact psum_congr A (fun c hc => by rw [hA c hc, hA a ha])
  have hm : ∀ a, a < A → (pMaj A f a ↔ pMaj A g a) := fun a ha => by
    unfold pMaj
    rw [hA a ha, hc a ha]
  refine ⟨h.1, fun ho => ⟨fun a ha q => ?_, fun q => (h.2 ho).2 (fun a ha z => q a ha ((hm a ha).mp z))⟩⟩
  rw [← hA a ha]
  exact (h.2 ho).1 a ha ((hm a ha).mpr q)
theorem pSt_self {A o r : Nat} {f : Nat → Nat} (h : pSt A o f r) : pSt A r f r := by
  refine ⟨fun _ => rfl, fun hr => ?_⟩
  by_cases ho : o = 0
  · exact h.2 ho
  · exact absurd ((h.1 ho).symm.trans hr) ho
theorem pSt_oh {A l j : Nat} {β : pS} {g : Nat → Nat} (h : pSt A (β 13 l j) (fun c => β 14 l (j * 5 + c)) (g j)) : pSt A (pOj β l g j 13 l j) (fun c => pOj β l g j 14 l (j * 5 + c)) (g j) := by
  rw [pOj_hi (Nat.le_refl _), pOj_c (by decide)]
  exact h

theorem vf_new {α β : pS} {x : pMsg} {m c : Nat} (hpn : pNew α (x 1) (x 3) (x 2) (x 4)) (hc : c < 5) (hx : x 2 < 5) (h14 : β 14 = α 14) : vf α x m c = pu β 14 (x 1) (x 3 * 5 + x 2) (4 * x 4 + x 5) 14 (x 1) (m * 5 + c) := by
  unfold vf
  by_cases e : m = x 3 ∧ c = x 2
  · rw [if_pos ⟨e.1, e.2, hpn⟩, e.1, e.2, pu_at]
  · rw [if_neg (fun q => e ⟨q.1, q.2.1⟩)]
    unfold pu
    rw [if_neg (fun q => e ⟨by omega, by omega⟩), h14]
theorem vf_old {α β : pS} {x : pMsg} {m c : Nat} (hpn : ¬ pNew α (x 1) (x 3) (x 2) (x 4)) (h14 : β 14 = α 14) : vf α x m c = β 14 (x 1) (m * 5 + c) := by
  unfold vf
  rw [if_neg (fun q => hpn q.2.2), h14]
theorem pSt_oj {A R l m : Nat} {β : pS} {g : Nat → Nat} (hm : m < R) (h : pSt A (β 13 l m) (fun c => β 14 l (m * 5 + c)) (g m)) : pSt A (pOj β l g R 13 l m) (fun c => pOj β l g R 14 l (m * 5 + c)) (g m) := by
  rw [pOj_lo hm, pOj_c (by decide)]
  exact pSt_self h
theorem pu13 {α : pS} {l m o v c : Nat} (h : c ≠ 13) : pu (pu α 13 l m o) 10 l 0 v c = pu α 10 l 0 v c := by
  funext y z
  unfold pu
  by_cases q : c = 10 ∧ y = l ∧ z = 0
  · rw [if_pos q, if_pos q]
  · rw [if_neg q, if_neg q, if_neg (fun w => h w.1)]
theorem see13 {A R : Nat} {α β : pS} {x : pMsg} {l m d : Nat} (hm : m < R) (h : α 13 = β 13) : pu (pu α 13 (x 1) (x 3) (pOut A β (x 1) (x 3) (x 2) (x 4) (x 5))) 10 (x 1) 0 d 13 l m = pOj α (x 1) (gx A β x) R 13 l m := by
  rw [pu_c _ (by decide)]
  unfold pu pOj gx
  by_cases e : l = x 1
  · subst e
    rw [if_pos (show 13 = 13 ∧ x 1 = x 1 ∧ m < R from ⟨rfl, rfl, hm⟩)]
    by_cases e2 : m = x 3
    · rw [if_pos ⟨rfl, rfl, e2⟩, if_pos e2]
    · rw [if_neg (fun q => e2 q.2.2), if_neg e2, h]
  · rw [if_neg (fun q => e q.2.1), if_neg (fun q => e q.2.1)]
theorem snd13 {α β : pS} {c k : Nat} (h : α c = β c) (h1 : α 1 = β 1) : pu α 1 0 0 (α 1 0 0 + k) c = pu β 1 0 0 (β 1 0 0 + k) c := by
  funext y z
  unfold pu
  rw [h, h1]
theorem snd13b {α : pS} {l k c d R : Nat} {g : Nat → Nat} (h : c ≠ 13) : pu (pu α 10 l 0 d) 1 0 0 (pu α 10 l 0 d 1 0 0 + k) c = pu (pu (pOj α l g R) 10 l 0 d) 1 0 0 (pu (pOj α l g R) 10 l 0 d 1 0 0 + k) c := by
  funext y z
  unfold pu
  rw [pOj_c h, pOj_c (show 1 ≠ 13 by decide)]

set_option maxRecDepth 100000 in
theorem m_vo_l {R A : Nat} (hRA : pRA R A) {cm : Nat} {s : pT} {σ0 : gSt} (hb : pBu s.1) {l : Nat} (hl : l < 3) {g : Nat → Nat} (hg2 : ∀ m, m < R → g m ≤ 2) (hg : ∀ m, m < R → pSt A (s.1 13 l m) (fun c => s.1 14 l (m * 5 + c)) (g m)) {y1 y2 y3 : Int32} {Q : gOut → gSt → Prop} (hq : ∀ σ, mRel R A cm (pOj s.1 l g R, s.2) σ → mE σ0 σ → gEx mG mX7_votedComes 0 112 [some (.inr 0), some (.inl (nI l)), some (.inl y1), some (.inl y2), some (.inl y3), some (.inl (nI R))] [] σ Q) : ∀ (k j : Nat), j ≤ R → R - j < k → ∀ σ, mRel R A cm (pOj s.1 l g j, s.2) σ → mE σ0 σ → gEx mG mX7_votedComes 0 77 [some (.inr 0), some (.inl (nI l)), some (.inl y1), some (.inl y2), some (.inl y3), some (.inl (nI j))] [] σ Q := by
  intro k
  induction k with
  | zero => intro j hi1 hi2; exact absurd hi2 (by omega)
  | succ k ih =>
    intro j hi1 hi2 σ hc hE
    obtain ⟨hR1, hR6, hA35⟩ := hRA
    refine g_iload dX7_votedComes_77 rfl ?_
    refine g_aload_n dX7_votedComes_79 rfl ?_
    refine g_get (T := TX7) (N := 26) (Cn := RX7) (ref := "CommitCouncilModel") 1 dX7_votedComes_80 (mIn (by decide)) rfl rfl (fun w h => List.mem_cons_of_mem _ (hU7 w h)) (by decide) (List.mem_cons_of_mem _ uw_3_124) (Or.inl rfl) rfl ?_
    refine gEx.top (v := .inl (nI (R))) (congrArg Sum.inl (hc.1.1)) ?_
    refine g_icmp_ge 112 dX7_votedComes_83 (by decide) (fun h83 => ?_) (fun h83 => ?_)
    · skip
      rw [nI_leI (by omega) (by omega)] at h83
      have e : j = R := by omega
      subst e
      exact hq σ hc hE
    · skip
      rw [nI_leI (by omega) (by omega)] at h83
      have hj : j < R := by omega
      refine g_aload_n dX7_votedComes_86 rfl ?_
      refine g_getr (T := TX7) (N := 26) (Cn := RX7) (ref := "CommitCouncilModel") 25 dX7_votedComes_87 (mIn (by decide)) rfl rfl (fun w h => List.mem_cons_of_mem _ (hU7 w h)) (by decide) (List.mem_cons_of_mem _ uw_3_148) (Or.inl rfl) rfl ?_
      refine g_iload_n dX7_votedComes_90 rfl ?_
      refine g_bipush (nI (6)) dX7_votedComes_91 (by decide) ?_
      refine g_imul dX7_votedComes_93 ?_
      refine gEx.top (v := .inl (nI ((l) * (6)))) (congrArg Sum.inl (pk_mul _ _)) ?_
      refine g_iload dX7_votedComes_94 rfl ?_
      refine g_iadd dX7_votedComes_96 ?_
      refine gEx.top (v := .inl (nI ((l) * (6) + j))) (congrArg Sum.inl (nI_add _ _)) ?_
      refine g_aload_n dX7_votedComes_97 rfl ?_
      refine g_iload_n dX7_votedComes_98 rfl ?_
      refine g_iload dX7_votedComes_99 rfl ?_
      refine g_iconst ((-1)) dX7_votedComes_101 (by decide) ?_
      refine g_callVi (nI (g j)) (n9 := 3) [.inl (nI (l)), .inl (nI (j)), .inl ((-1))] [.inl (nI ((l) * (6) + j)), .inr (19)] (m_setN (s := (pOj s.1 l g j, s.2)) ⟨hR1, hR6, hA35⟩ hc (pBu_oj hb (fun k hk => hg2 k (by omega))) hl hj (r := g j) (pSt_oh (hg j hj))) dX7_votedComes_102 (gU_V uw_4_48 uw_4_50 us_1_15 uw_1_8 uw_4_51) rfl (by decide +kernel) rfl ⟨by decide, by decide⟩ (mIn (by decide)) rfl rfl rfl (Nat.le_of_ble_eq_true rfl) (fun τ3 hq3 => ?_)
      subst hq3
      refine g_iastN (n := 18) (j := (l) * (6) + j) dX7_votedComes_105 (mIn (by decide)) rfl (by omega) (by omega) ?_
      refine g_iinc (nI (j + 1)) dX7_votedComes_106 rfl (show nI (j) + nI 1 = _ from nI_add _ _) (by decide) ?_
      refine g_goto 77 dX7_votedComes_109 (by decide) ?_
      exact ih (j + 1) (by omega) (by omega) _ (by rw [← pOj_s]; exact mRel_outc (s := (pOj s.1 l g j, s.2)) hc hR6 hj) ⟨hE.1, hE.2⟩

set_option maxRecDepth 100000 in
theorem m_vd_l {R A : Nat} (hRA : pRA R A) {cm : Nat} {s : pT} {σ0 : gSt} {l d : Nat} {y1 y2 y3 : Int32} (hl : l < 3) (hd : s.1 10 l 0 = d) (hn : s.2.length + R ≤ 400) : ∀ (k i : Nat), i ≤ R → R - i < k → ∀ σ, mRel R A cm (pAdd s i (fun m => mDec m d)) σ → mE σ0 σ → gEx mG mX7_votedComes 0 132 [some (.inr (0)), some (.inl (nI (l))), some (.inl (y1)), some (.inl (y2)), some (.inl (y3)), some (.inl (nI (i)))] [] σ (gV (fun τ => mRel R A cm (pAdd s R (fun m => mDec m d)) τ ∧ mE σ0 τ)) := by
  intro k
  induction k with
  | zero => intro i hi1 hi2; exact absurd hi2 (by omega)
  | succ k ih =>
    intro i hi1 hi2 σ hc hE
    obtain ⟨hR1, hR6, hA35⟩ := hRA
    refine g_iload dX7_votedComes_132 rfl ?_
    refine g_aload_n dX7_votedComes_134 rfl ?_
    refine g_get (T := TX7) (N := 26) (Cn := RX7) (ref := "CommitCouncilModel") 1 dX7_votedComes_135 (mIn (by decide)) rfl rfl (fun w h => List.mem_cons_of_mem _ (hU7 w h)) (by decide) (List.mem_cons_of_mem _ uw_3_124) (Or.inl rfl) rfl ?_
    refine gEx.top (v := .inl (nI (R))) (congrArg Sum.inl (hc.1.1)) ?_
    refine g_icmp_ge 163 dX7_votedComes_138 (by decide) (fun h138 => ?_) (fun h138 => ?_)
    · skip
      rw [nI_leI (by omega) (by omega)] at h138
      refine g_vret dX7_votedComes_163 rfl ?_
      have e : i = R := by omega
      subst e
      exact ⟨rfl, hc, hE⟩
    · skip
      rw [nI_leI (by omega) (by omega)] at h138
      refine g_aload_n dX7_votedComes_141 rfl ?_
      refine g_iconst (nI (4)) dX7_votedComes_142 (by decide) ?_
      refine g_iload dX7_votedComes_143 rfl ?_
      refine g_iconst ((-1)) dX7_votedComes_145 (by decide) ?_
      refine g_iconst ((-1)) dX7_votedComes_146 (by decide) ?_
      refine g_iconst ((-1)) dX7_votedComes_147 (by decide) ?_
      refine g_aload_n dX7_votedComes_148 rfl ?_
      refine g_getr (T := TX7) (N := 26) (Cn := RX7) (ref := "CommitCouncilModel") 19 dX7_votedComes_149 (mIn (by decide)) rfl rfl (fun w h => List.mem_cons_of_mem _ (hU7 w h)) (by decide) (List.mem_cons_of_mem _ uw_3_142) (Or.inl rfl) rfl ?_
      refine g_iload_n dX7_votedComes_152 rfl ?_
      refine g_ialdN (n := 3) (j := l) dX7_votedComes_153 (mIn (by decide)) rfl (by omega) (by omega) ?_
      refine gEx.top (v := .inl (nI (d))) (congrArg Sum.inl ((mR_dec hc hl).trans (congrArg nI hd))) ?_
      refine g_callVv (n9 := 6) [.inl (nI (4)), .inl (nI (i)), .inl ((-1)), .inl ((-1)), .inl ((-1)), .inl (nI (d))] [] (m_sends hc.1.2.2.1 (by rw [pAdd_len]; omega)) dX7_votedComes_154 (gU_V uw_3_230 uw_3_232 us_1_7 uw_1_8 uw_3_233) rfl (by decide +kernel) rfl ⟨by decide, by decide⟩ (mIn (by decide)) rfl rfl rfl (Nat.le_of_ble_eq_true rfl) (fun σ1 hp1 => ?_)
      refine g_iinc (nI (i + 1)) dX7_votedComes_157 rfl (show nI (i) + nI 1 = _ from nI_add _ _) (by decide) ?_
      refine g_goto 132 dX7_votedComes_160 (by decide) ?_
      subst hp1
      exact ih (i + 1) (by omega) (by omega) _ (by rw [← pAdd_s]; exact mRel_snd hc hR6 ((fun m => mDec m d) i) (by simp [mVote, mDec, mQue, mAsk, mVoted]) rfl rfl rfl rfl rfl rfl) (mE_tr hE sndM_E)

set_option maxRecDepth 100000 in
theorem m_vd_0 {σ : gSt} {l R : Nat} {y2 y3 : Int32} {Q : gOut → gSt → Prop} (hq : Q (.inl none) σ) : gEx mG mX7_votedComes 0 112 [some (.inr 0), some (.inl (nI l)), some (.inl (nI 0)), some (.inl y2), some (.inl y3), some (.inl (nI R))] [] σ Q := by
  refine g_iload_n dX7_votedComes_112 rfl ?_
  refine g_if_ne 117 dX7_votedComes_113 (by decide) (fun h113 => ?_) (fun h113 => ?_)
  · skip
    rw [nI_z (by omega)] at h113
    exfalso; omega
  · skip
    rw [nI_z (by omega)] at h113
    exact g_vret dX7_votedComes_116 rfl (hq)

set_option maxRecDepth 100000 in
theorem m_vd_1 {R A : Nat} (hRA : pRA R A) {cm : Nat} {s : pT} {σ : gSt} (hc : mRel R A cm s σ) (hb : pBu s.1) {l : Nat} (hl : l < 3) {g : Nat → Nat} (hg2 : ∀ m, m < R → g m ≤ 2) (hg : ∀ m, m < R → pSt A (s.1 13 l m) (fun c => s.1 14 l (m * 5 + c)) (g m)) {y2 y3 : Int32} (hn : s.2.length + R ≤ 400) : gEx mG mX7_votedComes 0 112 [some (.inr 0), some (.inl (nI l)), some (.inl (nI 1)), some (.inl y2), some (.inl y3), some (.inl (nI R))] [] σ (gV (fun τ => mRel R A cm (pAdd (pu s.1 10 l 0 (pDcd R g), s.2) R (fun m => mDec m (pDcd R g))) τ ∧ mE σ τ)) := by
  obtain ⟨hR1, hR6, hA35⟩ := hRA
  have hA5 : A ≤ 5 := by omega
  refine g_iload_n dX7_votedComes_112 rfl ?_
  refine g_if_ne 117 dX7_votedComes_113 (by decide) (fun h113 => ?_) (fun h113 => ?_)
  · skip
    rw [nI_z (by omega)] at h113
    refine g_aload_n dX7_votedComes_117 rfl ?_
    refine g_getr (T := TX7) (N := 26) (Cn := RX7) (ref := "CommitCouncilModel") 19 dX7_votedComes_118 (mIn (by decide)) rfl rfl (fun w h => List.mem_cons_of_mem _ (hU7 w h)) (by decide) (List.mem_cons_of_mem _ uw_3_142) (Or.inl rfl) rfl ?_
    refine g_iload_n dX7_votedComes_121 rfl ?_
    refine g_aload_n dX7_votedComes_122 rfl ?_
    refine g_iload_n dX7_votedComes_123 rfl ?_
    refine g_iconst ((-1)) dX7_votedComes_124 (by decide) ?_
    refine g_callVi (nI (pDcd R g)) (n9 := 2) [.inl (nI (l)), .inl ((-1))] [.inl (nI (l)), .inr (13)] (m_dcdN ⟨hR1, hR6, hA35⟩ hc hb hl hg2 hg) dX7_votedComes_125 (gU_V uw_4_44 uw_4_46 us_1_14 uw_1_8 uw_4_47) rfl (by decide +kernel) rfl ⟨by decide, by decide⟩ (mIn (by decide)) rfl rfl rfl (Nat.le_of_ble_eq_true rfl) (fun τ3 hq3 => ?_)
    subst hq3
    refine g_iastN (n := 3) (j := l) dX7_votedComes_128 (mIn (by decide)) rfl (by omega) (by omega) ?_
    refine g_iconst (nI (0)) dX7_votedComes_129 (by decide) ?_
    refine g_istore dX7_votedComes_130 (by decide) ?_
    exact m_vd_l (s := (pu s.1 10 l 0 (pDcd R g), s.2)) ⟨hR1, hR6, hA35⟩ hl (pu_at _ _ _ _ _) hn (R + 1) 0 (by omega) (by omega) _ (by rw [pAdd_0]; exact mRel_de hc) ⟨rfl, rfl⟩
  · skip
    rw [nI_z (by omega)] at h113
    exfalso; omega

set_option maxRecDepth 100000 in
/-- a VOTED comes -/
theorem m_votedC0 {R A : Nat} (hRA : pRA R A) {cm : Nat} {s : pT} {σ : gSt} (hc : mRel R A cm s σ) (hb : pBu s.1) {x : pMsg} (hk : x 0 = 1) (hp : pMk R A x) (hmd : mOne R (σ 2) 0 x) (hgo : pGo1 R A s.1 x) (hd : pDec R A s.1 (x 1) (x 3) (x 2) (x 4) (x 5) = s.1 10 (x 1) 0) (hroom : s.2.length + pAns R A s.1 x ≤ 400) : gEM mG mX7_votedComes 0 [.inr (0), .inl (nI (x 1)), .inl (nI (0))] σ (gV (fun τ => mRel R A cm (pTk R A x s) τ ∧ mE σ τ)) := by
  obtain ⟨hR1, hR6, hA35⟩ := hRA
  have hA5 : A ≤ 5 := by omega
  have hx4 := hp.1
  obtain ⟨hx1, hx2, hx3, hx5⟩ := hp.2.2.1 hk
  have hb9 : s.1 9 (x 1) 0 ≤ 1536 := hb 9 (x 1) 0 (by decide) (by decide)
  have hb14 : s.1 14 (x 1) (x 3 * 5 + x 2) ≤ 6150 := hb 14 _ _ (by decide) (by decide)
  obtain ⟨g1, g2⟩ := hgo
  have hbd := pBu_bd (R := R) (A := A) hb
  have hg2 : ∀ m, m < R → gx A s.1 x m ≤ 2 := fun m _ => by unfold gx; split; exact pOut_le hbd hx5; exact hb 13 _ _ (by decide) (by decide)
  refine gEM_of (by decide +kernel) rfl (Nat.le_of_ble_eq_true rfl) ?_
  refine g_aload_n dX7_votedComes_0 rfl ?_
  refine g_getr (T := TX7) (N := 26) (Cn := RX7) (ref := "CommitCouncilModel") 4 dX7_votedComes_1 (mIn (by decide)) rfl rfl (fun w h => List.mem_cons_of_mem _ (hU7 w h)) (by decide) (List.mem_cons_of_mem _ uw_3_127) (Or.inl rfl) rfl ?_
  refine g_iconst (nI (4)) dX7_votedComes_4 (by decide) ?_
  refine g_ialdN (n := 18) (j := 4) dX7_votedComes_5 (mIn (by decide)) rfl (by omega) (by omega) ?_
  refine gEx.top (v := .inl (nI (x 4))) (congrArg Sum.inl ((hmd.1 4 (by decide)).trans (ptN (by rw [hk]; rfl)))) ?_
  refine g_istore_n dX7_votedComes_6 (by decide) ?_
  refine g_aload_n dX7_votedComes_7 rfl ?_
  refine g_iload_n dX7_votedComes_8 rfl ?_
  refine g_aload_n dX7_votedComes_9 rfl ?_
  refine g_getr (T := TX7) (N := 26) (Cn := RX7) (ref := "CommitCouncilModel") 4 dX7_votedComes_10 (mIn (by decide)) rfl rfl (fun w h => List.mem_cons_of_mem _ (hU7 w h)) (by decide) (List.mem_cons_of_mem _ uw_3_127) (Or.inl rfl) rfl ?_
  refine g_iconst (nI (3)) dX7_votedComes_13 (by decide) ?_
  refine g_ialdN (n := 18) (j := 3) dX7_votedComes_14 (mIn (by decide)) rfl (by omega) (by omega) ?_
  refine gEx.top (v := .inl (nI (x 3))) (congrArg Sum.inl ((hmd.1 3 (by decide)).trans (ptN (by rw [hk]; rfl)))) ?_
  refine g_aload_n dX7_votedComes_15 rfl ?_
  refine g_getr (T := TX7) (N := 26) (Cn := RX7) (ref := "CommitCouncilModel") 4 dX7_votedComes_16 (mIn (by decide)) rfl rfl (fun w h => List.mem_cons_of_mem _ (hU7 w h)) (by decide) (List.mem_cons_of_mem _ uw_3_127) (Or.inl rfl) rfl ?_
  refine g_iconst (nI (2)) dX7_votedComes_19 (by decide) ?_
  refine g_ialdN (n := 18) (j := 2) dX7_votedComes_20 (mIn (by decide)) rfl (by omega) (by omega) ?_
  refine gEx.top (v := .inl (nI (x 2))) (congrArg Sum.inl ((hmd.1 2 (by decide)).trans (ptN (by rw [hk]; rfl)))) ?_
  refine g_callVi (nI ((x 1 * 6 + x 3) * 5 + x 2)) (n9 := 3) [.inl (nI (x 1)), .inl (nI (x 3)), .inl (nI (x 2))] [] (m_seenAt) dX7_votedComes_21 (gU_V uw_4_60 uw_4_62 us_2_2 uw_1_8 uw_4_63) rfl (by decide +kernel) rfl ⟨by decide, by decide⟩ (mIn (by decide)) rfl rfl rfl (Nat.le_of_ble_eq_true rfl) (fun τ2 hq2 => ?_)
  subst hq2
  refine g_istore dX7_votedComes_24 (by decide) ?_
  refine g_aload_n dX7_votedComes_26 rfl ?_
  refine g_getr (T := TX7) (N := 26) (Cn := RX7) (ref := "CommitCouncilModel") 18 dX7_votedComes_27 (mIn (by decide)) rfl rfl (fun w h => List.mem_cons_of_mem _ (hU7 w h)) (by decide) (List.mem_cons_of_mem _ uw_3_141) (Or.inl rfl) rfl ?_
  refine g_iload_n dX7_votedComes_30 rfl ?_
  refine g_aload_n dX7_votedComes_31 rfl ?_
  refine g_getr (T := TX7) (N := 26) (Cn := RX7) (ref := "CommitCouncilModel") 18 dX7_votedComes_32 (mIn (by decide)) rfl rfl (fun w h => List.mem_cons_of_mem _ (hU7 w h)) (by decide) (List.mem_cons_of_mem _ uw_3_141) (Or.inl rfl) rfl ?_
  refine g_iload_n dX7_votedComes_35 rfl ?_
  refine g_ialdN (n := 3) (j := x 1) dX7_votedComes_36 (mIn (by decide)) rfl (by omega) (by omega) ?_
  refine gEx.top (v := .inl (nI (s.1 9 (x 1) 0))) (congrArg Sum.inl (mR_hig hc (by omega))) ?_
  refine g_iload_n dX7_votedComes_37 rfl ?_
  refine g_max dX7_votedComes_38 (List.mem_cons_of_mem _ uw_4_80) (List.mem_cons_of_mem _ uw_2_200) (List.mem_cons_of_mem _ uw_1_15) (List.mem_cons_of_mem _ uw_2_201) ⟨by decide, Nat.le_of_ble_eq_true rfl⟩ ?_
  refine gEx.top (v := .inl (nI (pMax (s.1 9 (x 1) 0) (x 4)))) (congrArg Sum.inl (max_nI (by omega) (by omega))) ?_
  refine g_iastN (n := 3) (j := x 1) dX7_votedComes_41 (mIn (by decide)) rfl (by omega) (by omega) ?_
  have hc1 := mRel_hig hc (l := x 1) (b := pMax (s.1 9 (x 1) 0) (x 4))
  refine g_iload_n dX7_votedComes_42 rfl ?_
  refine g_aload_n dX7_votedComes_43 rfl ?_
  refine g_getr (T := TX7) (N := 26) (Cn := RX7) (ref := "CommitCouncilModel") 23 dX7_votedComes_44 (mIn (by decide)) rfl rfl (fun w h => List.mem_cons_of_mem _ (hU7 w h)) (by decide) (List.mem_cons_of_mem _ uw_3_146) (Or.inl rfl) rfl ?_
  refine g_iload dX7_votedComes_47 rfl ?_
  refine g_ialdN (n := 90) (j := (x 1 * 6 + x 3) * 5 + x 2) dX7_votedComes_49 (mIn (by decide)) rfl (by omega) (by omega) ?_
  refine gEx.top (v := .inl (pB (s.1 14 (x 1) (x 3 * 5 + x 2)))) (congrArg Sum.inl (mR_sB hc1 hx1 hx3 (by omega))) ?_
  refine g_icmp_le 74 dX7_votedComes_50 (by decide) (fun h50 => ?_) (fun h50 => ?_)
  · skip
    rw [← Int32.not_lt, pB_lt (by omega) (by omega)] at h50
    refine g_iconst (nI (0)) dX7_votedComes_74 (by decide) ?_
    refine g_istore dX7_votedComes_75 (by decide) ?_
    have hpn : ¬ pNew s.1 (x 1) (x 3) (x 2) (x 4) := h50
    have hc2 := hc1
    have hgS : ∀ m, m < R → pSt A ((pu s.1 9 (x 1) 0 (pMax (s.1 9 (x 1) 0) (x 4)), s.2).1 13 (x 1) m) (fun c => (pu s.1 9 (x 1) 0 (pMax (s.1 9 (x 1) 0) (x 4)), s.2).1 14 (x 1) (m * 5 + c)) (gx A s.1 x m) := fun m hm => pSt_congr (fun c hc9 => by exact vf_old hpn rfl) (g1 m hm)
    have hbS : pBu (pu s.1 9 (x 1) 0 (pMax (s.1 9 (x 1) 0) (x 4)), s.2).1 := pBu_pu hb (Or.inr (pMax_le hb9 hx4))
    refine m_vo_l (s := (pu s.1 9 (x 1) 0 (pMax (s.1 9 (x 1) 0) (x 4)), s.2)) ⟨hR1, hR6, hA35⟩ hbS hx1 hg2 hgS (fun τ hτ hEτ => ?_) (R + 1) 0 (by omega) (by omega) _ (by rw [pOj_0]; exact hc2) ⟨rfl, rfl⟩
    have es : ∀ c, c ≠ 13 → tSee R A (pu s.1 9 (x 1) 0 (pMax (s.1 9 (x 1) 0) (x 4))) (x 1) (x 3) (x 2) (x 4) (x 5) c = pu (pu s.1 9 (x 1) 0 (pMax (s.1 9 (x 1) 0) (x 4)), s.2).1 10 (x 1) 0 (pDec R A s.1 (x 1) (x 3) (x 2) (x 4) (x 5)) c := fun c hc9 => by unfold tSee; rw [show pDec R A (pu s.1 9 (x 1) 0 (pMax (s.1 9 (x 1) 0) (x 4))) (x 1) (x 3) (x 2) (x 4) (x 5) = pDec R A s.1 (x 1) (x 3) (x 2) (x 4) (x 5) from rfl, show (if pNew (pu s.1 9 (x 1) 0 (pMax (s.1 9 (x 1) 0) (x 4))) (x 1) (x 3) (x 2) (x 4) then pu (pu s.1 9 (x 1) 0 (pMax (s.1 9 (x 1) 0) (x 4))) 14 (x 1) (x 3 * 5 + x 2) (4 * x 4 + x 5) else pu s.1 9 (x 1) 0 (pMax (s.1 9 (x 1) 0) (x 4))) = (pu s.1 9 (x 1) 0 (pMax (s.1 9 (x 1) 0) (x 4)), s.2).1 from if_neg hpn]; exact pu13 hc9
    have e13 : ∀ l m, m < R → tSee R A (pu s.1 9 (x 1) 0 (pMax (s.1 9 (x 1) 0) (x 4))) (x 1) (x 3) (x 2) (x 4) (x 5) 13 l m = pOj (pu s.1 9 (x 1) 0 (pMax (s.1 9 (x 1) 0) (x 4)), s.2).1 (x 1) (gx A s.1 x) R 13 l m := fun l m hm => by unfold tSee; rw [show (if pNew (pu s.1 9 (x 1) 0 (pMax (s.1 9 (x 1) 0) (x 4))) (x 1) (x 3) (x 2) (x 4) then pu (pu s.1 9 (x 1) 0 (pMax (s.1 9 (x 1) 0) (x 4))) 14 (x 1) (x 3 * 5 + x 2) (4 * x 4 + x 5) else pu s.1 9 (x 1) 0 (pMax (s.1 9 (x 1) 0) (x 4))) = (pu s.1 9 (x 1) 0 (pMax (s.1 9 (x 1) 0) (x 4)), s.2).1 from if_neg hpn]; exact see13 (α := (pu s.1 9 (x 1) 0 (pMax (s.1 9 (x 1) 0) (x 4)), s.2).1) hm rfl
    refine m_vd_0 ⟨rfl, ?_, hEτ⟩
    rw [pTk_no ((take1 hk).trans (by rw [if_pos hd]))]
    exact mRel_13 hτ (fun c hc9 => by rw [es c hc9, pOj_c hc9, pu_same (show (pu s.1 9 (x 1) 0 (pMax (s.1 9 (x 1) 0) (x 4)), s.2).1 10 (x 1) 0 = _ from hd.symm)]) e13
  · skip
    rw [← Int32.not_lt, pB_lt (by omega) (by omega)] at h50
    refine g_aload_n dX7_votedComes_53 rfl ?_
    refine g_getr (T := TX7) (N := 26) (Cn := RX7) (ref := "CommitCouncilModel") 23 dX7_votedComes_54 (mIn (by decide)) rfl rfl (fun w h => List.mem_cons_of_mem _ (hU7 w h)) (by decide) (List.mem_cons_of_mem _ uw_3_146) (Or.inl rfl) rfl ?_
    refine g_iload dX7_votedComes_57 rfl ?_
    refine g_iload_n dX7_votedComes_59 rfl ?_
    refine g_iastN (n := 90) (j := (x 1 * 6 + x 3) * 5 + x 2) dX7_votedComes_60 (mIn (by decide)) rfl (by omega) (by omega) ?_
    refine g_aload_n dX7_votedComes_61 rfl ?_
    refine g_getr (T := TX7) (N := 26) (Cn := RX7) (ref := "CommitCouncilModel") 24 dX7_votedComes_62 (mIn (by decide)) rfl rfl (fun w h => List.mem_cons_of_mem _ (hU7 w h)) (by decide) (List.mem_cons_of_mem _ uw_3_147) (Or.inl rfl) rfl ?_
    refine g_iload dX7_votedComes_65 rfl ?_
    refine g_aload_n dX7_votedComes_67 rfl ?_
    refine g_getr (T := TX7) (N := 26) (Cn := RX7) (ref := "CommitCouncilModel") 4 dX7_votedComes_68 (mIn (by decide)) rfl rfl (fun w h => List.mem_cons_of_mem _ (hU7 w h)) (by decide) (List.mem_cons_of_mem _ uw_3_127) (Or.inl rfl) rfl ?_
    refine g_iconst (nI (5)) dX7_votedComes_71 (by decide) ?_
    refine g_ialdN (n := 18) (j := 5) dX7_votedComes_72 (mIn (by decide)) rfl (by omega) (by omega) ?_
    refine gEx.top (v := .inl (nI (x 5))) (congrArg Sum.inl ((hmd.1 5 (by decide)).trans (ptN (by rw [hk]; rfl)))) ?_
    refine g_iastN (n := 90) (j := (x 1 * 6 + x 3) * 5 + x 2) dX7_votedComes_73 (mIn (by decide)) rfl (by omega) (by omega) ?_
    refine g_iconst (nI (0)) dX7_votedComes_74 (by decide) ?_
    refine g_istore dX7_votedComes_75 (by decide) ?_
    have hpn : pNew s.1 (x 1) (x 3) (x 2) (x 4) := Decidable.not_not.mp h50
    have hc2 := mRel_see (s := (pu s.1 9 (x 1) 0 (pMax (s.1 9 (x 1) 0) (x 4)), s.2)) hc1 hR6 (l := x 1) (b := x 4) hx3 (show x 2 < 5 by omega) hx5
    have hgS : ∀ m, m < R → pSt A ((pu (pu s.1 9 (x 1) 0 (pMax (s.1 9 (x 1) 0) (x 4)), s.2).1 14 (x 1) (x 3 * 5 + x 2) (4 * x 4 + x 5), s.2).1 13 (x 1) m) (fun c => (pu (pu s.1 9 (x 1) 0 (pMax (s.1 9 (x 1) 0) (x 4)), s.2).1 14 (x 1) (x 3 * 5 + x 2) (4 * x 4 + x 5), s.2).1 14 (x 1) (m * 5 + c)) (gx A s.1 x m) := fun m hm => pSt_congr (fun c hc9 => by exact vf_new hpn (by omega) (by omega) rfl) (g1 m hm)
    have hbS : pBu (pu (pu s.1 9 (x 1) 0 (pMax (s.1 9 (x 1) 0) (x 4)), s.2).1 14 (x 1) (x 3 * 5 + x 2) (4 * x 4 + x 5), s.2).1 := pBu_pu (pBu_pu hb (Or.inr (pMax_le hb9 hx4))) (Or.inr (by show _ ≤ 6150; omega))
    refine m_vo_l (s := (pu (pu s.1 9 (x 1) 0 (pMax (s.1 9 (x 1) 0) (x 4)), s.2).1 14 (x 1) (x 3 * 5 + x 2) (4 * x 4 + x 5), s.2)) ⟨hR1, hR6, hA35⟩ hbS hx1 hg2 hgS (fun τ hτ hEτ => ?_) (R + 1) 0 (by omega) (by omega) _ (by rw [pOj_0]; exact hc2) ⟨rfl, rfl⟩
    have es : ∀ c, c ≠ 13 → tSee R A (pu s.1 9 (x 1) 0 (pMax (s.1 9 (x 1) 0) (x 4))) (x 1) (x 3) (x 2) (x 4) (x 5) c = pu (pu (pu s.1 9 (x 1) 0 (pMax (s.1 9 (x 1) 0) (x 4)), s.2).1 14 (x 1) (x 3 * 5 + x 2) (4 * x 4 + x 5), s.2).1 10 (x 1) 0 (pDec R A s.1 (x 1) (x 3) (x 2) (x 4) (x 5)) c := fun c hc9 => by unfold tSee; rw [show pDec R A (pu s.1 9 (x 1) 0 (pMax (s.1 9 (x 1) 0) (x 4))) (x 1) (x 3) (x 2) (x 4) (x 5) = pDec R A s.1 (x 1) (x 3) (x 2) (x 4) (x 5) from rfl, show (if pNew (pu s.1 9 (x 1) 0 (pMax (s.1 9 (x 1) 0) (x 4))) (x 1) (x 3) (x 2) (x 4) then pu (pu s.1 9 (x 1) 0 (pMax (s.1 9 (x 1) 0) (x 4))) 14 (x 1) (x 3 * 5 + x 2) (4 * x 4 + x 5) else pu s.1 9 (x 1) 0 (pMax (s.1 9 (x 1) 0) (x 4))) = (pu (pu s.1 9 (x 1) 0 (pMax (s.1 9 (x 1) 0) (x 4)), s.2).1 14 (x 1) (x 3 * 5 + x 2) (4 * x 4 + x 5), s.2).1 from if_pos hpn]; exact pu13 hc9
    have e13 : ∀ l m, m < R → tSee R A (pu s.1 9 (x 1) 0 (pMax (s.1 9 (x 1) 0) (x 4))) (x 1) (x 3) (x 2) (x 4) (x 5) 13 l m = pOj (pu (pu s.1 9 (x 1) 0 (pMax (s.1 9 (x 1) 0) (x 4)), s.2).1 14 (x 1) (x 3 * 5 + x 2) (4 * x 4 + x 5), s.2).1 (x 1) (gx A s.1 x) R 13 l m := fun l m hm => by unfold tSee; rw [show (if pNew (pu s.1 9 (x 1) 0 (pMax (s.1 9 (x 1) 0) (x 4))) (x 1) (x 3) (x 2) (x 4) then pu (pu s.1 9 (x 1) 0 (pMax (s.1 9 (x 1) 0) (x 4))) 14 (x 1) (x 3 * 5 + x 2) (4 * x 4 + x 5) else pu s.1 9 (x 1) 0 (pMax (s.1 9 (x 1) 0) (x 4))) = (pu (pu s.1 9 (x 1) 0 (pMax (s.1 9 (x 1) 0) (x 4)), s.2).1 14 (x 1) (x 3 * 5 + x 2) (4 * x 4 + x 5), s.2).1 from if_pos hpn]; exact see13 (α := (pu (pu s.1 9 (x 1) 0 (pMax (s.1 9 (x 1) 0) (x 4)), s.2).1 14 (x 1) (x 3 * 5 + x 2) (4 * x 4 + x 5), s.2).1) hm rfl
    refine m_vd_0 ⟨rfl, ?_, hEτ⟩
    rw [pTk_no ((take1 hk).trans (by rw [if_pos hd]))]
    exact mRel_13 hτ (fun c hc9 => by rw [es c hc9, pOj_c hc9, pu_same (show (pu (pu s.1 9 (x 1) 0 (pMax (s.1 9 (x 1) 0) (x 4)), s.2).1 14 (x 1) (x 3 * 5 + x 2) (4 * x 4 + x 5), s.2).1 10 (x 1) 0 = _ from hd.symm)]) e13

set_option maxRecDepth 100000 in
/-- a VOTED comes -/
theorem m_votedC1 {R A : Nat} (hRA : pRA R A) {cm : Nat} {s : pT} {σ : gSt} (hc : mRel R A cm s σ) (hb : pBu s.1) {x : pMsg} (hk : x 0 = 1) (hp : pMk R A x) (hmd : mOne R (σ 2) 0 x) (hgo : pGo1 R A s.1 x) (hd0 : s.1 10 (x 1) 0 = 0) (hd : pDec R A s.1 (x 1) (x 3) (x 2) (x 4) (x 5) ≠ 0) (hroom : s.2.length + pAns R A s.1 x ≤ 400) : gEM mG mX7_votedComes 0 [.inr (0), .inl (nI (x 1)), .inl (nI (1))] σ (gV (fun τ => mRel R A cm (pTk R A x s) τ ∧ mE σ τ)) := by
  obtain ⟨hR1, hR6, hA35⟩ := hRA
  have hA5 : A ≤ 5 := by omega
  have hx4 := hp.1
  obtain ⟨hx1, hx2, hx3, hx5⟩ := hp.2.2.1 hk
  have hb9 : s.1 9 (x 1) 0 ≤ 1536 := hb 9 (x 1) 0 (by decide) (by decide)
  have hb14 : s.1 14 (x 1) (x 3 * 5 + x 2) ≤ 6150 := hb 14 _ _ (by decide) (by decide)
  obtain ⟨g1, g2⟩ := hgo
  have hbd := pBu_bd (R := R) (A := A) hb
  have hg2 : ∀ m, m < R → gx A s.1 x m ≤ 2 := fun m _ => by unfold gx; split; exact pOut_le hbd hx5; exact hb 13 _ _ (by decide) (by decide)
  rw [ans1 hk, if_neg (by omega)] at hroom
  refine gEM_of (by decide +kernel) rfl (Nat.le_of_ble_eq_true rfl) ?_
  refine g_aload_n dX7_votedComes_0 rfl ?_
  refine g_getr (T := TX7) (N := 26) (Cn := RX7) (ref := "CommitCouncilModel") 4 dX7_votedComes_1 (mIn (by decide)) rfl rfl (fun w h => List.mem_cons_of_mem _ (hU7 w h)) (by decide) (List.mem_cons_of_mem _ uw_3_127) (Or.inl rfl) rfl ?_
  refine g_iconst (nI (4)) dX7_votedComes_4 (by decide) ?_
  refine g_ialdN (n := 18) (j := 4) dX7_votedComes_5 (mIn (by decide)) rfl (by omega) (by omega) ?_
  refine gEx.top (v := .inl (nI (x 4))) (congrArg Sum.inl ((hmd.1 4 (by decide)).trans (ptN (by rw [hk]; rfl)))) ?_
  refine g_istore_n dX7_votedComes_6 (by decide) ?_
  refine g_aload_n dX7_votedComes_7 rfl ?_
  refine g_iload_n dX7_votedComes_8 rfl ?_
  refine g_aload_n dX7_votedComes_9 rfl ?_
  refine g_getr (T := TX7) (N := 26) (Cn := RX7) (ref := "CommitCouncilModel") 4 dX7_votedComes_10 (mIn (by decide)) rfl rfl (fun w h => List.mem_cons_of_mem _ (hU7 w h)) (by decide) (List.mem_cons_of_mem _ uw_3_127) (Or.inl rfl) rfl ?_
  refine g_iconst (nI (3)) dX7_votedComes_13 (by decide) ?_
  refine g_ialdN (n := 18) (j := 3) dX7_votedComes_14 (mIn (by decide)) rfl (by omega) (by omega) ?_
  refine gEx.top (v := .inl (nI (x 3))) (congrArg Sum.inl ((hmd.1 3 (by decide)).trans (ptN (by rw [hk]; rfl)))) ?_
  refine g_aload_n dX7_votedComes_15 rfl ?_
  refine g_getr (T := TX7) (N := 26) (Cn := RX7) (ref := "CommitCouncilModel") 4 dX7_votedComes_16 (mIn (by decide)) rfl rfl (fun w h => List.mem_cons_of_mem _ (hU7 w h)) (by decide) (List.mem_cons_of_mem _ uw_3_127) (Or.inl rfl) rfl ?_
  refine g_iconst (nI (2)) dX7_votedComes_19 (by decide) ?_
  refine g_ialdN (n := 18) (j := 2) dX7_votedComes_20 (mIn (by decide)) rfl (by omega) (by omega) ?_
  refine gEx.top (v := .inl (nI (x 2))) (congrArg Sum.inl ((hmd.1 2 (by decide)).trans (ptN (by rw [hk]; rfl)))) ?_
  refine g_callVi (nI ((x 1 * 6 + x 3) * 5 + x 2)) (n9 := 3) [.inl (nI (x 1)), .inl (nI (x 3)), .inl (nI (x 2))] [] (m_seenAt) dX7_votedComes_21 (gU_V uw_4_60 uw_4_62 us_2_2 uw_1_8 uw_4_63) rfl (by decide +kernel) rfl ⟨by decide, by decide⟩ (mIn (by decide)) rfl rfl rfl (Nat.le_of_ble_eq_true rfl) (fun τ2 hq2 => ?_)
  subst hq2
  refine g_istore dX7_votedComes_24 (by decide) ?_
  refine g_aload_n dX7_votedComes_26 rfl ?_
  refine g_getr (T := TX7) (N := 26) (Cn := RX7) (ref := "CommitCouncilModel") 18 dX7_votedComes_27 (mIn (by decide)) rfl rfl (fun w h => List.mem_cons_of_mem _ (hU7 w h)) (by decide) (List.mem_cons_of_mem _ uw_3_141) (Or.inl rfl) rfl ?_
  refine g_iload_n dX7_votedComes_30 rfl ?_
  refine g_aload_n dX7_votedComes_31 rfl ?_
  refine g_getr (T := TX7) (N := 26) (Cn := RX7) (ref := "CommitCouncilModel") 18 dX7_votedComes_32 (mIn (by decide)) rfl rfl (fun w h => List.mem_cons_of_mem _ (hU7 w h)) (by decide) (List.mem_cons_of_mem _ uw_3_141) (Or.inl rfl) rfl ?_
  refine g_iload_n dX7_votedComes_35 rfl ?_
  refine g_ialdN (n := 3) (j := x 1) dX7_votedComes_36 (mIn (by decide)) rfl (by omega) (by omega) ?_
  refine gEx.top (v := .inl (nI (s.1 9 (x 1) 0))) (congrArg Sum.inl (mR_hig hc (by omega))) ?_
  refine g_iload_n dX7_votedComes_37 rfl ?_
  refine g_max dX7_votedComes_38 (List.mem_cons_of_mem _ uw_4_80) (List.mem_cons_of_mem _ uw_2_200) (List.mem_cons_of_mem _ uw_1_15) (List.mem_cons_of_mem _ uw_2_201) ⟨by decide, Nat.le_of_ble_eq_true rfl⟩ ?_
  refine gEx.top (v := .inl (nI (pMax (s.1 9 (x 1) 0) (x 4)))) (congrArg Sum.inl (max_nI (by omega) (by omega))) ?_
  refine g_iastN (n := 3) (j := x 1) dX7_votedComes_41 (mIn (by decide)) rfl (by omega) (by omega) ?_
  have hc1 := mRel_hig hc (l := x 1) (b := pMax (s.1 9 (x 1) 0) (x 4))
  refine g_iload_n dX7_votedComes_42 rfl ?_
  refine g_aload_n dX7_votedComes_43 rfl ?_
  refine g_getr (T := TX7) (N := 26) (Cn := RX7) (ref := "CommitCouncilModel") 23 dX7_votedComes_44 (mIn (by decide)) rfl rfl (fun w h => List.mem_cons_of_mem _ (hU7 w h)) (by decide) (List.mem_cons_of_mem _ uw_3_146) (Or.inl rfl) rfl ?_
  refine g_iload dX7_votedComes_47 rfl ?_
  refine g_ialdN (n := 90) (j := (x 1 * 6 + x 3) * 5 + x 2) dX7_votedComes_49 (mIn (by decide)) rfl (by omega) (by omega) ?_
  refine gEx.top (v := .inl (pB (s.1 14 (x 1) (x 3 * 5 + x 2)))) (congrArg Sum.inl (mR_sB hc1 hx1 hx3 (by omega))) ?_
  refine g_icmp_le 74 dX7_votedComes_50 (by decide) (fun h50 => ?_) (fun h50 => ?_)
  · skip
    rw [← Int32.not_lt, pB_lt (by omega) (by omega)] at h50
    refine g_iconst (nI (0)) dX7_votedComes_74 (by decide) ?_
    refine g_istore dX7_votedComes_75 (by decide) ?_
    have hpn : ¬ pNew s.1 (x 1) (x 3) (x 2) (x 4) := h50
    have hc2 := hc1
    have hgS : ∀ m, m < R → pSt A ((pu s.1 9 (x 1) 0 (pMax (s.1 9 (x 1) 0) (x 4)), s.2).1 13 (x 1) m) (fun c => (pu s.1 9 (x 1) 0 (pMax (s.1 9 (x 1) 0) (x 4)), s.2).1 14 (x 1) (m * 5 + c)) (gx A s.1 x m) := fun m hm => pSt_congr (fun c hc9 => by exact vf_old hpn rfl) (g1 m hm)
    have hbS : pBu (pu s.1 9 (x 1) 0 (pMax (s.1 9 (x 1) 0) (x 4)), s.2).1 := pBu_pu hb (Or.inr (pMax_le hb9 hx4))
    refine m_vo_l (s := (pu s.1 9 (x 1) 0 (pMax (s.1 9 (x 1) 0) (x 4)), s.2)) ⟨hR1, hR6, hA35⟩ hbS hx1 hg2 hgS (fun τ hτ hEτ => ?_) (R + 1) 0 (by omega) (by omega) _ (by rw [pOj_0]; exact hc2) ⟨rfl, rfl⟩
    have es : ∀ c, c ≠ 13 → tSee R A (pu s.1 9 (x 1) 0 (pMax (s.1 9 (x 1) 0) (x 4))) (x 1) (x 3) (x 2) (x 4) (x 5) c = pu (pu s.1 9 (x 1) 0 (pMax (s.1 9 (x 1) 0) (x 4)), s.2).1 10 (x 1) 0 (pDec R A s.1 (x 1) (x 3) (x 2) (x 4) (x 5)) c := fun c hc9 => by unfold tSee; rw [show pDec R A (pu s.1 9 (x 1) 0 (pMax (s.1 9 (x 1) 0) (x 4))) (x 1) (x 3) (x 2) (x 4) (x 5) = pDec R A s.1 (x 1) (x 3) (x 2) (x 4) (x 5) from rfl, show (if pNew (pu s.1 9 (x 1) 0 (pMax (s.1 9 (x 1) 0) (x 4))) (x 1) (x 3) (x 2) (x 4) then pu (pu s.1 9 (x 1) 0 (pMax (s.1 9 (x 1) 0) (x 4))) 14 (x 1) (x 3 * 5 + x 2) (4 * x 4 + x 5) else pu s.1 9 (x 1) 0 (pMax (s.1 9 (x 1) 0) (x 4))) = (pu s.1 9 (x 1) 0 (pMax (s.1 9 (x 1) 0) (x 4)), s.2).1 from if_neg hpn]; exact pu13 hc9
    have e13 : ∀ l m, m < R → tSee R A (pu s.1 9 (x 1) 0 (pMax (s.1 9 (x 1) 0) (x 4))) (x 1) (x 3) (x 2) (x 4) (x 5) 13 l m = pOj (pu s.1 9 (x 1) 0 (pMax (s.1 9 (x 1) 0) (x 4)), s.2).1 (x 1) (gx A s.1 x) R 13 l m := fun l m hm => by unfold tSee; rw [show (if pNew (pu s.1 9 (x 1) 0 (pMax (s.1 9 (x 1) 0) (x 4))) (x 1) (x 3) (x 2) (x 4) then pu (pu s.1 9 (x 1) 0 (pMax (s.1 9 (x 1) 0) (x 4))) 14 (x 1) (x 3 * 5 + x 2) (4 * x 4 + x 5) else pu s.1 9 (x 1) 0 (pMax (s.1 9 (x 1) 0) (x 4))) = (pu s.1 9 (x 1) 0 (pMax (s.1 9 (x 1) 0) (x 4)), s.2).1 from if_neg hpn]; exact see13 (α := (pu s.1 9 (x 1) 0 (pMax (s.1 9 (x 1) 0) (x 4)), s.2).1) hm rfl
    have hdc := g2 hd0
    refine gEx_post (m_vd_1 (s := (pOj (pu s.1 9 (x 1) 0 (pMax (s.1 9 (x 1) 0) (x 4)), s.2).1 (x 1) (gx A s.1 x) R, s.2)) ⟨hR1, hR6, hA35⟩ hτ (pBu_oj hbS hg2) hx1 hg2 (fun m hm => pSt_oj hm (hgS m hm)) hroom) (fun o τ9 q => ⟨q.1, ?_, q.2.2.1.trans hEτ.1, q.2.2.2.trans hEτ.2⟩)
    have q1 := q.2.1
    rw [hdc] at q1
    rw [pTk_of (n := R) (f := fun m => mDec m (pDec R A s.1 (x 1) (x 3) (x 2) (x 4) (x 5))) ((take1 hk).trans (by rw [if_neg (by omega)]; rfl))]
    refine mRel_13 q1 (fun c hc9 => ?_) (fun l m hm => e13 l m hm)
    show pSnd _ R c = pSnd _ R c
    unfold pSnd
    rw [snd13 (es c hc9) (es 1 (by decide))]
    exact snd13b hc9
  · skip
    rw [← Int32.not_lt, pB_lt (by omega) (by omega)] at h50
    refine g_aload_n dX7_votedComes_53 rfl ?_
    refine g_getr (T := TX7) (N := 26) (Cn := RX7) (ref := "CommitCouncilModel") 23 dX7_votedComes_54 (mIn (by decide)) rfl rfl (fun w h => List.mem_cons_of_mem _ (hU7 w h)) (by decide) (List.mem_cons_of_mem _ uw_3_146) (Or.inl rfl) rfl ?_
    refine g_iload dX7_votedComes_57 rfl ?_
    refine g_iload_n dX7_votedComes_59 rfl ?_
    refine g_iastN (n := 90) (j := (x 1 * 6 + x 3) * 5 + x 2) dX7_votedComes_60 (mIn (by decide)) rfl (by omega) (by omega) ?_
    refine g_aload_n dX7_votedComes_61 rfl ?_
    refine g_getr (T := TX7) (N := 26) (Cn := RX7) (ref := "CommitCouncilModel") 24 dX7_votedComes_62 (mIn (by decide)) rfl rfl (fun w h => List.mem_cons_of_mem _ (hU7 w h)) (by decide) (List.mem_cons_of_mem _ uw_3_147) (Or.inl rfl) rfl ?_
    refine g_iload dX7_votedComes_65 rfl ?_
    refine g_aload_n dX7_votedComes_67 rfl ?_
    refine g_getr (T := TX7) (N := 26) (Cn := RX7) (ref := "CommitCouncilModel") 4 dX7_votedComes_68 (mIn (by decide)) rfl rfl (fun w h => List.mem_cons_of_mem _ (hU7 w h)) (by decide) (List.mem_cons_of_mem _ uw_3_127) (Or.inl rfl) rfl ?_
    refine g_iconst (nI (5)) dX7_votedComes_71 (by decide) ?_
    refine g_ialdN (n := 18) (j := 5) dX7_votedComes_72 (mIn (by decide)) rfl (by omega) (by omega) ?_
    refine gEx.top (v := .inl (nI (x 5))) (congrArg Sum.inl ((hmd.1 5 (by decide)).trans (ptN (by rw [hk]; rfl)))) ?_
    refine g_iastN (n := 90) (j := (x 1 * 6 + x 3) * 5 + x 2) dX7_votedComes_73 (mIn (by decide)) rfl (by omega) (by omega) ?_
    refine g_iconst (nI (0)) dX7_votedComes_74 (by decide) ?_
    refine g_istore dX7_votedComes_75 (by decide) ?_
    have hpn : pNew s.1 (x 1) (x 3) (x 2) (x 4) := Decidable.not_not.mp h50
    have hc2 := mRel_see (s := (pu s.1 9 (x 1) 0 (pMax (s.1 9 (x 1) 0) (x 4)), s.2)) hc1 hR6 (l := x 1) (b := x 4) hx3 (show x 2 < 5 by omega) hx5
    have hgS : ∀ m, m < R → pSt A ((pu (pu s.1 9 (x 1) 0 (pMax (s.1 9 (x 1) 0) (x 4)), s.2).1 14 (x 1) (x 3 * 5 + x 2) (4 * x 4 + x 5), s.2).1 13 (x 1) m) (fun c => (pu (pu s.1 9 (x 1) 0 (pMax (s.1 9 (x 1) 0) (x 4)), s.2).1 14 (x 1) (x 3 * 5 + x 2) (4 * x 4 + x 5), s.2).1 14 (x 1) (m * 5 + c)) (gx A s.1 x m) := fun m hm => pSt_congr (fun c hc9 => by exact vf_new hpn (by omega) (by omega) rfl) (g1 m hm)
    have hbS : pBu (pu (pu s.1 9 (x 1) 0 (pMax (s.1 9 (x 1) 0) (x 4)), s.2).1 14 (x 1) (x 3 * 5 + x 2) (4 * x 4 + x 5), s.2).1 := pBu_pu (pBu_pu hb (Or.inr (pMax_le hb9 hx4))) (Or.inr (by show _ ≤ 6150; omega))
    refine m_vo_l (s := (pu (pu s.1 9 (x 1) 0 (pMax (s.1 9 (x 1) 0) (x 4)), s.2).1 14 (x 1) (x 3 * 5 + x 2) (4 * x 4 + x 5), s.2)) ⟨hR1, hR6, hA35⟩ hbS hx1 hg2 hgS (fun τ hτ hEτ => ?_) (R + 1) 0 (by omega) (by omega) _ (by rw [pOj_0]; exact hc2) ⟨rfl, rfl⟩
    have es : ∀ c, c ≠ 13 → tSee R A (pu s.1 9 (x 1) 0 (pMax (s.1 9 (x 1) 0) (x 4))) (x 1) (x 3) (x 2) (x 4) (x 5) c = pu (pu (pu s.1 9 (x 1) 0 (pMax (s.1 9 (x 1) 0) (x 4)), s.2).1 14 (x 1) (x 3 * 5 + x 2) (4 * x 4 + x 5), s.2).1 10 (x 1) 0 (pDec R A s.1 (x 1) (x 3) (x 2) (x 4) (x 5)) c := fun c hc9 => by unfold tSee; rw [show pDec R A (pu s.1 9 (x 1) 0 (pMax (s.1 9 (x 1) 0) (x 4))) (x 1) (x 3) (x 2) (x 4) (x 5) = pDec R A s.1 (x 1) (x 3) (x 2) (x 4) (x 5) from rfl, show (if pNew (pu s.1 9 (x 1) 0 (pMax (s.1 9 (x 1) 0) (x 4))) (x 1) (x 3) (x 2) (x 4) then pu (pu s.1 9 (x 1) 0 (pMax (s.1 9 (x 1) 0) (x 4))) 14 (x 1) (x 3 * 5 + x 2) (4 * x 4 + x 5) else pu s.1 9 (x 1) 0 (pMax (s.1 9 (x 1) 0) (x 4))) = (pu (pu s.1 9 (x 1) 0 (pMax (s.1 9 (x 1) 0) (x 4)), s.2).1 14 (x 1) (x 3 * 5 + x 2) (4 * x 4 + x 5), s.2).1 from if_pos hpn]; exact pu13 hc9
    have e13 : ∀ l m, m < R → tSee R A (pu s.1 9 (x 1) 0 (pMax (s.1 9 (x 1) 0) (x 4))) (x 1) (x 3) (x 2) (x 4) (x 5) 13 l m = pOj (pu (pu s.1 9 (x 1) 0 (pMax (s.1 9 (x 1) 0) (x 4)), s.2).1 14 (x 1) (x 3 * 5 + x 2) (4 * x 4 + x 5), s.2).1 (x 1) (gx A s.1 x) R 13 l m := fun l m hm => by unfold tSee; rw [show (if pNew (pu s.1 9 (x 1) 0 (pMax (s.1 9 (x 1) 0) (x 4))) (x 1) (x 3) (x 2) (x 4) then pu (pu s.1 9 (x 1) 0 (pMax (s.1 9 (x 1) 0) (x 4))) 14 (x 1) (x 3 * 5 + x 2) (4 * x 4 + x 5) else pu s.1 9 (x 1) 0 (pMax (s.1 9 (x 1) 0) (x 4))) = (pu (pu s.1 9 (x 1) 0 (pMax (s.1 9 (x 1) 0) (x 4)), s.2).1 14 (x 1) (x 3 * 5 + x 2) (4 * x 4 + x 5), s.2).1 from if_pos hpn]; exact see13 (α := (pu (pu s.1 9 (x 1) 0 (pMax (s.1 9 (x 1) 0) (x 4)), s.2).1 14 (x 1) (x 3 * 5 + x 2) (4 * x 4 + x 5), s.2).1) hm rfl
    have hdc := g2 hd0
    refine gEx_post (m_vd_1 (s := (pOj (pu (pu s.1 9 (x 1) 0 (pMax (s.1 9 (x 1) 0) (x 4)), s.2).1 14 (x 1) (x 3 * 5 + x 2) (4 * x 4 + x 5), s.2).1 (x 1) (gx A s.1 x) R, s.2)) ⟨hR1, hR6, hA35⟩ hτ (pBu_oj hbS hg2) hx1 hg2 (fun m hm => pSt_oj hm (hgS m hm)) hroom) (fun o τ9 q => ⟨q.1, ?_, q.2.2.1.trans hEτ.1, q.2.2.2.trans hEτ.2⟩)
    have q1 := q.2.1
    rw [hdc] at q1
    rw [pTk_of (n := R) (f := fun m => mDec m (pDec R A s.1 (x 1) (x 3) (x 2) (x 4) (x 5))) ((take1 hk).trans (by rw [if_neg (by omega)]; rfl))]
    refine mRel_13 q1 (fun c hc9 => ?_) (fun l m hm => e13 l m hm)
    show pSnd _ R c = pSnd _ R c
    unfold pSnd
    rw [snd13 (es c hc9) (es 1 (by decide))]
    exact snd13b hc9
