theorem mRel_hig {R A cm : Nat} {s : pT} {σ : gSt} (h : mRel R A cm s σ) {l b : Nat} : mRel R A cm (pu s.1 9 l 0 b, s.2) (gup σ 12 l (nI b)) := by
  refine mRel_to h [12] [9] (by decide) (fun c _ hc _ => gup_ne _ _ (fun q => hc (by rw [q]; decide))) (fun d hd => pu_c _ (fun q => hd (by rw [q]; decide))) (mO_kept h.1 (fun j _ => by rw [gup_ne _ _ (by decide)]) rfl rfl) (mMs_kept h.2.1 (gup_ne _ _ (by decide))) (fun c hc => ?_)
  simp only [List.mem_cons, List.not_mem_nil, or_false] at hc
  subst hc
  intro k hk
  have q := mR_hig h hk
  by_cases e : k = l
  · subst e; simp [gup, pu]
  · simp [gup, pu, e, q]
theorem mRel_pha {R A cm : Nat} {s : pT} {σ : gSt} (h : mRel R A cm s σ) {l b : Nat} : mRel R A cm (pu s.1 8 l 0 b, s.2) (gup σ 11 l (nI b)) := by
  refine mRel_to h [11] [8] (by decide) (fun c _ hc _ => gup_ne _ _ (fun q => hc (by rw [q]; decide))) (fun d hd => pu_c _ (fun q => hd (by rw [q]; decide))) (mO_kept h.1 (fun j _ => by rw [gup_ne _ _ (by decide)]) rfl rfl) (mMs_kept h.2.1 (gup_ne _ _ (by decide))) (fun c hc => ?_)
  simp only [List.mem_cons, List.not_mem_nil, or_false] at hc
  subst hc
  intro k hk
  have q := mR_pha h hk
  by_cases e : k = l
  · subst e; simp [gup, pu]
  · simp [gup, pu, e, q]
theorem mRel_de {R A cm : Nat} {s : pT} {σ : gSt} (h : mRel R A cm s σ) {l b : Nat} : mRel R A cm (pu s.1 10 l 0 b, s.2) (gup σ 13 l (nI b)) := by
  refine mRel_to h [13] [10] (by decide) (fun c _ hc _ => gup_ne _ _ (fun q => hc (by rw [q]; decide))) (fun d hd => pu_c _ (fun q => hd (by rw [q]; decide))) (mO_kept h.1 (fun j _ => by rw [gup_ne _ _ (by decide)]) rfl rfl) (mMs_kept h.2.1 (gup_ne _ _ (by decide))) (fun c hc => ?_)
  simp only [List.mem_cons, List.not_mem_nil, or_false] at hc
  subst hc
  intro k hk
  have q := mR_dec h hk
  by_cases e : k = l
  · subst e; simp [gup, pu]
  · simp [gup, pu, e, q]
theorem mRel_outc {R A cm : Nat} {s : pT} {σ : gSt} (h : mRel R A cm s σ) (hR : R ≤ 6) {l m b : Nat} (hm : m < R) : mRel R A cm (pu s.1 13 l m b, s.2) (gup σ 19 (l * 6 + m) (nI b)) := by
  refine mRel_to h [19] [13] (by decide) (fun c _ hc _ => gup_ne _ _ (fun q => hc (by rw [q]; decide))) (fun d hd => pu_c _ (fun q => hd (by rw [q]; decide))) (mO_kept h.1 (fun j _ => by rw [gup_ne _ _ (by decide)]) rfl rfl) (mMs_kept h.2.1 (gup_ne _ _ (by decide))) (fun c hc => ?_)
  simp only [List.mem_cons, List.not_mem_nil, or_false] at hc
  subst hc
  intro k n hk hn
  have q := mR_oc h hk hn
  by_cases e : k = l ∧ n = m
  · obtain ⟨e1, e2⟩ := e
    subst e1; subst e2; simp [gup, pu]
  · rw [gup_j _ _ (by omega), q]
    congr 1
    unfold pu
    rw [if_neg (fun z => e ⟨z.2.1, z.2.2⟩)]
theorem mRel_see {R A cm : Nat} {s : pT} {σ : gSt} (h : mRel R A cm s σ) (hR : R ≤ 6) {l m a b w : Nat} (hm : m < R) (ha : a < 5) (hw : w = 1 ∨ w = 2) : mRel R A cm (pu s.1 14 l (m * 5 + a) (4 * b + w), s.2) (gup (gup σ 17 ((l * 6 + m) * 5 + a) (nI b)) 18 ((l * 6 + m) * 5 + a) (nI w)) := by
  refine mRel_to h [17, 18] [14] (by decide) (fun c _ hc _ => by rw [gup_ne _ _ (fun q => hc (by rw [q]; decide)), gup_ne _ _ (fun q => hc (by rw [q]; decide))]) (fun d hd => pu_c _ (fun q => hd (by rw [q]; decide))) (mO_kept h.1 (fun j _ => by rw [gup_ne _ _ (by decide), gup_ne _ _ (by decide)]) rfl rfl) (mMs_kept h.2.1 (by rw [gup_ne _ _ (by decide), gup_ne _ _ (by decide)])) (fun c hc => ?_)
  simp only [List.mem_cons, List.not_mem_nil, or_false] at hc
  rcases hc with rfl | rfl
  · intro k n c hk hn hc
    have q := mR_sB h hk hn hc
    by_cases e : k = l ∧ n = m ∧ c = a
    · obtain ⟨e1, e2, e3⟩ := e
      subst e1; subst e2; subst e3
      rw [gup_ne _ _ (by decide), gup_at, pu_at, pB_vote hw]
    · rw [gup_ne _ _ (by decide), gup_j _ _ (by omega), q]
      congr 1
      unfold pu
      rw [if_neg (fun z => e ⟨z.2.1, by omega, by omega⟩)]
  · intro k n c hk hn hc hz
    by_cases e : k = l ∧ n = m ∧ c = a
    · obtain ⟨e1, e2, e3⟩ := e
      subst e1; subst e2; subst e3
      rw [gup_at, pu_at, show (4 * b + w) % 4 = w by omega]
    · have hj : pu s.1 14 l (m * 5 + a) (4 * b + w) 14 k (n * 5 + c) = s.1 14 k (n * 5 + c) := if_neg (fun z => e ⟨z.2.1, by omega, by omega⟩)
      rw [hj] at hz ⊢
      rw [gup_j _ _ (by omega), gup_ne _ _ (by decide)]
      exact mR_sW h hk hn hc hz
/-- the outcomes of managers that there are not don't count -/
theorem mRel_13 {R A cm : Nat} {β γ : pS} {ms : List pMsg} {σ : gSt} (h : mRel R A cm (β, ms) σ) (h1 : ∀ c, c ≠ 13 → γ c = β c) (h2 : ∀ l m, m < R → γ 13 l m = β 13 l m) : mRel R A cm (γ, ms) σ :=
  mRel_to h [19] [13] (by decide) (fun _ _ _ _ => rfl) (fun d hd => h1 d (fun q => hd (by rw [q]; decide))) (mO_kept h.1 (fun _ _ => rfl) (by rw [h1 1 (by decide)]) (by rw [h1 1 (by decide)])) h.2.1 (fun c hc => by
    simp only [List.mem_cons, List.not_mem_nil, or_false] at hc
    subst hc
    intro k n hk hn
    rw [h2 k n hn]
    exact mR_oc h hk hn)
/-- the words of a ballot of which no one has accepted anything -/
theorem mRel_lay {R A cm : Nat} {β γ : pS} {ms : List pMsg} {σ : gSt} (h : mRel R A cm (β, ms) σ) (h1 : ∀ c, c ≠ 16 → c ≠ 17 → c ≠ 20 → γ c = β c) (h2 : ∀ b m, m < R → msk (fun a => β 15 b (m * 5 + a)) ≠ 0 → γ 16 b m = β 16 b m) : mRel R A cm (γ, ms) σ :=
  mRel_to h [9] [16, 17, 20] (by decide) (fun _ _ _ _ => rfl) (fun d hd => by
    simp only [List.mem_cons, List.not_mem_nil, or_false, not_or] at hd
    exact h1 d hd.1 hd.2.1 hd.2.2) (mO_kept h.1 (fun _ _ => rfl) (by rw [h1 1 (by decide) (by decide) (by decide)]) (by rw [h1 1 (by decide) (by decide) (by decide)])) h.2.1 (fun c hc => by
    simp only [List.mem_cons, List.not_mem_nil, or_false] at hc
    subst hc
    intro b m hb hm hz
    rw [h1 15 (by decide) (by decide) (by decide)] at hz
    rw [h2 b m hm hz]
    exact mR_ew h hb hm hz)
/-- the greatest of what was told -/
def pGt (t v : Nat) : Prop := t ≠ 0 ∧ (v = 0 ∨ v / 4 < t / 4)
def pBst (d t : Nat → Nat) : Nat → Nat
  | 0 => 0
  | c + 1 => if d c ≠ 0 ∧ t c ≠ 0 ∧ (pBst d t c = 0 ∨ pBst d t c / 4 < t c / 4) then t c else pBst d t c
theorem pBst_le {d t : Nat → Nat} {n : Nat} (h : ∀ c, t c ≤ n) : ∀ c, pBst d t c ≤ n
  | 0 => Nat.zero_le _
  | c + 1 => by
    show (if _ then _ else _) ≤ n
    split
    · exact h c
    · exact pBst_le h c
theorem pB_ltB {t v : Nat} (ht : t < 2 ^ 31) (hv : v < 2 ^ 31) : pB v < pB t ↔ (t ≠ 0 ∧ (v = 0 ∨ v / 4 < t / 4)) := by
  by_cases h : t = 0
  · rw [pB_neg h]
    constructor
    · intro q
      exfalso
      by_cases h2 : v = 0
      · rw [pB_neg h2] at q
        exact absurd q (by decide)
      · have e : pB v = nI (v / 4) := if_neg h2
        rw [e] at q
        exact Int32.lt_irrefl (Int32.lt_trans q (m1_lt (b := v / 4) (by omega)))
    · intro q
      exact absurd h q.1
  · have e : pB t = nI (t / 4) := if_neg h
    rw [e, pB_lt hv (by omega)]
    exact ⟨fun q => ⟨h, q⟩, fun q => q.2⟩
theorem pWrd_nz {v : Nat} (h : v ≠ 0) : pWrd v = v % 4 := if_neg h
def tdP (σ τ : gSt) (l a j : Nat) : Prop := (∀ c, c ≠ 15 → c ≠ 16 → τ c = σ c) ∧ (∀ p, (p < (5 * l + a) * 6 ∨ (5 * l + a) * 6 + j ≤ p) → τ 15 p = σ 15 p ∧ τ 16 p = σ 16 p) ∧ ∀ m, m < j → τ 15 ((5 * l + a) * 6 + m) = σ 2 (6 + m) ∧ τ 16 ((5 * l + a) * 6 + m) = σ 2 (12 + m)
theorem tdP_0 (σ : gSt) (l a : Nat) : tdP σ σ l a 0 := ⟨fun _ _ _ => rfl, fun _ _ => ⟨rfl, rfl⟩, fun m h => absurd h (Nat.not_lt_zero _)⟩
theorem tdP_s {σ τ : gSt} {l a j : Nat} {v w : Int32} (h : tdP σ τ l a j) (hv : v = σ 2 (6 + j)) (hw : w = σ 2 (12 + j)) : tdP σ (gup (gup τ 15 ((5 * l + a) * 6 + j) v) 16 ((5 * l + a) * 6 + j) w) l a (j + 1) := by
  subst hv; subst hw
  obtain ⟨h1, h2, h3⟩ := h
  refine ⟨fun c hc hc2 => by rw [gup_ne _ _ hc2, gup_ne _ _ hc]; exact h1 c hc hc2, fun p hp => ?_, fun m hm => ?_⟩
  · obtain ⟨q1, q2⟩ := h2 p (by omega)
    refine ⟨?_, ?_⟩
    · rw [gup_ne _ _ (by decide), gup_j _ _ (by omega)]; exact q1
    · rw [gup_j _ _ (by omega), gup_ne _ _ (by decide)]; exact q2
  · by_cases e : m = j
    · subst e
      refine ⟨?_, ?_⟩
      · rw [gup_ne _ _ (by decide), gup_at]
      · rw [gup_at]
    · obtain ⟨q1, q2⟩ := h3 m (by omega)
      refine ⟨?_, ?_⟩
      · rw [gup_ne _ _ (by decide), gup_j _ _ (by omega)]; exact q1
      · rw [gup_j _ _ (by omega), gup_ne _ _ (by decide)]; exact q2
theorem pTel_at {α : pS} {l a R m : Nat} {t : Nat → Nat} (hm : m < R) : pTel α l a R t 12 l (a * 6 + m) = t m := by
  unfold pTel
  rw [if_pos ⟨rfl, rfl, by omega, by omega⟩, Nat.add_sub_cancel_left]
theorem pTel_o {α : pS} {l a R k c m : Nat} {t : Nat → Nat} (hR : R ≤ 6) (hm : m < 6) (h : ¬ (k = l ∧ c = a)) : pTel α l a R t 12 k (c * 6 + m) = α 12 k (c * 6 + m) := by
  unfold pTel
  rw [if_neg (fun q => h ⟨q.2.1, by omega⟩)]
theorem mRel_tel {R A cm : Nat} {s : pT} {σ τ : gSt} (h : mRel R A cm s σ) (hR : R ≤ 6) {l a : Nat} {x : pMsg} (hk : x 0 = 3) (hl : l < 3) (ha : a < 5) (hmd : mOne R (σ 2) 0 x) (ht : tdP (gup σ 14 l (nI (msk (pu s.1 11 l a 1 11 l)))) τ l a R) :
    mRel R A cm (pTel (pu s.1 11 l a 1) l a R (fun m => x (6 + m)), s.2) τ := by
  obtain ⟨t1, t2, t3⟩ := ht
  refine mRel_to h [14, 15, 16] [11, 12] (by decide) (fun c _ hc _ => ?_) (fun d hd => ?_) (mO_kept h.1 (fun j _ => by rw [t1 0 (by decide) (by decide), gup_ne _ _ (by decide)]) rfl rfl) (mMs_kept h.2.1 (by rw [t1 1 (by decide) (by decide), gup_ne _ _ (by decide)])) (fun c hc => ?_)
  · simp only [List.mem_cons, List.not_mem_nil, or_false, not_or] at hc
    rw [t1 c (by omega) (by omega), gup_ne _ _ (by omega)]
  · simp only [List.mem_cons, List.not_mem_nil, or_false, not_or] at hd
    rw [pTel_c (by omega), pu_c _ (by omega)]
  · simp only [List.mem_cons, List.not_mem_nil, or_false] at hc
    rcases hc with rfl | rfl | rfl
    · intro k hk9
      rw [t1 14 (by decide) (by decide), pTel_c (by decide)]
      have q := mR_tol h hk9
      by_cases e : k = l
      · subst e
        rw [gup_at]
      · rw [gup_j _ _ e, q, pu_i _ e]
    · intro k c m hk9 hc9 hm hz
      rw [pTel_c (by decide)] at hz
      by_cases e : k = l ∧ c = a
      · obtain ⟨e1, e2⟩ := e
        subst e1; subst e2
        rw [(t3 m hm).1, pTel_at hm, gup_ne _ _ (by decide)]
        have q := ((hmd.2 hk m hm).1)
        rw [Nat.zero_add] at q
        exact q
      · have hz' : s.1 11 k c ≠ 0 := by
          have e2 : pu s.1 11 l a 1 11 k c = s.1 11 k c := if_neg (fun z => e ⟨z.2.1, z.2.2⟩)
          rwa [e2] at hz
        rw [(t2 _ (by omega)).1, gup_ne _ _ (by decide), mR_tB h hk9 hc9 hm hz', pTel_o hR (by omega) e]
        rfl
    · intro k c m hk9 hc9 hm hz
      rw [pTel_c (by decide)] at hz
      by_cases e : k = l ∧ c = a
      · obtain ⟨e1, e2⟩ := e
        subst e1; subst e2
        rw [(t3 m hm).2, pTel_at hm, gup_ne _ _ (by decide)]
        have q := ((hmd.2 hk m hm).2)
        rw [Nat.zero_add] at q
        exact q
      · have hz' : s.1 11 k c ≠ 0 := by
          have e2 : pu s.1 11 l a 1 11 k c = s.1 11 k c := if_neg (fun z => e ⟨z.2.1, z.2.2⟩)
          rwa [e2] at hz
        rw [(t2 _ (by omega)).2, gup_ne _ _ (by decide), mR_tW h hk9 hc9 hm hz', pTel_o hR (by omega) e]
        rfl

theorem malt2 {R A m : Nat} (hm : m < R) (hA : A ≤ 5) : m * A + A ≤ R * A := by
  have h : (m + 1) * A ≤ R * A := Nat.mul_le_mul_right _ hm
  rw [Nat.add_mul, Nat.one_mul] at h
  exact h

set_option maxRecDepth 100000 in
theorem m_td_l {R : Nat} (hR : R ≤ 6) {σ : gSt} (h1 : σ 0 1 = nI R) {l a b : Nat} (hl : l < 3) (ha : a < 5) {Q : gOut → gSt → Prop} (hq : ∀ τ, tdP σ τ l a R → gEx mG mX7_toldComes 0 133 [some (.inr 0), some (.inl (nI l)), some (.inl (nI b)), some (.inl (nI a)), some (.inl (nI R)), none, none, none] [] τ Q) : ∀ (k j : Nat), j ≤ R → R - j < k → ∀ τ, tdP σ τ l a j → gEx mG mX7_toldComes 0 66 [some (.inr 0), some (.inl (nI l)), some (.inl (nI b)), some (.inl (nI a)), some (.inl (nI j)), none, none, none] [] τ Q := by
  intro k
  induction k with
  | zero => intro j hi1 hi2; exact absurd hi2 (by omega)
  | succ k ih =>
    intro j hi1 hi2 τ ht
    refine g_iload dX7_toldComes_66 rfl ?_
    refine g_aload_n dX7_toldComes_68 rfl ?_
    refine g_get (T := TX7) (N := 26) (Cn := RX7) (ref := "CommitCouncilModel") 1 dX7_toldComes_69 (mIn (by decide)) rfl rfl (fun w h => List.mem_cons_of_mem _ (hU7 w h)) (by decide) (List.mem_cons_of_mem _ uw_3_124) (Or.inl rfl) rfl ?_
    refine gEx.top (v := .inl (nI (R))) (congrArg Sum.inl ((congrFun (ht.1 0 (by decide) (by decide)) 1).trans h1)) ?_
    refine g_icmp_ge 133 dX7_toldComes_72 (by decide) (fun h72 => ?_) (fun h72 => ?_)
    · skip
      rw [nI_leI (by omega) (by omega)] at h72
      have e : j = R := by omega
      subst e
      exact hq τ ht
    · skip
      rw [nI_leI (by omega) (by omega)] at h72
      refine g_aload_n dX7_toldComes_75 rfl ?_
      refine g_getr (T := TX7) (N := 26) (Cn := RX7) (ref := "CommitCouncilModel") 21 dX7_toldComes_76 (mIn (by decide)) rfl rfl (fun w h => List.mem_cons_of_mem _ (hU7 w h)) (by decide) (List.mem_cons_of_mem _ uw_3_144) (Or.inl rfl) rfl ?_
      refine g_iconst (nI (5)) dX7_toldComes_79 (by decide) ?_
      refine g_iload_n dX7_toldComes_80 rfl ?_
      refine g_imul dX7_toldComes_81 ?_
      refine gEx.top (v := .inl (nI ((5) * (l)))) (congrArg Sum.inl (pk_mul _ _)) ?_
      refine g_iload_n dX7_toldComes_82 rfl ?_
      refine g_iadd dX7_toldComes_83 ?_
      refine gEx.top (v := .inl (nI ((5) * (l) + a))) (congrArg Sum.inl (nI_add _ _)) ?_
      refine g_bipush (nI (6)) dX7_toldComes_84 (by decide) ?_
      refine g_imul dX7_toldComes_86 ?_
      refine gEx.top (v := .inl (nI (((5) * (l) + a) * (6)))) (congrArg Sum.inl (pk_mul _ _)) ?_
      refine g_iload dX7_toldComes_87 rfl ?_
      refine g_iadd dX7_toldComes_89 ?_
      refine gEx.top (v := .inl (nI (((5) * (l) + a) * (6) + j))) (congrArg Sum.inl (nI_add _ _)) ?_
      refine g_aload_n dX7_toldComes_90 rfl ?_
      refine g_getr (T := TX7) (N := 26) (Cn := RX7) (ref := "CommitCouncilModel") 4 dX7_toldComes_91 (mIn (by decide)) rfl rfl (fun w h => List.mem_cons_of_mem _ (hU7 w h)) (by decide) (List.mem_cons_of_mem _ uw_3_127) (Or.inl rfl) rfl ?_
      refine g_bipush (nI (6)) dX7_toldComes_94 (by decide) ?_
      refine g_iload dX7_toldComes_96 rfl ?_
      refine g_iadd dX7_toldComes_98 ?_
      refine gEx.top (v := .inl (nI (6 + j))) (congrArg Sum.inl (nI_add _ _)) ?_
      refine g_ialdN (n := 18) (j := 6 + j) dX7_toldComes_99 (mIn (by decide)) rfl (by omega) (by omega) ?_
      refine gEx.top (v := .inl (σ 2 (6 + j))) (congrArg Sum.inl ((congrFun (ht.1 2 (by decide) (by decide)) _))) ?_
      refine g_iastN (n := 90) (j := ((5) * (l) + a) * (6) + j) dX7_toldComes_100 (mIn (by decide)) rfl (by omega) (by omega) ?_
      refine g_aload_n dX7_toldComes_101 rfl ?_
      refine g_getr (T := TX7) (N := 26) (Cn := RX7) (ref := "CommitCouncilModel") 22 dX7_toldComes_102 (mIn (by decide)) rfl rfl (fun w h => List.mem_cons_of_mem _ (hU7 w h)) (by decide) (List.mem_cons_of_mem _ uw_3_145) (Or.inl rfl) rfl ?_
      refine g_iconst (nI (5)) dX7_toldComes_105 (by decide) ?_
      refine g_iload_n dX7_toldComes_106 rfl ?_
      refine g_imul dX7_toldComes_107 ?_
      refine gEx.top (v := .inl (nI ((5) * (l)))) (congrArg Sum.inl (pk_mul _ _)) ?_
      refine g_iload_n dX7_toldComes_108 rfl ?_
      refine g_iadd dX7_toldComes_109 ?_
      refine gEx.top (v := .inl (nI ((5) * (l) + a))) (congrArg Sum.inl (nI_add _ _)) ?_
      refine g_bipush (nI (6)) dX7_toldComes_110 (by decide) ?_
      refine g_imul dX7_toldComes_112 ?_
      refine gEx.top (v := .inl (nI (((5) * (l) + a) * (6)))) (congrArg Sum.inl (pk_mul _ _)) ?_
      refine g_iload dX7_toldComes_113 rfl ?_
      refine g_iadd dX7_toldComes_115 ?_
      refine gEx.top (v := .inl (nI (((5) * (l) + a) * (6) + j))) (congrArg Sum.inl (nI_add _ _)) ?_
      refine g_aload_n dX7_toldComes_116 rfl ?_
      refine g_getr (T := TX7) (N := 26) (Cn := RX7) (ref := "CommitCouncilModel") 4 dX7_toldComes_117 (mIn (by decide)) rfl rfl (fun w h => List.mem_cons_of_mem _ (hU7 w h)) (by decide) (List.mem_cons_of_mem _ uw_3_127) (Or.inl rfl) rfl ?_
      refine g_bipush (nI (12)) dX7_toldComes_120 (by decide) ?_
      refine g_iload dX7_toldComes_122 rfl ?_
      refine g_iadd dX7_toldComes_124 ?_
      refine gEx.top (v := .inl (nI (12 + j))) (congrArg Sum.inl (nI_add _ _)) ?_
      refine g_ialdN (n := 18) (j := 12 + j) dX7_toldComes_125 (mIn (by decide)) rfl (by omega) (by omega) ?_
      refine gEx.top (v := .inl (σ 2 (12 + j))) (congrArg Sum.inl ((congrFun (ht.1 2 (by decide) (by decide)) _))) ?_
      refine g_iastN (n := 90) (j := ((5) * (l) + a) * (6) + j) dX7_toldComes_126 (mIn (by decide)) rfl (by omega) (by omega) ?_
      refine g_iinc (nI (j + 1)) dX7_toldComes_127 rfl (show nI (j) + nI 1 = _ from nI_add _ _) (by decide) ?_
      refine g_goto 66 dX7_toldComes_130 (by decide) ?_
      exact ih (j + 1) (by omega) (by omega) _ (tdP_s ht rfl rfl)

set_option maxRecDepth 100000 in
theorem m_bst_l {R A : Nat} (hRA : pRA R A) {cm : Nat} {s : pT} {σ : gSt} (hc : mRel R A cm s σ) (hb : pBu s.1) {l a b m : Nat} (hl : l < 3) (hm : m < R) {Q : gOut → gSt → Prop} (hq : gEx mG mX7_toldComes 0 270 [some (.inr 0), some (.inl (nI l)), some (.inl (nI b)), some (.inl (nI a)), some (.inl (nI m)), some (.inl (pB (pBst (s.1 11 l) (fun c => s.1 12 l (c * 6 + m)) A))), some (.inl (nI (pWrd (pBst (s.1 11 l) (fun c => s.1 12 l (c * 6 + m)) A)))), some (.inl (nI (A)))] [] σ Q) : ∀ (k c : Nat), c ≤ A → A - c < k → gEx mG mX7_toldComes 0 178 [some (.inr 0), some (.inl (nI l)), some (.inl (nI b)), some (.inl (nI a)), some (.inl (nI m)), some (.inl (pB (pBst (s.1 11 l) (fun c => s.1 12 l (c * 6 + m)) c))), some (.inl (nI (pWrd (pBst (s.1 11 l) (fun c => s.1 12 l (c * 6 + m)) c)))), some (.inl (nI (c)))] [] σ Q := by
  intro k
  induction k with
  | zero => intro c hi1 hi2; exact absurd hi2 (by omega)
  | succ k ih =>
    intro c hi1 hi2 
    obtain ⟨hR1, hR6, hA35⟩ := hRA
    have hA5 : A ≤ 5 := by omega
    have h11 : ∀ a, s.1 11 l a ≤ 1 := fun a => hb 11 l a (by decide) (by decide)
    have h12 : ∀ c, s.1 12 l (c * 6 + m) ≤ 6150 := fun c => hb 12 _ _ (by decide) (by decide)
    have hbl := pBst_le (d := s.1 11 l) (t := (fun c => s.1 12 l (c * 6 + m))) h12 c
    have h12c := h12 c
    have h11c := h11 c
    have hmk := msk_lt h11
    refine g_iload dX7_toldComes_178 rfl ?_
    refine g_aload_n dX7_toldComes_180 rfl ?_
    refine g_get (T := TX7) (N := 26) (Cn := RX7) (ref := "CommitCouncilModel") 2 dX7_toldComes_181 (mIn (by decide)) rfl rfl (fun w h => List.mem_cons_of_mem _ (hU7 w h)) (by decide) (List.mem_cons_of_mem _ uw_3_125) (Or.inl rfl) rfl ?_
    refine gEx.top (v := .inl (nI (A))) (congrArg Sum.inl (hc.1.2.1)) ?_
    refine g_icmp_ge 270 dX7_toldComes_184 (by decide) (fun h184 => ?_) (fun h184 => ?_)
    · skip
      rw [nI_leI (by omega) (by omega)] at h184
      have e : c = A := by omega
      subst e
      exact hq
    · skip
      rw [nI_leI (by omega) (by omega)] at h184
      refine g_aload_n dX7_toldComes_187 rfl ?_
      refine g_getr (T := TX7) (N := 26) (Cn := RX7) (ref := "CommitCouncilModel") 20 dX7_toldComes_188 (mIn (by decide)) rfl rfl (fun w h => List.mem_cons_of_mem _ (hU7 w h)) (by decide) (List.mem_cons_of_mem _ uw_3_143) (Or.inl rfl) rfl ?_
      refine g_iload_n dX7_toldComes_191 rfl ?_
      refine g_ialdN (n := 3) (j := l) dX7_toldComes_192 (mIn (by decide)) rfl (by omega) (by omega) ?_
      refine gEx.top (v := .inl (nI (msk (s.1 11 (l))))) (congrArg Sum.inl (mR_tol hc (by omega))) ?_
      refine g_iload dX7_toldComes_193 rfl ?_
      refine g_ishr dX7_toldComes_195 ?_
      refine g_iconst (nI (1)) dX7_toldComes_196 (by decide) ?_
      refine g_iand dX7_toldComes_197 ?_
      refine gEx.top (v := .inl (nI (s.1 11 l c))) (congrArg Sum.inl (msk_bit h11 (by omega))) ?_
      refine g_if_eq 264 dX7_toldComes_198 (by decide) (fun h198 => ?_) (fun h198 => ?_)
      · skip
        rw [nI_z (by omega)] at h198
        refine g_iinc (nI (c + 1)) dX7_toldComes_264 rfl (show nI (c) + nI 1 = _ from nI_add _ _) (by decide) ?_
        refine g_goto 178 dX7_toldComes_267 (by decide) ?_
        have := ih (c + 1) (by omega) (by omega)
        have e : pBst (s.1 11 l) (fun c => s.1 12 l (c * 6 + m)) (c + 1) = pBst (s.1 11 l) (fun c => s.1 12 l (c * 6 + m)) c := by refine if_neg (fun q => ?_); first | exact absurd h198 q.1 | exact h220 q.2
        rw [e] at this
        exact this
      · skip
        rw [nI_z (by omega)] at h198
        refine g_aload_n dX7_toldComes_201 rfl ?_
        refine g_getr (T := TX7) (N := 26) (Cn := RX7) (ref := "CommitCouncilModel") 21 dX7_toldComes_202 (mIn (by decide)) rfl rfl (fun w h => List.mem_cons_of_mem _ (hU7 w h)) (by decide) (List.mem_cons_of_mem _ uw_3_144) (Or.inl rfl) rfl ?_
        refine g_iconst (nI (5)) dX7_toldComes_205 (by decide) ?_
        refine g_iload_n dX7_toldComes_206 rfl ?_
        refine g_imul dX7_toldComes_207 ?_
        refine gEx.top (v := .inl (nI ((5) * (l)))) (congrArg Sum.inl (pk_mul _ _)) ?_
        refine g_iload dX7_toldComes_208 rfl ?_
        refine g_iadd dX7_toldComes_210 ?_
        refine gEx.top (v := .inl (nI ((5) * (l) + c))) (congrArg Sum.inl (nI_add _ _)) ?_
        refine g_bipush (nI (6)) dX7_toldComes_211 (by decide) ?_
        refine g_imul dX7_toldComes_213 ?_
        refine gEx.top (v := .inl (nI (((5) * (l) + c) * (6)))) (congrArg Sum.inl (pk_mul _ _)) ?_
        refine g_iload dX7_toldComes_214 rfl ?_
        refine g_iadd dX7_toldComes_216 ?_
        refine gEx.top (v := .inl (nI (((5) * (l) + c) * (6) + m))) (congrArg Sum.inl (nI_add _ _)) ?_
        refine g_ialdN (n := 90) (j := ((5) * (l) + c) * (6) + m) dX7_toldComes_217 (mIn (by decide)) rfl (by omega) (by omega) ?_
        refine gEx.top (v := .inl (pB (s.1 12 l (c * 6 + m)))) (congrArg Sum.inl (mR_tB hc hl (by omega) hm h198)) ?_
        refine g_iload dX7_toldComes_218 rfl ?_
        refine g_icmp_gt 226 dX7_toldComes_220 (by decide) (fun h220 => ?_) (fun h220 => ?_)
        · skip
          rw [pB_ltB (by omega) (by omega)] at h220
          refine g_aload_n dX7_toldComes_226 rfl ?_
          refine g_getr (T := TX7) (N := 26) (Cn := RX7) (ref := "CommitCouncilModel") 21 dX7_toldComes_227 (mIn (by decide)) rfl rfl (fun w h => List.mem_cons_of_mem _ (hU7 w h)) (by decide) (List.mem_cons_of_mem _ uw_3_144) (Or.inl rfl) rfl ?_
          refine g_iconst (nI (5)) dX7_toldComes_230 (by decide) ?_
          refine g_iload_n dX7_toldComes_231 rfl ?_
          refine g_imul dX7_toldComes_232 ?_
          refine gEx.top (v := .inl (nI ((5) * (l)))) (congrArg Sum.inl (pk_mul _ _)) ?_
          refine g_iload dX7_toldComes_233 rfl ?_
          refine g_iadd dX7_toldComes_235 ?_
          refine gEx.top (v := .inl (nI ((5) * (l) + c))) (congrArg Sum.inl (nI_add _ _)) ?_
          refine g_bipush (nI (6)) dX7_toldComes_236 (by decide) ?_
          refine g_imul dX7_toldComes_238 ?_
          refine gEx.top (v := .inl (nI (((5) * (l) + c) * (6)))) (congrArg Sum.inl (pk_mul _ _)) ?_
          refine g_iload dX7_toldComes_239 rfl ?_
          refine g_iadd dX7_toldComes_241 ?_
          refine gEx.top (v := .inl (nI (((5) * (l) + c) * (6) + m))) (congrArg Sum.inl (nI_add _ _)) ?_
          refine g_ialdN (n := 90) (j := ((5) * (l) + c) * (6) + m) dX7_toldComes_242 (mIn (by decide)) rfl (by omega) (by omega) ?_
          refine gEx.top (v := .inl (pB (s.1 12 l (c * 6 + m)))) (congrArg Sum.inl (mR_tB hc hl (by omega) hm h198)) ?_
          refine g_istore dX7_toldComes_243 (by decide) ?_
          refine g_aload_n dX7_toldComes_245 rfl ?_
          refine g_getr (T := TX7) (N := 26) (Cn := RX7) (ref := "CommitCouncilModel") 22 dX7_toldComes_246 (mIn (by decide)) rfl rfl (fun w h => List.mem_cons_of_mem _ (hU7 w h)) (by decide) (List.mem_cons_of_mem _ uw_3_145) (Or.inl rfl) rfl ?_
          refine g_iconst (nI (5)) dX7_toldComes_249 (by decide) ?_
          refine g_iload_n dX7_toldComes_250 rfl ?_
          refine g_imul dX7_toldComes_251 ?_
          refine gEx.top (v := .inl (nI ((5) * (l)))) (congrArg Sum.inl (pk_mul _ _)) ?_
          refine g_iload dX7_toldComes_252 rfl ?_
          refine g_iadd dX7_toldComes_254 ?_
          refine gEx.top (v := .inl (nI ((5) * (l) + c))) (congrArg Sum.inl (nI_add _ _)) ?_
          refine g_bipush (nI (6)) dX7_toldComes_255 (by decide) ?_
          refine g_imul dX7_toldComes_257 ?_
          refine gEx.top (v := .inl (nI (((5) * (l) + c) * (6)))) (congrArg Sum.inl (pk_mul _ _)) ?_
          refine g_iload dX7_toldComes_258 rfl ?_
          refine g_iadd dX7_toldComes_260 ?_
          refine gEx.top (v := .inl (nI (((5) * (l) + c) * (6) + m))) (congrArg Sum.inl (nI_add _ _)) ?_
          refine g_ialdN (n := 90) (j := ((5) * (l) + c) * (6) + m) dX7_toldComes_261 (mIn (by decide)) rfl (by omega) (by omega) ?_
          refine gEx.top (v := .inl (nI (s.1 12 l (c * 6 + m) % 4))) (congrArg Sum.inl (mR_tW hc hl (by omega) hm h198)) ?_
          refine g_istore dX7_toldComes_262 (by decide) ?_
          refine g_iinc (nI (c + 1)) dX7_toldComes_264 rfl (show nI (c) + nI 1 = _ from nI_add _ _) (by decide) ?_
          refine g_goto 178 dX7_toldComes_267 (by decide) ?_
          have := ih (c + 1) (by omega) (by omega)
          have e : pBst (s.1 11 l) (fun c => s.1 12 l (c * 6 + m)) (c + 1) = s.1 12 l (c * 6 + m) := if_pos ⟨h198, h220⟩
          rw [e, pWrd_nz h220.1] at this
          exact this
        · skip
          rw [pB_ltB (by omega) (by omega)] at h220
          refine g_goto 264 dX7_toldComes_223 (by decide) ?_
          refine g_iinc (nI (c + 1)) dX7_toldComes_264 rfl (show nI (c) + nI 1 = _ from nI_add _ _) (by decide) ?_
          refine g_goto 178 dX7_toldComes_267 (by decide) ?_
          have := ih (c + 1) (by omega) (by omega)
          have e : pBst (s.1 11 l) (fun c => s.1 12 l (c * 6 + m)) (c + 1) = pBst (s.1 11 l) (fun c => s.1 12 l (c * 6 + m)) c := by refine if_neg (fun q => ?_); first | exact absurd h198 q.1 | exact h220 q.2
          rw [e] at this
          exact this

set_option maxRecDepth 100000 in
theorem m_vt_v {R A : Nat} (hRA : pRA R A) {cm : Nat} {s : pT} {σ0 : gSt} (hb : pBu s.1) {l a b m : Nat} (hl : l < 3) (hm : m < R) (hn : s.2.length + R * A ≤ 400) {σ : gSt} (hc : mRel R A cm (pAll A b (fun m => pBst (s.1 11 l) (fun c => s.1 12 l (c * 6 + m)) A) s m) σ) (hE : mE σ0 σ) {y1 y2 : Int32} {Q : gOut → gSt → Prop} (hq : ∀ τ, mRel R A cm (pAll A b (fun m => pBst (s.1 11 l) (fun c => s.1 12 l (c * 6 + m)) A) s (m + 1)) τ → mE σ0 τ → ∀ z1 z2 z3, gEx mG mX7_toldComes 0 160 [some (.inr 0), some (.inl (nI l)), some (.inl (nI b)), some (.inl (nI a)), some (.inl (nI (m + 1))), z1, z2, z3] [] τ Q) : gEx mG mX7_toldComes 0 270 [some (.inr 0), some (.inl (nI l)), some (.inl (nI b)), some (.inl (nI a)), some (.inl (nI m)), some (.inl y1), some (.inl (nI (pWrd (pBst (s.1 11 l) (fun c => s.1 12 l (c * 6 + m)) A)))), some (.inl y2)] [] σ Q := by
  obtain ⟨hR1, hR6, hA35⟩ := hRA
  have hA5 : A ≤ 5 := by omega
  refine g_aload_n dX7_toldComes_270 rfl ?_
  refine g_iload dX7_toldComes_271 rfl ?_
  refine g_iload_n dX7_toldComes_273 rfl ?_
  refine g_iload dX7_toldComes_274 rfl ?_
  refine g_callVv (n9 := 3) [.inl (nI (m)), .inl (nI (b)), .inl (nI (pWrd (pBst (s.1 11 l) (fun c => s.1 12 l (c * 6 + m)) A)))] [] (m_votes (s := (pAll A b (fun m => pBst (s.1 11 l) (fun c => s.1 12 l (c * 6 + m)) A) s m)) ⟨hR1, hR6, hA35⟩ hc (m := m) (b := b) (w := pWrd (pBst (s.1 11 l) (fun c => s.1 12 l (c * 6 + m)) A)) (by rw [pAll_len]; have := malt2 hm hA5; omega)) dX7_toldComes_276 (gU_V uw_3_226 uw_3_228 us_1_6 uw_1_8 uw_3_229) rfl (by decide +kernel) rfl ⟨by decide, by decide⟩ (mIn (by decide)) rfl rfl rfl (Nat.le_of_ble_eq_true rfl) (fun τ2 hq2 => ?_)
  refine g_iinc (nI (m + 1)) dX7_toldComes_279 rfl (show nI (m) + nI 1 = _ from nI_add _ _) (by decide) ?_
  refine g_goto 160 dX7_toldComes_282 (by decide) ?_
  have h1 := hq2.1
  rw [show pAdd (pAll A b (fun m => pBst (s.1 11 l) (fun c => s.1 12 l (c * 6 + m)) A) s m) A (fun a => mVote a m b (pWrd (pBst (s.1 11 l) (fun c => s.1 12 l (c * 6 + m)) A))) = pAll A b (fun m => pBst (s.1 11 l) (fun c => s.1 12 l (c * 6 + m)) A) s (m + 1) from pAll_s A b (fun m => pBst (s.1 11 l) (fun c => s.1 12 l (c * 6 + m)) A) s m] at h1
  exact hq _ h1 (mE_tr hE hq2.2) _ _ _

set_option maxRecDepth 100000 in
theorem m_vt_l {R A : Nat} (hRA : pRA R A) {cm : Nat} {s : pT} {σ0 : gSt} (hb : pBu s.1) {l a b : Nat} (hl : l < 3) (hn : s.2.length + R * A ≤ 400) : ∀ (k m : Nat), m ≤ R → R - m < k → ∀ σ z1 z2 z3, mRel R A cm (pAll A b (fun m => pBst (s.1 11 l) (fun c => s.1 12 l (c * 6 + m)) A) s m) σ → mE σ0 σ → gEx mG mX7_toldComes 0 160 [some (.inr 0), some (.inl (nI l)), some (.inl (nI b)), some (.inl (nI a)), some (.inl (nI m)), z1, z2, z3] [] σ (gV (fun τ => mRel R A cm (pAll A b (fun m => pBst (s.1 11 l) (fun c => s.1 12 l (c * 6 + m)) A) s R) τ ∧ mE σ0 τ)) := by
  intro k
  induction k with
  | zero => intro m hi1 hi2; exact absurd hi2 (by omega)
  | succ k ih =>
    intro m hi1 hi2 σ z1 z2 z3 hc hE
    obtain ⟨hR1, hR6, hA35⟩ := hRA
    refine g_iload dX7_toldComes_160 rfl ?_
    refine g_aload_n dX7_toldComes_162 rfl ?_
    refine g_get (T := TX7) (N := 26) (Cn := RX7) (ref := "CommitCouncilModel") 1 dX7_toldComes_163 (mIn (by decide)) rfl rfl (fun w h => List.mem_cons_of_mem _ (hU7 w h)) (by decide) (List.mem_cons_of_mem _ uw_3_124) (Or.inl rfl) rfl ?_
    refine gEx.top (v := .inl (nI (R))) (congrArg Sum.inl (hc.1.1)) ?_
    refine g_icmp_ge 285 dX7_toldComes_166 (by decide) (fun h166 => ?_) (fun h166 => ?_)
    · skip
      rw [nI_leI (by omega) (by omega)] at h166
      refine g_vret dX7_toldComes_285 rfl ?_
      have e : m = R := by omega
      subst e
      exact ⟨rfl, hc, hE⟩
    · skip
      rw [nI_leI (by omega) (by omega)] at h166
      refine g_iconst ((-1)) dX7_toldComes_169 (by decide) ?_
      refine g_istore dX7_toldComes_170 (by decide) ?_
      refine g_iconst (nI (2)) dX7_toldComes_172 (by decide) ?_
      refine g_istore dX7_toldComes_173 (by decide) ?_
      refine g_iconst (nI (0)) dX7_toldComes_175 (by decide) ?_
      refine g_istore dX7_toldComes_176 (by decide) ?_
      refine m_bst_l (s := (pAll A b (fun m => pBst (s.1 11 l) (fun c => s.1 12 l (c * 6 + m)) A) s m)) ⟨hR1, hR6, hA35⟩ hc (pBu_snd hb _) hl (show m < R by omega) ?_ (A + 1) 0 (by omega) (by omega)
      exact m_vt_v ⟨hR1, hR6, hA35⟩ hb hl (by omega) hn hc hE (fun τ h1 h2 z1 z2 z3 => ih (m + 1) (by omega) (by omega) τ z1 z2 z3 h1 h2)

set_option maxRecDepth 100000 in
theorem m_tc_n {R A : Nat} (hRA : pRA R A) {cm : Nat} {s : pT} {σ : gSt} (hc : mRel R A cm s σ) (hb : pBu s.1) {l a b m : Nat} (hl : l < 3) (hno : ¬ A < 2 * psum (s.1 11 l) 5) {Q : gOut → gSt → Prop} (hq : Q (.inl none) σ) : gEx mG mX7_toldComes 0 133 [some (.inr 0), some (.inl (nI l)), some (.inl (nI b)), some (.inl (nI a)), some (.inl (nI m)), none, none, none] [] σ Q := by
  obtain ⟨hR1, hR6, hA35⟩ := hRA
  have hA5 : A ≤ 5 := by omega
  have h11 : ∀ a, s.1 11 l a ≤ 1 := fun a => hb 11 l a (by decide) (by decide)
  have hmk := msk_lt h11
  have hpl := psum_le h11 5
  refine g_aload_n dX7_toldComes_133 rfl ?_
  refine g_aload_n dX7_toldComes_134 rfl ?_
  refine g_getr (T := TX7) (N := 26) (Cn := RX7) (ref := "CommitCouncilModel") 20 dX7_toldComes_135 (mIn (by decide)) rfl rfl (fun w h => List.mem_cons_of_mem _ (hU7 w h)) (by decide) (List.mem_cons_of_mem _ uw_3_143) (Or.inl rfl) rfl ?_
  refine g_iload_n dX7_toldComes_138 rfl ?_
  refine g_ialdN (n := 3) (j := l) dX7_toldComes_139 (mIn (by decide)) rfl (by omega) (by omega) ?_
  refine gEx.top (v := .inl (nI (msk (s.1 11 (l))))) (congrArg Sum.inl (mR_tol hc (by omega))) ?_
  refine g_callSi (_) (n9 := 1) [.inl (nI (msk (s.1 11 (l))))] [.inr (0)] (m_bits (by omega)) dX7_toldComes_140 (gU_S uw_4_33 uw_4_34 uw_1_8 uw_4_35) rfl (by decide +kernel) rfl ⟨by decide, by decide⟩ rfl (Nat.le_of_ble_eq_true rfl) (fun τ3 hq3 => ?_)
  subst hq3
  refine gEx.top (v := .inl (nI (psum (s.1 11 l) 5))) (congrArg Sum.inl (congrArg nI (bits_msk h11))) ?_
  refine g_callVi (bI (A < 2 * psum (s.1 11 l) 5)) (n9 := 1) [.inl (nI (psum (s.1 11 l) 5))] [] (m_most hc.1.2.1 hA5 (by omega)) dX7_toldComes_143 (gU_V uw_4_36 uw_4_38 us_1_12 uw_1_8 uw_4_39) rfl (by decide +kernel) rfl ⟨by decide, by decide⟩ (mIn (by decide)) rfl rfl rfl (Nat.le_of_ble_eq_true rfl) (fun τ4 hq4 => ?_)
  subst hq4
  refine g_if_ne 150 dX7_toldComes_146 (by decide) (fun h146 => ?_) (fun h146 => ?_)
  · skip
    rw [bI_z] at h146
    exact absurd hno h146
  · skip
    rw [bI_z] at h146
    exact g_vret dX7_toldComes_149 rfl (hq)

set_option maxRecDepth 100000 in
theorem m_tc_y {R A : Nat} (hRA : pRA R A) {cm : Nat} {s : pT} {σ : gSt} (hc : mRel R A cm s σ) (hb : pBu s.1) {l a b m : Nat} (hl : l < 3) (hye : A < 2 * psum (s.1 11 l) 5) (hn : s.2.length + R * A ≤ 400) : gEx mG mX7_toldComes 0 133 [some (.inr 0), some (.inl (nI l)), some (.inl (nI b)), some (.inl (nI a)), some (.inl (nI m)), none, none, none] [] σ (gV (fun τ => mRel R A cm (pAll A b (fun m => pBst (s.1 11 l) (fun c => s.1 12 l (c * 6 + m)) A) (pu s.1 8 l 0 2, s.2) R) τ ∧ mE σ τ)) := by
  obtain ⟨hR1, hR6, hA35⟩ := hRA
  have hA5 : A ≤ 5 := by omega
  have h11 : ∀ a, s.1 11 l a ≤ 1 := fun a => hb 11 l a (by decide) (by decide)
  have hmk := msk_lt h11
  have hpl := psum_le h11 5
  refine g_aload_n dX7_toldComes_133 rfl ?_
  refine g_aload_n dX7_toldComes_134 rfl ?_
  refine g_getr (T := TX7) (N := 26) (Cn := RX7) (ref := "CommitCouncilModel") 20 dX7_toldComes_135 (mIn (by decide)) rfl rfl (fun w h => List.mem_cons_of_mem _ (hU7 w h)) (by decide) (List.mem_cons_of_mem _ uw_3_143) (Or.inl rfl) rfl ?_
  refine g_iload_n dX7_toldComes_138 rfl ?_
  refine g_ialdN (n := 3) (j := l) dX7_toldComes_139 (mIn (by decide)) rfl (by omega) (by omega) ?_
  refine gEx.top (v := .inl (nI (msk (s.1 11 (l))))) (congrArg Sum.inl (mR_tol hc (by omega))) ?_
  refine g_callSi (_) (n9 := 1) [.inl (nI (msk (s.1 11 (l))))] [.inr (0)] (m_bits (by omega)) dX7_toldComes_140 (gU_S uw_4_33 uw_4_34 uw_1_8 uw_4_35) rfl (by decide +kernel) rfl ⟨by decide, by decide⟩ rfl (Nat.le_of_ble_eq_true rfl) (fun τ3 hq3 => ?_)
  subst hq3
  refine gEx.top (v := .inl (nI (psum (s.1 11 l) 5))) (congrArg Sum.inl (congrArg nI (bits_msk h11))) ?_
  refine g_callVi (bI (A < 2 * psum (s.1 11 l) 5)) (n9 := 1) [.inl (nI (psum (s.1 11 l) 5))] [] (m_most hc.1.2.1 hA5 (by omega)) dX7_toldComes_143 (gU_V uw_4_36 uw_4_38 us_1_12 uw_1_8 uw_4_39) rfl (by decide +kernel) rfl ⟨by decide, by decide⟩ (mIn (by decide)) rfl rfl rfl (Nat.le_of_ble_eq_true rfl) (fun τ4 hq4 => ?_)
  subst hq4
  refine g_if_ne 150 dX7_toldComes_146 (by decide) (fun h146 => ?_) (fun h146 => ?_)
  · skip
    rw [bI_z] at h146
    refine g_aload_n dX7_toldComes_150 rfl ?_
    refine g_getr (T := TX7) (N := 26) (Cn := RX7) (ref := "CommitCouncilModel") 17 dX7_toldComes_151 (mIn (by decide)) rfl rfl (fun w h => List.mem_cons_of_mem _ (hU7 w h)) (by decide) (List.mem_cons_of_mem _ uw_3_140) (Or.inl rfl) rfl ?_
    refine g_iload_n dX7_toldComes_154 rfl ?_
    refine g_iconst (nI (2)) dX7_toldComes_155 (by decide) ?_
    refine g_iastN (n := 3) (j := l) dX7_toldComes_156 (mIn (by decide)) rfl (by omega) (by omega) ?_
    refine g_iconst (nI (0)) dX7_toldComes_157 (by decide) ?_
    refine g_istore dX7_toldComes_158 (by decide) ?_
    exact m_vt_l (s := (pu s.1 8 l 0 2, s.2)) ⟨hR1, hR6, hA35⟩ (pBu_pu hb (Or.inr (by decide))) hl hn (R + 1) 0 (by omega) (by omega) _ _ _ _ (by rw [pAll_0]; exact mRel_pha hc) ⟨rfl, rfl⟩
  · skip
    rw [bI_z] at h146
    exact absurd hye (fun q => h146 (fun z => z q))

theorem msk_z {f : Nat → Nat} (h : ∀ c, c < 5 → f c = 0) : msk f = 0 := by
  rw [msk_congr (g := fun _ => 0) h]
  rfl
theorem mRel_vot {R A cm b l : Nat} {γ : pS} {ms : List pMsg} {τ : gSt} {g t f : Nat → Nat} (h : mRel R A cm (pAll A b g (pu γ 8 l 0 2, ms) R) τ) (h15 : ∀ m c, m < R → c < 5 → γ 15 b (m * 5 + c) = 0) : mRel R A cm (pAll A b g (pLay (pu (pLat γ l R t) 8 l 0 2) b R f, ms) R) τ := by
  refine mRel_lay h (fun c h16 h17 h20 => ?_) (fun b' m hm hz => ?_)
  · show pSnd (pLay (pu (pLat γ l R t) 8 l 0 2) b R f) (R * A) c = pSnd (pu γ 8 l 0 2) (R * A) c
    funext y z
    unfold pSnd pu pLay pLat
    simp [h16, h20]
  · show pSnd (pLay (pu (pLat γ l R t) 8 l 0 2) b R f) (R * A) 16 b' m = pSnd (pu γ 8 l 0 2) (R * A) 16 b' m
    by_cases e : b' = b
    · subst e
      exact absurd (msk_z (fun c hc => h15 m c hm hc)) hz
    · rw [show pSnd (pLay (pu (pLat γ l R t) 8 l 0 2) b R f) (R * A) 16 b' m = pLay (pu (pLat γ l R t) 8 l 0 2) b R f 16 b' m from rfl]
      unfold pLay
      rw [if_neg (fun q => e q.2.1)]
      rfl
theorem pAll_congr {A b n : Nat} {f g : Nat → Nat} {s : pT} (h : ∀ m, m < n → pWrd (f m) = pWrd (g m)) : pAll A b f s n = pAll A b g s n := by
  induction n with
  | zero => rw [pAll_0, pAll_0]
  | succ n ih => rw [← pAll_s, ← pAll_s, ih (fun m hm => h m (by omega)), h n (by omega)]
theorem psum_set {f g : Nat → Nat} {a : Nat} (hg : ∀ c, g c = if c = a then 1 else f c) (h0 : f a = 0) : ∀ n, psum g n = psum f n + if a < n then 1 else 0
  | 0 => rfl
  | n + 1 => by
    simp only [psum]
    rw [psum_set hg h0 n, hg n]
    by_cases e : n = a
    · subst e
      rw [if_pos rfl, if_neg (Nat.lt_irrefl _), if_pos (Nat.lt_succ_self _), h0]
    · rw [if_neg e]
      by_cases h : a < n
      · rw [if_pos h, if_pos (by omega)]; omega
      · rw [if_neg h, if_neg (by omega)]; omega
theorem pu_same {α : pS} {c i j v : Nat} (h : α c i j = v) : pu α c i j v = α := by
  funext x y z
  unfold pu
  split
  · rename_i q
    rw [q.1, q.2.1, q.2.2, h]
  · rfl
/-- what TOLD needs -/
def pGo3 (R A : Nat) (α : pS) (x : pMsg) : Prop := (α 8 (x 1) 0 = 1 → ¬ A < 2 * psum (α 11 (x 1)) 5) ∧ (α 8 (x 1) 0 = 1 → x 4 = α 7 (x 1) 0 → α 11 (x 1) (x 2) ≠ 0 → ∀ m, m < R → x (6 + m) = α 12 (x 1) (x 2 * 6 + m)) ∧
  (pKeep α (x 1) (x 4) (x 2) → pEnough A α (x 1) → (∀ m j, m < R → α 15 (x 4) (m * 5 + j) = 0 ∨ 5 ≤ j) ∧ ∀ m, m < R → pWrd (pBst (pu α 11 (x 1) (x 2) 1 11 (x 1)) (fun c => if c = x 2 then x (6 + m) else α 12 (x 1) (c * 6 + m)) A) = pWrd (pMax (α 20 (x 1) m) (x (6 + m))))
theorem pTel_same {α : pS} {l a R : Nat} {t : Nat → Nat} (h : ∀ m, m < R → t m = α 12 l (a * 6 + m)) : pTel α l a R t = α := by
  funext x y z
  unfold pTel
  split
  · rename_i q
    obtain ⟨q1, q2, q3, q4⟩ := q
    subst q1; subst q2
    rw [h _ (by omega)]
    congr 1
    omega
  · rfl
theorem pBst_congr {d e t u : Nat → Nat} : ∀ n, (∀ c, c < n → d c = e c) → (∀ c, c < n → t c = u c) → pBst d t n = pBst e u n
  | 0, _, _ => rfl
  | n + 1, h1, h2 => by
    unfold pBst
    rw [pBst_congr n (fun c hc => h1 c (by omega)) (fun c hc => h2 c (by omega)), h1 n (by omega), h2 n (by omega)]

set_option maxRecDepth 100000 in
/-- a TOLD comes -/
theorem m_toldC {R A : Nat} (hRA : pRA R A) {cm : Nat} {s : pT} {σ : gSt} (hc : mRel R A cm s σ) (hb : pBu s.1) {x : pMsg} (hk : x 0 = 3) (hp : pMk R A x) (hmd : mOne R (σ 2) 0 x) (hgo : pGo3 R A s.1 x) (hroom : s.2.length + pAns R A s.1 x ≤ 400) : gEM mG mX7_toldComes 0 [.inr (0), .inl (nI (x 1))] σ (gV (fun τ => mRel R A cm (pTk R A x s) τ ∧ mE σ τ)) := by
  obtain ⟨hR1, hR6, hA35⟩ := hRA
  have hA5 : A ≤ 5 := by omega
  have hx4 := hp.1
  obtain ⟨hx1, hx2, hx41, hxt⟩ := hp.2.2.2.2.1 hk
  have hb9 : s.1 9 (x 1) 0 ≤ 1536 := hb 9 (x 1) 0 (by decide) (by decide)
  have hb8 : s.1 8 (x 1) 0 ≤ 2 := hb 8 (x 1) 0 (by decide) (by decide)
  have hb7 : s.1 7 (x 1) 0 ≤ 1536 := hb 7 (x 1) 0 (by decide) (by decide)
  have h11 : ∀ a, s.1 11 (x 1) a ≤ 1 := fun a => hb 11 (x 1) a (by decide) (by decide)
  refine gEM_of (by decide +kernel) rfl (Nat.le_of_ble_eq_true rfl) ?_
  refine g_aload_n dX7_toldComes_0 rfl ?_
  refine g_getr (T := TX7) (N := 26) (Cn := RX7) (ref := "CommitCouncilModel") 4 dX7_toldComes_1 (mIn (by decide)) rfl rfl (fun w h => List.mem_cons_of_mem _ (hU7 w h)) (by decide) (List.mem_cons_of_mem _ uw_3_127) (Or.inl rfl) rfl ?_
  refine g_iconst (nI (4)) dX7_toldComes_4 (by decide) ?_
  refine g_ialdN (n := 18) (j := 4) dX7_toldComes_5 (mIn (by decide)) rfl (by omega) (by omega) ?_
  refine gEx.top (v := .inl (nI (x 4))) (congrArg Sum.inl ((hmd.1 4 (by decide)).trans (ptN (by rw [hk]; rfl)))) ?_
  refine g_istore_n dX7_toldComes_6 (by decide) ?_
  refine g_aload_n dX7_toldComes_7 rfl ?_
  refine g_getr (T := TX7) (N := 26) (Cn := RX7) (ref := "CommitCouncilModel") 4 dX7_toldComes_8 (mIn (by decide)) rfl rfl (fun w h => List.mem_cons_of_mem _ (hU7 w h)) (by decide) (List.mem_cons_of_mem _ uw_3_127) (Or.inl rfl) rfl ?_
  refine g_iconst (nI (2)) dX7_toldComes_11 (by decide) ?_
  refine g_ialdN (n := 18) (j := 2) dX7_toldComes_12 (mIn (by decide)) rfl (by omega) (by omega) ?_
  refine gEx.top (v := .inl (nI (x 2))) (congrArg Sum.inl ((hmd.1 2 (by decide)).trans (ptN (by rw [hk]; rfl)))) ?_
  refine g_istore_n dX7_toldComes_13 (by decide) ?_
  refine g_aload_n dX7_toldComes_14 rfl ?_
  refine g_getr (T := TX7) (N := 26) (Cn := RX7) (ref := "CommitCouncilModel") 18 dX7_toldComes_15 (mIn (by decide)) rfl rfl (fun w h => List.mem_cons_of_mem _ (hU7 w h)) (by decide) (List.mem_cons_of_mem _ uw_3_141) (Or.inl rfl) rfl ?_
  refine g_iload_n dX7_toldComes_18 rfl ?_
  refine g_aload_n dX7_toldComes_19 rfl ?_
  refine g_getr (T := TX7) (N := 26) (Cn := RX7) (ref := "CommitCouncilModel") 18 dX7_toldComes_20 (mIn (by decide)) rfl rfl (fun w h => List.mem_cons_of_mem _ (hU7 w h)) (by decide) (List.mem_cons_of_mem _ uw_3_141) (Or.inl rfl) rfl ?_
  refine g_iload_n dX7_toldComes_23 rfl ?_
  refine g_ialdN (n := 3) (j := x 1) dX7_toldComes_24 (mIn (by decide)) rfl (by omega) (by omega) ?_
  refine gEx.top (v := .inl (nI (s.1 9 (x 1) 0))) (congrArg Sum.inl (mR_hig hc (by omega))) ?_
  refine g_iload_n dX7_toldComes_25 rfl ?_
  refine g_max dX7_toldComes_26 (List.mem_cons_of_mem _ uw_4_80) (List.mem_cons_of_mem _ uw_2_200) (List.mem_cons_of_mem _ uw_1_15) (List.mem_cons_of_mem _ uw_2_201) ⟨by decide, Nat.le_of_ble_eq_true rfl⟩ ?_
  refine gEx.top (v := .inl (nI (pMax (s.1 9 (x 1) 0) (x 4)))) (congrArg Sum.inl (max_nI (by omega) (by omega))) ?_
  refine g_iastN (n := 3) (j := x 1) dX7_toldComes_29 (mIn (by decide)) rfl (by omega) (by omega) ?_
  have hc1 := mRel_hig hc (l := x 1) (b := pMax (s.1 9 (x 1) 0) (x 4))
  refine g_aload_n dX7_toldComes_30 rfl ?_
  refine g_getr (T := TX7) (N := 26) (Cn := RX7) (ref := "CommitCouncilModel") 17 dX7_toldComes_31 (mIn (by decide)) rfl rfl (fun w h => List.mem_cons_of_mem _ (hU7 w h)) (by decide) (List.mem_cons_of_mem _ uw_3_140) (Or.inl rfl) rfl ?_
  refine g_iload_n dX7_toldComes_34 rfl ?_
  refine g_ialdN (n := 3) (j := x 1) dX7_toldComes_35 (mIn (by decide)) rfl (by omega) (by omega) ?_
  refine gEx.top (v := .inl (nI (s.1 8 (x 1) 0))) (congrArg Sum.inl (mR_pha hc1 hx1)) ?_
  refine g_iconst (nI (1)) dX7_toldComes_36 (by decide) ?_
  refine g_icmp_ne 50 dX7_toldComes_37 (by decide) (fun h37 => ?_) (fun h37 => ?_)
  · skip
    rw [nI_eq (by omega) (by omega)] at h37
    exact g_vret dX7_toldComes_50 rfl (⟨rfl, by rw [pTk_no ((take3 hk).trans (if_neg (fun q => by obtain ⟨q1, q2, -⟩ := q; omega)))]; exact hc1, rfl, rfl⟩)
  · skip
    rw [nI_eq (by omega) (by omega)] at h37
    refine g_iload_n dX7_toldComes_40 rfl ?_
    refine g_aload_n dX7_toldComes_41 rfl ?_
    refine g_getr (T := TX7) (N := 26) (Cn := RX7) (ref := "CommitCouncilModel") 16 dX7_toldComes_42 (mIn (by decide)) rfl rfl (fun w h => List.mem_cons_of_mem _ (hU7 w h)) (by decide) (List.mem_cons_of_mem _ uw_3_139) (Or.inl rfl) rfl ?_
    refine g_iload_n dX7_toldComes_45 rfl ?_
    refine g_ialdN (n := 3) (j := x 1) dX7_toldComes_46 (mIn (by decide)) rfl (by omega) (by omega) ?_
    refine gEx.top (v := .inl (nI (s.1 7 (x 1) 0))) (congrArg Sum.inl (mR_bal hc1 hx1)) ?_
    refine g_icmp_eq 51 dX7_toldComes_47 (by decide) (fun h47 => ?_) (fun h47 => ?_)
    · skip
      rw [nI_eq (by omega) (by omega)] at h47
      refine g_aload_n dX7_toldComes_51 rfl ?_
      refine g_getr (T := TX7) (N := 26) (Cn := RX7) (ref := "CommitCouncilModel") 20 dX7_toldComes_52 (mIn (by decide)) rfl rfl (fun w h => List.mem_cons_of_mem _ (hU7 w h)) (by decide) (List.mem_cons_of_mem _ uw_3_143) (Or.inl rfl) rfl ?_
      refine g_iload_n dX7_toldComes_55 rfl ?_
      refine g_dup2 dX7_toldComes_56 ?_
      refine g_ialdN (n := 3) (j := x 1) dX7_toldComes_57 (mIn (by decide)) rfl (by omega) (by omega) ?_
      refine gEx.top (v := .inl (nI (msk (s.1 11 (x 1))))) (congrArg Sum.inl (mR_tol hc1 hx1)) ?_
      refine g_iconst (nI (1)) dX7_toldComes_58 (by decide) ?_
      refine g_iload_n dX7_toldComes_59 rfl ?_
      refine g_ishl dX7_toldComes_60 ?_
      refine g_ior dX7_toldComes_61 ?_
      refine gEx.top (v := .inl (nI (msk (pu (pu s.1 9 (x 1) 0 (pMax (s.1 9 (x 1) 0) (x 4)), s.2).1 11 (x 1) (x 2) 1 11 (x 1))))) (congrArg Sum.inl (msk_or h11 (by omega) (fun c _ => by unfold pu; by_cases q : c = x 2 <;> simp [q]))) ?_
      refine g_iastN (n := 3) (j := x 1) dX7_toldComes_62 (mIn (by decide)) rfl (by omega) (by omega) ?_
      refine g_iconst (nI (0)) dX7_toldComes_63 (by decide) ?_
      refine g_istore dX7_toldComes_64 (by decide) ?_
      refine m_td_l (σ := gup (gup σ 12 (x 1) (nI (pMax (s.1 9 (x 1) 0) (x 4)))) 14 (x 1) (nI (msk (pu (pu s.1 9 (x 1) 0 (pMax (s.1 9 (x 1) 0) (x 4)), s.2).1 11 (x 1) (x 2) 1 11 (x 1))))) hR6 hc1.1.1 hx1 (show x 2 < 5 by omega) (fun τ ht => ?_) (R + 1) 0 (by omega) (by omega) _ (tdP_0 _ _ _)
      have hcG : mRel R A cm (pTel (pu (pu s.1 9 (x 1) 0 (pMax (s.1 9 (x 1) 0) (x 4)), s.2).1 11 (x 1) (x 2) 1) (x 1) (x 2) R (fun m => x (6 + m)), s.2) τ := mRel_tel (s := (pu s.1 9 (x 1) 0 (pMax (s.1 9 (x 1) 0) (x 4)), s.2)) hc1 hR6 hk hx1 (show x 2 < 5 by omega) hmd ht
      have hbG : pBu (pTel (pu (pu s.1 9 (x 1) 0 (pMax (s.1 9 (x 1) 0) (x 4))) 11 (x 1) (x 2) 1) (x 1) (x 2) R (fun m => x (6 + m))) := pBu_tel (pBu_pu (pBu_pu hb (Or.inr (pMax_le hb9 hx4))) (Or.inr (by decide))) hxt
      have hET : mE _ τ := ⟨ht.1 2 (by decide) (by decide), congrFun (ht.1 0 (by decide) (by decide)) 0⟩
      obtain ⟨g1, g2, g3⟩ := hgo
      have h8 : s.1 8 (x 1) 0 = 1 := by omega
      have h7 : x 4 = s.1 7 (x 1) 0 := by omega
      by_cases h0 : s.1 11 (x 1) (x 2) = 0
      · have hpk : pKeep s.1 (x 1) (x 4) (x 2) := ⟨h8, h7, h0⟩
        have hps : psum (pTel (pu (pu s.1 9 (x 1) 0 (pMax (s.1 9 (x 1) 0) (x 4))) 11 (x 1) (x 2) 1) (x 1) (x 2) R (fun m => x (6 + m)) 11 (x 1)) 5 = psum (s.1 11 (x 1)) 5 + 1 := by
          rw [pTel_c (by decide)]
          rw [psum_set (f := s.1 11 (x 1)) (a := x 2) (fun c => by unfold pu; by_cases q : c = x 2 <;> simp [q]) h0 5, if_pos (by omega)]
        by_cases hen : pEnough A s.1 (x 1)
        · obtain ⟨g4, g5⟩ := g3 hpk hen
          rw [ans3 hk, if_pos ⟨hpk, hen⟩] at hroom
          refine gEx_post (m_tc_y (s := (pTel (pu (pu s.1 9 (x 1) 0 (pMax (s.1 9 (x 1) 0) (x 4)), s.2).1 11 (x 1) (x 2) 1) (x 1) (x 2) R (fun m => x (6 + m)), s.2)) ⟨hR1, hR6, hA35⟩ hcG hbG hx1 (by rw [hps]; omega) hroom) (fun o τ9 q => ⟨q.1, ?_, q.2.2.1.trans hET.1, q.2.2.2.trans hET.2⟩)
          rw [pTk_all ((take3 hk).trans ((if_pos hpk).trans (if_pos hen)))]
          have q1 := q.2.1
          rw [pAll_congr (g := pLat (pTel (pu (pu s.1 9 (x 1) 0 (pMax (s.1 9 (x 1) 0) (x 4))) 11 (x 1) (x 2) 1) (x 1) (x 2) R (fun m => x (6 + m))) (x 1) R (fun m => x (6 + m)) 20 (x 1)) (fun m hm => ?_)] at q1
          · exact mRel_vot q1 (fun m c hm hc9 => by rcases g4 m c hm with q | q; exact q; omega)
          · have e1 := g5 m hm
            have e2 : pLat (pTel (pu (pu s.1 9 (x 1) 0 (pMax (s.1 9 (x 1) 0) (x 4))) 11 (x 1) (x 2) 1) (x 1) (x 2) R (fun m => x (6 + m))) (x 1) R (fun m => x (6 + m)) 20 (x 1) m = pMax (s.1 20 (x 1) m) (x (6 + m)) := if_pos ⟨rfl, rfl, hm⟩
            rw [e2, ← e1]
            refine congrArg pWrd (pBst_congr A (fun c _ => rfl) (fun c _ => ?_))
            show pTel (pu (pu s.1 9 (x 1) 0 (pMax (s.1 9 (x 1) 0) (x 4))) 11 (x 1) (x 2) 1) (x 1) (x 2) R (fun m => x (6 + m)) 12 (x 1) (c * 6 + m) = if c = x 2 then x (6 + m) else s.1 12 (x 1) (c * 6 + m)
            by_cases e : c = x 2
            · subst e; rw [if_pos rfl, pTel_at hm]
            · rw [if_neg e, pTel_o hR6 (by omega) (fun q => e q.2)]; rfl
        · refine m_tc_n ⟨hR1, hR6, hA35⟩ hcG hbG hx1 (by rw [hps]; omega) ⟨rfl, ?_, hET⟩
          rw [pTk_no ((take3 hk).trans ((if_pos hpk).trans (if_neg hen)))]
          exact mRel_gho hcG (fun c _ h20 _ _ _ => pLat_c h20)
      · have h1 : s.1 11 (x 1) (x 2) = 1 := by have := h11 (x 2); omega
        have eG : pTel (pu (pu s.1 9 (x 1) 0 (pMax (s.1 9 (x 1) 0) (x 4))) 11 (x 1) (x 2) 1) (x 1) (x 2) R (fun m => x (6 + m)) = pu s.1 9 (x 1) 0 (pMax (s.1 9 (x 1) 0) (x 4)) := by
          rw [pu_same (show pu s.1 9 (x 1) 0 (pMax (s.1 9 (x 1) 0) (x 4)) 11 (x 1) (x 2) = 1 from h1)]
          exact pTel_same (fun m hm => g2 h8 h7 h0 m hm)
        refine m_tc_n ⟨hR1, hR6, hA35⟩ hcG hbG hx1 (by rw [eG]; exact g1 h8) ⟨rfl, ?_, hET⟩
        rw [eG] at hcG
        rw [pTk_no ((take3 hk).trans (if_neg (fun q => h0 q.2.2)))]
        exact hcG
    · skip
      rw [nI_eq (by omega) (by omega)] at h47
      exact g_vret dX7_toldComes_50 rfl (⟨rfl, by rw [pTk_no ((take3 hk).trans (if_neg (fun q => by obtain ⟨q1, q2, -⟩ := q; omega)))]; exact hc1, rfl, rfl⟩)
