/-- the state, and the mark of a throw -/
def mP (R A cm : Nat) (s : pT) (k : Nat) (τ : gSt) : Prop := mRel R A cm s τ ∧ τ 0 0 = nI k
theorem mP_thr {R A cm : Nat} {s : pT} {σ : gSt} (h : mRel R A cm s σ) (k : Nat) : mP R A cm s k (gup σ 0 0 (nI k)) := ⟨mRel_thr h _, rfl⟩
theorem mP_E {R A cm k : Nat} {s s' : pT} {σ τ : gSt} (h : mP R A cm s k σ) (h2 : mRel R A cm s' τ) (hE : mE σ τ) : mP R A cm s' k τ := ⟨h2, hE.2.trans h.2⟩

theorem mRel_say {R A cm : Nat} {s : pT} {σ : gSt} (h : mRel R A cm s σ) {m w : Nat} (hm : m < R) (hz : msk (fun a => s.1 15 0 (m * 5 + a)) = 0) : mRel R A cm (pu (pu (pu s.1 3 m 0 w) 4 m 0 w) 16 0 m w, s.2) (gup σ 3 m (nI w)) := by
  refine mRel_to h [3, 9] [3, 4, 16] (by decide) (fun c _ hc _ => gup_ne _ _ (fun q => hc (by rw [q]; decide))) (fun d hd => ?_) (mO_kept h.1 (fun j _ => by rw [gup_ne _ _ (by decide)]) rfl rfl) (mMs_kept h.2.1 (gup_ne _ _ (by decide))) (fun c hc => ?_)
  · rw [pu_c _ (fun q => hd (by rw [q]; decide)), pu_c _ (fun q => hd (by rw [q]; decide)), pu_c _ (fun q => hd (by rw [q]; decide))]
  · simp only [List.mem_cons, List.not_mem_nil, or_false] at hc
    rcases hc with rfl | rfl
    · intro k hk
      have q := mR_how h hk
      by_cases e : k = m
      · subst e
        simp [gup, pu]
      · simp [gup, pu, e, q]
    · intro b k hb hk hn
      rw [gup_ne _ _ (by decide)]
      have hn' : msk (fun a => s.1 15 b (k * 5 + a)) ≠ 0 := hn
      have q := mR_ew h hb hk hn'
      rw [q]
      by_cases e : b = 0 ∧ k = m
      · rw [e.1, e.2] at hn'
        exact absurd hz hn'
      · congr 1
        unfold pu
        rw [if_neg (fun q => e ⟨q.2.1, q.2.2⟩), if_neg (by omega), if_neg (by omega)]

set_option maxRecDepth 100000 in
/-- becomes -/
theorem m_becT {R A : Nat} (hRA : pRA R A) {cm : Nat} {s : pT} {σ : gSt} (hc : mRel R A cm s σ) {m w : Nat} (hm : m < R) (hs : sSay A m w s) (hlen : s.2.length ≤ 400) (hz : msk (fun a => s.1 15 0 (m * 5 + a)) = 0) : gEM mG mX7_becomes 0 [.inr (0), .inl (nI (m)), .inl (nI (w))] σ (gR 1 (mP R A cm (tSay A m w s) 0)) := by
  obtain ⟨hR1, hR6, hA35⟩ := hRA
  have hA5 : A ≤ 5 := by omega
  obtain ⟨hu, hst, hroom⟩ := hs
  refine gEM_of (by decide +kernel) rfl (Nat.le_of_ble_eq_true rfl) ?_
  refine g_aload_n dX7_becomes_0 rfl ?_
  refine g_aload_n dX7_becomes_1 rfl ?_
  refine g_iload_n dX7_becomes_2 rfl ?_
  refine g_callVi (nI (1)) (n9 := 1) [.inl (nI (m))] [.inr (0)] (m_isMT hc.1.1 hm (by omega)) dX7_becomes_3 (gU_V uw_3_214 uw_3_216 us_1_3 uw_1_8 uw_3_217) rfl (by decide +kernel) rfl ⟨by decide, by decide⟩ (mIn (by decide)) rfl rfl rfl (Nat.le_of_ble_eq_true rfl) (fun σ1 hp1 => ?_)
  subst hp1
  refine g_callVi (nI (0)) (n9 := 1) [.inl (nI (1))] [] (m_lacks1) dX7_becomes_6 (gU_V uw_3_218 uw_3_220 us_1_4 uw_1_8 uw_3_221) rfl (by decide +kernel) rfl ⟨by decide, by decide⟩ (mIn (by decide)) rfl rfl rfl (Nat.le_of_ble_eq_true rfl) (fun σ2 hq2 => ?_)
  subst hq2
  have hP := mP_thr hc 0
  have hc1 := hP.1
  refine g_if_eq 14 dX7_becomes_9 (by decide) (fun h9 => ?_) (fun h9 => ?_)
  · skip
    rw [nI_z (by omega)] at h9
    refine g_aload_n dX7_becomes_14 rfl ?_
    refine g_getr (T := TX7) (N := 26) (Cn := RX7) (ref := "CommitCouncilModel") 10 dX7_becomes_15 (mIn (by decide)) rfl rfl (fun w h => List.mem_cons_of_mem _ (hU7 w h)) (by decide) (List.mem_cons_of_mem _ uw_3_133) (Or.inl rfl) rfl ?_
    refine g_iconst (nI (0)) dX7_becomes_18 (by decide) ?_
    have hx1 : 0 < 3 := by omega
    refine g_aald5N (n := 3) (j := 0) dX7_becomes_19 (mIn (by decide)) rfl hx1 (by omega) ?_
    refine g_iload_n dX7_becomes_20 rfl ?_
    refine g_zaldN (n := 6) (j := m) dX7_becomes_21 (mIn (by omega)) (mSh_u hx1) (by omega) (by omega) ?_
    refine gEx.top (v := .inl (nI (s.1 2 0 (m)))) (congrArg Sum.inl (mR_u0 hc1 (by omega))) ?_
    refine g_if_eq 45 dX7_becomes_22 (by decide) (fun h22 => ?_) (fun h22 => ?_)
    · skip
      rw [nI_z (by omega)] at h22
      exfalso; omega
    · skip
      rw [nI_z (by omega)] at h22
      refine g_aload_n dX7_becomes_25 rfl ?_
      refine g_getr (T := TX7) (N := 26) (Cn := RX7) (ref := "CommitCouncilModel") 9 dX7_becomes_26 (mIn (by decide)) rfl rfl (fun w h => List.mem_cons_of_mem _ (hU7 w h)) (by decide) (List.mem_cons_of_mem _ uw_3_132) (Or.inl rfl) rfl ?_
      refine g_iload_n dX7_becomes_29 rfl ?_
      refine g_ialdN (n := 6) (j := m) dX7_becomes_30 (mIn (by decide)) rfl (by omega) (by omega) ?_
      refine gEx.top (v := .inl (nI (s.1 3 (m) 0))) (congrArg Sum.inl (mR_how hc1 (by omega))) ?_
      refine g_if_ne 45 dX7_becomes_31 (by decide) (fun h31 => ?_) (fun h31 => ?_)
      · skip
        rw [nI_z (by omega)] at h31
        exfalso; omega
      · skip
        rw [nI_z (by omega)] at h31
        refine g_aload_n dX7_becomes_34 rfl ?_
        refine g_aload_n dX7_becomes_35 rfl ?_
        refine g_get (T := TX7) (N := 26) (Cn := RX7) (ref := "CommitCouncilModel") 2 dX7_becomes_36 (mIn (by decide)) rfl rfl (fun w h => List.mem_cons_of_mem _ (hU7 w h)) (by decide) (List.mem_cons_of_mem _ uw_3_125) (Or.inl rfl) rfl ?_
        refine gEx.top (v := .inl (nI (A))) (congrArg Sum.inl (hc1.1.2.1)) ?_
        refine g_callVi (bI (s.2.length + (A) ≤ 400)) (n9 := 1) [.inl (nI (A))] [] (m_room hc1.1.2.2.1 (by omega) (by omega)) dX7_becomes_39 (gU_V uw_3_222 uw_3_224 us_1_5 uw_1_8 uw_3_225) rfl (by decide +kernel) rfl ⟨by decide, by decide⟩ (mIn (by decide)) rfl rfl rfl (Nat.le_of_ble_eq_true rfl) (fun σ3 hq3 => ?_)
        subst hq3
        refine g_if_ne 47 dX7_becomes_42 (by decide) (fun h42 => ?_) (fun h42 => ?_)
        · skip
          rw [bI_z] at h42
          refine g_aload_n dX7_becomes_47 rfl ?_
          refine g_getr (T := TX7) (N := 26) (Cn := RX7) (ref := "CommitCouncilModel") 9 dX7_becomes_48 (mIn (by decide)) rfl rfl (fun w h => List.mem_cons_of_mem _ (hU7 w h)) (by decide) (List.mem_cons_of_mem _ uw_3_132) (Or.inl rfl) rfl ?_
          refine g_iload_n dX7_becomes_51 rfl ?_
          refine g_iload_n dX7_becomes_52 rfl ?_
          refine g_iastN (n := 6) (j := m) dX7_becomes_53 (mIn (by decide)) rfl (by omega) (by omega) ?_
          refine g_aload_n dX7_becomes_54 rfl ?_
          refine g_iload_n dX7_becomes_55 rfl ?_
          refine g_iconst (nI (0)) dX7_becomes_56 (by decide) ?_
          refine g_iload_n dX7_becomes_57 rfl ?_
          refine g_callVv (n9 := 3) [.inl (nI (m)), .inl (nI (0)), .inl (nI (w))] [] (m_votes (s := (pu (pu (pu s.1 3 m 0 w) 4 m 0 w) 16 0 m w, s.2)) ⟨hR1, hR6, hA35⟩ (mRel_say hc1 hm hz) (m := m) (b := 0) (w := w) (by show s.2.length + A ≤ 400; omega)) dX7_becomes_58 (gU_V uw_3_226 uw_3_228 us_1_6 uw_1_8 uw_3_229) rfl (by decide +kernel) rfl ⟨by decide, by decide⟩ (mIn (by decide)) rfl rfl rfl (Nat.le_of_ble_eq_true rfl) (fun σ4 hq4 => ?_)
          refine g_iconst (nI (1)) dX7_becomes_61 (by decide) ?_
          exact g_zret dX7_becomes_62 rfl (rfl) (⟨rfl, hq4.1, hq4.2.2⟩)
        · skip
          rw [bI_z] at h42
          exfalso; omega
  · skip
    rw [nI_z (by omega)] at h9
    exfalso; omega

set_option maxRecDepth 100000 in
/-- becomes -/
theorem m_becF {R A : Nat} (hRA : pRA R A) {cm : Nat} {s : pT} {σ : gSt} (hc : mRel R A cm s σ) (hb : pBu s.1) {m w : Nat} (hm : m < R) (hs : ¬ sSay A m w s) (hlen : s.2.length ≤ 400) : gEM mG mX7_becomes 0 [.inr (0), .inl (nI (m)), .inl (nI (w))] σ (gR 0 (mP R A cm s 0)) := by
  obtain ⟨hR1, hR6, hA35⟩ := hRA
  have hA5 : A ≤ 5 := by omega
  have hu1 : s.1 2 0 m ≤ 1 := hb 2 0 m (by decide) (by decide)
  have hs1 : s.1 3 m 0 ≤ 4 := hb 3 m 0 (by decide) (by decide)
  refine gEM_of (by decide +kernel) rfl (Nat.le_of_ble_eq_true rfl) ?_
  refine g_aload_n dX7_becomes_0 rfl ?_
  refine g_aload_n dX7_becomes_1 rfl ?_
  refine g_iload_n dX7_becomes_2 rfl ?_
  refine g_callVi (nI (1)) (n9 := 1) [.inl (nI (m))] [.inr (0)] (m_isMT hc.1.1 hm (by omega)) dX7_becomes_3 (gU_V uw_3_214 uw_3_216 us_1_3 uw_1_8 uw_3_217) rfl (by decide +kernel) rfl ⟨by decide, by decide⟩ (mIn (by decide)) rfl rfl rfl (Nat.le_of_ble_eq_true rfl) (fun σ1 hp1 => ?_)
  subst hp1
  refine g_callVi (nI (0)) (n9 := 1) [.inl (nI (1))] [] (m_lacks1) dX7_becomes_6 (gU_V uw_3_218 uw_3_220 us_1_4 uw_1_8 uw_3_221) rfl (by decide +kernel) rfl ⟨by decide, by decide⟩ (mIn (by decide)) rfl rfl rfl (Nat.le_of_ble_eq_true rfl) (fun σ2 hq2 => ?_)
  subst hq2
  have hP := mP_thr hc 0
  have hc1 := hP.1
  refine g_if_eq 14 dX7_becomes_9 (by decide) (fun h9 => ?_) (fun h9 => ?_)
  · skip
    rw [nI_z (by omega)] at h9
    refine g_aload_n dX7_becomes_14 rfl ?_
    refine g_getr (T := TX7) (N := 26) (Cn := RX7) (ref := "CommitCouncilModel") 10 dX7_becomes_15 (mIn (by decide)) rfl rfl (fun w h => List.mem_cons_of_mem _ (hU7 w h)) (by decide) (List.mem_cons_of_mem _ uw_3_133) (Or.inl rfl) rfl ?_
    refine g_iconst (nI (0)) dX7_becomes_18 (by decide) ?_
    have hx1 : 0 < 3 := by omega
    refine g_aald5N (n := 3) (j := 0) dX7_becomes_19 (mIn (by decide)) rfl hx1 (by omega) ?_
    refine g_iload_n dX7_becomes_20 rfl ?_
    refine g_zaldN (n := 6) (j := m) dX7_becomes_21 (mIn (by omega)) (mSh_u hx1) (by omega) (by omega) ?_
    refine gEx.top (v := .inl (nI (s.1 2 0 (m)))) (congrArg Sum.inl (mR_u0 hc1 (by omega))) ?_
    refine g_if_eq 45 dX7_becomes_22 (by decide) (fun h22 => ?_) (fun h22 => ?_)
    · skip
      rw [nI_z (by omega)] at h22
      refine g_iconst (nI (0)) dX7_becomes_45 (by decide) ?_
      exact g_zret dX7_becomes_46 rfl (rfl) (⟨rfl, hP⟩)
    · skip
      rw [nI_z (by omega)] at h22
      refine g_aload_n dX7_becomes_25 rfl ?_
      refine g_getr (T := TX7) (N := 26) (Cn := RX7) (ref := "CommitCouncilModel") 9 dX7_becomes_26 (mIn (by decide)) rfl rfl (fun w h => List.mem_cons_of_mem _ (hU7 w h)) (by decide) (List.mem_cons_of_mem _ uw_3_132) (Or.inl rfl) rfl ?_
      refine g_iload_n dX7_becomes_29 rfl ?_
      refine g_ialdN (n := 6) (j := m) dX7_becomes_30 (mIn (by decide)) rfl (by omega) (by omega) ?_
      refine gEx.top (v := .inl (nI (s.1 3 (m) 0))) (congrArg Sum.inl (mR_how hc1 (by omega))) ?_
      refine g_if_ne 45 dX7_becomes_31 (by decide) (fun h31 => ?_) (fun h31 => ?_)
      · skip
        rw [nI_z (by omega)] at h31
        refine g_iconst (nI (0)) dX7_becomes_45 (by decide) ?_
        exact g_zret dX7_becomes_46 rfl (rfl) (⟨rfl, hP⟩)
      · skip
        rw [nI_z (by omega)] at h31
        refine g_aload_n dX7_becomes_34 rfl ?_
        refine g_aload_n dX7_becomes_35 rfl ?_
        refine g_get (T := TX7) (N := 26) (Cn := RX7) (ref := "CommitCouncilModel") 2 dX7_becomes_36 (mIn (by decide)) rfl rfl (fun w h => List.mem_cons_of_mem _ (hU7 w h)) (by decide) (List.mem_cons_of_mem _ uw_3_125) (Or.inl rfl) rfl ?_
        refine gEx.top (v := .inl (nI (A))) (congrArg Sum.inl (hc1.1.2.1)) ?_
        refine g_callVi (bI (s.2.length + (A) ≤ 400)) (n9 := 1) [.inl (nI (A))] [] (m_room hc1.1.2.2.1 (by omega) (by omega)) dX7_becomes_39 (gU_V uw_3_222 uw_3_224 us_1_5 uw_1_8 uw_3_225) rfl (by decide +kernel) rfl ⟨by decide, by decide⟩ (mIn (by decide)) rfl rfl rfl (Nat.le_of_ble_eq_true rfl) (fun σ3 hq3 => ?_)
        subst hq3
        refine g_if_ne 47 dX7_becomes_42 (by decide) (fun h42 => ?_) (fun h42 => ?_)
        · skip
          rw [bI_z] at h42
          exact absurd ⟨by omega, by omega, by omega⟩ hs
        · skip
          rw [bI_z] at h42
          refine g_iconst (nI (0)) dX7_becomes_45 (by decide) ?_
          exact g_zret dX7_becomes_46 rfl (rfl) (⟨rfl, hP⟩)
  · skip
    rw [nI_z (by omega)] at h9
    exfalso; omega

set_option maxRecDepth 100000 in
/-- becomes -/
theorem m_becX {R A : Nat} (hRA : pRA R A) {cm : Nat} {s : pT} {σ : gSt} (hc : mRel R A cm s σ) {y : Int32} (hy : y < 0 ∨ nI R ≤ y) {w : Nat} : gEM mG mX7_becomes 0 [.inr (0), .inl (y), .inl (nI (w))] σ (gR 0 (mP R A cm s 1)) := by
  refine gEM_of (by decide +kernel) rfl (Nat.le_of_ble_eq_true rfl) ?_
  refine g_aload_n dX7_becomes_0 rfl ?_
  refine g_aload_n dX7_becomes_1 rfl ?_
  refine g_iload_n dX7_becomes_2 rfl ?_
  refine g_callVi (nI (0)) (n9 := 1) [.inl (y)] [.inr (0)] (m_isMF hc.1.1 hy) dX7_becomes_3 (gU_V uw_3_214 uw_3_216 us_1_3 uw_1_8 uw_3_217) rfl (by decide +kernel) rfl ⟨by decide, by decide⟩ (mIn (by decide)) rfl rfl rfl (Nat.le_of_ble_eq_true rfl) (fun σ1 hp1 => ?_)
  subst hp1
  refine g_callVi (nI (1)) (n9 := 1) [.inl (nI (0))] [] (m_lacks0) dX7_becomes_6 (gU_V uw_3_218 uw_3_220 us_1_4 uw_1_8 uw_3_221) rfl (by decide +kernel) rfl ⟨by decide, by decide⟩ (mIn (by decide)) rfl rfl rfl (Nat.le_of_ble_eq_true rfl) (fun σ2 hq2 => ?_)
  subst hq2
  have hP := mP_thr hc 1
  refine g_if_eq 14 dX7_becomes_9 (by decide) (fun h9 => ?_) (fun h9 => ?_)
  · skip
    rw [nI_z (by omega)] at h9
    exfalso; omega
  · skip
    rw [nI_z (by omega)] at h9
    refine g_iconst (nI (0)) dX7_becomes_12 (by decide) ?_
    exact g_zret dX7_becomes_13 rfl (rfl) (⟨rfl, hP⟩)

set_option maxRecDepth 100000 in
/-- prepare -/
theorem m_prepareT {R A : Nat} (hRA : pRA R A) {cm : Nat} {s : pT} {σ : gSt} (hc : mRel R A cm s σ) {m : Nat} (hm : m < R) (hs : sSay A m 1 s) (hlen : s.2.length ≤ 400) (hz : msk (fun a => s.1 15 0 (m * 5 + a)) = 0) : gEM mG mX7_prepare 0 [.inr (0), .inl (nI (m))] σ (gR 1 (mP R A cm (tSay A m 1 s) 0)) := by
  refine gEM_of (by decide +kernel) rfl (Nat.le_of_ble_eq_true rfl) ?_
  refine g_aload_n dX7_prepare_0 rfl ?_
  refine g_iload_n dX7_prepare_1 rfl ?_
  refine g_iconst (nI (1)) dX7_prepare_2 (by decide) ?_
  refine g_callVi (nI (1)) (n9 := 2) [.inl (nI (m)), .inl (nI (1))] [] (m_becT hRA hc hm hs hlen hz) dX7_prepare_3 (gU_V uw_3_210 uw_3_212 us_1_2 uw_1_8 uw_3_213) rfl (by decide +kernel) rfl ⟨by decide, by decide⟩ (mIn (by decide)) rfl rfl rfl (Nat.le_of_ble_eq_true rfl) (fun σ1 hq1 => ?_)
  exact g_zret dX7_prepare_6 rfl (rfl) (⟨rfl, hq1⟩)

set_option maxRecDepth 100000 in
/-- prepare -/
theorem m_prepareF {R A : Nat} (hRA : pRA R A) {cm : Nat} {s : pT} {σ : gSt} (hc : mRel R A cm s σ) (hb : pBu s.1) {m : Nat} (hm : m < R) (hs : ¬ sSay A m 1 s) (hlen : s.2.length ≤ 400) : gEM mG mX7_prepare 0 [.inr (0), .inl (nI (m))] σ (gR 0 (mP R A cm s 0)) := by
  refine gEM_of (by decide +kernel) rfl (Nat.le_of_ble_eq_true rfl) ?_
  refine g_aload_n dX7_prepare_0 rfl ?_
  refine g_iload_n dX7_prepare_1 rfl ?_
  refine g_iconst (nI (1)) dX7_prepare_2 (by decide) ?_
  refine g_callVi (nI (0)) (n9 := 2) [.inl (nI (m)), .inl (nI (1))] [] (m_becF hRA hc hb hm hs hlen) dX7_prepare_3 (gU_V uw_3_210 uw_3_212 us_1_2 uw_1_8 uw_3_213) rfl (by decide +kernel) rfl ⟨by decide, by decide⟩ (mIn (by decide)) rfl rfl rfl (Nat.le_of_ble_eq_true rfl) (fun σ1 hq1 => ?_)
  exact g_zret dX7_prepare_6 rfl (rfl) (⟨rfl, hq1⟩)

set_option maxRecDepth 100000 in
/-- prepare -/
theorem m_prepareX {R A : Nat} (hRA : pRA R A) {cm : Nat} {s : pT} {σ : gSt} (hc : mRel R A cm s σ) {y : Int32} (hy : y < 0 ∨ nI R ≤ y) : gEM mG mX7_prepare 0 [.inr (0), .inl (y)] σ (gR 0 (mP R A cm s 1)) := by
  refine gEM_of (by decide +kernel) rfl (Nat.le_of_ble_eq_true rfl) ?_
  refine g_aload_n dX7_prepare_0 rfl ?_
  refine g_iload_n dX7_prepare_1 rfl ?_
  refine g_iconst (nI (1)) dX7_prepare_2 (by decide) ?_
  refine g_callVi (nI (0)) (n9 := 2) [.inl (y), .inl (nI (1))] [] (m_becX hRA hc hy) dX7_prepare_3 (gU_V uw_3_210 uw_3_212 us_1_2 uw_1_8 uw_3_213) rfl (by decide +kernel) rfl ⟨by decide, by decide⟩ (mIn (by decide)) rfl rfl rfl (Nat.le_of_ble_eq_true rfl) (fun σ1 hq1 => ?_)
  exact g_zret dX7_prepare_6 rfl (rfl) (⟨rfl, hq1⟩)

set_option maxRecDepth 100000 in
/-- refuse -/
theorem m_refuseT {R A : Nat} (hRA : pRA R A) {cm : Nat} {s : pT} {σ : gSt} (hc : mRel R A cm s σ) {m : Nat} (hm : m < R) (hs : sSay A m 2 s) (hlen : s.2.length ≤ 400) (hz : msk (fun a => s.1 15 0 (m * 5 + a)) = 0) : gEM mG mX7_refuse 0 [.inr (0), .inl (nI (m))] σ (gR 1 (mP R A cm (tSay A m 2 s) 0)) := by
  refine gEM_of (by decide +kernel) rfl (Nat.le_of_ble_eq_true rfl) ?_
  refine g_aload_n dX7_refuse_0 rfl ?_
  refine g_iload_n dX7_refuse_1 rfl ?_
  refine g_iconst (nI (2)) dX7_refuse_2 (by decide) ?_
  refine g_callVi (nI (1)) (n9 := 2) [.inl (nI (m)), .inl (nI (2))] [] (m_becT hRA hc hm hs hlen hz) dX7_refuse_3 (gU_V uw_3_210 uw_3_212 us_1_2 uw_1_8 uw_3_213) rfl (by decide +kernel) rfl ⟨by decide, by decide⟩ (mIn (by decide)) rfl rfl rfl (Nat.le_of_ble_eq_true rfl) (fun σ1 hq1 => ?_)
  exact g_zret dX7_refuse_6 rfl (rfl) (⟨rfl, hq1⟩)

set_option maxRecDepth 100000 in
/-- refuse -/
theorem m_refuseF {R A : Nat} (hRA : pRA R A) {cm : Nat} {s : pT} {σ : gSt} (hc : mRel R A cm s σ) (hb : pBu s.1) {m : Nat} (hm : m < R) (hs : ¬ sSay A m 2 s) (hlen : s.2.length ≤ 400) : gEM mG mX7_refuse 0 [.inr (0), .inl (nI (m))] σ (gR 0 (mP R A cm s 0)) := by
  refine gEM_of (by decide +kernel) rfl (Nat.le_of_ble_eq_true rfl) ?_
  refine g_aload_n dX7_refuse_0 rfl ?_
  refine g_iload_n dX7_refuse_1 rfl ?_
  refine g_iconst (nI (2)) dX7_refuse_2 (by decide) ?_
  refine g_callVi (nI (0)) (n9 := 2) [.inl (nI (m)), .inl (nI (2))] [] (m_becF hRA hc hb hm hs hlen) dX7_refuse_3 (gU_V uw_3_210 uw_3_212 us_1_2 uw_1_8 uw_3_213) rfl (by decide +kernel) rfl ⟨by decide, by decide⟩ (mIn (by decide)) rfl rfl rfl (Nat.le_of_ble_eq_true rfl) (fun σ1 hq1 => ?_)
  exact g_zret dX7_refuse_6 rfl (rfl) (⟨rfl, hq1⟩)

set_option maxRecDepth 100000 in
/-- refuse -/
theorem m_refuseX {R A : Nat} (hRA : pRA R A) {cm : Nat} {s : pT} {σ : gSt} (hc : mRel R A cm s σ) {y : Int32} (hy : y < 0 ∨ nI R ≤ y) : gEM mG mX7_refuse 0 [.inr (0), .inl (y)] σ (gR 0 (mP R A cm s 1)) := by
  refine gEM_of (by decide +kernel) rfl (Nat.le_of_ble_eq_true rfl) ?_
  refine g_aload_n dX7_refuse_0 rfl ?_
  refine g_iload_n dX7_refuse_1 rfl ?_
  refine g_iconst (nI (2)) dX7_refuse_2 (by decide) ?_
  refine g_callVi (nI (0)) (n9 := 2) [.inl (y), .inl (nI (2))] [] (m_becX hRA hc hy) dX7_refuse_3 (gU_V uw_3_210 uw_3_212 us_1_2 uw_1_8 uw_3_213) rfl (by decide +kernel) rfl ⟨by decide, by decide⟩ (mIn (by decide)) rfl rfl rfl (Nat.le_of_ble_eq_true rfl) (fun σ1 hq1 => ?_)
  exact g_zret dX7_refuse_6 rfl (rfl) (⟨rfl, hq1⟩)

set_option maxRecDepth 100000 in
/-- resend -/
theorem m_resendT {R A : Nat} (hRA : pRA R A) {cm : Nat} {s : pT} {σ : gSt} (hc : mRel R A cm s σ) (hb : pBu s.1) {m : Nat} (hm : m < R) (hs : sRes A m s) (hlen : s.2.length ≤ 400) (h34 : s.1 4 m 0 = s.1 3 m 0) : gEM mG mX7_resend 0 [.inr (0), .inl (nI (m))] σ (gR 1 (mP R A cm (tRes A m s) 0)) := by
  obtain ⟨hR1, hR6, hA35⟩ := hRA
  have hA5 : A ≤ 5 := by omega
  have hu1 : s.1 2 0 m ≤ 1 := hb 2 0 m (by decide) (by decide)
  have hs1 : s.1 3 m 0 ≤ 4 := hb 3 m 0 (by decide) (by decide)
  obtain ⟨hu, hst, hroom⟩ := hs
  refine gEM_of (by decide +kernel) rfl (Nat.le_of_ble_eq_true rfl) ?_
  refine g_aload_n dX7_resend_0 rfl ?_
  refine g_aload_n dX7_resend_1 rfl ?_
  refine g_iload_n dX7_resend_2 rfl ?_
  refine g_callVi (nI (1)) (n9 := 1) [.inl (nI (m))] [.inr (0)] (m_isMT hc.1.1 hm (by omega)) dX7_resend_3 (gU_V uw_3_214 uw_3_216 us_1_3 uw_1_8 uw_3_217) rfl (by decide +kernel) rfl ⟨by decide, by decide⟩ (mIn (by decide)) rfl rfl rfl (Nat.le_of_ble_eq_true rfl) (fun σ1 hp1 => ?_)
  subst hp1
  refine g_callVi (nI (0)) (n9 := 1) [.inl (nI (1))] [] (m_lacks1) dX7_resend_6 (gU_V uw_3_218 uw_3_220 us_1_4 uw_1_8 uw_3_221) rfl (by decide +kernel) rfl ⟨by decide, by decide⟩ (mIn (by decide)) rfl rfl rfl (Nat.le_of_ble_eq_true rfl) (fun σ2 hq2 => ?_)
  subst hq2
  have hP := mP_thr hc 0
  have hc1 := hP.1
  refine g_if_eq 14 dX7_resend_9 (by decide) (fun h9 => ?_) (fun h9 => ?_)
  · skip
    rw [nI_z (by omega)] at h9
    refine g_aload_n dX7_resend_14 rfl ?_
    refine g_getr (T := TX7) (N := 26) (Cn := RX7) (ref := "CommitCouncilModel") 10 dX7_resend_15 (mIn (by decide)) rfl rfl (fun w h => List.mem_cons_of_mem _ (hU7 w h)) (by decide) (List.mem_cons_of_mem _ uw_3_133) (Or.inl rfl) rfl ?_
    refine g_iconst (nI (0)) dX7_resend_18 (by decide) ?_
    have hx1 : 0 < 3 := by omega
    refine g_aald5N (n := 3) (j := 0) dX7_resend_19 (mIn (by decide)) rfl hx1 (by omega) ?_
    refine g_iload_n dX7_resend_20 rfl ?_
    refine g_zaldN (n := 6) (j := m) dX7_resend_21 (mIn (by omega)) (mSh_u hx1) (by omega) (by omega) ?_
    refine gEx.top (v := .inl (nI (s.1 2 0 (m)))) (congrArg Sum.inl (mR_u0 hc1 (by omega))) ?_
    refine g_if_eq 56 dX7_resend_22 (by decide) (fun h22 => ?_) (fun h22 => ?_)
    · skip
      rw [nI_z (by omega)] at h22
      exfalso; omega
    · skip
      rw [nI_z (by omega)] at h22
      refine g_aload_n dX7_resend_25 rfl ?_
      refine g_getr (T := TX7) (N := 26) (Cn := RX7) (ref := "CommitCouncilModel") 9 dX7_resend_26 (mIn (by decide)) rfl rfl (fun w h => List.mem_cons_of_mem _ (hU7 w h)) (by decide) (List.mem_cons_of_mem _ uw_3_132) (Or.inl rfl) rfl ?_
      refine g_iload_n dX7_resend_29 rfl ?_
      refine g_ialdN (n := 6) (j := m) dX7_resend_30 (mIn (by decide)) rfl (by omega) (by omega) ?_
      refine gEx.top (v := .inl (nI (s.1 3 (m) 0))) (congrArg Sum.inl (mR_how hc1 (by omega))) ?_
      refine g_iconst (nI (1)) dX7_resend_31 (by decide) ?_
      refine g_icmp_eq 45 dX7_resend_32 (by decide) (fun h32 => ?_) (fun h32 => ?_)
      · skip
        rw [nI_eq (by omega) (by omega)] at h32
        refine g_aload_n dX7_resend_45 rfl ?_
        refine g_aload_n dX7_resend_46 rfl ?_
        refine g_get (T := TX7) (N := 26) (Cn := RX7) (ref := "CommitCouncilModel") 2 dX7_resend_47 (mIn (by decide)) rfl rfl (fun w h => List.mem_cons_of_mem _ (hU7 w h)) (by decide) (List.mem_cons_of_mem _ uw_3_125) (Or.inl rfl) rfl ?_
        refine gEx.top (v := .inl (nI (A))) (congrArg Sum.inl (hc1.1.2.1)) ?_
        refine g_callVi (bI (s.2.length + (A) ≤ 400)) (n9 := 1) [.inl (nI (A))] [] (m_room hc1.1.2.2.1 (by omega) (by omega)) dX7_resend_50 (gU_V uw_3_222 uw_3_224 us_1_5 uw_1_8 uw_3_225) rfl (by decide +kernel) rfl ⟨by decide, by decide⟩ (mIn (by decide)) rfl rfl rfl (Nat.le_of_ble_eq_true rfl) (fun σ3 hq3 => ?_)
        subst hq3
        refine g_if_ne 58 dX7_resend_53 (by decide) (fun h53 => ?_) (fun h53 => ?_)
        · skip
          rw [bI_z] at h53
          refine g_aload_n dX7_resend_58 rfl ?_
          refine g_iload_n dX7_resend_59 rfl ?_
          refine g_iconst (nI (0)) dX7_resend_60 (by decide) ?_
          refine g_aload_n dX7_resend_61 rfl ?_
          refine g_getr (T := TX7) (N := 26) (Cn := RX7) (ref := "CommitCouncilModel") 9 dX7_resend_62 (mIn (by decide)) rfl rfl (fun w h => List.mem_cons_of_mem _ (hU7 w h)) (by decide) (List.mem_cons_of_mem _ uw_3_132) (Or.inl rfl) rfl ?_
          refine g_iload_n dX7_resend_65 rfl ?_
          refine g_ialdN (n := 6) (j := m) dX7_resend_66 (mIn (by decide)) rfl (by omega) (by omega) ?_
          refine gEx.top (v := .inl (nI (s.1 3 (m) 0))) (congrArg Sum.inl (mR_how hc1 (by omega))) ?_
          refine g_callVv (n9 := 3) [.inl (nI (m)), .inl (nI (0)), .inl (nI (s.1 3 (m) 0))] [] (m_votes ⟨hR1, hR6, hA35⟩ hc1 (m := m) (b := 0) (w := s.1 3 m 0) hroom) dX7_resend_67 (gU_V uw_3_226 uw_3_228 us_1_6 uw_1_8 uw_3_229) rfl (by decide +kernel) rfl ⟨by decide, by decide⟩ (mIn (by decide)) rfl rfl rfl (Nat.le_of_ble_eq_true rfl) (fun σ4 hq4 => ?_)
          refine g_iconst (nI (1)) dX7_resend_70 (by decide) ?_
          exact g_zret dX7_resend_71 rfl (rfl) (⟨rfl, by unfold tRes; rw [h34]; exact hq4.1, hq4.2.2⟩)
        · skip
          rw [bI_z] at h53
          exfalso; omega
      · skip
        rw [nI_eq (by omega) (by omega)] at h32
        refine g_aload_n dX7_resend_35 rfl ?_
        refine g_getr (T := TX7) (N := 26) (Cn := RX7) (ref := "CommitCouncilModel") 9 dX7_resend_36 (mIn (by decide)) rfl rfl (fun w h => List.mem_cons_of_mem _ (hU7 w h)) (by decide) (List.mem_cons_of_mem _ uw_3_132) (Or.inl rfl) rfl ?_
        refine g_iload_n dX7_resend_39 rfl ?_
        refine g_ialdN (n := 6) (j := m) dX7_resend_40 (mIn (by decide)) rfl (by omega) (by omega) ?_
        refine gEx.top (v := .inl (nI (s.1 3 (m) 0))) (congrArg Sum.inl (mR_how hc1 (by omega))) ?_
        refine g_iconst (nI (2)) dX7_resend_41 (by decide) ?_
        refine g_icmp_ne 56 dX7_resend_42 (by decide) (fun h42 => ?_) (fun h42 => ?_)
        · skip
          rw [nI_eq (by omega) (by omega)] at h42
          exfalso; omega
        · skip
          rw [nI_eq (by omega) (by omega)] at h42
          refine g_aload_n dX7_resend_45 rfl ?_
          refine g_aload_n dX7_resend_46 rfl ?_
          refine g_get (T := TX7) (N := 26) (Cn := RX7) (ref := "CommitCouncilModel") 2 dX7_resend_47 (mIn (by decide)) rfl rfl (fun w h => List.mem_cons_of_mem _ (hU7 w h)) (by decide) (List.mem_cons_of_mem _ uw_3_125) (Or.inl rfl) rfl ?_
          refine gEx.top (v := .inl (nI (A))) (congrArg Sum.inl (hc1.1.2.1)) ?_
          refine g_callVi (bI (s.2.length + (A) ≤ 400)) (n9 := 1) [.inl (nI (A))] [] (m_room hc1.1.2.2.1 (by omega) (by omega)) dX7_resend_50 (gU_V uw_3_222 uw_3_224 us_1_5 uw_1_8 uw_3_225) rfl (by decide +kernel) rfl ⟨by decide, by decide⟩ (mIn (by decide)) rfl rfl rfl (Nat.le_of_ble_eq_true rfl) (fun σ3 hq3 => ?_)
          subst hq3
          refine g_if_ne 58 dX7_resend_53 (by decide) (fun h53 => ?_) (fun h53 => ?_)
          · skip
            rw [bI_z] at h53
            refine g_aload_n dX7_resend_58 rfl ?_
            refine g_iload_n dX7_resend_59 rfl ?_
            refine g_iconst (nI (0)) dX7_resend_60 (by decide) ?_
            refine g_aload_n dX7_resend_61 rfl ?_
            refine g_getr (T := TX7) (N := 26) (Cn := RX7) (ref := "CommitCouncilModel") 9 dX7_resend_62 (mIn (by decide)) rfl rfl (fun w h => List.mem_cons_of_mem _ (hU7 w h)) (by decide) (List.mem_cons_of_mem _ uw_3_132) (Or.inl rfl) rfl ?_
            refine g_iload_n dX7_resend_65 rfl ?_
            refine g_ialdN (n := 6) (j := m) dX7_resend_66 (mIn (by decide)) rfl (by omega) (by omega) ?_
            refine gEx.top (v := .inl (nI (s.1 3 (m) 0))) (congrArg Sum.inl (mR_how hc1 (by omega))) ?_
            refine g_callVv (n9 := 3) [.inl (nI (m)), .inl (nI (0)), .inl (nI (s.1 3 (m) 0))] [] (m_votes ⟨hR1, hR6, hA35⟩ hc1 (m := m) (b := 0) (w := s.1 3 m 0) hroom) dX7_resend_67 (gU_V uw_3_226 uw_3_228 us_1_6 uw_1_8 uw_3_229) rfl (by decide +kernel) rfl ⟨by decide, by decide⟩ (mIn (by decide)) rfl rfl rfl (Nat.le_of_ble_eq_true rfl) (fun σ4 hq4 => ?_)
            refine g_iconst (nI (1)) dX7_resend_70 (by decide) ?_
            exact g_zret dX7_resend_71 rfl (rfl) (⟨rfl, by unfold tRes; rw [h34]; exact hq4.1, hq4.2.2⟩)
          · skip
            rw [bI_z] at h53
            exfalso; omega
  · skip
    rw [nI_z (by omega)] at h9
    exfalso; omega

set_option maxRecDepth 100000 in
/-- resend -/
theorem m_resendF {R A : Nat} (hRA : pRA R A) {cm : Nat} {s : pT} {σ : gSt} (hc : mRel R A cm s σ) (hb : pBu s.1) {m : Nat} (hm : m < R) (hs : ¬ sRes A m s) (hlen : s.2.length ≤ 400) : gEM mG mX7_resend 0 [.inr (0), .inl (nI (m))] σ (gR 0 (mP R A cm s 0)) := by
  obtain ⟨hR1, hR6, hA35⟩ := hRA
  have hA5 : A ≤ 5 := by omega
  have hu1 : s.1 2 0 m ≤ 1 := hb 2 0 m (by decide) (by decide)
  have hs1 : s.1 3 m 0 ≤ 4 := hb 3 m 0 (by decide) (by decide)
  refine gEM_of (by decide +kernel) rfl (Nat.le_of_ble_eq_true rfl) ?_
  refine g_aload_n dX7_resend_0 rfl ?_
  refine g_aload_n dX7_resend_1 rfl ?_
  refine g_iload_n dX7_resend_2 rfl ?_
  refine g_callVi (nI (1)) (n9 := 1) [.inl (nI (m))] [.inr (0)] (m_isMT hc.1.1 hm (by omega)) dX7_resend_3 (gU_V uw_3_214 uw_3_216 us_1_3 uw_1_8 uw_3_217) rfl (by decide +kernel) rfl ⟨by decide, by decide⟩ (mIn (by decide)) rfl rfl rfl (Nat.le_of_ble_eq_true rfl) (fun σ1 hp1 => ?_)
  subst hp1
  refine g_callVi (nI (0)) (n9 := 1) [.inl (nI (1))] [] (m_lacks1) dX7_resend_6 (gU_V uw_3_218 uw_3_220 us_1_4 uw_1_8 uw_3_221) rfl (by decide +kernel) rfl ⟨by decide, by decide⟩ (mIn (by decide)) rfl rfl rfl (Nat.le_of_ble_eq_true rfl) (fun σ2 hq2 => ?_)
  subst hq2
  have hP := mP_thr hc 0
  have hc1 := hP.1
  refine g_if_eq 14 dX7_resend_9 (by decide) (fun h9 => ?_) (fun h9 => ?_)
  · skip
    rw [nI_z (by omega)] at h9
    refine g_aload_n dX7_resend_14 rfl ?_
    refine g_getr (T := TX7) (N := 26) (Cn := RX7) (ref := "CommitCouncilModel") 10 dX7_resend_15 (mIn (by decide)) rfl rfl (fun w h => List.mem_cons_of_mem _ (hU7 w h)) (by decide) (List.mem_cons_of_mem _ uw_3_133) (Or.inl rfl) rfl ?_
    refine g_iconst (nI (0)) dX7_resend_18 (by decide) ?_
    have hx1 : 0 < 3 := by omega
    refine g_aald5N (n := 3) (j := 0) dX7_resend_19 (mIn (by decide)) rfl hx1 (by omega) ?_
    refine g_iload_n dX7_resend_20 rfl ?_
    refine g_zaldN (n := 6) (j := m) dX7_resend_21 (mIn (by omega)) (mSh_u hx1) (by omega) (by omega) ?_
    refine gEx.top (v := .inl (nI (s.1 2 0 (m)))) (congrArg Sum.inl (mR_u0 hc1 (by omega))) ?_
    refine g_if_eq 56 dX7_resend_22 (by decide) (fun h22 => ?_) (fun h22 => ?_)
    · skip
      rw [nI_z (by omega)] at h22
      refine g_iconst (nI (0)) dX7_resend_56 (by decide) ?_
      exact g_zret dX7_resend_57 rfl (rfl) (⟨rfl, hP⟩)
    · skip
      rw [nI_z (by omega)] at h22
      refine g_aload_n dX7_resend_25 rfl ?_
      refine g_getr (T := TX7) (N := 26) (Cn := RX7) (ref := "CommitCouncilModel") 9 dX7_resend_26 (mIn (by decide)) rfl rfl (fun w h => List.mem_cons_of_mem _ (hU7 w h)) (by decide) (List.mem_cons_of_mem _ uw_3_132) (Or.inl rfl) rfl ?_
      refine g_iload_n dX7_resend_29 rfl ?_
      refine g_ialdN (n := 6) (j := m) dX7_resend_30 (mIn (by decide)) rfl (by omega) (by omega) ?_
      refine gEx.top (v := .inl (nI (s.1 3 (m) 0))) (congrArg Sum.inl (mR_how hc1 (by omega))) ?_
      refine g_iconst (nI (1)) dX7_resend_31 (by decide) ?_
      refine g_icmp_eq 45 dX7_resend_32 (by decide) (fun h32 => ?_) (fun h32 => ?_)
      · skip
        rw [nI_eq (by omega) (by omega)] at h32
        refine g_aload_n dX7_resend_45 rfl ?_
        refine g_aload_n dX7_resend_46 rfl ?_
        refine g_get (T := TX7) (N := 26) (Cn := RX7) (ref := "CommitCouncilModel") 2 dX7_resend_47 (mIn (by decide)) rfl rfl (fun w h => List.mem_cons_of_mem _ (hU7 w h)) (by decide) (List.mem_cons_of_mem _ uw_3_125) (Or.inl rfl) rfl ?_
        refine gEx.top (v := .inl (nI (A))) (congrArg Sum.inl (hc1.1.2.1)) ?_
        refine g_callVi (bI (s.2.length + (A) ≤ 400)) (n9 := 1) [.inl (nI (A))] [] (m_room hc1.1.2.2.1 (by omega) (by omega)) dX7_resend_50 (gU_V uw_3_222 uw_3_224 us_1_5 uw_1_8 uw_3_225) rfl (by decide +kernel) rfl ⟨by decide, by decide⟩ (mIn (by decide)) rfl rfl rfl (Nat.le_of_ble_eq_true rfl) (fun σ3 hq3 => ?_)
        subst hq3
        refine g_if_ne 58 dX7_resend_53 (by decide) (fun h53 => ?_) (fun h53 => ?_)
        · skip
          rw [bI_z] at h53
          exact absurd ⟨by omega, by omega, by omega⟩ hs
        · skip
          rw [bI_z] at h53
          refine g_iconst (nI (0)) dX7_resend_56 (by decide) ?_
          exact g_zret dX7_resend_57 rfl (rfl) (⟨rfl, hP⟩)
      · skip
        rw [nI_eq (by omega) (by omega)] at h32
        refine g_aload_n dX7_resend_35 rfl ?_
        refine g_getr (T := TX7) (N := 26) (Cn := RX7) (ref := "CommitCouncilModel") 9 dX7_resend_36 (mIn (by decide)) rfl rfl (fun w h => List.mem_cons_of_mem _ (hU7 w h)) (by decide) (List.mem_cons_of_mem _ uw_3_132) (Or.inl rfl) rfl ?_
        refine g_iload_n dX7_resend_39 rfl ?_
        refine g_ialdN (n := 6) (j := m) dX7_resend_40 (mIn (by decide)) rfl (by omega) (by omega) ?_
        refine gEx.top (v := .inl (nI (s.1 3 (m) 0))) (congrArg Sum.inl (mR_how hc1 (by omega))) ?_
        refine g_iconst (nI (2)) dX7_resend_41 (by decide) ?_
        refine g_icmp_ne 56 dX7_resend_42 (by decide) (fun h42 => ?_) (fun h42 => ?_)
        · skip
          rw [nI_eq (by omega) (by omega)] at h42
          refine g_iconst (nI (0)) dX7_resend_56 (by decide) ?_
          exact g_zret dX7_resend_57 rfl (rfl) (⟨rfl, hP⟩)
        · skip
          rw [nI_eq (by omega) (by omega)] at h42
          refine g_aload_n dX7_resend_45 rfl ?_
          refine g_aload_n dX7_resend_46 rfl ?_
          refine g_get (T := TX7) (N := 26) (Cn := RX7) (ref := "CommitCouncilModel") 2 dX7_resend_47 (mIn (by decide)) rfl rfl (fun w h => List.mem_cons_of_mem _ (hU7 w h)) (by decide) (List.mem_cons_of_mem _ uw_3_125) (Or.inl rfl) rfl ?_
          refine gEx.top (v := .inl (nI (A))) (congrArg Sum.inl (hc1.1.2.1)) ?_
          refine g_callVi (bI (s.2.length + (A) ≤ 400)) (n9 := 1) [.inl (nI (A))] [] (m_room hc1.1.2.2.1 (by omega) (by omega)) dX7_resend_50 (gU_V uw_3_222 uw_3_224 us_1_5 uw_1_8 uw_3_225) rfl (by decide +kernel) rfl ⟨by decide, by decide⟩ (mIn (by decide)) rfl rfl rfl (Nat.le_of_ble_eq_true rfl) (fun σ3 hq3 => ?_)
          subst hq3
          refine g_if_ne 58 dX7_resend_53 (by decide) (fun h53 => ?_) (fun h53 => ?_)
          · skip
            rw [bI_z] at h53
            exact absurd ⟨by omega, by omega, by omega⟩ hs
          · skip
            rw [bI_z] at h53
            refine g_iconst (nI (0)) dX7_resend_56 (by decide) ?_
            exact g_zret dX7_resend_57 rfl (rfl) (⟨rfl, hP⟩)
  · skip
    rw [nI_z (by omega)] at h9
    exfalso; omega

set_option maxRecDepth 100000 in
/-- resend -/
theorem m_resendX {R A : Nat} (hRA : pRA R A) {cm : Nat} {s : pT} {σ : gSt} (hc : mRel R A cm s σ) {y : Int32} (hy : y < 0 ∨ nI R ≤ y) : gEM mG mX7_resend 0 [.inr (0), .inl (y)] σ (gR 0 (mP R A cm s 1)) := by
  refine gEM_of (by decide +kernel) rfl (Nat.le_of_ble_eq_true rfl) ?_
  refine g_aload_n dX7_resend_0 rfl ?_
  refine g_aload_n dX7_resend_1 rfl ?_
  refine g_iload_n dX7_resend_2 rfl ?_
  refine g_callVi (nI (0)) (n9 := 1) [.inl (y)] [.inr (0)] (m_isMF hc.1.1 hy) dX7_resend_3 (gU_V uw_3_214 uw_3_216 us_1_3 uw_1_8 uw_3_217) rfl (by decide +kernel) rfl ⟨by decide, by decide⟩ (mIn (by decide)) rfl rfl rfl (Nat.le_of_ble_eq_true rfl) (fun σ1 hp1 => ?_)
  subst hp1
  refine g_callVi (nI (1)) (n9 := 1) [.inl (nI (0))] [] (m_lacks0) dX7_resend_6 (gU_V uw_3_218 uw_3_220 us_1_4 uw_1_8 uw_3_221) rfl (by decide +kernel) rfl ⟨by decide, by decide⟩ (mIn (by decide)) rfl rfl rfl (Nat.le_of_ble_eq_true rfl) (fun σ2 hq2 => ?_)
  subst hq2
  have hP := mP_thr hc 1
  refine g_if_eq 14 dX7_resend_9 (by decide) (fun h9 => ?_) (fun h9 => ?_)
  · skip
    rw [nI_z (by omega)] at h9
    exfalso; omega
  · skip
    rw [nI_z (by omega)] at h9
    refine g_iconst (nI (0)) dX7_resend_12 (by decide) ?_
    exact g_zret dX7_resend_13 rfl (rfl) (⟨rfl, hP⟩)

set_option maxRecDepth 100000 in
theorem m_question_l {R A : Nat} (hRA : pRA R A) {cm : Nat} {s : pT} {σ0 : gSt} {m : Nat} (hn : s.2.length + 3 ≤ 400) : ∀ (k i : Nat), i ≤ 3 → 3 - i < k → ∀ σ, mRel R A cm (pAdd s i (fun l => mQue l m)) σ → mE σ0 σ → gEx mG mX7_question 0 37 [some (.inr (0)), some (.inl (nI (m))), some (.inl (nI (i)))] [] σ (gR 1 (fun τ => mRel R A cm (pAdd s 3 (fun l => mQue l m)) τ ∧ mE σ0 τ)) := by
  intro k
  induction k with
  | zero => intro i hi1 hi2; exact absurd hi2 (by omega)
  | succ k ih =>
    intro i hi1 hi2 σ hc hE
    obtain ⟨hR1, hR6, hA35⟩ := hRA
    refine g_iload_n dX7_question_37 rfl ?_
    refine g_iconst (nI (3)) dX7_question_38 (by decide) ?_
    refine g_icmp_ge 58 dX7_question_39 (by decide) (fun h39 => ?_) (fun h39 => ?_)
    · skip
      rw [nI_leI (by omega) (by omega)] at h39
      refine g_iconst (nI (1)) dX7_question_58 (by decide) ?_
      refine g_zret dX7_question_59 rfl (rfl) ?_
      have e : i = 3 := by omega
      subst e
      exact ⟨rfl, hc, hE⟩
    · skip
      rw [nI_leI (by omega) (by omega)] at h39
      refine g_aload_n dX7_question_42 rfl ?_
      refine g_iconst (nI (5)) dX7_question_43 (by decide) ?_
      refine g_iload_n dX7_question_44 rfl ?_
      refine g_iload_n dX7_question_45 rfl ?_
      refine g_iconst ((-1)) dX7_question_46 (by decide) ?_
      refine g_iconst ((-1)) dX7_question_47 (by decide) ?_
      refine g_iconst ((-1)) dX7_question_48 (by decide) ?_
      refine g_callVv (n9 := 6) [.inl (nI (5)), .inl (nI (i)), .inl (nI (m)), .inl ((-1)), .inl ((-1)), .inl ((-1))] [] (m_sends hc.1.2.2.1 (by rw [pAdd_len]; omega)) dX7_question_49 (gU_V uw_3_230 uw_3_232 us_1_7 uw_1_8 uw_3_233) rfl (by decide +kernel) rfl ⟨by decide, by decide⟩ (mIn (by decide)) rfl rfl rfl (Nat.le_of_ble_eq_true rfl) (fun σ1 hp1 => ?_)
      refine g_iinc (nI (i + 1)) dX7_question_52 rfl (show nI (i) + nI 1 = _ from nI_add _ _) (by decide) ?_
      refine g_goto 37 dX7_question_55 (by decide) ?_
      subst hp1
      exact ih (i + 1) (by omega) (by omega) _ (by rw [← pAdd_s]; exact mRel_snd hc hR6 ((fun l => mQue l m) i) (by simp [mVote, mDec, mQue, mAsk, mVoted]) rfl rfl rfl rfl rfl rfl) (mE_tr hE sndM_E)

set_option maxRecDepth 100000 in
/-- question -/
theorem m_questionT {R A : Nat} (hRA : pRA R A) {cm : Nat} {s : pT} {σ : gSt} (hc : mRel R A cm s σ) {m : Nat} (hm : m < R) (hs : sQue m s) (hlen : s.2.length ≤ 400) : gEM mG mX7_question 0 [.inr (0), .inl (nI (m))] σ (gR 1 (mP R A cm (tQue m s) 0)) := by
  obtain ⟨hR1, hR6, hA35⟩ := hRA
  have hA5 : A ≤ 5 := by omega
  obtain ⟨hu, hroom⟩ := hs
  refine gEM_of (by decide +kernel) rfl (Nat.le_of_ble_eq_true rfl) ?_
  refine g_aload_n dX7_question_0 rfl ?_
  refine g_aload_n dX7_question_1 rfl ?_
  refine g_iload_n dX7_question_2 rfl ?_
  refine g_callVi (nI (1)) (n9 := 1) [.inl (nI (m))] [.inr (0)] (m_isMT hc.1.1 hm (by omega)) dX7_question_3 (gU_V uw_3_214 uw_3_216 us_1_3 uw_1_8 uw_3_217) rfl (by decide +kernel) rfl ⟨by decide, by decide⟩ (mIn (by decide)) rfl rfl rfl (Nat.le_of_ble_eq_true rfl) (fun σ1 hp1 => ?_)
  subst hp1
  refine g_callVi (nI (0)) (n9 := 1) [.inl (nI (1))] [] (m_lacks1) dX7_question_6 (gU_V uw_3_218 uw_3_220 us_1_4 uw_1_8 uw_3_221) rfl (by decide +kernel) rfl ⟨by decide, by decide⟩ (mIn (by decide)) rfl rfl rfl (Nat.le_of_ble_eq_true rfl) (fun σ2 hq2 => ?_)
  subst hq2
  have hP := mP_thr hc 0
  have hc1 := hP.1
  refine g_if_eq 14 dX7_question_9 (by decide) (fun h9 => ?_) (fun h9 => ?_)
  · skip
    rw [nI_z (by omega)] at h9
    refine g_aload_n dX7_question_14 rfl ?_
    refine g_getr (T := TX7) (N := 26) (Cn := RX7) (ref := "CommitCouncilModel") 10 dX7_question_15 (mIn (by decide)) rfl rfl (fun w h => List.mem_cons_of_mem _ (hU7 w h)) (by decide) (List.mem_cons_of_mem _ uw_3_133) (Or.inl rfl) rfl ?_
    refine g_iconst (nI (0)) dX7_question_18 (by decide) ?_
    have hx1 : 0 < 3 := by omega
    refine g_aald5N (n := 3) (j := 0) dX7_question_19 (mIn (by decide)) rfl hx1 (by omega) ?_
    refine g_iload_n dX7_question_20 rfl ?_
    refine g_zaldN (n := 6) (j := m) dX7_question_21 (mIn (by omega)) (mSh_u hx1) (by omega) (by omega) ?_
    refine gEx.top (v := .inl (nI (s.1 2 0 (m)))) (congrArg Sum.inl (mR_u0 hc1 (by omega))) ?_
    refine g_if_eq 33 dX7_question_22 (by decide) (fun h22 => ?_) (fun h22 => ?_)
    · skip
      rw [nI_z (by omega)] at h22
      exfalso; omega
    · skip
      rw [nI_z (by omega)] at h22
      refine g_aload_n dX7_question_25 rfl ?_
      refine g_iconst (nI (3)) dX7_question_26 (by decide) ?_
      refine g_callVi (bI (s.2.length + (3) ≤ 400)) (n9 := 1) [.inl (nI (3))] [] (m_room hc1.1.2.2.1 (by omega) (by omega)) dX7_question_27 (gU_V uw_3_222 uw_3_224 us_1_5 uw_1_8 uw_3_225) rfl (by decide +kernel) rfl ⟨by decide, by decide⟩ (mIn (by decide)) rfl rfl rfl (Nat.le_of_ble_eq_true rfl) (fun σ3 hq3 => ?_)
      subst hq3
      refine g_if_ne 35 dX7_question_30 (by decide) (fun h30 => ?_) (fun h30 => ?_)
      · skip
        rw [bI_z] at h30
        refine g_iconst (nI (0)) dX7_question_35 (by decide) ?_
        refine g_istore_n dX7_question_36 (by decide) ?_
        exact gEx_post (m_question_l ⟨hR1, hR6, hA35⟩ hroom 4 0 (by decide) (by decide) _ (by rw [pAdd_0]; exact hc1) mE_rf) (fun o τ q => ⟨q.1, q.2.1, q.2.2.2⟩)
      · skip
        rw [bI_z] at h30
        exfalso; omega
  · skip
    rw [nI_z (by omega)] at h9
    exfalso; omega

set_option maxRecDepth 100000 in
/-- question -/
theorem m_questionF {R A : Nat} (hRA : pRA R A) {cm : Nat} {s : pT} {σ : gSt} (hc : mRel R A cm s σ) (hb : pBu s.1) {m : Nat} (hm : m < R) (hs : ¬ sQue m s) (hlen : s.2.length ≤ 400) : gEM mG mX7_question 0 [.inr (0), .inl (nI (m))] σ (gR 0 (mP R A cm s 0)) := by
  obtain ⟨hR1, hR6, hA35⟩ := hRA
  have hA5 : A ≤ 5 := by omega
  have hu1 : s.1 2 0 m ≤ 1 := hb 2 0 m (by decide) (by decide)
  have hs1 : s.1 3 m 0 ≤ 4 := hb 3 m 0 (by decide) (by decide)
  refine gEM_of (by decide +kernel) rfl (Nat.le_of_ble_eq_true rfl) ?_
  refine g_aload_n dX7_question_0 rfl ?_
  refine g_aload_n dX7_question_1 rfl ?_
  refine g_iload_n dX7_question_2 rfl ?_
  refine g_callVi (nI (1)) (n9 := 1) [.inl (nI (m))] [.inr (0)] (m_isMT hc.1.1 hm (by omega)) dX7_question_3 (gU_V uw_3_214 uw_3_216 us_1_3 uw_1_8 uw_3_217) rfl (by decide +kernel) rfl ⟨by decide, by decide⟩ (mIn (by decide)) rfl rfl rfl (Nat.le_of_ble_eq_true rfl) (fun σ1 hp1 => ?_)
  subst hp1
  refine g_callVi (nI (0)) (n9 := 1) [.inl (nI (1))] [] (m_lacks1) dX7_question_6 (gU_V uw_3_218 uw_3_220 us_1_4 uw_1_8 uw_3_221) rfl (by decide +kernel) rfl ⟨by decide, by decide⟩ (mIn (by decide)) rfl rfl rfl (Nat.le_of_ble_eq_true rfl) (fun σ2 hq2 => ?_)
  subst hq2
  have hP := mP_thr hc 0
  have hc1 := hP.1
  refine g_if_eq 14 dX7_question_9 (by decide) (fun h9 => ?_) (fun h9 => ?_)
  · skip
    rw [nI_z (by omega)] at h9
    refine g_aload_n dX7_question_14 rfl ?_
    refine g_getr (T := TX7) (N := 26) (Cn := RX7) (ref := "CommitCouncilModel") 10 dX7_question_15 (mIn (by decide)) rfl rfl (fun w h => List.mem_cons_of_mem _ (hU7 w h)) (by decide) (List.mem_cons_of_mem _ uw_3_133) (Or.inl rfl) rfl ?_
    refine g_iconst (nI (0)) dX7_question_18 (by decide) ?_
    have hx1 : 0 < 3 := by omega
    refine g_aald5N (n := 3) (j := 0) dX7_question_19 (mIn (by decide)) rfl hx1 (by omega) ?_
    refine g_iload_n dX7_question_20 rfl ?_
    refine g_zaldN (n := 6) (j := m) dX7_question_21 (mIn (by omega)) (mSh_u hx1) (by omega) (by omega) ?_
    refine gEx.top (v := .inl (nI (s.1 2 0 (m)))) (congrArg Sum.inl (mR_u0 hc1 (by omega))) ?_
    refine g_if_eq 33 dX7_question_22 (by decide) (fun h22 => ?_) (fun h22 => ?_)
    · skip
      rw [nI_z (by omega)] at h22
      refine g_iconst (nI (0)) dX7_question_33 (by decide) ?_
      exact g_zret dX7_question_34 rfl (rfl) (⟨rfl, hP⟩)
    · skip
      rw [nI_z (by omega)] at h22
      refine g_aload_n dX7_question_25 rfl ?_
      refine g_iconst (nI (3)) dX7_question_26 (by decide) ?_
      refine g_callVi (bI (s.2.length + (3) ≤ 400)) (n9 := 1) [.inl (nI (3))] [] (m_room hc1.1.2.2.1 (by omega) (by omega)) dX7_question_27 (gU_V uw_3_222 uw_3_224 us_1_5 uw_1_8 uw_3_225) rfl (by decide +kernel) rfl ⟨by decide, by decide⟩ (mIn (by decide)) rfl rfl rfl (Nat.le_of_ble_eq_true rfl) (fun σ3 hq3 => ?_)
      subst hq3
      refine g_if_ne 35 dX7_question_30 (by decide) (fun h30 => ?_) (fun h30 => ?_)
      · skip
        rw [bI_z] at h30
        exact absurd ⟨by omega, by omega⟩ hs
      · skip
        rw [bI_z] at h30
        refine g_iconst (nI (0)) dX7_question_33 (by decide) ?_
        exact g_zret dX7_question_34 rfl (rfl) (⟨rfl, hP⟩)
  · skip
    rw [nI_z (by omega)] at h9
    exfalso; omega

set_option maxRecDepth 100000 in
/-- question -/
theorem m_questionX {R A : Nat} (hRA : pRA R A) {cm : Nat} {s : pT} {σ : gSt} (hc : mRel R A cm s σ) {y : Int32} (hy : y < 0 ∨ nI R ≤ y) : gEM mG mX7_question 0 [.inr (0), .inl (y)] σ (gR 0 (mP R A cm s 1)) := by
  refine gEM_of (by decide +kernel) rfl (Nat.le_of_ble_eq_true rfl) ?_
  refine g_aload_n dX7_question_0 rfl ?_
  refine g_aload_n dX7_question_1 rfl ?_
  refine g_iload_n dX7_question_2 rfl ?_
  refine g_callVi (nI (0)) (n9 := 1) [.inl (y)] [.inr (0)] (m_isMF hc.1.1 hy) dX7_question_3 (gU_V uw_3_214 uw_3_216 us_1_3 uw_1_8 uw_3_217) rfl (by decide +kernel) rfl ⟨by decide, by decide⟩ (mIn (by decide)) rfl rfl rfl (Nat.le_of_ble_eq_true rfl) (fun σ1 hp1 => ?_)
  subst hp1
  refine g_callVi (nI (1)) (n9 := 1) [.inl (nI (0))] [] (m_lacks0) dX7_question_6 (gU_V uw_3_218 uw_3_220 us_1_4 uw_1_8 uw_3_221) rfl (by decide +kernel) rfl ⟨by decide, by decide⟩ (mIn (by decide)) rfl rfl rfl (Nat.le_of_ble_eq_true rfl) (fun σ2 hq2 => ?_)
  subst hq2
  have hP := mP_thr hc 1
  refine g_if_eq 14 dX7_question_9 (by decide) (fun h9 => ?_) (fun h9 => ?_)
  · skip
    rw [nI_z (by omega)] at h9
    exfalso; omega
  · skip
    rw [nI_z (by omega)] at h9
    refine g_iconst (nI (0)) dX7_question_12 (by decide) ?_
    exact g_zret dX7_question_13 rfl (rfl) (⟨rfl, hP⟩)

theorem mRel_beg {R A cm : Nat} {s : pT} {σ : gSt} (h : mRel R A cm s σ) {l b : Nat} (hl : l < 3) : mRel R A cm (pu (pClr (pClr (pu (pu (pu s.1 7 l 0 b) 9 l 0 b) 8 l 0 1) 11 l) 20 l) 1 2 0 (s.1 1 2 0 + 1), s.2) (gup (gup (gup (gup (gup σ 10 l (nI b)) 12 l (nI b)) 11 l (nI 1)) 14 l (nI 0)) 0 8 (nI (s.1 1 2 0 + 1))) := by
  refine mRel_to h [10, 11, 12, 14, 15, 16] [7, 9, 8, 11, 20, 1] (by decide) (fun c _ hc h3 => ?_) (fun d hd => ?_) ?_ (mMs_kept h.2.1 ?_) (fun c hc => ?_)
  · simp only [List.mem_cons, List.not_mem_nil, or_false, not_or] at hc
    rw [gup_ne _ _ (by omega), gup_ne _ _ (by omega), gup_ne _ _ (by omega), gup_ne _ _ (by omega), gup_ne _ _ (by omega)]
  · simp only [List.mem_cons, List.not_mem_nil, or_false, not_or] at hd
    rw [pu_c _ (by omega), pClr_c _ (by omega), pClr_c _ (by omega), pu_c _ (by omega), pu_c _ (by omega), pu_c _ (by omega)]
  · obtain ⟨q1, q2, q3, q4, q5, q6⟩ := h.1
    refine ⟨q1, q2, q3, q4, q5, rfl⟩
  · rw [gup_ne _ _ (by decide), gup_ne _ _ (by decide), gup_ne _ _ (by decide), gup_ne _ _ (by decide), gup_ne _ _ (by decide)]
  · simp only [List.mem_cons, List.not_mem_nil, or_false] at hc
    rcases hc with rfl | rfl | rfl | rfl | rfl | rfl
    · intro k hk
      have q := mR_bal h hk
      by_cases e : k = l
      · subst e; simp [gup, pu, pClr]
      · simp [gup, pu, pClr, e, q]
    · intro k hk
      have q := mR_pha h hk
      by_cases e : k = l
      · subst e; simp [gup, pu, pClr]
      · simp [gup, pu, pClr, e, q]
    · intro k hk
      have q := mR_hig h hk
      by_cases e : k = l
      · subst e; simp [gup, pu, pClr]
      · simp [gup, pu, pClr, e, q]
    · intro k hk
      have q := mR_tol h hk
      by_cases e : k = l
      · subst e; simp [gup, pu, pClr, msk]
      · simp [gup, pu, pClr, e, q, msk]
    · intro k a m hk ha hm hn
      by_cases e : k = l
      · subst e; exact absurd (show _ = 0 by simp [pu, pClr]) hn
      · have hn' : s.1 11 k a ≠ 0 := by simpa [pu, pClr, e] using hn
        have q := mR_tB h hk ha hm hn'
        rw [gup_ne _ _ (by decide), gup_ne _ _ (by decide), gup_ne _ _ (by decide), gup_ne _ _ (by decide), gup_ne _ _ (by decide), q]
        simp [pu, pClr]
    · intro k a m hk ha hm hn
      by_cases e : k = l
      · subst e; exact absurd (show _ = 0 by simp [pu, pClr]) hn
      · have hn' : s.1 11 k a ≠ 0 := by simpa [pu, pClr, e] using hn
        have q := mR_tW h hk ha hm hn'
        rw [gup_ne _ _ (by decide), gup_ne _ _ (by decide), gup_ne _ _ (by decide), gup_ne _ _ (by decide), gup_ne _ _ (by decide), q]
        simp [pu, pClr]

set_option maxRecDepth 100000 in
theorem m_begin_d {R A : Nat} (hRA : pRA R A) {cm : Nat} {s : pT} {σ0 : gSt} {l b : Nat} (hl : l < 3) (hd : 0 < s.1 10 l 0) (hd2 : s.1 10 l 0 ≤ 2) (hn : s.2.length + R ≤ 400) : ∀ (k i : Nat), i ≤ R → R - i < k → ∀ σ, mRel R A cm (pAdd s i (fun m => mDec m (s.1 10 l 0))) σ → mE σ0 σ → gEx mG mX7_begin 0 141 [some (.inr (0)), some (.inl (nI (l))), some (.inl (nI (b))), some (.inl (nI (i)))] [] σ (gR (nI b) (fun τ => mRel R A cm (pAdd s R (fun m => mDec m (s.1 10 l 0))) τ ∧ mE σ0 τ)) := by
  intro k
  induction k with
  | zero => intro i hi1 hi2; exact absurd hi2 (by omega)
  | succ k ih =>
    intro i hi1 hi2 σ hc hE
    obtain ⟨hR1, hR6, hA35⟩ := hRA
    refine g_iload_n dX7_begin_141 rfl ?_
    refine g_aload_n dX7_begin_142 rfl ?_
    refine g_get (T := TX7) (N := 26) (Cn := RX7) (ref := "CommitCouncilModel") 1 dX7_begin_143 (mIn (by decide)) rfl rfl (fun w h => List.mem_cons_of_mem _ (hU7 w h)) (by decide) (List.mem_cons_of_mem _ uw_3_124) (Or.inl rfl) rfl ?_
    refine gEx.top (v := .inl (nI (R))) (congrArg Sum.inl (hc.1.1)) ?_
    refine g_icmp_ge 179 dX7_begin_146 (by decide) (fun h146 => ?_) (fun h146 => ?_)
    · skip
      rw [nI_leI (by omega) (by omega)] at h146
      refine g_iload_n dX7_begin_179 rfl ?_
      refine g_iret dX7_begin_180 rfl ?_
      have e : i = R := by omega
      subst e
      exact ⟨rfl, hc, hE⟩
    · skip
      rw [nI_leI (by omega) (by omega)] at h146
      refine g_aload_n dX7_begin_149 rfl ?_
      refine g_getr (T := TX7) (N := 26) (Cn := RX7) (ref := "CommitCouncilModel") 19 dX7_begin_150 (mIn (by decide)) rfl rfl (fun w h => List.mem_cons_of_mem _ (hU7 w h)) (by decide) (List.mem_cons_of_mem _ uw_3_142) (Or.inl rfl) rfl ?_
      refine g_iload_n dX7_begin_153 rfl ?_
      refine g_ialdN (n := 3) (j := l) dX7_begin_154 (mIn (by decide)) rfl (by omega) (by omega) ?_
      refine gEx.top (v := .inl (nI (s.1 10 l 0))) (congrArg Sum.inl (mR_dec hc hl)) ?_
      refine g_if_le 179 dX7_begin_155 (by decide) (fun h155 => ?_) (fun h155 => ?_)
      · skip
        rw [nI_np (by omega)] at h155
        exfalso; omega
      · skip
        rw [nI_np (by omega)] at h155
        refine g_aload_n dX7_begin_158 rfl ?_
        refine g_iconst (nI (4)) dX7_begin_159 (by decide) ?_
        refine g_iload_n dX7_begin_160 rfl ?_
        refine g_iconst ((-1)) dX7_begin_161 (by decide) ?_
        refine g_iconst ((-1)) dX7_begin_162 (by decide) ?_
        refine g_iconst ((-1)) dX7_begin_163 (by decide) ?_
        refine g_aload_n dX7_begin_164 rfl ?_
        refine g_getr (T := TX7) (N := 26) (Cn := RX7) (ref := "CommitCouncilModel") 19 dX7_begin_165 (mIn (by decide)) rfl rfl (fun w h => List.mem_cons_of_mem _ (hU7 w h)) (by decide) (List.mem_cons_of_mem _ uw_3_142) (Or.inl rfl) rfl ?_
        refine g_iload_n dX7_begin_168 rfl ?_
        refine g_ialdN (n := 3) (j := l) dX7_begin_169 (mIn (by decide)) rfl (by omega) (by omega) ?_
        refine gEx.top (v := .inl (nI (s.1 10 l 0))) (congrArg Sum.inl (mR_dec hc hl)) ?_
        refine g_callVv (n9 := 6) [.inl (nI (4)), .inl (nI (i)), .inl ((-1)), .inl ((-1)), .inl ((-1)), .inl (nI (s.1 10 l 0))] [] (m_sends hc.1.2.2.1 (by rw [pAdd_len]; omega)) dX7_begin_170 (gU_V uw_3_230 uw_3_232 us_1_7 uw_1_8 uw_3_233) rfl (by decide +kernel) rfl ⟨by decide, by decide⟩ (mIn (by decide)) rfl rfl rfl (Nat.le_of_ble_eq_true rfl) (fun σ1 hp1 => ?_)
        refine g_iinc (nI (i + 1)) dX7_begin_173 rfl (show nI (i) + nI 1 = _ from nI_add _ _) (by decide) ?_
        refine g_goto 141 dX7_begin_176 (by decide) ?_
        subst hp1
        exact ih (i + 1) (by omega) (by omega) _ (by rw [← pAdd_s]; exact mRel_snd hc hR6 ((fun m => mDec m (s.1 10 l 0)) i) (by simp [mVote, mDec, mQue, mAsk, mVoted]) rfl rfl rfl rfl rfl rfl) (mE_tr hE sndM_E)

set_option maxRecDepth 100000 in
theorem m_begin_n {R A : Nat} {cm : Nat} {s : pT} {σ : gSt} (hc : mRel R A cm s σ) (hR : R ≤ 6) {l b : Nat} (hl : l < 3) (hd : s.1 10 l 0 = 0) {Q : gOut → gSt → Prop} (hq : Q (.inl (some (.inl (nI b)))) σ) : gEx mG mX7_begin 0 141 [some (.inr 0), some (.inl (nI l)), some (.inl (nI b)), some (.inl (nI 0))] [] σ Q := by
  refine g_iload_n dX7_begin_141 rfl ?_
  refine g_aload_n dX7_begin_142 rfl ?_
  refine g_get (T := TX7) (N := 26) (Cn := RX7) (ref := "CommitCouncilModel") 1 dX7_begin_143 (mIn (by decide)) rfl rfl (fun w h => List.mem_cons_of_mem _ (hU7 w h)) (by decide) (List.mem_cons_of_mem _ uw_3_124) (Or.inl rfl) rfl ?_
  refine gEx.top (v := .inl (nI (R))) (congrArg Sum.inl (hc.1.1)) ?_
  refine g_icmp_ge 179 dX7_begin_146 (by decide) (fun h146 => ?_) (fun h146 => ?_)
  · skip
    rw [nI_leI (by omega) (by omega)] at h146
    refine g_iload_n dX7_begin_179 rfl ?_
    exact g_iret dX7_begin_180 rfl (hq)
  · skip
    rw [nI_leI (by omega) (by omega)] at h146
    refine g_aload_n dX7_begin_149 rfl ?_
    refine g_getr (T := TX7) (N := 26) (Cn := RX7) (ref := "CommitCouncilModel") 19 dX7_begin_150 (mIn (by decide)) rfl rfl (fun w h => List.mem_cons_of_mem _ (hU7 w h)) (by decide) (List.mem_cons_of_mem _ uw_3_142) (Or.inl rfl) rfl ?_
    refine g_iload_n dX7_begin_153 rfl ?_
    refine g_ialdN (n := 3) (j := l) dX7_begin_154 (mIn (by decide)) rfl (by omega) (by omega) ?_
    refine gEx.top (v := .inl (nI (s.1 10 (l) 0))) (congrArg Sum.inl (mR_dec hc (by omega))) ?_
    refine g_if_le 179 dX7_begin_155 (by decide) (fun h155 => ?_) (fun h155 => ?_)
    · skip
      rw [nI_np (by omega)] at h155
      refine g_iload_n dX7_begin_179 rfl ?_
      exact g_iret dX7_begin_180 rfl (hq)
    · skip
      rw [nI_np (by omega)] at h155
      exfalso; omega

set_option maxRecDepth 100000 in
theorem m_begin_a {R A : Nat} (hRA : pRA R A) {cm : Nat} {s : pT} {σ0 : gSt} {l b : Nat} (hl : l < 3) (hd2 : s.1 10 l 0 ≤ 2) (hn : s.2.length + A + (if s.1 10 l 0 = 0 then 0 else R) ≤ 400) : ∀ (k i : Nat), i ≤ A → A - i < k → ∀ σ, mRel R A cm (pAdd s i (fun a => mAsk a b)) σ → mE σ0 σ → gEx mG mX7_begin 0 115 [some (.inr (0)), some (.inl (nI (l))), some (.inl (nI (b))), some (.inl (nI (i)))] [] σ (gR (nI b) (fun τ => mRel R A cm (if s.1 10 l 0 = 0 then (pAdd s A (fun a => mAsk a b)) else pAdd (pAdd s A (fun a => mAsk a b)) R (fun m => mDec m (s.1 10 l 0))) τ ∧ mE σ0 τ)) := by
  intro k
  induction k with
  | zero => intro i hi1 hi2; exact absurd hi2 (by omega)
  | succ k ih =>
    intro i hi1 hi2 σ hc hE
    obtain ⟨hR1, hR6, hA35⟩ := hRA
    refine g_iload_n dX7_begin_115 rfl ?_
    refine g_aload_n dX7_begin_116 rfl ?_
    refine g_get (T := TX7) (N := 26) (Cn := RX7) (ref := "CommitCouncilModel") 2 dX7_begin_117 (mIn (by decide)) rfl rfl (fun w h => List.mem_cons_of_mem _ (hU7 w h)) (by decide) (List.mem_cons_of_mem _ uw_3_125) (Or.inl rfl) rfl ?_
    refine gEx.top (v := .inl (nI (A))) (congrArg Sum.inl (hc.1.2.1)) ?_
    refine g_icmp_ge 139 dX7_begin_120 (by decide) (fun h120 => ?_) (fun h120 => ?_)
    · skip
      rw [nI_leI (by omega) (by omega)] at h120
      refine g_iconst (nI (0)) dX7_begin_139 (by decide) ?_
      refine g_istore_n dX7_begin_140 (by decide) ?_
      have e : i = A := by omega
      subst e
      by_cases hd : s.1 10 l 0 = 0
      · rw [if_pos hd]
        exact m_begin_n hc hR6 hl hd ⟨rfl, hc, hE⟩
      · rw [if_neg hd]
        rw [if_neg hd] at hn
        exact gEx_post (m_begin_d (s := pAdd s i (fun a => mAsk a b)) (l := l) (b := b) ⟨hR1, hR6, hA35⟩ hl (Nat.pos_of_ne_zero hd) hd2 (by rw [pAdd_len]; omega) (R + 1) 0 (by omega) (by omega) σ (by rw [pAdd_0]; exact hc) mE_rf) (fun o τ q => ⟨q.1, q.2.1, mE_tr hE q.2.2⟩)
    · skip
      rw [nI_leI (by omega) (by omega)] at h120
      refine g_aload_n dX7_begin_123 rfl ?_
      refine g_iconst (nI (2)) dX7_begin_124 (by decide) ?_
      refine g_iload_n dX7_begin_125 rfl ?_
      refine g_iconst ((-1)) dX7_begin_126 (by decide) ?_
      refine g_iconst ((-1)) dX7_begin_127 (by decide) ?_
      refine g_iload_n dX7_begin_128 rfl ?_
      refine g_iconst ((-1)) dX7_begin_129 (by decide) ?_
      refine g_callVv (n9 := 6) [.inl (nI (2)), .inl (nI (i)), .inl ((-1)), .inl ((-1)), .inl (nI (b)), .inl ((-1))] [] (m_sends hc.1.2.2.1 (by rw [pAdd_len]; omega)) dX7_begin_130 (gU_V uw_3_230 uw_3_232 us_1_7 uw_1_8 uw_3_233) rfl (by decide +kernel) rfl ⟨by decide, by decide⟩ (mIn (by decide)) rfl rfl rfl (Nat.le_of_ble_eq_true rfl) (fun σ1 hp1 => ?_)
      refine g_iinc (nI (i + 1)) dX7_begin_133 rfl (show nI (i) + nI 1 = _ from nI_add _ _) (by decide) ?_
      refine g_goto 115 dX7_begin_136 (by decide) ?_
      subst hp1
      exact ih (i + 1) (by omega) (by omega) _ (by rw [← pAdd_s]; exact mRel_snd hc hR6 ((fun a => mAsk a b) i) (by simp [mAsk]) rfl rfl rfl rfl rfl rfl) (mE_tr hE sndM_E)

set_option maxRecDepth 100000 in
theorem m_begin_w {R A cm : Nat} {s : pT} {σ : gSt} (hc : mRel R A cm s σ) {l : Nat} (hl : l < 3) (h9 : s.1 9 l 0 ≤ 1536) {Q : gOut → gSt → Prop} (hq : gEx mG mX7_begin 0 75 [some (.inr 0), some (.inl (nI l)), some (.inl (nI (lob l (s.1 9 l 0)))), none] [] σ Q) : ∀ (k b : Nat), b ≤ lob l (s.1 9 l 0) → lob l (s.1 9 l 0) - b < k → l + 1 ≤ b → b % 3 = (l + 1) % 3 → gEx mG mX7_begin 0 59 [some (.inr 0), some (.inl (nI l)), some (.inl (nI b)), none] [] σ Q := by
  intro k
  induction k with
  | zero => intro b hi1 hi2; exact absurd hi2 (by omega)
  | succ k ih =>
    intro b hi1 hi2 hb1 hb2
    have hlob : lob l (s.1 9 l 0) ≤ 1539 + 4 := by unfold lob; split <;> omega
    refine g_iload_n dX7_begin_59 rfl ?_
    refine g_aload_n dX7_begin_60 rfl ?_
    refine g_getr (T := TX7) (N := 26) (Cn := RX7) (ref := "CommitCouncilModel") 18 dX7_begin_61 (mIn (by decide)) rfl rfl (fun w h => List.mem_cons_of_mem _ (hU7 w h)) (by decide) (List.mem_cons_of_mem _ uw_3_141) (Or.inl rfl) rfl ?_
    refine g_iload_n dX7_begin_64 rfl ?_
    refine g_ialdN (n := 3) (j := l) dX7_begin_65 (mIn (by decide)) rfl (by omega) (by omega) ?_
    refine gEx.top (v := .inl (nI (s.1 9 (l) 0))) (congrArg Sum.inl (mR_hig hc (by omega))) ?_
    refine g_icmp_gt 75 dX7_begin_66 (by decide) (fun h66 => ?_) (fun h66 => ?_)
    · skip
      rw [nI_ltI (by omega) (by omega)] at h66
      have e : b = lob l (s.1 9 l 0) := by unfold lob at hi1 ⊢; split at hi1 <;> split <;> omega
      rw [e]
      exact hq
    · skip
      rw [nI_ltI (by omega) (by omega)] at h66
      refine g_iinc (nI (b + 3)) dX7_begin_69 rfl (show nI (b) + nI 3 = _ from nI_add _ _) (by decide) ?_
      refine g_goto 59 dX7_begin_72 (by decide) ?_
      have hb3 : b + 3 ≤ lob l (s.1 9 l 0) := by unfold lob at hi1 ⊢; split at hi1 <;> split <;> omega
      exact ih (b + 3) hb3 (by omega) (by omega) (by omega)

set_option maxRecDepth 100000 in
theorem m_begin_e {R A : Nat} (hRA : pRA R A) {cm : Nat} {s : pT} {σ : gSt} (hc1 : mRel R A cm s σ) {l b : Nat} (hl : l < 3) (hd2 : s.1 10 l 0 ≤ 2) (hn : s.2.length + A + (if s.1 10 l 0 = 0 then 0 else R) ≤ 400) : gEx mG mX7_begin 0 75 [some (.inr 0), some (.inl (nI l)), some (.inl (nI b)), none] [] σ (gR (nI b) (fun τ => mRel R A cm (if s.1 10 l 0 = 0 then pAdd (pu (pClr (pClr (pu (pu (pu s.1 7 l 0 b) 9 l 0 b) 8 l 0 1) 11 l) 20 l) 1 2 0 (s.1 1 2 0 + 1), s.2) A (fun a => mAsk a b) else pAdd (pAdd (pu (pClr (pClr (pu (pu (pu s.1 7 l 0 b) 9 l 0 b) 8 l 0 1) 11 l) 20 l) 1 2 0 (s.1 1 2 0 + 1), s.2) A (fun a => mAsk a b)) R (fun m => mDec m (s.1 10 l 0))) τ ∧ mE σ τ)) := by
  obtain ⟨hR1, hR6, hA35⟩ := hRA
  have hA5 : A ≤ 5 := by omega
  refine g_aload_n dX7_begin_75 rfl ?_
  refine g_getr (T := TX7) (N := 26) (Cn := RX7) (ref := "CommitCouncilModel") 16 dX7_begin_76 (mIn (by decide)) rfl rfl (fun w h => List.mem_cons_of_mem _ (hU7 w h)) (by decide) (List.mem_cons_of_mem _ uw_3_139) (Or.inl rfl) rfl ?_
  refine g_iload_n dX7_begin_79 rfl ?_
  refine g_iload_n dX7_begin_80 rfl ?_
  refine g_iastN (n := 3) (j := l) dX7_begin_81 (mIn (by decide)) rfl (by omega) (by omega) ?_
  refine g_aload_n dX7_begin_82 rfl ?_
  refine g_getr (T := TX7) (N := 26) (Cn := RX7) (ref := "CommitCouncilModel") 18 dX7_begin_83 (mIn (by decide)) rfl rfl (fun w h => List.mem_cons_of_mem _ (hU7 w h)) (by decide) (List.mem_cons_of_mem _ uw_3_141) (Or.inl rfl) rfl ?_
  refine g_iload_n dX7_begin_86 rfl ?_
  refine g_iload_n dX7_begin_87 rfl ?_
  refine g_iastN (n := 3) (j := l) dX7_begin_88 (mIn (by decide)) rfl (by omega) (by omega) ?_
  refine g_aload_n dX7_begin_89 rfl ?_
  refine g_getr (T := TX7) (N := 26) (Cn := RX7) (ref := "CommitCouncilModel") 17 dX7_begin_90 (mIn (by decide)) rfl rfl (fun w h => List.mem_cons_of_mem _ (hU7 w h)) (by decide) (List.mem_cons_of_mem _ uw_3_140) (Or.inl rfl) rfl ?_
  refine g_iload_n dX7_begin_93 rfl ?_
  refine g_iconst (nI (1)) dX7_begin_94 (by decide) ?_
  refine g_iastN (n := 3) (j := l) dX7_begin_95 (mIn (by decide)) rfl (by omega) (by omega) ?_
  refine g_aload_n dX7_begin_96 rfl ?_
  refine g_getr (T := TX7) (N := 26) (Cn := RX7) (ref := "CommitCouncilModel") 20 dX7_begin_97 (mIn (by decide)) rfl rfl (fun w h => List.mem_cons_of_mem _ (hU7 w h)) (by decide) (List.mem_cons_of_mem _ uw_3_143) (Or.inl rfl) rfl ?_
  refine g_iload_n dX7_begin_100 rfl ?_
  refine g_iconst (nI (0)) dX7_begin_101 (by decide) ?_
  refine g_iastN (n := 3) (j := l) dX7_begin_102 (mIn (by decide)) rfl (by omega) (by omega) ?_
  refine g_aload_n dX7_begin_103 rfl ?_
  refine g_dup dX7_begin_104 ?_
  refine g_get (T := TX7) (N := 26) (Cn := RX7) (ref := "CommitCouncilModel") 8 dX7_begin_105 (mIn (by decide)) rfl rfl (fun w h => List.mem_cons_of_mem _ (hU7 w h)) (by decide) (List.mem_cons_of_mem _ uw_3_131) (Or.inl rfl) rfl ?_
  refine gEx.top (v := .inl (nI (s.1 1 2 0))) (congrArg Sum.inl (hc1.1.2.2.2.2.2)) ?_
  refine g_iconst (nI (1)) dX7_begin_108 (by decide) ?_
  refine g_iadd dX7_begin_109 ?_
  refine gEx.top (v := .inl (nI (s.1 1 2 0 + 1))) (congrArg Sum.inl (nI_add _ _)) ?_
  refine g_put (T := TX7) (N := 26) (Cn := RX7) (ref := "CommitCouncilModel") (ty0 := tyX7) 8 dX7_begin_110 (mIn (by decide)) rfl rfl (fun w h => List.mem_cons_of_mem _ (hU7 w h)) tyX7_ok nmX7 (by decide) (List.mem_cons_of_mem _ uw_3_131) (Or.inl rfl) rfl rfl rfl rfl ?_
  refine g_iconst (nI (0)) dX7_begin_113 (by decide) ?_
  refine g_istore_n dX7_begin_114 (by decide) ?_
  exact m_begin_a (s := (pu (pClr (pClr (pu (pu (pu s.1 7 l 0 b) 9 l 0 b) 8 l 0 1) 11 l) 20 l) 1 2 0 (s.1 1 2 0 + 1), s.2)) ⟨hR1, hR6, hA35⟩ hl hd2 hn (A + 1) 0 (by omega) (by omega) _ (by rw [pAdd_0]; exact mRel_beg hc1 hl) ⟨rfl, rfl⟩

set_option maxRecDepth 100000 in
/-- begin -/
theorem m_beginT {R A : Nat} (hRA : pRA R A) {cm : Nat} {s : pT} {σ : gSt} (hc : mRel R A cm s σ) (hb : pBu s.1) {l : Nat} (hl : l < 3) (hlen : s.2.length ≤ 400) (hs : sBeg R A l s) : gEM mG mX7_begin 0 [.inr (0), .inl (nI (l))] σ (gR (nI (lob l (s.1 9 l 0))) (mP R A cm (tBeg R A l s) 0)) := by
  obtain ⟨hR1, hR6, hA35⟩ := hRA
  have hA5 : A ≤ 5 := by omega
  have hb9 : s.1 9 l 0 ≤ 1536 := hb 9 l 0 (by decide) (by decide)
  have hb10 : s.1 10 l 0 ≤ 2 := hb 10 l 0 (by decide) (by decide)
  have hb2 : s.1 2 2 l ≤ 1 := hb 2 2 l (by decide) (by decide)
  obtain ⟨hs1, hs2⟩ := hs
  refine gEM_of (by decide +kernel) rfl (Nat.le_of_ble_eq_true rfl) ?_
  refine g_aload_n dX7_begin_0 rfl ?_
  refine g_iload_n dX7_begin_1 rfl ?_
  refine g_callSi (nI (1)) (n9 := 1) [.inl (nI (l))] [.inr (0)] (m_isLT hl) dX7_begin_2 (gU_S uw_4_10 uw_4_11 uw_1_8 uw_4_12) rfl (by decide +kernel) rfl ⟨by decide, by decide⟩ rfl (Nat.le_of_ble_eq_true rfl) (fun σ1 hp1 => ?_)
  subst hp1
  refine g_callVi (nI (0)) (n9 := 1) [.inl (nI (1))] [] (m_lacks1) dX7_begin_5 (gU_V uw_3_218 uw_3_220 us_1_4 uw_1_8 uw_3_221) rfl (by decide +kernel) rfl ⟨by decide, by decide⟩ (mIn (by decide)) rfl rfl rfl (Nat.le_of_ble_eq_true rfl) (fun σ2 hq2 => ?_)
  subst hq2
  have hP := mP_thr hc 0
  have hc1 := hP.1
  refine g_if_eq 13 dX7_begin_8 (by decide) (fun h8 => ?_) (fun h8 => ?_)
  · skip
    rw [nI_z (by omega)] at h8
    refine g_aload_n dX7_begin_13 rfl ?_
    refine g_getr (T := TX7) (N := 26) (Cn := RX7) (ref := "CommitCouncilModel") 10 dX7_begin_14 (mIn (by decide)) rfl rfl (fun w h => List.mem_cons_of_mem _ (hU7 w h)) (by decide) (List.mem_cons_of_mem _ uw_3_133) (Or.inl rfl) rfl ?_
    refine g_iconst (nI (2)) dX7_begin_17 (by decide) ?_
    have hx1 : 2 < 3 := by omega
    refine g_aald5N (n := 3) (j := 2) dX7_begin_18 (mIn (by decide)) rfl hx1 (by omega) ?_
    refine g_iload_n dX7_begin_19 rfl ?_
    refine g_zaldN (n := 6) (j := l) dX7_begin_20 (mIn (by omega)) (mSh_u hx1) (by omega) (by omega) ?_
    refine gEx.top (v := .inl (nI (s.1 2 2 (l)))) (congrArg Sum.inl (mR_u2 hc1 (by omega))) ?_
    refine g_if_eq 53 dX7_begin_21 (by decide) (fun h21 => ?_) (fun h21 => ?_)
    · skip
      rw [nI_z (by omega)] at h21
      exfalso; omega
    · skip
      rw [nI_z (by omega)] at h21
      refine g_aload_n dX7_begin_24 rfl ?_
      refine g_aload_n dX7_begin_25 rfl ?_
      refine g_get (T := TX7) (N := 26) (Cn := RX7) (ref := "CommitCouncilModel") 2 dX7_begin_26 (mIn (by decide)) rfl rfl (fun w h => List.mem_cons_of_mem _ (hU7 w h)) (by decide) (List.mem_cons_of_mem _ uw_3_125) (Or.inl rfl) rfl ?_
      refine gEx.top (v := .inl (nI (A))) (congrArg Sum.inl (hc1.1.2.1)) ?_
      refine g_aload_n dX7_begin_29 rfl ?_
      refine g_getr (T := TX7) (N := 26) (Cn := RX7) (ref := "CommitCouncilModel") 19 dX7_begin_30 (mIn (by decide)) rfl rfl (fun w h => List.mem_cons_of_mem _ (hU7 w h)) (by decide) (List.mem_cons_of_mem _ uw_3_142) (Or.inl rfl) rfl ?_
      refine g_iload_n dX7_begin_33 rfl ?_
      refine g_ialdN (n := 3) (j := l) dX7_begin_34 (mIn (by decide)) rfl (by omega) (by omega) ?_
      refine gEx.top (v := .inl (nI (s.1 10 (l) 0))) (congrArg Sum.inl (mR_dec hc1 (by omega))) ?_
      refine g_if_le 45 dX7_begin_35 (by decide) (fun h35 => ?_) (fun h35 => ?_)
      · skip
        rw [nI_np (by omega)] at h35
        refine g_iconst (nI (0)) dX7_begin_45 (by decide) ?_
        refine g_iadd dX7_begin_46 ?_
        refine gEx.top (v := .inl (nI (A + 0))) (congrArg Sum.inl (nI_add _ _)) ?_
        refine g_callVi (bI (s.2.length + (A + 0) ≤ 400)) (n9 := 1) [.inl (nI (A + 0))] [] (m_room hc1.1.2.2.1 (by omega) (by omega)) dX7_begin_47 (gU_V uw_3_222 uw_3_224 us_1_5 uw_1_8 uw_3_225) rfl (by decide +kernel) rfl ⟨by decide, by decide⟩ (mIn (by decide)) rfl rfl rfl (Nat.le_of_ble_eq_true rfl) (fun σ3 hq3 => ?_)
        subst hq3
        refine g_if_ne 55 dX7_begin_50 (by decide) (fun h50 => ?_) (fun h50 => ?_)
        · skip
          rw [bI_z] at h50
          refine g_iload_n dX7_begin_55 rfl ?_
          refine g_iconst (nI (1)) dX7_begin_56 (by decide) ?_
          refine g_iadd dX7_begin_57 ?_
          refine gEx.top (v := .inl (nI (l + 1))) (congrArg Sum.inl (nI_add _ _)) ?_
          refine g_istore_n dX7_begin_58 (by decide) ?_
          refine m_begin_w hc1 hl hb9 (gEx_post (m_begin_e ⟨hR1, hR6, hA35⟩ hc1 hl hb10 (by unfold nBeg at hs2; omega)) (fun o τ q => ⟨q.1, by have q2 := q.2.1; rw [← tBeg_eq]; exact q2, q.2.2.2⟩)) (lob l (s.1 9 l 0) + 1) (l + 1) (by unfold lob; split <;> omega) (by omega) (by omega) rfl
        · skip
          rw [bI_z] at h50
          exfalso; unfold nBeg at hs2; first | (rw [if_pos (by omega)] at hs2; omega) | (rw [if_neg (by omega)] at hs2; omega)
      · skip
        rw [nI_np (by omega)] at h35
        refine g_aload_n dX7_begin_38 rfl ?_
        refine g_get (T := TX7) (N := 26) (Cn := RX7) (ref := "CommitCouncilModel") 1 dX7_begin_39 (mIn (by decide)) rfl rfl (fun w h => List.mem_cons_of_mem _ (hU7 w h)) (by decide) (List.mem_cons_of_mem _ uw_3_124) (Or.inl rfl) rfl ?_
        refine gEx.top (v := .inl (nI (R))) (congrArg Sum.inl (hc1.1.1)) ?_
        refine g_goto 46 dX7_begin_42 (by decide) ?_
        refine g_iadd dX7_begin_46 ?_
        refine gEx.top (v := .inl (nI (A + R))) (congrArg Sum.inl (nI_add _ _)) ?_
        refine g_callVi (bI (s.2.length + (A + R) ≤ 400)) (n9 := 1) [.inl (nI (A + R))] [] (m_room hc1.1.2.2.1 (by omega) (by omega)) dX7_begin_47 (gU_V uw_3_222 uw_3_224 us_1_5 uw_1_8 uw_3_225) rfl (by decide +kernel) rfl ⟨by decide, by decide⟩ (mIn (by decide)) rfl rfl rfl (Nat.le_of_ble_eq_true rfl) (fun σ3 hq3 => ?_)
        subst hq3
        refine g_if_ne 55 dX7_begin_50 (by decide) (fun h50 => ?_) (fun h50 => ?_)
        · skip
          rw [bI_z] at h50
          refine g_iload_n dX7_begin_55 rfl ?_
          refine g_iconst (nI (1)) dX7_begin_56 (by decide) ?_
          refine g_iadd dX7_begin_57 ?_
          refine gEx.top (v := .inl (nI (l + 1))) (congrArg Sum.inl (nI_add _ _)) ?_
          refine g_istore_n dX7_begin_58 (by decide) ?_
          refine m_begin_w hc1 hl hb9 (gEx_post (m_begin_e ⟨hR1, hR6, hA35⟩ hc1 hl hb10 (by unfold nBeg at hs2; omega)) (fun o τ q => ⟨q.1, by have q2 := q.2.1; rw [← tBeg_eq]; exact q2, q.2.2.2⟩)) (lob l (s.1 9 l 0) + 1) (l + 1) (by unfold lob; split <;> omega) (by omega) (by omega) rfl
        · skip
          rw [bI_z] at h50
          exfalso; unfold nBeg at hs2; first | (rw [if_pos (by omega)] at hs2; omega) | (rw [if_neg (by omega)] at hs2; omega)
  · skip
    rw [nI_z (by omega)] at h8
    exfalso; omega

set_option maxRecDepth 100000 in
/-- begin -/
theorem m_beginF {R A : Nat} (hRA : pRA R A) {cm : Nat} {s : pT} {σ : gSt} (hc : mRel R A cm s σ) (hb : pBu s.1) {l : Nat} (hl : l < 3) (hlen : s.2.length ≤ 400) (hs : ¬ sBeg R A l s) : gEM mG mX7_begin 0 [.inr (0), .inl (nI (l))] σ (gR (-1) (mP R A cm s 0)) := by
  obtain ⟨hR1, hR6, hA35⟩ := hRA
  have hA5 : A ≤ 5 := by omega
  have hb9 : s.1 9 l 0 ≤ 1536 := hb 9 l 0 (by decide) (by decide)
  have hb10 : s.1 10 l 0 ≤ 2 := hb 10 l 0 (by decide) (by decide)
  have hb2 : s.1 2 2 l ≤ 1 := hb 2 2 l (by decide) (by decide)
  refine gEM_of (by decide +kernel) rfl (Nat.le_of_ble_eq_true rfl) ?_
  refine g_aload_n dX7_begin_0 rfl ?_
  refine g_iload_n dX7_begin_1 rfl ?_
  refine g_callSi (nI (1)) (n9 := 1) [.inl (nI (l))] [.inr (0)] (m_isLT hl) dX7_begin_2 (gU_S uw_4_10 uw_4_11 uw_1_8 uw_4_12) rfl (by decide +kernel) rfl ⟨by decide, by decide⟩ rfl (Nat.le_of_ble_eq_true rfl) (fun σ1 hp1 => ?_)
  subst hp1
  refine g_callVi (nI (0)) (n9 := 1) [.inl (nI (1))] [] (m_lacks1) dX7_begin_5 (gU_V uw_3_218 uw_3_220 us_1_4 uw_1_8 uw_3_221) rfl (by decide +kernel) rfl ⟨by decide, by decide⟩ (mIn (by decide)) rfl rfl rfl (Nat.le_of_ble_eq_true rfl) (fun σ2 hq2 => ?_)
  subst hq2
  have hP := mP_thr hc 0
  have hc1 := hP.1
  refine g_if_eq 13 dX7_begin_8 (by decide) (fun h8 => ?_) (fun h8 => ?_)
  · skip
    rw [nI_z (by omega)] at h8
    refine g_aload_n dX7_begin_13 rfl ?_
    refine g_getr (T := TX7) (N := 26) (Cn := RX7) (ref := "CommitCouncilModel") 10 dX7_begin_14 (mIn (by decide)) rfl rfl (fun w h => List.mem_cons_of_mem _ (hU7 w h)) (by decide) (List.mem_cons_of_mem _ uw_3_133) (Or.inl rfl) rfl ?_
    refine g_iconst (nI (2)) dX7_begin_17 (by decide) ?_
    have hx1 : 2 < 3 := by omega
    refine g_aald5N (n := 3) (j := 2) dX7_begin_18 (mIn (by decide)) rfl hx1 (by omega) ?_
    refine g_iload_n dX7_begin_19 rfl ?_
    refine g_zaldN (n := 6) (j := l) dX7_begin_20 (mIn (by omega)) (mSh_u hx1) (by omega) (by omega) ?_
    refine gEx.top (v := .inl (nI (s.1 2 2 (l)))) (congrArg Sum.inl (mR_u2 hc1 (by omega))) ?_
    refine g_if_eq 53 dX7_begin_21 (by decide) (fun h21 => ?_) (fun h21 => ?_)
    · skip
      rw [nI_z (by omega)] at h21
      refine g_iconst ((-1)) dX7_begin_53 (by decide) ?_
      exact g_iret dX7_begin_54 rfl (⟨rfl, hP⟩)
    · skip
      rw [nI_z (by omega)] at h21
      refine g_aload_n dX7_begin_24 rfl ?_
      refine g_aload_n dX7_begin_25 rfl ?_
      refine g_get (T := TX7) (N := 26) (Cn := RX7) (ref := "CommitCouncilModel") 2 dX7_begin_26 (mIn (by decide)) rfl rfl (fun w h => List.mem_cons_of_mem _ (hU7 w h)) (by decide) (List.mem_cons_of_mem _ uw_3_125) (Or.inl rfl) rfl ?_
      refine gEx.top (v := .inl (nI (A))) (congrArg Sum.inl (hc1.1.2.1)) ?_
      refine g_aload_n dX7_begin_29 rfl ?_
      refine g_getr (T := TX7) (N := 26) (Cn := RX7) (ref := "CommitCouncilModel") 19 dX7_begin_30 (mIn (by decide)) rfl rfl (fun w h => List.mem_cons_of_mem _ (hU7 w h)) (by decide) (List.mem_cons_of_mem _ uw_3_142) (Or.inl rfl) rfl ?_
      refine g_iload_n dX7_begin_33 rfl ?_
      refine g_ialdN (n := 3) (j := l) dX7_begin_34 (mIn (by decide)) rfl (by omega) (by omega) ?_
      refine gEx.top (v := .inl (nI (s.1 10 (l) 0))) (congrArg Sum.inl (mR_dec hc1 (by omega))) ?_
      refine g_if_le 45 dX7_begin_35 (by decide) (fun h35 => ?_) (fun h35 => ?_)
      · skip
        rw [nI_np (by omega)] at h35
        refine g_iconst (nI (0)) dX7_begin_45 (by decide) ?_
        refine g_iadd dX7_begin_46 ?_
        refine gEx.top (v := .inl (nI (A + 0))) (congrArg Sum.inl (nI_add _ _)) ?_
        refine g_callVi (bI (s.2.length + (A + 0) ≤ 400)) (n9 := 1) [.inl (nI (A + 0))] [] (m_room hc1.1.2.2.1 (by omega) (by omega)) dX7_begin_47 (gU_V uw_3_222 uw_3_224 us_1_5 uw_1_8 uw_3_225) rfl (by decide +kernel) rfl ⟨by decide, by decide⟩ (mIn (by decide)) rfl rfl rfl (Nat.le_of_ble_eq_true rfl) (fun σ3 hq3 => ?_)
        subst hq3
        refine g_if_ne 55 dX7_begin_50 (by decide) (fun h50 => ?_) (fun h50 => ?_)
        · skip
          rw [bI_z] at h50
          exfalso; apply hs; refine ⟨by omega, ?_⟩; unfold nBeg; first | (rw [if_pos (by omega)]; omega) | (rw [if_neg (by omega)]; omega)
        · skip
          rw [bI_z] at h50
          refine g_iconst ((-1)) dX7_begin_53 (by decide) ?_
          exact g_iret dX7_begin_54 rfl (⟨rfl, hP⟩)
      · skip
        rw [nI_np (by omega)] at h35
        refine g_aload_n dX7_begin_38 rfl ?_
        refine g_get (T := TX7) (N := 26) (Cn := RX7) (ref := "CommitCouncilModel") 1 dX7_begin_39 (mIn (by decide)) rfl rfl (fun w h => List.mem_cons_of_mem _ (hU7 w h)) (by decide) (List.mem_cons_of_mem _ uw_3_124) (Or.inl rfl) rfl ?_
        refine gEx.top (v := .inl (nI (R))) (congrArg Sum.inl (hc1.1.1)) ?_
        refine g_goto 46 dX7_begin_42 (by decide) ?_
        refine g_iadd dX7_begin_46 ?_
        refine gEx.top (v := .inl (nI (A + R))) (congrArg Sum.inl (nI_add _ _)) ?_
        refine g_callVi (bI (s.2.length + (A + R) ≤ 400)) (n9 := 1) [.inl (nI (A + R))] [] (m_room hc1.1.2.2.1 (by omega) (by omega)) dX7_begin_47 (gU_V uw_3_222 uw_3_224 us_1_5 uw_1_8 uw_3_225) rfl (by decide +kernel) rfl ⟨by decide, by decide⟩ (mIn (by decide)) rfl rfl rfl (Nat.le_of_ble_eq_true rfl) (fun σ3 hq3 => ?_)
        subst hq3
        refine g_if_ne 55 dX7_begin_50 (by decide) (fun h50 => ?_) (fun h50 => ?_)
        · skip
          rw [bI_z] at h50
          exfalso; apply hs; refine ⟨by omega, ?_⟩; unfold nBeg; first | (rw [if_pos (by omega)]; omega) | (rw [if_neg (by omega)]; omega)
        · skip
          rw [bI_z] at h50
          refine g_iconst ((-1)) dX7_begin_53 (by decide) ?_
          exact g_iret dX7_begin_54 rfl (⟨rfl, hP⟩)
  · skip
    rw [nI_z (by omega)] at h8
    exfalso; omega

set_option maxRecDepth 100000 in
/-- begin -/
theorem m_beginX {R A : Nat} (hRA : pRA R A) {cm : Nat} {s : pT} {σ : gSt} (hc : mRel R A cm s σ) {y : Int32} (hy : y < 0 ∨ nI 3 ≤ y) : gEM mG mX7_begin 0 [.inr (0), .inl (y)] σ (gR 0 (mP R A cm s 1)) := by
  refine gEM_of (by decide +kernel) rfl (Nat.le_of_ble_eq_true rfl) ?_
  refine g_aload_n dX7_begin_0 rfl ?_
  refine g_iload_n dX7_begin_1 rfl ?_
  refine g_callSi (nI (0)) (n9 := 1) [.inl (y)] [.inr (0)] (m_isLF hy) dX7_begin_2 (gU_S uw_4_10 uw_4_11 uw_1_8 uw_4_12) rfl (by decide +kernel) rfl ⟨by decide, by decide⟩ rfl (Nat.le_of_ble_eq_true rfl) (fun σ1 hp1 => ?_)
  subst hp1
  refine g_callVi (nI (1)) (n9 := 1) [.inl (nI (0))] [] (m_lacks0) dX7_begin_5 (gU_V uw_3_218 uw_3_220 us_1_4 uw_1_8 uw_3_221) rfl (by decide +kernel) rfl ⟨by decide, by decide⟩ (mIn (by decide)) rfl rfl rfl (Nat.le_of_ble_eq_true rfl) (fun σ2 hq2 => ?_)
  subst hq2
  have hP := mP_thr hc 1
  refine g_if_eq 13 dX7_begin_8 (by decide) (fun h8 => ?_) (fun h8 => ?_)
  · skip
    rw [nI_z (by omega)] at h8
    exfalso; omega
  · skip
    rw [nI_z (by omega)] at h8
    refine g_iconst (nI (0)) dX7_begin_11 (by decide) ?_
    exact g_iret dX7_begin_12 rfl (⟨rfl, hP⟩)

set_option maxRecDepth 100000 in
/-- drop -/
theorem m_drop {R A : Nat} (hRA : pRA R A) {cm : Nat} {s : pT} {σ : gSt} (hc : mRel R A cm s σ) {i : Nat} (hi : i < s.2.length) (hlen : s.2.length ≤ 400) : gEM mG mX7_drop 0 [.inr (0), .inl (nI (i))] σ (gV (mP R A cm (tDrop i s) 0)) := by
  obtain ⟨hR1, hR6, hA35⟩ := hRA
  have hA5 : A ≤ 5 := by omega
  refine gEM_of (by decide +kernel) rfl (Nat.le_of_ble_eq_true rfl) ?_
  refine g_aload_n dX7_drop_0 rfl ?_
  refine g_aload_n dX7_drop_1 rfl ?_
  refine g_iload_n dX7_drop_2 rfl ?_
  refine g_callVi (nI (1)) (n9 := 1) [.inl (nI (i))] [.inr (0)] (m_isGT hc.1.2.2.1 hi (by omega)) dX7_drop_3 (gU_V uw_4_17 uw_4_19 us_1_8 uw_1_8 uw_4_20) rfl (by decide +kernel) rfl ⟨by decide, by decide⟩ (mIn (by decide)) rfl rfl rfl (Nat.le_of_ble_eq_true rfl) (fun σ1 hp1 => ?_)
  subst hp1
  refine g_callVi (nI (0)) (n9 := 1) [.inl (nI (1))] [] (m_lacks1) dX7_drop_6 (gU_V uw_3_218 uw_3_220 us_1_4 uw_1_8 uw_3_221) rfl (by decide +kernel) rfl ⟨by decide, by decide⟩ (mIn (by decide)) rfl rfl rfl (Nat.le_of_ble_eq_true rfl) (fun σ2 hq2 => ?_)
  subst hq2
  have hP := mP_thr hc 0
  have hc1 := hP.1
  refine g_if_eq 13 dX7_drop_9 (by decide) (fun h9 => ?_) (fun h9 => ?_)
  · skip
    rw [nI_z (by omega)] at h9
    refine g_aload_n dX7_drop_13 rfl ?_
    refine g_iload_n dX7_drop_14 rfl ?_
    refine g_callVv (n9 := 1) [.inl (nI (i))] [] (m_remove hc1.1.2.2.1 hi hlen) dX7_drop_15 (gU_V uw_4_64 uw_4_66 us_2_3 uw_1_8 uw_4_67) rfl (by decide +kernel) rfl ⟨by decide, by decide⟩ (mIn (by decide)) rfl rfl rfl (Nat.le_of_ble_eq_true rfl) (fun σ4 hq4 => ?_)
    subst hq4
    exact g_vret dX7_drop_18 rfl (⟨rfl, mRel_rem hc1 hR6 hi, rfl⟩)
  · skip
    rw [nI_z (by omega)] at h9
    exfalso; omega

set_option maxRecDepth 100000 in
/-- drop -/
theorem m_dropX {R A : Nat} (hRA : pRA R A) {cm : Nat} {s : pT} {σ : gSt} (hc : mRel R A cm s σ) {y : Int32} (hy : y < 0 ∨ nI s.2.length ≤ y) : gEM mG mX7_drop 0 [.inr (0), .inl (y)] σ (gV (mP R A cm s 1)) := by
  refine gEM_of (by decide +kernel) rfl (Nat.le_of_ble_eq_true rfl) ?_
  refine g_aload_n dX7_drop_0 rfl ?_
  refine g_aload_n dX7_drop_1 rfl ?_
  refine g_iload_n dX7_drop_2 rfl ?_
  refine g_callVi (nI (0)) (n9 := 1) [.inl (y)] [.inr (0)] (m_isGF hc.1.2.2.1 hy) dX7_drop_3 (gU_V uw_4_17 uw_4_19 us_1_8 uw_1_8 uw_4_20) rfl (by decide +kernel) rfl ⟨by decide, by decide⟩ (mIn (by decide)) rfl rfl rfl (Nat.le_of_ble_eq_true rfl) (fun σ1 hp1 => ?_)
  subst hp1
  refine g_callVi (nI (1)) (n9 := 1) [.inl (nI (0))] [] (m_lacks0) dX7_drop_6 (gU_V uw_3_218 uw_3_220 us_1_4 uw_1_8 uw_3_221) rfl (by decide +kernel) rfl ⟨by decide, by decide⟩ (mIn (by decide)) rfl rfl rfl (Nat.le_of_ble_eq_true rfl) (fun σ2 hq2 => ?_)
  subst hq2
  have hP := mP_thr hc 1
  refine g_if_eq 13 dX7_drop_9 (by decide) (fun h9 => ?_) (fun h9 => ?_)
  · skip
    rw [nI_z (by omega)] at h9
    exfalso; omega
  · skip
    rw [nI_z (by omega)] at h9
    exact g_vret dX7_drop_12 rfl (⟨rfl, hP⟩)

def cpM (σ : gSt) (i n k : Nat) : gSt := gur σ 1 (fun p => if 18 * n ≤ p ∧ p < 18 * n + k then σ 1 (18 * i + (p - 18 * n)) else σ 1 p)
theorem cpM_0 (σ : gSt) (i n : Nat) : cpM σ i n 0 = σ := by
  funext a p
  unfold cpM gur
  by_cases h : a = 1
  · subst h
    rw [if_pos rfl, if_neg (by omega)]
  · rw [if_neg h]
theorem cpM_lo (σ : gSt) {i n k p : Nat} (h : p < 18 * n) : cpM σ i n k 1 p = σ 1 p := by
  unfold cpM
  rw [gur_self, if_neg (by omega)]
theorem cpM_s (σ : gSt) (i n k : Nat) : gup (cpM σ i n k) 1 (18 * n + k) (σ 1 (18 * i + k)) = cpM σ i n (k + 1) := by
  funext a p
  unfold cpM gur gup
  by_cases h : a = 1
  · subst h
    by_cases h2 : p = 18 * n + k
    · subst h2
      rw [if_pos ⟨rfl, rfl⟩, if_pos rfl, if_pos (by omega), Nat.add_sub_cancel_left]
    · rw [if_neg (fun q => h2 q.2), if_pos rfl]
      show (if 18 * n ≤ p ∧ p < 18 * n + k then _ else σ 1 p) = _
      by_cases h3 : 18 * n ≤ p ∧ p < 18 * n + k
      · rw [if_pos h3, if_pos (by omega)]
      · rw [if_neg h3, if_neg (by omega)]
  · rw [if_neg (fun q => h q.1), if_neg h]
    exact congrFun (if_neg h) p
theorem cpM_ne (σ : gSt) {i n k a : Nat} (h : a ≠ 1) : cpM σ i n k a = σ a := gur_ne σ _ h
theorem mRel_like {R A cm : Nat} {s : pT} {σ : gSt} (h : mRel R A cm s σ) (hR : R ≤ 6) {i : Nat} {x : pMsg} (hx : s.2[i]? = some x) : mRel R A cm (tCopy x s) (gup (gup (cpM σ i s.2.length 18) 0 5 (nI (s.2.length + 1))) 0 6 (nI (s.1 1 0 0 + 1))) := by
  refine mRel_to h [] [1] (by decide) (fun c _ _ h3 => by rw [gup_ne _ _ (by omega), gup_ne _ _ (by omega), cpM_ne _ (by omega)]) (fun d hd => pu_c _ (fun q => hd (by rw [q]; decide))) ?_ ?_ (fun c hc => absurd hc List.not_mem_nil)
  · obtain ⟨q1, q2, q3, q4, q5, q6⟩ := h.1
    rw [List.length_append]
    exact ⟨q1, q2, rfl, by unfold pSnd; rw [pu_at]; rfl, q5, q6⟩
  · refine mMs_snd h.2.1 hR x (fun p hp => by rw [gup_ne _ _ (by decide), gup_ne _ _ (by decide), cpM_lo _ hp]) ?_
    refine mOne_mv (h.2.1 i x hx) hR (fun k hk => ?_)
    rw [gup_ne _ _ (by decide), gup_ne _ _ (by decide)]
    unfold cpM
    rw [gur_self, if_pos (by omega), Nat.add_sub_cancel_left]

set_option maxRecDepth 100000 in
theorem m_copy_l {R A : Nat} (hRA : pRA R A) {cm : Nat} {s : pT} {σ : gSt} (hc : mRel R A cm s σ) {i : Nat} {x : pMsg} (hx : s.2[i]? = some x) (hs : s.2.length + 1 ≤ 400) : ∀ (k j : Nat), j ≤ 18 → 18 - j < k → gEx mG mX7_copy 0 26 [some (.inr 0), some (.inl (nI i)), some (.inl (nI j))] [] (cpM σ i s.2.length j) (gR (nI (s.2.length + 1)) (fun τ => mRel R A cm (tCopy x s) τ ∧ mE σ τ)) := by
  intro k
  induction k with
  | zero => intro j hi1 hi2; exact absurd hi2 (by omega)
  | succ k ih =>
    intro j hi1 hi2 
    obtain ⟨hR1, hR6, hA35⟩ := hRA
    have hi := (List.getElem?_eq_some_iff.mp hx).1
    refine g_iload_n dX7_copy_26 rfl ?_
    refine g_bipush (nI (18)) dX7_copy_27 (by decide) ?_
    refine g_icmp_ge 58 dX7_copy_29 (by decide) (fun h29 => ?_) (fun h29 => ?_)
    · skip
      rw [nI_leI (by omega) (by omega)] at h29
      refine g_aload_n dX7_copy_58 rfl ?_
      refine g_dup dX7_copy_59 ?_
      refine g_get (T := TX7) (N := 26) (Cn := RX7) (ref := "CommitCouncilModel") 5 dX7_copy_60 (mIn (by decide)) rfl rfl (fun w h => List.mem_cons_of_mem _ (hU7 w h)) (by decide) (List.mem_cons_of_mem _ uw_3_128) (Or.inl rfl) rfl ?_
      refine gEx.top (v := .inl (nI (s.2.length))) (congrArg Sum.inl ((show cpM σ i s.2.length j 0 5 = _ by rw [cpM_ne _ (by decide)]; exact hc.1.2.2.1))) ?_
      refine g_iconst (nI (1)) dX7_copy_63 (by decide) ?_
      refine g_iadd dX7_copy_64 ?_
      refine gEx.top (v := .inl (nI (s.2.length + 1))) (congrArg Sum.inl (nI_add _ _)) ?_
      refine g_put (T := TX7) (N := 26) (Cn := RX7) (ref := "CommitCouncilModel") (ty0 := tyX7) 5 dX7_copy_65 (mIn (by decide)) rfl rfl (fun w h => List.mem_cons_of_mem _ (hU7 w h)) tyX7_ok nmX7 (by decide) (List.mem_cons_of_mem _ uw_3_128) (Or.inl rfl) rfl rfl rfl rfl ?_
      refine g_aload_n dX7_copy_68 rfl ?_
      refine g_dup dX7_copy_69 ?_
      refine g_get (T := TX7) (N := 26) (Cn := RX7) (ref := "CommitCouncilModel") 6 dX7_copy_70 (mIn (by decide)) rfl rfl (fun w h => List.mem_cons_of_mem _ (hU7 w h)) (by decide) (List.mem_cons_of_mem _ uw_3_129) (Or.inl rfl) rfl ?_
      refine gEx.top (v := .inl (nI (s.1 1 0 0))) (congrArg Sum.inl ((show cpM σ i s.2.length j 0 6 = _ by rw [cpM_ne _ (by decide)]; exact hc.1.2.2.2.1))) ?_
      refine g_iconst (nI (1)) dX7_copy_73 (by decide) ?_
      refine g_iadd dX7_copy_74 ?_
      refine gEx.top (v := .inl (nI (s.1 1 0 0 + 1))) (congrArg Sum.inl (nI_add _ _)) ?_
      refine g_put (T := TX7) (N := 26) (Cn := RX7) (ref := "CommitCouncilModel") (ty0 := tyX7) 6 dX7_copy_75 (mIn (by decide)) rfl rfl (fun w h => List.mem_cons_of_mem _ (hU7 w h)) tyX7_ok nmX7 (by decide) (List.mem_cons_of_mem _ uw_3_129) (Or.inl rfl) rfl rfl rfl rfl ?_
      refine g_aload_n dX7_copy_78 rfl ?_
      refine g_get (T := TX7) (N := 26) (Cn := RX7) (ref := "CommitCouncilModel") 5 dX7_copy_79 (mIn (by decide)) rfl rfl (fun w h => List.mem_cons_of_mem _ (hU7 w h)) (by decide) (List.mem_cons_of_mem _ uw_3_128) (Or.inl rfl) rfl ?_
      refine gEx.top (v := .inl (nI (s.2.length + 1))) (congrArg Sum.inl (rfl)) ?_
      refine g_iret dX7_copy_82 rfl ?_
      have e : j = 18 := by omega
      subst e
      exact ⟨rfl, mRel_like hc hR6 hx, by rw [gup_ne _ _ (by decide), gup_ne _ _ (by decide), cpM_ne _ (by decide)], by rw [gup_j _ _ (by decide), gup_j _ _ (by decide), cpM_ne _ (by decide)]⟩
    · skip
      rw [nI_leI (by omega) (by omega)] at h29
      refine g_aload_n dX7_copy_32 rfl ?_
      refine g_getr (T := TX7) (N := 26) (Cn := RX7) (ref := "CommitCouncilModel") 3 dX7_copy_33 (mIn (by decide)) rfl rfl (fun w h => List.mem_cons_of_mem _ (hU7 w h)) (by decide) (List.mem_cons_of_mem _ uw_3_126) (Or.inl rfl) rfl ?_
      refine g_bipush (nI (18)) dX7_copy_36 (by decide) ?_
      refine g_aload_n dX7_copy_38 rfl ?_
      refine g_get (T := TX7) (N := 26) (Cn := RX7) (ref := "CommitCouncilModel") 5 dX7_copy_39 (mIn (by decide)) rfl rfl (fun w h => List.mem_cons_of_mem _ (hU7 w h)) (by decide) (List.mem_cons_of_mem _ uw_3_128) (Or.inl rfl) rfl ?_
      refine gEx.top (v := .inl (nI (s.2.length))) (congrArg Sum.inl ((show cpM σ i s.2.length j 0 5 = _ by rw [cpM_ne _ (by decide)]; exact hc.1.2.2.1))) ?_
      refine g_imul dX7_copy_42 ?_
      refine gEx.top (v := .inl (nI ((18) * (s.2.length)))) (congrArg Sum.inl (pk_mul _ _)) ?_
      refine g_iload_n dX7_copy_43 rfl ?_
      refine g_iadd dX7_copy_44 ?_
      refine gEx.top (v := .inl (nI ((18) * (s.2.length) + j))) (congrArg Sum.inl (nI_add _ _)) ?_
      refine g_aload_n dX7_copy_45 rfl ?_
      refine g_iload_n dX7_copy_46 rfl ?_
      refine g_iload_n dX7_copy_47 rfl ?_
      refine g_callVi (_) (n9 := 2) [.inl (nI (i)), .inl (nI (j))] [.inl (nI ((18) * (s.2.length) + j)), .inr (1)] (m_of (i := i) (j := j) (by omega)) dX7_copy_48 (gU_V uw_4_25 uw_4_27 us_1_10 uw_1_8 uw_4_28) rfl (by decide +kernel) rfl ⟨by decide, by decide⟩ (mIn (by decide)) rfl rfl rfl (Nat.le_of_ble_eq_true rfl) (fun τ1 hq1 => ?_)
      subst hq1
      refine gEx.top (v := .inl (σ 1 (18 * i + j))) (congrArg Sum.inl (cpM_lo σ (by omega))) ?_
      refine g_iastN (n := 7200) (j := (18) * (s.2.length) + j) dX7_copy_51 (mIn (by decide)) rfl (by omega) (by omega) ?_
      refine g_iinc (nI (j + 1)) dX7_copy_52 rfl (show nI (j) + nI 1 = _ from nI_add _ _) (by decide) ?_
      refine g_goto 26 dX7_copy_55 (by decide) ?_
      rw [cpM_s]
      exact ih (j + 1) (by omega) (by omega)

set_option maxRecDepth 100000 in
/-- copy -/
theorem m_copyT {R A : Nat} (hRA : pRA R A) {cm : Nat} {s : pT} {σ : gSt} (hc : mRel R A cm s σ) {i : Nat} {x : pMsg} (hx : s.2[i]? = some x) (hs : s.2.length + 1 ≤ 400) : gEM mG mX7_copy 0 [.inr (0), .inl (nI (i))] σ (gR (nI (s.2.length + 1)) (mP R A cm (tCopy x s) 0)) := by
  obtain ⟨hR1, hR6, hA35⟩ := hRA
  have hA5 : A ≤ 5 := by omega
  have hi := (List.getElem?_eq_some_iff.mp hx).1
  refine gEM_of (by decide +kernel) rfl (Nat.le_of_ble_eq_true rfl) ?_
  refine g_aload_n dX7_copy_0 rfl ?_
  refine g_aload_n dX7_copy_1 rfl ?_
  refine g_iload_n dX7_copy_2 rfl ?_
  refine g_callVi (nI (1)) (n9 := 1) [.inl (nI (i))] [.inr (0)] (m_isGT hc.1.2.2.1 hi (by omega)) dX7_copy_3 (gU_V uw_4_17 uw_4_19 us_1_8 uw_1_8 uw_4_20) rfl (by decide +kernel) rfl ⟨by decide, by decide⟩ (mIn (by decide)) rfl rfl rfl (Nat.le_of_ble_eq_true rfl) (fun σ1 hp1 => ?_)
  subst hp1
  refine g_callVi (nI (0)) (n9 := 1) [.inl (nI (1))] [] (m_lacks1) dX7_copy_6 (gU_V uw_3_218 uw_3_220 us_1_4 uw_1_8 uw_3_221) rfl (by decide +kernel) rfl ⟨by decide, by decide⟩ (mIn (by decide)) rfl rfl rfl (Nat.le_of_ble_eq_true rfl) (fun σ2 hq2 => ?_)
  subst hq2
  have hP := mP_thr hc 0
  have hc1 := hP.1
  refine g_if_eq 14 dX7_copy_9 (by decide) (fun h9 => ?_) (fun h9 => ?_)
  · skip
    rw [nI_z (by omega)] at h9
    refine g_aload_n dX7_copy_14 rfl ?_
    refine g_iconst (nI (1)) dX7_copy_15 (by decide) ?_
    refine g_callVi (bI (s.2.length + (1) ≤ 400)) (n9 := 1) [.inl (nI (1))] [] (m_room hc1.1.2.2.1 (by omega) (by omega)) dX7_copy_16 (gU_V uw_3_222 uw_3_224 us_1_5 uw_1_8 uw_3_225) rfl (by decide +kernel) rfl ⟨by decide, by decide⟩ (mIn (by decide)) rfl rfl rfl (Nat.le_of_ble_eq_true rfl) (fun σ3 hq3 => ?_)
    subst hq3
    refine g_if_ne 24 dX7_copy_19 (by decide) (fun h19 => ?_) (fun h19 => ?_)
    · skip
      rw [bI_z] at h19
      refine g_iconst (nI (0)) dX7_copy_24 (by decide) ?_
      refine g_istore_n dX7_copy_25 (by decide) ?_
      have := m_copy_l ⟨hR1, hR6, hA35⟩ hc1 hx hs 19 0 (by decide) (by decide)
      rw [cpM_0] at this
      exact gEx_post this (fun o τ q => ⟨q.1, q.2.1, q.2.2.2⟩)
    · skip
      rw [bI_z] at h19
      exfalso; omega
  · skip
    rw [nI_z (by omega)] at h9
    exfalso; omega

set_option maxRecDepth 100000 in
/-- copy -/
theorem m_copyF {R A : Nat} (hRA : pRA R A) {cm : Nat} {s : pT} {σ : gSt} (hc : mRel R A cm s σ) {i : Nat} (hi : i < s.2.length) (hlen : s.2.length ≤ 400) (hs : ¬ s.2.length + 1 ≤ 400) : gEM mG mX7_copy 0 [.inr (0), .inl (nI (i))] σ (gR (-1) (mP R A cm s 0)) := by
  obtain ⟨hR1, hR6, hA35⟩ := hRA
  have hA5 : A ≤ 5 := by omega
  refine gEM_of (by decide +kernel) rfl (Nat.le_of_ble_eq_true rfl) ?_
  refine g_aload_n dX7_copy_0 rfl ?_
  refine g_aload_n dX7_copy_1 rfl ?_
  refine g_iload_n dX7_copy_2 rfl ?_
  refine g_callVi (nI (1)) (n9 := 1) [.inl (nI (i))] [.inr (0)] (m_isGT hc.1.2.2.1 hi (by omega)) dX7_copy_3 (gU_V uw_4_17 uw_4_19 us_1_8 uw_1_8 uw_4_20) rfl (by decide +kernel) rfl ⟨by decide, by decide⟩ (mIn (by decide)) rfl rfl rfl (Nat.le_of_ble_eq_true rfl) (fun σ1 hp1 => ?_)
  subst hp1
  refine g_callVi (nI (0)) (n9 := 1) [.inl (nI (1))] [] (m_lacks1) dX7_copy_6 (gU_V uw_3_218 uw_3_220 us_1_4 uw_1_8 uw_3_221) rfl (by decide +kernel) rfl ⟨by decide, by decide⟩ (mIn (by decide)) rfl rfl rfl (Nat.le_of_ble_eq_true rfl) (fun σ2 hq2 => ?_)
  subst hq2
  have hP := mP_thr hc 0
  have hc1 := hP.1
  refine g_if_eq 14 dX7_copy_9 (by decide) (fun h9 => ?_) (fun h9 => ?_)
  · skip
    rw [nI_z (by omega)] at h9
    refine g_aload_n dX7_copy_14 rfl ?_
    refine g_iconst (nI (1)) dX7_copy_15 (by decide) ?_
    refine g_callVi (bI (s.2.length + (1) ≤ 400)) (n9 := 1) [.inl (nI (1))] [] (m_room hc1.1.2.2.1 (by omega) (by omega)) dX7_copy_16 (gU_V uw_3_222 uw_3_224 us_1_5 uw_1_8 uw_3_225) rfl (by decide +kernel) rfl ⟨by decide, by decide⟩ (mIn (by decide)) rfl rfl rfl (Nat.le_of_ble_eq_true rfl) (fun σ3 hq3 => ?_)
    subst hq3
    refine g_if_ne 24 dX7_copy_19 (by decide) (fun h19 => ?_) (fun h19 => ?_)
    · skip
      rw [bI_z] at h19
      exfalso; omega
    · skip
      rw [bI_z] at h19
      refine g_iconst ((-1)) dX7_copy_22 (by decide) ?_
      exact g_iret dX7_copy_23 rfl (⟨rfl, hP⟩)
  · skip
    rw [nI_z (by omega)] at h9
    exfalso; omega

set_option maxRecDepth 100000 in
/-- copy -/
theorem m_copyX {R A : Nat} (hRA : pRA R A) {cm : Nat} {s : pT} {σ : gSt} (hc : mRel R A cm s σ) {y : Int32} (hy : y < 0 ∨ nI s.2.length ≤ y) : gEM mG mX7_copy 0 [.inr (0), .inl (y)] σ (gR 0 (mP R A cm s 1)) := by
  refine gEM_of (by decide +kernel) rfl (Nat.le_of_ble_eq_true rfl) ?_
  refine g_aload_n dX7_copy_0 rfl ?_
  refine g_aload_n dX7_copy_1 rfl ?_
  refine g_iload_n dX7_copy_2 rfl ?_
  refine g_callVi (nI (0)) (n9 := 1) [.inl (y)] [.inr (0)] (m_isGF hc.1.2.2.1 hy) dX7_copy_3 (gU_V uw_4_17 uw_4_19 us_1_8 uw_1_8 uw_4_20) rfl (by decide +kernel) rfl ⟨by decide, by decide⟩ (mIn (by decide)) rfl rfl rfl (Nat.le_of_ble_eq_true rfl) (fun σ1 hp1 => ?_)
  subst hp1
  refine g_callVi (nI (1)) (n9 := 1) [.inl (nI (0))] [] (m_lacks0) dX7_copy_6 (gU_V uw_3_218 uw_3_220 us_1_4 uw_1_8 uw_3_221) rfl (by decide +kernel) rfl ⟨by decide, by decide⟩ (mIn (by decide)) rfl rfl rfl (Nat.le_of_ble_eq_true rfl) (fun σ2 hq2 => ?_)
  subst hq2
  have hP := mP_thr hc 1
  refine g_if_eq 14 dX7_copy_9 (by decide) (fun h9 => ?_) (fun h9 => ?_)
  · skip
    rw [nI_z (by omega)] at h9
    exfalso; omega
  · skip
    rw [nI_z (by omega)] at h9
    refine g_iconst (nI (0)) dX7_copy_12 (by decide) ?_
    exact g_iret dX7_copy_13 rfl (⟨rfl, hP⟩)
