set_option maxRecDepth 100000 in
/-- message -/
theorem m_msgT {R A : Nat} (hRA : pRA R A) {cm : Nat} {s : pT} {σ : gSt} (hc : mRel R A cm s σ) (hlen : s.2.length ≤ 400) {i : Nat} {x : pMsg} (hx : s.2[i]? = some x) {j : Nat} (hj : j < 6) : gEM mG mX7_message 0 [.inr (0), .inl (nI (i)), .inl (nI (j))] σ (gR (pt x j) (mP R A cm s 0)) := by
  obtain ⟨hR1, hR6, hA35⟩ := hRA
  have hA5 : A ≤ 5 := by omega
  have hi := (List.getElem?_eq_some_iff.mp hx).1
  refine gEM_of (by decide +kernel) rfl (Nat.le_of_ble_eq_true rfl) ?_
  refine g_aload_n dX7_message_0 rfl ?_
  refine g_aload_n dX7_message_1 rfl ?_
  refine g_iload_n dX7_message_2 rfl ?_
  refine g_callVi (nI (1)) (n9 := 1) [.inl (nI (i))] [.inr (0)] (m_isGT hc.1.2.2.1 hi (by omega)) dX7_message_3 (gU_V uw_4_17 uw_4_19 us_1_8 uw_1_8 uw_4_20) rfl (by decide +kernel) rfl ⟨by decide, by decide⟩ (mIn (by decide)) rfl rfl rfl (Nat.le_of_ble_eq_true rfl) (fun σ1 hp1 => ?_)
  subst hp1
  refine g_callVi (nI (0)) (n9 := 1) [.inl (nI (1))] [] (m_lacks1) dX7_message_6 (gU_V uw_3_218 uw_3_220 us_1_4 uw_1_8 uw_3_221) rfl (by decide +kernel) rfl ⟨by decide, by decide⟩ (mIn (by decide)) rfl rfl rfl (Nat.le_of_ble_eq_true rfl) (fun σ2 hq2 => ?_)
  subst hq2
  have hP := mP_thr hc 0
  have hc1 := hP.1
  refine g_if_eq 14 dX7_message_9 (by decide) (fun h9 => ?_) (fun h9 => ?_)
  · skip
    rw [nI_z (by omega)] at h9
    refine g_iload_n dX7_message_14 rfl ?_
    refine g_if_lt 23 dX7_message_15 (by decide) (fun h15 => ?_) (fun h15 => ?_)
    · skip
      rw [nI_n (by omega)] at h15
      exact h15.elim
    · skip
      rw [nI_n (by omega)] at h15
      refine g_iload_n dX7_message_18 rfl ?_
      refine g_iconst (nI (5)) dX7_message_19 (by decide) ?_
      refine g_icmp_le 27 dX7_message_20 (by decide) (fun h20 => ?_) (fun h20 => ?_)
      · skip
        rw [nI_leI (by omega) (by omega)] at h20
        refine g_aload_n dX7_message_27 rfl ?_
        refine g_iload_n dX7_message_28 rfl ?_
        refine g_iload_n dX7_message_29 rfl ?_
        refine g_callVi (_) (n9 := 2) [.inl (nI (i)), .inl (nI (j))] [] (m_of (i := i) (j := j) (by omega)) dX7_message_30 (gU_V uw_4_25 uw_4_27 us_1_10 uw_1_8 uw_4_28) rfl (by decide +kernel) rfl ⟨by decide, by decide⟩ (mIn (by decide)) rfl rfl rfl (Nat.le_of_ble_eq_true rfl) (fun τ1 hq1 => ?_)
        subst hq1
        refine gEx.top (v := .inl (pt x j)) (congrArg Sum.inl ((hc1.2.1 i x hx).1 j hj)) ?_
        exact g_iret dX7_message_33 rfl (⟨rfl, hP⟩)
      · skip
        rw [nI_leI (by omega) (by omega)] at h20
        exfalso; omega
  · skip
    rw [nI_z (by omega)] at h9
    exfalso; omega

set_option maxRecDepth 100000 in
/-- message -/
theorem m_msgN {R A : Nat} (hRA : pRA R A) {cm : Nat} {s : pT} {σ : gSt} (hc : mRel R A cm s σ) (hlen : s.2.length ≤ 400) {i : Nat} (hi : i < s.2.length) {y : Int32} (hy : y < 0 ∨ nI 6 ≤ y) : gEM mG mX7_message 0 [.inr (0), .inl (nI (i)), .inl (y)] σ (gR (-1) (mP R A cm s 0)) := by
  obtain ⟨hR1, hR6, hA35⟩ := hRA
  have hA5 : A ≤ 5 := by omega
  refine gEM_of (by decide +kernel) rfl (Nat.le_of_ble_eq_true rfl) ?_
  refine g_aload_n dX7_message_0 rfl ?_
  refine g_aload_n dX7_message_1 rfl ?_
  refine g_iload_n dX7_message_2 rfl ?_
  refine g_callVi (nI (1)) (n9 := 1) [.inl (nI (i))] [.inr (0)] (m_isGT hc.1.2.2.1 hi (by omega)) dX7_message_3 (gU_V uw_4_17 uw_4_19 us_1_8 uw_1_8 uw_4_20) rfl (by decide +kernel) rfl ⟨by decide, by decide⟩ (mIn (by decide)) rfl rfl rfl (Nat.le_of_ble_eq_true rfl) (fun σ1 hp1 => ?_)
  subst hp1
  refine g_callVi (nI (0)) (n9 := 1) [.inl (nI (1))] [] (m_lacks1) dX7_message_6 (gU_V uw_3_218 uw_3_220 us_1_4 uw_1_8 uw_3_221) rfl (by decide +kernel) rfl ⟨by decide, by decide⟩ (mIn (by decide)) rfl rfl rfl (Nat.le_of_ble_eq_true rfl) (fun σ2 hq2 => ?_)
  subst hq2
  have hP := mP_thr hc 0
  have hc1 := hP.1
  refine g_if_eq 14 dX7_message_9 (by decide) (fun h9 => ?_) (fun h9 => ?_)
  · skip
    rw [nI_z (by omega)] at h9
    refine g_iload_n dX7_message_14 rfl ?_
    refine g_if_lt 23 dX7_message_15 (by decide) (fun h15 => ?_) (fun h15 => ?_)
    · skip
      refine g_iconst ((-1)) dX7_message_23 (by decide) ?_
      refine g_goto 33 dX7_message_24 (by decide) ?_
      exact g_iret dX7_message_33 rfl (⟨rfl, hP⟩)
    · skip
      refine g_iload_n dX7_message_18 rfl ?_
      refine g_iconst (nI (5)) dX7_message_19 (by decide) ?_
      refine g_icmp_le 27 dX7_message_20 (by decide) (fun h20 => ?_) (fun h20 => ?_)
      · skip
        skip
        rcases hy with q | q
        · exact absurd q h15
        · exact absurd (Int32.le_trans q h20) (by decide)
      · skip
        skip
        refine g_iconst ((-1)) dX7_message_23 (by decide) ?_
        refine g_goto 33 dX7_message_24 (by decide) ?_
        exact g_iret dX7_message_33 rfl (⟨rfl, hP⟩)
  · skip
    rw [nI_z (by omega)] at h9
    exfalso; omega

set_option maxRecDepth 100000 in
/-- message -/
theorem m_msgX {R A : Nat} (hRA : pRA R A) {cm : Nat} {s : pT} {σ : gSt} (hc : mRel R A cm s σ) {z : Int32} (hz : z < 0 ∨ nI s.2.length ≤ z) {y : Int32} : gEM mG mX7_message 0 [.inr (0), .inl (z), .inl (y)] σ (gR 0 (mP R A cm s 1)) := by
  refine gEM_of (by decide +kernel) rfl (Nat.le_of_ble_eq_true rfl) ?_
  refine g_aload_n dX7_message_0 rfl ?_
  refine g_aload_n dX7_message_1 rfl ?_
  refine g_iload_n dX7_message_2 rfl ?_
  refine g_callVi (nI (0)) (n9 := 1) [.inl (z)] [.inr (0)] (m_isGF hc.1.2.2.1 hz) dX7_message_3 (gU_V uw_4_17 uw_4_19 us_1_8 uw_1_8 uw_4_20) rfl (by decide +kernel) rfl ⟨by decide, by decide⟩ (mIn (by decide)) rfl rfl rfl (Nat.le_of_ble_eq_true rfl) (fun σ1 hp1 => ?_)
  subst hp1
  refine g_callVi (nI (1)) (n9 := 1) [.inl (nI (0))] [] (m_lacks0) dX7_message_6 (gU_V uw_3_218 uw_3_220 us_1_4 uw_1_8 uw_3_221) rfl (by decide +kernel) rfl ⟨by decide, by decide⟩ (mIn (by decide)) rfl rfl rfl (Nat.le_of_ble_eq_true rfl) (fun σ2 hq2 => ?_)
  subst hq2
  have hP := mP_thr hc 1
  refine g_if_eq 14 dX7_message_9 (by decide) (fun h9 => ?_) (fun h9 => ?_)
  · skip
    rw [nI_z (by omega)] at h9
    exfalso; omega
  · skip
    rw [nI_z (by omega)] at h9
    refine g_iconst (nI (0)) dX7_message_12 (by decide) ?_
    exact g_iret dX7_message_13 rfl (⟨rfl, hP⟩)

set_option maxRecDepth 100000 in
/-- told -/
theorem m_toldK {R A : Nat} (hRA : pRA R A) {cm : Nat} {s : pT} {σ : gSt} (hc : mRel R A cm s σ) (hlen : s.2.length ≤ 400) {i : Nat} {x : pMsg} (hx : s.2[i]? = some x) (hp : pMk R A x) {m : Nat} (hm : m < R) (hk : x 0 ≠ 3) {f : Int32} : gEM mG mX7_told 0 [.inr (0), .inl (nI (i)), .inl (nI (m)), .inl (f)] σ (gR (-1) (mP R A cm s 0)) := by
  obtain ⟨hR1, hR6, hA35⟩ := hRA
  have hA5 : A ≤ 5 := by omega
  have hi := (List.getElem?_eq_some_iff.mp hx).1
  have hx5 := hp.2.2.2.2.2.2.2
  refine gEM_of (by decide +kernel) rfl (Nat.le_of_ble_eq_true rfl) ?_
  refine g_aload_n dX7_told_0 rfl ?_
  refine g_aload_n dX7_told_1 rfl ?_
  refine g_iload_n dX7_told_2 rfl ?_
  refine g_callVi (nI (1)) (n9 := 1) [.inl (nI (i))] [.inr (0)] (m_isGT hc.1.2.2.1 hi (by omega)) dX7_told_3 (gU_V uw_4_17 uw_4_19 us_1_8 uw_1_8 uw_4_20) rfl (by decide +kernel) rfl ⟨by decide, by decide⟩ (mIn (by decide)) rfl rfl rfl (Nat.le_of_ble_eq_true rfl) (fun σ1 hp1 => ?_)
  subst hp1
  refine g_if_eq 21 dX7_told_6 (by decide) (fun h6 => ?_) (fun h6 => ?_)
  · skip
    rw [nI_z (by omega)] at h6
    exfalso; omega
  · skip
    rw [nI_z (by omega)] at h6
    refine g_aload_n dX7_told_9 rfl ?_
    refine g_iload_n dX7_told_10 rfl ?_
    refine g_callVi (nI (1)) (n9 := 1) [.inl (nI (m))] [.inr (0)] (m_isMT hc.1.1 hm (by omega)) dX7_told_11 (gU_V uw_3_214 uw_3_216 us_1_3 uw_1_8 uw_3_217) rfl (by decide +kernel) rfl ⟨by decide, by decide⟩ (mIn (by decide)) rfl rfl rfl (Nat.le_of_ble_eq_true rfl) (fun σ1 hp1 => ?_)
    subst hp1
    refine g_if_eq 21 dX7_told_14 (by decide) (fun h14 => ?_) (fun h14 => ?_)
    · skip
      rw [nI_z (by omega)] at h14
      exfalso; omega
    · skip
      rw [nI_z (by omega)] at h14
      refine g_iconst (nI (1)) dX7_told_17 (by decide) ?_
      refine g_goto 22 dX7_told_18 (by decide) ?_
      refine g_callVi (nI (0)) (n9 := 1) [.inl (nI (1))] [] (m_lacks1) dX7_told_22 (gU_V uw_3_218 uw_3_220 us_1_4 uw_1_8 uw_3_221) rfl (by decide +kernel) rfl ⟨by decide, by decide⟩ (mIn (by decide)) rfl rfl rfl (Nat.le_of_ble_eq_true rfl) (fun σ2 hq2 => ?_)
      subst hq2
      have hP := mP_thr hc 0
      have hc1 := hP.1
      refine g_if_eq 30 dX7_told_25 (by decide) (fun h25 => ?_) (fun h25 => ?_)
      · skip
        rw [nI_z (by omega)] at h25
        refine g_aload_n dX7_told_30 rfl ?_
        refine g_iload_n dX7_told_31 rfl ?_
        refine g_iconst (nI (0)) dX7_told_32 (by decide) ?_
        refine g_callVi (_) (n9 := 2) [.inl (nI (i)), .inl (nI (0))] [] (m_of (i := i) (j := 0) (by omega)) dX7_told_33 (gU_V uw_4_25 uw_4_27 us_1_10 uw_1_8 uw_4_28) rfl (by decide +kernel) rfl ⟨by decide, by decide⟩ (mIn (by decide)) rfl rfl rfl (Nat.le_of_ble_eq_true rfl) (fun τ1 hq1 => ?_)
        subst hq1
        refine gEx.top (v := .inl (nI (x 0))) (congrArg Sum.inl (((hc1.2.1 i x hx).1 0 (by decide)).trans (pt0 x hx5))) ?_
        refine g_iconst (nI (3)) dX7_told_36 (by decide) ?_
        refine g_icmp_eq 42 dX7_told_37 (by decide) (fun h37 => ?_) (fun h37 => ?_)
        · skip
          rw [nI_eq (by omega) (by omega)] at h37
          exfalso; omega
        · skip
          rw [nI_eq (by omega) (by omega)] at h37
          refine g_iconst ((-1)) dX7_told_40 (by decide) ?_
          exact g_iret dX7_told_41 rfl (⟨rfl, hP⟩)
      · skip
        rw [nI_z (by omega)] at h25
        exfalso; omega

set_option maxRecDepth 100000 in
/-- told -/
theorem m_toldB {R A : Nat} (hRA : pRA R A) {cm : Nat} {s : pT} {σ : gSt} (hc : mRel R A cm s σ) (hlen : s.2.length ≤ 400) {i : Nat} {x : pMsg} (hx : s.2[i]? = some x) (hp : pMk R A x) {m : Nat} (hm : m < R) (hk : x 0 = 3) : gEM mG mX7_told 0 [.inr (0), .inl (nI (i)), .inl (nI (m)), .inl (nI (1))] σ (gR (pB (x (6 + m))) (mP R A cm s 0)) := by
  obtain ⟨hR1, hR6, hA35⟩ := hRA
  have hA5 : A ≤ 5 := by omega
  have hi := (List.getElem?_eq_some_iff.mp hx).1
  have hx5 := hp.2.2.2.2.2.2.2
  refine gEM_of (by decide +kernel) rfl (Nat.le_of_ble_eq_true rfl) ?_
  refine g_aload_n dX7_told_0 rfl ?_
  refine g_aload_n dX7_told_1 rfl ?_
  refine g_iload_n dX7_told_2 rfl ?_
  refine g_callVi (nI (1)) (n9 := 1) [.inl (nI (i))] [.inr (0)] (m_isGT hc.1.2.2.1 hi (by omega)) dX7_told_3 (gU_V uw_4_17 uw_4_19 us_1_8 uw_1_8 uw_4_20) rfl (by decide +kernel) rfl ⟨by decide, by decide⟩ (mIn (by decide)) rfl rfl rfl (Nat.le_of_ble_eq_true rfl) (fun σ1 hp1 => ?_)
  subst hp1
  refine g_if_eq 21 dX7_told_6 (by decide) (fun h6 => ?_) (fun h6 => ?_)
  · skip
    rw [nI_z (by omega)] at h6
    exfalso; omega
  · skip
    rw [nI_z (by omega)] at h6
    refine g_aload_n dX7_told_9 rfl ?_
    refine g_iload_n dX7_told_10 rfl ?_
    refine g_callVi (nI (1)) (n9 := 1) [.inl (nI (m))] [.inr (0)] (m_isMT hc.1.1 hm (by omega)) dX7_told_11 (gU_V uw_3_214 uw_3_216 us_1_3 uw_1_8 uw_3_217) rfl (by decide +kernel) rfl ⟨by decide, by decide⟩ (mIn (by decide)) rfl rfl rfl (Nat.le_of_ble_eq_true rfl) (fun σ1 hp1 => ?_)
    subst hp1
    refine g_if_eq 21 dX7_told_14 (by decide) (fun h14 => ?_) (fun h14 => ?_)
    · skip
      rw [nI_z (by omega)] at h14
      exfalso; omega
    · skip
      rw [nI_z (by omega)] at h14
      refine g_iconst (nI (1)) dX7_told_17 (by decide) ?_
      refine g_goto 22 dX7_told_18 (by decide) ?_
      refine g_callVi (nI (0)) (n9 := 1) [.inl (nI (1))] [] (m_lacks1) dX7_told_22 (gU_V uw_3_218 uw_3_220 us_1_4 uw_1_8 uw_3_221) rfl (by decide +kernel) rfl ⟨by decide, by decide⟩ (mIn (by decide)) rfl rfl rfl (Nat.le_of_ble_eq_true rfl) (fun σ2 hq2 => ?_)
      subst hq2
      have hP := mP_thr hc 0
      have hc1 := hP.1
      refine g_if_eq 30 dX7_told_25 (by decide) (fun h25 => ?_) (fun h25 => ?_)
      · skip
        rw [nI_z (by omega)] at h25
        refine g_aload_n dX7_told_30 rfl ?_
        refine g_iload_n dX7_told_31 rfl ?_
        refine g_iconst (nI (0)) dX7_told_32 (by decide) ?_
        refine g_callVi (_) (n9 := 2) [.inl (nI (i)), .inl (nI (0))] [] (m_of (i := i) (j := 0) (by omega)) dX7_told_33 (gU_V uw_4_25 uw_4_27 us_1_10 uw_1_8 uw_4_28) rfl (by decide +kernel) rfl ⟨by decide, by decide⟩ (mIn (by decide)) rfl rfl rfl (Nat.le_of_ble_eq_true rfl) (fun τ1 hq1 => ?_)
        subst hq1
        refine gEx.top (v := .inl (nI (x 0))) (congrArg Sum.inl (((hc1.2.1 i x hx).1 0 (by decide)).trans (pt0 x hx5))) ?_
        refine g_iconst (nI (3)) dX7_told_36 (by decide) ?_
        refine g_icmp_eq 42 dX7_told_37 (by decide) (fun h37 => ?_) (fun h37 => ?_)
        · skip
          rw [nI_eq (by omega) (by omega)] at h37
          refine g_aload_n dX7_told_42 rfl ?_
          refine g_iload_n dX7_told_43 rfl ?_
          refine g_iload_n dX7_told_44 rfl ?_
          refine g_if_eq 53 dX7_told_45 (by decide) (fun h45 => ?_) (fun h45 => ?_)
          · skip
            rw [nI_z (by omega)] at h45
            exfalso; omega
          · skip
            rw [nI_z (by omega)] at h45
            refine g_bipush (nI (6)) dX7_told_48 (by decide) ?_
            refine g_goto 55 dX7_told_50 (by decide) ?_
            refine g_iload_n dX7_told_55 rfl ?_
            refine g_iadd dX7_told_56 ?_
            refine gEx.top (v := .inl (nI (6 + m))) (congrArg Sum.inl (nI_add _ _)) ?_
            refine g_callVi (_) (n9 := 2) [.inl (nI (i)), .inl (nI (6 + m))] [] (m_of (i := i) (j := 6 + m) (by omega)) dX7_told_57 (gU_V uw_4_25 uw_4_27 us_1_10 uw_1_8 uw_4_28) rfl (by decide +kernel) rfl ⟨by decide, by decide⟩ (mIn (by decide)) rfl rfl rfl (Nat.le_of_ble_eq_true rfl) (fun τ1 hq1 => ?_)
            subst hq1
            refine gEx.top (v := .inl (pB (x (6 + m)))) (congrArg Sum.inl (((hc1.2.1 i x hx).2 hk m hm).1)) ?_
            exact g_iret dX7_told_60 rfl (⟨rfl, hP⟩)
        · skip
          rw [nI_eq (by omega) (by omega)] at h37
          exfalso; omega
      · skip
        rw [nI_z (by omega)] at h25
        exfalso; omega

set_option maxRecDepth 100000 in
/-- told -/
theorem m_toldW {R A : Nat} (hRA : pRA R A) {cm : Nat} {s : pT} {σ : gSt} (hc : mRel R A cm s σ) (hlen : s.2.length ≤ 400) {i : Nat} {x : pMsg} (hx : s.2[i]? = some x) (hp : pMk R A x) {m : Nat} (hm : m < R) (hk : x 0 = 3) : gEM mG mX7_told 0 [.inr (0), .inl (nI (i)), .inl (nI (m)), .inl (nI (0))] σ (gR (nI (x (6 + m) % 4)) (mP R A cm s 0)) := by
  obtain ⟨hR1, hR6, hA35⟩ := hRA
  have hA5 : A ≤ 5 := by omega
  have hi := (List.getElem?_eq_some_iff.mp hx).1
  have hx5 := hp.2.2.2.2.2.2.2
  refine gEM_of (by decide +kernel) rfl (Nat.le_of_ble_eq_true rfl) ?_
  refine g_aload_n dX7_told_0 rfl ?_
  refine g_aload_n dX7_told_1 rfl ?_
  refine g_iload_n dX7_told_2 rfl ?_
  refine g_callVi (nI (1)) (n9 := 1) [.inl (nI (i))] [.inr (0)] (m_isGT hc.1.2.2.1 hi (by omega)) dX7_told_3 (gU_V uw_4_17 uw_4_19 us_1_8 uw_1_8 uw_4_20) rfl (by decide +kernel) rfl ⟨by decide, by decide⟩ (mIn (by decide)) rfl rfl rfl (Nat.le_of_ble_eq_true rfl) (fun σ1 hp1 => ?_)
  subst hp1
  refine g_if_eq 21 dX7_told_6 (by decide) (fun h6 => ?_) (fun h6 => ?_)
  · skip
    rw [nI_z (by omega)] at h6
    exfalso; omega
  · skip
    rw [nI_z (by omega)] at h6
    refine g_aload_n dX7_told_9 rfl ?_
    refine g_iload_n dX7_told_10 rfl ?_
    refine g_callVi (nI (1)) (n9 := 1) [.inl (nI (m))] [.inr (0)] (m_isMT hc.1.1 hm (by omega)) dX7_told_11 (gU_V uw_3_214 uw_3_216 us_1_3 uw_1_8 uw_3_217) rfl (by decide +kernel) rfl ⟨by decide, by decide⟩ (mIn (by decide)) rfl rfl rfl (Nat.le_of_ble_eq_true rfl) (fun σ1 hp1 => ?_)
    subst hp1
    refine g_if_eq 21 dX7_told_14 (by decide) (fun h14 => ?_) (fun h14 => ?_)
    · skip
      rw [nI_z (by omega)] at h14
      exfalso; omega
    · skip
      rw [nI_z (by omega)] at h14
      refine g_iconst (nI (1)) dX7_told_17 (by decide) ?_
      refine g_goto 22 dX7_told_18 (by decide) ?_
      refine g_callVi (nI (0)) (n9 := 1) [.inl (nI (1))] [] (m_lacks1) dX7_told_22 (gU_V uw_3_218 uw_3_220 us_1_4 uw_1_8 uw_3_221) rfl (by decide +kernel) rfl ⟨by decide, by decide⟩ (mIn (by decide)) rfl rfl rfl (Nat.le_of_ble_eq_true rfl) (fun σ2 hq2 => ?_)
      subst hq2
      have hP := mP_thr hc 0
      have hc1 := hP.1
      refine g_if_eq 30 dX7_told_25 (by decide) (fun h25 => ?_) (fun h25 => ?_)
      · skip
        rw [nI_z (by omega)] at h25
        refine g_aload_n dX7_told_30 rfl ?_
        refine g_iload_n dX7_told_31 rfl ?_
        refine g_iconst (nI (0)) dX7_told_32 (by decide) ?_
        refine g_callVi (_) (n9 := 2) [.inl (nI (i)), .inl (nI (0))] [] (m_of (i := i) (j := 0) (by omega)) dX7_told_33 (gU_V uw_4_25 uw_4_27 us_1_10 uw_1_8 uw_4_28) rfl (by decide +kernel) rfl ⟨by decide, by decide⟩ (mIn (by decide)) rfl rfl rfl (Nat.le_of_ble_eq_true rfl) (fun τ1 hq1 => ?_)
        subst hq1
        refine gEx.top (v := .inl (nI (x 0))) (congrArg Sum.inl (((hc1.2.1 i x hx).1 0 (by decide)).trans (pt0 x hx5))) ?_
        refine g_iconst (nI (3)) dX7_told_36 (by decide) ?_
        refine g_icmp_eq 42 dX7_told_37 (by decide) (fun h37 => ?_) (fun h37 => ?_)
        · skip
          rw [nI_eq (by omega) (by omega)] at h37
          refine g_aload_n dX7_told_42 rfl ?_
          refine g_iload_n dX7_told_43 rfl ?_
          refine g_iload_n dX7_told_44 rfl ?_
          refine g_if_eq 53 dX7_told_45 (by decide) (fun h45 => ?_) (fun h45 => ?_)
          · skip
            rw [nI_z (by omega)] at h45
            refine g_bipush (nI (12)) dX7_told_53 (by decide) ?_
            refine g_iload_n dX7_told_55 rfl ?_
            refine g_iadd dX7_told_56 ?_
            refine gEx.top (v := .inl (nI (12 + m))) (congrArg Sum.inl (nI_add _ _)) ?_
            refine g_callVi (_) (n9 := 2) [.inl (nI (i)), .inl (nI (12 + m))] [] (m_of (i := i) (j := 12 + m) (by omega)) dX7_told_57 (gU_V uw_4_25 uw_4_27 us_1_10 uw_1_8 uw_4_28) rfl (by decide +kernel) rfl ⟨by decide, by decide⟩ (mIn (by decide)) rfl rfl rfl (Nat.le_of_ble_eq_true rfl) (fun τ1 hq1 => ?_)
            subst hq1
            refine gEx.top (v := .inl (nI (x (6 + m) % 4))) (congrArg Sum.inl (((hc1.2.1 i x hx).2 hk m hm).2)) ?_
            exact g_iret dX7_told_60 rfl (⟨rfl, hP⟩)
          · skip
            rw [nI_z (by omega)] at h45
            exfalso; omega
        · skip
          rw [nI_eq (by omega) (by omega)] at h37
          exfalso; omega
      · skip
        rw [nI_z (by omega)] at h25
        exfalso; omega

set_option maxRecDepth 100000 in
/-- told -/
theorem m_toldX {R A : Nat} (hRA : pRA R A) {cm : Nat} {s : pT} {σ : gSt} (hc : mRel R A cm s σ) {z : Int32} (hz : z < 0 ∨ nI s.2.length ≤ z) {y f : Int32} : gEM mG mX7_told 0 [.inr (0), .inl (z), .inl (y), .inl (f)] σ (gR 0 (mP R A cm s 1)) := by
  refine gEM_of (by decide +kernel) rfl (Nat.le_of_ble_eq_true rfl) ?_
  refine g_aload_n dX7_told_0 rfl ?_
  refine g_aload_n dX7_told_1 rfl ?_
  refine g_iload_n dX7_told_2 rfl ?_
  refine g_callVi (nI (0)) (n9 := 1) [.inl (z)] [.inr (0)] (m_isGF hc.1.2.2.1 hz) dX7_told_3 (gU_V uw_4_17 uw_4_19 us_1_8 uw_1_8 uw_4_20) rfl (by decide +kernel) rfl ⟨by decide, by decide⟩ (mIn (by decide)) rfl rfl rfl (Nat.le_of_ble_eq_true rfl) (fun σ1 hp1 => ?_)
  subst hp1
  refine g_if_eq 21 dX7_told_6 (by decide) (fun h6 => ?_) (fun h6 => ?_)
  · skip
    rw [nI_z (by omega)] at h6
    refine g_iconst (nI (0)) dX7_told_21 (by decide) ?_
    refine g_callVi (nI (1)) (n9 := 1) [.inl (nI (0))] [] (m_lacks0) dX7_told_22 (gU_V uw_3_218 uw_3_220 us_1_4 uw_1_8 uw_3_221) rfl (by decide +kernel) rfl ⟨by decide, by decide⟩ (mIn (by decide)) rfl rfl rfl (Nat.le_of_ble_eq_true rfl) (fun σ2 hq2 => ?_)
    subst hq2
    have hP := mP_thr hc 1
    refine g_if_eq 30 dX7_told_25 (by decide) (fun h25 => ?_) (fun h25 => ?_)
    · skip
      rw [nI_z (by omega)] at h25
      exfalso; omega
    · skip
      rw [nI_z (by omega)] at h25
      refine g_iconst (nI (0)) dX7_told_28 (by decide) ?_
      exact g_iret dX7_told_29 rfl (⟨rfl, hP⟩)
  · skip
    rw [nI_z (by omega)] at h6
    exfalso; omega

set_option maxRecDepth 100000 in
/-- told -/
theorem m_toldY {R A : Nat} (hRA : pRA R A) {cm : Nat} {s : pT} {σ : gSt} (hc : mRel R A cm s σ) (hlen : s.2.length ≤ 400) {i : Nat} (hi : i < s.2.length) {y f : Int32} (hy : y < 0 ∨ nI R ≤ y) : gEM mG mX7_told 0 [.inr (0), .inl (nI (i)), .inl (y), .inl (f)] σ (gR 0 (mP R A cm s 1)) := by
  obtain ⟨hR1, hR6, hA35⟩ := hRA
  have hA5 : A ≤ 5 := by omega
  refine gEM_of (by decide +kernel) rfl (Nat.le_of_ble_eq_true rfl) ?_
  refine g_aload_n dX7_told_0 rfl ?_
  refine g_aload_n dX7_told_1 rfl ?_
  refine g_iload_n dX7_told_2 rfl ?_
  refine g_callVi (nI (1)) (n9 := 1) [.inl (nI (i))] [.inr (0)] (m_isGT hc.1.2.2.1 hi (by omega)) dX7_told_3 (gU_V uw_4_17 uw_4_19 us_1_8 uw_1_8 uw_4_20) rfl (by decide +kernel) rfl ⟨by decide, by decide⟩ (mIn (by decide)) rfl rfl rfl (Nat.le_of_ble_eq_true rfl) (fun σ1 hp1 => ?_)
  subst hp1
  refine g_if_eq 21 dX7_told_6 (by decide) (fun h6 => ?_) (fun h6 => ?_)
  · skip
    rw [nI_z (by omega)] at h6
    exfalso; omega
  · skip
    rw [nI_z (by omega)] at h6
    refine g_aload_n dX7_told_9 rfl ?_
    refine g_iload_n dX7_told_10 rfl ?_
    refine g_callVi (nI (0)) (n9 := 1) [.inl (y)] [.inr (0)] (m_isMF hc.1.1 hy) dX7_told_11 (gU_V uw_3_214 uw_3_216 us_1_3 uw_1_8 uw_3_217) rfl (by decide +kernel) rfl ⟨by decide, by decide⟩ (mIn (by decide)) rfl rfl rfl (Nat.le_of_ble_eq_true rfl) (fun σ1 hp1 => ?_)
    subst hp1
    refine g_if_eq 21 dX7_told_14 (by decide) (fun h14 => ?_) (fun h14 => ?_)
    · skip
      rw [nI_z (by omega)] at h14
      refine g_iconst (nI (0)) dX7_told_21 (by decide) ?_
      refine g_callVi (nI (1)) (n9 := 1) [.inl (nI (0))] [] (m_lacks0) dX7_told_22 (gU_V uw_3_218 uw_3_220 us_1_4 uw_1_8 uw_3_221) rfl (by decide +kernel) rfl ⟨by decide, by decide⟩ (mIn (by decide)) rfl rfl rfl (Nat.le_of_ble_eq_true rfl) (fun σ2 hq2 => ?_)
      subst hq2
      have hP := mP_thr hc 1
      refine g_if_eq 30 dX7_told_25 (by decide) (fun h25 => ?_) (fun h25 => ?_)
      · skip
        rw [nI_z (by omega)] at h25
        exfalso; omega
      · skip
        rw [nI_z (by omega)] at h25
        refine g_iconst (nI (0)) dX7_told_28 (by decide) ?_
        exact g_iret dX7_told_29 rfl (⟨rfl, hP⟩)
    · skip
      rw [nI_z (by omega)] at h14
      exfalso; omega

set_option maxRecDepth 100000 in
/-- manager -/
theorem m_man0 {R A : Nat} (hRA : pRA R A) {cm : Nat} {s : pT} {σ : gSt} (hc : mRel R A cm s σ) (hb : pBu s.1) {m : Nat} (hm : m < R) : gEM mG mX7_manager 0 [.inr (0), .inl (nI (m)), .inl (nI (0))] σ (gR (nI (s.1 3 m 0)) (mP R A cm s 0)) := by
  obtain ⟨hR1, hR6, hA35⟩ := hRA
  have hA5 : A ≤ 5 := by omega
  have h2 : s.1 2 0 m ≤ 1 := hb 2 0 m (by decide) (by decide)
  refine gEM_of (by decide +kernel) rfl (Nat.le_of_ble_eq_true rfl) ?_
  refine g_aload_n dX7_manager_0 rfl ?_
  refine g_aload_n dX7_manager_1 rfl ?_
  refine g_iload_n dX7_manager_2 rfl ?_
  refine g_callVi (nI (1)) (n9 := 1) [.inl (nI (m))] [.inr (0)] (m_isMT hc.1.1 hm (by omega)) dX7_manager_3 (gU_V uw_3_214 uw_3_216 us_1_3 uw_1_8 uw_3_217) rfl (by decide +kernel) rfl ⟨by decide, by decide⟩ (mIn (by decide)) rfl rfl rfl (Nat.le_of_ble_eq_true rfl) (fun σ1 hp1 => ?_)
  subst hp1
  refine g_callVi (nI (0)) (n9 := 1) [.inl (nI (1))] [] (m_lacks1) dX7_manager_6 (gU_V uw_3_218 uw_3_220 us_1_4 uw_1_8 uw_3_221) rfl (by decide +kernel) rfl ⟨by decide, by decide⟩ (mIn (by decide)) rfl rfl rfl (Nat.le_of_ble_eq_true rfl) (fun σ2 hq2 => ?_)
  subst hq2
  have hP := mP_thr hc 0
  have hc1 := hP.1
  refine g_if_eq 14 dX7_manager_9 (by decide) (fun h9 => ?_) (fun h9 => ?_)
  · skip
    rw [nI_z (by omega)] at h9
    refine g_iload_n dX7_manager_14 rfl ?_
    refine g_if_ne 27 dX7_manager_15 (by decide) (fun h15 => ?_) (fun h15 => ?_)
    · skip
      rw [nI_z (by omega)] at h15
      exfalso; omega
    · skip
      rw [nI_z (by omega)] at h15
      refine g_aload_n dX7_manager_18 rfl ?_
      refine g_getr (T := TX7) (N := 26) (Cn := RX7) (ref := "CommitCouncilModel") 9 dX7_manager_19 (mIn (by decide)) rfl rfl (fun w h => List.mem_cons_of_mem _ (hU7 w h)) (by decide) (List.mem_cons_of_mem _ uw_3_132) (Or.inl rfl) rfl ?_
      refine g_iload_n dX7_manager_22 rfl ?_
      refine g_ialdN (n := 6) (j := m) dX7_manager_23 (mIn (by decide)) rfl (by omega) (by omega) ?_
      refine gEx.top (v := .inl (nI (s.1 3 (m) 0))) (congrArg Sum.inl (mR_how hc1 (by omega))) ?_
      refine g_goto 52 dX7_manager_24 (by decide) ?_
      exact g_iret dX7_manager_52 rfl (⟨rfl, hP⟩)
  · skip
    rw [nI_z (by omega)] at h9
    exfalso; omega

set_option maxRecDepth 100000 in
/-- manager -/
theorem m_man1 {R A : Nat} (hRA : pRA R A) {cm : Nat} {s : pT} {σ : gSt} (hc : mRel R A cm s σ) (hb : pBu s.1) {m : Nat} (hm : m < R) : gEM mG mX7_manager 0 [.inr (0), .inl (nI (m)), .inl (nI (1))] σ (gR (nI (s.1 2 0 m)) (mP R A cm s 0)) := by
  obtain ⟨hR1, hR6, hA35⟩ := hRA
  have hA5 : A ≤ 5 := by omega
  have h2 : s.1 2 0 m ≤ 1 := hb 2 0 m (by decide) (by decide)
  refine gEM_of (by decide +kernel) rfl (Nat.le_of_ble_eq_true rfl) ?_
  refine g_aload_n dX7_manager_0 rfl ?_
  refine g_aload_n dX7_manager_1 rfl ?_
  refine g_iload_n dX7_manager_2 rfl ?_
  refine g_callVi (nI (1)) (n9 := 1) [.inl (nI (m))] [.inr (0)] (m_isMT hc.1.1 hm (by omega)) dX7_manager_3 (gU_V uw_3_214 uw_3_216 us_1_3 uw_1_8 uw_3_217) rfl (by decide +kernel) rfl ⟨by decide, by decide⟩ (mIn (by decide)) rfl rfl rfl (Nat.le_of_ble_eq_true rfl) (fun σ1 hp1 => ?_)
  subst hp1
  refine g_callVi (nI (0)) (n9 := 1) [.inl (nI (1))] [] (m_lacks1) dX7_manager_6 (gU_V uw_3_218 uw_3_220 us_1_4 uw_1_8 uw_3_221) rfl (by decide +kernel) rfl ⟨by decide, by decide⟩ (mIn (by decide)) rfl rfl rfl (Nat.le_of_ble_eq_true rfl) (fun σ2 hq2 => ?_)
  subst hq2
  have hP := mP_thr hc 0
  have hc1 := hP.1
  refine g_if_eq 14 dX7_manager_9 (by decide) (fun h9 => ?_) (fun h9 => ?_)
  · skip
    rw [nI_z (by omega)] at h9
    refine g_iload_n dX7_manager_14 rfl ?_
    refine g_if_ne 27 dX7_manager_15 (by decide) (fun h15 => ?_) (fun h15 => ?_)
    · skip
      rw [nI_z (by omega)] at h15
      refine g_iload_n dX7_manager_27 rfl ?_
      refine g_iconst (nI (1)) dX7_manager_28 (by decide) ?_
      refine g_icmp_ne 51 dX7_manager_29 (by decide) (fun h29 => ?_) (fun h29 => ?_)
      · skip
        rw [nI_eq (by omega) (by omega)] at h29
        exfalso; omega
      · skip
        rw [nI_eq (by omega) (by omega)] at h29
        refine g_aload_n dX7_manager_32 rfl ?_
        refine g_getr (T := TX7) (N := 26) (Cn := RX7) (ref := "CommitCouncilModel") 10 dX7_manager_33 (mIn (by decide)) rfl rfl (fun w h => List.mem_cons_of_mem _ (hU7 w h)) (by decide) (List.mem_cons_of_mem _ uw_3_133) (Or.inl rfl) rfl ?_
        refine g_iconst (nI (0)) dX7_manager_36 (by decide) ?_
        have hx1 : 0 < 3 := by omega
        refine g_aald5N (n := 3) (j := 0) dX7_manager_37 (mIn (by decide)) rfl hx1 (by omega) ?_
        refine g_iload_n dX7_manager_38 rfl ?_
        refine g_zaldN (n := 6) (j := m) dX7_manager_39 (mIn (by omega)) (mSh_u hx1) (by omega) (by omega) ?_
        refine gEx.top (v := .inl (nI (s.1 2 0 (m)))) (congrArg Sum.inl (mR_u0 hc1 (by omega))) ?_
        refine g_if_eq 47 dX7_manager_40 (by decide) (fun h40 => ?_) (fun h40 => ?_)
        · skip
          rw [nI_z (by omega)] at h40
          refine g_iconst (nI (0)) dX7_manager_47 (by decide) ?_
          refine g_goto 52 dX7_manager_48 (by decide) ?_
          exact g_iret dX7_manager_52 rfl (⟨by rw [show s.1 2 0 m = 0 by omega], hP⟩)
        · skip
          rw [nI_z (by omega)] at h40
          refine g_iconst (nI (1)) dX7_manager_43 (by decide) ?_
          refine g_goto 52 dX7_manager_44 (by decide) ?_
          exact g_iret dX7_manager_52 rfl (⟨by rw [show s.1 2 0 m = 1 by omega], hP⟩)
    · skip
      rw [nI_z (by omega)] at h15
      exfalso; omega
  · skip
    rw [nI_z (by omega)] at h9
    exfalso; omega

set_option maxRecDepth 100000 in
/-- manager -/
theorem m_manN {R A : Nat} (hRA : pRA R A) {cm : Nat} {s : pT} {σ : gSt} (hc : mRel R A cm s σ) (hb : pBu s.1) {m : Nat} (hm : m < R) {y : Int32} (hy : y < 0 ∨ nI 2 ≤ y) : gEM mG mX7_manager 0 [.inr (0), .inl (nI (m)), .inl (y)] σ (gR (-1) (mP R A cm s 0)) := by
  obtain ⟨hR1, hR6, hA35⟩ := hRA
  have hA5 : A ≤ 5 := by omega
  have h2 : s.1 2 0 m ≤ 1 := hb 2 0 m (by decide) (by decide)
  refine gEM_of (by decide +kernel) rfl (Nat.le_of_ble_eq_true rfl) ?_
  refine g_aload_n dX7_manager_0 rfl ?_
  refine g_aload_n dX7_manager_1 rfl ?_
  refine g_iload_n dX7_manager_2 rfl ?_
  refine g_callVi (nI (1)) (n9 := 1) [.inl (nI (m))] [.inr (0)] (m_isMT hc.1.1 hm (by omega)) dX7_manager_3 (gU_V uw_3_214 uw_3_216 us_1_3 uw_1_8 uw_3_217) rfl (by decide +kernel) rfl ⟨by decide, by decide⟩ (mIn (by decide)) rfl rfl rfl (Nat.le_of_ble_eq_true rfl) (fun σ1 hp1 => ?_)
  subst hp1
  refine g_callVi (nI (0)) (n9 := 1) [.inl (nI (1))] [] (m_lacks1) dX7_manager_6 (gU_V uw_3_218 uw_3_220 us_1_4 uw_1_8 uw_3_221) rfl (by decide +kernel) rfl ⟨by decide, by decide⟩ (mIn (by decide)) rfl rfl rfl (Nat.le_of_ble_eq_true rfl) (fun σ2 hq2 => ?_)
  subst hq2
  have hP := mP_thr hc 0
  have hc1 := hP.1
  refine g_if_eq 14 dX7_manager_9 (by decide) (fun h9 => ?_) (fun h9 => ?_)
  · skip
    rw [nI_z (by omega)] at h9
    refine g_iload_n dX7_manager_14 rfl ?_
    refine g_if_ne 27 dX7_manager_15 (by decide) (fun h15 => ?_) (fun h15 => ?_)
    · skip
      skip
      refine g_iload_n dX7_manager_27 rfl ?_
      refine g_iconst (nI (1)) dX7_manager_28 (by decide) ?_
      refine g_icmp_ne 51 dX7_manager_29 (by decide) (fun h29 => ?_) (fun h29 => ?_)
      · skip
        skip
        refine g_iconst ((-1)) dX7_manager_51 (by decide) ?_
        exact g_iret dX7_manager_52 rfl (⟨rfl, hP⟩)
      · skip
        skip
        exfalso; have e := Decidable.not_not.mp h29; subst e; revert hy; decide
    · skip
      skip
      exfalso; have e := Decidable.not_not.mp h15; subst e; revert hy; decide
  · skip
    rw [nI_z (by omega)] at h9
    exfalso; omega

set_option maxRecDepth 100000 in
/-- manager -/
theorem m_manX {R A : Nat} (hRA : pRA R A) {cm : Nat} {s : pT} {σ : gSt} (hc : mRel R A cm s σ) {z y : Int32} (hz : z < 0 ∨ nI R ≤ z) : gEM mG mX7_manager 0 [.inr (0), .inl (z), .inl (y)] σ (gR 0 (mP R A cm s 1)) := by
  refine gEM_of (by decide +kernel) rfl (Nat.le_of_ble_eq_true rfl) ?_
  refine g_aload_n dX7_manager_0 rfl ?_
  refine g_aload_n dX7_manager_1 rfl ?_
  refine g_iload_n dX7_manager_2 rfl ?_
  refine g_callVi (nI (0)) (n9 := 1) [.inl (z)] [.inr (0)] (m_isMF hc.1.1 hz) dX7_manager_3 (gU_V uw_3_214 uw_3_216 us_1_3 uw_1_8 uw_3_217) rfl (by decide +kernel) rfl ⟨by decide, by decide⟩ (mIn (by decide)) rfl rfl rfl (Nat.le_of_ble_eq_true rfl) (fun σ1 hp1 => ?_)
  subst hp1
  refine g_callVi (nI (1)) (n9 := 1) [.inl (nI (0))] [] (m_lacks0) dX7_manager_6 (gU_V uw_3_218 uw_3_220 us_1_4 uw_1_8 uw_3_221) rfl (by decide +kernel) rfl ⟨by decide, by decide⟩ (mIn (by decide)) rfl rfl rfl (Nat.le_of_ble_eq_true rfl) (fun σ2 hq2 => ?_)
  subst hq2
  have hP := mP_thr hc 1
  refine g_if_eq 14 dX7_manager_9 (by decide) (fun h9 => ?_) (fun h9 => ?_)
  · skip
    rw [nI_z (by omega)] at h9
    exfalso; omega
  · skip
    rw [nI_z (by omega)] at h9
    refine g_iconst (nI (0)) dX7_manager_12 (by decide) ?_
    exact g_iret dX7_manager_13 rfl (⟨rfl, hP⟩)

set_option maxRecDepth 100000 in
/-- acceptor -/
theorem m_acc0 {R A : Nat} (hRA : pRA R A) {cm : Nat} {s : pT} {σ : gSt} (hc : mRel R A cm s σ) (hb : pBu s.1) {a m : Nat} (ha : a < A) (hm : m < R) : gEM mG mX7_acceptor 0 [.inr (0), .inl (nI (a)), .inl (nI (m)), .inl (nI (0))] σ (gR (nI (s.1 5 a 0)) (mP R A cm s 0)) := by
  obtain ⟨hR1, hR6, hA35⟩ := hRA
  have hA5 : A ≤ 5 := by omega
  have h2 : s.1 2 1 a ≤ 1 := hb 2 1 a (by decide) (by decide)
  refine gEM_of (by decide +kernel) rfl (Nat.le_of_ble_eq_true rfl) ?_
  refine g_aload_n dX7_acceptor_0 rfl ?_
  refine g_aload_n dX7_acceptor_1 rfl ?_
  refine g_iload_n dX7_acceptor_2 rfl ?_
  refine g_callVi (nI (1)) (n9 := 1) [.inl (nI (a))] [.inr (0)] (m_isAT hc.1.2.1 ha (by omega)) dX7_acceptor_3 (gU_V uw_4_129 uw_4_131 us_2_10 uw_1_8 uw_4_132) rfl (by decide +kernel) rfl ⟨by decide, by decide⟩ (mIn (by decide)) rfl rfl rfl (Nat.le_of_ble_eq_true rfl) (fun σ1 hp1 => ?_)
  subst hp1
  refine g_if_eq 21 dX7_acceptor_6 (by decide) (fun h6 => ?_) (fun h6 => ?_)
  · skip
    rw [nI_z (by omega)] at h6
    exfalso; omega
  · skip
    rw [nI_z (by omega)] at h6
    refine g_aload_n dX7_acceptor_9 rfl ?_
    refine g_iload_n dX7_acceptor_10 rfl ?_
    refine g_callVi (nI (1)) (n9 := 1) [.inl (nI (m))] [.inr (0)] (m_isMT hc.1.1 hm (by omega)) dX7_acceptor_11 (gU_V uw_3_214 uw_3_216 us_1_3 uw_1_8 uw_3_217) rfl (by decide +kernel) rfl ⟨by decide, by decide⟩ (mIn (by decide)) rfl rfl rfl (Nat.le_of_ble_eq_true rfl) (fun σ1 hp1 => ?_)
    subst hp1
    refine g_if_eq 21 dX7_acceptor_14 (by decide) (fun h14 => ?_) (fun h14 => ?_)
    · skip
      rw [nI_z (by omega)] at h14
      exfalso; omega
    · skip
      rw [nI_z (by omega)] at h14
      refine g_iconst (nI (1)) dX7_acceptor_17 (by decide) ?_
      refine g_goto 22 dX7_acceptor_18 (by decide) ?_
      refine g_callVi (nI (0)) (n9 := 1) [.inl (nI (1))] [] (m_lacks1) dX7_acceptor_22 (gU_V uw_3_218 uw_3_220 us_1_4 uw_1_8 uw_3_221) rfl (by decide +kernel) rfl ⟨by decide, by decide⟩ (mIn (by decide)) rfl rfl rfl (Nat.le_of_ble_eq_true rfl) (fun σ2 hq2 => ?_)
      subst hq2
      have hP := mP_thr hc 0
      have hc1 := hP.1
      refine g_if_eq 30 dX7_acceptor_25 (by decide) (fun h25 => ?_) (fun h25 => ?_)
      · skip
        rw [nI_z (by omega)] at h25
        refine g_iload_n dX7_acceptor_30 rfl ?_
        refine g_tableIn (off := 29) 60 dX7_acceptor_31 (by decide) (by decide) (by decide) (by decide) ?_
        refine g_aload_n dX7_acceptor_60 rfl ?_
        refine g_getr (T := TX7) (N := 26) (Cn := RX7) (ref := "CommitCouncilModel") 11 dX7_acceptor_61 (mIn (by decide)) rfl rfl (fun w h => List.mem_cons_of_mem _ (hU7 w h)) (by decide) (List.mem_cons_of_mem _ uw_3_134) (Or.inl rfl) rfl ?_
        refine g_iload_n dX7_acceptor_64 rfl ?_
        refine g_ialdN (n := 5) (j := a) dX7_acceptor_65 (mIn (by decide)) rfl (by omega) (by omega) ?_
        refine gEx.top (v := .inl (nI (s.1 5 (a) 0))) (congrArg Sum.inl (mR_pro hc1 (by omega))) ?_
        exact g_iret dX7_acceptor_66 rfl (⟨rfl, hP⟩)
      · skip
        rw [nI_z (by omega)] at h25
        exfalso; omega

set_option maxRecDepth 100000 in
/-- acceptor -/
theorem m_acc1 {R A : Nat} (hRA : pRA R A) {cm : Nat} {s : pT} {σ : gSt} (hc : mRel R A cm s σ) (hb : pBu s.1) {a m : Nat} (ha : a < A) (hm : m < R) : gEM mG mX7_acceptor 0 [.inr (0), .inl (nI (a)), .inl (nI (m)), .inl (nI (1))] σ (gR (nI (s.1 2 1 a)) (mP R A cm s 0)) := by
  obtain ⟨hR1, hR6, hA35⟩ := hRA
  have hA5 : A ≤ 5 := by omega
  have h2 : s.1 2 1 a ≤ 1 := hb 2 1 a (by decide) (by decide)
  refine gEM_of (by decide +kernel) rfl (Nat.le_of_ble_eq_true rfl) ?_
  refine g_aload_n dX7_acceptor_0 rfl ?_
  refine g_aload_n dX7_acceptor_1 rfl ?_
  refine g_iload_n dX7_acceptor_2 rfl ?_
  refine g_callVi (nI (1)) (n9 := 1) [.inl (nI (a))] [.inr (0)] (m_isAT hc.1.2.1 ha (by omega)) dX7_acceptor_3 (gU_V uw_4_129 uw_4_131 us_2_10 uw_1_8 uw_4_132) rfl (by decide +kernel) rfl ⟨by decide, by decide⟩ (mIn (by decide)) rfl rfl rfl (Nat.le_of_ble_eq_true rfl) (fun σ1 hp1 => ?_)
  subst hp1
  refine g_if_eq 21 dX7_acceptor_6 (by decide) (fun h6 => ?_) (fun h6 => ?_)
  · skip
    rw [nI_z (by omega)] at h6
    exfalso; omega
  · skip
    rw [nI_z (by omega)] at h6
    refine g_aload_n dX7_acceptor_9 rfl ?_
    refine g_iload_n dX7_acceptor_10 rfl ?_
    refine g_callVi (nI (1)) (n9 := 1) [.inl (nI (m))] [.inr (0)] (m_isMT hc.1.1 hm (by omega)) dX7_acceptor_11 (gU_V uw_3_214 uw_3_216 us_1_3 uw_1_8 uw_3_217) rfl (by decide +kernel) rfl ⟨by decide, by decide⟩ (mIn (by decide)) rfl rfl rfl (Nat.le_of_ble_eq_true rfl) (fun σ1 hp1 => ?_)
    subst hp1
    refine g_if_eq 21 dX7_acceptor_14 (by decide) (fun h14 => ?_) (fun h14 => ?_)
    · skip
      rw [nI_z (by omega)] at h14
      exfalso; omega
    · skip
      rw [nI_z (by omega)] at h14
      refine g_iconst (nI (1)) dX7_acceptor_17 (by decide) ?_
      refine g_goto 22 dX7_acceptor_18 (by decide) ?_
      refine g_callVi (nI (0)) (n9 := 1) [.inl (nI (1))] [] (m_lacks1) dX7_acceptor_22 (gU_V uw_3_218 uw_3_220 us_1_4 uw_1_8 uw_3_221) rfl (by decide +kernel) rfl ⟨by decide, by decide⟩ (mIn (by decide)) rfl rfl rfl (Nat.le_of_ble_eq_true rfl) (fun σ2 hq2 => ?_)
      subst hq2
      have hP := mP_thr hc 0
      have hc1 := hP.1
      refine g_if_eq 30 dX7_acceptor_25 (by decide) (fun h25 => ?_) (fun h25 => ?_)
      · skip
        rw [nI_z (by omega)] at h25
        refine g_iload_n dX7_acceptor_30 rfl ?_
        refine g_tableIn (off := 36) 67 dX7_acceptor_31 (by decide) (by decide) (by decide) (by decide) ?_
        refine g_aload_n dX7_acceptor_67 rfl ?_
        refine g_getr (T := TX7) (N := 26) (Cn := RX7) (ref := "CommitCouncilModel") 10 dX7_acceptor_68 (mIn (by decide)) rfl rfl (fun w h => List.mem_cons_of_mem _ (hU7 w h)) (by decide) (List.mem_cons_of_mem _ uw_3_133) (Or.inl rfl) rfl ?_
        refine g_iconst (nI (1)) dX7_acceptor_71 (by decide) ?_
        have hx1 : 1 < 3 := by omega
        refine g_aald5N (n := 3) (j := 1) dX7_acceptor_72 (mIn (by decide)) rfl hx1 (by omega) ?_
        refine g_iload_n dX7_acceptor_73 rfl ?_
        refine g_zaldN (n := 6) (j := a) dX7_acceptor_74 (mIn (by omega)) (mSh_u hx1) (by omega) (by omega) ?_
        refine gEx.top (v := .inl (nI (s.1 2 1 (a)))) (congrArg Sum.inl (mR_u1 hc1 (by omega))) ?_
        refine g_if_eq 82 dX7_acceptor_75 (by decide) (fun h75 => ?_) (fun h75 => ?_)
        · skip
          rw [nI_z (by omega)] at h75
          refine g_iconst (nI (0)) dX7_acceptor_82 (by decide) ?_
          exact g_iret dX7_acceptor_83 rfl (⟨by rw [show s.1 2 1 a = 0 by omega], hP⟩)
        · skip
          rw [nI_z (by omega)] at h75
          refine g_iconst (nI (1)) dX7_acceptor_78 (by decide) ?_
          refine g_goto 83 dX7_acceptor_79 (by decide) ?_
          exact g_iret dX7_acceptor_83 rfl (⟨by rw [show s.1 2 1 a = 1 by omega], hP⟩)
      · skip
        rw [nI_z (by omega)] at h25
        exfalso; omega

set_option maxRecDepth 100000 in
/-- acceptor -/
theorem m_acc2 {R A : Nat} (hRA : pRA R A) {cm : Nat} {s : pT} {σ : gSt} (hc : mRel R A cm s σ) (hb : pBu s.1) {a m : Nat} (ha : a < A) (hm : m < R) : gEM mG mX7_acceptor 0 [.inr (0), .inl (nI (a)), .inl (nI (m)), .inl (nI (2))] σ (gR (pB (s.1 6 a m)) (mP R A cm s 0)) := by
  obtain ⟨hR1, hR6, hA35⟩ := hRA
  have hA5 : A ≤ 5 := by omega
  have h2 : s.1 2 1 a ≤ 1 := hb 2 1 a (by decide) (by decide)
  refine gEM_of (by decide +kernel) rfl (Nat.le_of_ble_eq_true rfl) ?_
  refine g_aload_n dX7_acceptor_0 rfl ?_
  refine g_aload_n dX7_acceptor_1 rfl ?_
  refine g_iload_n dX7_acceptor_2 rfl ?_
  refine g_callVi (nI (1)) (n9 := 1) [.inl (nI (a))] [.inr (0)] (m_isAT hc.1.2.1 ha (by omega)) dX7_acceptor_3 (gU_V uw_4_129 uw_4_131 us_2_10 uw_1_8 uw_4_132) rfl (by decide +kernel) rfl ⟨by decide, by decide⟩ (mIn (by decide)) rfl rfl rfl (Nat.le_of_ble_eq_true rfl) (fun σ1 hp1 => ?_)
  subst hp1
  refine g_if_eq 21 dX7_acceptor_6 (by decide) (fun h6 => ?_) (fun h6 => ?_)
  · skip
    rw [nI_z (by omega)] at h6
    exfalso; omega
  · skip
    rw [nI_z (by omega)] at h6
    refine g_aload_n dX7_acceptor_9 rfl ?_
    refine g_iload_n dX7_acceptor_10 rfl ?_
    refine g_callVi (nI (1)) (n9 := 1) [.inl (nI (m))] [.inr (0)] (m_isMT hc.1.1 hm (by omega)) dX7_acceptor_11 (gU_V uw_3_214 uw_3_216 us_1_3 uw_1_8 uw_3_217) rfl (by decide +kernel) rfl ⟨by decide, by decide⟩ (mIn (by decide)) rfl rfl rfl (Nat.le_of_ble_eq_true rfl) (fun σ1 hp1 => ?_)
    subst hp1
    refine g_if_eq 21 dX7_acceptor_14 (by decide) (fun h14 => ?_) (fun h14 => ?_)
    · skip
      rw [nI_z (by omega)] at h14
      exfalso; omega
    · skip
      rw [nI_z (by omega)] at h14
      refine g_iconst (nI (1)) dX7_acceptor_17 (by decide) ?_
      refine g_goto 22 dX7_acceptor_18 (by decide) ?_
      refine g_callVi (nI (0)) (n9 := 1) [.inl (nI (1))] [] (m_lacks1) dX7_acceptor_22 (gU_V uw_3_218 uw_3_220 us_1_4 uw_1_8 uw_3_221) rfl (by decide +kernel) rfl ⟨by decide, by decide⟩ (mIn (by decide)) rfl rfl rfl (Nat.le_of_ble_eq_true rfl) (fun σ2 hq2 => ?_)
      subst hq2
      have hP := mP_thr hc 0
      have hc1 := hP.1
      refine g_if_eq 30 dX7_acceptor_25 (by decide) (fun h25 => ?_) (fun h25 => ?_)
      · skip
        rw [nI_z (by omega)] at h25
        refine g_iload_n dX7_acceptor_30 rfl ?_
        refine g_tableIn (off := 53) 84 dX7_acceptor_31 (by decide) (by decide) (by decide) (by decide) ?_
        refine g_aload_n dX7_acceptor_84 rfl ?_
        refine g_getr (T := TX7) (N := 26) (Cn := RX7) (ref := "CommitCouncilModel") 12 dX7_acceptor_85 (mIn (by decide)) rfl rfl (fun w h => List.mem_cons_of_mem _ (hU7 w h)) (by decide) (List.mem_cons_of_mem _ uw_3_135) (Or.inl rfl) rfl ?_
        refine g_bipush (nI (6)) dX7_acceptor_88 (by decide) ?_
        refine g_iload_n dX7_acceptor_90 rfl ?_
        refine g_imul dX7_acceptor_91 ?_
        refine gEx.top (v := .inl (nI ((6) * (a)))) (congrArg Sum.inl (pk_mul _ _)) ?_
        refine g_iload_n dX7_acceptor_92 rfl ?_
        refine g_iadd dX7_acceptor_93 ?_
        refine gEx.top (v := .inl (nI ((6) * (a) + m))) (congrArg Sum.inl (nI_add _ _)) ?_
        refine g_ialdN (n := 30) (j := (6) * (a) + m) dX7_acceptor_94 (mIn (by decide)) rfl (by omega) (by omega) ?_
        refine gEx.top (v := .inl (pB (s.1 6 a m))) (congrArg Sum.inl (mR_aB hc1 (by omega) hm)) ?_
        exact g_iret dX7_acceptor_95 rfl (⟨rfl, hP⟩)
      · skip
        rw [nI_z (by omega)] at h25
        exfalso; omega

set_option maxRecDepth 100000 in
/-- acceptor -/
theorem m_acc3 {R A : Nat} (hRA : pRA R A) {cm : Nat} {s : pT} {σ : gSt} (hc : mRel R A cm s σ) (hb : pBu s.1) {a m : Nat} (ha : a < A) (hm : m < R) : gEM mG mX7_acceptor 0 [.inr (0), .inl (nI (a)), .inl (nI (m)), .inl (nI (3))] σ (gR (nI (s.1 6 a m % 4)) (mP R A cm s 0)) := by
  obtain ⟨hR1, hR6, hA35⟩ := hRA
  have hA5 : A ≤ 5 := by omega
  have h2 : s.1 2 1 a ≤ 1 := hb 2 1 a (by decide) (by decide)
  refine gEM_of (by decide +kernel) rfl (Nat.le_of_ble_eq_true rfl) ?_
  refine g_aload_n dX7_acceptor_0 rfl ?_
  refine g_aload_n dX7_acceptor_1 rfl ?_
  refine g_iload_n dX7_acceptor_2 rfl ?_
  refine g_callVi (nI (1)) (n9 := 1) [.inl (nI (a))] [.inr (0)] (m_isAT hc.1.2.1 ha (by omega)) dX7_acceptor_3 (gU_V uw_4_129 uw_4_131 us_2_10 uw_1_8 uw_4_132) rfl (by decide +kernel) rfl ⟨by decide, by decide⟩ (mIn (by decide)) rfl rfl rfl (Nat.le_of_ble_eq_true rfl) (fun σ1 hp1 => ?_)
  subst hp1
  refine g_if_eq 21 dX7_acceptor_6 (by decide) (fun h6 => ?_) (fun h6 => ?_)
  · skip
    rw [nI_z (by omega)] at h6
    exfalso; omega
  · skip
    rw [nI_z (by omega)] at h6
    refine g_aload_n dX7_acceptor_9 rfl ?_
    refine g_iload_n dX7_acceptor_10 rfl ?_
    refine g_callVi (nI (1)) (n9 := 1) [.inl (nI (m))] [.inr (0)] (m_isMT hc.1.1 hm (by omega)) dX7_acceptor_11 (gU_V uw_3_214 uw_3_216 us_1_3 uw_1_8 uw_3_217) rfl (by decide +kernel) rfl ⟨by decide, by decide⟩ (mIn (by decide)) rfl rfl rfl (Nat.le_of_ble_eq_true rfl) (fun σ1 hp1 => ?_)
    subst hp1
    refine g_if_eq 21 dX7_acceptor_14 (by decide) (fun h14 => ?_) (fun h14 => ?_)
    · skip
      rw [nI_z (by omega)] at h14
      exfalso; omega
    · skip
      rw [nI_z (by omega)] at h14
      refine g_iconst (nI (1)) dX7_acceptor_17 (by decide) ?_
      refine g_goto 22 dX7_acceptor_18 (by decide) ?_
      refine g_callVi (nI (0)) (n9 := 1) [.inl (nI (1))] [] (m_lacks1) dX7_acceptor_22 (gU_V uw_3_218 uw_3_220 us_1_4 uw_1_8 uw_3_221) rfl (by decide +kernel) rfl ⟨by decide, by decide⟩ (mIn (by decide)) rfl rfl rfl (Nat.le_of_ble_eq_true rfl) (fun σ2 hq2 => ?_)
      subst hq2
      have hP := mP_thr hc 0
      have hc1 := hP.1
      refine g_if_eq 30 dX7_acceptor_25 (by decide) (fun h25 => ?_) (fun h25 => ?_)
      · skip
        rw [nI_z (by omega)] at h25
        refine g_iload_n dX7_acceptor_30 rfl ?_
        refine g_tableIn (off := 65) 96 dX7_acceptor_31 (by decide) (by decide) (by decide) (by decide) ?_
        refine g_aload_n dX7_acceptor_96 rfl ?_
        refine g_getr (T := TX7) (N := 26) (Cn := RX7) (ref := "CommitCouncilModel") 13 dX7_acceptor_97 (mIn (by decide)) rfl rfl (fun w h => List.mem_cons_of_mem _ (hU7 w h)) (by decide) (List.mem_cons_of_mem _ uw_3_136) (Or.inl rfl) rfl ?_
        refine g_bipush (nI (6)) dX7_acceptor_100 (by decide) ?_
        refine g_iload_n dX7_acceptor_102 rfl ?_
        refine g_imul dX7_acceptor_103 ?_
        refine gEx.top (v := .inl (nI ((6) * (a)))) (congrArg Sum.inl (pk_mul _ _)) ?_
        refine g_iload_n dX7_acceptor_104 rfl ?_
        refine g_iadd dX7_acceptor_105 ?_
        refine gEx.top (v := .inl (nI ((6) * (a) + m))) (congrArg Sum.inl (nI_add _ _)) ?_
        refine g_ialdN (n := 30) (j := (6) * (a) + m) dX7_acceptor_106 (mIn (by decide)) rfl (by omega) (by omega) ?_
        refine gEx.top (v := .inl (nI (s.1 6 a m % 4))) (congrArg Sum.inl (mR_aW hc1 (by omega) hm)) ?_
        exact g_iret dX7_acceptor_107 rfl (⟨rfl, hP⟩)
      · skip
        rw [nI_z (by omega)] at h25
        exfalso; omega

set_option maxRecDepth 100000 in
/-- acceptor -/
theorem m_accN {R A : Nat} (hRA : pRA R A) {cm : Nat} {s : pT} {σ : gSt} (hc : mRel R A cm s σ) (hb : pBu s.1) {a m : Nat} (ha : a < A) (hm : m < R) {y : Int32} (hy : y < 0 ∨ nI 4 ≤ y) : gEM mG mX7_acceptor 0 [.inr (0), .inl (nI (a)), .inl (nI (m)), .inl (y)] σ (gR (-1) (mP R A cm s 0)) := by
  obtain ⟨hR1, hR6, hA35⟩ := hRA
  have hA5 : A ≤ 5 := by omega
  have h2 : s.1 2 1 a ≤ 1 := hb 2 1 a (by decide) (by decide)
  refine gEM_of (by decide +kernel) rfl (Nat.le_of_ble_eq_true rfl) ?_
  refine g_aload_n dX7_acceptor_0 rfl ?_
  refine g_aload_n dX7_acceptor_1 rfl ?_
  refine g_iload_n dX7_acceptor_2 rfl ?_
  refine g_callVi (nI (1)) (n9 := 1) [.inl (nI (a))] [.inr (0)] (m_isAT hc.1.2.1 ha (by omega)) dX7_acceptor_3 (gU_V uw_4_129 uw_4_131 us_2_10 uw_1_8 uw_4_132) rfl (by decide +kernel) rfl ⟨by decide, by decide⟩ (mIn (by decide)) rfl rfl rfl (Nat.le_of_ble_eq_true rfl) (fun σ1 hp1 => ?_)
  subst hp1
  refine g_if_eq 21 dX7_acceptor_6 (by decide) (fun h6 => ?_) (fun h6 => ?_)
  · skip
    rw [nI_z (by omega)] at h6
    exfalso; omega
  · skip
    rw [nI_z (by omega)] at h6
    refine g_aload_n dX7_acceptor_9 rfl ?_
    refine g_iload_n dX7_acceptor_10 rfl ?_
    refine g_callVi (nI (1)) (n9 := 1) [.inl (nI (m))] [.inr (0)] (m_isMT hc.1.1 hm (by omega)) dX7_acceptor_11 (gU_V uw_3_214 uw_3_216 us_1_3 uw_1_8 uw_3_217) rfl (by decide +kernel) rfl ⟨by decide, by decide⟩ (mIn (by decide)) rfl rfl rfl (Nat.le_of_ble_eq_true rfl) (fun σ1 hp1 => ?_)
    subst hp1
    refine g_if_eq 21 dX7_acceptor_14 (by decide) (fun h14 => ?_) (fun h14 => ?_)
    · skip
      rw [nI_z (by omega)] at h14
      exfalso; omega
    · skip
      rw [nI_z (by omega)] at h14
      refine g_iconst (nI (1)) dX7_acceptor_17 (by decide) ?_
      refine g_goto 22 dX7_acceptor_18 (by decide) ?_
      refine g_callVi (nI (0)) (n9 := 1) [.inl (nI (1))] [] (m_lacks1) dX7_acceptor_22 (gU_V uw_3_218 uw_3_220 us_1_4 uw_1_8 uw_3_221) rfl (by decide +kernel) rfl ⟨by decide, by decide⟩ (mIn (by decide)) rfl rfl rfl (Nat.le_of_ble_eq_true rfl) (fun σ2 hq2 => ?_)
      subst hq2
      have hP := mP_thr hc 0
      have hc1 := hP.1
      refine g_if_eq 30 dX7_acceptor_25 (by decide) (fun h25 => ?_) (fun h25 => ?_)
      · skip
        rw [nI_z (by omega)] at h25
        refine g_iload_n dX7_acceptor_30 rfl ?_
        refine g_tableOut 108 dX7_acceptor_31 (sw_out (n := 3) (by decide) hy) (by decide) ?_
        refine g_iconst ((-1)) dX7_acceptor_108 (by decide) ?_
        exact g_iret dX7_acceptor_109 rfl (⟨rfl, hP⟩)
      · skip
        rw [nI_z (by omega)] at h25
        exfalso; omega

set_option maxRecDepth 100000 in
/-- acceptor -/
theorem m_accX {R A : Nat} (hRA : pRA R A) {cm : Nat} {s : pT} {σ : gSt} (hc : mRel R A cm s σ) {z y w : Int32} (hz : z < 0 ∨ nI A ≤ z) : gEM mG mX7_acceptor 0 [.inr (0), .inl (z), .inl (y), .inl (w)] σ (gR 0 (mP R A cm s 1)) := by
  refine gEM_of (by decide +kernel) rfl (Nat.le_of_ble_eq_true rfl) ?_
  refine g_aload_n dX7_acceptor_0 rfl ?_
  refine g_aload_n dX7_acceptor_1 rfl ?_
  refine g_iload_n dX7_acceptor_2 rfl ?_
  refine g_callVi (nI (0)) (n9 := 1) [.inl (z)] [.inr (0)] (m_isAF hc.1.2.1 hz) dX7_acceptor_3 (gU_V uw_4_129 uw_4_131 us_2_10 uw_1_8 uw_4_132) rfl (by decide +kernel) rfl ⟨by decide, by decide⟩ (mIn (by decide)) rfl rfl rfl (Nat.le_of_ble_eq_true rfl) (fun σ1 hp1 => ?_)
  subst hp1
  refine g_if_eq 21 dX7_acceptor_6 (by decide) (fun h6 => ?_) (fun h6 => ?_)
  · skip
    rw [nI_z (by omega)] at h6
    refine g_iconst (nI (0)) dX7_acceptor_21 (by decide) ?_
    refine g_callVi (nI (1)) (n9 := 1) [.inl (nI (0))] [] (m_lacks0) dX7_acceptor_22 (gU_V uw_3_218 uw_3_220 us_1_4 uw_1_8 uw_3_221) rfl (by decide +kernel) rfl ⟨by decide, by decide⟩ (mIn (by decide)) rfl rfl rfl (Nat.le_of_ble_eq_true rfl) (fun σ2 hq2 => ?_)
    subst hq2
    have hP := mP_thr hc 1
    refine g_if_eq 30 dX7_acceptor_25 (by decide) (fun h25 => ?_) (fun h25 => ?_)
    · skip
      rw [nI_z (by omega)] at h25
      exfalso; omega
    · skip
      rw [nI_z (by omega)] at h25
      refine g_iconst (nI (0)) dX7_acceptor_28 (by decide) ?_
      exact g_iret dX7_acceptor_29 rfl (⟨rfl, hP⟩)
  · skip
    rw [nI_z (by omega)] at h6
    exfalso; omega

set_option maxRecDepth 100000 in
/-- acceptor -/
theorem m_accY {R A : Nat} (hRA : pRA R A) {cm : Nat} {s : pT} {σ : gSt} (hc : mRel R A cm s σ) {a : Nat} (ha : a < A) {y w : Int32} (hy : y < 0 ∨ nI R ≤ y) : gEM mG mX7_acceptor 0 [.inr (0), .inl (nI (a)), .inl (y), .inl (w)] σ (gR 0 (mP R A cm s 1)) := by
  obtain ⟨hR1, hR6, hA35⟩ := hRA
  have hA5 : A ≤ 5 := by omega
  refine gEM_of (by decide +kernel) rfl (Nat.le_of_ble_eq_true rfl) ?_
  refine g_aload_n dX7_acceptor_0 rfl ?_
  refine g_aload_n dX7_acceptor_1 rfl ?_
  refine g_iload_n dX7_acceptor_2 rfl ?_
  refine g_callVi (nI (1)) (n9 := 1) [.inl (nI (a))] [.inr (0)] (m_isAT hc.1.2.1 ha (by omega)) dX7_acceptor_3 (gU_V uw_4_129 uw_4_131 us_2_10 uw_1_8 uw_4_132) rfl (by decide +kernel) rfl ⟨by decide, by decide⟩ (mIn (by decide)) rfl rfl rfl (Nat.le_of_ble_eq_true rfl) (fun σ1 hp1 => ?_)
  subst hp1
  refine g_if_eq 21 dX7_acceptor_6 (by decide) (fun h6 => ?_) (fun h6 => ?_)
  · skip
    rw [nI_z (by omega)] at h6
    exfalso; omega
  · skip
    rw [nI_z (by omega)] at h6
    refine g_aload_n dX7_acceptor_9 rfl ?_
    refine g_iload_n dX7_acceptor_10 rfl ?_
    refine g_callVi (nI (0)) (n9 := 1) [.inl (y)] [.inr (0)] (m_isMF hc.1.1 hy) dX7_acceptor_11 (gU_V uw_3_214 uw_3_216 us_1_3 uw_1_8 uw_3_217) rfl (by decide +kernel) rfl ⟨by decide, by decide⟩ (mIn (by decide)) rfl rfl rfl (Nat.le_of_ble_eq_true rfl) (fun σ1 hp1 => ?_)
    subst hp1
    refine g_if_eq 21 dX7_acceptor_14 (by decide) (fun h14 => ?_) (fun h14 => ?_)
    · skip
      rw [nI_z (by omega)] at h14
      refine g_iconst (nI (0)) dX7_acceptor_21 (by decide) ?_
      refine g_callVi (nI (1)) (n9 := 1) [.inl (nI (0))] [] (m_lacks0) dX7_acceptor_22 (gU_V uw_3_218 uw_3_220 us_1_4 uw_1_8 uw_3_221) rfl (by decide +kernel) rfl ⟨by decide, by decide⟩ (mIn (by decide)) rfl rfl rfl (Nat.le_of_ble_eq_true rfl) (fun σ2 hq2 => ?_)
      subst hq2
      have hP := mP_thr hc 1
      refine g_if_eq 30 dX7_acceptor_25 (by decide) (fun h25 => ?_) (fun h25 => ?_)
      · skip
        rw [nI_z (by omega)] at h25
        exfalso; omega
      · skip
        rw [nI_z (by omega)] at h25
        refine g_iconst (nI (0)) dX7_acceptor_28 (by decide) ?_
        exact g_iret dX7_acceptor_29 rfl (⟨rfl, hP⟩)
    · skip
      rw [nI_z (by omega)] at h14
      exfalso; omega

set_option maxRecDepth 100000 in
/-- leader -/
theorem m_lea0 {R A : Nat} (hRA : pRA R A) {cm : Nat} {s : pT} {σ : gSt} (hc : mRel R A cm s σ) (hb : pBu s.1) {l : Nat} (hl : l < 3) : gEM mG mX7_leader 0 [.inr (0), .inl (nI (l)), .inl (nI (0))] σ (gR (nI (s.1 7 l 0)) (mP R A cm s 0)) := by
  obtain ⟨hR1, hR6, hA35⟩ := hRA
  have hA5 : A ≤ 5 := by omega
  have h2 : s.1 2 2 l ≤ 1 := hb 2 2 l (by decide) (by decide)
  have h11 : ∀ a, s.1 11 l a ≤ 1 := fun a => hb 11 l a (by decide) (by decide)
  have h8 : s.1 8 l 0 ≤ 2 := hb 8 l 0 (by decide) (by decide)
  have hmk := msk_lt h11
  refine gEM_of (by decide +kernel) rfl (Nat.le_of_ble_eq_true rfl) ?_
  refine g_aload_n dX7_leader_0 rfl ?_
  refine g_iload_n dX7_leader_1 rfl ?_
  refine g_callSi (nI (1)) (n9 := 1) [.inl (nI (l))] [.inr (0)] (m_isLT hl) dX7_leader_2 (gU_S uw_4_10 uw_4_11 uw_1_8 uw_4_12) rfl (by decide +kernel) rfl ⟨by decide, by decide⟩ rfl (Nat.le_of_ble_eq_true rfl) (fun σ1 hp1 => ?_)
  subst hp1
  refine g_callVi (nI (0)) (n9 := 1) [.inl (nI (1))] [] (m_lacks1) dX7_leader_5 (gU_V uw_3_218 uw_3_220 us_1_4 uw_1_8 uw_3_221) rfl (by decide +kernel) rfl ⟨by decide, by decide⟩ (mIn (by decide)) rfl rfl rfl (Nat.le_of_ble_eq_true rfl) (fun σ2 hq2 => ?_)
  subst hq2
  have hP := mP_thr hc 0
  have hc1 := hP.1
  refine g_if_eq 13 dX7_leader_8 (by decide) (fun h8 => ?_) (fun h8 => ?_)
  · skip
    rw [nI_z (by omega)] at h8
    refine g_iload_n dX7_leader_13 rfl ?_
    refine g_tableIn (off := 38) 52 dX7_leader_14 (by decide) (by decide) (by decide) (by decide) ?_
    refine g_aload_n dX7_leader_52 rfl ?_
    refine g_getr (T := TX7) (N := 26) (Cn := RX7) (ref := "CommitCouncilModel") 16 dX7_leader_53 (mIn (by decide)) rfl rfl (fun w h => List.mem_cons_of_mem _ (hU7 w h)) (by decide) (List.mem_cons_of_mem _ uw_3_139) (Or.inl rfl) rfl ?_
    refine g_iload_n dX7_leader_56 rfl ?_
    refine g_ialdN (n := 3) (j := l) dX7_leader_57 (mIn (by decide)) rfl (by omega) (by omega) ?_
    refine gEx.top (v := .inl (nI (s.1 7 (l) 0))) (congrArg Sum.inl (mR_bal hc1 (by omega))) ?_
    exact g_iret dX7_leader_58 rfl (⟨rfl, hP⟩)
  · skip
    rw [nI_z (by omega)] at h8
    exfalso; omega

set_option maxRecDepth 100000 in
/-- leader -/
theorem m_lea1 {R A : Nat} (hRA : pRA R A) {cm : Nat} {s : pT} {σ : gSt} (hc : mRel R A cm s σ) (hb : pBu s.1) {l : Nat} (hl : l < 3) : gEM mG mX7_leader 0 [.inr (0), .inl (nI (l)), .inl (nI (1))] σ (gR (nI (s.1 8 l 0)) (mP R A cm s 0)) := by
  obtain ⟨hR1, hR6, hA35⟩ := hRA
  have hA5 : A ≤ 5 := by omega
  have h2 : s.1 2 2 l ≤ 1 := hb 2 2 l (by decide) (by decide)
  have h11 : ∀ a, s.1 11 l a ≤ 1 := fun a => hb 11 l a (by decide) (by decide)
  have h8 : s.1 8 l 0 ≤ 2 := hb 8 l 0 (by decide) (by decide)
  have hmk := msk_lt h11
  refine gEM_of (by decide +kernel) rfl (Nat.le_of_ble_eq_true rfl) ?_
  refine g_aload_n dX7_leader_0 rfl ?_
  refine g_iload_n dX7_leader_1 rfl ?_
  refine g_callSi (nI (1)) (n9 := 1) [.inl (nI (l))] [.inr (0)] (m_isLT hl) dX7_leader_2 (gU_S uw_4_10 uw_4_11 uw_1_8 uw_4_12) rfl (by decide +kernel) rfl ⟨by decide, by decide⟩ rfl (Nat.le_of_ble_eq_true rfl) (fun σ1 hp1 => ?_)
  subst hp1
  refine g_callVi (nI (0)) (n9 := 1) [.inl (nI (1))] [] (m_lacks1) dX7_leader_5 (gU_V uw_3_218 uw_3_220 us_1_4 uw_1_8 uw_3_221) rfl (by decide +kernel) rfl ⟨by decide, by decide⟩ (mIn (by decide)) rfl rfl rfl (Nat.le_of_ble_eq_true rfl) (fun σ2 hq2 => ?_)
  subst hq2
  have hP := mP_thr hc 0
  have hc1 := hP.1
  refine g_if_eq 13 dX7_leader_8 (by decide) (fun h8 => ?_) (fun h8 => ?_)
  · skip
    rw [nI_z (by omega)] at h8
    refine g_iload_n dX7_leader_13 rfl ?_
    refine g_tableIn (off := 45) 59 dX7_leader_14 (by decide) (by decide) (by decide) (by decide) ?_
    refine g_aload_n dX7_leader_59 rfl ?_
    refine g_getr (T := TX7) (N := 26) (Cn := RX7) (ref := "CommitCouncilModel") 17 dX7_leader_60 (mIn (by decide)) rfl rfl (fun w h => List.mem_cons_of_mem _ (hU7 w h)) (by decide) (List.mem_cons_of_mem _ uw_3_140) (Or.inl rfl) rfl ?_
    refine g_iload_n dX7_leader_63 rfl ?_
    refine g_ialdN (n := 3) (j := l) dX7_leader_64 (mIn (by decide)) rfl (by omega) (by omega) ?_
    refine gEx.top (v := .inl (nI (s.1 8 (l) 0))) (congrArg Sum.inl (mR_pha hc1 (by omega))) ?_
    exact g_iret dX7_leader_65 rfl (⟨rfl, hP⟩)
  · skip
    rw [nI_z (by omega)] at h8
    exfalso; omega

set_option maxRecDepth 100000 in
/-- leader -/
theorem m_lea2 {R A : Nat} (hRA : pRA R A) {cm : Nat} {s : pT} {σ : gSt} (hc : mRel R A cm s σ) (hb : pBu s.1) {l : Nat} (hl : l < 3) : gEM mG mX7_leader 0 [.inr (0), .inl (nI (l)), .inl (nI (2))] σ (gR (nI (s.1 9 l 0)) (mP R A cm s 0)) := by
  obtain ⟨hR1, hR6, hA35⟩ := hRA
  have hA5 : A ≤ 5 := by omega
  have h2 : s.1 2 2 l ≤ 1 := hb 2 2 l (by decide) (by decide)
  have h11 : ∀ a, s.1 11 l a ≤ 1 := fun a => hb 11 l a (by decide) (by decide)
  have h8 : s.1 8 l 0 ≤ 2 := hb 8 l 0 (by decide) (by decide)
  have hmk := msk_lt h11
  refine gEM_of (by decide +kernel) rfl (Nat.le_of_ble_eq_true rfl) ?_
  refine g_aload_n dX7_leader_0 rfl ?_
  refine g_iload_n dX7_leader_1 rfl ?_
  refine g_callSi (nI (1)) (n9 := 1) [.inl (nI (l))] [.inr (0)] (m_isLT hl) dX7_leader_2 (gU_S uw_4_10 uw_4_11 uw_1_8 uw_4_12) rfl (by decide +kernel) rfl ⟨by decide, by decide⟩ rfl (Nat.le_of_ble_eq_true rfl) (fun σ1 hp1 => ?_)
  subst hp1
  refine g_callVi (nI (0)) (n9 := 1) [.inl (nI (1))] [] (m_lacks1) dX7_leader_5 (gU_V uw_3_218 uw_3_220 us_1_4 uw_1_8 uw_3_221) rfl (by decide +kernel) rfl ⟨by decide, by decide⟩ (mIn (by decide)) rfl rfl rfl (Nat.le_of_ble_eq_true rfl) (fun σ2 hq2 => ?_)
  subst hq2
  have hP := mP_thr hc 0
  have hc1 := hP.1
  refine g_if_eq 13 dX7_leader_8 (by decide) (fun h8 => ?_) (fun h8 => ?_)
  · skip
    rw [nI_z (by omega)] at h8
    refine g_iload_n dX7_leader_13 rfl ?_
    refine g_tableIn (off := 52) 66 dX7_leader_14 (by decide) (by decide) (by decide) (by decide) ?_
    refine g_aload_n dX7_leader_66 rfl ?_
    refine g_getr (T := TX7) (N := 26) (Cn := RX7) (ref := "CommitCouncilModel") 18 dX7_leader_67 (mIn (by decide)) rfl rfl (fun w h => List.mem_cons_of_mem _ (hU7 w h)) (by decide) (List.mem_cons_of_mem _ uw_3_141) (Or.inl rfl) rfl ?_
    refine g_iload_n dX7_leader_70 rfl ?_
    refine g_ialdN (n := 3) (j := l) dX7_leader_71 (mIn (by decide)) rfl (by omega) (by omega) ?_
    refine gEx.top (v := .inl (nI (s.1 9 (l) 0))) (congrArg Sum.inl (mR_hig hc1 (by omega))) ?_
    exact g_iret dX7_leader_72 rfl (⟨rfl, hP⟩)
  · skip
    rw [nI_z (by omega)] at h8
    exfalso; omega

set_option maxRecDepth 100000 in
/-- leader -/
theorem m_lea3 {R A : Nat} (hRA : pRA R A) {cm : Nat} {s : pT} {σ : gSt} (hc : mRel R A cm s σ) (hb : pBu s.1) {l : Nat} (hl : l < 3) : gEM mG mX7_leader 0 [.inr (0), .inl (nI (l)), .inl (nI (3))] σ (gR (nI (s.1 10 l 0)) (mP R A cm s 0)) := by
  obtain ⟨hR1, hR6, hA35⟩ := hRA
  have hA5 : A ≤ 5 := by omega
  have h2 : s.1 2 2 l ≤ 1 := hb 2 2 l (by decide) (by decide)
  have h11 : ∀ a, s.1 11 l a ≤ 1 := fun a => hb 11 l a (by decide) (by decide)
  have h8 : s.1 8 l 0 ≤ 2 := hb 8 l 0 (by decide) (by decide)
  have hmk := msk_lt h11
  refine gEM_of (by decide +kernel) rfl (Nat.le_of_ble_eq_true rfl) ?_
  refine g_aload_n dX7_leader_0 rfl ?_
  refine g_iload_n dX7_leader_1 rfl ?_
  refine g_callSi (nI (1)) (n9 := 1) [.inl (nI (l))] [.inr (0)] (m_isLT hl) dX7_leader_2 (gU_S uw_4_10 uw_4_11 uw_1_8 uw_4_12) rfl (by decide +kernel) rfl ⟨by decide, by decide⟩ rfl (Nat.le_of_ble_eq_true rfl) (fun σ1 hp1 => ?_)
  subst hp1
  refine g_callVi (nI (0)) (n9 := 1) [.inl (nI (1))] [] (m_lacks1) dX7_leader_5 (gU_V uw_3_218 uw_3_220 us_1_4 uw_1_8 uw_3_221) rfl (by decide +kernel) rfl ⟨by decide, by decide⟩ (mIn (by decide)) rfl rfl rfl (Nat.le_of_ble_eq_true rfl) (fun σ2 hq2 => ?_)
  subst hq2
  have hP := mP_thr hc 0
  have hc1 := hP.1
  refine g_if_eq 13 dX7_leader_8 (by decide) (fun h8 => ?_) (fun h8 => ?_)
  · skip
    rw [nI_z (by omega)] at h8
    refine g_iload_n dX7_leader_13 rfl ?_
    refine g_tableIn (off := 59) 73 dX7_leader_14 (by decide) (by decide) (by decide) (by decide) ?_
    refine g_aload_n dX7_leader_73 rfl ?_
    refine g_getr (T := TX7) (N := 26) (Cn := RX7) (ref := "CommitCouncilModel") 19 dX7_leader_74 (mIn (by decide)) rfl rfl (fun w h => List.mem_cons_of_mem _ (hU7 w h)) (by decide) (List.mem_cons_of_mem _ uw_3_142) (Or.inl rfl) rfl ?_
    refine g_iload_n dX7_leader_77 rfl ?_
    refine g_ialdN (n := 3) (j := l) dX7_leader_78 (mIn (by decide)) rfl (by omega) (by omega) ?_
    refine gEx.top (v := .inl (nI (s.1 10 (l) 0))) (congrArg Sum.inl (mR_dec hc1 (by omega))) ?_
    exact g_iret dX7_leader_79 rfl (⟨rfl, hP⟩)
  · skip
    rw [nI_z (by omega)] at h8
    exfalso; omega

set_option maxRecDepth 100000 in
/-- leader -/
theorem m_lea4 {R A : Nat} (hRA : pRA R A) {cm : Nat} {s : pT} {σ : gSt} (hc : mRel R A cm s σ) (hb : pBu s.1) {l : Nat} (hl : l < 3) : gEM mG mX7_leader 0 [.inr (0), .inl (nI (l)), .inl (nI (4))] σ (gR (nI (s.1 2 2 l)) (mP R A cm s 0)) := by
  obtain ⟨hR1, hR6, hA35⟩ := hRA
  have hA5 : A ≤ 5 := by omega
  have h2 : s.1 2 2 l ≤ 1 := hb 2 2 l (by decide) (by decide)
  have h11 : ∀ a, s.1 11 l a ≤ 1 := fun a => hb 11 l a (by decide) (by decide)
  have h8 : s.1 8 l 0 ≤ 2 := hb 8 l 0 (by decide) (by decide)
  have hmk := msk_lt h11
  refine gEM_of (by decide +kernel) rfl (Nat.le_of_ble_eq_true rfl) ?_
  refine g_aload_n dX7_leader_0 rfl ?_
  refine g_iload_n dX7_leader_1 rfl ?_
  refine g_callSi (nI (1)) (n9 := 1) [.inl (nI (l))] [.inr (0)] (m_isLT hl) dX7_leader_2 (gU_S uw_4_10 uw_4_11 uw_1_8 uw_4_12) rfl (by decide +kernel) rfl ⟨by decide, by decide⟩ rfl (Nat.le_of_ble_eq_true rfl) (fun σ1 hp1 => ?_)
  subst hp1
  refine g_callVi (nI (0)) (n9 := 1) [.inl (nI (1))] [] (m_lacks1) dX7_leader_5 (gU_V uw_3_218 uw_3_220 us_1_4 uw_1_8 uw_3_221) rfl (by decide +kernel) rfl ⟨by decide, by decide⟩ (mIn (by decide)) rfl rfl rfl (Nat.le_of_ble_eq_true rfl) (fun σ2 hq2 => ?_)
  subst hq2
  have hP := mP_thr hc 0
  have hc1 := hP.1
  refine g_if_eq 13 dX7_leader_8 (by decide) (fun h8 => ?_) (fun h8 => ?_)
  · skip
    rw [nI_z (by omega)] at h8
    refine g_iload_n dX7_leader_13 rfl ?_
    refine g_tableIn (off := 66) 80 dX7_leader_14 (by decide) (by decide) (by decide) (by decide) ?_
    refine g_aload_n dX7_leader_80 rfl ?_
    refine g_getr (T := TX7) (N := 26) (Cn := RX7) (ref := "CommitCouncilModel") 10 dX7_leader_81 (mIn (by decide)) rfl rfl (fun w h => List.mem_cons_of_mem _ (hU7 w h)) (by decide) (List.mem_cons_of_mem _ uw_3_133) (Or.inl rfl) rfl ?_
    refine g_iconst (nI (2)) dX7_leader_84 (by decide) ?_
    have hx1 : 2 < 3 := by omega
    refine g_aald5N (n := 3) (j := 2) dX7_leader_85 (mIn (by decide)) rfl hx1 (by omega) ?_
    refine g_iload_n dX7_leader_86 rfl ?_
    refine g_zaldN (n := 6) (j := l) dX7_leader_87 (mIn (by omega)) (mSh_u hx1) (by omega) (by omega) ?_
    refine gEx.top (v := .inl (nI (s.1 2 2 (l)))) (congrArg Sum.inl (mR_u2 hc1 (by omega))) ?_
    refine g_if_eq 95 dX7_leader_88 (by decide) (fun h88 => ?_) (fun h88 => ?_)
    · skip
      rw [nI_z (by omega)] at h88
      refine g_iconst (nI (0)) dX7_leader_95 (by decide) ?_
      exact g_iret dX7_leader_96 rfl (⟨by rw [show s.1 2 2 l = 0 by omega], hP⟩)
    · skip
      rw [nI_z (by omega)] at h88
      refine g_iconst (nI (1)) dX7_leader_91 (by decide) ?_
      refine g_goto 96 dX7_leader_92 (by decide) ?_
      exact g_iret dX7_leader_96 rfl (⟨by rw [show s.1 2 2 l = 1 by omega], hP⟩)
  · skip
    rw [nI_z (by omega)] at h8
    exfalso; omega

set_option maxRecDepth 100000 in
/-- leader -/
theorem m_lea5 {R A : Nat} (hRA : pRA R A) {cm : Nat} {s : pT} {σ : gSt} (hc : mRel R A cm s σ) (hb : pBu s.1) {l : Nat} (hl : l < 3) : gEM mG mX7_leader 0 [.inr (0), .inl (nI (l)), .inl (nI (5))] σ (gR (nI (if s.1 8 l 0 = 1 then psum (s.1 11 l) 5 else 0)) (mP R A cm s 0)) := by
  obtain ⟨hR1, hR6, hA35⟩ := hRA
  have hA5 : A ≤ 5 := by omega
  have h2 : s.1 2 2 l ≤ 1 := hb 2 2 l (by decide) (by decide)
  have h11 : ∀ a, s.1 11 l a ≤ 1 := fun a => hb 11 l a (by decide) (by decide)
  have h8 : s.1 8 l 0 ≤ 2 := hb 8 l 0 (by decide) (by decide)
  have hmk := msk_lt h11
  refine gEM_of (by decide +kernel) rfl (Nat.le_of_ble_eq_true rfl) ?_
  refine g_aload_n dX7_leader_0 rfl ?_
  refine g_iload_n dX7_leader_1 rfl ?_
  refine g_callSi (nI (1)) (n9 := 1) [.inl (nI (l))] [.inr (0)] (m_isLT hl) dX7_leader_2 (gU_S uw_4_10 uw_4_11 uw_1_8 uw_4_12) rfl (by decide +kernel) rfl ⟨by decide, by decide⟩ rfl (Nat.le_of_ble_eq_true rfl) (fun σ1 hp1 => ?_)
  subst hp1
  refine g_callVi (nI (0)) (n9 := 1) [.inl (nI (1))] [] (m_lacks1) dX7_leader_5 (gU_V uw_3_218 uw_3_220 us_1_4 uw_1_8 uw_3_221) rfl (by decide +kernel) rfl ⟨by decide, by decide⟩ (mIn (by decide)) rfl rfl rfl (Nat.le_of_ble_eq_true rfl) (fun σ2 hq2 => ?_)
  subst hq2
  have hP := mP_thr hc 0
  have hc1 := hP.1
  refine g_if_eq 13 dX7_leader_8 (by decide) (fun h8 => ?_) (fun h8 => ?_)
  · skip
    rw [nI_z (by omega)] at h8
    refine g_iload_n dX7_leader_13 rfl ?_
    refine g_tableIn (off := 83) 97 dX7_leader_14 (by decide) (by decide) (by decide) (by decide) ?_
    refine g_aload_n dX7_leader_97 rfl ?_
    refine g_getr (T := TX7) (N := 26) (Cn := RX7) (ref := "CommitCouncilModel") 17 dX7_leader_98 (mIn (by decide)) rfl rfl (fun w h => List.mem_cons_of_mem _ (hU7 w h)) (by decide) (List.mem_cons_of_mem _ uw_3_140) (Or.inl rfl) rfl ?_
    refine g_iload_n dX7_leader_101 rfl ?_
    refine g_ialdN (n := 3) (j := l) dX7_leader_102 (mIn (by decide)) rfl (by omega) (by omega) ?_
    refine gEx.top (v := .inl (nI (s.1 8 (l) 0))) (congrArg Sum.inl (mR_pha hc1 (by omega))) ?_
    refine g_iconst (nI (1)) dX7_leader_103 (by decide) ?_
    refine g_icmp_ne 119 dX7_leader_104 (by decide) (fun h104 => ?_) (fun h104 => ?_)
    · skip
      rw [nI_eq (by omega) (by omega)] at h104
      refine g_iconst (nI (0)) dX7_leader_119 (by decide) ?_
      exact g_iret dX7_leader_120 rfl (⟨by first | (rw [if_pos (by omega)]; done) | (rw [if_neg (by omega)]; done), hP⟩)
    · skip
      rw [nI_eq (by omega) (by omega)] at h104
      refine g_aload_n dX7_leader_107 rfl ?_
      refine g_getr (T := TX7) (N := 26) (Cn := RX7) (ref := "CommitCouncilModel") 20 dX7_leader_108 (mIn (by decide)) rfl rfl (fun w h => List.mem_cons_of_mem _ (hU7 w h)) (by decide) (List.mem_cons_of_mem _ uw_3_143) (Or.inl rfl) rfl ?_
      refine g_iload_n dX7_leader_111 rfl ?_
      refine g_ialdN (n := 3) (j := l) dX7_leader_112 (mIn (by decide)) rfl (by omega) (by omega) ?_
      refine gEx.top (v := .inl (nI (msk (s.1 11 (l))))) (congrArg Sum.inl (mR_tol hc1 (by omega))) ?_
      refine g_callSi (_) (n9 := 1) [.inl (nI (msk (s.1 11 (l))))] [] (m_bits (by omega)) dX7_leader_113 (gU_S uw_4_33 uw_4_34 uw_1_8 uw_4_35) rfl (by decide +kernel) rfl ⟨by decide, by decide⟩ rfl (Nat.le_of_ble_eq_true rfl) (fun τ3 hq3 => ?_)
      subst hq3
      refine gEx.top (v := .inl (nI (psum (s.1 11 l) 5))) (congrArg Sum.inl (congrArg nI (bits_msk h11))) ?_
      refine g_goto 120 dX7_leader_116 (by decide) ?_
      exact g_iret dX7_leader_120 rfl (⟨by first | (rw [if_pos (by omega)]; done) | (rw [if_neg (by omega)]; done), hP⟩)
  · skip
    rw [nI_z (by omega)] at h8
    exfalso; omega

set_option maxRecDepth 100000 in
/-- leader -/
theorem m_leaN {R A : Nat} (hRA : pRA R A) {cm : Nat} {s : pT} {σ : gSt} (hc : mRel R A cm s σ) (hb : pBu s.1) {l : Nat} (hl : l < 3) {y : Int32} (hy : y < 0 ∨ nI 6 ≤ y) : gEM mG mX7_leader 0 [.inr (0), .inl (nI (l)), .inl (y)] σ (gR (-1) (mP R A cm s 0)) := by
  obtain ⟨hR1, hR6, hA35⟩ := hRA
  have hA5 : A ≤ 5 := by omega
  have h2 : s.1 2 2 l ≤ 1 := hb 2 2 l (by decide) (by decide)
  have h11 : ∀ a, s.1 11 l a ≤ 1 := fun a => hb 11 l a (by decide) (by decide)
  have h8 : s.1 8 l 0 ≤ 2 := hb 8 l 0 (by decide) (by decide)
  have hmk := msk_lt h11
  refine gEM_of (by decide +kernel) rfl (Nat.le_of_ble_eq_true rfl) ?_
  refine g_aload_n dX7_leader_0 rfl ?_
  refine g_iload_n dX7_leader_1 rfl ?_
  refine g_callSi (nI (1)) (n9 := 1) [.inl (nI (l))] [.inr (0)] (m_isLT hl) dX7_leader_2 (gU_S uw_4_10 uw_4_11 uw_1_8 uw_4_12) rfl (by decide +kernel) rfl ⟨by decide, by decide⟩ rfl (Nat.le_of_ble_eq_true rfl) (fun σ1 hp1 => ?_)
  subst hp1
  refine g_callVi (nI (0)) (n9 := 1) [.inl (nI (1))] [] (m_lacks1) dX7_leader_5 (gU_V uw_3_218 uw_3_220 us_1_4 uw_1_8 uw_3_221) rfl (by decide +kernel) rfl ⟨by decide, by decide⟩ (mIn (by decide)) rfl rfl rfl (Nat.le_of_ble_eq_true rfl) (fun σ2 hq2 => ?_)
  subst hq2
  have hP := mP_thr hc 0
  have hc1 := hP.1
  refine g_if_eq 13 dX7_leader_8 (by decide) (fun h8 => ?_) (fun h8 => ?_)
  · skip
    rw [nI_z (by omega)] at h8
    refine g_iload_n dX7_leader_13 rfl ?_
    refine g_tableOut 121 dX7_leader_14 (sw_out (n := 5) (by decide) hy) (by decide) ?_
    refine g_iconst ((-1)) dX7_leader_121 (by decide) ?_
    exact g_iret dX7_leader_122 rfl (⟨rfl, hP⟩)
  · skip
    rw [nI_z (by omega)] at h8
    exfalso; omega

set_option maxRecDepth 100000 in
/-- leader -/
theorem m_leaX {R A : Nat} (hRA : pRA R A) {cm : Nat} {s : pT} {σ : gSt} (hc : mRel R A cm s σ) {z y : Int32} (hz : z < 0 ∨ nI 3 ≤ z) : gEM mG mX7_leader 0 [.inr (0), .inl (z), .inl (y)] σ (gR 0 (mP R A cm s 1)) := by
  refine gEM_of (by decide +kernel) rfl (Nat.le_of_ble_eq_true rfl) ?_
  refine g_aload_n dX7_leader_0 rfl ?_
  refine g_iload_n dX7_leader_1 rfl ?_
  refine g_callSi (nI (0)) (n9 := 1) [.inl (z)] [.inr (0)] (m_isLF hz) dX7_leader_2 (gU_S uw_4_10 uw_4_11 uw_1_8 uw_4_12) rfl (by decide +kernel) rfl ⟨by decide, by decide⟩ rfl (Nat.le_of_ble_eq_true rfl) (fun σ1 hp1 => ?_)
  subst hp1
  refine g_callVi (nI (1)) (n9 := 1) [.inl (nI (0))] [] (m_lacks0) dX7_leader_5 (gU_V uw_3_218 uw_3_220 us_1_4 uw_1_8 uw_3_221) rfl (by decide +kernel) rfl ⟨by decide, by decide⟩ (mIn (by decide)) rfl rfl rfl (Nat.le_of_ble_eq_true rfl) (fun σ2 hq2 => ?_)
  subst hq2
  have hP := mP_thr hc 1
  refine g_if_eq 13 dX7_leader_8 (by decide) (fun h8 => ?_) (fun h8 => ?_)
  · skip
    rw [nI_z (by omega)] at h8
    exfalso; omega
  · skip
    rw [nI_z (by omega)] at h8
    refine g_iconst (nI (0)) dX7_leader_11 (by decide) ?_
    exact g_iret dX7_leader_12 rfl (⟨rfl, hP⟩)

set_option maxRecDepth 100000 in
/-- outcome -/
theorem m_oco {R A : Nat} (hRA : pRA R A) {cm : Nat} {s : pT} {σ : gSt} (hc : mRel R A cm s σ) (hb : pBu s.1) {l : Nat} (hl : l < 3) {m : Nat} (hm : m < R) : gEM mG mX7_outcome 0 [.inr (0), .inl (nI (l)), .inl (nI (m))] σ (gR (nI (s.1 13 l m)) (mP R A cm s 0)) := by
  obtain ⟨hR1, hR6, hA35⟩ := hRA
  have hA5 : A ≤ 5 := by omega
  have h2 : s.1 2 2 l ≤ 1 := hb 2 2 l (by decide) (by decide)
  have h11 : ∀ a, s.1 11 l a ≤ 1 := fun a => hb 11 l a (by decide) (by decide)
  have h8 : s.1 8 l 0 ≤ 2 := hb 8 l 0 (by decide) (by decide)
  have hmk := msk_lt h11
  refine gEM_of (by decide +kernel) rfl (Nat.le_of_ble_eq_true rfl) ?_
  refine g_aload_n dX7_outcome_0 rfl ?_
  refine g_iload_n dX7_outcome_1 rfl ?_
  refine g_callSi (nI (1)) (n9 := 1) [.inl (nI (l))] [.inr (0)] (m_isLT hl) dX7_outcome_2 (gU_S uw_4_10 uw_4_11 uw_1_8 uw_4_12) rfl (by decide +kernel) rfl ⟨by decide, by decide⟩ rfl (Nat.le_of_ble_eq_true rfl) (fun σ1 hp1 => ?_)
  subst hp1
  refine g_if_eq 20 dX7_outcome_5 (by decide) (fun h5 => ?_) (fun h5 => ?_)
  · skip
    rw [nI_z (by omega)] at h5
    exfalso; omega
  · skip
    rw [nI_z (by omega)] at h5
    refine g_aload_n dX7_outcome_8 rfl ?_
    refine g_iload_n dX7_outcome_9 rfl ?_
    refine g_callVi (nI (1)) (n9 := 1) [.inl (nI (m))] [.inr (0)] (m_isMT hc.1.1 hm (by omega)) dX7_outcome_10 (gU_V uw_3_214 uw_3_216 us_1_3 uw_1_8 uw_3_217) rfl (by decide +kernel) rfl ⟨by decide, by decide⟩ (mIn (by decide)) rfl rfl rfl (Nat.le_of_ble_eq_true rfl) (fun σ1 hp1 => ?_)
    subst hp1
    refine g_if_eq 20 dX7_outcome_13 (by decide) (fun h13 => ?_) (fun h13 => ?_)
    · skip
      rw [nI_z (by omega)] at h13
      exfalso; omega
    · skip
      rw [nI_z (by omega)] at h13
      refine g_iconst (nI (1)) dX7_outcome_16 (by decide) ?_
      refine g_goto 21 dX7_outcome_17 (by decide) ?_
      refine g_callVi (nI (0)) (n9 := 1) [.inl (nI (1))] [] (m_lacks1) dX7_outcome_21 (gU_V uw_3_218 uw_3_220 us_1_4 uw_1_8 uw_3_221) rfl (by decide +kernel) rfl ⟨by decide, by decide⟩ (mIn (by decide)) rfl rfl rfl (Nat.le_of_ble_eq_true rfl) (fun σ2 hq2 => ?_)
      subst hq2
      have hP := mP_thr hc 0
      have hc1 := hP.1
      refine g_if_eq 31 dX7_outcome_24 (by decide) (fun h24 => ?_) (fun h24 => ?_)
      · skip
        rw [nI_z (by omega)] at h24
        refine g_aload_n dX7_outcome_31 rfl ?_
        refine g_getr (T := TX7) (N := 26) (Cn := RX7) (ref := "CommitCouncilModel") 25 dX7_outcome_32 (mIn (by decide)) rfl rfl (fun w h => List.mem_cons_of_mem _ (hU7 w h)) (by decide) (List.mem_cons_of_mem _ uw_3_148) (Or.inl rfl) rfl ?_
        refine g_iload_n dX7_outcome_35 rfl ?_
        refine g_bipush (nI (6)) dX7_outcome_36 (by decide) ?_
        refine g_imul dX7_outcome_38 ?_
        refine gEx.top (v := .inl (nI ((l) * (6)))) (congrArg Sum.inl (pk_mul _ _)) ?_
        refine g_iload_n dX7_outcome_39 rfl ?_
        refine g_iadd dX7_outcome_40 ?_
        refine gEx.top (v := .inl (nI ((l) * (6) + m))) (congrArg Sum.inl (nI_add _ _)) ?_
        refine g_ialdN (n := 18) (j := (l) * (6) + m) dX7_outcome_41 (mIn (by decide)) rfl (by omega) (by omega) ?_
        refine gEx.top (v := .inl (nI (s.1 13 l m))) (congrArg Sum.inl (mR_oc hc1 hl hm)) ?_
        exact g_iret dX7_outcome_42 rfl (⟨rfl, hP⟩)
      · skip
        rw [nI_z (by omega)] at h24
        exfalso; omega

set_option maxRecDepth 100000 in
/-- outcome -/
theorem m_ocoX {R A : Nat} (hRA : pRA R A) {cm : Nat} {s : pT} {σ : gSt} (hc : mRel R A cm s σ) {z y : Int32} (hz : z < 0 ∨ nI 3 ≤ z) : gEM mG mX7_outcome 0 [.inr (0), .inl (z), .inl (y)] σ (gR 0 (mP R A cm s 1)) := by
  refine gEM_of (by decide +kernel) rfl (Nat.le_of_ble_eq_true rfl) ?_
  refine g_aload_n dX7_outcome_0 rfl ?_
  refine g_iload_n dX7_outcome_1 rfl ?_
  refine g_callSi (nI (0)) (n9 := 1) [.inl (z)] [.inr (0)] (m_isLF hz) dX7_outcome_2 (gU_S uw_4_10 uw_4_11 uw_1_8 uw_4_12) rfl (by decide +kernel) rfl ⟨by decide, by decide⟩ rfl (Nat.le_of_ble_eq_true rfl) (fun σ1 hp1 => ?_)
  subst hp1
  refine g_if_eq 20 dX7_outcome_5 (by decide) (fun h5 => ?_) (fun h5 => ?_)
  · skip
    rw [nI_z (by omega)] at h5
    refine g_iconst (nI (0)) dX7_outcome_20 (by decide) ?_
    refine g_callVi (nI (1)) (n9 := 1) [.inl (nI (0))] [] (m_lacks0) dX7_outcome_21 (gU_V uw_3_218 uw_3_220 us_1_4 uw_1_8 uw_3_221) rfl (by decide +kernel) rfl ⟨by decide, by decide⟩ (mIn (by decide)) rfl rfl rfl (Nat.le_of_ble_eq_true rfl) (fun σ2 hq2 => ?_)
    subst hq2
    have hP := mP_thr hc 1
    refine g_if_eq 31 dX7_outcome_24 (by decide) (fun h24 => ?_) (fun h24 => ?_)
    · skip
      rw [nI_z (by omega)] at h24
      exfalso; omega
    · skip
      rw [nI_z (by omega)] at h24
      refine g_iconst (nI (0)) dX7_outcome_27 (by decide) ?_
      refine g_goto 42 dX7_outcome_28 (by decide) ?_
      exact g_iret dX7_outcome_42 rfl (⟨rfl, hP⟩)
  · skip
    rw [nI_z (by omega)] at h5
    exfalso; omega

set_option maxRecDepth 100000 in
/-- outcome -/
theorem m_ocoY {R A : Nat} (hRA : pRA R A) {cm : Nat} {s : pT} {σ : gSt} (hc : mRel R A cm s σ) {l : Nat} (hl : l < 3) {y : Int32} (hy : y < 0 ∨ nI R ≤ y) : gEM mG mX7_outcome 0 [.inr (0), .inl (nI (l)), .inl (y)] σ (gR 0 (mP R A cm s 1)) := by
  obtain ⟨hR1, hR6, hA35⟩ := hRA
  have hA5 : A ≤ 5 := by omega
  refine gEM_of (by decide +kernel) rfl (Nat.le_of_ble_eq_true rfl) ?_
  refine g_aload_n dX7_outcome_0 rfl ?_
  refine g_iload_n dX7_outcome_1 rfl ?_
  refine g_callSi (nI (1)) (n9 := 1) [.inl (nI (l))] [.inr (0)] (m_isLT hl) dX7_outcome_2 (gU_S uw_4_10 uw_4_11 uw_1_8 uw_4_12) rfl (by decide +kernel) rfl ⟨by decide, by decide⟩ rfl (Nat.le_of_ble_eq_true rfl) (fun σ1 hp1 => ?_)
  subst hp1
  refine g_if_eq 20 dX7_outcome_5 (by decide) (fun h5 => ?_) (fun h5 => ?_)
  · skip
    rw [nI_z (by omega)] at h5
    exfalso; omega
  · skip
    rw [nI_z (by omega)] at h5
    refine g_aload_n dX7_outcome_8 rfl ?_
    refine g_iload_n dX7_outcome_9 rfl ?_
    refine g_callVi (nI (0)) (n9 := 1) [.inl (y)] [.inr (0)] (m_isMF hc.1.1 hy) dX7_outcome_10 (gU_V uw_3_214 uw_3_216 us_1_3 uw_1_8 uw_3_217) rfl (by decide +kernel) rfl ⟨by decide, by decide⟩ (mIn (by decide)) rfl rfl rfl (Nat.le_of_ble_eq_true rfl) (fun σ1 hp1 => ?_)
    subst hp1
    refine g_if_eq 20 dX7_outcome_13 (by decide) (fun h13 => ?_) (fun h13 => ?_)
    · skip
      rw [nI_z (by omega)] at h13
      refine g_iconst (nI (0)) dX7_outcome_20 (by decide) ?_
      refine g_callVi (nI (1)) (n9 := 1) [.inl (nI (0))] [] (m_lacks0) dX7_outcome_21 (gU_V uw_3_218 uw_3_220 us_1_4 uw_1_8 uw_3_221) rfl (by decide +kernel) rfl ⟨by decide, by decide⟩ (mIn (by decide)) rfl rfl rfl (Nat.le_of_ble_eq_true rfl) (fun σ2 hq2 => ?_)
      subst hq2
      have hP := mP_thr hc 1
      refine g_if_eq 31 dX7_outcome_24 (by decide) (fun h24 => ?_) (fun h24 => ?_)
      · skip
        rw [nI_z (by omega)] at h24
        exfalso; omega
      · skip
        rw [nI_z (by omega)] at h24
        refine g_iconst (nI (0)) dX7_outcome_27 (by decide) ?_
        refine g_goto 42 dX7_outcome_28 (by decide) ?_
        exact g_iret dX7_outcome_42 rfl (⟨rfl, hP⟩)
    · skip
      rw [nI_z (by omega)] at h13
      exfalso; omega

set_option maxRecDepth 100000 in
/-- seen -/
theorem m_seen {R A : Nat} (hRA : pRA R A) {cm : Nat} {s : pT} {σ : gSt} (hc : mRel R A cm s σ) (hb : pBu s.1) {l : Nat} (hl : l < 3) {m a : Nat} (hm : m < R) (ha : a < A) : gEM mG mX7_seen 0 [.inr (0), .inl (nI (l)), .inl (nI (m)), .inl (nI (a))] σ (gR (pB (s.1 14 l (m * 5 + a))) (mP R A cm s 0)) := by
  obtain ⟨hR1, hR6, hA35⟩ := hRA
  have hA5 : A ≤ 5 := by omega
  have h2 : s.1 2 2 l ≤ 1 := hb 2 2 l (by decide) (by decide)
  have h11 : ∀ a, s.1 11 l a ≤ 1 := fun a => hb 11 l a (by decide) (by decide)
  have h8 : s.1 8 l 0 ≤ 2 := hb 8 l 0 (by decide) (by decide)
  have hmk := msk_lt h11
  refine gEM_of (by decide +kernel) rfl (Nat.le_of_ble_eq_true rfl) ?_
  refine g_aload_n dX7_seen_0 rfl ?_
  refine g_iload_n dX7_seen_1 rfl ?_
  refine g_callSi (nI (1)) (n9 := 1) [.inl (nI (l))] [.inr (0)] (m_isLT hl) dX7_seen_2 (gU_S uw_4_10 uw_4_11 uw_1_8 uw_4_12) rfl (by decide +kernel) rfl ⟨by decide, by decide⟩ rfl (Nat.le_of_ble_eq_true rfl) (fun σ1 hp1 => ?_)
  subst hp1
  refine g_if_eq 28 dX7_seen_5 (by decide) (fun h5 => ?_) (fun h5 => ?_)
  · skip
    rw [nI_z (by omega)] at h5
    exfalso; omega
  · skip
    rw [nI_z (by omega)] at h5
    refine g_aload_n dX7_seen_8 rfl ?_
    refine g_iload_n dX7_seen_9 rfl ?_
    refine g_callVi (nI (1)) (n9 := 1) [.inl (nI (m))] [.inr (0)] (m_isMT hc.1.1 hm (by omega)) dX7_seen_10 (gU_V uw_3_214 uw_3_216 us_1_3 uw_1_8 uw_3_217) rfl (by decide +kernel) rfl ⟨by decide, by decide⟩ (mIn (by decide)) rfl rfl rfl (Nat.le_of_ble_eq_true rfl) (fun σ1 hp1 => ?_)
    subst hp1
    refine g_if_eq 28 dX7_seen_13 (by decide) (fun h13 => ?_) (fun h13 => ?_)
    · skip
      rw [nI_z (by omega)] at h13
      exfalso; omega
    · skip
      rw [nI_z (by omega)] at h13
      refine g_aload_n dX7_seen_16 rfl ?_
      refine g_iload_n dX7_seen_17 rfl ?_
      refine g_callVi (nI (1)) (n9 := 1) [.inl (nI (a))] [.inr (0)] (m_isAT hc.1.2.1 ha (by omega)) dX7_seen_18 (gU_V uw_4_129 uw_4_131 us_2_10 uw_1_8 uw_4_132) rfl (by decide +kernel) rfl ⟨by decide, by decide⟩ (mIn (by decide)) rfl rfl rfl (Nat.le_of_ble_eq_true rfl) (fun σ1 hp1 => ?_)
      subst hp1
      refine g_if_eq 28 dX7_seen_21 (by decide) (fun h21 => ?_) (fun h21 => ?_)
      · skip
        rw [nI_z (by omega)] at h21
        exfalso; omega
      · skip
        rw [nI_z (by omega)] at h21
        refine g_iconst (nI (1)) dX7_seen_24 (by decide) ?_
        refine g_goto 29 dX7_seen_25 (by decide) ?_
        refine g_callVi (nI (0)) (n9 := 1) [.inl (nI (1))] [] (m_lacks1) dX7_seen_29 (gU_V uw_3_218 uw_3_220 us_1_4 uw_1_8 uw_3_221) rfl (by decide +kernel) rfl ⟨by decide, by decide⟩ (mIn (by decide)) rfl rfl rfl (Nat.le_of_ble_eq_true rfl) (fun σ2 hq2 => ?_)
        subst hq2
        have hP := mP_thr hc 0
        have hc1 := hP.1
        refine g_if_eq 39 dX7_seen_32 (by decide) (fun h32 => ?_) (fun h32 => ?_)
        · skip
          rw [nI_z (by omega)] at h32
          refine g_aload_n dX7_seen_39 rfl ?_
          refine g_getr (T := TX7) (N := 26) (Cn := RX7) (ref := "CommitCouncilModel") 23 dX7_seen_40 (mIn (by decide)) rfl rfl (fun w h => List.mem_cons_of_mem _ (hU7 w h)) (by decide) (List.mem_cons_of_mem _ uw_3_146) (Or.inl rfl) rfl ?_
          refine g_aload_n dX7_seen_43 rfl ?_
          refine g_iload_n dX7_seen_44 rfl ?_
          refine g_iload_n dX7_seen_45 rfl ?_
          refine g_iload_n dX7_seen_46 rfl ?_
          refine g_callVi (nI ((l * 6 + m) * 5 + a)) (n9 := 3) [.inl (nI (l)), .inl (nI (m)), .inl (nI (a))] [.inr (17)] (m_seenAt) dX7_seen_47 (gU_V uw_4_60 uw_4_62 us_2_2 uw_1_8 uw_4_63) rfl (by decide +kernel) rfl ⟨by decide, by decide⟩ (mIn (by decide)) rfl rfl rfl (Nat.le_of_ble_eq_true rfl) (fun τ3 hq3 => ?_)
          subst hq3
          refine g_ialdN (n := 90) (j := (l * 6 + m) * 5 + a) dX7_seen_50 (mIn (by decide)) rfl (by omega) (by omega) ?_
          refine gEx.top (v := .inl (pB (s.1 14 l (m * 5 + a)))) (congrArg Sum.inl (mR_sB hc1 hl hm (by omega))) ?_
          exact g_iret dX7_seen_51 rfl (⟨rfl, hP⟩)
        · skip
          rw [nI_z (by omega)] at h32
          exfalso; omega

set_option maxRecDepth 100000 in
/-- seen -/
theorem m_seenX {R A : Nat} (hRA : pRA R A) {cm : Nat} {s : pT} {σ : gSt} (hc : mRel R A cm s σ) {z y w : Int32} (hz : z < 0 ∨ nI 3 ≤ z) : gEM mG mX7_seen 0 [.inr (0), .inl (z), .inl (y), .inl (w)] σ (gR 0 (mP R A cm s 1)) := by
  refine gEM_of (by decide +kernel) rfl (Nat.le_of_ble_eq_true rfl) ?_
  refine g_aload_n dX7_seen_0 rfl ?_
  refine g_iload_n dX7_seen_1 rfl ?_
  refine g_callSi (nI (0)) (n9 := 1) [.inl (z)] [.inr (0)] (m_isLF hz) dX7_seen_2 (gU_S uw_4_10 uw_4_11 uw_1_8 uw_4_12) rfl (by decide +kernel) rfl ⟨by decide, by decide⟩ rfl (Nat.le_of_ble_eq_true rfl) (fun σ1 hp1 => ?_)
  subst hp1
  refine g_if_eq 28 dX7_seen_5 (by decide) (fun h5 => ?_) (fun h5 => ?_)
  · skip
    rw [nI_z (by omega)] at h5
    refine g_iconst (nI (0)) dX7_seen_28 (by decide) ?_
    refine g_callVi (nI (1)) (n9 := 1) [.inl (nI (0))] [] (m_lacks0) dX7_seen_29 (gU_V uw_3_218 uw_3_220 us_1_4 uw_1_8 uw_3_221) rfl (by decide +kernel) rfl ⟨by decide, by decide⟩ (mIn (by decide)) rfl rfl rfl (Nat.le_of_ble_eq_true rfl) (fun σ2 hq2 => ?_)
    subst hq2
    have hP := mP_thr hc 1
    refine g_if_eq 39 dX7_seen_32 (by decide) (fun h32 => ?_) (fun h32 => ?_)
    · skip
      rw [nI_z (by omega)] at h32
      exfalso; omega
    · skip
      rw [nI_z (by omega)] at h32
      refine g_iconst (nI (0)) dX7_seen_35 (by decide) ?_
      refine g_goto 51 dX7_seen_36 (by decide) ?_
      exact g_iret dX7_seen_51 rfl (⟨rfl, hP⟩)
  · skip
    rw [nI_z (by omega)] at h5
    exfalso; omega

set_option maxRecDepth 100000 in
/-- seen -/
theorem m_seenY {R A : Nat} (hRA : pRA R A) {cm : Nat} {s : pT} {σ : gSt} (hc : mRel R A cm s σ) {l : Nat} (hl : l < 3) {y w : Int32} (hy : y < 0 ∨ nI R ≤ y) : gEM mG mX7_seen 0 [.inr (0), .inl (nI (l)), .inl (y), .inl (w)] σ (gR 0 (mP R A cm s 1)) := by
  obtain ⟨hR1, hR6, hA35⟩ := hRA
  have hA5 : A ≤ 5 := by omega
  refine gEM_of (by decide +kernel) rfl (Nat.le_of_ble_eq_true rfl) ?_
  refine g_aload_n dX7_seen_0 rfl ?_
  refine g_iload_n dX7_seen_1 rfl ?_
  refine g_callSi (nI (1)) (n9 := 1) [.inl (nI (l))] [.inr (0)] (m_isLT hl) dX7_seen_2 (gU_S uw_4_10 uw_4_11 uw_1_8 uw_4_12) rfl (by decide +kernel) rfl ⟨by decide, by decide⟩ rfl (Nat.le_of_ble_eq_true rfl) (fun σ1 hp1 => ?_)
  subst hp1
  refine g_if_eq 28 dX7_seen_5 (by decide) (fun h5 => ?_) (fun h5 => ?_)
  · skip
    rw [nI_z (by omega)] at h5
    exfalso; omega
  · skip
    rw [nI_z (by omega)] at h5
    refine g_aload_n dX7_seen_8 rfl ?_
    refine g_iload_n dX7_seen_9 rfl ?_
    refine g_callVi (nI (0)) (n9 := 1) [.inl (y)] [.inr (0)] (m_isMF hc.1.1 hy) dX7_seen_10 (gU_V uw_3_214 uw_3_216 us_1_3 uw_1_8 uw_3_217) rfl (by decide +kernel) rfl ⟨by decide, by decide⟩ (mIn (by decide)) rfl rfl rfl (Nat.le_of_ble_eq_true rfl) (fun σ1 hp1 => ?_)
    subst hp1
    refine g_if_eq 28 dX7_seen_13 (by decide) (fun h13 => ?_) (fun h13 => ?_)
    · skip
      rw [nI_z (by omega)] at h13
      refine g_iconst (nI (0)) dX7_seen_28 (by decide) ?_
      refine g_callVi (nI (1)) (n9 := 1) [.inl (nI (0))] [] (m_lacks0) dX7_seen_29 (gU_V uw_3_218 uw_3_220 us_1_4 uw_1_8 uw_3_221) rfl (by decide +kernel) rfl ⟨by decide, by decide⟩ (mIn (by decide)) rfl rfl rfl (Nat.le_of_ble_eq_true rfl) (fun σ2 hq2 => ?_)
      subst hq2
      have hP := mP_thr hc 1
      refine g_if_eq 39 dX7_seen_32 (by decide) (fun h32 => ?_) (fun h32 => ?_)
      · skip
        rw [nI_z (by omega)] at h32
        exfalso; omega
      · skip
        rw [nI_z (by omega)] at h32
        refine g_iconst (nI (0)) dX7_seen_35 (by decide) ?_
        refine g_goto 51 dX7_seen_36 (by decide) ?_
        exact g_iret dX7_seen_51 rfl (⟨rfl, hP⟩)
    · skip
      rw [nI_z (by omega)] at h13
      exfalso; omega

set_option maxRecDepth 100000 in
/-- seen -/
theorem m_seenZ {R A : Nat} (hRA : pRA R A) {cm : Nat} {s : pT} {σ : gSt} (hc : mRel R A cm s σ) {l m : Nat} (hl : l < 3) (hm : m < R) {w : Int32} (hw : w < 0 ∨ nI A ≤ w) : gEM mG mX7_seen 0 [.inr (0), .inl (nI (l)), .inl (nI (m)), .inl (w)] σ (gR 0 (mP R A cm s 1)) := by
  obtain ⟨hR1, hR6, hA35⟩ := hRA
  have hA5 : A ≤ 5 := by omega
  refine gEM_of (by decide +kernel) rfl (Nat.le_of_ble_eq_true rfl) ?_
  refine g_aload_n dX7_seen_0 rfl ?_
  refine g_iload_n dX7_seen_1 rfl ?_
  refine g_callSi (nI (1)) (n9 := 1) [.inl (nI (l))] [.inr (0)] (m_isLT hl) dX7_seen_2 (gU_S uw_4_10 uw_4_11 uw_1_8 uw_4_12) rfl (by decide +kernel) rfl ⟨by decide, by decide⟩ rfl (Nat.le_of_ble_eq_true rfl) (fun σ1 hp1 => ?_)
  subst hp1
  refine g_if_eq 28 dX7_seen_5 (by decide) (fun h5 => ?_) (fun h5 => ?_)
  · skip
    rw [nI_z (by omega)] at h5
    exfalso; omega
  · skip
    rw [nI_z (by omega)] at h5
    refine g_aload_n dX7_seen_8 rfl ?_
    refine g_iload_n dX7_seen_9 rfl ?_
    refine g_callVi (nI (1)) (n9 := 1) [.inl (nI (m))] [.inr (0)] (m_isMT hc.1.1 hm (by omega)) dX7_seen_10 (gU_V uw_3_214 uw_3_216 us_1_3 uw_1_8 uw_3_217) rfl (by decide +kernel) rfl ⟨by decide, by decide⟩ (mIn (by decide)) rfl rfl rfl (Nat.le_of_ble_eq_true rfl) (fun σ1 hp1 => ?_)
    subst hp1
    refine g_if_eq 28 dX7_seen_13 (by decide) (fun h13 => ?_) (fun h13 => ?_)
    · skip
      rw [nI_z (by omega)] at h13
      exfalso; omega
    · skip
      rw [nI_z (by omega)] at h13
      refine g_aload_n dX7_seen_16 rfl ?_
      refine g_iload_n dX7_seen_17 rfl ?_
      refine g_callVi (nI (0)) (n9 := 1) [.inl (w)] [.inr (0)] (m_isAF hc.1.2.1 hw) dX7_seen_18 (gU_V uw_4_129 uw_4_131 us_2_10 uw_1_8 uw_4_132) rfl (by decide +kernel) rfl ⟨by decide, by decide⟩ (mIn (by decide)) rfl rfl rfl (Nat.le_of_ble_eq_true rfl) (fun σ1 hp1 => ?_)
      subst hp1
      refine g_if_eq 28 dX7_seen_21 (by decide) (fun h21 => ?_) (fun h21 => ?_)
      · skip
        rw [nI_z (by omega)] at h21
        refine g_iconst (nI (0)) dX7_seen_28 (by decide) ?_
        refine g_callVi (nI (1)) (n9 := 1) [.inl (nI (0))] [] (m_lacks0) dX7_seen_29 (gU_V uw_3_218 uw_3_220 us_1_4 uw_1_8 uw_3_221) rfl (by decide +kernel) rfl ⟨by decide, by decide⟩ (mIn (by decide)) rfl rfl rfl (Nat.le_of_ble_eq_true rfl) (fun σ2 hq2 => ?_)
        subst hq2
        have hP := mP_thr hc 1
        refine g_if_eq 39 dX7_seen_32 (by decide) (fun h32 => ?_) (fun h32 => ?_)
        · skip
          rw [nI_z (by omega)] at h32
          exfalso; omega
        · skip
          rw [nI_z (by omega)] at h32
          refine g_iconst (nI (0)) dX7_seen_35 (by decide) ?_
          refine g_goto 51 dX7_seen_36 (by decide) ?_
          exact g_iret dX7_seen_51 rfl (⟨rfl, hP⟩)
      · skip
        rw [nI_z (by omega)] at h21
        exfalso; omega

set_option maxRecDepth 100000 in
theorem m_cho_l {R A : Nat} (hRA : pRA R A) {cm : Nat} {s : pT} {σ : gSt} (hc : mRel R A cm s σ) (h15 : ∀ b j, s.1 15 b j ≤ 1) {m : Nat} (hm : m < R) (q1 : ∀ b, b < 1600 → A < 2 * psum (fun a => s.1 15 b (m * 5 + a)) 5 → s.1 16 b m = s.1 18 m 0) (q2 : (∀ b, b < 1600 → ¬ A < 2 * psum (fun a => s.1 15 b (m * 5 + a)) 5) → s.1 18 m 0 = 0) : ∀ (k b : Nat), b ≤ 1600 → 1600 - b < k → (∀ c, c < b → ¬ A < 2 * psum (fun a => s.1 15 c (m * 5 + a)) 5) → gEx mG mX7_chosen 0 16 [some (.inr 0), some (.inl (nI m)), some (.inl (nI b))] [] σ (gR (nI (s.1 18 m 0)) (fun τ => τ = σ)) := by
  intro k
  induction k with
  | zero => intro b hi1 hi2; exact absurd hi2 (by omega)
  | succ k ih =>
    intro b hi1 hi2 hbc
    obtain ⟨hR1, hR6, hA35⟩ := hRA
    have hA5 : A ≤ 5 := by omega
    have h15b : ∀ a, s.1 15 b (m * 5 + a) ≤ 1 := fun a => h15 _ _
    have hmk := msk_lt h15b
    have hpl := psum_le h15b 5
    refine g_iload_n dX7_chosen_16 rfl ?_
    refine g_sipush (nI (1600)) dX7_chosen_17 (by decide) ?_
    refine g_icmp_ge 62 dX7_chosen_20 (by decide) (fun h20 => ?_) (fun h20 => ?_)
    · skip
      rw [nI_leI (by omega) (by omega)] at h20
      refine g_iconst (nI (0)) dX7_chosen_62 (by decide) ?_
      refine g_iret dX7_chosen_63 rfl ?_
      exact ⟨by rw [q2 (fun c hc9 => hbc c (by omega))], rfl⟩
    · skip
      rw [nI_leI (by omega) (by omega)] at h20
      refine g_aload_n dX7_chosen_23 rfl ?_
      refine g_aload_n dX7_chosen_24 rfl ?_
      refine g_getr (T := TX7) (N := 26) (Cn := RX7) (ref := "CommitCouncilModel") 14 dX7_chosen_25 (mIn (by decide)) rfl rfl (fun w h => List.mem_cons_of_mem _ (hU7 w h)) (by decide) (List.mem_cons_of_mem _ uw_3_137) (Or.inl rfl) rfl ?_
      refine g_bipush (nI (6)) dX7_chosen_28 (by decide) ?_
      refine g_iload_n dX7_chosen_30 rfl ?_
      refine g_imul dX7_chosen_31 ?_
      refine gEx.top (v := .inl (nI ((6) * (b)))) (congrArg Sum.inl (pk_mul _ _)) ?_
      refine g_iload_n dX7_chosen_32 rfl ?_
      refine g_iadd dX7_chosen_33 ?_
      refine gEx.top (v := .inl (nI ((6) * (b) + m))) (congrArg Sum.inl (nI_add _ _)) ?_
      refine g_ialdN (n := 9600) (j := (6) * (b) + m) dX7_chosen_34 (mIn (by decide)) rfl (by omega) (by omega) ?_
      refine gEx.top (v := .inl (nI (msk (fun a => s.1 15 b (m * 5 + a))))) (congrArg Sum.inl (mR_ev hc (by omega) hm)) ?_
      refine g_callSi (_) (n9 := 1) [.inl (nI (msk (fun a => s.1 15 b (m * 5 + a))))] [.inr (0)] (m_bits (by omega)) dX7_chosen_35 (gU_S uw_4_33 uw_4_34 uw_1_8 uw_4_35) rfl (by decide +kernel) rfl ⟨by decide, by decide⟩ rfl (Nat.le_of_ble_eq_true rfl) (fun τ3 hq3 => ?_)
      subst hq3
      refine gEx.top (v := .inl (nI (psum (fun a => s.1 15 b (m * 5 + a)) 5))) (congrArg Sum.inl (congrArg nI (bits_msk h15b))) ?_
      refine g_callVi (bI (A < 2 * psum (fun a => s.1 15 b (m * 5 + a)) 5)) (n9 := 1) [.inl (nI (psum (fun a => s.1 15 b (m * 5 + a)) 5))] [] (m_most hc.1.2.1 hA5 (by omega)) dX7_chosen_38 (gU_V uw_4_36 uw_4_38 us_1_12 uw_1_8 uw_4_39) rfl (by decide +kernel) rfl ⟨by decide, by decide⟩ (mIn (by decide)) rfl rfl rfl (Nat.le_of_ble_eq_true rfl) (fun τ4 hq4 => ?_)
      subst hq4
      refine g_if_eq 56 dX7_chosen_41 (by decide) (fun h41 => ?_) (fun h41 => ?_)
      · skip
        rw [bI_z] at h41
        refine g_iinc (nI (b + 1)) dX7_chosen_56 rfl (show nI (b) + nI 1 = _ from nI_add _ _) (by decide) ?_
        refine g_goto 16 dX7_chosen_59 (by decide) ?_
        exact ih (b + 1) (by omega) (by omega) (fun c hc9 => by rcases (show c < b ∨ c = b by omega) with e | e; exact hbc c e; subst e; exact h41)
      · skip
        rw [bI_z] at h41
        refine g_aload_n dX7_chosen_44 rfl ?_
        refine g_getr (T := TX7) (N := 26) (Cn := RX7) (ref := "CommitCouncilModel") 15 dX7_chosen_45 (mIn (by decide)) rfl rfl (fun w h => List.mem_cons_of_mem _ (hU7 w h)) (by decide) (List.mem_cons_of_mem _ uw_3_138) (Or.inl rfl) rfl ?_
        refine g_bipush (nI (6)) dX7_chosen_48 (by decide) ?_
        refine g_iload_n dX7_chosen_50 rfl ?_
        refine g_imul dX7_chosen_51 ?_
        refine gEx.top (v := .inl (nI ((6) * (b)))) (congrArg Sum.inl (pk_mul _ _)) ?_
        refine g_iload_n dX7_chosen_52 rfl ?_
        refine g_iadd dX7_chosen_53 ?_
        refine gEx.top (v := .inl (nI ((6) * (b) + m))) (congrArg Sum.inl (nI_add _ _)) ?_
        refine g_ialdN (n := 9600) (j := (6) * (b) + m) dX7_chosen_54 (mIn (by decide)) rfl (by omega) (by omega) ?_
        refine gEx.top (v := .inl (nI (s.1 16 b m))) (congrArg Sum.inl (mR_ew hc (by omega) hm (fun z => by rw [← bits_msk h15b, z] at h41; simp [psum] at h41))) ?_
        refine g_iret dX7_chosen_55 rfl ?_
        exact ⟨by rw [q1 b (by omega) (Decidable.not_not.mp h41)], rfl⟩

set_option maxRecDepth 100000 in
/-- chosen -/
theorem m_cho {R A : Nat} (hRA : pRA R A) {cm : Nat} {s : pT} {σ : gSt} (hc : mRel R A cm s σ) (h15 : ∀ b j, s.1 15 b j ≤ 1) {m : Nat} (hm : m < R) (q1 : ∀ b, b < 1600 → A < 2 * psum (fun a => s.1 15 b (m * 5 + a)) 5 → s.1 16 b m = s.1 18 m 0) (q2 : (∀ b, b < 1600 → ¬ A < 2 * psum (fun a => s.1 15 b (m * 5 + a)) 5) → s.1 18 m 0 = 0) : gEM mG mX7_chosen 0 [.inr (0), .inl (nI (m))] σ (gR (nI (s.1 18 m 0)) (mP R A cm s 0)) := by
  obtain ⟨hR1, hR6, hA35⟩ := hRA
  have hA5 : A ≤ 5 := by omega
  refine gEM_of (by decide +kernel) rfl (Nat.le_of_ble_eq_true rfl) ?_
  refine g_aload_n dX7_chosen_0 rfl ?_
  refine g_aload_n dX7_chosen_1 rfl ?_
  refine g_iload_n dX7_chosen_2 rfl ?_
  refine g_callVi (nI (1)) (n9 := 1) [.inl (nI (m))] [.inr (0)] (m_isMT hc.1.1 hm (by omega)) dX7_chosen_3 (gU_V uw_3_214 uw_3_216 us_1_3 uw_1_8 uw_3_217) rfl (by decide +kernel) rfl ⟨by decide, by decide⟩ (mIn (by decide)) rfl rfl rfl (Nat.le_of_ble_eq_true rfl) (fun σ1 hp1 => ?_)
  subst hp1
  refine g_callVi (nI (0)) (n9 := 1) [.inl (nI (1))] [] (m_lacks1) dX7_chosen_6 (gU_V uw_3_218 uw_3_220 us_1_4 uw_1_8 uw_3_221) rfl (by decide +kernel) rfl ⟨by decide, by decide⟩ (mIn (by decide)) rfl rfl rfl (Nat.le_of_ble_eq_true rfl) (fun σ2 hq2 => ?_)
  subst hq2
  have hP := mP_thr hc 0
  have hc1 := hP.1
  refine g_if_eq 14 dX7_chosen_9 (by decide) (fun h9 => ?_) (fun h9 => ?_)
  · skip
    rw [nI_z (by omega)] at h9
    refine g_iconst (nI (0)) dX7_chosen_14 (by decide) ?_
    refine g_istore_n dX7_chosen_15 (by decide) ?_
    exact gEx_post (m_cho_l ⟨hR1, hR6, hA35⟩ hc1 h15 hm q1 q2 1601 0 (by decide) (by decide) (fun c h => absurd h (Nat.not_lt_zero _))) (fun o τ q => ⟨q.1, q.2 ▸ hP⟩)
  · skip
    rw [nI_z (by omega)] at h9
    exfalso; omega

set_option maxRecDepth 100000 in
/-- chosen -/
theorem m_choX {R A : Nat} (hRA : pRA R A) {cm : Nat} {s : pT} {σ : gSt} (hc : mRel R A cm s σ) {z : Int32} (hz : z < 0 ∨ nI R ≤ z) : gEM mG mX7_chosen 0 [.inr (0), .inl (z)] σ (gR 0 (mP R A cm s 1)) := by
  refine gEM_of (by decide +kernel) rfl (Nat.le_of_ble_eq_true rfl) ?_
  refine g_aload_n dX7_chosen_0 rfl ?_
  refine g_aload_n dX7_chosen_1 rfl ?_
  refine g_iload_n dX7_chosen_2 rfl ?_
  refine g_callVi (nI (0)) (n9 := 1) [.inl (z)] [.inr (0)] (m_isMF hc.1.1 hz) dX7_chosen_3 (gU_V uw_3_214 uw_3_216 us_1_3 uw_1_8 uw_3_217) rfl (by decide +kernel) rfl ⟨by decide, by decide⟩ (mIn (by decide)) rfl rfl rfl (Nat.le_of_ble_eq_true rfl) (fun σ1 hp1 => ?_)
  subst hp1
  refine g_callVi (nI (1)) (n9 := 1) [.inl (nI (0))] [] (m_lacks0) dX7_chosen_6 (gU_V uw_3_218 uw_3_220 us_1_4 uw_1_8 uw_3_221) rfl (by decide +kernel) rfl ⟨by decide, by decide⟩ (mIn (by decide)) rfl rfl rfl (Nat.le_of_ble_eq_true rfl) (fun σ2 hq2 => ?_)
  subst hq2
  have hP := mP_thr hc 1
  refine g_if_eq 14 dX7_chosen_9 (by decide) (fun h9 => ?_) (fun h9 => ?_)
  · skip
    rw [nI_z (by omega)] at h9
    exfalso; omega
  · skip
    rw [nI_z (by omega)] at h9
    refine g_iconst (nI (0)) dX7_chosen_12 (by decide) ?_
    exact g_iret dX7_chosen_13 rfl (⟨rfl, hP⟩)

set_option maxRecDepth 100000 in
theorem m_cnt5_l {R A : Nat} (hRA : pRA R A) {cm : Nat} {s : pT} {σ : gSt} (hc : mRel R A cm s σ) (hb : pBu s.1) : ∀ (k i : Nat), i ≤ R → R - i < k → gEx mG mX7_count 0 91 [some (.inr 0), some (.inl (nI 5)), some (.inl (nI (psum (s.1 2 0) i))), some (.inl (nI i))] [] σ (gR (nI (psum (s.1 2 0) R)) (fun τ => τ = σ)) := by
  intro k
  induction k with
  | zero => intro i hi1 hi2; exact absurd hi2 (by omega)
  | succ k ih =>
    intro i hi1 hi2 
    obtain ⟨hR1, hR6, hA35⟩ := hRA
    have hb2 : s.1 2 0 i ≤ 1 := hb 2 0 i (by decide) (by decide)
    have hps : psum (s.1 2 0) i ≤ i := psum_le (fun j => hb 2 0 j (by decide) (by decide)) i
    refine g_iload_n dX7_count_91 rfl ?_
    refine g_aload_n dX7_count_92 rfl ?_
    refine g_iload_n dX7_count_93 rfl ?_
    refine g_iconst (nI (5)) dX7_count_94 (by decide) ?_
    refine g_isub dX7_count_95 ?_
    refine gEx.top (v := .inl (nI (0))) (congrArg Sum.inl (rfl)) ?_
    refine g_callVi (nI (R)) (n9 := 1) [.inl (nI (0))] [.inl (nI (i))] (m_many0 hc.1.1 hc.1.2.1) dX7_count_96 (gU_V uw_4_105 uw_4_107 us_2_9 uw_1_8 uw_4_108) rfl (by decide +kernel) rfl ⟨by decide, by decide⟩ (mIn (by decide)) rfl rfl rfl (Nat.le_of_ble_eq_true rfl) (fun τ3 hq3 => ?_)
    subst hq3
    refine g_icmp_ge 129 dX7_count_99 (by decide) (fun h99 => ?_) (fun h99 => ?_)
    · skip
      rw [nI_leI (by omega) (by omega)] at h99
      refine g_iload_n dX7_count_129 rfl ?_
      exact g_iret dX7_count_130 rfl (⟨by rw [show i = R by omega], rfl⟩)
    · skip
      rw [nI_leI (by omega) (by omega)] at h99
      refine g_iload_n dX7_count_102 rfl ?_
      refine g_aload_n dX7_count_103 rfl ?_
      refine g_getr (T := TX7) (N := 26) (Cn := RX7) (ref := "CommitCouncilModel") 10 dX7_count_104 (mIn (by decide)) rfl rfl (fun w h => List.mem_cons_of_mem _ (hU7 w h)) (by decide) (List.mem_cons_of_mem _ uw_3_133) (Or.inl rfl) rfl ?_
      refine g_iload_n dX7_count_107 rfl ?_
      refine g_iconst (nI (5)) dX7_count_108 (by decide) ?_
      refine g_isub dX7_count_109 ?_
      refine gEx.top (v := .inl (nI (0))) (congrArg Sum.inl (rfl)) ?_
      have hx1 : 0 < 3 := by omega
      refine g_aald5N (n := 3) (j := 0) dX7_count_110 (mIn (by decide)) rfl hx1 (by omega) ?_
      refine g_iload_n dX7_count_111 rfl ?_
      refine g_zaldN (n := 6) (j := i) dX7_count_112 (mIn (by omega)) (mSh_u hx1) (by omega) (by omega) ?_
      refine gEx.top (v := .inl (nI (s.1 2 0 (i)))) (congrArg Sum.inl (mR_u0 hc (by omega))) ?_
      refine g_if_eq 120 dX7_count_113 (by decide) (fun h113 => ?_) (fun h113 => ?_)
      · skip
        rw [nI_z (by omega)] at h113
        refine g_iconst (nI (0)) dX7_count_120 (by decide) ?_
        refine g_iadd dX7_count_121 ?_
        refine gEx.top (v := .inl (nI (psum (s.1 2 0) i + 0))) (congrArg Sum.inl (nI_add _ _)) ?_
        refine g_istore_n dX7_count_122 (by decide) ?_
        refine g_iinc (nI (i + 1)) dX7_count_123 rfl (show nI (i) + nI 1 = _ from nI_add _ _) (by decide) ?_
        refine g_goto 91 dX7_count_126 (by decide) ?_
        have e : psum (s.1 2 0) (i + 1) = psum (s.1 2 0) i + 0 := by simp only [psum]; omega
        have := ih (i + 1) (by omega) (by omega)
        rw [e] at this
        exact this
      · skip
        rw [nI_z (by omega)] at h113
        refine g_iconst (nI (1)) dX7_count_116 (by decide) ?_
        refine g_goto 121 dX7_count_117 (by decide) ?_
        refine g_iadd dX7_count_121 ?_
        refine gEx.top (v := .inl (nI (psum (s.1 2 0) i + 1))) (congrArg Sum.inl (nI_add _ _)) ?_
        refine g_istore_n dX7_count_122 (by decide) ?_
        refine g_iinc (nI (i + 1)) dX7_count_123 rfl (show nI (i) + nI 1 = _ from nI_add _ _) (by decide) ?_
        refine g_goto 91 dX7_count_126 (by decide) ?_
        have e : psum (s.1 2 0) (i + 1) = psum (s.1 2 0) i + 1 := by simp only [psum]; omega
        have := ih (i + 1) (by omega) (by omega)
        rw [e] at this
        exact this

set_option maxRecDepth 100000 in
theorem m_cnt6_l {R A : Nat} (hRA : pRA R A) {cm : Nat} {s : pT} {σ : gSt} (hc : mRel R A cm s σ) (hb : pBu s.1) : ∀ (k i : Nat), i ≤ A → A - i < k → gEx mG mX7_count 0 91 [some (.inr 0), some (.inl (nI 6)), some (.inl (nI (psum (s.1 2 1) i))), some (.inl (nI i))] [] σ (gR (nI (psum (s.1 2 1) A)) (fun τ => τ = σ)) := by
  intro k
  induction k with
  | zero => intro i hi1 hi2; exact absurd hi2 (by omega)
  | succ k ih =>
    intro i hi1 hi2 
    obtain ⟨hR1, hR6, hA35⟩ := hRA
    have hb2 : s.1 2 1 i ≤ 1 := hb 2 1 i (by decide) (by decide)
    have hps : psum (s.1 2 1) i ≤ i := psum_le (fun j => hb 2 1 j (by decide) (by decide)) i
    refine g_iload_n dX7_count_91 rfl ?_
    refine g_aload_n dX7_count_92 rfl ?_
    refine g_iload_n dX7_count_93 rfl ?_
    refine g_iconst (nI (5)) dX7_count_94 (by decide) ?_
    refine g_isub dX7_count_95 ?_
    refine gEx.top (v := .inl (nI (1))) (congrArg Sum.inl (rfl)) ?_
    refine g_callVi (nI (A)) (n9 := 1) [.inl (nI (1))] [.inl (nI (i))] (m_many1 hc.1.1 hc.1.2.1) dX7_count_96 (gU_V uw_4_105 uw_4_107 us_2_9 uw_1_8 uw_4_108) rfl (by decide +kernel) rfl ⟨by decide, by decide⟩ (mIn (by decide)) rfl rfl rfl (Nat.le_of_ble_eq_true rfl) (fun τ3 hq3 => ?_)
    subst hq3
    refine g_icmp_ge 129 dX7_count_99 (by decide) (fun h99 => ?_) (fun h99 => ?_)
    · skip
      rw [nI_leI (by omega) (by omega)] at h99
      refine g_iload_n dX7_count_129 rfl ?_
      exact g_iret dX7_count_130 rfl (⟨by rw [show i = A by omega], rfl⟩)
    · skip
      rw [nI_leI (by omega) (by omega)] at h99
      refine g_iload_n dX7_count_102 rfl ?_
      refine g_aload_n dX7_count_103 rfl ?_
      refine g_getr (T := TX7) (N := 26) (Cn := RX7) (ref := "CommitCouncilModel") 10 dX7_count_104 (mIn (by decide)) rfl rfl (fun w h => List.mem_cons_of_mem _ (hU7 w h)) (by decide) (List.mem_cons_of_mem _ uw_3_133) (Or.inl rfl) rfl ?_
      refine g_iload_n dX7_count_107 rfl ?_
      refine g_iconst (nI (5)) dX7_count_108 (by decide) ?_
      refine g_isub dX7_count_109 ?_
      refine gEx.top (v := .inl (nI (1))) (congrArg Sum.inl (rfl)) ?_
      have hx1 : 1 < 3 := by omega
      refine g_aald5N (n := 3) (j := 1) dX7_count_110 (mIn (by decide)) rfl hx1 (by omega) ?_
      refine g_iload_n dX7_count_111 rfl ?_
      refine g_zaldN (n := 6) (j := i) dX7_count_112 (mIn (by omega)) (mSh_u hx1) (by omega) (by omega) ?_
      refine gEx.top (v := .inl (nI (s.1 2 1 (i)))) (congrArg Sum.inl (mR_u1 hc (by omega))) ?_
      refine g_if_eq 120 dX7_count_113 (by decide) (fun h113 => ?_) (fun h113 => ?_)
      · skip
        rw [nI_z (by omega)] at h113
        refine g_iconst (nI (0)) dX7_count_120 (by decide) ?_
        refine g_iadd dX7_count_121 ?_
        refine gEx.top (v := .inl (nI (psum (s.1 2 1) i + 0))) (congrArg Sum.inl (nI_add _ _)) ?_
        refine g_istore_n dX7_count_122 (by decide) ?_
        refine g_iinc (nI (i + 1)) dX7_count_123 rfl (show nI (i) + nI 1 = _ from nI_add _ _) (by decide) ?_
        refine g_goto 91 dX7_count_126 (by decide) ?_
        have e : psum (s.1 2 1) (i + 1) = psum (s.1 2 1) i + 0 := by simp only [psum]; omega
        have := ih (i + 1) (by omega) (by omega)
        rw [e] at this
        exact this
      · skip
        rw [nI_z (by omega)] at h113
        refine g_iconst (nI (1)) dX7_count_116 (by decide) ?_
        refine g_goto 121 dX7_count_117 (by decide) ?_
        refine g_iadd dX7_count_121 ?_
        refine gEx.top (v := .inl (nI (psum (s.1 2 1) i + 1))) (congrArg Sum.inl (nI_add _ _)) ?_
        refine g_istore_n dX7_count_122 (by decide) ?_
        refine g_iinc (nI (i + 1)) dX7_count_123 rfl (show nI (i) + nI 1 = _ from nI_add _ _) (by decide) ?_
        refine g_goto 91 dX7_count_126 (by decide) ?_
        have e : psum (s.1 2 1) (i + 1) = psum (s.1 2 1) i + 1 := by simp only [psum]; omega
        have := ih (i + 1) (by omega) (by omega)
        rw [e] at this
        exact this

set_option maxRecDepth 100000 in
theorem m_cnt7_l {R A : Nat} (hRA : pRA R A) {cm : Nat} {s : pT} {σ : gSt} (hc : mRel R A cm s σ) (hb : pBu s.1) : ∀ (k i : Nat), i ≤ R → R - i < k → gEx mG mX7_count 0 133 [some (.inr 0), some (.inl (nI 7)), some (.inl (nI (psum (fun m => if s.1 3 m 0 = 3 then 1 else 0) i))), some (.inl (nI i))] [] σ (gR (nI (psum (fun m => if s.1 3 m 0 = 3 then 1 else 0) R)) (fun τ => τ = σ)) := by
  intro k
  induction k with
  | zero => intro i hi1 hi2; exact absurd hi2 (by omega)
  | succ k ih =>
    intro i hi1 hi2 
    obtain ⟨hR1, hR6, hA35⟩ := hRA
    have hb3 : s.1 3 i 0 ≤ 4 := hb 3 i 0 (by decide) (by decide)
    have hps : psum (fun m => if s.1 3 m 0 = 3 then 1 else 0) i ≤ i := psum_ind (fun m => s.1 3 m 0 = 3) i
    refine g_iload_n dX7_count_133 rfl ?_
    refine g_aload_n dX7_count_134 rfl ?_
    refine g_get (T := TX7) (N := 26) (Cn := RX7) (ref := "CommitCouncilModel") 1 dX7_count_135 (mIn (by decide)) rfl rfl (fun w h => List.mem_cons_of_mem _ (hU7 w h)) (by decide) (List.mem_cons_of_mem _ uw_3_124) (Or.inl rfl) rfl ?_
    refine gEx.top (v := .inl (nI (R))) (congrArg Sum.inl (hc.1.1)) ?_
    refine g_icmp_ge 167 dX7_count_138 (by decide) (fun h138 => ?_) (fun h138 => ?_)
    · skip
      rw [nI_leI (by omega) (by omega)] at h138
      refine g_iload_n dX7_count_167 rfl ?_
      exact g_iret dX7_count_168 rfl (⟨by rw [show i = R by omega], rfl⟩)
    · skip
      rw [nI_leI (by omega) (by omega)] at h138
      refine g_iload_n dX7_count_141 rfl ?_
      refine g_aload_n dX7_count_142 rfl ?_
      refine g_getr (T := TX7) (N := 26) (Cn := RX7) (ref := "CommitCouncilModel") 9 dX7_count_143 (mIn (by decide)) rfl rfl (fun w h => List.mem_cons_of_mem _ (hU7 w h)) (by decide) (List.mem_cons_of_mem _ uw_3_132) (Or.inl rfl) rfl ?_
      refine g_iload_n dX7_count_146 rfl ?_
      refine g_ialdN (n := 6) (j := i) dX7_count_147 (mIn (by decide)) rfl (by omega) (by omega) ?_
      refine gEx.top (v := .inl (nI (s.1 3 (i) 0))) (congrArg Sum.inl (mR_how hc (by omega))) ?_
      refine g_iload_n dX7_count_148 rfl ?_
      refine g_iconst (nI (4)) dX7_count_149 (by decide) ?_
      refine g_isub dX7_count_150 ?_
      refine gEx.top (v := .inl (nI (3))) (congrArg Sum.inl (rfl)) ?_
      refine g_icmp_ne 158 dX7_count_151 (by decide) (fun h151 => ?_) (fun h151 => ?_)
      · skip
        rw [nI_eq (by omega) (by omega)] at h151
        refine g_iconst (nI (0)) dX7_count_158 (by decide) ?_
        refine g_iadd dX7_count_159 ?_
        refine gEx.top (v := .inl (nI (psum (fun m => if s.1 3 m 0 = 3 then 1 else 0) i + 0))) (congrArg Sum.inl (nI_add _ _)) ?_
        refine g_istore_n dX7_count_160 (by decide) ?_
        refine g_iinc (nI (i + 1)) dX7_count_161 rfl (show nI (i) + nI 1 = _ from nI_add _ _) (by decide) ?_
        refine g_goto 133 dX7_count_164 (by decide) ?_
        have e : psum (fun m => if s.1 3 m 0 = 3 then 1 else 0) (i + 1) = psum (fun m => if s.1 3 m 0 = 3 then 1 else 0) i + 0 := by simp only [psum]; first | (rw [if_pos (by omega)]; done) | (rw [if_neg (by omega)]; done)
        have := ih (i + 1) (by omega) (by omega)
        rw [e] at this
        exact this
      · skip
        rw [nI_eq (by omega) (by omega)] at h151
        refine g_iconst (nI (1)) dX7_count_154 (by decide) ?_
        refine g_goto 159 dX7_count_155 (by decide) ?_
        refine g_iadd dX7_count_159 ?_
        refine gEx.top (v := .inl (nI (psum (fun m => if s.1 3 m 0 = 3 then 1 else 0) i + 1))) (congrArg Sum.inl (nI_add _ _)) ?_
        refine g_istore_n dX7_count_160 (by decide) ?_
        refine g_iinc (nI (i + 1)) dX7_count_161 rfl (show nI (i) + nI 1 = _ from nI_add _ _) (by decide) ?_
        refine g_goto 133 dX7_count_164 (by decide) ?_
        have e : psum (fun m => if s.1 3 m 0 = 3 then 1 else 0) (i + 1) = psum (fun m => if s.1 3 m 0 = 3 then 1 else 0) i + 1 := by simp only [psum]; first | (rw [if_pos (by omega)]; done) | (rw [if_neg (by omega)]; done)
        have := ih (i + 1) (by omega) (by omega)
        rw [e] at this
        exact this

set_option maxRecDepth 100000 in
theorem m_cnt8_l {R A : Nat} (hRA : pRA R A) {cm : Nat} {s : pT} {σ : gSt} (hc : mRel R A cm s σ) (hb : pBu s.1) : ∀ (k i : Nat), i ≤ R → R - i < k → gEx mG mX7_count 0 133 [some (.inr 0), some (.inl (nI 8)), some (.inl (nI (psum (fun m => if s.1 3 m 0 = 4 then 1 else 0) i))), some (.inl (nI i))] [] σ (gR (nI (psum (fun m => if s.1 3 m 0 = 4 then 1 else 0) R)) (fun τ => τ = σ)) := by
  intro k
  induction k with
  | zero => intro i hi1 hi2; exact absurd hi2 (by omega)
  | succ k ih =>
    intro i hi1 hi2 
    obtain ⟨hR1, hR6, hA35⟩ := hRA
    have hb3 : s.1 3 i 0 ≤ 4 := hb 3 i 0 (by decide) (by decide)
    have hps : psum (fun m => if s.1 3 m 0 = 4 then 1 else 0) i ≤ i := psum_ind (fun m => s.1 3 m 0 = 4) i
    refine g_iload_n dX7_count_133 rfl ?_
    refine g_aload_n dX7_count_134 rfl ?_
    refine g_get (T := TX7) (N := 26) (Cn := RX7) (ref := "CommitCouncilModel") 1 dX7_count_135 (mIn (by decide)) rfl rfl (fun w h => List.mem_cons_of_mem _ (hU7 w h)) (by decide) (List.mem_cons_of_mem _ uw_3_124) (Or.inl rfl) rfl ?_
    refine gEx.top (v := .inl (nI (R))) (congrArg Sum.inl (hc.1.1)) ?_
    refine g_icmp_ge 167 dX7_count_138 (by decide) (fun h138 => ?_) (fun h138 => ?_)
    · skip
      rw [nI_leI (by omega) (by omega)] at h138
      refine g_iload_n dX7_count_167 rfl ?_
      exact g_iret dX7_count_168 rfl (⟨by rw [show i = R by omega], rfl⟩)
    · skip
      rw [nI_leI (by omega) (by omega)] at h138
      refine g_iload_n dX7_count_141 rfl ?_
      refine g_aload_n dX7_count_142 rfl ?_
      refine g_getr (T := TX7) (N := 26) (Cn := RX7) (ref := "CommitCouncilModel") 9 dX7_count_143 (mIn (by decide)) rfl rfl (fun w h => List.mem_cons_of_mem _ (hU7 w h)) (by decide) (List.mem_cons_of_mem _ uw_3_132) (Or.inl rfl) rfl ?_
      refine g_iload_n dX7_count_146 rfl ?_
      refine g_ialdN (n := 6) (j := i) dX7_count_147 (mIn (by decide)) rfl (by omega) (by omega) ?_
      refine gEx.top (v := .inl (nI (s.1 3 (i) 0))) (congrArg Sum.inl (mR_how hc (by omega))) ?_
      refine g_iload_n dX7_count_148 rfl ?_
      refine g_iconst (nI (4)) dX7_count_149 (by decide) ?_
      refine g_isub dX7_count_150 ?_
      refine gEx.top (v := .inl (nI (4))) (congrArg Sum.inl (rfl)) ?_
      refine g_icmp_ne 158 dX7_count_151 (by decide) (fun h151 => ?_) (fun h151 => ?_)
      · skip
        rw [nI_eq (by omega) (by omega)] at h151
        refine g_iconst (nI (0)) dX7_count_158 (by decide) ?_
        refine g_iadd dX7_count_159 ?_
        refine gEx.top (v := .inl (nI (psum (fun m => if s.1 3 m 0 = 4 then 1 else 0) i + 0))) (congrArg Sum.inl (nI_add _ _)) ?_
        refine g_istore_n dX7_count_160 (by decide) ?_
        refine g_iinc (nI (i + 1)) dX7_count_161 rfl (show nI (i) + nI 1 = _ from nI_add _ _) (by decide) ?_
        refine g_goto 133 dX7_count_164 (by decide) ?_
        have e : psum (fun m => if s.1 3 m 0 = 4 then 1 else 0) (i + 1) = psum (fun m => if s.1 3 m 0 = 4 then 1 else 0) i + 0 := by simp only [psum]; first | (rw [if_pos (by omega)]; done) | (rw [if_neg (by omega)]; done)
        have := ih (i + 1) (by omega) (by omega)
        rw [e] at this
        exact this
      · skip
        rw [nI_eq (by omega) (by omega)] at h151
        refine g_iconst (nI (1)) dX7_count_154 (by decide) ?_
        refine g_goto 159 dX7_count_155 (by decide) ?_
        refine g_iadd dX7_count_159 ?_
        refine gEx.top (v := .inl (nI (psum (fun m => if s.1 3 m 0 = 4 then 1 else 0) i + 1))) (congrArg Sum.inl (nI_add _ _)) ?_
        refine g_istore_n dX7_count_160 (by decide) ?_
        refine g_iinc (nI (i + 1)) dX7_count_161 rfl (show nI (i) + nI 1 = _ from nI_add _ _) (by decide) ?_
        refine g_goto 133 dX7_count_164 (by decide) ?_
        have e : psum (fun m => if s.1 3 m 0 = 4 then 1 else 0) (i + 1) = psum (fun m => if s.1 3 m 0 = 4 then 1 else 0) i + 1 := by simp only [psum]; first | (rw [if_pos (by omega)]; done) | (rw [if_neg (by omega)]; done)
        have := ih (i + 1) (by omega) (by omega)
        rw [e] at this
        exact this

set_option maxRecDepth 100000 in
/-- count -/
theorem m_cnt0 {R A : Nat} (hRA : pRA R A) {cm : Nat} {s : pT} {σ : gSt} (hc : mRel R A cm s σ) (hb : pBu s.1) : gEM mG mX7_count 0 [.inr (0), .inl (nI (0))] σ (gR (nI R) (mP R A cm s 0)) := by
  obtain ⟨hR1, hR6, hA35⟩ := hRA
  have hA5 : A ≤ 5 := by omega
  refine gEM_of (by decide +kernel) rfl (Nat.le_of_ble_eq_true rfl) ?_
  refine g_aload_n dX7_count_0 rfl ?_
  refine g_iconst (nI (0)) dX7_count_1 (by decide) ?_
  refine g_put (T := TX7) (N := 26) (Cn := RX7) (ref := "CommitCouncilModel") (ty0 := tyX7) 0 dX7_count_2 (mIn (by decide)) rfl rfl (fun w h => List.mem_cons_of_mem _ (hU7 w h)) tyX7_ok nmX7 (by decide) (List.mem_cons_of_mem _ uw_3_123) (Or.inl rfl) rfl rfl rfl rfl ?_
  have hP := mP_thr hc 0
  have hc1 := hP.1
  refine g_iconst (nI (0)) dX7_count_5 (by decide) ?_
  refine g_istore_n dX7_count_6 (by decide) ?_
  refine g_iload_n dX7_count_7 rfl ?_
  refine g_tableIn (off := 56) 64 dX7_count_8 (by decide) (by decide) (by decide) (by decide) ?_
  refine g_aload_n dX7_count_64 rfl ?_
  refine g_get (T := TX7) (N := 26) (Cn := RX7) (ref := "CommitCouncilModel") 1 dX7_count_65 (mIn (by decide)) rfl rfl (fun w h => List.mem_cons_of_mem _ (hU7 w h)) (by decide) (List.mem_cons_of_mem _ uw_3_124) (Or.inl rfl) rfl ?_
  refine gEx.top (v := .inl (nI (R))) (congrArg Sum.inl (hc1.1.1)) ?_
  exact g_iret dX7_count_68 rfl (⟨rfl, hP⟩)

set_option maxRecDepth 100000 in
/-- count -/
theorem m_cnt1 {R A : Nat} (hRA : pRA R A) {cm : Nat} {s : pT} {σ : gSt} (hc : mRel R A cm s σ) (hb : pBu s.1) : gEM mG mX7_count 0 [.inr (0), .inl (nI (1))] σ (gR (nI A) (mP R A cm s 0)) := by
  obtain ⟨hR1, hR6, hA35⟩ := hRA
  have hA5 : A ≤ 5 := by omega
  refine gEM_of (by decide +kernel) rfl (Nat.le_of_ble_eq_true rfl) ?_
  refine g_aload_n dX7_count_0 rfl ?_
  refine g_iconst (nI (0)) dX7_count_1 (by decide) ?_
  refine g_put (T := TX7) (N := 26) (Cn := RX7) (ref := "CommitCouncilModel") (ty0 := tyX7) 0 dX7_count_2 (mIn (by decide)) rfl rfl (fun w h => List.mem_cons_of_mem _ (hU7 w h)) tyX7_ok nmX7 (by decide) (List.mem_cons_of_mem _ uw_3_123) (Or.inl rfl) rfl rfl rfl rfl ?_
  have hP := mP_thr hc 0
  have hc1 := hP.1
  refine g_iconst (nI (0)) dX7_count_5 (by decide) ?_
  refine g_istore_n dX7_count_6 (by decide) ?_
  refine g_iload_n dX7_count_7 rfl ?_
  refine g_tableIn (off := 61) 69 dX7_count_8 (by decide) (by decide) (by decide) (by decide) ?_
  refine g_aload_n dX7_count_69 rfl ?_
  refine g_get (T := TX7) (N := 26) (Cn := RX7) (ref := "CommitCouncilModel") 2 dX7_count_70 (mIn (by decide)) rfl rfl (fun w h => List.mem_cons_of_mem _ (hU7 w h)) (by decide) (List.mem_cons_of_mem _ uw_3_125) (Or.inl rfl) rfl ?_
  refine gEx.top (v := .inl (nI (A))) (congrArg Sum.inl (hc1.1.2.1)) ?_
  exact g_iret dX7_count_73 rfl (⟨rfl, hP⟩)

set_option maxRecDepth 100000 in
/-- count -/
theorem m_cnt2 {R A : Nat} (hRA : pRA R A) {cm : Nat} {s : pT} {σ : gSt} (hc : mRel R A cm s σ) (hb : pBu s.1) : gEM mG mX7_count 0 [.inr (0), .inl (nI (2))] σ (gR (nI s.2.length) (mP R A cm s 0)) := by
  obtain ⟨hR1, hR6, hA35⟩ := hRA
  have hA5 : A ≤ 5 := by omega
  refine gEM_of (by decide +kernel) rfl (Nat.le_of_ble_eq_true rfl) ?_
  refine g_aload_n dX7_count_0 rfl ?_
  refine g_iconst (nI (0)) dX7_count_1 (by decide) ?_
  refine g_put (T := TX7) (N := 26) (Cn := RX7) (ref := "CommitCouncilModel") (ty0 := tyX7) 0 dX7_count_2 (mIn (by decide)) rfl rfl (fun w h => List.mem_cons_of_mem _ (hU7 w h)) tyX7_ok nmX7 (by decide) (List.mem_cons_of_mem _ uw_3_123) (Or.inl rfl) rfl rfl rfl rfl ?_
  have hP := mP_thr hc 0
  have hc1 := hP.1
  refine g_iconst (nI (0)) dX7_count_5 (by decide) ?_
  refine g_istore_n dX7_count_6 (by decide) ?_
  refine g_iload_n dX7_count_7 rfl ?_
  refine g_tableIn (off := 66) 74 dX7_count_8 (by decide) (by decide) (by decide) (by decide) ?_
  refine g_aload_n dX7_count_74 rfl ?_
  refine g_get (T := TX7) (N := 26) (Cn := RX7) (ref := "CommitCouncilModel") 5 dX7_count_75 (mIn (by decide)) rfl rfl (fun w h => List.mem_cons_of_mem _ (hU7 w h)) (by decide) (List.mem_cons_of_mem _ uw_3_128) (Or.inl rfl) rfl ?_
  refine gEx.top (v := .inl (nI (s.2.length))) (congrArg Sum.inl (hc1.1.2.2.1)) ?_
  exact g_iret dX7_count_78 rfl (⟨rfl, hP⟩)

set_option maxRecDepth 100000 in
/-- count -/
theorem m_cnt3 {R A : Nat} (hRA : pRA R A) {cm : Nat} {s : pT} {σ : gSt} (hc : mRel R A cm s σ) (hb : pBu s.1) : gEM mG mX7_count 0 [.inr (0), .inl (nI (3))] σ (gR (nI (s.1 1 0 0)) (mP R A cm s 0)) := by
  obtain ⟨hR1, hR6, hA35⟩ := hRA
  have hA5 : A ≤ 5 := by omega
  refine gEM_of (by decide +kernel) rfl (Nat.le_of_ble_eq_true rfl) ?_
  refine g_aload_n dX7_count_0 rfl ?_
  refine g_iconst (nI (0)) dX7_count_1 (by decide) ?_
  refine g_put (T := TX7) (N := 26) (Cn := RX7) (ref := "CommitCouncilModel") (ty0 := tyX7) 0 dX7_count_2 (mIn (by decide)) rfl rfl (fun w h => List.mem_cons_of_mem _ (hU7 w h)) tyX7_ok nmX7 (by decide) (List.mem_cons_of_mem _ uw_3_123) (Or.inl rfl) rfl rfl rfl rfl ?_
  have hP := mP_thr hc 0
  have hc1 := hP.1
  refine g_iconst (nI (0)) dX7_count_5 (by decide) ?_
  refine g_istore_n dX7_count_6 (by decide) ?_
  refine g_iload_n dX7_count_7 rfl ?_
  refine g_tableIn (off := 71) 79 dX7_count_8 (by decide) (by decide) (by decide) (by decide) ?_
  refine g_aload_n dX7_count_79 rfl ?_
  refine g_get (T := TX7) (N := 26) (Cn := RX7) (ref := "CommitCouncilModel") 6 dX7_count_80 (mIn (by decide)) rfl rfl (fun w h => List.mem_cons_of_mem _ (hU7 w h)) (by decide) (List.mem_cons_of_mem _ uw_3_129) (Or.inl rfl) rfl ?_
  refine gEx.top (v := .inl (nI (s.1 1 0 0))) (congrArg Sum.inl (hc1.1.2.2.2.1)) ?_
  exact g_iret dX7_count_83 rfl (⟨rfl, hP⟩)

set_option maxRecDepth 100000 in
/-- count -/
theorem m_cnt4 {R A : Nat} (hRA : pRA R A) {cm : Nat} {s : pT} {σ : gSt} (hc : mRel R A cm s σ) (hb : pBu s.1) : gEM mG mX7_count 0 [.inr (0), .inl (nI (4))] σ (gR (nI cm) (mP R A cm s 0)) := by
  obtain ⟨hR1, hR6, hA35⟩ := hRA
  have hA5 : A ≤ 5 := by omega
  refine gEM_of (by decide +kernel) rfl (Nat.le_of_ble_eq_true rfl) ?_
  refine g_aload_n dX7_count_0 rfl ?_
  refine g_iconst (nI (0)) dX7_count_1 (by decide) ?_
  refine g_put (T := TX7) (N := 26) (Cn := RX7) (ref := "CommitCouncilModel") (ty0 := tyX7) 0 dX7_count_2 (mIn (by decide)) rfl rfl (fun w h => List.mem_cons_of_mem _ (hU7 w h)) tyX7_ok nmX7 (by decide) (List.mem_cons_of_mem _ uw_3_123) (Or.inl rfl) rfl rfl rfl rfl ?_
  have hP := mP_thr hc 0
  have hc1 := hP.1
  refine g_iconst (nI (0)) dX7_count_5 (by decide) ?_
  refine g_istore_n dX7_count_6 (by decide) ?_
  refine g_iload_n dX7_count_7 rfl ?_
  refine g_tableIn (off := 76) 84 dX7_count_8 (by decide) (by decide) (by decide) (by decide) ?_
  refine g_aload_n dX7_count_84 rfl ?_
  refine g_get (T := TX7) (N := 26) (Cn := RX7) (ref := "CommitCouncilModel") 7 dX7_count_85 (mIn (by decide)) rfl rfl (fun w h => List.mem_cons_of_mem _ (hU7 w h)) (by decide) (List.mem_cons_of_mem _ uw_3_130) (Or.inl rfl) rfl ?_
  refine gEx.top (v := .inl (nI (cm))) (congrArg Sum.inl (hc1.1.2.2.2.2.1)) ?_
  exact g_iret dX7_count_88 rfl (⟨rfl, hP⟩)

set_option maxRecDepth 100000 in
/-- count -/
theorem m_cnt5 {R A : Nat} (hRA : pRA R A) {cm : Nat} {s : pT} {σ : gSt} (hc : mRel R A cm s σ) (hb : pBu s.1) : gEM mG mX7_count 0 [.inr (0), .inl (nI (5))] σ (gR (nI (psum (s.1 2 0) R)) (mP R A cm s 0)) := by
  obtain ⟨hR1, hR6, hA35⟩ := hRA
  have hA5 : A ≤ 5 := by omega
  refine gEM_of (by decide +kernel) rfl (Nat.le_of_ble_eq_true rfl) ?_
  refine g_aload_n dX7_count_0 rfl ?_
  refine g_iconst (nI (0)) dX7_count_1 (by decide) ?_
  refine g_put (T := TX7) (N := 26) (Cn := RX7) (ref := "CommitCouncilModel") (ty0 := tyX7) 0 dX7_count_2 (mIn (by decide)) rfl rfl (fun w h => List.mem_cons_of_mem _ (hU7 w h)) tyX7_ok nmX7 (by decide) (List.mem_cons_of_mem _ uw_3_123) (Or.inl rfl) rfl rfl rfl rfl ?_
  have hP := mP_thr hc 0
  have hc1 := hP.1
  refine g_iconst (nI (0)) dX7_count_5 (by decide) ?_
  refine g_istore_n dX7_count_6 (by decide) ?_
  refine g_iload_n dX7_count_7 rfl ?_
  refine g_tableIn (off := 81) 89 dX7_count_8 (by decide) (by decide) (by decide) (by decide) ?_
  refine g_iconst (nI (0)) dX7_count_89 (by decide) ?_
  refine g_istore_n dX7_count_90 (by decide) ?_
  exact gEx_post (m_cnt5_l ⟨hR1, hR6, hA35⟩ hc1 hb (R + 1) 0 (by omega) (by omega)) (fun o τ q => ⟨q.1, q.2 ▸ hP⟩)

set_option maxRecDepth 100000 in
/-- count -/
theorem m_cnt6 {R A : Nat} (hRA : pRA R A) {cm : Nat} {s : pT} {σ : gSt} (hc : mRel R A cm s σ) (hb : pBu s.1) : gEM mG mX7_count 0 [.inr (0), .inl (nI (6))] σ (gR (nI (psum (s.1 2 1) A)) (mP R A cm s 0)) := by
  obtain ⟨hR1, hR6, hA35⟩ := hRA
  have hA5 : A ≤ 5 := by omega
  refine gEM_of (by decide +kernel) rfl (Nat.le_of_ble_eq_true rfl) ?_
  refine g_aload_n dX7_count_0 rfl ?_
  refine g_iconst (nI (0)) dX7_count_1 (by decide) ?_
  refine g_put (T := TX7) (N := 26) (Cn := RX7) (ref := "CommitCouncilModel") (ty0 := tyX7) 0 dX7_count_2 (mIn (by decide)) rfl rfl (fun w h => List.mem_cons_of_mem _ (hU7 w h)) tyX7_ok nmX7 (by decide) (List.mem_cons_of_mem _ uw_3_123) (Or.inl rfl) rfl rfl rfl rfl ?_
  have hP := mP_thr hc 0
  have hc1 := hP.1
  refine g_iconst (nI (0)) dX7_count_5 (by decide) ?_
  refine g_istore_n dX7_count_6 (by decide) ?_
  refine g_iload_n dX7_count_7 rfl ?_
  refine g_tableIn (off := 81) 89 dX7_count_8 (by decide) (by decide) (by decide) (by decide) ?_
  refine g_iconst (nI (0)) dX7_count_89 (by decide) ?_
  refine g_istore_n dX7_count_90 (by decide) ?_
  exact gEx_post (m_cnt6_l ⟨hR1, hR6, hA35⟩ hc1 hb (A + 1) 0 (by omega) (by omega)) (fun o τ q => ⟨q.1, q.2 ▸ hP⟩)

set_option maxRecDepth 100000 in
/-- count -/
theorem m_cnt7 {R A : Nat} (hRA : pRA R A) {cm : Nat} {s : pT} {σ : gSt} (hc : mRel R A cm s σ) (hb : pBu s.1) : gEM mG mX7_count 0 [.inr (0), .inl (nI (7))] σ (gR (nI (psum (fun m => if s.1 3 m 0 = 3 then 1 else 0) R)) (mP R A cm s 0)) := by
  obtain ⟨hR1, hR6, hA35⟩ := hRA
  have hA5 : A ≤ 5 := by omega
  refine gEM_of (by decide +kernel) rfl (Nat.le_of_ble_eq_true rfl) ?_
  refine g_aload_n dX7_count_0 rfl ?_
  refine g_iconst (nI (0)) dX7_count_1 (by decide) ?_
  refine g_put (T := TX7) (N := 26) (Cn := RX7) (ref := "CommitCouncilModel") (ty0 := tyX7) 0 dX7_count_2 (mIn (by decide)) rfl rfl (fun w h => List.mem_cons_of_mem _ (hU7 w h)) tyX7_ok nmX7 (by decide) (List.mem_cons_of_mem _ uw_3_123) (Or.inl rfl) rfl rfl rfl rfl ?_
  have hP := mP_thr hc 0
  have hc1 := hP.1
  refine g_iconst (nI (0)) dX7_count_5 (by decide) ?_
  refine g_istore_n dX7_count_6 (by decide) ?_
  refine g_iload_n dX7_count_7 rfl ?_
  refine g_tableIn (off := 123) 131 dX7_count_8 (by decide) (by decide) (by decide) (by decide) ?_
  refine g_iconst (nI (0)) dX7_count_131 (by decide) ?_
  refine g_istore_n dX7_count_132 (by decide) ?_
  exact gEx_post (m_cnt7_l ⟨hR1, hR6, hA35⟩ hc1 hb (R + 1) 0 (by omega) (by omega)) (fun o τ q => ⟨q.1, q.2 ▸ hP⟩)

set_option maxRecDepth 100000 in
/-- count -/
theorem m_cnt8 {R A : Nat} (hRA : pRA R A) {cm : Nat} {s : pT} {σ : gSt} (hc : mRel R A cm s σ) (hb : pBu s.1) : gEM mG mX7_count 0 [.inr (0), .inl (nI (8))] σ (gR (nI (psum (fun m => if s.1 3 m 0 = 4 then 1 else 0) R)) (mP R A cm s 0)) := by
  obtain ⟨hR1, hR6, hA35⟩ := hRA
  have hA5 : A ≤ 5 := by omega
  refine gEM_of (by decide +kernel) rfl (Nat.le_of_ble_eq_true rfl) ?_
  refine g_aload_n dX7_count_0 rfl ?_
  refine g_iconst (nI (0)) dX7_count_1 (by decide) ?_
  refine g_put (T := TX7) (N := 26) (Cn := RX7) (ref := "CommitCouncilModel") (ty0 := tyX7) 0 dX7_count_2 (mIn (by decide)) rfl rfl (fun w h => List.mem_cons_of_mem _ (hU7 w h)) tyX7_ok nmX7 (by decide) (List.mem_cons_of_mem _ uw_3_123) (Or.inl rfl) rfl rfl rfl rfl ?_
  have hP := mP_thr hc 0
  have hc1 := hP.1
  refine g_iconst (nI (0)) dX7_count_5 (by decide) ?_
  refine g_istore_n dX7_count_6 (by decide) ?_
  refine g_iload_n dX7_count_7 rfl ?_
  refine g_tableIn (off := 123) 131 dX7_count_8 (by decide) (by decide) (by decide) (by decide) ?_
  refine g_iconst (nI (0)) dX7_count_131 (by decide) ?_
  refine g_istore_n dX7_count_132 (by decide) ?_
  exact gEx_post (m_cnt8_l ⟨hR1, hR6, hA35⟩ hc1 hb (R + 1) 0 (by omega) (by omega)) (fun o τ q => ⟨q.1, q.2 ▸ hP⟩)

set_option maxRecDepth 100000 in
/-- count -/
theorem m_cnt9 {R A : Nat} (hRA : pRA R A) {cm : Nat} {s : pT} {σ : gSt} (hc : mRel R A cm s σ) (hb : pBu s.1) : gEM mG mX7_count 0 [.inr (0), .inl (nI (9))] σ (gR (nI (s.1 1 2 0)) (mP R A cm s 0)) := by
  obtain ⟨hR1, hR6, hA35⟩ := hRA
  have hA5 : A ≤ 5 := by omega
  refine gEM_of (by decide +kernel) rfl (Nat.le_of_ble_eq_true rfl) ?_
  refine g_aload_n dX7_count_0 rfl ?_
  refine g_iconst (nI (0)) dX7_count_1 (by decide) ?_
  refine g_put (T := TX7) (N := 26) (Cn := RX7) (ref := "CommitCouncilModel") (ty0 := tyX7) 0 dX7_count_2 (mIn (by decide)) rfl rfl (fun w h => List.mem_cons_of_mem _ (hU7 w h)) tyX7_ok nmX7 (by decide) (List.mem_cons_of_mem _ uw_3_123) (Or.inl rfl) rfl rfl rfl rfl ?_
  have hP := mP_thr hc 0
  have hc1 := hP.1
  refine g_iconst (nI (0)) dX7_count_5 (by decide) ?_
  refine g_istore_n dX7_count_6 (by decide) ?_
  refine g_iload_n dX7_count_7 rfl ?_
  refine g_tableIn (off := 161) 169 dX7_count_8 (by decide) (by decide) (by decide) (by decide) ?_
  refine g_aload_n dX7_count_169 rfl ?_
  refine g_get (T := TX7) (N := 26) (Cn := RX7) (ref := "CommitCouncilModel") 8 dX7_count_170 (mIn (by decide)) rfl rfl (fun w h => List.mem_cons_of_mem _ (hU7 w h)) (by decide) (List.mem_cons_of_mem _ uw_3_131) (Or.inl rfl) rfl ?_
  refine gEx.top (v := .inl (nI (s.1 1 2 0))) (congrArg Sum.inl (hc1.1.2.2.2.2.2)) ?_
  exact g_iret dX7_count_173 rfl (⟨rfl, hP⟩)

set_option maxRecDepth 100000 in
/-- count -/
theorem m_cntN {R A : Nat} (hRA : pRA R A) {cm : Nat} {s : pT} {σ : gSt} (hc : mRel R A cm s σ) {y : Int32} (hy : y < 0 ∨ nI 10 ≤ y) : gEM mG mX7_count 0 [.inr (0), .inl (y)] σ (gR (-1) (mP R A cm s 0)) := by
  refine gEM_of (by decide +kernel) rfl (Nat.le_of_ble_eq_true rfl) ?_
  refine g_aload_n dX7_count_0 rfl ?_
  refine g_iconst (nI (0)) dX7_count_1 (by decide) ?_
  refine g_put (T := TX7) (N := 26) (Cn := RX7) (ref := "CommitCouncilModel") (ty0 := tyX7) 0 dX7_count_2 (mIn (by decide)) rfl rfl (fun w h => List.mem_cons_of_mem _ (hU7 w h)) tyX7_ok nmX7 (by decide) (List.mem_cons_of_mem _ uw_3_123) (Or.inl rfl) rfl rfl rfl rfl ?_
  have hP := mP_thr hc 0
  have hc1 := hP.1
  refine g_iconst (nI (0)) dX7_count_5 (by decide) ?_
  refine g_istore_n dX7_count_6 (by decide) ?_
  refine g_iload_n dX7_count_7 rfl ?_
  refine g_tableOut 174 dX7_count_8 (sw_out (n := 9) (by decide) hy) (by decide) ?_
  refine g_iconst ((-1)) dX7_count_174 (by decide) ?_
  exact g_iret dX7_count_175 rfl (⟨rfl, hP⟩)

set_option maxRecDepth 100000 in
/-- astray -/
theorem m_astray {R A : Nat} (hRA : pRA R A) {cm : Nat} {s : pT} {σ : gSt} (hc : mRel R A cm s σ) : gEM mG mX7_astray 0 [.inr (0)] σ (gR (nI 0) (mP R A cm s 0)) := by
  refine gEM_of (by decide +kernel) rfl (Nat.le_of_ble_eq_true rfl) ?_
  refine g_aload_n dX7_astray_0 rfl ?_
  refine g_iconst (nI (0)) dX7_astray_1 (by decide) ?_
  refine g_put (T := TX7) (N := 26) (Cn := RX7) (ref := "CommitCouncilModel") (ty0 := tyX7) 0 dX7_astray_2 (mIn (by decide)) rfl rfl (fun w h => List.mem_cons_of_mem _ (hU7 w h)) tyX7_ok nmX7 (by decide) (List.mem_cons_of_mem _ uw_3_123) (Or.inl rfl) rfl rfl rfl rfl ?_
  have hP := mP_thr hc 0
  have hc1 := hP.1
  refine g_iconst (nI (0)) dX7_astray_5 (by decide) ?_
  exact g_iret dX7_astray_6 rfl (⟨rfl, hP⟩)

def filM (σ : gSt) (c lo n : Nat) (v : Int32) : gSt := gur σ c (fun p => if lo ≤ p ∧ p < lo + n then v else σ c p)
theorem filM_0 (σ : gSt) (c lo : Nat) (v : Int32) : filM σ c lo 0 v = σ := by
  funext a p
  unfold filM gur
  by_cases h : a = c
  · subst h
    rw [if_pos rfl, if_neg (by omega)]
  · rw [if_neg h]
theorem filM_s (σ : gSt) (c lo n : Nat) {q : Nat} (v : Int32) (hq : q = lo + n) : gup (filM σ c lo n v) c q v = filM σ c lo (n + 1) v := by
  subst hq
  funext a p
  unfold filM gur gup
  by_cases h : a = c
  · subst h
    by_cases h2 : p = lo + n
    · rw [if_pos ⟨rfl, h2⟩, if_pos rfl, if_pos (by omega)]
    · rw [if_neg (fun q => h2 q.2), if_pos rfl]
      show (if a = a then fun p => if lo ≤ p ∧ p < lo + n then v else σ a p else σ a) p = _
      rw [if_pos rfl]
      by_cases h3 : lo ≤ p ∧ p < lo + n
      · rw [if_pos h3, if_pos (by omega)]
      · rw [if_neg h3, if_neg (by omega)]
  · rw [if_neg (fun q => h q.1), if_neg h]
    exact congrFun (if_neg h) p
theorem filM_ne (σ : gSt) {c lo n a : Nat} {v : Int32} (h : a ≠ c) : filM σ c lo n v a = σ a := gur_ne σ _ h
theorem filM_at (σ : gSt) {c lo n : Nat} {v : Int32} (p : Nat) : filM σ c lo n v c p = if lo ≤ p ∧ p < lo + n then v else σ c p := by
  unfold filM
  rw [gur_self]
theorem fil_swap (σ : gSt) {c d lo n lo2 n2 q : Nat} {v w : Int32} (hcd : c ≠ d) (hq : q = lo + n) : gup (filM (filM σ c lo n v) d lo2 n2 w) c q v = filM (filM σ c lo (n + 1) v) d lo2 n2 w := by
  funext a p
  by_cases h : a = d
  · subst h
    rw [gup_ne _ _ (fun q => hcd q.symm), filM_at, filM_at, filM_ne _ (fun q => hcd q.symm), filM_ne _ (fun q => hcd q.symm)]
  · rw [filM_ne _ h, ← filM_s σ c lo n v hq]
    unfold gup
    rw [filM_ne _ h]
/-- the store of a leader that has gone down -/
def dwnM (σ : gSt) (i : Nat) : gSt := filM (filM (gup (gup (gup (gup σ (20 + 2) i (nI 0)) 11 i (nI 0)) 13 i (nI 0)) 14 i (nI 0)) 19 (i * 6) 6 (nI 0)) 17 (i * 30) 30 (-1)
theorem mRel_dwn {R A cm : Nat} {s : pT} {σ : gSt} (h : mRel R A cm s σ) (hR : R ≤ 6) {i : Nat} (hi : i < 3) : mRel R A cm (tCrash 2 i s) (dwnM σ i) := by
  have e : tCrash 2 i s = (tFor (pu s.1 2 2 i 0) i, s.2) := rfl
  rw [e]
  refine mRel_to h [11, 13, 14, 15, 16, 17, 18, 19, 20, 21, 22] [2, 8, 10, 11, 20, 13, 14] (by decide) (fun c _ hc h3 => ?_) (fun d hd => ?_) (mO_kept h.1 (fun j _ => ?_) rfl rfl) (mMs_kept h.2.1 ?_) (fun c hc => ?_)
  · simp only [List.mem_cons, List.not_mem_nil, or_false, not_or] at hc
    unfold dwnM
    rw [filM_ne _ (by omega), filM_ne _ (by omega), gup_ne _ _ (by omega), gup_ne _ _ (by omega), gup_ne _ _ (by omega), gup_ne _ _ (by omega)]
  · simp only [List.mem_cons, List.not_mem_nil, or_false, not_or] at hd
    unfold tFor
    rw [pClr_c _ (by omega), pClr_c _ (by omega), pClr_c _ (by omega), pClr_c _ (by omega), pu_c _ (by omega), pu_c _ (by omega), pu_c _ (by omega)]
  · unfold dwnM
    rw [filM_ne _ (by decide), filM_ne _ (by decide), gup_ne _ _ (by decide), gup_ne _ _ (by decide), gup_ne _ _ (by decide), gup_ne _ _ (by decide)]
  · unfold dwnM
    rw [filM_ne _ (by decide), filM_ne _ (by decide), gup_ne _ _ (by decide), gup_ne _ _ (by decide), gup_ne _ _ (by decide), gup_ne _ _ (by decide)]
  · simp only [List.mem_cons, List.not_mem_nil, or_false] at hc
    rcases hc with rfl | rfl | rfl | rfl | rfl | rfl | rfl | rfl | rfl | rfl | rfl
    · intro k hk
      have q := mR_pha h hk
      unfold dwnM
      rw [filM_ne _ (by decide), filM_ne _ (by decide)]
      by_cases e : k = i
      · subst e; simp [gup, pu, pClr, tFor]
      · simp [gup, pu, pClr, tFor, e, q]
    · intro k hk
      have q := mR_dec h hk
      unfold dwnM
      rw [filM_ne _ (by decide), filM_ne _ (by decide)]
      by_cases e : k = i
      · subst e; simp [gup, pu, pClr, tFor]
      · simp [gup, pu, pClr, tFor, e, q]
    · intro k hk
      have q := mR_tol h hk
      unfold dwnM
      rw [filM_ne _ (by decide), filM_ne _ (by decide)]
      by_cases e : k = i
      · subst e; simp [gup, pu, pClr, tFor, msk]
      · simp [gup, pu, pClr, tFor, e, q, msk]
    · intro k a m hk ha hm hn
      by_cases e : k = i
      · subst e; exact absurd (show _ = 0 by simp [pu, pClr, tFor]) hn
      · have hn' : s.1 11 k a ≠ 0 := by simpa [pu, pClr, tFor, e] using hn
        have q := mR_tB h hk ha hm hn'
        unfold dwnM
        rw [filM_ne _ (by decide), filM_ne _ (by decide), gup_ne _ _ (by decide), gup_ne _ _ (by decide), gup_ne _ _ (by decide), gup_ne _ _ (by decide), q]
        simp [pu, pClr, tFor]
    · intro k a m hk ha hm hn
      by_cases e : k = i
      · subst e; exact absurd (show _ = 0 by simp [pu, pClr, tFor]) hn
      · have hn' : s.1 11 k a ≠ 0 := by simpa [pu, pClr, tFor, e] using hn
        have q := mR_tW h hk ha hm hn'
        unfold dwnM
        rw [filM_ne _ (by decide), filM_ne _ (by decide), gup_ne _ _ (by decide), gup_ne _ _ (by decide), gup_ne _ _ (by decide), gup_ne _ _ (by decide), q]
        simp [pu, pClr, tFor]
    · intro k m a hk hm ha
      have q := mR_sB h hk hm ha
      unfold dwnM
      rw [filM_at]
      by_cases e : k = i
      · subst e
        rw [if_pos (by omega)]
        simp [tFor, pClr, pB]
      · rw [if_neg (by omega), filM_ne _ (by decide), gup_ne _ _ (by decide), gup_ne _ _ (by decide), gup_ne _ _ (by decide), gup_ne _ _ (by decide), q]
        simp [pu, pClr, tFor, e]
    · intro k m a hk hm ha hn
      by_cases e : k = i
      · subst e; exact absurd (show _ = 0 by simp [pu, pClr, tFor]) hn
      · have hn' : s.1 14 k (m * 5 + a) ≠ 0 := by simpa [pu, pClr, tFor, e] using hn
        have q := mR_sW h hk hm ha hn'
        unfold dwnM
        rw [filM_ne _ (by decide), filM_ne _ (by decide), gup_ne _ _ (by decide), gup_ne _ _ (by decide), gup_ne _ _ (by decide), gup_ne _ _ (by decide), q]
        simp [pu, pClr, tFor, e]
    · intro k m hk hm
      have q := mR_oc h hk hm
      unfold dwnM
      rw [filM_ne _ (by decide), filM_at]
      by_cases e : k = i
      · subst e
        rw [if_pos (by omega)]
        simp [tFor, pClr]
      · rw [if_neg (by omega), gup_ne _ _ (by decide), gup_ne _ _ (by decide), gup_ne _ _ (by decide), gup_ne _ _ (by decide), q]
        simp [pu, pClr, tFor, e]
    · intro k hk
      have q := mR_u0 h hk
      unfold dwnM
      rw [filM_ne _ (by decide), filM_ne _ (by decide), gup_ne _ _ (by decide), gup_ne _ _ (by decide), gup_ne _ _ (by decide), gup_ne _ _ (by decide)]
      exact q
    · intro k hk
      have q := mR_u1 h hk
      unfold dwnM
      rw [filM_ne _ (by decide), filM_ne _ (by decide), gup_ne _ _ (by decide), gup_ne _ _ (by decide), gup_ne _ _ (by decide), gup_ne _ _ (by decide)]
      exact q
    · intro k hk
      have q := mR_u2 h hk
      unfold dwnM
      rw [filM_ne _ (by decide), filM_ne _ (by decide), gup_ne _ _ (by decide), gup_ne _ _ (by decide), gup_ne _ _ (by decide)]
      by_cases e : k = i
      · subst e; simp [gup, pu, pClr, tFor]
      · have q' : σ 22 k = nI (s.1 2 2 k) := q
        simp [gup, pu, pClr, tFor, e, q']

theorem mRel_up0 {R A cm : Nat} {s : pT} {σ : gSt} (h : mRel R A cm s σ) {one v : Nat} : mRel R A cm (pu s.1 2 0 one v, s.2) (gup σ (20 + 0) one (nI v)) := by
  refine mRel_to h [20, 21, 22] [2] (by decide) (fun c _ hc _ => gup_ne _ _ (fun q => hc (by rw [q]; decide))) (fun d hd => pu_c _ (fun q => hd (by rw [q]; decide))) (mO_kept h.1 (fun j _ => by rw [gup_ne _ _ (by decide)]) rfl rfl) (mMs_kept h.2.1 (gup_ne _ _ (by decide))) (fun c hc => ?_)
  · simp only [List.mem_cons, List.not_mem_nil, or_false] at hc
    rcases hc with rfl | rfl | rfl
    · intro i hi
      have q := mR_u0 h hi
      by_cases e : i = one
      · subst e; simp [gup, pu]
      · have q' : σ 20 i = nI (s.1 2 0 i) := q
        simp [gup, pu, e, q']
    · intro i hi
      have q := mR_u1 h hi
      rw [gup_ne _ _ (by decide)]
      exact q
    · intro i hi
      have q := mR_u2 h hi
      rw [gup_ne _ _ (by decide)]
      exact q

theorem mRel_up1 {R A cm : Nat} {s : pT} {σ : gSt} (h : mRel R A cm s σ) {one v : Nat} : mRel R A cm (pu s.1 2 1 one v, s.2) (gup σ (20 + 1) one (nI v)) := by
  refine mRel_to h [20, 21, 22] [2] (by decide) (fun c _ hc _ => gup_ne _ _ (fun q => hc (by rw [q]; decide))) (fun d hd => pu_c _ (fun q => hd (by rw [q]; decide))) (mO_kept h.1 (fun j _ => by rw [gup_ne _ _ (by decide)]) rfl rfl) (mMs_kept h.2.1 (gup_ne _ _ (by decide))) (fun c hc => ?_)
  · simp only [List.mem_cons, List.not_mem_nil, or_false] at hc
    rcases hc with rfl | rfl | rfl
    · intro i hi
      have q := mR_u0 h hi
      rw [gup_ne _ _ (by decide)]
      exact q
    · intro i hi
      have q := mR_u1 h hi
      by_cases e : i = one
      · subst e; simp [gup, pu]
      · have q' : σ 21 i = nI (s.1 2 1 i) := q
        simp [gup, pu, e, q']
    · intro i hi
      have q := mR_u2 h hi
      rw [gup_ne _ _ (by decide)]
      exact q

theorem mRel_up2 {R A cm : Nat} {s : pT} {σ : gSt} (h : mRel R A cm s σ) {one v : Nat} : mRel R A cm (pu s.1 2 2 one v, s.2) (gup σ (20 + 2) one (nI v)) := by
  refine mRel_to h [20, 21, 22] [2] (by decide) (fun c _ hc _ => gup_ne _ _ (fun q => hc (by rw [q]; decide))) (fun d hd => pu_c _ (fun q => hd (by rw [q]; decide))) (mO_kept h.1 (fun j _ => by rw [gup_ne _ _ (by decide)]) rfl rfl) (mMs_kept h.2.1 (gup_ne _ _ (by decide))) (fun c hc => ?_)
  · simp only [List.mem_cons, List.not_mem_nil, or_false] at hc
    rcases hc with rfl | rfl | rfl
    · intro i hi
      have q := mR_u0 h hi
      rw [gup_ne _ _ (by decide)]
      exact q
    · intro i hi
      have q := mR_u1 h hi
      rw [gup_ne _ _ (by decide)]
      exact q
    · intro i hi
      have q := mR_u2 h hi
      by_cases e : i = one
      · subst e; simp [gup, pu]
      · have q' : σ 22 i = nI (s.1 2 2 i) := q
        simp [gup, pu, e, q']

set_option maxRecDepth 100000 in
theorem m_dwn_a {σ : gSt} {i m : Nat} (hi : i < 3) (hm : m < 6) {Q : gOut → gSt → Prop} (hq : ∀ y, gEx mG mX7_turns 0 98 [some (.inr 0), some (.inl (nI 2)), some (.inl (nI i)), some (.inl (nI 0)), some (.inl (nI (m + 1))), y] [] (filM (filM σ 19 (i * 6) (m + 1) (nI 0)) 17 (i * 30) (5 * (m + 1)) (-1)) Q) : ∀ (k a : Nat), a ≤ 5 → 5 - a < k → gEx mG mX7_turns 0 121 [some (.inr 0), some (.inl (nI 2)), some (.inl (nI i)), some (.inl (nI 0)), some (.inl (nI m)), some (.inl (nI a))] [] (filM (filM σ 19 (i * 6) (m + 1) (nI 0)) 17 (i * 30) (5 * m + a) (-1)) Q := by
  intro k
  induction k with
  | zero => intro a hi1 hi2; exact absurd hi2 (by omega)
  | succ k ih =>
    intro a hi1 hi2 
    refine g_iload dX7_turns_121 rfl ?_
    refine g_iconst (nI (5)) dX7_turns_123 (by decide) ?_
    refine g_icmp_ge 148 dX7_turns_124 (by decide) (fun h124 => ?_) (fun h124 => ?_)
    · skip
      rw [nI_leI (by omega) (by omega)] at h124
      refine g_iinc (nI (m + 1)) dX7_turns_148 rfl (show nI (m) + nI 1 = _ from nI_add _ _) (by decide) ?_
      refine g_goto 98 dX7_turns_151 (by decide) ?_
      have e : a = 5 := by omega
      subst e
      exact hq _
    · skip
      rw [nI_leI (by omega) (by omega)] at h124
      refine g_aload_n dX7_turns_127 rfl ?_
      refine g_getr (T := TX7) (N := 26) (Cn := RX7) (ref := "CommitCouncilModel") 23 dX7_turns_128 (mIn (by decide)) rfl rfl (fun w h => List.mem_cons_of_mem _ (hU7 w h)) (by decide) (List.mem_cons_of_mem _ uw_3_146) (Or.inl rfl) rfl ?_
      refine g_aload_n dX7_turns_131 rfl ?_
      refine g_iload_n dX7_turns_132 rfl ?_
      refine g_iload dX7_turns_133 rfl ?_
      refine g_iload dX7_turns_135 rfl ?_
      refine g_callVi (nI ((i * 6 + m) * 5 + a)) (n9 := 3) [.inl (nI (i)), .inl (nI (m)), .inl (nI (a))] [.inr (17)] (m_seenAt) dX7_turns_137 (gU_V uw_4_60 uw_4_62 us_2_2 uw_1_8 uw_4_63) rfl (by decide +kernel) rfl ⟨by decide, by decide⟩ (mIn (by decide)) rfl rfl rfl (Nat.le_of_ble_eq_true rfl) (fun τ3 hq3 => ?_)
      subst hq3
      refine g_iconst ((-1)) dX7_turns_140 (by decide) ?_
      refine g_iastN (n := 90) (j := (i * 6 + m) * 5 + a) dX7_turns_141 (mIn (by decide)) rfl (by omega) (by omega) ?_
      refine g_iinc (nI (a + 1)) dX7_turns_142 rfl (show nI (a) + nI 1 = _ from nI_add _ _) (by decide) ?_
      refine g_goto 121 dX7_turns_145 (by decide) ?_
      rw [filM_s _ _ _ _ _ (by omega)]
      exact ih (a + 1) (by omega) (by omega)

set_option maxRecDepth 100000 in
theorem m_dwn_m {σ : gSt} {i : Nat} (hi : i < 3) {Q : gOut → gSt → Prop} (hq : Q (.inl (some (.inl 1))) (filM (filM σ 19 (i * 6) (6) (nI 0)) 17 (i * 30) (30) (-1))) : ∀ (k m : Nat), m ≤ 6 → 6 - m < k → ∀ y, gEx mG mX7_turns 0 98 [some (.inr 0), some (.inl (nI 2)), some (.inl (nI i)), some (.inl (nI 0)), some (.inl (nI m)), y] [] (filM (filM σ 19 (i * 6) (m) (nI 0)) 17 (i * 30) (5 * m) (-1)) Q := by
  intro k
  induction k with
  | zero => intro m hi1 hi2; exact absurd hi2 (by omega)
  | succ k ih =>
    intro m hi1 hi2 y
    refine g_iload dX7_turns_98 rfl ?_
    refine g_bipush (nI (6)) dX7_turns_100 (by decide) ?_
    refine g_icmp_ge 154 dX7_turns_102 (by decide) (fun h102 => ?_) (fun h102 => ?_)
    · skip
      rw [nI_leI (by omega) (by omega)] at h102
      refine g_iconst (nI (1)) dX7_turns_154 (by decide) ?_
      refine g_zret dX7_turns_155 rfl (rfl) ?_
      have e : m = 6 := by omega
      subst e
      exact hq
    · skip
      rw [nI_leI (by omega) (by omega)] at h102
      refine g_aload_n dX7_turns_105 rfl ?_
      refine g_getr (T := TX7) (N := 26) (Cn := RX7) (ref := "CommitCouncilModel") 25 dX7_turns_106 (mIn (by decide)) rfl rfl (fun w h => List.mem_cons_of_mem _ (hU7 w h)) (by decide) (List.mem_cons_of_mem _ uw_3_148) (Or.inl rfl) rfl ?_
      refine g_iload_n dX7_turns_109 rfl ?_
      refine g_bipush (nI (6)) dX7_turns_110 (by decide) ?_
      refine g_imul dX7_turns_112 ?_
      refine gEx.top (v := .inl (nI ((i) * (6)))) (congrArg Sum.inl (pk_mul _ _)) ?_
      refine g_iload dX7_turns_113 rfl ?_
      refine g_iadd dX7_turns_115 ?_
      refine gEx.top (v := .inl (nI ((i) * (6) + m))) (congrArg Sum.inl (nI_add _ _)) ?_
      refine g_iconst (nI (0)) dX7_turns_116 (by decide) ?_
      refine g_iastN (n := 18) (j := (i) * (6) + m) dX7_turns_117 (mIn (by decide)) rfl (by omega) (by omega) ?_
      refine g_iconst (nI (0)) dX7_turns_118 (by decide) ?_
      refine g_istore dX7_turns_119 (by decide) ?_
      rw [fil_swap _ (by decide) rfl]
      have := m_dwn_a (σ := σ) hi (show m < 6 by omega) (fun y => ih (m + 1) (by omega) (by omega) y) 6 0 (by decide) (by decide)
      exact this

set_option maxRecDepth 100000 in
/-- turns -/
theorem m_crasht0 {R A : Nat} (hRA : pRA R A) {cm : Nat} {s : pT} {σ : gSt} (hc : mRel R A cm s σ) (hb : pBu s.1) {i : Nat} (hi : i < R) (hu : s.1 2 0 i ≠ 0) : gEM mG mX7_turns 0 [.inr (0), .inl (nI (0)), .inl (nI (i)), .inl (nI (0))] σ (gR 1 (mP R A cm (tCrash 0 i s) 0)) := by
  obtain ⟨hR1, hR6, hA35⟩ := hRA
  have hA5 : A ≤ 5 := by omega
  have hb2 : s.1 2 0 i ≤ 1 := hb 2 0 i (by decide) (by decide)
  refine gEM_of (by decide +kernel) rfl (Nat.le_of_ble_eq_true rfl) ?_
  refine g_aload_n dX7_turns_0 rfl ?_
  refine g_iload_n dX7_turns_1 rfl ?_
  refine g_if_lt 10 dX7_turns_2 (by decide) (fun h2 => ?_) (fun h2 => ?_)
  · skip
    rw [nI_n (by omega)] at h2
    exact h2.elim
  · skip
    rw [nI_n (by omega)] at h2
    refine g_iload_n dX7_turns_5 rfl ?_
    refine g_iconst (nI (2)) dX7_turns_6 (by decide) ?_
    refine g_icmp_le 14 dX7_turns_7 (by decide) (fun h7 => ?_) (fun h7 => ?_)
    · skip
      rw [nI_leI (by omega) (by omega)] at h7
      refine g_iload_n dX7_turns_14 rfl ?_
      refine g_if_lt 27 dX7_turns_15 (by decide) (fun h15 => ?_) (fun h15 => ?_)
      · skip
        rw [nI_n (by omega)] at h15
        exact h15.elim
      · skip
        rw [nI_n (by omega)] at h15
        refine g_iload_n dX7_turns_18 rfl ?_
        refine g_aload_n dX7_turns_19 rfl ?_
        refine g_iload_n dX7_turns_20 rfl ?_
        refine g_callVi (nI (R)) (n9 := 1) [.inl (nI (0))] [.inl (nI (i)), .inr (0)] (m_many0 hc.1.1 hc.1.2.1) dX7_turns_21 (gU_V uw_4_105 uw_4_107 us_2_9 uw_1_8 uw_4_108) rfl (by decide +kernel) rfl ⟨by decide, by decide⟩ (mIn (by decide)) rfl rfl rfl (Nat.le_of_ble_eq_true rfl) (fun σ1 hp1 => ?_)
        subst hp1
        refine g_icmp_lt 31 dX7_turns_24 (by decide) (fun h24 => ?_) (fun h24 => ?_)
        · skip
          rw [nI_ltI (by omega) (by omega)] at h24
          refine g_iconst (nI (0)) dX7_turns_31 (by decide) ?_
          refine g_put (T := TX7) (N := 26) (Cn := RX7) (ref := "CommitCouncilModel") (ty0 := tyX7) 0 dX7_turns_32 (mIn (by decide)) rfl rfl (fun w h => List.mem_cons_of_mem _ (hU7 w h)) tyX7_ok nmX7 (by decide) (List.mem_cons_of_mem _ uw_3_123) (Or.inl rfl) rfl rfl rfl rfl ?_
          have hP := mP_thr hc 0
          have hc1 := hP.1
          refine g_aload_n dX7_turns_35 rfl ?_
          refine g_get (T := TX7) (N := 26) (Cn := RX7) (ref := "CommitCouncilModel") 0 dX7_turns_36 (mIn (by decide)) rfl rfl (fun w h => List.mem_cons_of_mem _ (hU7 w h)) (by decide) (List.mem_cons_of_mem _ uw_3_123) (Or.inl rfl) rfl ?_
          refine gEx.top (v := .inl (nI (0))) (congrArg Sum.inl (rfl)) ?_
          refine g_if_gt 54 dX7_turns_39 (by decide) (fun h39 => ?_) (fun h39 => ?_)
          · skip
            rw [nI_pp (by omega)] at h39
            exfalso; omega
          · skip
            rw [nI_pp (by omega)] at h39
            refine g_aload_n dX7_turns_42 rfl ?_
            refine g_getr (T := TX7) (N := 26) (Cn := RX7) (ref := "CommitCouncilModel") 10 dX7_turns_43 (mIn (by decide)) rfl rfl (fun w h => List.mem_cons_of_mem _ (hU7 w h)) (by decide) (List.mem_cons_of_mem _ uw_3_133) (Or.inl rfl) rfl ?_
            refine g_iload_n dX7_turns_46 rfl ?_
            have hx1 : 0 < 3 := by omega
            refine g_aald5N (n := 3) (j := 0) dX7_turns_47 (mIn (by decide)) rfl hx1 (by omega) ?_
            refine g_iload_n dX7_turns_48 rfl ?_
            refine g_zaldN (n := 6) (j := i) dX7_turns_49 (mIn (by omega)) (mSh_u hx1) (by omega) (by omega) ?_
            refine gEx.top (v := .inl (nI (s.1 2 0 (i)))) (congrArg Sum.inl (mR_u0 hc1 (by omega))) ?_
            refine g_iload_n dX7_turns_50 rfl ?_
            refine g_icmp_ne 56 dX7_turns_51 (by decide) (fun h51 => ?_) (fun h51 => ?_)
            · skip
              rw [nI_eq (by omega) (by omega)] at h51
              refine g_aload_n dX7_turns_56 rfl ?_
              refine g_getr (T := TX7) (N := 26) (Cn := RX7) (ref := "CommitCouncilModel") 10 dX7_turns_57 (mIn (by decide)) rfl rfl (fun w h => List.mem_cons_of_mem _ (hU7 w h)) (by decide) (List.mem_cons_of_mem _ uw_3_133) (Or.inl rfl) rfl ?_
              refine g_iload_n dX7_turns_60 rfl ?_
              have hx2 : 0 < 3 := by omega
              refine g_aald5N (n := 3) (j := 0) dX7_turns_61 (mIn (by decide)) rfl hx2 (by omega) ?_
              refine g_iload_n dX7_turns_62 rfl ?_
              refine g_iload_n dX7_turns_63 rfl ?_
              refine g_zastN (n := 6) (j := i) dX7_turns_64 (mIn (by omega)) (mSh_u hx2) (by omega) (by omega) (rfl) ?_
              refine g_iload_n dX7_turns_65 rfl ?_
              refine g_iconst (nI (2)) dX7_turns_66 (by decide) ?_
              refine g_icmp_ne 154 dX7_turns_67 (by decide) (fun h67 => ?_) (fun h67 => ?_)
              · skip
                rw [nI_eq (by omega) (by omega)] at h67
                refine g_iconst (nI (1)) dX7_turns_154 (by decide) ?_
                exact g_zret dX7_turns_155 rfl (rfl) (⟨rfl, mRel_up0 hc1, by rw [gup_ne _ _ (by decide)]; exact hP.2⟩)
              · skip
                rw [nI_eq (by omega) (by omega)] at h67
                exfalso; omega
            · skip
              rw [nI_eq (by omega) (by omega)] at h51
              exfalso; omega
        · skip
          rw [nI_ltI (by omega) (by omega)] at h24
          exfalso; omega
    · skip
      rw [nI_leI (by omega) (by omega)] at h7
      exfalso; omega

set_option maxRecDepth 100000 in
/-- turns -/
theorem m_crashs0 {R A : Nat} (hRA : pRA R A) {cm : Nat} {s : pT} {σ : gSt} (hc : mRel R A cm s σ) (hb : pBu s.1) {i : Nat} (hi : i < R) (hu : s.1 2 0 i = 0) : gEM mG mX7_turns 0 [.inr (0), .inl (nI (0)), .inl (nI (i)), .inl (nI (0))] σ (gR 0 (mP R A cm s 0)) := by
  obtain ⟨hR1, hR6, hA35⟩ := hRA
  have hA5 : A ≤ 5 := by omega
  have hb2 : s.1 2 0 i ≤ 1 := hb 2 0 i (by decide) (by decide)
  refine gEM_of (by decide +kernel) rfl (Nat.le_of_ble_eq_true rfl) ?_
  refine g_aload_n dX7_turns_0 rfl ?_
  refine g_iload_n dX7_turns_1 rfl ?_
  refine g_if_lt 10 dX7_turns_2 (by decide) (fun h2 => ?_) (fun h2 => ?_)
  · skip
    rw [nI_n (by omega)] at h2
    exact h2.elim
  · skip
    rw [nI_n (by omega)] at h2
    refine g_iload_n dX7_turns_5 rfl ?_
    refine g_iconst (nI (2)) dX7_turns_6 (by decide) ?_
    refine g_icmp_le 14 dX7_turns_7 (by decide) (fun h7 => ?_) (fun h7 => ?_)
    · skip
      rw [nI_leI (by omega) (by omega)] at h7
      refine g_iload_n dX7_turns_14 rfl ?_
      refine g_if_lt 27 dX7_turns_15 (by decide) (fun h15 => ?_) (fun h15 => ?_)
      · skip
        rw [nI_n (by omega)] at h15
        exact h15.elim
      · skip
        rw [nI_n (by omega)] at h15
        refine g_iload_n dX7_turns_18 rfl ?_
        refine g_aload_n dX7_turns_19 rfl ?_
        refine g_iload_n dX7_turns_20 rfl ?_
        refine g_callVi (nI (R)) (n9 := 1) [.inl (nI (0))] [.inl (nI (i)), .inr (0)] (m_many0 hc.1.1 hc.1.2.1) dX7_turns_21 (gU_V uw_4_105 uw_4_107 us_2_9 uw_1_8 uw_4_108) rfl (by decide +kernel) rfl ⟨by decide, by decide⟩ (mIn (by decide)) rfl rfl rfl (Nat.le_of_ble_eq_true rfl) (fun σ1 hp1 => ?_)
        subst hp1
        refine g_icmp_lt 31 dX7_turns_24 (by decide) (fun h24 => ?_) (fun h24 => ?_)
        · skip
          rw [nI_ltI (by omega) (by omega)] at h24
          refine g_iconst (nI (0)) dX7_turns_31 (by decide) ?_
          refine g_put (T := TX7) (N := 26) (Cn := RX7) (ref := "CommitCouncilModel") (ty0 := tyX7) 0 dX7_turns_32 (mIn (by decide)) rfl rfl (fun w h => List.mem_cons_of_mem _ (hU7 w h)) tyX7_ok nmX7 (by decide) (List.mem_cons_of_mem _ uw_3_123) (Or.inl rfl) rfl rfl rfl rfl ?_
          have hP := mP_thr hc 0
          have hc1 := hP.1
          refine g_aload_n dX7_turns_35 rfl ?_
          refine g_get (T := TX7) (N := 26) (Cn := RX7) (ref := "CommitCouncilModel") 0 dX7_turns_36 (mIn (by decide)) rfl rfl (fun w h => List.mem_cons_of_mem _ (hU7 w h)) (by decide) (List.mem_cons_of_mem _ uw_3_123) (Or.inl rfl) rfl ?_
          refine gEx.top (v := .inl (nI (0))) (congrArg Sum.inl (rfl)) ?_
          refine g_if_gt 54 dX7_turns_39 (by decide) (fun h39 => ?_) (fun h39 => ?_)
          · skip
            rw [nI_pp (by omega)] at h39
            exfalso; omega
          · skip
            rw [nI_pp (by omega)] at h39
            refine g_aload_n dX7_turns_42 rfl ?_
            refine g_getr (T := TX7) (N := 26) (Cn := RX7) (ref := "CommitCouncilModel") 10 dX7_turns_43 (mIn (by decide)) rfl rfl (fun w h => List.mem_cons_of_mem _ (hU7 w h)) (by decide) (List.mem_cons_of_mem _ uw_3_133) (Or.inl rfl) rfl ?_
            refine g_iload_n dX7_turns_46 rfl ?_
            have hx1 : 0 < 3 := by omega
            refine g_aald5N (n := 3) (j := 0) dX7_turns_47 (mIn (by decide)) rfl hx1 (by omega) ?_
            refine g_iload_n dX7_turns_48 rfl ?_
            refine g_zaldN (n := 6) (j := i) dX7_turns_49 (mIn (by omega)) (mSh_u hx1) (by omega) (by omega) ?_
            refine gEx.top (v := .inl (nI (s.1 2 0 (i)))) (congrArg Sum.inl (mR_u0 hc1 (by omega))) ?_
            refine g_iload_n dX7_turns_50 rfl ?_
            refine g_icmp_ne 56 dX7_turns_51 (by decide) (fun h51 => ?_) (fun h51 => ?_)
            · skip
              rw [nI_eq (by omega) (by omega)] at h51
              exfalso; omega
            · skip
              rw [nI_eq (by omega) (by omega)] at h51
              refine g_iconst (nI (0)) dX7_turns_54 (by decide) ?_
              exact g_zret dX7_turns_55 rfl (rfl) (⟨rfl, hP⟩)
        · skip
          rw [nI_ltI (by omega) (by omega)] at h24
          exfalso; omega
    · skip
      rw [nI_leI (by omega) (by omega)] at h7
      exfalso; omega

set_option maxRecDepth 100000 in
/-- turns -/
theorem m_rect0 {R A : Nat} (hRA : pRA R A) {cm : Nat} {s : pT} {σ : gSt} (hc : mRel R A cm s σ) (hb : pBu s.1) {i : Nat} (hi : i < R) (hu : s.1 2 0 i ≠ 1) : gEM mG mX7_turns 0 [.inr (0), .inl (nI (0)), .inl (nI (i)), .inl (nI (1))] σ (gR 1 (mP R A cm (tRec 0 i s) 0)) := by
  obtain ⟨hR1, hR6, hA35⟩ := hRA
  have hA5 : A ≤ 5 := by omega
  have hb2 : s.1 2 0 i ≤ 1 := hb 2 0 i (by decide) (by decide)
  refine gEM_of (by decide +kernel) rfl (Nat.le_of_ble_eq_true rfl) ?_
  refine g_aload_n dX7_turns_0 rfl ?_
  refine g_iload_n dX7_turns_1 rfl ?_
  refine g_if_lt 10 dX7_turns_2 (by decide) (fun h2 => ?_) (fun h2 => ?_)
  · skip
    rw [nI_n (by omega)] at h2
    exact h2.elim
  · skip
    rw [nI_n (by omega)] at h2
    refine g_iload_n dX7_turns_5 rfl ?_
    refine g_iconst (nI (2)) dX7_turns_6 (by decide) ?_
    refine g_icmp_le 14 dX7_turns_7 (by decide) (fun h7 => ?_) (fun h7 => ?_)
    · skip
      rw [nI_leI (by omega) (by omega)] at h7
      refine g_iload_n dX7_turns_14 rfl ?_
      refine g_if_lt 27 dX7_turns_15 (by decide) (fun h15 => ?_) (fun h15 => ?_)
      · skip
        rw [nI_n (by omega)] at h15
        exact h15.elim
      · skip
        rw [nI_n (by omega)] at h15
        refine g_iload_n dX7_turns_18 rfl ?_
        refine g_aload_n dX7_turns_19 rfl ?_
        refine g_iload_n dX7_turns_20 rfl ?_
        refine g_callVi (nI (R)) (n9 := 1) [.inl (nI (0))] [.inl (nI (i)), .inr (0)] (m_many0 hc.1.1 hc.1.2.1) dX7_turns_21 (gU_V uw_4_105 uw_4_107 us_2_9 uw_1_8 uw_4_108) rfl (by decide +kernel) rfl ⟨by decide, by decide⟩ (mIn (by decide)) rfl rfl rfl (Nat.le_of_ble_eq_true rfl) (fun σ1 hp1 => ?_)
        subst hp1
        refine g_icmp_lt 31 dX7_turns_24 (by decide) (fun h24 => ?_) (fun h24 => ?_)
        · skip
          rw [nI_ltI (by omega) (by omega)] at h24
          refine g_iconst (nI (0)) dX7_turns_31 (by decide) ?_
          refine g_put (T := TX7) (N := 26) (Cn := RX7) (ref := "CommitCouncilModel") (ty0 := tyX7) 0 dX7_turns_32 (mIn (by decide)) rfl rfl (fun w h => List.mem_cons_of_mem _ (hU7 w h)) tyX7_ok nmX7 (by decide) (List.mem_cons_of_mem _ uw_3_123) (Or.inl rfl) rfl rfl rfl rfl ?_
          have hP := mP_thr hc 0
          have hc1 := hP.1
          refine g_aload_n dX7_turns_35 rfl ?_
          refine g_get (T := TX7) (N := 26) (Cn := RX7) (ref := "CommitCouncilModel") 0 dX7_turns_36 (mIn (by decide)) rfl rfl (fun w h => List.mem_cons_of_mem _ (hU7 w h)) (by decide) (List.mem_cons_of_mem _ uw_3_123) (Or.inl rfl) rfl ?_
          refine gEx.top (v := .inl (nI (0))) (congrArg Sum.inl (rfl)) ?_
          refine g_if_gt 54 dX7_turns_39 (by decide) (fun h39 => ?_) (fun h39 => ?_)
          · skip
            rw [nI_pp (by omega)] at h39
            exfalso; omega
          · skip
            rw [nI_pp (by omega)] at h39
            refine g_aload_n dX7_turns_42 rfl ?_
            refine g_getr (T := TX7) (N := 26) (Cn := RX7) (ref := "CommitCouncilModel") 10 dX7_turns_43 (mIn (by decide)) rfl rfl (fun w h => List.mem_cons_of_mem _ (hU7 w h)) (by decide) (List.mem_cons_of_mem _ uw_3_133) (Or.inl rfl) rfl ?_
            refine g_iload_n dX7_turns_46 rfl ?_
            have hx1 : 0 < 3 := by omega
            refine g_aald5N (n := 3) (j := 0) dX7_turns_47 (mIn (by decide)) rfl hx1 (by omega) ?_
            refine g_iload_n dX7_turns_48 rfl ?_
            refine g_zaldN (n := 6) (j := i) dX7_turns_49 (mIn (by omega)) (mSh_u hx1) (by omega) (by omega) ?_
            refine gEx.top (v := .inl (nI (s.1 2 0 (i)))) (congrArg Sum.inl (mR_u0 hc1 (by omega))) ?_
            refine g_iload_n dX7_turns_50 rfl ?_
            refine g_icmp_ne 56 dX7_turns_51 (by decide) (fun h51 => ?_) (fun h51 => ?_)
            · skip
              rw [nI_eq (by omega) (by omega)] at h51
              refine g_aload_n dX7_turns_56 rfl ?_
              refine g_getr (T := TX7) (N := 26) (Cn := RX7) (ref := "CommitCouncilModel") 10 dX7_turns_57 (mIn (by decide)) rfl rfl (fun w h => List.mem_cons_of_mem _ (hU7 w h)) (by decide) (List.mem_cons_of_mem _ uw_3_133) (Or.inl rfl) rfl ?_
              refine g_iload_n dX7_turns_60 rfl ?_
              have hx2 : 0 < 3 := by omega
              refine g_aald5N (n := 3) (j := 0) dX7_turns_61 (mIn (by decide)) rfl hx2 (by omega) ?_
              refine g_iload_n dX7_turns_62 rfl ?_
              refine g_iload_n dX7_turns_63 rfl ?_
              refine g_zastN (n := 6) (j := i) dX7_turns_64 (mIn (by omega)) (mSh_u hx2) (by omega) (by omega) (rfl) ?_
              refine g_iload_n dX7_turns_65 rfl ?_
              refine g_iconst (nI (2)) dX7_turns_66 (by decide) ?_
              refine g_icmp_ne 154 dX7_turns_67 (by decide) (fun h67 => ?_) (fun h67 => ?_)
              · skip
                rw [nI_eq (by omega) (by omega)] at h67
                refine g_iconst (nI (1)) dX7_turns_154 (by decide) ?_
                exact g_zret dX7_turns_155 rfl (rfl) (⟨rfl, mRel_up0 hc1, by rw [gup_ne _ _ (by decide)]; exact hP.2⟩)
              · skip
                rw [nI_eq (by omega) (by omega)] at h67
                exfalso; omega
            · skip
              rw [nI_eq (by omega) (by omega)] at h51
              exfalso; omega
        · skip
          rw [nI_ltI (by omega) (by omega)] at h24
          exfalso; omega
    · skip
      rw [nI_leI (by omega) (by omega)] at h7
      exfalso; omega

set_option maxRecDepth 100000 in
/-- turns -/
theorem m_recs0 {R A : Nat} (hRA : pRA R A) {cm : Nat} {s : pT} {σ : gSt} (hc : mRel R A cm s σ) (hb : pBu s.1) {i : Nat} (hi : i < R) (hu : s.1 2 0 i = 1) : gEM mG mX7_turns 0 [.inr (0), .inl (nI (0)), .inl (nI (i)), .inl (nI (1))] σ (gR 0 (mP R A cm s 0)) := by
  obtain ⟨hR1, hR6, hA35⟩ := hRA
  have hA5 : A ≤ 5 := by omega
  have hb2 : s.1 2 0 i ≤ 1 := hb 2 0 i (by decide) (by decide)
  refine gEM_of (by decide +kernel) rfl (Nat.le_of_ble_eq_true rfl) ?_
  refine g_aload_n dX7_turns_0 rfl ?_
  refine g_iload_n dX7_turns_1 rfl ?_
  refine g_if_lt 10 dX7_turns_2 (by decide) (fun h2 => ?_) (fun h2 => ?_)
  · skip
    rw [nI_n (by omega)] at h2
    exact h2.elim
  · skip
    rw [nI_n (by omega)] at h2
    refine g_iload_n dX7_turns_5 rfl ?_
    refine g_iconst (nI (2)) dX7_turns_6 (by decide) ?_
    refine g_icmp_le 14 dX7_turns_7 (by decide) (fun h7 => ?_) (fun h7 => ?_)
    · skip
      rw [nI_leI (by omega) (by omega)] at h7
      refine g_iload_n dX7_turns_14 rfl ?_
      refine g_if_lt 27 dX7_turns_15 (by decide) (fun h15 => ?_) (fun h15 => ?_)
      · skip
        rw [nI_n (by omega)] at h15
        exact h15.elim
      · skip
        rw [nI_n (by omega)] at h15
        refine g_iload_n dX7_turns_18 rfl ?_
        refine g_aload_n dX7_turns_19 rfl ?_
        refine g_iload_n dX7_turns_20 rfl ?_
        refine g_callVi (nI (R)) (n9 := 1) [.inl (nI (0))] [.inl (nI (i)), .inr (0)] (m_many0 hc.1.1 hc.1.2.1) dX7_turns_21 (gU_V uw_4_105 uw_4_107 us_2_9 uw_1_8 uw_4_108) rfl (by decide +kernel) rfl ⟨by decide, by decide⟩ (mIn (by decide)) rfl rfl rfl (Nat.le_of_ble_eq_true rfl) (fun σ1 hp1 => ?_)
        subst hp1
        refine g_icmp_lt 31 dX7_turns_24 (by decide) (fun h24 => ?_) (fun h24 => ?_)
        · skip
          rw [nI_ltI (by omega) (by omega)] at h24
          refine g_iconst (nI (0)) dX7_turns_31 (by decide) ?_
          refine g_put (T := TX7) (N := 26) (Cn := RX7) (ref := "CommitCouncilModel") (ty0 := tyX7) 0 dX7_turns_32 (mIn (by decide)) rfl rfl (fun w h => List.mem_cons_of_mem _ (hU7 w h)) tyX7_ok nmX7 (by decide) (List.mem_cons_of_mem _ uw_3_123) (Or.inl rfl) rfl rfl rfl rfl ?_
          have hP := mP_thr hc 0
          have hc1 := hP.1
          refine g_aload_n dX7_turns_35 rfl ?_
          refine g_get (T := TX7) (N := 26) (Cn := RX7) (ref := "CommitCouncilModel") 0 dX7_turns_36 (mIn (by decide)) rfl rfl (fun w h => List.mem_cons_of_mem _ (hU7 w h)) (by decide) (List.mem_cons_of_mem _ uw_3_123) (Or.inl rfl) rfl ?_
          refine gEx.top (v := .inl (nI (0))) (congrArg Sum.inl (rfl)) ?_
          refine g_if_gt 54 dX7_turns_39 (by decide) (fun h39 => ?_) (fun h39 => ?_)
          · skip
            rw [nI_pp (by omega)] at h39
            exfalso; omega
          · skip
            rw [nI_pp (by omega)] at h39
            refine g_aload_n dX7_turns_42 rfl ?_
            refine g_getr (T := TX7) (N := 26) (Cn := RX7) (ref := "CommitCouncilModel") 10 dX7_turns_43 (mIn (by decide)) rfl rfl (fun w h => List.mem_cons_of_mem _ (hU7 w h)) (by decide) (List.mem_cons_of_mem _ uw_3_133) (Or.inl rfl) rfl ?_
            refine g_iload_n dX7_turns_46 rfl ?_
            have hx1 : 0 < 3 := by omega
            refine g_aald5N (n := 3) (j := 0) dX7_turns_47 (mIn (by decide)) rfl hx1 (by omega) ?_
            refine g_iload_n dX7_turns_48 rfl ?_
            refine g_zaldN (n := 6) (j := i) dX7_turns_49 (mIn (by omega)) (mSh_u hx1) (by omega) (by omega) ?_
            refine gEx.top (v := .inl (nI (s.1 2 0 (i)))) (congrArg Sum.inl (mR_u0 hc1 (by omega))) ?_
            refine g_iload_n dX7_turns_50 rfl ?_
            refine g_icmp_ne 56 dX7_turns_51 (by decide) (fun h51 => ?_) (fun h51 => ?_)
            · skip
              rw [nI_eq (by omega) (by omega)] at h51
              exfalso; omega
            · skip
              rw [nI_eq (by omega) (by omega)] at h51
              refine g_iconst (nI (0)) dX7_turns_54 (by decide) ?_
              exact g_zret dX7_turns_55 rfl (rfl) (⟨rfl, hP⟩)
        · skip
          rw [nI_ltI (by omega) (by omega)] at h24
          exfalso; omega
    · skip
      rw [nI_leI (by omega) (by omega)] at h7
      exfalso; omega

set_option maxRecDepth 100000 in
/-- turns -/
theorem m_turnX0 {R A : Nat} (hRA : pRA R A) {cm : Nat} {s : pT} {σ : gSt} (hc : mRel R A cm s σ) {y f : Int32} (hy : y < 0 ∨ nI R ≤ y) : gEM mG mX7_turns 0 [.inr (0), .inl (nI (0)), .inl (y), .inl (f)] σ (gR 0 (mP R A cm s 2)) := by
  refine gEM_of (by decide +kernel) rfl (Nat.le_of_ble_eq_true rfl) ?_
  refine g_aload_n dX7_turns_0 rfl ?_
  refine g_iload_n dX7_turns_1 rfl ?_
  refine g_if_lt 10 dX7_turns_2 (by decide) (fun h2 => ?_) (fun h2 => ?_)
  · skip
    rw [nI_n (by omega)] at h2
    exact h2.elim
  · skip
    rw [nI_n (by omega)] at h2
    refine g_iload_n dX7_turns_5 rfl ?_
    refine g_iconst (nI (2)) dX7_turns_6 (by decide) ?_
    refine g_icmp_le 14 dX7_turns_7 (by decide) (fun h7 => ?_) (fun h7 => ?_)
    · skip
      rw [nI_leI (by omega) (by omega)] at h7
      refine g_iload_n dX7_turns_14 rfl ?_
      refine g_if_lt 27 dX7_turns_15 (by decide) (fun h15 => ?_) (fun h15 => ?_)
      · skip
        refine g_iconst (nI (2)) dX7_turns_27 (by decide) ?_
        refine g_goto 32 dX7_turns_28 (by decide) ?_
        refine g_put (T := TX7) (N := 26) (Cn := RX7) (ref := "CommitCouncilModel") (ty0 := tyX7) 0 dX7_turns_32 (mIn (by decide)) rfl rfl (fun w h => List.mem_cons_of_mem _ (hU7 w h)) tyX7_ok nmX7 (by decide) (List.mem_cons_of_mem _ uw_3_123) (Or.inl rfl) rfl rfl rfl rfl ?_
        have hP := mP_thr hc 2
        have hc1 := hP.1
        refine g_aload_n dX7_turns_35 rfl ?_
        refine g_get (T := TX7) (N := 26) (Cn := RX7) (ref := "CommitCouncilModel") 0 dX7_turns_36 (mIn (by decide)) rfl rfl (fun w h => List.mem_cons_of_mem _ (hU7 w h)) (by decide) (List.mem_cons_of_mem _ uw_3_123) (Or.inl rfl) rfl ?_
        refine gEx.top (v := .inl (nI (2))) (congrArg Sum.inl (rfl)) ?_
        refine g_if_gt 54 dX7_turns_39 (by decide) (fun h39 => ?_) (fun h39 => ?_)
        · skip
          rw [nI_pp (by omega)] at h39
          refine g_iconst (nI (0)) dX7_turns_54 (by decide) ?_
          exact g_zret dX7_turns_55 rfl (rfl) (⟨rfl, hP⟩)
        · skip
          rw [nI_pp (by omega)] at h39
          exfalso; omega
      · skip
        refine g_iload_n dX7_turns_18 rfl ?_
        refine g_aload_n dX7_turns_19 rfl ?_
        refine g_iload_n dX7_turns_20 rfl ?_
        refine g_callVi (nI (R)) (n9 := 1) [.inl (nI (0))] [.inl (y), .inr (0)] (m_many0 hc.1.1 hc.1.2.1) dX7_turns_21 (gU_V uw_4_105 uw_4_107 us_2_9 uw_1_8 uw_4_108) rfl (by decide +kernel) rfl ⟨by decide, by decide⟩ (mIn (by decide)) rfl rfl rfl (Nat.le_of_ble_eq_true rfl) (fun σ1 hp1 => ?_)
        subst hp1
        refine g_icmp_lt 31 dX7_turns_24 (by decide) (fun h24 => ?_) (fun h24 => ?_)
        · skip
          skip
          rcases hy with q | q
          · exact absurd q h15
          · exact absurd h24 (Int32.not_lt.mpr q)
        · skip
          skip
          refine g_iconst (nI (2)) dX7_turns_27 (by decide) ?_
          refine g_goto 32 dX7_turns_28 (by decide) ?_
          refine g_put (T := TX7) (N := 26) (Cn := RX7) (ref := "CommitCouncilModel") (ty0 := tyX7) 0 dX7_turns_32 (mIn (by decide)) rfl rfl (fun w h => List.mem_cons_of_mem _ (hU7 w h)) tyX7_ok nmX7 (by decide) (List.mem_cons_of_mem _ uw_3_123) (Or.inl rfl) rfl rfl rfl rfl ?_
          have hP := mP_thr hc 2
          have hc1 := hP.1
          refine g_aload_n dX7_turns_35 rfl ?_
          refine g_get (T := TX7) (N := 26) (Cn := RX7) (ref := "CommitCouncilModel") 0 dX7_turns_36 (mIn (by decide)) rfl rfl (fun w h => List.mem_cons_of_mem _ (hU7 w h)) (by decide) (List.mem_cons_of_mem _ uw_3_123) (Or.inl rfl) rfl ?_
          refine gEx.top (v := .inl (nI (2))) (congrArg Sum.inl (rfl)) ?_
          refine g_if_gt 54 dX7_turns_39 (by decide) (fun h39 => ?_) (fun h39 => ?_)
          · skip
            rw [nI_pp (by omega)] at h39
            refine g_iconst (nI (0)) dX7_turns_54 (by decide) ?_
            exact g_zret dX7_turns_55 rfl (rfl) (⟨rfl, hP⟩)
          · skip
            rw [nI_pp (by omega)] at h39
            exfalso; omega
    · skip
      rw [nI_leI (by omega) (by omega)] at h7
      exfalso; omega

set_option maxRecDepth 100000 in
/-- turns -/
theorem m_crasht1 {R A : Nat} (hRA : pRA R A) {cm : Nat} {s : pT} {σ : gSt} (hc : mRel R A cm s σ) (hb : pBu s.1) {i : Nat} (hi : i < A) (hu : s.1 2 1 i ≠ 0) : gEM mG mX7_turns 0 [.inr (0), .inl (nI (1)), .inl (nI (i)), .inl (nI (0))] σ (gR 1 (mP R A cm (tCrash 1 i s) 0)) := by
  obtain ⟨hR1, hR6, hA35⟩ := hRA
  have hA5 : A ≤ 5 := by omega
  have hb2 : s.1 2 1 i ≤ 1 := hb 2 1 i (by decide) (by decide)
  refine gEM_of (by decide +kernel) rfl (Nat.le_of_ble_eq_true rfl) ?_
  refine g_aload_n dX7_turns_0 rfl ?_
  refine g_iload_n dX7_turns_1 rfl ?_
  refine g_if_lt 10 dX7_turns_2 (by decide) (fun h2 => ?_) (fun h2 => ?_)
  · skip
    rw [nI_n (by omega)] at h2
    exact h2.elim
  · skip
    rw [nI_n (by omega)] at h2
    refine g_iload_n dX7_turns_5 rfl ?_
    refine g_iconst (nI (2)) dX7_turns_6 (by decide) ?_
    refine g_icmp_le 14 dX7_turns_7 (by decide) (fun h7 => ?_) (fun h7 => ?_)
    · skip
      rw [nI_leI (by omega) (by omega)] at h7
      refine g_iload_n dX7_turns_14 rfl ?_
      refine g_if_lt 27 dX7_turns_15 (by decide) (fun h15 => ?_) (fun h15 => ?_)
      · skip
        rw [nI_n (by omega)] at h15
        exact h15.elim
      · skip
        rw [nI_n (by omega)] at h15
        refine g_iload_n dX7_turns_18 rfl ?_
        refine g_aload_n dX7_turns_19 rfl ?_
        refine g_iload_n dX7_turns_20 rfl ?_
        refine g_callVi (nI (A)) (n9 := 1) [.inl (nI (1))] [.inl (nI (i)), .inr (0)] (m_many1 hc.1.1 hc.1.2.1) dX7_turns_21 (gU_V uw_4_105 uw_4_107 us_2_9 uw_1_8 uw_4_108) rfl (by decide +kernel) rfl ⟨by decide, by decide⟩ (mIn (by decide)) rfl rfl rfl (Nat.le_of_ble_eq_true rfl) (fun σ1 hp1 => ?_)
        subst hp1
        refine g_icmp_lt 31 dX7_turns_24 (by decide) (fun h24 => ?_) (fun h24 => ?_)
        · skip
          rw [nI_ltI (by omega) (by omega)] at h24
          refine g_iconst (nI (0)) dX7_turns_31 (by decide) ?_
          refine g_put (T := TX7) (N := 26) (Cn := RX7) (ref := "CommitCouncilModel") (ty0 := tyX7) 0 dX7_turns_32 (mIn (by decide)) rfl rfl (fun w h => List.mem_cons_of_mem _ (hU7 w h)) tyX7_ok nmX7 (by decide) (List.mem_cons_of_mem _ uw_3_123) (Or.inl rfl) rfl rfl rfl rfl ?_
          have hP := mP_thr hc 0
          have hc1 := hP.1
          refine g_aload_n dX7_turns_35 rfl ?_
          refine g_get (T := TX7) (N := 26) (Cn := RX7) (ref := "CommitCouncilModel") 0 dX7_turns_36 (mIn (by decide)) rfl rfl (fun w h => List.mem_cons_of_mem _ (hU7 w h)) (by decide) (List.mem_cons_of_mem _ uw_3_123) (Or.inl rfl) rfl ?_
          refine gEx.top (v := .inl (nI (0))) (congrArg Sum.inl (rfl)) ?_
          refine g_if_gt 54 dX7_turns_39 (by decide) (fun h39 => ?_) (fun h39 => ?_)
          · skip
            rw [nI_pp (by omega)] at h39
            exfalso; omega
          · skip
            rw [nI_pp (by omega)] at h39
            refine g_aload_n dX7_turns_42 rfl ?_
            refine g_getr (T := TX7) (N := 26) (Cn := RX7) (ref := "CommitCouncilModel") 10 dX7_turns_43 (mIn (by decide)) rfl rfl (fun w h => List.mem_cons_of_mem _ (hU7 w h)) (by decide) (List.mem_cons_of_mem _ uw_3_133) (Or.inl rfl) rfl ?_
            refine g_iload_n dX7_turns_46 rfl ?_
            have hx1 : 1 < 3 := by omega
            refine g_aald5N (n := 3) (j := 1) dX7_turns_47 (mIn (by decide)) rfl hx1 (by omega) ?_
            refine g_iload_n dX7_turns_48 rfl ?_
            refine g_zaldN (n := 6) (j := i) dX7_turns_49 (mIn (by omega)) (mSh_u hx1) (by omega) (by omega) ?_
            refine gEx.top (v := .inl (nI (s.1 2 1 (i)))) (congrArg Sum.inl (mR_u1 hc1 (by omega))) ?_
            refine g_iload_n dX7_turns_50 rfl ?_
            refine g_icmp_ne 56 dX7_turns_51 (by decide) (fun h51 => ?_) (fun h51 => ?_)
            · skip
              rw [nI_eq (by omega) (by omega)] at h51
              refine g_aload_n dX7_turns_56 rfl ?_
              refine g_getr (T := TX7) (N := 26) (Cn := RX7) (ref := "CommitCouncilModel") 10 dX7_turns_57 (mIn (by decide)) rfl rfl (fun w h => List.mem_cons_of_mem _ (hU7 w h)) (by decide) (List.mem_cons_of_mem _ uw_3_133) (Or.inl rfl) rfl ?_
              refine g_iload_n dX7_turns_60 rfl ?_
              have hx2 : 1 < 3 := by omega
              refine g_aald5N (n := 3) (j := 1) dX7_turns_61 (mIn (by decide)) rfl hx2 (by omega) ?_
              refine g_iload_n dX7_turns_62 rfl ?_
              refine g_iload_n dX7_turns_63 rfl ?_
              refine g_zastN (n := 6) (j := i) dX7_turns_64 (mIn (by omega)) (mSh_u hx2) (by omega) (by omega) (rfl) ?_
              refine g_iload_n dX7_turns_65 rfl ?_
              refine g_iconst (nI (2)) dX7_turns_66 (by decide) ?_
              refine g_icmp_ne 154 dX7_turns_67 (by decide) (fun h67 => ?_) (fun h67 => ?_)
              · skip
                rw [nI_eq (by omega) (by omega)] at h67
                refine g_iconst (nI (1)) dX7_turns_154 (by decide) ?_
                exact g_zret dX7_turns_155 rfl (rfl) (⟨rfl, mRel_up1 hc1, by rw [gup_ne _ _ (by decide)]; exact hP.2⟩)
              · skip
                rw [nI_eq (by omega) (by omega)] at h67
                exfalso; omega
            · skip
              rw [nI_eq (by omega) (by omega)] at h51
              exfalso; omega
        · skip
          rw [nI_ltI (by omega) (by omega)] at h24
          exfalso; omega
    · skip
      rw [nI_leI (by omega) (by omega)] at h7
      exfalso; omega

set_option maxRecDepth 100000 in
/-- turns -/
theorem m_crashs1 {R A : Nat} (hRA : pRA R A) {cm : Nat} {s : pT} {σ : gSt} (hc : mRel R A cm s σ) (hb : pBu s.1) {i : Nat} (hi : i < A) (hu : s.1 2 1 i = 0) : gEM mG mX7_turns 0 [.inr (0), .inl (nI (1)), .inl (nI (i)), .inl (nI (0))] σ (gR 0 (mP R A cm s 0)) := by
  obtain ⟨hR1, hR6, hA35⟩ := hRA
  have hA5 : A ≤ 5 := by omega
  have hb2 : s.1 2 1 i ≤ 1 := hb 2 1 i (by decide) (by decide)
  refine gEM_of (by decide +kernel) rfl (Nat.le_of_ble_eq_true rfl) ?_
  refine g_aload_n dX7_turns_0 rfl ?_
  refine g_iload_n dX7_turns_1 rfl ?_
  refine g_if_lt 10 dX7_turns_2 (by decide) (fun h2 => ?_) (fun h2 => ?_)
  · skip
    rw [nI_n (by omega)] at h2
    exact h2.elim
  · skip
    rw [nI_n (by omega)] at h2
    refine g_iload_n dX7_turns_5 rfl ?_
    refine g_iconst (nI (2)) dX7_turns_6 (by decide) ?_
    refine g_icmp_le 14 dX7_turns_7 (by decide) (fun h7 => ?_) (fun h7 => ?_)
    · skip
      rw [nI_leI (by omega) (by omega)] at h7
      refine g_iload_n dX7_turns_14 rfl ?_
      refine g_if_lt 27 dX7_turns_15 (by decide) (fun h15 => ?_) (fun h15 => ?_)
      · skip
        rw [nI_n (by omega)] at h15
        exact h15.elim
      · skip
        rw [nI_n (by omega)] at h15
        refine g_iload_n dX7_turns_18 rfl ?_
        refine g_aload_n dX7_turns_19 rfl ?_
        refine g_iload_n dX7_turns_20 rfl ?_
        refine g_callVi (nI (A)) (n9 := 1) [.inl (nI (1))] [.inl (nI (i)), .inr (0)] (m_many1 hc.1.1 hc.1.2.1) dX7_turns_21 (gU_V uw_4_105 uw_4_107 us_2_9 uw_1_8 uw_4_108) rfl (by decide +kernel) rfl ⟨by decide, by decide⟩ (mIn (by decide)) rfl rfl rfl (Nat.le_of_ble_eq_true rfl) (fun σ1 hp1 => ?_)
        subst hp1
        refine g_icmp_lt 31 dX7_turns_24 (by decide) (fun h24 => ?_) (fun h24 => ?_)
        · skip
          rw [nI_ltI (by omega) (by omega)] at h24
          refine g_iconst (nI (0)) dX7_turns_31 (by decide) ?_
          refine g_put (T := TX7) (N := 26) (Cn := RX7) (ref := "CommitCouncilModel") (ty0 := tyX7) 0 dX7_turns_32 (mIn (by decide)) rfl rfl (fun w h => List.mem_cons_of_mem _ (hU7 w h)) tyX7_ok nmX7 (by decide) (List.mem_cons_of_mem _ uw_3_123) (Or.inl rfl) rfl rfl rfl rfl ?_
          have hP := mP_thr hc 0
          have hc1 := hP.1
          refine g_aload_n dX7_turns_35 rfl ?_
          refine g_get (T := TX7) (N := 26) (Cn := RX7) (ref := "CommitCouncilModel") 0 dX7_turns_36 (mIn (by decide)) rfl rfl (fun w h => List.mem_cons_of_mem _ (hU7 w h)) (by decide) (List.mem_cons_of_mem _ uw_3_123) (Or.inl rfl) rfl ?_
          refine gEx.top (v := .inl (nI (0))) (congrArg Sum.inl (rfl)) ?_
          refine g_if_gt 54 dX7_turns_39 (by decide) (fun h39 => ?_) (fun h39 => ?_)
          · skip
            rw [nI_pp (by omega)] at h39
            exfalso; omega
          · skip
            rw [nI_pp (by omega)] at h39
            refine g_aload_n dX7_turns_42 rfl ?_
            refine g_getr (T := TX7) (N := 26) (Cn := RX7) (ref := "CommitCouncilModel") 10 dX7_turns_43 (mIn (by decide)) rfl rfl (fun w h => List.mem_cons_of_mem _ (hU7 w h)) (by decide) (List.mem_cons_of_mem _ uw_3_133) (Or.inl rfl) rfl ?_
            refine g_iload_n dX7_turns_46 rfl ?_
            have hx1 : 1 < 3 := by omega
            refine g_aald5N (n := 3) (j := 1) dX7_turns_47 (mIn (by decide)) rfl hx1 (by omega) ?_
            refine g_iload_n dX7_turns_48 rfl ?_
            refine g_zaldN (n := 6) (j := i) dX7_turns_49 (mIn (by omega)) (mSh_u hx1) (by omega) (by omega) ?_
            refine gEx.top (v := .inl (nI (s.1 2 1 (i)))) (congrArg Sum.inl (mR_u1 hc1 (by omega))) ?_
            refine g_iload_n dX7_turns_50 rfl ?_
            refine g_icmp_ne 56 dX7_turns_51 (by decide) (fun h51 => ?_) (fun h51 => ?_)
            · skip
              rw [nI_eq (by omega) (by omega)] at h51
              exfalso; omega
            · skip
              rw [nI_eq (by omega) (by omega)] at h51
              refine g_iconst (nI (0)) dX7_turns_54 (by decide) ?_
              exact g_zret dX7_turns_55 rfl (rfl) (⟨rfl, hP⟩)
        · skip
          rw [nI_ltI (by omega) (by omega)] at h24
          exfalso; omega
    · skip
      rw [nI_leI (by omega) (by omega)] at h7
      exfalso; omega

set_option maxRecDepth 100000 in
/-- turns -/
theorem m_rect1 {R A : Nat} (hRA : pRA R A) {cm : Nat} {s : pT} {σ : gSt} (hc : mRel R A cm s σ) (hb : pBu s.1) {i : Nat} (hi : i < A) (hu : s.1 2 1 i ≠ 1) : gEM mG mX7_turns 0 [.inr (0), .inl (nI (1)), .inl (nI (i)), .inl (nI (1))] σ (gR 1 (mP R A cm (tRec 1 i s) 0)) := by
  obtain ⟨hR1, hR6, hA35⟩ := hRA
  have hA5 : A ≤ 5 := by omega
  have hb2 : s.1 2 1 i ≤ 1 := hb 2 1 i (by decide) (by decide)
  refine gEM_of (by decide +kernel) rfl (Nat.le_of_ble_eq_true rfl) ?_
  refine g_aload_n dX7_turns_0 rfl ?_
  refine g_iload_n dX7_turns_1 rfl ?_
  refine g_if_lt 10 dX7_turns_2 (by decide) (fun h2 => ?_) (fun h2 => ?_)
  · skip
    rw [nI_n (by omega)] at h2
    exact h2.elim
  · skip
    rw [nI_n (by omega)] at h2
    refine g_iload_n dX7_turns_5 rfl ?_
    refine g_iconst (nI (2)) dX7_turns_6 (by decide) ?_
    refine g_icmp_le 14 dX7_turns_7 (by decide) (fun h7 => ?_) (fun h7 => ?_)
    · skip
      rw [nI_leI (by omega) (by omega)] at h7
      refine g_iload_n dX7_turns_14 rfl ?_
      refine g_if_lt 27 dX7_turns_15 (by decide) (fun h15 => ?_) (fun h15 => ?_)
      · skip
        rw [nI_n (by omega)] at h15
        exact h15.elim
      · skip
        rw [nI_n (by omega)] at h15
        refine g_iload_n dX7_turns_18 rfl ?_
        refine g_aload_n dX7_turns_19 rfl ?_
        refine g_iload_n dX7_turns_20 rfl ?_
        refine g_callVi (nI (A)) (n9 := 1) [.inl (nI (1))] [.inl (nI (i)), .inr (0)] (m_many1 hc.1.1 hc.1.2.1) dX7_turns_21 (gU_V uw_4_105 uw_4_107 us_2_9 uw_1_8 uw_4_108) rfl (by decide +kernel) rfl ⟨by decide, by decide⟩ (mIn (by decide)) rfl rfl rfl (Nat.le_of_ble_eq_true rfl) (fun σ1 hp1 => ?_)
        subst hp1
        refine g_icmp_lt 31 dX7_turns_24 (by decide) (fun h24 => ?_) (fun h24 => ?_)
        · skip
          rw [nI_ltI (by omega) (by omega)] at h24
          refine g_iconst (nI (0)) dX7_turns_31 (by decide) ?_
          refine g_put (T := TX7) (N := 26) (Cn := RX7) (ref := "CommitCouncilModel") (ty0 := tyX7) 0 dX7_turns_32 (mIn (by decide)) rfl rfl (fun w h => List.mem_cons_of_mem _ (hU7 w h)) tyX7_ok nmX7 (by decide) (List.mem_cons_of_mem _ uw_3_123) (Or.inl rfl) rfl rfl rfl rfl ?_
          have hP := mP_thr hc 0
          have hc1 := hP.1
          refine g_aload_n dX7_turns_35 rfl ?_
          refine g_get (T := TX7) (N := 26) (Cn := RX7) (ref := "CommitCouncilModel") 0 dX7_turns_36 (mIn (by decide)) rfl rfl (fun w h => List.mem_cons_of_mem _ (hU7 w h)) (by decide) (List.mem_cons_of_mem _ uw_3_123) (Or.inl rfl) rfl ?_
          refine gEx.top (v := .inl (nI (0))) (congrArg Sum.inl (rfl)) ?_
          refine g_if_gt 54 dX7_turns_39 (by decide) (fun h39 => ?_) (fun h39 => ?_)
          · skip
            rw [nI_pp (by omega)] at h39
            exfalso; omega
          · skip
            rw [nI_pp (by omega)] at h39
            refine g_aload_n dX7_turns_42 rfl ?_
            refine g_getr (T := TX7) (N := 26) (Cn := RX7) (ref := "CommitCouncilModel") 10 dX7_turns_43 (mIn (by decide)) rfl rfl (fun w h => List.mem_cons_of_mem _ (hU7 w h)) (by decide) (List.mem_cons_of_mem _ uw_3_133) (Or.inl rfl) rfl ?_
            refine g_iload_n dX7_turns_46 rfl ?_
            have hx1 : 1 < 3 := by omega
            refine g_aald5N (n := 3) (j := 1) dX7_turns_47 (mIn (by decide)) rfl hx1 (by omega) ?_
            refine g_iload_n dX7_turns_48 rfl ?_
            refine g_zaldN (n := 6) (j := i) dX7_turns_49 (mIn (by omega)) (mSh_u hx1) (by omega) (by omega) ?_
            refine gEx.top (v := .inl (nI (s.1 2 1 (i)))) (congrArg Sum.inl (mR_u1 hc1 (by omega))) ?_
            refine g_iload_n dX7_turns_50 rfl ?_
            refine g_icmp_ne 56 dX7_turns_51 (by decide) (fun h51 => ?_) (fun h51 => ?_)
            · skip
              rw [nI_eq (by omega) (by omega)] at h51
              refine g_aload_n dX7_turns_56 rfl ?_
              refine g_getr (T := TX7) (N := 26) (Cn := RX7) (ref := "CommitCouncilModel") 10 dX7_turns_57 (mIn (by decide)) rfl rfl (fun w h => List.mem_cons_of_mem _ (hU7 w h)) (by decide) (List.mem_cons_of_mem _ uw_3_133) (Or.inl rfl) rfl ?_
              refine g_iload_n dX7_turns_60 rfl ?_
              have hx2 : 1 < 3 := by omega
              refine g_aald5N (n := 3) (j := 1) dX7_turns_61 (mIn (by decide)) rfl hx2 (by omega) ?_
              refine g_iload_n dX7_turns_62 rfl ?_
              refine g_iload_n dX7_turns_63 rfl ?_
              refine g_zastN (n := 6) (j := i) dX7_turns_64 (mIn (by omega)) (mSh_u hx2) (by omega) (by omega) (rfl) ?_
              refine g_iload_n dX7_turns_65 rfl ?_
              refine g_iconst (nI (2)) dX7_turns_66 (by decide) ?_
              refine g_icmp_ne 154 dX7_turns_67 (by decide) (fun h67 => ?_) (fun h67 => ?_)
              · skip
                rw [nI_eq (by omega) (by omega)] at h67
                refine g_iconst (nI (1)) dX7_turns_154 (by decide) ?_
                exact g_zret dX7_turns_155 rfl (rfl) (⟨rfl, mRel_up1 hc1, by rw [gup_ne _ _ (by decide)]; exact hP.2⟩)
              · skip
                rw [nI_eq (by omega) (by omega)] at h67
                exfalso; omega
            · skip
              rw [nI_eq (by omega) (by omega)] at h51
              exfalso; omega
        · skip
          rw [nI_ltI (by omega) (by omega)] at h24
          exfalso; omega
    · skip
      rw [nI_leI (by omega) (by omega)] at h7
      exfalso; omega

set_option maxRecDepth 100000 in
/-- turns -/
theorem m_recs1 {R A : Nat} (hRA : pRA R A) {cm : Nat} {s : pT} {σ : gSt} (hc : mRel R A cm s σ) (hb : pBu s.1) {i : Nat} (hi : i < A) (hu : s.1 2 1 i = 1) : gEM mG mX7_turns 0 [.inr (0), .inl (nI (1)), .inl (nI (i)), .inl (nI (1))] σ (gR 0 (mP R A cm s 0)) := by
  obtain ⟨hR1, hR6, hA35⟩ := hRA
  have hA5 : A ≤ 5 := by omega
  have hb2 : s.1 2 1 i ≤ 1 := hb 2 1 i (by decide) (by decide)
  refine gEM_of (by decide +kernel) rfl (Nat.le_of_ble_eq_true rfl) ?_
  refine g_aload_n dX7_turns_0 rfl ?_
  refine g_iload_n dX7_turns_1 rfl ?_
  refine g_if_lt 10 dX7_turns_2 (by decide) (fun h2 => ?_) (fun h2 => ?_)
  · skip
    rw [nI_n (by omega)] at h2
    exact h2.elim
  · skip
    rw [nI_n (by omega)] at h2
    refine g_iload_n dX7_turns_5 rfl ?_
    refine g_iconst (nI (2)) dX7_turns_6 (by decide) ?_
    refine g_icmp_le 14 dX7_turns_7 (by decide) (fun h7 => ?_) (fun h7 => ?_)
    · skip
      rw [nI_leI (by omega) (by omega)] at h7
      refine g_iload_n dX7_turns_14 rfl ?_
      refine g_if_lt 27 dX7_turns_15 (by decide) (fun h15 => ?_) (fun h15 => ?_)
      · skip
        rw [nI_n (by omega)] at h15
        exact h15.elim
      · skip
        rw [nI_n (by omega)] at h15
        refine g_iload_n dX7_turns_18 rfl ?_
        refine g_aload_n dX7_turns_19 rfl ?_
        refine g_iload_n dX7_turns_20 rfl ?_
        refine g_callVi (nI (A)) (n9 := 1) [.inl (nI (1))] [.inl (nI (i)), .inr (0)] (m_many1 hc.1.1 hc.1.2.1) dX7_turns_21 (gU_V uw_4_105 uw_4_107 us_2_9 uw_1_8 uw_4_108) rfl (by decide +kernel) rfl ⟨by decide, by decide⟩ (mIn (by decide)) rfl rfl rfl (Nat.le_of_ble_eq_true rfl) (fun σ1 hp1 => ?_)
        subst hp1
        refine g_icmp_lt 31 dX7_turns_24 (by decide) (fun h24 => ?_) (fun h24 => ?_)
        · skip
          rw [nI_ltI (by omega) (by omega)] at h24
          refine g_iconst (nI (0)) dX7_turns_31 (by decide) ?_
          refine g_put (T := TX7) (N := 26) (Cn := RX7) (ref := "CommitCouncilModel") (ty0 := tyX7) 0 dX7_turns_32 (mIn (by decide)) rfl rfl (fun w h => List.mem_cons_of_mem _ (hU7 w h)) tyX7_ok nmX7 (by decide) (List.mem_cons_of_mem _ uw_3_123) (Or.inl rfl) rfl rfl rfl rfl ?_
          have hP := mP_thr hc 0
          have hc1 := hP.1
          refine g_aload_n dX7_turns_35 rfl ?_
          refine g_get (T := TX7) (N := 26) (Cn := RX7) (ref := "CommitCouncilModel") 0 dX7_turns_36 (mIn (by decide)) rfl rfl (fun w h => List.mem_cons_of_mem _ (hU7 w h)) (by decide) (List.mem_cons_of_mem _ uw_3_123) (Or.inl rfl) rfl ?_
          refine gEx.top (v := .inl (nI (0))) (congrArg Sum.inl (rfl)) ?_
          refine g_if_gt 54 dX7_turns_39 (by decide) (fun h39 => ?_) (fun h39 => ?_)
          · skip
            rw [nI_pp (by omega)] at h39
            exfalso; omega
          · skip
            rw [nI_pp (by omega)] at h39
            refine g_aload_n dX7_turns_42 rfl ?_
            refine g_getr (T := TX7) (N := 26) (Cn := RX7) (ref := "CommitCouncilModel") 10 dX7_turns_43 (mIn (by decide)) rfl rfl (fun w h => List.mem_cons_of_mem _ (hU7 w h)) (by decide) (List.mem_cons_of_mem _ uw_3_133) (Or.inl rfl) rfl ?_
            refine g_iload_n dX7_turns_46 rfl ?_
            have hx1 : 1 < 3 := by omega
            refine g_aald5N (n := 3) (j := 1) dX7_turns_47 (mIn (by decide)) rfl hx1 (by omega) ?_
            refine g_iload_n dX7_turns_48 rfl ?_
            refine g_zaldN (n := 6) (j := i) dX7_turns_49 (mIn (by omega)) (mSh_u hx1) (by omega) (by omega) ?_
            refine gEx.top (v := .inl (nI (s.1 2 1 (i)))) (congrArg Sum.inl (mR_u1 hc1 (by omega))) ?_
            refine g_iload_n dX7_turns_50 rfl ?_
            refine g_icmp_ne 56 dX7_turns_51 (by decide) (fun h51 => ?_) (fun h51 => ?_)
            · skip
              rw [nI_eq (by omega) (by omega)] at h51
              exfalso; omega
            · skip
              rw [nI_eq (by omega) (by omega)] at h51
              refine g_iconst (nI (0)) dX7_turns_54 (by decide) ?_
              exact g_zret dX7_turns_55 rfl (rfl) (⟨rfl, hP⟩)
        · skip
          rw [nI_ltI (by omega) (by omega)] at h24
          exfalso; omega
    · skip
      rw [nI_leI (by omega) (by omega)] at h7
      exfalso; omega

set_option maxRecDepth 100000 in
/-- turns -/
theorem m_turnX1 {R A : Nat} (hRA : pRA R A) {cm : Nat} {s : pT} {σ : gSt} (hc : mRel R A cm s σ) {y f : Int32} (hy : y < 0 ∨ nI A ≤ y) : gEM mG mX7_turns 0 [.inr (0), .inl (nI (1)), .inl (y), .inl (f)] σ (gR 0 (mP R A cm s 2)) := by
  refine gEM_of (by decide +kernel) rfl (Nat.le_of_ble_eq_true rfl) ?_
  refine g_aload_n dX7_turns_0 rfl ?_
  refine g_iload_n dX7_turns_1 rfl ?_
  refine g_if_lt 10 dX7_turns_2 (by decide) (fun h2 => ?_) (fun h2 => ?_)
  · skip
    rw [nI_n (by omega)] at h2
    exact h2.elim
  · skip
    rw [nI_n (by omega)] at h2
    refine g_iload_n dX7_turns_5 rfl ?_
    refine g_iconst (nI (2)) dX7_turns_6 (by decide) ?_
    refine g_icmp_le 14 dX7_turns_7 (by decide) (fun h7 => ?_) (fun h7 => ?_)
    · skip
      rw [nI_leI (by omega) (by omega)] at h7
      refine g_iload_n dX7_turns_14 rfl ?_
      refine g_if_lt 27 dX7_turns_15 (by decide) (fun h15 => ?_) (fun h15 => ?_)
      · skip
        refine g_iconst (nI (2)) dX7_turns_27 (by decide) ?_
        refine g_goto 32 dX7_turns_28 (by decide) ?_
        refine g_put (T := TX7) (N := 26) (Cn := RX7) (ref := "CommitCouncilModel") (ty0 := tyX7) 0 dX7_turns_32 (mIn (by decide)) rfl rfl (fun w h => List.mem_cons_of_mem _ (hU7 w h)) tyX7_ok nmX7 (by decide) (List.mem_cons_of_mem _ uw_3_123) (Or.inl rfl) rfl rfl rfl rfl ?_
        have hP := mP_thr hc 2
        have hc1 := hP.1
        refine g_aload_n dX7_turns_35 rfl ?_
        refine g_get (T := TX7) (N := 26) (Cn := RX7) (ref := "CommitCouncilModel") 0 dX7_turns_36 (mIn (by decide)) rfl rfl (fun w h => List.mem_cons_of_mem _ (hU7 w h)) (by decide) (List.mem_cons_of_mem _ uw_3_123) (Or.inl rfl) rfl ?_
        refine gEx.top (v := .inl (nI (2))) (congrArg Sum.inl (rfl)) ?_
        refine g_if_gt 54 dX7_turns_39 (by decide) (fun h39 => ?_) (fun h39 => ?_)
        · skip
          rw [nI_pp (by omega)] at h39
          refine g_iconst (nI (0)) dX7_turns_54 (by decide) ?_
          exact g_zret dX7_turns_55 rfl (rfl) (⟨rfl, hP⟩)
        · skip
          rw [nI_pp (by omega)] at h39
          exfalso; omega
      · skip
        refine g_iload_n dX7_turns_18 rfl ?_
        refine g_aload_n dX7_turns_19 rfl ?_
        refine g_iload_n dX7_turns_20 rfl ?_
        refine g_callVi (nI (A)) (n9 := 1) [.inl (nI (1))] [.inl (y), .inr (0)] (m_many1 hc.1.1 hc.1.2.1) dX7_turns_21 (gU_V uw_4_105 uw_4_107 us_2_9 uw_1_8 uw_4_108) rfl (by decide +kernel) rfl ⟨by decide, by decide⟩ (mIn (by decide)) rfl rfl rfl (Nat.le_of_ble_eq_true rfl) (fun σ1 hp1 => ?_)
        subst hp1
        refine g_icmp_lt 31 dX7_turns_24 (by decide) (fun h24 => ?_) (fun h24 => ?_)
        · skip
          skip
          rcases hy with q | q
          · exact absurd q h15
          · exact absurd h24 (Int32.not_lt.mpr q)
        · skip
          skip
          refine g_iconst (nI (2)) dX7_turns_27 (by decide) ?_
          refine g_goto 32 dX7_turns_28 (by decide) ?_
          refine g_put (T := TX7) (N := 26) (Cn := RX7) (ref := "CommitCouncilModel") (ty0 := tyX7) 0 dX7_turns_32 (mIn (by decide)) rfl rfl (fun w h => List.mem_cons_of_mem _ (hU7 w h)) tyX7_ok nmX7 (by decide) (List.mem_cons_of_mem _ uw_3_123) (Or.inl rfl) rfl rfl rfl rfl ?_
          have hP := mP_thr hc 2
          have hc1 := hP.1
          refine g_aload_n dX7_turns_35 rfl ?_
          refine g_get (T := TX7) (N := 26) (Cn := RX7) (ref := "CommitCouncilModel") 0 dX7_turns_36 (mIn (by decide)) rfl rfl (fun w h => List.mem_cons_of_mem _ (hU7 w h)) (by decide) (List.mem_cons_of_mem _ uw_3_123) (Or.inl rfl) rfl ?_
          refine gEx.top (v := .inl (nI (2))) (congrArg Sum.inl (rfl)) ?_
          refine g_if_gt 54 dX7_turns_39 (by decide) (fun h39 => ?_) (fun h39 => ?_)
          · skip
            rw [nI_pp (by omega)] at h39
            refine g_iconst (nI (0)) dX7_turns_54 (by decide) ?_
            exact g_zret dX7_turns_55 rfl (rfl) (⟨rfl, hP⟩)
          · skip
            rw [nI_pp (by omega)] at h39
            exfalso; omega
    · skip
      rw [nI_leI (by omega) (by omega)] at h7
      exfalso; omega

set_option maxRecDepth 100000 in
/-- turns -/
theorem m_crasht2 {R A : Nat} (hRA : pRA R A) {cm : Nat} {s : pT} {σ : gSt} (hc : mRel R A cm s σ) (hb : pBu s.1) {i : Nat} (hi : i < 3) (hu : s.1 2 2 i ≠ 0) : gEM mG mX7_turns 0 [.inr (0), .inl (nI (2)), .inl (nI (i)), .inl (nI (0))] σ (gR 1 (mP R A cm (tCrash 2 i s) 0)) := by
  obtain ⟨hR1, hR6, hA35⟩ := hRA
  have hA5 : A ≤ 5 := by omega
  have hb2 : s.1 2 2 i ≤ 1 := hb 2 2 i (by decide) (by decide)
  refine gEM_of (by decide +kernel) rfl (Nat.le_of_ble_eq_true rfl) ?_
  refine g_aload_n dX7_turns_0 rfl ?_
  refine g_iload_n dX7_turns_1 rfl ?_
  refine g_if_lt 10 dX7_turns_2 (by decide) (fun h2 => ?_) (fun h2 => ?_)
  · skip
    rw [nI_n (by omega)] at h2
    exact h2.elim
  · skip
    rw [nI_n (by omega)] at h2
    refine g_iload_n dX7_turns_5 rfl ?_
    refine g_iconst (nI (2)) dX7_turns_6 (by decide) ?_
    refine g_icmp_le 14 dX7_turns_7 (by decide) (fun h7 => ?_) (fun h7 => ?_)
    · skip
      rw [nI_leI (by omega) (by omega)] at h7
      refine g_iload_n dX7_turns_14 rfl ?_
      refine g_if_lt 27 dX7_turns_15 (by decide) (fun h15 => ?_) (fun h15 => ?_)
      · skip
        rw [nI_n (by omega)] at h15
        exact h15.elim
      · skip
        rw [nI_n (by omega)] at h15
        refine g_iload_n dX7_turns_18 rfl ?_
        refine g_aload_n dX7_turns_19 rfl ?_
        refine g_iload_n dX7_turns_20 rfl ?_
        refine g_callVi (nI (3)) (n9 := 1) [.inl (nI (2))] [.inl (nI (i)), .inr (0)] (m_many2 hc.1.1 hc.1.2.1) dX7_turns_21 (gU_V uw_4_105 uw_4_107 us_2_9 uw_1_8 uw_4_108) rfl (by decide +kernel) rfl ⟨by decide, by decide⟩ (mIn (by decide)) rfl rfl rfl (Nat.le_of_ble_eq_true rfl) (fun σ1 hp1 => ?_)
        subst hp1
        refine g_icmp_lt 31 dX7_turns_24 (by decide) (fun h24 => ?_) (fun h24 => ?_)
        · skip
          rw [nI_ltI (by omega) (by omega)] at h24
          refine g_iconst (nI (0)) dX7_turns_31 (by decide) ?_
          refine g_put (T := TX7) (N := 26) (Cn := RX7) (ref := "CommitCouncilModel") (ty0 := tyX7) 0 dX7_turns_32 (mIn (by decide)) rfl rfl (fun w h => List.mem_cons_of_mem _ (hU7 w h)) tyX7_ok nmX7 (by decide) (List.mem_cons_of_mem _ uw_3_123) (Or.inl rfl) rfl rfl rfl rfl ?_
          have hP := mP_thr hc 0
          have hc1 := hP.1
          refine g_aload_n dX7_turns_35 rfl ?_
          refine g_get (T := TX7) (N := 26) (Cn := RX7) (ref := "CommitCouncilModel") 0 dX7_turns_36 (mIn (by decide)) rfl rfl (fun w h => List.mem_cons_of_mem _ (hU7 w h)) (by decide) (List.mem_cons_of_mem _ uw_3_123) (Or.inl rfl) rfl ?_
          refine gEx.top (v := .inl (nI (0))) (congrArg Sum.inl (rfl)) ?_
          refine g_if_gt 54 dX7_turns_39 (by decide) (fun h39 => ?_) (fun h39 => ?_)
          · skip
            rw [nI_pp (by omega)] at h39
            exfalso; omega
          · skip
            rw [nI_pp (by omega)] at h39
            refine g_aload_n dX7_turns_42 rfl ?_
            refine g_getr (T := TX7) (N := 26) (Cn := RX7) (ref := "CommitCouncilModel") 10 dX7_turns_43 (mIn (by decide)) rfl rfl (fun w h => List.mem_cons_of_mem _ (hU7 w h)) (by decide) (List.mem_cons_of_mem _ uw_3_133) (Or.inl rfl) rfl ?_
            refine g_iload_n dX7_turns_46 rfl ?_
            have hx1 : 2 < 3 := by omega
            refine g_aald5N (n := 3) (j := 2) dX7_turns_47 (mIn (by decide)) rfl hx1 (by omega) ?_
            refine g_iload_n dX7_turns_48 rfl ?_
            refine g_zaldN (n := 6) (j := i) dX7_turns_49 (mIn (by omega)) (mSh_u hx1) (by omega) (by omega) ?_
            refine gEx.top (v := .inl (nI (s.1 2 2 (i)))) (congrArg Sum.inl (mR_u2 hc1 (by omega))) ?_
            refine g_iload_n dX7_turns_50 rfl ?_
            refine g_icmp_ne 56 dX7_turns_51 (by decide) (fun h51 => ?_) (fun h51 => ?_)
            · skip
              rw [nI_eq (by omega) (by omega)] at h51
              refine g_aload_n dX7_turns_56 rfl ?_
              refine g_getr (T := TX7) (N := 26) (Cn := RX7) (ref := "CommitCouncilModel") 10 dX7_turns_57 (mIn (by decide)) rfl rfl (fun w h => List.mem_cons_of_mem _ (hU7 w h)) (by decide) (List.mem_cons_of_mem _ uw_3_133) (Or.inl rfl) rfl ?_
              refine g_iload_n dX7_turns_60 rfl ?_
              have hx2 : 2 < 3 := by omega
              refine g_aald5N (n := 3) (j := 2) dX7_turns_61 (mIn (by decide)) rfl hx2 (by omega) ?_
              refine g_iload_n dX7_turns_62 rfl ?_
              refine g_iload_n dX7_turns_63 rfl ?_
              refine g_zastN (n := 6) (j := i) dX7_turns_64 (mIn (by omega)) (mSh_u hx2) (by omega) (by omega) (rfl) ?_
              refine g_iload_n dX7_turns_65 rfl ?_
              refine g_iconst (nI (2)) dX7_turns_66 (by decide) ?_
              refine g_icmp_ne 154 dX7_turns_67 (by decide) (fun h67 => ?_) (fun h67 => ?_)
              · skip
                rw [nI_eq (by omega) (by omega)] at h67
                exfalso; omega
              · skip
                rw [nI_eq (by omega) (by omega)] at h67
                refine g_iload_n dX7_turns_70 rfl ?_
                refine g_if_ne 154 dX7_turns_71 (by decide) (fun h71 => ?_) (fun h71 => ?_)
                · skip
                  rw [nI_z (by omega)] at h71
                  exfalso; omega
                · skip
                  rw [nI_z (by omega)] at h71
                  refine g_aload_n dX7_turns_74 rfl ?_
                  refine g_getr (T := TX7) (N := 26) (Cn := RX7) (ref := "CommitCouncilModel") 17 dX7_turns_75 (mIn (by decide)) rfl rfl (fun w h => List.mem_cons_of_mem _ (hU7 w h)) (by decide) (List.mem_cons_of_mem _ uw_3_140) (Or.inl rfl) rfl ?_
                  refine g_iload_n dX7_turns_78 rfl ?_
                  refine g_iconst (nI (0)) dX7_turns_79 (by decide) ?_
                  refine g_iastN (n := 3) (j := i) dX7_turns_80 (mIn (by decide)) rfl (by omega) (by omega) ?_
                  refine g_aload_n dX7_turns_81 rfl ?_
                  refine g_getr (T := TX7) (N := 26) (Cn := RX7) (ref := "CommitCouncilModel") 19 dX7_turns_82 (mIn (by decide)) rfl rfl (fun w h => List.mem_cons_of_mem _ (hU7 w h)) (by decide) (List.mem_cons_of_mem _ uw_3_142) (Or.inl rfl) rfl ?_
                  refine g_iload_n dX7_turns_85 rfl ?_
                  refine g_iconst (nI (0)) dX7_turns_86 (by decide) ?_
                  refine g_iastN (n := 3) (j := i) dX7_turns_87 (mIn (by decide)) rfl (by omega) (by omega) ?_
                  refine g_aload_n dX7_turns_88 rfl ?_
                  refine g_getr (T := TX7) (N := 26) (Cn := RX7) (ref := "CommitCouncilModel") 20 dX7_turns_89 (mIn (by decide)) rfl rfl (fun w h => List.mem_cons_of_mem _ (hU7 w h)) (by decide) (List.mem_cons_of_mem _ uw_3_143) (Or.inl rfl) rfl ?_
                  refine g_iload_n dX7_turns_92 rfl ?_
                  refine g_iconst (nI (0)) dX7_turns_93 (by decide) ?_
                  refine g_iastN (n := 3) (j := i) dX7_turns_94 (mIn (by decide)) rfl (by omega) (by omega) ?_
                  refine g_iconst (nI (0)) dX7_turns_95 (by decide) ?_
                  refine g_istore dX7_turns_96 (by decide) ?_
                  have hq : gR 1 (mP R A cm (tCrash 2 i s) 0) (.inl (some (.inl 1))) (dwnM _ i) := ⟨rfl, mRel_dwn hc1 hR6 hi, by unfold dwnM; rw [filM_ne _ (by decide), filM_ne _ (by decide), gup_ne _ _ (by decide), gup_ne _ _ (by decide), gup_ne _ _ (by decide), gup_ne _ _ (by decide)]; exact hP.2⟩
                  have := m_dwn_m hi hq 7 0 (by decide) (by decide) none
                  rw [filM_0, filM_0] at this
                  exact this
            · skip
              rw [nI_eq (by omega) (by omega)] at h51
              exfalso; omega
        · skip
          rw [nI_ltI (by omega) (by omega)] at h24
          exfalso; omega
    · skip
      rw [nI_leI (by omega) (by omega)] at h7
      exfalso; omega

set_option maxRecDepth 100000 in
/-- turns -/
theorem m_crashs2 {R A : Nat} (hRA : pRA R A) {cm : Nat} {s : pT} {σ : gSt} (hc : mRel R A cm s σ) (hb : pBu s.1) {i : Nat} (hi : i < 3) (hu : s.1 2 2 i = 0) : gEM mG mX7_turns 0 [.inr (0), .inl (nI (2)), .inl (nI (i)), .inl (nI (0))] σ (gR 0 (mP R A cm s 0)) := by
  obtain ⟨hR1, hR6, hA35⟩ := hRA
  have hA5 : A ≤ 5 := by omega
  have hb2 : s.1 2 2 i ≤ 1 := hb 2 2 i (by decide) (by decide)
  refine gEM_of (by decide +kernel) rfl (Nat.le_of_ble_eq_true rfl) ?_
  refine g_aload_n dX7_turns_0 rfl ?_
  refine g_iload_n dX7_turns_1 rfl ?_
  refine g_if_lt 10 dX7_turns_2 (by decide) (fun h2 => ?_) (fun h2 => ?_)
  · skip
    rw [nI_n (by omega)] at h2
    exact h2.elim
  · skip
    rw [nI_n (by omega)] at h2
    refine g_iload_n dX7_turns_5 rfl ?_
    refine g_iconst (nI (2)) dX7_turns_6 (by decide) ?_
    refine g_icmp_le 14 dX7_turns_7 (by decide) (fun h7 => ?_) (fun h7 => ?_)
    · skip
      rw [nI_leI (by omega) (by omega)] at h7
      refine g_iload_n dX7_turns_14 rfl ?_
      refine g_if_lt 27 dX7_turns_15 (by decide) (fun h15 => ?_) (fun h15 => ?_)
      · skip
        rw [nI_n (by omega)] at h15
        exact h15.elim
      · skip
        rw [nI_n (by omega)] at h15
        refine g_iload_n dX7_turns_18 rfl ?_
        refine g_aload_n dX7_turns_19 rfl ?_
        refine g_iload_n dX7_turns_20 rfl ?_
        refine g_callVi (nI (3)) (n9 := 1) [.inl (nI (2))] [.inl (nI (i)), .inr (0)] (m_many2 hc.1.1 hc.1.2.1) dX7_turns_21 (gU_V uw_4_105 uw_4_107 us_2_9 uw_1_8 uw_4_108) rfl (by decide +kernel) rfl ⟨by decide, by decide⟩ (mIn (by decide)) rfl rfl rfl (Nat.le_of_ble_eq_true rfl) (fun σ1 hp1 => ?_)
        subst hp1
        refine g_icmp_lt 31 dX7_turns_24 (by decide) (fun h24 => ?_) (fun h24 => ?_)
        · skip
          rw [nI_ltI (by omega) (by omega)] at h24
          refine g_iconst (nI (0)) dX7_turns_31 (by decide) ?_
          refine g_put (T := TX7) (N := 26) (Cn := RX7) (ref := "CommitCouncilModel") (ty0 := tyX7) 0 dX7_turns_32 (mIn (by decide)) rfl rfl (fun w h => List.mem_cons_of_mem _ (hU7 w h)) tyX7_ok nmX7 (by decide) (List.mem_cons_of_mem _ uw_3_123) (Or.inl rfl) rfl rfl rfl rfl ?_
          have hP := mP_thr hc 0
          have hc1 := hP.1
          refine g_aload_n dX7_turns_35 rfl ?_
          refine g_get (T := TX7) (N := 26) (Cn := RX7) (ref := "CommitCouncilModel") 0 dX7_turns_36 (mIn (by decide)) rfl rfl (fun w h => List.mem_cons_of_mem _ (hU7 w h)) (by decide) (List.mem_cons_of_mem _ uw_3_123) (Or.inl rfl) rfl ?_
          refine gEx.top (v := .inl (nI (0))) (congrArg Sum.inl (rfl)) ?_
          refine g_if_gt 54 dX7_turns_39 (by decide) (fun h39 => ?_) (fun h39 => ?_)
          · skip
            rw [nI_pp (by omega)] at h39
            exfalso; omega
          · skip
            rw [nI_pp (by omega)] at h39
            refine g_aload_n dX7_turns_42 rfl ?_
            refine g_getr (T := TX7) (N := 26) (Cn := RX7) (ref := "CommitCouncilModel") 10 dX7_turns_43 (mIn (by decide)) rfl rfl (fun w h => List.mem_cons_of_mem _ (hU7 w h)) (by decide) (List.mem_cons_of_mem _ uw_3_133) (Or.inl rfl) rfl ?_
            refine g_iload_n dX7_turns_46 rfl ?_
            have hx1 : 2 < 3 := by omega
            refine g_aald5N (n := 3) (j := 2) dX7_turns_47 (mIn (by decide)) rfl hx1 (by omega) ?_
            refine g_iload_n dX7_turns_48 rfl ?_
            refine g_zaldN (n := 6) (j := i) dX7_turns_49 (mIn (by omega)) (mSh_u hx1) (by omega) (by omega) ?_
            refine gEx.top (v := .inl (nI (s.1 2 2 (i)))) (congrArg Sum.inl (mR_u2 hc1 (by omega))) ?_
            refine g_iload_n dX7_turns_50 rfl ?_
            refine g_icmp_ne 56 dX7_turns_51 (by decide) (fun h51 => ?_) (fun h51 => ?_)
            · skip
              rw [nI_eq (by omega) (by omega)] at h51
              exfalso; omega
            · skip
              rw [nI_eq (by omega) (by omega)] at h51
              refine g_iconst (nI (0)) dX7_turns_54 (by decide) ?_
              exact g_zret dX7_turns_55 rfl (rfl) (⟨rfl, hP⟩)
        · skip
          rw [nI_ltI (by omega) (by omega)] at h24
          exfalso; omega
    · skip
      rw [nI_leI (by omega) (by omega)] at h7
      exfalso; omega

set_option maxRecDepth 100000 in
/-- turns -/
theorem m_rect2 {R A : Nat} (hRA : pRA R A) {cm : Nat} {s : pT} {σ : gSt} (hc : mRel R A cm s σ) (hb : pBu s.1) {i : Nat} (hi : i < 3) (hu : s.1 2 2 i ≠ 1) : gEM mG mX7_turns 0 [.inr (0), .inl (nI (2)), .inl (nI (i)), .inl (nI (1))] σ (gR 1 (mP R A cm (tRec 2 i s) 0)) := by
  obtain ⟨hR1, hR6, hA35⟩ := hRA
  have hA5 : A ≤ 5 := by omega
  have hb2 : s.1 2 2 i ≤ 1 := hb 2 2 i (by decide) (by decide)
  refine gEM_of (by decide +kernel) rfl (Nat.le_of_ble_eq_true rfl) ?_
  refine g_aload_n dX7_turns_0 rfl ?_
  refine g_iload_n dX7_turns_1 rfl ?_
  refine g_if_lt 10 dX7_turns_2 (by decide) (fun h2 => ?_) (fun h2 => ?_)
  · skip
    rw [nI_n (by omega)] at h2
    exact h2.elim
  · skip
    rw [nI_n (by omega)] at h2
    refine g_iload_n dX7_turns_5 rfl ?_
    refine g_iconst (nI (2)) dX7_turns_6 (by decide) ?_
    refine g_icmp_le 14 dX7_turns_7 (by decide) (fun h7 => ?_) (fun h7 => ?_)
    · skip
      rw [nI_leI (by omega) (by omega)] at h7
      refine g_iload_n dX7_turns_14 rfl ?_
      refine g_if_lt 27 dX7_turns_15 (by decide) (fun h15 => ?_) (fun h15 => ?_)
      · skip
        rw [nI_n (by omega)] at h15
        exact h15.elim
      · skip
        rw [nI_n (by omega)] at h15
        refine g_iload_n dX7_turns_18 rfl ?_
        refine g_aload_n dX7_turns_19 rfl ?_
        refine g_iload_n dX7_turns_20 rfl ?_
        refine g_callVi (nI (3)) (n9 := 1) [.inl (nI (2))] [.inl (nI (i)), .inr (0)] (m_many2 hc.1.1 hc.1.2.1) dX7_turns_21 (gU_V uw_4_105 uw_4_107 us_2_9 uw_1_8 uw_4_108) rfl (by decide +kernel) rfl ⟨by decide, by decide⟩ (mIn (by decide)) rfl rfl rfl (Nat.le_of_ble_eq_true rfl) (fun σ1 hp1 => ?_)
        subst hp1
        refine g_icmp_lt 31 dX7_turns_24 (by decide) (fun h24 => ?_) (fun h24 => ?_)
        · skip
          rw [nI_ltI (by omega) (by omega)] at h24
          refine g_iconst (nI (0)) dX7_turns_31 (by decide) ?_
          refine g_put (T := TX7) (N := 26) (Cn := RX7) (ref := "CommitCouncilModel") (ty0 := tyX7) 0 dX7_turns_32 (mIn (by decide)) rfl rfl (fun w h => List.mem_cons_of_mem _ (hU7 w h)) tyX7_ok nmX7 (by decide) (List.mem_cons_of_mem _ uw_3_123) (Or.inl rfl) rfl rfl rfl rfl ?_
          have hP := mP_thr hc 0
          have hc1 := hP.1
          refine g_aload_n dX7_turns_35 rfl ?_
          refine g_get (T := TX7) (N := 26) (Cn := RX7) (ref := "CommitCouncilModel") 0 dX7_turns_36 (mIn (by decide)) rfl rfl (fun w h => List.mem_cons_of_mem _ (hU7 w h)) (by decide) (List.mem_cons_of_mem _ uw_3_123) (Or.inl rfl) rfl ?_
          refine gEx.top (v := .inl (nI (0))) (congrArg Sum.inl (rfl)) ?_
          refine g_if_gt 54 dX7_turns_39 (by decide) (fun h39 => ?_) (fun h39 => ?_)
          · skip
            rw [nI_pp (by omega)] at h39
            exfalso; omega
          · skip
            rw [nI_pp (by omega)] at h39
            refine g_aload_n dX7_turns_42 rfl ?_
            refine g_getr (T := TX7) (N := 26) (Cn := RX7) (ref := "CommitCouncilModel") 10 dX7_turns_43 (mIn (by decide)) rfl rfl (fun w h => List.mem_cons_of_mem _ (hU7 w h)) (by decide) (List.mem_cons_of_mem _ uw_3_133) (Or.inl rfl) rfl ?_
            refine g_iload_n dX7_turns_46 rfl ?_
            have hx1 : 2 < 3 := by omega
            refine g_aald5N (n := 3) (j := 2) dX7_turns_47 (mIn (by decide)) rfl hx1 (by omega) ?_
            refine g_iload_n dX7_turns_48 rfl ?_
            refine g_zaldN (n := 6) (j := i) dX7_turns_49 (mIn (by omega)) (mSh_u hx1) (by omega) (by omega) ?_
            refine gEx.top (v := .inl (nI (s.1 2 2 (i)))) (congrArg Sum.inl (mR_u2 hc1 (by omega))) ?_
            refine g_iload_n dX7_turns_50 rfl ?_
            refine g_icmp_ne 56 dX7_turns_51 (by decide) (fun h51 => ?_) (fun h51 => ?_)
            · skip
              rw [nI_eq (by omega) (by omega)] at h51
              refine g_aload_n dX7_turns_56 rfl ?_
              refine g_getr (T := TX7) (N := 26) (Cn := RX7) (ref := "CommitCouncilModel") 10 dX7_turns_57 (mIn (by decide)) rfl rfl (fun w h => List.mem_cons_of_mem _ (hU7 w h)) (by decide) (List.mem_cons_of_mem _ uw_3_133) (Or.inl rfl) rfl ?_
              refine g_iload_n dX7_turns_60 rfl ?_
              have hx2 : 2 < 3 := by omega
              refine g_aald5N (n := 3) (j := 2) dX7_turns_61 (mIn (by decide)) rfl hx2 (by omega) ?_
              refine g_iload_n dX7_turns_62 rfl ?_
              refine g_iload_n dX7_turns_63 rfl ?_
              refine g_zastN (n := 6) (j := i) dX7_turns_64 (mIn (by omega)) (mSh_u hx2) (by omega) (by omega) (rfl) ?_
              refine g_iload_n dX7_turns_65 rfl ?_
              refine g_iconst (nI (2)) dX7_turns_66 (by decide) ?_
              refine g_icmp_ne 154 dX7_turns_67 (by decide) (fun h67 => ?_) (fun h67 => ?_)
              · skip
                rw [nI_eq (by omega) (by omega)] at h67
                exfalso; omega
              · skip
                rw [nI_eq (by omega) (by omega)] at h67
                refine g_iload_n dX7_turns_70 rfl ?_
                refine g_if_ne 154 dX7_turns_71 (by decide) (fun h71 => ?_) (fun h71 => ?_)
                · skip
                  rw [nI_z (by omega)] at h71
                  refine g_iconst (nI (1)) dX7_turns_154 (by decide) ?_
                  exact g_zret dX7_turns_155 rfl (rfl) (⟨rfl, mRel_up2 hc1, by rw [gup_ne _ _ (by decide)]; exact hP.2⟩)
                · skip
                  rw [nI_z (by omega)] at h71
                  exfalso; omega
            · skip
              rw [nI_eq (by omega) (by omega)] at h51
              exfalso; omega
        · skip
          rw [nI_ltI (by omega) (by omega)] at h24
          exfalso; omega
    · skip
      rw [nI_leI (by omega) (by omega)] at h7
      exfalso; omega

set_option maxRecDepth 100000 in
/-- turns -/
theorem m_recs2 {R A : Nat} (hRA : pRA R A) {cm : Nat} {s : pT} {σ : gSt} (hc : mRel R A cm s σ) (hb : pBu s.1) {i : Nat} (hi : i < 3) (hu : s.1 2 2 i = 1) : gEM mG mX7_turns 0 [.inr (0), .inl (nI (2)), .inl (nI (i)), .inl (nI (1))] σ (gR 0 (mP R A cm s 0)) := by
  obtain ⟨hR1, hR6, hA35⟩ := hRA
  have hA5 : A ≤ 5 := by omega
  have hb2 : s.1 2 2 i ≤ 1 := hb 2 2 i (by decide) (by decide)
  refine gEM_of (by decide +kernel) rfl (Nat.le_of_ble_eq_true rfl) ?_
  refine g_aload_n dX7_turns_0 rfl ?_
  refine g_iload_n dX7_turns_1 rfl ?_
  refine g_if_lt 10 dX7_turns_2 (by decide) (fun h2 => ?_) (fun h2 => ?_)
  · skip
    rw [nI_n (by omega)] at h2
    exact h2.elim
  · skip
    rw [nI_n (by omega)] at h2
    refine g_iload_n dX7_turns_5 rfl ?_
    refine g_iconst (nI (2)) dX7_turns_6 (by decide) ?_
    refine g_icmp_le 14 dX7_turns_7 (by decide) (fun h7 => ?_) (fun h7 => ?_)
    · skip
      rw [nI_leI (by omega) (by omega)] at h7
      refine g_iload_n dX7_turns_14 rfl ?_
      refine g_if_lt 27 dX7_turns_15 (by decide) (fun h15 => ?_) (fun h15 => ?_)
      · skip
        rw [nI_n (by omega)] at h15
        exact h15.elim
      · skip
        rw [nI_n (by omega)] at h15
        refine g_iload_n dX7_turns_18 rfl ?_
        refine g_aload_n dX7_turns_19 rfl ?_
        refine g_iload_n dX7_turns_20 rfl ?_
        refine g_callVi (nI (3)) (n9 := 1) [.inl (nI (2))] [.inl (nI (i)), .inr (0)] (m_many2 hc.1.1 hc.1.2.1) dX7_turns_21 (gU_V uw_4_105 uw_4_107 us_2_9 uw_1_8 uw_4_108) rfl (by decide +kernel) rfl ⟨by decide, by decide⟩ (mIn (by decide)) rfl rfl rfl (Nat.le_of_ble_eq_true rfl) (fun σ1 hp1 => ?_)
        subst hp1
        refine g_icmp_lt 31 dX7_turns_24 (by decide) (fun h24 => ?_) (fun h24 => ?_)
        · skip
          rw [nI_ltI (by omega) (by omega)] at h24
          refine g_iconst (nI (0)) dX7_turns_31 (by decide) ?_
          refine g_put (T := TX7) (N := 26) (Cn := RX7) (ref := "CommitCouncilModel") (ty0 := tyX7) 0 dX7_turns_32 (mIn (by decide)) rfl rfl (fun w h => List.mem_cons_of_mem _ (hU7 w h)) tyX7_ok nmX7 (by decide) (List.mem_cons_of_mem _ uw_3_123) (Or.inl rfl) rfl rfl rfl rfl ?_
          have hP := mP_thr hc 0
          have hc1 := hP.1
          refine g_aload_n dX7_turns_35 rfl ?_
          refine g_get (T := TX7) (N := 26) (Cn := RX7) (ref := "CommitCouncilModel") 0 dX7_turns_36 (mIn (by decide)) rfl rfl (fun w h => List.mem_cons_of_mem _ (hU7 w h)) (by decide) (List.mem_cons_of_mem _ uw_3_123) (Or.inl rfl) rfl ?_
          refine gEx.top (v := .inl (nI (0))) (congrArg Sum.inl (rfl)) ?_
          refine g_if_gt 54 dX7_turns_39 (by decide) (fun h39 => ?_) (fun h39 => ?_)
          · skip
            rw [nI_pp (by omega)] at h39
            exfalso; omega
          · skip
            rw [nI_pp (by omega)] at h39
            refine g_aload_n dX7_turns_42 rfl ?_
            refine g_getr (T := TX7) (N := 26) (Cn := RX7) (ref := "CommitCouncilModel") 10 dX7_turns_43 (mIn (by decide)) rfl rfl (fun w h => List.mem_cons_of_mem _ (hU7 w h)) (by decide) (List.mem_cons_of_mem _ uw_3_133) (Or.inl rfl) rfl ?_
            refine g_iload_n dX7_turns_46 rfl ?_
            have hx1 : 2 < 3 := by omega
            refine g_aald5N (n := 3) (j := 2) dX7_turns_47 (mIn (by decide)) rfl hx1 (by omega) ?_
            refine g_iload_n dX7_turns_48 rfl ?_
            refine g_zaldN (n := 6) (j := i) dX7_turns_49 (mIn (by omega)) (mSh_u hx1) (by omega) (by omega) ?_
            refine gEx.top (v := .inl (nI (s.1 2 2 (i)))) (congrArg Sum.inl (mR_u2 hc1 (by omega))) ?_
            refine g_iload_n dX7_turns_50 rfl ?_
            refine g_icmp_ne 56 dX7_turns_51 (by decide) (fun h51 => ?_) (fun h51 => ?_)
            · skip
              rw [nI_eq (by omega) (by omega)] at h51
              exfalso; omega
            · skip
              rw [nI_eq (by omega) (by omega)] at h51
              refine g_iconst (nI (0)) dX7_turns_54 (by decide) ?_
              exact g_zret dX7_turns_55 rfl (rfl) (⟨rfl, hP⟩)
        · skip
          rw [nI_ltI (by omega) (by omega)] at h24
          exfalso; omega
    · skip
      rw [nI_leI (by omega) (by omega)] at h7
      exfalso; omega

set_option maxRecDepth 100000 in
/-- turns -/
theorem m_turnX2 {R A : Nat} (hRA : pRA R A) {cm : Nat} {s : pT} {σ : gSt} (hc : mRel R A cm s σ) {y f : Int32} (hy : y < 0 ∨ nI 3 ≤ y) : gEM mG mX7_turns 0 [.inr (0), .inl (nI (2)), .inl (y), .inl (f)] σ (gR 0 (mP R A cm s 2)) := by
  refine gEM_of (by decide +kernel) rfl (Nat.le_of_ble_eq_true rfl) ?_
  refine g_aload_n dX7_turns_0 rfl ?_
  refine g_iload_n dX7_turns_1 rfl ?_
  refine g_if_lt 10 dX7_turns_2 (by decide) (fun h2 => ?_) (fun h2 => ?_)
  · skip
    rw [nI_n (by omega)] at h2
    exact h2.elim
  · skip
    rw [nI_n (by omega)] at h2
    refine g_iload_n dX7_turns_5 rfl ?_
    refine g_iconst (nI (2)) dX7_turns_6 (by decide) ?_
    refine g_icmp_le 14 dX7_turns_7 (by decide) (fun h7 => ?_) (fun h7 => ?_)
    · skip
      rw [nI_leI (by omega) (by omega)] at h7
      refine g_iload_n dX7_turns_14 rfl ?_
      refine g_if_lt 27 dX7_turns_15 (by decide) (fun h15 => ?_) (fun h15 => ?_)
      · skip
        refine g_iconst (nI (2)) dX7_turns_27 (by decide) ?_
        refine g_goto 32 dX7_turns_28 (by decide) ?_
        refine g_put (T := TX7) (N := 26) (Cn := RX7) (ref := "CommitCouncilModel") (ty0 := tyX7) 0 dX7_turns_32 (mIn (by decide)) rfl rfl (fun w h => List.mem_cons_of_mem _ (hU7 w h)) tyX7_ok nmX7 (by decide) (List.mem_cons_of_mem _ uw_3_123) (Or.inl rfl) rfl rfl rfl rfl ?_
        have hP := mP_thr hc 2
        have hc1 := hP.1
        refine g_aload_n dX7_turns_35 rfl ?_
        refine g_get (T := TX7) (N := 26) (Cn := RX7) (ref := "CommitCouncilModel") 0 dX7_turns_36 (mIn (by decide)) rfl rfl (fun w h => List.mem_cons_of_mem _ (hU7 w h)) (by decide) (List.mem_cons_of_mem _ uw_3_123) (Or.inl rfl) rfl ?_
        refine gEx.top (v := .inl (nI (2))) (congrArg Sum.inl (rfl)) ?_
        refine g_if_gt 54 dX7_turns_39 (by decide) (fun h39 => ?_) (fun h39 => ?_)
        · skip
          rw [nI_pp (by omega)] at h39
          refine g_iconst (nI (0)) dX7_turns_54 (by decide) ?_
          exact g_zret dX7_turns_55 rfl (rfl) (⟨rfl, hP⟩)
        · skip
          rw [nI_pp (by omega)] at h39
          exfalso; omega
      · skip
        refine g_iload_n dX7_turns_18 rfl ?_
        refine g_aload_n dX7_turns_19 rfl ?_
        refine g_iload_n dX7_turns_20 rfl ?_
        refine g_callVi (nI (3)) (n9 := 1) [.inl (nI (2))] [.inl (y), .inr (0)] (m_many2 hc.1.1 hc.1.2.1) dX7_turns_21 (gU_V uw_4_105 uw_4_107 us_2_9 uw_1_8 uw_4_108) rfl (by decide +kernel) rfl ⟨by decide, by decide⟩ (mIn (by decide)) rfl rfl rfl (Nat.le_of_ble_eq_true rfl) (fun σ1 hp1 => ?_)
        subst hp1
        refine g_icmp_lt 31 dX7_turns_24 (by decide) (fun h24 => ?_) (fun h24 => ?_)
        · skip
          skip
          rcases hy with q | q
          · exact absurd q h15
          · exact absurd h24 (Int32.not_lt.mpr q)
        · skip
          skip
          refine g_iconst (nI (2)) dX7_turns_27 (by decide) ?_
          refine g_goto 32 dX7_turns_28 (by decide) ?_
          refine g_put (T := TX7) (N := 26) (Cn := RX7) (ref := "CommitCouncilModel") (ty0 := tyX7) 0 dX7_turns_32 (mIn (by decide)) rfl rfl (fun w h => List.mem_cons_of_mem _ (hU7 w h)) tyX7_ok nmX7 (by decide) (List.mem_cons_of_mem _ uw_3_123) (Or.inl rfl) rfl rfl rfl rfl ?_
          have hP := mP_thr hc 2
          have hc1 := hP.1
          refine g_aload_n dX7_turns_35 rfl ?_
          refine g_get (T := TX7) (N := 26) (Cn := RX7) (ref := "CommitCouncilModel") 0 dX7_turns_36 (mIn (by decide)) rfl rfl (fun w h => List.mem_cons_of_mem _ (hU7 w h)) (by decide) (List.mem_cons_of_mem _ uw_3_123) (Or.inl rfl) rfl ?_
          refine gEx.top (v := .inl (nI (2))) (congrArg Sum.inl (rfl)) ?_
          refine g_if_gt 54 dX7_turns_39 (by decide) (fun h39 => ?_) (fun h39 => ?_)
          · skip
            rw [nI_pp (by omega)] at h39
            refine g_iconst (nI (0)) dX7_turns_54 (by decide) ?_
            exact g_zret dX7_turns_55 rfl (rfl) (⟨rfl, hP⟩)
          · skip
            rw [nI_pp (by omega)] at h39
            exfalso; omega
    · skip
      rw [nI_leI (by omega) (by omega)] at h7
      exfalso; omega

set_option maxRecDepth 100000 in
/-- turns -/
theorem m_turnS {R A : Nat} (hRA : pRA R A) {cm : Nat} {s : pT} {σ : gSt} (hc : mRel R A cm s σ) {z y f : Int32} (hz : z < 0 ∨ nI 3 ≤ z) : gEM mG mX7_turns 0 [.inr (0), .inl (z), .inl (y), .inl (f)] σ (gR 0 (mP R A cm s 1)) := by
  refine gEM_of (by decide +kernel) rfl (Nat.le_of_ble_eq_true rfl) ?_
  refine g_aload_n dX7_turns_0 rfl ?_
  refine g_iload_n dX7_turns_1 rfl ?_
  refine g_if_lt 10 dX7_turns_2 (by decide) (fun h2 => ?_) (fun h2 => ?_)
  · skip
    refine g_iconst (nI (1)) dX7_turns_10 (by decide) ?_
    refine g_goto 32 dX7_turns_11 (by decide) ?_
    refine g_put (T := TX7) (N := 26) (Cn := RX7) (ref := "CommitCouncilModel") (ty0 := tyX7) 0 dX7_turns_32 (mIn (by decide)) rfl rfl (fun w h => List.mem_cons_of_mem _ (hU7 w h)) tyX7_ok nmX7 (by decide) (List.mem_cons_of_mem _ uw_3_123) (Or.inl rfl) rfl rfl rfl rfl ?_
    have hP := mP_thr hc 1
    have hc1 := hP.1
    refine g_aload_n dX7_turns_35 rfl ?_
    refine g_get (T := TX7) (N := 26) (Cn := RX7) (ref := "CommitCouncilModel") 0 dX7_turns_36 (mIn (by decide)) rfl rfl (fun w h => List.mem_cons_of_mem _ (hU7 w h)) (by decide) (List.mem_cons_of_mem _ uw_3_123) (Or.inl rfl) rfl ?_
    refine gEx.top (v := .inl (nI (1))) (congrArg Sum.inl (rfl)) ?_
    refine g_if_gt 54 dX7_turns_39 (by decide) (fun h39 => ?_) (fun h39 => ?_)
    · skip
      rw [nI_pp (by omega)] at h39
      refine g_iconst (nI (0)) dX7_turns_54 (by decide) ?_
      exact g_zret dX7_turns_55 rfl (rfl) (⟨rfl, hP⟩)
    · skip
      rw [nI_pp (by omega)] at h39
      exfalso; omega
  · skip
    refine g_iload_n dX7_turns_5 rfl ?_
    refine g_iconst (nI (2)) dX7_turns_6 (by decide) ?_
    refine g_icmp_le 14 dX7_turns_7 (by decide) (fun h7 => ?_) (fun h7 => ?_)
    · skip
      skip
      rcases hz with q | q
      · exact absurd q h2
      · exact absurd (Int32.le_trans q h7) (by decide)
    · skip
      skip
      refine g_iconst (nI (1)) dX7_turns_10 (by decide) ?_
      refine g_goto 32 dX7_turns_11 (by decide) ?_
      refine g_put (T := TX7) (N := 26) (Cn := RX7) (ref := "CommitCouncilModel") (ty0 := tyX7) 0 dX7_turns_32 (mIn (by decide)) rfl rfl (fun w h => List.mem_cons_of_mem _ (hU7 w h)) tyX7_ok nmX7 (by decide) (List.mem_cons_of_mem _ uw_3_123) (Or.inl rfl) rfl rfl rfl rfl ?_
      have hP := mP_thr hc 1
      have hc1 := hP.1
      refine g_aload_n dX7_turns_35 rfl ?_
      refine g_get (T := TX7) (N := 26) (Cn := RX7) (ref := "CommitCouncilModel") 0 dX7_turns_36 (mIn (by decide)) rfl rfl (fun w h => List.mem_cons_of_mem _ (hU7 w h)) (by decide) (List.mem_cons_of_mem _ uw_3_123) (Or.inl rfl) rfl ?_
      refine gEx.top (v := .inl (nI (1))) (congrArg Sum.inl (rfl)) ?_
      refine g_if_gt 54 dX7_turns_39 (by decide) (fun h39 => ?_) (fun h39 => ?_)
      · skip
        rw [nI_pp (by omega)] at h39
        refine g_iconst (nI (0)) dX7_turns_54 (by decide) ?_
        exact g_zret dX7_turns_55 rfl (rfl) (⟨rfl, hP⟩)
      · skip
        rw [nI_pp (by omega)] at h39
        exfalso; omega

set_option maxRecDepth 100000 in
/-- crash -/
theorem m_crashT0 {R A : Nat} (hRA : pRA R A) {cm : Nat} {s : pT} {σ : gSt} (hc : mRel R A cm s σ) (hb : pBu s.1) {i : Nat} (hi : i < R) (hu : s.1 2 0 i ≠ 0) : gEM mG mX7_crash 0 [.inr (0), .inl (nI (0)), .inl (nI (i))] σ (gR 1 (mP R A cm (tCrash 0 i s) 0)) := by
  refine gEM_of (by decide +kernel) rfl (Nat.le_of_ble_eq_true rfl) ?_
  refine g_aload_n dX7_crash_0 rfl ?_
  refine g_iload_n dX7_crash_1 rfl ?_
  refine g_iload_n dX7_crash_2 rfl ?_
  refine g_iconst (nI (0)) dX7_crash_3 (by decide) ?_
  refine g_callVi (nI (1)) (n9 := 3) [.inl (nI (0)), .inl (nI (i)), .inl (nI (0))] [] (m_crasht0 hRA hc hb hi hu) dX7_crash_4 (gU_V uw_4_101 uw_4_103 us_2_8 uw_1_8 uw_4_104) rfl (by decide +kernel) rfl ⟨by decide, by decide⟩ (mIn (by decide)) rfl rfl rfl (Nat.le_of_ble_eq_true rfl) (fun σ1 hq1 => ?_)
  exact g_zret dX7_crash_7 rfl (rfl) (⟨rfl, hq1⟩)

set_option maxRecDepth 100000 in
/-- crash -/
theorem m_crashF0 {R A : Nat} (hRA : pRA R A) {cm : Nat} {s : pT} {σ : gSt} (hc : mRel R A cm s σ) (hb : pBu s.1) {i : Nat} (hi : i < R) (hu : s.1 2 0 i = 0) : gEM mG mX7_crash 0 [.inr (0), .inl (nI (0)), .inl (nI (i))] σ (gR 0 (mP R A cm s 0)) := by
  refine gEM_of (by decide +kernel) rfl (Nat.le_of_ble_eq_true rfl) ?_
  refine g_aload_n dX7_crash_0 rfl ?_
  refine g_iload_n dX7_crash_1 rfl ?_
  refine g_iload_n dX7_crash_2 rfl ?_
  refine g_iconst (nI (0)) dX7_crash_3 (by decide) ?_
  refine g_callVi (nI (0)) (n9 := 3) [.inl (nI (0)), .inl (nI (i)), .inl (nI (0))] [] (m_crashs0 hRA hc hb hi hu) dX7_crash_4 (gU_V uw_4_101 uw_4_103 us_2_8 uw_1_8 uw_4_104) rfl (by decide +kernel) rfl ⟨by decide, by decide⟩ (mIn (by decide)) rfl rfl rfl (Nat.le_of_ble_eq_true rfl) (fun σ1 hq1 => ?_)
  exact g_zret dX7_crash_7 rfl (rfl) (⟨rfl, hq1⟩)

set_option maxRecDepth 100000 in
/-- crash -/
theorem m_crashX0 {R A : Nat} (hRA : pRA R A) {cm : Nat} {s : pT} {σ : gSt} (hc : mRel R A cm s σ) {y : Int32} (hy : y < 0 ∨ nI R ≤ y) : gEM mG mX7_crash 0 [.inr (0), .inl (nI (0)), .inl (y)] σ (gR 0 (mP R A cm s 2)) := by
  refine gEM_of (by decide +kernel) rfl (Nat.le_of_ble_eq_true rfl) ?_
  refine g_aload_n dX7_crash_0 rfl ?_
  refine g_iload_n dX7_crash_1 rfl ?_
  refine g_iload_n dX7_crash_2 rfl ?_
  refine g_iconst (nI (0)) dX7_crash_3 (by decide) ?_
  refine g_callVi (nI (0)) (n9 := 3) [.inl (nI (0)), .inl (y), .inl (nI (0))] [] (m_turnX0 hRA hc hy) dX7_crash_4 (gU_V uw_4_101 uw_4_103 us_2_8 uw_1_8 uw_4_104) rfl (by decide +kernel) rfl ⟨by decide, by decide⟩ (mIn (by decide)) rfl rfl rfl (Nat.le_of_ble_eq_true rfl) (fun σ1 hq1 => ?_)
  exact g_zret dX7_crash_7 rfl (rfl) (⟨rfl, hq1⟩)

set_option maxRecDepth 100000 in
/-- crash -/
theorem m_crashT1 {R A : Nat} (hRA : pRA R A) {cm : Nat} {s : pT} {σ : gSt} (hc : mRel R A cm s σ) (hb : pBu s.1) {i : Nat} (hi : i < A) (hu : s.1 2 1 i ≠ 0) : gEM mG mX7_crash 0 [.inr (0), .inl (nI (1)), .inl (nI (i))] σ (gR 1 (mP R A cm (tCrash 1 i s) 0)) := by
  refine gEM_of (by decide +kernel) rfl (Nat.le_of_ble_eq_true rfl) ?_
  refine g_aload_n dX7_crash_0 rfl ?_
  refine g_iload_n dX7_crash_1 rfl ?_
  refine g_iload_n dX7_crash_2 rfl ?_
  refine g_iconst (nI (0)) dX7_crash_3 (by decide) ?_
  refine g_callVi (nI (1)) (n9 := 3) [.inl (nI (1)), .inl (nI (i)), .inl (nI (0))] [] (m_crasht1 hRA hc hb hi hu) dX7_crash_4 (gU_V uw_4_101 uw_4_103 us_2_8 uw_1_8 uw_4_104) rfl (by decide +kernel) rfl ⟨by decide, by decide⟩ (mIn (by decide)) rfl rfl rfl (Nat.le_of_ble_eq_true rfl) (fun σ1 hq1 => ?_)
  exact g_zret dX7_crash_7 rfl (rfl) (⟨rfl, hq1⟩)

set_option maxRecDepth 100000 in
/-- crash -/
theorem m_crashF1 {R A : Nat} (hRA : pRA R A) {cm : Nat} {s : pT} {σ : gSt} (hc : mRel R A cm s σ) (hb : pBu s.1) {i : Nat} (hi : i < A) (hu : s.1 2 1 i = 0) : gEM mG mX7_crash 0 [.inr (0), .inl (nI (1)), .inl (nI (i))] σ (gR 0 (mP R A cm s 0)) := by
  refine gEM_of (by decide +kernel) rfl (Nat.le_of_ble_eq_true rfl) ?_
  refine g_aload_n dX7_crash_0 rfl ?_
  refine g_iload_n dX7_crash_1 rfl ?_
  refine g_iload_n dX7_crash_2 rfl ?_
  refine g_iconst (nI (0)) dX7_crash_3 (by decide) ?_
  refine g_callVi (nI (0)) (n9 := 3) [.inl (nI (1)), .inl (nI (i)), .inl (nI (0))] [] (m_crashs1 hRA hc hb hi hu) dX7_crash_4 (gU_V uw_4_101 uw_4_103 us_2_8 uw_1_8 uw_4_104) rfl (by decide +kernel) rfl ⟨by decide, by decide⟩ (mIn (by decide)) rfl rfl rfl (Nat.le_of_ble_eq_true rfl) (fun σ1 hq1 => ?_)
  exact g_zret dX7_crash_7 rfl (rfl) (⟨rfl, hq1⟩)

set_option maxRecDepth 100000 in
/-- crash -/
theorem m_crashX1 {R A : Nat} (hRA : pRA R A) {cm : Nat} {s : pT} {σ : gSt} (hc : mRel R A cm s σ) {y : Int32} (hy : y < 0 ∨ nI A ≤ y) : gEM mG mX7_crash 0 [.inr (0), .inl (nI (1)), .inl (y)] σ (gR 0 (mP R A cm s 2)) := by
  refine gEM_of (by decide +kernel) rfl (Nat.le_of_ble_eq_true rfl) ?_
  refine g_aload_n dX7_crash_0 rfl ?_
  refine g_iload_n dX7_crash_1 rfl ?_
  refine g_iload_n dX7_crash_2 rfl ?_
  refine g_iconst (nI (0)) dX7_crash_3 (by decide) ?_
  refine g_callVi (nI (0)) (n9 := 3) [.inl (nI (1)), .inl (y), .inl (nI (0))] [] (m_turnX1 hRA hc hy) dX7_crash_4 (gU_V uw_4_101 uw_4_103 us_2_8 uw_1_8 uw_4_104) rfl (by decide +kernel) rfl ⟨by decide, by decide⟩ (mIn (by decide)) rfl rfl rfl (Nat.le_of_ble_eq_true rfl) (fun σ1 hq1 => ?_)
  exact g_zret dX7_crash_7 rfl (rfl) (⟨rfl, hq1⟩)

set_option maxRecDepth 100000 in
/-- crash -/
theorem m_crashT2 {R A : Nat} (hRA : pRA R A) {cm : Nat} {s : pT} {σ : gSt} (hc : mRel R A cm s σ) (hb : pBu s.1) {i : Nat} (hi : i < 3) (hu : s.1 2 2 i ≠ 0) : gEM mG mX7_crash 0 [.inr (0), .inl (nI (2)), .inl (nI (i))] σ (gR 1 (mP R A cm (tCrash 2 i s) 0)) := by
  refine gEM_of (by decide +kernel) rfl (Nat.le_of_ble_eq_true rfl) ?_
  refine g_aload_n dX7_crash_0 rfl ?_
  refine g_iload_n dX7_crash_1 rfl ?_
  refine g_iload_n dX7_crash_2 rfl ?_
  refine g_iconst (nI (0)) dX7_crash_3 (by decide) ?_
  refine g_callVi (nI (1)) (n9 := 3) [.inl (nI (2)), .inl (nI (i)), .inl (nI (0))] [] (m_crasht2 hRA hc hb hi hu) dX7_crash_4 (gU_V uw_4_101 uw_4_103 us_2_8 uw_1_8 uw_4_104) rfl (by decide +kernel) rfl ⟨by decide, by decide⟩ (mIn (by decide)) rfl rfl rfl (Nat.le_of_ble_eq_true rfl) (fun σ1 hq1 => ?_)
  exact g_zret dX7_crash_7 rfl (rfl) (⟨rfl, hq1⟩)

set_option maxRecDepth 100000 in
/-- crash -/
theorem m_crashF2 {R A : Nat} (hRA : pRA R A) {cm : Nat} {s : pT} {σ : gSt} (hc : mRel R A cm s σ) (hb : pBu s.1) {i : Nat} (hi : i < 3) (hu : s.1 2 2 i = 0) : gEM mG mX7_crash 0 [.inr (0), .inl (nI (2)), .inl (nI (i))] σ (gR 0 (mP R A cm s 0)) := by
  refine gEM_of (by decide +kernel) rfl (Nat.le_of_ble_eq_true rfl) ?_
  refine g_aload_n dX7_crash_0 rfl ?_
  refine g_iload_n dX7_crash_1 rfl ?_
  refine g_iload_n dX7_crash_2 rfl ?_
  refine g_iconst (nI (0)) dX7_crash_3 (by decide) ?_
  refine g_callVi (nI (0)) (n9 := 3) [.inl (nI (2)), .inl (nI (i)), .inl (nI (0))] [] (m_crashs2 hRA hc hb hi hu) dX7_crash_4 (gU_V uw_4_101 uw_4_103 us_2_8 uw_1_8 uw_4_104) rfl (by decide +kernel) rfl ⟨by decide, by decide⟩ (mIn (by decide)) rfl rfl rfl (Nat.le_of_ble_eq_true rfl) (fun σ1 hq1 => ?_)
  exact g_zret dX7_crash_7 rfl (rfl) (⟨rfl, hq1⟩)

set_option maxRecDepth 100000 in
/-- crash -/
theorem m_crashX2 {R A : Nat} (hRA : pRA R A) {cm : Nat} {s : pT} {σ : gSt} (hc : mRel R A cm s σ) {y : Int32} (hy : y < 0 ∨ nI 3 ≤ y) : gEM mG mX7_crash 0 [.inr (0), .inl (nI (2)), .inl (y)] σ (gR 0 (mP R A cm s 2)) := by
  refine gEM_of (by decide +kernel) rfl (Nat.le_of_ble_eq_true rfl) ?_
  refine g_aload_n dX7_crash_0 rfl ?_
  refine g_iload_n dX7_crash_1 rfl ?_
  refine g_iload_n dX7_crash_2 rfl ?_
  refine g_iconst (nI (0)) dX7_crash_3 (by decide) ?_
  refine g_callVi (nI (0)) (n9 := 3) [.inl (nI (2)), .inl (y), .inl (nI (0))] [] (m_turnX2 hRA hc hy) dX7_crash_4 (gU_V uw_4_101 uw_4_103 us_2_8 uw_1_8 uw_4_104) rfl (by decide +kernel) rfl ⟨by decide, by decide⟩ (mIn (by decide)) rfl rfl rfl (Nat.le_of_ble_eq_true rfl) (fun σ1 hq1 => ?_)
  exact g_zret dX7_crash_7 rfl (rfl) (⟨rfl, hq1⟩)

set_option maxRecDepth 100000 in
/-- crash -/
theorem m_crashS {R A : Nat} (hRA : pRA R A) {cm : Nat} {s : pT} {σ : gSt} (hc : mRel R A cm s σ) {z y : Int32} (hz : z < 0 ∨ nI 3 ≤ z) : gEM mG mX7_crash 0 [.inr (0), .inl (z), .inl (y)] σ (gR 0 (mP R A cm s 1)) := by
  refine gEM_of (by decide +kernel) rfl (Nat.le_of_ble_eq_true rfl) ?_
  refine g_aload_n dX7_crash_0 rfl ?_
  refine g_iload_n dX7_crash_1 rfl ?_
  refine g_iload_n dX7_crash_2 rfl ?_
  refine g_iconst (nI (0)) dX7_crash_3 (by decide) ?_
  refine g_callVi (nI (0)) (n9 := 3) [.inl (z), .inl (y), .inl (nI (0))] [] (m_turnS hRA hc hz) dX7_crash_4 (gU_V uw_4_101 uw_4_103 us_2_8 uw_1_8 uw_4_104) rfl (by decide +kernel) rfl ⟨by decide, by decide⟩ (mIn (by decide)) rfl rfl rfl (Nat.le_of_ble_eq_true rfl) (fun σ1 hq1 => ?_)
  exact g_zret dX7_crash_7 rfl (rfl) (⟨rfl, hq1⟩)

set_option maxRecDepth 100000 in
/-- recover -/
theorem m_recoverT0 {R A : Nat} (hRA : pRA R A) {cm : Nat} {s : pT} {σ : gSt} (hc : mRel R A cm s σ) (hb : pBu s.1) {i : Nat} (hi : i < R) (hu : s.1 2 0 i ≠ 1) : gEM mG mX7_recover 0 [.inr (0), .inl (nI (0)), .inl (nI (i))] σ (gR 1 (mP R A cm (tRec 0 i s) 0)) := by
  refine gEM_of (by decide +kernel) rfl (Nat.le_of_ble_eq_true rfl) ?_
  refine g_aload_n dX7_recover_0 rfl ?_
  refine g_iload_n dX7_recover_1 rfl ?_
  refine g_iload_n dX7_recover_2 rfl ?_
  refine g_iconst (nI (1)) dX7_recover_3 (by decide) ?_
  refine g_callVi (nI (1)) (n9 := 3) [.inl (nI (0)), .inl (nI (i)), .inl (nI (1))] [] (m_rect0 hRA hc hb hi hu) dX7_recover_4 (gU_V uw_4_101 uw_4_103 us_2_8 uw_1_8 uw_4_104) rfl (by decide +kernel) rfl ⟨by decide, by decide⟩ (mIn (by decide)) rfl rfl rfl (Nat.le_of_ble_eq_true rfl) (fun σ1 hq1 => ?_)
  exact g_zret dX7_recover_7 rfl (rfl) (⟨rfl, hq1⟩)

set_option maxRecDepth 100000 in
/-- recover -/
theorem m_recoverF0 {R A : Nat} (hRA : pRA R A) {cm : Nat} {s : pT} {σ : gSt} (hc : mRel R A cm s σ) (hb : pBu s.1) {i : Nat} (hi : i < R) (hu : s.1 2 0 i = 1) : gEM mG mX7_recover 0 [.inr (0), .inl (nI (0)), .inl (nI (i))] σ (gR 0 (mP R A cm s 0)) := by
  refine gEM_of (by decide +kernel) rfl (Nat.le_of_ble_eq_true rfl) ?_
  refine g_aload_n dX7_recover_0 rfl ?_
  refine g_iload_n dX7_recover_1 rfl ?_
  refine g_iload_n dX7_recover_2 rfl ?_
  refine g_iconst (nI (1)) dX7_recover_3 (by decide) ?_
  refine g_callVi (nI (0)) (n9 := 3) [.inl (nI (0)), .inl (nI (i)), .inl (nI (1))] [] (m_recs0 hRA hc hb hi hu) dX7_recover_4 (gU_V uw_4_101 uw_4_103 us_2_8 uw_1_8 uw_4_104) rfl (by decide +kernel) rfl ⟨by decide, by decide⟩ (mIn (by decide)) rfl rfl rfl (Nat.le_of_ble_eq_true rfl) (fun σ1 hq1 => ?_)
  exact g_zret dX7_recover_7 rfl (rfl) (⟨rfl, hq1⟩)

set_option maxRecDepth 100000 in
/-- recover -/
theorem m_recoverX0 {R A : Nat} (hRA : pRA R A) {cm : Nat} {s : pT} {σ : gSt} (hc : mRel R A cm s σ) {y : Int32} (hy : y < 0 ∨ nI R ≤ y) : gEM mG mX7_recover 0 [.inr (0), .inl (nI (0)), .inl (y)] σ (gR 0 (mP R A cm s 2)) := by
  refine gEM_of (by decide +kernel) rfl (Nat.le_of_ble_eq_true rfl) ?_
  refine g_aload_n dX7_recover_0 rfl ?_
  refine g_iload_n dX7_recover_1 rfl ?_
  refine g_iload_n dX7_recover_2 rfl ?_
  refine g_iconst (nI (1)) dX7_recover_3 (by decide) ?_
  refine g_callVi (nI (0)) (n9 := 3) [.inl (nI (0)), .inl (y), .inl (nI (1))] [] (m_turnX0 hRA hc hy) dX7_recover_4 (gU_V uw_4_101 uw_4_103 us_2_8 uw_1_8 uw_4_104) rfl (by decide +kernel) rfl ⟨by decide, by decide⟩ (mIn (by decide)) rfl rfl rfl (Nat.le_of_ble_eq_true rfl) (fun σ1 hq1 => ?_)
  exact g_zret dX7_recover_7 rfl (rfl) (⟨rfl, hq1⟩)

set_option maxRecDepth 100000 in
/-- recover -/
theorem m_recoverT1 {R A : Nat} (hRA : pRA R A) {cm : Nat} {s : pT} {σ : gSt} (hc : mRel R A cm s σ) (hb : pBu s.1) {i : Nat} (hi : i < A) (hu : s.1 2 1 i ≠ 1) : gEM mG mX7_recover 0 [.inr (0), .inl (nI (1)), .inl (nI (i))] σ (gR 1 (mP R A cm (tRec 1 i s) 0)) := by
  refine gEM_of (by decide +kernel) rfl (Nat.le_of_ble_eq_true rfl) ?_
  refine g_aload_n dX7_recover_0 rfl ?_
  refine g_iload_n dX7_recover_1 rfl ?_
  refine g_iload_n dX7_recover_2 rfl ?_
  refine g_iconst (nI (1)) dX7_recover_3 (by decide) ?_
  refine g_callVi (nI (1)) (n9 := 3) [.inl (nI (1)), .inl (nI (i)), .inl (nI (1))] [] (m_rect1 hRA hc hb hi hu) dX7_recover_4 (gU_V uw_4_101 uw_4_103 us_2_8 uw_1_8 uw_4_104) rfl (by decide +kernel) rfl ⟨by decide, by decide⟩ (mIn (by decide)) rfl rfl rfl (Nat.le_of_ble_eq_true rfl) (fun σ1 hq1 => ?_)
  exact g_zret dX7_recover_7 rfl (rfl) (⟨rfl, hq1⟩)

set_option maxRecDepth 100000 in
/-- recover -/
theorem m_recoverF1 {R A : Nat} (hRA : pRA R A) {cm : Nat} {s : pT} {σ : gSt} (hc : mRel R A cm s σ) (hb : pBu s.1) {i : Nat} (hi : i < A) (hu : s.1 2 1 i = 1) : gEM mG mX7_recover 0 [.inr (0), .inl (nI (1)), .inl (nI (i))] σ (gR 0 (mP R A cm s 0)) := by
  refine gEM_of (by decide +kernel) rfl (Nat.le_of_ble_eq_true rfl) ?_
  refine g_aload_n dX7_recover_0 rfl ?_
  refine g_iload_n dX7_recover_1 rfl ?_
  refine g_iload_n dX7_recover_2 rfl ?_
  refine g_iconst (nI (1)) dX7_recover_3 (by decide) ?_
  refine g_callVi (nI (0)) (n9 := 3) [.inl (nI (1)), .inl (nI (i)), .inl (nI (1))] [] (m_recs1 hRA hc hb hi hu) dX7_recover_4 (gU_V uw_4_101 uw_4_103 us_2_8 uw_1_8 uw_4_104) rfl (by decide +kernel) rfl ⟨by decide, by decide⟩ (mIn (by decide)) rfl rfl rfl (Nat.le_of_ble_eq_true rfl) (fun σ1 hq1 => ?_)
  exact g_zret dX7_recover_7 rfl (rfl) (⟨rfl, hq1⟩)

set_option maxRecDepth 100000 in
/-- recover -/
theorem m_recoverX1 {R A : Nat} (hRA : pRA R A) {cm : Nat} {s : pT} {σ : gSt} (hc : mRel R A cm s σ) {y : Int32} (hy : y < 0 ∨ nI A ≤ y) : gEM mG mX7_recover 0 [.inr (0), .inl (nI (1)), .inl (y)] σ (gR 0 (mP R A cm s 2)) := by
  refine gEM_of (by decide +kernel) rfl (Nat.le_of_ble_eq_true rfl) ?_
  refine g_aload_n dX7_recover_0 rfl ?_
  refine g_iload_n dX7_recover_1 rfl ?_
  refine g_iload_n dX7_recover_2 rfl ?_
  refine g_iconst (nI (1)) dX7_recover_3 (by decide) ?_
  refine g_callVi (nI (0)) (n9 := 3) [.inl (nI (1)), .inl (y), .inl (nI (1))] [] (m_turnX1 hRA hc hy) dX7_recover_4 (gU_V uw_4_101 uw_4_103 us_2_8 uw_1_8 uw_4_104) rfl (by decide +kernel) rfl ⟨by decide, by decide⟩ (mIn (by decide)) rfl rfl rfl (Nat.le_of_ble_eq_true rfl) (fun σ1 hq1 => ?_)
  exact g_zret dX7_recover_7 rfl (rfl) (⟨rfl, hq1⟩)

set_option maxRecDepth 100000 in
/-- recover -/
theorem m_recoverT2 {R A : Nat} (hRA : pRA R A) {cm : Nat} {s : pT} {σ : gSt} (hc : mRel R A cm s σ) (hb : pBu s.1) {i : Nat} (hi : i < 3) (hu : s.1 2 2 i ≠ 1) : gEM mG mX7_recover 0 [.inr (0), .inl (nI (2)), .inl (nI (i))] σ (gR 1 (mP R A cm (tRec 2 i s) 0)) := by
  refine gEM_of (by decide +kernel) rfl (Nat.le_of_ble_eq_true rfl) ?_
  refine g_aload_n dX7_recover_0 rfl ?_
  refine g_iload_n dX7_recover_1 rfl ?_
  refine g_iload_n dX7_recover_2 rfl ?_
  refine g_iconst (nI (1)) dX7_recover_3 (by decide) ?_
  refine g_callVi (nI (1)) (n9 := 3) [.inl (nI (2)), .inl (nI (i)), .inl (nI (1))] [] (m_rect2 hRA hc hb hi hu) dX7_recover_4 (gU_V uw_4_101 uw_4_103 us_2_8 uw_1_8 uw_4_104) rfl (by decide +kernel) rfl ⟨by decide, by decide⟩ (mIn (by decide)) rfl rfl rfl (Nat.le_of_ble_eq_true rfl) (fun σ1 hq1 => ?_)
  exact g_zret dX7_recover_7 rfl (rfl) (⟨rfl, hq1⟩)

set_option maxRecDepth 100000 in
/-- recover -/
theorem m_recoverF2 {R A : Nat} (hRA : pRA R A) {cm : Nat} {s : pT} {σ : gSt} (hc : mRel R A cm s σ) (hb : pBu s.1) {i : Nat} (hi : i < 3) (hu : s.1 2 2 i = 1) : gEM mG mX7_recover 0 [.inr (0), .inl (nI (2)), .inl (nI (i))] σ (gR 0 (mP R A cm s 0)) := by
  refine gEM_of (by decide +kernel) rfl (Nat.le_of_ble_eq_true rfl) ?_
  refine g_aload_n dX7_recover_0 rfl ?_
  refine g_iload_n dX7_recover_1 rfl ?_
  refine g_iload_n dX7_recover_2 rfl ?_
  refine g_iconst (nI (1)) dX7_recover_3 (by decide) ?_
  refine g_callVi (nI (0)) (n9 := 3) [.inl (nI (2)), .inl (nI (i)), .inl (nI (1))] [] (m_recs2 hRA hc hb hi hu) dX7_recover_4 (gU_V uw_4_101 uw_4_103 us_2_8 uw_1_8 uw_4_104) rfl (by decide +kernel) rfl ⟨by decide, by decide⟩ (mIn (by decide)) rfl rfl rfl (Nat.le_of_ble_eq_true rfl) (fun σ1 hq1 => ?_)
  exact g_zret dX7_recover_7 rfl (rfl) (⟨rfl, hq1⟩)

set_option maxRecDepth 100000 in
/-- recover -/
theorem m_recoverX2 {R A : Nat} (hRA : pRA R A) {cm : Nat} {s : pT} {σ : gSt} (hc : mRel R A cm s σ) {y : Int32} (hy : y < 0 ∨ nI 3 ≤ y) : gEM mG mX7_recover 0 [.inr (0), .inl (nI (2)), .inl (y)] σ (gR 0 (mP R A cm s 2)) := by
  refine gEM_of (by decide +kernel) rfl (Nat.le_of_ble_eq_true rfl) ?_
  refine g_aload_n dX7_recover_0 rfl ?_
  refine g_iload_n dX7_recover_1 rfl ?_
  refine g_iload_n dX7_recover_2 rfl ?_
  refine g_iconst (nI (1)) dX7_recover_3 (by decide) ?_
  refine g_callVi (nI (0)) (n9 := 3) [.inl (nI (2)), .inl (y), .inl (nI (1))] [] (m_turnX2 hRA hc hy) dX7_recover_4 (gU_V uw_4_101 uw_4_103 us_2_8 uw_1_8 uw_4_104) rfl (by decide +kernel) rfl ⟨by decide, by decide⟩ (mIn (by decide)) rfl rfl rfl (Nat.le_of_ble_eq_true rfl) (fun σ1 hq1 => ?_)
  exact g_zret dX7_recover_7 rfl (rfl) (⟨rfl, hq1⟩)

set_option maxRecDepth 100000 in
/-- recover -/
theorem m_recoverS {R A : Nat} (hRA : pRA R A) {cm : Nat} {s : pT} {σ : gSt} (hc : mRel R A cm s σ) {z y : Int32} (hz : z < 0 ∨ nI 3 ≤ z) : gEM mG mX7_recover 0 [.inr (0), .inl (z), .inl (y)] σ (gR 0 (mP R A cm s 1)) := by
  refine gEM_of (by decide +kernel) rfl (Nat.le_of_ble_eq_true rfl) ?_
  refine g_aload_n dX7_recover_0 rfl ?_
  refine g_iload_n dX7_recover_1 rfl ?_
  refine g_iload_n dX7_recover_2 rfl ?_
  refine g_iconst (nI (1)) dX7_recover_3 (by decide) ?_
  refine g_callVi (nI (0)) (n9 := 3) [.inl (z), .inl (y), .inl (nI (1))] [] (m_turnS hRA hc hz) dX7_recover_4 (gU_V uw_4_101 uw_4_103 us_2_8 uw_1_8 uw_4_104) rfl (by decide +kernel) rfl ⟨by decide, by decide⟩ (mIn (by decide)) rfl rfl rfl (Nat.le_of_ble_eq_true rfl) (fun σ1 hq1 => ?_)
  exact g_zret dX7_recover_7 rfl (rfl) (⟨rfl, hq1⟩)
