/-- what a message's coming needs -/
def pGo (R A : Nat) (α : pS) (x : pMsg) : Prop := (x 0 = 0 → x 5 = α 16 (x 4) (x 3)) ∧ (x 0 = 1 → pGo1 R A α x) ∧ (x 0 = 3 → pGo3 R A α x)

set_option maxRecDepth 100000 in
/-- leadsTo -/
theorem m_leads0 {R A : Nat} (hRA : pRA R A) {cm : Nat} {s : pT} {σ : gSt} (hc : mRel R A cm s σ) (hb : pBu s.1) {i : Nat} {x : pMsg} (hx : s.2[i]? = some x) (hk : x 0 = 0) (hp : pMk R A x) (hlen : s.2.length ≤ 400) : gEM mG mX7_leadsTo 0 [.inr (0), .inl (nI (i))] σ (gR (nI (pAnsH R A s.1 x)) (fun τ => τ = σ)) := by
  obtain ⟨hR1, hR6, hA35⟩ := hRA
  have hA5 : A ≤ 5 := by omega
  have hi := (List.getElem?_eq_some_iff.mp hx).1
  have hx4 := hp.1
  obtain ⟨hx1, hx3, hx5⟩ := hp.2.1 hk
  have hu : s.1 2 1 (x 1) ≤ 1 := hb 2 _ _ (by decide) (by decide)
  have hup : pUpOf s.1 x = s.1 2 1 (x 1) := by unfold pUpOf; simp [hk]
  have haH : pAnsH R A s.1 x = if s.1 2 1 (x 1) = 0 then 0 else if s.1 5 (x 1) 0 ≤ x 4 then 3 else 0 := by unfold pAnsH; rw [hup, ans0 hk]
  have hb5 : s.1 5 (x 1) 0 ≤ 1536 := hb 5 _ _ (by decide) (by decide)
  refine gEM_of (by decide +kernel) rfl (Nat.le_of_ble_eq_true rfl) ?_
  refine g_aload_n dX7_leadsTo_0 rfl ?_
  refine g_iload_n dX7_leadsTo_1 rfl ?_
  refine g_iconst (nI (1)) dX7_leadsTo_2 (by decide) ?_
  refine g_callVi (_) (n9 := 2) [.inl (nI (i)), .inl (nI (1))] [] (m_of (i := i) (j := 1) (by omega)) dX7_leadsTo_3 (gU_V uw_4_25 uw_4_27 us_1_10 uw_1_8 uw_4_28) rfl (by decide +kernel) rfl ⟨by decide, by decide⟩ (mIn (by decide)) rfl rfl rfl (Nat.le_of_ble_eq_true rfl) (fun τ1 hq1 => ?_)
  subst hq1
  refine gEx.top (v := .inl (nI (x 1))) (congrArg Sum.inl (((hc.2.1 i x hx).1 1 (by decide)).trans (ptN (by rw [hk]; rfl)))) ?_
  refine g_istore_n dX7_leadsTo_6 (by decide) ?_
  refine g_aload_n dX7_leadsTo_7 rfl ?_
  refine g_iload_n dX7_leadsTo_8 rfl ?_
  refine g_iconst (nI (4)) dX7_leadsTo_9 (by decide) ?_
  refine g_callVi (_) (n9 := 2) [.inl (nI (i)), .inl (nI (4))] [] (m_of (i := i) (j := 4) (by omega)) dX7_leadsTo_10 (gU_V uw_4_25 uw_4_27 us_1_10 uw_1_8 uw_4_28) rfl (by decide +kernel) rfl ⟨by decide, by decide⟩ (mIn (by decide)) rfl rfl rfl (Nat.le_of_ble_eq_true rfl) (fun τ1 hq1 => ?_)
  subst hq1
  refine gEx.top (v := .inl (nI (x 4))) (congrArg Sum.inl (((hc.2.1 i x hx).1 4 (by decide)).trans (ptN (by rw [hk]; rfl)))) ?_
  refine g_istore_n dX7_leadsTo_13 (by decide) ?_
  refine g_aload_n dX7_leadsTo_14 rfl ?_
  refine g_iload_n dX7_leadsTo_15 rfl ?_
  refine g_iconst (nI (0)) dX7_leadsTo_16 (by decide) ?_
  refine g_callVi (_) (n9 := 2) [.inl (nI (i)), .inl (nI (0))] [] (m_of (i := i) (j := 0) (by omega)) dX7_leadsTo_17 (gU_V uw_4_25 uw_4_27 us_1_10 uw_1_8 uw_4_28) rfl (by decide +kernel) rfl ⟨by decide, by decide⟩ (mIn (by decide)) rfl rfl rfl (Nat.le_of_ble_eq_true rfl) (fun τ1 hq1 => ?_)
  subst hq1
  refine gEx.top (v := .inl (nI (0))) (congrArg Sum.inl (((hc.2.1 i x hx).1 0 (by decide)).trans ((pt0 x (by omega)).trans (by rw [hk])))) ?_
  refine g_tableIn (off := 40) 60 dX7_leadsTo_20 (by decide) (by decide) (by decide) (by decide) ?_
  refine g_aload_n dX7_leadsTo_60 rfl ?_
  refine g_getr (T := TX7) (N := 26) (Cn := RX7) (ref := "CommitCouncilModel") 10 dX7_leadsTo_61 (mIn (by decide)) rfl rfl (fun w h => List.mem_cons_of_mem _ (hU7 w h)) (by decide) (List.mem_cons_of_mem _ uw_3_133) (Or.inl rfl) rfl ?_
  refine g_iconst (nI (1)) dX7_leadsTo_64 (by decide) ?_
  have hx1 : 1 < 3 := by omega
  refine g_aald5N (n := 3) (j := 1) dX7_leadsTo_65 (mIn (by decide)) rfl hx1 (by omega) ?_
  refine g_iload_n dX7_leadsTo_66 rfl ?_
  refine g_zaldN (n := 6) (j := x 1) dX7_leadsTo_67 (mIn (by omega)) (mSh_u hx1) (by omega) (by omega) ?_
  refine gEx.top (v := .inl (nI (s.1 2 1 (x 1)))) (congrArg Sum.inl (mR_u1 hc (by omega))) ?_
  refine g_if_eq 85 dX7_leadsTo_68 (by decide) (fun h68 => ?_) (fun h68 => ?_)
  · skip
    rw [nI_z (by omega)] at h68
    refine g_iconst (nI (0)) dX7_leadsTo_85 (by decide) ?_
    exact g_iret dX7_leadsTo_86 rfl (⟨by rw [show pAnsH R A s.1 x = 0 by rw [haH]; split <;> (try split) <;> omega], rfl⟩)
  · skip
    rw [nI_z (by omega)] at h68
    refine g_iload_n dX7_leadsTo_71 rfl ?_
    refine g_aload_n dX7_leadsTo_72 rfl ?_
    refine g_getr (T := TX7) (N := 26) (Cn := RX7) (ref := "CommitCouncilModel") 11 dX7_leadsTo_73 (mIn (by decide)) rfl rfl (fun w h => List.mem_cons_of_mem _ (hU7 w h)) (by decide) (List.mem_cons_of_mem _ uw_3_134) (Or.inl rfl) rfl ?_
    refine g_iload_n dX7_leadsTo_76 rfl ?_
    refine g_ialdN (n := 5) (j := x 1) dX7_leadsTo_77 (mIn (by decide)) rfl (by omega) (by omega) ?_
    refine gEx.top (v := .inl (nI (s.1 5 (x 1) 0))) (congrArg Sum.inl (mR_pro hc (by omega))) ?_
    refine g_icmp_lt 85 dX7_leadsTo_78 (by decide) (fun h78 => ?_) (fun h78 => ?_)
    · skip
      rw [nI_ltI (by omega) (by omega)] at h78
      refine g_iconst (nI (0)) dX7_leadsTo_85 (by decide) ?_
      exact g_iret dX7_leadsTo_86 rfl (⟨by rw [show pAnsH R A s.1 x = 0 by rw [haH]; split <;> (try split) <;> omega], rfl⟩)
    · skip
      rw [nI_ltI (by omega) (by omega)] at h78
      refine g_iconst (nI (3)) dX7_leadsTo_81 (by decide) ?_
      refine g_goto 86 dX7_leadsTo_82 (by decide) ?_
      exact g_iret dX7_leadsTo_86 rfl (⟨by rw [show pAnsH R A s.1 x = 3 by rw [haH]; split <;> (try split) <;> omega], rfl⟩)

set_option maxRecDepth 100000 in
/-- leadsTo -/
theorem m_leads1 {R A : Nat} (hRA : pRA R A) {cm : Nat} {s : pT} {σ : gSt} (hc : mRel R A cm s σ) (hb : pBu s.1) {i : Nat} {x : pMsg} (hx : s.2[i]? = some x) (hk : x 0 = 1) (hp : pMk R A x) (hlen : s.2.length ≤ 400) (hgo : pGo1 R A s.1 x) : gEM mG mX7_leadsTo 0 [.inr (0), .inl (nI (i))] σ (gR (nI (pAnsH R A s.1 x)) (fun τ => τ = σ)) := by
  obtain ⟨hR1, hR6, hA35⟩ := hRA
  have hA5 : A ≤ 5 := by omega
  have hi := (List.getElem?_eq_some_iff.mp hx).1
  have hx4 := hp.1
  obtain ⟨hx1, hx2, hx3, hx5⟩ := hp.2.2.1 hk
  have hu : s.1 2 2 (x 1) ≤ 1 := hb 2 _ _ (by decide) (by decide)
  have hup : pUpOf s.1 x = s.1 2 2 (x 1) := by unfold pUpOf; simp [hk]
  have haH : pAnsH R A s.1 x = if s.1 2 2 (x 1) = 0 then 0 else if pDec R A s.1 (x 1) (x 3) (x 2) (x 4) (x 5) = s.1 10 (x 1) 0 then 0 else R := by unfold pAnsH; rw [hup, ans1 hk]
  obtain ⟨g1, g2⟩ := hgo
  have hbd := pBu_bd (R := R) (A := A) hb
  have hg2 : ∀ m, m < R → gx A s.1 x m ≤ 2 := fun m _ => by unfold gx; split; exact pOut_le hbd hx5; exact hb 13 _ _ (by decide) (by decide)
  have hb10 : s.1 10 (x 1) 0 ≤ 2 := hb 10 _ _ (by decide) (by decide)
  have hd1 : s.1 10 (x 1) 0 ≠ 0 → pDec R A s.1 (x 1) (x 3) (x 2) (x 4) (x 5) = s.1 10 (x 1) 0 := fun h => pDec_old h
  refine gEM_of (by decide +kernel) rfl (Nat.le_of_ble_eq_true rfl) ?_
  refine g_aload_n dX7_leadsTo_0 rfl ?_
  refine g_iload_n dX7_leadsTo_1 rfl ?_
  refine g_iconst (nI (1)) dX7_leadsTo_2 (by decide) ?_
  refine g_callVi (_) (n9 := 2) [.inl (nI (i)), .inl (nI (1))] [] (m_of (i := i) (j := 1) (by omega)) dX7_leadsTo_3 (gU_V uw_4_25 uw_4_27 us_1_10 uw_1_8 uw_4_28) rfl (by decide +kernel) rfl ⟨by decide, by decide⟩ (mIn (by decide)) rfl rfl rfl (Nat.le_of_ble_eq_true rfl) (fun τ1 hq1 => ?_)
  subst hq1
  refine gEx.top (v := .inl (nI (x 1))) (congrArg Sum.inl (((hc.2.1 i x hx).1 1 (by decide)).trans (ptN (by rw [hk]; rfl)))) ?_
  refine g_istore_n dX7_leadsTo_6 (by decide) ?_
  refine g_aload_n dX7_leadsTo_7 rfl ?_
  refine g_iload_n dX7_leadsTo_8 rfl ?_
  refine g_iconst (nI (4)) dX7_leadsTo_9 (by decide) ?_
  refine g_callVi (_) (n9 := 2) [.inl (nI (i)), .inl (nI (4))] [] (m_of (i := i) (j := 4) (by omega)) dX7_leadsTo_10 (gU_V uw_4_25 uw_4_27 us_1_10 uw_1_8 uw_4_28) rfl (by decide +kernel) rfl ⟨by decide, by decide⟩ (mIn (by decide)) rfl rfl rfl (Nat.le_of_ble_eq_true rfl) (fun τ1 hq1 => ?_)
  subst hq1
  refine gEx.top (v := .inl (nI (x 4))) (congrArg Sum.inl (((hc.2.1 i x hx).1 4 (by decide)).trans (ptN (by rw [hk]; rfl)))) ?_
  refine g_istore_n dX7_leadsTo_13 (by decide) ?_
  refine g_aload_n dX7_leadsTo_14 rfl ?_
  refine g_iload_n dX7_leadsTo_15 rfl ?_
  refine g_iconst (nI (0)) dX7_leadsTo_16 (by decide) ?_
  refine g_callVi (_) (n9 := 2) [.inl (nI (i)), .inl (nI (0))] [] (m_of (i := i) (j := 0) (by omega)) dX7_leadsTo_17 (gU_V uw_4_25 uw_4_27 us_1_10 uw_1_8 uw_4_28) rfl (by decide +kernel) rfl ⟨by decide, by decide⟩ (mIn (by decide)) rfl rfl rfl (Nat.le_of_ble_eq_true rfl) (fun τ1 hq1 => ?_)
  subst hq1
  refine gEx.top (v := .inl (nI (1))) (congrArg Sum.inl (((hc.2.1 i x hx).1 0 (by decide)).trans ((pt0 x (by omega)).trans (by rw [hk])))) ?_
  refine g_tableIn (off := 164) 184 dX7_leadsTo_20 (by decide) (by decide) (by decide) (by decide) ?_
  refine g_aload_n dX7_leadsTo_184 rfl ?_
  refine g_getr (T := TX7) (N := 26) (Cn := RX7) (ref := "CommitCouncilModel") 10 dX7_leadsTo_185 (mIn (by decide)) rfl rfl (fun w h => List.mem_cons_of_mem _ (hU7 w h)) (by decide) (List.mem_cons_of_mem _ uw_3_133) (Or.inl rfl) rfl ?_
  refine g_iconst (nI (2)) dX7_leadsTo_188 (by decide) ?_
  have hx1 : 2 < 3 := by omega
  refine g_aald5N (n := 3) (j := 2) dX7_leadsTo_189 (mIn (by decide)) rfl hx1 (by omega) ?_
  refine g_iload_n dX7_leadsTo_190 rfl ?_
  refine g_zaldN (n := 6) (j := x 1) dX7_leadsTo_191 (mIn (by omega)) (mSh_u hx1) (by omega) (by omega) ?_
  refine gEx.top (v := .inl (nI (s.1 2 2 (x 1)))) (congrArg Sum.inl (mR_u2 hc (by omega))) ?_
  refine g_if_eq 210 dX7_leadsTo_192 (by decide) (fun h192 => ?_) (fun h192 => ?_)
  · skip
    rw [nI_z (by omega)] at h192
    refine g_iconst (nI (0)) dX7_leadsTo_210 (by decide) ?_
    exact g_iret dX7_leadsTo_211 rfl (⟨by rw [show pAnsH R A s.1 x = 0 by rw [haH]; split <;> (try split) <;> omega], rfl⟩)
  · skip
    rw [nI_z (by omega)] at h192
    refine g_aload_n dX7_leadsTo_195 rfl ?_
    refine g_iload_n dX7_leadsTo_196 rfl ?_
    refine g_callVi (bI (s.1 10 (x 1) 0 = 0 ∧ 0 < pDcd R (gx A s.1 x))) (n9 := 1) [.inl (nI (i))] [] (m_decs ⟨hR1, hR6, hA35⟩ hc hb hx hk hp hlen hg2 g1) dX7_leadsTo_197 (gU_V uw_4_40 uw_4_42 us_1_13 uw_1_8 uw_4_43) rfl (by decide +kernel) rfl ⟨by decide, by decide⟩ (mIn (by decide)) rfl rfl rfl (Nat.le_of_ble_eq_true rfl) (fun τ4 hq4 => ?_)
    subst hq4
    refine g_if_eq 210 dX7_leadsTo_200 (by decide) (fun h200 => ?_) (fun h200 => ?_)
    · skip
      rw [bI_z] at h200
      refine g_iconst (nI (0)) dX7_leadsTo_210 (by decide) ?_
      exact g_iret dX7_leadsTo_211 rfl (⟨by rw [show pAnsH R A s.1 x = 0 by rw [haH]; split <;> (try split) <;> omega], rfl⟩)
    · skip
      rw [bI_z] at h200
      refine g_aload_n dX7_leadsTo_203 rfl ?_
      refine g_get (T := TX7) (N := 26) (Cn := RX7) (ref := "CommitCouncilModel") 1 dX7_leadsTo_204 (mIn (by decide)) rfl rfl (fun w h => List.mem_cons_of_mem _ (hU7 w h)) (by decide) (List.mem_cons_of_mem _ uw_3_124) (Or.inl rfl) rfl ?_
      refine gEx.top (v := .inl (nI (R))) (congrArg Sum.inl (hc.1.1)) ?_
      refine g_goto 211 dX7_leadsTo_207 (by decide) ?_
      exact g_iret dX7_leadsTo_211 rfl (⟨by rw [show pAnsH R A s.1 x = R by rw [haH]; split <;> (try split) <;> omega], rfl⟩)

set_option maxRecDepth 100000 in
/-- leadsTo -/
theorem m_leads2 {R A : Nat} (hRA : pRA R A) {cm : Nat} {s : pT} {σ : gSt} (hc : mRel R A cm s σ) (hb : pBu s.1) {i : Nat} {x : pMsg} (hx : s.2[i]? = some x) (hk : x 0 = 2) (hp : pMk R A x) (hlen : s.2.length ≤ 400) : gEM mG mX7_leadsTo 0 [.inr (0), .inl (nI (i))] σ (gR (nI (pAnsH R A s.1 x)) (fun τ => τ = σ)) := by
  obtain ⟨hR1, hR6, hA35⟩ := hRA
  have hA5 : A ≤ 5 := by omega
  have hi := (List.getElem?_eq_some_iff.mp hx).1
  have hx4 := hp.1
  obtain ⟨hx1, hx41⟩ := hp.2.2.2.1 hk
  have hu : s.1 2 1 (x 1) ≤ 1 := hb 2 _ _ (by decide) (by decide)
  have hup : pUpOf s.1 x = s.1 2 1 (x 1) := by unfold pUpOf; simp [hk]
  have haH : pAnsH R A s.1 x = if s.1 2 1 (x 1) = 0 then 0 else if s.1 5 (x 1) 0 < x 4 then 1 else 0 := by unfold pAnsH; rw [hup, ans2 hk]
  have hb5 : s.1 5 (x 1) 0 ≤ 1536 := hb 5 _ _ (by decide) (by decide)
  refine gEM_of (by decide +kernel) rfl (Nat.le_of_ble_eq_true rfl) ?_
  refine g_aload_n dX7_leadsTo_0 rfl ?_
  refine g_iload_n dX7_leadsTo_1 rfl ?_
  refine g_iconst (nI (1)) dX7_leadsTo_2 (by decide) ?_
  refine g_callVi (_) (n9 := 2) [.inl (nI (i)), .inl (nI (1))] [] (m_of (i := i) (j := 1) (by omega)) dX7_leadsTo_3 (gU_V uw_4_25 uw_4_27 us_1_10 uw_1_8 uw_4_28) rfl (by decide +kernel) rfl ⟨by decide, by decide⟩ (mIn (by decide)) rfl rfl rfl (Nat.le_of_ble_eq_true rfl) (fun τ1 hq1 => ?_)
  subst hq1
  refine gEx.top (v := .inl (nI (x 1))) (congrArg Sum.inl (((hc.2.1 i x hx).1 1 (by decide)).trans (ptN (by rw [hk]; rfl)))) ?_
  refine g_istore_n dX7_leadsTo_6 (by decide) ?_
  refine g_aload_n dX7_leadsTo_7 rfl ?_
  refine g_iload_n dX7_leadsTo_8 rfl ?_
  refine g_iconst (nI (4)) dX7_leadsTo_9 (by decide) ?_
  refine g_callVi (_) (n9 := 2) [.inl (nI (i)), .inl (nI (4))] [] (m_of (i := i) (j := 4) (by omega)) dX7_leadsTo_10 (gU_V uw_4_25 uw_4_27 us_1_10 uw_1_8 uw_4_28) rfl (by decide +kernel) rfl ⟨by decide, by decide⟩ (mIn (by decide)) rfl rfl rfl (Nat.le_of_ble_eq_true rfl) (fun τ1 hq1 => ?_)
  subst hq1
  refine gEx.top (v := .inl (nI (x 4))) (congrArg Sum.inl (((hc.2.1 i x hx).1 4 (by decide)).trans (ptN (by rw [hk]; rfl)))) ?_
  refine g_istore_n dX7_leadsTo_13 (by decide) ?_
  refine g_aload_n dX7_leadsTo_14 rfl ?_
  refine g_iload_n dX7_leadsTo_15 rfl ?_
  refine g_iconst (nI (0)) dX7_leadsTo_16 (by decide) ?_
  refine g_callVi (_) (n9 := 2) [.inl (nI (i)), .inl (nI (0))] [] (m_of (i := i) (j := 0) (by omega)) dX7_leadsTo_17 (gU_V uw_4_25 uw_4_27 us_1_10 uw_1_8 uw_4_28) rfl (by decide +kernel) rfl ⟨by decide, by decide⟩ (mIn (by decide)) rfl rfl rfl (Nat.le_of_ble_eq_true rfl) (fun τ1 hq1 => ?_)
  subst hq1
  refine gEx.top (v := .inl (nI (2))) (congrArg Sum.inl (((hc.2.1 i x hx).1 0 (by decide)).trans ((pt0 x (by omega)).trans (by rw [hk])))) ?_
  refine g_tableIn (off := 67) 87 dX7_leadsTo_20 (by decide) (by decide) (by decide) (by decide) ?_
  refine g_aload_n dX7_leadsTo_87 rfl ?_
  refine g_getr (T := TX7) (N := 26) (Cn := RX7) (ref := "CommitCouncilModel") 10 dX7_leadsTo_88 (mIn (by decide)) rfl rfl (fun w h => List.mem_cons_of_mem _ (hU7 w h)) (by decide) (List.mem_cons_of_mem _ uw_3_133) (Or.inl rfl) rfl ?_
  refine g_iconst (nI (1)) dX7_leadsTo_91 (by decide) ?_
  have hx1 : 1 < 3 := by omega
  refine g_aald5N (n := 3) (j := 1) dX7_leadsTo_92 (mIn (by decide)) rfl hx1 (by omega) ?_
  refine g_iload_n dX7_leadsTo_93 rfl ?_
  refine g_zaldN (n := 6) (j := x 1) dX7_leadsTo_94 (mIn (by omega)) (mSh_u hx1) (by omega) (by omega) ?_
  refine gEx.top (v := .inl (nI (s.1 2 1 (x 1)))) (congrArg Sum.inl (mR_u1 hc (by omega))) ?_
  refine g_if_eq 112 dX7_leadsTo_95 (by decide) (fun h95 => ?_) (fun h95 => ?_)
  · skip
    rw [nI_z (by omega)] at h95
    refine g_iconst (nI (0)) dX7_leadsTo_112 (by decide) ?_
    exact g_iret dX7_leadsTo_113 rfl (⟨by rw [show pAnsH R A s.1 x = 0 by rw [haH]; split <;> (try split) <;> omega], rfl⟩)
  · skip
    rw [nI_z (by omega)] at h95
    refine g_iload_n dX7_leadsTo_98 rfl ?_
    refine g_aload_n dX7_leadsTo_99 rfl ?_
    refine g_getr (T := TX7) (N := 26) (Cn := RX7) (ref := "CommitCouncilModel") 11 dX7_leadsTo_100 (mIn (by decide)) rfl rfl (fun w h => List.mem_cons_of_mem _ (hU7 w h)) (by decide) (List.mem_cons_of_mem _ uw_3_134) (Or.inl rfl) rfl ?_
    refine g_iload_n dX7_leadsTo_103 rfl ?_
    refine g_ialdN (n := 5) (j := x 1) dX7_leadsTo_104 (mIn (by decide)) rfl (by omega) (by omega) ?_
    refine gEx.top (v := .inl (nI (s.1 5 (x 1) 0))) (congrArg Sum.inl (mR_pro hc (by omega))) ?_
    refine g_icmp_le 112 dX7_leadsTo_105 (by decide) (fun h105 => ?_) (fun h105 => ?_)
    · skip
      rw [nI_leI (by omega) (by omega)] at h105
      refine g_iconst (nI (0)) dX7_leadsTo_112 (by decide) ?_
      exact g_iret dX7_leadsTo_113 rfl (⟨by rw [show pAnsH R A s.1 x = 0 by rw [haH]; split <;> (try split) <;> omega], rfl⟩)
    · skip
      rw [nI_leI (by omega) (by omega)] at h105
      refine g_iconst (nI (1)) dX7_leadsTo_108 (by decide) ?_
      refine g_goto 113 dX7_leadsTo_109 (by decide) ?_
      exact g_iret dX7_leadsTo_113 rfl (⟨by rw [show pAnsH R A s.1 x = 1 by rw [haH]; split <;> (try split) <;> omega], rfl⟩)

set_option maxRecDepth 100000 in
/-- leadsTo -/
theorem m_leads3 {R A : Nat} (hRA : pRA R A) {cm : Nat} {s : pT} {σ : gSt} (hc : mRel R A cm s σ) (hb : pBu s.1) {i : Nat} {x : pMsg} (hx : s.2[i]? = some x) (hk : x 0 = 3) (hp : pMk R A x) (hlen : s.2.length ≤ 400) (hgo : pGo3 R A s.1 x) : gEM mG mX7_leadsTo 0 [.inr (0), .inl (nI (i))] σ (gR (nI (pAnsH R A s.1 x)) (fun τ => τ = σ)) := by
  obtain ⟨hR1, hR6, hA35⟩ := hRA
  have hA5 : A ≤ 5 := by omega
  have hi := (List.getElem?_eq_some_iff.mp hx).1
  have hx4 := hp.1
  obtain ⟨hx1, hx2, hx41, hxt⟩ := hp.2.2.2.2.1 hk
  have hu : s.1 2 2 (x 1) ≤ 1 := hb 2 _ _ (by decide) (by decide)
  have hup : pUpOf s.1 x = s.1 2 2 (x 1) := by unfold pUpOf; simp [hk]
  have haH : pAnsH R A s.1 x = if s.1 2 2 (x 1) = 0 then 0 else if (s.1 8 (x 1) 0 = 1 ∧ x 4 = s.1 7 (x 1) 0 ∧ s.1 11 (x 1) (x 2) = 0) ∧ A < (psum (s.1 11 (x 1)) 5 + 1) * 2 then R * A else 0 := by unfold pAnsH; rw [hup, ans3 hk]
  have h11 : ∀ a, s.1 11 (x 1) a ≤ 1 := fun a => hb 11 (x 1) a (by decide) (by decide)
  have h11p : ∀ a, pu s.1 11 (x 1) (x 2) 1 11 (x 1) a ≤ 1 := fun a => by unfold pu; split; exact Nat.le_refl 1; exact h11 a
  have hmk := msk_lt h11p
  have hpl := psum_le h11p 5
  have hb8 : s.1 8 (x 1) 0 ≤ 2 := hb 8 _ _ (by decide) (by decide)
  have hb7 : s.1 7 (x 1) 0 ≤ 1536 := hb 7 _ _ (by decide) (by decide)
  have hra := raB hR6 hA5
  have g1 := hgo.1
  have hps : (s.1 11 (x 1) (x 2) = 0 ∧ psum (pu s.1 11 (x 1) (x 2) 1 11 (x 1)) 5 = psum (s.1 11 (x 1)) 5 + 1) ∨ (s.1 11 (x 1) (x 2) ≠ 0 ∧ psum (pu s.1 11 (x 1) (x 2) 1 11 (x 1)) 5 = psum (s.1 11 (x 1)) 5) := by
    by_cases h0 : s.1 11 (x 1) (x 2) = 0
    · left; refine ⟨h0, ?_⟩; rw [psum_set (f := s.1 11 (x 1)) (a := x 2) (fun c => by unfold pu; by_cases q : c = x 2 <;> simp [q]) h0 5, if_pos (by omega)]
    · right; refine ⟨h0, ?_⟩; rw [pu_same (show s.1 11 (x 1) (x 2) = 1 by have := h11 (x 2); omega)]
  refine gEM_of (by decide +kernel) rfl (Nat.le_of_ble_eq_true rfl) ?_
  refine g_aload_n dX7_leadsTo_0 rfl ?_
  refine g_iload_n dX7_leadsTo_1 rfl ?_
  refine g_iconst (nI (1)) dX7_leadsTo_2 (by decide) ?_
  refine g_callVi (_) (n9 := 2) [.inl (nI (i)), .inl (nI (1))] [] (m_of (i := i) (j := 1) (by omega)) dX7_leadsTo_3 (gU_V uw_4_25 uw_4_27 us_1_10 uw_1_8 uw_4_28) rfl (by decide +kernel) rfl ⟨by decide, by decide⟩ (mIn (by decide)) rfl rfl rfl (Nat.le_of_ble_eq_true rfl) (fun τ1 hq1 => ?_)
  subst hq1
  refine gEx.top (v := .inl (nI (x 1))) (congrArg Sum.inl (((hc.2.1 i x hx).1 1 (by decide)).trans (ptN (by rw [hk]; rfl)))) ?_
  refine g_istore_n dX7_leadsTo_6 (by decide) ?_
  refine g_aload_n dX7_leadsTo_7 rfl ?_
  refine g_iload_n dX7_leadsTo_8 rfl ?_
  refine g_iconst (nI (4)) dX7_leadsTo_9 (by decide) ?_
  refine g_callVi (_) (n9 := 2) [.inl (nI (i)), .inl (nI (4))] [] (m_of (i := i) (j := 4) (by omega)) dX7_leadsTo_10 (gU_V uw_4_25 uw_4_27 us_1_10 uw_1_8 uw_4_28) rfl (by decide +kernel) rfl ⟨by decide, by decide⟩ (mIn (by decide)) rfl rfl rfl (Nat.le_of_ble_eq_true rfl) (fun τ1 hq1 => ?_)
  subst hq1
  refine gEx.top (v := .inl (nI (x 4))) (congrArg Sum.inl (((hc.2.1 i x hx).1 4 (by decide)).trans (ptN (by rw [hk]; rfl)))) ?_
  refine g_istore_n dX7_leadsTo_13 (by decide) ?_
  refine g_aload_n dX7_leadsTo_14 rfl ?_
  refine g_iload_n dX7_leadsTo_15 rfl ?_
  refine g_iconst (nI (0)) dX7_leadsTo_16 (by decide) ?_
  refine g_callVi (_) (n9 := 2) [.inl (nI (i)), .inl (nI (0))] [] (m_of (i := i) (j := 0) (by omega)) dX7_leadsTo_17 (gU_V uw_4_25 uw_4_27 us_1_10 uw_1_8 uw_4_28) rfl (by decide +kernel) rfl ⟨by decide, by decide⟩ (mIn (by decide)) rfl rfl rfl (Nat.le_of_ble_eq_true rfl) (fun τ1 hq1 => ?_)
  subst hq1
  refine gEx.top (v := .inl (nI (3))) (congrArg Sum.inl (((hc.2.1 i x hx).1 0 (by decide)).trans ((pt0 x (by omega)).trans (by rw [hk])))) ?_
  refine g_tableIn (off := 94) 114 dX7_leadsTo_20 (by decide) (by decide) (by decide) (by decide) ?_
  refine g_aload_n dX7_leadsTo_114 rfl ?_
  refine g_getr (T := TX7) (N := 26) (Cn := RX7) (ref := "CommitCouncilModel") 10 dX7_leadsTo_115 (mIn (by decide)) rfl rfl (fun w h => List.mem_cons_of_mem _ (hU7 w h)) (by decide) (List.mem_cons_of_mem _ uw_3_133) (Or.inl rfl) rfl ?_
  refine g_iconst (nI (2)) dX7_leadsTo_118 (by decide) ?_
  have hx1 : 2 < 3 := by omega
  refine g_aald5N (n := 3) (j := 2) dX7_leadsTo_119 (mIn (by decide)) rfl hx1 (by omega) ?_
  refine g_iload_n dX7_leadsTo_120 rfl ?_
  refine g_zaldN (n := 6) (j := x 1) dX7_leadsTo_121 (mIn (by omega)) (mSh_u hx1) (by omega) (by omega) ?_
  refine gEx.top (v := .inl (nI (s.1 2 2 (x 1)))) (congrArg Sum.inl (mR_u2 hc (by omega))) ?_
  refine g_if_eq 182 dX7_leadsTo_122 (by decide) (fun h122 => ?_) (fun h122 => ?_)
  · skip
    rw [nI_z (by omega)] at h122
    refine g_iconst (nI (0)) dX7_leadsTo_182 (by decide) ?_
    exact g_iret dX7_leadsTo_183 rfl (⟨by rw [show pAnsH R A s.1 x = 0 by rw [haH]; split <;> (try split) <;> omega], rfl⟩)
  · skip
    rw [nI_z (by omega)] at h122
    refine g_aload_n dX7_leadsTo_125 rfl ?_
    refine g_getr (T := TX7) (N := 26) (Cn := RX7) (ref := "CommitCouncilModel") 17 dX7_leadsTo_126 (mIn (by decide)) rfl rfl (fun w h => List.mem_cons_of_mem _ (hU7 w h)) (by decide) (List.mem_cons_of_mem _ uw_3_140) (Or.inl rfl) rfl ?_
    refine g_iload_n dX7_leadsTo_129 rfl ?_
    refine g_ialdN (n := 3) (j := x 1) dX7_leadsTo_130 (mIn (by decide)) rfl (by omega) (by omega) ?_
    refine gEx.top (v := .inl (nI (s.1 8 (x 1) 0))) (congrArg Sum.inl (mR_pha hc (by omega))) ?_
    refine g_iconst (nI (1)) dX7_leadsTo_131 (by decide) ?_
    refine g_icmp_ne 182 dX7_leadsTo_132 (by decide) (fun h132 => ?_) (fun h132 => ?_)
    · skip
      rw [nI_eq (by omega) (by omega)] at h132
      refine g_iconst (nI (0)) dX7_leadsTo_182 (by decide) ?_
      exact g_iret dX7_leadsTo_183 rfl (⟨by rw [show pAnsH R A s.1 x = 0 by rw [haH]; split <;> (try split) <;> omega], rfl⟩)
    · skip
      rw [nI_eq (by omega) (by omega)] at h132
      refine g_iload_n dX7_leadsTo_135 rfl ?_
      refine g_aload_n dX7_leadsTo_136 rfl ?_
      refine g_getr (T := TX7) (N := 26) (Cn := RX7) (ref := "CommitCouncilModel") 16 dX7_leadsTo_137 (mIn (by decide)) rfl rfl (fun w h => List.mem_cons_of_mem _ (hU7 w h)) (by decide) (List.mem_cons_of_mem _ uw_3_139) (Or.inl rfl) rfl ?_
      refine g_iload_n dX7_leadsTo_140 rfl ?_
      refine g_ialdN (n := 3) (j := x 1) dX7_leadsTo_141 (mIn (by decide)) rfl (by omega) (by omega) ?_
      refine gEx.top (v := .inl (nI (s.1 7 (x 1) 0))) (congrArg Sum.inl (mR_bal hc (by omega))) ?_
      refine g_icmp_ne 182 dX7_leadsTo_142 (by decide) (fun h142 => ?_) (fun h142 => ?_)
      · skip
        rw [nI_eq (by omega) (by omega)] at h142
        refine g_iconst (nI (0)) dX7_leadsTo_182 (by decide) ?_
        exact g_iret dX7_leadsTo_183 rfl (⟨by rw [show pAnsH R A s.1 x = 0 by rw [haH]; split <;> (try split) <;> omega], rfl⟩)
      · skip
        rw [nI_eq (by omega) (by omega)] at h142
        refine g_aload_n dX7_leadsTo_145 rfl ?_
        refine g_aload_n dX7_leadsTo_146 rfl ?_
        refine g_getr (T := TX7) (N := 26) (Cn := RX7) (ref := "CommitCouncilModel") 20 dX7_leadsTo_147 (mIn (by decide)) rfl rfl (fun w h => List.mem_cons_of_mem _ (hU7 w h)) (by decide) (List.mem_cons_of_mem _ uw_3_143) (Or.inl rfl) rfl ?_
        refine g_iload_n dX7_leadsTo_150 rfl ?_
        refine g_ialdN (n := 3) (j := x 1) dX7_leadsTo_151 (mIn (by decide)) rfl (by omega) (by omega) ?_
        refine gEx.top (v := .inl (nI (msk (s.1 11 (x 1))))) (congrArg Sum.inl (mR_tol hc (by omega))) ?_
        refine g_iconst (nI (1)) dX7_leadsTo_152 (by decide) ?_
        refine g_aload_n dX7_leadsTo_153 rfl ?_
        refine g_iload_n dX7_leadsTo_154 rfl ?_
        refine g_iconst (nI (2)) dX7_leadsTo_155 (by decide) ?_
        refine g_callVi (_) (n9 := 2) [.inl (nI (i)), .inl (nI (2))] [.inl (nI (1)), .inl (nI (msk (s.1 11 (x 1)))), .inr (0)] (m_of (i := i) (j := 2) (by omega)) dX7_leadsTo_156 (gU_V uw_4_25 uw_4_27 us_1_10 uw_1_8 uw_4_28) rfl (by decide +kernel) rfl ⟨by decide, by decide⟩ (mIn (by decide)) rfl rfl rfl (Nat.le_of_ble_eq_true rfl) (fun τ1 hq1 => ?_)
        subst hq1
        refine gEx.top (v := .inl (nI (x 2))) (congrArg Sum.inl (((hc.2.1 i x hx).1 2 (by decide)).trans (ptN (by rw [hk]; rfl)))) ?_
        refine g_ishl dX7_leadsTo_159 ?_
        refine g_ior dX7_leadsTo_160 ?_
        refine gEx.top (v := .inl (nI (msk (pu s.1 11 (x 1) (x 2) 1 11 (x 1))))) (congrArg Sum.inl (msk_or h11 (by omega) (fun c _ => by unfold pu; by_cases q : c = x 2 <;> simp [q]))) ?_
        refine g_callSi (_) (n9 := 1) [.inl (nI (msk (pu s.1 11 (x 1) (x 2) 1 11 (x 1))))] [.inr (0)] (m_bits (by omega)) dX7_leadsTo_161 (gU_S uw_4_33 uw_4_34 uw_1_8 uw_4_35) rfl (by decide +kernel) rfl ⟨by decide, by decide⟩ rfl (Nat.le_of_ble_eq_true rfl) (fun τ3 hq3 => ?_)
        subst hq3
        refine gEx.top (v := .inl (nI (psum (pu s.1 11 (x 1) (x 2) 1 11 (x 1)) 5))) (congrArg Sum.inl (congrArg nI (bits_msk h11p))) ?_
        refine g_callVi (bI (A < 2 * psum (pu s.1 11 (x 1) (x 2) 1 11 (x 1)) 5)) (n9 := 1) [.inl (nI (psum (pu s.1 11 (x 1) (x 2) 1 11 (x 1)) 5))] [] (m_most hc.1.2.1 hA5 (by omega)) dX7_leadsTo_164 (gU_V uw_4_36 uw_4_38 us_1_12 uw_1_8 uw_4_39) rfl (by decide +kernel) rfl ⟨by decide, by decide⟩ (mIn (by decide)) rfl rfl rfl (Nat.le_of_ble_eq_true rfl) (fun τ4 hq4 => ?_)
        subst hq4
        refine g_if_eq 182 dX7_leadsTo_167 (by decide) (fun h167 => ?_) (fun h167 => ?_)
        · skip
          rw [bI_z] at h167
          refine g_iconst (nI (0)) dX7_leadsTo_182 (by decide) ?_
          exact g_iret dX7_leadsTo_183 rfl (⟨by rw [show pAnsH R A s.1 x = 0 by rw [haH]; split <;> (try split) <;> omega], rfl⟩)
        · skip
          rw [bI_z] at h167
          refine g_aload_n dX7_leadsTo_170 rfl ?_
          refine g_get (T := TX7) (N := 26) (Cn := RX7) (ref := "CommitCouncilModel") 1 dX7_leadsTo_171 (mIn (by decide)) rfl rfl (fun w h => List.mem_cons_of_mem _ (hU7 w h)) (by decide) (List.mem_cons_of_mem _ uw_3_124) (Or.inl rfl) rfl ?_
          refine gEx.top (v := .inl (nI (R))) (congrArg Sum.inl (hc.1.1)) ?_
          refine g_aload_n dX7_leadsTo_174 rfl ?_
          refine g_get (T := TX7) (N := 26) (Cn := RX7) (ref := "CommitCouncilModel") 2 dX7_leadsTo_175 (mIn (by decide)) rfl rfl (fun w h => List.mem_cons_of_mem _ (hU7 w h)) (by decide) (List.mem_cons_of_mem _ uw_3_125) (Or.inl rfl) rfl ?_
          refine gEx.top (v := .inl (nI (A))) (congrArg Sum.inl (hc.1.2.1)) ?_
          refine g_imul dX7_leadsTo_178 ?_
          refine gEx.top (v := .inl (nI ((R) * (A)))) (congrArg Sum.inl (pk_mul _ _)) ?_
          refine g_goto 183 dX7_leadsTo_179 (by decide) ?_
          exact g_iret dX7_leadsTo_183 rfl (⟨by rw [show pAnsH R A s.1 x = (R) * (A) by rw [haH]; split <;> (try split) <;> omega], rfl⟩)

set_option maxRecDepth 100000 in
/-- leadsTo -/
theorem m_leads4 {R A : Nat} (hRA : pRA R A) {cm : Nat} {s : pT} {σ : gSt} (hc : mRel R A cm s σ) (hb : pBu s.1) {i : Nat} {x : pMsg} (hx : s.2[i]? = some x) (hk : x 0 = 4) (hp : pMk R A x) (hlen : s.2.length ≤ 400) : gEM mG mX7_leadsTo 0 [.inr (0), .inl (nI (i))] σ (gR (nI (pAnsH R A s.1 x)) (fun τ => τ = σ)) := by
  obtain ⟨hR1, hR6, hA35⟩ := hRA
  have hA5 : A ≤ 5 := by omega
  have hi := (List.getElem?_eq_some_iff.mp hx).1
  have hx4 := hp.1
  obtain ⟨hx1, hx5⟩ := hp.2.2.2.2.2.1 hk
  have hu : s.1 2 0 (x 1) ≤ 1 := hb 2 _ _ (by decide) (by decide)
  have hup : pUpOf s.1 x = s.1 2 0 (x 1) := by unfold pUpOf; simp [hk]
  have haH : pAnsH R A s.1 x = if s.1 2 0 (x 1) = 0 then 0 else 0 := by unfold pAnsH; rw [hup, ans4 hk]
  refine gEM_of (by decide +kernel) rfl (Nat.le_of_ble_eq_true rfl) ?_
  refine g_aload_n dX7_leadsTo_0 rfl ?_
  refine g_iload_n dX7_leadsTo_1 rfl ?_
  refine g_iconst (nI (1)) dX7_leadsTo_2 (by decide) ?_
  refine g_callVi (_) (n9 := 2) [.inl (nI (i)), .inl (nI (1))] [] (m_of (i := i) (j := 1) (by omega)) dX7_leadsTo_3 (gU_V uw_4_25 uw_4_27 us_1_10 uw_1_8 uw_4_28) rfl (by decide +kernel) rfl ⟨by decide, by decide⟩ (mIn (by decide)) rfl rfl rfl (Nat.le_of_ble_eq_true rfl) (fun τ1 hq1 => ?_)
  subst hq1
  refine gEx.top (v := .inl (nI (x 1))) (congrArg Sum.inl (((hc.2.1 i x hx).1 1 (by decide)).trans (ptN (by rw [hk]; rfl)))) ?_
  refine g_istore_n dX7_leadsTo_6 (by decide) ?_
  refine g_aload_n dX7_leadsTo_7 rfl ?_
  refine g_iload_n dX7_leadsTo_8 rfl ?_
  refine g_iconst (nI (4)) dX7_leadsTo_9 (by decide) ?_
  refine g_callVi (_) (n9 := 2) [.inl (nI (i)), .inl (nI (4))] [] (m_of (i := i) (j := 4) (by omega)) dX7_leadsTo_10 (gU_V uw_4_25 uw_4_27 us_1_10 uw_1_8 uw_4_28) rfl (by decide +kernel) rfl ⟨by decide, by decide⟩ (mIn (by decide)) rfl rfl rfl (Nat.le_of_ble_eq_true rfl) (fun τ1 hq1 => ?_)
  subst hq1
  refine gEx.top (v := .inl (-1)) (congrArg Sum.inl (((hc.2.1 i x hx).1 4 (by decide)).trans (ptM (by rw [hk]; rfl)))) ?_
  refine g_istore_n dX7_leadsTo_13 (by decide) ?_
  refine g_aload_n dX7_leadsTo_14 rfl ?_
  refine g_iload_n dX7_leadsTo_15 rfl ?_
  refine g_iconst (nI (0)) dX7_leadsTo_16 (by decide) ?_
  refine g_callVi (_) (n9 := 2) [.inl (nI (i)), .inl (nI (0))] [] (m_of (i := i) (j := 0) (by omega)) dX7_leadsTo_17 (gU_V uw_4_25 uw_4_27 us_1_10 uw_1_8 uw_4_28) rfl (by decide +kernel) rfl ⟨by decide, by decide⟩ (mIn (by decide)) rfl rfl rfl (Nat.le_of_ble_eq_true rfl) (fun τ1 hq1 => ?_)
  subst hq1
  refine gEx.top (v := .inl (nI (4))) (congrArg Sum.inl (((hc.2.1 i x hx).1 0 (by decide)).trans ((pt0 x (by omega)).trans (by rw [hk])))) ?_
  refine g_tableIn (off := 218) 238 dX7_leadsTo_20 (by decide) (by decide) (by decide) (by decide) ?_
  refine g_iconst (nI (0)) dX7_leadsTo_238 (by decide) ?_
  exact g_iret dX7_leadsTo_239 rfl (⟨by rw [show pAnsH R A s.1 x = 0 by rw [haH]; split <;> (try split) <;> omega], rfl⟩)

set_option maxRecDepth 100000 in
/-- leadsTo -/
theorem m_leads5 {R A : Nat} (hRA : pRA R A) {cm : Nat} {s : pT} {σ : gSt} (hc : mRel R A cm s σ) (hb : pBu s.1) {i : Nat} {x : pMsg} (hx : s.2[i]? = some x) (hk : x 0 = 5) (hp : pMk R A x) (hlen : s.2.length ≤ 400) : gEM mG mX7_leadsTo 0 [.inr (0), .inl (nI (i))] σ (gR (nI (pAnsH R A s.1 x)) (fun τ => τ = σ)) := by
  obtain ⟨hR1, hR6, hA35⟩ := hRA
  have hA5 : A ≤ 5 := by omega
  have hi := (List.getElem?_eq_some_iff.mp hx).1
  have hx4 := hp.1
  obtain ⟨hx1, hx2⟩ := hp.2.2.2.2.2.2.1 hk
  have hu : s.1 2 2 (x 1) ≤ 1 := hb 2 _ _ (by decide) (by decide)
  have hup : pUpOf s.1 x = s.1 2 2 (x 1) := by unfold pUpOf; simp [hk]
  have haH : pAnsH R A s.1 x = if s.1 2 2 (x 1) = 0 then 0 else if s.1 10 (x 1) 0 = 0 then 0 else 1 := by unfold pAnsH; rw [hup, ans5 hk]
  have hb10 : s.1 10 (x 1) 0 ≤ 2 := hb 10 _ _ (by decide) (by decide)
  refine gEM_of (by decide +kernel) rfl (Nat.le_of_ble_eq_true rfl) ?_
  refine g_aload_n dX7_leadsTo_0 rfl ?_
  refine g_iload_n dX7_leadsTo_1 rfl ?_
  refine g_iconst (nI (1)) dX7_leadsTo_2 (by decide) ?_
  refine g_callVi (_) (n9 := 2) [.inl (nI (i)), .inl (nI (1))] [] (m_of (i := i) (j := 1) (by omega)) dX7_leadsTo_3 (gU_V uw_4_25 uw_4_27 us_1_10 uw_1_8 uw_4_28) rfl (by decide +kernel) rfl ⟨by decide, by decide⟩ (mIn (by decide)) rfl rfl rfl (Nat.le_of_ble_eq_true rfl) (fun τ1 hq1 => ?_)
  subst hq1
  refine gEx.top (v := .inl (nI (x 1))) (congrArg Sum.inl (((hc.2.1 i x hx).1 1 (by decide)).trans (ptN (by rw [hk]; rfl)))) ?_
  refine g_istore_n dX7_leadsTo_6 (by decide) ?_
  refine g_aload_n dX7_leadsTo_7 rfl ?_
  refine g_iload_n dX7_leadsTo_8 rfl ?_
  refine g_iconst (nI (4)) dX7_leadsTo_9 (by decide) ?_
  refine g_callVi (_) (n9 := 2) [.inl (nI (i)), .inl (nI (4))] [] (m_of (i := i) (j := 4) (by omega)) dX7_leadsTo_10 (gU_V uw_4_25 uw_4_27 us_1_10 uw_1_8 uw_4_28) rfl (by decide +kernel) rfl ⟨by decide, by decide⟩ (mIn (by decide)) rfl rfl rfl (Nat.le_of_ble_eq_true rfl) (fun τ1 hq1 => ?_)
  subst hq1
  refine gEx.top (v := .inl (-1)) (congrArg Sum.inl (((hc.2.1 i x hx).1 4 (by decide)).trans (ptM (by rw [hk]; rfl)))) ?_
  refine g_istore_n dX7_leadsTo_13 (by decide) ?_
  refine g_aload_n dX7_leadsTo_14 rfl ?_
  refine g_iload_n dX7_leadsTo_15 rfl ?_
  refine g_iconst (nI (0)) dX7_leadsTo_16 (by decide) ?_
  refine g_callVi (_) (n9 := 2) [.inl (nI (i)), .inl (nI (0))] [] (m_of (i := i) (j := 0) (by omega)) dX7_leadsTo_17 (gU_V uw_4_25 uw_4_27 us_1_10 uw_1_8 uw_4_28) rfl (by decide +kernel) rfl ⟨by decide, by decide⟩ (mIn (by decide)) rfl rfl rfl (Nat.le_of_ble_eq_true rfl) (fun τ1 hq1 => ?_)
  subst hq1
  refine gEx.top (v := .inl (nI (5))) (congrArg Sum.inl (((hc.2.1 i x hx).1 0 (by decide)).trans ((pt0 x (by omega)).trans (by rw [hk])))) ?_
  refine g_tableIn (off := 192) 212 dX7_leadsTo_20 (by decide) (by decide) (by decide) (by decide) ?_
  refine g_aload_n dX7_leadsTo_212 rfl ?_
  refine g_getr (T := TX7) (N := 26) (Cn := RX7) (ref := "CommitCouncilModel") 10 dX7_leadsTo_213 (mIn (by decide)) rfl rfl (fun w h => List.mem_cons_of_mem _ (hU7 w h)) (by decide) (List.mem_cons_of_mem _ uw_3_133) (Or.inl rfl) rfl ?_
  refine g_iconst (nI (2)) dX7_leadsTo_216 (by decide) ?_
  have hx1 : 2 < 3 := by omega
  refine g_aald5N (n := 3) (j := 2) dX7_leadsTo_217 (mIn (by decide)) rfl hx1 (by omega) ?_
  refine g_iload_n dX7_leadsTo_218 rfl ?_
  refine g_zaldN (n := 6) (j := x 1) dX7_leadsTo_219 (mIn (by omega)) (mSh_u hx1) (by omega) (by omega) ?_
  refine gEx.top (v := .inl (nI (s.1 2 2 (x 1)))) (congrArg Sum.inl (mR_u2 hc (by omega))) ?_
  refine g_if_eq 236 dX7_leadsTo_220 (by decide) (fun h220 => ?_) (fun h220 => ?_)
  · skip
    rw [nI_z (by omega)] at h220
    refine g_iconst (nI (0)) dX7_leadsTo_236 (by decide) ?_
    exact g_iret dX7_leadsTo_237 rfl (⟨by rw [show pAnsH R A s.1 x = 0 by rw [haH]; split <;> (try split) <;> omega], rfl⟩)
  · skip
    rw [nI_z (by omega)] at h220
    refine g_aload_n dX7_leadsTo_223 rfl ?_
    refine g_getr (T := TX7) (N := 26) (Cn := RX7) (ref := "CommitCouncilModel") 19 dX7_leadsTo_224 (mIn (by decide)) rfl rfl (fun w h => List.mem_cons_of_mem _ (hU7 w h)) (by decide) (List.mem_cons_of_mem _ uw_3_142) (Or.inl rfl) rfl ?_
    refine g_iload_n dX7_leadsTo_227 rfl ?_
    refine g_ialdN (n := 3) (j := x 1) dX7_leadsTo_228 (mIn (by decide)) rfl (by omega) (by omega) ?_
    refine gEx.top (v := .inl (nI (s.1 10 (x 1) 0))) (congrArg Sum.inl (mR_dec hc (by omega))) ?_
    refine g_if_le 236 dX7_leadsTo_229 (by decide) (fun h229 => ?_) (fun h229 => ?_)
    · skip
      rw [nI_np (by omega)] at h229
      refine g_iconst (nI (0)) dX7_leadsTo_236 (by decide) ?_
      exact g_iret dX7_leadsTo_237 rfl (⟨by rw [show pAnsH R A s.1 x = 0 by rw [haH]; split <;> (try split) <;> omega], rfl⟩)
    · skip
      rw [nI_np (by omega)] at h229
      refine g_iconst (nI (1)) dX7_leadsTo_232 (by decide) ?_
      refine g_goto 237 dX7_leadsTo_233 (by decide) ?_
      exact g_iret dX7_leadsTo_237 rfl (⟨by rw [show pAnsH R A s.1 x = 1 by rw [haH]; split <;> (try split) <;> omega], rfl⟩)

def mdM (σ : gSt) (i k : Nat) : gSt := gur σ 2 (fun p => if p < k then σ 1 (18 * i + p) else σ 2 p)
theorem mdM_0 (σ : gSt) (i : Nat) : mdM σ i 0 = σ := by
  funext a p
  unfold mdM gur
  by_cases h : a = 2
  · subst h
    rw [if_pos rfl, if_neg (by omega)]
  · rw [if_neg h]
theorem mdM_s (σ : gSt) (i k : Nat) : gup (mdM σ i k) 2 k (σ 1 (18 * i + k)) = mdM σ i (k + 1) := by
  funext a p
  unfold mdM gur gup
  by_cases h : a = 2
  · subst h
    by_cases h2 : p = k
    · subst h2
      rw [if_pos ⟨rfl, rfl⟩, if_pos rfl, if_pos (by omega)]
    · rw [if_neg (fun q => h2 q.2), if_pos rfl]
      show (if p < k then _ else σ 2 p) = _
      by_cases h3 : p < k
      · rw [if_pos h3, if_pos (by omega)]
      · rw [if_neg h3, if_neg (by omega)]
  · rw [if_neg (fun q => h q.1), if_neg h]
    exact congrFun (if_neg h) p
theorem mdM_ne (σ : gSt) {i k a : Nat} (h : a ≠ 2) : mdM σ i k a = σ a := gur_ne σ _ h
theorem mRel_md {R A cm : Nat} {s : pT} {σ : gSt} (h : mRel R A cm s σ) (i k : Nat) : mRel R A cm s (mdM σ i k) :=
  mRel_to (β := s.1) (ms := s.2) h [] [] (by decide) (fun c _ _ h3 => mdM_ne _ (by omega)) (fun _ _ => rfl) (mO_kept h.1 (fun j _ => by rw [mdM_ne _ (by decide)]) rfl rfl) (mMs_kept h.2.1 (mdM_ne _ (by decide))) (fun c hc => absurd hc List.not_mem_nil)
theorem mOne_md {R A cm : Nat} {s : pT} {σ : gSt} (h : mRel R A cm s σ) (hR : R ≤ 6) {i : Nat} {x : pMsg} (hx : s.2[i]? = some x) : mOne R (mdM σ i 18 2) 0 x :=
  mOne_mv (h.2.1 i x hx) hR (fun k hk => by
    unfold mdM
    rw [gur_self, if_pos (by omega), Nat.zero_add])
theorem mRel_came {R A cm : Nat} {s : pT} {σ : gSt} (h : mRel R A cm s σ) (v : Nat) : mRel R A v s (gup σ 0 7 (nI v)) :=
  mRel_to (β := s.1) (ms := s.2) h [] [] (by decide) (fun c _ _ h3 => gup_ne _ _ (by omega)) (fun _ _ => rfl) (by
    obtain ⟨q1, q2, q3, q4, q5, q6⟩ := h.1
    exact ⟨q1, q2, q3, q4, rfl, q6⟩) (mMs_kept h.2.1 (gup_ne _ _ (by decide))) (fun c hc => absurd hc List.not_mem_nil)
theorem mRel_c1 {R A cm : Nat} {β γ : pS} {ms : List pMsg} {σ : gSt} (h : mRel R A cm (β, ms) σ) (h1 : ∀ c, c ≠ 1 → γ c = β c) (h0 : γ 1 0 0 = β 1 0 0) (h2 : γ 1 2 0 = β 1 2 0) : mRel R A cm (γ, ms) σ :=
  mRel_to h [] [1] (by decide) (fun _ _ _ _ => rfl) (fun d hd => h1 d (fun q => hd (by rw [q]; decide))) (mO_kept h.1 (fun _ _ => rfl) h0 h2) h.2.1 (fun c hc => absurd hc List.not_mem_nil)
theorem mRel_brg {R A cm i : Nat} {s : pT} {x : pMsg} {τ : gSt} (hu : pUpOf s.1 x ≠ 0) (h : mRel R A cm (pTk R A x (s.1, s.2.eraseIdx i)) τ) : mRel R A cm (tBrg R A i x s) τ := by
  have e : tBrg R A i x s = (pu (pTk R A x (s.1, s.2.eraseIdx i)).1 1 1 0 ((pTake R A s.1 x).1 1 1 0 + 1), s.2.eraseIdx i ++ (pTake R A s.1 x).2) := by
    unfold tBrg pTk
    dsimp only
    rw [if_neg hu]
  rw [e]
  exact mRel_c1 h (fun c hc => pu_c _ hc) rfl rfl
theorem mRel_brgD {R A cm i : Nat} {s : pT} {x : pMsg} {τ : gSt} (hu : pUpOf s.1 x = 0) (h : mRel R A cm (s.1, s.2.eraseIdx i) τ) : mRel R A cm (tBrg R A i x s) τ := by
  rw [tBrg_down hu]
  exact mRel_c1 h (fun c hc => pu_c _ hc) rfl rfl
theorem mRel_how {R A cm : Nat} {s : pT} {σ : gSt} (h : mRel R A cm s σ) {m b : Nat} : mRel R A cm (pu s.1 3 m 0 b, s.2) (gup σ 3 m (nI b)) := by
  refine mRel_to h [3] [3] (by decide) (fun c _ hc _ => gup_ne _ _ (fun q => hc (by rw [q]; decide))) (fun d hd => pu_c _ (fun q => hd (by rw [q]; decide))) (mO_kept h.1 (fun j _ => by rw [gup_ne _ _ (by decide)]) rfl rfl) (mMs_kept h.2.1 (gup_ne _ _ (by decide))) (fun c hc => ?_)
  simp only [List.mem_cons, List.not_mem_nil, or_false] at hc
  subst hc
  intro k hk
  have q := mR_how h hk
  by_cases e : k = m
  · subst e; simp [gup, pu]
  · simp [gup, pu, e, q]

set_option maxRecDepth 100000 in
theorem m_md_l {R A cm : Nat} {s : pT} {σ : gSt} (hc : mRel R A cm s σ) {i : Nat} (hi : i < 400) {y1 y2 : Int32} {Q : gOut → gSt → Prop} (hq : gEx mG mX7_comes 0 92 [some (.inr 0), some (.inl (nI i)), some (.inl y1), some (.inl y2), some (.inl (nI 18)), none] [] (mdM σ i 18) Q) : ∀ (k j : Nat), j ≤ 18 → 18 - j < k → gEx mG mX7_comes 0 65 [some (.inr 0), some (.inl (nI i)), some (.inl y1), some (.inl y2), some (.inl (nI j)), none] [] (mdM σ i j) Q := by
  intro k
  induction k with
  | zero => intro j hi1 hi2; exact absurd hi2 (by omega)
  | succ k ih =>
    intro j hi1 hi2 
    refine g_iload dX7_comes_65 rfl ?_
    refine g_bipush (nI (18)) dX7_comes_67 (by decide) ?_
    refine g_icmp_ge 92 dX7_comes_69 (by decide) (fun h69 => ?_) (fun h69 => ?_)
    · skip
      rw [nI_leI (by omega) (by omega)] at h69
      have e : j = 18 := by omega
      subst e
      exact hq
    · skip
      rw [nI_leI (by omega) (by omega)] at h69
      refine g_aload_n dX7_comes_72 rfl ?_
      refine g_getr (T := TX7) (N := 26) (Cn := RX7) (ref := "CommitCouncilModel") 4 dX7_comes_73 (mIn (by decide)) rfl rfl (fun w h => List.mem_cons_of_mem _ (hU7 w h)) (by decide) (List.mem_cons_of_mem _ uw_3_127) (Or.inl rfl) rfl ?_
      refine g_iload dX7_comes_76 rfl ?_
      refine g_aload_n dX7_comes_78 rfl ?_
      refine g_iload_n dX7_comes_79 rfl ?_
      refine g_iload dX7_comes_80 rfl ?_
      refine g_callVi (_) (n9 := 2) [.inl (nI (i)), .inl (nI (j))] [.inl (nI (j)), .inr (2)] (m_of (i := i) (j := j) (by omega)) dX7_comes_82 (gU_V uw_4_25 uw_4_27 us_1_10 uw_1_8 uw_4_28) rfl (by decide +kernel) rfl ⟨by decide, by decide⟩ (mIn (by decide)) rfl rfl rfl (Nat.le_of_ble_eq_true rfl) (fun τ1 hq1 => ?_)
      subst hq1
      refine gEx.top (v := .inl (σ 1 (18 * i + j))) (congrArg Sum.inl ((show mdM σ i j 1 (18 * i + j) = _ by rw [mdM_ne _ (by decide)]))) ?_
      refine g_iastN (n := 18) (j := j) dX7_comes_85 (mIn (by decide)) rfl (by omega) (by omega) ?_
      refine g_iinc (nI (j + 1)) dX7_comes_86 rfl (show nI (j) + nI 1 = _ from nI_add _ _) (by decide) ?_
      refine g_goto 65 dX7_comes_89 (by decide) ?_
      rw [mdM_s]
      exact ih (j + 1) (by omega) (by omega)

set_option maxRecDepth 100000 in
theorem m_cm0_0 {R A : Nat} (hRA : pRA R A) {cm : Nat} {s : pT} {σ : gSt} (hc : mRel R A cm s σ) (hb : pBu s.1) {i : Nat} {x : pMsg} (hx : s.2[i]? = some x) (hk : x 0 = 0) (hp : pMk R A x) (hlen : s.2.length ≤ 400) (hmd : mOne R (σ 2) 0 x) (h16 : x 5 = s.1 16 (x 4) (x 3)) (hs : sBrg R A x s) : gEx mG mX7_comes 0 92 [some (.inr 0), some (.inl (nI i)), some (.inl (nI 0)), some (.inl (nI 0)), some (.inl (nI 18)), none] [] σ (gR (nI (x 0)) (fun τ => mRel R A (cm + 1) (tBrg R A i x s) τ ∧ τ 0 0 = σ 0 0)) := by
  obtain ⟨hR1, hR6, hA35⟩ := hRA
  have hA5 : A ≤ 5 := by omega
  have hi := (List.getElem?_eq_some_iff.mp hx).1
  have hx4 := hp.1
  obtain ⟨hx1, hx3, hx5⟩ := hp.2.1 hk
  have hu : s.1 2 1 (x 1) ≤ 1 := hb 2 _ _ (by decide) (by decide)
  have hup : pUpOf s.1 x = s.1 2 1 (x 1) := by unfold pUpOf; simp [hk]
  refine g_aload_n dX7_comes_92 rfl ?_
  refine g_iload_n dX7_comes_93 rfl ?_
  refine g_callVv (n9 := 1) [.inl (nI (i))] [] (m_remove hc.1.2.2.1 hi hlen) dX7_comes_94 (gU_V uw_4_64 uw_4_66 us_2_3 uw_1_8 uw_4_67) rfl (by decide +kernel) rfl ⟨by decide, by decide⟩ (mIn (by decide)) rfl rfl rfl (Nat.le_of_ble_eq_true rfl) (fun σ2 hq2 => ?_)
  subst hq2
  have hc2 := mRel_rem hc hR6 hi
  refine g_aload_n dX7_comes_97 rfl ?_
  refine g_dup dX7_comes_98 ?_
  refine g_get (T := TX7) (N := 26) (Cn := RX7) (ref := "CommitCouncilModel") 7 dX7_comes_99 (mIn (by decide)) rfl rfl (fun w h => List.mem_cons_of_mem _ (hU7 w h)) (by decide) (List.mem_cons_of_mem _ uw_3_130) (Or.inl rfl) rfl ?_
  refine gEx.top (v := .inl (nI (cm))) (congrArg Sum.inl (hc2.1.2.2.2.2.1)) ?_
  refine g_iconst (nI (1)) dX7_comes_102 (by decide) ?_
  refine g_iadd dX7_comes_103 ?_
  refine gEx.top (v := .inl (nI (cm + 1))) (congrArg Sum.inl (nI_add _ _)) ?_
  refine g_put (T := TX7) (N := 26) (Cn := RX7) (ref := "CommitCouncilModel") (ty0 := tyX7) 7 dX7_comes_104 (mIn (by decide)) rfl rfl (fun w h => List.mem_cons_of_mem _ (hU7 w h)) tyX7_ok nmX7 (by decide) (List.mem_cons_of_mem _ uw_3_130) (Or.inl rfl) rfl rfl rfl rfl ?_
  have hc3 := mRel_came hc2 (cm + 1)
  refine g_aload_n dX7_comes_107 rfl ?_
  refine g_getr (T := TX7) (N := 26) (Cn := RX7) (ref := "CommitCouncilModel") 4 dX7_comes_108 (mIn (by decide)) rfl rfl (fun w h => List.mem_cons_of_mem _ (hU7 w h)) (by decide) (List.mem_cons_of_mem _ uw_3_127) (Or.inl rfl) rfl ?_
  refine g_iconst (nI (1)) dX7_comes_111 (by decide) ?_
  refine g_ialdN (n := 18) (j := 1) dX7_comes_112 (mIn (by decide)) rfl (by omega) (by omega) ?_
  refine gEx.top (v := .inl (nI (x 1))) (congrArg Sum.inl ((hmd.1 1 (by decide)).trans (pt1 x (by omega)))) ?_
  refine g_istore dX7_comes_113 (by decide) ?_
  refine g_aload_n dX7_comes_115 rfl ?_
  refine g_getr (T := TX7) (N := 26) (Cn := RX7) (ref := "CommitCouncilModel") 10 dX7_comes_116 (mIn (by decide)) rfl rfl (fun w h => List.mem_cons_of_mem _ (hU7 w h)) (by decide) (List.mem_cons_of_mem _ uw_3_133) (Or.inl rfl) rfl ?_
  refine g_iload_n dX7_comes_119 rfl ?_
  refine g_if_eq 128 dX7_comes_120 (by decide) (fun h120 => ?_) (fun h120 => ?_)
  · skip
    rw [nI_z (by omega)] at h120
    refine g_iconst (nI (1)) dX7_comes_128 (by decide) ?_
    refine g_goto 142 dX7_comes_129 (by decide) ?_
    have hx1 : 1 < 3 := by omega
    refine g_aald5N (n := 3) (j := 1) dX7_comes_142 (mIn (by decide)) rfl hx1 (by omega) ?_
    refine g_iload dX7_comes_143 rfl ?_
    refine g_zaldN (n := 6) (j := x 1) dX7_comes_145 (mIn (by omega)) (mSh_u hx1) (by omega) (by omega) ?_
    refine gEx.top (v := .inl (nI (s.1 2 1 (x 1)))) (congrArg Sum.inl (mR_u1 hc3 (by omega))) ?_
    refine g_istore dX7_comes_146 (by decide) ?_
    refine g_iload dX7_comes_148 rfl ?_
    refine g_if_ne 155 dX7_comes_150 (by decide) (fun h150 => ?_) (fun h150 => ?_)
    · skip
      rw [nI_z (by omega)] at h150
      refine g_iload_n dX7_comes_155 rfl ?_
      refine g_tableIn (off := 40) 196 dX7_comes_156 (by decide) (by decide) (by decide) (by decide) ?_
      refine g_aload_n dX7_comes_196 rfl ?_
      refine g_iload dX7_comes_197 rfl ?_
      refine g_callVv (n9 := 1) [.inl (nI (x 1))] [] (m_voteC (s := (s.1, s.2.eraseIdx i)) ⟨hR1, hR6, hA35⟩ hc3 hb hk hp hmd h16 (by show (s.2.eraseIdx i).length + pAns R A s.1 x ≤ 400; rw [List.length_eraseIdx_of_lt hi]; unfold sBrg pAnsH at hs; rw [if_neg (by omega)] at hs; omega)) dX7_comes_199 (gU_V uw_4_68 uw_4_70 us_2_4 uw_1_8 uw_4_71) rfl (by decide +kernel) rfl ⟨by decide, by decide⟩ (mIn (by decide)) rfl rfl rfl (Nat.le_of_ble_eq_true rfl) (fun σ5 hq5 => ?_)
      refine g_goto 282 dX7_comes_202 (by decide) ?_
      refine g_iload_n dX7_comes_282 rfl ?_
      refine g_iret dX7_comes_283 rfl ?_
      refine ⟨by rw [hk], mRel_brg (by omega) hq5.1, hq5.2.2⟩
    · skip
      rw [nI_z (by omega)] at h150
      refine g_iload_n dX7_comes_153 rfl ?_
      refine g_iret dX7_comes_154 rfl ?_
      refine ⟨by rw [hk], mRel_brgD (by omega) hc3, rfl⟩
  · skip
    rw [nI_z (by omega)] at h120
    exfalso; omega

set_option maxRecDepth 100000 in
theorem m_cm1_0 {R A : Nat} (hRA : pRA R A) {cm : Nat} {s : pT} {σ : gSt} (hc : mRel R A cm s σ) (hb : pBu s.1) {i : Nat} {x : pMsg} (hx : s.2[i]? = some x) (hk : x 0 = 1) (hp : pMk R A x) (hlen : s.2.length ≤ 400) (hmd : mOne R (σ 2) 0 x) (hgo : pGo1 R A s.1 x) (hdn : s.1 2 2 (x 1) ≠ 0 → pDec R A s.1 (x 1) (x 3) (x 2) (x 4) (x 5) = s.1 10 (x 1) 0) (hs : sBrg R A x s) : gEx mG mX7_comes 0 92 [some (.inr 0), some (.inl (nI i)), some (.inl (nI 1)), some (.inl (nI 0)), some (.inl (nI 18)), none] [] σ (gR (nI (x 0)) (fun τ => mRel R A (cm + 1) (tBrg R A i x s) τ ∧ τ 0 0 = σ 0 0)) := by
  obtain ⟨hR1, hR6, hA35⟩ := hRA
  have hA5 : A ≤ 5 := by omega
  have hi := (List.getElem?_eq_some_iff.mp hx).1
  have hx4 := hp.1
  obtain ⟨hx1, hx2, hx3, hx5⟩ := hp.2.2.1 hk
  have hu : s.1 2 2 (x 1) ≤ 1 := hb 2 _ _ (by decide) (by decide)
  have hup : pUpOf s.1 x = s.1 2 2 (x 1) := by unfold pUpOf; simp [hk]
  refine g_aload_n dX7_comes_92 rfl ?_
  refine g_iload_n dX7_comes_93 rfl ?_
  refine g_callVv (n9 := 1) [.inl (nI (i))] [] (m_remove hc.1.2.2.1 hi hlen) dX7_comes_94 (gU_V uw_4_64 uw_4_66 us_2_3 uw_1_8 uw_4_67) rfl (by decide +kernel) rfl ⟨by decide, by decide⟩ (mIn (by decide)) rfl rfl rfl (Nat.le_of_ble_eq_true rfl) (fun σ2 hq2 => ?_)
  subst hq2
  have hc2 := mRel_rem hc hR6 hi
  refine g_aload_n dX7_comes_97 rfl ?_
  refine g_dup dX7_comes_98 ?_
  refine g_get (T := TX7) (N := 26) (Cn := RX7) (ref := "CommitCouncilModel") 7 dX7_comes_99 (mIn (by decide)) rfl rfl (fun w h => List.mem_cons_of_mem _ (hU7 w h)) (by decide) (List.mem_cons_of_mem _ uw_3_130) (Or.inl rfl) rfl ?_
  refine gEx.top (v := .inl (nI (cm))) (congrArg Sum.inl (hc2.1.2.2.2.2.1)) ?_
  refine g_iconst (nI (1)) dX7_comes_102 (by decide) ?_
  refine g_iadd dX7_comes_103 ?_
  refine gEx.top (v := .inl (nI (cm + 1))) (congrArg Sum.inl (nI_add _ _)) ?_
  refine g_put (T := TX7) (N := 26) (Cn := RX7) (ref := "CommitCouncilModel") (ty0 := tyX7) 7 dX7_comes_104 (mIn (by decide)) rfl rfl (fun w h => List.mem_cons_of_mem _ (hU7 w h)) tyX7_ok nmX7 (by decide) (List.mem_cons_of_mem _ uw_3_130) (Or.inl rfl) rfl rfl rfl rfl ?_
  have hc3 := mRel_came hc2 (cm + 1)
  refine g_aload_n dX7_comes_107 rfl ?_
  refine g_getr (T := TX7) (N := 26) (Cn := RX7) (ref := "CommitCouncilModel") 4 dX7_comes_108 (mIn (by decide)) rfl rfl (fun w h => List.mem_cons_of_mem _ (hU7 w h)) (by decide) (List.mem_cons_of_mem _ uw_3_127) (Or.inl rfl) rfl ?_
  refine g_iconst (nI (1)) dX7_comes_111 (by decide) ?_
  refine g_ialdN (n := 18) (j := 1) dX7_comes_112 (mIn (by decide)) rfl (by omega) (by omega) ?_
  refine gEx.top (v := .inl (nI (x 1))) (congrArg Sum.inl ((hmd.1 1 (by decide)).trans (pt1 x (by omega)))) ?_
  refine g_istore dX7_comes_113 (by decide) ?_
  refine g_aload_n dX7_comes_115 rfl ?_
  refine g_getr (T := TX7) (N := 26) (Cn := RX7) (ref := "CommitCouncilModel") 10 dX7_comes_116 (mIn (by decide)) rfl rfl (fun w h => List.mem_cons_of_mem _ (hU7 w h)) (by decide) (List.mem_cons_of_mem _ uw_3_133) (Or.inl rfl) rfl ?_
  refine g_iload_n dX7_comes_119 rfl ?_
  refine g_if_eq 128 dX7_comes_120 (by decide) (fun h120 => ?_) (fun h120 => ?_)
  · skip
    rw [nI_z (by omega)] at h120
    exfalso; omega
  · skip
    rw [nI_z (by omega)] at h120
    refine g_iload_n dX7_comes_123 rfl ?_
    refine g_iconst (nI (2)) dX7_comes_124 (by decide) ?_
    refine g_icmp_ne 132 dX7_comes_125 (by decide) (fun h125 => ?_) (fun h125 => ?_)
    · skip
      rw [nI_eq (by omega) (by omega)] at h125
      refine g_iload_n dX7_comes_132 rfl ?_
      refine g_iconst (nI (4)) dX7_comes_133 (by decide) ?_
      refine g_icmp_ne 141 dX7_comes_134 (by decide) (fun h134 => ?_) (fun h134 => ?_)
      · skip
        rw [nI_eq (by omega) (by omega)] at h134
        refine g_iconst (nI (2)) dX7_comes_141 (by decide) ?_
        have hx1 : 2 < 3 := by omega
        refine g_aald5N (n := 3) (j := 2) dX7_comes_142 (mIn (by decide)) rfl hx1 (by omega) ?_
        refine g_iload dX7_comes_143 rfl ?_
        refine g_zaldN (n := 6) (j := x 1) dX7_comes_145 (mIn (by omega)) (mSh_u hx1) (by omega) (by omega) ?_
        refine gEx.top (v := .inl (nI (s.1 2 2 (x 1)))) (congrArg Sum.inl (mR_u2 hc3 (by omega))) ?_
        refine g_istore dX7_comes_146 (by decide) ?_
        refine g_iload dX7_comes_148 rfl ?_
        refine g_if_ne 155 dX7_comes_150 (by decide) (fun h150 => ?_) (fun h150 => ?_)
        · skip
          rw [nI_z (by omega)] at h150
          refine g_iload_n dX7_comes_155 rfl ?_
          refine g_tableIn (off := 67) 223 dX7_comes_156 (by decide) (by decide) (by decide) (by decide) ?_
          refine g_aload_n dX7_comes_223 rfl ?_
          refine g_iload dX7_comes_224 rfl ?_
          refine g_iload_n dX7_comes_226 rfl ?_
          refine g_callVv (n9 := 2) [.inl (nI (x 1)), .inl (nI (0))] [] (m_votedC0 (s := (s.1, s.2.eraseIdx i)) ⟨hR1, hR6, hA35⟩ hc3 hb hk hp hmd hgo (hdn (by omega)) (by show (s.2.eraseIdx i).length + pAns R A s.1 x ≤ 400; rw [List.length_eraseIdx_of_lt hi]; unfold sBrg pAnsH at hs; rw [if_neg (by omega)] at hs; omega)) dX7_comes_227 (gU_V uw_4_81 uw_4_83 us_2_7 uw_1_8 uw_4_84) rfl (by decide +kernel) rfl ⟨by decide, by decide⟩ (mIn (by decide)) rfl rfl rfl (Nat.le_of_ble_eq_true rfl) (fun σ5 hq5 => ?_)
          refine g_goto 282 dX7_comes_230 (by decide) ?_
          refine g_iload_n dX7_comes_282 rfl ?_
          refine g_iret dX7_comes_283 rfl ?_
          refine ⟨by rw [hk], mRel_brg (by omega) hq5.1, hq5.2.2⟩
        · skip
          rw [nI_z (by omega)] at h150
          refine g_iload_n dX7_comes_153 rfl ?_
          refine g_iret dX7_comes_154 rfl ?_
          refine ⟨by rw [hk], mRel_brgD (by omega) hc3, rfl⟩
      · skip
        rw [nI_eq (by omega) (by omega)] at h134
        exfalso; omega
    · skip
      rw [nI_eq (by omega) (by omega)] at h125
      exfalso; omega

set_option maxRecDepth 100000 in
theorem m_cm1_1 {R A : Nat} (hRA : pRA R A) {cm : Nat} {s : pT} {σ : gSt} (hc : mRel R A cm s σ) (hb : pBu s.1) {i : Nat} {x : pMsg} (hx : s.2[i]? = some x) (hk : x 0 = 1) (hp : pMk R A x) (hlen : s.2.length ≤ 400) (hmd : mOne R (σ 2) 0 x) (hgo : pGo1 R A s.1 x) (hu1 : s.1 2 2 (x 1) ≠ 0) (hd0 : s.1 10 (x 1) 0 = 0) (hd : pDec R A s.1 (x 1) (x 3) (x 2) (x 4) (x 5) ≠ 0) (hs : sBrg R A x s) : gEx mG mX7_comes 0 92 [some (.inr 0), some (.inl (nI i)), some (.inl (nI 1)), some (.inl (nI 1)), some (.inl (nI 18)), none] [] σ (gR (nI (x 0)) (fun τ => mRel R A (cm + 1) (tBrg R A i x s) τ ∧ τ 0 0 = σ 0 0)) := by
  obtain ⟨hR1, hR6, hA35⟩ := hRA
  have hA5 : A ≤ 5 := by omega
  have hi := (List.getElem?_eq_some_iff.mp hx).1
  have hx4 := hp.1
  obtain ⟨hx1, hx2, hx3, hx5⟩ := hp.2.2.1 hk
  have hu : s.1 2 2 (x 1) ≤ 1 := hb 2 _ _ (by decide) (by decide)
  have hup : pUpOf s.1 x = s.1 2 2 (x 1) := by unfold pUpOf; simp [hk]
  refine g_aload_n dX7_comes_92 rfl ?_
  refine g_iload_n dX7_comes_93 rfl ?_
  refine g_callVv (n9 := 1) [.inl (nI (i))] [] (m_remove hc.1.2.2.1 hi hlen) dX7_comes_94 (gU_V uw_4_64 uw_4_66 us_2_3 uw_1_8 uw_4_67) rfl (by decide +kernel) rfl ⟨by decide, by decide⟩ (mIn (by decide)) rfl rfl rfl (Nat.le_of_ble_eq_true rfl) (fun σ2 hq2 => ?_)
  subst hq2
  have hc2 := mRel_rem hc hR6 hi
  refine g_aload_n dX7_comes_97 rfl ?_
  refine g_dup dX7_comes_98 ?_
  refine g_get (T := TX7) (N := 26) (Cn := RX7) (ref := "CommitCouncilModel") 7 dX7_comes_99 (mIn (by decide)) rfl rfl (fun w h => List.mem_cons_of_mem _ (hU7 w h)) (by decide) (List.mem_cons_of_mem _ uw_3_130) (Or.inl rfl) rfl ?_
  refine gEx.top (v := .inl (nI (cm))) (congrArg Sum.inl (hc2.1.2.2.2.2.1)) ?_
  refine g_iconst (nI (1)) dX7_comes_102 (by decide) ?_
  refine g_iadd dX7_comes_103 ?_
  refine gEx.top (v := .inl (nI (cm + 1))) (congrArg Sum.inl (nI_add _ _)) ?_
  refine g_put (T := TX7) (N := 26) (Cn := RX7) (ref := "CommitCouncilModel") (ty0 := tyX7) 7 dX7_comes_104 (mIn (by decide)) rfl rfl (fun w h => List.mem_cons_of_mem _ (hU7 w h)) tyX7_ok nmX7 (by decide) (List.mem_cons_of_mem _ uw_3_130) (Or.inl rfl) rfl rfl rfl rfl ?_
  have hc3 := mRel_came hc2 (cm + 1)
  refine g_aload_n dX7_comes_107 rfl ?_
  refine g_getr (T := TX7) (N := 26) (Cn := RX7) (ref := "CommitCouncilModel") 4 dX7_comes_108 (mIn (by decide)) rfl rfl (fun w h => List.mem_cons_of_mem _ (hU7 w h)) (by decide) (List.mem_cons_of_mem _ uw_3_127) (Or.inl rfl) rfl ?_
  refine g_iconst (nI (1)) dX7_comes_111 (by decide) ?_
  refine g_ialdN (n := 18) (j := 1) dX7_comes_112 (mIn (by decide)) rfl (by omega) (by omega) ?_
  refine gEx.top (v := .inl (nI (x 1))) (congrArg Sum.inl ((hmd.1 1 (by decide)).trans (pt1 x (by omega)))) ?_
  refine g_istore dX7_comes_113 (by decide) ?_
  refine g_aload_n dX7_comes_115 rfl ?_
  refine g_getr (T := TX7) (N := 26) (Cn := RX7) (ref := "CommitCouncilModel") 10 dX7_comes_116 (mIn (by decide)) rfl rfl (fun w h => List.mem_cons_of_mem _ (hU7 w h)) (by decide) (List.mem_cons_of_mem _ uw_3_133) (Or.inl rfl) rfl ?_
  refine g_iload_n dX7_comes_119 rfl ?_
  refine g_if_eq 128 dX7_comes_120 (by decide) (fun h120 => ?_) (fun h120 => ?_)
  · skip
    rw [nI_z (by omega)] at h120
    exfalso; omega
  · skip
    rw [nI_z (by omega)] at h120
    refine g_iload_n dX7_comes_123 rfl ?_
    refine g_iconst (nI (2)) dX7_comes_124 (by decide) ?_
    refine g_icmp_ne 132 dX7_comes_125 (by decide) (fun h125 => ?_) (fun h125 => ?_)
    · skip
      rw [nI_eq (by omega) (by omega)] at h125
      refine g_iload_n dX7_comes_132 rfl ?_
      refine g_iconst (nI (4)) dX7_comes_133 (by decide) ?_
      refine g_icmp_ne 141 dX7_comes_134 (by decide) (fun h134 => ?_) (fun h134 => ?_)
      · skip
        rw [nI_eq (by omega) (by omega)] at h134
        refine g_iconst (nI (2)) dX7_comes_141 (by decide) ?_
        have hx1 : 2 < 3 := by omega
        refine g_aald5N (n := 3) (j := 2) dX7_comes_142 (mIn (by decide)) rfl hx1 (by omega) ?_
        refine g_iload dX7_comes_143 rfl ?_
        refine g_zaldN (n := 6) (j := x 1) dX7_comes_145 (mIn (by omega)) (mSh_u hx1) (by omega) (by omega) ?_
        refine gEx.top (v := .inl (nI (s.1 2 2 (x 1)))) (congrArg Sum.inl (mR_u2 hc3 (by omega))) ?_
        refine g_istore dX7_comes_146 (by decide) ?_
        refine g_iload dX7_comes_148 rfl ?_
        refine g_if_ne 155 dX7_comes_150 (by decide) (fun h150 => ?_) (fun h150 => ?_)
        · skip
          rw [nI_z (by omega)] at h150
          refine g_iload_n dX7_comes_155 rfl ?_
          refine g_tableIn (off := 67) 223 dX7_comes_156 (by decide) (by decide) (by decide) (by decide) ?_
          refine g_aload_n dX7_comes_223 rfl ?_
          refine g_iload dX7_comes_224 rfl ?_
          refine g_iload_n dX7_comes_226 rfl ?_
          refine g_callVv (n9 := 2) [.inl (nI (x 1)), .inl (nI (1))] [] (m_votedC1 (s := (s.1, s.2.eraseIdx i)) ⟨hR1, hR6, hA35⟩ hc3 hb hk hp hmd hgo hd0 hd (by show (s.2.eraseIdx i).length + pAns R A s.1 x ≤ 400; rw [List.length_eraseIdx_of_lt hi]; unfold sBrg pAnsH at hs; rw [if_neg (by omega)] at hs; omega)) dX7_comes_227 (gU_V uw_4_81 uw_4_83 us_2_7 uw_1_8 uw_4_84) rfl (by decide +kernel) rfl ⟨by decide, by decide⟩ (mIn (by decide)) rfl rfl rfl (Nat.le_of_ble_eq_true rfl) (fun σ5 hq5 => ?_)
          refine g_goto 282 dX7_comes_230 (by decide) ?_
          refine g_iload_n dX7_comes_282 rfl ?_
          refine g_iret dX7_comes_283 rfl ?_
          refine ⟨by rw [hk], mRel_brg (by omega) hq5.1, hq5.2.2⟩
        · skip
          rw [nI_z (by omega)] at h150
          refine g_iload_n dX7_comes_153 rfl ?_
          refine g_iret dX7_comes_154 rfl ?_
          exfalso; omega
      · skip
        rw [nI_eq (by omega) (by omega)] at h134
        exfalso; omega
    · skip
      rw [nI_eq (by omega) (by omega)] at h125
      exfalso; omega

set_option maxRecDepth 100000 in
theorem m_cm2_0 {R A : Nat} (hRA : pRA R A) {cm : Nat} {s : pT} {σ : gSt} (hc : mRel R A cm s σ) (hb : pBu s.1) {i : Nat} {x : pMsg} (hx : s.2[i]? = some x) (hk : x 0 = 2) (hp : pMk R A x) (hlen : s.2.length ≤ 400) (hmd : mOne R (σ 2) 0 x) (hs : sBrg R A x s) : gEx mG mX7_comes 0 92 [some (.inr 0), some (.inl (nI i)), some (.inl (nI 2)), some (.inl (nI 0)), some (.inl (nI 18)), none] [] σ (gR (nI (x 0)) (fun τ => mRel R A (cm + 1) (tBrg R A i x s) τ ∧ τ 0 0 = σ 0 0)) := by
  obtain ⟨hR1, hR6, hA35⟩ := hRA
  have hA5 : A ≤ 5 := by omega
  have hi := (List.getElem?_eq_some_iff.mp hx).1
  have hx4 := hp.1
  obtain ⟨hx1, hx41⟩ := hp.2.2.2.1 hk
  have hu : s.1 2 1 (x 1) ≤ 1 := hb 2 _ _ (by decide) (by decide)
  have hup : pUpOf s.1 x = s.1 2 1 (x 1) := by unfold pUpOf; simp [hk]
  refine g_aload_n dX7_comes_92 rfl ?_
  refine g_iload_n dX7_comes_93 rfl ?_
  refine g_callVv (n9 := 1) [.inl (nI (i))] [] (m_remove hc.1.2.2.1 hi hlen) dX7_comes_94 (gU_V uw_4_64 uw_4_66 us_2_3 uw_1_8 uw_4_67) rfl (by decide +kernel) rfl ⟨by decide, by decide⟩ (mIn (by decide)) rfl rfl rfl (Nat.le_of_ble_eq_true rfl) (fun σ2 hq2 => ?_)
  subst hq2
  have hc2 := mRel_rem hc hR6 hi
  refine g_aload_n dX7_comes_97 rfl ?_
  refine g_dup dX7_comes_98 ?_
  refine g_get (T := TX7) (N := 26) (Cn := RX7) (ref := "CommitCouncilModel") 7 dX7_comes_99 (mIn (by decide)) rfl rfl (fun w h => List.mem_cons_of_mem _ (hU7 w h)) (by decide) (List.mem_cons_of_mem _ uw_3_130) (Or.inl rfl) rfl ?_
  refine gEx.top (v := .inl (nI (cm))) (congrArg Sum.inl (hc2.1.2.2.2.2.1)) ?_
  refine g_iconst (nI (1)) dX7_comes_102 (by decide) ?_
  refine g_iadd dX7_comes_103 ?_
  refine gEx.top (v := .inl (nI (cm + 1))) (congrArg Sum.inl (nI_add _ _)) ?_
  refine g_put (T := TX7) (N := 26) (Cn := RX7) (ref := "CommitCouncilModel") (ty0 := tyX7) 7 dX7_comes_104 (mIn (by decide)) rfl rfl (fun w h => List.mem_cons_of_mem _ (hU7 w h)) tyX7_ok nmX7 (by decide) (List.mem_cons_of_mem _ uw_3_130) (Or.inl rfl) rfl rfl rfl rfl ?_
  have hc3 := mRel_came hc2 (cm + 1)
  refine g_aload_n dX7_comes_107 rfl ?_
  refine g_getr (T := TX7) (N := 26) (Cn := RX7) (ref := "CommitCouncilModel") 4 dX7_comes_108 (mIn (by decide)) rfl rfl (fun w h => List.mem_cons_of_mem _ (hU7 w h)) (by decide) (List.mem_cons_of_mem _ uw_3_127) (Or.inl rfl) rfl ?_
  refine g_iconst (nI (1)) dX7_comes_111 (by decide) ?_
  refine g_ialdN (n := 18) (j := 1) dX7_comes_112 (mIn (by decide)) rfl (by omega) (by omega) ?_
  refine gEx.top (v := .inl (nI (x 1))) (congrArg Sum.inl ((hmd.1 1 (by decide)).trans (pt1 x (by omega)))) ?_
  refine g_istore dX7_comes_113 (by decide) ?_
  refine g_aload_n dX7_comes_115 rfl ?_
  refine g_getr (T := TX7) (N := 26) (Cn := RX7) (ref := "CommitCouncilModel") 10 dX7_comes_116 (mIn (by decide)) rfl rfl (fun w h => List.mem_cons_of_mem _ (hU7 w h)) (by decide) (List.mem_cons_of_mem _ uw_3_133) (Or.inl rfl) rfl ?_
  refine g_iload_n dX7_comes_119 rfl ?_
  refine g_if_eq 128 dX7_comes_120 (by decide) (fun h120 => ?_) (fun h120 => ?_)
  · skip
    rw [nI_z (by omega)] at h120
    exfalso; omega
  · skip
    rw [nI_z (by omega)] at h120
    refine g_iload_n dX7_comes_123 rfl ?_
    refine g_iconst (nI (2)) dX7_comes_124 (by decide) ?_
    refine g_icmp_ne 132 dX7_comes_125 (by decide) (fun h125 => ?_) (fun h125 => ?_)
    · skip
      rw [nI_eq (by omega) (by omega)] at h125
      exfalso; omega
    · skip
      rw [nI_eq (by omega) (by omega)] at h125
      refine g_iconst (nI (1)) dX7_comes_128 (by decide) ?_
      refine g_goto 142 dX7_comes_129 (by decide) ?_
      have hx1 : 1 < 3 := by omega
      refine g_aald5N (n := 3) (j := 1) dX7_comes_142 (mIn (by decide)) rfl hx1 (by omega) ?_
      refine g_iload dX7_comes_143 rfl ?_
      refine g_zaldN (n := 6) (j := x 1) dX7_comes_145 (mIn (by omega)) (mSh_u hx1) (by omega) (by omega) ?_
      refine gEx.top (v := .inl (nI (s.1 2 1 (x 1)))) (congrArg Sum.inl (mR_u1 hc3 (by omega))) ?_
      refine g_istore dX7_comes_146 (by decide) ?_
      refine g_iload dX7_comes_148 rfl ?_
      refine g_if_ne 155 dX7_comes_150 (by decide) (fun h150 => ?_) (fun h150 => ?_)
      · skip
        rw [nI_z (by omega)] at h150
        refine g_iload_n dX7_comes_155 rfl ?_
        refine g_tableIn (off := 49) 205 dX7_comes_156 (by decide) (by decide) (by decide) (by decide) ?_
        refine g_aload_n dX7_comes_205 rfl ?_
        refine g_iload dX7_comes_206 rfl ?_
        refine g_callVv (n9 := 1) [.inl (nI (x 1))] [] (m_askC (s := (s.1, s.2.eraseIdx i)) ⟨hR1, hR6, hA35⟩ hc3 hb hk hp hmd (by show (s.2.eraseIdx i).length + pAns R A s.1 x ≤ 400; rw [List.length_eraseIdx_of_lt hi]; unfold sBrg pAnsH at hs; rw [if_neg (by omega)] at hs; omega)) dX7_comes_208 (gU_V uw_4_72 uw_4_74 us_2_5 uw_1_8 uw_4_75) rfl (by decide +kernel) rfl ⟨by decide, by decide⟩ (mIn (by decide)) rfl rfl rfl (Nat.le_of_ble_eq_true rfl) (fun σ5 hq5 => ?_)
        refine g_goto 282 dX7_comes_211 (by decide) ?_
        refine g_iload_n dX7_comes_282 rfl ?_
        refine g_iret dX7_comes_283 rfl ?_
        refine ⟨by rw [hk], mRel_brg (by omega) hq5.1, hq5.2.2⟩
      · skip
        rw [nI_z (by omega)] at h150
        refine g_iload_n dX7_comes_153 rfl ?_
        refine g_iret dX7_comes_154 rfl ?_
        refine ⟨by rw [hk], mRel_brgD (by omega) hc3, rfl⟩

set_option maxRecDepth 100000 in
theorem m_cm3_0 {R A : Nat} (hRA : pRA R A) {cm : Nat} {s : pT} {σ : gSt} (hc : mRel R A cm s σ) (hb : pBu s.1) {i : Nat} {x : pMsg} (hx : s.2[i]? = some x) (hk : x 0 = 3) (hp : pMk R A x) (hlen : s.2.length ≤ 400) (hmd : mOne R (σ 2) 0 x) (hgo : pGo3 R A s.1 x) (hs : sBrg R A x s) : gEx mG mX7_comes 0 92 [some (.inr 0), some (.inl (nI i)), some (.inl (nI 3)), some (.inl (nI 0)), some (.inl (nI 18)), none] [] σ (gR (nI (x 0)) (fun τ => mRel R A (cm + 1) (tBrg R A i x s) τ ∧ τ 0 0 = σ 0 0)) := by
  obtain ⟨hR1, hR6, hA35⟩ := hRA
  have hA5 : A ≤ 5 := by omega
  have hi := (List.getElem?_eq_some_iff.mp hx).1
  have hx4 := hp.1
  obtain ⟨hx1, hx2, hx41, hxt⟩ := hp.2.2.2.2.1 hk
  have hu : s.1 2 2 (x 1) ≤ 1 := hb 2 _ _ (by decide) (by decide)
  have hup : pUpOf s.1 x = s.1 2 2 (x 1) := by unfold pUpOf; simp [hk]
  refine g_aload_n dX7_comes_92 rfl ?_
  refine g_iload_n dX7_comes_93 rfl ?_
  refine g_callVv (n9 := 1) [.inl (nI (i))] [] (m_remove hc.1.2.2.1 hi hlen) dX7_comes_94 (gU_V uw_4_64 uw_4_66 us_2_3 uw_1_8 uw_4_67) rfl (by decide +kernel) rfl ⟨by decide, by decide⟩ (mIn (by decide)) rfl rfl rfl (Nat.le_of_ble_eq_true rfl) (fun σ2 hq2 => ?_)
  subst hq2
  have hc2 := mRel_rem hc hR6 hi
  refine g_aload_n dX7_comes_97 rfl ?_
  refine g_dup dX7_comes_98 ?_
  refine g_get (T := TX7) (N := 26) (Cn := RX7) (ref := "CommitCouncilModel") 7 dX7_comes_99 (mIn (by decide)) rfl rfl (fun w h => List.mem_cons_of_mem _ (hU7 w h)) (by decide) (List.mem_cons_of_mem _ uw_3_130) (Or.inl rfl) rfl ?_
  refine gEx.top (v := .inl (nI (cm))) (congrArg Sum.inl (hc2.1.2.2.2.2.1)) ?_
  refine g_iconst (nI (1)) dX7_comes_102 (by decide) ?_
  refine g_iadd dX7_comes_103 ?_
  refine gEx.top (v := .inl (nI (cm + 1))) (congrArg Sum.inl (nI_add _ _)) ?_
  refine g_put (T := TX7) (N := 26) (Cn := RX7) (ref := "CommitCouncilModel") (ty0 := tyX7) 7 dX7_comes_104 (mIn (by decide)) rfl rfl (fun w h => List.mem_cons_of_mem _ (hU7 w h)) tyX7_ok nmX7 (by decide) (List.mem_cons_of_mem _ uw_3_130) (Or.inl rfl) rfl rfl rfl rfl ?_
  have hc3 := mRel_came hc2 (cm + 1)
  refine g_aload_n dX7_comes_107 rfl ?_
  refine g_getr (T := TX7) (N := 26) (Cn := RX7) (ref := "CommitCouncilModel") 4 dX7_comes_108 (mIn (by decide)) rfl rfl (fun w h => List.mem_cons_of_mem _ (hU7 w h)) (by decide) (List.mem_cons_of_mem _ uw_3_127) (Or.inl rfl) rfl ?_
  refine g_iconst (nI (1)) dX7_comes_111 (by decide) ?_
  refine g_ialdN (n := 18) (j := 1) dX7_comes_112 (mIn (by decide)) rfl (by omega) (by omega) ?_
  refine gEx.top (v := .inl (nI (x 1))) (congrArg Sum.inl ((hmd.1 1 (by decide)).trans (pt1 x (by omega)))) ?_
  refine g_istore dX7_comes_113 (by decide) ?_
  refine g_aload_n dX7_comes_115 rfl ?_
  refine g_getr (T := TX7) (N := 26) (Cn := RX7) (ref := "CommitCouncilModel") 10 dX7_comes_116 (mIn (by decide)) rfl rfl (fun w h => List.mem_cons_of_mem _ (hU7 w h)) (by decide) (List.mem_cons_of_mem _ uw_3_133) (Or.inl rfl) rfl ?_
  refine g_iload_n dX7_comes_119 rfl ?_
  refine g_if_eq 128 dX7_comes_120 (by decide) (fun h120 => ?_) (fun h120 => ?_)
  · skip
    rw [nI_z (by omega)] at h120
    exfalso; omega
  · skip
    rw [nI_z (by omega)] at h120
    refine g_iload_n dX7_comes_123 rfl ?_
    refine g_iconst (nI (2)) dX7_comes_124 (by decide) ?_
    refine g_icmp_ne 132 dX7_comes_125 (by decide) (fun h125 => ?_) (fun h125 => ?_)
    · skip
      rw [nI_eq (by omega) (by omega)] at h125
      refine g_iload_n dX7_comes_132 rfl ?_
      refine g_iconst (nI (4)) dX7_comes_133 (by decide) ?_
      refine g_icmp_ne 141 dX7_comes_134 (by decide) (fun h134 => ?_) (fun h134 => ?_)
      · skip
        rw [nI_eq (by omega) (by omega)] at h134
        refine g_iconst (nI (2)) dX7_comes_141 (by decide) ?_
        have hx1 : 2 < 3 := by omega
        refine g_aald5N (n := 3) (j := 2) dX7_comes_142 (mIn (by decide)) rfl hx1 (by omega) ?_
        refine g_iload dX7_comes_143 rfl ?_
        refine g_zaldN (n := 6) (j := x 1) dX7_comes_145 (mIn (by omega)) (mSh_u hx1) (by omega) (by omega) ?_
        refine gEx.top (v := .inl (nI (s.1 2 2 (x 1)))) (congrArg Sum.inl (mR_u2 hc3 (by omega))) ?_
        refine g_istore dX7_comes_146 (by decide) ?_
        refine g_iload dX7_comes_148 rfl ?_
        refine g_if_ne 155 dX7_comes_150 (by decide) (fun h150 => ?_) (fun h150 => ?_)
        · skip
          rw [nI_z (by omega)] at h150
          refine g_iload_n dX7_comes_155 rfl ?_
          refine g_tableIn (off := 58) 214 dX7_comes_156 (by decide) (by decide) (by decide) (by decide) ?_
          refine g_aload_n dX7_comes_214 rfl ?_
          refine g_iload dX7_comes_215 rfl ?_
          refine g_callVv (n9 := 1) [.inl (nI (x 1))] [] (m_toldC (s := (s.1, s.2.eraseIdx i)) ⟨hR1, hR6, hA35⟩ hc3 hb hk hp hmd hgo (by show (s.2.eraseIdx i).length + pAns R A s.1 x ≤ 400; rw [List.length_eraseIdx_of_lt hi]; unfold sBrg pAnsH at hs; rw [if_neg (by omega)] at hs; omega)) dX7_comes_217 (gU_V uw_4_76 uw_4_78 us_2_6 uw_1_8 uw_4_79) rfl (by decide +kernel) rfl ⟨by decide, by decide⟩ (mIn (by decide)) rfl rfl rfl (Nat.le_of_ble_eq_true rfl) (fun σ5 hq5 => ?_)
          refine g_goto 282 dX7_comes_220 (by decide) ?_
          refine g_iload_n dX7_comes_282 rfl ?_
          refine g_iret dX7_comes_283 rfl ?_
          refine ⟨by rw [hk], mRel_brg (by omega) hq5.1, hq5.2.2⟩
        · skip
          rw [nI_z (by omega)] at h150
          refine g_iload_n dX7_comes_153 rfl ?_
          refine g_iret dX7_comes_154 rfl ?_
          refine ⟨by rw [hk], mRel_brgD (by omega) hc3, rfl⟩
      · skip
        rw [nI_eq (by omega) (by omega)] at h134
        exfalso; omega
    · skip
      rw [nI_eq (by omega) (by omega)] at h125
      exfalso; omega

set_option maxRecDepth 100000 in
theorem m_cm4_0 {R A : Nat} (hRA : pRA R A) {cm : Nat} {s : pT} {σ : gSt} (hc : mRel R A cm s σ) (hb : pBu s.1) {i : Nat} {x : pMsg} (hx : s.2[i]? = some x) (hk : x 0 = 4) (hp : pMk R A x) (hlen : s.2.length ≤ 400) (hmd : mOne R (σ 2) 0 x) (hs : sBrg R A x s) : gEx mG mX7_comes 0 92 [some (.inr 0), some (.inl (nI i)), some (.inl (nI 4)), some (.inl (nI 0)), some (.inl (nI 18)), none] [] σ (gR (nI (x 0)) (fun τ => mRel R A (cm + 1) (tBrg R A i x s) τ ∧ τ 0 0 = σ 0 0)) := by
  obtain ⟨hR1, hR6, hA35⟩ := hRA
  have hA5 : A ≤ 5 := by omega
  have hi := (List.getElem?_eq_some_iff.mp hx).1
  have hx4 := hp.1
  obtain ⟨hx1, hx5⟩ := hp.2.2.2.2.2.1 hk
  have hu : s.1 2 0 (x 1) ≤ 1 := hb 2 _ _ (by decide) (by decide)
  have hup : pUpOf s.1 x = s.1 2 0 (x 1) := by unfold pUpOf; simp [hk]
  refine g_aload_n dX7_comes_92 rfl ?_
  refine g_iload_n dX7_comes_93 rfl ?_
  refine g_callVv (n9 := 1) [.inl (nI (i))] [] (m_remove hc.1.2.2.1 hi hlen) dX7_comes_94 (gU_V uw_4_64 uw_4_66 us_2_3 uw_1_8 uw_4_67) rfl (by decide +kernel) rfl ⟨by decide, by decide⟩ (mIn (by decide)) rfl rfl rfl (Nat.le_of_ble_eq_true rfl) (fun σ2 hq2 => ?_)
  subst hq2
  have hc2 := mRel_rem hc hR6 hi
  refine g_aload_n dX7_comes_97 rfl ?_
  refine g_dup dX7_comes_98 ?_
  refine g_get (T := TX7) (N := 26) (Cn := RX7) (ref := "CommitCouncilModel") 7 dX7_comes_99 (mIn (by decide)) rfl rfl (fun w h => List.mem_cons_of_mem _ (hU7 w h)) (by decide) (List.mem_cons_of_mem _ uw_3_130) (Or.inl rfl) rfl ?_
  refine gEx.top (v := .inl (nI (cm))) (congrArg Sum.inl (hc2.1.2.2.2.2.1)) ?_
  refine g_iconst (nI (1)) dX7_comes_102 (by decide) ?_
  refine g_iadd dX7_comes_103 ?_
  refine gEx.top (v := .inl (nI (cm + 1))) (congrArg Sum.inl (nI_add _ _)) ?_
  refine g_put (T := TX7) (N := 26) (Cn := RX7) (ref := "CommitCouncilModel") (ty0 := tyX7) 7 dX7_comes_104 (mIn (by decide)) rfl rfl (fun w h => List.mem_cons_of_mem _ (hU7 w h)) tyX7_ok nmX7 (by decide) (List.mem_cons_of_mem _ uw_3_130) (Or.inl rfl) rfl rfl rfl rfl ?_
  have hc3 := mRel_came hc2 (cm + 1)
  refine g_aload_n dX7_comes_107 rfl ?_
  refine g_getr (T := TX7) (N := 26) (Cn := RX7) (ref := "CommitCouncilModel") 4 dX7_comes_108 (mIn (by decide)) rfl rfl (fun w h => List.mem_cons_of_mem _ (hU7 w h)) (by decide) (List.mem_cons_of_mem _ uw_3_127) (Or.inl rfl) rfl ?_
  refine g_iconst (nI (1)) dX7_comes_111 (by decide) ?_
  refine g_ialdN (n := 18) (j := 1) dX7_comes_112 (mIn (by decide)) rfl (by omega) (by omega) ?_
  refine gEx.top (v := .inl (nI (x 1))) (congrArg Sum.inl ((hmd.1 1 (by decide)).trans (pt1 x (by omega)))) ?_
  refine g_istore dX7_comes_113 (by decide) ?_
  refine g_aload_n dX7_comes_115 rfl ?_
  refine g_getr (T := TX7) (N := 26) (Cn := RX7) (ref := "CommitCouncilModel") 10 dX7_comes_116 (mIn (by decide)) rfl rfl (fun w h => List.mem_cons_of_mem _ (hU7 w h)) (by decide) (List.mem_cons_of_mem _ uw_3_133) (Or.inl rfl) rfl ?_
  refine g_iload_n dX7_comes_119 rfl ?_
  refine g_if_eq 128 dX7_comes_120 (by decide) (fun h120 => ?_) (fun h120 => ?_)
  · skip
    rw [nI_z (by omega)] at h120
    exfalso; omega
  · skip
    rw [nI_z (by omega)] at h120
    refine g_iload_n dX7_comes_123 rfl ?_
    refine g_iconst (nI (2)) dX7_comes_124 (by decide) ?_
    refine g_icmp_ne 132 dX7_comes_125 (by decide) (fun h125 => ?_) (fun h125 => ?_)
    · skip
      rw [nI_eq (by omega) (by omega)] at h125
      refine g_iload_n dX7_comes_132 rfl ?_
      refine g_iconst (nI (4)) dX7_comes_133 (by decide) ?_
      refine g_icmp_ne 141 dX7_comes_134 (by decide) (fun h134 => ?_) (fun h134 => ?_)
      · skip
        rw [nI_eq (by omega) (by omega)] at h134
        exfalso; omega
      · skip
        rw [nI_eq (by omega) (by omega)] at h134
        refine g_iconst (nI (0)) dX7_comes_137 (by decide) ?_
        refine g_goto 142 dX7_comes_138 (by decide) ?_
        have hx1 : 0 < 3 := by omega
        refine g_aald5N (n := 3) (j := 0) dX7_comes_142 (mIn (by decide)) rfl hx1 (by omega) ?_
        refine g_iload dX7_comes_143 rfl ?_
        refine g_zaldN (n := 6) (j := x 1) dX7_comes_145 (mIn (by omega)) (mSh_u hx1) (by omega) (by omega) ?_
        refine gEx.top (v := .inl (nI (s.1 2 0 (x 1)))) (congrArg Sum.inl (mR_u0 hc3 (by omega))) ?_
        refine g_istore dX7_comes_146 (by decide) ?_
        refine g_iload dX7_comes_148 rfl ?_
        refine g_if_ne 155 dX7_comes_150 (by decide) (fun h150 => ?_) (fun h150 => ?_)
        · skip
          rw [nI_z (by omega)] at h150
          refine g_iload_n dX7_comes_155 rfl ?_
          refine g_tableIn (off := 111) 267 dX7_comes_156 (by decide) (by decide) (by decide) (by decide) ?_
          refine g_aload_n dX7_comes_267 rfl ?_
          refine g_getr (T := TX7) (N := 26) (Cn := RX7) (ref := "CommitCouncilModel") 9 dX7_comes_268 (mIn (by decide)) rfl rfl (fun w h => List.mem_cons_of_mem _ (hU7 w h)) (by decide) (List.mem_cons_of_mem _ uw_3_132) (Or.inl rfl) rfl ?_
          refine g_iload dX7_comes_271 rfl ?_
          refine g_aload_n dX7_comes_273 rfl ?_
          refine g_getr (T := TX7) (N := 26) (Cn := RX7) (ref := "CommitCouncilModel") 4 dX7_comes_274 (mIn (by decide)) rfl rfl (fun w h => List.mem_cons_of_mem _ (hU7 w h)) (by decide) (List.mem_cons_of_mem _ uw_3_127) (Or.inl rfl) rfl ?_
          refine g_iconst (nI (5)) dX7_comes_277 (by decide) ?_
          refine g_ialdN (n := 18) (j := 5) dX7_comes_278 (mIn (by decide)) rfl (by omega) (by omega) ?_
          refine gEx.top (v := .inl (nI (x 5))) (congrArg Sum.inl ((hmd.1 5 (by decide)).trans (ptN (by rw [hk]; rfl)))) ?_
          refine g_iconst (nI (2)) dX7_comes_279 (by decide) ?_
          refine g_iadd dX7_comes_280 ?_
          refine gEx.top (v := .inl (nI (x 5 + 2))) (congrArg Sum.inl (nI_add _ _)) ?_
          refine g_iastN (n := 6) (j := x 1) dX7_comes_281 (mIn (by decide)) rfl (by omega) (by omega) ?_
          refine g_iload_n dX7_comes_282 rfl ?_
          refine g_iret dX7_comes_283 rfl ?_
          refine ⟨by rw [hk], mRel_brg (by omega) ?_, rfl⟩
          rw [pTk_no (s := (s.1, s.2.eraseIdx i)) (take4 hk)]
          exact mRel_how hc3
        · skip
          rw [nI_z (by omega)] at h150
          refine g_iload_n dX7_comes_153 rfl ?_
          refine g_iret dX7_comes_154 rfl ?_
          refine ⟨by rw [hk], mRel_brgD (by omega) hc3, rfl⟩
    · skip
      rw [nI_eq (by omega) (by omega)] at h125
      exfalso; omega

set_option maxRecDepth 100000 in
theorem m_cm5_0 {R A : Nat} (hRA : pRA R A) {cm : Nat} {s : pT} {σ : gSt} (hc : mRel R A cm s σ) (hb : pBu s.1) {i : Nat} {x : pMsg} (hx : s.2[i]? = some x) (hk : x 0 = 5) (hp : pMk R A x) (hlen : s.2.length ≤ 400) (hmd : mOne R (σ 2) 0 x) (hs : sBrg R A x s) : gEx mG mX7_comes 0 92 [some (.inr 0), some (.inl (nI i)), some (.inl (nI 5)), some (.inl (nI 0)), some (.inl (nI 18)), none] [] σ (gR (nI (x 0)) (fun τ => mRel R A (cm + 1) (tBrg R A i x s) τ ∧ τ 0 0 = σ 0 0)) := by
  obtain ⟨hR1, hR6, hA35⟩ := hRA
  have hA5 : A ≤ 5 := by omega
  have hi := (List.getElem?_eq_some_iff.mp hx).1
  have hx4 := hp.1
  obtain ⟨hx1, hx2⟩ := hp.2.2.2.2.2.2.1 hk
  have hu : s.1 2 2 (x 1) ≤ 1 := hb 2 _ _ (by decide) (by decide)
  have hup : pUpOf s.1 x = s.1 2 2 (x 1) := by unfold pUpOf; simp [hk]
  have hb10 : s.1 10 (x 1) 0 ≤ 2 := hb 10 _ _ (by decide) (by decide)
  refine g_aload_n dX7_comes_92 rfl ?_
  refine g_iload_n dX7_comes_93 rfl ?_
  refine g_callVv (n9 := 1) [.inl (nI (i))] [] (m_remove hc.1.2.2.1 hi hlen) dX7_comes_94 (gU_V uw_4_64 uw_4_66 us_2_3 uw_1_8 uw_4_67) rfl (by decide +kernel) rfl ⟨by decide, by decide⟩ (mIn (by decide)) rfl rfl rfl (Nat.le_of_ble_eq_true rfl) (fun σ2 hq2 => ?_)
  subst hq2
  have hc2 := mRel_rem hc hR6 hi
  refine g_aload_n dX7_comes_97 rfl ?_
  refine g_dup dX7_comes_98 ?_
  refine g_get (T := TX7) (N := 26) (Cn := RX7) (ref := "CommitCouncilModel") 7 dX7_comes_99 (mIn (by decide)) rfl rfl (fun w h => List.mem_cons_of_mem _ (hU7 w h)) (by decide) (List.mem_cons_of_mem _ uw_3_130) (Or.inl rfl) rfl ?_
  refine gEx.top (v := .inl (nI (cm))) (congrArg Sum.inl (hc2.1.2.2.2.2.1)) ?_
  refine g_iconst (nI (1)) dX7_comes_102 (by decide) ?_
  refine g_iadd dX7_comes_103 ?_
  refine gEx.top (v := .inl (nI (cm + 1))) (congrArg Sum.inl (nI_add _ _)) ?_
  refine g_put (T := TX7) (N := 26) (Cn := RX7) (ref := "CommitCouncilModel") (ty0 := tyX7) 7 dX7_comes_104 (mIn (by decide)) rfl rfl (fun w h => List.mem_cons_of_mem _ (hU7 w h)) tyX7_ok nmX7 (by decide) (List.mem_cons_of_mem _ uw_3_130) (Or.inl rfl) rfl rfl rfl rfl ?_
  have hc3 := mRel_came hc2 (cm + 1)
  refine g_aload_n dX7_comes_107 rfl ?_
  refine g_getr (T := TX7) (N := 26) (Cn := RX7) (ref := "CommitCouncilModel") 4 dX7_comes_108 (mIn (by decide)) rfl rfl (fun w h => List.mem_cons_of_mem _ (hU7 w h)) (by decide) (List.mem_cons_of_mem _ uw_3_127) (Or.inl rfl) rfl ?_
  refine g_iconst (nI (1)) dX7_comes_111 (by decide) ?_
  refine g_ialdN (n := 18) (j := 1) dX7_comes_112 (mIn (by decide)) rfl (by omega) (by omega) ?_
  refine gEx.top (v := .inl (nI (x 1))) (congrArg Sum.inl ((hmd.1 1 (by decide)).trans (pt1 x (by omega)))) ?_
  refine g_istore dX7_comes_113 (by decide) ?_
  refine g_aload_n dX7_comes_115 rfl ?_
  refine g_getr (T := TX7) (N := 26) (Cn := RX7) (ref := "CommitCouncilModel") 10 dX7_comes_116 (mIn (by decide)) rfl rfl (fun w h => List.mem_cons_of_mem _ (hU7 w h)) (by decide) (List.mem_cons_of_mem _ uw_3_133) (Or.inl rfl) rfl ?_
  refine g_iload_n dX7_comes_119 rfl ?_
  refine g_if_eq 128 dX7_comes_120 (by decide) (fun h120 => ?_) (fun h120 => ?_)
  · skip
    rw [nI_z (by omega)] at h120
    exfalso; omega
  · skip
    rw [nI_z (by omega)] at h120
    refine g_iload_n dX7_comes_123 rfl ?_
    refine g_iconst (nI (2)) dX7_comes_124 (by decide) ?_
    refine g_icmp_ne 132 dX7_comes_125 (by decide) (fun h125 => ?_) (fun h125 => ?_)
    · skip
      rw [nI_eq (by omega) (by omega)] at h125
      refine g_iload_n dX7_comes_132 rfl ?_
      refine g_iconst (nI (4)) dX7_comes_133 (by decide) ?_
      refine g_icmp_ne 141 dX7_comes_134 (by decide) (fun h134 => ?_) (fun h134 => ?_)
      · skip
        rw [nI_eq (by omega) (by omega)] at h134
        refine g_iconst (nI (2)) dX7_comes_141 (by decide) ?_
        have hx1 : 2 < 3 := by omega
        refine g_aald5N (n := 3) (j := 2) dX7_comes_142 (mIn (by decide)) rfl hx1 (by omega) ?_
        refine g_iload dX7_comes_143 rfl ?_
        refine g_zaldN (n := 6) (j := x 1) dX7_comes_145 (mIn (by omega)) (mSh_u hx1) (by omega) (by omega) ?_
        refine gEx.top (v := .inl (nI (s.1 2 2 (x 1)))) (congrArg Sum.inl (mR_u2 hc3 (by omega))) ?_
        refine g_istore dX7_comes_146 (by decide) ?_
        refine g_iload dX7_comes_148 rfl ?_
        refine g_if_ne 155 dX7_comes_150 (by decide) (fun h150 => ?_) (fun h150 => ?_)
        · skip
          rw [nI_z (by omega)] at h150
          refine g_iload_n dX7_comes_155 rfl ?_
          refine g_tableIn (off := 77) 233 dX7_comes_156 (by decide) (by decide) (by decide) (by decide) ?_
          refine g_aload_n dX7_comes_233 rfl ?_
          refine g_getr (T := TX7) (N := 26) (Cn := RX7) (ref := "CommitCouncilModel") 19 dX7_comes_234 (mIn (by decide)) rfl rfl (fun w h => List.mem_cons_of_mem _ (hU7 w h)) (by decide) (List.mem_cons_of_mem _ uw_3_142) (Or.inl rfl) rfl ?_
          refine g_iload dX7_comes_237 rfl ?_
          refine g_ialdN (n := 3) (j := x 1) dX7_comes_239 (mIn (by decide)) rfl (by omega) (by omega) ?_
          refine gEx.top (v := .inl (nI (s.1 10 (x 1) 0))) (congrArg Sum.inl (mR_dec hc3 (by omega))) ?_
          refine g_if_le 282 dX7_comes_240 (by decide) (fun h240 => ?_) (fun h240 => ?_)
          · skip
            rw [nI_np (by omega)] at h240
            refine g_iload_n dX7_comes_282 rfl ?_
            refine g_iret dX7_comes_283 rfl ?_
            refine ⟨by rw [hk], mRel_brg (by omega) ?_, rfl⟩
            rw [pTk_no (s := (s.1, s.2.eraseIdx i)) ((take5 hk).trans (by rw [if_pos (by omega)]))]
            exact hc3
          · skip
            rw [nI_np (by omega)] at h240
            refine g_aload_n dX7_comes_243 rfl ?_
            refine g_iconst (nI (4)) dX7_comes_244 (by decide) ?_
            refine g_aload_n dX7_comes_245 rfl ?_
            refine g_getr (T := TX7) (N := 26) (Cn := RX7) (ref := "CommitCouncilModel") 4 dX7_comes_246 (mIn (by decide)) rfl rfl (fun w h => List.mem_cons_of_mem _ (hU7 w h)) (by decide) (List.mem_cons_of_mem _ uw_3_127) (Or.inl rfl) rfl ?_
            refine g_iconst (nI (2)) dX7_comes_249 (by decide) ?_
            refine g_ialdN (n := 18) (j := 2) dX7_comes_250 (mIn (by decide)) rfl (by omega) (by omega) ?_
            refine gEx.top (v := .inl (nI (x 2))) (congrArg Sum.inl ((hmd.1 2 (by decide)).trans (ptN (by rw [hk]; rfl)))) ?_
            refine g_iconst ((-1)) dX7_comes_251 (by decide) ?_
            refine g_iconst ((-1)) dX7_comes_252 (by decide) ?_
            refine g_iconst ((-1)) dX7_comes_253 (by decide) ?_
            refine g_aload_n dX7_comes_254 rfl ?_
            refine g_getr (T := TX7) (N := 26) (Cn := RX7) (ref := "CommitCouncilModel") 19 dX7_comes_255 (mIn (by decide)) rfl rfl (fun w h => List.mem_cons_of_mem _ (hU7 w h)) (by decide) (List.mem_cons_of_mem _ uw_3_142) (Or.inl rfl) rfl ?_
            refine g_iload dX7_comes_258 rfl ?_
            refine g_ialdN (n := 3) (j := x 1) dX7_comes_260 (mIn (by decide)) rfl (by omega) (by omega) ?_
            refine gEx.top (v := .inl (nI (s.1 10 (x 1) 0))) (congrArg Sum.inl (mR_dec hc3 (by omega))) ?_
            refine g_callVv (n9 := 6) [.inl (nI (4)), .inl (nI (x 2)), .inl ((-1)), .inl ((-1)), .inl ((-1)), .inl (nI (s.1 10 (x 1) 0))] [] (m_sends hc3.1.2.2.1 (by show (s.2.eraseIdx i).length < 400; rw [List.length_eraseIdx_of_lt hi]; omega)) dX7_comes_261 (gU_V uw_3_230 uw_3_232 us_1_7 uw_1_8 uw_3_233) rfl (by decide +kernel) rfl ⟨by decide, by decide⟩ (mIn (by decide)) rfl rfl rfl (Nat.le_of_ble_eq_true rfl) (fun σ5 hq5 => ?_)
            subst hq5
            refine g_goto 282 dX7_comes_264 (by decide) ?_
            refine g_iload_n dX7_comes_282 rfl ?_
            refine g_iret dX7_comes_283 rfl ?_
            refine ⟨by rw [hk], mRel_brg (by omega) ?_, ?_⟩
            · rw [pTk_of (s := (s.1, s.2.eraseIdx i)) (n := 1) (f := fun _ => mDec (x 2) (s.1 10 (x 1) 0)) ((take5 hk).trans (by rw [if_neg (by omega)]; rfl)), ← pAdd_s, pAdd_0]
              exact mRel_snd (s := (s.1, s.2.eraseIdx i)) hc3 hR6 (mDec (x 2) (s.1 10 (x 1) 0)) (by simp [mDec]) rfl rfl rfl rfl rfl rfl
            · exact sndM_E.2
        · skip
          rw [nI_z (by omega)] at h150
          refine g_iload_n dX7_comes_153 rfl ?_
          refine g_iret dX7_comes_154 rfl ?_
          refine ⟨by rw [hk], mRel_brgD (by omega) hc3, rfl⟩
      · skip
        rw [nI_eq (by omega) (by omega)] at h134
        exfalso; omega
    · skip
      rw [nI_eq (by omega) (by omega)] at h125
      exfalso; omega

set_option maxRecDepth 100000 in
/-- comes -/
theorem m_comesT0 {R A : Nat} (hRA : pRA R A) {cm : Nat} {s : pT} {σ : gSt} (hc : mRel R A cm s σ) (hb : pBu s.1) {i : Nat} {x : pMsg} (hx : s.2[i]? = some x) (hk : x 0 = 0) (hp : pMk R A x) (hlen : s.2.length ≤ 400) (h16 : x 5 = s.1 16 (x 4) (x 3)) (hs : sBrg R A x s) : gEM mG mX7_comes 0 [.inr (0), .inl (nI (i))] σ (gR (nI (x 0)) (fun τ => mRel R A (cm + 1) (tBrg R A i x s) τ ∧ τ 0 0 = σ 0 0)) := by
  obtain ⟨hR1, hR6, hA35⟩ := hRA
  have hA5 : A ≤ 5 := by omega
  have hi := (List.getElem?_eq_some_iff.mp hx).1
  have hx4 := hp.1
  obtain ⟨hx1, hx3, hx5⟩ := hp.2.1 hk
  have hu : s.1 2 1 (x 1) ≤ 1 := hb 2 _ _ (by decide) (by decide)
  have hup : pUpOf s.1 x = s.1 2 1 (x 1) := by unfold pUpOf; simp [hk]
  have haH : pAnsH R A s.1 x ≤ 30 := by unfold pAnsH; split; omega; exact pAns_le hR6 hA5
  refine gEM_of (by decide +kernel) rfl (Nat.le_of_ble_eq_true rfl) ?_
  refine g_aload_n dX7_comes_0 rfl ?_
  refine g_iload_n dX7_comes_1 rfl ?_
  refine g_iconst (nI (0)) dX7_comes_2 (by decide) ?_
  refine g_callVi (_) (n9 := 2) [.inl (nI (i)), .inl (nI (0))] [] (m_of (i := i) (j := 0) (by omega)) dX7_comes_3 (gU_V uw_4_25 uw_4_27 us_1_10 uw_1_8 uw_4_28) rfl (by decide +kernel) rfl ⟨by decide, by decide⟩ (mIn (by decide)) rfl rfl rfl (Nat.le_of_ble_eq_true rfl) (fun τ1 hq1 => ?_)
  subst hq1
  refine gEx.top (v := .inl (nI (0))) (congrArg Sum.inl (((hc.2.1 i x hx).1 0 (by decide)).trans ((pt0 x (by omega)).trans (by rw [hk])))) ?_
  refine g_istore_n dX7_comes_6 (by decide) ?_
  refine g_aload_n dX7_comes_7 rfl ?_
  refine g_get (T := TX7) (N := 26) (Cn := RX7) (ref := "CommitCouncilModel") 5 dX7_comes_8 (mIn (by decide)) rfl rfl (fun w h => List.mem_cons_of_mem _ (hU7 w h)) (by decide) (List.mem_cons_of_mem _ uw_3_128) (Or.inl rfl) rfl ?_
  refine gEx.top (v := .inl (nI (s.2.length))) (congrArg Sum.inl (hc.1.2.2.1)) ?_
  refine g_iconst (nI (1)) dX7_comes_11 (by decide) ?_
  refine g_isub dX7_comes_12 ?_
  refine gEx.top (v := .inl (nI (s.2.length - (1)))) (congrArg Sum.inl (pk_sub (by omega))) ?_
  refine g_aload_n dX7_comes_13 rfl ?_
  refine g_iload_n dX7_comes_14 rfl ?_
  refine g_callVi (nI (pAnsH R A s.1 x)) (n9 := 1) [.inl (nI (i))] [.inl (nI (s.2.length - (1)))] (m_leads0 ⟨hR1, hR6, hA35⟩ hc hb hx hk hp hlen) dX7_comes_15 (gU_V uw_4_29 uw_4_31 us_1_11 uw_1_8 uw_4_32) rfl (by decide +kernel) rfl ⟨by decide, by decide⟩ (mIn (by decide)) rfl rfl rfl (Nat.le_of_ble_eq_true rfl) (fun σ3 hq3 => ?_)
  subst hq3
  refine g_iadd dX7_comes_18 ?_
  refine gEx.top (v := .inl (nI (s.2.length - (1) + pAnsH R A s.1 x))) (congrArg Sum.inl (nI_add _ _)) ?_
  refine g_sipush (nI (400)) dX7_comes_19 (by decide) ?_
  refine g_icmp_le 27 dX7_comes_22 (by decide) (fun h22 => ?_) (fun h22 => ?_)
  · skip
    rw [nI_leI (by omega) (by omega)] at h22
    refine g_iload_n dX7_comes_27 rfl ?_
    refine g_iconst (nI (1)) dX7_comes_28 (by decide) ?_
    refine g_icmp_ne 60 dX7_comes_29 (by decide) (fun h29 => ?_) (fun h29 => ?_)
    · skip
      rw [nI_eq (by omega) (by omega)] at h29
      refine g_iconst (nI (0)) dX7_comes_60 (by decide) ?_
      refine g_istore_n dX7_comes_61 (by decide) ?_
      refine g_iconst (nI (0)) dX7_comes_62 (by decide) ?_
      refine g_istore dX7_comes_63 (by decide) ?_
      refine gEx.sto (mdM_0 _ i).symm (m_md_l hc (by omega) ?_ 19 0 (by decide) (by decide))
      exact gEx_post (m_cm0_0 ⟨hR1, hR6, hA35⟩ (mRel_md hc i 18) hb hx hk hp hlen (mOne_md hc hR6 hx) h16 hs) (fun o τ q => ⟨q.1, q.2.1, q.2.2⟩)
    · skip
      rw [nI_eq (by omega) (by omega)] at h29
      exfalso; omega
  · skip
    rw [nI_leI (by omega) (by omega)] at h22
    exfalso; omega

set_option maxRecDepth 100000 in
/-- comes -/
theorem m_comesF0 {R A : Nat} (hRA : pRA R A) {cm : Nat} {s : pT} {σ : gSt} (hc : mRel R A cm s σ) (hb : pBu s.1) {i : Nat} {x : pMsg} (hx : s.2[i]? = some x) (hk : x 0 = 0) (hp : pMk R A x) (hlen : s.2.length ≤ 400) (hs : ¬ sBrg R A x s) : gEM mG mX7_comes 0 [.inr (0), .inl (nI (i))] σ (gR (-1) (fun τ => τ = σ)) := by
  obtain ⟨hR1, hR6, hA35⟩ := hRA
  have hA5 : A ≤ 5 := by omega
  have hi := (List.getElem?_eq_some_iff.mp hx).1
  have hx4 := hp.1
  obtain ⟨hx1, hx3, hx5⟩ := hp.2.1 hk
  have hu : s.1 2 1 (x 1) ≤ 1 := hb 2 _ _ (by decide) (by decide)
  have hup : pUpOf s.1 x = s.1 2 1 (x 1) := by unfold pUpOf; simp [hk]
  have haH : pAnsH R A s.1 x ≤ 30 := by unfold pAnsH; split; omega; exact pAns_le hR6 hA5
  refine gEM_of (by decide +kernel) rfl (Nat.le_of_ble_eq_true rfl) ?_
  refine g_aload_n dX7_comes_0 rfl ?_
  refine g_iload_n dX7_comes_1 rfl ?_
  refine g_iconst (nI (0)) dX7_comes_2 (by decide) ?_
  refine g_callVi (_) (n9 := 2) [.inl (nI (i)), .inl (nI (0))] [] (m_of (i := i) (j := 0) (by omega)) dX7_comes_3 (gU_V uw_4_25 uw_4_27 us_1_10 uw_1_8 uw_4_28) rfl (by decide +kernel) rfl ⟨by decide, by decide⟩ (mIn (by decide)) rfl rfl rfl (Nat.le_of_ble_eq_true rfl) (fun τ1 hq1 => ?_)
  subst hq1
  refine gEx.top (v := .inl (nI (0))) (congrArg Sum.inl (((hc.2.1 i x hx).1 0 (by decide)).trans ((pt0 x (by omega)).trans (by rw [hk])))) ?_
  refine g_istore_n dX7_comes_6 (by decide) ?_
  refine g_aload_n dX7_comes_7 rfl ?_
  refine g_get (T := TX7) (N := 26) (Cn := RX7) (ref := "CommitCouncilModel") 5 dX7_comes_8 (mIn (by decide)) rfl rfl (fun w h => List.mem_cons_of_mem _ (hU7 w h)) (by decide) (List.mem_cons_of_mem _ uw_3_128) (Or.inl rfl) rfl ?_
  refine gEx.top (v := .inl (nI (s.2.length))) (congrArg Sum.inl (hc.1.2.2.1)) ?_
  refine g_iconst (nI (1)) dX7_comes_11 (by decide) ?_
  refine g_isub dX7_comes_12 ?_
  refine gEx.top (v := .inl (nI (s.2.length - (1)))) (congrArg Sum.inl (pk_sub (by omega))) ?_
  refine g_aload_n dX7_comes_13 rfl ?_
  refine g_iload_n dX7_comes_14 rfl ?_
  refine g_callVi (nI (pAnsH R A s.1 x)) (n9 := 1) [.inl (nI (i))] [.inl (nI (s.2.length - (1)))] (m_leads0 ⟨hR1, hR6, hA35⟩ hc hb hx hk hp hlen) dX7_comes_15 (gU_V uw_4_29 uw_4_31 us_1_11 uw_1_8 uw_4_32) rfl (by decide +kernel) rfl ⟨by decide, by decide⟩ (mIn (by decide)) rfl rfl rfl (Nat.le_of_ble_eq_true rfl) (fun σ3 hq3 => ?_)
  subst hq3
  refine g_iadd dX7_comes_18 ?_
  refine gEx.top (v := .inl (nI (s.2.length - (1) + pAnsH R A s.1 x))) (congrArg Sum.inl (nI_add _ _)) ?_
  refine g_sipush (nI (400)) dX7_comes_19 (by decide) ?_
  refine g_icmp_le 27 dX7_comes_22 (by decide) (fun h22 => ?_) (fun h22 => ?_)
  · skip
    rw [nI_leI (by omega) (by omega)] at h22
    exfalso; omega
  · skip
    rw [nI_leI (by omega) (by omega)] at h22
    refine g_iconst ((-1)) dX7_comes_25 (by decide) ?_
    exact g_iret dX7_comes_26 rfl (⟨rfl, rfl⟩)

set_option maxRecDepth 100000 in
/-- comes -/
theorem m_comesT1 {R A : Nat} (hRA : pRA R A) {cm : Nat} {s : pT} {σ : gSt} (hc : mRel R A cm s σ) (hb : pBu s.1) {i : Nat} {x : pMsg} (hx : s.2[i]? = some x) (hk : x 0 = 1) (hp : pMk R A x) (hlen : s.2.length ≤ 400) (hgo : pGo1 R A s.1 x) (hs : sBrg R A x s) : gEM mG mX7_comes 0 [.inr (0), .inl (nI (i))] σ (gR (nI (x 0)) (fun τ => mRel R A (cm + 1) (tBrg R A i x s) τ ∧ τ 0 0 = σ 0 0)) := by
  obtain ⟨hR1, hR6, hA35⟩ := hRA
  have hA5 : A ≤ 5 := by omega
  have hi := (List.getElem?_eq_some_iff.mp hx).1
  have hx4 := hp.1
  obtain ⟨hx1, hx2, hx3, hx5⟩ := hp.2.2.1 hk
  have hu : s.1 2 2 (x 1) ≤ 1 := hb 2 _ _ (by decide) (by decide)
  have hup : pUpOf s.1 x = s.1 2 2 (x 1) := by unfold pUpOf; simp [hk]
  have haH : pAnsH R A s.1 x ≤ 30 := by unfold pAnsH; split; omega; exact pAns_le hR6 hA5
  have hgo2 := hgo
  obtain ⟨g1, g2⟩ := hgo2
  have hbd := pBu_bd (R := R) (A := A) hb
  have hg2 : ∀ m, m < R → gx A s.1 x m ≤ 2 := fun m _ => by unfold gx; split; exact pOut_le hbd hx5; exact hb 13 _ _ (by decide) (by decide)
  have hd1 : s.1 10 (x 1) 0 ≠ 0 → pDec R A s.1 (x 1) (x 3) (x 2) (x 4) (x 5) = s.1 10 (x 1) 0 := fun h => pDec_old h
  refine gEM_of (by decide +kernel) rfl (Nat.le_of_ble_eq_true rfl) ?_
  refine g_aload_n dX7_comes_0 rfl ?_
  refine g_iload_n dX7_comes_1 rfl ?_
  refine g_iconst (nI (0)) dX7_comes_2 (by decide) ?_
  refine g_callVi (_) (n9 := 2) [.inl (nI (i)), .inl (nI (0))] [] (m_of (i := i) (j := 0) (by omega)) dX7_comes_3 (gU_V uw_4_25 uw_4_27 us_1_10 uw_1_8 uw_4_28) rfl (by decide +kernel) rfl ⟨by decide, by decide⟩ (mIn (by decide)) rfl rfl rfl (Nat.le_of_ble_eq_true rfl) (fun τ1 hq1 => ?_)
  subst hq1
  refine gEx.top (v := .inl (nI (1))) (congrArg Sum.inl (((hc.2.1 i x hx).1 0 (by decide)).trans ((pt0 x (by omega)).trans (by rw [hk])))) ?_
  refine g_istore_n dX7_comes_6 (by decide) ?_
  refine g_aload_n dX7_comes_7 rfl ?_
  refine g_get (T := TX7) (N := 26) (Cn := RX7) (ref := "CommitCouncilModel") 5 dX7_comes_8 (mIn (by decide)) rfl rfl (fun w h => List.mem_cons_of_mem _ (hU7 w h)) (by decide) (List.mem_cons_of_mem _ uw_3_128) (Or.inl rfl) rfl ?_
  refine gEx.top (v := .inl (nI (s.2.length))) (congrArg Sum.inl (hc.1.2.2.1)) ?_
  refine g_iconst (nI (1)) dX7_comes_11 (by decide) ?_
  refine g_isub dX7_comes_12 ?_
  refine gEx.top (v := .inl (nI (s.2.length - (1)))) (congrArg Sum.inl (pk_sub (by omega))) ?_
  refine g_aload_n dX7_comes_13 rfl ?_
  refine g_iload_n dX7_comes_14 rfl ?_
  refine g_callVi (nI (pAnsH R A s.1 x)) (n9 := 1) [.inl (nI (i))] [.inl (nI (s.2.length - (1)))] (m_leads1 ⟨hR1, hR6, hA35⟩ hc hb hx hk hp hlen hgo) dX7_comes_15 (gU_V uw_4_29 uw_4_31 us_1_11 uw_1_8 uw_4_32) rfl (by decide +kernel) rfl ⟨by decide, by decide⟩ (mIn (by decide)) rfl rfl rfl (Nat.le_of_ble_eq_true rfl) (fun σ3 hq3 => ?_)
  subst hq3
  refine g_iadd dX7_comes_18 ?_
  refine gEx.top (v := .inl (nI (s.2.length - (1) + pAnsH R A s.1 x))) (congrArg Sum.inl (nI_add _ _)) ?_
  refine g_sipush (nI (400)) dX7_comes_19 (by decide) ?_
  refine g_icmp_le 27 dX7_comes_22 (by decide) (fun h22 => ?_) (fun h22 => ?_)
  · skip
    rw [nI_leI (by omega) (by omega)] at h22
    refine g_iload_n dX7_comes_27 rfl ?_
    refine g_iconst (nI (1)) dX7_comes_28 (by decide) ?_
    refine g_icmp_ne 60 dX7_comes_29 (by decide) (fun h29 => ?_) (fun h29 => ?_)
    · skip
      rw [nI_eq (by omega) (by omega)] at h29
      exfalso; omega
    · skip
      rw [nI_eq (by omega) (by omega)] at h29
      refine g_aload_n dX7_comes_32 rfl ?_
      refine g_getr (T := TX7) (N := 26) (Cn := RX7) (ref := "CommitCouncilModel") 10 dX7_comes_33 (mIn (by decide)) rfl rfl (fun w h => List.mem_cons_of_mem _ (hU7 w h)) (by decide) (List.mem_cons_of_mem _ uw_3_133) (Or.inl rfl) rfl ?_
      refine g_iconst (nI (2)) dX7_comes_36 (by decide) ?_
      have hx1 : 2 < 3 := by omega
      refine g_aald5N (n := 3) (j := 2) dX7_comes_37 (mIn (by decide)) rfl hx1 (by omega) ?_
      refine g_aload_n dX7_comes_38 rfl ?_
      refine g_iload_n dX7_comes_39 rfl ?_
      refine g_iconst (nI (1)) dX7_comes_40 (by decide) ?_
      refine g_callVi (_) (n9 := 2) [.inl (nI (i)), .inl (nI (1))] [.inr (20 + 2)] (m_of (i := i) (j := 1) (by omega)) dX7_comes_41 (gU_V uw_4_25 uw_4_27 us_1_10 uw_1_8 uw_4_28) rfl (by decide +kernel) rfl ⟨by decide, by decide⟩ (mIn (by decide)) rfl rfl rfl (Nat.le_of_ble_eq_true rfl) (fun τ1 hq1 => ?_)
      subst hq1
      refine gEx.top (v := .inl (nI (x 1))) (congrArg Sum.inl (((hc.2.1 i x hx).1 1 (by decide)).trans (ptN (by rw [hk]; rfl)))) ?_
      refine g_zaldN (n := 6) (j := x 1) dX7_comes_44 (mIn (by omega)) (mSh_u hx1) (by omega) (by omega) ?_
      refine gEx.top (v := .inl (nI (s.1 2 2 (x 1)))) (congrArg Sum.inl (mR_u2 hc (by omega))) ?_
      refine g_if_eq 60 dX7_comes_45 (by decide) (fun h45 => ?_) (fun h45 => ?_)
      · skip
        rw [nI_z (by omega)] at h45
        refine g_iconst (nI (0)) dX7_comes_60 (by decide) ?_
        refine g_istore_n dX7_comes_61 (by decide) ?_
        refine g_iconst (nI (0)) dX7_comes_62 (by decide) ?_
        refine g_istore dX7_comes_63 (by decide) ?_
        refine gEx.sto (mdM_0 _ i).symm (m_md_l hc (by omega) ?_ 19 0 (by decide) (by decide))
        exact gEx_post (m_cm1_0 ⟨hR1, hR6, hA35⟩ (mRel_md hc i 18) hb hx hk hp hlen (mOne_md hc hR6 hx) hgo (fun h => by omega) hs) (fun o τ q => ⟨q.1, q.2.1, q.2.2⟩)
      · skip
        rw [nI_z (by omega)] at h45
        refine g_aload_n dX7_comes_48 rfl ?_
        refine g_iload_n dX7_comes_49 rfl ?_
        refine g_callVi (bI (s.1 10 (x 1) 0 = 0 ∧ 0 < pDcd R (gx A s.1 x))) (n9 := 1) [.inl (nI (i))] [] (m_decs ⟨hR1, hR6, hA35⟩ hc hb hx hk hp hlen hg2 g1) dX7_comes_50 (gU_V uw_4_40 uw_4_42 us_1_13 uw_1_8 uw_4_43) rfl (by decide +kernel) rfl ⟨by decide, by decide⟩ (mIn (by decide)) rfl rfl rfl (Nat.le_of_ble_eq_true rfl) (fun τ4 hq4 => ?_)
        subst hq4
        refine g_if_eq 60 dX7_comes_53 (by decide) (fun h53 => ?_) (fun h53 => ?_)
        · skip
          rw [bI_z] at h53
          refine g_iconst (nI (0)) dX7_comes_60 (by decide) ?_
          refine g_istore_n dX7_comes_61 (by decide) ?_
          refine g_iconst (nI (0)) dX7_comes_62 (by decide) ?_
          refine g_istore dX7_comes_63 (by decide) ?_
          refine gEx.sto (mdM_0 _ i).symm (m_md_l hc (by omega) ?_ 19 0 (by decide) (by decide))
          exact gEx_post (m_cm1_0 ⟨hR1, hR6, hA35⟩ (mRel_md hc i 18) hb hx hk hp hlen (mOne_md hc hR6 hx) hgo (fun h => by omega) hs) (fun o τ q => ⟨q.1, q.2.1, q.2.2⟩)
        · skip
          rw [bI_z] at h53
          refine g_iconst (nI (1)) dX7_comes_56 (by decide) ?_
          refine g_goto 61 dX7_comes_57 (by decide) ?_
          refine g_istore_n dX7_comes_61 (by decide) ?_
          refine g_iconst (nI (0)) dX7_comes_62 (by decide) ?_
          refine g_istore dX7_comes_63 (by decide) ?_
          refine gEx.sto (mdM_0 _ i).symm (m_md_l hc (by omega) ?_ 19 0 (by decide) (by decide))
          exact gEx_post (m_cm1_1 ⟨hR1, hR6, hA35⟩ (mRel_md hc i 18) hb hx hk hp hlen (mOne_md hc hR6 hx) hgo (by omega) (by omega) (by omega) hs) (fun o τ q => ⟨q.1, q.2.1, q.2.2⟩)
  · skip
    rw [nI_leI (by omega) (by omega)] at h22
    exfalso; omega

set_option maxRecDepth 100000 in
/-- comes -/
theorem m_comesF1 {R A : Nat} (hRA : pRA R A) {cm : Nat} {s : pT} {σ : gSt} (hc : mRel R A cm s σ) (hb : pBu s.1) {i : Nat} {x : pMsg} (hx : s.2[i]? = some x) (hk : x 0 = 1) (hp : pMk R A x) (hlen : s.2.length ≤ 400) (hgo : pGo1 R A s.1 x) (hs : ¬ sBrg R A x s) : gEM mG mX7_comes 0 [.inr (0), .inl (nI (i))] σ (gR (-1) (fun τ => τ = σ)) := by
  obtain ⟨hR1, hR6, hA35⟩ := hRA
  have hA5 : A ≤ 5 := by omega
  have hi := (List.getElem?_eq_some_iff.mp hx).1
  have hx4 := hp.1
  obtain ⟨hx1, hx2, hx3, hx5⟩ := hp.2.2.1 hk
  have hu : s.1 2 2 (x 1) ≤ 1 := hb 2 _ _ (by decide) (by decide)
  have hup : pUpOf s.1 x = s.1 2 2 (x 1) := by unfold pUpOf; simp [hk]
  have haH : pAnsH R A s.1 x ≤ 30 := by unfold pAnsH; split; omega; exact pAns_le hR6 hA5
  have hgo2 := hgo
  obtain ⟨g1, g2⟩ := hgo2
  have hbd := pBu_bd (R := R) (A := A) hb
  have hg2 : ∀ m, m < R → gx A s.1 x m ≤ 2 := fun m _ => by unfold gx; split; exact pOut_le hbd hx5; exact hb 13 _ _ (by decide) (by decide)
  have hd1 : s.1 10 (x 1) 0 ≠ 0 → pDec R A s.1 (x 1) (x 3) (x 2) (x 4) (x 5) = s.1 10 (x 1) 0 := fun h => pDec_old h
  refine gEM_of (by decide +kernel) rfl (Nat.le_of_ble_eq_true rfl) ?_
  refine g_aload_n dX7_comes_0 rfl ?_
  refine g_iload_n dX7_comes_1 rfl ?_
  refine g_iconst (nI (0)) dX7_comes_2 (by decide) ?_
  refine g_callVi (_) (n9 := 2) [.inl (nI (i)), .inl (nI (0))] [] (m_of (i := i) (j := 0) (by omega)) dX7_comes_3 (gU_V uw_4_25 uw_4_27 us_1_10 uw_1_8 uw_4_28) rfl (by decide +kernel) rfl ⟨by decide, by decide⟩ (mIn (by decide)) rfl rfl rfl (Nat.le_of_ble_eq_true rfl) (fun τ1 hq1 => ?_)
  subst hq1
  refine gEx.top (v := .inl (nI (1))) (congrArg Sum.inl (((hc.2.1 i x hx).1 0 (by decide)).trans ((pt0 x (by omega)).trans (by rw [hk])))) ?_
  refine g_istore_n dX7_comes_6 (by decide) ?_
  refine g_aload_n dX7_comes_7 rfl ?_
  refine g_get (T := TX7) (N := 26) (Cn := RX7) (ref := "CommitCouncilModel") 5 dX7_comes_8 (mIn (by decide)) rfl rfl (fun w h => List.mem_cons_of_mem _ (hU7 w h)) (by decide) (List.mem_cons_of_mem _ uw_3_128) (Or.inl rfl) rfl ?_
  refine gEx.top (v := .inl (nI (s.2.length))) (congrArg Sum.inl (hc.1.2.2.1)) ?_
  refine g_iconst (nI (1)) dX7_comes_11 (by decide) ?_
  refine g_isub dX7_comes_12 ?_
  refine gEx.top (v := .inl (nI (s.2.length - (1)))) (congrArg Sum.inl (pk_sub (by omega))) ?_
  refine g_aload_n dX7_comes_13 rfl ?_
  refine g_iload_n dX7_comes_14 rfl ?_
  refine g_callVi (nI (pAnsH R A s.1 x)) (n9 := 1) [.inl (nI (i))] [.inl (nI (s.2.length - (1)))] (m_leads1 ⟨hR1, hR6, hA35⟩ hc hb hx hk hp hlen hgo) dX7_comes_15 (gU_V uw_4_29 uw_4_31 us_1_11 uw_1_8 uw_4_32) rfl (by decide +kernel) rfl ⟨by decide, by decide⟩ (mIn (by decide)) rfl rfl rfl (Nat.le_of_ble_eq_true rfl) (fun σ3 hq3 => ?_)
  subst hq3
  refine g_iadd dX7_comes_18 ?_
  refine gEx.top (v := .inl (nI (s.2.length - (1) + pAnsH R A s.1 x))) (congrArg Sum.inl (nI_add _ _)) ?_
  refine g_sipush (nI (400)) dX7_comes_19 (by decide) ?_
  refine g_icmp_le 27 dX7_comes_22 (by decide) (fun h22 => ?_) (fun h22 => ?_)
  · skip
    rw [nI_leI (by omega) (by omega)] at h22
    exfalso; omega
  · skip
    rw [nI_leI (by omega) (by omega)] at h22
    refine g_iconst ((-1)) dX7_comes_25 (by decide) ?_
    exact g_iret dX7_comes_26 rfl (⟨rfl, rfl⟩)

set_option maxRecDepth 100000 in
/-- comes -/
theorem m_comesT2 {R A : Nat} (hRA : pRA R A) {cm : Nat} {s : pT} {σ : gSt} (hc : mRel R A cm s σ) (hb : pBu s.1) {i : Nat} {x : pMsg} (hx : s.2[i]? = some x) (hk : x 0 = 2) (hp : pMk R A x) (hlen : s.2.length ≤ 400) (hs : sBrg R A x s) : gEM mG mX7_comes 0 [.inr (0), .inl (nI (i))] σ (gR (nI (x 0)) (fun τ => mRel R A (cm + 1) (tBrg R A i x s) τ ∧ τ 0 0 = σ 0 0)) := by
  obtain ⟨hR1, hR6, hA35⟩ := hRA
  have hA5 : A ≤ 5 := by omega
  have hi := (List.getElem?_eq_some_iff.mp hx).1
  have hx4 := hp.1
  obtain ⟨hx1, hx41⟩ := hp.2.2.2.1 hk
  have hu : s.1 2 1 (x 1) ≤ 1 := hb 2 _ _ (by decide) (by decide)
  have hup : pUpOf s.1 x = s.1 2 1 (x 1) := by unfold pUpOf; simp [hk]
  have haH : pAnsH R A s.1 x ≤ 30 := by unfold pAnsH; split; omega; exact pAns_le hR6 hA5
  refine gEM_of (by decide +kernel) rfl (Nat.le_of_ble_eq_true rfl) ?_
  refine g_aload_n dX7_comes_0 rfl ?_
  refine g_iload_n dX7_comes_1 rfl ?_
  refine g_iconst (nI (0)) dX7_comes_2 (by decide) ?_
  refine g_callVi (_) (n9 := 2) [.inl (nI (i)), .inl (nI (0))] [] (m_of (i := i) (j := 0) (by omega)) dX7_comes_3 (gU_V uw_4_25 uw_4_27 us_1_10 uw_1_8 uw_4_28) rfl (by decide +kernel) rfl ⟨by decide, by decide⟩ (mIn (by decide)) rfl rfl rfl (Nat.le_of_ble_eq_true rfl) (fun τ1 hq1 => ?_)
  subst hq1
  refine gEx.top (v := .inl (nI (2))) (congrArg Sum.inl (((hc.2.1 i x hx).1 0 (by decide)).trans ((pt0 x (by omega)).trans (by rw [hk])))) ?_
  refine g_istore_n dX7_comes_6 (by decide) ?_
  refine g_aload_n dX7_comes_7 rfl ?_
  refine g_get (T := TX7) (N := 26) (Cn := RX7) (ref := "CommitCouncilModel") 5 dX7_comes_8 (mIn (by decide)) rfl rfl (fun w h => List.mem_cons_of_mem _ (hU7 w h)) (by decide) (List.mem_cons_of_mem _ uw_3_128) (Or.inl rfl) rfl ?_
  refine gEx.top (v := .inl (nI (s.2.length))) (congrArg Sum.inl (hc.1.2.2.1)) ?_
  refine g_iconst (nI (1)) dX7_comes_11 (by decide) ?_
  refine g_isub dX7_comes_12 ?_
  refine gEx.top (v := .inl (nI (s.2.length - (1)))) (congrArg Sum.inl (pk_sub (by omega))) ?_
  refine g_aload_n dX7_comes_13 rfl ?_
  refine g_iload_n dX7_comes_14 rfl ?_
  refine g_callVi (nI (pAnsH R A s.1 x)) (n9 := 1) [.inl (nI (i))] [.inl (nI (s.2.length - (1)))] (m_leads2 ⟨hR1, hR6, hA35⟩ hc hb hx hk hp hlen) dX7_comes_15 (gU_V uw_4_29 uw_4_31 us_1_11 uw_1_8 uw_4_32) rfl (by decide +kernel) rfl ⟨by decide, by decide⟩ (mIn (by decide)) rfl rfl rfl (Nat.le_of_ble_eq_true rfl) (fun σ3 hq3 => ?_)
  subst hq3
  refine g_iadd dX7_comes_18 ?_
  refine gEx.top (v := .inl (nI (s.2.length - (1) + pAnsH R A s.1 x))) (congrArg Sum.inl (nI_add _ _)) ?_
  refine g_sipush (nI (400)) dX7_comes_19 (by decide) ?_
  refine g_icmp_le 27 dX7_comes_22 (by decide) (fun h22 => ?_) (fun h22 => ?_)
  · skip
    rw [nI_leI (by omega) (by omega)] at h22
    refine g_iload_n dX7_comes_27 rfl ?_
    refine g_iconst (nI (1)) dX7_comes_28 (by decide) ?_
    refine g_icmp_ne 60 dX7_comes_29 (by decide) (fun h29 => ?_) (fun h29 => ?_)
    · skip
      rw [nI_eq (by omega) (by omega)] at h29
      refine g_iconst (nI (0)) dX7_comes_60 (by decide) ?_
      refine g_istore_n dX7_comes_61 (by decide) ?_
      refine g_iconst (nI (0)) dX7_comes_62 (by decide) ?_
      refine g_istore dX7_comes_63 (by decide) ?_
      refine gEx.sto (mdM_0 _ i).symm (m_md_l hc (by omega) ?_ 19 0 (by decide) (by decide))
      exact gEx_post (m_cm2_0 ⟨hR1, hR6, hA35⟩ (mRel_md hc i 18) hb hx hk hp hlen (mOne_md hc hR6 hx) hs) (fun o τ q => ⟨q.1, q.2.1, q.2.2⟩)
    · skip
      rw [nI_eq (by omega) (by omega)] at h29
      exfalso; omega
  · skip
    rw [nI_leI (by omega) (by omega)] at h22
    exfalso; omega

set_option maxRecDepth 100000 in
/-- comes -/
theorem m_comesF2 {R A : Nat} (hRA : pRA R A) {cm : Nat} {s : pT} {σ : gSt} (hc : mRel R A cm s σ) (hb : pBu s.1) {i : Nat} {x : pMsg} (hx : s.2[i]? = some x) (hk : x 0 = 2) (hp : pMk R A x) (hlen : s.2.length ≤ 400) (hs : ¬ sBrg R A x s) : gEM mG mX7_comes 0 [.inr (0), .inl (nI (i))] σ (gR (-1) (fun τ => τ = σ)) := by
  obtain ⟨hR1, hR6, hA35⟩ := hRA
  have hA5 : A ≤ 5 := by omega
  have hi := (List.getElem?_eq_some_iff.mp hx).1
  have hx4 := hp.1
  obtain ⟨hx1, hx41⟩ := hp.2.2.2.1 hk
  have hu : s.1 2 1 (x 1) ≤ 1 := hb 2 _ _ (by decide) (by decide)
  have hup : pUpOf s.1 x = s.1 2 1 (x 1) := by unfold pUpOf; simp [hk]
  have haH : pAnsH R A s.1 x ≤ 30 := by unfold pAnsH; split; omega; exact pAns_le hR6 hA5
  refine gEM_of (by decide +kernel) rfl (Nat.le_of_ble_eq_true rfl) ?_
  refine g_aload_n dX7_comes_0 rfl ?_
  refine g_iload_n dX7_comes_1 rfl ?_
  refine g_iconst (nI (0)) dX7_comes_2 (by decide) ?_
  refine g_callVi (_) (n9 := 2) [.inl (nI (i)), .inl (nI (0))] [] (m_of (i := i) (j := 0) (by omega)) dX7_comes_3 (gU_V uw_4_25 uw_4_27 us_1_10 uw_1_8 uw_4_28) rfl (by decide +kernel) rfl ⟨by decide, by decide⟩ (mIn (by decide)) rfl rfl rfl (Nat.le_of_ble_eq_true rfl) (fun τ1 hq1 => ?_)
  subst hq1
  refine gEx.top (v := .inl (nI (2))) (congrArg Sum.inl (((hc.2.1 i x hx).1 0 (by decide)).trans ((pt0 x (by omega)).trans (by rw [hk])))) ?_
  refine g_istore_n dX7_comes_6 (by decide) ?_
  refine g_aload_n dX7_comes_7 rfl ?_
  refine g_get (T := TX7) (N := 26) (Cn := RX7) (ref := "CommitCouncilModel") 5 dX7_comes_8 (mIn (by decide)) rfl rfl (fun w h => List.mem_cons_of_mem _ (hU7 w h)) (by decide) (List.mem_cons_of_mem _ uw_3_128) (Or.inl rfl) rfl ?_
  refine gEx.top (v := .inl (nI (s.2.length))) (congrArg Sum.inl (hc.1.2.2.1)) ?_
  refine g_iconst (nI (1)) dX7_comes_11 (by decide) ?_
  refine g_isub dX7_comes_12 ?_
  refine gEx.top (v := .inl (nI (s.2.length - (1)))) (congrArg Sum.inl (pk_sub (by omega))) ?_
  refine g_aload_n dX7_comes_13 rfl ?_
  refine g_iload_n dX7_comes_14 rfl ?_
  refine g_callVi (nI (pAnsH R A s.1 x)) (n9 := 1) [.inl (nI (i))] [.inl (nI (s.2.length - (1)))] (m_leads2 ⟨hR1, hR6, hA35⟩ hc hb hx hk hp hlen) dX7_comes_15 (gU_V uw_4_29 uw_4_31 us_1_11 uw_1_8 uw_4_32) rfl (by decide +kernel) rfl ⟨by decide, by decide⟩ (mIn (by decide)) rfl rfl rfl (Nat.le_of_ble_eq_true rfl) (fun σ3 hq3 => ?_)
  subst hq3
  refine g_iadd dX7_comes_18 ?_
  refine gEx.top (v := .inl (nI (s.2.length - (1) + pAnsH R A s.1 x))) (congrArg Sum.inl (nI_add _ _)) ?_
  refine g_sipush (nI (400)) dX7_comes_19 (by decide) ?_
  refine g_icmp_le 27 dX7_comes_22 (by decide) (fun h22 => ?_) (fun h22 => ?_)
  · skip
    rw [nI_leI (by omega) (by omega)] at h22
    exfalso; omega
  · skip
    rw [nI_leI (by omega) (by omega)] at h22
    refine g_iconst ((-1)) dX7_comes_25 (by decide) ?_
    exact g_iret dX7_comes_26 rfl (⟨rfl, rfl⟩)

set_option maxRecDepth 100000 in
/-- comes -/
theorem m_comesT3 {R A : Nat} (hRA : pRA R A) {cm : Nat} {s : pT} {σ : gSt} (hc : mRel R A cm s σ) (hb : pBu s.1) {i : Nat} {x : pMsg} (hx : s.2[i]? = some x) (hk : x 0 = 3) (hp : pMk R A x) (hlen : s.2.length ≤ 400) (hgo : pGo3 R A s.1 x) (hs : sBrg R A x s) : gEM mG mX7_comes 0 [.inr (0), .inl (nI (i))] σ (gR (nI (x 0)) (fun τ => mRel R A (cm + 1) (tBrg R A i x s) τ ∧ τ 0 0 = σ 0 0)) := by
  obtain ⟨hR1, hR6, hA35⟩ := hRA
  have hA5 : A ≤ 5 := by omega
  have hi := (List.getElem?_eq_some_iff.mp hx).1
  have hx4 := hp.1
  obtain ⟨hx1, hx2, hx41, hxt⟩ := hp.2.2.2.2.1 hk
  have hu : s.1 2 2 (x 1) ≤ 1 := hb 2 _ _ (by decide) (by decide)
  have hup : pUpOf s.1 x = s.1 2 2 (x 1) := by unfold pUpOf; simp [hk]
  have haH : pAnsH R A s.1 x ≤ 30 := by unfold pAnsH; split; omega; exact pAns_le hR6 hA5
  refine gEM_of (by decide +kernel) rfl (Nat.le_of_ble_eq_true rfl) ?_
  refine g_aload_n dX7_comes_0 rfl ?_
  refine g_iload_n dX7_comes_1 rfl ?_
  refine g_iconst (nI (0)) dX7_comes_2 (by decide) ?_
  refine g_callVi (_) (n9 := 2) [.inl (nI (i)), .inl (nI (0))] [] (m_of (i := i) (j := 0) (by omega)) dX7_comes_3 (gU_V uw_4_25 uw_4_27 us_1_10 uw_1_8 uw_4_28) rfl (by decide +kernel) rfl ⟨by decide, by decide⟩ (mIn (by decide)) rfl rfl rfl (Nat.le_of_ble_eq_true rfl) (fun τ1 hq1 => ?_)
  subst hq1
  refine gEx.top (v := .inl (nI (3))) (congrArg Sum.inl (((hc.2.1 i x hx).1 0 (by decide)).trans ((pt0 x (by omega)).trans (by rw [hk])))) ?_
  refine g_istore_n dX7_comes_6 (by decide) ?_
  refine g_aload_n dX7_comes_7 rfl ?_
  refine g_get (T := TX7) (N := 26) (Cn := RX7) (ref := "CommitCouncilModel") 5 dX7_comes_8 (mIn (by decide)) rfl rfl (fun w h => List.mem_cons_of_mem _ (hU7 w h)) (by decide) (List.mem_cons_of_mem _ uw_3_128) (Or.inl rfl) rfl ?_
  refine gEx.top (v := .inl (nI (s.2.length))) (congrArg Sum.inl (hc.1.2.2.1)) ?_
  refine g_iconst (nI (1)) dX7_comes_11 (by decide) ?_
  refine g_isub dX7_comes_12 ?_
  refine gEx.top (v := .inl (nI (s.2.length - (1)))) (congrArg Sum.inl (pk_sub (by omega))) ?_
  refine g_aload_n dX7_comes_13 rfl ?_
  refine g_iload_n dX7_comes_14 rfl ?_
  refine g_callVi (nI (pAnsH R A s.1 x)) (n9 := 1) [.inl (nI (i))] [.inl (nI (s.2.length - (1)))] (m_leads3 ⟨hR1, hR6, hA35⟩ hc hb hx hk hp hlen hgo) dX7_comes_15 (gU_V uw_4_29 uw_4_31 us_1_11 uw_1_8 uw_4_32) rfl (by decide +kernel) rfl ⟨by decide, by decide⟩ (mIn (by decide)) rfl rfl rfl (Nat.le_of_ble_eq_true rfl) (fun σ3 hq3 => ?_)
  subst hq3
  refine g_iadd dX7_comes_18 ?_
  refine gEx.top (v := .inl (nI (s.2.length - (1) + pAnsH R A s.1 x))) (congrArg Sum.inl (nI_add _ _)) ?_
  refine g_sipush (nI (400)) dX7_comes_19 (by decide) ?_
  refine g_icmp_le 27 dX7_comes_22 (by decide) (fun h22 => ?_) (fun h22 => ?_)
  · skip
    rw [nI_leI (by omega) (by omega)] at h22
    refine g_iload_n dX7_comes_27 rfl ?_
    refine g_iconst (nI (1)) dX7_comes_28 (by decide) ?_
    refine g_icmp_ne 60 dX7_comes_29 (by decide) (fun h29 => ?_) (fun h29 => ?_)
    · skip
      rw [nI_eq (by omega) (by omega)] at h29
      refine g_iconst (nI (0)) dX7_comes_60 (by decide) ?_
      refine g_istore_n dX7_comes_61 (by decide) ?_
      refine g_iconst (nI (0)) dX7_comes_62 (by decide) ?_
      refine g_istore dX7_comes_63 (by decide) ?_
      refine gEx.sto (mdM_0 _ i).symm (m_md_l hc (by omega) ?_ 19 0 (by decide) (by decide))
      exact gEx_post (m_cm3_0 ⟨hR1, hR6, hA35⟩ (mRel_md hc i 18) hb hx hk hp hlen (mOne_md hc hR6 hx) hgo hs) (fun o τ q => ⟨q.1, q.2.1, q.2.2⟩)
    · skip
      rw [nI_eq (by omega) (by omega)] at h29
      exfalso; omega
  · skip
    rw [nI_leI (by omega) (by omega)] at h22
    exfalso; omega

set_option maxRecDepth 100000 in
/-- comes -/
theorem m_comesF3 {R A : Nat} (hRA : pRA R A) {cm : Nat} {s : pT} {σ : gSt} (hc : mRel R A cm s σ) (hb : pBu s.1) {i : Nat} {x : pMsg} (hx : s.2[i]? = some x) (hk : x 0 = 3) (hp : pMk R A x) (hlen : s.2.length ≤ 400) (hgo : pGo3 R A s.1 x) (hs : ¬ sBrg R A x s) : gEM mG mX7_comes 0 [.inr (0), .inl (nI (i))] σ (gR (-1) (fun τ => τ = σ)) := by
  obtain ⟨hR1, hR6, hA35⟩ := hRA
  have hA5 : A ≤ 5 := by omega
  have hi := (List.getElem?_eq_some_iff.mp hx).1
  have hx4 := hp.1
  obtain ⟨hx1, hx2, hx41, hxt⟩ := hp.2.2.2.2.1 hk
  have hu : s.1 2 2 (x 1) ≤ 1 := hb 2 _ _ (by decide) (by decide)
  have hup : pUpOf s.1 x = s.1 2 2 (x 1) := by unfold pUpOf; simp [hk]
  have haH : pAnsH R A s.1 x ≤ 30 := by unfold pAnsH; split; omega; exact pAns_le hR6 hA5
  refine gEM_of (by decide +kernel) rfl (Nat.le_of_ble_eq_true rfl) ?_
  refine g_aload_n dX7_comes_0 rfl ?_
  refine g_iload_n dX7_comes_1 rfl ?_
  refine g_iconst (nI (0)) dX7_comes_2 (by decide) ?_
  refine g_callVi (_) (n9 := 2) [.inl (nI (i)), .inl (nI (0))] [] (m_of (i := i) (j := 0) (by omega)) dX7_comes_3 (gU_V uw_4_25 uw_4_27 us_1_10 uw_1_8 uw_4_28) rfl (by decide +kernel) rfl ⟨by decide, by decide⟩ (mIn (by decide)) rfl rfl rfl (Nat.le_of_ble_eq_true rfl) (fun τ1 hq1 => ?_)
  subst hq1
  refine gEx.top (v := .inl (nI (3))) (congrArg Sum.inl (((hc.2.1 i x hx).1 0 (by decide)).trans ((pt0 x (by omega)).trans (by rw [hk])))) ?_
  refine g_istore_n dX7_comes_6 (by decide) ?_
  refine g_aload_n dX7_comes_7 rfl ?_
  refine g_get (T := TX7) (N := 26) (Cn := RX7) (ref := "CommitCouncilModel") 5 dX7_comes_8 (mIn (by decide)) rfl rfl (fun w h => List.mem_cons_of_mem _ (hU7 w h)) (by decide) (List.mem_cons_of_mem _ uw_3_128) (Or.inl rfl) rfl ?_
  refine gEx.top (v := .inl (nI (s.2.length))) (congrArg Sum.inl (hc.1.2.2.1)) ?_
  refine g_iconst (nI (1)) dX7_comes_11 (by decide) ?_
  refine g_isub dX7_comes_12 ?_
  refine gEx.top (v := .inl (nI (s.2.length - (1)))) (congrArg Sum.inl (pk_sub (by omega))) ?_
  refine g_aload_n dX7_comes_13 rfl ?_
  refine g_iload_n dX7_comes_14 rfl ?_
  refine g_callVi (nI (pAnsH R A s.1 x)) (n9 := 1) [.inl (nI (i))] [.inl (nI (s.2.length - (1)))] (m_leads3 ⟨hR1, hR6, hA35⟩ hc hb hx hk hp hlen hgo) dX7_comes_15 (gU_V uw_4_29 uw_4_31 us_1_11 uw_1_8 uw_4_32) rfl (by decide +kernel) rfl ⟨by decide, by decide⟩ (mIn (by decide)) rfl rfl rfl (Nat.le_of_ble_eq_true rfl) (fun σ3 hq3 => ?_)
  subst hq3
  refine g_iadd dX7_comes_18 ?_
  refine gEx.top (v := .inl (nI (s.2.length - (1) + pAnsH R A s.1 x))) (congrArg Sum.inl (nI_add _ _)) ?_
  refine g_sipush (nI (400)) dX7_comes_19 (by decide) ?_
  refine g_icmp_le 27 dX7_comes_22 (by decide) (fun h22 => ?_) (fun h22 => ?_)
  · skip
    rw [nI_leI (by omega) (by omega)] at h22
    exfalso; omega
  · skip
    rw [nI_leI (by omega) (by omega)] at h22
    refine g_iconst ((-1)) dX7_comes_25 (by decide) ?_
    exact g_iret dX7_comes_26 rfl (⟨rfl, rfl⟩)

set_option maxRecDepth 100000 in
/-- comes -/
theorem m_comesT4 {R A : Nat} (hRA : pRA R A) {cm : Nat} {s : pT} {σ : gSt} (hc : mRel R A cm s σ) (hb : pBu s.1) {i : Nat} {x : pMsg} (hx : s.2[i]? = some x) (hk : x 0 = 4) (hp : pMk R A x) (hlen : s.2.length ≤ 400) (hs : sBrg R A x s) : gEM mG mX7_comes 0 [.inr (0), .inl (nI (i))] σ (gR (nI (x 0)) (fun τ => mRel R A (cm + 1) (tBrg R A i x s) τ ∧ τ 0 0 = σ 0 0)) := by
  obtain ⟨hR1, hR6, hA35⟩ := hRA
  have hA5 : A ≤ 5 := by omega
  have hi := (List.getElem?_eq_some_iff.mp hx).1
  have hx4 := hp.1
  obtain ⟨hx1, hx5⟩ := hp.2.2.2.2.2.1 hk
  have hu : s.1 2 0 (x 1) ≤ 1 := hb 2 _ _ (by decide) (by decide)
  have hup : pUpOf s.1 x = s.1 2 0 (x 1) := by unfold pUpOf; simp [hk]
  have haH : pAnsH R A s.1 x ≤ 30 := by unfold pAnsH; split; omega; exact pAns_le hR6 hA5
  refine gEM_of (by decide +kernel) rfl (Nat.le_of_ble_eq_true rfl) ?_
  refine g_aload_n dX7_comes_0 rfl ?_
  refine g_iload_n dX7_comes_1 rfl ?_
  refine g_iconst (nI (0)) dX7_comes_2 (by decide) ?_
  refine g_callVi (_) (n9 := 2) [.inl (nI (i)), .inl (nI (0))] [] (m_of (i := i) (j := 0) (by omega)) dX7_comes_3 (gU_V uw_4_25 uw_4_27 us_1_10 uw_1_8 uw_4_28) rfl (by decide +kernel) rfl ⟨by decide, by decide⟩ (mIn (by decide)) rfl rfl rfl (Nat.le_of_ble_eq_true rfl) (fun τ1 hq1 => ?_)
  subst hq1
  refine gEx.top (v := .inl (nI (4))) (congrArg Sum.inl (((hc.2.1 i x hx).1 0 (by decide)).trans ((pt0 x (by omega)).trans (by rw [hk])))) ?_
  refine g_istore_n dX7_comes_6 (by decide) ?_
  refine g_aload_n dX7_comes_7 rfl ?_
  refine g_get (T := TX7) (N := 26) (Cn := RX7) (ref := "CommitCouncilModel") 5 dX7_comes_8 (mIn (by decide)) rfl rfl (fun w h => List.mem_cons_of_mem _ (hU7 w h)) (by decide) (List.mem_cons_of_mem _ uw_3_128) (Or.inl rfl) rfl ?_
  refine gEx.top (v := .inl (nI (s.2.length))) (congrArg Sum.inl (hc.1.2.2.1)) ?_
  refine g_iconst (nI (1)) dX7_comes_11 (by decide) ?_
  refine g_isub dX7_comes_12 ?_
  refine gEx.top (v := .inl (nI (s.2.length - (1)))) (congrArg Sum.inl (pk_sub (by omega))) ?_
  refine g_aload_n dX7_comes_13 rfl ?_
  refine g_iload_n dX7_comes_14 rfl ?_
  refine g_callVi (nI (pAnsH R A s.1 x)) (n9 := 1) [.inl (nI (i))] [.inl (nI (s.2.length - (1)))] (m_leads4 ⟨hR1, hR6, hA35⟩ hc hb hx hk hp hlen) dX7_comes_15 (gU_V uw_4_29 uw_4_31 us_1_11 uw_1_8 uw_4_32) rfl (by decide +kernel) rfl ⟨by decide, by decide⟩ (mIn (by decide)) rfl rfl rfl (Nat.le_of_ble_eq_true rfl) (fun σ3 hq3 => ?_)
  subst hq3
  refine g_iadd dX7_comes_18 ?_
  refine gEx.top (v := .inl (nI (s.2.length - (1) + pAnsH R A s.1 x))) (congrArg Sum.inl (nI_add _ _)) ?_
  refine g_sipush (nI (400)) dX7_comes_19 (by decide) ?_
  refine g_icmp_le 27 dX7_comes_22 (by decide) (fun h22 => ?_) (fun h22 => ?_)
  · skip
    rw [nI_leI (by omega) (by omega)] at h22
    refine g_iload_n dX7_comes_27 rfl ?_
    refine g_iconst (nI (1)) dX7_comes_28 (by decide) ?_
    refine g_icmp_ne 60 dX7_comes_29 (by decide) (fun h29 => ?_) (fun h29 => ?_)
    · skip
      rw [nI_eq (by omega) (by omega)] at h29
      refine g_iconst (nI (0)) dX7_comes_60 (by decide) ?_
      refine g_istore_n dX7_comes_61 (by decide) ?_
      refine g_iconst (nI (0)) dX7_comes_62 (by decide) ?_
      refine g_istore dX7_comes_63 (by decide) ?_
      refine gEx.sto (mdM_0 _ i).symm (m_md_l hc (by omega) ?_ 19 0 (by decide) (by decide))
      exact gEx_post (m_cm4_0 ⟨hR1, hR6, hA35⟩ (mRel_md hc i 18) hb hx hk hp hlen (mOne_md hc hR6 hx) hs) (fun o τ q => ⟨q.1, q.2.1, q.2.2⟩)
    · skip
      rw [nI_eq (by omega) (by omega)] at h29
      exfalso; omega
  · skip
    rw [nI_leI (by omega) (by omega)] at h22
    exfalso; omega

set_option maxRecDepth 100000 in
/-- comes -/
theorem m_comesF4 {R A : Nat} (hRA : pRA R A) {cm : Nat} {s : pT} {σ : gSt} (hc : mRel R A cm s σ) (hb : pBu s.1) {i : Nat} {x : pMsg} (hx : s.2[i]? = some x) (hk : x 0 = 4) (hp : pMk R A x) (hlen : s.2.length ≤ 400) (hs : ¬ sBrg R A x s) : gEM mG mX7_comes 0 [.inr (0), .inl (nI (i))] σ (gR (-1) (fun τ => τ = σ)) := by
  obtain ⟨hR1, hR6, hA35⟩ := hRA
  have hA5 : A ≤ 5 := by omega
  have hi := (List.getElem?_eq_some_iff.mp hx).1
  have hx4 := hp.1
  obtain ⟨hx1, hx5⟩ := hp.2.2.2.2.2.1 hk
  have hu : s.1 2 0 (x 1) ≤ 1 := hb 2 _ _ (by decide) (by decide)
  have hup : pUpOf s.1 x = s.1 2 0 (x 1) := by unfold pUpOf; simp [hk]
  have haH : pAnsH R A s.1 x ≤ 30 := by unfold pAnsH; split; omega; exact pAns_le hR6 hA5
  refine gEM_of (by decide +kernel) rfl (Nat.le_of_ble_eq_true rfl) ?_
  refine g_aload_n dX7_comes_0 rfl ?_
  refine g_iload_n dX7_comes_1 rfl ?_
  refine g_iconst (nI (0)) dX7_comes_2 (by decide) ?_
  refine g_callVi (_) (n9 := 2) [.inl (nI (i)), .inl (nI (0))] [] (m_of (i := i) (j := 0) (by omega)) dX7_comes_3 (gU_V uw_4_25 uw_4_27 us_1_10 uw_1_8 uw_4_28) rfl (by decide +kernel) rfl ⟨by decide, by decide⟩ (mIn (by decide)) rfl rfl rfl (Nat.le_of_ble_eq_true rfl) (fun τ1 hq1 => ?_)
  subst hq1
  refine gEx.top (v := .inl (nI (4))) (congrArg Sum.inl (((hc.2.1 i x hx).1 0 (by decide)).trans ((pt0 x (by omega)).trans (by rw [hk])))) ?_
  refine g_istore_n dX7_comes_6 (by decide) ?_
  refine g_aload_n dX7_comes_7 rfl ?_
  refine g_get (T := TX7) (N := 26) (Cn := RX7) (ref := "CommitCouncilModel") 5 dX7_comes_8 (mIn (by decide)) rfl rfl (fun w h => List.mem_cons_of_mem _ (hU7 w h)) (by decide) (List.mem_cons_of_mem _ uw_3_128) (Or.inl rfl) rfl ?_
  refine gEx.top (v := .inl (nI (s.2.length))) (congrArg Sum.inl (hc.1.2.2.1)) ?_
  refine g_iconst (nI (1)) dX7_comes_11 (by decide) ?_
  refine g_isub dX7_comes_12 ?_
  refine gEx.top (v := .inl (nI (s.2.length - (1)))) (congrArg Sum.inl (pk_sub (by omega))) ?_
  refine g_aload_n dX7_comes_13 rfl ?_
  refine g_iload_n dX7_comes_14 rfl ?_
  refine g_callVi (nI (pAnsH R A s.1 x)) (n9 := 1) [.inl (nI (i))] [.inl (nI (s.2.length - (1)))] (m_leads4 ⟨hR1, hR6, hA35⟩ hc hb hx hk hp hlen) dX7_comes_15 (gU_V uw_4_29 uw_4_31 us_1_11 uw_1_8 uw_4_32) rfl (by decide +kernel) rfl ⟨by decide, by decide⟩ (mIn (by decide)) rfl rfl rfl (Nat.le_of_ble_eq_true rfl) (fun σ3 hq3 => ?_)
  subst hq3
  refine g_iadd dX7_comes_18 ?_
  refine gEx.top (v := .inl (nI (s.2.length - (1) + pAnsH R A s.1 x))) (congrArg Sum.inl (nI_add _ _)) ?_
  refine g_sipush (nI (400)) dX7_comes_19 (by decide) ?_
  refine g_icmp_le 27 dX7_comes_22 (by decide) (fun h22 => ?_) (fun h22 => ?_)
  · skip
    rw [nI_leI (by omega) (by omega)] at h22
    exfalso; omega
  · skip
    rw [nI_leI (by omega) (by omega)] at h22
    refine g_iconst ((-1)) dX7_comes_25 (by decide) ?_
    exact g_iret dX7_comes_26 rfl (⟨rfl, rfl⟩)

set_option maxRecDepth 100000 in
/-- comes -/
theorem m_comesT5 {R A : Nat} (hRA : pRA R A) {cm : Nat} {s : pT} {σ : gSt} (hc : mRel R A cm s σ) (hb : pBu s.1) {i : Nat} {x : pMsg} (hx : s.2[i]? = some x) (hk : x 0 = 5) (hp : pMk R A x) (hlen : s.2.length ≤ 400) (hs : sBrg R A x s) : gEM mG mX7_comes 0 [.inr (0), .inl (nI (i))] σ (gR (nI (x 0)) (fun τ => mRel R A (cm + 1) (tBrg R A i x s) τ ∧ τ 0 0 = σ 0 0)) := by
  obtain ⟨hR1, hR6, hA35⟩ := hRA
  have hA5 : A ≤ 5 := by omega
  have hi := (List.getElem?_eq_some_iff.mp hx).1
  have hx4 := hp.1
  obtain ⟨hx1, hx2⟩ := hp.2.2.2.2.2.2.1 hk
  have hu : s.1 2 2 (x 1) ≤ 1 := hb 2 _ _ (by decide) (by decide)
  have hup : pUpOf s.1 x = s.1 2 2 (x 1) := by unfold pUpOf; simp [hk]
  have haH : pAnsH R A s.1 x ≤ 30 := by unfold pAnsH; split; omega; exact pAns_le hR6 hA5
  refine gEM_of (by decide +kernel) rfl (Nat.le_of_ble_eq_true rfl) ?_
  refine g_aload_n dX7_comes_0 rfl ?_
  refine g_iload_n dX7_comes_1 rfl ?_
  refine g_iconst (nI (0)) dX7_comes_2 (by decide) ?_
  refine g_callVi (_) (n9 := 2) [.inl (nI (i)), .inl (nI (0))] [] (m_of (i := i) (j := 0) (by omega)) dX7_comes_3 (gU_V uw_4_25 uw_4_27 us_1_10 uw_1_8 uw_4_28) rfl (by decide +kernel) rfl ⟨by decide, by decide⟩ (mIn (by decide)) rfl rfl rfl (Nat.le_of_ble_eq_true rfl) (fun τ1 hq1 => ?_)
  subst hq1
  refine gEx.top (v := .inl (nI (5))) (congrArg Sum.inl (((hc.2.1 i x hx).1 0 (by decide)).trans ((pt0 x (by omega)).trans (by rw [hk])))) ?_
  refine g_istore_n dX7_comes_6 (by decide) ?_
  refine g_aload_n dX7_comes_7 rfl ?_
  refine g_get (T := TX7) (N := 26) (Cn := RX7) (ref := "CommitCouncilModel") 5 dX7_comes_8 (mIn (by decide)) rfl rfl (fun w h => List.mem_cons_of_mem _ (hU7 w h)) (by decide) (List.mem_cons_of_mem _ uw_3_128) (Or.inl rfl) rfl ?_
  refine gEx.top (v := .inl (nI (s.2.length))) (congrArg Sum.inl (hc.1.2.2.1)) ?_
  refine g_iconst (nI (1)) dX7_comes_11 (by decide) ?_
  refine g_isub dX7_comes_12 ?_
  refine gEx.top (v := .inl (nI (s.2.length - (1)))) (congrArg Sum.inl (pk_sub (by omega))) ?_
  refine g_aload_n dX7_comes_13 rfl ?_
  refine g_iload_n dX7_comes_14 rfl ?_
  refine g_callVi (nI (pAnsH R A s.1 x)) (n9 := 1) [.inl (nI (i))] [.inl (nI (s.2.length - (1)))] (m_leads5 ⟨hR1, hR6, hA35⟩ hc hb hx hk hp hlen) dX7_comes_15 (gU_V uw_4_29 uw_4_31 us_1_11 uw_1_8 uw_4_32) rfl (by decide +kernel) rfl ⟨by decide, by decide⟩ (mIn (by decide)) rfl rfl rfl (Nat.le_of_ble_eq_true rfl) (fun σ3 hq3 => ?_)
  subst hq3
  refine g_iadd dX7_comes_18 ?_
  refine gEx.top (v := .inl (nI (s.2.length - (1) + pAnsH R A s.1 x))) (congrArg Sum.inl (nI_add _ _)) ?_
  refine g_sipush (nI (400)) dX7_comes_19 (by decide) ?_
  refine g_icmp_le 27 dX7_comes_22 (by decide) (fun h22 => ?_) (fun h22 => ?_)
  · skip
    rw [nI_leI (by omega) (by omega)] at h22
    refine g_iload_n dX7_comes_27 rfl ?_
    refine g_iconst (nI (1)) dX7_comes_28 (by decide) ?_
    refine g_icmp_ne 60 dX7_comes_29 (by decide) (fun h29 => ?_) (fun h29 => ?_)
    · skip
      rw [nI_eq (by omega) (by omega)] at h29
      refine g_iconst (nI (0)) dX7_comes_60 (by decide) ?_
      refine g_istore_n dX7_comes_61 (by decide) ?_
      refine g_iconst (nI (0)) dX7_comes_62 (by decide) ?_
      refine g_istore dX7_comes_63 (by decide) ?_
      refine gEx.sto (mdM_0 _ i).symm (m_md_l hc (by omega) ?_ 19 0 (by decide) (by decide))
      exact gEx_post (m_cm5_0 ⟨hR1, hR6, hA35⟩ (mRel_md hc i 18) hb hx hk hp hlen (mOne_md hc hR6 hx) hs) (fun o τ q => ⟨q.1, q.2.1, q.2.2⟩)
    · skip
      rw [nI_eq (by omega) (by omega)] at h29
      exfalso; omega
  · skip
    rw [nI_leI (by omega) (by omega)] at h22
    exfalso; omega

set_option maxRecDepth 100000 in
/-- comes -/
theorem m_comesF5 {R A : Nat} (hRA : pRA R A) {cm : Nat} {s : pT} {σ : gSt} (hc : mRel R A cm s σ) (hb : pBu s.1) {i : Nat} {x : pMsg} (hx : s.2[i]? = some x) (hk : x 0 = 5) (hp : pMk R A x) (hlen : s.2.length ≤ 400) (hs : ¬ sBrg R A x s) : gEM mG mX7_comes 0 [.inr (0), .inl (nI (i))] σ (gR (-1) (fun τ => τ = σ)) := by
  obtain ⟨hR1, hR6, hA35⟩ := hRA
  have hA5 : A ≤ 5 := by omega
  have hi := (List.getElem?_eq_some_iff.mp hx).1
  have hx4 := hp.1
  obtain ⟨hx1, hx2⟩ := hp.2.2.2.2.2.2.1 hk
  have hu : s.1 2 2 (x 1) ≤ 1 := hb 2 _ _ (by decide) (by decide)
  have hup : pUpOf s.1 x = s.1 2 2 (x 1) := by unfold pUpOf; simp [hk]
  have haH : pAnsH R A s.1 x ≤ 30 := by unfold pAnsH; split; omega; exact pAns_le hR6 hA5
  refine gEM_of (by decide +kernel) rfl (Nat.le_of_ble_eq_true rfl) ?_
  refine g_aload_n dX7_comes_0 rfl ?_
  refine g_iload_n dX7_comes_1 rfl ?_
  refine g_iconst (nI (0)) dX7_comes_2 (by decide) ?_
  refine g_callVi (_) (n9 := 2) [.inl (nI (i)), .inl (nI (0))] [] (m_of (i := i) (j := 0) (by omega)) dX7_comes_3 (gU_V uw_4_25 uw_4_27 us_1_10 uw_1_8 uw_4_28) rfl (by decide +kernel) rfl ⟨by decide, by decide⟩ (mIn (by decide)) rfl rfl rfl (Nat.le_of_ble_eq_true rfl) (fun τ1 hq1 => ?_)
  subst hq1
  refine gEx.top (v := .inl (nI (5))) (congrArg Sum.inl (((hc.2.1 i x hx).1 0 (by decide)).trans ((pt0 x (by omega)).trans (by rw [hk])))) ?_
  refine g_istore_n dX7_comes_6 (by decide) ?_
  refine g_aload_n dX7_comes_7 rfl ?_
  refine g_get (T := TX7) (N := 26) (Cn := RX7) (ref := "CommitCouncilModel") 5 dX7_comes_8 (mIn (by decide)) rfl rfl (fun w h => List.mem_cons_of_mem _ (hU7 w h)) (by decide) (List.mem_cons_of_mem _ uw_3_128) (Or.inl rfl) rfl ?_
  refine gEx.top (v := .inl (nI (s.2.length))) (congrArg Sum.inl (hc.1.2.2.1)) ?_
  refine g_iconst (nI (1)) dX7_comes_11 (by decide) ?_
  refine g_isub dX7_comes_12 ?_
  refine gEx.top (v := .inl (nI (s.2.length - (1)))) (congrArg Sum.inl (pk_sub (by omega))) ?_
  refine g_aload_n dX7_comes_13 rfl ?_
  refine g_iload_n dX7_comes_14 rfl ?_
  refine g_callVi (nI (pAnsH R A s.1 x)) (n9 := 1) [.inl (nI (i))] [.inl (nI (s.2.length - (1)))] (m_leads5 ⟨hR1, hR6, hA35⟩ hc hb hx hk hp hlen) dX7_comes_15 (gU_V uw_4_29 uw_4_31 us_1_11 uw_1_8 uw_4_32) rfl (by decide +kernel) rfl ⟨by decide, by decide⟩ (mIn (by decide)) rfl rfl rfl (Nat.le_of_ble_eq_true rfl) (fun σ3 hq3 => ?_)
  subst hq3
  refine g_iadd dX7_comes_18 ?_
  refine gEx.top (v := .inl (nI (s.2.length - (1) + pAnsH R A s.1 x))) (congrArg Sum.inl (nI_add _ _)) ?_
  refine g_sipush (nI (400)) dX7_comes_19 (by decide) ?_
  refine g_icmp_le 27 dX7_comes_22 (by decide) (fun h22 => ?_) (fun h22 => ?_)
  · skip
    rw [nI_leI (by omega) (by omega)] at h22
    exfalso; omega
  · skip
    rw [nI_leI (by omega) (by omega)] at h22
    refine g_iconst ((-1)) dX7_comes_25 (by decide) ?_
    exact g_iret dX7_comes_26 rfl (⟨rfl, rfl⟩)

theorem m_comesT {R A : Nat} (hRA : pRA R A) {cm : Nat} {s : pT} {σ : gSt} (hc : mRel R A cm s σ) (hb : pBu s.1) {i : Nat} {x : pMsg} (hx : s.2[i]? = some x) (hp : pMk R A x) (hlen : s.2.length ≤ 400) (hgo : pGo R A s.1 x) (hs : sBrg R A x s) : gEM mG mX7_comes 0 [.inr 0, .inl (nI i)] σ (gR (nI (x 0)) (fun τ => mRel R A (cm + 1) (tBrg R A i x s) τ ∧ τ 0 0 = σ 0 0)) := by
  have h5 := hp.2.2.2.2.2.2.2
  rcases (show x 0 = 0 ∨ x 0 = 1 ∨ x 0 = 2 ∨ x 0 = 3 ∨ x 0 = 4 ∨ x 0 = 5 by omega) with hk | hk | hk | hk | hk | hk
  · exact m_comesT0 hRA hc hb hx hk hp hlen (hgo.1 hk) hs
  · exact m_comesT1 hRA hc hb hx hk hp hlen (hgo.2.1 hk) hs
  · exact m_comesT2 hRA hc hb hx hk hp hlen hs
  · exact m_comesT3 hRA hc hb hx hk hp hlen (hgo.2.2 hk) hs
  · exact m_comesT4 hRA hc hb hx hk hp hlen hs
  · exact m_comesT5 hRA hc hb hx hk hp hlen hs

theorem m_comesF {R A : Nat} (hRA : pRA R A) {cm : Nat} {s : pT} {σ : gSt} (hc : mRel R A cm s σ) (hb : pBu s.1) {i : Nat} {x : pMsg} (hx : s.2[i]? = some x) (hp : pMk R A x) (hlen : s.2.length ≤ 400) (hgo : pGo R A s.1 x) (hs : ¬ sBrg R A x s) : gEM mG mX7_comes 0 [.inr 0, .inl (nI i)] σ (gR (-1) (fun τ => τ = σ)) := by
  have h5 := hp.2.2.2.2.2.2.2
  rcases (show x 0 = 0 ∨ x 0 = 1 ∨ x 0 = 2 ∨ x 0 = 3 ∨ x 0 = 4 ∨ x 0 = 5 by omega) with hk | hk | hk | hk | hk | hk
  · exact m_comesF0 hRA hc hb hx hk hp hlen hs
  · exact m_comesF1 hRA hc hb hx hk hp hlen (hgo.2.1 hk) hs
  · exact m_comesF2 hRA hc hb hx hk hp hlen hs
  · exact m_comesF3 hRA hc hb hx hk hp hlen (hgo.2.2 hk) hs
  · exact m_comesF4 hRA hc hb hx hk hp hlen hs
  · exact m_comesF5 hRA hc hb hx hk hp hlen hs

set_option maxRecDepth 100000 in
/-- deliver -/
theorem m_deliverT {R A : Nat} (hRA : pRA R A) {cm : Nat} {s : pT} {σ : gSt} (hc : mRel R A cm s σ) (hb : pBu s.1) {i : Nat} {x : pMsg} (hx : s.2[i]? = some x) (hp : pMk R A x) (hlen : s.2.length ≤ 400) (hgo : pGo R A s.1 x) (hs : sBrg R A x s) : gEM mG mX7_deliver 0 [.inr (0), .inl (nI (i))] σ (gR (nI (x 0)) (mP R A (cm + 1) (tBrg R A i x s) 0)) := by
  obtain ⟨hR1, hR6, hA35⟩ := hRA
  have hA5 : A ≤ 5 := by omega
  have hi := (List.getElem?_eq_some_iff.mp hx).1
  refine gEM_of (by decide +kernel) rfl (Nat.le_of_ble_eq_true rfl) ?_
  refine g_aload_n dX7_deliver_0 rfl ?_
  refine g_aload_n dX7_deliver_1 rfl ?_
  refine g_iload_n dX7_deliver_2 rfl ?_
  refine g_callVi (nI (1)) (n9 := 1) [.inl (nI (i))] [.inr (0)] (m_isGT hc.1.2.2.1 hi (by omega)) dX7_deliver_3 (gU_V uw_4_17 uw_4_19 us_1_8 uw_1_8 uw_4_20) rfl (by decide +kernel) rfl ⟨by decide, by decide⟩ (mIn (by decide)) rfl rfl rfl (Nat.le_of_ble_eq_true rfl) (fun σ1 hp1 => ?_)
  subst hp1
  refine g_callVi (nI (0)) (n9 := 1) [.inl (nI (1))] [] (m_lacks1) dX7_deliver_6 (gU_V uw_3_218 uw_3_220 us_1_4 uw_1_8 uw_3_221) rfl (by decide +kernel) rfl ⟨by decide, by decide⟩ (mIn (by decide)) rfl rfl rfl (Nat.le_of_ble_eq_true rfl) (fun σ2 hq2 => ?_)
  subst hq2
  have hP := mP_thr hc 0
  have hc1 := hP.1
  refine g_if_eq 14 dX7_deliver_9 (by decide) (fun h9 => ?_) (fun h9 => ?_)
  · skip
    rw [nI_z (by omega)] at h9
    refine g_aload_n dX7_deliver_14 rfl ?_
    refine g_iload_n dX7_deliver_15 rfl ?_
    refine g_callVi (nI (x 0)) (n9 := 1) [.inl (nI (i))] [] (m_comesT ⟨hR1, hR6, hA35⟩ hc1 hb hx hp hlen hgo hs) dX7_deliver_16 (gU_V uw_4_21 uw_4_23 us_1_9 uw_1_8 uw_4_24) rfl (by decide +kernel) rfl ⟨by decide, by decide⟩ (mIn (by decide)) rfl rfl rfl (Nat.le_of_ble_eq_true rfl) (fun σ4 hq4 => ?_)
    exact g_iret dX7_deliver_19 rfl (⟨rfl, hq4.1, hq4.2⟩)
  · skip
    rw [nI_z (by omega)] at h9
    exfalso; omega

set_option maxRecDepth 100000 in
/-- deliver -/
theorem m_deliverF {R A : Nat} (hRA : pRA R A) {cm : Nat} {s : pT} {σ : gSt} (hc : mRel R A cm s σ) (hb : pBu s.1) {i : Nat} {x : pMsg} (hx : s.2[i]? = some x) (hp : pMk R A x) (hlen : s.2.length ≤ 400) (hgo : pGo R A s.1 x) (hs : ¬ sBrg R A x s) : gEM mG mX7_deliver 0 [.inr (0), .inl (nI (i))] σ (gR (-1) (mP R A cm s 0)) := by
  obtain ⟨hR1, hR6, hA35⟩ := hRA
  have hA5 : A ≤ 5 := by omega
  have hi := (List.getElem?_eq_some_iff.mp hx).1
  refine gEM_of (by decide +kernel) rfl (Nat.le_of_ble_eq_true rfl) ?_
  refine g_aload_n dX7_deliver_0 rfl ?_
  refine g_aload_n dX7_deliver_1 rfl ?_
  refine g_iload_n dX7_deliver_2 rfl ?_
  refine g_callVi (nI (1)) (n9 := 1) [.inl (nI (i))] [.inr (0)] (m_isGT hc.1.2.2.1 hi (by omega)) dX7_deliver_3 (gU_V uw_4_17 uw_4_19 us_1_8 uw_1_8 uw_4_20) rfl (by decide +kernel) rfl ⟨by decide, by decide⟩ (mIn (by decide)) rfl rfl rfl (Nat.le_of_ble_eq_true rfl) (fun σ1 hp1 => ?_)
  subst hp1
  refine g_callVi (nI (0)) (n9 := 1) [.inl (nI (1))] [] (m_lacks1) dX7_deliver_6 (gU_V uw_3_218 uw_3_220 us_1_4 uw_1_8 uw_3_221) rfl (by decide +kernel) rfl ⟨by decide, by decide⟩ (mIn (by decide)) rfl rfl rfl (Nat.le_of_ble_eq_true rfl) (fun σ2 hq2 => ?_)
  subst hq2
  have hP := mP_thr hc 0
  have hc1 := hP.1
  refine g_if_eq 14 dX7_deliver_9 (by decide) (fun h9 => ?_) (fun h9 => ?_)
  · skip
    rw [nI_z (by omega)] at h9
    refine g_aload_n dX7_deliver_14 rfl ?_
    refine g_iload_n dX7_deliver_15 rfl ?_
    refine g_callVi (-1) (n9 := 1) [.inl (nI (i))] [] (m_comesF ⟨hR1, hR6, hA35⟩ hc1 hb hx hp hlen hgo hs) dX7_deliver_16 (gU_V uw_4_21 uw_4_23 us_1_9 uw_1_8 uw_4_24) rfl (by decide +kernel) rfl ⟨by decide, by decide⟩ (mIn (by decide)) rfl rfl rfl (Nat.le_of_ble_eq_true rfl) (fun σ4 hq4 => ?_)
    subst hq4
    exact g_iret dX7_deliver_19 rfl (⟨rfl, hP⟩)
  · skip
    rw [nI_z (by omega)] at h9
    exfalso; omega

set_option maxRecDepth 100000 in
/-- deliver -/
theorem m_deliverX {R A : Nat} (hRA : pRA R A) {cm : Nat} {s : pT} {σ : gSt} (hc : mRel R A cm s σ) {y : Int32} (hy : y < 0 ∨ nI s.2.length ≤ y) : gEM mG mX7_deliver 0 [.inr (0), .inl (y)] σ (gR 0 (mP R A cm s 1)) := by
  refine gEM_of (by decide +kernel) rfl (Nat.le_of_ble_eq_true rfl) ?_
  refine g_aload_n dX7_deliver_0 rfl ?_
  refine g_aload_n dX7_deliver_1 rfl ?_
  refine g_iload_n dX7_deliver_2 rfl ?_
  refine g_callVi (nI (0)) (n9 := 1) [.inl (y)] [.inr (0)] (m_isGF hc.1.2.2.1 hy) dX7_deliver_3 (gU_V uw_4_17 uw_4_19 us_1_8 uw_1_8 uw_4_20) rfl (by decide +kernel) rfl ⟨by decide, by decide⟩ (mIn (by decide)) rfl rfl rfl (Nat.le_of_ble_eq_true rfl) (fun σ1 hp1 => ?_)
  subst hp1
  refine g_callVi (nI (1)) (n9 := 1) [.inl (nI (0))] [] (m_lacks0) dX7_deliver_6 (gU_V uw_3_218 uw_3_220 us_1_4 uw_1_8 uw_3_221) rfl (by decide +kernel) rfl ⟨by decide, by decide⟩ (mIn (by decide)) rfl rfl rfl (Nat.le_of_ble_eq_true rfl) (fun σ2 hq2 => ?_)
  subst hq2
  have hP := mP_thr hc 1
  refine g_if_eq 14 dX7_deliver_9 (by decide) (fun h9 => ?_) (fun h9 => ?_)
  · skip
    rw [nI_z (by omega)] at h9
    exfalso; omega
  · skip
    rw [nI_z (by omega)] at h9
    refine g_iconst (nI (0)) dX7_deliver_12 (by decide) ?_
    exact g_iret dX7_deliver_13 rfl (⟨rfl, hP⟩)

theorem pTake_1 {R A : Nat} {α : pS} {x : pMsg} (h5 : x 0 ≤ 5) : (pTake R A α x).1 1 = α 1 := by
  rcases (show x 0 = 0 ∨ x 0 = 1 ∨ x 0 = 2 ∨ x 0 = 3 ∨ x 0 = 4 ∨ x 0 = 5 by omega) with hk | hk | hk | hk | hk | hk
  · rw [take0 hk]
    split
    · show pEnter _ _ _ _ _ _ 1 = _
      rw [pEnter_c (by decide) (by decide) (by decide)]
      rfl
    · rfl
  · rw [take1 hk]
    unfold tSee
    dsimp only
    rw [pu_c _ (by decide), pu_c _ (by decide)]
    split <;> rfl
  · rw [take2 hk]
    split <;> rfl
  · rw [take3 hk]
    split
    · split <;> rfl
    · rfl
  · rw [take4 hk]; rfl
  · rw [take5 hk]
theorem tBrg_cm {R A i : Nat} {s : pT} {x : pMsg} (h5 : x 0 ≤ 5) : (tBrg R A i x s).1 1 1 0 = s.1 1 1 0 + 1 := by
  unfold tBrg
  dsimp only
  rw [pu_at]
  split
  · rfl
  · rw [pTake_1 h5]

set_option maxRecDepth 100000 in
theorem m_calm_T {R A : Nat} (hRA : pRA R A) {cm : Nat} {s : pT} {σ : gSt} (hc : mRel R A cm s σ) (hb : pBu s.1) {x : pMsg} (hx : s.2[0]? = some x) (hp : pMk R A x) (hlen : s.2.length ≤ 400) (hgo : pGo R A s.1 x) (hs : sBrg R A x s) {n t : Nat} {Q : gOut → gSt → Prop} (k : ∀ τ, mRel R A (cm + 1) (tBrg R A 0 x s) τ → τ 0 0 = σ 0 0 → gEx mG mX7_calm 0 31 [some (.inr 0), some (.inl (nI n)), some (.inl (nI (t + 1)))] [] τ Q) : gEx mG mX7_calm 0 43 [some (.inr 0), some (.inl (nI n)), some (.inl (nI t))] [] σ Q := by
  have hx5 := hp.2.2.2.2.2.2.2
  refine g_aload_n dX7_calm_43 rfl ?_
  refine g_iconst (nI (0)) dX7_calm_44 (by decide) ?_
  refine g_callVi (nI (x 0)) (n9 := 1) [.inl (nI (0))] [] (m_comesT hRA hc hb hx hp hlen hgo hs) dX7_calm_45 (gU_V uw_4_21 uw_4_23 us_1_9 uw_1_8 uw_4_24) rfl (by decide +kernel) rfl ⟨by decide, by decide⟩ (mIn (by decide)) rfl rfl rfl (Nat.le_of_ble_eq_true rfl) (fun τ1 hq1 => ?_)
  refine g_iconst ((-1)) dX7_calm_48 (by decide) ?_
  refine g_icmp_eq 58 dX7_calm_49 (by decide) (fun h49 => ?_) (fun h49 => ?_)
  · skip
    skip
    exact absurd h49.symm (m1_ne (by omega))
  · skip
    skip
    refine g_iinc (nI (t + 1)) dX7_calm_52 rfl (show nI (t) + nI 1 = _ from nI_add _ _) (by decide) ?_
    refine g_goto 31 dX7_calm_55 (by decide) ?_
    exact k _ hq1.1 hq1.2

set_option maxRecDepth 100000 in
theorem m_calm_F {R A : Nat} (hRA : pRA R A) {cm : Nat} {s : pT} {σ : gSt} (hc : mRel R A cm s σ) (hb : pBu s.1) {x : pMsg} (hx : s.2[0]? = some x) (hp : pMk R A x) (hlen : s.2.length ≤ 400) (hgo : pGo R A s.1 x) (hs : ¬ sBrg R A x s) {n t : Nat} {Q : gOut → gSt → Prop} (k : Q (.inl (some (.inl (nI t)))) σ) : gEx mG mX7_calm 0 43 [some (.inr 0), some (.inl (nI n)), some (.inl (nI t))] [] σ Q := by
  refine g_aload_n dX7_calm_43 rfl ?_
  refine g_iconst (nI (0)) dX7_calm_44 (by decide) ?_
  refine g_callVi (-1) (n9 := 1) [.inl (nI (0))] [] (m_comesF hRA hc hb hx hp hlen hgo hs) dX7_calm_45 (gU_V uw_4_21 uw_4_23 us_1_9 uw_1_8 uw_4_24) rfl (by decide +kernel) rfl ⟨by decide, by decide⟩ (mIn (by decide)) rfl rfl rfl (Nat.le_of_ble_eq_true rfl) (fun τ1 hq1 => ?_)
  subst hq1
  refine g_iconst ((-1)) dX7_calm_48 (by decide) ?_
  refine g_icmp_eq 58 dX7_calm_49 (by decide) (fun h49 => ?_) (fun h49 => ?_)
  · skip
    skip
    refine g_iload_n dX7_calm_58 rfl ?_
    exact g_iret dX7_calm_59 rfl (k)
  · skip
    skip
    exact absurd rfl h49

set_option maxRecDepth 100000 in
theorem m_calm_l {R A : Nat} (hRA : pRA R A) {I : pT → Prop} (hI1 : ∀ s, I s → pBu s.1 ∧ (∀ (i : Nat) (x : pMsg), s.2[i]? = some x → pMk R A x) ∧ s.2.length ≤ 400) (hI2 : ∀ (s : pT) (x : pMsg), I s → s.2[0]? = some x → sBrg R A x s → I (tBrg R A 0 x s)) (hI3 : ∀ (s : pT) (x : pMsg), I s → s.2[0]? = some x → pGo R A s.1 x) {n : Nat} (hn : n ≤ 400) : ∀ (k t : Nat), t ≤ n → n - t < k → ∀ (s : pT) (σ : gSt), mRel R A (s.1 1 1 0) s σ → σ 0 0 = nI 0 → I s → gEx mG mX7_calm 0 31 [some (.inr 0), some (.inl (nI n)), some (.inl (nI t))] [] σ (gR (nI (t + (tCalm R A (n - t) s).1)) (fun τ => mP R A ((tCalm R A (n - t) s).2.1 1 1 0) (tCalm R A (n - t) s).2 0 τ)) := by
  intro k
  induction k with
  | zero => intro t hi1 hi2; exact absurd hi2 (by omega)
  | succ k ih =>
    intro t hi1 hi2 s σ hc hz hI
    obtain ⟨hb, hpm, hlen⟩ := hI1 s hI
    refine g_iload_n dX7_calm_31 rfl ?_
    refine g_iload_n dX7_calm_32 rfl ?_
    refine g_icmp_ge 58 dX7_calm_33 (by decide) (fun h33 => ?_) (fun h33 => ?_)
    · skip
      rw [nI_leI (by omega) (by omega)] at h33
      refine g_iload_n dX7_calm_58 rfl ?_
      refine g_iret dX7_calm_59 rfl ?_
      first | (have e : tCalm R A (n - t) s = (0, s) := by rw [show n - t = 0 by omega]; rfl); (rw [e]; exact ⟨rfl, hc, hz⟩) | (have e : tCalm R A (n - t) s = (0, s) := tCalm_e (by omega)); (rw [e]; exact ⟨rfl, hc, hz⟩)
    · skip
      rw [nI_leI (by omega) (by omega)] at h33
      refine g_aload_n dX7_calm_36 rfl ?_
      refine g_get (T := TX7) (N := 26) (Cn := RX7) (ref := "CommitCouncilModel") 5 dX7_calm_37 (mIn (by decide)) rfl rfl (fun w h => List.mem_cons_of_mem _ (hU7 w h)) (by decide) (List.mem_cons_of_mem _ uw_3_128) (Or.inl rfl) rfl ?_
      refine gEx.top (v := .inl (nI (s.2.length))) (congrArg Sum.inl (hc.1.2.2.1)) ?_
      refine g_if_le 58 dX7_calm_40 (by decide) (fun h40 => ?_) (fun h40 => ?_)
      · skip
        rw [nI_np (by omega)] at h40
        refine g_iload_n dX7_calm_58 rfl ?_
        refine g_iret dX7_calm_59 rfl ?_
        first | (have e : tCalm R A (n - t) s = (0, s) := by rw [show n - t = 0 by omega]; rfl); (rw [e]; exact ⟨rfl, hc, hz⟩) | (have e : tCalm R A (n - t) s = (0, s) := tCalm_e (by omega)); (rw [e]; exact ⟨rfl, hc, hz⟩)
      · skip
        rw [nI_np (by omega)] at h40
        obtain ⟨x, hx⟩ : ∃ x, s.2[0]? = some x := ⟨s.2[0], List.getElem?_eq_getElem (by omega)⟩
        by_cases hs : sBrg R A x s
        · rw [show n - t = (n - (t + 1)) + 1 by omega, tCalm_s hx hs]
          refine m_calm_T hRA hc hb hx (hpm 0 x hx) hlen (hI3 s x hI hx) hs (fun τ hτ hτ0 => ?_)
          rw [← tBrg_cm (R := R) (A := A) (i := 0) (hpm 0 x hx).2.2.2.2.2.2.2] at hτ
          have := ih (t + 1) (by omega) (by omega) _ τ hτ (hτ0.trans hz) (hI2 s x hI hx hs)
          rw [show t + 1 + (tCalm R A (n - (t + 1)) (tBrg R A 0 x s)).1 = t + ((tCalm R A (n - (t + 1)) (tBrg R A 0 x s)).1 + 1) by omega] at this
          exact this
        · rw [tCalm_w hx hs]
          exact m_calm_F hRA hc hb hx (hpm 0 x hx) hlen (hI3 s x hI hx) hs ⟨rfl, hc, hz⟩

set_option maxRecDepth 100000 in
/-- calm -/
theorem m_calm {R A : Nat} (hRA : pRA R A) {I : pT → Prop} (hI1 : ∀ s, I s → pBu s.1 ∧ (∀ (i : Nat) (x : pMsg), s.2[i]? = some x → pMk R A x) ∧ s.2.length ≤ 400) (hI2 : ∀ (s : pT) (x : pMsg), I s → s.2[0]? = some x → sBrg R A x s → I (tBrg R A 0 x s)) (hI3 : ∀ (s : pT) (x : pMsg), I s → s.2[0]? = some x → pGo R A s.1 x) {s : pT} {σ : gSt} (hc : mRel R A (s.1 1 1 0) s σ) (hI : I s) {n : Nat} (hn : n ≤ 400) : gEM mG mX7_calm 0 [.inr (0), .inl (nI (n))] σ (gR (nI (tCalm R A n s).1) (fun τ => mP R A ((tCalm R A n s).2.1 1 1 0) (tCalm R A n s).2 0 τ)) := by
  refine gEM_of (by decide +kernel) rfl (Nat.le_of_ble_eq_true rfl) ?_
  refine g_aload_n dX7_calm_0 rfl ?_
  refine g_iload_n dX7_calm_1 rfl ?_
  refine g_if_lt 12 dX7_calm_2 (by decide) (fun h2 => ?_) (fun h2 => ?_)
  · skip
    rw [nI_n (by omega)] at h2
    exact h2.elim
  · skip
    rw [nI_n (by omega)] at h2
    refine g_iload_n dX7_calm_5 rfl ?_
    refine g_sipush (nI (400)) dX7_calm_6 (by decide) ?_
    refine g_icmp_le 16 dX7_calm_9 (by decide) (fun h9 => ?_) (fun h9 => ?_)
    · skip
      rw [nI_leI (by omega) (by omega)] at h9
      refine g_iconst (nI (0)) dX7_calm_16 (by decide) ?_
      refine g_put (T := TX7) (N := 26) (Cn := RX7) (ref := "CommitCouncilModel") (ty0 := tyX7) 0 dX7_calm_17 (mIn (by decide)) rfl rfl (fun w h => List.mem_cons_of_mem _ (hU7 w h)) tyX7_ok nmX7 (by decide) (List.mem_cons_of_mem _ uw_3_123) (Or.inl rfl) rfl rfl rfl rfl ?_
      have hP := mP_thr hc 0
      refine g_aload_n dX7_calm_20 rfl ?_
      refine g_get (T := TX7) (N := 26) (Cn := RX7) (ref := "CommitCouncilModel") 0 dX7_calm_21 (mIn (by decide)) rfl rfl (fun w h => List.mem_cons_of_mem _ (hU7 w h)) (by decide) (List.mem_cons_of_mem _ uw_3_123) (Or.inl rfl) rfl ?_
      refine gEx.top (v := .inl (nI (0))) (congrArg Sum.inl (rfl)) ?_
      refine g_if_le 29 dX7_calm_24 (by decide) (fun h24 => ?_) (fun h24 => ?_)
      · skip
        rw [nI_np (by omega)] at h24
        refine g_iconst (nI (0)) dX7_calm_29 (by decide) ?_
        refine g_istore_n dX7_calm_30 (by decide) ?_
        have := m_calm_l hRA hI1 hI2 hI3 hn (n + 1) 0 (by omega) (by omega) s _ hP.1 hP.2 hI
        rw [Nat.zero_add] at this
        exact this
      · skip
        rw [nI_np (by omega)] at h24
        exfalso; omega
    · skip
      rw [nI_leI (by omega) (by omega)] at h9
      exfalso; omega

set_option maxRecDepth 100000 in
/-- calm -/
theorem m_calmX {R A : Nat} (hRA : pRA R A) {cm : Nat} {s : pT} {σ : gSt} (hc : mRel R A cm s σ) {y : Int32} (hy : y < 0 ∨ nI 400 < y) : gEM mG mX7_calm 0 [.inr (0), .inl (y)] σ (gR 0 (mP R A cm s 1)) := by
  refine gEM_of (by decide +kernel) rfl (Nat.le_of_ble_eq_true rfl) ?_
  refine g_aload_n dX7_calm_0 rfl ?_
  refine g_iload_n dX7_calm_1 rfl ?_
  refine g_if_lt 12 dX7_calm_2 (by decide) (fun h2 => ?_) (fun h2 => ?_)
  · skip
    refine g_iconst (nI (1)) dX7_calm_12 (by decide) ?_
    refine g_goto 17 dX7_calm_13 (by decide) ?_
    refine g_put (T := TX7) (N := 26) (Cn := RX7) (ref := "CommitCouncilModel") (ty0 := tyX7) 0 dX7_calm_17 (mIn (by decide)) rfl rfl (fun w h => List.mem_cons_of_mem _ (hU7 w h)) tyX7_ok nmX7 (by decide) (List.mem_cons_of_mem _ uw_3_123) (Or.inl rfl) rfl rfl rfl rfl ?_
    have hP := mP_thr hc 1
    refine g_aload_n dX7_calm_20 rfl ?_
    refine g_get (T := TX7) (N := 26) (Cn := RX7) (ref := "CommitCouncilModel") 0 dX7_calm_21 (mIn (by decide)) rfl rfl (fun w h => List.mem_cons_of_mem _ (hU7 w h)) (by decide) (List.mem_cons_of_mem _ uw_3_123) (Or.inl rfl) rfl ?_
    refine gEx.top (v := .inl (nI (1))) (congrArg Sum.inl (rfl)) ?_
    refine g_if_le 29 dX7_calm_24 (by decide) (fun h24 => ?_) (fun h24 => ?_)
    · skip
      rw [nI_np (by omega)] at h24
      exfalso; omega
    · skip
      rw [nI_np (by omega)] at h24
      refine g_iconst (nI (0)) dX7_calm_27 (by decide) ?_
      exact g_iret dX7_calm_28 rfl (⟨rfl, hP⟩)
  · skip
    refine g_iload_n dX7_calm_5 rfl ?_
    refine g_sipush (nI (400)) dX7_calm_6 (by decide) ?_
    refine g_icmp_le 16 dX7_calm_9 (by decide) (fun h9 => ?_) (fun h9 => ?_)
    · skip
      rcases hy with q | q
      · exact absurd q h2
      · exact absurd h9 (Int32.not_le.mpr q)
    · skip
      refine g_iconst (nI (1)) dX7_calm_12 (by decide) ?_
      refine g_goto 17 dX7_calm_13 (by decide) ?_
      refine g_put (T := TX7) (N := 26) (Cn := RX7) (ref := "CommitCouncilModel") (ty0 := tyX7) 0 dX7_calm_17 (mIn (by decide)) rfl rfl (fun w h => List.mem_cons_of_mem _ (hU7 w h)) tyX7_ok nmX7 (by decide) (List.mem_cons_of_mem _ uw_3_123) (Or.inl rfl) rfl rfl rfl rfl ?_
      have hP := mP_thr hc 1
      refine g_aload_n dX7_calm_20 rfl ?_
      refine g_get (T := TX7) (N := 26) (Cn := RX7) (ref := "CommitCouncilModel") 0 dX7_calm_21 (mIn (by decide)) rfl rfl (fun w h => List.mem_cons_of_mem _ (hU7 w h)) (by decide) (List.mem_cons_of_mem _ uw_3_123) (Or.inl rfl) rfl ?_
      refine gEx.top (v := .inl (nI (1))) (congrArg Sum.inl (rfl)) ?_
      refine g_if_le 29 dX7_calm_24 (by decide) (fun h24 => ?_) (fun h24 => ?_)
      · skip
        rw [nI_np (by omega)] at h24
        exfalso; omega
      · skip
        rw [nI_np (by omega)] at h24
        refine g_iconst (nI (0)) dX7_calm_27 (by decide) ?_
        exact g_iret dX7_calm_28 rfl (⟨rfl, hP⟩)
