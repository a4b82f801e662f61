set_option maxRecDepth 100000 in
theorem c_sendVotes_l {R A : Nat} (hRA : pRA R A) {s : pT} {m b w : Nat} (hn : s.2.length + A ≤ 401) : ∀ (k i : Nat), i ≤ A → A - i < k → ∀ σ, cRel R A (pAdd s i (fun a => mVote a m b w)) σ → gEx (cG R A) mX6_sendVotes 0 3 [some (.inr (0)), some (.inl (nI (m))), some (.inl (nI (b))), some (.inl (nI (w))), some (.inl (nI (i)))] [] σ (gV (fun τ => cRel R A (pAdd s A (fun a => mVote a m b w)) τ)) := by
  intro k
  induction k with
  | zero => intro i hi1 hi2; exact absurd hi2 (by omega)
  | succ k ih =>
    intro i hi1 hi2 σ hc
    obtain ⟨hR1, hR6, hA35⟩ := hRA
    refine g_iload dX6_sendVotes_3 rfl ?_
    refine g_aload_n dX6_sendVotes_5 rfl ?_
    refine g_getr (T := TX6) (N := 7) (Cn := RX6) (ref := "CommitCouncil") 1 dX6_sendVotes_6 (cIn_lo (by decide)) cSh_0 rfl (fun w h => List.mem_cons_of_mem _ (hU6 w h)) (by decide) (List.mem_cons_of_mem _ uw_1_159) (Or.inl rfl) rfl ?_
    refine g_alen (nI (A)) dX6_sendVotes_9 (cIn_lo (by decide)) cSh_2 (by decide) rfl ?_
    refine g_icmp_ge 33 dX6_sendVotes_10 (by decide) (fun h10 => ?_) (fun h10 => ?_)
    · skip
      rw [nI_leI (by omega) (by omega)] at h10
      refine g_vret dX6_sendVotes_33 rfl ?_
      have e : i = A := by omega
      subst e
      exact ⟨rfl, hc⟩
    · skip
      rw [nI_leI (by omega) (by omega)] at h10
      refine g_aload_n dX6_sendVotes_13 rfl ?_
      refine g_getr (T := TX6) (N := 7) (Cn := RX6) (ref := "CommitCouncil") 3 dX6_sendVotes_14 (cIn_lo (by decide)) cSh_0 rfl (fun w h => List.mem_cons_of_mem _ (hU6 w h)) (by decide) (List.mem_cons_of_mem _ uw_1_161) (Or.inl rfl) rfl ?_
      refine g_iconst (nI (0)) dX6_sendVotes_17 (by decide) ?_
      refine g_iload dX6_sendVotes_18 rfl ?_
      refine g_iconst ((-1)) dX6_sendVotes_20 (by decide) ?_
      refine g_iload_n dX6_sendVotes_21 rfl ?_
      refine g_iload_n dX6_sendVotes_22 rfl ?_
      refine g_iload_n dX6_sendVotes_23 rfl ?_
      refine g_callVv (n9 := 6) [.inl (nI (0)), .inl (nI (i)), .inl ((-1)), .inl (nI (m)), .inl (nI (b)), .inl (nI (w))] [] (c_send hc.2.1.1 hc.2.1.2.2.1 hR6 (by rw [pAdd_len]; omega)) dX6_sendVotes_24 (gU_V uw_2_73 uw_2_74 uw_2_75 uw_1_6 uw_2_76) rfl (by decide +kernel) rfl ⟨by decide, by decide⟩ (cIn_lo (by decide)) cSh_4 rfl rfl (Nat.le_of_ble_eq_true rfl) (fun σ1 hp1 => ?_)
      refine g_iinc (nI (i + 1)) dX6_sendVotes_27 rfl (show nI (i) + nI 1 = _ from nI_add _ _) (by decide) ?_
      refine g_goto 3 dX6_sendVotes_30 (by decide) ?_
      subst hp1
      exact ih (i + 1) (by omega) (by omega) _ (by rw [← pAdd_s]; exact cRel_snd hc ((fun a => mVote a m b w) i) (by simp [mVote, mDec, mQue, mAsk, mVoted]) rfl rfl rfl rfl rfl rfl)

set_option maxRecDepth 100000 in
/-- sendVotes -/
theorem c_sendVotes {R A : Nat} (hRA : pRA R A) {s : pT} {σ : gSt} (hc : cRel R A s σ) {m b w : Nat} (hn : s.2.length + A ≤ 401) : gEM (cG R A) mX6_sendVotes 0 [.inr (0), .inl (nI (m)), .inl (nI (b)), .inl (nI (w))] σ (gV (fun τ => cRel R A (pAdd s A (fun a => mVote a m b w)) τ)) := by
  refine gEM_of (by decide +kernel) rfl (Nat.le_of_ble_eq_true rfl) ?_
  refine g_iconst (nI (0)) dX6_sendVotes_0 (by decide) ?_
  refine g_istore dX6_sendVotes_1 (by decide) ?_
  exact c_sendVotes_l hRA hn (A + 1) 0 (by omega) (by omega) σ (by rw [pAdd_0]; exact hc)

set_option maxRecDepth 100000 in
theorem c_sendDecs_l {R A : Nat} (hRA : pRA R A) {s : pT} {d : Nat} (hn : s.2.length + R ≤ 401) : ∀ (k i : Nat), i ≤ R → R - i < k → ∀ σ, cRel R A (pAdd s i (fun m => mDec m d)) σ → gEx (cG R A) mX6_sendDecisions 0 2 [some (.inr (0)), some (.inl (nI (d))), some (.inl (nI (i)))] [] σ (gV (fun τ => cRel R A (pAdd s R (fun m => mDec m d)) τ)) := by
  intro k
  induction k with
  | zero => intro i hi1 hi2; exact absurd hi2 (by omega)
  | succ k ih =>
    intro i hi1 hi2 σ hc
    obtain ⟨hR1, hR6, hA35⟩ := hRA
    refine g_iload_n dX6_sendDecisions_2 rfl ?_
    refine g_aload_n dX6_sendDecisions_3 rfl ?_
    refine g_getr (T := TX6) (N := 7) (Cn := RX6) (ref := "CommitCouncil") 0 dX6_sendDecisions_4 (cIn_lo (by decide)) cSh_0 rfl (fun w h => List.mem_cons_of_mem _ (hU6 w h)) (by decide) (List.mem_cons_of_mem _ uw_1_158) (Or.inl rfl) rfl ?_
    refine g_alen (nI (R)) dX6_sendDecisions_7 (cIn_lo (by decide)) cSh_1 (by decide) rfl ?_
    refine g_icmp_ge 30 dX6_sendDecisions_8 (by decide) (fun h8 => ?_) (fun h8 => ?_)
    · skip
      rw [nI_leI (by omega) (by omega)] at h8
      refine g_vret dX6_sendDecisions_30 rfl ?_
      have e : i = R := by omega
      subst e
      exact ⟨rfl, hc⟩
    · skip
      rw [nI_leI (by omega) (by omega)] at h8
      refine g_aload_n dX6_sendDecisions_11 rfl ?_
      refine g_getr (T := TX6) (N := 7) (Cn := RX6) (ref := "CommitCouncil") 3 dX6_sendDecisions_12 (cIn_lo (by decide)) cSh_0 rfl (fun w h => List.mem_cons_of_mem _ (hU6 w h)) (by decide) (List.mem_cons_of_mem _ uw_1_161) (Or.inl rfl) rfl ?_
      refine g_iconst (nI (4)) dX6_sendDecisions_15 (by decide) ?_
      refine g_iload_n dX6_sendDecisions_16 rfl ?_
      refine g_iconst ((-1)) dX6_sendDecisions_17 (by decide) ?_
      refine g_iconst ((-1)) dX6_sendDecisions_18 (by decide) ?_
      refine g_iconst ((-1)) dX6_sendDecisions_19 (by decide) ?_
      refine g_iload_n dX6_sendDecisions_20 rfl ?_
      refine g_callVv (n9 := 6) [.inl (nI (4)), .inl (nI (i)), .inl ((-1)), .inl ((-1)), .inl ((-1)), .inl (nI (d))] [] (c_send hc.2.1.1 hc.2.1.2.2.1 hR6 (by rw [pAdd_len]; omega)) dX6_sendDecisions_21 (gU_V uw_2_73 uw_2_74 uw_2_75 uw_1_6 uw_2_76) rfl (by decide +kernel) rfl ⟨by decide, by decide⟩ (cIn_lo (by decide)) cSh_4 rfl rfl (Nat.le_of_ble_eq_true rfl) (fun σ1 hp1 => ?_)
      refine g_iinc (nI (i + 1)) dX6_sendDecisions_24 rfl (show nI (i) + nI 1 = _ from nI_add _ _) (by decide) ?_
      refine g_goto 2 dX6_sendDecisions_27 (by decide) ?_
      subst hp1
      exact ih (i + 1) (by omega) (by omega) _ (by rw [← pAdd_s]; exact cRel_snd hc ((fun m => mDec m d) i) (by simp [mVote, mDec, mQue, mAsk, mVoted]) rfl rfl rfl rfl rfl rfl)

set_option maxRecDepth 100000 in
/-- sendDecisions -/
theorem c_sendDecs {R A : Nat} (hRA : pRA R A) {s : pT} {σ : gSt} (hc : cRel R A s σ) {d : Nat} (hn : s.2.length + R ≤ 401) : gEM (cG R A) mX6_sendDecisions 0 [.inr (0), .inl (nI (d))] σ (gV (fun τ => cRel R A (pAdd s R (fun m => mDec m d)) τ)) := by
  refine gEM_of (by decide +kernel) rfl (Nat.le_of_ble_eq_true rfl) ?_
  refine g_iconst (nI (0)) dX6_sendDecisions_0 (by decide) ?_
  refine g_istore_n dX6_sendDecisions_1 (by decide) ?_
  exact c_sendDecs_l hRA hn (R + 1) 0 (by omega) (by omega) σ (by rw [pAdd_0]; exact hc)

theorem tSay_eq (A m w : Nat) (s : pT) : pAdd (pu (pu (pu s.1 3 m 0 w) 4 m 0 w) 16 0 m w, s.2) A (fun a => mVote a m 0 w) = tSay A m w s := rfl

set_option maxRecDepth 100000 in
/-- propose: it does -/
theorem c_proposeT {R A : Nat} (hRA : pRA R A) {s : pT} {σ : gSt} (hc : cRel R A s σ) {m w : Nat} (hm : m < R) (hw : w ≤ 2) (hs : sSay A m w s) (hlen : s.2.length ≤ 400) : gEM (cG R A) mX6_propose 0 [.inr (0), .inl (nI (m)), .inl (nI (w)), .inl (nI (w))] σ (gR 1 (fun τ => cRel R A (tSay A m w s) τ)) := by
  obtain ⟨hR1, hR6, hA35⟩ := hRA
  have hA5 : A ≤ 5 := by omega
  obtain ⟨hu, hst, hroom⟩ := hs
  refine gEM_of (by decide +kernel) rfl (Nat.le_of_ble_eq_true rfl) ?_
  refine g_aload_n dX6_propose_0 rfl ?_
  refine g_getr (T := TX6) (N := 7) (Cn := RX6) (ref := "CommitCouncil") 0 dX6_propose_1 (cIn_lo (by decide)) cSh_0 rfl (fun w h => List.mem_cons_of_mem _ (hU6 w h)) (by decide) (List.mem_cons_of_mem _ uw_1_158) (Or.inl rfl) rfl ?_
  refine g_iload_n dX6_propose_4 rfl ?_
  refine g_aald4N (n := R) (j := m) dX6_propose_5 (cIn_lo (by decide)) cSh_1 hm (by omega) ?_
  refine g_astore dX6_propose_6 (by decide) ?_
  refine g_aload dX6_propose_8 rfl ?_
  refine g_get (T := TX4) (N := 3) (Cn := RX4) (ref := "CommitCouncil$Manager") 0 dX6_propose_10 (cIn_m hm) (cSh_m (by omega)) rfl (fun w h => List.mem_cons_of_mem _ (hU4 w h)) (by decide) (List.mem_cons_of_mem _ uw_1_40) (Or.inr (List.mem_cons_of_mem _ uw_1_41)) rfl ?_
  refine gEx.top (v := .inl (nI (s.1 2 0 m))) (congrArg Sum.inl ((hc.2.2.2.1 m hm).1)) ?_
  refine g_if_eq 39 dX6_propose_13 (by decide) (fun h13 => ?_) (fun h13 => ?_)
  · skip
    rw [nI_z (by omega)] at h13
    exfalso; omega
  · skip
    rw [nI_z (by omega)] at h13
    refine g_aload dX6_propose_16 rfl ?_
    refine g_get (T := TX4) (N := 3) (Cn := RX4) (ref := "CommitCouncil$Manager") 1 dX6_propose_18 (cIn_m hm) (cSh_m (by omega)) rfl (fun w h => List.mem_cons_of_mem _ (hU4 w h)) (by decide) (List.mem_cons_of_mem _ uw_1_37) (Or.inl rfl) rfl ?_
    refine gEx.top (v := .inl (nI (s.1 3 m 0))) (congrArg Sum.inl ((hc.2.2.2.1 m hm).2.1)) ?_
    refine g_if_ne 39 dX6_propose_21 (by decide) (fun h21 => ?_) (fun h21 => ?_)
    · skip
      rw [nI_z (by omega)] at h21
      exfalso; omega
    · skip
      rw [nI_z (by omega)] at h21
      refine g_aload_n dX6_propose_24 rfl ?_
      refine g_getr (T := TX6) (N := 7) (Cn := RX6) (ref := "CommitCouncil") 3 dX6_propose_25 (cIn_lo (by decide)) cSh_0 rfl (fun w h => List.mem_cons_of_mem _ (hU6 w h)) (by decide) (List.mem_cons_of_mem _ uw_1_161) (Or.inl rfl) rfl ?_
      refine g_aload_n dX6_propose_28 rfl ?_
      refine g_getr (T := TX6) (N := 7) (Cn := RX6) (ref := "CommitCouncil") 1 dX6_propose_29 (cIn_lo (by decide)) cSh_0 rfl (fun w h => List.mem_cons_of_mem _ (hU6 w h)) (by decide) (List.mem_cons_of_mem _ uw_1_159) (Or.inl rfl) rfl ?_
      refine g_alen (nI (A)) dX6_propose_32 (cIn_lo (by decide)) cSh_2 (by decide) rfl ?_
      refine g_callVi (bI (s.2.length + A ≤ 400)) (n9 := 1) [.inl (nI (A))] [] (c_room hc.2.1.1 (by omega) (by omega)) dX6_propose_33 (gU_V uw_2_65 uw_2_66 uw_2_67 uw_1_6 uw_2_68) rfl (by decide +kernel) rfl ⟨by decide, by decide⟩ (cIn_lo (by decide)) cSh_4 rfl rfl (Nat.le_of_ble_eq_true rfl) (fun σ1 hp1 => ?_)
      subst hp1
      refine g_if_ne 41 dX6_propose_36 (by decide) (fun h36 => ?_) (fun h36 => ?_)
      · skip
        rw [bI_z] at h36
        refine g_aload dX6_propose_41 rfl ?_
        refine g_iload_n dX6_propose_43 rfl ?_
        refine g_put (T := TX4) (N := 3) (Cn := RX4) (ref := "CommitCouncil$Manager") (ty0 := tyX4) 1 dX6_propose_44 (cIn_m hm) (cSh_m (by omega)) rfl (fun w h => List.mem_cons_of_mem _ (hU4 w h)) tyX4_ok nmX4 (by decide) (List.mem_cons_of_mem _ uw_1_37) (Or.inl rfl) rfl rfl rfl rfl ?_
        refine g_aload dX6_propose_47 rfl ?_
        refine g_iload_n dX6_propose_49 rfl ?_
        refine g_put (T := TX4) (N := 3) (Cn := RX4) (ref := "CommitCouncil$Manager") (ty0 := tyX4) 2 dX6_propose_50 (cIn_m hm) (cSh_m (by omega)) rfl (fun w h => List.mem_cons_of_mem _ (hU4 w h)) tyX4_ok nmX4 (by decide) (List.mem_cons_of_mem _ uw_1_38) (Or.inl rfl) rfl rfl rfl rfl ?_
        refine g_aload_n dX6_propose_53 rfl ?_
        refine g_iload_n dX6_propose_54 rfl ?_
        refine g_iconst (nI (0)) dX6_propose_55 (by decide) ?_
        refine g_iload_n dX6_propose_56 rfl ?_
        refine g_callVv (n9 := 3) [.inl (nI (m)), .inl (nI (0)), .inl (nI (w))] [] (c_sendVotes (s := (pu (pu (pu s.1 3 m 0 w) 4 m 0 w) 16 0 m w, s.2)) ⟨hR1, hR6, hA35⟩ (cRel_gho (s := (pu (pu s.1 3 m 0 w) 4 m 0 w, s.2)) (cRel_wpr (s := (pu s.1 3 m 0 w, s.2)) (cRel_wst hc hR6 hA5 hm w) hR6 hA5 hm w) (fun c h _ _ => pu_c _ h)) (m := m) (b := 0) (w := w) (by show s.2.length + A ≤ 401; omega)) dX6_propose_57 (gU_V uw_2_69 uw_2_71 us_0_6 uw_1_1 uw_2_72) rfl (by decide +kernel) rfl ⟨by decide, by decide⟩ (cIn_lo (by decide)) cSh_0 rfl rfl (Nat.le_of_ble_eq_true rfl) (fun σ2 hp2 => ?_)
        refine g_iconst (nI (1)) dX6_propose_60 (by decide) ?_
        exact g_zret dX6_propose_61 rfl (rfl) (⟨rfl, hp2⟩)
      · skip
        rw [bI_z] at h36
        exfalso; omega

set_option maxRecDepth 100000 in
/-- propose: nothing happens -/
theorem c_proposeF {R A : Nat} (hRA : pRA R A) {s : pT} {σ : gSt} (hc : cRel R A s σ) (hb : pBd R A s.1) {m w : Nat} (hm : m < R) (hs : ¬ sSay A m w s) (hlen : s.2.length ≤ 400) : gEM (cG R A) mX6_propose 0 [.inr (0), .inl (nI (m)), .inl (nI (w)), .inl (nI (w))] σ (gR 0 (fun τ => τ = σ)) := by
  obtain ⟨hR1, hR6, hA35⟩ := hRA
  have hA5 : A ≤ 5 := by omega
  have hu1 := hb.1 0 m
  have hs1 := hb.2.1 m
  refine gEM_of (by decide +kernel) rfl (Nat.le_of_ble_eq_true rfl) ?_
  refine g_aload_n dX6_propose_0 rfl ?_
  refine g_getr (T := TX6) (N := 7) (Cn := RX6) (ref := "CommitCouncil") 0 dX6_propose_1 (cIn_lo (by decide)) cSh_0 rfl (fun w h => List.mem_cons_of_mem _ (hU6 w h)) (by decide) (List.mem_cons_of_mem _ uw_1_158) (Or.inl rfl) rfl ?_
  refine g_iload_n dX6_propose_4 rfl ?_
  refine g_aald4N (n := R) (j := m) dX6_propose_5 (cIn_lo (by decide)) cSh_1 hm (by omega) ?_
  refine g_astore dX6_propose_6 (by decide) ?_
  refine g_aload dX6_propose_8 rfl ?_
  refine g_get (T := TX4) (N := 3) (Cn := RX4) (ref := "CommitCouncil$Manager") 0 dX6_propose_10 (cIn_m hm) (cSh_m (by omega)) rfl (fun w h => List.mem_cons_of_mem _ (hU4 w h)) (by decide) (List.mem_cons_of_mem _ uw_1_40) (Or.inr (List.mem_cons_of_mem _ uw_1_41)) rfl ?_
  refine gEx.top (v := .inl (nI (s.1 2 0 m))) (congrArg Sum.inl ((hc.2.2.2.1 m hm).1)) ?_
  refine g_if_eq 39 dX6_propose_13 (by decide) (fun h13 => ?_) (fun h13 => ?_)
  · skip
    rw [nI_z (by omega)] at h13
    refine g_iconst (nI (0)) dX6_propose_39 (by decide) ?_
    exact g_zret dX6_propose_40 rfl (rfl) (⟨rfl, rfl⟩)
  · skip
    rw [nI_z (by omega)] at h13
    refine g_aload dX6_propose_16 rfl ?_
    refine g_get (T := TX4) (N := 3) (Cn := RX4) (ref := "CommitCouncil$Manager") 1 dX6_propose_18 (cIn_m hm) (cSh_m (by omega)) rfl (fun w h => List.mem_cons_of_mem _ (hU4 w h)) (by decide) (List.mem_cons_of_mem _ uw_1_37) (Or.inl rfl) rfl ?_
    refine gEx.top (v := .inl (nI (s.1 3 m 0))) (congrArg Sum.inl ((hc.2.2.2.1 m hm).2.1)) ?_
    refine g_if_ne 39 dX6_propose_21 (by decide) (fun h21 => ?_) (fun h21 => ?_)
    · skip
      rw [nI_z (by omega)] at h21
      refine g_iconst (nI (0)) dX6_propose_39 (by decide) ?_
      exact g_zret dX6_propose_40 rfl (rfl) (⟨rfl, rfl⟩)
    · skip
      rw [nI_z (by omega)] at h21
      refine g_aload_n dX6_propose_24 rfl ?_
      refine g_getr (T := TX6) (N := 7) (Cn := RX6) (ref := "CommitCouncil") 3 dX6_propose_25 (cIn_lo (by decide)) cSh_0 rfl (fun w h => List.mem_cons_of_mem _ (hU6 w h)) (by decide) (List.mem_cons_of_mem _ uw_1_161) (Or.inl rfl) rfl ?_
      refine g_aload_n dX6_propose_28 rfl ?_
      refine g_getr (T := TX6) (N := 7) (Cn := RX6) (ref := "CommitCouncil") 1 dX6_propose_29 (cIn_lo (by decide)) cSh_0 rfl (fun w h => List.mem_cons_of_mem _ (hU6 w h)) (by decide) (List.mem_cons_of_mem _ uw_1_159) (Or.inl rfl) rfl ?_
      refine g_alen (nI (A)) dX6_propose_32 (cIn_lo (by decide)) cSh_2 (by decide) rfl ?_
      refine g_callVi (bI (s.2.length + A ≤ 400)) (n9 := 1) [.inl (nI (A))] [] (c_room hc.2.1.1 (by omega) (by omega)) dX6_propose_33 (gU_V uw_2_65 uw_2_66 uw_2_67 uw_1_6 uw_2_68) rfl (by decide +kernel) rfl ⟨by decide, by decide⟩ (cIn_lo (by decide)) cSh_4 rfl rfl (Nat.le_of_ble_eq_true rfl) (fun σ1 hp1 => ?_)
      subst hp1
      refine g_if_ne 41 dX6_propose_36 (by decide) (fun h36 => ?_) (fun h36 => ?_)
      · skip
        rw [bI_z] at h36
        exact absurd ⟨by omega, by omega, by omega⟩ hs
      · skip
        rw [bI_z] at h36
        refine g_iconst (nI (0)) dX6_propose_39 (by decide) ?_
        exact g_zret dX6_propose_40 rfl (rfl) (⟨rfl, rfl⟩)

set_option maxRecDepth 100000 in
/-- prepare -/
theorem c_prepareT {R A : Nat} (hRA : pRA R A) {s : pT} {σ : gSt} (hc : cRel R A s σ) {m : Nat} (hm : m < R) (hs : sSay A m 1 s) (hlen : s.2.length ≤ 400) : gEM (cG R A) mX6_prepare 1 [.inr (0), .inl (nI (m))] σ (gR 1 (fun τ => cRel R A (tSay A m 1 s) τ)) := by
  obtain ⟨hR1, hR6, hA35⟩ := hRA
  have hA5 : A ≤ 5 := by omega
  refine gEM_of (by decide +kernel) rfl (Nat.le_of_ble_eq_true rfl) ?_
  refine g_iload_n dX6_prepare_0 rfl ?_
  refine g_aload_n dX6_prepare_1 rfl ?_
  refine g_getr (T := TX6) (N := 7) (Cn := RX6) (ref := "CommitCouncil") 0 dX6_prepare_2 (cIn_lo (by decide)) cSh_0 rfl (fun w h => List.mem_cons_of_mem _ (hU6 w h)) (by decide) (List.mem_cons_of_mem _ uw_1_158) (Or.inl rfl) rfl ?_
  refine g_alen (nI (R)) dX6_prepare_5 (cIn_lo (by decide)) cSh_1 (by decide) rfl ?_
  refine g_callSv (n9 := 2) [.inl (nI (m)), .inl (nI (R))] [] (c_checkOk hm (by omega)) dX6_prepare_6 (gU_S uw_1_192 uw_1_193 uw_1_1 uw_1_194) rfl (by decide +kernel) rfl ⟨by decide, by decide⟩ rfl (Nat.le_of_ble_eq_true rfl) (fun σ1 hp1 => ?_)
  subst hp1
  refine g_aload_n dX6_prepare_9 rfl ?_
  refine g_iload_n dX6_prepare_10 rfl ?_
  refine g_iconst (nI (1)) dX6_prepare_11 (by decide) ?_
  refine g_iconst (nI (1)) dX6_prepare_12 (by decide) ?_
  refine g_callVi (1) (n9 := 3) [.inl (nI (m)), .inl (nI (1)), .inl (nI (1))] [] (c_proposeT ⟨hR1, hR6, hA35⟩ hc hm (by decide) hs hlen) dX6_prepare_13 (gU_V uw_2_61 uw_2_63 us_0_5 uw_1_1 uw_2_64) rfl (by decide +kernel) rfl ⟨by decide, by decide⟩ (cIn_lo (by decide)) cSh_0 rfl rfl (Nat.le_of_ble_eq_true rfl) (fun σ2 hp2 => ?_)
  exact g_zret dX6_prepare_16 rfl (rfl) (⟨rfl, hp2⟩)

set_option maxRecDepth 100000 in
/-- prepare -/
theorem c_prepareF {R A : Nat} (hRA : pRA R A) {s : pT} {σ : gSt} (hc : cRel R A s σ) (hb : pBd R A s.1) {m : Nat} (hm : m < R) (hs : ¬ sSay A m 1 s) (hlen : s.2.length ≤ 400) : gEM (cG R A) mX6_prepare 1 [.inr (0), .inl (nI (m))] σ (gR 0 (fun τ => τ = σ)) := by
  obtain ⟨hR1, hR6, hA35⟩ := hRA
  have hA5 : A ≤ 5 := by omega
  refine gEM_of (by decide +kernel) rfl (Nat.le_of_ble_eq_true rfl) ?_
  refine g_iload_n dX6_prepare_0 rfl ?_
  refine g_aload_n dX6_prepare_1 rfl ?_
  refine g_getr (T := TX6) (N := 7) (Cn := RX6) (ref := "CommitCouncil") 0 dX6_prepare_2 (cIn_lo (by decide)) cSh_0 rfl (fun w h => List.mem_cons_of_mem _ (hU6 w h)) (by decide) (List.mem_cons_of_mem _ uw_1_158) (Or.inl rfl) rfl ?_
  refine g_alen (nI (R)) dX6_prepare_5 (cIn_lo (by decide)) cSh_1 (by decide) rfl ?_
  refine g_callSv (n9 := 2) [.inl (nI (m)), .inl (nI (R))] [] (c_checkOk hm (by omega)) dX6_prepare_6 (gU_S uw_1_192 uw_1_193 uw_1_1 uw_1_194) rfl (by decide +kernel) rfl ⟨by decide, by decide⟩ rfl (Nat.le_of_ble_eq_true rfl) (fun σ1 hp1 => ?_)
  subst hp1
  refine g_aload_n dX6_prepare_9 rfl ?_
  refine g_iload_n dX6_prepare_10 rfl ?_
  refine g_iconst (nI (1)) dX6_prepare_11 (by decide) ?_
  refine g_iconst (nI (1)) dX6_prepare_12 (by decide) ?_
  refine g_callVi (0) (n9 := 3) [.inl (nI (m)), .inl (nI (1)), .inl (nI (1))] [] (c_proposeF ⟨hR1, hR6, hA35⟩ hc hb hm hs hlen) dX6_prepare_13 (gU_V uw_2_61 uw_2_63 us_0_5 uw_1_1 uw_2_64) rfl (by decide +kernel) rfl ⟨by decide, by decide⟩ (cIn_lo (by decide)) cSh_0 rfl rfl (Nat.le_of_ble_eq_true rfl) (fun σ2 hp2 => ?_)
  exact g_zret dX6_prepare_16 rfl (rfl) (⟨rfl, hp2⟩)

set_option maxRecDepth 100000 in
/-- prepare -/
theorem c_prepareX {R A : Nat} (hRA : pRA R A) {σ : gSt} {x : Int32} (hx : x < 0 ∨ nI R ≤ x) : gEM (cG R A) mX6_prepare 1 [.inr (0), .inl (x)] σ (gX 0 (fun τ => τ = σ)) := by
  refine gEM_of (by decide +kernel) rfl (Nat.le_of_ble_eq_true rfl) ?_
  refine g_iload_n dX6_prepare_0 rfl ?_
  refine g_aload_n dX6_prepare_1 rfl ?_
  refine g_getr (T := TX6) (N := 7) (Cn := RX6) (ref := "CommitCouncil") 0 dX6_prepare_2 (cIn_lo (by decide)) cSh_0 rfl (fun w h => List.mem_cons_of_mem _ (hU6 w h)) (by decide) (List.mem_cons_of_mem _ uw_1_158) (Or.inl rfl) rfl ?_
  refine g_alen (nI (R)) dX6_prepare_5 (cIn_lo (by decide)) cSh_1 (by decide) rfl ?_
  exact g_callSx 0 (n9 := 2) [.inl (x), .inl (nI (R))] [] (c_checkNo hx) dX6_prepare_6 (gU_S uw_1_192 uw_1_193 uw_1_1 uw_1_194) rfl (by decide +kernel) rfl ⟨by decide, by decide⟩ rfl (Nat.le_of_ble_eq_true rfl) (by decide) (fun σ9 hp9 => ⟨rfl, hp9⟩)

set_option maxRecDepth 100000 in
/-- refuse -/
theorem c_refuseT {R A : Nat} (hRA : pRA R A) {s : pT} {σ : gSt} (hc : cRel R A s σ) {m : Nat} (hm : m < R) (hs : sSay A m 2 s) (hlen : s.2.length ≤ 400) : gEM (cG R A) mX6_refuse 1 [.inr (0), .inl (nI (m))] σ (gR 1 (fun τ => cRel R A (tSay A m 2 s) τ)) := by
  obtain ⟨hR1, hR6, hA35⟩ := hRA
  have hA5 : A ≤ 5 := by omega
  refine gEM_of (by decide +kernel) rfl (Nat.le_of_ble_eq_true rfl) ?_
  refine g_iload_n dX6_refuse_0 rfl ?_
  refine g_aload_n dX6_refuse_1 rfl ?_
  refine g_getr (T := TX6) (N := 7) (Cn := RX6) (ref := "CommitCouncil") 0 dX6_refuse_2 (cIn_lo (by decide)) cSh_0 rfl (fun w h => List.mem_cons_of_mem _ (hU6 w h)) (by decide) (List.mem_cons_of_mem _ uw_1_158) (Or.inl rfl) rfl ?_
  refine g_alen (nI (R)) dX6_refuse_5 (cIn_lo (by decide)) cSh_1 (by decide) rfl ?_
  refine g_callSv (n9 := 2) [.inl (nI (m)), .inl (nI (R))] [] (c_checkOk hm (by omega)) dX6_refuse_6 (gU_S uw_1_192 uw_1_193 uw_1_1 uw_1_194) rfl (by decide +kernel) rfl ⟨by decide, by decide⟩ rfl (Nat.le_of_ble_eq_true rfl) (fun σ1 hp1 => ?_)
  subst hp1
  refine g_aload_n dX6_refuse_9 rfl ?_
  refine g_iload_n dX6_refuse_10 rfl ?_
  refine g_iconst (nI (2)) dX6_refuse_11 (by decide) ?_
  refine g_iconst (nI (2)) dX6_refuse_12 (by decide) ?_
  refine g_callVi (1) (n9 := 3) [.inl (nI (m)), .inl (nI (2)), .inl (nI (2))] [] (c_proposeT ⟨hR1, hR6, hA35⟩ hc hm (by decide) hs hlen) dX6_refuse_13 (gU_V uw_2_61 uw_2_63 us_0_5 uw_1_1 uw_2_64) rfl (by decide +kernel) rfl ⟨by decide, by decide⟩ (cIn_lo (by decide)) cSh_0 rfl rfl (Nat.le_of_ble_eq_true rfl) (fun σ2 hp2 => ?_)
  exact g_zret dX6_refuse_16 rfl (rfl) (⟨rfl, hp2⟩)

set_option maxRecDepth 100000 in
/-- refuse -/
theorem c_refuseF {R A : Nat} (hRA : pRA R A) {s : pT} {σ : gSt} (hc : cRel R A s σ) (hb : pBd R A s.1) {m : Nat} (hm : m < R) (hs : ¬ sSay A m 2 s) (hlen : s.2.length ≤ 400) : gEM (cG R A) mX6_refuse 1 [.inr (0), .inl (nI (m))] σ (gR 0 (fun τ => τ = σ)) := by
  obtain ⟨hR1, hR6, hA35⟩ := hRA
  have hA5 : A ≤ 5 := by omega
  refine gEM_of (by decide +kernel) rfl (Nat.le_of_ble_eq_true rfl) ?_
  refine g_iload_n dX6_refuse_0 rfl ?_
  refine g_aload_n dX6_refuse_1 rfl ?_
  refine g_getr (T := TX6) (N := 7) (Cn := RX6) (ref := "CommitCouncil") 0 dX6_refuse_2 (cIn_lo (by decide)) cSh_0 rfl (fun w h => List.mem_cons_of_mem _ (hU6 w h)) (by decide) (List.mem_cons_of_mem _ uw_1_158) (Or.inl rfl) rfl ?_
  refine g_alen (nI (R)) dX6_refuse_5 (cIn_lo (by decide)) cSh_1 (by decide) rfl ?_
  refine g_callSv (n9 := 2) [.inl (nI (m)), .inl (nI (R))] [] (c_checkOk hm (by omega)) dX6_refuse_6 (gU_S uw_1_192 uw_1_193 uw_1_1 uw_1_194) rfl (by decide +kernel) rfl ⟨by decide, by decide⟩ rfl (Nat.le_of_ble_eq_true rfl) (fun σ1 hp1 => ?_)
  subst hp1
  refine g_aload_n dX6_refuse_9 rfl ?_
  refine g_iload_n dX6_refuse_10 rfl ?_
  refine g_iconst (nI (2)) dX6_refuse_11 (by decide) ?_
  refine g_iconst (nI (2)) dX6_refuse_12 (by decide) ?_
  refine g_callVi (0) (n9 := 3) [.inl (nI (m)), .inl (nI (2)), .inl (nI (2))] [] (c_proposeF ⟨hR1, hR6, hA35⟩ hc hb hm hs hlen) dX6_refuse_13 (gU_V uw_2_61 uw_2_63 us_0_5 uw_1_1 uw_2_64) rfl (by decide +kernel) rfl ⟨by decide, by decide⟩ (cIn_lo (by decide)) cSh_0 rfl rfl (Nat.le_of_ble_eq_true rfl) (fun σ2 hp2 => ?_)
  exact g_zret dX6_refuse_16 rfl (rfl) (⟨rfl, hp2⟩)

set_option maxRecDepth 100000 in
/-- refuse -/
theorem c_refuseX {R A : Nat} (hRA : pRA R A) {σ : gSt} {x : Int32} (hx : x < 0 ∨ nI R ≤ x) : gEM (cG R A) mX6_refuse 1 [.inr (0), .inl (x)] σ (gX 0 (fun τ => τ = σ)) := by
  refine gEM_of (by decide +kernel) rfl (Nat.le_of_ble_eq_true rfl) ?_
  refine g_iload_n dX6_refuse_0 rfl ?_
  refine g_aload_n dX6_refuse_1 rfl ?_
  refine g_getr (T := TX6) (N := 7) (Cn := RX6) (ref := "CommitCouncil") 0 dX6_refuse_2 (cIn_lo (by decide)) cSh_0 rfl (fun w h => List.mem_cons_of_mem _ (hU6 w h)) (by decide) (List.mem_cons_of_mem _ uw_1_158) (Or.inl rfl) rfl ?_
  refine g_alen (nI (R)) dX6_refuse_5 (cIn_lo (by decide)) cSh_1 (by decide) rfl ?_
  exact g_callSx 0 (n9 := 2) [.inl (x), .inl (nI (R))] [] (c_checkNo hx) dX6_refuse_6 (gU_S uw_1_192 uw_1_193 uw_1_1 uw_1_194) rfl (by decide +kernel) rfl ⟨by decide, by decide⟩ rfl (Nat.le_of_ble_eq_true rfl) (by decide) (fun σ9 hp9 => ⟨rfl, hp9⟩)
