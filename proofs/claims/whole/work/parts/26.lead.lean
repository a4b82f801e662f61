set_option maxRecDepth 100000 in
/-- resend -/
theorem c_resendT {R A : Nat} (hRA : pRA R A) {s : pT} {σ : gSt} (hc : cRel R A s σ) {m : Nat} (hm : m < R) (hs : sRes A m s) (hlen : s.2.length ≤ 400) : gEM (cG R A) mX6_resend 1 [.inr (0), .inl (nI (m))] σ (gR 1 (fun τ => cRel R A (tRes A m s) τ)) := by
  obtain ⟨hR1, hR6, hA35⟩ := hRA
  have hA5 : A ≤ 5 := by omega
  obtain ⟨hu, hst, hroom⟩ := hs
  refine gEM_of (by decide +kernel) rfl (Nat.le_of_ble_eq_true rfl) ?_
  refine g_iload_n dX6_resend_0 rfl ?_
  refine g_aload_n dX6_resend_1 rfl ?_
  refine g_getr (T := TX6) (N := 7) (Cn := RX6) (ref := "CommitCouncil") 0 dX6_resend_2 (cIn_lo (by decide)) cSh_0 rfl (fun w h => List.mem_cons_of_mem _ (hU6 w h)) (by decide) (List.mem_cons_of_mem _ uw_1_158) (Or.inl rfl) rfl ?_
  refine g_alen (nI (R)) dX6_resend_5 (cIn_lo (by decide)) cSh_1 (by decide) rfl ?_
  refine g_callSv (n9 := 2) [.inl (nI (m)), .inl (nI (R))] [] (c_checkOk hm (by omega)) dX6_resend_6 (gU_S uw_1_192 uw_1_193 uw_1_1 uw_1_194) rfl (by decide +kernel) rfl ⟨by decide, by decide⟩ rfl (Nat.le_of_ble_eq_true rfl) (fun σ1 hp1 => ?_)
  subst hp1
  refine g_aload_n dX6_resend_9 rfl ?_
  refine g_getr (T := TX6) (N := 7) (Cn := RX6) (ref := "CommitCouncil") 0 dX6_resend_10 (cIn_lo (by decide)) cSh_0 rfl (fun w h => List.mem_cons_of_mem _ (hU6 w h)) (by decide) (List.mem_cons_of_mem _ uw_1_158) (Or.inl rfl) rfl ?_
  refine g_iload_n dX6_resend_13 rfl ?_
  refine g_aald4N (n := R) (j := m) dX6_resend_14 (cIn_lo (by decide)) cSh_1 hm (by omega) ?_
  refine g_astore_n dX6_resend_15 (by decide) ?_
  refine g_aload_n dX6_resend_16 rfl ?_
  refine g_get (T := TX4) (N := 3) (Cn := RX4) (ref := "CommitCouncil$Manager") 1 dX6_resend_17 (cIn_m hm) (cSh_m (by omega)) rfl (fun w h => List.mem_cons_of_mem _ (hU4 w h)) (by decide) (List.mem_cons_of_mem _ uw_1_37) (Or.inl rfl) rfl ?_
  refine gEx.top (v := .inl (nI (s.1 3 m 0))) (congrArg Sum.inl ((hc.2.2.2.1 m hm).2.1)) ?_
  refine g_iconst (nI (1)) dX6_resend_20 (by decide) ?_
  refine g_icmp_eq 32 dX6_resend_21 (by decide) (fun h21 => ?_) (fun h21 => ?_)
  · skip
    rw [nI_eq (by omega) (by omega)] at h21
    refine g_iconst (nI (1)) dX6_resend_32 (by decide) ?_
    refine g_goto 37 dX6_resend_33 (by decide) ?_
    refine g_istore_n dX6_resend_37 (by decide) ?_
    refine g_aload_n dX6_resend_38 rfl ?_
    refine g_get (T := TX4) (N := 3) (Cn := RX4) (ref := "CommitCouncil$Manager") 0 dX6_resend_39 (cIn_m hm) (cSh_m (by omega)) rfl (fun w h => List.mem_cons_of_mem _ (hU4 w h)) (by decide) (List.mem_cons_of_mem _ uw_1_40) (Or.inr (List.mem_cons_of_mem _ uw_1_41)) rfl ?_
    refine gEx.top (v := .inl (nI (s.1 2 0 m))) (congrArg Sum.inl ((hc.2.2.2.1 m hm).1)) ?_
    refine g_if_eq 64 dX6_resend_42 (by decide) (fun h42 => ?_) (fun h42 => ?_)
    · skip
      rw [nI_z (by omega)] at h42
      exfalso; omega
    · skip
      rw [nI_z (by omega)] at h42
      refine g_iload_n dX6_resend_45 rfl ?_
      refine g_if_eq 64 dX6_resend_46 (by decide) (fun h46 => ?_) (fun h46 => ?_)
      · skip
        rw [nI_z (by omega)] at h46
        exfalso; omega
      · skip
        rw [nI_z (by omega)] at h46
        refine g_aload_n dX6_resend_49 rfl ?_
        refine g_getr (T := TX6) (N := 7) (Cn := RX6) (ref := "CommitCouncil") 3 dX6_resend_50 (cIn_lo (by decide)) cSh_0 rfl (fun w h => List.mem_cons_of_mem _ (hU6 w h)) (by decide) (List.mem_cons_of_mem _ uw_1_161) (Or.inl rfl) rfl ?_
        refine g_aload_n dX6_resend_53 rfl ?_
        refine g_getr (T := TX6) (N := 7) (Cn := RX6) (ref := "CommitCouncil") 1 dX6_resend_54 (cIn_lo (by decide)) cSh_0 rfl (fun w h => List.mem_cons_of_mem _ (hU6 w h)) (by decide) (List.mem_cons_of_mem _ uw_1_159) (Or.inl rfl) rfl ?_
        refine g_alen (nI (A)) dX6_resend_57 (cIn_lo (by decide)) cSh_2 (by decide) rfl ?_
        refine g_callVi (bI (s.2.length + A ≤ 400)) (n9 := 1) [.inl (nI (A))] [] (c_room hc.2.1.1 (by omega) (by omega)) dX6_resend_58 (gU_V uw_2_65 uw_2_66 uw_2_67 uw_1_6 uw_2_68) rfl (by decide +kernel) rfl ⟨by decide, by decide⟩ (cIn_lo (by decide)) cSh_4 rfl rfl (Nat.le_of_ble_eq_true rfl) (fun σ1 hp1 => ?_)
        subst hp1
        refine g_if_ne 66 dX6_resend_61 (by decide) (fun h61 => ?_) (fun h61 => ?_)
        · skip
          rw [bI_z] at h61
          refine g_aload_n dX6_resend_66 rfl ?_
          refine g_iload_n dX6_resend_67 rfl ?_
          refine g_iconst (nI (0)) dX6_resend_68 (by decide) ?_
          refine g_aload_n dX6_resend_69 rfl ?_
          refine g_get (T := TX4) (N := 3) (Cn := RX4) (ref := "CommitCouncil$Manager") 2 dX6_resend_70 (cIn_m hm) (cSh_m (by omega)) rfl (fun w h => List.mem_cons_of_mem _ (hU4 w h)) (by decide) (List.mem_cons_of_mem _ uw_1_38) (Or.inl rfl) rfl ?_
          refine gEx.top (v := .inl (nI (s.1 4 m 0))) (congrArg Sum.inl ((hc.2.2.2.1 m hm).2.2)) ?_
          refine g_callVv (n9 := 3) [.inl (nI (m)), .inl (nI (0)), .inl (nI (s.1 4 m 0))] [] (c_sendVotes ⟨hR1, hR6, hA35⟩ hc (m := m) (b := 0) (w := s.1 4 m 0) (by omega)) dX6_resend_73 (gU_V uw_2_69 uw_2_71 us_0_6 uw_1_1 uw_2_72) rfl (by decide +kernel) rfl ⟨by decide, by decide⟩ (cIn_lo (by decide)) cSh_0 rfl rfl (Nat.le_of_ble_eq_true rfl) (fun σ2 hp2 => ?_)
          refine g_iconst (nI (1)) dX6_resend_76 (by decide) ?_
          exact g_zret dX6_resend_77 rfl (rfl) (⟨rfl, hp2⟩)
        · skip
          rw [bI_z] at h61
          exfalso; omega
  · skip
    rw [nI_eq (by omega) (by omega)] at h21
    refine g_aload_n dX6_resend_24 rfl ?_
    refine g_get (T := TX4) (N := 3) (Cn := RX4) (ref := "CommitCouncil$Manager") 1 dX6_resend_25 (cIn_m hm) (cSh_m (by omega)) rfl (fun w h => List.mem_cons_of_mem _ (hU4 w h)) (by decide) (List.mem_cons_of_mem _ uw_1_37) (Or.inl rfl) rfl ?_
    refine gEx.top (v := .inl (nI (s.1 3 m 0))) (congrArg Sum.inl ((hc.2.2.2.1 m hm).2.1)) ?_
    refine g_iconst (nI (2)) dX6_resend_28 (by decide) ?_
    refine g_icmp_ne 36 dX6_resend_29 (by decide) (fun h29 => ?_) (fun h29 => ?_)
    · skip
      rw [nI_eq (by omega) (by omega)] at h29
      exfalso; omega
    · skip
      rw [nI_eq (by omega) (by omega)] at h29
      refine g_iconst (nI (1)) dX6_resend_32 (by decide) ?_
      refine g_goto 37 dX6_resend_33 (by decide) ?_
      refine g_istore_n dX6_resend_37 (by decide) ?_
      refine g_aload_n dX6_resend_38 rfl ?_
      refine g_get (T := TX4) (N := 3) (Cn := RX4) (ref := "CommitCouncil$Manager") 0 dX6_resend_39 (cIn_m hm) (cSh_m (by omega)) rfl (fun w h => List.mem_cons_of_mem _ (hU4 w h)) (by decide) (List.mem_cons_of_mem _ uw_1_40) (Or.inr (List.mem_cons_of_mem _ uw_1_41)) rfl ?_
      refine gEx.top (v := .inl (nI (s.1 2 0 m))) (congrArg Sum.inl ((hc.2.2.2.1 m hm).1)) ?_
      refine g_if_eq 64 dX6_resend_42 (by decide) (fun h42 => ?_) (fun h42 => ?_)
      · skip
        rw [nI_z (by omega)] at h42
        exfalso; omega
      · skip
        rw [nI_z (by omega)] at h42
        refine g_iload_n dX6_resend_45 rfl ?_
        refine g_if_eq 64 dX6_resend_46 (by decide) (fun h46 => ?_) (fun h46 => ?_)
        · skip
          rw [nI_z (by omega)] at h46
          exfalso; omega
        · skip
          rw [nI_z (by omega)] at h46
          refine g_aload_n dX6_resend_49 rfl ?_
          refine g_getr (T := TX6) (N := 7) (Cn := RX6) (ref := "CommitCouncil") 3 dX6_resend_50 (cIn_lo (by decide)) cSh_0 rfl (fun w h => List.mem_cons_of_mem _ (hU6 w h)) (by decide) (List.mem_cons_of_mem _ uw_1_161) (Or.inl rfl) rfl ?_
          refine g_aload_n dX6_resend_53 rfl ?_
          refine g_getr (T := TX6) (N := 7) (Cn := RX6) (ref := "CommitCouncil") 1 dX6_resend_54 (cIn_lo (by decide)) cSh_0 rfl (fun w h => List.mem_cons_of_mem _ (hU6 w h)) (by decide) (List.mem_cons_of_mem _ uw_1_159) (Or.inl rfl) rfl ?_
          refine g_alen (nI (A)) dX6_resend_57 (cIn_lo (by decide)) cSh_2 (by decide) rfl ?_
          refine g_callVi (bI (s.2.length + A ≤ 400)) (n9 := 1) [.inl (nI (A))] [] (c_room hc.2.1.1 (by omega) (by omega)) dX6_resend_58 (gU_V uw_2_65 uw_2_66 uw_2_67 uw_1_6 uw_2_68) rfl (by decide +kernel) rfl ⟨by decide, by decide⟩ (cIn_lo (by decide)) cSh_4 rfl rfl (Nat.le_of_ble_eq_true rfl) (fun σ1 hp1 => ?_)
          subst hp1
          refine g_if_ne 66 dX6_resend_61 (by decide) (fun h61 => ?_) (fun h61 => ?_)
          · skip
            rw [bI_z] at h61
            refine g_aload_n dX6_resend_66 rfl ?_
            refine g_iload_n dX6_resend_67 rfl ?_
            refine g_iconst (nI (0)) dX6_resend_68 (by decide) ?_
            refine g_aload_n dX6_resend_69 rfl ?_
            refine g_get (T := TX4) (N := 3) (Cn := RX4) (ref := "CommitCouncil$Manager") 2 dX6_resend_70 (cIn_m hm) (cSh_m (by omega)) rfl (fun w h => List.mem_cons_of_mem _ (hU4 w h)) (by decide) (List.mem_cons_of_mem _ uw_1_38) (Or.inl rfl) rfl ?_
            refine gEx.top (v := .inl (nI (s.1 4 m 0))) (congrArg Sum.inl ((hc.2.2.2.1 m hm).2.2)) ?_
            refine g_callVv (n9 := 3) [.inl (nI (m)), .inl (nI (0)), .inl (nI (s.1 4 m 0))] [] (c_sendVotes ⟨hR1, hR6, hA35⟩ hc (m := m) (b := 0) (w := s.1 4 m 0) (by omega)) dX6_resend_73 (gU_V uw_2_69 uw_2_71 us_0_6 uw_1_1 uw_2_72) rfl (by decide +kernel) rfl ⟨by decide, by decide⟩ (cIn_lo (by decide)) cSh_0 rfl rfl (Nat.le_of_ble_eq_true rfl) (fun σ2 hp2 => ?_)
            refine g_iconst (nI (1)) dX6_resend_76 (by decide) ?_
            exact g_zret dX6_resend_77 rfl (rfl) (⟨rfl, hp2⟩)
          · skip
            rw [bI_z] at h61
            exfalso; omega

set_option maxRecDepth 100000 in
/-- resend: nothing -/
theorem c_resendF {R A : Nat} (hRA : pRA R A) {s : pT} {σ : gSt} (hc : cRel R A s σ) (hb : pBd R A s.1) {m : Nat} (hm : m < R) (hs : ¬ sRes A m s) (hlen : s.2.length ≤ 400) : gEM (cG R A) mX6_resend 1 [.inr (0), .inl (nI (m))] σ (gR 0 (fun τ => τ = σ)) := by
  obtain ⟨hR1, hR6, hA35⟩ := hRA
  have hA5 : A ≤ 5 := by omega
  have hu1 := hb.1 0 m
  have hs1 := hb.2.1 m
  refine gEM_of (by decide +kernel) rfl (Nat.le_of_ble_eq_true rfl) ?_
  refine g_iload_n dX6_resend_0 rfl ?_
  refine g_aload_n dX6_resend_1 rfl ?_
  refine g_getr (T := TX6) (N := 7) (Cn := RX6) (ref := "CommitCouncil") 0 dX6_resend_2 (cIn_lo (by decide)) cSh_0 rfl (fun w h => List.mem_cons_of_mem _ (hU6 w h)) (by decide) (List.mem_cons_of_mem _ uw_1_158) (Or.inl rfl) rfl ?_
  refine g_alen (nI (R)) dX6_resend_5 (cIn_lo (by decide)) cSh_1 (by decide) rfl ?_
  refine g_callSv (n9 := 2) [.inl (nI (m)), .inl (nI (R))] [] (c_checkOk hm (by omega)) dX6_resend_6 (gU_S uw_1_192 uw_1_193 uw_1_1 uw_1_194) rfl (by decide +kernel) rfl ⟨by decide, by decide⟩ rfl (Nat.le_of_ble_eq_true rfl) (fun σ1 hp1 => ?_)
  subst hp1
  refine g_aload_n dX6_resend_9 rfl ?_
  refine g_getr (T := TX6) (N := 7) (Cn := RX6) (ref := "CommitCouncil") 0 dX6_resend_10 (cIn_lo (by decide)) cSh_0 rfl (fun w h => List.mem_cons_of_mem _ (hU6 w h)) (by decide) (List.mem_cons_of_mem _ uw_1_158) (Or.inl rfl) rfl ?_
  refine g_iload_n dX6_resend_13 rfl ?_
  refine g_aald4N (n := R) (j := m) dX6_resend_14 (cIn_lo (by decide)) cSh_1 hm (by omega) ?_
  refine g_astore_n dX6_resend_15 (by decide) ?_
  refine g_aload_n dX6_resend_16 rfl ?_
  refine g_get (T := TX4) (N := 3) (Cn := RX4) (ref := "CommitCouncil$Manager") 1 dX6_resend_17 (cIn_m hm) (cSh_m (by omega)) rfl (fun w h => List.mem_cons_of_mem _ (hU4 w h)) (by decide) (List.mem_cons_of_mem _ uw_1_37) (Or.inl rfl) rfl ?_
  refine gEx.top (v := .inl (nI (s.1 3 m 0))) (congrArg Sum.inl ((hc.2.2.2.1 m hm).2.1)) ?_
  refine g_iconst (nI (1)) dX6_resend_20 (by decide) ?_
  refine g_icmp_eq 32 dX6_resend_21 (by decide) (fun h21 => ?_) (fun h21 => ?_)
  · skip
    rw [nI_eq (by omega) (by omega)] at h21
    refine g_iconst (nI (1)) dX6_resend_32 (by decide) ?_
    refine g_goto 37 dX6_resend_33 (by decide) ?_
    refine g_istore_n dX6_resend_37 (by decide) ?_
    refine g_aload_n dX6_resend_38 rfl ?_
    refine g_get (T := TX4) (N := 3) (Cn := RX4) (ref := "CommitCouncil$Manager") 0 dX6_resend_39 (cIn_m hm) (cSh_m (by omega)) rfl (fun w h => List.mem_cons_of_mem _ (hU4 w h)) (by decide) (List.mem_cons_of_mem _ uw_1_40) (Or.inr (List.mem_cons_of_mem _ uw_1_41)) rfl ?_
    refine gEx.top (v := .inl (nI (s.1 2 0 m))) (congrArg Sum.inl ((hc.2.2.2.1 m hm).1)) ?_
    refine g_if_eq 64 dX6_resend_42 (by decide) (fun h42 => ?_) (fun h42 => ?_)
    · skip
      rw [nI_z (by omega)] at h42
      refine g_iconst (nI (0)) dX6_resend_64 (by decide) ?_
      exact g_zret dX6_resend_65 rfl (rfl) (⟨rfl, rfl⟩)
    · skip
      rw [nI_z (by omega)] at h42
      refine g_iload_n dX6_resend_45 rfl ?_
      refine g_if_eq 64 dX6_resend_46 (by decide) (fun h46 => ?_) (fun h46 => ?_)
      · skip
        rw [nI_z (by omega)] at h46
        refine g_iconst (nI (0)) dX6_resend_64 (by decide) ?_
        exact g_zret dX6_resend_65 rfl (rfl) (⟨rfl, rfl⟩)
      · skip
        rw [nI_z (by omega)] at h46
        refine g_aload_n dX6_resend_49 rfl ?_
        refine g_getr (T := TX6) (N := 7) (Cn := RX6) (ref := "CommitCouncil") 3 dX6_resend_50 (cIn_lo (by decide)) cSh_0 rfl (fun w h => List.mem_cons_of_mem _ (hU6 w h)) (by decide) (List.mem_cons_of_mem _ uw_1_161) (Or.inl rfl) rfl ?_
        refine g_aload_n dX6_resend_53 rfl ?_
        refine g_getr (T := TX6) (N := 7) (Cn := RX6) (ref := "CommitCouncil") 1 dX6_resend_54 (cIn_lo (by decide)) cSh_0 rfl (fun w h => List.mem_cons_of_mem _ (hU6 w h)) (by decide) (List.mem_cons_of_mem _ uw_1_159) (Or.inl rfl) rfl ?_
        refine g_alen (nI (A)) dX6_resend_57 (cIn_lo (by decide)) cSh_2 (by decide) rfl ?_
        refine g_callVi (bI (s.2.length + A ≤ 400)) (n9 := 1) [.inl (nI (A))] [] (c_room hc.2.1.1 (by omega) (by omega)) dX6_resend_58 (gU_V uw_2_65 uw_2_66 uw_2_67 uw_1_6 uw_2_68) rfl (by decide +kernel) rfl ⟨by decide, by decide⟩ (cIn_lo (by decide)) cSh_4 rfl rfl (Nat.le_of_ble_eq_true rfl) (fun σ1 hp1 => ?_)
        subst hp1
        refine g_if_ne 66 dX6_resend_61 (by decide) (fun h61 => ?_) (fun h61 => ?_)
        · skip
          rw [bI_z] at h61
          exact absurd ⟨by omega, by omega, by omega⟩ hs
        · skip
          rw [bI_z] at h61
          refine g_iconst (nI (0)) dX6_resend_64 (by decide) ?_
          exact g_zret dX6_resend_65 rfl (rfl) (⟨rfl, rfl⟩)
  · skip
    rw [nI_eq (by omega) (by omega)] at h21
    refine g_aload_n dX6_resend_24 rfl ?_
    refine g_get (T := TX4) (N := 3) (Cn := RX4) (ref := "CommitCouncil$Manager") 1 dX6_resend_25 (cIn_m hm) (cSh_m (by omega)) rfl (fun w h => List.mem_cons_of_mem _ (hU4 w h)) (by decide) (List.mem_cons_of_mem _ uw_1_37) (Or.inl rfl) rfl ?_
    refine gEx.top (v := .inl (nI (s.1 3 m 0))) (congrArg Sum.inl ((hc.2.2.2.1 m hm).2.1)) ?_
    refine g_iconst (nI (2)) dX6_resend_28 (by decide) ?_
    refine g_icmp_ne 36 dX6_resend_29 (by decide) (fun h29 => ?_) (fun h29 => ?_)
    · skip
      rw [nI_eq (by omega) (by omega)] at h29
      refine g_iconst (nI (0)) dX6_resend_36 (by decide) ?_
      refine g_istore_n dX6_resend_37 (by decide) ?_
      refine g_aload_n dX6_resend_38 rfl ?_
      refine g_get (T := TX4) (N := 3) (Cn := RX4) (ref := "CommitCouncil$Manager") 0 dX6_resend_39 (cIn_m hm) (cSh_m (by omega)) rfl (fun w h => List.mem_cons_of_mem _ (hU4 w h)) (by decide) (List.mem_cons_of_mem _ uw_1_40) (Or.inr (List.mem_cons_of_mem _ uw_1_41)) rfl ?_
      refine gEx.top (v := .inl (nI (s.1 2 0 m))) (congrArg Sum.inl ((hc.2.2.2.1 m hm).1)) ?_
      refine g_if_eq 64 dX6_resend_42 (by decide) (fun h42 => ?_) (fun h42 => ?_)
      · skip
        rw [nI_z (by omega)] at h42
        refine g_iconst (nI (0)) dX6_resend_64 (by decide) ?_
        exact g_zret dX6_resend_65 rfl (rfl) (⟨rfl, rfl⟩)
      · skip
        rw [nI_z (by omega)] at h42
        refine g_iload_n dX6_resend_45 rfl ?_
        refine g_if_eq 64 dX6_resend_46 (by decide) (fun h46 => ?_) (fun h46 => ?_)
        · skip
          rw [nI_z (by omega)] at h46
          refine g_iconst (nI (0)) dX6_resend_64 (by decide) ?_
          exact g_zret dX6_resend_65 rfl (rfl) (⟨rfl, rfl⟩)
        · skip
          rw [nI_z (by omega)] at h46
          refine g_aload_n dX6_resend_49 rfl ?_
          refine g_getr (T := TX6) (N := 7) (Cn := RX6) (ref := "CommitCouncil") 3 dX6_resend_50 (cIn_lo (by decide)) cSh_0 rfl (fun w h => List.mem_cons_of_mem _ (hU6 w h)) (by decide) (List.mem_cons_of_mem _ uw_1_161) (Or.inl rfl) rfl ?_
          refine g_aload_n dX6_resend_53 rfl ?_
          refine g_getr (T := TX6) (N := 7) (Cn := RX6) (ref := "CommitCouncil") 1 dX6_resend_54 (cIn_lo (by decide)) cSh_0 rfl (fun w h => List.mem_cons_of_mem _ (hU6 w h)) (by decide) (List.mem_cons_of_mem _ uw_1_159) (Or.inl rfl) rfl ?_
          refine g_alen (nI (A)) dX6_resend_57 (cIn_lo (by decide)) cSh_2 (by decide) rfl ?_
          refine g_callVi (bI (s.2.length + A ≤ 400)) (n9 := 1) [.inl (nI (A))] [] (c_room hc.2.1.1 (by omega) (by omega)) dX6_resend_58 (gU_V uw_2_65 uw_2_66 uw_2_67 uw_1_6 uw_2_68) rfl (by decide +kernel) rfl ⟨by decide, by decide⟩ (cIn_lo (by decide)) cSh_4 rfl rfl (Nat.le_of_ble_eq_true rfl) (fun σ1 hp1 => ?_)
          subst hp1
          refine g_if_ne 66 dX6_resend_61 (by decide) (fun h61 => ?_) (fun h61 => ?_)
          · skip
            rw [bI_z] at h61
            exact absurd ⟨by omega, by omega, by omega⟩ hs
          · skip
            rw [bI_z] at h61
            refine g_iconst (nI (0)) dX6_resend_64 (by decide) ?_
            exact g_zret dX6_resend_65 rfl (rfl) (⟨rfl, rfl⟩)
    · skip
      rw [nI_eq (by omega) (by omega)] at h29
      refine g_iconst (nI (1)) dX6_resend_32 (by decide) ?_
      refine g_goto 37 dX6_resend_33 (by decide) ?_
      refine g_istore_n dX6_resend_37 (by decide) ?_
      refine g_aload_n dX6_resend_38 rfl ?_
      refine g_get (T := TX4) (N := 3) (Cn := RX4) (ref := "CommitCouncil$Manager") 0 dX6_resend_39 (cIn_m hm) (cSh_m (by omega)) rfl (fun w h => List.mem_cons_of_mem _ (hU4 w h)) (by decide) (List.mem_cons_of_mem _ uw_1_40) (Or.inr (List.mem_cons_of_mem _ uw_1_41)) rfl ?_
      refine gEx.top (v := .inl (nI (s.1 2 0 m))) (congrArg Sum.inl ((hc.2.2.2.1 m hm).1)) ?_
      refine g_if_eq 64 dX6_resend_42 (by decide) (fun h42 => ?_) (fun h42 => ?_)
      · skip
        rw [nI_z (by omega)] at h42
        refine g_iconst (nI (0)) dX6_resend_64 (by decide) ?_
        exact g_zret dX6_resend_65 rfl (rfl) (⟨rfl, rfl⟩)
      · skip
        rw [nI_z (by omega)] at h42
        refine g_iload_n dX6_resend_45 rfl ?_
        refine g_if_eq 64 dX6_resend_46 (by decide) (fun h46 => ?_) (fun h46 => ?_)
        · skip
          rw [nI_z (by omega)] at h46
          refine g_iconst (nI (0)) dX6_resend_64 (by decide) ?_
          exact g_zret dX6_resend_65 rfl (rfl) (⟨rfl, rfl⟩)
        · skip
          rw [nI_z (by omega)] at h46
          refine g_aload_n dX6_resend_49 rfl ?_
          refine g_getr (T := TX6) (N := 7) (Cn := RX6) (ref := "CommitCouncil") 3 dX6_resend_50 (cIn_lo (by decide)) cSh_0 rfl (fun w h => List.mem_cons_of_mem _ (hU6 w h)) (by decide) (List.mem_cons_of_mem _ uw_1_161) (Or.inl rfl) rfl ?_
          refine g_aload_n dX6_resend_53 rfl ?_
          refine g_getr (T := TX6) (N := 7) (Cn := RX6) (ref := "CommitCouncil") 1 dX6_resend_54 (cIn_lo (by decide)) cSh_0 rfl (fun w h => List.mem_cons_of_mem _ (hU6 w h)) (by decide) (List.mem_cons_of_mem _ uw_1_159) (Or.inl rfl) rfl ?_
          refine g_alen (nI (A)) dX6_resend_57 (cIn_lo (by decide)) cSh_2 (by decide) rfl ?_
          refine g_callVi (bI (s.2.length + A ≤ 400)) (n9 := 1) [.inl (nI (A))] [] (c_room hc.2.1.1 (by omega) (by omega)) dX6_resend_58 (gU_V uw_2_65 uw_2_66 uw_2_67 uw_1_6 uw_2_68) rfl (by decide +kernel) rfl ⟨by decide, by decide⟩ (cIn_lo (by decide)) cSh_4 rfl rfl (Nat.le_of_ble_eq_true rfl) (fun σ1 hp1 => ?_)
          subst hp1
          refine g_if_ne 66 dX6_resend_61 (by decide) (fun h61 => ?_) (fun h61 => ?_)
          · skip
            rw [bI_z] at h61
            exact absurd ⟨by omega, by omega, by omega⟩ hs
          · skip
            rw [bI_z] at h61
            refine g_iconst (nI (0)) dX6_resend_64 (by decide) ?_
            exact g_zret dX6_resend_65 rfl (rfl) (⟨rfl, rfl⟩)

set_option maxRecDepth 100000 in
theorem c_resendX {R A : Nat} (hRA : pRA R A) {σ : gSt} {x : Int32} (hx : x < 0 ∨ nI R ≤ x) : gEM (cG R A) mX6_resend 1 [.inr (0), .inl (x)] σ (gX 0 (fun τ => τ = σ)) := by
  refine gEM_of (by decide +kernel) rfl (Nat.le_of_ble_eq_true rfl) ?_
  refine g_iload_n dX6_resend_0 rfl ?_
  refine g_aload_n dX6_resend_1 rfl ?_
  refine g_getr (T := TX6) (N := 7) (Cn := RX6) (ref := "CommitCouncil") 0 dX6_resend_2 (cIn_lo (by decide)) cSh_0 rfl (fun w h => List.mem_cons_of_mem _ (hU6 w h)) (by decide) (List.mem_cons_of_mem _ uw_1_158) (Or.inl rfl) rfl ?_
  refine g_alen (nI (R)) dX6_resend_5 (cIn_lo (by decide)) cSh_1 (by decide) rfl ?_
  exact g_callSx 0 (n9 := 2) [.inl (x), .inl (nI (R))] [] (c_checkNo hx) dX6_resend_6 (gU_S uw_1_192 uw_1_193 uw_1_1 uw_1_194) rfl (by decide +kernel) rfl ⟨by decide, by decide⟩ rfl (Nat.le_of_ble_eq_true rfl) (by decide) (fun σ9 hp9 => ⟨rfl, hp9⟩)

set_option maxRecDepth 100000 in
theorem c_question_l {R A : Nat} (hRA : pRA R A) {s : pT} {m : Nat} (hn : s.2.length + 3 ≤ 400) : ∀ (k i : Nat), i ≤ 3 → 3 - i < k → ∀ σ, cRel R A (pAdd s i (fun l => mQue l m)) σ → gEx (cG R A) mX6_question 1 36 [some (.inr (0)), some (.inl (nI (m))), some (.inl (nI (i)))] [] σ (gR 1 (fun τ => cRel R A (pAdd s 3 (fun l => mQue l m)) τ)) := by
  intro k
  induction k with
  | zero => intro i hi1 hi2; exact absurd hi2 (by omega)
  | succ k ih =>
    intro i hi1 hi2 σ hc
    obtain ⟨hR1, hR6, hA35⟩ := hRA
    refine g_iload_n dX6_question_36 rfl ?_
    refine g_iconst (nI (3)) dX6_question_37 (by decide) ?_
    refine g_icmp_ge 60 dX6_question_38 (by decide) (fun h38 => ?_) (fun h38 => ?_)
    · skip
      rw [nI_leI (by omega) (by omega)] at h38
      refine g_iconst (nI (1)) dX6_question_60 (by decide) ?_
      refine g_zret dX6_question_61 rfl (rfl) ?_
      have e : i = 3 := by omega
      subst e
      exact ⟨rfl, hc⟩
    · skip
      rw [nI_leI (by omega) (by omega)] at h38
      refine g_aload_n dX6_question_41 rfl ?_
      refine g_getr (T := TX6) (N := 7) (Cn := RX6) (ref := "CommitCouncil") 3 dX6_question_42 (cIn_lo (by decide)) cSh_0 rfl (fun w h => List.mem_cons_of_mem _ (hU6 w h)) (by decide) (List.mem_cons_of_mem _ uw_1_161) (Or.inl rfl) rfl ?_
      refine g_iconst (nI (5)) dX6_question_45 (by decide) ?_
      refine g_iload_n dX6_question_46 rfl ?_
      refine g_iload_n dX6_question_47 rfl ?_
      refine g_iconst ((-1)) dX6_question_48 (by decide) ?_
      refine g_iconst ((-1)) dX6_question_49 (by decide) ?_
      refine g_iconst ((-1)) dX6_question_50 (by decide) ?_
      refine g_callVv (n9 := 6) [.inl (nI (5)), .inl (nI (i)), .inl (nI (m)), .inl ((-1)), .inl ((-1)), .inl ((-1))] [] (c_send hc.2.1.1 hc.2.1.2.2.1 hR6 (by rw [pAdd_len]; omega)) dX6_question_51 (gU_V uw_2_73 uw_2_74 uw_2_75 uw_1_6 uw_2_76) rfl (by decide +kernel) rfl ⟨by decide, by decide⟩ (cIn_lo (by decide)) cSh_4 rfl rfl (Nat.le_of_ble_eq_true rfl) (fun σ1 hp1 => ?_)
      refine g_iinc (nI (i + 1)) dX6_question_54 rfl (show nI (i) + nI 1 = _ from nI_add _ _) (by decide) ?_
      refine g_goto 36 dX6_question_57 (by decide) ?_
      subst hp1
      exact ih (i + 1) (by omega) (by omega) _ (by rw [← pAdd_s]; exact cRel_snd hc ((fun l => mQue l m) i) (by simp [mVote, mDec, mQue, mAsk, mVoted]) rfl rfl rfl rfl rfl rfl)

set_option maxRecDepth 100000 in
/-- question -/
theorem c_questionT {R A : Nat} (hRA : pRA R A) {s : pT} {σ : gSt} (hc : cRel R A s σ) {m : Nat} (hm : m < R) (hs : sQue m s) (hlen : s.2.length ≤ 400) : gEM (cG R A) mX6_question 1 [.inr (0), .inl (nI (m))] σ (gR 1 (fun τ => cRel R A (tQue m s) τ)) := by
  obtain ⟨hR1, hR6, hA35⟩ := hRA
  have hA5 : A ≤ 5 := by omega
  obtain ⟨hu, hroom⟩ := hs
  refine gEM_of (by decide +kernel) rfl (Nat.le_of_ble_eq_true rfl) ?_
  refine g_iload_n dX6_question_0 rfl ?_
  refine g_aload_n dX6_question_1 rfl ?_
  refine g_getr (T := TX6) (N := 7) (Cn := RX6) (ref := "CommitCouncil") 0 dX6_question_2 (cIn_lo (by decide)) cSh_0 rfl (fun w h => List.mem_cons_of_mem _ (hU6 w h)) (by decide) (List.mem_cons_of_mem _ uw_1_158) (Or.inl rfl) rfl ?_
  refine g_alen (nI (R)) dX6_question_5 (cIn_lo (by decide)) cSh_1 (by decide) rfl ?_
  refine g_callSv (n9 := 2) [.inl (nI (m)), .inl (nI (R))] [] (c_checkOk hm (by omega)) dX6_question_6 (gU_S uw_1_192 uw_1_193 uw_1_1 uw_1_194) rfl (by decide +kernel) rfl ⟨by decide, by decide⟩ rfl (Nat.le_of_ble_eq_true rfl) (fun σ1 hp1 => ?_)
  subst hp1
  refine g_aload_n dX6_question_9 rfl ?_
  refine g_getr (T := TX6) (N := 7) (Cn := RX6) (ref := "CommitCouncil") 0 dX6_question_10 (cIn_lo (by decide)) cSh_0 rfl (fun w h => List.mem_cons_of_mem _ (hU6 w h)) (by decide) (List.mem_cons_of_mem _ uw_1_158) (Or.inl rfl) rfl ?_
  refine g_iload_n dX6_question_13 rfl ?_
  refine g_aald4N (n := R) (j := m) dX6_question_14 (cIn_lo (by decide)) cSh_1 hm (by omega) ?_
  refine g_get (T := TX4) (N := 3) (Cn := RX4) (ref := "CommitCouncil$Manager") 0 dX6_question_15 (cIn_m hm) (cSh_m (by omega)) rfl (fun w h => List.mem_cons_of_mem _ (hU4 w h)) (by decide) (List.mem_cons_of_mem _ uw_1_40) (Or.inr (List.mem_cons_of_mem _ uw_1_41)) rfl ?_
  refine gEx.top (v := .inl (nI (s.1 2 0 m))) (congrArg Sum.inl ((hc.2.2.2.1 m hm).1)) ?_
  refine g_if_eq 32 dX6_question_18 (by decide) (fun h18 => ?_) (fun h18 => ?_)
  · skip
    rw [nI_z (by omega)] at h18
    exfalso; omega
  · skip
    rw [nI_z (by omega)] at h18
    refine g_aload_n dX6_question_21 rfl ?_
    refine g_getr (T := TX6) (N := 7) (Cn := RX6) (ref := "CommitCouncil") 3 dX6_question_22 (cIn_lo (by decide)) cSh_0 rfl (fun w h => List.mem_cons_of_mem _ (hU6 w h)) (by decide) (List.mem_cons_of_mem _ uw_1_161) (Or.inl rfl) rfl ?_
    refine g_iconst (nI (3)) dX6_question_25 (by decide) ?_
    refine g_callVi (bI (s.2.length + 3 ≤ 400)) (n9 := 1) [.inl (nI (3))] [] (c_room hc.2.1.1 (by omega) (by omega)) dX6_question_26 (gU_V uw_2_65 uw_2_66 uw_2_67 uw_1_6 uw_2_68) rfl (by decide +kernel) rfl ⟨by decide, by decide⟩ (cIn_lo (by decide)) cSh_4 rfl rfl (Nat.le_of_ble_eq_true rfl) (fun σ1 hp1 => ?_)
    subst hp1
    refine g_if_ne 34 dX6_question_29 (by decide) (fun h29 => ?_) (fun h29 => ?_)
    · skip
      rw [bI_z] at h29
      refine g_iconst (nI (0)) dX6_question_34 (by decide) ?_
      refine g_istore_n dX6_question_35 (by decide) ?_
      exact c_question_l ⟨hR1, hR6, hA35⟩ hroom 4 0 (by omega) (by omega) _ (by rw [pAdd_0]; exact hc)
    · skip
      rw [bI_z] at h29
      exfalso; omega

set_option maxRecDepth 100000 in
/-- question: nothing -/
theorem c_questionF {R A : Nat} (hRA : pRA R A) {s : pT} {σ : gSt} (hc : cRel R A s σ) (hb : pBd R A s.1) {m : Nat} (hm : m < R) (hs : ¬ sQue m s) (hlen : s.2.length ≤ 400) : gEM (cG R A) mX6_question 1 [.inr (0), .inl (nI (m))] σ (gR 0 (fun τ => τ = σ)) := by
  obtain ⟨hR1, hR6, hA35⟩ := hRA
  have hA5 : A ≤ 5 := by omega
  have hu1 := hb.1 0 m
  refine gEM_of (by decide +kernel) rfl (Nat.le_of_ble_eq_true rfl) ?_
  refine g_iload_n dX6_question_0 rfl ?_
  refine g_aload_n dX6_question_1 rfl ?_
  refine g_getr (T := TX6) (N := 7) (Cn := RX6) (ref := "CommitCouncil") 0 dX6_question_2 (cIn_lo (by decide)) cSh_0 rfl (fun w h => List.mem_cons_of_mem _ (hU6 w h)) (by decide) (List.mem_cons_of_mem _ uw_1_158) (Or.inl rfl) rfl ?_
  refine g_alen (nI (R)) dX6_question_5 (cIn_lo (by decide)) cSh_1 (by decide) rfl ?_
  refine g_callSv (n9 := 2) [.inl (nI (m)), .inl (nI (R))] [] (c_checkOk hm (by omega)) dX6_question_6 (gU_S uw_1_192 uw_1_193 uw_1_1 uw_1_194) rfl (by decide +kernel) rfl ⟨by decide, by decide⟩ rfl (Nat.le_of_ble_eq_true rfl) (fun σ1 hp1 => ?_)
  subst hp1
  refine g_aload_n dX6_question_9 rfl ?_
  refine g_getr (T := TX6) (N := 7) (Cn := RX6) (ref := "CommitCouncil") 0 dX6_question_10 (cIn_lo (by decide)) cSh_0 rfl (fun w h => List.mem_cons_of_mem _ (hU6 w h)) (by decide) (List.mem_cons_of_mem _ uw_1_158) (Or.inl rfl) rfl ?_
  refine g_iload_n dX6_question_13 rfl ?_
  refine g_aald4N (n := R) (j := m) dX6_question_14 (cIn_lo (by decide)) cSh_1 hm (by omega) ?_
  refine g_get (T := TX4) (N := 3) (Cn := RX4) (ref := "CommitCouncil$Manager") 0 dX6_question_15 (cIn_m hm) (cSh_m (by omega)) rfl (fun w h => List.mem_cons_of_mem _ (hU4 w h)) (by decide) (List.mem_cons_of_mem _ uw_1_40) (Or.inr (List.mem_cons_of_mem _ uw_1_41)) rfl ?_
  refine gEx.top (v := .inl (nI (s.1 2 0 m))) (congrArg Sum.inl ((hc.2.2.2.1 m hm).1)) ?_
  refine g_if_eq 32 dX6_question_18 (by decide) (fun h18 => ?_) (fun h18 => ?_)
  · skip
    rw [nI_z (by omega)] at h18
    refine g_iconst (nI (0)) dX6_question_32 (by decide) ?_
    exact g_zret dX6_question_33 rfl (rfl) (⟨rfl, rfl⟩)
  · skip
    rw [nI_z (by omega)] at h18
    refine g_aload_n dX6_question_21 rfl ?_
    refine g_getr (T := TX6) (N := 7) (Cn := RX6) (ref := "CommitCouncil") 3 dX6_question_22 (cIn_lo (by decide)) cSh_0 rfl (fun w h => List.mem_cons_of_mem _ (hU6 w h)) (by decide) (List.mem_cons_of_mem _ uw_1_161) (Or.inl rfl) rfl ?_
    refine g_iconst (nI (3)) dX6_question_25 (by decide) ?_
    refine g_callVi (bI (s.2.length + 3 ≤ 400)) (n9 := 1) [.inl (nI (3))] [] (c_room hc.2.1.1 (by omega) (by omega)) dX6_question_26 (gU_V uw_2_65 uw_2_66 uw_2_67 uw_1_6 uw_2_68) rfl (by decide +kernel) rfl ⟨by decide, by decide⟩ (cIn_lo (by decide)) cSh_4 rfl rfl (Nat.le_of_ble_eq_true rfl) (fun σ1 hp1 => ?_)
    subst hp1
    refine g_if_ne 34 dX6_question_29 (by decide) (fun h29 => ?_) (fun h29 => ?_)
    · skip
      rw [bI_z] at h29
      exact absurd ⟨by omega, by omega⟩ hs
    · skip
      rw [bI_z] at h29
      refine g_iconst (nI (0)) dX6_question_32 (by decide) ?_
      exact g_zret dX6_question_33 rfl (rfl) (⟨rfl, rfl⟩)

set_option maxRecDepth 100000 in
theorem c_questionX {R A : Nat} (hRA : pRA R A) {σ : gSt} {x : Int32} (hx : x < 0 ∨ nI R ≤ x) : gEM (cG R A) mX6_question 1 [.inr (0), .inl (x)] σ (gX 0 (fun τ => τ = σ)) := by
  refine gEM_of (by decide +kernel) rfl (Nat.le_of_ble_eq_true rfl) ?_
  refine g_iload_n dX6_question_0 rfl ?_
  refine g_aload_n dX6_question_1 rfl ?_
  refine g_getr (T := TX6) (N := 7) (Cn := RX6) (ref := "CommitCouncil") 0 dX6_question_2 (cIn_lo (by decide)) cSh_0 rfl (fun w h => List.mem_cons_of_mem _ (hU6 w h)) (by decide) (List.mem_cons_of_mem _ uw_1_158) (Or.inl rfl) rfl ?_
  refine g_alen (nI (R)) dX6_question_5 (cIn_lo (by decide)) cSh_1 (by decide) rfl ?_
  exact g_callSx 0 (n9 := 2) [.inl (x), .inl (nI (R))] [] (c_checkNo hx) dX6_question_6 (gU_S uw_1_192 uw_1_193 uw_1_1 uw_1_194) rfl (by decide +kernel) rfl ⟨by decide, by decide⟩ rfl (Nat.le_of_ble_eq_true rfl) (by decide) (fun σ9 hp9 => ⟨rfl, hp9⟩)

set_option maxRecDepth 100000 in
/-- keeps -/
theorem c_keeps {R A : Nat} (hRA : pRA R A) {s : pT} {σ : gSt} (hc : cRel R A s σ) (hb : pBd R A s.1) {l : Nat} (hl : l < 3) {b a : Nat} (hbb : b ≤ 1536) (ha : a < A) : gEM (cG R A) mX1_keeps 0 [.inr (40 + l), .inl (nI (b)), .inl (nI (a))] σ (gR (bI (pKeep s.1 l b a)) (fun τ => τ = σ)) := by
  obtain ⟨hR1, hR6, hA35⟩ := hRA
  have hA5 : A ≤ 5 := by omega
  have hb7 := hb.2.2.2.2.2.1 l
  have hb8 := hb.2.2.2.2.2.2.1 l
  have hb9 := hb.2.2.2.2.2.2.2.1 l
  have hb10 := hb.2.2.2.2.2.2.2.2.1 l
  have hb11 := hb.2.2.2.2.2.2.2.2.2.1 l
  have hb11a := hb11 a
  refine gEM_of (by decide +kernel) rfl (Nat.le_of_ble_eq_true rfl) ?_
  refine g_aload_n dX1_keeps_0 rfl ?_
  refine g_get (T := TX1) (N := 10) (Cn := RX1) (ref := "CommitCouncil$Leader") 2 dX1_keeps_1 (cIn_l hl) (cSh_l hl) rfl (fun w h => List.mem_cons_of_mem _ (hU1 w h)) (by decide) (List.mem_cons_of_mem _ uw_1_81) (Or.inl rfl) rfl ?_
  refine gEx.top (v := .inl (nI (s.1 8 l 0))) (congrArg Sum.inl ((hc.2.2.2.2.2 l hl).2.2.1)) ?_
  refine g_iconst (nI (1)) dX1_keeps_4 (by decide) ?_
  refine g_icmp_ne 31 dX1_keeps_5 (by decide) (fun h5 => ?_) (fun h5 => ?_)
  · skip
    rw [nI_eq (by omega) (by omega)] at h5
    refine g_iconst (nI (0)) dX1_keeps_31 (by decide) ?_
    exact g_zret dX1_keeps_32 rfl (rfl) (⟨by unfold bI; rw [if_neg (by omega)]; rfl, rfl⟩)
  · skip
    rw [nI_eq (by omega) (by omega)] at h5
    refine g_iload_n dX1_keeps_8 rfl ?_
    refine g_aload_n dX1_keeps_9 rfl ?_
    refine g_get (T := TX1) (N := 10) (Cn := RX1) (ref := "CommitCouncil$Leader") 1 dX1_keeps_10 (cIn_l hl) (cSh_l hl) rfl (fun w h => List.mem_cons_of_mem _ (hU1 w h)) (by decide) (List.mem_cons_of_mem _ uw_1_79) (Or.inl rfl) rfl ?_
    refine gEx.top (v := .inl (nI (s.1 7 l 0))) (congrArg Sum.inl ((hc.2.2.2.2.2 l hl).2.1)) ?_
    refine g_icmp_ne 31 dX1_keeps_13 (by decide) (fun h13 => ?_) (fun h13 => ?_)
    · skip
      rw [nI_eq (by omega) (by omega)] at h13
      refine g_iconst (nI (0)) dX1_keeps_31 (by decide) ?_
      exact g_zret dX1_keeps_32 rfl (rfl) (⟨by unfold bI; rw [if_neg (by omega)]; rfl, rfl⟩)
    · skip
      rw [nI_eq (by omega) (by omega)] at h13
      refine g_aload_n dX1_keeps_16 rfl ?_
      refine g_get (T := TX1) (N := 10) (Cn := RX1) (ref := "CommitCouncil$Leader") 5 dX1_keeps_17 (cIn_l hl) (cSh_l hl) rfl (fun w h => List.mem_cons_of_mem _ (hU1 w h)) (by decide) (List.mem_cons_of_mem _ uw_1_87) (Or.inl rfl) rfl ?_
      refine gEx.top (v := .inl (nI (msk (s.1 11 l)))) (congrArg Sum.inl ((hc.2.2.2.2.2 l hl).2.2.2.2.2.1)) ?_
      refine g_iload_n dX1_keeps_20 rfl ?_
      refine g_ishr dX1_keeps_21 ?_
      refine g_iconst (nI (1)) dX1_keeps_22 (by decide) ?_
      refine g_iand dX1_keeps_23 ?_
      refine gEx.top (v := .inl (nI (s.1 11 l a))) (congrArg Sum.inl (msk_bit hb11 (by omega))) ?_
      refine g_if_ne 31 dX1_keeps_24 (by decide) (fun h24 => ?_) (fun h24 => ?_)
      · skip
        rw [nI_z (by omega)] at h24
        refine g_iconst (nI (0)) dX1_keeps_31 (by decide) ?_
        exact g_zret dX1_keeps_32 rfl (rfl) (⟨by unfold bI; rw [if_neg (by omega)]; rfl, rfl⟩)
      · skip
        rw [nI_z (by omega)] at h24
        refine g_iconst (nI (1)) dX1_keeps_27 (by decide) ?_
        refine g_goto 32 dX1_keeps_28 (by decide) ?_
        exact g_zret dX1_keeps_32 rfl (rfl) (⟨by unfold bI; rw [if_pos ⟨by omega, by omega, by omega⟩]; rfl, rfl⟩)

set_option maxRecDepth 100000 in
/-- oneMoreIsEnough -/
theorem c_enough {R A : Nat} (hRA : pRA R A) {s : pT} {σ : gSt} (hc : cRel R A s σ) (hb : pBd R A s.1) {l : Nat} (hl : l < 3) : gEM (cG R A) mX1_oneMoreIsEnough 0 [.inr (40 + l)] σ (gR (bI (pEnough A s.1 l)) (fun τ => τ = σ)) := by
  obtain ⟨hR1, hR6, hA35⟩ := hRA
  have hA5 : A ≤ 5 := by omega
  have hb7 := hb.2.2.2.2.2.1 l
  have hb8 := hb.2.2.2.2.2.2.1 l
  have hb9 := hb.2.2.2.2.2.2.2.1 l
  have hb10 := hb.2.2.2.2.2.2.2.2.1 l
  have hb11 := hb.2.2.2.2.2.2.2.2.2.1 l
  have hps := psum_le hb11 5
  refine gEM_of (by decide +kernel) rfl (Nat.le_of_ble_eq_true rfl) ?_
  refine g_aload_n dX1_oneMoreIsEnough_0 rfl ?_
  refine g_get (T := TX1) (N := 10) (Cn := RX1) (ref := "CommitCouncil$Leader") 5 dX1_oneMoreIsEnough_1 (cIn_l hl) (cSh_l hl) rfl (fun w h => List.mem_cons_of_mem _ (hU1 w h)) (by decide) (List.mem_cons_of_mem _ uw_1_87) (Or.inl rfl) rfl ?_
  refine gEx.top (v := .inl (nI (msk (s.1 11 l)))) (congrArg Sum.inl ((hc.2.2.2.2.2 l hl).2.2.2.2.2.1)) ?_
  refine g_callSi (nI (pc5 (msk (s.1 11 l)))) (n9 := 1) [.inl (nI (msk (s.1 11 l)))] [] (c_bits (msk_lt hb11)) dX1_oneMoreIsEnough_4 (gU_S uw_2_171 uw_2_172 uw_1_14 uw_2_173) rfl (by decide +kernel) rfl ⟨by decide, by decide⟩ rfl (Nat.le_of_ble_eq_true rfl) (fun σ1 hp1 => ?_)
  subst hp1
  refine gEx.top (v := .inl (nI (psum (s.1 11 l) 5))) (congrArg Sum.inl (by rw [pc5_msk hb11])) ?_
  refine g_iconst (nI (1)) dX1_oneMoreIsEnough_7 (by decide) ?_
  refine g_iadd dX1_oneMoreIsEnough_8 ?_
  refine gEx.top (v := .inl (nI (psum (s.1 11 l) 5 + 1))) (congrArg Sum.inl (nI_add _ _)) ?_
  refine g_iconst (nI (2)) dX1_oneMoreIsEnough_9 (by decide) ?_
  refine g_imul dX1_oneMoreIsEnough_10 ?_
  refine gEx.top (v := .inl (nI ((psum (s.1 11 l) 5 + 1) * (2)))) (congrArg Sum.inl (pk_mul _ _)) ?_
  refine g_aload_n dX1_oneMoreIsEnough_11 rfl ?_
  refine g_get (T := TX1) (N := 10) (Cn := RX1) (ref := "CommitCouncil$Leader") 8 dX1_oneMoreIsEnough_12 (cIn_l hl) (cSh_l hl) rfl (fun w h => List.mem_cons_of_mem _ (hU1 w h)) (by decide) (List.mem_cons_of_mem _ uw_1_93) (Or.inl rfl) rfl ?_
  refine gEx.top (v := .inl (nI (A))) (congrArg Sum.inl ((hc.2.2.2.2.2 l hl).2.2.2.2.2.2.1)) ?_
  refine g_icmp_le 22 dX1_oneMoreIsEnough_15 (by decide) (fun h15 => ?_) (fun h15 => ?_)
  · skip
    rw [nI_leI (by omega) (by omega)] at h15
    refine g_iconst (nI (0)) dX1_oneMoreIsEnough_22 (by decide) ?_
    exact g_zret dX1_oneMoreIsEnough_23 rfl (rfl) (⟨by unfold bI; rw [if_neg (by show ¬ A < (psum (s.1 11 l) 5 + 1) * 2; omega)]; rfl, rfl⟩)
  · skip
    rw [nI_leI (by omega) (by omega)] at h15
    refine g_iconst (nI (1)) dX1_oneMoreIsEnough_18 (by decide) ?_
    refine g_goto 23 dX1_oneMoreIsEnough_19 (by decide) ?_
    exact g_zret dX1_oneMoreIsEnough_23 rfl (rfl) (⟨by unfold bI; rw [if_pos (by show A < (psum (s.1 11 l) 5 + 1) * 2; omega)]; rfl, rfl⟩)

theorem malt {R A m a : Nat} (hm : m < R) (ha : a < A) : m * A + a < R * A := by
  have h1 : (m + 1) * A ≤ R * A := Nat.mul_le_mul_right _ hm
  rw [Nat.add_mul, Nat.one_mul] at h1
  omega
theorem raB {R A : Nat} (hR : R ≤ 6) (hA : A ≤ 5) : R * A ≤ 30 := Nat.mul_le_mul hR hA

set_option maxRecDepth 100000 in
/-- sightOf -/
theorem c_sight {R A : Nat} (hRA : pRA R A) {s : pT} {σ : gSt} (hc : cRel R A s σ) (hb : pBd R A s.1) {l : Nat} (hl : l < 3) {m a : Nat} (hm : m < R) (ha : a < A) : gEM (cG R A) mX1_sightOf 0 [.inr (40 + l), .inl (nI (m)), .inl (nI (a))] σ (gR (nI (s.1 14 l (m * 5 + a))) (fun τ => τ = σ)) := by
  obtain ⟨hR1, hR6, hA35⟩ := hRA
  have hA5 : A ≤ 5 := by omega
  have hma := malt hm ha
  have hra := raB hR6 hA5
  refine gEM_of (by decide +kernel) rfl (Nat.le_of_ble_eq_true rfl) ?_
  refine g_iload_n dX1_sightOf_0 rfl ?_
  refine g_aload_n dX1_sightOf_1 rfl ?_
  refine g_get (T := TX1) (N := 10) (Cn := RX1) (ref := "CommitCouncil$Leader") 8 dX1_sightOf_2 (cIn_l hl) (cSh_l hl) rfl (fun w h => List.mem_cons_of_mem _ (hU1 w h)) (by decide) (List.mem_cons_of_mem _ uw_1_93) (Or.inl rfl) rfl ?_
  refine gEx.top (v := .inl (nI (A))) (congrArg Sum.inl ((hc.2.2.2.2.2 l hl).2.2.2.2.2.2.1)) ?_
  refine g_imul dX1_sightOf_5 ?_
  refine gEx.top (v := .inl (nI ((m) * (A)))) (congrArg Sum.inl (pk_mul _ _)) ?_
  refine g_iload_n dX1_sightOf_6 rfl ?_
  refine g_iadd dX1_sightOf_7 ?_
  refine gEx.top (v := .inl (nI ((m) * (A) + a))) (congrArg Sum.inl (nI_add _ _)) ?_
  refine g_istore_n dX1_sightOf_8 (by decide) ?_
  refine g_iload_n dX1_sightOf_9 rfl ?_
  refine g_if_lt 31 dX1_sightOf_10 (by decide) (fun h10 => ?_) (fun h10 => ?_)
  · skip
    rw [nI_n (by omega)] at h10
    exact h10.elim
  · skip
    rw [nI_n (by omega)] at h10
    refine g_iload_n dX1_sightOf_13 rfl ?_
    refine g_aload_n dX1_sightOf_14 rfl ?_
    refine g_getr (T := TX1) (N := 10) (Cn := RX1) (ref := "CommitCouncil$Leader") 9 dX1_sightOf_15 (cIn_l hl) (cSh_l hl) rfl (fun w h => List.mem_cons_of_mem _ (hU1 w h)) (by decide) (List.mem_cons_of_mem _ uw_1_94) (Or.inl rfl) rfl ?_
    refine g_alen (nI (R * A)) dX1_sightOf_18 (cIn_s hl) (cSh_s hl) (by decide) rfl ?_
    refine g_icmp_ge 31 dX1_sightOf_19 (by decide) (fun h19 => ?_) (fun h19 => ?_)
    · skip
      rw [nI_leI (by omega) (by omega)] at h19
      exfalso; omega
    · skip
      rw [nI_leI (by omega) (by omega)] at h19
      refine g_aload_n dX1_sightOf_22 rfl ?_
      refine g_getr (T := TX1) (N := 10) (Cn := RX1) (ref := "CommitCouncil$Leader") 9 dX1_sightOf_23 (cIn_l hl) (cSh_l hl) rfl (fun w h => List.mem_cons_of_mem _ (hU1 w h)) (by decide) (List.mem_cons_of_mem _ uw_1_94) (Or.inl rfl) rfl ?_
      refine g_iload_n dX1_sightOf_26 rfl ?_
      refine g_ialdN (n := R * A) (j := (m) * (A) + a) dX1_sightOf_27 (cIn_s hl) (cSh_s hl) (hma) (by omega) ?_
      refine gEx.top (v := .inl (nI (s.1 14 l (m * 5 + a)))) (congrArg Sum.inl ((hc.2.2.2.2.2 l hl).2.2.2.2.2.2.2.2.2 m a hm ha)) ?_
      refine g_goto 32 dX1_sightOf_28 (by decide) ?_
      exact g_iret dX1_sightOf_32 rfl (⟨rfl, rfl⟩)

theorem pAlk_s (α : pS) (l m a b n : Nat) : pAlk α l m a b (n + 1) = pAlk α l m a b n + if n ≠ a ∧ α 14 l (m * 5 + n) ≠ 0 ∧ α 14 l (m * 5 + n) / 4 = b then 1 else 0 := rfl
theorem pAlk_le (α : pS) (l m a b n : Nat) : pAlk α l m a b n ≤ n := psum_le (fun i => by split <;> omega) n
theorem pOut_new {A : Nat} {α : pS} {l m a b w : Nat} (h0 : α 13 l m = 0) (hn : pNew α l m a b) : pOut A α l m a b w = if A < (1 + pAlk α l m a b A) * 2 then w else 0 := by
  unfold pOut
  rw [if_neg (fun q => q.elim (fun z => z h0) (fun z => z hn))]
theorem pOut_old {A : Nat} {α : pS} {l m a b w : Nat} (h : α 13 l m ≠ 0 ∨ ¬ pNew α l m a b) : pOut A α l m a b w = α 13 l m := by
  unfold pOut
  rw [if_pos h]

set_option maxRecDepth 100000 in
theorem c_outc_l {R A : Nat} (hRA : pRA R A) {s : pT} {σ : gSt} (hc : cRel R A s σ) (hb : pBd R A s.1) {l : Nat} (hl : l < 3) {m a b w : Nat} (hm : m < R) (ha : a < A) (hbb : b ≤ 1536) (hw : w = 1 ∨ w = 2) (h0 : s.1 13 l m = 0) (hnew : pNew s.1 l m a b) : ∀ (k i : Nat), i ≤ A → A - i < k → gEx (cG R A) mX1_outcomeAfter 0 53 [some (.inr (40 + l)), some (.inl (nI m)), some (.inl (nI a)), some (.inl (nI (4 * b + w))), some (.inl (nI (1 + pAlk s.1 l m a b i))), some (.inl (nI i))] [] σ (gR (nI (pOut A s.1 l m a b w)) (fun τ => τ = σ)) := by
  intro k
  induction k with
  | zero => intro i hi1 hi2; exact absurd hi2 (by omega)
  | succ k ih =>
    intro i hi1 hi2 
    obtain ⟨hR1, hR6, hA35⟩ := hRA
    have hA5 : A ≤ 5 := by omega
    have hpl := pAlk_le s.1 l m a b i
    have hb7 := hb.2.2.2.2.2.1 l
    have hb8 := hb.2.2.2.2.2.2.1 l
    have hb9 := hb.2.2.2.2.2.2.2.1 l
    have hb10 := hb.2.2.2.2.2.2.2.2.1 l
    have hb11 := hb.2.2.2.2.2.2.2.2.2.1 l
    have hb14 : ∀ j, s.1 14 l j < 2 ^ 31 := fun j => Nat.lt_of_le_of_lt (hb.2.2.2.2.2.2.2.2.2.2.2.2.1 l j) (by decide)
    have hb13 := hb.2.2.2.2.2.2.2.2.2.2.2.1 l
    refine g_iload dX1_outcomeAfter_53 rfl ?_
    refine g_aload_n dX1_outcomeAfter_55 rfl ?_
    refine g_get (T := TX1) (N := 10) (Cn := RX1) (ref := "CommitCouncil$Leader") 8 dX1_outcomeAfter_56 (cIn_l hl) (cSh_l hl) rfl (fun w h => List.mem_cons_of_mem _ (hU1 w h)) (by decide) (List.mem_cons_of_mem _ uw_1_93) (Or.inl rfl) rfl ?_
    refine gEx.top (v := .inl (nI (A))) (congrArg Sum.inl ((hc.2.2.2.2.2 l hl).2.2.2.2.2.2.1)) ?_
    refine g_icmp_ge 94 dX1_outcomeAfter_59 (by decide) (fun h59 => ?_) (fun h59 => ?_)
    · skip
      rw [nI_leI (by omega) (by omega)] at h59
      refine g_iload dX1_outcomeAfter_94 rfl ?_
      refine g_iconst (nI (2)) dX1_outcomeAfter_96 (by decide) ?_
      refine g_imul dX1_outcomeAfter_97 ?_
      refine gEx.top (v := .inl (nI ((1 + pAlk s.1 l m a b i) * (2)))) (congrArg Sum.inl (pk_mul _ _)) ?_
      refine g_aload_n dX1_outcomeAfter_98 rfl ?_
      refine g_get (T := TX1) (N := 10) (Cn := RX1) (ref := "CommitCouncil$Leader") 8 dX1_outcomeAfter_99 (cIn_l hl) (cSh_l hl) rfl (fun w h => List.mem_cons_of_mem _ (hU1 w h)) (by decide) (List.mem_cons_of_mem _ uw_1_93) (Or.inl rfl) rfl ?_
      refine gEx.top (v := .inl (nI (A))) (congrArg Sum.inl ((hc.2.2.2.2.2 l hl).2.2.2.2.2.2.1)) ?_
      refine g_icmp_le 112 dX1_outcomeAfter_102 (by decide) (fun h102 => ?_) (fun h102 => ?_)
      · skip
        rw [nI_leI (by omega) (by omega)] at h102
        refine g_iconst (nI (0)) dX1_outcomeAfter_112 (by decide) ?_
        refine g_iret dX1_outcomeAfter_113 rfl ?_
        have e : i = A := by omega
        subst e
        exact ⟨by rw [pOut_new h0 hnew, if_neg (by omega)], rfl⟩
      · skip
        rw [nI_leI (by omega) (by omega)] at h102
        refine g_iload_n dX1_outcomeAfter_105 rfl ?_
        refine g_callNi (nI ((4 * b + w) % 4)) (host := RX6) (n9 := 1) [.inl (nI (4 * b + w))] [] (c_wordOf (v := 4 * b + w) (by omega)) dX1_outcomeAfter_106 (gU_N uw_2_158) rfl (by decide +kernel) (List.mem_cons_of_mem _ uw_1_1) (List.mem_cons_of_mem _ uw_2_157) (by decide +kernel) rfl ⟨by decide, by decide⟩ rfl (Nat.le_of_ble_eq_true rfl) (fun σ1 hp1 => ?_)
        subst hp1
        refine g_goto 113 dX1_outcomeAfter_109 (by decide) ?_
        refine g_iret dX1_outcomeAfter_113 rfl ?_
        have e : i = A := by omega
        subst e
        exact ⟨by rw [pOut_new h0 hnew, if_pos (by omega), show (4 * b + w) % 4 = w by omega], rfl⟩
    · skip
      rw [nI_leI (by omega) (by omega)] at h59
      refine g_iload dX1_outcomeAfter_62 rfl ?_
      refine g_iload_n dX1_outcomeAfter_64 rfl ?_
      refine g_icmp_eq 88 dX1_outcomeAfter_65 (by decide) (fun h65 => ?_) (fun h65 => ?_)
      · skip
        rw [nI_eq (by omega) (by omega)] at h65
        refine g_iinc (nI (i + 1)) dX1_outcomeAfter_88 rfl (show nI (i) + nI 1 = _ from nI_add _ _) (by decide) ?_
        refine g_goto 53 dX1_outcomeAfter_91 (by decide) ?_
        exact gEx.eq (by rw [pAlk_s]; first | (rw [if_pos ⟨by omega, by omega, by omega⟩]; rfl) | (rw [if_neg (by omega)]; rfl)) rfl rfl (ih (i + 1) (by omega) (by omega))
      · skip
        rw [nI_eq (by omega) (by omega)] at h65
        refine g_aload_n dX1_outcomeAfter_68 rfl ?_
        refine g_iload_n dX1_outcomeAfter_69 rfl ?_
        refine g_iload dX1_outcomeAfter_70 rfl ?_
        refine g_callVi (nI (s.1 14 l (m * 5 + i))) (n9 := 2) [.inl (nI (m)), .inl (nI (i))] [] (c_sight ⟨hR1, hR6, hA35⟩ hc hb hl hm (show i < A by omega)) dX1_outcomeAfter_72 (gU_V uw_2_152 uw_2_153 uw_2_154 uw_1_5 uw_2_155) rfl (by decide +kernel) rfl ⟨by decide, by decide⟩ (cIn_l hl) (cSh_l hl) rfl rfl (Nat.le_of_ble_eq_true rfl) (fun σ1 hp1 => ?_)
        subst hp1
        refine g_callNi (pB (s.1 14 l (m * 5 + i))) (host := RX6) (n9 := 1) [.inl (nI (s.1 14 l (m * 5 + i)))] [] (c_ballotOf (hb14 _)) dX1_outcomeAfter_75 (gU_N uw_2_151) rfl (by decide +kernel) (List.mem_cons_of_mem _ uw_1_1) (List.mem_cons_of_mem _ uw_2_150) (by decide +kernel) rfl ⟨by decide, by decide⟩ rfl (Nat.le_of_ble_eq_true rfl) (fun σ1 hp1 => ?_)
        subst hp1
        refine g_iload_n dX1_outcomeAfter_78 rfl ?_
        refine g_callNi (pB (4 * b + w)) (host := RX6) (n9 := 1) [.inl (nI (4 * b + w))] [.inl (pB (s.1 14 l (m * 5 + i)))] (c_ballotOf (by omega)) dX1_outcomeAfter_79 (gU_N uw_2_151) rfl (by decide +kernel) (List.mem_cons_of_mem _ uw_1_1) (List.mem_cons_of_mem _ uw_2_150) (by decide +kernel) rfl ⟨by decide, by decide⟩ rfl (Nat.le_of_ble_eq_true rfl) (fun σ1 hp1 => ?_)
        subst hp1
        refine gEx.top (v := .inl (nI (b))) (congrArg Sum.inl (pB_v (by omega) (by omega))) ?_
        refine g_icmp_ne 88 dX1_outcomeAfter_82 (by decide) (fun h82 => ?_) (fun h82 => ?_)
        · skip
          rw [pB_eq (hb14 _) (by omega)] at h82
          refine g_iinc (nI (i + 1)) dX1_outcomeAfter_88 rfl (show nI (i) + nI 1 = _ from nI_add _ _) (by decide) ?_
          refine g_goto 53 dX1_outcomeAfter_91 (by decide) ?_
          exact gEx.eq (by rw [pAlk_s]; first | (rw [if_pos ⟨by omega, by omega, by omega⟩]; rfl) | (rw [if_neg (by omega)]; rfl)) rfl rfl (ih (i + 1) (by omega) (by omega))
        · skip
          rw [pB_eq (hb14 _) (by omega)] at h82
          refine g_iinc (nI (1 + pAlk s.1 l m a b i + 1)) dX1_outcomeAfter_85 rfl (show nI (1 + pAlk s.1 l m a b i) + nI 1 = _ from nI_add _ _) (by decide) ?_
          refine g_iinc (nI (i + 1)) dX1_outcomeAfter_88 rfl (show nI (i) + nI 1 = _ from nI_add _ _) (by decide) ?_
          refine g_goto 53 dX1_outcomeAfter_91 (by decide) ?_
          exact gEx.eq (by rw [pAlk_s]; first | (rw [if_pos ⟨by omega, by omega, by omega⟩]; rfl) | (rw [if_neg (by omega)]; rfl)) rfl rfl (ih (i + 1) (by omega) (by omega))

set_option maxRecDepth 100000 in
/-- outcomeAfter -/
theorem c_outc {R A : Nat} (hRA : pRA R A) {s : pT} {σ : gSt} (hc : cRel R A s σ) (hb : pBd R A s.1) {l : Nat} (hl : l < 3) {m a b w : Nat} (hm : m < R) (ha : a < A) (hbb : b ≤ 1536) (hw : w = 1 ∨ w = 2) : gEM (cG R A) mX1_outcomeAfter 0 [.inr (40 + l), .inl (nI (m)), .inl (nI (a)), .inl (nI (4 * b + w))] σ (gR (nI (pOut A s.1 l m a b w)) (fun τ => τ = σ)) := by
  obtain ⟨hR1, hR6, hA35⟩ := hRA
  have hA5 : A ≤ 5 := by omega
  have hb7 := hb.2.2.2.2.2.1 l
  have hb8 := hb.2.2.2.2.2.2.1 l
  have hb9 := hb.2.2.2.2.2.2.2.1 l
  have hb10 := hb.2.2.2.2.2.2.2.2.1 l
  have hb11 := hb.2.2.2.2.2.2.2.2.2.1 l
  have hb14 : ∀ j, s.1 14 l j < 2 ^ 31 := fun j => Nat.lt_of_le_of_lt (hb.2.2.2.2.2.2.2.2.2.2.2.2.1 l j) (by decide)
  have hb13 := hb.2.2.2.2.2.2.2.2.2.2.2.1 l
  have hb13m := hb13 m
  refine gEM_of (by decide +kernel) rfl (Nat.le_of_ble_eq_true rfl) ?_
  refine g_iload_n dX1_outcomeAfter_0 rfl ?_
  refine g_if_lt 13 dX1_outcomeAfter_1 (by decide) (fun h1 => ?_) (fun h1 => ?_)
  · skip
    rw [nI_n (by omega)] at h1
    exact h1.elim
  · skip
    rw [nI_n (by omega)] at h1
    refine g_iload_n dX1_outcomeAfter_4 rfl ?_
    refine g_aload_n dX1_outcomeAfter_5 rfl ?_
    refine g_getr (T := TX1) (N := 10) (Cn := RX1) (ref := "CommitCouncil$Leader") 7 dX1_outcomeAfter_6 (cIn_l hl) (cSh_l hl) rfl (fun w h => List.mem_cons_of_mem _ (hU1 w h)) (by decide) (List.mem_cons_of_mem _ uw_1_91) (Or.inl rfl) rfl ?_
    refine g_alen (nI (R)) dX1_outcomeAfter_9 (cIn_o hl) (cSh_o hl) (by decide) rfl ?_
    refine g_icmp_lt 15 dX1_outcomeAfter_10 (by decide) (fun h10 => ?_) (fun h10 => ?_)
    · skip
      rw [nI_ltI (by omega) (by omega)] at h10
      refine g_aload_n dX1_outcomeAfter_15 rfl ?_
      refine g_getr (T := TX1) (N := 10) (Cn := RX1) (ref := "CommitCouncil$Leader") 7 dX1_outcomeAfter_16 (cIn_l hl) (cSh_l hl) rfl (fun w h => List.mem_cons_of_mem _ (hU1 w h)) (by decide) (List.mem_cons_of_mem _ uw_1_91) (Or.inl rfl) rfl ?_
      refine g_iload_n dX1_outcomeAfter_19 rfl ?_
      refine g_ialdN (n := R) (j := m) dX1_outcomeAfter_20 (cIn_o hl) (cSh_o hl) (by omega) (by omega) ?_
      refine gEx.top (v := .inl (nI (s.1 13 l (m)))) (congrArg Sum.inl ((hc.2.2.2.2.2 l hl).2.2.2.2.2.2.2.2.1 (m) (by omega))) ?_
      refine g_if_ne 40 dX1_outcomeAfter_21 (by decide) (fun h21 => ?_) (fun h21 => ?_)
      · skip
        rw [nI_z (by omega)] at h21
        refine g_aload_n dX1_outcomeAfter_40 rfl ?_
        refine g_getr (T := TX1) (N := 10) (Cn := RX1) (ref := "CommitCouncil$Leader") 7 dX1_outcomeAfter_41 (cIn_l hl) (cSh_l hl) rfl (fun w h => List.mem_cons_of_mem _ (hU1 w h)) (by decide) (List.mem_cons_of_mem _ uw_1_91) (Or.inl rfl) rfl ?_
        refine g_iload_n dX1_outcomeAfter_44 rfl ?_
        refine g_ialdN (n := R) (j := m) dX1_outcomeAfter_45 (cIn_o hl) (cSh_o hl) (by omega) (by omega) ?_
        refine gEx.top (v := .inl (nI (s.1 13 l (m)))) (congrArg Sum.inl ((hc.2.2.2.2.2 l hl).2.2.2.2.2.2.2.2.1 (m) (by omega))) ?_
        exact g_iret dX1_outcomeAfter_46 rfl (⟨by rw [pOut_old (by first | exact Or.inl (by omega) | exact Or.inr h37)], rfl⟩)
      · skip
        rw [nI_z (by omega)] at h21
        refine g_iload_n dX1_outcomeAfter_24 rfl ?_
        refine g_callNi (pB (4 * b + w)) (host := RX6) (n9 := 1) [.inl (nI (4 * b + w))] [] (c_ballotOf (by omega)) dX1_outcomeAfter_25 (gU_N uw_2_151) rfl (by decide +kernel) (List.mem_cons_of_mem _ uw_1_1) (List.mem_cons_of_mem _ uw_2_150) (by decide +kernel) rfl ⟨by decide, by decide⟩ rfl (Nat.le_of_ble_eq_true rfl) (fun σ1 hp1 => ?_)
        subst hp1
        refine gEx.top (v := .inl (nI (b))) (congrArg Sum.inl (pB_v (by omega) (by omega))) ?_
        refine g_aload_n dX1_outcomeAfter_28 rfl ?_
        refine g_iload_n dX1_outcomeAfter_29 rfl ?_
        refine g_iload_n dX1_outcomeAfter_30 rfl ?_
        refine g_callVi (nI (s.1 14 l (m * 5 + a))) (n9 := 2) [.inl (nI (m)), .inl (nI (a))] [.inl (nI (b))] (c_sight ⟨hR1, hR6, hA35⟩ hc hb hl hm ha) dX1_outcomeAfter_31 (gU_V uw_2_152 uw_2_153 uw_2_154 uw_1_5 uw_2_155) rfl (by decide +kernel) rfl ⟨by decide, by decide⟩ (cIn_l hl) (cSh_l hl) rfl rfl (Nat.le_of_ble_eq_true rfl) (fun σ1 hp1 => ?_)
        subst hp1
        refine g_callNi (pB (s.1 14 l (m * 5 + a))) (host := RX6) (n9 := 1) [.inl (nI (s.1 14 l (m * 5 + a)))] [.inl (nI (b))] (c_ballotOf (hb14 _)) dX1_outcomeAfter_34 (gU_N uw_2_151) rfl (by decide +kernel) (List.mem_cons_of_mem _ uw_1_1) (List.mem_cons_of_mem _ uw_2_150) (by decide +kernel) rfl ⟨by decide, by decide⟩ rfl (Nat.le_of_ble_eq_true rfl) (fun σ1 hp1 => ?_)
        subst hp1
        refine g_icmp_gt 47 dX1_outcomeAfter_37 (by decide) (fun h37 => ?_) (fun h37 => ?_)
        · skip
          rw [pB_lt (hb14 _) (by omega)] at h37
          refine g_iconst (nI (1)) dX1_outcomeAfter_47 (by decide) ?_
          refine g_istore dX1_outcomeAfter_48 (by decide) ?_
          refine g_iconst (nI (0)) dX1_outcomeAfter_50 (by decide) ?_
          refine g_istore dX1_outcomeAfter_51 (by decide) ?_
          exact c_outc_l ⟨hR1, hR6, hA35⟩ hc hb hl hm ha hbb hw (by omega) h37 (A + 1) 0 (by omega) (by omega)
        · skip
          rw [pB_lt (hb14 _) (by omega)] at h37
          refine g_aload_n dX1_outcomeAfter_40 rfl ?_
          refine g_getr (T := TX1) (N := 10) (Cn := RX1) (ref := "CommitCouncil$Leader") 7 dX1_outcomeAfter_41 (cIn_l hl) (cSh_l hl) rfl (fun w h => List.mem_cons_of_mem _ (hU1 w h)) (by decide) (List.mem_cons_of_mem _ uw_1_91) (Or.inl rfl) rfl ?_
          refine g_iload_n dX1_outcomeAfter_44 rfl ?_
          refine g_ialdN (n := R) (j := m) dX1_outcomeAfter_45 (cIn_o hl) (cSh_o hl) (by omega) (by omega) ?_
          refine gEx.top (v := .inl (nI (s.1 13 l (m)))) (congrArg Sum.inl ((hc.2.2.2.2.2 l hl).2.2.2.2.2.2.2.2.1 (m) (by omega))) ?_
          exact g_iret dX1_outcomeAfter_46 rfl (⟨by rw [pOut_old (by first | exact Or.inl (by omega) | exact Or.inr h37)], rfl⟩)
    · skip
      rw [nI_ltI (by omega) (by omega)] at h10
      exfalso; omega
