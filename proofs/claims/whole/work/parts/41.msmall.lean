/-- what the reference's own calls leave as it was -/
def mE (σ τ : gSt) : Prop := τ 2 = σ 2 ∧ τ 0 0 = σ 0 0
theorem mE_rf {σ : gSt} : mE σ σ := ⟨rfl, rfl⟩
theorem mE_tr {σ τ υ : gSt} (h : mE σ τ) (h2 : mE τ υ) : mE σ υ := ⟨h2.1.trans h.1, h2.2.trans h.2⟩

set_option maxRecDepth 100000 in
/-- thrown -/
theorem m_thrown {σ : gSt} : gEM mG mX7_thrown 0 [.inr (0)] σ (gR (σ 0 0) (fun τ => τ = σ)) := by
  refine gEM_of (by decide +kernel) rfl (Nat.le_of_ble_eq_true rfl) ?_
  refine g_aload_n dX7_thrown_0 rfl ?_
  refine g_get (T := TX7) (N := 26) (Cn := RX7) (ref := "CommitCouncilModel") 0 dX7_thrown_1 (mIn (by decide)) rfl rfl (fun w h => List.mem_cons_of_mem _ (hU7 w h)) (by decide) (List.mem_cons_of_mem _ uw_3_123) (Or.inl rfl) rfl ?_
  exact g_iret dX7_thrown_4 rfl (⟨rfl, rfl⟩)

set_option maxRecDepth 100000 in
/-- lacks: it has it -/
theorem m_lacks1 {σ : gSt} : gEM mG mX7_lacks 0 [.inr (0), .inl (nI (1))] σ (gR 0 (fun τ => τ = gup σ 0 0 (nI 0))) := by
  refine gEM_of (by decide +kernel) rfl (Nat.le_of_ble_eq_true rfl) ?_
  refine g_aload_n dX7_lacks_0 rfl ?_
  refine g_iload_n dX7_lacks_1 rfl ?_
  refine g_if_eq 9 dX7_lacks_2 (by decide) (fun h2 => ?_) (fun h2 => ?_)
  · skip
    rw [nI_z (by omega)] at h2
    exfalso; omega
  · skip
    rw [nI_z (by omega)] at h2
    refine g_iconst (nI (0)) dX7_lacks_5 (by decide) ?_
    refine g_goto 10 dX7_lacks_6 (by decide) ?_
    refine g_put (T := TX7) (N := 26) (Cn := RX7) (ref := "CommitCouncilModel") (ty0 := tyX7) 0 dX7_lacks_10 (mIn (by decide)) rfl rfl (fun w h => List.mem_cons_of_mem _ (hU7 w h)) tyX7_ok nmX7 (by decide) (List.mem_cons_of_mem _ uw_3_123) (Or.inl rfl) rfl rfl rfl rfl ?_
    refine g_iload_n dX7_lacks_13 rfl ?_
    refine g_if_ne 21 dX7_lacks_14 (by decide) (fun h14 => ?_) (fun h14 => ?_)
    · skip
      rw [nI_z (by omega)] at h14
      refine g_iconst (nI (0)) dX7_lacks_21 (by decide) ?_
      exact g_zret dX7_lacks_22 rfl (rfl) (⟨rfl, rfl⟩)
    · skip
      rw [nI_z (by omega)] at h14
      exfalso; omega

set_option maxRecDepth 100000 in
/-- lacks: it lacks it -/
theorem m_lacks0 {σ : gSt} : gEM mG mX7_lacks 0 [.inr (0), .inl (nI (0))] σ (gR 1 (fun τ => τ = gup σ 0 0 (nI 1))) := by
  refine gEM_of (by decide +kernel) rfl (Nat.le_of_ble_eq_true rfl) ?_
  refine g_aload_n dX7_lacks_0 rfl ?_
  refine g_iload_n dX7_lacks_1 rfl ?_
  refine g_if_eq 9 dX7_lacks_2 (by decide) (fun h2 => ?_) (fun h2 => ?_)
  · skip
    rw [nI_z (by omega)] at h2
    refine g_iconst (nI (1)) dX7_lacks_9 (by decide) ?_
    refine g_put (T := TX7) (N := 26) (Cn := RX7) (ref := "CommitCouncilModel") (ty0 := tyX7) 0 dX7_lacks_10 (mIn (by decide)) rfl rfl (fun w h => List.mem_cons_of_mem _ (hU7 w h)) tyX7_ok nmX7 (by decide) (List.mem_cons_of_mem _ uw_3_123) (Or.inl rfl) rfl rfl rfl rfl ?_
    refine g_iload_n dX7_lacks_13 rfl ?_
    refine g_if_ne 21 dX7_lacks_14 (by decide) (fun h14 => ?_) (fun h14 => ?_)
    · skip
      rw [nI_z (by omega)] at h14
      exfalso; omega
    · skip
      rw [nI_z (by omega)] at h14
      refine g_iconst (nI (1)) dX7_lacks_17 (by decide) ?_
      refine g_goto 22 dX7_lacks_18 (by decide) ?_
      exact g_zret dX7_lacks_22 rfl (rfl) (⟨rfl, rfl⟩)
  · skip
    rw [nI_z (by omega)] at h2
    exfalso; omega

set_option maxRecDepth 100000 in
/-- m_isM -/
theorem m_isMT {σ : gSt} {i R : Nat} (hf : σ 0 1 = nI R) (hi : i < R) (hn : R < 2 ^ 31) : gEM mG mX7_isManager 0 [.inr (0), .inl (nI (i))] σ (gR 1 (fun τ => τ = σ)) := by
  refine gEM_of (by decide +kernel) rfl (Nat.le_of_ble_eq_true rfl) ?_
  refine g_iload_n dX7_isManager_0 rfl ?_
  refine g_if_lt 16 dX7_isManager_1 (by decide) (fun h1 => ?_) (fun h1 => ?_)
  · skip
    rw [nI_n (by omega)] at h1
    exact h1.elim
  · skip
    rw [nI_n (by omega)] at h1
    refine g_iload_n dX7_isManager_4 rfl ?_
    refine g_aload_n dX7_isManager_5 rfl ?_
    refine g_get (T := TX7) (N := 26) (Cn := RX7) (ref := "CommitCouncilModel") 1 dX7_isManager_6 (mIn (by decide)) rfl rfl (fun w h => List.mem_cons_of_mem _ (hU7 w h)) (by decide) (List.mem_cons_of_mem _ uw_3_124) (Or.inl rfl) rfl ?_
    refine gEx.top (v := .inl (nI (R))) (congrArg Sum.inl (hf)) ?_
    refine g_icmp_ge 16 dX7_isManager_9 (by decide) (fun h9 => ?_) (fun h9 => ?_)
    · skip
      rw [nI_leI (by omega) (by omega)] at h9
      exfalso; omega
    · skip
      rw [nI_leI (by omega) (by omega)] at h9
      refine g_iconst (nI (1)) dX7_isManager_12 (by decide) ?_
      refine g_goto 17 dX7_isManager_13 (by decide) ?_
      exact g_zret dX7_isManager_17 rfl (rfl) (⟨rfl, rfl⟩)

set_option maxRecDepth 100000 in
/-- m_isM -/
theorem m_isMF {σ : gSt} {y : Int32} {R : Nat} (hf : σ 0 1 = nI R) (hy : y < 0 ∨ nI R ≤ y) : gEM mG mX7_isManager 0 [.inr (0), .inl (y)] σ (gR 0 (fun τ => τ = σ)) := by
  refine gEM_of (by decide +kernel) rfl (Nat.le_of_ble_eq_true rfl) ?_
  refine g_iload_n dX7_isManager_0 rfl ?_
  refine g_if_lt 16 dX7_isManager_1 (by decide) (fun h1 => ?_) (fun h1 => ?_)
  · skip
    refine g_iconst (nI (0)) dX7_isManager_16 (by decide) ?_
    exact g_zret dX7_isManager_17 rfl (rfl) (⟨rfl, rfl⟩)
  · skip
    refine g_iload_n dX7_isManager_4 rfl ?_
    refine g_aload_n dX7_isManager_5 rfl ?_
    refine g_get (T := TX7) (N := 26) (Cn := RX7) (ref := "CommitCouncilModel") 1 dX7_isManager_6 (mIn (by decide)) rfl rfl (fun w h => List.mem_cons_of_mem _ (hU7 w h)) (by decide) (List.mem_cons_of_mem _ uw_3_124) (Or.inl rfl) rfl ?_
    refine gEx.top (v := .inl (nI (R))) (congrArg Sum.inl (hf)) ?_
    refine g_icmp_ge 16 dX7_isManager_9 (by decide) (fun h9 => ?_) (fun h9 => ?_)
    · skip
      skip
      refine g_iconst (nI (0)) dX7_isManager_16 (by decide) ?_
      exact g_zret dX7_isManager_17 rfl (rfl) (⟨rfl, rfl⟩)
    · skip
      skip
      rcases hy with q | q
      · exact absurd q h1
      · exact absurd q h9

set_option maxRecDepth 100000 in
/-- m_isA -/
theorem m_isAT {σ : gSt} {i A : Nat} (hf : σ 0 2 = nI A) (hi : i < A) (hn : A < 2 ^ 31) : gEM mG mX7_isAcceptor 0 [.inr (0), .inl (nI (i))] σ (gR 1 (fun τ => τ = σ)) := by
  refine gEM_of (by decide +kernel) rfl (Nat.le_of_ble_eq_true rfl) ?_
  refine g_iload_n dX7_isAcceptor_0 rfl ?_
  refine g_if_lt 16 dX7_isAcceptor_1 (by decide) (fun h1 => ?_) (fun h1 => ?_)
  · skip
    rw [nI_n (by omega)] at h1
    exact h1.elim
  · skip
    rw [nI_n (by omega)] at h1
    refine g_iload_n dX7_isAcceptor_4 rfl ?_
    refine g_aload_n dX7_isAcceptor_5 rfl ?_
    refine g_get (T := TX7) (N := 26) (Cn := RX7) (ref := "CommitCouncilModel") 2 dX7_isAcceptor_6 (mIn (by decide)) rfl rfl (fun w h => List.mem_cons_of_mem _ (hU7 w h)) (by decide) (List.mem_cons_of_mem _ uw_3_125) (Or.inl rfl) rfl ?_
    refine gEx.top (v := .inl (nI (A))) (congrArg Sum.inl (hf)) ?_
    refine g_icmp_ge 16 dX7_isAcceptor_9 (by decide) (fun h9 => ?_) (fun h9 => ?_)
    · skip
      rw [nI_leI (by omega) (by omega)] at h9
      exfalso; omega
    · skip
      rw [nI_leI (by omega) (by omega)] at h9
      refine g_iconst (nI (1)) dX7_isAcceptor_12 (by decide) ?_
      refine g_goto 17 dX7_isAcceptor_13 (by decide) ?_
      exact g_zret dX7_isAcceptor_17 rfl (rfl) (⟨rfl, rfl⟩)

set_option maxRecDepth 100000 in
/-- m_isA -/
theorem m_isAF {σ : gSt} {y : Int32} {A : Nat} (hf : σ 0 2 = nI A) (hy : y < 0 ∨ nI A ≤ y) : gEM mG mX7_isAcceptor 0 [.inr (0), .inl (y)] σ (gR 0 (fun τ => τ = σ)) := by
  refine gEM_of (by decide +kernel) rfl (Nat.le_of_ble_eq_true rfl) ?_
  refine g_iload_n dX7_isAcceptor_0 rfl ?_
  refine g_if_lt 16 dX7_isAcceptor_1 (by decide) (fun h1 => ?_) (fun h1 => ?_)
  · skip
    refine g_iconst (nI (0)) dX7_isAcceptor_16 (by decide) ?_
    exact g_zret dX7_isAcceptor_17 rfl (rfl) (⟨rfl, rfl⟩)
  · skip
    refine g_iload_n dX7_isAcceptor_4 rfl ?_
    refine g_aload_n dX7_isAcceptor_5 rfl ?_
    refine g_get (T := TX7) (N := 26) (Cn := RX7) (ref := "CommitCouncilModel") 2 dX7_isAcceptor_6 (mIn (by decide)) rfl rfl (fun w h => List.mem_cons_of_mem _ (hU7 w h)) (by decide) (List.mem_cons_of_mem _ uw_3_125) (Or.inl rfl) rfl ?_
    refine gEx.top (v := .inl (nI (A))) (congrArg Sum.inl (hf)) ?_
    refine g_icmp_ge 16 dX7_isAcceptor_9 (by decide) (fun h9 => ?_) (fun h9 => ?_)
    · skip
      skip
      refine g_iconst (nI (0)) dX7_isAcceptor_16 (by decide) ?_
      exact g_zret dX7_isAcceptor_17 rfl (rfl) (⟨rfl, rfl⟩)
    · skip
      skip
      rcases hy with q | q
      · exact absurd q h1
      · exact absurd q h9

set_option maxRecDepth 100000 in
/-- m_isG -/
theorem m_isGT {σ : gSt} {i n : Nat} (hf : σ 0 5 = nI n) (hi : i < n) (hn : n < 2 ^ 31) : gEM mG mX7_isMessage 0 [.inr (0), .inl (nI (i))] σ (gR 1 (fun τ => τ = σ)) := by
  refine gEM_of (by decide +kernel) rfl (Nat.le_of_ble_eq_true rfl) ?_
  refine g_iload_n dX7_isMessage_0 rfl ?_
  refine g_if_lt 16 dX7_isMessage_1 (by decide) (fun h1 => ?_) (fun h1 => ?_)
  · skip
    rw [nI_n (by omega)] at h1
    exact h1.elim
  · skip
    rw [nI_n (by omega)] at h1
    refine g_iload_n dX7_isMessage_4 rfl ?_
    refine g_aload_n dX7_isMessage_5 rfl ?_
    refine g_get (T := TX7) (N := 26) (Cn := RX7) (ref := "CommitCouncilModel") 5 dX7_isMessage_6 (mIn (by decide)) rfl rfl (fun w h => List.mem_cons_of_mem _ (hU7 w h)) (by decide) (List.mem_cons_of_mem _ uw_3_128) (Or.inl rfl) rfl ?_
    refine gEx.top (v := .inl (nI (n))) (congrArg Sum.inl (hf)) ?_
    refine g_icmp_ge 16 dX7_isMessage_9 (by decide) (fun h9 => ?_) (fun h9 => ?_)
    · skip
      rw [nI_leI (by omega) (by omega)] at h9
      exfalso; omega
    · skip
      rw [nI_leI (by omega) (by omega)] at h9
      refine g_iconst (nI (1)) dX7_isMessage_12 (by decide) ?_
      refine g_goto 17 dX7_isMessage_13 (by decide) ?_
      exact g_zret dX7_isMessage_17 rfl (rfl) (⟨rfl, rfl⟩)

set_option maxRecDepth 100000 in
/-- m_isG -/
theorem m_isGF {σ : gSt} {y : Int32} {n : Nat} (hf : σ 0 5 = nI n) (hy : y < 0 ∨ nI n ≤ y) : gEM mG mX7_isMessage 0 [.inr (0), .inl (y)] σ (gR 0 (fun τ => τ = σ)) := by
  refine gEM_of (by decide +kernel) rfl (Nat.le_of_ble_eq_true rfl) ?_
  refine g_iload_n dX7_isMessage_0 rfl ?_
  refine g_if_lt 16 dX7_isMessage_1 (by decide) (fun h1 => ?_) (fun h1 => ?_)
  · skip
    refine g_iconst (nI (0)) dX7_isMessage_16 (by decide) ?_
    exact g_zret dX7_isMessage_17 rfl (rfl) (⟨rfl, rfl⟩)
  · skip
    refine g_iload_n dX7_isMessage_4 rfl ?_
    refine g_aload_n dX7_isMessage_5 rfl ?_
    refine g_get (T := TX7) (N := 26) (Cn := RX7) (ref := "CommitCouncilModel") 5 dX7_isMessage_6 (mIn (by decide)) rfl rfl (fun w h => List.mem_cons_of_mem _ (hU7 w h)) (by decide) (List.mem_cons_of_mem _ uw_3_128) (Or.inl rfl) rfl ?_
    refine gEx.top (v := .inl (nI (n))) (congrArg Sum.inl (hf)) ?_
    refine g_icmp_ge 16 dX7_isMessage_9 (by decide) (fun h9 => ?_) (fun h9 => ?_)
    · skip
      skip
      refine g_iconst (nI (0)) dX7_isMessage_16 (by decide) ?_
      exact g_zret dX7_isMessage_17 rfl (rfl) (⟨rfl, rfl⟩)
    · skip
      skip
      rcases hy with q | q
      · exact absurd q h1
      · exact absurd q h9

set_option maxRecDepth 100000 in
/-- m_isL -/
theorem m_isLT {σ : gSt} {i  : Nat} (hi : i < 3) : gEM mG mX7_isLeader 0 [.inl (nI (i))] σ (gR 1 (fun τ => τ = σ)) := by
  refine gEM_of (by decide +kernel) rfl (Nat.le_of_ble_eq_true rfl) ?_
  refine g_iload_n dX7_isLeader_0 rfl ?_
  refine g_if_lt 13 dX7_isLeader_1 (by decide) (fun h1 => ?_) (fun h1 => ?_)
  · skip
    rw [nI_n (by omega)] at h1
    exact h1.elim
  · skip
    rw [nI_n (by omega)] at h1
    refine g_iload_n dX7_isLeader_4 rfl ?_
    refine g_iconst (nI (3)) dX7_isLeader_5 (by decide) ?_
    refine g_icmp_ge 13 dX7_isLeader_6 (by decide) (fun h6 => ?_) (fun h6 => ?_)
    · skip
      rw [nI_leI (by omega) (by omega)] at h6
      exfalso; omega
    · skip
      rw [nI_leI (by omega) (by omega)] at h6
      refine g_iconst (nI (1)) dX7_isLeader_9 (by decide) ?_
      refine g_goto 14 dX7_isLeader_10 (by decide) ?_
      exact g_zret dX7_isLeader_14 rfl (rfl) (⟨rfl, rfl⟩)

set_option maxRecDepth 100000 in
/-- m_isL -/
theorem m_isLF {σ : gSt} {y : Int32} (hy : y < 0 ∨ nI 3 ≤ y) : gEM mG mX7_isLeader 0 [.inl (y)] σ (gR 0 (fun τ => τ = σ)) := by
  refine gEM_of (by decide +kernel) rfl (Nat.le_of_ble_eq_true rfl) ?_
  refine g_iload_n dX7_isLeader_0 rfl ?_
  refine g_if_lt 13 dX7_isLeader_1 (by decide) (fun h1 => ?_) (fun h1 => ?_)
  · skip
    refine g_iconst (nI (0)) dX7_isLeader_13 (by decide) ?_
    exact g_zret dX7_isLeader_14 rfl (rfl) (⟨rfl, rfl⟩)
  · skip
    refine g_iload_n dX7_isLeader_4 rfl ?_
    refine g_iconst (nI (3)) dX7_isLeader_5 (by decide) ?_
    refine g_icmp_ge 13 dX7_isLeader_6 (by decide) (fun h6 => ?_) (fun h6 => ?_)
    · skip
      skip
      refine g_iconst (nI (0)) dX7_isLeader_13 (by decide) ?_
      exact g_zret dX7_isLeader_14 rfl (rfl) (⟨rfl, rfl⟩)
    · skip
      skip
      rcases hy with q | q
      · exact absurd q h1
      · exact absurd q h6

set_option maxRecDepth 100000 in
/-- of -/
theorem m_of {σ : gSt} {i j : Nat} (hj : 18 * i + j < 7200) : gEM mG mX7_of 0 [.inr (0), .inl (nI (i)), .inl (nI (j))] σ (gR (σ 1 (18 * i + j)) (fun τ => τ = σ)) := by
  refine gEM_of (by decide +kernel) rfl (Nat.le_of_ble_eq_true rfl) ?_
  refine g_aload_n dX7_of_0 rfl ?_
  refine g_getr (T := TX7) (N := 26) (Cn := RX7) (ref := "CommitCouncilModel") 3 dX7_of_1 (mIn (by decide)) rfl rfl (fun w h => List.mem_cons_of_mem _ (hU7 w h)) (by decide) (List.mem_cons_of_mem _ uw_3_126) (Or.inl rfl) rfl ?_
  refine g_bipush (nI (18)) dX7_of_4 (by decide) ?_
  refine g_iload_n dX7_of_6 rfl ?_
  refine g_imul dX7_of_7 ?_
  refine gEx.top (v := .inl (nI ((18) * (i)))) (congrArg Sum.inl (pk_mul _ _)) ?_
  refine g_iload_n dX7_of_8 rfl ?_
  refine g_iadd dX7_of_9 ?_
  refine gEx.top (v := .inl (nI ((18) * (i) + j))) (congrArg Sum.inl (nI_add _ _)) ?_
  refine g_ialdN (n := 7200) (j := (18) * (i) + j) dX7_of_10 (mIn (by decide)) rfl (hj) (by omega) ?_
  exact g_iret dX7_of_11 rfl (⟨rfl, rfl⟩)

set_option maxRecDepth 100000 in
/-- hasRoom -/
theorem m_room {σ : gSt} {n k : Nat} (hn : σ 0 5 = nI n) (hn4 : n ≤ 400) (hk : k ≤ 1000) : gEM mG mX7_hasRoom 0 [.inr (0), .inl (nI (k))] σ (gR (bI (n + k ≤ 400)) (fun τ => τ = σ)) := by
  refine gEM_of (by decide +kernel) rfl (Nat.le_of_ble_eq_true rfl) ?_
  refine g_aload_n dX7_hasRoom_0 rfl ?_
  refine g_get (T := TX7) (N := 26) (Cn := RX7) (ref := "CommitCouncilModel") 5 dX7_hasRoom_1 (mIn (by decide)) rfl rfl (fun w h => List.mem_cons_of_mem _ (hU7 w h)) (by decide) (List.mem_cons_of_mem _ uw_3_128) (Or.inl rfl) rfl ?_
  refine gEx.top (v := .inl (nI (n))) (congrArg Sum.inl (hn)) ?_
  refine g_iload_n dX7_hasRoom_4 rfl ?_
  refine g_iadd dX7_hasRoom_5 ?_
  refine gEx.top (v := .inl (nI (n + k))) (congrArg Sum.inl (nI_add _ _)) ?_
  refine g_sipush (nI (400)) dX7_hasRoom_6 (by decide) ?_
  refine g_icmp_gt 16 dX7_hasRoom_9 (by decide) (fun h9 => ?_) (fun h9 => ?_)
  · skip
    rw [nI_ltI (by omega) (by omega)] at h9
    refine g_iconst (nI (0)) dX7_hasRoom_16 (by decide) ?_
    exact g_zret dX7_hasRoom_17 rfl (rfl) (⟨by unfold bI; rw [if_neg (by omega)]; rfl, rfl⟩)
  · skip
    rw [nI_ltI (by omega) (by omega)] at h9
    refine g_iconst (nI (1)) dX7_hasRoom_12 (by decide) ?_
    refine g_goto 17 dX7_hasRoom_13 (by decide) ?_
    exact g_zret dX7_hasRoom_17 rfl (rfl) (⟨by unfold bI; rw [if_pos (by omega)]; rfl, rfl⟩)

theorem bit_at {v k : Nat} (hv : v < 2 ^ 31) (hk : k < 32) : (nI v >>> (nI k &&& 31)) &&& nI 1 = nI (v / 2 ^ k % 2) := by
  rw [pk_shrN hv _ k (sh31 k hk), pk_andN (n := v / 2 ^ k) (Nat.lt_of_le_of_lt (Nat.div_le_self _ _) (by omega)) 1 (by decide)]
theorem bits_le (v n : Nat) : psum (fun a => v / 2 ^ a % 2) n ≤ n := psum_le (fun i => by show _ % 2 ≤ 1; omega) n
theorem bits_msk {f : Nat → Nat} (h : ∀ a, f a ≤ 1) : psum (fun a => msk f / 2 ^ a % 2) 5 = psum f 5 := psum_congr 5 (fun i hi => msk_div h hi)

set_option maxRecDepth 100000 in
theorem m_bits_l {σ : gSt} {v : Nat} (hv : v < 2 ^ 31) : ∀ (k i : Nat), i ≤ 5 → 5 - i < k → gEx mG mX7_bits 0 4 [some (.inl (nI v)), some (.inl (nI (psum (fun a => v / 2 ^ a % 2) i))), some (.inl (nI i))] [] σ (gR (nI (psum (fun a => v / 2 ^ a % 2) 5)) (fun τ => τ = σ)) := by
  intro k
  induction k with
  | zero => intro i hi1 hi2; exact absurd hi2 (by omega)
  | succ k ih =>
    intro i hi1 hi2 
    have hps := bits_le v i
    refine g_iload_n dX7_bits_4 rfl ?_
    refine g_iconst (nI (5)) dX7_bits_5 (by decide) ?_
    refine g_icmp_ge 23 dX7_bits_6 (by decide) (fun h6 => ?_) (fun h6 => ?_)
    · skip
      rw [nI_leI (by omega) (by omega)] at h6
      refine g_iload_n dX7_bits_23 rfl ?_
      exact g_iret dX7_bits_24 rfl (⟨by rw [show i = 5 by omega], rfl⟩)
    · skip
      rw [nI_leI (by omega) (by omega)] at h6
      refine g_iload_n dX7_bits_9 rfl ?_
      refine g_iload_n dX7_bits_10 rfl ?_
      refine g_iload_n dX7_bits_11 rfl ?_
      refine g_ishr dX7_bits_12 ?_
      refine g_iconst (nI (1)) dX7_bits_13 (by decide) ?_
      refine g_iand dX7_bits_14 ?_
      refine gEx.top (v := .inl (nI (v / 2 ^ i % 2))) (congrArg Sum.inl (bit_at hv (by omega))) ?_
      refine g_iadd dX7_bits_15 ?_
      refine gEx.top (v := .inl (nI (psum (fun a => v / 2 ^ a % 2) i + v / 2 ^ i % 2))) (congrArg Sum.inl (nI_add _ _)) ?_
      refine g_istore_n dX7_bits_16 (by decide) ?_
      refine g_iinc (nI (i + 1)) dX7_bits_17 rfl (show nI (i) + nI 1 = _ from nI_add _ _) (by decide) ?_
      refine g_goto 4 dX7_bits_20 (by decide) ?_
      exact ih (i + 1) (by omega) (by omega)

set_option maxRecDepth 100000 in
/-- bits -/
theorem m_bits {σ : gSt} {v : Nat} (hv : v < 2 ^ 31) : gEM mG mX7_bits 0 [.inl (nI (v))] σ (gR (nI (psum (fun a => v / 2 ^ a % 2) 5)) (fun τ => τ = σ)) := by
  refine gEM_of (by decide +kernel) rfl (Nat.le_of_ble_eq_true rfl) ?_
  refine g_iconst (nI (0)) dX7_bits_0 (by decide) ?_
  refine g_istore_n dX7_bits_1 (by decide) ?_
  refine g_iconst (nI (0)) dX7_bits_2 (by decide) ?_
  refine g_istore_n dX7_bits_3 (by decide) ?_
  exact m_bits_l hv 6 0 (by decide) (by decide)

set_option maxRecDepth 100000 in
/-- isMost -/
theorem m_most {σ : gSt} {A n : Nat} (hA : σ 0 2 = nI A) (hA5 : A ≤ 5) (hn : n ≤ 1000) : gEM mG mX7_isMost 0 [.inr (0), .inl (nI (n))] σ (gR (bI (A < 2 * n)) (fun τ => τ = σ)) := by
  refine gEM_of (by decide +kernel) rfl (Nat.le_of_ble_eq_true rfl) ?_
  refine g_iconst (nI (2)) dX7_isMost_0 (by decide) ?_
  refine g_iload_n dX7_isMost_1 rfl ?_
  refine g_imul dX7_isMost_2 ?_
  refine gEx.top (v := .inl (nI ((2) * (n)))) (congrArg Sum.inl (pk_mul _ _)) ?_
  refine g_aload_n dX7_isMost_3 rfl ?_
  refine g_get (T := TX7) (N := 26) (Cn := RX7) (ref := "CommitCouncilModel") 2 dX7_isMost_4 (mIn (by decide)) rfl rfl (fun w h => List.mem_cons_of_mem _ (hU7 w h)) (by decide) (List.mem_cons_of_mem _ uw_3_125) (Or.inl rfl) rfl ?_
  refine gEx.top (v := .inl (nI (A))) (congrArg Sum.inl (hA)) ?_
  refine g_icmp_le 14 dX7_isMost_7 (by decide) (fun h7 => ?_) (fun h7 => ?_)
  · skip
    rw [nI_leI (by omega) (by omega)] at h7
    refine g_iconst (nI (0)) dX7_isMost_14 (by decide) ?_
    exact g_zret dX7_isMost_15 rfl (rfl) (⟨by unfold bI; rw [if_neg (by omega)]; rfl, rfl⟩)
  · skip
    rw [nI_leI (by omega) (by omega)] at h7
    refine g_iconst (nI (1)) dX7_isMost_10 (by decide) ?_
    refine g_goto 15 dX7_isMost_11 (by decide) ?_
    exact g_zret dX7_isMost_15 rfl (rfl) (⟨by unfold bI; rw [if_pos (by omega)]; rfl, rfl⟩)

set_option maxRecDepth 100000 in
/-- seenAt -/
theorem m_seenAt {σ : gSt} {l m a : Nat} : gEM mG mX7_seenAt 0 [.inr (0), .inl (nI (l)), .inl (nI (m)), .inl (nI (a))] σ (gR (nI ((l * 6 + m) * 5 + a)) (fun τ => τ = σ)) := by
  refine gEM_of (by decide +kernel) rfl (Nat.le_of_ble_eq_true rfl) ?_
  refine g_iload_n dX7_seenAt_0 rfl ?_
  refine g_bipush (nI (6)) dX7_seenAt_1 (by decide) ?_
  refine g_imul dX7_seenAt_3 ?_
  refine gEx.top (v := .inl (nI ((l) * (6)))) (congrArg Sum.inl (pk_mul _ _)) ?_
  refine g_iload_n dX7_seenAt_4 rfl ?_
  refine g_iadd dX7_seenAt_5 ?_
  refine gEx.top (v := .inl (nI ((l) * (6) + m))) (congrArg Sum.inl (nI_add _ _)) ?_
  refine g_iconst (nI (5)) dX7_seenAt_6 (by decide) ?_
  refine g_imul dX7_seenAt_7 ?_
  refine gEx.top (v := .inl (nI (((l) * (6) + m) * (5)))) (congrArg Sum.inl (pk_mul _ _)) ?_
  refine g_iload_n dX7_seenAt_8 rfl ?_
  refine g_iadd dX7_seenAt_9 ?_
  refine gEx.top (v := .inl (nI (((l) * (6) + m) * (5) + a))) (congrArg Sum.inl (nI_add _ _)) ?_
  exact g_iret dX7_seenAt_10 rfl (⟨rfl, rfl⟩)

set_option maxRecDepth 100000 in
/-- manyOf -/
theorem m_many0 {R A : Nat} {σ : gSt} (hR : σ 0 1 = nI R) (hA : σ 0 2 = nI A) : gEM mG mX7_manyOf 0 [.inr (0), .inl (nI (0))] σ (gR (nI R) (fun τ => τ = σ)) := by
  refine gEM_of (by decide +kernel) rfl (Nat.le_of_ble_eq_true rfl) ?_
  refine g_iload_n dX7_manyOf_0 rfl ?_
  refine g_if_ne 11 dX7_manyOf_1 (by decide) (fun h1 => ?_) (fun h1 => ?_)
  · skip
    rw [nI_z (by omega)] at h1
    exfalso; omega
  · skip
    rw [nI_z (by omega)] at h1
    refine g_aload_n dX7_manyOf_4 rfl ?_
    refine g_get (T := TX7) (N := 26) (Cn := RX7) (ref := "CommitCouncilModel") 1 dX7_manyOf_5 (mIn (by decide)) rfl rfl (fun w h => List.mem_cons_of_mem _ (hU7 w h)) (by decide) (List.mem_cons_of_mem _ uw_3_124) (Or.inl rfl) rfl ?_
    refine gEx.top (v := .inl (nI (R))) (congrArg Sum.inl (hR)) ?_
    refine g_goto 24 dX7_manyOf_8 (by decide) ?_
    exact g_iret dX7_manyOf_24 rfl (⟨rfl, rfl⟩)

set_option maxRecDepth 100000 in
/-- manyOf -/
theorem m_many1 {R A : Nat} {σ : gSt} (hR : σ 0 1 = nI R) (hA : σ 0 2 = nI A) : gEM mG mX7_manyOf 0 [.inr (0), .inl (nI (1))] σ (gR (nI A) (fun τ => τ = σ)) := by
  refine gEM_of (by decide +kernel) rfl (Nat.le_of_ble_eq_true rfl) ?_
  refine g_iload_n dX7_manyOf_0 rfl ?_
  refine g_if_ne 11 dX7_manyOf_1 (by decide) (fun h1 => ?_) (fun h1 => ?_)
  · skip
    rw [nI_z (by omega)] at h1
    refine g_iload_n dX7_manyOf_11 rfl ?_
    refine g_iconst (nI (1)) dX7_manyOf_12 (by decide) ?_
    refine g_icmp_ne 23 dX7_manyOf_13 (by decide) (fun h13 => ?_) (fun h13 => ?_)
    · skip
      rw [nI_eq (by omega) (by omega)] at h13
      exfalso; omega
    · skip
      rw [nI_eq (by omega) (by omega)] at h13
      refine g_aload_n dX7_manyOf_16 rfl ?_
      refine g_get (T := TX7) (N := 26) (Cn := RX7) (ref := "CommitCouncilModel") 2 dX7_manyOf_17 (mIn (by decide)) rfl rfl (fun w h => List.mem_cons_of_mem _ (hU7 w h)) (by decide) (List.mem_cons_of_mem _ uw_3_125) (Or.inl rfl) rfl ?_
      refine gEx.top (v := .inl (nI (A))) (congrArg Sum.inl (hA)) ?_
      refine g_goto 24 dX7_manyOf_20 (by decide) ?_
      exact g_iret dX7_manyOf_24 rfl (⟨rfl, rfl⟩)
  · skip
    rw [nI_z (by omega)] at h1
    exfalso; omega

set_option maxRecDepth 100000 in
/-- manyOf -/
theorem m_many2 {R A : Nat} {σ : gSt} (hR : σ 0 1 = nI R) (hA : σ 0 2 = nI A) : gEM mG mX7_manyOf 0 [.inr (0), .inl (nI (2))] σ (gR (nI 3) (fun τ => τ = σ)) := by
  refine gEM_of (by decide +kernel) rfl (Nat.le_of_ble_eq_true rfl) ?_
  refine g_iload_n dX7_manyOf_0 rfl ?_
  refine g_if_ne 11 dX7_manyOf_1 (by decide) (fun h1 => ?_) (fun h1 => ?_)
  · skip
    rw [nI_z (by omega)] at h1
    refine g_iload_n dX7_manyOf_11 rfl ?_
    refine g_iconst (nI (1)) dX7_manyOf_12 (by decide) ?_
    refine g_icmp_ne 23 dX7_manyOf_13 (by decide) (fun h13 => ?_) (fun h13 => ?_)
    · skip
      rw [nI_eq (by omega) (by omega)] at h13
      refine g_iconst (nI (3)) dX7_manyOf_23 (by decide) ?_
      exact g_iret dX7_manyOf_24 rfl (⟨rfl, rfl⟩)
    · skip
      rw [nI_eq (by omega) (by omega)] at h13
      exfalso; omega
  · skip
    rw [nI_z (by omega)] at h1
    exfalso; omega

def clrM (σ : gSt) (n k : Nat) : gSt := gur σ 1 (fun p => if 18 * n ≤ p ∧ p < 18 * n + k then -1 else σ 1 p)
theorem clrM_0 (σ : gSt) (n : Nat) : clrM σ n 0 = σ := by
  funext a p
  unfold clrM gur
  by_cases h : a = 1
  · subst h
    rw [if_pos rfl, if_neg (by omega)]
  · rw [if_neg h]
theorem clrM_s (σ : gSt) (n k : Nat) : gup (clrM σ n k) 1 (18 * n + k) (-1) = clrM σ n (k + 1) := by
  funext a p
  unfold clrM gur gup
  by_cases h : a = 1
  · subst h
    by_cases h2 : p = 18 * n + k
    · rw [if_pos ⟨rfl, h2⟩, if_pos rfl, if_pos (by omega)]
    · rw [if_neg (fun q => h2 q.2), if_pos rfl]
      show (if 18 * n ≤ p ∧ p < 18 * n + k then -1 else σ 1 p) = _
      by_cases h3 : 18 * n ≤ p ∧ p < 18 * n + k
      · rw [if_pos h3, if_pos (by omega)]
      · rw [if_neg h3, if_neg (by omega)]
  · rw [if_neg (fun q => h q.1), if_neg h]
    exact congrFun (if_neg h) p
theorem clrM_ne (σ : gSt) {n k a : Nat} (h : a ≠ 1) : clrM σ n k a = σ a := gur_ne σ _ h
/-- the store behind a send -/
def sndM (σ : gSt) (n : Nat) (x0 x1 x2 x3 x4 x5 : Int32) : gSt := gup (gup (gup (gup (gup (gup (gup (gup (clrM σ n 18) 1 (18 * n) x0) 1 (18 * n + 1) x1) 1 (18 * n + 2) x2) 1 (18 * n + 3) x3) 1 (18 * n + 4) x4) 1 (18 * n + 5) x5) 0 5 (nI (n + 1))) 0 6 (σ 0 6 + nI 1)
theorem sndM_1 {σ : gSt} {n : Nat} {x0 x1 x2 x3 x4 x5 : Int32} (p : Nat) : sndM σ n x0 x1 x2 x3 x4 x5 1 p = if 18 * n ≤ p ∧ p < 18 * n + 18 then (if p < 18 * n + 6 then six x0 x1 x2 x3 x4 x5 (p - 18 * n) else -1) else σ 1 p := by
  unfold sndM
  rw [gup_ne _ _ (by decide), gup_ne _ _ (by decide)]
  by_cases h : 18 * n ≤ p ∧ p < 18 * n + 18
  · rw [if_pos h]
    obtain ⟨j, rfl⟩ : ∃ j, p = 18 * n + j := ⟨p - 18 * n, by omega⟩
    rw [Nat.add_sub_cancel_left]
    by_cases h6 : j < 6
    · rw [if_pos (by omega)]
      rcases (show j = 0 ∨ j = 1 ∨ j = 2 ∨ j = 3 ∨ j = 4 ∨ j = 5 by omega) with e | e | e | e | e | e <;> subst e <;> simp [gup, six]
    · rw [if_neg (by omega), gup_j _ _ (by omega), gup_j _ _ (by omega), gup_j _ _ (by omega), gup_j _ _ (by omega), gup_j _ _ (by omega), gup_j _ _ (by omega)]
      unfold clrM
      rw [gur_self, if_pos h]
  · rw [if_neg h, gup_j _ _ (by omega), gup_j _ _ (by omega), gup_j _ _ (by omega), gup_j _ _ (by omega), gup_j _ _ (by omega), gup_j _ _ (by omega)]
    unfold clrM
    rw [gur_self, if_neg h]
theorem sndM_o {σ : gSt} {n : Nat} {x0 x1 x2 x3 x4 x5 : Int32} {a : Nat} (h0 : a ≠ 0) (h1 : a ≠ 1) : sndM σ n x0 x1 x2 x3 x4 x5 a = σ a := by
  unfold sndM
  rw [gup_ne _ _ h0, gup_ne _ _ h0, gup_ne _ _ h1, gup_ne _ _ h1, gup_ne _ _ h1, gup_ne _ _ h1, gup_ne _ _ h1, gup_ne _ _ h1, clrM_ne _ h1]
theorem sndM_0 {σ : gSt} {n : Nat} {x0 x1 x2 x3 x4 x5 : Int32} (j : Nat) : sndM σ n x0 x1 x2 x3 x4 x5 0 j = if j = 6 then σ 0 6 + nI 1 else if j = 5 then nI (n + 1) else σ 0 j := by
  unfold sndM
  by_cases h6 : j = 6
  · subst h6; rfl
  · rw [gup_j _ _ h6, if_neg h6]
    by_cases h5 : j = 5
    · subst h5; rfl
    · rw [gup_j _ _ h5, if_neg h5, gup_ne _ _ (by decide), gup_ne _ _ (by decide), gup_ne _ _ (by decide), gup_ne _ _ (by decide), gup_ne _ _ (by decide), gup_ne _ _ (by decide), clrM_ne _ (by decide)]
theorem sndM_E {σ : gSt} {n : Nat} {x0 x1 x2 x3 x4 x5 : Int32} : mE σ (sndM σ n x0 x1 x2 x3 x4 x5) := ⟨sndM_o (by decide) (by decide), by rw [sndM_0]; rfl⟩
theorem mMs_snd {R : Nat} {ms : List pMsg} {σ : gSt} (h : mMs R ms σ) (hR : R ≤ 6) (x : pMsg) {τ : gSt} (hl : ∀ p, p < 18 * ms.length → τ 1 p = σ 1 p) (hx : mOne R (τ 1) (18 * ms.length) x) : mMs R (ms ++ [x]) τ := by
  intro i y hy
  by_cases hi : i < ms.length
  · rw [List.getElem?_append_left hi] at hy
    exact mOne_mv (h i y hy) hR (fun k hk => hl _ (by omega))
  · rw [List.getElem?_append_right (by omega)] at hy
    have h0 : i - ms.length < 1 := (List.getElem?_eq_some_iff.mp hy).1
    have hi0 : i = ms.length := by omega
    subst hi0
    rw [Nat.sub_self] at hy
    cases hy
    exact hx
theorem sndM_one {R : Nat} {σ : gSt} {n : Nat} (x : pMsg) (h3 : x 0 ≠ 3) {x0 x1 x2 x3 x4 x5 : Int32} (e0 : x0 = pt x 0) (e1 : x1 = pt x 1) (e2 : x2 = pt x 2) (e3 : x3 = pt x 3) (e4 : x4 = pt x 4) (e5 : x5 = pt x 5) : mOne R (sndM σ n x0 x1 x2 x3 x4 x5 1) (18 * n) x := by
  refine ⟨fun j hj => ?_, fun h => absurd h h3⟩
  rw [sndM_1, if_pos (by omega), if_pos (by omega), Nat.add_sub_cancel_left]
  rcases (show j = 0 ∨ j = 1 ∨ j = 2 ∨ j = 3 ∨ j = 4 ∨ j = 5 by omega) with e | e | e | e | e | e <;> subst e <;> assumption
theorem mO_snd {R A cm : Nat} {α : pS} {σ : gSt} {n : Nat} (h : mO R A cm α n σ) {x0 x1 x2 x3 x4 x5 : Int32} : mO R A cm (pSnd α 1) (n + 1) (sndM σ n x0 x1 x2 x3 x4 x5) := by
  obtain ⟨q1, q2, q3, q4, q5, q6⟩ := h
  unfold mO
  rw [sndM_0, sndM_0, sndM_0, sndM_0, sndM_0, sndM_0]
  refine ⟨q1, q2, rfl, ?_, q5, q6⟩
  show σ 0 6 + nI 1 = _
  rw [q4, nI_add]
  unfold pSnd
  rw [pu_at]
theorem mRel_snd {R A cm : Nat} {s : pT} {σ : gSt} (h : mRel R A cm s σ) (hR : R ≤ 6) (x : pMsg) (h3 : x 0 ≠ 3) {x0 x1 x2 x3 x4 x5 : Int32} (e0 : x0 = pt x 0) (e1 : x1 = pt x 1) (e2 : x2 = pt x 2) (e3 : x3 = pt x 3) (e4 : x4 = pt x 4) (e5 : x5 = pt x 5) : mRel R A cm (pSnd s.1 1, s.2 ++ [x]) (sndM σ s.2.length x0 x1 x2 x3 x4 x5) :=
  mRel_to h [] [1] (by decide) (fun c _ _ h3 => sndM_o (by omega) (by omega)) (fun d hd => pu_c _ (fun q => hd (by rw [q]; decide))) (by rw [List.length_append]; exact mO_snd h.1) (mMs_snd h.2.1 hR x (fun p hp => by rw [sndM_1, if_neg (by omega)]) (sndM_one x h3 e0 e1 e2 e3 e4 e5)) (fun c hc => absurd hc List.not_mem_nil)

set_option maxRecDepth 100000 in
theorem m_sends_l {σ : gSt} {n : Nat} (hn : σ 0 5 = nI n) (hn4 : n < 400) {x0 x1 x2 x3 x4 x5 : Int32} : ∀ (k i : Nat), i ≤ 18 → 18 - i < k → gEx mG mX7_sends 0 12 [some (.inr 0), some (.inl x0), some (.inl x1), some (.inl x2), some (.inl x3), some (.inl x4), some (.inl x5), some (.inl (nI (18 * n))), some (.inl (nI i))] [] (clrM σ n i) (gV (fun τ => τ = sndM σ n x0 x1 x2 x3 x4 x5)) := by
  intro k
  induction k with
  | zero => intro i hi1 hi2; exact absurd hi2 (by omega)
  | succ k ih =>
    intro i hi1 hi2 
    refine g_iload dX7_sends_12 rfl ?_
    refine g_bipush (nI (18)) dX7_sends_14 (by decide) ?_
    refine g_icmp_ge 36 dX7_sends_16 (by decide) (fun h16 => ?_) (fun h16 => ?_)
    · skip
      rw [nI_leI (by omega) (by omega)] at h16
      refine g_aload_n dX7_sends_36 rfl ?_
      refine g_getr (T := TX7) (N := 26) (Cn := RX7) (ref := "CommitCouncilModel") 3 dX7_sends_37 (mIn (by decide)) rfl rfl (fun w h => List.mem_cons_of_mem _ (hU7 w h)) (by decide) (List.mem_cons_of_mem _ uw_3_126) (Or.inl rfl) rfl ?_
      refine g_iload dX7_sends_40 rfl ?_
      refine g_iload_n dX7_sends_42 rfl ?_
      refine g_iastN (n := 7200) (j := 18 * n) dX7_sends_43 (mIn (by decide)) rfl (by omega) (by omega) ?_
      refine g_aload_n dX7_sends_44 rfl ?_
      refine g_getr (T := TX7) (N := 26) (Cn := RX7) (ref := "CommitCouncilModel") 3 dX7_sends_45 (mIn (by decide)) rfl rfl (fun w h => List.mem_cons_of_mem _ (hU7 w h)) (by decide) (List.mem_cons_of_mem _ uw_3_126) (Or.inl rfl) rfl ?_
      refine g_iload dX7_sends_48 rfl ?_
      refine g_iconst (nI (1)) dX7_sends_50 (by decide) ?_
      refine g_iadd dX7_sends_51 ?_
      refine gEx.top (v := .inl (nI (18 * n + 1))) (congrArg Sum.inl (nI_add _ _)) ?_
      refine g_iload_n dX7_sends_52 rfl ?_
      refine g_iastN (n := 7200) (j := 18 * n + 1) dX7_sends_53 (mIn (by decide)) rfl (by omega) (by omega) ?_
      refine g_aload_n dX7_sends_54 rfl ?_
      refine g_getr (T := TX7) (N := 26) (Cn := RX7) (ref := "CommitCouncilModel") 3 dX7_sends_55 (mIn (by decide)) rfl rfl (fun w h => List.mem_cons_of_mem _ (hU7 w h)) (by decide) (List.mem_cons_of_mem _ uw_3_126) (Or.inl rfl) rfl ?_
      refine g_iload dX7_sends_58 rfl ?_
      refine g_iconst (nI (2)) dX7_sends_60 (by decide) ?_
      refine g_iadd dX7_sends_61 ?_
      refine gEx.top (v := .inl (nI (18 * n + 2))) (congrArg Sum.inl (nI_add _ _)) ?_
      refine g_iload_n dX7_sends_62 rfl ?_
      refine g_iastN (n := 7200) (j := 18 * n + 2) dX7_sends_63 (mIn (by decide)) rfl (by omega) (by omega) ?_
      refine g_aload_n dX7_sends_64 rfl ?_
      refine g_getr (T := TX7) (N := 26) (Cn := RX7) (ref := "CommitCouncilModel") 3 dX7_sends_65 (mIn (by decide)) rfl rfl (fun w h => List.mem_cons_of_mem _ (hU7 w h)) (by decide) (List.mem_cons_of_mem _ uw_3_126) (Or.inl rfl) rfl ?_
      refine g_iload dX7_sends_68 rfl ?_
      refine g_iconst (nI (3)) dX7_sends_70 (by decide) ?_
      refine g_iadd dX7_sends_71 ?_
      refine gEx.top (v := .inl (nI (18 * n + 3))) (congrArg Sum.inl (nI_add _ _)) ?_
      refine g_iload dX7_sends_72 rfl ?_
      refine g_iastN (n := 7200) (j := 18 * n + 3) dX7_sends_74 (mIn (by decide)) rfl (by omega) (by omega) ?_
      refine g_aload_n dX7_sends_75 rfl ?_
      refine g_getr (T := TX7) (N := 26) (Cn := RX7) (ref := "CommitCouncilModel") 3 dX7_sends_76 (mIn (by decide)) rfl rfl (fun w h => List.mem_cons_of_mem _ (hU7 w h)) (by decide) (List.mem_cons_of_mem _ uw_3_126) (Or.inl rfl) rfl ?_
      refine g_iload dX7_sends_79 rfl ?_
      refine g_iconst (nI (4)) dX7_sends_81 (by decide) ?_
      refine g_iadd dX7_sends_82 ?_
      refine gEx.top (v := .inl (nI (18 * n + 4))) (congrArg Sum.inl (nI_add _ _)) ?_
      refine g_iload dX7_sends_83 rfl ?_
      refine g_iastN (n := 7200) (j := 18 * n + 4) dX7_sends_85 (mIn (by decide)) rfl (by omega) (by omega) ?_
      refine g_aload_n dX7_sends_86 rfl ?_
      refine g_getr (T := TX7) (N := 26) (Cn := RX7) (ref := "CommitCouncilModel") 3 dX7_sends_87 (mIn (by decide)) rfl rfl (fun w h => List.mem_cons_of_mem _ (hU7 w h)) (by decide) (List.mem_cons_of_mem _ uw_3_126) (Or.inl rfl) rfl ?_
      refine g_iload dX7_sends_90 rfl ?_
      refine g_iconst (nI (5)) dX7_sends_92 (by decide) ?_
      refine g_iadd dX7_sends_93 ?_
      refine gEx.top (v := .inl (nI (18 * n + 5))) (congrArg Sum.inl (nI_add _ _)) ?_
      refine g_iload dX7_sends_94 rfl ?_
      refine g_iastN (n := 7200) (j := 18 * n + 5) dX7_sends_96 (mIn (by decide)) rfl (by omega) (by omega) ?_
      refine g_aload_n dX7_sends_97 rfl ?_
      refine g_dup dX7_sends_98 ?_
      refine g_get (T := TX7) (N := 26) (Cn := RX7) (ref := "CommitCouncilModel") 5 dX7_sends_99 (mIn (by decide)) rfl rfl (fun w h => List.mem_cons_of_mem _ (hU7 w h)) (by decide) (List.mem_cons_of_mem _ uw_3_128) (Or.inl rfl) rfl ?_
      refine gEx.top (v := .inl (nI (n))) (congrArg Sum.inl ((show clrM σ n i 0 5 = nI n by rw [clrM_ne _ (by decide)]; exact hn))) ?_
      refine g_iconst (nI (1)) dX7_sends_102 (by decide) ?_
      refine g_iadd dX7_sends_103 ?_
      refine gEx.top (v := .inl (nI (n + 1))) (congrArg Sum.inl (nI_add _ _)) ?_
      refine g_put (T := TX7) (N := 26) (Cn := RX7) (ref := "CommitCouncilModel") (ty0 := tyX7) 5 dX7_sends_104 (mIn (by decide)) rfl rfl (fun w h => List.mem_cons_of_mem _ (hU7 w h)) tyX7_ok nmX7 (by decide) (List.mem_cons_of_mem _ uw_3_128) (Or.inl rfl) rfl rfl rfl rfl ?_
      refine g_aload_n dX7_sends_107 rfl ?_
      refine g_dup dX7_sends_108 ?_
      refine g_get (T := TX7) (N := 26) (Cn := RX7) (ref := "CommitCouncilModel") 6 dX7_sends_109 (mIn (by decide)) rfl rfl (fun w h => List.mem_cons_of_mem _ (hU7 w h)) (by decide) (List.mem_cons_of_mem _ uw_3_129) (Or.inl rfl) rfl ?_
      refine gEx.top (v := .inl (σ 0 6)) (congrArg Sum.inl ((show clrM σ n i 0 6 = σ 0 6 by rw [clrM_ne _ (by decide)]))) ?_
      refine g_iconst (nI (1)) dX7_sends_112 (by decide) ?_
      refine g_iadd dX7_sends_113 ?_
      refine g_put (T := TX7) (N := 26) (Cn := RX7) (ref := "CommitCouncilModel") (ty0 := tyX7) 6 dX7_sends_114 (mIn (by decide)) rfl rfl (fun w h => List.mem_cons_of_mem _ (hU7 w h)) tyX7_ok nmX7 (by decide) (List.mem_cons_of_mem _ uw_3_129) (Or.inl rfl) rfl rfl rfl rfl ?_
      refine g_vret dX7_sends_117 rfl ?_
      have e : i = 18 := by omega
      subst e
      exact ⟨rfl, rfl⟩
    · skip
      rw [nI_leI (by omega) (by omega)] at h16
      refine g_aload_n dX7_sends_19 rfl ?_
      refine g_getr (T := TX7) (N := 26) (Cn := RX7) (ref := "CommitCouncilModel") 3 dX7_sends_20 (mIn (by decide)) rfl rfl (fun w h => List.mem_cons_of_mem _ (hU7 w h)) (by decide) (List.mem_cons_of_mem _ uw_3_126) (Or.inl rfl) rfl ?_
      refine g_iload dX7_sends_23 rfl ?_
      refine g_iload dX7_sends_25 rfl ?_
      refine g_iadd dX7_sends_27 ?_
      refine gEx.top (v := .inl (nI (18 * n + i))) (congrArg Sum.inl (nI_add _ _)) ?_
      refine g_iconst ((-1)) dX7_sends_28 (by decide) ?_
      refine g_iastN (n := 7200) (j := 18 * n + i) dX7_sends_29 (mIn (by decide)) rfl (by omega) (by omega) ?_
      refine g_iinc (nI (i + 1)) dX7_sends_30 rfl (show nI (i) + nI 1 = _ from nI_add _ _) (by decide) ?_
      refine g_goto 12 dX7_sends_33 (by decide) ?_
      rw [clrM_s]
      exact ih (i + 1) (by omega) (by omega)

set_option maxRecDepth 100000 in
/-- sends -/
theorem m_sends {σ : gSt} {n : Nat} (hn : σ 0 5 = nI n) (hn4 : n < 400) {x0 x1 x2 x3 x4 x5 : Int32} : gEM mG mX7_sends 0 [.inr (0), .inl (x0), .inl (x1), .inl (x2), .inl (x3), .inl (x4), .inl (x5)] σ (gV (fun τ => τ = sndM σ n x0 x1 x2 x3 x4 x5)) := by
  refine gEM_of (by decide +kernel) rfl (Nat.le_of_ble_eq_true rfl) ?_
  refine g_bipush (nI (18)) dX7_sends_0 (by decide) ?_
  refine g_aload_n dX7_sends_2 rfl ?_
  refine g_get (T := TX7) (N := 26) (Cn := RX7) (ref := "CommitCouncilModel") 5 dX7_sends_3 (mIn (by decide)) rfl rfl (fun w h => List.mem_cons_of_mem _ (hU7 w h)) (by decide) (List.mem_cons_of_mem _ uw_3_128) (Or.inl rfl) rfl ?_
  refine gEx.top (v := .inl (nI (n))) (congrArg Sum.inl (hn)) ?_
  refine g_imul dX7_sends_6 ?_
  refine gEx.top (v := .inl (nI ((18) * (n)))) (congrArg Sum.inl (pk_mul _ _)) ?_
  refine g_istore dX7_sends_7 (by decide) ?_
  refine g_iconst (nI (0)) dX7_sends_9 (by decide) ?_
  refine g_istore dX7_sends_10 (by decide) ?_
  have := m_sends_l hn hn4 (x0 := x0) (x1 := x1) (x2 := x2) (x3 := x3) (x4 := x4) (x5 := x5) 19 0 (by decide) (by decide)
  rw [clrM_0] at this
  exact this

set_option maxRecDepth 100000 in
theorem m_votes_l {R A : Nat} (hRA : pRA R A) {cm : Nat} {s : pT} {σ0 : gSt} {m b w : Nat} (hn : s.2.length + A ≤ 400) : ∀ (k i : Nat), i ≤ A → A - i < k → ∀ σ, mRel R A cm (pAdd s i (fun a => mVote a m b w)) σ → mE σ0 σ → gEx mG mX7_votes 0 3 [some (.inr (0)), some (.inl (nI (m))), some (.inl (nI (b))), some (.inl (nI (w))), some (.inl (nI (i)))] [] σ (gV (fun τ => mRel R A cm (pAdd s A (fun a => mVote a m b w)) τ ∧ mE σ0 τ)) := by
  intro k
  induction k with
  | zero => intro i hi1 hi2; exact absurd hi2 (by omega)
  | succ k ih =>
    intro i hi1 hi2 σ hc hE
    obtain ⟨hR1, hR6, hA35⟩ := hRA
    refine g_iload dX7_votes_3 rfl ?_
    refine g_aload_n dX7_votes_5 rfl ?_
    refine g_get (T := TX7) (N := 26) (Cn := RX7) (ref := "CommitCouncilModel") 2 dX7_votes_6 (mIn (by decide)) rfl rfl (fun w h => List.mem_cons_of_mem _ (hU7 w h)) (by decide) (List.mem_cons_of_mem _ uw_3_125) (Or.inl rfl) rfl ?_
    refine gEx.top (v := .inl (nI (A))) (congrArg Sum.inl (hc.1.2.1)) ?_
    refine g_icmp_ge 29 dX7_votes_9 (by decide) (fun h9 => ?_) (fun h9 => ?_)
    · skip
      rw [nI_leI (by omega) (by omega)] at h9
      refine g_vret dX7_votes_29 rfl ?_
      have e : i = A := by omega
      subst e
      exact ⟨rfl, hc, hE⟩
    · skip
      rw [nI_leI (by omega) (by omega)] at h9
      refine g_aload_n dX7_votes_12 rfl ?_
      refine g_iconst (nI (0)) dX7_votes_13 (by decide) ?_
      refine g_iload dX7_votes_14 rfl ?_
      refine g_iconst ((-1)) dX7_votes_16 (by decide) ?_
      refine g_iload_n dX7_votes_17 rfl ?_
      refine g_iload_n dX7_votes_18 rfl ?_
      refine g_iload_n dX7_votes_19 rfl ?_
      refine g_callVv (n9 := 6) [.inl (nI (0)), .inl (nI (i)), .inl ((-1)), .inl (nI (m)), .inl (nI (b)), .inl (nI (w))] [] (m_sends hc.1.2.2.1 (by rw [pAdd_len]; omega)) dX7_votes_20 (gU_V uw_3_230 uw_3_232 us_1_7 uw_1_8 uw_3_233) rfl (by decide +kernel) rfl ⟨by decide, by decide⟩ (mIn (by decide)) rfl rfl rfl (Nat.le_of_ble_eq_true rfl) (fun σ1 hp1 => ?_)
      refine g_iinc (nI (i + 1)) dX7_votes_23 rfl (show nI (i) + nI 1 = _ from nI_add _ _) (by decide) ?_
      refine g_goto 3 dX7_votes_26 (by decide) ?_
      subst hp1
      exact ih (i + 1) (by omega) (by omega) _ (by rw [← pAdd_s]; exact mRel_snd hc hR6 ((fun a => mVote a m b w) i) (by simp [mVote, mDec, mQue, mAsk, mVoted]) rfl rfl rfl rfl rfl rfl) (mE_tr hE sndM_E)

set_option maxRecDepth 100000 in
/-- votes -/
theorem m_votes {R A : Nat} (hRA : pRA R A) {cm : Nat} {s : pT} {σ : gSt} (hc : mRel R A cm s σ) {m b w : Nat} (hn : s.2.length + A ≤ 400) : gEM mG mX7_votes 0 [.inr (0), .inl (nI (m)), .inl (nI (b)), .inl (nI (w))] σ (gV (fun τ => mRel R A cm (pAdd s A (fun a => mVote a m b w)) τ ∧ mE σ τ)) := by
  refine gEM_of (by decide +kernel) rfl (Nat.le_of_ble_eq_true rfl) ?_
  refine g_iconst (nI (0)) dX7_votes_0 (by decide) ?_
  refine g_istore dX7_votes_1 (by decide) ?_
  exact m_votes_l hRA hn (A + 1) 0 (by omega) (by omega) σ (by rw [pAdd_0]; exact hc) mE_rf

def remM (σ : gSt) (i k : Nat) : gSt := gur σ 1 (fun p => if 18 * i ≤ p ∧ p < k then σ 1 (p + 18) else σ 1 p)
theorem remM_0 (σ : gSt) (i : Nat) : remM σ i (18 * i) = σ := by
  funext a p
  unfold remM gur
  by_cases h : a = 1
  · subst h
    rw [if_pos rfl, if_neg (by omega)]
  · rw [if_neg h]
theorem remM_at (σ : gSt) {i k p : Nat} (h : k ≤ p) : remM σ i k 1 p = σ 1 p := by
  unfold remM
  rw [gur_self, if_neg (by omega)]
theorem remM_s (σ : gSt) {i k : Nat} (hk : 18 * i ≤ k) : gup (remM σ i k) 1 k (σ 1 (k + 18)) = remM σ i (k + 1) := by
  funext a p
  unfold remM gur gup
  by_cases h : a = 1
  · subst h
    by_cases h2 : p = k
    · subst h2
      rw [if_pos ⟨rfl, rfl⟩, if_pos rfl, if_pos (by omega)]
    · rw [if_neg (fun q => h2 q.2), if_pos rfl]
      show (if 18 * i ≤ p ∧ p < k then σ 1 (p + 18) else σ 1 p) = _
      by_cases h3 : 18 * i ≤ p ∧ p < k
      · rw [if_pos h3, if_pos (by omega)]
      · rw [if_neg h3, if_neg (by omega)]
  · rw [if_neg (fun q => h q.1), if_neg h]
    exact congrFun (if_neg h) p
theorem remM_ne (σ : gSt) {i k a : Nat} (h : a ≠ 1) : remM σ i k a = σ a := gur_ne σ _ h
/-- a message is taken out -/
theorem mRel_rem {R A cm : Nat} {s : pT} {σ : gSt} (h : mRel R A cm s σ) (hR : R ≤ 6) {i : Nat} (hi : i < s.2.length) : mRel R A cm (s.1, s.2.eraseIdx i) (gup (remM σ i (18 * (s.2.length - 1))) 0 5 (nI (s.2.length - 1))) := by
  refine mRel_to (β := s.1) h [] [] (by decide) (fun c _ _ h3 => by rw [gup_ne _ _ (by omega), remM_ne _ (by omega)]) (fun _ _ => rfl) ?_ ?_ (fun c hc => absurd hc List.not_mem_nil)
  · obtain ⟨q1, q2, q3, q4, q5, q6⟩ := h.1
    rw [List.length_eraseIdx_of_lt hi]
    refine ⟨?_, ?_, rfl, ?_, ?_, ?_⟩ <;> (rw [gup_j _ _ (by decide), remM_ne _ (by decide)]; assumption)
  · intro j y hy
    rw [List.getElem?_eraseIdx] at hy
    by_cases hj : j < i
    · rw [if_pos hj] at hy
      refine mOne_mv (h.2.1 j y hy) hR (fun k hk => ?_)
      rw [gup_ne _ _ (by decide)]
      unfold remM
      rw [gur_self, if_neg (by omega)]
    · rw [if_neg hj] at hy
      have hl := (List.getElem?_eq_some_iff.mp hy).1
      refine mOne_mv (h.2.1 (j + 1) y hy) hR (fun k hk => ?_)
      rw [gup_ne _ _ (by decide)]
      unfold remM
      rw [gur_self, if_pos (by omega)]
      congr 1
      omega

set_option maxRecDepth 100000 in
theorem m_rem_l {σ : gSt} {n i : Nat} (hn : σ 0 5 = nI n) (hi : i < n) (hn4 : n ≤ 400) : ∀ (k j : Nat), j ≤ 18 * (n - 1) → 18 * (n - 1) - j < k → 18 * i ≤ j → gEx mG mX7_remove 0 5 [some (.inr 0), some (.inl (nI i)), some (.inl (nI j))] [] (remM σ i j) (gV (fun τ => τ = gup (remM σ i (18 * (n - 1))) 0 5 (nI (n - 1)))) := by
  intro k
  induction k with
  | zero => intro j hi1 hi2; exact absurd hi2 (by omega)
  | succ k ih =>
    intro j hi1 hi2 hij
    refine g_iload_n dX7_remove_5 rfl ?_
    refine g_bipush (nI (18)) dX7_remove_6 (by decide) ?_
    refine g_aload_n dX7_remove_8 rfl ?_
    refine g_get (T := TX7) (N := 26) (Cn := RX7) (ref := "CommitCouncilModel") 5 dX7_remove_9 (mIn (by decide)) rfl rfl (fun w h => List.mem_cons_of_mem _ (hU7 w h)) (by decide) (List.mem_cons_of_mem _ uw_3_128) (Or.inl rfl) rfl ?_
    refine gEx.top (v := .inl (nI (n))) (congrArg Sum.inl ((show remM σ i j 0 5 = nI n by rw [remM_ne _ (by decide)]; exact hn))) ?_
    refine g_iconst (nI (1)) dX7_remove_12 (by decide) ?_
    refine g_isub dX7_remove_13 ?_
    refine gEx.top (v := .inl (nI (n - (1)))) (congrArg Sum.inl (pk_sub (by omega))) ?_
    refine g_imul dX7_remove_14 ?_
    refine gEx.top (v := .inl (nI ((18) * (n - (1))))) (congrArg Sum.inl (pk_mul _ _)) ?_
    refine g_icmp_ge 39 dX7_remove_15 (by decide) (fun h15 => ?_) (fun h15 => ?_)
    · skip
      rw [nI_leI (by omega) (by omega)] at h15
      refine g_aload_n dX7_remove_39 rfl ?_
      refine g_dup dX7_remove_40 ?_
      refine g_get (T := TX7) (N := 26) (Cn := RX7) (ref := "CommitCouncilModel") 5 dX7_remove_41 (mIn (by decide)) rfl rfl (fun w h => List.mem_cons_of_mem _ (hU7 w h)) (by decide) (List.mem_cons_of_mem _ uw_3_128) (Or.inl rfl) rfl ?_
      refine gEx.top (v := .inl (nI (n))) (congrArg Sum.inl ((show remM σ i j 0 5 = nI n by rw [remM_ne _ (by decide)]; exact hn))) ?_
      refine g_iconst (nI (1)) dX7_remove_44 (by decide) ?_
      refine g_isub dX7_remove_45 ?_
      refine gEx.top (v := .inl (nI (n - (1)))) (congrArg Sum.inl (pk_sub (by omega))) ?_
      refine g_put (T := TX7) (N := 26) (Cn := RX7) (ref := "CommitCouncilModel") (ty0 := tyX7) 5 dX7_remove_46 (mIn (by decide)) rfl rfl (fun w h => List.mem_cons_of_mem _ (hU7 w h)) tyX7_ok nmX7 (by decide) (List.mem_cons_of_mem _ uw_3_128) (Or.inl rfl) rfl rfl rfl rfl ?_
      refine g_vret dX7_remove_49 rfl ?_
      have e : j = 18 * (n - 1) := by omega
      subst e
      exact ⟨rfl, rfl⟩
    · skip
      rw [nI_leI (by omega) (by omega)] at h15
      refine g_aload_n dX7_remove_18 rfl ?_
      refine g_getr (T := TX7) (N := 26) (Cn := RX7) (ref := "CommitCouncilModel") 3 dX7_remove_19 (mIn (by decide)) rfl rfl (fun w h => List.mem_cons_of_mem _ (hU7 w h)) (by decide) (List.mem_cons_of_mem _ uw_3_126) (Or.inl rfl) rfl ?_
      refine g_iload_n dX7_remove_22 rfl ?_
      refine g_aload_n dX7_remove_23 rfl ?_
      refine g_getr (T := TX7) (N := 26) (Cn := RX7) (ref := "CommitCouncilModel") 3 dX7_remove_24 (mIn (by decide)) rfl rfl (fun w h => List.mem_cons_of_mem _ (hU7 w h)) (by decide) (List.mem_cons_of_mem _ uw_3_126) (Or.inl rfl) rfl ?_
      refine g_iload_n dX7_remove_27 rfl ?_
      refine g_bipush (nI (18)) dX7_remove_28 (by decide) ?_
      refine g_iadd dX7_remove_30 ?_
      refine gEx.top (v := .inl (nI (j + 18))) (congrArg Sum.inl (nI_add _ _)) ?_
      refine g_ialdN (n := 7200) (j := j + 18) dX7_remove_31 (mIn (by decide)) rfl (by omega) (by omega) ?_
      refine gEx.top (v := .inl (σ 1 (j + 18))) (congrArg Sum.inl (remM_at σ (by omega))) ?_
      refine g_iastN (n := 7200) (j := j) dX7_remove_32 (mIn (by decide)) rfl (by omega) (by omega) ?_
      refine g_iinc (nI (j + 1)) dX7_remove_33 rfl (show nI (j) + nI 1 = _ from nI_add _ _) (by decide) ?_
      refine g_goto 5 dX7_remove_36 (by decide) ?_
      rw [remM_s σ hij]
      exact ih (j + 1) (by omega) (by omega) (by omega)

set_option maxRecDepth 100000 in
/-- remove -/
theorem m_remove {σ : gSt} {n i : Nat} (hn : σ 0 5 = nI n) (hi : i < n) (hn4 : n ≤ 400) : gEM mG mX7_remove 0 [.inr (0), .inl (nI (i))] σ (gV (fun τ => τ = gup (remM σ i (18 * (n - 1))) 0 5 (nI (n - 1)))) := by
  refine gEM_of (by decide +kernel) rfl (Nat.le_of_ble_eq_true rfl) ?_
  refine g_bipush (nI (18)) dX7_remove_0 (by decide) ?_
  refine g_iload_n dX7_remove_2 rfl ?_
  refine g_imul dX7_remove_3 ?_
  refine gEx.top (v := .inl (nI ((18) * (i)))) (congrArg Sum.inl (pk_mul _ _)) ?_
  refine g_istore_n dX7_remove_4 (by decide) ?_
  have := m_rem_l hn hi hn4 (18 * (n - 1) + 1) (18 * i) (by omega) (by omega) (by omega)
  rw [remM_0] at this
  exact this
