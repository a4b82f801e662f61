set_option maxRecDepth 100000 in
/-- message -/
theorem c_msgT {R A : Nat} (hRA : pRA R A) {s : pT} {σ : gSt} (hc : cRel R A s σ) (hlen : s.2.length ≤ 400) {i : Nat} {x : pMsg} (hx : s.2[i]? = some x) {j : Nat} (hj : j < 6) : gEM (cG R A) mX6_message 1 [.inr (0), .inl (nI (i)), .inl (nI (j))] σ (gR (pt x j) (fun τ => τ = σ)) := by
  obtain ⟨hR1, hR6, hA35⟩ := hRA
  have hA5 : A ≤ 5 := by omega
  have hi := (List.getElem?_eq_some_iff.mp hx).1
  refine gEM_of (by decide +kernel) rfl (Nat.le_of_ble_eq_true rfl) ?_
  refine g_iload_n dX6_message_0 rfl ?_
  refine g_aload_n dX6_message_1 rfl ?_
  refine g_getr (T := TX6) (N := 7) (Cn := RX6) (ref := "CommitCouncil") 3 dX6_message_2 (cIn_lo (by decide)) cSh_0 rfl (fun w h => List.mem_cons_of_mem _ (hU6 w h)) (by decide) (List.mem_cons_of_mem _ uw_1_161) (Or.inl rfl) rfl ?_
  refine g_get (T := TX3) (N := 4) (Cn := RX3) (ref := "CommitCouncil$Mail") 0 dX6_message_5 (cIn_lo (by decide)) cSh_4 rfl (fun w h => List.mem_cons_of_mem _ (hU3 w h)) (by decide) (List.mem_cons_of_mem _ uw_1_122) (Or.inl rfl) rfl ?_
  refine gEx.top (v := .inl (nI (s.2.length))) (congrArg Sum.inl (hc.2.1.1)) ?_
  refine g_callSv (n9 := 2) [.inl (nI (i)), .inl (nI (s.2.length))] [] (c_checkOk hi (by omega)) dX6_message_8 (gU_S uw_1_192 uw_1_193 uw_1_1 uw_1_194) rfl (by decide +kernel) rfl ⟨by decide, by decide⟩ rfl (Nat.le_of_ble_eq_true rfl) (fun σ1 hp1 => ?_)
  subst hp1
  refine g_aload_n dX6_message_11 rfl ?_
  refine g_getr (T := TX6) (N := 7) (Cn := RX6) (ref := "CommitCouncil") 3 dX6_message_12 (cIn_lo (by decide)) cSh_0 rfl (fun w h => List.mem_cons_of_mem _ (hU6 w h)) (by decide) (List.mem_cons_of_mem _ uw_1_161) (Or.inl rfl) rfl ?_
  refine g_iload_n dX6_message_15 rfl ?_
  refine g_iload_n dX6_message_16 rfl ?_
  refine g_callVi (_) (n9 := 2) [.inl (nI (i)), .inl (nI (j))] [] (c_part hc.2.1.1 hc.2.1.2.2.1 hR6 hi (by omega) hj) dX6_message_17 (gU_V uw_2_130 uw_2_131 uw_2_132 uw_1_6 uw_2_133) rfl (by decide +kernel) rfl ⟨by decide, by decide⟩ (cIn_lo (by decide)) cSh_4 rfl rfl (Nat.le_of_ble_eq_true rfl) (fun τ1 hq1 => ?_)
  subst hq1
  refine gEx.top (v := .inl (pt x j)) (congrArg Sum.inl ((hc.2.1.2.2.2 i x hx).1 j hj)) ?_
  exact g_iret dX6_message_20 rfl (⟨rfl, rfl⟩)

set_option maxRecDepth 100000 in
/-- message: no such what -/
theorem c_msgN {R A : Nat} (hRA : pRA R A) {s : pT} {σ : gSt} (hc : cRel R A s σ) (hlen : s.2.length ≤ 400) {i : Nat} (hi : i < s.2.length) {y : Int32} (hy : y < 0 ∨ nI 6 ≤ y) : gEM (cG R A) mX6_message 1 [.inr (0), .inl (nI (i)), .inl (y)] σ (gR (-1) (fun τ => τ = σ)) := by
  obtain ⟨hR1, hR6, hA35⟩ := hRA
  have hA5 : A ≤ 5 := by omega
  refine gEM_of (by decide +kernel) rfl (Nat.le_of_ble_eq_true rfl) ?_
  refine g_iload_n dX6_message_0 rfl ?_
  refine g_aload_n dX6_message_1 rfl ?_
  refine g_getr (T := TX6) (N := 7) (Cn := RX6) (ref := "CommitCouncil") 3 dX6_message_2 (cIn_lo (by decide)) cSh_0 rfl (fun w h => List.mem_cons_of_mem _ (hU6 w h)) (by decide) (List.mem_cons_of_mem _ uw_1_161) (Or.inl rfl) rfl ?_
  refine g_get (T := TX3) (N := 4) (Cn := RX3) (ref := "CommitCouncil$Mail") 0 dX6_message_5 (cIn_lo (by decide)) cSh_4 rfl (fun w h => List.mem_cons_of_mem _ (hU3 w h)) (by decide) (List.mem_cons_of_mem _ uw_1_122) (Or.inl rfl) rfl ?_
  refine gEx.top (v := .inl (nI (s.2.length))) (congrArg Sum.inl (hc.2.1.1)) ?_
  refine g_callSv (n9 := 2) [.inl (nI (i)), .inl (nI (s.2.length))] [] (c_checkOk hi (by omega)) dX6_message_8 (gU_S uw_1_192 uw_1_193 uw_1_1 uw_1_194) rfl (by decide +kernel) rfl ⟨by decide, by decide⟩ rfl (Nat.le_of_ble_eq_true rfl) (fun σ1 hp1 => ?_)
  subst hp1
  refine g_aload_n dX6_message_11 rfl ?_
  refine g_getr (T := TX6) (N := 7) (Cn := RX6) (ref := "CommitCouncil") 3 dX6_message_12 (cIn_lo (by decide)) cSh_0 rfl (fun w h => List.mem_cons_of_mem _ (hU6 w h)) (by decide) (List.mem_cons_of_mem _ uw_1_161) (Or.inl rfl) rfl ?_
  refine g_iload_n dX6_message_15 rfl ?_
  refine g_iload_n dX6_message_16 rfl ?_
  refine g_callVi (-1) (n9 := 2) [.inl (nI (i)), .inl (y)] [] (c_partNo hc.2.1.1 hc.2.1.2.2.1 hR6 hi (by omega) hy) dX6_message_17 (gU_V uw_2_130 uw_2_131 uw_2_132 uw_1_6 uw_2_133) rfl (by decide +kernel) rfl ⟨by decide, by decide⟩ (cIn_lo (by decide)) cSh_4 rfl rfl (Nat.le_of_ble_eq_true rfl) (fun τ1 hq1 => ?_)
  subst hq1
  exact g_iret dX6_message_20 rfl (⟨rfl, rfl⟩)

set_option maxRecDepth 100000 in
/-- message -/
theorem c_msgX {R A : Nat} (hRA : pRA R A) {s : pT} {σ : gSt} (hc : cRel R A s σ) {z y : Int32} (hz : z < 0 ∨ nI s.2.length ≤ z) : gEM (cG R A) mX6_message 1 [.inr (0), .inl (z), .inl (y)] σ (gX 0 (fun τ => τ = σ)) := by
  refine gEM_of (by decide +kernel) rfl (Nat.le_of_ble_eq_true rfl) ?_
  refine g_iload_n dX6_message_0 rfl ?_
  refine g_aload_n dX6_message_1 rfl ?_
  refine g_getr (T := TX6) (N := 7) (Cn := RX6) (ref := "CommitCouncil") 3 dX6_message_2 (cIn_lo (by decide)) cSh_0 rfl (fun w h => List.mem_cons_of_mem _ (hU6 w h)) (by decide) (List.mem_cons_of_mem _ uw_1_161) (Or.inl rfl) rfl ?_
  refine g_get (T := TX3) (N := 4) (Cn := RX3) (ref := "CommitCouncil$Mail") 0 dX6_message_5 (cIn_lo (by decide)) cSh_4 rfl (fun w h => List.mem_cons_of_mem _ (hU3 w h)) (by decide) (List.mem_cons_of_mem _ uw_1_122) (Or.inl rfl) rfl ?_
  refine gEx.top (v := .inl (nI (s.2.length))) (congrArg Sum.inl (hc.2.1.1)) ?_
  exact g_callSx 0 (n9 := 2) [.inl (z), .inl (nI (s.2.length))] [] (c_checkNo hz) dX6_message_8 (gU_S uw_1_192 uw_1_193 uw_1_1 uw_1_194) rfl (by decide +kernel) rfl ⟨by decide, by decide⟩ rfl (Nat.le_of_ble_eq_true rfl) (by decide) (fun σ9 hp9 => ⟨rfl, hp9⟩)

set_option maxRecDepth 100000 in
/-- told: of another message -/
theorem c_toldK {R A : Nat} (hRA : pRA R A) {s : pT} {σ : gSt} (hc : cRel R A s σ) (hlen : s.2.length ≤ 400) {i : Nat} {x : pMsg} (hx : s.2[i]? = some x) (hp : pMk R A x) {m : Nat} (hm : m < R) (hk : x 0 ≠ 3) {f : Int32} : gEM (cG R A) mX6_told 1 [.inr (0), .inl (nI (i)), .inl (nI (m)), .inl (f)] σ (gR (-1) (fun τ => τ = σ)) := by
  obtain ⟨hR1, hR6, hA35⟩ := hRA
  have hA5 : A ≤ 5 := by omega
  have hi := (List.getElem?_eq_some_iff.mp hx).1
  have hx5 := hp.2.2.2.2.2.2.2
  refine gEM_of (by decide +kernel) rfl (Nat.le_of_ble_eq_true rfl) ?_
  refine g_iload_n dX6_told_0 rfl ?_
  refine g_aload_n dX6_told_1 rfl ?_
  refine g_getr (T := TX6) (N := 7) (Cn := RX6) (ref := "CommitCouncil") 3 dX6_told_2 (cIn_lo (by decide)) cSh_0 rfl (fun w h => List.mem_cons_of_mem _ (hU6 w h)) (by decide) (List.mem_cons_of_mem _ uw_1_161) (Or.inl rfl) rfl ?_
  refine g_get (T := TX3) (N := 4) (Cn := RX3) (ref := "CommitCouncil$Mail") 0 dX6_told_5 (cIn_lo (by decide)) cSh_4 rfl (fun w h => List.mem_cons_of_mem _ (hU3 w h)) (by decide) (List.mem_cons_of_mem _ uw_1_122) (Or.inl rfl) rfl ?_
  refine gEx.top (v := .inl (nI (s.2.length))) (congrArg Sum.inl (hc.2.1.1)) ?_
  refine g_callSv (n9 := 2) [.inl (nI (i)), .inl (nI (s.2.length))] [] (c_checkOk hi (by omega)) dX6_told_8 (gU_S uw_1_192 uw_1_193 uw_1_1 uw_1_194) rfl (by decide +kernel) rfl ⟨by decide, by decide⟩ rfl (Nat.le_of_ble_eq_true rfl) (fun σ1 hp1 => ?_)
  subst hp1
  refine g_iload_n dX6_told_11 rfl ?_
  refine g_aload_n dX6_told_12 rfl ?_
  refine g_getr (T := TX6) (N := 7) (Cn := RX6) (ref := "CommitCouncil") 0 dX6_told_13 (cIn_lo (by decide)) cSh_0 rfl (fun w h => List.mem_cons_of_mem _ (hU6 w h)) (by decide) (List.mem_cons_of_mem _ uw_1_158) (Or.inl rfl) rfl ?_
  refine g_alen (nI (R)) dX6_told_16 (cIn_lo (by decide)) cSh_1 (by decide) rfl ?_
  refine g_callSv (n9 := 2) [.inl (nI (m)), .inl (nI (R))] [] (c_checkOk hm (by omega)) dX6_told_17 (gU_S uw_1_192 uw_1_193 uw_1_1 uw_1_194) rfl (by decide +kernel) rfl ⟨by decide, by decide⟩ rfl (Nat.le_of_ble_eq_true rfl) (fun σ1 hp1 => ?_)
  subst hp1
  refine g_aload_n dX6_told_20 rfl ?_
  refine g_getr (T := TX6) (N := 7) (Cn := RX6) (ref := "CommitCouncil") 3 dX6_told_21 (cIn_lo (by decide)) cSh_0 rfl (fun w h => List.mem_cons_of_mem _ (hU6 w h)) (by decide) (List.mem_cons_of_mem _ uw_1_161) (Or.inl rfl) rfl ?_
  refine g_iload_n dX6_told_24 rfl ?_
  refine g_iconst (nI (0)) dX6_told_25 (by decide) ?_
  refine g_callVi (_) (n9 := 2) [.inl (nI (i)), .inl (nI (0))] [] (c_part hc.2.1.1 hc.2.1.2.2.1 hR6 (show i < s.2.length from hi) (by first | exact hlen | omega) (by decide)) dX6_told_26 (gU_V uw_2_130 uw_2_131 uw_2_132 uw_1_6 uw_2_133) rfl (by decide +kernel) rfl ⟨by decide, by decide⟩ (cIn_lo (by decide)) cSh_4 rfl rfl (Nat.le_of_ble_eq_true rfl) (fun τ1 hq1 => ?_)
  subst hq1
  refine gEx.top (v := .inl (nI (x 0))) (congrArg Sum.inl (((hc.2.1.2.2.2 i x hx).1 0 (by decide)).trans (pt0 x hx5))) ?_
  refine g_iconst (nI (3)) dX6_told_29 (by decide) ?_
  refine g_icmp_eq 35 dX6_told_30 (by decide) (fun h30 => ?_) (fun h30 => ?_)
  · skip
    rw [nI_eq (by omega) (by omega)] at h30
    exfalso; omega
  · skip
    rw [nI_eq (by omega) (by omega)] at h30
    refine g_iconst ((-1)) dX6_told_33 (by decide) ?_
    exact g_iret dX6_told_34 rfl (⟨rfl, rfl⟩)

set_option maxRecDepth 100000 in
/-- told: the ballot -/
theorem c_toldB {R A : Nat} (hRA : pRA R A) {s : pT} {σ : gSt} (hc : cRel R A s σ) (hlen : s.2.length ≤ 400) {i : Nat} {x : pMsg} (hx : s.2[i]? = some x) (hp : pMk R A x) {m : Nat} (hm : m < R) (hk : x 0 = 3) : gEM (cG R A) mX6_told 1 [.inr (0), .inl (nI (i)), .inl (nI (m)), .inl (nI (1))] σ (gR (pB (x (6 + m))) (fun τ => τ = σ)) := by
  obtain ⟨hR1, hR6, hA35⟩ := hRA
  have hA5 : A ≤ 5 := by omega
  have hi := (List.getElem?_eq_some_iff.mp hx).1
  have hx5 := hp.2.2.2.2.2.2.2
  have hv : x (6 + m) ≤ 6150 := (hp.2.2.2.2.1 hk).2.2.2 m
  refine gEM_of (by decide +kernel) rfl (Nat.le_of_ble_eq_true rfl) ?_
  refine g_iload_n dX6_told_0 rfl ?_
  refine g_aload_n dX6_told_1 rfl ?_
  refine g_getr (T := TX6) (N := 7) (Cn := RX6) (ref := "CommitCouncil") 3 dX6_told_2 (cIn_lo (by decide)) cSh_0 rfl (fun w h => List.mem_cons_of_mem _ (hU6 w h)) (by decide) (List.mem_cons_of_mem _ uw_1_161) (Or.inl rfl) rfl ?_
  refine g_get (T := TX3) (N := 4) (Cn := RX3) (ref := "CommitCouncil$Mail") 0 dX6_told_5 (cIn_lo (by decide)) cSh_4 rfl (fun w h => List.mem_cons_of_mem _ (hU3 w h)) (by decide) (List.mem_cons_of_mem _ uw_1_122) (Or.inl rfl) rfl ?_
  refine gEx.top (v := .inl (nI (s.2.length))) (congrArg Sum.inl (hc.2.1.1)) ?_
  refine g_callSv (n9 := 2) [.inl (nI (i)), .inl (nI (s.2.length))] [] (c_checkOk hi (by omega)) dX6_told_8 (gU_S uw_1_192 uw_1_193 uw_1_1 uw_1_194) rfl (by decide +kernel) rfl ⟨by decide, by decide⟩ rfl (Nat.le_of_ble_eq_true rfl) (fun σ1 hp1 => ?_)
  subst hp1
  refine g_iload_n dX6_told_11 rfl ?_
  refine g_aload_n dX6_told_12 rfl ?_
  refine g_getr (T := TX6) (N := 7) (Cn := RX6) (ref := "CommitCouncil") 0 dX6_told_13 (cIn_lo (by decide)) cSh_0 rfl (fun w h => List.mem_cons_of_mem _ (hU6 w h)) (by decide) (List.mem_cons_of_mem _ uw_1_158) (Or.inl rfl) rfl ?_
  refine g_alen (nI (R)) dX6_told_16 (cIn_lo (by decide)) cSh_1 (by decide) rfl ?_
  refine g_callSv (n9 := 2) [.inl (nI (m)), .inl (nI (R))] [] (c_checkOk hm (by omega)) dX6_told_17 (gU_S uw_1_192 uw_1_193 uw_1_1 uw_1_194) rfl (by decide +kernel) rfl ⟨by decide, by decide⟩ rfl (Nat.le_of_ble_eq_true rfl) (fun σ1 hp1 => ?_)
  subst hp1
  refine g_aload_n dX6_told_20 rfl ?_
  refine g_getr (T := TX6) (N := 7) (Cn := RX6) (ref := "CommitCouncil") 3 dX6_told_21 (cIn_lo (by decide)) cSh_0 rfl (fun w h => List.mem_cons_of_mem _ (hU6 w h)) (by decide) (List.mem_cons_of_mem _ uw_1_161) (Or.inl rfl) rfl ?_
  refine g_iload_n dX6_told_24 rfl ?_
  refine g_iconst (nI (0)) dX6_told_25 (by decide) ?_
  refine g_callVi (_) (n9 := 2) [.inl (nI (i)), .inl (nI (0))] [] (c_part hc.2.1.1 hc.2.1.2.2.1 hR6 (show i < s.2.length from hi) (by first | exact hlen | omega) (by decide)) dX6_told_26 (gU_V uw_2_130 uw_2_131 uw_2_132 uw_1_6 uw_2_133) rfl (by decide +kernel) rfl ⟨by decide, by decide⟩ (cIn_lo (by decide)) cSh_4 rfl rfl (Nat.le_of_ble_eq_true rfl) (fun τ1 hq1 => ?_)
  subst hq1
  refine gEx.top (v := .inl (nI (x 0))) (congrArg Sum.inl (((hc.2.1.2.2.2 i x hx).1 0 (by decide)).trans (pt0 x hx5))) ?_
  refine g_iconst (nI (3)) dX6_told_29 (by decide) ?_
  refine g_icmp_eq 35 dX6_told_30 (by decide) (fun h30 => ?_) (fun h30 => ?_)
  · skip
    rw [nI_eq (by omega) (by omega)] at h30
    refine g_aload_n dX6_told_35 rfl ?_
    refine g_getr (T := TX6) (N := 7) (Cn := RX6) (ref := "CommitCouncil") 3 dX6_told_36 (cIn_lo (by decide)) cSh_0 rfl (fun w h => List.mem_cons_of_mem _ (hU6 w h)) (by decide) (List.mem_cons_of_mem _ uw_1_161) (Or.inl rfl) rfl ?_
    refine g_iload_n dX6_told_39 rfl ?_
    refine g_iload_n dX6_told_40 rfl ?_
    refine g_callVi (_) (n9 := 2) [.inl (nI (i)), .inl (nI (m))] [] (c_tidings hc.2.1.1 hc.2.1.2.2.1 hR6 hi (by omega) hm) dX6_told_41 (gU_V uw_2_229 uw_2_230 uw_2_231 uw_1_6 uw_2_232) rfl (by decide +kernel) rfl ⟨by decide, by decide⟩ (cIn_lo (by decide)) cSh_4 rfl rfl (Nat.le_of_ble_eq_true rfl) (fun τ2 hq2 => ?_)
    subst hq2
    refine gEx.top (v := .inl (nI (x (6 + m)))) (congrArg Sum.inl ((hc.2.1.2.2.2 i x hx).2 hk m hm)) ?_
    refine g_istore dX6_told_44 (by decide) ?_
    refine g_iload_n dX6_told_46 rfl ?_
    refine g_if_eq 58 dX6_told_47 (by decide) (fun h47 => ?_) (fun h47 => ?_)
    · skip
      rw [nI_z (by omega)] at h47
      exfalso; omega
    · skip
      rw [nI_z (by omega)] at h47
      refine g_iload dX6_told_50 rfl ?_
      refine g_callSi (pB (x (6 + m))) (n9 := 1) [.inl (nI (x (6 + m)))] [] (c_ballotOf (by omega)) dX6_told_52 (gU_S uw_3_70 uw_2_150 uw_1_1 uw_2_151) rfl (by decide +kernel) rfl ⟨by decide, by decide⟩ rfl (Nat.le_of_ble_eq_true rfl) (fun τ3 hq3 => ?_)
      subst hq3
      refine g_goto 63 dX6_told_55 (by decide) ?_
      exact g_iret dX6_told_63 rfl (⟨rfl, rfl⟩)
  · skip
    rw [nI_eq (by omega) (by omega)] at h30
    exfalso; omega

set_option maxRecDepth 100000 in
/-- told: the word -/
theorem c_toldW {R A : Nat} (hRA : pRA R A) {s : pT} {σ : gSt} (hc : cRel R A s σ) (hlen : s.2.length ≤ 400) {i : Nat} {x : pMsg} (hx : s.2[i]? = some x) (hp : pMk R A x) {m : Nat} (hm : m < R) (hk : x 0 = 3) : gEM (cG R A) mX6_told 1 [.inr (0), .inl (nI (i)), .inl (nI (m)), .inl (nI (0))] σ (gR (nI (x (6 + m) % 4)) (fun τ => τ = σ)) := by
  obtain ⟨hR1, hR6, hA35⟩ := hRA
  have hA5 : A ≤ 5 := by omega
  have hi := (List.getElem?_eq_some_iff.mp hx).1
  have hx5 := hp.2.2.2.2.2.2.2
  have hv : x (6 + m) ≤ 6150 := (hp.2.2.2.2.1 hk).2.2.2 m
  refine gEM_of (by decide +kernel) rfl (Nat.le_of_ble_eq_true rfl) ?_
  refine g_iload_n dX6_told_0 rfl ?_
  refine g_aload_n dX6_told_1 rfl ?_
  refine g_getr (T := TX6) (N := 7) (Cn := RX6) (ref := "CommitCouncil") 3 dX6_told_2 (cIn_lo (by decide)) cSh_0 rfl (fun w h => List.mem_cons_of_mem _ (hU6 w h)) (by decide) (List.mem_cons_of_mem _ uw_1_161) (Or.inl rfl) rfl ?_
  refine g_get (T := TX3) (N := 4) (Cn := RX3) (ref := "CommitCouncil$Mail") 0 dX6_told_5 (cIn_lo (by decide)) cSh_4 rfl (fun w h => List.mem_cons_of_mem _ (hU3 w h)) (by decide) (List.mem_cons_of_mem _ uw_1_122) (Or.inl rfl) rfl ?_
  refine gEx.top (v := .inl (nI (s.2.length))) (congrArg Sum.inl (hc.2.1.1)) ?_
  refine g_callSv (n9 := 2) [.inl (nI (i)), .inl (nI (s.2.length))] [] (c_checkOk hi (by omega)) dX6_told_8 (gU_S uw_1_192 uw_1_193 uw_1_1 uw_1_194) rfl (by decide +kernel) rfl ⟨by decide, by decide⟩ rfl (Nat.le_of_ble_eq_true rfl) (fun σ1 hp1 => ?_)
  subst hp1
  refine g_iload_n dX6_told_11 rfl ?_
  refine g_aload_n dX6_told_12 rfl ?_
  refine g_getr (T := TX6) (N := 7) (Cn := RX6) (ref := "CommitCouncil") 0 dX6_told_13 (cIn_lo (by decide)) cSh_0 rfl (fun w h => List.mem_cons_of_mem _ (hU6 w h)) (by decide) (List.mem_cons_of_mem _ uw_1_158) (Or.inl rfl) rfl ?_
  refine g_alen (nI (R)) dX6_told_16 (cIn_lo (by decide)) cSh_1 (by decide) rfl ?_
  refine g_callSv (n9 := 2) [.inl (nI (m)), .inl (nI (R))] [] (c_checkOk hm (by omega)) dX6_told_17 (gU_S uw_1_192 uw_1_193 uw_1_1 uw_1_194) rfl (by decide +kernel) rfl ⟨by decide, by decide⟩ rfl (Nat.le_of_ble_eq_true rfl) (fun σ1 hp1 => ?_)
  subst hp1
  refine g_aload_n dX6_told_20 rfl ?_
  refine g_getr (T := TX6) (N := 7) (Cn := RX6) (ref := "CommitCouncil") 3 dX6_told_21 (cIn_lo (by decide)) cSh_0 rfl (fun w h => List.mem_cons_of_mem _ (hU6 w h)) (by decide) (List.mem_cons_of_mem _ uw_1_161) (Or.inl rfl) rfl ?_
  refine g_iload_n dX6_told_24 rfl ?_
  refine g_iconst (nI (0)) dX6_told_25 (by decide) ?_
  refine g_callVi (_) (n9 := 2) [.inl (nI (i)), .inl (nI (0))] [] (c_part hc.2.1.1 hc.2.1.2.2.1 hR6 (show i < s.2.length from hi) (by first | exact hlen | omega) (by decide)) dX6_told_26 (gU_V uw_2_130 uw_2_131 uw_2_132 uw_1_6 uw_2_133) rfl (by decide +kernel) rfl ⟨by decide, by decide⟩ (cIn_lo (by decide)) cSh_4 rfl rfl (Nat.le_of_ble_eq_true rfl) (fun τ1 hq1 => ?_)
  subst hq1
  refine gEx.top (v := .inl (nI (x 0))) (congrArg Sum.inl (((hc.2.1.2.2.2 i x hx).1 0 (by decide)).trans (pt0 x hx5))) ?_
  refine g_iconst (nI (3)) dX6_told_29 (by decide) ?_
  refine g_icmp_eq 35 dX6_told_30 (by decide) (fun h30 => ?_) (fun h30 => ?_)
  · skip
    rw [nI_eq (by omega) (by omega)] at h30
    refine g_aload_n dX6_told_35 rfl ?_
    refine g_getr (T := TX6) (N := 7) (Cn := RX6) (ref := "CommitCouncil") 3 dX6_told_36 (cIn_lo (by decide)) cSh_0 rfl (fun w h => List.mem_cons_of_mem _ (hU6 w h)) (by decide) (List.mem_cons_of_mem _ uw_1_161) (Or.inl rfl) rfl ?_
    refine g_iload_n dX6_told_39 rfl ?_
    refine g_iload_n dX6_told_40 rfl ?_
    refine g_callVi (_) (n9 := 2) [.inl (nI (i)), .inl (nI (m))] [] (c_tidings hc.2.1.1 hc.2.1.2.2.1 hR6 hi (by omega) hm) dX6_told_41 (gU_V uw_2_229 uw_2_230 uw_2_231 uw_1_6 uw_2_232) rfl (by decide +kernel) rfl ⟨by decide, by decide⟩ (cIn_lo (by decide)) cSh_4 rfl rfl (Nat.le_of_ble_eq_true rfl) (fun τ2 hq2 => ?_)
    subst hq2
    refine gEx.top (v := .inl (nI (x (6 + m)))) (congrArg Sum.inl ((hc.2.1.2.2.2 i x hx).2 hk m hm)) ?_
    refine g_istore dX6_told_44 (by decide) ?_
    refine g_iload_n dX6_told_46 rfl ?_
    refine g_if_eq 58 dX6_told_47 (by decide) (fun h47 => ?_) (fun h47 => ?_)
    · skip
      rw [nI_z (by omega)] at h47
      refine g_iload dX6_told_58 rfl ?_
      refine g_callSi (nI (x (6 + m) % 4)) (n9 := 1) [.inl (nI (x (6 + m)))] [] (c_wordOf (by omega)) dX6_told_60 (gU_S uw_2_237 uw_2_157 uw_1_1 uw_2_158) rfl (by decide +kernel) rfl ⟨by decide, by decide⟩ rfl (Nat.le_of_ble_eq_true rfl) (fun τ3 hq3 => ?_)
      subst hq3
      exact g_iret dX6_told_63 rfl (⟨rfl, rfl⟩)
    · skip
      rw [nI_z (by omega)] at h47
      exfalso; omega
  · skip
    rw [nI_eq (by omega) (by omega)] at h30
    exfalso; omega

set_option maxRecDepth 100000 in
/-- told -/
theorem c_toldX {R A : Nat} (hRA : pRA R A) {s : pT} {σ : gSt} (hc : cRel R A s σ) {z y f : Int32} (hz : z < 0 ∨ nI s.2.length ≤ z) : gEM (cG R A) mX6_told 1 [.inr (0), .inl (z), .inl (y), .inl (f)] σ (gX 0 (fun τ => τ = σ)) := by
  refine gEM_of (by decide +kernel) rfl (Nat.le_of_ble_eq_true rfl) ?_
  refine g_iload_n dX6_told_0 rfl ?_
  refine g_aload_n dX6_told_1 rfl ?_
  refine g_getr (T := TX6) (N := 7) (Cn := RX6) (ref := "CommitCouncil") 3 dX6_told_2 (cIn_lo (by decide)) cSh_0 rfl (fun w h => List.mem_cons_of_mem _ (hU6 w h)) (by decide) (List.mem_cons_of_mem _ uw_1_161) (Or.inl rfl) rfl ?_
  refine g_get (T := TX3) (N := 4) (Cn := RX3) (ref := "CommitCouncil$Mail") 0 dX6_told_5 (cIn_lo (by decide)) cSh_4 rfl (fun w h => List.mem_cons_of_mem _ (hU3 w h)) (by decide) (List.mem_cons_of_mem _ uw_1_122) (Or.inl rfl) rfl ?_
  refine gEx.top (v := .inl (nI (s.2.length))) (congrArg Sum.inl (hc.2.1.1)) ?_
  exact g_callSx 0 (n9 := 2) [.inl (z), .inl (nI (s.2.length))] [] (c_checkNo hz) dX6_told_8 (gU_S uw_1_192 uw_1_193 uw_1_1 uw_1_194) rfl (by decide +kernel) rfl ⟨by decide, by decide⟩ rfl (Nat.le_of_ble_eq_true rfl) (by decide) (fun σ9 hp9 => ⟨rfl, hp9⟩)

set_option maxRecDepth 100000 in
/-- told -/
theorem c_toldY {R A : Nat} (hRA : pRA R A) {s : pT} {σ : gSt} (hc : cRel R A s σ) (hlen : s.2.length ≤ 400) {i : Nat} (hi : i < s.2.length) {y f : Int32} (hy : y < 0 ∨ nI R ≤ y) : gEM (cG R A) mX6_told 1 [.inr (0), .inl (nI (i)), .inl (y), .inl (f)] σ (gX 0 (fun τ => τ = σ)) := by
  refine gEM_of (by decide +kernel) rfl (Nat.le_of_ble_eq_true rfl) ?_
  refine g_iload_n dX6_told_0 rfl ?_
  refine g_aload_n dX6_told_1 rfl ?_
  refine g_getr (T := TX6) (N := 7) (Cn := RX6) (ref := "CommitCouncil") 3 dX6_told_2 (cIn_lo (by decide)) cSh_0 rfl (fun w h => List.mem_cons_of_mem _ (hU6 w h)) (by decide) (List.mem_cons_of_mem _ uw_1_161) (Or.inl rfl) rfl ?_
  refine g_get (T := TX3) (N := 4) (Cn := RX3) (ref := "CommitCouncil$Mail") 0 dX6_told_5 (cIn_lo (by decide)) cSh_4 rfl (fun w h => List.mem_cons_of_mem _ (hU3 w h)) (by decide) (List.mem_cons_of_mem _ uw_1_122) (Or.inl rfl) rfl ?_
  refine gEx.top (v := .inl (nI (s.2.length))) (congrArg Sum.inl (hc.2.1.1)) ?_
  refine g_callSv (n9 := 2) [.inl (nI (i)), .inl (nI (s.2.length))] [] (c_checkOk hi (by omega)) dX6_told_8 (gU_S uw_1_192 uw_1_193 uw_1_1 uw_1_194) rfl (by decide +kernel) rfl ⟨by decide, by decide⟩ rfl (Nat.le_of_ble_eq_true rfl) (fun σ1 hp1 => ?_)
  subst hp1
  refine g_iload_n dX6_told_11 rfl ?_
  refine g_aload_n dX6_told_12 rfl ?_
  refine g_getr (T := TX6) (N := 7) (Cn := RX6) (ref := "CommitCouncil") 0 dX6_told_13 (cIn_lo (by decide)) cSh_0 rfl (fun w h => List.mem_cons_of_mem _ (hU6 w h)) (by decide) (List.mem_cons_of_mem _ uw_1_158) (Or.inl rfl) rfl ?_
  refine g_alen (nI (R)) dX6_told_16 (cIn_lo (by decide)) cSh_1 (by decide) rfl ?_
  exact g_callSx 0 (n9 := 2) [.inl (y), .inl (nI (R))] [] (c_checkNo hy) dX6_told_17 (gU_S uw_1_192 uw_1_193 uw_1_1 uw_1_194) rfl (by decide +kernel) rfl ⟨by decide, by decide⟩ rfl (Nat.le_of_ble_eq_true rfl) (by decide) (fun σ9 hp9 => ⟨rfl, hp9⟩)

set_option maxRecDepth 100000 in
/-- manager -/
theorem c_man0 {R A : Nat} (hRA : pRA R A) {s : pT} {σ : gSt} (hc : cRel R A s σ) (hb : pBu s.1) {m : Nat} (hm : m < R) : gEM (cG R A) mX6_manager 1 [.inr (0), .inl (nI (m)), .inl (nI (0))] σ (gR (nI (s.1 3 m 0)) (fun τ => τ = σ)) := by
  obtain ⟨hR1, hR6, hA35⟩ := hRA
  have hA5 : A ≤ 5 := by omega
  have hbd := pBu_bd (R := R) (A := A) hb
  refine gEM_of (by decide +kernel) rfl (Nat.le_of_ble_eq_true rfl) ?_
  refine g_iload_n dX6_manager_0 rfl ?_
  refine g_aload_n dX6_manager_1 rfl ?_
  refine g_getr (T := TX6) (N := 7) (Cn := RX6) (ref := "CommitCouncil") 0 dX6_manager_2 (cIn_lo (by decide)) cSh_0 rfl (fun w h => List.mem_cons_of_mem _ (hU6 w h)) (by decide) (List.mem_cons_of_mem _ uw_1_158) (Or.inl rfl) rfl ?_
  refine g_alen (nI (R)) dX6_manager_5 (cIn_lo (by decide)) cSh_1 (by decide) rfl ?_
  refine g_callSv (n9 := 2) [.inl (nI (m)), .inl (nI (R))] [] (c_checkOk hm (by omega)) dX6_manager_6 (gU_S uw_1_192 uw_1_193 uw_1_1 uw_1_194) rfl (by decide +kernel) rfl ⟨by decide, by decide⟩ rfl (Nat.le_of_ble_eq_true rfl) (fun σ1 hp1 => ?_)
  subst hp1
  refine g_aload_n dX6_manager_9 rfl ?_
  refine g_getr (T := TX6) (N := 7) (Cn := RX6) (ref := "CommitCouncil") 0 dX6_manager_10 (cIn_lo (by decide)) cSh_0 rfl (fun w h => List.mem_cons_of_mem _ (hU6 w h)) (by decide) (List.mem_cons_of_mem _ uw_1_158) (Or.inl rfl) rfl ?_
  refine g_iload_n dX6_manager_13 rfl ?_
  refine g_aald4N (n := R) (j := m) dX6_manager_14 (cIn_lo (by decide)) cSh_1 hm (by omega) ?_
  refine g_astore_n dX6_manager_15 (by decide) ?_
  refine g_iload_n dX6_manager_16 rfl ?_
  refine g_lookup (off := 27) 44 dX6_manager_17 (by decide) (by decide) (by decide) ?_
  refine g_aload_n dX6_manager_44 rfl ?_
  refine g_get (T := TX4) (N := 3) (Cn := RX4) (ref := "CommitCouncil$Manager") 1 dX6_manager_45 (cIn_m hm) (cSh_m (by omega)) rfl (fun w h => List.mem_cons_of_mem _ (hU4 w h)) (by decide) (List.mem_cons_of_mem _ uw_1_37) (Or.inl rfl) rfl ?_
  refine gEx.top (v := .inl (nI (s.1 3 m 0))) (congrArg Sum.inl ((hc.2.2.2.1 m hm).2.1)) ?_
  exact g_iret dX6_manager_48 rfl (⟨rfl, rfl⟩)

set_option maxRecDepth 100000 in
/-- manager -/
theorem c_man1 {R A : Nat} (hRA : pRA R A) {s : pT} {σ : gSt} (hc : cRel R A s σ) (hb : pBu s.1) {m : Nat} (hm : m < R) : gEM (cG R A) mX6_manager 1 [.inr (0), .inl (nI (m)), .inl (nI (1))] σ (gR (nI (s.1 2 0 m)) (fun τ => τ = σ)) := by
  obtain ⟨hR1, hR6, hA35⟩ := hRA
  have hA5 : A ≤ 5 := by omega
  have hbd := pBu_bd (R := R) (A := A) hb
  have h2 := hbd.1 0 m
  refine gEM_of (by decide +kernel) rfl (Nat.le_of_ble_eq_true rfl) ?_
  refine g_iload_n dX6_manager_0 rfl ?_
  refine g_aload_n dX6_manager_1 rfl ?_
  refine g_getr (T := TX6) (N := 7) (Cn := RX6) (ref := "CommitCouncil") 0 dX6_manager_2 (cIn_lo (by decide)) cSh_0 rfl (fun w h => List.mem_cons_of_mem _ (hU6 w h)) (by decide) (List.mem_cons_of_mem _ uw_1_158) (Or.inl rfl) rfl ?_
  refine g_alen (nI (R)) dX6_manager_5 (cIn_lo (by decide)) cSh_1 (by decide) rfl ?_
  refine g_callSv (n9 := 2) [.inl (nI (m)), .inl (nI (R))] [] (c_checkOk hm (by omega)) dX6_manager_6 (gU_S uw_1_192 uw_1_193 uw_1_1 uw_1_194) rfl (by decide +kernel) rfl ⟨by decide, by decide⟩ rfl (Nat.le_of_ble_eq_true rfl) (fun σ1 hp1 => ?_)
  subst hp1
  refine g_aload_n dX6_manager_9 rfl ?_
  refine g_getr (T := TX6) (N := 7) (Cn := RX6) (ref := "CommitCouncil") 0 dX6_manager_10 (cIn_lo (by decide)) cSh_0 rfl (fun w h => List.mem_cons_of_mem _ (hU6 w h)) (by decide) (List.mem_cons_of_mem _ uw_1_158) (Or.inl rfl) rfl ?_
  refine g_iload_n dX6_manager_13 rfl ?_
  refine g_aald4N (n := R) (j := m) dX6_manager_14 (cIn_lo (by decide)) cSh_1 hm (by omega) ?_
  refine g_astore_n dX6_manager_15 (by decide) ?_
  refine g_iload_n dX6_manager_16 rfl ?_
  refine g_lookup (off := 32) 49 dX6_manager_17 (by decide) (by decide) (by decide) ?_
  refine g_aload_n dX6_manager_49 rfl ?_
  refine g_get (T := TX4) (N := 3) (Cn := RX4) (ref := "CommitCouncil$Manager") 0 dX6_manager_50 (cIn_m hm) (cSh_m (by omega)) rfl (fun w h => List.mem_cons_of_mem _ (hU4 w h)) (by decide) (List.mem_cons_of_mem _ uw_1_40) (Or.inr (List.mem_cons_of_mem _ uw_1_41)) rfl ?_
  refine gEx.top (v := .inl (nI (s.1 2 0 m))) (congrArg Sum.inl ((hc.2.2.2.1 m hm).1)) ?_
  refine g_if_eq 60 dX6_manager_53 (by decide) (fun h53 => ?_) (fun h53 => ?_)
  · skip
    rw [nI_z (by omega)] at h53
    refine g_iconst (nI (0)) dX6_manager_60 (by decide) ?_
    exact g_iret dX6_manager_61 rfl (⟨by rw [show s.1 2 0 m = 0 by omega], rfl⟩)
  · skip
    rw [nI_z (by omega)] at h53
    refine g_iconst (nI (1)) dX6_manager_56 (by decide) ?_
    refine g_goto 61 dX6_manager_57 (by decide) ?_
    exact g_iret dX6_manager_61 rfl (⟨by rw [show s.1 2 0 m = 1 by omega], rfl⟩)

theorem lk_out2 {y : Int32} {a b c : Int} (hy : y < 0 ∨ nI 2 ≤ y) : Op.lookupswitch.offset [(0, a), (1, b)] c y.toInt = c := by
  have h := sw_out (n := 1) (by decide) hy
  rw [Op.lookupswitch.offset_cons, if_neg (by omega), Op.lookupswitch.offset_cons, if_neg (by omega)]
  rfl

set_option maxRecDepth 100000 in
/-- manager -/
theorem c_manN {R A : Nat} (hRA : pRA R A) {s : pT} {σ : gSt} (hc : cRel R A s σ) (hb : pBu s.1) {m : Nat} (hm : m < R) {y : Int32} (hy : y < 0 ∨ nI 2 ≤ y) : gEM (cG R A) mX6_manager 1 [.inr (0), .inl (nI (m)), .inl (y)] σ (gR (-1) (fun τ => τ = σ)) := by
  obtain ⟨hR1, hR6, hA35⟩ := hRA
  have hA5 : A ≤ 5 := by omega
  have hbd := pBu_bd (R := R) (A := A) hb
  refine gEM_of (by decide +kernel) rfl (Nat.le_of_ble_eq_true rfl) ?_
  refine g_iload_n dX6_manager_0 rfl ?_
  refine g_aload_n dX6_manager_1 rfl ?_
  refine g_getr (T := TX6) (N := 7) (Cn := RX6) (ref := "CommitCouncil") 0 dX6_manager_2 (cIn_lo (by decide)) cSh_0 rfl (fun w h => List.mem_cons_of_mem _ (hU6 w h)) (by decide) (List.mem_cons_of_mem _ uw_1_158) (Or.inl rfl) rfl ?_
  refine g_alen (nI (R)) dX6_manager_5 (cIn_lo (by decide)) cSh_1 (by decide) rfl ?_
  refine g_callSv (n9 := 2) [.inl (nI (m)), .inl (nI (R))] [] (c_checkOk hm (by omega)) dX6_manager_6 (gU_S uw_1_192 uw_1_193 uw_1_1 uw_1_194) rfl (by decide +kernel) rfl ⟨by decide, by decide⟩ rfl (Nat.le_of_ble_eq_true rfl) (fun σ1 hp1 => ?_)
  subst hp1
  refine g_aload_n dX6_manager_9 rfl ?_
  refine g_getr (T := TX6) (N := 7) (Cn := RX6) (ref := "CommitCouncil") 0 dX6_manager_10 (cIn_lo (by decide)) cSh_0 rfl (fun w h => List.mem_cons_of_mem _ (hU6 w h)) (by decide) (List.mem_cons_of_mem _ uw_1_158) (Or.inl rfl) rfl ?_
  refine g_iload_n dX6_manager_13 rfl ?_
  refine g_aald4N (n := R) (j := m) dX6_manager_14 (cIn_lo (by decide)) cSh_1 hm (by omega) ?_
  refine g_astore_n dX6_manager_15 (by decide) ?_
  refine g_iload_n dX6_manager_16 rfl ?_
  refine g_lookup (off := 45) 62 dX6_manager_17 (by decide) (lk_out2 hy) (by decide) ?_
  refine g_iconst ((-1)) dX6_manager_62 (by decide) ?_
  exact g_iret dX6_manager_63 rfl (⟨rfl, rfl⟩)

set_option maxRecDepth 100000 in
/-- manager -/
theorem c_manX {R A : Nat} (hRA : pRA R A) {σ : gSt} {z y : Int32} (hz : z < 0 ∨ nI R ≤ z) : gEM (cG R A) mX6_manager 1 [.inr (0), .inl (z), .inl (y)] σ (gX 0 (fun τ => τ = σ)) := by
  refine gEM_of (by decide +kernel) rfl (Nat.le_of_ble_eq_true rfl) ?_
  refine g_iload_n dX6_manager_0 rfl ?_
  refine g_aload_n dX6_manager_1 rfl ?_
  refine g_getr (T := TX6) (N := 7) (Cn := RX6) (ref := "CommitCouncil") 0 dX6_manager_2 (cIn_lo (by decide)) cSh_0 rfl (fun w h => List.mem_cons_of_mem _ (hU6 w h)) (by decide) (List.mem_cons_of_mem _ uw_1_158) (Or.inl rfl) rfl ?_
  refine g_alen (nI (R)) dX6_manager_5 (cIn_lo (by decide)) cSh_1 (by decide) rfl ?_
  exact g_callSx 0 (n9 := 2) [.inl (z), .inl (nI (R))] [] (c_checkNo hz) dX6_manager_6 (gU_S uw_1_192 uw_1_193 uw_1_1 uw_1_194) rfl (by decide +kernel) rfl ⟨by decide, by decide⟩ rfl (Nat.le_of_ble_eq_true rfl) (by decide) (fun σ9 hp9 => ⟨rfl, hp9⟩)

set_option maxRecDepth 100000 in
/-- acceptor -/
theorem c_acc0 {R A : Nat} (hRA : pRA R A) {s : pT} {σ : gSt} (hc : cRel R A s σ) (hb : pBu s.1) {a m : Nat} (ha : a < A) (hm : m < R) : gEM (cG R A) mX6_acceptor 1 [.inr (0), .inl (nI (a)), .inl (nI (m)), .inl (nI (0))] σ (gR (nI (s.1 5 a 0)) (fun τ => τ = σ)) := by
  obtain ⟨hR1, hR6, hA35⟩ := hRA
  have hA5 : A ≤ 5 := by omega
  have hbd := pBu_bd (R := R) (A := A) hb
  have h2 := hbd.1 1 a
  have h6 := hbd.2.2.2.2.1 a m
  refine gEM_of (by decide +kernel) rfl (Nat.le_of_ble_eq_true rfl) ?_
  refine g_iload_n dX6_acceptor_0 rfl ?_
  refine g_aload_n dX6_acceptor_1 rfl ?_
  refine g_getr (T := TX6) (N := 7) (Cn := RX6) (ref := "CommitCouncil") 1 dX6_acceptor_2 (cIn_lo (by decide)) cSh_0 rfl (fun w h => List.mem_cons_of_mem _ (hU6 w h)) (by decide) (List.mem_cons_of_mem _ uw_1_159) (Or.inl rfl) rfl ?_
  refine g_alen (nI (A)) dX6_acceptor_5 (cIn_lo (by decide)) cSh_2 (by decide) rfl ?_
  refine g_callSv (n9 := 2) [.inl (nI (a)), .inl (nI (A))] [] (c_checkOk ha (by omega)) dX6_acceptor_6 (gU_S uw_1_192 uw_1_193 uw_1_1 uw_1_194) rfl (by decide +kernel) rfl ⟨by decide, by decide⟩ rfl (Nat.le_of_ble_eq_true rfl) (fun σ1 hp1 => ?_)
  subst hp1
  refine g_iload_n dX6_acceptor_9 rfl ?_
  refine g_aload_n dX6_acceptor_10 rfl ?_
  refine g_getr (T := TX6) (N := 7) (Cn := RX6) (ref := "CommitCouncil") 0 dX6_acceptor_11 (cIn_lo (by decide)) cSh_0 rfl (fun w h => List.mem_cons_of_mem _ (hU6 w h)) (by decide) (List.mem_cons_of_mem _ uw_1_158) (Or.inl rfl) rfl ?_
  refine g_alen (nI (R)) dX6_acceptor_14 (cIn_lo (by decide)) cSh_1 (by decide) rfl ?_
  refine g_callSv (n9 := 2) [.inl (nI (m)), .inl (nI (R))] [] (c_checkOk hm (by omega)) dX6_acceptor_15 (gU_S uw_1_192 uw_1_193 uw_1_1 uw_1_194) rfl (by decide +kernel) rfl ⟨by decide, by decide⟩ rfl (Nat.le_of_ble_eq_true rfl) (fun σ1 hp1 => ?_)
  subst hp1
  refine g_aload_n dX6_acceptor_18 rfl ?_
  refine g_getr (T := TX6) (N := 7) (Cn := RX6) (ref := "CommitCouncil") 1 dX6_acceptor_19 (cIn_lo (by decide)) cSh_0 rfl (fun w h => List.mem_cons_of_mem _ (hU6 w h)) (by decide) (List.mem_cons_of_mem _ uw_1_159) (Or.inl rfl) rfl ?_
  refine g_iload_n dX6_acceptor_22 rfl ?_
  refine g_aald2N (n := A) (j := a) dX6_acceptor_23 (cIn_lo (by decide)) cSh_2 ha (by omega) ?_
  refine g_astore dX6_acceptor_24 (by decide) ?_
  refine g_iload_n dX6_acceptor_26 rfl ?_
  refine g_tableIn (off := 29) 56 dX6_acceptor_27 (by decide) (by decide) (by decide) (by decide) ?_
  refine g_aload dX6_acceptor_56 rfl ?_
  refine g_get (T := TX0) (N := 3) (Cn := RX0) (ref := "CommitCouncil$Acceptor") 1 dX6_acceptor_58 (cIn_a ha) (cSh_a (by omega)) rfl (fun w h => List.mem_cons_of_mem _ (hU0 w h)) (by decide) (List.mem_cons_of_mem _ uw_1_62) (Or.inl rfl) rfl ?_
  refine gEx.top (v := .inl (nI (s.1 5 a 0))) (congrArg Sum.inl ((hc.2.2.2.2.1 a ha).2.1)) ?_
  exact g_iret dX6_acceptor_61 rfl (⟨rfl, rfl⟩)

set_option maxRecDepth 100000 in
/-- acceptor -/
theorem c_acc1 {R A : Nat} (hRA : pRA R A) {s : pT} {σ : gSt} (hc : cRel R A s σ) (hb : pBu s.1) {a m : Nat} (ha : a < A) (hm : m < R) : gEM (cG R A) mX6_acceptor 1 [.inr (0), .inl (nI (a)), .inl (nI (m)), .inl (nI (1))] σ (gR (nI (s.1 2 1 a)) (fun τ => τ = σ)) := by
  obtain ⟨hR1, hR6, hA35⟩ := hRA
  have hA5 : A ≤ 5 := by omega
  have hbd := pBu_bd (R := R) (A := A) hb
  have h2 := hbd.1 1 a
  have h6 := hbd.2.2.2.2.1 a m
  refine gEM_of (by decide +kernel) rfl (Nat.le_of_ble_eq_true rfl) ?_
  refine g_iload_n dX6_acceptor_0 rfl ?_
  refine g_aload_n dX6_acceptor_1 rfl ?_
  refine g_getr (T := TX6) (N := 7) (Cn := RX6) (ref := "CommitCouncil") 1 dX6_acceptor_2 (cIn_lo (by decide)) cSh_0 rfl (fun w h => List.mem_cons_of_mem _ (hU6 w h)) (by decide) (List.mem_cons_of_mem _ uw_1_159) (Or.inl rfl) rfl ?_
  refine g_alen (nI (A)) dX6_acceptor_5 (cIn_lo (by decide)) cSh_2 (by decide) rfl ?_
  refine g_callSv (n9 := 2) [.inl (nI (a)), .inl (nI (A))] [] (c_checkOk ha (by omega)) dX6_acceptor_6 (gU_S uw_1_192 uw_1_193 uw_1_1 uw_1_194) rfl (by decide +kernel) rfl ⟨by decide, by decide⟩ rfl (Nat.le_of_ble_eq_true rfl) (fun σ1 hp1 => ?_)
  subst hp1
  refine g_iload_n dX6_acceptor_9 rfl ?_
  refine g_aload_n dX6_acceptor_10 rfl ?_
  refine g_getr (T := TX6) (N := 7) (Cn := RX6) (ref := "CommitCouncil") 0 dX6_acceptor_11 (cIn_lo (by decide)) cSh_0 rfl (fun w h => List.mem_cons_of_mem _ (hU6 w h)) (by decide) (List.mem_cons_of_mem _ uw_1_158) (Or.inl rfl) rfl ?_
  refine g_alen (nI (R)) dX6_acceptor_14 (cIn_lo (by decide)) cSh_1 (by decide) rfl ?_
  refine g_callSv (n9 := 2) [.inl (nI (m)), .inl (nI (R))] [] (c_checkOk hm (by omega)) dX6_acceptor_15 (gU_S uw_1_192 uw_1_193 uw_1_1 uw_1_194) rfl (by decide +kernel) rfl ⟨by decide, by decide⟩ rfl (Nat.le_of_ble_eq_true rfl) (fun σ1 hp1 => ?_)
  subst hp1
  refine g_aload_n dX6_acceptor_18 rfl ?_
  refine g_getr (T := TX6) (N := 7) (Cn := RX6) (ref := "CommitCouncil") 1 dX6_acceptor_19 (cIn_lo (by decide)) cSh_0 rfl (fun w h => List.mem_cons_of_mem _ (hU6 w h)) (by decide) (List.mem_cons_of_mem _ uw_1_159) (Or.inl rfl) rfl ?_
  refine g_iload_n dX6_acceptor_22 rfl ?_
  refine g_aald2N (n := A) (j := a) dX6_acceptor_23 (cIn_lo (by decide)) cSh_2 ha (by omega) ?_
  refine g_astore dX6_acceptor_24 (by decide) ?_
  refine g_iload_n dX6_acceptor_26 rfl ?_
  refine g_tableIn (off := 35) 62 dX6_acceptor_27 (by decide) (by decide) (by decide) (by decide) ?_
  refine g_aload dX6_acceptor_62 rfl ?_
  refine g_get (T := TX0) (N := 3) (Cn := RX0) (ref := "CommitCouncil$Acceptor") 0 dX6_acceptor_64 (cIn_a ha) (cSh_a (by omega)) rfl (fun w h => List.mem_cons_of_mem _ (hU0 w h)) (by decide) (List.mem_cons_of_mem _ uw_1_45) (Or.inr (List.mem_cons_of_mem _ uw_1_46)) rfl ?_
  refine gEx.top (v := .inl (nI (s.1 2 1 a))) (congrArg Sum.inl ((hc.2.2.2.2.1 a ha).1)) ?_
  refine g_if_eq 74 dX6_acceptor_67 (by decide) (fun h67 => ?_) (fun h67 => ?_)
  · skip
    rw [nI_z (by omega)] at h67
    refine g_iconst (nI (0)) dX6_acceptor_74 (by decide) ?_
    exact g_iret dX6_acceptor_75 rfl (⟨by rw [show s.1 2 1 a = 0 by omega], rfl⟩)
  · skip
    rw [nI_z (by omega)] at h67
    refine g_iconst (nI (1)) dX6_acceptor_70 (by decide) ?_
    refine g_goto 75 dX6_acceptor_71 (by decide) ?_
    exact g_iret dX6_acceptor_75 rfl (⟨by rw [show s.1 2 1 a = 1 by omega], rfl⟩)

set_option maxRecDepth 100000 in
/-- acceptor -/
theorem c_acc2 {R A : Nat} (hRA : pRA R A) {s : pT} {σ : gSt} (hc : cRel R A s σ) (hb : pBu s.1) {a m : Nat} (ha : a < A) (hm : m < R) : gEM (cG R A) mX6_acceptor 1 [.inr (0), .inl (nI (a)), .inl (nI (m)), .inl (nI (2))] σ (gR (pB (s.1 6 a m)) (fun τ => τ = σ)) := by
  obtain ⟨hR1, hR6, hA35⟩ := hRA
  have hA5 : A ≤ 5 := by omega
  have hbd := pBu_bd (R := R) (A := A) hb
  have h2 := hbd.1 1 a
  have h6 := hbd.2.2.2.2.1 a m
  refine gEM_of (by decide +kernel) rfl (Nat.le_of_ble_eq_true rfl) ?_
  refine g_iload_n dX6_acceptor_0 rfl ?_
  refine g_aload_n dX6_acceptor_1 rfl ?_
  refine g_getr (T := TX6) (N := 7) (Cn := RX6) (ref := "CommitCouncil") 1 dX6_acceptor_2 (cIn_lo (by decide)) cSh_0 rfl (fun w h => List.mem_cons_of_mem _ (hU6 w h)) (by decide) (List.mem_cons_of_mem _ uw_1_159) (Or.inl rfl) rfl ?_
  refine g_alen (nI (A)) dX6_acceptor_5 (cIn_lo (by decide)) cSh_2 (by decide) rfl ?_
  refine g_callSv (n9 := 2) [.inl (nI (a)), .inl (nI (A))] [] (c_checkOk ha (by omega)) dX6_acceptor_6 (gU_S uw_1_192 uw_1_193 uw_1_1 uw_1_194) rfl (by decide +kernel) rfl ⟨by decide, by decide⟩ rfl (Nat.le_of_ble_eq_true rfl) (fun σ1 hp1 => ?_)
  subst hp1
  refine g_iload_n dX6_acceptor_9 rfl ?_
  refine g_aload_n dX6_acceptor_10 rfl ?_
  refine g_getr (T := TX6) (N := 7) (Cn := RX6) (ref := "CommitCouncil") 0 dX6_acceptor_11 (cIn_lo (by decide)) cSh_0 rfl (fun w h => List.mem_cons_of_mem _ (hU6 w h)) (by decide) (List.mem_cons_of_mem _ uw_1_158) (Or.inl rfl) rfl ?_
  refine g_alen (nI (R)) dX6_acceptor_14 (cIn_lo (by decide)) cSh_1 (by decide) rfl ?_
  refine g_callSv (n9 := 2) [.inl (nI (m)), .inl (nI (R))] [] (c_checkOk hm (by omega)) dX6_acceptor_15 (gU_S uw_1_192 uw_1_193 uw_1_1 uw_1_194) rfl (by decide +kernel) rfl ⟨by decide, by decide⟩ rfl (Nat.le_of_ble_eq_true rfl) (fun σ1 hp1 => ?_)
  subst hp1
  refine g_aload_n dX6_acceptor_18 rfl ?_
  refine g_getr (T := TX6) (N := 7) (Cn := RX6) (ref := "CommitCouncil") 1 dX6_acceptor_19 (cIn_lo (by decide)) cSh_0 rfl (fun w h => List.mem_cons_of_mem _ (hU6 w h)) (by decide) (List.mem_cons_of_mem _ uw_1_159) (Or.inl rfl) rfl ?_
  refine g_iload_n dX6_acceptor_22 rfl ?_
  refine g_aald2N (n := A) (j := a) dX6_acceptor_23 (cIn_lo (by decide)) cSh_2 ha (by omega) ?_
  refine g_astore dX6_acceptor_24 (by decide) ?_
  refine g_iload_n dX6_acceptor_26 rfl ?_
  refine g_tableIn (off := 49) 76 dX6_acceptor_27 (by decide) (by decide) (by decide) (by decide) ?_
  refine g_aload dX6_acceptor_76 rfl ?_
  refine g_getr (T := TX0) (N := 3) (Cn := RX0) (ref := "CommitCouncil$Acceptor") 2 dX6_acceptor_78 (cIn_a ha) (cSh_a (by omega)) rfl (fun w h => List.mem_cons_of_mem _ (hU0 w h)) (by decide) (List.mem_cons_of_mem _ uw_1_64) (Or.inl rfl) rfl ?_
  refine g_iload_n dX6_acceptor_81 rfl ?_
  refine g_ialdN (n := R) (j := m) dX6_acceptor_82 (cIn_b ha) (cSh_b (by omega)) (hm) (by omega) ?_
  refine gEx.top (v := .inl (nI (s.1 6 a (m)))) (congrArg Sum.inl ((hc.2.2.2.2.1 a ha).2.2 (m) (by omega))) ?_
  refine g_callSi (pB (s.1 6 a m)) (n9 := 1) [.inl (nI (s.1 6 a (m)))] [] (c_ballotOf (by omega)) dX6_acceptor_83 (gU_S uw_3_70 uw_2_150 uw_1_1 uw_2_151) rfl (by decide +kernel) rfl ⟨by decide, by decide⟩ rfl (Nat.le_of_ble_eq_true rfl) (fun τ3 hq3 => ?_)
  subst hq3
  exact g_iret dX6_acceptor_86 rfl (⟨rfl, rfl⟩)

set_option maxRecDepth 100000 in
/-- acceptor -/
theorem c_acc3 {R A : Nat} (hRA : pRA R A) {s : pT} {σ : gSt} (hc : cRel R A s σ) (hb : pBu s.1) {a m : Nat} (ha : a < A) (hm : m < R) : gEM (cG R A) mX6_acceptor 1 [.inr (0), .inl (nI (a)), .inl (nI (m)), .inl (nI (3))] σ (gR (nI (s.1 6 a m % 4)) (fun τ => τ = σ)) := by
  obtain ⟨hR1, hR6, hA35⟩ := hRA
  have hA5 : A ≤ 5 := by omega
  have hbd := pBu_bd (R := R) (A := A) hb
  have h2 := hbd.1 1 a
  have h6 := hbd.2.2.2.2.1 a m
  refine gEM_of (by decide +kernel) rfl (Nat.le_of_ble_eq_true rfl) ?_
  refine g_iload_n dX6_acceptor_0 rfl ?_
  refine g_aload_n dX6_acceptor_1 rfl ?_
  refine g_getr (T := TX6) (N := 7) (Cn := RX6) (ref := "CommitCouncil") 1 dX6_acceptor_2 (cIn_lo (by decide)) cSh_0 rfl (fun w h => List.mem_cons_of_mem _ (hU6 w h)) (by decide) (List.mem_cons_of_mem _ uw_1_159) (Or.inl rfl) rfl ?_
  refine g_alen (nI (A)) dX6_acceptor_5 (cIn_lo (by decide)) cSh_2 (by decide) rfl ?_
  refine g_callSv (n9 := 2) [.inl (nI (a)), .inl (nI (A))] [] (c_checkOk ha (by omega)) dX6_acceptor_6 (gU_S uw_1_192 uw_1_193 uw_1_1 uw_1_194) rfl (by decide +kernel) rfl ⟨by decide, by decide⟩ rfl (Nat.le_of_ble_eq_true rfl) (fun σ1 hp1 => ?_)
  subst hp1
  refine g_iload_n dX6_acceptor_9 rfl ?_
  refine g_aload_n dX6_acceptor_10 rfl ?_
  refine g_getr (T := TX6) (N := 7) (Cn := RX6) (ref := "CommitCouncil") 0 dX6_acceptor_11 (cIn_lo (by decide)) cSh_0 rfl (fun w h => List.mem_cons_of_mem _ (hU6 w h)) (by decide) (List.mem_cons_of_mem _ uw_1_158) (Or.inl rfl) rfl ?_
  refine g_alen (nI (R)) dX6_acceptor_14 (cIn_lo (by decide)) cSh_1 (by decide) rfl ?_
  refine g_callSv (n9 := 2) [.inl (nI (m)), .inl (nI (R))] [] (c_checkOk hm (by omega)) dX6_acceptor_15 (gU_S uw_1_192 uw_1_193 uw_1_1 uw_1_194) rfl (by decide +kernel) rfl ⟨by decide, by decide⟩ rfl (Nat.le_of_ble_eq_true rfl) (fun σ1 hp1 => ?_)
  subst hp1
  refine g_aload_n dX6_acceptor_18 rfl ?_
  refine g_getr (T := TX6) (N := 7) (Cn := RX6) (ref := "CommitCouncil") 1 dX6_acceptor_19 (cIn_lo (by decide)) cSh_0 rfl (fun w h => List.mem_cons_of_mem _ (hU6 w h)) (by decide) (List.mem_cons_of_mem _ uw_1_159) (Or.inl rfl) rfl ?_
  refine g_iload_n dX6_acceptor_22 rfl ?_
  refine g_aald2N (n := A) (j := a) dX6_acceptor_23 (cIn_lo (by decide)) cSh_2 ha (by omega) ?_
  refine g_astore dX6_acceptor_24 (by decide) ?_
  refine g_iload_n dX6_acceptor_26 rfl ?_
  refine g_tableIn (off := 60) 87 dX6_acceptor_27 (by decide) (by decide) (by decide) (by decide) ?_
  refine g_aload dX6_acceptor_87 rfl ?_
  refine g_getr (T := TX0) (N := 3) (Cn := RX0) (ref := "CommitCouncil$Acceptor") 2 dX6_acceptor_89 (cIn_a ha) (cSh_a (by omega)) rfl (fun w h => List.mem_cons_of_mem _ (hU0 w h)) (by decide) (List.mem_cons_of_mem _ uw_1_64) (Or.inl rfl) rfl ?_
  refine g_iload_n dX6_acceptor_92 rfl ?_
  refine g_ialdN (n := R) (j := m) dX6_acceptor_93 (cIn_b ha) (cSh_b (by omega)) (hm) (by omega) ?_
  refine gEx.top (v := .inl (nI (s.1 6 a (m)))) (congrArg Sum.inl ((hc.2.2.2.2.1 a ha).2.2 (m) (by omega))) ?_
  refine g_callSi (nI (s.1 6 a m % 4)) (n9 := 1) [.inl (nI (s.1 6 a (m)))] [] (c_wordOf (by omega)) dX6_acceptor_94 (gU_S uw_2_237 uw_2_157 uw_1_1 uw_2_158) rfl (by decide +kernel) rfl ⟨by decide, by decide⟩ rfl (Nat.le_of_ble_eq_true rfl) (fun τ3 hq3 => ?_)
  subst hq3
  exact g_iret dX6_acceptor_97 rfl (⟨rfl, rfl⟩)

set_option maxRecDepth 100000 in
/-- acceptor -/
theorem c_accN {R A : Nat} (hRA : pRA R A) {s : pT} {σ : gSt} (hc : cRel R A s σ) (hb : pBu s.1) {a m : Nat} (ha : a < A) (hm : m < R) {y : Int32} (hy : y < 0 ∨ nI 4 ≤ y) : gEM (cG R A) mX6_acceptor 1 [.inr (0), .inl (nI (a)), .inl (nI (m)), .inl (y)] σ (gR (-1) (fun τ => τ = σ)) := by
  obtain ⟨hR1, hR6, hA35⟩ := hRA
  have hA5 : A ≤ 5 := by omega
  have hbd := pBu_bd (R := R) (A := A) hb
  have h2 := hbd.1 1 a
  have h6 := hbd.2.2.2.2.1 a m
  refine gEM_of (by decide +kernel) rfl (Nat.le_of_ble_eq_true rfl) ?_
  refine g_iload_n dX6_acceptor_0 rfl ?_
  refine g_aload_n dX6_acceptor_1 rfl ?_
  refine g_getr (T := TX6) (N := 7) (Cn := RX6) (ref := "CommitCouncil") 1 dX6_acceptor_2 (cIn_lo (by decide)) cSh_0 rfl (fun w h => List.mem_cons_of_mem _ (hU6 w h)) (by decide) (List.mem_cons_of_mem _ uw_1_159) (Or.inl rfl) rfl ?_
  refine g_alen (nI (A)) dX6_acceptor_5 (cIn_lo (by decide)) cSh_2 (by decide) rfl ?_
  refine g_callSv (n9 := 2) [.inl (nI (a)), .inl (nI (A))] [] (c_checkOk ha (by omega)) dX6_acceptor_6 (gU_S uw_1_192 uw_1_193 uw_1_1 uw_1_194) rfl (by decide +kernel) rfl ⟨by decide, by decide⟩ rfl (Nat.le_of_ble_eq_true rfl) (fun σ1 hp1 => ?_)
  subst hp1
  refine g_iload_n dX6_acceptor_9 rfl ?_
  refine g_aload_n dX6_acceptor_10 rfl ?_
  refine g_getr (T := TX6) (N := 7) (Cn := RX6) (ref := "CommitCouncil") 0 dX6_acceptor_11 (cIn_lo (by decide)) cSh_0 rfl (fun w h => List.mem_cons_of_mem _ (hU6 w h)) (by decide) (List.mem_cons_of_mem _ uw_1_158) (Or.inl rfl) rfl ?_
  refine g_alen (nI (R)) dX6_acceptor_14 (cIn_lo (by decide)) cSh_1 (by decide) rfl ?_
  refine g_callSv (n9 := 2) [.inl (nI (m)), .inl (nI (R))] [] (c_checkOk hm (by omega)) dX6_acceptor_15 (gU_S uw_1_192 uw_1_193 uw_1_1 uw_1_194) rfl (by decide +kernel) rfl ⟨by decide, by decide⟩ rfl (Nat.le_of_ble_eq_true rfl) (fun σ1 hp1 => ?_)
  subst hp1
  refine g_aload_n dX6_acceptor_18 rfl ?_
  refine g_getr (T := TX6) (N := 7) (Cn := RX6) (ref := "CommitCouncil") 1 dX6_acceptor_19 (cIn_lo (by decide)) cSh_0 rfl (fun w h => List.mem_cons_of_mem _ (hU6 w h)) (by decide) (List.mem_cons_of_mem _ uw_1_159) (Or.inl rfl) rfl ?_
  refine g_iload_n dX6_acceptor_22 rfl ?_
  refine g_aald2N (n := A) (j := a) dX6_acceptor_23 (cIn_lo (by decide)) cSh_2 ha (by omega) ?_
  refine g_astore dX6_acceptor_24 (by decide) ?_
  refine g_iload_n dX6_acceptor_26 rfl ?_
  refine g_tableOut 98 dX6_acceptor_27 (sw_out (n := 3) (by decide) hy) (by decide) ?_
  refine g_iconst ((-1)) dX6_acceptor_98 (by decide) ?_
  exact g_iret dX6_acceptor_99 rfl (⟨rfl, rfl⟩)

set_option maxRecDepth 100000 in
/-- acceptor -/
theorem c_accX {R A : Nat} (hRA : pRA R A) {σ : gSt} {z y w : Int32} (hz : z < 0 ∨ nI A ≤ z) : gEM (cG R A) mX6_acceptor 1 [.inr (0), .inl (z), .inl (y), .inl (w)] σ (gX 0 (fun τ => τ = σ)) := by
  refine gEM_of (by decide +kernel) rfl (Nat.le_of_ble_eq_true rfl) ?_
  refine g_iload_n dX6_acceptor_0 rfl ?_
  refine g_aload_n dX6_acceptor_1 rfl ?_
  refine g_getr (T := TX6) (N := 7) (Cn := RX6) (ref := "CommitCouncil") 1 dX6_acceptor_2 (cIn_lo (by decide)) cSh_0 rfl (fun w h => List.mem_cons_of_mem _ (hU6 w h)) (by decide) (List.mem_cons_of_mem _ uw_1_159) (Or.inl rfl) rfl ?_
  refine g_alen (nI (A)) dX6_acceptor_5 (cIn_lo (by decide)) cSh_2 (by decide) rfl ?_
  exact g_callSx 0 (n9 := 2) [.inl (z), .inl (nI (A))] [] (c_checkNo hz) dX6_acceptor_6 (gU_S uw_1_192 uw_1_193 uw_1_1 uw_1_194) rfl (by decide +kernel) rfl ⟨by decide, by decide⟩ rfl (Nat.le_of_ble_eq_true rfl) (by decide) (fun σ9 hp9 => ⟨rfl, hp9⟩)

set_option maxRecDepth 100000 in
/-- acceptor -/
theorem c_accY {R A : Nat} (hRA : pRA R A) {σ : gSt} {a : Nat} (ha : a < A) {y w : Int32} (hy : y < 0 ∨ nI R ≤ y) : gEM (cG R A) mX6_acceptor 1 [.inr (0), .inl (nI (a)), .inl (y), .inl (w)] σ (gX 0 (fun τ => τ = σ)) := by
  obtain ⟨hR1, hR6, hA35⟩ := hRA
  have hA5 : A ≤ 5 := by omega
  refine gEM_of (by decide +kernel) rfl (Nat.le_of_ble_eq_true rfl) ?_
  refine g_iload_n dX6_acceptor_0 rfl ?_
  refine g_aload_n dX6_acceptor_1 rfl ?_
  refine g_getr (T := TX6) (N := 7) (Cn := RX6) (ref := "CommitCouncil") 1 dX6_acceptor_2 (cIn_lo (by decide)) cSh_0 rfl (fun w h => List.mem_cons_of_mem _ (hU6 w h)) (by decide) (List.mem_cons_of_mem _ uw_1_159) (Or.inl rfl) rfl ?_
  refine g_alen (nI (A)) dX6_acceptor_5 (cIn_lo (by decide)) cSh_2 (by decide) rfl ?_
  refine g_callSv (n9 := 2) [.inl (nI (a)), .inl (nI (A))] [] (c_checkOk ha (by omega)) dX6_acceptor_6 (gU_S uw_1_192 uw_1_193 uw_1_1 uw_1_194) rfl (by decide +kernel) rfl ⟨by decide, by decide⟩ rfl (Nat.le_of_ble_eq_true rfl) (fun σ1 hp1 => ?_)
  subst hp1
  refine g_iload_n dX6_acceptor_9 rfl ?_
  refine g_aload_n dX6_acceptor_10 rfl ?_
  refine g_getr (T := TX6) (N := 7) (Cn := RX6) (ref := "CommitCouncil") 0 dX6_acceptor_11 (cIn_lo (by decide)) cSh_0 rfl (fun w h => List.mem_cons_of_mem _ (hU6 w h)) (by decide) (List.mem_cons_of_mem _ uw_1_158) (Or.inl rfl) rfl ?_
  refine g_alen (nI (R)) dX6_acceptor_14 (cIn_lo (by decide)) cSh_1 (by decide) rfl ?_
  exact g_callSx 0 (n9 := 2) [.inl (y), .inl (nI (R))] [] (c_checkNo hy) dX6_acceptor_15 (gU_S uw_1_192 uw_1_193 uw_1_1 uw_1_194) rfl (by decide +kernel) rfl ⟨by decide, by decide⟩ rfl (Nat.le_of_ble_eq_true rfl) (by decide) (fun σ9 hp9 => ⟨rfl, hp9⟩)

set_option maxRecDepth 100000 in
/-- leader -/
theorem c_lea0 {R A : Nat} (hRA : pRA R A) {s : pT} {σ : gSt} (hc : cRel R A s σ) (hb : pBu s.1) {l : Nat} (hl : l < 3) : gEM (cG R A) mX6_leader 1 [.inr (0), .inl (nI (l)), .inl (nI (0))] σ (gR (nI (s.1 7 l 0)) (fun τ => τ = σ)) := by
  obtain ⟨hR1, hR6, hA35⟩ := hRA
  have hA5 : A ≤ 5 := by omega
  have hbd := pBu_bd (R := R) (A := A) hb
  have h2 := hbd.1 2 l
  have h11 := hbd.2.2.2.2.2.2.2.2.2.1 l
  have h8 := hbd.2.2.2.2.2.2.1 l
  refine gEM_of (by decide +kernel) rfl (Nat.le_of_ble_eq_true rfl) ?_
  refine g_iload_n dX6_leader_0 rfl ?_
  refine g_iconst (nI (3)) dX6_leader_1 (by decide) ?_
  refine g_callSv (n9 := 2) [.inl (nI (l)), .inl (nI (3))] [] (c_checkOk hl (by decide)) dX6_leader_2 (gU_S uw_1_192 uw_1_193 uw_1_1 uw_1_194) rfl (by decide +kernel) rfl ⟨by decide, by decide⟩ rfl (Nat.le_of_ble_eq_true rfl) (fun σ1 hp1 => ?_)
  subst hp1
  refine g_aload_n dX6_leader_5 rfl ?_
  refine g_getr (T := TX6) (N := 7) (Cn := RX6) (ref := "CommitCouncil") 2 dX6_leader_6 (cIn_lo (by decide)) cSh_0 rfl (fun w h => List.mem_cons_of_mem _ (hU6 w h)) (by decide) (List.mem_cons_of_mem _ uw_1_160) (Or.inl rfl) rfl ?_
  refine g_iload_n dX6_leader_9 rfl ?_
  refine g_aald3N (n := 3) (j := l) dX6_leader_10 (cIn_lo (by decide)) cSh_3 hl (by omega) ?_
  refine g_astore_n dX6_leader_11 (by decide) ?_
  refine g_iload_n dX6_leader_12 rfl ?_
  refine g_tableIn (off := 39) 52 dX6_leader_13 (by decide) (by decide) (by decide) (by decide) ?_
  refine g_aload_n dX6_leader_52 rfl ?_
  refine g_get (T := TX1) (N := 10) (Cn := RX1) (ref := "CommitCouncil$Leader") 1 dX6_leader_53 (cIn_l hl) (cSh_l hl) rfl (fun w h => List.mem_cons_of_mem _ (hU1 w h)) (by decide) (List.mem_cons_of_mem _ uw_1_80) (Or.inl rfl) rfl ?_
  refine gEx.top (v := .inl (nI (s.1 7 l 0))) (congrArg Sum.inl ((hc.2.2.2.2.2 l hl).2.1)) ?_
  exact g_iret dX6_leader_56 rfl (⟨rfl, rfl⟩)

set_option maxRecDepth 100000 in
/-- leader -/
theorem c_lea1 {R A : Nat} (hRA : pRA R A) {s : pT} {σ : gSt} (hc : cRel R A s σ) (hb : pBu s.1) {l : Nat} (hl : l < 3) : gEM (cG R A) mX6_leader 1 [.inr (0), .inl (nI (l)), .inl (nI (1))] σ (gR (nI (s.1 8 l 0)) (fun τ => τ = σ)) := by
  obtain ⟨hR1, hR6, hA35⟩ := hRA
  have hA5 : A ≤ 5 := by omega
  have hbd := pBu_bd (R := R) (A := A) hb
  have h2 := hbd.1 2 l
  have h11 := hbd.2.2.2.2.2.2.2.2.2.1 l
  have h8 := hbd.2.2.2.2.2.2.1 l
  refine gEM_of (by decide +kernel) rfl (Nat.le_of_ble_eq_true rfl) ?_
  refine g_iload_n dX6_leader_0 rfl ?_
  refine g_iconst (nI (3)) dX6_leader_1 (by decide) ?_
  refine g_callSv (n9 := 2) [.inl (nI (l)), .inl (nI (3))] [] (c_checkOk hl (by decide)) dX6_leader_2 (gU_S uw_1_192 uw_1_193 uw_1_1 uw_1_194) rfl (by decide +kernel) rfl ⟨by decide, by decide⟩ rfl (Nat.le_of_ble_eq_true rfl) (fun σ1 hp1 => ?_)
  subst hp1
  refine g_aload_n dX6_leader_5 rfl ?_
  refine g_getr (T := TX6) (N := 7) (Cn := RX6) (ref := "CommitCouncil") 2 dX6_leader_6 (cIn_lo (by decide)) cSh_0 rfl (fun w h => List.mem_cons_of_mem _ (hU6 w h)) (by decide) (List.mem_cons_of_mem _ uw_1_160) (Or.inl rfl) rfl ?_
  refine g_iload_n dX6_leader_9 rfl ?_
  refine g_aald3N (n := 3) (j := l) dX6_leader_10 (cIn_lo (by decide)) cSh_3 hl (by omega) ?_
  refine g_astore_n dX6_leader_11 (by decide) ?_
  refine g_iload_n dX6_leader_12 rfl ?_
  refine g_tableIn (off := 44) 57 dX6_leader_13 (by decide) (by decide) (by decide) (by decide) ?_
  refine g_aload_n dX6_leader_57 rfl ?_
  refine g_get (T := TX1) (N := 10) (Cn := RX1) (ref := "CommitCouncil$Leader") 2 dX6_leader_58 (cIn_l hl) (cSh_l hl) rfl (fun w h => List.mem_cons_of_mem _ (hU1 w h)) (by decide) (List.mem_cons_of_mem _ uw_1_82) (Or.inl rfl) rfl ?_
  refine gEx.top (v := .inl (nI (s.1 8 l 0))) (congrArg Sum.inl ((hc.2.2.2.2.2 l hl).2.2.1)) ?_
  exact g_iret dX6_leader_61 rfl (⟨rfl, rfl⟩)

set_option maxRecDepth 100000 in
/-- leader -/
theorem c_lea2 {R A : Nat} (hRA : pRA R A) {s : pT} {σ : gSt} (hc : cRel R A s σ) (hb : pBu s.1) {l : Nat} (hl : l < 3) : gEM (cG R A) mX6_leader 1 [.inr (0), .inl (nI (l)), .inl (nI (2))] σ (gR (nI (s.1 9 l 0)) (fun τ => τ = σ)) := by
  obtain ⟨hR1, hR6, hA35⟩ := hRA
  have hA5 : A ≤ 5 := by omega
  have hbd := pBu_bd (R := R) (A := A) hb
  have h2 := hbd.1 2 l
  have h11 := hbd.2.2.2.2.2.2.2.2.2.1 l
  have h8 := hbd.2.2.2.2.2.2.1 l
  refine gEM_of (by decide +kernel) rfl (Nat.le_of_ble_eq_true rfl) ?_
  refine g_iload_n dX6_leader_0 rfl ?_
  refine g_iconst (nI (3)) dX6_leader_1 (by decide) ?_
  refine g_callSv (n9 := 2) [.inl (nI (l)), .inl (nI (3))] [] (c_checkOk hl (by decide)) dX6_leader_2 (gU_S uw_1_192 uw_1_193 uw_1_1 uw_1_194) rfl (by decide +kernel) rfl ⟨by decide, by decide⟩ rfl (Nat.le_of_ble_eq_true rfl) (fun σ1 hp1 => ?_)
  subst hp1
  refine g_aload_n dX6_leader_5 rfl ?_
  refine g_getr (T := TX6) (N := 7) (Cn := RX6) (ref := "CommitCouncil") 2 dX6_leader_6 (cIn_lo (by decide)) cSh_0 rfl (fun w h => List.mem_cons_of_mem _ (hU6 w h)) (by decide) (List.mem_cons_of_mem _ uw_1_160) (Or.inl rfl) rfl ?_
  refine g_iload_n dX6_leader_9 rfl ?_
  refine g_aald3N (n := 3) (j := l) dX6_leader_10 (cIn_lo (by decide)) cSh_3 hl (by omega) ?_
  refine g_astore_n dX6_leader_11 (by decide) ?_
  refine g_iload_n dX6_leader_12 rfl ?_
  refine g_tableIn (off := 49) 62 dX6_leader_13 (by decide) (by decide) (by decide) (by decide) ?_
  refine g_aload_n dX6_leader_62 rfl ?_
  refine g_get (T := TX1) (N := 10) (Cn := RX1) (ref := "CommitCouncil$Leader") 3 dX6_leader_63 (cIn_l hl) (cSh_l hl) rfl (fun w h => List.mem_cons_of_mem _ (hU1 w h)) (by decide) (List.mem_cons_of_mem _ uw_1_84) (Or.inl rfl) rfl ?_
  refine gEx.top (v := .inl (nI (s.1 9 l 0))) (congrArg Sum.inl ((hc.2.2.2.2.2 l hl).2.2.2.1)) ?_
  exact g_iret dX6_leader_66 rfl (⟨rfl, rfl⟩)

set_option maxRecDepth 100000 in
/-- leader -/
theorem c_lea3 {R A : Nat} (hRA : pRA R A) {s : pT} {σ : gSt} (hc : cRel R A s σ) (hb : pBu s.1) {l : Nat} (hl : l < 3) : gEM (cG R A) mX6_leader 1 [.inr (0), .inl (nI (l)), .inl (nI (3))] σ (gR (nI (s.1 10 l 0)) (fun τ => τ = σ)) := by
  obtain ⟨hR1, hR6, hA35⟩ := hRA
  have hA5 : A ≤ 5 := by omega
  have hbd := pBu_bd (R := R) (A := A) hb
  have h2 := hbd.1 2 l
  have h11 := hbd.2.2.2.2.2.2.2.2.2.1 l
  have h8 := hbd.2.2.2.2.2.2.1 l
  refine gEM_of (by decide +kernel) rfl (Nat.le_of_ble_eq_true rfl) ?_
  refine g_iload_n dX6_leader_0 rfl ?_
  refine g_iconst (nI (3)) dX6_leader_1 (by decide) ?_
  refine g_callSv (n9 := 2) [.inl (nI (l)), .inl (nI (3))] [] (c_checkOk hl (by decide)) dX6_leader_2 (gU_S uw_1_192 uw_1_193 uw_1_1 uw_1_194) rfl (by decide +kernel) rfl ⟨by decide, by decide⟩ rfl (Nat.le_of_ble_eq_true rfl) (fun σ1 hp1 => ?_)
  subst hp1
  refine g_aload_n dX6_leader_5 rfl ?_
  refine g_getr (T := TX6) (N := 7) (Cn := RX6) (ref := "CommitCouncil") 2 dX6_leader_6 (cIn_lo (by decide)) cSh_0 rfl (fun w h => List.mem_cons_of_mem _ (hU6 w h)) (by decide) (List.mem_cons_of_mem _ uw_1_160) (Or.inl rfl) rfl ?_
  refine g_iload_n dX6_leader_9 rfl ?_
  refine g_aald3N (n := 3) (j := l) dX6_leader_10 (cIn_lo (by decide)) cSh_3 hl (by omega) ?_
  refine g_astore_n dX6_leader_11 (by decide) ?_
  refine g_iload_n dX6_leader_12 rfl ?_
  refine g_tableIn (off := 54) 67 dX6_leader_13 (by decide) (by decide) (by decide) (by decide) ?_
  refine g_aload_n dX6_leader_67 rfl ?_
  refine g_get (T := TX1) (N := 10) (Cn := RX1) (ref := "CommitCouncil$Leader") 4 dX6_leader_68 (cIn_l hl) (cSh_l hl) rfl (fun w h => List.mem_cons_of_mem _ (hU1 w h)) (by decide) (List.mem_cons_of_mem _ uw_1_86) (Or.inl rfl) rfl ?_
  refine gEx.top (v := .inl (nI (s.1 10 l 0))) (congrArg Sum.inl ((hc.2.2.2.2.2 l hl).2.2.2.2.1)) ?_
  exact g_iret dX6_leader_71 rfl (⟨rfl, rfl⟩)

set_option maxRecDepth 100000 in
/-- leader -/
theorem c_lea4 {R A : Nat} (hRA : pRA R A) {s : pT} {σ : gSt} (hc : cRel R A s σ) (hb : pBu s.1) {l : Nat} (hl : l < 3) : gEM (cG R A) mX6_leader 1 [.inr (0), .inl (nI (l)), .inl (nI (4))] σ (gR (nI (s.1 2 2 l)) (fun τ => τ = σ)) := by
  obtain ⟨hR1, hR6, hA35⟩ := hRA
  have hA5 : A ≤ 5 := by omega
  have hbd := pBu_bd (R := R) (A := A) hb
  have h2 := hbd.1 2 l
  have h11 := hbd.2.2.2.2.2.2.2.2.2.1 l
  have h8 := hbd.2.2.2.2.2.2.1 l
  refine gEM_of (by decide +kernel) rfl (Nat.le_of_ble_eq_true rfl) ?_
  refine g_iload_n dX6_leader_0 rfl ?_
  refine g_iconst (nI (3)) dX6_leader_1 (by decide) ?_
  refine g_callSv (n9 := 2) [.inl (nI (l)), .inl (nI (3))] [] (c_checkOk hl (by decide)) dX6_leader_2 (gU_S uw_1_192 uw_1_193 uw_1_1 uw_1_194) rfl (by decide +kernel) rfl ⟨by decide, by decide⟩ rfl (Nat.le_of_ble_eq_true rfl) (fun σ1 hp1 => ?_)
  subst hp1
  refine g_aload_n dX6_leader_5 rfl ?_
  refine g_getr (T := TX6) (N := 7) (Cn := RX6) (ref := "CommitCouncil") 2 dX6_leader_6 (cIn_lo (by decide)) cSh_0 rfl (fun w h => List.mem_cons_of_mem _ (hU6 w h)) (by decide) (List.mem_cons_of_mem _ uw_1_160) (Or.inl rfl) rfl ?_
  refine g_iload_n dX6_leader_9 rfl ?_
  refine g_aald3N (n := 3) (j := l) dX6_leader_10 (cIn_lo (by decide)) cSh_3 hl (by omega) ?_
  refine g_astore_n dX6_leader_11 (by decide) ?_
  refine g_iload_n dX6_leader_12 rfl ?_
  refine g_tableIn (off := 59) 72 dX6_leader_13 (by decide) (by decide) (by decide) (by decide) ?_
  refine g_aload_n dX6_leader_72 rfl ?_
  refine g_get (T := TX1) (N := 10) (Cn := RX1) (ref := "CommitCouncil$Leader") 0 dX6_leader_73 (cIn_l hl) (cSh_l hl) rfl (fun w h => List.mem_cons_of_mem _ (hU1 w h)) (by decide) (List.mem_cons_of_mem _ uw_1_42) (Or.inr (List.mem_cons_of_mem _ uw_1_43)) rfl ?_
  refine gEx.top (v := .inl (nI (s.1 2 2 l))) (congrArg Sum.inl ((hc.2.2.2.2.2 l hl).1)) ?_
  refine g_if_eq 83 dX6_leader_76 (by decide) (fun h76 => ?_) (fun h76 => ?_)
  · skip
    rw [nI_z (by omega)] at h76
    refine g_iconst (nI (0)) dX6_leader_83 (by decide) ?_
    exact g_iret dX6_leader_84 rfl (⟨by rw [show s.1 2 2 l = 0 by omega], rfl⟩)
  · skip
    rw [nI_z (by omega)] at h76
    refine g_iconst (nI (1)) dX6_leader_79 (by decide) ?_
    refine g_goto 84 dX6_leader_80 (by decide) ?_
    exact g_iret dX6_leader_84 rfl (⟨by rw [show s.1 2 2 l = 1 by omega], rfl⟩)

set_option maxRecDepth 100000 in
/-- leader -/
theorem c_lea5 {R A : Nat} (hRA : pRA R A) {s : pT} {σ : gSt} (hc : cRel R A s σ) (hb : pBu s.1) {l : Nat} (hl : l < 3) : gEM (cG R A) mX6_leader 1 [.inr (0), .inl (nI (l)), .inl (nI (5))] σ (gR (nI (if s.1 8 l 0 = 1 then psum (s.1 11 l) 5 else 0)) (fun τ => τ = σ)) := by
  obtain ⟨hR1, hR6, hA35⟩ := hRA
  have hA5 : A ≤ 5 := by omega
  have hbd := pBu_bd (R := R) (A := A) hb
  have h2 := hbd.1 2 l
  have h11 := hbd.2.2.2.2.2.2.2.2.2.1 l
  have h8 := hbd.2.2.2.2.2.2.1 l
  refine gEM_of (by decide +kernel) rfl (Nat.le_of_ble_eq_true rfl) ?_
  refine g_iload_n dX6_leader_0 rfl ?_
  refine g_iconst (nI (3)) dX6_leader_1 (by decide) ?_
  refine g_callSv (n9 := 2) [.inl (nI (l)), .inl (nI (3))] [] (c_checkOk hl (by decide)) dX6_leader_2 (gU_S uw_1_192 uw_1_193 uw_1_1 uw_1_194) rfl (by decide +kernel) rfl ⟨by decide, by decide⟩ rfl (Nat.le_of_ble_eq_true rfl) (fun σ1 hp1 => ?_)
  subst hp1
  refine g_aload_n dX6_leader_5 rfl ?_
  refine g_getr (T := TX6) (N := 7) (Cn := RX6) (ref := "CommitCouncil") 2 dX6_leader_6 (cIn_lo (by decide)) cSh_0 rfl (fun w h => List.mem_cons_of_mem _ (hU6 w h)) (by decide) (List.mem_cons_of_mem _ uw_1_160) (Or.inl rfl) rfl ?_
  refine g_iload_n dX6_leader_9 rfl ?_
  refine g_aald3N (n := 3) (j := l) dX6_leader_10 (cIn_lo (by decide)) cSh_3 hl (by omega) ?_
  refine g_astore_n dX6_leader_11 (by decide) ?_
  refine g_iload_n dX6_leader_12 rfl ?_
  refine g_tableIn (off := 72) 85 dX6_leader_13 (by decide) (by decide) (by decide) (by decide) ?_
  refine g_aload_n dX6_leader_85 rfl ?_
  refine g_get (T := TX1) (N := 10) (Cn := RX1) (ref := "CommitCouncil$Leader") 2 dX6_leader_86 (cIn_l hl) (cSh_l hl) rfl (fun w h => List.mem_cons_of_mem _ (hU1 w h)) (by decide) (List.mem_cons_of_mem _ uw_1_82) (Or.inl rfl) rfl ?_
  refine gEx.top (v := .inl (nI (s.1 8 l 0))) (congrArg Sum.inl ((hc.2.2.2.2.2 l hl).2.2.1)) ?_
  refine g_iconst (nI (1)) dX6_leader_89 (by decide) ?_
  refine g_icmp_ne 103 dX6_leader_90 (by decide) (fun h90 => ?_) (fun h90 => ?_)
  · skip
    rw [nI_eq (by omega) (by omega)] at h90
    refine g_iconst (nI (0)) dX6_leader_103 (by decide) ?_
    exact g_iret dX6_leader_104 rfl (⟨by first | (rw [if_pos (by omega)]; done) | (rw [if_neg (by omega)]; done), rfl⟩)
  · skip
    rw [nI_eq (by omega) (by omega)] at h90
    refine g_aload_n dX6_leader_93 rfl ?_
    refine g_get (T := TX1) (N := 10) (Cn := RX1) (ref := "CommitCouncil$Leader") 5 dX6_leader_94 (cIn_l hl) (cSh_l hl) rfl (fun w h => List.mem_cons_of_mem _ (hU1 w h)) (by decide) (List.mem_cons_of_mem _ uw_1_88) (Or.inl rfl) rfl ?_
    refine gEx.top (v := .inl (nI (msk (s.1 11 l)))) (congrArg Sum.inl ((hc.2.2.2.2.2 l hl).2.2.2.2.2.1)) ?_
    refine g_callSi (_) (n9 := 1) [.inl (nI (msk (s.1 11 l)))] [] (c_bits (msk_lt h11)) dX6_leader_97 (gU_S uw_3_92 uw_2_172 uw_1_14 uw_2_173) rfl (by decide +kernel) rfl ⟨by decide, by decide⟩ rfl (Nat.le_of_ble_eq_true rfl) (fun τ3 hq3 => ?_)
    subst hq3
    refine gEx.top (v := .inl (nI (psum (s.1 11 l) 5))) (congrArg Sum.inl (congrArg nI (pc5_msk h11))) ?_
    refine g_goto 104 dX6_leader_100 (by decide) ?_
    exact g_iret dX6_leader_104 rfl (⟨by first | (rw [if_pos (by omega)]; done) | (rw [if_neg (by omega)]; done), rfl⟩)

set_option maxRecDepth 100000 in
/-- leader -/
theorem c_leaN {R A : Nat} (hRA : pRA R A) {s : pT} {σ : gSt} (hc : cRel R A s σ) (hb : pBu s.1) {l : Nat} (hl : l < 3) {y : Int32} (hy : y < 0 ∨ nI 6 ≤ y) : gEM (cG R A) mX6_leader 1 [.inr (0), .inl (nI (l)), .inl (y)] σ (gR (-1) (fun τ => τ = σ)) := by
  obtain ⟨hR1, hR6, hA35⟩ := hRA
  have hA5 : A ≤ 5 := by omega
  have hbd := pBu_bd (R := R) (A := A) hb
  have h2 := hbd.1 2 l
  have h11 := hbd.2.2.2.2.2.2.2.2.2.1 l
  have h8 := hbd.2.2.2.2.2.2.1 l
  refine gEM_of (by decide +kernel) rfl (Nat.le_of_ble_eq_true rfl) ?_
  refine g_iload_n dX6_leader_0 rfl ?_
  refine g_iconst (nI (3)) dX6_leader_1 (by decide) ?_
  refine g_callSv (n9 := 2) [.inl (nI (l)), .inl (nI (3))] [] (c_checkOk hl (by decide)) dX6_leader_2 (gU_S uw_1_192 uw_1_193 uw_1_1 uw_1_194) rfl (by decide +kernel) rfl ⟨by decide, by decide⟩ rfl (Nat.le_of_ble_eq_true rfl) (fun σ1 hp1 => ?_)
  subst hp1
  refine g_aload_n dX6_leader_5 rfl ?_
  refine g_getr (T := TX6) (N := 7) (Cn := RX6) (ref := "CommitCouncil") 2 dX6_leader_6 (cIn_lo (by decide)) cSh_0 rfl (fun w h => List.mem_cons_of_mem _ (hU6 w h)) (by decide) (List.mem_cons_of_mem _ uw_1_160) (Or.inl rfl) rfl ?_
  refine g_iload_n dX6_leader_9 rfl ?_
  refine g_aald3N (n := 3) (j := l) dX6_leader_10 (cIn_lo (by decide)) cSh_3 hl (by omega) ?_
  refine g_astore_n dX6_leader_11 (by decide) ?_
  refine g_iload_n dX6_leader_12 rfl ?_
  refine g_tableOut 105 dX6_leader_13 (sw_out (n := 5) (by decide) hy) (by decide) ?_
  refine g_iconst ((-1)) dX6_leader_105 (by decide) ?_
  exact g_iret dX6_leader_106 rfl (⟨rfl, rfl⟩)

set_option maxRecDepth 100000 in
/-- leader -/
theorem c_leaX {R A : Nat} (hRA : pRA R A) {σ : gSt} {z y : Int32} (hz : z < 0 ∨ nI 3 ≤ z) : gEM (cG R A) mX6_leader 1 [.inr (0), .inl (z), .inl (y)] σ (gX 0 (fun τ => τ = σ)) := by
  refine gEM_of (by decide +kernel) rfl (Nat.le_of_ble_eq_true rfl) ?_
  refine g_iload_n dX6_leader_0 rfl ?_
  refine g_iconst (nI (3)) dX6_leader_1 (by decide) ?_
  exact g_callSx 0 (n9 := 2) [.inl (z), .inl (nI (3))] [] (c_checkNo hz) dX6_leader_2 (gU_S uw_1_192 uw_1_193 uw_1_1 uw_1_194) rfl (by decide +kernel) rfl ⟨by decide, by decide⟩ rfl (Nat.le_of_ble_eq_true rfl) (by decide) (fun σ9 hp9 => ⟨rfl, hp9⟩)

set_option maxRecDepth 100000 in
/-- outcome -/
theorem c_oco {R A : Nat} (hRA : pRA R A) {s : pT} {σ : gSt} (hc : cRel R A s σ) (hb : pBu s.1) {l : Nat} (hl : l < 3) {m : Nat} (hm : m < R) : gEM (cG R A) mX6_outcome 1 [.inr (0), .inl (nI (l)), .inl (nI (m))] σ (gR (nI (s.1 13 l m)) (fun τ => τ = σ)) := by
  obtain ⟨hR1, hR6, hA35⟩ := hRA
  have hA5 : A ≤ 5 := by omega
  have hbd := pBu_bd (R := R) (A := A) hb
  have h2 := hbd.1 2 l
  have h11 := hbd.2.2.2.2.2.2.2.2.2.1 l
  have h8 := hbd.2.2.2.2.2.2.1 l
  refine gEM_of (by decide +kernel) rfl (Nat.le_of_ble_eq_true rfl) ?_
  refine g_iload_n dX6_outcome_0 rfl ?_
  refine g_iconst (nI (3)) dX6_outcome_1 (by decide) ?_
  refine g_callSv (n9 := 2) [.inl (nI (l)), .inl (nI (3))] [] (c_checkOk hl (by decide)) dX6_outcome_2 (gU_S uw_1_192 uw_1_193 uw_1_1 uw_1_194) rfl (by decide +kernel) rfl ⟨by decide, by decide⟩ rfl (Nat.le_of_ble_eq_true rfl) (fun σ1 hp1 => ?_)
  subst hp1
  refine g_iload_n dX6_outcome_5 rfl ?_
  refine g_aload_n dX6_outcome_6 rfl ?_
  refine g_getr (T := TX6) (N := 7) (Cn := RX6) (ref := "CommitCouncil") 0 dX6_outcome_7 (cIn_lo (by decide)) cSh_0 rfl (fun w h => List.mem_cons_of_mem _ (hU6 w h)) (by decide) (List.mem_cons_of_mem _ uw_1_158) (Or.inl rfl) rfl ?_
  refine g_alen (nI (R)) dX6_outcome_10 (cIn_lo (by decide)) cSh_1 (by decide) rfl ?_
  refine g_callSv (n9 := 2) [.inl (nI (m)), .inl (nI (R))] [] (c_checkOk hm (by omega)) dX6_outcome_11 (gU_S uw_1_192 uw_1_193 uw_1_1 uw_1_194) rfl (by decide +kernel) rfl ⟨by decide, by decide⟩ rfl (Nat.le_of_ble_eq_true rfl) (fun σ1 hp1 => ?_)
  subst hp1
  refine g_aload_n dX6_outcome_14 rfl ?_
  refine g_getr (T := TX6) (N := 7) (Cn := RX6) (ref := "CommitCouncil") 2 dX6_outcome_15 (cIn_lo (by decide)) cSh_0 rfl (fun w h => List.mem_cons_of_mem _ (hU6 w h)) (by decide) (List.mem_cons_of_mem _ uw_1_160) (Or.inl rfl) rfl ?_
  refine g_iload_n dX6_outcome_18 rfl ?_
  refine g_aald3N (n := 3) (j := l) dX6_outcome_19 (cIn_lo (by decide)) cSh_3 hl (by omega) ?_
  refine g_getr (T := TX1) (N := 10) (Cn := RX1) (ref := "CommitCouncil$Leader") 7 dX6_outcome_20 (cIn_l hl) (cSh_l hl) rfl (fun w h => List.mem_cons_of_mem _ (hU1 w h)) (by decide) (List.mem_cons_of_mem _ uw_1_92) (Or.inl rfl) rfl ?_
  refine g_iload_n dX6_outcome_23 rfl ?_
  refine g_ialdN (n := R) (j := m) dX6_outcome_24 (cIn_o hl) (cSh_o hl) (hm) (by omega) ?_
  refine gEx.top (v := .inl (nI (s.1 13 l (m)))) (congrArg Sum.inl ((hc.2.2.2.2.2 l hl).2.2.2.2.2.2.2.2.1 (m) (by omega))) ?_
  exact g_iret dX6_outcome_25 rfl (⟨rfl, rfl⟩)

set_option maxRecDepth 100000 in
/-- outcome -/
theorem c_ocoX {R A : Nat} (hRA : pRA R A) {σ : gSt} {z y : Int32} (hz : z < 0 ∨ nI 3 ≤ z) : gEM (cG R A) mX6_outcome 1 [.inr (0), .inl (z), .inl (y)] σ (gX 0 (fun τ => τ = σ)) := by
  refine gEM_of (by decide +kernel) rfl (Nat.le_of_ble_eq_true rfl) ?_
  refine g_iload_n dX6_outcome_0 rfl ?_
  refine g_iconst (nI (3)) dX6_outcome_1 (by decide) ?_
  exact g_callSx 0 (n9 := 2) [.inl (z), .inl (nI (3))] [] (c_checkNo hz) dX6_outcome_2 (gU_S uw_1_192 uw_1_193 uw_1_1 uw_1_194) rfl (by decide +kernel) rfl ⟨by decide, by decide⟩ rfl (Nat.le_of_ble_eq_true rfl) (by decide) (fun σ9 hp9 => ⟨rfl, hp9⟩)

set_option maxRecDepth 100000 in
/-- outcome -/
theorem c_ocoY {R A : Nat} (hRA : pRA R A) {σ : gSt} {l : Nat} (hl : l < 3) {y : Int32} (hy : y < 0 ∨ nI R ≤ y) : gEM (cG R A) mX6_outcome 1 [.inr (0), .inl (nI (l)), .inl (y)] σ (gX 0 (fun τ => τ = σ)) := by
  obtain ⟨hR1, hR6, hA35⟩ := hRA
  have hA5 : A ≤ 5 := by omega
  refine gEM_of (by decide +kernel) rfl (Nat.le_of_ble_eq_true rfl) ?_
  refine g_iload_n dX6_outcome_0 rfl ?_
  refine g_iconst (nI (3)) dX6_outcome_1 (by decide) ?_
  refine g_callSv (n9 := 2) [.inl (nI (l)), .inl (nI (3))] [] (c_checkOk hl (by decide)) dX6_outcome_2 (gU_S uw_1_192 uw_1_193 uw_1_1 uw_1_194) rfl (by decide +kernel) rfl ⟨by decide, by decide⟩ rfl (Nat.le_of_ble_eq_true rfl) (fun σ1 hp1 => ?_)
  subst hp1
  refine g_iload_n dX6_outcome_5 rfl ?_
  refine g_aload_n dX6_outcome_6 rfl ?_
  refine g_getr (T := TX6) (N := 7) (Cn := RX6) (ref := "CommitCouncil") 0 dX6_outcome_7 (cIn_lo (by decide)) cSh_0 rfl (fun w h => List.mem_cons_of_mem _ (hU6 w h)) (by decide) (List.mem_cons_of_mem _ uw_1_158) (Or.inl rfl) rfl ?_
  refine g_alen (nI (R)) dX6_outcome_10 (cIn_lo (by decide)) cSh_1 (by decide) rfl ?_
  exact g_callSx 0 (n9 := 2) [.inl (y), .inl (nI (R))] [] (c_checkNo hy) dX6_outcome_11 (gU_S uw_1_192 uw_1_193 uw_1_1 uw_1_194) rfl (by decide +kernel) rfl ⟨by decide, by decide⟩ rfl (Nat.le_of_ble_eq_true rfl) (by decide) (fun σ9 hp9 => ⟨rfl, hp9⟩)

set_option maxRecDepth 100000 in
/-- seen -/
theorem c_seen {R A : Nat} (hRA : pRA R A) {s : pT} {σ : gSt} (hc : cRel R A s σ) (hb : pBu s.1) {l : Nat} (hl : l < 3) {m a : Nat} (hm : m < R) (ha : a < A) : gEM (cG R A) mX6_seen 1 [.inr (0), .inl (nI (l)), .inl (nI (m)), .inl (nI (a))] σ (gR (pB (s.1 14 l (m * 5 + a))) (fun τ => τ = σ)) := by
  obtain ⟨hR1, hR6, hA35⟩ := hRA
  have hA5 : A ≤ 5 := by omega
  have hbd := pBu_bd (R := R) (A := A) hb
  have h2 := hbd.1 2 l
  have h11 := hbd.2.2.2.2.2.2.2.2.2.1 l
  have h8 := hbd.2.2.2.2.2.2.1 l
  have h14 := hbd.2.2.2.2.2.2.2.2.2.2.2.2.1 l (m * 5 + a)
  refine gEM_of (by decide +kernel) rfl (Nat.le_of_ble_eq_true rfl) ?_
  refine g_iload_n dX6_seen_0 rfl ?_
  refine g_iconst (nI (3)) dX6_seen_1 (by decide) ?_
  refine g_callSv (n9 := 2) [.inl (nI (l)), .inl (nI (3))] [] (c_checkOk hl (by decide)) dX6_seen_2 (gU_S uw_1_192 uw_1_193 uw_1_1 uw_1_194) rfl (by decide +kernel) rfl ⟨by decide, by decide⟩ rfl (Nat.le_of_ble_eq_true rfl) (fun σ1 hp1 => ?_)
  subst hp1
  refine g_iload_n dX6_seen_5 rfl ?_
  refine g_aload_n dX6_seen_6 rfl ?_
  refine g_getr (T := TX6) (N := 7) (Cn := RX6) (ref := "CommitCouncil") 0 dX6_seen_7 (cIn_lo (by decide)) cSh_0 rfl (fun w h => List.mem_cons_of_mem _ (hU6 w h)) (by decide) (List.mem_cons_of_mem _ uw_1_158) (Or.inl rfl) rfl ?_
  refine g_alen (nI (R)) dX6_seen_10 (cIn_lo (by decide)) cSh_1 (by decide) rfl ?_
  refine g_callSv (n9 := 2) [.inl (nI (m)), .inl (nI (R))] [] (c_checkOk hm (by omega)) dX6_seen_11 (gU_S uw_1_192 uw_1_193 uw_1_1 uw_1_194) rfl (by decide +kernel) rfl ⟨by decide, by decide⟩ rfl (Nat.le_of_ble_eq_true rfl) (fun σ1 hp1 => ?_)
  subst hp1
  refine g_iload_n dX6_seen_14 rfl ?_
  refine g_aload_n dX6_seen_15 rfl ?_
  refine g_getr (T := TX6) (N := 7) (Cn := RX6) (ref := "CommitCouncil") 1 dX6_seen_16 (cIn_lo (by decide)) cSh_0 rfl (fun w h => List.mem_cons_of_mem _ (hU6 w h)) (by decide) (List.mem_cons_of_mem _ uw_1_159) (Or.inl rfl) rfl ?_
  refine g_alen (nI (A)) dX6_seen_19 (cIn_lo (by decide)) cSh_2 (by decide) rfl ?_
  refine g_callSv (n9 := 2) [.inl (nI (a)), .inl (nI (A))] [] (c_checkOk ha (by omega)) dX6_seen_20 (gU_S uw_1_192 uw_1_193 uw_1_1 uw_1_194) rfl (by decide +kernel) rfl ⟨by decide, by decide⟩ rfl (Nat.le_of_ble_eq_true rfl) (fun σ1 hp1 => ?_)
  subst hp1
  refine g_aload_n dX6_seen_23 rfl ?_
  refine g_getr (T := TX6) (N := 7) (Cn := RX6) (ref := "CommitCouncil") 2 dX6_seen_24 (cIn_lo (by decide)) cSh_0 rfl (fun w h => List.mem_cons_of_mem _ (hU6 w h)) (by decide) (List.mem_cons_of_mem _ uw_1_160) (Or.inl rfl) rfl ?_
  refine g_iload_n dX6_seen_27 rfl ?_
  refine g_aald3N (n := 3) (j := l) dX6_seen_28 (cIn_lo (by decide)) cSh_3 hl (by omega) ?_
  refine g_iload_n dX6_seen_29 rfl ?_
  refine g_iload_n dX6_seen_30 rfl ?_
  refine g_callVi (nI (s.1 14 l (m * 5 + a))) (n9 := 2) [.inl (nI (m)), .inl (nI (a))] [] (c_sight ⟨hR1, hR6, hA35⟩ hc hbd hl hm ha) dX6_seen_31 (gU_V uw_3_107 uw_2_153 uw_2_154 uw_1_5 uw_2_155) rfl (by decide +kernel) rfl ⟨by decide, by decide⟩ (cIn_l hl) (cSh_l hl) rfl rfl (Nat.le_of_ble_eq_true rfl) (fun τ3 hq3 => ?_)
  subst hq3
  refine g_callSi (pB (s.1 14 l (m * 5 + a))) (n9 := 1) [.inl (nI (s.1 14 l (m * 5 + a)))] [] (c_ballotOf (by omega)) dX6_seen_34 (gU_S uw_3_70 uw_2_150 uw_1_1 uw_2_151) rfl (by decide +kernel) rfl ⟨by decide, by decide⟩ rfl (Nat.le_of_ble_eq_true rfl) (fun τ4 hq4 => ?_)
  subst hq4
  exact g_iret dX6_seen_37 rfl (⟨rfl, rfl⟩)

set_option maxRecDepth 100000 in
/-- seen -/
theorem c_seenX {R A : Nat} (hRA : pRA R A) {σ : gSt} {z y w : Int32} (hz : z < 0 ∨ nI 3 ≤ z) : gEM (cG R A) mX6_seen 1 [.inr (0), .inl (z), .inl (y), .inl (w)] σ (gX 0 (fun τ => τ = σ)) := by
  refine gEM_of (by decide +kernel) rfl (Nat.le_of_ble_eq_true rfl) ?_
  refine g_iload_n dX6_seen_0 rfl ?_
  refine g_iconst (nI (3)) dX6_seen_1 (by decide) ?_
  exact g_callSx 0 (n9 := 2) [.inl (z), .inl (nI (3))] [] (c_checkNo hz) dX6_seen_2 (gU_S uw_1_192 uw_1_193 uw_1_1 uw_1_194) rfl (by decide +kernel) rfl ⟨by decide, by decide⟩ rfl (Nat.le_of_ble_eq_true rfl) (by decide) (fun σ9 hp9 => ⟨rfl, hp9⟩)

set_option maxRecDepth 100000 in
/-- seen -/
theorem c_seenY {R A : Nat} (hRA : pRA R A) {σ : gSt} {l : Nat} (hl : l < 3) {y w : Int32} (hy : y < 0 ∨ nI R ≤ y) : gEM (cG R A) mX6_seen 1 [.inr (0), .inl (nI (l)), .inl (y), .inl (w)] σ (gX 0 (fun τ => τ = σ)) := by
  obtain ⟨hR1, hR6, hA35⟩ := hRA
  have hA5 : A ≤ 5 := by omega
  refine gEM_of (by decide +kernel) rfl (Nat.le_of_ble_eq_true rfl) ?_
  refine g_iload_n dX6_seen_0 rfl ?_
  refine g_iconst (nI (3)) dX6_seen_1 (by decide) ?_
  refine g_callSv (n9 := 2) [.inl (nI (l)), .inl (nI (3))] [] (c_checkOk hl (by decide)) dX6_seen_2 (gU_S uw_1_192 uw_1_193 uw_1_1 uw_1_194) rfl (by decide +kernel) rfl ⟨by decide, by decide⟩ rfl (Nat.le_of_ble_eq_true rfl) (fun σ1 hp1 => ?_)
  subst hp1
  refine g_iload_n dX6_seen_5 rfl ?_
  refine g_aload_n dX6_seen_6 rfl ?_
  refine g_getr (T := TX6) (N := 7) (Cn := RX6) (ref := "CommitCouncil") 0 dX6_seen_7 (cIn_lo (by decide)) cSh_0 rfl (fun w h => List.mem_cons_of_mem _ (hU6 w h)) (by decide) (List.mem_cons_of_mem _ uw_1_158) (Or.inl rfl) rfl ?_
  refine g_alen (nI (R)) dX6_seen_10 (cIn_lo (by decide)) cSh_1 (by decide) rfl ?_
  exact g_callSx 0 (n9 := 2) [.inl (y), .inl (nI (R))] [] (c_checkNo hy) dX6_seen_11 (gU_S uw_1_192 uw_1_193 uw_1_1 uw_1_194) rfl (by decide +kernel) rfl ⟨by decide, by decide⟩ rfl (Nat.le_of_ble_eq_true rfl) (by decide) (fun σ9 hp9 => ⟨rfl, hp9⟩)

set_option maxRecDepth 100000 in
/-- seen -/
theorem c_seenZ {R A : Nat} (hRA : pRA R A) {σ : gSt} {l m : Nat} (hl : l < 3) (hm : m < R) {w : Int32} (hw : w < 0 ∨ nI A ≤ w) : gEM (cG R A) mX6_seen 1 [.inr (0), .inl (nI (l)), .inl (nI (m)), .inl (w)] σ (gX 0 (fun τ => τ = σ)) := by
  obtain ⟨hR1, hR6, hA35⟩ := hRA
  have hA5 : A ≤ 5 := by omega
  refine gEM_of (by decide +kernel) rfl (Nat.le_of_ble_eq_true rfl) ?_
  refine g_iload_n dX6_seen_0 rfl ?_
  refine g_iconst (nI (3)) dX6_seen_1 (by decide) ?_
  refine g_callSv (n9 := 2) [.inl (nI (l)), .inl (nI (3))] [] (c_checkOk hl (by decide)) dX6_seen_2 (gU_S uw_1_192 uw_1_193 uw_1_1 uw_1_194) rfl (by decide +kernel) rfl ⟨by decide, by decide⟩ rfl (Nat.le_of_ble_eq_true rfl) (fun σ1 hp1 => ?_)
  subst hp1
  refine g_iload_n dX6_seen_5 rfl ?_
  refine g_aload_n dX6_seen_6 rfl ?_
  refine g_getr (T := TX6) (N := 7) (Cn := RX6) (ref := "CommitCouncil") 0 dX6_seen_7 (cIn_lo (by decide)) cSh_0 rfl (fun w h => List.mem_cons_of_mem _ (hU6 w h)) (by decide) (List.mem_cons_of_mem _ uw_1_158) (Or.inl rfl) rfl ?_
  refine g_alen (nI (R)) dX6_seen_10 (cIn_lo (by decide)) cSh_1 (by decide) rfl ?_
  refine g_callSv (n9 := 2) [.inl (nI (m)), .inl (nI (R))] [] (c_checkOk hm (by omega)) dX6_seen_11 (gU_S uw_1_192 uw_1_193 uw_1_1 uw_1_194) rfl (by decide +kernel) rfl ⟨by decide, by decide⟩ rfl (Nat.le_of_ble_eq_true rfl) (fun σ1 hp1 => ?_)
  subst hp1
  refine g_iload_n dX6_seen_14 rfl ?_
  refine g_aload_n dX6_seen_15 rfl ?_
  refine g_getr (T := TX6) (N := 7) (Cn := RX6) (ref := "CommitCouncil") 1 dX6_seen_16 (cIn_lo (by decide)) cSh_0 rfl (fun w h => List.mem_cons_of_mem _ (hU6 w h)) (by decide) (List.mem_cons_of_mem _ uw_1_159) (Or.inl rfl) rfl ?_
  refine g_alen (nI (A)) dX6_seen_19 (cIn_lo (by decide)) cSh_2 (by decide) rfl ?_
  exact g_callSx 0 (n9 := 2) [.inl (w), .inl (nI (A))] [] (c_checkNo hw) dX6_seen_20 (gU_S uw_1_192 uw_1_193 uw_1_1 uw_1_194) rfl (by decide +kernel) rfl ⟨by decide, by decide⟩ rfl (Nat.le_of_ble_eq_true rfl) (by decide) (fun σ9 hp9 => ⟨rfl, hp9⟩)

set_option maxRecDepth 100000 in
/-- chosen -/
theorem c_cho {R A : Nat} (hRA : pRA R A) {s : pT} {σ : gSt} (hc : cRel R A s σ) {m : Nat} (hm : m < R) : gEM (cG R A) mX6_chosen 1 [.inr (0), .inl (nI (m))] σ (gR (nI (s.1 18 m 0)) (fun τ => τ = σ)) := by
  obtain ⟨hR1, hR6, hA35⟩ := hRA
  have hA5 : A ≤ 5 := by omega
  refine gEM_of (by decide +kernel) rfl (Nat.le_of_ble_eq_true rfl) ?_
  refine g_iload_n dX6_chosen_0 rfl ?_
  refine g_aload_n dX6_chosen_1 rfl ?_
  refine g_getr (T := TX6) (N := 7) (Cn := RX6) (ref := "CommitCouncil") 0 dX6_chosen_2 (cIn_lo (by decide)) cSh_0 rfl (fun w h => List.mem_cons_of_mem _ (hU6 w h)) (by decide) (List.mem_cons_of_mem _ uw_1_158) (Or.inl rfl) rfl ?_
  refine g_alen (nI (R)) dX6_chosen_5 (cIn_lo (by decide)) cSh_1 (by decide) rfl ?_
  refine g_callSv (n9 := 2) [.inl (nI (m)), .inl (nI (R))] [] (c_checkOk hm (by omega)) dX6_chosen_6 (gU_S uw_1_192 uw_1_193 uw_1_1 uw_1_194) rfl (by decide +kernel) rfl ⟨by decide, by decide⟩ rfl (Nat.le_of_ble_eq_true rfl) (fun σ1 hp1 => ?_)
  subst hp1
  refine g_aload_n dX6_chosen_9 rfl ?_
  refine g_getr (T := TX6) (N := 7) (Cn := RX6) (ref := "CommitCouncil") 4 dX6_chosen_10 (cIn_lo (by decide)) cSh_0 rfl (fun w h => List.mem_cons_of_mem _ (hU6 w h)) (by decide) (List.mem_cons_of_mem _ uw_1_162) (Or.inl rfl) rfl ?_
  refine g_getr (T := TX2) (N := 4) (Cn := RX2) (ref := "CommitCouncil$Ledger") 0 dX6_chosen_13 (cIn_lo (by decide)) cSh_6 rfl (fun w h => List.mem_cons_of_mem _ (hU2 w h)) (by decide) (List.mem_cons_of_mem _ uw_1_143) (Or.inl rfl) rfl ?_
  refine g_iload_n dX6_chosen_16 rfl ?_
  refine g_ialdN (n := R) (j := m) dX6_chosen_17 (cIn_lo (by decide)) cSh_7 (hm) (by omega) ?_
  refine gEx.top (v := .inl (nI (s.1 18 (m) 0))) (congrArg Sum.inl (hc.2.2.1.2.1 (m) (by omega))) ?_
  exact g_iret dX6_chosen_18 rfl (⟨rfl, rfl⟩)

set_option maxRecDepth 100000 in
/-- chosen -/
theorem c_choX {R A : Nat} (hRA : pRA R A) {σ : gSt} {z : Int32} (hz : z < 0 ∨ nI R ≤ z) : gEM (cG R A) mX6_chosen 1 [.inr (0), .inl (z)] σ (gX 0 (fun τ => τ = σ)) := by
  refine gEM_of (by decide +kernel) rfl (Nat.le_of_ble_eq_true rfl) ?_
  refine g_iload_n dX6_chosen_0 rfl ?_
  refine g_aload_n dX6_chosen_1 rfl ?_
  refine g_getr (T := TX6) (N := 7) (Cn := RX6) (ref := "CommitCouncil") 0 dX6_chosen_2 (cIn_lo (by decide)) cSh_0 rfl (fun w h => List.mem_cons_of_mem _ (hU6 w h)) (by decide) (List.mem_cons_of_mem _ uw_1_158) (Or.inl rfl) rfl ?_
  refine g_alen (nI (R)) dX6_chosen_5 (cIn_lo (by decide)) cSh_1 (by decide) rfl ?_
  exact g_callSx 0 (n9 := 2) [.inl (z), .inl (nI (R))] [] (c_checkNo hz) dX6_chosen_6 (gU_S uw_1_192 uw_1_193 uw_1_1 uw_1_194) rfl (by decide +kernel) rfl ⟨by decide, by decide⟩ rfl (Nat.le_of_ble_eq_true rfl) (by decide) (fun σ9 hp9 => ⟨rfl, hp9⟩)

set_option maxRecDepth 100000 in
theorem c_hmu0_l {R A : Nat} (hRA : pRA R A) {s : pT} {σ : gSt} (hc : cRel R A s σ) (hb : pBu s.1) : ∀ (k i : Nat), i ≤ R → R - i < k → gEx (cG R A) mX6_howManyUp 0 5 [some (.inr 0), some (.inl (nI 0)), some (.inl (nI (R))), some (.inl (nI (psum (s.1 2 0) i))), some (.inl (nI i))] [] σ (gR (nI (psum (s.1 2 0) R)) (fun τ => τ = σ)) := by
  intro k
  induction k with
  | zero => intro i hi1 hi2; exact absurd hi2 (by omega)
  | succ k ih =>
    intro i hi1 hi2 
    obtain ⟨hR1, hR6, hA35⟩ := hRA
    have hb2 : s.1 2 0 i ≤ 1 := hb 2 0 i (by decide) (by decide)
    have hps : psum (s.1 2 0) i ≤ i := psum_le (fun j => hb 2 0 j (by decide) (by decide)) i
    refine g_iload dX6_howManyUp_5 rfl ?_
    refine g_iload_n dX6_howManyUp_7 rfl ?_
    refine g_icmp_ge 33 dX6_howManyUp_8 (by decide) (fun h8 => ?_) (fun h8 => ?_)
    · skip
      rw [nI_leI (by omega) (by omega)] at h8
      refine g_iload_n dX6_howManyUp_33 rfl ?_
      exact g_iret dX6_howManyUp_34 rfl (⟨by rw [show i = R by omega], rfl⟩)
    · skip
      rw [nI_leI (by omega) (by omega)] at h8
      have hi9 : i < R := by omega
      refine g_aload_n dX6_howManyUp_11 rfl ?_
      refine g_iload_n dX6_howManyUp_12 rfl ?_
      refine g_iload dX6_howManyUp_13 rfl ?_
      refine g_callVr (10 + i) (n9 := 2) [.inl (nI (0)), .inl (nI (i))] [] (c_member0 ⟨hR1, hR6, hA35⟩ hi9) dX6_howManyUp_15 (gU_V uw_1_188 uw_1_190 us_0_1 uw_1_1 uw_1_191) rfl (by decide +kernel) rfl ⟨by decide, by decide⟩ (cIn_lo (by decide)) cSh_0 rfl rfl (Nat.le_of_ble_eq_true rfl) (fun σ1 hp1 => ?_)
      subst hp1
      refine g_get (T := TX4) (N := 3) (Cn := RX4) (ref := "CommitCouncil$Member") 0 dX6_howManyUp_18 (cIn_m hi9) (cSh_m (by omega)) rfl (fun w h => List.mem_cons_of_mem _ (hU4 w h)) (by decide) (List.mem_cons_of_mem _ uw_1_44) (Or.inl rfl) rfl ?_
      refine gEx.top (v := .inl (nI (s.1 2 0 i))) (congrArg Sum.inl ((hc.2.2.2.1 i hi9).1)) ?_
      refine g_if_eq 27 dX6_howManyUp_21 (by decide) (fun h21 => ?_) (fun h21 => ?_)
      · skip
        rw [nI_z (by omega)] at h21
        refine g_iinc (nI (i + 1)) dX6_howManyUp_27 rfl (show nI (i) + nI 1 = _ from nI_add _ _) (by decide) ?_
        refine g_goto 5 dX6_howManyUp_30 (by decide) ?_
        have e : psum (s.1 2 0) (i + 1) = psum (s.1 2 0) i := by simp only [psum]; omega
        have := ih (i + 1) (by omega) (by omega)
        rw [e] at this
        exact this
      · skip
        rw [nI_z (by omega)] at h21
        refine g_iinc (nI (psum (s.1 2 0) i + 1)) dX6_howManyUp_24 rfl (show nI (psum (s.1 2 0) i) + nI 1 = _ from nI_add _ _) (by decide) ?_
        refine g_iinc (nI (i + 1)) dX6_howManyUp_27 rfl (show nI (i) + nI 1 = _ from nI_add _ _) (by decide) ?_
        refine g_goto 5 dX6_howManyUp_30 (by decide) ?_
        have e : psum (s.1 2 0) (i + 1) = psum (s.1 2 0) i + 1 := by simp only [psum]; omega
        have := ih (i + 1) (by omega) (by omega)
        rw [e] at this
        exact this

set_option maxRecDepth 100000 in
/-- howManyUp -/
theorem c_hmu0 {R A : Nat} (hRA : pRA R A) {s : pT} {σ : gSt} (hc : cRel R A s σ) (hb : pBu s.1) : gEM (cG R A) mX6_howManyUp 0 [.inr (0), .inl (nI (0)), .inl (nI (R))] σ (gR (nI (psum (s.1 2 0) R)) (fun τ => τ = σ)) := by
  refine gEM_of (by decide +kernel) rfl (Nat.le_of_ble_eq_true rfl) ?_
  refine g_iconst (nI (0)) dX6_howManyUp_0 (by decide) ?_
  refine g_istore_n dX6_howManyUp_1 (by decide) ?_
  refine g_iconst (nI (0)) dX6_howManyUp_2 (by decide) ?_
  refine g_istore dX6_howManyUp_3 (by decide) ?_
  exact c_hmu0_l hRA hc hb (R + 1) 0 (by omega) (by omega)

set_option maxRecDepth 100000 in
theorem c_hmu1_l {R A : Nat} (hRA : pRA R A) {s : pT} {σ : gSt} (hc : cRel R A s σ) (hb : pBu s.1) : ∀ (k i : Nat), i ≤ A → A - i < k → gEx (cG R A) mX6_howManyUp 0 5 [some (.inr 0), some (.inl (nI 1)), some (.inl (nI (A))), some (.inl (nI (psum (s.1 2 1) i))), some (.inl (nI i))] [] σ (gR (nI (psum (s.1 2 1) A)) (fun τ => τ = σ)) := by
  intro k
  induction k with
  | zero => intro i hi1 hi2; exact absurd hi2 (by omega)
  | succ k ih =>
    intro i hi1 hi2 
    obtain ⟨hR1, hR6, hA35⟩ := hRA
    have hb2 : s.1 2 1 i ≤ 1 := hb 2 1 i (by decide) (by decide)
    have hps : psum (s.1 2 1) i ≤ i := psum_le (fun j => hb 2 1 j (by decide) (by decide)) i
    refine g_iload dX6_howManyUp_5 rfl ?_
    refine g_iload_n dX6_howManyUp_7 rfl ?_
    refine g_icmp_ge 33 dX6_howManyUp_8 (by decide) (fun h8 => ?_) (fun h8 => ?_)
    · skip
      rw [nI_leI (by omega) (by omega)] at h8
      refine g_iload_n dX6_howManyUp_33 rfl ?_
      exact g_iret dX6_howManyUp_34 rfl (⟨by rw [show i = A by omega], rfl⟩)
    · skip
      rw [nI_leI (by omega) (by omega)] at h8
      have hi9 : i < A := by omega
      refine g_aload_n dX6_howManyUp_11 rfl ?_
      refine g_iload_n dX6_howManyUp_12 rfl ?_
      refine g_iload dX6_howManyUp_13 rfl ?_
      refine g_callVr (20 + i) (n9 := 2) [.inl (nI (1)), .inl (nI (i))] [] (c_member1 ⟨hR1, hR6, hA35⟩ hi9) dX6_howManyUp_15 (gU_V uw_1_188 uw_1_190 us_0_1 uw_1_1 uw_1_191) rfl (by decide +kernel) rfl ⟨by decide, by decide⟩ (cIn_lo (by decide)) cSh_0 rfl rfl (Nat.le_of_ble_eq_true rfl) (fun σ1 hp1 => ?_)
      subst hp1
      refine g_get (T := TX0) (N := 3) (Cn := RX0) (ref := "CommitCouncil$Member") 0 dX6_howManyUp_18 (cIn_a hi9) (cSh_a (by omega)) rfl (fun w h => List.mem_cons_of_mem _ (hU0 w h)) (by decide) (List.mem_cons_of_mem _ uw_1_44) (Or.inl rfl) rfl ?_
      refine gEx.top (v := .inl (nI (s.1 2 1 i))) (congrArg Sum.inl ((hc.2.2.2.2.1 i hi9).1)) ?_
      refine g_if_eq 27 dX6_howManyUp_21 (by decide) (fun h21 => ?_) (fun h21 => ?_)
      · skip
        rw [nI_z (by omega)] at h21
        refine g_iinc (nI (i + 1)) dX6_howManyUp_27 rfl (show nI (i) + nI 1 = _ from nI_add _ _) (by decide) ?_
        refine g_goto 5 dX6_howManyUp_30 (by decide) ?_
        have e : psum (s.1 2 1) (i + 1) = psum (s.1 2 1) i := by simp only [psum]; omega
        have := ih (i + 1) (by omega) (by omega)
        rw [e] at this
        exact this
      · skip
        rw [nI_z (by omega)] at h21
        refine g_iinc (nI (psum (s.1 2 1) i + 1)) dX6_howManyUp_24 rfl (show nI (psum (s.1 2 1) i) + nI 1 = _ from nI_add _ _) (by decide) ?_
        refine g_iinc (nI (i + 1)) dX6_howManyUp_27 rfl (show nI (i) + nI 1 = _ from nI_add _ _) (by decide) ?_
        refine g_goto 5 dX6_howManyUp_30 (by decide) ?_
        have e : psum (s.1 2 1) (i + 1) = psum (s.1 2 1) i + 1 := by simp only [psum]; omega
        have := ih (i + 1) (by omega) (by omega)
        rw [e] at this
        exact this

set_option maxRecDepth 100000 in
/-- howManyUp -/
theorem c_hmu1 {R A : Nat} (hRA : pRA R A) {s : pT} {σ : gSt} (hc : cRel R A s σ) (hb : pBu s.1) : gEM (cG R A) mX6_howManyUp 0 [.inr (0), .inl (nI (1)), .inl (nI (A))] σ (gR (nI (psum (s.1 2 1) A)) (fun τ => τ = σ)) := by
  refine gEM_of (by decide +kernel) rfl (Nat.le_of_ble_eq_true rfl) ?_
  refine g_iconst (nI (0)) dX6_howManyUp_0 (by decide) ?_
  refine g_istore_n dX6_howManyUp_1 (by decide) ?_
  refine g_iconst (nI (0)) dX6_howManyUp_2 (by decide) ?_
  refine g_istore dX6_howManyUp_3 (by decide) ?_
  exact c_hmu1_l hRA hc hb (A + 1) 0 (by omega) (by omega)

theorem psum_ind (p : Nat → Prop) [∀ i, Decidable (p i)] (n : Nat) : psum (fun m => if p m then 1 else 0) n ≤ n := psum_le (fun i => by split <;> omega) n

set_option maxRecDepth 100000 in
theorem c_hmm_l {R A : Nat} (hRA : pRA R A) {s : pT} {σ : gSt} (hc : cRel R A s σ) (hb : pBu s.1) {k0 : Nat} (hk0 : k0 ≤ 4) : ∀ (k i : Nat), i ≤ R → R - i < k → gEx (cG R A) mX6_howManyManagers 0 4 [some (.inr 0), some (.inl (nI k0)), some (.inl (nI (psum (fun m => if s.1 3 m 0 = k0 then 1 else 0) i))), some (.inl (nI i))] [] σ (gR (nI (psum (fun m => if s.1 3 m 0 = k0 then 1 else 0) R)) (fun τ => τ = σ)) := by
  intro k
  induction k with
  | zero => intro i hi1 hi2; exact absurd hi2 (by omega)
  | succ k ih =>
    intro i hi1 hi2 
    obtain ⟨hR1, hR6, hA35⟩ := hRA
    have hb3 : s.1 3 i 0 ≤ 4 := hb 3 i 0 (by decide) (by decide)
    have hps : psum (fun m => if s.1 3 m 0 = k0 then 1 else 0) i ≤ i := psum_ind (fun m => s.1 3 m 0 = k0) i
    refine g_iload_n dX6_howManyManagers_4 rfl ?_
    refine g_aload_n dX6_howManyManagers_5 rfl ?_
    refine g_getr (T := TX6) (N := 7) (Cn := RX6) (ref := "CommitCouncil") 0 dX6_howManyManagers_6 (cIn_lo (by decide)) cSh_0 rfl (fun w h => List.mem_cons_of_mem _ (hU6 w h)) (by decide) (List.mem_cons_of_mem _ uw_1_158) (Or.inl rfl) rfl ?_
    refine g_alen (nI (R)) dX6_howManyManagers_9 (cIn_lo (by decide)) cSh_1 (by decide) rfl ?_
    refine g_icmp_ge 35 dX6_howManyManagers_10 (by decide) (fun h10 => ?_) (fun h10 => ?_)
    · skip
      rw [nI_leI (by omega) (by omega)] at h10
      refine g_iload_n dX6_howManyManagers_35 rfl ?_
      exact g_iret dX6_howManyManagers_36 rfl (⟨by rw [show i = R by omega], rfl⟩)
    · skip
      rw [nI_leI (by omega) (by omega)] at h10
      have hi9 : i < R := by omega
      refine g_aload_n dX6_howManyManagers_13 rfl ?_
      refine g_getr (T := TX6) (N := 7) (Cn := RX6) (ref := "CommitCouncil") 0 dX6_howManyManagers_14 (cIn_lo (by decide)) cSh_0 rfl (fun w h => List.mem_cons_of_mem _ (hU6 w h)) (by decide) (List.mem_cons_of_mem _ uw_1_158) (Or.inl rfl) rfl ?_
      refine g_iload_n dX6_howManyManagers_17 rfl ?_
      refine g_aald4N (n := R) (j := i) dX6_howManyManagers_18 (cIn_lo (by decide)) cSh_1 hi9 (by omega) ?_
      refine g_get (T := TX4) (N := 3) (Cn := RX4) (ref := "CommitCouncil$Manager") 1 dX6_howManyManagers_19 (cIn_m hi9) (cSh_m (by omega)) rfl (fun w h => List.mem_cons_of_mem _ (hU4 w h)) (by decide) (List.mem_cons_of_mem _ uw_1_37) (Or.inl rfl) rfl ?_
      refine gEx.top (v := .inl (nI (s.1 3 i 0))) (congrArg Sum.inl ((hc.2.2.2.1 i hi9).2.1)) ?_
      refine g_iload_n dX6_howManyManagers_22 rfl ?_
      refine g_icmp_ne 29 dX6_howManyManagers_23 (by decide) (fun h23 => ?_) (fun h23 => ?_)
      · skip
        rw [nI_eq (by omega) (by omega)] at h23
        refine g_iinc (nI (i + 1)) dX6_howManyManagers_29 rfl (show nI (i) + nI 1 = _ from nI_add _ _) (by decide) ?_
        refine g_goto 4 dX6_howManyManagers_32 (by decide) ?_
        have e : psum (fun m => if s.1 3 m 0 = k0 then 1 else 0) (i + 1) = psum (fun m => if s.1 3 m 0 = k0 then 1 else 0) i := by simp only [psum]; first | (rw [if_pos (by omega)]; done) | (rw [if_neg (by omega), Nat.add_zero]; done)
        have := ih (i + 1) (by omega) (by omega)
        rw [e] at this
        exact this
      · skip
        rw [nI_eq (by omega) (by omega)] at h23
        refine g_iinc (nI (psum (fun m => if s.1 3 m 0 = k0 then 1 else 0) i + 1)) dX6_howManyManagers_26 rfl (show nI (psum (fun m => if s.1 3 m 0 = k0 then 1 else 0) i) + nI 1 = _ from nI_add _ _) (by decide) ?_
        refine g_iinc (nI (i + 1)) dX6_howManyManagers_29 rfl (show nI (i) + nI 1 = _ from nI_add _ _) (by decide) ?_
        refine g_goto 4 dX6_howManyManagers_32 (by decide) ?_
        have e : psum (fun m => if s.1 3 m 0 = k0 then 1 else 0) (i + 1) = psum (fun m => if s.1 3 m 0 = k0 then 1 else 0) i + 1 := by simp only [psum]; first | (rw [if_pos (by omega)]; done) | (rw [if_neg (by omega), Nat.add_zero]; done)
        have := ih (i + 1) (by omega) (by omega)
        rw [e] at this
        exact this

set_option maxRecDepth 100000 in
/-- howManyManagers -/
theorem c_hmm {R A : Nat} (hRA : pRA R A) {s : pT} {σ : gSt} (hc : cRel R A s σ) (hb : pBu s.1) {k0 : Nat} (hk0 : k0 ≤ 4) : gEM (cG R A) mX6_howManyManagers 0 [.inr (0), .inl (nI (k0))] σ (gR (nI (psum (fun m => if s.1 3 m 0 = k0 then 1 else 0) R)) (fun τ => τ = σ)) := by
  refine gEM_of (by decide +kernel) rfl (Nat.le_of_ble_eq_true rfl) ?_
  refine g_iconst (nI (0)) dX6_howManyManagers_0 (by decide) ?_
  refine g_istore_n dX6_howManyManagers_1 (by decide) ?_
  refine g_iconst (nI (0)) dX6_howManyManagers_2 (by decide) ?_
  refine g_istore_n dX6_howManyManagers_3 (by decide) ?_
  exact c_hmm_l hRA hc hb hk0 (R + 1) 0 (by omega) (by omega)

set_option maxRecDepth 100000 in
/-- count -/
theorem c_cnt0 {R A : Nat} (hRA : pRA R A) {s : pT} {σ : gSt} (hc : cRel R A s σ) (hb : pBu s.1) : gEM (cG R A) mX6_count 0 [.inr (0), .inl (nI (0))] σ (gR (nI R) (fun τ => τ = σ)) := by
  refine gEM_of (by decide +kernel) rfl (Nat.le_of_ble_eq_true rfl) ?_
  refine g_iload_n dX6_count_0 rfl ?_
  refine g_tableIn (off := 55) 56 dX6_count_1 (by decide) (by decide) (by decide) (by decide) ?_
  refine g_aload_n dX6_count_56 rfl ?_
  refine g_getr (T := TX6) (N := 7) (Cn := RX6) (ref := "CommitCouncil") 0 dX6_count_57 (cIn_lo (by decide)) cSh_0 rfl (fun w h => List.mem_cons_of_mem _ (hU6 w h)) (by decide) (List.mem_cons_of_mem _ uw_1_158) (Or.inl rfl) rfl ?_
  refine g_alen (nI (R)) dX6_count_60 (cIn_lo (by decide)) cSh_1 (by decide) rfl ?_
  exact g_iret dX6_count_61 rfl (⟨rfl, rfl⟩)

set_option maxRecDepth 100000 in
/-- count -/
theorem c_cnt1 {R A : Nat} (hRA : pRA R A) {s : pT} {σ : gSt} (hc : cRel R A s σ) (hb : pBu s.1) : gEM (cG R A) mX6_count 0 [.inr (0), .inl (nI (1))] σ (gR (nI A) (fun τ => τ = σ)) := by
  refine gEM_of (by decide +kernel) rfl (Nat.le_of_ble_eq_true rfl) ?_
  refine g_iload_n dX6_count_0 rfl ?_
  refine g_tableIn (off := 61) 62 dX6_count_1 (by decide) (by decide) (by decide) (by decide) ?_
  refine g_aload_n dX6_count_62 rfl ?_
  refine g_getr (T := TX6) (N := 7) (Cn := RX6) (ref := "CommitCouncil") 1 dX6_count_63 (cIn_lo (by decide)) cSh_0 rfl (fun w h => List.mem_cons_of_mem _ (hU6 w h)) (by decide) (List.mem_cons_of_mem _ uw_1_159) (Or.inl rfl) rfl ?_
  refine g_alen (nI (A)) dX6_count_66 (cIn_lo (by decide)) cSh_2 (by decide) rfl ?_
  exact g_iret dX6_count_67 rfl (⟨rfl, rfl⟩)

set_option maxRecDepth 100000 in
/-- count -/
theorem c_cnt2 {R A : Nat} (hRA : pRA R A) {s : pT} {σ : gSt} (hc : cRel R A s σ) (hb : pBu s.1) : gEM (cG R A) mX6_count 0 [.inr (0), .inl (nI (2))] σ (gR (nI s.2.length) (fun τ => τ = σ)) := by
  refine gEM_of (by decide +kernel) rfl (Nat.le_of_ble_eq_true rfl) ?_
  refine g_iload_n dX6_count_0 rfl ?_
  refine g_tableIn (off := 67) 68 dX6_count_1 (by decide) (by decide) (by decide) (by decide) ?_
  refine g_aload_n dX6_count_68 rfl ?_
  refine g_getr (T := TX6) (N := 7) (Cn := RX6) (ref := "CommitCouncil") 3 dX6_count_69 (cIn_lo (by decide)) cSh_0 rfl (fun w h => List.mem_cons_of_mem _ (hU6 w h)) (by decide) (List.mem_cons_of_mem _ uw_1_161) (Or.inl rfl) rfl ?_
  refine g_get (T := TX3) (N := 4) (Cn := RX3) (ref := "CommitCouncil$Mail") 0 dX6_count_72 (cIn_lo (by decide)) cSh_4 rfl (fun w h => List.mem_cons_of_mem _ (hU3 w h)) (by decide) (List.mem_cons_of_mem _ uw_1_122) (Or.inl rfl) rfl ?_
  refine gEx.top (v := .inl (nI (s.2.length))) (congrArg Sum.inl (hc.2.1.1)) ?_
  exact g_iret dX6_count_75 rfl (⟨rfl, rfl⟩)

set_option maxRecDepth 100000 in
/-- count -/
theorem c_cnt3 {R A : Nat} (hRA : pRA R A) {s : pT} {σ : gSt} (hc : cRel R A s σ) (hb : pBu s.1) : gEM (cG R A) mX6_count 0 [.inr (0), .inl (nI (3))] σ (gR (nI (s.1 1 0 0)) (fun τ => τ = σ)) := by
  refine gEM_of (by decide +kernel) rfl (Nat.le_of_ble_eq_true rfl) ?_
  refine g_iload_n dX6_count_0 rfl ?_
  refine g_tableIn (off := 75) 76 dX6_count_1 (by decide) (by decide) (by decide) (by decide) ?_
  refine g_aload_n dX6_count_76 rfl ?_
  refine g_getr (T := TX6) (N := 7) (Cn := RX6) (ref := "CommitCouncil") 3 dX6_count_77 (cIn_lo (by decide)) cSh_0 rfl (fun w h => List.mem_cons_of_mem _ (hU6 w h)) (by decide) (List.mem_cons_of_mem _ uw_1_161) (Or.inl rfl) rfl ?_
  refine g_get (T := TX3) (N := 4) (Cn := RX3) (ref := "CommitCouncil$Mail") 1 dX6_count_80 (cIn_lo (by decide)) cSh_4 rfl (fun w h => List.mem_cons_of_mem _ (hU3 w h)) (by decide) (List.mem_cons_of_mem _ uw_1_124) (Or.inl rfl) rfl ?_
  refine gEx.top (v := .inl (nI (s.1 1 0 0))) (congrArg Sum.inl (hc.2.1.2.1)) ?_
  exact g_iret dX6_count_83 rfl (⟨rfl, rfl⟩)

set_option maxRecDepth 100000 in
/-- count -/
theorem c_cnt4 {R A : Nat} (hRA : pRA R A) {s : pT} {σ : gSt} (hc : cRel R A s σ) (hb : pBu s.1) : gEM (cG R A) mX6_count 0 [.inr (0), .inl (nI (4))] σ (gR (nI (s.1 1 1 0)) (fun τ => τ = σ)) := by
  refine gEM_of (by decide +kernel) rfl (Nat.le_of_ble_eq_true rfl) ?_
  refine g_iload_n dX6_count_0 rfl ?_
  refine g_tableIn (off := 83) 84 dX6_count_1 (by decide) (by decide) (by decide) (by decide) ?_
  refine g_aload_n dX6_count_84 rfl ?_
  refine g_get (T := TX6) (N := 7) (Cn := RX6) (ref := "CommitCouncil") 5 dX6_count_85 (cIn_lo (by decide)) cSh_0 rfl (fun w h => List.mem_cons_of_mem _ (hU6 w h)) (by decide) (List.mem_cons_of_mem _ uw_1_163) (Or.inl rfl) rfl ?_
  refine gEx.top (v := .inl (nI (s.1 1 1 0))) (congrArg Sum.inl (hc.1.1)) ?_
  exact g_iret dX6_count_88 rfl (⟨rfl, rfl⟩)

set_option maxRecDepth 100000 in
/-- count -/
theorem c_cnt5 {R A : Nat} (hRA : pRA R A) {s : pT} {σ : gSt} (hc : cRel R A s σ) (hb : pBu s.1) : gEM (cG R A) mX6_count 0 [.inr (0), .inl (nI (5))] σ (gR (nI (psum (s.1 2 0) R)) (fun τ => τ = σ)) := by
  refine gEM_of (by decide +kernel) rfl (Nat.le_of_ble_eq_true rfl) ?_
  refine g_iload_n dX6_count_0 rfl ?_
  refine g_tableIn (off := 88) 89 dX6_count_1 (by decide) (by decide) (by decide) (by decide) ?_
  refine g_aload_n dX6_count_89 rfl ?_
  refine g_iconst (nI (0)) dX6_count_90 (by decide) ?_
  refine g_aload_n dX6_count_91 rfl ?_
  refine g_getr (T := TX6) (N := 7) (Cn := RX6) (ref := "CommitCouncil") 0 dX6_count_92 (cIn_lo (by decide)) cSh_0 rfl (fun w h => List.mem_cons_of_mem _ (hU6 w h)) (by decide) (List.mem_cons_of_mem _ uw_1_158) (Or.inl rfl) rfl ?_
  refine g_alen (nI (R)) dX6_count_95 (cIn_lo (by decide)) cSh_1 (by decide) rfl ?_
  refine g_callVi (nI (psum (s.1 2 0) R)) (n9 := 2) [.inl (nI (0)), .inl (nI (R))] [] (c_hmu0 hRA hc hb) dX6_count_96 (gU_V uw_1_184 uw_1_186 us_0_0 uw_1_1 uw_1_187) rfl (by decide +kernel) rfl ⟨by decide, by decide⟩ (cIn_lo (by decide)) cSh_0 rfl rfl (Nat.le_of_ble_eq_true rfl) (fun τ3 hq3 => ?_)
  subst hq3
  exact g_iret dX6_count_99 rfl (⟨rfl, rfl⟩)

set_option maxRecDepth 100000 in
/-- count -/
theorem c_cnt6 {R A : Nat} (hRA : pRA R A) {s : pT} {σ : gSt} (hc : cRel R A s σ) (hb : pBu s.1) : gEM (cG R A) mX6_count 0 [.inr (0), .inl (nI (6))] σ (gR (nI (psum (s.1 2 1) A)) (fun τ => τ = σ)) := by
  refine gEM_of (by decide +kernel) rfl (Nat.le_of_ble_eq_true rfl) ?_
  refine g_iload_n dX6_count_0 rfl ?_
  refine g_tableIn (off := 99) 100 dX6_count_1 (by decide) (by decide) (by decide) (by decide) ?_
  refine g_aload_n dX6_count_100 rfl ?_
  refine g_iconst (nI (1)) dX6_count_101 (by decide) ?_
  refine g_aload_n dX6_count_102 rfl ?_
  refine g_getr (T := TX6) (N := 7) (Cn := RX6) (ref := "CommitCouncil") 1 dX6_count_103 (cIn_lo (by decide)) cSh_0 rfl (fun w h => List.mem_cons_of_mem _ (hU6 w h)) (by decide) (List.mem_cons_of_mem _ uw_1_159) (Or.inl rfl) rfl ?_
  refine g_alen (nI (A)) dX6_count_106 (cIn_lo (by decide)) cSh_2 (by decide) rfl ?_
  refine g_callVi (nI (psum (s.1 2 1) A)) (n9 := 2) [.inl (nI (1)), .inl (nI (A))] [] (c_hmu1 hRA hc hb) dX6_count_107 (gU_V uw_1_184 uw_1_186 us_0_0 uw_1_1 uw_1_187) rfl (by decide +kernel) rfl ⟨by decide, by decide⟩ (cIn_lo (by decide)) cSh_0 rfl rfl (Nat.le_of_ble_eq_true rfl) (fun τ3 hq3 => ?_)
  subst hq3
  exact g_iret dX6_count_110 rfl (⟨rfl, rfl⟩)

set_option maxRecDepth 100000 in
/-- count -/
theorem c_cnt7 {R A : Nat} (hRA : pRA R A) {s : pT} {σ : gSt} (hc : cRel R A s σ) (hb : pBu s.1) : gEM (cG R A) mX6_count 0 [.inr (0), .inl (nI (7))] σ (gR (nI (psum (fun m => if s.1 3 m 0 = 3 then 1 else 0) R)) (fun τ => τ = σ)) := by
  refine gEM_of (by decide +kernel) rfl (Nat.le_of_ble_eq_true rfl) ?_
  refine g_iload_n dX6_count_0 rfl ?_
  refine g_tableIn (off := 110) 111 dX6_count_1 (by decide) (by decide) (by decide) (by decide) ?_
  refine g_aload_n dX6_count_111 rfl ?_
  refine g_iconst (nI (3)) dX6_count_112 (by decide) ?_
  refine g_callVi (nI (psum (fun m => if s.1 3 m 0 = 3 then 1 else 0) R)) (n9 := 1) [.inl (nI (3))] [] (c_hmm hRA hc hb (by decide)) dX6_count_113 (gU_V uw_2_38 uw_2_40 us_0_3 uw_1_1 uw_2_41) rfl (by decide +kernel) rfl ⟨by decide, by decide⟩ (cIn_lo (by decide)) cSh_0 rfl rfl (Nat.le_of_ble_eq_true rfl) (fun τ3 hq3 => ?_)
  subst hq3
  exact g_iret dX6_count_116 rfl (⟨rfl, rfl⟩)

set_option maxRecDepth 100000 in
/-- count -/
theorem c_cnt8 {R A : Nat} (hRA : pRA R A) {s : pT} {σ : gSt} (hc : cRel R A s σ) (hb : pBu s.1) : gEM (cG R A) mX6_count 0 [.inr (0), .inl (nI (8))] σ (gR (nI (psum (fun m => if s.1 3 m 0 = 4 then 1 else 0) R)) (fun τ => τ = σ)) := by
  refine gEM_of (by decide +kernel) rfl (Nat.le_of_ble_eq_true rfl) ?_
  refine g_iload_n dX6_count_0 rfl ?_
  refine g_tableIn (off := 116) 117 dX6_count_1 (by decide) (by decide) (by decide) (by decide) ?_
  refine g_aload_n dX6_count_117 rfl ?_
  refine g_iconst (nI (4)) dX6_count_118 (by decide) ?_
  refine g_callVi (nI (psum (fun m => if s.1 3 m 0 = 4 then 1 else 0) R)) (n9 := 1) [.inl (nI (4))] [] (c_hmm hRA hc hb (by decide)) dX6_count_119 (gU_V uw_2_38 uw_2_40 us_0_3 uw_1_1 uw_2_41) rfl (by decide +kernel) rfl ⟨by decide, by decide⟩ (cIn_lo (by decide)) cSh_0 rfl rfl (Nat.le_of_ble_eq_true rfl) (fun τ3 hq3 => ?_)
  subst hq3
  exact g_iret dX6_count_122 rfl (⟨rfl, rfl⟩)

set_option maxRecDepth 100000 in
/-- count -/
theorem c_cnt9 {R A : Nat} (hRA : pRA R A) {s : pT} {σ : gSt} (hc : cRel R A s σ) (hb : pBu s.1) : gEM (cG R A) mX6_count 0 [.inr (0), .inl (nI (9))] σ (gR (nI (s.1 1 2 0)) (fun τ => τ = σ)) := by
  refine gEM_of (by decide +kernel) rfl (Nat.le_of_ble_eq_true rfl) ?_
  refine g_iload_n dX6_count_0 rfl ?_
  refine g_tableIn (off := 122) 123 dX6_count_1 (by decide) (by decide) (by decide) (by decide) ?_
  refine g_aload_n dX6_count_123 rfl ?_
  refine g_get (T := TX6) (N := 7) (Cn := RX6) (ref := "CommitCouncil") 6 dX6_count_124 (cIn_lo (by decide)) cSh_0 rfl (fun w h => List.mem_cons_of_mem _ (hU6 w h)) (by decide) (List.mem_cons_of_mem _ uw_1_164) (Or.inl rfl) rfl ?_
  refine gEx.top (v := .inl (nI (s.1 1 2 0))) (congrArg Sum.inl (hc.1.2)) ?_
  exact g_iret dX6_count_127 rfl (⟨rfl, rfl⟩)

set_option maxRecDepth 100000 in
/-- count -/
theorem c_cntN {R A : Nat} {σ : gSt} {y : Int32} (hy : y < 0 ∨ nI 10 ≤ y) : gEM (cG R A) mX6_count 0 [.inr (0), .inl (y)] σ (gR (-1) (fun τ => τ = σ)) := by
  refine gEM_of (by decide +kernel) rfl (Nat.le_of_ble_eq_true rfl) ?_
  refine g_iload_n dX6_count_0 rfl ?_
  refine g_tableOut 128 dX6_count_1 (sw_out (n := 9) (by decide) hy) (by decide) ?_
  refine g_iconst ((-1)) dX6_count_128 (by decide) ?_
  exact g_iret dX6_count_129 rfl (⟨rfl, rfl⟩)

/-- a decision is backed by what is chosen -/
def pBack (R : Nat) (α : pS) (d : Nat) : Prop := (d = 1 → psum (fun m => if α 18 m 0 = 1 then 1 else 0) R = R) ∧ (d = 2 → 0 < psum (fun m => if α 18 m 0 = 2 then 1 else 0) R)

set_option maxRecDepth 100000 in
theorem c_back_l {R A : Nat} (hRA : pRA R A) {s : pT} {σ : gSt} (hc : cRel R A s σ) (hb : pBu s.1) {d : Nat} (hd : d ≤ 2) {Q : gOut → gSt → Prop} (hq : gEx (cG R A) mX6_isBackedByChosen 0 67 [some (.inr 0), some (.inl (nI d)), some (.inl (nI (psum (fun m => if s.1 18 m 0 = 1 then 1 else 0) R))), some (.inl (nI (psum (fun m => if s.1 18 m 0 = 2 then 1 else 0) R))), some (.inl (nI R))] [] σ Q) : ∀ (k i : Nat), i ≤ R → R - i < k → gEx (cG R A) mX6_isBackedByChosen 0 7 [some (.inr 0), some (.inl (nI d)), some (.inl (nI (psum (fun m => if s.1 18 m 0 = 1 then 1 else 0) i))), some (.inl (nI (psum (fun m => if s.1 18 m 0 = 2 then 1 else 0) i))), some (.inl (nI i))] [] σ Q := by
  intro k
  induction k with
  | zero => intro i hi1 hi2; exact absurd hi2 (by omega)
  | succ k ih =>
    intro i hi1 hi2 
    obtain ⟨hR1, hR6, hA35⟩ := hRA
    have hb18 : s.1 18 i 0 ≤ 2 := hb 18 i 0 (by decide) (by decide)
    have hp1 : psum (fun m => if s.1 18 m 0 = 1 then 1 else 0) i ≤ i := psum_ind (fun m => s.1 18 m 0 = 1) i
    have hp2 : psum (fun m => if s.1 18 m 0 = 2 then 1 else 0) i ≤ i := psum_ind (fun m => s.1 18 m 0 = 2) i
    refine g_iload dX6_isBackedByChosen_7 rfl ?_
    refine g_aload_n dX6_isBackedByChosen_9 rfl ?_
    refine g_getr (T := TX6) (N := 7) (Cn := RX6) (ref := "CommitCouncil") 0 dX6_isBackedByChosen_10 (cIn_lo (by decide)) cSh_0 rfl (fun w h => List.mem_cons_of_mem _ (hU6 w h)) (by decide) (List.mem_cons_of_mem _ uw_1_158) (Or.inl rfl) rfl ?_
    refine g_alen (nI (R)) dX6_isBackedByChosen_13 (cIn_lo (by decide)) cSh_1 (by decide) rfl ?_
    refine g_icmp_ge 67 dX6_isBackedByChosen_14 (by decide) (fun h14 => ?_) (fun h14 => ?_)
    · skip
      rw [nI_leI (by omega) (by omega)] at h14
      have e : i = R := by omega
      rw [e]
      exact hq
    · skip
      rw [nI_leI (by omega) (by omega)] at h14
      refine g_iload_n dX6_isBackedByChosen_17 rfl ?_
      refine g_aload_n dX6_isBackedByChosen_18 rfl ?_
      refine g_getr (T := TX6) (N := 7) (Cn := RX6) (ref := "CommitCouncil") 4 dX6_isBackedByChosen_19 (cIn_lo (by decide)) cSh_0 rfl (fun w h => List.mem_cons_of_mem _ (hU6 w h)) (by decide) (List.mem_cons_of_mem _ uw_1_162) (Or.inl rfl) rfl ?_
      refine g_getr (T := TX2) (N := 4) (Cn := RX2) (ref := "CommitCouncil$Ledger") 0 dX6_isBackedByChosen_22 (cIn_lo (by decide)) cSh_6 rfl (fun w h => List.mem_cons_of_mem _ (hU2 w h)) (by decide) (List.mem_cons_of_mem _ uw_1_143) (Or.inl rfl) rfl ?_
      refine g_iload dX6_isBackedByChosen_25 rfl ?_
      refine g_ialdN (n := R) (j := i) dX6_isBackedByChosen_27 (cIn_lo (by decide)) cSh_7 (by omega) (by omega) ?_
      refine gEx.top (v := .inl (nI (s.1 18 (i) 0))) (congrArg Sum.inl (hc.2.2.1.2.1 (i) (by omega))) ?_
      refine g_iconst (nI (1)) dX6_isBackedByChosen_28 (by decide) ?_
      refine g_icmp_ne 36 dX6_isBackedByChosen_29 (by decide) (fun h29 => ?_) (fun h29 => ?_)
      · skip
        rw [nI_eq (by omega) (by omega)] at h29
        refine g_iconst (nI (0)) dX6_isBackedByChosen_36 (by decide) ?_
        refine g_iadd dX6_isBackedByChosen_37 ?_
        refine gEx.top (v := .inl (nI (psum (fun m => if s.1 18 m 0 = 1 then 1 else 0) i + 0))) (congrArg Sum.inl (nI_add _ _)) ?_
        refine g_istore_n dX6_isBackedByChosen_38 (by decide) ?_
        refine g_iload_n dX6_isBackedByChosen_39 rfl ?_
        refine g_aload_n dX6_isBackedByChosen_40 rfl ?_
        refine g_getr (T := TX6) (N := 7) (Cn := RX6) (ref := "CommitCouncil") 4 dX6_isBackedByChosen_41 (cIn_lo (by decide)) cSh_0 rfl (fun w h => List.mem_cons_of_mem _ (hU6 w h)) (by decide) (List.mem_cons_of_mem _ uw_1_162) (Or.inl rfl) rfl ?_
        refine g_getr (T := TX2) (N := 4) (Cn := RX2) (ref := "CommitCouncil$Ledger") 0 dX6_isBackedByChosen_44 (cIn_lo (by decide)) cSh_6 rfl (fun w h => List.mem_cons_of_mem _ (hU2 w h)) (by decide) (List.mem_cons_of_mem _ uw_1_143) (Or.inl rfl) rfl ?_
        refine g_iload dX6_isBackedByChosen_47 rfl ?_
        refine g_ialdN (n := R) (j := i) dX6_isBackedByChosen_49 (cIn_lo (by decide)) cSh_7 (by omega) (by omega) ?_
        refine gEx.top (v := .inl (nI (s.1 18 (i) 0))) (congrArg Sum.inl (hc.2.2.1.2.1 (i) (by omega))) ?_
        refine g_iconst (nI (2)) dX6_isBackedByChosen_50 (by decide) ?_
        refine g_icmp_ne 58 dX6_isBackedByChosen_51 (by decide) (fun h51 => ?_) (fun h51 => ?_)
        · skip
          rw [nI_eq (by omega) (by omega)] at h51
          refine g_iconst (nI (0)) dX6_isBackedByChosen_58 (by decide) ?_
          refine g_iadd dX6_isBackedByChosen_59 ?_
          refine gEx.top (v := .inl (nI (psum (fun m => if s.1 18 m 0 = 2 then 1 else 0) i + 0))) (congrArg Sum.inl (nI_add _ _)) ?_
          refine g_istore_n dX6_isBackedByChosen_60 (by decide) ?_
          refine g_iinc (nI (i + 1)) dX6_isBackedByChosen_61 rfl (show nI (i) + nI 1 = _ from nI_add _ _) (by decide) ?_
          refine g_goto 7 dX6_isBackedByChosen_64 (by decide) ?_
          have e1 : psum (fun m => if s.1 18 m 0 = 1 then 1 else 0) (i + 1) = psum (fun m => if s.1 18 m 0 = 1 then 1 else 0) i + 0 := by simp only [psum]; first | (rw [if_pos (by omega)]; done) | (rw [if_neg (by omega)]; done)
          have e2 : psum (fun m => if s.1 18 m 0 = 2 then 1 else 0) (i + 1) = psum (fun m => if s.1 18 m 0 = 2 then 1 else 0) i + 0 := by simp only [psum]; first | (rw [if_pos (by omega)]; done) | (rw [if_neg (by omega)]; done)
          have := ih (i + 1) (by omega) (by omega)
          rw [e1, e2] at this
          exact this
        · skip
          rw [nI_eq (by omega) (by omega)] at h51
          refine g_iconst (nI (1)) dX6_isBackedByChosen_54 (by decide) ?_
          refine g_goto 59 dX6_isBackedByChosen_55 (by decide) ?_
          refine g_iadd dX6_isBackedByChosen_59 ?_
          refine gEx.top (v := .inl (nI (psum (fun m => if s.1 18 m 0 = 2 then 1 else 0) i + 1))) (congrArg Sum.inl (nI_add _ _)) ?_
          refine g_istore_n dX6_isBackedByChosen_60 (by decide) ?_
          refine g_iinc (nI (i + 1)) dX6_isBackedByChosen_61 rfl (show nI (i) + nI 1 = _ from nI_add _ _) (by decide) ?_
          refine g_goto 7 dX6_isBackedByChosen_64 (by decide) ?_
          have e1 : psum (fun m => if s.1 18 m 0 = 1 then 1 else 0) (i + 1) = psum (fun m => if s.1 18 m 0 = 1 then 1 else 0) i + 0 := by simp only [psum]; first | (rw [if_pos (by omega)]; done) | (rw [if_neg (by omega)]; done)
          have e2 : psum (fun m => if s.1 18 m 0 = 2 then 1 else 0) (i + 1) = psum (fun m => if s.1 18 m 0 = 2 then 1 else 0) i + 1 := by simp only [psum]; first | (rw [if_pos (by omega)]; done) | (rw [if_neg (by omega)]; done)
          have := ih (i + 1) (by omega) (by omega)
          rw [e1, e2] at this
          exact this
      · skip
        rw [nI_eq (by omega) (by omega)] at h29
        refine g_iconst (nI (1)) dX6_isBackedByChosen_32 (by decide) ?_
        refine g_goto 37 dX6_isBackedByChosen_33 (by decide) ?_
        refine g_iadd dX6_isBackedByChosen_37 ?_
        refine gEx.top (v := .inl (nI (psum (fun m => if s.1 18 m 0 = 1 then 1 else 0) i + 1))) (congrArg Sum.inl (nI_add _ _)) ?_
        refine g_istore_n dX6_isBackedByChosen_38 (by decide) ?_
        refine g_iload_n dX6_isBackedByChosen_39 rfl ?_
        refine g_aload_n dX6_isBackedByChosen_40 rfl ?_
        refine g_getr (T := TX6) (N := 7) (Cn := RX6) (ref := "CommitCouncil") 4 dX6_isBackedByChosen_41 (cIn_lo (by decide)) cSh_0 rfl (fun w h => List.mem_cons_of_mem _ (hU6 w h)) (by decide) (List.mem_cons_of_mem _ uw_1_162) (Or.inl rfl) rfl ?_
        refine g_getr (T := TX2) (N := 4) (Cn := RX2) (ref := "CommitCouncil$Ledger") 0 dX6_isBackedByChosen_44 (cIn_lo (by decide)) cSh_6 rfl (fun w h => List.mem_cons_of_mem _ (hU2 w h)) (by decide) (List.mem_cons_of_mem _ uw_1_143) (Or.inl rfl) rfl ?_
        refine g_iload dX6_isBackedByChosen_47 rfl ?_
        refine g_ialdN (n := R) (j := i) dX6_isBackedByChosen_49 (cIn_lo (by decide)) cSh_7 (by omega) (by omega) ?_
        refine gEx.top (v := .inl (nI (s.1 18 (i) 0))) (congrArg Sum.inl (hc.2.2.1.2.1 (i) (by omega))) ?_
        refine g_iconst (nI (2)) dX6_isBackedByChosen_50 (by decide) ?_
        refine g_icmp_ne 58 dX6_isBackedByChosen_51 (by decide) (fun h51 => ?_) (fun h51 => ?_)
        · skip
          rw [nI_eq (by omega) (by omega)] at h51
          refine g_iconst (nI (0)) dX6_isBackedByChosen_58 (by decide) ?_
          refine g_iadd dX6_isBackedByChosen_59 ?_
          refine gEx.top (v := .inl (nI (psum (fun m => if s.1 18 m 0 = 2 then 1 else 0) i + 0))) (congrArg Sum.inl (nI_add _ _)) ?_
          refine g_istore_n dX6_isBackedByChosen_60 (by decide) ?_
          refine g_iinc (nI (i + 1)) dX6_isBackedByChosen_61 rfl (show nI (i) + nI 1 = _ from nI_add _ _) (by decide) ?_
          refine g_goto 7 dX6_isBackedByChosen_64 (by decide) ?_
          have e1 : psum (fun m => if s.1 18 m 0 = 1 then 1 else 0) (i + 1) = psum (fun m => if s.1 18 m 0 = 1 then 1 else 0) i + 1 := by simp only [psum]; first | (rw [if_pos (by omega)]; done) | (rw [if_neg (by omega)]; done)
          have e2 : psum (fun m => if s.1 18 m 0 = 2 then 1 else 0) (i + 1) = psum (fun m => if s.1 18 m 0 = 2 then 1 else 0) i + 0 := by simp only [psum]; first | (rw [if_pos (by omega)]; done) | (rw [if_neg (by omega)]; done)
          have := ih (i + 1) (by omega) (by omega)
          rw [e1, e2] at this
          exact this
        · skip
          rw [nI_eq (by omega) (by omega)] at h51
          refine g_iconst (nI (1)) dX6_isBackedByChosen_54 (by decide) ?_
          refine g_goto 59 dX6_isBackedByChosen_55 (by decide) ?_
          refine g_iadd dX6_isBackedByChosen_59 ?_
          refine gEx.top (v := .inl (nI (psum (fun m => if s.1 18 m 0 = 2 then 1 else 0) i + 1))) (congrArg Sum.inl (nI_add _ _)) ?_
          refine g_istore_n dX6_isBackedByChosen_60 (by decide) ?_
          refine g_iinc (nI (i + 1)) dX6_isBackedByChosen_61 rfl (show nI (i) + nI 1 = _ from nI_add _ _) (by decide) ?_
          refine g_goto 7 dX6_isBackedByChosen_64 (by decide) ?_
          have e1 : psum (fun m => if s.1 18 m 0 = 1 then 1 else 0) (i + 1) = psum (fun m => if s.1 18 m 0 = 1 then 1 else 0) i + 1 := by simp only [psum]; first | (rw [if_pos (by omega)]; done) | (rw [if_neg (by omega)]; done)
          have e2 : psum (fun m => if s.1 18 m 0 = 2 then 1 else 0) (i + 1) = psum (fun m => if s.1 18 m 0 = 2 then 1 else 0) i + 1 := by simp only [psum]; first | (rw [if_pos (by omega)]; done) | (rw [if_neg (by omega)]; done)
          have := ih (i + 1) (by omega) (by omega)
          rw [e1, e2] at this
          exact this

set_option maxRecDepth 100000 in
theorem c_back_e0 {R A : Nat} (hRA : pRA R A) {s : pT} {σ : gSt} (hc : cRel R A s σ) (hb : pBu s.1) (hk : pBack R s.1 0) : gEx (cG R A) mX6_isBackedByChosen 0 67 [some (.inr 0), some (.inl (nI 0)), some (.inl (nI (psum (fun m => if s.1 18 m 0 = 1 then 1 else 0) R))), some (.inl (nI (psum (fun m => if s.1 18 m 0 = 2 then 1 else 0) R))), some (.inl (nI R))] [] σ (gR 1 (fun τ => τ = σ)) := by
  obtain ⟨hR1, hR6, hA35⟩ := hRA
  have hA5 : A ≤ 5 := by omega
  have hq1 := hk.1
  have hq2 := hk.2
  have hp1 : psum (fun m => if s.1 18 m 0 = 1 then 1 else 0) R ≤ R := psum_ind (fun m => s.1 18 m 0 = 1) R
  have hp2 : psum (fun m => if s.1 18 m 0 = 2 then 1 else 0) R ≤ R := psum_ind (fun m => s.1 18 m 0 = 2) R
  refine g_iload_n dX6_isBackedByChosen_67 rfl ?_
  refine g_lookup (off := 53) 121 dX6_isBackedByChosen_68 (by decide) (by decide) (by decide) ?_
  refine g_iconst (nI (1)) dX6_isBackedByChosen_121 (by decide) ?_
  exact g_zret dX6_isBackedByChosen_122 rfl (rfl) (⟨rfl, rfl⟩)

set_option maxRecDepth 100000 in
theorem c_back_e1 {R A : Nat} (hRA : pRA R A) {s : pT} {σ : gSt} (hc : cRel R A s σ) (hb : pBu s.1) (hk : pBack R s.1 1) : gEx (cG R A) mX6_isBackedByChosen 0 67 [some (.inr 0), some (.inl (nI 1)), some (.inl (nI (psum (fun m => if s.1 18 m 0 = 1 then 1 else 0) R))), some (.inl (nI (psum (fun m => if s.1 18 m 0 = 2 then 1 else 0) R))), some (.inl (nI R))] [] σ (gR 1 (fun τ => τ = σ)) := by
  obtain ⟨hR1, hR6, hA35⟩ := hRA
  have hA5 : A ≤ 5 := by omega
  have hq1 := hk.1
  have hq2 := hk.2
  have hp1 : psum (fun m => if s.1 18 m 0 = 1 then 1 else 0) R ≤ R := psum_ind (fun m => s.1 18 m 0 = 1) R
  have hp2 : psum (fun m => if s.1 18 m 0 = 2 then 1 else 0) R ≤ R := psum_ind (fun m => s.1 18 m 0 = 2) R
  refine g_iload_n dX6_isBackedByChosen_67 rfl ?_
  refine g_lookup (off := 28) 96 dX6_isBackedByChosen_68 (by decide) (by decide) (by decide) ?_
  refine g_iload_n dX6_isBackedByChosen_96 rfl ?_
  refine g_aload_n dX6_isBackedByChosen_97 rfl ?_
  refine g_getr (T := TX6) (N := 7) (Cn := RX6) (ref := "CommitCouncil") 0 dX6_isBackedByChosen_98 (cIn_lo (by decide)) cSh_0 rfl (fun w h => List.mem_cons_of_mem _ (hU6 w h)) (by decide) (List.mem_cons_of_mem _ uw_1_158) (Or.inl rfl) rfl ?_
  refine g_alen (nI (R)) dX6_isBackedByChosen_101 (cIn_lo (by decide)) cSh_1 (by decide) rfl ?_
  refine g_icmp_ne 109 dX6_isBackedByChosen_102 (by decide) (fun h102 => ?_) (fun h102 => ?_)
  · skip
    rw [nI_eq (by omega) (by omega)] at h102
    refine g_iconst (nI (0)) dX6_isBackedByChosen_109 (by decide) ?_
    refine g_zret dX6_isBackedByChosen_110 rfl (rfl) ?_
    first | (exfalso; omega) | exact ⟨rfl, rfl⟩
  · skip
    rw [nI_eq (by omega) (by omega)] at h102
    refine g_iconst (nI (1)) dX6_isBackedByChosen_105 (by decide) ?_
    refine g_goto 110 dX6_isBackedByChosen_106 (by decide) ?_
    refine g_zret dX6_isBackedByChosen_110 rfl (rfl) ?_
    first | (exfalso; omega) | exact ⟨rfl, rfl⟩

set_option maxRecDepth 100000 in
theorem c_back_e2 {R A : Nat} (hRA : pRA R A) {s : pT} {σ : gSt} (hc : cRel R A s σ) (hb : pBu s.1) (hk : pBack R s.1 2) : gEx (cG R A) mX6_isBackedByChosen 0 67 [some (.inr 0), some (.inl (nI 2)), some (.inl (nI (psum (fun m => if s.1 18 m 0 = 1 then 1 else 0) R))), some (.inl (nI (psum (fun m => if s.1 18 m 0 = 2 then 1 else 0) R))), some (.inl (nI R))] [] σ (gR 1 (fun τ => τ = σ)) := by
  obtain ⟨hR1, hR6, hA35⟩ := hRA
  have hA5 : A ≤ 5 := by omega
  have hq1 := hk.1
  have hq2 := hk.2
  have hp1 : psum (fun m => if s.1 18 m 0 = 1 then 1 else 0) R ≤ R := psum_ind (fun m => s.1 18 m 0 = 1) R
  have hp2 : psum (fun m => if s.1 18 m 0 = 2 then 1 else 0) R ≤ R := psum_ind (fun m => s.1 18 m 0 = 2) R
  refine g_iload_n dX6_isBackedByChosen_67 rfl ?_
  refine g_lookup (off := 43) 111 dX6_isBackedByChosen_68 (by decide) (by decide) (by decide) ?_
  refine g_iload_n dX6_isBackedByChosen_111 rfl ?_
  refine g_if_le 119 dX6_isBackedByChosen_112 (by decide) (fun h112 => ?_) (fun h112 => ?_)
  · skip
    rw [nI_np (by omega)] at h112
    refine g_iconst (nI (0)) dX6_isBackedByChosen_119 (by decide) ?_
    refine g_zret dX6_isBackedByChosen_120 rfl (rfl) ?_
    first | (exfalso; omega) | exact ⟨rfl, rfl⟩
  · skip
    rw [nI_np (by omega)] at h112
    refine g_iconst (nI (1)) dX6_isBackedByChosen_115 (by decide) ?_
    refine g_goto 120 dX6_isBackedByChosen_116 (by decide) ?_
    refine g_zret dX6_isBackedByChosen_120 rfl (rfl) ?_
    first | (exfalso; omega) | exact ⟨rfl, rfl⟩

set_option maxRecDepth 100000 in
theorem c_back_s {R A : Nat} (hRA : pRA R A) {s : pT} {σ : gSt} (hc : cRel R A s σ) (hb : pBu s.1) {d : Nat} (hd : d ≤ 2) {Q : gOut → gSt → Prop} (hq : gEx (cG R A) mX6_isBackedByChosen 0 67 [some (.inr 0), some (.inl (nI d)), some (.inl (nI (psum (fun m => if s.1 18 m 0 = 1 then 1 else 0) R))), some (.inl (nI (psum (fun m => if s.1 18 m 0 = 2 then 1 else 0) R))), some (.inl (nI R))] [] σ Q) : gEM (cG R A) mX6_isBackedByChosen 0 [.inr (0), .inl (nI (d))] σ (Q) := by
  refine gEM_of (by decide +kernel) rfl (Nat.le_of_ble_eq_true rfl) ?_
  refine g_iconst (nI (0)) dX6_isBackedByChosen_0 (by decide) ?_
  refine g_istore_n dX6_isBackedByChosen_1 (by decide) ?_
  refine g_iconst (nI (0)) dX6_isBackedByChosen_2 (by decide) ?_
  refine g_istore_n dX6_isBackedByChosen_3 (by decide) ?_
  refine g_iconst (nI (0)) dX6_isBackedByChosen_4 (by decide) ?_
  refine g_istore dX6_isBackedByChosen_5 (by decide) ?_
  exact c_back_l hRA hc hb hd hq (R + 1) 0 (by omega) (by omega)

theorem c_back {R A : Nat} (hRA : pRA R A) {s : pT} {σ : gSt} (hc : cRel R A s σ) (hb : pBu s.1) {d : Nat} (hd : d ≤ 2) (hk : pBack R s.1 d) : gEM (cG R A) mX6_isBackedByChosen 0 [.inr 0, .inl (nI d)] σ (gR 1 (fun τ => τ = σ)) := by
  have h67 : gEx (cG R A) mX6_isBackedByChosen 0 67 [some (.inr 0), some (.inl (nI d)), some (.inl (nI (psum (fun m => if s.1 18 m 0 = 1 then 1 else 0) R))), some (.inl (nI (psum (fun m => if s.1 18 m 0 = 2 then 1 else 0) R))), some (.inl (nI R))] [] σ (gR 1 (fun τ => τ = σ)) := by
    rcases (show d = 0 ∨ d = 1 ∨ d = 2 by omega) with e | e | e
    · subst e; exact c_back_e0 hRA hc hb hk
    · subst e; exact c_back_e1 hRA hc hb hk
    · subst e; exact c_back_e2 hRA hc hb hk
  exact c_back_s hRA hc hb hd h67

set_option maxRecDepth 100000 in
theorem c_ast_m {R A : Nat} (hRA : pRA R A) {s : pT} {σ : gSt} (hc : cRel R A s σ) (hb : pBu s.1) {y : Int32} (h4 : ∀ l, l < 3 → pBack R s.1 (s.1 10 l 0)) : ∀ (k i : Nat), i ≤ 3 → 3 - i < k → gEx (cG R A) mX6_astray 0 83 [some (.inr 0), some (.inl y), some (.inl (nI 0)), some (.inl (nI i))] [] σ (gR (nI 0) (fun τ => τ = σ)) := by
  intro k
  induction k with
  | zero => intro i hi1 hi2; exact absurd hi2 (by omega)
  | succ k ih =>
    intro i hi1 hi2 
    obtain ⟨hR1, hR6, hA35⟩ := hRA
    refine g_iload_n dX6_astray_83 rfl ?_
    refine g_iconst (nI (3)) dX6_astray_84 (by decide) ?_
    refine g_icmp_ge 113 dX6_astray_85 (by decide) (fun h85 => ?_) (fun h85 => ?_)
    · skip
      rw [nI_leI (by omega) (by omega)] at h85
      refine g_iload_n dX6_astray_113 rfl ?_
      exact g_iret dX6_astray_114 rfl (⟨rfl, rfl⟩)
    · skip
      rw [nI_leI (by omega) (by omega)] at h85
      have hi9 : i < 3 := by omega
      have hb10 : s.1 10 i 0 ≤ 2 := hb 10 i 0 (by decide) (by decide)
      refine g_aload_n dX6_astray_88 rfl ?_
      refine g_aload_n dX6_astray_89 rfl ?_
      refine g_getr (T := TX6) (N := 7) (Cn := RX6) (ref := "CommitCouncil") 2 dX6_astray_90 (cIn_lo (by decide)) cSh_0 rfl (fun w h => List.mem_cons_of_mem _ (hU6 w h)) (by decide) (List.mem_cons_of_mem _ uw_1_160) (Or.inl rfl) rfl ?_
      refine g_iload_n dX6_astray_93 rfl ?_
      refine g_aald3N (n := 3) (j := i) dX6_astray_94 (cIn_lo (by decide)) cSh_3 hi9 (by omega) ?_
      refine g_get (T := TX1) (N := 10) (Cn := RX1) (ref := "CommitCouncil$Leader") 4 dX6_astray_95 (cIn_l hi9) (cSh_l hi9) rfl (fun w h => List.mem_cons_of_mem _ (hU1 w h)) (by decide) (List.mem_cons_of_mem _ uw_1_86) (Or.inl rfl) rfl ?_
      refine gEx.top (v := .inl (nI (s.1 10 i 0))) (congrArg Sum.inl ((hc.2.2.2.2.2 i hi9).2.2.2.2.1)) ?_
      refine g_callVi (nI (1)) (n9 := 1) [.inl (nI (s.1 10 i 0))] [] (c_back ⟨hR1, hR6, hA35⟩ hc hb hb10 (h4 i hi9)) dX6_astray_98 (gU_V uw_2_46 uw_2_48 us_0_4 uw_1_1 uw_2_49) rfl (by decide +kernel) rfl ⟨by decide, by decide⟩ (cIn_lo (by decide)) cSh_0 rfl rfl (Nat.le_of_ble_eq_true rfl) (fun τ3 hq3 => ?_)
      subst hq3
      refine g_if_ne 107 dX6_astray_101 (by decide) (fun h101 => ?_) (fun h101 => ?_)
      · skip
        rw [nI_z (by omega)] at h101
        refine g_iinc (nI (i + 1)) dX6_astray_107 rfl (show nI (i) + nI 1 = _ from nI_add _ _) (by decide) ?_
        refine g_goto 83 dX6_astray_110 (by decide) ?_
        exact ih (i + 1) (by omega) (by omega)
      · skip
        rw [nI_z (by omega)] at h101
        exfalso; omega

set_option maxRecDepth 100000 in
theorem c_ast_l {R A : Nat} (hRA : pRA R A) {s : pT} {σ : gSt} (hc : cRel R A s σ) (hb : pBu s.1) {y : Int32} (h2 : ∀ m, m < R → s.1 3 m 0 = 3 → s.1 4 m 0 = 1) (h3 : ∀ m, m < R → s.1 19 m 0 = 0) (h4 : ∀ l, l < 3 → pBack R s.1 (s.1 10 l 0)) : ∀ (k i : Nat), i ≤ R → R - i < k → gEx (cG R A) mX6_astray 0 22 [some (.inr 0), some (.inl y), some (.inl (nI 0)), some (.inl (nI i))] [] σ (gR (nI 0) (fun τ => τ = σ)) := by
  intro k
  induction k with
  | zero => intro i hi1 hi2; exact absurd hi2 (by omega)
  | succ k ih =>
    intro i hi1 hi2 
    obtain ⟨hR1, hR6, hA35⟩ := hRA
    refine g_iload_n dX6_astray_22 rfl ?_
    refine g_aload_n dX6_astray_23 rfl ?_
    refine g_getr (T := TX6) (N := 7) (Cn := RX6) (ref := "CommitCouncil") 0 dX6_astray_24 (cIn_lo (by decide)) cSh_0 rfl (fun w h => List.mem_cons_of_mem _ (hU6 w h)) (by decide) (List.mem_cons_of_mem _ uw_1_158) (Or.inl rfl) rfl ?_
    refine g_alen (nI (R)) dX6_astray_27 (cIn_lo (by decide)) cSh_1 (by decide) rfl ?_
    refine g_icmp_ge 81 dX6_astray_28 (by decide) (fun h28 => ?_) (fun h28 => ?_)
    · skip
      rw [nI_leI (by omega) (by omega)] at h28
      refine g_iconst (nI (0)) dX6_astray_81 (by decide) ?_
      refine g_istore_n dX6_astray_82 (by decide) ?_
      exact c_ast_m ⟨hR1, hR6, hA35⟩ hc hb h4 4 0 (by decide) (by decide)
    · skip
      rw [nI_leI (by omega) (by omega)] at h28
      have hi9 : i < R := by omega
      have hb3 : s.1 3 i 0 ≤ 4 := hb 3 i 0 (by decide) (by decide)
      have hb4 : s.1 4 i 0 ≤ 2 := hb 4 i 0 (by decide) (by decide)
      have h2i := h2 i hi9
      have h3i := h3 i hi9
      refine g_aload_n dX6_astray_31 rfl ?_
      refine g_getr (T := TX6) (N := 7) (Cn := RX6) (ref := "CommitCouncil") 0 dX6_astray_32 (cIn_lo (by decide)) cSh_0 rfl (fun w h => List.mem_cons_of_mem _ (hU6 w h)) (by decide) (List.mem_cons_of_mem _ uw_1_158) (Or.inl rfl) rfl ?_
      refine g_iload_n dX6_astray_35 rfl ?_
      refine g_aald4N (n := R) (j := i) dX6_astray_36 (cIn_lo (by decide)) cSh_1 hi9 (by omega) ?_
      refine g_get (T := TX4) (N := 3) (Cn := RX4) (ref := "CommitCouncil$Manager") 1 dX6_astray_37 (cIn_m hi9) (cSh_m (by omega)) rfl (fun w h => List.mem_cons_of_mem _ (hU4 w h)) (by decide) (List.mem_cons_of_mem _ uw_1_37) (Or.inl rfl) rfl ?_
      refine gEx.top (v := .inl (nI (s.1 3 i 0))) (congrArg Sum.inl ((hc.2.2.2.1 i hi9).2.1)) ?_
      refine g_iconst (nI (3)) dX6_astray_40 (by decide) ?_
      refine g_icmp_ne 60 dX6_astray_41 (by decide) (fun h41 => ?_) (fun h41 => ?_)
      · skip
        rw [nI_eq (by omega) (by omega)] at h41
        refine g_aload_n dX6_astray_60 rfl ?_
        refine g_getr (T := TX6) (N := 7) (Cn := RX6) (ref := "CommitCouncil") 4 dX6_astray_61 (cIn_lo (by decide)) cSh_0 rfl (fun w h => List.mem_cons_of_mem _ (hU6 w h)) (by decide) (List.mem_cons_of_mem _ uw_1_162) (Or.inl rfl) rfl ?_
        refine g_getr (T := TX2) (N := 4) (Cn := RX2) (ref := "CommitCouncil$Ledger") 1 dX6_astray_64 (cIn_lo (by decide)) cSh_6 rfl (fun w h => List.mem_cons_of_mem _ (hU2 w h)) (by decide) (List.mem_cons_of_mem _ uw_1_145) (Or.inl rfl) rfl ?_
        refine g_iload_n dX6_astray_67 rfl ?_
        refine g_zaldN (n := R) (j := i) dX6_astray_68 (cIn_lo (by decide)) cSh_8 (hi9) (by omega) ?_
        refine gEx.top (v := .inl (nI (s.1 19 (i) 0))) (congrArg Sum.inl (hc.2.2.1.2.2.1 (i) (by omega))) ?_
        refine g_if_eq 75 dX6_astray_69 (by decide) (fun h69 => ?_) (fun h69 => ?_)
        · skip
          rw [nI_z (by omega)] at h69
          refine g_iinc (nI (i + 1)) dX6_astray_75 rfl (show nI (i) + nI 1 = _ from nI_add _ _) (by decide) ?_
          refine g_goto 22 dX6_astray_78 (by decide) ?_
          exact ih (i + 1) (by omega) (by omega)
        · skip
          rw [nI_z (by omega)] at h69
          exfalso; omega
      · skip
        rw [nI_eq (by omega) (by omega)] at h41
        refine g_aload_n dX6_astray_44 rfl ?_
        refine g_getr (T := TX6) (N := 7) (Cn := RX6) (ref := "CommitCouncil") 0 dX6_astray_45 (cIn_lo (by decide)) cSh_0 rfl (fun w h => List.mem_cons_of_mem _ (hU6 w h)) (by decide) (List.mem_cons_of_mem _ uw_1_158) (Or.inl rfl) rfl ?_
        refine g_iload_n dX6_astray_48 rfl ?_
        refine g_aald4N (n := R) (j := i) dX6_astray_49 (cIn_lo (by decide)) cSh_1 hi9 (by omega) ?_
        refine g_get (T := TX4) (N := 3) (Cn := RX4) (ref := "CommitCouncil$Manager") 2 dX6_astray_50 (cIn_m hi9) (cSh_m (by omega)) rfl (fun w h => List.mem_cons_of_mem _ (hU4 w h)) (by decide) (List.mem_cons_of_mem _ uw_1_38) (Or.inl rfl) rfl ?_
        refine gEx.top (v := .inl (nI (s.1 4 i 0))) (congrArg Sum.inl ((hc.2.2.2.1 i hi9).2.2)) ?_
        refine g_iconst (nI (1)) dX6_astray_53 (by decide) ?_
        refine g_icmp_eq 60 dX6_astray_54 (by decide) (fun h54 => ?_) (fun h54 => ?_)
        · skip
          rw [nI_eq (by omega) (by omega)] at h54
          refine g_aload_n dX6_astray_60 rfl ?_
          refine g_getr (T := TX6) (N := 7) (Cn := RX6) (ref := "CommitCouncil") 4 dX6_astray_61 (cIn_lo (by decide)) cSh_0 rfl (fun w h => List.mem_cons_of_mem _ (hU6 w h)) (by decide) (List.mem_cons_of_mem _ uw_1_162) (Or.inl rfl) rfl ?_
          refine g_getr (T := TX2) (N := 4) (Cn := RX2) (ref := "CommitCouncil$Ledger") 1 dX6_astray_64 (cIn_lo (by decide)) cSh_6 rfl (fun w h => List.mem_cons_of_mem _ (hU2 w h)) (by decide) (List.mem_cons_of_mem _ uw_1_145) (Or.inl rfl) rfl ?_
          refine g_iload_n dX6_astray_67 rfl ?_
          refine g_zaldN (n := R) (j := i) dX6_astray_68 (cIn_lo (by decide)) cSh_8 (hi9) (by omega) ?_
          refine gEx.top (v := .inl (nI (s.1 19 (i) 0))) (congrArg Sum.inl (hc.2.2.1.2.2.1 (i) (by omega))) ?_
          refine g_if_eq 75 dX6_astray_69 (by decide) (fun h69 => ?_) (fun h69 => ?_)
          · skip
            rw [nI_z (by omega)] at h69
            refine g_iinc (nI (i + 1)) dX6_astray_75 rfl (show nI (i) + nI 1 = _ from nI_add _ _) (by decide) ?_
            refine g_goto 22 dX6_astray_78 (by decide) ?_
            exact ih (i + 1) (by omega) (by omega)
          · skip
            rw [nI_z (by omega)] at h69
            exfalso; omega
        · skip
          rw [nI_eq (by omega) (by omega)] at h54
          exfalso; omega

set_option maxRecDepth 100000 in
/-- astray -/
theorem c_astray {R A : Nat} (hRA : pRA R A) {s : pT} {σ : gSt} (hc : cRel R A s σ) (hb : pBu s.1) (h1 : psum (fun m => if s.1 3 m 0 = 4 then 1 else 0) R = 0 ∨ psum (fun m => if s.1 3 m 0 = 3 then 1 else 0) R = 0) (h2 : ∀ m, m < R → s.1 3 m 0 = 3 → s.1 4 m 0 = 1) (h3 : ∀ m, m < R → s.1 19 m 0 = 0) (h4 : ∀ l, l < 3 → pBack R s.1 (s.1 10 l 0)) : gEM (cG R A) mX6_astray 0 [.inr (0)] σ (gR (nI 0) (fun τ => τ = σ)) := by
  obtain ⟨hR1, hR6, hA35⟩ := hRA
  have hA5 : A ≤ 5 := by omega
  have q3 : psum (fun m => if s.1 3 m 0 = 3 then 1 else 0) R ≤ R := psum_ind (fun m => s.1 3 m 0 = 3) R
  have q4 : psum (fun m => if s.1 3 m 0 = 4 then 1 else 0) R ≤ R := psum_ind (fun m => s.1 3 m 0 = 4) R
  refine gEM_of (by decide +kernel) rfl (Nat.le_of_ble_eq_true rfl) ?_
  refine g_aload_n dX6_astray_0 rfl ?_
  refine g_iconst (nI (3)) dX6_astray_1 (by decide) ?_
  refine g_callVi (nI (psum (fun m => if s.1 3 m 0 = 3 then 1 else 0) R)) (n9 := 1) [.inl (nI (3))] [] (c_hmm ⟨hR1, hR6, hA35⟩ hc hb (by decide)) dX6_astray_2 (gU_V uw_2_38 uw_2_40 us_0_3 uw_1_1 uw_2_41) rfl (by decide +kernel) rfl ⟨by decide, by decide⟩ (cIn_lo (by decide)) cSh_0 rfl rfl (Nat.le_of_ble_eq_true rfl) (fun τ1 hq1 => ?_)
  subst hq1
  refine g_istore_n dX6_astray_5 (by decide) ?_
  refine g_aload_n dX6_astray_6 rfl ?_
  refine g_iconst (nI (4)) dX6_astray_7 (by decide) ?_
  refine g_callVi (nI (psum (fun m => if s.1 3 m 0 = 4 then 1 else 0) R)) (n9 := 1) [.inl (nI (4))] [] (c_hmm ⟨hR1, hR6, hA35⟩ hc hb (by decide)) dX6_astray_8 (gU_V uw_2_38 uw_2_40 us_0_3 uw_1_1 uw_2_41) rfl (by decide +kernel) rfl ⟨by decide, by decide⟩ (cIn_lo (by decide)) cSh_0 rfl rfl (Nat.le_of_ble_eq_true rfl) (fun τ2 hq2 => ?_)
  subst hq2
  refine g_if_le 18 dX6_astray_11 (by decide) (fun h11 => ?_) (fun h11 => ?_)
  · skip
    rw [nI_np (by omega)] at h11
    refine g_iconst (nI (0)) dX6_astray_18 (by decide) ?_
    refine g_istore_n dX6_astray_19 (by decide) ?_
    refine g_iconst (nI (0)) dX6_astray_20 (by decide) ?_
    refine g_istore_n dX6_astray_21 (by decide) ?_
    exact c_ast_l ⟨hR1, hR6, hA35⟩ hc hb h2 h3 h4 (R + 1) 0 (by omega) (by omega)
  · skip
    rw [nI_np (by omega)] at h11
    refine g_iload_n dX6_astray_14 rfl ?_
    refine g_goto 19 dX6_astray_15 (by decide) ?_
    refine g_istore_n dX6_astray_19 (by decide) ?_
    refine g_iconst (nI (0)) dX6_astray_20 (by decide) ?_
    refine g_istore_n dX6_astray_21 (by decide) ?_
    have e : psum (fun m => if s.1 3 m 0 = 3 then 1 else 0) R = 0 := by omega
    rw [e]
    exact c_ast_l ⟨hR1, hR6, hA35⟩ hc hb h2 h3 h4 (R + 1) 0 (by omega) (by omega)
