set_option maxRecDepth 100000 in
/-- isUp: kind 0 -/
theorem c_isUp0 {R A : Nat} (hRA : pRA R A) {s : pT} {σ : gSt} (hc : cRel R A s σ) (hb : pBu s.1) {i : Nat} {x : pMsg} (hx : s.2[i]? = some x) (hk : x 0 = 0) (hp : pMk R A x) : gEM (cG R A) mX6_isUp 0 [.inr (0), .inl (nI (0)), .inl (nI (x 1))] σ (gR (nI (pUpOf s.1 x)) (fun τ => τ = σ)) := by
  obtain ⟨hR1, hR6, hA35⟩ := hRA
  have hA5 : A ≤ 5 := by omega
  have hi := (List.getElem?_eq_some_iff.mp hx).1
  have hbd := pBu_bd (R := R) (A := A) hb
  obtain ⟨hx1, hx3, hx5⟩ := hp.2.1 hk
  have hx4 := hp.1
  have hbu := fun i j => hbd.1 i j
  have hb5 := hbd.2.2.2.1 (x 1)
  have hb10 := hbd.2.2.2.2.2.2.2.2.1 (x 1)
  have hra := raB hR6 hA5
  have hup : pUpOf s.1 x = s.1 2 1 (x 1) := by unfold pUpOf; simp [hk]
  have hbuk := hbu 1 (x 1)
  refine gEM_of (by decide +kernel) rfl (Nat.le_of_ble_eq_true rfl) ?_
  refine g_iload_n dX6_isUp_0 rfl ?_
  refine g_tableIn (off := 39) 40 dX6_isUp_1 (by decide) (by decide) (by decide) (by decide) ?_
  refine g_iload_n dX6_isUp_40 rfl ?_
  refine g_if_lt 69 dX6_isUp_41 (by decide) (fun h41 => ?_) (fun h41 => ?_)
  · skip
    rw [nI_n (by omega)] at h41
    exact h41.elim
  · skip
    rw [nI_n (by omega)] at h41
    refine g_iload_n dX6_isUp_44 rfl ?_
    refine g_aload_n dX6_isUp_45 rfl ?_
    refine g_getr (T := TX6) (N := 7) (Cn := RX6) (ref := "CommitCouncil") 1 dX6_isUp_46 (cIn_lo (by decide)) cSh_0 rfl (fun w h => List.mem_cons_of_mem _ (hU6 w h)) (by decide) (List.mem_cons_of_mem _ uw_1_159) (Or.inl rfl) rfl ?_
    refine g_alen (nI (A)) dX6_isUp_49 (cIn_lo (by decide)) cSh_2 (by decide) rfl ?_
    refine g_icmp_ge 69 dX6_isUp_50 (by decide) (fun h50 => ?_) (fun h50 => ?_)
    · skip
      rw [nI_leI (by omega) (by omega)] at h50
      exfalso; omega
    · skip
      rw [nI_leI (by omega) (by omega)] at h50
      refine g_aload_n dX6_isUp_53 rfl ?_
      refine g_getr (T := TX6) (N := 7) (Cn := RX6) (ref := "CommitCouncil") 1 dX6_isUp_54 (cIn_lo (by decide)) cSh_0 rfl (fun w h => List.mem_cons_of_mem _ (hU6 w h)) (by decide) (List.mem_cons_of_mem _ uw_1_159) (Or.inl rfl) rfl ?_
      refine g_iload_n dX6_isUp_57 rfl ?_
      refine g_aald2N (n := A) (j := x 1) dX6_isUp_58 (cIn_lo (by decide)) cSh_2 hx1 (by omega) ?_
      refine g_get (T := TX0) (N := 3) (Cn := RX0) (ref := "CommitCouncil$Acceptor") 0 dX6_isUp_59 (cIn_a hx1) (cSh_a (by omega)) rfl (fun w h => List.mem_cons_of_mem _ (hU0 w h)) (by decide) (List.mem_cons_of_mem _ uw_1_45) (Or.inr (List.mem_cons_of_mem _ uw_1_46)) rfl ?_
      refine gEx.top (v := .inl (nI (s.1 2 1 (x 1)))) (congrArg Sum.inl ((hc.2.2.2.2.1 (x 1) hx1).1)) ?_
      refine g_if_eq 69 dX6_isUp_62 (by decide) (fun h62 => ?_) (fun h62 => ?_)
      · skip
        rw [nI_z (by omega)] at h62
        refine g_iconst (nI (0)) dX6_isUp_69 (by decide) ?_
        exact g_zret dX6_isUp_70 rfl (rfl) (⟨by rw [hup, show s.1 2 1 (x 1) = 0 by omega], rfl⟩)
      · skip
        rw [nI_z (by omega)] at h62
        refine g_iconst (nI (1)) dX6_isUp_65 (by decide) ?_
        refine g_goto 70 dX6_isUp_66 (by decide) ?_
        exact g_zret dX6_isUp_70 rfl (rfl) (⟨by rw [hup, show s.1 2 1 (x 1) = 1 by omega], rfl⟩)

set_option maxRecDepth 100000 in
/-- isUp: kind 1 -/
theorem c_isUp1 {R A : Nat} (hRA : pRA R A) {s : pT} {σ : gSt} (hc : cRel R A s σ) (hb : pBu s.1) {i : Nat} {x : pMsg} (hx : s.2[i]? = some x) (hk : x 0 = 1) (hp : pMk R A x) : gEM (cG R A) mX6_isUp 0 [.inr (0), .inl (nI (1)), .inl (nI (x 1))] σ (gR (nI (pUpOf s.1 x)) (fun τ => τ = σ)) := by
  obtain ⟨hR1, hR6, hA35⟩ := hRA
  have hA5 : A ≤ 5 := by omega
  have hi := (List.getElem?_eq_some_iff.mp hx).1
  have hbd := pBu_bd (R := R) (A := A) hb
  obtain ⟨hx1, hx2, hx3, hx5⟩ := hp.2.2.1 hk
  have hx4 := hp.1
  have hbu := fun i j => hbd.1 i j
  have hb5 := hbd.2.2.2.1 (x 1)
  have hb10 := hbd.2.2.2.2.2.2.2.2.1 (x 1)
  have hra := raB hR6 hA5
  have hup : pUpOf s.1 x = s.1 2 2 (x 1) := by unfold pUpOf; simp [hk]
  have hbuk := hbu 2 (x 1)
  refine gEM_of (by decide +kernel) rfl (Nat.le_of_ble_eq_true rfl) ?_
  refine g_iload_n dX6_isUp_0 rfl ?_
  refine g_tableIn (off := 70) 71 dX6_isUp_1 (by decide) (by decide) (by decide) (by decide) ?_
  refine g_iload_n dX6_isUp_71 rfl ?_
  refine g_if_lt 96 dX6_isUp_72 (by decide) (fun h72 => ?_) (fun h72 => ?_)
  · skip
    rw [nI_n (by omega)] at h72
    exact h72.elim
  · skip
    rw [nI_n (by omega)] at h72
    refine g_iload_n dX6_isUp_75 rfl ?_
    refine g_iconst (nI (3)) dX6_isUp_76 (by decide) ?_
    refine g_icmp_ge 96 dX6_isUp_77 (by decide) (fun h77 => ?_) (fun h77 => ?_)
    · skip
      rw [nI_leI (by omega) (by omega)] at h77
      exfalso; omega
    · skip
      rw [nI_leI (by omega) (by omega)] at h77
      refine g_aload_n dX6_isUp_80 rfl ?_
      refine g_getr (T := TX6) (N := 7) (Cn := RX6) (ref := "CommitCouncil") 2 dX6_isUp_81 (cIn_lo (by decide)) cSh_0 rfl (fun w h => List.mem_cons_of_mem _ (hU6 w h)) (by decide) (List.mem_cons_of_mem _ uw_1_160) (Or.inl rfl) rfl ?_
      refine g_iload_n dX6_isUp_84 rfl ?_
      refine g_aald3N (n := 3) (j := x 1) dX6_isUp_85 (cIn_lo (by decide)) cSh_3 hx1 (by omega) ?_
      refine g_get (T := TX1) (N := 10) (Cn := RX1) (ref := "CommitCouncil$Leader") 0 dX6_isUp_86 (cIn_l hx1) (cSh_l hx1) rfl (fun w h => List.mem_cons_of_mem _ (hU1 w h)) (by decide) (List.mem_cons_of_mem _ uw_1_42) (Or.inr (List.mem_cons_of_mem _ uw_1_43)) rfl ?_
      refine gEx.top (v := .inl (nI (s.1 2 2 (x 1)))) (congrArg Sum.inl ((hc.2.2.2.2.2 (x 1) hx1).1)) ?_
      refine g_if_eq 96 dX6_isUp_89 (by decide) (fun h89 => ?_) (fun h89 => ?_)
      · skip
        rw [nI_z (by omega)] at h89
        refine g_iconst (nI (0)) dX6_isUp_96 (by decide) ?_
        exact g_zret dX6_isUp_97 rfl (rfl) (⟨by rw [hup, show s.1 2 2 (x 1) = 0 by omega], rfl⟩)
      · skip
        rw [nI_z (by omega)] at h89
        refine g_iconst (nI (1)) dX6_isUp_92 (by decide) ?_
        refine g_goto 97 dX6_isUp_93 (by decide) ?_
        exact g_zret dX6_isUp_97 rfl (rfl) (⟨by rw [hup, show s.1 2 2 (x 1) = 1 by omega], rfl⟩)

set_option maxRecDepth 100000 in
/-- isUp: kind 2 -/
theorem c_isUp2 {R A : Nat} (hRA : pRA R A) {s : pT} {σ : gSt} (hc : cRel R A s σ) (hb : pBu s.1) {i : Nat} {x : pMsg} (hx : s.2[i]? = some x) (hk : x 0 = 2) (hp : pMk R A x) : gEM (cG R A) mX6_isUp 0 [.inr (0), .inl (nI (2)), .inl (nI (x 1))] σ (gR (nI (pUpOf s.1 x)) (fun τ => τ = σ)) := by
  obtain ⟨hR1, hR6, hA35⟩ := hRA
  have hA5 : A ≤ 5 := by omega
  have hi := (List.getElem?_eq_some_iff.mp hx).1
  have hbd := pBu_bd (R := R) (A := A) hb
  obtain ⟨hx1, hx41⟩ := hp.2.2.2.1 hk
  have hx4 := hp.1
  have hbu := fun i j => hbd.1 i j
  have hb5 := hbd.2.2.2.1 (x 1)
  have hb10 := hbd.2.2.2.2.2.2.2.2.1 (x 1)
  have hra := raB hR6 hA5
  have hup : pUpOf s.1 x = s.1 2 1 (x 1) := by unfold pUpOf; simp [hk]
  have hbuk := hbu 1 (x 1)
  refine gEM_of (by decide +kernel) rfl (Nat.le_of_ble_eq_true rfl) ?_
  refine g_iload_n dX6_isUp_0 rfl ?_
  refine g_tableIn (off := 39) 40 dX6_isUp_1 (by decide) (by decide) (by decide) (by decide) ?_
  refine g_iload_n dX6_isUp_40 rfl ?_
  refine g_if_lt 69 dX6_isUp_41 (by decide) (fun h41 => ?_) (fun h41 => ?_)
  · skip
    rw [nI_n (by omega)] at h41
    exact h41.elim
  · skip
    rw [nI_n (by omega)] at h41
    refine g_iload_n dX6_isUp_44 rfl ?_
    refine g_aload_n dX6_isUp_45 rfl ?_
    refine g_getr (T := TX6) (N := 7) (Cn := RX6) (ref := "CommitCouncil") 1 dX6_isUp_46 (cIn_lo (by decide)) cSh_0 rfl (fun w h => List.mem_cons_of_mem _ (hU6 w h)) (by decide) (List.mem_cons_of_mem _ uw_1_159) (Or.inl rfl) rfl ?_
    refine g_alen (nI (A)) dX6_isUp_49 (cIn_lo (by decide)) cSh_2 (by decide) rfl ?_
    refine g_icmp_ge 69 dX6_isUp_50 (by decide) (fun h50 => ?_) (fun h50 => ?_)
    · skip
      rw [nI_leI (by omega) (by omega)] at h50
      exfalso; omega
    · skip
      rw [nI_leI (by omega) (by omega)] at h50
      refine g_aload_n dX6_isUp_53 rfl ?_
      refine g_getr (T := TX6) (N := 7) (Cn := RX6) (ref := "CommitCouncil") 1 dX6_isUp_54 (cIn_lo (by decide)) cSh_0 rfl (fun w h => List.mem_cons_of_mem _ (hU6 w h)) (by decide) (List.mem_cons_of_mem _ uw_1_159) (Or.inl rfl) rfl ?_
      refine g_iload_n dX6_isUp_57 rfl ?_
      refine g_aald2N (n := A) (j := x 1) dX6_isUp_58 (cIn_lo (by decide)) cSh_2 hx1 (by omega) ?_
      refine g_get (T := TX0) (N := 3) (Cn := RX0) (ref := "CommitCouncil$Acceptor") 0 dX6_isUp_59 (cIn_a hx1) (cSh_a (by omega)) rfl (fun w h => List.mem_cons_of_mem _ (hU0 w h)) (by decide) (List.mem_cons_of_mem _ uw_1_45) (Or.inr (List.mem_cons_of_mem _ uw_1_46)) rfl ?_
      refine gEx.top (v := .inl (nI (s.1 2 1 (x 1)))) (congrArg Sum.inl ((hc.2.2.2.2.1 (x 1) hx1).1)) ?_
      refine g_if_eq 69 dX6_isUp_62 (by decide) (fun h62 => ?_) (fun h62 => ?_)
      · skip
        rw [nI_z (by omega)] at h62
        refine g_iconst (nI (0)) dX6_isUp_69 (by decide) ?_
        exact g_zret dX6_isUp_70 rfl (rfl) (⟨by rw [hup, show s.1 2 1 (x 1) = 0 by omega], rfl⟩)
      · skip
        rw [nI_z (by omega)] at h62
        refine g_iconst (nI (1)) dX6_isUp_65 (by decide) ?_
        refine g_goto 70 dX6_isUp_66 (by decide) ?_
        exact g_zret dX6_isUp_70 rfl (rfl) (⟨by rw [hup, show s.1 2 1 (x 1) = 1 by omega], rfl⟩)

set_option maxRecDepth 100000 in
/-- isUp: kind 3 -/
theorem c_isUp3 {R A : Nat} (hRA : pRA R A) {s : pT} {σ : gSt} (hc : cRel R A s σ) (hb : pBu s.1) {i : Nat} {x : pMsg} (hx : s.2[i]? = some x) (hk : x 0 = 3) (hp : pMk R A x) : gEM (cG R A) mX6_isUp 0 [.inr (0), .inl (nI (3)), .inl (nI (x 1))] σ (gR (nI (pUpOf s.1 x)) (fun τ => τ = σ)) := by
  obtain ⟨hR1, hR6, hA35⟩ := hRA
  have hA5 : A ≤ 5 := by omega
  have hi := (List.getElem?_eq_some_iff.mp hx).1
  have hbd := pBu_bd (R := R) (A := A) hb
  obtain ⟨hx1, hx2, hx41, hxt⟩ := hp.2.2.2.2.1 hk
  have hx4 := hp.1
  have hbu := fun i j => hbd.1 i j
  have hb5 := hbd.2.2.2.1 (x 1)
  have hb10 := hbd.2.2.2.2.2.2.2.2.1 (x 1)
  have hra := raB hR6 hA5
  have hup : pUpOf s.1 x = s.1 2 2 (x 1) := by unfold pUpOf; simp [hk]
  have hbuk := hbu 2 (x 1)
  refine gEM_of (by decide +kernel) rfl (Nat.le_of_ble_eq_true rfl) ?_
  refine g_iload_n dX6_isUp_0 rfl ?_
  refine g_tableIn (off := 70) 71 dX6_isUp_1 (by decide) (by decide) (by decide) (by decide) ?_
  refine g_iload_n dX6_isUp_71 rfl ?_
  refine g_if_lt 96 dX6_isUp_72 (by decide) (fun h72 => ?_) (fun h72 => ?_)
  · skip
    rw [nI_n (by omega)] at h72
    exact h72.elim
  · skip
    rw [nI_n (by omega)] at h72
    refine g_iload_n dX6_isUp_75 rfl ?_
    refine g_iconst (nI (3)) dX6_isUp_76 (by decide) ?_
    refine g_icmp_ge 96 dX6_isUp_77 (by decide) (fun h77 => ?_) (fun h77 => ?_)
    · skip
      rw [nI_leI (by omega) (by omega)] at h77
      exfalso; omega
    · skip
      rw [nI_leI (by omega) (by omega)] at h77
      refine g_aload_n dX6_isUp_80 rfl ?_
      refine g_getr (T := TX6) (N := 7) (Cn := RX6) (ref := "CommitCouncil") 2 dX6_isUp_81 (cIn_lo (by decide)) cSh_0 rfl (fun w h => List.mem_cons_of_mem _ (hU6 w h)) (by decide) (List.mem_cons_of_mem _ uw_1_160) (Or.inl rfl) rfl ?_
      refine g_iload_n dX6_isUp_84 rfl ?_
      refine g_aald3N (n := 3) (j := x 1) dX6_isUp_85 (cIn_lo (by decide)) cSh_3 hx1 (by omega) ?_
      refine g_get (T := TX1) (N := 10) (Cn := RX1) (ref := "CommitCouncil$Leader") 0 dX6_isUp_86 (cIn_l hx1) (cSh_l hx1) rfl (fun w h => List.mem_cons_of_mem _ (hU1 w h)) (by decide) (List.mem_cons_of_mem _ uw_1_42) (Or.inr (List.mem_cons_of_mem _ uw_1_43)) rfl ?_
      refine gEx.top (v := .inl (nI (s.1 2 2 (x 1)))) (congrArg Sum.inl ((hc.2.2.2.2.2 (x 1) hx1).1)) ?_
      refine g_if_eq 96 dX6_isUp_89 (by decide) (fun h89 => ?_) (fun h89 => ?_)
      · skip
        rw [nI_z (by omega)] at h89
        refine g_iconst (nI (0)) dX6_isUp_96 (by decide) ?_
        exact g_zret dX6_isUp_97 rfl (rfl) (⟨by rw [hup, show s.1 2 2 (x 1) = 0 by omega], rfl⟩)
      · skip
        rw [nI_z (by omega)] at h89
        refine g_iconst (nI (1)) dX6_isUp_92 (by decide) ?_
        refine g_goto 97 dX6_isUp_93 (by decide) ?_
        exact g_zret dX6_isUp_97 rfl (rfl) (⟨by rw [hup, show s.1 2 2 (x 1) = 1 by omega], rfl⟩)

set_option maxRecDepth 100000 in
/-- isUp: kind 4 -/
theorem c_isUp4 {R A : Nat} (hRA : pRA R A) {s : pT} {σ : gSt} (hc : cRel R A s σ) (hb : pBu s.1) {i : Nat} {x : pMsg} (hx : s.2[i]? = some x) (hk : x 0 = 4) (hp : pMk R A x) : gEM (cG R A) mX6_isUp 0 [.inr (0), .inl (nI (4)), .inl (nI (x 1))] σ (gR (nI (pUpOf s.1 x)) (fun τ => τ = σ)) := by
  obtain ⟨hR1, hR6, hA35⟩ := hRA
  have hA5 : A ≤ 5 := by omega
  have hi := (List.getElem?_eq_some_iff.mp hx).1
  have hbd := pBu_bd (R := R) (A := A) hb
  obtain ⟨hx1, hx5⟩ := hp.2.2.2.2.2.1 hk
  have hx4 := hp.1
  have hbu := fun i j => hbd.1 i j
  have hb5 := hbd.2.2.2.1 (x 1)
  have hb10 := hbd.2.2.2.2.2.2.2.2.1 (x 1)
  have hra := raB hR6 hA5
  have hup : pUpOf s.1 x = s.1 2 0 (x 1) := by unfold pUpOf; simp [hk]
  have hbuk := hbu 0 (x 1)
  refine gEM_of (by decide +kernel) rfl (Nat.le_of_ble_eq_true rfl) ?_
  refine g_iload_n dX6_isUp_0 rfl ?_
  refine g_tableIn (off := 97) 98 dX6_isUp_1 (by decide) (by decide) (by decide) (by decide) ?_
  refine g_iload_n dX6_isUp_98 rfl ?_
  refine g_if_lt 127 dX6_isUp_99 (by decide) (fun h99 => ?_) (fun h99 => ?_)
  · skip
    rw [nI_n (by omega)] at h99
    exact h99.elim
  · skip
    rw [nI_n (by omega)] at h99
    refine g_iload_n dX6_isUp_102 rfl ?_
    refine g_aload_n dX6_isUp_103 rfl ?_
    refine g_getr (T := TX6) (N := 7) (Cn := RX6) (ref := "CommitCouncil") 0 dX6_isUp_104 (cIn_lo (by decide)) cSh_0 rfl (fun w h => List.mem_cons_of_mem _ (hU6 w h)) (by decide) (List.mem_cons_of_mem _ uw_1_158) (Or.inl rfl) rfl ?_
    refine g_alen (nI (R)) dX6_isUp_107 (cIn_lo (by decide)) cSh_1 (by decide) rfl ?_
    refine g_icmp_ge 127 dX6_isUp_108 (by decide) (fun h108 => ?_) (fun h108 => ?_)
    · skip
      rw [nI_leI (by omega) (by omega)] at h108
      exfalso; omega
    · skip
      rw [nI_leI (by omega) (by omega)] at h108
      refine g_aload_n dX6_isUp_111 rfl ?_
      refine g_getr (T := TX6) (N := 7) (Cn := RX6) (ref := "CommitCouncil") 0 dX6_isUp_112 (cIn_lo (by decide)) cSh_0 rfl (fun w h => List.mem_cons_of_mem _ (hU6 w h)) (by decide) (List.mem_cons_of_mem _ uw_1_158) (Or.inl rfl) rfl ?_
      refine g_iload_n dX6_isUp_115 rfl ?_
      refine g_aald4N (n := R) (j := x 1) dX6_isUp_116 (cIn_lo (by decide)) cSh_1 hx1 (by omega) ?_
      refine g_get (T := TX4) (N := 3) (Cn := RX4) (ref := "CommitCouncil$Manager") 0 dX6_isUp_117 (cIn_m hx1) (cSh_m (by omega)) rfl (fun w h => List.mem_cons_of_mem _ (hU4 w h)) (by decide) (List.mem_cons_of_mem _ uw_1_40) (Or.inr (List.mem_cons_of_mem _ uw_1_41)) rfl ?_
      refine gEx.top (v := .inl (nI (s.1 2 0 (x 1)))) (congrArg Sum.inl ((hc.2.2.2.1 (x 1) hx1).1)) ?_
      refine g_if_eq 127 dX6_isUp_120 (by decide) (fun h120 => ?_) (fun h120 => ?_)
      · skip
        rw [nI_z (by omega)] at h120
        refine g_iconst (nI (0)) dX6_isUp_127 (by decide) ?_
        exact g_zret dX6_isUp_128 rfl (rfl) (⟨by rw [hup, show s.1 2 0 (x 1) = 0 by omega], rfl⟩)
      · skip
        rw [nI_z (by omega)] at h120
        refine g_iconst (nI (1)) dX6_isUp_123 (by decide) ?_
        refine g_goto 128 dX6_isUp_124 (by decide) ?_
        exact g_zret dX6_isUp_128 rfl (rfl) (⟨by rw [hup, show s.1 2 0 (x 1) = 1 by omega], rfl⟩)

set_option maxRecDepth 100000 in
/-- isUp: kind 5 -/
theorem c_isUp5 {R A : Nat} (hRA : pRA R A) {s : pT} {σ : gSt} (hc : cRel R A s σ) (hb : pBu s.1) {i : Nat} {x : pMsg} (hx : s.2[i]? = some x) (hk : x 0 = 5) (hp : pMk R A x) : gEM (cG R A) mX6_isUp 0 [.inr (0), .inl (nI (5)), .inl (nI (x 1))] σ (gR (nI (pUpOf s.1 x)) (fun τ => τ = σ)) := by
  obtain ⟨hR1, hR6, hA35⟩ := hRA
  have hA5 : A ≤ 5 := by omega
  have hi := (List.getElem?_eq_some_iff.mp hx).1
  have hbd := pBu_bd (R := R) (A := A) hb
  obtain ⟨hx1, hx2⟩ := hp.2.2.2.2.2.2.1 hk
  have hx4 := hp.1
  have hbu := fun i j => hbd.1 i j
  have hb5 := hbd.2.2.2.1 (x 1)
  have hb10 := hbd.2.2.2.2.2.2.2.2.1 (x 1)
  have hra := raB hR6 hA5
  have hup : pUpOf s.1 x = s.1 2 2 (x 1) := by unfold pUpOf; simp [hk]
  have hbuk := hbu 2 (x 1)
  refine gEM_of (by decide +kernel) rfl (Nat.le_of_ble_eq_true rfl) ?_
  refine g_iload_n dX6_isUp_0 rfl ?_
  refine g_tableIn (off := 70) 71 dX6_isUp_1 (by decide) (by decide) (by decide) (by decide) ?_
  refine g_iload_n dX6_isUp_71 rfl ?_
  refine g_if_lt 96 dX6_isUp_72 (by decide) (fun h72 => ?_) (fun h72 => ?_)
  · skip
    rw [nI_n (by omega)] at h72
    exact h72.elim
  · skip
    rw [nI_n (by omega)] at h72
    refine g_iload_n dX6_isUp_75 rfl ?_
    refine g_iconst (nI (3)) dX6_isUp_76 (by decide) ?_
    refine g_icmp_ge 96 dX6_isUp_77 (by decide) (fun h77 => ?_) (fun h77 => ?_)
    · skip
      rw [nI_leI (by omega) (by omega)] at h77
      exfalso; omega
    · skip
      rw [nI_leI (by omega) (by omega)] at h77
      refine g_aload_n dX6_isUp_80 rfl ?_
      refine g_getr (T := TX6) (N := 7) (Cn := RX6) (ref := "CommitCouncil") 2 dX6_isUp_81 (cIn_lo (by decide)) cSh_0 rfl (fun w h => List.mem_cons_of_mem _ (hU6 w h)) (by decide) (List.mem_cons_of_mem _ uw_1_160) (Or.inl rfl) rfl ?_
      refine g_iload_n dX6_isUp_84 rfl ?_
      refine g_aald3N (n := 3) (j := x 1) dX6_isUp_85 (cIn_lo (by decide)) cSh_3 hx1 (by omega) ?_
      refine g_get (T := TX1) (N := 10) (Cn := RX1) (ref := "CommitCouncil$Leader") 0 dX6_isUp_86 (cIn_l hx1) (cSh_l hx1) rfl (fun w h => List.mem_cons_of_mem _ (hU1 w h)) (by decide) (List.mem_cons_of_mem _ uw_1_42) (Or.inr (List.mem_cons_of_mem _ uw_1_43)) rfl ?_
      refine gEx.top (v := .inl (nI (s.1 2 2 (x 1)))) (congrArg Sum.inl ((hc.2.2.2.2.2 (x 1) hx1).1)) ?_
      refine g_if_eq 96 dX6_isUp_89 (by decide) (fun h89 => ?_) (fun h89 => ?_)
      · skip
        rw [nI_z (by omega)] at h89
        refine g_iconst (nI (0)) dX6_isUp_96 (by decide) ?_
        exact g_zret dX6_isUp_97 rfl (rfl) (⟨by rw [hup, show s.1 2 2 (x 1) = 0 by omega], rfl⟩)
      · skip
        rw [nI_z (by omega)] at h89
        refine g_iconst (nI (1)) dX6_isUp_92 (by decide) ?_
        refine g_goto 97 dX6_isUp_93 (by decide) ?_
        exact g_zret dX6_isUp_97 rfl (rfl) (⟨by rw [hup, show s.1 2 2 (x 1) = 1 by omega], rfl⟩)

theorem c_isUp {R A : Nat} (hRA : pRA R A) {s : pT} {σ : gSt} (hc : cRel R A s σ) (hb : pBu s.1) {i : Nat} {x : pMsg} (hx : s.2[i]? = some x) (hp : pMk R A x) : gEM (cG R A) mX6_isUp 0 [.inr 0, .inl (nI (x 0)), .inl (nI (x 1))] σ (gR (nI (pUpOf s.1 x)) (fun τ => τ = σ)) := by
  have h5 := hp.2.2.2.2.2.2.2
  rcases (show x 0 = 0 ∨ x 0 = 1 ∨ x 0 = 2 ∨ x 0 = 3 ∨ x 0 = 4 ∨ x 0 = 5 by omega) with hk | hk | hk | hk | hk | hk
  · rw [hk]; exact c_isUp0 hRA hc hb hx hk hp
  · rw [hk]; exact c_isUp1 hRA hc hb hx hk hp
  · rw [hk]; exact c_isUp2 hRA hc hb hx hk hp
  · rw [hk]; exact c_isUp3 hRA hc hb hx hk hp
  · rw [hk]; exact c_isUp4 hRA hc hb hx hk hp
  · rw [hk]; exact c_isUp5 hRA hc hb hx hk hp

set_option maxRecDepth 100000 in
/-- answersTo: kind 0 -/
theorem c_ans0 {R A : Nat} (hRA : pRA R A) {s : pT} {σ : gSt} (hc : cRel R A s σ) (hb : pBu s.1) {i : Nat} {x : pMsg} (hx : s.2[i]? = some x) (hk : x 0 = 0) (hp : pMk R A x) (hlen : s.2.length ≤ 401) : gEM (cG R A) mX6_answersTo 0 [.inr (0), .inl (nI (i)), .inl (nI (0)), .inl (nI (x 1))] σ (gR (nI (pAns R A s.1 x)) (fun τ => τ = σ)) := by
  obtain ⟨hR1, hR6, hA35⟩ := hRA
  have hA5 : A ≤ 5 := by omega
  have hi := (List.getElem?_eq_some_iff.mp hx).1
  have hbd := pBu_bd (R := R) (A := A) hb
  obtain ⟨hx1, hx3, hx5⟩ := hp.2.1 hk
  have hx4 := hp.1
  have hbu := fun i j => hbd.1 i j
  have hb5 := hbd.2.2.2.1 (x 1)
  have hb10 := hbd.2.2.2.2.2.2.2.2.1 (x 1)
  have hra := raB hR6 hA5
  have ha : pAns R A s.1 x = if s.1 5 (x 1) 0 ≤ x 4 then 3 else 0 := by unfold pAns; rw [hk]; try rfl
  refine gEM_of (by decide +kernel) rfl (Nat.le_of_ble_eq_true rfl) ?_
  refine g_aload_n dX6_answersTo_0 rfl ?_
  refine g_getr (T := TX6) (N := 7) (Cn := RX6) (ref := "CommitCouncil") 3 dX6_answersTo_1 (cIn_lo (by decide)) cSh_0 rfl (fun w h => List.mem_cons_of_mem _ (hU6 w h)) (by decide) (List.mem_cons_of_mem _ uw_1_161) (Or.inl rfl) rfl ?_
  refine g_iload_n dX6_answersTo_4 rfl ?_
  refine g_iconst (nI (4)) dX6_answersTo_5 (by decide) ?_
  refine g_callVi (_) (n9 := 2) [.inl (nI (i)), .inl (nI (4))] [] (c_part hc.2.1.1 hc.2.1.2.2.1 hR6 (show i < s.2.length from hi) (by first | exact hlen | omega) (by decide)) dX6_answersTo_6 (gU_V uw_2_130 uw_2_131 uw_2_132 uw_1_6 uw_2_133) rfl (by decide +kernel) rfl ⟨by decide, by decide⟩ (cIn_lo (by decide)) cSh_4 rfl rfl (Nat.le_of_ble_eq_true rfl) (fun τ1 hq1 => ?_)
  subst hq1
  refine gEx.top (v := .inl (nI (x 4))) (congrArg Sum.inl (((hc.2.1.2.2.2 i x hx).1 4 (by decide)).trans (ptN (by rw [hk]; rfl)))) ?_
  refine g_istore dX6_answersTo_9 (by decide) ?_
  refine g_aload_n dX6_answersTo_11 rfl ?_
  refine g_getr (T := TX6) (N := 7) (Cn := RX6) (ref := "CommitCouncil") 3 dX6_answersTo_12 (cIn_lo (by decide)) cSh_0 rfl (fun w h => List.mem_cons_of_mem _ (hU6 w h)) (by decide) (List.mem_cons_of_mem _ uw_1_161) (Or.inl rfl) rfl ?_
  refine g_iload_n dX6_answersTo_15 rfl ?_
  refine g_iconst (nI (2)) dX6_answersTo_16 (by decide) ?_
  refine g_callVi (_) (n9 := 2) [.inl (nI (i)), .inl (nI (2))] [] (c_part hc.2.1.1 hc.2.1.2.2.1 hR6 (show i < s.2.length from hi) (by first | exact hlen | omega) (by decide)) dX6_answersTo_17 (gU_V uw_2_130 uw_2_131 uw_2_132 uw_1_6 uw_2_133) rfl (by decide +kernel) rfl ⟨by decide, by decide⟩ (cIn_lo (by decide)) cSh_4 rfl rfl (Nat.le_of_ble_eq_true rfl) (fun τ1 hq1 => ?_)
  subst hq1
  refine gEx.top (v := .inl (-1)) (congrArg Sum.inl (((hc.2.1.2.2.2 i x hx).1 2 (by decide)).trans (ptM (by rw [hk]; rfl)))) ?_
  refine g_istore dX6_answersTo_20 (by decide) ?_
  refine g_iload_n dX6_answersTo_22 rfl ?_
  refine g_tableIn (off := 37) 60 dX6_answersTo_23 (by decide) (by decide) (by decide) (by decide) ?_
  refine g_iload dX6_answersTo_60 rfl ?_
  refine g_aload_n dX6_answersTo_62 rfl ?_
  refine g_getr (T := TX6) (N := 7) (Cn := RX6) (ref := "CommitCouncil") 1 dX6_answersTo_63 (cIn_lo (by decide)) cSh_0 rfl (fun w h => List.mem_cons_of_mem _ (hU6 w h)) (by decide) (List.mem_cons_of_mem _ uw_1_159) (Or.inl rfl) rfl ?_
  refine g_iload_n dX6_answersTo_66 rfl ?_
  refine g_aald2N (n := A) (j := x 1) dX6_answersTo_67 (cIn_lo (by decide)) cSh_2 hx1 (by omega) ?_
  refine g_get (T := TX0) (N := 3) (Cn := RX0) (ref := "CommitCouncil$Acceptor") 1 dX6_answersTo_68 (cIn_a hx1) (cSh_a (by omega)) rfl (fun w h => List.mem_cons_of_mem _ (hU0 w h)) (by decide) (List.mem_cons_of_mem _ uw_1_62) (Or.inl rfl) rfl ?_
  refine gEx.top (v := .inl (nI (s.1 5 (x 1) 0))) (congrArg Sum.inl ((hc.2.2.2.2.1 (x 1) hx1).2.1)) ?_
  refine g_icmp_lt 78 dX6_answersTo_71 (by decide) (fun h71 => ?_) (fun h71 => ?_)
  · skip
    rw [nI_ltI (by omega) (by omega)] at h71
    refine g_iconst (nI (0)) dX6_answersTo_78 (by decide) ?_
    exact g_iret dX6_answersTo_79 rfl (⟨by rw [ha]; first | (rw [if_pos (by omega)]; done) | (rw [if_neg (by omega)]; done), rfl⟩)
  · skip
    rw [nI_ltI (by omega) (by omega)] at h71
    refine g_iconst (nI (3)) dX6_answersTo_74 (by decide) ?_
    refine g_goto 79 dX6_answersTo_75 (by decide) ?_
    exact g_iret dX6_answersTo_79 rfl (⟨by rw [ha]; first | (rw [if_pos (by omega)]; done) | (rw [if_neg (by omega)]; done), rfl⟩)

set_option maxRecDepth 100000 in
/-- answersTo: kind 1 -/
theorem c_ans1 {R A : Nat} (hRA : pRA R A) {s : pT} {σ : gSt} (hc : cRel R A s σ) (hb : pBu s.1) {i : Nat} {x : pMsg} (hx : s.2[i]? = some x) (hk : x 0 = 1) (hp : pMk R A x) (hlen : s.2.length ≤ 401) : gEM (cG R A) mX6_answersTo 0 [.inr (0), .inl (nI (i)), .inl (nI (1)), .inl (nI (x 1))] σ (gR (nI (pAns R A s.1 x)) (fun τ => τ = σ)) := by
  obtain ⟨hR1, hR6, hA35⟩ := hRA
  have hA5 : A ≤ 5 := by omega
  have hi := (List.getElem?_eq_some_iff.mp hx).1
  have hbd := pBu_bd (R := R) (A := A) hb
  obtain ⟨hx1, hx2, hx3, hx5⟩ := hp.2.2.1 hk
  have hx4 := hp.1
  have hbu := fun i j => hbd.1 i j
  have hb5 := hbd.2.2.2.1 (x 1)
  have hb10 := hbd.2.2.2.2.2.2.2.2.1 (x 1)
  have hra := raB hR6 hA5
  have ha : pAns R A s.1 x = if pDec R A s.1 (x 1) (x 3) (x 2) (x 4) (x 5) = s.1 10 (x 1) 0 then 0 else R := by unfold pAns; rw [hk]; try rfl
  have hdl := pDec_le hbd (l := x 1) (m := x 3) (a := x 2) (b := x 4) hx5
  have hpo := pOut_le hbd (l := x 1) (m := x 3) (a := x 2) (b := x 4) hx5
  refine gEM_of (by decide +kernel) rfl (Nat.le_of_ble_eq_true rfl) ?_
  refine g_aload_n dX6_answersTo_0 rfl ?_
  refine g_getr (T := TX6) (N := 7) (Cn := RX6) (ref := "CommitCouncil") 3 dX6_answersTo_1 (cIn_lo (by decide)) cSh_0 rfl (fun w h => List.mem_cons_of_mem _ (hU6 w h)) (by decide) (List.mem_cons_of_mem _ uw_1_161) (Or.inl rfl) rfl ?_
  refine g_iload_n dX6_answersTo_4 rfl ?_
  refine g_iconst (nI (4)) dX6_answersTo_5 (by decide) ?_
  refine g_callVi (_) (n9 := 2) [.inl (nI (i)), .inl (nI (4))] [] (c_part hc.2.1.1 hc.2.1.2.2.1 hR6 (show i < s.2.length from hi) (by first | exact hlen | omega) (by decide)) dX6_answersTo_6 (gU_V uw_2_130 uw_2_131 uw_2_132 uw_1_6 uw_2_133) rfl (by decide +kernel) rfl ⟨by decide, by decide⟩ (cIn_lo (by decide)) cSh_4 rfl rfl (Nat.le_of_ble_eq_true rfl) (fun τ1 hq1 => ?_)
  subst hq1
  refine gEx.top (v := .inl (nI (x 4))) (congrArg Sum.inl (((hc.2.1.2.2.2 i x hx).1 4 (by decide)).trans (ptN (by rw [hk]; rfl)))) ?_
  refine g_istore dX6_answersTo_9 (by decide) ?_
  refine g_aload_n dX6_answersTo_11 rfl ?_
  refine g_getr (T := TX6) (N := 7) (Cn := RX6) (ref := "CommitCouncil") 3 dX6_answersTo_12 (cIn_lo (by decide)) cSh_0 rfl (fun w h => List.mem_cons_of_mem _ (hU6 w h)) (by decide) (List.mem_cons_of_mem _ uw_1_161) (Or.inl rfl) rfl ?_
  refine g_iload_n dX6_answersTo_15 rfl ?_
  refine g_iconst (nI (2)) dX6_answersTo_16 (by decide) ?_
  refine g_callVi (_) (n9 := 2) [.inl (nI (i)), .inl (nI (2))] [] (c_part hc.2.1.1 hc.2.1.2.2.1 hR6 (show i < s.2.length from hi) (by first | exact hlen | omega) (by decide)) dX6_answersTo_17 (gU_V uw_2_130 uw_2_131 uw_2_132 uw_1_6 uw_2_133) rfl (by decide +kernel) rfl ⟨by decide, by decide⟩ (cIn_lo (by decide)) cSh_4 rfl rfl (Nat.le_of_ble_eq_true rfl) (fun τ1 hq1 => ?_)
  subst hq1
  refine gEx.top (v := .inl (nI (x 2))) (congrArg Sum.inl (((hc.2.1.2.2.2 i x hx).1 2 (by decide)).trans (ptN (by rw [hk]; rfl)))) ?_
  refine g_istore dX6_answersTo_20 (by decide) ?_
  refine g_iload_n dX6_answersTo_22 rfl ?_
  refine g_tableIn (off := 57) 80 dX6_answersTo_23 (by decide) (by decide) (by decide) (by decide) ?_
  refine g_aload_n dX6_answersTo_80 rfl ?_
  refine g_getr (T := TX6) (N := 7) (Cn := RX6) (ref := "CommitCouncil") 3 dX6_answersTo_81 (cIn_lo (by decide)) cSh_0 rfl (fun w h => List.mem_cons_of_mem _ (hU6 w h)) (by decide) (List.mem_cons_of_mem _ uw_1_161) (Or.inl rfl) rfl ?_
  refine g_iload_n dX6_answersTo_84 rfl ?_
  refine g_iconst (nI (3)) dX6_answersTo_85 (by decide) ?_
  refine g_callVi (_) (n9 := 2) [.inl (nI (i)), .inl (nI (3))] [] (c_part hc.2.1.1 hc.2.1.2.2.1 hR6 (show i < s.2.length from hi) (by first | exact hlen | omega) (by decide)) dX6_answersTo_86 (gU_V uw_2_130 uw_2_131 uw_2_132 uw_1_6 uw_2_133) rfl (by decide +kernel) rfl ⟨by decide, by decide⟩ (cIn_lo (by decide)) cSh_4 rfl rfl (Nat.le_of_ble_eq_true rfl) (fun τ1 hq1 => ?_)
  subst hq1
  refine gEx.top (v := .inl (nI (x 3))) (congrArg Sum.inl (((hc.2.1.2.2.2 i x hx).1 3 (by decide)).trans (ptN (by rw [hk]; rfl)))) ?_
  refine g_istore dX6_answersTo_89 (by decide) ?_
  refine g_aload_n dX6_answersTo_91 rfl ?_
  refine g_getr (T := TX6) (N := 7) (Cn := RX6) (ref := "CommitCouncil") 2 dX6_answersTo_92 (cIn_lo (by decide)) cSh_0 rfl (fun w h => List.mem_cons_of_mem _ (hU6 w h)) (by decide) (List.mem_cons_of_mem _ uw_1_160) (Or.inl rfl) rfl ?_
  refine g_iload_n dX6_answersTo_95 rfl ?_
  refine g_aald3N (n := 3) (j := x 1) dX6_answersTo_96 (cIn_lo (by decide)) cSh_3 hx1 (by omega) ?_
  refine g_iload dX6_answersTo_97 rfl ?_
  refine g_iload dX6_answersTo_99 rfl ?_
  refine g_iload dX6_answersTo_101 rfl ?_
  refine g_aload_n dX6_answersTo_103 rfl ?_
  refine g_getr (T := TX6) (N := 7) (Cn := RX6) (ref := "CommitCouncil") 3 dX6_answersTo_104 (cIn_lo (by decide)) cSh_0 rfl (fun w h => List.mem_cons_of_mem _ (hU6 w h)) (by decide) (List.mem_cons_of_mem _ uw_1_161) (Or.inl rfl) rfl ?_
  refine g_iload_n dX6_answersTo_107 rfl ?_
  refine g_iconst (nI (5)) dX6_answersTo_108 (by decide) ?_
  refine g_callVi (_) (n9 := 2) [.inl (nI (i)), .inl (nI (5))] [.inl (nI (x 4)), .inl (nI (x 2)), .inl (nI (x 3)), .inr (40 + (x 1))] (c_part hc.2.1.1 hc.2.1.2.2.1 hR6 (show i < s.2.length from hi) (by first | exact hlen | omega) (by decide)) dX6_answersTo_109 (gU_V uw_2_130 uw_2_131 uw_2_132 uw_1_6 uw_2_133) rfl (by decide +kernel) rfl ⟨by decide, by decide⟩ (cIn_lo (by decide)) cSh_4 rfl rfl (Nat.le_of_ble_eq_true rfl) (fun τ1 hq1 => ?_)
  subst hq1
  refine gEx.top (v := .inl (nI (x 5))) (congrArg Sum.inl (((hc.2.1.2.2.2 i x hx).1 5 (by decide)).trans (ptN (by rw [hk]; rfl)))) ?_
  refine g_callSi (nI (4 * x 4 + x 5)) (n9 := 2) [.inl (nI (x 4)), .inl (nI (x 5))] [.inl (nI (x 2)), .inl (nI (x 3)), .inr (40 + (x 1))] (c_voteOf (by omega) (by omega)) dX6_answersTo_112 (gU_S uw_2_142 uw_2_143 uw_1_1 uw_2_144) rfl (by decide +kernel) rfl ⟨by decide, by decide⟩ rfl (Nat.le_of_ble_eq_true rfl) (fun τ1 hq1 => ?_)
  subst hq1
  refine g_callVi (nI (pOut A s.1 (x 1) (x 3) (x 2) (x 4) (x 5))) (n9 := 3) [.inl (nI (x 3)), .inl (nI (x 2)), .inl (nI (4 * x 4 + x 5))] [] (c_outc ⟨hR1, hR6, hA35⟩ hc hbd hx1 hx3 hx2 hx4 hx5) dX6_answersTo_115 (gU_V uw_2_145 uw_2_146 uw_2_147 uw_1_5 uw_2_148) rfl (by decide +kernel) rfl ⟨by decide, by decide⟩ (cIn_l hx1) (cSh_l hx1) rfl rfl (Nat.le_of_ble_eq_true rfl) (fun τ1 hq1 => ?_)
  subst hq1
  refine g_istore dX6_answersTo_118 (by decide) ?_
  refine g_aload_n dX6_answersTo_120 rfl ?_
  refine g_getr (T := TX6) (N := 7) (Cn := RX6) (ref := "CommitCouncil") 2 dX6_answersTo_121 (cIn_lo (by decide)) cSh_0 rfl (fun w h => List.mem_cons_of_mem _ (hU6 w h)) (by decide) (List.mem_cons_of_mem _ uw_1_160) (Or.inl rfl) rfl ?_
  refine g_iload_n dX6_answersTo_124 rfl ?_
  refine g_aald3N (n := 3) (j := x 1) dX6_answersTo_125 (cIn_lo (by decide)) cSh_3 hx1 (by omega) ?_
  refine g_iload dX6_answersTo_126 rfl ?_
  refine g_iload dX6_answersTo_128 rfl ?_
  refine g_callVi (nI (pDw R s.1 (x 1) (x 3) (pOut A s.1 (x 1) (x 3) (x 2) (x 4) (x 5)))) (n9 := 2) [.inl (nI (x 3)), .inl (nI (pOut A s.1 (x 1) (x 3) (x 2) (x 4) (x 5)))] [] (c_decw ⟨hR1, hR6, hA35⟩ hc hx1 hb10 (hbd.2.2.2.2.2.2.2.2.2.2.2.1 (x 1)) hx3 hpo) dX6_answersTo_130 (gU_V uw_2_159 uw_2_160 uw_2_161 uw_1_5 uw_2_162) rfl (by decide +kernel) rfl ⟨by decide, by decide⟩ (cIn_l hx1) (cSh_l hx1) rfl rfl (Nat.le_of_ble_eq_true rfl) (fun τ1 hq1 => ?_)
  subst hq1
  refine gEx.top (v := .inl (nI (pDec R A s.1 (x 1) (x 3) (x 2) (x 4) (x 5)))) (congrArg Sum.inl (congrArg nI (pDw_pDec _ _ _ _ _ _ _ _))) ?_
  refine g_aload_n dX6_answersTo_133 rfl ?_
  refine g_getr (T := TX6) (N := 7) (Cn := RX6) (ref := "CommitCouncil") 2 dX6_answersTo_134 (cIn_lo (by decide)) cSh_0 rfl (fun w h => List.mem_cons_of_mem _ (hU6 w h)) (by decide) (List.mem_cons_of_mem _ uw_1_160) (Or.inl rfl) rfl ?_
  refine g_iload_n dX6_answersTo_137 rfl ?_
  refine g_aald3N (n := 3) (j := x 1) dX6_answersTo_138 (cIn_lo (by decide)) cSh_3 hx1 (by omega) ?_
  refine g_get (T := TX1) (N := 10) (Cn := RX1) (ref := "CommitCouncil$Leader") 4 dX6_answersTo_139 (cIn_l hx1) (cSh_l hx1) rfl (fun w h => List.mem_cons_of_mem _ (hU1 w h)) (by decide) (List.mem_cons_of_mem _ uw_1_86) (Or.inl rfl) rfl ?_
  refine gEx.top (v := .inl (nI (s.1 10 (x 1) 0))) (congrArg Sum.inl ((hc.2.2.2.2.2 (x 1) hx1).2.2.2.2.1)) ?_
  refine g_icmp_eq 149 dX6_answersTo_142 (by decide) (fun h142 => ?_) (fun h142 => ?_)
  · skip
    rw [nI_eq (by omega) (by omega)] at h142
    refine g_iconst (nI (0)) dX6_answersTo_149 (by decide) ?_
    refine g_istore dX6_answersTo_150 (by decide) ?_
    refine g_iload dX6_answersTo_152 rfl ?_
    refine g_if_eq 165 dX6_answersTo_154 (by decide) (fun h154 => ?_) (fun h154 => ?_)
    · skip
      rw [nI_z (by omega)] at h154
      refine g_iconst (nI (0)) dX6_answersTo_165 (by decide) ?_
      exact g_iret dX6_answersTo_166 rfl (⟨by rw [ha]; first | (rw [if_pos (by omega)]; done) | (rw [if_neg (by omega)]; done), rfl⟩)
    · skip
      rw [nI_z (by omega)] at h154
      refine g_aload_n dX6_answersTo_157 rfl ?_
      refine g_getr (T := TX6) (N := 7) (Cn := RX6) (ref := "CommitCouncil") 0 dX6_answersTo_158 (cIn_lo (by decide)) cSh_0 rfl (fun w h => List.mem_cons_of_mem _ (hU6 w h)) (by decide) (List.mem_cons_of_mem _ uw_1_158) (Or.inl rfl) rfl ?_
      refine g_alen (nI (R)) dX6_answersTo_161 (cIn_lo (by decide)) cSh_1 (by decide) rfl ?_
      refine g_goto 166 dX6_answersTo_162 (by decide) ?_
      exact g_iret dX6_answersTo_166 rfl (⟨by rw [ha]; first | (rw [if_pos (by omega)]; done) | (rw [if_neg (by omega)]; done), rfl⟩)
  · skip
    rw [nI_eq (by omega) (by omega)] at h142
    refine g_iconst (nI (1)) dX6_answersTo_145 (by decide) ?_
    refine g_goto 150 dX6_answersTo_146 (by decide) ?_
    refine g_istore dX6_answersTo_150 (by decide) ?_
    refine g_iload dX6_answersTo_152 rfl ?_
    refine g_if_eq 165 dX6_answersTo_154 (by decide) (fun h154 => ?_) (fun h154 => ?_)
    · skip
      rw [nI_z (by omega)] at h154
      refine g_iconst (nI (0)) dX6_answersTo_165 (by decide) ?_
      exact g_iret dX6_answersTo_166 rfl (⟨by rw [ha]; first | (rw [if_pos (by omega)]; done) | (rw [if_neg (by omega)]; done), rfl⟩)
    · skip
      rw [nI_z (by omega)] at h154
      refine g_aload_n dX6_answersTo_157 rfl ?_
      refine g_getr (T := TX6) (N := 7) (Cn := RX6) (ref := "CommitCouncil") 0 dX6_answersTo_158 (cIn_lo (by decide)) cSh_0 rfl (fun w h => List.mem_cons_of_mem _ (hU6 w h)) (by decide) (List.mem_cons_of_mem _ uw_1_158) (Or.inl rfl) rfl ?_
      refine g_alen (nI (R)) dX6_answersTo_161 (cIn_lo (by decide)) cSh_1 (by decide) rfl ?_
      refine g_goto 166 dX6_answersTo_162 (by decide) ?_
      exact g_iret dX6_answersTo_166 rfl (⟨by rw [ha]; first | (rw [if_pos (by omega)]; done) | (rw [if_neg (by omega)]; done), rfl⟩)

set_option maxRecDepth 100000 in
/-- answersTo: kind 2 -/
theorem c_ans2 {R A : Nat} (hRA : pRA R A) {s : pT} {σ : gSt} (hc : cRel R A s σ) (hb : pBu s.1) {i : Nat} {x : pMsg} (hx : s.2[i]? = some x) (hk : x 0 = 2) (hp : pMk R A x) (hlen : s.2.length ≤ 401) : gEM (cG R A) mX6_answersTo 0 [.inr (0), .inl (nI (i)), .inl (nI (2)), .inl (nI (x 1))] σ (gR (nI (pAns R A s.1 x)) (fun τ => τ = σ)) := by
  obtain ⟨hR1, hR6, hA35⟩ := hRA
  have hA5 : A ≤ 5 := by omega
  have hi := (List.getElem?_eq_some_iff.mp hx).1
  have hbd := pBu_bd (R := R) (A := A) hb
  obtain ⟨hx1, hx41⟩ := hp.2.2.2.1 hk
  have hx4 := hp.1
  have hbu := fun i j => hbd.1 i j
  have hb5 := hbd.2.2.2.1 (x 1)
  have hb10 := hbd.2.2.2.2.2.2.2.2.1 (x 1)
  have hra := raB hR6 hA5
  have ha : pAns R A s.1 x = if s.1 5 (x 1) 0 < x 4 then 1 else 0 := by unfold pAns; rw [hk]; try rfl
  refine gEM_of (by decide +kernel) rfl (Nat.le_of_ble_eq_true rfl) ?_
  refine g_aload_n dX6_answersTo_0 rfl ?_
  refine g_getr (T := TX6) (N := 7) (Cn := RX6) (ref := "CommitCouncil") 3 dX6_answersTo_1 (cIn_lo (by decide)) cSh_0 rfl (fun w h => List.mem_cons_of_mem _ (hU6 w h)) (by decide) (List.mem_cons_of_mem _ uw_1_161) (Or.inl rfl) rfl ?_
  refine g_iload_n dX6_answersTo_4 rfl ?_
  refine g_iconst (nI (4)) dX6_answersTo_5 (by decide) ?_
  refine g_callVi (_) (n9 := 2) [.inl (nI (i)), .inl (nI (4))] [] (c_part hc.2.1.1 hc.2.1.2.2.1 hR6 (show i < s.2.length from hi) (by first | exact hlen | omega) (by decide)) dX6_answersTo_6 (gU_V uw_2_130 uw_2_131 uw_2_132 uw_1_6 uw_2_133) rfl (by decide +kernel) rfl ⟨by decide, by decide⟩ (cIn_lo (by decide)) cSh_4 rfl rfl (Nat.le_of_ble_eq_true rfl) (fun τ1 hq1 => ?_)
  subst hq1
  refine gEx.top (v := .inl (nI (x 4))) (congrArg Sum.inl (((hc.2.1.2.2.2 i x hx).1 4 (by decide)).trans (ptN (by rw [hk]; rfl)))) ?_
  refine g_istore dX6_answersTo_9 (by decide) ?_
  refine g_aload_n dX6_answersTo_11 rfl ?_
  refine g_getr (T := TX6) (N := 7) (Cn := RX6) (ref := "CommitCouncil") 3 dX6_answersTo_12 (cIn_lo (by decide)) cSh_0 rfl (fun w h => List.mem_cons_of_mem _ (hU6 w h)) (by decide) (List.mem_cons_of_mem _ uw_1_161) (Or.inl rfl) rfl ?_
  refine g_iload_n dX6_answersTo_15 rfl ?_
  refine g_iconst (nI (2)) dX6_answersTo_16 (by decide) ?_
  refine g_callVi (_) (n9 := 2) [.inl (nI (i)), .inl (nI (2))] [] (c_part hc.2.1.1 hc.2.1.2.2.1 hR6 (show i < s.2.length from hi) (by first | exact hlen | omega) (by decide)) dX6_answersTo_17 (gU_V uw_2_130 uw_2_131 uw_2_132 uw_1_6 uw_2_133) rfl (by decide +kernel) rfl ⟨by decide, by decide⟩ (cIn_lo (by decide)) cSh_4 rfl rfl (Nat.le_of_ble_eq_true rfl) (fun τ1 hq1 => ?_)
  subst hq1
  refine gEx.top (v := .inl (-1)) (congrArg Sum.inl (((hc.2.1.2.2.2 i x hx).1 2 (by decide)).trans (ptM (by rw [hk]; rfl)))) ?_
  refine g_istore dX6_answersTo_20 (by decide) ?_
  refine g_iload_n dX6_answersTo_22 rfl ?_
  refine g_tableIn (off := 144) 167 dX6_answersTo_23 (by decide) (by decide) (by decide) (by decide) ?_
  refine g_iload dX6_answersTo_167 rfl ?_
  refine g_aload_n dX6_answersTo_169 rfl ?_
  refine g_getr (T := TX6) (N := 7) (Cn := RX6) (ref := "CommitCouncil") 1 dX6_answersTo_170 (cIn_lo (by decide)) cSh_0 rfl (fun w h => List.mem_cons_of_mem _ (hU6 w h)) (by decide) (List.mem_cons_of_mem _ uw_1_159) (Or.inl rfl) rfl ?_
  refine g_iload_n dX6_answersTo_173 rfl ?_
  refine g_aald2N (n := A) (j := x 1) dX6_answersTo_174 (cIn_lo (by decide)) cSh_2 hx1 (by omega) ?_
  refine g_get (T := TX0) (N := 3) (Cn := RX0) (ref := "CommitCouncil$Acceptor") 1 dX6_answersTo_175 (cIn_a hx1) (cSh_a (by omega)) rfl (fun w h => List.mem_cons_of_mem _ (hU0 w h)) (by decide) (List.mem_cons_of_mem _ uw_1_62) (Or.inl rfl) rfl ?_
  refine gEx.top (v := .inl (nI (s.1 5 (x 1) 0))) (congrArg Sum.inl ((hc.2.2.2.2.1 (x 1) hx1).2.1)) ?_
  refine g_icmp_le 185 dX6_answersTo_178 (by decide) (fun h178 => ?_) (fun h178 => ?_)
  · skip
    rw [nI_leI (by omega) (by omega)] at h178
    refine g_iconst (nI (0)) dX6_answersTo_185 (by decide) ?_
    exact g_iret dX6_answersTo_186 rfl (⟨by rw [ha]; first | (rw [if_pos (by omega)]; done) | (rw [if_neg (by omega)]; done), rfl⟩)
  · skip
    rw [nI_leI (by omega) (by omega)] at h178
    refine g_iconst (nI (1)) dX6_answersTo_181 (by decide) ?_
    refine g_goto 186 dX6_answersTo_182 (by decide) ?_
    exact g_iret dX6_answersTo_186 rfl (⟨by rw [ha]; first | (rw [if_pos (by omega)]; done) | (rw [if_neg (by omega)]; done), rfl⟩)

set_option maxRecDepth 100000 in
/-- answersTo: kind 3 -/
theorem c_ans3 {R A : Nat} (hRA : pRA R A) {s : pT} {σ : gSt} (hc : cRel R A s σ) (hb : pBu s.1) {i : Nat} {x : pMsg} (hx : s.2[i]? = some x) (hk : x 0 = 3) (hp : pMk R A x) (hlen : s.2.length ≤ 401) : gEM (cG R A) mX6_answersTo 0 [.inr (0), .inl (nI (i)), .inl (nI (3)), .inl (nI (x 1))] σ (gR (nI (pAns R A s.1 x)) (fun τ => τ = σ)) := by
  obtain ⟨hR1, hR6, hA35⟩ := hRA
  have hA5 : A ≤ 5 := by omega
  have hi := (List.getElem?_eq_some_iff.mp hx).1
  have hbd := pBu_bd (R := R) (A := A) hb
  obtain ⟨hx1, hx2, hx41, hxt⟩ := hp.2.2.2.2.1 hk
  have hx4 := hp.1
  have hbu := fun i j => hbd.1 i j
  have hb5 := hbd.2.2.2.1 (x 1)
  have hb10 := hbd.2.2.2.2.2.2.2.2.1 (x 1)
  have hra := raB hR6 hA5
  have ha : pAns R A s.1 x = if pKeep s.1 (x 1) (x 4) (x 2) ∧ pEnough A s.1 (x 1) then R * A else 0 := by unfold pAns; rw [hk]; try rfl
  refine gEM_of (by decide +kernel) rfl (Nat.le_of_ble_eq_true rfl) ?_
  refine g_aload_n dX6_answersTo_0 rfl ?_
  refine g_getr (T := TX6) (N := 7) (Cn := RX6) (ref := "CommitCouncil") 3 dX6_answersTo_1 (cIn_lo (by decide)) cSh_0 rfl (fun w h => List.mem_cons_of_mem _ (hU6 w h)) (by decide) (List.mem_cons_of_mem _ uw_1_161) (Or.inl rfl) rfl ?_
  refine g_iload_n dX6_answersTo_4 rfl ?_
  refine g_iconst (nI (4)) dX6_answersTo_5 (by decide) ?_
  refine g_callVi (_) (n9 := 2) [.inl (nI (i)), .inl (nI (4))] [] (c_part hc.2.1.1 hc.2.1.2.2.1 hR6 (show i < s.2.length from hi) (by first | exact hlen | omega) (by decide)) dX6_answersTo_6 (gU_V uw_2_130 uw_2_131 uw_2_132 uw_1_6 uw_2_133) rfl (by decide +kernel) rfl ⟨by decide, by decide⟩ (cIn_lo (by decide)) cSh_4 rfl rfl (Nat.le_of_ble_eq_true rfl) (fun τ1 hq1 => ?_)
  subst hq1
  refine gEx.top (v := .inl (nI (x 4))) (congrArg Sum.inl (((hc.2.1.2.2.2 i x hx).1 4 (by decide)).trans (ptN (by rw [hk]; rfl)))) ?_
  refine g_istore dX6_answersTo_9 (by decide) ?_
  refine g_aload_n dX6_answersTo_11 rfl ?_
  refine g_getr (T := TX6) (N := 7) (Cn := RX6) (ref := "CommitCouncil") 3 dX6_answersTo_12 (cIn_lo (by decide)) cSh_0 rfl (fun w h => List.mem_cons_of_mem _ (hU6 w h)) (by decide) (List.mem_cons_of_mem _ uw_1_161) (Or.inl rfl) rfl ?_
  refine g_iload_n dX6_answersTo_15 rfl ?_
  refine g_iconst (nI (2)) dX6_answersTo_16 (by decide) ?_
  refine g_callVi (_) (n9 := 2) [.inl (nI (i)), .inl (nI (2))] [] (c_part hc.2.1.1 hc.2.1.2.2.1 hR6 (show i < s.2.length from hi) (by first | exact hlen | omega) (by decide)) dX6_answersTo_17 (gU_V uw_2_130 uw_2_131 uw_2_132 uw_1_6 uw_2_133) rfl (by decide +kernel) rfl ⟨by decide, by decide⟩ (cIn_lo (by decide)) cSh_4 rfl rfl (Nat.le_of_ble_eq_true rfl) (fun τ1 hq1 => ?_)
  subst hq1
  refine gEx.top (v := .inl (nI (x 2))) (congrArg Sum.inl (((hc.2.1.2.2.2 i x hx).1 2 (by decide)).trans (ptN (by rw [hk]; rfl)))) ?_
  refine g_istore dX6_answersTo_20 (by decide) ?_
  refine g_iload_n dX6_answersTo_22 rfl ?_
  refine g_tableIn (off := 164) 187 dX6_answersTo_23 (by decide) (by decide) (by decide) (by decide) ?_
  refine g_aload_n dX6_answersTo_187 rfl ?_
  refine g_getr (T := TX6) (N := 7) (Cn := RX6) (ref := "CommitCouncil") 2 dX6_answersTo_188 (cIn_lo (by decide)) cSh_0 rfl (fun w h => List.mem_cons_of_mem _ (hU6 w h)) (by decide) (List.mem_cons_of_mem _ uw_1_160) (Or.inl rfl) rfl ?_
  refine g_iload_n dX6_answersTo_191 rfl ?_
  refine g_aald3N (n := 3) (j := x 1) dX6_answersTo_192 (cIn_lo (by decide)) cSh_3 hx1 (by omega) ?_
  refine g_iload dX6_answersTo_193 rfl ?_
  refine g_iload dX6_answersTo_195 rfl ?_
  refine g_callVi (bI (pKeep s.1 (x 1) (x 4) (x 2))) (n9 := 2) [.inl (nI (x 4)), .inl (nI (x 2))] [] (c_keeps ⟨hR1, hR6, hA35⟩ hc hbd hx1 hx4 hx2) dX6_answersTo_197 (gU_V uw_2_163 uw_2_164 uw_2_165 uw_1_5 uw_2_166) rfl (by decide +kernel) rfl ⟨by decide, by decide⟩ (cIn_l hx1) (cSh_l hx1) rfl rfl (Nat.le_of_ble_eq_true rfl) (fun τ1 hq1 => ?_)
  subst hq1
  refine g_if_eq 219 dX6_answersTo_200 (by decide) (fun h200 => ?_) (fun h200 => ?_)
  · skip
    rw [bI_z] at h200
    refine g_iconst (nI (0)) dX6_answersTo_219 (by decide) ?_
    refine g_istore dX6_answersTo_220 (by decide) ?_
    refine g_iload dX6_answersTo_222 rfl ?_
    refine g_if_eq 241 dX6_answersTo_224 (by decide) (fun h224 => ?_) (fun h224 => ?_)
    · skip
      skip
      refine g_iconst (nI (0)) dX6_answersTo_241 (by decide) ?_
      refine g_iret dX6_answersTo_242 rfl ?_
      first
        | (exfalso; exact h224 rfl)
        | (exfalso; exact absurd h224 (by decide))
        | (refine ⟨?_, rfl⟩; rw [ha, if_pos ⟨Decidable.not_not.mp h200, Decidable.not_not.mp h212⟩]; done)
        | (refine ⟨?_, rfl⟩; rw [ha, if_neg (fun q => h212 q.2)]; try rfl; done)
        | (refine ⟨?_, rfl⟩; rw [ha, if_neg (fun q => h200 q.1)]; try rfl; done)
        | (exfalso; exact h224 rfl)
        | (exfalso; exact absurd h224 (by decide))
    · skip
      skip
      refine g_aload_n dX6_answersTo_227 rfl ?_
      refine g_getr (T := TX6) (N := 7) (Cn := RX6) (ref := "CommitCouncil") 0 dX6_answersTo_228 (cIn_lo (by decide)) cSh_0 rfl (fun w h => List.mem_cons_of_mem _ (hU6 w h)) (by decide) (List.mem_cons_of_mem _ uw_1_158) (Or.inl rfl) rfl ?_
      refine g_alen (nI (R)) dX6_answersTo_231 (cIn_lo (by decide)) cSh_1 (by decide) rfl ?_
      refine g_aload_n dX6_answersTo_232 rfl ?_
      refine g_getr (T := TX6) (N := 7) (Cn := RX6) (ref := "CommitCouncil") 1 dX6_answersTo_233 (cIn_lo (by decide)) cSh_0 rfl (fun w h => List.mem_cons_of_mem _ (hU6 w h)) (by decide) (List.mem_cons_of_mem _ uw_1_159) (Or.inl rfl) rfl ?_
      refine g_alen (nI (A)) dX6_answersTo_236 (cIn_lo (by decide)) cSh_2 (by decide) rfl ?_
      refine g_imul dX6_answersTo_237 ?_
      refine gEx.top (v := .inl (nI ((R) * (A)))) (congrArg Sum.inl (pk_mul _ _)) ?_
      refine g_goto 242 dX6_answersTo_238 (by decide) ?_
      refine g_iret dX6_answersTo_242 rfl ?_
      first
        | (exfalso; exact h224 rfl)
        | (exfalso; exact absurd h224 (by decide))
        | (refine ⟨?_, rfl⟩; rw [ha, if_pos ⟨Decidable.not_not.mp h200, Decidable.not_not.mp h212⟩]; done)
        | (refine ⟨?_, rfl⟩; rw [ha, if_neg (fun q => h212 q.2)]; try rfl; done)
        | (refine ⟨?_, rfl⟩; rw [ha, if_neg (fun q => h200 q.1)]; try rfl; done)
        | (exfalso; exact h224 rfl)
        | (exfalso; exact absurd h224 (by decide))
  · skip
    rw [bI_z] at h200
    refine g_aload_n dX6_answersTo_203 rfl ?_
    refine g_getr (T := TX6) (N := 7) (Cn := RX6) (ref := "CommitCouncil") 2 dX6_answersTo_204 (cIn_lo (by decide)) cSh_0 rfl (fun w h => List.mem_cons_of_mem _ (hU6 w h)) (by decide) (List.mem_cons_of_mem _ uw_1_160) (Or.inl rfl) rfl ?_
    refine g_iload_n dX6_answersTo_207 rfl ?_
    refine g_aald3N (n := 3) (j := x 1) dX6_answersTo_208 (cIn_lo (by decide)) cSh_3 hx1 (by omega) ?_
    refine g_callVi (bI (pEnough A s.1 (x 1))) (n9 := 0) [] [] (c_enough ⟨hR1, hR6, hA35⟩ hc hbd hx1) dX6_answersTo_209 (gU_V uw_2_167 uw_2_168 uw_2_169 uw_1_5 uw_2_170) rfl (by decide +kernel) rfl ⟨by decide, by decide⟩ (cIn_l hx1) (cSh_l hx1) rfl rfl (Nat.le_of_ble_eq_true rfl) (fun τ1 hq1 => ?_)
    subst hq1
    refine g_if_eq 219 dX6_answersTo_212 (by decide) (fun h212 => ?_) (fun h212 => ?_)
    · skip
      rw [bI_z] at h212
      refine g_iconst (nI (0)) dX6_answersTo_219 (by decide) ?_
      refine g_istore dX6_answersTo_220 (by decide) ?_
      refine g_iload dX6_answersTo_222 rfl ?_
      refine g_if_eq 241 dX6_answersTo_224 (by decide) (fun h224 => ?_) (fun h224 => ?_)
      · skip
        skip
        refine g_iconst (nI (0)) dX6_answersTo_241 (by decide) ?_
        refine g_iret dX6_answersTo_242 rfl ?_
        first
          | (exfalso; exact h224 rfl)
          | (exfalso; exact absurd h224 (by decide))
          | (refine ⟨?_, rfl⟩; rw [ha, if_pos ⟨Decidable.not_not.mp h200, Decidable.not_not.mp h212⟩]; done)
          | (refine ⟨?_, rfl⟩; rw [ha, if_neg (fun q => h212 q.2)]; try rfl; done)
          | (refine ⟨?_, rfl⟩; rw [ha, if_neg (fun q => h200 q.1)]; try rfl; done)
          | (exfalso; exact h224 rfl)
          | (exfalso; exact absurd h224 (by decide))
      · skip
        skip
        refine g_aload_n dX6_answersTo_227 rfl ?_
        refine g_getr (T := TX6) (N := 7) (Cn := RX6) (ref := "CommitCouncil") 0 dX6_answersTo_228 (cIn_lo (by decide)) cSh_0 rfl (fun w h => List.mem_cons_of_mem _ (hU6 w h)) (by decide) (List.mem_cons_of_mem _ uw_1_158) (Or.inl rfl) rfl ?_
        refine g_alen (nI (R)) dX6_answersTo_231 (cIn_lo (by decide)) cSh_1 (by decide) rfl ?_
        refine g_aload_n dX6_answersTo_232 rfl ?_
        refine g_getr (T := TX6) (N := 7) (Cn := RX6) (ref := "CommitCouncil") 1 dX6_answersTo_233 (cIn_lo (by decide)) cSh_0 rfl (fun w h => List.mem_cons_of_mem _ (hU6 w h)) (by decide) (List.mem_cons_of_mem _ uw_1_159) (Or.inl rfl) rfl ?_
        refine g_alen (nI (A)) dX6_answersTo_236 (cIn_lo (by decide)) cSh_2 (by decide) rfl ?_
        refine g_imul dX6_answersTo_237 ?_
        refine gEx.top (v := .inl (nI ((R) * (A)))) (congrArg Sum.inl (pk_mul _ _)) ?_
        refine g_goto 242 dX6_answersTo_238 (by decide) ?_
        refine g_iret dX6_answersTo_242 rfl ?_
        first
          | (exfalso; exact h224 rfl)
          | (exfalso; exact absurd h224 (by decide))
          | (refine ⟨?_, rfl⟩; rw [ha, if_pos ⟨Decidable.not_not.mp h200, Decidable.not_not.mp h212⟩]; done)
          | (refine ⟨?_, rfl⟩; rw [ha, if_neg (fun q => h212 q.2)]; try rfl; done)
          | (refine ⟨?_, rfl⟩; rw [ha, if_neg (fun q => h200 q.1)]; try rfl; done)
          | (exfalso; exact h224 rfl)
          | (exfalso; exact absurd h224 (by decide))
    · skip
      rw [bI_z] at h212
      refine g_iconst (nI (1)) dX6_answersTo_215 (by decide) ?_
      refine g_goto 220 dX6_answersTo_216 (by decide) ?_
      refine g_istore dX6_answersTo_220 (by decide) ?_
      refine g_iload dX6_answersTo_222 rfl ?_
      refine g_if_eq 241 dX6_answersTo_224 (by decide) (fun h224 => ?_) (fun h224 => ?_)
      · skip
        skip
        refine g_iconst (nI (0)) dX6_answersTo_241 (by decide) ?_
        refine g_iret dX6_answersTo_242 rfl ?_
        first
          | (exfalso; exact h224 rfl)
          | (exfalso; exact absurd h224 (by decide))
          | (refine ⟨?_, rfl⟩; rw [ha, if_pos ⟨Decidable.not_not.mp h200, Decidable.not_not.mp h212⟩]; done)
          | (refine ⟨?_, rfl⟩; rw [ha, if_neg (fun q => h212 q.2)]; try rfl; done)
          | (refine ⟨?_, rfl⟩; rw [ha, if_neg (fun q => h200 q.1)]; try rfl; done)
          | (exfalso; exact h224 rfl)
          | (exfalso; exact absurd h224 (by decide))
      · skip
        skip
        refine g_aload_n dX6_answersTo_227 rfl ?_
        refine g_getr (T := TX6) (N := 7) (Cn := RX6) (ref := "CommitCouncil") 0 dX6_answersTo_228 (cIn_lo (by decide)) cSh_0 rfl (fun w h => List.mem_cons_of_mem _ (hU6 w h)) (by decide) (List.mem_cons_of_mem _ uw_1_158) (Or.inl rfl) rfl ?_
        refine g_alen (nI (R)) dX6_answersTo_231 (cIn_lo (by decide)) cSh_1 (by decide) rfl ?_
        refine g_aload_n dX6_answersTo_232 rfl ?_
        refine g_getr (T := TX6) (N := 7) (Cn := RX6) (ref := "CommitCouncil") 1 dX6_answersTo_233 (cIn_lo (by decide)) cSh_0 rfl (fun w h => List.mem_cons_of_mem _ (hU6 w h)) (by decide) (List.mem_cons_of_mem _ uw_1_159) (Or.inl rfl) rfl ?_
        refine g_alen (nI (A)) dX6_answersTo_236 (cIn_lo (by decide)) cSh_2 (by decide) rfl ?_
        refine g_imul dX6_answersTo_237 ?_
        refine gEx.top (v := .inl (nI ((R) * (A)))) (congrArg Sum.inl (pk_mul _ _)) ?_
        refine g_goto 242 dX6_answersTo_238 (by decide) ?_
        refine g_iret dX6_answersTo_242 rfl ?_
        first
          | (exfalso; exact h224 rfl)
          | (exfalso; exact absurd h224 (by decide))
          | (refine ⟨?_, rfl⟩; rw [ha, if_pos ⟨Decidable.not_not.mp h200, Decidable.not_not.mp h212⟩]; done)
          | (refine ⟨?_, rfl⟩; rw [ha, if_neg (fun q => h212 q.2)]; try rfl; done)
          | (refine ⟨?_, rfl⟩; rw [ha, if_neg (fun q => h200 q.1)]; try rfl; done)
          | (exfalso; exact h224 rfl)
          | (exfalso; exact absurd h224 (by decide))

set_option maxRecDepth 100000 in
/-- answersTo: kind 4 -/
theorem c_ans4 {R A : Nat} (hRA : pRA R A) {s : pT} {σ : gSt} (hc : cRel R A s σ) (hb : pBu s.1) {i : Nat} {x : pMsg} (hx : s.2[i]? = some x) (hk : x 0 = 4) (hp : pMk R A x) (hlen : s.2.length ≤ 401) : gEM (cG R A) mX6_answersTo 0 [.inr (0), .inl (nI (i)), .inl (nI (4)), .inl (nI (x 1))] σ (gR (nI (pAns R A s.1 x)) (fun τ => τ = σ)) := by
  obtain ⟨hR1, hR6, hA35⟩ := hRA
  have hA5 : A ≤ 5 := by omega
  have hi := (List.getElem?_eq_some_iff.mp hx).1
  have hbd := pBu_bd (R := R) (A := A) hb
  obtain ⟨hx1, hx5⟩ := hp.2.2.2.2.2.1 hk
  have hx4 := hp.1
  have hbu := fun i j => hbd.1 i j
  have hb5 := hbd.2.2.2.1 (x 1)
  have hb10 := hbd.2.2.2.2.2.2.2.2.1 (x 1)
  have hra := raB hR6 hA5
  have ha : pAns R A s.1 x = 0 := by unfold pAns; rw [hk]; try rfl
  refine gEM_of (by decide +kernel) rfl (Nat.le_of_ble_eq_true rfl) ?_
  refine g_aload_n dX6_answersTo_0 rfl ?_
  refine g_getr (T := TX6) (N := 7) (Cn := RX6) (ref := "CommitCouncil") 3 dX6_answersTo_1 (cIn_lo (by decide)) cSh_0 rfl (fun w h => List.mem_cons_of_mem _ (hU6 w h)) (by decide) (List.mem_cons_of_mem _ uw_1_161) (Or.inl rfl) rfl ?_
  refine g_iload_n dX6_answersTo_4 rfl ?_
  refine g_iconst (nI (4)) dX6_answersTo_5 (by decide) ?_
  refine g_callVi (_) (n9 := 2) [.inl (nI (i)), .inl (nI (4))] [] (c_part hc.2.1.1 hc.2.1.2.2.1 hR6 (show i < s.2.length from hi) (by first | exact hlen | omega) (by decide)) dX6_answersTo_6 (gU_V uw_2_130 uw_2_131 uw_2_132 uw_1_6 uw_2_133) rfl (by decide +kernel) rfl ⟨by decide, by decide⟩ (cIn_lo (by decide)) cSh_4 rfl rfl (Nat.le_of_ble_eq_true rfl) (fun τ1 hq1 => ?_)
  subst hq1
  refine gEx.top (v := .inl (-1)) (congrArg Sum.inl (((hc.2.1.2.2.2 i x hx).1 4 (by decide)).trans (ptM (by rw [hk]; rfl)))) ?_
  refine g_istore dX6_answersTo_9 (by decide) ?_
  refine g_aload_n dX6_answersTo_11 rfl ?_
  refine g_getr (T := TX6) (N := 7) (Cn := RX6) (ref := "CommitCouncil") 3 dX6_answersTo_12 (cIn_lo (by decide)) cSh_0 rfl (fun w h => List.mem_cons_of_mem _ (hU6 w h)) (by decide) (List.mem_cons_of_mem _ uw_1_161) (Or.inl rfl) rfl ?_
  refine g_iload_n dX6_answersTo_15 rfl ?_
  refine g_iconst (nI (2)) dX6_answersTo_16 (by decide) ?_
  refine g_callVi (_) (n9 := 2) [.inl (nI (i)), .inl (nI (2))] [] (c_part hc.2.1.1 hc.2.1.2.2.1 hR6 (show i < s.2.length from hi) (by first | exact hlen | omega) (by decide)) dX6_answersTo_17 (gU_V uw_2_130 uw_2_131 uw_2_132 uw_1_6 uw_2_133) rfl (by decide +kernel) rfl ⟨by decide, by decide⟩ (cIn_lo (by decide)) cSh_4 rfl rfl (Nat.le_of_ble_eq_true rfl) (fun τ1 hq1 => ?_)
  subst hq1
  refine gEx.top (v := .inl (-1)) (congrArg Sum.inl (((hc.2.1.2.2.2 i x hx).1 2 (by decide)).trans (ptM (by rw [hk]; rfl)))) ?_
  refine g_istore dX6_answersTo_20 (by decide) ?_
  refine g_iload_n dX6_answersTo_22 rfl ?_
  refine g_tableIn (off := 238) 261 dX6_answersTo_23 (by decide) (by decide) (by decide) (by decide) ?_
  refine g_iconst (nI (0)) dX6_answersTo_261 (by decide) ?_
  exact g_iret dX6_answersTo_262 rfl (⟨by rw [ha], rfl⟩)

set_option maxRecDepth 100000 in
/-- answersTo: kind 5 -/
theorem c_ans5 {R A : Nat} (hRA : pRA R A) {s : pT} {σ : gSt} (hc : cRel R A s σ) (hb : pBu s.1) {i : Nat} {x : pMsg} (hx : s.2[i]? = some x) (hk : x 0 = 5) (hp : pMk R A x) (hlen : s.2.length ≤ 401) : gEM (cG R A) mX6_answersTo 0 [.inr (0), .inl (nI (i)), .inl (nI (5)), .inl (nI (x 1))] σ (gR (nI (pAns R A s.1 x)) (fun τ => τ = σ)) := by
  obtain ⟨hR1, hR6, hA35⟩ := hRA
  have hA5 : A ≤ 5 := by omega
  have hi := (List.getElem?_eq_some_iff.mp hx).1
  have hbd := pBu_bd (R := R) (A := A) hb
  obtain ⟨hx1, hx2⟩ := hp.2.2.2.2.2.2.1 hk
  have hx4 := hp.1
  have hbu := fun i j => hbd.1 i j
  have hb5 := hbd.2.2.2.1 (x 1)
  have hb10 := hbd.2.2.2.2.2.2.2.2.1 (x 1)
  have hra := raB hR6 hA5
  have ha : pAns R A s.1 x = if s.1 10 (x 1) 0 = 0 then 0 else 1 := by unfold pAns; rw [hk]; try rfl
  refine gEM_of (by decide +kernel) rfl (Nat.le_of_ble_eq_true rfl) ?_
  refine g_aload_n dX6_answersTo_0 rfl ?_
  refine g_getr (T := TX6) (N := 7) (Cn := RX6) (ref := "CommitCouncil") 3 dX6_answersTo_1 (cIn_lo (by decide)) cSh_0 rfl (fun w h => List.mem_cons_of_mem _ (hU6 w h)) (by decide) (List.mem_cons_of_mem _ uw_1_161) (Or.inl rfl) rfl ?_
  refine g_iload_n dX6_answersTo_4 rfl ?_
  refine g_iconst (nI (4)) dX6_answersTo_5 (by decide) ?_
  refine g_callVi (_) (n9 := 2) [.inl (nI (i)), .inl (nI (4))] [] (c_part hc.2.1.1 hc.2.1.2.2.1 hR6 (show i < s.2.length from hi) (by first | exact hlen | omega) (by decide)) dX6_answersTo_6 (gU_V uw_2_130 uw_2_131 uw_2_132 uw_1_6 uw_2_133) rfl (by decide +kernel) rfl ⟨by decide, by decide⟩ (cIn_lo (by decide)) cSh_4 rfl rfl (Nat.le_of_ble_eq_true rfl) (fun τ1 hq1 => ?_)
  subst hq1
  refine gEx.top (v := .inl (-1)) (congrArg Sum.inl (((hc.2.1.2.2.2 i x hx).1 4 (by decide)).trans (ptM (by rw [hk]; rfl)))) ?_
  refine g_istore dX6_answersTo_9 (by decide) ?_
  refine g_aload_n dX6_answersTo_11 rfl ?_
  refine g_getr (T := TX6) (N := 7) (Cn := RX6) (ref := "CommitCouncil") 3 dX6_answersTo_12 (cIn_lo (by decide)) cSh_0 rfl (fun w h => List.mem_cons_of_mem _ (hU6 w h)) (by decide) (List.mem_cons_of_mem _ uw_1_161) (Or.inl rfl) rfl ?_
  refine g_iload_n dX6_answersTo_15 rfl ?_
  refine g_iconst (nI (2)) dX6_answersTo_16 (by decide) ?_
  refine g_callVi (_) (n9 := 2) [.inl (nI (i)), .inl (nI (2))] [] (c_part hc.2.1.1 hc.2.1.2.2.1 hR6 (show i < s.2.length from hi) (by first | exact hlen | omega) (by decide)) dX6_answersTo_17 (gU_V uw_2_130 uw_2_131 uw_2_132 uw_1_6 uw_2_133) rfl (by decide +kernel) rfl ⟨by decide, by decide⟩ (cIn_lo (by decide)) cSh_4 rfl rfl (Nat.le_of_ble_eq_true rfl) (fun τ1 hq1 => ?_)
  subst hq1
  refine gEx.top (v := .inl (nI (x 2))) (congrArg Sum.inl (((hc.2.1.2.2.2 i x hx).1 2 (by decide)).trans (ptN (by rw [hk]; rfl)))) ?_
  refine g_istore dX6_answersTo_20 (by decide) ?_
  refine g_iload_n dX6_answersTo_22 rfl ?_
  refine g_tableIn (off := 220) 243 dX6_answersTo_23 (by decide) (by decide) (by decide) (by decide) ?_
  refine g_aload_n dX6_answersTo_243 rfl ?_
  refine g_getr (T := TX6) (N := 7) (Cn := RX6) (ref := "CommitCouncil") 2 dX6_answersTo_244 (cIn_lo (by decide)) cSh_0 rfl (fun w h => List.mem_cons_of_mem _ (hU6 w h)) (by decide) (List.mem_cons_of_mem _ uw_1_160) (Or.inl rfl) rfl ?_
  refine g_iload_n dX6_answersTo_247 rfl ?_
  refine g_aald3N (n := 3) (j := x 1) dX6_answersTo_248 (cIn_lo (by decide)) cSh_3 hx1 (by omega) ?_
  refine g_get (T := TX1) (N := 10) (Cn := RX1) (ref := "CommitCouncil$Leader") 4 dX6_answersTo_249 (cIn_l hx1) (cSh_l hx1) rfl (fun w h => List.mem_cons_of_mem _ (hU1 w h)) (by decide) (List.mem_cons_of_mem _ uw_1_86) (Or.inl rfl) rfl ?_
  refine gEx.top (v := .inl (nI (s.1 10 (x 1) 0))) (congrArg Sum.inl ((hc.2.2.2.2.2 (x 1) hx1).2.2.2.2.1)) ?_
  refine g_if_eq 259 dX6_answersTo_252 (by decide) (fun h252 => ?_) (fun h252 => ?_)
  · skip
    rw [nI_z (by omega)] at h252
    refine g_iconst (nI (0)) dX6_answersTo_259 (by decide) ?_
    exact g_iret dX6_answersTo_260 rfl (⟨by rw [ha]; first | (rw [if_pos (by omega)]; done) | (rw [if_neg (by omega)]; done), rfl⟩)
  · skip
    rw [nI_z (by omega)] at h252
    refine g_iconst (nI (1)) dX6_answersTo_255 (by decide) ?_
    refine g_goto 260 dX6_answersTo_256 (by decide) ?_
    exact g_iret dX6_answersTo_260 rfl (⟨by rw [ha]; first | (rw [if_pos (by omega)]; done) | (rw [if_neg (by omega)]; done), rfl⟩)

theorem c_ans {R A : Nat} (hRA : pRA R A) {s : pT} {σ : gSt} (hc : cRel R A s σ) (hb : pBu s.1) {i : Nat} {x : pMsg} (hx : s.2[i]? = some x) (hp : pMk R A x) (hlen : s.2.length ≤ 401) : gEM (cG R A) mX6_answersTo 0 [.inr 0, .inl (nI i), .inl (nI (x 0)), .inl (nI (x 1))] σ (gR (nI (pAns R A s.1 x)) (fun τ => τ = σ)) := by
  have h5 := hp.2.2.2.2.2.2.2
  rcases (show x 0 = 0 ∨ x 0 = 1 ∨ x 0 = 2 ∨ x 0 = 3 ∨ x 0 = 4 ∨ x 0 = 5 by omega) with hk | hk | hk | hk | hk | hk
  · rw [hk]; exact c_ans0 hRA hc hb hx hk hp hlen
  · rw [hk]; exact c_ans1 hRA hc hb hx hk hp hlen
  · rw [hk]; exact c_ans2 hRA hc hb hx hk hp hlen
  · rw [hk]; exact c_ans3 hRA hc hb hx hk hp hlen
  · rw [hk]; exact c_ans4 hRA hc hb hx hk hp hlen
  · rw [hk]; exact c_ans5 hRA hc hb hx hk hp hlen

set_option maxRecDepth 100000 in
/-- take: kind 0 -/
theorem c_take0 {R A : Nat} (hRA : pRA R A) {s : pT} {σ : gSt} (hc : cRel R A s σ) (hb : pBu s.1) {i : Nat} {x : pMsg} (hx : s.2[i]? = some x) (hk : x 0 = 0) (hp : pMk R A x) (hlen : s.2.length ≤ 401) (hroom : s.2.length + pAns R A s.1 x ≤ 401) : gEM (cG R A) mX6_take 0 [.inr (0), .inl (nI (i)), .inl (nI (0)), .inl (nI (x 1))] σ (gV (fun τ => cRel R A (pTk R A x s) τ)) := by
  obtain ⟨hR1, hR6, hA35⟩ := hRA
  have hA5 : A ≤ 5 := by omega
  have hi := (List.getElem?_eq_some_iff.mp hx).1
  have hbd := pBu_bd (R := R) (A := A) hb
  obtain ⟨hx1, hx3, hx5⟩ := hp.2.1 hk
  have hx4 := hp.1
  have hbu := fun i j => hbd.1 i j
  have hb5 := hbd.2.2.2.1 (x 1)
  have hb10 := hbd.2.2.2.2.2.2.2.2.1 (x 1)
  have hra := raB hR6 hA5
  have ha : pAns R A s.1 x = if s.1 5 (x 1) 0 ≤ x 4 then 3 else 0 := by unfold pAns; rw [hk]; try rfl
  refine gEM_of (by decide +kernel) rfl (Nat.le_of_ble_eq_true rfl) ?_
  refine g_iload_n dX6_take_0 rfl ?_
  refine g_tableIn (off := 39) 40 dX6_take_1 (by decide) (by decide) (by decide) (by decide) ?_
  refine g_aload_n dX6_take_40 rfl ?_
  refine g_iload_n dX6_take_41 rfl ?_
  refine g_iload_n dX6_take_42 rfl ?_
  refine g_callVv (n9 := 2) [.inl (nI (i)), .inl (nI (x 1))] [] (c_tVote ⟨hR1, hR6, hA35⟩ hc hb hx hk hp hlen (fun h => by rw [ha] at hroom; rw [if_pos h] at hroom; exact hroom)) dX6_take_43 (gU_V uw_2_181 uw_2_183 us_0_12 uw_1_1 uw_2_184) rfl (by decide +kernel) rfl ⟨by decide, by decide⟩ (cIn_lo (by decide)) cSh_0 rfl rfl (Nat.le_of_ble_eq_true rfl) (fun τ1 hc1 => ?_)
  refine g_goto 161 dX6_take_46 (by decide) ?_
  exact g_vret dX6_take_161 rfl (⟨rfl, hc1⟩)

set_option maxRecDepth 100000 in
/-- take: kind 1 -/
theorem c_take1 {R A : Nat} (hRA : pRA R A) {s : pT} {σ : gSt} (hc : cRel R A s σ) (hb : pBu s.1) {i : Nat} {x : pMsg} (hx : s.2[i]? = some x) (hk : x 0 = 1) (hp : pMk R A x) (hlen : s.2.length ≤ 401) (hroom : s.2.length + pAns R A s.1 x ≤ 401) : gEM (cG R A) mX6_take 0 [.inr (0), .inl (nI (i)), .inl (nI (1)), .inl (nI (x 1))] σ (gV (fun τ => cRel R A (pTk R A x s) τ)) := by
  obtain ⟨hR1, hR6, hA35⟩ := hRA
  have hA5 : A ≤ 5 := by omega
  have hi := (List.getElem?_eq_some_iff.mp hx).1
  have hbd := pBu_bd (R := R) (A := A) hb
  obtain ⟨hx1, hx2, hx3, hx5⟩ := hp.2.2.1 hk
  have hx4 := hp.1
  have hbu := fun i j => hbd.1 i j
  have hb5 := hbd.2.2.2.1 (x 1)
  have hb10 := hbd.2.2.2.2.2.2.2.2.1 (x 1)
  have hra := raB hR6 hA5
  have ha : pAns R A s.1 x = if pDec R A s.1 (x 1) (x 3) (x 2) (x 4) (x 5) = s.1 10 (x 1) 0 then 0 else R := by unfold pAns; rw [hk]; try rfl
  refine gEM_of (by decide +kernel) rfl (Nat.le_of_ble_eq_true rfl) ?_
  refine g_iload_n dX6_take_0 rfl ?_
  refine g_tableIn (off := 48) 49 dX6_take_1 (by decide) (by decide) (by decide) (by decide) ?_
  refine g_aload_n dX6_take_49 rfl ?_
  refine g_iload_n dX6_take_50 rfl ?_
  refine g_aload_n dX6_take_51 rfl ?_
  refine g_getr (T := TX6) (N := 7) (Cn := RX6) (ref := "CommitCouncil") 2 dX6_take_52 (cIn_lo (by decide)) cSh_0 rfl (fun w h => List.mem_cons_of_mem _ (hU6 w h)) (by decide) (List.mem_cons_of_mem _ uw_1_160) (Or.inl rfl) rfl ?_
  refine g_iload_n dX6_take_55 rfl ?_
  refine g_aald3N (n := 3) (j := x 1) dX6_take_56 (cIn_lo (by decide)) cSh_3 hx1 (by omega) ?_
  refine g_callVv (n9 := 2) [.inl (nI (i)), .inr (40 + (x 1))] [] (c_tVoted ⟨hR1, hR6, hA35⟩ hc hb hx hk hp hlen (fun h => by rw [ha] at hroom; rw [if_neg h] at hroom; exact hroom) hx1) dX6_take_57 (gU_V uw_2_195 uw_2_197 us_0_13 uw_1_1 uw_2_198) rfl (by decide +kernel) rfl ⟨by decide, by decide⟩ (cIn_lo (by decide)) cSh_0 rfl rfl (Nat.le_of_ble_eq_true rfl) (fun τ1 hc1 => ?_)
  refine g_goto 161 dX6_take_60 (by decide) ?_
  exact g_vret dX6_take_161 rfl (⟨rfl, hc1⟩)

set_option maxRecDepth 100000 in
/-- take: kind 2 -/
theorem c_take2 {R A : Nat} (hRA : pRA R A) {s : pT} {σ : gSt} (hc : cRel R A s σ) (hb : pBu s.1) {i : Nat} {x : pMsg} (hx : s.2[i]? = some x) (hk : x 0 = 2) (hp : pMk R A x) (hlen : s.2.length ≤ 401) (hroom : s.2.length + pAns R A s.1 x ≤ 401) : gEM (cG R A) mX6_take 0 [.inr (0), .inl (nI (i)), .inl (nI (2)), .inl (nI (x 1))] σ (gV (fun τ => cRel R A (pTk R A x s) τ)) := by
  obtain ⟨hR1, hR6, hA35⟩ := hRA
  have hA5 : A ≤ 5 := by omega
  have hi := (List.getElem?_eq_some_iff.mp hx).1
  have hbd := pBu_bd (R := R) (A := A) hb
  obtain ⟨hx1, hx41⟩ := hp.2.2.2.1 hk
  have hx4 := hp.1
  have hbu := fun i j => hbd.1 i j
  have hb5 := hbd.2.2.2.1 (x 1)
  have hb10 := hbd.2.2.2.2.2.2.2.2.1 (x 1)
  have hra := raB hR6 hA5
  have ha : pAns R A s.1 x = if s.1 5 (x 1) 0 < x 4 then 1 else 0 := by unfold pAns; rw [hk]; try rfl
  refine gEM_of (by decide +kernel) rfl (Nat.le_of_ble_eq_true rfl) ?_
  refine g_iload_n dX6_take_0 rfl ?_
  refine g_tableIn (off := 62) 63 dX6_take_1 (by decide) (by decide) (by decide) (by decide) ?_
  refine g_aload_n dX6_take_63 rfl ?_
  refine g_iload_n dX6_take_64 rfl ?_
  refine g_aload_n dX6_take_65 rfl ?_
  refine g_getr (T := TX6) (N := 7) (Cn := RX6) (ref := "CommitCouncil") 3 dX6_take_66 (cIn_lo (by decide)) cSh_0 rfl (fun w h => List.mem_cons_of_mem _ (hU6 w h)) (by decide) (List.mem_cons_of_mem _ uw_1_161) (Or.inl rfl) rfl ?_
  refine g_iload_n dX6_take_69 rfl ?_
  refine g_iconst (nI (4)) dX6_take_70 (by decide) ?_
  refine g_callVi (_) (n9 := 2) [.inl (nI (i)), .inl (nI (4))] [.inl (nI (x 1)), .inr (0)] (c_part hc.2.1.1 hc.2.1.2.2.1 hR6 (show i < s.2.length from hi) (by first | exact hlen | omega) (by decide)) dX6_take_71 (gU_V uw_2_130 uw_2_131 uw_2_132 uw_1_6 uw_2_133) rfl (by decide +kernel) rfl ⟨by decide, by decide⟩ (cIn_lo (by decide)) cSh_4 rfl rfl (Nat.le_of_ble_eq_true rfl) (fun τ1 hq1 => ?_)
  subst hq1
  refine gEx.top (v := .inl (nI (x 4))) (congrArg Sum.inl (((hc.2.1.2.2.2 i x hx).1 4 (by decide)).trans (ptN (by rw [hk]; rfl)))) ?_
  refine g_callVv (n9 := 2) [.inl (nI (x 1)), .inl (nI (x 4))] [] (c_tAsk ⟨hR1, hR6, hA35⟩ hc hb hx hk hp hlen (fun h => by rw [ha] at hroom; rw [if_pos h] at hroom; exact hroom)) dX6_take_74 (gU_V uw_2_208 uw_2_210 us_0_14 uw_1_1 uw_2_211) rfl (by decide +kernel) rfl ⟨by decide, by decide⟩ (cIn_lo (by decide)) cSh_0 rfl rfl (Nat.le_of_ble_eq_true rfl) (fun τ1 hc1 => ?_)
  refine g_goto 161 dX6_take_77 (by decide) ?_
  exact g_vret dX6_take_161 rfl (⟨rfl, hc1⟩)

set_option maxRecDepth 100000 in
/-- take: kind 3 -/
theorem c_take3 {R A : Nat} (hRA : pRA R A) {s : pT} {σ : gSt} (hc : cRel R A s σ) (hb : pBu s.1) {i : Nat} {x : pMsg} (hx : s.2[i]? = some x) (hk : x 0 = 3) (hp : pMk R A x) (hlen : s.2.length ≤ 401) (hroom : s.2.length + pAns R A s.1 x ≤ 401) : gEM (cG R A) mX6_take 0 [.inr (0), .inl (nI (i)), .inl (nI (3)), .inl (nI (x 1))] σ (gV (fun τ => cRel R A (pTk R A x s) τ)) := by
  obtain ⟨hR1, hR6, hA35⟩ := hRA
  have hA5 : A ≤ 5 := by omega
  have hi := (List.getElem?_eq_some_iff.mp hx).1
  have hbd := pBu_bd (R := R) (A := A) hb
  obtain ⟨hx1, hx2, hx41, hxt⟩ := hp.2.2.2.2.1 hk
  have hx4 := hp.1
  have hbu := fun i j => hbd.1 i j
  have hb5 := hbd.2.2.2.1 (x 1)
  have hb10 := hbd.2.2.2.2.2.2.2.2.1 (x 1)
  have hra := raB hR6 hA5
  have ha : pAns R A s.1 x = if pKeep s.1 (x 1) (x 4) (x 2) ∧ pEnough A s.1 (x 1) then R * A else 0 := by unfold pAns; rw [hk]; try rfl
  refine gEM_of (by decide +kernel) rfl (Nat.le_of_ble_eq_true rfl) ?_
  refine g_iload_n dX6_take_0 rfl ?_
  refine g_tableIn (off := 79) 80 dX6_take_1 (by decide) (by decide) (by decide) (by decide) ?_
  refine g_aload_n dX6_take_80 rfl ?_
  refine g_iload_n dX6_take_81 rfl ?_
  refine g_aload_n dX6_take_82 rfl ?_
  refine g_getr (T := TX6) (N := 7) (Cn := RX6) (ref := "CommitCouncil") 2 dX6_take_83 (cIn_lo (by decide)) cSh_0 rfl (fun w h => List.mem_cons_of_mem _ (hU6 w h)) (by decide) (List.mem_cons_of_mem _ uw_1_160) (Or.inl rfl) rfl ?_
  refine g_iload_n dX6_take_86 rfl ?_
  refine g_aald3N (n := 3) (j := x 1) dX6_take_87 (cIn_lo (by decide)) cSh_3 hx1 (by omega) ?_
  refine g_callVv (n9 := 2) [.inl (nI (i)), .inr (40 + (x 1))] [] (c_tTold ⟨hR1, hR6, hA35⟩ hc hb hx hk hp hlen (fun h h2 => by rw [ha, if_pos ⟨h, h2⟩] at hroom; exact hroom) hx1) dX6_take_88 (gU_V uw_2_225 uw_2_227 us_0_15 uw_1_1 uw_2_228) rfl (by decide +kernel) rfl ⟨by decide, by decide⟩ (cIn_lo (by decide)) cSh_0 rfl rfl (Nat.le_of_ble_eq_true rfl) (fun τ1 hc1 => ?_)
  refine g_goto 161 dX6_take_91 (by decide) ?_
  exact g_vret dX6_take_161 rfl (⟨rfl, hc1⟩)

set_option maxRecDepth 100000 in
/-- take: kind 4 -/
theorem c_take4 {R A : Nat} (hRA : pRA R A) {s : pT} {σ : gSt} (hc : cRel R A s σ) (hb : pBu s.1) {i : Nat} {x : pMsg} (hx : s.2[i]? = some x) (hk : x 0 = 4) (hp : pMk R A x) (hlen : s.2.length ≤ 401) (hroom : s.2.length + pAns R A s.1 x ≤ 401) : gEM (cG R A) mX6_take 0 [.inr (0), .inl (nI (i)), .inl (nI (4)), .inl (nI (x 1))] σ (gV (fun τ => cRel R A (pTk R A x s) τ)) := by
  obtain ⟨hR1, hR6, hA35⟩ := hRA
  have hA5 : A ≤ 5 := by omega
  have hi := (List.getElem?_eq_some_iff.mp hx).1
  have hbd := pBu_bd (R := R) (A := A) hb
  obtain ⟨hx1, hx5⟩ := hp.2.2.2.2.2.1 hk
  have hx4 := hp.1
  have hbu := fun i j => hbd.1 i j
  have hb5 := hbd.2.2.2.1 (x 1)
  have hb10 := hbd.2.2.2.2.2.2.2.2.1 (x 1)
  have hra := raB hR6 hA5
  refine gEM_of (by decide +kernel) rfl (Nat.le_of_ble_eq_true rfl) ?_
  refine g_iload_n dX6_take_0 rfl ?_
  refine g_tableIn (off := 93) 94 dX6_take_1 (by decide) (by decide) (by decide) (by decide) ?_
  refine g_aload_n dX6_take_94 rfl ?_
  refine g_getr (T := TX6) (N := 7) (Cn := RX6) (ref := "CommitCouncil") 3 dX6_take_95 (cIn_lo (by decide)) cSh_0 rfl (fun w h => List.mem_cons_of_mem _ (hU6 w h)) (by decide) (List.mem_cons_of_mem _ uw_1_161) (Or.inl rfl) rfl ?_
  refine g_iload_n dX6_take_98 rfl ?_
  refine g_iconst (nI (5)) dX6_take_99 (by decide) ?_
  refine g_callVi (_) (n9 := 2) [.inl (nI (i)), .inl (nI (5))] [] (c_part hc.2.1.1 hc.2.1.2.2.1 hR6 (show i < s.2.length from hi) (by first | exact hlen | omega) (by decide)) dX6_take_100 (gU_V uw_2_130 uw_2_131 uw_2_132 uw_1_6 uw_2_133) rfl (by decide +kernel) rfl ⟨by decide, by decide⟩ (cIn_lo (by decide)) cSh_4 rfl rfl (Nat.le_of_ble_eq_true rfl) (fun τ1 hq1 => ?_)
  subst hq1
  refine gEx.top (v := .inl (nI (x 5))) (congrArg Sum.inl (((hc.2.1.2.2.2 i x hx).1 5 (by decide)).trans (ptN (by rw [hk]; rfl)))) ?_
  refine g_iconst (nI (1)) dX6_take_103 (by decide) ?_
  refine g_icmp_ne 111 dX6_take_104 (by decide) (fun h104 => ?_) (fun h104 => ?_)
  · skip
    rw [nI_eq (by omega) (by omega)] at h104
    refine g_iconst (nI (0)) dX6_take_111 (by decide) ?_
    refine g_istore dX6_take_112 (by decide) ?_
    refine g_aload_n dX6_take_114 rfl ?_
    refine g_getr (T := TX6) (N := 7) (Cn := RX6) (ref := "CommitCouncil") 0 dX6_take_115 (cIn_lo (by decide)) cSh_0 rfl (fun w h => List.mem_cons_of_mem _ (hU6 w h)) (by decide) (List.mem_cons_of_mem _ uw_1_158) (Or.inl rfl) rfl ?_
    refine g_iload_n dX6_take_118 rfl ?_
    refine g_aald4N (n := R) (j := x 1) dX6_take_119 (cIn_lo (by decide)) cSh_1 hx1 (by omega) ?_
    refine g_iload dX6_take_120 rfl ?_
    refine g_if_eq 129 dX6_take_122 (by decide) (fun h122 => ?_) (fun h122 => ?_)
    · skip
      rw [nI_z (by omega)] at h122
      refine g_iconst (nI (4)) dX6_take_129 (by decide) ?_
      refine g_put (T := TX4) (N := 3) (Cn := RX4) (ref := "CommitCouncil$Manager") (ty0 := tyX4) 1 dX6_take_130 (cIn_m hx1) (cSh_m (by omega)) rfl (fun w h => List.mem_cons_of_mem _ (hU4 w h)) tyX4_ok nmX4 (by decide) (List.mem_cons_of_mem _ uw_1_37) (Or.inl rfl) rfl rfl rfl rfl ?_
      refine g_goto 161 dX6_take_133 (by decide) ?_
      refine g_vret dX6_take_161 rfl ?_
      refine ⟨rfl, ?_⟩
      rw [pTk_no (α := pu s.1 3 (x 1) 0 (x 5 + 2)) (by unfold pTake; rw [hk]; try rfl)]
      first
        | (rw [show x 5 + 2 = 3 by omega]; exact cRel_wst hc hR6 hA5 hx1 3)
        | (rw [show x 5 + 2 = 4 by omega]; exact cRel_wst hc hR6 hA5 hx1 4)
        | (exfalso; exact absurd h122 (by decide))
        | (exfalso; omega)
    · skip
      rw [nI_z (by omega)] at h122
      refine g_iconst (nI (3)) dX6_take_125 (by decide) ?_
      refine g_goto 130 dX6_take_126 (by decide) ?_
      refine g_put (T := TX4) (N := 3) (Cn := RX4) (ref := "CommitCouncil$Manager") (ty0 := tyX4) 1 dX6_take_130 (cIn_m hx1) (cSh_m (by omega)) rfl (fun w h => List.mem_cons_of_mem _ (hU4 w h)) tyX4_ok nmX4 (by decide) (List.mem_cons_of_mem _ uw_1_37) (Or.inl rfl) rfl rfl rfl rfl ?_
      refine g_goto 161 dX6_take_133 (by decide) ?_
      refine g_vret dX6_take_161 rfl ?_
      refine ⟨rfl, ?_⟩
      rw [pTk_no (α := pu s.1 3 (x 1) 0 (x 5 + 2)) (by unfold pTake; rw [hk]; try rfl)]
      first
        | (rw [show x 5 + 2 = 3 by omega]; exact cRel_wst hc hR6 hA5 hx1 3)
        | (rw [show x 5 + 2 = 4 by omega]; exact cRel_wst hc hR6 hA5 hx1 4)
        | (exfalso; exact absurd h122 (by decide))
        | (exfalso; omega)
  · skip
    rw [nI_eq (by omega) (by omega)] at h104
    refine g_iconst (nI (1)) dX6_take_107 (by decide) ?_
    refine g_goto 112 dX6_take_108 (by decide) ?_
    refine g_istore dX6_take_112 (by decide) ?_
    refine g_aload_n dX6_take_114 rfl ?_
    refine g_getr (T := TX6) (N := 7) (Cn := RX6) (ref := "CommitCouncil") 0 dX6_take_115 (cIn_lo (by decide)) cSh_0 rfl (fun w h => List.mem_cons_of_mem _ (hU6 w h)) (by decide) (List.mem_cons_of_mem _ uw_1_158) (Or.inl rfl) rfl ?_
    refine g_iload_n dX6_take_118 rfl ?_
    refine g_aald4N (n := R) (j := x 1) dX6_take_119 (cIn_lo (by decide)) cSh_1 hx1 (by omega) ?_
    refine g_iload dX6_take_120 rfl ?_
    refine g_if_eq 129 dX6_take_122 (by decide) (fun h122 => ?_) (fun h122 => ?_)
    · skip
      rw [nI_z (by omega)] at h122
      refine g_iconst (nI (4)) dX6_take_129 (by decide) ?_
      refine g_put (T := TX4) (N := 3) (Cn := RX4) (ref := "CommitCouncil$Manager") (ty0 := tyX4) 1 dX6_take_130 (cIn_m hx1) (cSh_m (by omega)) rfl (fun w h => List.mem_cons_of_mem _ (hU4 w h)) tyX4_ok nmX4 (by decide) (List.mem_cons_of_mem _ uw_1_37) (Or.inl rfl) rfl rfl rfl rfl ?_
      refine g_goto 161 dX6_take_133 (by decide) ?_
      refine g_vret dX6_take_161 rfl ?_
      refine ⟨rfl, ?_⟩
      rw [pTk_no (α := pu s.1 3 (x 1) 0 (x 5 + 2)) (by unfold pTake; rw [hk]; try rfl)]
      first
        | (rw [show x 5 + 2 = 3 by omega]; exact cRel_wst hc hR6 hA5 hx1 3)
        | (rw [show x 5 + 2 = 4 by omega]; exact cRel_wst hc hR6 hA5 hx1 4)
        | (exfalso; exact absurd h122 (by decide))
        | (exfalso; omega)
    · skip
      rw [nI_z (by omega)] at h122
      refine g_iconst (nI (3)) dX6_take_125 (by decide) ?_
      refine g_goto 130 dX6_take_126 (by decide) ?_
      refine g_put (T := TX4) (N := 3) (Cn := RX4) (ref := "CommitCouncil$Manager") (ty0 := tyX4) 1 dX6_take_130 (cIn_m hx1) (cSh_m (by omega)) rfl (fun w h => List.mem_cons_of_mem _ (hU4 w h)) tyX4_ok nmX4 (by decide) (List.mem_cons_of_mem _ uw_1_37) (Or.inl rfl) rfl rfl rfl rfl ?_
      refine g_goto 161 dX6_take_133 (by decide) ?_
      refine g_vret dX6_take_161 rfl ?_
      refine ⟨rfl, ?_⟩
      rw [pTk_no (α := pu s.1 3 (x 1) 0 (x 5 + 2)) (by unfold pTake; rw [hk]; try rfl)]
      first
        | (rw [show x 5 + 2 = 3 by omega]; exact cRel_wst hc hR6 hA5 hx1 3)
        | (rw [show x 5 + 2 = 4 by omega]; exact cRel_wst hc hR6 hA5 hx1 4)
        | (exfalso; exact absurd h122 (by decide))
        | (exfalso; omega)

set_option maxRecDepth 100000 in
/-- take: kind 5 -/
theorem c_take5 {R A : Nat} (hRA : pRA R A) {s : pT} {σ : gSt} (hc : cRel R A s σ) (hb : pBu s.1) {i : Nat} {x : pMsg} (hx : s.2[i]? = some x) (hk : x 0 = 5) (hp : pMk R A x) (hlen : s.2.length ≤ 401) (hroom : s.2.length + pAns R A s.1 x ≤ 401) : gEM (cG R A) mX6_take 0 [.inr (0), .inl (nI (i)), .inl (nI (5)), .inl (nI (x 1))] σ (gV (fun τ => cRel R A (pTk R A x s) τ)) := by
  obtain ⟨hR1, hR6, hA35⟩ := hRA
  have hA5 : A ≤ 5 := by omega
  have hi := (List.getElem?_eq_some_iff.mp hx).1
  have hbd := pBu_bd (R := R) (A := A) hb
  obtain ⟨hx1, hx2⟩ := hp.2.2.2.2.2.2.1 hk
  have hx4 := hp.1
  have hbu := fun i j => hbd.1 i j
  have hb5 := hbd.2.2.2.1 (x 1)
  have hb10 := hbd.2.2.2.2.2.2.2.2.1 (x 1)
  have hra := raB hR6 hA5
  have ha : pAns R A s.1 x = if s.1 10 (x 1) 0 = 0 then 0 else 1 := by unfold pAns; rw [hk]; try rfl
  refine gEM_of (by decide +kernel) rfl (Nat.le_of_ble_eq_true rfl) ?_
  refine g_iload_n dX6_take_0 rfl ?_
  refine g_tableIn (off := 135) 136 dX6_take_1 (by decide) (by decide) (by decide) (by decide) ?_
  refine g_aload_n dX6_take_136 rfl ?_
  refine g_aload_n dX6_take_137 rfl ?_
  refine g_getr (T := TX6) (N := 7) (Cn := RX6) (ref := "CommitCouncil") 3 dX6_take_138 (cIn_lo (by decide)) cSh_0 rfl (fun w h => List.mem_cons_of_mem _ (hU6 w h)) (by decide) (List.mem_cons_of_mem _ uw_1_161) (Or.inl rfl) rfl ?_
  refine g_iload_n dX6_take_141 rfl ?_
  refine g_iconst (nI (2)) dX6_take_142 (by decide) ?_
  refine g_callVi (_) (n9 := 2) [.inl (nI (i)), .inl (nI (2))] [.inr (0)] (c_part hc.2.1.1 hc.2.1.2.2.1 hR6 (show i < s.2.length from hi) (by first | exact hlen | omega) (by decide)) dX6_take_143 (gU_V uw_2_130 uw_2_131 uw_2_132 uw_1_6 uw_2_133) rfl (by decide +kernel) rfl ⟨by decide, by decide⟩ (cIn_lo (by decide)) cSh_4 rfl rfl (Nat.le_of_ble_eq_true rfl) (fun τ1 hq1 => ?_)
  subst hq1
  refine gEx.top (v := .inl (nI (x 2))) (congrArg Sum.inl (((hc.2.1.2.2.2 i x hx).1 2 (by decide)).trans (ptN (by rw [hk]; rfl)))) ?_
  refine g_aload_n dX6_take_146 rfl ?_
  refine g_getr (T := TX6) (N := 7) (Cn := RX6) (ref := "CommitCouncil") 2 dX6_take_147 (cIn_lo (by decide)) cSh_0 rfl (fun w h => List.mem_cons_of_mem _ (hU6 w h)) (by decide) (List.mem_cons_of_mem _ uw_1_160) (Or.inl rfl) rfl ?_
  refine g_iload_n dX6_take_150 rfl ?_
  refine g_aald3N (n := 3) (j := x 1) dX6_take_151 (cIn_lo (by decide)) cSh_3 hx1 (by omega) ?_
  refine g_get (T := TX1) (N := 10) (Cn := RX1) (ref := "CommitCouncil$Leader") 4 dX6_take_152 (cIn_l hx1) (cSh_l hx1) rfl (fun w h => List.mem_cons_of_mem _ (hU1 w h)) (by decide) (List.mem_cons_of_mem _ uw_1_86) (Or.inl rfl) rfl ?_
  refine gEx.top (v := .inl (nI (s.1 10 (x 1) 0))) (congrArg Sum.inl ((hc.2.2.2.2.2 (x 1) hx1).2.2.2.2.1)) ?_
  refine g_callVv (n9 := 2) [.inl (nI (x 2)), .inl (nI (s.1 10 (x 1) 0))] [] (c_tQue ⟨hR1, hR6, hA35⟩ hc hb hx hk hp hlen (fun h => by rw [ha] at hroom; rw [if_neg h] at hroom; exact hroom)) dX6_take_155 (gU_V uw_2_238 uw_3_0 us_1_1 uw_1_1 uw_3_1) rfl (by decide +kernel) rfl ⟨by decide, by decide⟩ (cIn_lo (by decide)) cSh_0 rfl rfl (Nat.le_of_ble_eq_true rfl) (fun τ1 hc1 => ?_)
  refine g_goto 161 dX6_take_158 (by decide) ?_
  exact g_vret dX6_take_161 rfl (⟨rfl, hc1⟩)

theorem c_take {R A : Nat} (hRA : pRA R A) {s : pT} {σ : gSt} (hc : cRel R A s σ) (hb : pBu s.1) {i : Nat} {x : pMsg} (hx : s.2[i]? = some x) (hp : pMk R A x) (hlen : s.2.length ≤ 401) (hroom : s.2.length + pAns R A s.1 x ≤ 401) : gEM (cG R A) mX6_take 0 [.inr 0, .inl (nI i), .inl (nI (x 0)), .inl (nI (x 1))] σ (gV (fun τ => cRel R A (pTk R A x s) τ)) := by
  have h5 := hp.2.2.2.2.2.2.2
  rcases (show x 0 = 0 ∨ x 0 = 1 ∨ x 0 = 2 ∨ x 0 = 3 ∨ x 0 = 4 ∨ x 0 = 5 by omega) with hk | hk | hk | hk | hk | hk
  · rw [hk]; exact c_take0 hRA hc hb hx hk hp hlen hroom
  · rw [hk]; exact c_take1 hRA hc hb hx hk hp hlen hroom
  · rw [hk]; exact c_take2 hRA hc hb hx hk hp hlen hroom
  · rw [hk]; exact c_take3 hRA hc hb hx hk hp hlen hroom
  · rw [hk]; exact c_take4 hRA hc hb hx hk hp hlen hroom
  · rw [hk]; exact c_take5 hRA hc hb hx hk hp hlen hroom
