theorem gEx_post {G : gG} {M : gM} {b pc : Nat} {lv : List (Option gAV)} {st : List gAV} {σ : gSt} {Q Q' : gOut → gSt → Prop} (h : gEx G M b pc lv st σ Q) (hq : ∀ o τ, Q o τ → Q' o τ) : gEx G M b pc lv st σ Q' := by
  intro p l e R s m args below meth c D cy ad H locs cells slots mc ms ls C X L T hT Xs
  obtain ⟨t, a1, o, b1, b2, b3⟩ := h p l e R s m args below meth c D cy ad H locs cells slots mc ms ls C X L T hT Xs
  refine ⟨t, a1, o, b1, b2, ?_⟩
  rcases b3 with ⟨⟨⟨v, σ1, e1, e2, e3⟩, e4⟩, e5⟩ | ⟨q, e1, E, ce, L, ⟨⟨k, σ1, f1, f2, f3⟩, f4⟩, f5⟩
  · exact Or.inl ⟨⟨⟨v, σ1, e1, hq _ _ e2, e3⟩, e4⟩, e5⟩
  · exact Or.inr ⟨q, e1, E, ce, L, ⟨⟨k, σ1, f1, hq _ _ f2, f3⟩, f4⟩, f5⟩

set_option maxRecDepth 100000 in
theorem c_tVote_l {R A : Nat} (hRA : pRA R A) {s : pT} {y : Int32} {a m b w : Nat} (hn : s.2.length + 3 ≤ 401) : ∀ (k i : Nat), i ≤ 3 → 3 - i < k → ∀ σ, cRel R A (pAdd s i (fun l => mVoted l a m b w)) σ → gEx (cG R A) mX6_takeVote 0 77 [some (.inr (0)), some (.inl (y)), some (.inl (nI (a))), some (.inl (nI (m))), some (.inl (nI (b))), some (.inl (nI (w))), some (.inl (nI (i)))] [] σ (gV (fun τ => cRel R A (pAdd s 3 (fun l => mVoted l a m b w)) τ)) := by
  intro k
  induction k with
  | zero => intro i hi1 hi2; exact absurd hi2 (by omega)
  | succ k ih =>
    intro i hi1 hi2 σ hc
    obtain ⟨hR1, hR6, hA35⟩ := hRA
    refine g_iload dX6_takeVote_77 rfl ?_
    refine g_iconst (nI (3)) dX6_takeVote_79 (by decide) ?_
    refine g_icmp_ge 105 dX6_takeVote_80 (by decide) (fun h80 => ?_) (fun h80 => ?_)
    · skip
      rw [nI_leI (by omega) (by omega)] at h80
      refine g_vret dX6_takeVote_105 rfl ?_
      have e : i = 3 := by omega
      subst e
      exact ⟨rfl, hc⟩
    · skip
      rw [nI_leI (by omega) (by omega)] at h80
      refine g_aload_n dX6_takeVote_83 rfl ?_
      refine g_getr (T := TX6) (N := 7) (Cn := RX6) (ref := "CommitCouncil") 3 dX6_takeVote_84 (cIn_lo (by decide)) cSh_0 rfl (fun w h => List.mem_cons_of_mem _ (hU6 w h)) (by decide) (List.mem_cons_of_mem _ uw_1_161) (Or.inl rfl) rfl ?_
      refine g_iconst (nI (1)) dX6_takeVote_87 (by decide) ?_
      refine g_iload dX6_takeVote_88 rfl ?_
      refine g_iload_n dX6_takeVote_90 rfl ?_
      refine g_iload_n dX6_takeVote_91 rfl ?_
      refine g_iload dX6_takeVote_92 rfl ?_
      refine g_iload dX6_takeVote_94 rfl ?_
      refine g_callVv (n9 := 6) [.inl (nI (1)), .inl (nI (i)), .inl (nI (a)), .inl (nI (m)), .inl (nI (b)), .inl (nI (w))] [] (c_send hc.2.1.1 hc.2.1.2.2.1 hR6 (by rw [pAdd_len]; omega)) dX6_takeVote_96 (gU_V uw_2_73 uw_2_74 uw_2_75 uw_1_6 uw_2_76) rfl (by decide +kernel) rfl ⟨by decide, by decide⟩ (cIn_lo (by decide)) cSh_4 rfl rfl (Nat.le_of_ble_eq_true rfl) (fun σ1 hp1 => ?_)
      refine g_iinc (nI (i + 1)) dX6_takeVote_99 rfl (show nI (i) + nI 1 = _ from nI_add _ _) (by decide) ?_
      refine g_goto 77 dX6_takeVote_102 (by decide) ?_
      subst hp1
      exact ih (i + 1) (by omega) (by omega) _ (by rw [← pAdd_s]; exact cRel_snd hc ((fun l => mVoted l a m b w) i) (by simp [mVote, mDec, mQue, mAsk, mVoted]) rfl rfl rfl rfl rfl rfl)

set_option maxRecDepth 100000 in
/-- a VOTE comes -/
theorem c_tVote {R A : Nat} (hRA : pRA R A) {s : pT} {σ : gSt} (hc : cRel R A s σ) (hb : pBu s.1) {i : Nat} {x : pMsg} (hx : s.2[i]? = some x) (hk : x 0 = 0) (hp : pMk R A x) (hlen : s.2.length ≤ 401) (hroom : s.1 5 (x 1) 0 ≤ x 4 → s.2.length + 3 ≤ 401) : gEM (cG R A) mX6_takeVote 0 [.inr (0), .inl (nI (i)), .inl (nI (x 1))] σ (gV (fun τ => cRel R A (pTk R A x s) τ)) := by
  obtain ⟨hR1, hR6, hA35⟩ := hRA
  have hA5 : A ≤ 5 := by omega
  have hi := (List.getElem?_eq_some_iff.mp hx).1
  have hbd := pBu_bd (R := R) (A := A) hb
  obtain ⟨hx4, hxa, -⟩ := hp
  obtain ⟨hx1, hx3, hx5⟩ := hxa hk
  have hb5 := hbd.2.2.2.1 (x 1)
  refine gEM_of (by decide +kernel) rfl (Nat.le_of_ble_eq_true rfl) ?_
  refine g_aload_n dX6_takeVote_0 rfl ?_
  refine g_getr (T := TX6) (N := 7) (Cn := RX6) (ref := "CommitCouncil") 3 dX6_takeVote_1 (cIn_lo (by decide)) cSh_0 rfl (fun w h => List.mem_cons_of_mem _ (hU6 w h)) (by decide) (List.mem_cons_of_mem _ uw_1_161) (Or.inl rfl) rfl ?_
  refine g_iload_n dX6_takeVote_4 rfl ?_
  refine g_iconst (nI (3)) dX6_takeVote_5 (by decide) ?_
  refine g_callVi (_) (n9 := 2) [.inl (nI (i)), .inl (nI (3))] [] (c_part hc.2.1.1 hc.2.1.2.2.1 hR6 (show i < s.2.length from hi) (by first | exact hlen | omega) (by decide)) dX6_takeVote_6 (gU_V uw_2_130 uw_2_131 uw_2_132 uw_1_6 uw_2_133) rfl (by decide +kernel) rfl ⟨by decide, by decide⟩ (cIn_lo (by decide)) cSh_4 rfl rfl (Nat.le_of_ble_eq_true rfl) (fun τ1 hq1 => ?_)
  subst hq1
  refine gEx.top (v := .inl (nI (x 3))) (congrArg Sum.inl (((hc.2.1.2.2.2 i x hx).1 3 (by decide)).trans (ptN (by rw [hk]; rfl)))) ?_
  refine g_istore_n dX6_takeVote_9 (by decide) ?_
  refine g_aload_n dX6_takeVote_10 rfl ?_
  refine g_getr (T := TX6) (N := 7) (Cn := RX6) (ref := "CommitCouncil") 3 dX6_takeVote_11 (cIn_lo (by decide)) cSh_0 rfl (fun w h => List.mem_cons_of_mem _ (hU6 w h)) (by decide) (List.mem_cons_of_mem _ uw_1_161) (Or.inl rfl) rfl ?_
  refine g_iload_n dX6_takeVote_14 rfl ?_
  refine g_iconst (nI (4)) dX6_takeVote_15 (by decide) ?_
  refine g_callVi (_) (n9 := 2) [.inl (nI (i)), .inl (nI (4))] [] (c_part hc.2.1.1 hc.2.1.2.2.1 hR6 (show i < s.2.length from hi) (by first | exact hlen | omega) (by decide)) dX6_takeVote_16 (gU_V uw_2_130 uw_2_131 uw_2_132 uw_1_6 uw_2_133) rfl (by decide +kernel) rfl ⟨by decide, by decide⟩ (cIn_lo (by decide)) cSh_4 rfl rfl (Nat.le_of_ble_eq_true rfl) (fun τ1 hq1 => ?_)
  subst hq1
  refine gEx.top (v := .inl (nI (x 4))) (congrArg Sum.inl (((hc.2.1.2.2.2 i x hx).1 4 (by decide)).trans (ptN (by rw [hk]; rfl)))) ?_
  refine g_istore dX6_takeVote_19 (by decide) ?_
  refine g_aload_n dX6_takeVote_21 rfl ?_
  refine g_getr (T := TX6) (N := 7) (Cn := RX6) (ref := "CommitCouncil") 3 dX6_takeVote_22 (cIn_lo (by decide)) cSh_0 rfl (fun w h => List.mem_cons_of_mem _ (hU6 w h)) (by decide) (List.mem_cons_of_mem _ uw_1_161) (Or.inl rfl) rfl ?_
  refine g_iload_n dX6_takeVote_25 rfl ?_
  refine g_iconst (nI (5)) dX6_takeVote_26 (by decide) ?_
  refine g_callVi (_) (n9 := 2) [.inl (nI (i)), .inl (nI (5))] [] (c_part hc.2.1.1 hc.2.1.2.2.1 hR6 (show i < s.2.length from hi) (by first | exact hlen | omega) (by decide)) dX6_takeVote_27 (gU_V uw_2_130 uw_2_131 uw_2_132 uw_1_6 uw_2_133) rfl (by decide +kernel) rfl ⟨by decide, by decide⟩ (cIn_lo (by decide)) cSh_4 rfl rfl (Nat.le_of_ble_eq_true rfl) (fun τ1 hq1 => ?_)
  subst hq1
  refine gEx.top (v := .inl (nI (x 5))) (congrArg Sum.inl (((hc.2.1.2.2.2 i x hx).1 5 (by decide)).trans (ptN (by rw [hk]; rfl)))) ?_
  refine g_istore dX6_takeVote_30 (by decide) ?_
  refine g_iload dX6_takeVote_32 rfl ?_
  refine g_aload_n dX6_takeVote_34 rfl ?_
  refine g_getr (T := TX6) (N := 7) (Cn := RX6) (ref := "CommitCouncil") 1 dX6_takeVote_35 (cIn_lo (by decide)) cSh_0 rfl (fun w h => List.mem_cons_of_mem _ (hU6 w h)) (by decide) (List.mem_cons_of_mem _ uw_1_159) (Or.inl rfl) rfl ?_
  refine g_iload_n dX6_takeVote_38 rfl ?_
  refine g_aald2N (n := A) (j := x 1) dX6_takeVote_39 (cIn_lo (by decide)) cSh_2 hx1 (by omega) ?_
  refine g_get (T := TX0) (N := 3) (Cn := RX0) (ref := "CommitCouncil$Acceptor") 1 dX6_takeVote_40 (cIn_a hx1) (cSh_a (by omega)) rfl (fun w h => List.mem_cons_of_mem _ (hU0 w h)) (by decide) (List.mem_cons_of_mem _ uw_1_62) (Or.inl rfl) rfl ?_
  refine gEx.top (v := .inl (nI (s.1 5 (x 1) 0))) (congrArg Sum.inl ((hc.2.2.2.2.1 (x 1) hx1).2.1)) ?_
  refine g_icmp_ge 47 dX6_takeVote_43 (by decide) (fun h43 => ?_) (fun h43 => ?_)
  · skip
    rw [nI_leI (by omega) (by omega)] at h43
    refine g_aload_n dX6_takeVote_47 rfl ?_
    refine g_getr (T := TX6) (N := 7) (Cn := RX6) (ref := "CommitCouncil") 1 dX6_takeVote_48 (cIn_lo (by decide)) cSh_0 rfl (fun w h => List.mem_cons_of_mem _ (hU6 w h)) (by decide) (List.mem_cons_of_mem _ uw_1_159) (Or.inl rfl) rfl ?_
    refine g_iload_n dX6_takeVote_51 rfl ?_
    refine g_aald2N (n := A) (j := x 1) dX6_takeVote_52 (cIn_lo (by decide)) cSh_2 hx1 (by omega) ?_
    refine g_iload_n dX6_takeVote_53 rfl ?_
    refine g_iload dX6_takeVote_54 rfl ?_
    refine g_iload dX6_takeVote_56 rfl ?_
    refine g_callVv (n9 := 3) [.inl (nI (x 3)), .inl (nI (x 4)), .inl (nI (x 5))] [] (c_accept ⟨hR1, hR6, hA35⟩ hc hx1 hx3 hx4 hx5) dX6_takeVote_58 (gU_V uw_2_185 uw_2_186 uw_2_187 uw_1_4 uw_2_188) rfl (by decide +kernel) rfl ⟨by decide, by decide⟩ (cIn_a hx1) (cSh_a (by omega)) rfl rfl (Nat.le_of_ble_eq_true rfl) (fun τ2 hc2 => ?_)
    refine g_aload_n dX6_takeVote_61 rfl ?_
    refine g_getr (T := TX6) (N := 7) (Cn := RX6) (ref := "CommitCouncil") 4 dX6_takeVote_62 (cIn_lo (by decide)) cSh_0 rfl (fun w h => List.mem_cons_of_mem _ (hU6 w h)) (by decide) (List.mem_cons_of_mem _ uw_1_162) (Or.inl rfl) rfl ?_
    refine g_iload_n dX6_takeVote_65 rfl ?_
    refine g_iload dX6_takeVote_66 rfl ?_
    refine g_iload dX6_takeVote_68 rfl ?_
    refine g_iload_n dX6_takeVote_70 rfl ?_
    refine g_callVv (n9 := 4) [.inl (nI (x 3)), .inl (nI (x 4)), .inl (nI (x 5)), .inl (nI (x 1))] [] (c_enter (s := (pu (pu s.1 5 (x 1) 0 (x 4)) 6 (x 1) (x 3) (4 * x 4 + x 5), s.2)) ⟨hR1, hR6, hA35⟩ hc2 (pBu_bd (pBu_pu (pBu_pu hb (Or.inr hx4)) (Or.inr (by show _ ≤ 6150; omega)))) hx3 hx4 hx5 hx1) dX6_takeVote_71 (gU_V uw_2_190 uw_2_191 uw_2_192 uw_1_7 uw_2_193) rfl (by decide +kernel) rfl ⟨by decide, by decide⟩ (cIn_lo (by decide)) cSh_6 rfl rfl (Nat.le_of_ble_eq_true rfl) (fun τ3 hc3 => ?_)
    refine g_iconst (nI (0)) dX6_takeVote_74 (by decide) ?_
    refine g_istore dX6_takeVote_75 (by decide) ?_
    exact gEx_post (c_tVote_l (s := (pEnter A (pu (pu s.1 5 (x 1) 0 (x 4)) 6 (x 1) (x 3) (4 * x 4 + x 5)) (x 3) (x 4) (x 5) (x 1), s.2)) ⟨hR1, hR6, hA35⟩ (hroom h43) 4 0 (by omega) (by omega) _ (by rw [pAdd_0]; exact hc3)) (fun o τ q => ⟨q.1, by rw [pTk_of (α := (pEnter A (pu (pu s.1 5 (x 1) 0 (x 4)) 6 (x 1) (x 3) (4 * x 4 + x 5)) (x 3) (x 4) (x 5) (x 1), s.2).1) (n := 3) (f := fun l => mVoted l (x 1) (x 3) (x 4) (x 5)) (by unfold pTake; rw [hk]; exact if_pos h43)]; exact q.2⟩)
  · skip
    rw [nI_leI (by omega) (by omega)] at h43
    exact g_vret dX6_takeVote_46 rfl (⟨rfl, by rw [pTk_no (α := s.1) (by unfold pTake; rw [hk]; exact if_neg (by omega))]; exact hc⟩)

set_option maxRecDepth 100000 in
/-- a QUESTION comes -/
theorem c_tQue {R A : Nat} (hRA : pRA R A) {s : pT} {σ : gSt} (hc : cRel R A s σ) (hb : pBu s.1) {i : Nat} {x : pMsg} (hx : s.2[i]? = some x) (hk : x 0 = 5) (hp : pMk R A x) (hlen : s.2.length ≤ 401) (hroom : s.1 10 (x 1) 0 ≠ 0 → s.2.length + 1 ≤ 401) : gEM (cG R A) mX6_takeQuestion 0 [.inr (0), .inl (nI (x 2)), .inl (nI (s.1 10 (x 1) 0))] σ (gV (fun τ => cRel R A (pTk R A x s) τ)) := by
  obtain ⟨hR1, hR6, hA35⟩ := hRA
  have hA5 : A ≤ 5 := by omega
  have hi := (List.getElem?_eq_some_iff.mp hx).1
  have hbd := pBu_bd (R := R) (A := A) hb
  have hb10 := hbd.2.2.2.2.2.2.2.2.1 (x 1)
  refine gEM_of (by decide +kernel) rfl (Nat.le_of_ble_eq_true rfl) ?_
  refine g_iload_n dX6_takeQuestion_0 rfl ?_
  refine g_if_eq 17 dX6_takeQuestion_1 (by decide) (fun h1 => ?_) (fun h1 => ?_)
  · skip
    rw [nI_z (by omega)] at h1
    refine g_vret dX6_takeQuestion_17 rfl ?_
    refine ⟨rfl, ?_⟩
    first
      | (rw [pTk_no (α := s.1) (by unfold pTake; rw [hk]; simp [h1])]; exact hc)
      | (rw [pTk_of (α := s.1) (n := 1) (f := fun _ => mDec (x 2) (s.1 10 (x 1) 0)) (by unfold pTake; rw [hk]; simp [h1]), ← pAdd_s, pAdd_0]; exact cRel_snd hc (mDec (x 2) (s.1 10 (x 1) 0)) (by simp [mDec]) rfl rfl rfl rfl rfl rfl)
  · skip
    rw [nI_z (by omega)] at h1
    refine g_aload_n dX6_takeQuestion_4 rfl ?_
    refine g_getr (T := TX6) (N := 7) (Cn := RX6) (ref := "CommitCouncil") 3 dX6_takeQuestion_5 (cIn_lo (by decide)) cSh_0 rfl (fun w h => List.mem_cons_of_mem _ (hU6 w h)) (by decide) (List.mem_cons_of_mem _ uw_1_161) (Or.inl rfl) rfl ?_
    refine g_iconst (nI (4)) dX6_takeQuestion_8 (by decide) ?_
    refine g_iload_n dX6_takeQuestion_9 rfl ?_
    refine g_iconst ((-1)) dX6_takeQuestion_10 (by decide) ?_
    refine g_iconst ((-1)) dX6_takeQuestion_11 (by decide) ?_
    refine g_iconst ((-1)) dX6_takeQuestion_12 (by decide) ?_
    refine g_iload_n dX6_takeQuestion_13 rfl ?_
    refine g_callVv (n9 := 6) [.inl (nI (4)), .inl (nI (x 2)), .inl ((-1)), .inl ((-1)), .inl ((-1)), .inl (nI (s.1 10 (x 1) 0))] [] (c_send hc.2.1.1 hc.2.1.2.2.1 hR6 (by have := hroom h1; omega)) dX6_takeQuestion_14 (gU_V uw_2_73 uw_2_74 uw_2_75 uw_1_6 uw_2_76) rfl (by decide +kernel) rfl ⟨by decide, by decide⟩ (cIn_lo (by decide)) cSh_4 rfl rfl (Nat.le_of_ble_eq_true rfl) (fun τ1 hq1 => ?_)
    subst hq1
    refine g_vret dX6_takeQuestion_17 rfl ?_
    refine ⟨rfl, ?_⟩
    first
      | (rw [pTk_no (α := s.1) (by unfold pTake; rw [hk]; simp [h1])]; exact hc)
      | (rw [pTk_of (α := s.1) (n := 1) (f := fun _ => mDec (x 2) (s.1 10 (x 1) 0)) (by unfold pTake; rw [hk]; simp [h1]), ← pAdd_s, pAdd_0]; exact cRel_snd hc (mDec (x 2) (s.1 10 (x 1) 0)) (by simp [mDec]) rfl rfl rfl rfl rfl rfl)
