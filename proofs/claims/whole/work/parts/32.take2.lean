/-- a TOLD more: its parts, and then what it tells -/
theorem cMs_told {R A : Nat} {α : pS} {ms : List pMsg} {σ : gSt} (h : cMs R α ms σ) {l a b : Nat} {t : Nat → Nat} (hR : R ≤ 6) (ha : a < A) (ht : ∀ m, m < R → σ (30 + a) m = nI (t m)) :
    cMs R (pSnd α 1) (ms ++ [mTold l a b t]) (gur (sndσ σ ms.length (6 + R) (nI 3) (nI l) (nI a) (-1) (nI b) (-1)) 5 (va_cpy (sndσ σ ms.length (6 + R) (nI 3) (nI l) (nI a) (-1) (nI b) (-1) (30 + a)) (sndσ σ ms.length (6 + R) (nI 3) (nI l) (nI a) (-1) (nI b) (-1) 5) 0 ((ms.length + 1 - 1) * (6 + R) + 6) R)) := by
  obtain ⟨q1, q2, q3, q4⟩ := h
  rw [Nat.add_sub_cancel]
  refine ⟨?_, ?_, ?_, fun i y hy => ?_⟩
  · rw [gur_ne _ _ (by decide), snd_40, List.length_append]
    rfl
  · rw [gur_ne _ _ (by decide), snd_41, q2, nI_add]
    unfold pSnd
    rw [pu_at]
  · rw [gur_ne _ _ (by decide), snd_42, q3]
  · by_cases hi : i < ms.length
    · rw [List.getElem?_append_left hi] at hy
      refine cOne_kept (q4 i y hy) hi (fun p hp => ?_)
      rw [gur_self, pk_cpy_out (Or.inl (by omega)), snd_5, if_neg (by omega)]
    · rw [List.getElem?_append_right (by omega)] at hy
      have h0 : i - ms.length < 1 := (List.getElem?_eq_some_iff.mp hy).1
      have hi0 : i = ms.length := by omega
      subst hi0
      rw [Nat.sub_self] at hy
      cases hy
      refine ⟨fun j hj => ?_, fun _ m hm => ?_⟩
      · rw [gur_self, pk_cpy_out (Or.inl (by omega)), snd_5, if_pos (by omega), Nat.add_sub_cancel_left]
        rcases (show j = 0 ∨ j = 1 ∨ j = 2 ∨ j = 3 ∨ j = 4 ∨ j = 5 by omega) with h | h | h | h | h | h <;> subst h <;> rfl
      · rw [gur_self, pk_cpy_in (by omega) (by omega), snd_o (by omega) (by omega), show 0 + (ms.length * (6 + R) + 6 + m - (ms.length * (6 + R) + 6)) = m by omega, ht m hm, show 6 + m = m + 6 by omega]
        rfl
theorem cRel_told {R A : Nat} {s : pT} {σ : gSt} (h : cRel R A s σ) {l a b : Nat} (hR : R ≤ 6) (ha : a < A) :
    cRel R A (pSnd s.1 1, s.2 ++ [mTold l a b (s.1 6 a)]) (gur (sndσ σ s.2.length (6 + R) (nI 3) (nI l) (nI a) (-1) (nI b) (-1)) 5 (va_cpy (sndσ σ s.2.length (6 + R) (nI 3) (nI l) (nI a) (-1) (nI b) (-1) (30 + a)) (sndσ σ s.2.length (6 + R) (nI 3) (nI l) (nI a) (-1) (nI b) (-1) 5) 0 ((s.2.length + 1 - 1) * (6 + R) + 6) R)) :=
  cRel_mail h (cMs_told h.2.1 hR ha (fun m hm => (h.2.2.2.2.1 a ha).2.2 m hm)) (fun c h4 h5 => by rw [gur_ne _ _ h5, snd_o h4 h5]) (fun c hc => pu_c _ hc) (pu_i _ (by decide)) (pu_i _ (by decide))

theorem tol_c {α : pS} {b a R k c : Nat} {t : Nat → Nat} (h : c ≠ 17) : pSnd (pTol α b a R t) k c = pSnd α k c := by
  funext y z
  unfold pSnd pu pTol
  simp [h]

set_option maxRecDepth 100000 in
/-- an ASK comes -/
theorem c_tAsk {R A : Nat} (hRA : pRA R A) {s : pT} {σ : gSt} (hc : cRel R A s σ) (hb : pBu s.1) {i : Nat} {x : pMsg} (hx : s.2[i]? = some x) (hk : x 0 = 2) (hp : pMk R A x) (hlen : s.2.length ≤ 401) (hroom : s.1 5 (x 1) 0 < x 4 → s.2.length + 1 ≤ 401) : gEM (cG R A) mX6_takeAsk 0 [.inr (0), .inl (nI (x 1)), .inl (nI (x 4))] σ (gV (fun τ => cRel R A (pTk R A x s) τ)) := by
  obtain ⟨hR1, hR6, hA35⟩ := hRA
  have hA5 : A ≤ 5 := by omega
  have hi := (List.getElem?_eq_some_iff.mp hx).1
  have hbd := pBu_bd (R := R) (A := A) hb
  obtain ⟨hx4, -, -, hxa, -⟩ := hp
  obtain ⟨hx1, hx41⟩ := hxa hk
  have hb5 := hbd.2.2.2.1 (x 1)
  refine gEM_of (by decide +kernel) rfl (Nat.le_of_ble_eq_true rfl) ?_
  refine g_aload_n dX6_takeAsk_0 rfl ?_
  refine g_getr (T := TX6) (N := 7) (Cn := RX6) (ref := "CommitCouncil") 1 dX6_takeAsk_1 (cIn_lo (by decide)) cSh_0 rfl (fun w h => List.mem_cons_of_mem _ (hU6 w h)) (by decide) (List.mem_cons_of_mem _ uw_1_159) (Or.inl rfl) rfl ?_
  refine g_iload_n dX6_takeAsk_4 rfl ?_
  refine g_aald2N (n := A) (j := x 1) dX6_takeAsk_5 (cIn_lo (by decide)) cSh_2 hx1 (by omega) ?_
  refine g_astore_n dX6_takeAsk_6 (by decide) ?_
  refine g_iload_n dX6_takeAsk_7 rfl ?_
  refine g_aload_n dX6_takeAsk_8 rfl ?_
  refine g_get (T := TX0) (N := 3) (Cn := RX0) (ref := "CommitCouncil$Acceptor") 1 dX6_takeAsk_9 (cIn_a hx1) (cSh_a (by omega)) rfl (fun w h => List.mem_cons_of_mem _ (hU0 w h)) (by decide) (List.mem_cons_of_mem _ uw_1_62) (Or.inl rfl) rfl ?_
  refine gEx.top (v := .inl (nI (s.1 5 (x 1) 0))) (congrArg Sum.inl ((hc.2.2.2.2.1 (x 1) hx1).2.1)) ?_
  refine g_icmp_gt 16 dX6_takeAsk_12 (by decide) (fun h12 => ?_) (fun h12 => ?_)
  · skip
    rw [nI_ltI (by omega) (by omega)] at h12
    refine g_aload_n dX6_takeAsk_16 rfl ?_
    refine g_iload_n dX6_takeAsk_17 rfl ?_
    refine g_put (T := TX0) (N := 3) (Cn := RX0) (ref := "CommitCouncil$Acceptor") (ty0 := tyX0) 1 dX6_takeAsk_18 (cIn_a hx1) (cSh_a (by omega)) rfl (fun w h => List.mem_cons_of_mem _ (hU0 w h)) tyX0_ok nmX0 (by decide) (List.mem_cons_of_mem _ uw_1_62) (Or.inl rfl) rfl rfl rfl rfl ?_
    have hc1 : cRel R A (pu s.1 5 (x 1) 0 (x 4), s.2) _ := cRel_wp hc hR6 hA5 hx1 (x 4)
    refine g_aload_n dX6_takeAsk_21 rfl ?_
    refine g_getr (T := TX6) (N := 7) (Cn := RX6) (ref := "CommitCouncil") 3 dX6_takeAsk_22 (cIn_lo (by decide)) cSh_0 rfl (fun w h => List.mem_cons_of_mem _ (hU6 w h)) (by decide) (List.mem_cons_of_mem _ uw_1_161) (Or.inl rfl) rfl ?_
    refine g_iconst (nI (3)) dX6_takeAsk_25 (by decide) ?_
    refine g_iload_n dX6_takeAsk_26 rfl ?_
    refine g_callSi (nI ((x 4 - 1) % 3)) (n9 := 1) [.inl (nI (x 4))] [.inl (nI (3)), .inr (4)] (c_leaderOf hx41 (by omega)) dX6_takeAsk_27 (gU_S uw_2_212 uw_2_213 uw_1_1 uw_2_214) rfl (by decide +kernel) rfl ⟨by decide, by decide⟩ rfl (Nat.le_of_ble_eq_true rfl) (fun τ1 hq1 => ?_)
    subst hq1
    refine g_iload_n dX6_takeAsk_30 rfl ?_
    refine g_iconst ((-1)) dX6_takeAsk_31 (by decide) ?_
    refine g_iload_n dX6_takeAsk_32 rfl ?_
    refine g_iconst ((-1)) dX6_takeAsk_33 (by decide) ?_
    refine g_callVv (n9 := 6) [.inl (nI (3)), .inl (nI ((x 4 - 1) % 3)), .inl (nI (x 1)), .inl ((-1)), .inl (nI (x 4)), .inl ((-1))] [] (c_send (n := s.2.length) hc1.2.1.1 hc1.2.1.2.2.1 hR6 (by have := hroom h12; omega)) dX6_takeAsk_34 (gU_V uw_2_73 uw_2_74 uw_2_75 uw_1_6 uw_2_76) rfl (by decide +kernel) rfl ⟨by decide, by decide⟩ (cIn_lo (by decide)) cSh_4 rfl rfl (Nat.le_of_ble_eq_true rfl) (fun τ2 hq2 => ?_)
    subst hq2
    refine g_aload_n dX6_takeAsk_37 rfl ?_
    refine g_getr (T := TX6) (N := 7) (Cn := RX6) (ref := "CommitCouncil") 3 dX6_takeAsk_38 (cIn_lo (by decide)) cSh_0 rfl (fun w h => List.mem_cons_of_mem _ (hU6 w h)) (by decide) (List.mem_cons_of_mem _ uw_1_161) (Or.inl rfl) rfl ?_
    refine g_aload_n dX6_takeAsk_41 rfl ?_
    refine g_getr (T := TX0) (N := 3) (Cn := RX0) (ref := "CommitCouncil$Acceptor") 2 dX6_takeAsk_42 (cIn_a hx1) (cSh_a (by omega)) rfl (fun w h => List.mem_cons_of_mem _ (hU0 w h)) (by decide) (List.mem_cons_of_mem _ uw_1_64) (Or.inl rfl) rfl ?_
    refine g_callVv (n9 := 1) [.inr (30 + (x 1))] [] (c_attach (n := s.2.length + 1) snd_40 (snd_42.trans hc1.2.1.2.2.1) hR6 hx1 hA5 (by omega) (by have := hroom h12; omega)) dX6_takeAsk_45 (gU_V uw_2_218 uw_2_219 uw_2_220 uw_1_6 uw_2_221) rfl (by decide +kernel) rfl ⟨by decide, by decide⟩ (cIn_lo (by decide)) cSh_4 rfl rfl (Nat.le_of_ble_eq_true rfl) (fun τ3 hq3 => ?_)
    subst hq3
    refine g_vret dX6_takeAsk_48 rfl ?_
    refine ⟨rfl, ?_⟩
    rw [pTk_of (α := pTol (pu s.1 5 (x 1) 0 (x 4)) (x 4) (x 1) R (s.1 6 (x 1))) (n := 1) (f := fun _ => mTold ((x 4 - 1) % 3) (x 1) (x 4) (s.1 6 (x 1))) (by unfold pTake; rw [hk]; exact if_pos h12), ← pAdd_s, pAdd_0]
    exact cRel_gho (cRel_told hc1 hR6 hx1) (fun c h16 h17 h12 => tol_c h17)
  · skip
    rw [nI_ltI (by omega) (by omega)] at h12
    exact g_vret dX6_takeAsk_15 rfl (⟨rfl, by rw [pTk_no (α := s.1) (by unfold pTake; rw [hk]; exact if_neg (by omega))]; exact hc⟩)

theorem tSee_10 (R A : Nat) (α : pS) (i v l m a b w : Nat) : tSee R A (pu α 9 i 0 v) l m a b w 10 l 0 = pDec R A α l m a b w := by
  unfold tSee
  rw [pu_at, pDec_9]
theorem take1 {R A : Nat} {α : pS} {x : pMsg} (hk : x 0 = 1) : pTake R A α x = (tSee R A (pu α 9 (x 1) 0 (pMax (α 9 (x 1) 0) (x 4))) (x 1) (x 3) (x 2) (x 4) (x 5), if pDec R A α (x 1) (x 3) (x 2) (x 4) (x 5) = α 10 (x 1) 0 then [] else lDecs R (pDec R A α (x 1) (x 3) (x 2) (x 4) (x 5))) := by
  unfold pTake
  rw [hk]
  rfl

set_option maxRecDepth 100000 in
/-- a VOTED comes -/
theorem c_tVoted {R A : Nat} (hRA : pRA R A) {s : pT} {σ : gSt} (hc : cRel R A s σ) (hb : pBu s.1) {i : Nat} {x : pMsg} (hx : s.2[i]? = some x) (hk : x 0 = 1) (hp : pMk R A x) (hlen : s.2.length ≤ 401) (hroom : pDec R A s.1 (x 1) (x 3) (x 2) (x 4) (x 5) ≠ s.1 10 (x 1) 0 → s.2.length + R ≤ 401) (hx1 : x 1 < 3) : gEM (cG R A) mX6_takeVoted 0 [.inr (0), .inl (nI (i)), .inr (40 + (x 1))] σ (gV (fun τ => cRel R A (pTk R A x s) τ)) := by
  obtain ⟨hR1, hR6, hA35⟩ := hRA
  have hA5 : A ≤ 5 := by omega
  have hi := (List.getElem?_eq_some_iff.mp hx).1
  have hbd := pBu_bd (R := R) (A := A) hb
  obtain ⟨hx4, -, hxa, -⟩ := hp
  obtain ⟨-, hx2, hx3, hx5⟩ := hxa hk
  have hb9 := hbd.2.2.2.2.2.2.2.1 (x 1)
  have hb10 := hbd.2.2.2.2.2.2.2.2.1 (x 1)
  have hdl := pDec_le hbd (l := x 1) (m := x 3) (a := x 2) (b := x 4) hx5
  refine gEM_of (by decide +kernel) rfl (Nat.le_of_ble_eq_true rfl) ?_
  refine g_aload_n dX6_takeVoted_0 rfl ?_
  refine g_getr (T := TX6) (N := 7) (Cn := RX6) (ref := "CommitCouncil") 3 dX6_takeVoted_1 (cIn_lo (by decide)) cSh_0 rfl (fun w h => List.mem_cons_of_mem _ (hU6 w h)) (by decide) (List.mem_cons_of_mem _ uw_1_161) (Or.inl rfl) rfl ?_
  refine g_iload_n dX6_takeVoted_4 rfl ?_
  refine g_iconst (nI (4)) dX6_takeVoted_5 (by decide) ?_
  refine g_callVi (_) (n9 := 2) [.inl (nI (i)), .inl (nI (4))] [] (c_part hc.2.1.1 hc.2.1.2.2.1 hR6 (show i < s.2.length from hi) (by first | exact hlen | omega) (by decide)) dX6_takeVoted_6 (gU_V uw_2_130 uw_2_131 uw_2_132 uw_1_6 uw_2_133) rfl (by decide +kernel) rfl ⟨by decide, by decide⟩ (cIn_lo (by decide)) cSh_4 rfl rfl (Nat.le_of_ble_eq_true rfl) (fun τ1 hq1 => ?_)
  subst hq1
  refine gEx.top (v := .inl (nI (x 4))) (congrArg Sum.inl (((hc.2.1.2.2.2 i x hx).1 4 (by decide)).trans (ptN (by rw [hk]; rfl)))) ?_
  refine g_istore_n dX6_takeVoted_9 (by decide) ?_
  refine g_iload_n dX6_takeVoted_10 rfl ?_
  refine g_aload_n dX6_takeVoted_11 rfl ?_
  refine g_getr (T := TX6) (N := 7) (Cn := RX6) (ref := "CommitCouncil") 3 dX6_takeVoted_12 (cIn_lo (by decide)) cSh_0 rfl (fun w h => List.mem_cons_of_mem _ (hU6 w h)) (by decide) (List.mem_cons_of_mem _ uw_1_161) (Or.inl rfl) rfl ?_
  refine g_iload_n dX6_takeVoted_15 rfl ?_
  refine g_iconst (nI (5)) dX6_takeVoted_16 (by decide) ?_
  refine g_callVi (_) (n9 := 2) [.inl (nI (i)), .inl (nI (5))] [.inl (nI (x 4))] (c_part hc.2.1.1 hc.2.1.2.2.1 hR6 (show i < s.2.length from hi) (by first | exact hlen | omega) (by decide)) dX6_takeVoted_17 (gU_V uw_2_130 uw_2_131 uw_2_132 uw_1_6 uw_2_133) rfl (by decide +kernel) rfl ⟨by decide, by decide⟩ (cIn_lo (by decide)) cSh_4 rfl rfl (Nat.le_of_ble_eq_true rfl) (fun τ1 hq1 => ?_)
  subst hq1
  refine gEx.top (v := .inl (nI (x 5))) (congrArg Sum.inl (((hc.2.1.2.2.2 i x hx).1 5 (by decide)).trans (ptN (by rw [hk]; rfl)))) ?_
  refine g_callSi (nI (4 * x 4 + x 5)) (n9 := 2) [.inl (nI (x 4)), .inl (nI (x 5))] [] (c_voteOf (by omega) (by omega)) dX6_takeVoted_20 (gU_S uw_2_142 uw_2_143 uw_1_1 uw_2_144) rfl (by decide +kernel) rfl ⟨by decide, by decide⟩ rfl (Nat.le_of_ble_eq_true rfl) (fun τ1 hq1 => ?_)
  subst hq1
  refine g_istore dX6_takeVoted_23 (by decide) ?_
  refine g_aload_n dX6_takeVoted_25 rfl ?_
  refine g_aload_n dX6_takeVoted_26 rfl ?_
  refine g_get (T := TX1) (N := 10) (Cn := RX1) (ref := "CommitCouncil$Leader") 3 dX6_takeVoted_27 (cIn_l hx1) (cSh_l hx1) rfl (fun w h => List.mem_cons_of_mem _ (hU1 w h)) (by decide) (List.mem_cons_of_mem _ uw_1_84) (Or.inl rfl) rfl ?_
  refine gEx.top (v := .inl (nI (s.1 9 (x 1) 0))) (congrArg Sum.inl ((hc.2.2.2.2.2 (x 1) hx1).2.2.2.1)) ?_
  refine g_iload_n dX6_takeVoted_30 rfl ?_
  refine g_max dX6_takeVoted_31 (List.mem_cons_of_mem _ uw_2_199) (List.mem_cons_of_mem _ uw_2_200) (List.mem_cons_of_mem _ uw_1_15) (List.mem_cons_of_mem _ uw_2_201) ⟨by decide, Nat.le_of_ble_eq_true rfl⟩ ?_
  refine gEx.top (v := .inl (nI (pMax (s.1 9 (x 1) 0) (x 4)))) (congrArg Sum.inl (max_nI (by omega) (by omega))) ?_
  refine g_put (T := TX1) (N := 10) (Cn := RX1) (ref := "CommitCouncil$Leader") (ty0 := tyX1) 3 dX6_takeVoted_34 (cIn_l hx1) (cSh_l hx1) rfl (fun w h => List.mem_cons_of_mem _ (hU1 w h)) tyX1_ok nmX1 (by decide) (List.mem_cons_of_mem _ uw_1_84) (Or.inl rfl) rfl rfl rfl rfl ?_
  have hc1 : cRel R A (pu s.1 9 (x 1) 0 (pMax (s.1 9 (x 1) 0) (x 4)), s.2) _ := cRel_wl3 hc hR6 hA5 hx1 (pMax (s.1 9 (x 1) 0) (x 4))
  refine g_aload_n dX6_takeVoted_37 rfl ?_
  refine g_get (T := TX1) (N := 10) (Cn := RX1) (ref := "CommitCouncil$Leader") 4 dX6_takeVoted_38 (cIn_l hx1) (cSh_l hx1) rfl (fun w h => List.mem_cons_of_mem _ (hU1 w h)) (by decide) (List.mem_cons_of_mem _ uw_1_86) (Or.inl rfl) rfl ?_
  refine gEx.top (v := .inl (nI (s.1 10 (x 1) 0))) (congrArg Sum.inl ((hc1.2.2.2.2.2 (x 1) hx1).2.2.2.2.1)) ?_
  refine g_istore dX6_takeVoted_41 (by decide) ?_
  refine g_aload_n dX6_takeVoted_43 rfl ?_
  refine g_aload_n dX6_takeVoted_44 rfl ?_
  refine g_getr (T := TX6) (N := 7) (Cn := RX6) (ref := "CommitCouncil") 3 dX6_takeVoted_45 (cIn_lo (by decide)) cSh_0 rfl (fun w h => List.mem_cons_of_mem _ (hU6 w h)) (by decide) (List.mem_cons_of_mem _ uw_1_161) (Or.inl rfl) rfl ?_
  refine g_iload_n dX6_takeVoted_48 rfl ?_
  refine g_iconst (nI (3)) dX6_takeVoted_49 (by decide) ?_
  refine g_callVi (_) (n9 := 2) [.inl (nI (i)), .inl (nI (3))] [.inr (40 + (x 1))] (c_part hc1.2.1.1 hc1.2.1.2.2.1 hR6 (show i < (pu s.1 9 (x 1) 0 (pMax (s.1 9 (x 1) 0) (x 4)), s.2).2.length from hi) (by first | exact hlen | omega) (by decide)) dX6_takeVoted_50 (gU_V uw_2_130 uw_2_131 uw_2_132 uw_1_6 uw_2_133) rfl (by decide +kernel) rfl ⟨by decide, by decide⟩ (cIn_lo (by decide)) cSh_4 rfl rfl (Nat.le_of_ble_eq_true rfl) (fun τ1 hq1 => ?_)
  subst hq1
  refine gEx.top (v := .inl (nI (x 3))) (congrArg Sum.inl (((hc1.2.1.2.2.2 i x hx).1 3 (by decide)).trans (ptN (by rw [hk]; rfl)))) ?_
  refine g_aload_n dX6_takeVoted_53 rfl ?_
  refine g_getr (T := TX6) (N := 7) (Cn := RX6) (ref := "CommitCouncil") 3 dX6_takeVoted_54 (cIn_lo (by decide)) cSh_0 rfl (fun w h => List.mem_cons_of_mem _ (hU6 w h)) (by decide) (List.mem_cons_of_mem _ uw_1_161) (Or.inl rfl) rfl ?_
  refine g_iload_n dX6_takeVoted_57 rfl ?_
  refine g_iconst (nI (2)) dX6_takeVoted_58 (by decide) ?_
  refine g_callVi (_) (n9 := 2) [.inl (nI (i)), .inl (nI (2))] [.inl (nI (x 3)), .inr (40 + (x 1))] (c_part hc1.2.1.1 hc1.2.1.2.2.1 hR6 (show i < (pu s.1 9 (x 1) 0 (pMax (s.1 9 (x 1) 0) (x 4)), s.2).2.length from hi) (by first | exact hlen | omega) (by decide)) dX6_takeVoted_59 (gU_V uw_2_130 uw_2_131 uw_2_132 uw_1_6 uw_2_133) rfl (by decide +kernel) rfl ⟨by decide, by decide⟩ (cIn_lo (by decide)) cSh_4 rfl rfl (Nat.le_of_ble_eq_true rfl) (fun τ1 hq1 => ?_)
  subst hq1
  refine gEx.top (v := .inl (nI (x 2))) (congrArg Sum.inl (((hc1.2.1.2.2.2 i x hx).1 2 (by decide)).trans (ptN (by rw [hk]; rfl)))) ?_
  refine g_iload dX6_takeVoted_62 rfl ?_
  refine g_callVv (n9 := 3) [.inl (nI (x 3)), .inl (nI (x 2)), .inl (nI (4 * x 4 + x 5))] [] (c_see (s := (pu s.1 9 (x 1) 0 (pMax (s.1 9 (x 1) 0) (x 4)), s.2)) ⟨hR1, hR6, hA35⟩ hc1 (pBu_bd (pBu_pu hb (Or.inr (pMax_le hb9 hx4)))) hx1 hx3 hx2 hx4 hx5) dX6_takeVoted_64 (gU_V uw_2_202 uw_2_203 uw_2_204 uw_1_5 uw_2_205) rfl (by decide +kernel) rfl ⟨by decide, by decide⟩ (cIn_l hx1) (cSh_l hx1) rfl rfl (Nat.le_of_ble_eq_true rfl) (fun τ2 hc2 => ?_)
  refine g_aload_n dX6_takeVoted_67 rfl ?_
  refine g_get (T := TX1) (N := 10) (Cn := RX1) (ref := "CommitCouncil$Leader") 4 dX6_takeVoted_68 (cIn_l hx1) (cSh_l hx1) rfl (fun w h => List.mem_cons_of_mem _ (hU1 w h)) (by decide) (List.mem_cons_of_mem _ uw_1_86) (Or.inl rfl) rfl ?_
  refine gEx.top (v := .inl (nI (pDec R A s.1 (x 1) (x 3) (x 2) (x 4) (x 5)))) (congrArg Sum.inl ((hc2.2.2.2.2.2 (x 1) hx1).2.2.2.2.1.trans (congrArg nI (tSee_10 _ _ _ _ _ _ _ _ _ _)))) ?_
  refine g_iload dX6_takeVoted_71 rfl ?_
  refine g_icmp_eq 84 dX6_takeVoted_73 (by decide) (fun h73 => ?_) (fun h73 => ?_)
  · skip
    rw [nI_eq (by omega) (by omega)] at h73
    refine g_vret dX6_takeVoted_84 rfl ?_
    refine ⟨rfl, ?_⟩
    first
      | (rw [pTk_of (n := R) (f := fun m => mDec m (pDec R A s.1 (x 1) (x 3) (x 2) (x 4) (x 5))) ((take1 hk).trans (by rw [if_neg h73]; rfl))]; exact hc3)
      | (rw [pTk_no ((take1 hk).trans (by rw [if_pos h73]))]; exact hc2)
  · skip
    rw [nI_eq (by omega) (by omega)] at h73
    refine g_aload_n dX6_takeVoted_76 rfl ?_
    refine g_aload_n dX6_takeVoted_77 rfl ?_
    refine g_get (T := TX1) (N := 10) (Cn := RX1) (ref := "CommitCouncil$Leader") 4 dX6_takeVoted_78 (cIn_l hx1) (cSh_l hx1) rfl (fun w h => List.mem_cons_of_mem _ (hU1 w h)) (by decide) (List.mem_cons_of_mem _ uw_1_86) (Or.inl rfl) rfl ?_
    refine gEx.top (v := .inl (nI (pDec R A s.1 (x 1) (x 3) (x 2) (x 4) (x 5)))) (congrArg Sum.inl ((hc2.2.2.2.2.2 (x 1) hx1).2.2.2.2.1.trans (congrArg nI (tSee_10 _ _ _ _ _ _ _ _ _ _)))) ?_
    refine g_callVv (n9 := 1) [.inl (nI (pDec R A s.1 (x 1) (x 3) (x 2) (x 4) (x 5)))] [] (c_sendDecs (s := (tSee R A (pu s.1 9 (x 1) 0 (pMax (s.1 9 (x 1) 0) (x 4))) (x 1) (x 3) (x 2) (x 4) (x 5), s.2)) ⟨hR1, hR6, hA35⟩ hc2 (hroom h73)) dX6_takeVoted_81 (gU_V uw_2_115 uw_2_117 us_0_7 uw_1_1 uw_2_118) rfl (by decide +kernel) rfl ⟨by decide, by decide⟩ (cIn_lo (by decide)) cSh_0 rfl rfl (Nat.le_of_ble_eq_true rfl) (fun τ3 hc3 => ?_)
    refine g_vret dX6_takeVoted_84 rfl ?_
    refine ⟨rfl, ?_⟩
    first
      | (rw [pTk_of (n := R) (f := fun m => mDec m (pDec R A s.1 (x 1) (x 3) (x 2) (x 4) (x 5))) ((take1 hk).trans (by rw [if_neg h73]; rfl))]; exact hc3)
      | (rw [pTk_no ((take1 hk).trans (by rw [if_pos h73]))]; exact hc2)

/-- the votes of n managers more -/
def pAll (A b : Nat) (f : Nat → Nat) (s : pT) (n : Nat) : pT := (pSnd s.1 (n * A), s.2 ++ (List.range n).flatMap (fun m => lVotes A m b (pWrd (f m))))
theorem pAll_0 (A b : Nat) (f : Nat → Nat) (s : pT) : pAll A b f s 0 = s := by
  unfold pAll
  rw [Nat.zero_mul, pSnd_0]
  simp
theorem pAll_s (A b : Nat) (f : Nat → Nat) (s : pT) (n : Nat) : pAdd (pAll A b f s n) A (fun a => mVote a n b (pWrd (f n))) = pAll A b f s (n + 1) := by
  unfold pAll pAdd
  simp [pSnd_pSnd, Nat.succ_mul, List.range_succ, List.flatMap_append, lVotes]
theorem lAll_len (A b : Nat) (f : Nat → Nat) : ∀ n, ((List.range n).flatMap (fun m => lVotes A m b (pWrd (f m)))).length = n * A
  | 0 => by simp
  | n + 1 => by
    rw [List.range_succ, List.flatMap_append, List.length_append, lAll_len A b f n, Nat.succ_mul]
    simp [lVotes]
theorem pAll_len (A b : Nat) (f : Nat → Nat) (s : pT) (n : Nat) : (pAll A b f s n).2.length = s.2.length + n * A := by
  unfold pAll
  rw [List.length_append, lAll_len]

set_option maxRecDepth 100000 in
theorem c_sVote_l {R A : Nat} (hRA : pRA R A) {s : pT} (hb : pBu s.1) {l : Nat} (hl : l < 3) (hn : s.2.length + R * A ≤ 401) : ∀ (k i : Nat), i ≤ R → R - i < k → ∀ σ (y : Option gAV), cRel R A (pAll A (s.1 7 l 0) (s.1 20 l) s i) σ → gEx (cG R A) mX6_startVoting 0 7 [some (.inr 0), some (.inr (40 + l)), some (.inl (nI i)), y] [] σ (gV (fun τ => cRel R A (pAll A (s.1 7 l 0) (s.1 20 l) s R) τ)) := by
  intro k
  induction k with
  | zero => intro i hi1 hi2; exact absurd hi2 (by omega)
  | succ k ih =>
    intro i hi1 hi2 σ y hc
    obtain ⟨hR1, hR6, hA35⟩ := hRA
    have hb20 := hb 20 l i (by decide) (by decide)
    have hb20 : s.1 20 l i ≤ 6150 := hb20
    have hst : i < R → i * A + A ≤ R * A := fun h => by rw [← Nat.succ_mul]; exact Nat.mul_le_mul_right _ h
    refine g_iload_n dX6_startVoting_7 rfl ?_
    refine g_aload_n dX6_startVoting_8 rfl ?_
    refine g_getr (T := TX6) (N := 7) (Cn := RX6) (ref := "CommitCouncil") 0 dX6_startVoting_9 (cIn_lo (by decide)) cSh_0 rfl (fun w h => List.mem_cons_of_mem _ (hU6 w h)) (by decide) (List.mem_cons_of_mem _ uw_1_158) (Or.inl rfl) rfl ?_
    refine g_alen (nI (R)) dX6_startVoting_12 (cIn_lo (by decide)) cSh_1 (by decide) rfl ?_
    refine g_icmp_ge 50 dX6_startVoting_13 (by decide) (fun h13 => ?_) (fun h13 => ?_)
    · skip
      rw [nI_leI (by omega) (by omega)] at h13
      refine g_vret dX6_startVoting_50 rfl ?_
      have e : i = R := by omega
      subst e
      exact ⟨rfl, hc⟩
    · skip
      rw [nI_leI (by omega) (by omega)] at h13
      refine g_aload_n dX6_startVoting_16 rfl ?_
      refine g_getr (T := TX1) (N := 10) (Cn := RX1) (ref := "CommitCouncil$Leader") 6 dX6_startVoting_17 (cIn_l hl) (cSh_l hl) rfl (fun w h => List.mem_cons_of_mem _ (hU1 w h)) (by decide) (List.mem_cons_of_mem _ uw_1_90) (Or.inl rfl) rfl ?_
      refine g_iload_n dX6_startVoting_20 rfl ?_
      refine g_ialdN (n := R) (j := i) dX6_startVoting_21 (cIn_t hl) (cSh_t hl) (by omega) (by omega) ?_
      refine gEx.top (v := .inl (nI (s.1 20 l i))) (congrArg Sum.inl ((hc.2.2.2.2.2 l hl).2.2.2.2.2.2.2.1 i (by omega))) ?_
      refine g_istore_n dX6_startVoting_22 (by decide) ?_
      refine g_aload_n dX6_startVoting_23 rfl ?_
      refine g_iload_n dX6_startVoting_24 rfl ?_
      refine g_aload_n dX6_startVoting_25 rfl ?_
      refine g_get (T := TX1) (N := 10) (Cn := RX1) (ref := "CommitCouncil$Leader") 1 dX6_startVoting_26 (cIn_l hl) (cSh_l hl) rfl (fun w h => List.mem_cons_of_mem _ (hU1 w h)) (by decide) (List.mem_cons_of_mem _ uw_1_80) (Or.inl rfl) rfl ?_
      refine gEx.top (v := .inl (nI (s.1 7 l 0))) (congrArg Sum.inl ((hc.2.2.2.2.2 l hl).2.1)) ?_
      refine g_iload_n dX6_startVoting_29 rfl ?_
      refine g_if_ne 37 dX6_startVoting_30 (by decide) (fun h30 => ?_) (fun h30 => ?_)
      · skip
        rw [nI_z (by omega)] at h30
        refine g_iload_n dX6_startVoting_37 rfl ?_
        refine g_callSi (nI (s.1 20 l i % 4)) (n9 := 1) [.inl (nI (s.1 20 l i))] [.inl (nI (s.1 7 l 0)), .inl (nI (i)), .inr (0)] (c_wordOf (by omega)) dX6_startVoting_38 (gU_S uw_2_237 uw_2_157 uw_1_1 uw_2_158) rfl (by decide +kernel) rfl ⟨by decide, by decide⟩ rfl (Nat.le_of_ble_eq_true rfl) (fun τ1 hq1 => ?_)
        subst hq1
        refine g_callVv (n9 := 3) [.inl (nI (i)), .inl (nI (s.1 7 l 0)), .inl (nI (s.1 20 l i % 4))] [] (c_sendVotes (s := (pAll A (s.1 7 l 0) (s.1 20 l) s i)) ⟨hR1, hR6, hA35⟩ hc (by rw [pAll_len]; omega)) dX6_startVoting_41 (gU_V uw_2_69 uw_2_71 us_0_6 uw_1_1 uw_2_72) rfl (by decide +kernel) rfl ⟨by decide, by decide⟩ (cIn_lo (by decide)) cSh_0 rfl rfl (Nat.le_of_ble_eq_true rfl) (fun τ2 hc2 => ?_)
        refine g_iinc (nI (i + 1)) dX6_startVoting_44 rfl (show nI (i) + nI 1 = _ from nI_add _ _) (by decide) ?_
        refine g_goto 7 dX6_startVoting_47 (by decide) ?_
        exact ih (i + 1) (by omega) (by omega) _ _ (by rw [← pAll_s]; unfold pWrd; first | (rw [if_pos (by omega)]; exact hc2) | (rw [if_neg (by omega)]; exact hc2))
      · skip
        rw [nI_z (by omega)] at h30
        refine g_iconst (nI (2)) dX6_startVoting_33 (by decide) ?_
        refine g_goto 41 dX6_startVoting_34 (by decide) ?_
        refine g_callVv (n9 := 3) [.inl (nI (i)), .inl (nI (s.1 7 l 0)), .inl (nI (2))] [] (c_sendVotes (s := (pAll A (s.1 7 l 0) (s.1 20 l) s i)) ⟨hR1, hR6, hA35⟩ hc (by rw [pAll_len]; omega)) dX6_startVoting_41 (gU_V uw_2_69 uw_2_71 us_0_6 uw_1_1 uw_2_72) rfl (by decide +kernel) rfl ⟨by decide, by decide⟩ (cIn_lo (by decide)) cSh_0 rfl rfl (Nat.le_of_ble_eq_true rfl) (fun τ2 hc2 => ?_)
        refine g_iinc (nI (i + 1)) dX6_startVoting_44 rfl (show nI (i) + nI 1 = _ from nI_add _ _) (by decide) ?_
        refine g_goto 7 dX6_startVoting_47 (by decide) ?_
        exact ih (i + 1) (by omega) (by omega) _ _ (by rw [← pAll_s]; unfold pWrd; first | (rw [if_pos (by omega)]; exact hc2) | (rw [if_neg (by omega)]; exact hc2))

set_option maxRecDepth 100000 in
/-- startVoting -/
theorem c_sVote {R A : Nat} (hRA : pRA R A) {s : pT} {σ : gSt} (hc : cRel R A s σ) (hb : pBu s.1) {l : Nat} (hl : l < 3) (hn : s.2.length + R * A ≤ 401) : gEM (cG R A) mX6_startVoting 0 [.inr (0), .inr (40 + l)] σ (gV (fun τ => cRel R A (pAll A (s.1 7 l 0) (s.1 20 l) (pu s.1 8 l 0 2, s.2) R) τ)) := by
  obtain ⟨hR1, hR6, hA35⟩ := hRA
  have hA5 : A ≤ 5 := by omega
  refine gEM_of (by decide +kernel) rfl (Nat.le_of_ble_eq_true rfl) ?_
  refine g_aload_n dX6_startVoting_0 rfl ?_
  refine g_iconst (nI (2)) dX6_startVoting_1 (by decide) ?_
  refine g_put (T := TX1) (N := 10) (Cn := RX1) (ref := "CommitCouncil$Leader") (ty0 := tyX1) 2 dX6_startVoting_2 (cIn_l hl) (cSh_l hl) rfl (fun w h => List.mem_cons_of_mem _ (hU1 w h)) tyX1_ok nmX1 (by decide) (List.mem_cons_of_mem _ uw_1_82) (Or.inl rfl) rfl rfl rfl rfl ?_
  refine g_iconst (nI (0)) dX6_startVoting_5 (by decide) ?_
  refine g_istore_n dX6_startVoting_6 (by decide) ?_
  exact c_sVote_l (s := (pu s.1 8 l 0 2, s.2)) ⟨hR1, hR6, hA35⟩ (pBu_pu hb (Or.inr (by decide))) hl hn (R + 1) 0 (by omega) (by omega) _ none (by rw [pAll_0]; exact cRel_wl2 hc hR6 hA5 hl 2)
