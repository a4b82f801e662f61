theorem cOne_mv {R : Nat} {σ τ : gSt} {i j : Nat} {x : pMsg} (h : cOne R σ i x) (hs : ∀ k, k < 6 + R → τ 5 (j * (6 + R) + k) = σ 5 (i * (6 + R) + k)) : cOne R τ j x := by
  refine ⟨fun k hk => ?_, fun h3 m hm => ?_⟩
  · rw [hs k (by omega)]
    exact h.1 k hk
  · rw [Nat.add_assoc, hs (6 + m) (by omega), ← Nat.add_assoc]
    exact h.2 h3 m hm
/-- a message is taken out -/
theorem cRel_rem {R A : Nat} {s : pT} {σ : gSt} (h : cRel R A s σ) {i : Nat} (hi : i < s.2.length) : cRel R A (s.1, s.2.eraseIdx i) (gup (gur σ 5 (va_cpy (σ 5) (σ 5) ((i + 1) * (6 + R)) (i * (6 + R)) ((s.2.length - 1 - i) * (6 + R)))) 4 0 (nI (s.2.length - 1))) := by
  refine cRel_mail h ?_ (fun a h4 h5 => by rw [gup_ne _ _ h4, gur_ne _ _ h5]) (fun c _ => rfl) rfl rfl
  obtain ⟨q1, q2, q3, q4⟩ := h.2.1
  refine ⟨?_, ?_, ?_, fun j y hy => ?_⟩
  · rw [gup_at, List.length_eraseIdx_of_lt hi]
  · rw [gup_j _ _ (by decide), gur_ne _ _ (by decide)]
    exact q2
  · rw [gup_j _ _ (by decide), gur_ne _ _ (by decide)]
    exact q3
  · rw [List.getElem?_eraseIdx] at hy
    by_cases hj : j < i
    · rw [if_pos hj] at hy
      refine cOne_mv (q4 j y hy) (fun k hk => ?_)
      have := mlt (R := R) (j := k) hj hk
      rw [gup_ne _ _ (by decide), gur_self, pk_cpy_out (Or.inl (by omega))]
    · rw [if_neg hj] at hy
      have hl := (List.getElem?_eq_some_iff.mp hy).1
      refine cOne_mv (q4 (j + 1) y hy) (fun k hk => ?_)
      have e1 := mlt (R := R) (j := k) (show j < s.2.length - 1 by omega) hk
      have e2 := mle (R := R) (show i ≤ j by omega)
      have e3 : i * (6 + R) + (s.2.length - 1 - i) * (6 + R) = (s.2.length - 1) * (6 + R) := by rw [← Nat.add_mul]; congr 1; omega
      rw [gup_ne _ _ (by decide), gur_self, pk_cpy_in (by omega) (by omega)]
      congr 1
      rw [Nat.add_mul, Nat.add_mul, Nat.one_mul]
      omega
/-- a message is sent once more -/
theorem cRel_like {R A : Nat} {s : pT} {σ : gSt} (h : cRel R A s σ) {i : Nat} {x : pMsg} (hx : s.2[i]? = some x) : cRel R A (tCopy x s) (gup (gup (gur σ 5 (va_cpy (σ 5) (σ 5) (i * (6 + R)) (s.2.length * (6 + R)) (6 + R))) 4 0 (nI (s.2.length + 1))) 4 1 (σ 4 1 + nI 1)) := by
  refine cRel_mail h ?_ (fun a h4 h5 => by rw [gup_ne _ _ h4, gup_ne _ _ h4, gur_ne _ _ h5]) (fun c hc => pu_c _ hc) (pu_i _ (by decide)) (pu_i _ (by decide))
  obtain ⟨q1, q2, q3, q4⟩ := h.2.1
  refine ⟨?_, ?_, ?_, fun j y hy => ?_⟩
  · rw [gup_j _ _ (by decide), gup_at, List.length_append]
    rfl
  · rw [gup_at, q2, nI_add]
    unfold pSnd
    rw [pu_at]
  · rw [gup_j _ _ (by decide), gup_j _ _ (by decide), gur_ne _ _ (by decide)]
    exact q3
  · by_cases hj : j < s.2.length
    · rw [List.getElem?_append_left hj] at hy
      refine cOne_mv (q4 j y hy) (fun k hk => ?_)
      have := mlt (R := R) (j := k) hj hk
      rw [gup_ne _ _ (by decide), gup_ne _ _ (by decide), gur_self, pk_cpy_out (Or.inl (by omega))]
    · rw [List.getElem?_append_right (by omega)] at hy
      have h0 : j - s.2.length < 1 := (List.getElem?_eq_some_iff.mp hy).1
      have hj0 : j = s.2.length := by omega
      subst hj0
      rw [Nat.sub_self] at hy
      cases hy
      refine cOne_mv (q4 i _ hx) (fun k hk => ?_)
      rw [gup_ne _ _ (by decide), gup_ne _ _ (by decide), gur_self, pk_cpy_in (by omega) (by omega)]
      congr 1
      omega
theorem pAns_le {R A : Nat} {α : pS} {x : pMsg} (hR : R ≤ 6) (hA : A ≤ 5) : pAns R A α x ≤ 30 := by
  have h := raB hR hA
  unfold pAns
  split <;> (try split) <;> omega
theorem lVotes_len (A m b w : Nat) : (lVotes A m b w).length = A := by unfold lVotes; rw [List.length_map, List.length_range]
theorem lDecs_len (R d : Nat) : (lDecs R d).length = R := by unfold lDecs; rw [List.length_map, List.length_range]
section TK
variable {R A : Nat} {α : pS} {x : pMsg}
theorem take0 (hk : x 0 = 0) : pTake R A α x = if α 5 (x 1) 0 ≤ x 4 then (pEnter A (pu (pu α 5 (x 1) 0 (x 4)) 6 (x 1) (x 3) (4 * x 4 + x 5)) (x 3) (x 4) (x 5) (x 1), lVoted (x 1) (x 3) (x 4) (x 5)) else (α, []) := by
  unfold pTake; rw [hk]; rfl
theorem take2 (hk : x 0 = 2) : pTake R A α x = if α 5 (x 1) 0 < x 4 then (pTol (pu α 5 (x 1) 0 (x 4)) (x 4) (x 1) R (α 6 (x 1)), [mTold ((x 4 - 1) % 3) (x 1) (x 4) (α 6 (x 1))]) else (α, []) := by
  unfold pTake; rw [hk]; rfl
theorem take4 (hk : x 0 = 4) : pTake R A α x = (pu α 3 (x 1) 0 (x 5 + 2), []) := by
  unfold pTake; rw [hk]; rfl
theorem take5 (hk : x 0 = 5) : pTake R A α x = (α, if α 10 (x 1) 0 = 0 then [] else [mDec (x 2) (α 10 (x 1) 0)]) := by
  unfold pTake; rw [hk]; rfl
theorem ans0 (hk : x 0 = 0) : pAns R A α x = if α 5 (x 1) 0 ≤ x 4 then 3 else 0 := by
  unfold pAns; rw [hk]; rfl
theorem ans1 (hk : x 0 = 1) : pAns R A α x = if pDec R A α (x 1) (x 3) (x 2) (x 4) (x 5) = α 10 (x 1) 0 then 0 else R := by
  unfold pAns; rw [hk]; rfl
theorem ans2 (hk : x 0 = 2) : pAns R A α x = if α 5 (x 1) 0 < x 4 then 1 else 0 := by
  unfold pAns; rw [hk]; rfl
theorem ans3 (hk : x 0 = 3) : pAns R A α x = if pKeep α (x 1) (x 4) (x 2) ∧ pEnough A α (x 1) then R * A else 0 := by
  unfold pAns; rw [hk]; rfl
theorem ans4 (hk : x 0 = 4) : pAns R A α x = 0 := by
  unfold pAns; rw [hk]; rfl
theorem ans5 (hk : x 0 = 5) : pAns R A α x = if α 10 (x 1) 0 = 0 then 0 else 1 := by
  unfold pAns; rw [hk]; rfl
end TK
theorem pTake_len {R A : Nat} {α : pS} {x : pMsg} (h5 : x 0 ≤ 5) : (pTake R A α x).2.length = pAns R A α x := by
  rcases (show x 0 = 0 ∨ x 0 = 1 ∨ x 0 = 2 ∨ x 0 = 3 ∨ x 0 = 4 ∨ x 0 = 5 by omega) with hk | hk | hk | hk | hk | hk
  · rw [take0 hk, ans0 hk]
    by_cases h : α 5 (x 1) 0 ≤ x 4
    · rw [if_pos h, if_pos h]; rfl
    · rw [if_neg h, if_neg h]; rfl
  · rw [take1 hk, ans1 hk]
    by_cases h : pDec R A α (x 1) (x 3) (x 2) (x 4) (x 5) = α 10 (x 1) 0
    · rw [if_pos h, if_pos h]; rfl
    · rw [if_neg h, if_neg h]; exact lDecs_len _ _
  · rw [take2 hk, ans2 hk]
    by_cases h : α 5 (x 1) 0 < x 4
    · rw [if_pos h, if_pos h]; rfl
    · rw [if_neg h, if_neg h]; rfl
  · rw [take3 hk, ans3 hk]
    by_cases h1 : pKeep α (x 1) (x 4) (x 2)
    · by_cases h2 : pEnough A α (x 1)
      · rw [if_pos h1, if_pos h2, if_pos ⟨h1, h2⟩]
        exact lAll_len _ _ _ _
      · rw [if_pos h1, if_neg h2, if_neg (fun q => h2 q.2)]
        rfl
    · rw [if_neg h1, if_neg (fun q => h1 q.1)]
      rfl
  · rw [take4 hk, ans4 hk]
    rfl
  · rw [take5 hk, ans5 hk]
    by_cases h : α 10 (x 1) 0 = 0
    · rw [if_pos h, if_pos h]; rfl
    · rw [if_neg h, if_neg h]; rfl
theorem pTk_len {R A : Nat} {s : pT} {x : pMsg} (h5 : x 0 ≤ 5) : (pTk R A x s).2.length = s.2.length + pAns R A s.1 x := by
  unfold pTk
  rw [List.length_append, pTake_len h5]
theorem tBrg_up {R A i : Nat} {s : pT} {x : pMsg} (hi : i < s.2.length) (hu : pUpOf s.1 x ≠ 0) : tBrg R A i x s = (pu (pTk R A x s).1 1 1 0 ((pTk R A x s).1 1 1 0 + 1), (pTk R A x s).2.eraseIdx i) := by
  unfold tBrg pTk
  dsimp only
  rw [if_neg hu, List.eraseIdx_append_of_lt_length hi, show pSnd (pTake R A s.1 x).1 (pTake R A s.1 x).2.length 1 1 0 = (pTake R A s.1 x).1 1 1 0 from congrFun (pu_i _ (by decide)) 0]
theorem tBrg_down {R A i : Nat} {s : pT} {x : pMsg} (hu : pUpOf s.1 x = 0) : tBrg R A i x s = (pu s.1 1 1 0 (s.1 1 1 0 + 1), s.2.eraseIdx i) := by
  unfold tBrg
  dsimp only
  rw [if_pos hu]
  show (pu (pSnd s.1 0) 1 1 0 (s.1 1 1 0 + 1), s.2.eraseIdx i ++ []) = _
  rw [pSnd_0, List.append_nil]
theorem rm1 {n k : Nat} (hn : 1 ≤ n) (h : n + k < 2 ^ 31) : nI n + (nI k - nI 1) = nI (n + k - 1) := by
  rw [Int32.sub_eq_add_neg, ← Int32.add_assoc, ← Int32.sub_eq_add_neg, nI_add, pk_sub (by omega)]

set_option maxRecDepth 100000 in
/-- hasRoomFor: one place is free again -/
theorem c_room1 {R A : Nat} {σ : gSt} {n k : Nat} (hn : σ 4 0 = nI n) (hn1 : 1 ≤ n) (hn4 : n ≤ 401) (hk : k ≤ 1000) : gEM (cG R A) mX3_hasRoomFor 0 [.inr (4), .inl (nI (k) - nI (1))] σ (gR (bI (n + k ≤ 401)) (fun s => s = σ)) := by
  refine gEM_of (by decide +kernel) rfl (Nat.le_of_ble_eq_true rfl) ?_
  refine g_aload_n dX3_hasRoomFor_0 rfl ?_
  refine g_get (T := TX3) (N := 4) (Cn := RX3) (ref := "CommitCouncil$Mail") 0 dX3_hasRoomFor_1 (cIn_lo (by decide)) cSh_4 rfl (fun w h => List.mem_cons_of_mem _ (hU3 w h)) (by decide) (List.mem_cons_of_mem _ uw_1_121) (Or.inl rfl) rfl ?_
  refine gEx.top (v := .inl (nI (n))) (congrArg Sum.inl (hn)) ?_
  refine g_iload_n dX3_hasRoomFor_4 rfl ?_
  refine g_iadd dX3_hasRoomFor_5 ?_
  refine gEx.top (v := .inl (nI (n + k - 1))) (congrArg Sum.inl (rm1 hn1 (by omega))) ?_
  refine g_sipush (nI (400)) dX3_hasRoomFor_6 (by decide) ?_
  refine g_icmp_gt 16 dX3_hasRoomFor_9 (by decide) (fun h9 => ?_) (fun h9 => ?_)
  · skip
    rw [nI_ltI (by omega) (by omega)] at h9
    refine g_iconst (nI (0)) dX3_hasRoomFor_16 (by decide) ?_
    exact g_zret dX3_hasRoomFor_17 rfl (rfl) (⟨by unfold bI; rw [if_neg (by omega)]; rfl, rfl⟩)
  · skip
    rw [nI_ltI (by omega) (by omega)] at h9
    refine g_iconst (nI (1)) dX3_hasRoomFor_12 (by decide) ?_
    refine g_goto 17 dX3_hasRoomFor_13 (by decide) ?_
    exact g_zret dX3_hasRoomFor_17 rfl (rfl) (⟨by unfold bI; rw [if_pos (by omega)]; rfl, rfl⟩)

set_option maxRecDepth 100000 in
/-- bring: the message comes -/
theorem c_bringT {R A : Nat} (hRA : pRA R A) {s : pT} {σ : gSt} (hc : cRel R A s σ) (hb : pBu s.1) {i : Nat} {x : pMsg} (hx : s.2[i]? = some x) (hp : pMk R A x) (hlen : s.2.length ≤ 400) (hs : sBrg R A x s) : gEM (cG R A) mX6_bring 0 [.inr (0), .inl (nI (i))] σ (gR (nI (x 0)) (fun τ => cRel R A (tBrg R A i x s) τ)) := by
  obtain ⟨hR1, hR6, hA35⟩ := hRA
  have hA5 : A ≤ 5 := by omega
  have hi := (List.getElem?_eq_some_iff.mp hx).1
  have hx5 := hp.2.2.2.2.2.2.2
  have hp5 := hp
  have ha := pAns_le (R := R) (A := A) (α := s.1) (x := x) hR6 hA5
  have hu1 : pUpOf s.1 x ≤ 1 := by unfold pUpOf; split; exact hb 2 _ _ (by decide) (by decide); split; exact hb 2 _ _ (by decide) (by decide); exact hb 2 _ _ (by decide) (by decide)
  refine gEM_of (by decide +kernel) rfl (Nat.le_of_ble_eq_true rfl) ?_
  refine g_aload_n dX6_bring_0 rfl ?_
  refine g_getr (T := TX6) (N := 7) (Cn := RX6) (ref := "CommitCouncil") 3 dX6_bring_1 (cIn_lo (by decide)) cSh_0 rfl (fun w h => List.mem_cons_of_mem _ (hU6 w h)) (by decide) (List.mem_cons_of_mem _ uw_1_161) (Or.inl rfl) rfl ?_
  refine g_iload_n dX6_bring_4 rfl ?_
  refine g_iconst (nI (0)) dX6_bring_5 (by decide) ?_
  refine g_callVi (_) (n9 := 2) [.inl (nI (i)), .inl (nI (0))] [] (c_part hc.2.1.1 hc.2.1.2.2.1 hR6 (show i < s.2.length from hi) (by first | exact hlen | omega) (by decide)) dX6_bring_6 (gU_V uw_2_130 uw_2_131 uw_2_132 uw_1_6 uw_2_133) rfl (by decide +kernel) rfl ⟨by decide, by decide⟩ (cIn_lo (by decide)) cSh_4 rfl rfl (Nat.le_of_ble_eq_true rfl) (fun τ1 hq1 => ?_)
  subst hq1
  refine gEx.top (v := .inl (nI (x 0))) (congrArg Sum.inl (((hc.2.1.2.2.2 i x hx).1 0 (by decide)).trans (pt0 x hx5))) ?_
  refine g_istore_n dX6_bring_9 (by decide) ?_
  refine g_aload_n dX6_bring_10 rfl ?_
  refine g_getr (T := TX6) (N := 7) (Cn := RX6) (ref := "CommitCouncil") 3 dX6_bring_11 (cIn_lo (by decide)) cSh_0 rfl (fun w h => List.mem_cons_of_mem _ (hU6 w h)) (by decide) (List.mem_cons_of_mem _ uw_1_161) (Or.inl rfl) rfl ?_
  refine g_iload_n dX6_bring_14 rfl ?_
  refine g_iconst (nI (1)) dX6_bring_15 (by decide) ?_
  refine g_callVi (_) (n9 := 2) [.inl (nI (i)), .inl (nI (1))] [] (c_part hc.2.1.1 hc.2.1.2.2.1 hR6 (show i < s.2.length from hi) (by first | exact hlen | omega) (by decide)) dX6_bring_16 (gU_V uw_2_130 uw_2_131 uw_2_132 uw_1_6 uw_2_133) rfl (by decide +kernel) rfl ⟨by decide, by decide⟩ (cIn_lo (by decide)) cSh_4 rfl rfl (Nat.le_of_ble_eq_true rfl) (fun τ1 hq1 => ?_)
  subst hq1
  refine gEx.top (v := .inl (nI (x 1))) (congrArg Sum.inl (((hc.2.1.2.2.2 i x hx).1 1 (by decide)).trans (pt1 x hx5))) ?_
  refine g_istore_n dX6_bring_19 (by decide) ?_
  refine g_aload_n dX6_bring_20 rfl ?_
  refine g_iload_n dX6_bring_21 rfl ?_
  refine g_iload_n dX6_bring_22 rfl ?_
  refine g_callVi (nI (pUpOf s.1 x)) (n9 := 2) [.inl (nI (x 0)), .inl (nI (x 1))] [] (c_isUp ⟨hR1, hR6, hA35⟩ hc hb hx hp5) dX6_bring_23 (gU_V uw_2_134 uw_2_136 us_0_9 uw_1_1 uw_2_137) rfl (by decide +kernel) rfl ⟨by decide, by decide⟩ (cIn_lo (by decide)) cSh_0 rfl rfl (Nat.le_of_ble_eq_true rfl) (fun τ1 hq1 => ?_)
  subst hq1
  refine g_istore dX6_bring_26 (by decide) ?_
  refine g_iload dX6_bring_28 rfl ?_
  refine g_if_eq 43 dX6_bring_30 (by decide) (fun h30 => ?_) (fun h30 => ?_)
  · skip
    rw [nI_z (by omega)] at h30
    refine g_iconst (nI (0)) dX6_bring_43 (by decide) ?_
    refine g_istore dX6_bring_44 (by decide) ?_
    refine g_aload_n dX6_bring_46 rfl ?_
    refine g_getr (T := TX6) (N := 7) (Cn := RX6) (ref := "CommitCouncil") 3 dX6_bring_47 (cIn_lo (by decide)) cSh_0 rfl (fun w h => List.mem_cons_of_mem _ (hU6 w h)) (by decide) (List.mem_cons_of_mem _ uw_1_161) (Or.inl rfl) rfl ?_
    refine g_iload dX6_bring_50 rfl ?_
    refine g_iconst (nI (1)) dX6_bring_52 (by decide) ?_
    refine g_isub dX6_bring_53 ?_
    refine gEx.top (v := .inl (nI (0) - nI (1))) (congrArg Sum.inl (rfl)) ?_
    refine g_callVi (bI (s.2.length + (0) ≤ 401)) (n9 := 1) [.inl (nI (0) - nI (1))] [] (c_room1 (k := 0) hc.2.1.1 (by omega) (by omega) (by omega)) dX6_bring_54 (gU_V uw_2_65 uw_2_66 uw_2_67 uw_1_6 uw_2_68) rfl (by decide +kernel) rfl ⟨by decide, by decide⟩ (cIn_lo (by decide)) cSh_4 rfl rfl (Nat.le_of_ble_eq_true rfl) (fun τ3 hq3 => ?_)
    subst hq3
    refine g_if_ne 62 dX6_bring_57 (by decide) (fun h57 => ?_) (fun h57 => ?_)
    · skip
      rw [bI_z] at h57
      refine g_iload dX6_bring_62 rfl ?_
      refine g_if_eq 74 dX6_bring_64 (by decide) (fun h64 => ?_) (fun h64 => ?_)
      · skip
        rw [nI_z (by omega)] at h64
        refine g_aload_n dX6_bring_74 rfl ?_
        refine g_getr (T := TX6) (N := 7) (Cn := RX6) (ref := "CommitCouncil") 3 dX6_bring_75 (cIn_lo (by decide)) cSh_0 rfl (fun w h => List.mem_cons_of_mem _ (hU6 w h)) (by decide) (List.mem_cons_of_mem _ uw_1_161) (Or.inl rfl) rfl ?_
        refine g_iload_n dX6_bring_78 rfl ?_
        refine g_callVv (n9 := 1) [.inl (nI (i))] [] (c_remove hc.2.1.1 hc.2.1.2.2.1 hR6 (k := i) (by omega) (by omega)) dX6_bring_79 (gU_V uw_3_2 uw_3_3 uw_3_4 uw_1_6 uw_3_5) rfl (by decide +kernel) rfl ⟨by decide, by decide⟩ (cIn_lo (by decide)) cSh_4 rfl rfl (Nat.le_of_ble_eq_true rfl) (fun τ5 hq5 => ?_)
        subst hq5
        have hc5 := cRel_rem (s := s) hc (i := i) (by omega)
        refine g_aload_n dX6_bring_82 rfl ?_
        refine g_dup dX6_bring_83 ?_
        refine g_get (T := TX6) (N := 7) (Cn := RX6) (ref := "CommitCouncil") 5 dX6_bring_84 (cIn_lo (by decide)) cSh_0 rfl (fun w h => List.mem_cons_of_mem _ (hU6 w h)) (by decide) (List.mem_cons_of_mem _ uw_1_163) (Or.inl rfl) rfl ?_
        refine gEx.top (v := .inl (nI ((s.1, s.2.eraseIdx i).1 1 1 0))) (congrArg Sum.inl (hc5.1.1)) ?_
        refine g_iconst (nI (1)) dX6_bring_87 (by decide) ?_
        refine g_iadd dX6_bring_88 ?_
        refine gEx.top (v := .inl (nI ((s.1, s.2.eraseIdx i).1 1 1 0 + 1))) (congrArg Sum.inl (nI_add _ _)) ?_
        refine g_put (T := TX6) (N := 7) (Cn := RX6) (ref := "CommitCouncil") (ty0 := tyX6) 5 dX6_bring_89 (cIn_lo (by decide)) cSh_0 rfl (fun w h => List.mem_cons_of_mem _ (hU6 w h)) tyX6_ok nmX6 (by decide) (List.mem_cons_of_mem _ uw_1_163) (Or.inl rfl) rfl rfl rfl rfl ?_
        refine g_iload_n dX6_bring_92 rfl ?_
        refine g_iret dX6_bring_93 rfl ?_
        refine ⟨rfl, ?_⟩
        rw [tBrg_down (by omega)]
        exact cRel_wcame (s := (s.1, s.2.eraseIdx i)) hc5 _
      · skip
        rw [nI_z (by omega)] at h64
        refine g_aload_n dX6_bring_67 rfl ?_
        refine g_iload_n dX6_bring_68 rfl ?_
        refine g_iload_n dX6_bring_69 rfl ?_
        refine g_iload_n dX6_bring_70 rfl ?_
        refine g_callVv (n9 := 3) [.inl (nI (i)), .inl (nI (x 0)), .inl (nI (x 1))] [] (c_take ⟨hR1, hR6, hA35⟩ hc hb hx hp5 (by omega) (by omega)) dX6_bring_71 (gU_V uw_2_177 uw_2_179 us_0_11 uw_1_1 uw_2_180) rfl (by decide +kernel) rfl ⟨by decide, by decide⟩ (cIn_lo (by decide)) cSh_0 rfl rfl (Nat.le_of_ble_eq_true rfl) (fun τ4 hc4 => ?_)
        refine g_aload_n dX6_bring_74 rfl ?_
        refine g_getr (T := TX6) (N := 7) (Cn := RX6) (ref := "CommitCouncil") 3 dX6_bring_75 (cIn_lo (by decide)) cSh_0 rfl (fun w h => List.mem_cons_of_mem _ (hU6 w h)) (by decide) (List.mem_cons_of_mem _ uw_1_161) (Or.inl rfl) rfl ?_
        refine g_iload_n dX6_bring_78 rfl ?_
        refine g_callVv (n9 := 1) [.inl (nI (i))] [] (c_remove hc4.2.1.1 hc4.2.1.2.2.1 hR6 (k := i) (by rw [pTk_len hx5]; omega) (by rw [pTk_len hx5]; omega)) dX6_bring_79 (gU_V uw_3_2 uw_3_3 uw_3_4 uw_1_6 uw_3_5) rfl (by decide +kernel) rfl ⟨by decide, by decide⟩ (cIn_lo (by decide)) cSh_4 rfl rfl (Nat.le_of_ble_eq_true rfl) (fun τ5 hq5 => ?_)
        subst hq5
        have hc5 := cRel_rem (s := (pTk R A x s)) hc4 (i := i) (by rw [pTk_len hx5]; omega)
        refine g_aload_n dX6_bring_82 rfl ?_
        refine g_dup dX6_bring_83 ?_
        refine g_get (T := TX6) (N := 7) (Cn := RX6) (ref := "CommitCouncil") 5 dX6_bring_84 (cIn_lo (by decide)) cSh_0 rfl (fun w h => List.mem_cons_of_mem _ (hU6 w h)) (by decide) (List.mem_cons_of_mem _ uw_1_163) (Or.inl rfl) rfl ?_
        refine gEx.top (v := .inl (nI (((pTk R A x s).1, (pTk R A x s).2.eraseIdx i).1 1 1 0))) (congrArg Sum.inl (hc5.1.1)) ?_
        refine g_iconst (nI (1)) dX6_bring_87 (by decide) ?_
        refine g_iadd dX6_bring_88 ?_
        refine gEx.top (v := .inl (nI (((pTk R A x s).1, (pTk R A x s).2.eraseIdx i).1 1 1 0 + 1))) (congrArg Sum.inl (nI_add _ _)) ?_
        refine g_put (T := TX6) (N := 7) (Cn := RX6) (ref := "CommitCouncil") (ty0 := tyX6) 5 dX6_bring_89 (cIn_lo (by decide)) cSh_0 rfl (fun w h => List.mem_cons_of_mem _ (hU6 w h)) tyX6_ok nmX6 (by decide) (List.mem_cons_of_mem _ uw_1_163) (Or.inl rfl) rfl rfl rfl rfl ?_
        refine g_iload_n dX6_bring_92 rfl ?_
        refine g_iret dX6_bring_93 rfl ?_
        refine ⟨rfl, ?_⟩
        rw [tBrg_up hi (by omega)]
        exact cRel_wcame (s := ((pTk R A x s).1, (pTk R A x s).2.eraseIdx i)) hc5 _
    · skip
      rw [bI_z] at h57
      exfalso; unfold sBrg pAnsH at hs; first | (rw [if_neg (by omega)] at hs; omega) | (rw [if_pos (by omega)] at hs; omega)
  · skip
    rw [nI_z (by omega)] at h30
    refine g_aload_n dX6_bring_33 rfl ?_
    refine g_iload_n dX6_bring_34 rfl ?_
    refine g_iload_n dX6_bring_35 rfl ?_
    refine g_iload_n dX6_bring_36 rfl ?_
    refine g_callVi (nI (pAns R A s.1 x)) (n9 := 3) [.inl (nI (i)), .inl (nI (x 0)), .inl (nI (x 1))] [] (c_ans ⟨hR1, hR6, hA35⟩ hc hb hx hp5 (by omega)) dX6_bring_37 (gU_V uw_2_138 uw_2_140 us_0_10 uw_1_1 uw_2_141) rfl (by decide +kernel) rfl ⟨by decide, by decide⟩ (cIn_lo (by decide)) cSh_0 rfl rfl (Nat.le_of_ble_eq_true rfl) (fun τ2 hq2 => ?_)
    subst hq2
    refine g_goto 44 dX6_bring_40 (by decide) ?_
    refine g_istore dX6_bring_44 (by decide) ?_
    refine g_aload_n dX6_bring_46 rfl ?_
    refine g_getr (T := TX6) (N := 7) (Cn := RX6) (ref := "CommitCouncil") 3 dX6_bring_47 (cIn_lo (by decide)) cSh_0 rfl (fun w h => List.mem_cons_of_mem _ (hU6 w h)) (by decide) (List.mem_cons_of_mem _ uw_1_161) (Or.inl rfl) rfl ?_
    refine g_iload dX6_bring_50 rfl ?_
    refine g_iconst (nI (1)) dX6_bring_52 (by decide) ?_
    refine g_isub dX6_bring_53 ?_
    refine gEx.top (v := .inl (nI (pAns R A s.1 x) - nI (1))) (congrArg Sum.inl (rfl)) ?_
    refine g_callVi (bI (s.2.length + (pAns R A s.1 x) ≤ 401)) (n9 := 1) [.inl (nI (pAns R A s.1 x) - nI (1))] [] (c_room1 (k := pAns R A s.1 x) hc.2.1.1 (by omega) (by omega) (by omega)) dX6_bring_54 (gU_V uw_2_65 uw_2_66 uw_2_67 uw_1_6 uw_2_68) rfl (by decide +kernel) rfl ⟨by decide, by decide⟩ (cIn_lo (by decide)) cSh_4 rfl rfl (Nat.le_of_ble_eq_true rfl) (fun τ3 hq3 => ?_)
    subst hq3
    refine g_if_ne 62 dX6_bring_57 (by decide) (fun h57 => ?_) (fun h57 => ?_)
    · skip
      rw [bI_z] at h57
      refine g_iload dX6_bring_62 rfl ?_
      refine g_if_eq 74 dX6_bring_64 (by decide) (fun h64 => ?_) (fun h64 => ?_)
      · skip
        rw [nI_z (by omega)] at h64
        refine g_aload_n dX6_bring_74 rfl ?_
        refine g_getr (T := TX6) (N := 7) (Cn := RX6) (ref := "CommitCouncil") 3 dX6_bring_75 (cIn_lo (by decide)) cSh_0 rfl (fun w h => List.mem_cons_of_mem _ (hU6 w h)) (by decide) (List.mem_cons_of_mem _ uw_1_161) (Or.inl rfl) rfl ?_
        refine g_iload_n dX6_bring_78 rfl ?_
        refine g_callVv (n9 := 1) [.inl (nI (i))] [] (c_remove hc.2.1.1 hc.2.1.2.2.1 hR6 (k := i) (by omega) (by omega)) dX6_bring_79 (gU_V uw_3_2 uw_3_3 uw_3_4 uw_1_6 uw_3_5) rfl (by decide +kernel) rfl ⟨by decide, by decide⟩ (cIn_lo (by decide)) cSh_4 rfl rfl (Nat.le_of_ble_eq_true rfl) (fun τ5 hq5 => ?_)
        subst hq5
        have hc5 := cRel_rem (s := s) hc (i := i) (by omega)
        refine g_aload_n dX6_bring_82 rfl ?_
        refine g_dup dX6_bring_83 ?_
        refine g_get (T := TX6) (N := 7) (Cn := RX6) (ref := "CommitCouncil") 5 dX6_bring_84 (cIn_lo (by decide)) cSh_0 rfl (fun w h => List.mem_cons_of_mem _ (hU6 w h)) (by decide) (List.mem_cons_of_mem _ uw_1_163) (Or.inl rfl) rfl ?_
        refine gEx.top (v := .inl (nI ((s.1, s.2.eraseIdx i).1 1 1 0))) (congrArg Sum.inl (hc5.1.1)) ?_
        refine g_iconst (nI (1)) dX6_bring_87 (by decide) ?_
        refine g_iadd dX6_bring_88 ?_
        refine gEx.top (v := .inl (nI ((s.1, s.2.eraseIdx i).1 1 1 0 + 1))) (congrArg Sum.inl (nI_add _ _)) ?_
        refine g_put (T := TX6) (N := 7) (Cn := RX6) (ref := "CommitCouncil") (ty0 := tyX6) 5 dX6_bring_89 (cIn_lo (by decide)) cSh_0 rfl (fun w h => List.mem_cons_of_mem _ (hU6 w h)) tyX6_ok nmX6 (by decide) (List.mem_cons_of_mem _ uw_1_163) (Or.inl rfl) rfl rfl rfl rfl ?_
        refine g_iload_n dX6_bring_92 rfl ?_
        refine g_iret dX6_bring_93 rfl ?_
        refine ⟨rfl, ?_⟩
        rw [tBrg_down (by omega)]
        exact cRel_wcame (s := (s.1, s.2.eraseIdx i)) hc5 _
      · skip
        rw [nI_z (by omega)] at h64
        refine g_aload_n dX6_bring_67 rfl ?_
        refine g_iload_n dX6_bring_68 rfl ?_
        refine g_iload_n dX6_bring_69 rfl ?_
        refine g_iload_n dX6_bring_70 rfl ?_
        refine g_callVv (n9 := 3) [.inl (nI (i)), .inl (nI (x 0)), .inl (nI (x 1))] [] (c_take ⟨hR1, hR6, hA35⟩ hc hb hx hp5 (by omega) (by omega)) dX6_bring_71 (gU_V uw_2_177 uw_2_179 us_0_11 uw_1_1 uw_2_180) rfl (by decide +kernel) rfl ⟨by decide, by decide⟩ (cIn_lo (by decide)) cSh_0 rfl rfl (Nat.le_of_ble_eq_true rfl) (fun τ4 hc4 => ?_)
        refine g_aload_n dX6_bring_74 rfl ?_
        refine g_getr (T := TX6) (N := 7) (Cn := RX6) (ref := "CommitCouncil") 3 dX6_bring_75 (cIn_lo (by decide)) cSh_0 rfl (fun w h => List.mem_cons_of_mem _ (hU6 w h)) (by decide) (List.mem_cons_of_mem _ uw_1_161) (Or.inl rfl) rfl ?_
        refine g_iload_n dX6_bring_78 rfl ?_
        refine g_callVv (n9 := 1) [.inl (nI (i))] [] (c_remove hc4.2.1.1 hc4.2.1.2.2.1 hR6 (k := i) (by rw [pTk_len hx5]; omega) (by rw [pTk_len hx5]; omega)) dX6_bring_79 (gU_V uw_3_2 uw_3_3 uw_3_4 uw_1_6 uw_3_5) rfl (by decide +kernel) rfl ⟨by decide, by decide⟩ (cIn_lo (by decide)) cSh_4 rfl rfl (Nat.le_of_ble_eq_true rfl) (fun τ5 hq5 => ?_)
        subst hq5
        have hc5 := cRel_rem (s := (pTk R A x s)) hc4 (i := i) (by rw [pTk_len hx5]; omega)
        refine g_aload_n dX6_bring_82 rfl ?_
        refine g_dup dX6_bring_83 ?_
        refine g_get (T := TX6) (N := 7) (Cn := RX6) (ref := "CommitCouncil") 5 dX6_bring_84 (cIn_lo (by decide)) cSh_0 rfl (fun w h => List.mem_cons_of_mem _ (hU6 w h)) (by decide) (List.mem_cons_of_mem _ uw_1_163) (Or.inl rfl) rfl ?_
        refine gEx.top (v := .inl (nI (((pTk R A x s).1, (pTk R A x s).2.eraseIdx i).1 1 1 0))) (congrArg Sum.inl (hc5.1.1)) ?_
        refine g_iconst (nI (1)) dX6_bring_87 (by decide) ?_
        refine g_iadd dX6_bring_88 ?_
        refine gEx.top (v := .inl (nI (((pTk R A x s).1, (pTk R A x s).2.eraseIdx i).1 1 1 0 + 1))) (congrArg Sum.inl (nI_add _ _)) ?_
        refine g_put (T := TX6) (N := 7) (Cn := RX6) (ref := "CommitCouncil") (ty0 := tyX6) 5 dX6_bring_89 (cIn_lo (by decide)) cSh_0 rfl (fun w h => List.mem_cons_of_mem _ (hU6 w h)) tyX6_ok nmX6 (by decide) (List.mem_cons_of_mem _ uw_1_163) (Or.inl rfl) rfl rfl rfl rfl ?_
        refine g_iload_n dX6_bring_92 rfl ?_
        refine g_iret dX6_bring_93 rfl ?_
        refine ⟨rfl, ?_⟩
        rw [tBrg_up hi (by omega)]
        exact cRel_wcame (s := ((pTk R A x s).1, (pTk R A x s).2.eraseIdx i)) hc5 _
    · skip
      rw [bI_z] at h57
      exfalso; unfold sBrg pAnsH at hs; first | (rw [if_neg (by omega)] at hs; omega) | (rw [if_pos (by omega)] at hs; omega)

set_option maxRecDepth 100000 in
/-- bring: it must wait -/
theorem c_bringF {R A : Nat} (hRA : pRA R A) {s : pT} {σ : gSt} (hc : cRel R A s σ) (hb : pBu s.1) {i : Nat} {x : pMsg} (hx : s.2[i]? = some x) (hp : pMk R A x) (hlen : s.2.length ≤ 400) (hs : ¬ sBrg R A x s) : gEM (cG R A) mX6_bring 0 [.inr (0), .inl (nI (i))] σ (gR (-1) (fun τ => τ = σ)) := by
  obtain ⟨hR1, hR6, hA35⟩ := hRA
  have hA5 : A ≤ 5 := by omega
  have hi := (List.getElem?_eq_some_iff.mp hx).1
  have hx5 := hp.2.2.2.2.2.2.2
  have hp5 := hp
  have ha := pAns_le (R := R) (A := A) (α := s.1) (x := x) hR6 hA5
  have hu1 : pUpOf s.1 x ≤ 1 := by unfold pUpOf; split; exact hb 2 _ _ (by decide) (by decide); split; exact hb 2 _ _ (by decide) (by decide); exact hb 2 _ _ (by decide) (by decide)
  refine gEM_of (by decide +kernel) rfl (Nat.le_of_ble_eq_true rfl) ?_
  refine g_aload_n dX6_bring_0 rfl ?_
  refine g_getr (T := TX6) (N := 7) (Cn := RX6) (ref := "CommitCouncil") 3 dX6_bring_1 (cIn_lo (by decide)) cSh_0 rfl (fun w h => List.mem_cons_of_mem _ (hU6 w h)) (by decide) (List.mem_cons_of_mem _ uw_1_161) (Or.inl rfl) rfl ?_
  refine g_iload_n dX6_bring_4 rfl ?_
  refine g_iconst (nI (0)) dX6_bring_5 (by decide) ?_
  refine g_callVi (_) (n9 := 2) [.inl (nI (i)), .inl (nI (0))] [] (c_part hc.2.1.1 hc.2.1.2.2.1 hR6 (show i < s.2.length from hi) (by first | exact hlen | omega) (by decide)) dX6_bring_6 (gU_V uw_2_130 uw_2_131 uw_2_132 uw_1_6 uw_2_133) rfl (by decide +kernel) rfl ⟨by decide, by decide⟩ (cIn_lo (by decide)) cSh_4 rfl rfl (Nat.le_of_ble_eq_true rfl) (fun τ1 hq1 => ?_)
  subst hq1
  refine gEx.top (v := .inl (nI (x 0))) (congrArg Sum.inl (((hc.2.1.2.2.2 i x hx).1 0 (by decide)).trans (pt0 x hx5))) ?_
  refine g_istore_n dX6_bring_9 (by decide) ?_
  refine g_aload_n dX6_bring_10 rfl ?_
  refine g_getr (T := TX6) (N := 7) (Cn := RX6) (ref := "CommitCouncil") 3 dX6_bring_11 (cIn_lo (by decide)) cSh_0 rfl (fun w h => List.mem_cons_of_mem _ (hU6 w h)) (by decide) (List.mem_cons_of_mem _ uw_1_161) (Or.inl rfl) rfl ?_
  refine g_iload_n dX6_bring_14 rfl ?_
  refine g_iconst (nI (1)) dX6_bring_15 (by decide) ?_
  refine g_callVi (_) (n9 := 2) [.inl (nI (i)), .inl (nI (1))] [] (c_part hc.2.1.1 hc.2.1.2.2.1 hR6 (show i < s.2.length from hi) (by first | exact hlen | omega) (by decide)) dX6_bring_16 (gU_V uw_2_130 uw_2_131 uw_2_132 uw_1_6 uw_2_133) rfl (by decide +kernel) rfl ⟨by decide, by decide⟩ (cIn_lo (by decide)) cSh_4 rfl rfl (Nat.le_of_ble_eq_true rfl) (fun τ1 hq1 => ?_)
  subst hq1
  refine gEx.top (v := .inl (nI (x 1))) (congrArg Sum.inl (((hc.2.1.2.2.2 i x hx).1 1 (by decide)).trans (pt1 x hx5))) ?_
  refine g_istore_n dX6_bring_19 (by decide) ?_
  refine g_aload_n dX6_bring_20 rfl ?_
  refine g_iload_n dX6_bring_21 rfl ?_
  refine g_iload_n dX6_bring_22 rfl ?_
  refine g_callVi (nI (pUpOf s.1 x)) (n9 := 2) [.inl (nI (x 0)), .inl (nI (x 1))] [] (c_isUp ⟨hR1, hR6, hA35⟩ hc hb hx hp5) dX6_bring_23 (gU_V uw_2_134 uw_2_136 us_0_9 uw_1_1 uw_2_137) rfl (by decide +kernel) rfl ⟨by decide, by decide⟩ (cIn_lo (by decide)) cSh_0 rfl rfl (Nat.le_of_ble_eq_true rfl) (fun τ1 hq1 => ?_)
  subst hq1
  refine g_istore dX6_bring_26 (by decide) ?_
  refine g_iload dX6_bring_28 rfl ?_
  refine g_if_eq 43 dX6_bring_30 (by decide) (fun h30 => ?_) (fun h30 => ?_)
  · skip
    rw [nI_z (by omega)] at h30
    refine g_iconst (nI (0)) dX6_bring_43 (by decide) ?_
    refine g_istore dX6_bring_44 (by decide) ?_
    refine g_aload_n dX6_bring_46 rfl ?_
    refine g_getr (T := TX6) (N := 7) (Cn := RX6) (ref := "CommitCouncil") 3 dX6_bring_47 (cIn_lo (by decide)) cSh_0 rfl (fun w h => List.mem_cons_of_mem _ (hU6 w h)) (by decide) (List.mem_cons_of_mem _ uw_1_161) (Or.inl rfl) rfl ?_
    refine g_iload dX6_bring_50 rfl ?_
    refine g_iconst (nI (1)) dX6_bring_52 (by decide) ?_
    refine g_isub dX6_bring_53 ?_
    refine gEx.top (v := .inl (nI (0) - nI (1))) (congrArg Sum.inl (rfl)) ?_
    refine g_callVi (bI (s.2.length + (0) ≤ 401)) (n9 := 1) [.inl (nI (0) - nI (1))] [] (c_room1 (k := 0) hc.2.1.1 (by omega) (by omega) (by omega)) dX6_bring_54 (gU_V uw_2_65 uw_2_66 uw_2_67 uw_1_6 uw_2_68) rfl (by decide +kernel) rfl ⟨by decide, by decide⟩ (cIn_lo (by decide)) cSh_4 rfl rfl (Nat.le_of_ble_eq_true rfl) (fun τ3 hq3 => ?_)
    subst hq3
    refine g_if_ne 62 dX6_bring_57 (by decide) (fun h57 => ?_) (fun h57 => ?_)
    · skip
      rw [bI_z] at h57
      exfalso; unfold sBrg pAnsH at hs; first | (rw [if_neg (by omega)] at hs; omega) | (rw [if_pos (by omega)] at hs; omega)
    · skip
      rw [bI_z] at h57
      refine g_iconst ((-1)) dX6_bring_60 (by decide) ?_
      exact g_iret dX6_bring_61 rfl (⟨rfl, rfl⟩)
  · skip
    rw [nI_z (by omega)] at h30
    refine g_aload_n dX6_bring_33 rfl ?_
    refine g_iload_n dX6_bring_34 rfl ?_
    refine g_iload_n dX6_bring_35 rfl ?_
    refine g_iload_n dX6_bring_36 rfl ?_
    refine g_callVi (nI (pAns R A s.1 x)) (n9 := 3) [.inl (nI (i)), .inl (nI (x 0)), .inl (nI (x 1))] [] (c_ans ⟨hR1, hR6, hA35⟩ hc hb hx hp5 (by omega)) dX6_bring_37 (gU_V uw_2_138 uw_2_140 us_0_10 uw_1_1 uw_2_141) rfl (by decide +kernel) rfl ⟨by decide, by decide⟩ (cIn_lo (by decide)) cSh_0 rfl rfl (Nat.le_of_ble_eq_true rfl) (fun τ2 hq2 => ?_)
    subst hq2
    refine g_goto 44 dX6_bring_40 (by decide) ?_
    refine g_istore dX6_bring_44 (by decide) ?_
    refine g_aload_n dX6_bring_46 rfl ?_
    refine g_getr (T := TX6) (N := 7) (Cn := RX6) (ref := "CommitCouncil") 3 dX6_bring_47 (cIn_lo (by decide)) cSh_0 rfl (fun w h => List.mem_cons_of_mem _ (hU6 w h)) (by decide) (List.mem_cons_of_mem _ uw_1_161) (Or.inl rfl) rfl ?_
    refine g_iload dX6_bring_50 rfl ?_
    refine g_iconst (nI (1)) dX6_bring_52 (by decide) ?_
    refine g_isub dX6_bring_53 ?_
    refine gEx.top (v := .inl (nI (pAns R A s.1 x) - nI (1))) (congrArg Sum.inl (rfl)) ?_
    refine g_callVi (bI (s.2.length + (pAns R A s.1 x) ≤ 401)) (n9 := 1) [.inl (nI (pAns R A s.1 x) - nI (1))] [] (c_room1 (k := pAns R A s.1 x) hc.2.1.1 (by omega) (by omega) (by omega)) dX6_bring_54 (gU_V uw_2_65 uw_2_66 uw_2_67 uw_1_6 uw_2_68) rfl (by decide +kernel) rfl ⟨by decide, by decide⟩ (cIn_lo (by decide)) cSh_4 rfl rfl (Nat.le_of_ble_eq_true rfl) (fun τ3 hq3 => ?_)
    subst hq3
    refine g_if_ne 62 dX6_bring_57 (by decide) (fun h57 => ?_) (fun h57 => ?_)
    · skip
      rw [bI_z] at h57
      exfalso; unfold sBrg pAnsH at hs; first | (rw [if_neg (by omega)] at hs; omega) | (rw [if_pos (by omega)] at hs; omega)
    · skip
      rw [bI_z] at h57
      refine g_iconst ((-1)) dX6_bring_60 (by decide) ?_
      exact g_iret dX6_bring_61 rfl (⟨rfl, rfl⟩)

set_option maxRecDepth 100000 in
/-- deliver -/
theorem c_deliverT {R A : Nat} (hRA : pRA R A) {s : pT} {σ : gSt} (hc : cRel R A s σ) (hb : pBu s.1) {i : Nat} {x : pMsg} (hx : s.2[i]? = some x) (hp : pMk R A x) (hlen : s.2.length ≤ 400) (hs : sBrg R A x s) : gEM (cG R A) mX6_deliver 1 [.inr (0), .inl (nI (i))] σ (gR (nI (x 0)) (fun τ => cRel R A (tBrg R A i x s) τ)) := by
  have hi := (List.getElem?_eq_some_iff.mp hx).1
  refine gEM_of (by decide +kernel) rfl (Nat.le_of_ble_eq_true rfl) ?_
  refine g_iload_n dX6_deliver_0 rfl ?_
  refine g_aload_n dX6_deliver_1 rfl ?_
  refine g_getr (T := TX6) (N := 7) (Cn := RX6) (ref := "CommitCouncil") 3 dX6_deliver_2 (cIn_lo (by decide)) cSh_0 rfl (fun w h => List.mem_cons_of_mem _ (hU6 w h)) (by decide) (List.mem_cons_of_mem _ uw_1_161) (Or.inl rfl) rfl ?_
  refine g_get (T := TX3) (N := 4) (Cn := RX3) (ref := "CommitCouncil$Mail") 0 dX6_deliver_5 (cIn_lo (by decide)) cSh_4 rfl (fun w h => List.mem_cons_of_mem _ (hU3 w h)) (by decide) (List.mem_cons_of_mem _ uw_1_122) (Or.inl rfl) rfl ?_
  refine gEx.top (v := .inl (nI (s.2.length))) (congrArg Sum.inl (hc.2.1.1)) ?_
  refine g_callSv (n9 := 2) [.inl (nI (i)), .inl (nI (s.2.length))] [] (c_checkOk hi (by omega)) dX6_deliver_8 (gU_S uw_1_192 uw_1_193 uw_1_1 uw_1_194) rfl (by decide +kernel) rfl ⟨by decide, by decide⟩ rfl (Nat.le_of_ble_eq_true rfl) (fun σ1 hp1 => ?_)
  subst hp1
  refine g_aload_n dX6_deliver_11 rfl ?_
  refine g_iload_n dX6_deliver_12 rfl ?_
  refine g_callVi (nI (x 0)) (n9 := 1) [.inl (nI (i))] [] (c_bringT hRA hc hb hx hp hlen hs) dX6_deliver_13 (gU_V uw_2_126 uw_2_128 us_0_8 uw_1_1 uw_2_129) rfl (by decide +kernel) rfl ⟨by decide, by decide⟩ (cIn_lo (by decide)) cSh_0 rfl rfl (Nat.le_of_ble_eq_true rfl) (fun τ1 hc1 => ?_)
  exact g_iret dX6_deliver_16 rfl (⟨rfl, hc1⟩)

set_option maxRecDepth 100000 in
/-- deliver -/
theorem c_deliverF {R A : Nat} (hRA : pRA R A) {s : pT} {σ : gSt} (hc : cRel R A s σ) (hb : pBu s.1) {i : Nat} {x : pMsg} (hx : s.2[i]? = some x) (hp : pMk R A x) (hlen : s.2.length ≤ 400) (hs : ¬ sBrg R A x s) : gEM (cG R A) mX6_deliver 1 [.inr (0), .inl (nI (i))] σ (gR (-1) (fun τ => τ = σ)) := by
  have hi := (List.getElem?_eq_some_iff.mp hx).1
  refine gEM_of (by decide +kernel) rfl (Nat.le_of_ble_eq_true rfl) ?_
  refine g_iload_n dX6_deliver_0 rfl ?_
  refine g_aload_n dX6_deliver_1 rfl ?_
  refine g_getr (T := TX6) (N := 7) (Cn := RX6) (ref := "CommitCouncil") 3 dX6_deliver_2 (cIn_lo (by decide)) cSh_0 rfl (fun w h => List.mem_cons_of_mem _ (hU6 w h)) (by decide) (List.mem_cons_of_mem _ uw_1_161) (Or.inl rfl) rfl ?_
  refine g_get (T := TX3) (N := 4) (Cn := RX3) (ref := "CommitCouncil$Mail") 0 dX6_deliver_5 (cIn_lo (by decide)) cSh_4 rfl (fun w h => List.mem_cons_of_mem _ (hU3 w h)) (by decide) (List.mem_cons_of_mem _ uw_1_122) (Or.inl rfl) rfl ?_
  refine gEx.top (v := .inl (nI (s.2.length))) (congrArg Sum.inl (hc.2.1.1)) ?_
  refine g_callSv (n9 := 2) [.inl (nI (i)), .inl (nI (s.2.length))] [] (c_checkOk hi (by omega)) dX6_deliver_8 (gU_S uw_1_192 uw_1_193 uw_1_1 uw_1_194) rfl (by decide +kernel) rfl ⟨by decide, by decide⟩ rfl (Nat.le_of_ble_eq_true rfl) (fun σ1 hp1 => ?_)
  subst hp1
  refine g_aload_n dX6_deliver_11 rfl ?_
  refine g_iload_n dX6_deliver_12 rfl ?_
  refine g_callVi (-1) (n9 := 1) [.inl (nI (i))] [] (c_bringF hRA hc hb hx hp hlen hs) dX6_deliver_13 (gU_V uw_2_126 uw_2_128 us_0_8 uw_1_1 uw_2_129) rfl (by decide +kernel) rfl ⟨by decide, by decide⟩ (cIn_lo (by decide)) cSh_0 rfl rfl (Nat.le_of_ble_eq_true rfl) (fun τ1 hc1 => ?_)
  exact g_iret dX6_deliver_16 rfl (⟨rfl, hc1⟩)

set_option maxRecDepth 100000 in
/-- deliver -/
theorem c_deliverX {R A : Nat} (hRA : pRA R A) {s : pT} {σ : gSt} (hc : cRel R A s σ) {y : Int32} (hy : y < 0 ∨ nI s.2.length ≤ y) : gEM (cG R A) mX6_deliver 1 [.inr (0), .inl (y)] σ (gX 0 (fun τ => τ = σ)) := by
  refine gEM_of (by decide +kernel) rfl (Nat.le_of_ble_eq_true rfl) ?_
  refine g_iload_n dX6_deliver_0 rfl ?_
  refine g_aload_n dX6_deliver_1 rfl ?_
  refine g_getr (T := TX6) (N := 7) (Cn := RX6) (ref := "CommitCouncil") 3 dX6_deliver_2 (cIn_lo (by decide)) cSh_0 rfl (fun w h => List.mem_cons_of_mem _ (hU6 w h)) (by decide) (List.mem_cons_of_mem _ uw_1_161) (Or.inl rfl) rfl ?_
  refine g_get (T := TX3) (N := 4) (Cn := RX3) (ref := "CommitCouncil$Mail") 0 dX6_deliver_5 (cIn_lo (by decide)) cSh_4 rfl (fun w h => List.mem_cons_of_mem _ (hU3 w h)) (by decide) (List.mem_cons_of_mem _ uw_1_122) (Or.inl rfl) rfl ?_
  refine gEx.top (v := .inl (nI (s.2.length))) (congrArg Sum.inl (hc.2.1.1)) ?_
  exact g_callSx 0 (n9 := 2) [.inl (y), .inl (nI (s.2.length))] [] (c_checkNo hy) dX6_deliver_8 (gU_S uw_1_192 uw_1_193 uw_1_1 uw_1_194) rfl (by decide +kernel) rfl ⟨by decide, by decide⟩ rfl (Nat.le_of_ble_eq_true rfl) (by decide) (fun σ9 hp9 => ⟨rfl, hp9⟩)

set_option maxRecDepth 100000 in
/-- drop -/
theorem c_dropX {R A : Nat} (hRA : pRA R A) {s : pT} {σ : gSt} (hc : cRel R A s σ) {y : Int32} (hy : y < 0 ∨ nI s.2.length ≤ y) : gEM (cG R A) mX6_drop 1 [.inr (0), .inl (y)] σ (gX 0 (fun τ => τ = σ)) := by
  refine gEM_of (by decide +kernel) rfl (Nat.le_of_ble_eq_true rfl) ?_
  refine g_iload_n dX6_drop_0 rfl ?_
  refine g_aload_n dX6_drop_1 rfl ?_
  refine g_getr (T := TX6) (N := 7) (Cn := RX6) (ref := "CommitCouncil") 3 dX6_drop_2 (cIn_lo (by decide)) cSh_0 rfl (fun w h => List.mem_cons_of_mem _ (hU6 w h)) (by decide) (List.mem_cons_of_mem _ uw_1_161) (Or.inl rfl) rfl ?_
  refine g_get (T := TX3) (N := 4) (Cn := RX3) (ref := "CommitCouncil$Mail") 0 dX6_drop_5 (cIn_lo (by decide)) cSh_4 rfl (fun w h => List.mem_cons_of_mem _ (hU3 w h)) (by decide) (List.mem_cons_of_mem _ uw_1_122) (Or.inl rfl) rfl ?_
  refine gEx.top (v := .inl (nI (s.2.length))) (congrArg Sum.inl (hc.2.1.1)) ?_
  exact g_callSx 0 (n9 := 2) [.inl (y), .inl (nI (s.2.length))] [] (c_checkNo hy) dX6_drop_8 (gU_S uw_1_192 uw_1_193 uw_1_1 uw_1_194) rfl (by decide +kernel) rfl ⟨by decide, by decide⟩ rfl (Nat.le_of_ble_eq_true rfl) (by decide) (fun σ9 hp9 => ⟨rfl, hp9⟩)

set_option maxRecDepth 100000 in
/-- copy -/
theorem c_copyX {R A : Nat} (hRA : pRA R A) {s : pT} {σ : gSt} (hc : cRel R A s σ) {y : Int32} (hy : y < 0 ∨ nI s.2.length ≤ y) : gEM (cG R A) mX6_copy 1 [.inr (0), .inl (y)] σ (gX 0 (fun τ => τ = σ)) := by
  refine gEM_of (by decide +kernel) rfl (Nat.le_of_ble_eq_true rfl) ?_
  refine g_iload_n dX6_copy_0 rfl ?_
  refine g_aload_n dX6_copy_1 rfl ?_
  refine g_getr (T := TX6) (N := 7) (Cn := RX6) (ref := "CommitCouncil") 3 dX6_copy_2 (cIn_lo (by decide)) cSh_0 rfl (fun w h => List.mem_cons_of_mem _ (hU6 w h)) (by decide) (List.mem_cons_of_mem _ uw_1_161) (Or.inl rfl) rfl ?_
  refine g_get (T := TX3) (N := 4) (Cn := RX3) (ref := "CommitCouncil$Mail") 0 dX6_copy_5 (cIn_lo (by decide)) cSh_4 rfl (fun w h => List.mem_cons_of_mem _ (hU3 w h)) (by decide) (List.mem_cons_of_mem _ uw_1_122) (Or.inl rfl) rfl ?_
  refine gEx.top (v := .inl (nI (s.2.length))) (congrArg Sum.inl (hc.2.1.1)) ?_
  exact g_callSx 0 (n9 := 2) [.inl (y), .inl (nI (s.2.length))] [] (c_checkNo hy) dX6_copy_8 (gU_S uw_1_192 uw_1_193 uw_1_1 uw_1_194) rfl (by decide +kernel) rfl ⟨by decide, by decide⟩ rfl (Nat.le_of_ble_eq_true rfl) (by decide) (fun σ9 hp9 => ⟨rfl, hp9⟩)

set_option maxRecDepth 100000 in
/-- drop -/
theorem c_drop {R A : Nat} (hRA : pRA R A) {s : pT} {σ : gSt} (hc : cRel R A s σ) {i : Nat} (hi : i < s.2.length) (hlen : s.2.length ≤ 400) : gEM (cG R A) mX6_drop 1 [.inr (0), .inl (nI (i))] σ (gV (fun τ => cRel R A (tDrop i s) τ)) := by
  obtain ⟨hR1, hR6, hA35⟩ := hRA
  have hA5 : A ≤ 5 := by omega
  refine gEM_of (by decide +kernel) rfl (Nat.le_of_ble_eq_true rfl) ?_
  refine g_iload_n dX6_drop_0 rfl ?_
  refine g_aload_n dX6_drop_1 rfl ?_
  refine g_getr (T := TX6) (N := 7) (Cn := RX6) (ref := "CommitCouncil") 3 dX6_drop_2 (cIn_lo (by decide)) cSh_0 rfl (fun w h => List.mem_cons_of_mem _ (hU6 w h)) (by decide) (List.mem_cons_of_mem _ uw_1_161) (Or.inl rfl) rfl ?_
  refine g_get (T := TX3) (N := 4) (Cn := RX3) (ref := "CommitCouncil$Mail") 0 dX6_drop_5 (cIn_lo (by decide)) cSh_4 rfl (fun w h => List.mem_cons_of_mem _ (hU3 w h)) (by decide) (List.mem_cons_of_mem _ uw_1_122) (Or.inl rfl) rfl ?_
  refine gEx.top (v := .inl (nI (s.2.length))) (congrArg Sum.inl (hc.2.1.1)) ?_
  refine g_callSv (n9 := 2) [.inl (nI (i)), .inl (nI (s.2.length))] [] (c_checkOk hi (by omega)) dX6_drop_8 (gU_S uw_1_192 uw_1_193 uw_1_1 uw_1_194) rfl (by decide +kernel) rfl ⟨by decide, by decide⟩ rfl (Nat.le_of_ble_eq_true rfl) (fun σ1 hp1 => ?_)
  subst hp1
  refine g_aload_n dX6_drop_11 rfl ?_
  refine g_getr (T := TX6) (N := 7) (Cn := RX6) (ref := "CommitCouncil") 3 dX6_drop_12 (cIn_lo (by decide)) cSh_0 rfl (fun w h => List.mem_cons_of_mem _ (hU6 w h)) (by decide) (List.mem_cons_of_mem _ uw_1_161) (Or.inl rfl) rfl ?_
  refine g_iload_n dX6_drop_15 rfl ?_
  refine g_callVv (n9 := 1) [.inl (nI (i))] [] (c_remove hc.2.1.1 hc.2.1.2.2.1 hR6 hi (by omega)) dX6_drop_16 (gU_V uw_3_2 uw_3_3 uw_3_4 uw_1_6 uw_3_5) rfl (by decide +kernel) rfl ⟨by decide, by decide⟩ (cIn_lo (by decide)) cSh_4 rfl rfl (Nat.le_of_ble_eq_true rfl) (fun τ1 hq1 => ?_)
  subst hq1
  exact g_vret dX6_drop_19 rfl (⟨rfl, cRel_rem hc hi⟩)

set_option maxRecDepth 100000 in
/-- copy -/
theorem c_copyT {R A : Nat} (hRA : pRA R A) {s : pT} {σ : gSt} (hc : cRel R A s σ) {i : Nat} {x : pMsg} (hx : s.2[i]? = some x) (hs : s.2.length + 1 ≤ 400) : gEM (cG R A) mX6_copy 1 [.inr (0), .inl (nI (i))] σ (gR (nI (s.2.length + 1)) (fun τ => cRel R A (tCopy x s) τ)) := by
  obtain ⟨hR1, hR6, hA35⟩ := hRA
  have hA5 : A ≤ 5 := by omega
  have hi := (List.getElem?_eq_some_iff.mp hx).1
  refine gEM_of (by decide +kernel) rfl (Nat.le_of_ble_eq_true rfl) ?_
  refine g_iload_n dX6_copy_0 rfl ?_
  refine g_aload_n dX6_copy_1 rfl ?_
  refine g_getr (T := TX6) (N := 7) (Cn := RX6) (ref := "CommitCouncil") 3 dX6_copy_2 (cIn_lo (by decide)) cSh_0 rfl (fun w h => List.mem_cons_of_mem _ (hU6 w h)) (by decide) (List.mem_cons_of_mem _ uw_1_161) (Or.inl rfl) rfl ?_
  refine g_get (T := TX3) (N := 4) (Cn := RX3) (ref := "CommitCouncil$Mail") 0 dX6_copy_5 (cIn_lo (by decide)) cSh_4 rfl (fun w h => List.mem_cons_of_mem _ (hU3 w h)) (by decide) (List.mem_cons_of_mem _ uw_1_122) (Or.inl rfl) rfl ?_
  refine gEx.top (v := .inl (nI (s.2.length))) (congrArg Sum.inl (hc.2.1.1)) ?_
  refine g_callSv (n9 := 2) [.inl (nI (i)), .inl (nI (s.2.length))] [] (c_checkOk hi (by omega)) dX6_copy_8 (gU_S uw_1_192 uw_1_193 uw_1_1 uw_1_194) rfl (by decide +kernel) rfl ⟨by decide, by decide⟩ rfl (Nat.le_of_ble_eq_true rfl) (fun σ1 hp1 => ?_)
  subst hp1
  refine g_aload_n dX6_copy_11 rfl ?_
  refine g_getr (T := TX6) (N := 7) (Cn := RX6) (ref := "CommitCouncil") 3 dX6_copy_12 (cIn_lo (by decide)) cSh_0 rfl (fun w h => List.mem_cons_of_mem _ (hU6 w h)) (by decide) (List.mem_cons_of_mem _ uw_1_161) (Or.inl rfl) rfl ?_
  refine g_iconst (nI (1)) dX6_copy_15 (by decide) ?_
  refine g_callVi (bI (s.2.length + 1 ≤ 400)) (n9 := 1) [.inl (nI (1))] [] (c_room hc.2.1.1 (by omega) (by omega)) dX6_copy_16 (gU_V uw_2_65 uw_2_66 uw_2_67 uw_1_6 uw_2_68) rfl (by decide +kernel) rfl ⟨by decide, by decide⟩ (cIn_lo (by decide)) cSh_4 rfl rfl (Nat.le_of_ble_eq_true rfl) (fun σ1 hp1 => ?_)
  subst hp1
  refine g_if_ne 24 dX6_copy_19 (by decide) (fun h19 => ?_) (fun h19 => ?_)
  · skip
    rw [bI_z] at h19
    refine g_aload_n dX6_copy_24 rfl ?_
    refine g_getr (T := TX6) (N := 7) (Cn := RX6) (ref := "CommitCouncil") 3 dX6_copy_25 (cIn_lo (by decide)) cSh_0 rfl (fun w h => List.mem_cons_of_mem _ (hU6 w h)) (by decide) (List.mem_cons_of_mem _ uw_1_161) (Or.inl rfl) rfl ?_
    refine g_iload_n dX6_copy_28 rfl ?_
    refine g_callVv (n9 := 1) [.inl (nI (i))] [] (c_sendLike hc.2.1.1 hc.2.1.2.2.1 hR6 hi (by omega)) dX6_copy_29 (gU_V uw_3_20 uw_3_21 uw_3_22 uw_1_6 uw_3_23) rfl (by decide +kernel) rfl ⟨by decide, by decide⟩ (cIn_lo (by decide)) cSh_4 rfl rfl (Nat.le_of_ble_eq_true rfl) (fun τ1 hq1 => ?_)
    subst hq1
    have hc1 := cRel_like hc hx
    refine g_aload_n dX6_copy_32 rfl ?_
    refine g_getr (T := TX6) (N := 7) (Cn := RX6) (ref := "CommitCouncil") 3 dX6_copy_33 (cIn_lo (by decide)) cSh_0 rfl (fun w h => List.mem_cons_of_mem _ (hU6 w h)) (by decide) (List.mem_cons_of_mem _ uw_1_161) (Or.inl rfl) rfl ?_
    refine g_get (T := TX3) (N := 4) (Cn := RX3) (ref := "CommitCouncil$Mail") 0 dX6_copy_36 (cIn_lo (by decide)) cSh_4 rfl (fun w h => List.mem_cons_of_mem _ (hU3 w h)) (by decide) (List.mem_cons_of_mem _ uw_1_122) (Or.inl rfl) rfl ?_
    refine gEx.top (v := .inl (nI (s.2.length + 1))) (congrArg Sum.inl ((hc1.2.1.1).trans (by unfold tCopy; rw [List.length_append]; rfl))) ?_
    exact g_iret dX6_copy_39 rfl (⟨rfl, hc1⟩)
  · skip
    rw [bI_z] at h19
    exfalso; omega

set_option maxRecDepth 100000 in
/-- copy -/
theorem c_copyF {R A : Nat} (hRA : pRA R A) {s : pT} {σ : gSt} (hc : cRel R A s σ) {i : Nat} (hi : i < s.2.length) (hlen : s.2.length ≤ 400) (hs : ¬ s.2.length + 1 ≤ 400) : gEM (cG R A) mX6_copy 1 [.inr (0), .inl (nI (i))] σ (gR (-1) (fun τ => τ = σ)) := by
  obtain ⟨hR1, hR6, hA35⟩ := hRA
  have hA5 : A ≤ 5 := by omega
  refine gEM_of (by decide +kernel) rfl (Nat.le_of_ble_eq_true rfl) ?_
  refine g_iload_n dX6_copy_0 rfl ?_
  refine g_aload_n dX6_copy_1 rfl ?_
  refine g_getr (T := TX6) (N := 7) (Cn := RX6) (ref := "CommitCouncil") 3 dX6_copy_2 (cIn_lo (by decide)) cSh_0 rfl (fun w h => List.mem_cons_of_mem _ (hU6 w h)) (by decide) (List.mem_cons_of_mem _ uw_1_161) (Or.inl rfl) rfl ?_
  refine g_get (T := TX3) (N := 4) (Cn := RX3) (ref := "CommitCouncil$Mail") 0 dX6_copy_5 (cIn_lo (by decide)) cSh_4 rfl (fun w h => List.mem_cons_of_mem _ (hU3 w h)) (by decide) (List.mem_cons_of_mem _ uw_1_122) (Or.inl rfl) rfl ?_
  refine gEx.top (v := .inl (nI (s.2.length))) (congrArg Sum.inl (hc.2.1.1)) ?_
  refine g_callSv (n9 := 2) [.inl (nI (i)), .inl (nI (s.2.length))] [] (c_checkOk hi (by omega)) dX6_copy_8 (gU_S uw_1_192 uw_1_193 uw_1_1 uw_1_194) rfl (by decide +kernel) rfl ⟨by decide, by decide⟩ rfl (Nat.le_of_ble_eq_true rfl) (fun σ1 hp1 => ?_)
  subst hp1
  refine g_aload_n dX6_copy_11 rfl ?_
  refine g_getr (T := TX6) (N := 7) (Cn := RX6) (ref := "CommitCouncil") 3 dX6_copy_12 (cIn_lo (by decide)) cSh_0 rfl (fun w h => List.mem_cons_of_mem _ (hU6 w h)) (by decide) (List.mem_cons_of_mem _ uw_1_161) (Or.inl rfl) rfl ?_
  refine g_iconst (nI (1)) dX6_copy_15 (by decide) ?_
  refine g_callVi (bI (s.2.length + 1 ≤ 400)) (n9 := 1) [.inl (nI (1))] [] (c_room hc.2.1.1 (by omega) (by omega)) dX6_copy_16 (gU_V uw_2_65 uw_2_66 uw_2_67 uw_1_6 uw_2_68) rfl (by decide +kernel) rfl ⟨by decide, by decide⟩ (cIn_lo (by decide)) cSh_4 rfl rfl (Nat.le_of_ble_eq_true rfl) (fun σ1 hp1 => ?_)
  subst hp1
  refine g_if_ne 24 dX6_copy_19 (by decide) (fun h19 => ?_) (fun h19 => ?_)
  · skip
    rw [bI_z] at h19
    exfalso; omega
  · skip
    rw [bI_z] at h19
    refine g_iconst ((-1)) dX6_copy_22 (by decide) ?_
    exact g_iret dX6_copy_23 rfl (⟨rfl, rfl⟩)
