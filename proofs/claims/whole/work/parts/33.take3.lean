theorem pLat_0 (α : pS) (l : Nat) (t : Nat → Nat) : pLat α l 0 t = α := by
  funext x y z
  unfold pLat
  rw [if_neg (fun q => absurd q.2.2 (Nat.not_lt_zero _))]
theorem pLat_s (α : pS) (l n : Nat) (t : Nat → Nat) : pu (pLat α l n t) 20 l n (pMax (α 20 l n) (t n)) = pLat α l (n + 1) t := by
  funext x y z
  unfold pu pLat
  by_cases h : x = 20 ∧ y = l ∧ z = n
  · obtain ⟨h1, h2, h3⟩ := h
    subst h1; subst h2; subst h3
    rw [if_pos ⟨rfl, rfl, rfl⟩, if_pos ⟨rfl, rfl, by omega⟩]
  · rw [if_neg h]
    by_cases h2 : x = 20 ∧ y = l ∧ z < n
    · rw [if_pos h2, if_pos ⟨h2.1, h2.2.1, by omega⟩]
    · rw [if_neg h2, if_neg (fun q => by
        rcases (show z < n ∨ z = n by omega) with e | e
        · exact h2 ⟨q.1, q.2.1, e⟩
        · exact h ⟨q.1, q.2.1, e⟩)]
theorem pLat_at {α : pS} {l n k : Nat} {t : Nat → Nat} (h : n ≤ k) : pLat α l n t 20 l k = α 20 l k := if_neg (fun q => by omega)
theorem pLat_c {α : pS} {l n c : Nat} {t : Nat → Nat} (h : c ≠ 20) : pLat α l n t c = α c := by
  funext y z
  unfold pLat
  rw [if_neg (fun q => h q.1)]
theorem pTel_c {α : pS} {l a n c : Nat} {t : Nat → Nat} (h : c ≠ 12) : pTel α l a n t c = α c := by
  funext y z
  unfold pTel
  rw [if_neg (fun q => h q.1)]
theorem latTel {α : pS} {l a R c : Nat} {t : Nat → Nat} (h : c ≠ 12) : pLat (pTel α l a R t) l R t c = pLat α l R t c := by
  funext y z
  unfold pLat
  rw [pTel_c (show 20 ≠ 12 by decide), pTel_c h]
theorem take3 {R A : Nat} {α : pS} {x : pMsg} (hk : x 0 = 3) : pTake R A α x = if pKeep α (x 1) (x 4) (x 2) then
      (if pEnough A α (x 1) then (pLay (pu (pLat (pTel (pu (pu α 9 (x 1) 0 (pMax (α 9 (x 1) 0) (x 4))) 11 (x 1) (x 2) 1) (x 1) (x 2) R (fun m => x (6 + m))) (x 1) R (fun m => x (6 + m))) 8 (x 1) 0 2) (x 4) R (fun m => pWrd (pLat (pTel (pu (pu α 9 (x 1) 0 (pMax (α 9 (x 1) 0) (x 4))) 11 (x 1) (x 2) 1) (x 1) (x 2) R (fun m => x (6 + m))) (x 1) R (fun m => x (6 + m)) 20 (x 1) m)), lAll R A (x 4) (pLat (pTel (pu (pu α 9 (x 1) 0 (pMax (α 9 (x 1) 0) (x 4))) 11 (x 1) (x 2) 1) (x 1) (x 2) R (fun m => x (6 + m))) (x 1) R (fun m => x (6 + m)) 20 (x 1)))
       else (pLat (pTel (pu (pu α 9 (x 1) 0 (pMax (α 9 (x 1) 0) (x 4))) 11 (x 1) (x 2) 1) (x 1) (x 2) R (fun m => x (6 + m))) (x 1) R (fun m => x (6 + m)), []))
    else (pu α 9 (x 1) 0 (pMax (α 9 (x 1) 0) (x 4)), []) := by
  unfold pTake
  rw [hk]
  rfl
theorem pTk_all {R A : Nat} {x : pMsg} {s : pT} {α : pS} {b : Nat} {f : Nat → Nat} (h : pTake R A s.1 x = (α, lAll R A b f)) : pTk R A x s = pAll A b f (α, s.2) R := by
  unfold pTk pAll
  rw [h]
  show (pSnd α (lAll R A b f).length, s.2 ++ lAll R A b f) = _
  unfold lAll
  rw [lAll_len]
theorem lay_c {α : pS} {b R k c : Nat} {f : Nat → Nat} (h : c ≠ 16) : pSnd (pLay α b R f) k c = pSnd α k c := by
  funext y z
  unfold pSnd pu pLay
  simp [h]
theorem gho_all {R A : Nat} {α β : pS} {ms : List pMsg} {σ : gSt} {b b' n : Nat} {f g : Nat → Nat} (h : cRel R A (pAll A b f (α, ms) n) σ) (hbb : b = b') (hf : f = g) (hc : ∀ c, c ≠ 16 → c ≠ 17 → c ≠ 12 → β c = α c) : cRel R A (pAll A b' g (β, ms) n) σ := by
  subst hf
  subst hbb
  refine cRel_gho h (fun c h1 h2 h3 => ?_)
  show pSnd β (n * A) c = pSnd α (n * A) c
  unfold pSnd
  funext y z
  unfold pu
  rw [hc c h1 h2 h3, hc 1 (by decide) (by decide) (by decide)]

theorem gho3 {α : pS} {l a b R c : Nat} {t f : Nat → Nat} (h16 : c ≠ 16) (h12 : c ≠ 12) : pLay (pu (pLat (pTel α l a R t) l R t) 8 l 0 2) b R f c = pu (pLat α l R t) 8 l 0 2 c := by
  funext y z
  unfold pLay
  rw [if_neg (fun q => h16 q.1)]
  unfold pu
  rw [latTel h12]

set_option maxRecDepth 100000 in
theorem c_tTold_l {R A : Nat} (hRA : pRA R A) {s : pT} (hb : pBu s.1) {i : Nat} {x : pMsg} (hx : s.2[i]? = some x) (hk : x 0 = 3) (hp : pMk R A x) (hlen : s.2.length ≤ 401) (hroom : pKeep s.1 (x 1) (x 4) (x 2) → pEnough A s.1 (x 1) → s.2.length + R * A ≤ 401) (hkeep : pKeep s.1 (x 1) (x 4) (x 2)) : ∀ (k j : Nat), j ≤ R → R - j < k → ∀ σ, cRel R A (pLat (pu (pu s.1 9 (x 1) 0 (pMax (s.1 9 (x 1) 0) (x 4)), s.2).1 11 (x 1) (x 2) 1, s.2).1 (x 1) j (fun m => x (6 + m)), s.2) σ → gEx (cG R A) mX6_takeTold 0 66 [some (.inr 0), some (.inl (nI i)), some (.inr (40 + x 1)), some (.inl (nI (x 4))), some (.inl (nI (x 2))), some (.inl (bI (pEnough A s.1 (x 1)))), some (.inl (nI j))] [] σ (gV (fun τ => cRel R A (pTk R A x s) τ)) := by
  intro k
  induction k with
  | zero => intro j hi1 hi2; exact absurd hi2 (by omega)
  | succ k ih =>
    intro j hi1 hi2 σ hc
    obtain ⟨hR1, hR6, hA35⟩ := hRA
    have hA5 : A ≤ 5 := by omega
    have hi := (List.getElem?_eq_some_iff.mp hx).1
    have hbd := pBu_bd (R := R) (A := A) hb
    obtain ⟨hx4, -, -, -, hxa, -⟩ := hp
    obtain ⟨hx1, hx2, hx41, hxt⟩ := hxa hk
    have hb9 := hbd.2.2.2.2.2.2.2.1 (x 1)
    have hb20 : ∀ m, s.1 20 (x 1) m ≤ 6150 := fun m => hb 20 (x 1) m (by decide) (by decide)
    have hb11 := hbd.2.2.2.2.2.2.2.2.2.1 (x 1)
    have hxj := hxt j
    have hb20j := hb20 j
    refine g_iload dX6_takeTold_66 rfl ?_
    refine g_aload_n dX6_takeTold_68 rfl ?_
    refine g_getr (T := TX6) (N := 7) (Cn := RX6) (ref := "CommitCouncil") 0 dX6_takeTold_69 (cIn_lo (by decide)) cSh_0 rfl (fun w h => List.mem_cons_of_mem _ (hU6 w h)) (by decide) (List.mem_cons_of_mem _ uw_1_158) (Or.inl rfl) rfl ?_
    refine g_alen (nI (R)) dX6_takeTold_72 (cIn_lo (by decide)) cSh_1 (by decide) rfl ?_
    refine g_icmp_ge 109 dX6_takeTold_73 (by decide) (fun h73 => ?_) (fun h73 => ?_)
    · skip
      rw [nI_leI (by omega) (by omega)] at h73
      refine g_iload dX6_takeTold_109 rfl ?_
      refine g_if_eq 119 dX6_takeTold_111 (by decide) (fun h111 => ?_) (fun h111 => ?_)
      · skip
        rw [bI_z] at h111
        refine g_vret dX6_takeTold_119 rfl ?_
        have e : j = R := by omega
        subst e
        refine ⟨rfl, ?_⟩
        first
          | (rw [pTk_no ((take3 hk).trans (by rw [if_pos hkeep, if_neg h111]))]; exact cRel_gho hc (fun c h16 h17 h12 => latTel h12))
          | (rw [pTk_all ((take3 hk).trans (by rw [if_pos hkeep, if_pos (Decidable.not_not.mp h111)]))]; exact gho_all hc2 (show s.1 7 (x 1) 0 = x 4 from hkeep.2.1.symm) (by funext m; exact (congrFun (congrFun (latTel (α := (pu (pu s.1 9 (x 1) 0 (pMax (s.1 9 (x 1) 0) (x 4)), s.2).1 11 (x 1) (x 2) 1, s.2).1) (l := x 1) (a := x 2) (t := (fun m => x (6 + m))) (show 20 ≠ 12 by decide)) (x 1)) m).symm) (fun c h16 h17 h12 => gho3 (α := (pu (pu s.1 9 (x 1) 0 (pMax (s.1 9 (x 1) 0) (x 4)), s.2).1 11 (x 1) (x 2) 1, s.2).1) h16 h12))
      · skip
        rw [bI_z] at h111
        refine g_aload_n dX6_takeTold_114 rfl ?_
        refine g_aload_n dX6_takeTold_115 rfl ?_
        have hcR : cRel R A (pLat (pu (pu s.1 9 (x 1) 0 (pMax (s.1 9 (x 1) 0) (x 4)), s.2).1 11 (x 1) (x 2) 1, s.2).1 (x 1) R (fun m => x (6 + m)), s.2) _ := (show j = R by omega) ▸ hc
        refine g_callVv (n9 := 1) [.inr (40 + (x 1))] [] (c_sVote (s := (pLat (pu (pu s.1 9 (x 1) 0 (pMax (s.1 9 (x 1) 0) (x 4)), s.2).1 11 (x 1) (x 2) 1, s.2).1 (x 1) R (fun m => x (6 + m)), s.2)) ⟨hR1, hR6, hA35⟩ hcR (pBu_lat (pBu_pu (pBu_pu hb (Or.inr (pMax_le hb9 hx4))) (Or.inr (by decide))) hxt) hx1 (hroom hkeep (Decidable.not_not.mp h111))) dX6_takeTold_116 (gU_V uw_2_233 uw_2_235 us_1_0 uw_1_1 uw_2_236) rfl (by decide +kernel) rfl ⟨by decide, by decide⟩ (cIn_lo (by decide)) cSh_0 rfl rfl (Nat.le_of_ble_eq_true rfl) (fun τ2 hc2 => ?_)
        refine g_vret dX6_takeTold_119 rfl ?_
        have e : j = R := by omega
        subst e
        refine ⟨rfl, ?_⟩
        first
          | (rw [pTk_no ((take3 hk).trans (by rw [if_pos hkeep, if_neg h111]))]; exact cRel_gho hc (fun c h16 h17 h12 => latTel h12))
          | (rw [pTk_all ((take3 hk).trans (by rw [if_pos hkeep, if_pos (Decidable.not_not.mp h111)]))]; exact gho_all hc2 (show s.1 7 (x 1) 0 = x 4 from hkeep.2.1.symm) (by funext m; exact (congrFun (congrFun (latTel (α := (pu (pu s.1 9 (x 1) 0 (pMax (s.1 9 (x 1) 0) (x 4)), s.2).1 11 (x 1) (x 2) 1, s.2).1) (l := x 1) (a := x 2) (t := (fun m => x (6 + m))) (show 20 ≠ 12 by decide)) (x 1)) m).symm) (fun c h16 h17 h12 => gho3 (α := (pu (pu s.1 9 (x 1) 0 (pMax (s.1 9 (x 1) 0) (x 4)), s.2).1 11 (x 1) (x 2) 1, s.2).1) h16 h12))
    · skip
      rw [nI_leI (by omega) (by omega)] at h73
      refine g_aload_n dX6_takeTold_76 rfl ?_
      refine g_getr (T := TX1) (N := 10) (Cn := RX1) (ref := "CommitCouncil$Leader") 6 dX6_takeTold_77 (cIn_l hx1) (cSh_l hx1) rfl (fun w h => List.mem_cons_of_mem _ (hU1 w h)) (by decide) (List.mem_cons_of_mem _ uw_1_90) (Or.inl rfl) rfl ?_
      refine g_iload dX6_takeTold_80 rfl ?_
      refine g_aload_n dX6_takeTold_82 rfl ?_
      refine g_getr (T := TX1) (N := 10) (Cn := RX1) (ref := "CommitCouncil$Leader") 6 dX6_takeTold_83 (cIn_l hx1) (cSh_l hx1) rfl (fun w h => List.mem_cons_of_mem _ (hU1 w h)) (by decide) (List.mem_cons_of_mem _ uw_1_90) (Or.inl rfl) rfl ?_
      refine g_iload dX6_takeTold_86 rfl ?_
      refine g_ialdN (n := R) (j := j) dX6_takeTold_88 (cIn_t hx1) (cSh_t hx1) (by omega) (by omega) ?_
      refine gEx.top (v := .inl (nI (s.1 20 (x 1) j))) (congrArg Sum.inl (((hc.2.2.2.2.2 (x 1) hx1).2.2.2.2.2.2.2.1 j (by omega)).trans (congrArg nI (pLat_at (α := (pu (pu s.1 9 (x 1) 0 (pMax (s.1 9 (x 1) 0) (x 4)), s.2).1 11 (x 1) (x 2) 1, s.2).1) (l := x 1) (t := (fun m => x (6 + m))) (Nat.le_refl j))))) ?_
      refine g_aload_n dX6_takeTold_89 rfl ?_
      refine g_getr (T := TX6) (N := 7) (Cn := RX6) (ref := "CommitCouncil") 3 dX6_takeTold_90 (cIn_lo (by decide)) cSh_0 rfl (fun w h => List.mem_cons_of_mem _ (hU6 w h)) (by decide) (List.mem_cons_of_mem _ uw_1_161) (Or.inl rfl) rfl ?_
      refine g_iload_n dX6_takeTold_93 rfl ?_
      refine g_iload dX6_takeTold_94 rfl ?_
      refine g_callVi (_) (n9 := 2) [.inl (nI (i)), .inl (nI (j))] [.inl (nI (s.1 20 (x 1) j)), .inl (nI (j)), .inr (50 + (x 1))] (c_tidings hc.2.1.1 hc.2.1.2.2.1 hR6 hi hlen (by omega)) dX6_takeTold_96 (gU_V uw_2_229 uw_2_230 uw_2_231 uw_1_6 uw_2_232) rfl (by decide +kernel) rfl ⟨by decide, by decide⟩ (cIn_lo (by decide)) cSh_4 rfl rfl (Nat.le_of_ble_eq_true rfl) (fun τ1 hq1 => ?_)
      subst hq1
      refine gEx.top (v := .inl (nI (x (6 + j)))) (congrArg Sum.inl ((hc.2.1.2.2.2 i x hx).2 hk j (by omega))) ?_
      refine g_max dX6_takeTold_99 (List.mem_cons_of_mem _ uw_2_199) (List.mem_cons_of_mem _ uw_2_200) (List.mem_cons_of_mem _ uw_1_15) (List.mem_cons_of_mem _ uw_2_201) ⟨by decide, Nat.le_of_ble_eq_true rfl⟩ ?_
      refine gEx.top (v := .inl (nI (pMax (s.1 20 (x 1) j) (x (6 + j))))) (congrArg Sum.inl (max_nI (by omega) (by omega))) ?_
      refine g_iastN (n := R) (j := j) dX6_takeTold_102 (cIn_t hx1) (cSh_t hx1) (by omega) (by omega) ?_
      refine g_iinc (nI (j + 1)) dX6_takeTold_103 rfl (show nI (j) + nI 1 = _ from nI_add _ _) (by decide) ?_
      refine g_goto 66 dX6_takeTold_106 (by decide) ?_
      exact ih (j + 1) (by omega) (by omega) _ (by rw [← pLat_s]; exact cRel_wlt (s := (pLat (pu (pu s.1 9 (x 1) 0 (pMax (s.1 9 (x 1) 0) (x 4)), s.2).1 11 (x 1) (x 2) 1, s.2).1 (x 1) j (fun m => x (6 + m)), s.2)) hc hR6 hA5 hx1 _)

set_option maxRecDepth 100000 in
/-- a TOLD comes -/
theorem c_tTold {R A : Nat} (hRA : pRA R A) {s : pT} {σ : gSt} (hc : cRel R A s σ) (hb : pBu s.1) {i : Nat} {x : pMsg} (hx : s.2[i]? = some x) (hk : x 0 = 3) (hp : pMk R A x) (hlen : s.2.length ≤ 401) (hroom : pKeep s.1 (x 1) (x 4) (x 2) → pEnough A s.1 (x 1) → s.2.length + R * A ≤ 401) (hx1 : x 1 < 3) : gEM (cG R A) mX6_takeTold 0 [.inr (0), .inl (nI (i)), .inr (40 + (x 1))] σ (gV (fun τ => cRel R A (pTk R A x s) τ)) := by
  obtain ⟨hR1, hR6, hA35⟩ := hRA
  have hA5 : A ≤ 5 := by omega
  have hi := (List.getElem?_eq_some_iff.mp hx).1
  have hbd := pBu_bd (R := R) (A := A) hb
  obtain ⟨hx4, -, -, -, hxa, -⟩ := id hp
  obtain ⟨-, hx2, hx41, hxt⟩ := hxa hk
  have hb9 := hbd.2.2.2.2.2.2.2.1 (x 1)
  have hb11 := hbd.2.2.2.2.2.2.2.2.2.1 (x 1)
  have hbd1 : pBd R A (pu s.1 9 (x 1) 0 (pMax (s.1 9 (x 1) 0) (x 4))) := pBu_bd (pBu_pu hb (Or.inr (pMax_le hb9 hx4)))
  refine gEM_of (by decide +kernel) rfl (Nat.le_of_ble_eq_true rfl) ?_
  refine g_aload_n dX6_takeTold_0 rfl ?_
  refine g_getr (T := TX6) (N := 7) (Cn := RX6) (ref := "CommitCouncil") 3 dX6_takeTold_1 (cIn_lo (by decide)) cSh_0 rfl (fun w h => List.mem_cons_of_mem _ (hU6 w h)) (by decide) (List.mem_cons_of_mem _ uw_1_161) (Or.inl rfl) rfl ?_
  refine g_iload_n dX6_takeTold_4 rfl ?_
  refine g_iconst (nI (4)) dX6_takeTold_5 (by decide) ?_
  refine g_callVi (_) (n9 := 2) [.inl (nI (i)), .inl (nI (4))] [] (c_part hc.2.1.1 hc.2.1.2.2.1 hR6 (show i < s.2.length from hi) (by first | exact hlen | omega) (by decide)) dX6_takeTold_6 (gU_V uw_2_130 uw_2_131 uw_2_132 uw_1_6 uw_2_133) rfl (by decide +kernel) rfl ⟨by decide, by decide⟩ (cIn_lo (by decide)) cSh_4 rfl rfl (Nat.le_of_ble_eq_true rfl) (fun τ1 hq1 => ?_)
  subst hq1
  refine gEx.top (v := .inl (nI (x 4))) (congrArg Sum.inl (((hc.2.1.2.2.2 i x hx).1 4 (by decide)).trans (ptN (by rw [hk]; rfl)))) ?_
  refine g_istore_n dX6_takeTold_9 (by decide) ?_
  refine g_aload_n dX6_takeTold_10 rfl ?_
  refine g_getr (T := TX6) (N := 7) (Cn := RX6) (ref := "CommitCouncil") 3 dX6_takeTold_11 (cIn_lo (by decide)) cSh_0 rfl (fun w h => List.mem_cons_of_mem _ (hU6 w h)) (by decide) (List.mem_cons_of_mem _ uw_1_161) (Or.inl rfl) rfl ?_
  refine g_iload_n dX6_takeTold_14 rfl ?_
  refine g_iconst (nI (2)) dX6_takeTold_15 (by decide) ?_
  refine g_callVi (_) (n9 := 2) [.inl (nI (i)), .inl (nI (2))] [] (c_part hc.2.1.1 hc.2.1.2.2.1 hR6 (show i < s.2.length from hi) (by first | exact hlen | omega) (by decide)) dX6_takeTold_16 (gU_V uw_2_130 uw_2_131 uw_2_132 uw_1_6 uw_2_133) rfl (by decide +kernel) rfl ⟨by decide, by decide⟩ (cIn_lo (by decide)) cSh_4 rfl rfl (Nat.le_of_ble_eq_true rfl) (fun τ1 hq1 => ?_)
  subst hq1
  refine gEx.top (v := .inl (nI (x 2))) (congrArg Sum.inl (((hc.2.1.2.2.2 i x hx).1 2 (by decide)).trans (ptN (by rw [hk]; rfl)))) ?_
  refine g_istore dX6_takeTold_19 (by decide) ?_
  refine g_aload_n dX6_takeTold_21 rfl ?_
  refine g_aload_n dX6_takeTold_22 rfl ?_
  refine g_get (T := TX1) (N := 10) (Cn := RX1) (ref := "CommitCouncil$Leader") 3 dX6_takeTold_23 (cIn_l hx1) (cSh_l hx1) rfl (fun w h => List.mem_cons_of_mem _ (hU1 w h)) (by decide) (List.mem_cons_of_mem _ uw_1_84) (Or.inl rfl) rfl ?_
  refine gEx.top (v := .inl (nI (s.1 9 (x 1) 0))) (congrArg Sum.inl ((hc.2.2.2.2.2 (x 1) hx1).2.2.2.1)) ?_
  refine g_iload_n dX6_takeTold_26 rfl ?_
  refine g_max dX6_takeTold_27 (List.mem_cons_of_mem _ uw_2_199) (List.mem_cons_of_mem _ uw_2_200) (List.mem_cons_of_mem _ uw_1_15) (List.mem_cons_of_mem _ uw_2_201) ⟨by decide, Nat.le_of_ble_eq_true rfl⟩ ?_
  refine gEx.top (v := .inl (nI (pMax (s.1 9 (x 1) 0) (x 4)))) (congrArg Sum.inl (max_nI (by omega) (by omega))) ?_
  refine g_put (T := TX1) (N := 10) (Cn := RX1) (ref := "CommitCouncil$Leader") (ty0 := tyX1) 3 dX6_takeTold_30 (cIn_l hx1) (cSh_l hx1) rfl (fun w h => List.mem_cons_of_mem _ (hU1 w h)) tyX1_ok nmX1 (by decide) (List.mem_cons_of_mem _ uw_1_84) (Or.inl rfl) rfl rfl rfl rfl ?_
  have hc1 : cRel R A (pu s.1 9 (x 1) 0 (pMax (s.1 9 (x 1) 0) (x 4)), s.2) _ := cRel_wl3 hc hR6 hA5 hx1 (pMax (s.1 9 (x 1) 0) (x 4))
  refine g_aload_n dX6_takeTold_33 rfl ?_
  refine g_iload_n dX6_takeTold_34 rfl ?_
  refine g_iload dX6_takeTold_35 rfl ?_
  refine g_callVi (bI (pKeep s.1 (x 1) (x 4) (x 2))) (n9 := 2) [.inl (nI (x 4)), .inl (nI (x 2))] [] (c_keeps (s := (pu s.1 9 (x 1) 0 (pMax (s.1 9 (x 1) 0) (x 4)), s.2)) ⟨hR1, hR6, hA35⟩ hc1 hbd1 hx1 hx4 hx2) dX6_takeTold_37 (gU_V uw_2_163 uw_2_164 uw_2_165 uw_1_5 uw_2_166) rfl (by decide +kernel) rfl ⟨by decide, by decide⟩ (cIn_l hx1) (cSh_l hx1) rfl rfl (Nat.le_of_ble_eq_true rfl) (fun τ2 hq2 => ?_)
  subst hq2
  refine g_if_ne 44 dX6_takeTold_40 (by decide) (fun h40 => ?_) (fun h40 => ?_)
  · skip
    rw [bI_z] at h40
    refine g_aload_n dX6_takeTold_44 rfl ?_
    refine g_callVi (bI (pEnough A s.1 (x 1))) (n9 := 0) [] [] (c_enough (s := (pu s.1 9 (x 1) 0 (pMax (s.1 9 (x 1) 0) (x 4)), s.2)) ⟨hR1, hR6, hA35⟩ hc1 hbd1 hx1) dX6_takeTold_45 (gU_V uw_2_167 uw_2_168 uw_2_169 uw_1_5 uw_2_170) rfl (by decide +kernel) rfl ⟨by decide, by decide⟩ (cIn_l hx1) (cSh_l hx1) rfl rfl (Nat.le_of_ble_eq_true rfl) (fun τ3 hq3 => ?_)
    subst hq3
    refine g_istore dX6_takeTold_48 (by decide) ?_
    refine g_aload_n dX6_takeTold_50 rfl ?_
    refine g_dup dX6_takeTold_51 ?_
    refine g_get (T := TX1) (N := 10) (Cn := RX1) (ref := "CommitCouncil$Leader") 5 dX6_takeTold_52 (cIn_l hx1) (cSh_l hx1) rfl (fun w h => List.mem_cons_of_mem _ (hU1 w h)) (by decide) (List.mem_cons_of_mem _ uw_1_88) (Or.inl rfl) rfl ?_
    refine gEx.top (v := .inl (nI (msk (s.1 11 (x 1))))) (congrArg Sum.inl ((hc1.2.2.2.2.2 (x 1) hx1).2.2.2.2.2.1)) ?_
    refine g_iconst (nI (1)) dX6_takeTold_55 (by decide) ?_
    refine g_iload dX6_takeTold_56 rfl ?_
    refine g_ishl dX6_takeTold_58 ?_
    refine g_ior dX6_takeTold_59 ?_
    refine gEx.top (v := .inl (nI (msk (pu (pu s.1 9 (x 1) 0 (pMax (s.1 9 (x 1) 0) (x 4)), s.2).1 11 (x 1) (x 2) 1 11 (x 1))))) (congrArg Sum.inl (msk_or hb11 (by omega) (fun c _ => by unfold pu; by_cases q : c = x 2 <;> simp [q]))) ?_
    refine g_put (T := TX1) (N := 10) (Cn := RX1) (ref := "CommitCouncil$Leader") (ty0 := tyX1) 5 dX6_takeTold_60 (cIn_l hx1) (cSh_l hx1) rfl (fun w h => List.mem_cons_of_mem _ (hU1 w h)) tyX1_ok nmX1 (by decide) (List.mem_cons_of_mem _ uw_1_88) (Or.inl rfl) rfl rfl rfl rfl ?_
    refine g_iconst (nI (0)) dX6_takeTold_63 (by decide) ?_
    refine g_istore dX6_takeTold_64 (by decide) ?_
    exact c_tTold_l ⟨hR1, hR6, hA35⟩ hb hx hk hp hlen hroom (Decidable.not_not.mp h40) (R + 1) 0 (by omega) (by omega) _ (by rw [pLat_0]; exact cRel_wl5 (s := (pu s.1 9 (x 1) 0 (pMax (s.1 9 (x 1) 0) (x 4)), s.2)) hc1 hR6 hA5 hx1 1)
  · skip
    rw [bI_z] at h40
    exact g_vret dX6_takeTold_43 rfl (⟨rfl, by rw [pTk_no ((take3 hk).trans (if_neg (fun q => h40 (fun z => z q))))]; exact hc1⟩)
