theorem pOut_le {R A : Nat} {α : pS} (hb : pBd R A α) {l m a b w : Nat} (hw : w = 1 ∨ w = 2) : pOut A α l m a b w ≤ 2 := by
  have h13 := hb.2.2.2.2.2.2.2.2.2.2.2.1 l m
  unfold pOut
  split
  · exact h13
  · split <;> omega
theorem pDec_old {R A : Nat} {α : pS} {l m a b w : Nat} (h : α 10 l 0 ≠ 0) : pDec R A α l m a b w = α 10 l 0 := by
  unfold pDec
  rw [if_pos h]
theorem pDec_new {R A : Nat} {α : pS} {l m a b w : Nat} (h : α 10 l 0 = 0) : pDec R A α l m a b w = if pOut A α l m a b w = 1 then (if ∀ c, c < R → c ≠ m → α 13 l c = 1 then 1 else 0) else if pOut A α l m a b w = 2 then 2 else 0 := by
  unfold pDec
  rw [if_neg (fun q => q h)]
theorem pDec_le {R A : Nat} {α : pS} (hb : pBd R A α) {l m a b w : Nat} (hw : w = 1 ∨ w = 2) : pDec R A α l m a b w ≤ 2 := by
  have h10 := hb.2.2.2.2.2.2.2.2.1 l
  unfold pDec
  split
  · exact h10
  · split
    · split <;> omega
    · split <;> omega

/-- the decision once v is the manager's outcome -/
def pDw (R : Nat) (α : pS) (l m v : Nat) : Nat := if α 10 l 0 ≠ 0 then α 10 l 0 else if v = 1 then (if ∀ c, c < R → c ≠ m → α 13 l c = 1 then 1 else 0) else if v = 2 then 2 else 0
theorem pDw_pDec (R A : Nat) (α : pS) (l m a b w : Nat) : pDw R α l m (pOut A α l m a b w) = pDec R A α l m a b w := rfl
theorem pDw_old {R : Nat} {α : pS} {l m v : Nat} (h : α 10 l 0 ≠ 0) : pDw R α l m v = α 10 l 0 := by
  unfold pDw
  rw [if_pos h]
theorem pDw_new {R : Nat} {α : pS} {l m v : Nat} (h : α 10 l 0 = 0) : pDw R α l m v = if v = 1 then (if ∀ c, c < R → c ≠ m → α 13 l c = 1 then 1 else 0) else if v = 2 then 2 else 0 := by
  unfold pDw
  rw [if_neg (fun q => q h)]
theorem pDw_13 (R : Nat) (α : pS) (l m u v : Nat) : pDw R (pu α 13 l m u) l m v = pDw R α l m v := by
  have h : (∀ c, c < R → c ≠ m → pu α 13 l m u 13 l c = 1) ↔ (∀ c, c < R → c ≠ m → α 13 l c = 1) :=
    ⟨fun q c h1 h2 => (pu_j α h2).symm.trans (q c h1 h2), fun q c h1 h2 => (pu_j α h2).trans (q c h1 h2)⟩
  unfold pDw
  rw [pu_c _ (by decide)]
  simp only [h]
theorem pu_comm {α : pS} {c i j v c1 i1 j1 v1 : Nat} (h : c ≠ c1) : pu (pu α c i j v) c1 i1 j1 v1 = pu (pu α c1 i1 j1 v1) c i j v := by
  funext x y z
  unfold pu
  by_cases h1 : x = c ∧ y = i ∧ z = j
  · rw [if_neg (fun q => h (h1.1.symm.trans q.1)), if_pos h1, if_pos h1]
  · rw [if_neg h1, if_neg h1]

set_option maxRecDepth 100000 in
theorem c_decw_l {R A : Nat} (hRA : pRA R A) {s : pT} {σ : gSt} (hc : cRel R A s σ) {l : Nat} (hl : l < 3) (h10 : s.1 10 l 0 ≤ 2) (h13 : ∀ c, s.1 13 l c ≤ 2) {m v : Nat} (hm : m < R) (h0 : s.1 10 l 0 = 0) (h1 : v = 1) : ∀ (k i : Nat), i ≤ R → R - i < k → (∀ c, c < i → c ≠ m → s.1 13 l c = 1) → gEx (cG R A) mX1_decisionWith 0 30 [some (.inr (40 + l)), some (.inl (nI m)), some (.inl (nI v)), some (.inl (nI i))] [] σ (gR (nI (pDw R s.1 l m v)) (fun τ => τ = σ)) := by
  intro k
  induction k with
  | zero => intro i hi1 hi2; exact absurd hi2 (by omega)
  | succ k ih =>
    intro i hi1 hi2 hall
    obtain ⟨hR1, hR6, hA35⟩ := hRA
    have hA5 : A ≤ 5 := by omega
    have hb13i := h13 i
    refine g_iload_n dX1_decisionWith_30 rfl ?_
    refine g_aload_n dX1_decisionWith_31 rfl ?_
    refine g_getr (T := TX1) (N := 10) (Cn := RX1) (ref := "CommitCouncil$Leader") 7 dX1_decisionWith_32 (cIn_l hl) (cSh_l hl) rfl (fun w h => List.mem_cons_of_mem _ (hU1 w h)) (by decide) (List.mem_cons_of_mem _ uw_1_91) (Or.inl rfl) rfl ?_
    refine g_alen (nI (R)) dX1_decisionWith_35 (cIn_o hl) (cSh_o hl) (by decide) rfl ?_
    refine g_icmp_ge 62 dX1_decisionWith_36 (by decide) (fun h36 => ?_) (fun h36 => ?_)
    · skip
      rw [nI_leI (by omega) (by omega)] at h36
      refine g_iconst (nI (1)) dX1_decisionWith_62 (by decide) ?_
      exact g_iret dX1_decisionWith_63 rfl (⟨by rw [pDw_new h0, if_pos h1, if_pos (fun c q1 q2 => hall c (by omega) q2)], rfl⟩)
    · skip
      rw [nI_leI (by omega) (by omega)] at h36
      refine g_iload_n dX1_decisionWith_39 rfl ?_
      refine g_iload_n dX1_decisionWith_40 rfl ?_
      refine g_icmp_eq 56 dX1_decisionWith_41 (by decide) (fun h41 => ?_) (fun h41 => ?_)
      · skip
        rw [nI_eq (by omega) (by omega)] at h41
        refine g_iinc (nI (i + 1)) dX1_decisionWith_56 rfl (show nI (i) + nI 1 = _ from nI_add _ _) (by decide) ?_
        refine g_goto 30 dX1_decisionWith_59 (by decide) ?_
        exact ih (i + 1) (by omega) (by omega) (fun c hc1 hc2 => by
          rcases (show c < i ∨ c = i by omega) with q | q
          · exact hall c q hc2
          · subst q; omega)
      · skip
        rw [nI_eq (by omega) (by omega)] at h41
        refine g_aload_n dX1_decisionWith_44 rfl ?_
        refine g_getr (T := TX1) (N := 10) (Cn := RX1) (ref := "CommitCouncil$Leader") 7 dX1_decisionWith_45 (cIn_l hl) (cSh_l hl) rfl (fun w h => List.mem_cons_of_mem _ (hU1 w h)) (by decide) (List.mem_cons_of_mem _ uw_1_91) (Or.inl rfl) rfl ?_
        refine g_iload_n dX1_decisionWith_48 rfl ?_
        refine g_ialdN (n := R) (j := i) dX1_decisionWith_49 (cIn_o hl) (cSh_o hl) (by omega) (by omega) ?_
        refine gEx.top (v := .inl (nI (s.1 13 l (i)))) (congrArg Sum.inl ((hc.2.2.2.2.2 l hl).2.2.2.2.2.2.2.2.1 (i) (by omega))) ?_
        refine g_iconst (nI (1)) dX1_decisionWith_50 (by decide) ?_
        refine g_icmp_eq 56 dX1_decisionWith_51 (by decide) (fun h51 => ?_) (fun h51 => ?_)
        · skip
          rw [nI_eq (by omega) (by omega)] at h51
          refine g_iinc (nI (i + 1)) dX1_decisionWith_56 rfl (show nI (i) + nI 1 = _ from nI_add _ _) (by decide) ?_
          refine g_goto 30 dX1_decisionWith_59 (by decide) ?_
          exact ih (i + 1) (by omega) (by omega) (fun c hc1 hc2 => by
            rcases (show c < i ∨ c = i by omega) with q | q
            · exact hall c q hc2
            · subst q; omega)
        · skip
          rw [nI_eq (by omega) (by omega)] at h51
          refine g_iconst (nI (0)) dX1_decisionWith_54 (by decide) ?_
          exact g_iret dX1_decisionWith_55 rfl (⟨by rw [pDw_new h0, if_pos h1, if_neg (fun q => h51 (q i (by omega) h41))], rfl⟩)

set_option maxRecDepth 100000 in
/-- decisionWith -/
theorem c_decw {R A : Nat} (hRA : pRA R A) {s : pT} {σ : gSt} (hc : cRel R A s σ) {l : Nat} (hl : l < 3) (h10 : s.1 10 l 0 ≤ 2) (h13 : ∀ c, s.1 13 l c ≤ 2) {m v : Nat} (hm : m < R) (hv : v ≤ 2) : gEM (cG R A) mX1_decisionWith 0 [.inr (40 + l), .inl (nI (m)), .inl (nI (v))] σ (gR (nI (pDw R s.1 l m v)) (fun τ => τ = σ)) := by
  obtain ⟨hR1, hR6, hA35⟩ := hRA
  have hA5 : A ≤ 5 := by omega
  refine gEM_of (by decide +kernel) rfl (Nat.le_of_ble_eq_true rfl) ?_
  refine g_aload_n dX1_decisionWith_0 rfl ?_
  refine g_get (T := TX1) (N := 10) (Cn := RX1) (ref := "CommitCouncil$Leader") 4 dX1_decisionWith_1 (cIn_l hl) (cSh_l hl) rfl (fun w h => List.mem_cons_of_mem _ (hU1 w h)) (by decide) (List.mem_cons_of_mem _ uw_1_85) (Or.inl rfl) rfl ?_
  refine gEx.top (v := .inl (nI (s.1 10 l 0))) (congrArg Sum.inl ((hc.2.2.2.2.2 l hl).2.2.2.2.1)) ?_
  refine g_if_eq 12 dX1_decisionWith_4 (by decide) (fun h4 => ?_) (fun h4 => ?_)
  · skip
    rw [nI_z (by omega)] at h4
    refine g_iload_n dX1_decisionWith_12 rfl ?_
    refine g_iconst (nI (1)) dX1_decisionWith_13 (by decide) ?_
    refine g_icmp_eq 28 dX1_decisionWith_14 (by decide) (fun h14 => ?_) (fun h14 => ?_)
    · skip
      rw [nI_eq (by omega) (by omega)] at h14
      refine g_iconst (nI (0)) dX1_decisionWith_28 (by decide) ?_
      refine g_istore_n dX1_decisionWith_29 (by decide) ?_
      exact c_decw_l ⟨hR1, hR6, hA35⟩ hc hl h10 h13 hm (by omega) h14 (R + 1) 0 (by omega) (by omega) (fun c hc1 => absurd hc1 (by omega))
    · skip
      rw [nI_eq (by omega) (by omega)] at h14
      refine g_iload_n dX1_decisionWith_17 rfl ?_
      refine g_iconst (nI (2)) dX1_decisionWith_18 (by decide) ?_
      refine g_icmp_ne 26 dX1_decisionWith_19 (by decide) (fun h19 => ?_) (fun h19 => ?_)
      · skip
        rw [nI_eq (by omega) (by omega)] at h19
        refine g_iconst (nI (0)) dX1_decisionWith_26 (by decide) ?_
        exact g_iret dX1_decisionWith_27 rfl (⟨by rw [pDw_new (by omega), if_neg (by omega), if_neg (by omega)], rfl⟩)
      · skip
        rw [nI_eq (by omega) (by omega)] at h19
        refine g_iconst (nI (2)) dX1_decisionWith_22 (by decide) ?_
        refine g_goto 27 dX1_decisionWith_23 (by decide) ?_
        exact g_iret dX1_decisionWith_27 rfl (⟨by rw [pDw_new (by omega), if_neg (by omega), if_pos (by omega)], rfl⟩)
  · skip
    rw [nI_z (by omega)] at h4
    refine g_aload_n dX1_decisionWith_7 rfl ?_
    refine g_get (T := TX1) (N := 10) (Cn := RX1) (ref := "CommitCouncil$Leader") 4 dX1_decisionWith_8 (cIn_l hl) (cSh_l hl) rfl (fun w h => List.mem_cons_of_mem _ (hU1 w h)) (by decide) (List.mem_cons_of_mem _ uw_1_85) (Or.inl rfl) rfl ?_
    refine gEx.top (v := .inl (nI (s.1 10 l 0))) (congrArg Sum.inl ((hc.2.2.2.2.2 l hl).2.2.2.2.1)) ?_
    exact g_iret dX1_decisionWith_11 rfl (⟨by rw [pDw_old (by omega)], rfl⟩)

/-- the state behind see -/
def tSee (R A : Nat) (α : pS) (l m a b w : Nat) : pS := pu (pu (if pNew α l m a b then pu α 14 l (m * 5 + a) (4 * b + w) else α) 13 l m (pOut A α l m a b w)) 10 l 0 (pDec R A α l m a b w)
theorem tSee_new {R A : Nat} {α : pS} {l m a b w : Nat} (h : pNew α l m a b) : tSee R A α l m a b w = pu (pu (pu α 13 l m (pOut A α l m a b w)) 10 l 0 (pDec R A α l m a b w)) 14 l (m * 5 + a) (4 * b + w) := by
  unfold tSee
  rw [if_pos h, pu_comm (c := 14) (c1 := 13) (by decide), pu_comm (c := 14) (c1 := 10) (by decide)]
theorem tSee_old {R A : Nat} {α : pS} {l m a b w : Nat} (h : ¬ pNew α l m a b) : tSee R A α l m a b w = pu (pu α 13 l m (pOut A α l m a b w)) 10 l 0 (pDec R A α l m a b w) := by
  unfold tSee
  rw [if_neg h]

set_option maxRecDepth 100000 in
/-- see -/
theorem c_see {R A : Nat} (hRA : pRA R A) {s : pT} {σ : gSt} (hc : cRel R A s σ) (hb : pBd R A s.1) {l : Nat} (hl : l < 3) {m a b w : Nat} (hm : m < R) (ha : a < A) (hbb : b ≤ 1536) (hw : w = 1 ∨ w = 2) : gEM (cG R A) mX1_see 0 [.inr (40 + l), .inl (nI (m)), .inl (nI (a)), .inl (nI (4 * b + w))] σ (gV (fun τ => cRel R A (tSee R A s.1 l m a b w, s.2) τ)) := by
  obtain ⟨hR1, hR6, hA35⟩ := hRA
  have hA5 : A ≤ 5 := by omega
  have hb7 := hb.2.2.2.2.2.1 l
  have hb8 := hb.2.2.2.2.2.2.1 l
  have hb9 := hb.2.2.2.2.2.2.2.1 l
  have hb10 := hb.2.2.2.2.2.2.2.2.1 l
  have hb11 := hb.2.2.2.2.2.2.2.2.2.1 l
  have hb14 : ∀ j, s.1 14 l j < 2 ^ 31 := fun j => Nat.lt_of_le_of_lt (hb.2.2.2.2.2.2.2.2.2.2.2.2.1 l j) (by decide)
  have hb13 := hb.2.2.2.2.2.2.2.2.2.2.2.1 l
  have hma := malt hm ha
  have hra := raB hR6 hA5
  have hpo := pOut_le hb (l := l) (m := m) (a := a) (b := b) hw
  have h10p : pu s.1 13 l m (pOut A s.1 l m a b w) 10 l 0 ≤ 2 := by rw [pu_c _ (by decide)]; exact hb10
  have h13p : ∀ c, pu s.1 13 l m (pOut A s.1 l m a b w) 13 l c ≤ 2 := fun c => by unfold pu; split; exact hpo; exact hb13 c
  refine gEM_of (by decide +kernel) rfl (Nat.le_of_ble_eq_true rfl) ?_
  refine g_iload_n dX1_see_0 rfl ?_
  refine g_aload_n dX1_see_1 rfl ?_
  refine g_get (T := TX1) (N := 10) (Cn := RX1) (ref := "CommitCouncil$Leader") 8 dX1_see_2 (cIn_l hl) (cSh_l hl) rfl (fun w h => List.mem_cons_of_mem _ (hU1 w h)) (by decide) (List.mem_cons_of_mem _ uw_1_93) (Or.inl rfl) rfl ?_
  refine gEx.top (v := .inl (nI (A))) (congrArg Sum.inl ((hc.2.2.2.2.2 l hl).2.2.2.2.2.2.1)) ?_
  refine g_imul dX1_see_5 ?_
  refine gEx.top (v := .inl (nI ((m) * (A)))) (congrArg Sum.inl (pk_mul _ _)) ?_
  refine g_iload_n dX1_see_6 rfl ?_
  refine g_iadd dX1_see_7 ?_
  refine gEx.top (v := .inl (nI ((m) * (A) + a))) (congrArg Sum.inl (nI_add _ _)) ?_
  refine g_istore dX1_see_8 (by decide) ?_
  refine g_iload_n dX1_see_10 rfl ?_
  refine g_if_lt 38 dX1_see_11 (by decide) (fun h11 => ?_) (fun h11 => ?_)
  · skip
    rw [nI_n (by omega)] at h11
    exact h11.elim
  · skip
    rw [nI_n (by omega)] at h11
    refine g_iload_n dX1_see_14 rfl ?_
    refine g_aload_n dX1_see_15 rfl ?_
    refine g_getr (T := TX1) (N := 10) (Cn := RX1) (ref := "CommitCouncil$Leader") 7 dX1_see_16 (cIn_l hl) (cSh_l hl) rfl (fun w h => List.mem_cons_of_mem _ (hU1 w h)) (by decide) (List.mem_cons_of_mem _ uw_1_91) (Or.inl rfl) rfl ?_
    refine g_alen (nI (R)) dX1_see_19 (cIn_o hl) (cSh_o hl) (by decide) rfl ?_
    refine g_icmp_ge 38 dX1_see_20 (by decide) (fun h20 => ?_) (fun h20 => ?_)
    · skip
      rw [nI_leI (by omega) (by omega)] at h20
      exfalso; omega
    · skip
      rw [nI_leI (by omega) (by omega)] at h20
      refine g_iload dX1_see_23 rfl ?_
      refine g_if_lt 38 dX1_see_25 (by decide) (fun h25 => ?_) (fun h25 => ?_)
      · skip
        rw [nI_n (by omega)] at h25
        exact h25.elim
      · skip
        rw [nI_n (by omega)] at h25
        refine g_iload dX1_see_28 rfl ?_
        refine g_aload_n dX1_see_30 rfl ?_
        refine g_getr (T := TX1) (N := 10) (Cn := RX1) (ref := "CommitCouncil$Leader") 9 dX1_see_31 (cIn_l hl) (cSh_l hl) rfl (fun w h => List.mem_cons_of_mem _ (hU1 w h)) (by decide) (List.mem_cons_of_mem _ uw_1_94) (Or.inl rfl) rfl ?_
        refine g_alen (nI (R * A)) dX1_see_34 (cIn_s hl) (cSh_s hl) (by decide) rfl ?_
        refine g_icmp_lt 39 dX1_see_35 (by decide) (fun h35 => ?_) (fun h35 => ?_)
        · skip
          rw [nI_ltI (by omega) (by omega)] at h35
          refine g_aload_n dX1_see_39 rfl ?_
          refine g_getr (T := TX1) (N := 10) (Cn := RX1) (ref := "CommitCouncil$Leader") 7 dX1_see_40 (cIn_l hl) (cSh_l hl) rfl (fun w h => List.mem_cons_of_mem _ (hU1 w h)) (by decide) (List.mem_cons_of_mem _ uw_1_91) (Or.inl rfl) rfl ?_
          refine g_iload_n dX1_see_43 rfl ?_
          refine g_aload_n dX1_see_44 rfl ?_
          refine g_iload_n dX1_see_45 rfl ?_
          refine g_iload_n dX1_see_46 rfl ?_
          refine g_iload_n dX1_see_47 rfl ?_
          refine g_callVi (nI (pOut A s.1 l m a b w)) (n9 := 3) [.inl (nI (m)), .inl (nI (a)), .inl (nI (4 * b + w))] [.inl (nI (m)), .inr (60 + l)] (c_outc ⟨hR1, hR6, hA35⟩ hc hb hl hm ha hbb hw) dX1_see_48 (gU_V uw_2_206 uw_2_146 uw_2_147 uw_1_5 uw_2_148) rfl (by decide +kernel) rfl ⟨by decide, by decide⟩ (cIn_l hl) (cSh_l hl) rfl rfl (Nat.le_of_ble_eq_true rfl) (fun σ1 hp1 => ?_)
          subst hp1
          refine g_iastN (n := R) (j := m) dX1_see_51 (cIn_o hl) (cSh_o hl) (hm) (by omega) ?_
          have hc1 : cRel R A (pu s.1 13 l m (pOut A s.1 l m a b w), s.2) _ := cRel_wlo hc hR6 hA5 hl (pOut A s.1 l m a b w)
          refine g_aload_n dX1_see_52 rfl ?_
          refine g_aload_n dX1_see_53 rfl ?_
          refine g_iload_n dX1_see_54 rfl ?_
          refine g_aload_n dX1_see_55 rfl ?_
          refine g_getr (T := TX1) (N := 10) (Cn := RX1) (ref := "CommitCouncil$Leader") 7 dX1_see_56 (cIn_l hl) (cSh_l hl) rfl (fun w h => List.mem_cons_of_mem _ (hU1 w h)) (by decide) (List.mem_cons_of_mem _ uw_1_91) (Or.inl rfl) rfl ?_
          refine g_iload_n dX1_see_59 rfl ?_
          refine g_ialdN (n := R) (j := m) dX1_see_60 (cIn_o hl) (cSh_o hl) (hm) (by omega) ?_
          refine gEx.top (v := .inl (nI (pOut A s.1 l m a b w))) (congrArg Sum.inl (gup_at _ _ _ _)) ?_
          refine g_callVi (nI (pDw R (pu s.1 13 l m (pOut A s.1 l m a b w)) l m (pOut A s.1 l m a b w))) (n9 := 2) [.inl (nI (m)), .inl (nI (pOut A s.1 l m a b w))] [.inr (40 + l)] (c_decw (s := (pu s.1 13 l m (pOut A s.1 l m a b w), s.2)) ⟨hR1, hR6, hA35⟩ hc1 hl h10p h13p hm hpo) dX1_see_61 (gU_V uw_2_207 uw_2_160 uw_2_161 uw_1_5 uw_2_162) rfl (by decide +kernel) rfl ⟨by decide, by decide⟩ (cIn_l hl) (cSh_l hl) rfl rfl (Nat.le_of_ble_eq_true rfl) (fun σ1 hp1 => ?_)
          subst hp1
          refine gEx.top (v := .inl (nI (pDec R A s.1 l m a b w))) (congrArg Sum.inl (congrArg nI (pDw_13 _ _ _ _ _ _))) ?_
          refine g_put (T := TX1) (N := 10) (Cn := RX1) (ref := "CommitCouncil$Leader") (ty0 := tyX1) 4 dX1_see_64 (cIn_l hl) (cSh_l hl) rfl (fun w h => List.mem_cons_of_mem _ (hU1 w h)) tyX1_ok nmX1 (by decide) (List.mem_cons_of_mem _ uw_1_85) (Or.inl rfl) rfl rfl rfl rfl ?_
          have hc2 : cRel R A (pu (pu s.1 13 l m (pOut A s.1 l m a b w)) 10 l 0 (pDec R A s.1 l m a b w), s.2) _ := cRel_wl4 (s := (pu s.1 13 l m (pOut A s.1 l m a b w), s.2)) hc1 hR6 hA5 hl (pDec R A s.1 l m a b w)
          refine g_iload_n dX1_see_67 rfl ?_
          refine g_callNi (pB (4 * b + w)) (host := RX6) (n9 := 1) [.inl (nI (4 * b + w))] [] (c_ballotOf (by omega)) dX1_see_68 (gU_N uw_2_151) rfl (by decide +kernel) (List.mem_cons_of_mem _ uw_1_1) (List.mem_cons_of_mem _ uw_2_150) (by decide +kernel) rfl ⟨by decide, by decide⟩ rfl (Nat.le_of_ble_eq_true rfl) (fun σ1 hp1 => ?_)
          subst hp1
          refine gEx.top (v := .inl (nI (b))) (congrArg Sum.inl (pB_v (by omega) (by omega))) ?_
          refine g_aload_n dX1_see_71 rfl ?_
          refine g_getr (T := TX1) (N := 10) (Cn := RX1) (ref := "CommitCouncil$Leader") 9 dX1_see_72 (cIn_l hl) (cSh_l hl) rfl (fun w h => List.mem_cons_of_mem _ (hU1 w h)) (by decide) (List.mem_cons_of_mem _ uw_1_94) (Or.inl rfl) rfl ?_
          refine g_iload dX1_see_75 rfl ?_
          refine g_ialdN (n := R * A) (j := (m) * (A) + a) dX1_see_77 (cIn_s hl) (cSh_s hl) (hma) (by omega) ?_
          refine gEx.top (v := .inl (nI (s.1 14 l (m * 5 + a)))) (congrArg Sum.inl (((hc2.2.2.2.2.2 l hl).2.2.2.2.2.2.2.2.2 m a hm ha).trans (congrArg nI (show pu (pu s.1 13 l m (pOut A s.1 l m a b w)) 10 l 0 (pDec R A s.1 l m a b w) 14 l (m * 5 + a) = s.1 14 l (m * 5 + a) by rw [pu_c _ (by decide), pu_c _ (by decide)])))) ?_
          refine g_callNi (pB (s.1 14 l (m * 5 + a))) (host := RX6) (n9 := 1) [.inl (nI (s.1 14 l (m * 5 + a)))] [.inl (nI (b))] (c_ballotOf (hb14 _)) dX1_see_78 (gU_N uw_2_151) rfl (by decide +kernel) (List.mem_cons_of_mem _ uw_1_1) (List.mem_cons_of_mem _ uw_2_150) (by decide +kernel) rfl ⟨by decide, by decide⟩ rfl (Nat.le_of_ble_eq_true rfl) (fun σ1 hp1 => ?_)
          subst hp1
          refine g_icmp_le 92 dX1_see_81 (by decide) (fun h81 => ?_) (fun h81 => ?_)
          · skip
            rw [← Int32.not_lt, pB_lt (hb14 _) (by omega)] at h81; try rw [Decidable.not_not] at h81
            refine g_vret dX1_see_92 rfl ?_
            refine ⟨rfl, ?_⟩
            show cRel R A (tSee R A s.1 l m a b w, s.2) _
            first | (rw [tSee_new h81]; exact cRel_wls (s := (pu (pu s.1 13 l m (pOut A s.1 l m a b w)) 10 l 0 (pDec R A s.1 l m a b w), s.2)) hc2 hR6 hA5 hl ha _) | (rw [tSee_old h81]; exact hc2)
          · skip
            rw [← Int32.not_lt, pB_lt (hb14 _) (by omega)] at h81; try rw [Decidable.not_not] at h81
            refine g_aload_n dX1_see_84 rfl ?_
            refine g_getr (T := TX1) (N := 10) (Cn := RX1) (ref := "CommitCouncil$Leader") 9 dX1_see_85 (cIn_l hl) (cSh_l hl) rfl (fun w h => List.mem_cons_of_mem _ (hU1 w h)) (by decide) (List.mem_cons_of_mem _ uw_1_94) (Or.inl rfl) rfl ?_
            refine g_iload dX1_see_88 rfl ?_
            refine g_iload_n dX1_see_90 rfl ?_
            refine g_iastN (n := R * A) (j := (m) * (A) + a) dX1_see_91 (cIn_s hl) (cSh_s hl) (hma) (by omega) ?_
            refine g_vret dX1_see_92 rfl ?_
            refine ⟨rfl, ?_⟩
            show cRel R A (tSee R A s.1 l m a b w, s.2) _
            first | (rw [tSee_new h81]; exact cRel_wls (s := (pu (pu s.1 13 l m (pOut A s.1 l m a b w)) 10 l 0 (pDec R A s.1 l m a b w), s.2)) hc2 hR6 hA5 hl ha _) | (rw [tSee_old h81]; exact hc2)
        · skip
          rw [nI_ltI (by omega) (by omega)] at h35
          exfalso; omega

set_option maxRecDepth 100000 in
/-- accept -/
theorem c_accept {R A : Nat} (hRA : pRA R A) {s : pT} {σ : gSt} (hc : cRel R A s σ) {a m b w : Nat} (ha : a < A) (hm : m < R) (hbb : b ≤ 1536) (hw : w = 1 ∨ w = 2) : gEM (cG R A) mX0_accept 0 [.inr (20 + a), .inl (nI (m)), .inl (nI (b)), .inl (nI (w))] σ (gV (fun τ => cRel R A (pu (pu s.1 5 a 0 b) 6 a m (4 * b + w), s.2) τ)) := by
  obtain ⟨hR1, hR6, hA35⟩ := hRA
  have hA5 : A ≤ 5 := by omega
  refine gEM_of (by decide +kernel) rfl (Nat.le_of_ble_eq_true rfl) ?_
  refine g_aload_n dX0_accept_0 rfl ?_
  refine g_iload_n dX0_accept_1 rfl ?_
  refine g_put (T := TX0) (N := 3) (Cn := RX0) (ref := "CommitCouncil$Acceptor") (ty0 := tyX0) 1 dX0_accept_2 (cIn_a ha) (cSh_a (by omega)) rfl (fun w h => List.mem_cons_of_mem _ (hU0 w h)) tyX0_ok nmX0 (by decide) (List.mem_cons_of_mem _ uw_1_61) (Or.inl rfl) rfl rfl rfl rfl ?_
  refine g_iload_n dX0_accept_5 rfl ?_
  refine g_if_lt 29 dX0_accept_6 (by decide) (fun h6 => ?_) (fun h6 => ?_)
  · skip
    rw [nI_n (by omega)] at h6
    exact h6.elim
  · skip
    rw [nI_n (by omega)] at h6
    refine g_iload_n dX0_accept_9 rfl ?_
    refine g_aload_n dX0_accept_10 rfl ?_
    refine g_getr (T := TX0) (N := 3) (Cn := RX0) (ref := "CommitCouncil$Acceptor") 2 dX0_accept_11 (cIn_a ha) (cSh_a (by omega)) rfl (fun w h => List.mem_cons_of_mem _ (hU0 w h)) (by decide) (List.mem_cons_of_mem _ uw_1_63) (Or.inl rfl) rfl ?_
    refine g_alen (nI (R)) dX0_accept_14 (cIn_b ha) (cSh_b (by omega)) (by decide) rfl ?_
    refine g_icmp_ge 29 dX0_accept_15 (by decide) (fun h15 => ?_) (fun h15 => ?_)
    · skip
      rw [nI_leI (by omega) (by omega)] at h15
      exfalso; omega
    · skip
      rw [nI_leI (by omega) (by omega)] at h15
      refine g_aload_n dX0_accept_18 rfl ?_
      refine g_getr (T := TX0) (N := 3) (Cn := RX0) (ref := "CommitCouncil$Acceptor") 2 dX0_accept_19 (cIn_a ha) (cSh_a (by omega)) rfl (fun w h => List.mem_cons_of_mem _ (hU0 w h)) (by decide) (List.mem_cons_of_mem _ uw_1_63) (Or.inl rfl) rfl ?_
      refine g_iload_n dX0_accept_22 rfl ?_
      refine g_iload_n dX0_accept_23 rfl ?_
      refine g_iload_n dX0_accept_24 rfl ?_
      refine g_callNi (nI (4 * b + w)) (host := RX6) (n9 := 2) [.inl (nI (b)), .inl (nI (w))] [.inl (nI (m)), .inr (30 + a)] (c_voteOf (by omega) (by omega)) dX0_accept_25 (gU_N uw_2_144) rfl (by decide +kernel) (List.mem_cons_of_mem _ uw_1_1) (List.mem_cons_of_mem _ uw_2_143) (by decide +kernel) rfl ⟨by decide, by decide⟩ rfl (Nat.le_of_ble_eq_true rfl) (fun σ1 hp1 => ?_)
      subst hp1
      refine g_iastN (n := R) (j := m) dX0_accept_28 (cIn_b ha) (cSh_b (by omega)) (hm) (by omega) ?_
      exact g_vret dX0_accept_29 rfl (⟨rfl, cRel_wa (s := (_, s.2)) (cRel_wp hc hR6 hA5 ha b) hR6 hA5 ha _⟩)
