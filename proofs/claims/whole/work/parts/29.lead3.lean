theorem pClr_c (α : pS) {c l x : Nat} (h : x ≠ c) : pClr α c l x = α x := by
  funext y z
  unfold pClr
  rw [if_neg (fun q => h q.1)]
theorem pClr_i (α : pS) {c l x y : Nat} (h : y ≠ l) : pClr α c l x y = α x y := by
  funext z
  unfold pClr
  rw [if_neg (fun q => h q.2)]
theorem pClr_at (α : pS) (c l z : Nat) : pClr α c l c l z = 0 := if_pos ⟨rfl, rfl⟩

theorem cRel_z5 {R A : Nat} {s : pT} {σ : gSt} (h : cRel R A s σ) (hR : R ≤ 6) (hA : A ≤ 5) {l : Nat} (hl : l < 3) : cRel R A (pClr s.1 11 l, s.2) (gup σ (40 + l) 5 (nI 0)) := by
  refine cRel_D h hR hA (fun a ha => gup_ne _ _ (by omega)) (fun k hk => ?_) (fun c h2 h7 h8 h9 h10 h11 h12 h13 h14 h16 h20 => pClr_c _ (by assumption)) (congrFun (pClr_c _ (by decide)) 0) (congrFun (pClr_c _ (by decide)) 1)
  have q := h.2.2.2.2.2 k hk
  by_cases e : k = l
  · subst e
    unfold cLd1 at q ⊢
    obtain ⟨q0, q1, q2, q3, q4, q5, q8, qt, qo, qs⟩ := q
    refine ⟨?_, ?_, ?_, ?_, ?_, ?_, ?_, fun m hm => ?_, fun m hm => ?_, fun m a hm ha => ?_⟩ <;> simp [gup, pClr, msk] <;> first | assumption | exact qt m hm | exact qo m hm | exact qs m a hm ha
  · exact cLd1_of q (gup_ne _ _ (by omega)) (gup_ne _ _ (by omega)) (gup_ne _ _ (by omega)) (gup_ne _ _ (by omega)) (congrFun (congrFun (pClr_c _ (by decide)) 2) k) (congrFun (pClr_c _ (by decide)) k) (congrFun (pClr_c _ (by decide)) k) (congrFun (pClr_c _ (by decide)) k) (congrFun (pClr_c _ (by decide)) k) (pClr_i _ e) (congrFun (pClr_c _ (by decide)) k) (congrFun (pClr_c _ (by decide)) k) (congrFun (pClr_c _ (by decide)) k)

theorem cRel_zt {R A : Nat} {s : pT} {σ : gSt} (h : cRel R A s σ) (hR : R ≤ 6) (hA : A ≤ 5) {l : Nat} (hl : l < 3) : cRel R A (pClr s.1 20 l, s.2) (filσ σ (50 + l) R (nI 0)) := by
  refine cRel_D h hR hA (fun a ha => fil_ne _ _ _ (by omega)) (fun k hk => ?_) (fun c h2 h7 h8 h9 h10 h11 h12 h13 h14 h16 h20 => pClr_c _ (by assumption)) (congrFun (pClr_c _ (by decide)) 0) (congrFun (pClr_c _ (by decide)) 1)
  have q := h.2.2.2.2.2 k hk
  by_cases e : k = l
  · subst e
    unfold cLd1 at q ⊢
    obtain ⟨q0, q1, q2, q3, q4, q5, q8, qt, qo, qs⟩ := q
    refine ⟨?_, ?_, ?_, ?_, ?_, ?_, ?_, fun m hm => ?_, fun m hm => ?_, fun m a hm ha => ?_⟩
    · rw [fil_ne _ _ _ (by omega)]; first | exact q0 | (simp [pClr]; exact q0)
    · rw [fil_ne _ _ _ (by omega)]; first | exact q1 | (simp [pClr]; exact q1)
    · rw [fil_ne _ _ _ (by omega)]; first | exact q2 | (simp [pClr]; exact q2)
    · rw [fil_ne _ _ _ (by omega)]; first | exact q3 | (simp [pClr]; exact q3)
    · rw [fil_ne _ _ _ (by omega)]; first | exact q4 | (simp [pClr]; exact q4)
    · rw [fil_ne _ _ _ (by omega)]; first | exact q5 | (simp [pClr]; exact q5)
    · rw [fil_ne _ _ _ (by omega)]; first | exact q8 | (simp [pClr]; exact q8)
    · rw [fil_at, if_pos hm]; simp [pClr]
    · rw [fil_ne _ _ _ (by omega)]; simp [pClr]; exact qo m hm
    · rw [fil_ne _ _ _ (by omega)]; simp [pClr]; exact qs m a hm ha
  · exact cLd1_of q (fil_ne _ _ _ (by omega)) (fil_ne _ _ _ (by omega)) (fil_ne _ _ _ (by omega)) (fil_ne _ _ _ (by omega)) (congrFun (congrFun (pClr_c _ (by decide)) 2) k) (congrFun (pClr_c _ (by decide)) k) (congrFun (pClr_c _ (by decide)) k) (congrFun (pClr_c _ (by decide)) k) (congrFun (pClr_c _ (by decide)) k) (congrFun (pClr_c _ (by decide)) k) (congrFun (pClr_c _ (by decide)) k) (congrFun (pClr_c _ (by decide)) k) (pClr_i _ e)

theorem cRel_zo {R A : Nat} {s : pT} {σ : gSt} (h : cRel R A s σ) (hR : R ≤ 6) (hA : A ≤ 5) {l : Nat} (hl : l < 3) : cRel R A (pClr s.1 13 l, s.2) (filσ σ (60 + l) R (nI 0)) := by
  refine cRel_D h hR hA (fun a ha => fil_ne _ _ _ (by omega)) (fun k hk => ?_) (fun c h2 h7 h8 h9 h10 h11 h12 h13 h14 h16 h20 => pClr_c _ (by assumption)) (congrFun (pClr_c _ (by decide)) 0) (congrFun (pClr_c _ (by decide)) 1)
  have q := h.2.2.2.2.2 k hk
  by_cases e : k = l
  · subst e
    unfold cLd1 at q ⊢
    obtain ⟨q0, q1, q2, q3, q4, q5, q8, qt, qo, qs⟩ := q
    refine ⟨?_, ?_, ?_, ?_, ?_, ?_, ?_, fun m hm => ?_, fun m hm => ?_, fun m a hm ha => ?_⟩
    · rw [fil_ne _ _ _ (by omega)]; first | exact q0 | (simp [pClr]; exact q0)
    · rw [fil_ne _ _ _ (by omega)]; first | exact q1 | (simp [pClr]; exact q1)
    · rw [fil_ne _ _ _ (by omega)]; first | exact q2 | (simp [pClr]; exact q2)
    · rw [fil_ne _ _ _ (by omega)]; first | exact q3 | (simp [pClr]; exact q3)
    · rw [fil_ne _ _ _ (by omega)]; first | exact q4 | (simp [pClr]; exact q4)
    · rw [fil_ne _ _ _ (by omega)]; first | exact q5 | (simp [pClr]; exact q5)
    · rw [fil_ne _ _ _ (by omega)]; first | exact q8 | (simp [pClr]; exact q8)
    · rw [fil_ne _ _ _ (by omega)]; simp [pClr]; exact qt m hm
    · rw [fil_at, if_pos hm]; simp [pClr]
    · rw [fil_ne _ _ _ (by omega)]; simp [pClr]; exact qs m a hm ha
  · exact cLd1_of q (fil_ne _ _ _ (by omega)) (fil_ne _ _ _ (by omega)) (fil_ne _ _ _ (by omega)) (fil_ne _ _ _ (by omega)) (congrFun (congrFun (pClr_c _ (by decide)) 2) k) (congrFun (pClr_c _ (by decide)) k) (congrFun (pClr_c _ (by decide)) k) (congrFun (pClr_c _ (by decide)) k) (congrFun (pClr_c _ (by decide)) k) (congrFun (pClr_c _ (by decide)) k) (pClr_i _ e) (congrFun (pClr_c _ (by decide)) k) (congrFun (pClr_c _ (by decide)) k)

theorem cRel_zs {R A : Nat} {s : pT} {σ : gSt} (h : cRel R A s σ) (hR : R ≤ 6) (hA : A ≤ 5) {l : Nat} (hl : l < 3) : cRel R A (pClr s.1 14 l, s.2) (filσ σ (70 + l) (R * A) (nI 0)) := by
  refine cRel_D h hR hA (fun a ha => fil_ne _ _ _ (by omega)) (fun k hk => ?_) (fun c h2 h7 h8 h9 h10 h11 h12 h13 h14 h16 h20 => pClr_c _ (by assumption)) (congrFun (pClr_c _ (by decide)) 0) (congrFun (pClr_c _ (by decide)) 1)
  have q := h.2.2.2.2.2 k hk
  by_cases e : k = l
  · subst e
    unfold cLd1 at q ⊢
    obtain ⟨q0, q1, q2, q3, q4, q5, q8, qt, qo, qs⟩ := q
    refine ⟨?_, ?_, ?_, ?_, ?_, ?_, ?_, fun m hm => ?_, fun m hm => ?_, fun m a hm ha => ?_⟩
    · rw [fil_ne _ _ _ (by omega)]; first | exact q0 | (simp [pClr]; exact q0)
    · rw [fil_ne _ _ _ (by omega)]; first | exact q1 | (simp [pClr]; exact q1)
    · rw [fil_ne _ _ _ (by omega)]; first | exact q2 | (simp [pClr]; exact q2)
    · rw [fil_ne _ _ _ (by omega)]; first | exact q3 | (simp [pClr]; exact q3)
    · rw [fil_ne _ _ _ (by omega)]; first | exact q4 | (simp [pClr]; exact q4)
    · rw [fil_ne _ _ _ (by omega)]; first | exact q5 | (simp [pClr]; exact q5)
    · rw [fil_ne _ _ _ (by omega)]; first | exact q8 | (simp [pClr]; exact q8)
    · rw [fil_ne _ _ _ (by omega)]; simp [pClr]; exact qt m hm
    · rw [fil_ne _ _ _ (by omega)]; simp [pClr]; exact qo m hm
    · rw [fil_at, if_pos (malt hm ha)]; simp [pClr]
  · exact cLd1_of q (fil_ne _ _ _ (by omega)) (fil_ne _ _ _ (by omega)) (fil_ne _ _ _ (by omega)) (fil_ne _ _ _ (by omega)) (congrFun (congrFun (pClr_c _ (by decide)) 2) k) (congrFun (pClr_c _ (by decide)) k) (congrFun (pClr_c _ (by decide)) k) (congrFun (pClr_c _ (by decide)) k) (congrFun (pClr_c _ (by decide)) k) (congrFun (pClr_c _ (by decide)) k) (congrFun (pClr_c _ (by decide)) k) (pClr_i _ e) (congrFun (pClr_c _ (by decide)) k)

set_option maxRecDepth 100000 in
/-- startAsking -/
theorem c_start {R A : Nat} (hRA : pRA R A) {s : pT} {σ : gSt} (hc : cRel R A s σ) {l : Nat} (hl : l < 3) {b : Nat} : gEM (cG R A) mX1_startAsking 0 [.inr (40 + l), .inl (nI (b))] σ (gV (fun τ => cRel R A (pClr (pClr (pu (pu (pu s.1 7 l 0 b) 9 l 0 b) 8 l 0 1) 11 l) 20 l, s.2) τ)) := by
  obtain ⟨hR1, hR6, hA35⟩ := hRA
  have hA5 : A ≤ 5 := by omega
  refine gEM_of (by decide +kernel) rfl (Nat.le_of_ble_eq_true rfl) ?_
  refine g_aload_n dX1_startAsking_0 rfl ?_
  refine g_iload_n dX1_startAsking_1 rfl ?_
  refine g_put (T := TX1) (N := 10) (Cn := RX1) (ref := "CommitCouncil$Leader") (ty0 := tyX1) 1 dX1_startAsking_2 (cIn_l hl) (cSh_l hl) rfl (fun w h => List.mem_cons_of_mem _ (hU1 w h)) tyX1_ok nmX1 (by decide) (List.mem_cons_of_mem _ uw_1_79) (Or.inl rfl) rfl rfl rfl rfl ?_
  refine g_aload_n dX1_startAsking_5 rfl ?_
  refine g_iload_n dX1_startAsking_6 rfl ?_
  refine g_put (T := TX1) (N := 10) (Cn := RX1) (ref := "CommitCouncil$Leader") (ty0 := tyX1) 3 dX1_startAsking_7 (cIn_l hl) (cSh_l hl) rfl (fun w h => List.mem_cons_of_mem _ (hU1 w h)) tyX1_ok nmX1 (by decide) (List.mem_cons_of_mem _ uw_1_83) (Or.inl rfl) rfl rfl rfl rfl ?_
  refine g_aload_n dX1_startAsking_10 rfl ?_
  refine g_iconst (nI (1)) dX1_startAsking_11 (by decide) ?_
  refine g_put (T := TX1) (N := 10) (Cn := RX1) (ref := "CommitCouncil$Leader") (ty0 := tyX1) 2 dX1_startAsking_12 (cIn_l hl) (cSh_l hl) rfl (fun w h => List.mem_cons_of_mem _ (hU1 w h)) tyX1_ok nmX1 (by decide) (List.mem_cons_of_mem _ uw_1_81) (Or.inl rfl) rfl rfl rfl rfl ?_
  refine g_aload_n dX1_startAsking_15 rfl ?_
  refine g_iconst (nI (0)) dX1_startAsking_16 (by decide) ?_
  refine g_put (T := TX1) (N := 10) (Cn := RX1) (ref := "CommitCouncil$Leader") (ty0 := tyX1) 5 dX1_startAsking_17 (cIn_l hl) (cSh_l hl) rfl (fun w h => List.mem_cons_of_mem _ (hU1 w h)) tyX1_ok nmX1 (by decide) (List.mem_cons_of_mem _ uw_1_87) (Or.inl rfl) rfl rfl rfl rfl ?_
  refine g_aload_n dX1_startAsking_20 rfl ?_
  refine g_getr (T := TX1) (N := 10) (Cn := RX1) (ref := "CommitCouncil$Leader") 6 dX1_startAsking_21 (cIn_l hl) (cSh_l hl) rfl (fun w h => List.mem_cons_of_mem _ (hU1 w h)) (by decide) (List.mem_cons_of_mem _ uw_1_89) (Or.inl rfl) rfl ?_
  refine g_iconst (nI (0)) dX1_startAsking_24 (by decide) ?_
  refine g_callSv (n9 := 2) [.inr (50 + l), .inl (nI (0))] [] (c_fill (n := R) (cIn_t hl) (cSh_t hl) (by omega)) dX1_startAsking_25 (gU_S uw_2_112 uw_2_113 uw_1_13 uw_2_114) rfl (by decide +kernel) rfl ⟨by decide, by decide⟩ rfl (Nat.le_of_ble_eq_true rfl) (fun σt hpt => ?_)
  subst hpt
  exact g_vret dX1_startAsking_28 rfl (⟨rfl, cRel_zt (s := (_, s.2)) (cRel_z5 (s := (_, s.2)) (cRel_wl2 (s := (_, s.2)) (cRel_wl3 (s := (_, s.2)) (cRel_wl1 hc hR6 hA5 hl b) hR6 hA5 hl b) hR6 hA5 hl 1) hR6 hA5 hl) hR6 hA5 hl⟩)

set_option maxRecDepth 100000 in
/-- forget -/
theorem c_forget {R A : Nat} (hRA : pRA R A) {s : pT} {σ : gSt} (hc : cRel R A s σ) {l : Nat} (hl : l < 3) : gEM (cG R A) mX1_forget 0 [.inr (40 + l)] σ (gV (fun τ => cRel R A (tFor s.1 l, s.2) τ)) := by
  obtain ⟨hR1, hR6, hA35⟩ := hRA
  have hA5 : A ≤ 5 := by omega
  have hra := raB hR6 hA5
  refine gEM_of (by decide +kernel) rfl (Nat.le_of_ble_eq_true rfl) ?_
  refine g_aload_n dX1_forget_0 rfl ?_
  refine g_iconst (nI (0)) dX1_forget_1 (by decide) ?_
  refine g_put (T := TX1) (N := 10) (Cn := RX1) (ref := "CommitCouncil$Leader") (ty0 := tyX1) 2 dX1_forget_2 (cIn_l hl) (cSh_l hl) rfl (fun w h => List.mem_cons_of_mem _ (hU1 w h)) tyX1_ok nmX1 (by decide) (List.mem_cons_of_mem _ uw_1_81) (Or.inl rfl) rfl rfl rfl rfl ?_
  refine g_aload_n dX1_forget_5 rfl ?_
  refine g_iconst (nI (0)) dX1_forget_6 (by decide) ?_
  refine g_put (T := TX1) (N := 10) (Cn := RX1) (ref := "CommitCouncil$Leader") (ty0 := tyX1) 4 dX1_forget_7 (cIn_l hl) (cSh_l hl) rfl (fun w h => List.mem_cons_of_mem _ (hU1 w h)) tyX1_ok nmX1 (by decide) (List.mem_cons_of_mem _ uw_1_85) (Or.inl rfl) rfl rfl rfl rfl ?_
  refine g_aload_n dX1_forget_10 rfl ?_
  refine g_iconst (nI (0)) dX1_forget_11 (by decide) ?_
  refine g_put (T := TX1) (N := 10) (Cn := RX1) (ref := "CommitCouncil$Leader") (ty0 := tyX1) 5 dX1_forget_12 (cIn_l hl) (cSh_l hl) rfl (fun w h => List.mem_cons_of_mem _ (hU1 w h)) tyX1_ok nmX1 (by decide) (List.mem_cons_of_mem _ uw_1_87) (Or.inl rfl) rfl rfl rfl rfl ?_
  refine g_aload_n dX1_forget_15 rfl ?_
  refine g_getr (T := TX1) (N := 10) (Cn := RX1) (ref := "CommitCouncil$Leader") 6 dX1_forget_16 (cIn_l hl) (cSh_l hl) rfl (fun w h => List.mem_cons_of_mem _ (hU1 w h)) (by decide) (List.mem_cons_of_mem _ uw_1_89) (Or.inl rfl) rfl ?_
  refine g_iconst (nI (0)) dX1_forget_19 (by decide) ?_
  refine g_callSv (n9 := 2) [.inr (50 + l), .inl (nI (0))] [] (c_fill (n := R) (cIn_t hl) (cSh_t hl) (by omega)) dX1_forget_20 (gU_S uw_2_112 uw_2_113 uw_1_13 uw_2_114) rfl (by decide +kernel) rfl ⟨by decide, by decide⟩ rfl (Nat.le_of_ble_eq_true rfl) (fun σt hpt => ?_)
  subst hpt
  refine g_aload_n dX1_forget_23 rfl ?_
  refine g_getr (T := TX1) (N := 10) (Cn := RX1) (ref := "CommitCouncil$Leader") 7 dX1_forget_24 (cIn_l hl) (cSh_l hl) rfl (fun w h => List.mem_cons_of_mem _ (hU1 w h)) (by decide) (List.mem_cons_of_mem _ uw_1_91) (Or.inl rfl) rfl ?_
  refine g_iconst (nI (0)) dX1_forget_27 (by decide) ?_
  refine g_callSv (n9 := 2) [.inr (60 + l), .inl (nI (0))] [] (c_fill (n := R) (cIn_o hl) (cSh_o hl) (by omega)) dX1_forget_28 (gU_S uw_2_112 uw_2_113 uw_1_13 uw_2_114) rfl (by decide +kernel) rfl ⟨by decide, by decide⟩ rfl (Nat.le_of_ble_eq_true rfl) (fun σo hpo => ?_)
  subst hpo
  refine g_aload_n dX1_forget_31 rfl ?_
  refine g_getr (T := TX1) (N := 10) (Cn := RX1) (ref := "CommitCouncil$Leader") 9 dX1_forget_32 (cIn_l hl) (cSh_l hl) rfl (fun w h => List.mem_cons_of_mem _ (hU1 w h)) (by decide) (List.mem_cons_of_mem _ uw_1_94) (Or.inl rfl) rfl ?_
  refine g_iconst (nI (0)) dX1_forget_35 (by decide) ?_
  refine g_callSv (n9 := 2) [.inr (70 + l), .inl (nI (0))] [] (c_fill (n := R * A) (cIn_s hl) (cSh_s hl) (by omega)) dX1_forget_36 (gU_S uw_2_112 uw_2_113 uw_1_13 uw_2_114) rfl (by decide +kernel) rfl ⟨by decide, by decide⟩ rfl (Nat.le_of_ble_eq_true rfl) (fun σs hps => ?_)
  subst hps
  exact g_vret dX1_forget_39 rfl (⟨rfl, cRel_zs (s := (_, s.2)) (cRel_zo (s := (_, s.2)) (cRel_zt (s := (_, s.2)) (cRel_z5 (s := (_, s.2)) (cRel_wl4 (s := (_, s.2)) (cRel_wl2 hc hR6 hA5 hl 0) hR6 hA5 hl 0) hR6 hA5 hl) hR6 hA5 hl) hR6 hA5 hl) hR6 hA5 hl⟩)

theorem div_or (T k n : Nat) : (T ||| 2 ^ k) / 2 ^ n % 2 ^ 5 = (T / 2 ^ n % 2 ^ 5) ||| (2 ^ k / 2 ^ n % 2 ^ 5) := by
  apply Nat.eq_of_testBit_eq
  intro i
  rw [Nat.testBit_or, Nat.testBit_mod_two_pow, Nat.testBit_mod_two_pow, Nat.testBit_mod_two_pow, Nat.testBit_div_two_pow, Nat.testBit_div_two_pow, Nat.testBit_div_two_pow, Nat.testBit_or]
  cases decide (i < 5) <;> simp
theorem bit_div {m a n : Nat} (ha : a < 5) : 2 ^ (m * 5 + a) / 2 ^ (n * 5) % 2 ^ 5 = if n = m then 2 ^ a else 0 := by
  by_cases e : n = m
  · subst e
    rw [if_pos rfl, Nat.pow_add, Nat.mul_div_cancel_left _ (Nat.pow_pos (by decide))]
    exact Nat.mod_eq_of_lt (Nat.pow_lt_pow_right (by decide) ha)
  · rw [if_neg e]
    rcases Nat.lt_or_ge n m with h | h
    · rw [show m * 5 + a = n * 5 + ((m - n) * 5 + a) by omega, Nat.pow_add, Nat.mul_div_cancel_left _ (Nat.pow_pos (by decide)), show (m - n) * 5 + a = 5 + ((m - n - 1) * 5 + a) by omega, Nat.pow_add]
      exact Nat.mul_mod_right _ _
    · rw [Nat.div_eq_of_lt (Nat.pow_lt_pow_right (by decide) (by omega))]
theorem pow32 (m : Nat) : 32 ^ m = 2 ^ (m * 5) := by
  rw [Nat.mul_comm, Nat.pow_mul]
/-- a taker more -/
theorem tk_set {α : pS} {R T m a b : Nat} (h15 : ∀ b j, α 15 b j ≤ 1) (ha : a < 5) (h : ∀ n, n < R → T / 32 ^ n % 32 = msk (fun c => α 15 b (n * 5 + c))) : ∀ n, n < R → (T ||| 2 ^ (m * 5 + a)) / 32 ^ n % 32 = msk (fun c => pu α 15 b (m * 5 + a) 1 15 b (n * 5 + c)) := by
  intro n hn
  have h1 := h n hn
  rw [pow32] at h1 ⊢
  have e := div_or T (m * 5 + a) (n * 5)
  rw [bit_div ha] at e
  rw [show (2 : Nat) ^ 5 = 32 from rfl] at e
  rw [e, h1]
  by_cases q : n = m
  · subst q
    rw [if_pos rfl]
    refine msk_set (fun c => h15 _ _) ha (fun c hc => ?_)
    unfold pu
    by_cases q2 : c = a
    · subst q2
      simp
    · simp [q2]
  · rw [if_neg q, Nat.or_zero]
    unfold msk
    have z : ∀ c, c < 5 → pu α 15 b (m * 5 + a) 1 15 b (n * 5 + c) = α 15 b (n * 5 + c) := fun c hc => pu_j _ (fun z => q (pair_inj hc ha z).1)
    simp only [z 0 (by decide), z 1 (by decide), z 2 (by decide), z 3 (by decide), z 4 (by decide)]
theorem tk_lt {T m a : Nat} (h : T < 2 ^ 30) (hm : m < 6) (ha : a < 5) : T ||| 2 ^ (m * 5 + a) < 2 ^ 30 := Nat.or_lt_two_pow h (Nat.pow_lt_pow_right (by decide) (by omega))
theorem cLg_tk {R A : Nat} {α : pS} {σ : gSt} (h : cLg R A α σ) (hb : pBd R A α) (hR : R ≤ 6) {T m a b : Nat} (hm : m < R) (ha : a < 5) (hT : T < 2 ^ 30) (hTm : ∀ n, n < R → T / 32 ^ n % 32 = msk (fun c => α 15 b (n * 5 + c))) : cLg R A (pu α 15 b (m * 5 + a) 1) (gup σ 9 b (nI (T ||| 2 ^ (m * 5 + a)))) := by
  obtain ⟨q1, q2, q3, q4⟩ := h
  refine ⟨q1, q2, q3, fun c hc => ?_⟩
  by_cases e : c = b
  · subst e
    exact ⟨_, tk_lt hT (by omega) ha, gup_at _ _ _ _, tk_set hb.2.2.2.2.2.2.2.2.2.2.2.2.2.1 ha hTm⟩
  · obtain ⟨T', t1, t2, t3⟩ := q4 c hc
    refine ⟨T', t1, ?_, fun n hn => ?_⟩
    · rw [gup_j _ _ e]
      exact t2
    · rw [pu_i _ e]
      exact t3 n hn
theorem cRel_w18 {R A : Nat} {s : pT} {σ : gSt} (h : cRel R A s σ) (hR : R ≤ 6) (hA : A ≤ 5) {m : Nat} (v : Nat) : cRel R A (pu s.1 18 m 0 v, s.2) (gup σ 7 m (nI v)) := by
  refine cRel_L h hR hA (fun a ha => gup_ne _ _ (by omega)) ?_ (fun c _ h _ => pu_c _ h)
  obtain ⟨q1, q2, q3, q4⟩ := h.2.2.1
  refine ⟨q1, fun n hn => ?_, fun n hn => ?_, fun c hc => ?_⟩
  · by_cases e : n = m
    · subst e
      rw [gup_at, pu_at]
    · rw [gup_j _ _ e, pu_i _ e]
      exact q2 n hn
  · exact q3 n hn
  · exact q4 c hc
theorem cRel_w19 {R A : Nat} {s : pT} {σ : gSt} (h : cRel R A s σ) (hR : R ≤ 6) (hA : A ≤ 5) {m : Nat} (v : Nat) : cRel R A (pu s.1 19 m 0 v, s.2) (gup σ 8 m (nI v)) := by
  refine cRel_L h hR hA (fun a ha => gup_ne _ _ (by omega)) ?_ (fun c _ _ h => pu_c _ h)
  obtain ⟨q1, q2, q3, q4⟩ := h.2.2.1
  refine ⟨q1, fun n hn => ?_, fun n hn => ?_, fun c hc => ?_⟩
  · exact q2 n hn
  · by_cases e : n = m
    · subst e
      rw [gup_at, pu_at]
    · rw [gup_j _ _ e, pu_i _ e]
      exact q3 n hn
  · exact q4 c hc
theorem pEnter_few {A : Nat} {α : pS} {m b w a : Nat} (h : psum (fun c => pu α 15 b (m * 5 + a) 1 15 b (m * 5 + c)) 5 * 2 ≤ A) : pEnter A α m b w a = pu α 15 b (m * 5 + a) 1 := if_pos h
theorem pEnter_first {A : Nat} {α : pS} {m b w a : Nat} (h : ¬ psum (fun c => pu α 15 b (m * 5 + a) 1 15 b (m * 5 + c)) 5 * 2 ≤ A) (h2 : α 18 m 0 = 0) : pEnter A α m b w a = pu (pu α 15 b (m * 5 + a) 1) 18 m 0 w := (if_neg h).trans (if_pos h2)
theorem pEnter_same {A : Nat} {α : pS} {m b w a : Nat} (h : ¬ psum (fun c => pu α 15 b (m * 5 + a) 1 15 b (m * 5 + c)) 5 * 2 ≤ A) (h2 : ¬ α 18 m 0 = 0) (h3 : α 18 m 0 = w) : pEnter A α m b w a = pu α 15 b (m * 5 + a) 1 := (if_neg h).trans ((if_neg h2).trans (if_pos h3))
theorem pEnter_unlike {A : Nat} {α : pS} {m b w a : Nat} (h : ¬ psum (fun c => pu α 15 b (m * 5 + a) 1 15 b (m * 5 + c)) 5 * 2 ≤ A) (h2 : ¬ α 18 m 0 = 0) (h3 : ¬ α 18 m 0 = w) : pEnter A α m b w a = pu (pu α 15 b (m * 5 + a) 1) 19 m 0 1 := (if_neg h).trans ((if_neg h2).trans (if_neg h3))

set_option maxRecDepth 100000 in
/-- enter -/
theorem c_enter {R A : Nat} (hRA : pRA R A) {s : pT} {σ : gSt} (hc : cRel R A s σ) (hb : pBd R A s.1) {m b w a : Nat} (hm : m < R) (hbb : b ≤ 1536) (hw : w = 1 ∨ w = 2) (ha : a < A) : gEM (cG R A) mX2_enter 0 [.inr (6), .inl (nI (m)), .inl (nI (b)), .inl (nI (w)), .inl (nI (a))] σ (gV (fun τ => cRel R A (pEnter A s.1 m b w a, s.2) τ)) := by
  obtain ⟨hR1, hR6, hA35⟩ := hRA
  have hA5 : A ≤ 5 := by omega
  obtain ⟨T, hT30, hT, hTm⟩ := hc.2.2.1.2.2.2 b (by omega)
  have hb18 := hb.2.2.2.2.2.2.2.2.2.2.2.2.2.2.2.2.1 m
  have hX30 := tk_lt hT30 (show m < 6 by omega) (show a < 5 by omega)
  have h15 : ∀ b j, pu s.1 15 b (m * 5 + a) 1 15 b j ≤ 1 := fun b j => by unfold pu; split; exact Nat.le_refl _; exact hb.2.2.2.2.2.2.2.2.2.2.2.2.2.1 b j
  have hps : pc5 ((T ||| 2 ^ (m * 5 + a)) / 2 ^ (m * 5) % 32) = psum (fun c => pu s.1 15 b (m * 5 + a) 1 15 b (m * 5 + c)) 5 := by
    have h1 := tk_set (m := m) (a := a) (b := b) hb.2.2.2.2.2.2.2.2.2.2.2.2.2.1 (show a < 5 by omega) hTm m hm
    rw [pow32] at h1
    rw [h1, pc5_msk (fun c => h15 b _)]
  have hpl : psum (fun c => pu s.1 15 b (m * 5 + a) 1 15 b (m * 5 + c)) 5 ≤ 5 := psum_le (fun c => h15 b _) 5
  have hc1 : cRel R A (pu s.1 15 b (m * 5 + a) 1, s.2) (gup σ 9 b (nI (T ||| 2 ^ (m * 5 + a)))) := cRel_L hc hR6 hA5 (fun a ha => gup_ne _ _ (by omega)) (cLg_tk hc.2.2.1 hb hR6 hm (by omega) hT30 hTm) (fun c h _ _ => pu_c _ h)
  refine gEM_of (by decide +kernel) rfl (Nat.le_of_ble_eq_true rfl) ?_
  refine g_iload_n dX2_enter_0 rfl ?_
  refine g_if_lt 26 dX2_enter_1 (by decide) (fun h1 => ?_) (fun h1 => ?_)
  · skip
    rw [nI_n (by omega)] at h1
    exact h1.elim
  · skip
    rw [nI_n (by omega)] at h1
    refine g_iload_n dX2_enter_4 rfl ?_
    refine g_aload_n dX2_enter_5 rfl ?_
    refine g_getr (T := TX2) (N := 4) (Cn := RX2) (ref := "CommitCouncil$Ledger") 0 dX2_enter_6 (cIn_lo (by decide)) cSh_6 rfl (fun w h => List.mem_cons_of_mem _ (hU2 w h)) (by decide) (List.mem_cons_of_mem _ uw_1_142) (Or.inl rfl) rfl ?_
    refine g_alen (nI (R)) dX2_enter_9 (cIn_lo (by decide)) cSh_7 (by decide) rfl ?_
    refine g_icmp_ge 26 dX2_enter_10 (by decide) (fun h10 => ?_) (fun h10 => ?_)
    · skip
      rw [nI_leI (by omega) (by omega)] at h10
      exfalso; omega
    · skip
      rw [nI_leI (by omega) (by omega)] at h10
      refine g_iload_n dX2_enter_13 rfl ?_
      refine g_if_lt 26 dX2_enter_14 (by decide) (fun h14 => ?_) (fun h14 => ?_)
      · skip
        rw [nI_n (by omega)] at h14
        exact h14.elim
      · skip
        rw [nI_n (by omega)] at h14
        refine g_iload_n dX2_enter_17 rfl ?_
        refine g_aload_n dX2_enter_18 rfl ?_
        refine g_getr (T := TX2) (N := 4) (Cn := RX2) (ref := "CommitCouncil$Ledger") 3 dX2_enter_19 (cIn_lo (by decide)) cSh_6 rfl (fun w h => List.mem_cons_of_mem _ (hU2 w h)) (by decide) (List.mem_cons_of_mem _ uw_1_147) (Or.inl rfl) rfl ?_
        refine g_alen (nI (1537)) dX2_enter_22 (cIn_lo (by decide)) cSh_9 (by decide) rfl ?_
        refine g_icmp_lt 27 dX2_enter_23 (by decide) (fun h23 => ?_) (fun h23 => ?_)
        · skip
          rw [nI_ltI (by omega) (by omega)] at h23
          refine g_iload_n dX2_enter_27 rfl ?_
          refine g_iconst (nI (5)) dX2_enter_28 (by decide) ?_
          refine g_imul dX2_enter_29 ?_
          refine gEx.top (v := .inl (nI ((m) * (5)))) (congrArg Sum.inl (pk_mul _ _)) ?_
          refine g_istore dX2_enter_30 (by decide) ?_
          refine g_aload_n dX2_enter_32 rfl ?_
          refine g_getr (T := TX2) (N := 4) (Cn := RX2) (ref := "CommitCouncil$Ledger") 3 dX2_enter_33 (cIn_lo (by decide)) cSh_6 rfl (fun w h => List.mem_cons_of_mem _ (hU2 w h)) (by decide) (List.mem_cons_of_mem _ uw_1_147) (Or.inl rfl) rfl ?_
          refine g_iload_n dX2_enter_36 rfl ?_
          refine g_dup2 dX2_enter_37 ?_
          refine g_ialdN (n := 1537) (j := b) dX2_enter_38 (cIn_lo (by decide)) cSh_9 (by omega) (by omega) ?_
          refine gEx.top (v := .inl (nI (T))) (congrArg Sum.inl (hT)) ?_
          refine g_iconst (nI (1)) dX2_enter_39 (by decide) ?_
          refine g_iload dX2_enter_40 rfl ?_
          refine g_iload dX2_enter_42 rfl ?_
          refine g_iadd dX2_enter_44 ?_
          refine gEx.top (v := .inl (nI ((m) * (5) + a))) (congrArg Sum.inl (nI_add _ _)) ?_
          refine g_ishl dX2_enter_45 ?_
          refine gEx.top (v := .inl (nI (2 ^ (m * 5 + a)))) (congrArg Sum.inl (one_shl (by omega))) ?_
          refine g_ior dX2_enter_46 ?_
          refine gEx.top (v := .inl (nI (T ||| 2 ^ (m * 5 + a)))) (congrArg Sum.inl (nI_or _ _)) ?_
          refine g_iastN (n := 1537) (j := b) dX2_enter_47 (cIn_lo (by decide)) cSh_9 (by omega) (by omega) ?_
          refine g_aload_n dX2_enter_48 rfl ?_
          refine g_getr (T := TX2) (N := 4) (Cn := RX2) (ref := "CommitCouncil$Ledger") 3 dX2_enter_49 (cIn_lo (by decide)) cSh_6 rfl (fun w h => List.mem_cons_of_mem _ (hU2 w h)) (by decide) (List.mem_cons_of_mem _ uw_1_147) (Or.inl rfl) rfl ?_
          refine g_iload_n dX2_enter_52 rfl ?_
          refine g_ialdN (n := 1537) (j := b) dX2_enter_53 (cIn_lo (by decide)) cSh_9 (by omega) (by omega) ?_
          refine gEx.top (v := .inl (nI ((T ||| 2 ^ (m * 5 + a))))) (congrArg Sum.inl (gup_at _ _ _ _)) ?_
          refine g_iload dX2_enter_54 rfl ?_
          refine g_ishr dX2_enter_56 ?_
          refine gEx.top (v := .inl (nI ((T ||| 2 ^ (m * 5 + a)) / 2 ^ (m * 5)))) (congrArg Sum.inl (pk_shrN (by omega) _ (m * 5) (sh31 _ (by omega)))) ?_
          refine g_bipush (nI (31)) dX2_enter_57 (by decide) ?_
          refine g_iand dX2_enter_59 ?_
          refine gEx.top (v := .inl (nI ((T ||| 2 ^ (m * 5 + a)) / 2 ^ (m * 5) % 32))) (congrArg Sum.inl (pk_andN (Nat.lt_of_le_of_lt (Nat.div_le_self _ _) (by omega)) 5 (by decide))) ?_
          refine g_callSi (nI (pc5 ((T ||| 2 ^ (m * 5 + a)) / 2 ^ (m * 5) % 32))) (n9 := 1) [.inl (nI ((T ||| 2 ^ (m * 5 + a)) / 2 ^ (m * 5) % 32))] [] (c_bits (Nat.mod_lt _ (by decide))) dX2_enter_60 (gU_S uw_2_194 uw_2_172 uw_1_14 uw_2_173) rfl (by decide +kernel) rfl ⟨by decide, by decide⟩ rfl (Nat.le_of_ble_eq_true rfl) (fun σ1 hp1 => ?_)
          subst hp1
          refine gEx.top (v := .inl (nI (psum (fun c => pu s.1 15 b (m * 5 + a) 1 15 b (m * 5 + c)) 5))) (congrArg Sum.inl (by rw [hps])) ?_
          refine g_istore dX2_enter_63 (by decide) ?_
          refine g_iload dX2_enter_65 rfl ?_
          refine g_iconst (nI (2)) dX2_enter_67 (by decide) ?_
          refine g_imul dX2_enter_68 ?_
          refine gEx.top (v := .inl (nI ((psum (fun c => pu s.1 15 b (m * 5 + a) 1 15 b (m * 5 + c)) 5) * (2)))) (congrArg Sum.inl (pk_mul _ _)) ?_
          refine g_aload_n dX2_enter_69 rfl ?_
          refine g_get (T := TX2) (N := 4) (Cn := RX2) (ref := "CommitCouncil$Ledger") 2 dX2_enter_70 (cIn_lo (by decide)) cSh_6 rfl (fun w h => List.mem_cons_of_mem _ (hU2 w h)) (by decide) (List.mem_cons_of_mem _ uw_1_146) (Or.inl rfl) rfl ?_
          refine gEx.top (v := .inl (nI (A))) (congrArg Sum.inl (hc.2.2.1.1)) ?_
          refine g_icmp_gt 77 dX2_enter_73 (by decide) (fun h73 => ?_) (fun h73 => ?_)
          · skip
            rw [nI_ltI (by omega) (by omega)] at h73
            refine g_aload_n dX2_enter_77 rfl ?_
            refine g_getr (T := TX2) (N := 4) (Cn := RX2) (ref := "CommitCouncil$Ledger") 0 dX2_enter_78 (cIn_lo (by decide)) cSh_6 rfl (fun w h => List.mem_cons_of_mem _ (hU2 w h)) (by decide) (List.mem_cons_of_mem _ uw_1_142) (Or.inl rfl) rfl ?_
            refine g_iload_n dX2_enter_81 rfl ?_
            refine g_ialdN (n := R) (j := m) dX2_enter_82 (cIn_lo (by decide)) cSh_7 (hm) (by omega) ?_
            refine gEx.top (v := .inl (nI (s.1 18 m 0))) (congrArg Sum.inl (hc.2.2.1.2.1 m hm)) ?_
            refine g_if_ne 96 dX2_enter_83 (by decide) (fun h83 => ?_) (fun h83 => ?_)
            · skip
              rw [nI_z (by omega)] at h83
              refine g_aload_n dX2_enter_96 rfl ?_
              refine g_getr (T := TX2) (N := 4) (Cn := RX2) (ref := "CommitCouncil$Ledger") 0 dX2_enter_97 (cIn_lo (by decide)) cSh_6 rfl (fun w h => List.mem_cons_of_mem _ (hU2 w h)) (by decide) (List.mem_cons_of_mem _ uw_1_142) (Or.inl rfl) rfl ?_
              refine g_iload_n dX2_enter_100 rfl ?_
              refine g_ialdN (n := R) (j := m) dX2_enter_101 (cIn_lo (by decide)) cSh_7 (hm) (by omega) ?_
              refine gEx.top (v := .inl (nI (s.1 18 m 0))) (congrArg Sum.inl (hc.2.2.1.2.1 m hm)) ?_
              refine g_iload_n dX2_enter_102 rfl ?_
              refine g_icmp_eq 113 dX2_enter_103 (by decide) (fun h103 => ?_) (fun h103 => ?_)
              · skip
                rw [nI_eq (by omega) (by omega)] at h103
                refine g_vret dX2_enter_113 rfl ?_
                refine ⟨rfl, ?_⟩
                first | (rw [pEnter_first (by omega) (by omega)]; exact cRel_w18 (s := (_, s.2)) hc1 hR6 hA5 w) | (rw [pEnter_same (by omega) (by omega) (by omega)]; exact hc1) | (rw [pEnter_unlike (by omega) (by omega) (by omega)]; exact cRel_w19 (s := (_, s.2)) hc1 hR6 hA5 1)
              · skip
                rw [nI_eq (by omega) (by omega)] at h103
                refine g_aload_n dX2_enter_106 rfl ?_
                refine g_getr (T := TX2) (N := 4) (Cn := RX2) (ref := "CommitCouncil$Ledger") 1 dX2_enter_107 (cIn_lo (by decide)) cSh_6 rfl (fun w h => List.mem_cons_of_mem _ (hU2 w h)) (by decide) (List.mem_cons_of_mem _ uw_1_144) (Or.inl rfl) rfl ?_
                refine g_iload_n dX2_enter_110 rfl ?_
                refine g_iconst (nI (1)) dX2_enter_111 (by decide) ?_
                refine g_zastN (n := R) (j := m) dX2_enter_112 (cIn_lo (by decide)) cSh_8 (hm) (by omega) (rfl) ?_
                refine g_vret dX2_enter_113 rfl ?_
                refine ⟨rfl, ?_⟩
                first | (rw [pEnter_first (by omega) (by omega)]; exact cRel_w18 (s := (_, s.2)) hc1 hR6 hA5 w) | (rw [pEnter_same (by omega) (by omega) (by omega)]; exact hc1) | (rw [pEnter_unlike (by omega) (by omega) (by omega)]; exact cRel_w19 (s := (_, s.2)) hc1 hR6 hA5 1)
            · skip
              rw [nI_z (by omega)] at h83
              refine g_aload_n dX2_enter_86 rfl ?_
              refine g_getr (T := TX2) (N := 4) (Cn := RX2) (ref := "CommitCouncil$Ledger") 0 dX2_enter_87 (cIn_lo (by decide)) cSh_6 rfl (fun w h => List.mem_cons_of_mem _ (hU2 w h)) (by decide) (List.mem_cons_of_mem _ uw_1_142) (Or.inl rfl) rfl ?_
              refine g_iload_n dX2_enter_90 rfl ?_
              refine g_iload_n dX2_enter_91 rfl ?_
              refine g_iastN (n := R) (j := m) dX2_enter_92 (cIn_lo (by decide)) cSh_7 (hm) (by omega) ?_
              refine g_goto 113 dX2_enter_93 (by decide) ?_
              refine g_vret dX2_enter_113 rfl ?_
              refine ⟨rfl, ?_⟩
              first | (rw [pEnter_first (by omega) (by omega)]; exact cRel_w18 (s := (_, s.2)) hc1 hR6 hA5 w) | (rw [pEnter_same (by omega) (by omega) (by omega)]; exact hc1) | (rw [pEnter_unlike (by omega) (by omega) (by omega)]; exact cRel_w19 (s := (_, s.2)) hc1 hR6 hA5 1)
          · skip
            rw [nI_ltI (by omega) (by omega)] at h73
            exact g_vret dX2_enter_76 rfl (⟨rfl, by rw [pEnter_few (by omega)]; exact hc1⟩)
        · skip
          rw [nI_ltI (by omega) (by omega)] at h23
          exfalso; omega
