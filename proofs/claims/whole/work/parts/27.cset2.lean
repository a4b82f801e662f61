theorem cRel_wl1 {R A : Nat} {s : pT} {σ : gSt} (h : cRel R A s σ) (hR : R ≤ 6) (hA : A ≤ 5) {l : Nat} (hl : l < 3) (v : Nat) : cRel R A (pu s.1 7 l 0 v, s.2) (gup σ (40 + l) 1 (nI v)) := by
  refine cRel_D h hR hA (fun a ha => gup_ne _ _ (by omega)) (fun k hk => ?_) (fun c h2 h7 h8 h9 h10 h11 h12 h13 h14 h16 h20 => pu_c _ (by assumption)) (congrFun (pu_c _ (by decide)) 0) (congrFun (pu_c _ (by decide)) 1)
  have q := h.2.2.2.2.2 k hk
  by_cases e : k = l
  · subst e
    unfold cLd1 at q ⊢
    obtain ⟨q0, q1, q2, q3, q4, q5, q8, qt, qo, qs⟩ := q
    refine ⟨?_, ?_, ?_, ?_, ?_, ?_, ?_, fun m hm => ?_, fun m hm => ?_, fun m a hm ha => ?_⟩ <;> simp [gup, pu] <;> first | assumption | exact qt m hm | exact qo m hm | exact qs m a hm ha
  · exact cLd1_of q (gup_ne _ _ (by omega)) (gup_ne _ _ (by omega)) (gup_ne _ _ (by omega)) (gup_ne _ _ (by omega)) (congrFun (congrFun (pu_c _ (by decide)) 2) k) (pu_i _ e) (congrFun (pu_c _ (by decide)) k) (congrFun (pu_c _ (by decide)) k) (congrFun (pu_c _ (by decide)) k) (congrFun (pu_c _ (by decide)) k) (congrFun (pu_c _ (by decide)) k) (congrFun (pu_c _ (by decide)) k) (congrFun (pu_c _ (by decide)) k)

theorem cRel_wl2 {R A : Nat} {s : pT} {σ : gSt} (h : cRel R A s σ) (hR : R ≤ 6) (hA : A ≤ 5) {l : Nat} (hl : l < 3) (v : Nat) : cRel R A (pu s.1 8 l 0 v, s.2) (gup σ (40 + l) 2 (nI v)) := by
  refine cRel_D h hR hA (fun a ha => gup_ne _ _ (by omega)) (fun k hk => ?_) (fun c h2 h7 h8 h9 h10 h11 h12 h13 h14 h16 h20 => pu_c _ (by assumption)) (congrFun (pu_c _ (by decide)) 0) (congrFun (pu_c _ (by decide)) 1)
  have q := h.2.2.2.2.2 k hk
  by_cases e : k = l
  · subst e
    unfold cLd1 at q ⊢
    obtain ⟨q0, q1, q2, q3, q4, q5, q8, qt, qo, qs⟩ := q
    refine ⟨?_, ?_, ?_, ?_, ?_, ?_, ?_, fun m hm => ?_, fun m hm => ?_, fun m a hm ha => ?_⟩ <;> simp [gup, pu] <;> first | assumption | exact qt m hm | exact qo m hm | exact qs m a hm ha
  · exact cLd1_of q (gup_ne _ _ (by omega)) (gup_ne _ _ (by omega)) (gup_ne _ _ (by omega)) (gup_ne _ _ (by omega)) (congrFun (congrFun (pu_c _ (by decide)) 2) k) (congrFun (pu_c _ (by decide)) k) (pu_i _ e) (congrFun (pu_c _ (by decide)) k) (congrFun (pu_c _ (by decide)) k) (congrFun (pu_c _ (by decide)) k) (congrFun (pu_c _ (by decide)) k) (congrFun (pu_c _ (by decide)) k) (congrFun (pu_c _ (by decide)) k)

theorem cRel_wl3 {R A : Nat} {s : pT} {σ : gSt} (h : cRel R A s σ) (hR : R ≤ 6) (hA : A ≤ 5) {l : Nat} (hl : l < 3) (v : Nat) : cRel R A (pu s.1 9 l 0 v, s.2) (gup σ (40 + l) 3 (nI v)) := by
  refine cRel_D h hR hA (fun a ha => gup_ne _ _ (by omega)) (fun k hk => ?_) (fun c h2 h7 h8 h9 h10 h11 h12 h13 h14 h16 h20 => pu_c _ (by assumption)) (congrFun (pu_c _ (by decide)) 0) (congrFun (pu_c _ (by decide)) 1)
  have q := h.2.2.2.2.2 k hk
  by_cases e : k = l
  · subst e
    unfold cLd1 at q ⊢
    obtain ⟨q0, q1, q2, q3, q4, q5, q8, qt, qo, qs⟩ := q
    refine ⟨?_, ?_, ?_, ?_, ?_, ?_, ?_, fun m hm => ?_, fun m hm => ?_, fun m a hm ha => ?_⟩ <;> simp [gup, pu] <;> first | assumption | exact qt m hm | exact qo m hm | exact qs m a hm ha
  · exact cLd1_of q (gup_ne _ _ (by omega)) (gup_ne _ _ (by omega)) (gup_ne _ _ (by omega)) (gup_ne _ _ (by omega)) (congrFun (congrFun (pu_c _ (by decide)) 2) k) (congrFun (pu_c _ (by decide)) k) (congrFun (pu_c _ (by decide)) k) (pu_i _ e) (congrFun (pu_c _ (by decide)) k) (congrFun (pu_c _ (by decide)) k) (congrFun (pu_c _ (by decide)) k) (congrFun (pu_c _ (by decide)) k) (congrFun (pu_c _ (by decide)) k)

theorem cRel_wl4 {R A : Nat} {s : pT} {σ : gSt} (h : cRel R A s σ) (hR : R ≤ 6) (hA : A ≤ 5) {l : Nat} (hl : l < 3) (v : Nat) : cRel R A (pu s.1 10 l 0 v, s.2) (gup σ (40 + l) 4 (nI v)) := by
  refine cRel_D h hR hA (fun a ha => gup_ne _ _ (by omega)) (fun k hk => ?_) (fun c h2 h7 h8 h9 h10 h11 h12 h13 h14 h16 h20 => pu_c _ (by assumption)) (congrFun (pu_c _ (by decide)) 0) (congrFun (pu_c _ (by decide)) 1)
  have q := h.2.2.2.2.2 k hk
  by_cases e : k = l
  · subst e
    unfold cLd1 at q ⊢
    obtain ⟨q0, q1, q2, q3, q4, q5, q8, qt, qo, qs⟩ := q
    refine ⟨?_, ?_, ?_, ?_, ?_, ?_, ?_, fun m hm => ?_, fun m hm => ?_, fun m a hm ha => ?_⟩ <;> simp [gup, pu] <;> first | assumption | exact qt m hm | exact qo m hm | exact qs m a hm ha
  · exact cLd1_of q (gup_ne _ _ (by omega)) (gup_ne _ _ (by omega)) (gup_ne _ _ (by omega)) (gup_ne _ _ (by omega)) (congrFun (congrFun (pu_c _ (by decide)) 2) k) (congrFun (pu_c _ (by decide)) k) (congrFun (pu_c _ (by decide)) k) (congrFun (pu_c _ (by decide)) k) (pu_i _ e) (congrFun (pu_c _ (by decide)) k) (congrFun (pu_c _ (by decide)) k) (congrFun (pu_c _ (by decide)) k) (congrFun (pu_c _ (by decide)) k)

theorem cRel_wl0 {R A : Nat} {s : pT} {σ : gSt} (h : cRel R A s σ) (hR : R ≤ 6) (hA : A ≤ 5) {l : Nat} (hl : l < 3) (v : Nat) : cRel R A (pu s.1 2 2 l v, s.2) (gup σ (40 + l) 0 (nI v)) := by
  refine cRel_D h hR hA (fun a ha => gup_ne _ _ (by omega)) (fun k hk => ?_) (fun c h2 h7 h8 h9 h10 h11 h12 h13 h14 h16 h20 => pu_c _ (by assumption)) (pu_i _ (by decide)) (pu_i _ (by decide))
  have q := h.2.2.2.2.2 k hk
  by_cases e : k = l
  · subst e
    unfold cLd1 at q ⊢
    obtain ⟨q0, q1, q2, q3, q4, q5, q8, qt, qo, qs⟩ := q
    refine ⟨?_, ?_, ?_, ?_, ?_, ?_, ?_, fun m hm => ?_, fun m hm => ?_, fun m a hm ha => ?_⟩ <;> simp [gup, pu] <;> first | assumption | exact qt m hm | exact qo m hm | exact qs m a hm ha
  · exact cLd1_of q (gup_ne _ _ (by omega)) (gup_ne _ _ (by omega)) (gup_ne _ _ (by omega)) (gup_ne _ _ (by omega)) (pu_j _ e) (congrFun (pu_c _ (by decide)) k) (congrFun (pu_c _ (by decide)) k) (congrFun (pu_c _ (by decide)) k) (congrFun (pu_c _ (by decide)) k) (congrFun (pu_c _ (by decide)) k) (congrFun (pu_c _ (by decide)) k) (congrFun (pu_c _ (by decide)) k) (congrFun (pu_c _ (by decide)) k)

theorem cRel_wl5 {R A : Nat} {s : pT} {σ : gSt} (h : cRel R A s σ) (hR : R ≤ 6) (hA : A ≤ 5) {l a : Nat} (hl : l < 3) (v : Nat) : cRel R A (pu s.1 11 l a v, s.2) (gup σ (40 + l) 5 (nI (msk (pu s.1 11 l a v 11 l)))) := by
  refine cRel_D h hR hA (fun a ha => gup_ne _ _ (by omega)) (fun k hk => ?_) (fun c h2 h7 h8 h9 h10 h11 h12 h13 h14 h16 h20 => pu_c _ (by assumption)) (congrFun (pu_c _ (by decide)) 0) (congrFun (pu_c _ (by decide)) 1)
  have q := h.2.2.2.2.2 k hk
  by_cases e : k = l
  · subst e
    unfold cLd1 at q ⊢
    obtain ⟨q0, q1, q2, q3, q4, q5, q8, qt, qo, qs⟩ := q
    refine ⟨?_, ?_, ?_, ?_, ?_, gup_at _ _ _ _, ?_, fun m hm => ?_, fun m hm => ?_, fun m a hm ha => ?_⟩ <;> simp [gup, pu] <;> first | assumption | exact qt m hm | exact qo m hm | exact qs m a hm ha
  · exact cLd1_of q (gup_ne _ _ (by omega)) (gup_ne _ _ (by omega)) (gup_ne _ _ (by omega)) (gup_ne _ _ (by omega)) (congrFun (congrFun (pu_c _ (by decide)) 2) k) (congrFun (pu_c _ (by decide)) k) (congrFun (pu_c _ (by decide)) k) (congrFun (pu_c _ (by decide)) k) (congrFun (pu_c _ (by decide)) k) (pu_i _ e) (congrFun (pu_c _ (by decide)) k) (congrFun (pu_c _ (by decide)) k) (congrFun (pu_c _ (by decide)) k)

theorem cRel_wlt {R A : Nat} {s : pT} {σ : gSt} (h : cRel R A s σ) (hR : R ≤ 6) (hA : A ≤ 5) {l n : Nat} (hl : l < 3) (v : Nat) : cRel R A (pu s.1 20 l n v, s.2) (gup σ (50 + l) n (nI v)) := by
  refine cRel_D h hR hA (fun a ha => gup_ne _ _ (by omega)) (fun k hk => ?_) (fun c h2 h7 h8 h9 h10 h11 h12 h13 h14 h16 h20 => pu_c _ (by assumption)) (congrFun (pu_c _ (by decide)) 0) (congrFun (pu_c _ (by decide)) 1)
  have q := h.2.2.2.2.2 k hk
  by_cases e : k = l
  · subst e
    unfold cLd1 at q ⊢
    obtain ⟨q0, q1, q2, q3, q4, q5, q8, qt, qo, qs⟩ := q
    refine ⟨?_, ?_, ?_, ?_, ?_, ?_, ?_, fun m hm => ?_, fun m hm => ?_, fun m a hm ha => ?_⟩
    · simp [gup, pu]; exact q0
    · simp [gup, pu]; exact q1
    · simp [gup, pu]; exact q2
    · simp [gup, pu]; exact q3
    · simp [gup, pu]; exact q4
    · simp [gup, pu]; exact q5
    · simp [gup]; exact q8
    · by_cases e2 : m = n
      · subst e2; simp [gup, pu]
      · simp [gup, pu, e2]; exact qt m hm
    · simp [gup, pu]; exact qo m hm
    · simp [gup, pu]; exact qs m a hm ha
  · exact cLd1_of q (gup_ne _ _ (by omega)) (gup_ne _ _ (by omega)) (gup_ne _ _ (by omega)) (gup_ne _ _ (by omega)) (congrFun (congrFun (pu_c _ (by decide)) 2) k) (congrFun (pu_c _ (by decide)) k) (congrFun (pu_c _ (by decide)) k) (congrFun (pu_c _ (by decide)) k) (congrFun (pu_c _ (by decide)) k) (congrFun (pu_c _ (by decide)) k) (congrFun (pu_c _ (by decide)) k) (congrFun (pu_c _ (by decide)) k) (pu_i _ e)

theorem cRel_wlo {R A : Nat} {s : pT} {σ : gSt} (h : cRel R A s σ) (hR : R ≤ 6) (hA : A ≤ 5) {l n : Nat} (hl : l < 3) (v : Nat) : cRel R A (pu s.1 13 l n v, s.2) (gup σ (60 + l) n (nI v)) := by
  refine cRel_D h hR hA (fun a ha => gup_ne _ _ (by omega)) (fun k hk => ?_) (fun c h2 h7 h8 h9 h10 h11 h12 h13 h14 h16 h20 => pu_c _ (by assumption)) (congrFun (pu_c _ (by decide)) 0) (congrFun (pu_c _ (by decide)) 1)
  have q := h.2.2.2.2.2 k hk
  by_cases e : k = l
  · subst e
    unfold cLd1 at q ⊢
    obtain ⟨q0, q1, q2, q3, q4, q5, q8, qt, qo, qs⟩ := q
    refine ⟨?_, ?_, ?_, ?_, ?_, ?_, ?_, fun m hm => ?_, fun m hm => ?_, fun m a hm ha => ?_⟩
    · simp [gup, pu]; exact q0
    · simp [gup, pu]; exact q1
    · simp [gup, pu]; exact q2
    · simp [gup, pu]; exact q3
    · simp [gup, pu]; exact q4
    · simp [gup, pu]; exact q5
    · simp [gup]; exact q8
    · simp [gup, pu]; exact qt m hm
    · by_cases e2 : m = n
      · subst e2; simp [gup, pu]
      · simp [gup, pu, e2]; exact qo m hm
    · simp [gup, pu]; exact qs m a hm ha
  · exact cLd1_of q (gup_ne _ _ (by omega)) (gup_ne _ _ (by omega)) (gup_ne _ _ (by omega)) (gup_ne _ _ (by omega)) (congrFun (congrFun (pu_c _ (by decide)) 2) k) (congrFun (pu_c _ (by decide)) k) (congrFun (pu_c _ (by decide)) k) (congrFun (pu_c _ (by decide)) k) (congrFun (pu_c _ (by decide)) k) (congrFun (pu_c _ (by decide)) k) (pu_i _ e) (congrFun (pu_c _ (by decide)) k) (congrFun (pu_c _ (by decide)) k)

theorem pair_inj {N m a n c : Nat} (ha : a < N) (hc : c < N) (h : m * N + a = n * N + c) : m = n ∧ a = c := by
  have h1 : (m * N + a) / N = m := by rw [Nat.add_comm, Nat.add_mul_div_right _ _ (by omega), Nat.div_eq_of_lt ha, Nat.zero_add]
  have h2 : (n * N + c) / N = n := by rw [Nat.add_comm, Nat.add_mul_div_right _ _ (by omega), Nat.div_eq_of_lt hc, Nat.zero_add]
  have e : m = n := by rw [← h1, ← h2, h]
  subst e
  exact ⟨rfl, by omega⟩

theorem cRel_wls {R A : Nat} {s : pT} {σ : gSt} (h : cRel R A s σ) (hR : R ≤ 6) (hA : A ≤ 5) {l n c : Nat} (hl : l < 3) (hc9 : c < A) (v : Nat) : cRel R A (pu s.1 14 l (n * 5 + c) v, s.2) (gup σ (70 + l) (n * A + c) (nI v)) := by
  refine cRel_D h hR hA (fun a ha => gup_ne _ _ (by omega)) (fun k hk => ?_) (fun c h2 h7 h8 h9 h10 h11 h12 h13 h14 h16 h20 => pu_c _ (by assumption)) (congrFun (pu_c _ (by decide)) 0) (congrFun (pu_c _ (by decide)) 1)
  have q := h.2.2.2.2.2 k hk
  by_cases e : k = l
  · subst e
    unfold cLd1 at q ⊢
    obtain ⟨q0, q1, q2, q3, q4, q5, q8, qt, qo, qs⟩ := q
    refine ⟨?_, ?_, ?_, ?_, ?_, ?_, ?_, fun m hm => ?_, fun m hm => ?_, fun m a hm ha => ?_⟩
    · simp [gup, pu]; exact q0
    · simp [gup, pu]; exact q1
    · simp [gup, pu]; exact q2
    · simp [gup, pu]; exact q3
    · simp [gup, pu]; exact q4
    · simp [gup, pu]; exact q5
    · simp [gup]; exact q8
    · simp [gup, pu]; exact qt m hm
    · simp [gup, pu]; exact qo m hm
    · by_cases e2 : m = n ∧ a = c
      · obtain ⟨e3, e4⟩ := e2
        subst e3; subst e4
        simp [gup, pu]
      · have e5 : ¬ m * A + a = n * A + c := fun z => e2 (pair_inj ha hc9 z)
        have e6 : ¬ m * 5 + a = n * 5 + c := fun z => e2 (pair_inj (N := 5) (by omega) (by omega) z)
        simp [gup, pu, e5, e6]; exact qs m a hm ha
  · exact cLd1_of q (gup_ne _ _ (by omega)) (gup_ne _ _ (by omega)) (gup_ne _ _ (by omega)) (gup_ne _ _ (by omega)) (congrFun (congrFun (pu_c _ (by decide)) 2) k) (congrFun (pu_c _ (by decide)) k) (congrFun (pu_c _ (by decide)) k) (congrFun (pu_c _ (by decide)) k) (congrFun (pu_c _ (by decide)) k) (congrFun (pu_c _ (by decide)) k) (congrFun (pu_c _ (by decide)) k) (pu_i _ e) (congrFun (pu_c _ (by decide)) k)

theorem cRel_wp {R A : Nat} {s : pT} {σ : gSt} (h : cRel R A s σ) (hR : R ≤ 6) (hA : A ≤ 5) {a : Nat} (ha : a < A) (v : Nat) : cRel R A (pu s.1 5 a 0 v, s.2) (gup σ (20 + a) 1 (nI v)) := by
  refine cRel_A h hR hA (fun a ha => gup_ne _ _ (by omega)) (fun k hk => ?_) (fun c h2 h5 h6 h17 => pu_c _ (by assumption)) (congrFun (pu_c _ (by decide)) 0) (congrFun (pu_c _ (by decide)) 2)
  obtain ⟨q0, q1, q2⟩ := h.2.2.2.2.1 k hk
  by_cases e : k = a
  · subst e
    refine ⟨?_, ?_, fun m hm => ?_⟩ <;> simp [gup, pu] <;> first | assumption | exact q2 m hm | (rw [if_neg (by omega)]; exact q2 m hm)
  · refine ⟨?_, ?_, fun m hm => ?_⟩ <;> simp [gup, pu, e] <;> first | assumption | exact q2 m hm | (rw [if_neg (by omega)]; exact q2 m hm) | (rw [if_neg (by omega)]; assumption)

theorem cRel_wau {R A : Nat} {s : pT} {σ : gSt} (h : cRel R A s σ) (hR : R ≤ 6) (hA : A ≤ 5) {a : Nat} (ha : a < A) (v : Nat) : cRel R A (pu s.1 2 1 a v, s.2) (gup σ (20 + a) 0 (nI v)) := by
  refine cRel_A h hR hA (fun a ha => gup_ne _ _ (by omega)) (fun k hk => ?_) (fun c h2 h5 h6 h17 => pu_c _ (by assumption)) (pu_i _ (by decide)) (pu_i _ (by decide))
  obtain ⟨q0, q1, q2⟩ := h.2.2.2.2.1 k hk
  by_cases e : k = a
  · subst e
    refine ⟨?_, ?_, fun m hm => ?_⟩ <;> simp [gup, pu] <;> first | assumption | exact q2 m hm | (rw [if_neg (by omega)]; exact q2 m hm)
  · refine ⟨?_, ?_, fun m hm => ?_⟩ <;> simp [gup, pu, e] <;> first | assumption | exact q2 m hm | (rw [if_neg (by omega)]; exact q2 m hm) | (rw [if_neg (by omega)]; assumption)

theorem cRel_wa {R A : Nat} {s : pT} {σ : gSt} (h : cRel R A s σ) (hR : R ≤ 6) (hA : A ≤ 5) {a n : Nat} (ha : a < A) (v : Nat) : cRel R A (pu s.1 6 a n v, s.2) (gup σ (30 + a) n (nI v)) := by
  refine cRel_A h hR hA (fun a ha => gup_ne _ _ (by omega)) (fun k hk => ?_) (fun c h2 h5 h6 h17 => pu_c _ (by assumption)) (congrFun (pu_c _ (by decide)) 0) (congrFun (pu_c _ (by decide)) 2)
  obtain ⟨q0, q1, q2⟩ := h.2.2.2.2.1 k hk
  by_cases e : k = a
  · subst e
    refine ⟨?_, ?_, fun m hm => ?_⟩
    · simp [gup, pu]; first | assumption | (rw [if_neg (by omega)]; assumption)
    · simp [gup, pu]; first | assumption | (rw [if_neg (by omega)]; assumption)
    · by_cases e2 : m = n
      · subst e2; simp [gup, pu]
      · simp [gup, pu, e2]; exact q2 m hm
  · refine ⟨?_, ?_, fun m hm => ?_⟩ <;> simp [gup, pu, e] <;> first | assumption | exact q2 m hm | (rw [if_neg (by omega)]; exact q2 m hm) | (rw [if_neg (by omega)]; assumption)

theorem cRel_wmu {R A : Nat} {s : pT} {σ : gSt} (h : cRel R A s σ) (hR : R ≤ 6) (hA : A ≤ 5) {m : Nat} (hm : m < R) (v : Nat) : cRel R A (pu s.1 2 0 m v, s.2) (gup σ (10 + m) 0 (nI v)) := by
  refine cRel_M h hR hA (fun a ha => gup_ne _ _ (by omega)) (fun k hk => ?_) (fun c h2 h3 h4 _ => pu_c _ (by assumption)) (pu_i _ (by decide)) (pu_i _ (by decide))
  obtain ⟨q0, q1, q2⟩ := h.2.2.2.1 k hk
  by_cases e : k = m
  · subst e
    simp [gup, pu, q0, q1, q2]
  · simp [gup, pu, e, q0, q1, q2]
theorem cRel_wcame {R A : Nat} {s : pT} {σ : gSt} (h : cRel R A s σ) (v : Nat) : cRel R A (pu s.1 1 1 0 v, s.2) (gup σ 0 5 (nI v)) := by
  refine cRel_O h (fun a ha => gup_ne _ _ ha) ?_ (fun c h => pu_c _ h) rfl
  obtain ⟨q1, q2⟩ := h.1
  exact ⟨gup_at _ _ _ _, q2⟩
theorem cRel_wbegun {R A : Nat} {s : pT} {σ : gSt} (h : cRel R A s σ) (v : Nat) : cRel R A (pu s.1 1 2 0 v, s.2) (gup σ 0 6 (nI v)) := by
  refine cRel_O h (fun a ha => gup_ne _ _ ha) ?_ (fun c h => pu_c _ h) rfl
  obtain ⟨q1, q2⟩ := h.1
  exact ⟨q1, gup_at _ _ _ _⟩
