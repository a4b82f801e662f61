theorem cP_lt {R A : Nat} (hRA : pRA R A) {k : Nat} (hk : k ∈ (cG R A).1) : (cI R A).2 k < R + 2 * A + 22 := by
  obtain ⟨h1, h2, h3⟩ := hRA
  have h9 : ∀ k ∈ cIds R A, cPos R A k < R + 2 * A + 22 := by
    rcases (show R = 1 ∨ R = 2 ∨ R = 3 ∨ R = 4 ∨ R = 5 ∨ R = 6 by omega) with h | h | h | h | h | h <;> subst h <;> (rcases h3 with h3 | h3 <;> subst h3 <;> decide +kernel)
  exact h9 k hk
/-! THE LAW'S START -/
def κ6 : kW := fun _ => .inr (5, [none, none, none, none, none, some (.inl (nI (0))), some (.inl (nI (0)))])
def κ7 : kW := fun _ => .inr (6, [some (.inl (nI (0))), some (.inl (nI (0))), some (.inl (nI (0))), none, none, some (.inl (nI (0))), some (.inl (nI (0))), some (.inl (nI (0))), some (.inl (nI (0))), none, none, none, none, none, none, none, none, none, none, none, none, none, none, none, none, none])
theorem one_made {I : kI} (hI : kOk I) (h0 : (0 : Nat) ∈ I.1) (hp : I.2 0 = 0) : ∀ k, kM I 1 k → k = 0 := fun k hk => hI.2 k 0 hk.1 h0 (by have := hk.2; omega)
set_option maxRecDepth 100000 in
theorem whole_start {p : Program} {e : Env} {s : State} {m : MethodId} {below : List Frame} {meth : Method} {c : Code} (l : Launch) (hl : l.stackTraces = false) {b L : Nat} {xs : Nat → Int32} (hL : L ≤ 2050) (C0 : lw_At p s m meth c b L xs) : W p l e room_1 s m #[Value.ref b] below meth c s.heap [] 0 0 (lw_Z below #[Value.ref b] s) (entryFrame m ([Value.ref b] : List Value).toArray 7) := by
  obtain ⟨hx, hb, hret, hml, hown, hts, hX, hbl, hlocks, hgv⟩ := C0
  obtain ⟨D, cy, cl, hK⟩ := law_K hts
  have hKg : va_K D vwCl (gtys cy) s := hK.g
  have hE := law_env hts hgv hKg
  have hkE := law_kenv hts
  obtain ⟨R, A, hRA, hxR, hyA⟩ := law_RA (cV L xs 0) (cV L xs 1)
  have hws : ∀ w ∈ lawWs, w.before #[Value.ref b] s = true := fun w h => by
    rcases List.mem_cons.mp h with h | h
    · subst h
      exact hts _ (wsU_in uw_1_0)
    · exact hts _ (wsU_in h)
  have CF : p.tables.exec = Jvm.exec ∧ c.code = code ∧ c.maxLocals = 7 ∧ s.vm.findClass RL = some m.cls ∧ (∀ w ∈ lawWs, w.before #[Value.ref b] s = true) := ⟨hx, hb, hml, hown, hws⟩
  rw [lg_entry_eq]
  have Lv0 : lv_has ((lg_sl ([Value.ref b] : List Value) ++ List.replicate (7 - (lg_sl ([Value.ref b] : List Value)).length) Slot.unset).toArray) 7 [(0, Value.ref b)] := lv_entry ([.ref b] : List Value) (n := 7) (Nat.le_of_ble_eq_true rfl)
  generalize ((lg_sl ([Value.ref b] : List Value) ++ List.replicate (7 - (lg_sl ([Value.ref b] : List Value)).length) Slot.unset).toArray) = ls0 at Lv0
  have hA0 : ∀ q, s.heap.size ≤ q → (fun q => s.heap.size ≤ q) q := fun q h => h
  -- new CommitCouncil
  refine va_new (D := D) (cl := vwCl) (tys := gtys cy) (ws := []) (A := fun q => s.heap.size ≤ q) (H0 := s.heap) (own := RL) (C := RX6) (T := TX6) (N := 7) (ci := 5) (index := 8) (Ts := lawWs) (fs := ([none, none, none, none, none, some (.inl (nI (0))), some (.inl (nI (0)))] : List (Option gAV)).map (kfv (fun _ => 0))) hx hb hws (fun w h => List.mem_cons_of_mem _ (hU6 w h)) tyX6 tyX6_ok hown (hws _ (List.mem_cons_of_mem _ uw_1_18)) (hws _ (List.mem_cons_of_mem _ uw_1_19)) (hws _ (List.mem_cons_of_mem _ uw_1_1)) hKg (fun k q hq => by simp at hq) ⟨fun i j p q hi _ _ => by simp at hi, fun k q hq => by simp at hq⟩ va_S.rf hA0 rfl (dfX6 _) (by show 0 + 1 ≤ 601024; decide) (by show 0 + 7 ≤ 7293000; decide) dL_law_0 (fun q1 H1 hP1 hD1 hS1 => ?_)
  have hq1 : va_at D vwCl (q1, kce cy (fun _ => q1) (κ6 0)) H1 := hP1 0 _ rfl
  have hA1 : s.heap.size ≤ q1 := hD1.2 0 _ rfl
  clear hP1 hD1
  refine lv_dup hx hb dL_law_3 rfl ?_
  refine lv_aload_n hx hb dL_law_4 rfl (Lv0.2.2 (0, .ref b) (List.mem_of_getElem? (i := 0) rfl)) ?_
  refine lv_iconst (v := nI 0) hx hb dL_law_5 (by decide) ?_
  refine law_cell CF hX hbl hS1 hL (by decide) Lv0.1 (by decide) (by decide) (Nat.le_of_ble_eq_true rfl) dL_law_6 ?_
  refine lv_aload_n hx hb dL_law_9 rfl (Lv0.2.2 (0, .ref b) (List.mem_of_getElem? (i := 0) rfl)) ?_
  refine lv_iconst (v := nI 1) hx hb dL_law_10 (by decide) ?_
  refine law_cell CF hX hbl hS1 hL (by decide) Lv0.1 (by decide) (by decide) (Nat.le_of_ble_eq_true rfl) dL_law_11 ?_
  -- its constructor
  have hI6 := cI_ok hRA
  have hm6 : ∀ k, kM (cI R A) 1 k → k = 0 := one_made hI6 (cIn_lo (R := R) (A := A) (by decide)) rfl
  have hr6 := va_runI (l := l) (e := e) (R := room_1) (below := below) (meth := meth) (H := H1) (locs := []) (cells := 0 + 1) (slots := 0 + 7) (As := [.int (cV L xs 0), .int (cV L xs 1)]) (rest := [.ref q1]) (b := q1) (g := F0 m (11 + 3) ls0 [.int (cV L xs 1), .int (cV L xs 0), .ref q1, .ref q1]) CF
    (kEM_met (k_X6 hRA hxR hyA (κ := κ6) rfl) (l := l) (D := D) (cy := cy) (ad := fun _ => q1) (A := fun q => s.heap.size ≤ q)) (cwI 2 hws (gU_N uw_1_22) rfl rfl rfl (hws _ (List.mem_cons_of_mem _ uw_1_1)) (hws _ (List.mem_cons_of_mem _ uw_1_20)) (hws _ (List.mem_cons_of_mem _ uw_1_21)) rfl (by decide +kernel) ⟨by decide, by decide⟩)
    ⟨kPc_blind, fun U hU hW => ⟨rfl, fun q hq => Nat.le_trans hS1.1 (by rw [← hU]; exact hq), fun k hk => by rw [hm6 k hk, hU]; exact hq1, fun i j hi hj _ => by rw [hm6 i hi, hm6 j hj], fun k hk => hA1, va_K.moved hW.alike hKg, hkE.warm hW⟩⟩ rfl rfl Lv0.1 rfl (lv_room (Nat.le_of_ble_eq_true rfl)) dL_law_14 ⟨by decide, by decide⟩
  intro T1 hT1 Xs1
  obtain ⟨v1, st1, t1, T1', L1, g1, X1', hL1, e11, e12, ⟨⟨ad1, n1, κ1, ev1, hag1, hle1, hwf1, hQ1, hPk1, hIn1, hAd1⟩, hF1⟩, step1⟩ := hr6 T1 hT1 Xs1
  cases ev1
  obtain ⟨-, -, hS2⟩ := vx_keep g1 e11 hS1 (fun q _ h => h) (fun q h => h) hL1 hF1
  obtain ⟨hgP1, hgI1⟩ := c_born hRA hQ1 hPk1 hIn1
  have hsz1 : ∀ k, k ∈ (cG R A).1 → s.heap.size ≤ ad1 k := fun k hk => hAd1 k ⟨hk, by
    obtain ⟨hn1, -⟩ := hQ1
    rw [hn1]
    exact cP_lt hRA hk⟩
  rw [← e11] at hgP1
  have had0 : ad1 0 = q1 := hag1 0 ⟨cIn_lo (R := R) (A := A) (by decide), by show 0 < 1; decide⟩
  refine (fun KK => ?_ : W p l e room_1 s m #[Value.ref b] below meth c T1'.heap ([] ++ L1) (0 + 1 + 43) (0 + 7 + 7000) (lw_Z below #[Value.ref b] s) (F0 m (11 + 3 + 3) ls0 [.ref q1]) → _) ?_
  · obtain ⟨t2, a1, b1⟩ := KK T1' rfl X1'
    exact ⟨t2, step1 t2 a1, b1⟩
  clear step1 X1' Xs1 hr6
  generalize hH2 : T1'.heap = H2 at hgP1 hS2
  generalize hlocs2 : ([] : List Loc) ++ L1 = locs2 at hS2
  clear hPk1 hF1 hT1 hH2 hlocs2
  refine lv_astore_n (lv := [(0, Value.ref b)]) hx hb dL_law_17 rfl Lv0 (by decide) rfl (fun ls1 Lv1 => ?_)
  -- new CommitCouncilModel
  refine va_new (D := D) (cl := vwCl) (tys := gtys cy) (ws := gws (cG R A) cy ad1 (σ0 R A)) (A := fun q => s.heap.size ≤ q) (H0 := s.heap) (own := RL) (C := RX7) (T := TX7) (N := 26) (ci := 6) (index := 86) (Ts := lawWs) (fs := ([some (.inl (nI (0))), some (.inl (nI (0))), some (.inl (nI (0))), none, none, some (.inl (nI (0))), some (.inl (nI (0))), some (.inl (nI (0))), some (.inl (nI (0))), none, none, none, none, none, none, none, none, none, none, none, none, none, none, none, none, none] : List (Option gAV)).map (kfv (fun _ => 0))) hx hb hws (fun w h => List.mem_cons_of_mem _ (hU7 w h)) tyX7 tyX7_ok hown (hws _ (List.mem_cons_of_mem _ uw_3_115)) (hws _ (List.mem_cons_of_mem _ uw_3_116)) (hws _ (List.mem_cons_of_mem _ uw_1_8)) hKg (gws_P hgP1) ⟨(gws_D (sz := s.heap.size) hgI1).1, fun i q hq => by
      obtain ⟨k, hk, rfl⟩ := List.mem_map.mp (List.mem_of_getElem? hq)
      exact hsz1 k hk⟩ hS2 hA0 rfl (dfX7 _) (by show 0 + 1 + 43 + 1 ≤ 601024; decide) (by show 0 + 7 + 7000 + 26 ≤ 7293000; decide) dL_law_18 (fun q2 H3 hP3 hD3 hS3 => ?_)
  have hnew : (gws (cG R A) cy ad1 (σ0 R A) ++ [(q2, Sum.inr (6, ([some (.inl (nI (0))), some (.inl (nI (0))), some (.inl (nI (0))), none, none, some (.inl (nI (0))), some (.inl (nI (0))), some (.inl (nI (0))), some (.inl (nI (0))), none, none, none, none, none, none, none, none, none, none, none, none, none, none, none, none, none] : List (Option gAV)).map (kfv (fun _ => 0))))])[(gws (cG R A) cy ad1 (σ0 R A)).length]? = some (q2, .inr (6, ([some (.inl (nI (0))), some (.inl (nI (0))), some (.inl (nI (0))), none, none, some (.inl (nI (0))), some (.inl (nI (0))), some (.inl (nI (0))), some (.inl (nI (0))), none, none, none, none, none, none, none, none, none, none, none, none, none, none, none, none, none] : List (Option gAV)).map (kfv (fun _ => 0)))) := by
    rw [List.getElem?_append_right (Nat.le_refl _), Nat.sub_self]
    rfl
  have hq2 : va_at D vwCl (q2, kce cy (fun _ => q2) (κ7 0)) H3 := hP3 _ _ hnew
  have hA2 : s.heap.size ≤ q2 := hD3.2 _ _ hnew
  have hold3 : ∀ k, k ∈ (cG R A).1 → ∃ i : Nat, i < (gws (cG R A) cy ad1 (σ0 R A)).length ∧ (gws (cG R A) cy ad1 (σ0 R A) ++ [(q2, Sum.inr (6, ([some (.inl (nI (0))), some (.inl (nI (0))), some (.inl (nI (0))), none, none, some (.inl (nI (0))), some (.inl (nI (0))), some (.inl (nI (0))), some (.inl (nI (0))), none, none, none, none, none, none, none, none, none, none, none, none, none, none, none, none, none] : List (Option gAV)).map (kfv (fun _ => 0))))])[i]? = some (ad1 k, gce cy ad1 (σ0 R A k) ((cG R A).2 k)) := fun k hk => by
    obtain ⟨i, -, hi⟩ := gws_at (cy := cy) (ad := ad1) (σ := σ0 R A) hk rfl
    have hl9 := (List.getElem?_eq_some_iff.mp hi).1
    exact ⟨i, hl9, by rw [List.getElem?_append_left hl9]; exact hi⟩
  have hgP3 : gP (cG R A) D cy ad1 (σ0 R A) H3 := fun k hk => by
    obtain ⟨i, -, hi⟩ := hold3 k hk
    exact hP3 _ _ hi
  have hne3 : ∀ k, k ∈ (cG R A).1 → ad1 k ≠ q2 := fun k hk e => by
    obtain ⟨i, hi1, hi⟩ := hold3 k hk
    have := hD3.1 _ _ _ _ hi hnew e
    omega
  clear hP3 hD3 hnew hold3
  refine lv_dup hx hb dL_law_21 rfl ?_
  refine lv_aload_n hx hb dL_law_22 rfl (Lv1.2.2 (0, .ref b) (List.mem_of_getElem? (i := 1) rfl)) ?_
  refine lv_iconst (v := nI 0) hx hb dL_law_23 (by decide) ?_
  refine law_cell CF hX hbl hS3 hL (by decide) Lv1.1 (by decide) (by decide) (Nat.le_of_ble_eq_true rfl) dL_law_24 ?_
  refine lv_aload_n hx hb dL_law_27 rfl (Lv1.2.2 (0, .ref b) (List.mem_of_getElem? (i := 1) rfl)) ?_
  refine lv_iconst (v := nI 1) hx hb dL_law_28 (by decide) ?_
  refine law_cell CF hX hbl hS3 hL (by decide) Lv1.1 (by decide) (by decide) (Nat.le_of_ble_eq_true rfl) dL_law_29 ?_
  have hm7 : ∀ k, kM mI 1 k → k = 0 := one_made mI_ok (mIn (by decide)) rfl
  have hr7 := va_runI (l := l) (e := e) (R := room_1) (below := below) (meth := meth) (H := H3) (locs := locs2) (cells := 0 + 1 + 43 + 1) (slots := 0 + 7 + 7000 + 26) (As := [.int (cV L xs 0), .int (cV L xs 1)]) (rest := [.ref q2]) (b := q2) (g := F0 m (29 + 3) ls1 [.int (cV L xs 1), .int (cV L xs 0), .ref q2, .ref q2]) CF
    (kEM_met (k_X7 hxR hyA (κ := κ7) rfl) (l := l) (D := D) (cy := cy) (ad := fun _ => q2) (A := fun q => q = q2 ∨ H3.size ≤ q)) (cwI 2 hws (gU_N uw_3_119) rfl rfl rfl (hws _ (List.mem_cons_of_mem _ uw_1_8)) (hws _ (List.mem_cons_of_mem _ uw_3_117)) (hws _ (List.mem_cons_of_mem _ uw_3_118)) rfl (by decide +kernel) ⟨by decide, by decide⟩)
    ⟨kPc_blind, fun U hU hW => ⟨rfl, fun q hq => Or.inr (by rw [← hU]; exact hq), fun k hk => by rw [hm7 k hk, hU]; exact hq2, fun i j hi hj _ => by rw [hm7 i hi, hm7 j hj], fun k hk => Or.inl rfl, va_K.moved hW.alike hKg, hkE.warm hW⟩⟩ rfl rfl Lv1.1 rfl (lv_room (Nat.le_of_ble_eq_true rfl)) dL_law_32 ⟨by decide, by decide⟩
  intro T2 hT2 Xs2
  obtain ⟨v2, st2, t2, T2', L2, g2, X2', hL2, e21, e22, ⟨⟨ad2, n2, κ2, ev2, hag2, hle2, hwf2, hQ2, hPk2, hIn2, hAd2⟩, hF2⟩, step2⟩ := hr7 T2 hT2 Xs2
  cases ev2
  have hAA : ∀ q : Nat, (q = q2 ∨ H3.size ≤ q) → s.heap.size ≤ q := fun q h => h.elim (fun z => by rw [z]; exact hA2) (fun z => Nat.le_trans hS3.1 z)
  obtain ⟨hz4, hk4, hS4⟩ := vx_keep g2 e21 hS3 (A1 := fun q => q = q2 ∨ H3.size ≤ q) (fun q _ h => hAA q h) (fun q h => hAA q h) hL2 hF2
  obtain ⟨σm0, hgP2, hgI2, hmr⟩ := m_born (R := R) (A := A) hRA.2.1 hQ2 hPk2 hIn2
  rw [← e21] at hgP2
  have had2 : ad2 0 = q2 := hag2 0 ⟨mIn (by decide), by decide⟩
  have hmk2 : ∀ k, k ∈ mG.1 → ad2 k = q2 ∨ H3.size ≤ ad2 k := fun k hk => hAd2 k ⟨hk, by
    obtain ⟨hn2, -⟩ := hQ2
    rw [hn2]
    have h9 : ∀ k ∈ mIds, mPos k < 23 := by decide
    exact h9 k hk⟩
  have hsz2 : ∀ k, k ∈ mG.1 → s.heap.size ≤ ad2 k := fun k hk => (hmk2 k hk).elim (fun z => by rw [z]; exact hA2) (fun z => Nat.le_trans hS3.1 z)
  have hgP4 : gP (cG R A) D cy ad1 (σ0 R A) T2'.heap := gP_kept hgP3 (fun k hk => hk4 _ (hgP3 k hk).lt (fun z => z.elim (hne3 k hk) (fun w => absurd (hgP3 k hk).lt (Nat.not_lt.mpr w))))
  have hdis : ∀ k j, k ∈ (cG R A).1 → j ∈ mG.1 → ad1 k ≠ ad2 j := fun k j hk hj z => by
    rcases hmk2 j hj with q | q
    · exact hne3 k hk (z.trans q)
    · have := (hgP3 k hk).lt
      omega
  refine (fun KK => ?_ : W p l e room_1 s m #[Value.ref b] below meth c T2'.heap (locs2 ++ L2) (0 + 1 + 43 + 1 + 22) (0 + 7 + 7000 + 26 + 26903) (lw_Z below #[Value.ref b] s) (F0 m (29 + 3 + 3) ls1 [.ref q2]) → _) ?_
  · obtain ⟨t9, a1, b1⟩ := KK T2' rfl X2'
    exact ⟨t9, step2 t9 a1, b1⟩
  clear step2 X2' Xs2 hr7
  generalize hH4 : T2'.heap = H4 at hgP2 hgP4 hS4 hz4 hk4
  generalize hlocs4 : locs2 ++ L2 = locs4 at hS4
  clear hPk2 hF2 hT2 hH4 hlocs4 hk4
  refine lv_astore_n (lv := [(1, Value.ref q1), (0, Value.ref b)]) hx hb dL_law_35 rfl Lv1 (by decide) rfl (fun ls2 Lv2 => ?_)
  refine lv_iconst (v := nI 1) hx hb dL_law_36 (by decide) ?_
  -- new long[1]
  refine va_newaK (atype := .long) hx hb (hws _ (List.mem_cons_of_mem _ uw_4_157)) rfl dL_law_37 rfl (nI_pos (by decide)) (N := 1) (nI_clamp (by decide)) (by decide) (by show 0 + 1 + 43 + 1 + 22 + 1 ≤ 601024; decide) (by show 0 + 7 + 7000 + 26 + 26903 + 1 ≤ 7293000; decide) rfl (fun H5 cA hc5 hz5 hk5 hAr hNm => ?_)
  have hcA : cA = cl := Option.some.inj (Eq.trans (Eq.symm hNm) (hK.2 6 (cl, .long) rfl).2)
  subst hcA
  have hS5 : va_S (fun q => s.heap.size ≤ q) s.heap H5 locs4 := ⟨by have := hS4.1; omega, fun x h1 h2 => (hk5 x (Nat.lt_of_lt_of_le h1 hS4.1)).trans (hS4.2.1 x h1 h2), hS4.2.2⟩
  show W p l e room_1 s m #[Value.ref b] below meth c H5 locs4 (0 + 1 + 43 + 1 + 22 + 1) (0 + 7 + 7000 + 26 + 26903 + 1) (lw_Z below #[Value.ref b] s) (F0 m (37 + 2) ls2 [.ref H4.size])
  refine lv_astore_n (lv := [(2, Value.ref q2), (1, Value.ref q1), (0, Value.ref b)]) hx hb dL_law_39 rfl Lv2 (by decide) rfl (fun ls3 Lv3 => ?_)
  refine lv_iconst (v := nI 2) hx hb dL_law_40 (by decide) ?_
  refine lv_istore (lv := [(3, Value.ref H4.size), (2, Value.ref q2), (1, Value.ref q1), (0, Value.ref b)]) hx hb dL_law_41 Lv3 (by decide) rfl (fun ls4 Lv4 => ?_)
  have Lv5 : lv_has ls4 7 [(4, Value.int (nI 2)), (3, Value.ref H4.size), (2, Value.ref q2), (1, Value.ref q1), (0, Value.ref b)] := Lv4
  have hwf : lWf R A ad1 ad2 H4.size := ⟨hgI1, hgI2, hdis, fun k hk z => by have := (hgP4 k hk).lt; omega, fun k hk z => by have := (hgP2 k hk).lt; omega⟩
  have C : qCx p l s m #[Value.ref b] meth c D cy cA ad1 ad2 H4.size R A b L xs := ⟨CF, hl, hwf, hK, ⟨hsz1, hsz2, hS4.1⟩, ⟨hX, hbl⟩, hret, hlocks, rfl⟩
  have X5 : qHx s D cy cA ad1 ad2 H4.size R A (σ0 R A) σm0 0 H5 locs4 := ⟨⟨gP_kept hgP4 (fun k hk => hk5 _ (hgP4 k hk).lt), gP_kept hgP2 (fun k hk => hk5 _ (hgP2 k hk).lt), hc5⟩, hS5, hE.step (fun q h => h) va_S.rf hS5⟩
  have KL := q_loop (e := e) (below := below) C hL hRA 513 0 (by decide) (by decide) (α0, []) (σ0 R A) σm0 0 (inv_0 hRA) (c_rel0 hRA) hmr
  refine KL H5 locs4 (0 + 1 + 43 + 1 + 22 + 1) (0 + 7 + 7000 + 26 + 26903 + 1) ls4 (by decide) (by decide) X5 ⟨Lv5.1, Lv5.2.1, fun q hq => Lv5.2.2 q ?_⟩
  rw [had0, had2] at hq
  simp at hq ⊢
  rcases hq with h | h | h | h | h <;> simp [h]
