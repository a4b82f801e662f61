/-! THE CONSTRUCTORS OF THE CLASS'S PARTS -/
theorem kEx.num {I : kI} {M : gM} {bc bs pc : Nat} {lv : List (Option gAV)} {st : List gAV} {n n' n0 : Nat} {κ : kW} {Q : Nat → kW → Prop} (h : n = n') (k : kEx I M bc bs pc lv st n' κ n0 Q) : kEx I M bc bs pc lv st n κ n0 Q := by subst h; exact k
theorem dfX0 : ∀ (ad : Nat → Nat) (j : Nat), j < 3 → defaultValue (tyX0 j) = vp_V (([some (.inl (nI (0))), some (.inl (nI (0))), none] : List (Option gAV)).map (kfv ad)) j := fun ad j hj => by
  rcases (show j = 0 ∨ j = 1 ∨ j = 2 by omega) with h | h | h <;> subst h <;> rfl
theorem nrX0 : ∀ x : gAV, some x ∈ ([some (.inl (nI (0))), some (.inl (nI (0))), none] : List (Option gAV)) → ∃ i, x = .inl i := fun x hx => by
  simp at hx
  exact ⟨_, hx⟩
theorem dfX1 : ∀ (ad : Nat → Nat) (j : Nat), j < 10 → defaultValue (tyX1 j) = vp_V (([some (.inl (nI (0))), some (.inl (nI (0))), some (.inl (nI (0))), some (.inl (nI (0))), some (.inl (nI (0))), some (.inl (nI (0))), none, none, some (.inl (nI (0))), none] : List (Option gAV)).map (kfv ad)) j := fun ad j hj => by
  rcases (show j = 0 ∨ j = 1 ∨ j = 2 ∨ j = 3 ∨ j = 4 ∨ j = 5 ∨ j = 6 ∨ j = 7 ∨ j = 8 ∨ j = 9 by omega) with h | h | h | h | h | h | h | h | h | h <;> subst h <;> rfl
theorem nrX1 : ∀ x : gAV, some x ∈ ([some (.inl (nI (0))), some (.inl (nI (0))), some (.inl (nI (0))), some (.inl (nI (0))), some (.inl (nI (0))), some (.inl (nI (0))), none, none, some (.inl (nI (0))), none] : List (Option gAV)) → ∃ i, x = .inl i := fun x hx => by
  simp at hx
  exact ⟨_, hx⟩
theorem dfX2 : ∀ (ad : Nat → Nat) (j : Nat), j < 4 → defaultValue (tyX2 j) = vp_V (([none, none, some (.inl (nI (0))), none] : List (Option gAV)).map (kfv ad)) j := fun ad j hj => by
  rcases (show j = 0 ∨ j = 1 ∨ j = 2 ∨ j = 3 by omega) with h | h | h | h <;> subst h <;> rfl
theorem nrX2 : ∀ x : gAV, some x ∈ ([none, none, some (.inl (nI (0))), none] : List (Option gAV)) → ∃ i, x = .inl i := fun x hx => by
  simp at hx
  exact ⟨_, hx⟩
theorem dfX3 : ∀ (ad : Nat → Nat) (j : Nat), j < 4 → defaultValue (tyX3 j) = vp_V (([some (.inl (nI (0))), some (.inl (nI (0))), some (.inl (nI (0))), none] : List (Option gAV)).map (kfv ad)) j := fun ad j hj => by
  rcases (show j = 0 ∨ j = 1 ∨ j = 2 ∨ j = 3 by omega) with h | h | h | h <;> subst h <;> rfl
theorem nrX3 : ∀ x : gAV, some x ∈ ([some (.inl (nI (0))), some (.inl (nI (0))), some (.inl (nI (0))), none] : List (Option gAV)) → ∃ i, x = .inl i := fun x hx => by
  simp at hx
  exact ⟨_, hx⟩
theorem dfX4 : ∀ (ad : Nat → Nat) (j : Nat), j < 3 → defaultValue (tyX4 j) = vp_V (([some (.inl (nI (0))), some (.inl (nI (0))), some (.inl (nI (0)))] : List (Option gAV)).map (kfv ad)) j := fun ad j hj => by
  rcases (show j = 0 ∨ j = 1 ∨ j = 2 by omega) with h | h | h <;> subst h <;> rfl
theorem nrX4 : ∀ x : gAV, some x ∈ ([some (.inl (nI (0))), some (.inl (nI (0))), some (.inl (nI (0)))] : List (Option gAV)) → ∃ i, x = .inl i := fun x hx => by
  simp at hx
  exact ⟨_, hx⟩
theorem dfX6 : ∀ (ad : Nat → Nat) (j : Nat), j < 7 → defaultValue (tyX6 j) = vp_V (([none, none, none, none, none, some (.inl (nI (0))), some (.inl (nI (0)))] : List (Option gAV)).map (kfv ad)) j := fun ad j hj => by
  rcases (show j = 0 ∨ j = 1 ∨ j = 2 ∨ j = 3 ∨ j = 4 ∨ j = 5 ∨ j = 6 by omega) with h | h | h | h | h | h | h <;> subst h <;> rfl
theorem nrX6 : ∀ x : gAV, some x ∈ ([none, none, none, none, none, some (.inl (nI (0))), some (.inl (nI (0)))] : List (Option gAV)) → ∃ i, x = .inl i := fun x hx => by
  simp at hx
  exact ⟨_, hx⟩
set_option maxRecDepth 100000 in
theorem k_X5_0 {I : kI} (hI : kOk I) {n : Nat} {κ : kW} (hwf : kwOk I n κ) {o : Nat} (ho : kM I n o) (hko : κ o = .inr (0, [some (.inl (nI (0))), some (.inl (nI (0))), none])) : kEM I mX5_init 0 0 [.inr (o)] n κ (fun n' κ' => n' = n ∧ (∀ j, j ≠ o → κ' j = κ j) ∧ κ' o = .inr (0, [some (.inl (nI (1))), some (.inl (nI (0))), none])) := by
  refine kEM_of hI hwf (fun v hv => ?_) (by decide +kernel) rfl (Nat.le_of_ble_eq_true rfl) ?_
  · rw [List.mem_singleton.mp hv]
    intro k e
    cases e
    exact ho
  refine k_aload_n dX5_init_0 rfl ?_
  refine k_objInit dX5_init_1 (List.mem_cons_of_mem _ uw_1_35) (List.mem_cons_of_mem _ uw_1_24) (List.mem_cons_of_mem _ uw_1_25) ⟨by decide, by decide⟩ ?_
  refine k_aload_n dX5_init_4 rfl ?_
  refine k_iconst (nI (1)) dX5_init_5 (by decide) ?_
  refine k_put (T := TX0) (N := 3) (Cn := RX0) (ref := "CommitCouncil$Member") (ty0 := tyX0) 0 dX5_init_6 (ho.mono (by omega)) hko rfl (fun w h => List.mem_cons_of_mem _ (hU0 w h)) tyX0_ok nmX0 (by decide) (List.mem_cons_of_mem _ uw_1_39) (Or.inl rfl) (Nat.le_of_ble_eq_true rfl) rfl (fun _ => rfl) (fun _ => rfl) ?_
  generalize e1 : va_up κ (o) _ = κ1
  have hko : κ1 (o) = .inr (0, [some (.inl (nI (1))), some (.inl (nI (0))), none]) := by rw [← e1]; exact va_up_self _ _ _
  have ho9 : ∀ j, j ≠ o → κ1 j = κ j := fun j hc9 => by rw [← e1, va_up_ne _ _ (by omega)]
  refine k_vret dX5_init_9 rfl ?_
  exact ⟨rfl, ho9, hko⟩
set_option maxRecDepth 100000 in
theorem k_X5_1 {I : kI} (hI : kOk I) {n : Nat} {κ : kW} (hwf : kwOk I n κ) {o : Nat} (ho : kM I n o) (hko : κ o = .inr (1, [some (.inl (nI (0))), some (.inl (nI (0))), some (.inl (nI (0))), some (.inl (nI (0))), some (.inl (nI (0))), some (.inl (nI (0))), none, none, some (.inl (nI (0))), none])) : kEM I mX5_init 0 0 [.inr (o)] n κ (fun n' κ' => n' = n ∧ (∀ j, j ≠ o → κ' j = κ j) ∧ κ' o = .inr (1, [some (.inl (nI (1))), some (.inl (nI (0))), some (.inl (nI (0))), some (.inl (nI (0))), some (.inl (nI (0))), some (.inl (nI (0))), none, none, some (.inl (nI (0))), none])) := by
  refine kEM_of hI hwf (fun v hv => ?_) (by decide +kernel) rfl (Nat.le_of_ble_eq_true rfl) ?_
  · rw [List.mem_singleton.mp hv]
    intro k e
    cases e
    exact ho
  refine k_aload_n dX5_init_0 rfl ?_
  refine k_objInit dX5_init_1 (List.mem_cons_of_mem _ uw_1_35) (List.mem_cons_of_mem _ uw_1_24) (List.mem_cons_of_mem _ uw_1_25) ⟨by decide, by decide⟩ ?_
  refine k_aload_n dX5_init_4 rfl ?_
  refine k_iconst (nI (1)) dX5_init_5 (by decide) ?_
  refine k_put (T := TX1) (N := 10) (Cn := RX1) (ref := "CommitCouncil$Member") (ty0 := tyX1) 0 dX5_init_6 (ho.mono (by omega)) hko rfl (fun w h => List.mem_cons_of_mem _ (hU1 w h)) tyX1_ok nmX1 (by decide) (List.mem_cons_of_mem _ uw_1_39) (Or.inl rfl) (Nat.le_of_ble_eq_true rfl) rfl (fun _ => rfl) (fun _ => rfl) ?_
  generalize e1 : va_up κ (o) _ = κ1
  have hko : κ1 (o) = .inr (1, [some (.inl (nI (1))), some (.inl (nI (0))), some (.inl (nI (0))), some (.inl (nI (0))), some (.inl (nI (0))), some (.inl (nI (0))), none, none, some (.inl (nI (0))), none]) := by rw [← e1]; exact va_up_self _ _ _
  have ho9 : ∀ j, j ≠ o → κ1 j = κ j := fun j hc9 => by rw [← e1, va_up_ne _ _ (by omega)]
  refine k_vret dX5_init_9 rfl ?_
  exact ⟨rfl, ho9, hko⟩
set_option maxRecDepth 100000 in
theorem k_X5_4 {I : kI} (hI : kOk I) {n : Nat} {κ : kW} (hwf : kwOk I n κ) {o : Nat} (ho : kM I n o) (hko : κ o = .inr (4, [some (.inl (nI (0))), some (.inl (nI (0))), some (.inl (nI (0)))])) : kEM I mX5_init 0 0 [.inr (o)] n κ (fun n' κ' => n' = n ∧ (∀ j, j ≠ o → κ' j = κ j) ∧ κ' o = .inr (4, [some (.inl (nI (1))), some (.inl (nI (0))), some (.inl (nI (0)))])) := by
  refine kEM_of hI hwf (fun v hv => ?_) (by decide +kernel) rfl (Nat.le_of_ble_eq_true rfl) ?_
  · rw [List.mem_singleton.mp hv]
    intro k e
    cases e
    exact ho
  refine k_aload_n dX5_init_0 rfl ?_
  refine k_objInit dX5_init_1 (List.mem_cons_of_mem _ uw_1_35) (List.mem_cons_of_mem _ uw_1_24) (List.mem_cons_of_mem _ uw_1_25) ⟨by decide, by decide⟩ ?_
  refine k_aload_n dX5_init_4 rfl ?_
  refine k_iconst (nI (1)) dX5_init_5 (by decide) ?_
  refine k_put (T := TX4) (N := 3) (Cn := RX4) (ref := "CommitCouncil$Member") (ty0 := tyX4) 0 dX5_init_6 (ho.mono (by omega)) hko rfl (fun w h => List.mem_cons_of_mem _ (hU4 w h)) tyX4_ok nmX4 (by decide) (List.mem_cons_of_mem _ uw_1_39) (Or.inl rfl) (Nat.le_of_ble_eq_true rfl) rfl (fun _ => rfl) (fun _ => rfl) ?_
  generalize e1 : va_up κ (o) _ = κ1
  have hko : κ1 (o) = .inr (4, [some (.inl (nI (1))), some (.inl (nI (0))), some (.inl (nI (0)))]) := by rw [← e1]; exact va_up_self _ _ _
  have ho9 : ∀ j, j ≠ o → κ1 j = κ j := fun j hc9 => by rw [← e1, va_up_ne _ _ (by omega)]
  refine k_vret dX5_init_9 rfl ?_
  exact ⟨rfl, ho9, hko⟩
set_option maxRecDepth 100000 in
theorem k_X4 {I : kI} (hI : kOk I) {n : Nat} {κ : kW} (hwf : kwOk I n κ) {o : Nat} (ho : kM I n o) (hko : κ o = .inr (4, [some (.inl (nI (0))), some (.inl (nI (0))), some (.inl (nI (0)))])) : kEM I mX4_init 0 0 [.inr (o)] n κ (fun n' κ' => n' = n ∧ (∀ j, j ≠ o → κ' j = κ j) ∧ κ' o = .inr (4, [some (.inl (nI (1))), some (.inl (nI (0))), some (.inl (nI (0)))])) := by
  refine kEM_of hI hwf (fun v hv => ?_) (by decide +kernel) rfl (Nat.le_of_ble_eq_true rfl) ?_
  · rw [List.mem_singleton.mp hv]
    intro k e
    cases e
    exact ho
  refine k_aload_n dX4_init_0 rfl ?_
  refine k_callIN (host := RX6) (n9 := 0) (b1 := 0) (b2 := 0) [] [] (k_X5_4 hI hwf (ho.mono (by omega)) hko) dX4_init_1 (gU_N uw_1_34) rfl rfl (by decide +kernel) (List.mem_cons_of_mem _ uw_1_2) (List.mem_cons_of_mem _ uw_1_33) (by decide +kernel) rfl ⟨by decide, by decide⟩ rfl (by decide) (by omega) (by omega) (fun n1 κ1 hq => ?_)
  obtain ⟨hn1, ho9, hko⟩ := hq
  subst hn1
  have ho9 : ∀ j, j ≠ o → κ1 j = κ j := fun j hc9 => ho9 j (by omega)
  refine k_aload_n dX4_init_4 rfl ?_
  refine k_iconst (nI (0)) dX4_init_5 (by decide) ?_
  refine k_put (T := TX4) (N := 3) (Cn := RX4) (ref := "CommitCouncil$Manager") (ty0 := tyX4) 1 dX4_init_6 (ho.mono (by omega)) hko rfl (fun w h => List.mem_cons_of_mem _ (hU4 w h)) tyX4_ok nmX4 (by decide) (List.mem_cons_of_mem _ uw_1_36) (Or.inl rfl) (Nat.le_of_ble_eq_true rfl) rfl (fun _ => rfl) (fun _ => rfl) ?_
  generalize e2 : va_up κ1 (o) _ = κ2
  have hko : κ2 (o) = .inr (4, [some (.inl (nI (1))), some (.inl (nI (0))), some (.inl (nI (0)))]) := by rw [← e2]; exact va_up_self _ _ _
  have ho9 : ∀ j, j ≠ o → κ2 j = κ j := fun j hc9 => by rw [← e2, va_up_ne _ _ (by omega)]; exact ho9 j hc9
  refine k_vret dX4_init_9 rfl ?_
  exact ⟨rfl, ho9, hko⟩
set_option maxRecDepth 100000 in
theorem k_X0 {I : kI} (hI : kOk I) {n : Nat} {κ : kW} (hwf : kwOk I n κ) {o ka R : Nat} (hR : R ≤ 6) (ho : kM I n o) (hk1 : ka ∈ I.1) (hp1 : I.2 ka = n) (hne : o ≠ ka) (hko : κ o = .inr (0, [some (.inl (nI (0))), some (.inl (nI (0))), none])) : kEM I mX0_init 1 R [.inr (o), .inl (nI (R))] n κ (fun n' κ' => n' = n + 1 ∧ (∀ j, j ≠ o ∧ j ≠ ka → κ' j = κ j) ∧ κ' o = .inr (0, [some (.inl (nI (1))), some (.inl (nI (0))), some (.inr (ka))]) ∧ κ' ka = .inl (0, R, .inl (fun _ => 0))) := by
  refine kEM_of hI hwf (fun v hv => ?_) (by decide +kernel) rfl (Nat.le_of_ble_eq_true rfl) ?_
  · rcases List.mem_cons.mp hv with h | h
    · rw [h]
      intro k e
      cases e
      exact ho
    · simp at h
      rw [h]
      exact ok_i _
  refine k_aload_n dX0_init_0 rfl ?_
  refine k_callIN (host := RX6) (n9 := 0) (b1 := 1) (b2 := R) [] [] (k_X5_0 hI hwf (ho.mono (by omega)) hko) dX0_init_1 (gU_N uw_1_34) rfl rfl (by decide +kernel) (List.mem_cons_of_mem _ uw_1_2) (List.mem_cons_of_mem _ uw_1_33) (by decide +kernel) rfl ⟨by decide, by decide⟩ rfl (by decide) (by omega) (by omega) (fun n1 κ1 hq => ?_)
  obtain ⟨hn1, ho9, hko⟩ := hq
  subst hn1
  have ho9 : ∀ j, j ≠ o ∧ j ≠ ka → κ1 j = κ j := fun j hc9 => ho9 j (by omega)
  refine k_aload_n dX0_init_4 rfl ?_
  refine k_iload_n dX0_init_5 rfl ?_
  refine k_newi (k := ka) (N := R) (bc' := 0) (bs' := 0) dX0_init_6 (List.mem_cons_of_mem _ uw_1_71) hk1 hp1 rfl (by omega) (by omega) (by omega) ?_
  generalize e2 : va_up κ1 (ka) _ = κ2
  have hko : κ2 (o) = .inr (0, [some (.inl (nI (1))), some (.inl (nI (0))), none]) := by rw [← e2, va_up_ne _ _ (by omega)]; exact hko
  have hka : κ2 (ka) = .inl (0, R, .inl (fun _ => 0)) := by rw [← e2]; exact va_up_self _ _ _
  have ho9 : ∀ j, j ≠ o ∧ j ≠ ka → κ2 j = κ j := fun j hc9 => by rw [← e2, va_up_ne _ _ (by omega)]; exact ho9 j hc9
  refine k_putF (T := TX0) (N := 3) (Cn := RX0) (ref := "CommitCouncil$Acceptor") (ty0 := tyX0) 2 dX0_init_8 (ho.mono (by omega)) hko rfl (fun w h => List.mem_cons_of_mem _ (hU0 w h)) tyX0_ok nmX0 (by decide) (List.mem_cons_of_mem _ uw_1_63) (Or.inl rfl) (Nat.le_of_ble_eq_true rfl) rfl rfl rfl (fun _ => rfl) (fun _ => rfl) ?_
  generalize e3 : va_up κ2 (o) _ = κ3
  have hka : κ3 (ka) = .inl (0, R, .inl (fun _ => 0)) := by rw [← e3, va_up_ne _ _ (by omega)]; exact hka
  have hko : κ3 (o) = .inr (0, [some (.inl (nI (1))), some (.inl (nI (0))), some (.inr (ka))]) := by rw [← e3]; exact va_up_self _ _ _
  have ho9 : ∀ j, j ≠ o ∧ j ≠ ka → κ3 j = κ j := fun j hc9 => by rw [← e3, va_up_ne _ _ (by omega)]; exact ho9 j hc9
  refine k_vret dX0_init_11 rfl ?_
  exact ⟨rfl, ho9, hko, hka⟩
set_option maxRecDepth 100000 in
theorem k_X1 {I : kI} (hI : kOk I) {n : Nat} {κ : kW} (hwf : kwOk I n κ) {o k1 k2 k3 R A : Nat} (hR : R ≤ 6) (hA : A ≤ 5) (ho : kM I n o) (hk1 : k1 ∈ I.1) (hp1 : I.2 k1 = n) (hk2 : k2 ∈ I.1) (hp2 : I.2 k2 = n + 1) (hk3 : k3 ∈ I.1) (hp3 : I.2 k3 = n + 1 + 1) (hne : o ≠ k1 ∧ o ≠ k2 ∧ o ≠ k3 ∧ k1 ≠ k2 ∧ k1 ≠ k3 ∧ k2 ≠ k3) (hko : κ o = .inr (1, [some (.inl (nI (0))), some (.inl (nI (0))), some (.inl (nI (0))), some (.inl (nI (0))), some (.inl (nI (0))), some (.inl (nI (0))), none, none, some (.inl (nI (0))), none])) : kEM I mX1_init 3 (R + R + R * A) [.inr (o), .inl (nI (R)), .inl (nI (A))] n κ (fun n' κ' => n' = n + 1 + 1 + 1 ∧ (∀ j, j ≠ o ∧ j ≠ k1 ∧ j ≠ k2 ∧ j ≠ k3 → κ' j = κ j) ∧ κ' o = .inr (1, [some (.inl (nI (1))), some (.inl (nI (0))), some (.inl (nI (0))), some (.inl (nI (0))), some (.inl (nI (0))), some (.inl (nI (0))), some (.inr (k1)), some (.inr (k2)), some (.inl (nI (A))), some (.inr (k3))]) ∧ κ' k1 = .inl (0, R, .inl (fun _ => 0)) ∧ κ' k2 = .inl (0, R, .inl (fun _ => 0)) ∧ κ' k3 = .inl (0, (R) * (A), .inl (fun _ => 0))) := by
  have hRA2 : R * A ≤ 20000 := Nat.le_trans (Nat.mul_le_mul hR hA) (by decide)
  refine kEM_of hI hwf (fun v hv => ?_) (by decide +kernel) rfl (Nat.le_of_ble_eq_true rfl) ?_
  · rcases List.mem_cons.mp hv with h | h
    · rw [h]
      intro k e
      cases e
      exact ho
    · simp at h
      rcases h with h | h
      · rw [h]
        exact ok_i _
      · rw [h]
        exact ok_i _
  refine k_aload_n dX1_init_0 rfl ?_
  refine k_callIN (host := RX6) (n9 := 0) (b1 := 3) (b2 := R + R + R * A) [] [] (k_X5_1 hI hwf (ho.mono (by omega)) hko) dX1_init_1 (gU_N uw_1_34) rfl rfl (by decide +kernel) (List.mem_cons_of_mem _ uw_1_2) (List.mem_cons_of_mem _ uw_1_33) (by decide +kernel) rfl ⟨by decide, by decide⟩ rfl (by decide) (by omega) (by omega) (fun n1 κ1 hq => ?_)
  obtain ⟨hn1, ho9, hko⟩ := hq
  subst hn1
  have ho9 : ∀ j, j ≠ o ∧ j ≠ k1 ∧ j ≠ k2 ∧ j ≠ k3 → κ1 j = κ j := fun j hc9 => ho9 j (by omega)
  refine k_aload_n dX1_init_4 rfl ?_
  refine k_iload_n dX1_init_5 rfl ?_
  refine k_putF (T := TX1) (N := 10) (Cn := RX1) (ref := "CommitCouncil$Leader") (ty0 := tyX1) 8 dX1_init_6 (ho.mono (by omega)) hko rfl (fun w h => List.mem_cons_of_mem _ (hU1 w h)) tyX1_ok nmX1 (by decide) (List.mem_cons_of_mem _ uw_1_93) (Or.inl rfl) (Nat.le_of_ble_eq_true rfl) rfl rfl rfl (fun _ => rfl) (fun _ => rfl) ?_
  generalize e2 : va_up κ1 (o) _ = κ2
  have hko : κ2 (o) = .inr (1, [some (.inl (nI (1))), some (.inl (nI (0))), some (.inl (nI (0))), some (.inl (nI (0))), some (.inl (nI (0))), some (.inl (nI (0))), none, none, some (.inl (nI (A))), none]) := by rw [← e2]; exact va_up_self _ _ _
  have ho9 : ∀ j, j ≠ o ∧ j ≠ k1 ∧ j ≠ k2 ∧ j ≠ k3 → κ2 j = κ j := fun j hc9 => by rw [← e2, va_up_ne _ _ (by omega)]; exact ho9 j hc9
  refine k_aload_n dX1_init_9 rfl ?_
  refine k_iload_n dX1_init_10 rfl ?_
  refine k_newi (k := k1) (N := R) (bc' := 2) (bs' := R + R * A) dX1_init_11 (List.mem_cons_of_mem _ uw_1_71) hk1 hp1 rfl (by first | omega | exact hRA2) (by omega) (by omega) ?_
  generalize e3 : va_up κ2 (k1) _ = κ3
  have hko : κ3 (o) = .inr (1, [some (.inl (nI (1))), some (.inl (nI (0))), some (.inl (nI (0))), some (.inl (nI (0))), some (.inl (nI (0))), some (.inl (nI (0))), none, none, some (.inl (nI (A))), none]) := by rw [← e3, va_up_ne _ _ (by omega)]; exact hko
  have hk_1 : κ3 (k1) = .inl (0, R, .inl (fun _ => 0)) := by rw [← e3]; exact va_up_self _ _ _
  have ho9 : ∀ j, j ≠ o ∧ j ≠ k1 ∧ j ≠ k2 ∧ j ≠ k3 → κ3 j = κ j := fun j hc9 => by rw [← e3, va_up_ne _ _ (by omega)]; exact ho9 j hc9
  refine k_putF (T := TX1) (N := 10) (Cn := RX1) (ref := "CommitCouncil$Leader") (ty0 := tyX1) 6 dX1_init_13 (ho.mono (by omega)) hko rfl (fun w h => List.mem_cons_of_mem _ (hU1 w h)) tyX1_ok nmX1 (by decide) (List.mem_cons_of_mem _ uw_1_89) (Or.inl rfl) (Nat.le_of_ble_eq_true rfl) rfl rfl rfl (fun _ => rfl) (fun _ => rfl) ?_
  generalize e4 : va_up κ3 (o) _ = κ4
  have hk_1 : κ4 (k1) = .inl (0, R, .inl (fun _ => 0)) := by rw [← e4, va_up_ne _ _ (by omega)]; exact hk_1
  have hko : κ4 (o) = .inr (1, [some (.inl (nI (1))), some (.inl (nI (0))), some (.inl (nI (0))), some (.inl (nI (0))), some (.inl (nI (0))), some (.inl (nI (0))), some (.inr (k1)), none, some (.inl (nI (A))), none]) := by rw [← e4]; exact va_up_self _ _ _
  have ho9 : ∀ j, j ≠ o ∧ j ≠ k1 ∧ j ≠ k2 ∧ j ≠ k3 → κ4 j = κ j := fun j hc9 => by rw [← e4, va_up_ne _ _ (by omega)]; exact ho9 j hc9
  refine k_aload_n dX1_init_16 rfl ?_
  refine k_iload_n dX1_init_17 rfl ?_
  refine k_newi (k := k2) (N := R) (bc' := 1) (bs' := R * A) dX1_init_18 (List.mem_cons_of_mem _ uw_1_71) hk2 hp2 rfl (by first | omega | exact hRA2) (by omega) (by omega) ?_
  generalize e5 : va_up κ4 (k2) _ = κ5
  have hk_1 : κ5 (k1) = .inl (0, R, .inl (fun _ => 0)) := by rw [← e5, va_up_ne _ _ (by omega)]; exact hk_1
  have hko : κ5 (o) = .inr (1, [some (.inl (nI (1))), some (.inl (nI (0))), some (.inl (nI (0))), some (.inl (nI (0))), some (.inl (nI (0))), some (.inl (nI (0))), some (.inr (k1)), none, some (.inl (nI (A))), none]) := by rw [← e5, va_up_ne _ _ (by omega)]; exact hko
  have hk_2 : κ5 (k2) = .inl (0, R, .inl (fun _ => 0)) := by rw [← e5]; exact va_up_self _ _ _
  have ho9 : ∀ j, j ≠ o ∧ j ≠ k1 ∧ j ≠ k2 ∧ j ≠ k3 → κ5 j = κ j := fun j hc9 => by rw [← e5, va_up_ne _ _ (by omega)]; exact ho9 j hc9
  refine k_putF (T := TX1) (N := 10) (Cn := RX1) (ref := "CommitCouncil$Leader") (ty0 := tyX1) 7 dX1_init_20 (ho.mono (by omega)) hko rfl (fun w h => List.mem_cons_of_mem _ (hU1 w h)) tyX1_ok nmX1 (by decide) (List.mem_cons_of_mem _ uw_1_91) (Or.inl rfl) (Nat.le_of_ble_eq_true rfl) rfl rfl rfl (fun _ => rfl) (fun _ => rfl) ?_
  generalize e6 : va_up κ5 (o) _ = κ6
  have hk_1 : κ6 (k1) = .inl (0, R, .inl (fun _ => 0)) := by rw [← e6, va_up_ne _ _ (by omega)]; exact hk_1
  have hk_2 : κ6 (k2) = .inl (0, R, .inl (fun _ => 0)) := by rw [← e6, va_up_ne _ _ (by omega)]; exact hk_2
  have hko : κ6 (o) = .inr (1, [some (.inl (nI (1))), some (.inl (nI (0))), some (.inl (nI (0))), some (.inl (nI (0))), some (.inl (nI (0))), some (.inl (nI (0))), some (.inr (k1)), some (.inr (k2)), some (.inl (nI (A))), none]) := by rw [← e6]; exact va_up_self _ _ _
  have ho9 : ∀ j, j ≠ o ∧ j ≠ k1 ∧ j ≠ k2 ∧ j ≠ k3 → κ6 j = κ j := fun j hc9 => by rw [← e6, va_up_ne _ _ (by omega)]; exact ho9 j hc9
  refine k_aload_n dX1_init_23 rfl ?_
  refine k_iload_n dX1_init_24 rfl ?_
  refine k_iload_n dX1_init_25 rfl ?_
  refine k_imul dX1_init_26 ?_
  refine kEx.top (v := .inl (nI ((R) * (A)))) (congrArg Sum.inl (pk_mul _ _)) ?_
  refine k_newi (k := k3) (N := (R) * (A)) (bc' := 0) (bs' := 0) dX1_init_27 (List.mem_cons_of_mem _ uw_1_71) hk3 hp3 rfl (by first | omega | exact hRA2) (by omega) (by omega) ?_
  generalize e7 : va_up κ6 (k3) _ = κ7
  have hk_1 : κ7 (k1) = .inl (0, R, .inl (fun _ => 0)) := by rw [← e7, va_up_ne _ _ (by omega)]; exact hk_1
  have hk_2 : κ7 (k2) = .inl (0, R, .inl (fun _ => 0)) := by rw [← e7, va_up_ne _ _ (by omega)]; exact hk_2
  have hko : κ7 (o) = .inr (1, [some (.inl (nI (1))), some (.inl (nI (0))), some (.inl (nI (0))), some (.inl (nI (0))), some (.inl (nI (0))), some (.inl (nI (0))), some (.inr (k1)), some (.inr (k2)), some (.inl (nI (A))), none]) := by rw [← e7, va_up_ne _ _ (by omega)]; exact hko
  have hk_3 : κ7 (k3) = .inl (0, (R) * (A), .inl (fun _ => 0)) := by rw [← e7]; exact va_up_self _ _ _
  have ho9 : ∀ j, j ≠ o ∧ j ≠ k1 ∧ j ≠ k2 ∧ j ≠ k3 → κ7 j = κ j := fun j hc9 => by rw [← e7, va_up_ne _ _ (by omega)]; exact ho9 j hc9
  refine k_putF (T := TX1) (N := 10) (Cn := RX1) (ref := "CommitCouncil$Leader") (ty0 := tyX1) 9 dX1_init_29 (ho.mono (by omega)) hko rfl (fun w h => List.mem_cons_of_mem _ (hU1 w h)) tyX1_ok nmX1 (by decide) (List.mem_cons_of_mem _ uw_1_94) (Or.inl rfl) (Nat.le_of_ble_eq_true rfl) rfl rfl rfl (fun _ => rfl) (fun _ => rfl) ?_
  generalize e8 : va_up κ7 (o) _ = κ8
  have hk_1 : κ8 (k1) = .inl (0, R, .inl (fun _ => 0)) := by rw [← e8, va_up_ne _ _ (by omega)]; exact hk_1
  have hk_2 : κ8 (k2) = .inl (0, R, .inl (fun _ => 0)) := by rw [← e8, va_up_ne _ _ (by omega)]; exact hk_2
  have hk_3 : κ8 (k3) = .inl (0, (R) * (A), .inl (fun _ => 0)) := by rw [← e8, va_up_ne _ _ (by omega)]; exact hk_3
  have hko : κ8 (o) = .inr (1, [some (.inl (nI (1))), some (.inl (nI (0))), some (.inl (nI (0))), some (.inl (nI (0))), some (.inl (nI (0))), some (.inl (nI (0))), some (.inr (k1)), some (.inr (k2)), some (.inl (nI (A))), some (.inr (k3))]) := by rw [← e8]; exact va_up_self _ _ _
  have ho9 : ∀ j, j ≠ o ∧ j ≠ k1 ∧ j ≠ k2 ∧ j ≠ k3 → κ8 j = κ j := fun j hc9 => by rw [← e8, va_up_ne _ _ (by omega)]; exact ho9 j hc9
  refine k_vret dX1_init_32 rfl ?_
  exact ⟨rfl, ho9, hko, hk_1, hk_2, hk_3⟩
set_option maxRecDepth 100000 in
theorem k_X3 {I : kI} (hI : kOk I) {n : Nat} {κ : kW} (hwf : kwOk I n κ) {o ka R : Nat} (hR : R ≤ 6) (ho : kM I n o) (hk1 : ka ∈ I.1) (hp1 : I.2 ka = n) (hne : o ≠ ka) (hko : κ o = .inr (3, [some (.inl (nI (0))), some (.inl (nI (0))), some (.inl (nI (0))), none])) : kEM I mX3_init 1 (401 * (6 + R)) [.inr (o), .inl (nI (R))] n κ (fun n' κ' => n' = n + 1 ∧ (∀ j, j ≠ o ∧ j ≠ ka → κ' j = κ j) ∧ κ' o = .inr (3, [some (.inl (nI (0))), some (.inl (nI (0))), some (.inl (nI (6 + R))), some (.inr (ka))]) ∧ κ' ka = .inl (0, 401 * (6 + R), .inl (fun _ => 0))) := by
  refine kEM_of hI hwf (fun v hv => ?_) (by decide +kernel) rfl (Nat.le_of_ble_eq_true rfl) ?_
  · rcases List.mem_cons.mp hv with h | h
    · rw [h]
      intro k e
      cases e
      exact ho
    · simp at h
      rw [h]
      exact ok_i _
  refine k_aload_n dX3_init_0 rfl ?_
  refine k_objInit dX3_init_1 (List.mem_cons_of_mem _ uw_1_120) (List.mem_cons_of_mem _ uw_1_24) (List.mem_cons_of_mem _ uw_1_25) ⟨by decide, by decide⟩ ?_
  refine k_aload_n dX3_init_4 rfl ?_
  refine k_bipush (nI (6)) dX3_init_5 (by decide) ?_
  refine k_iload_n dX3_init_7 rfl ?_
  refine k_iadd dX3_init_8 ?_
  refine kEx.top (v := .inl (nI (6 + R))) (congrArg Sum.inl (nI_add _ _)) ?_
  refine k_putF (T := TX3) (N := 4) (Cn := RX3) (ref := "CommitCouncil$Mail") (ty0 := tyX3) 2 dX3_init_9 (ho.mono (by omega)) hko rfl (fun w h => List.mem_cons_of_mem _ (hU3 w h)) tyX3_ok nmX3 (by decide) (List.mem_cons_of_mem _ uw_1_125) (Or.inl rfl) (Nat.le_of_ble_eq_true rfl) rfl rfl rfl (fun _ => rfl) (fun _ => rfl) ?_
  generalize e1 : va_up κ (o) _ = κ1
  have hko : κ1 (o) = .inr (3, [some (.inl (nI (0))), some (.inl (nI (0))), some (.inl (nI (6 + R))), none]) := by rw [← e1]; exact va_up_self _ _ _
  have ho9 : ∀ j, j ≠ o ∧ j ≠ ka → κ1 j = κ j := fun j hc9 => by rw [← e1, va_up_ne _ _ (by omega)]
  refine k_aload_n dX3_init_12 rfl ?_
  refine k_sipush (nI (401)) dX3_init_13 (by decide) ?_
  refine k_aload_n dX3_init_16 rfl ?_
  refine k_get (T := TX3) (N := 4) (Cn := RX3) (ref := "CommitCouncil$Mail") 2 dX3_init_17 (ho.mono (by omega)) hko rfl (fun w h => List.mem_cons_of_mem _ (hU3 w h)) (by decide) (List.mem_cons_of_mem _ uw_1_125) (Or.inl rfl) rfl ?_
  refine k_imul dX3_init_20 ?_
  refine kEx.top (v := .inl (nI ((401) * (6 + R)))) (congrArg Sum.inl (pk_mul _ _)) ?_
  refine k_newi (k := ka) (N := (401) * (6 + R)) (bc' := 0) (bs' := 0) dX3_init_21 (List.mem_cons_of_mem _ uw_1_71) hk1 hp1 rfl (by omega) (by omega) (by omega) ?_
  generalize e2 : va_up κ1 (ka) _ = κ2
  have hko : κ2 (o) = .inr (3, [some (.inl (nI (0))), some (.inl (nI (0))), some (.inl (nI (6 + R))), none]) := by rw [← e2, va_up_ne _ _ (by omega)]; exact hko
  have hka : κ2 (ka) = .inl (0, (401) * (6 + R), .inl (fun _ => 0)) := by rw [← e2]; exact va_up_self _ _ _
  have ho9 : ∀ j, j ≠ o ∧ j ≠ ka → κ2 j = κ j := fun j hc9 => by rw [← e2, va_up_ne _ _ (by omega)]; exact ho9 j hc9
  refine k_putF (T := TX3) (N := 4) (Cn := RX3) (ref := "CommitCouncil$Mail") (ty0 := tyX3) 3 dX3_init_23 (ho.mono (by omega)) hko rfl (fun w h => List.mem_cons_of_mem _ (hU3 w h)) tyX3_ok nmX3 (by decide) (List.mem_cons_of_mem _ uw_1_126) (Or.inl rfl) (Nat.le_of_ble_eq_true rfl) rfl rfl rfl (fun _ => rfl) (fun _ => rfl) ?_
  generalize e3 : va_up κ2 (o) _ = κ3
  have hka : κ3 (ka) = .inl (0, (401) * (6 + R), .inl (fun _ => 0)) := by rw [← e3, va_up_ne _ _ (by omega)]; exact hka
  have hko : κ3 (o) = .inr (3, [some (.inl (nI (0))), some (.inl (nI (0))), some (.inl (nI (6 + R))), some (.inr (ka))]) := by rw [← e3]; exact va_up_self _ _ _
  have ho9 : ∀ j, j ≠ o ∧ j ≠ ka → κ3 j = κ j := fun j hc9 => by rw [← e3, va_up_ne _ _ (by omega)]; exact ho9 j hc9
  refine k_vret dX3_init_26 rfl ?_
  exact ⟨rfl, ho9, hko, hka⟩
set_option maxRecDepth 100000 in
theorem k_X2 {I : kI} (hI : kOk I) {n : Nat} {κ : kW} (hwf : kwOk I n κ) {o k1 k2 k3 R A : Nat} (hR : R ≤ 6) (ho : kM I n o) (hk1 : k1 ∈ I.1) (hp1 : I.2 k1 = n) (hk2 : k2 ∈ I.1) (hp2 : I.2 k2 = n + 1) (hk3 : k3 ∈ I.1) (hp3 : I.2 k3 = n + 1 + 1) (hne : o ≠ k1 ∧ o ≠ k2 ∧ o ≠ k3 ∧ k1 ≠ k2 ∧ k1 ≠ k3 ∧ k2 ≠ k3) (hko : κ o = .inr (2, [none, none, some (.inl (nI (0))), none])) : kEM I mX2_init 3 (R + R + 1537) [.inr (o), .inl (nI (R)), .inl (nI (A))] n κ (fun n' κ' => n' = n + 1 + 1 + 1 ∧ (∀ j, j ≠ o ∧ j ≠ k1 ∧ j ≠ k2 ∧ j ≠ k3 → κ' j = κ j) ∧ κ' o = .inr (2, [some (.inr (k1)), some (.inr (k2)), some (.inl (nI (A))), some (.inr (k3))]) ∧ κ' k1 = .inl (0, R, .inl (fun _ => 0)) ∧ κ' k2 = .inl (1, R, .inl (fun _ => 0)) ∧ κ' k3 = .inl (0, 1537, .inl (fun _ => 0))) := by
  refine kEM_of hI hwf (fun v hv => ?_) (by decide +kernel) rfl (Nat.le_of_ble_eq_true rfl) ?_
  · rcases List.mem_cons.mp hv with h | h
    · rw [h]
      intro k e
      cases e
      exact ho
    · simp at h
      rcases h with h | h
      · rw [h]
        exact ok_i _
      · rw [h]
        exact ok_i _
  refine k_aload_n dX2_init_0 rfl ?_
  refine k_objInit dX2_init_1 (List.mem_cons_of_mem _ uw_1_141) (List.mem_cons_of_mem _ uw_1_24) (List.mem_cons_of_mem _ uw_1_25) ⟨by decide, by decide⟩ ?_
  refine k_aload_n dX2_init_4 rfl ?_
  refine k_iload_n dX2_init_5 rfl ?_
  refine k_putF (T := TX2) (N := 4) (Cn := RX2) (ref := "CommitCouncil$Ledger") (ty0 := tyX2) 2 dX2_init_6 (ho.mono (by omega)) hko rfl (fun w h => List.mem_cons_of_mem _ (hU2 w h)) tyX2_ok nmX2 (by decide) (List.mem_cons_of_mem _ uw_1_146) (Or.inl rfl) (Nat.le_of_ble_eq_true rfl) rfl rfl rfl (fun _ => rfl) (fun _ => rfl) ?_
  generalize e1 : va_up κ (o) _ = κ1
  have hko : κ1 (o) = .inr (2, [none, none, some (.inl (nI (A))), none]) := by rw [← e1]; exact va_up_self _ _ _
  have ho9 : ∀ j, j ≠ o ∧ j ≠ k1 ∧ j ≠ k2 ∧ j ≠ k3 → κ1 j = κ j := fun j hc9 => by rw [← e1, va_up_ne _ _ (by omega)]
  refine k_aload_n dX2_init_9 rfl ?_
  refine k_iload_n dX2_init_10 rfl ?_
  refine k_newi (k := k1) (N := R) (bc' := 2) (bs' := R + 1537) dX2_init_11 (List.mem_cons_of_mem _ uw_1_71) hk1 hp1 rfl (by omega) (by omega) (by omega) ?_
  generalize e2 : va_up κ1 (k1) _ = κ2
  have hko : κ2 (o) = .inr (2, [none, none, some (.inl (nI (A))), none]) := by rw [← e2, va_up_ne _ _ (by omega)]; exact hko
  have hk_1 : κ2 (k1) = .inl (0, R, .inl (fun _ => 0)) := by rw [← e2]; exact va_up_self _ _ _
  have ho9 : ∀ j, j ≠ o ∧ j ≠ k1 ∧ j ≠ k2 ∧ j ≠ k3 → κ2 j = κ j := fun j hc9 => by rw [← e2, va_up_ne _ _ (by omega)]; exact ho9 j hc9
  refine k_putF (T := TX2) (N := 4) (Cn := RX2) (ref := "CommitCouncil$Ledger") (ty0 := tyX2) 0 dX2_init_13 (ho.mono (by omega)) hko rfl (fun w h => List.mem_cons_of_mem _ (hU2 w h)) tyX2_ok nmX2 (by decide) (List.mem_cons_of_mem _ uw_1_142) (Or.inl rfl) (Nat.le_of_ble_eq_true rfl) rfl rfl rfl (fun _ => rfl) (fun _ => rfl) ?_
  generalize e3 : va_up κ2 (o) _ = κ3
  have hk_1 : κ3 (k1) = .inl (0, R, .inl (fun _ => 0)) := by rw [← e3, va_up_ne _ _ (by omega)]; exact hk_1
  have hko : κ3 (o) = .inr (2, [some (.inr (k1)), none, some (.inl (nI (A))), none]) := by rw [← e3]; exact va_up_self _ _ _
  have ho9 : ∀ j, j ≠ o ∧ j ≠ k1 ∧ j ≠ k2 ∧ j ≠ k3 → κ3 j = κ j := fun j hc9 => by rw [← e3, va_up_ne _ _ (by omega)]; exact ho9 j hc9
  refine k_aload_n dX2_init_16 rfl ?_
  refine k_iload_n dX2_init_17 rfl ?_
  refine k_newz (k := k2) (N := R) (bc' := 1) (bs' := 1537) dX2_init_18 (List.mem_cons_of_mem _ uw_1_157) hk2 hp2 rfl (by omega) (by omega) (by omega) ?_
  generalize e4 : va_up κ3 (k2) _ = κ4
  have hk_1 : κ4 (k1) = .inl (0, R, .inl (fun _ => 0)) := by rw [← e4, va_up_ne _ _ (by omega)]; exact hk_1
  have hko : κ4 (o) = .inr (2, [some (.inr (k1)), none, some (.inl (nI (A))), none]) := by rw [← e4, va_up_ne _ _ (by omega)]; exact hko
  have hk_2 : κ4 (k2) = .inl (1, R, .inl (fun _ => 0)) := by rw [← e4]; exact va_up_self _ _ _
  have ho9 : ∀ j, j ≠ o ∧ j ≠ k1 ∧ j ≠ k2 ∧ j ≠ k3 → κ4 j = κ j := fun j hc9 => by rw [← e4, va_up_ne _ _ (by omega)]; exact ho9 j hc9
  refine k_putF (T := TX2) (N := 4) (Cn := RX2) (ref := "CommitCouncil$Ledger") (ty0 := tyX2) 1 dX2_init_20 (ho.mono (by omega)) hko rfl (fun w h => List.mem_cons_of_mem _ (hU2 w h)) tyX2_ok nmX2 (by decide) (List.mem_cons_of_mem _ uw_1_144) (Or.inl rfl) (Nat.le_of_ble_eq_true rfl) rfl rfl rfl (fun _ => rfl) (fun _ => rfl) ?_
  generalize e5 : va_up κ4 (o) _ = κ5
  have hk_1 : κ5 (k1) = .inl (0, R, .inl (fun _ => 0)) := by rw [← e5, va_up_ne _ _ (by omega)]; exact hk_1
  have hk_2 : κ5 (k2) = .inl (1, R, .inl (fun _ => 0)) := by rw [← e5, va_up_ne _ _ (by omega)]; exact hk_2
  have hko : κ5 (o) = .inr (2, [some (.inr (k1)), some (.inr (k2)), some (.inl (nI (A))), none]) := by rw [← e5]; exact va_up_self _ _ _
  have ho9 : ∀ j, j ≠ o ∧ j ≠ k1 ∧ j ≠ k2 ∧ j ≠ k3 → κ5 j = κ j := fun j hc9 => by rw [← e5, va_up_ne _ _ (by omega)]; exact ho9 j hc9
  refine k_aload_n dX2_init_23 rfl ?_
  refine k_sipush (nI (1537)) dX2_init_24 (by decide) ?_
  refine k_newi (k := k3) (N := 1537) (bc' := 0) (bs' := 0) dX2_init_27 (List.mem_cons_of_mem _ uw_1_71) hk3 hp3 rfl (by omega) (by omega) (by omega) ?_
  generalize e6 : va_up κ5 (k3) _ = κ6
  have hk_1 : κ6 (k1) = .inl (0, R, .inl (fun _ => 0)) := by rw [← e6, va_up_ne _ _ (by omega)]; exact hk_1
  have hk_2 : κ6 (k2) = .inl (1, R, .inl (fun _ => 0)) := by rw [← e6, va_up_ne _ _ (by omega)]; exact hk_2
  have hko : κ6 (o) = .inr (2, [some (.inr (k1)), some (.inr (k2)), some (.inl (nI (A))), none]) := by rw [← e6, va_up_ne _ _ (by omega)]; exact hko
  have hk_3 : κ6 (k3) = .inl (0, 1537, .inl (fun _ => 0)) := by rw [← e6]; exact va_up_self _ _ _
  have ho9 : ∀ j, j ≠ o ∧ j ≠ k1 ∧ j ≠ k2 ∧ j ≠ k3 → κ6 j = κ j := fun j hc9 => by rw [← e6, va_up_ne _ _ (by omega)]; exact ho9 j hc9
  refine k_putF (T := TX2) (N := 4) (Cn := RX2) (ref := "CommitCouncil$Ledger") (ty0 := tyX2) 3 dX2_init_29 (ho.mono (by omega)) hko rfl (fun w h => List.mem_cons_of_mem _ (hU2 w h)) tyX2_ok nmX2 (by decide) (List.mem_cons_of_mem _ uw_1_147) (Or.inl rfl) (Nat.le_of_ble_eq_true rfl) rfl rfl rfl (fun _ => rfl) (fun _ => rfl) ?_
  generalize e7 : va_up κ6 (o) _ = κ7
  have hk_1 : κ7 (k1) = .inl (0, R, .inl (fun _ => 0)) := by rw [← e7, va_up_ne _ _ (by omega)]; exact hk_1
  have hk_2 : κ7 (k2) = .inl (1, R, .inl (fun _ => 0)) := by rw [← e7, va_up_ne _ _ (by omega)]; exact hk_2
  have hk_3 : κ7 (k3) = .inl (0, 1537, .inl (fun _ => 0)) := by rw [← e7, va_up_ne _ _ (by omega)]; exact hk_3
  have hko : κ7 (o) = .inr (2, [some (.inr (k1)), some (.inr (k2)), some (.inl (nI (A))), some (.inr (k3))]) := by rw [← e7]; exact va_up_self _ _ _
  have ho9 : ∀ j, j ≠ o ∧ j ≠ k1 ∧ j ≠ k2 ∧ j ≠ k3 → κ7 j = κ j := fun j hc9 => by rw [← e7, va_up_ne _ _ (by omega)]; exact ho9 j hc9
  refine k_vret dX2_init_32 rfl ?_
  exact ⟨rfl, ho9, hko, hk_1, hk_2, hk_3⟩
