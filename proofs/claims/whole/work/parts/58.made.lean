/-! THE CLASS'S CONSTRUCTOR -/
theorem kEx.wf {I : kI} {M : gM} {bc bs pc : Nat} {lv : List (Option gAV)} {st : List gAV} {n n0 : Nat} {κ : kW} {Q : Nat → kW → Prop} (k : kwOk I n κ → kEx I M bc bs pc lv st n κ n0 Q) : kEx I M bc bs pc lv st n κ n0 Q := fun h => k h h
def cPos (R A k : Nat) : Nat :=
  if k < 10 then (match k with
    | 0 => 0 | 1 => 1 | 2 => R + 2 | 3 => R + 2 * A + 3 | 4 => R + 2 * A + 16 | 5 => R + 2 * A + 17 | 6 => R + 2 * A + 18 | 7 => R + 2 * A + 19 | 8 => R + 2 * A + 20 | _ => R + 2 * A + 21)
  else if k < 20 then 2 + (k - 10)
  else if k < 30 then R + 3 + 2 * (k - 20)
  else if k < 40 then R + 4 + 2 * (k - 30)
  else if k < 50 then R + 2 * A + 4 + 4 * (k - 40)
  else if k < 60 then R + 2 * A + 5 + 4 * (k - 50)
  else if k < 70 then R + 2 * A + 6 + 4 * (k - 60)
  else R + 2 * A + 7 + 4 * (k - 70)
def cI (R A : Nat) : kI := (cIds R A, cPos R A)
theorem cI_in (R A : Nat) (h : ((cI R A).1.all (fun i => (cI R A).1.all (fun j => !((cI R A).2 i == (cI R A).2 j) || i == j))) = true) : ∀ i ∈ (cI R A).1, ∀ j ∈ (cI R A).1, (cI R A).2 i = (cI R A).2 j → i = j := fun i hi j hj e => by
  have h1 := List.all_eq_true.mp (List.all_eq_true.mp h i hi) j hj
  simpa [e] using h1
theorem cI_ok {R A : Nat} (h : pRA R A) : kOk (cI R A) := by
  obtain ⟨h1, h2, h3⟩ := h
  rcases (show R = 1 ∨ R = 2 ∨ R = 3 ∨ R = 4 ∨ R = 5 ∨ R = 6 by omega) with h | h | h | h | h | h <;> subst h <;> (rcases h3 with h3 | h3 <;> subst h3 <;> exact ⟨by decide +kernel, fun i j hi hj => (cI_in _ _ (by decide +kernel)) i hi j hj⟩)
section CP
variable {R A : Nat}
theorem cP_m {m : Nat} (h : m < 10) : (cI R A).2 (10 + m) = 2 + m := by
  show cPos R A (10 + m) = _
  unfold cPos
  rw [if_neg (by omega), if_pos (by omega)]
  omega
theorem cP_a {a : Nat} (h : a < 10) : (cI R A).2 (20 + a) = R + 3 + 2 * a := by
  show cPos R A (20 + a) = _
  unfold cPos
  rw [if_neg (by omega), if_neg (by omega), if_pos (by omega)]
  omega
theorem cP_b {a : Nat} (h : a < 10) : (cI R A).2 (30 + a) = R + 4 + 2 * a := by
  show cPos R A (30 + a) = _
  unfold cPos
  rw [if_neg (by omega), if_neg (by omega), if_neg (by omega), if_pos (by omega)]
  omega
theorem cP_l {l : Nat} (h : l < 10) : (cI R A).2 (40 + l) = R + 2 * A + 4 + 4 * l := by
  show cPos R A (40 + l) = _
  unfold cPos
  rw [if_neg (by omega), if_neg (by omega), if_neg (by omega), if_neg (by omega), if_pos (by omega)]
  omega
theorem cP_t {l : Nat} (h : l < 10) : (cI R A).2 (50 + l) = R + 2 * A + 5 + 4 * l := by
  show cPos R A (50 + l) = _
  unfold cPos
  rw [if_neg (by omega), if_neg (by omega), if_neg (by omega), if_neg (by omega), if_neg (by omega), if_pos (by omega)]
  omega
theorem cP_o {l : Nat} (h : l < 10) : (cI R A).2 (60 + l) = R + 2 * A + 6 + 4 * l := by
  show cPos R A (60 + l) = _
  unfold cPos
  rw [if_neg (by omega), if_neg (by omega), if_neg (by omega), if_neg (by omega), if_neg (by omega), if_neg (by omega), if_pos (by omega)]
  omega
theorem cP_s {l : Nat} (h : l < 10) : (cI R A).2 (70 + l) = R + 2 * A + 7 + 4 * l := by
  show cPos R A (70 + l) = _
  unfold cPos
  rw [if_neg (by omega), if_neg (by omega), if_neg (by omega), if_neg (by omega), if_neg (by omega), if_neg (by omega), if_neg (by omega)]
  omega
theorem cM_k {k p n : Nat} (hk : k ∈ (cI R A).1) (hp : (cI R A).2 k = p) (h : p < n) : kM (cI R A) n k := ⟨hk, by rw [hp]; exact h⟩
end CP
theorem vp_inN {j n : Nat} (h : j < n) (hn : n < 2 ^ 31) : vp_in (nI j) n := fun q => by
  rcases q with q | q
  · exact nI_pos (by omega) q
  · rw [nI_clamp (by omega)] at q
    omega
def cFin (R A n : Nat) (κ : kW) : Prop := n = R + 2 * A + 22 ∧ κ 0 = .inr (5, [some (.inr (1)), some (.inr (2)), some (.inr (3)), some (.inr (4)), some (.inr (6)), some (.inl (nI (0))), some (.inl (nI (0)))]) ∧ (∃ g, κ 1 = .inl (4, R, .inr g) ∧ ∀ j, j < R → g j = some (10 + j)) ∧ (∃ g, κ 2 = .inl (2, A, .inr g) ∧ ∀ j, j < A → g j = some (20 + j)) ∧ (∃ g, κ 3 = .inl (3, 3, .inr g) ∧ ∀ j, j < 3 → g j = some (40 + j)) ∧
  κ 4 = .inr (3, [some (.inl (nI (0))), some (.inl (nI (0))), some (.inl (nI (6 + R))), some (.inr (5))]) ∧ κ 5 = .inl (0, 401 * (6 + R), .inl (fun _ => 0)) ∧ κ 6 = .inr (2, [some (.inr (7)), some (.inr (8)), some (.inl (nI (A))), some (.inr (9))]) ∧ κ 7 = .inl (0, R, .inl (fun _ => 0)) ∧ κ 8 = .inl (1, R, .inl (fun _ => 0)) ∧ κ 9 = .inl (0, 1537, .inl (fun _ => 0)) ∧
  (∀ m, m < R → κ (10 + m) = .inr (4, [some (.inl (nI (1))), some (.inl (nI (0))), some (.inl (nI (0)))])) ∧ (∀ a, a < A → κ (20 + a) = .inr (0, [some (.inl (nI (1))), some (.inl (nI (0))), some (.inr (30 + a))])) ∧ (∀ a, a < A → κ (30 + a) = .inl (0, R, .inl (fun _ => 0))) ∧ (∀ l, l < 3 → κ (40 + l) = .inr (1, [some (.inl (nI (1))), some (.inl (nI (0))), some (.inl (nI (0))), some (.inl (nI (0))), some (.inl (nI (0))), some (.inl (nI (0))), some (.inr (50 + l)), some (.inr (60 + l)), some (.inl (nI (A))), some (.inr (70 + l))])) ∧ (∀ l, l < 3 → κ (50 + l) = .inl (0, R, .inl (fun _ => 0))) ∧ (∀ l, l < 3 → κ (60 + l) = .inl (0, R, .inl (fun _ => 0))) ∧ ∀ l, l < 3 → κ (70 + l) = .inl (0, (R) * (A), .inl (fun _ => 0))
set_option maxRecDepth 100000 in
theorem k_X6_150 {R A : Nat} (hRA : pRA R A) {x y : Int32} {z : Option gAV} : ∀ (κ : kW) (g1 : Nat → Option Nat) (g2 : Nat → Option Nat) (g3 : Nat → Option Nat), κ (0) = .inr (5, [some (.inr (1)), some (.inr (2)), some (.inr (3)), none, none, some (.inl (nI (0))), some (.inl (nI (0)))]) → κ (1) = .inl (4, R, .inr g1) → κ (2) = .inl (2, A, .inr g2) → κ (3) = .inl (3, 3, .inr g3) → (∀ m, m < R → κ (10 + m) = .inr (4, [some (.inl (nI (1))), some (.inl (nI (0))), some (.inl (nI (0)))])) → (∀ a, a < A → κ (20 + a) = .inr (0, [some (.inl (nI (1))), some (.inl (nI (0))), some (.inr (30 + a))])) → (∀ a, a < A → κ (30 + a) = .inl (0, R, .inl (fun _ => 0))) → (∀ l, l < 3 → κ (40 + l) = .inr (1, [some (.inl (nI (1))), some (.inl (nI (0))), some (.inl (nI (0))), some (.inl (nI (0))), some (.inl (nI (0))), some (.inl (nI (0))), some (.inr (50 + l)), some (.inr (60 + l)), some (.inl (nI (A))), some (.inr (70 + l))])) → (∀ l, l < 3 → κ (50 + l) = .inl (0, R, .inl (fun _ => 0))) → (∀ l, l < 3 → κ (60 + l) = .inl (0, R, .inl (fun _ => 0))) → (∀ l, l < 3 → κ (70 + l) = .inl (0, (R) * (A), .inl (fun _ => 0))) → (∀ j, j < R → g1 j = some (10 + j)) → (∀ j, j < A → g2 j = some (20 + j)) → (∀ j, j < 3 → g3 j = some (40 + j)) → kEx (cI R A) mX6_init (12) (6756) 150 [some (.inr (0)), some (.inl (x)), some (.inl (y)), some (.inl (nI (R))), some (.inl (nI (A))), z] [] (R + 2 * A + 16) κ 1 (cFin R A) := by
  have hRA' := hRA
  obtain ⟨hR1, hR2, hA1⟩ := hRA'
  have hA2 : A ≤ 5 := by omega
  have hRA3 : R * A ≤ 30 := Nat.mul_le_mul hR2 hA2
  intro κ g1 g2 g3 h0 h1 h2 h3 hM hAc hBc hLe hT hO hSe hg1 hg2 hg3
  refine k_aload_n dX6_init_150 rfl ?_
  refine k_new (k := 4) (ci := 3) (Cn := RX3) (T := TX3) (N := 4) (ty0 := tyX3) (fs := [some (.inl (nI (0))), some (.inl (nI (0))), some (.inl (nI (0))), none]) (bc' := 11) (bs' := 6752) dX6_init_151 rfl (fun w h => List.mem_cons_of_mem _ (hU3 w h)) tyX3_ok (List.mem_cons_of_mem _ uw_1_115) (List.mem_cons_of_mem _ uw_1_116) (List.mem_cons_of_mem _ uw_1_6) (cIn_lo (by decide)) ((show (cI R A).2 4 = R + 2 * A + 16 from rfl).trans (by omega)) (dfX3) (nrX3) (by omega) (by omega) ?_
  generalize e1 : va_up κ (4) _ = κ1
  have h0 : κ1 (0) = .inr (5, [some (.inr (1)), some (.inr (2)), some (.inr (3)), none, none, some (.inl (nI (0))), some (.inl (nI (0)))]) := by rw [← e1, va_up_ne _ _ (by omega)]; exact h0
  have h1 : κ1 (1) = .inl (4, R, .inr g1) := by rw [← e1, va_up_ne _ _ (by omega)]; exact h1
  have h2 : κ1 (2) = .inl (2, A, .inr g2) := by rw [← e1, va_up_ne _ _ (by omega)]; exact h2
  have h3 : κ1 (3) = .inl (3, 3, .inr g3) := by rw [← e1, va_up_ne _ _ (by omega)]; exact h3
  have hM : ∀ m, m < R → κ1 (10 + m) = .inr (4, [some (.inl (nI (1))), some (.inl (nI (0))), some (.inl (nI (0)))]) := fun m hc9 => by rw [← e1, va_up_ne _ _ (by omega)]; exact hM m hc9
  have hAc : ∀ a, a < A → κ1 (20 + a) = .inr (0, [some (.inl (nI (1))), some (.inl (nI (0))), some (.inr (30 + a))]) := fun a hc9 => by rw [← e1, va_up_ne _ _ (by omega)]; exact hAc a hc9
  have hBc : ∀ a, a < A → κ1 (30 + a) = .inl (0, R, .inl (fun _ => 0)) := fun a hc9 => by rw [← e1, va_up_ne _ _ (by omega)]; exact hBc a hc9
  have hLe : ∀ l, l < 3 → κ1 (40 + l) = .inr (1, [some (.inl (nI (1))), some (.inl (nI (0))), some (.inl (nI (0))), some (.inl (nI (0))), some (.inl (nI (0))), some (.inl (nI (0))), some (.inr (50 + l)), some (.inr (60 + l)), some (.inl (nI (A))), some (.inr (70 + l))]) := fun l hc9 => by rw [← e1, va_up_ne _ _ (by omega)]; exact hLe l hc9
  have hT : ∀ l, l < 3 → κ1 (50 + l) = .inl (0, R, .inl (fun _ => 0)) := fun l hc9 => by rw [← e1, va_up_ne _ _ (by omega)]; exact hT l hc9
  have hO : ∀ l, l < 3 → κ1 (60 + l) = .inl (0, R, .inl (fun _ => 0)) := fun l hc9 => by rw [← e1, va_up_ne _ _ (by omega)]; exact hO l hc9
  have hSe : ∀ l, l < 3 → κ1 (70 + l) = .inl (0, (R) * (A), .inl (fun _ => 0)) := fun l hc9 => by rw [← e1, va_up_ne _ _ (by omega)]; exact hSe l hc9
  have h4 : κ1 (4) = .inr (3, [some (.inl (nI (0))), some (.inl (nI (0))), some (.inl (nI (0))), none]) := by rw [← e1]; exact va_up_self _ _ _
  refine k_dup dX6_init_154 ?_
  refine k_iload_n dX6_init_155 rfl ?_
  refine kEx.wf (fun hwf => ?_)
  refine k_callI (n9 := 1) (b1 := 10) (b2 := 1940) [.inl (nI (R))] [.inr (4), .inr (0)] (k_X3 (cI_ok hRA) hwf (ka := 5) (R := R) hR2 (cM_k (cIn_lo (by decide)) (show (cI R A).2 4 = R + 2 * A + 16 from rfl) (by omega)) (cIn_lo (by decide)) ((show (cI R A).2 5 = R + 2 * A + 17 from rfl).trans (by omega)) (by decide) h4) dX6_init_156 (gU_N uw_1_119) rfl (List.mem_cons_of_mem _ uw_1_6) (List.mem_cons_of_mem _ uw_1_117) (List.mem_cons_of_mem _ uw_1_118) rfl (by decide +kernel) rfl ⟨by decide, by decide⟩ rfl (Nat.le_of_ble_eq_true rfl) (by omega) (by omega) (fun n2 κ2 hq => ?_)
  obtain ⟨hn2, ho2, h4, h5⟩ := hq
  subst hn2
  have h0 : κ2 (0) = .inr (5, [some (.inr (1)), some (.inr (2)), some (.inr (3)), none, none, some (.inl (nI (0))), some (.inl (nI (0)))]) := by rw [ho2 _ (by omega)]; exact h0
  have h1 : κ2 (1) = .inl (4, R, .inr g1) := by rw [ho2 _ (by omega)]; exact h1
  have h2 : κ2 (2) = .inl (2, A, .inr g2) := by rw [ho2 _ (by omega)]; exact h2
  have h3 : κ2 (3) = .inl (3, 3, .inr g3) := by rw [ho2 _ (by omega)]; exact h3
  have hM : ∀ m, m < R → κ2 (10 + m) = .inr (4, [some (.inl (nI (1))), some (.inl (nI (0))), some (.inl (nI (0)))]) := fun m hc9 => by rw [ho2 _ (by omega)]; exact hM m hc9
  have hAc : ∀ a, a < A → κ2 (20 + a) = .inr (0, [some (.inl (nI (1))), some (.inl (nI (0))), some (.inr (30 + a))]) := fun a hc9 => by rw [ho2 _ (by omega)]; exact hAc a hc9
  have hBc : ∀ a, a < A → κ2 (30 + a) = .inl (0, R, .inl (fun _ => 0)) := fun a hc9 => by rw [ho2 _ (by omega)]; exact hBc a hc9
  have hLe : ∀ l, l < 3 → κ2 (40 + l) = .inr (1, [some (.inl (nI (1))), some (.inl (nI (0))), some (.inl (nI (0))), some (.inl (nI (0))), some (.inl (nI (0))), some (.inl (nI (0))), some (.inr (50 + l)), some (.inr (60 + l)), some (.inl (nI (A))), some (.inr (70 + l))]) := fun l hc9 => by rw [ho2 _ (by omega)]; exact hLe l hc9
  have hT : ∀ l, l < 3 → κ2 (50 + l) = .inl (0, R, .inl (fun _ => 0)) := fun l hc9 => by rw [ho2 _ (by omega)]; exact hT l hc9
  have hO : ∀ l, l < 3 → κ2 (60 + l) = .inl (0, R, .inl (fun _ => 0)) := fun l hc9 => by rw [ho2 _ (by omega)]; exact hO l hc9
  have hSe : ∀ l, l < 3 → κ2 (70 + l) = .inl (0, (R) * (A), .inl (fun _ => 0)) := fun l hc9 => by rw [ho2 _ (by omega)]; exact hSe l hc9
  refine k_putF (T := TX6) (N := 7) (Cn := RX6) (ref := "CommitCouncil") (ty0 := tyX6) 3 dX6_init_159 (cM_k (cIn_lo (by decide)) (show (cI R A).2 0 = 0 from rfl) (by omega)) h0 rfl (fun w h => List.mem_cons_of_mem _ (hU6 w h)) tyX6_ok nmX6 (by decide) (List.mem_cons_of_mem _ uw_1_161) (Or.inl rfl) (Nat.le_of_ble_eq_true rfl) rfl rfl rfl (fun _ => rfl) (fun _ => rfl) ?_
  generalize e3 : va_up κ2 (0) _ = κ3
  have h1 : κ3 (1) = .inl (4, R, .inr g1) := by rw [← e3, va_up_ne _ _ (by omega)]; exact h1
  have h2 : κ3 (2) = .inl (2, A, .inr g2) := by rw [← e3, va_up_ne _ _ (by omega)]; exact h2
  have h3 : κ3 (3) = .inl (3, 3, .inr g3) := by rw [← e3, va_up_ne _ _ (by omega)]; exact h3
  have hM : ∀ m, m < R → κ3 (10 + m) = .inr (4, [some (.inl (nI (1))), some (.inl (nI (0))), some (.inl (nI (0)))]) := fun m hc9 => by rw [← e3, va_up_ne _ _ (by omega)]; exact hM m hc9
  have hAc : ∀ a, a < A → κ3 (20 + a) = .inr (0, [some (.inl (nI (1))), some (.inl (nI (0))), some (.inr (30 + a))]) := fun a hc9 => by rw [← e3, va_up_ne _ _ (by omega)]; exact hAc a hc9
  have hBc : ∀ a, a < A → κ3 (30 + a) = .inl (0, R, .inl (fun _ => 0)) := fun a hc9 => by rw [← e3, va_up_ne _ _ (by omega)]; exact hBc a hc9
  have hLe : ∀ l, l < 3 → κ3 (40 + l) = .inr (1, [some (.inl (nI (1))), some (.inl (nI (0))), some (.inl (nI (0))), some (.inl (nI (0))), some (.inl (nI (0))), some (.inl (nI (0))), some (.inr (50 + l)), some (.inr (60 + l)), some (.inl (nI (A))), some (.inr (70 + l))]) := fun l hc9 => by rw [← e3, va_up_ne _ _ (by omega)]; exact hLe l hc9
  have hT : ∀ l, l < 3 → κ3 (50 + l) = .inl (0, R, .inl (fun _ => 0)) := fun l hc9 => by rw [← e3, va_up_ne _ _ (by omega)]; exact hT l hc9
  have hO : ∀ l, l < 3 → κ3 (60 + l) = .inl (0, R, .inl (fun _ => 0)) := fun l hc9 => by rw [← e3, va_up_ne _ _ (by omega)]; exact hO l hc9
  have hSe : ∀ l, l < 3 → κ3 (70 + l) = .inl (0, (R) * (A), .inl (fun _ => 0)) := fun l hc9 => by rw [← e3, va_up_ne _ _ (by omega)]; exact hSe l hc9
  have h4 : κ3 (4) = .inr (3, [some (.inl (nI (0))), some (.inl (nI (0))), some (.inl (nI (6 + R))), some (.inr (5))]) := by rw [← e3, va_up_ne _ _ (by omega)]; exact h4
  have h5 : κ3 (5) = .inl (0, 401 * (6 + R), .inl (fun _ => 0)) := by rw [← e3, va_up_ne _ _ (by omega)]; exact h5
  have h0 : κ3 (0) = .inr (5, [some (.inr (1)), some (.inr (2)), some (.inr (3)), some (.inr (4)), none, some (.inl (nI (0))), some (.inl (nI (0)))]) := by rw [← e3]; exact va_up_self _ _ _
  refine k_aload_n dX6_init_162 rfl ?_
  refine k_new (k := 6) (ci := 2) (Cn := RX2) (T := TX2) (N := 4) (ty0 := tyX2) (fs := [none, none, some (.inl (nI (0))), none]) (bc' := 9) (bs' := 1936) dX6_init_163 rfl (fun w h => List.mem_cons_of_mem _ (hU2 w h)) tyX2_ok (List.mem_cons_of_mem _ uw_1_136) (List.mem_cons_of_mem _ uw_1_137) (List.mem_cons_of_mem _ uw_1_7) (cIn_lo (by decide)) ((show (cI R A).2 6 = R + 2 * A + 18 from rfl).trans (by omega)) (dfX2) (nrX2) (by omega) (by omega) ?_
  generalize e4 : va_up κ3 (6) _ = κ4
  have h1 : κ4 (1) = .inl (4, R, .inr g1) := by rw [← e4, va_up_ne _ _ (by omega)]; exact h1
  have h2 : κ4 (2) = .inl (2, A, .inr g2) := by rw [← e4, va_up_ne _ _ (by omega)]; exact h2
  have h3 : κ4 (3) = .inl (3, 3, .inr g3) := by rw [← e4, va_up_ne _ _ (by omega)]; exact h3
  have hM : ∀ m, m < R → κ4 (10 + m) = .inr (4, [some (.inl (nI (1))), some (.inl (nI (0))), some (.inl (nI (0)))]) := fun m hc9 => by rw [← e4, va_up_ne _ _ (by omega)]; exact hM m hc9
  have hAc : ∀ a, a < A → κ4 (20 + a) = .inr (0, [some (.inl (nI (1))), some (.inl (nI (0))), some (.inr (30 + a))]) := fun a hc9 => by rw [← e4, va_up_ne _ _ (by omega)]; exact hAc a hc9
  have hBc : ∀ a, a < A → κ4 (30 + a) = .inl (0, R, .inl (fun _ => 0)) := fun a hc9 => by rw [← e4, va_up_ne _ _ (by omega)]; exact hBc a hc9
  have hLe : ∀ l, l < 3 → κ4 (40 + l) = .inr (1, [some (.inl (nI (1))), some (.inl (nI (0))), some (.inl (nI (0))), some (.inl (nI (0))), some (.inl (nI (0))), some (.inl (nI (0))), some (.inr (50 + l)), some (.inr (60 + l)), some (.inl (nI (A))), some (.inr (70 + l))]) := fun l hc9 => by rw [← e4, va_up_ne _ _ (by omega)]; exact hLe l hc9
  have hT : ∀ l, l < 3 → κ4 (50 + l) = .inl (0, R, .inl (fun _ => 0)) := fun l hc9 => by rw [← e4, va_up_ne _ _ (by omega)]; exact hT l hc9
  have hO : ∀ l, l < 3 → κ4 (60 + l) = .inl (0, R, .inl (fun _ => 0)) := fun l hc9 => by rw [← e4, va_up_ne _ _ (by omega)]; exact hO l hc9
  have hSe : ∀ l, l < 3 → κ4 (70 + l) = .inl (0, (R) * (A), .inl (fun _ => 0)) := fun l hc9 => by rw [← e4, va_up_ne _ _ (by omega)]; exact hSe l hc9
  have h4 : κ4 (4) = .inr (3, [some (.inl (nI (0))), some (.inl (nI (0))), some (.inl (nI (6 + R))), some (.inr (5))]) := by rw [← e4, va_up_ne _ _ (by omega)]; exact h4
  have h5 : κ4 (5) = .inl (0, 401 * (6 + R), .inl (fun _ => 0)) := by rw [← e4, va_up_ne _ _ (by omega)]; exact h5
  have h0 : κ4 (0) = .inr (5, [some (.inr (1)), some (.inr (2)), some (.inr (3)), some (.inr (4)), none, some (.inl (nI (0))), some (.inl (nI (0)))]) := by rw [← e4, va_up_ne _ _ (by omega)]; exact h0
  have h6 : κ4 (6) = .inr (2, [none, none, some (.inl (nI (0))), none]) := by rw [← e4]; exact va_up_self _ _ _
  refine k_dup dX6_init_166 ?_
  refine k_iload_n dX6_init_167 rfl ?_
  refine k_iload dX6_init_168 rfl ?_
  refine kEx.wf (fun hwf => ?_)
  refine k_callI (n9 := 2) (b1 := 6) (b2 := 387) [.inl (nI (R)), .inl (nI (A))] [.inr (6), .inr (0)] (k_X2 (cI_ok hRA) hwf (k1 := 7) (k2 := 8) (k3 := 9) (R := R) (A := A) hR2 (cM_k (cIn_lo (by decide)) (show (cI R A).2 6 = R + 2 * A + 18 from rfl) (by omega)) (cIn_lo (by decide)) ((show (cI R A).2 7 = R + 2 * A + 19 from rfl).trans (by omega)) (cIn_lo (by decide)) ((show (cI R A).2 8 = R + 2 * A + 20 from rfl).trans (by omega)) (cIn_lo (by decide)) ((show (cI R A).2 9 = R + 2 * A + 21 from rfl).trans (by omega)) (by decide) h6) dX6_init_170 (gU_N uw_1_140) rfl (List.mem_cons_of_mem _ uw_1_7) (List.mem_cons_of_mem _ uw_1_138) (List.mem_cons_of_mem _ uw_1_139) rfl (by decide +kernel) rfl ⟨by decide, by decide⟩ rfl (Nat.le_of_ble_eq_true rfl) (by omega) (by omega) (fun n5 κ5 hq => ?_)
  obtain ⟨hn5, ho5, h6, h7, h8, h9⟩ := hq
  subst hn5
  have h1 : κ5 (1) = .inl (4, R, .inr g1) := by rw [ho5 _ (by omega)]; exact h1
  have h2 : κ5 (2) = .inl (2, A, .inr g2) := by rw [ho5 _ (by omega)]; exact h2
  have h3 : κ5 (3) = .inl (3, 3, .inr g3) := by rw [ho5 _ (by omega)]; exact h3
  have hM : ∀ m, m < R → κ5 (10 + m) = .inr (4, [some (.inl (nI (1))), some (.inl (nI (0))), some (.inl (nI (0)))]) := fun m hc9 => by rw [ho5 _ (by omega)]; exact hM m hc9
  have hAc : ∀ a, a < A → κ5 (20 + a) = .inr (0, [some (.inl (nI (1))), some (.inl (nI (0))), some (.inr (30 + a))]) := fun a hc9 => by rw [ho5 _ (by omega)]; exact hAc a hc9
  have hBc : ∀ a, a < A → κ5 (30 + a) = .inl (0, R, .inl (fun _ => 0)) := fun a hc9 => by rw [ho5 _ (by omega)]; exact hBc a hc9
  have hLe : ∀ l, l < 3 → κ5 (40 + l) = .inr (1, [some (.inl (nI (1))), some (.inl (nI (0))), some (.inl (nI (0))), some (.inl (nI (0))), some (.inl (nI (0))), some (.inl (nI (0))), some (.inr (50 + l)), some (.inr (60 + l)), some (.inl (nI (A))), some (.inr (70 + l))]) := fun l hc9 => by rw [ho5 _ (by omega)]; exact hLe l hc9
  have hT : ∀ l, l < 3 → κ5 (50 + l) = .inl (0, R, .inl (fun _ => 0)) := fun l hc9 => by rw [ho5 _ (by omega)]; exact hT l hc9
  have hO : ∀ l, l < 3 → κ5 (60 + l) = .inl (0, R, .inl (fun _ => 0)) := fun l hc9 => by rw [ho5 _ (by omega)]; exact hO l hc9
  have hSe : ∀ l, l < 3 → κ5 (70 + l) = .inl (0, (R) * (A), .inl (fun _ => 0)) := fun l hc9 => by rw [ho5 _ (by omega)]; exact hSe l hc9
  have h4 : κ5 (4) = .inr (3, [some (.inl (nI (0))), some (.inl (nI (0))), some (.inl (nI (6 + R))), some (.inr (5))]) := by rw [ho5 _ (by omega)]; exact h4
  have h5 : κ5 (5) = .inl (0, 401 * (6 + R), .inl (fun _ => 0)) := by rw [ho5 _ (by omega)]; exact h5
  have h0 : κ5 (0) = .inr (5, [some (.inr (1)), some (.inr (2)), some (.inr (3)), some (.inr (4)), none, some (.inl (nI (0))), some (.inl (nI (0)))]) := by rw [ho5 _ (by omega)]; exact h0
  refine k_putF (T := TX6) (N := 7) (Cn := RX6) (ref := "CommitCouncil") (ty0 := tyX6) 4 dX6_init_173 (cM_k (cIn_lo (by decide)) (show (cI R A).2 0 = 0 from rfl) (by omega)) h0 rfl (fun w h => List.mem_cons_of_mem _ (hU6 w h)) tyX6_ok nmX6 (by decide) (List.mem_cons_of_mem _ uw_1_162) (Or.inl rfl) (Nat.le_of_ble_eq_true rfl) rfl rfl rfl (fun _ => rfl) (fun _ => rfl) ?_
  generalize e6 : va_up κ5 (0) _ = κ6
  have h1 : κ6 (1) = .inl (4, R, .inr g1) := by rw [← e6, va_up_ne _ _ (by omega)]; exact h1
  have h2 : κ6 (2) = .inl (2, A, .inr g2) := by rw [← e6, va_up_ne _ _ (by omega)]; exact h2
  have h3 : κ6 (3) = .inl (3, 3, .inr g3) := by rw [← e6, va_up_ne _ _ (by omega)]; exact h3
  have hM : ∀ m, m < R → κ6 (10 + m) = .inr (4, [some (.inl (nI (1))), some (.inl (nI (0))), some (.inl (nI (0)))]) := fun m hc9 => by rw [← e6, va_up_ne _ _ (by omega)]; exact hM m hc9
  have hAc : ∀ a, a < A → κ6 (20 + a) = .inr (0, [some (.inl (nI (1))), some (.inl (nI (0))), some (.inr (30 + a))]) := fun a hc9 => by rw [← e6, va_up_ne _ _ (by omega)]; exact hAc a hc9
  have hBc : ∀ a, a < A → κ6 (30 + a) = .inl (0, R, .inl (fun _ => 0)) := fun a hc9 => by rw [← e6, va_up_ne _ _ (by omega)]; exact hBc a hc9
  have hLe : ∀ l, l < 3 → κ6 (40 + l) = .inr (1, [some (.inl (nI (1))), some (.inl (nI (0))), some (.inl (nI (0))), some (.inl (nI (0))), some (.inl (nI (0))), some (.inl (nI (0))), some (.inr (50 + l)), some (.inr (60 + l)), some (.inl (nI (A))), some (.inr (70 + l))]) := fun l hc9 => by rw [← e6, va_up_ne _ _ (by omega)]; exact hLe l hc9
  have hT : ∀ l, l < 3 → κ6 (50 + l) = .inl (0, R, .inl (fun _ => 0)) := fun l hc9 => by rw [← e6, va_up_ne _ _ (by omega)]; exact hT l hc9
  have hO : ∀ l, l < 3 → κ6 (60 + l) = .inl (0, R, .inl (fun _ => 0)) := fun l hc9 => by rw [← e6, va_up_ne _ _ (by omega)]; exact hO l hc9
  have hSe : ∀ l, l < 3 → κ6 (70 + l) = .inl (0, (R) * (A), .inl (fun _ => 0)) := fun l hc9 => by rw [← e6, va_up_ne _ _ (by omega)]; exact hSe l hc9
  have h4 : κ6 (4) = .inr (3, [some (.inl (nI (0))), some (.inl (nI (0))), some (.inl (nI (6 + R))), some (.inr (5))]) := by rw [← e6, va_up_ne _ _ (by omega)]; exact h4
  have h5 : κ6 (5) = .inl (0, 401 * (6 + R), .inl (fun _ => 0)) := by rw [← e6, va_up_ne _ _ (by omega)]; exact h5
  have h6 : κ6 (6) = .inr (2, [some (.inr (7)), some (.inr (8)), some (.inl (nI (A))), some (.inr (9))]) := by rw [← e6, va_up_ne _ _ (by omega)]; exact h6
  have h7 : κ6 (7) = .inl (0, R, .inl (fun _ => 0)) := by rw [← e6, va_up_ne _ _ (by omega)]; exact h7
  have h8 : κ6 (8) = .inl (1, R, .inl (fun _ => 0)) := by rw [← e6, va_up_ne _ _ (by omega)]; exact h8
  have h9 : κ6 (9) = .inl (0, 1537, .inl (fun _ => 0)) := by rw [← e6, va_up_ne _ _ (by omega)]; exact h9
  have h0 : κ6 (0) = .inr (5, [some (.inr (1)), some (.inr (2)), some (.inr (3)), some (.inr (4)), some (.inr (6)), some (.inl (nI (0))), some (.inl (nI (0)))]) := by rw [← e6]; exact va_up_self _ _ _
  refine k_vret dX6_init_176 rfl ?_
  exact ⟨by omega, h0, ⟨g1, h1, hg1⟩, ⟨g2, h2, hg2⟩, ⟨g3, h3, hg3⟩, h4, h5, h6, h7, h8, h9, hM, hAc, hBc, hLe, hT, hO, hSe⟩
set_option maxRecDepth 100000 in
theorem k_X6_ls {R A : Nat} (hRA : pRA R A) {x y : Int32} : ∀ (k i : Nat), i ≤ 3 → 3 - i < k → ∀ (κ : kW) (g3 : Nat → Option Nat) (g1 : Nat → Option Nat) (g2 : Nat → Option Nat), κ (0) = .inr (5, [some (.inr (1)), some (.inr (2)), some (.inr (3)), none, none, some (.inl (nI (0))), some (.inl (nI (0)))]) → κ (1) = .inl (4, R, .inr g1) → κ (2) = .inl (2, A, .inr g2) → κ (3) = .inl (3, 3, .inr g3) → (∀ m, m < R → κ (10 + m) = .inr (4, [some (.inl (nI (1))), some (.inl (nI (0))), some (.inl (nI (0)))])) → (∀ a, a < A → κ (20 + a) = .inr (0, [some (.inl (nI (1))), some (.inl (nI (0))), some (.inr (30 + a))])) → (∀ a, a < A → κ (30 + a) = .inl (0, R, .inl (fun _ => 0))) → (∀ l, l < i → κ (40 + l) = .inr (1, [some (.inl (nI (1))), some (.inl (nI (0))), some (.inl (nI (0))), some (.inl (nI (0))), some (.inl (nI (0))), some (.inl (nI (0))), some (.inr (50 + l)), some (.inr (60 + l)), some (.inl (nI (A))), some (.inr (70 + l))])) → (∀ l, l < i → κ (50 + l) = .inl (0, R, .inl (fun _ => 0))) → (∀ l, l < i → κ (60 + l) = .inl (0, R, .inl (fun _ => 0))) → (∀ l, l < i → κ (70 + l) = .inl (0, (R) * (A), .inl (fun _ => 0))) → (∀ j, j < i → g3 j = some (40 + j)) → (∀ j, j < R → g1 j = some (10 + j)) → (∀ j, j < A → g2 j = some (20 + j)) → kEx (cI R A) mX6_init (24 - 4 * i) (6912 - 52 * i) 121 [some (.inr 0), some (.inl x), some (.inl y), some (.inl (nI (R))), some (.inl (nI (A))), some (.inl (nI (i)))] [] (R + 2 * A + 4 + 4 * i) κ 1 (cFin R A) := by
  have hRA' := hRA
  obtain ⟨hR1, hR2, hA1⟩ := hRA'
  have hA2 : A ≤ 5 := by omega
  have hRA3 : R * A ≤ 30 := Nat.mul_le_mul hR2 hA2
  intro k
  induction k with
  | zero => intro i hi1 hi2; exact absurd hi2 (by omega)
  | succ k ih =>
    intro i hi1 hi2 κ g3 g1 g2 h0 h1 h2 h3 hM hAc hBc hLe hT hO hSe hg hg1 hg2
    refine k_iload dX6_init_121 rfl ?_
    refine k_iconst (nI (3)) dX6_init_123 (by decide) ?_
    refine k_icmp_ge 150 dX6_init_124 (by decide) (fun h124 => ?_) (fun h124 => ?_)
    · skip
      rw [nI_leI (by omega) (by omega)] at h124
      have e9 : i = 3 := by omega
      subst e9
      exact k_X6_150 hRA κ g1 g2 g3 h0 h1 h2 h3 hM hAc hBc hLe hT hO hSe hg1 hg2 hg
    · skip
      rw [nI_leI (by omega) (by omega)] at h124
      refine k_aload_n dX6_init_127 rfl ?_
      refine k_get (T := TX6) (N := 7) (Cn := RX6) (ref := "CommitCouncil") 2 dX6_init_128 (cM_k (cIn_lo (by decide)) (show (cI R A).2 0 = 0 from rfl) (by omega)) h0 rfl (fun w h => List.mem_cons_of_mem _ (hU6 w h)) (by decide) (List.mem_cons_of_mem _ uw_1_160) (Or.inl rfl) rfl ?_
      refine k_iload dX6_init_131 rfl ?_
      refine k_new (k := 40 + i) (ci := 1) (Cn := RX1) (T := TX1) (N := 10) (ty0 := tyX1) (fs := [some (.inl (nI (0))), some (.inl (nI (0))), some (.inl (nI (0))), some (.inl (nI (0))), some (.inl (nI (0))), some (.inl (nI (0))), none, none, some (.inl (nI (0))), none]) (bc' := 23 - 4 * i) (bs' := 6902 - 52 * i) dX6_init_133 rfl (fun w h => List.mem_cons_of_mem _ (hU1 w h)) tyX1_ok (List.mem_cons_of_mem _ uw_1_72) (List.mem_cons_of_mem _ uw_1_74) (List.mem_cons_of_mem _ uw_1_5) (cIn_l (l := i) (by omega)) ((cP_l (by omega)).trans (by omega)) (dfX1) (nrX1) (by omega) (by omega) ?_
      generalize e1 : va_up κ (40 + i) _ = κ1
      have h0 : κ1 (0) = .inr (5, [some (.inr (1)), some (.inr (2)), some (.inr (3)), none, none, some (.inl (nI (0))), some (.inl (nI (0)))]) := by rw [← e1, va_up_ne _ _ (by omega)]; exact h0
      have h1 : κ1 (1) = .inl (4, R, .inr g1) := by rw [← e1, va_up_ne _ _ (by omega)]; exact h1
      have h2 : κ1 (2) = .inl (2, A, .inr g2) := by rw [← e1, va_up_ne _ _ (by omega)]; exact h2
      have h3 : κ1 (3) = .inl (3, 3, .inr g3) := by rw [← e1, va_up_ne _ _ (by omega)]; exact h3
      have hM : ∀ m, m < R → κ1 (10 + m) = .inr (4, [some (.inl (nI (1))), some (.inl (nI (0))), some (.inl (nI (0)))]) := fun m hc9 => by rw [← e1, va_up_ne _ _ (by omega)]; exact hM m hc9
      have hAc : ∀ a, a < A → κ1 (20 + a) = .inr (0, [some (.inl (nI (1))), some (.inl (nI (0))), some (.inr (30 + a))]) := fun a hc9 => by rw [← e1, va_up_ne _ _ (by omega)]; exact hAc a hc9
      have hBc : ∀ a, a < A → κ1 (30 + a) = .inl (0, R, .inl (fun _ => 0)) := fun a hc9 => by rw [← e1, va_up_ne _ _ (by omega)]; exact hBc a hc9
      have hLe : ∀ l, l < i → κ1 (40 + l) = .inr (1, [some (.inl (nI (1))), some (.inl (nI (0))), some (.inl (nI (0))), some (.inl (nI (0))), some (.inl (nI (0))), some (.inl (nI (0))), some (.inr (50 + l)), some (.inr (60 + l)), some (.inl (nI (A))), some (.inr (70 + l))]) := fun l hc9 => by rw [← e1, va_up_ne _ _ (by omega)]; exact hLe l hc9
      have hT : ∀ l, l < i → κ1 (50 + l) = .inl (0, R, .inl (fun _ => 0)) := fun l hc9 => by rw [← e1, va_up_ne _ _ (by omega)]; exact hT l hc9
      have hO : ∀ l, l < i → κ1 (60 + l) = .inl (0, R, .inl (fun _ => 0)) := fun l hc9 => by rw [← e1, va_up_ne _ _ (by omega)]; exact hO l hc9
      have hSe : ∀ l, l < i → κ1 (70 + l) = .inl (0, (R) * (A), .inl (fun _ => 0)) := fun l hc9 => by rw [← e1, va_up_ne _ _ (by omega)]; exact hSe l hc9
      have hn40 : κ1 (40 + i) = .inr (1, [some (.inl (nI (0))), some (.inl (nI (0))), some (.inl (nI (0))), some (.inl (nI (0))), some (.inl (nI (0))), some (.inl (nI (0))), none, none, some (.inl (nI (0))), none]) := by rw [← e1]; exact va_up_self _ _ _
      refine k_dup dX6_init_136 ?_
      refine k_iload_n dX6_init_137 rfl ?_
      refine k_iload dX6_init_138 rfl ?_
      refine kEx.wf (fun hwf => ?_)
      refine k_callI (n9 := 2) (b1 := 20 - 4 * i) (b2 := 6860 - 52 * i) [.inl (nI (R)), .inl (nI (A))] [.inr (40 + i), .inl (nI (i)), .inr (3)] (k_X1 (cI_ok hRA) hwf (k1 := 50 + i) (k2 := 60 + i) (k3 := 70 + i) (R := R) (A := A) hR2 hA2 (cM_k (cIn_l (l := i) (by omega)) (cP_l (by omega)) (by omega)) (cIn_t (l := i) (by omega)) ((cP_t (by omega)).trans (by omega)) (cIn_o (l := i) (by omega)) ((cP_o (by omega)).trans (by omega)) (cIn_s (l := i) (by omega)) ((cP_s (by omega)).trans (by omega)) (by omega) hn40) dX6_init_140 (gU_N uw_1_77) rfl (List.mem_cons_of_mem _ uw_1_5) (List.mem_cons_of_mem _ uw_1_75) (List.mem_cons_of_mem _ uw_1_76) rfl (by decide +kernel) rfl ⟨by decide, by decide⟩ rfl (Nat.le_of_ble_eq_true rfl) (by omega) (by omega) (fun n2 κ2 hq => ?_)
      obtain ⟨hn2, ho2, hn40, hn50, hn60, hn70⟩ := hq
      subst hn2
      have h0 : κ2 (0) = .inr (5, [some (.inr (1)), some (.inr (2)), some (.inr (3)), none, none, some (.inl (nI (0))), some (.inl (nI (0)))]) := by rw [ho2 _ (by omega)]; exact h0
      have h1 : κ2 (1) = .inl (4, R, .inr g1) := by rw [ho2 _ (by omega)]; exact h1
      have h2 : κ2 (2) = .inl (2, A, .inr g2) := by rw [ho2 _ (by omega)]; exact h2
      have h3 : κ2 (3) = .inl (3, 3, .inr g3) := by rw [ho2 _ (by omega)]; exact h3
      have hM : ∀ m, m < R → κ2 (10 + m) = .inr (4, [some (.inl (nI (1))), some (.inl (nI (0))), some (.inl (nI (0)))]) := fun m hc9 => by rw [ho2 _ (by omega)]; exact hM m hc9
      have hAc : ∀ a, a < A → κ2 (20 + a) = .inr (0, [some (.inl (nI (1))), some (.inl (nI (0))), some (.inr (30 + a))]) := fun a hc9 => by rw [ho2 _ (by omega)]; exact hAc a hc9
      have hBc : ∀ a, a < A → κ2 (30 + a) = .inl (0, R, .inl (fun _ => 0)) := fun a hc9 => by rw [ho2 _ (by omega)]; exact hBc a hc9
      have hLe : ∀ l, l < i → κ2 (40 + l) = .inr (1, [some (.inl (nI (1))), some (.inl (nI (0))), some (.inl (nI (0))), some (.inl (nI (0))), some (.inl (nI (0))), some (.inl (nI (0))), some (.inr (50 + l)), some (.inr (60 + l)), some (.inl (nI (A))), some (.inr (70 + l))]) := fun l hc9 => by rw [ho2 _ (by omega)]; exact hLe l hc9
      have hT : ∀ l, l < i → κ2 (50 + l) = .inl (0, R, .inl (fun _ => 0)) := fun l hc9 => by rw [ho2 _ (by omega)]; exact hT l hc9
      have hO : ∀ l, l < i → κ2 (60 + l) = .inl (0, R, .inl (fun _ => 0)) := fun l hc9 => by rw [ho2 _ (by omega)]; exact hO l hc9
      have hSe : ∀ l, l < i → κ2 (70 + l) = .inl (0, (R) * (A), .inl (fun _ => 0)) := fun l hc9 => by rw [ho2 _ (by omega)]; exact hSe l hc9
      refine k_aast3 dX6_init_143 (cM_k (cIn_lo (by decide)) (show (cI R A).2 3 = R + 2 * A + 3 from rfl) (by omega)) h3 (cM_k (cIn_l (l := i) (by omega)) (cP_l (by omega)) (by omega)) hn40 rfl (vp_inN (by omega) (by omega)) ?_
      generalize e3 : va_up κ2 (3) _ = κ3
      have h0 : κ3 (0) = .inr (5, [some (.inr (1)), some (.inr (2)), some (.inr (3)), none, none, some (.inl (nI (0))), some (.inl (nI (0)))]) := by rw [← e3, va_up_ne _ _ (by omega)]; exact h0
      have h1 : κ3 (1) = .inl (4, R, .inr g1) := by rw [← e3, va_up_ne _ _ (by omega)]; exact h1
      have h2 : κ3 (2) = .inl (2, A, .inr g2) := by rw [← e3, va_up_ne _ _ (by omega)]; exact h2
      have hM : ∀ m, m < R → κ3 (10 + m) = .inr (4, [some (.inl (nI (1))), some (.inl (nI (0))), some (.inl (nI (0)))]) := fun m hc9 => by rw [← e3, va_up_ne _ _ (by omega)]; exact hM m hc9
      have hAc : ∀ a, a < A → κ3 (20 + a) = .inr (0, [some (.inl (nI (1))), some (.inl (nI (0))), some (.inr (30 + a))]) := fun a hc9 => by rw [← e3, va_up_ne _ _ (by omega)]; exact hAc a hc9
      have hBc : ∀ a, a < A → κ3 (30 + a) = .inl (0, R, .inl (fun _ => 0)) := fun a hc9 => by rw [← e3, va_up_ne _ _ (by omega)]; exact hBc a hc9
      have hLe : ∀ l, l < i → κ3 (40 + l) = .inr (1, [some (.inl (nI (1))), some (.inl (nI (0))), some (.inl (nI (0))), some (.inl (nI (0))), some (.inl (nI (0))), some (.inl (nI (0))), some (.inr (50 + l)), some (.inr (60 + l)), some (.inl (nI (A))), some (.inr (70 + l))]) := fun l hc9 => by rw [← e3, va_up_ne _ _ (by omega)]; exact hLe l hc9
      have hT : ∀ l, l < i → κ3 (50 + l) = .inl (0, R, .inl (fun _ => 0)) := fun l hc9 => by rw [← e3, va_up_ne _ _ (by omega)]; exact hT l hc9
      have hO : ∀ l, l < i → κ3 (60 + l) = .inl (0, R, .inl (fun _ => 0)) := fun l hc9 => by rw [← e3, va_up_ne _ _ (by omega)]; exact hO l hc9
      have hSe : ∀ l, l < i → κ3 (70 + l) = .inl (0, (R) * (A), .inl (fun _ => 0)) := fun l hc9 => by rw [← e3, va_up_ne _ _ (by omega)]; exact hSe l hc9
      have hn40 : κ3 (40 + i) = .inr (1, [some (.inl (nI (1))), some (.inl (nI (0))), some (.inl (nI (0))), some (.inl (nI (0))), some (.inl (nI (0))), some (.inl (nI (0))), some (.inr (50 + i)), some (.inr (60 + i)), some (.inl (nI (A))), some (.inr (70 + i))]) := by rw [← e3, va_up_ne _ _ (by omega)]; exact hn40
      have hn50 : κ3 (50 + i) = .inl (0, R, .inl (fun _ => 0)) := by rw [← e3, va_up_ne _ _ (by omega)]; exact hn50
      have hn60 : κ3 (60 + i) = .inl (0, R, .inl (fun _ => 0)) := by rw [← e3, va_up_ne _ _ (by omega)]; exact hn60
      have hn70 : κ3 (70 + i) = .inl (0, (R) * (A), .inl (fun _ => 0)) := by rw [← e3, va_up_ne _ _ (by omega)]; exact hn70
      have h3 : κ3 (3) = .inl (3, 3, .inr (va_up g3 ((nI (i)).toNatClampNeg) (some (40 + i)))) := by rw [← e3]; exact va_up_self _ _ _
      refine k_iinc (nI (i + 1)) dX6_init_144 rfl (show nI (i) + nI 1 = _ from nI_add _ _) (by decide) ?_
      refine k_goto 121 dX6_init_147 (by decide) ?_
      refine kEx.num (n' := R + 2 * A + 4 + 4 * (i + 1)) (by omega) ?_
      refine kEx.bud (by omega) (by omega) (ih (i + 1) (by omega) (by omega) _ _ _ _ h0 h1 h2 h3 hM hAc hBc (fun l hl => ?_) (fun l hl => ?_) (fun l hl => ?_) (fun l hl => ?_) (fun j hj => ?_) hg1 hg2)
      · by_cases q : l = i
        · subst q
          exact hn40
        · exact hLe l (by omega)
      · by_cases q : l = i
        · subst q
          exact hn50
        · exact hT l (by omega)
      · by_cases q : l = i
        · subst q
          exact hn60
        · exact hO l (by omega)
      · by_cases q : l = i
        · subst q
          exact hn70
        · exact hSe l (by omega)
      · by_cases q : j = i
        · subst q
          rw [nI_clamp (by omega), va_up_self]
        · rw [va_up_ne _ _ (by rw [nI_clamp (by omega)]; exact q)]
          exact hg j (by omega)
set_option maxRecDepth 100000 in
theorem k_X6_110 {R A : Nat} (hRA : pRA R A) {x y : Int32} {z : Option gAV} : ∀ (κ : kW) (g1 : Nat → Option Nat) (g2 : Nat → Option Nat), κ (0) = .inr (5, [some (.inr (1)), some (.inr (2)), none, none, none, some (.inl (nI (0))), some (.inl (nI (0)))]) → κ (1) = .inl (4, R, .inr g1) → κ (2) = .inl (2, A, .inr g2) → (∀ m, m < R → κ (10 + m) = .inr (4, [some (.inl (nI (1))), some (.inl (nI (0))), some (.inl (nI (0)))])) → (∀ a, a < A → κ (20 + a) = .inr (0, [some (.inl (nI (1))), some (.inl (nI (0))), some (.inr (30 + a))])) → (∀ a, a < A → κ (30 + a) = .inl (0, R, .inl (fun _ => 0))) → (∀ j, j < R → g1 j = some (10 + j)) → (∀ j, j < A → g2 j = some (20 + j)) → kEx (cI R A) mX6_init (25) (6915) 110 [some (.inr (0)), some (.inl (x)), some (.inl (y)), some (.inl (nI (R))), some (.inl (nI (A))), z] [] (R + 2 * A + 3) κ 1 (cFin R A) := by
  have hRA' := hRA
  obtain ⟨hR1, hR2, hA1⟩ := hRA'
  have hA2 : A ≤ 5 := by omega
  have hRA3 : R * A ≤ 30 := Nat.mul_le_mul hR2 hA2
  intro κ g1 g2 h0 h1 h2 hM hAc hBc hg1 hg2
  refine k_aload_n dX6_init_110 rfl ?_
  refine k_iconst (nI (3)) dX6_init_111 (by decide) ?_
  refine k_newq3 (k := 3) (N := 3) (bc' := 24) (bs' := 6912) dX6_init_112 (List.mem_cons_of_mem _ uw_1_72) (cIn_lo (by decide)) ((show (cI R A).2 3 = R + 2 * A + 3 from rfl).trans (by omega)) rfl (by omega) (by omega) (by omega) ?_
  generalize e1 : va_up κ (3) _ = κ1
  have h0 : κ1 (0) = .inr (5, [some (.inr (1)), some (.inr (2)), none, none, none, some (.inl (nI (0))), some (.inl (nI (0)))]) := by rw [← e1, va_up_ne _ _ (by omega)]; exact h0
  have h1 : κ1 (1) = .inl (4, R, .inr g1) := by rw [← e1, va_up_ne _ _ (by omega)]; exact h1
  have h2 : κ1 (2) = .inl (2, A, .inr g2) := by rw [← e1, va_up_ne _ _ (by omega)]; exact h2
  have hM : ∀ m, m < R → κ1 (10 + m) = .inr (4, [some (.inl (nI (1))), some (.inl (nI (0))), some (.inl (nI (0)))]) := fun m hc9 => by rw [← e1, va_up_ne _ _ (by omega)]; exact hM m hc9
  have hAc : ∀ a, a < A → κ1 (20 + a) = .inr (0, [some (.inl (nI (1))), some (.inl (nI (0))), some (.inr (30 + a))]) := fun a hc9 => by rw [← e1, va_up_ne _ _ (by omega)]; exact hAc a hc9
  have hBc : ∀ a, a < A → κ1 (30 + a) = .inl (0, R, .inl (fun _ => 0)) := fun a hc9 => by rw [← e1, va_up_ne _ _ (by omega)]; exact hBc a hc9
  have h3 : κ1 (3) = .inl (3, 3, .inr (fun _ => none)) := by rw [← e1]; exact va_up_self _ _ _
  refine k_putF (T := TX6) (N := 7) (Cn := RX6) (ref := "CommitCouncil") (ty0 := tyX6) 2 dX6_init_115 (cM_k (cIn_lo (by decide)) (show (cI R A).2 0 = 0 from rfl) (by omega)) h0 rfl (fun w h => List.mem_cons_of_mem _ (hU6 w h)) tyX6_ok nmX6 (by decide) (List.mem_cons_of_mem _ uw_1_160) (Or.inl rfl) (Nat.le_of_ble_eq_true rfl) rfl rfl rfl (fun _ => rfl) (fun _ => rfl) ?_
  generalize e2 : va_up κ1 (0) _ = κ2
  have h1 : κ2 (1) = .inl (4, R, .inr g1) := by rw [← e2, va_up_ne _ _ (by omega)]; exact h1
  have h2 : κ2 (2) = .inl (2, A, .inr g2) := by rw [← e2, va_up_ne _ _ (by omega)]; exact h2
  have hM : ∀ m, m < R → κ2 (10 + m) = .inr (4, [some (.inl (nI (1))), some (.inl (nI (0))), some (.inl (nI (0)))]) := fun m hc9 => by rw [← e2, va_up_ne _ _ (by omega)]; exact hM m hc9
  have hAc : ∀ a, a < A → κ2 (20 + a) = .inr (0, [some (.inl (nI (1))), some (.inl (nI (0))), some (.inr (30 + a))]) := fun a hc9 => by rw [← e2, va_up_ne _ _ (by omega)]; exact hAc a hc9
  have hBc : ∀ a, a < A → κ2 (30 + a) = .inl (0, R, .inl (fun _ => 0)) := fun a hc9 => by rw [← e2, va_up_ne _ _ (by omega)]; exact hBc a hc9
  have h3 : κ2 (3) = .inl (3, 3, .inr (fun _ => none)) := by rw [← e2, va_up_ne _ _ (by omega)]; exact h3
  have h0 : κ2 (0) = .inr (5, [some (.inr (1)), some (.inr (2)), some (.inr (3)), none, none, some (.inl (nI (0))), some (.inl (nI (0)))]) := by rw [← e2]; exact va_up_self _ _ _
  refine k_iconst (nI (0)) dX6_init_118 (by decide) ?_
  refine k_istore dX6_init_119 (by decide) ?_
  refine kEx.num (n' := R + 2 * A + 4 + 4 * 0) (by omega) ?_
  exact k_X6_ls hRA 4 0 (by omega) (by omega) _ _ _ _ h0 h1 h2 h3 hM hAc hBc (fun l hl => absurd hl (by omega)) (fun l hl => absurd hl (by omega)) (fun l hl => absurd hl (by omega)) (fun l hl => absurd hl (by omega)) (fun j hj => absurd hj (by omega)) hg1 hg2
set_option maxRecDepth 100000 in
theorem k_X6_as {R A : Nat} (hRA : pRA R A) {x y : Int32} : ∀ (k i : Nat), i ≤ A → A - i < k → ∀ (κ : kW) (g2 : Nat → Option Nat) (g1 : Nat → Option Nat), κ (0) = .inr (5, [some (.inr (1)), some (.inr (2)), none, none, none, some (.inl (nI (0))), some (.inl (nI (0)))]) → κ (1) = .inl (4, R, .inr g1) → κ (2) = .inl (2, A, .inr g2) → (∀ m, m < R → κ (10 + m) = .inr (4, [some (.inl (nI (1))), some (.inl (nI (0))), some (.inl (nI (0)))])) → (∀ a, a < i → κ (20 + a) = .inr (0, [some (.inl (nI (1))), some (.inl (nI (0))), some (.inr (30 + a))])) → (∀ a, a < i → κ (30 + a) = .inl (0, R, .inl (fun _ => 0))) → (∀ j, j < i → g2 j = some (20 + j)) → (∀ j, j < R → g1 j = some (10 + j)) → kEx (cI R A) mX6_init (35 - 2 * i) (6960 - 9 * i) 82 [some (.inr 0), some (.inl x), some (.inl y), some (.inl (nI (R))), some (.inl (nI (A))), some (.inl (nI (i)))] [] (R + 3 + 2 * i) κ 1 (cFin R A) := by
  have hRA' := hRA
  obtain ⟨hR1, hR2, hA1⟩ := hRA'
  have hA2 : A ≤ 5 := by omega
  have hRA3 : R * A ≤ 30 := Nat.mul_le_mul hR2 hA2
  intro k
  induction k with
  | zero => intro i hi1 hi2; exact absurd hi2 (by omega)
  | succ k ih =>
    intro i hi1 hi2 κ g2 g1 h0 h1 h2 hM hAc hBc hg hg1
    refine k_iload dX6_init_82 rfl ?_
    refine k_iload dX6_init_84 rfl ?_
    refine k_icmp_ge 110 dX6_init_86 (by decide) (fun h86 => ?_) (fun h86 => ?_)
    · skip
      rw [nI_leI (by omega) (by omega)] at h86
      have e9 : i = A := by omega
      subst e9
      refine kEx.num (n' := R + 2 * i + 3) (by omega) ?_
      exact kEx.bud (by omega) (by omega) (k_X6_110 hRA κ g1 g2 h0 h1 h2 hM hAc hBc hg1 hg)
    · skip
      rw [nI_leI (by omega) (by omega)] at h86
      refine k_aload_n dX6_init_89 rfl ?_
      refine k_get (T := TX6) (N := 7) (Cn := RX6) (ref := "CommitCouncil") 1 dX6_init_90 (cM_k (cIn_lo (by decide)) (show (cI R A).2 0 = 0 from rfl) (by omega)) h0 rfl (fun w h => List.mem_cons_of_mem _ (hU6 w h)) (by decide) (List.mem_cons_of_mem _ uw_1_159) (Or.inl rfl) rfl ?_
      refine k_iload dX6_init_93 rfl ?_
      refine k_new (k := 20 + i) (ci := 0) (Cn := RX0) (T := TX0) (N := 3) (ty0 := tyX0) (fs := [some (.inl (nI (0))), some (.inl (nI (0))), none]) (bc' := 34 - 2 * i) (bs' := 6957 - 9 * i) dX6_init_95 rfl (fun w h => List.mem_cons_of_mem _ (hU0 w h)) tyX0_ok (List.mem_cons_of_mem _ uw_1_54) (List.mem_cons_of_mem _ uw_1_56) (List.mem_cons_of_mem _ uw_1_4) (cIn_a (a := i) (by omega)) ((cP_a (by omega)).trans (by omega)) (dfX0) (nrX0) (by omega) (by omega) ?_
      generalize e1 : va_up κ (20 + i) _ = κ1
      have h0 : κ1 (0) = .inr (5, [some (.inr (1)), some (.inr (2)), none, none, none, some (.inl (nI (0))), some (.inl (nI (0)))]) := by rw [← e1, va_up_ne _ _ (by omega)]; exact h0
      have h1 : κ1 (1) = .inl (4, R, .inr g1) := by rw [← e1, va_up_ne _ _ (by omega)]; exact h1
      have h2 : κ1 (2) = .inl (2, A, .inr g2) := by rw [← e1, va_up_ne _ _ (by omega)]; exact h2
      have hM : ∀ m, m < R → κ1 (10 + m) = .inr (4, [some (.inl (nI (1))), some (.inl (nI (0))), some (.inl (nI (0)))]) := fun m hc9 => by rw [← e1, va_up_ne _ _ (by omega)]; exact hM m hc9
      have hAc : ∀ a, a < i → κ1 (20 + a) = .inr (0, [some (.inl (nI (1))), some (.inl (nI (0))), some (.inr (30 + a))]) := fun a hc9 => by rw [← e1, va_up_ne _ _ (by omega)]; exact hAc a hc9
      have hBc : ∀ a, a < i → κ1 (30 + a) = .inl (0, R, .inl (fun _ => 0)) := fun a hc9 => by rw [← e1, va_up_ne _ _ (by omega)]; exact hBc a hc9
      have hn20 : κ1 (20 + i) = .inr (0, [some (.inl (nI (0))), some (.inl (nI (0))), none]) := by rw [← e1]; exact va_up_self _ _ _
      refine k_dup dX6_init_98 ?_
      refine k_iload_n dX6_init_99 rfl ?_
      refine kEx.wf (fun hwf => ?_)
      refine k_callI (n9 := 1) (b1 := 33 - 2 * i) (b2 := 6951 - 9 * i) [.inl (nI (R))] [.inr (20 + i), .inl (nI (i)), .inr (2)] (k_X0 (cI_ok hRA) hwf (ka := 30 + i) (R := R) hR2 (cM_k (cIn_a (a := i) (by omega)) (cP_a (by omega)) (by omega)) (cIn_b (a := i) (by omega)) ((cP_b (by omega)).trans (by omega)) (by omega) hn20) dX6_init_100 (gU_N uw_1_59) rfl (List.mem_cons_of_mem _ uw_1_4) (List.mem_cons_of_mem _ uw_1_57) (List.mem_cons_of_mem _ uw_1_58) rfl (by decide +kernel) rfl ⟨by decide, by decide⟩ rfl (Nat.le_of_ble_eq_true rfl) (by omega) (by omega) (fun n2 κ2 hq => ?_)
      obtain ⟨hn2, ho2, hn20, hn30⟩ := hq
      subst hn2
      have h0 : κ2 (0) = .inr (5, [some (.inr (1)), some (.inr (2)), none, none, none, some (.inl (nI (0))), some (.inl (nI (0)))]) := by rw [ho2 _ (by omega)]; exact h0
      have h1 : κ2 (1) = .inl (4, R, .inr g1) := by rw [ho2 _ (by omega)]; exact h1
      have h2 : κ2 (2) = .inl (2, A, .inr g2) := by rw [ho2 _ (by omega)]; exact h2
      have hM : ∀ m, m < R → κ2 (10 + m) = .inr (4, [some (.inl (nI (1))), some (.inl (nI (0))), some (.inl (nI (0)))]) := fun m hc9 => by rw [ho2 _ (by omega)]; exact hM m hc9
      have hAc : ∀ a, a < i → κ2 (20 + a) = .inr (0, [some (.inl (nI (1))), some (.inl (nI (0))), some (.inr (30 + a))]) := fun a hc9 => by rw [ho2 _ (by omega)]; exact hAc a hc9
      have hBc : ∀ a, a < i → κ2 (30 + a) = .inl (0, R, .inl (fun _ => 0)) := fun a hc9 => by rw [ho2 _ (by omega)]; exact hBc a hc9
      refine k_aast2 dX6_init_103 (cM_k (cIn_lo (by decide)) (show (cI R A).2 2 = R + 2 from rfl) (by omega)) h2 (cM_k (cIn_a (a := i) (by omega)) (cP_a (by omega)) (by omega)) hn20 rfl (vp_inN (by omega) (by omega)) ?_
      generalize e3 : va_up κ2 (2) _ = κ3
      have h0 : κ3 (0) = .inr (5, [some (.inr (1)), some (.inr (2)), none, none, none, some (.inl (nI (0))), some (.inl (nI (0)))]) := by rw [← e3, va_up_ne _ _ (by omega)]; exact h0
      have h1 : κ3 (1) = .inl (4, R, .inr g1) := by rw [← e3, va_up_ne _ _ (by omega)]; exact h1
      have hM : ∀ m, m < R → κ3 (10 + m) = .inr (4, [some (.inl (nI (1))), some (.inl (nI (0))), some (.inl (nI (0)))]) := fun m hc9 => by rw [← e3, va_up_ne _ _ (by omega)]; exact hM m hc9
      have hAc : ∀ a, a < i → κ3 (20 + a) = .inr (0, [some (.inl (nI (1))), some (.inl (nI (0))), some (.inr (30 + a))]) := fun a hc9 => by rw [← e3, va_up_ne _ _ (by omega)]; exact hAc a hc9
      have hBc : ∀ a, a < i → κ3 (30 + a) = .inl (0, R, .inl (fun _ => 0)) := fun a hc9 => by rw [← e3, va_up_ne _ _ (by omega)]; exact hBc a hc9
      have hn20 : κ3 (20 + i) = .inr (0, [some (.inl (nI (1))), some (.inl (nI (0))), some (.inr (30 + i))]) := by rw [← e3, va_up_ne _ _ (by omega)]; exact hn20
      have hn30 : κ3 (30 + i) = .inl (0, R, .inl (fun _ => 0)) := by rw [← e3, va_up_ne _ _ (by omega)]; exact hn30
      have h2 : κ3 (2) = .inl (2, A, .inr (va_up g2 ((nI (i)).toNatClampNeg) (some (20 + i)))) := by rw [← e3]; exact va_up_self _ _ _
      refine k_iinc (nI (i + 1)) dX6_init_104 rfl (show nI (i) + nI 1 = _ from nI_add _ _) (by decide) ?_
      refine k_goto 82 dX6_init_107 (by decide) ?_
      refine kEx.num (n' := R + 3 + 2 * (i + 1)) (by omega) ?_
      refine kEx.bud (by omega) (by omega) (ih (i + 1) (by omega) (by omega) _ _ _ h0 h1 h2 hM (fun a ha => ?_) (fun a ha => ?_) (fun j hj => ?_) hg1)
      · by_cases q : a = i
        · subst q
          exact hn20
        · exact hAc a (by omega)
      · by_cases q : a = i
        · subst q
          exact hn30
        · exact hBc a (by omega)
      · by_cases q : j = i
        · subst q
          rw [nI_clamp (by omega), va_up_self]
        · rw [va_up_ne _ _ (by rw [nI_clamp (by omega)]; exact q)]
          exact hg j (by omega)
set_option maxRecDepth 100000 in
theorem k_X6_70 {R A : Nat} (hRA : pRA R A) {x y : Int32} {z : Option gAV} : ∀ (κ : kW) (g1 : Nat → Option Nat), κ (0) = .inr (5, [some (.inr (1)), none, none, none, none, some (.inl (nI (0))), some (.inl (nI (0)))]) → κ (1) = .inl (4, R, .inr g1) → (∀ m, m < R → κ (10 + m) = .inr (4, [some (.inl (nI (1))), some (.inl (nI (0))), some (.inl (nI (0)))])) → (∀ j, j < R → g1 j = some (10 + j)) → kEx (cI R A) mX6_init (36) (6972) 70 [some (.inr (0)), some (.inl (x)), some (.inl (y)), some (.inl (nI (R))), some (.inl (nI (A))), z] [] (R + 2) κ 1 (cFin R A) := by
  have hRA' := hRA
  obtain ⟨hR1, hR2, hA1⟩ := hRA'
  have hA2 : A ≤ 5 := by omega
  have hRA3 : R * A ≤ 30 := Nat.mul_le_mul hR2 hA2
  intro κ g1 h0 h1 hM hg1
  refine k_aload_n dX6_init_70 rfl ?_
  refine k_iload dX6_init_71 rfl ?_
  refine k_newq2 (k := 2) (N := A) (bc' := 35) (bs' := 6960) dX6_init_73 (List.mem_cons_of_mem _ uw_1_54) (cIn_lo (by decide)) ((show (cI R A).2 2 = R + 2 from rfl).trans (by omega)) rfl (by omega) (by omega) (by omega) ?_
  generalize e1 : va_up κ (2) _ = κ1
  have h0 : κ1 (0) = .inr (5, [some (.inr (1)), none, none, none, none, some (.inl (nI (0))), some (.inl (nI (0)))]) := by rw [← e1, va_up_ne _ _ (by omega)]; exact h0
  have h1 : κ1 (1) = .inl (4, R, .inr g1) := by rw [← e1, va_up_ne _ _ (by omega)]; exact h1
  have hM : ∀ m, m < R → κ1 (10 + m) = .inr (4, [some (.inl (nI (1))), some (.inl (nI (0))), some (.inl (nI (0)))]) := fun m hc9 => by rw [← e1, va_up_ne _ _ (by omega)]; exact hM m hc9
  have h2 : κ1 (2) = .inl (2, A, .inr (fun _ => none)) := by rw [← e1]; exact va_up_self _ _ _
  refine k_putF (T := TX6) (N := 7) (Cn := RX6) (ref := "CommitCouncil") (ty0 := tyX6) 1 dX6_init_76 (cM_k (cIn_lo (by decide)) (show (cI R A).2 0 = 0 from rfl) (by omega)) h0 rfl (fun w h => List.mem_cons_of_mem _ (hU6 w h)) tyX6_ok nmX6 (by decide) (List.mem_cons_of_mem _ uw_1_159) (Or.inl rfl) (Nat.le_of_ble_eq_true rfl) rfl rfl rfl (fun _ => rfl) (fun _ => rfl) ?_
  generalize e2 : va_up κ1 (0) _ = κ2
  have h1 : κ2 (1) = .inl (4, R, .inr g1) := by rw [← e2, va_up_ne _ _ (by omega)]; exact h1
  have hM : ∀ m, m < R → κ2 (10 + m) = .inr (4, [some (.inl (nI (1))), some (.inl (nI (0))), some (.inl (nI (0)))]) := fun m hc9 => by rw [← e2, va_up_ne _ _ (by omega)]; exact hM m hc9
  have h2 : κ2 (2) = .inl (2, A, .inr (fun _ => none)) := by rw [← e2, va_up_ne _ _ (by omega)]; exact h2
  have h0 : κ2 (0) = .inr (5, [some (.inr (1)), some (.inr (2)), none, none, none, some (.inl (nI (0))), some (.inl (nI (0)))]) := by rw [← e2]; exact va_up_self _ _ _
  refine k_iconst (nI (0)) dX6_init_79 (by decide) ?_
  refine k_istore dX6_init_80 (by decide) ?_
  refine kEx.num (n' := R + 3 + 2 * 0) (by omega) ?_
  exact k_X6_as hRA 6 0 (by omega) (by omega) _ _ _ h0 h1 h2 hM (fun l hl => absurd hl (by omega)) (fun l hl => absurd hl (by omega)) (fun j hj => absurd hj (by omega)) hg1
set_option maxRecDepth 100000 in
theorem k_X6_ms {R A : Nat} (hRA : pRA R A) {x y : Int32} : ∀ (k i : Nat), i ≤ R → R - i < k → ∀ (κ : kW) (g1 : Nat → Option Nat), κ (0) = .inr (5, [some (.inr (1)), none, none, none, none, some (.inl (nI (0))), some (.inl (nI (0)))]) → κ (1) = .inl (4, R, .inr g1) → (∀ m, m < i → κ (10 + m) = .inr (4, [some (.inl (nI (1))), some (.inl (nI (0))), some (.inl (nI (0)))])) → (∀ j, j < i → g1 j = some (10 + j)) → kEx (cI R A) mX6_init (42 - i) (6990 - 3 * i) 44 [some (.inr 0), some (.inl x), some (.inl y), some (.inl (nI (R))), some (.inl (nI (A))), some (.inl (nI (i)))] [] (2 + i) κ 1 (cFin R A) := by
  have hRA' := hRA
  obtain ⟨hR1, hR2, hA1⟩ := hRA'
  have hA2 : A ≤ 5 := by omega
  have hRA3 : R * A ≤ 30 := Nat.mul_le_mul hR2 hA2
  intro k
  induction k with
  | zero => intro i hi1 hi2; exact absurd hi2 (by omega)
  | succ k ih =>
    intro i hi1 hi2 κ g1 h0 h1 hM hg 
    refine k_iload dX6_init_44 rfl ?_
    refine k_iload_n dX6_init_46 rfl ?_
    refine k_icmp_ge 70 dX6_init_47 (by decide) (fun h47 => ?_) (fun h47 => ?_)
    · skip
      rw [nI_leI (by omega) (by omega)] at h47
      have e9 : i = R := by omega
      subst e9
      refine kEx.num (n' := i + 2) (by omega) ?_
      exact kEx.bud (by omega) (by omega) (k_X6_70 hRA κ g1 h0 h1 hM hg)
    · skip
      rw [nI_leI (by omega) (by omega)] at h47
      refine k_aload_n dX6_init_50 rfl ?_
      refine k_get (T := TX6) (N := 7) (Cn := RX6) (ref := "CommitCouncil") 0 dX6_init_51 (cM_k (cIn_lo (by decide)) (show (cI R A).2 0 = 0 from rfl) (by omega)) h0 rfl (fun w h => List.mem_cons_of_mem _ (hU6 w h)) (by decide) (List.mem_cons_of_mem _ uw_1_158) (Or.inl rfl) rfl ?_
      refine k_iload dX6_init_54 rfl ?_
      refine k_new (k := 10 + i) (ci := 4) (Cn := RX4) (T := TX4) (N := 3) (ty0 := tyX4) (fs := [some (.inl (nI (0))), some (.inl (nI (0))), some (.inl (nI (0)))]) (bc' := 41 - i) (bs' := 6987 - 3 * i) dX6_init_56 rfl (fun w h => List.mem_cons_of_mem _ (hU4 w h)) tyX4_ok (List.mem_cons_of_mem _ uw_1_26) (List.mem_cons_of_mem _ uw_1_28) (List.mem_cons_of_mem _ uw_1_3) (cIn_m (m := i) (by omega)) ((cP_m (by omega)).trans (by omega)) (dfX4) (nrX4) (by omega) (by omega) ?_
      generalize e1 : va_up κ (10 + i) _ = κ1
      have h0 : κ1 (0) = .inr (5, [some (.inr (1)), none, none, none, none, some (.inl (nI (0))), some (.inl (nI (0)))]) := by rw [← e1, va_up_ne _ _ (by omega)]; exact h0
      have h1 : κ1 (1) = .inl (4, R, .inr g1) := by rw [← e1, va_up_ne _ _ (by omega)]; exact h1
      have hM : ∀ m, m < i → κ1 (10 + m) = .inr (4, [some (.inl (nI (1))), some (.inl (nI (0))), some (.inl (nI (0)))]) := fun m hc9 => by rw [← e1, va_up_ne _ _ (by omega)]; exact hM m hc9
      have hn10 : κ1 (10 + i) = .inr (4, [some (.inl (nI (0))), some (.inl (nI (0))), some (.inl (nI (0)))]) := by rw [← e1]; exact va_up_self _ _ _
      refine k_dup dX6_init_59 ?_
      refine kEx.wf (fun hwf => ?_)
      refine k_callIN (host := RX6) (n9 := 0) (b1 := 41 - i) (b2 := 6987 - 3 * i) [] [.inr (10 + i), .inl (nI (i)), .inr (1)] (k_X4 (cI_ok hRA) hwf (cM_k (cIn_m (m := i) (by omega)) (cP_m (by omega)) (by omega)) hn10) dX6_init_60 (gU_N uw_1_31) rfl rfl (by decide +kernel) (List.mem_cons_of_mem _ uw_1_3) (List.mem_cons_of_mem _ uw_1_30) (by decide +kernel) rfl ⟨by decide, by decide⟩ rfl (Nat.le_of_ble_eq_true rfl) (by omega) (by omega) (fun n2 κ2 hq => ?_)
      obtain ⟨hn2, ho2, hn10⟩ := hq
      subst hn2
      have h0 : κ2 (0) = .inr (5, [some (.inr (1)), none, none, none, none, some (.inl (nI (0))), some (.inl (nI (0)))]) := by rw [ho2 _ (by omega)]; exact h0
      have h1 : κ2 (1) = .inl (4, R, .inr g1) := by rw [ho2 _ (by omega)]; exact h1
      have hM : ∀ m, m < i → κ2 (10 + m) = .inr (4, [some (.inl (nI (1))), some (.inl (nI (0))), some (.inl (nI (0)))]) := fun m hc9 => by rw [ho2 _ (by omega)]; exact hM m hc9
      refine k_aast4 dX6_init_63 (cM_k (cIn_lo (by decide)) (show (cI R A).2 1 = 1 from rfl) (by omega)) h1 (cM_k (cIn_m (m := i) (by omega)) (cP_m (by omega)) (by omega)) hn10 rfl (vp_inN (by omega) (by omega)) ?_
      generalize e3 : va_up κ2 (1) _ = κ3
      have h0 : κ3 (0) = .inr (5, [some (.inr (1)), none, none, none, none, some (.inl (nI (0))), some (.inl (nI (0)))]) := by rw [← e3, va_up_ne _ _ (by omega)]; exact h0
      have hM : ∀ m, m < i → κ3 (10 + m) = .inr (4, [some (.inl (nI (1))), some (.inl (nI (0))), some (.inl (nI (0)))]) := fun m hc9 => by rw [← e3, va_up_ne _ _ (by omega)]; exact hM m hc9
      have hn10 : κ3 (10 + i) = .inr (4, [some (.inl (nI (1))), some (.inl (nI (0))), some (.inl (nI (0)))]) := by rw [← e3, va_up_ne _ _ (by omega)]; exact hn10
      have h1 : κ3 (1) = .inl (4, R, .inr (va_up g1 ((nI (i)).toNatClampNeg) (some (10 + i)))) := by rw [← e3]; exact va_up_self _ _ _
      refine k_iinc (nI (i + 1)) dX6_init_64 rfl (show nI (i) + nI 1 = _ from nI_add _ _) (by decide) ?_
      refine k_goto 44 dX6_init_67 (by decide) ?_
      refine kEx.num (n' := 2 + (i + 1)) (by omega) ?_
      refine kEx.bud (by omega) (by omega) (ih (i + 1) (by omega) (by omega) _ _ h0 h1 (fun m hm => ?_) (fun j hj => ?_))
      · by_cases q : m = i
        · subst q
          exact hn10
        · exact hM m (by omega)
      · by_cases q : j = i
        · subst q
          rw [nI_clamp (by omega), va_up_self]
        · rw [va_up_ne _ _ (by rw [nI_clamp (by omega)]; exact q)]
          exact hg j (by omega)
set_option maxRecDepth 100000 in
theorem k_X6_33 {R A : Nat} (hRA : pRA R A) {x y : Int32} {z : Option gAV} : ∀ (κ : kW), κ (0) = .inr (5, [none, none, none, none, none, some (.inl (nI (0))), some (.inl (nI (0)))]) → kEx (cI R A) mX6_init (43) (7000) 33 [some (.inr (0)), some (.inl (x)), some (.inl (y)), some (.inl (nI (R))), some (.inl (nI (A))), z] [] (1) κ 1 (cFin R A) := by
  have hRA' := hRA
  obtain ⟨hR1, hR2, hA1⟩ := hRA'
  have hA2 : A ≤ 5 := by omega
  have hRA3 : R * A ≤ 30 := Nat.mul_le_mul hR2 hA2
  intro κ h0 
  refine k_aload_n dX6_init_33 rfl ?_
  refine k_iload_n dX6_init_34 rfl ?_
  refine k_newq4 (k := 1) (N := R) (bc' := 42) (bs' := 6990) dX6_init_35 (List.mem_cons_of_mem _ uw_1_26) (cIn_lo (by decide)) ((show (cI R A).2 1 = 1 from rfl).trans (by omega)) rfl (by omega) (by omega) (by omega) ?_
  generalize e1 : va_up κ (1) _ = κ1
  have h0 : κ1 (0) = .inr (5, [none, none, none, none, none, some (.inl (nI (0))), some (.inl (nI (0)))]) := by rw [← e1, va_up_ne _ _ (by omega)]; exact h0
  have h1 : κ1 (1) = .inl (4, R, .inr (fun _ => none)) := by rw [← e1]; exact va_up_self _ _ _
  refine k_putF (T := TX6) (N := 7) (Cn := RX6) (ref := "CommitCouncil") (ty0 := tyX6) 0 dX6_init_38 (cM_k (cIn_lo (by decide)) (show (cI R A).2 0 = 0 from rfl) (by omega)) h0 rfl (fun w h => List.mem_cons_of_mem _ (hU6 w h)) tyX6_ok nmX6 (by decide) (List.mem_cons_of_mem _ uw_1_158) (Or.inl rfl) (Nat.le_of_ble_eq_true rfl) rfl rfl rfl (fun _ => rfl) (fun _ => rfl) ?_
  generalize e2 : va_up κ1 (0) _ = κ2
  have h1 : κ2 (1) = .inl (4, R, .inr (fun _ => none)) := by rw [← e2, va_up_ne _ _ (by omega)]; exact h1
  have h0 : κ2 (0) = .inr (5, [some (.inr (1)), none, none, none, none, some (.inl (nI (0))), some (.inl (nI (0)))]) := by rw [← e2]; exact va_up_self _ _ _
  refine k_iconst (nI (0)) dX6_init_41 (by decide) ?_
  refine k_istore dX6_init_42 (by decide) ?_
  refine kEx.num (n' := 2 + 0) (by omega) ?_
  exact kEx.bud (by omega) (by omega) (k_X6_ms hRA 7 0 (by omega) (by omega) _ _ h0 h1 (fun l hl => absurd hl (by omega)) (fun j hj => absurd hj (by omega)))
set_option maxRecDepth 100000 in
theorem k_X6_20 {R A : Nat} (hRA : pRA R A) {x y : Int32} (hy : (y = nI 2 → A = 5) ∧ (¬ y = nI 2 → A = 3)) {κ : kW} (h0 : κ 0 = .inr (5, [none, none, none, none, none, some (.inl (nI (0))), some (.inl (nI (0)))])) : kEx (cI R A) mX6_init 43 7000 20 [some (.inr 0), some (.inl x), some (.inl y), none, none, none] [.inl (nI R)] 1 κ 1 (cFin R A) := by
  refine k_istore_n dX6_init_20 (by decide) ?_
  refine k_iload_n dX6_init_21 rfl ?_
  refine k_iconst (nI (2)) dX6_init_22 (by decide) ?_
  refine k_icmp_ne 30 dX6_init_23 (by decide) (fun h23 => ?_) (fun h23 => ?_)
  · skip
    refine k_iconst (nI (3)) dX6_init_30 (by decide) ?_
    have eA : A = 3 := hy.2 h23
    subst eA
    refine k_istore dX6_init_31 (by decide) ?_
    exact k_X6_33 hRA κ h0
  · skip
    refine k_iconst (nI (5)) dX6_init_26 (by decide) ?_
    refine k_goto 31 dX6_init_27 (by decide) ?_
    have eA : A = 5 := hy.1 (Decidable.of_not_not h23)
    subst eA
    refine k_istore dX6_init_31 (by decide) ?_
    exact k_X6_33 hRA κ h0
set_option maxRecDepth 100000 in
theorem k_X6 {R A : Nat} (hRA : pRA R A) {x y : Int32} (hx : ((¬ x < nI 1) ∧ (¬ nI 6 < x) → x = nI R) ∧ (x < nI 1 ∨ nI 6 < x → R = 3)) (hy : (y = nI 2 → A = 5) ∧ (¬ y = nI 2 → A = 3)) {κ : kW} (h0 : κ 0 = .inr (5, [none, none, none, none, none, some (.inl (nI (0))), some (.inl (nI (0)))])) : kEM (cI R A) mX6_init 43 7000 [.inr 0, .inl x, .inl y] 1 κ (cFin R A) := by
  have hok := cI_ok hRA
  refine kEM_of hok (fun k hk => ?_) (fun v hv => ?_) (by decide +kernel) rfl (Nat.le_of_ble_eq_true rfl) ?_
  · have e : k = 0 := hok.2 k 0 hk.1 (cIn_lo (R := R) (A := A) (by decide)) (by have := hk.2; show (cI R A).2 k = 0; omega)
    rw [e, h0]
    intro v hv
    obtain ⟨i, e9⟩ := nrX6 v hv
    rw [e9]
    exact ok_i _
  · rcases List.mem_cons.mp hv with h | h
    · rw [h]
      intro k e
      cases e
      exact ⟨cIn_lo (R := R) (A := A) (by decide), by show 0 < 1; decide⟩
    · simp at h
      rcases h with h | h
      · rw [h]
        exact ok_i _
      · rw [h]
        exact ok_i _
  refine k_aload_n dX6_init_0 rfl ?_
  refine k_objInit dX6_init_1 (List.mem_cons_of_mem _ uw_1_23) (List.mem_cons_of_mem _ uw_1_24) (List.mem_cons_of_mem _ uw_1_25) ⟨by decide, by decide⟩ ?_
  refine k_iload_n dX6_init_4 rfl ?_
  refine k_iconst (nI (1)) dX6_init_5 (by decide) ?_
  refine k_icmp_lt 19 dX6_init_6 (by decide) (fun h6 => ?_) (fun h6 => ?_)
  · skip
    refine k_iconst (nI 3) dX6_init_19 (by decide) ?_
    have eR : R = 3 := hx.2 (Or.inl h6)
    subst eR
    exact k_X6_20 hRA hy h0
  · skip
    refine k_iload_n dX6_init_9 rfl ?_
    refine k_bipush (nI (6)) dX6_init_10 (by decide) ?_
    refine k_icmp_gt 19 dX6_init_12 (by decide) (fun h12 => ?_) (fun h12 => ?_)
    · skip
      refine k_iconst (nI (3)) dX6_init_19 (by decide) ?_
      have eR : R = 3 := hx.2 (Or.inr h12)
      subst eR
      exact k_X6_20 hRA hy h0
    · skip
      refine k_iload_n dX6_init_15 rfl ?_
      refine k_goto 20 dX6_init_16 (by decide) ?_
      refine kEx.top (v := .inl (nI R)) (congrArg Sum.inl (hx.1 ⟨h6, h12⟩)) ?_
      exact k_X6_20 hRA hy h0
