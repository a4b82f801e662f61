/-! WHAT THE INVARIANT GIVES -/
theorem psum_none {p : Nat → Prop} [∀ i, Decidable (p i)] : ∀ n, (∀ i, i < n → ¬ p i) → psum (fun m => if p m then 1 else 0) n = 0
  | 0, _ => rfl
  | n + 1, h => by
    show psum (fun m => if p m then 1 else 0) n + (if p n then 1 else 0) = 0
    rw [psum_none n (fun i hi => h i (by omega)), if_neg (h n (by omega))]
theorem psum_all {p : Nat → Prop} [∀ i, Decidable (p i)] : ∀ n, (∀ i, i < n → p i) → psum (fun m => if p m then 1 else 0) n = n
  | 0, _ => rfl
  | n + 1, h => by
    show psum (fun m => if p m then 1 else 0) n + (if p n then 1 else 0) = n + 1
    rw [psum_all n (fun i hi => h i (by omega)), if_pos (h n (by omega))]
theorem psum_some {p : Nat → Prop} [∀ i, Decidable (p i)] {i : Nat} (hp : p i) : ∀ n, i < n → 0 < psum (fun m => if p m then 1 else 0) n
  | 0, h => by omega
  | n + 1, h => by
    show 0 < psum (fun m => if p m then 1 else 0) n + (if p n then 1 else 0)
    by_cases q : i = n
    · rw [← q, if_pos hp]
      omega
    · have := psum_some hp n (by omega)
      omega
section FACTS
variable {R A T : Nat} {s : pT}
theorem f_say (hRA : pRA R A) (h : pInv R A T s) {m : Nat} (hm : m < R) (h0 : s.1 3 m 0 = 0) : msk (fun a => s.1 15 0 (m * 5 + a)) = 0 := by
  obtain ⟨⟨hN, hM, hI, -⟩, -⟩ := h
  have z := ((hM m hm).1 h0).1
  have k : ∀ c, c < 5 → (fun a => s.1 15 0 (m * 5 + a)) c = (fun _ => 0) c := fun c hc => by
    show s.1 15 0 (m * 5 + c) = 0
    by_cases q : A ≤ c
    · exact hN.2 0 m c q hc
    · by_cases w : s.1 15 0 (m * 5 + c) = 0
      · exact w
      · exact absurd z ((hI c m (by omega) hm).1 0 w).1
  rw [msk_congr k]
  rfl
theorem f_res (h : pInv R A T s) {m : Nat} (hm : m < R) (h1 : s.1 3 m 0 = 1 ∨ s.1 3 m 0 = 2) : s.1 4 m 0 = s.1 3 m 0 := ((h.1.2.1 m hm).2.1 h1).2
theorem f_ch1 (h : pInv R A T s) {m : Nat} (hm : m < R) : ∀ b, b < 1600 → A < 2 * psum (fun a => s.1 15 b (m * 5 + a)) 5 → s.1 16 b m = s.1 18 m 0 := fun b _ hb => (h.1.2.2.2.2.2.2.2 m hm).2.1 b hb
theorem f_ch2 (h : pInv R A T s) (hT : T ≤ 1536) {m : Nat} (hm : m < R) : (∀ b, b < 1600 → ¬ A < 2 * psum (fun a => s.1 15 b (m * 5 + a)) 5) → s.1 18 m 0 = 0 := fun hz => by
  by_cases q : s.1 18 m 0 = 0
  · exact q
  · obtain ⟨b, hb, -⟩ := (h.1.2.2.2.2.2.2.2 m hm).2.2 q
    obtain ⟨a, ha, w⟩ := one_of hb
    have hI := h.1.2.2.1
    have hN := h.1.1
    by_cases y : A ≤ a
    · exact absurd (hN.2 b m a y ha) w
    · have := ((hI a m (by omega) hm).1 b w).2.1
      have h5 : s.1 5 a 0 ≤ T := hN.1 5 a 0 (by decide) (by decide)
      exact absurd hb (hz b (by omega))
theorem f_ch3 (h : pInv R A T s) {m : Nat} (hm : m < R) (h18 : s.1 18 m 0 = 1) : s.1 4 m 0 = 1 := by
  obtain ⟨b, -, hb⟩ := (h.1.2.2.2.2.2.2.2 m hm).2.2 (by omega)
  exact (h.1.2.1 m hm).2.2.1 b (by omega)
theorem f_as1 (h : pInv R A T s) : psum (fun m => if s.1 3 m 0 = 4 then 1 else 0) R = 0 ∨ psum (fun m => if s.1 3 m 0 = 3 then 1 else 0) R = 0 := by
  by_cases q : ∃ m, m < R ∧ s.1 3 m 0 = 4
  · obtain ⟨m, hm, e⟩ := q
    have k := (h.1.2.1 m hm).2.2.2
    rw [e] at k
    obtain ⟨m1, hm1, e1⟩ := k.2 rfl
    refine Or.inr (psum_none (p := fun m => s.1 3 m 0 = 3) R (fun i hi z => ?_))
    have k2 := (h.1.2.1 i hi).2.2.2
    have z : s.1 3 i 0 = 3 := z
    rw [z] at k2
    have := k2.1 rfl m1 hm1
    omega
  · exact Or.inl (psum_none (p := fun m => s.1 3 m 0 = 4) R (fun i hi z => q ⟨i, hi, z⟩))
theorem f_as2 (h : pInv R A T s) : ∀ m, m < R → s.1 3 m 0 = 3 → s.1 4 m 0 = 1 := fun m hm e => by
  have k := (h.1.2.1 m hm).2.2.2
  rw [e] at k
  exact f_ch3 h hm (k.1 rfl m hm)
theorem f_as3 (h : pInv R A T s) : ∀ m, m < R → s.1 19 m 0 = 0 := fun m hm => (h.1.2.2.2.2.2.2.2 m hm).1
theorem f_as4 (h : pInv R A T s) : ∀ l, l < 3 → pBack R s.1 (s.1 10 l 0) := fun l hl => by
  have k := (h.1.2.2.2.2.2.2.1 l hl).2
  refine ⟨fun e => psum_all (p := fun m => s.1 18 m 0 = 1) R (fun i hi => k.1 e i hi), fun e => ?_⟩
  obtain ⟨m, hm, w⟩ := k.2 e
  exact psum_some (p := fun m => s.1 18 m 0 = 2) w R hm
end FACTS
