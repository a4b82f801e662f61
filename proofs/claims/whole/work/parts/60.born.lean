/-! WHAT THE CONSTRUCTORS LEAVE -/
theorem arr_congr {c : ClassId} {n : Nat} {f g : Nat → Value} (h : ∀ j, j < n → f j = g j) : arrV c n f = arrV c n g := by
  unfold arrV
  have e : (fun j : Fin n => f j.val) = fun j : Fin n => g j.val := funext fun j => h j.val j.isLt
  rw [e]
theorem at_refs {D : va_G} {cy : Nat → ClassId} {ad : Nat → Nat} {a ty n : Nat} {g : Nat → Option Nat} {f : Nat → Nat} {H : Heap} (h : va_at D vwCl (a, kce cy ad (.inl (ty, n, .inr g))) H) (hg : ∀ j, j < n → g j = some (f j)) {σ : Nat → Int32} : va_at D vwCl (a, gce cy ad σ (.inl (ty, n, some f))) H := by
  have h1 : H[a]? = some (vp_cell (cy ty) (n, .inr (.inr (.inr (.inr (fun j => (g j).map ad)))))) := h
  show H[a]? = some (vp_cell (cy ty) (n, .inr (.inr (.inr (.inr (fun j => some (ad (f j))))))))
  rw [h1, vp_cell_q, vp_cell_q]
  congr 1
  refine arr_congr (fun j hj => ?_)
  rw [hg j hj]
  rfl
theorem at_eq {D : va_G} {a : Nat} {e e' : va_E} {H : Heap} (h : va_at D vwCl (a, e) H) (he : e = e') : va_at D vwCl (a, e') H := by rw [← he]; exact h
def σ0 (R A : Nat) : gSt := fun k j => if k = 4 ∧ j = 2 then nI (6 + R) else if k = 6 ∧ j = 2 then nI A else if 10 ≤ k ∧ k < 30 ∧ j = 0 then nI 1 else if 40 ≤ k ∧ k < 50 ∧ j = 0 then nI 1 else if 40 ≤ k ∧ k < 50 ∧ j = 8 then nI A else 0
theorem σ0_z {R A k j : Nat} (h : ¬ (k = 4 ∧ j = 2) ∧ ¬ (k = 6 ∧ j = 2) ∧ ¬ (10 ≤ k ∧ k < 30 ∧ j = 0) ∧ ¬ (40 ≤ k ∧ k < 50 ∧ j = 0) ∧ ¬ (40 ≤ k ∧ k < 50 ∧ j = 8)) : σ0 R A k j = nI 0 := by
  unfold σ0
  rw [if_neg h.1, if_neg h.2.1, if_neg h.2.2.1, if_neg h.2.2.2.1, if_neg h.2.2.2.2, nI_0]
theorem σ0_u {R A k : Nat} (h : 10 ≤ k ∧ k < 30 ∨ 40 ≤ k ∧ k < 50) : σ0 R A k 0 = nI 1 := by
  unfold σ0
  rw [if_neg (by omega), if_neg (by omega)]
  by_cases q : 10 ≤ k ∧ k < 30 ∧ 0 = 0
  · rw [if_pos q]
  · rw [if_neg q, if_pos (by omega)]
theorem σ0_8 {R A k : Nat} (h : 40 ≤ k ∧ k < 50) : σ0 R A k 8 = nI A := by
  unfold σ0
  rw [if_neg (by omega), if_neg (by omega), if_neg (by omega), if_neg (by omega), if_pos (by omega)]
theorem σ0_f {R A k : Nat} (h : ∀ j, ¬ (k = 4 ∧ j = 2) ∧ ¬ (k = 6 ∧ j = 2) ∧ ¬ (10 ≤ k ∧ k < 30 ∧ j = 0) ∧ ¬ (40 ≤ k ∧ k < 50 ∧ j = 0) ∧ ¬ (40 ≤ k ∧ k < 50 ∧ j = 8)) : σ0 R A k = fun _ => 0 := by
  funext j
  rw [σ0_z (h j), nI_0]
theorem c_born {R A : Nat} (hRA : pRA R A) {D : va_G} {cy : Nat → ClassId} {ad : Nat → Nat} {n : Nat} {κ : kW} {H : Heap} (h : cFin R A n κ) (hP : kP (cI R A) D cy ad n κ H) (hI : kInj (cI R A) ad n) : gP (cG R A) D cy ad (σ0 R A) H ∧ gInj (cG R A) ad := by
  obtain ⟨hR1, hR2, hA⟩ := hRA
  obtain ⟨hn, h0, ⟨g1, h1, hg1⟩, ⟨g2, h2, hg2⟩, ⟨g3, h3, hg3⟩, h4, h5, h6, h7, h8, h9, hM, hAc, hBc, hLe, hT, hO, hSe⟩ := h
  subst hn
  have hmade : ∀ k, k ∈ (cG R A).1 → (k < 10 ∨ (∃ m, m < R ∧ k = 10 + m) ∨ (∃ a, a < A ∧ k = 20 + a) ∨ (∃ a, a < A ∧ k = 30 + a) ∨ (∃ l, l < 3 ∧ k = 40 + l) ∨ (∃ l, l < 3 ∧ k = 50 + l) ∨ (∃ l, l < 3 ∧ k = 60 + l) ∨ (∃ l, l < 3 ∧ k = 70 + l)) := fun k hk => by
    have hk : k ∈ cIds R A := hk
    unfold cIds at hk
    simp only [List.mem_append, List.mem_map, List.mem_range, List.mem_cons, List.not_mem_nil, or_false] at hk
    rcases hk with hk | ⟨m, hm, rfl⟩ | ⟨m, hm, rfl⟩ | ⟨m, hm, rfl⟩ | hk
    · left; omega
    · exact Or.inr (Or.inl ⟨m, hm, rfl⟩)
    · exact Or.inr (Or.inr (Or.inl ⟨m, hm, rfl⟩))
    · exact Or.inr (Or.inr (Or.inr (Or.inl ⟨m, hm, rfl⟩)))
    · rcases hk with rfl | rfl | rfl | rfl | rfl | rfl | rfl | rfl | rfl | rfl | rfl | rfl
      · exact Or.inr (Or.inr (Or.inr (Or.inr (Or.inl ⟨0, by decide, rfl⟩))))
      · exact Or.inr (Or.inr (Or.inr (Or.inr (Or.inl ⟨1, by decide, rfl⟩))))
      · exact Or.inr (Or.inr (Or.inr (Or.inr (Or.inl ⟨2, by decide, rfl⟩))))
      · exact Or.inr (Or.inr (Or.inr (Or.inr (Or.inr (Or.inl ⟨0, by decide, rfl⟩)))))
      · exact Or.inr (Or.inr (Or.inr (Or.inr (Or.inr (Or.inl ⟨1, by decide, rfl⟩)))))
      · exact Or.inr (Or.inr (Or.inr (Or.inr (Or.inr (Or.inl ⟨2, by decide, rfl⟩)))))
      · exact Or.inr (Or.inr (Or.inr (Or.inr (Or.inr (Or.inr (Or.inl ⟨0, by decide, rfl⟩))))))
      · exact Or.inr (Or.inr (Or.inr (Or.inr (Or.inr (Or.inr (Or.inl ⟨1, by decide, rfl⟩))))))
      · exact Or.inr (Or.inr (Or.inr (Or.inr (Or.inr (Or.inr (Or.inl ⟨2, by decide, rfl⟩))))))
      · exact Or.inr (Or.inr (Or.inr (Or.inr (Or.inr (Or.inr (Or.inr ⟨0, by decide, rfl⟩))))))
      · exact Or.inr (Or.inr (Or.inr (Or.inr (Or.inr (Or.inr (Or.inr ⟨1, by decide, rfl⟩))))))
      · exact Or.inr (Or.inr (Or.inr (Or.inr (Or.inr (Or.inr (Or.inr ⟨2, by decide, rfl⟩))))))
  have hall : ∀ k, k ∈ (cG R A).1 → kM (cI R A) (R + 2 * A + 22) k := fun k hk => ⟨hk, by
    rcases hmade k hk with q | ⟨m, hm, rfl⟩ | ⟨m, hm, rfl⟩ | ⟨m, hm, rfl⟩ | ⟨m, hm, rfl⟩ | ⟨m, hm, rfl⟩ | ⟨m, hm, rfl⟩ | ⟨m, hm, rfl⟩
    · rcases (show k = 0 ∨ k = 1 ∨ k = 2 ∨ k = 3 ∨ k = 4 ∨ k = 5 ∨ k = 6 ∨ k = 7 ∨ k = 8 ∨ k = 9 by omega) with h | h | h | h | h | h | h | h | h | h <;> subst h
      · show 0 < _; omega
      · show 1 < _; omega
      · show R + 2 < _; omega
      · show R + 2 * A + 3 < _; omega
      · show R + 2 * A + 16 < _; omega
      · show R + 2 * A + 17 < _; omega
      · show R + 2 * A + 18 < _; omega
      · show R + 2 * A + 19 < _; omega
      · show R + 2 * A + 20 < _; omega
      · show R + 2 * A + 21 < _; omega
    · rw [cP_m (by omega)]; omega
    · rw [cP_a (by omega)]; omega
    · rw [cP_b (by omega)]; omega
    · rw [cP_l (by omega)]; omega
    · rw [cP_t (by omega)]; omega
    · rw [cP_o (by omega)]; omega
    · rw [cP_s (by omega)]; omega⟩
  refine ⟨fun k hk => ?_, cNd hR2 (by omega), fun i j hi hj e => hI i j (hall i hi) (hall j hj) e⟩
  have hp := hP k (hall k hk)
  rcases hmade k hk with q | ⟨m, hm, rfl⟩ | ⟨m, hm, rfl⟩ | ⟨m, hm, rfl⟩ | ⟨m, hm, rfl⟩ | ⟨m, hm, rfl⟩ | ⟨m, hm, rfl⟩ | ⟨m, hm, rfl⟩
  · rcases (show k = 0 ∨ k = 1 ∨ k = 2 ∨ k = 3 ∨ k = 4 ∨ k = 5 ∨ k = 6 ∨ k = 7 ∨ k = 8 ∨ k = 9 by omega) with h | h | h | h | h | h | h | h | h | h <;> subst h
    · rw [h0] at hp
      exact at_eq hp rfl
    · rw [h1] at hp
      exact at_refs hp hg1
    · rw [h2] at hp
      exact at_refs hp hg2
    · rw [h3] at hp
      exact at_refs hp hg3
    · rw [h4] at hp
      exact at_eq hp rfl
    · rw [h5] at hp
      exact at_eq hp rfl
    · rw [h6] at hp
      exact at_eq hp rfl
    · rw [h7] at hp
      exact at_eq hp rfl
    · rw [h8] at hp
      exact at_eq hp rfl
    · rw [h9] at hp
      exact at_eq hp rfl
  · rw [hM m hm] at hp
    rw [cSh_m (by omega)]
    refine at_eq hp ?_
    show (Sum.inr (4, [Value.int (nI 1), .int (nI 0), .int (nI 0)]) : va_E) = .inr (4, [.int (σ0 R A (10 + m) 0), .int (σ0 R A (10 + m) 1), .int (σ0 R A (10 + m) 2)])
    rw [σ0_u (by omega), σ0_z (by omega), σ0_z (by omega)]
  · rw [hAc m hm] at hp
    rw [cSh_a (by omega)]
    refine at_eq hp ?_
    show (Sum.inr (0, [Value.int (nI 1), .int (nI 0), .ref (ad (30 + m))]) : va_E) = .inr (0, [.int (σ0 R A (20 + m) 0), .int (σ0 R A (20 + m) 1), .ref (ad (30 + m))])
    rw [σ0_u (by omega), σ0_z (by omega)]
  · rw [hBc m hm] at hp
    rw [cSh_b (by omega)]
    refine at_eq hp ?_
    show (Sum.inl (cy 0, R, .inl (fun _ => 0)) : va_E) = .inl (cy 0, R, .inl (σ0 R A (30 + m)))
    rw [σ0_f (fun j => by omega)]
  · rw [hLe m hm] at hp
    rw [cSh_l hm]
    refine at_eq hp ?_
    show (Sum.inr (1, [Value.int (nI 1), .int (nI 0), .int (nI 0), .int (nI 0), .int (nI 0), .int (nI 0), .ref (ad (50 + m)), .ref (ad (60 + m)), .int (nI A), .ref (ad (70 + m))]) : va_E) = .inr (1, [.int (σ0 R A (40 + m) 0), .int (σ0 R A (40 + m) 1), .int (σ0 R A (40 + m) 2), .int (σ0 R A (40 + m) 3), .int (σ0 R A (40 + m) 4), .int (σ0 R A (40 + m) 5), .ref (ad (50 + m)), .ref (ad (60 + m)), .int (σ0 R A (40 + m) 8), .ref (ad (70 + m))])
    rw [σ0_u (by omega), σ0_8 (by omega), σ0_z (by omega), σ0_z (by omega), σ0_z (by omega), σ0_z (by omega), σ0_z (by omega)]
  · rw [hT m hm] at hp
    rw [cSh_t hm]
    refine at_eq hp ?_
    show (Sum.inl (cy 0, R, .inl (fun _ => 0)) : va_E) = .inl (cy 0, R, .inl (σ0 R A (50 + m)))
    rw [σ0_f (fun j => by omega)]
  · rw [hO m hm] at hp
    rw [cSh_o hm]
    refine at_eq hp ?_
    show (Sum.inl (cy 0, R, .inl (fun _ => 0)) : va_E) = .inl (cy 0, R, .inl (σ0 R A (60 + m)))
    rw [σ0_f (fun j => by omega)]
  · rw [hSe m hm] at hp
    rw [cSh_s hm]
    refine at_eq hp ?_
    show (Sum.inl (cy 0, R * A, .inl (fun _ => 0)) : va_E) = .inl (cy 0, R * A, .inl (σ0 R A (70 + m)))
    rw [σ0_f (fun j => by omega)]
theorem c_rel0 {R A : Nat} (hRA : pRA R A) : cRel R A (α0, []) (σ0 R A) := by
  obtain ⟨hR1, hR2, hA1⟩ := hRA
  have mz : ∀ f : Nat → Nat, (∀ c, f c = 0) → msk f = 0 := fun f hf => by
    unfold msk
    rw [hf, hf, hf, hf, hf]
  refine ⟨⟨σ0_z (by omega), σ0_z (by omega)⟩, ⟨σ0_z (by omega), σ0_z (by omega), rfl, fun i x hx => by simp at hx⟩, ⟨rfl, fun m _ => σ0_z (by omega), fun m _ => σ0_z (by omega), fun b _ => ⟨0, by decide, σ0_z (by omega), fun m _ => ?_⟩⟩, fun m hm => ⟨?_, ?_, ?_⟩, fun a ha => ⟨?_, ?_, fun m _ => ?_⟩, fun l hl => ⟨?_, ?_, ?_, ?_, ?_, ?_, ?_, fun m _ => ?_, fun m _ => ?_, fun m a _ _ => ?_⟩⟩
  · show 0 / 32 ^ m % 32 = 0
    rw [Nat.zero_div]
  · exact σ0_u (by omega)
  · exact σ0_z (by omega)
  · exact σ0_z (by omega)
  · exact σ0_u (by omega)
  · exact σ0_z (by omega)
  · exact σ0_z (by omega)
  · exact σ0_u (by omega)
  · exact σ0_z (by omega)
  · exact σ0_z (by omega)
  · exact σ0_z (by omega)
  · exact σ0_z (by omega)
  · show σ0 R A (40 + l) 5 = nI 0
    exact σ0_z (by omega)
  · exact σ0_8 (by omega)
  · exact σ0_z (by omega)
  · exact σ0_z (by omega)
  · exact σ0_z (by omega)
/-- the reference's store -/
def σm (R A : Nat) (f6 f17 u0 u1 u2 : Nat → Int32) : gSt := fun k => if k = 0 then (fun j => if j = 1 then nI R else if j = 2 then nI A else nI 0) else if k = 6 then f6 else if k = 17 then f17 else if k = 20 then u0 else if k = 21 then u1 else if k = 22 then u2 else fun _ => 0
theorem m_born {R A : Nat} {D : va_G} {cy : Nat → ClassId} {ad : Nat → Nat} {n : Nat} {κ : kW} {H : Heap} (hR : R ≤ 6) (h : mFin R A n κ) (hP : kP mI D cy ad n κ H) (hI : kInj mI ad n) : ∃ σ, gP mG D cy ad σ H ∧ gInj mG ad ∧ mRel R A 0 (α0, []) σ := by
  obtain ⟨hn, h0, hu, h4, ⟨f6, h6, hf6⟩, ⟨f17, h17, hf17⟩, hZ⟩ := h
  subst hn
  obtain ⟨u0, hu0, hv0⟩ := hu 0 (by decide)
  obtain ⟨u1, hu1, hv1⟩ := hu 1 (by decide)
  obtain ⟨u2, hu2, hv2⟩ := hu 2 (by decide)
  have hall : ∀ k, k ∈ mG.1 → kM mI 23 k := fun k hk => ⟨hk, by
    have h9 : ∀ k ∈ mIds, mPos k < 23 := by decide
    exact h9 k hk⟩
  have mz : ∀ f : Nat → Nat, (∀ c, f c = 0) → msk f = 0 := fun f hf => by
    unfold msk
    rw [hf, hf, hf, hf, hf]
  refine ⟨σm R A f6 f17 u0 u1 u2, fun k hk => ?_, ⟨mNd, fun i j hi hj e => hI i j (hall i hi) (hall j hj) e⟩, ⟨rfl, rfl, rfl, rfl, rfl, rfl⟩, fun i x hx => by simp at hx, fun c hc => ?_⟩
  · have hp := hP k (hall k hk)
    have hk' : k ∈ mIds := hk
    have hk23 : k < 23 := by
      have h9 : ∀ k ∈ mIds, k < 23 := by decide
      exact h9 k hk'
    have hz : (1 ≤ k ∧ k < 20 ∧ k ≠ 4 ∧ k ≠ 6 ∧ k ≠ 17) ∨ k = 0 ∨ k = 4 ∨ k = 6 ∨ k = 17 ∨ k = 20 ∨ k = 21 ∨ k = 22 := by omega
    rcases hz with q | q | q | q | q | q | q | q
    · rw [hZ k q] at hp
      have e : mG.2 k = .inl (0, mLen k, none) := by
        rcases (show k = 1 ∨ k = 2 ∨ k = 3 ∨ k = 5 ∨ k = 7 ∨ k = 8 ∨ k = 9 ∨ k = 10 ∨ k = 11 ∨ k = 12 ∨ k = 13 ∨ k = 14 ∨ k = 15 ∨ k = 16 ∨ k = 18 ∨ k = 19 by omega) with h | h | h | h | h | h | h | h | h | h | h | h | h | h | h | h <;> subst h <;> rfl
      rw [e]
      refine at_eq hp ?_
      show (Sum.inl (cy 0, mLen k, .inl (fun _ => 0)) : va_E) = .inl (cy 0, mLen k, .inl (σm R A f6 f17 u0 u1 u2 k))
      unfold σm
      rw [if_neg (by omega), if_neg (by omega), if_neg (by omega), if_neg (by omega), if_neg (by omega), if_neg (by omega)]
    · subst q
      rw [h0] at hp
      exact at_eq hp rfl
    · subst q
      rw [h4] at hp
      exact at_refs (f := fun s => 20 + s) hp (fun j hj => gUp_at hj)
    · subst q
      rw [h6] at hp
      exact at_eq hp rfl
    · subst q
      rw [h17] at hp
      exact at_eq hp rfl
    · subst q
      rw [show κ 20 = _ from hu0] at hp
      exact at_eq hp rfl
    · subst q
      rw [show κ 21 = _ from hu1] at hp
      exact at_eq hp rfl
    · subst q
      rw [show κ 22 = _ from hu2] at hp
      exact at_eq hp rfl
  · rcases (show c = 0 ∨ c = 1 ∨ c = 2 ∨ c = 3 ∨ c = 4 ∨ c = 5 ∨ c = 6 ∨ c = 7 ∨ c = 8 ∨ c = 9 ∨ c = 10 ∨ c = 11 ∨ c = 12 ∨ c = 13 ∨ c = 14 ∨ c = 15 ∨ c = 16 ∨ c = 17 ∨ c = 18 ∨ c = 19 ∨ c = 20 ∨ c = 21 ∨ c = 22 by omega) with h | h | h | h | h | h | h | h | h | h | h | h | h | h | h | h | h | h | h | h | h | h | h <;> subst h
    · exact trivial
    · exact trivial
    · exact trivial
    · exact fun m _ => rfl
    · exact trivial
    · exact fun m _ => rfl
    · exact fun a m ha hm => hf6 _ (by omega)
    · exact fun a m _ _ => rfl
    · exact fun b m _ _ => rfl
    · intro b m _ _ q
      exact absurd rfl q
    · exact fun m _ => rfl
    · exact fun m _ => rfl
    · exact fun m _ => rfl
    · exact fun m _ => rfl
    · exact fun l _ => rfl
    · exact fun l a m _ _ _ q => absurd rfl q
    · exact fun l a m _ _ _ q => absurd rfl q
    · exact fun l m a hl hm ha => hf17 _ (by omega)
    · exact fun l m a _ _ _ q => absurd rfl q
    · exact fun l m _ _ => rfl
    · exact fun i hi => hv0 i hi
    · exact fun i hi => hv1 i hi
    · exact fun i hi => hv2 i hi
