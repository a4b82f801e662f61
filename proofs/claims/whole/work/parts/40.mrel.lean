/-! THE REFERENCE'S STORE holds the specification's state -/
def mOne (R : Nat) (f : Nat → Int32) (base : Nat) (x : pMsg) : Prop := (∀ j, j < 6 → f (base + j) = pt x j) ∧ (x 0 = 3 → ∀ m, m < R → f (base + (6 + m)) = pB (x (6 + m)) ∧ f (base + (12 + m)) = nI (x (6 + m) % 4))
def mMs (R : Nat) (ms : List pMsg) (σ : gSt) : Prop := ∀ (i : Nat) (x : pMsg), ms[i]? = some x → mOne R (σ 1) (18 * i) x
def mO (R A cm : Nat) (α : pS) (n : Nat) (σ : gSt) : Prop := σ 0 1 = nI R ∧ σ 0 2 = nI A ∧ σ 0 5 = nI n ∧ σ 0 6 = nI (α 1 0 0) ∧ σ 0 7 = nI cm ∧ σ 0 8 = nI (α 1 2 0)
def mC (R : Nat) (c : Nat) (α : pS) (f : Nat → Int32) : Prop := match c with
  | 3 => ∀ m, m < R → f m = nI (α 3 m 0)
  | 5 => ∀ a, a < 5 → f a = nI (α 5 a 0)
  | 6 => ∀ a m, a < 5 → m < R → f (6 * a + m) = pB (α 6 a m)
  | 7 => ∀ a m, a < 5 → m < R → f (6 * a + m) = nI (α 6 a m % 4)
  | 8 => ∀ b m, b < 1600 → m < R → f (6 * b + m) = nI (msk (fun a => α 15 b (m * 5 + a)))
  | 9 => ∀ b m, b < 1600 → m < R → msk (fun a => α 15 b (m * 5 + a)) ≠ 0 → f (6 * b + m) = nI (α 16 b m)
  | 10 => ∀ l, l < 3 → f l = nI (α 7 l 0)
  | 11 => ∀ l, l < 3 → f l = nI (α 8 l 0)
  | 12 => ∀ l, l < 3 → f l = nI (α 9 l 0)
  | 13 => ∀ l, l < 3 → f l = nI (α 10 l 0)
  | 14 => ∀ l, l < 3 → f l = nI (msk (α 11 l))
  | 15 => ∀ l a m, l < 3 → a < 5 → m < R → α 11 l a ≠ 0 → f ((5 * l + a) * 6 + m) = pB (α 12 l (a * 6 + m))
  | 16 => ∀ l a m, l < 3 → a < 5 → m < R → α 11 l a ≠ 0 → f ((5 * l + a) * 6 + m) = nI (α 12 l (a * 6 + m) % 4)
  | 17 => ∀ l m a, l < 3 → m < R → a < 5 → f ((l * 6 + m) * 5 + a) = pB (α 14 l (m * 5 + a))
  | 18 => ∀ l m a, l < 3 → m < R → a < 5 → α 14 l (m * 5 + a) ≠ 0 → f ((l * 6 + m) * 5 + a) = nI (α 14 l (m * 5 + a) % 4)
  | 19 => ∀ l m, l < 3 → m < R → f (l * 6 + m) = nI (α 13 l m)
  | 20 => ∀ i, i < 6 → f i = nI (α 2 0 i)
  | 21 => ∀ i, i < 6 → f i = nI (α 2 1 i)
  | 22 => ∀ i, i < 6 → f i = nI (α 2 2 i)
  | _ => True
def mDep (c : Nat) : List Nat := match c with
  | 3 => [3] | 5 => [5] | 6 => [6] | 7 => [6] | 8 => [15] | 9 => [15, 16] | 10 => [7] | 11 => [8] | 12 => [9] | 13 => [10] | 14 => [11] | 15 => [11, 12] | 16 => [11, 12] | 17 => [14] | 18 => [14] | 19 => [13] | 20 => [2] | 21 => [2] | 22 => [2] | _ => []
def mRel (R A cm : Nat) (s : pT) (σ : gSt) : Prop := mO R A cm s.1 s.2.length σ ∧ mMs R s.2 σ ∧ ∀ c, c < 23 → mC R c s.1 (σ c)
theorem mC_of {R c : Nat} {α β : pS} {f : Nat → Int32} (h : mC R c α f) (hd : ∀ d ∈ mDep c, β d = α d) : mC R c β f := by
  unfold mC mDep at *
  split <;> simp only [List.mem_cons, List.not_mem_nil, or_false, forall_eq_or_imp, forall_eq, List.forall_mem_cons] at hd <;> first | exact h | (rw [hd]; exact h) | (rw [hd.1, hd.2]; exact h) | (rw [hd.1, hd.2.1]; exact h) | trivial
theorem mRel_to {R A cm cm' : Nat} {s : pT} {σ τ : gSt} {β : pS} {ms : List pMsg} (h : mRel R A cm s σ) (K D : List Nat) (hKD : ∀ c, c < 23 → c ∉ K → ∀ d ∈ mDep c, d ∉ D) (hτ : ∀ c, c < 23 → c ∉ K → 3 ≤ c → τ c = σ c) (hβ : ∀ d, d ∉ D → β d = s.1 d)
    (hO : mO R A cm' β ms.length τ) (hM : mMs R ms τ) (hN : ∀ c ∈ K, mC R c β (τ c)) : mRel R A cm' (β, ms) τ := by
  refine ⟨hO, hM, fun c hc => ?_⟩
  by_cases hk : c ∈ K
  · exact hN c hk
  · by_cases h3 : 3 ≤ c
    · rw [hτ c hc hk h3]
      exact mC_of (h.2.2 c hc) (fun d hd => hβ d (hKD c hc hk d hd))
    · rcases (show c = 0 ∨ c = 1 ∨ c = 2 by omega) with e | e | e <;> subst e <;> exact trivial
section MR
variable {R A cm : Nat} {s : pT} {σ : gSt}
theorem mR_how (h : mRel R A cm s σ) {m : Nat} (hm : m < R) : σ 3 m = nI (s.1 3 m 0) := h.2.2 3 (by decide) m hm
theorem mR_pro (h : mRel R A cm s σ) {a : Nat} (ha : a < 5) : σ 5 a = nI (s.1 5 a 0) := h.2.2 5 (by decide) a ha
theorem mR_aB (h : mRel R A cm s σ) {a m : Nat} (ha : a < 5) (hm : m < R) : σ 6 (6 * a + m) = pB (s.1 6 a m) := h.2.2 6 (by decide) a m ha hm
theorem mR_aW (h : mRel R A cm s σ) {a m : Nat} (ha : a < 5) (hm : m < R) : σ 7 (6 * a + m) = nI (s.1 6 a m % 4) := h.2.2 7 (by decide) a m ha hm
theorem mR_ev (h : mRel R A cm s σ) {b m : Nat} (hb : b < 1600) (hm : m < R) : σ 8 (6 * b + m) = nI (msk (fun a => s.1 15 b (m * 5 + a))) := h.2.2 8 (by decide) b m hb hm
theorem mR_ew (h : mRel R A cm s σ) {b m : Nat} (hb : b < 1600) (hm : m < R) (hz : msk (fun a => s.1 15 b (m * 5 + a)) ≠ 0) : σ 9 (6 * b + m) = nI (s.1 16 b m) := h.2.2 9 (by decide) b m hb hm hz
theorem mR_bal (h : mRel R A cm s σ) {l : Nat} (hl : l < 3) : σ 10 l = nI (s.1 7 l 0) := h.2.2 10 (by decide) l hl
theorem mR_pha (h : mRel R A cm s σ) {l : Nat} (hl : l < 3) : σ 11 l = nI (s.1 8 l 0) := h.2.2 11 (by decide) l hl
theorem mR_hig (h : mRel R A cm s σ) {l : Nat} (hl : l < 3) : σ 12 l = nI (s.1 9 l 0) := h.2.2 12 (by decide) l hl
theorem mR_dec (h : mRel R A cm s σ) {l : Nat} (hl : l < 3) : σ 13 l = nI (s.1 10 l 0) := h.2.2 13 (by decide) l hl
theorem mR_tol (h : mRel R A cm s σ) {l : Nat} (hl : l < 3) : σ 14 l = nI (msk (s.1 11 l)) := h.2.2 14 (by decide) l hl
theorem mR_tB (h : mRel R A cm s σ) {l a m : Nat} (hl : l < 3) (ha : a < 5) (hm : m < R) (h1 : s.1 11 l a ≠ 0) : σ 15 ((5 * l + a) * 6 + m) = pB (s.1 12 l (a * 6 + m)) := h.2.2 15 (by decide) l a m hl ha hm h1
theorem mR_tW (h : mRel R A cm s σ) {l a m : Nat} (hl : l < 3) (ha : a < 5) (hm : m < R) (h1 : s.1 11 l a ≠ 0) : σ 16 ((5 * l + a) * 6 + m) = nI (s.1 12 l (a * 6 + m) % 4) := h.2.2 16 (by decide) l a m hl ha hm h1
theorem mR_sB (h : mRel R A cm s σ) {l m a : Nat} (hl : l < 3) (hm : m < R) (ha : a < 5) : σ 17 ((l * 6 + m) * 5 + a) = pB (s.1 14 l (m * 5 + a)) := h.2.2 17 (by decide) l m a hl hm ha
theorem mR_sW (h : mRel R A cm s σ) {l m a : Nat} (hl : l < 3) (hm : m < R) (ha : a < 5) (h1 : s.1 14 l (m * 5 + a) ≠ 0) : σ 18 ((l * 6 + m) * 5 + a) = nI (s.1 14 l (m * 5 + a) % 4) := h.2.2 18 (by decide) l m a hl hm ha h1
theorem mR_oc (h : mRel R A cm s σ) {l m : Nat} (hl : l < 3) (hm : m < R) : σ 19 (l * 6 + m) = nI (s.1 13 l m) := h.2.2 19 (by decide) l m hl hm
theorem mR_u0 (h : mRel R A cm s σ) {i : Nat} (hi : i < 6) : σ (20 + 0) i = nI (s.1 2 0 i) := h.2.2 20 (by decide) i hi
theorem mR_u1 (h : mRel R A cm s σ) {i : Nat} (hi : i < 6) : σ (20 + 1) i = nI (s.1 2 1 i) := h.2.2 21 (by decide) i hi
theorem mR_u2 (h : mRel R A cm s σ) {i : Nat} (hi : i < 6) : σ (20 + 2) i = nI (s.1 2 2 i) := h.2.2 22 (by decide) i hi
/-- what mO needs -/
theorem mO_kept {α β : pS} {n : Nat} {τ : gSt} (h : mO R A cm α n σ) (h0 : ∀ j, 1 ≤ j → τ 0 j = σ 0 j) (a0 : β 1 0 0 = α 1 0 0) (a2 : β 1 2 0 = α 1 2 0) : mO R A cm β n τ := by
  unfold mO at h ⊢
  rw [h0 1 (by decide), h0 2 (by decide), h0 5 (by decide), h0 6 (by decide), h0 7 (by decide), h0 8 (by decide), a0, a2]
  exact h
theorem mMs_kept {ms : List pMsg} {τ : gSt} (h : mMs R ms σ) (h1 : τ 1 = σ 1) : mMs R ms τ := by
  unfold mMs at h ⊢
  rw [h1]
  exact h
theorem mOne_mv {f g : Nat → Int32} {i j : Nat} {x : pMsg} (h : mOne R f i x) (hR : R ≤ 6) (hs : ∀ k, k < 18 → g (j + k) = f (i + k)) : mOne R g j x := by
  refine ⟨fun k hk => ?_, fun h3 m hm => ?_⟩
  · rw [hs k (by omega)]
    exact h.1 k hk
  · rw [hs (6 + m) (by omega), hs (12 + m) (by omega)]
    exact h.2 h3 m hm
/-- the mark of a throw is written -/
theorem mRel_thr (h : mRel R A cm s σ) (v : Int32) : mRel R A cm s (gup σ 0 0 v) :=
  mRel_to (β := s.1) (ms := s.2) h [] [] (fun _ _ _ _ _ h => absurd h List.not_mem_nil) (fun c _ _ h3 => gup_ne _ _ (by omega)) (fun _ _ => rfl) (mO_kept h.1 (fun j hj => gup_j _ _ (by omega)) rfl rfl) (mMs_kept h.2.1 (gup_ne _ _ (by decide))) (fun c hc => absurd hc List.not_mem_nil)
end MR
