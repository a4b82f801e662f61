/-! numbers of votes and masks -/
theorem pB_v {b w : Nat} (hw : 1 ≤ w) (hw2 : w ≤ 2) : pB (4 * b + w) = nI b := by
  unfold pB
  rw [if_neg (by omega), show (4 * b + w) / 4 = b by omega]
theorem pB_neg : ∀ {v : Nat}, v = 0 → pB v = -1 := fun h => by unfold pB; rw [if_pos h]
theorem m1_lt {b : Nat} (hb : b < 2 ^ 31) : (-1 : Int32) < nI b := by
  apply Int32.lt_iff_toInt_lt.mpr
  rw [nI_toInt hb]
  have : (-1 : Int32).toInt = -1 := by decide
  omega
theorem m1_ne {b : Nat} (hb : b < 2 ^ 31) : (-1 : Int32) ≠ nI b := fun e => by
  have h := m1_lt hb
  rw [← e] at h
  exact absurd h (by decide)
theorem pB_lt {s b : Nat} (hs : s < 2 ^ 31) (hb : b < 2 ^ 31) : pB s < nI b ↔ (s = 0 ∨ s / 4 < b) := by
  unfold pB
  by_cases h : s = 0
  · rw [if_pos h]
    exact ⟨fun _ => Or.inl h, fun _ => m1_lt hb⟩
  · rw [if_neg h, nI_ltI (by omega) hb]
    omega
theorem pB_eq {s b : Nat} (hs : s < 2 ^ 31) (hb : b < 2 ^ 31) : pB s = nI b ↔ (s ≠ 0 ∧ s / 4 = b) := by
  unfold pB
  by_cases h : s = 0
  · rw [if_pos h]
    exact ⟨fun e => absurd e (m1_ne hb), fun e => absurd h e.1⟩
  · rw [if_neg h, nI_eq (by omega) hb]
    omega
theorem msk_lt {f : Nat → Nat} (h : ∀ a, f a ≤ 1) : msk f < 32 := by
  unfold msk
  have := h 0
  have := h 1
  have := h 2
  have := h 3
  have := h 4
  omega
theorem pc5_msk {f : Nat → Nat} (h : ∀ a, f a ≤ 1) : pc5 (msk f) = psum f 5 := by
  have h0 := h 0
  have h1 := h 1
  have h2 := h 2
  have h3 := h 3
  have h4 := h 4
  unfold pc5 msk
  simp only [psum]
  omega
theorem msk_div {f : Nat → Nat} (h : ∀ a, f a ≤ 1) {a : Nat} (ha : a < 5) : msk f / 2 ^ a % 2 = f a := by
  have h0 := h 0
  have h1 := h 1
  have h2 := h 2
  have h3 := h 3
  have h4 := h 4
  unfold msk
  rcases (show a = 0 ∨ a = 1 ∨ a = 2 ∨ a = 3 ∨ a = 4 by omega) with e | e | e | e | e <;> subst e <;> omega
theorem sh31 : ∀ n, n < 32 → ((nI n &&& 31).toBitVec.smod 32).toNat = n := by decide +kernel
theorem msk_bit {f : Nat → Nat} (h : ∀ a, f a ≤ 1) {a : Nat} (ha : a < 5) : (nI (msk f) >>> (nI a &&& 31)) &&& nI 1 = nI (f a) := by
  have hl := msk_lt h
  rw [pk_shrN (by omega) _ a (sh31 a (by omega)), pk_andN (n := msk f / 2 ^ a) (Nat.lt_of_le_of_lt (Nat.div_le_self _ _) (by omega)) 1 (by decide), show (2 : Nat) ^ 1 = 2 from rfl, msk_div h ha]
theorem nI_or (a b : Nat) : nI a ||| nI b = nI (a ||| b) := by
  apply Int32.toBitVec_inj.mp
  show BitVec.ofNat 32 a ||| BitVec.ofNat 32 b = BitVec.ofNat 32 (a ||| b)
  rw [BitVec.ofNat_or]
theorem one_shl {k : Nat} (hk : k < 31) : nI 1 <<< (nI k &&& 31) = nI (2 ^ k) := by
  rw [pk_shlN (n := 1) (nI k &&& 31) k (sh31 k (by omega)) (by rw [Nat.one_mul]; exact Nat.pow_lt_pow_right (by decide) (by omega)), Nat.one_mul]
/-- a bit more -/
theorem msk_set {f g : Nat → Nat} (h : ∀ a, f a ≤ 1) {a : Nat} (ha : a < 5) (hg : ∀ c, c < 5 → g c = if c = a then 1 else f c) : msk f ||| 2 ^ a = msk g := by
  have h0 := h 0
  have h1 := h 1
  have h2 := h 2
  have h3 := h 3
  have h4 := h 4
  unfold msk
  rw [hg 0 (by decide), hg 1 (by decide), hg 2 (by decide), hg 3 (by decide), hg 4 (by decide)]
  have key : ∀ (x0 x1 x2 x3 x4 : Fin 2) (a : Fin 5), (x0.val + 2 * x1.val + 4 * x2.val + 8 * x3.val + 16 * x4.val) ||| 2 ^ a.val = (if 0 = a.val then 1 else x0.val) + 2 * (if 1 = a.val then 1 else x1.val) + 4 * (if 2 = a.val then 1 else x2.val) + 8 * (if 3 = a.val then 1 else x3.val) + 16 * (if 4 = a.val then 1 else x4.val) := by decide +kernel
  exact key ⟨f 0, by omega⟩ ⟨f 1, by omega⟩ ⟨f 2, by omega⟩ ⟨f 3, by omega⟩ ⟨f 4, by omega⟩ ⟨a, ha⟩
theorem msk_or {f g : Nat → Nat} (h : ∀ a, f a ≤ 1) {a : Nat} (ha : a < 5) (hg : ∀ c, c < 5 → g c = if c = a then 1 else f c) : nI (msk f) ||| nI 1 <<< (nI a &&& 31) = nI (msk g) := by
  rw [one_shl (by omega), nI_or, msk_set h ha hg]
theorem psum_le {f : Nat → Nat} (h : ∀ i, f i ≤ 1) : ∀ n, psum f n ≤ n
  | 0 => Nat.le_refl _
  | n + 1 => by
    have := psum_le h n
    have := h n
    simp only [psum]
    omega
theorem psum_congr {f g : Nat → Nat} : ∀ n, (∀ i, i < n → f i = g i) → psum f n = psum g n
  | 0, _ => rfl
  | n + 1, h => by
    simp only [psum]
    rw [psum_congr n (fun i hi => h i (by omega)), h n (by omega)]
theorem ptN {x : pMsg} {j : Nat} (h : pPres (x 0) j = true) : pt x j = nI (x j) := if_pos h
theorem ptM {x : pMsg} {j : Nat} (h : pPres (x 0) j = false) : pt x j = -1 := if_neg (by rw [h]; decide)
theorem pt0 (x : pMsg) (h : x 0 ≤ 5) : pt x 0 = nI (x 0) := ptN (by rcases (show x 0 = 0 ∨ x 0 = 1 ∨ x 0 = 2 ∨ x 0 = 3 ∨ x 0 = 4 ∨ x 0 = 5 by omega) with e | e | e | e | e | e <;> rw [e] <;> rfl)
theorem pt1 (x : pMsg) (h : x 0 ≤ 5) : pt x 1 = nI (x 1) := ptN (by rcases (show x 0 = 0 ∨ x 0 = 1 ∨ x 0 = 2 ∨ x 0 = 3 ∨ x 0 = 4 ∨ x 0 = 5 by omega) with e | e | e | e | e | e <;> rw [e] <;> rfl)
