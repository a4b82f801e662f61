/-! bounds, one for each component -/
def pBnd (c : Nat) : Nat := match c with | 2 => 1 | 3 => 4 | 4 => 2 | 5 => 1536 | 6 => 6150 | 7 => 1536 | 8 => 2 | 9 => 1536 | 10 => 2 | 11 => 1 | 12 => 6150 | 13 => 2 | 14 => 6150 | 15 => 1 | 16 => 2 | 17 => 6150 | 18 => 2 | 19 => 1 | _ => 6150
def pBu (α : pS) : Prop := ∀ c i j, 2 ≤ c → c ≤ 20 → α c i j ≤ pBnd c
theorem pBu_bd {R A : Nat} {α : pS} (h : pBu α) : pBd R A α :=
  ⟨fun i j => h 2 i j (by decide) (by decide), fun m => h 3 m 0 (by decide) (by decide), fun m => h 4 m 0 (by decide) (by decide), fun m => h 5 m 0 (by decide) (by decide), fun a m => h 6 a m (by decide) (by decide), fun m => h 7 m 0 (by decide) (by decide), fun m => h 8 m 0 (by decide) (by decide), fun m => h 9 m 0 (by decide) (by decide), fun m => h 10 m 0 (by decide) (by decide),
   fun a m => h 11 a m (by decide) (by decide), fun a m => h 12 a m (by decide) (by decide), fun a m => h 13 a m (by decide) (by decide), fun a m => h 14 a m (by decide) (by decide), fun a m => h 15 a m (by decide) (by decide), fun a m => h 16 a m (by decide) (by decide), fun a m => h 17 a m (by decide) (by decide), fun m => h 18 m 0 (by decide) (by decide), fun m => h 19 m 0 (by decide) (by decide), fun a m => h 20 a m (by decide) (by decide)⟩
theorem pBu_pu {α : pS} (h : pBu α) {c i j v : Nat} (hv : c < 2 ∨ v ≤ pBnd c) : pBu (pu α c i j v) := by
  intro x y z h1 h2
  unfold pu
  split
  · rename_i q
    rw [q.1] at h1 ⊢
    rcases hv with hv | hv
    · omega
    · exact hv
  · exact h x y z h1 h2
theorem pBu_clr {α : pS} (h : pBu α) (c l : Nat) : pBu (pClr α c l) := by
  intro x y z h1 h2
  unfold pClr
  split
  · exact Nat.zero_le _
  · exact h x y z h1 h2
theorem pBu_snd {α : pS} (h : pBu α) (k : Nat) : pBu (pSnd α k) := pBu_pu h (Or.inl (by decide))
theorem pBu_ent {α : pS} (h : pBu α) {A m b w a : Nat} (hw : w ≤ 2) : pBu (pEnter A α m b w a) := by
  have h1 : pBu (pu α 15 b (m * 5 + a) 1) := pBu_pu h (Or.inr (by decide))
  unfold pEnter
  dsimp only
  split
  · exact h1
  · split
    · exact pBu_pu h1 (Or.inr hw)
    · split
      · exact h1
      · exact pBu_pu h1 (Or.inr (by decide))
theorem pMax_le {a b n : Nat} (ha : a ≤ n) (hb : b ≤ n) : pMax a b ≤ n := by
  unfold pMax
  split <;> assumption
theorem pBu_lat {α : pS} (h : pBu α) {l R : Nat} {t : Nat → Nat} (ht : ∀ m, t m ≤ 6150) : pBu (pLat α l R t) := by
  intro x y z h1 h2
  unfold pLat
  split
  · rename_i q
    rw [q.1]
    exact pMax_le (h 20 l z (by decide) (by decide)) (ht z)
  · exact h x y z h1 h2
theorem pBu_tel {α : pS} (h : pBu α) {l a R : Nat} {t : Nat → Nat} (ht : ∀ m, t m ≤ 6150) : pBu (pTel α l a R t) := by
  intro x y z h1 h2
  unfold pTel
  split
  · rename_i q
    rw [q.1]
    exact ht _
  · exact h x y z h1 h2
theorem pWrd_le {v : Nat} (h : v % 4 ≤ 2) : pWrd v ≤ 2 := by
  unfold pWrd
  split <;> omega
theorem pBu_lay {α : pS} (h : pBu α) {b R : Nat} {f : Nat → Nat} (ht : ∀ m, m < R → f m ≤ 2) : pBu (pLay α b R f) := by
  intro x y z h1 h2
  unfold pLay
  split
  · rename_i q
    rw [q.1]
    exact ht _ q.2.2
  · exact h x y z h1 h2
theorem pBu_tol {α : pS} (h : pBu α) {b a R : Nat} {t : Nat → Nat} (ht : ∀ m, t m ≤ 6150) : pBu (pTol α b a R t) := by
  intro x y z h1 h2
  unfold pTol
  split
  · rename_i q
    rw [q.1]
    exact ht _
  · exact h x y z h1 h2
theorem max_nI {a b : Nat} (ha : a < 2 ^ 31) (hb : b < 2 ^ 31) : (if nI a < nI b then nI b else nI a) = nI (pMax a b) := by
  unfold pMax
  by_cases h : a < b
  · rw [if_pos h, if_pos ((nI_ltI ha hb).mpr h)]
  · rw [if_neg h, if_neg (fun q => h ((nI_ltI ha hb).mp q))]
theorem pOut_9 (A : Nat) (α : pS) (i v l m a b w : Nat) : pOut A (pu α 9 i 0 v) l m a b w = pOut A α l m a b w := rfl
theorem pDec_9 (R A : Nat) (α : pS) (i v l m a b w : Nat) : pDec R A (pu α 9 i 0 v) l m a b w = pDec R A α l m a b w := rfl
theorem pNew_9 (α : pS) (i v l m a b : Nat) : pNew (pu α 9 i 0 v) l m a b = pNew α l m a b := rfl
/-- the state behind a message's effect, its own place not yet free -/
def pTk (R A : Nat) (x : pMsg) (s : pT) : pT := (pSnd (pTake R A s.1 x).1 (pTake R A s.1 x).2.length, s.2 ++ (pTake R A s.1 x).2)
theorem pTk_of {R A : Nat} {x : pMsg} {s : pT} {α : pS} {n : Nat} {f : Nat → pMsg} (h : pTake R A s.1 x = (α, (List.range n).map f)) : pTk R A x s = pAdd (α, s.2) n f := by
  unfold pTk pAdd
  rw [h]
  simp
theorem pTk_no {R A : Nat} {x : pMsg} {s : pT} {α : pS} (h : pTake R A s.1 x = (α, [])) : pTk R A x s = (α, s.2) := by
  unfold pTk
  rw [h]
  simp [pSnd_0]
