/-! THE CLASS'S STORE holds the specification's state -/
def cO (α : pS) (σ : gSt) : Prop := σ 0 5 = nI (α 1 1 0) ∧ σ 0 6 = nI (α 1 2 0)
/-- a message in its stretch of cells -/
def cOne (R : Nat) (σ : gSt) (i : Nat) (x : pMsg) : Prop := (∀ j, j < 6 → σ 5 (i * (6 + R) + j) = pt x j) ∧ (x 0 = 3 → ∀ m, m < R → σ 5 (i * (6 + R) + 6 + m) = nI (x (6 + m)))
def cMs (R : Nat) (α : pS) (ms : List pMsg) (σ : gSt) : Prop := σ 4 0 = nI ms.length ∧ σ 4 1 = nI (α 1 0 0) ∧ σ 4 2 = nI (6 + R) ∧ ∀ i x, ms[i]? = some x → cOne R σ i x
def cTk (R : Nat) (α : pS) (b : Nat) (σ : gSt) : Prop := ∃ T, T < 2 ^ 30 ∧ σ 9 b = nI T ∧ ∀ m, m < R → T / 32 ^ m % 32 = msk (fun a => α 15 b (m * 5 + a))
def cLg (R A : Nat) (α : pS) (σ : gSt) : Prop := σ 6 2 = nI A ∧ (∀ m, m < R → σ 7 m = nI (α 18 m 0)) ∧ (∀ m, m < R → σ 8 m = nI (α 19 m 0)) ∧ ∀ b, b < 1537 → cTk R α b σ
def cMg (R : Nat) (α : pS) (σ : gSt) : Prop := ∀ m, m < R → σ (10 + m) 0 = nI (α 2 0 m) ∧ σ (10 + m) 1 = nI (α 3 m 0) ∧ σ (10 + m) 2 = nI (α 4 m 0)
def cAc (R A : Nat) (α : pS) (σ : gSt) : Prop := ∀ a, a < A → σ (20 + a) 0 = nI (α 2 1 a) ∧ σ (20 + a) 1 = nI (α 5 a 0) ∧ ∀ m, m < R → σ (30 + a) m = nI (α 6 a m)
def cLd1 (R A : Nat) (α : pS) (σ : gSt) (l : Nat) : Prop := σ (40 + l) 0 = nI (α 2 2 l) ∧ σ (40 + l) 1 = nI (α 7 l 0) ∧ σ (40 + l) 2 = nI (α 8 l 0) ∧ σ (40 + l) 3 = nI (α 9 l 0) ∧ σ (40 + l) 4 = nI (α 10 l 0) ∧ σ (40 + l) 5 = nI (msk (α 11 l)) ∧ σ (40 + l) 8 = nI A ∧
  (∀ m, m < R → σ (50 + l) m = nI (α 20 l m)) ∧ (∀ m, m < R → σ (60 + l) m = nI (α 13 l m)) ∧ ∀ m a, m < R → a < A → σ (70 + l) (m * A + a) = nI (α 14 l (m * 5 + a))
def cLd (R A : Nat) (α : pS) (σ : gSt) : Prop := ∀ l, l < 3 → cLd1 R A α σ l
def cRel (R A : Nat) (s : pT) (σ : gSt) : Prop := cO s.1 σ ∧ cMs R s.1 s.2 σ ∧ cLg R A s.1 σ ∧ cMg R s.1 σ ∧ cAc R A s.1 σ ∧ cLd R A s.1 σ
/-- the numbers' bounds -/
def pBd (R A : Nat) (α : pS) : Prop := (∀ i j, α 2 i j ≤ 1) ∧ (∀ m, α 3 m 0 ≤ 4) ∧ (∀ m, α 4 m 0 ≤ 2) ∧ (∀ a, α 5 a 0 ≤ 1536) ∧ (∀ a m, α 6 a m ≤ 6150) ∧ (∀ l, α 7 l 0 ≤ 1536) ∧ (∀ l, α 8 l 0 ≤ 2) ∧ (∀ l, α 9 l 0 ≤ 1536) ∧ (∀ l, α 10 l 0 ≤ 2) ∧
  (∀ l a, α 11 l a ≤ 1) ∧ (∀ l j, α 12 l j ≤ 6150) ∧ (∀ l m, α 13 l m ≤ 2) ∧ (∀ l j, α 14 l j ≤ 6150) ∧ (∀ b j, α 15 b j ≤ 1) ∧ (∀ b m, α 16 b m ≤ 2) ∧ (∀ b m, α 17 b m ≤ 6150) ∧ (∀ m, α 18 m 0 ≤ 2) ∧ (∀ m, α 19 m 0 ≤ 1) ∧ (∀ l m, α 20 l m ≤ 6150)
/-- a message is one that can be -/
def pMk (R A : Nat) (x : pMsg) : Prop := x 4 ≤ 1536 ∧ (x 0 = 0 → x 1 < A ∧ x 3 < R ∧ (x 5 = 1 ∨ x 5 = 2)) ∧ (x 0 = 1 → x 1 < 3 ∧ x 2 < A ∧ x 3 < R ∧ (x 5 = 1 ∨ x 5 = 2)) ∧ (x 0 = 2 → x 1 < A ∧ 1 ≤ x 4) ∧ (x 0 = 3 → x 1 < 3 ∧ x 2 < A ∧ 1 ≤ x 4 ∧ ∀ m, x (6 + m) ≤ 6150) ∧ (x 0 = 4 → x 1 < R ∧ (x 5 = 1 ∨ x 5 = 2)) ∧ (x 0 = 5 → x 1 < 3 ∧ x 2 < R) ∧ x 0 ≤ 5
/-- R managers, A acceptors -/
def pRA (R A : Nat) : Prop := 1 ≤ R ∧ R ≤ 6 ∧ (A = 3 ∨ A = 5)
-- the store behind a send
theorem gup_at (σ : gSt) (k j : Nat) (v : Int32) : gup σ k j v k j = v := if_pos ⟨rfl, rfl⟩
theorem gup_j (σ : gSt) {k j a b : Nat} (v : Int32) (h : b ≠ j) : gup σ k j v a b = σ a b := if_neg (fun q => h q.2)
theorem snd_o {σ : gSt} {n w : Nat} {x0 x1 x2 x3 x4 x5 : Int32} {a : Nat} (h4 : a ≠ 4) (h5 : a ≠ 5) : sndσ σ n w x0 x1 x2 x3 x4 x5 a = σ a := by
  unfold sndσ
  rw [gup_ne _ _ h4, gup_ne _ _ h4, gup_ne _ _ h5, gup_ne _ _ h5, gup_ne _ _ h5, gup_ne _ _ h5, gup_ne _ _ h5, gup_ne _ _ h5]
theorem snd_40 {σ : gSt} {n w : Nat} {x0 x1 x2 x3 x4 x5 : Int32} : sndσ σ n w x0 x1 x2 x3 x4 x5 4 0 = nI (n + 1) := rfl
theorem snd_41 {σ : gSt} {n w : Nat} {x0 x1 x2 x3 x4 x5 : Int32} : sndσ σ n w x0 x1 x2 x3 x4 x5 4 1 = σ 4 1 + nI 1 := rfl
theorem snd_42 {σ : gSt} {n w : Nat} {x0 x1 x2 x3 x4 x5 : Int32} : sndσ σ n w x0 x1 x2 x3 x4 x5 4 2 = σ 4 2 := rfl
def six (x0 x1 x2 x3 x4 x5 : Int32) (j : Nat) : Int32 := match j with | 0 => x0 | 1 => x1 | 2 => x2 | 3 => x3 | 4 => x4 | _ => x5
theorem snd_5 {σ : gSt} {n w : Nat} {x0 x1 x2 x3 x4 x5 : Int32} (p : Nat) : sndσ σ n w x0 x1 x2 x3 x4 x5 5 p = if n * w ≤ p ∧ p < n * w + 6 then six x0 x1 x2 x3 x4 x5 (p - n * w) else σ 5 p := by
  unfold sndσ
  rw [gup_ne _ _ (by decide), gup_ne _ _ (by decide)]
  by_cases h : n * w ≤ p ∧ p < n * w + 6
  · rw [if_pos h]
    obtain ⟨j, rfl⟩ : ∃ j, p = n * w + j := ⟨p - n * w, by omega⟩
    rw [Nat.add_sub_cancel_left]
    have hj : j < 6 := by omega
    rcases (show j = 0 ∨ j = 1 ∨ j = 2 ∨ j = 3 ∨ j = 4 ∨ j = 5 by omega) with h | h | h | h | h | h <;> subst h <;> simp [gup, six]
  · rw [if_neg h, gup_j _ _ (by omega), gup_j _ _ (by omega), gup_j _ _ (by omega), gup_j _ _ (by omega), gup_j _ _ (by omega), gup_j _ _ (by omega)]
theorem stretch {R i n j : Nat} (h : i < n) (hj : j < 6 + R) : i * (6 + R) + j < n * (6 + R) := mlt h hj
/-- messages on their way stay where they are -/
theorem cOne_kept {R : Nat} {σ σ' : gSt} {i n : Nat} {x : pMsg} (h : cOne R σ i x) (hi : i < n) (hs : ∀ p, p < n * (6 + R) → σ' 5 p = σ 5 p) : cOne R σ' i x := by
  refine ⟨fun j hj => ?_, fun h3 m hm => ?_⟩
  · rw [hs _ (stretch hi (by omega))]
    exact h.1 j hj
  · rw [hs _ (by have := stretch (R := R) (j := 6 + m) hi (by omega); omega)]
    exact h.2 h3 m hm
theorem cMs_len {R : Nat} {α : pS} {ms : List pMsg} {σ : gSt} (h : cMs R α ms σ) : σ 4 0 = nI ms.length := h.1
/-- a message more -/
theorem cMs_snd {R : Nat} {α : pS} {ms : List pMsg} {σ : gSt} (h : cMs R α ms σ) (x : pMsg) (h3 : x 0 ≠ 3) {x0 x1 x2 x3 x4 x5 : Int32} (e0 : x0 = pt x 0) (e1 : x1 = pt x 1) (e2 : x2 = pt x 2) (e3 : x3 = pt x 3) (e4 : x4 = pt x 4) (e5 : x5 = pt x 5) :
    cMs R (pSnd α 1) (ms ++ [x]) (sndσ σ ms.length (6 + R) x0 x1 x2 x3 x4 x5) := by
  obtain ⟨q1, q2, q3, q4⟩ := h
  refine ⟨?_, ?_, ?_, fun i y hy => ?_⟩
  · rw [snd_40, List.length_append]
    rfl
  · rw [snd_41, q2, nI_add]
    unfold pSnd
    rw [pu_at]
  · rw [snd_42, q3]
  · by_cases hi : i < ms.length
    · rw [List.getElem?_append_left hi] at hy
      exact cOne_kept (q4 i y hy) hi (fun p hp => by rw [snd_5, if_neg (by omega)])
    · rw [List.getElem?_append_right (by omega)] at hy
      have h0 : i - ms.length < 1 := (List.getElem?_eq_some_iff.mp hy).1
      have hi0 : i = ms.length := by omega
      subst hi0
      rw [Nat.sub_self] at hy
      cases hy
      refine ⟨fun j hj => ?_, fun h => absurd h h3⟩
      rw [snd_5, if_pos (by omega), Nat.add_sub_cancel_left]
      rcases (show j = 0 ∨ j = 1 ∨ j = 2 ∨ j = 3 ∨ j = 4 ∨ j = 5 by omega) with h | h | h | h | h | h <;> subst h <;> assumption
theorem cO_of {α β : pS} {σ τ : gSt} (h : cO α σ) (s0 : τ 0 = σ 0) (a1 : β 1 1 0 = α 1 1 0) (a2 : β 1 2 0 = α 1 2 0) : cO β τ := by
  unfold cO at h ⊢
  rw [s0, a1, a2]
  exact h
theorem cLg_of {R A : Nat} {α β : pS} {σ τ : gSt} (h : cLg R A α σ) (s6 : τ 6 = σ 6) (s7 : τ 7 = σ 7) (s8 : τ 8 = σ 8) (s9 : τ 9 = σ 9) (a15 : β 15 = α 15) (a18 : β 18 = α 18) (a19 : β 19 = α 19) : cLg R A β τ := by
  unfold cLg cTk at h ⊢
  rw [s6, s7, s8, s9, a15, a18, a19]
  exact h
theorem cMg_of {R : Nat} {α β : pS} {σ τ : gSt} (h : cMg R α σ) (s : ∀ m, m < R → τ (10 + m) = σ (10 + m)) (a2 : β 2 0 = α 2 0) (a3 : β 3 = α 3) (a4 : β 4 = α 4) : cMg R β τ := by
  intro m hm
  rw [s m hm, a2, a3, a4]
  exact h m hm
theorem cAc_of {R A : Nat} {α β : pS} {σ τ : gSt} (h : cAc R A α σ) (s : ∀ a, a < A → τ (20 + a) = σ (20 + a)) (s2 : ∀ a, a < A → τ (30 + a) = σ (30 + a)) (a2 : β 2 1 = α 2 1) (a5 : β 5 = α 5) (a6 : β 6 = α 6) : cAc R A β τ := by
  intro a ha
  rw [s a ha, s2 a ha, a2, a5, a6]
  exact h a ha
theorem cLd1_of {R A : Nat} {α β : pS} {σ τ : gSt} {l : Nat} (h : cLd1 R A α σ l) (s4 : τ (40 + l) = σ (40 + l)) (s5 : τ (50 + l) = σ (50 + l)) (s6 : τ (60 + l) = σ (60 + l)) (s7 : τ (70 + l) = σ (70 + l)) (a2 : β 2 2 l = α 2 2 l) (a7 : β 7 l = α 7 l) (a8 : β 8 l = α 8 l) (a9 : β 9 l = α 9 l) (a10 : β 10 l = α 10 l) (a11 : β 11 l = α 11 l) (a13 : β 13 l = α 13 l) (a14 : β 14 l = α 14 l) (a20 : β 20 l = α 20 l) : cLd1 R A β τ l := by
  unfold cLd1 at h ⊢
  rw [s4, s5, s6, s7, a2, a7, a8, a9, a10, a11, a13, a14, a20]
  exact h
/-- only the mail has changed -/
theorem cRel_mail {R A : Nat} {s : pT} {σ σ' : gSt} (h : cRel R A s σ) {α : pS} {ms : List pMsg} (hm : cMs R α ms σ') (hs : ∀ a, a ≠ 4 → a ≠ 5 → σ' a = σ a) (hα : ∀ c, c ≠ 1 → α c = s.1 c) (h1 : α 1 1 = s.1 1 1) (h2 : α 1 2 = s.1 1 2) : cRel R A (α, ms) σ' := by
  obtain ⟨qO, -, qL, qM, qA, qD⟩ := h
  refine ⟨cO_of qO (hs 0 (by decide) (by decide)) (by show α 1 1 0 = _; rw [h1]) (by show α 1 2 0 = _; rw [h2]), hm,
    cLg_of qL (hs 6 (by decide) (by decide)) (hs 7 (by decide) (by decide)) (hs 8 (by decide) (by decide)) (hs 9 (by decide) (by decide)) (hα 15 (by decide)) (hα 18 (by decide)) (hα 19 (by decide)),
    cMg_of qM (fun m _ => hs _ (by omega) (by omega)) (by show α 2 0 = _; rw [hα 2 (by decide)]) (hα 3 (by decide)) (hα 4 (by decide)),
    cAc_of qA (fun m _ => hs _ (by omega) (by omega)) (fun m _ => hs _ (by omega) (by omega)) (by show α 2 1 = _; rw [hα 2 (by decide)]) (hα 5 (by decide)) (hα 6 (by decide)), fun l hl => ?_⟩
  exact cLd1_of (qD l hl) (hs _ (by omega) (by omega)) (hs _ (by omega) (by omega)) (hs _ (by omega) (by omega)) (hs _ (by omega) (by omega)) (by show α 2 2 l = _; rw [hα 2 (by decide)]) (by show α 7 l = _; rw [hα 7 (by decide)]) (by show α 8 l = _; rw [hα 8 (by decide)]) (by show α 9 l = _; rw [hα 9 (by decide)]) (by show α 10 l = _; rw [hα 10 (by decide)]) (by show α 11 l = _; rw [hα 11 (by decide)]) (by show α 13 l = _; rw [hα 13 (by decide)]) (by show α 14 l = _; rw [hα 14 (by decide)]) (by show α 20 l = _; rw [hα 20 (by decide)])
theorem cRel_snd {R A : Nat} {s : pT} {σ : gSt} (h : cRel R A s σ) (x : pMsg) (h3 : x 0 ≠ 3) {x0 x1 x2 x3 x4 x5 : Int32} (e0 : x0 = pt x 0) (e1 : x1 = pt x 1) (e2 : x2 = pt x 2) (e3 : x3 = pt x 3) (e4 : x4 = pt x 4) (e5 : x5 = pt x 5) :
    cRel R A (pSnd s.1 1, s.2 ++ [x]) (sndσ σ s.2.length (6 + R) x0 x1 x2 x3 x4 x5) :=
  cRel_mail h (cMs_snd h.2.1 x h3 e0 e1 e2 e3 e4 e5) (fun a h4 h5 => snd_o h4 h5) (fun c hc => pu_c _ hc) (pu_i _ (by decide)) (pu_i _ (by decide))
