/-! THE INVARIANT -/
def pBT (T c : Nat) : Nat := match c with | 2 => 1 | 3 => 4 | 4 => 2 | 5 => T | 6 => 4 * T + 2 | 7 => T | 8 => 2 | 9 => T | 10 => 2 | 11 => 1 | 12 => 4 * T + 2 | 13 => 2 | 14 => 4 * T + 2 | 15 => 1 | 16 => 2 | 17 => 4 * T + 2 | 18 => 2 | 19 => 1 | _ => 4 * T + 2
def iN (A T : Nat) (α : pS) : Prop := (∀ c i j, 2 ≤ c → c ≤ 20 → α c i j ≤ pBT T c) ∧ ∀ b m a, A ≤ a → a < 5 → α 15 b (m * 5 + a) = 0
/-- a decision and what is chosen -/
def pDc (R : Nat) (α : pS) (d : Nat) : Prop := (d = 1 → ∀ m, m < R → α 18 m 0 = 1) ∧ (d = 2 → ∃ m, m < R ∧ α 18 m 0 = 2)
def iM (R : Nat) (α : pS) : Prop := ∀ m, m < R → (α 3 m 0 = 0 → α 16 0 m = 0 ∧ α 4 m 0 = 0) ∧ (α 3 m 0 = 1 ∨ α 3 m 0 = 2 → α 16 0 m = α 3 m 0 ∧ α 4 m 0 = α 3 m 0) ∧ (∀ b, α 16 b m = 1 → α 4 m 0 = 1) ∧ pDc R α (α 3 m 0 - 2)
/-- a vote that the acceptor a has accepted -/
def pVo (α : pS) (a m v : Nat) : Prop := α 15 (v / 4) (m * 5 + a) ≠ 0 ∧ v % 4 = α 16 (v / 4) m ∧ v % 4 ≠ 0
/-- what a tells for ballot b: its latest vote below b, and it has promised b -/
def pTo (α : pS) (a b m v : Nat) : Prop := b ≤ α 5 a 0 ∧ (v ≠ 0 → pVo α a m v ∧ v / 4 < b) ∧ ∀ c, c < b → (v = 0 ∨ v / 4 < c) → α 15 c (m * 5 + a) = 0
def iA (R A : Nat) (α : pS) : Prop := ∀ a m, a < A → m < R → (∀ b, α 15 b (m * 5 + a) ≠ 0 → α 16 b m ≠ 0 ∧ b ≤ α 5 a 0 ∧ α 6 a m ≠ 0 ∧ b ≤ α 6 a m / 4) ∧ (α 6 a m ≠ 0 → pVo α a m (α 6 a m))
/-- why ballot b has the word that it has -/
def pWy (A : Nat) (α : pS) (b m : Nat) : Prop := ∃ (d f : Nat → Nat) (V : Nat), (∀ a, d a ≤ 1) ∧ (∀ a, A ≤ a → d a = 0) ∧ A < 2 * psum d 5 ∧ (∀ a, d a ≠ 0 → pTo α a b m (f a) ∧ f a ≤ V) ∧ (V ≠ 0 → ∃ a, d a ≠ 0 ∧ f a = V) ∧ α 16 b m = pWrd V
def iB (R A : Nat) (α : pS) : Prop := ∀ b m, m < R → 1 ≤ b → α 16 b m ≠ 0 → b ≤ α 9 ((b - 1) % 3) 0 ∧ pWy A α b m
def iL1 (R A : Nat) (α : pS) (l : Nat) : Prop := α 7 l 0 ≤ α 9 l 0 ∧ (α 8 l 0 = 1 → 1 ≤ α 7 l 0 ∧ (α 7 l 0 - 1) % 3 = l ∧ (∀ m, m < R → α 16 (α 7 l 0) m = 0) ∧ ¬ A < 2 * psum (α 11 l) 5) ∧ (∀ a, A ≤ a → α 11 l a = 0) ∧
  (∀ a m, m < R → α 11 l a ≠ 0 → pTo α a (α 7 l 0) m (α 12 l (a * 6 + m)) ∧ α 12 l (a * 6 + m) ≤ α 20 l m) ∧ ∀ m, m < R → α 20 l m ≠ 0 → ∃ a, α 11 l a ≠ 0 ∧ α 12 l (a * 6 + m) = α 20 l m
def iL (R A : Nat) (α : pS) : Prop := ∀ l, l < 3 → iL1 R A α l
def iS1 (A : Nat) (α : pS) (l m : Nat) : Prop := (∀ a, a < A → α 14 l (m * 5 + a) ≠ 0 → pVo α a m (α 14 l (m * 5 + a))) ∧ (α 13 l m ≠ 0 → α 13 l m = α 18 m 0) ∧ (α 13 l m = 0 → ∀ a, a < A → ¬ pMaj A (fun c => α 14 l (m * 5 + c)) a)
def iS (R A : Nat) (α : pS) : Prop := ∀ l m, l < 3 → m < R → iS1 A α l m
def iD1 (R : Nat) (α : pS) (l : Nat) : Prop := (α 10 l 0 = 0 → (∀ m, m < R → α 13 l m ≠ 2) ∧ ∃ m, m < R ∧ α 13 l m ≠ 1) ∧ pDc R α (α 10 l 0)
def iD (R : Nat) (α : pS) : Prop := ∀ l, l < 3 → iD1 R α l
/-- ballot b's word is chosen for m -/
def pCh (A : Nat) (α : pS) (b m : Nat) : Prop := A < 2 * psum (fun a => α 15 b (m * 5 + a)) 5
def iC (R A : Nat) (α : pS) : Prop := ∀ m, m < R → α 19 m 0 = 0 ∧ (∀ b, pCh A α b m → α 16 b m = α 18 m 0) ∧ (α 18 m 0 ≠ 0 → ∃ b, pCh A α b m ∧ α 16 b m = α 18 m 0)
def iAll (R A T : Nat) (α : pS) : Prop := iN A T α ∧ iM R α ∧ iA R A α ∧ iB R A α ∧ iL R A α ∧ iS R A α ∧ iD R α ∧ iC R A α
/-- a message's -/
def iX (R A T : Nat) (α : pS) (x : pMsg) : Prop := x 4 ≤ T ∧ x 0 ≤ 5 ∧ (x 0 = 0 → x 1 < A ∧ x 3 < R ∧ (x 5 = 1 ∨ x 5 = 2) ∧ x 5 = α 16 (x 4) (x 3)) ∧ (x 0 = 1 → x 1 < 3 ∧ x 2 < A ∧ x 3 < R ∧ (x 5 = 1 ∨ x 5 = 2) ∧ x 5 = α 16 (x 4) (x 3) ∧ α 15 (x 4) (x 3 * 5 + x 2) ≠ 0) ∧
  (x 0 = 2 → x 1 < A ∧ 1 ≤ x 4) ∧ (x 0 = 3 → x 1 < 3 ∧ x 2 < A ∧ 1 ≤ x 4 ∧ (∀ m, x (6 + m) ≤ 4 * T + 2) ∧ ∀ m, m < R → pTo α (x 2) (x 4) m (x (6 + m))) ∧ (x 0 = 4 → x 1 < R ∧ (x 5 = 1 ∨ x 5 = 2) ∧ pDc R α (x 5)) ∧ (x 0 = 5 → x 1 < 3 ∧ x 2 < R)
def pInv (R A T : Nat) (s : pT) : Prop := iAll R A T s.1 ∧ (∀ x ∈ s.2, iX R A T s.1 x) ∧ s.2.length ≤ 400
/-- a state grows into another -/
def gro (R : Nat) (α β : pS) : Prop := (∀ a, α 5 a 0 ≤ β 5 a 0) ∧ (∀ b j, α 15 b j ≠ 0 → β 15 b j ≠ 0) ∧ (∀ b m a, m < R → a < 5 → α 15 b (m * 5 + a) = 0 → b < α 5 a 0 → β 15 b (m * 5 + a) = 0) ∧ (∀ b m, m < R → α 16 b m ≠ 0 → β 16 b m = α 16 b m) ∧ ∀ m, m < R → α 18 m 0 ≠ 0 → β 18 m 0 = α 18 m 0
theorem gro_same {R : Nat} {α β : pS} (h5 : β 5 = α 5) (h15 : β 15 = α 15) (h16 : β 16 = α 16) (h18 : β 18 = α 18) : gro R α β := by
  unfold gro
  rw [h5, h15, h16, h18]
  exact ⟨fun _ => Nat.le_refl _, fun _ _ h => h, fun _ _ _ _ _ h _ => h, fun _ _ _ _ => rfl, fun _ _ _ => rfl⟩
theorem pMaj_congr {A a : Nat} {f g : Nat → Nat} (hA : ∀ c, c < A → f c = g c) (ha : a < A) : pMaj A f a ↔ pMaj A g a := by
  have hc : pCnt f a A = pCnt g a A := by
    unfold pCnt
    exact psum_congr A (fun c hc => by rw [hA c hc, hA a ha])
  unfold pMaj
  rw [hA a ha, hc]
section GRO
variable {R A : Nat} {α β : pS}
theorem pVo_gro (g : gro R α β) {a m v : Nat} (hm : m < R) (h : pVo α a m v) : pVo β a m v := by
  obtain ⟨h1, h2, h3⟩ := h
  refine ⟨g.2.1 _ _ h1, ?_, h3⟩
  rw [g.2.2.2.1 _ _ hm (by omega)]
  exact h2
theorem pTo_gro (g : gro R α β) {a b m v : Nat} (ha : a < 5) (hm : m < R) (h : pTo α a b m v) : pTo β a b m v := by
  obtain ⟨h1, h2, h3⟩ := h
  refine ⟨Nat.le_trans h1 (g.1 a), fun hv => ⟨pVo_gro g hm (h2 hv).1, (h2 hv).2⟩, fun c hc hv => g.2.2.1 c m a hm ha (h3 c hc hv) (by omega)⟩
theorem pDc_gro (g : gro R α β) {d : Nat} (h : pDc R α d) : pDc R β d := by
  refine ⟨fun hd m hm => ?_, fun hd => ?_⟩
  · have := h.1 hd m hm
    rw [g.2.2.2.2 m hm (by omega)]
    exact this
  · obtain ⟨m, hm, q⟩ := h.2 hd
    refine ⟨m, hm, ?_⟩
    rw [g.2.2.2.2 m hm (by omega)]
    exact q
theorem pWy_gro (g : gro R α β) (hA : A ≤ 5) {b m : Nat} (hm : m < R) (h0 : α 16 b m ≠ 0) (h : pWy A α b m) : pWy A β b m := by
  obtain ⟨d, f, V, h1, h2, h3, h4, h5, h6⟩ := h
  refine ⟨d, f, V, h1, h2, h3, fun a ha => ⟨pTo_gro g (by
    by_cases q : A ≤ a
    · exact absurd (h2 a q) ha
    · omega) hm (h4 a ha).1, (h4 a ha).2⟩, h5, ?_⟩
  rw [g.2.2.2.1 b m hm h0]
  exact h6
theorem iB_gro (g : gro R α β) (hA : A ≤ 5) (h16 : ∀ b m, m < R → 1 ≤ b → β 16 b m ≠ 0 → α 16 b m ≠ 0) (h9 : ∀ l, α 9 l 0 ≤ β 9 l 0) (h : iB R A α) : iB R A β := by
  intro b m hm hb hz
  have hz' := h16 b m hm hb hz
  obtain ⟨h1, h2⟩ := h b m hm hb hz'
  exact ⟨Nat.le_trans h1 (h9 _), pWy_gro g hA hm hz' h2⟩
theorem iX_gro {T T' : Nat} (g : gro R α β) (hA : A ≤ 5) (hT : T ≤ T') {x : pMsg} (h : iX R A T α x) : iX R A T' β x := by
  obtain ⟨h4, h0, k0, k1, k2, k3, k4, k5⟩ := h
  refine ⟨by omega, h0, fun e => ?_, fun e => ?_, k2, fun e => ?_, fun e => ?_, k5⟩
  · obtain ⟨q1, q2, q3, q4⟩ := k0 e
    exact ⟨q1, q2, q3, by rw [g.2.2.2.1 _ _ q2 (by omega)]; exact q4⟩
  · obtain ⟨q1, q2, q3, q4, q5, q6⟩ := k1 e
    exact ⟨q1, q2, q3, q4, by rw [g.2.2.2.1 _ _ q3 (by omega)]; exact q5, g.2.1 _ _ q6⟩
  · obtain ⟨q1, q2, q3, q4, q5⟩ := k3 e
    exact ⟨q1, q2, q3, fun m => by have := q4 m; omega, fun m hm => pTo_gro g (by omega) hm (q5 m hm)⟩
  · obtain ⟨q1, q2, q3⟩ := k4 e
    exact ⟨q1, q2, pDc_gro g q3⟩
theorem iL1_gro (g : gro R α β) (hA : A ≤ 5) {l : Nat} (h7 : β 7 l = α 7 l) (h8 : β 8 l = α 8 l) (h9 : α 9 l 0 ≤ β 9 l 0) (h11 : β 11 l = α 11 l) (h12 : β 12 l = α 12 l) (h20 : β 20 l = α 20 l) (h16 : ∀ m, m < R → α 8 l 0 = 1 → β 16 (α 7 l 0) m = α 16 (α 7 l 0) m) (h : iL1 R A α l) : iL1 R A β l := by
  unfold iL1 at h ⊢
  rw [h7, h8, h11, h12, h20]
  obtain ⟨q1, q2, q3, q4, q5⟩ := h
  refine ⟨by omega, fun e => ?_, q3, fun a m hm ha => ⟨pTo_gro g (by
    by_cases q : A ≤ a
    · exact absurd (q3 a q) ha
    · omega) hm (q4 a m hm ha).1, (q4 a m hm ha).2⟩, q5⟩
  obtain ⟨r1, r2, r3, r4⟩ := q2 e
  exact ⟨r1, r2, fun m hm => by rw [h16 m hm e]; exact r3 m hm, r4⟩
theorem iS1_gro (g : gro R α β) {l m : Nat} (hm : m < R) (h13 : β 13 l m = α 13 l m) (h14 : ∀ a, a < A → β 14 l (m * 5 + a) = α 14 l (m * 5 + a)) (h : iS1 A α l m) : iS1 A β l m := by
  obtain ⟨q1, q2, q3⟩ := h
  refine ⟨fun a ha hz => ?_, fun hz => ?_, fun hz a ha => ?_⟩
  · rw [h14 a ha] at hz ⊢
    exact pVo_gro g hm (q1 a ha hz)
  · rw [h13] at hz ⊢
    have := q2 hz
    rw [g.2.2.2.2 m hm (by omega)]
    exact this
  · rw [h13] at hz
    exact fun z => q3 hz a ha ((pMaj_congr (f := fun c => β 14 l (m * 5 + c)) (g := fun c => α 14 l (m * 5 + c)) (fun c hc => h14 c hc) ha).mp z)
theorem iD1_gro (g : gro R α β) {l : Nat} (h10 : β 10 l 0 = α 10 l 0) (h13 : β 13 l = α 13 l) (h : iD1 R α l) : iD1 R β l := by
  unfold iD1 at h ⊢
  rw [h10, h13]
  exact ⟨h.1, pDc_gro g h.2⟩
theorem iM_gro (g : gro R α β) (h3 : β 3 = α 3) (h4 : β 4 = α 4) (h160 : ∀ m, m < R → β 16 0 m = α 16 0 m) (h16 : ∀ b m, m < R → β 16 b m = 1 → α 4 m 0 = 1) (h : iM R α) : iM R β := by
  intro m hm
  obtain ⟨q1, q2, q3, q4⟩ := h m hm
  rw [h3, h4, h160 m hm]
  exact ⟨q1, q2, fun b hb => h16 b m hm hb, pDc_gro g q4⟩
end GRO
/-- two majorities have one in common -/
theorem quorum {A : Nat} {d e : Nat → Nat} (hA : A = 3 ∨ A = 5) (hd1 : ∀ a, d a ≤ 1) (he1 : ∀ a, e a ≤ 1) (hd : ∀ a, A ≤ a → a < 5 → d a = 0) (he : ∀ a, A ≤ a → a < 5 → e a = 0) (h1 : A < 2 * psum d 5) (h2 : A < 2 * psum e 5) : ∃ a, a < A ∧ d a ≠ 0 ∧ e a ≠ 0 := by
  by_cases q : ∃ a, a < A ∧ d a ≠ 0 ∧ e a ≠ 0
  · exact q
  · exfalso
    have hq : ∀ a, a < A → d a = 0 ∨ e a = 0 := fun a ha => by
      by_cases z : d a = 0
      · exact Or.inl z
      · by_cases w : e a = 0
        · exact Or.inr w
        · exact absurd ⟨a, ha, z, w⟩ q
    have d0 := hd1 0
    have d1 := hd1 1
    have d2 := hd1 2
    have d3 := hd1 3
    have d4 := hd1 4
    have e0 := he1 0
    have e1 := he1 1
    have e2 := he1 2
    have e3 := he1 3
    have e4 := he1 4
    simp only [psum] at h1 h2
    rcases hA with rfl | rfl
    · have := hd 3 (by decide) (by decide)
      have := hd 4 (by decide) (by decide)
      have := he 3 (by decide) (by decide)
      have := he 4 (by decide) (by decide)
      have := hq 0 (by decide)
      have := hq 1 (by decide)
      have := hq 2 (by decide)
      omega
    · have := hq 0 (by decide)
      have := hq 1 (by decide)
      have := hq 2 (by decide)
      have := hq 3 (by decide)
      have := hq 4 (by decide)
      omega
/-- of a majority there is one -/
theorem one_of {A : Nat} {d : Nat → Nat} (h1 : A < 2 * psum d 5) : ∃ a, a < 5 ∧ d a ≠ 0 := by
  by_cases q : ∃ a, a < 5 ∧ d a ≠ 0
  · exact q
  · exfalso
    have hq : ∀ a, a < 5 → d a = 0 := fun a ha => by
      by_cases z : d a = 0
      · exact z
      · exact absurd ⟨a, ha, z⟩ q
    have h0 := hq 0 (by decide)
    have h2 := hq 1 (by decide)
    have h3 := hq 2 (by decide)
    have h4 := hq 3 (by decide)
    have h5 := hq 4 (by decide)
    simp only [psum] at h1
    omega
/-- THE SAFETY: what is chosen at c is the word of every later ballot -/
theorem safe {R A T : Nat} {α : pS} (hA : A = 3 ∨ A = 5) (hN : iN A T α) (hB : iB R A α) {m : Nat} (hm : m < R) : ∀ (k b c : Nat), b < k → c < b → α 16 b m ≠ 0 → pCh A α c m → α 16 b m = α 16 c m := by
  intro k
  induction k with
  | zero => intro b c h; omega
  | succ k ih =>
    intro b c hbk hcb hz hch
    obtain ⟨-, d, f, V, h1, h2, h3, h4, h5, h6⟩ := hB b m hm (by omega) hz
    have h15 : ∀ a, (fun a => α 15 c (m * 5 + a)) a ≤ 1 := fun a => hN.1 15 _ _ (by decide) (by decide)
    obtain ⟨a, ha, q1, q2⟩ := quorum hA h1 h15 (fun a h _ => h2 a h) (fun a h h5 => hN.2 c m a h h5) h3 hch
    obtain ⟨⟨p1, p2, p3⟩, p4⟩ := h4 a q1
    have hfa : ¬ (f a = 0 ∨ f a / 4 < c) := fun z => q2 (p3 c hcb z)
    have hV : V ≠ 0 := by omega
    obtain ⟨a', r1, r2⟩ := h5 hV
    obtain ⟨⟨s1, s2, s3⟩, s4⟩ := h4 a' r1
    rw [r2] at s2
    obtain ⟨⟨t1, t2, t3⟩, t4⟩ := s2 hV
    have e1 : α 16 b m = α 16 (V / 4) m := by
      rw [h6, ← t2]
      exact pWrd_nz hV
    by_cases e : V / 4 = c
    · rw [e1, e]
    · rw [e1]
      exact ih (V / 4) c (by omega) (by omega) (by omega) hch
/-- what is chosen is one word -/
theorem one_word {R A T : Nat} {α : pS} (hA : A = 3 ∨ A = 5) (hN : iN A T α) (hB : iB R A α) (hI : iA R A α) {m b c : Nat} (hm : m < R) (hb : pCh A α b m) (hc : pCh A α c m) : α 16 b m = α 16 c m := by
  have nz : ∀ b, pCh A α b m → α 16 b m ≠ 0 := fun b hb => by
    obtain ⟨a, ha, q⟩ := one_of hb
    by_cases h : A ≤ a
    · exact absurd (hN.2 b m a h ha) q
    · exact ((hI a m (by omega) hm).1 b q).1
  rcases Nat.lt_trichotomy b c with h | h | h
  · exact (safe hA hN hB hm (c + 1) c b (by omega) h (nz c hc) hb).symm
  · rw [h]
  · exact safe hA hN hB hm (b + 1) b c (by omega) h (nz b hb) hc
