/-! THE SPECIFICATION in numbers: α component i j; messages as functions
 1: 0 sent, 1 came, 2 begun; 2 sort one: up; 3 m: how; 4 m: proposed; 5 a: promised; 6 a m: the vote accepted (4 * ballot + word, 0 none); 7 l ballot; 8 l phase; 9 l highest; 10 l decision; 11 l a: told; 12 l (a * 6 + m): what a told; 13 l m outcome; 14 l (m * 5 + a): the vote seen;
 15 b (m * 5 + a): ever accepted; 16 b m: THE word of ballot b (ghost); 17 (b * 5 + a) m: what a told for ballot b (ghost); 18 m: the word chosen first; 19 m: unlike words chosen; 20 l m: the greatest vote told -/
abbrev pS : Type := Nat → Nat → Nat → Nat
abbrev pMsg : Type := Nat → Nat
def pu (α : pS) (c i j v : Nat) : pS := fun x y z => if x = c ∧ y = i ∧ z = j then v else α x y z
theorem pu_at (α : pS) (c i j v : Nat) : pu α c i j v c i j = v := if_pos ⟨rfl, rfl, rfl⟩
theorem pu_c (α : pS) {c i j v x : Nat} (h : x ≠ c) : pu α c i j v x = α x := by
  funext y z
  unfold pu
  rw [if_neg (fun q => h q.1)]
theorem pu_i (α : pS) {c i j v x y : Nat} (h : y ≠ i) : pu α c i j v x y = α x y := by
  funext z
  unfold pu
  rw [if_neg (fun q => h q.2.1)]
theorem pu_j (α : pS) {c i j v x y z : Nat} (h : z ≠ j) : pu α c i j v x y z = α x y z := if_neg (fun q => h q.2.2)
def psum (f : Nat → Nat) : Nat → Nat
  | 0 => 0
  | n + 1 => psum f n + f n
def msk (f : Nat → Nat) : Nat := f 0 + 2 * f 1 + 4 * f 2 + 8 * f 3 + 16 * f 4
/-- which parts a kind of message has -/
def pPres (k j : Nat) : Bool := match k with
  | 0 => j != 2
  | 1 => true
  | 2 => j == 0 || j == 1 || j == 4
  | 3 => j != 3 && j != 5
  | 4 => j == 0 || j == 1 || j == 5
  | _ => decide (j < 3)
def pt (x : pMsg) (j : Nat) : Int32 := if pPres (x 0) j = true then nI (x j) else -1
def mVote (a m b w : Nat) : pMsg := fun j => match j with | 0 => 0 | 1 => a | 3 => m | 4 => b | 5 => w | _ => 0
def mVoted (l a m b w : Nat) : pMsg := fun j => match j with | 0 => 1 | 1 => l | 2 => a | 3 => m | 4 => b | 5 => w | _ => 0
def mAsk (a b : Nat) : pMsg := fun j => match j with | 0 => 2 | 1 => a | 4 => b | _ => 0
def mTold (l a b : Nat) (t : Nat → Nat) : pMsg := fun j => match j with | 0 => 3 | 1 => l | 2 => a | 3 => 0 | 4 => b | 5 => 0 | n + 6 => t n
def mDec (m d : Nat) : pMsg := fun j => match j with | 0 => 4 | 1 => m | 5 => d | _ => 0
def mQue (l m : Nat) : pMsg := fun j => match j with | 0 => 5 | 1 => l | 2 => m | _ => 0
def lVotes (A m b w : Nat) : List pMsg := (List.range A).map (fun a => mVote a m b w)
def lAsks (A b : Nat) : List pMsg := (List.range A).map (fun a => mAsk a b)
def lDecs (R d : Nat) : List pMsg := (List.range R).map (fun m => mDec m d)
def lVoted (a m b w : Nat) : List pMsg := (List.range 3).map (fun l => mVoted l a m b w)
def lQues (m : Nat) : List pMsg := (List.range 3).map (fun l => mQue l m)
def pSnd (α : pS) (k : Nat) : pS := pu α 1 0 0 (α 1 0 0 + k)
/-- the least own ballot of leader l above h -/
def lob (l h : Nat) : Nat := if h < l + 1 then l + 1 else l + 1 + 3 * ((h - (l + 1)) / 3 + 1)
/-- the state and its messages -/
abbrev pT : Type := pS × List pMsg
/-- prepare, refuse: the manager m says w -/
abbrev sSay (A m w : Nat) (s : pT) : Prop := s.1 2 0 m = 1 ∧ s.1 3 m 0 = 0 ∧ s.2.length + A ≤ 400
def tSay (A m w : Nat) (s : pT) : pT := (pSnd (pu (pu (pu s.1 3 m 0 w) 4 m 0 w) 16 0 m w) A, s.2 ++ lVotes A m 0 w)
abbrev sRes (A m : Nat) (s : pT) : Prop := s.1 2 0 m = 1 ∧ (s.1 3 m 0 = 1 ∨ s.1 3 m 0 = 2) ∧ s.2.length + A ≤ 400
def tRes (A m : Nat) (s : pT) : pT := (pSnd s.1 A, s.2 ++ lVotes A m 0 (s.1 4 m 0))
abbrev sQue (m : Nat) (s : pT) : Prop := s.1 2 0 m = 1 ∧ s.2.length + 3 ≤ 400
def tQue (m : Nat) (s : pT) : pT := (pSnd s.1 3, s.2 ++ lQues m)
def nBeg (R A l : Nat) (s : pT) : Nat := A + if s.1 10 l 0 = 0 then 0 else R
abbrev sBeg (R A l : Nat) (s : pT) : Prop := s.1 2 2 l = 1 ∧ s.2.length + nBeg R A l s ≤ 400
/-- a leader's asking is forgotten -/
def pClr (α : pS) (c l : Nat) : pS := fun x y z => if x = c ∧ y = l then 0 else α x y z
def tBeg (R A l : Nat) (s : pT) : pT :=
  let b := lob l (s.1 9 l 0)
  (pSnd (pu (pClr (pClr (pu (pu (pu s.1 7 l 0 b) 9 l 0 b) 8 l 0 1) 11 l) 20 l) 1 2 0 (s.1 1 2 0 + 1)) (nBeg R A l s), s.2 ++ (lAsks A b ++ if s.1 10 l 0 = 0 then [] else lDecs R (s.1 10 l 0)))
/-- what a message leads to -/
def pUpOf (α : pS) (x : pMsg) : Nat := if x 0 = 0 ∨ x 0 = 2 then α 2 1 (x 1) else if x 0 = 4 then α 2 0 (x 1) else α 2 2 (x 1)
abbrev pNew (α : pS) (l m a b : Nat) : Prop := α 14 l (m * 5 + a) = 0 ∨ α 14 l (m * 5 + a) / 4 < b
/-- of the other acceptors, those seen with ballot b -/
def pAlk (α : pS) (l m a b n : Nat) : Nat := psum (fun c => if c ≠ a ∧ α 14 l (m * 5 + c) ≠ 0 ∧ α 14 l (m * 5 + c) / 4 = b then 1 else 0) n
/-- the outcome of m as it is once a VOTED (a, m, b, w) has come to l -/
def pOut (A : Nat) (α : pS) (l m a b w : Nat) : Nat := if α 13 l m ≠ 0 ∨ ¬ pNew α l m a b then α 13 l m else if A < (1 + pAlk α l m a b A) * 2 then w else 0
/-- the decision then -/
def pDec (R A : Nat) (α : pS) (l m a b w : Nat) : Nat := if α 10 l 0 ≠ 0 then α 10 l 0 else if pOut A α l m a b w = 1 then (if ∀ c, c < R → c ≠ m → α 13 l c = 1 then 1 else 0) else if pOut A α l m a b w = 2 then 2 else 0
abbrev pKeep (α : pS) (l b a : Nat) : Prop := α 8 l 0 = 1 ∧ b = α 7 l 0 ∧ α 11 l a = 0
abbrev pEnough (A : Nat) (α : pS) (l : Nat) : Prop := A < (psum (α 11 l) 5 + 1) * 2
def pAns (R A : Nat) (α : pS) (x : pMsg) : Nat := match x 0 with
  | 0 => if α 5 (x 1) 0 ≤ x 4 then 3 else 0
  | 1 => if pDec R A α (x 1) (x 3) (x 2) (x 4) (x 5) = α 10 (x 1) 0 then 0 else R
  | 2 => if α 5 (x 1) 0 < x 4 then 1 else 0
  | 3 => if pKeep α (x 1) (x 4) (x 2) ∧ pEnough A α (x 1) then R * A else 0
  | 5 => if α 10 (x 1) 0 = 0 then 0 else 1
  | _ => 0
/-- an acceptor's vote is entered -/
def pEnter (A : Nat) (α : pS) (m b w a : Nat) : pS :=
  let β := pu α 15 b (m * 5 + a) 1
  if psum (fun c => β 15 b (m * 5 + c)) 5 * 2 ≤ A then β else if β 18 m 0 = 0 then pu β 18 m 0 w else if β 18 m 0 = w then β else pu β 19 m 0 1
def pMax (a b : Nat) : Nat := if a < b then b else a
/-- the greatest votes told grow -/
def pLat (α : pS) (l R : Nat) (t : Nat → Nat) : pS := fun x y z => if x = 20 ∧ y = l ∧ z < R then pMax (α 20 l z) (t z) else α x y z
/-- what a told is kept -/
def pTel (α : pS) (l a R : Nat) (t : Nat → Nat) : pS := fun x y z => if x = 12 ∧ y = l ∧ a * 6 ≤ z ∧ z < a * 6 + R then t (z - a * 6) else α x y z
/-- the word that a leader votes for -/
def pWrd (v : Nat) : Nat := if v = 0 then 2 else v % 4
/-- the words of a ballot are laid down -/
def pLay (α : pS) (b R : Nat) (f : Nat → Nat) : pS := fun x y z => if x = 16 ∧ y = b ∧ z < R then f z else α x y z
/-- what was told for a ballot is laid down -/
def pTol (α : pS) (b a R : Nat) (t : Nat → Nat) : pS := fun x y z => if x = 17 ∧ y = b * 5 + a ∧ z < R then t z else α x y z
/-- the votes of all managers -/
def lAll (R A b : Nat) (f : Nat → Nat) : List pMsg := (List.range R).flatMap (fun m => lVotes A m b (pWrd (f m)))
/-- a message comes to one who is up: the state then, and what is sent -/
def pTake (R A : Nat) (α : pS) (x : pMsg) : pT := match x 0 with
  | 0 => if α 5 (x 1) 0 ≤ x 4 then (pEnter A (pu (pu α 5 (x 1) 0 (x 4)) 6 (x 1) (x 3) (4 * x 4 + x 5)) (x 3) (x 4) (x 5) (x 1), lVoted (x 1) (x 3) (x 4) (x 5)) else (α, [])
  | 1 =>
    let d := pDec R A α (x 1) (x 3) (x 2) (x 4) (x 5)
    let o := pOut A α (x 1) (x 3) (x 2) (x 4) (x 5)
    let β := pu α 9 (x 1) 0 (pMax (α 9 (x 1) 0) (x 4))
    let γ := if pNew α (x 1) (x 3) (x 2) (x 4) then pu β 14 (x 1) (x 3 * 5 + x 2) (4 * x 4 + x 5) else β
    (pu (pu γ 13 (x 1) (x 3) o) 10 (x 1) 0 d, if d = α 10 (x 1) 0 then [] else lDecs R d)
  | 2 => if α 5 (x 1) 0 < x 4 then (pTol (pu α 5 (x 1) 0 (x 4)) (x 4) (x 1) R (α 6 (x 1)), [mTold ((x 4 - 1) % 3) (x 1) (x 4) (α 6 (x 1))]) else (α, [])
  | 3 =>
    let β := pu α 9 (x 1) 0 (pMax (α 9 (x 1) 0) (x 4))
    if pKeep α (x 1) (x 4) (x 2) then
      let γ := pLat (pTel (pu β 11 (x 1) (x 2) 1) (x 1) (x 2) R (fun m => x (6 + m))) (x 1) R (fun m => x (6 + m))
      if pEnough A α (x 1) then (pLay (pu γ 8 (x 1) 0 2) (x 4) R (fun m => pWrd (γ 20 (x 1) m)), lAll R A (x 4) (γ 20 (x 1))) else (γ, [])
    else (β, [])
  | 4 => (pu α 3 (x 1) 0 (x 5 + 2), [])
  | _ => (α, if α 10 (x 1) 0 = 0 then [] else [mDec (x 2) (α 10 (x 1) 0)])
/-- a message comes -/
def pAnsH (R A : Nat) (α : pS) (x : pMsg) : Nat := if pUpOf α x = 0 then 0 else pAns R A α x
abbrev sBrg (R A : Nat) (x : pMsg) (s : pT) : Prop := s.2.length + pAnsH R A s.1 x ≤ 401
def tBrg (R A i : Nat) (x : pMsg) (s : pT) : pT :=
  let t := if pUpOf s.1 x = 0 then (s.1, []) else pTake R A s.1 x
  (pu (pSnd t.1 t.2.length) 1 1 0 (t.1 1 1 0 + 1), s.2.eraseIdx i ++ t.2)
def tDrop (i : Nat) (s : pT) : pT := (s.1, s.2.eraseIdx i)
def tCopy (x : pMsg) (s : pT) : pT := (pSnd s.1 1, s.2 ++ [x])
/-- a leader goes down -/
def tFor (α : pS) (l : Nat) : pS := pClr (pClr (pClr (pClr (pu (pu α 8 l 0 0) 10 l 0 0) 11 l) 20 l) 13 l) 14 l
def tCrash (k i : Nat) (s : pT) : pT := ((if k = 2 then tFor (pu s.1 2 k i 0) i else pu s.1 2 k i 0), s.2)
def tRec (k i : Nat) (s : pT) : pT := (pu s.1 2 k i 1, s.2)
/-- the calm: at most n messages, the first one each time -/
def tCalm (R A : Nat) : Nat → pT → Nat × pT
  | 0, s => (0, s)
  | n + 1, s => match s.2 with
    | [] => (0, s)
    | x :: _ => if sBrg R A x s then ((tCalm R A n (tBrg R A 0 x s)).1 + 1, (tCalm R A n (tBrg R A 0 x s)).2) else (0, s)
/-- n messages more -/
def pAdd (s : pT) (n : Nat) (f : Nat → pMsg) : pT := (pSnd s.1 n, s.2 ++ (List.range n).map f)
theorem pSnd_0 (α : pS) : pSnd α 0 = α := by
  funext x y z
  unfold pSnd pu
  split
  · rename_i h
    rw [h.1, h.2.1, h.2.2]
    rfl
  · rfl
theorem pSnd_pSnd (α : pS) (i j : Nat) : pSnd (pSnd α i) j = pSnd α (i + j) := by
  funext x y z
  unfold pSnd pu
  split
  · simp; omega
  · rfl
theorem pAdd_0 (s : pT) (f : Nat → pMsg) : pAdd s 0 f = s := by
  unfold pAdd
  rw [pSnd_0]
  simp
theorem pAdd_s (s : pT) (n : Nat) (f : Nat → pMsg) : (pSnd (pAdd s n f).1 1, (pAdd s n f).2 ++ [f n]) = pAdd s (n + 1) f := by
  unfold pAdd
  simp only [pSnd_pSnd, List.range_succ, List.map_append, List.map_cons, List.map_nil, List.append_assoc]
theorem pAdd_len (s : pT) (n : Nat) (f : Nat → pMsg) : (pAdd s n f).2.length = s.2.length + n := by
  unfold pAdd
  simp
