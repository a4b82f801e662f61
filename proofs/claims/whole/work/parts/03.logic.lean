/-! THE LOGIC: what a method does, said over a store of ints (cells by numbers, places by numbers); the machine's heap holds the store -/
abbrev gAV : Type := Int32 ⊕ Nat
def gv (ad : Nat → Nat) (x : gAV) : Value := match x with
  | .inl i => .int i
  | .inr k => .ref (ad k)
theorem gv_cat (ad : Nat → Nat) (x : gAV) : (gv ad x).category = 1 := by cases x <;> rfl
theorem gv_sum (ad : Nat → Nat) : ∀ st : List gAV, ((st.map (gv ad)).map fun v => v.category).sum = st.length
  | [] => rfl
  | x :: st => by
    show (gv ad x).category + ((st.map (gv ad)).map fun v => v.category).sum = st.length + 1
    rw [gv_cat, gv_sum ad st, Nat.add_comm]
abbrev gSt : Type := Nat → Nat → Int32
def gup (σ : gSt) (k j : Nat) (v : Int32) : gSt := fun a b => if a = k ∧ b = j then v else σ a b
theorem gup_ne (σ : gSt) {k j a : Nat} (v : Int32) (h : a ≠ k) : gup σ k j v a = σ a := by
  funext b
  unfold gup
  rw [if_neg (fun q => h q.1)]
theorem gup_self (σ : gSt) (k j : Nat) (v : Int32) : gup σ k j v k = upd (σ k) j v := by
  funext b
  unfold gup upd
  by_cases h : b = j
  · rw [if_pos ⟨rfl, h⟩, if_pos h]
  · rw [if_neg (fun q => h q.2), if_neg h]
def gur (σ : gSt) (k : Nat) (f : Nat → Int32) : gSt := fun a => if a = k then f else σ a
theorem gur_ne (σ : gSt) {k a : Nat} (f : Nat → Int32) (h : a ≠ k) : gur σ k f a = σ a := if_neg h
theorem gur_self (σ : gSt) (k : Nat) (f : Nat → Int32) : gur σ k f k = f := if_pos rfl
/-- what a cell is: an array (its type's number, its length, and where its places are references the cells that they name), or an object (its class's number; of each field none: an int, or the cell that it names) -/
abbrev gSh : Type := (Nat × Nat × Option (Nat → Nat)) ⊕ (Nat × List (Option Nat))
def gfl (ad : Nat → Nat) (f : Nat → Int32) : Nat → List (Option Nat) → List Value
  | _, [] => []
  | j, none :: r => .int (f j) :: gfl ad f (j + 1) r
  | j, some t :: r => .ref (ad t) :: gfl ad f (j + 1) r
theorem gfl_len (ad : Nat → Nat) (f : Nat → Int32) : ∀ (fs : List (Option Nat)) (i : Nat), (gfl ad f i fs).length = fs.length
  | [], _ => rfl
  | none :: r, i => congrArg (· + 1) (gfl_len ad f r (i + 1))
  | some _ :: r, i => congrArg (· + 1) (gfl_len ad f r (i + 1))
theorem gfl_int (ad : Nat → Nat) (f : Nat → Int32) : ∀ (fs : List (Option Nat)) (i k : Nat), fs[k]? = some none → (gfl ad f i fs)[k]? = some (.int (f (i + k)))
  | [], _, k, h => by simp at h
  | none :: r, i, 0, _ => rfl
  | some t :: r, i, 0, h => by simp at h
  | none :: r, i, k + 1, h => by
    rw [List.getElem?_cons_succ] at h
    show (gfl ad f (i + 1) r)[k]? = _
    rw [gfl_int ad f r (i + 1) k h, show i + 1 + k = i + (k + 1) by omega]
  | some t :: r, i, k + 1, h => by
    rw [List.getElem?_cons_succ] at h
    show (gfl ad f (i + 1) r)[k]? = _
    rw [gfl_int ad f r (i + 1) k h, show i + 1 + k = i + (k + 1) by omega]
theorem gfl_ref (ad : Nat → Nat) (f : Nat → Int32) : ∀ (fs : List (Option Nat)) (i k t : Nat), fs[k]? = some (some t) → (gfl ad f i fs)[k]? = some (.ref (ad t))
  | [], _, k, t, h => by simp at h
  | none :: r, i, 0, t, h => by simp at h
  | some u :: r, i, 0, t, h => by
    rw [List.getElem?_cons_zero] at h
    cases h
    rfl
  | none :: r, i, k + 1, t, h => by
    rw [List.getElem?_cons_succ] at h
    exact gfl_ref ad f r (i + 1) k t h
  | some u :: r, i, k + 1, t, h => by
    rw [List.getElem?_cons_succ] at h
    exact gfl_ref ad f r (i + 1) k t h
theorem gfl_upd0 (ad : Nat → Nat) (f : Nat → Int32) (j : Nat) (v : Int32) : ∀ (fs : List (Option Nat)) (i : Nat), j < i → gfl ad (upd f j v) i fs = gfl ad f i fs
  | [], _, _ => rfl
  | none :: r, i, h => by
    show Value.int (upd f j v i) :: gfl ad (upd f j v) (i + 1) r = .int (f i) :: gfl ad f (i + 1) r
    rw [gfl_upd0 ad f j v r (i + 1) (by omega)]
    congr 2
    unfold upd
    rw [if_neg (by omega)]
  | some t :: r, i, h => by
    show Value.ref (ad t) :: gfl ad (upd f j v) (i + 1) r = .ref (ad t) :: gfl ad f (i + 1) r
    rw [gfl_upd0 ad f j v r (i + 1) (by omega)]
theorem gfl_upd (ad : Nat → Nat) (f : Nat → Int32) (v : Int32) : ∀ (fs : List (Option Nat)) (i k : Nat), fs[k]? = some none → gfl ad (upd f (i + k) v) i fs = (gfl ad f i fs).set k (.int v)
  | [], _, k, h => by simp at h
  | none :: r, i, 0, _ => by
    show Value.int (upd f (i + 0) v i) :: gfl ad (upd f (i + 0) v) (i + 1) r = .int v :: gfl ad f (i + 1) r
    rw [gfl_upd0 ad f (i + 0) v r (i + 1) (by omega)]
    congr 2
    unfold upd
    rw [if_pos (by omega)]
  | some t :: r, i, 0, h => by simp at h
  | none :: r, i, k + 1, h => by
    rw [List.getElem?_cons_succ] at h
    show Value.int (upd f (i + (k + 1)) v i) :: gfl ad (upd f (i + (k + 1)) v) (i + 1) r = .int (f i) :: (gfl ad f (i + 1) r).set k (.int v)
    rw [show i + (k + 1) = i + 1 + k by omega, gfl_upd ad f v r (i + 1) k h]
    congr 2
    unfold upd
    rw [if_neg (by omega)]
  | some t :: r, i, k + 1, h => by
    rw [List.getElem?_cons_succ] at h
    show Value.ref (ad t) :: gfl ad (upd f (i + (k + 1)) v) (i + 1) r = .ref (ad t) :: (gfl ad f (i + 1) r).set k (.int v)
    rw [show i + (k + 1) = i + 1 + k by omega, gfl_upd ad f v r (i + 1) k h]
def gce (cy : Nat → ClassId) (ad : Nat → Nat) (f : Nat → Int32) (x : gSh) : va_E := match x with
  | .inl (ty, n, none) => .inl (cy ty, n, .inl f)
  | .inl (ty, n, some g) => .inl (cy ty, n, .inr (.inr (.inr (.inr (fun j => some (ad (g j)))))))
  | .inr (ci, fs) => .inr (ci, gfl ad f 0 fs)
/-- the array types by their numbers -/
def gty : Nat → FieldType
  | 0 => .int
  | 1 => .boolean
  | 2 => .object RX0
  | 3 => .object RX1
  | 4 => .object RX4
  | _ => .array .boolean
def gtys (cy : Nat → ClassId) : List (ClassId × FieldType) := [(cy 0, gty 0), (cy 1, gty 1), (cy 2, gty 2), (cy 3, gty 3), (cy 4, gty 4), (cy 5, gty 5)]
/-- which cells there are, and what each is -/
abbrev gG : Type := List Nat × (Nat → gSh)
def gP (G : gG) (D : va_G) (cy : Nat → ClassId) (ad : Nat → Nat) (σ : gSt) (H : Heap) : Prop := ∀ k, k ∈ G.1 → va_at D vwCl (ad k, gce cy ad (σ k) (G.2 k)) H
/-- the cells are apart -/
def gNd (G : gG) : Prop := ∀ (i j a : Nat), G.1[i]? = some a → G.1[j]? = some a → i = j
def gInj (G : gG) (ad : Nat → Nat) : Prop := gNd G ∧ ∀ i j, i ∈ G.1 → j ∈ G.1 → ad i = ad j → i = j
def gA (G : gG) (ad : Nat → Nat) (sz : Nat) : Nat → Prop := fun q => (∃ k, k ∈ G.1 ∧ ad k = q) ∨ sz ≤ q
theorem gA_in {G : gG} {ad : Nat → Nat} {sz k : Nat} (h : k ∈ G.1) : gA G ad sz (ad k) := Or.inl ⟨k, h, rfl⟩
theorem gA_new {G : gG} {ad : Nat → Nat} {sz q : Nat} (h : sz ≤ q) : gA G ad sz q := Or.inr h
theorem gA_le {G : gG} {ad : Nat → Nat} {sz sz2 : Nat} (h : sz ≤ sz2) : ∀ q, gA G ad sz2 q → gA G ad sz q := fun q hq => hq.elim Or.inl (fun z => Or.inr (Nat.le_trans h z))
/-- the world as the kit has worlds -/
def gws (G : gG) (cy : Nat → ClassId) (ad : Nat → Nat) (σ : gSt) : va_W := G.1.map (fun k => (ad k, gce cy ad (σ k) (G.2 k)))
theorem gws_P {G : gG} {D : va_G} {cy : Nat → ClassId} {ad : Nat → Nat} {σ : gSt} {H : Heap} (h : gP G D cy ad σ H) : va_P D vwCl (gws G cy ad σ) H := by
  intro i q hq
  obtain ⟨k, hk, rfl⟩ := List.mem_map.mp (List.mem_of_getElem? hq)
  exact h k hk
theorem gP_ws {G : gG} {D : va_G} {cy : Nat → ClassId} {ad : Nat → Nat} {σ : gSt} {H : Heap} (h : va_P D vwCl (gws G cy ad σ) H) : gP G D cy ad σ H := by
  intro k hk
  obtain ⟨i, hi⟩ := List.getElem?_of_mem (List.mem_map.mpr ⟨k, hk, rfl⟩ : (ad k, gce cy ad (σ k) (G.2 k)) ∈ gws G cy ad σ)
  exact h i _ hi
theorem gws_D {G : gG} {cy : Nat → ClassId} {ad : Nat → Nat} {σ : gSt} {sz : Nat} (h : gInj G ad) : va_D (gA G ad sz) (gws G cy ad σ) := by
  refine ⟨fun i j p q hi hj e => ?_, fun i q hq => ?_⟩
  · unfold gws at hi hj
    rw [List.getElem?_map] at hi hj
    cases ha : G.1[i]? with
    | none => rw [ha] at hi; cases hi
    | some a =>
      cases hb : G.1[j]? with
      | none => rw [hb] at hj; cases hj
      | some b =>
        rw [ha] at hi
        rw [hb] at hj
        cases hi
        cases hj
        have hab := h.2 a b (List.mem_of_getElem? ha) (List.mem_of_getElem? hb) e
        subst hab
        exact h.1 i j a ha hb
  · obtain ⟨k, hk, rfl⟩ := List.mem_map.mp (List.mem_of_getElem? hq)
    exact gA_in hk
theorem gws_at {G : gG} {cy : Nat → ClassId} {ad : Nat → Nat} {σ : gSt} {k : Nat} (hk : k ∈ G.1) {x : gSh} (hx : G.2 k = x) : ∃ i : Nat, G.1[i]? = some k ∧ (gws G cy ad σ)[i]? = some (ad k, gce cy ad (σ k) x) := by
  obtain ⟨i, hi⟩ := List.getElem?_of_mem hk
  refine ⟨i, hi, ?_⟩
  unfold gws
  rw [List.getElem?_map, hi, ← hx]
  rfl
theorem gws_set {G : gG} {cy : Nat → ClassId} {ad : Nat → Nat} {σ σ' : gSt} {i k : Nat} (hn : gNd G) (hi : G.1[i]? = some k) {e : va_E} (he : gce cy ad (σ' k) (G.2 k) = e) (hs : ∀ a, a ≠ k → σ' a = σ a) : (gws G cy ad σ).set i (ad k, e) = gws G cy ad σ' := by
  apply List.ext_getElem?
  intro j
  unfold gws
  by_cases hj : j = i
  · subst hj
    have hl : j < (G.1.map (fun k => (ad k, gce cy ad (σ k) (G.2 k)))).length := by rw [List.length_map]; exact (List.getElem?_eq_some_iff.mp hi).1
    rw [List.getElem?_set_self hl, List.getElem?_map, hi, ← he]
    rfl
  · rw [List.getElem?_set_ne (fun q => hj q.symm), List.getElem?_map, List.getElem?_map]
    cases ha : G.1[j]? with
    | none => rfl
    | some a =>
      have hak : a ≠ k := by
        intro q
        subst q
        exact hj (hn j i _ ha hi)
      show some (ad a, gce cy ad (σ a) (G.2 a)) = some (ad a, gce cy ad (σ' a) (G.2 a))
      rw [hs a hak]
theorem gP_kept {G : gG} {D : va_G} {cy : Nat → ClassId} {ad : Nat → Nat} {σ : gSt} {H H1 : Heap} (h : gP G D cy ad σ H) (hq : ∀ k, k ∈ G.1 → H1[ad k]? = H[ad k]?) : gP G D cy ad σ H1 := fun k hk => (h k hk).kept (hq k hk)
/-- the locals: of each none (not known), or what it holds -/
def gpl (ad : Nat → Nat) : Nat → List (Option gAV) → List (Nat × Value)
  | _, [] => []
  | i, none :: r => gpl ad (i + 1) r
  | i, some v :: r => (i, gv ad v) :: gpl ad (i + 1) r
theorem gpl_mem (ad : Nat → Nat) : ∀ (lv : List (Option gAV)) (i : Nat) (q : Nat × Value), q ∈ gpl ad i lv → ∃ (j : Nat) (v : gAV), lv[j]? = some (some v) ∧ q = (i + j, gv ad v)
  | [], _, q, h => by cases h
  | none :: r, i, q, h => by
    obtain ⟨j, v, h1, h2⟩ := gpl_mem ad r (i + 1) q h
    exact ⟨j + 1, v, by rw [List.getElem?_cons_succ]; exact h1, by rw [h2, show i + 1 + j = i + (j + 1) by omega]⟩
  | some w :: r, i, q, h => by
    rcases List.mem_cons.mp h with h | h
    · exact ⟨0, w, rfl, h⟩
    · obtain ⟨j, v, h1, h2⟩ := gpl_mem ad r (i + 1) q h
      exact ⟨j + 1, v, by rw [List.getElem?_cons_succ]; exact h1, by rw [h2, show i + 1 + j = i + (j + 1) by omega]⟩
theorem gpl_in (ad : Nat → Nat) : ∀ (lv : List (Option gAV)) (i j : Nat) (v : gAV), lv[j]? = some (some v) → (i + j, gv ad v) ∈ gpl ad i lv
  | [], _, j, v, h => by simp at h
  | none :: r, i, 0, v, h => by simp at h
  | some w :: r, i, 0, v, h => by
    rw [List.getElem?_cons_zero] at h
    cases h
    exact List.mem_cons_self
  | none :: r, i, j + 1, v, h => by
    rw [List.getElem?_cons_succ] at h
    have h1 := gpl_in ad r (i + 1) j v h
    rw [show i + 1 + j = i + (j + 1) by omega] at h1
    exact h1
  | some w :: r, i, j + 1, v, h => by
    rw [List.getElem?_cons_succ] at h
    have h1 := gpl_in ad r (i + 1) j v h
    rw [show i + 1 + j = i + (j + 1) by omega] at h1
    exact List.mem_cons_of_mem _ h1
def gLs (ad : Nat → Nat) (nL : Nat) (lv : List (Option gAV)) (ls : Array Slot) : Prop := lv_has ls nL (gpl ad 0 lv)
theorem gLs_at {ad : Nat → Nat} {nL : Nat} {lv : List (Option gAV)} {ls : Array Slot} (h : gLs ad nL lv ls) {i : Nat} {v : gAV} (hi : lv[i]? = some (some v)) : ls[i]? = some (.val (gv ad v)) := by
  have h1 := h.2.2 _ (gpl_in ad lv 0 i v hi)
  simpa using h1
theorem gLs_set {ad : Nat → Nat} {nL : Nat} {lv : List (Option gAV)} {ls : Array Slot} {i : Nat} {v : gAV} (h : lv_has ls nL ((i, gv ad v) :: (gpl ad 0 lv).filter (fun q => !(q.1 == i) && !(q.1 + 1 == i && q.2.category == 2)))) : gLs ad nL (lv.set i (some v)) ls := by
  refine ⟨h.1, h.2.1, fun q hq => ?_⟩
  obtain ⟨j, w, h1, h2⟩ := gpl_mem ad _ 0 q hq
  rw [Nat.zero_add] at h2
  subst h2
  by_cases e : j = i
  · subst e
    have hl : j < lv.length := by
      have := (List.getElem?_eq_some_iff.mp h1).1
      rwa [List.length_set] at this
    rw [List.getElem?_set_self hl] at h1
    cases h1
    exact h.2.2 _ List.mem_cons_self
  · rw [List.getElem?_set_ne (fun q => e q.symm)] at h1
    refine h.2.2 _ (List.mem_cons_of_mem _ (List.mem_filter.mpr ⟨?_, ?_⟩))
    · have h3 := gpl_in ad lv 0 j w h1
      rwa [Nat.zero_add] at h3
    · show (!(j == i) && !(j + 1 == i && (gv ad w).category == 2)) = true
      rw [gv_cat]
      simp [e]
theorem gLs_sub {ad : Nat → Nat} {nL : Nat} {lv lv' : List (Option gAV)} {ls : Array Slot} (h : gLs ad nL lv ls) (hs : ∀ (i : Nat) (v : gAV), lv'[i]? = some (some v) → lv[i]? = some (some v)) : gLs ad nL lv' ls := by
  refine ⟨h.1, h.2.1, fun q hq => ?_⟩
  obtain ⟨j, w, h1, h2⟩ := gpl_mem ad _ 0 q hq
  have h3 := gpl_in ad lv 0 j w (hs j w h1)
  rw [← h2] at h3
  exact h.2.2 _ h3
abbrev gOut : Type := Option gAV ⊕ Nat
/-- the exceptions by their numbers -/
def gE : Nat → String
  | 0 => "java/lang/IndexOutOfBoundsException"
  | _ => "java/lang/IllegalArgumentException"
/-- a method: its name, bytes, number of locals, words, frames and stack words that it needs -/
abbrev gM : Type := MethodName × ByteArray × Nat × List Cond × Nat × Nat × Option FieldType
abbrev gM.y (M : gM) : MethodName := M.1
abbrev gM.cc (M : gM) : ByteArray := M.2.1
abbrev gM.nL (M : gM) : Nat := M.2.2.1
abbrev gM.ws (M : gM) : List Cond := M.2.2.2.1
abbrev gM.fr (M : gM) : Nat := M.2.2.2.2.1
abbrev gM.lo (M : gM) : Nat := M.2.2.2.2.2.1
abbrev gM.ret (M : gM) : Option FieldType := M.2.2.2.2.2.2
/-- what the tables give beside the methods' own words -/
def gNest : List Cond := [.methodLinkNest RX0 17 yX6_voteOf RX6, .methodLinkNest RX1 60 yX6_ballotOf RX6, .methodLinkNest RX1 66 yX6_wordOf RX6, .methodLinkNest RX0 1 yX5_init RX6, .methodLinkNest RX1 3 yX5_init RX6, .methodLinkNest RX4 1 yX5_init RX6, .methodLinkNest RX6 15 yX4_init RX6]
def gCast : List Cond := [.castable (gE 0) (gE 0), .castable (gE 1) (gE 1), .declares (Bundle.initS "java/lang/RuntimeException"), .declares (Bundle.initS "java/lang/Exception"), .declares (Bundle.initS Bundle.tN)]
def gEnv (A : Nat → Prop) (U : State) (H : Heap) : Prop :=
  (∀ w ∈ gNest, va_Nw w U) ∧ (∀ w ∈ gCast, va_Nw w U) ∧ (∃ a, vk_R RX6 113 "n is not 0 .. 400" a U) ∧ (∃ a, vk_R RX6 192 "there is no such one" a U) ∧ (∃ a, vk_R RX6 200 "there is no such sort" a U) ∧
  vx_Zq Bundle.tN "UNASSIGNED_STACK" Bundle.steD A U H ∧ vx_Zq Bundle.tN "SUPPRESSED_SENTINEL" Bundle.listD A U H
theorem gNest_warm {s U : State} (hW : s.WarmedH U.vm) (h : ∀ w ∈ gNest, va_Nw w s) : ∀ w ∈ gNest, va_Nw w U := by
  intro w hw
  have h0 := h w hw
  unfold gNest at hw
  simp only [List.mem_cons, List.not_mem_nil, or_false] at hw
  rcases hw with rfl | rfl | rfl | rfl | rfl | rfl | rfl <;> exact va_Nw.warmM hW h0
theorem gCast_warm {s U : State} (hW : s.WarmedH U.vm) (h : ∀ w ∈ gCast, va_Nw w s) : ∀ w ∈ gCast, va_Nw w U := by
  intro w hw
  have h0 := h w hw
  unfold gCast at hw
  simp only [List.mem_cons, List.not_mem_nil, or_false] at hw
  rcases hw with rfl | rfl | rfl | rfl | rfl <;> first | exact va_Nw.warmC hW h0 | exact va_Nw.warmD hW h0
/-- seen from a callee: warmer tables, the same heap, fewer cells that may change -/
theorem gEnv.warm {A B : Nat → Prop} {s U : State} {H : Heap} (h : gEnv A s H) (hW : s.WarmedH U.vm) (hAB : ∀ q, B q → A q) : gEnv B U H := by
  obtain ⟨h1, h2, ⟨a3, h3⟩, ⟨a4, h4⟩, ⟨a5, h5⟩, h6, h7⟩ := h
  exact ⟨gNest_warm hW h1, gCast_warm hW h2, ⟨a3, h3.warm hW⟩, ⟨a4, h4.warm hW⟩, ⟨a5, h5.warm hW⟩, (h6.moved hW.alike).narrow hAB, (h7.moved hW.alike).narrow hAB⟩
theorem gEnv.kept {A : Nat → Prop} {s : State} {H H1 : Heap} (h : gEnv A s H) (hq : ∀ a : Nat, a < H.size → ¬ A a → H1[a]? = H[a]?) : gEnv A s H1 := by
  obtain ⟨h1, h2, h3, h4, h5, h6, h7⟩ := h
  exact ⟨h1, h2, h3, h4, h5, h6.kept hq, h7.kept hq⟩
theorem gEnv.step {A : Nat → Prop} {s : State} {H H1 : Heap} {locs locs1 : List Loc} (h : gEnv A s H) (hA : ∀ q, s.heap.size ≤ q → A q) (h0 : va_S A s.heap H locs) (h1 : va_S A s.heap H1 locs1) : gEnv A s H1 := by
  refine h.kept (fun a _ hn => ?_)
  have hlt : a < s.heap.size := Nat.lt_of_not_le (fun z => hn (hA a z))
  rw [h1.2.1 a hlt hn, h0.2.1 a hlt hn]
theorem gEnv.calling {A : Nat → Prop} {U : State} {H : Heap} {g : JFrame} {mk : MethodId} {a : Array Value} (h : gEnv A U H) : gEnv A (U.calling g mk a) H := by
  obtain ⟨h1, h2, ⟨a3, h3⟩, ⟨a4, h4⟩, ⟨a5, h5⟩, h6, h7⟩ := h
  have hv : (U.calling g mk a).vm = U.vm := rfl
  refine ⟨fun w hw => ?_, fun w hw => ?_, ⟨a3, h3.same hv⟩, ⟨a4, h4.same hv⟩, ⟨a5, h5.same hv⟩, h6.moved (Vm.Alike.refl U.vm), h7.moved (Vm.Alike.refl U.vm)⟩
  · have h0 := h1 w hw
    unfold gNest at hw
    simp only [List.mem_cons, List.not_mem_nil, or_false] at hw
    rcases hw with rfl | rfl | rfl | rfl | rfl | rfl | rfl <;> exact va_Nw.same rfl hv.symm h0
  · have h0 := h2 w hw
    unfold gCast at hw
    simp only [List.mem_cons, List.not_mem_nil, or_false] at hw
    rcases hw with rfl | rfl | rfl | rfl | rfl <;> exact va_Nw.same rfl hv.symm h0
/-- a method's start -/
def gPc (G : gG) (D : va_G) (cy : Nat → ClassId) (ad : Nat → Nat) (sz : Nat) (as : List gAV) (σ : gSt) : Array Value → State → Prop :=
  va_Pc (as.map (gv ad)) (fun U => U.heap.size = sz ∧ gP G D cy ad σ U.heap ∧ va_K D vwCl (gtys cy) U ∧ gEnv (gA G ad sz) U U.heap)
/-- a method's ends -/
def gQc (G : gG) (D : va_G) (cy : Nat → ClassId) (ad : Nat → Nat) (A : Nat → Prop) (Q : gOut → gSt → Prop) : Array Value → State → Outcome → State → Prop := fun _ st oc t =>
  (∃ (v : Option gAV) (σ : gSt), oc = .returned (v.map (gv ad)) ∧ Q (.inl v) σ ∧ gP G D cy ad σ t.heap) ∧ va_F A st t
def gXC (G : gG) (D : va_G) (cy : Nat → ClassId) (ad : Nat → Nat) (A : Nat → Prop) (Q : gOut → gSt → Prop) : String → State → State → Prop := fun E st t =>
  (∃ (k : Nat) (σ : gSt), E = gE k ∧ Q (.inr k) σ ∧ gP G D cy ad σ t.heap) ∧ va_F A st t
/-- THE CONTRACT: the method M, called with as in the store σ, with room for b exceptions, ends as Q says -/
def gEM (G : gG) (M : gM) (b : Nat) (as : List gAV) (σ : gSt) (Q : gOut → gSt → Prop) : Prop :=
  ∀ (l : Launch) (D : va_G) (cy : Nat → ClassId) (ad : Nat → Nat) (sz : Nat), l.stackTraces = false → gInj G ad →
    vx_Met l M.y M.ws { frames := M.fr, cells := b, slots := 6 * b, locals := M.lo } (gPc G D cy ad sz as σ) (gQc G D cy ad (gA G ad sz) Q) (gXC G D cy ad (gA G ad sz) Q) b (6 * b) (gA G ad sz)
/-- what holds all along a walk of M's body -/
def gCx (G : gG) (M : gM) (b : Nat) (p : Program) (l : Launch) (R : Room) (s : State) (m : MethodId) (args : Array Value) (meth : Method) (c : Code) (D : va_G) (cy : Nat → ClassId) (ad : Nat → Nat) (cells slots mc ms : Nat) : Prop :=
  (p.tables.exec = Jvm.exec ∧ c.code = M.cc ∧ c.maxLocals = M.nL ∧ s.vm.findClass M.y.cls = some m.cls ∧ (∀ w ∈ M.ws, w.before args s = true)) ∧ l.stackTraces = false ∧ gInj G ad ∧
  (M.fr ≤ R.frames ∧ M.lo ≤ R.locals ∧ mc ≤ R.cells ∧ ms ≤ R.slots) ∧ (∀ x ∈ c.exceptionTable.toList, False) ∧ meth.locks = false ∧ va_K D vwCl (gtys cy) s ∧ (cells + b ≤ mc ∧ slots + 6 * b ≤ ms) ∧ meth.sig.returnType = M.ret
/-- what the heap holds there -/
def gHx (G : gG) (s : State) (D : va_G) (cy : Nat → ClassId) (ad : Nat → Nat) (σ : gSt) (H : Heap) (locs : List Loc) : Prop :=
  gP G D cy ad σ H ∧ va_S (gA G ad s.heap.size) s.heap H locs ∧ gEnv (gA G ad s.heap.size) s H
/-- FROM HERE: M's body at pc, with the locals lv and the operands st, in the store σ, comes to an end that Q allows -/
def gEx (G : gG) (M : gM) (b : Nat) (pc : Nat) (lv : List (Option gAV)) (st : List gAV) (σ : gSt) (Q : gOut → gSt → Prop) : Prop :=
  ∀ (p : Program) (l : Launch) (e : Env) (R : Room) (s : State) (m : MethodId) (args : Array Value) (below : List Frame) (meth : Method) (c : Code) (D : va_G) (cy : Nat → ClassId) (ad : Nat → Nat) (H : Heap) (locs : List Loc) (cells slots mc ms : Nat) (ls : Array Slot),
    gCx G M b p l R s m args meth c D cy ad cells slots mc ms → gHx G s D cy ad σ H locs → gLs ad M.nL lv ls →
    W p l e R s m args below meth c H locs cells slots (vx_MQ below (gQc G D cy ad (gA G ad s.heap.size) Q) (gXC G D cy ad (gA G ad s.heap.size) Q) args s mc ms (gA G ad s.heap.size)) (F0 m pc ls (st.map (gv ad)))
theorem gEx.eq {G : gG} {M : gM} {b pc : Nat} {lv lv' : List (Option gAV)} {st st' : List gAV} {σ σ' : gSt} {Q : gOut → gSt → Prop} (h1 : lv = lv') (h2 : st = st') (h3 : σ = σ') (k : gEx G M b pc lv' st' σ' Q) : gEx G M b pc lv st σ Q := by
  subst h1; subst h2; subst h3; exact k
/-- the locals with which a method begins -/
def gL0 (as : List gAV) (nL : Nat) : List (Option gAV) := as.map some ++ List.replicate (nL - as.length) none
theorem gsl (ad : Nat → Nat) : ∀ as : List gAV, lg_sl (as.map (gv ad)) = as.map (fun a => Slot.val (gv ad a))
  | [] => rfl
  | a :: as => by
    have h := gsl ad as
    unfold lg_sl at h ⊢
    rw [List.map_cons, List.flatMap_cons, h, gv_cat]
    rfl
theorem gar (ad : Nat → Nat) : ∀ (as : List gAV) (i j : Nat) (v : gAV), as[j]? = some v → (i + j, gv ad v) ∈ lv_args i (as.map (gv ad))
  | [], _, j, v, h => by simp at h
  | a :: as, i, 0, v, h => by
    rw [List.getElem?_cons_zero] at h
    cases h
    exact List.mem_cons_self
  | a :: as, i, j + 1, v, h => by
    rw [List.getElem?_cons_succ] at h
    have h1 := gar ad as (i + 1) j v h
    rw [show i + 1 + j = i + (j + 1) by omega] at h1
    show _ ∈ (i, gv ad a) :: lv_args (if (gv ad a).category = 2 then i + 2 else i + 1) (as.map (gv ad))
    rw [gv_cat]
    exact List.mem_cons_of_mem _ h1
theorem gLs_0 {ad : Nat → Nat} {as : List gAV} {nL : Nat} (h : as.length ≤ nL) : gLs ad nL (gL0 as nL) ((lg_sl (as.map (gv ad)) ++ List.replicate (nL - (lg_sl (as.map (gv ad))).length) Slot.unset).toArray) := by
  have hlen : (lg_sl (as.map (gv ad))).length = as.length := by rw [gsl, List.length_map]
  have h1 := lv_entry (as.map (gv ad)) (n := nL) (by rw [hlen]; exact h)
  refine ⟨h1.1, h1.2.1, fun q hq => ?_⟩
  obtain ⟨j, v, h2, h3⟩ := gpl_mem ad _ 0 q hq
  unfold gL0 at h2
  have h4 : as[j]? = some v := by
    by_cases hj : j < (as.map some).length
    · rw [List.getElem?_append_left hj, List.getElem?_map] at h2
      cases ha : as[j]? with
      | none => rw [ha] at h2; cases h2
      | some w => rw [ha] at h2; cases h2; rfl
    · rw [List.getElem?_append_right (by omega)] at h2
      have h5 := List.mem_of_getElem? h2
      have := (List.mem_replicate.mp h5).2
      cases this
  rw [h3]
  exact h1.2.2 _ (gar ad as 0 j v h4)
theorem gEM_of {G : gG} {M : gM} {b : Nat} {as : List gAV} {σ : gSt} {Q : gOut → gSt → Prop} {ws' : List Cond} (hy : plainName M.y.cls = true) (hw : M.ws = Cond.code M.y M.cc M.nL M.ret :: ws') (hn : as.length ≤ M.nL)
    (k : gEx G M b 0 (gL0 as M.nL) [] σ Q) : gEM G M b as σ Q := by
  intro l D cy ad sz hl hi
  refine vx_ofW (cc := M.cc) (maxL := M.nL) (ret := M.ret) hy hw ?_
  intro p e s m args below meth c s₁ B hml ht hv
  obtain ⟨hargs, hsz, hP, hK, hE⟩ := hv
  subst hsz
  subst hargs
  rw [lg_entry_eq]
  exact k p l e _ s m _ below meth c D cy ad s.heap [] 0 0 b (6 * b) _ ⟨⟨B.exec, B.bytes, hml, findClass_of_methodNamed B.named, atoms_spec (ws := M.ws) B.pre⟩, hl, hi, ⟨Nat.le_refl _, Nat.le_refl _, Nat.le_refl _, Nat.le_refl _⟩, ht, B.notSynchronized, hK, by omega, B.returns⟩ ⟨hP, va_S.rf, hE⟩ (gLs_0 hn)
theorem gEM_mono {G : gG} {M : gM} {b : Nat} {as : List gAV} {σ : gSt} {Q Q' : gOut → gSt → Prop} (h : gEM G M b as σ Q) (hq : ∀ o σ', Q o σ' → Q' o σ') : gEM G M b as σ Q' := by
  intro l D cy ad sz hl hi p e ha hc hk s m args below hf happ hP hK
  obtain ⟨n, o, h1, h2, h3, h4⟩ := h l D cy ad sz hl hi p e ha hc hk s m args below hf happ hP hK
  refine ⟨n, o, h1, h2, h3, ?_⟩
  rcases h4 with ⟨⟨⟨v, σ1, e1, e2, e3⟩, e4⟩, e5⟩ | ⟨q, e1, E, ce, L, ⟨⟨k, σ1, f1, f2, f3⟩, f4⟩, f5⟩
  · exact Or.inl ⟨⟨⟨v, σ1, e1, hq _ _ e2, e3⟩, e4⟩, e5⟩
  · exact Or.inr ⟨q, e1, E, ce, L, ⟨⟨k, σ1, f1, hq _ _ f2, f3⟩, f4⟩, f5⟩
