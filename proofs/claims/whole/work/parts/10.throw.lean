/-! A THROW in the logic: throw new E("text") -/
section GT
variable {G : gG} {M : gM} {b pc : Nat} {lv : List (Option gAV)} {st : List gAV} {σ : gSt} {Q : gOut → gSt → Prop}
theorem gEx.top {x v : gAV} (h : x = v) (k : gEx G M b pc lv (v :: st) σ Q) : gEx G M b pc lv (x :: st) σ Q := by subst h; exact k
theorem gEx.sto {σ' : gSt} (h : σ = σ') (k : gEx G M b pc lv st σ' Q) : gEx G M b pc lv st σ Q := by subst h; exact k
theorem g_throw {ik is ic : Nat} {text : String} (k : Nat)
    (hstr : ∀ (A : Nat → Prop) (U : State) (H : Heap), gEnv A U H → ∃ a, vk_R M.y.cls is text a U)
    (hfit : Bundle.fit (gE k) = true) (hnames : ∀ n ∈ ["java/lang/RuntimeException", "java/lang/Exception"], Bundle.fit n = true)
    (hk : Cond.classLink M.y.cls ik (gE k) ∈ M.ws) (hini : Cond.initialized (gE k) ∈ M.ws)
    (hat1 : ∀ w ∈ (vx_atS M.y.cls ic (gE k) ["java/lang/RuntimeException", "java/lang/Exception"]).filter goodWord, w ∈ M.ws)
    (hat2 : ∀ w ∈ (vx_atS M.y.cls ic (gE k) ["java/lang/RuntimeException", "java/lang/Exception"]).filter (fun w => !goodWord w), w ∈ gCast)
    (hgood : ∀ w ∈ Cond.classLink M.y.cls ik (gE k) :: Cond.initialized (gE k) :: vx_atS M.y.cls ic (gE k) ["java/lang/RuntimeException", "java/lang/Exception"], vx_ot w = true)
    (d0 : decode M.cc pc = .ok (.new ik, 3)) (d3 : decode M.cc (pc + 3) = .ok (.dup, 1)) (d4 : decode M.cc (pc + 4) = .ok (.ldc is, 2)) (d6 : decode M.cc (pc + 6) = .ok (.invokespecial ic, 3)) (d9 : decode M.cc (pc + 9) = .ok (.athrow, 1))
    (hR : 6 ≤ M.fr ∧ st.length + 82 ≤ M.lo) (hb : 1 ≤ b) (hq : Q (.inr k) σ) : gEx G M b pc lv st σ Q := by
  intro p l e R s m args below meth c D cy ad H locs cells slots mc ms ls C X L
  have hc9 := C.2.2.2.2.2.2.2.1
  have hr9 := C.2.2.2.1
  have hE0 : gEnv (gA G ad s.heap.size) s s.heap := X.2.2.kept (fun a _ hn => by
    have hlt : a < s.heap.size := Nat.lt_of_not_le (fun z => hn (gA_new z))
    rw [X.2.1.2.1 a hlt hn])
  obtain ⟨sa, hsa⟩ := hstr _ _ _ hE0
  obtain ⟨-, hcast, -, -, -, hU, hN⟩ := hE0
  refine vx_throwS (A := gA G ad s.heap.size) (sa := sa) (text := text) (cls := gE k) (names := ["java/lang/RuntimeException", "java/lang/Exception"]) (ik := ik) (is := is) (ic := ic) C.1.1 C.1.2.1 C.2.1 C.1.2.2.2.1 hfit hnames (C.1.2.2.2.2 _ hk) (C.1.2.2.2.2 _ hini) hsa
    (vx_hat (fun w hw => C.1.2.2.2.2 _ (hat1 w hw)) hat2 (fun w hw => ?_)) hgood hU hN X.2.1 (L.1.trans C.1.2.2.1.symm) d0 d3 d4 d6 d9 (fun x hx => (C.2.2.2.2.1 x hx).elim) (by show 2 + 3 < R.frames; omega) (by rw [gv_sum]; show st.length + (13 * (2 + 1) + 43) ≤ R.locals; omega) (by omega) (by omega) C.2.2.2.2.2.1
    (fun t _ hz hk9 => ⟨⟨k, σ, rfl, hq, gP_kept X.1 (fun a ha => hk9 _ (X.1 a ha).lt)⟩, ⟨Nat.le_trans X.2.1.1 hz, fun q h1 h2 => by rw [hk9 q (Nat.lt_of_lt_of_le h1 X.2.1.1)]; exact X.2.1.2.1 q h1 h2⟩⟩) X.2.1.2.2 (by omega) (by omega)
  have h0 := hcast w hw
  unfold gCast at hw
  simp only [List.mem_cons, List.not_mem_nil, or_false] at hw
  rcases hw with rfl | rfl | rfl | rfl | rfl <;> exact va_Nw.use rfl h0
/-- CommitCouncil.checkOne -/
theorem wsU_x0 : ∀ w ∈ (vx_atS RX6 194 "java/lang/IndexOutOfBoundsException" ["java/lang/RuntimeException", "java/lang/Exception"]).filter goodWord, w ∈ lw_tbl := by decide +kernel
theorem wsU_x1 : ∀ w ∈ (vx_atS RX6 115 "java/lang/IllegalArgumentException" ["java/lang/RuntimeException", "java/lang/Exception"]).filter goodWord, w ∈ lw_tbl := by decide +kernel
theorem g_throw_one (hq : Q (.inr 0) σ) (hb : 1 ≤ b) : gEx G mX6_checkOne b 9 lv [] σ Q :=
  g_throw (ik := 190) (is := 192) (ic := 194) 0 (fun A U H h => h.2.2.2.1) (by decide +kernel) (by decide +kernel) (List.mem_cons_of_mem _ uw_1_195) (List.mem_cons_of_mem _ uw_1_12) (fun w hw => List.mem_cons_of_mem _ (List.mem_filter.mpr ⟨wsU_x0 w hw, (List.mem_filter.mp hw).2⟩)) (by decide +kernel) (by decide +kernel)
    (by decide +kernel) (by decide +kernel) (by decide +kernel) (by decide +kernel) (by decide +kernel) ⟨by decide, by decide⟩ hb hq
theorem g_ldcw {i : Nat} (v : Int32) (d : decode M.cc pc = .ok (.ldc_w i, 3)) (hw : Cond.constant M.y.cls i v ∈ M.ws) (k : gEx G M b (pc + 3) lv (.inl v :: st) σ Q) : gEx G M b pc lv st σ Q := by
  intro p l e R s m args below meth c D cy ad H locs cells slots mc ms ls C X L
  exact lv_ldcw C.1.1 C.1.2.1 C.1.2.2.2.1 (C.1.2.2.2.2 _ hw) d (k p l e R s m args below meth c D cy ad H locs cells slots mc ms ls C X L)
theorem g_max {i : Nat} {x y : Int32} (d : decode M.cc pc = .ok (.invokestatic i, 3)) (hl : Cond.methodLink M.y.cls i Lib.Math.max.name ∈ M.ws) (hs : Cond.static Lib.Math.max.name ∈ M.ws) (hi : Cond.initialized "java/lang/Math" ∈ M.ws) (hc : Cond.code Lib.Math.max.name Lib.Math.max.code 2 (some .int) ∈ M.ws) (hR : 1 ≤ M.fr ∧ st.length + 13 ≤ M.lo)
    (k : gEx G M b (pc + 3) lv (.inl (if x < y then y else x) :: st) σ Q) : gEx G M b pc lv (.inl y :: .inl x :: st) σ Q := by
  intro p l e R s m args below meth c D cy ad H locs cells slots mc ms ls C X L
  have hc9 := C.2.2.2.2.2.2.2.1
  have hr9 := C.2.2.2.1
  exact va_mmax C.1.1 C.1.2.1 (C.1.2.2.1.trans L.1.symm) C.1.2.2.2.1 (C.1.2.2.2.2 _ hl) (C.1.2.2.2.2 _ hs) (C.1.2.2.2.2 _ hi) (C.1.2.2.2.2 _ hc) (by omega) (by rw [gv_sum]; omega) (by omega) (by omega) d (k p l e R s m args below meth c D cy ad H locs cells slots mc ms ls C X L)
/-- System.arraycopy of ints -/
theorem g_copy {i a0 a1 n0 n1 : Nat} {sp dp n : Int32} (d : decode M.cc pc = .ok (.invokestatic i, 3)) (hl : Cond.methodLink M.y.cls i arraycopyName ∈ M.ws) (hna : Cond.native arraycopyName ∈ M.ws) (hst : Cond.static arraycopyName ∈ M.ws) (hi : Cond.initialized "java/lang/System" ∈ M.ws)
    (ha0 : a0 ∈ G.1) (hs0 : G.2 a0 = .inl (0, n0, none)) (ha1 : a1 ∈ G.1) (hs1 : G.2 a1 = .inl (0, n1, none)) (h1 : ¬ sp < 0) (h2 : ¬ dp < 0) (h3 : ¬ n < 0) (h4 : sp.toNatClampNeg + n.toNatClampNeg ≤ n0) (h5 : dp.toNatClampNeg + n.toNatClampNeg ≤ n1)
    (hR : 1 ≤ M.fr ∧ st.length + (nativeFrameWords "java/lang/System" "arraycopy" 5 + 11) ≤ M.lo)
    (k : gEx G M b (pc + 3) lv st (gur σ a1 (va_cpy (σ a0) (σ a1) sp.toNatClampNeg dp.toNatClampNeg n.toNatClampNeg)) Q) : gEx G M b pc lv (.inl n :: .inl dp :: .inr a1 :: .inl sp :: .inr a0 :: st) σ Q := by
  intro p l e R s m args below meth c D cy ad H locs cells slots mc ms ls C X L
  have hr9 := C.2.2.2.1
  obtain ⟨i0, -, hw0⟩ := gws_at (cy := cy) (ad := ad) (σ := σ) ha0 hs0
  obtain ⟨i1, hi1, hw1⟩ := gws_at (cy := cy) (ad := ad) (σ := σ) ha1 hs1
  refine va_copyi (D := D) (ws := gws G cy ad σ) (tys := gtys cy) (ty := .int) C.1.1 C.1.2.1 (C.1.2.2.1.trans L.1.symm) C.1.2.2.2.1 (C.1.2.2.2.2 _ hl) (C.1.2.2.2.2 _ hna) (C.1.2.2.2.2 _ hst) (C.1.2.2.2.2 _ hi) C.2.2.2.2.2.2.1 (gws_P X.1) (gws_D C.2.2.1) X.2.1 i0 i1 0 0 hw0 hw1 rfl rfl rfl h1 h2 h3 h4 h5 (fun _ _ => rfl) (by omega) (by rw [gv_sum]; omega) d (fun H1 locs1 hP1 hD1 hS1 => ?_)
  rw [gws_set (σ' := gur σ a1 (va_cpy (σ a0) (σ a1) sp.toNatClampNeg dp.toNatClampNeg n.toNatClampNeg)) C.2.2.1.1 hi1 (by rw [hs1, gur_self]; rfl) (fun a ha => gur_ne σ _ ha)] at hP1
  exact k p l e R s m args below meth c D cy ad H1 locs1 cells slots mc ms ls C ⟨gP_ws hP1, hS1, X.2.2.step (fun q h => gA_new h) X.2.1 hS1⟩ L
end GT
