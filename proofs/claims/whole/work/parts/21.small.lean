def pc5 (n : Nat) : Nat := n % 2 + n / 2 % 2 + n / 4 % 2 + n / 8 % 2 + n / 16 % 2

theorem bc_eq (n : Nat) (hn : n < 32) : ((((((((nI (n)) - ((((nI (n)).toUInt32 >>> ((nI (1)).toUInt32 &&& Int32.toUInt32 31)).toInt32) &&& (1431655765))) &&& (858993459)) + (((((nI (n)) - ((((nI (n)).toUInt32 >>> ((nI (1)).toUInt32 &&& Int32.toUInt32 31)).toInt32) &&& (1431655765))).toUInt32 >>> ((nI (2)).toUInt32 &&& Int32.toUInt32 31)).toInt32) &&& (858993459))) + ((((((nI (n)) - ((((nI (n)).toUInt32 >>> ((nI (1)).toUInt32 &&& Int32.toUInt32 31)).toInt32) &&& (1431655765))) &&& (858993459)) + (((((nI (n)) - ((((nI (n)).toUInt32 >>> ((nI (1)).toUInt32 &&& Int32.toUInt32 31)).toInt32) &&& (1431655765))).toUInt32 >>> ((nI (2)).toUInt32 &&& Int32.toUInt32 31)).toInt32) &&& (858993459))).toUInt32 >>> ((nI (4)).toUInt32 &&& Int32.toUInt32 31)).toInt32)) &&& (252645135)) + ((((((((nI (n)) - ((((nI (n)).toUInt32 >>> ((nI (1)).toUInt32 &&& Int32.toUInt32 31)).toInt32) &&& (1431655765))) &&& (858993459)) + (((((nI (n)) - ((((nI (n)).toUInt32 >>> ((nI (1)).toUInt32 &&& Int32.toUInt32 31)).toInt32) &&& (1431655765))).toUInt32 >>> ((nI (2)).toUInt32 &&& Int32.toUInt32 31)).toInt32) &&& (858993459))) + ((((((nI (n)) - ((((nI (n)).toUInt32 >>> ((nI (1)).toUInt32 &&& Int32.toUInt32 31)).toInt32) &&& (1431655765))) &&& (858993459)) + (((((nI (n)) - ((((nI (n)).toUInt32 >>> ((nI (1)).toUInt32 &&& Int32.toUInt32 31)).toInt32) &&& (1431655765))).toUInt32 >>> ((nI (2)).toUInt32 &&& Int32.toUInt32 31)).toInt32) &&& (858993459))).toUInt32 >>> ((nI (4)).toUInt32 &&& Int32.toUInt32 31)).toInt32)) &&& (252645135)).toUInt32 >>> ((nI (8)).toUInt32 &&& Int32.toUInt32 31)).toInt32)) + (((((((((nI (n)) - ((((nI (n)).toUInt32 >>> ((nI (1)).toUInt32 &&& Int32.toUInt32 31)).toInt32) &&& (1431655765))) &&& (858993459)) + (((((nI (n)) - ((((nI (n)).toUInt32 >>> ((nI (1)).toUInt32 &&& Int32.toUInt32 31)).toInt32) &&& (1431655765))).toUInt32 >>> ((nI (2)).toUInt32 &&& Int32.toUInt32 31)).toInt32) &&& (858993459))) + ((((((nI (n)) - ((((nI (n)).toUInt32 >>> ((nI (1)).toUInt32 &&& Int32.toUInt32 31)).toInt32) &&& (1431655765))) &&& (858993459)) + (((((nI (n)) - ((((nI (n)).toUInt32 >>> ((nI (1)).toUInt32 &&& Int32.toUInt32 31)).toInt32) &&& (1431655765))).toUInt32 >>> ((nI (2)).toUInt32 &&& Int32.toUInt32 31)).toInt32) &&& (858993459))).toUInt32 >>> ((nI (4)).toUInt32 &&& Int32.toUInt32 31)).toInt32)) &&& (252645135)) + ((((((((nI (n)) - ((((nI (n)).toUInt32 >>> ((nI (1)).toUInt32 &&& Int32.toUInt32 31)).toInt32) &&& (1431655765))) &&& (858993459)) + (((((nI (n)) - ((((nI (n)).toUInt32 >>> ((nI (1)).toUInt32 &&& Int32.toUInt32 31)).toInt32) &&& (1431655765))).toUInt32 >>> ((nI (2)).toUInt32 &&& Int32.toUInt32 31)).toInt32) &&& (858993459))) + ((((((nI (n)) - ((((nI (n)).toUInt32 >>> ((nI (1)).toUInt32 &&& Int32.toUInt32 31)).toInt32) &&& (1431655765))) &&& (858993459)) + (((((nI (n)) - ((((nI (n)).toUInt32 >>> ((nI (1)).toUInt32 &&& Int32.toUInt32 31)).toInt32) &&& (1431655765))).toUInt32 >>> ((nI (2)).toUInt32 &&& Int32.toUInt32 31)).toInt32) &&& (858993459))).toUInt32 >>> ((nI (4)).toUInt32 &&& Int32.toUInt32 31)).toInt32)) &&& (252645135)).toUInt32 >>> ((nI (8)).toUInt32 &&& Int32.toUInt32 31)).toInt32)).toUInt32 >>> ((nI (16)).toUInt32 &&& Int32.toUInt32 31)).toInt32)) &&& (nI (63)) = nI (pc5 n) := by
  have h : ∀ n : Fin 32, ((((((((nI (n.val)) - ((((nI (n.val)).toUInt32 >>> ((nI (1)).toUInt32 &&& Int32.toUInt32 31)).toInt32) &&& (1431655765))) &&& (858993459)) + (((((nI (n.val)) - ((((nI (n.val)).toUInt32 >>> ((nI (1)).toUInt32 &&& Int32.toUInt32 31)).toInt32) &&& (1431655765))).toUInt32 >>> ((nI (2)).toUInt32 &&& Int32.toUInt32 31)).toInt32) &&& (858993459))) + ((((((nI (n.val)) - ((((nI (n.val)).toUInt32 >>> ((nI (1)).toUInt32 &&& Int32.toUInt32 31)).toInt32) &&& (1431655765))) &&& (858993459)) + (((((nI (n.val)) - ((((nI (n.val)).toUInt32 >>> ((nI (1)).toUInt32 &&& Int32.toUInt32 31)).toInt32) &&& (1431655765))).toUInt32 >>> ((nI (2)).toUInt32 &&& Int32.toUInt32 31)).toInt32) &&& (858993459))).toUInt32 >>> ((nI (4)).toUInt32 &&& Int32.toUInt32 31)).toInt32)) &&& (252645135)) + ((((((((nI (n.val)) - ((((nI (n.val)).toUInt32 >>> ((nI (1)).toUInt32 &&& Int32.toUInt32 31)).toInt32) &&& (1431655765))) &&& (858993459)) + (((((nI (n.val)) - ((((nI (n.val)).toUInt32 >>> ((nI (1)).toUInt32 &&& Int32.toUInt32 31)).toInt32) &&& (1431655765))).toUInt32 >>> ((nI (2)).toUInt32 &&& Int32.toUInt32 31)).toInt32) &&& (858993459))) + ((((((nI (n.val)) - ((((nI (n.val)).toUInt32 >>> ((nI (1)).toUInt32 &&& Int32.toUInt32 31)).toInt32) &&& (1431655765))) &&& (858993459)) + (((((nI (n.val)) - ((((nI (n.val)).toUInt32 >>> ((nI (1)).toUInt32 &&& Int32.toUInt32 31)).toInt32) &&& (1431655765))).toUInt32 >>> ((nI (2)).toUInt32 &&& Int32.toUInt32 31)).toInt32) &&& (858993459))).toUInt32 >>> ((nI (4)).toUInt32 &&& Int32.toUInt32 31)).toInt32)) &&& (252645135)).toUInt32 >>> ((nI (8)).toUInt32 &&& Int32.toUInt32 31)).toInt32)) + (((((((((nI (n.val)) - ((((nI (n.val)).toUInt32 >>> ((nI (1)).toUInt32 &&& Int32.toUInt32 31)).toInt32) &&& (1431655765))) &&& (858993459)) + (((((nI (n.val)) - ((((nI (n.val)).toUInt32 >>> ((nI (1)).toUInt32 &&& Int32.toUInt32 31)).toInt32) &&& (1431655765))).toUInt32 >>> ((nI (2)).toUInt32 &&& Int32.toUInt32 31)).toInt32) &&& (858993459))) + ((((((nI (n.val)) - ((((nI (n.val)).toUInt32 >>> ((nI (1)).toUInt32 &&& Int32.toUInt32 31)).toInt32) &&& (1431655765))) &&& (858993459)) + (((((nI (n.val)) - ((((nI (n.val)).toUInt32 >>> ((nI (1)).toUInt32 &&& Int32.toUInt32 31)).toInt32) &&& (1431655765))).toUInt32 >>> ((nI (2)).toUInt32 &&& Int32.toUInt32 31)).toInt32) &&& (858993459))).toUInt32 >>> ((nI (4)).toUInt32 &&& Int32.toUInt32 31)).toInt32)) &&& (252645135)) + ((((((((nI (n.val)) - ((((nI (n.val)).toUInt32 >>> ((nI (1)).toUInt32 &&& Int32.toUInt32 31)).toInt32) &&& (1431655765))) &&& (858993459)) + (((((nI (n.val)) - ((((nI (n.val)).toUInt32 >>> ((nI (1)).toUInt32 &&& Int32.toUInt32 31)).toInt32) &&& (1431655765))).toUInt32 >>> ((nI (2)).toUInt32 &&& Int32.toUInt32 31)).toInt32) &&& (858993459))) + ((((((nI (n.val)) - ((((nI (n.val)).toUInt32 >>> ((nI (1)).toUInt32 &&& Int32.toUInt32 31)).toInt32) &&& (1431655765))) &&& (858993459)) + (((((nI (n.val)) - ((((nI (n.val)).toUInt32 >>> ((nI (1)).toUInt32 &&& Int32.toUInt32 31)).toInt32) &&& (1431655765))).toUInt32 >>> ((nI (2)).toUInt32 &&& Int32.toUInt32 31)).toInt32) &&& (858993459))).toUInt32 >>> ((nI (4)).toUInt32 &&& Int32.toUInt32 31)).toInt32)) &&& (252645135)).toUInt32 >>> ((nI (8)).toUInt32 &&& Int32.toUInt32 31)).toInt32)).toUInt32 >>> ((nI (16)).toUInt32 &&& Int32.toUInt32 31)).toInt32)) &&& (nI (63)) = nI (pc5 n.val) := by decide +kernel
  exact h ⟨n, hn⟩

set_option maxRecDepth 100000 in
/-- Integer.bitCount of five bits -/
theorem c_bits {G : gG} {σ : gSt} {n : Nat} (hn : n < 32) : gEM G mJ6_bitCount_0f7a4 0 [.inl (nI (n))] σ (gR (nI (pc5 n)) (fun s => s = σ)) := by
  refine gEM_of (by decide +kernel) rfl (Nat.le_of_ble_eq_true rfl) ?_
  refine g_iload_n dJ6_bitCount_0f7a4_0 rfl ?_
  refine g_iload_n dJ6_bitCount_0f7a4_1 rfl ?_
  refine g_iconst (nI (1)) dJ6_bitCount_0f7a4_2 (by decide) ?_
  refine g_iushr dJ6_bitCount_0f7a4_3 ?_
  refine g_ldcw (1431655765) dJ6_bitCount_0f7a4_4 (List.mem_cons_of_mem _ uw_2_174) ?_
  refine g_iand dJ6_bitCount_0f7a4_7 ?_
  refine g_isub dJ6_bitCount_0f7a4_8 ?_
  refine g_istore_n dJ6_bitCount_0f7a4_9 (by decide) ?_
  refine g_iload_n dJ6_bitCount_0f7a4_10 rfl ?_
  refine g_ldcw (858993459) dJ6_bitCount_0f7a4_11 (List.mem_cons_of_mem _ uw_2_175) ?_
  refine g_iand dJ6_bitCount_0f7a4_14 ?_
  refine g_iload_n dJ6_bitCount_0f7a4_15 rfl ?_
  refine g_iconst (nI (2)) dJ6_bitCount_0f7a4_16 (by decide) ?_
  refine g_iushr dJ6_bitCount_0f7a4_17 ?_
  refine g_ldcw (858993459) dJ6_bitCount_0f7a4_18 (List.mem_cons_of_mem _ uw_2_175) ?_
  refine g_iand dJ6_bitCount_0f7a4_21 ?_
  refine g_iadd dJ6_bitCount_0f7a4_22 ?_
  refine g_istore_n dJ6_bitCount_0f7a4_23 (by decide) ?_
  refine g_iload_n dJ6_bitCount_0f7a4_24 rfl ?_
  refine g_iload_n dJ6_bitCount_0f7a4_25 rfl ?_
  refine g_iconst (nI (4)) dJ6_bitCount_0f7a4_26 (by decide) ?_
  refine g_iushr dJ6_bitCount_0f7a4_27 ?_
  refine g_iadd dJ6_bitCount_0f7a4_28 ?_
  refine g_ldcw (252645135) dJ6_bitCount_0f7a4_29 (List.mem_cons_of_mem _ uw_2_176) ?_
  refine g_iand dJ6_bitCount_0f7a4_32 ?_
  refine g_istore_n dJ6_bitCount_0f7a4_33 (by decide) ?_
  refine g_iload_n dJ6_bitCount_0f7a4_34 rfl ?_
  refine g_iload_n dJ6_bitCount_0f7a4_35 rfl ?_
  refine g_bipush (nI (8)) dJ6_bitCount_0f7a4_36 (by decide) ?_
  refine g_iushr dJ6_bitCount_0f7a4_38 ?_
  refine g_iadd dJ6_bitCount_0f7a4_39 ?_
  refine g_istore_n dJ6_bitCount_0f7a4_40 (by decide) ?_
  refine g_iload_n dJ6_bitCount_0f7a4_41 rfl ?_
  refine g_iload_n dJ6_bitCount_0f7a4_42 rfl ?_
  refine g_bipush (nI (16)) dJ6_bitCount_0f7a4_43 (by decide) ?_
  refine g_iushr dJ6_bitCount_0f7a4_45 ?_
  refine g_iadd dJ6_bitCount_0f7a4_46 ?_
  refine g_istore_n dJ6_bitCount_0f7a4_47 (by decide) ?_
  refine g_iload_n dJ6_bitCount_0f7a4_48 rfl ?_
  refine g_bipush (nI (63)) dJ6_bitCount_0f7a4_49 (by decide) ?_
  refine g_iand dJ6_bitCount_0f7a4_51 ?_
  exact g_iret dJ6_bitCount_0f7a4_52 rfl (⟨congrArg (fun z : Int32 => (Sum.inl (some (Sum.inl z)) : gOut)) (bc_eq n hn), rfl⟩)

def filσ (σ : gSt) (a i : Nat) (x : Int32) : gSt := gur σ a (fun j => if j < i then x else σ a j)
theorem fil_0 (σ : gSt) (a : Nat) (x : Int32) : filσ σ a 0 x = σ := by
  funext p q
  unfold filσ gur
  by_cases h : p = a
  · subst h
    simp
  · rw [if_neg h]
theorem fil_s (σ : gSt) (a i : Nat) (x : Int32) : gup (filσ σ a i x) a i x = filσ σ a (i + 1) x := by
  funext p q
  unfold gup filσ gur
  by_cases h : p = a
  · subst h
    by_cases h2 : q = i
    · subst h2
      simp
    · have h3 : (q < i + 1) = (q < i) := propext (by omega)
      simp [h2, h3]
  · simp [h]
theorem fil_at (σ : gSt) (a i j : Nat) (x : Int32) : filσ σ a i x a j = if j < i then x else σ a j := by
  unfold filσ gur
  rw [if_pos rfl]
theorem fil_ne (σ : gSt) {a p : Nat} (i : Nat) (x : Int32) (h : p ≠ a) : filσ σ a i x p = σ p := gur_ne σ _ h

set_option maxRecDepth 100000 in
theorem c_fill_loop {G : gG} {σ : gSt} {a n : Nat} {x : Int32} (ha : a ∈ G.1) (hs : G.2 a = .inl (0, n, none)) (hn : n < 2 ^ 31) : ∀ (k i : Nat), i ≤ n → n - i < k → gEx G mJ7_fill_53178 0 5 [some (.inr a), some (.inl x), some (.inl (nI i)), some (.inl (nI n))] [] (filσ σ a i x) (gV (fun s => s = filσ σ a n x)) := by
  intro k
  induction k with
  | zero => intro i hi1 hi2; exact absurd hi2 (by omega)
  | succ k ih =>
    intro i hi1 hi2
    refine g_iload_n dJ7_fill_53178_5 rfl ?_
    refine g_iload_n dJ7_fill_53178_6 rfl ?_
    refine g_icmp_ge 20 dJ7_fill_53178_7 (by decide) (fun h7 => ?_) (fun h7 => ?_)
    · skip
      rw [nI_leI (by omega) (by omega)] at h7
      refine g_vret dJ7_fill_53178_20 rfl ?_
      have e : i = n := by omega
      subst e
      exact ⟨rfl, rfl⟩
    · skip
      rw [nI_leI (by omega) (by omega)] at h7
      refine g_aload_n dJ7_fill_53178_10 rfl ?_
      refine g_iload_n dJ7_fill_53178_11 rfl ?_
      refine g_iload_n dJ7_fill_53178_12 rfl ?_
      refine g_iastN (n := n) (j := i) dJ7_fill_53178_13 ha hs (by omega) (by omega) ?_
      refine g_iinc (nI (i + 1)) dJ7_fill_53178_14 rfl (show nI (i) + nI 1 = _ from nI_add _ _) (by decide) ?_
      refine g_goto 5 dJ7_fill_53178_17 (by decide) ?_
      exact gEx.eq rfl rfl (fil_s σ a i x) (ih (i + 1) (by omega) (by omega))

set_option maxRecDepth 100000 in
/-- Arrays.fill -/
theorem c_fill {G : gG} {σ : gSt} {a n : Nat} {x : Int32} (ha : a ∈ G.1) (hs : G.2 a = .inl (0, n, none)) (hn : n < 2 ^ 31) : gEM G mJ7_fill_53178 0 [.inr a, .inl (x)] σ (gV (fun s => s = filσ σ a n x)) := by
  refine gEM_of (by decide +kernel) rfl (Nat.le_of_ble_eq_true rfl) ?_
  refine g_iconst (nI (0)) dJ7_fill_53178_0 (by decide) ?_
  refine g_istore_n dJ7_fill_53178_1 (by decide) ?_
  refine g_aload_n dJ7_fill_53178_2 rfl ?_
  refine g_alen (nI (n)) dJ7_fill_53178_3 ha hs (by decide) rfl ?_
  refine g_istore_n dJ7_fill_53178_4 (by decide) ?_
  exact gEx.eq rfl rfl (fil_0 σ a x).symm (c_fill_loop ha hs hn (n + 1) 0 (by omega) (by omega))

theorem fm_x {n : Nat} (hn : n < 2 ^ 30) : 0 ≤ nI n ^^^ nI 3 := by
  have e : nI n ^^^ nI 3 = nI (n ^^^ 3) := by
    apply Int32.toBitVec_inj.mp
    show (nI n).toBitVec ^^^ (nI 3).toBitVec = (nI (n ^^^ 3)).toBitVec
    show BitVec.ofNat 32 n ^^^ BitVec.ofNat 32 3 = BitVec.ofNat 32 (n ^^^ 3)
    rw [BitVec.ofNat_xor]
  rw [e]
  exact nI_pos' (Nat.lt_trans (Nat.xor_lt_two_pow (n := 30) hn (by decide)) (by decide))

set_option maxRecDepth 100000 in
/-- Math.floorMod(n, 3) -/
theorem c_fmod {G : gG} {σ : gSt} {n : Nat} (hn : n < 2 ^ 30) : gEM G mJ9_floorMod_7cf53 0 [.inl (nI (n)), .inl (nI (3))] σ (gR (nI (n % 3)) (fun s => s = σ)) := by
  refine gEM_ofF (by decide +kernel) rfl (Nat.le_of_ble_eq_true rfl) ?_
  refine g_iload_n dJ9_floorMod_7cf53_0 rfl ?_
  refine g_iload_n dJ9_floorMod_7cf53_1 rfl ?_
  refine g_irem dJ9_floorMod_7cf53_2 (by decide) ?_
  refine gEx.top (v := .inl (nI (n % 3))) (congrArg Sum.inl (pk_rem (by omega) (by decide) (by decide))) ?_
  refine g_istore_n dJ9_floorMod_7cf53_3 (by decide) ?_
  refine g_iload_n dJ9_floorMod_7cf53_4 rfl ?_
  refine g_iload_n dJ9_floorMod_7cf53_5 rfl ?_
  refine g_ixor dJ9_floorMod_7cf53_6 ?_
  refine g_if_ge 18 dJ9_floorMod_7cf53_7 (by decide) (fun h7 => ?_) (fun h7 => ?_)
  · skip
    refine g_iload_n dJ9_floorMod_7cf53_18 rfl ?_
    exact g_iret dJ9_floorMod_7cf53_19 rfl (⟨rfl, rfl⟩)
  · skip
    exact absurd (show 0 ≤ nI n ^^^ nI 3 from fm_x hn) h7

/-- a vote's ballot as the class tells it -/
def pB (v : Nat) : Int32 := if v = 0 then -1 else nI (v / 4)
theorem or2 {b w : Nat} (hw : w < 4) (hb : b < 2 ^ 28) : nI b <<< (nI 2 &&& 31) ||| nI w = nI (4 * b + w) := by
  rw [pk_shlN (n := b) (nI 2 &&& 31) 2 (by decide) (by omega)]
  apply Int32.toBitVec_inj.mp
  show BitVec.ofNat 32 (b * 2 ^ 2) ||| BitVec.ofNat 32 w = BitVec.ofNat 32 (4 * b + w)
  have e : 4 * b + w = (b * 2 ^ 2) ||| w := by
    rw [Nat.mul_comm b, show (2 ^ 2 * b) ||| w = 2 ^ 2 * b + w from (Nat.two_pow_add_eq_or_of_lt (by omega) b).symm]
  rw [e, BitVec.ofNat_or]
theorem and3 (v : Nat) (hv : v < 2 ^ 31) : nI v &&& nI 3 = nI (v % 4) := pk_andN (n := v) (by omega) 2 (by decide)
theorem shr2 (v : Nat) (hv : v < 2 ^ 31) : nI v >>> (nI 2 &&& 31) = nI (v / 4) := pk_shrN hv _ 2 (by decide)

set_option maxRecDepth 100000 in
/-- voteOf -/
theorem c_voteOf {R A : Nat} {σ : gSt} {b w : Nat} (hw : w < 4) (hb : b < 2 ^ 28) : gEM (cG R A) mX6_voteOf 0 [.inl (nI (b)), .inl (nI (w))] σ (gR (nI (4 * b + w)) (fun s => s = σ)) := by
  refine gEM_of (by decide +kernel) rfl (Nat.le_of_ble_eq_true rfl) ?_
  refine g_iload_n dX6_voteOf_0 rfl ?_
  refine g_iconst (nI (2)) dX6_voteOf_1 (by decide) ?_
  refine g_ishl dX6_voteOf_2 ?_
  refine g_iload_n dX6_voteOf_3 rfl ?_
  refine g_ior dX6_voteOf_4 ?_
  refine gEx.top (v := .inl (nI (4 * b + w))) (congrArg Sum.inl (or2 hw hb)) ?_
  exact g_iret dX6_voteOf_5 rfl (⟨rfl, rfl⟩)

set_option maxRecDepth 100000 in
/-- ballotOf -/
theorem c_ballotOf {R A : Nat} {σ : gSt} {v : Nat} (hv : v < 2 ^ 31) : gEM (cG R A) mX6_ballotOf 0 [.inl (nI (v))] σ (gR (pB v) (fun s => s = σ)) := by
  refine gEM_of (by decide +kernel) rfl (Nat.le_of_ble_eq_true rfl) ?_
  refine g_iload_n dX6_ballotOf_0 rfl ?_
  refine g_if_ne 8 dX6_ballotOf_1 (by decide) (fun h1 => ?_) (fun h1 => ?_)
  · skip
    rw [nI_z (by omega)] at h1
    refine g_iload_n dX6_ballotOf_8 rfl ?_
    refine g_iconst (nI (2)) dX6_ballotOf_9 (by decide) ?_
    refine g_ishr dX6_ballotOf_10 ?_
    refine gEx.top (v := .inl (nI (v / 4))) (congrArg Sum.inl (shr2 v hv)) ?_
    exact g_iret dX6_ballotOf_11 rfl (⟨by unfold pB; rw [if_neg (by omega)], rfl⟩)
  · skip
    rw [nI_z (by omega)] at h1
    refine g_iconst ((-1)) dX6_ballotOf_4 (by decide) ?_
    refine g_goto 11 dX6_ballotOf_5 (by decide) ?_
    exact g_iret dX6_ballotOf_11 rfl (⟨by unfold pB; rw [if_pos (by omega)], rfl⟩)

set_option maxRecDepth 100000 in
/-- wordOf -/
theorem c_wordOf {R A : Nat} {σ : gSt} {v : Nat} (hv : v < 2 ^ 31) : gEM (cG R A) mX6_wordOf 0 [.inl (nI (v))] σ (gR (nI (v % 4)) (fun s => s = σ)) := by
  refine gEM_of (by decide +kernel) rfl (Nat.le_of_ble_eq_true rfl) ?_
  refine g_iload_n dX6_wordOf_0 rfl ?_
  refine g_iconst (nI (3)) dX6_wordOf_1 (by decide) ?_
  refine g_iand dX6_wordOf_2 ?_
  refine gEx.top (v := .inl (nI (v % 4))) (congrArg Sum.inl (and3 v hv)) ?_
  exact g_iret dX6_wordOf_3 rfl (⟨rfl, rfl⟩)

set_option maxRecDepth 100000 in
/-- leaderOf -/
theorem c_leaderOf {R A : Nat} {σ : gSt} {b : Nat} (hb : 1 ≤ b) (hb2 : b < 2 ^ 30) : gEM (cG R A) mX6_leaderOf 0 [.inl (nI (b))] σ (gR (nI ((b - 1) % 3)) (fun s => s = σ)) := by
  refine gEM_of (by decide +kernel) rfl (Nat.le_of_ble_eq_true rfl) ?_
  refine g_iload_n dX6_leaderOf_0 rfl ?_
  refine g_iconst (nI (1)) dX6_leaderOf_1 (by decide) ?_
  refine g_isub dX6_leaderOf_2 ?_
  refine gEx.top (v := .inl (nI (b - (1)))) (congrArg Sum.inl (pk_sub (by omega))) ?_
  refine g_iconst (nI (3)) dX6_leaderOf_3 (by decide) ?_
  refine g_callSi (nI ((b - 1) % 3)) (n9 := 2) [.inl (nI (b - (1))), .inl (nI (3))] [] (c_fmod (by omega)) dX6_leaderOf_4 (gU_S uw_2_215 uw_2_216 uw_1_15 uw_2_217) rfl (by decide +kernel) rfl ⟨by decide, by decide⟩ rfl (Nat.le_of_ble_eq_true rfl) (fun σ1 hp => ?_)
  exact g_iret dX6_leaderOf_7 rfl (⟨rfl, hp⟩)

set_option maxRecDepth 100000 in
/-- leastOwnAbove -/
theorem c_lob {R A : Nat} {σ : gSt} {l h : Nat} (hl : l < 3) (hh : h < 2 ^ 20) : gEM (cG R A) mX6_leastOwnAbove 0 [.inl (nI (l)), .inl (nI (h))] σ (gR (nI (lob l h)) (fun s => s = σ)) := by
  refine gEM_of (by decide +kernel) rfl (Nat.le_of_ble_eq_true rfl) ?_
  refine g_iload_n dX6_leastOwnAbove_0 rfl ?_
  refine g_iconst (nI (1)) dX6_leastOwnAbove_1 (by decide) ?_
  refine g_iadd dX6_leastOwnAbove_2 ?_
  refine gEx.top (v := .inl (nI (l + 1))) (congrArg Sum.inl (nI_add _ _)) ?_
  refine g_istore_n dX6_leastOwnAbove_3 (by decide) ?_
  refine g_iload_n dX6_leastOwnAbove_4 rfl ?_
  refine g_iload_n dX6_leastOwnAbove_5 rfl ?_
  refine g_icmp_ge 13 dX6_leastOwnAbove_6 (by decide) (fun h6 => ?_) (fun h6 => ?_)
  · skip
    rw [nI_leI (by omega) (by omega)] at h6
    refine g_iload_n dX6_leastOwnAbove_13 rfl ?_
    refine g_iconst (nI (3)) dX6_leastOwnAbove_14 (by decide) ?_
    refine g_iload_n dX6_leastOwnAbove_15 rfl ?_
    refine g_iload_n dX6_leastOwnAbove_16 rfl ?_
    refine g_isub dX6_leastOwnAbove_17 ?_
    refine gEx.top (v := .inl (nI (h - (l + 1)))) (congrArg Sum.inl (pk_sub (by omega))) ?_
    refine g_iconst (nI (3)) dX6_leastOwnAbove_18 (by decide) ?_
    refine g_idiv dX6_leastOwnAbove_19 (by decide) ?_
    refine gEx.top (v := .inl (nI ((h - (l + 1)) / 3))) (congrArg Sum.inl (pk_div (by omega) (by decide) (by decide))) ?_
    refine g_iconst (nI (1)) dX6_leastOwnAbove_20 (by decide) ?_
    refine g_iadd dX6_leastOwnAbove_21 ?_
    refine gEx.top (v := .inl (nI ((h - (l + 1)) / 3 + 1))) (congrArg Sum.inl (nI_add _ _)) ?_
    refine g_imul dX6_leastOwnAbove_22 ?_
    refine gEx.top (v := .inl (nI ((3) * ((h - (l + 1)) / 3 + 1)))) (congrArg Sum.inl (pk_mul _ _)) ?_
    refine g_iadd dX6_leastOwnAbove_23 ?_
    refine gEx.top (v := .inl (nI (l + 1 + (3) * ((h - (l + 1)) / 3 + 1)))) (congrArg Sum.inl (nI_add _ _)) ?_
    exact g_iret dX6_leastOwnAbove_24 rfl (⟨by unfold lob; rw [if_neg (by omega)], rfl⟩)
  · skip
    rw [nI_leI (by omega) (by omega)] at h6
    refine g_iload_n dX6_leastOwnAbove_9 rfl ?_
    refine g_goto 24 dX6_leastOwnAbove_10 (by decide) ?_
    exact g_iret dX6_leastOwnAbove_24 rfl (⟨by unfold lob; rw [if_pos (by omega)], rfl⟩)
