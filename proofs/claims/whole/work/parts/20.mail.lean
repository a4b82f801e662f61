set_option maxRecDepth 100000 in
/-- checkOne: there is such a one -/
theorem c_checkOk {R A : Nat} {σ : gSt} {i n : Nat} (hi : i < n) (hn : n < 2 ^ 31) : gEM (cG R A) mX6_checkOne 0 [.inl (nI (i)), .inl (nI (n))] σ (gV (fun s => s = σ)) := by
  refine gEM_of (by decide +kernel) rfl (Nat.le_of_ble_eq_true rfl) ?_
  refine g_iload_n dX6_checkOne_0 rfl ?_
  refine g_if_lt 9 dX6_checkOne_1 (by decide) (fun h1 => ?_) (fun h1 => ?_)
  · skip
    rw [nI_n (by omega)] at h1
    exact h1.elim
  · skip
    rw [nI_n (by omega)] at h1
    refine g_iload_n dX6_checkOne_4 rfl ?_
    refine g_iload_n dX6_checkOne_5 rfl ?_
    refine g_icmp_lt 19 dX6_checkOne_6 (by decide) (fun h6 => ?_) (fun h6 => ?_)
    · skip
      rw [nI_ltI (by omega) (by omega)] at h6
      exact g_vret dX6_checkOne_19 rfl (⟨rfl, rfl⟩)
    · skip
      rw [nI_ltI (by omega) (by omega)] at h6
      exact absurd hi h6

set_option maxRecDepth 100000 in
/-- checkOne: there is no such one -/
theorem c_checkNo {R A : Nat} {σ : gSt} {x : Int32} {n : Nat} (hx : x < 0 ∨ nI n ≤ x) : gEM (cG R A) mX6_checkOne 1 [.inl (x), .inl (nI (n))] σ (gX 0 (fun s => s = σ)) := by
  refine gEM_of (by decide +kernel) rfl (Nat.le_of_ble_eq_true rfl) ?_
  refine g_iload_n dX6_checkOne_0 rfl ?_
  refine g_if_lt 9 dX6_checkOne_1 (by decide) (fun h1 => ?_) (fun h1 => ?_)
  · skip
    exact g_throw_one ⟨rfl, rfl⟩ (by decide)
  · skip
    refine g_iload_n dX6_checkOne_4 rfl ?_
    refine g_iload_n dX6_checkOne_5 rfl ?_
    refine g_icmp_lt 19 dX6_checkOne_6 (by decide) (fun h6 => ?_) (fun h6 => ?_)
    · skip
      rcases hx with q | q
      · exact absurd q h1
      · exact absurd h6 (Int32.not_lt.mpr q)
    · skip
      exact g_throw_one ⟨rfl, rfl⟩ (by decide)

set_option maxRecDepth 100000 in
/-- hasRoomFor -/
theorem c_room {R A : Nat} {σ : gSt} {n k : Nat} (hn : σ 4 0 = nI n) (hn4 : n ≤ 401) (hk : k ≤ 1000) : gEM (cG R A) mX3_hasRoomFor 0 [.inr (4), .inl (nI (k))] σ (gR (bI (n + k ≤ 400)) (fun s => s = σ)) := by
  refine gEM_of (by decide +kernel) rfl (Nat.le_of_ble_eq_true rfl) ?_
  refine g_aload_n dX3_hasRoomFor_0 rfl ?_
  refine g_get (T := TX3) (N := 4) (Cn := RX3) (ref := "CommitCouncil$Mail") 0 dX3_hasRoomFor_1 (cIn_lo (by decide)) cSh_4 rfl (fun w h => List.mem_cons_of_mem _ (hU3 w h)) (by decide) (List.mem_cons_of_mem _ uw_1_121) (Or.inl rfl) rfl ?_
  refine gEx.top (v := .inl (nI (n))) (congrArg Sum.inl (hn)) ?_
  refine g_iload_n dX3_hasRoomFor_4 rfl ?_
  refine g_iadd dX3_hasRoomFor_5 ?_
  refine gEx.top (v := .inl (nI (n + k))) (congrArg Sum.inl (nI_add _ _)) ?_
  refine g_sipush (nI (400)) dX3_hasRoomFor_6 (by decide) ?_
  refine g_icmp_gt 16 dX3_hasRoomFor_9 (by decide) (fun h9 => ?_) (fun h9 => ?_)
  · skip
    rw [nI_ltI (by omega) (by omega)] at h9
    refine g_iconst (nI (0)) dX3_hasRoomFor_16 (by decide) ?_
    exact g_zret dX3_hasRoomFor_17 rfl (rfl) (⟨by unfold bI; rw [if_neg (by omega)]; rfl, rfl⟩)
  · skip
    rw [nI_ltI (by omega) (by omega)] at h9
    refine g_iconst (nI (1)) dX3_hasRoomFor_12 (by decide) ?_
    refine g_goto 17 dX3_hasRoomFor_13 (by decide) ?_
    exact g_zret dX3_hasRoomFor_17 rfl (rfl) (⟨by unfold bI; rw [if_pos (by omega)]; rfl, rfl⟩)

set_option maxRecDepth 100000 in
/-- hasRoomFor(-1) -/
theorem c_roomM {R A : Nat} {σ : gSt} {n : Nat} (hn : σ 4 0 = nI n) (hn4 : n ≤ 400) (hn1 : 1 ≤ n) : gEM (cG R A) mX3_hasRoomFor 0 [.inr (4), .inl (-1)] σ (gR 1 (fun s => s = σ)) := by
  refine gEM_of (by decide +kernel) rfl (Nat.le_of_ble_eq_true rfl) ?_
  refine g_aload_n dX3_hasRoomFor_0 rfl ?_
  refine g_get (T := TX3) (N := 4) (Cn := RX3) (ref := "CommitCouncil$Mail") 0 dX3_hasRoomFor_1 (cIn_lo (by decide)) cSh_4 rfl (fun w h => List.mem_cons_of_mem _ (hU3 w h)) (by decide) (List.mem_cons_of_mem _ uw_1_121) (Or.inl rfl) rfl ?_
  refine gEx.top (v := .inl (nI (n))) (congrArg Sum.inl (hn)) ?_
  refine g_iload_n dX3_hasRoomFor_4 rfl ?_
  refine g_iadd dX3_hasRoomFor_5 ?_
  refine gEx.top (v := .inl (nI (n - 1))) (congrArg Sum.inl (sb_m1 hn1)) ?_
  refine g_sipush (nI (400)) dX3_hasRoomFor_6 (by decide) ?_
  refine g_icmp_gt 16 dX3_hasRoomFor_9 (by decide) (fun h9 => ?_) (fun h9 => ?_)
  · skip
    rw [nI_ltI (by omega) (by omega)] at h9
    exact absurd h9 (by omega)
  · skip
    rw [nI_ltI (by omega) (by omega)] at h9
    refine g_iconst (nI (1)) dX3_hasRoomFor_12 (by decide) ?_
    refine g_goto 17 dX3_hasRoomFor_13 (by decide) ?_
    exact g_zret dX3_hasRoomFor_17 rfl (rfl) (⟨rfl, rfl⟩)

set_option maxRecDepth 100000 in
/-- part: a part of a message -/
theorem c_part {R A : Nat} {σ : gSt} {n : Nat} (hn : σ 4 0 = nI n) (hw : σ 4 2 = nI (6 + R)) (hR : R ≤ 6) {k j : Nat} (hk : k < n) (hn4 : n ≤ 401) (hj : j < 6) : gEM (cG R A) mX3_part 0 [.inr (4), .inl (nI (k)), .inl (nI (j))] σ (gR (σ 5 (k * (6 + R) + j)) (fun s => s = σ)) := by
  refine gEM_of (by decide +kernel) rfl (Nat.le_of_ble_eq_true rfl) ?_
  refine g_iload_n dX3_part_0 rfl ?_
  refine g_if_lt 22 dX3_part_1 (by decide) (fun h1 => ?_) (fun h1 => ?_)
  · skip
    rw [nI_n (by omega)] at h1
    exact h1.elim
  · skip
    rw [nI_n (by omega)] at h1
    refine g_iload_n dX3_part_4 rfl ?_
    refine g_aload_n dX3_part_5 rfl ?_
    refine g_get (T := TX3) (N := 4) (Cn := RX3) (ref := "CommitCouncil$Mail") 0 dX3_part_6 (cIn_lo (by decide)) cSh_4 rfl (fun w h => List.mem_cons_of_mem _ (hU3 w h)) (by decide) (List.mem_cons_of_mem _ uw_1_121) (Or.inl rfl) rfl ?_
    refine gEx.top (v := .inl (nI (n))) (congrArg Sum.inl (hn)) ?_
    refine g_icmp_ge 22 dX3_part_9 (by decide) (fun h9 => ?_) (fun h9 => ?_)
    · skip
      rw [nI_leI (by omega) (by omega)] at h9
      exact absurd h9 (by omega)
    · skip
      rw [nI_leI (by omega) (by omega)] at h9
      refine g_iload_n dX3_part_12 rfl ?_
      refine g_if_lt 22 dX3_part_13 (by decide) (fun h13 => ?_) (fun h13 => ?_)
      · skip
        rw [nI_n (by omega)] at h13
        exact h13.elim
      · skip
        rw [nI_n (by omega)] at h13
        refine g_iload_n dX3_part_16 rfl ?_
        refine g_bipush (nI (6)) dX3_part_17 (by decide) ?_
        refine g_icmp_lt 24 dX3_part_19 (by decide) (fun h19 => ?_) (fun h19 => ?_)
        · skip
          rw [nI_ltI (by omega) (by omega)] at h19
          refine g_aload_n dX3_part_24 rfl ?_
          refine g_getr (T := TX3) (N := 4) (Cn := RX3) (ref := "CommitCouncil$Mail") 3 dX3_part_25 (cIn_lo (by decide)) cSh_4 rfl (fun w h => List.mem_cons_of_mem _ (hU3 w h)) (by decide) (List.mem_cons_of_mem _ uw_1_126) (Or.inl rfl) rfl ?_
          refine g_iload_n dX3_part_28 rfl ?_
          refine g_aload_n dX3_part_29 rfl ?_
          refine g_get (T := TX3) (N := 4) (Cn := RX3) (ref := "CommitCouncil$Mail") 2 dX3_part_30 (cIn_lo (by decide)) cSh_4 rfl (fun w h => List.mem_cons_of_mem _ (hU3 w h)) (by decide) (List.mem_cons_of_mem _ uw_1_125) (Or.inl rfl) rfl ?_
          refine gEx.top (v := .inl (nI (6 + R))) (congrArg Sum.inl (hw)) ?_
          refine g_imul dX3_part_33 ?_
          refine gEx.top (v := .inl (nI ((k) * (6 + R)))) (congrArg Sum.inl (pk_mul _ _)) ?_
          refine g_iload_n dX3_part_34 rfl ?_
          refine g_iadd dX3_part_35 ?_
          refine gEx.top (v := .inl (nI ((k) * (6 + R) + j))) (congrArg Sum.inl (nI_add _ _)) ?_
          refine g_ialdN (n := 401 * (6 + R)) (j := (k) * (6 + R) + j) dX3_part_36 (cIn_lo (by decide)) cSh_5 (mlt (by omega) (by omega)) (by omega) ?_
          exact g_iret dX3_part_37 rfl (⟨rfl, rfl⟩)
        · skip
          rw [nI_ltI (by omega) (by omega)] at h19
          exact absurd h19 (by omega)

set_option maxRecDepth 100000 in
/-- part: another what -/
theorem c_partNo {R A : Nat} {σ : gSt} {n : Nat} (hn : σ 4 0 = nI n) (hw : σ 4 2 = nI (6 + R)) (hR : R ≤ 6) {k : Nat} {x : Int32} (hk : k < n) (hn4 : n ≤ 401) (hx : x < 0 ∨ nI 6 ≤ x) : gEM (cG R A) mX3_part 0 [.inr (4), .inl (nI (k)), .inl (x)] σ (gR (-1) (fun s => s = σ)) := by
  refine gEM_of (by decide +kernel) rfl (Nat.le_of_ble_eq_true rfl) ?_
  refine g_iload_n dX3_part_0 rfl ?_
  refine g_if_lt 22 dX3_part_1 (by decide) (fun h1 => ?_) (fun h1 => ?_)
  · skip
    rw [nI_n (by omega)] at h1
    exact h1.elim
  · skip
    rw [nI_n (by omega)] at h1
    refine g_iload_n dX3_part_4 rfl ?_
    refine g_aload_n dX3_part_5 rfl ?_
    refine g_get (T := TX3) (N := 4) (Cn := RX3) (ref := "CommitCouncil$Mail") 0 dX3_part_6 (cIn_lo (by decide)) cSh_4 rfl (fun w h => List.mem_cons_of_mem _ (hU3 w h)) (by decide) (List.mem_cons_of_mem _ uw_1_121) (Or.inl rfl) rfl ?_
    refine gEx.top (v := .inl (nI (n))) (congrArg Sum.inl (hn)) ?_
    refine g_icmp_ge 22 dX3_part_9 (by decide) (fun h9 => ?_) (fun h9 => ?_)
    · skip
      rw [nI_leI (by omega) (by omega)] at h9
      exact absurd h9 (by omega)
    · skip
      rw [nI_leI (by omega) (by omega)] at h9
      refine g_iload_n dX3_part_12 rfl ?_
      refine g_if_lt 22 dX3_part_13 (by decide) (fun h13 => ?_) (fun h13 => ?_)
      · skip
        refine g_iconst ((-1)) dX3_part_22 (by decide) ?_
        exact g_iret dX3_part_23 rfl (⟨rfl, rfl⟩)
      · skip
        refine g_iload_n dX3_part_16 rfl ?_
        refine g_bipush (nI (6)) dX3_part_17 (by decide) ?_
        refine g_icmp_lt 24 dX3_part_19 (by decide) (fun h19 => ?_) (fun h19 => ?_)
        · skip
          rcases hx with q | q
          · exact absurd q h13
          · exact absurd h19 (Int32.not_lt.mpr q)
        · skip
          refine g_iconst ((-1)) dX3_part_22 (by decide) ?_
          exact g_iret dX3_part_23 rfl (⟨rfl, rfl⟩)

set_option maxRecDepth 100000 in
/-- tidings -/
theorem c_tidings {R A : Nat} {σ : gSt} {n : Nat} (hn : σ 4 0 = nI n) (hw : σ 4 2 = nI (6 + R)) (hR : R ≤ 6) {k j : Nat} (hk : k < n) (hn4 : n ≤ 401) (hj : j < R) : gEM (cG R A) mX3_tidings 0 [.inr (4), .inl (nI (k)), .inl (nI (j))] σ (gR (σ 5 (k * (6 + R) + 6 + j)) (fun s => s = σ)) := by
  refine gEM_of (by decide +kernel) rfl (Nat.le_of_ble_eq_true rfl) ?_
  refine g_iload_n dX3_tidings_0 rfl ?_
  refine g_if_lt 27 dX3_tidings_1 (by decide) (fun h1 => ?_) (fun h1 => ?_)
  · skip
    rw [nI_n (by omega)] at h1
    exact h1.elim
  · skip
    rw [nI_n (by omega)] at h1
    refine g_iload_n dX3_tidings_4 rfl ?_
    refine g_aload_n dX3_tidings_5 rfl ?_
    refine g_get (T := TX3) (N := 4) (Cn := RX3) (ref := "CommitCouncil$Mail") 0 dX3_tidings_6 (cIn_lo (by decide)) cSh_4 rfl (fun w h => List.mem_cons_of_mem _ (hU3 w h)) (by decide) (List.mem_cons_of_mem _ uw_1_121) (Or.inl rfl) rfl ?_
    refine gEx.top (v := .inl (nI (n))) (congrArg Sum.inl (hn)) ?_
    refine g_icmp_ge 27 dX3_tidings_9 (by decide) (fun h9 => ?_) (fun h9 => ?_)
    · skip
      rw [nI_leI (by omega) (by omega)] at h9
      exact absurd h9 (by omega)
    · skip
      rw [nI_leI (by omega) (by omega)] at h9
      refine g_iload_n dX3_tidings_12 rfl ?_
      refine g_if_lt 27 dX3_tidings_13 (by decide) (fun h13 => ?_) (fun h13 => ?_)
      · skip
        rw [nI_n (by omega)] at h13
        exact h13.elim
      · skip
        rw [nI_n (by omega)] at h13
        refine g_iload_n dX3_tidings_16 rfl ?_
        refine g_aload_n dX3_tidings_17 rfl ?_
        refine g_get (T := TX3) (N := 4) (Cn := RX3) (ref := "CommitCouncil$Mail") 2 dX3_tidings_18 (cIn_lo (by decide)) cSh_4 rfl (fun w h => List.mem_cons_of_mem _ (hU3 w h)) (by decide) (List.mem_cons_of_mem _ uw_1_125) (Or.inl rfl) rfl ?_
        refine gEx.top (v := .inl (nI (6 + R))) (congrArg Sum.inl (hw)) ?_
        refine g_bipush (nI (6)) dX3_tidings_21 (by decide) ?_
        refine g_isub dX3_tidings_23 ?_
        refine gEx.top (v := .inl (nI (6 + R - (6)))) (congrArg Sum.inl (pk_sub (by omega))) ?_
        refine g_icmp_lt 29 dX3_tidings_24 (by decide) (fun h24 => ?_) (fun h24 => ?_)
        · skip
          rw [nI_ltI (by omega) (by omega)] at h24
          refine g_aload_n dX3_tidings_29 rfl ?_
          refine g_getr (T := TX3) (N := 4) (Cn := RX3) (ref := "CommitCouncil$Mail") 3 dX3_tidings_30 (cIn_lo (by decide)) cSh_4 rfl (fun w h => List.mem_cons_of_mem _ (hU3 w h)) (by decide) (List.mem_cons_of_mem _ uw_1_126) (Or.inl rfl) rfl ?_
          refine g_iload_n dX3_tidings_33 rfl ?_
          refine g_aload_n dX3_tidings_34 rfl ?_
          refine g_get (T := TX3) (N := 4) (Cn := RX3) (ref := "CommitCouncil$Mail") 2 dX3_tidings_35 (cIn_lo (by decide)) cSh_4 rfl (fun w h => List.mem_cons_of_mem _ (hU3 w h)) (by decide) (List.mem_cons_of_mem _ uw_1_125) (Or.inl rfl) rfl ?_
          refine gEx.top (v := .inl (nI (6 + R))) (congrArg Sum.inl (hw)) ?_
          refine g_imul dX3_tidings_38 ?_
          refine gEx.top (v := .inl (nI ((k) * (6 + R)))) (congrArg Sum.inl (pk_mul _ _)) ?_
          refine g_bipush (nI (6)) dX3_tidings_39 (by decide) ?_
          refine g_iadd dX3_tidings_41 ?_
          refine gEx.top (v := .inl (nI ((k) * (6 + R) + 6))) (congrArg Sum.inl (nI_add _ _)) ?_
          refine g_iload_n dX3_tidings_42 rfl ?_
          refine g_iadd dX3_tidings_43 ?_
          refine gEx.top (v := .inl (nI ((k) * (6 + R) + 6 + j))) (congrArg Sum.inl (nI_add _ _)) ?_
          refine g_ialdN (n := 401 * (6 + R)) (j := (k) * (6 + R) + 6 + j) dX3_tidings_44 (cIn_lo (by decide)) cSh_5 (by have := mlt (R := R) (j := 6 + j) (show k < 401 by omega) (by omega); omega) (by omega) ?_
          exact g_iret dX3_tidings_45 rfl (⟨rfl, rfl⟩)
        · skip
          rw [nI_ltI (by omega) (by omega)] at h24
          exact absurd h24 (by omega)

/-- the store behind a send -/
def sndσ (σ : gSt) (n w : Nat) (x0 x1 x2 x3 x4 x5 : Int32) : gSt := gup (gup (gup (gup (gup (gup (gup (gup σ 5 (n * w + 0) x0) 5 (n * w + 1) x1) 5 (n * w + 2) x2) 5 (n * w + 3) x3) 5 (n * w + 4) x4) 5 (n * w + 5) x5) 4 0 (nI (n + 1))) 4 1 (σ 4 1 + nI 1)

set_option maxRecDepth 100000 in
/-- send -/
theorem c_send {R A : Nat} {σ : gSt} {n : Nat} (hn : σ 4 0 = nI n) (hw : σ 4 2 = nI (6 + R)) (hR : R ≤ 6) (hn4 : n ≤ 400) {x0 x1 x2 x3 x4 x5 : Int32} : gEM (cG R A) mX3_send 0 [.inr (4), .inl (x0), .inl (x1), .inl (x2), .inl (x3), .inl (x4), .inl (x5)] σ (gV (fun s => s = sndσ σ n (6 + R) x0 x1 x2 x3 x4 x5)) := by
  refine gEM_of (by decide +kernel) rfl (Nat.le_of_ble_eq_true rfl) ?_
  refine g_aload_n dX3_send_0 rfl ?_
  refine g_get (T := TX3) (N := 4) (Cn := RX3) (ref := "CommitCouncil$Mail") 0 dX3_send_1 (cIn_lo (by decide)) cSh_4 rfl (fun w h => List.mem_cons_of_mem _ (hU3 w h)) (by decide) (List.mem_cons_of_mem _ uw_1_121) (Or.inl rfl) rfl ?_
  refine gEx.top (v := .inl (nI (n))) (congrArg Sum.inl (hn)) ?_
  refine g_sipush (nI (401)) dX3_send_4 (by decide) ?_
  refine g_icmp_lt 11 dX3_send_7 (by decide) (fun h7 => ?_) (fun h7 => ?_)
  · skip
    rw [nI_ltI (by omega) (by omega)] at h7
    refine g_aload_n dX3_send_11 rfl ?_
    refine g_get (T := TX3) (N := 4) (Cn := RX3) (ref := "CommitCouncil$Mail") 0 dX3_send_12 (cIn_lo (by decide)) cSh_4 rfl (fun w h => List.mem_cons_of_mem _ (hU3 w h)) (by decide) (List.mem_cons_of_mem _ uw_1_121) (Or.inl rfl) rfl ?_
    refine gEx.top (v := .inl (nI (n))) (congrArg Sum.inl (hn)) ?_
    refine g_aload_n dX3_send_15 rfl ?_
    refine g_get (T := TX3) (N := 4) (Cn := RX3) (ref := "CommitCouncil$Mail") 2 dX3_send_16 (cIn_lo (by decide)) cSh_4 rfl (fun w h => List.mem_cons_of_mem _ (hU3 w h)) (by decide) (List.mem_cons_of_mem _ uw_1_125) (Or.inl rfl) rfl ?_
    refine gEx.top (v := .inl (nI (6 + R))) (congrArg Sum.inl (hw)) ?_
    refine g_imul dX3_send_19 ?_
    refine gEx.top (v := .inl (nI ((n) * (6 + R)))) (congrArg Sum.inl (pk_mul _ _)) ?_
    refine g_istore dX3_send_20 (by decide) ?_
    refine g_aload_n dX3_send_22 rfl ?_
    refine g_getr (T := TX3) (N := 4) (Cn := RX3) (ref := "CommitCouncil$Mail") 3 dX3_send_23 (cIn_lo (by decide)) cSh_4 rfl (fun w h => List.mem_cons_of_mem _ (hU3 w h)) (by decide) (List.mem_cons_of_mem _ uw_1_126) (Or.inl rfl) rfl ?_
    refine g_iload dX3_send_26 rfl ?_
    refine g_iconst (nI (0)) dX3_send_28 (by decide) ?_
    refine g_iadd dX3_send_29 ?_
    refine gEx.top (v := .inl (nI ((n) * (6 + R) + 0))) (congrArg Sum.inl (nI_add _ _)) ?_
    refine g_iload_n dX3_send_30 rfl ?_
    refine g_iastN (n := 401 * (6 + R)) (j := (n) * (6 + R) + 0) dX3_send_31 (cIn_lo (by decide)) cSh_5 (mlt (by omega) (by omega)) (by omega) ?_
    refine g_aload_n dX3_send_32 rfl ?_
    refine g_getr (T := TX3) (N := 4) (Cn := RX3) (ref := "CommitCouncil$Mail") 3 dX3_send_33 (cIn_lo (by decide)) cSh_4 rfl (fun w h => List.mem_cons_of_mem _ (hU3 w h)) (by decide) (List.mem_cons_of_mem _ uw_1_126) (Or.inl rfl) rfl ?_
    refine g_iload dX3_send_36 rfl ?_
    refine g_iconst (nI (1)) dX3_send_38 (by decide) ?_
    refine g_iadd dX3_send_39 ?_
    refine gEx.top (v := .inl (nI ((n) * (6 + R) + 1))) (congrArg Sum.inl (nI_add _ _)) ?_
    refine g_iload_n dX3_send_40 rfl ?_
    refine g_iastN (n := 401 * (6 + R)) (j := (n) * (6 + R) + 1) dX3_send_41 (cIn_lo (by decide)) cSh_5 (mlt (by omega) (by omega)) (by omega) ?_
    refine g_aload_n dX3_send_42 rfl ?_
    refine g_getr (T := TX3) (N := 4) (Cn := RX3) (ref := "CommitCouncil$Mail") 3 dX3_send_43 (cIn_lo (by decide)) cSh_4 rfl (fun w h => List.mem_cons_of_mem _ (hU3 w h)) (by decide) (List.mem_cons_of_mem _ uw_1_126) (Or.inl rfl) rfl ?_
    refine g_iload dX3_send_46 rfl ?_
    refine g_iconst (nI (2)) dX3_send_48 (by decide) ?_
    refine g_iadd dX3_send_49 ?_
    refine gEx.top (v := .inl (nI ((n) * (6 + R) + 2))) (congrArg Sum.inl (nI_add _ _)) ?_
    refine g_iload_n dX3_send_50 rfl ?_
    refine g_iastN (n := 401 * (6 + R)) (j := (n) * (6 + R) + 2) dX3_send_51 (cIn_lo (by decide)) cSh_5 (mlt (by omega) (by omega)) (by omega) ?_
    refine g_aload_n dX3_send_52 rfl ?_
    refine g_getr (T := TX3) (N := 4) (Cn := RX3) (ref := "CommitCouncil$Mail") 3 dX3_send_53 (cIn_lo (by decide)) cSh_4 rfl (fun w h => List.mem_cons_of_mem _ (hU3 w h)) (by decide) (List.mem_cons_of_mem _ uw_1_126) (Or.inl rfl) rfl ?_
    refine g_iload dX3_send_56 rfl ?_
    refine g_iconst (nI (3)) dX3_send_58 (by decide) ?_
    refine g_iadd dX3_send_59 ?_
    refine gEx.top (v := .inl (nI ((n) * (6 + R) + 3))) (congrArg Sum.inl (nI_add _ _)) ?_
    refine g_iload dX3_send_60 rfl ?_
    refine g_iastN (n := 401 * (6 + R)) (j := (n) * (6 + R) + 3) dX3_send_62 (cIn_lo (by decide)) cSh_5 (mlt (by omega) (by omega)) (by omega) ?_
    refine g_aload_n dX3_send_63 rfl ?_
    refine g_getr (T := TX3) (N := 4) (Cn := RX3) (ref := "CommitCouncil$Mail") 3 dX3_send_64 (cIn_lo (by decide)) cSh_4 rfl (fun w h => List.mem_cons_of_mem _ (hU3 w h)) (by decide) (List.mem_cons_of_mem _ uw_1_126) (Or.inl rfl) rfl ?_
    refine g_iload dX3_send_67 rfl ?_
    refine g_iconst (nI (4)) dX3_send_69 (by decide) ?_
    refine g_iadd dX3_send_70 ?_
    refine gEx.top (v := .inl (nI ((n) * (6 + R) + 4))) (congrArg Sum.inl (nI_add _ _)) ?_
    refine g_iload dX3_send_71 rfl ?_
    refine g_iastN (n := 401 * (6 + R)) (j := (n) * (6 + R) + 4) dX3_send_73 (cIn_lo (by decide)) cSh_5 (mlt (by omega) (by omega)) (by omega) ?_
    refine g_aload_n dX3_send_74 rfl ?_
    refine g_getr (T := TX3) (N := 4) (Cn := RX3) (ref := "CommitCouncil$Mail") 3 dX3_send_75 (cIn_lo (by decide)) cSh_4 rfl (fun w h => List.mem_cons_of_mem _ (hU3 w h)) (by decide) (List.mem_cons_of_mem _ uw_1_126) (Or.inl rfl) rfl ?_
    refine g_iload dX3_send_78 rfl ?_
    refine g_iconst (nI (5)) dX3_send_80 (by decide) ?_
    refine g_iadd dX3_send_81 ?_
    refine gEx.top (v := .inl (nI ((n) * (6 + R) + 5))) (congrArg Sum.inl (nI_add _ _)) ?_
    refine g_iload dX3_send_82 rfl ?_
    refine g_iastN (n := 401 * (6 + R)) (j := (n) * (6 + R) + 5) dX3_send_84 (cIn_lo (by decide)) cSh_5 (mlt (by omega) (by omega)) (by omega) ?_
    refine g_aload_n dX3_send_85 rfl ?_
    refine g_dup dX3_send_86 ?_
    refine g_get (T := TX3) (N := 4) (Cn := RX3) (ref := "CommitCouncil$Mail") 0 dX3_send_87 (cIn_lo (by decide)) cSh_4 rfl (fun w h => List.mem_cons_of_mem _ (hU3 w h)) (by decide) (List.mem_cons_of_mem _ uw_1_121) (Or.inl rfl) rfl ?_
    refine gEx.top (v := .inl (nI (n))) (congrArg Sum.inl (hn)) ?_
    refine g_iconst (nI (1)) dX3_send_90 (by decide) ?_
    refine g_iadd dX3_send_91 ?_
    refine gEx.top (v := .inl (nI (n + 1))) (congrArg Sum.inl (nI_add _ _)) ?_
    refine g_put (T := TX3) (N := 4) (Cn := RX3) (ref := "CommitCouncil$Mail") (ty0 := tyX3) 0 dX3_send_92 (cIn_lo (by decide)) cSh_4 rfl (fun w h => List.mem_cons_of_mem _ (hU3 w h)) tyX3_ok nmX3 (by decide) (List.mem_cons_of_mem _ uw_1_121) (Or.inl rfl) rfl rfl rfl rfl ?_
    refine g_aload_n dX3_send_95 rfl ?_
    refine g_dup dX3_send_96 ?_
    refine g_get (T := TX3) (N := 4) (Cn := RX3) (ref := "CommitCouncil$Mail") 1 dX3_send_97 (cIn_lo (by decide)) cSh_4 rfl (fun w h => List.mem_cons_of_mem _ (hU3 w h)) (by decide) (List.mem_cons_of_mem _ uw_1_123) (Or.inl rfl) rfl ?_
    refine gEx.top (v := .inl (σ 4 1)) (congrArg Sum.inl (rfl)) ?_
    refine g_iconst (nI (1)) dX3_send_100 (by decide) ?_
    refine g_iadd dX3_send_101 ?_
    refine g_put (T := TX3) (N := 4) (Cn := RX3) (ref := "CommitCouncil$Mail") (ty0 := tyX3) 1 dX3_send_102 (cIn_lo (by decide)) cSh_4 rfl (fun w h => List.mem_cons_of_mem _ (hU3 w h)) tyX3_ok nmX3 (by decide) (List.mem_cons_of_mem _ uw_1_123) (Or.inl rfl) rfl rfl rfl rfl ?_
    exact g_vret dX3_send_105 rfl (⟨rfl, rfl⟩)
  · skip
    rw [nI_ltI (by omega) (by omega)] at h7
    exact absurd (show n < 401 by omega) h7

set_option maxRecDepth 100000 in
/-- remove -/
theorem c_remove {R A : Nat} {σ : gSt} {n : Nat} (hn : σ 4 0 = nI n) (hw : σ 4 2 = nI (6 + R)) (hR : R ≤ 6) {k : Nat} (hk : k < n) (hn4 : n ≤ 401) : gEM (cG R A) mX3_remove 0 [.inr (4), .inl (nI (k))] σ (gV (fun s => s = gup (gur σ 5 (va_cpy (σ 5) (σ 5) ((k + 1) * (6 + R)) (k * (6 + R)) ((n - 1 - k) * (6 + R)))) 4 0 (nI (n - 1)))) := by
  refine gEM_of (by decide +kernel) rfl (Nat.le_of_ble_eq_true rfl) ?_
  refine g_iload_n dX3_remove_0 rfl ?_
  refine g_if_lt 12 dX3_remove_1 (by decide) (fun h1 => ?_) (fun h1 => ?_)
  · skip
    rw [nI_n (by omega)] at h1
    exact h1.elim
  · skip
    rw [nI_n (by omega)] at h1
    refine g_iload_n dX3_remove_4 rfl ?_
    refine g_aload_n dX3_remove_5 rfl ?_
    refine g_get (T := TX3) (N := 4) (Cn := RX3) (ref := "CommitCouncil$Mail") 0 dX3_remove_6 (cIn_lo (by decide)) cSh_4 rfl (fun w h => List.mem_cons_of_mem _ (hU3 w h)) (by decide) (List.mem_cons_of_mem _ uw_1_121) (Or.inl rfl) rfl ?_
    refine gEx.top (v := .inl (nI (n))) (congrArg Sum.inl (hn)) ?_
    refine g_icmp_lt 13 dX3_remove_9 (by decide) (fun h9 => ?_) (fun h9 => ?_)
    · skip
      rw [nI_ltI (by omega) (by omega)] at h9
      refine g_aload_n dX3_remove_13 rfl ?_
      refine g_getr (T := TX3) (N := 4) (Cn := RX3) (ref := "CommitCouncil$Mail") 3 dX3_remove_14 (cIn_lo (by decide)) cSh_4 rfl (fun w h => List.mem_cons_of_mem _ (hU3 w h)) (by decide) (List.mem_cons_of_mem _ uw_1_126) (Or.inl rfl) rfl ?_
      refine g_iload_n dX3_remove_17 rfl ?_
      refine g_iconst (nI (1)) dX3_remove_18 (by decide) ?_
      refine g_iadd dX3_remove_19 ?_
      refine gEx.top (v := .inl (nI (k + 1))) (congrArg Sum.inl (nI_add _ _)) ?_
      refine g_aload_n dX3_remove_20 rfl ?_
      refine g_get (T := TX3) (N := 4) (Cn := RX3) (ref := "CommitCouncil$Mail") 2 dX3_remove_21 (cIn_lo (by decide)) cSh_4 rfl (fun w h => List.mem_cons_of_mem _ (hU3 w h)) (by decide) (List.mem_cons_of_mem _ uw_1_125) (Or.inl rfl) rfl ?_
      refine gEx.top (v := .inl (nI (6 + R))) (congrArg Sum.inl (hw)) ?_
      refine g_imul dX3_remove_24 ?_
      refine gEx.top (v := .inl (nI ((k + 1) * (6 + R)))) (congrArg Sum.inl (pk_mul _ _)) ?_
      refine g_aload_n dX3_remove_25 rfl ?_
      refine g_getr (T := TX3) (N := 4) (Cn := RX3) (ref := "CommitCouncil$Mail") 3 dX3_remove_26 (cIn_lo (by decide)) cSh_4 rfl (fun w h => List.mem_cons_of_mem _ (hU3 w h)) (by decide) (List.mem_cons_of_mem _ uw_1_126) (Or.inl rfl) rfl ?_
      refine g_iload_n dX3_remove_29 rfl ?_
      refine g_aload_n dX3_remove_30 rfl ?_
      refine g_get (T := TX3) (N := 4) (Cn := RX3) (ref := "CommitCouncil$Mail") 2 dX3_remove_31 (cIn_lo (by decide)) cSh_4 rfl (fun w h => List.mem_cons_of_mem _ (hU3 w h)) (by decide) (List.mem_cons_of_mem _ uw_1_125) (Or.inl rfl) rfl ?_
      refine gEx.top (v := .inl (nI (6 + R))) (congrArg Sum.inl (hw)) ?_
      refine g_imul dX3_remove_34 ?_
      refine gEx.top (v := .inl (nI ((k) * (6 + R)))) (congrArg Sum.inl (pk_mul _ _)) ?_
      refine g_aload_n dX3_remove_35 rfl ?_
      refine g_get (T := TX3) (N := 4) (Cn := RX3) (ref := "CommitCouncil$Mail") 0 dX3_remove_36 (cIn_lo (by decide)) cSh_4 rfl (fun w h => List.mem_cons_of_mem _ (hU3 w h)) (by decide) (List.mem_cons_of_mem _ uw_1_121) (Or.inl rfl) rfl ?_
      refine gEx.top (v := .inl (nI (n))) (congrArg Sum.inl (hn)) ?_
      refine g_iconst (nI (1)) dX3_remove_39 (by decide) ?_
      refine g_isub dX3_remove_40 ?_
      refine gEx.top (v := .inl (nI (n - (1)))) (congrArg Sum.inl (pk_sub (by omega))) ?_
      refine g_iload_n dX3_remove_41 rfl ?_
      refine g_isub dX3_remove_42 ?_
      refine gEx.top (v := .inl (nI (n - (1) - (k)))) (congrArg Sum.inl (pk_sub (by omega))) ?_
      refine g_aload_n dX3_remove_43 rfl ?_
      refine g_get (T := TX3) (N := 4) (Cn := RX3) (ref := "CommitCouncil$Mail") 2 dX3_remove_44 (cIn_lo (by decide)) cSh_4 rfl (fun w h => List.mem_cons_of_mem _ (hU3 w h)) (by decide) (List.mem_cons_of_mem _ uw_1_125) (Or.inl rfl) rfl ?_
      refine gEx.top (v := .inl (nI (6 + R))) (congrArg Sum.inl (hw)) ?_
      refine g_imul dX3_remove_47 ?_
      refine gEx.top (v := .inl (nI ((n - (1) - (k)) * (6 + R)))) (congrArg Sum.inl (pk_mul _ _)) ?_
      refine g_copyN (p := (k + 1) * (6 + R)) (q := (k) * (6 + R)) (c := (n - (1) - (k)) * (6 + R)) dX3_remove_48 (List.mem_cons_of_mem _ uw_2_222) (List.mem_cons_of_mem _ uw_2_224) (List.mem_cons_of_mem _ uw_2_223) (List.mem_cons_of_mem _ uw_1_16) (cIn_lo (by decide)) cSh_5 (cIn_lo (by decide)) cSh_5 (by rw [← Nat.add_mul]; exact mle (by omega)) (by rw [← Nat.add_mul]; exact mle (by omega)) (by omega) (by omega) ⟨by decide, by decide⟩ ?_
      refine g_aload_n dX3_remove_51 rfl ?_
      refine g_dup dX3_remove_52 ?_
      refine g_get (T := TX3) (N := 4) (Cn := RX3) (ref := "CommitCouncil$Mail") 0 dX3_remove_53 (cIn_lo (by decide)) cSh_4 rfl (fun w h => List.mem_cons_of_mem _ (hU3 w h)) (by decide) (List.mem_cons_of_mem _ uw_1_121) (Or.inl rfl) rfl ?_
      refine gEx.top (v := .inl (nI (n))) (congrArg Sum.inl (hn)) ?_
      refine g_iconst (nI (1)) dX3_remove_56 (by decide) ?_
      refine g_isub dX3_remove_57 ?_
      refine gEx.top (v := .inl (nI (n - (1)))) (congrArg Sum.inl (pk_sub (by omega))) ?_
      refine g_put (T := TX3) (N := 4) (Cn := RX3) (ref := "CommitCouncil$Mail") (ty0 := tyX3) 0 dX3_remove_58 (cIn_lo (by decide)) cSh_4 rfl (fun w h => List.mem_cons_of_mem _ (hU3 w h)) tyX3_ok nmX3 (by decide) (List.mem_cons_of_mem _ uw_1_121) (Or.inl rfl) rfl rfl rfl rfl ?_
      exact g_vret dX3_remove_61 rfl (⟨rfl, rfl⟩)
    · skip
      rw [nI_ltI (by omega) (by omega)] at h9
      exact absurd hk h9

set_option maxRecDepth 100000 in
/-- sendLike -/
theorem c_sendLike {R A : Nat} {σ : gSt} {n : Nat} (hn : σ 4 0 = nI n) (hw : σ 4 2 = nI (6 + R)) (hR : R ≤ 6) {k : Nat} (hk : k < n) (hn4 : n ≤ 400) : gEM (cG R A) mX3_sendLike 0 [.inr (4), .inl (nI (k))] σ (gV (fun s => s = gup (gup (gur σ 5 (va_cpy (σ 5) (σ 5) (k * (6 + R)) (n * (6 + R)) (6 + R))) 4 0 (nI (n + 1))) 4 1 (σ 4 1 + nI 1))) := by
  refine gEM_of (by decide +kernel) rfl (Nat.le_of_ble_eq_true rfl) ?_
  refine g_iload_n dX3_sendLike_0 rfl ?_
  refine g_if_lt 22 dX3_sendLike_1 (by decide) (fun h1 => ?_) (fun h1 => ?_)
  · skip
    rw [nI_n (by omega)] at h1
    exact h1.elim
  · skip
    rw [nI_n (by omega)] at h1
    refine g_iload_n dX3_sendLike_4 rfl ?_
    refine g_aload_n dX3_sendLike_5 rfl ?_
    refine g_get (T := TX3) (N := 4) (Cn := RX3) (ref := "CommitCouncil$Mail") 0 dX3_sendLike_6 (cIn_lo (by decide)) cSh_4 rfl (fun w h => List.mem_cons_of_mem _ (hU3 w h)) (by decide) (List.mem_cons_of_mem _ uw_1_121) (Or.inl rfl) rfl ?_
    refine gEx.top (v := .inl (nI (n))) (congrArg Sum.inl (hn)) ?_
    refine g_icmp_ge 22 dX3_sendLike_9 (by decide) (fun h9 => ?_) (fun h9 => ?_)
    · skip
      rw [nI_leI (by omega) (by omega)] at h9
      exact absurd h9 (by omega)
    · skip
      rw [nI_leI (by omega) (by omega)] at h9
      refine g_aload_n dX3_sendLike_12 rfl ?_
      refine g_get (T := TX3) (N := 4) (Cn := RX3) (ref := "CommitCouncil$Mail") 0 dX3_sendLike_13 (cIn_lo (by decide)) cSh_4 rfl (fun w h => List.mem_cons_of_mem _ (hU3 w h)) (by decide) (List.mem_cons_of_mem _ uw_1_121) (Or.inl rfl) rfl ?_
      refine gEx.top (v := .inl (nI (n))) (congrArg Sum.inl (hn)) ?_
      refine g_sipush (nI (401)) dX3_sendLike_16 (by decide) ?_
      refine g_icmp_lt 23 dX3_sendLike_19 (by decide) (fun h19 => ?_) (fun h19 => ?_)
      · skip
        rw [nI_ltI (by omega) (by omega)] at h19
        refine g_aload_n dX3_sendLike_23 rfl ?_
        refine g_getr (T := TX3) (N := 4) (Cn := RX3) (ref := "CommitCouncil$Mail") 3 dX3_sendLike_24 (cIn_lo (by decide)) cSh_4 rfl (fun w h => List.mem_cons_of_mem _ (hU3 w h)) (by decide) (List.mem_cons_of_mem _ uw_1_126) (Or.inl rfl) rfl ?_
        refine g_iload_n dX3_sendLike_27 rfl ?_
        refine g_aload_n dX3_sendLike_28 rfl ?_
        refine g_get (T := TX3) (N := 4) (Cn := RX3) (ref := "CommitCouncil$Mail") 2 dX3_sendLike_29 (cIn_lo (by decide)) cSh_4 rfl (fun w h => List.mem_cons_of_mem _ (hU3 w h)) (by decide) (List.mem_cons_of_mem _ uw_1_125) (Or.inl rfl) rfl ?_
        refine gEx.top (v := .inl (nI (6 + R))) (congrArg Sum.inl (hw)) ?_
        refine g_imul dX3_sendLike_32 ?_
        refine gEx.top (v := .inl (nI ((k) * (6 + R)))) (congrArg Sum.inl (pk_mul _ _)) ?_
        refine g_aload_n dX3_sendLike_33 rfl ?_
        refine g_getr (T := TX3) (N := 4) (Cn := RX3) (ref := "CommitCouncil$Mail") 3 dX3_sendLike_34 (cIn_lo (by decide)) cSh_4 rfl (fun w h => List.mem_cons_of_mem _ (hU3 w h)) (by decide) (List.mem_cons_of_mem _ uw_1_126) (Or.inl rfl) rfl ?_
        refine g_aload_n dX3_sendLike_37 rfl ?_
        refine g_get (T := TX3) (N := 4) (Cn := RX3) (ref := "CommitCouncil$Mail") 0 dX3_sendLike_38 (cIn_lo (by decide)) cSh_4 rfl (fun w h => List.mem_cons_of_mem _ (hU3 w h)) (by decide) (List.mem_cons_of_mem _ uw_1_121) (Or.inl rfl) rfl ?_
        refine gEx.top (v := .inl (nI (n))) (congrArg Sum.inl (hn)) ?_
        refine g_aload_n dX3_sendLike_41 rfl ?_
        refine g_get (T := TX3) (N := 4) (Cn := RX3) (ref := "CommitCouncil$Mail") 2 dX3_sendLike_42 (cIn_lo (by decide)) cSh_4 rfl (fun w h => List.mem_cons_of_mem _ (hU3 w h)) (by decide) (List.mem_cons_of_mem _ uw_1_125) (Or.inl rfl) rfl ?_
        refine gEx.top (v := .inl (nI (6 + R))) (congrArg Sum.inl (hw)) ?_
        refine g_imul dX3_sendLike_45 ?_
        refine gEx.top (v := .inl (nI ((n) * (6 + R)))) (congrArg Sum.inl (pk_mul _ _)) ?_
        refine g_aload_n dX3_sendLike_46 rfl ?_
        refine g_get (T := TX3) (N := 4) (Cn := RX3) (ref := "CommitCouncil$Mail") 2 dX3_sendLike_47 (cIn_lo (by decide)) cSh_4 rfl (fun w h => List.mem_cons_of_mem _ (hU3 w h)) (by decide) (List.mem_cons_of_mem _ uw_1_125) (Or.inl rfl) rfl ?_
        refine gEx.top (v := .inl (nI (6 + R))) (congrArg Sum.inl (hw)) ?_
        refine g_copyN (p := (k) * (6 + R)) (q := (n) * (6 + R)) (c := 6 + R) dX3_sendLike_50 (List.mem_cons_of_mem _ uw_2_222) (List.mem_cons_of_mem _ uw_2_224) (List.mem_cons_of_mem _ uw_2_223) (List.mem_cons_of_mem _ uw_1_16) (cIn_lo (by decide)) cSh_5 (cIn_lo (by decide)) cSh_5 (by have := mle (R := R) (show k + 1 ≤ 401 by omega); rw [Nat.add_mul, Nat.one_mul] at this; exact this) (by have := mle (R := R) (show n + 1 ≤ 401 by omega); rw [Nat.add_mul, Nat.one_mul] at this; exact this) (by omega) (by omega) ⟨by decide, by decide⟩ ?_
        refine g_aload_n dX3_sendLike_53 rfl ?_
        refine g_dup dX3_sendLike_54 ?_
        refine g_get (T := TX3) (N := 4) (Cn := RX3) (ref := "CommitCouncil$Mail") 0 dX3_sendLike_55 (cIn_lo (by decide)) cSh_4 rfl (fun w h => List.mem_cons_of_mem _ (hU3 w h)) (by decide) (List.mem_cons_of_mem _ uw_1_121) (Or.inl rfl) rfl ?_
        refine gEx.top (v := .inl (nI (n))) (congrArg Sum.inl (hn)) ?_
        refine g_iconst (nI (1)) dX3_sendLike_58 (by decide) ?_
        refine g_iadd dX3_sendLike_59 ?_
        refine gEx.top (v := .inl (nI (n + 1))) (congrArg Sum.inl (nI_add _ _)) ?_
        refine g_put (T := TX3) (N := 4) (Cn := RX3) (ref := "CommitCouncil$Mail") (ty0 := tyX3) 0 dX3_sendLike_60 (cIn_lo (by decide)) cSh_4 rfl (fun w h => List.mem_cons_of_mem _ (hU3 w h)) tyX3_ok nmX3 (by decide) (List.mem_cons_of_mem _ uw_1_121) (Or.inl rfl) rfl rfl rfl rfl ?_
        refine g_aload_n dX3_sendLike_63 rfl ?_
        refine g_dup dX3_sendLike_64 ?_
        refine g_get (T := TX3) (N := 4) (Cn := RX3) (ref := "CommitCouncil$Mail") 1 dX3_sendLike_65 (cIn_lo (by decide)) cSh_4 rfl (fun w h => List.mem_cons_of_mem _ (hU3 w h)) (by decide) (List.mem_cons_of_mem _ uw_1_123) (Or.inl rfl) rfl ?_
        refine gEx.top (v := .inl (σ 4 1)) (congrArg Sum.inl (rfl)) ?_
        refine g_iconst (nI (1)) dX3_sendLike_68 (by decide) ?_
        refine g_iadd dX3_sendLike_69 ?_
        refine g_put (T := TX3) (N := 4) (Cn := RX3) (ref := "CommitCouncil$Mail") (ty0 := tyX3) 1 dX3_sendLike_70 (cIn_lo (by decide)) cSh_4 rfl (fun w h => List.mem_cons_of_mem _ (hU3 w h)) tyX3_ok nmX3 (by decide) (List.mem_cons_of_mem _ uw_1_123) (Or.inl rfl) rfl rfl rfl rfl ?_
        exact g_vret dX3_sendLike_73 rfl (⟨rfl, rfl⟩)
      · skip
        rw [nI_ltI (by omega) (by omega)] at h19
        exact absurd (show n < 401 by omega) h19

set_option maxRecDepth 100000 in
/-- attach -/
theorem c_attach {R A : Nat} {σ : gSt} {n : Nat} (hn : σ 4 0 = nI n) (hw : σ 4 2 = nI (6 + R)) (hR : R ≤ 6) {a : Nat} (ha : a < A) (hA : A ≤ 5) (hn1 : 1 ≤ n) (hn4 : n ≤ 401) : gEM (cG R A) mX3_attach 0 [.inr (4), .inr (30 + a)] σ (gV (fun s => s = gur σ 5 (va_cpy (σ (30 + a)) (σ 5) 0 ((n - 1) * (6 + R) + 6) R))) := by
  refine gEM_of (by decide +kernel) rfl (Nat.le_of_ble_eq_true rfl) ?_
  refine g_aload_n dX3_attach_0 rfl ?_
  refine g_get (T := TX3) (N := 4) (Cn := RX3) (ref := "CommitCouncil$Mail") 0 dX3_attach_1 (cIn_lo (by decide)) cSh_4 rfl (fun w h => List.mem_cons_of_mem _ (hU3 w h)) (by decide) (List.mem_cons_of_mem _ uw_1_121) (Or.inl rfl) rfl ?_
  refine gEx.top (v := .inl (nI (n))) (congrArg Sum.inl (hn)) ?_
  refine g_if_le 44 dX3_attach_4 (by decide) (fun h4 => ?_) (fun h4 => ?_)
  · skip
    rw [nI_np (by omega)] at h4
    exact absurd h4 (by omega)
  · skip
    rw [nI_np (by omega)] at h4
    refine g_aload_n dX3_attach_7 rfl ?_
    refine g_alen (nI (R)) dX3_attach_8 (cIn_b ha) (cSh_b (by omega)) (by decide) rfl ?_
    refine g_aload_n dX3_attach_9 rfl ?_
    refine g_get (T := TX3) (N := 4) (Cn := RX3) (ref := "CommitCouncil$Mail") 2 dX3_attach_10 (cIn_lo (by decide)) cSh_4 rfl (fun w h => List.mem_cons_of_mem _ (hU3 w h)) (by decide) (List.mem_cons_of_mem _ uw_1_125) (Or.inl rfl) rfl ?_
    refine gEx.top (v := .inl (nI (6 + R))) (congrArg Sum.inl (hw)) ?_
    refine g_bipush (nI (6)) dX3_attach_13 (by decide) ?_
    refine g_isub dX3_attach_15 ?_
    refine gEx.top (v := .inl (nI (6 + R - (6)))) (congrArg Sum.inl (pk_sub (by omega))) ?_
    refine g_icmp_gt 44 dX3_attach_16 (by decide) (fun h16 => ?_) (fun h16 => ?_)
    · skip
      rw [nI_ltI (by omega) (by omega)] at h16
      exact absurd h16 (by omega)
    · skip
      rw [nI_ltI (by omega) (by omega)] at h16
      refine g_aload_n dX3_attach_19 rfl ?_
      refine g_iconst (nI (0)) dX3_attach_20 (by decide) ?_
      refine g_aload_n dX3_attach_21 rfl ?_
      refine g_getr (T := TX3) (N := 4) (Cn := RX3) (ref := "CommitCouncil$Mail") 3 dX3_attach_22 (cIn_lo (by decide)) cSh_4 rfl (fun w h => List.mem_cons_of_mem _ (hU3 w h)) (by decide) (List.mem_cons_of_mem _ uw_1_126) (Or.inl rfl) rfl ?_
      refine g_aload_n dX3_attach_25 rfl ?_
      refine g_get (T := TX3) (N := 4) (Cn := RX3) (ref := "CommitCouncil$Mail") 0 dX3_attach_26 (cIn_lo (by decide)) cSh_4 rfl (fun w h => List.mem_cons_of_mem _ (hU3 w h)) (by decide) (List.mem_cons_of_mem _ uw_1_121) (Or.inl rfl) rfl ?_
      refine gEx.top (v := .inl (nI (n))) (congrArg Sum.inl (hn)) ?_
      refine g_iconst (nI (1)) dX3_attach_29 (by decide) ?_
      refine g_isub dX3_attach_30 ?_
      refine gEx.top (v := .inl (nI (n - (1)))) (congrArg Sum.inl (pk_sub (by omega))) ?_
      refine g_aload_n dX3_attach_31 rfl ?_
      refine g_get (T := TX3) (N := 4) (Cn := RX3) (ref := "CommitCouncil$Mail") 2 dX3_attach_32 (cIn_lo (by decide)) cSh_4 rfl (fun w h => List.mem_cons_of_mem _ (hU3 w h)) (by decide) (List.mem_cons_of_mem _ uw_1_125) (Or.inl rfl) rfl ?_
      refine gEx.top (v := .inl (nI (6 + R))) (congrArg Sum.inl (hw)) ?_
      refine g_imul dX3_attach_35 ?_
      refine gEx.top (v := .inl (nI ((n - (1)) * (6 + R)))) (congrArg Sum.inl (pk_mul _ _)) ?_
      refine g_bipush (nI (6)) dX3_attach_36 (by decide) ?_
      refine g_iadd dX3_attach_38 ?_
      refine gEx.top (v := .inl (nI ((n - (1)) * (6 + R) + 6))) (congrArg Sum.inl (nI_add _ _)) ?_
      refine g_aload_n dX3_attach_39 rfl ?_
      refine g_alen (nI (R)) dX3_attach_40 (cIn_b ha) (cSh_b (by omega)) (by decide) rfl ?_
      refine g_copyN (p := 0) (q := (n - (1)) * (6 + R) + 6) (c := R) dX3_attach_41 (List.mem_cons_of_mem _ uw_2_222) (List.mem_cons_of_mem _ uw_2_224) (List.mem_cons_of_mem _ uw_2_223) (List.mem_cons_of_mem _ uw_1_16) (cIn_b ha) (cSh_b (by omega)) (cIn_lo (by decide)) cSh_5 (by omega) (by have := mle (R := R) (show (n - 1) + 1 ≤ 401 by omega); rw [Nat.add_mul, Nat.one_mul] at this; omega) (by omega) (by omega) ⟨by decide, by decide⟩ ?_
      exact g_vret dX3_attach_44 rfl (⟨rfl, rfl⟩)
