/-! THE LAW'S LOOP -/
section QLOOP
variable {p : Program} {l : Launch} {e : Env} {s : State} {m : MethodId} {args : Array Value} {below : List Frame} {meth : Method} {c : Code} {D : va_G} {cy : Nat → ClassId} {cl : ClassId} {ad1 ad2 : Nat → Nat} {o R A b L : Nat} {xs : Nat → Int32}
theorem law_le {L i : Nat} (hL : L ≤ 2050) (hi : i ≤ 4000) : ¬ (nI L - nI 4 < nI i) → i + 4 ≤ L := by
  intro h
  by_cases h4 : L < 4
  · exfalso
    refine h (Int32.lt_of_lt_of_le (b := nI 0) ?_ ?_)
    · rcases (show L = 0 ∨ L = 1 ∨ L = 2 ∨ L = 3 by omega) with e | e | e | e <;> subst e <;> decide
    · exact (nI_leI (by omega) (by omega)).mpr (by omega)
  · rw [pk_sub (by omega), nI_ltI (by omega) (by omega)] at h
    omega
theorem q_loop (C : qCx p l s m args meth c D cy cl ad1 ad2 o R A b L xs) (hL : L ≤ 2050) (hRA : pRA R A) : ∀ (k j : Nat), j ≤ 512 → 512 - j < k → ∀ (s0 : pT) (σ1 σ2 : gSt) (f : Int64), pInv R A (3 * j) s0 → cRel R A s0 σ1 → mRel R A (s0.1 1 1 0) s0 σ2 → qEx p l e s m args below meth c D cy cl ad1 ad2 o R A (512 - j) 43 [(0, Value.ref b), (1, Value.ref (ad1 0)), (2, Value.ref (ad2 0)), (3, Value.ref o), (4, Value.int (nI (2 + 4 * j)))] [] σ1 σ2 f := by
  intro k
  induction k with
  | zero => intro j h1 h2; exact absurd h2 (by omega)
  | succ k ih =>
    intro j hj1 hj2 s0 σ1 σ2 f hI hc hm
    refine q_iload C dL_law_43 (List.mem_of_getElem? (i := 4) rfl) ?_
    refine q_aload_n C dL_law_45 (List.mem_of_getElem? (i := 0) rfl) ?_
    refine q_slen C dL_law_46 ?_
    refine q_iconst C (nI 4) dL_law_47 (by decide) ?_
    refine q_isub C dL_law_48 ?_
    refine q_icmp_gt C 1446 dL_law_49 (by decide) (fun h => ?_) (fun h => ?_)
    · refine q_iconst C 1 dL_law_1446 (by decide) ?_
      exact q_end C dL_law_1447
    · have hi9 : 2 + 4 * j + 4 ≤ L := law_le hL (by omega) h
      have hT : 3 * j + 3 ≤ 1536 := by omega
      refine q_aload_n C dL_law_52 (List.mem_of_getElem? (i := 0) rfl) ?_
      refine q_iload C dL_law_53 (List.mem_of_getElem? (i := 4) rfl) ?_
      refine q_sld C hL (j := 2 + 4 * j) (by omega) dL_law_55 ?_
      refine q_bipush C (nI 31) dL_law_56 (by decide) ?_
      refine q_iand C dL_law_58 ?_
      have hN : qNext p l e s m args below meth c D cy cl ad1 ad2 o R A b (512 - (j + 1)) (3 * j) (2 + 4 * j) := by
        intro s' σ1' σ2' f' hI' hc' hm'
        refine q_iinc C (nI (2 + 4 * j + 4)) [(4, Value.int (nI (2 + 4 * j + 4))), (0, Value.ref b), (1, Value.ref (ad1 0)), (2, Value.ref (ad2 0)), (3, Value.ref o)] dL_law_1440 (List.mem_of_getElem? (i := 4) rfl) (show nI (2 + 4 * j) + nI 4 = _ from nI_add _ _) (by decide) rfl ?_
        refine q_goto C 43 dL_law_1443 (by decide) ?_
        refine q_lv (fun q hq => ?_) (ih (j + 1) (by omega) (by omega) s' σ1' σ2' f' hI' hc' hm')
        have e4 : 2 + 4 * (j + 1) = 2 + 4 * j + 4 := by omega
        rw [e4] at hq
        simp at hq ⊢
        rcases hq with h | h | h | h | h <;> simp [h]
      refine q_bud (bc' := 512 - (j + 1) + 1) (by omega) ?_
      rcases sw_cases (n := 21) (by decide) (xs (2 + 4 * j) &&& nI 31) with ⟨k9, hk9, ek⟩ | hout
      · rcases (show k9 = 0 ∨ k9 = 1 ∨ k9 = 2 ∨ k9 = 3 ∨ k9 = 4 ∨ k9 = 5 ∨ k9 = 6 ∨ k9 = 7 ∨ k9 = 8 ∨ k9 = 9 ∨ k9 = 10 ∨ k9 = 11 ∨ k9 = 12 ∨ k9 = 13 ∨ k9 = 14 ∨ k9 = 15 ∨ k9 = 16 ∨ k9 = 17 ∨ k9 = 18 ∨ k9 = 19 ∨ k9 = 20 by omega) with e9 | e9 | e9 | e9 | e9 | e9 | e9 | e9 | e9 | e9 | e9 | e9 | e9 | e9 | e9 | e9 | e9 | e9 | e9 | e9 | e9 <;> subst e9
        · rw [ek]
          refine q_tableIn C (off := 97) 156 dL_law_59 (by decide) (by decide) (by decide) (by decide) ?_
          exact q_prepare C hL hi9 hRA hI hT hc hm hN
        · rw [ek]
          refine q_tableIn C (off := 160) 219 dL_law_59 (by decide) (by decide) (by decide) (by decide) ?_
          exact q_refuse C hL hi9 hRA hI hT hc hm hN
        · rw [ek]
          refine q_tableIn C (off := 223) 282 dL_law_59 (by decide) (by decide) (by decide) (by decide) ?_
          exact q_resend C hL hi9 hRA hI hT hc hm hN
        · rw [ek]
          refine q_tableIn C (off := 286) 345 dL_law_59 (by decide) (by decide) (by decide) (by decide) ?_
          exact q_question C hL hi9 hRA hI hT hc hm hN
        · rw [ek]
          refine q_tableIn C (off := 349) 408 dL_law_59 (by decide) (by decide) (by decide) (by decide) ?_
          exact q_begin C hL hi9 hRA hI hT hc hm hN
        · rw [ek]
          refine q_tableIn C (off := 405) 464 dL_law_59 (by decide) (by decide) (by decide) (by decide) ?_
          exact q_deliver C hL hi9 hRA hI hT hc hm hN
        · rw [ek]
          refine q_tableIn C (off := 461) 520 dL_law_59 (by decide) (by decide) (by decide) (by decide) ?_
          exact q_drop C hL hi9 hRA hI hT hc hm hN
        · rw [ek]
          refine q_tableIn C (off := 497) 556 dL_law_59 (by decide) (by decide) (by decide) (by decide) ?_
          exact q_copy C hL hi9 hRA hI hT hc hm hN
        · rw [ek]
          refine q_tableIn C (off := 553) 612 dL_law_59 (by decide) (by decide) (by decide) (by decide) ?_
          exact q_calm C hL hi9 hRA hI hT hc hm hN
        · rw [ek]
          refine q_tableIn C (off := 609) 668 dL_law_59 (by decide) (by decide) (by decide) (by decide) ?_
          exact q_crash C hL hi9 hRA hI hT hc hm hN
        · rw [ek]
          refine q_tableIn C (off := 684) 743 dL_law_59 (by decide) (by decide) (by decide) (by decide) ?_
          exact q_recover C hL hi9 hRA hI hT hc hm hN
        · rw [ek]
          refine q_tableIn C (off := 759) 818 dL_law_59 (by decide) (by decide) (by decide) (by decide) ?_
          exact q_message C hL hi9 hRA hI hT hc hm hN
        · rw [ek]
          refine q_tableIn C (off := 827) 886 dL_law_59 (by decide) (by decide) (by decide) (by decide) ?_
          exact q_told C hL hi9 hRA hI hT hc hm hN
        · rw [ek]
          refine q_tableIn C (off := 923) 982 dL_law_59 (by decide) (by decide) (by decide) (by decide) ?_
          exact q_manager C hL hi9 hRA hI hT hc hm hN
        · rw [ek]
          refine q_tableIn C (off := 991) 1050 dL_law_59 (by decide) (by decide) (by decide) (by decide) ?_
          exact q_acceptor C hL hi9 hRA hI hT hc hm hN
        · rw [ek]
          refine q_tableIn C (off := 1071) 1130 dL_law_59 (by decide) (by decide) (by decide) (by decide) ?_
          exact q_leader C hL hi9 hRA hI hT hc hm hN
        · rw [ek]
          refine q_tableIn C (off := 1139) 1198 dL_law_59 (by decide) (by decide) (by decide) (by decide) ?_
          exact q_outcome C hL hi9 hRA hI hT hc hm hN
        · rw [ek]
          refine q_tableIn C (off := 1207) 1266 dL_law_59 (by decide) (by decide) (by decide) (by decide) ?_
          exact q_seen C hL hi9 hRA hI hT hc hm hN
        · rw [ek]
          refine q_tableIn C (off := 1287) 1346 dL_law_59 (by decide) (by decide) (by decide) (by decide) ?_
          exact q_chosen C hL hi9 hRA hI hT hc hm hN
        · rw [ek]
          refine q_tableIn C (off := 1343) 1402 dL_law_59 (by decide) (by decide) (by decide) (by decide) ?_
          exact q_count C hL hi9 hRA hI hT hc hm hN
        · rw [ek]
          refine q_tableIn C (off := 1368) 1427 dL_law_59 (by decide) (by decide) (by decide) (by decide) ?_
          exact q_astray C hL hi9 hRA hI hT hc hm hN
      · refine q_tableOut C 1440 dL_law_59 (sw_out (n := 20) (by decide) hout) (by decide) ?_
        exact q_bud (by omega) (hN s0 σ1 σ2 f (pInv_mono hRA (by omega) hI) hc hm)
end QLOOP
theorem law_RA (x y : Int32) : ∃ R A, pRA R A ∧ (((¬ x < nI 1) ∧ (¬ nI 6 < x) → x = nI R) ∧ (x < nI 1 ∨ nI 6 < x → R = 3)) ∧ ((y = nI 2 → A = 5) ∧ (¬ y = nI 2 → A = 3)) := by
  have hA : ∃ A, (A = 3 ∨ A = 5) ∧ ((y = nI 2 → A = 5) ∧ (¬ y = nI 2 → A = 3)) := by
    by_cases h : y = nI 2
    · exact ⟨5, Or.inr rfl, fun _ => rfl, fun q => absurd h q⟩
    · exact ⟨3, Or.inl rfl, fun q => absurd q h, fun _ => rfl⟩
  obtain ⟨A, hA1, hA2⟩ := hA
  by_cases h : x < nI 1 ∨ nI 6 < x
  · exact ⟨3, A, ⟨by decide, by decide, hA1⟩, ⟨fun q => (h.elim q.1 q.2).elim, fun _ => rfl⟩, hA2⟩
  · rcases sw_cases (n := 7) (by decide) x with ⟨k, hk, rfl⟩ | q
    · have hk1 : ¬ k < 1 := fun z => h (Or.inl ((nI_ltI (by omega) (by omega)).mpr z))
      exact ⟨k, A, ⟨by omega, by omega, hA1⟩, ⟨fun _ => rfl, fun q => absurd q h⟩, hA2⟩
    · exfalso
      rcases q with q | q
      · exact h (Or.inl (Int32.lt_of_lt_of_le q (by decide)))
      · exact h (Or.inr (Int32.lt_of_lt_of_le (show nI 6 < nI 7 by decide) q))
/-! WHAT HOLDS AT THE ENTRY -/
theorem law_arr {s : State} {args : Array Value} {ty : FieldType} (h : (Cond.arrayClass ty).before args s = true) : ∃ c, ArrOfT s c ty ∧ s.vm.findClass ("[" ++ ty.toString) = some c := by
  obtain ⟨c, k, comp, h1, h2, h3⟩ := Cond.arrayClass_spec h
  exact ⟨c, fun N z => ⟨(fun k h => by cases h), k, h2, comp, h3⟩, h1⟩
theorem law_arq {s : State} {args : Array Value} {C : String} (h : (Cond.arrayOver (.object C)).before args s = true) : ∃ c, ArrOfT s c (.object C) ∧ va_RA s c (.object C) := by
  obtain ⟨comp, c, k, h1, h2, h3, h4, h5⟩ := Cond.arrayOver_spec h
  exact ⟨c, fun N z => ⟨(fun k h => by cases h), k, h3, comp, h4⟩, k, comp, h3, h4, h1, h5⟩
theorem law_K {s : State} {args : Array Value} (hts : ∀ w ∈ lw_tbl, w.before args s = true) : ∃ (D : va_G) (cy : Nat → ClassId) (cl : ClassId), lK D cy cl s := by
  have hU : ∀ w ∈ wsU, w.before args s = true := fun w h => hts w (wsU_in h)
  obtain ⟨c0, i0, k0⟩ := u_known hU hU0 (hU _ uw_1_56)
  obtain ⟨c1, i1, k1⟩ := u_known hU hU1 (hU _ uw_1_74)
  obtain ⟨c2, i2, k2⟩ := u_known hU hU2 (hU _ uw_1_137)
  obtain ⟨c3, i3, k3⟩ := u_known hU hU3 (hU _ uw_1_116)
  obtain ⟨c4, i4, k4⟩ := u_known hU hU4 (hU _ uw_1_28)
  obtain ⟨c5, i5, k5⟩ := u_known hU hU6 (hU _ uw_1_19)
  obtain ⟨c6, i6, k6⟩ := u_known hU hU7 (hU _ uw_3_116)
  obtain ⟨a0, x0, y0⟩ := law_arr (hU _ uw_1_71)
  obtain ⟨a1, x1, y1⟩ := law_arr (hU _ uw_1_157)
  obtain ⟨a6, x6, y6⟩ := law_arr (hU _ uw_4_157)
  obtain ⟨a2, x2, y2⟩ := law_arq (C := RX0) (hts _ (by decide +kernel))
  obtain ⟨a3, x3, y3⟩ := law_arq (C := RX1) (hts _ (by decide +kernel))
  obtain ⟨a4, x4, y4⟩ := law_arq (C := RX4) (hts _ (by decide +kernel))
  obtain ⟨cm, a5, kA, h1, h2, h3, h4⟩ := Cond.arrayOver_specA (t := .boolean) (hts _ (by decide +kernel))
  refine ⟨(fun k => match k with | 0 => c0 | 1 => c1 | 2 => c2 | 3 => c3 | 4 => c4 | 5 => c5 | _ => c6, fun k => match k with | 0 => i0 | 1 => i1 | 2 => i2 | 3 => i3 | 4 => i4 | 5 => i5 | _ => i6), fun k => match k with | 0 => a0 | 1 => a1 | 2 => a2 | 3 => a3 | 4 => a4 | _ => a5, a6, fun k q hq => ?_, fun k q hq => ?_⟩
  · have hk : k < 7 := (List.getElem?_eq_some_iff.mp hq).1
    rcases (show k = 0 ∨ k = 1 ∨ k = 2 ∨ k = 3 ∨ k = 4 ∨ k = 5 ∨ k = 6 by omega) with h | h | h | h | h | h | h <;> subst h <;> cases hq
    · exact k0
    · exact k1
    · exact k2
    · exact k3
    · exact k4
    · exact k5
    · exact k6
  · have hk : k < 7 := (List.getElem?_eq_some_iff.mp hq).1
    rcases (show k = 0 ∨ k = 1 ∨ k = 2 ∨ k = 3 ∨ k = 4 ∨ k = 5 ∨ k = 6 by omega) with h | h | h | h | h | h | h <;> subst h <;> cases hq
    · exact ⟨x0, y0⟩
    · exact ⟨x1, y1⟩
    · exact ⟨x2, y2⟩
    · exact ⟨x3, y3⟩
    · exact ⟨x4, y4⟩
    · exact ⟨fun N z => ⟨(fun k h => by cases h), kA, h2, cm, h3⟩, h4⟩
    · exact ⟨x6, y6⟩
theorem law_str {s : State} {args : Array Value} {k : Nat} {tx : String} {cur : Nat} (hc : s.vm.findClass RX6 = some cur) (h : (Cond.stringRef RX6 k tx).before args s = true) : ∃ a, vk_R RX6 k tx a s := by
  obtain ⟨_, _, _, a, -, -, -, -, -, h6⟩ := Cond.stringRef_spec hc h
  exact ⟨a, vk_R.of h h6⟩
theorem law_nest : ∀ w ∈ gNest, w ∈ lw_tbl := by decide +kernel
theorem law_cast : ∀ w ∈ gCast, w ∈ lw_tbl := by decide +kernel
theorem law_env {s : State} {args : Array Value} (hts : ∀ w ∈ lw_tbl, w.before args s = true) (hgv : (Jvm.Cond.and given_1 narrow_1).before args s = true) {D : va_G} {cy : Nat → ClassId} (hK : va_K D vwCl (gtys cy) s) : lEnv (fun q => s.heap.size ≤ q) s s.heap := by
  have hs := flat_of_before _ hgv
  have hc := (hK.1 5 (RX6, TX6, 7) rfl).2.1
  refine ⟨⟨fun w hw => ?_, fun w hw => ?_, law_str hc (hts _ (by decide +kernel)), law_str hc (hts _ (by decide +kernel)), law_str hc (hts _ (by decide +kernel)), vx_Zqof (hts _ (by decide +kernel)) (hts _ (by decide +kernel)) (hs _ (by decide +kernel)) (fun a h => Nat.not_le.mpr h), vx_Zqof (hts _ (by decide +kernel)) (hts _ (by decide +kernel)) (hs _ (by decide +kernel)) (fun a h => Nat.not_le.mpr h)⟩, va_Nc.of (hs _ (by decide +kernel))⟩
  · have h0 := hts w (law_nest w hw)
    unfold gNest at hw
    simp only [List.mem_cons, List.not_mem_nil, or_false] at hw
    rcases hw with rfl | rfl | rfl | rfl | rfl | rfl | rfl <;> exact va_Nw.of rfl h0
  · have h0 := hts w (law_cast w hw)
    unfold gCast at hw
    simp only [List.mem_cons, List.not_mem_nil, or_false] at hw
    rcases hw with rfl | rfl | rfl | rfl | rfl <;> exact va_Nw.of rfl h0
theorem law_kenv {s : State} {args : Array Value} (hts : ∀ w ∈ lw_tbl, w.before args s = true) : kEnv s := by
  refine ⟨fun w hw => ?_, va_AO.of (hts _ (by decide +kernel)), va_AO.of (hts _ (by decide +kernel)), va_AO.of (hts _ (by decide +kernel)), ?_⟩
  · have h0 := hts w (law_nest w hw)
    unfold gNest at hw
    simp only [List.mem_cons, List.not_mem_nil, or_false] at hw
    rcases hw with rfl | rfl | rfl | rfl | rfl | rfl | rfl <;> exact va_Nw.of rfl h0
  · have h : (Cond.arrayOver (.array .boolean)).before args s = true := hts _ (by decide +kernel)
    exact h
/-- CommitCouncilLaw.cell -/
def cV (L : Nat) (xs : Nat → Int32) (k : Nat) : Int32 := if k < L then xs k else 0
theorem cell_met {l : Launch} {b L : Nat} {xs : Nat → Int32} (hL : L ≤ 2050) {k : Nat} (hk : k < 2000) : Met l yL_cell mL_cell.ws { frames := mL_cell.fr, cells := 0, slots := 0, locals := mL_cell.lo } (va_Pc [.ref b, .int (nI k)] (fun U => va_X b L xs U U.heap ∧ b < U.heap.size)) (fun _ st oc t => oc = .returned (some (.int (cV L xs k))) ∧ t.heap = st.heap) 0 0 (fun _ => False) := by
  have hx : vx_Met l yL_cell mL_cell.ws { frames := mL_cell.fr, cells := 0, slots := 0, locals := mL_cell.lo } (va_Pc [.ref b, .int (nI k)] (fun U => va_X b L xs U U.heap ∧ b < U.heap.size)) (fun _ st oc t => oc = .returned (some (.int (cV L xs k))) ∧ t.heap = st.heap) kNo 0 0 (fun _ => False) := by
    refine vx_ofW (cc := cL_cell) (maxL := 2) (ret := some .int) (by decide +kernel) rfl ?_
    intro p e s m args below meth c s₁ B hml ht hv
    obtain ⟨hargs, hX, hbl⟩ := hv
    subst hargs
    rw [lg_entry_eq]
    have hlocks : meth.locks = false := B.notSynchronized
    have Lv := lv_entry ([.ref b, .int (nI k)] : List Value) (n := 2) (Nat.le_of_ble_eq_true rfl)
    have hS : va_S (fun _ => False) s.heap s.heap [] := va_S.rf
    refine lv_iload_n B.exec B.bytes dL_cell_0 rfl (Lv.2.2 (1, .int (nI k)) (List.mem_of_getElem? (i := 1) rfl)) ?_
    refine lv_aload_n B.exec B.bytes dL_cell_1 rfl (Lv.2.2 (0, .ref b) (List.mem_of_getElem? (i := 0) rfl)) ?_
    refine va_slen (A := fun _ => False) B.exec B.bytes hX hbl (fun h => h) hS dL_cell_2 ?_
    refine lv_icmp_ge (tgt := 12) B.exec B.bytes dL_cell_3 (by decide) (fun h => ?_) (fun h => ?_)
    · have h' : L ≤ k := (nI_leI (by omega) (by omega)).mp h
      refine lv_iconst (v := 0) B.exec B.bytes dL_cell_12 (by decide) ?_
      have e : cV L xs k = 0 := if_neg (by omega)
      exact vx_ret (W.iret B.exec B.bytes B.returns (fun t ht _ => ⟨by rw [e], ht⟩) (fun q hq => by cases hq) dL_cell_13)
    · have h' : k < L := by
        by_cases q : k < L
        · exact q
        · exact absurd ((nI_leI (by omega) (by omega)).mpr (by omega)) h
      refine lv_aload_n B.exec B.bytes dL_cell_6 rfl (Lv.2.2 (0, .ref b) (List.mem_of_getElem? (i := 0) rfl)) ?_
      refine lv_iload_n B.exec B.bytes dL_cell_7 rfl (Lv.2.2 (1, .int (nI k)) (List.mem_of_getElem? (i := 1) rfl)) ?_
      refine va_sld (A := fun _ => False) B.exec B.bytes hX hbl (fun h => h) hS (vp_inN h' (by omega)) dL_cell_8 ?_
      rw [nI_clamp (by omega)]
      refine lv_goto (tgt := 13) B.exec B.bytes dL_cell_9 (by decide) ?_
      have e : cV L xs k = xs k := if_pos h'
      exact vx_ret (W.iret B.exec B.bytes B.returns (fun t ht _ => ⟨by rw [e], ht⟩) (fun q hq => by cases hq) dL_cell_13)
  intro p e ha hc hk s m args below hf happ hP hK
  obtain ⟨n, o, h1, h2, h3, h4⟩ := hx p e ha hc hk s m args below hf happ hP hK
  refine ⟨n, o, h1, h2, h3, ?_⟩
  rcases h4 with h4 | ⟨q, e1, E, ce, L, f2, f5⟩
  · exact h4
  · exact absurd f2 (fun h => h)
theorem law_cell {p : Program} {l : Launch} {e : Env} {s : State} {m : MethodId} {args : Array Value} {below : List Frame} {meth : Method} {c : Code} {H : Heap} {locs : List Loc} {cells slots : Nat} {Q : State → Prop} {pc b L : Nat} {xs : Nat → Int32} {ls : Array Slot} {rest : List Value}
    (C : p.tables.exec = Jvm.exec ∧ c.code = code ∧ c.maxLocals = 7 ∧ s.vm.findClass RL = some m.cls ∧ (∀ w ∈ lawWs, w.before args s = true)) (hX : va_X b L xs s s.heap) (hbl : b < s.heap.size) (hS : va_S (fun q => s.heap.size ≤ q) s.heap H locs) (hL : L ≤ 2050) {k : Nat} (hk : k < 2000) (hsz : ls.size = 7) (hc : cells ≤ 601024) (hs : slots ≤ 7293000) (hr : (rest.map fun v => v.category).sum ≤ 8) (d : decode code pc = .ok (.invokestatic 77, 3))
    (kk : W p l e room_1 s m args below meth c H locs cells slots Q (F0 m (pc + 3) ls (.int (cV L xs k) :: rest))) : W p l e room_1 s m args below meth c H locs cells slots Q (F0 m pc ls (.int (nI k) :: .ref b :: rest)) := by
  have hr := va_runS (l := l) (e := e) (R := room_1) (below := below) (meth := meth) (H := H) (locs := locs) (cells := cells) (slots := slots) (As := [.ref b, .int (nI k)]) (rest := rest) (g := F0 m pc ls (.int (nI k) :: .ref b :: rest)) C (cell_met (b := b) (xs := xs) hL hk) (va_cwS 2 C.2.2.2.2 (gU_S uw_2_50 uw_2_51 uw_1_0 uw_2_52) rfl rfl rfl (by decide +kernel) ⟨by decide, by decide⟩)
    ⟨fun a U g mk h => ⟨h.1, va_X.moved (u := U) (U := U.calling g mk a) (Vm.Alike.refl U.vm) h.2.1, h.2.2⟩, fun U hU hW => ⟨rfl, (va_X.moved hW.alike hX).kept (by rw [hU]; exact hS.2.1 b hbl (Nat.not_le.mpr hbl)), by rw [hU]; exact Nat.lt_of_lt_of_le hbl hS.1⟩⟩ rfl rfl hsz rfl (lv_room hr) d ⟨hc, hs⟩
  intro T hT Xs
  obtain ⟨v, st₀, t, T', L', h0', X', hL', e1, e2, ⟨ev, hh⟩, step⟩ := hr T hT Xs
  cases ev
  have eL : L' = [] := by
    cases L' with
    | nil => rfl
    | cons a t => exact (hL' a List.mem_cons_self).elim
  subst eL
  rw [List.append_nil] at X'
  obtain ⟨t2, a1, b1⟩ := kk T' (by rw [e1, hh, h0']) X'
  exact ⟨t2, step t2 a1, b1⟩

