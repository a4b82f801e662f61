theorem sw_out {n : Nat} {z : Int32} (hn : n + 1 < 2 ^ 31) (h : z < 0 ∨ nI (n + 1) ≤ z) : z.toInt < 0 ∨ (n : Int) < z.toInt := by
  rcases h with h | h
  · exact Or.inl (Int32.lt_iff_toInt_lt.mp h)
  · have h1 := Int32.le_iff_toInt_le.mp h
    rw [nI_toInt hn] at h1
    right
    omega
theorem sw_cases {n : Nat} (hn : n < 2 ^ 31) (z : Int32) : (∃ k, k < n ∧ z = nI k) ∨ (z < 0 ∨ nI n ≤ z) := by
  by_cases h : z < 0
  · exact Or.inr (Or.inl h)
  · obtain ⟨j, hj, e⟩ := nI_of h
    by_cases h2 : j < n
    · exact Or.inl ⟨j, h2, e⟩
    · exact Or.inr (Or.inr (by rw [e]; exact (nI_leI hn hj).mpr (by omega)))
section GCU
variable {G : gG} {M M' : gM} {b pc : Nat} {lv : List (Option gAV)} {σ : gSt} {Q : gOut → gSt → Prop} {P : gSt → Prop}
theorem g_callUv {o ci index : Nat} {fs : List (Option Nat)} {Cn owner : String} {x : MethodName} {T : u_T} {N : Nat} (as st : List gAV) {stk : List gAV} (h : gEM G M' 0 (.inr o :: as) σ (gV P)) (d : decode M.cc pc = .ok (.invokevirtual index, 3))
    (hcu : ∀ (R : Room) (s : State) (args : Array Value), (∀ w ∈ M.ws, w.before args s = true) → M'.fr + 1 ≤ R.frames → 8 + (M'.nL + 11) + M'.lo ≤ R.locals → va_CU R s args M.y.cls Cn owner index x M'.y M'.cc M'.nL M'.ret M'.ws { frames := M'.fr, cells := 0, slots := 6 * 0, locals := M'.lo } 0 (6 * 0) as.length)
    (hR : M'.fr + 1 ≤ M.fr ∧ 8 + (M'.nL + 11) + M'.lo ≤ M.lo)
    (ho : o ∈ G.1) (hs : G.2 o = .inr (ci, fs)) (hc : vwCl[ci]? = some (Cn, T, N)) (hst : stk = as.reverse ++ .inr o :: st) (hl : st.length ≤ 8) (kr : ∀ σ' : gSt, P σ' → gEx G M b (pc + 3) lv st σ' Q) : gEx G M b pc lv stk σ Q := by
  intro p l e R s m args below meth c D cy ad H locs cells slots mc ms ls C X L
  have hc9 := C.2.2.2.2.2.2.2.1
  have hr9 := C.2.2.2.1
  obtain ⟨i0, -, hw0⟩ := gws_at (cy := cy) (ad := ad) (σ := σ) ho hs
  refine g_after (b' := 0) (Q' := gV P) (st := st) (rest := st.map (gv ad)) (a := ((.inr o :: as).map (gv ad)).toArray) C X L (Nat.zero_le _) rfl ?_ (fun v σ' hq => by obtain ⟨e, hP⟩ := hq; cases e; exact kr σ' hP) (fun k σ' hq => by cases hq.1)
  exact vx_run_of (va_runU (As := as.map (gv ad)) (rest := st.map (gv ad)) (b := ad o) C.1 (gEM_met h (fun k σ' hq => by cases hq.1) C.2.1 C.2.2.1) (hcu R s args C.1.2.2.2.2 (by omega) (by omega))
    ⟨gPc_blind, va_recv C.2.2.2.2.2.2.1 (gws_P X.1) hc hw0, fun U hU hW => gPc_at (as := .inr o :: as) X C.2.2.2.2.2.2.1 hU hW⟩ rfl (by rw [List.length_map]) (L.1) (by show stk.map (gv ad) = _; rw [hst, List.map_append, List.map_reverse]; rfl) (lv_room (by rw [gv_sum]; exact hl)) d ⟨by omega, by omega⟩)
end GCU
theorem gU_U {x : Cond} {own C owner : String} {idx nL : Nat} {z y : MethodName} {cc : ByteArray} {ret : Option FieldType} (h1 : Cond.methodLink own idx z ∈ wsU) (h2 : Cond.sameMethod z.cls owner z.name z.desc ∈ wsU) (h3 : Cond.selects C z y ∈ wsU) (h4 : Cond.instanceMethod y ∈ wsU) (h6 : Cond.initialized y.cls ∈ wsU) (h5 : Cond.code y cc nL ret ∈ wsU) : GoodIn (x :: wsU) (va_wsU own idx C owner z y (Cond.code y cc nL ret :: wsU)) := by
  intro w hw
  rcases List.mem_append.mp hw with h | h
  · simp only [List.mem_cons, List.not_mem_nil, or_false] at h
    rcases h with rfl | rfl | rfl | rfl | rfl
    · exact wsU_g h1
    · exact wsU_g h2
    · exact wsU_g h3
    · exact wsU_g h4
    · exact wsU_g h6
  · rcases List.mem_cons.mp h with rfl | h
    · exact wsU_g h5
    · exact wsU_g h
theorem gU_O {x : Cond} {own C owner : String} {idx nL : Nat} {z y : MethodName} {cc : ByteArray} {ret : Option FieldType} (h1 : Cond.methodLink own idx z ∈ wsU) (h2 : Cond.sameMethod z.cls owner z.name z.desc ∈ wsU) (h7 : Cond.instanceMethod ⟨owner, z.name, z.desc⟩ ∈ wsU) (h3 : Cond.selects C z y ∈ wsU) (h4 : Cond.instanceMethod y ∈ wsU) (h6 : Cond.initialized y.cls ∈ wsU) (h5 : Cond.code y cc nL ret ∈ wsU) : GoodIn (x :: wsU) (va_wsO own idx C owner z y (Cond.code y cc nL ret :: wsU)) := by
  intro w hw
  rcases List.mem_append.mp hw with h | h
  · simp only [List.mem_cons, List.not_mem_nil, or_false] at h
    rcases h with rfl | rfl | rfl | rfl | rfl | rfl
    · exact wsU_g h1
    · exact wsU_g h2
    · exact wsU_g h7
    · exact wsU_g h3
    · exact wsU_g h4
    · exact wsU_g h6
  · rcases List.mem_cons.mp h with rfl | h
    · exact wsU_g h5
    · exact wsU_g h

theorem g_throw_calm {G : gG} {b : Nat} {lv : List (Option gAV)} {σ : gSt} {Q : gOut → gSt → Prop} (hq : Q (.inr 1) σ) (hb : 1 ≤ b) : gEx G mX6_calm b 11 lv [] σ Q :=
  g_throw (ik := 111) (is := 113) (ic := 115) 1 (fun A U H h => h.2.2.1) (by decide +kernel) (by decide +kernel) (List.mem_cons_of_mem _ uw_2_22) (List.mem_cons_of_mem _ uw_1_17) (fun w hw => List.mem_cons_of_mem _ (List.mem_filter.mpr ⟨wsU_x1 w hw, (List.mem_filter.mp hw).2⟩)) (by decide +kernel) (by decide +kernel)
    (by decide +kernel) (by decide +kernel) (by decide +kernel) (by decide +kernel) (by decide +kernel) ⟨by decide, by decide⟩ hb hq

theorem g_throw_sort {G : gG} {b : Nat} {lv : List (Option gAV)} {σ : gSt} {Q : gOut → gSt → Prop} (hq : Q (.inr 1) σ) (hb : 1 ≤ b) : gEx G mX6_memberOf b 72 lv [] σ Q :=
  g_throw (ik := 111) (is := 200) (ic := 115) 1 (fun A U H h => h.2.2.2.2.1) (by decide +kernel) (by decide +kernel) (List.mem_cons_of_mem _ uw_2_22) (List.mem_cons_of_mem _ uw_1_17) (fun w hw => List.mem_cons_of_mem _ (List.mem_filter.mpr ⟨wsU_x1 w hw, (List.mem_filter.mp hw).2⟩)) (by decide +kernel) (by decide +kernel)
    (by decide +kernel) (by decide +kernel) (by decide +kernel) (by decide +kernel) (by decide +kernel) ⟨by decide, by decide⟩ hb hq

set_option maxRecDepth 100000 in
theorem c_begin_l {R A : Nat} (hRA : pRA R A) {s : pT} {l b : Nat} {y : Int32} (hl : l < 3) (hb : pBd R A s.1) (hn : s.2.length + A + (if s.1 10 l 0 = 0 then 0 else R) ≤ 400) : ∀ (k i : Nat), i ≤ A → A - i < k → ∀ σ, cRel R A (pAdd s i (fun a => mAsk a b)) σ → gEx (cG R A) mX6_begin 1 91 [some (.inr (0)), some (.inl (nI (l))), some (.inr (40 + l)), some (.inl (nI (b))), some (.inl (y)), some (.inl (nI (i)))] [] σ (gR (nI b) (fun τ => cRel R A (if s.1 10 l 0 = 0 then (pAdd s A (fun a => mAsk a b)) else pAdd (pAdd s A (fun a => mAsk a b)) R (fun m => mDec m (s.1 10 l 0))) τ)) := by
  intro k
  induction k with
  | zero => intro i hi1 hi2; exact absurd hi2 (by omega)
  | succ k ih =>
    intro i hi1 hi2 σ hc
    obtain ⟨hR1, hR6, hA35⟩ := hRA
    refine g_iload dX6_begin_91 rfl ?_
    refine g_aload_n dX6_begin_93 rfl ?_
    refine g_getr (T := TX6) (N := 7) (Cn := RX6) (ref := "CommitCouncil") 1 dX6_begin_94 (cIn_lo (by decide)) cSh_0 rfl (fun w h => List.mem_cons_of_mem _ (hU6 w h)) (by decide) (List.mem_cons_of_mem _ uw_1_159) (Or.inl rfl) rfl ?_
    refine g_alen (nI (A)) dX6_begin_97 (cIn_lo (by decide)) cSh_2 (by decide) rfl ?_
    refine g_icmp_ge 121 dX6_begin_98 (by decide) (fun h98 => ?_) (fun h98 => ?_)
    · skip
      rw [nI_leI (by omega) (by omega)] at h98
      have hb10 := hb.2.2.2.2.2.2.2.2.1 l
      refine g_aload_n dX6_begin_121 rfl ?_
      refine g_get (T := TX1) (N := 10) (Cn := RX1) (ref := "CommitCouncil$Leader") 4 dX6_begin_122 (cIn_l hl) (cSh_l hl) rfl (fun w h => List.mem_cons_of_mem _ (hU1 w h)) (by decide) (List.mem_cons_of_mem _ uw_1_86) (Or.inl rfl) rfl ?_
      refine gEx.top (v := .inl (nI (s.1 10 l 0))) (congrArg Sum.inl ((hc.2.2.2.2.2 l hl).2.2.2.2.1)) ?_
      refine g_if_eq 136 dX6_begin_125 (by decide) (fun h125 => ?_) (fun h125 => ?_)
      · skip
        rw [nI_z (by omega)] at h125
        refine g_iload_n dX6_begin_136 rfl ?_
        refine g_iret dX6_begin_137 rfl ?_
        refine ⟨rfl, ?_⟩
        first | (rw [if_pos (by omega)]; have e : i = A := by omega); (subst e; exact hc) | (rw [if_neg (by omega)]; exact hc2)
      · skip
        rw [nI_z (by omega)] at h125
        refine g_aload_n dX6_begin_128 rfl ?_
        refine g_aload_n dX6_begin_129 rfl ?_
        refine g_get (T := TX1) (N := 10) (Cn := RX1) (ref := "CommitCouncil$Leader") 4 dX6_begin_130 (cIn_l hl) (cSh_l hl) rfl (fun w h => List.mem_cons_of_mem _ (hU1 w h)) (by decide) (List.mem_cons_of_mem _ uw_1_86) (Or.inl rfl) rfl ?_
        refine gEx.top (v := .inl (nI (s.1 10 l 0))) (congrArg Sum.inl ((hc.2.2.2.2.2 l hl).2.2.2.2.1)) ?_
        refine g_callVv (n9 := 1) [.inl (nI (s.1 10 l 0))] [] (c_sendDecs (s := (pAdd s A (fun a => mAsk a b))) (d := s.1 10 l 0) ⟨hR1, hR6, hA35⟩ ((show i = A by omega) ▸ hc) (by rw [pAdd_len]; rw [if_neg h125] at hn; omega)) dX6_begin_133 (gU_V uw_2_115 uw_2_117 us_0_7 uw_1_1 uw_2_118) rfl (by decide +kernel) rfl ⟨by decide, by decide⟩ (cIn_lo (by decide)) cSh_0 rfl rfl (Nat.le_of_ble_eq_true rfl) (fun τ2 hc2 => ?_)
        refine g_iload_n dX6_begin_136 rfl ?_
        refine g_iret dX6_begin_137 rfl ?_
        refine ⟨rfl, ?_⟩
        first | (rw [if_pos (by omega)]; have e : i = A := by omega); (subst e; exact hc) | (rw [if_neg (by omega)]; exact hc2)
    · skip
      rw [nI_leI (by omega) (by omega)] at h98
      refine g_aload_n dX6_begin_101 rfl ?_
      refine g_getr (T := TX6) (N := 7) (Cn := RX6) (ref := "CommitCouncil") 3 dX6_begin_102 (cIn_lo (by decide)) cSh_0 rfl (fun w h => List.mem_cons_of_mem _ (hU6 w h)) (by decide) (List.mem_cons_of_mem _ uw_1_161) (Or.inl rfl) rfl ?_
      refine g_iconst (nI (2)) dX6_begin_105 (by decide) ?_
      refine g_iload dX6_begin_106 rfl ?_
      refine g_iconst ((-1)) dX6_begin_108 (by decide) ?_
      refine g_iconst ((-1)) dX6_begin_109 (by decide) ?_
      refine g_iload_n dX6_begin_110 rfl ?_
      refine g_iconst ((-1)) dX6_begin_111 (by decide) ?_
      refine g_callVv (n9 := 6) [.inl (nI (2)), .inl (nI (i)), .inl ((-1)), .inl ((-1)), .inl (nI (b)), .inl ((-1))] [] (c_send hc.2.1.1 hc.2.1.2.2.1 hR6 (by rw [pAdd_len]; omega)) dX6_begin_112 (gU_V uw_2_73 uw_2_74 uw_2_75 uw_1_6 uw_2_76) rfl (by decide +kernel) rfl ⟨by decide, by decide⟩ (cIn_lo (by decide)) cSh_4 rfl rfl (Nat.le_of_ble_eq_true rfl) (fun σ1 hp1 => ?_)
      refine g_iinc (nI (i + 1)) dX6_begin_115 rfl (show nI (i) + nI 1 = _ from nI_add _ _) (by decide) ?_
      refine g_goto 91 dX6_begin_118 (by decide) ?_
      subst hp1
      exact ih (i + 1) (by omega) (by omega) _ (by rw [← pAdd_s]; exact cRel_snd hc ((fun a => mAsk a b) i) (by simp [mVote, mDec, mQue, mAsk, mVoted]) rfl rfl rfl rfl rfl rfl)

theorem tBeg_eq {R A l : Nat} {s : pT} : (if s.1 10 l 0 = 0 then pAdd (pu (pClr (pClr (pu (pu (pu s.1 7 l 0 (lob l (s.1 9 l 0))) 9 l 0 (lob l (s.1 9 l 0))) 8 l 0 1) 11 l) 20 l, s.2).1 1 2 0 ((pClr (pClr (pu (pu (pu s.1 7 l 0 (lob l (s.1 9 l 0))) 9 l 0 (lob l (s.1 9 l 0))) 8 l 0 1) 11 l) 20 l, s.2).1 1 2 0 + 1), s.2) A (fun a => mAsk a (lob l (s.1 9 l 0))) else pAdd (pAdd (pu (pClr (pClr (pu (pu (pu s.1 7 l 0 (lob l (s.1 9 l 0))) 9 l 0 (lob l (s.1 9 l 0))) 8 l 0 1) 11 l) 20 l, s.2).1 1 2 0 ((pClr (pClr (pu (pu (pu s.1 7 l 0 (lob l (s.1 9 l 0))) 9 l 0 (lob l (s.1 9 l 0))) 8 l 0 1) 11 l) 20 l, s.2).1 1 2 0 + 1), s.2) A (fun a => mAsk a (lob l (s.1 9 l 0)))) R (fun m => mDec m (s.1 10 l 0))) = tBeg R A l s := by
  unfold tBeg nBeg
  by_cases h : s.1 10 l 0 = 0
  · rw [if_pos h, if_pos h]
    dsimp only
    rw [if_pos h, List.append_nil]
    rfl
  · rw [if_neg h, if_neg h]
    dsimp only
    rw [if_neg h]
    unfold pAdd
    dsimp only
    rw [pSnd_pSnd, List.append_assoc]
    rfl

set_option maxRecDepth 100000 in
/-- begin: it does -/
theorem c_beginT {R A : Nat} (hRA : pRA R A) {s : pT} {σ : gSt} (hc : cRel R A s σ) (hb : pBu s.1) {l : Nat} (hl : l < 3) (hlen : s.2.length ≤ 400) (hlob : lob l (s.1 9 l 0) ≤ 1536) (hs : sBeg R A l s) : gEM (cG R A) mX6_begin 1 [.inr (0), .inl (nI (l))] σ (gR (nI (lob l (s.1 9 l 0))) (fun τ => cRel R A (tBeg R A l s) τ)) := by
  obtain ⟨hR1, hR6, hA35⟩ := hRA
  have hA5 : A ≤ 5 := by omega
  have hbd := pBu_bd (R := R) (A := A) hb
  have hb9 := hbd.2.2.2.2.2.2.2.1 l
  have hb10 := hbd.2.2.2.2.2.2.2.2.1 l
  have hb2 := hbd.1 2 l
  obtain ⟨hs1, hs2⟩ := hs
  refine gEM_of (by decide +kernel) rfl (Nat.le_of_ble_eq_true rfl) ?_
  refine g_iload_n dX6_begin_0 rfl ?_
  refine g_iconst (nI (3)) dX6_begin_1 (by decide) ?_
  refine g_callSv (n9 := 2) [.inl (nI (l)), .inl (nI (3))] [] (c_checkOk hl (by decide)) dX6_begin_2 (gU_S uw_1_192 uw_1_193 uw_1_1 uw_1_194) rfl (by decide +kernel) rfl ⟨by decide, by decide⟩ rfl (Nat.le_of_ble_eq_true rfl) (fun σ1 hp1 => ?_)
  subst hp1
  refine g_aload_n dX6_begin_5 rfl ?_
  refine g_getr (T := TX6) (N := 7) (Cn := RX6) (ref := "CommitCouncil") 2 dX6_begin_6 (cIn_lo (by decide)) cSh_0 rfl (fun w h => List.mem_cons_of_mem _ (hU6 w h)) (by decide) (List.mem_cons_of_mem _ uw_1_160) (Or.inl rfl) rfl ?_
  refine g_iload_n dX6_begin_9 rfl ?_
  refine g_aald3N (n := 3) (j := l) dX6_begin_10 (cIn_lo (by decide)) cSh_3 hl (by omega) ?_
  refine g_astore_n dX6_begin_11 (by decide) ?_
  refine g_iload_n dX6_begin_12 rfl ?_
  refine g_aload_n dX6_begin_13 rfl ?_
  refine g_get (T := TX1) (N := 10) (Cn := RX1) (ref := "CommitCouncil$Leader") 3 dX6_begin_14 (cIn_l hl) (cSh_l hl) rfl (fun w h => List.mem_cons_of_mem _ (hU1 w h)) (by decide) (List.mem_cons_of_mem _ uw_1_84) (Or.inl rfl) rfl ?_
  refine gEx.top (v := .inl (nI (s.1 9 l 0))) (congrArg Sum.inl ((hc.2.2.2.2.2 l hl).2.2.2.1)) ?_
  refine g_callSi (nI (lob l (s.1 9 l 0))) (n9 := 2) [.inl (nI (l)), .inl (nI (s.1 9 l 0))] [] (c_lob hl (by omega)) dX6_begin_17 (gU_S uw_2_105 uw_2_106 uw_1_1 uw_2_107) rfl (by decide +kernel) rfl ⟨by decide, by decide⟩ rfl (Nat.le_of_ble_eq_true rfl) (fun τ1 hq1 => ?_)
  subst hq1
  refine g_istore_n dX6_begin_20 (by decide) ?_
  refine g_aload_n dX6_begin_21 rfl ?_
  refine g_getr (T := TX6) (N := 7) (Cn := RX6) (ref := "CommitCouncil") 1 dX6_begin_22 (cIn_lo (by decide)) cSh_0 rfl (fun w h => List.mem_cons_of_mem _ (hU6 w h)) (by decide) (List.mem_cons_of_mem _ uw_1_159) (Or.inl rfl) rfl ?_
  refine g_alen (nI (A)) dX6_begin_25 (cIn_lo (by decide)) cSh_2 (by decide) rfl ?_
  refine g_aload_n dX6_begin_26 rfl ?_
  refine g_get (T := TX1) (N := 10) (Cn := RX1) (ref := "CommitCouncil$Leader") 4 dX6_begin_27 (cIn_l hl) (cSh_l hl) rfl (fun w h => List.mem_cons_of_mem _ (hU1 w h)) (by decide) (List.mem_cons_of_mem _ uw_1_86) (Or.inl rfl) rfl ?_
  refine gEx.top (v := .inl (nI (s.1 10 l 0))) (congrArg Sum.inl ((hc.2.2.2.2.2 l hl).2.2.2.2.1)) ?_
  refine g_if_eq 41 dX6_begin_30 (by decide) (fun h30 => ?_) (fun h30 => ?_)
  · skip
    rw [nI_z (by omega)] at h30
    refine g_iconst (nI (0)) dX6_begin_41 (by decide) ?_
    refine g_iadd dX6_begin_42 ?_
    refine gEx.top (v := .inl (nI (A + 0))) (congrArg Sum.inl (nI_add _ _)) ?_
    refine g_istore dX6_begin_43 (by decide) ?_
    refine g_aload_n dX6_begin_45 rfl ?_
    refine g_get (T := TX1) (N := 10) (Cn := RX1) (ref := "CommitCouncil$Leader") 0 dX6_begin_46 (cIn_l hl) (cSh_l hl) rfl (fun w h => List.mem_cons_of_mem _ (hU1 w h)) (by decide) (List.mem_cons_of_mem _ uw_1_42) (Or.inr (List.mem_cons_of_mem _ uw_1_43)) rfl ?_
    refine gEx.top (v := .inl (nI (s.1 2 2 l))) (congrArg Sum.inl ((hc.2.2.2.2.2 l hl).1)) ?_
    refine g_if_eq 71 dX6_begin_49 (by decide) (fun h49 => ?_) (fun h49 => ?_)
    · skip
      rw [nI_z (by omega)] at h49
      exfalso; omega
    · skip
      rw [nI_z (by omega)] at h49
      refine g_iload_n dX6_begin_52 rfl ?_
      refine g_sipush (nI (1536)) dX6_begin_53 (by decide) ?_
      refine g_icmp_gt 71 dX6_begin_56 (by decide) (fun h56 => ?_) (fun h56 => ?_)
      · skip
        rw [nI_ltI (by omega) (by omega)] at h56
        exfalso; omega
      · skip
        rw [nI_ltI (by omega) (by omega)] at h56
        refine g_aload_n dX6_begin_59 rfl ?_
        refine g_getr (T := TX6) (N := 7) (Cn := RX6) (ref := "CommitCouncil") 3 dX6_begin_60 (cIn_lo (by decide)) cSh_0 rfl (fun w h => List.mem_cons_of_mem _ (hU6 w h)) (by decide) (List.mem_cons_of_mem _ uw_1_161) (Or.inl rfl) rfl ?_
        refine g_iload dX6_begin_63 rfl ?_
        refine g_callVi (bI (s.2.length + (A + 0) ≤ 400)) (n9 := 1) [.inl (nI (A + 0))] [] (c_room hc.2.1.1 (by omega) (by omega)) dX6_begin_65 (gU_V uw_2_65 uw_2_66 uw_2_67 uw_1_6 uw_2_68) rfl (by decide +kernel) rfl ⟨by decide, by decide⟩ (cIn_lo (by decide)) cSh_4 rfl rfl (Nat.le_of_ble_eq_true rfl) (fun τ3 hq3 => ?_)
        subst hq3
        refine g_if_ne 73 dX6_begin_68 (by decide) (fun h68 => ?_) (fun h68 => ?_)
        · skip
          rw [bI_z] at h68
          refine g_aload_n dX6_begin_73 rfl ?_
          refine g_iload_n dX6_begin_74 rfl ?_
          refine g_callVv (n9 := 1) [.inl (nI (lob l (s.1 9 l 0)))] [] (c_start ⟨hR1, hR6, hA35⟩ hc hl) dX6_begin_75 (gU_V uw_2_108 uw_2_109 uw_2_110 uw_1_5 uw_2_111) rfl (by decide +kernel) rfl ⟨by decide, by decide⟩ (cIn_l hl) (cSh_l hl) rfl rfl (Nat.le_of_ble_eq_true rfl) (fun τ4 hc4 => ?_)
          refine g_aload_n dX6_begin_78 rfl ?_
          refine g_dup dX6_begin_79 ?_
          refine g_get (T := TX6) (N := 7) (Cn := RX6) (ref := "CommitCouncil") 6 dX6_begin_80 (cIn_lo (by decide)) cSh_0 rfl (fun w h => List.mem_cons_of_mem _ (hU6 w h)) (by decide) (List.mem_cons_of_mem _ uw_1_164) (Or.inl rfl) rfl ?_
          refine gEx.top (v := .inl (nI ((pClr (pClr (pu (pu (pu s.1 7 l 0 (lob l (s.1 9 l 0))) 9 l 0 (lob l (s.1 9 l 0))) 8 l 0 1) 11 l) 20 l, s.2).1 1 2 0))) (congrArg Sum.inl (hc4.1.2)) ?_
          refine g_iconst (nI (1)) dX6_begin_83 (by decide) ?_
          refine g_iadd dX6_begin_84 ?_
          refine gEx.top (v := .inl (nI ((pClr (pClr (pu (pu (pu s.1 7 l 0 (lob l (s.1 9 l 0))) 9 l 0 (lob l (s.1 9 l 0))) 8 l 0 1) 11 l) 20 l, s.2).1 1 2 0 + 1))) (congrArg Sum.inl (nI_add _ _)) ?_
          refine g_put (T := TX6) (N := 7) (Cn := RX6) (ref := "CommitCouncil") (ty0 := tyX6) 6 dX6_begin_85 (cIn_lo (by decide)) cSh_0 rfl (fun w h => List.mem_cons_of_mem _ (hU6 w h)) tyX6_ok nmX6 (by decide) (List.mem_cons_of_mem _ uw_1_164) (Or.inl rfl) rfl rfl rfl rfl ?_
          refine g_iconst (nI (0)) dX6_begin_88 (by decide) ?_
          refine g_istore dX6_begin_89 (by decide) ?_
          refine gEx_post (c_begin_l (s := (pu (pClr (pClr (pu (pu (pu s.1 7 l 0 (lob l (s.1 9 l 0))) 9 l 0 (lob l (s.1 9 l 0))) 8 l 0 1) 11 l) 20 l, s.2).1 1 2 0 ((pClr (pClr (pu (pu (pu s.1 7 l 0 (lob l (s.1 9 l 0))) 9 l 0 (lob l (s.1 9 l 0))) 8 l 0 1) 11 l) 20 l, s.2).1 1 2 0 + 1), s.2)) ⟨hR1, hR6, hA35⟩ hl (pBu_bd (pBu_pu (pBu_clr (pBu_clr (pBu_pu (pBu_pu (pBu_pu hb (Or.inr hlob)) (Or.inr hlob)) (Or.inr (by decide))) _ _) _ _) (Or.inl (by decide)))) (by show s.2.length + A + (if s.1 10 l 0 = 0 then 0 else R) ≤ 400; unfold nBeg at hs2; omega) (A + 1) 0 (by omega) (by omega) _ (by rw [pAdd_0]; exact cRel_wbegun (s := (pClr (pClr (pu (pu (pu s.1 7 l 0 (lob l (s.1 9 l 0))) 9 l 0 (lob l (s.1 9 l 0))) 8 l 0 1) 11 l) 20 l, s.2)) hc4 _)) (fun o τ q => ⟨q.1, by have q2 := q.2; rw [← tBeg_eq]; exact q2⟩)
        · skip
          rw [bI_z] at h68
          exfalso; unfold nBeg at hs2; first | (rw [if_pos (by omega)] at hs2; omega) | (rw [if_neg (by omega)] at hs2; omega)
  · skip
    rw [nI_z (by omega)] at h30
    refine g_aload_n dX6_begin_33 rfl ?_
    refine g_getr (T := TX6) (N := 7) (Cn := RX6) (ref := "CommitCouncil") 0 dX6_begin_34 (cIn_lo (by decide)) cSh_0 rfl (fun w h => List.mem_cons_of_mem _ (hU6 w h)) (by decide) (List.mem_cons_of_mem _ uw_1_158) (Or.inl rfl) rfl ?_
    refine g_alen (nI (R)) dX6_begin_37 (cIn_lo (by decide)) cSh_1 (by decide) rfl ?_
    refine g_goto 42 dX6_begin_38 (by decide) ?_
    refine g_iadd dX6_begin_42 ?_
    refine gEx.top (v := .inl (nI (A + R))) (congrArg Sum.inl (nI_add _ _)) ?_
    refine g_istore dX6_begin_43 (by decide) ?_
    refine g_aload_n dX6_begin_45 rfl ?_
    refine g_get (T := TX1) (N := 10) (Cn := RX1) (ref := "CommitCouncil$Leader") 0 dX6_begin_46 (cIn_l hl) (cSh_l hl) rfl (fun w h => List.mem_cons_of_mem _ (hU1 w h)) (by decide) (List.mem_cons_of_mem _ uw_1_42) (Or.inr (List.mem_cons_of_mem _ uw_1_43)) rfl ?_
    refine gEx.top (v := .inl (nI (s.1 2 2 l))) (congrArg Sum.inl ((hc.2.2.2.2.2 l hl).1)) ?_
    refine g_if_eq 71 dX6_begin_49 (by decide) (fun h49 => ?_) (fun h49 => ?_)
    · skip
      rw [nI_z (by omega)] at h49
      exfalso; omega
    · skip
      rw [nI_z (by omega)] at h49
      refine g_iload_n dX6_begin_52 rfl ?_
      refine g_sipush (nI (1536)) dX6_begin_53 (by decide) ?_
      refine g_icmp_gt 71 dX6_begin_56 (by decide) (fun h56 => ?_) (fun h56 => ?_)
      · skip
        rw [nI_ltI (by omega) (by omega)] at h56
        exfalso; omega
      · skip
        rw [nI_ltI (by omega) (by omega)] at h56
        refine g_aload_n dX6_begin_59 rfl ?_
        refine g_getr (T := TX6) (N := 7) (Cn := RX6) (ref := "CommitCouncil") 3 dX6_begin_60 (cIn_lo (by decide)) cSh_0 rfl (fun w h => List.mem_cons_of_mem _ (hU6 w h)) (by decide) (List.mem_cons_of_mem _ uw_1_161) (Or.inl rfl) rfl ?_
        refine g_iload dX6_begin_63 rfl ?_
        refine g_callVi (bI (s.2.length + (A + R) ≤ 400)) (n9 := 1) [.inl (nI (A + R))] [] (c_room hc.2.1.1 (by omega) (by omega)) dX6_begin_65 (gU_V uw_2_65 uw_2_66 uw_2_67 uw_1_6 uw_2_68) rfl (by decide +kernel) rfl ⟨by decide, by decide⟩ (cIn_lo (by decide)) cSh_4 rfl rfl (Nat.le_of_ble_eq_true rfl) (fun τ3 hq3 => ?_)
        subst hq3
        refine g_if_ne 73 dX6_begin_68 (by decide) (fun h68 => ?_) (fun h68 => ?_)
        · skip
          rw [bI_z] at h68
          refine g_aload_n dX6_begin_73 rfl ?_
          refine g_iload_n dX6_begin_74 rfl ?_
          refine g_callVv (n9 := 1) [.inl (nI (lob l (s.1 9 l 0)))] [] (c_start ⟨hR1, hR6, hA35⟩ hc hl) dX6_begin_75 (gU_V uw_2_108 uw_2_109 uw_2_110 uw_1_5 uw_2_111) rfl (by decide +kernel) rfl ⟨by decide, by decide⟩ (cIn_l hl) (cSh_l hl) rfl rfl (Nat.le_of_ble_eq_true rfl) (fun τ4 hc4 => ?_)
          refine g_aload_n dX6_begin_78 rfl ?_
          refine g_dup dX6_begin_79 ?_
          refine g_get (T := TX6) (N := 7) (Cn := RX6) (ref := "CommitCouncil") 6 dX6_begin_80 (cIn_lo (by decide)) cSh_0 rfl (fun w h => List.mem_cons_of_mem _ (hU6 w h)) (by decide) (List.mem_cons_of_mem _ uw_1_164) (Or.inl rfl) rfl ?_
          refine gEx.top (v := .inl (nI ((pClr (pClr (pu (pu (pu s.1 7 l 0 (lob l (s.1 9 l 0))) 9 l 0 (lob l (s.1 9 l 0))) 8 l 0 1) 11 l) 20 l, s.2).1 1 2 0))) (congrArg Sum.inl (hc4.1.2)) ?_
          refine g_iconst (nI (1)) dX6_begin_83 (by decide) ?_
          refine g_iadd dX6_begin_84 ?_
          refine gEx.top (v := .inl (nI ((pClr (pClr (pu (pu (pu s.1 7 l 0 (lob l (s.1 9 l 0))) 9 l 0 (lob l (s.1 9 l 0))) 8 l 0 1) 11 l) 20 l, s.2).1 1 2 0 + 1))) (congrArg Sum.inl (nI_add _ _)) ?_
          refine g_put (T := TX6) (N := 7) (Cn := RX6) (ref := "CommitCouncil") (ty0 := tyX6) 6 dX6_begin_85 (cIn_lo (by decide)) cSh_0 rfl (fun w h => List.mem_cons_of_mem _ (hU6 w h)) tyX6_ok nmX6 (by decide) (List.mem_cons_of_mem _ uw_1_164) (Or.inl rfl) rfl rfl rfl rfl ?_
          refine g_iconst (nI (0)) dX6_begin_88 (by decide) ?_
          refine g_istore dX6_begin_89 (by decide) ?_
          refine gEx_post (c_begin_l (s := (pu (pClr (pClr (pu (pu (pu s.1 7 l 0 (lob l (s.1 9 l 0))) 9 l 0 (lob l (s.1 9 l 0))) 8 l 0 1) 11 l) 20 l, s.2).1 1 2 0 ((pClr (pClr (pu (pu (pu s.1 7 l 0 (lob l (s.1 9 l 0))) 9 l 0 (lob l (s.1 9 l 0))) 8 l 0 1) 11 l) 20 l, s.2).1 1 2 0 + 1), s.2)) ⟨hR1, hR6, hA35⟩ hl (pBu_bd (pBu_pu (pBu_clr (pBu_clr (pBu_pu (pBu_pu (pBu_pu hb (Or.inr hlob)) (Or.inr hlob)) (Or.inr (by decide))) _ _) _ _) (Or.inl (by decide)))) (by show s.2.length + A + (if s.1 10 l 0 = 0 then 0 else R) ≤ 400; unfold nBeg at hs2; omega) (A + 1) 0 (by omega) (by omega) _ (by rw [pAdd_0]; exact cRel_wbegun (s := (pClr (pClr (pu (pu (pu s.1 7 l 0 (lob l (s.1 9 l 0))) 9 l 0 (lob l (s.1 9 l 0))) 8 l 0 1) 11 l) 20 l, s.2)) hc4 _)) (fun o τ q => ⟨q.1, by have q2 := q.2; rw [← tBeg_eq]; exact q2⟩)
        · skip
          rw [bI_z] at h68
          exfalso; unfold nBeg at hs2; first | (rw [if_pos (by omega)] at hs2; omega) | (rw [if_neg (by omega)] at hs2; omega)

set_option maxRecDepth 100000 in
/-- begin: nothing happens -/
theorem c_beginF {R A : Nat} (hRA : pRA R A) {s : pT} {σ : gSt} (hc : cRel R A s σ) (hb : pBu s.1) {l : Nat} (hl : l < 3) (hlen : s.2.length ≤ 400) (hlob : lob l (s.1 9 l 0) ≤ 1536) (hs : ¬ sBeg R A l s) : gEM (cG R A) mX6_begin 1 [.inr (0), .inl (nI (l))] σ (gR (-1) (fun τ => τ = σ)) := by
  obtain ⟨hR1, hR6, hA35⟩ := hRA
  have hA5 : A ≤ 5 := by omega
  have hbd := pBu_bd (R := R) (A := A) hb
  have hb9 := hbd.2.2.2.2.2.2.2.1 l
  have hb10 := hbd.2.2.2.2.2.2.2.2.1 l
  have hb2 := hbd.1 2 l
  refine gEM_of (by decide +kernel) rfl (Nat.le_of_ble_eq_true rfl) ?_
  refine g_iload_n dX6_begin_0 rfl ?_
  refine g_iconst (nI (3)) dX6_begin_1 (by decide) ?_
  refine g_callSv (n9 := 2) [.inl (nI (l)), .inl (nI (3))] [] (c_checkOk hl (by decide)) dX6_begin_2 (gU_S uw_1_192 uw_1_193 uw_1_1 uw_1_194) rfl (by decide +kernel) rfl ⟨by decide, by decide⟩ rfl (Nat.le_of_ble_eq_true rfl) (fun σ1 hp1 => ?_)
  subst hp1
  refine g_aload_n dX6_begin_5 rfl ?_
  refine g_getr (T := TX6) (N := 7) (Cn := RX6) (ref := "CommitCouncil") 2 dX6_begin_6 (cIn_lo (by decide)) cSh_0 rfl (fun w h => List.mem_cons_of_mem _ (hU6 w h)) (by decide) (List.mem_cons_of_mem _ uw_1_160) (Or.inl rfl) rfl ?_
  refine g_iload_n dX6_begin_9 rfl ?_
  refine g_aald3N (n := 3) (j := l) dX6_begin_10 (cIn_lo (by decide)) cSh_3 hl (by omega) ?_
  refine g_astore_n dX6_begin_11 (by decide) ?_
  refine g_iload_n dX6_begin_12 rfl ?_
  refine g_aload_n dX6_begin_13 rfl ?_
  refine g_get (T := TX1) (N := 10) (Cn := RX1) (ref := "CommitCouncil$Leader") 3 dX6_begin_14 (cIn_l hl) (cSh_l hl) rfl (fun w h => List.mem_cons_of_mem _ (hU1 w h)) (by decide) (List.mem_cons_of_mem _ uw_1_84) (Or.inl rfl) rfl ?_
  refine gEx.top (v := .inl (nI (s.1 9 l 0))) (congrArg Sum.inl ((hc.2.2.2.2.2 l hl).2.2.2.1)) ?_
  refine g_callSi (nI (lob l (s.1 9 l 0))) (n9 := 2) [.inl (nI (l)), .inl (nI (s.1 9 l 0))] [] (c_lob hl (by omega)) dX6_begin_17 (gU_S uw_2_105 uw_2_106 uw_1_1 uw_2_107) rfl (by decide +kernel) rfl ⟨by decide, by decide⟩ rfl (Nat.le_of_ble_eq_true rfl) (fun τ1 hq1 => ?_)
  subst hq1
  refine g_istore_n dX6_begin_20 (by decide) ?_
  refine g_aload_n dX6_begin_21 rfl ?_
  refine g_getr (T := TX6) (N := 7) (Cn := RX6) (ref := "CommitCouncil") 1 dX6_begin_22 (cIn_lo (by decide)) cSh_0 rfl (fun w h => List.mem_cons_of_mem _ (hU6 w h)) (by decide) (List.mem_cons_of_mem _ uw_1_159) (Or.inl rfl) rfl ?_
  refine g_alen (nI (A)) dX6_begin_25 (cIn_lo (by decide)) cSh_2 (by decide) rfl ?_
  refine g_aload_n dX6_begin_26 rfl ?_
  refine g_get (T := TX1) (N := 10) (Cn := RX1) (ref := "CommitCouncil$Leader") 4 dX6_begin_27 (cIn_l hl) (cSh_l hl) rfl (fun w h => List.mem_cons_of_mem _ (hU1 w h)) (by decide) (List.mem_cons_of_mem _ uw_1_86) (Or.inl rfl) rfl ?_
  refine gEx.top (v := .inl (nI (s.1 10 l 0))) (congrArg Sum.inl ((hc.2.2.2.2.2 l hl).2.2.2.2.1)) ?_
  refine g_if_eq 41 dX6_begin_30 (by decide) (fun h30 => ?_) (fun h30 => ?_)
  · skip
    rw [nI_z (by omega)] at h30
    refine g_iconst (nI (0)) dX6_begin_41 (by decide) ?_
    refine g_iadd dX6_begin_42 ?_
    refine gEx.top (v := .inl (nI (A + 0))) (congrArg Sum.inl (nI_add _ _)) ?_
    refine g_istore dX6_begin_43 (by decide) ?_
    refine g_aload_n dX6_begin_45 rfl ?_
    refine g_get (T := TX1) (N := 10) (Cn := RX1) (ref := "CommitCouncil$Leader") 0 dX6_begin_46 (cIn_l hl) (cSh_l hl) rfl (fun w h => List.mem_cons_of_mem _ (hU1 w h)) (by decide) (List.mem_cons_of_mem _ uw_1_42) (Or.inr (List.mem_cons_of_mem _ uw_1_43)) rfl ?_
    refine gEx.top (v := .inl (nI (s.1 2 2 l))) (congrArg Sum.inl ((hc.2.2.2.2.2 l hl).1)) ?_
    refine g_if_eq 71 dX6_begin_49 (by decide) (fun h49 => ?_) (fun h49 => ?_)
    · skip
      rw [nI_z (by omega)] at h49
      refine g_iconst ((-1)) dX6_begin_71 (by decide) ?_
      exact g_iret dX6_begin_72 rfl (⟨rfl, rfl⟩)
    · skip
      rw [nI_z (by omega)] at h49
      refine g_iload_n dX6_begin_52 rfl ?_
      refine g_sipush (nI (1536)) dX6_begin_53 (by decide) ?_
      refine g_icmp_gt 71 dX6_begin_56 (by decide) (fun h56 => ?_) (fun h56 => ?_)
      · skip
        rw [nI_ltI (by omega) (by omega)] at h56
        refine g_iconst ((-1)) dX6_begin_71 (by decide) ?_
        exact g_iret dX6_begin_72 rfl (⟨rfl, rfl⟩)
      · skip
        rw [nI_ltI (by omega) (by omega)] at h56
        refine g_aload_n dX6_begin_59 rfl ?_
        refine g_getr (T := TX6) (N := 7) (Cn := RX6) (ref := "CommitCouncil") 3 dX6_begin_60 (cIn_lo (by decide)) cSh_0 rfl (fun w h => List.mem_cons_of_mem _ (hU6 w h)) (by decide) (List.mem_cons_of_mem _ uw_1_161) (Or.inl rfl) rfl ?_
        refine g_iload dX6_begin_63 rfl ?_
        refine g_callVi (bI (s.2.length + (A + 0) ≤ 400)) (n9 := 1) [.inl (nI (A + 0))] [] (c_room hc.2.1.1 (by omega) (by omega)) dX6_begin_65 (gU_V uw_2_65 uw_2_66 uw_2_67 uw_1_6 uw_2_68) rfl (by decide +kernel) rfl ⟨by decide, by decide⟩ (cIn_lo (by decide)) cSh_4 rfl rfl (Nat.le_of_ble_eq_true rfl) (fun τ3 hq3 => ?_)
        subst hq3
        refine g_if_ne 73 dX6_begin_68 (by decide) (fun h68 => ?_) (fun h68 => ?_)
        · skip
          rw [bI_z] at h68
          exfalso; apply hs; refine ⟨by omega, ?_⟩; unfold nBeg; first | (rw [if_pos (by omega)]; omega) | (rw [if_neg (by omega)]; omega)
        · skip
          rw [bI_z] at h68
          refine g_iconst ((-1)) dX6_begin_71 (by decide) ?_
          exact g_iret dX6_begin_72 rfl (⟨rfl, rfl⟩)
  · skip
    rw [nI_z (by omega)] at h30
    refine g_aload_n dX6_begin_33 rfl ?_
    refine g_getr (T := TX6) (N := 7) (Cn := RX6) (ref := "CommitCouncil") 0 dX6_begin_34 (cIn_lo (by decide)) cSh_0 rfl (fun w h => List.mem_cons_of_mem _ (hU6 w h)) (by decide) (List.mem_cons_of_mem _ uw_1_158) (Or.inl rfl) rfl ?_
    refine g_alen (nI (R)) dX6_begin_37 (cIn_lo (by decide)) cSh_1 (by decide) rfl ?_
    refine g_goto 42 dX6_begin_38 (by decide) ?_
    refine g_iadd dX6_begin_42 ?_
    refine gEx.top (v := .inl (nI (A + R))) (congrArg Sum.inl (nI_add _ _)) ?_
    refine g_istore dX6_begin_43 (by decide) ?_
    refine g_aload_n dX6_begin_45 rfl ?_
    refine g_get (T := TX1) (N := 10) (Cn := RX1) (ref := "CommitCouncil$Leader") 0 dX6_begin_46 (cIn_l hl) (cSh_l hl) rfl (fun w h => List.mem_cons_of_mem _ (hU1 w h)) (by decide) (List.mem_cons_of_mem _ uw_1_42) (Or.inr (List.mem_cons_of_mem _ uw_1_43)) rfl ?_
    refine gEx.top (v := .inl (nI (s.1 2 2 l))) (congrArg Sum.inl ((hc.2.2.2.2.2 l hl).1)) ?_
    refine g_if_eq 71 dX6_begin_49 (by decide) (fun h49 => ?_) (fun h49 => ?_)
    · skip
      rw [nI_z (by omega)] at h49
      refine g_iconst ((-1)) dX6_begin_71 (by decide) ?_
      exact g_iret dX6_begin_72 rfl (⟨rfl, rfl⟩)
    · skip
      rw [nI_z (by omega)] at h49
      refine g_iload_n dX6_begin_52 rfl ?_
      refine g_sipush (nI (1536)) dX6_begin_53 (by decide) ?_
      refine g_icmp_gt 71 dX6_begin_56 (by decide) (fun h56 => ?_) (fun h56 => ?_)
      · skip
        rw [nI_ltI (by omega) (by omega)] at h56
        refine g_iconst ((-1)) dX6_begin_71 (by decide) ?_
        exact g_iret dX6_begin_72 rfl (⟨rfl, rfl⟩)
      · skip
        rw [nI_ltI (by omega) (by omega)] at h56
        refine g_aload_n dX6_begin_59 rfl ?_
        refine g_getr (T := TX6) (N := 7) (Cn := RX6) (ref := "CommitCouncil") 3 dX6_begin_60 (cIn_lo (by decide)) cSh_0 rfl (fun w h => List.mem_cons_of_mem _ (hU6 w h)) (by decide) (List.mem_cons_of_mem _ uw_1_161) (Or.inl rfl) rfl ?_
        refine g_iload dX6_begin_63 rfl ?_
        refine g_callVi (bI (s.2.length + (A + R) ≤ 400)) (n9 := 1) [.inl (nI (A + R))] [] (c_room hc.2.1.1 (by omega) (by omega)) dX6_begin_65 (gU_V uw_2_65 uw_2_66 uw_2_67 uw_1_6 uw_2_68) rfl (by decide +kernel) rfl ⟨by decide, by decide⟩ (cIn_lo (by decide)) cSh_4 rfl rfl (Nat.le_of_ble_eq_true rfl) (fun τ3 hq3 => ?_)
        subst hq3
        refine g_if_ne 73 dX6_begin_68 (by decide) (fun h68 => ?_) (fun h68 => ?_)
        · skip
          rw [bI_z] at h68
          exfalso; apply hs; refine ⟨by omega, ?_⟩; unfold nBeg; first | (rw [if_pos (by omega)]; omega) | (rw [if_neg (by omega)]; omega)
        · skip
          rw [bI_z] at h68
          refine g_iconst ((-1)) dX6_begin_71 (by decide) ?_
          exact g_iret dX6_begin_72 rfl (⟨rfl, rfl⟩)

set_option maxRecDepth 100000 in
/-- begin -/
theorem c_beginX {R A : Nat} (hRA : pRA R A) {σ : gSt} {y : Int32} (hy : y < 0 ∨ nI 3 ≤ y) : gEM (cG R A) mX6_begin 1 [.inr (0), .inl (y)] σ (gX 0 (fun τ => τ = σ)) := by
  refine gEM_of (by decide +kernel) rfl (Nat.le_of_ble_eq_true rfl) ?_
  refine g_iload_n dX6_begin_0 rfl ?_
  refine g_iconst (nI (3)) dX6_begin_1 (by decide) ?_
  exact g_callSx 0 (n9 := 2) [.inl (y), .inl (nI (3))] [] (c_checkNo hy) dX6_begin_2 (gU_S uw_1_192 uw_1_193 uw_1_1 uw_1_194) rfl (by decide +kernel) rfl ⟨by decide, by decide⟩ rfl (Nat.le_of_ble_eq_true rfl) (by decide) (fun σ9 hp9 => ⟨rfl, hp9⟩)

set_option maxRecDepth 100000 in
/-- calm: a message comes -/
theorem c_calm_T {R A : Nat} (hRA : pRA R A) {s : pT} {σ : gSt} (hc : cRel R A s σ) (hb : pBu s.1) {x : pMsg} (hx : s.2[0]? = some x) (hp : pMk R A x) (hlen : s.2.length ≤ 400) (hs : sBrg R A x s) {n t : Nat} {Q : gOut → gSt → Prop} (k : ∀ τ, cRel R A (tBrg R A 0 x s) τ → gEx (cG R A) mX6_calm 1 23 [some (.inr 0), some (.inl (nI n)), some (.inl (nI (t + 1)))] [] τ Q) : gEx (cG R A) mX6_calm 1 38 [some (.inr 0), some (.inl (nI n)), some (.inl (nI t))] [] σ Q := by
  have hx5 := hp.2.2.2.2.2.2.2
  refine g_aload_n dX6_calm_38 rfl ?_
  refine g_iconst (nI (0)) dX6_calm_39 (by decide) ?_
  refine g_callVi (nI (x 0)) (n9 := 1) [.inl (nI (0))] [] (c_bringT hRA hc hb hx hp hlen hs) dX6_calm_40 (gU_V uw_2_126 uw_2_128 us_0_8 uw_1_1 uw_2_129) rfl (by decide +kernel) rfl ⟨by decide, by decide⟩ (cIn_lo (by decide)) cSh_0 rfl rfl (Nat.le_of_ble_eq_true rfl) (fun τ1 hc1 => ?_)
  refine g_iconst ((-1)) dX6_calm_43 (by decide) ?_
  refine g_icmp_eq 53 dX6_calm_44 (by decide) (fun h44 => ?_) (fun h44 => ?_)
  · skip
    skip
    exact absurd h44.symm (m1_ne (by omega))
  · skip
    skip
    refine g_iinc (nI (t + 1)) dX6_calm_47 rfl (show nI (t) + nI 1 = _ from nI_add _ _) (by decide) ?_
    refine g_goto 23 dX6_calm_50 (by decide) ?_
    exact k _ hc1

set_option maxRecDepth 100000 in
/-- calm: it waits -/
theorem c_calm_F {R A : Nat} (hRA : pRA R A) {s : pT} {σ : gSt} (hc : cRel R A s σ) (hb : pBu s.1) {x : pMsg} (hx : s.2[0]? = some x) (hp : pMk R A x) (hlen : s.2.length ≤ 400) (hs : ¬ sBrg R A x s) {n t : Nat} {Q : gOut → gSt → Prop} (k : Q (.inl (some (.inl (nI t)))) σ) : gEx (cG R A) mX6_calm 1 38 [some (.inr 0), some (.inl (nI n)), some (.inl (nI t))] [] σ Q := by
  refine g_aload_n dX6_calm_38 rfl ?_
  refine g_iconst (nI (0)) dX6_calm_39 (by decide) ?_
  refine g_callVi (-1) (n9 := 1) [.inl (nI (0))] [] (c_bringF hRA hc hb hx hp hlen hs) dX6_calm_40 (gU_V uw_2_126 uw_2_128 us_0_8 uw_1_1 uw_2_129) rfl (by decide +kernel) rfl ⟨by decide, by decide⟩ (cIn_lo (by decide)) cSh_0 rfl rfl (Nat.le_of_ble_eq_true rfl) (fun τ1 hq1 => ?_)
  subst hq1
  refine g_iconst ((-1)) dX6_calm_43 (by decide) ?_
  refine g_icmp_eq 53 dX6_calm_44 (by decide) (fun h44 => ?_) (fun h44 => ?_)
  · skip
    skip
    refine g_iload_n dX6_calm_53 rfl ?_
    exact g_iret dX6_calm_54 rfl (k)
  · skip
    skip
    exact absurd rfl h44

theorem tCalm_s {R A n : Nat} {s : pT} {x : pMsg} (hx : s.2[0]? = some x) (h : sBrg R A x s) : tCalm R A (n + 1) s = ((tCalm R A n (tBrg R A 0 x s)).1 + 1, (tCalm R A n (tBrg R A 0 x s)).2) := by
  obtain ⟨α, ms⟩ := s
  cases ms with
  | nil => cases hx
  | cons y ys =>
    cases hx
    exact if_pos h
theorem tCalm_w {R A n : Nat} {s : pT} {x : pMsg} (hx : s.2[0]? = some x) (h : ¬ sBrg R A x s) : tCalm R A n s = (0, s) := by
  cases n with
  | zero => rfl
  | succ n =>
    obtain ⟨α, ms⟩ := s
    cases ms with
    | nil => cases hx
    | cons y ys =>
      cases hx
      exact if_neg h
theorem tCalm_e {R A n : Nat} {s : pT} (hx : s.2.length = 0) : tCalm R A n s = (0, s) := by
  cases n with
  | zero => rfl
  | succ n =>
    obtain ⟨α, ms⟩ := s
    cases ms with
    | nil => rfl
    | cons y ys => cases hx

set_option maxRecDepth 100000 in
theorem c_calm_l {R A : Nat} (hRA : pRA R A) {I : pT → Prop} (hI1 : ∀ s, I s → pBu s.1 ∧ (∀ (i : Nat) (x : pMsg), s.2[i]? = some x → pMk R A x) ∧ s.2.length ≤ 400) (hI2 : ∀ (s : pT) (x : pMsg), I s → s.2[0]? = some x → sBrg R A x s → I (tBrg R A 0 x s)) {n : Nat} (hn : n ≤ 400) : ∀ (k t : Nat), t ≤ n → n - t < k → ∀ (s : pT) (σ : gSt), cRel R A s σ → I s → gEx (cG R A) mX6_calm 1 23 [some (.inr 0), some (.inl (nI n)), some (.inl (nI t))] [] σ (gR (nI (t + (tCalm R A (n - t) s).1)) (fun τ => cRel R A (tCalm R A (n - t) s).2 τ)) := by
  intro k
  induction k with
  | zero => intro t hi1 hi2; exact absurd hi2 (by omega)
  | succ k ih =>
    intro t hi1 hi2 s σ hc hI
    obtain ⟨hb, hpm, hlen⟩ := hI1 s hI
    refine g_iload_n dX6_calm_23 rfl ?_
    refine g_iload_n dX6_calm_24 rfl ?_
    refine g_icmp_ge 53 dX6_calm_25 (by decide) (fun h25 => ?_) (fun h25 => ?_)
    · skip
      rw [nI_leI (by omega) (by omega)] at h25
      refine g_iload_n dX6_calm_53 rfl ?_
      refine g_iret dX6_calm_54 rfl ?_
      first | (have e : tCalm R A (n - t) s = (0, s) := by rw [show n - t = 0 by omega]; rfl); (rw [e]; exact ⟨rfl, hc⟩) | (have e : tCalm R A (n - t) s = (0, s) := tCalm_e (by omega)); (rw [e]; exact ⟨rfl, hc⟩)
    · skip
      rw [nI_leI (by omega) (by omega)] at h25
      refine g_aload_n dX6_calm_28 rfl ?_
      refine g_getr (T := TX6) (N := 7) (Cn := RX6) (ref := "CommitCouncil") 3 dX6_calm_29 (cIn_lo (by decide)) cSh_0 rfl (fun w h => List.mem_cons_of_mem _ (hU6 w h)) (by decide) (List.mem_cons_of_mem _ uw_1_161) (Or.inl rfl) rfl ?_
      refine g_get (T := TX3) (N := 4) (Cn := RX3) (ref := "CommitCouncil$Mail") 0 dX6_calm_32 (cIn_lo (by decide)) cSh_4 rfl (fun w h => List.mem_cons_of_mem _ (hU3 w h)) (by decide) (List.mem_cons_of_mem _ uw_1_122) (Or.inl rfl) rfl ?_
      refine gEx.top (v := .inl (nI (s.2.length))) (congrArg Sum.inl (hc.2.1.1)) ?_
      refine g_if_le 53 dX6_calm_35 (by decide) (fun h35 => ?_) (fun h35 => ?_)
      · skip
        rw [nI_np (by omega)] at h35
        refine g_iload_n dX6_calm_53 rfl ?_
        refine g_iret dX6_calm_54 rfl ?_
        first | (have e : tCalm R A (n - t) s = (0, s) := by rw [show n - t = 0 by omega]; rfl); (rw [e]; exact ⟨rfl, hc⟩) | (have e : tCalm R A (n - t) s = (0, s) := tCalm_e (by omega)); (rw [e]; exact ⟨rfl, hc⟩)
      · skip
        rw [nI_np (by omega)] at h35
        obtain ⟨x, hx⟩ : ∃ x, s.2[0]? = some x := ⟨s.2[0], List.getElem?_eq_getElem (by omega)⟩
        by_cases hs : sBrg R A x s
        · rw [show n - t = (n - (t + 1)) + 1 by omega, tCalm_s hx hs]
          refine c_calm_T hRA hc hb hx (hpm 0 x hx) hlen hs (fun τ hτ => ?_)
          have := ih (t + 1) (by omega) (by omega) _ τ hτ (hI2 s x hI hx hs)
          rw [show t + 1 + (tCalm R A (n - (t + 1)) (tBrg R A 0 x s)).1 = t + ((tCalm R A (n - (t + 1)) (tBrg R A 0 x s)).1 + 1) by omega] at this
          exact this
        · rw [tCalm_w hx hs]
          exact c_calm_F hRA hc hb hx (hpm 0 x hx) hlen hs ⟨rfl, hc⟩

set_option maxRecDepth 100000 in
/-- calm -/
theorem c_calm {R A : Nat} (hRA : pRA R A) {I : pT → Prop} (hI1 : ∀ s, I s → pBu s.1 ∧ (∀ (i : Nat) (x : pMsg), s.2[i]? = some x → pMk R A x) ∧ s.2.length ≤ 400) (hI2 : ∀ (s : pT) (x : pMsg), I s → s.2[0]? = some x → sBrg R A x s → I (tBrg R A 0 x s)) {s : pT} {σ : gSt} (hc : cRel R A s σ) (hI : I s) {n : Nat} (hn : n ≤ 400) : gEM (cG R A) mX6_calm 1 [.inr (0), .inl (nI (n))] σ (gR (nI (tCalm R A n s).1) (fun τ => cRel R A (tCalm R A n s).2 τ)) := by
  refine gEM_of (by decide +kernel) rfl (Nat.le_of_ble_eq_true rfl) ?_
  refine g_iload_n dX6_calm_0 rfl ?_
  refine g_if_lt 11 dX6_calm_1 (by decide) (fun h1 => ?_) (fun h1 => ?_)
  · skip
    rw [nI_n (by omega)] at h1
    exact h1.elim
  · skip
    rw [nI_n (by omega)] at h1
    refine g_iload_n dX6_calm_4 rfl ?_
    refine g_sipush (nI (400)) dX6_calm_5 (by decide) ?_
    refine g_icmp_le 21 dX6_calm_8 (by decide) (fun h8 => ?_) (fun h8 => ?_)
    · skip
      rw [nI_leI (by omega) (by omega)] at h8
      refine g_iconst (nI (0)) dX6_calm_21 (by decide) ?_
      refine g_istore_n dX6_calm_22 (by decide) ?_
      have := c_calm_l hRA hI1 hI2 hn (n + 1) 0 (by omega) (by omega) s σ hc hI
      rw [Nat.zero_add] at this
      exact this
    · skip
      rw [nI_leI (by omega) (by omega)] at h8
      exfalso; omega

set_option maxRecDepth 100000 in
/-- calm: n is not 0 .. 400 -/
theorem c_calmX {R A : Nat} {σ : gSt} {y : Int32} (hy : y < 0 ∨ nI 400 < y) : gEM (cG R A) mX6_calm 1 [.inr (0), .inl (y)] σ (gX 1 (fun τ => τ = σ)) := by
  refine gEM_of (by decide +kernel) rfl (Nat.le_of_ble_eq_true rfl) ?_
  refine g_iload_n dX6_calm_0 rfl ?_
  refine g_if_lt 11 dX6_calm_1 (by decide) (fun h1 => ?_) (fun h1 => ?_)
  · skip
    exact g_throw_calm ⟨rfl, rfl⟩ (by decide)
  · skip
    refine g_iload_n dX6_calm_4 rfl ?_
    refine g_sipush (nI (400)) dX6_calm_5 (by decide) ?_
    refine g_icmp_le 21 dX6_calm_8 (by decide) (fun h8 => ?_) (fun h8 => ?_)
    · skip
      rcases hy with q | q
      · exact absurd q h1
      · exact absurd h8 (Int32.not_le.mpr q)
    · skip
      exact g_throw_calm ⟨rfl, rfl⟩ (by decide)

set_option maxRecDepth 100000 in
/-- memberOf -/
theorem c_member0 {R A : Nat} (hRA : pRA R A) {σ : gSt} {i : Nat} (hi : i < R) : gEM (cG R A) mX6_memberOf 0 [.inr (0), .inl (nI (0)), .inl (nI (i))] σ (gRr (10 + i) (fun τ => τ = σ)) := by
  obtain ⟨hR1, hR6, hA35⟩ := hRA
  have hA5 : A ≤ 5 := by omega
  refine gEM_of (by decide +kernel) rfl (Nat.le_of_ble_eq_true rfl) ?_
  refine g_iload_n dX6_memberOf_0 rfl ?_
  refine g_tableIn (off := 27) 28 dX6_memberOf_1 (by decide) (by decide) (by decide) (by decide) ?_
  refine g_iload_n dX6_memberOf_28 rfl ?_
  refine g_aload_n dX6_memberOf_29 rfl ?_
  refine g_getr (T := TX6) (N := 7) (Cn := RX6) (ref := "CommitCouncil") 0 dX6_memberOf_30 (cIn_lo (by decide)) cSh_0 rfl (fun w h => List.mem_cons_of_mem _ (hU6 w h)) (by decide) (List.mem_cons_of_mem _ uw_1_158) (Or.inl rfl) rfl ?_
  refine g_alen (nI (R)) dX6_memberOf_33 (cIn_lo (by decide)) cSh_1 (by decide) rfl ?_
  refine g_callSv (n9 := 2) [.inl (nI (i)), .inl (nI (R))] [] (c_checkOk hi (by omega)) dX6_memberOf_34 (gU_S uw_1_192 uw_1_193 uw_1_1 uw_1_194) rfl (by decide +kernel) rfl ⟨by decide, by decide⟩ rfl (Nat.le_of_ble_eq_true rfl) (fun σ1 hp1 => ?_)
  subst hp1
  refine g_aload_n dX6_memberOf_37 rfl ?_
  refine g_getr (T := TX6) (N := 7) (Cn := RX6) (ref := "CommitCouncil") 0 dX6_memberOf_38 (cIn_lo (by decide)) cSh_0 rfl (fun w h => List.mem_cons_of_mem _ (hU6 w h)) (by decide) (List.mem_cons_of_mem _ uw_1_158) (Or.inl rfl) rfl ?_
  refine g_iload_n dX6_memberOf_41 rfl ?_
  refine g_aald4N (n := R) (j := i) dX6_memberOf_42 (cIn_lo (by decide)) cSh_1 hi (by omega) ?_
  exact g_aret dX6_memberOf_43 rfl (⟨rfl, rfl⟩)

set_option maxRecDepth 100000 in
/-- memberOf -/
theorem c_memberX0 {R A : Nat} (hRA : pRA R A) {σ : gSt} {y : Int32} (hy : y < 0 ∨ nI (R) ≤ y) : gEM (cG R A) mX6_memberOf 1 [.inr (0), .inl (nI (0)), .inl (y)] σ (gX 0 (fun τ => τ = σ)) := by
  refine gEM_of (by decide +kernel) rfl (Nat.le_of_ble_eq_true rfl) ?_
  refine g_iload_n dX6_memberOf_0 rfl ?_
  refine g_tableIn (off := 27) 28 dX6_memberOf_1 (by decide) (by decide) (by decide) (by decide) ?_
  refine g_iload_n dX6_memberOf_28 rfl ?_
  refine g_aload_n dX6_memberOf_29 rfl ?_
  refine g_getr (T := TX6) (N := 7) (Cn := RX6) (ref := "CommitCouncil") 0 dX6_memberOf_30 (cIn_lo (by decide)) cSh_0 rfl (fun w h => List.mem_cons_of_mem _ (hU6 w h)) (by decide) (List.mem_cons_of_mem _ uw_1_158) (Or.inl rfl) rfl ?_
  refine g_alen (nI (R)) dX6_memberOf_33 (cIn_lo (by decide)) cSh_1 (by decide) rfl ?_
  exact g_callSx 0 (n9 := 2) [.inl (y), .inl (nI (R))] [] (c_checkNo hy) dX6_memberOf_34 (gU_S uw_1_192 uw_1_193 uw_1_1 uw_1_194) rfl (by decide +kernel) rfl ⟨by decide, by decide⟩ rfl (Nat.le_of_ble_eq_true rfl) (by decide) (fun σ9 hp9 => ⟨rfl, hp9⟩)

set_option maxRecDepth 100000 in
/-- memberOf -/
theorem c_member1 {R A : Nat} (hRA : pRA R A) {σ : gSt} {i : Nat} (hi : i < A) : gEM (cG R A) mX6_memberOf 0 [.inr (0), .inl (nI (1)), .inl (nI (i))] σ (gRr (20 + i) (fun τ => τ = σ)) := by
  obtain ⟨hR1, hR6, hA35⟩ := hRA
  have hA5 : A ≤ 5 := by omega
  refine gEM_of (by decide +kernel) rfl (Nat.le_of_ble_eq_true rfl) ?_
  refine g_iload_n dX6_memberOf_0 rfl ?_
  refine g_tableIn (off := 43) 44 dX6_memberOf_1 (by decide) (by decide) (by decide) (by decide) ?_
  refine g_iload_n dX6_memberOf_44 rfl ?_
  refine g_aload_n dX6_memberOf_45 rfl ?_
  refine g_getr (T := TX6) (N := 7) (Cn := RX6) (ref := "CommitCouncil") 1 dX6_memberOf_46 (cIn_lo (by decide)) cSh_0 rfl (fun w h => List.mem_cons_of_mem _ (hU6 w h)) (by decide) (List.mem_cons_of_mem _ uw_1_159) (Or.inl rfl) rfl ?_
  refine g_alen (nI (A)) dX6_memberOf_49 (cIn_lo (by decide)) cSh_2 (by decide) rfl ?_
  refine g_callSv (n9 := 2) [.inl (nI (i)), .inl (nI (A))] [] (c_checkOk hi (by omega)) dX6_memberOf_50 (gU_S uw_1_192 uw_1_193 uw_1_1 uw_1_194) rfl (by decide +kernel) rfl ⟨by decide, by decide⟩ rfl (Nat.le_of_ble_eq_true rfl) (fun σ1 hp1 => ?_)
  subst hp1
  refine g_aload_n dX6_memberOf_53 rfl ?_
  refine g_getr (T := TX6) (N := 7) (Cn := RX6) (ref := "CommitCouncil") 1 dX6_memberOf_54 (cIn_lo (by decide)) cSh_0 rfl (fun w h => List.mem_cons_of_mem _ (hU6 w h)) (by decide) (List.mem_cons_of_mem _ uw_1_159) (Or.inl rfl) rfl ?_
  refine g_iload_n dX6_memberOf_57 rfl ?_
  refine g_aald2N (n := A) (j := i) dX6_memberOf_58 (cIn_lo (by decide)) cSh_2 hi (by omega) ?_
  exact g_aret dX6_memberOf_59 rfl (⟨rfl, rfl⟩)

set_option maxRecDepth 100000 in
/-- memberOf -/
theorem c_memberX1 {R A : Nat} (hRA : pRA R A) {σ : gSt} {y : Int32} (hy : y < 0 ∨ nI (A) ≤ y) : gEM (cG R A) mX6_memberOf 1 [.inr (0), .inl (nI (1)), .inl (y)] σ (gX 0 (fun τ => τ = σ)) := by
  refine gEM_of (by decide +kernel) rfl (Nat.le_of_ble_eq_true rfl) ?_
  refine g_iload_n dX6_memberOf_0 rfl ?_
  refine g_tableIn (off := 43) 44 dX6_memberOf_1 (by decide) (by decide) (by decide) (by decide) ?_
  refine g_iload_n dX6_memberOf_44 rfl ?_
  refine g_aload_n dX6_memberOf_45 rfl ?_
  refine g_getr (T := TX6) (N := 7) (Cn := RX6) (ref := "CommitCouncil") 1 dX6_memberOf_46 (cIn_lo (by decide)) cSh_0 rfl (fun w h => List.mem_cons_of_mem _ (hU6 w h)) (by decide) (List.mem_cons_of_mem _ uw_1_159) (Or.inl rfl) rfl ?_
  refine g_alen (nI (A)) dX6_memberOf_49 (cIn_lo (by decide)) cSh_2 (by decide) rfl ?_
  exact g_callSx 0 (n9 := 2) [.inl (y), .inl (nI (A))] [] (c_checkNo hy) dX6_memberOf_50 (gU_S uw_1_192 uw_1_193 uw_1_1 uw_1_194) rfl (by decide +kernel) rfl ⟨by decide, by decide⟩ rfl (Nat.le_of_ble_eq_true rfl) (by decide) (fun σ9 hp9 => ⟨rfl, hp9⟩)

set_option maxRecDepth 100000 in
/-- memberOf -/
theorem c_member2 {R A : Nat} (hRA : pRA R A) {σ : gSt} {i : Nat} (hi : i < 3) : gEM (cG R A) mX6_memberOf 0 [.inr (0), .inl (nI (2)), .inl (nI (i))] σ (gRr (40 + i) (fun τ => τ = σ)) := by
  obtain ⟨hR1, hR6, hA35⟩ := hRA
  have hA5 : A ≤ 5 := by omega
  refine gEM_of (by decide +kernel) rfl (Nat.le_of_ble_eq_true rfl) ?_
  refine g_iload_n dX6_memberOf_0 rfl ?_
  refine g_tableIn (off := 59) 60 dX6_memberOf_1 (by decide) (by decide) (by decide) (by decide) ?_
  refine g_iload_n dX6_memberOf_60 rfl ?_
  refine g_iconst (nI (3)) dX6_memberOf_61 (by decide) ?_
  refine g_callSv (n9 := 2) [.inl (nI (i)), .inl (nI (3))] [] (c_checkOk hi (by omega)) dX6_memberOf_62 (gU_S uw_1_192 uw_1_193 uw_1_1 uw_1_194) rfl (by decide +kernel) rfl ⟨by decide, by decide⟩ rfl (Nat.le_of_ble_eq_true rfl) (fun σ1 hp1 => ?_)
  subst hp1
  refine g_aload_n dX6_memberOf_65 rfl ?_
  refine g_getr (T := TX6) (N := 7) (Cn := RX6) (ref := "CommitCouncil") 2 dX6_memberOf_66 (cIn_lo (by decide)) cSh_0 rfl (fun w h => List.mem_cons_of_mem _ (hU6 w h)) (by decide) (List.mem_cons_of_mem _ uw_1_160) (Or.inl rfl) rfl ?_
  refine g_iload_n dX6_memberOf_69 rfl ?_
  refine g_aald3N (n := 3) (j := i) dX6_memberOf_70 (cIn_lo (by decide)) cSh_3 hi (by omega) ?_
  exact g_aret dX6_memberOf_71 rfl (⟨rfl, rfl⟩)

set_option maxRecDepth 100000 in
/-- memberOf -/
theorem c_memberX2 {R A : Nat} (hRA : pRA R A) {σ : gSt} {y : Int32} (hy : y < 0 ∨ nI (3) ≤ y) : gEM (cG R A) mX6_memberOf 1 [.inr (0), .inl (nI (2)), .inl (y)] σ (gX 0 (fun τ => τ = σ)) := by
  refine gEM_of (by decide +kernel) rfl (Nat.le_of_ble_eq_true rfl) ?_
  refine g_iload_n dX6_memberOf_0 rfl ?_
  refine g_tableIn (off := 59) 60 dX6_memberOf_1 (by decide) (by decide) (by decide) (by decide) ?_
  refine g_iload_n dX6_memberOf_60 rfl ?_
  refine g_iconst (nI (3)) dX6_memberOf_61 (by decide) ?_
  exact g_callSx 0 (n9 := 2) [.inl (y), .inl (nI (3))] [] (c_checkNo hy) dX6_memberOf_62 (gU_S uw_1_192 uw_1_193 uw_1_1 uw_1_194) rfl (by decide +kernel) rfl ⟨by decide, by decide⟩ rfl (Nat.le_of_ble_eq_true rfl) (by decide) (fun σ9 hp9 => ⟨rfl, hp9⟩)

set_option maxRecDepth 100000 in
/-- memberOf: no such sort -/
theorem c_memberS {R A : Nat} {σ : gSt} {z y : Int32} (hz : z < 0 ∨ nI 3 ≤ z) : gEM (cG R A) mX6_memberOf 1 [.inr (0), .inl (z), .inl (y)] σ (gX 1 (fun τ => τ = σ)) := by
  refine gEM_of (by decide +kernel) rfl (Nat.le_of_ble_eq_true rfl) ?_
  refine g_iload_n dX6_memberOf_0 rfl ?_
  refine g_tableOut 72 dX6_memberOf_1 (sw_out (n := 2) (by decide) hz) (by decide) ?_
  exact g_throw_sort ⟨rfl, rfl⟩ (by decide)

set_option maxRecDepth 100000 in
/-- forget: nothing -/
theorem c_forget0 {R A : Nat} {σ : gSt} {o : Nat} : gEM (cG R A) mX5_forget 0 [.inr o] σ (gV (fun τ => τ = σ)) := by
  refine gEM_of (by decide +kernel) rfl (Nat.le_of_ble_eq_true rfl) ?_
  exact g_vret dX5_forget_0 rfl (⟨rfl, rfl⟩)

set_option maxRecDepth 100000 in
/-- crash -/
theorem c_crashT0 {R A : Nat} (hRA : pRA R A) {s : pT} {σ : gSt} (hc : cRel R A s σ) (hb : pBu s.1) {i : Nat} (hi : i < R) (hu : s.1 2 0 i ≠ 0) : gEM (cG R A) mX6_crash 1 [.inr (0), .inl (nI (0)), .inl (nI (i))] σ (gR 1 (fun τ => cRel R A (tCrash 0 i s) τ)) := by
  obtain ⟨hR1, hR6, hA35⟩ := hRA
  have hA5 : A ≤ 5 := by omega
  have hb2 : s.1 2 0 i ≤ 1 := hb 2 0 i (by decide) (by decide)
  refine gEM_of (by decide +kernel) rfl (Nat.le_of_ble_eq_true rfl) ?_
  refine g_aload_n dX6_crash_0 rfl ?_
  refine g_iload_n dX6_crash_1 rfl ?_
  refine g_iload_n dX6_crash_2 rfl ?_
  refine g_callVr (10 + i) (n9 := 2) [.inl (nI (0)), .inl (nI (i))] [] (c_member0 ⟨hR1, hR6, hA35⟩ hi) dX6_crash_3 (gU_V uw_1_188 uw_1_190 us_0_1 uw_1_1 uw_1_191) rfl (by decide +kernel) rfl ⟨by decide, by decide⟩ (cIn_lo (by decide)) cSh_0 rfl rfl (Nat.le_of_ble_eq_true rfl) (fun σ1 hp1 => ?_)
  subst hp1
  refine g_astore_n dX6_crash_6 (by decide) ?_
  refine g_aload_n dX6_crash_7 rfl ?_
  refine g_get (T := TX4) (N := 3) (Cn := RX4) (ref := "CommitCouncil$Member") 0 dX6_crash_8 (cIn_m hi) (cSh_m (by omega)) rfl (fun w h => List.mem_cons_of_mem _ (hU4 w h)) (by decide) (List.mem_cons_of_mem _ uw_1_44) (Or.inl rfl) rfl ?_
  refine gEx.top (v := .inl (nI (s.1 2 0 i))) (congrArg Sum.inl ((hc.2.2.2.1 i hi).1)) ?_
  refine g_if_ne 16 dX6_crash_11 (by decide) (fun h11 => ?_) (fun h11 => ?_)
  · skip
    rw [nI_z (by omega)] at h11
    refine g_aload_n dX6_crash_16 rfl ?_
    refine g_iconst (nI (0)) dX6_crash_17 (by decide) ?_
    refine g_put (T := TX4) (N := 3) (Cn := RX4) (ref := "CommitCouncil$Member") (ty0 := tyX4) 0 dX6_crash_18 (cIn_m hi) (cSh_m (by omega)) rfl (fun w h => List.mem_cons_of_mem _ (hU4 w h)) tyX4_ok nmX4 (by decide) (List.mem_cons_of_mem _ uw_1_44) (Or.inl rfl) rfl rfl rfl rfl ?_
    have hc1 : cRel R A (pu s.1 2 0 i 0, s.2) _ := cRel_wmu hc hR6 hA5 hi 0
    refine g_aload_n dX6_crash_21 rfl ?_
    refine g_callUv (owner := "CommitCouncil$Member") (x := ⟨"CommitCouncil$Member", "forget", "()V"⟩) [] [] (c_forget0) dX6_crash_22 (fun R9 s9 a9 ht h1 h2 => va_cwU 0 ht (gU_U uw_3_40 uw_3_42 uw_3_47 uw_3_41 uw_1_2 uw_3_48) rfl rfl rfl rfl (by decide +kernel) ⟨h1, h2⟩) ⟨by decide, by decide⟩ (cIn_m hi) (cSh_m (by omega)) rfl rfl (Nat.le_of_ble_eq_true rfl) (fun τ8 hq8 => ?_)
    refine g_iconst (nI (1)) dX6_crash_25 (by decide) ?_
    exact g_zret dX6_crash_26 rfl (rfl) (⟨rfl, hq8 ▸ hc1⟩)
  · skip
    rw [nI_z (by omega)] at h11
    exfalso; omega

set_option maxRecDepth 100000 in
/-- crash: it is down -/
theorem c_crashF0 {R A : Nat} (hRA : pRA R A) {s : pT} {σ : gSt} (hc : cRel R A s σ) (hb : pBu s.1) {i : Nat} (hi : i < R) (hu : s.1 2 0 i = 0) : gEM (cG R A) mX6_crash 1 [.inr (0), .inl (nI (0)), .inl (nI (i))] σ (gR 0 (fun τ => τ = σ)) := by
  obtain ⟨hR1, hR6, hA35⟩ := hRA
  have hA5 : A ≤ 5 := by omega
  have hb2 : s.1 2 0 i ≤ 1 := hb 2 0 i (by decide) (by decide)
  refine gEM_of (by decide +kernel) rfl (Nat.le_of_ble_eq_true rfl) ?_
  refine g_aload_n dX6_crash_0 rfl ?_
  refine g_iload_n dX6_crash_1 rfl ?_
  refine g_iload_n dX6_crash_2 rfl ?_
  refine g_callVr (10 + i) (n9 := 2) [.inl (nI (0)), .inl (nI (i))] [] (c_member0 ⟨hR1, hR6, hA35⟩ hi) dX6_crash_3 (gU_V uw_1_188 uw_1_190 us_0_1 uw_1_1 uw_1_191) rfl (by decide +kernel) rfl ⟨by decide, by decide⟩ (cIn_lo (by decide)) cSh_0 rfl rfl (Nat.le_of_ble_eq_true rfl) (fun σ1 hp1 => ?_)
  subst hp1
  refine g_astore_n dX6_crash_6 (by decide) ?_
  refine g_aload_n dX6_crash_7 rfl ?_
  refine g_get (T := TX4) (N := 3) (Cn := RX4) (ref := "CommitCouncil$Member") 0 dX6_crash_8 (cIn_m hi) (cSh_m (by omega)) rfl (fun w h => List.mem_cons_of_mem _ (hU4 w h)) (by decide) (List.mem_cons_of_mem _ uw_1_44) (Or.inl rfl) rfl ?_
  refine gEx.top (v := .inl (nI (s.1 2 0 i))) (congrArg Sum.inl ((hc.2.2.2.1 i hi).1)) ?_
  refine g_if_ne 16 dX6_crash_11 (by decide) (fun h11 => ?_) (fun h11 => ?_)
  · skip
    rw [nI_z (by omega)] at h11
    exfalso; omega
  · skip
    rw [nI_z (by omega)] at h11
    refine g_iconst (nI (0)) dX6_crash_14 (by decide) ?_
    exact g_zret dX6_crash_15 rfl (rfl) (⟨rfl, rfl⟩)

set_option maxRecDepth 100000 in
/-- recover -/
theorem c_recT0 {R A : Nat} (hRA : pRA R A) {s : pT} {σ : gSt} (hc : cRel R A s σ) (hb : pBu s.1) {i : Nat} (hi : i < R) (hu : s.1 2 0 i = 0) : gEM (cG R A) mX6_recover 1 [.inr (0), .inl (nI (0)), .inl (nI (i))] σ (gR 1 (fun τ => cRel R A (tRec 0 i s) τ)) := by
  obtain ⟨hR1, hR6, hA35⟩ := hRA
  have hA5 : A ≤ 5 := by omega
  have hb2 : s.1 2 0 i ≤ 1 := hb 2 0 i (by decide) (by decide)
  refine gEM_of (by decide +kernel) rfl (Nat.le_of_ble_eq_true rfl) ?_
  refine g_aload_n dX6_recover_0 rfl ?_
  refine g_iload_n dX6_recover_1 rfl ?_
  refine g_iload_n dX6_recover_2 rfl ?_
  refine g_callVr (10 + i) (n9 := 2) [.inl (nI (0)), .inl (nI (i))] [] (c_member0 ⟨hR1, hR6, hA35⟩ hi) dX6_recover_3 (gU_V uw_1_188 uw_1_190 us_0_1 uw_1_1 uw_1_191) rfl (by decide +kernel) rfl ⟨by decide, by decide⟩ (cIn_lo (by decide)) cSh_0 rfl rfl (Nat.le_of_ble_eq_true rfl) (fun σ1 hp1 => ?_)
  subst hp1
  refine g_astore_n dX6_recover_6 (by decide) ?_
  refine g_aload_n dX6_recover_7 rfl ?_
  refine g_get (T := TX4) (N := 3) (Cn := RX4) (ref := "CommitCouncil$Member") 0 dX6_recover_8 (cIn_m hi) (cSh_m (by omega)) rfl (fun w h => List.mem_cons_of_mem _ (hU4 w h)) (by decide) (List.mem_cons_of_mem _ uw_1_44) (Or.inl rfl) rfl ?_
  refine gEx.top (v := .inl (nI (s.1 2 0 i))) (congrArg Sum.inl ((hc.2.2.2.1 i hi).1)) ?_
  refine g_if_ne 18 dX6_recover_11 (by decide) (fun h11 => ?_) (fun h11 => ?_)
  · skip
    rw [nI_z (by omega)] at h11
    exfalso; omega
  · skip
    rw [nI_z (by omega)] at h11
    refine g_iconst (nI (1)) dX6_recover_14 (by decide) ?_
    refine g_goto 19 dX6_recover_15 (by decide) ?_
    refine g_istore dX6_recover_19 (by decide) ?_
    refine g_aload_n dX6_recover_21 rfl ?_
    refine g_iconst (nI (1)) dX6_recover_22 (by decide) ?_
    refine g_put (T := TX4) (N := 3) (Cn := RX4) (ref := "CommitCouncil$Member") (ty0 := tyX4) 0 dX6_recover_23 (cIn_m hi) (cSh_m (by omega)) rfl (fun w h => List.mem_cons_of_mem _ (hU4 w h)) tyX4_ok nmX4 (by decide) (List.mem_cons_of_mem _ uw_1_44) (Or.inl rfl) rfl rfl rfl rfl ?_
    refine g_iload dX6_recover_26 rfl ?_
    exact g_zret dX6_recover_28 rfl (rfl) (⟨rfl, cRel_wmu hc hR6 hA5 hi 1⟩)

set_option maxRecDepth 100000 in
/-- recover: it is up -/
theorem c_recF0 {R A : Nat} (hRA : pRA R A) {s : pT} {σ : gSt} (hc : cRel R A s σ) (hb : pBu s.1) {i : Nat} (hi : i < R) (hu : s.1 2 0 i ≠ 0) : gEM (cG R A) mX6_recover 1 [.inr (0), .inl (nI (0)), .inl (nI (i))] σ (gR 0 (fun τ => cRel R A (tRec 0 i s) τ)) := by
  obtain ⟨hR1, hR6, hA35⟩ := hRA
  have hA5 : A ≤ 5 := by omega
  have hb2 : s.1 2 0 i ≤ 1 := hb 2 0 i (by decide) (by decide)
  refine gEM_of (by decide +kernel) rfl (Nat.le_of_ble_eq_true rfl) ?_
  refine g_aload_n dX6_recover_0 rfl ?_
  refine g_iload_n dX6_recover_1 rfl ?_
  refine g_iload_n dX6_recover_2 rfl ?_
  refine g_callVr (10 + i) (n9 := 2) [.inl (nI (0)), .inl (nI (i))] [] (c_member0 ⟨hR1, hR6, hA35⟩ hi) dX6_recover_3 (gU_V uw_1_188 uw_1_190 us_0_1 uw_1_1 uw_1_191) rfl (by decide +kernel) rfl ⟨by decide, by decide⟩ (cIn_lo (by decide)) cSh_0 rfl rfl (Nat.le_of_ble_eq_true rfl) (fun σ1 hp1 => ?_)
  subst hp1
  refine g_astore_n dX6_recover_6 (by decide) ?_
  refine g_aload_n dX6_recover_7 rfl ?_
  refine g_get (T := TX4) (N := 3) (Cn := RX4) (ref := "CommitCouncil$Member") 0 dX6_recover_8 (cIn_m hi) (cSh_m (by omega)) rfl (fun w h => List.mem_cons_of_mem _ (hU4 w h)) (by decide) (List.mem_cons_of_mem _ uw_1_44) (Or.inl rfl) rfl ?_
  refine gEx.top (v := .inl (nI (s.1 2 0 i))) (congrArg Sum.inl ((hc.2.2.2.1 i hi).1)) ?_
  refine g_if_ne 18 dX6_recover_11 (by decide) (fun h11 => ?_) (fun h11 => ?_)
  · skip
    rw [nI_z (by omega)] at h11
    refine g_iconst (nI (0)) dX6_recover_18 (by decide) ?_
    refine g_istore dX6_recover_19 (by decide) ?_
    refine g_aload_n dX6_recover_21 rfl ?_
    refine g_iconst (nI (1)) dX6_recover_22 (by decide) ?_
    refine g_put (T := TX4) (N := 3) (Cn := RX4) (ref := "CommitCouncil$Member") (ty0 := tyX4) 0 dX6_recover_23 (cIn_m hi) (cSh_m (by omega)) rfl (fun w h => List.mem_cons_of_mem _ (hU4 w h)) tyX4_ok nmX4 (by decide) (List.mem_cons_of_mem _ uw_1_44) (Or.inl rfl) rfl rfl rfl rfl ?_
    refine g_iload dX6_recover_26 rfl ?_
    exact g_zret dX6_recover_28 rfl (rfl) (⟨rfl, cRel_wmu hc hR6 hA5 hi 1⟩)
  · skip
    rw [nI_z (by omega)] at h11
    exfalso; omega

set_option maxRecDepth 100000 in
/-- crash -/
theorem c_crashX0 {R A : Nat} (hRA : pRA R A) {σ : gSt} {y : Int32} (hy : y < 0 ∨ nI (R) ≤ y) : gEM (cG R A) mX6_crash 1 [.inr (0), .inl (nI (0)), .inl (y)] σ (gX 0 (fun τ => τ = σ)) := by
  refine gEM_of (by decide +kernel) rfl (Nat.le_of_ble_eq_true rfl) ?_
  refine g_aload_n dX6_crash_0 rfl ?_
  refine g_iload_n dX6_crash_1 rfl ?_
  refine g_iload_n dX6_crash_2 rfl ?_
  exact g_callVx 0 (n9 := 2) [.inl (nI (0)), .inl (y)] [] (c_memberX0 hRA hy) dX6_crash_3 (gU_V uw_1_188 uw_1_190 us_0_1 uw_1_1 uw_1_191) rfl (by decide +kernel) rfl ⟨by decide, by decide⟩ (cIn_lo (by decide)) cSh_0 rfl rfl (Nat.le_of_ble_eq_true rfl) (by decide) (fun σ9 hp9 => ⟨rfl, hp9⟩)

set_option maxRecDepth 100000 in
/-- recover -/
theorem c_recoverX0 {R A : Nat} (hRA : pRA R A) {σ : gSt} {y : Int32} (hy : y < 0 ∨ nI (R) ≤ y) : gEM (cG R A) mX6_recover 1 [.inr (0), .inl (nI (0)), .inl (y)] σ (gX 0 (fun τ => τ = σ)) := by
  refine gEM_of (by decide +kernel) rfl (Nat.le_of_ble_eq_true rfl) ?_
  refine g_aload_n dX6_recover_0 rfl ?_
  refine g_iload_n dX6_recover_1 rfl ?_
  refine g_iload_n dX6_recover_2 rfl ?_
  exact g_callVx 0 (n9 := 2) [.inl (nI (0)), .inl (y)] [] (c_memberX0 hRA hy) dX6_recover_3 (gU_V uw_1_188 uw_1_190 us_0_1 uw_1_1 uw_1_191) rfl (by decide +kernel) rfl ⟨by decide, by decide⟩ (cIn_lo (by decide)) cSh_0 rfl rfl (Nat.le_of_ble_eq_true rfl) (by decide) (fun σ9 hp9 => ⟨rfl, hp9⟩)

set_option maxRecDepth 100000 in
/-- crash -/
theorem c_crashT1 {R A : Nat} (hRA : pRA R A) {s : pT} {σ : gSt} (hc : cRel R A s σ) (hb : pBu s.1) {i : Nat} (hi : i < A) (hu : s.1 2 1 i ≠ 0) : gEM (cG R A) mX6_crash 1 [.inr (0), .inl (nI (1)), .inl (nI (i))] σ (gR 1 (fun τ => cRel R A (tCrash 1 i s) τ)) := by
  obtain ⟨hR1, hR6, hA35⟩ := hRA
  have hA5 : A ≤ 5 := by omega
  have hb2 : s.1 2 1 i ≤ 1 := hb 2 1 i (by decide) (by decide)
  refine gEM_of (by decide +kernel) rfl (Nat.le_of_ble_eq_true rfl) ?_
  refine g_aload_n dX6_crash_0 rfl ?_
  refine g_iload_n dX6_crash_1 rfl ?_
  refine g_iload_n dX6_crash_2 rfl ?_
  refine g_callVr (20 + i) (n9 := 2) [.inl (nI (1)), .inl (nI (i))] [] (c_member1 ⟨hR1, hR6, hA35⟩ hi) dX6_crash_3 (gU_V uw_1_188 uw_1_190 us_0_1 uw_1_1 uw_1_191) rfl (by decide +kernel) rfl ⟨by decide, by decide⟩ (cIn_lo (by decide)) cSh_0 rfl rfl (Nat.le_of_ble_eq_true rfl) (fun σ1 hp1 => ?_)
  subst hp1
  refine g_astore_n dX6_crash_6 (by decide) ?_
  refine g_aload_n dX6_crash_7 rfl ?_
  refine g_get (T := TX0) (N := 3) (Cn := RX0) (ref := "CommitCouncil$Member") 0 dX6_crash_8 (cIn_a hi) (cSh_a (by omega)) rfl (fun w h => List.mem_cons_of_mem _ (hU0 w h)) (by decide) (List.mem_cons_of_mem _ uw_1_44) (Or.inl rfl) rfl ?_
  refine gEx.top (v := .inl (nI (s.1 2 1 i))) (congrArg Sum.inl ((hc.2.2.2.2.1 i hi).1)) ?_
  refine g_if_ne 16 dX6_crash_11 (by decide) (fun h11 => ?_) (fun h11 => ?_)
  · skip
    rw [nI_z (by omega)] at h11
    refine g_aload_n dX6_crash_16 rfl ?_
    refine g_iconst (nI (0)) dX6_crash_17 (by decide) ?_
    refine g_put (T := TX0) (N := 3) (Cn := RX0) (ref := "CommitCouncil$Member") (ty0 := tyX0) 0 dX6_crash_18 (cIn_a hi) (cSh_a (by omega)) rfl (fun w h => List.mem_cons_of_mem _ (hU0 w h)) tyX0_ok nmX0 (by decide) (List.mem_cons_of_mem _ uw_1_44) (Or.inl rfl) rfl rfl rfl rfl ?_
    have hc1 : cRel R A (pu s.1 2 1 i 0, s.2) _ := cRel_wau hc hR6 hA5 hi 0
    refine g_aload_n dX6_crash_21 rfl ?_
    refine g_callUv (owner := "CommitCouncil$Member") (x := ⟨"CommitCouncil$Member", "forget", "()V"⟩) [] [] (c_forget0) dX6_crash_22 (fun R9 s9 a9 ht h1 h2 => va_cwU 0 ht (gU_U uw_3_40 uw_3_42 uw_3_43 uw_3_41 uw_1_2 uw_3_48) rfl rfl rfl rfl (by decide +kernel) ⟨h1, h2⟩) ⟨by decide, by decide⟩ (cIn_a hi) (cSh_a (by omega)) rfl rfl (Nat.le_of_ble_eq_true rfl) (fun τ8 hq8 => ?_)
    refine g_iconst (nI (1)) dX6_crash_25 (by decide) ?_
    exact g_zret dX6_crash_26 rfl (rfl) (⟨rfl, hq8 ▸ hc1⟩)
  · skip
    rw [nI_z (by omega)] at h11
    exfalso; omega

set_option maxRecDepth 100000 in
/-- crash: it is down -/
theorem c_crashF1 {R A : Nat} (hRA : pRA R A) {s : pT} {σ : gSt} (hc : cRel R A s σ) (hb : pBu s.1) {i : Nat} (hi : i < A) (hu : s.1 2 1 i = 0) : gEM (cG R A) mX6_crash 1 [.inr (0), .inl (nI (1)), .inl (nI (i))] σ (gR 0 (fun τ => τ = σ)) := by
  obtain ⟨hR1, hR6, hA35⟩ := hRA
  have hA5 : A ≤ 5 := by omega
  have hb2 : s.1 2 1 i ≤ 1 := hb 2 1 i (by decide) (by decide)
  refine gEM_of (by decide +kernel) rfl (Nat.le_of_ble_eq_true rfl) ?_
  refine g_aload_n dX6_crash_0 rfl ?_
  refine g_iload_n dX6_crash_1 rfl ?_
  refine g_iload_n dX6_crash_2 rfl ?_
  refine g_callVr (20 + i) (n9 := 2) [.inl (nI (1)), .inl (nI (i))] [] (c_member1 ⟨hR1, hR6, hA35⟩ hi) dX6_crash_3 (gU_V uw_1_188 uw_1_190 us_0_1 uw_1_1 uw_1_191) rfl (by decide +kernel) rfl ⟨by decide, by decide⟩ (cIn_lo (by decide)) cSh_0 rfl rfl (Nat.le_of_ble_eq_true rfl) (fun σ1 hp1 => ?_)
  subst hp1
  refine g_astore_n dX6_crash_6 (by decide) ?_
  refine g_aload_n dX6_crash_7 rfl ?_
  refine g_get (T := TX0) (N := 3) (Cn := RX0) (ref := "CommitCouncil$Member") 0 dX6_crash_8 (cIn_a hi) (cSh_a (by omega)) rfl (fun w h => List.mem_cons_of_mem _ (hU0 w h)) (by decide) (List.mem_cons_of_mem _ uw_1_44) (Or.inl rfl) rfl ?_
  refine gEx.top (v := .inl (nI (s.1 2 1 i))) (congrArg Sum.inl ((hc.2.2.2.2.1 i hi).1)) ?_
  refine g_if_ne 16 dX6_crash_11 (by decide) (fun h11 => ?_) (fun h11 => ?_)
  · skip
    rw [nI_z (by omega)] at h11
    exfalso; omega
  · skip
    rw [nI_z (by omega)] at h11
    refine g_iconst (nI (0)) dX6_crash_14 (by decide) ?_
    exact g_zret dX6_crash_15 rfl (rfl) (⟨rfl, rfl⟩)

set_option maxRecDepth 100000 in
/-- recover -/
theorem c_recT1 {R A : Nat} (hRA : pRA R A) {s : pT} {σ : gSt} (hc : cRel R A s σ) (hb : pBu s.1) {i : Nat} (hi : i < A) (hu : s.1 2 1 i = 0) : gEM (cG R A) mX6_recover 1 [.inr (0), .inl (nI (1)), .inl (nI (i))] σ (gR 1 (fun τ => cRel R A (tRec 1 i s) τ)) := by
  obtain ⟨hR1, hR6, hA35⟩ := hRA
  have hA5 : A ≤ 5 := by omega
  have hb2 : s.1 2 1 i ≤ 1 := hb 2 1 i (by decide) (by decide)
  refine gEM_of (by decide +kernel) rfl (Nat.le_of_ble_eq_true rfl) ?_
  refine g_aload_n dX6_recover_0 rfl ?_
  refine g_iload_n dX6_recover_1 rfl ?_
  refine g_iload_n dX6_recover_2 rfl ?_
  refine g_callVr (20 + i) (n9 := 2) [.inl (nI (1)), .inl (nI (i))] [] (c_member1 ⟨hR1, hR6, hA35⟩ hi) dX6_recover_3 (gU_V uw_1_188 uw_1_190 us_0_1 uw_1_1 uw_1_191) rfl (by decide +kernel) rfl ⟨by decide, by decide⟩ (cIn_lo (by decide)) cSh_0 rfl rfl (Nat.le_of_ble_eq_true rfl) (fun σ1 hp1 => ?_)
  subst hp1
  refine g_astore_n dX6_recover_6 (by decide) ?_
  refine g_aload_n dX6_recover_7 rfl ?_
  refine g_get (T := TX0) (N := 3) (Cn := RX0) (ref := "CommitCouncil$Member") 0 dX6_recover_8 (cIn_a hi) (cSh_a (by omega)) rfl (fun w h => List.mem_cons_of_mem _ (hU0 w h)) (by decide) (List.mem_cons_of_mem _ uw_1_44) (Or.inl rfl) rfl ?_
  refine gEx.top (v := .inl (nI (s.1 2 1 i))) (congrArg Sum.inl ((hc.2.2.2.2.1 i hi).1)) ?_
  refine g_if_ne 18 dX6_recover_11 (by decide) (fun h11 => ?_) (fun h11 => ?_)
  · skip
    rw [nI_z (by omega)] at h11
    exfalso; omega
  · skip
    rw [nI_z (by omega)] at h11
    refine g_iconst (nI (1)) dX6_recover_14 (by decide) ?_
    refine g_goto 19 dX6_recover_15 (by decide) ?_
    refine g_istore dX6_recover_19 (by decide) ?_
    refine g_aload_n dX6_recover_21 rfl ?_
    refine g_iconst (nI (1)) dX6_recover_22 (by decide) ?_
    refine g_put (T := TX0) (N := 3) (Cn := RX0) (ref := "CommitCouncil$Member") (ty0 := tyX0) 0 dX6_recover_23 (cIn_a hi) (cSh_a (by omega)) rfl (fun w h => List.mem_cons_of_mem _ (hU0 w h)) tyX0_ok nmX0 (by decide) (List.mem_cons_of_mem _ uw_1_44) (Or.inl rfl) rfl rfl rfl rfl ?_
    refine g_iload dX6_recover_26 rfl ?_
    exact g_zret dX6_recover_28 rfl (rfl) (⟨rfl, cRel_wau hc hR6 hA5 hi 1⟩)

set_option maxRecDepth 100000 in
/-- recover: it is up -/
theorem c_recF1 {R A : Nat} (hRA : pRA R A) {s : pT} {σ : gSt} (hc : cRel R A s σ) (hb : pBu s.1) {i : Nat} (hi : i < A) (hu : s.1 2 1 i ≠ 0) : gEM (cG R A) mX6_recover 1 [.inr (0), .inl (nI (1)), .inl (nI (i))] σ (gR 0 (fun τ => cRel R A (tRec 1 i s) τ)) := by
  obtain ⟨hR1, hR6, hA35⟩ := hRA
  have hA5 : A ≤ 5 := by omega
  have hb2 : s.1 2 1 i ≤ 1 := hb 2 1 i (by decide) (by decide)
  refine gEM_of (by decide +kernel) rfl (Nat.le_of_ble_eq_true rfl) ?_
  refine g_aload_n dX6_recover_0 rfl ?_
  refine g_iload_n dX6_recover_1 rfl ?_
  refine g_iload_n dX6_recover_2 rfl ?_
  refine g_callVr (20 + i) (n9 := 2) [.inl (nI (1)), .inl (nI (i))] [] (c_member1 ⟨hR1, hR6, hA35⟩ hi) dX6_recover_3 (gU_V uw_1_188 uw_1_190 us_0_1 uw_1_1 uw_1_191) rfl (by decide +kernel) rfl ⟨by decide, by decide⟩ (cIn_lo (by decide)) cSh_0 rfl rfl (Nat.le_of_ble_eq_true rfl) (fun σ1 hp1 => ?_)
  subst hp1
  refine g_astore_n dX6_recover_6 (by decide) ?_
  refine g_aload_n dX6_recover_7 rfl ?_
  refine g_get (T := TX0) (N := 3) (Cn := RX0) (ref := "CommitCouncil$Member") 0 dX6_recover_8 (cIn_a hi) (cSh_a (by omega)) rfl (fun w h => List.mem_cons_of_mem _ (hU0 w h)) (by decide) (List.mem_cons_of_mem _ uw_1_44) (Or.inl rfl) rfl ?_
  refine gEx.top (v := .inl (nI (s.1 2 1 i))) (congrArg Sum.inl ((hc.2.2.2.2.1 i hi).1)) ?_
  refine g_if_ne 18 dX6_recover_11 (by decide) (fun h11 => ?_) (fun h11 => ?_)
  · skip
    rw [nI_z (by omega)] at h11
    refine g_iconst (nI (0)) dX6_recover_18 (by decide) ?_
    refine g_istore dX6_recover_19 (by decide) ?_
    refine g_aload_n dX6_recover_21 rfl ?_
    refine g_iconst (nI (1)) dX6_recover_22 (by decide) ?_
    refine g_put (T := TX0) (N := 3) (Cn := RX0) (ref := "CommitCouncil$Member") (ty0 := tyX0) 0 dX6_recover_23 (cIn_a hi) (cSh_a (by omega)) rfl (fun w h => List.mem_cons_of_mem _ (hU0 w h)) tyX0_ok nmX0 (by decide) (List.mem_cons_of_mem _ uw_1_44) (Or.inl rfl) rfl rfl rfl rfl ?_
    refine g_iload dX6_recover_26 rfl ?_
    exact g_zret dX6_recover_28 rfl (rfl) (⟨rfl, cRel_wau hc hR6 hA5 hi 1⟩)
  · skip
    rw [nI_z (by omega)] at h11
    exfalso; omega

set_option maxRecDepth 100000 in
/-- crash -/
theorem c_crashX1 {R A : Nat} (hRA : pRA R A) {σ : gSt} {y : Int32} (hy : y < 0 ∨ nI (A) ≤ y) : gEM (cG R A) mX6_crash 1 [.inr (0), .inl (nI (1)), .inl (y)] σ (gX 0 (fun τ => τ = σ)) := by
  refine gEM_of (by decide +kernel) rfl (Nat.le_of_ble_eq_true rfl) ?_
  refine g_aload_n dX6_crash_0 rfl ?_
  refine g_iload_n dX6_crash_1 rfl ?_
  refine g_iload_n dX6_crash_2 rfl ?_
  exact g_callVx 0 (n9 := 2) [.inl (nI (1)), .inl (y)] [] (c_memberX1 hRA hy) dX6_crash_3 (gU_V uw_1_188 uw_1_190 us_0_1 uw_1_1 uw_1_191) rfl (by decide +kernel) rfl ⟨by decide, by decide⟩ (cIn_lo (by decide)) cSh_0 rfl rfl (Nat.le_of_ble_eq_true rfl) (by decide) (fun σ9 hp9 => ⟨rfl, hp9⟩)

set_option maxRecDepth 100000 in
/-- recover -/
theorem c_recoverX1 {R A : Nat} (hRA : pRA R A) {σ : gSt} {y : Int32} (hy : y < 0 ∨ nI (A) ≤ y) : gEM (cG R A) mX6_recover 1 [.inr (0), .inl (nI (1)), .inl (y)] σ (gX 0 (fun τ => τ = σ)) := by
  refine gEM_of (by decide +kernel) rfl (Nat.le_of_ble_eq_true rfl) ?_
  refine g_aload_n dX6_recover_0 rfl ?_
  refine g_iload_n dX6_recover_1 rfl ?_
  refine g_iload_n dX6_recover_2 rfl ?_
  exact g_callVx 0 (n9 := 2) [.inl (nI (1)), .inl (y)] [] (c_memberX1 hRA hy) dX6_recover_3 (gU_V uw_1_188 uw_1_190 us_0_1 uw_1_1 uw_1_191) rfl (by decide +kernel) rfl ⟨by decide, by decide⟩ (cIn_lo (by decide)) cSh_0 rfl rfl (Nat.le_of_ble_eq_true rfl) (by decide) (fun σ9 hp9 => ⟨rfl, hp9⟩)

set_option maxRecDepth 100000 in
/-- crash -/
theorem c_crashT2 {R A : Nat} (hRA : pRA R A) {s : pT} {σ : gSt} (hc : cRel R A s σ) (hb : pBu s.1) {i : Nat} (hi : i < 3) (hu : s.1 2 2 i ≠ 0) : gEM (cG R A) mX6_crash 1 [.inr (0), .inl (nI (2)), .inl (nI (i))] σ (gR 1 (fun τ => cRel R A (tCrash 2 i s) τ)) := by
  obtain ⟨hR1, hR6, hA35⟩ := hRA
  have hA5 : A ≤ 5 := by omega
  have hb2 : s.1 2 2 i ≤ 1 := hb 2 2 i (by decide) (by decide)
  refine gEM_of (by decide +kernel) rfl (Nat.le_of_ble_eq_true rfl) ?_
  refine g_aload_n dX6_crash_0 rfl ?_
  refine g_iload_n dX6_crash_1 rfl ?_
  refine g_iload_n dX6_crash_2 rfl ?_
  refine g_callVr (40 + i) (n9 := 2) [.inl (nI (2)), .inl (nI (i))] [] (c_member2 ⟨hR1, hR6, hA35⟩ hi) dX6_crash_3 (gU_V uw_1_188 uw_1_190 us_0_1 uw_1_1 uw_1_191) rfl (by decide +kernel) rfl ⟨by decide, by decide⟩ (cIn_lo (by decide)) cSh_0 rfl rfl (Nat.le_of_ble_eq_true rfl) (fun σ1 hp1 => ?_)
  subst hp1
  refine g_astore_n dX6_crash_6 (by decide) ?_
  refine g_aload_n dX6_crash_7 rfl ?_
  refine g_get (T := TX1) (N := 10) (Cn := RX1) (ref := "CommitCouncil$Member") 0 dX6_crash_8 (cIn_l hi) (cSh_l hi) rfl (fun w h => List.mem_cons_of_mem _ (hU1 w h)) (by decide) (List.mem_cons_of_mem _ uw_1_44) (Or.inl rfl) rfl ?_
  refine gEx.top (v := .inl (nI (s.1 2 2 i))) (congrArg Sum.inl ((hc.2.2.2.2.2 i hi).1)) ?_
  refine g_if_ne 16 dX6_crash_11 (by decide) (fun h11 => ?_) (fun h11 => ?_)
  · skip
    rw [nI_z (by omega)] at h11
    refine g_aload_n dX6_crash_16 rfl ?_
    refine g_iconst (nI (0)) dX6_crash_17 (by decide) ?_
    refine g_put (T := TX1) (N := 10) (Cn := RX1) (ref := "CommitCouncil$Member") (ty0 := tyX1) 0 dX6_crash_18 (cIn_l hi) (cSh_l hi) rfl (fun w h => List.mem_cons_of_mem _ (hU1 w h)) tyX1_ok nmX1 (by decide) (List.mem_cons_of_mem _ uw_1_44) (Or.inl rfl) rfl rfl rfl rfl ?_
    have hc1 : cRel R A (pu s.1 2 2 i 0, s.2) _ := cRel_wl0 hc hR6 hA5 hi 0
    refine g_aload_n dX6_crash_21 rfl ?_
    refine g_callUv (owner := "CommitCouncil$Member") (x := ⟨"CommitCouncil$Member", "forget", "()V"⟩) [] [] (c_forget (s := (pu s.1 2 2 i 0, s.2)) ⟨hR1, hR6, hA35⟩ hc1 hi) dX6_crash_22 (fun R9 s9 a9 ht h1 h2 => va_cwO 0 ht (gU_O uw_3_40 uw_3_42 uw_3_41 uw_3_44 uw_3_45 uw_1_5 uw_3_46) rfl rfl rfl (List.mem_cons_of_mem _ uw_3_48) (by decide +kernel) ⟨h1, h2⟩) ⟨by decide, by decide⟩ (cIn_l hi) (cSh_l hi) rfl rfl (Nat.le_of_ble_eq_true rfl) (fun τ8 hq8 => ?_)
    refine g_iconst (nI (1)) dX6_crash_25 (by decide) ?_
    exact g_zret dX6_crash_26 rfl (rfl) (⟨rfl, hq8⟩)
  · skip
    rw [nI_z (by omega)] at h11
    exfalso; omega

set_option maxRecDepth 100000 in
/-- crash: it is down -/
theorem c_crashF2 {R A : Nat} (hRA : pRA R A) {s : pT} {σ : gSt} (hc : cRel R A s σ) (hb : pBu s.1) {i : Nat} (hi : i < 3) (hu : s.1 2 2 i = 0) : gEM (cG R A) mX6_crash 1 [.inr (0), .inl (nI (2)), .inl (nI (i))] σ (gR 0 (fun τ => τ = σ)) := by
  obtain ⟨hR1, hR6, hA35⟩ := hRA
  have hA5 : A ≤ 5 := by omega
  have hb2 : s.1 2 2 i ≤ 1 := hb 2 2 i (by decide) (by decide)
  refine gEM_of (by decide +kernel) rfl (Nat.le_of_ble_eq_true rfl) ?_
  refine g_aload_n dX6_crash_0 rfl ?_
  refine g_iload_n dX6_crash_1 rfl ?_
  refine g_iload_n dX6_crash_2 rfl ?_
  refine g_callVr (40 + i) (n9 := 2) [.inl (nI (2)), .inl (nI (i))] [] (c_member2 ⟨hR1, hR6, hA35⟩ hi) dX6_crash_3 (gU_V uw_1_188 uw_1_190 us_0_1 uw_1_1 uw_1_191) rfl (by decide +kernel) rfl ⟨by decide, by decide⟩ (cIn_lo (by decide)) cSh_0 rfl rfl (Nat.le_of_ble_eq_true rfl) (fun σ1 hp1 => ?_)
  subst hp1
  refine g_astore_n dX6_crash_6 (by decide) ?_
  refine g_aload_n dX6_crash_7 rfl ?_
  refine g_get (T := TX1) (N := 10) (Cn := RX1) (ref := "CommitCouncil$Member") 0 dX6_crash_8 (cIn_l hi) (cSh_l hi) rfl (fun w h => List.mem_cons_of_mem _ (hU1 w h)) (by decide) (List.mem_cons_of_mem _ uw_1_44) (Or.inl rfl) rfl ?_
  refine gEx.top (v := .inl (nI (s.1 2 2 i))) (congrArg Sum.inl ((hc.2.2.2.2.2 i hi).1)) ?_
  refine g_if_ne 16 dX6_crash_11 (by decide) (fun h11 => ?_) (fun h11 => ?_)
  · skip
    rw [nI_z (by omega)] at h11
    exfalso; omega
  · skip
    rw [nI_z (by omega)] at h11
    refine g_iconst (nI (0)) dX6_crash_14 (by decide) ?_
    exact g_zret dX6_crash_15 rfl (rfl) (⟨rfl, rfl⟩)

set_option maxRecDepth 100000 in
/-- recover -/
theorem c_recT2 {R A : Nat} (hRA : pRA R A) {s : pT} {σ : gSt} (hc : cRel R A s σ) (hb : pBu s.1) {i : Nat} (hi : i < 3) (hu : s.1 2 2 i = 0) : gEM (cG R A) mX6_recover 1 [.inr (0), .inl (nI (2)), .inl (nI (i))] σ (gR 1 (fun τ => cRel R A (tRec 2 i s) τ)) := by
  obtain ⟨hR1, hR6, hA35⟩ := hRA
  have hA5 : A ≤ 5 := by omega
  have hb2 : s.1 2 2 i ≤ 1 := hb 2 2 i (by decide) (by decide)
  refine gEM_of (by decide +kernel) rfl (Nat.le_of_ble_eq_true rfl) ?_
  refine g_aload_n dX6_recover_0 rfl ?_
  refine g_iload_n dX6_recover_1 rfl ?_
  refine g_iload_n dX6_recover_2 rfl ?_
  refine g_callVr (40 + i) (n9 := 2) [.inl (nI (2)), .inl (nI (i))] [] (c_member2 ⟨hR1, hR6, hA35⟩ hi) dX6_recover_3 (gU_V uw_1_188 uw_1_190 us_0_1 uw_1_1 uw_1_191) rfl (by decide +kernel) rfl ⟨by decide, by decide⟩ (cIn_lo (by decide)) cSh_0 rfl rfl (Nat.le_of_ble_eq_true rfl) (fun σ1 hp1 => ?_)
  subst hp1
  refine g_astore_n dX6_recover_6 (by decide) ?_
  refine g_aload_n dX6_recover_7 rfl ?_
  refine g_get (T := TX1) (N := 10) (Cn := RX1) (ref := "CommitCouncil$Member") 0 dX6_recover_8 (cIn_l hi) (cSh_l hi) rfl (fun w h => List.mem_cons_of_mem _ (hU1 w h)) (by decide) (List.mem_cons_of_mem _ uw_1_44) (Or.inl rfl) rfl ?_
  refine gEx.top (v := .inl (nI (s.1 2 2 i))) (congrArg Sum.inl ((hc.2.2.2.2.2 i hi).1)) ?_
  refine g_if_ne 18 dX6_recover_11 (by decide) (fun h11 => ?_) (fun h11 => ?_)
  · skip
    rw [nI_z (by omega)] at h11
    exfalso; omega
  · skip
    rw [nI_z (by omega)] at h11
    refine g_iconst (nI (1)) dX6_recover_14 (by decide) ?_
    refine g_goto 19 dX6_recover_15 (by decide) ?_
    refine g_istore dX6_recover_19 (by decide) ?_
    refine g_aload_n dX6_recover_21 rfl ?_
    refine g_iconst (nI (1)) dX6_recover_22 (by decide) ?_
    refine g_put (T := TX1) (N := 10) (Cn := RX1) (ref := "CommitCouncil$Member") (ty0 := tyX1) 0 dX6_recover_23 (cIn_l hi) (cSh_l hi) rfl (fun w h => List.mem_cons_of_mem _ (hU1 w h)) tyX1_ok nmX1 (by decide) (List.mem_cons_of_mem _ uw_1_44) (Or.inl rfl) rfl rfl rfl rfl ?_
    refine g_iload dX6_recover_26 rfl ?_
    exact g_zret dX6_recover_28 rfl (rfl) (⟨rfl, cRel_wl0 hc hR6 hA5 hi 1⟩)

set_option maxRecDepth 100000 in
/-- recover: it is up -/
theorem c_recF2 {R A : Nat} (hRA : pRA R A) {s : pT} {σ : gSt} (hc : cRel R A s σ) (hb : pBu s.1) {i : Nat} (hi : i < 3) (hu : s.1 2 2 i ≠ 0) : gEM (cG R A) mX6_recover 1 [.inr (0), .inl (nI (2)), .inl (nI (i))] σ (gR 0 (fun τ => cRel R A (tRec 2 i s) τ)) := by
  obtain ⟨hR1, hR6, hA35⟩ := hRA
  have hA5 : A ≤ 5 := by omega
  have hb2 : s.1 2 2 i ≤ 1 := hb 2 2 i (by decide) (by decide)
  refine gEM_of (by decide +kernel) rfl (Nat.le_of_ble_eq_true rfl) ?_
  refine g_aload_n dX6_recover_0 rfl ?_
  refine g_iload_n dX6_recover_1 rfl ?_
  refine g_iload_n dX6_recover_2 rfl ?_
  refine g_callVr (40 + i) (n9 := 2) [.inl (nI (2)), .inl (nI (i))] [] (c_member2 ⟨hR1, hR6, hA35⟩ hi) dX6_recover_3 (gU_V uw_1_188 uw_1_190 us_0_1 uw_1_1 uw_1_191) rfl (by decide +kernel) rfl ⟨by decide, by decide⟩ (cIn_lo (by decide)) cSh_0 rfl rfl (Nat.le_of_ble_eq_true rfl) (fun σ1 hp1 => ?_)
  subst hp1
  refine g_astore_n dX6_recover_6 (by decide) ?_
  refine g_aload_n dX6_recover_7 rfl ?_
  refine g_get (T := TX1) (N := 10) (Cn := RX1) (ref := "CommitCouncil$Member") 0 dX6_recover_8 (cIn_l hi) (cSh_l hi) rfl (fun w h => List.mem_cons_of_mem _ (hU1 w h)) (by decide) (List.mem_cons_of_mem _ uw_1_44) (Or.inl rfl) rfl ?_
  refine gEx.top (v := .inl (nI (s.1 2 2 i))) (congrArg Sum.inl ((hc.2.2.2.2.2 i hi).1)) ?_
  refine g_if_ne 18 dX6_recover_11 (by decide) (fun h11 => ?_) (fun h11 => ?_)
  · skip
    rw [nI_z (by omega)] at h11
    refine g_iconst (nI (0)) dX6_recover_18 (by decide) ?_
    refine g_istore dX6_recover_19 (by decide) ?_
    refine g_aload_n dX6_recover_21 rfl ?_
    refine g_iconst (nI (1)) dX6_recover_22 (by decide) ?_
    refine g_put (T := TX1) (N := 10) (Cn := RX1) (ref := "CommitCouncil$Member") (ty0 := tyX1) 0 dX6_recover_23 (cIn_l hi) (cSh_l hi) rfl (fun w h => List.mem_cons_of_mem _ (hU1 w h)) tyX1_ok nmX1 (by decide) (List.mem_cons_of_mem _ uw_1_44) (Or.inl rfl) rfl rfl rfl rfl ?_
    refine g_iload dX6_recover_26 rfl ?_
    exact g_zret dX6_recover_28 rfl (rfl) (⟨rfl, cRel_wl0 hc hR6 hA5 hi 1⟩)
  · skip
    rw [nI_z (by omega)] at h11
    exfalso; omega

set_option maxRecDepth 100000 in
/-- crash -/
theorem c_crashX2 {R A : Nat} (hRA : pRA R A) {σ : gSt} {y : Int32} (hy : y < 0 ∨ nI (3) ≤ y) : gEM (cG R A) mX6_crash 1 [.inr (0), .inl (nI (2)), .inl (y)] σ (gX 0 (fun τ => τ = σ)) := by
  refine gEM_of (by decide +kernel) rfl (Nat.le_of_ble_eq_true rfl) ?_
  refine g_aload_n dX6_crash_0 rfl ?_
  refine g_iload_n dX6_crash_1 rfl ?_
  refine g_iload_n dX6_crash_2 rfl ?_
  exact g_callVx 0 (n9 := 2) [.inl (nI (2)), .inl (y)] [] (c_memberX2 hRA hy) dX6_crash_3 (gU_V uw_1_188 uw_1_190 us_0_1 uw_1_1 uw_1_191) rfl (by decide +kernel) rfl ⟨by decide, by decide⟩ (cIn_lo (by decide)) cSh_0 rfl rfl (Nat.le_of_ble_eq_true rfl) (by decide) (fun σ9 hp9 => ⟨rfl, hp9⟩)

set_option maxRecDepth 100000 in
/-- recover -/
theorem c_recoverX2 {R A : Nat} (hRA : pRA R A) {σ : gSt} {y : Int32} (hy : y < 0 ∨ nI (3) ≤ y) : gEM (cG R A) mX6_recover 1 [.inr (0), .inl (nI (2)), .inl (y)] σ (gX 0 (fun τ => τ = σ)) := by
  refine gEM_of (by decide +kernel) rfl (Nat.le_of_ble_eq_true rfl) ?_
  refine g_aload_n dX6_recover_0 rfl ?_
  refine g_iload_n dX6_recover_1 rfl ?_
  refine g_iload_n dX6_recover_2 rfl ?_
  exact g_callVx 0 (n9 := 2) [.inl (nI (2)), .inl (y)] [] (c_memberX2 hRA hy) dX6_recover_3 (gU_V uw_1_188 uw_1_190 us_0_1 uw_1_1 uw_1_191) rfl (by decide +kernel) rfl ⟨by decide, by decide⟩ (cIn_lo (by decide)) cSh_0 rfl rfl (Nat.le_of_ble_eq_true rfl) (by decide) (fun σ9 hp9 => ⟨rfl, hp9⟩)

set_option maxRecDepth 100000 in
/-- crash -/
theorem c_crashS {R A : Nat} {σ : gSt} {z y : Int32} (hz : z < 0 ∨ nI 3 ≤ z) : gEM (cG R A) mX6_crash 1 [.inr (0), .inl (z), .inl (y)] σ (gX 1 (fun τ => τ = σ)) := by
  refine gEM_of (by decide +kernel) rfl (Nat.le_of_ble_eq_true rfl) ?_
  refine g_aload_n dX6_crash_0 rfl ?_
  refine g_iload_n dX6_crash_1 rfl ?_
  refine g_iload_n dX6_crash_2 rfl ?_
  exact g_callVx 1 (n9 := 2) [.inl (z), .inl (y)] [] (c_memberS hz) dX6_crash_3 (gU_V uw_1_188 uw_1_190 us_0_1 uw_1_1 uw_1_191) rfl (by decide +kernel) rfl ⟨by decide, by decide⟩ (cIn_lo (by decide)) cSh_0 rfl rfl (Nat.le_of_ble_eq_true rfl) (by decide) (fun σ9 hp9 => ⟨rfl, hp9⟩)

set_option maxRecDepth 100000 in
/-- recover -/
theorem c_recoverS {R A : Nat} {σ : gSt} {z y : Int32} (hz : z < 0 ∨ nI 3 ≤ z) : gEM (cG R A) mX6_recover 1 [.inr (0), .inl (z), .inl (y)] σ (gX 1 (fun τ => τ = σ)) := by
  refine gEM_of (by decide +kernel) rfl (Nat.le_of_ble_eq_true rfl) ?_
  refine g_aload_n dX6_recover_0 rfl ?_
  refine g_iload_n dX6_recover_1 rfl ?_
  refine g_iload_n dX6_recover_2 rfl ?_
  exact g_callVx 1 (n9 := 2) [.inl (z), .inl (y)] [] (c_memberS hz) dX6_recover_3 (gU_V uw_1_188 uw_1_190 us_0_1 uw_1_1 uw_1_191) rfl (by decide +kernel) rfl ⟨by decide, by decide⟩ (cIn_lo (by decide)) cSh_0 rfl rfl (Nat.le_of_ble_eq_true rfl) (by decide) (fun σ9 hp9 => ⟨rfl, hp9⟩)
