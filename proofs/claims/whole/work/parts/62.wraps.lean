/-! THE WRAPPERS -/
def cZ (v : Int32) : Int64 := if v = 0 then 0 else 1
set_option maxRecDepth 100000 in
theorem w_prepareR {R A : Nat} {σ1 σ2 : gSt} {f : Int64} {z : Int32} {v : Int32} {P : gSt → Prop} (h : gEM (cG R A) mX6_prepare 1 [.inr (0), .inl (z)] σ1 (gR v P)) : lEM R A mL_prepare [.inr true, .inl z, .inr false] σ1 σ2 f (fun r σ' f' => r = nI 0 ∧ f' = cZ v ∧ P σ') := by
  refine lEM_of (by decide +kernel) rfl (Nat.le_of_ble_eq_true rfl) (fun ad1 o => ?_)
  show lEx R A mL_prepare _ ad1 o 1 0 [(0, Value.ref (ad1 0)), (1, Value.int z), (2, Value.ref o)] [] σ1 σ2 f _
  refine l_aload_n dL_prepare_0 (List.mem_of_getElem? (i := 2) rfl) ?_
  refine l_iconst (nI 0) dL_prepare_1 (by decide) ?_
  refine l_aload_n dL_prepare_2 (List.mem_of_getElem? (i := 0) rfl) ?_
  refine l_iload_n dL_prepare_3 (List.mem_of_getElem? (i := 1) rfl) ?_
  refine l_call (n9 := 1) [z] [.int (nI 0), .ref o] h dL_prepare_4 (gU_V uw_2_57 uw_2_58 uw_2_59 uw_1_1 uw_2_60) rfl (by decide +kernel) rfl ⟨by decide, by decide⟩ rfl (Nat.le_of_ble_eq_true rfl) (fun v9 σ9 hq9 => ?_) (fun k9 σ9 hq9 => by cases hq9.1)
  obtain ⟨ev, hP⟩ := hq9
  cases ev
  refine l_if_eq 14 dL_prepare_7 (by decide) (fun h9 => ?_) (fun h9 => ?_)
  · skip
    refine l_lconst 0 dL_prepare_14 (by decide) ?_
    refine l_last dL_prepare_15 ?_
    refine l_goto 22 dL_prepare_16 (by decide) ?_
    refine l_iconst (nI 0) dL_prepare_22 (by decide) ?_
    exact l_iret dL_prepare_23 rfl ⟨rfl, (if_pos h9).symm, hP⟩
  · skip
    refine l_lconst 1 dL_prepare_10 (by decide) ?_
    refine l_goto 15 dL_prepare_11 (by decide) ?_
    refine l_last dL_prepare_15 ?_
    refine l_goto 22 dL_prepare_16 (by decide) ?_
    refine l_iconst (nI 0) dL_prepare_22 (by decide) ?_
    exact l_iret dL_prepare_23 rfl ⟨rfl, (if_neg h9).symm, hP⟩
set_option maxRecDepth 100000 in
theorem w_prepareX {R A : Nat} {σ1 σ2 : gSt} {f : Int64} {z : Int32} {P : gSt → Prop} (h : gEM (cG R A) mX6_prepare 1 [.inr (0), .inl (z)] σ1 (gX 0 P)) : lEM R A mL_prepare [.inr true, .inl z, .inr false] σ1 σ2 f (fun r σ' f' => r = nI 1 ∧ P σ') := by
  refine lEM_of (by decide +kernel) rfl (Nat.le_of_ble_eq_true rfl) (fun ad1 o => ?_)
  show lEx R A mL_prepare _ ad1 o 1 0 [(0, Value.ref (ad1 0)), (1, Value.int z), (2, Value.ref o)] [] σ1 σ2 f _
  refine l_aload_n dL_prepare_0 (List.mem_of_getElem? (i := 2) rfl) ?_
  refine l_iconst (nI 0) dL_prepare_1 (by decide) ?_
  refine l_aload_n dL_prepare_2 (List.mem_of_getElem? (i := 0) rfl) ?_
  refine l_iload_n dL_prepare_3 (List.mem_of_getElem? (i := 1) rfl) ?_
  refine l_call (n9 := 1) [z] [.int (nI 0), .ref o] h dL_prepare_4 (gU_V uw_2_57 uw_2_58 uw_2_59 uw_1_1 uw_2_60) rfl (by decide +kernel) rfl ⟨by decide, by decide⟩ rfl (Nat.le_of_ble_eq_true rfl) (fun v9 σ9 hq9 => by cases hq9.1) (fun k9 σ9 hq9 => ?_)
  obtain ⟨ev, hP⟩ := hq9
  cases ev
  refine ⟨[], [], (0, 16, 19, 13), rfl, by decide, by decide, (List.mem_cons_of_mem _ uw_2_56), by decide +kernel, (fun z hz => by cases hz), fun q => ?_⟩
  refine l_astore_n dL_prepare_19 (by decide) ?_
  refine l_iconst (nI 1) dL_prepare_20 (by decide) ?_
  exact l_iret dL_prepare_21 rfl ⟨rfl, hP⟩
set_option maxRecDepth 100000 in
theorem w_refuseR {R A : Nat} {σ1 σ2 : gSt} {f : Int64} {z : Int32} {v : Int32} {P : gSt → Prop} (h : gEM (cG R A) mX6_refuse 1 [.inr (0), .inl (z)] σ1 (gR v P)) : lEM R A mL_refuse [.inr true, .inl z, .inr false] σ1 σ2 f (fun r σ' f' => r = nI 0 ∧ f' = cZ v ∧ P σ') := by
  refine lEM_of (by decide +kernel) rfl (Nat.le_of_ble_eq_true rfl) (fun ad1 o => ?_)
  show lEx R A mL_refuse _ ad1 o 1 0 [(0, Value.ref (ad1 0)), (1, Value.int z), (2, Value.ref o)] [] σ1 σ2 f _
  refine l_aload_n dL_refuse_0 (List.mem_of_getElem? (i := 2) rfl) ?_
  refine l_iconst (nI 0) dL_refuse_1 (by decide) ?_
  refine l_aload_n dL_refuse_2 (List.mem_of_getElem? (i := 0) rfl) ?_
  refine l_iload_n dL_refuse_3 (List.mem_of_getElem? (i := 1) rfl) ?_
  refine l_call (n9 := 1) [z] [.int (nI 0), .ref o] h dL_refuse_4 (gU_V uw_2_80 uw_2_81 uw_2_82 uw_1_1 uw_2_83) rfl (by decide +kernel) rfl ⟨by decide, by decide⟩ rfl (Nat.le_of_ble_eq_true rfl) (fun v9 σ9 hq9 => ?_) (fun k9 σ9 hq9 => by cases hq9.1)
  obtain ⟨ev, hP⟩ := hq9
  cases ev
  refine l_if_eq 14 dL_refuse_7 (by decide) (fun h9 => ?_) (fun h9 => ?_)
  · skip
    refine l_lconst 0 dL_refuse_14 (by decide) ?_
    refine l_last dL_refuse_15 ?_
    refine l_goto 22 dL_refuse_16 (by decide) ?_
    refine l_iconst (nI 0) dL_refuse_22 (by decide) ?_
    exact l_iret dL_refuse_23 rfl ⟨rfl, (if_pos h9).symm, hP⟩
  · skip
    refine l_lconst 1 dL_refuse_10 (by decide) ?_
    refine l_goto 15 dL_refuse_11 (by decide) ?_
    refine l_last dL_refuse_15 ?_
    refine l_goto 22 dL_refuse_16 (by decide) ?_
    refine l_iconst (nI 0) dL_refuse_22 (by decide) ?_
    exact l_iret dL_refuse_23 rfl ⟨rfl, (if_neg h9).symm, hP⟩
set_option maxRecDepth 100000 in
theorem w_refuseX {R A : Nat} {σ1 σ2 : gSt} {f : Int64} {z : Int32} {P : gSt → Prop} (h : gEM (cG R A) mX6_refuse 1 [.inr (0), .inl (z)] σ1 (gX 0 P)) : lEM R A mL_refuse [.inr true, .inl z, .inr false] σ1 σ2 f (fun r σ' f' => r = nI 1 ∧ P σ') := by
  refine lEM_of (by decide +kernel) rfl (Nat.le_of_ble_eq_true rfl) (fun ad1 o => ?_)
  show lEx R A mL_refuse _ ad1 o 1 0 [(0, Value.ref (ad1 0)), (1, Value.int z), (2, Value.ref o)] [] σ1 σ2 f _
  refine l_aload_n dL_refuse_0 (List.mem_of_getElem? (i := 2) rfl) ?_
  refine l_iconst (nI 0) dL_refuse_1 (by decide) ?_
  refine l_aload_n dL_refuse_2 (List.mem_of_getElem? (i := 0) rfl) ?_
  refine l_iload_n dL_refuse_3 (List.mem_of_getElem? (i := 1) rfl) ?_
  refine l_call (n9 := 1) [z] [.int (nI 0), .ref o] h dL_refuse_4 (gU_V uw_2_80 uw_2_81 uw_2_82 uw_1_1 uw_2_83) rfl (by decide +kernel) rfl ⟨by decide, by decide⟩ rfl (Nat.le_of_ble_eq_true rfl) (fun v9 σ9 hq9 => by cases hq9.1) (fun k9 σ9 hq9 => ?_)
  obtain ⟨ev, hP⟩ := hq9
  cases ev
  refine ⟨[], [], (0, 16, 19, 13), rfl, by decide, by decide, (List.mem_cons_of_mem _ uw_2_56), by decide +kernel, (fun z hz => by cases hz), fun q => ?_⟩
  refine l_astore_n dL_refuse_19 (by decide) ?_
  refine l_iconst (nI 1) dL_refuse_20 (by decide) ?_
  exact l_iret dL_refuse_21 rfl ⟨rfl, hP⟩
set_option maxRecDepth 100000 in
theorem w_resendR {R A : Nat} {σ1 σ2 : gSt} {f : Int64} {z : Int32} {v : Int32} {P : gSt → Prop} (h : gEM (cG R A) mX6_resend 1 [.inr (0), .inl (z)] σ1 (gR v P)) : lEM R A mL_resend [.inr true, .inl z, .inr false] σ1 σ2 f (fun r σ' f' => r = nI 0 ∧ f' = cZ v ∧ P σ') := by
  refine lEM_of (by decide +kernel) rfl (Nat.le_of_ble_eq_true rfl) (fun ad1 o => ?_)
  show lEx R A mL_resend _ ad1 o 1 0 [(0, Value.ref (ad1 0)), (1, Value.int z), (2, Value.ref o)] [] σ1 σ2 f _
  refine l_aload_n dL_resend_0 (List.mem_of_getElem? (i := 2) rfl) ?_
  refine l_iconst (nI 0) dL_resend_1 (by decide) ?_
  refine l_aload_n dL_resend_2 (List.mem_of_getElem? (i := 0) rfl) ?_
  refine l_iload_n dL_resend_3 (List.mem_of_getElem? (i := 1) rfl) ?_
  refine l_call (n9 := 1) [z] [.int (nI 0), .ref o] h dL_resend_4 (gU_V uw_2_87 uw_2_88 uw_2_89 uw_1_1 uw_2_90) rfl (by decide +kernel) rfl ⟨by decide, by decide⟩ rfl (Nat.le_of_ble_eq_true rfl) (fun v9 σ9 hq9 => ?_) (fun k9 σ9 hq9 => by cases hq9.1)
  obtain ⟨ev, hP⟩ := hq9
  cases ev
  refine l_if_eq 14 dL_resend_7 (by decide) (fun h9 => ?_) (fun h9 => ?_)
  · skip
    refine l_lconst 0 dL_resend_14 (by decide) ?_
    refine l_last dL_resend_15 ?_
    refine l_goto 22 dL_resend_16 (by decide) ?_
    refine l_iconst (nI 0) dL_resend_22 (by decide) ?_
    exact l_iret dL_resend_23 rfl ⟨rfl, (if_pos h9).symm, hP⟩
  · skip
    refine l_lconst 1 dL_resend_10 (by decide) ?_
    refine l_goto 15 dL_resend_11 (by decide) ?_
    refine l_last dL_resend_15 ?_
    refine l_goto 22 dL_resend_16 (by decide) ?_
    refine l_iconst (nI 0) dL_resend_22 (by decide) ?_
    exact l_iret dL_resend_23 rfl ⟨rfl, (if_neg h9).symm, hP⟩
set_option maxRecDepth 100000 in
theorem w_resendX {R A : Nat} {σ1 σ2 : gSt} {f : Int64} {z : Int32} {P : gSt → Prop} (h : gEM (cG R A) mX6_resend 1 [.inr (0), .inl (z)] σ1 (gX 0 P)) : lEM R A mL_resend [.inr true, .inl z, .inr false] σ1 σ2 f (fun r σ' f' => r = nI 1 ∧ P σ') := by
  refine lEM_of (by decide +kernel) rfl (Nat.le_of_ble_eq_true rfl) (fun ad1 o => ?_)
  show lEx R A mL_resend _ ad1 o 1 0 [(0, Value.ref (ad1 0)), (1, Value.int z), (2, Value.ref o)] [] σ1 σ2 f _
  refine l_aload_n dL_resend_0 (List.mem_of_getElem? (i := 2) rfl) ?_
  refine l_iconst (nI 0) dL_resend_1 (by decide) ?_
  refine l_aload_n dL_resend_2 (List.mem_of_getElem? (i := 0) rfl) ?_
  refine l_iload_n dL_resend_3 (List.mem_of_getElem? (i := 1) rfl) ?_
  refine l_call (n9 := 1) [z] [.int (nI 0), .ref o] h dL_resend_4 (gU_V uw_2_87 uw_2_88 uw_2_89 uw_1_1 uw_2_90) rfl (by decide +kernel) rfl ⟨by decide, by decide⟩ rfl (Nat.le_of_ble_eq_true rfl) (fun v9 σ9 hq9 => by cases hq9.1) (fun k9 σ9 hq9 => ?_)
  obtain ⟨ev, hP⟩ := hq9
  cases ev
  refine ⟨[], [], (0, 16, 19, 13), rfl, by decide, by decide, (List.mem_cons_of_mem _ uw_2_56), by decide +kernel, (fun z hz => by cases hz), fun q => ?_⟩
  refine l_astore_n dL_resend_19 (by decide) ?_
  refine l_iconst (nI 1) dL_resend_20 (by decide) ?_
  exact l_iret dL_resend_21 rfl ⟨rfl, hP⟩
set_option maxRecDepth 100000 in
theorem w_questionR {R A : Nat} {σ1 σ2 : gSt} {f : Int64} {z : Int32} {v : Int32} {P : gSt → Prop} (h : gEM (cG R A) mX6_question 1 [.inr (0), .inl (z)] σ1 (gR v P)) : lEM R A mL_question [.inr true, .inl z, .inr false] σ1 σ2 f (fun r σ' f' => r = nI 0 ∧ f' = cZ v ∧ P σ') := by
  refine lEM_of (by decide +kernel) rfl (Nat.le_of_ble_eq_true rfl) (fun ad1 o => ?_)
  show lEx R A mL_question _ ad1 o 1 0 [(0, Value.ref (ad1 0)), (1, Value.int z), (2, Value.ref o)] [] σ1 σ2 f _
  refine l_aload_n dL_question_0 (List.mem_of_getElem? (i := 2) rfl) ?_
  refine l_iconst (nI 0) dL_question_1 (by decide) ?_
  refine l_aload_n dL_question_2 (List.mem_of_getElem? (i := 0) rfl) ?_
  refine l_iload_n dL_question_3 (List.mem_of_getElem? (i := 1) rfl) ?_
  refine l_call (n9 := 1) [z] [.int (nI 0), .ref o] h dL_question_4 (gU_V uw_2_94 uw_2_95 uw_2_96 uw_1_1 uw_2_97) rfl (by decide +kernel) rfl ⟨by decide, by decide⟩ rfl (Nat.le_of_ble_eq_true rfl) (fun v9 σ9 hq9 => ?_) (fun k9 σ9 hq9 => by cases hq9.1)
  obtain ⟨ev, hP⟩ := hq9
  cases ev
  refine l_if_eq 14 dL_question_7 (by decide) (fun h9 => ?_) (fun h9 => ?_)
  · skip
    refine l_lconst 0 dL_question_14 (by decide) ?_
    refine l_last dL_question_15 ?_
    refine l_goto 22 dL_question_16 (by decide) ?_
    refine l_iconst (nI 0) dL_question_22 (by decide) ?_
    exact l_iret dL_question_23 rfl ⟨rfl, (if_pos h9).symm, hP⟩
  · skip
    refine l_lconst 1 dL_question_10 (by decide) ?_
    refine l_goto 15 dL_question_11 (by decide) ?_
    refine l_last dL_question_15 ?_
    refine l_goto 22 dL_question_16 (by decide) ?_
    refine l_iconst (nI 0) dL_question_22 (by decide) ?_
    exact l_iret dL_question_23 rfl ⟨rfl, (if_neg h9).symm, hP⟩
set_option maxRecDepth 100000 in
theorem w_questionX {R A : Nat} {σ1 σ2 : gSt} {f : Int64} {z : Int32} {P : gSt → Prop} (h : gEM (cG R A) mX6_question 1 [.inr (0), .inl (z)] σ1 (gX 0 P)) : lEM R A mL_question [.inr true, .inl z, .inr false] σ1 σ2 f (fun r σ' f' => r = nI 1 ∧ P σ') := by
  refine lEM_of (by decide +kernel) rfl (Nat.le_of_ble_eq_true rfl) (fun ad1 o => ?_)
  show lEx R A mL_question _ ad1 o 1 0 [(0, Value.ref (ad1 0)), (1, Value.int z), (2, Value.ref o)] [] σ1 σ2 f _
  refine l_aload_n dL_question_0 (List.mem_of_getElem? (i := 2) rfl) ?_
  refine l_iconst (nI 0) dL_question_1 (by decide) ?_
  refine l_aload_n dL_question_2 (List.mem_of_getElem? (i := 0) rfl) ?_
  refine l_iload_n dL_question_3 (List.mem_of_getElem? (i := 1) rfl) ?_
  refine l_call (n9 := 1) [z] [.int (nI 0), .ref o] h dL_question_4 (gU_V uw_2_94 uw_2_95 uw_2_96 uw_1_1 uw_2_97) rfl (by decide +kernel) rfl ⟨by decide, by decide⟩ rfl (Nat.le_of_ble_eq_true rfl) (fun v9 σ9 hq9 => by cases hq9.1) (fun k9 σ9 hq9 => ?_)
  obtain ⟨ev, hP⟩ := hq9
  cases ev
  refine ⟨[], [], (0, 16, 19, 13), rfl, by decide, by decide, (List.mem_cons_of_mem _ uw_2_56), by decide +kernel, (fun z hz => by cases hz), fun q => ?_⟩
  refine l_astore_n dL_question_19 (by decide) ?_
  refine l_iconst (nI 1) dL_question_20 (by decide) ?_
  exact l_iret dL_question_21 rfl ⟨rfl, hP⟩
set_option maxRecDepth 100000 in
theorem w_beginR {R A : Nat} {σ1 σ2 : gSt} {f : Int64} {z : Int32} {v : Int32} {P : gSt → Prop} (h : gEM (cG R A) mX6_begin 1 [.inr (0), .inl (z)] σ1 (gR v P)) : lEM R A mL_begin [.inr true, .inl z, .inr false] σ1 σ2 f (fun r σ' f' => r = nI 0 ∧ f' = v.toInt64 ∧ P σ') := by
  refine lEM_of (by decide +kernel) rfl (Nat.le_of_ble_eq_true rfl) (fun ad1 o => ?_)
  show lEx R A mL_begin _ ad1 o 1 0 [(0, Value.ref (ad1 0)), (1, Value.int z), (2, Value.ref o)] [] σ1 σ2 f _
  refine l_aload_n dL_begin_0 (List.mem_of_getElem? (i := 2) rfl) ?_
  refine l_iconst (nI 0) dL_begin_1 (by decide) ?_
  refine l_aload_n dL_begin_2 (List.mem_of_getElem? (i := 0) rfl) ?_
  refine l_iload_n dL_begin_3 (List.mem_of_getElem? (i := 1) rfl) ?_
  refine l_call (n9 := 1) [z] [.int (nI 0), .ref o] h dL_begin_4 (gU_V uw_2_101 uw_2_102 uw_2_103 uw_1_1 uw_2_104) rfl (by decide +kernel) rfl ⟨by decide, by decide⟩ rfl (Nat.le_of_ble_eq_true rfl) (fun v9 σ9 hq9 => ?_) (fun k9 σ9 hq9 => by cases hq9.1)
  obtain ⟨ev, hP⟩ := hq9
  cases ev
  refine l_i2l dL_begin_7 ?_
  refine l_last dL_begin_8 ?_
  refine l_goto 15 dL_begin_9 (by decide) ?_
  refine l_iconst (nI 0) dL_begin_15 (by decide) ?_
  exact l_iret dL_begin_16 rfl ⟨rfl, rfl, hP⟩
set_option maxRecDepth 100000 in
theorem w_beginX {R A : Nat} {σ1 σ2 : gSt} {f : Int64} {z : Int32} {P : gSt → Prop} (h : gEM (cG R A) mX6_begin 1 [.inr (0), .inl (z)] σ1 (gX 0 P)) : lEM R A mL_begin [.inr true, .inl z, .inr false] σ1 σ2 f (fun r σ' f' => r = nI 1 ∧ P σ') := by
  refine lEM_of (by decide +kernel) rfl (Nat.le_of_ble_eq_true rfl) (fun ad1 o => ?_)
  show lEx R A mL_begin _ ad1 o 1 0 [(0, Value.ref (ad1 0)), (1, Value.int z), (2, Value.ref o)] [] σ1 σ2 f _
  refine l_aload_n dL_begin_0 (List.mem_of_getElem? (i := 2) rfl) ?_
  refine l_iconst (nI 0) dL_begin_1 (by decide) ?_
  refine l_aload_n dL_begin_2 (List.mem_of_getElem? (i := 0) rfl) ?_
  refine l_iload_n dL_begin_3 (List.mem_of_getElem? (i := 1) rfl) ?_
  refine l_call (n9 := 1) [z] [.int (nI 0), .ref o] h dL_begin_4 (gU_V uw_2_101 uw_2_102 uw_2_103 uw_1_1 uw_2_104) rfl (by decide +kernel) rfl ⟨by decide, by decide⟩ rfl (Nat.le_of_ble_eq_true rfl) (fun v9 σ9 hq9 => by cases hq9.1) (fun k9 σ9 hq9 => ?_)
  obtain ⟨ev, hP⟩ := hq9
  cases ev
  refine ⟨[], [], (0, 9, 12, 13), rfl, by decide, by decide, (List.mem_cons_of_mem _ uw_2_56), by decide +kernel, (fun z hz => by cases hz), fun q => ?_⟩
  refine l_astore_n dL_begin_12 (by decide) ?_
  refine l_iconst (nI 1) dL_begin_13 (by decide) ?_
  exact l_iret dL_begin_14 rfl ⟨rfl, hP⟩
set_option maxRecDepth 100000 in
theorem w_deliverR {R A : Nat} {σ1 σ2 : gSt} {f : Int64} {z : Int32} {v : Int32} {P : gSt → Prop} (h : gEM (cG R A) mX6_deliver 1 [.inr (0), .inl (z)] σ1 (gR v P)) : lEM R A mL_deliver [.inr true, .inl z, .inr false] σ1 σ2 f (fun r σ' f' => r = nI 0 ∧ f' = v.toInt64 ∧ P σ') := by
  refine lEM_of (by decide +kernel) rfl (Nat.le_of_ble_eq_true rfl) (fun ad1 o => ?_)
  show lEx R A mL_deliver _ ad1 o 1 0 [(0, Value.ref (ad1 0)), (1, Value.int z), (2, Value.ref o)] [] σ1 σ2 f _
  refine l_aload_n dL_deliver_0 (List.mem_of_getElem? (i := 2) rfl) ?_
  refine l_iconst (nI 0) dL_deliver_1 (by decide) ?_
  refine l_aload_n dL_deliver_2 (List.mem_of_getElem? (i := 0) rfl) ?_
  refine l_iload_n dL_deliver_3 (List.mem_of_getElem? (i := 1) rfl) ?_
  refine l_call (n9 := 1) [z] [.int (nI 0), .ref o] h dL_deliver_4 (gU_V uw_2_122 uw_2_123 uw_2_124 uw_1_1 uw_2_125) rfl (by decide +kernel) rfl ⟨by decide, by decide⟩ rfl (Nat.le_of_ble_eq_true rfl) (fun v9 σ9 hq9 => ?_) (fun k9 σ9 hq9 => by cases hq9.1)
  obtain ⟨ev, hP⟩ := hq9
  cases ev
  refine l_i2l dL_deliver_7 ?_
  refine l_last dL_deliver_8 ?_
  refine l_goto 15 dL_deliver_9 (by decide) ?_
  refine l_iconst (nI 0) dL_deliver_15 (by decide) ?_
  exact l_iret dL_deliver_16 rfl ⟨rfl, rfl, hP⟩
set_option maxRecDepth 100000 in
theorem w_deliverX {R A : Nat} {σ1 σ2 : gSt} {f : Int64} {z : Int32} {P : gSt → Prop} (h : gEM (cG R A) mX6_deliver 1 [.inr (0), .inl (z)] σ1 (gX 0 P)) : lEM R A mL_deliver [.inr true, .inl z, .inr false] σ1 σ2 f (fun r σ' f' => r = nI 1 ∧ P σ') := by
  refine lEM_of (by decide +kernel) rfl (Nat.le_of_ble_eq_true rfl) (fun ad1 o => ?_)
  show lEx R A mL_deliver _ ad1 o 1 0 [(0, Value.ref (ad1 0)), (1, Value.int z), (2, Value.ref o)] [] σ1 σ2 f _
  refine l_aload_n dL_deliver_0 (List.mem_of_getElem? (i := 2) rfl) ?_
  refine l_iconst (nI 0) dL_deliver_1 (by decide) ?_
  refine l_aload_n dL_deliver_2 (List.mem_of_getElem? (i := 0) rfl) ?_
  refine l_iload_n dL_deliver_3 (List.mem_of_getElem? (i := 1) rfl) ?_
  refine l_call (n9 := 1) [z] [.int (nI 0), .ref o] h dL_deliver_4 (gU_V uw_2_122 uw_2_123 uw_2_124 uw_1_1 uw_2_125) rfl (by decide +kernel) rfl ⟨by decide, by decide⟩ rfl (Nat.le_of_ble_eq_true rfl) (fun v9 σ9 hq9 => by cases hq9.1) (fun k9 σ9 hq9 => ?_)
  obtain ⟨ev, hP⟩ := hq9
  cases ev
  refine ⟨[], [], (0, 9, 12, 13), rfl, by decide, by decide, (List.mem_cons_of_mem _ uw_2_56), by decide +kernel, (fun z hz => by cases hz), fun q => ?_⟩
  refine l_astore_n dL_deliver_12 (by decide) ?_
  refine l_iconst (nI 1) dL_deliver_13 (by decide) ?_
  exact l_iret dL_deliver_14 rfl ⟨rfl, hP⟩
set_option maxRecDepth 100000 in
theorem w_dropR {R A : Nat} {σ1 σ2 : gSt} {f : Int64} {z : Int32} {P : gSt → Prop} (h : gEM (cG R A) mX6_drop 1 [.inr (0), .inl (z)] σ1 (gV P)) : lEM R A mL_drop [.inr true, .inl z] σ1 σ2 f (fun r σ' f' => r = nI 0 ∧ P σ') := by
  refine lEM_of (by decide +kernel) rfl (Nat.le_of_ble_eq_true rfl) (fun ad1 o => ?_)
  show lEx R A mL_drop _ ad1 o 1 0 [(0, Value.ref (ad1 0)), (1, Value.int z)] [] σ1 σ2 f _
  refine l_aload_n dL_drop_0 (List.mem_of_getElem? (i := 0) rfl) ?_
  refine l_iload_n dL_drop_1 (List.mem_of_getElem? (i := 1) rfl) ?_
  refine l_call (n9 := 1) [z] [] h dL_drop_2 (gU_V uw_3_9 uw_3_10 uw_3_11 uw_1_1 uw_3_12) rfl (by decide +kernel) rfl ⟨by decide, by decide⟩ rfl (Nat.le_of_ble_eq_true rfl) (fun v9 σ9 hq9 => ?_) (fun k9 σ9 hq9 => by cases hq9.1)
  obtain ⟨ev, hP⟩ := hq9
  cases ev
  refine l_goto 11 dL_drop_5 (by decide) ?_
  refine l_iconst (nI 0) dL_drop_11 (by decide) ?_
  exact l_iret dL_drop_12 rfl ⟨rfl, hP⟩
set_option maxRecDepth 100000 in
theorem w_dropX {R A : Nat} {σ1 σ2 : gSt} {f : Int64} {z : Int32} {P : gSt → Prop} (h : gEM (cG R A) mX6_drop 1 [.inr (0), .inl (z)] σ1 (gX 0 P)) : lEM R A mL_drop [.inr true, .inl z] σ1 σ2 f (fun r σ' f' => r = nI 1 ∧ P σ') := by
  refine lEM_of (by decide +kernel) rfl (Nat.le_of_ble_eq_true rfl) (fun ad1 o => ?_)
  show lEx R A mL_drop _ ad1 o 1 0 [(0, Value.ref (ad1 0)), (1, Value.int z)] [] σ1 σ2 f _
  refine l_aload_n dL_drop_0 (List.mem_of_getElem? (i := 0) rfl) ?_
  refine l_iload_n dL_drop_1 (List.mem_of_getElem? (i := 1) rfl) ?_
  refine l_call (n9 := 1) [z] [] h dL_drop_2 (gU_V uw_3_9 uw_3_10 uw_3_11 uw_1_1 uw_3_12) rfl (by decide +kernel) rfl ⟨by decide, by decide⟩ rfl (Nat.le_of_ble_eq_true rfl) (fun v9 σ9 hq9 => by cases hq9.1) (fun k9 σ9 hq9 => ?_)
  obtain ⟨ev, hP⟩ := hq9
  cases ev
  refine ⟨[], [], (0, 5, 8, 13), rfl, by decide, by decide, (List.mem_cons_of_mem _ uw_2_56), by decide +kernel, (fun z hz => by cases hz), fun q => ?_⟩
  refine l_astore_n dL_drop_8 (by decide) ?_
  refine l_iconst (nI 1) dL_drop_9 (by decide) ?_
  exact l_iret dL_drop_10 rfl ⟨rfl, hP⟩
set_option maxRecDepth 100000 in
theorem w_copyR {R A : Nat} {σ1 σ2 : gSt} {f : Int64} {z : Int32} {v : Int32} {P : gSt → Prop} (h : gEM (cG R A) mX6_copy 1 [.inr (0), .inl (z)] σ1 (gR v P)) : lEM R A mL_copy [.inr true, .inl z, .inr false] σ1 σ2 f (fun r σ' f' => r = nI 0 ∧ f' = v.toInt64 ∧ P σ') := by
  refine lEM_of (by decide +kernel) rfl (Nat.le_of_ble_eq_true rfl) (fun ad1 o => ?_)
  show lEx R A mL_copy _ ad1 o 1 0 [(0, Value.ref (ad1 0)), (1, Value.int z), (2, Value.ref o)] [] σ1 σ2 f _
  refine l_aload_n dL_copy_0 (List.mem_of_getElem? (i := 2) rfl) ?_
  refine l_iconst (nI 0) dL_copy_1 (by decide) ?_
  refine l_aload_n dL_copy_2 (List.mem_of_getElem? (i := 0) rfl) ?_
  refine l_iload_n dL_copy_3 (List.mem_of_getElem? (i := 1) rfl) ?_
  refine l_call (n9 := 1) [z] [.int (nI 0), .ref o] h dL_copy_4 (gU_V uw_3_16 uw_3_17 uw_3_18 uw_1_1 uw_3_19) rfl (by decide +kernel) rfl ⟨by decide, by decide⟩ rfl (Nat.le_of_ble_eq_true rfl) (fun v9 σ9 hq9 => ?_) (fun k9 σ9 hq9 => by cases hq9.1)
  obtain ⟨ev, hP⟩ := hq9
  cases ev
  refine l_i2l dL_copy_7 ?_
  refine l_last dL_copy_8 ?_
  refine l_goto 15 dL_copy_9 (by decide) ?_
  refine l_iconst (nI 0) dL_copy_15 (by decide) ?_
  exact l_iret dL_copy_16 rfl ⟨rfl, rfl, hP⟩
set_option maxRecDepth 100000 in
theorem w_copyX {R A : Nat} {σ1 σ2 : gSt} {f : Int64} {z : Int32} {P : gSt → Prop} (h : gEM (cG R A) mX6_copy 1 [.inr (0), .inl (z)] σ1 (gX 0 P)) : lEM R A mL_copy [.inr true, .inl z, .inr false] σ1 σ2 f (fun r σ' f' => r = nI 1 ∧ P σ') := by
  refine lEM_of (by decide +kernel) rfl (Nat.le_of_ble_eq_true rfl) (fun ad1 o => ?_)
  show lEx R A mL_copy _ ad1 o 1 0 [(0, Value.ref (ad1 0)), (1, Value.int z), (2, Value.ref o)] [] σ1 σ2 f _
  refine l_aload_n dL_copy_0 (List.mem_of_getElem? (i := 2) rfl) ?_
  refine l_iconst (nI 0) dL_copy_1 (by decide) ?_
  refine l_aload_n dL_copy_2 (List.mem_of_getElem? (i := 0) rfl) ?_
  refine l_iload_n dL_copy_3 (List.mem_of_getElem? (i := 1) rfl) ?_
  refine l_call (n9 := 1) [z] [.int (nI 0), .ref o] h dL_copy_4 (gU_V uw_3_16 uw_3_17 uw_3_18 uw_1_1 uw_3_19) rfl (by decide +kernel) rfl ⟨by decide, by decide⟩ rfl (Nat.le_of_ble_eq_true rfl) (fun v9 σ9 hq9 => by cases hq9.1) (fun k9 σ9 hq9 => ?_)
  obtain ⟨ev, hP⟩ := hq9
  cases ev
  refine ⟨[], [], (0, 9, 12, 13), rfl, by decide, by decide, (List.mem_cons_of_mem _ uw_2_56), by decide +kernel, (fun z hz => by cases hz), fun q => ?_⟩
  refine l_astore_n dL_copy_12 (by decide) ?_
  refine l_iconst (nI 1) dL_copy_13 (by decide) ?_
  exact l_iret dL_copy_14 rfl ⟨rfl, hP⟩
set_option maxRecDepth 100000 in
theorem w_calmR {R A : Nat} {σ1 σ2 : gSt} {f : Int64} {z : Int32} {v : Int32} {P : gSt → Prop} (h : gEM (cG R A) mX6_calm 1 [.inr (0), .inl (z)] σ1 (gR v P)) : lEM R A mL_calm [.inr true, .inl z, .inr false] σ1 σ2 f (fun r σ' f' => r = nI 0 ∧ f' = v.toInt64 ∧ P σ') := by
  refine lEM_of (by decide +kernel) rfl (Nat.le_of_ble_eq_true rfl) (fun ad1 o => ?_)
  show lEx R A mL_calm _ ad1 o 1 0 [(0, Value.ref (ad1 0)), (1, Value.int z), (2, Value.ref o)] [] σ1 σ2 f _
  refine l_aload_n dL_calm_0 (List.mem_of_getElem? (i := 2) rfl) ?_
  refine l_iconst (nI 0) dL_calm_1 (by decide) ?_
  refine l_aload_n dL_calm_2 (List.mem_of_getElem? (i := 0) rfl) ?_
  refine l_iload_n dL_calm_3 (List.mem_of_getElem? (i := 1) rfl) ?_
  refine l_call (n9 := 1) [z] [.int (nI 0), .ref o] h dL_calm_4 (gU_V uw_3_28 uw_3_29 uw_3_30 uw_1_1 uw_3_31) rfl (by decide +kernel) rfl ⟨by decide, by decide⟩ rfl (Nat.le_of_ble_eq_true rfl) (fun v9 σ9 hq9 => ?_) (fun k9 σ9 hq9 => by cases hq9.1)
  obtain ⟨ev, hP⟩ := hq9
  cases ev
  refine l_i2l dL_calm_7 ?_
  refine l_last dL_calm_8 ?_
  refine l_goto 15 dL_calm_9 (by decide) ?_
  refine l_iconst (nI 0) dL_calm_15 (by decide) ?_
  exact l_iret dL_calm_16 rfl ⟨rfl, rfl, hP⟩
set_option maxRecDepth 100000 in
theorem w_calmX {R A : Nat} {σ1 σ2 : gSt} {f : Int64} {z : Int32} {P : gSt → Prop} (h : gEM (cG R A) mX6_calm 1 [.inr (0), .inl (z)] σ1 (gX 1 P)) : lEM R A mL_calm [.inr true, .inl z, .inr false] σ1 σ2 f (fun r σ' f' => r = nI 1 ∧ P σ') := by
  refine lEM_of (by decide +kernel) rfl (Nat.le_of_ble_eq_true rfl) (fun ad1 o => ?_)
  show lEx R A mL_calm _ ad1 o 1 0 [(0, Value.ref (ad1 0)), (1, Value.int z), (2, Value.ref o)] [] σ1 σ2 f _
  refine l_aload_n dL_calm_0 (List.mem_of_getElem? (i := 2) rfl) ?_
  refine l_iconst (nI 0) dL_calm_1 (by decide) ?_
  refine l_aload_n dL_calm_2 (List.mem_of_getElem? (i := 0) rfl) ?_
  refine l_iload_n dL_calm_3 (List.mem_of_getElem? (i := 1) rfl) ?_
  refine l_call (n9 := 1) [z] [.int (nI 0), .ref o] h dL_calm_4 (gU_V uw_3_28 uw_3_29 uw_3_30 uw_1_1 uw_3_31) rfl (by decide +kernel) rfl ⟨by decide, by decide⟩ rfl (Nat.le_of_ble_eq_true rfl) (fun v9 σ9 hq9 => by cases hq9.1) (fun k9 σ9 hq9 => ?_)
  obtain ⟨ev, hP⟩ := hq9
  cases ev
  refine ⟨[], [], (0, 9, 12, 41), rfl, by decide, by decide, (List.mem_cons_of_mem _ uw_3_27), by decide +kernel, (fun z hz => by cases hz), fun q => ?_⟩
  refine l_astore_n dL_calm_12 (by decide) ?_
  refine l_iconst (nI 1) dL_calm_13 (by decide) ?_
  exact l_iret dL_calm_14 rfl ⟨rfl, hP⟩
set_option maxRecDepth 100000 in
theorem w_crashR {R A : Nat} {σ1 σ2 : gSt} {f : Int64} {z y : Int32} {v : Int32} {P : gSt → Prop} (h : gEM (cG R A) mX6_crash 1 [.inr (0), .inl (z), .inl (y)] σ1 (gR v P)) : lEM R A mL_crash [.inr true, .inl z, .inl y, .inr false] σ1 σ2 f (fun r σ' f' => r = nI 0 ∧ f' = cZ v ∧ P σ') := by
  refine lEM_of (by decide +kernel) rfl (Nat.le_of_ble_eq_true rfl) (fun ad1 o => ?_)
  show lEx R A mL_crash _ ad1 o 1 0 [(0, Value.ref (ad1 0)), (1, Value.int z), (2, Value.int y), (3, Value.ref o)] [] σ1 σ2 f _
  refine l_aload_n dL_crash_0 (List.mem_of_getElem? (i := 3) rfl) ?_
  refine l_iconst (nI 0) dL_crash_1 (by decide) ?_
  refine l_aload_n dL_crash_2 (List.mem_of_getElem? (i := 0) rfl) ?_
  refine l_iload_n dL_crash_3 (List.mem_of_getElem? (i := 1) rfl) ?_
  refine l_iload_n dL_crash_4 (List.mem_of_getElem? (i := 2) rfl) ?_
  refine l_call (n9 := 2) [z, y] [.int (nI 0), .ref o] h dL_crash_5 (gU_V uw_3_36 uw_3_37 uw_3_38 uw_1_1 uw_3_39) rfl (by decide +kernel) rfl ⟨by decide, by decide⟩ rfl (Nat.le_of_ble_eq_true rfl) (fun v9 σ9 hq9 => ?_) (fun k9 σ9 hq9 => by cases hq9.1)
  obtain ⟨ev, hP⟩ := hq9
  cases ev
  refine l_if_eq 15 dL_crash_8 (by decide) (fun h9 => ?_) (fun h9 => ?_)
  · skip
    refine l_lconst 0 dL_crash_15 (by decide) ?_
    refine l_last dL_crash_16 ?_
    refine l_goto 28 dL_crash_17 (by decide) ?_
    refine l_iconst (nI 0) dL_crash_28 (by decide) ?_
    exact l_iret dL_crash_29 rfl ⟨rfl, (if_pos h9).symm, hP⟩
  · skip
    refine l_lconst 1 dL_crash_11 (by decide) ?_
    refine l_goto 16 dL_crash_12 (by decide) ?_
    refine l_last dL_crash_16 ?_
    refine l_goto 28 dL_crash_17 (by decide) ?_
    refine l_iconst (nI 0) dL_crash_28 (by decide) ?_
    exact l_iret dL_crash_29 rfl ⟨rfl, (if_neg h9).symm, hP⟩
set_option maxRecDepth 100000 in
theorem w_crashX0 {R A : Nat} {σ1 σ2 : gSt} {f : Int64} {z y : Int32} {P : gSt → Prop} (h : gEM (cG R A) mX6_crash 1 [.inr (0), .inl (z), .inl (y)] σ1 (gX 0 P)) : lEM R A mL_crash [.inr true, .inl z, .inl y, .inr false] σ1 σ2 f (fun r σ' f' => r = nI 2 ∧ P σ') := by
  refine lEM_of (by decide +kernel) rfl (Nat.le_of_ble_eq_true rfl) (fun ad1 o => ?_)
  show lEx R A mL_crash _ ad1 o 1 0 [(0, Value.ref (ad1 0)), (1, Value.int z), (2, Value.int y), (3, Value.ref o)] [] σ1 σ2 f _
  refine l_aload_n dL_crash_0 (List.mem_of_getElem? (i := 3) rfl) ?_
  refine l_iconst (nI 0) dL_crash_1 (by decide) ?_
  refine l_aload_n dL_crash_2 (List.mem_of_getElem? (i := 0) rfl) ?_
  refine l_iload_n dL_crash_3 (List.mem_of_getElem? (i := 1) rfl) ?_
  refine l_iload_n dL_crash_4 (List.mem_of_getElem? (i := 2) rfl) ?_
  refine l_call (n9 := 2) [z, y] [.int (nI 0), .ref o] h dL_crash_5 (gU_V uw_3_36 uw_3_37 uw_3_38 uw_1_1 uw_3_39) rfl (by decide +kernel) rfl ⟨by decide, by decide⟩ rfl (Nat.le_of_ble_eq_true rfl) (fun v9 σ9 hq9 => by cases hq9.1) (fun k9 σ9 hq9 => ?_)
  obtain ⟨ev, hP⟩ := hq9
  cases ev
  refine ⟨[(0, 17, 20, 41)], [], (0, 17, 24, 13), rfl, by decide, by decide, (List.mem_cons_of_mem _ uw_2_56), by decide +kernel, (fun z hz => by
    rw [List.mem_singleton.mp hz]
    exact ⟨by decide, rfl, (List.mem_cons_of_mem _ uw_3_27)⟩), fun q => ?_⟩
  refine l_astore dL_crash_24 (by decide) ?_
  refine l_iconst (nI 2) dL_crash_26 (by decide) ?_
  exact l_iret dL_crash_27 rfl ⟨rfl, hP⟩
set_option maxRecDepth 100000 in
theorem w_crashX1 {R A : Nat} {σ1 σ2 : gSt} {f : Int64} {z y : Int32} {P : gSt → Prop} (h : gEM (cG R A) mX6_crash 1 [.inr (0), .inl (z), .inl (y)] σ1 (gX 1 P)) : lEM R A mL_crash [.inr true, .inl z, .inl y, .inr false] σ1 σ2 f (fun r σ' f' => r = nI 1 ∧ P σ') := by
  refine lEM_of (by decide +kernel) rfl (Nat.le_of_ble_eq_true rfl) (fun ad1 o => ?_)
  show lEx R A mL_crash _ ad1 o 1 0 [(0, Value.ref (ad1 0)), (1, Value.int z), (2, Value.int y), (3, Value.ref o)] [] σ1 σ2 f _
  refine l_aload_n dL_crash_0 (List.mem_of_getElem? (i := 3) rfl) ?_
  refine l_iconst (nI 0) dL_crash_1 (by decide) ?_
  refine l_aload_n dL_crash_2 (List.mem_of_getElem? (i := 0) rfl) ?_
  refine l_iload_n dL_crash_3 (List.mem_of_getElem? (i := 1) rfl) ?_
  refine l_iload_n dL_crash_4 (List.mem_of_getElem? (i := 2) rfl) ?_
  refine l_call (n9 := 2) [z, y] [.int (nI 0), .ref o] h dL_crash_5 (gU_V uw_3_36 uw_3_37 uw_3_38 uw_1_1 uw_3_39) rfl (by decide +kernel) rfl ⟨by decide, by decide⟩ rfl (Nat.le_of_ble_eq_true rfl) (fun v9 σ9 hq9 => by cases hq9.1) (fun k9 σ9 hq9 => ?_)
  obtain ⟨ev, hP⟩ := hq9
  cases ev
  refine ⟨[], [(0, 17, 24, 13)], (0, 17, 20, 41), rfl, by decide, by decide, (List.mem_cons_of_mem _ uw_3_27), by decide +kernel, (fun z hz => by cases hz), fun q => ?_⟩
  refine l_astore dL_crash_20 (by decide) ?_
  refine l_iconst (nI 1) dL_crash_22 (by decide) ?_
  exact l_iret dL_crash_23 rfl ⟨rfl, hP⟩
set_option maxRecDepth 100000 in
theorem w_recoverR {R A : Nat} {σ1 σ2 : gSt} {f : Int64} {z y : Int32} {v : Int32} {P : gSt → Prop} (h : gEM (cG R A) mX6_recover 1 [.inr (0), .inl (z), .inl (y)] σ1 (gR v P)) : lEM R A mL_recover [.inr true, .inl z, .inl y, .inr false] σ1 σ2 f (fun r σ' f' => r = nI 0 ∧ f' = cZ v ∧ P σ') := by
  refine lEM_of (by decide +kernel) rfl (Nat.le_of_ble_eq_true rfl) (fun ad1 o => ?_)
  show lEx R A mL_recover _ ad1 o 1 0 [(0, Value.ref (ad1 0)), (1, Value.int z), (2, Value.int y), (3, Value.ref o)] [] σ1 σ2 f _
  refine l_aload_n dL_recover_0 (List.mem_of_getElem? (i := 3) rfl) ?_
  refine l_iconst (nI 0) dL_recover_1 (by decide) ?_
  refine l_aload_n dL_recover_2 (List.mem_of_getElem? (i := 0) rfl) ?_
  refine l_iload_n dL_recover_3 (List.mem_of_getElem? (i := 1) rfl) ?_
  refine l_iload_n dL_recover_4 (List.mem_of_getElem? (i := 2) rfl) ?_
  refine l_call (n9 := 2) [z, y] [.int (nI 0), .ref o] h dL_recover_5 (gU_V uw_3_52 uw_3_53 uw_3_54 uw_1_1 uw_3_55) rfl (by decide +kernel) rfl ⟨by decide, by decide⟩ rfl (Nat.le_of_ble_eq_true rfl) (fun v9 σ9 hq9 => ?_) (fun k9 σ9 hq9 => by cases hq9.1)
  obtain ⟨ev, hP⟩ := hq9
  cases ev
  refine l_if_eq 15 dL_recover_8 (by decide) (fun h9 => ?_) (fun h9 => ?_)
  · skip
    refine l_lconst 0 dL_recover_15 (by decide) ?_
    refine l_last dL_recover_16 ?_
    refine l_goto 28 dL_recover_17 (by decide) ?_
    refine l_iconst (nI 0) dL_recover_28 (by decide) ?_
    exact l_iret dL_recover_29 rfl ⟨rfl, (if_pos h9).symm, hP⟩
  · skip
    refine l_lconst 1 dL_recover_11 (by decide) ?_
    refine l_goto 16 dL_recover_12 (by decide) ?_
    refine l_last dL_recover_16 ?_
    refine l_goto 28 dL_recover_17 (by decide) ?_
    refine l_iconst (nI 0) dL_recover_28 (by decide) ?_
    exact l_iret dL_recover_29 rfl ⟨rfl, (if_neg h9).symm, hP⟩
set_option maxRecDepth 100000 in
theorem w_recoverX0 {R A : Nat} {σ1 σ2 : gSt} {f : Int64} {z y : Int32} {P : gSt → Prop} (h : gEM (cG R A) mX6_recover 1 [.inr (0), .inl (z), .inl (y)] σ1 (gX 0 P)) : lEM R A mL_recover [.inr true, .inl z, .inl y, .inr false] σ1 σ2 f (fun r σ' f' => r = nI 2 ∧ P σ') := by
  refine lEM_of (by decide +kernel) rfl (Nat.le_of_ble_eq_true rfl) (fun ad1 o => ?_)
  show lEx R A mL_recover _ ad1 o 1 0 [(0, Value.ref (ad1 0)), (1, Value.int z), (2, Value.int y), (3, Value.ref o)] [] σ1 σ2 f _
  refine l_aload_n dL_recover_0 (List.mem_of_getElem? (i := 3) rfl) ?_
  refine l_iconst (nI 0) dL_recover_1 (by decide) ?_
  refine l_aload_n dL_recover_2 (List.mem_of_getElem? (i := 0) rfl) ?_
  refine l_iload_n dL_recover_3 (List.mem_of_getElem? (i := 1) rfl) ?_
  refine l_iload_n dL_recover_4 (List.mem_of_getElem? (i := 2) rfl) ?_
  refine l_call (n9 := 2) [z, y] [.int (nI 0), .ref o] h dL_recover_5 (gU_V uw_3_52 uw_3_53 uw_3_54 uw_1_1 uw_3_55) rfl (by decide +kernel) rfl ⟨by decide, by decide⟩ rfl (Nat.le_of_ble_eq_true rfl) (fun v9 σ9 hq9 => by cases hq9.1) (fun k9 σ9 hq9 => ?_)
  obtain ⟨ev, hP⟩ := hq9
  cases ev
  refine ⟨[(0, 17, 20, 41)], [], (0, 17, 24, 13), rfl, by decide, by decide, (List.mem_cons_of_mem _ uw_2_56), by decide +kernel, (fun z hz => by
    rw [List.mem_singleton.mp hz]
    exact ⟨by decide, rfl, (List.mem_cons_of_mem _ uw_3_27)⟩), fun q => ?_⟩
  refine l_astore dL_recover_24 (by decide) ?_
  refine l_iconst (nI 2) dL_recover_26 (by decide) ?_
  exact l_iret dL_recover_27 rfl ⟨rfl, hP⟩
set_option maxRecDepth 100000 in
theorem w_recoverX1 {R A : Nat} {σ1 σ2 : gSt} {f : Int64} {z y : Int32} {P : gSt → Prop} (h : gEM (cG R A) mX6_recover 1 [.inr (0), .inl (z), .inl (y)] σ1 (gX 1 P)) : lEM R A mL_recover [.inr true, .inl z, .inl y, .inr false] σ1 σ2 f (fun r σ' f' => r = nI 1 ∧ P σ') := by
  refine lEM_of (by decide +kernel) rfl (Nat.le_of_ble_eq_true rfl) (fun ad1 o => ?_)
  show lEx R A mL_recover _ ad1 o 1 0 [(0, Value.ref (ad1 0)), (1, Value.int z), (2, Value.int y), (3, Value.ref o)] [] σ1 σ2 f _
  refine l_aload_n dL_recover_0 (List.mem_of_getElem? (i := 3) rfl) ?_
  refine l_iconst (nI 0) dL_recover_1 (by decide) ?_
  refine l_aload_n dL_recover_2 (List.mem_of_getElem? (i := 0) rfl) ?_
  refine l_iload_n dL_recover_3 (List.mem_of_getElem? (i := 1) rfl) ?_
  refine l_iload_n dL_recover_4 (List.mem_of_getElem? (i := 2) rfl) ?_
  refine l_call (n9 := 2) [z, y] [.int (nI 0), .ref o] h dL_recover_5 (gU_V uw_3_52 uw_3_53 uw_3_54 uw_1_1 uw_3_55) rfl (by decide +kernel) rfl ⟨by decide, by decide⟩ rfl (Nat.le_of_ble_eq_true rfl) (fun v9 σ9 hq9 => by cases hq9.1) (fun k9 σ9 hq9 => ?_)
  obtain ⟨ev, hP⟩ := hq9
  cases ev
  refine ⟨[], [(0, 17, 24, 13)], (0, 17, 20, 41), rfl, by decide, by decide, (List.mem_cons_of_mem _ uw_3_27), by decide +kernel, (fun z hz => by cases hz), fun q => ?_⟩
  refine l_astore dL_recover_20 (by decide) ?_
  refine l_iconst (nI 1) dL_recover_22 (by decide) ?_
  exact l_iret dL_recover_23 rfl ⟨rfl, hP⟩
set_option maxRecDepth 100000 in
theorem w_messageR {R A : Nat} {σ1 σ2 : gSt} {f : Int64} {z y : Int32} {v : Int32} {P : gSt → Prop} (h : gEM (cG R A) mX6_message 1 [.inr (0), .inl (z), .inl (y)] σ1 (gR v P)) : lEM R A mL_message [.inr true, .inl z, .inl y, .inr false] σ1 σ2 f (fun r σ' f' => r = nI 0 ∧ f' = v.toInt64 ∧ P σ') := by
  refine lEM_of (by decide +kernel) rfl (Nat.le_of_ble_eq_true rfl) (fun ad1 o => ?_)
  show lEx R A mL_message _ ad1 o 1 0 [(0, Value.ref (ad1 0)), (1, Value.int z), (2, Value.int y), (3, Value.ref o)] [] σ1 σ2 f _
  refine l_aload_n dL_message_0 (List.mem_of_getElem? (i := 3) rfl) ?_
  refine l_iconst (nI 0) dL_message_1 (by decide) ?_
  refine l_aload_n dL_message_2 (List.mem_of_getElem? (i := 0) rfl) ?_
  refine l_iload_n dL_message_3 (List.mem_of_getElem? (i := 1) rfl) ?_
  refine l_iload_n dL_message_4 (List.mem_of_getElem? (i := 2) rfl) ?_
  refine l_call (n9 := 2) [z, y] [.int (nI 0), .ref o] h dL_message_5 (gU_V uw_3_59 uw_3_60 uw_3_61 uw_1_1 uw_3_62) rfl (by decide +kernel) rfl ⟨by decide, by decide⟩ rfl (Nat.le_of_ble_eq_true rfl) (fun v9 σ9 hq9 => ?_) (fun k9 σ9 hq9 => by cases hq9.1)
  obtain ⟨ev, hP⟩ := hq9
  cases ev
  refine l_i2l dL_message_8 ?_
  refine l_last dL_message_9 ?_
  refine l_goto 17 dL_message_10 (by decide) ?_
  refine l_iconst (nI 0) dL_message_17 (by decide) ?_
  exact l_iret dL_message_18 rfl ⟨rfl, rfl, hP⟩
set_option maxRecDepth 100000 in
theorem w_messageX {R A : Nat} {σ1 σ2 : gSt} {f : Int64} {z y : Int32} {P : gSt → Prop} (h : gEM (cG R A) mX6_message 1 [.inr (0), .inl (z), .inl (y)] σ1 (gX 0 P)) : lEM R A mL_message [.inr true, .inl z, .inl y, .inr false] σ1 σ2 f (fun r σ' f' => r = nI 1 ∧ P σ') := by
  refine lEM_of (by decide +kernel) rfl (Nat.le_of_ble_eq_true rfl) (fun ad1 o => ?_)
  show lEx R A mL_message _ ad1 o 1 0 [(0, Value.ref (ad1 0)), (1, Value.int z), (2, Value.int y), (3, Value.ref o)] [] σ1 σ2 f _
  refine l_aload_n dL_message_0 (List.mem_of_getElem? (i := 3) rfl) ?_
  refine l_iconst (nI 0) dL_message_1 (by decide) ?_
  refine l_aload_n dL_message_2 (List.mem_of_getElem? (i := 0) rfl) ?_
  refine l_iload_n dL_message_3 (List.mem_of_getElem? (i := 1) rfl) ?_
  refine l_iload_n dL_message_4 (List.mem_of_getElem? (i := 2) rfl) ?_
  refine l_call (n9 := 2) [z, y] [.int (nI 0), .ref o] h dL_message_5 (gU_V uw_3_59 uw_3_60 uw_3_61 uw_1_1 uw_3_62) rfl (by decide +kernel) rfl ⟨by decide, by decide⟩ rfl (Nat.le_of_ble_eq_true rfl) (fun v9 σ9 hq9 => by cases hq9.1) (fun k9 σ9 hq9 => ?_)
  obtain ⟨ev, hP⟩ := hq9
  cases ev
  refine ⟨[], [], (0, 10, 13, 13), rfl, by decide, by decide, (List.mem_cons_of_mem _ uw_2_56), by decide +kernel, (fun z hz => by cases hz), fun q => ?_⟩
  refine l_astore dL_message_13 (by decide) ?_
  refine l_iconst (nI 1) dL_message_15 (by decide) ?_
  exact l_iret dL_message_16 rfl ⟨rfl, hP⟩
set_option maxRecDepth 100000 in
theorem w_toldR {R A : Nat} {σ1 σ2 : gSt} {f : Int64} {z y x : Int32} {v : Int32} {P : gSt → Prop} (h : gEM (cG R A) mX6_told 1 [.inr (0), .inl (z), .inl (y), .inl (x)] σ1 (gR v P)) : lEM R A mL_told [.inr true, .inl z, .inl y, .inl x, .inr false] σ1 σ2 f (fun r σ' f' => r = nI 0 ∧ f' = v.toInt64 ∧ P σ') := by
  refine lEM_of (by decide +kernel) rfl (Nat.le_of_ble_eq_true rfl) (fun ad1 o => ?_)
  show lEx R A mL_told _ ad1 o 1 0 [(0, Value.ref (ad1 0)), (1, Value.int z), (2, Value.int y), (3, Value.int x), (4, Value.ref o)] [] σ1 σ2 f _
  refine l_aload dL_told_0 (List.mem_of_getElem? (i := 4) rfl) ?_
  refine l_iconst (nI 0) dL_told_2 (by decide) ?_
  refine l_aload_n dL_told_3 (List.mem_of_getElem? (i := 0) rfl) ?_
  refine l_iload_n dL_told_4 (List.mem_of_getElem? (i := 1) rfl) ?_
  refine l_iload_n dL_told_5 (List.mem_of_getElem? (i := 2) rfl) ?_
  refine l_iload_n dL_told_6 (List.mem_of_getElem? (i := 3) rfl) ?_
  refine l_call (n9 := 3) [z, y, x] [.int (nI 0), .ref o] h dL_told_7 (gU_V uw_3_66 uw_3_67 uw_3_68 uw_1_1 uw_3_69) rfl (by decide +kernel) rfl ⟨by decide, by decide⟩ rfl (Nat.le_of_ble_eq_true rfl) (fun v9 σ9 hq9 => ?_) (fun k9 σ9 hq9 => by cases hq9.1)
  obtain ⟨ev, hP⟩ := hq9
  cases ev
  refine l_i2l dL_told_10 ?_
  refine l_last dL_told_11 ?_
  refine l_goto 19 dL_told_12 (by decide) ?_
  refine l_iconst (nI 0) dL_told_19 (by decide) ?_
  exact l_iret dL_told_20 rfl ⟨rfl, rfl, hP⟩
set_option maxRecDepth 100000 in
theorem w_toldX {R A : Nat} {σ1 σ2 : gSt} {f : Int64} {z y x : Int32} {P : gSt → Prop} (h : gEM (cG R A) mX6_told 1 [.inr (0), .inl (z), .inl (y), .inl (x)] σ1 (gX 0 P)) : lEM R A mL_told [.inr true, .inl z, .inl y, .inl x, .inr false] σ1 σ2 f (fun r σ' f' => r = nI 1 ∧ P σ') := by
  refine lEM_of (by decide +kernel) rfl (Nat.le_of_ble_eq_true rfl) (fun ad1 o => ?_)
  show lEx R A mL_told _ ad1 o 1 0 [(0, Value.ref (ad1 0)), (1, Value.int z), (2, Value.int y), (3, Value.int x), (4, Value.ref o)] [] σ1 σ2 f _
  refine l_aload dL_told_0 (List.mem_of_getElem? (i := 4) rfl) ?_
  refine l_iconst (nI 0) dL_told_2 (by decide) ?_
  refine l_aload_n dL_told_3 (List.mem_of_getElem? (i := 0) rfl) ?_
  refine l_iload_n dL_told_4 (List.mem_of_getElem? (i := 1) rfl) ?_
  refine l_iload_n dL_told_5 (List.mem_of_getElem? (i := 2) rfl) ?_
  refine l_iload_n dL_told_6 (List.mem_of_getElem? (i := 3) rfl) ?_
  refine l_call (n9 := 3) [z, y, x] [.int (nI 0), .ref o] h dL_told_7 (gU_V uw_3_66 uw_3_67 uw_3_68 uw_1_1 uw_3_69) rfl (by decide +kernel) rfl ⟨by decide, by decide⟩ rfl (Nat.le_of_ble_eq_true rfl) (fun v9 σ9 hq9 => by cases hq9.1) (fun k9 σ9 hq9 => ?_)
  obtain ⟨ev, hP⟩ := hq9
  cases ev
  refine ⟨[], [], (0, 12, 15, 13), rfl, by decide, by decide, (List.mem_cons_of_mem _ uw_2_56), by decide +kernel, (fun z hz => by cases hz), fun q => ?_⟩
  refine l_astore dL_told_15 (by decide) ?_
  refine l_iconst (nI 1) dL_told_17 (by decide) ?_
  exact l_iret dL_told_18 rfl ⟨rfl, hP⟩
set_option maxRecDepth 100000 in
theorem w_managerR {R A : Nat} {σ1 σ2 : gSt} {f : Int64} {z y : Int32} {v : Int32} {P : gSt → Prop} (h : gEM (cG R A) mX6_manager 1 [.inr (0), .inl (z), .inl (y)] σ1 (gR v P)) : lEM R A mL_manager [.inr true, .inl z, .inl y, .inr false] σ1 σ2 f (fun r σ' f' => r = nI 0 ∧ f' = v.toInt64 ∧ P σ') := by
  refine lEM_of (by decide +kernel) rfl (Nat.le_of_ble_eq_true rfl) (fun ad1 o => ?_)
  show lEx R A mL_manager _ ad1 o 1 0 [(0, Value.ref (ad1 0)), (1, Value.int z), (2, Value.int y), (3, Value.ref o)] [] σ1 σ2 f _
  refine l_aload_n dL_manager_0 (List.mem_of_getElem? (i := 3) rfl) ?_
  refine l_iconst (nI 0) dL_manager_1 (by decide) ?_
  refine l_aload_n dL_manager_2 (List.mem_of_getElem? (i := 0) rfl) ?_
  refine l_iload_n dL_manager_3 (List.mem_of_getElem? (i := 1) rfl) ?_
  refine l_iload_n dL_manager_4 (List.mem_of_getElem? (i := 2) rfl) ?_
  refine l_call (n9 := 2) [z, y] [.int (nI 0), .ref o] h dL_manager_5 (gU_V uw_3_74 uw_3_75 uw_3_76 uw_1_1 uw_3_77) rfl (by decide +kernel) rfl ⟨by decide, by decide⟩ rfl (Nat.le_of_ble_eq_true rfl) (fun v9 σ9 hq9 => ?_) (fun k9 σ9 hq9 => by cases hq9.1)
  obtain ⟨ev, hP⟩ := hq9
  cases ev
  refine l_i2l dL_manager_8 ?_
  refine l_last dL_manager_9 ?_
  refine l_goto 17 dL_manager_10 (by decide) ?_
  refine l_iconst (nI 0) dL_manager_17 (by decide) ?_
  exact l_iret dL_manager_18 rfl ⟨rfl, rfl, hP⟩
set_option maxRecDepth 100000 in
theorem w_managerX {R A : Nat} {σ1 σ2 : gSt} {f : Int64} {z y : Int32} {P : gSt → Prop} (h : gEM (cG R A) mX6_manager 1 [.inr (0), .inl (z), .inl (y)] σ1 (gX 0 P)) : lEM R A mL_manager [.inr true, .inl z, .inl y, .inr false] σ1 σ2 f (fun r σ' f' => r = nI 1 ∧ P σ') := by
  refine lEM_of (by decide +kernel) rfl (Nat.le_of_ble_eq_true rfl) (fun ad1 o => ?_)
  show lEx R A mL_manager _ ad1 o 1 0 [(0, Value.ref (ad1 0)), (1, Value.int z), (2, Value.int y), (3, Value.ref o)] [] σ1 σ2 f _
  refine l_aload_n dL_manager_0 (List.mem_of_getElem? (i := 3) rfl) ?_
  refine l_iconst (nI 0) dL_manager_1 (by decide) ?_
  refine l_aload_n dL_manager_2 (List.mem_of_getElem? (i := 0) rfl) ?_
  refine l_iload_n dL_manager_3 (List.mem_of_getElem? (i := 1) rfl) ?_
  refine l_iload_n dL_manager_4 (List.mem_of_getElem? (i := 2) rfl) ?_
  refine l_call (n9 := 2) [z, y] [.int (nI 0), .ref o] h dL_manager_5 (gU_V uw_3_74 uw_3_75 uw_3_76 uw_1_1 uw_3_77) rfl (by decide +kernel) rfl ⟨by decide, by decide⟩ rfl (Nat.le_of_ble_eq_true rfl) (fun v9 σ9 hq9 => by cases hq9.1) (fun k9 σ9 hq9 => ?_)
  obtain ⟨ev, hP⟩ := hq9
  cases ev
  refine ⟨[], [], (0, 10, 13, 13), rfl, by decide, by decide, (List.mem_cons_of_mem _ uw_2_56), by decide +kernel, (fun z hz => by cases hz), fun q => ?_⟩
  refine l_astore dL_manager_13 (by decide) ?_
  refine l_iconst (nI 1) dL_manager_15 (by decide) ?_
  exact l_iret dL_manager_16 rfl ⟨rfl, hP⟩
set_option maxRecDepth 100000 in
theorem w_acceptorR {R A : Nat} {σ1 σ2 : gSt} {f : Int64} {z y x : Int32} {v : Int32} {P : gSt → Prop} (h : gEM (cG R A) mX6_acceptor 1 [.inr (0), .inl (z), .inl (y), .inl (x)] σ1 (gR v P)) : lEM R A mL_acceptor [.inr true, .inl z, .inl y, .inl x, .inr false] σ1 σ2 f (fun r σ' f' => r = nI 0 ∧ f' = v.toInt64 ∧ P σ') := by
  refine lEM_of (by decide +kernel) rfl (Nat.le_of_ble_eq_true rfl) (fun ad1 o => ?_)
  show lEx R A mL_acceptor _ ad1 o 1 0 [(0, Value.ref (ad1 0)), (1, Value.int z), (2, Value.int y), (3, Value.int x), (4, Value.ref o)] [] σ1 σ2 f _
  refine l_aload dL_acceptor_0 (List.mem_of_getElem? (i := 4) rfl) ?_
  refine l_iconst (nI 0) dL_acceptor_2 (by decide) ?_
  refine l_aload_n dL_acceptor_3 (List.mem_of_getElem? (i := 0) rfl) ?_
  refine l_iload_n dL_acceptor_4 (List.mem_of_getElem? (i := 1) rfl) ?_
  refine l_iload_n dL_acceptor_5 (List.mem_of_getElem? (i := 2) rfl) ?_
  refine l_iload_n dL_acceptor_6 (List.mem_of_getElem? (i := 3) rfl) ?_
  refine l_call (n9 := 3) [z, y, x] [.int (nI 0), .ref o] h dL_acceptor_7 (gU_V uw_3_81 uw_3_82 uw_3_83 uw_1_1 uw_3_84) rfl (by decide +kernel) rfl ⟨by decide, by decide⟩ rfl (Nat.le_of_ble_eq_true rfl) (fun v9 σ9 hq9 => ?_) (fun k9 σ9 hq9 => by cases hq9.1)
  obtain ⟨ev, hP⟩ := hq9
  cases ev
  refine l_i2l dL_acceptor_10 ?_
  refine l_last dL_acceptor_11 ?_
  refine l_goto 19 dL_acceptor_12 (by decide) ?_
  refine l_iconst (nI 0) dL_acceptor_19 (by decide) ?_
  exact l_iret dL_acceptor_20 rfl ⟨rfl, rfl, hP⟩
set_option maxRecDepth 100000 in
theorem w_acceptorX {R A : Nat} {σ1 σ2 : gSt} {f : Int64} {z y x : Int32} {P : gSt → Prop} (h : gEM (cG R A) mX6_acceptor 1 [.inr (0), .inl (z), .inl (y), .inl (x)] σ1 (gX 0 P)) : lEM R A mL_acceptor [.inr true, .inl z, .inl y, .inl x, .inr false] σ1 σ2 f (fun r σ' f' => r = nI 1 ∧ P σ') := by
  refine lEM_of (by decide +kernel) rfl (Nat.le_of_ble_eq_true rfl) (fun ad1 o => ?_)
  show lEx R A mL_acceptor _ ad1 o 1 0 [(0, Value.ref (ad1 0)), (1, Value.int z), (2, Value.int y), (3, Value.int x), (4, Value.ref o)] [] σ1 σ2 f _
  refine l_aload dL_acceptor_0 (List.mem_of_getElem? (i := 4) rfl) ?_
  refine l_iconst (nI 0) dL_acceptor_2 (by decide) ?_
  refine l_aload_n dL_acceptor_3 (List.mem_of_getElem? (i := 0) rfl) ?_
  refine l_iload_n dL_acceptor_4 (List.mem_of_getElem? (i := 1) rfl) ?_
  refine l_iload_n dL_acceptor_5 (List.mem_of_getElem? (i := 2) rfl) ?_
  refine l_iload_n dL_acceptor_6 (List.mem_of_getElem? (i := 3) rfl) ?_
  refine l_call (n9 := 3) [z, y, x] [.int (nI 0), .ref o] h dL_acceptor_7 (gU_V uw_3_81 uw_3_82 uw_3_83 uw_1_1 uw_3_84) rfl (by decide +kernel) rfl ⟨by decide, by decide⟩ rfl (Nat.le_of_ble_eq_true rfl) (fun v9 σ9 hq9 => by cases hq9.1) (fun k9 σ9 hq9 => ?_)
  obtain ⟨ev, hP⟩ := hq9
  cases ev
  refine ⟨[], [], (0, 12, 15, 13), rfl, by decide, by decide, (List.mem_cons_of_mem _ uw_2_56), by decide +kernel, (fun z hz => by cases hz), fun q => ?_⟩
  refine l_astore dL_acceptor_15 (by decide) ?_
  refine l_iconst (nI 1) dL_acceptor_17 (by decide) ?_
  exact l_iret dL_acceptor_18 rfl ⟨rfl, hP⟩
set_option maxRecDepth 100000 in
theorem w_leaderR {R A : Nat} {σ1 σ2 : gSt} {f : Int64} {z y : Int32} {v : Int32} {P : gSt → Prop} (h : gEM (cG R A) mX6_leader 1 [.inr (0), .inl (z), .inl (y)] σ1 (gR v P)) : lEM R A mL_leader [.inr true, .inl z, .inl y, .inr false] σ1 σ2 f (fun r σ' f' => r = nI 0 ∧ f' = v.toInt64 ∧ P σ') := by
  refine lEM_of (by decide +kernel) rfl (Nat.le_of_ble_eq_true rfl) (fun ad1 o => ?_)
  show lEx R A mL_leader _ ad1 o 1 0 [(0, Value.ref (ad1 0)), (1, Value.int z), (2, Value.int y), (3, Value.ref o)] [] σ1 σ2 f _
  refine l_aload_n dL_leader_0 (List.mem_of_getElem? (i := 3) rfl) ?_
  refine l_iconst (nI 0) dL_leader_1 (by decide) ?_
  refine l_aload_n dL_leader_2 (List.mem_of_getElem? (i := 0) rfl) ?_
  refine l_iload_n dL_leader_3 (List.mem_of_getElem? (i := 1) rfl) ?_
  refine l_iload_n dL_leader_4 (List.mem_of_getElem? (i := 2) rfl) ?_
  refine l_call (n9 := 2) [z, y] [.int (nI 0), .ref o] h dL_leader_5 (gU_V uw_3_88 uw_3_89 uw_3_90 uw_1_1 uw_3_91) rfl (by decide +kernel) rfl ⟨by decide, by decide⟩ rfl (Nat.le_of_ble_eq_true rfl) (fun v9 σ9 hq9 => ?_) (fun k9 σ9 hq9 => by cases hq9.1)
  obtain ⟨ev, hP⟩ := hq9
  cases ev
  refine l_i2l dL_leader_8 ?_
  refine l_last dL_leader_9 ?_
  refine l_goto 17 dL_leader_10 (by decide) ?_
  refine l_iconst (nI 0) dL_leader_17 (by decide) ?_
  exact l_iret dL_leader_18 rfl ⟨rfl, rfl, hP⟩
set_option maxRecDepth 100000 in
theorem w_leaderX {R A : Nat} {σ1 σ2 : gSt} {f : Int64} {z y : Int32} {P : gSt → Prop} (h : gEM (cG R A) mX6_leader 1 [.inr (0), .inl (z), .inl (y)] σ1 (gX 0 P)) : lEM R A mL_leader [.inr true, .inl z, .inl y, .inr false] σ1 σ2 f (fun r σ' f' => r = nI 1 ∧ P σ') := by
  refine lEM_of (by decide +kernel) rfl (Nat.le_of_ble_eq_true rfl) (fun ad1 o => ?_)
  show lEx R A mL_leader _ ad1 o 1 0 [(0, Value.ref (ad1 0)), (1, Value.int z), (2, Value.int y), (3, Value.ref o)] [] σ1 σ2 f _
  refine l_aload_n dL_leader_0 (List.mem_of_getElem? (i := 3) rfl) ?_
  refine l_iconst (nI 0) dL_leader_1 (by decide) ?_
  refine l_aload_n dL_leader_2 (List.mem_of_getElem? (i := 0) rfl) ?_
  refine l_iload_n dL_leader_3 (List.mem_of_getElem? (i := 1) rfl) ?_
  refine l_iload_n dL_leader_4 (List.mem_of_getElem? (i := 2) rfl) ?_
  refine l_call (n9 := 2) [z, y] [.int (nI 0), .ref o] h dL_leader_5 (gU_V uw_3_88 uw_3_89 uw_3_90 uw_1_1 uw_3_91) rfl (by decide +kernel) rfl ⟨by decide, by decide⟩ rfl (Nat.le_of_ble_eq_true rfl) (fun v9 σ9 hq9 => by cases hq9.1) (fun k9 σ9 hq9 => ?_)
  obtain ⟨ev, hP⟩ := hq9
  cases ev
  refine ⟨[], [], (0, 10, 13, 13), rfl, by decide, by decide, (List.mem_cons_of_mem _ uw_2_56), by decide +kernel, (fun z hz => by cases hz), fun q => ?_⟩
  refine l_astore dL_leader_13 (by decide) ?_
  refine l_iconst (nI 1) dL_leader_15 (by decide) ?_
  exact l_iret dL_leader_16 rfl ⟨rfl, hP⟩
set_option maxRecDepth 100000 in
theorem w_outcomeR {R A : Nat} {σ1 σ2 : gSt} {f : Int64} {z y : Int32} {v : Int32} {P : gSt → Prop} (h : gEM (cG R A) mX6_outcome 1 [.inr (0), .inl (z), .inl (y)] σ1 (gR v P)) : lEM R A mL_outcome [.inr true, .inl z, .inl y, .inr false] σ1 σ2 f (fun r σ' f' => r = nI 0 ∧ f' = v.toInt64 ∧ P σ') := by
  refine lEM_of (by decide +kernel) rfl (Nat.le_of_ble_eq_true rfl) (fun ad1 o => ?_)
  show lEx R A mL_outcome _ ad1 o 1 0 [(0, Value.ref (ad1 0)), (1, Value.int z), (2, Value.int y), (3, Value.ref o)] [] σ1 σ2 f _
  refine l_aload_n dL_outcome_0 (List.mem_of_getElem? (i := 3) rfl) ?_
  refine l_iconst (nI 0) dL_outcome_1 (by decide) ?_
  refine l_aload_n dL_outcome_2 (List.mem_of_getElem? (i := 0) rfl) ?_
  refine l_iload_n dL_outcome_3 (List.mem_of_getElem? (i := 1) rfl) ?_
  refine l_iload_n dL_outcome_4 (List.mem_of_getElem? (i := 2) rfl) ?_
  refine l_call (n9 := 2) [z, y] [.int (nI 0), .ref o] h dL_outcome_5 (gU_V uw_3_96 uw_3_97 uw_3_98 uw_1_1 uw_3_99) rfl (by decide +kernel) rfl ⟨by decide, by decide⟩ rfl (Nat.le_of_ble_eq_true rfl) (fun v9 σ9 hq9 => ?_) (fun k9 σ9 hq9 => by cases hq9.1)
  obtain ⟨ev, hP⟩ := hq9
  cases ev
  refine l_i2l dL_outcome_8 ?_
  refine l_last dL_outcome_9 ?_
  refine l_goto 17 dL_outcome_10 (by decide) ?_
  refine l_iconst (nI 0) dL_outcome_17 (by decide) ?_
  exact l_iret dL_outcome_18 rfl ⟨rfl, rfl, hP⟩
set_option maxRecDepth 100000 in
theorem w_outcomeX {R A : Nat} {σ1 σ2 : gSt} {f : Int64} {z y : Int32} {P : gSt → Prop} (h : gEM (cG R A) mX6_outcome 1 [.inr (0), .inl (z), .inl (y)] σ1 (gX 0 P)) : lEM R A mL_outcome [.inr true, .inl z, .inl y, .inr false] σ1 σ2 f (fun r σ' f' => r = nI 1 ∧ P σ') := by
  refine lEM_of (by decide +kernel) rfl (Nat.le_of_ble_eq_true rfl) (fun ad1 o => ?_)
  show lEx R A mL_outcome _ ad1 o 1 0 [(0, Value.ref (ad1 0)), (1, Value.int z), (2, Value.int y), (3, Value.ref o)] [] σ1 σ2 f _
  refine l_aload_n dL_outcome_0 (List.mem_of_getElem? (i := 3) rfl) ?_
  refine l_iconst (nI 0) dL_outcome_1 (by decide) ?_
  refine l_aload_n dL_outcome_2 (List.mem_of_getElem? (i := 0) rfl) ?_
  refine l_iload_n dL_outcome_3 (List.mem_of_getElem? (i := 1) rfl) ?_
  refine l_iload_n dL_outcome_4 (List.mem_of_getElem? (i := 2) rfl) ?_
  refine l_call (n9 := 2) [z, y] [.int (nI 0), .ref o] h dL_outcome_5 (gU_V uw_3_96 uw_3_97 uw_3_98 uw_1_1 uw_3_99) rfl (by decide +kernel) rfl ⟨by decide, by decide⟩ rfl (Nat.le_of_ble_eq_true rfl) (fun v9 σ9 hq9 => by cases hq9.1) (fun k9 σ9 hq9 => ?_)
  obtain ⟨ev, hP⟩ := hq9
  cases ev
  refine ⟨[], [], (0, 10, 13, 13), rfl, by decide, by decide, (List.mem_cons_of_mem _ uw_2_56), by decide +kernel, (fun z hz => by cases hz), fun q => ?_⟩
  refine l_astore dL_outcome_13 (by decide) ?_
  refine l_iconst (nI 1) dL_outcome_15 (by decide) ?_
  exact l_iret dL_outcome_16 rfl ⟨rfl, hP⟩
set_option maxRecDepth 100000 in
theorem w_seenR {R A : Nat} {σ1 σ2 : gSt} {f : Int64} {z y x : Int32} {v : Int32} {P : gSt → Prop} (h : gEM (cG R A) mX6_seen 1 [.inr (0), .inl (z), .inl (y), .inl (x)] σ1 (gR v P)) : lEM R A mL_seen [.inr true, .inl z, .inl y, .inl x, .inr false] σ1 σ2 f (fun r σ' f' => r = nI 0 ∧ f' = v.toInt64 ∧ P σ') := by
  refine lEM_of (by decide +kernel) rfl (Nat.le_of_ble_eq_true rfl) (fun ad1 o => ?_)
  show lEx R A mL_seen _ ad1 o 1 0 [(0, Value.ref (ad1 0)), (1, Value.int z), (2, Value.int y), (3, Value.int x), (4, Value.ref o)] [] σ1 σ2 f _
  refine l_aload dL_seen_0 (List.mem_of_getElem? (i := 4) rfl) ?_
  refine l_iconst (nI 0) dL_seen_2 (by decide) ?_
  refine l_aload_n dL_seen_3 (List.mem_of_getElem? (i := 0) rfl) ?_
  refine l_iload_n dL_seen_4 (List.mem_of_getElem? (i := 1) rfl) ?_
  refine l_iload_n dL_seen_5 (List.mem_of_getElem? (i := 2) rfl) ?_
  refine l_iload_n dL_seen_6 (List.mem_of_getElem? (i := 3) rfl) ?_
  refine l_call (n9 := 3) [z, y, x] [.int (nI 0), .ref o] h dL_seen_7 (gU_V uw_3_103 uw_3_104 uw_3_105 uw_1_1 uw_3_106) rfl (by decide +kernel) rfl ⟨by decide, by decide⟩ rfl (Nat.le_of_ble_eq_true rfl) (fun v9 σ9 hq9 => ?_) (fun k9 σ9 hq9 => by cases hq9.1)
  obtain ⟨ev, hP⟩ := hq9
  cases ev
  refine l_i2l dL_seen_10 ?_
  refine l_last dL_seen_11 ?_
  refine l_goto 19 dL_seen_12 (by decide) ?_
  refine l_iconst (nI 0) dL_seen_19 (by decide) ?_
  exact l_iret dL_seen_20 rfl ⟨rfl, rfl, hP⟩
set_option maxRecDepth 100000 in
theorem w_seenX {R A : Nat} {σ1 σ2 : gSt} {f : Int64} {z y x : Int32} {P : gSt → Prop} (h : gEM (cG R A) mX6_seen 1 [.inr (0), .inl (z), .inl (y), .inl (x)] σ1 (gX 0 P)) : lEM R A mL_seen [.inr true, .inl z, .inl y, .inl x, .inr false] σ1 σ2 f (fun r σ' f' => r = nI 1 ∧ P σ') := by
  refine lEM_of (by decide +kernel) rfl (Nat.le_of_ble_eq_true rfl) (fun ad1 o => ?_)
  show lEx R A mL_seen _ ad1 o 1 0 [(0, Value.ref (ad1 0)), (1, Value.int z), (2, Value.int y), (3, Value.int x), (4, Value.ref o)] [] σ1 σ2 f _
  refine l_aload dL_seen_0 (List.mem_of_getElem? (i := 4) rfl) ?_
  refine l_iconst (nI 0) dL_seen_2 (by decide) ?_
  refine l_aload_n dL_seen_3 (List.mem_of_getElem? (i := 0) rfl) ?_
  refine l_iload_n dL_seen_4 (List.mem_of_getElem? (i := 1) rfl) ?_
  refine l_iload_n dL_seen_5 (List.mem_of_getElem? (i := 2) rfl) ?_
  refine l_iload_n dL_seen_6 (List.mem_of_getElem? (i := 3) rfl) ?_
  refine l_call (n9 := 3) [z, y, x] [.int (nI 0), .ref o] h dL_seen_7 (gU_V uw_3_103 uw_3_104 uw_3_105 uw_1_1 uw_3_106) rfl (by decide +kernel) rfl ⟨by decide, by decide⟩ rfl (Nat.le_of_ble_eq_true rfl) (fun v9 σ9 hq9 => by cases hq9.1) (fun k9 σ9 hq9 => ?_)
  obtain ⟨ev, hP⟩ := hq9
  cases ev
  refine ⟨[], [], (0, 12, 15, 13), rfl, by decide, by decide, (List.mem_cons_of_mem _ uw_2_56), by decide +kernel, (fun z hz => by cases hz), fun q => ?_⟩
  refine l_astore dL_seen_15 (by decide) ?_
  refine l_iconst (nI 1) dL_seen_17 (by decide) ?_
  exact l_iret dL_seen_18 rfl ⟨rfl, hP⟩
set_option maxRecDepth 100000 in
theorem w_chosenR {R A : Nat} {σ1 σ2 : gSt} {f : Int64} {z : Int32} {v : Int32} {P : gSt → Prop} (h : gEM (cG R A) mX6_chosen 1 [.inr (0), .inl (z)] σ1 (gR v P)) : lEM R A mL_chosen [.inr true, .inl z, .inr false] σ1 σ2 f (fun r σ' f' => r = nI 0 ∧ f' = v.toInt64 ∧ P σ') := by
  refine lEM_of (by decide +kernel) rfl (Nat.le_of_ble_eq_true rfl) (fun ad1 o => ?_)
  show lEx R A mL_chosen _ ad1 o 1 0 [(0, Value.ref (ad1 0)), (1, Value.int z), (2, Value.ref o)] [] σ1 σ2 f _
  refine l_aload_n dL_chosen_0 (List.mem_of_getElem? (i := 2) rfl) ?_
  refine l_iconst (nI 0) dL_chosen_1 (by decide) ?_
  refine l_aload_n dL_chosen_2 (List.mem_of_getElem? (i := 0) rfl) ?_
  refine l_iload_n dL_chosen_3 (List.mem_of_getElem? (i := 1) rfl) ?_
  refine l_call (n9 := 1) [z] [.int (nI 0), .ref o] h dL_chosen_4 (gU_V uw_3_111 uw_3_112 uw_3_113 uw_1_1 uw_3_114) rfl (by decide +kernel) rfl ⟨by decide, by decide⟩ rfl (Nat.le_of_ble_eq_true rfl) (fun v9 σ9 hq9 => ?_) (fun k9 σ9 hq9 => by cases hq9.1)
  obtain ⟨ev, hP⟩ := hq9
  cases ev
  refine l_i2l dL_chosen_7 ?_
  refine l_last dL_chosen_8 ?_
  refine l_goto 15 dL_chosen_9 (by decide) ?_
  refine l_iconst (nI 0) dL_chosen_15 (by decide) ?_
  exact l_iret dL_chosen_16 rfl ⟨rfl, rfl, hP⟩
set_option maxRecDepth 100000 in
theorem w_chosenX {R A : Nat} {σ1 σ2 : gSt} {f : Int64} {z : Int32} {P : gSt → Prop} (h : gEM (cG R A) mX6_chosen 1 [.inr (0), .inl (z)] σ1 (gX 0 P)) : lEM R A mL_chosen [.inr true, .inl z, .inr false] σ1 σ2 f (fun r σ' f' => r = nI 1 ∧ P σ') := by
  refine lEM_of (by decide +kernel) rfl (Nat.le_of_ble_eq_true rfl) (fun ad1 o => ?_)
  show lEx R A mL_chosen _ ad1 o 1 0 [(0, Value.ref (ad1 0)), (1, Value.int z), (2, Value.ref o)] [] σ1 σ2 f _
  refine l_aload_n dL_chosen_0 (List.mem_of_getElem? (i := 2) rfl) ?_
  refine l_iconst (nI 0) dL_chosen_1 (by decide) ?_
  refine l_aload_n dL_chosen_2 (List.mem_of_getElem? (i := 0) rfl) ?_
  refine l_iload_n dL_chosen_3 (List.mem_of_getElem? (i := 1) rfl) ?_
  refine l_call (n9 := 1) [z] [.int (nI 0), .ref o] h dL_chosen_4 (gU_V uw_3_111 uw_3_112 uw_3_113 uw_1_1 uw_3_114) rfl (by decide +kernel) rfl ⟨by decide, by decide⟩ rfl (Nat.le_of_ble_eq_true rfl) (fun v9 σ9 hq9 => by cases hq9.1) (fun k9 σ9 hq9 => ?_)
  obtain ⟨ev, hP⟩ := hq9
  cases ev
  refine ⟨[], [], (0, 9, 12, 13), rfl, by decide, by decide, (List.mem_cons_of_mem _ uw_2_56), by decide +kernel, (fun z hz => by cases hz), fun q => ?_⟩
  refine l_astore_n dL_chosen_12 (by decide) ?_
  refine l_iconst (nI 1) dL_chosen_13 (by decide) ?_
  exact l_iret dL_chosen_14 rfl ⟨rfl, hP⟩
