/-! THE LAW'S CASES -/
theorem cmp_same (x : Int64) : lg_cmp x x = 0 := by
  unfold lg_cmp
  simp
section QC
variable {p : Program} {l : Launch} {e : Env} {s : State} {m : MethodId} {args : Array Value} {below : List Frame} {meth : Method} {c : Code} {D : va_G} {cy : Nat → ClassId} {cl : ClassId} {ad1 ad2 : Nat → Nat} {o R A b L : Nat} {xs : Nat → Int32}
variable {bc : Nat} {σ1 σ2 : gSt} {f : Int64}
/-- what the loop's next turn needs -/
def qNext (p : Program) (l : Launch) (e : Env) (s : State) (m : MethodId) (args : Array Value) (below : List Frame) (meth : Method) (c : Code) (D : va_G) (cy : Nat → ClassId) (cl : ClassId) (ad1 ad2 : Nat → Nat) (o R A b bc T i : Nat) : Prop :=
  ∀ (s' : pT) (σ1 σ2 : gSt) (f : Int64), pInv R A (T + 3) s' → cRel R A s' σ1 → mRel R A (s'.1 1 1 0) s' σ2 → qEx p l e s m args below meth c D cy cl ad1 ad2 o R A bc 1440 [(0, Value.ref b), (1, Value.ref (ad1 0)), (2, Value.ref (ad2 0)), (3, Value.ref o), (4, Value.int (nI i))] [] σ1 σ2 f
set_option maxRecDepth 100000 in
theorem q_prepare (C : qCx p l s m args meth c D cy cl ad1 ad2 o R A b L xs) (hL : L ≤ 2050) {i T : Nat} (hi : i + 4 ≤ L) (hRA : pRA R A) {s0 : pT} (hI : pInv R A T s0) (hT : T + 3 ≤ 1536) (hc : cRel R A s0 σ1) (hm : mRel R A (s0.1 1 1 0) s0 σ2) (hN : qNext p l e s m args below meth c D cy cl ad1 ad2 o R A b bc T i) : qEx p l e s m args below meth c D cy cl ad1 ad2 o R A (bc + 1) 156 [(0, Value.ref b), (1, Value.ref (ad1 0)), (2, Value.ref (ad2 0)), (3, Value.ref o), (4, Value.int (nI i))] [] σ1 σ2 f := by
  obtain ⟨r, v, s', hI9, hr9, hw, hm7⟩ := o_prepare hRA hI hT hc hm (xs (i + 1))
  refine q_aload_n C dL_law_156 (List.mem_of_getElem? (i := 1) rfl) ?_
  refine q_aload_n C dL_law_157 (List.mem_of_getElem? (i := 0) rfl) ?_
  refine q_iload C dL_law_158 (List.mem_of_getElem? (i := 4) rfl) ?_
  refine q_iconst C (nI 1) dL_law_160 (by decide) ?_
  refine q_iadd C dL_law_161 ?_
  refine q_top (v := .int (nI (i + 1))) (congrArg Value.int (nI_add _ _)) ?_
  refine q_sld C hL (j := i + 1) (by omega) dL_law_162 ?_
  refine q_aload_n C dL_law_163 (List.mem_of_getElem? (i := 3) rfl) ?_
  refine q_callW C (n9 := 3) [.inr true, .inl (xs (i + 1)), .inr false] [] (hw f) dL_law_164 (gU_SW uw_2_53 uw_2_54 uw_1_0 uw_2_55) rfl (by decide +kernel) rfl ⟨by decide, by decide⟩ rfl (Nat.le_of_ble_eq_true rfl) (fun r9 σ9 f9 hq9 => ?_)
  obtain ⟨er, hf9, hc9⟩ := hq9
  subst er
  refine q_istore C [(5, Value.int (nI r)), (0, Value.ref b), (1, Value.ref (ad1 0)), (2, Value.ref (ad2 0)), (3, Value.ref o), (4, Value.int (nI i))] dL_law_167 (by decide) rfl ?_
  refine q_aload_n C dL_law_169 (List.mem_of_getElem? (i := 3) rfl) ?_
  refine q_aload_n C dL_law_170 (List.mem_of_getElem? (i := 1) rfl) ?_
  refine q_iload C dL_law_171 (List.mem_of_getElem? (i := 5) rfl) ?_
  refine q_iconst C (nI 1) dL_law_173 (by decide) ?_
  refine q_iadd C dL_law_174 ?_
  refine q_top (v := .int (nI (i + 1))) (congrArg Value.int (nI_add _ _)) ?_
  refine q_sld C hL (j := i + 1) (by omega) dL_law_175 ?_
  refine q_callM C (n9 := 1) [(xs (i + 1))] [] hm7 (fun k σ' q => by cases q.1) dL_law_176 (gU_V uw_3_206 uw_3_207 uw_3_208 uw_1_8 uw_3_209) rfl (by decide +kernel) rfl ⟨by decide, by decide⟩ rfl (Nat.le_of_ble_eq_true rfl) (fun v9 σ7 hq9 => ?_)
  obtain ⟨ev, hm9⟩ := hq9
  cases ev
  refine q_istore C [(6, Value.int v), (5, Value.int (nI r)), (0, Value.ref b), (1, Value.ref (ad1 0)), (2, Value.ref (ad2 0)), (3, Value.ref o), (4, Value.int (nI i))] dL_law_179 (by decide) rfl ?_
  refine q_aload_n C dL_law_181 (List.mem_of_getElem? (i := 4) rfl) ?_
  refine q_callM C (n9 := 0) [] [] m_thrown (fun k σ' q => by cases q.1) dL_law_182 (gU_V uw_3_202 uw_3_203 uw_3_204 uw_1_8 uw_3_205) rfl (by decide +kernel) rfl ⟨by decide, by decide⟩ rfl (Nat.le_of_ble_eq_true rfl) (fun v9 σ8 hq9 => ?_)
  obtain ⟨ev, eσ⟩ := hq9
  cases ev
  subst eσ
  refine q_top (v := .int (nI r)) (congrArg Value.int hm9.2) ?_
  refine q_iload C dL_law_185 (List.mem_of_getElem? (i := 1) rfl) ?_
  refine q_icmp_eq C 192 dL_law_187 (by decide) (fun _ => ?_) (fun h9 => absurd rfl h9)
  refine q_iload C dL_law_192 (List.mem_of_getElem? (i := 1) rfl) ?_
  refine q_if_ne C 216 dL_law_194 (by decide) (fun h9 => ?_) (fun h9 => ?_)
  · skip
    refine q_goto C 1440 dL_law_216 (by decide) ?_
    refine q_lv (lv' := [(0, Value.ref b), (1, Value.ref (ad1 0)), (2, Value.ref (ad2 0)), (3, Value.ref o), (4, Value.int (nI i))]) (fun q hq => ?_) (hN _ _ _ _ hI9 hc9 hm9.1)
    simp at hq ⊢
    rcases hq with h | h | h | h | h <;> simp [h]
  · have er0 : r = 0 := (nI_z (by omega)).mp (Decidable.of_not_not h9)
    have hf8 := hf9 er0
    refine q_aload_n C dL_law_197 (List.mem_of_getElem? (i := 5) rfl) ?_
    refine q_iconst C (nI 0) dL_law_198 (by decide) ?_
    refine q_lald C dL_law_199 ?_
    refine q_iload C dL_law_200 (List.mem_of_getElem? (i := 0) rfl) ?_
    refine q_if_eq C 209 dL_law_202 (by decide) (fun h8 => ?_) (fun h8 => ?_)
    · have hf7 := hf8.trans (if_pos h8)
      subst hf7
      refine q_lconst C 0 dL_law_209 (by decide) ?_
      refine q_lcmp C dL_law_210 ?_
      refine q_if_eq C 216 dL_law_211 (by decide) (fun _ => ?_) (fun h9 => absurd (cmp_same _) h9)
      refine q_goto C 1440 dL_law_216 (by decide) ?_
      refine q_lv (lv' := [(0, Value.ref b), (1, Value.ref (ad1 0)), (2, Value.ref (ad2 0)), (3, Value.ref o), (4, Value.int (nI i))]) (fun q hq => ?_) (hN _ _ _ _ hI9 hc9 hm9.1)
      simp at hq ⊢
      rcases hq with h | h | h | h | h <;> simp [h]
    · have hf7 := hf8.trans (if_neg h8)
      subst hf7
      refine q_lconst C 1 dL_law_205 (by decide) ?_
      refine q_goto C 210 dL_law_206 (by decide) ?_
      refine q_lcmp C dL_law_210 ?_
      refine q_if_eq C 216 dL_law_211 (by decide) (fun _ => ?_) (fun h9 => absurd (cmp_same _) h9)
      refine q_goto C 1440 dL_law_216 (by decide) ?_
      refine q_lv (lv' := [(0, Value.ref b), (1, Value.ref (ad1 0)), (2, Value.ref (ad2 0)), (3, Value.ref o), (4, Value.int (nI i))]) (fun q hq => ?_) (hN _ _ _ _ hI9 hc9 hm9.1)
      simp at hq ⊢
      rcases hq with h | h | h | h | h <;> simp [h]
set_option maxRecDepth 100000 in
theorem q_refuse (C : qCx p l s m args meth c D cy cl ad1 ad2 o R A b L xs) (hL : L ≤ 2050) {i T : Nat} (hi : i + 4 ≤ L) (hRA : pRA R A) {s0 : pT} (hI : pInv R A T s0) (hT : T + 3 ≤ 1536) (hc : cRel R A s0 σ1) (hm : mRel R A (s0.1 1 1 0) s0 σ2) (hN : qNext p l e s m args below meth c D cy cl ad1 ad2 o R A b bc T i) : qEx p l e s m args below meth c D cy cl ad1 ad2 o R A (bc + 1) 219 [(0, Value.ref b), (1, Value.ref (ad1 0)), (2, Value.ref (ad2 0)), (3, Value.ref o), (4, Value.int (nI i))] [] σ1 σ2 f := by
  obtain ⟨r, v, s', hI9, hr9, hw, hm7⟩ := o_refuse hRA hI hT hc hm (xs (i + 1))
  refine q_aload_n C dL_law_219 (List.mem_of_getElem? (i := 1) rfl) ?_
  refine q_aload_n C dL_law_220 (List.mem_of_getElem? (i := 0) rfl) ?_
  refine q_iload C dL_law_221 (List.mem_of_getElem? (i := 4) rfl) ?_
  refine q_iconst C (nI 1) dL_law_223 (by decide) ?_
  refine q_iadd C dL_law_224 ?_
  refine q_top (v := .int (nI (i + 1))) (congrArg Value.int (nI_add _ _)) ?_
  refine q_sld C hL (j := i + 1) (by omega) dL_law_225 ?_
  refine q_aload_n C dL_law_226 (List.mem_of_getElem? (i := 3) rfl) ?_
  refine q_callW C (n9 := 3) [.inr true, .inl (xs (i + 1)), .inr false] [] (hw f) dL_law_227 (gU_SW uw_2_77 uw_2_78 uw_1_0 uw_2_79) rfl (by decide +kernel) rfl ⟨by decide, by decide⟩ rfl (Nat.le_of_ble_eq_true rfl) (fun r9 σ9 f9 hq9 => ?_)
  obtain ⟨er, hf9, hc9⟩ := hq9
  subst er
  refine q_istore C [(5, Value.int (nI r)), (0, Value.ref b), (1, Value.ref (ad1 0)), (2, Value.ref (ad2 0)), (3, Value.ref o), (4, Value.int (nI i))] dL_law_230 (by decide) rfl ?_
  refine q_aload_n C dL_law_232 (List.mem_of_getElem? (i := 3) rfl) ?_
  refine q_aload_n C dL_law_233 (List.mem_of_getElem? (i := 1) rfl) ?_
  refine q_iload C dL_law_234 (List.mem_of_getElem? (i := 5) rfl) ?_
  refine q_iconst C (nI 1) dL_law_236 (by decide) ?_
  refine q_iadd C dL_law_237 ?_
  refine q_top (v := .int (nI (i + 1))) (congrArg Value.int (nI_add _ _)) ?_
  refine q_sld C hL (j := i + 1) (by omega) dL_law_238 ?_
  refine q_callM C (n9 := 1) [(xs (i + 1))] [] hm7 (fun k σ' q => by cases q.1) dL_law_239 (gU_V uw_3_234 uw_3_235 uw_3_236 uw_1_8 uw_3_237) rfl (by decide +kernel) rfl ⟨by decide, by decide⟩ rfl (Nat.le_of_ble_eq_true rfl) (fun v9 σ7 hq9 => ?_)
  obtain ⟨ev, hm9⟩ := hq9
  cases ev
  refine q_istore C [(6, Value.int v), (5, Value.int (nI r)), (0, Value.ref b), (1, Value.ref (ad1 0)), (2, Value.ref (ad2 0)), (3, Value.ref o), (4, Value.int (nI i))] dL_law_242 (by decide) rfl ?_
  refine q_aload_n C dL_law_244 (List.mem_of_getElem? (i := 4) rfl) ?_
  refine q_callM C (n9 := 0) [] [] m_thrown (fun k σ' q => by cases q.1) dL_law_245 (gU_V uw_3_202 uw_3_203 uw_3_204 uw_1_8 uw_3_205) rfl (by decide +kernel) rfl ⟨by decide, by decide⟩ rfl (Nat.le_of_ble_eq_true rfl) (fun v9 σ8 hq9 => ?_)
  obtain ⟨ev, eσ⟩ := hq9
  cases ev
  subst eσ
  refine q_top (v := .int (nI r)) (congrArg Value.int hm9.2) ?_
  refine q_iload C dL_law_248 (List.mem_of_getElem? (i := 1) rfl) ?_
  refine q_icmp_eq C 255 dL_law_250 (by decide) (fun _ => ?_) (fun h9 => absurd rfl h9)
  refine q_iload C dL_law_255 (List.mem_of_getElem? (i := 1) rfl) ?_
  refine q_if_ne C 279 dL_law_257 (by decide) (fun h9 => ?_) (fun h9 => ?_)
  · skip
    refine q_goto C 1440 dL_law_279 (by decide) ?_
    refine q_lv (lv' := [(0, Value.ref b), (1, Value.ref (ad1 0)), (2, Value.ref (ad2 0)), (3, Value.ref o), (4, Value.int (nI i))]) (fun q hq => ?_) (hN _ _ _ _ hI9 hc9 hm9.1)
    simp at hq ⊢
    rcases hq with h | h | h | h | h <;> simp [h]
  · have er0 : r = 0 := (nI_z (by omega)).mp (Decidable.of_not_not h9)
    have hf8 := hf9 er0
    refine q_aload_n C dL_law_260 (List.mem_of_getElem? (i := 5) rfl) ?_
    refine q_iconst C (nI 0) dL_law_261 (by decide) ?_
    refine q_lald C dL_law_262 ?_
    refine q_iload C dL_law_263 (List.mem_of_getElem? (i := 0) rfl) ?_
    refine q_if_eq C 272 dL_law_265 (by decide) (fun h8 => ?_) (fun h8 => ?_)
    · have hf7 := hf8.trans (if_pos h8)
      subst hf7
      refine q_lconst C 0 dL_law_272 (by decide) ?_
      refine q_lcmp C dL_law_273 ?_
      refine q_if_eq C 279 dL_law_274 (by decide) (fun _ => ?_) (fun h9 => absurd (cmp_same _) h9)
      refine q_goto C 1440 dL_law_279 (by decide) ?_
      refine q_lv (lv' := [(0, Value.ref b), (1, Value.ref (ad1 0)), (2, Value.ref (ad2 0)), (3, Value.ref o), (4, Value.int (nI i))]) (fun q hq => ?_) (hN _ _ _ _ hI9 hc9 hm9.1)
      simp at hq ⊢
      rcases hq with h | h | h | h | h <;> simp [h]
    · have hf7 := hf8.trans (if_neg h8)
      subst hf7
      refine q_lconst C 1 dL_law_268 (by decide) ?_
      refine q_goto C 273 dL_law_269 (by decide) ?_
      refine q_lcmp C dL_law_273 ?_
      refine q_if_eq C 279 dL_law_274 (by decide) (fun _ => ?_) (fun h9 => absurd (cmp_same _) h9)
      refine q_goto C 1440 dL_law_279 (by decide) ?_
      refine q_lv (lv' := [(0, Value.ref b), (1, Value.ref (ad1 0)), (2, Value.ref (ad2 0)), (3, Value.ref o), (4, Value.int (nI i))]) (fun q hq => ?_) (hN _ _ _ _ hI9 hc9 hm9.1)
      simp at hq ⊢
      rcases hq with h | h | h | h | h <;> simp [h]
set_option maxRecDepth 100000 in
theorem q_resend (C : qCx p l s m args meth c D cy cl ad1 ad2 o R A b L xs) (hL : L ≤ 2050) {i T : Nat} (hi : i + 4 ≤ L) (hRA : pRA R A) {s0 : pT} (hI : pInv R A T s0) (hT : T + 3 ≤ 1536) (hc : cRel R A s0 σ1) (hm : mRel R A (s0.1 1 1 0) s0 σ2) (hN : qNext p l e s m args below meth c D cy cl ad1 ad2 o R A b bc T i) : qEx p l e s m args below meth c D cy cl ad1 ad2 o R A (bc + 1) 282 [(0, Value.ref b), (1, Value.ref (ad1 0)), (2, Value.ref (ad2 0)), (3, Value.ref o), (4, Value.int (nI i))] [] σ1 σ2 f := by
  obtain ⟨r, v, s', hI9, hr9, hw, hm7⟩ := o_resend hRA hI hT hc hm (xs (i + 1))
  refine q_aload_n C dL_law_282 (List.mem_of_getElem? (i := 1) rfl) ?_
  refine q_aload_n C dL_law_283 (List.mem_of_getElem? (i := 0) rfl) ?_
  refine q_iload C dL_law_284 (List.mem_of_getElem? (i := 4) rfl) ?_
  refine q_iconst C (nI 1) dL_law_286 (by decide) ?_
  refine q_iadd C dL_law_287 ?_
  refine q_top (v := .int (nI (i + 1))) (congrArg Value.int (nI_add _ _)) ?_
  refine q_sld C hL (j := i + 1) (by omega) dL_law_288 ?_
  refine q_aload_n C dL_law_289 (List.mem_of_getElem? (i := 3) rfl) ?_
  refine q_callW C (n9 := 3) [.inr true, .inl (xs (i + 1)), .inr false] [] (hw f) dL_law_290 (gU_SW uw_2_84 uw_2_85 uw_1_0 uw_2_86) rfl (by decide +kernel) rfl ⟨by decide, by decide⟩ rfl (Nat.le_of_ble_eq_true rfl) (fun r9 σ9 f9 hq9 => ?_)
  obtain ⟨er, hf9, hc9⟩ := hq9
  subst er
  refine q_istore C [(5, Value.int (nI r)), (0, Value.ref b), (1, Value.ref (ad1 0)), (2, Value.ref (ad2 0)), (3, Value.ref o), (4, Value.int (nI i))] dL_law_293 (by decide) rfl ?_
  refine q_aload_n C dL_law_295 (List.mem_of_getElem? (i := 3) rfl) ?_
  refine q_aload_n C dL_law_296 (List.mem_of_getElem? (i := 1) rfl) ?_
  refine q_iload C dL_law_297 (List.mem_of_getElem? (i := 5) rfl) ?_
  refine q_iconst C (nI 1) dL_law_299 (by decide) ?_
  refine q_iadd C dL_law_300 ?_
  refine q_top (v := .int (nI (i + 1))) (congrArg Value.int (nI_add _ _)) ?_
  refine q_sld C hL (j := i + 1) (by omega) dL_law_301 ?_
  refine q_callM C (n9 := 1) [(xs (i + 1))] [] hm7 (fun k σ' q => by cases q.1) dL_law_302 (gU_V uw_3_238 uw_3_239 uw_4_0 uw_1_8 uw_4_1) rfl (by decide +kernel) rfl ⟨by decide, by decide⟩ rfl (Nat.le_of_ble_eq_true rfl) (fun v9 σ7 hq9 => ?_)
  obtain ⟨ev, hm9⟩ := hq9
  cases ev
  refine q_istore C [(6, Value.int v), (5, Value.int (nI r)), (0, Value.ref b), (1, Value.ref (ad1 0)), (2, Value.ref (ad2 0)), (3, Value.ref o), (4, Value.int (nI i))] dL_law_305 (by decide) rfl ?_
  refine q_aload_n C dL_law_307 (List.mem_of_getElem? (i := 4) rfl) ?_
  refine q_callM C (n9 := 0) [] [] m_thrown (fun k σ' q => by cases q.1) dL_law_308 (gU_V uw_3_202 uw_3_203 uw_3_204 uw_1_8 uw_3_205) rfl (by decide +kernel) rfl ⟨by decide, by decide⟩ rfl (Nat.le_of_ble_eq_true rfl) (fun v9 σ8 hq9 => ?_)
  obtain ⟨ev, eσ⟩ := hq9
  cases ev
  subst eσ
  refine q_top (v := .int (nI r)) (congrArg Value.int hm9.2) ?_
  refine q_iload C dL_law_311 (List.mem_of_getElem? (i := 1) rfl) ?_
  refine q_icmp_eq C 318 dL_law_313 (by decide) (fun _ => ?_) (fun h9 => absurd rfl h9)
  refine q_iload C dL_law_318 (List.mem_of_getElem? (i := 1) rfl) ?_
  refine q_if_ne C 342 dL_law_320 (by decide) (fun h9 => ?_) (fun h9 => ?_)
  · skip
    refine q_goto C 1440 dL_law_342 (by decide) ?_
    refine q_lv (lv' := [(0, Value.ref b), (1, Value.ref (ad1 0)), (2, Value.ref (ad2 0)), (3, Value.ref o), (4, Value.int (nI i))]) (fun q hq => ?_) (hN _ _ _ _ hI9 hc9 hm9.1)
    simp at hq ⊢
    rcases hq with h | h | h | h | h <;> simp [h]
  · have er0 : r = 0 := (nI_z (by omega)).mp (Decidable.of_not_not h9)
    have hf8 := hf9 er0
    refine q_aload_n C dL_law_323 (List.mem_of_getElem? (i := 5) rfl) ?_
    refine q_iconst C (nI 0) dL_law_324 (by decide) ?_
    refine q_lald C dL_law_325 ?_
    refine q_iload C dL_law_326 (List.mem_of_getElem? (i := 0) rfl) ?_
    refine q_if_eq C 335 dL_law_328 (by decide) (fun h8 => ?_) (fun h8 => ?_)
    · have hf7 := hf8.trans (if_pos h8)
      subst hf7
      refine q_lconst C 0 dL_law_335 (by decide) ?_
      refine q_lcmp C dL_law_336 ?_
      refine q_if_eq C 342 dL_law_337 (by decide) (fun _ => ?_) (fun h9 => absurd (cmp_same _) h9)
      refine q_goto C 1440 dL_law_342 (by decide) ?_
      refine q_lv (lv' := [(0, Value.ref b), (1, Value.ref (ad1 0)), (2, Value.ref (ad2 0)), (3, Value.ref o), (4, Value.int (nI i))]) (fun q hq => ?_) (hN _ _ _ _ hI9 hc9 hm9.1)
      simp at hq ⊢
      rcases hq with h | h | h | h | h <;> simp [h]
    · have hf7 := hf8.trans (if_neg h8)
      subst hf7
      refine q_lconst C 1 dL_law_331 (by decide) ?_
      refine q_goto C 336 dL_law_332 (by decide) ?_
      refine q_lcmp C dL_law_336 ?_
      refine q_if_eq C 342 dL_law_337 (by decide) (fun _ => ?_) (fun h9 => absurd (cmp_same _) h9)
      refine q_goto C 1440 dL_law_342 (by decide) ?_
      refine q_lv (lv' := [(0, Value.ref b), (1, Value.ref (ad1 0)), (2, Value.ref (ad2 0)), (3, Value.ref o), (4, Value.int (nI i))]) (fun q hq => ?_) (hN _ _ _ _ hI9 hc9 hm9.1)
      simp at hq ⊢
      rcases hq with h | h | h | h | h <;> simp [h]
set_option maxRecDepth 100000 in
theorem q_question (C : qCx p l s m args meth c D cy cl ad1 ad2 o R A b L xs) (hL : L ≤ 2050) {i T : Nat} (hi : i + 4 ≤ L) (hRA : pRA R A) {s0 : pT} (hI : pInv R A T s0) (hT : T + 3 ≤ 1536) (hc : cRel R A s0 σ1) (hm : mRel R A (s0.1 1 1 0) s0 σ2) (hN : qNext p l e s m args below meth c D cy cl ad1 ad2 o R A b bc T i) : qEx p l e s m args below meth c D cy cl ad1 ad2 o R A (bc + 1) 345 [(0, Value.ref b), (1, Value.ref (ad1 0)), (2, Value.ref (ad2 0)), (3, Value.ref o), (4, Value.int (nI i))] [] σ1 σ2 f := by
  obtain ⟨r, v, s', hI9, hr9, hw, hm7⟩ := o_question hRA hI hT hc hm (xs (i + 1))
  refine q_aload_n C dL_law_345 (List.mem_of_getElem? (i := 1) rfl) ?_
  refine q_aload_n C dL_law_346 (List.mem_of_getElem? (i := 0) rfl) ?_
  refine q_iload C dL_law_347 (List.mem_of_getElem? (i := 4) rfl) ?_
  refine q_iconst C (nI 1) dL_law_349 (by decide) ?_
  refine q_iadd C dL_law_350 ?_
  refine q_top (v := .int (nI (i + 1))) (congrArg Value.int (nI_add _ _)) ?_
  refine q_sld C hL (j := i + 1) (by omega) dL_law_351 ?_
  refine q_aload_n C dL_law_352 (List.mem_of_getElem? (i := 3) rfl) ?_
  refine q_callW C (n9 := 3) [.inr true, .inl (xs (i + 1)), .inr false] [] (hw f) dL_law_353 (gU_SW uw_2_91 uw_2_92 uw_1_0 uw_2_93) rfl (by decide +kernel) rfl ⟨by decide, by decide⟩ rfl (Nat.le_of_ble_eq_true rfl) (fun r9 σ9 f9 hq9 => ?_)
  obtain ⟨er, hf9, hc9⟩ := hq9
  subst er
  refine q_istore C [(5, Value.int (nI r)), (0, Value.ref b), (1, Value.ref (ad1 0)), (2, Value.ref (ad2 0)), (3, Value.ref o), (4, Value.int (nI i))] dL_law_356 (by decide) rfl ?_
  refine q_aload_n C dL_law_358 (List.mem_of_getElem? (i := 3) rfl) ?_
  refine q_aload_n C dL_law_359 (List.mem_of_getElem? (i := 1) rfl) ?_
  refine q_iload C dL_law_360 (List.mem_of_getElem? (i := 5) rfl) ?_
  refine q_iconst C (nI 1) dL_law_362 (by decide) ?_
  refine q_iadd C dL_law_363 ?_
  refine q_top (v := .int (nI (i + 1))) (congrArg Value.int (nI_add _ _)) ?_
  refine q_sld C hL (j := i + 1) (by omega) dL_law_364 ?_
  refine q_callM C (n9 := 1) [(xs (i + 1))] [] hm7 (fun k σ' q => by cases q.1) dL_law_365 (gU_V uw_4_2 uw_4_3 uw_4_4 uw_1_8 uw_4_5) rfl (by decide +kernel) rfl ⟨by decide, by decide⟩ rfl (Nat.le_of_ble_eq_true rfl) (fun v9 σ7 hq9 => ?_)
  obtain ⟨ev, hm9⟩ := hq9
  cases ev
  refine q_istore C [(6, Value.int v), (5, Value.int (nI r)), (0, Value.ref b), (1, Value.ref (ad1 0)), (2, Value.ref (ad2 0)), (3, Value.ref o), (4, Value.int (nI i))] dL_law_368 (by decide) rfl ?_
  refine q_aload_n C dL_law_370 (List.mem_of_getElem? (i := 4) rfl) ?_
  refine q_callM C (n9 := 0) [] [] m_thrown (fun k σ' q => by cases q.1) dL_law_371 (gU_V uw_3_202 uw_3_203 uw_3_204 uw_1_8 uw_3_205) rfl (by decide +kernel) rfl ⟨by decide, by decide⟩ rfl (Nat.le_of_ble_eq_true rfl) (fun v9 σ8 hq9 => ?_)
  obtain ⟨ev, eσ⟩ := hq9
  cases ev
  subst eσ
  refine q_top (v := .int (nI r)) (congrArg Value.int hm9.2) ?_
  refine q_iload C dL_law_374 (List.mem_of_getElem? (i := 1) rfl) ?_
  refine q_icmp_eq C 381 dL_law_376 (by decide) (fun _ => ?_) (fun h9 => absurd rfl h9)
  refine q_iload C dL_law_381 (List.mem_of_getElem? (i := 1) rfl) ?_
  refine q_if_ne C 405 dL_law_383 (by decide) (fun h9 => ?_) (fun h9 => ?_)
  · skip
    refine q_goto C 1440 dL_law_405 (by decide) ?_
    refine q_lv (lv' := [(0, Value.ref b), (1, Value.ref (ad1 0)), (2, Value.ref (ad2 0)), (3, Value.ref o), (4, Value.int (nI i))]) (fun q hq => ?_) (hN _ _ _ _ hI9 hc9 hm9.1)
    simp at hq ⊢
    rcases hq with h | h | h | h | h <;> simp [h]
  · have er0 : r = 0 := (nI_z (by omega)).mp (Decidable.of_not_not h9)
    have hf8 := hf9 er0
    refine q_aload_n C dL_law_386 (List.mem_of_getElem? (i := 5) rfl) ?_
    refine q_iconst C (nI 0) dL_law_387 (by decide) ?_
    refine q_lald C dL_law_388 ?_
    refine q_iload C dL_law_389 (List.mem_of_getElem? (i := 0) rfl) ?_
    refine q_if_eq C 398 dL_law_391 (by decide) (fun h8 => ?_) (fun h8 => ?_)
    · have hf7 := hf8.trans (if_pos h8)
      subst hf7
      refine q_lconst C 0 dL_law_398 (by decide) ?_
      refine q_lcmp C dL_law_399 ?_
      refine q_if_eq C 405 dL_law_400 (by decide) (fun _ => ?_) (fun h9 => absurd (cmp_same _) h9)
      refine q_goto C 1440 dL_law_405 (by decide) ?_
      refine q_lv (lv' := [(0, Value.ref b), (1, Value.ref (ad1 0)), (2, Value.ref (ad2 0)), (3, Value.ref o), (4, Value.int (nI i))]) (fun q hq => ?_) (hN _ _ _ _ hI9 hc9 hm9.1)
      simp at hq ⊢
      rcases hq with h | h | h | h | h <;> simp [h]
    · have hf7 := hf8.trans (if_neg h8)
      subst hf7
      refine q_lconst C 1 dL_law_394 (by decide) ?_
      refine q_goto C 399 dL_law_395 (by decide) ?_
      refine q_lcmp C dL_law_399 ?_
      refine q_if_eq C 405 dL_law_400 (by decide) (fun _ => ?_) (fun h9 => absurd (cmp_same _) h9)
      refine q_goto C 1440 dL_law_405 (by decide) ?_
      refine q_lv (lv' := [(0, Value.ref b), (1, Value.ref (ad1 0)), (2, Value.ref (ad2 0)), (3, Value.ref o), (4, Value.int (nI i))]) (fun q hq => ?_) (hN _ _ _ _ hI9 hc9 hm9.1)
      simp at hq ⊢
      rcases hq with h | h | h | h | h <;> simp [h]
set_option maxRecDepth 100000 in
theorem q_begin (C : qCx p l s m args meth c D cy cl ad1 ad2 o R A b L xs) (hL : L ≤ 2050) {i T : Nat} (hi : i + 4 ≤ L) (hRA : pRA R A) {s0 : pT} (hI : pInv R A T s0) (hT : T + 3 ≤ 1536) (hc : cRel R A s0 σ1) (hm : mRel R A (s0.1 1 1 0) s0 σ2) (hN : qNext p l e s m args below meth c D cy cl ad1 ad2 o R A b bc T i) : qEx p l e s m args below meth c D cy cl ad1 ad2 o R A (bc + 1) 408 [(0, Value.ref b), (1, Value.ref (ad1 0)), (2, Value.ref (ad2 0)), (3, Value.ref o), (4, Value.int (nI i))] [] σ1 σ2 f := by
  obtain ⟨r, v, s', hI9, hr9, hw, hm7⟩ := o_begin hRA hI hT hc hm (xs (i + 1))
  refine q_aload_n C dL_law_408 (List.mem_of_getElem? (i := 1) rfl) ?_
  refine q_aload_n C dL_law_409 (List.mem_of_getElem? (i := 0) rfl) ?_
  refine q_iload C dL_law_410 (List.mem_of_getElem? (i := 4) rfl) ?_
  refine q_iconst C (nI 1) dL_law_412 (by decide) ?_
  refine q_iadd C dL_law_413 ?_
  refine q_top (v := .int (nI (i + 1))) (congrArg Value.int (nI_add _ _)) ?_
  refine q_sld C hL (j := i + 1) (by omega) dL_law_414 ?_
  refine q_aload_n C dL_law_415 (List.mem_of_getElem? (i := 3) rfl) ?_
  refine q_callW C (n9 := 3) [.inr true, .inl (xs (i + 1)), .inr false] [] (hw f) dL_law_416 (gU_SW uw_2_98 uw_2_99 uw_1_0 uw_2_100) rfl (by decide +kernel) rfl ⟨by decide, by decide⟩ rfl (Nat.le_of_ble_eq_true rfl) (fun r9 σ9 f9 hq9 => ?_)
  obtain ⟨er, hf9, hc9⟩ := hq9
  subst er
  refine q_istore C [(5, Value.int (nI r)), (0, Value.ref b), (1, Value.ref (ad1 0)), (2, Value.ref (ad2 0)), (3, Value.ref o), (4, Value.int (nI i))] dL_law_419 (by decide) rfl ?_
  refine q_aload_n C dL_law_421 (List.mem_of_getElem? (i := 3) rfl) ?_
  refine q_aload_n C dL_law_422 (List.mem_of_getElem? (i := 1) rfl) ?_
  refine q_iload C dL_law_423 (List.mem_of_getElem? (i := 5) rfl) ?_
  refine q_iconst C (nI 1) dL_law_425 (by decide) ?_
  refine q_iadd C dL_law_426 ?_
  refine q_top (v := .int (nI (i + 1))) (congrArg Value.int (nI_add _ _)) ?_
  refine q_sld C hL (j := i + 1) (by omega) dL_law_427 ?_
  refine q_callM C (n9 := 1) [(xs (i + 1))] [] hm7 (fun k σ' q => by cases q.1) dL_law_428 (gU_V uw_4_6 uw_4_7 uw_4_8 uw_1_8 uw_4_9) rfl (by decide +kernel) rfl ⟨by decide, by decide⟩ rfl (Nat.le_of_ble_eq_true rfl) (fun v9 σ7 hq9 => ?_)
  obtain ⟨ev, hm9⟩ := hq9
  cases ev
  refine q_istore C [(6, Value.int v), (5, Value.int (nI r)), (0, Value.ref b), (1, Value.ref (ad1 0)), (2, Value.ref (ad2 0)), (3, Value.ref o), (4, Value.int (nI i))] dL_law_431 (by decide) rfl ?_
  refine q_aload_n C dL_law_433 (List.mem_of_getElem? (i := 4) rfl) ?_
  refine q_callM C (n9 := 0) [] [] m_thrown (fun k σ' q => by cases q.1) dL_law_434 (gU_V uw_3_202 uw_3_203 uw_3_204 uw_1_8 uw_3_205) rfl (by decide +kernel) rfl ⟨by decide, by decide⟩ rfl (Nat.le_of_ble_eq_true rfl) (fun v9 σ8 hq9 => ?_)
  obtain ⟨ev, eσ⟩ := hq9
  cases ev
  subst eσ
  refine q_top (v := .int (nI r)) (congrArg Value.int hm9.2) ?_
  refine q_iload C dL_law_437 (List.mem_of_getElem? (i := 1) rfl) ?_
  refine q_icmp_eq C 444 dL_law_439 (by decide) (fun _ => ?_) (fun h9 => absurd rfl h9)
  refine q_iload C dL_law_444 (List.mem_of_getElem? (i := 1) rfl) ?_
  refine q_if_ne C 461 dL_law_446 (by decide) (fun h9 => ?_) (fun h9 => ?_)
  · skip
    refine q_goto C 1440 dL_law_461 (by decide) ?_
    refine q_lv (lv' := [(0, Value.ref b), (1, Value.ref (ad1 0)), (2, Value.ref (ad2 0)), (3, Value.ref o), (4, Value.int (nI i))]) (fun q hq => ?_) (hN _ _ _ _ hI9 hc9 hm9.1)
    simp at hq ⊢
    rcases hq with h | h | h | h | h <;> simp [h]
  · have er0 : r = 0 := (nI_z (by omega)).mp (Decidable.of_not_not h9)
    have hf8 := hf9 er0
    refine q_aload_n C dL_law_449 (List.mem_of_getElem? (i := 5) rfl) ?_
    refine q_iconst C (nI 0) dL_law_450 (by decide) ?_
    refine q_lald C dL_law_451 ?_
    refine q_iload C dL_law_452 (List.mem_of_getElem? (i := 0) rfl) ?_
    refine q_i2l C dL_law_454 ?_
    subst hf8
    refine q_lcmp C dL_law_455 ?_
    refine q_if_eq C 461 dL_law_456 (by decide) (fun _ => ?_) (fun h9 => absurd (cmp_same _) h9)
    refine q_goto C 1440 dL_law_461 (by decide) ?_
    refine q_lv (lv' := [(0, Value.ref b), (1, Value.ref (ad1 0)), (2, Value.ref (ad2 0)), (3, Value.ref o), (4, Value.int (nI i))]) (fun q hq => ?_) (hN _ _ _ _ hI9 hc9 hm9.1)
    simp at hq ⊢
    rcases hq with h | h | h | h | h <;> simp [h]
set_option maxRecDepth 100000 in
theorem q_deliver (C : qCx p l s m args meth c D cy cl ad1 ad2 o R A b L xs) (hL : L ≤ 2050) {i T : Nat} (hi : i + 4 ≤ L) (hRA : pRA R A) {s0 : pT} (hI : pInv R A T s0) (hT : T + 3 ≤ 1536) (hc : cRel R A s0 σ1) (hm : mRel R A (s0.1 1 1 0) s0 σ2) (hN : qNext p l e s m args below meth c D cy cl ad1 ad2 o R A b bc T i) : qEx p l e s m args below meth c D cy cl ad1 ad2 o R A (bc + 1) 464 [(0, Value.ref b), (1, Value.ref (ad1 0)), (2, Value.ref (ad2 0)), (3, Value.ref o), (4, Value.int (nI i))] [] σ1 σ2 f := by
  obtain ⟨r, v, s', hI9, hr9, hw, hm7⟩ := o_deliver hRA hI hT hc hm (xs (i + 1))
  refine q_aload_n C dL_law_464 (List.mem_of_getElem? (i := 1) rfl) ?_
  refine q_aload_n C dL_law_465 (List.mem_of_getElem? (i := 0) rfl) ?_
  refine q_iload C dL_law_466 (List.mem_of_getElem? (i := 4) rfl) ?_
  refine q_iconst C (nI 1) dL_law_468 (by decide) ?_
  refine q_iadd C dL_law_469 ?_
  refine q_top (v := .int (nI (i + 1))) (congrArg Value.int (nI_add _ _)) ?_
  refine q_sld C hL (j := i + 1) (by omega) dL_law_470 ?_
  refine q_aload_n C dL_law_471 (List.mem_of_getElem? (i := 3) rfl) ?_
  refine q_callW C (n9 := 3) [.inr true, .inl (xs (i + 1)), .inr false] [] (hw f) dL_law_472 (gU_SW uw_2_119 uw_2_120 uw_1_0 uw_2_121) rfl (by decide +kernel) rfl ⟨by decide, by decide⟩ rfl (Nat.le_of_ble_eq_true rfl) (fun r9 σ9 f9 hq9 => ?_)
  obtain ⟨er, hf9, hc9⟩ := hq9
  subst er
  refine q_istore C [(5, Value.int (nI r)), (0, Value.ref b), (1, Value.ref (ad1 0)), (2, Value.ref (ad2 0)), (3, Value.ref o), (4, Value.int (nI i))] dL_law_475 (by decide) rfl ?_
  refine q_aload_n C dL_law_477 (List.mem_of_getElem? (i := 3) rfl) ?_
  refine q_aload_n C dL_law_478 (List.mem_of_getElem? (i := 1) rfl) ?_
  refine q_iload C dL_law_479 (List.mem_of_getElem? (i := 5) rfl) ?_
  refine q_iconst C (nI 1) dL_law_481 (by decide) ?_
  refine q_iadd C dL_law_482 ?_
  refine q_top (v := .int (nI (i + 1))) (congrArg Value.int (nI_add _ _)) ?_
  refine q_sld C hL (j := i + 1) (by omega) dL_law_483 ?_
  refine q_callM C (n9 := 1) [(xs (i + 1))] [] hm7 (fun k σ' q => by cases q.1) dL_law_484 (gU_V uw_4_13 uw_4_14 uw_4_15 uw_1_8 uw_4_16) rfl (by decide +kernel) rfl ⟨by decide, by decide⟩ rfl (Nat.le_of_ble_eq_true rfl) (fun v9 σ7 hq9 => ?_)
  obtain ⟨ev, hm9⟩ := hq9
  cases ev
  refine q_istore C [(6, Value.int v), (5, Value.int (nI r)), (0, Value.ref b), (1, Value.ref (ad1 0)), (2, Value.ref (ad2 0)), (3, Value.ref o), (4, Value.int (nI i))] dL_law_487 (by decide) rfl ?_
  refine q_aload_n C dL_law_489 (List.mem_of_getElem? (i := 4) rfl) ?_
  refine q_callM C (n9 := 0) [] [] m_thrown (fun k σ' q => by cases q.1) dL_law_490 (gU_V uw_3_202 uw_3_203 uw_3_204 uw_1_8 uw_3_205) rfl (by decide +kernel) rfl ⟨by decide, by decide⟩ rfl (Nat.le_of_ble_eq_true rfl) (fun v9 σ8 hq9 => ?_)
  obtain ⟨ev, eσ⟩ := hq9
  cases ev
  subst eσ
  refine q_top (v := .int (nI r)) (congrArg Value.int hm9.2) ?_
  refine q_iload C dL_law_493 (List.mem_of_getElem? (i := 1) rfl) ?_
  refine q_icmp_eq C 500 dL_law_495 (by decide) (fun _ => ?_) (fun h9 => absurd rfl h9)
  refine q_iload C dL_law_500 (List.mem_of_getElem? (i := 1) rfl) ?_
  refine q_if_ne C 517 dL_law_502 (by decide) (fun h9 => ?_) (fun h9 => ?_)
  · skip
    refine q_goto C 1440 dL_law_517 (by decide) ?_
    refine q_lv (lv' := [(0, Value.ref b), (1, Value.ref (ad1 0)), (2, Value.ref (ad2 0)), (3, Value.ref o), (4, Value.int (nI i))]) (fun q hq => ?_) (hN _ _ _ _ hI9 hc9 hm9.1)
    simp at hq ⊢
    rcases hq with h | h | h | h | h <;> simp [h]
  · have er0 : r = 0 := (nI_z (by omega)).mp (Decidable.of_not_not h9)
    have hf8 := hf9 er0
    refine q_aload_n C dL_law_505 (List.mem_of_getElem? (i := 5) rfl) ?_
    refine q_iconst C (nI 0) dL_law_506 (by decide) ?_
    refine q_lald C dL_law_507 ?_
    refine q_iload C dL_law_508 (List.mem_of_getElem? (i := 0) rfl) ?_
    refine q_i2l C dL_law_510 ?_
    subst hf8
    refine q_lcmp C dL_law_511 ?_
    refine q_if_eq C 517 dL_law_512 (by decide) (fun _ => ?_) (fun h9 => absurd (cmp_same _) h9)
    refine q_goto C 1440 dL_law_517 (by decide) ?_
    refine q_lv (lv' := [(0, Value.ref b), (1, Value.ref (ad1 0)), (2, Value.ref (ad2 0)), (3, Value.ref o), (4, Value.int (nI i))]) (fun q hq => ?_) (hN _ _ _ _ hI9 hc9 hm9.1)
    simp at hq ⊢
    rcases hq with h | h | h | h | h <;> simp [h]
set_option maxRecDepth 100000 in
theorem q_drop (C : qCx p l s m args meth c D cy cl ad1 ad2 o R A b L xs) (hL : L ≤ 2050) {i T : Nat} (hi : i + 4 ≤ L) (hRA : pRA R A) {s0 : pT} (hI : pInv R A T s0) (hT : T + 3 ≤ 1536) (hc : cRel R A s0 σ1) (hm : mRel R A (s0.1 1 1 0) s0 σ2) (hN : qNext p l e s m args below meth c D cy cl ad1 ad2 o R A b bc T i) : qEx p l e s m args below meth c D cy cl ad1 ad2 o R A (bc + 1) 520 [(0, Value.ref b), (1, Value.ref (ad1 0)), (2, Value.ref (ad2 0)), (3, Value.ref o), (4, Value.int (nI i))] [] σ1 σ2 f := by
  obtain ⟨r, s', hI9, hr9, hw, hm7⟩ := o_drop hRA hI hT hc hm (xs (i + 1))
  refine q_aload_n C dL_law_520 (List.mem_of_getElem? (i := 1) rfl) ?_
  refine q_aload_n C dL_law_521 (List.mem_of_getElem? (i := 0) rfl) ?_
  refine q_iload C dL_law_522 (List.mem_of_getElem? (i := 4) rfl) ?_
  refine q_iconst C (nI 1) dL_law_524 (by decide) ?_
  refine q_iadd C dL_law_525 ?_
  refine q_top (v := .int (nI (i + 1))) (congrArg Value.int (nI_add _ _)) ?_
  refine q_sld C hL (j := i + 1) (by omega) dL_law_526 ?_
  refine q_callW C (n9 := 2) [.inr true, .inl (xs (i + 1))] [] (hw f) dL_law_527 (gU_SW uw_3_6 uw_3_7 uw_1_0 uw_3_8) rfl (by decide +kernel) rfl ⟨by decide, by decide⟩ rfl (Nat.le_of_ble_eq_true rfl) (fun r9 σ9 f9 hq9 => ?_)
  obtain ⟨er, hc9⟩ := hq9
  subst er
  refine q_istore C [(5, Value.int (nI r)), (0, Value.ref b), (1, Value.ref (ad1 0)), (2, Value.ref (ad2 0)), (3, Value.ref o), (4, Value.int (nI i))] dL_law_530 (by decide) rfl ?_
  refine q_aload_n C dL_law_532 (List.mem_of_getElem? (i := 3) rfl) ?_
  refine q_aload_n C dL_law_533 (List.mem_of_getElem? (i := 1) rfl) ?_
  refine q_iload C dL_law_534 (List.mem_of_getElem? (i := 5) rfl) ?_
  refine q_iconst C (nI 1) dL_law_536 (by decide) ?_
  refine q_iadd C dL_law_537 ?_
  refine q_top (v := .int (nI (i + 1))) (congrArg Value.int (nI_add _ _)) ?_
  refine q_sld C hL (j := i + 1) (by omega) dL_law_538 ?_
  refine q_callM C (n9 := 1) [(xs (i + 1))] [] hm7 (fun k σ' q => by cases q.1) dL_law_539 (gU_V uw_4_85 uw_4_86 uw_4_87 uw_1_8 uw_4_88) rfl (by decide +kernel) rfl ⟨by decide, by decide⟩ rfl (Nat.le_of_ble_eq_true rfl) (fun v9 σ7 hq9 => ?_)
  obtain ⟨ev, hm9⟩ := hq9
  cases ev
  refine q_aload_n C dL_law_542 (List.mem_of_getElem? (i := 3) rfl) ?_
  refine q_callM C (n9 := 0) [] [] m_thrown (fun k σ' q => by cases q.1) dL_law_543 (gU_V uw_3_202 uw_3_203 uw_3_204 uw_1_8 uw_3_205) rfl (by decide +kernel) rfl ⟨by decide, by decide⟩ rfl (Nat.le_of_ble_eq_true rfl) (fun v9 σ8 hq9 => ?_)
  obtain ⟨ev, eσ⟩ := hq9
  cases ev
  subst eσ
  refine q_top (v := .int (nI r)) (congrArg Value.int hm9.2) ?_
  refine q_iload C dL_law_546 (List.mem_of_getElem? (i := 0) rfl) ?_
  refine q_icmp_eq C 553 dL_law_548 (by decide) (fun _ => ?_) (fun h9 => absurd rfl h9)
  refine q_goto C 1440 dL_law_553 (by decide) ?_
  refine q_lv (lv' := [(0, Value.ref b), (1, Value.ref (ad1 0)), (2, Value.ref (ad2 0)), (3, Value.ref o), (4, Value.int (nI i))]) (fun q hq => ?_) (hN _ _ _ _ hI9 hc9 hm9.1)
  simp at hq ⊢
  rcases hq with h | h | h | h | h <;> simp [h]
set_option maxRecDepth 100000 in
theorem q_copy (C : qCx p l s m args meth c D cy cl ad1 ad2 o R A b L xs) (hL : L ≤ 2050) {i T : Nat} (hi : i + 4 ≤ L) (hRA : pRA R A) {s0 : pT} (hI : pInv R A T s0) (hT : T + 3 ≤ 1536) (hc : cRel R A s0 σ1) (hm : mRel R A (s0.1 1 1 0) s0 σ2) (hN : qNext p l e s m args below meth c D cy cl ad1 ad2 o R A b bc T i) : qEx p l e s m args below meth c D cy cl ad1 ad2 o R A (bc + 1) 556 [(0, Value.ref b), (1, Value.ref (ad1 0)), (2, Value.ref (ad2 0)), (3, Value.ref o), (4, Value.int (nI i))] [] σ1 σ2 f := by
  obtain ⟨r, v, s', hI9, hr9, hw, hm7⟩ := o_copy hRA hI hT hc hm (xs (i + 1))
  refine q_aload_n C dL_law_556 (List.mem_of_getElem? (i := 1) rfl) ?_
  refine q_aload_n C dL_law_557 (List.mem_of_getElem? (i := 0) rfl) ?_
  refine q_iload C dL_law_558 (List.mem_of_getElem? (i := 4) rfl) ?_
  refine q_iconst C (nI 1) dL_law_560 (by decide) ?_
  refine q_iadd C dL_law_561 ?_
  refine q_top (v := .int (nI (i + 1))) (congrArg Value.int (nI_add _ _)) ?_
  refine q_sld C hL (j := i + 1) (by omega) dL_law_562 ?_
  refine q_aload_n C dL_law_563 (List.mem_of_getElem? (i := 3) rfl) ?_
  refine q_callW C (n9 := 3) [.inr true, .inl (xs (i + 1)), .inr false] [] (hw f) dL_law_564 (gU_SW uw_3_13 uw_3_14 uw_1_0 uw_3_15) rfl (by decide +kernel) rfl ⟨by decide, by decide⟩ rfl (Nat.le_of_ble_eq_true rfl) (fun r9 σ9 f9 hq9 => ?_)
  obtain ⟨er, hf9, hc9⟩ := hq9
  subst er
  refine q_istore C [(5, Value.int (nI r)), (0, Value.ref b), (1, Value.ref (ad1 0)), (2, Value.ref (ad2 0)), (3, Value.ref o), (4, Value.int (nI i))] dL_law_567 (by decide) rfl ?_
  refine q_aload_n C dL_law_569 (List.mem_of_getElem? (i := 3) rfl) ?_
  refine q_aload_n C dL_law_570 (List.mem_of_getElem? (i := 1) rfl) ?_
  refine q_iload C dL_law_571 (List.mem_of_getElem? (i := 5) rfl) ?_
  refine q_iconst C (nI 1) dL_law_573 (by decide) ?_
  refine q_iadd C dL_law_574 ?_
  refine q_top (v := .int (nI (i + 1))) (congrArg Value.int (nI_add _ _)) ?_
  refine q_sld C hL (j := i + 1) (by omega) dL_law_575 ?_
  refine q_callM C (n9 := 1) [(xs (i + 1))] [] hm7 (fun k σ' q => by cases q.1) dL_law_576 (gU_V uw_4_89 uw_4_90 uw_4_91 uw_1_8 uw_4_92) rfl (by decide +kernel) rfl ⟨by decide, by decide⟩ rfl (Nat.le_of_ble_eq_true rfl) (fun v9 σ7 hq9 => ?_)
  obtain ⟨ev, hm9⟩ := hq9
  cases ev
  refine q_istore C [(6, Value.int v), (5, Value.int (nI r)), (0, Value.ref b), (1, Value.ref (ad1 0)), (2, Value.ref (ad2 0)), (3, Value.ref o), (4, Value.int (nI i))] dL_law_579 (by decide) rfl ?_
  refine q_aload_n C dL_law_581 (List.mem_of_getElem? (i := 4) rfl) ?_
  refine q_callM C (n9 := 0) [] [] m_thrown (fun k σ' q => by cases q.1) dL_law_582 (gU_V uw_3_202 uw_3_203 uw_3_204 uw_1_8 uw_3_205) rfl (by decide +kernel) rfl ⟨by decide, by decide⟩ rfl (Nat.le_of_ble_eq_true rfl) (fun v9 σ8 hq9 => ?_)
  obtain ⟨ev, eσ⟩ := hq9
  cases ev
  subst eσ
  refine q_top (v := .int (nI r)) (congrArg Value.int hm9.2) ?_
  refine q_iload C dL_law_585 (List.mem_of_getElem? (i := 1) rfl) ?_
  refine q_icmp_eq C 592 dL_law_587 (by decide) (fun _ => ?_) (fun h9 => absurd rfl h9)
  refine q_iload C dL_law_592 (List.mem_of_getElem? (i := 1) rfl) ?_
  refine q_if_ne C 609 dL_law_594 (by decide) (fun h9 => ?_) (fun h9 => ?_)
  · skip
    refine q_goto C 1440 dL_law_609 (by decide) ?_
    refine q_lv (lv' := [(0, Value.ref b), (1, Value.ref (ad1 0)), (2, Value.ref (ad2 0)), (3, Value.ref o), (4, Value.int (nI i))]) (fun q hq => ?_) (hN _ _ _ _ hI9 hc9 hm9.1)
    simp at hq ⊢
    rcases hq with h | h | h | h | h <;> simp [h]
  · have er0 : r = 0 := (nI_z (by omega)).mp (Decidable.of_not_not h9)
    have hf8 := hf9 er0
    refine q_aload_n C dL_law_597 (List.mem_of_getElem? (i := 5) rfl) ?_
    refine q_iconst C (nI 0) dL_law_598 (by decide) ?_
    refine q_lald C dL_law_599 ?_
    refine q_iload C dL_law_600 (List.mem_of_getElem? (i := 0) rfl) ?_
    refine q_i2l C dL_law_602 ?_
    subst hf8
    refine q_lcmp C dL_law_603 ?_
    refine q_if_eq C 609 dL_law_604 (by decide) (fun _ => ?_) (fun h9 => absurd (cmp_same _) h9)
    refine q_goto C 1440 dL_law_609 (by decide) ?_
    refine q_lv (lv' := [(0, Value.ref b), (1, Value.ref (ad1 0)), (2, Value.ref (ad2 0)), (3, Value.ref o), (4, Value.int (nI i))]) (fun q hq => ?_) (hN _ _ _ _ hI9 hc9 hm9.1)
    simp at hq ⊢
    rcases hq with h | h | h | h | h <;> simp [h]
set_option maxRecDepth 100000 in
theorem q_calm (C : qCx p l s m args meth c D cy cl ad1 ad2 o R A b L xs) (hL : L ≤ 2050) {i T : Nat} (hi : i + 4 ≤ L) (hRA : pRA R A) {s0 : pT} (hI : pInv R A T s0) (hT : T + 3 ≤ 1536) (hc : cRel R A s0 σ1) (hm : mRel R A (s0.1 1 1 0) s0 σ2) (hN : qNext p l e s m args below meth c D cy cl ad1 ad2 o R A b bc T i) : qEx p l e s m args below meth c D cy cl ad1 ad2 o R A (bc + 1) 612 [(0, Value.ref b), (1, Value.ref (ad1 0)), (2, Value.ref (ad2 0)), (3, Value.ref o), (4, Value.int (nI i))] [] σ1 σ2 f := by
  obtain ⟨r, v, s', hI9, hr9, hw, hm7⟩ := o_calm hRA hI hT hc hm (xs (i + 1))
  refine q_aload_n C dL_law_612 (List.mem_of_getElem? (i := 1) rfl) ?_
  refine q_aload_n C dL_law_613 (List.mem_of_getElem? (i := 0) rfl) ?_
  refine q_iload C dL_law_614 (List.mem_of_getElem? (i := 4) rfl) ?_
  refine q_iconst C (nI 1) dL_law_616 (by decide) ?_
  refine q_iadd C dL_law_617 ?_
  refine q_top (v := .int (nI (i + 1))) (congrArg Value.int (nI_add _ _)) ?_
  refine q_sld C hL (j := i + 1) (by omega) dL_law_618 ?_
  refine q_aload_n C dL_law_619 (List.mem_of_getElem? (i := 3) rfl) ?_
  refine q_callW C (n9 := 3) [.inr true, .inl (xs (i + 1)), .inr false] [] (hw f) dL_law_620 (gU_SW uw_3_24 uw_3_25 uw_1_0 uw_3_26) rfl (by decide +kernel) rfl ⟨by decide, by decide⟩ rfl (Nat.le_of_ble_eq_true rfl) (fun r9 σ9 f9 hq9 => ?_)
  obtain ⟨er, hf9, hc9⟩ := hq9
  subst er
  refine q_istore C [(5, Value.int (nI r)), (0, Value.ref b), (1, Value.ref (ad1 0)), (2, Value.ref (ad2 0)), (3, Value.ref o), (4, Value.int (nI i))] dL_law_623 (by decide) rfl ?_
  refine q_aload_n C dL_law_625 (List.mem_of_getElem? (i := 3) rfl) ?_
  refine q_aload_n C dL_law_626 (List.mem_of_getElem? (i := 1) rfl) ?_
  refine q_iload C dL_law_627 (List.mem_of_getElem? (i := 5) rfl) ?_
  refine q_iconst C (nI 1) dL_law_629 (by decide) ?_
  refine q_iadd C dL_law_630 ?_
  refine q_top (v := .int (nI (i + 1))) (congrArg Value.int (nI_add _ _)) ?_
  refine q_sld C hL (j := i + 1) (by omega) dL_law_631 ?_
  refine q_callM C (n9 := 1) [(xs (i + 1))] [] hm7 (fun k σ' q => by cases q.1) dL_law_632 (gU_V uw_4_93 uw_4_94 uw_4_95 uw_1_8 uw_4_96) rfl (by decide +kernel) rfl ⟨by decide, by decide⟩ rfl (Nat.le_of_ble_eq_true rfl) (fun v9 σ7 hq9 => ?_)
  obtain ⟨ev, hm9⟩ := hq9
  cases ev
  refine q_istore C [(6, Value.int v), (5, Value.int (nI r)), (0, Value.ref b), (1, Value.ref (ad1 0)), (2, Value.ref (ad2 0)), (3, Value.ref o), (4, Value.int (nI i))] dL_law_635 (by decide) rfl ?_
  refine q_aload_n C dL_law_637 (List.mem_of_getElem? (i := 4) rfl) ?_
  refine q_callM C (n9 := 0) [] [] m_thrown (fun k σ' q => by cases q.1) dL_law_638 (gU_V uw_3_202 uw_3_203 uw_3_204 uw_1_8 uw_3_205) rfl (by decide +kernel) rfl ⟨by decide, by decide⟩ rfl (Nat.le_of_ble_eq_true rfl) (fun v9 σ8 hq9 => ?_)
  obtain ⟨ev, eσ⟩ := hq9
  cases ev
  subst eσ
  refine q_top (v := .int (nI r)) (congrArg Value.int hm9.2) ?_
  refine q_iload C dL_law_641 (List.mem_of_getElem? (i := 1) rfl) ?_
  refine q_icmp_eq C 648 dL_law_643 (by decide) (fun _ => ?_) (fun h9 => absurd rfl h9)
  refine q_iload C dL_law_648 (List.mem_of_getElem? (i := 1) rfl) ?_
  refine q_if_ne C 665 dL_law_650 (by decide) (fun h9 => ?_) (fun h9 => ?_)
  · skip
    refine q_goto C 1440 dL_law_665 (by decide) ?_
    refine q_lv (lv' := [(0, Value.ref b), (1, Value.ref (ad1 0)), (2, Value.ref (ad2 0)), (3, Value.ref o), (4, Value.int (nI i))]) (fun q hq => ?_) (hN _ _ _ _ hI9 hc9 hm9.1)
    simp at hq ⊢
    rcases hq with h | h | h | h | h <;> simp [h]
  · have er0 : r = 0 := (nI_z (by omega)).mp (Decidable.of_not_not h9)
    have hf8 := hf9 er0
    refine q_aload_n C dL_law_653 (List.mem_of_getElem? (i := 5) rfl) ?_
    refine q_iconst C (nI 0) dL_law_654 (by decide) ?_
    refine q_lald C dL_law_655 ?_
    refine q_iload C dL_law_656 (List.mem_of_getElem? (i := 0) rfl) ?_
    refine q_i2l C dL_law_658 ?_
    subst hf8
    refine q_lcmp C dL_law_659 ?_
    refine q_if_eq C 665 dL_law_660 (by decide) (fun _ => ?_) (fun h9 => absurd (cmp_same _) h9)
    refine q_goto C 1440 dL_law_665 (by decide) ?_
    refine q_lv (lv' := [(0, Value.ref b), (1, Value.ref (ad1 0)), (2, Value.ref (ad2 0)), (3, Value.ref o), (4, Value.int (nI i))]) (fun q hq => ?_) (hN _ _ _ _ hI9 hc9 hm9.1)
    simp at hq ⊢
    rcases hq with h | h | h | h | h <;> simp [h]
set_option maxRecDepth 100000 in
theorem q_crash (C : qCx p l s m args meth c D cy cl ad1 ad2 o R A b L xs) (hL : L ≤ 2050) {i T : Nat} (hi : i + 4 ≤ L) (hRA : pRA R A) {s0 : pT} (hI : pInv R A T s0) (hT : T + 3 ≤ 1536) (hc : cRel R A s0 σ1) (hm : mRel R A (s0.1 1 1 0) s0 σ2) (hN : qNext p l e s m args below meth c D cy cl ad1 ad2 o R A b bc T i) : qEx p l e s m args below meth c D cy cl ad1 ad2 o R A (bc + 1) 668 [(0, Value.ref b), (1, Value.ref (ad1 0)), (2, Value.ref (ad2 0)), (3, Value.ref o), (4, Value.int (nI i))] [] σ1 σ2 f := by
  obtain ⟨r, v, s', hI9, hr9, hw, hm7⟩ := o_crash hRA hI hT hc hm (xs (i + 1)) (xs (i + 2))
  refine q_aload_n C dL_law_668 (List.mem_of_getElem? (i := 1) rfl) ?_
  refine q_aload_n C dL_law_669 (List.mem_of_getElem? (i := 0) rfl) ?_
  refine q_iload C dL_law_670 (List.mem_of_getElem? (i := 4) rfl) ?_
  refine q_iconst C (nI 1) dL_law_672 (by decide) ?_
  refine q_iadd C dL_law_673 ?_
  refine q_top (v := .int (nI (i + 1))) (congrArg Value.int (nI_add _ _)) ?_
  refine q_sld C hL (j := i + 1) (by omega) dL_law_674 ?_
  refine q_aload_n C dL_law_675 (List.mem_of_getElem? (i := 0) rfl) ?_
  refine q_iload C dL_law_676 (List.mem_of_getElem? (i := 4) rfl) ?_
  refine q_iconst C (nI 2) dL_law_678 (by decide) ?_
  refine q_iadd C dL_law_679 ?_
  refine q_top (v := .int (nI (i + 2))) (congrArg Value.int (nI_add _ _)) ?_
  refine q_sld C hL (j := i + 2) (by omega) dL_law_680 ?_
  refine q_aload_n C dL_law_681 (List.mem_of_getElem? (i := 3) rfl) ?_
  refine q_callW C (n9 := 4) [.inr true, .inl (xs (i + 1)), .inl (xs (i + 2)), .inr false] [] (hw f) dL_law_682 (gU_SW uw_3_33 uw_3_34 uw_1_0 uw_3_35) rfl (by decide +kernel) rfl ⟨by decide, by decide⟩ rfl (Nat.le_of_ble_eq_true rfl) (fun r9 σ9 f9 hq9 => ?_)
  obtain ⟨er, hf9, hc9⟩ := hq9
  subst er
  refine q_istore C [(5, Value.int (nI r)), (0, Value.ref b), (1, Value.ref (ad1 0)), (2, Value.ref (ad2 0)), (3, Value.ref o), (4, Value.int (nI i))] dL_law_685 (by decide) rfl ?_
  refine q_aload_n C dL_law_687 (List.mem_of_getElem? (i := 3) rfl) ?_
  refine q_aload_n C dL_law_688 (List.mem_of_getElem? (i := 1) rfl) ?_
  refine q_iload C dL_law_689 (List.mem_of_getElem? (i := 5) rfl) ?_
  refine q_iconst C (nI 1) dL_law_691 (by decide) ?_
  refine q_iadd C dL_law_692 ?_
  refine q_top (v := .int (nI (i + 1))) (congrArg Value.int (nI_add _ _)) ?_
  refine q_sld C hL (j := i + 1) (by omega) dL_law_693 ?_
  refine q_aload_n C dL_law_694 (List.mem_of_getElem? (i := 1) rfl) ?_
  refine q_iload C dL_law_695 (List.mem_of_getElem? (i := 5) rfl) ?_
  refine q_iconst C (nI 2) dL_law_697 (by decide) ?_
  refine q_iadd C dL_law_698 ?_
  refine q_top (v := .int (nI (i + 2))) (congrArg Value.int (nI_add _ _)) ?_
  refine q_sld C hL (j := i + 2) (by omega) dL_law_699 ?_
  refine q_callM C (n9 := 2) [(xs (i + 1)), (xs (i + 2))] [] hm7 (fun k σ' q => by cases q.1) dL_law_700 (gU_V uw_4_97 uw_4_98 uw_4_99 uw_1_8 uw_4_100) rfl (by decide +kernel) rfl ⟨by decide, by decide⟩ rfl (Nat.le_of_ble_eq_true rfl) (fun v9 σ7 hq9 => ?_)
  obtain ⟨ev, hm9⟩ := hq9
  cases ev
  refine q_istore C [(6, Value.int v), (5, Value.int (nI r)), (0, Value.ref b), (1, Value.ref (ad1 0)), (2, Value.ref (ad2 0)), (3, Value.ref o), (4, Value.int (nI i))] dL_law_703 (by decide) rfl ?_
  refine q_aload_n C dL_law_705 (List.mem_of_getElem? (i := 4) rfl) ?_
  refine q_callM C (n9 := 0) [] [] m_thrown (fun k σ' q => by cases q.1) dL_law_706 (gU_V uw_3_202 uw_3_203 uw_3_204 uw_1_8 uw_3_205) rfl (by decide +kernel) rfl ⟨by decide, by decide⟩ rfl (Nat.le_of_ble_eq_true rfl) (fun v9 σ8 hq9 => ?_)
  obtain ⟨ev, eσ⟩ := hq9
  cases ev
  subst eσ
  refine q_top (v := .int (nI r)) (congrArg Value.int hm9.2) ?_
  refine q_iload C dL_law_709 (List.mem_of_getElem? (i := 1) rfl) ?_
  refine q_icmp_eq C 716 dL_law_711 (by decide) (fun _ => ?_) (fun h9 => absurd rfl h9)
  refine q_iload C dL_law_716 (List.mem_of_getElem? (i := 1) rfl) ?_
  refine q_if_ne C 740 dL_law_718 (by decide) (fun h9 => ?_) (fun h9 => ?_)
  · skip
    refine q_goto C 1440 dL_law_740 (by decide) ?_
    refine q_lv (lv' := [(0, Value.ref b), (1, Value.ref (ad1 0)), (2, Value.ref (ad2 0)), (3, Value.ref o), (4, Value.int (nI i))]) (fun q hq => ?_) (hN _ _ _ _ hI9 hc9 hm9.1)
    simp at hq ⊢
    rcases hq with h | h | h | h | h <;> simp [h]
  · have er0 : r = 0 := (nI_z (by omega)).mp (Decidable.of_not_not h9)
    have hf8 := hf9 er0
    refine q_aload_n C dL_law_721 (List.mem_of_getElem? (i := 5) rfl) ?_
    refine q_iconst C (nI 0) dL_law_722 (by decide) ?_
    refine q_lald C dL_law_723 ?_
    refine q_iload C dL_law_724 (List.mem_of_getElem? (i := 0) rfl) ?_
    refine q_if_eq C 733 dL_law_726 (by decide) (fun h8 => ?_) (fun h8 => ?_)
    · have hf7 := hf8.trans (if_pos h8)
      subst hf7
      refine q_lconst C 0 dL_law_733 (by decide) ?_
      refine q_lcmp C dL_law_734 ?_
      refine q_if_eq C 740 dL_law_735 (by decide) (fun _ => ?_) (fun h9 => absurd (cmp_same _) h9)
      refine q_goto C 1440 dL_law_740 (by decide) ?_
      refine q_lv (lv' := [(0, Value.ref b), (1, Value.ref (ad1 0)), (2, Value.ref (ad2 0)), (3, Value.ref o), (4, Value.int (nI i))]) (fun q hq => ?_) (hN _ _ _ _ hI9 hc9 hm9.1)
      simp at hq ⊢
      rcases hq with h | h | h | h | h <;> simp [h]
    · have hf7 := hf8.trans (if_neg h8)
      subst hf7
      refine q_lconst C 1 dL_law_729 (by decide) ?_
      refine q_goto C 734 dL_law_730 (by decide) ?_
      refine q_lcmp C dL_law_734 ?_
      refine q_if_eq C 740 dL_law_735 (by decide) (fun _ => ?_) (fun h9 => absurd (cmp_same _) h9)
      refine q_goto C 1440 dL_law_740 (by decide) ?_
      refine q_lv (lv' := [(0, Value.ref b), (1, Value.ref (ad1 0)), (2, Value.ref (ad2 0)), (3, Value.ref o), (4, Value.int (nI i))]) (fun q hq => ?_) (hN _ _ _ _ hI9 hc9 hm9.1)
      simp at hq ⊢
      rcases hq with h | h | h | h | h <;> simp [h]
set_option maxRecDepth 100000 in
theorem q_recover (C : qCx p l s m args meth c D cy cl ad1 ad2 o R A b L xs) (hL : L ≤ 2050) {i T : Nat} (hi : i + 4 ≤ L) (hRA : pRA R A) {s0 : pT} (hI : pInv R A T s0) (hT : T + 3 ≤ 1536) (hc : cRel R A s0 σ1) (hm : mRel R A (s0.1 1 1 0) s0 σ2) (hN : qNext p l e s m args below meth c D cy cl ad1 ad2 o R A b bc T i) : qEx p l e s m args below meth c D cy cl ad1 ad2 o R A (bc + 1) 743 [(0, Value.ref b), (1, Value.ref (ad1 0)), (2, Value.ref (ad2 0)), (3, Value.ref o), (4, Value.int (nI i))] [] σ1 σ2 f := by
  obtain ⟨r, v, s', hI9, hr9, hw, hm7⟩ := o_recover hRA hI hT hc hm (xs (i + 1)) (xs (i + 2))
  refine q_aload_n C dL_law_743 (List.mem_of_getElem? (i := 1) rfl) ?_
  refine q_aload_n C dL_law_744 (List.mem_of_getElem? (i := 0) rfl) ?_
  refine q_iload C dL_law_745 (List.mem_of_getElem? (i := 4) rfl) ?_
  refine q_iconst C (nI 1) dL_law_747 (by decide) ?_
  refine q_iadd C dL_law_748 ?_
  refine q_top (v := .int (nI (i + 1))) (congrArg Value.int (nI_add _ _)) ?_
  refine q_sld C hL (j := i + 1) (by omega) dL_law_749 ?_
  refine q_aload_n C dL_law_750 (List.mem_of_getElem? (i := 0) rfl) ?_
  refine q_iload C dL_law_751 (List.mem_of_getElem? (i := 4) rfl) ?_
  refine q_iconst C (nI 2) dL_law_753 (by decide) ?_
  refine q_iadd C dL_law_754 ?_
  refine q_top (v := .int (nI (i + 2))) (congrArg Value.int (nI_add _ _)) ?_
  refine q_sld C hL (j := i + 2) (by omega) dL_law_755 ?_
  refine q_aload_n C dL_law_756 (List.mem_of_getElem? (i := 3) rfl) ?_
  refine q_callW C (n9 := 4) [.inr true, .inl (xs (i + 1)), .inl (xs (i + 2)), .inr false] [] (hw f) dL_law_757 (gU_SW uw_3_49 uw_3_50 uw_1_0 uw_3_51) rfl (by decide +kernel) rfl ⟨by decide, by decide⟩ rfl (Nat.le_of_ble_eq_true rfl) (fun r9 σ9 f9 hq9 => ?_)
  obtain ⟨er, hf9, hc9⟩ := hq9
  subst er
  refine q_istore C [(5, Value.int (nI r)), (0, Value.ref b), (1, Value.ref (ad1 0)), (2, Value.ref (ad2 0)), (3, Value.ref o), (4, Value.int (nI i))] dL_law_760 (by decide) rfl ?_
  refine q_aload_n C dL_law_762 (List.mem_of_getElem? (i := 3) rfl) ?_
  refine q_aload_n C dL_law_763 (List.mem_of_getElem? (i := 1) rfl) ?_
  refine q_iload C dL_law_764 (List.mem_of_getElem? (i := 5) rfl) ?_
  refine q_iconst C (nI 1) dL_law_766 (by decide) ?_
  refine q_iadd C dL_law_767 ?_
  refine q_top (v := .int (nI (i + 1))) (congrArg Value.int (nI_add _ _)) ?_
  refine q_sld C hL (j := i + 1) (by omega) dL_law_768 ?_
  refine q_aload_n C dL_law_769 (List.mem_of_getElem? (i := 1) rfl) ?_
  refine q_iload C dL_law_770 (List.mem_of_getElem? (i := 5) rfl) ?_
  refine q_iconst C (nI 2) dL_law_772 (by decide) ?_
  refine q_iadd C dL_law_773 ?_
  refine q_top (v := .int (nI (i + 2))) (congrArg Value.int (nI_add _ _)) ?_
  refine q_sld C hL (j := i + 2) (by omega) dL_law_774 ?_
  refine q_callM C (n9 := 2) [(xs (i + 1)), (xs (i + 2))] [] hm7 (fun k σ' q => by cases q.1) dL_law_775 (gU_V uw_4_109 uw_4_110 uw_4_111 uw_1_8 uw_4_112) rfl (by decide +kernel) rfl ⟨by decide, by decide⟩ rfl (Nat.le_of_ble_eq_true rfl) (fun v9 σ7 hq9 => ?_)
  obtain ⟨ev, hm9⟩ := hq9
  cases ev
  refine q_istore C [(6, Value.int v), (5, Value.int (nI r)), (0, Value.ref b), (1, Value.ref (ad1 0)), (2, Value.ref (ad2 0)), (3, Value.ref o), (4, Value.int (nI i))] dL_law_778 (by decide) rfl ?_
  refine q_aload_n C dL_law_780 (List.mem_of_getElem? (i := 4) rfl) ?_
  refine q_callM C (n9 := 0) [] [] m_thrown (fun k σ' q => by cases q.1) dL_law_781 (gU_V uw_3_202 uw_3_203 uw_3_204 uw_1_8 uw_3_205) rfl (by decide +kernel) rfl ⟨by decide, by decide⟩ rfl (Nat.le_of_ble_eq_true rfl) (fun v9 σ8 hq9 => ?_)
  obtain ⟨ev, eσ⟩ := hq9
  cases ev
  subst eσ
  refine q_top (v := .int (nI r)) (congrArg Value.int hm9.2) ?_
  refine q_iload C dL_law_784 (List.mem_of_getElem? (i := 1) rfl) ?_
  refine q_icmp_eq C 791 dL_law_786 (by decide) (fun _ => ?_) (fun h9 => absurd rfl h9)
  refine q_iload C dL_law_791 (List.mem_of_getElem? (i := 1) rfl) ?_
  refine q_if_ne C 815 dL_law_793 (by decide) (fun h9 => ?_) (fun h9 => ?_)
  · skip
    refine q_goto C 1440 dL_law_815 (by decide) ?_
    refine q_lv (lv' := [(0, Value.ref b), (1, Value.ref (ad1 0)), (2, Value.ref (ad2 0)), (3, Value.ref o), (4, Value.int (nI i))]) (fun q hq => ?_) (hN _ _ _ _ hI9 hc9 hm9.1)
    simp at hq ⊢
    rcases hq with h | h | h | h | h <;> simp [h]
  · have er0 : r = 0 := (nI_z (by omega)).mp (Decidable.of_not_not h9)
    have hf8 := hf9 er0
    refine q_aload_n C dL_law_796 (List.mem_of_getElem? (i := 5) rfl) ?_
    refine q_iconst C (nI 0) dL_law_797 (by decide) ?_
    refine q_lald C dL_law_798 ?_
    refine q_iload C dL_law_799 (List.mem_of_getElem? (i := 0) rfl) ?_
    refine q_if_eq C 808 dL_law_801 (by decide) (fun h8 => ?_) (fun h8 => ?_)
    · have hf7 := hf8.trans (if_pos h8)
      subst hf7
      refine q_lconst C 0 dL_law_808 (by decide) ?_
      refine q_lcmp C dL_law_809 ?_
      refine q_if_eq C 815 dL_law_810 (by decide) (fun _ => ?_) (fun h9 => absurd (cmp_same _) h9)
      refine q_goto C 1440 dL_law_815 (by decide) ?_
      refine q_lv (lv' := [(0, Value.ref b), (1, Value.ref (ad1 0)), (2, Value.ref (ad2 0)), (3, Value.ref o), (4, Value.int (nI i))]) (fun q hq => ?_) (hN _ _ _ _ hI9 hc9 hm9.1)
      simp at hq ⊢
      rcases hq with h | h | h | h | h <;> simp [h]
    · have hf7 := hf8.trans (if_neg h8)
      subst hf7
      refine q_lconst C 1 dL_law_804 (by decide) ?_
      refine q_goto C 809 dL_law_805 (by decide) ?_
      refine q_lcmp C dL_law_809 ?_
      refine q_if_eq C 815 dL_law_810 (by decide) (fun _ => ?_) (fun h9 => absurd (cmp_same _) h9)
      refine q_goto C 1440 dL_law_815 (by decide) ?_
      refine q_lv (lv' := [(0, Value.ref b), (1, Value.ref (ad1 0)), (2, Value.ref (ad2 0)), (3, Value.ref o), (4, Value.int (nI i))]) (fun q hq => ?_) (hN _ _ _ _ hI9 hc9 hm9.1)
      simp at hq ⊢
      rcases hq with h | h | h | h | h <;> simp [h]
set_option maxRecDepth 100000 in
theorem q_message (C : qCx p l s m args meth c D cy cl ad1 ad2 o R A b L xs) (hL : L ≤ 2050) {i T : Nat} (hi : i + 4 ≤ L) (hRA : pRA R A) {s0 : pT} (hI : pInv R A T s0) (hT : T + 3 ≤ 1536) (hc : cRel R A s0 σ1) (hm : mRel R A (s0.1 1 1 0) s0 σ2) (hN : qNext p l e s m args below meth c D cy cl ad1 ad2 o R A b bc T i) : qEx p l e s m args below meth c D cy cl ad1 ad2 o R A (bc + 1) 818 [(0, Value.ref b), (1, Value.ref (ad1 0)), (2, Value.ref (ad2 0)), (3, Value.ref o), (4, Value.int (nI i))] [] σ1 σ2 f := by
  obtain ⟨r, v, s', hI9, hr9, hw, hm7⟩ := o_message hRA hI hT hc hm (xs (i + 1)) (xs (i + 2))
  refine q_aload_n C dL_law_818 (List.mem_of_getElem? (i := 1) rfl) ?_
  refine q_aload_n C dL_law_819 (List.mem_of_getElem? (i := 0) rfl) ?_
  refine q_iload C dL_law_820 (List.mem_of_getElem? (i := 4) rfl) ?_
  refine q_iconst C (nI 1) dL_law_822 (by decide) ?_
  refine q_iadd C dL_law_823 ?_
  refine q_top (v := .int (nI (i + 1))) (congrArg Value.int (nI_add _ _)) ?_
  refine q_sld C hL (j := i + 1) (by omega) dL_law_824 ?_
  refine q_aload_n C dL_law_825 (List.mem_of_getElem? (i := 0) rfl) ?_
  refine q_iload C dL_law_826 (List.mem_of_getElem? (i := 4) rfl) ?_
  refine q_iconst C (nI 2) dL_law_828 (by decide) ?_
  refine q_iadd C dL_law_829 ?_
  refine q_top (v := .int (nI (i + 2))) (congrArg Value.int (nI_add _ _)) ?_
  refine q_sld C hL (j := i + 2) (by omega) dL_law_830 ?_
  refine q_aload_n C dL_law_831 (List.mem_of_getElem? (i := 3) rfl) ?_
  refine q_callW C (n9 := 4) [.inr true, .inl (xs (i + 1)), .inl (xs (i + 2)), .inr false] [] (hw f) dL_law_832 (gU_SW uw_3_56 uw_3_57 uw_1_0 uw_3_58) rfl (by decide +kernel) rfl ⟨by decide, by decide⟩ rfl (Nat.le_of_ble_eq_true rfl) (fun r9 σ9 f9 hq9 => ?_)
  obtain ⟨er, hf9, hc9⟩ := hq9
  subst er
  refine q_istore C [(5, Value.int (nI r)), (0, Value.ref b), (1, Value.ref (ad1 0)), (2, Value.ref (ad2 0)), (3, Value.ref o), (4, Value.int (nI i))] dL_law_835 (by decide) rfl ?_
  refine q_aload_n C dL_law_837 (List.mem_of_getElem? (i := 3) rfl) ?_
  refine q_aload_n C dL_law_838 (List.mem_of_getElem? (i := 1) rfl) ?_
  refine q_iload C dL_law_839 (List.mem_of_getElem? (i := 5) rfl) ?_
  refine q_iconst C (nI 1) dL_law_841 (by decide) ?_
  refine q_iadd C dL_law_842 ?_
  refine q_top (v := .int (nI (i + 1))) (congrArg Value.int (nI_add _ _)) ?_
  refine q_sld C hL (j := i + 1) (by omega) dL_law_843 ?_
  refine q_aload_n C dL_law_844 (List.mem_of_getElem? (i := 1) rfl) ?_
  refine q_iload C dL_law_845 (List.mem_of_getElem? (i := 5) rfl) ?_
  refine q_iconst C (nI 2) dL_law_847 (by decide) ?_
  refine q_iadd C dL_law_848 ?_
  refine q_top (v := .int (nI (i + 2))) (congrArg Value.int (nI_add _ _)) ?_
  refine q_sld C hL (j := i + 2) (by omega) dL_law_849 ?_
  refine q_callM C (n9 := 2) [(xs (i + 1)), (xs (i + 2))] [] hm7 (fun k σ' q => by cases q.1) dL_law_850 (gU_V uw_4_113 uw_4_114 uw_4_115 uw_1_8 uw_4_116) rfl (by decide +kernel) rfl ⟨by decide, by decide⟩ rfl (Nat.le_of_ble_eq_true rfl) (fun v9 σ7 hq9 => ?_)
  obtain ⟨ev, hm9⟩ := hq9
  cases ev
  refine q_istore C [(6, Value.int v), (5, Value.int (nI r)), (0, Value.ref b), (1, Value.ref (ad1 0)), (2, Value.ref (ad2 0)), (3, Value.ref o), (4, Value.int (nI i))] dL_law_853 (by decide) rfl ?_
  refine q_aload_n C dL_law_855 (List.mem_of_getElem? (i := 4) rfl) ?_
  refine q_callM C (n9 := 0) [] [] m_thrown (fun k σ' q => by cases q.1) dL_law_856 (gU_V uw_3_202 uw_3_203 uw_3_204 uw_1_8 uw_3_205) rfl (by decide +kernel) rfl ⟨by decide, by decide⟩ rfl (Nat.le_of_ble_eq_true rfl) (fun v9 σ8 hq9 => ?_)
  obtain ⟨ev, eσ⟩ := hq9
  cases ev
  subst eσ
  refine q_top (v := .int (nI r)) (congrArg Value.int hm9.2) ?_
  refine q_iload C dL_law_859 (List.mem_of_getElem? (i := 1) rfl) ?_
  refine q_icmp_eq C 866 dL_law_861 (by decide) (fun _ => ?_) (fun h9 => absurd rfl h9)
  refine q_iload C dL_law_866 (List.mem_of_getElem? (i := 1) rfl) ?_
  refine q_if_ne C 883 dL_law_868 (by decide) (fun h9 => ?_) (fun h9 => ?_)
  · skip
    refine q_goto C 1440 dL_law_883 (by decide) ?_
    refine q_lv (lv' := [(0, Value.ref b), (1, Value.ref (ad1 0)), (2, Value.ref (ad2 0)), (3, Value.ref o), (4, Value.int (nI i))]) (fun q hq => ?_) (hN _ _ _ _ hI9 hc9 hm9.1)
    simp at hq ⊢
    rcases hq with h | h | h | h | h <;> simp [h]
  · have er0 : r = 0 := (nI_z (by omega)).mp (Decidable.of_not_not h9)
    have hf8 := hf9 er0
    refine q_aload_n C dL_law_871 (List.mem_of_getElem? (i := 5) rfl) ?_
    refine q_iconst C (nI 0) dL_law_872 (by decide) ?_
    refine q_lald C dL_law_873 ?_
    refine q_iload C dL_law_874 (List.mem_of_getElem? (i := 0) rfl) ?_
    refine q_i2l C dL_law_876 ?_
    subst hf8
    refine q_lcmp C dL_law_877 ?_
    refine q_if_eq C 883 dL_law_878 (by decide) (fun _ => ?_) (fun h9 => absurd (cmp_same _) h9)
    refine q_goto C 1440 dL_law_883 (by decide) ?_
    refine q_lv (lv' := [(0, Value.ref b), (1, Value.ref (ad1 0)), (2, Value.ref (ad2 0)), (3, Value.ref o), (4, Value.int (nI i))]) (fun q hq => ?_) (hN _ _ _ _ hI9 hc9 hm9.1)
    simp at hq ⊢
    rcases hq with h | h | h | h | h <;> simp [h]
set_option maxRecDepth 100000 in
theorem q_told (C : qCx p l s m args meth c D cy cl ad1 ad2 o R A b L xs) (hL : L ≤ 2050) {i T : Nat} (hi : i + 4 ≤ L) (hRA : pRA R A) {s0 : pT} (hI : pInv R A T s0) (hT : T + 3 ≤ 1536) (hc : cRel R A s0 σ1) (hm : mRel R A (s0.1 1 1 0) s0 σ2) (hN : qNext p l e s m args below meth c D cy cl ad1 ad2 o R A b bc T i) : qEx p l e s m args below meth c D cy cl ad1 ad2 o R A (bc + 1) 886 [(0, Value.ref b), (1, Value.ref (ad1 0)), (2, Value.ref (ad2 0)), (3, Value.ref o), (4, Value.int (nI i))] [] σ1 σ2 f := by
  refine q_aload_n C dL_law_886 (List.mem_of_getElem? (i := 1) rfl) ?_
  refine q_aload_n C dL_law_887 (List.mem_of_getElem? (i := 0) rfl) ?_
  refine q_iload C dL_law_888 (List.mem_of_getElem? (i := 4) rfl) ?_
  refine q_iconst C (nI 1) dL_law_890 (by decide) ?_
  refine q_iadd C dL_law_891 ?_
  refine q_top (v := .int (nI (i + 1))) (congrArg Value.int (nI_add _ _)) ?_
  refine q_sld C hL (j := i + 1) (by omega) dL_law_892 ?_
  refine q_aload_n C dL_law_893 (List.mem_of_getElem? (i := 0) rfl) ?_
  refine q_iload C dL_law_894 (List.mem_of_getElem? (i := 4) rfl) ?_
  refine q_iconst C (nI 2) dL_law_896 (by decide) ?_
  refine q_iadd C dL_law_897 ?_
  refine q_top (v := .int (nI (i + 2))) (congrArg Value.int (nI_add _ _)) ?_
  refine q_sld C hL (j := i + 2) (by omega) dL_law_898 ?_
  refine q_aload_n C dL_law_899 (List.mem_of_getElem? (i := 0) rfl) ?_
  refine q_iload C dL_law_900 (List.mem_of_getElem? (i := 4) rfl) ?_
  refine q_iconst C (nI 3) dL_law_902 (by decide) ?_
  refine q_iadd C dL_law_903 ?_
  refine q_top (v := .int (nI (i + 3))) (congrArg Value.int (nI_add _ _)) ?_
  refine q_sld C hL (j := i + 3) (by omega) dL_law_904 ?_
  refine q_if_eq C 912 dL_law_905 (by decide) (fun h905 => ?_) (fun h905 => ?_)
  · skip
    obtain ⟨r, v, s', hI9, hr9, hw, hm7⟩ := o_told hRA hI hT hc hm (xs (i + 1)) (xs (i + 2)) (nI 0) (Or.inl rfl)
    refine q_iconst C (nI 0) dL_law_912 (by decide) ?_
    refine q_aload_n C dL_law_913 (List.mem_of_getElem? (i := 3) rfl) ?_
    refine q_callW C (n9 := 5) [.inr true, .inl (xs (i + 1)), .inl (xs (i + 2)), .inl (nI 0), .inr false] [] (hw f) dL_law_914 (gU_SW uw_3_63 uw_3_64 uw_1_0 uw_3_65) rfl (by decide +kernel) rfl ⟨by decide, by decide⟩ rfl (Nat.le_of_ble_eq_true rfl) (fun r9 σ9 f9 hq9 => ?_)
    obtain ⟨er, hf9, hc9⟩ := hq9
    subst er
    refine q_istore C [(5, Value.int (nI r)), (0, Value.ref b), (1, Value.ref (ad1 0)), (2, Value.ref (ad2 0)), (3, Value.ref o), (4, Value.int (nI i))] dL_law_917 (by decide) rfl ?_
    refine q_aload_n C dL_law_919 (List.mem_of_getElem? (i := 3) rfl) ?_
    refine q_aload_n C dL_law_920 (List.mem_of_getElem? (i := 1) rfl) ?_
    refine q_iload C dL_law_921 (List.mem_of_getElem? (i := 5) rfl) ?_
    refine q_iconst C (nI 1) dL_law_923 (by decide) ?_
    refine q_iadd C dL_law_924 ?_
    refine q_top (v := .int (nI (i + 1))) (congrArg Value.int (nI_add _ _)) ?_
    refine q_sld C hL (j := i + 1) (by omega) dL_law_925 ?_
    refine q_aload_n C dL_law_926 (List.mem_of_getElem? (i := 1) rfl) ?_
    refine q_iload C dL_law_927 (List.mem_of_getElem? (i := 5) rfl) ?_
    refine q_iconst C (nI 2) dL_law_929 (by decide) ?_
    refine q_iadd C dL_law_930 ?_
    refine q_top (v := .int (nI (i + 2))) (congrArg Value.int (nI_add _ _)) ?_
    refine q_sld C hL (j := i + 2) (by omega) dL_law_931 ?_
    refine q_aload_n C dL_law_932 (List.mem_of_getElem? (i := 1) rfl) ?_
    refine q_iload C dL_law_933 (List.mem_of_getElem? (i := 5) rfl) ?_
    refine q_iconst C (nI 3) dL_law_935 (by decide) ?_
    refine q_iadd C dL_law_936 ?_
    refine q_top (v := .int (nI (i + 3))) (congrArg Value.int (nI_add _ _)) ?_
    refine q_sld C hL (j := i + 3) (by omega) dL_law_937 ?_
    refine q_if_eq C 945 dL_law_938 (by decide) (fun h938 => ?_) (fun h938 => ?_)
    · skip
      refine q_iconst C (nI 0) dL_law_945 (by decide) ?_
      refine q_callM C (n9 := 3) [(xs (i + 1)), (xs (i + 2)), (nI 0)] [] hm7 (fun k σ' q => by cases q.1) dL_law_946 (gU_V uw_4_117 uw_4_118 uw_4_119 uw_1_8 uw_4_120) rfl (by decide +kernel) rfl ⟨by decide, by decide⟩ rfl (Nat.le_of_ble_eq_true rfl) (fun v9 σ7 hq9 => ?_)
      obtain ⟨ev, hm9⟩ := hq9
      cases ev
      refine q_istore C [(6, Value.int v), (5, Value.int (nI r)), (0, Value.ref b), (1, Value.ref (ad1 0)), (2, Value.ref (ad2 0)), (3, Value.ref o), (4, Value.int (nI i))] dL_law_949 (by decide) rfl ?_
      refine q_aload_n C dL_law_951 (List.mem_of_getElem? (i := 4) rfl) ?_
      refine q_callM C (n9 := 0) [] [] m_thrown (fun k σ' q => by cases q.1) dL_law_952 (gU_V uw_3_202 uw_3_203 uw_3_204 uw_1_8 uw_3_205) rfl (by decide +kernel) rfl ⟨by decide, by decide⟩ rfl (Nat.le_of_ble_eq_true rfl) (fun v9 σ8 hq9 => ?_)
      obtain ⟨ev, eσ⟩ := hq9
      cases ev
      subst eσ
      refine q_top (v := .int (nI r)) (congrArg Value.int hm9.2) ?_
      refine q_iload C dL_law_955 (List.mem_of_getElem? (i := 1) rfl) ?_
      refine q_icmp_eq C 962 dL_law_957 (by decide) (fun _ => ?_) (fun h9 => absurd rfl h9)
      refine q_iload C dL_law_962 (List.mem_of_getElem? (i := 1) rfl) ?_
      refine q_if_ne C 979 dL_law_964 (by decide) (fun h9 => ?_) (fun h9 => ?_)
      · skip
        refine q_goto C 1440 dL_law_979 (by decide) ?_
        refine q_lv (lv' := [(0, Value.ref b), (1, Value.ref (ad1 0)), (2, Value.ref (ad2 0)), (3, Value.ref o), (4, Value.int (nI i))]) (fun q hq => ?_) (hN _ _ _ _ hI9 hc9 hm9.1)
        simp at hq ⊢
        rcases hq with h | h | h | h | h <;> simp [h]
      · have er0 : r = 0 := (nI_z (by omega)).mp (Decidable.of_not_not h9)
        have hf8 := hf9 er0
        refine q_aload_n C dL_law_967 (List.mem_of_getElem? (i := 5) rfl) ?_
        refine q_iconst C (nI 0) dL_law_968 (by decide) ?_
        refine q_lald C dL_law_969 ?_
        refine q_iload C dL_law_970 (List.mem_of_getElem? (i := 0) rfl) ?_
        refine q_i2l C dL_law_972 ?_
        subst hf8
        refine q_lcmp C dL_law_973 ?_
        refine q_if_eq C 979 dL_law_974 (by decide) (fun _ => ?_) (fun h9 => absurd (cmp_same _) h9)
        refine q_goto C 1440 dL_law_979 (by decide) ?_
        refine q_lv (lv' := [(0, Value.ref b), (1, Value.ref (ad1 0)), (2, Value.ref (ad2 0)), (3, Value.ref o), (4, Value.int (nI i))]) (fun q hq => ?_) (hN _ _ _ _ hI9 hc9 hm9.1)
        simp at hq ⊢
        rcases hq with h | h | h | h | h <;> simp [h]
    · skip
      exact absurd h905 h938
  · skip
    obtain ⟨r, v, s', hI9, hr9, hw, hm7⟩ := o_told hRA hI hT hc hm (xs (i + 1)) (xs (i + 2)) (nI 1) (Or.inr rfl)
    refine q_iconst C (nI 1) dL_law_908 (by decide) ?_
    refine q_goto C 913 dL_law_909 (by decide) ?_
    refine q_aload_n C dL_law_913 (List.mem_of_getElem? (i := 3) rfl) ?_
    refine q_callW C (n9 := 5) [.inr true, .inl (xs (i + 1)), .inl (xs (i + 2)), .inl (nI 1), .inr false] [] (hw f) dL_law_914 (gU_SW uw_3_63 uw_3_64 uw_1_0 uw_3_65) rfl (by decide +kernel) rfl ⟨by decide, by decide⟩ rfl (Nat.le_of_ble_eq_true rfl) (fun r9 σ9 f9 hq9 => ?_)
    obtain ⟨er, hf9, hc9⟩ := hq9
    subst er
    refine q_istore C [(5, Value.int (nI r)), (0, Value.ref b), (1, Value.ref (ad1 0)), (2, Value.ref (ad2 0)), (3, Value.ref o), (4, Value.int (nI i))] dL_law_917 (by decide) rfl ?_
    refine q_aload_n C dL_law_919 (List.mem_of_getElem? (i := 3) rfl) ?_
    refine q_aload_n C dL_law_920 (List.mem_of_getElem? (i := 1) rfl) ?_
    refine q_iload C dL_law_921 (List.mem_of_getElem? (i := 5) rfl) ?_
    refine q_iconst C (nI 1) dL_law_923 (by decide) ?_
    refine q_iadd C dL_law_924 ?_
    refine q_top (v := .int (nI (i + 1))) (congrArg Value.int (nI_add _ _)) ?_
    refine q_sld C hL (j := i + 1) (by omega) dL_law_925 ?_
    refine q_aload_n C dL_law_926 (List.mem_of_getElem? (i := 1) rfl) ?_
    refine q_iload C dL_law_927 (List.mem_of_getElem? (i := 5) rfl) ?_
    refine q_iconst C (nI 2) dL_law_929 (by decide) ?_
    refine q_iadd C dL_law_930 ?_
    refine q_top (v := .int (nI (i + 2))) (congrArg Value.int (nI_add _ _)) ?_
    refine q_sld C hL (j := i + 2) (by omega) dL_law_931 ?_
    refine q_aload_n C dL_law_932 (List.mem_of_getElem? (i := 1) rfl) ?_
    refine q_iload C dL_law_933 (List.mem_of_getElem? (i := 5) rfl) ?_
    refine q_iconst C (nI 3) dL_law_935 (by decide) ?_
    refine q_iadd C dL_law_936 ?_
    refine q_top (v := .int (nI (i + 3))) (congrArg Value.int (nI_add _ _)) ?_
    refine q_sld C hL (j := i + 3) (by omega) dL_law_937 ?_
    refine q_if_eq C 945 dL_law_938 (by decide) (fun h938 => ?_) (fun h938 => ?_)
    · skip
      exact absurd h938 h905
    · skip
      refine q_iconst C (nI 1) dL_law_941 (by decide) ?_
      refine q_goto C 946 dL_law_942 (by decide) ?_
      refine q_callM C (n9 := 3) [(xs (i + 1)), (xs (i + 2)), (nI 1)] [] hm7 (fun k σ' q => by cases q.1) dL_law_946 (gU_V uw_4_117 uw_4_118 uw_4_119 uw_1_8 uw_4_120) rfl (by decide +kernel) rfl ⟨by decide, by decide⟩ rfl (Nat.le_of_ble_eq_true rfl) (fun v9 σ7 hq9 => ?_)
      obtain ⟨ev, hm9⟩ := hq9
      cases ev
      refine q_istore C [(6, Value.int v), (5, Value.int (nI r)), (0, Value.ref b), (1, Value.ref (ad1 0)), (2, Value.ref (ad2 0)), (3, Value.ref o), (4, Value.int (nI i))] dL_law_949 (by decide) rfl ?_
      refine q_aload_n C dL_law_951 (List.mem_of_getElem? (i := 4) rfl) ?_
      refine q_callM C (n9 := 0) [] [] m_thrown (fun k σ' q => by cases q.1) dL_law_952 (gU_V uw_3_202 uw_3_203 uw_3_204 uw_1_8 uw_3_205) rfl (by decide +kernel) rfl ⟨by decide, by decide⟩ rfl (Nat.le_of_ble_eq_true rfl) (fun v9 σ8 hq9 => ?_)
      obtain ⟨ev, eσ⟩ := hq9
      cases ev
      subst eσ
      refine q_top (v := .int (nI r)) (congrArg Value.int hm9.2) ?_
      refine q_iload C dL_law_955 (List.mem_of_getElem? (i := 1) rfl) ?_
      refine q_icmp_eq C 962 dL_law_957 (by decide) (fun _ => ?_) (fun h9 => absurd rfl h9)
      refine q_iload C dL_law_962 (List.mem_of_getElem? (i := 1) rfl) ?_
      refine q_if_ne C 979 dL_law_964 (by decide) (fun h9 => ?_) (fun h9 => ?_)
      · skip
        refine q_goto C 1440 dL_law_979 (by decide) ?_
        refine q_lv (lv' := [(0, Value.ref b), (1, Value.ref (ad1 0)), (2, Value.ref (ad2 0)), (3, Value.ref o), (4, Value.int (nI i))]) (fun q hq => ?_) (hN _ _ _ _ hI9 hc9 hm9.1)
        simp at hq ⊢
        rcases hq with h | h | h | h | h <;> simp [h]
      · have er0 : r = 0 := (nI_z (by omega)).mp (Decidable.of_not_not h9)
        have hf8 := hf9 er0
        refine q_aload_n C dL_law_967 (List.mem_of_getElem? (i := 5) rfl) ?_
        refine q_iconst C (nI 0) dL_law_968 (by decide) ?_
        refine q_lald C dL_law_969 ?_
        refine q_iload C dL_law_970 (List.mem_of_getElem? (i := 0) rfl) ?_
        refine q_i2l C dL_law_972 ?_
        subst hf8
        refine q_lcmp C dL_law_973 ?_
        refine q_if_eq C 979 dL_law_974 (by decide) (fun _ => ?_) (fun h9 => absurd (cmp_same _) h9)
        refine q_goto C 1440 dL_law_979 (by decide) ?_
        refine q_lv (lv' := [(0, Value.ref b), (1, Value.ref (ad1 0)), (2, Value.ref (ad2 0)), (3, Value.ref o), (4, Value.int (nI i))]) (fun q hq => ?_) (hN _ _ _ _ hI9 hc9 hm9.1)
        simp at hq ⊢
        rcases hq with h | h | h | h | h <;> simp [h]
set_option maxRecDepth 100000 in
theorem q_manager (C : qCx p l s m args meth c D cy cl ad1 ad2 o R A b L xs) (hL : L ≤ 2050) {i T : Nat} (hi : i + 4 ≤ L) (hRA : pRA R A) {s0 : pT} (hI : pInv R A T s0) (hT : T + 3 ≤ 1536) (hc : cRel R A s0 σ1) (hm : mRel R A (s0.1 1 1 0) s0 σ2) (hN : qNext p l e s m args below meth c D cy cl ad1 ad2 o R A b bc T i) : qEx p l e s m args below meth c D cy cl ad1 ad2 o R A (bc + 1) 982 [(0, Value.ref b), (1, Value.ref (ad1 0)), (2, Value.ref (ad2 0)), (3, Value.ref o), (4, Value.int (nI i))] [] σ1 σ2 f := by
  obtain ⟨r, v, s', hI9, hr9, hw, hm7⟩ := o_manager hRA hI hT hc hm (xs (i + 1)) (xs (i + 2))
  refine q_aload_n C dL_law_982 (List.mem_of_getElem? (i := 1) rfl) ?_
  refine q_aload_n C dL_law_983 (List.mem_of_getElem? (i := 0) rfl) ?_
  refine q_iload C dL_law_984 (List.mem_of_getElem? (i := 4) rfl) ?_
  refine q_iconst C (nI 1) dL_law_986 (by decide) ?_
  refine q_iadd C dL_law_987 ?_
  refine q_top (v := .int (nI (i + 1))) (congrArg Value.int (nI_add _ _)) ?_
  refine q_sld C hL (j := i + 1) (by omega) dL_law_988 ?_
  refine q_aload_n C dL_law_989 (List.mem_of_getElem? (i := 0) rfl) ?_
  refine q_iload C dL_law_990 (List.mem_of_getElem? (i := 4) rfl) ?_
  refine q_iconst C (nI 2) dL_law_992 (by decide) ?_
  refine q_iadd C dL_law_993 ?_
  refine q_top (v := .int (nI (i + 2))) (congrArg Value.int (nI_add _ _)) ?_
  refine q_sld C hL (j := i + 2) (by omega) dL_law_994 ?_
  refine q_aload_n C dL_law_995 (List.mem_of_getElem? (i := 3) rfl) ?_
  refine q_callW C (n9 := 4) [.inr true, .inl (xs (i + 1)), .inl (xs (i + 2)), .inr false] [] (hw f) dL_law_996 (gU_SW uw_3_71 uw_3_72 uw_1_0 uw_3_73) rfl (by decide +kernel) rfl ⟨by decide, by decide⟩ rfl (Nat.le_of_ble_eq_true rfl) (fun r9 σ9 f9 hq9 => ?_)
  obtain ⟨er, hf9, hc9⟩ := hq9
  subst er
  refine q_istore C [(5, Value.int (nI r)), (0, Value.ref b), (1, Value.ref (ad1 0)), (2, Value.ref (ad2 0)), (3, Value.ref o), (4, Value.int (nI i))] dL_law_999 (by decide) rfl ?_
  refine q_aload_n C dL_law_1001 (List.mem_of_getElem? (i := 3) rfl) ?_
  refine q_aload_n C dL_law_1002 (List.mem_of_getElem? (i := 1) rfl) ?_
  refine q_iload C dL_law_1003 (List.mem_of_getElem? (i := 5) rfl) ?_
  refine q_iconst C (nI 1) dL_law_1005 (by decide) ?_
  refine q_iadd C dL_law_1006 ?_
  refine q_top (v := .int (nI (i + 1))) (congrArg Value.int (nI_add _ _)) ?_
  refine q_sld C hL (j := i + 1) (by omega) dL_law_1007 ?_
  refine q_aload_n C dL_law_1008 (List.mem_of_getElem? (i := 1) rfl) ?_
  refine q_iload C dL_law_1009 (List.mem_of_getElem? (i := 5) rfl) ?_
  refine q_iconst C (nI 2) dL_law_1011 (by decide) ?_
  refine q_iadd C dL_law_1012 ?_
  refine q_top (v := .int (nI (i + 2))) (congrArg Value.int (nI_add _ _)) ?_
  refine q_sld C hL (j := i + 2) (by omega) dL_law_1013 ?_
  refine q_callM C (n9 := 2) [(xs (i + 1)), (xs (i + 2))] [] hm7 (fun k σ' q => by cases q.1) dL_law_1014 (gU_V uw_4_121 uw_4_122 uw_4_123 uw_1_8 uw_4_124) rfl (by decide +kernel) rfl ⟨by decide, by decide⟩ rfl (Nat.le_of_ble_eq_true rfl) (fun v9 σ7 hq9 => ?_)
  obtain ⟨ev, hm9⟩ := hq9
  cases ev
  refine q_istore C [(6, Value.int v), (5, Value.int (nI r)), (0, Value.ref b), (1, Value.ref (ad1 0)), (2, Value.ref (ad2 0)), (3, Value.ref o), (4, Value.int (nI i))] dL_law_1017 (by decide) rfl ?_
  refine q_aload_n C dL_law_1019 (List.mem_of_getElem? (i := 4) rfl) ?_
  refine q_callM C (n9 := 0) [] [] m_thrown (fun k σ' q => by cases q.1) dL_law_1020 (gU_V uw_3_202 uw_3_203 uw_3_204 uw_1_8 uw_3_205) rfl (by decide +kernel) rfl ⟨by decide, by decide⟩ rfl (Nat.le_of_ble_eq_true rfl) (fun v9 σ8 hq9 => ?_)
  obtain ⟨ev, eσ⟩ := hq9
  cases ev
  subst eσ
  refine q_top (v := .int (nI r)) (congrArg Value.int hm9.2) ?_
  refine q_iload C dL_law_1023 (List.mem_of_getElem? (i := 1) rfl) ?_
  refine q_icmp_eq C 1030 dL_law_1025 (by decide) (fun _ => ?_) (fun h9 => absurd rfl h9)
  refine q_iload C dL_law_1030 (List.mem_of_getElem? (i := 1) rfl) ?_
  refine q_if_ne C 1047 dL_law_1032 (by decide) (fun h9 => ?_) (fun h9 => ?_)
  · skip
    refine q_goto C 1440 dL_law_1047 (by decide) ?_
    refine q_lv (lv' := [(0, Value.ref b), (1, Value.ref (ad1 0)), (2, Value.ref (ad2 0)), (3, Value.ref o), (4, Value.int (nI i))]) (fun q hq => ?_) (hN _ _ _ _ hI9 hc9 hm9.1)
    simp at hq ⊢
    rcases hq with h | h | h | h | h <;> simp [h]
  · have er0 : r = 0 := (nI_z (by omega)).mp (Decidable.of_not_not h9)
    have hf8 := hf9 er0
    refine q_aload_n C dL_law_1035 (List.mem_of_getElem? (i := 5) rfl) ?_
    refine q_iconst C (nI 0) dL_law_1036 (by decide) ?_
    refine q_lald C dL_law_1037 ?_
    refine q_iload C dL_law_1038 (List.mem_of_getElem? (i := 0) rfl) ?_
    refine q_i2l C dL_law_1040 ?_
    subst hf8
    refine q_lcmp C dL_law_1041 ?_
    refine q_if_eq C 1047 dL_law_1042 (by decide) (fun _ => ?_) (fun h9 => absurd (cmp_same _) h9)
    refine q_goto C 1440 dL_law_1047 (by decide) ?_
    refine q_lv (lv' := [(0, Value.ref b), (1, Value.ref (ad1 0)), (2, Value.ref (ad2 0)), (3, Value.ref o), (4, Value.int (nI i))]) (fun q hq => ?_) (hN _ _ _ _ hI9 hc9 hm9.1)
    simp at hq ⊢
    rcases hq with h | h | h | h | h <;> simp [h]
set_option maxRecDepth 100000 in
theorem q_acceptor (C : qCx p l s m args meth c D cy cl ad1 ad2 o R A b L xs) (hL : L ≤ 2050) {i T : Nat} (hi : i + 4 ≤ L) (hRA : pRA R A) {s0 : pT} (hI : pInv R A T s0) (hT : T + 3 ≤ 1536) (hc : cRel R A s0 σ1) (hm : mRel R A (s0.1 1 1 0) s0 σ2) (hN : qNext p l e s m args below meth c D cy cl ad1 ad2 o R A b bc T i) : qEx p l e s m args below meth c D cy cl ad1 ad2 o R A (bc + 1) 1050 [(0, Value.ref b), (1, Value.ref (ad1 0)), (2, Value.ref (ad2 0)), (3, Value.ref o), (4, Value.int (nI i))] [] σ1 σ2 f := by
  obtain ⟨r, v, s', hI9, hr9, hw, hm7⟩ := o_acceptor hRA hI hT hc hm (xs (i + 1)) (xs (i + 2)) (xs (i + 3))
  refine q_aload_n C dL_law_1050 (List.mem_of_getElem? (i := 1) rfl) ?_
  refine q_aload_n C dL_law_1051 (List.mem_of_getElem? (i := 0) rfl) ?_
  refine q_iload C dL_law_1052 (List.mem_of_getElem? (i := 4) rfl) ?_
  refine q_iconst C (nI 1) dL_law_1054 (by decide) ?_
  refine q_iadd C dL_law_1055 ?_
  refine q_top (v := .int (nI (i + 1))) (congrArg Value.int (nI_add _ _)) ?_
  refine q_sld C hL (j := i + 1) (by omega) dL_law_1056 ?_
  refine q_aload_n C dL_law_1057 (List.mem_of_getElem? (i := 0) rfl) ?_
  refine q_iload C dL_law_1058 (List.mem_of_getElem? (i := 4) rfl) ?_
  refine q_iconst C (nI 2) dL_law_1060 (by decide) ?_
  refine q_iadd C dL_law_1061 ?_
  refine q_top (v := .int (nI (i + 2))) (congrArg Value.int (nI_add _ _)) ?_
  refine q_sld C hL (j := i + 2) (by omega) dL_law_1062 ?_
  refine q_aload_n C dL_law_1063 (List.mem_of_getElem? (i := 0) rfl) ?_
  refine q_iload C dL_law_1064 (List.mem_of_getElem? (i := 4) rfl) ?_
  refine q_iconst C (nI 3) dL_law_1066 (by decide) ?_
  refine q_iadd C dL_law_1067 ?_
  refine q_top (v := .int (nI (i + 3))) (congrArg Value.int (nI_add _ _)) ?_
  refine q_sld C hL (j := i + 3) (by omega) dL_law_1068 ?_
  refine q_aload_n C dL_law_1069 (List.mem_of_getElem? (i := 3) rfl) ?_
  refine q_callW C (n9 := 5) [.inr true, .inl (xs (i + 1)), .inl (xs (i + 2)), .inl (xs (i + 3)), .inr false] [] (hw f) dL_law_1070 (gU_SW uw_3_78 uw_3_79 uw_1_0 uw_3_80) rfl (by decide +kernel) rfl ⟨by decide, by decide⟩ rfl (Nat.le_of_ble_eq_true rfl) (fun r9 σ9 f9 hq9 => ?_)
  obtain ⟨er, hf9, hc9⟩ := hq9
  subst er
  refine q_istore C [(5, Value.int (nI r)), (0, Value.ref b), (1, Value.ref (ad1 0)), (2, Value.ref (ad2 0)), (3, Value.ref o), (4, Value.int (nI i))] dL_law_1073 (by decide) rfl ?_
  refine q_aload_n C dL_law_1075 (List.mem_of_getElem? (i := 3) rfl) ?_
  refine q_aload_n C dL_law_1076 (List.mem_of_getElem? (i := 1) rfl) ?_
  refine q_iload C dL_law_1077 (List.mem_of_getElem? (i := 5) rfl) ?_
  refine q_iconst C (nI 1) dL_law_1079 (by decide) ?_
  refine q_iadd C dL_law_1080 ?_
  refine q_top (v := .int (nI (i + 1))) (congrArg Value.int (nI_add _ _)) ?_
  refine q_sld C hL (j := i + 1) (by omega) dL_law_1081 ?_
  refine q_aload_n C dL_law_1082 (List.mem_of_getElem? (i := 1) rfl) ?_
  refine q_iload C dL_law_1083 (List.mem_of_getElem? (i := 5) rfl) ?_
  refine q_iconst C (nI 2) dL_law_1085 (by decide) ?_
  refine q_iadd C dL_law_1086 ?_
  refine q_top (v := .int (nI (i + 2))) (congrArg Value.int (nI_add _ _)) ?_
  refine q_sld C hL (j := i + 2) (by omega) dL_law_1087 ?_
  refine q_aload_n C dL_law_1088 (List.mem_of_getElem? (i := 1) rfl) ?_
  refine q_iload C dL_law_1089 (List.mem_of_getElem? (i := 5) rfl) ?_
  refine q_iconst C (nI 3) dL_law_1091 (by decide) ?_
  refine q_iadd C dL_law_1092 ?_
  refine q_top (v := .int (nI (i + 3))) (congrArg Value.int (nI_add _ _)) ?_
  refine q_sld C hL (j := i + 3) (by omega) dL_law_1093 ?_
  refine q_callM C (n9 := 3) [(xs (i + 1)), (xs (i + 2)), (xs (i + 3))] [] hm7 (fun k σ' q => by cases q.1) dL_law_1094 (gU_V uw_4_125 uw_4_126 uw_4_127 uw_1_8 uw_4_128) rfl (by decide +kernel) rfl ⟨by decide, by decide⟩ rfl (Nat.le_of_ble_eq_true rfl) (fun v9 σ7 hq9 => ?_)
  obtain ⟨ev, hm9⟩ := hq9
  cases ev
  refine q_istore C [(6, Value.int v), (5, Value.int (nI r)), (0, Value.ref b), (1, Value.ref (ad1 0)), (2, Value.ref (ad2 0)), (3, Value.ref o), (4, Value.int (nI i))] dL_law_1097 (by decide) rfl ?_
  refine q_aload_n C dL_law_1099 (List.mem_of_getElem? (i := 4) rfl) ?_
  refine q_callM C (n9 := 0) [] [] m_thrown (fun k σ' q => by cases q.1) dL_law_1100 (gU_V uw_3_202 uw_3_203 uw_3_204 uw_1_8 uw_3_205) rfl (by decide +kernel) rfl ⟨by decide, by decide⟩ rfl (Nat.le_of_ble_eq_true rfl) (fun v9 σ8 hq9 => ?_)
  obtain ⟨ev, eσ⟩ := hq9
  cases ev
  subst eσ
  refine q_top (v := .int (nI r)) (congrArg Value.int hm9.2) ?_
  refine q_iload C dL_law_1103 (List.mem_of_getElem? (i := 1) rfl) ?_
  refine q_icmp_eq C 1110 dL_law_1105 (by decide) (fun _ => ?_) (fun h9 => absurd rfl h9)
  refine q_iload C dL_law_1110 (List.mem_of_getElem? (i := 1) rfl) ?_
  refine q_if_ne C 1127 dL_law_1112 (by decide) (fun h9 => ?_) (fun h9 => ?_)
  · skip
    refine q_goto C 1440 dL_law_1127 (by decide) ?_
    refine q_lv (lv' := [(0, Value.ref b), (1, Value.ref (ad1 0)), (2, Value.ref (ad2 0)), (3, Value.ref o), (4, Value.int (nI i))]) (fun q hq => ?_) (hN _ _ _ _ hI9 hc9 hm9.1)
    simp at hq ⊢
    rcases hq with h | h | h | h | h <;> simp [h]
  · have er0 : r = 0 := (nI_z (by omega)).mp (Decidable.of_not_not h9)
    have hf8 := hf9 er0
    refine q_aload_n C dL_law_1115 (List.mem_of_getElem? (i := 5) rfl) ?_
    refine q_iconst C (nI 0) dL_law_1116 (by decide) ?_
    refine q_lald C dL_law_1117 ?_
    refine q_iload C dL_law_1118 (List.mem_of_getElem? (i := 0) rfl) ?_
    refine q_i2l C dL_law_1120 ?_
    subst hf8
    refine q_lcmp C dL_law_1121 ?_
    refine q_if_eq C 1127 dL_law_1122 (by decide) (fun _ => ?_) (fun h9 => absurd (cmp_same _) h9)
    refine q_goto C 1440 dL_law_1127 (by decide) ?_
    refine q_lv (lv' := [(0, Value.ref b), (1, Value.ref (ad1 0)), (2, Value.ref (ad2 0)), (3, Value.ref o), (4, Value.int (nI i))]) (fun q hq => ?_) (hN _ _ _ _ hI9 hc9 hm9.1)
    simp at hq ⊢
    rcases hq with h | h | h | h | h <;> simp [h]
set_option maxRecDepth 100000 in
theorem q_leader (C : qCx p l s m args meth c D cy cl ad1 ad2 o R A b L xs) (hL : L ≤ 2050) {i T : Nat} (hi : i + 4 ≤ L) (hRA : pRA R A) {s0 : pT} (hI : pInv R A T s0) (hT : T + 3 ≤ 1536) (hc : cRel R A s0 σ1) (hm : mRel R A (s0.1 1 1 0) s0 σ2) (hN : qNext p l e s m args below meth c D cy cl ad1 ad2 o R A b bc T i) : qEx p l e s m args below meth c D cy cl ad1 ad2 o R A (bc + 1) 1130 [(0, Value.ref b), (1, Value.ref (ad1 0)), (2, Value.ref (ad2 0)), (3, Value.ref o), (4, Value.int (nI i))] [] σ1 σ2 f := by
  obtain ⟨r, v, s', hI9, hr9, hw, hm7⟩ := o_leader hRA hI hT hc hm (xs (i + 1)) (xs (i + 2))
  refine q_aload_n C dL_law_1130 (List.mem_of_getElem? (i := 1) rfl) ?_
  refine q_aload_n C dL_law_1131 (List.mem_of_getElem? (i := 0) rfl) ?_
  refine q_iload C dL_law_1132 (List.mem_of_getElem? (i := 4) rfl) ?_
  refine q_iconst C (nI 1) dL_law_1134 (by decide) ?_
  refine q_iadd C dL_law_1135 ?_
  refine q_top (v := .int (nI (i + 1))) (congrArg Value.int (nI_add _ _)) ?_
  refine q_sld C hL (j := i + 1) (by omega) dL_law_1136 ?_
  refine q_aload_n C dL_law_1137 (List.mem_of_getElem? (i := 0) rfl) ?_
  refine q_iload C dL_law_1138 (List.mem_of_getElem? (i := 4) rfl) ?_
  refine q_iconst C (nI 2) dL_law_1140 (by decide) ?_
  refine q_iadd C dL_law_1141 ?_
  refine q_top (v := .int (nI (i + 2))) (congrArg Value.int (nI_add _ _)) ?_
  refine q_sld C hL (j := i + 2) (by omega) dL_law_1142 ?_
  refine q_aload_n C dL_law_1143 (List.mem_of_getElem? (i := 3) rfl) ?_
  refine q_callW C (n9 := 4) [.inr true, .inl (xs (i + 1)), .inl (xs (i + 2)), .inr false] [] (hw f) dL_law_1144 (gU_SW uw_3_85 uw_3_86 uw_1_0 uw_3_87) rfl (by decide +kernel) rfl ⟨by decide, by decide⟩ rfl (Nat.le_of_ble_eq_true rfl) (fun r9 σ9 f9 hq9 => ?_)
  obtain ⟨er, hf9, hc9⟩ := hq9
  subst er
  refine q_istore C [(5, Value.int (nI r)), (0, Value.ref b), (1, Value.ref (ad1 0)), (2, Value.ref (ad2 0)), (3, Value.ref o), (4, Value.int (nI i))] dL_law_1147 (by decide) rfl ?_
  refine q_aload_n C dL_law_1149 (List.mem_of_getElem? (i := 3) rfl) ?_
  refine q_aload_n C dL_law_1150 (List.mem_of_getElem? (i := 1) rfl) ?_
  refine q_iload C dL_law_1151 (List.mem_of_getElem? (i := 5) rfl) ?_
  refine q_iconst C (nI 1) dL_law_1153 (by decide) ?_
  refine q_iadd C dL_law_1154 ?_
  refine q_top (v := .int (nI (i + 1))) (congrArg Value.int (nI_add _ _)) ?_
  refine q_sld C hL (j := i + 1) (by omega) dL_law_1155 ?_
  refine q_aload_n C dL_law_1156 (List.mem_of_getElem? (i := 1) rfl) ?_
  refine q_iload C dL_law_1157 (List.mem_of_getElem? (i := 5) rfl) ?_
  refine q_iconst C (nI 2) dL_law_1159 (by decide) ?_
  refine q_iadd C dL_law_1160 ?_
  refine q_top (v := .int (nI (i + 2))) (congrArg Value.int (nI_add _ _)) ?_
  refine q_sld C hL (j := i + 2) (by omega) dL_law_1161 ?_
  refine q_callM C (n9 := 2) [(xs (i + 1)), (xs (i + 2))] [] hm7 (fun k σ' q => by cases q.1) dL_law_1162 (gU_V uw_4_133 uw_4_134 uw_4_135 uw_1_8 uw_4_136) rfl (by decide +kernel) rfl ⟨by decide, by decide⟩ rfl (Nat.le_of_ble_eq_true rfl) (fun v9 σ7 hq9 => ?_)
  obtain ⟨ev, hm9⟩ := hq9
  cases ev
  refine q_istore C [(6, Value.int v), (5, Value.int (nI r)), (0, Value.ref b), (1, Value.ref (ad1 0)), (2, Value.ref (ad2 0)), (3, Value.ref o), (4, Value.int (nI i))] dL_law_1165 (by decide) rfl ?_
  refine q_aload_n C dL_law_1167 (List.mem_of_getElem? (i := 4) rfl) ?_
  refine q_callM C (n9 := 0) [] [] m_thrown (fun k σ' q => by cases q.1) dL_law_1168 (gU_V uw_3_202 uw_3_203 uw_3_204 uw_1_8 uw_3_205) rfl (by decide +kernel) rfl ⟨by decide, by decide⟩ rfl (Nat.le_of_ble_eq_true rfl) (fun v9 σ8 hq9 => ?_)
  obtain ⟨ev, eσ⟩ := hq9
  cases ev
  subst eσ
  refine q_top (v := .int (nI r)) (congrArg Value.int hm9.2) ?_
  refine q_iload C dL_law_1171 (List.mem_of_getElem? (i := 1) rfl) ?_
  refine q_icmp_eq C 1178 dL_law_1173 (by decide) (fun _ => ?_) (fun h9 => absurd rfl h9)
  refine q_iload C dL_law_1178 (List.mem_of_getElem? (i := 1) rfl) ?_
  refine q_if_ne C 1195 dL_law_1180 (by decide) (fun h9 => ?_) (fun h9 => ?_)
  · skip
    refine q_goto C 1440 dL_law_1195 (by decide) ?_
    refine q_lv (lv' := [(0, Value.ref b), (1, Value.ref (ad1 0)), (2, Value.ref (ad2 0)), (3, Value.ref o), (4, Value.int (nI i))]) (fun q hq => ?_) (hN _ _ _ _ hI9 hc9 hm9.1)
    simp at hq ⊢
    rcases hq with h | h | h | h | h <;> simp [h]
  · have er0 : r = 0 := (nI_z (by omega)).mp (Decidable.of_not_not h9)
    have hf8 := hf9 er0
    refine q_aload_n C dL_law_1183 (List.mem_of_getElem? (i := 5) rfl) ?_
    refine q_iconst C (nI 0) dL_law_1184 (by decide) ?_
    refine q_lald C dL_law_1185 ?_
    refine q_iload C dL_law_1186 (List.mem_of_getElem? (i := 0) rfl) ?_
    refine q_i2l C dL_law_1188 ?_
    subst hf8
    refine q_lcmp C dL_law_1189 ?_
    refine q_if_eq C 1195 dL_law_1190 (by decide) (fun _ => ?_) (fun h9 => absurd (cmp_same _) h9)
    refine q_goto C 1440 dL_law_1195 (by decide) ?_
    refine q_lv (lv' := [(0, Value.ref b), (1, Value.ref (ad1 0)), (2, Value.ref (ad2 0)), (3, Value.ref o), (4, Value.int (nI i))]) (fun q hq => ?_) (hN _ _ _ _ hI9 hc9 hm9.1)
    simp at hq ⊢
    rcases hq with h | h | h | h | h <;> simp [h]
set_option maxRecDepth 100000 in
theorem q_outcome (C : qCx p l s m args meth c D cy cl ad1 ad2 o R A b L xs) (hL : L ≤ 2050) {i T : Nat} (hi : i + 4 ≤ L) (hRA : pRA R A) {s0 : pT} (hI : pInv R A T s0) (hT : T + 3 ≤ 1536) (hc : cRel R A s0 σ1) (hm : mRel R A (s0.1 1 1 0) s0 σ2) (hN : qNext p l e s m args below meth c D cy cl ad1 ad2 o R A b bc T i) : qEx p l e s m args below meth c D cy cl ad1 ad2 o R A (bc + 1) 1198 [(0, Value.ref b), (1, Value.ref (ad1 0)), (2, Value.ref (ad2 0)), (3, Value.ref o), (4, Value.int (nI i))] [] σ1 σ2 f := by
  obtain ⟨r, v, s', hI9, hr9, hw, hm7⟩ := o_outcome hRA hI hT hc hm (xs (i + 1)) (xs (i + 2))
  refine q_aload_n C dL_law_1198 (List.mem_of_getElem? (i := 1) rfl) ?_
  refine q_aload_n C dL_law_1199 (List.mem_of_getElem? (i := 0) rfl) ?_
  refine q_iload C dL_law_1200 (List.mem_of_getElem? (i := 4) rfl) ?_
  refine q_iconst C (nI 1) dL_law_1202 (by decide) ?_
  refine q_iadd C dL_law_1203 ?_
  refine q_top (v := .int (nI (i + 1))) (congrArg Value.int (nI_add _ _)) ?_
  refine q_sld C hL (j := i + 1) (by omega) dL_law_1204 ?_
  refine q_aload_n C dL_law_1205 (List.mem_of_getElem? (i := 0) rfl) ?_
  refine q_iload C dL_law_1206 (List.mem_of_getElem? (i := 4) rfl) ?_
  refine q_iconst C (nI 2) dL_law_1208 (by decide) ?_
  refine q_iadd C dL_law_1209 ?_
  refine q_top (v := .int (nI (i + 2))) (congrArg Value.int (nI_add _ _)) ?_
  refine q_sld C hL (j := i + 2) (by omega) dL_law_1210 ?_
  refine q_aload_n C dL_law_1211 (List.mem_of_getElem? (i := 3) rfl) ?_
  refine q_callW C (n9 := 4) [.inr true, .inl (xs (i + 1)), .inl (xs (i + 2)), .inr false] [] (hw f) dL_law_1212 (gU_SW uw_3_93 uw_3_94 uw_1_0 uw_3_95) rfl (by decide +kernel) rfl ⟨by decide, by decide⟩ rfl (Nat.le_of_ble_eq_true rfl) (fun r9 σ9 f9 hq9 => ?_)
  obtain ⟨er, hf9, hc9⟩ := hq9
  subst er
  refine q_istore C [(5, Value.int (nI r)), (0, Value.ref b), (1, Value.ref (ad1 0)), (2, Value.ref (ad2 0)), (3, Value.ref o), (4, Value.int (nI i))] dL_law_1215 (by decide) rfl ?_
  refine q_aload_n C dL_law_1217 (List.mem_of_getElem? (i := 3) rfl) ?_
  refine q_aload_n C dL_law_1218 (List.mem_of_getElem? (i := 1) rfl) ?_
  refine q_iload C dL_law_1219 (List.mem_of_getElem? (i := 5) rfl) ?_
  refine q_iconst C (nI 1) dL_law_1221 (by decide) ?_
  refine q_iadd C dL_law_1222 ?_
  refine q_top (v := .int (nI (i + 1))) (congrArg Value.int (nI_add _ _)) ?_
  refine q_sld C hL (j := i + 1) (by omega) dL_law_1223 ?_
  refine q_aload_n C dL_law_1224 (List.mem_of_getElem? (i := 1) rfl) ?_
  refine q_iload C dL_law_1225 (List.mem_of_getElem? (i := 5) rfl) ?_
  refine q_iconst C (nI 2) dL_law_1227 (by decide) ?_
  refine q_iadd C dL_law_1228 ?_
  refine q_top (v := .int (nI (i + 2))) (congrArg Value.int (nI_add _ _)) ?_
  refine q_sld C hL (j := i + 2) (by omega) dL_law_1229 ?_
  refine q_callM C (n9 := 2) [(xs (i + 1)), (xs (i + 2))] [] hm7 (fun k σ' q => by cases q.1) dL_law_1230 (gU_V uw_4_137 uw_4_138 uw_4_139 uw_1_8 uw_4_140) rfl (by decide +kernel) rfl ⟨by decide, by decide⟩ rfl (Nat.le_of_ble_eq_true rfl) (fun v9 σ7 hq9 => ?_)
  obtain ⟨ev, hm9⟩ := hq9
  cases ev
  refine q_istore C [(6, Value.int v), (5, Value.int (nI r)), (0, Value.ref b), (1, Value.ref (ad1 0)), (2, Value.ref (ad2 0)), (3, Value.ref o), (4, Value.int (nI i))] dL_law_1233 (by decide) rfl ?_
  refine q_aload_n C dL_law_1235 (List.mem_of_getElem? (i := 4) rfl) ?_
  refine q_callM C (n9 := 0) [] [] m_thrown (fun k σ' q => by cases q.1) dL_law_1236 (gU_V uw_3_202 uw_3_203 uw_3_204 uw_1_8 uw_3_205) rfl (by decide +kernel) rfl ⟨by decide, by decide⟩ rfl (Nat.le_of_ble_eq_true rfl) (fun v9 σ8 hq9 => ?_)
  obtain ⟨ev, eσ⟩ := hq9
  cases ev
  subst eσ
  refine q_top (v := .int (nI r)) (congrArg Value.int hm9.2) ?_
  refine q_iload C dL_law_1239 (List.mem_of_getElem? (i := 1) rfl) ?_
  refine q_icmp_eq C 1246 dL_law_1241 (by decide) (fun _ => ?_) (fun h9 => absurd rfl h9)
  refine q_iload C dL_law_1246 (List.mem_of_getElem? (i := 1) rfl) ?_
  refine q_if_ne C 1263 dL_law_1248 (by decide) (fun h9 => ?_) (fun h9 => ?_)
  · skip
    refine q_goto C 1440 dL_law_1263 (by decide) ?_
    refine q_lv (lv' := [(0, Value.ref b), (1, Value.ref (ad1 0)), (2, Value.ref (ad2 0)), (3, Value.ref o), (4, Value.int (nI i))]) (fun q hq => ?_) (hN _ _ _ _ hI9 hc9 hm9.1)
    simp at hq ⊢
    rcases hq with h | h | h | h | h <;> simp [h]
  · have er0 : r = 0 := (nI_z (by omega)).mp (Decidable.of_not_not h9)
    have hf8 := hf9 er0
    refine q_aload_n C dL_law_1251 (List.mem_of_getElem? (i := 5) rfl) ?_
    refine q_iconst C (nI 0) dL_law_1252 (by decide) ?_
    refine q_lald C dL_law_1253 ?_
    refine q_iload C dL_law_1254 (List.mem_of_getElem? (i := 0) rfl) ?_
    refine q_i2l C dL_law_1256 ?_
    subst hf8
    refine q_lcmp C dL_law_1257 ?_
    refine q_if_eq C 1263 dL_law_1258 (by decide) (fun _ => ?_) (fun h9 => absurd (cmp_same _) h9)
    refine q_goto C 1440 dL_law_1263 (by decide) ?_
    refine q_lv (lv' := [(0, Value.ref b), (1, Value.ref (ad1 0)), (2, Value.ref (ad2 0)), (3, Value.ref o), (4, Value.int (nI i))]) (fun q hq => ?_) (hN _ _ _ _ hI9 hc9 hm9.1)
    simp at hq ⊢
    rcases hq with h | h | h | h | h <;> simp [h]
set_option maxRecDepth 100000 in
theorem q_seen (C : qCx p l s m args meth c D cy cl ad1 ad2 o R A b L xs) (hL : L ≤ 2050) {i T : Nat} (hi : i + 4 ≤ L) (hRA : pRA R A) {s0 : pT} (hI : pInv R A T s0) (hT : T + 3 ≤ 1536) (hc : cRel R A s0 σ1) (hm : mRel R A (s0.1 1 1 0) s0 σ2) (hN : qNext p l e s m args below meth c D cy cl ad1 ad2 o R A b bc T i) : qEx p l e s m args below meth c D cy cl ad1 ad2 o R A (bc + 1) 1266 [(0, Value.ref b), (1, Value.ref (ad1 0)), (2, Value.ref (ad2 0)), (3, Value.ref o), (4, Value.int (nI i))] [] σ1 σ2 f := by
  obtain ⟨r, v, s', hI9, hr9, hw, hm7⟩ := o_seen hRA hI hT hc hm (xs (i + 1)) (xs (i + 2)) (xs (i + 3))
  refine q_aload_n C dL_law_1266 (List.mem_of_getElem? (i := 1) rfl) ?_
  refine q_aload_n C dL_law_1267 (List.mem_of_getElem? (i := 0) rfl) ?_
  refine q_iload C dL_law_1268 (List.mem_of_getElem? (i := 4) rfl) ?_
  refine q_iconst C (nI 1) dL_law_1270 (by decide) ?_
  refine q_iadd C dL_law_1271 ?_
  refine q_top (v := .int (nI (i + 1))) (congrArg Value.int (nI_add _ _)) ?_
  refine q_sld C hL (j := i + 1) (by omega) dL_law_1272 ?_
  refine q_aload_n C dL_law_1273 (List.mem_of_getElem? (i := 0) rfl) ?_
  refine q_iload C dL_law_1274 (List.mem_of_getElem? (i := 4) rfl) ?_
  refine q_iconst C (nI 2) dL_law_1276 (by decide) ?_
  refine q_iadd C dL_law_1277 ?_
  refine q_top (v := .int (nI (i + 2))) (congrArg Value.int (nI_add _ _)) ?_
  refine q_sld C hL (j := i + 2) (by omega) dL_law_1278 ?_
  refine q_aload_n C dL_law_1279 (List.mem_of_getElem? (i := 0) rfl) ?_
  refine q_iload C dL_law_1280 (List.mem_of_getElem? (i := 4) rfl) ?_
  refine q_iconst C (nI 3) dL_law_1282 (by decide) ?_
  refine q_iadd C dL_law_1283 ?_
  refine q_top (v := .int (nI (i + 3))) (congrArg Value.int (nI_add _ _)) ?_
  refine q_sld C hL (j := i + 3) (by omega) dL_law_1284 ?_
  refine q_aload_n C dL_law_1285 (List.mem_of_getElem? (i := 3) rfl) ?_
  refine q_callW C (n9 := 5) [.inr true, .inl (xs (i + 1)), .inl (xs (i + 2)), .inl (xs (i + 3)), .inr false] [] (hw f) dL_law_1286 (gU_SW uw_3_100 uw_3_101 uw_1_0 uw_3_102) rfl (by decide +kernel) rfl ⟨by decide, by decide⟩ rfl (Nat.le_of_ble_eq_true rfl) (fun r9 σ9 f9 hq9 => ?_)
  obtain ⟨er, hf9, hc9⟩ := hq9
  subst er
  refine q_istore C [(5, Value.int (nI r)), (0, Value.ref b), (1, Value.ref (ad1 0)), (2, Value.ref (ad2 0)), (3, Value.ref o), (4, Value.int (nI i))] dL_law_1289 (by decide) rfl ?_
  refine q_aload_n C dL_law_1291 (List.mem_of_getElem? (i := 3) rfl) ?_
  refine q_aload_n C dL_law_1292 (List.mem_of_getElem? (i := 1) rfl) ?_
  refine q_iload C dL_law_1293 (List.mem_of_getElem? (i := 5) rfl) ?_
  refine q_iconst C (nI 1) dL_law_1295 (by decide) ?_
  refine q_iadd C dL_law_1296 ?_
  refine q_top (v := .int (nI (i + 1))) (congrArg Value.int (nI_add _ _)) ?_
  refine q_sld C hL (j := i + 1) (by omega) dL_law_1297 ?_
  refine q_aload_n C dL_law_1298 (List.mem_of_getElem? (i := 1) rfl) ?_
  refine q_iload C dL_law_1299 (List.mem_of_getElem? (i := 5) rfl) ?_
  refine q_iconst C (nI 2) dL_law_1301 (by decide) ?_
  refine q_iadd C dL_law_1302 ?_
  refine q_top (v := .int (nI (i + 2))) (congrArg Value.int (nI_add _ _)) ?_
  refine q_sld C hL (j := i + 2) (by omega) dL_law_1303 ?_
  refine q_aload_n C dL_law_1304 (List.mem_of_getElem? (i := 1) rfl) ?_
  refine q_iload C dL_law_1305 (List.mem_of_getElem? (i := 5) rfl) ?_
  refine q_iconst C (nI 3) dL_law_1307 (by decide) ?_
  refine q_iadd C dL_law_1308 ?_
  refine q_top (v := .int (nI (i + 3))) (congrArg Value.int (nI_add _ _)) ?_
  refine q_sld C hL (j := i + 3) (by omega) dL_law_1309 ?_
  refine q_callM C (n9 := 3) [(xs (i + 1)), (xs (i + 2)), (xs (i + 3))] [] hm7 (fun k σ' q => by cases q.1) dL_law_1310 (gU_V uw_4_141 uw_4_142 uw_4_143 uw_1_8 uw_4_144) rfl (by decide +kernel) rfl ⟨by decide, by decide⟩ rfl (Nat.le_of_ble_eq_true rfl) (fun v9 σ7 hq9 => ?_)
  obtain ⟨ev, hm9⟩ := hq9
  cases ev
  refine q_istore C [(6, Value.int v), (5, Value.int (nI r)), (0, Value.ref b), (1, Value.ref (ad1 0)), (2, Value.ref (ad2 0)), (3, Value.ref o), (4, Value.int (nI i))] dL_law_1313 (by decide) rfl ?_
  refine q_aload_n C dL_law_1315 (List.mem_of_getElem? (i := 4) rfl) ?_
  refine q_callM C (n9 := 0) [] [] m_thrown (fun k σ' q => by cases q.1) dL_law_1316 (gU_V uw_3_202 uw_3_203 uw_3_204 uw_1_8 uw_3_205) rfl (by decide +kernel) rfl ⟨by decide, by decide⟩ rfl (Nat.le_of_ble_eq_true rfl) (fun v9 σ8 hq9 => ?_)
  obtain ⟨ev, eσ⟩ := hq9
  cases ev
  subst eσ
  refine q_top (v := .int (nI r)) (congrArg Value.int hm9.2) ?_
  refine q_iload C dL_law_1319 (List.mem_of_getElem? (i := 1) rfl) ?_
  refine q_icmp_eq C 1326 dL_law_1321 (by decide) (fun _ => ?_) (fun h9 => absurd rfl h9)
  refine q_iload C dL_law_1326 (List.mem_of_getElem? (i := 1) rfl) ?_
  refine q_if_ne C 1343 dL_law_1328 (by decide) (fun h9 => ?_) (fun h9 => ?_)
  · skip
    refine q_goto C 1440 dL_law_1343 (by decide) ?_
    refine q_lv (lv' := [(0, Value.ref b), (1, Value.ref (ad1 0)), (2, Value.ref (ad2 0)), (3, Value.ref o), (4, Value.int (nI i))]) (fun q hq => ?_) (hN _ _ _ _ hI9 hc9 hm9.1)
    simp at hq ⊢
    rcases hq with h | h | h | h | h <;> simp [h]
  · have er0 : r = 0 := (nI_z (by omega)).mp (Decidable.of_not_not h9)
    have hf8 := hf9 er0
    refine q_aload_n C dL_law_1331 (List.mem_of_getElem? (i := 5) rfl) ?_
    refine q_iconst C (nI 0) dL_law_1332 (by decide) ?_
    refine q_lald C dL_law_1333 ?_
    refine q_iload C dL_law_1334 (List.mem_of_getElem? (i := 0) rfl) ?_
    refine q_i2l C dL_law_1336 ?_
    subst hf8
    refine q_lcmp C dL_law_1337 ?_
    refine q_if_eq C 1343 dL_law_1338 (by decide) (fun _ => ?_) (fun h9 => absurd (cmp_same _) h9)
    refine q_goto C 1440 dL_law_1343 (by decide) ?_
    refine q_lv (lv' := [(0, Value.ref b), (1, Value.ref (ad1 0)), (2, Value.ref (ad2 0)), (3, Value.ref o), (4, Value.int (nI i))]) (fun q hq => ?_) (hN _ _ _ _ hI9 hc9 hm9.1)
    simp at hq ⊢
    rcases hq with h | h | h | h | h <;> simp [h]
set_option maxRecDepth 100000 in
theorem q_chosen (C : qCx p l s m args meth c D cy cl ad1 ad2 o R A b L xs) (hL : L ≤ 2050) {i T : Nat} (hi : i + 4 ≤ L) (hRA : pRA R A) {s0 : pT} (hI : pInv R A T s0) (hT : T + 3 ≤ 1536) (hc : cRel R A s0 σ1) (hm : mRel R A (s0.1 1 1 0) s0 σ2) (hN : qNext p l e s m args below meth c D cy cl ad1 ad2 o R A b bc T i) : qEx p l e s m args below meth c D cy cl ad1 ad2 o R A (bc + 1) 1346 [(0, Value.ref b), (1, Value.ref (ad1 0)), (2, Value.ref (ad2 0)), (3, Value.ref o), (4, Value.int (nI i))] [] σ1 σ2 f := by
  obtain ⟨r, v, s', hI9, hr9, hw, hm7⟩ := o_chosen hRA hI hT hc hm (xs (i + 1))
  refine q_aload_n C dL_law_1346 (List.mem_of_getElem? (i := 1) rfl) ?_
  refine q_aload_n C dL_law_1347 (List.mem_of_getElem? (i := 0) rfl) ?_
  refine q_iload C dL_law_1348 (List.mem_of_getElem? (i := 4) rfl) ?_
  refine q_iconst C (nI 1) dL_law_1350 (by decide) ?_
  refine q_iadd C dL_law_1351 ?_
  refine q_top (v := .int (nI (i + 1))) (congrArg Value.int (nI_add _ _)) ?_
  refine q_sld C hL (j := i + 1) (by omega) dL_law_1352 ?_
  refine q_aload_n C dL_law_1353 (List.mem_of_getElem? (i := 3) rfl) ?_
  refine q_callW C (n9 := 3) [.inr true, .inl (xs (i + 1)), .inr false] [] (hw f) dL_law_1354 (gU_SW uw_3_108 uw_3_109 uw_1_0 uw_3_110) rfl (by decide +kernel) rfl ⟨by decide, by decide⟩ rfl (Nat.le_of_ble_eq_true rfl) (fun r9 σ9 f9 hq9 => ?_)
  obtain ⟨er, hf9, hc9⟩ := hq9
  subst er
  refine q_istore C [(5, Value.int (nI r)), (0, Value.ref b), (1, Value.ref (ad1 0)), (2, Value.ref (ad2 0)), (3, Value.ref o), (4, Value.int (nI i))] dL_law_1357 (by decide) rfl ?_
  refine q_aload_n C dL_law_1359 (List.mem_of_getElem? (i := 3) rfl) ?_
  refine q_aload_n C dL_law_1360 (List.mem_of_getElem? (i := 1) rfl) ?_
  refine q_iload C dL_law_1361 (List.mem_of_getElem? (i := 5) rfl) ?_
  refine q_iconst C (nI 1) dL_law_1363 (by decide) ?_
  refine q_iadd C dL_law_1364 ?_
  refine q_top (v := .int (nI (i + 1))) (congrArg Value.int (nI_add _ _)) ?_
  refine q_sld C hL (j := i + 1) (by omega) dL_law_1365 ?_
  refine q_callM C (n9 := 1) [(xs (i + 1))] [] hm7 (fun k σ' q => by cases q.1) dL_law_1366 (gU_V uw_4_145 uw_4_146 uw_4_147 uw_1_8 uw_4_148) rfl (by decide +kernel) rfl ⟨by decide, by decide⟩ rfl (Nat.le_of_ble_eq_true rfl) (fun v9 σ7 hq9 => ?_)
  obtain ⟨ev, hm9⟩ := hq9
  cases ev
  refine q_istore C [(6, Value.int v), (5, Value.int (nI r)), (0, Value.ref b), (1, Value.ref (ad1 0)), (2, Value.ref (ad2 0)), (3, Value.ref o), (4, Value.int (nI i))] dL_law_1369 (by decide) rfl ?_
  refine q_aload_n C dL_law_1371 (List.mem_of_getElem? (i := 4) rfl) ?_
  refine q_callM C (n9 := 0) [] [] m_thrown (fun k σ' q => by cases q.1) dL_law_1372 (gU_V uw_3_202 uw_3_203 uw_3_204 uw_1_8 uw_3_205) rfl (by decide +kernel) rfl ⟨by decide, by decide⟩ rfl (Nat.le_of_ble_eq_true rfl) (fun v9 σ8 hq9 => ?_)
  obtain ⟨ev, eσ⟩ := hq9
  cases ev
  subst eσ
  refine q_top (v := .int (nI r)) (congrArg Value.int hm9.2) ?_
  refine q_iload C dL_law_1375 (List.mem_of_getElem? (i := 1) rfl) ?_
  refine q_icmp_eq C 1382 dL_law_1377 (by decide) (fun _ => ?_) (fun h9 => absurd rfl h9)
  refine q_iload C dL_law_1382 (List.mem_of_getElem? (i := 1) rfl) ?_
  refine q_if_ne C 1399 dL_law_1384 (by decide) (fun h9 => ?_) (fun h9 => ?_)
  · skip
    refine q_goto C 1440 dL_law_1399 (by decide) ?_
    refine q_lv (lv' := [(0, Value.ref b), (1, Value.ref (ad1 0)), (2, Value.ref (ad2 0)), (3, Value.ref o), (4, Value.int (nI i))]) (fun q hq => ?_) (hN _ _ _ _ hI9 hc9 hm9.1)
    simp at hq ⊢
    rcases hq with h | h | h | h | h <;> simp [h]
  · have er0 : r = 0 := (nI_z (by omega)).mp (Decidable.of_not_not h9)
    have hf8 := hf9 er0
    refine q_aload_n C dL_law_1387 (List.mem_of_getElem? (i := 5) rfl) ?_
    refine q_iconst C (nI 0) dL_law_1388 (by decide) ?_
    refine q_lald C dL_law_1389 ?_
    refine q_iload C dL_law_1390 (List.mem_of_getElem? (i := 0) rfl) ?_
    refine q_i2l C dL_law_1392 ?_
    subst hf8
    refine q_lcmp C dL_law_1393 ?_
    refine q_if_eq C 1399 dL_law_1394 (by decide) (fun _ => ?_) (fun h9 => absurd (cmp_same _) h9)
    refine q_goto C 1440 dL_law_1399 (by decide) ?_
    refine q_lv (lv' := [(0, Value.ref b), (1, Value.ref (ad1 0)), (2, Value.ref (ad2 0)), (3, Value.ref o), (4, Value.int (nI i))]) (fun q hq => ?_) (hN _ _ _ _ hI9 hc9 hm9.1)
    simp at hq ⊢
    rcases hq with h | h | h | h | h <;> simp [h]
set_option maxRecDepth 100000 in
theorem q_count (C : qCx p l s m args meth c D cy cl ad1 ad2 o R A b L xs) (hL : L ≤ 2050) {i T : Nat} (hi : i + 4 ≤ L) (hRA : pRA R A) {s0 : pT} (hI : pInv R A T s0) (hT : T + 3 ≤ 1536) (hc : cRel R A s0 σ1) (hm : mRel R A (s0.1 1 1 0) s0 σ2) (hN : qNext p l e s m args below meth c D cy cl ad1 ad2 o R A b bc T i) : qEx p l e s m args below meth c D cy cl ad1 ad2 o R A (bc + 1) 1402 [(0, Value.ref b), (1, Value.ref (ad1 0)), (2, Value.ref (ad2 0)), (3, Value.ref o), (4, Value.int (nI i))] [] σ1 σ2 f := by
  obtain ⟨v, hk6, hm7⟩ := o_count hRA hI hT hc hm (xs (i + 1))
  have hI9 := pInv_mono hRA (show T ≤ T + 3 by omega) hI
  refine q_bud (Nat.le_succ _) ?_
  refine q_aload_n C dL_law_1402 (List.mem_of_getElem? (i := 1) rfl) ?_
  refine q_aload_n C dL_law_1403 (List.mem_of_getElem? (i := 0) rfl) ?_
  refine q_iload C dL_law_1404 (List.mem_of_getElem? (i := 4) rfl) ?_
  refine q_iconst C (nI 1) dL_law_1406 (by decide) ?_
  refine q_iadd C dL_law_1407 ?_
  refine q_top (v := .int (nI (i + 1))) (congrArg Value.int (nI_add _ _)) ?_
  refine q_sld C hL (j := i + 1) (by omega) dL_law_1408 ?_
  refine q_callC C (n9 := 1) [(xs (i + 1))] [] hk6 (fun k σ' q => by cases q.1) dL_law_1409 (gU_V uw_1_180 uw_1_181 uw_1_182 uw_1_1 uw_1_183) rfl (by decide +kernel) rfl ⟨by decide, by decide⟩ rfl (Nat.le_of_ble_eq_true rfl) (fun v9 σ9 hq9 => ?_)
  obtain ⟨ev, eσ⟩ := hq9
  cases ev
  subst eσ
  refine q_aload_n C dL_law_1412 (List.mem_of_getElem? (i := 2) rfl) ?_
  refine q_aload_n C dL_law_1413 (List.mem_of_getElem? (i := 0) rfl) ?_
  refine q_iload C dL_law_1414 (List.mem_of_getElem? (i := 4) rfl) ?_
  refine q_iconst C (nI 1) dL_law_1416 (by decide) ?_
  refine q_iadd C dL_law_1417 ?_
  refine q_top (v := .int (nI (i + 1))) (congrArg Value.int (nI_add _ _)) ?_
  refine q_sld C hL (j := i + 1) (by omega) dL_law_1418 ?_
  refine q_callM C (n9 := 1) [(xs (i + 1))] [.int v] hm7 (fun k σ' q => by cases q.1) dL_law_1419 (gU_V uw_4_149 uw_4_150 uw_4_151 uw_1_8 uw_4_152) rfl (by decide +kernel) rfl ⟨by decide, by decide⟩ rfl (Nat.le_of_ble_eq_true rfl) (fun v9 σ7 hq9 => ?_)
  obtain ⟨ev, hm9⟩ := hq9
  cases ev
  refine q_icmp_eq C 1440 dL_law_1422 (by decide) (fun _ => ?_) (fun h9 => absurd rfl h9)
  refine q_lv (lv' := [(0, Value.ref b), (1, Value.ref (ad1 0)), (2, Value.ref (ad2 0)), (3, Value.ref o), (4, Value.int (nI i))]) (fun q hq => ?_) (hN _ _ _ _ hI9 hc hm9.1)
  simp at hq ⊢
  rcases hq with h | h | h | h | h <;> simp [h]
set_option maxRecDepth 100000 in
theorem q_astray (C : qCx p l s m args meth c D cy cl ad1 ad2 o R A b L xs) (hL : L ≤ 2050) {i T : Nat} (hi : i + 4 ≤ L) (hRA : pRA R A) {s0 : pT} (hI : pInv R A T s0) (hT : T + 3 ≤ 1536) (hc : cRel R A s0 σ1) (hm : mRel R A (s0.1 1 1 0) s0 σ2) (hN : qNext p l e s m args below meth c D cy cl ad1 ad2 o R A b bc T i) : qEx p l e s m args below meth c D cy cl ad1 ad2 o R A (bc + 1) 1427 [(0, Value.ref b), (1, Value.ref (ad1 0)), (2, Value.ref (ad2 0)), (3, Value.ref o), (4, Value.int (nI i))] [] σ1 σ2 f := by
  obtain ⟨hk6, hm7⟩ := o_astray hRA hI hT hc hm
  have hI9 := pInv_mono hRA (show T ≤ T + 3 by omega) hI
  refine q_bud (Nat.le_succ _) ?_
  refine q_aload_n C dL_law_1427 (List.mem_of_getElem? (i := 1) rfl) ?_
  refine q_callC C (n9 := 0) [] [] hk6 (fun k σ' q => by cases q.1) dL_law_1428 (gU_V uw_2_42 uw_2_43 uw_2_44 uw_1_1 uw_2_45) rfl (by decide +kernel) rfl ⟨by decide, by decide⟩ rfl (Nat.le_of_ble_eq_true rfl) (fun v9 σ9 hq9 => ?_)
  obtain ⟨ev, eσ⟩ := hq9
  cases ev
  subst eσ
  refine q_aload_n C dL_law_1431 (List.mem_of_getElem? (i := 2) rfl) ?_
  refine q_callM C (n9 := 0) [] [.int (nI 0)] hm7 (fun k σ' q => by cases q.1) dL_law_1432 (gU_V uw_4_153 uw_4_154 uw_4_155 uw_1_8 uw_4_156) rfl (by decide +kernel) rfl ⟨by decide, by decide⟩ rfl (Nat.le_of_ble_eq_true rfl) (fun v9 σ7 hq9 => ?_)
  obtain ⟨ev, hm9⟩ := hq9
  cases ev
  refine q_icmp_eq C 1440 dL_law_1435 (by decide) (fun _ => ?_) (fun h9 => absurd rfl h9)
  refine q_lv (lv' := [(0, Value.ref b), (1, Value.ref (ad1 0)), (2, Value.ref (ad2 0)), (3, Value.ref o), (4, Value.int (nI i))]) (fun q hq => ?_) (hN _ _ _ _ hI9 hc hm9.1)
  simp at hq ⊢
  rcases hq with h | h | h | h | h <;> simp [h]
end QC
