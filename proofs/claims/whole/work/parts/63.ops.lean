/-! EACH CALL, on both sides -/
theorem lEM_mono {R A : Nat} {M : gM} {as : List (Int32 ⊕ Bool)} {σ1 σ2 : gSt} {f : Int64} {Q Q' : Int32 → gSt → Int64 → Prop} (h : lEM R A M as σ1 σ2 f Q) (hq : ∀ r σ f, Q r σ f → Q' r σ f) : lEM R A M as σ1 σ2 f Q' := by
  intro l D cy cl ad1 ad2 o sz hl hw p e ha hc hk s m args below hf happ hP hK
  obtain ⟨n, oc, h1, h2, h3, ⟨⟨r, σ1', f', e1, e2, e3⟩, e4⟩, e5⟩ := h l D cy cl ad1 ad2 o sz hl hw p e ha hc hk s m args below hf happ hP hK
  exact ⟨n, oc, h1, h2, h3, ⟨⟨r, σ1', f', e1, hq _ _ _ e2, e3⟩, e4⟩, e5⟩
theorem gR_rel {R A : Nat} {G : gG} {M : gM} {b : Nat} {as : List gAV} {s : pT} {σ : gSt} {v : Int32} (h : gEM G M b as σ (gR v (fun τ => τ = σ))) (hc : cRel R A s σ) : gEM G M b as σ (gR v (fun τ => cRel R A s τ)) := gEM_mono h (fun o τ q => ⟨q.1, by rw [q.2]; exact hc⟩)
theorem gX_rel {R A : Nat} {G : gG} {M : gM} {b k : Nat} {as : List gAV} {s : pT} {σ : gSt} (h : gEM G M b as σ (gX k (fun τ => τ = σ))) (hc : cRel R A s σ) : gEM G M b as σ (gX k (fun τ => cRel R A s τ)) := gEM_mono h (fun o τ q => ⟨q.1, by rw [q.2]; exact hc⟩)
theorem pInv_mono {R A T T' : Nat} {s : pT} (hRA : pRA R A) (hT : T ≤ T') (h : pInv R A T s) : pInv R A T' s := by
  have hA : A ≤ 5 := by have := hRA.2.2; omega
  exact ⟨⟨iN_mono hT h.1.1, h.1.2⟩, fun x hx => iX_gro (gro_refl R _) hA hT (h.2.1 x hx), h.2.2⟩
def oOk (R A T : Nat) (ML M7 : gM) (al : List (Int32 ⊕ Bool)) (ml : List gAV) (cv : Int32 → Int64) (σ1 σ2 : gSt) : Prop := ∃ (r : Nat) (v : Int32) (s' : pT), pInv R A (T + 3) s' ∧ r ≤ 2 ∧ (∀ f, lEM R A ML al σ1 σ2 f (fun r' σ' f' => r' = nI r ∧ (r = 0 → f' = cv v) ∧ cRel R A s' σ')) ∧ gEM mG M7 0 ml σ2 (gR v (mP R A (s'.1 1 1 0) s' r))
def oOkV (R A T : Nat) (ML M7 : gM) (al : List (Int32 ⊕ Bool)) (ml : List gAV) (σ1 σ2 : gSt) : Prop := ∃ (r : Nat) (s' : pT), pInv R A (T + 3) s' ∧ r ≤ 2 ∧ (∀ f, lEM R A ML al σ1 σ2 f (fun r' σ' _ => r' = nI r ∧ cRel R A s' σ')) ∧ gEM mG M7 0 ml σ2 (gV (mP R A (s'.1 1 1 0) s' r))
theorem o_R {R A T : Nat} {ML M7 : gM} {al : List (Int32 ⊕ Bool)} {ml : List gAV} {cv : Int32 → Int64} {σ1 σ2 : gSt} {v : Int32} (s' : pT) (hI : pInv R A (T + 3) s') (hw : ∀ f, lEM R A ML al σ1 σ2 f (fun r σ' f' => r = nI 0 ∧ f' = cv v ∧ cRel R A s' σ')) (hm : gEM mG M7 0 ml σ2 (gR v (mP R A (s'.1 1 1 0) s' 0))) : oOk R A T ML M7 al ml cv σ1 σ2 :=
  ⟨0, v, s', hI, by decide, fun f => lEM_mono (hw f) (fun _ _ _ q => ⟨q.1, fun _ => q.2.1, q.2.2⟩), hm⟩
theorem o_X {R A T : Nat} {ML M7 : gM} {al : List (Int32 ⊕ Bool)} {ml : List gAV} {cv : Int32 → Int64} {σ1 σ2 : gSt} {v : Int32} (r : Nat) (s' : pT) (hr : 1 ≤ r ∧ r ≤ 2) (hI : pInv R A (T + 3) s') (hw : ∀ f, lEM R A ML al σ1 σ2 f (fun r' σ' _ => r' = nI r ∧ cRel R A s' σ')) (hm : gEM mG M7 0 ml σ2 (gR v (mP R A (s'.1 1 1 0) s' r))) : oOk R A T ML M7 al ml cv σ1 σ2 :=
  ⟨r, v, s', hI, hr.2, fun f => lEM_mono (hw f) (fun _ _ _ q => ⟨q.1, fun z => by omega, q.2⟩), hm⟩
section OPS
variable {R A T : Nat} {s : pT} {σ1 σ2 : gSt}
theorem o_prepare (hRA : pRA R A) (hI : pInv R A T s) (hT : T + 3 ≤ 1536) (hc : cRel R A s σ1) (hm : mRel R A (s.1 1 1 0) s σ2) (z : Int32) : oOk R A T mL_prepare mX7_prepare [.inr true, .inl z, .inr false] [.inr (0), .inl (z)] cZ σ1 σ2 := by
  obtain ⟨hR1, hR2, hA1⟩ := id hRA
  have hb : pBu s.1 := inv_bu hI (by omega)
  have hbd : pBd R A s.1 := pBu_bd hb
  have hlen : s.2.length ≤ 400 := hI.2.2
  have hI3 : pInv R A (T + 3) s := pInv_mono hRA (by omega) hI
  rcases sw_cases (n := R) (by omega) z with ⟨m, hm', rfl⟩ | hz
  · by_cases hs : sSay A m 1 s
    · exact o_R (tSay A m 1 s) (pInv_mono hRA (by omega) (inv_say hRA hI hm' (Or.inl rfl) hs)) (fun f => w_prepareR (c_prepareT hRA hc hm' hs hlen)) (m_prepareT hRA hm hm' hs hlen (f_say hRA hI hm' hs.2.1))
    · exact o_R s hI3 (fun f => w_prepareR (gR_rel (c_prepareF hRA hc hbd hm' hs hlen) hc)) (m_prepareF hRA hm hb hm' hs hlen)
  · exact o_X 1 s (by decide) hI3 (fun f => w_prepareX (gX_rel (c_prepareX hRA hz) hc)) (m_prepareX hRA hm hz)

theorem o_refuse (hRA : pRA R A) (hI : pInv R A T s) (hT : T + 3 ≤ 1536) (hc : cRel R A s σ1) (hm : mRel R A (s.1 1 1 0) s σ2) (z : Int32) : oOk R A T mL_refuse mX7_refuse [.inr true, .inl z, .inr false] [.inr (0), .inl (z)] cZ σ1 σ2 := by
  obtain ⟨hR1, hR2, hA1⟩ := id hRA
  have hb : pBu s.1 := inv_bu hI (by omega)
  have hbd : pBd R A s.1 := pBu_bd hb
  have hlen : s.2.length ≤ 400 := hI.2.2
  have hI3 : pInv R A (T + 3) s := pInv_mono hRA (by omega) hI
  rcases sw_cases (n := R) (by omega) z with ⟨m, hm', rfl⟩ | hz
  · by_cases hs : sSay A m 2 s
    · exact o_R (tSay A m 2 s) (pInv_mono hRA (by omega) (inv_say hRA hI hm' (Or.inr rfl) hs)) (fun f => w_refuseR (c_refuseT hRA hc hm' hs hlen)) (m_refuseT hRA hm hm' hs hlen (f_say hRA hI hm' hs.2.1))
    · exact o_R s hI3 (fun f => w_refuseR (gR_rel (c_refuseF hRA hc hbd hm' hs hlen) hc)) (m_refuseF hRA hm hb hm' hs hlen)
  · exact o_X 1 s (by decide) hI3 (fun f => w_refuseX (gX_rel (c_refuseX hRA hz) hc)) (m_refuseX hRA hm hz)

theorem o_resend (hRA : pRA R A) (hI : pInv R A T s) (hT : T + 3 ≤ 1536) (hc : cRel R A s σ1) (hm : mRel R A (s.1 1 1 0) s σ2) (z : Int32) : oOk R A T mL_resend mX7_resend [.inr true, .inl z, .inr false] [.inr (0), .inl (z)] cZ σ1 σ2 := by
  obtain ⟨hR1, hR2, hA1⟩ := id hRA
  have hb : pBu s.1 := inv_bu hI (by omega)
  have hbd : pBd R A s.1 := pBu_bd hb
  have hlen : s.2.length ≤ 400 := hI.2.2
  have hI3 : pInv R A (T + 3) s := pInv_mono hRA (by omega) hI
  rcases sw_cases (n := R) (by omega) z with ⟨m, hm', rfl⟩ | hz
  · by_cases hs : sRes A m s
    · exact o_R (tRes A m s) (pInv_mono hRA (by omega) (inv_res hRA hI hm' hs)) (fun f => w_resendR (c_resendT hRA hc hm' hs hlen)) (m_resendT hRA hm hb hm' hs hlen (f_res hI hm' hs.2.1))
    · exact o_R s hI3 (fun f => w_resendR (gR_rel (c_resendF hRA hc hbd hm' hs hlen) hc)) (m_resendF hRA hm hb hm' hs hlen)
  · exact o_X 1 s (by decide) hI3 (fun f => w_resendX (gX_rel (c_resendX hRA hz) hc)) (m_resendX hRA hm hz)

theorem o_question (hRA : pRA R A) (hI : pInv R A T s) (hT : T + 3 ≤ 1536) (hc : cRel R A s σ1) (hm : mRel R A (s.1 1 1 0) s σ2) (z : Int32) : oOk R A T mL_question mX7_question [.inr true, .inl z, .inr false] [.inr (0), .inl (z)] cZ σ1 σ2 := by
  obtain ⟨hR1, hR2, hA1⟩ := id hRA
  have hb : pBu s.1 := inv_bu hI (by omega)
  have hbd : pBd R A s.1 := pBu_bd hb
  have hlen : s.2.length ≤ 400 := hI.2.2
  have hI3 : pInv R A (T + 3) s := pInv_mono hRA (by omega) hI
  rcases sw_cases (n := R) (by omega) z with ⟨m, hm', rfl⟩ | hz
  · by_cases hs : sQue m s
    · exact o_R (tQue m s) (pInv_mono hRA (by omega) (inv_que hRA hI hm' hs)) (fun f => w_questionR (c_questionT hRA hc hm' hs hlen)) (m_questionT hRA hm hm' hs hlen)
    · exact o_R s hI3 (fun f => w_questionR (gR_rel (c_questionF hRA hc hbd hm' hs hlen) hc)) (m_questionF hRA hm hb hm' hs hlen)
  · exact o_X 1 s (by decide) hI3 (fun f => w_questionX (gX_rel (c_questionX hRA hz) hc)) (m_questionX hRA hm hz)

theorem o_begin (hRA : pRA R A) (hI : pInv R A T s) (hT : T + 3 ≤ 1536) (hc : cRel R A s σ1) (hm : mRel R A (s.1 1 1 0) s σ2) (z : Int32) : oOk R A T mL_begin mX7_begin [.inr true, .inl z, .inr false] [.inr (0), .inl (z)] (fun i => Int32.toInt64 i) σ1 σ2 := by
  obtain ⟨hR1, hR2, hA1⟩ := id hRA
  have hb : pBu s.1 := inv_bu hI (by omega)
  have hbd : pBd R A s.1 := pBu_bd hb
  have hlen : s.2.length ≤ 400 := hI.2.2
  have hI3 : pInv R A (T + 3) s := pInv_mono hRA (by omega) hI
  rcases sw_cases (n := 3) (by decide) z with ⟨l, hl, rfl⟩ | hz
  · have hlob : lob l (s.1 9 l 0) ≤ 1536 := by
      have h1 := (lob_ok (l := l) (h := s.1 9 l 0) hl).2.2.2
      have h2 : s.1 9 l 0 ≤ T := hI.1.1.1 9 l 0 (by decide) (by decide)
      omega
    by_cases hs : sBeg R A l s
    · exact o_R (tBeg R A l s) (inv_beg hRA hI hl hs) (fun f => w_beginR (c_beginT hRA hc hb hl hlen hlob hs)) (m_beginT hRA hm hb hl hlen hs)
    · exact o_R s hI3 (fun f => w_beginR (gR_rel (c_beginF hRA hc hb hl hlen hlob hs) hc)) (m_beginF hRA hm hb hl hlen hs)
  · exact o_X 1 s (by decide) hI3 (fun f => w_beginX (gX_rel (c_beginX hRA hz) hc)) (m_beginX hRA hm hz)

theorem o_deliver (hRA : pRA R A) (hI : pInv R A T s) (hT : T + 3 ≤ 1536) (hc : cRel R A s σ1) (hm : mRel R A (s.1 1 1 0) s σ2) (z : Int32) : oOk R A T mL_deliver mX7_deliver [.inr true, .inl z, .inr false] [.inr (0), .inl (z)] (fun i => Int32.toInt64 i) σ1 σ2 := by
  obtain ⟨hR1, hR2, hA1⟩ := id hRA
  have hb : pBu s.1 := inv_bu hI (by omega)
  have hbd : pBd R A s.1 := pBu_bd hb
  have hlen : s.2.length ≤ 400 := hI.2.2
  have hI3 : pInv R A (T + 3) s := pInv_mono hRA (by omega) hI
  rcases sw_cases (n := s.2.length) (by omega) z with ⟨i, hi, rfl⟩ | hz
  · have hx : s.2[i]? = some s.2[i] := List.getElem?_eq_getElem hi
    generalize s.2[i] = x9 at hx
    have hp := inv_mk hI (by omega) hx
    have hgo := inv_go hRA hI hx
    by_cases hs : sBrg R A x9 s
    · refine o_R (tBrg R A i x9 s) (pInv_mono hRA (by omega) (inv_brg hRA hI hx hs)) (fun f => w_deliverR (c_deliverT hRA hc hb hx hp hlen hs)) ?_
      rw [tBrg_cm hp.2.2.2.2.2.2.2]
      exact m_deliverT hRA hm hb hx hp hlen hgo hs
    · exact o_R s hI3 (fun f => w_deliverR (gR_rel (c_deliverF hRA hc hb hx hp hlen hs) hc)) (m_deliverF hRA hm hb hx hp hlen hgo hs)
  · exact o_X 1 s (by decide) hI3 (fun f => w_deliverX (gX_rel (c_deliverX hRA hc hz) hc)) (m_deliverX hRA hm hz)

theorem o_drop (hRA : pRA R A) (hI : pInv R A T s) (hT : T + 3 ≤ 1536) (hc : cRel R A s σ1) (hm : mRel R A (s.1 1 1 0) s σ2) (z : Int32) : oOkV R A T mL_drop mX7_drop [.inr true, .inl z] [.inr (0), .inl (z)] σ1 σ2 := by
  obtain ⟨hR1, hR2, hA1⟩ := id hRA
  have hb : pBu s.1 := inv_bu hI (by omega)
  have hbd : pBd R A s.1 := pBu_bd hb
  have hlen : s.2.length ≤ 400 := hI.2.2
  have hI3 : pInv R A (T + 3) s := pInv_mono hRA (by omega) hI
  rcases sw_cases (n := s.2.length) (by omega) z with ⟨i, hi, rfl⟩ | hz
  · exact ⟨0, tDrop i s, pInv_mono hRA (by omega) (inv_drop hI i), by decide, fun f => w_dropR (c_drop hRA hc hi hlen), m_drop hRA hm hi hlen⟩
  · exact ⟨1, s, hI3, by decide, fun f => w_dropX (gX_rel (c_dropX hRA hc hz) hc), m_dropX hRA hm hz⟩

theorem o_copy (hRA : pRA R A) (hI : pInv R A T s) (hT : T + 3 ≤ 1536) (hc : cRel R A s σ1) (hm : mRel R A (s.1 1 1 0) s σ2) (z : Int32) : oOk R A T mL_copy mX7_copy [.inr true, .inl z, .inr false] [.inr (0), .inl (z)] (fun i => Int32.toInt64 i) σ1 σ2 := by
  obtain ⟨hR1, hR2, hA1⟩ := id hRA
  have hb : pBu s.1 := inv_bu hI (by omega)
  have hbd : pBd R A s.1 := pBu_bd hb
  have hlen : s.2.length ≤ 400 := hI.2.2
  have hI3 : pInv R A (T + 3) s := pInv_mono hRA (by omega) hI
  rcases sw_cases (n := s.2.length) (by omega) z with ⟨i, hi, rfl⟩ | hz
  · have hx : s.2[i]? = some s.2[i] := List.getElem?_eq_getElem hi
    generalize s.2[i] = x9 at hx
    have hp := inv_mk hI (by omega) hx
    by_cases hs : s.2.length + 1 ≤ 400
    · exact o_R (tCopy x9 s) (pInv_mono hRA (by omega) (inv_copy hRA hI hx hs)) (fun f => w_copyR (c_copyT hRA hc hx hs)) (m_copyT hRA hm hx hs)
    · exact o_R s hI3 (fun f => w_copyR (gR_rel (c_copyF hRA hc hi hlen hs) hc)) (m_copyF hRA hm hi hlen hs)
  · exact o_X 1 s (by decide) hI3 (fun f => w_copyX (gX_rel (c_copyX hRA hc hz) hc)) (m_copyX hRA hm hz)

theorem o_calm (hRA : pRA R A) (hI : pInv R A T s) (hT : T + 3 ≤ 1536) (hc : cRel R A s σ1) (hm : mRel R A (s.1 1 1 0) s σ2) (z : Int32) : oOk R A T mL_calm mX7_calm [.inr true, .inl z, .inr false] [.inr (0), .inl (z)] (fun i => Int32.toInt64 i) σ1 σ2 := by
  obtain ⟨hR1, hR2, hA1⟩ := id hRA
  have hb : pBu s.1 := inv_bu hI (by omega)
  have hbd : pBd R A s.1 := pBu_bd hb
  have hlen : s.2.length ≤ 400 := hI.2.2
  have hI3 : pInv R A (T + 3) s := pInv_mono hRA (by omega) hI
  rcases sw_cases (n := 401) (by decide) z with ⟨n, hn, rfl⟩ | hz
  · have k1 : ∀ s : pT, pInv R A T s → pBu s.1 ∧ (∀ (i : Nat) (x : pMsg), s.2[i]? = some x → pMk R A x) ∧ s.2.length ≤ 400 := fun s h => ⟨inv_bu h (by omega), fun i x hx => inv_mk h (by omega) hx, h.2.2⟩
    have k2 : ∀ (s : pT) (x : pMsg), pInv R A T s → s.2[0]? = some x → sBrg R A x s → pInv R A T (tBrg R A 0 x s) := fun s x h hx hs => inv_brg hRA h hx hs
    exact o_R (tCalm R A n s).2 (pInv_mono hRA (by omega) (inv_calm hRA n s hI)) (fun f => w_calmR (c_calm hRA (I := pInv R A T) k1 k2 hc hI (by omega))) (m_calm hRA (I := pInv R A T) k1 k2 (fun s x h hx => inv_go hRA h hx) hm hI (by omega))
  · have hz' : z < 0 ∨ nI 400 < z := hz.imp id (fun q => Int32.lt_of_lt_of_le (show nI 400 < nI 401 by decide) q)
    exact o_X 1 s (by decide) hI3 (fun f => w_calmX (gX_rel (c_calmX hz') hc)) (m_calmX hRA hm hz')

theorem rec_same {k i : Nat} (hu : s.1 2 k i = 1) : tRec k i s = s := by
  unfold tRec
  have e : pu s.1 2 k i 1 = s.1 := by
    funext x y z
    unfold pu
    split
    · rename_i q
      rw [q.1, q.2.1, q.2.2, hu]
    · rfl
  rw [e]
theorem o_crash (hRA : pRA R A) (hI : pInv R A T s) (hT : T + 3 ≤ 1536) (hc : cRel R A s σ1) (hm : mRel R A (s.1 1 1 0) s σ2) (z y : Int32) : oOk R A T mL_crash mX7_crash [.inr true, .inl z, .inl y, .inr false] [.inr (0), .inl (z), .inl (y)] cZ σ1 σ2 := by
  obtain ⟨hR1, hR2, hA1⟩ := id hRA
  have hb : pBu s.1 := inv_bu hI (by omega)
  have hbd : pBd R A s.1 := pBu_bd hb
  have hlen : s.2.length ≤ 400 := hI.2.2
  have hI3 : pInv R A (T + 3) s := pInv_mono hRA (by omega) hI
  rcases sw_cases (n := 3) (by decide) z with ⟨k, hk, rfl⟩ | hz
  · rcases (show k = 0 ∨ k = 1 ∨ k = 2 by omega) with e | e | e <;> subst e
    · rcases sw_cases (n := R) (by omega) y with ⟨i, hi, rfl⟩ | hy
      · have hu1 : s.1 2 0 i ≤ 1 := hb 2 0 i (by decide) (by decide)
        by_cases hu : s.1 2 0 i = 0
        · exact o_R s hI3 (fun f => w_crashR (gR_rel (c_crashF0 hRA hc hb hi (by omega)) hc)) (m_crashF0 hRA hm hb hi (by omega))
        · exact o_R (tCrash 0 i s) (pInv_mono hRA (by omega) (inv_crash hRA hI)) (fun f => w_crashR (c_crashT0 hRA hc hb hi (by omega))) (m_crashT0 hRA hm hb hi (by omega))
      · exact o_X 2 s (by decide) hI3 (fun f => w_crashX0 (gX_rel (c_crashX0 hRA hy) hc)) (m_crashX0 hRA hm hy)
    · rcases sw_cases (n := A) (by omega) y with ⟨i, hi, rfl⟩ | hy
      · have hu1 : s.1 2 1 i ≤ 1 := hb 2 1 i (by decide) (by decide)
        by_cases hu : s.1 2 1 i = 0
        · exact o_R s hI3 (fun f => w_crashR (gR_rel (c_crashF1 hRA hc hb hi (by omega)) hc)) (m_crashF1 hRA hm hb hi (by omega))
        · exact o_R (tCrash 1 i s) (pInv_mono hRA (by omega) (inv_crash hRA hI)) (fun f => w_crashR (c_crashT1 hRA hc hb hi (by omega))) (m_crashT1 hRA hm hb hi (by omega))
      · exact o_X 2 s (by decide) hI3 (fun f => w_crashX0 (gX_rel (c_crashX1 hRA hy) hc)) (m_crashX1 hRA hm hy)
    · rcases sw_cases (n := 3) (by omega) y with ⟨i, hi, rfl⟩ | hy
      · have hu1 : s.1 2 2 i ≤ 1 := hb 2 2 i (by decide) (by decide)
        by_cases hu : s.1 2 2 i = 0
        · exact o_R s hI3 (fun f => w_crashR (gR_rel (c_crashF2 hRA hc hb hi (by omega)) hc)) (m_crashF2 hRA hm hb hi (by omega))
        · exact o_R (tCrash 2 i s) (pInv_mono hRA (by omega) (inv_crash hRA hI)) (fun f => w_crashR (c_crashT2 hRA hc hb hi (by omega))) (m_crashT2 hRA hm hb hi (by omega))
      · exact o_X 2 s (by decide) hI3 (fun f => w_crashX0 (gX_rel (c_crashX2 hRA hy) hc)) (m_crashX2 hRA hm hy)
  · exact o_X 1 s (by decide) hI3 (fun f => w_crashX1 (gX_rel (c_crashS hz) hc)) (m_crashS hRA hm hz)

theorem o_recover (hRA : pRA R A) (hI : pInv R A T s) (hT : T + 3 ≤ 1536) (hc : cRel R A s σ1) (hm : mRel R A (s.1 1 1 0) s σ2) (z y : Int32) : oOk R A T mL_recover mX7_recover [.inr true, .inl z, .inl y, .inr false] [.inr (0), .inl (z), .inl (y)] cZ σ1 σ2 := by
  obtain ⟨hR1, hR2, hA1⟩ := id hRA
  have hb : pBu s.1 := inv_bu hI (by omega)
  have hbd : pBd R A s.1 := pBu_bd hb
  have hlen : s.2.length ≤ 400 := hI.2.2
  have hI3 : pInv R A (T + 3) s := pInv_mono hRA (by omega) hI
  rcases sw_cases (n := 3) (by decide) z with ⟨k, hk, rfl⟩ | hz
  · rcases (show k = 0 ∨ k = 1 ∨ k = 2 by omega) with e | e | e <;> subst e
    · rcases sw_cases (n := R) (by omega) y with ⟨i, hi, rfl⟩ | hy
      · have hu1 : s.1 2 0 i ≤ 1 := hb 2 0 i (by decide) (by decide)
        by_cases hu : s.1 2 0 i = 1
        · exact o_R s hI3 (fun f => w_recoverR (gEM_mono (c_recF0 hRA hc hb hi (by omega)) (fun o τ q => ⟨q.1, by rw [rec_same hu] at q; exact q.2⟩))) (m_recoverF0 hRA hm hb hi (by omega))
        · exact o_R (tRec 0 i s) (pInv_mono hRA (by omega) (inv_rec hI 0 i)) (fun f => w_recoverR (c_recT0 hRA hc hb hi (by omega))) (m_recoverT0 hRA hm hb hi (by omega))
      · exact o_X 2 s (by decide) hI3 (fun f => w_recoverX0 (gX_rel (c_recoverX0 hRA hy) hc)) (m_recoverX0 hRA hm hy)
    · rcases sw_cases (n := A) (by omega) y with ⟨i, hi, rfl⟩ | hy
      · have hu1 : s.1 2 1 i ≤ 1 := hb 2 1 i (by decide) (by decide)
        by_cases hu : s.1 2 1 i = 1
        · exact o_R s hI3 (fun f => w_recoverR (gEM_mono (c_recF1 hRA hc hb hi (by omega)) (fun o τ q => ⟨q.1, by rw [rec_same hu] at q; exact q.2⟩))) (m_recoverF1 hRA hm hb hi (by omega))
        · exact o_R (tRec 1 i s) (pInv_mono hRA (by omega) (inv_rec hI 1 i)) (fun f => w_recoverR (c_recT1 hRA hc hb hi (by omega))) (m_recoverT1 hRA hm hb hi (by omega))
      · exact o_X 2 s (by decide) hI3 (fun f => w_recoverX0 (gX_rel (c_recoverX1 hRA hy) hc)) (m_recoverX1 hRA hm hy)
    · rcases sw_cases (n := 3) (by omega) y with ⟨i, hi, rfl⟩ | hy
      · have hu1 : s.1 2 2 i ≤ 1 := hb 2 2 i (by decide) (by decide)
        by_cases hu : s.1 2 2 i = 1
        · exact o_R s hI3 (fun f => w_recoverR (gEM_mono (c_recF2 hRA hc hb hi (by omega)) (fun o τ q => ⟨q.1, by rw [rec_same hu] at q; exact q.2⟩))) (m_recoverF2 hRA hm hb hi (by omega))
        · exact o_R (tRec 2 i s) (pInv_mono hRA (by omega) (inv_rec hI 2 i)) (fun f => w_recoverR (c_recT2 hRA hc hb hi (by omega))) (m_recoverT2 hRA hm hb hi (by omega))
      · exact o_X 2 s (by decide) hI3 (fun f => w_recoverX0 (gX_rel (c_recoverX2 hRA hy) hc)) (m_recoverX2 hRA hm hy)
  · exact o_X 1 s (by decide) hI3 (fun f => w_recoverX1 (gX_rel (c_recoverS hz) hc)) (m_recoverS hRA hm hz)

theorem o_message (hRA : pRA R A) (hI : pInv R A T s) (hT : T + 3 ≤ 1536) (hc : cRel R A s σ1) (hm : mRel R A (s.1 1 1 0) s σ2) (z y : Int32) : oOk R A T mL_message mX7_message [.inr true, .inl z, .inl y, .inr false] [.inr (0), .inl (z), .inl (y)] (fun i => Int32.toInt64 i) σ1 σ2 := by
  obtain ⟨hR1, hR2, hA1⟩ := id hRA
  have hb : pBu s.1 := inv_bu hI (by omega)
  have hbd : pBd R A s.1 := pBu_bd hb
  have hlen : s.2.length ≤ 400 := hI.2.2
  have hI3 : pInv R A (T + 3) s := pInv_mono hRA (by omega) hI
  rcases sw_cases (n := s.2.length) (by omega) z with ⟨i, hi, rfl⟩ | hz
  · have hx : s.2[i]? = some s.2[i] := List.getElem?_eq_getElem hi
    generalize s.2[i] = x9 at hx
    have hp := inv_mk hI (by omega) hx
    rcases sw_cases (n := 6) (by decide) y with ⟨j, hj, rfl⟩ | hy
    · exact o_R s hI3 (fun f => w_messageR (gR_rel (c_msgT hRA hc hlen hx hj) hc)) (m_msgT hRA hm hlen hx hj)
    · exact o_R s hI3 (fun f => w_messageR (gR_rel (c_msgN hRA hc hlen hi hy) hc)) (m_msgN hRA hm hlen hi hy)
  · exact o_X 1 s (by decide) hI3 (fun f => w_messageX (gX_rel (c_msgX hRA hc hz) hc)) (m_msgX hRA hm hz)

theorem o_told (hRA : pRA R A) (hI : pInv R A T s) (hT : T + 3 ≤ 1536) (hc : cRel R A s σ1) (hm : mRel R A (s.1 1 1 0) s σ2) (z y x : Int32) (hxx : x = nI 0 ∨ x = nI 1) : oOk R A T mL_told mX7_told [.inr true, .inl z, .inl y, .inl x, .inr false] [.inr (0), .inl (z), .inl (y), .inl (x)] (fun i => Int32.toInt64 i) σ1 σ2 := by
  obtain ⟨hR1, hR2, hA1⟩ := id hRA
  have hb : pBu s.1 := inv_bu hI (by omega)
  have hbd : pBd R A s.1 := pBu_bd hb
  have hlen : s.2.length ≤ 400 := hI.2.2
  have hI3 : pInv R A (T + 3) s := pInv_mono hRA (by omega) hI
  rcases sw_cases (n := s.2.length) (by omega) z with ⟨i, hi, rfl⟩ | hz
  · have hx : s.2[i]? = some s.2[i] := List.getElem?_eq_getElem hi
    generalize s.2[i] = x9 at hx
    have hp := inv_mk hI (by omega) hx
    rcases sw_cases (n := R) (by omega) y with ⟨m, hm', rfl⟩ | hy
    · by_cases hk : x9 0 = 3
      · rcases hxx with e | e
        · subst e
          exact o_R s hI3 (fun f => w_toldR (gR_rel (c_toldW hRA hc hlen hx hp hm' hk) hc)) (m_toldW hRA hm hlen hx hp hm' hk)
        · subst e
          exact o_R s hI3 (fun f => w_toldR (gR_rel (c_toldB hRA hc hlen hx hp hm' hk) hc)) (m_toldB hRA hm hlen hx hp hm' hk)
      · exact o_R s hI3 (fun f => w_toldR (gR_rel (c_toldK hRA hc hlen hx hp hm' hk) hc)) (m_toldK hRA hm hlen hx hp hm' hk)
    · exact o_X 1 s (by decide) hI3 (fun f => w_toldX (gX_rel (c_toldY hRA hc hlen hi hy) hc)) (m_toldY hRA hm hlen hi hy)
  · exact o_X 1 s (by decide) hI3 (fun f => w_toldX (gX_rel (c_toldX hRA hc hz) hc)) (m_toldX hRA hm hz)

theorem o_manager (hRA : pRA R A) (hI : pInv R A T s) (hT : T + 3 ≤ 1536) (hc : cRel R A s σ1) (hm : mRel R A (s.1 1 1 0) s σ2) (z y : Int32) : oOk R A T mL_manager mX7_manager [.inr true, .inl z, .inl y, .inr false] [.inr (0), .inl (z), .inl (y)] (fun i => Int32.toInt64 i) σ1 σ2 := by
  obtain ⟨hR1, hR2, hA1⟩ := id hRA
  have hb : pBu s.1 := inv_bu hI (by omega)
  have hbd : pBd R A s.1 := pBu_bd hb
  have hlen : s.2.length ≤ 400 := hI.2.2
  have hI3 : pInv R A (T + 3) s := pInv_mono hRA (by omega) hI
  rcases sw_cases (n := R) (by omega) z with ⟨m, hm', rfl⟩ | hz
  · skip
    rcases sw_cases (n := 2) (by decide) y with ⟨k, hk, rfl⟩ | hy
    · rcases (show k = 0 ∨ k = 1 by omega) with e | e <;> subst e
      · exact o_R s hI3 (fun f => w_managerR (gR_rel (c_man0 hRA hc hb hm') hc)) (m_man0 hRA hm hb hm')
      · exact o_R s hI3 (fun f => w_managerR (gR_rel (c_man1 hRA hc hb hm') hc)) (m_man1 hRA hm hb hm')
    · exact o_R s hI3 (fun f => w_managerR (gR_rel (c_manN hRA hc hb hm' hy) hc)) (m_manN hRA hm hb hm' hy)
  · exact o_X 1 s (by decide) hI3 (fun f => w_managerX (gX_rel (c_manX hRA hz) hc)) (m_manX hRA hm hz)

theorem o_acceptor (hRA : pRA R A) (hI : pInv R A T s) (hT : T + 3 ≤ 1536) (hc : cRel R A s σ1) (hm : mRel R A (s.1 1 1 0) s σ2) (z y x : Int32) : oOk R A T mL_acceptor mX7_acceptor [.inr true, .inl z, .inl y, .inl x, .inr false] [.inr (0), .inl (z), .inl (y), .inl (x)] (fun i => Int32.toInt64 i) σ1 σ2 := by
  obtain ⟨hR1, hR2, hA1⟩ := id hRA
  have hb : pBu s.1 := inv_bu hI (by omega)
  have hbd : pBd R A s.1 := pBu_bd hb
  have hlen : s.2.length ≤ 400 := hI.2.2
  have hI3 : pInv R A (T + 3) s := pInv_mono hRA (by omega) hI
  rcases sw_cases (n := A) (by omega) z with ⟨a, ha, rfl⟩ | hz
  · rcases sw_cases (n := R) (by omega) y with ⟨m, hm', rfl⟩ | hy
    · skip
      rcases sw_cases (n := 4) (by decide) x with ⟨k, hk, rfl⟩ | hy
      · rcases (show k = 0 ∨ k = 1 ∨ k = 2 ∨ k = 3 by omega) with e | e | e | e <;> subst e
        · exact o_R s hI3 (fun f => w_acceptorR (gR_rel (c_acc0 hRA hc hb ha hm') hc)) (m_acc0 hRA hm hb ha hm')
        · exact o_R s hI3 (fun f => w_acceptorR (gR_rel (c_acc1 hRA hc hb ha hm') hc)) (m_acc1 hRA hm hb ha hm')
        · exact o_R s hI3 (fun f => w_acceptorR (gR_rel (c_acc2 hRA hc hb ha hm') hc)) (m_acc2 hRA hm hb ha hm')
        · exact o_R s hI3 (fun f => w_acceptorR (gR_rel (c_acc3 hRA hc hb ha hm') hc)) (m_acc3 hRA hm hb ha hm')
      · exact o_R s hI3 (fun f => w_acceptorR (gR_rel (c_accN hRA hc hb ha hm' hy) hc)) (m_accN hRA hm hb ha hm' hy)
    · exact o_X 1 s (by decide) hI3 (fun f => w_acceptorX (gX_rel (c_accY hRA ha hy) hc)) (m_accY hRA hm ha hy)
  · exact o_X 1 s (by decide) hI3 (fun f => w_acceptorX (gX_rel (c_accX hRA hz) hc)) (m_accX hRA hm hz)

theorem o_leader (hRA : pRA R A) (hI : pInv R A T s) (hT : T + 3 ≤ 1536) (hc : cRel R A s σ1) (hm : mRel R A (s.1 1 1 0) s σ2) (z y : Int32) : oOk R A T mL_leader mX7_leader [.inr true, .inl z, .inl y, .inr false] [.inr (0), .inl (z), .inl (y)] (fun i => Int32.toInt64 i) σ1 σ2 := by
  obtain ⟨hR1, hR2, hA1⟩ := id hRA
  have hb : pBu s.1 := inv_bu hI (by omega)
  have hbd : pBd R A s.1 := pBu_bd hb
  have hlen : s.2.length ≤ 400 := hI.2.2
  have hI3 : pInv R A (T + 3) s := pInv_mono hRA (by omega) hI
  rcases sw_cases (n := 3) (by decide) z with ⟨l, hl, rfl⟩ | hz
  · skip
    rcases sw_cases (n := 6) (by decide) y with ⟨k, hk, rfl⟩ | hy
    · rcases (show k = 0 ∨ k = 1 ∨ k = 2 ∨ k = 3 ∨ k = 4 ∨ k = 5 by omega) with e | e | e | e | e | e <;> subst e
      · exact o_R s hI3 (fun f => w_leaderR (gR_rel (c_lea0 hRA hc hb hl) hc)) (m_lea0 hRA hm hb hl)
      · exact o_R s hI3 (fun f => w_leaderR (gR_rel (c_lea1 hRA hc hb hl) hc)) (m_lea1 hRA hm hb hl)
      · exact o_R s hI3 (fun f => w_leaderR (gR_rel (c_lea2 hRA hc hb hl) hc)) (m_lea2 hRA hm hb hl)
      · exact o_R s hI3 (fun f => w_leaderR (gR_rel (c_lea3 hRA hc hb hl) hc)) (m_lea3 hRA hm hb hl)
      · exact o_R s hI3 (fun f => w_leaderR (gR_rel (c_lea4 hRA hc hb hl) hc)) (m_lea4 hRA hm hb hl)
      · exact o_R s hI3 (fun f => w_leaderR (gR_rel (c_lea5 hRA hc hb hl) hc)) (m_lea5 hRA hm hb hl)
    · exact o_R s hI3 (fun f => w_leaderR (gR_rel (c_leaN hRA hc hb hl hy) hc)) (m_leaN hRA hm hb hl hy)
  · exact o_X 1 s (by decide) hI3 (fun f => w_leaderX (gX_rel (c_leaX hRA hz) hc)) (m_leaX hRA hm hz)

theorem o_outcome (hRA : pRA R A) (hI : pInv R A T s) (hT : T + 3 ≤ 1536) (hc : cRel R A s σ1) (hm : mRel R A (s.1 1 1 0) s σ2) (z y : Int32) : oOk R A T mL_outcome mX7_outcome [.inr true, .inl z, .inl y, .inr false] [.inr (0), .inl (z), .inl (y)] (fun i => Int32.toInt64 i) σ1 σ2 := by
  obtain ⟨hR1, hR2, hA1⟩ := id hRA
  have hb : pBu s.1 := inv_bu hI (by omega)
  have hbd : pBd R A s.1 := pBu_bd hb
  have hlen : s.2.length ≤ 400 := hI.2.2
  have hI3 : pInv R A (T + 3) s := pInv_mono hRA (by omega) hI
  rcases sw_cases (n := 3) (by decide) z with ⟨l, hl, rfl⟩ | hz
  · rcases sw_cases (n := R) (by omega) y with ⟨m, hm', rfl⟩ | hy
    · exact o_R s hI3 (fun f => w_outcomeR (gR_rel (c_oco hRA hc hb hl hm') hc)) (m_oco hRA hm hb hl hm')
    · exact o_X 1 s (by decide) hI3 (fun f => w_outcomeX (gX_rel (c_ocoY hRA hl hy) hc)) (m_ocoY hRA hm hl hy)
  · exact o_X 1 s (by decide) hI3 (fun f => w_outcomeX (gX_rel (c_ocoX hRA hz) hc)) (m_ocoX hRA hm hz)

theorem o_seen (hRA : pRA R A) (hI : pInv R A T s) (hT : T + 3 ≤ 1536) (hc : cRel R A s σ1) (hm : mRel R A (s.1 1 1 0) s σ2) (z y x : Int32) : oOk R A T mL_seen mX7_seen [.inr true, .inl z, .inl y, .inl x, .inr false] [.inr (0), .inl (z), .inl (y), .inl (x)] (fun i => Int32.toInt64 i) σ1 σ2 := by
  obtain ⟨hR1, hR2, hA1⟩ := id hRA
  have hb : pBu s.1 := inv_bu hI (by omega)
  have hbd : pBd R A s.1 := pBu_bd hb
  have hlen : s.2.length ≤ 400 := hI.2.2
  have hI3 : pInv R A (T + 3) s := pInv_mono hRA (by omega) hI
  rcases sw_cases (n := 3) (by decide) z with ⟨l, hl, rfl⟩ | hz
  · rcases sw_cases (n := R) (by omega) y with ⟨m, hm', rfl⟩ | hy
    · rcases sw_cases (n := A) (by omega) x with ⟨a, ha, rfl⟩ | hx
      · exact o_R s hI3 (fun f => w_seenR (gR_rel (c_seen hRA hc hb hl hm' ha) hc)) (m_seen hRA hm hb hl hm' ha)
      · exact o_X 1 s (by decide) hI3 (fun f => w_seenX (gX_rel (c_seenZ hRA hl hm' hx) hc)) (m_seenZ hRA hm hl hm' hx)
    · exact o_X 1 s (by decide) hI3 (fun f => w_seenX (gX_rel (c_seenY hRA hl hy) hc)) (m_seenY hRA hm hl hy)
  · exact o_X 1 s (by decide) hI3 (fun f => w_seenX (gX_rel (c_seenX hRA hz) hc)) (m_seenX hRA hm hz)

theorem o_chosen (hRA : pRA R A) (hI : pInv R A T s) (hT : T + 3 ≤ 1536) (hc : cRel R A s σ1) (hm : mRel R A (s.1 1 1 0) s σ2) (z : Int32) : oOk R A T mL_chosen mX7_chosen [.inr true, .inl z, .inr false] [.inr (0), .inl (z)] (fun i => Int32.toInt64 i) σ1 σ2 := by
  obtain ⟨hR1, hR2, hA1⟩ := id hRA
  have hb : pBu s.1 := inv_bu hI (by omega)
  have hbd : pBd R A s.1 := pBu_bd hb
  have hlen : s.2.length ≤ 400 := hI.2.2
  have hI3 : pInv R A (T + 3) s := pInv_mono hRA (by omega) hI
  rcases sw_cases (n := R) (by omega) z with ⟨m, hm', rfl⟩ | hz
  · exact o_R s hI3 (fun f => w_chosenR (gR_rel (c_cho hRA hc hm') hc)) (m_cho hRA hm (fun b j => hb 15 b j (by decide) (by decide)) hm' (f_ch1 hI hm') (f_ch2 hI (by omega) hm'))
  · exact o_X 1 s (by decide) hI3 (fun f => w_chosenX (gX_rel (c_choX hRA hz) hc)) (m_choX hRA hm hz)

theorem o_count (hRA : pRA R A) (hI : pInv R A T s) (hT : T + 3 ≤ 1536) (hc : cRel R A s σ1) (hm : mRel R A (s.1 1 1 0) s σ2) (z : Int32) : ∃ v, gEM (cG R A) mX6_count 0 [.inr (0), .inl (z)] σ1 (gR v (fun τ => τ = σ1)) ∧ gEM mG mX7_count 0 [.inr (0), .inl (z)] σ2 (gR v (mP R A (s.1 1 1 0) s 0)) := by
  obtain ⟨hR1, hR2, hA1⟩ := id hRA
  have hb : pBu s.1 := inv_bu hI (by omega)
  have hbd : pBd R A s.1 := pBu_bd hb
  have hlen : s.2.length ≤ 400 := hI.2.2
  have hI3 : pInv R A (T + 3) s := pInv_mono hRA (by omega) hI
  rcases sw_cases (n := 10) (by decide) z with ⟨k, hk, rfl⟩ | hz
  · rcases (show k = 0 ∨ k = 1 ∨ k = 2 ∨ k = 3 ∨ k = 4 ∨ k = 5 ∨ k = 6 ∨ k = 7 ∨ k = 8 ∨ k = 9 by omega) with e | e | e | e | e | e | e | e | e | e <;> subst e
    · exact ⟨_, c_cnt0 hRA hc hb, m_cnt0 hRA hm hb⟩
    · exact ⟨_, c_cnt1 hRA hc hb, m_cnt1 hRA hm hb⟩
    · exact ⟨_, c_cnt2 hRA hc hb, m_cnt2 hRA hm hb⟩
    · exact ⟨_, c_cnt3 hRA hc hb, m_cnt3 hRA hm hb⟩
    · exact ⟨_, c_cnt4 hRA hc hb, m_cnt4 hRA hm hb⟩
    · exact ⟨_, c_cnt5 hRA hc hb, m_cnt5 hRA hm hb⟩
    · exact ⟨_, c_cnt6 hRA hc hb, m_cnt6 hRA hm hb⟩
    · exact ⟨_, c_cnt7 hRA hc hb, m_cnt7 hRA hm hb⟩
    · exact ⟨_, c_cnt8 hRA hc hb, m_cnt8 hRA hm hb⟩
    · exact ⟨_, c_cnt9 hRA hc hb, m_cnt9 hRA hm hb⟩
  · exact ⟨_, c_cntN hz, m_cntN hRA hm hz⟩

theorem o_astray (hRA : pRA R A) (hI : pInv R A T s) (hT : T + 3 ≤ 1536) (hc : cRel R A s σ1) (hm : mRel R A (s.1 1 1 0) s σ2) : gEM (cG R A) mX6_astray 0 [.inr (0)] σ1 (gR (nI 0) (fun τ => τ = σ1)) ∧ gEM mG mX7_astray 0 [.inr (0)] σ2 (gR (nI 0) (mP R A (s.1 1 1 0) s 0)) :=
  ⟨c_astray hRA hc (inv_bu hI (by omega)) (f_as1 hI) (f_as2 hI) (f_as3 hI) (f_as4 hI), m_astray hRA hm⟩
end OPS
