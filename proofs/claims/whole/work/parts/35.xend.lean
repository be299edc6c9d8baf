/-! ===== X: answers behind the first, ends ===== -/
theorem xb_make {xst xow xin xpa xfi xfr xno xsi xan xkn xen xco xrm xac : Int32} {K N Z D Im W P vS pO pX pI fS fP fI fU fR fO fA fH fG fN aS qL qR qP : Nat → Int32} {post : SX → Prop} {oq : Nat} (h1 : 23 ≤ oq) (h2 : oq ≤ 31) (hp : post (xst, xow, xin, xpa, xfi, xfr, xno, 5, xan, xkn, xen, xco, xrm, xac, K, N, Z, D, Im, W, P, vS, pO, pX, pI, fS, fP, fI, fU, fR, fO, fA, fH, fG, fN, aS, qL, qR, qP)) : wpX_answerBehindA post (xst, xow, xin, xpa, xfi, xfr, xno, xsi, xan, xkn, xen, xco, xrm, xac, K, N, Z, D, Im, W, P, vS, pO, pX, pI, fS, fP, fI, fU, fR, fO, fA, fH, fG, fN, aS, qL, qR, qP) (nI oq) := by
  unfold wpX_answerBehindA
  dsimp only
  exact br_f (nI_nlt (b := 23) h1 (by omega)) (br_f (nI_nlt (a := 31) h2 (by omega)) hp)
theorem xb_20 {xst xow xin xpa xfi xfr xno xsi xan xkn xen xco xrm xac : Int32} {K N Z D Im W P vS pO pX pI fS fP fI fU fR fO fA fH fG fN aS qL qR qP : Nat → Int32} {post : SX → Prop} {oq : Nat} (ho : oq ≤ 35) (h1 : oq < 23 ∨ 31 < oq) (h : wX_answerBehindA_20 post (nI oq) xst xow xin xpa xfi xfr xno xsi xan xkn xen xco xrm xac K N Z D Im W P vS pO pX pI fS fP fI fU fR fO fA fH fG fN aS qL qR qP) : wpX_answerBehindA post (xst, xow, xin, xpa, xfi, xfr, xno, xsi, xan, xkn, xen, xco, xrm, xac, K, N, Z, D, Im, W, P, vS, pO, pX, pI, fS, fP, fI, fU, fR, fO, fA, fH, fG, fN, aS, qL, qR, qP) (nI oq) := by
  unfold wpX_answerBehindA
  dsimp only
  refine pk_lt oq 23 (fun _ => h) (fun z => br_t (nI_lt (a := 31) (by omega) (by omega)) h)
theorem xb_fold {xst xow xin xpa xfi xfr xno xsi xan xkn xen xco xrm xac : Int32} {K N Z D Im W P vS pO pX pI fS fP fI fU fR fO fA fH fG fN aS qL qR qP : Nat → Int32} {post : SX → Prop} {g : Nat} (eg : xno = nI g) (hg : g < 600) (hp : post (xst, xow, xin, xpa, xfi, xfr, xno, 0, xan, xkn, xen, xco, xrm, xac, K, N, Z, D, Im, W, P, vS, pO, pX, pI, fS, fP, fI, fU, fR, fO, fA, (upd fH g xan), fG, fN, aS, qL, qR, qP)) : wpX_answerBehindA post (xst, xow, xin, xpa, xfi, xfr, xno, xsi, xan, xkn, xen, xco, xrm, xac, K, N, Z, D, Im, W, P, vS, pO, pX, pI, fS, fP, fI, fU, fR, fO, fA, fH, fG, fN, aS, qL, qR, qP) (nI 35) := by
  have eg' : xno.toNatClampNeg = g := by rw [eg, nI_clamp (by omega)]
  have hin : vp_in xno 600 := by rw [eg]; exact vp_in_nI hg (by omega)
  refine xb_20 (by omega) (Or.inr (by omega)) ?_
  unfold wX_answerBehindA_20
  rw [eg']
  exact br_t rfl ⟨hin, nm_e hp⟩
theorem xb_pass {xst xow xin xpa xfi xfr xno xsi xan xkn xen xco xrm xac : Int32} {K N Z D Im W P vS pO pX pI fS fP fI fU fR fO fA fH fG fN aS qL qR qP : Nat → Int32} {post : SX → Prop} {oq : Nat} (ho : oq < 35) (h1 : oq < 23 ∨ 31 < oq) (hp : post (xst, xow, xin, xpa, xfi, xfr, xno, xsi, xan, xkn, xen, xco, xrm, xac, K, N, Z, D, Im, W, P, vS, pO, pX, pI, fS, fP, fI, fU, fR, fO, fA, fH, fG, fN, aS, qL, qR, qP)) : wpX_answerBehindA post (xst, xow, xin, xpa, xfi, xfr, xno, xsi, xan, xkn, xen, xco, xrm, xac, K, N, Z, D, Im, W, P, vS, pO, pX, pI, fS, fP, fI, fU, fR, fO, fA, fH, fG, fN, aS, qL, qR, qP) (nI oq) := by
  refine xb_20 (by omega) h1 ?_
  unfold wX_answerBehindA_20
  exact br_f (fun z => absurd ((nI_eq (b := 35) (by omega) (by omega)).mp z) (by omega)) hp
theorem xe_29 {xst xow xin xpa xfi xfr xno xsi xan xkn xen xco xrm xac : Int32} {K N Z D Im W P vS pO pX pI fS fP fI fU fR fO fA fH fG fN aS qL qR qP : Nat → Int32} {post : SX → Prop} {g oq gv : Nat} (eg : xno = nI g) (hg : g < 600) (ho : oq ≤ 35) (eG : fG g = nI gv) (hgv : gv < 2 ^ 31)
    (h1 : (oq = 22 ∨ (oq = 32 ∧ gv = 0)) → wX_endOfA_29 post (nI oq) 1 xst xow xin xpa xfi xfr xno xsi xan xkn xen xco xrm xac K N Z D Im W P vS pO pX pI fS fP fI fU fR fO fA fH fG fN aS qL qR qP) (h0 : ¬ (oq = 22 ∨ (oq = 32 ∧ gv = 0)) → wX_endOfA_29 post (nI oq) 0 xst xow xin xpa xfi xfr xno xsi xan xkn xen xco xrm xac K N Z D Im W P vS pO pX pI fS fP fI fU fR fO fA fH fG fN aS qL qR qP) : wpX_endOfA post (xst, xow, xin, xpa, xfi, xfr, xno, xsi, xan, xkn, xen, xco, xrm, xac, K, N, Z, D, Im, W, P, vS, pO, pX, pI, fS, fP, fI, fU, fR, fO, fA, fH, fG, fN, aS, qL, qR, qP) (nI oq) := by
  have eg' : xno.toNatClampNeg = g := by rw [eg, nI_clamp (by omega)]
  have hin : vp_in xno 600 := by rw [eg]; exact vp_in_nI hg (by omega)
  unfold wpX_endOfA
  dsimp only
  rw [eg', eG]
  refine pk_eq oq 22 (fun e => ?_) (fun n22 => pk_eq oq 32 (fun e => ⟨hin, pk_eq gv 0 (fun z => ?_) (fun z => ?_)⟩) (fun n32 => ?_))
  · unfold wX_endOfA_24
    exact h1 (Or.inl e)
  · unfold wX_endOfA_24
    exact h1 (Or.inr ⟨e, z⟩)
  · unfold wX_endOfA_28
    exact h0 (by omega)
  · unfold wX_endOfA_28
    exact h0 (by omega)
theorem xe_ap {xst xow xin xpa xfi xfr xno xsi xan xkn xen xco xrm xac : Int32} {K N Z D Im W P vS pO pX pI fS fP fI fU fR fO fA fH fG fN aS qL qR qP : Nat → Int32} {xst' xow' xin' xpa' xfi' xfr' xno' xsi' xan' xkn' xen' xco' xrm' xac' : Int32} {K' N' Z' D' Im' W' P' vS' pO' pX' pI' fS' fP' fI' fU' fR' fO' fA' fH' fG' fN' aS' qL' qR' qP' : Nat → Int32} {post : SX → Prop} {g oq gv : Nat} (eg : xno = nI g) (hg : g < 600) (ho : oq ≤ 35) (eG : fG g = nI gv) (hgv : gv < 2 ^ 31) (hz : oq = 22 ∨ (oq = 32 ∧ gv = 0))
    (hA : ∀ Q : SX → Prop, Q (xst', xow', xin', xpa', xfi', xfr', xno', xsi', xan', xkn', xen', xco', xrm', xac', K', N', Z', D', Im', W', P', vS', pO', pX', pI', fS', fP', fI', fU', fR', fO', fA', fH', fG', fN', aS', qL', qR', qP') → wpX_apply Q (xst, xow, xin, xpa, xfi, xfr, xno, xsi, xan, xkn, xen, xco, xrm, xac, K, N, Z, D, Im, W, P, vS, pO, pX, pI, fS, fP, fI, fU, fR, fO, fA, fH, fG, fN, aS, qL, qR, qP) (nI 1) (fI g)) (hp : post (xst', xow', xin', xpa', xfi', xfr', xno', xsi', xan', xkn', xen', xco', xrm', xac', K', N', Z', D', Im', W', P', vS', pO', pX', pI', fS', fP', fI', fU', fR', fO', fA', fH', fG', fN', aS', qL', qR', qP')) : wpX_endOfA post (xst, xow, xin, xpa, xfi, xfr, xno, xsi, xan, xkn, xen, xco, xrm, xac, K, N, Z, D, Im, W, P, vS, pO, pX, pI, fS, fP, fI, fU, fR, fO, fA, fH, fG, fN, aS, qL, qR, qP) (nI oq) := by
  have eg' : xno.toNatClampNeg = g := by rw [eg, nI_clamp (by omega)]
  have hin : vp_in xno 600 := by rw [eg]; exact vp_in_nI hg (by omega)
  refine xe_29 eg hg ho eG hgv (fun _ => ?_) (fun w => absurd hz w)
  unfold wX_endOfA_29
  rw [eg']
  exact br_f (by decide) ⟨hin, hA _ hp⟩
theorem xe_end {xst xow xin xpa xfi xfr xno xsi xan xkn xen xco xrm xac : Int32} {K N Z D Im W P vS pO pX pI fS fP fI fU fR fO fA fH fG fN aS qL qR qP : Nat → Int32} {post : SX → Prop} {g oq gv : Nat} (eg : xno = nI g) (hg : g < 600) (ho : oq ≤ 35) (eG : fG g = nI gv) (hgv : gv < 2 ^ 31) (hz : ¬ (oq = 22 ∨ (oq = 32 ∧ gv = 0))) (n16 : oq ≠ 16) (n35 : oq ≠ 35) (hp : post (xst, xow, xin, xpa, xfi, xfr, xno, 2, xan, xkn, xen, xco, xrm, xac, K, N, Z, D, Im, W, P, vS, pO, pX, pI, fS, fP, fI, fU, fR, fO, fA, fH, fG, fN, aS, qL, qR, qP)) : wpX_endOfA post (xst, xow, xin, xpa, xfi, xfr, xno, xsi, xan, xkn, xen, xco, xrm, xac, K, N, Z, D, Im, W, P, vS, pO, pX, pI, fS, fP, fI, fU, fR, fO, fA, fH, fG, fN, aS, qL, qR, qP) (nI oq) := by
  refine xe_29 eg hg ho eG hgv (fun w => absurd w hz) (fun _ => ?_)
  unfold wX_endOfA_29
  exact br_t rfl (br_f (fun z => n16 ((nI_eq (b := 16) (by omega) (by omega)).mp z)) (br_f (fun z => n35 ((nI_eq (b := 35) (by omega) (by omega)).mp z)) hp))
theorem xe_fold {xst xow xin xpa xfi xfr xno xsi xan xkn xen xco xrm xac : Int32} {K N Z D Im W P vS pO pX pI fS fP fI fU fR fO fA fH fG fN aS qL qR qP : Nat → Int32} {post : SX → Prop} {g gv : Nat} (eg : xno = nI g) (hg : g < 600) (eG : fG g = nI gv) (hgv : gv < 2 ^ 31) (hp : post (xst, xow, xin, xpa, xfi, xfr, xno, 1, (fH g), xkn, xen, xco, xrm, xac, K, N, Z, D, Im, W, P, vS, pO, pX, pI, fS, fP, fI, fU, fR, fO, fA, fH, (upd fG g 1), fN, aS, qL, qR, qP)) : wpX_endOfA post (xst, xow, xin, xpa, xfi, xfr, xno, xsi, xan, xkn, xen, xco, xrm, xac, K, N, Z, D, Im, W, P, vS, pO, pX, pI, fS, fP, fI, fU, fR, fO, fA, fH, fG, fN, aS, qL, qR, qP) (nI 35) := by
  have eg' : xno.toNatClampNeg = g := by rw [eg, nI_clamp (by omega)]
  have hin : vp_in xno 600 := by rw [eg]; exact vp_in_nI hg (by omega)
  refine xe_29 eg hg (by omega) eG hgv (fun w => absurd w (by omega)) (fun _ => ?_)
  unfold wX_endOfA_29
  rw [eg']
  exact br_t rfl (br_f (by decide) (br_t rfl ⟨hin, nm_e ⟨hin, xr_give hp⟩⟩))
theorem xe_all {xst xow xin xpa xfi xfr xno xsi xan xkn xen xco xrm xac : Int32} {K N Z D Im W P vS pO pX pI fS fP fI fU fR fO fA fH fG fN aS qL qR qP : Nat → Int32} {V : Nat → Prop} {post : SX → Prop} {g gv h z : Nat} {c e q w : Nat → Nat} (eg : xno = nI g) (hg : g < 600) (eG : fG g = nI gv) (hgv : gv < 2 ^ 31) (eH : fH g = nI h) (hh : h < 653) (eK : K h = 4) (eN : N h = 0) (eZ : Z h = nI z) (hz : z ≤ 10) (hc : ns_ch V D Im W h z (fun i => P (h * 10 + i)) c e q w) (hne : ∀ t, V t → t ≠ h)
    (hp : ∀ D' Im' W' : Nat → Int32, vv_ns h 4 z 0 0 (fun i => P (h * 10 + i)) e q w K N Z D Im W P K N Z D' Im' W' P → post (xst, xow, xin, xpa, xfi, xfr, xno, 1, (nI h), xkn, xen, xco, xrm, xac, K, N, Z, D', Im', W', P, vS, pO, pX, pI, fS, fP, fI, fU, fR, fO, fA, fH, (upd fG g 1), fN, aS, qL, qR, qP)) : wpX_endOfA post (xst, xow, xin, xpa, xfi, xfr, xno, xsi, xan, xkn, xen, xco, xrm, xac, K, N, Z, D, Im, W, P, vS, pO, pX, pI, fS, fP, fI, fU, fR, fO, fA, fH, fG, fN, aS, qL, qR, qP) (nI 16) := by
  have eg' : xno.toNatClampNeg = g := by rw [eg, nI_clamp (by omega)]
  have hin : vp_in xno 600 := by rw [eg]; exact vp_in_nI hg (by omega)
  refine xe_29 eg hg (by omega) eG hgv (fun w => absurd w (by omega)) (fun _ => ?_)
  unfold wX_endOfA_29
  rw [eg', eH]
  refine br_t rfl (br_t rfl ⟨hin, nm_e ⟨hin, ?_⟩⟩)
  refine xm_ns (V := V) (c := c) (K0 := K) (N0 := N) (Z0 := Z) (P0 := P) hh hz (Or.inl ⟨rfl, rfl⟩) hc hne (fun t _ => ⟨rfl, rfl, rfl, fun _ _ => rfl⟩) eK eN eZ (fun _ _ => rfl) (fun D' Im' W' hns => ?_)
  dsimp only
  rw [eg', eH]
  exact ⟨hin, xr_give (hp D' Im' W' hns)⟩
theorem xf_fold1 {xst xow xin xpa xfi xfr xno xsi xan xkn xen xco xrm xac : Int32} {K N Z D Im W P vS pO pX pI fS fP fI fU fR fO fA fH fG fN aS qL qR qP : Nat → Int32} {xst' xow' xin' xpa' xfi' xfr' xno' xsi' xan' xkn' xen' xco' xrm' xac' : Int32} {K' N' Z' D' Im' W' P' vS' pO' pX' pI' fS' fP' fI' fU' fR' fO' fA' fH' fG' fN' aS' qL' qR' qP' : Nat → Int32} {post : SX → Prop} {g : Nat} (eg : xno = nI g) (hg : g < 600) (hA : ∀ Q : SX → Prop, Q (xst', xow', xin', xpa', xfi', xfr', xno', xsi', xan', xkn', xen', xco', xrm', xac', K', N', Z', D', Im', W', P', vS', pO', pX', pI', fS', fP', fI', fU', fR', fO', fA', fH', fG', fN', aS', qL', qR', qP') → wpX_apply Q (xst, xow, xin, xpa, xfi, xfr, xno, xsi, xan, xkn, xen, xco, xrm, xac, K, N, Z, D, Im, W, P, vS, pO, pX, pI, fS, fP, fI, fU, fR, fO, fA, fH, fG, fN, aS, qL, qR, qP) (nI 0) (fI g)) (hp : post (xst', xow', xin', xpa', xfi', xfr', xno', xsi', xan', xkn', xen', xco', xrm', xac', K', N', Z', D', Im', W', P', vS', pO', pX', pI', fS', fP', fI', fU', fR', fO', fA', fH', fG', fN', aS', qL', qR', qP')) : wpX_endBehindA post (xst, xow, xin, xpa, xfi, xfr, xno, xsi, xan, xkn, xen, xco, xrm, xac, K, N, Z, D, Im, W, P, vS, pO, pX, pI, fS, fP, fI, fU, fR, fO, fA, fH, fG, fN, aS, qL, qR, qP) (nI 35) 1 := by
  have eg' : xno.toNatClampNeg = g := by rw [eg, nI_clamp (by omega)]
  have hin : vp_in xno 600 := by rw [eg]; exact vp_in_nI hg (by omega)
  unfold wpX_endBehindA
  dsimp only
  rw [eg']
  exact br_t rfl (br_t rfl ⟨hin, hA _ hp⟩)
theorem xf_end {xst xow xin xpa xfi xfr xno xsi xan xkn xen xco xrm xac : Int32} {K N Z D Im W P vS pO pX pI fS fP fI fU fR fO fA fH fG fN aS qL qR qP : Nat → Int32} {post : SX → Prop} {oq : Nat} {ro : Int32} (h : oq = 22 ∨ oq = 32) (hp : post (xst, xow, xin, xpa, xfi, xfr, xno, 2, xan, xkn, xen, xco, xrm, xac, K, N, Z, D, Im, W, P, vS, pO, pX, pI, fS, fP, fI, fU, fR, fO, fA, fH, fG, fN, aS, qL, qR, qP)) : wpX_endBehindA post (xst, xow, xin, xpa, xfi, xfr, xno, xsi, xan, xkn, xen, xco, xrm, xac, K, N, Z, D, Im, W, P, vS, pO, pX, pI, fS, fP, fI, fU, fR, fO, fA, fH, fG, fN, aS, qL, qR, qP) (nI oq) ro := by
  unfold wpX_endBehindA
  dsimp only
  refine br_f (fun z => absurd ((nI_eq (b := 35) (by omega) (by omega)).mp z) (by omega)) ?_
  unfold wX_endBehindA_28
  exact pk_eq oq 22 (fun _ => hp) (fun n => br_t (by rw [show oq = 32 by omega]; rfl) hp)
theorem xf_back {xst xow xin xpa xfi xfr xno xsi xan xkn xen xco xrm xac : Int32} {K N Z D Im W P vS pO pX pI fS fP fI fU fR fO fA fH fG fN aS qL qR qP : Nat → Int32} {post : SX → Prop} {g oq : Nat} {ro : Int32} (eg : xno = nI g) (hg : g < 600) (ho : oq ≤ 35) (n22 : oq ≠ 22) (n32 : oq ≠ 32) (h35 : oq = 35 → ¬ ro = 1) (hp : post (xst, xow, xin, xpa, xfi, xfr, xno, 0, xan, xkn, xen, xco, xrm, xac, K, N, Z, D, Im, W, P, vS, pO, pX, pI, fS, fP, fI, fU, fR, fO, (upd fA g (fO g)), fH, fG, fN, aS, qL, qR, qP)) : wpX_endBehindA post (xst, xow, xin, xpa, xfi, xfr, xno, xsi, xan, xkn, xen, xco, xrm, xac, K, N, Z, D, Im, W, P, vS, pO, pX, pI, fS, fP, fI, fU, fR, fO, fA, fH, fG, fN, aS, qL, qR, qP) (nI oq) ro := by
  have eg' : xno.toNatClampNeg = g := by rw [eg, nI_clamp (by omega)]
  have hin : vp_in xno 600 := by rw [eg]; exact vp_in_nI hg (by omega)
  have k28 : wX_endBehindA_28 post (nI oq) xst xow xin xpa xfi xfr xno xsi xan xkn xen xco xrm xac K N Z D Im W P vS pO pX pI fS fP fI fU fR fO fA fH fG fN aS qL qR qP := by
    unfold wX_endBehindA_28
    rw [eg']
    exact br_f (fun z => n22 ((nI_eq (b := 22) (by omega) (by omega)).mp z)) (br_f (fun z => n32 ((nI_eq (b := 32) (by omega) (by omega)).mp z)) ⟨hin, hin, nm_e hp⟩)
  unfold wpX_endBehindA
  dsimp only
  exact pk_eq oq 35 (fun e => br_f (h35 e) k28) (fun _ => k28)
