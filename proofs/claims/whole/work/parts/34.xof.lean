/-! ===== X: an answer of the first filter within ===== -/
theorem xo_pre {xst xow xin xpa xfi xfr xno xsi xan xkn xen xco xrm xac : Int32} {K N Z D Im W P vS pO pX pI fS fP fI fU fR fO fA fH fG fN aS qL qR qP : Nat → Int32} {post : SX → Prop} {s κ : Nat} {x : Int32} {Q : Int32 → Prop} (ea : xan = nI s) (hs : s < 653) (eK : K s = nI κ) (hκ : κ ≤ 5) (h0 : 2 ≤ κ → Q 0) (h1 : κ < 2 → Q 1) : wpX_isEmpty Q (xst, xow, xin, xpa, xfi, xfr, xno, xsi, xan, xkn, xen, xco, xrm, xac, K, N, Z, D, Im, W, P, vS, pO, pX, pI, fS, fP, fI, fU, fR, fO, fA, fH, fG, fN, aS, qL, qR, qP) xan := by
  rw [ea]
  exact xr_isEmpty hs eK hκ h0 h1
theorem xo_17 {xst xow xin xpa xfi xfr xno xsi xan xkn xen xco xrm xac : Int32} {K N Z D Im W P vS pO pX pI fS fP fI fU fR fO fA fH fG fN aS qL qR qP : Nat → Int32} {post : SX → Prop} {g s κ : Nat} (eg : xno = nI g) (hg : g < 600) (ea : xan = nI s) (hs : s < 653) (eK : K s = nI κ) (hκ : κ ≤ 5) (hp : post (xst, xow, xin, xpa, xfi, xfr, xno, xsi, xan, xkn, xen, xco, xrm, xac, K, N, Z, D, Im, W, P, vS, pO, pX, pI, fS, fP, fI, fU, fR, fO, fA, fH, fG, fN, aS, qL, qR, qP)) : wpX_answerOfA post (xst, xow, xin, xpa, xfi, xfr, xno, xsi, xan, xkn, xen, xco, xrm, xac, K, N, Z, D, Im, W, P, vS, pO, pX, pI, fS, fP, fI, fU, fR, fO, fA, fH, fG, fN, aS, qL, qR, qP) (nI 17) := by
  have eg' : xno.toNatClampNeg = g := by rw [eg, nI_clamp (by omega)]
  have hin : vp_in xno 600 := by rw [eg]; exact vp_in_nI hg (by omega)
  unfold wpX_answerOfA
  dsimp only
  rw [eg']
  exact xo_pre (post := post) (x := 0) ea hs eK hκ (fun hz => br_f (by decide) (br_f (by decide) (br_f (by decide) (br_t rfl (hp))))) (fun hz => br_f (by decide) (br_f (by decide) (br_f (by decide) (br_t rfl (hp)))))
theorem xo_22 {xst xow xin xpa xfi xfr xno xsi xan xkn xen xco xrm xac : Int32} {K N Z D Im W P vS pO pX pI fS fP fI fU fR fO fA fH fG fN aS qL qR qP : Nat → Int32} {post : SX → Prop} {g s κ : Nat} (eg : xno = nI g) (hg : g < 600) (ea : xan = nI s) (hs : s < 653) (eK : K s = nI κ) (hκ : κ ≤ 5) (hp : post (xst, xow, xin, xpa, xfi, xfr, xno, xsi, xan, xkn, xen, xco, xrm, xac, K, N, Z, D, Im, W, P, vS, pO, pX, pI, fS, fP, fI, fU, fR, fO, fA, fH, fG, fN, aS, qL, qR, qP)) : wpX_answerOfA post (xst, xow, xin, xpa, xfi, xfr, xno, xsi, xan, xkn, xen, xco, xrm, xac, K, N, Z, D, Im, W, P, vS, pO, pX, pI, fS, fP, fI, fU, fR, fO, fA, fH, fG, fN, aS, qL, qR, qP) (nI 22) := by
  have eg' : xno.toNatClampNeg = g := by rw [eg, nI_clamp (by omega)]
  have hin : vp_in xno 600 := by rw [eg]; exact vp_in_nI hg (by omega)
  unfold wpX_answerOfA
  dsimp only
  rw [eg']
  exact xo_pre (post := post) (x := 0) ea hs eK hκ (fun hz => br_f (by decide) (br_f (by decide) (br_f (by decide) (br_f (by decide) (br_f (by decide) (br_f (by decide) (br_f (by decide) (br_f (by decide) (br_t rfl (hp)))))))))) (fun hz => br_f (by decide) (br_f (by decide) (br_f (by decide) (br_f (by decide) (br_f (by decide) (br_f (by decide) (br_f (by decide) (br_f (by decide) (br_t rfl (hp))))))))))
theorem xo_20 {xst xow xin xpa xfi xfr xno xsi xan xkn xen xco xrm xac : Int32} {K N Z D Im W P vS pO pX pI fS fP fI fU fR fO fA fH fG fN aS qL qR qP : Nat → Int32} {post : SX → Prop} {g s κ : Nat} (eg : xno = nI g) (hg : g < 600) (ea : xan = nI s) (hs : s < 653) (eK : K s = nI κ) (hκ : κ ≤ 5) (hp : post (xst, xow, xin, xpa, xfi, xfr, xno, 5, xan, xkn, xen, xco, xrm, xac, K, N, Z, D, Im, W, P, vS, pO, pX, pI, fS, fP, fI, fU, fR, fO, fA, fH, fG, fN, aS, qL, qR, qP)) : wpX_answerOfA post (xst, xow, xin, xpa, xfi, xfr, xno, xsi, xan, xkn, xen, xco, xrm, xac, K, N, Z, D, Im, W, P, vS, pO, pX, pI, fS, fP, fI, fU, fR, fO, fA, fH, fG, fN, aS, qL, qR, qP) (nI 20) := by
  have eg' : xno.toNatClampNeg = g := by rw [eg, nI_clamp (by omega)]
  have hin : vp_in xno 600 := by rw [eg]; exact vp_in_nI hg (by omega)
  unfold wpX_answerOfA
  dsimp only
  rw [eg']
  exact xo_pre (post := post) (x := 0) ea hs eK hκ (fun hz => br_f (by decide) (br_f (by decide) (br_f (by decide) (br_f (by decide) (br_f (by decide) (br_f (by decide) (br_t rfl (hp)))))))) (fun hz => br_f (by decide) (br_f (by decide) (br_f (by decide) (br_f (by decide) (br_f (by decide) (br_f (by decide) (br_t rfl (hp))))))))
theorem xo_18 {xst xow xin xpa xfi xfr xno xsi xan xkn xen xco xrm xac : Int32} {K N Z D Im W P vS pO pX pI fS fP fI fU fR fO fA fH fG fN aS qL qR qP : Nat → Int32} {post : SX → Prop} {g s κ : Nat} (eg : xno = nI g) (hg : g < 600) (ea : xan = nI s) (hs : s < 653) (eK : K s = nI κ) (hκ : κ ≤ 5) {gv : Nat} (eG : fG g = nI gv) (hp : post (xst, xow, xin, xpa, xfi, xfr, xno, xsi, xan, xkn, xen, xco, xrm, xac, K, N, Z, D, Im, W, P, vS, pO, pX, pI, fS, fP, fI, fU, fR, fO, fA, fH, (upd fG g (nI (gv + 1))), fN, aS, qL, qR, qP)) : wpX_answerOfA post (xst, xow, xin, xpa, xfi, xfr, xno, xsi, xan, xkn, xen, xco, xrm, xac, K, N, Z, D, Im, W, P, vS, pO, pX, pI, fS, fP, fI, fU, fR, fO, fA, fH, fG, fN, aS, qL, qR, qP) (nI 18) := by
  have eg' : xno.toNatClampNeg = g := by rw [eg, nI_clamp (by omega)]
  have hin : vp_in xno 600 := by rw [eg]; exact vp_in_nI hg (by omega)
  unfold wpX_answerOfA
  dsimp only
  rw [eg']
  exact xo_pre (post := post) (x := 0) ea hs eK hκ (fun hz => br_f (by decide) (br_f (by decide) (br_f (by decide) (br_f (by decide) (br_t rfl (⟨hin, hin, nm_r (by rw [eG, nI_1]) hp⟩)))))) (fun hz => br_f (by decide) (br_f (by decide) (br_f (by decide) (br_f (by decide) (br_t rfl (⟨hin, hin, nm_r (by rw [eG, nI_1]) hp⟩))))))
theorem xo_19 {xst xow xin xpa xfi xfr xno xsi xan xkn xen xco xrm xac : Int32} {K N Z D Im W P vS pO pX pI fS fP fI fU fR fO fA fH fG fN aS qL qR qP : Nat → Int32} {post : SX → Prop} {g s κ : Nat} (eg : xno = nI g) (hg : g < 600) (ea : xan = nI s) (hs : s < 653) (eK : K s = nI κ) (hκ : κ ≤ 5) (h1 : 2 ≤ κ → post (xst, xow, xin, xpa, xfi, xfr, xno, 1, (fI g), xkn, xen, xco, xrm, xac, K, N, Z, D, Im, W, P, vS, pO, pX, pI, fS, fP, fI, fU, fR, fO, fA, fH, fG, fN, aS, qL, qR, qP)) (h0 : κ < 2 → post (xst, xow, xin, xpa, xfi, xfr, xno, 0, (fI g), xkn, xen, xco, xrm, xac, K, N, Z, D, Im, W, P, vS, pO, pX, pI, fS, fP, fI, fU, fR, fO, fA, fH, fG, fN, aS, qL, qR, qP)) : wpX_answerOfA post (xst, xow, xin, xpa, xfi, xfr, xno, xsi, xan, xkn, xen, xco, xrm, xac, K, N, Z, D, Im, W, P, vS, pO, pX, pI, fS, fP, fI, fU, fR, fO, fA, fH, fG, fN, aS, qL, qR, qP) (nI 19) := by
  have eg' : xno.toNatClampNeg = g := by rw [eg, nI_clamp (by omega)]
  have hin : vp_in xno 600 := by rw [eg]; exact vp_in_nI hg (by omega)
  unfold wpX_answerOfA
  dsimp only
  rw [eg']
  exact xo_pre (post := post) (x := 0) ea hs eK hκ (fun hz => br_f (by decide) (br_f (by decide) (br_f (by decide) (br_f (by decide) (br_f (by decide) (br_t rfl (⟨hin, nm_e (br_t rfl (h1 hz))⟩))))))) (fun hz => br_f (by decide) (br_f (by decide) (br_f (by decide) (br_f (by decide) (br_f (by decide) (br_t rfl (⟨hin, nm_e (br_f (by decide) (h0 hz))⟩)))))))
theorem xo_21 {xst xow xin xpa xfi xfr xno xsi xan xkn xen xco xrm xac : Int32} {K N Z D Im W P vS pO pX pI fS fP fI fU fR fO fA fH fG fN aS qL qR qP : Nat → Int32} {xst' xow' xin' xpa' xfi' xfr' xno' xsi' xan' xkn' xen' xco' xrm' xac' : Int32} {K' N' Z' D' Im' W' P' vS' pO' pX' pI' fS' fP' fI' fU' fR' fO' fA' fH' fG' fN' aS' qL' qR' qP' : Nat → Int32} {post : SX → Prop} {g s κ : Nat} (eg : xno = nI g) (hg : g < 600) (ea : xan = nI s) (hs : s < 653) (eK : K s = nI κ) (hκ : κ ≤ 5) (hA : ∀ Q : SX → Prop, Q (xst', xow', xin', xpa', xfi', xfr', xno', xsi', xan', xkn', xen', xco', xrm', xac', K', N', Z', D', Im', W', P', vS', pO', pX', pI', fS', fP', fI', fU', fR', fO', fA', fH', fG', fN', aS', qL', qR', qP') → wpX_apply Q (xst, xow, xin, xpa, xfi, xfr, xno, xsi, xan, xkn, xen, xco, xrm, xac, K, N, Z, D, Im, W, P, vS, pO, pX, pI, fS, fP, fI, fU, fR, fO, fA, fH, fG, fN, aS, qL, qR, qP) (nI 1) xan) (hp : post (xst', xow', xin', xpa', xfi', xfr', xno', xsi', xan', xkn', xen', xco', xrm', xac', K', N', Z', D', Im', W', P', vS', pO', pX', pI', fS', fP', fI', fU', fR', fO', fA', fH', fG', fN', aS', qL', qR', qP')) : wpX_answerOfA post (xst, xow, xin, xpa, xfi, xfr, xno, xsi, xan, xkn, xen, xco, xrm, xac, K, N, Z, D, Im, W, P, vS, pO, pX, pI, fS, fP, fI, fU, fR, fO, fA, fH, fG, fN, aS, qL, qR, qP) (nI 21) := by
  have eg' : xno.toNatClampNeg = g := by rw [eg, nI_clamp (by omega)]
  have hin : vp_in xno 600 := by rw [eg]; exact vp_in_nI hg (by omega)
  unfold wpX_answerOfA
  dsimp only
  rw [eg']
  exact xo_pre (post := post) (x := 0) ea hs eK hκ (fun hz => br_f (by decide) (br_f (by decide) (br_f (by decide) (br_f (by decide) (br_f (by decide) (br_f (by decide) (br_f (by decide) (br_t rfl (hA _ hp))))))))) (fun hz => br_f (by decide) (br_f (by decide) (br_f (by decide) (br_f (by decide) (br_f (by decide) (br_f (by decide) (br_f (by decide) (br_t rfl (hA _ hp)))))))))
theorem xo_23 {xst xow xin xpa xfi xfr xno xsi xan xkn xen xco xrm xac : Int32} {K N Z D Im W P vS pO pX pI fS fP fI fU fR fO fA fH fG fN aS qL qR qP : Nat → Int32} {xst' xow' xin' xpa' xfi' xfr' xno' xsi' xan' xkn' xen' xco' xrm' xac' : Int32} {K' N' Z' D' Im' W' P' vS' pO' pX' pI' fS' fP' fI' fU' fR' fO' fA' fH' fG' fN' aS' qL' qR' qP' : Nat → Int32} {post : SX → Prop} {g s κ : Nat} (eg : xno = nI g) (hg : g < 600) (ea : xan = nI s) (hs : s < 653) (eK : K s = nI κ) (hκ : κ ≤ 5) (hA : ∀ Q : SX → Prop, Q (xst', xow', xin', xpa', xfi', xfr', xno', xsi', xan', xkn', xen', xco', xrm', xac', K', N', Z', D', Im', W', P', vS', pO', pX', pI', fS', fP', fI', fU', fR', fO', fA', fH', fG', fN', aS', qL', qR', qP') → wpX_apply Q (xst, xow, xin, xpa, xfi, xfr, xno, xsi, xan, xkn, xen, xco, xrm, xac, K, N, Z, D, Im, W, P, vS, pO, pX, pI, fS, fP, fI, fU, fR, fO, fA, (upd fH g xan), fG, fN, aS, qL, qR, qP) (nI 1) (fI g)) (hp : post (xst', xow', xin', xpa', xfi', xfr', xno', xsi', xan', xkn', xen', xco', xrm', xac', K', N', Z', D', Im', W', P', vS', pO', pX', pI', fS', fP', fI', fU', fR', fO', fA', fH', fG', fN', aS', qL', qR', qP')) : wpX_answerOfA post (xst, xow, xin, xpa, xfi, xfr, xno, xsi, xan, xkn, xen, xco, xrm, xac, K, N, Z, D, Im, W, P, vS, pO, pX, pI, fS, fP, fI, fU, fR, fO, fA, fH, fG, fN, aS, qL, qR, qP) (nI 23) := by
  have eg' : xno.toNatClampNeg = g := by rw [eg, nI_clamp (by omega)]
  have hin : vp_in xno 600 := by rw [eg]; exact vp_in_nI hg (by omega)
  have k335 : wX_answerOfA_335 post xst xow xin xpa xfi xfr xno xsi xan xkn xen xco xrm xac K N Z D Im W P vS pO pX pI fS fP fI fU fR fO fA fH fG fN aS qL qR qP := by
    unfold wX_answerOfA_335
    rw [eg']
    exact ⟨hin, nm_e ⟨hin, hA _ hp⟩⟩
  unfold wpX_answerOfA
  dsimp only
  rw [eg']
  exact xo_pre (post := post) (x := 0) ea hs eK hκ (fun hz => br_f (by decide) (br_f (by decide) (br_f (by decide) (br_f (by decide) (br_f (by decide) (br_f (by decide) (br_f (by decide) (br_f (by decide) (br_f (by decide) (br_t rfl (k335))))))))))) (fun hz => br_f (by decide) (br_f (by decide) (br_f (by decide) (br_f (by decide) (br_f (by decide) (br_f (by decide) (br_f (by decide) (br_f (by decide) (br_f (by decide) (br_t rfl (k335)))))))))))
theorem xo_24 {xst xow xin xpa xfi xfr xno xsi xan xkn xen xco xrm xac : Int32} {K N Z D Im W P vS pO pX pI fS fP fI fU fR fO fA fH fG fN aS qL qR qP : Nat → Int32} {xst' xow' xin' xpa' xfi' xfr' xno' xsi' xan' xkn' xen' xco' xrm' xac' : Int32} {K' N' Z' D' Im' W' P' vS' pO' pX' pI' fS' fP' fI' fU' fR' fO' fA' fH' fG' fN' aS' qL' qR' qP' : Nat → Int32} {post : SX → Prop} {g s κ : Nat} (eg : xno = nI g) (hg : g < 600) (ea : xan = nI s) (hs : s < 653) (eK : K s = nI κ) (hκ : κ ≤ 5) (hA : ∀ Q : SX → Prop, Q (xst', xow', xin', xpa', xfi', xfr', xno', xsi', xan', xkn', xen', xco', xrm', xac', K', N', Z', D', Im', W', P', vS', pO', pX', pI', fS', fP', fI', fU', fR', fO', fA', fH', fG', fN', aS', qL', qR', qP') → wpX_apply Q (xst, xow, xin, xpa, xfi, xfr, xno, xsi, xan, xkn, xen, xco, xrm, xac, K, N, Z, D, Im, W, P, vS, pO, pX, pI, fS, fP, fI, fU, fR, fO, fA, (upd fH g xan), fG, fN, aS, qL, qR, qP) (nI 1) (fI g)) (hp : post (xst', xow', xin', xpa', xfi', xfr', xno', xsi', xan', xkn', xen', xco', xrm', xac', K', N', Z', D', Im', W', P', vS', pO', pX', pI', fS', fP', fI', fU', fR', fO', fA', fH', fG', fN', aS', qL', qR', qP')) : wpX_answerOfA post (xst, xow, xin, xpa, xfi, xfr, xno, xsi, xan, xkn, xen, xco, xrm, xac, K, N, Z, D, Im, W, P, vS, pO, pX, pI, fS, fP, fI, fU, fR, fO, fA, fH, fG, fN, aS, qL, qR, qP) (nI 24) := by
  have eg' : xno.toNatClampNeg = g := by rw [eg, nI_clamp (by omega)]
  have hin : vp_in xno 600 := by rw [eg]; exact vp_in_nI hg (by omega)
  have k335 : wX_answerOfA_335 post xst xow xin xpa xfi xfr xno xsi xan xkn xen xco xrm xac K N Z D Im W P vS pO pX pI fS fP fI fU fR fO fA fH fG fN aS qL qR qP := by
    unfold wX_answerOfA_335
    rw [eg']
    exact ⟨hin, nm_e ⟨hin, hA _ hp⟩⟩
  unfold wpX_answerOfA
  dsimp only
  rw [eg']
  exact xo_pre (post := post) (x := 0) ea hs eK hκ (fun hz => br_f (by decide) (br_f (by decide) (br_f (by decide) (br_f (by decide) (br_f (by decide) (br_f (by decide) (br_f (by decide) (br_f (by decide) (br_f (by decide) (br_f (by decide) (br_t rfl (k335)))))))))))) (fun hz => br_f (by decide) (br_f (by decide) (br_f (by decide) (br_f (by decide) (br_f (by decide) (br_f (by decide) (br_f (by decide) (br_f (by decide) (br_f (by decide) (br_f (by decide) (br_t rfl (k335))))))))))))
theorem xo_25 {xst xow xin xpa xfi xfr xno xsi xan xkn xen xco xrm xac : Int32} {K N Z D Im W P vS pO pX pI fS fP fI fU fR fO fA fH fG fN aS qL qR qP : Nat → Int32} {xst' xow' xin' xpa' xfi' xfr' xno' xsi' xan' xkn' xen' xco' xrm' xac' : Int32} {K' N' Z' D' Im' W' P' vS' pO' pX' pI' fS' fP' fI' fU' fR' fO' fA' fH' fG' fN' aS' qL' qR' qP' : Nat → Int32} {post : SX → Prop} {g s κ : Nat} (eg : xno = nI g) (hg : g < 600) (ea : xan = nI s) (hs : s < 653) (eK : K s = nI κ) (hκ : κ ≤ 5) (hA : ∀ Q : SX → Prop, Q (xst', xow', xin', xpa', xfi', xfr', xno', xsi', xan', xkn', xen', xco', xrm', xac', K', N', Z', D', Im', W', P', vS', pO', pX', pI', fS', fP', fI', fU', fR', fO', fA', fH', fG', fN', aS', qL', qR', qP') → wpX_apply Q (xst, xow, xin, xpa, xfi, xfr, xno, xsi, xan, xkn, xen, xco, xrm, xac, K, N, Z, D, Im, W, P, vS, pO, pX, pI, fS, fP, fI, fU, fR, fO, fA, (upd fH g xan), fG, fN, aS, qL, qR, qP) (nI 1) (fI g)) (hp : post (xst', xow', xin', xpa', xfi', xfr', xno', xsi', xan', xkn', xen', xco', xrm', xac', K', N', Z', D', Im', W', P', vS', pO', pX', pI', fS', fP', fI', fU', fR', fO', fA', fH', fG', fN', aS', qL', qR', qP')) : wpX_answerOfA post (xst, xow, xin, xpa, xfi, xfr, xno, xsi, xan, xkn, xen, xco, xrm, xac, K, N, Z, D, Im, W, P, vS, pO, pX, pI, fS, fP, fI, fU, fR, fO, fA, fH, fG, fN, aS, qL, qR, qP) (nI 25) := by
  have eg' : xno.toNatClampNeg = g := by rw [eg, nI_clamp (by omega)]
  have hin : vp_in xno 600 := by rw [eg]; exact vp_in_nI hg (by omega)
  have k335 : wX_answerOfA_335 post xst xow xin xpa xfi xfr xno xsi xan xkn xen xco xrm xac K N Z D Im W P vS pO pX pI fS fP fI fU fR fO fA fH fG fN aS qL qR qP := by
    unfold wX_answerOfA_335
    rw [eg']
    exact ⟨hin, nm_e ⟨hin, hA _ hp⟩⟩
  unfold wpX_answerOfA
  dsimp only
  rw [eg']
  exact xo_pre (post := post) (x := 0) ea hs eK hκ (fun hz => br_f (by decide) (br_f (by decide) (br_f (by decide) (br_f (by decide) (br_f (by decide) (br_f (by decide) (br_f (by decide) (br_f (by decide) (br_f (by decide) (br_f (by decide) (br_f (by decide) (br_t rfl (k335))))))))))))) (fun hz => br_f (by decide) (br_f (by decide) (br_f (by decide) (br_f (by decide) (br_f (by decide) (br_f (by decide) (br_f (by decide) (br_f (by decide) (br_f (by decide) (br_f (by decide) (br_f (by decide) (br_t rfl (k335)))))))))))))
theorem xo_26 {xst xow xin xpa xfi xfr xno xsi xan xkn xen xco xrm xac : Int32} {K N Z D Im W P vS pO pX pI fS fP fI fU fR fO fA fH fG fN aS qL qR qP : Nat → Int32} {xst' xow' xin' xpa' xfi' xfr' xno' xsi' xan' xkn' xen' xco' xrm' xac' : Int32} {K' N' Z' D' Im' W' P' vS' pO' pX' pI' fS' fP' fI' fU' fR' fO' fA' fH' fG' fN' aS' qL' qR' qP' : Nat → Int32} {post : SX → Prop} {g s κ : Nat} (eg : xno = nI g) (hg : g < 600) (ea : xan = nI s) (hs : s < 653) (eK : K s = nI κ) (hκ : κ ≤ 5) (hA : ∀ Q : SX → Prop, Q (xst', xow', xin', xpa', xfi', xfr', xno', xsi', xan', xkn', xen', xco', xrm', xac', K', N', Z', D', Im', W', P', vS', pO', pX', pI', fS', fP', fI', fU', fR', fO', fA', fH', fG', fN', aS', qL', qR', qP') → wpX_apply Q (xst, xow, xin, xpa, xfi, xfr, xno, xsi, xan, xkn, xen, xco, xrm, xac, K, N, Z, D, Im, W, P, vS, pO, pX, pI, fS, fP, fI, fU, fR, fO, fA, (upd fH g xan), fG, fN, aS, qL, qR, qP) (nI 1) (fI g)) (hp : post (xst', xow', xin', xpa', xfi', xfr', xno', xsi', xan', xkn', xen', xco', xrm', xac', K', N', Z', D', Im', W', P', vS', pO', pX', pI', fS', fP', fI', fU', fR', fO', fA', fH', fG', fN', aS', qL', qR', qP')) : wpX_answerOfA post (xst, xow, xin, xpa, xfi, xfr, xno, xsi, xan, xkn, xen, xco, xrm, xac, K, N, Z, D, Im, W, P, vS, pO, pX, pI, fS, fP, fI, fU, fR, fO, fA, fH, fG, fN, aS, qL, qR, qP) (nI 26) := by
  have eg' : xno.toNatClampNeg = g := by rw [eg, nI_clamp (by omega)]
  have hin : vp_in xno 600 := by rw [eg]; exact vp_in_nI hg (by omega)
  have k335 : wX_answerOfA_335 post xst xow xin xpa xfi xfr xno xsi xan xkn xen xco xrm xac K N Z D Im W P vS pO pX pI fS fP fI fU fR fO fA fH fG fN aS qL qR qP := by
    unfold wX_answerOfA_335
    rw [eg']
    exact ⟨hin, nm_e ⟨hin, hA _ hp⟩⟩
  unfold wpX_answerOfA
  dsimp only
  rw [eg']
  exact xo_pre (post := post) (x := 0) ea hs eK hκ (fun hz => br_f (by decide) (br_f (by decide) (br_f (by decide) (br_f (by decide) (br_f (by decide) (br_f (by decide) (br_f (by decide) (br_f (by decide) (br_f (by decide) (br_f (by decide) (br_f (by decide) (br_f (by decide) (br_t rfl (k335)))))))))))))) (fun hz => br_f (by decide) (br_f (by decide) (br_f (by decide) (br_f (by decide) (br_f (by decide) (br_f (by decide) (br_f (by decide) (br_f (by decide) (br_f (by decide) (br_f (by decide) (br_f (by decide) (br_f (by decide) (br_t rfl (k335))))))))))))))
theorem xo_27 {xst xow xin xpa xfi xfr xno xsi xan xkn xen xco xrm xac : Int32} {K N Z D Im W P vS pO pX pI fS fP fI fU fR fO fA fH fG fN aS qL qR qP : Nat → Int32} {xst' xow' xin' xpa' xfi' xfr' xno' xsi' xan' xkn' xen' xco' xrm' xac' : Int32} {K' N' Z' D' Im' W' P' vS' pO' pX' pI' fS' fP' fI' fU' fR' fO' fA' fH' fG' fN' aS' qL' qR' qP' : Nat → Int32} {post : SX → Prop} {g s κ : Nat} (eg : xno = nI g) (hg : g < 600) (ea : xan = nI s) (hs : s < 653) (eK : K s = nI κ) (hκ : κ ≤ 5) (hA : ∀ Q : SX → Prop, Q (xst', xow', xin', xpa', xfi', xfr', xno', xsi', xan', xkn', xen', xco', xrm', xac', K', N', Z', D', Im', W', P', vS', pO', pX', pI', fS', fP', fI', fU', fR', fO', fA', fH', fG', fN', aS', qL', qR', qP') → wpX_apply Q (xst, xow, xin, xpa, xfi, xfr, xno, xsi, xan, xkn, xen, xco, xrm, xac, K, N, Z, D, Im, W, P, vS, pO, pX, pI, fS, fP, fI, fU, fR, fO, fA, (upd fH g xan), fG, fN, aS, qL, qR, qP) (nI 1) (fI g)) (hp : post (xst', xow', xin', xpa', xfi', xfr', xno', xsi', xan', xkn', xen', xco', xrm', xac', K', N', Z', D', Im', W', P', vS', pO', pX', pI', fS', fP', fI', fU', fR', fO', fA', fH', fG', fN', aS', qL', qR', qP')) : wpX_answerOfA post (xst, xow, xin, xpa, xfi, xfr, xno, xsi, xan, xkn, xen, xco, xrm, xac, K, N, Z, D, Im, W, P, vS, pO, pX, pI, fS, fP, fI, fU, fR, fO, fA, fH, fG, fN, aS, qL, qR, qP) (nI 27) := by
  have eg' : xno.toNatClampNeg = g := by rw [eg, nI_clamp (by omega)]
  have hin : vp_in xno 600 := by rw [eg]; exact vp_in_nI hg (by omega)
  have k335 : wX_answerOfA_335 post xst xow xin xpa xfi xfr xno xsi xan xkn xen xco xrm xac K N Z D Im W P vS pO pX pI fS fP fI fU fR fO fA fH fG fN aS qL qR qP := by
    unfold wX_answerOfA_335
    rw [eg']
    exact ⟨hin, nm_e ⟨hin, hA _ hp⟩⟩
  unfold wpX_answerOfA
  dsimp only
  rw [eg']
  exact xo_pre (post := post) (x := 0) ea hs eK hκ (fun hz => br_f (by decide) (br_f (by decide) (br_f (by decide) (br_f (by decide) (br_f (by decide) (br_f (by decide) (br_f (by decide) (br_f (by decide) (br_f (by decide) (br_f (by decide) (br_f (by decide) (br_f (by decide) (br_f (by decide) (br_t rfl (k335))))))))))))))) (fun hz => br_f (by decide) (br_f (by decide) (br_f (by decide) (br_f (by decide) (br_f (by decide) (br_f (by decide) (br_f (by decide) (br_f (by decide) (br_f (by decide) (br_f (by decide) (br_f (by decide) (br_f (by decide) (br_f (by decide) (br_t rfl (k335)))))))))))))))
theorem xo_28 {xst xow xin xpa xfi xfr xno xsi xan xkn xen xco xrm xac : Int32} {K N Z D Im W P vS pO pX pI fS fP fI fU fR fO fA fH fG fN aS qL qR qP : Nat → Int32} {xst' xow' xin' xpa' xfi' xfr' xno' xsi' xan' xkn' xen' xco' xrm' xac' : Int32} {K' N' Z' D' Im' W' P' vS' pO' pX' pI' fS' fP' fI' fU' fR' fO' fA' fH' fG' fN' aS' qL' qR' qP' : Nat → Int32} {post : SX → Prop} {g s κ : Nat} (eg : xno = nI g) (hg : g < 600) (ea : xan = nI s) (hs : s < 653) (eK : K s = nI κ) (hκ : κ ≤ 5) (hA : ∀ Q : SX → Prop, Q (xst', xow', xin', xpa', xfi', xfr', xno', xsi', xan', xkn', xen', xco', xrm', xac', K', N', Z', D', Im', W', P', vS', pO', pX', pI', fS', fP', fI', fU', fR', fO', fA', fH', fG', fN', aS', qL', qR', qP') → wpX_apply Q (xst, xow, xin, xpa, xfi, xfr, xno, xsi, xan, xkn, xen, xco, xrm, xac, K, N, Z, D, Im, W, P, vS, pO, pX, pI, fS, fP, fI, fU, fR, fO, fA, (upd fH g xan), fG, fN, aS, qL, qR, qP) (nI 1) (fI g)) (hp : post (xst', xow', xin', xpa', xfi', xfr', xno', xsi', xan', xkn', xen', xco', xrm', xac', K', N', Z', D', Im', W', P', vS', pO', pX', pI', fS', fP', fI', fU', fR', fO', fA', fH', fG', fN', aS', qL', qR', qP')) : wpX_answerOfA post (xst, xow, xin, xpa, xfi, xfr, xno, xsi, xan, xkn, xen, xco, xrm, xac, K, N, Z, D, Im, W, P, vS, pO, pX, pI, fS, fP, fI, fU, fR, fO, fA, fH, fG, fN, aS, qL, qR, qP) (nI 28) := by
  have eg' : xno.toNatClampNeg = g := by rw [eg, nI_clamp (by omega)]
  have hin : vp_in xno 600 := by rw [eg]; exact vp_in_nI hg (by omega)
  have k335 : wX_answerOfA_335 post xst xow xin xpa xfi xfr xno xsi xan xkn xen xco xrm xac K N Z D Im W P vS pO pX pI fS fP fI fU fR fO fA fH fG fN aS qL qR qP := by
    unfold wX_answerOfA_335
    rw [eg']
    exact ⟨hin, nm_e ⟨hin, hA _ hp⟩⟩
  unfold wpX_answerOfA
  dsimp only
  rw [eg']
  exact xo_pre (post := post) (x := 0) ea hs eK hκ (fun hz => br_f (by decide) (br_f (by decide) (br_f (by decide) (br_f (by decide) (br_f (by decide) (br_f (by decide) (br_f (by decide) (br_f (by decide) (br_f (by decide) (br_f (by decide) (br_f (by decide) (br_f (by decide) (br_f (by decide) (br_f (by decide) (br_t rfl (k335)))))))))))))))) (fun hz => br_f (by decide) (br_f (by decide) (br_f (by decide) (br_f (by decide) (br_f (by decide) (br_f (by decide) (br_f (by decide) (br_f (by decide) (br_f (by decide) (br_f (by decide) (br_f (by decide) (br_f (by decide) (br_f (by decide) (br_f (by decide) (br_t rfl (k335))))))))))))))))
theorem xo_29 {xst xow xin xpa xfi xfr xno xsi xan xkn xen xco xrm xac : Int32} {K N Z D Im W P vS pO pX pI fS fP fI fU fR fO fA fH fG fN aS qL qR qP : Nat → Int32} {xst' xow' xin' xpa' xfi' xfr' xno' xsi' xan' xkn' xen' xco' xrm' xac' : Int32} {K' N' Z' D' Im' W' P' vS' pO' pX' pI' fS' fP' fI' fU' fR' fO' fA' fH' fG' fN' aS' qL' qR' qP' : Nat → Int32} {post : SX → Prop} {g s κ : Nat} (eg : xno = nI g) (hg : g < 600) (ea : xan = nI s) (hs : s < 653) (eK : K s = nI κ) (hκ : κ ≤ 5) (hA : ∀ Q : SX → Prop, Q (xst', xow', xin', xpa', xfi', xfr', xno', xsi', xan', xkn', xen', xco', xrm', xac', K', N', Z', D', Im', W', P', vS', pO', pX', pI', fS', fP', fI', fU', fR', fO', fA', fH', fG', fN', aS', qL', qR', qP') → wpX_apply Q (xst, xow, xin, xpa, xfi, xfr, xno, xsi, xan, xkn, xen, xco, xrm, xac, K, N, Z, D, Im, W, P, vS, pO, pX, pI, fS, fP, fI, fU, fR, fO, fA, (upd fH g xan), fG, fN, aS, qL, qR, qP) (nI 1) (fI g)) (hp : post (xst', xow', xin', xpa', xfi', xfr', xno', xsi', xan', xkn', xen', xco', xrm', xac', K', N', Z', D', Im', W', P', vS', pO', pX', pI', fS', fP', fI', fU', fR', fO', fA', fH', fG', fN', aS', qL', qR', qP')) : wpX_answerOfA post (xst, xow, xin, xpa, xfi, xfr, xno, xsi, xan, xkn, xen, xco, xrm, xac, K, N, Z, D, Im, W, P, vS, pO, pX, pI, fS, fP, fI, fU, fR, fO, fA, fH, fG, fN, aS, qL, qR, qP) (nI 29) := by
  have eg' : xno.toNatClampNeg = g := by rw [eg, nI_clamp (by omega)]
  have hin : vp_in xno 600 := by rw [eg]; exact vp_in_nI hg (by omega)
  have k335 : wX_answerOfA_335 post xst xow xin xpa xfi xfr xno xsi xan xkn xen xco xrm xac K N Z D Im W P vS pO pX pI fS fP fI fU fR fO fA fH fG fN aS qL qR qP := by
    unfold wX_answerOfA_335
    rw [eg']
    exact ⟨hin, nm_e ⟨hin, hA _ hp⟩⟩
  unfold wpX_answerOfA
  dsimp only
  rw [eg']
  exact xo_pre (post := post) (x := 0) ea hs eK hκ (fun hz => br_f (by decide) (br_f (by decide) (br_f (by decide) (br_f (by decide) (br_f (by decide) (br_f (by decide) (br_f (by decide) (br_f (by decide) (br_f (by decide) (br_f (by decide) (br_f (by decide) (br_f (by decide) (br_f (by decide) (br_f (by decide) (br_f (by decide) (br_t rfl (k335))))))))))))))))) (fun hz => br_f (by decide) (br_f (by decide) (br_f (by decide) (br_f (by decide) (br_f (by decide) (br_f (by decide) (br_f (by decide) (br_f (by decide) (br_f (by decide) (br_f (by decide) (br_f (by decide) (br_f (by decide) (br_f (by decide) (br_f (by decide) (br_f (by decide) (br_t rfl (k335)))))))))))))))))
theorem xo_30m {xst xow xin xpa xfi xfr xno xsi xan xkn xen xco xrm xac : Int32} {K N Z D Im W P vS pO pX pI fS fP fI fU fR fO fA fH fG fN aS qL qR qP : Nat → Int32} {post : SX → Prop} {g s κ : Nat} (eg : xno = nI g) (hg : g < 600) (ea : xan = nI s) (hs : s < 653) (eK : K s = nI κ) (hκ : κ ≤ 5) (he : κ < 2 ↔ True) (hp : post (xst, xow, xin, xpa, xfi, xfr, xno, 5, xan, xkn, xen, xco, xrm, xac, K, N, Z, D, Im, W, P, vS, pO, pX, pI, fS, fP, fI, fU, fR, fO, fA, fH, fG, fN, aS, qL, qR, qP)) : wpX_answerOfA post (xst, xow, xin, xpa, xfi, xfr, xno, xsi, xan, xkn, xen, xco, xrm, xac, K, N, Z, D, Im, W, P, vS, pO, pX, pI, fS, fP, fI, fU, fR, fO, fA, fH, fG, fN, aS, qL, qR, qP) (nI 30) := by
  have eg' : xno.toNatClampNeg = g := by rw [eg, nI_clamp (by omega)]
  have hin : vp_in xno 600 := by rw [eg]; exact vp_in_nI hg (by omega)
  have k179 : ∀ r : Int32, (r = 0 ∧ 2 ≤ κ ∨ r = 1 ∧ κ < 2) → wX_answerOfA_179 post (nI 30) r xst xow xin xpa xfi xfr xno xsi xan xkn xen xco xrm xac K N Z D Im W P vS pO pX pI fS fP fI fU fR fO fA fH fG fN aS qL qR qP := by
    intro r hr
    unfold wX_answerOfA_179
    refine br_t rfl ?_
    unfold wX_answerOfA_191
    rcases hr with ⟨rfl, z⟩ | ⟨rfl, z⟩
    · exact absurd (he.mpr trivial) (by omega)
    · exact br_t rfl hp
  unfold wpX_answerOfA
  dsimp only
  rw [eg']
  exact xo_pre (post := post) (x := 0) ea hs eK hκ (fun hz => br_f (by decide) (br_f (by decide) (br_f (by decide) (br_f (by decide) (br_f (by decide) (br_f (by decide) (br_f (by decide) (br_f (by decide) (br_f (by decide) (br_f (by decide) (br_f (by decide) (br_f (by decide) (br_f (by decide) (br_f (by decide) (br_f (by decide) (br_f (by decide) (br_t rfl (k179 0 (Or.inl ⟨rfl, hz⟩))))))))))))))))))) (fun hz => br_f (by decide) (br_f (by decide) (br_f (by decide) (br_f (by decide) (br_f (by decide) (br_f (by decide) (br_f (by decide) (br_f (by decide) (br_f (by decide) (br_f (by decide) (br_f (by decide) (br_f (by decide) (br_f (by decide) (br_f (by decide) (br_f (by decide) (br_f (by decide) (br_t rfl (k179 1 (Or.inr ⟨rfl, hz⟩)))))))))))))))))))
theorem xo_30a {xst xow xin xpa xfi xfr xno xsi xan xkn xen xco xrm xac : Int32} {K N Z D Im W P vS pO pX pI fS fP fI fU fR fO fA fH fG fN aS qL qR qP : Nat → Int32} {xst' xow' xin' xpa' xfi' xfr' xno' xsi' xan' xkn' xen' xco' xrm' xac' : Int32} {K' N' Z' D' Im' W' P' vS' pO' pX' pI' fS' fP' fI' fU' fR' fO' fA' fH' fG' fN' aS' qL' qR' qP' : Nat → Int32} {post : SX → Prop} {g s κ : Nat} (eg : xno = nI g) (hg : g < 600) (ea : xan = nI s) (hs : s < 653) (eK : K s = nI κ) (hκ : κ ≤ 5) (he : κ < 2 ↔ False) (hA : ∀ Q : SX → Prop, Q (xst', xow', xin', xpa', xfi', xfr', xno', xsi', xan', xkn', xen', xco', xrm', xac', K', N', Z', D', Im', W', P', vS', pO', pX', pI', fS', fP', fI', fU', fR', fO', fA', fH', fG', fN', aS', qL', qR', qP') → wpX_apply Q (xst, xow, xin, xpa, xfi, xfr, xno, xsi, xan, xkn, xen, xco, xrm, xac, K, N, Z, D, Im, W, P, vS, pO, pX, pI, fS, fP, fI, fU, fR, fO, fA, fH, fG, fN, aS, qL, qR, qP) (nI 1) (fI g)) (hp : post (xst', xow', xin', xpa', xfi', xfr', xno', xsi', xan', xkn', xen', xco', xrm', xac', K', N', Z', D', Im', W', P', vS', pO', pX', pI', fS', fP', fI', fU', fR', fO', fA', fH', fG', fN', aS', qL', qR', qP')) : wpX_answerOfA post (xst, xow, xin, xpa, xfi, xfr, xno, xsi, xan, xkn, xen, xco, xrm, xac, K, N, Z, D, Im, W, P, vS, pO, pX, pI, fS, fP, fI, fU, fR, fO, fA, fH, fG, fN, aS, qL, qR, qP) (nI 30) := by
  have eg' : xno.toNatClampNeg = g := by rw [eg, nI_clamp (by omega)]
  have hin : vp_in xno 600 := by rw [eg]; exact vp_in_nI hg (by omega)
  have k179 : ∀ r : Int32, (r = 0 ∧ 2 ≤ κ ∨ r = 1 ∧ κ < 2) → wX_answerOfA_179 post (nI 30) r xst xow xin xpa xfi xfr xno xsi xan xkn xen xco xrm xac K N Z D Im W P vS pO pX pI fS fP fI fU fR fO fA fH fG fN aS qL qR qP := by
    intro r hr
    unfold wX_answerOfA_179
    refine br_t rfl ?_
    unfold wX_answerOfA_191
    rw [eg']
    rcases hr with ⟨rfl, z⟩ | ⟨rfl, z⟩
    · exact br_f (by decide) ⟨hin, hA _ hp⟩
    · exact (he.mp z).elim
  unfold wpX_answerOfA
  dsimp only
  rw [eg']
  exact xo_pre (post := post) (x := 0) ea hs eK hκ (fun hz => br_f (by decide) (br_f (by decide) (br_f (by decide) (br_f (by decide) (br_f (by decide) (br_f (by decide) (br_f (by decide) (br_f (by decide) (br_f (by decide) (br_f (by decide) (br_f (by decide) (br_f (by decide) (br_f (by decide) (br_f (by decide) (br_f (by decide) (br_f (by decide) (br_t rfl (k179 0 (Or.inl ⟨rfl, hz⟩))))))))))))))))))) (fun hz => br_f (by decide) (br_f (by decide) (br_f (by decide) (br_f (by decide) (br_f (by decide) (br_f (by decide) (br_f (by decide) (br_f (by decide) (br_f (by decide) (br_f (by decide) (br_f (by decide) (br_f (by decide) (br_f (by decide) (br_f (by decide) (br_f (by decide) (br_f (by decide) (br_t rfl (k179 1 (Or.inr ⟨rfl, hz⟩)))))))))))))))))))
theorem xo_31m {xst xow xin xpa xfi xfr xno xsi xan xkn xen xco xrm xac : Int32} {K N Z D Im W P vS pO pX pI fS fP fI fU fR fO fA fH fG fN aS qL qR qP : Nat → Int32} {post : SX → Prop} {g s κ : Nat} (eg : xno = nI g) (hg : g < 600) (ea : xan = nI s) (hs : s < 653) (eK : K s = nI κ) (hκ : κ ≤ 5) (he : κ < 2 ↔ False) (hp : post (xst, xow, xin, xpa, xfi, xfr, xno, 5, xan, xkn, xen, xco, xrm, xac, K, N, Z, D, Im, W, P, vS, pO, pX, pI, fS, fP, fI, fU, fR, fO, fA, fH, fG, fN, aS, qL, qR, qP)) : wpX_answerOfA post (xst, xow, xin, xpa, xfi, xfr, xno, xsi, xan, xkn, xen, xco, xrm, xac, K, N, Z, D, Im, W, P, vS, pO, pX, pI, fS, fP, fI, fU, fR, fO, fA, fH, fG, fN, aS, qL, qR, qP) (nI 31) := by
  have eg' : xno.toNatClampNeg = g := by rw [eg, nI_clamp (by omega)]
  have hin : vp_in xno 600 := by rw [eg]; exact vp_in_nI hg (by omega)
  have k179 : ∀ r : Int32, (r = 0 ∧ 2 ≤ κ ∨ r = 1 ∧ κ < 2) → wX_answerOfA_179 post (nI 31) r xst xow xin xpa xfi xfr xno xsi xan xkn xen xco xrm xac K N Z D Im W P vS pO pX pI fS fP fI fU fR fO fA fH fG fN aS qL qR qP := by
    intro r hr
    unfold wX_answerOfA_179
    refine br_f (by decide) ?_
    unfold wX_answerOfA_191
    rcases hr with ⟨rfl, z⟩ | ⟨rfl, z⟩
    · exact br_t rfl hp
    · exact (he.mp z).elim
  unfold wpX_answerOfA
  dsimp only
  rw [eg']
  exact xo_pre (post := post) (x := 0) ea hs eK hκ (fun hz => br_f (by decide) (br_f (by decide) (br_f (by decide) (br_f (by decide) (br_f (by decide) (br_f (by decide) (br_f (by decide) (br_f (by decide) (br_f (by decide) (br_f (by decide) (br_f (by decide) (br_f (by decide) (br_f (by decide) (br_f (by decide) (br_f (by decide) (br_f (by decide) (br_f (by decide) (br_t rfl (k179 0 (Or.inl ⟨rfl, hz⟩)))))))))))))))))))) (fun hz => br_f (by decide) (br_f (by decide) (br_f (by decide) (br_f (by decide) (br_f (by decide) (br_f (by decide) (br_f (by decide) (br_f (by decide) (br_f (by decide) (br_f (by decide) (br_f (by decide) (br_f (by decide) (br_f (by decide) (br_f (by decide) (br_f (by decide) (br_f (by decide) (br_f (by decide) (br_t rfl (k179 1 (Or.inr ⟨rfl, hz⟩))))))))))))))))))))
theorem xo_31a {xst xow xin xpa xfi xfr xno xsi xan xkn xen xco xrm xac : Int32} {K N Z D Im W P vS pO pX pI fS fP fI fU fR fO fA fH fG fN aS qL qR qP : Nat → Int32} {xst' xow' xin' xpa' xfi' xfr' xno' xsi' xan' xkn' xen' xco' xrm' xac' : Int32} {K' N' Z' D' Im' W' P' vS' pO' pX' pI' fS' fP' fI' fU' fR' fO' fA' fH' fG' fN' aS' qL' qR' qP' : Nat → Int32} {post : SX → Prop} {g s κ : Nat} (eg : xno = nI g) (hg : g < 600) (ea : xan = nI s) (hs : s < 653) (eK : K s = nI κ) (hκ : κ ≤ 5) (he : κ < 2 ↔ True) (hA : ∀ Q : SX → Prop, Q (xst', xow', xin', xpa', xfi', xfr', xno', xsi', xan', xkn', xen', xco', xrm', xac', K', N', Z', D', Im', W', P', vS', pO', pX', pI', fS', fP', fI', fU', fR', fO', fA', fH', fG', fN', aS', qL', qR', qP') → wpX_apply Q (xst, xow, xin, xpa, xfi, xfr, xno, xsi, xan, xkn, xen, xco, xrm, xac, K, N, Z, D, Im, W, P, vS, pO, pX, pI, fS, fP, fI, fU, fR, fO, fA, fH, fG, fN, aS, qL, qR, qP) (nI 1) (fI g)) (hp : post (xst', xow', xin', xpa', xfi', xfr', xno', xsi', xan', xkn', xen', xco', xrm', xac', K', N', Z', D', Im', W', P', vS', pO', pX', pI', fS', fP', fI', fU', fR', fO', fA', fH', fG', fN', aS', qL', qR', qP')) : wpX_answerOfA post (xst, xow, xin, xpa, xfi, xfr, xno, xsi, xan, xkn, xen, xco, xrm, xac, K, N, Z, D, Im, W, P, vS, pO, pX, pI, fS, fP, fI, fU, fR, fO, fA, fH, fG, fN, aS, qL, qR, qP) (nI 31) := by
  have eg' : xno.toNatClampNeg = g := by rw [eg, nI_clamp (by omega)]
  have hin : vp_in xno 600 := by rw [eg]; exact vp_in_nI hg (by omega)
  have k179 : ∀ r : Int32, (r = 0 ∧ 2 ≤ κ ∨ r = 1 ∧ κ < 2) → wX_answerOfA_179 post (nI 31) r xst xow xin xpa xfi xfr xno xsi xan xkn xen xco xrm xac K N Z D Im W P vS pO pX pI fS fP fI fU fR fO fA fH fG fN aS qL qR qP := by
    intro r hr
    unfold wX_answerOfA_179
    refine br_f (by decide) ?_
    unfold wX_answerOfA_191
    rw [eg']
    rcases hr with ⟨rfl, z⟩ | ⟨rfl, z⟩
    · exact absurd (he.mpr trivial) (by omega)
    · exact br_f (by decide) ⟨hin, hA _ hp⟩
  unfold wpX_answerOfA
  dsimp only
  rw [eg']
  exact xo_pre (post := post) (x := 0) ea hs eK hκ (fun hz => br_f (by decide) (br_f (by decide) (br_f (by decide) (br_f (by decide) (br_f (by decide) (br_f (by decide) (br_f (by decide) (br_f (by decide) (br_f (by decide) (br_f (by decide) (br_f (by decide) (br_f (by decide) (br_f (by decide) (br_f (by decide) (br_f (by decide) (br_f (by decide) (br_f (by decide) (br_t rfl (k179 0 (Or.inl ⟨rfl, hz⟩)))))))))))))))))))) (fun hz => br_f (by decide) (br_f (by decide) (br_f (by decide) (br_f (by decide) (br_f (by decide) (br_f (by decide) (br_f (by decide) (br_f (by decide) (br_f (by decide) (br_f (by decide) (br_f (by decide) (br_f (by decide) (br_f (by decide) (br_f (by decide) (br_f (by decide) (br_f (by decide) (br_f (by decide) (br_t rfl (k179 1 (Or.inr ⟨rfl, hz⟩))))))))))))))))))))
theorem xo_32 {xst xow xin xpa xfi xfr xno xsi xan xkn xen xco xrm xac : Int32} {K N Z D Im W P vS pO pX pI fS fP fI fU fR fO fA fH fG fN aS qL qR qP : Nat → Int32} {post : SX → Prop} {g s κ : Nat} (eg : xno = nI g) (hg : g < 600) (ea : xan = nI s) (hs : s < 653) (eK : K s = nI κ) (hκ : κ ≤ 5) {gv : Nat} (eG : fG g = nI gv) (h1 : 2 ≤ κ → post (xst, xow, xin, xpa, xfi, xfr, xno, 1, xan, xkn, xen, xco, xrm, xac, K, N, Z, D, Im, W, P, vS, pO, pX, pI, fS, fP, fI, fU, fR, fO, fA, fH, (upd fG g (nI (gv + 1))), fN, aS, qL, qR, qP)) (h0 : κ < 2 → post (xst, xow, xin, xpa, xfi, xfr, xno, 0, xan, xkn, xen, xco, xrm, xac, K, N, Z, D, Im, W, P, vS, pO, pX, pI, fS, fP, fI, fU, fR, fO, fA, fH, (upd fG g (nI gv)), fN, aS, qL, qR, qP)) : wpX_answerOfA post (xst, xow, xin, xpa, xfi, xfr, xno, xsi, xan, xkn, xen, xco, xrm, xac, K, N, Z, D, Im, W, P, vS, pO, pX, pI, fS, fP, fI, fU, fR, fO, fA, fH, fG, fN, aS, qL, qR, qP) (nI 32) := by
  have eg' : xno.toNatClampNeg = g := by rw [eg, nI_clamp (by omega)]
  have hin : vp_in xno 600 := by rw [eg]; exact vp_in_nI hg (by omega)
  have k238a : 2 ≤ κ → wX_answerOfA_238 post 0 1 (fG g) xno xst xow xin xpa xfi xfr xno xsi xan xkn xen xco xrm xac K N Z D Im W P vS pO pX pI fS fP fI fU fR fO fA fH fG fN aS qL qR qP := by
    intro z
    unfold wX_answerOfA_238
    rw [eg', eG, nI_1]
    exact ⟨hin, nm_e (br_t rfl (h1 z))⟩
  have k238b : κ < 2 → wX_answerOfA_238 post 1 0 (fG g) xno xst xow xin xpa xfi xfr xno xsi xan xkn xen xco xrm xac K N Z D Im W P vS pO pX pI fS fP fI fU fR fO fA fH fG fN aS qL qR qP := by
    intro z
    unfold wX_answerOfA_238
    rw [eg', eG, show nI gv + 0 = nI gv from nI_add gv 0]
    exact ⟨hin, nm_e (br_f (by decide) (h0 z))⟩
  unfold wpX_answerOfA
  dsimp only
  rw [eg']
  exact xo_pre (post := post) (x := 0) ea hs eK hκ (fun hz => br_f (by decide) (br_f (by decide) (br_f (by decide) (br_f (by decide) (br_f (by decide) (br_f (by decide) (br_f (by decide) (br_f (by decide) (br_f (by decide) (br_f (by decide) (br_f (by decide) (br_f (by decide) (br_f (by decide) (br_f (by decide) (br_f (by decide) (br_f (by decide) (br_f (by decide) (br_f (by decide) (br_t rfl (⟨hin, br_t rfl (k238a hz)⟩)))))))))))))))))))) (fun hz => br_f (by decide) (br_f (by decide) (br_f (by decide) (br_f (by decide) (br_f (by decide) (br_f (by decide) (br_f (by decide) (br_f (by decide) (br_f (by decide) (br_f (by decide) (br_f (by decide) (br_f (by decide) (br_f (by decide) (br_f (by decide) (br_f (by decide) (br_f (by decide) (br_f (by decide) (br_f (by decide) (br_t rfl (⟨hin, br_f (by decide) (k238b hz)⟩))))))))))))))))))))
theorem xo_bind {xst xow xin xpa xfi xfr xno xsi xan xkn xen xco xrm xac : Int32} {K N Z D Im W P vS pO pX pI fS fP fI fU fR fO fA fH fG fN aS qL qR qP : Nat → Int32} {post : SX → Prop} {g q x : Nat} (eg : xno = nI g) (hg : g < 600) (eP : fP g = nI q) (hq : q < 40) (eX : pX q = nI x) (hx : x < 3) (hp : post (xst, xow, xin, xpa, xfi, xfr, xno, xsi, xan, xkn, xen, xco, xrm, xac, K, N, Z, D, Im, W, P, vS, pO, pX, pI, fS, fP, fI, fU, fR, fO, fA, fH, fG, (upd fN (g * 3 + x) xan), aS, qL, qR, qP)) : wpX_bindName post (xst, xow, xin, xpa, xfi, xfr, xno, xsi, xan, xkn, xen, xco, xrm, xac, K, N, Z, D, Im, W, P, vS, pO, pX, pI, fS, fP, fI, fU, fR, fO, fA, fH, fG, fN, aS, qL, qR, qP) := by
  subst eg
  have eg' : (nI g).toNatClampNeg = g := nI_clamp (by omega)
  have hin : vp_in (nI g) 600 := vp_in_nI hg (by omega)
  unfold wpX_bindName
  dsimp only
  rw [eg', eP, nI_clamp (show q < 2 ^ 31 by omega), eX, xi_3, nI_clamp (show g * 3 + x < 2 ^ 31 by omega)]
  exact ⟨hin, vp_in_nI hq (by omega), vp_in_nI (by omega) (by omega), nm_e hp⟩
theorem xo_33 {xst xow xin xpa xfi xfr xno xsi xan xkn xen xco xrm xac : Int32} {K N Z D Im W P vS pO pX pI fS fP fI fU fR fO fA fH fG fN aS qL qR qP : Nat → Int32} {xst' xow' xin' xpa' xfi' xfr' xno' xsi' xan' xkn' xen' xco' xrm' xac' : Int32} {K' N' Z' D' Im' W' P' vS' pO' pX' pI' fS' fP' fI' fU' fR' fO' fA' fH' fG' fN' aS' qL' qR' qP' : Nat → Int32} {post : SX → Prop} {g s κ : Nat} (eg : xno = nI g) (hg : g < 600) (ea : xan = nI s) (hs : s < 653) (eK : K s = nI κ) (hκ : κ ≤ 5) {q x : Nat} (eP : fP g = nI q) (hq : q < 40) (eX : pX q = nI x) (hx3 : x < 3) (hA : ∀ Q : SX → Prop, Q (xst', xow', xin', xpa', xfi', xfr', xno', xsi', xan', xkn', xen', xco', xrm', xac', K', N', Z', D', Im', W', P', vS', pO', pX', pI', fS', fP', fI', fU', fR', fO', fA', fH', fG', fN', aS', qL', qR', qP') → wpX_apply Q (xst, xow, xin, xpa, xfi, xfr, xno, xsi, xan, xkn, xen, xco, xrm, xac, K, N, Z, D, Im, W, P, vS, pO, pX, pI, fS, fP, fI, fU, fR, fO, fA, fH, fG, (upd fN (g * 3 + x) xan), aS, qL, qR, qP) (nI 1) (fI g)) (hp : post (xst', xow', xin', xpa', xfi', xfr', xno', xsi', xan', xkn', xen', xco', xrm', xac', K', N', Z', D', Im', W', P', vS', pO', pX', pI', fS', fP', fI', fU', fR', fO', fA', fH', fG', fN', aS', qL', qR', qP')) : wpX_answerOfA post (xst, xow, xin, xpa, xfi, xfr, xno, xsi, xan, xkn, xen, xco, xrm, xac, K, N, Z, D, Im, W, P, vS, pO, pX, pI, fS, fP, fI, fU, fR, fO, fA, fH, fG, fN, aS, qL, qR, qP) (nI 33) := by
  have eg' : xno.toNatClampNeg = g := by rw [eg, nI_clamp (by omega)]
  have hin : vp_in xno 600 := by rw [eg]; exact vp_in_nI hg (by omega)
  unfold wpX_answerOfA
  dsimp only
  rw [eg']
  exact xo_pre (post := post) (x := 0) ea hs eK hκ (fun hz => br_f (by decide) (br_f (by decide) (br_f (by decide) (br_f (by decide) (br_f (by decide) (br_f (by decide) (br_f (by decide) (br_f (by decide) (br_f (by decide) (br_f (by decide) (br_f (by decide) (br_f (by decide) (br_f (by decide) (br_f (by decide) (br_f (by decide) (br_f (by decide) (br_f (by decide) (br_f (by decide) (br_f (by decide) (br_t rfl (xo_bind eg hg eP hq eX hx3 ⟨hin, by rw [eg']; exact hA _ hp⟩))))))))))))))))))))) (fun hz => br_f (by decide) (br_f (by decide) (br_f (by decide) (br_f (by decide) (br_f (by decide) (br_f (by decide) (br_f (by decide) (br_f (by decide) (br_f (by decide) (br_f (by decide) (br_f (by decide) (br_f (by decide) (br_f (by decide) (br_f (by decide) (br_f (by decide) (br_f (by decide) (br_f (by decide) (br_f (by decide) (br_f (by decide) (br_t rfl (xo_bind eg hg eP hq eX hx3 ⟨hin, by rw [eg']; exact hA _ hp⟩)))))))))))))))))))))
theorem xo_34 {xst xow xin xpa xfi xfr xno xsi xan xkn xen xco xrm xac : Int32} {K N Z D Im W P vS pO pX pI fS fP fI fU fR fO fA fH fG fN aS qL qR qP : Nat → Int32} {xst' xow' xin' xpa' xfi' xfr' xno' xsi' xan' xkn' xen' xco' xrm' xac' : Int32} {K' N' Z' D' Im' W' P' vS' pO' pX' pI' fS' fP' fI' fU' fR' fO' fA' fH' fG' fN' aS' qL' qR' qP' : Nat → Int32} {post : SX → Prop} {g s κ : Nat} (eg : xno = nI g) (hg : g < 600) (ea : xan = nI s) (hs : s < 653) (eK : K s = nI κ) (hκ : κ ≤ 5) {r : Nat} (hr : (2 ≤ κ → r = 1) ∧ (κ < 2 → r = 2)) (hA : ∀ Q : SX → Prop, Q (xst', xow', xin', xpa', xfi', xfr', xno', xsi', xan', xkn', xen', xco', xrm', xac', K', N', Z', D', Im', W', P', vS', pO', pX', pI', fS', fP', fI', fU', fR', fO', fA', fH', fG', fN', aS', qL', qR', qP') → wpX_apply Q (xst, xow, xin, xpa, xfi, xfr, xno, xsi, xan, xkn, xen, xco, xrm, xac, K, N, Z, D, Im, W, P, vS, pO, pX, pI, fS, fP, fI, fU, fR, fO, fA, fH, fG, fN, aS, qL, qR, qP) (nI r) (fI g)) (hp : post (xst', xow', xin', xpa', xfi', xfr', xno', xsi', xan', xkn', xen', xco', xrm', xac', K', N', Z', D', Im', W', P', vS', pO', pX', pI', fS', fP', fI', fU', fR', fO', fA', fH', fG', fN', aS', qL', qR', qP')) : wpX_answerOfA post (xst, xow, xin, xpa, xfi, xfr, xno, xsi, xan, xkn, xen, xco, xrm, xac, K, N, Z, D, Im, W, P, vS, pO, pX, pI, fS, fP, fI, fU, fR, fO, fA, fH, fG, fN, aS, qL, qR, qP) (nI 34) := by
  have eg' : xno.toNatClampNeg = g := by rw [eg, nI_clamp (by omega)]
  have hin : vp_in xno 600 := by rw [eg]; exact vp_in_nI hg (by omega)
  have k287 : ∀ j : Nat, j = r → wX_answerOfA_287 post (nI j) xst xow xin xpa xfi xfr xno xsi xan xkn xen xco xrm xac K N Z D Im W P vS pO pX pI fS fP fI fU fR fO fA fH fG fN aS qL qR qP := by
    intro j hj
    subst hj
    unfold wX_answerOfA_287
    rw [eg']
    exact ⟨hin, hA _ hp⟩
  unfold wpX_answerOfA
  dsimp only
  rw [eg']
  exact xo_pre (post := post) (x := 0) ea hs eK hκ (fun hz => br_f (by decide) (br_f (by decide) (br_f (by decide) (br_f (by decide) (br_f (by decide) (br_f (by decide) (br_f (by decide) (br_f (by decide) (br_f (by decide) (br_f (by decide) (br_f (by decide) (br_f (by decide) (br_f (by decide) (br_f (by decide) (br_f (by decide) (br_f (by decide) (br_f (by decide) (br_f (by decide) (br_f (by decide) (br_f (by decide) (br_t rfl (br_t rfl (k287 1 (hr.1 hz).symm))))))))))))))))))))))) (fun hz => br_f (by decide) (br_f (by decide) (br_f (by decide) (br_f (by decide) (br_f (by decide) (br_f (by decide) (br_f (by decide) (br_f (by decide) (br_f (by decide) (br_f (by decide) (br_f (by decide) (br_f (by decide) (br_f (by decide) (br_f (by decide) (br_f (by decide) (br_f (by decide) (br_f (by decide) (br_f (by decide) (br_f (by decide) (br_f (by decide) (br_t rfl (br_f (by decide) (k287 2 (hr.2 hz).symm)))))))))))))))))))))))
theorem xo_35 {xst xow xin xpa xfi xfr xno xsi xan xkn xen xco xrm xac : Int32} {K N Z D Im W P vS pO pX pI fS fP fI fU fR fO fA fH fG fN aS qL qR qP : Nat → Int32} {xst' xow' xin' xpa' xfi' xfr' xno' xsi' xan' xkn' xen' xco' xrm' xac' : Int32} {K' N' Z' D' Im' W' P' vS' pO' pX' pI' fS' fP' fI' fU' fR' fO' fA' fH' fG' fN' aS' qL' qR' qP' : Nat → Int32} {post : SX → Prop} {g s κ : Nat} (eg : xno = nI g) (hg : g < 600) (ea : xan = nI s) (hs : s < 653) (eK : K s = nI κ) (hκ : κ ≤ 5) {q x : Nat} (eP : fP g = nI q) (hq : q < 40) (eX : pX q = nI x) (hx3 : x < 3) (hA : ∀ Q : SX → Prop, Q (xst', xow', xin', xpa', xfi', xfr', xno', xsi', xan', xkn', xen', xco', xrm', xac', K', N', Z', D', Im', W', P', vS', pO', pX', pI', fS', fP', fI', fU', fR', fO', fA', fH', fG', fN', aS', qL', qR', qP') → wpX_apply Q (xst, xow, xin, xpa, xfi, xfr, xno, xsi, xan, xkn, xen, xco, xrm, xac, K, N, Z, D, Im, W, P, vS, pO, pX, pI, fS, fP, fI, fU, fR, fO, fA, (upd fH g 0), fG, (upd fN (g * 3 + x) xan), aS, qL, qR, qP) (nI 2) (fH g)) (hp : post (xst', xow', xin', xpa', xfi', xfr', xno', xsi', xan', xkn', xen', xco', xrm', xac', K', N', Z', D', Im', W', P', vS', pO', pX', pI', fS', fP', fI', fU', fR', fO', fA', fH', fG', fN', aS', qL', qR', qP')) : wpX_answerOfA post (xst, xow, xin, xpa, xfi, xfr, xno, xsi, xan, xkn, xen, xco, xrm, xac, K, N, Z, D, Im, W, P, vS, pO, pX, pI, fS, fP, fI, fU, fR, fO, fA, fH, fG, fN, aS, qL, qR, qP) (nI 35) := by
  have eg' : xno.toNatClampNeg = g := by rw [eg, nI_clamp (by omega)]
  have hin : vp_in xno 600 := by rw [eg]; exact vp_in_nI hg (by omega)
  unfold wpX_answerOfA
  dsimp only
  rw [eg']
  exact xo_pre (post := post) (x := 0) ea hs eK hκ (fun hz => br_f (by decide) (br_f (by decide) (br_f (by decide) (br_f (by decide) (br_f (by decide) (br_f (by decide) (br_f (by decide) (br_f (by decide) (br_f (by decide) (br_f (by decide) (br_f (by decide) (br_f (by decide) (br_f (by decide) (br_f (by decide) (br_f (by decide) (br_f (by decide) (br_f (by decide) (br_f (by decide) (br_f (by decide) (br_f (by decide) (br_f (by decide) (br_t rfl (⟨hin, nm_e ⟨hin, nm_e (xo_bind eg hg eP hq eX hx3 (hA _ hp))⟩⟩))))))))))))))))))))))) (fun hz => br_f (by decide) (br_f (by decide) (br_f (by decide) (br_f (by decide) (br_f (by decide) (br_f (by decide) (br_f (by decide) (br_f (by decide) (br_f (by decide) (br_f (by decide) (br_f (by decide) (br_f (by decide) (br_f (by decide) (br_f (by decide) (br_f (by decide) (br_f (by decide) (br_f (by decide) (br_f (by decide) (br_f (by decide) (br_f (by decide) (br_f (by decide) (br_t rfl (⟨hin, nm_e ⟨hin, nm_e (xo_bind eg hg eP hq eX hx3 (hA _ hp))⟩⟩)))))))))))))))))))))))
theorem xo_16 {xst xow xin xpa xfi xfr xno xsi xan xkn xen xco xrm xac : Int32} {K N Z D Im W P vS pO pX pI fS fP fI fU fR fO fA fH fG fN aS qL qR qP : Nat → Int32} {post : SX → Prop} {g s κ : Nat} (eg : xno = nI g) (hg : g < 600) (ea : xan = nI s) (hs : s < 653) (eK : K s = nI κ) (hκ : κ ≤ 5) {h z e : Nat} (eH : fH g = nI h) (hh : h < 653) (eZ : Z h = nI z) (hz10 : z ≤ 10) (eD : D s = nI e) (he4 : e ≤ 4) (h3 : (10 ≤ z ∨ 4 ≤ e) → post (xst, xow, xin, xpa, xfi, xfr, xno, 3, xan, xkn, xen, xco, xrm, xac, K, N, Z, D, Im, W, P, vS, pO, pX, pI, fS, fP, fI, fU, fR, fO, fA, fH, fG, fN, aS, qL, qR, qP)) (h0 : z < 10 → e < 4 → post (xst, xow, xin, xpa, xfi, xfr, xno, 0, xan, xkn, xen, xco, xrm, xac, K, N, (upd Z h (nI (z + 1))), D, Im, W, (upd P (h * 10 + z) xan), vS, pO, pX, pI, fS, fP, fI, fU, fR, fO, fA, fH, fG, fN, aS, qL, qR, qP)) : wpX_answerOfA post (xst, xow, xin, xpa, xfi, xfr, xno, xsi, xan, xkn, xen, xco, xrm, xac, K, N, Z, D, Im, W, P, vS, pO, pX, pI, fS, fP, fI, fU, fR, fO, fA, fH, fG, fN, aS, qL, qR, qP) (nI 16) := by
  have eg' : xno.toNatClampNeg = g := by rw [eg, nI_clamp (by omega)]
  have hin : vp_in xno 600 := by rw [eg]; exact vp_in_nI hg (by omega)
  have kco : ∀ Q : SX → Prop, ((10 ≤ z ∨ 4 ≤ e) → Q (xst, xow, xin, xpa, xfi, xfr, xno, 3, xan, xkn, xen, xco, xrm, xac, K, N, Z, D, Im, W, P, vS, pO, pX, pI, fS, fP, fI, fU, fR, fO, fA, fH, fG, fN, aS, qL, qR, qP)) → (z < 10 → e < 4 → Q (xst, xow, xin, xpa, xfi, xfr, xno, 0, xan, xkn, xen, xco, xrm, xac, K, N, (upd Z h (nI (z + 1))), D, Im, W, (upd P (h * 10 + z) xan), vS, pO, pX, pI, fS, fP, fI, fU, fR, fO, fA, fH, fG, fN, aS, qL, qR, qP)) → wpX_collect Q (xst, xow, xin, xpa, xfi, xfr, xno, xsi, xan, xkn, xen, xco, xrm, xac, K, N, Z, D, Im, W, P, vS, pO, pX, pI, fS, fP, fI, fU, fR, fO, fA, fH, fG, fN, aS, qL, qR, qP) := by
    intro Q q3 q0
    unfold wpX_collect
    dsimp only
    rw [eg', eH]
    refine ⟨hin, nm_e ⟨vp_in_nI hh (by omega), ?_⟩⟩
    rw [nI_clamp (show h < 2 ^ 31 by omega), eZ, ea, nI_clamp (show s < 2 ^ 31 by omega), eD]
    rw [ea] at q3 q0
    refine pk_le 10 z (fun w => q3 (Or.inl w)) (fun w => ⟨vp_in_nI hs (by omega), pk_lt e 4 (fun w' => ?_) (fun w' => q3 (Or.inr w'))⟩)
    exact xm_addTo hh eZ w (q0 w w')
  unfold wpX_answerOfA
  dsimp only
  rw [eg']
  exact xo_pre (post := post) (x := 0) ea hs eK hκ (fun hz => br_f (by decide) (br_f (by decide) (br_t rfl (kco _ h3 h0)))) (fun hz => br_f (by decide) (br_f (by decide) (br_t rfl (kco _ h3 h0))))
