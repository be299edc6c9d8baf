/-! ===== X: leaves ===== -/
theorem xl_0 {xst xow xin xpa xfi xfr xno xsi xan xkn xen xco xrm xac : Int32} {K N Z D Im W P vS pO pX pI fS fP fI fU fR fO fA fH fG fN aS qL qR qP : Nat → Int32} {post : SX → Prop} {g q s : Nat} (eg : xno = nI g) (hg : g < 600) (eP : fP g = nI q) (hq : q < 40) (eO : pO q = nI 0) (eI : fI g = nI s) (hs : s < 653) (hp : post (xst, xow, xin, xpa, xfi, xfr, xno, 1, (nI s), xkn, xen, xco, xrm, xac, K, N, Z, D, Im, W, P, vS, pO, pX, pI, fS, fP, fI, fU, fR, fO, fA, fH, fG, fN, aS, qL, qR, qP)) : wpX_answerLeaf post (xst, xow, xin, xpa, xfi, xfr, xno, xsi, xan, xkn, xen, xco, xrm, xac, K, N, Z, D, Im, W, P, vS, pO, pX, pI, fS, fP, fI, fU, fR, fO, fA, fH, fG, fN, aS, qL, qR, qP) := by
  have eg' : xno.toNatClampNeg = g := by rw [eg, nI_clamp (by omega)]
  have hin : vp_in xno 600 := by rw [eg]; exact vp_in_nI hg (by omega)
  have hiq : vp_in (nI q) 40 := vp_in_nI hq (by omega)
  have his : vp_in (nI s) 653 := vp_in_nI hs (by omega)
  have es : (nI s).toNatClampNeg = s := nI_clamp (by omega)
  unfold wpX_answerLeaf
  dsimp only
  rw [eg', eP, nI_clamp (show q < 2 ^ 31 by omega), eO, eI]
  exact ⟨hin, hiq, nm_e ⟨hin, nm_e ⟨hin, hiq, nm_e (br_f (by decide) (br_f (by decide) (br_t rfl (xr_give hp))))⟩⟩⟩
theorem xl_1 {xst xow xin xpa xfi xfr xno xsi xan xkn xen xco xrm xac : Int32} {K N Z D Im W P vS pO pX pI fS fP fI fU fR fO fA fH fG fN aS qL qR qP : Nat → Int32} {post : SX → Prop} {g q s : Nat} (eg : xno = nI g) (hg : g < 600) (eP : fP g = nI q) (hq : q < 40) (eO : pO q = nI 1) (eI : fI g = nI s) (hs : s < 653) (hp : post (xst, xow, xin, xpa, xfi, xfr, xno, 1, (nI 0), xkn, xen, xco, xrm, xac, K, N, Z, D, Im, W, P, vS, pO, pX, pI, fS, fP, fI, fU, fR, fO, fA, fH, fG, fN, aS, qL, qR, qP)) : wpX_answerLeaf post (xst, xow, xin, xpa, xfi, xfr, xno, xsi, xan, xkn, xen, xco, xrm, xac, K, N, Z, D, Im, W, P, vS, pO, pX, pI, fS, fP, fI, fU, fR, fO, fA, fH, fG, fN, aS, qL, qR, qP) := by
  have eg' : xno.toNatClampNeg = g := by rw [eg, nI_clamp (by omega)]
  have hin : vp_in xno 600 := by rw [eg]; exact vp_in_nI hg (by omega)
  have hiq : vp_in (nI q) 40 := vp_in_nI hq (by omega)
  have his : vp_in (nI s) 653 := vp_in_nI hs (by omega)
  have es : (nI s).toNatClampNeg = s := nI_clamp (by omega)
  have k124 : wX_answerLeaf_124 post (nI 1) xst xow xin xpa xfi xfr xno xsi xan xkn xen xco xrm xac K N Z D Im W P vS pO pX pI fS fP fI fU fR fO fA fH fG fN aS qL qR qP := by
    unfold wX_answerLeaf_124
    rw [nI_pred]
    exact xr_give hp
  unfold wpX_answerLeaf
  dsimp only
  rw [eg', eP, nI_clamp (show q < 2 ^ 31 by omega), eO, eI]
  exact ⟨hin, hiq, nm_e ⟨hin, nm_e ⟨hin, hiq, nm_e (br_f (by decide) (br_f (by decide) (br_f (by decide) (br_t rfl (k124)))))⟩⟩⟩
theorem xl_2 {xst xow xin xpa xfi xfr xno xsi xan xkn xen xco xrm xac : Int32} {K N Z D Im W P vS pO pX pI fS fP fI fU fR fO fA fH fG fN aS qL qR qP : Nat → Int32} {post : SX → Prop} {g q s : Nat} (eg : xno = nI g) (hg : g < 600) (eP : fP g = nI q) (hq : q < 40) (eO : pO q = nI 2) (eI : fI g = nI s) (hs : s < 653) (hp : post (xst, xow, xin, xpa, xfi, xfr, xno, 1, (nI 1), xkn, xen, xco, xrm, xac, K, N, Z, D, Im, W, P, vS, pO, pX, pI, fS, fP, fI, fU, fR, fO, fA, fH, fG, fN, aS, qL, qR, qP)) : wpX_answerLeaf post (xst, xow, xin, xpa, xfi, xfr, xno, xsi, xan, xkn, xen, xco, xrm, xac, K, N, Z, D, Im, W, P, vS, pO, pX, pI, fS, fP, fI, fU, fR, fO, fA, fH, fG, fN, aS, qL, qR, qP) := by
  have eg' : xno.toNatClampNeg = g := by rw [eg, nI_clamp (by omega)]
  have hin : vp_in xno 600 := by rw [eg]; exact vp_in_nI hg (by omega)
  have hiq : vp_in (nI q) 40 := vp_in_nI hq (by omega)
  have his : vp_in (nI s) 653 := vp_in_nI hs (by omega)
  have es : (nI s).toNatClampNeg = s := nI_clamp (by omega)
  have k124 : wX_answerLeaf_124 post (nI 2) xst xow xin xpa xfi xfr xno xsi xan xkn xen xco xrm xac K N Z D Im W P vS pO pX pI fS fP fI fU fR fO fA fH fG fN aS qL qR qP := by
    unfold wX_answerLeaf_124
    rw [nI_pred]
    exact xr_give hp
  unfold wpX_answerLeaf
  dsimp only
  rw [eg', eP, nI_clamp (show q < 2 ^ 31 by omega), eO, eI]
  exact ⟨hin, hiq, nm_e ⟨hin, nm_e ⟨hin, hiq, nm_e (br_f (by decide) (br_f (by decide) (br_f (by decide) (br_f (by decide) (br_t rfl (k124))))))⟩⟩⟩
theorem xl_3 {xst xow xin xpa xfi xfr xno xsi xan xkn xen xco xrm xac : Int32} {K N Z D Im W P vS pO pX pI fS fP fI fU fR fO fA fH fG fN aS qL qR qP : Nat → Int32} {post : SX → Prop} {g q s : Nat} (eg : xno = nI g) (hg : g < 600) (eP : fP g = nI q) (hq : q < 40) (eO : pO q = nI 3) (eI : fI g = nI s) (hs : s < 653) (hp : post (xst, xow, xin, xpa, xfi, xfr, xno, 1, (nI 2), xkn, xen, xco, xrm, xac, K, N, Z, D, Im, W, P, vS, pO, pX, pI, fS, fP, fI, fU, fR, fO, fA, fH, fG, fN, aS, qL, qR, qP)) : wpX_answerLeaf post (xst, xow, xin, xpa, xfi, xfr, xno, xsi, xan, xkn, xen, xco, xrm, xac, K, N, Z, D, Im, W, P, vS, pO, pX, pI, fS, fP, fI, fU, fR, fO, fA, fH, fG, fN, aS, qL, qR, qP) := by
  have eg' : xno.toNatClampNeg = g := by rw [eg, nI_clamp (by omega)]
  have hin : vp_in xno 600 := by rw [eg]; exact vp_in_nI hg (by omega)
  have hiq : vp_in (nI q) 40 := vp_in_nI hq (by omega)
  have his : vp_in (nI s) 653 := vp_in_nI hs (by omega)
  have es : (nI s).toNatClampNeg = s := nI_clamp (by omega)
  have k124 : wX_answerLeaf_124 post (nI 3) xst xow xin xpa xfi xfr xno xsi xan xkn xen xco xrm xac K N Z D Im W P vS pO pX pI fS fP fI fU fR fO fA fH fG fN aS qL qR qP := by
    unfold wX_answerLeaf_124
    rw [nI_pred]
    exact xr_give hp
  unfold wpX_answerLeaf
  dsimp only
  rw [eg', eP, nI_clamp (show q < 2 ^ 31 by omega), eO, eI]
  exact ⟨hin, hiq, nm_e ⟨hin, nm_e ⟨hin, hiq, nm_e (br_f (by decide) (br_f (by decide) (br_f (by decide) (br_f (by decide) (br_f (by decide) (br_t rfl (k124)))))))⟩⟩⟩
theorem xl_4 {xst xow xin xpa xfi xfr xno xsi xan xkn xen xco xrm xac : Int32} {K N Z D Im W P vS pO pX pI fS fP fI fU fR fO fA fH fG fN aS qL qR qP : Nat → Int32} {post : SX → Prop} {g q s : Nat} (eg : xno = nI g) (hg : g < 600) (eP : fP g = nI q) (hq : q < 40) (eO : pO q = nI 4) (eI : fI g = nI s) (hs : s < 653) {rm : Nat} (er : xrm = nI rm) (hrm : rm < 600) (hp : post (xst, xow, xin, xpa, xfi, xfr, xno, 1, (nI (53 + rm)), xkn, xen, xco, (nI (rm + 1)), xac, (upd K (53 + rm) 3), (upd N (53 + rm) (pX q)), (upd Z (53 + rm) 0), (upd D (53 + rm) 0), (upd Im (53 + rm) 1), (upd W (53 + rm) 1), P, vS, pO, pX, pI, fS, fP, fI, fU, fR, fO, fA, fH, fG, fN, aS, qL, qR, qP)) : wpX_answerLeaf post (xst, xow, xin, xpa, xfi, xfr, xno, xsi, xan, xkn, xen, xco, xrm, xac, K, N, Z, D, Im, W, P, vS, pO, pX, pI, fS, fP, fI, fU, fR, fO, fA, fH, fG, fN, aS, qL, qR, qP) := by
  have eg' : xno.toNatClampNeg = g := by rw [eg, nI_clamp (by omega)]
  have hin : vp_in xno 600 := by rw [eg]; exact vp_in_nI hg (by omega)
  have hiq : vp_in (nI q) 40 := vp_in_nI hq (by omega)
  have his : vp_in (nI s) 653 := vp_in_nI hs (by omega)
  have es : (nI s).toNatClampNeg = s := nI_clamp (by omega)
  unfold wpX_answerLeaf
  dsimp only
  rw [eg', eP, nI_clamp (show q < 2 ^ 31 by omega), eO, eI]
  exact ⟨hin, hiq, nm_e ⟨hin, nm_e ⟨hin, hiq, nm_e (br_f (by decide) (br_f (by decide) (br_f (by decide) (br_f (by decide) (br_f (by decide) (br_f (by decide) (br_t rfl (xr_giveNumber er hrm hp))))))))⟩⟩⟩
theorem xl_field {xst xow xin xpa xfi xfr xno xsi xan xkn xen xco xrm xac : Int32} {K N Z D Im W P vS pO pX pI fS fP fI fU fR fO fA fH fG fN aS qL qR qP : Nat → Int32} {post : SX → Prop} {s κ m x : Nat} (hs : s < 653) (eK : K s = nI κ) (hκ : κ ≤ 5) (hx : x < 8) (hN : κ = 5 → m < 256 ∧ N s = nI m)
    (h0 : κ = 0 ∨ (κ = 5 ∧ m / 2 ^ x % 2 = 0) → post (xst, xow, xin, xpa, xfi, xfr, xno, 1, 0, xkn, xen, xco, xrm, xac, K, N, Z, D, Im, W, P, vS, pO, pX, pI, fS, fP, fI, fU, fR, fO, fA, fH, fG, fN, aS, qL, qR, qP)) (h1 : κ = 5 → m / 2 ^ x % 2 = 1 → post (xst, xow, xin, xpa, xfi, xfr, xno, 1, (P (s * 10 + vv_pc m x)), xkn, xen, xco, xrm, xac, K, N, Z, D, Im, W, P, vS, pO, pX, pI, fS, fP, fI, fU, fR, fO, fA, fH, fG, fN, aS, qL, qR, qP)) (h3 : κ ≠ 0 → κ ≠ 5 → post (xst, xow, xin, xpa, xfi, xfr, xno, 3, xan, xkn, xen, xco, xrm, xac, K, N, Z, D, Im, W, P, vS, pO, pX, pI, fS, fP, fI, fU, fR, fO, fA, fH, fG, fN, aS, qL, qR, qP)) : wpX_giveField post (xst, xow, xin, xpa, xfi, xfr, xno, xsi, xan, xkn, xen, xco, xrm, xac, K, N, Z, D, Im, W, P, vS, pO, pX, pI, fS, fP, fI, fU, fR, fO, fA, fH, fG, fN, aS, qL, qR, qP) (nI s) (nI x) := by
  have his : vp_in (nI s) 653 := vp_in_nI hs (by omega)
  have es : (nI s).toNatClampNeg = s := nI_clamp (by omega)
  unfold wpX_giveField
  dsimp only
  rw [es, eK]
  refine ⟨his, pk_eq κ 5 (fun e => ?_) (fun n5 => ⟨his, pk_eq κ 0 (fun e => xr_give (h0 (Or.inl e))) (fun n0 => h3 n0 n5)⟩)⟩
  obtain ⟨m1, m2⟩ := hN e
  have hpc : vv_pc m x ≤ 8 := by
    have := vv_sm_le (f := fun i => m / 2 ^ i % 2) (b := 1) x (fun i _ => by show m / 2 ^ i % 2 ≤ 1; omega)
    unfold vv_pc
    omega
  unfold wpX_fieldOf
  dsimp only
  rw [es, m2, kb_bit (by omega) (by omega)]
  refine ⟨his, pk_eq (m / 2 ^ x % 2) 0 (fun z => xr_give (h0 (Or.inr ⟨e, z⟩))) (fun z => ⟨his, xm_keysBelow m1 (by omega) ?_⟩)⟩
  rw [xi_10, nI_clamp (show s * 10 + vv_pc m x < 2 ^ 31 by omega)]
  exact ⟨vp_in_nI (by omega) (by omega), xr_give (h1 e (by omega))⟩
theorem xl_index {xst xow xin xpa xfi xfr xno xsi xan xkn xen xco xrm xac : Int32} {K N Z D Im W P vS pO pX pI fS fP fI fU fR fO fA fH fG fN aS qL qR qP : Nat → Int32} {post : SX → Prop} {s κ z : Nat} {x y : Int32} (hs : s < 653) (eK : K s = nI κ) (hκ : κ ≤ 5) (eZ : Z s = nI z) (hz : z ≤ 10) (hy : (0 ≤ x → y = x) ∧ (¬ 0 ≤ x → y = nI z + x))
    (h0 : κ = 0 ∨ (κ = 4 ∧ (y < 0 ∨ nI z ≤ y)) → post (xst, xow, xin, xpa, xfi, xfr, xno, 1, 0, xkn, xen, xco, xrm, xac, K, N, Z, D, Im, W, P, vS, pO, pX, pI, fS, fP, fI, fU, fR, fO, fA, fH, fG, fN, aS, qL, qR, qP)) (h1 : κ = 4 → ∀ j, j < z → y = nI j → post (xst, xow, xin, xpa, xfi, xfr, xno, 1, (P (s * 10 + j)), xkn, xen, xco, xrm, xac, K, N, Z, D, Im, W, P, vS, pO, pX, pI, fS, fP, fI, fU, fR, fO, fA, fH, fG, fN, aS, qL, qR, qP)) (h3 : κ ≠ 0 → κ ≠ 4 → post (xst, xow, xin, xpa, xfi, xfr, xno, 3, xan, xkn, xen, xco, xrm, xac, K, N, Z, D, Im, W, P, vS, pO, pX, pI, fS, fP, fI, fU, fR, fO, fA, fH, fG, fN, aS, qL, qR, qP)) : wpX_giveIndex post (xst, xow, xin, xpa, xfi, xfr, xno, xsi, xan, xkn, xen, xco, xrm, xac, K, N, Z, D, Im, W, P, vS, pO, pX, pI, fS, fP, fI, fU, fR, fO, fA, fH, fG, fN, aS, qL, qR, qP) (nI s) x := by
  have his : vp_in (nI s) 653 := vp_in_nI hs (by omega)
  have es : (nI s).toNatClampNeg = s := nI_clamp (by omega)
  have k26 : κ = 4 → wX_giveIndex_26 post (nI s) y xst xow xin xpa xfi xfr xno xsi xan xkn xen xco xrm xac K N Z D Im W P vS pO pX pI fS fP fI fU fR fO fA fH fG fN aS qL qR qP := by
    intro e4
    unfold wX_giveIndex_26
    rw [es, eZ]
    have k45 : (y < 0 ∨ nI z ≤ y) → wX_giveIndex_45 post (nI s) y xst xow xin xpa xfi xfr xno xsi xan xkn xen xco xrm xac K N Z D Im W P vS pO pX pI fS fP fI fU fR fO fA fH fG fN aS qL qR qP := by
      intro w
      unfold wX_giveIndex_45 wX_giveIndex_46
      refine br_t rfl ?_
      unfold wX_giveIndex_69
      exact xr_give (h0 (Or.inr ⟨e4, w⟩))
    refine br_c (fun w => k45 (Or.inl w)) (fun n0 => ⟨his, br_c (fun w => k45 (Or.inr w)) (fun nz => ?_)⟩)
    rcases pk_ix y (n := z) (by omega) with w | w | ⟨j, j1, j2⟩
    · exact absurd w n0
    · exact absurd w nz
    · have hh := h1 e4 j j1 j2
      rw [j2]
      unfold wX_giveIndex_46
      rw [xi_10, nI_clamp (show s * 10 + j < 2 ^ 31 by omega)]
      refine br_f (by decide) ⟨vp_in_nI (by omega) (by omega), ?_⟩
      unfold wX_giveIndex_69
      exact xr_give hh
  unfold wpX_giveIndex
  dsimp only
  rw [es, eK, eZ]
  refine ⟨his, pk_eq κ 4 (fun e => br_c (fun w => ?_) (fun w => ⟨his, ?_⟩)) (fun n4 => ⟨his, pk_eq κ 0 (fun e => xr_give (h0 (Or.inl e))) (fun n0 => h3 n0 n4)⟩)⟩
  · have := k26 e
    rw [hy.1 w] at this
    exact this
  · have := k26 e
    rw [hy.2 w] at this
    exact this
theorem xl_size {xst xow xin xpa xfi xfr xno xsi xan xkn xen xco xrm xac : Int32} {K N Z D Im W P vS pO pX pI fS fP fI fU fR fO fA fH fG fN aS qL qR qP : Nat → Int32} {post : SX → Prop} {s κ rm : Nat} {y : Int32} (hs : s < 653) (eK : K s = nI κ) (hκ : κ ≤ 5) (er : xrm = nI rm) (hrm : rm < 600) (hy : (κ = 3 → (0 ≤ N s → y = N s) ∧ (¬ 0 ≤ N s → y = - N s)) ∧ (κ ≠ 3 → y = Z s))
    (h3 : κ = 1 ∨ κ = 2 → post (xst, xow, xin, xpa, xfi, xfr, xno, 3, xan, xkn, xen, xco, xrm, xac, K, N, Z, D, Im, W, P, vS, pO, pX, pI, fS, fP, fI, fU, fR, fO, fA, fH, fG, fN, aS, qL, qR, qP)) (h1 : κ ≠ 1 → κ ≠ 2 → post (xst, xow, xin, xpa, xfi, xfr, xno, 1, (nI (53 + rm)), xkn, xen, xco, (nI (rm + 1)), xac, (upd K (53 + rm) 3), (upd N (53 + rm) y), (upd Z (53 + rm) 0), (upd D (53 + rm) 0), (upd Im (53 + rm) 1), (upd W (53 + rm) 1), P, vS, pO, pX, pI, fS, fP, fI, fU, fR, fO, fA, fH, fG, fN, aS, qL, qR, qP)) : wpX_giveSize post (xst, xow, xin, xpa, xfi, xfr, xno, xsi, xan, xkn, xen, xco, xrm, xac, K, N, Z, D, Im, W, P, vS, pO, pX, pI, fS, fP, fI, fU, fR, fO, fA, fH, fG, fN, aS, qL, qR, qP) (nI s) := by
  have his : vp_in (nI s) 653 := vp_in_nI hs (by omega)
  have es : (nI s).toNatClampNeg = s := nI_clamp (by omega)
  unfold wpX_giveSize
  dsimp only
  rw [es, eK]
  refine ⟨his, nm_e (pk_eq κ 1 (fun e => h3 (Or.inl e)) (fun n1 => pk_eq κ 2 (fun e => h3 (Or.inr e)) (fun n2 => pk_eq κ 3 (fun e => ⟨his, nm_e (br_c (fun w => ?_) (fun w => ?_))⟩) (fun n3 => ⟨his, ?_⟩))))⟩
  · have hh := h1 n1 n2
    rw [(hy.1 e).1 w] at hh
    unfold wX_giveSize_48
    exact xr_giveNumber er hrm hh
  · have hh := h1 n1 n2
    rw [(hy.1 e).2 w] at hh
    unfold wX_giveSize_48
    exact xr_giveNumber er hrm hh
  · have hh := h1 n1 n2
    rw [hy.2 n3] at hh
    exact xr_giveNumber er hrm hh
theorem xl_5 {xst xow xin xpa xfi xfr xno xsi xan xkn xen xco xrm xac : Int32} {K N Z D Im W P vS pO pX pI fS fP fI fU fR fO fA fH fG fN aS qL qR qP : Nat → Int32} {post : SX → Prop} {g q s : Nat} (eg : xno = nI g) (hg : g < 600) (eP : fP g = nI q) (hq : q < 40) (eO : pO q = nI 5) (eI : fI g = nI s) (hs : s < 653) {κ m x : Nat} (eX : pX q = nI x) (eK : K s = nI κ) (hκ : κ ≤ 5) (hx : x < 8) (hN : κ = 5 → m < 256 ∧ N s = nI m) (h0 : κ = 0 ∨ (κ = 5 ∧ m / 2 ^ x % 2 = 0) → post (xst, xow, xin, xpa, xfi, xfr, xno, 1, 0, xkn, xen, xco, xrm, xac, K, N, Z, D, Im, W, P, vS, pO, pX, pI, fS, fP, fI, fU, fR, fO, fA, fH, fG, fN, aS, qL, qR, qP)) (h1 : κ = 5 → m / 2 ^ x % 2 = 1 → post (xst, xow, xin, xpa, xfi, xfr, xno, 1, (P (s * 10 + vv_pc m x)), xkn, xen, xco, xrm, xac, K, N, Z, D, Im, W, P, vS, pO, pX, pI, fS, fP, fI, fU, fR, fO, fA, fH, fG, fN, aS, qL, qR, qP)) (h3 : κ ≠ 0 → κ ≠ 5 → post (xst, xow, xin, xpa, xfi, xfr, xno, 3, xan, xkn, xen, xco, xrm, xac, K, N, Z, D, Im, W, P, vS, pO, pX, pI, fS, fP, fI, fU, fR, fO, fA, fH, fG, fN, aS, qL, qR, qP)) : wpX_answerLeaf post (xst, xow, xin, xpa, xfi, xfr, xno, xsi, xan, xkn, xen, xco, xrm, xac, K, N, Z, D, Im, W, P, vS, pO, pX, pI, fS, fP, fI, fU, fR, fO, fA, fH, fG, fN, aS, qL, qR, qP) := by
  have eg' : xno.toNatClampNeg = g := by rw [eg, nI_clamp (by omega)]
  have hin : vp_in xno 600 := by rw [eg]; exact vp_in_nI hg (by omega)
  have hiq : vp_in (nI q) 40 := vp_in_nI hq (by omega)
  have his : vp_in (nI s) 653 := vp_in_nI hs (by omega)
  have es : (nI s).toNatClampNeg = s := nI_clamp (by omega)
  unfold wpX_answerLeaf
  dsimp only
  rw [eg', eP, nI_clamp (show q < 2 ^ 31 by omega), eO, eI]
  exact ⟨hin, hiq, nm_e ⟨hin, nm_e ⟨hin, hiq, nm_e (br_f (by decide) (br_f (by decide) (br_f (by decide) (br_f (by decide) (br_f (by decide) (br_f (by decide) (br_f (by decide) (br_t rfl (by rw [eX]; exact xl_field (m := m) hs eK hκ hx hN h0 h1 h3)))))))))⟩⟩⟩
theorem xl_6 {xst xow xin xpa xfi xfr xno xsi xan xkn xen xco xrm xac : Int32} {K N Z D Im W P vS pO pX pI fS fP fI fU fR fO fA fH fG fN aS qL qR qP : Nat → Int32} {post : SX → Prop} {g q s : Nat} (eg : xno = nI g) (hg : g < 600) (eP : fP g = nI q) (hq : q < 40) (eO : pO q = nI 6) (eI : fI g = nI s) (hs : s < 653) {κ z : Nat} {y : Int32} (eK : K s = nI κ) (hκ : κ ≤ 5) (eZ : Z s = nI z) (hz : z ≤ 10) (hy : (0 ≤ pX q → y = pX q) ∧ (¬ 0 ≤ pX q → y = nI z + pX q)) (h0 : κ = 0 ∨ (κ = 4 ∧ (y < 0 ∨ nI z ≤ y)) → post (xst, xow, xin, xpa, xfi, xfr, xno, 1, 0, xkn, xen, xco, xrm, xac, K, N, Z, D, Im, W, P, vS, pO, pX, pI, fS, fP, fI, fU, fR, fO, fA, fH, fG, fN, aS, qL, qR, qP)) (h1 : κ = 4 → ∀ j, j < z → y = nI j → post (xst, xow, xin, xpa, xfi, xfr, xno, 1, (P (s * 10 + j)), xkn, xen, xco, xrm, xac, K, N, Z, D, Im, W, P, vS, pO, pX, pI, fS, fP, fI, fU, fR, fO, fA, fH, fG, fN, aS, qL, qR, qP)) (h3 : κ ≠ 0 → κ ≠ 4 → post (xst, xow, xin, xpa, xfi, xfr, xno, 3, xan, xkn, xen, xco, xrm, xac, K, N, Z, D, Im, W, P, vS, pO, pX, pI, fS, fP, fI, fU, fR, fO, fA, fH, fG, fN, aS, qL, qR, qP)) : wpX_answerLeaf post (xst, xow, xin, xpa, xfi, xfr, xno, xsi, xan, xkn, xen, xco, xrm, xac, K, N, Z, D, Im, W, P, vS, pO, pX, pI, fS, fP, fI, fU, fR, fO, fA, fH, fG, fN, aS, qL, qR, qP) := by
  have eg' : xno.toNatClampNeg = g := by rw [eg, nI_clamp (by omega)]
  have hin : vp_in xno 600 := by rw [eg]; exact vp_in_nI hg (by omega)
  have hiq : vp_in (nI q) 40 := vp_in_nI hq (by omega)
  have his : vp_in (nI s) 653 := vp_in_nI hs (by omega)
  have es : (nI s).toNatClampNeg = s := nI_clamp (by omega)
  unfold wpX_answerLeaf
  dsimp only
  rw [eg', eP, nI_clamp (show q < 2 ^ 31 by omega), eO, eI]
  exact ⟨hin, hiq, nm_e ⟨hin, nm_e ⟨hin, hiq, nm_e (br_f (by decide) (br_f (by decide) (br_f (by decide) (br_f (by decide) (br_f (by decide) (br_f (by decide) (br_f (by decide) (br_f (by decide) (br_t rfl (xl_index hs eK hκ eZ hz hy h0 h1 h3))))))))))⟩⟩⟩
theorem xl_8 {xst xow xin xpa xfi xfr xno xsi xan xkn xen xco xrm xac : Int32} {K N Z D Im W P vS pO pX pI fS fP fI fU fR fO fA fH fG fN aS qL qR qP : Nat → Int32} {post : SX → Prop} {g q s : Nat} (eg : xno = nI g) (hg : g < 600) (eP : fP g = nI q) (hq : q < 40) (eO : pO q = nI 8) (eI : fI g = nI s) (hs : s < 653) (hp : post (xst, xow, xin, xpa, xfi, xfr, xno, 2, xan, xkn, xen, xco, xrm, xac, K, N, Z, D, Im, W, P, vS, pO, pX, pI, fS, fP, fI, fU, fR, fO, fA, fH, fG, fN, aS, qL, qR, qP)) : wpX_answerLeaf post (xst, xow, xin, xpa, xfi, xfr, xno, xsi, xan, xkn, xen, xco, xrm, xac, K, N, Z, D, Im, W, P, vS, pO, pX, pI, fS, fP, fI, fU, fR, fO, fA, fH, fG, fN, aS, qL, qR, qP) := by
  have eg' : xno.toNatClampNeg = g := by rw [eg, nI_clamp (by omega)]
  have hin : vp_in xno 600 := by rw [eg]; exact vp_in_nI hg (by omega)
  have hiq : vp_in (nI q) 40 := vp_in_nI hq (by omega)
  have his : vp_in (nI s) 653 := vp_in_nI hs (by omega)
  have es : (nI s).toNatClampNeg = s := nI_clamp (by omega)
  unfold wpX_answerLeaf
  dsimp only
  rw [eg', eP, nI_clamp (show q < 2 ^ 31 by omega), eO, eI]
  exact ⟨hin, hiq, nm_e ⟨hin, nm_e ⟨hin, hiq, nm_e (br_f (by decide) (br_f (by decide) (br_f (by decide) (br_f (by decide) (br_f (by decide) (br_f (by decide) (br_f (by decide) (br_f (by decide) (br_f (by decide) (br_f (by decide) (br_t rfl (hp))))))))))))⟩⟩⟩
theorem xl_9 {xst xow xin xpa xfi xfr xno xsi xan xkn xen xco xrm xac : Int32} {K N Z D Im W P vS pO pX pI fS fP fI fU fR fO fA fH fG fN aS qL qR qP : Nat → Int32} {post : SX → Prop} {g q s : Nat} (eg : xno = nI g) (hg : g < 600) (eP : fP g = nI q) (hq : q < 40) (eO : pO q = nI 9) (eI : fI g = nI s) (hs : s < 653) (hp : post (xst, xow, xin, xpa, xfi, xfr, xno, 3, xan, xkn, xen, xco, xrm, xac, K, N, Z, D, Im, W, P, vS, pO, pX, pI, fS, fP, fI, fU, fR, fO, fA, fH, fG, fN, aS, qL, qR, qP)) : wpX_answerLeaf post (xst, xow, xin, xpa, xfi, xfr, xno, xsi, xan, xkn, xen, xco, xrm, xac, K, N, Z, D, Im, W, P, vS, pO, pX, pI, fS, fP, fI, fU, fR, fO, fA, fH, fG, fN, aS, qL, qR, qP) := by
  have eg' : xno.toNatClampNeg = g := by rw [eg, nI_clamp (by omega)]
  have hin : vp_in xno 600 := by rw [eg]; exact vp_in_nI hg (by omega)
  have hiq : vp_in (nI q) 40 := vp_in_nI hq (by omega)
  have his : vp_in (nI s) 653 := vp_in_nI hs (by omega)
  have es : (nI s).toNatClampNeg = s := nI_clamp (by omega)
  unfold wpX_answerLeaf
  dsimp only
  rw [eg', eP, nI_clamp (show q < 2 ^ 31 by omega), eO, eI]
  exact ⟨hin, hiq, nm_e ⟨hin, nm_e ⟨hin, hiq, nm_e (br_f (by decide) (br_f (by decide) (br_f (by decide) (br_f (by decide) (br_f (by decide) (br_f (by decide) (br_f (by decide) (br_f (by decide) (br_f (by decide) (br_f (by decide) (br_f (by decide) (br_t rfl (hp)))))))))))))⟩⟩⟩
theorem xl_10 {xst xow xin xpa xfi xfr xno xsi xan xkn xen xco xrm xac : Int32} {K N Z D Im W P vS pO pX pI fS fP fI fU fR fO fA fH fG fN aS qL qR qP : Nat → Int32} {post : SX → Prop} {g q s : Nat} (eg : xno = nI g) (hg : g < 600) (eP : fP g = nI q) (hq : q < 40) (eO : pO q = nI 10) (eI : fI g = nI s) (hs : s < 653) {κ rm : Nat} {y : Int32} (eK : K s = nI κ) (hκ : κ ≤ 5) (er : xrm = nI rm) (hrm : rm < 600) (hy : (κ = 3 → (0 ≤ N s → y = N s) ∧ (¬ 0 ≤ N s → y = - N s)) ∧ (κ ≠ 3 → y = Z s)) (h3 : κ = 1 ∨ κ = 2 → post (xst, xow, xin, xpa, xfi, xfr, xno, 3, xan, xkn, xen, xco, xrm, xac, K, N, Z, D, Im, W, P, vS, pO, pX, pI, fS, fP, fI, fU, fR, fO, fA, fH, fG, fN, aS, qL, qR, qP)) (h1 : κ ≠ 1 → κ ≠ 2 → post (xst, xow, xin, xpa, xfi, xfr, xno, 1, (nI (53 + rm)), xkn, xen, xco, (nI (rm + 1)), xac, (upd K (53 + rm) 3), (upd N (53 + rm) y), (upd Z (53 + rm) 0), (upd D (53 + rm) 0), (upd Im (53 + rm) 1), (upd W (53 + rm) 1), P, vS, pO, pX, pI, fS, fP, fI, fU, fR, fO, fA, fH, fG, fN, aS, qL, qR, qP)) : wpX_answerLeaf post (xst, xow, xin, xpa, xfi, xfr, xno, xsi, xan, xkn, xen, xco, xrm, xac, K, N, Z, D, Im, W, P, vS, pO, pX, pI, fS, fP, fI, fU, fR, fO, fA, fH, fG, fN, aS, qL, qR, qP) := by
  have eg' : xno.toNatClampNeg = g := by rw [eg, nI_clamp (by omega)]
  have hin : vp_in xno 600 := by rw [eg]; exact vp_in_nI hg (by omega)
  have hiq : vp_in (nI q) 40 := vp_in_nI hq (by omega)
  have his : vp_in (nI s) 653 := vp_in_nI hs (by omega)
  have es : (nI s).toNatClampNeg = s := nI_clamp (by omega)
  unfold wpX_answerLeaf
  dsimp only
  rw [eg', eP, nI_clamp (show q < 2 ^ 31 by omega), eO, eI]
  exact ⟨hin, hiq, nm_e ⟨hin, nm_e ⟨hin, hiq, nm_e (br_f (by decide) (br_f (by decide) (br_f (by decide) (br_f (by decide) (br_f (by decide) (br_f (by decide) (br_f (by decide) (br_f (by decide) (br_f (by decide) (br_f (by decide) (br_f (by decide) (br_f (by decide) (br_t rfl (xl_size hs eK hκ er hrm hy h3 h1))))))))))))))⟩⟩⟩
theorem xl_12 {xst xow xin xpa xfi xfr xno xsi xan xkn xen xco xrm xac : Int32} {K N Z D Im W P vS pO pX pI fS fP fI fU fR fO fA fH fG fN aS qL qR qP : Nat → Int32} {post : SX → Prop} {g q s : Nat} (eg : xno = nI g) (hg : g < 600) (eP : fP g = nI q) (hq : q < 40) (eO : pO q = nI 12) (eI : fI g = nI s) (hs : s < 653) {κ : Nat} (eK : K s = nI κ) (hκ : κ ≤ 5) (hp : post (xst, xow, xin, xpa, xfi, xfr, xno, 1, (nI (3 + κ)), xkn, xen, xco, xrm, xac, K, N, Z, D, Im, W, P, vS, pO, pX, pI, fS, fP, fI, fU, fR, fO, fA, fH, fG, fN, aS, qL, qR, qP)) : wpX_answerLeaf post (xst, xow, xin, xpa, xfi, xfr, xno, xsi, xan, xkn, xen, xco, xrm, xac, K, N, Z, D, Im, W, P, vS, pO, pX, pI, fS, fP, fI, fU, fR, fO, fA, fH, fG, fN, aS, qL, qR, qP) := by
  have eg' : xno.toNatClampNeg = g := by rw [eg, nI_clamp (by omega)]
  have hin : vp_in xno 600 := by rw [eg]; exact vp_in_nI hg (by omega)
  have hiq : vp_in (nI q) 40 := vp_in_nI hq (by omega)
  have his : vp_in (nI s) 653 := vp_in_nI hs (by omega)
  have es : (nI s).toNatClampNeg = s := nI_clamp (by omega)
  unfold wpX_answerLeaf
  dsimp only
  rw [eg', eP, nI_clamp (show q < 2 ^ 31 by omega), eO, eI]
  exact ⟨hin, hiq, nm_e ⟨hin, nm_e ⟨hin, hiq, nm_e (br_f (by decide) (br_f (by decide) (br_f (by decide) (br_f (by decide) (br_f (by decide) (br_f (by decide) (br_f (by decide) (br_f (by decide) (br_f (by decide) (br_f (by decide) (br_f (by decide) (br_f (by decide) (br_f (by decide) (br_f (by decide) (br_t rfl (⟨his, by rw [es, eK, show (3 : Int32) + nI κ = nI (3 + κ) from nI_add 3 κ]; exact xr_give hp⟩))))))))))))))))⟩⟩⟩
theorem xl_13 {xst xow xin xpa xfi xfr xno xsi xan xkn xen xco xrm xac : Int32} {K N Z D Im W P vS pO pX pI fS fP fI fU fR fO fA fH fG fN aS qL qR qP : Nat → Int32} {post : SX → Prop} {g q s : Nat} (eg : xno = nI g) (hg : g < 600) (eP : fP g = nI q) (hq : q < 40) (eO : pO q = nI 13) (eI : fI g = nI s) (hs : s < 653) {x : Nat} (eX : pX q = nI x) (hx : x < 3) (hp : post (xst, xow, xin, xpa, xfi, xfr, xno, 1, (fN (g * 3 + x)), xkn, xen, xco, xrm, xac, K, N, Z, D, Im, W, P, vS, pO, pX, pI, fS, fP, fI, fU, fR, fO, fA, fH, fG, fN, aS, qL, qR, qP)) : wpX_answerLeaf post (xst, xow, xin, xpa, xfi, xfr, xno, xsi, xan, xkn, xen, xco, xrm, xac, K, N, Z, D, Im, W, P, vS, pO, pX, pI, fS, fP, fI, fU, fR, fO, fA, fH, fG, fN, aS, qL, qR, qP) := by
  have eg' : xno.toNatClampNeg = g := by rw [eg, nI_clamp (by omega)]
  have hin : vp_in xno 600 := by rw [eg]; exact vp_in_nI hg (by omega)
  have hiq : vp_in (nI q) 40 := vp_in_nI hq (by omega)
  have his : vp_in (nI s) 653 := vp_in_nI hs (by omega)
  have es : (nI s).toNatClampNeg = s := nI_clamp (by omega)
  unfold wpX_answerLeaf
  dsimp only
  rw [eg', eP, nI_clamp (show q < 2 ^ 31 by omega), eO, eI]
  exact ⟨hin, hiq, nm_e ⟨hin, nm_e ⟨hin, hiq, nm_e (br_f (by decide) (br_f (by decide) (br_f (by decide) (br_f (by decide) (br_f (by decide) (br_f (by decide) (br_f (by decide) (br_f (by decide) (br_f (by decide) (br_f (by decide) (br_f (by decide) (br_f (by decide) (br_f (by decide) (br_f (by decide) (br_f (by decide) (br_t rfl (by rw [eX, eg, xi_3, nI_clamp (show g * 3 + x < 2 ^ 31 by omega)]; exact ⟨vp_in_nI (by omega) (by omega), xr_give (eg ▸ hp)⟩)))))))))))))))))⟩⟩⟩
theorem xl_14 {xst xow xin xpa xfi xfr xno xsi xan xkn xen xco xrm xac : Int32} {K N Z D Im W P vS pO pX pI fS fP fI fU fR fO fA fH fG fN aS qL qR qP : Nat → Int32} {post : SX → Prop} {g q s : Nat} (eg : xno = nI g) (hg : g < 600) (eP : fP g = nI q) (hq : q < 40) (eO : pO q = nI 14) (eI : fI g = nI s) (hs : s < 653) {κ : Nat} (eK : K s = nI κ) (hκ : κ ≤ 5) (h0 : 2 ≤ κ → post (xst, xow, xin, xpa, xfi, xfr, xno, 1, 1, xkn, xen, xco, xrm, xac, K, N, Z, D, Im, W, P, vS, pO, pX, pI, fS, fP, fI, fU, fR, fO, fA, fH, fG, fN, aS, qL, qR, qP)) (h1 : κ < 2 → post (xst, xow, xin, xpa, xfi, xfr, xno, 1, 2, xkn, xen, xco, xrm, xac, K, N, Z, D, Im, W, P, vS, pO, pX, pI, fS, fP, fI, fU, fR, fO, fA, fH, fG, fN, aS, qL, qR, qP)) : wpX_answerLeaf post (xst, xow, xin, xpa, xfi, xfr, xno, xsi, xan, xkn, xen, xco, xrm, xac, K, N, Z, D, Im, W, P, vS, pO, pX, pI, fS, fP, fI, fU, fR, fO, fA, fH, fG, fN, aS, qL, qR, qP) := by
  have eg' : xno.toNatClampNeg = g := by rw [eg, nI_clamp (by omega)]
  have hin : vp_in xno 600 := by rw [eg]; exact vp_in_nI hg (by omega)
  have hiq : vp_in (nI q) 40 := vp_in_nI hq (by omega)
  have his : vp_in (nI s) 653 := vp_in_nI hs (by omega)
  have es : (nI s).toNatClampNeg = s := nI_clamp (by omega)
  unfold wpX_answerLeaf
  dsimp only
  rw [eg', eP, nI_clamp (show q < 2 ^ 31 by omega), eO, eI]
  exact ⟨hin, hiq, nm_e ⟨hin, nm_e ⟨hin, hiq, nm_e (br_f (by decide) (br_f (by decide) (br_f (by decide) (br_f (by decide) (br_f (by decide) (br_f (by decide) (br_f (by decide) (br_f (by decide) (br_f (by decide) (br_f (by decide) (br_f (by decide) (br_f (by decide) (br_f (by decide) (br_f (by decide) (br_f (by decide) (br_f (by decide) (br_t rfl (xr_isEmpty hs eK hκ (fun w => xr_giveTruth (fun _ => h0 w) (fun z => absurd rfl z)) (fun w => xr_giveTruth (fun z => absurd z (by decide)) (fun _ => h1 w))))))))))))))))))))⟩⟩⟩
