/-! ===== X: each, deep, beginning ===== -/
theorem xa_each {xst xow xin xpa xfi xfr xno xsi xan xkn xen xco xrm xac : Int32} {K N Z D Im W P vS pO pX pI fS fP fI fU fR fO fA fH fG fN aS qL qR qP : Nat → Int32} {post : SX → Prop} {g q s κ gv z c : Nat} (eg : xno = nI g) (hg : g < 600) (eP : fP g = nI q) (hq : q < 40) (eO : pO q = nI 7) (eI : fI g = nI s) (hs : s < 653) (eK : K s = nI κ) (hκ : κ ≤ 5) (eG : fG g = nI gv) (hgv : gv < 2 ^ 31) (eZ : Z s = nI z) (hz : z ≤ 10) (ec : xco = nI c) (hc : c ≤ 600)
    (h3 : κ ≤ 3 → post (xst, xow, xin, xpa, xfi, xfr, xno, 3, xan, xkn, xen, xco, xrm, xac, K, N, Z, D, Im, W, P, vS, pO, pX, pI, fS, fP, fI, fU, fR, fO, fA, fH, fG, fN, aS, qL, qR, qP)) (h2 : 3 < κ → z ≤ gv → post (xst, xow, xin, xpa, xfi, xfr, xno, 2, xan, xkn, xen, xco, xrm, xac, K, N, Z, D, Im, W, P, vS, pO, pX, pI, fS, fP, fI, fU, fR, fO, fA, fH, fG, fN, aS, qL, qR, qP)) (ht : 3 < κ → gv < z → c = 600 → post (xst, xow, xin, xpa, xfi, xfr, xno, xsi, xan, xkn, 3, xco, xrm, xac, K, N, Z, D, Im, W, P, vS, pO, pX, pI, fS, fP, fI, fU, fR, fO, fA, fH, fG, fN, aS, qL, qR, qP))
    (h1 : 3 < κ → gv < z → c < 600 → post (xst, xow, xin, xpa, xfi, xfr, xno, 1, (P (s * 10 + gv)), xkn, xen, (nI (c + 1)), xrm, xac, K, N, Z, D, Im, W, P, vS, pO, pX, pI, fS, fP, fI, fU, fR, fO, fA, fH, (upd fG g (nI (gv + 1))), fN, aS, qL, qR, qP)) : wpX_ask post (xst, xow, xin, xpa, xfi, xfr, xno, xsi, xan, xkn, xen, xco, xrm, xac, K, N, Z, D, Im, W, P, vS, pO, pX, pI, fS, fP, fI, fU, fR, fO, fA, fH, fG, fN, aS, qL, qR, qP) := by
  subst eg
  have eg' : (nI g).toNatClampNeg = g := nI_clamp (by omega)
  have hin : vp_in (nI g) 600 := vp_in_nI hg (by omega)
  have his : vp_in (nI s) 653 := vp_in_nI hs (by omega)
  have es : (nI s).toNatClampNeg = s := nI_clamp (by omega)
  unfold wpX_ask
  dsimp only
  rw [eg', eP, nI_clamp (show q < 2 ^ 31 by omega), eO]
  refine ⟨hin, vp_in_nI hq (by omega), nm_e (br_t rfl ?_)⟩
  unfold wpX_nextOfEach
  dsimp only
  rw [eg', eI, eG]
  refine ⟨hin, nm_e ⟨hin, nm_e ⟨his, ?_⟩⟩⟩
  rw [es, eK, eZ]
  refine pk_lt 3 κ (fun k3 => ⟨his, pk_lt gv z (fun hlt => ?_) (fun hge => h2 k3 hge)⟩) (fun k3 => h3 k3)
  by_cases c6 : c = 600
  · subst c6
    exact xr_tired ec (br_t rfl (ht k3 hlt rfl))
  · refine xr_counts ec (by omega) ?_
    dsimp only
    rw [eg', eG, xi_10, nI_clamp (show s * 10 + gv < 2 ^ 31 by omega), nI_1]
    exact br_f (by decide) ⟨hin, hin, nm_e ⟨vp_in_nI (by omega) (by omega), xr_give (h1 k3 hlt (by omega))⟩⟩
theorem xa_deep {xst xow xin xpa xfi xfr xno xsi xan xkn xen xco xrm xac : Int32} {K N Z D Im W P vS pO pX pI fS fP fI fU fR fO fA fH fG fN aS qL qR qP : Nat → Int32} {V : Nat → Prop} {post : SX → Prop} {g q s gv w c : Nat} (hx : vv_ox V K N Z D Im W P) (eg : xno = nI g) (hg : g < 600) (eP : fP g = nI q) (hq : q < 40) (eO : pO q = nI 15) (eI : fI g = nI s) (hV : V s) (eG : fG g = nI gv) (hgv : gv < 2 ^ 31) (eW : W s = nI w) (hw : w ≤ 23332) (ec : xco = nI c) (hc : c ≤ 600)
    (h2 : w ≤ gv → post (xst, xow, xin, xpa, xfi, xfr, xno, 2, xan, xkn, xen, xco, xrm, xac, K, N, Z, D, Im, W, P, vS, pO, pX, pI, fS, fP, fI, fU, fR, fO, fA, fH, fG, fN, aS, qL, qR, qP)) (ht : gv < w → c = 600 → post (xst, xow, xin, xpa, xfi, xfr, xno, xsi, xan, xkn, 3, xco, xrm, xac, K, N, Z, D, Im, W, P, vS, pO, pX, pI, fS, fP, fI, fU, fR, fO, fA, fH, fG, fN, aS, qL, qR, qP))
    (h1 : gv < w → c < 600 → ∃ p, dp_ok Z P p s ∧ p.length ≤ 4 ∧ dp_ix W P p s = gv ∧ post (xst, xow, xin, xpa, xfi, xfr, xno, 1, (nI (dp_at P p s)), xkn, xen, (nI (c + 1)), xrm, xac, K, N, Z, D, Im, W, P, vS, pO, pX, pI, fS, fP, fI, fU, fR, fO, fA, fH, (upd fG g (nI (gv + 1))), fN, aS, qL, qR, qP)) : wpX_ask post (xst, xow, xin, xpa, xfi, xfr, xno, xsi, xan, xkn, xen, xco, xrm, xac, K, N, Z, D, Im, W, P, vS, pO, pX, pI, fS, fP, fI, fU, fR, fO, fA, fH, fG, fN, aS, qL, qR, qP) := by
  subst eg
  have hs := (hx s hV).1
  have eg' : (nI g).toNatClampNeg = g := nI_clamp (by omega)
  have hin : vp_in (nI g) 600 := vp_in_nI hg (by omega)
  have his : vp_in (nI s) 653 := vp_in_nI hs (by omega)
  have es : (nI s).toNatClampNeg = s := nI_clamp (by omega)
  unfold wpX_ask
  dsimp only
  rw [eg', eP, nI_clamp (show q < 2 ^ 31 by omega), eO]
  refine ⟨hin, vp_in_nI hq (by omega), nm_e (br_f (by decide) (br_t rfl ?_))⟩
  unfold wpX_nextOfDeep
  dsimp only
  rw [eg', eI, eG]
  refine ⟨hin, nm_e ⟨hin, nm_e ⟨his, ?_⟩⟩⟩
  rw [es, eW]
  refine pk_lt gv w (fun hlt => ?_) (fun hge => h2 hge)
  by_cases c6 : c = 600
  · subst c6
    exact xr_tired ec (br_t rfl (ht hlt rfl))
  · obtain ⟨p, p1, p2, p3, p4⟩ := h1 hlt (by omega)
    refine xr_counts ec (by omega) ?_
    dsimp only
    rw [eg', eG, nI_1]
    refine br_f (by decide) ⟨hin, hin, nm_e ?_⟩
    rw [← p3]
    rw [← p3] at p4
    exact xm_within hx hV p1 p2 (xr_give p4)
theorem xa_begin {xst xow xin xpa xfi xfr xno xsi xan xkn xen xco xrm xac : Int32} {K N Z D Im W P vS pO pX pI fS fP fI fU fR fO fA fH fG fN aS qL qR qP : Nat → Int32} {post : SX → Prop} {n c g q oq : Nat} (eg : xno = nI g) (efr : xfr = nI n) (eco : xco = nI c) (hn : n < 600) (hc : c < 600) (hg : g < n) (eP : fP g = nI q) (hq : q < 40) (ho : oq ≤ 35) (n16 : oq ≠ 16)
    (h0 : oq ≠ 35 → post (xst, xow, xin, xpa, xfi, (nI (n + 1)), (nI n), 0, xan, xkn, xen, (nI (c + 1)), xrm, xac, K, N, Z, D, Im, W, P, vS, pO, pX, pI, fS, (upd fP n (pI (q * 3 + 0))), (upd fI n (fI g)), (upd fU n (nI g)), (upd fR n (nI 0)), (upd (upd fO n (-1)) g (nI n)), (upd (upd fA n (-1)) g (nI n)), (upd fH n 0), (upd fG n 0), (fn_c fN n g 3), aS, qL, qR, qP))
    (h1 : oq = 35 → post (xst, xow, xin, xpa, xfi, (nI (n + 1)), (nI n), 0, xan, xkn, xen, (nI (c + 1)), xrm, xac, K, N, Z, D, Im, W, P, vS, pO, pX, pI, fS, (upd fP n (pI (q * 3 + 1))), (upd fI n (fI g)), (upd fU n (nI g)), (upd fR n (nI 1)), (upd fO n (-1)), (upd (upd fA n (-1)) g (nI n)), (upd fH n 0), (upd fG n 0), (fn_c fN n g 3), aS, qL, qR, qP)) : wpX_begin post (xst, xow, xin, xpa, xfi, xfr, xno, xsi, xan, xkn, xen, xco, xrm, xac, K, N, Z, D, Im, W, P, vS, pO, pX, pI, fS, fP, fI, fU, fR, fO, fA, fH, fG, fN, aS, qL, qR, qP) (nI oq) := by
  have eg' : xno.toNatClampNeg = g := by rw [eg, nI_clamp (by omega)]
  have hin : vp_in xno 600 := by rw [eg]; exact vp_in_nI (by omega) (by omega)
  unfold wpX_begin
  dsimp only
  refine br_f (fun z => n16 ((nI_eq (b := 16) (by omega) (by omega)).mp z)) ?_
  unfold wX_begin_28
  refine pk_eq oq 35 (fun e => ?_) (fun e => ?_)
  · unfold wX_begin_40
    rw [eg']
    exact ⟨hin, xr_apply (r := 1) efr eg eco hn hc hg eP hq (by omega) (fun z => absurd z (by omega)) (fun _ => h1 e)⟩
  · unfold wX_begin_40
    rw [eg']
    exact ⟨hin, xr_apply (r := 0) efr eg eco hn hc hg eP hq (by omega) (fun _ => h0 e) (fun z => absurd rfl z)⟩
theorem xa_begin_t {xst xow xin xpa xfi xfr xno xsi xan xkn xen xco xrm xac : Int32} {K N Z D Im W P vS pO pX pI fS fP fI fU fR fO fA fH fG fN aS qL qR qP : Nat → Int32} {post : SX → Prop} {g oq : Nat} (eg : xno = nI g) (eco : xco = nI 600) (hg : g < 600) (ho : oq ≤ 35) (n16 : oq ≠ 16) (hp : post (xst, xow, xin, xpa, xfi, xfr, xno, xsi, xan, xkn, 3, xco, xrm, xac, K, N, Z, D, Im, W, P, vS, pO, pX, pI, fS, fP, fI, fU, fR, fO, fA, fH, fG, fN, aS, qL, qR, qP)) : wpX_begin post (xst, xow, xin, xpa, xfi, xfr, xno, xsi, xan, xkn, xen, xco, xrm, xac, K, N, Z, D, Im, W, P, vS, pO, pX, pI, fS, fP, fI, fU, fR, fO, fA, fH, fG, fN, aS, qL, qR, qP) (nI oq) := by
  have hin : vp_in xno 600 := by rw [eg]; exact vp_in_nI (by omega) (by omega)
  unfold wpX_begin
  dsimp only
  refine br_f (fun z => n16 ((nI_eq (b := 16) (by omega) (by omega)).mp z)) ?_
  unfold wX_begin_28
  refine pk_eq oq 35 (fun e => ?_) (fun e => ?_)
  · unfold wX_begin_40
    exact ⟨hin, xr_apply_t eco hp⟩
  · unfold wX_begin_40
    exact ⟨hin, xr_apply_t eco hp⟩
theorem xa_beginAll {xst xow xin xpa xfi xfr xno xsi xan xkn xen xco xrm xac : Int32} {K N Z D Im W P vS pO pX pI fS fP fI fU fR fO fA fH fG fN aS qL qR qP : Nat → Int32} {post : SX → Prop} {n c g q rm : Nat} (eg : xno = nI g) (efr : xfr = nI n) (eco : xco = nI c) (erm : xrm = nI rm) (hrm : rm < 600) (hn : c < 600 → n < 600) (hg6 : g < 600) (hc : c ≤ 600) (hg : g < n) (eP : fP g = nI q) (hq : q < 40)
    (h0 : c < 600 → post (xst, xow, xin, xpa, xfi, (nI (n + 1)), (nI n), 0, xan, xkn, xen, (nI (c + 1)), (nI (rm + 1)), xac, (upd K (53 + rm) 4), (upd N (53 + rm) 0), (upd Z (53 + rm) 0), D, Im, W, P, vS, pO, pX, pI, fS, (upd fP n (pI (q * 3 + 0))), (upd fI n (fI g)), (upd fU n (nI g)), (upd fR n (nI 0)), (upd (upd fO n (-1)) g (nI n)), (upd (upd fA n (-1)) g (nI n)), (upd (upd fH g (nI (53 + rm))) n 0), (upd fG n 0), (fn_c fN n g 3), aS, qL, qR, qP))
    (ht : c = 600 → post (xst, xow, xin, xpa, xfi, xfr, xno, xsi, xan, xkn, 3, xco, (nI (rm + 1)), xac, (upd K (53 + rm) 4), (upd N (53 + rm) 0), (upd Z (53 + rm) 0), D, Im, W, P, vS, pO, pX, pI, fS, fP, fI, fU, fR, fO, fA, (upd fH g (nI (53 + rm))), fG, fN, aS, qL, qR, qP)) : wpX_begin post (xst, xow, xin, xpa, xfi, xfr, xno, xsi, xan, xkn, xen, xco, xrm, xac, K, N, Z, D, Im, W, P, vS, pO, pX, pI, fS, fP, fI, fU, fR, fO, fA, fH, fG, fN, aS, qL, qR, qP) (nI 16) := by
  subst eg
  have eg' : (nI g).toNatClampNeg = g := nI_clamp (by omega)
  have hin : vp_in (nI g) 600 := vp_in_nI (by omega) (by omega)
  unfold wpX_begin
  dsimp only
  refine br_t rfl (xr_runSlot erm (xm_setNested (by omega) ?_))
  dsimp only
  rw [eg']
  refine ⟨hin, nm_e ?_⟩
  unfold wX_begin_28
  refine br_f (by decide) ?_
  unfold wX_begin_40
  rw [eg']
  by_cases c6 : c = 600
  · subst c6
    exact ⟨hin, xr_apply_t eco (ht rfl)⟩
  · exact ⟨hin, xr_apply (r := 0) efr rfl eco (hn (by omega)) (by omega) hg eP hq (by omega) (fun _ => h0 (by omega)) (fun z => absurd rfl z)⟩
/-! ===== X hears ===== -/
theorem xh_whole {xst xow xin xpa xfi xfr xno xsi xan xkn xen xco xrm xac : Int32} {K N Z D Im W P vS pO pX pI fS fP fI fU fR fO fA fH fG fN aS qL qR qP : Nat → Int32} {post : SX → Prop} {a : Nat} (ea : xac = nI a) (ha : a < 20)
    (h2 : xsi = 2 → post (xst, xow, xin, xpa, xfi, xfr, xno, xsi, xan, xkn, 0, xco, xrm, xac, K, N, Z, D, Im, W, P, vS, pO, pX, pI, fS, fP, fI, fU, fR, fO, fA, fH, fG, fN, aS, qL, qR, qP)) (h3 : xsi = 3 → post (xst, xow, xin, xpa, xfi, xfr, xno, xsi, xan, xkn, 2, xco, xrm, xac, K, N, Z, D, Im, W, P, vS, pO, pX, pI, fS, fP, fI, fU, fR, fO, fA, fH, fG, fN, aS, qL, qR, qP))
    (h1 : xsi = 1 → a + 1 ≠ 20 → post (xst, xow, xin, xpa, xfi, xfr, xno, 0, xan, xkn, xen, xco, xrm, (nI (a + 1)), K, N, Z, D, Im, W, P, vS, pO, pX, pI, fS, fP, fI, fU, fR, fO, fA, fH, fG, fN, (upd aS a xan), qL, qR, qP)) (h20 : xsi = 1 → a + 1 = 20 → post (xst, xow, xin, xpa, xfi, xfr, xno, 0, xan, xkn, 1, xco, xrm, (nI (a + 1)), K, N, Z, D, Im, W, P, vS, pO, pX, pI, fS, fP, fI, fU, fR, fO, fA, fH, fG, fN, (upd aS a xan), qL, qR, qP)) (hs : xsi = 1 ∨ xsi = 2 ∨ xsi = 3) : wpX_hearWhole post (xst, xow, xin, xpa, xfi, xfr, xno, xsi, xan, xkn, xen, xco, xrm, xac, K, N, Z, D, Im, W, P, vS, pO, pX, pI, fS, fP, fI, fU, fR, fO, fA, fH, fG, fN, aS, qL, qR, qP) := by
  subst ea
  unfold wpX_hearWhole
  dsimp only
  rw [nI_clamp (show a < 2 ^ 31 by omega)]
  refine br_c h2 (fun n2 => br_c h3 (fun n3 => ⟨vp_in_nI ha (by omega), nm_e (nm_r (nI_1 a) ?_)⟩))
  have e1 : xsi = 1 := by
    rcases hs with z | z | z
    · exact z
    · exact absurd z n2
    · exact absurd z n3
  exact pk_eq (a + 1) 20 (fun z => h20 e1 z) (fun z => h1 e1 z)
theorem xh_77 {xst xow xin xpa xfi xfr xno xsi xan xkn xen xco xrm xac : Int32} {K N Z D Im W P vS pO pX pI fS fP fI fU fR fO fA fH fG fN aS qL qR qP : Nat → Int32} {post : SX → Prop} {g p q oq : Nat} {ro : Int32} (eg : xno = nI g) (hg : g < 600) (eU : fU g = nI p) (hp : p < 600) (eR : fR g = ro) (eP : fP p = nI q) (hq : q < 40) (eO : pO q = nI oq) (ho : oq ≤ 35)
    (h1 : (xsi = 2 ∨ (ro = 0 ∧ (oq = 17 ∨ oq = 32))) → wX_hearInner_77 post ro (nI oq) 1 xst xow xin xpa xfi xfr (nI p) xsi xan xkn xen xco xrm xac K N Z D Im W P vS pO pX pI fS fP fI fU fR fO fA fH fG fN aS qL qR qP)
    (h0 : (¬ xsi = 2 ∧ ¬ (ro = 0 ∧ (oq = 17 ∨ oq = 32))) → wX_hearInner_77 post ro (nI oq) 0 xst xow xin xpa xfi xfr (nI p) xsi xan xkn xen xco xrm xac K N Z D Im W P vS pO pX pI fS fP fI fU fR fO fA fH fG fN aS qL qR qP) : wpX_hearInner post (xst, xow, xin, xpa, xfi, xfr, xno, xsi, xan, xkn, xen, xco, xrm, xac, K, N, Z, D, Im, W, P, vS, pO, pX, pI, fS, fP, fI, fU, fR, fO, fA, fH, fG, fN, aS, qL, qR, qP) := by
  subst eg eR
  have eg' : (nI g).toNatClampNeg = g := nI_clamp (by omega)
  have ep' : (nI p).toNatClampNeg = p := nI_clamp (by omega)
  have hin : vp_in (nI g) 600 := vp_in_nI hg (by omega)
  have hip : vp_in (nI p) 600 := vp_in_nI hp (by omega)
  have k54 : fR g = 0 → (oq = 17 ∨ oq = 32) → wX_hearInner_54 post (fR g) (nI oq) xst xow xin xpa xfi xfr (nI p) xsi xan xkn xen xco xrm xac K N Z D Im W P vS pO pX pI fS fP fI fU fR fO fA fH fG fN aS qL qR qP := by
    intro a b
    unfold wX_hearInner_54 wX_hearInner_59
    refine br_c (fun z => ?_) (fun z => br_f (by decide) ?_)
    · unfold wX_hearInner_72
      exact h1 (Or.inl z)
    · unfold wX_hearInner_72
      exact h1 (Or.inr ⟨a, b⟩)
  have k58 : ¬ (fR g = 0 ∧ (oq = 17 ∨ oq = 32)) → wX_hearInner_58 post (fR g) (nI oq) xst xow xin xpa xfi xfr (nI p) xsi xan xkn xen xco xrm xac K N Z D Im W P vS pO pX pI fS fP fI fU fR fO fA fH fG fN aS qL qR qP := by
    intro a
    unfold wX_hearInner_58 wX_hearInner_59
    refine br_c (fun z => ?_) (fun z => br_t rfl (h0 ⟨z, a⟩))
    unfold wX_hearInner_72
    exact h1 (Or.inl z)
  unfold wpX_hearInner
  dsimp only
  rw [eg', eU]
  refine ⟨hin, nm_e ⟨hin, nm_e ⟨hip, ?_⟩⟩⟩
  rw [ep', eP, nI_clamp (show q < 2 ^ 31 by omega), eO]
  refine ⟨vp_in_nI hq (by omega), nm_e (br_c (fun r0 => pk_eq oq 17 (fun e => k54 r0 (Or.inl e)) (fun n17 => pk_eq oq 32 (fun e => k54 r0 (Or.inr e)) (fun n32 => k58 (fun w => by omega)))) (fun r0 => k58 (fun w => r0 w.1)))⟩
theorem xh_ans0 {xst xow xin xpa xfi xfr xno xsi xan xkn xen xco xrm xac : Int32} {K N Z D Im W P vS pO pX pI fS fP fI fU fR fO fA fH fG fN aS qL qR qP : Nat → Int32} {xst' xow' xin' xpa' xfi' xfr' xno' xsi' xan' xkn' xen' xco' xrm' xac' : Int32} {K' N' Z' D' Im' W' P' vS' pO' pX' pI' fS' fP' fI' fU' fR' fO' fA' fH' fG' fN' aS' qL' qR' qP' : Nat → Int32} {post : SX → Prop} {g p q oq : Nat} (eg : xno = nI g) (hg : g < 600) (eU : fU g = nI p) (hp : p < 600) (eR : fR g = 0) (eP : fP p = nI q) (hq : q < 40) (eO : pO q = nI oq) (ho : oq ≤ 35) (es : xsi = 1)
    (h : ∀ Q : SX → Prop, Q (xst', xow', xin', xpa', xfi', xfr', xno', xsi', xan', xkn', xen', xco', xrm', xac', K', N', Z', D', Im', W', P', vS', pO', pX', pI', fS', fP', fI', fU', fR', fO', fA', fH', fG', fN', aS', qL', qR', qP') → wpX_answerOfA Q (xst, xow, xin, xpa, xfi, xfr, (nI p), xsi, xan, xkn, xen, xco, xrm, xac, K, N, Z, D, Im, W, P, vS, pO, pX, pI, fS, fP, fI, fU, fR, fO, fA, fH, fG, fN, aS, qL, qR, qP) (nI oq)) (hpo : post (xst', xow', xin', xpa', xfi', xfr', xno', xsi', xan', xkn', xen', xco', xrm', xac', K', N', Z', D', Im', W', P', vS', pO', pX', pI', fS', fP', fI', fU', fR', fO', fA', fH', fG', fN', aS', qL', qR', qP')) : wpX_hearInner post (xst, xow, xin, xpa, xfi, xfr, xno, xsi, xan, xkn, xen, xco, xrm, xac, K, N, Z, D, Im, W, P, vS, pO, pX, pI, fS, fP, fI, fU, fR, fO, fA, fH, fG, fN, aS, qL, qR, qP) := by
  have key : ∀ z : Int32, wX_hearInner_77 post 0 (nI oq) z xst xow xin xpa xfi xfr (nI p) xsi xan xkn xen xco xrm xac K N Z D Im W P vS pO pX pI fS fP fI fU fR fO fA fH fG fN aS qL qR qP := by
    intro z
    unfold wX_hearInner_77
    exact br_t es (br_t rfl (h _ hpo))
  exact xh_77 eg hg eU hp eR eP hq eO ho (fun _ => key 1) (fun _ => key 0)
theorem xh_ans1 {xst xow xin xpa xfi xfr xno xsi xan xkn xen xco xrm xac : Int32} {K N Z D Im W P vS pO pX pI fS fP fI fU fR fO fA fH fG fN aS qL qR qP : Nat → Int32} {xst' xow' xin' xpa' xfi' xfr' xno' xsi' xan' xkn' xen' xco' xrm' xac' : Int32} {K' N' Z' D' Im' W' P' vS' pO' pX' pI' fS' fP' fI' fU' fR' fO' fA' fH' fG' fN' aS' qL' qR' qP' : Nat → Int32} {post : SX → Prop} {g p q oq : Nat} {ro : Int32} (eg : xno = nI g) (hg : g < 600) (eU : fU g = nI p) (hp : p < 600) (eR : fR g = ro) (hr : ¬ ro = 0) (eP : fP p = nI q) (hq : q < 40) (eO : pO q = nI oq) (ho : oq ≤ 35) (es : xsi = 1)
    (h : ∀ Q : SX → Prop, Q (xst', xow', xin', xpa', xfi', xfr', xno', xsi', xan', xkn', xen', xco', xrm', xac', K', N', Z', D', Im', W', P', vS', pO', pX', pI', fS', fP', fI', fU', fR', fO', fA', fH', fG', fN', aS', qL', qR', qP') → wpX_answerBehindA Q (xst, xow, xin, xpa, xfi, xfr, (nI p), xsi, xan, xkn, xen, xco, xrm, xac, K, N, Z, D, Im, W, P, vS, pO, pX, pI, fS, fP, fI, fU, fR, fO, fA, fH, fG, fN, aS, qL, qR, qP) (nI oq)) (hpo : post (xst', xow', xin', xpa', xfi', xfr', xno', xsi', xan', xkn', xen', xco', xrm', xac', K', N', Z', D', Im', W', P', vS', pO', pX', pI', fS', fP', fI', fU', fR', fO', fA', fH', fG', fN', aS', qL', qR', qP')) : wpX_hearInner post (xst, xow, xin, xpa, xfi, xfr, xno, xsi, xan, xkn, xen, xco, xrm, xac, K, N, Z, D, Im, W, P, vS, pO, pX, pI, fS, fP, fI, fU, fR, fO, fA, fH, fG, fN, aS, qL, qR, qP) := by
  have key : ∀ z : Int32, wX_hearInner_77 post ro (nI oq) z xst xow xin xpa xfi xfr (nI p) xsi xan xkn xen xco xrm xac K N Z D Im W P vS pO pX pI fS fP fI fU fR fO fA fH fG fN aS qL qR qP := by
    intro z
    unfold wX_hearInner_77
    refine br_t es (br_f hr ?_)
    unfold wX_hearInner_99
    exact br_t es (h _ hpo)
  exact xh_77 eg hg eU hp eR eP hq eO ho (fun _ => key 1) (fun _ => key 0)
theorem xh_end0 {xst xow xin xpa xfi xfr xno xsi xan xkn xen xco xrm xac : Int32} {K N Z D Im W P vS pO pX pI fS fP fI fU fR fO fA fH fG fN aS qL qR qP : Nat → Int32} {xst' xow' xin' xpa' xfi' xfr' xno' xsi' xan' xkn' xen' xco' xrm' xac' : Int32} {K' N' Z' D' Im' W' P' vS' pO' pX' pI' fS' fP' fI' fU' fR' fO' fA' fH' fG' fN' aS' qL' qR' qP' : Nat → Int32} {post : SX → Prop} {g p q oq : Nat} (eg : xno = nI g) (hg : g < 600) (eU : fU g = nI p) (hp : p < 600) (eR : fR g = 0) (eP : fP p = nI q) (hq : q < 40) (eO : pO q = nI oq) (ho : oq ≤ 35) (es : xsi = 2 ∨ (xsi = 3 ∧ (oq = 17 ∨ oq = 32)))
    (h : ∀ Q : SX → Prop, Q (xst', xow', xin', xpa', xfi', xfr', xno', xsi', xan', xkn', xen', xco', xrm', xac', K', N', Z', D', Im', W', P', vS', pO', pX', pI', fS', fP', fI', fU', fR', fO', fA', fH', fG', fN', aS', qL', qR', qP') → wpX_endOfA Q (xst, xow, xin, xpa, xfi, xfr, (nI p), xsi, xan, xkn, xen, xco, xrm, xac, K, N, Z, D, Im, W, P, vS, pO, pX, pI, fS, fP, fI, fU, fR, fO, fA, fH, fG, fN, aS, qL, qR, qP) (nI oq)) (hpo : post (xst', xow', xin', xpa', xfi', xfr', xno', xsi', xan', xkn', xen', xco', xrm', xac', K', N', Z', D', Im', W', P', vS', pO', pX', pI', fS', fP', fI', fU', fR', fO', fA', fH', fG', fN', aS', qL', qR', qP')) : wpX_hearInner post (xst, xow, xin, xpa, xfi, xfr, xno, xsi, xan, xkn, xen, xco, xrm, xac, K, N, Z, D, Im, W, P, vS, pO, pX, pI, fS, fP, fI, fU, fR, fO, fA, fH, fG, fN, aS, qL, qR, qP) := by
  have n1 : ¬ xsi = 1 := by
    rcases es with z | ⟨z, _⟩ <;> rw [z] <;> decide
  refine xh_77 eg hg eU hp eR eP hq eO ho (fun _ => ?_) (fun w => ?_)
  · unfold wX_hearInner_77
    refine br_f n1 ?_
    unfold wX_hearInner_99
    exact br_f n1 (br_f (by decide) (br_t rfl (h _ hpo)))
  · rcases es with z | ⟨_, z⟩
    · exact absurd z w.1
    · exact absurd ⟨rfl, z⟩ w.2
theorem xh_end1 {xst xow xin xpa xfi xfr xno xsi xan xkn xen xco xrm xac : Int32} {K N Z D Im W P vS pO pX pI fS fP fI fU fR fO fA fH fG fN aS qL qR qP : Nat → Int32} {xst' xow' xin' xpa' xfi' xfr' xno' xsi' xan' xkn' xen' xco' xrm' xac' : Int32} {K' N' Z' D' Im' W' P' vS' pO' pX' pI' fS' fP' fI' fU' fR' fO' fA' fH' fG' fN' aS' qL' qR' qP' : Nat → Int32} {post : SX → Prop} {g p q oq : Nat} {ro : Int32} (eg : xno = nI g) (hg : g < 600) (eU : fU g = nI p) (hp : p < 600) (eR : fR g = ro) (hr : ¬ ro = 0) (eP : fP p = nI q) (hq : q < 40) (eO : pO q = nI oq) (ho : oq ≤ 35) (es : xsi = 2)
    (h : ∀ Q : SX → Prop, Q (xst', xow', xin', xpa', xfi', xfr', xno', xsi', xan', xkn', xen', xco', xrm', xac', K', N', Z', D', Im', W', P', vS', pO', pX', pI', fS', fP', fI', fU', fR', fO', fA', fH', fG', fN', aS', qL', qR', qP') → wpX_endBehindA Q (xst, xow, xin, xpa, xfi, xfr, (nI p), xsi, xan, xkn, xen, xco, xrm, xac, K, N, Z, D, Im, W, P, vS, pO, pX, pI, fS, fP, fI, fU, fR, fO, fA, fH, fG, fN, aS, qL, qR, qP) (nI oq) ro) (hpo : post (xst', xow', xin', xpa', xfi', xfr', xno', xsi', xan', xkn', xen', xco', xrm', xac', K', N', Z', D', Im', W', P', vS', pO', pX', pI', fS', fP', fI', fU', fR', fO', fA', fH', fG', fN', aS', qL', qR', qP')) : wpX_hearInner post (xst, xow, xin, xpa, xfi, xfr, xno, xsi, xan, xkn, xen, xco, xrm, xac, K, N, Z, D, Im, W, P, vS, pO, pX, pI, fS, fP, fI, fU, fR, fO, fA, fH, fG, fN, aS, qL, qR, qP) := by
  have n1 : ¬ xsi = 1 := by rw [es]; decide
  refine xh_77 eg hg eU hp eR eP hq eO ho (fun _ => ?_) (fun w => absurd es w.1)
  unfold wX_hearInner_77
  refine br_f n1 ?_
  unfold wX_hearInner_99
  refine br_f n1 (br_f (by decide) (br_f hr ?_))
  unfold wX_hearInner_132
  exact br_f (by decide) (h _ hpo)
theorem xh_err {xst xow xin xpa xfi xfr xno xsi xan xkn xen xco xrm xac : Int32} {K N Z D Im W P vS pO pX pI fS fP fI fU fR fO fA fH fG fN aS qL qR qP : Nat → Int32} {post : SX → Prop} {g p q oq : Nat} {ro : Int32} (eg : xno = nI g) (hg : g < 600) (eU : fU g = nI p) (hp : p < 600) (eR : fR g = ro) (eP : fP p = nI q) (hq : q < 40) (eO : pO q = nI oq) (ho : oq ≤ 35) (es : xsi = 3) (hn : ¬ (ro = 0 ∧ (oq = 17 ∨ oq = 32)))
    (hpo : post (xst, xow, xin, xpa, xfi, xfr, (nI p), xsi, xan, xkn, xen, xco, xrm, xac, K, N, Z, D, Im, W, P, vS, pO, pX, pI, fS, fP, fI, fU, fR, fO, fA, fH, fG, fN, aS, qL, qR, qP)) : wpX_hearInner post (xst, xow, xin, xpa, xfi, xfr, xno, xsi, xan, xkn, xen, xco, xrm, xac, K, N, Z, D, Im, W, P, vS, pO, pX, pI, fS, fP, fI, fU, fR, fO, fA, fH, fG, fN, aS, qL, qR, qP) := by
  have n1 : ¬ xsi = 1 := by rw [es]; decide
  have n2 : ¬ xsi = 2 := by rw [es]; decide
  refine xh_77 eg hg eU hp eR eP hq eO ho (fun w => w.elim (fun z => absurd z n2) (fun z => absurd z hn)) (fun _ => ?_)
  unfold wX_hearInner_77
  refine br_f n1 ?_
  unfold wX_hearInner_99
  refine br_f n1 (br_t rfl ?_)
  unfold wX_hearInner_132
  exact br_t rfl hpo
