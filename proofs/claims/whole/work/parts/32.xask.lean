/-! ===== X's steps ===== -/
def rn_K (post : SX → Prop) (st : Nat) : SX → Prop := fun u => match u with
  | (xst, xow, xin, xpa, xfi, xfr, xno, xsi, xan, xkn, xen, xco, xrm, xac, K, N, Z, D, Im, W, P, vS, pO, pX, pI, fS, fP, fI, fU, fR, fO, fA, fH, fG, fN, aS, qL, qR, qP) => ∀ z : Int32, z = nI st + 1 → wX_workOut_68 post (1000000 - st) z xst xow xin xpa xfi xfr xno xsi xan xkn xen xco xrm xac K N Z D Im W P vS pO pX pI fS fP fI fU fR fO fA fH fG fN aS qL qR qP
theorem rn_K_i {xst xow xin xpa xfi xfr xno xsi xan xkn xen xco xrm xac : Int32} {K N Z D Im W P vS pO pX pI fS fP fI fU fR fO fA fH fG fN aS qL qR qP : Nat → Int32} {post : SX → Prop} {st : Nat} (h : wX_workOut_68 post (1000001 - (st + 1)) (nI (st + 1)) xst xow xin xpa xfi xfr xno xsi xan xkn xen xco xrm xac K N Z D Im W P vS pO pX pI fS fP fI fU fR fO fA fH fG fN aS qL qR qP) : rn_K post st (xst, xow, xin, xpa, xfi, xfr, xno, xsi, xan, xkn, xen, xco, xrm, xac, K, N, Z, D, Im, W, P, vS, pO, pX, pI, fS, fP, fI, fU, fR, fO, fA, fH, fG, fN, aS, qL, qR, qP) := by
  show ∀ z : Int32, z = nI st + 1 → wX_workOut_68 post (1000000 - st) z xst xow xin xpa xfi xfr xno xsi xan xkn xen xco xrm xac K N Z D Im W P vS pO pX pI fS fP fI fU fR fO fA fH fG fN aS qL qR qP
  rw [show 1000001 - (st + 1) = 1000000 - st by omega] at h
  exact nm_r (nI_1 st) h
theorem xs_ask {xst xow xin xpa xfi xfr xno xsi xan xkn xen xco xrm xac : Int32} {K N Z D Im W P vS pO pX pI fS fP fI fU fR fO fA fH fG fN aS qL qR qP : Nat → Int32} {post : SX → Prop} {st : Nat} (hst : st < 1000000) (en : xen = -1) (es : xsi = 0) (h : wpX_ask (rn_K post st) (xst, xow, xin, xpa, xfi, xfr, xno, xsi, xan, xkn, xen, xco, xrm, xac, K, N, Z, D, Im, W, P, vS, pO, pX, pI, fS, fP, fI, fU, fR, fO, fA, fH, fG, fN, aS, qL, qR, qP)) : wX_workOut_68 post (1000001 - st) (nI st) xst xow xin xpa xfi xfr xno xsi xan xkn xen xco xrm xac K N Z D Im W P vS pO pX pI fS fP fI fU fR fO fA fH fG fN aS qL qR qP := by
  rw [show 1000001 - st = (1000000 - st) + 1 by omega]
  unfold wX_workOut_68
  exact br_f (nI_ge (b := 1000000) hst (by omega)) (br_t en (br_t es h))
theorem xs_leaf {xst xow xin xpa xfi xfr xno xsi xan xkn xen xco xrm xac : Int32} {K N Z D Im W P vS pO pX pI fS fP fI fU fR fO fA fH fG fN aS qL qR qP : Nat → Int32} {post : SX → Prop} {st : Nat} (hst : st < 1000000) (en : xen = -1) (es : xsi = 4) (h : wpX_answerLeaf (rn_K post st) (xst, xow, xin, xpa, xfi, xfr, xno, xsi, xan, xkn, xen, xco, xrm, xac, K, N, Z, D, Im, W, P, vS, pO, pX, pI, fS, fP, fI, fU, fR, fO, fA, fH, fG, fN, aS, qL, qR, qP)) : wX_workOut_68 post (1000001 - st) (nI st) xst xow xin xpa xfi xfr xno xsi xan xkn xen xco xrm xac K N Z D Im W P vS pO pX pI fS fP fI fU fR fO fA fH fG fN aS qL qR qP := by
  rw [show 1000001 - st = (1000000 - st) + 1 by omega]
  unfold wX_workOut_68
  exact br_f (nI_ge (b := 1000000) hst (by omega)) (br_t en (br_f (by rw [es]; decide) (br_t es h)))
theorem xs_make {xst xow xin xpa xfi xfr xno xsi xan xkn xen xco xrm xac : Int32} {K N Z D Im W P vS pO pX pI fS fP fI fU fR fO fA fH fG fN aS qL qR qP : Nat → Int32} {post : SX → Prop} {st : Nat} (hst : st < 1000000) (en : xen = -1) (es : xsi = 5) (h : wpX_makeCounted (rn_K post st) (xst, xow, xin, xpa, xfi, xfr, xno, xsi, xan, xkn, xen, xco, xrm, xac, K, N, Z, D, Im, W, P, vS, pO, pX, pI, fS, fP, fI, fU, fR, fO, fA, fH, fG, fN, aS, qL, qR, qP)) : wX_workOut_68 post (1000001 - st) (nI st) xst xow xin xpa xfi xfr xno xsi xan xkn xen xco xrm xac K N Z D Im W P vS pO pX pI fS fP fI fU fR fO fA fH fG fN aS qL qR qP := by
  rw [show 1000001 - st = (1000000 - st) + 1 by omega]
  unfold wX_workOut_68
  exact br_f (nI_ge (b := 1000000) hst (by omega)) (br_t en (br_f (by rw [es]; decide) (br_f (by rw [es]; decide) (br_t es h))))
theorem xs_whole {xst xow xin xpa xfi xfr xno xsi xan xkn xen xco xrm xac : Int32} {K N Z D Im W P vS pO pX pI fS fP fI fU fR fO fA fH fG fN aS qL qR qP : Nat → Int32} {post : SX → Prop} {st g : Nat} (hst : st < 1000000) (en : xen = -1) (es : xsi = 1 ∨ xsi = 2 ∨ xsi = 3) (eg : xno = nI g) (hg : g < 600) (eU : fU g = -1) (h : wpX_hearWhole (rn_K post st) (xst, xow, xin, xpa, xfi, xfr, xno, xsi, xan, xkn, xen, xco, xrm, xac, K, N, Z, D, Im, W, P, vS, pO, pX, pI, fS, fP, fI, fU, fR, fO, fA, fH, fG, fN, aS, qL, qR, qP)) : wX_workOut_68 post (1000001 - st) (nI st) xst xow xin xpa xfi xfr xno xsi xan xkn xen xco xrm xac K N Z D Im W P vS pO pX pI fS fP fI fU fR fO fA fH fG fN aS qL qR qP := by
  have n0 : ¬ xsi = 0 ∧ ¬ xsi = 4 ∧ ¬ xsi = 5 := by
    rcases es with z | z | z <;> rw [z] <;> decide
  rw [show 1000001 - st = (1000000 - st) + 1 by omega]
  unfold wX_workOut_68
  have eg' : xno.toNatClampNeg = g := by rw [eg, nI_clamp (by omega)]
  rw [eg']
  exact br_f (nI_ge (b := 1000000) hst (by omega)) (br_t en (br_f n0.1 (br_f n0.2.1 (br_f n0.2.2 ⟨by rw [eg]; exact vp_in_nI hg (by omega), br_t eU h⟩))))
theorem xs_inner {xst xow xin xpa xfi xfr xno xsi xan xkn xen xco xrm xac : Int32} {K N Z D Im W P vS pO pX pI fS fP fI fU fR fO fA fH fG fN aS qL qR qP : Nat → Int32} {post : SX → Prop} {st g p : Nat} (hst : st < 1000000) (en : xen = -1) (es : xsi = 1 ∨ xsi = 2 ∨ xsi = 3) (eg : xno = nI g) (hg : g < 600) (eU : fU g = nI p) (hp : p < 600) (h : wpX_hearInner (rn_K post st) (xst, xow, xin, xpa, xfi, xfr, xno, xsi, xan, xkn, xen, xco, xrm, xac, K, N, Z, D, Im, W, P, vS, pO, pX, pI, fS, fP, fI, fU, fR, fO, fA, fH, fG, fN, aS, qL, qR, qP)) : wX_workOut_68 post (1000001 - st) (nI st) xst xow xin xpa xfi xfr xno xsi xan xkn xen xco xrm xac K N Z D Im W P vS pO pX pI fS fP fI fU fR fO fA fH fG fN aS qL qR qP := by
  have n0 : ¬ xsi = 0 ∧ ¬ xsi = 4 ∧ ¬ xsi = 5 := by
    rcases es with z | z | z <;> rw [z] <;> decide
  rw [show 1000001 - st = (1000000 - st) + 1 by omega]
  unfold wX_workOut_68
  have eg' : xno.toNatClampNeg = g := by rw [eg, nI_clamp (by omega)]
  rw [eg', eU]
  exact br_f (nI_ge (b := 1000000) hst (by omega)) (br_t en (br_f n0.1 (br_f n0.2.1 (br_f n0.2.2 ⟨by rw [eg]; exact vp_in_nI hg (by omega), br_f (fr_n1 hp) h⟩))))
/-- the loop ends -/
theorem xs_end {xst xow xin xpa xfi xfr xno xsi xan xkn xen xco xrm xac : Int32} {K N Z D Im W P vS pO pX pI fS fP fI fU fR fO fA fH fG fN aS qL qR qP : Nat → Int32} {post : SX → Prop} {st : Nat} (hst : st < 1000001) (en : ¬ xen = -1) (h : post (xst, xow, xin, xpa, xfi, xfr, xno, xsi, xan, xkn, xen, xco, xrm, xac, K, N, Z, D, Im, W, P, vS, pO, pX, pI, fS, fP, fI, fU, fR, fO, fA, fH, fG, fN, aS, qL, qR, qP)) : wX_workOut_68 post (1000001 - st) (nI st) xst xow xin xpa xfi xfr xno xsi xan xkn xen xco xrm xac K N Z D Im W P vS pO pX pI fS fP fI fU fR fO fA fH fG fN aS qL qR qP := by
  rw [show 1000001 - st = (1000000 - st) + 1 by omega]
  unfold wX_workOut_68
  exact br_c (fun _ => h) (fun _ => br_f en h)
/-! asked -/
section
/-- whether the frame at hand is through -/
theorem xa_isThrough {xst xow xin xpa xfi xfr xno xsi xan xkn xen xco xrm xac : Int32} {K N Z D Im W P vS pO pX pI fS fP fI fU fR fO fA fH fG fN aS qL qR qP : Nat → Int32} {post : Int32 → Prop} {g q oq x gv : Nat} (eg : xno = nI g) (hg : g < 600) (eP : fP g = nI q) (hq : q < 40) (ho : oq ≤ 35) (eG : fG g = nI gv) (hgv : gv < 2 ^ 31)
    (h18 : oq = 18 → pX q = nI x ∧ x < 10 ∧ (gv < x → post 0) ∧ (x ≤ gv → post 1))
    (h1 : oq ≠ 18 → (oq < 16 ∨ oq = 16 ∨ oq = 35) → (gv = 0 → post 0) ∧ (0 < gv → post 1))
    (h0 : oq ≠ 18 → ¬ (oq < 16 ∨ oq = 16 ∨ oq = 35) → post 0) : wpX_isThrough post (xst, xow, xin, xpa, xfi, xfr, xno, xsi, xan, xkn, xen, xco, xrm, xac, K, N, Z, D, Im, W, P, vS, pO, pX, pI, fS, fP, fI, fU, fR, fO, fA, fH, fG, fN, aS, qL, qR, qP) (nI oq) := by
  subst eg
  have eg' : (nI g).toNatClampNeg = g := nI_clamp (by omega)
  have hin : vp_in (nI g) 600 := vp_in_nI hg (by omega)
  have k56 : oq ≠ 18 → (oq < 16 ∨ oq = 16 ∨ oq = 35) → wX_isThrough_56 post xst xow xin xpa xfi xfr (nI g) xsi xan xkn xen xco xrm xac K N Z D Im W P vS pO pX pI fS fP fI fU fR fO fA fH fG fN aS qL qR qP := by
    intro n18 hz
    unfold wX_isThrough_56
    rw [eg', eG]
    refine ⟨hin, pk_le gv 0 (fun z => (h1 n18 hz).1 (by omega)) (fun z => (h1 n18 hz).2 z)⟩
  unfold wpX_isThrough
  dsimp only
  rw [eg', eP, nI_clamp (show q < 2 ^ 31 by omega), eG]
  refine pk_eq oq 18 (fun e => ?_) (fun n18 => pk_lt oq 16 (fun z => k56 n18 (Or.inl z)) (fun z => pk_eq oq 16 (fun e => k56 n18 (Or.inr (Or.inl e))) (fun n16 => pk_eq oq 35 (fun e => k56 n18 (Or.inr (Or.inr e))) (fun n35 => h0 n18 (fun w => by omega)))))
  obtain ⟨e1, e2, e3, e4⟩ := h18 e
  rw [e1]
  exact ⟨hin, hin, vp_in_nI hq (by omega), pk_lt gv x e3 e4⟩
/-- asked, and through: it ends -/
theorem xa_through {xst xow xin xpa xfi xfr xno xsi xan xkn xen xco xrm xac : Int32} {K N Z D Im W P vS pO pX pI fS fP fI fU fR fO fA fH fG fN aS qL qR qP : Nat → Int32} {post : SX → Prop} {g q oq x gv : Nat} (eg : xno = nI g) (hg : g < 600) (eP : fP g = nI q) (hq : q < 40) (eO : pO q = nI oq) (ho : oq ≤ 35) (n7 : oq ≠ 7) (n15 : oq ≠ 15) (eG : fG g = nI gv) (hgv : gv < 2 ^ 31)
    (ht : (oq = 18 ∧ pX q = nI x ∧ x < 10 ∧ x ≤ gv) ∨ ((oq < 16 ∨ oq = 16 ∨ oq = 35) ∧ 0 < gv)) (hp : post (xst, xow, xin, xpa, xfi, xfr, xno, 2, xan, xkn, xen, xco, xrm, xac, K, N, Z, D, Im, W, P, vS, pO, pX, pI, fS, fP, fI, fU, fR, fO, fA, fH, fG, fN, aS, qL, qR, qP)) : wpX_ask post (xst, xow, xin, xpa, xfi, xfr, xno, xsi, xan, xkn, xen, xco, xrm, xac, K, N, Z, D, Im, W, P, vS, pO, pX, pI, fS, fP, fI, fU, fR, fO, fA, fH, fG, fN, aS, qL, qR, qP) := by
  have eg' : xno.toNatClampNeg = g := by rw [eg, nI_clamp (by omega)]
  have hin : vp_in xno 600 := by rw [eg]; exact vp_in_nI hg (by omega)
  unfold wpX_ask
  dsimp only
  rw [eg', eP, nI_clamp (show q < 2 ^ 31 by omega), eO]
  refine ⟨hin, vp_in_nI hq (by omega), nm_e (br_f (fun z => n7 ((nI_eq (b := 7) (by omega) (by omega)).mp z)) (br_f (fun z => n15 ((nI_eq (b := 15) (by omega) (by omega)).mp z)) ?_))⟩
  refine xa_isThrough (x := x) eg hg eP hq ho eG hgv (fun e => ?_) (fun n18 hz => ⟨fun z => ?_, fun _ => br_f (by decide) hp⟩) (fun n18 hz => ?_)
  · rcases ht with ⟨_, a, b, c⟩ | ⟨a, _⟩
    · exact ⟨a, b, fun z => absurd z (by omega), fun _ => br_f (by decide) hp⟩
    · omega
  · rcases ht with ⟨a, _⟩ | ⟨_, a⟩ <;> omega
  · rcases ht with ⟨a, _⟩ | ⟨a, _⟩
    · omega
    · exact absurd a hz
/-- asked, not through -/
theorem xa_go {xst xow xin xpa xfi xfr xno xsi xan xkn xen xco xrm xac : Int32} {K N Z D Im W P vS pO pX pI fS fP fI fU fR fO fA fH fG fN aS qL qR qP : Nat → Int32} {post : SX → Prop} {g q oq x gv : Nat} (eg : xno = nI g) (hg : g < 600) (eP : fP g = nI q) (hq : q < 40) (eO : pO q = nI oq) (ho : oq ≤ 35) (n7 : oq ≠ 7) (n15 : oq ≠ 15) (eG : fG g = nI gv) (hgv : gv < 2 ^ 31)
    (h18 : oq = 18 → pX q = nI x ∧ x < 10 ∧ gv < x) (h1 : (oq < 16 ∨ oq = 16 ∨ oq = 35) → gv = 0)
    (hl : oq < 16 → post (xst, xow, xin, xpa, xfi, xfr, xno, 4, xan, xkn, xen, xco, xrm, xac, K, N, Z, D, Im, W, P, vS, pO, pX, pI, fS, fP, fI, fU, fR, fO, fA, fH, (upd fG g 1), fN, aS, qL, qR, qP)) (hd : 16 ≤ oq → ¬ fA g = -1 → post (xst, xow, xin, xpa, xfi, xfr, (fA g), xsi, xan, xkn, xen, xco, xrm, xac, K, N, Z, D, Im, W, P, vS, pO, pX, pI, fS, fP, fI, fU, fR, fO, fA, fH, fG, fN, aS, qL, qR, qP)) (hb : 16 ≤ oq → fA g = -1 → wpX_begin post (xst, xow, xin, xpa, xfi, xfr, xno, xsi, xan, xkn, xen, xco, xrm, xac, K, N, Z, D, Im, W, P, vS, pO, pX, pI, fS, fP, fI, fU, fR, fO, fA, fH, fG, fN, aS, qL, qR, qP) (nI oq)) : wpX_ask post (xst, xow, xin, xpa, xfi, xfr, xno, xsi, xan, xkn, xen, xco, xrm, xac, K, N, Z, D, Im, W, P, vS, pO, pX, pI, fS, fP, fI, fU, fR, fO, fA, fH, fG, fN, aS, qL, qR, qP) := by
  have eg' : xno.toNatClampNeg = g := by rw [eg, nI_clamp (by omega)]
  have hin : vp_in xno 600 := by rw [eg]; exact vp_in_nI hg (by omega)
  have fin : (((0 : Int32) = 0 → (((15 < nI oq → (vp_in xno 600 ∧ (((fA g = (-1) → (wpX_begin post (xst, xow, xin, xpa, xfi, xfr, xno, xsi, xan, xkn, xen, xco, xrm, xac, K, N, Z, D, Im, W, P, vS, pO, pX, pI, fS, fP, fI, fU, fR, fO, fA, fH, fG, fN, aS, qL, qR, qP) (nI oq))) ∧ (¬ fA g = (-1) → (vp_in xno 600 ∧ (∀ y, y = fA g → post (xst, xow, xin, xpa, xfi, xfr, y, xsi, xan, xkn, xen, xco, xrm, xac, K, N, Z, D, Im, W, P, vS, pO, pX, pI, fS, fP, fI, fU, fR, fO, fA, fH, fG, fN, aS, qL, qR, qP)))))))) ∧ (¬ 15 < nI oq → (vp_in xno 600 ∧ (∀ y, y = upd fG g 1 → post (xst, xow, xin, xpa, xfi, xfr, xno, 4, xan, xkn, xen, xco, xrm, xac, K, N, Z, D, Im, W, P, vS, pO, pX, pI, fS, fP, fI, fU, fR, fO, fA, fH, y, fN, aS, qL, qR, qP))))))) ∧ (¬ (0 : Int32) = 0 → (post (xst, xow, xin, xpa, xfi, xfr, xno, 2, xan, xkn, xen, xco, xrm, xac, K, N, Z, D, Im, W, P, vS, pO, pX, pI, fS, fP, fI, fU, fR, fO, fA, fH, fG, fN, aS, qL, qR, qP)))) := by
    refine br_t rfl (pk_lt 15 oq (fun z => ⟨hin, br_c (fun e => hb z e) (fun ne => ⟨hin, nm_e (hd z ne)⟩)⟩) (fun z => ⟨hin, nm_e (hl (by omega))⟩))
  unfold wpX_ask
  dsimp only
  rw [eg', eP, nI_clamp (show q < 2 ^ 31 by omega), eO]
  refine ⟨hin, vp_in_nI hq (by omega), nm_e (br_f (fun z => n7 ((nI_eq (b := 7) (by omega) (by omega)).mp z)) (br_f (fun z => n15 ((nI_eq (b := 15) (by omega) (by omega)).mp z)) ?_))⟩
  refine xa_isThrough (x := x) eg hg eP hq ho eG hgv (fun e => ?_) (fun n18 hz => ⟨fun _ => fin, fun z => ?_⟩) (fun n18 hz => fin)
  · obtain ⟨a, b, c⟩ := h18 e
    exact ⟨a, b, fun _ => fin, fun z => absurd z (by omega)⟩
  · have := h1 hz
    omega
end
