/-! ===== filters are pushed ===== -/
def fl_w (pI fS : Nat → Int32) (np lt : Nat) : Nat → Nat → Int32
  | 0 => pI
  | r + 1 => upd (fl_w pI fS np lt r) (np * 3 + r) (fS (lt + r))
theorem fl_w_lo {pI fS : Nat → Int32} {np lt j : Nat} (hj : j < np * 3) : ∀ r, fl_w pI fS np lt r j = pI j
  | 0 => rfl
  | r + 1 => by rw [fl_w, pk_un (by omega)]; exact fl_w_lo hj r
theorem fl_w_at {pI fS : Nat → Int32} {np lt i : Nat} : ∀ r, i < r → fl_w pI fS np lt r (np * 3 + i) = fS (lt + i)
  | 0, h => absurd h (by omega)
  | r + 1, h => by
    rw [fl_w]
    by_cases e : i = r
    · subst e; rw [pk_us]
    · rw [pk_un (by omega)]; exact fl_w_at r (by omega)
theorem fl_a1 {nf t r : Nat} (h : r < t) (ht : t ≤ nf) : nf - t + r < nf := by omega
theorem fl_a2 {q np r : Nat} (hq : q < np) (hr : r < 3) : q * 3 + r < np * 3 := by omega
theorem fl_ar3 (o : Nat) : fl_ar o ≤ 3 := by unfold fl_ar; split <;> (try split) <;> (try split) <;> omega
theorem fl_a3 {i nf t : Nat} (hi : i < nf - t + 1) (e : i ≠ nf - t) (ht : t ≤ nf) : i < nf := by omega
theorem xm_pushPart {xst xow xin xpa xfi xfr xno xsi xan xkn xen xco xrm xac : Int32} {K N Z D Im W P vS pO pX pI fS fP fI fU fR fO fA fH fG fN aS qL qR qP : Nat → Int32} {post : Int32 → SX → Prop} {np nf t : Nat} {op x : Int32} (ep : xpa = nI np) (ef : xfi = nI nf) (hnp : np < 40) (ht : t ≤ nf) (ht3 : t ≤ 3) (hf8 : nf ≤ 8) (hl : nf - t < 8)
    (hp : post (nI (nf - t + 1)) (xst, xow, xin, (nI (np + 1)), (nI (nf - t + 1)), xfr, xno, xsi, xan, 0, xen, xco, xrm, xac, K, N, Z, D, Im, W, P, vS, (upd pO np op), (upd pX np x), (fl_w pI fS np (nf - t) t), (upd fS (nf - t) (nI np)), fP, fI, fU, fR, fO, fA, fH, fG, fN, aS, qL, qR, qP)) : wpX_pushPart post (xst, xow, xin, xpa, xfi, xfr, xno, xsi, xan, xkn, xen, xco, xrm, xac, K, N, Z, D, Im, W, P, vS, pO, pX, pI, fS, fP, fI, fU, fR, fO, fA, fH, fG, fN, aS, qL, qR, qP) op x (nI t) := by
  subst ep ef
  have ec : (nI np).toNatClampNeg = np := nI_clamp (by omega)
  have el : (nI (nf - t)).toNatClampNeg = nf - t := nI_clamp (by omega)
  have hin : vp_in (nI np) 40 := vp_in_nI hnp (by omega)
  have key : ∀ r i, i + r = t → wX_pushPart_54 post (nI t) (nI (nf - t)) xst xow xin (nI np) (nI nf) xfr xno xsi xan xkn xen xco xrm xac (r + 1) (nI i) K N Z D Im W P vS (upd pO np op) (upd pX np x) (fl_w pI fS np (nf - t) i) fS fP fI fU fR fO fA fH fG fN aS qL qR qP := by
    intro r
    induction r with
    | zero =>
      intro i hi
      have hi' : i = t := by omega
      subst hi'
      unfold wX_pushPart_54
      rw [el, nI_1, nI_1]
      exact br_t (nI_le (Nat.le_refl _) (by omega)) ⟨vp_in_nI hl (by omega), nm_e (nm_e (nm_e hp))⟩
    | succ r ih =>
      intro i hi
      unfold wX_pushPart_54
      rw [nI_add, xi_3, nI_clamp (show nf - t + i < 2 ^ 31 by omega), nI_clamp (show np * 3 + i < 2 ^ 31 by omega)]
      exact br_f (nI_ge (by omega) (by omega)) ⟨vp_in_nI (by omega) (by omega), vp_in_nI (by omega) (by omega), nm_e (nm_r (nI_1 i) (ih (i + 1) (by omega)))⟩
  unfold wpX_pushPart
  dsimp only
  rw [ec, pk_sub ht]
  exact br_t (nI_lt (b := 40) hnp (by omega)) (br_t (nI_le ht (by omega)) (nm_e ⟨hin, nm_e ⟨hin, nm_e ⟨_, key t 0 (by omega)⟩⟩⟩))
theorem yi_3 (s i : Nat) : 3 * nI s + nI i = nI (s * 3 + i) := by
  show nI 3 * nI s + nI i = _
  rw [pk_mul, nI_add, Nat.mul_comm]
theorem ym_push {yma ypo yhe yvm : Int32} {yin : Int64} {yfi yde yap yas yto : Int32} {yan : Int64} {yco yti yna yac yen yic : Int32} {o l kS d : Nat → Int32} {pl ys : Nat → Int64} {yk yn yp yf yo : Nat → Int32} {yi : Nat → Int64} {yw ya y1 y2 : Nat → Int32} {yK : Nat → Int64} {yW : Nat → Int32} {yL : Nat → Int64} {yq nm : Nat → Int32} {nv : Nat → Int64} {no : Nat → Int32} {yA lf rt : Nat → Int64} {iK iN : Nat → Int32} {post : Int32 → SY → Prop} {np nf t : Nat} {op x : Int32} (ep : yfi = nI np) (ef : yde = nI nf) (hnp : np < 40) (ht : t ≤ nf) (ht3 : t ≤ 3) (hf8 : nf ≤ 8) (hl : nf - t < 8)
    (hp : post (nI (nf - t + 1)) (yma, ypo, yhe, yvm, yin, (nI (np + 1)), (nI (nf - t + 1)), yap, yas, yto, yan, yco, yti, yna, yac, yen, yic, o, l, kS, d, pl, ys, (upd yk np op), (upd yn np x), (fl_w yp yf np (nf - t) t), (upd yf (nf - t) (nI np)), yo, yi, yw, ya, y1, y2, yK, yW, yL, yq, nm, nv, no, yA, lf, rt, iK, iN)) : wpY_push post (yma, ypo, yhe, yvm, yin, yfi, yde, yap, yas, yto, yan, yco, yti, yna, yac, yen, yic, o, l, kS, d, pl, ys, yk, yn, yp, yf, yo, yi, yw, ya, y1, y2, yK, yW, yL, yq, nm, nv, no, yA, lf, rt, iK, iN) op x (nI t) := by
  subst ep ef
  have ec : (nI np).toNatClampNeg = np := nI_clamp (by omega)
  have el : (nI (nf - t)).toNatClampNeg = nf - t := nI_clamp (by omega)
  have hin : vp_in (nI np) 40 := vp_in_nI hnp (by omega)
  have key : ∀ r i, i + r = t → wY_push_49 post op x (nI t) yma ypo yhe yvm yin (nI np) (nI (nf - t)) yap yas yto yan yco yti yna yac yen yic (r + 1) (nI i) o l kS d pl ys yk yn (fl_w yp yf np (nf - t) i) yf yo yi yw ya y1 y2 yK yW yL yq nm nv no yA lf rt iK iN := by
    intro r
    induction r with
    | zero =>
      intro i hi
      have hi' : i = t := by omega
      subst hi'
      unfold wY_push_49
      rw [el, ec, nI_1, nI_1]
      exact br_t (nI_le (Nat.le_refl _) (by omega)) ⟨hin, nm_e ⟨hin, nm_e ⟨vp_in_nI hl (by omega), nm_e (nm_e (nm_e hp))⟩⟩⟩
    | succ r ih =>
      intro i hi
      unfold wY_push_49
      rw [nI_add, yi_3, nI_clamp (show nf - t + i < 2 ^ 31 by omega), nI_clamp (show np * 3 + i < 2 ^ 31 by omega)]
      exact br_f (nI_ge (by omega) (by omega)) ⟨vp_in_nI (by omega) (by omega), vp_in_nI (by omega) (by omega), nm_e (nm_r (nI_1 i) (ih (i + 1) (by omega)))⟩
  have k25 : wY_push_25 post op x (nI t) yma ypo yhe yvm yin (nI np) (nI nf) yap yas yto yan yco yti yna yac yen yic o l kS d pl ys yk yn yp yf yo yi yw ya y1 y2 yK yW yL yq nm nv no yA lf rt iK iN := by
    unfold wY_push_25
    rw [pk_sub ht]
    exact br_t (nI_le ht (by omega)) (nm_e ⟨_, key t 0 (by omega)⟩)
  unfold wpY_push
  dsimp only
  refine br_f (fun z => absurd ((nI_eq (b := 40) (by omega) (by omega)).mp z) (by omega)) ?_
  refine br_c (fun z => br_f (fun z' => ?_) k25) (fun _ => k25)
  have h0 := (nI_eq (b := 0) (by omega) (by omega)).mp z
  have h8 := (nI_eq (b := 8) (by omega) (by omega)).mp z'
  omega
/-- what is refused on both sides, whatever is pushed -/
theorem xm_push40 {xst xow xin xpa xfi xfr xno xsi xan xkn xen xco xrm xac : Int32} {K N Z D Im W P vS pO pX pI fS fP fI fU fR fO fA fH fG fN aS qL qR qP : Nat → Int32} {post : Int32 → SX → Prop} {op x t : Int32} (ep : xpa = nI 40) (hp : post (-1000000002) (xst, xow, xin, xpa, xfi, xfr, xno, xsi, xan, xkn, xen, xco, xrm, xac, K, N, Z, D, Im, W, P, vS, pO, pX, pI, fS, fP, fI, fU, fR, fO, fA, fH, fG, fN, aS, qL, qR, qP)) : wpX_pushPart post (xst, xow, xin, xpa, xfi, xfr, xno, xsi, xan, xkn, xen, xco, xrm, xac, K, N, Z, D, Im, W, P, vS, pO, pX, pI, fS, fP, fI, fU, fR, fO, fA, fH, fG, fN, aS, qL, qR, qP) op x t := by
  subst ep
  unfold wpX_pushPart
  dsimp only
  exact br_f (nI_nlt (a := 40) (b := 40) (Nat.le_refl _) (by omega)) hp
theorem xm_pushFew {xst xow xin xpa xfi xfr xno xsi xan xkn xen xco xrm xac : Int32} {K N Z D Im W P vS pO pX pI fS fP fI fU fR fO fA fH fG fN aS qL qR qP : Nat → Int32} {post : Int32 → SX → Prop} {np nf t : Nat} {op x : Int32} (ep : xpa = nI np) (ef : xfi = nI nf) (hnp : np < 40) (ht : nf < t) (ht3 : t ≤ 3) (hp : post (-1000000003) (xst, xow, xin, xpa, xfi, xfr, xno, xsi, xan, xkn, xen, xco, xrm, xac, K, N, Z, D, Im, W, P, vS, pO, pX, pI, fS, fP, fI, fU, fR, fO, fA, fH, fG, fN, aS, qL, qR, qP)) : wpX_pushPart post (xst, xow, xin, xpa, xfi, xfr, xno, xsi, xan, xkn, xen, xco, xrm, xac, K, N, Z, D, Im, W, P, vS, pO, pX, pI, fS, fP, fI, fU, fR, fO, fA, fH, fG, fN, aS, qL, qR, qP) op x (nI t) := by
  subst ep ef
  unfold wpX_pushPart
  dsimp only
  exact br_t (nI_lt (b := 40) hnp (by omega)) (br_f (nI_ge ht (by omega)) hp)
theorem ym_push40 {yma ypo yhe yvm : Int32} {yin : Int64} {yfi yde yap yas yto : Int32} {yan : Int64} {yco yti yna yac yen yic : Int32} {o l kS d : Nat → Int32} {pl ys : Nat → Int64} {yk yn yp yf yo : Nat → Int32} {yi : Nat → Int64} {yw ya y1 y2 : Nat → Int32} {yK : Nat → Int64} {yW : Nat → Int32} {yL : Nat → Int64} {yq nm : Nat → Int32} {nv : Nat → Int64} {no : Nat → Int32} {yA lf rt : Nat → Int64} {iK iN : Nat → Int32} {post : Int32 → SY → Prop} {op x t : Int32} (ep : yfi = nI 40) (hp : post (-1000000002) (yma, ypo, yhe, yvm, yin, yfi, yde, yap, yas, yto, yan, yco, yti, yna, yac, yen, yic, o, l, kS, d, pl, ys, yk, yn, yp, yf, yo, yi, yw, ya, y1, y2, yK, yW, yL, yq, nm, nv, no, yA, lf, rt, iK, iN)) : wpY_push post (yma, ypo, yhe, yvm, yin, yfi, yde, yap, yas, yto, yan, yco, yti, yna, yac, yen, yic, o, l, kS, d, pl, ys, yk, yn, yp, yf, yo, yi, yw, ya, y1, y2, yK, yW, yL, yq, nm, nv, no, yA, lf, rt, iK, iN) op x t := by
  subst ep
  unfold wpY_push
  dsimp only
  exact br_t rfl hp
theorem ym_pushFew {yma ypo yhe yvm : Int32} {yin : Int64} {yfi yde yap yas yto : Int32} {yan : Int64} {yco yti yna yac yen yic : Int32} {o l kS d : Nat → Int32} {pl ys : Nat → Int64} {yk yn yp yf yo : Nat → Int32} {yi : Nat → Int64} {yw ya y1 y2 : Nat → Int32} {yK : Nat → Int64} {yW : Nat → Int32} {yL : Nat → Int64} {yq nm : Nat → Int32} {nv : Nat → Int64} {no : Nat → Int32} {yA lf rt : Nat → Int64} {iK iN : Nat → Int32} {post : Int32 → SY → Prop} {np nf t : Nat} {op x : Int32} (ep : yfi = nI np) (ef : yde = nI nf) (hnp : np < 40) (ht : nf < t) (ht3 : t ≤ 3) (hp : post (-1000000003) (yma, ypo, yhe, yvm, yin, yfi, yde, yap, yas, yto, yan, yco, yti, yna, yac, yen, yic, o, l, kS, d, pl, ys, yk, yn, yp, yf, yo, yi, yw, ya, y1, y2, yK, yW, yL, yq, nm, nv, no, yA, lf, rt, iK, iN)) : wpY_push post (yma, ypo, yhe, yvm, yin, yfi, yde, yap, yas, yto, yan, yco, yti, yna, yac, yen, yic, o, l, kS, d, pl, ys, yk, yn, yp, yf, yo, yi, yw, ya, y1, y2, yK, yW, yL, yq, nm, nv, no, yA, lf, rt, iK, iN) op x (nI t) := by
  subst ep ef
  unfold wpY_push
  dsimp only
  refine br_f (fun z => absurd ((nI_eq (b := 40) (by omega) (by omega)).mp z) (by omega)) (br_f (nI_ne0 (by omega) (by omega)) ?_)
  unfold wY_push_25
  exact br_f (nI_ge ht (by omega)) hp
/-- the filters behind a push -/
theorem rl_f_push {np nf t o : Nat} {xpa xfi yfi yde x : Int32} {pO pX pI fS yk yn yp yf : Nat → Int32} (h : rl_f np nf xpa xfi pO pX pI fS yfi yde yk yn yp yf) (hnp : np < 40) (ht : t ≤ nf) (hl : nf - t < 8) (ho : o ≤ 35) (ha : fl_ar o = t)
    (hx : (o = 5 → ∃ m, m < 8 ∧ x = nI m) ∧ (o = 6 → -10 ≤ x.toInt ∧ x.toInt ≤ 9) ∧ (o = 13 → ∃ m, m < 3 ∧ x = nI m) ∧ (o = 18 → ∃ m, m < 10 ∧ x = nI m) ∧ (o = 20 → ∃ m, m < 8 ∧ x = nI m) ∧ (o = 33 → ∃ m, m < 3 ∧ x = nI m) ∧ (o = 35 → ∃ m, m < 3 ∧ x = nI m)) :
    rl_f (np + 1) (nf - t + 1) (nI (np + 1)) (nI (nf - t + 1)) (upd pO np (nI o)) (upd pX np x) (fl_w pI fS np (nf - t) t) (upd fS (nf - t) (nI np)) (nI (np + 1)) (nI (nf - t + 1)) (upd yk np (nI (fl_kk o))) (upd yn np x) (fl_w yp yf np (nf - t) t) (upd yf (nf - t) (nI np)) := by
  obtain ⟨f1, f2, f3, f4, f5, f6, rfl, rfl, rfl, f10, f11⟩ := h
  refine ⟨rfl, rfl, hnp, rfl, rfl, hl, rfl, rfl, rfl, fun q hq => ?_, fun i hi => ?_⟩
  · by_cases e : q = np
    · subst e
      refine ⟨o, ho, pk_us, pk_us, fun r hr => ?_, ?_⟩
      · have hr' : r < t := by rw [← ha]; exact hr
        rw [fl_w_at t hr']
        exact f11 _ (fl_a1 hr' ht)
      · rw [pk_us]
        exact hx
    · obtain ⟨o', a1, a2, a3, a4, a5⟩ := f10 q (Nat.lt_of_le_of_ne (Nat.le_of_lt_succ hq) e)
      refine ⟨o', a1, (pk_un e).trans a2, (pk_un e).trans a3, fun r hr => ?_, ?_⟩
      · rw [fl_w_lo (fl_a2 (Nat.lt_of_le_of_ne (Nat.le_of_lt_succ hq) e) (Nat.lt_of_lt_of_le hr (fl_ar3 o'))) t]
        exact a4 r hr
      · rw [pk_un e]
        exact a5
  · by_cases e : i = nf - t
    · subst e
      exact ⟨np, pk_us, Nat.lt_succ_self _⟩
    · rw [pk_un e]
      obtain ⟨c, c1, c2⟩ := f11 i (fl_a3 hi e ht)
      exact ⟨c, c1, Nat.lt_succ_of_lt c2⟩
