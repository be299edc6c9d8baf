/-! ===== values are made of answers ===== -/
theorem xk_20' {xst xow xin xpa xfi xfr xno xsi xan xkn xen xco xrm xac : Int32} {K N Z D Im W P vS pO pX pI fS fP fI fU fR fO fA fH fG fN aS qL qR qP : Nat → Int32} {post : SX → Prop} {g pq c : Nat} (eg : xno = nI g) (hg : g < 600) (eP : fP g = nI pq) (hpq : pq < 40) (eO : pO pq = nI 20) (ec : xco = nI c) (hc : c < 600) (hA : ∀ Q : SX → Prop, (∀ (xst' xow' xin' xpa' xfi' xfr' xno' xsi' xan' xkn' xen' xco' xrm' xac' : Int32) (K' N' Z' D' Im' W' P' vS' pO' pX' pI' fS' fP' fI' fU' fR' fO' fA' fH' fG' fN' aS' qL' qR' qP' : Nat → Int32), post (xst', xow', xin', xpa', xfi', xfr', xno', xsi', xan', xkn', xen', xco', xrm', xac', K', N', Z', D', Im', W', P', vS', pO', pX', pI', fS', fP', fI', fU', fR', fO', fA', fH', fG', fN', aS', qL', qR', qP') → Q (xst', xow', xin', xpa', xfi', xfr', xno', xsi', xan', xkn', xen', xco', xrm', xac', K', N', Z', D', Im', W', P', vS', pO', pX', pI', fS', fP', fI', fU', fR', fO', fA', fH', fG', fN', aS', qL', qR', qP')) → wpX_makeObject Q (xst, xow, xin, xpa, xfi, xfr, xno, xsi, xan, xkn, xen, (nI (c + 1)), xrm, xac, K, N, Z, D, Im, W, P, vS, pO, pX, pI, fS, fP, fI, fU, fR, fO, fA, fH, fG, fN, aS, qL, qR, qP) xan) : wpX_makeCounted post (xst, xow, xin, xpa, xfi, xfr, xno, xsi, xan, xkn, xen, xco, xrm, xac, K, N, Z, D, Im, W, P, vS, pO, pX, pI, fS, fP, fI, fU, fR, fO, fA, fH, fG, fN, aS, qL, qR, qP) := by
  subst eg
  have eg' : (nI g).toNatClampNeg = g := nI_clamp (by omega)
  have hin : vp_in (nI g) 600 := vp_in_nI hg (by omega)
  have hiq : vp_in (nI pq) 40 := vp_in_nI hpq (by omega)
  unfold wpX_makeCounted
  dsimp only
  refine xr_counts ec hc ?_
  dsimp only
  rw [eg', eP, nI_clamp (show pq < 2 ^ 31 by omega), eO]
  refine br_f (by decide) ⟨hin, hiq, nm_e ⟨hin, nm_e ?_⟩⟩
  refine br_t rfl (hA _ ?_)
  intros
  assumption
theorem xk_23' {xst xow xin xpa xfi xfr xno xsi xan xkn xen xco xrm xac : Int32} {K N Z D Im W P vS pO pX pI fS fP fI fU fR fO fA fH fG fN aS qL qR qP : Nat → Int32} {post : SX → Prop} {g pq c : Nat} (eg : xno = nI g) (hg : g < 600) (eP : fP g = nI pq) (hpq : pq < 40) (eO : pO pq = nI 23) (ec : xco = nI c) (hc : c < 600) (hA : ∀ Q : SX → Prop, (∀ (xst' xow' xin' xpa' xfi' xfr' xno' xsi' xan' xkn' xen' xco' xrm' xac' : Int32) (K' N' Z' D' Im' W' P' vS' pO' pX' pI' fS' fP' fI' fU' fR' fO' fA' fH' fG' fN' aS' qL' qR' qP' : Nat → Int32), post (xst', xow', xin', xpa', xfi', xfr', xno', xsi', xan', xkn', xen', xco', xrm', xac', K', N', Z', D', Im', W', P', vS', pO', pX', pI', fS', fP', fI', fU', fR', fO', fA', fH', fG', fN', aS', qL', qR', qP') → Q (xst', xow', xin', xpa', xfi', xfr', xno', xsi', xan', xkn', xen', xco', xrm', xac', K', N', Z', D', Im', W', P', vS', pO', pX', pI', fS', fP', fI', fU', fR', fO', fA', fH', fG', fN', aS', qL', qR', qP')) → wpX_makeSum Q (xst, xow, xin, xpa, xfi, xfr, xno, xsi, xan, xkn, xen, (nI (c + 1)), xrm, xac, K, N, Z, D, Im, W, P, vS, pO, pX, pI, fS, fP, fI, fU, fR, fO, fA, fH, fG, fN, aS, qL, qR, qP) (fH g) xan) : wpX_makeCounted post (xst, xow, xin, xpa, xfi, xfr, xno, xsi, xan, xkn, xen, xco, xrm, xac, K, N, Z, D, Im, W, P, vS, pO, pX, pI, fS, fP, fI, fU, fR, fO, fA, fH, fG, fN, aS, qL, qR, qP) := by
  subst eg
  have eg' : (nI g).toNatClampNeg = g := nI_clamp (by omega)
  have hin : vp_in (nI g) 600 := vp_in_nI hg (by omega)
  have hiq : vp_in (nI pq) 40 := vp_in_nI hpq (by omega)
  unfold wpX_makeCounted
  dsimp only
  refine xr_counts ec hc ?_
  dsimp only
  rw [eg', eP, nI_clamp (show pq < 2 ^ 31 by omega), eO]
  refine br_f (by decide) ⟨hin, hiq, nm_e ⟨hin, nm_e ?_⟩⟩
  refine br_f (by decide) (br_f (by decide) (br_f (by decide) (br_f (by decide) (br_f (by decide) (br_t rfl (hA _ ?_))))))
  intros
  assumption
theorem xk_24' {xst xow xin xpa xfi xfr xno xsi xan xkn xen xco xrm xac : Int32} {K N Z D Im W P vS pO pX pI fS fP fI fU fR fO fA fH fG fN aS qL qR qP : Nat → Int32} {post : SX → Prop} {g pq c : Nat} (eg : xno = nI g) (hg : g < 600) (eP : fP g = nI pq) (hpq : pq < 40) (eO : pO pq = nI 24) (ec : xco = nI c) (hc : c < 600) {s t κ κ' : Nat} (eh : fH g = nI s) (ea : xan = nI t) (hs : s < 653) (ht : t < 653) (eK : K s = nI κ) (eK' : K t = nI κ') (hκ : κ ≤ 5) (hκ' : κ' ≤ 5) (hN : κ = 3 → κ' = 3 → ∀ Q : SX → Prop, (∀ (xst' xow' xin' xpa' xfi' xfr' xno' xsi' xan' xkn' xen' xco' xrm' xac' : Int32) (K' N' Z' D' Im' W' P' vS' pO' pX' pI' fS' fP' fI' fU' fR' fO' fA' fH' fG' fN' aS' qL' qR' qP' : Nat → Int32), post (xst', xow', xin', xpa', xfi', xfr', xno', xsi', xan', xkn', xen', xco', xrm', xac', K', N', Z', D', Im', W', P', vS', pO', pX', pI', fS', fP', fI', fU', fR', fO', fA', fH', fG', fN', aS', qL', qR', qP') → Q (xst', xow', xin', xpa', xfi', xfr', xno', xsi', xan', xkn', xen', xco', xrm', xac', K', N', Z', D', Im', W', P', vS', pO', pX', pI', fS', fP', fI', fU', fR', fO', fA', fH', fG', fN', aS', qL', qR', qP')) → wpX_makeNumber Q (xst, xow, xin, xpa, xfi, xfr, xno, xsi, xan, xkn, xen, (nI (c + 1)), xrm, xac, K, N, Z, D, Im, W, P, vS, pO, pX, pI, fS, fP, fI, fU, fR, fO, fA, fH, fG, fN, aS, qL, qR, qP) (nI 24) (N s) (N t)) (hW : κ = 4 → κ' = 4 → ∀ Q : SX → Prop, (∀ (xst' xow' xin' xpa' xfi' xfr' xno' xsi' xan' xkn' xen' xco' xrm' xac' : Int32) (K' N' Z' D' Im' W' P' vS' pO' pX' pI' fS' fP' fI' fU' fR' fO' fA' fH' fG' fN' aS' qL' qR' qP' : Nat → Int32), post (xst', xow', xin', xpa', xfi', xfr', xno', xsi', xan', xkn', xen', xco', xrm', xac', K', N', Z', D', Im', W', P', vS', pO', pX', pI', fS', fP', fI', fU', fR', fO', fA', fH', fG', fN', aS', qL', qR', qP') → Q (xst', xow', xin', xpa', xfi', xfr', xno', xsi', xan', xkn', xen', xco', xrm', xac', K', N', Z', D', Im', W', P', vS', pO', pX', pI', fS', fP', fI', fU', fR', fO', fA', fH', fG', fN', aS', qL', qR', qP')) → wpX_makeWithout Q (xst, xow, xin, xpa, xfi, xfr, xno, xsi, xan, xkn, xen, (nI (c + 1)), xrm, xac, K, N, Z, D, Im, W, P, vS, pO, pX, pI, fS, fP, fI, fU, fR, fO, fA, fH, fG, fN, aS, qL, qR, qP) (nI s) (nI t)) (he : ¬ (κ = 3 ∧ κ' = 3) → ¬ (κ = 4 ∧ κ' = 4) → post (xst, xow, xin, xpa, xfi, xfr, xno, 3, xan, xkn, xen, (nI (c + 1)), xrm, xac, K, N, Z, D, Im, W, P, vS, pO, pX, pI, fS, fP, fI, fU, fR, fO, fA, fH, fG, fN, aS, qL, qR, qP)) : wpX_makeCounted post (xst, xow, xin, xpa, xfi, xfr, xno, xsi, xan, xkn, xen, xco, xrm, xac, K, N, Z, D, Im, W, P, vS, pO, pX, pI, fS, fP, fI, fU, fR, fO, fA, fH, fG, fN, aS, qL, qR, qP) := by
  subst eg
  have eg' : (nI g).toNatClampNeg = g := nI_clamp (by omega)
  have hin : vp_in (nI g) 600 := vp_in_nI hg (by omega)
  have hiq : vp_in (nI pq) 40 := vp_in_nI hpq (by omega)
  have his : vp_in (nI s) 653 := vp_in_nI hs (by omega)
  have hit : vp_in (nI t) 653 := vp_in_nI ht (by omega)
  have es : (nI s).toNatClampNeg = s := nI_clamp (by omega)
  have et : (nI t).toNatClampNeg = t := nI_clamp (by omega)
  subst ea
  have k199 : ¬ (κ = 3 ∧ κ' = 3) → wX_makeCounted_199 post (nI 24) (nI s) (nI t) xst xow xin xpa xfi xfr (nI g) xsi (nI t) xkn xen (nI (c + 1)) xrm xac K N Z D Im W P vS pO pX pI fS fP fI fU fR fO fA fH fG fN aS qL qR qP := by
    intro hn
    unfold wX_makeCounted_199
    rw [es, et, eK, eK']
    refine br_t rfl ⟨his, pk_eq κ 4 (fun z => ⟨hit, pk_eq κ' 4 (fun z2 => hW z z2 _ ?_) (fun z2 => he hn (by omega))⟩) (fun z => he hn (by omega))⟩
    intros
    assumption
  unfold wpX_makeCounted
  dsimp only
  refine xr_counts ec hc ?_
  dsimp only
  rw [eg', eP, nI_clamp (show pq < 2 ^ 31 by omega), eO]
  refine br_f (by decide) ⟨hin, hiq, nm_e ⟨hin, nm_e ?_⟩⟩
  rw [eh, es, et, eK, eK']
  refine br_f (by decide) (br_f (by decide) (br_f (by decide) (br_f (by decide) (br_f (by decide) (br_f (by decide) (⟨his, pk_eq κ 3 (fun z => ⟨hit, pk_eq κ' 3 (fun z2 => ⟨his, hit, hN z z2 _ ?_⟩) (fun z2 => k199 (by omega))⟩) (fun z => k199 (by omega))⟩))))))
  intros
  assumption
theorem yh_0o' {yma ypo yhe yvm : Int32} {yin : Int64} {yfi yde yap yas yto : Int32} {yan : Int64} {yco yti yna yac yen yic : Int32} {o l kS d : Nat → Int32} {pl ys : Nat → Int64} {yk yn yp yf yo : Nat → Int32} {yi : Nat → Int64} {yw ya y1 y2 : Nat → Int32} {yK : Nat → Int64} {yW : Nat → Int32} {yL : Nat → Int64} {yq nm : Nat → Int32} {nv : Nat → Int64} {no : Nat → Int32} {yA lf rt : Nat → Int64} {iK iN : Nat → Int32} {post : SY → Prop} {g q kk f : Nat} (hg : g < 600) (eo : yo g = nI q) (hq : q < 40) (ek : yk q = nI kk) (h30 : 30 ≤ kk) (h50 : kk ≤ 50) (e2 : y2 g = nI f) (hf : f < 600) {c : Nat} (et : yto = 0) (h32 : 32 ≤ kk) (h38 : kk ≤ 38) (ec : yco = nI c) (hc : c < 600) (hA : ∀ Q : SY → Prop, (∀ (yma' ypo' yhe' yvm' : Int32) (yin' : Int64) (yfi' yde' yap' yas' yto' : Int32) (yan' : Int64) (yco' yti' yna' yac' yen' yic' : Int32) (o' l' kS' d' : Nat → Int32) (pl' ys' : Nat → Int64) (yk' yn' yp' yf' yo' : Nat → Int32) (yi' : Nat → Int64) (yw' ya' y1' y2' : Nat → Int32) (yK' : Nat → Int64) (yW' : Nat → Int32) (yL' : Nat → Int64) (yq' nm' : Nat → Int32) (nv' : Nat → Int64) (no' : Nat → Int32) (yA' lf' rt' : Nat → Int64) (iK' iN' : Nat → Int32), post (yma', ypo', yhe', yvm', yin', yfi', yde', yap', yas', yto', yan', yco', yti', yna', yac', yen', yic', o', l', kS', d', pl', ys', yk', yn', yp', yf', yo', yi', yw', ya', y1', y2', yK', yW', yL', yq', nm', nv', no', yA', lf', rt', iK', iN') → Q (yma', ypo', yhe', yvm', yin', yfi', yde', yap', yas', yto', yan', yco', yti', yna', yac', yen', yic', o', l', kS', d', pl', ys', yk', yn', yp', yf', yo', yi', yw', ya', y1', y2', yK', yW', yL', yq', nm', nv', no', yA', lf', rt', iK', iN')) → wpY_operate Q (yma, ypo, yhe, yvm, yin, yfi, yde, yap, yas, yto, yan, (nI (c + 1)), yti, yna, yac, yen, yic, o, l, kS, d, pl, ys, yk, yn, yp, yf, yo, yi, yw, ya, y1, y2, yK, yW, yL, yq, nm, nv, no, yA, lf, rt, iK, iN) (nI kk) (yK g) yan) : wpY_goOn post (yma, ypo, yhe, yvm, yin, yfi, yde, yap, yas, yto, yan, yco, yti, yna, yac, yen, yic, o, l, kS, d, pl, ys, yk, yn, yp, yf, yo, yi, yw, ya, y1, y2, yK, yW, yL, yq, nm, nv, no, yA, lf, rt, iK, iN) (nI g) := by
  have eg' : (nI g).toNatClampNeg = g := nI_clamp (by omega)
  have hin : vp_in (nI g) 601 := vp_in_nI (by omega) (by omega)
  have hiq : vp_in (nI q) 40 := vp_in_nI hq (by omega)
  refine yg_pre hg eo hq ek (by omega) (fun w => absurd w (by omega)) (fun e => absurd e (by omega)) (fun _ _ w => absurd w (by rw [e2]; exact nI_pos (by omega))) (fun _ _ _ => ?_)
  unfold wpY_goOnSecond
  dsimp only
  rw [eg']
  have h40 : kk ≤ 40 := by omega
  refine br_f (by rw [et]; decide) (br_f (by rw [et]; decide) (ym_isIn (fun w => absurd w (fun w => w.elim (nI_nlt (b := 32) h32 (by omega)) (nI_nlt (a := 40) h40 (by omega)))) (fun _ _ => br_f (by decide) (yr_count ec hc ?_))))
  dsimp only
  refine br_f (by decide) (br_t (nI_le (b := 38) h38 (by omega)) ⟨hin, hA _ ?_⟩)
  intros
  assumption
theorem yp_arr' {yma ypo yhe yvm : Int32} {yin : Int64} {yfi yde yap yas yto : Int32} {yan : Int64} {yco yti yna yac yen yic : Int32} {o l kS d : Nat → Int32} {pl ys : Nat → Int64} {yk yn yp yf yo : Nat → Int32} {yi : Nat → Int64} {yw ya y1 y2 : Nat → Int32} {yK : Nat → Int64} {yW : Nat → Int32} {yL : Nat → Int64} {yq nm : Nat → Int32} {nv : Nat → Int64} {no : Nat → Int32} {yA lf rt : Nat → Int64} {iK iN : Nat → Int32} {post : SY → Prop} {kk : Nat} {x x' : Int32} (hk : kk = 32 ∨ kk = 33) (hA : ∀ Q : SY → Prop, (∀ (yma' ypo' yhe' yvm' : Int32) (yin' : Int64) (yfi' yde' yap' yas' yto' : Int32) (yan' : Int64) (yco' yti' yna' yac' yen' yic' : Int32) (o' l' kS' d' : Nat → Int32) (pl' ys' : Nat → Int64) (yk' yn' yp' yf' yo' : Nat → Int32) (yi' : Nat → Int64) (yw' ya' y1' y2' : Nat → Int32) (yK' : Nat → Int64) (yW' : Nat → Int32) (yL' : Nat → Int64) (yq' nm' : Nat → Int32) (nv' : Nat → Int64) (no' : Nat → Int32) (yA' lf' rt' : Nat → Int64) (iK' iN' : Nat → Int32), post (yma', ypo', yhe', yvm', yin', yfi', yde', yap', yas', yto', yan', yco', yti', yna', yac', yen', yic', o', l', kS', d', pl', ys', yk', yn', yp', yf', yo', yi', yw', ya', y1', y2', yK', yW', yL', yq', nm', nv', no', yA', lf', rt', iK', iN') → Q (yma', ypo', yhe', yvm', yin', yfi', yde', yap', yas', yto', yan', yco', yti', yna', yac', yen', yic', o', l', kS', d', pl', ys', yk', yn', yp', yf', yo', yi', yw', ya', y1', y2', yK', yW', yL', yq', nm', nv', no', yA', lf', rt', iK', iN')) → wpY_tellArrays Q (yma, ypo, yhe, yvm, yin, yfi, yde, yap, yas, yto, yan, yco, yti, yna, yac, yen, yic, o, l, kS, d, pl, ys, yk, yn, yp, yf, yo, yi, yw, ya, y1, y2, yK, yW, yL, yq, nm, nv, no, yA, lf, rt, iK, iN) (nI kk) (yy_t 4 x) (yy_t 4 x')) : wpY_operate post (yma, ypo, yhe, yvm, yin, yfi, yde, yap, yas, yto, yan, yco, yti, yna, yac, yen, yic, o, l, kS, d, pl, ys, yk, yn, yp, yf, yo, yi, yw, ya, y1, y2, yK, yW, yL, yq, nm, nv, no, yA, lf, rt, iK, iN) (nI kk) (yy_t 4 x) (yy_t 4 x') := by
  refine yp_pre (by omega) (by omega) (fun w => absurd w (by omega)) (fun _ => ?_)
  refine yp_41 (by omega) (by omega) (by omega) (by omega) (fun _ => by omega) ?_
  unfold wY_operate_140
  refine br_f (nI_ge (b := 34) (by omega) (by omega)) (br_t rfl (br_t rfl (hA _ ?_)))
  intros
  assumption
theorem yp_obj' {yma ypo yhe yvm : Int32} {yin : Int64} {yfi yde yap yas yto : Int32} {yan : Int64} {yco yti yna yac yen yic : Int32} {o l kS d : Nat → Int32} {pl ys : Nat → Int64} {yk yn yp yf yo : Nat → Int32} {yi : Nat → Int64} {yw ya y1 y2 : Nat → Int32} {yK : Nat → Int64} {yW : Nat → Int32} {yL : Nat → Int64} {yq nm : Nat → Int32} {nv : Nat → Int64} {no : Nat → Int32} {yA lf rt : Nat → Int64} {iK iN : Nat → Int32} {post : SY → Prop} {x x' : Int32} (hA : ∀ Q : SY → Prop, (∀ (yma' ypo' yhe' yvm' : Int32) (yin' : Int64) (yfi' yde' yap' yas' yto' : Int32) (yan' : Int64) (yco' yti' yna' yac' yen' yic' : Int32) (o' l' kS' d' : Nat → Int32) (pl' ys' : Nat → Int64) (yk' yn' yp' yf' yo' : Nat → Int32) (yi' : Nat → Int64) (yw' ya' y1' y2' : Nat → Int32) (yK' : Nat → Int64) (yW' : Nat → Int32) (yL' : Nat → Int64) (yq' nm' : Nat → Int32) (nv' : Nat → Int64) (no' : Nat → Int32) (yA' lf' rt' : Nat → Int64) (iK' iN' : Nat → Int32), post (yma', ypo', yhe', yvm', yin', yfi', yde', yap', yas', yto', yan', yco', yti', yna', yac', yen', yic', o', l', kS', d', pl', ys', yk', yn', yp', yf', yo', yi', yw', ya', y1', y2', yK', yW', yL', yq', nm', nv', no', yA', lf', rt', iK', iN') → Q (yma', ypo', yhe', yvm', yin', yfi', yde', yap', yas', yto', yan', yco', yti', yna', yac', yen', yic', o', l', kS', d', pl', ys', yk', yn', yp', yf', yo', yi', yw', ya', y1', y2', yK', yW', yL', yq', nm', nv', no', yA', lf', rt', iK', iN')) → wpY_tellObjects Q (yma, ypo, yhe, yvm, yin, yfi, yde, yap, yas, yto, yan, yco, yti, yna, yac, yen, yic, o, l, kS, d, pl, ys, yk, yn, yp, yf, yo, yi, yw, ya, y1, y2, yK, yW, yL, yq, nm, nv, no, yA, lf, rt, iK, iN) (yy_t 5 x) (yy_t 5 x')) : wpY_operate post (yma, ypo, yhe, yvm, yin, yfi, yde, yap, yas, yto, yan, yco, yti, yna, yac, yen, yic, o, l, kS, d, pl, ys, yk, yn, yp, yf, yo, yi, yw, ya, y1, y2, yK, yW, yL, yq, nm, nv, no, yA, lf, rt, iK, iN) (nI 32) (yy_t 5 x) (yy_t 5 x') := by
  refine yp_pre (by omega) (by omega) (fun w => absurd w (by omega)) (fun _ => ?_)
  refine yp_41 (by omega) (by omega) (by omega) (by omega) (fun _ => by omega) (yp_169 (by omega) (by omega) (by omega) (by omega) (by omega) ?_)
  unfold wY_operate_169
  refine br_t rfl (br_t rfl (br_t rfl (hA _ ?_)))
  intros
  assumption
/-- a value that stands is given, or none -/
theorem rm_make0 {p : Nat} {pa' : List Nat} {T : List Nat → Option vv_L} {nf bo np : Nat} {K0 N0 Z0 D0 I0 W0 P0 : Nat → Int32} {xst xow xin xpa xfi xfr xno xsi xan xkn xen xco xrm xac : Int32} {K N Z D Im W P vS pO pX pI fS fP fI fU fR fO fA fH fG fN aS qL qR qP : Nat → Int32} {st : Nat} {V al : Nat → Prop} {g : Nat} {n c rm a : Nat}
    (hX : md_X V al g (p :: pa') bo np n c rm a st xfr xno xsi xen xco xrm xac K N Z D Im W P K0 N0 Z0 D0 I0 W0 P0 pO pX fP fU fR fO fA fH fG) (hv : mv_X V n xsi xan pO fP fI fH fN) (ha : ma_X V a aS)
    (hM : ∀ (mk0 pd0 : Nat) (v0 : SY), kn_F T np nf pO pX pI fS mk0 pd0 v0 → rm_M V (p :: pa') g np n c rm a st xsi xan K N Z D W P pO pX pI fP fI fO fA fH fG fN aS mk0 pd0 v0) (es : xsi = 1) (n16 : fr_o pO fP p ≠ 16) (n35 : fr_o pO fP p ≠ 35) {s' xan' : Int32} {qL' qR' qP' : Nat → Int32} (hs' : s' = 1 ∨ s' = 2 ∨ s' = 3) (hc : c < 600) (hxv : s' = 1 → ∃ s, xan' = nI s ∧ V s)
    (hYw : ∀ (mk0 pd0 mk pd nd : Nat) (yhe yvm : Int32) (yin : Int64) (yfi yde yic : Int32) (ys : Nat → Int64) (yk yn yp yf iK iN : Nat → Int32) (o0 l0 kS0 d0 : Nat → Int32) (pl0 : Nat → Int64) (yma ypo yap yas yto : Int32) (yan : Int64) (yco yti yna yac yen : Int32) (o l kS d : Nat → Int32) (pl : Nat → Int64) (yo : Nat → Int32) (yi : Nat → Int64) (yw ya y1 y2 : Nat → Int32) (yK : Nat → Int64) (yW : Nat → Int32) (yL : Nat → Int64) (yq nm : Nat → Int32) (nv : Nat → Int64) (no : Nat → Int32) (yA lf rt : Nat → Int64), md_Y V (p :: pa') g np n c rm a st mk pd nd mk0 pd0 xsi xan K N Z D W P pO pX pI fP fI fO fA fH fG fN aS yma ypo yap yas yto yan yco yti yna yac yen o l kS d pl yk yn yp yo yi yw ya y1 y2 yK yW yL yq nm nv no yA o0 l0 kS0 d0 pl0 → ∀ Q : SY → Prop, (∀ (lf' rt' : Nat → Int64) (w : Int64), (s' = 1 → vv_R V K N Z D P mk o l kS d pl xan' w) → Q (yma, ypo, yhe, yvm, yin, yfi, yde, yap, (nI pa'.length), (s' - 1), w, (nI (c + 1)), yti, yna, yac, yen, yic, o, l, kS, d, pl, ys, yk, yn, yp, yf, yo, yi, yw, ya, y1, y2, yK, yW, yL, yq, nm, nv, no, yA, lf', rt', iK, iN)) → wpY_goOn Q (yma, ypo, yhe, yvm, yin, yfi, yde, yap, yas, yto, yan, yco, yti, yna, yac, yen, yic, o, l, kS, d, pl, ys, yk, yn, yp, yf, yo, yi, yw, ya, y1, y2, yK, yW, yL, yq, nm, nv, no, yA, lf, rt, iK, iN) (nI p)) :
    rm_I T nf bo np K0 N0 Z0 D0 I0 W0 P0 (st + 2) (xst, xow, xin, xpa, xfi, xfr, (nI p), s', xan', xkn, xen, (nI (c + 1)), xrm, xac, K, N, Z, D, Im, W, P, vS, pO, pX, pI, fS, fP, fI, fU, fR, fO, fA, fH, fG, fN, aS, qL', qR', qP') := by
  have hX0 := hX
  obtain ⟨⟨x1, x2, x3, x4, x5, x6, x7, x8, x9, x10⟩, hs, hh, hb, hf, hr, hG, hpot⟩ := hX
  subst x5
  refine rm_make (qL := qL) (qR := qR) (qP := qP) (k := 2) (rm' := rm) (sl := 53 + rm) (V' := V) hX0 hv ha hM es n16 n35 (by omega) (by omega) hs' hc (Or.inl rfl) (gr_id hh) (fun w => absurd w (gr_id hh).1) (Nat.le_refl _) (by omega) hxv (fun mk0 pd0 mk pd nd yhe yvm yin yfi yde yic ys yk yn yp yf iK iN o0 l0 kS0 d0 pl0 yma ypo yap yas yto yan yco yti yna yac yen o l kS d pl yo yi yw ya y1 y2 yK yW yL yq nm nv no yA lf rt hY Q hQ => hYw mk0 pd0 mk pd nd yhe yvm yin yfi yde yic ys yk yn yp yf iK iN o0 l0 kS0 d0 pl0 yma ypo yap yas yto yan yco yti yna yac yen o l kS d pl yo yi yw ya y1 y2 yK yW yL yq nm nv no yA lf rt hY Q (fun lf' rt' w hw => ?_))
  obtain ⟨⟨b1, b2, b3, b4, b5, b6, b7, b8, b9, b10, b11⟩, hfl, hen, hhy, hby, hfr, han, hq0, hq1, hz1, hz2, hz3⟩ := hY
  subst b1 b2
  exact hQ mk pd o l kS d pl lf' rt' w (gr_Yid hhy.1) (Nat.le_refl _) hhy.2.2.2.2.1 (fun j x h1 h2 => absurd h2 (by omega)) hw
/-- a number is made -/
theorem rm_makeN {p : Nat} {pa' : List Nat} {T : List Nat → Option vv_L} {nf bo np : Nat} {K0 N0 Z0 D0 I0 W0 P0 : Nat → Int32} {xst xow xin xpa xfi xfr xno xsi xan xkn xen xco xrm xac : Int32} {K N Z D Im W P vS pO pX pI fS fP fI fU fR fO fA fH fG fN aS qL qR qP : Nat → Int32} {st : Nat} {V al : Nat → Prop} {g : Nat} {n c rm a : Nat}
    (hX : md_X V al g (p :: pa') bo np n c rm a st xfr xno xsi xen xco xrm xac K N Z D Im W P K0 N0 Z0 D0 I0 W0 P0 pO pX fP fU fR fO fA fH fG) (hv : mv_X V n xsi xan pO fP fI fH fN) (ha : ma_X V a aS)
    (hM : ∀ (mk0 pd0 : Nat) (v0 : SY), kn_F T np nf pO pX pI fS mk0 pd0 v0 → rm_M V (p :: pa') g np n c rm a st xsi xan K N Z D W P pO pX pI fP fI fO fA fH fG fN aS mk0 pd0 v0) (es : xsi = 1) (n16 : fr_o pO fP p ≠ 16) (n35 : fr_o pO fP p ≠ 35) {y : Int32} (hc : c < 600)
    (hYw : ∀ (mk0 pd0 mk pd nd : Nat) (yhe yvm : Int32) (yin : Int64) (yfi yde yic : Int32) (ys : Nat → Int64) (yk yn yp yf iK iN : Nat → Int32) (o0 l0 kS0 d0 : Nat → Int32) (pl0 : Nat → Int64) (yma ypo yap yas yto : Int32) (yan : Int64) (yco yti yna yac yen : Int32) (o l kS d : Nat → Int32) (pl : Nat → Int64) (yo : Nat → Int32) (yi : Nat → Int64) (yw ya y1 y2 : Nat → Int32) (yK : Nat → Int64) (yW : Nat → Int32) (yL : Nat → Int64) (yq nm : Nat → Int32) (nv : Nat → Int64) (no : Nat → Int32) (yA lf rt : Nat → Int64), md_Y V (p :: pa') g np n c rm a st mk pd nd mk0 pd0 xsi xan K N Z D W P pO pX pI fP fI fO fA fH fG fN aS yma ypo yap yas yto yan yco yti yna yac yen o l kS d pl yk yn yp yo yi yw ya y1 y2 yK yW yL yq nm nv no yA o0 l0 kS0 d0 pl0 → ∀ Q : SY → Prop, Q (yma, ypo, yhe, yvm, yin, yfi, yde, yap, (nI pa'.length), 0, (yy_t 3 y), (nI (c + 1)), yti, yna, yac, yen, yic, o, l, kS, d, pl, ys, yk, yn, yp, yf, yo, yi, yw, ya, y1, y2, yK, yW, yL, yq, nm, nv, no, yA, lf, rt, iK, iN) → wpY_goOn Q (yma, ypo, yhe, yvm, yin, yfi, yde, yap, yas, yto, yan, yco, yti, yna, yac, yen, yic, o, l, kS, d, pl, ys, yk, yn, yp, yf, yo, yi, yw, ya, y1, y2, yK, yW, yL, yq, nm, nv, no, yA, lf, rt, iK, iN) (nI p)) :
    rm_I T nf bo np K0 N0 Z0 D0 I0 W0 P0 (st + 2) (xst, xow, xin, xpa, xfi, xfr, (nI p), 1, (nI (53 + rm)), xkn, xen, (nI (c + 1)), (nI (rm + 1)), xac, (upd K (53 + rm) 3), (upd N (53 + rm) y), (upd Z (53 + rm) 0), (upd D (53 + rm) 0), (upd Im (53 + rm) 1), (upd W (53 + rm) 1), P, vS, pO, pX, pI, fS, fP, fI, fU, fR, fO, fA, fH, fG, fN, aS, qL, qR, qP) := by
  have hX0 := hX
  obtain ⟨⟨x1, x2, x3, x4, x5, x6, x7, x8, x9, x10⟩, hs, hh, hb, hf, hr, hG, hpot⟩ := hX
  have hrm : rm < 600 := by omega
  refine rm_make (qL := qL) (qR := qR) (qP := qP) (k := 2) (rm' := rm + 1) (sl := 53 + rm) (s' := 1) hX0 hv ha hM es n16 n35 (by omega) (by omega) (Or.inl rfl) hc (Or.inr rfl) (gr_num hh hrm y) (fun _ => by omega) (Nat.le_refl _) (by omega) (fun _ => ⟨53 + rm, rfl, Or.inr rfl⟩) (fun mk0 pd0 mk pd nd yhe yvm yin yfi yde yic ys yk yn yp yf iK iN o0 l0 kS0 d0 pl0 yma ypo yap yas yto yan yco yti yna yac yen o l kS d pl yo yi yw ya y1 y2 yK yW yL yq nm nv no yA lf rt hY Q hQ => ?_)
  have hY0 := hY
  obtain ⟨⟨b1, b2, b3, b4, b5, b6, b7, b8, b9, b10, b11⟩, hfl, hen, hhy, hby, hfr, han, hq0, hq1, hz1, hz2, hz3⟩ := hY
  subst b1 b2
  refine hYw mk0 pd0 mk pd nd yhe yvm yin yfi yde yic ys yk yn yp yf iK iN o0 l0 kS0 d0 pl0 (nI mk) (nI pd) yap yas yto yan yco yti yna yac yen o l kS d pl yo yi yw ya y1 y2 yK yW yL yq nm nv no yA lf rt hY0 Q ?_
  exact hQ mk pd o l kS d pl lf rt (yy_t 3 y) (gr_Yid hhy.1) (by omega) (by have := hhy.2.2.2.2.1; omega) (fun j x h1 h2 => absurd h2 (by omega)) (fun _ => vv_R_plain (by omega) (Or.inr rfl) (by omega) (by rw [pk_us]; rfl) (by rw [pk_us]) (by rw [pk_us]) (by rw [pk_us]))
/-- a nested value is made -/
theorem rm_makeC {p : Nat} {pa' : List Nat} {T : List Nat → Option vv_L} {nf bo np : Nat} {K0 N0 Z0 D0 I0 W0 P0 : Nat → Int32} {xst xow xin xpa xfi xfr xno xsi xan xkn xen xco xrm xac : Int32} {K N Z D Im W P vS pO pX pI fS fP fI fU fR fO fA fH fG fN aS qL qR qP : Nat → Int32} {st : Nat} {V al : Nat → Prop} {g : Nat} {n c rm a : Nat}
    (hX : md_X V al g (p :: pa') bo np n c rm a st xfr xno xsi xen xco xrm xac K N Z D Im W P K0 N0 Z0 D0 I0 W0 P0 pO pX fP fU fR fO fA fH fG) (hv : mv_X V n xsi xan pO fP fI fH fN) (ha : ma_X V a aS)
    (hM : ∀ (mk0 pd0 : Nat) (v0 : SY), kn_F T np nf pO pX pI fS mk0 pd0 v0 → rm_M V (p :: pa') g np n c rm a st xsi xan K N Z D W P pO pX pI fP fI fO fA fH fG fN aS mk0 pd0 v0) (es : xsi = 1) (n16 : fr_o pO fP p ≠ 16) (n35 : fr_o pO fP p ≠ 35) (hc : c < 600) {κ z kk : Nat} {key : Int32} {ch : Nat → Int32} {c' e' q' w' : Nat → Nat} {K' N' Z' D' Im' W' P' qL' qR' qP' : Nat → Int32} (hns : vv_ns (53 + rm) κ z kk key ch e' q' w' K N Z D Im W P K' N' Z' D' Im' W' P') (hcc : ns_ch V D Im W (53 + rm) z ch c' e' q' w') (hz : z ≤ 10) (hm : vv_mx e' z ≤ 3)
    (h4 : (κ = 4 ∧ kk = 0 ∧ key = 0) ∨ (κ = 5 ∧ kk = 1 ∧ ∃ m, m < 256 ∧ key = nI m ∧ z = vv_pc m 8))
    (hYw : ∀ (mk0 pd0 mk pd nd : Nat) (yhe yvm : Int32) (yin : Int64) (yfi yde yic : Int32) (ys : Nat → Int64) (yk yn yp yf iK iN : Nat → Int32) (o0 l0 kS0 d0 : Nat → Int32) (pl0 : Nat → Int64) (yma ypo yap yas yto : Int32) (yan : Int64) (yco yti yna yac yen : Int32) (o l kS d : Nat → Int32) (pl : Nat → Int64) (yo : Nat → Int32) (yi : Nat → Int64) (yw ya y1 y2 : Nat → Int32) (yK : Nat → Int64) (yW : Nat → Int32) (yL : Nat → Int64) (yq nm : Nat → Int32) (nv : Nat → Int64) (no : Nat → Int32) (yA lf rt : Nat → Int64), md_Y V (p :: pa') g np n c rm a st mk pd nd mk0 pd0 xsi xan K N Z D W P pO pX pI fP fI fO fA fH fG fN aS yma ypo yap yas yto yan yco yti yna yac yen o l kS d pl yk yn yp yo yi yw ya y1 y2 yK yW yL yq nm nv no yA o0 l0 kS0 d0 pl0 → ∀ Q : SY → Prop, (∀ (pl' lf' rt' : Nat → Int64), (∀ i, i < pd → pl' i = pl i) → (∀ i, i < z → vv_R V K N Z D P mk o l kS d pl (ch i) (pl' (pd + i))) →
      Q ((nI (mk + 1)), (nI (pd + z)), yhe, yvm, yin, yfi, yde, yap, (nI pa'.length), 0, (yy_t κ (nI mk)), (nI (c + 1)), yti, yna, yac, yen, yic, (upd o mk (nI pd)), (upd l mk (nI z)), (upd kS mk key), (upd d mk (nI (vv_mx e' z + 1))), pl', ys, yk, yn, yp, yf, yo, yi, yw, ya, y1, y2, yK, yW, yL, yq, nm, nv, no, yA, lf', rt', iK, iN)) → wpY_goOn Q (yma, ypo, yhe, yvm, yin, yfi, yde, yap, yas, yto, yan, yco, yti, yna, yac, yen, yic, o, l, kS, d, pl, ys, yk, yn, yp, yf, yo, yi, yw, ya, y1, y2, yK, yW, yL, yq, nm, nv, no, yA, lf, rt, iK, iN) (nI p)) :
    rm_I T nf bo np K0 N0 Z0 D0 I0 W0 P0 (st + 2) (xst, xow, xin, xpa, xfi, xfr, (nI p), 1, (nI (53 + rm)), xkn, xen, (nI (c + 1)), (nI (rm + 1)), xac, K', N', Z', D', Im', W', P', vS, pO, pX, pI, fS, fP, fI, fU, fR, fO, fA, fH, fG, fN, aS, qL', qR', qP') := by
  have hX0 := hX
  obtain ⟨⟨x1, x2, x3, x4, x5, x6, x7, x8, x9, x10⟩, hs, hh, hb, hf, hr, hG, hpot⟩ := hX
  have hrm : rm < 600 := by omega
  have hne : ∀ s, V s → s ≠ 53 + rm := fun s w e => by have := (hh.2.1 s w).2; omega
  have hgx : gr_X V (fun t => V t ∨ t = 53 + rm) (53 + rm) K N Z D Im W P K' N' Z' D' Im' W' P' := ⟨fun w => hne _ w rfl, by omega, fun _ w => Or.inl w, fun _ w => w, ns_ox hh.1 hns hne (by omega) hcc hz hm h4, hns.1⟩
  refine rm_make (qL := qL) (qR := qR) (qP := qP) (k := 2) (rm' := rm + 1) (sl := 53 + rm) (s' := 1) hX0 hv ha hM es n16 n35 (by omega) (by omega) (Or.inl rfl) hc (Or.inr rfl) hgx (fun _ => by omega) (Nat.le_refl _) (by omega) (fun _ => ⟨53 + rm, rfl, Or.inr rfl⟩) (fun mk0 pd0 mk pd nd yhe yvm yin yfi yde yic ys yk yn yp yf iK iN o0 l0 kS0 d0 pl0 yma ypo yap yas yto yan yco yti yna yac yen o l kS d pl yo yi yw ya y1 y2 yK yW yL yq nm nv no yA lf rt hY Q hQ => hYw mk0 pd0 mk pd nd yhe yvm yin yfi yde yic ys yk yn yp yf iK iN o0 l0 kS0 d0 pl0 yma ypo yap yas yto yan yco yti yna yac yen o l kS d pl yo yi yw ya y1 y2 yK yW yL yq nm nv no yA lf rt hY Q (fun pl' lf' rt' g1 g2 => ?_))
  obtain ⟨⟨b1, b2, b3, b4, b5, b6, b7, b8, b9, b10, b11⟩, hfl, hen, hhy, hby, hfr, han, hq0, hq1, hz1, hz2, hz3⟩ := hY
  have c8 := hhy.2.2.2.2.1
  have c7 := hhy.2.2.1
  obtain ⟨_, r2, r3⟩ := gr_nest hh hrm hhy.1 (show mk < 760 by omega) (show pd + z ≤ 8200 by omega) hns hcc hz hm h4 g1 g2
  refine hQ (mk + 1) (pd + z) _ _ _ _ pl' lf' rt' _ r2 (by omega) (by omega) (fun j' x' h1 h2 h3 h4 => ?_) (fun _ => r3)
  have : j' = mk := by omega
  rw [this, pk_us] at h3
  have := (nI_eq (by omega) h4).mp h3
  omega
/-- the child of a valid slot -/
theorem vx_chd {V : Nat → Prop} {K N Z D Im W P : Nat → Int32} (h : vv_ox V K N Z D Im W P) {s z i : Nat} (hs : V s) (ez : Z s = nI z) (hz : z ≤ 10) (hi : i < z) : ∃ c e, P (s * 10 + i) = nI c ∧ c < 653 ∧ V c ∧ D c = nI e ∧ e ≤ 3 := by
  obtain ⟨_, hl | hl⟩ := h s hs
  · obtain ⟨k, _, _, _, z0, _⟩ := hl
    have := (nI_eq (b := 0) (by omega) (by omega)).mp (ez.symm.trans z0)
    omega
  · obtain ⟨k, z', d, _, _, z1, z2, hd, h4, hc, _⟩ := hl
    have : z' = z := (nI_eq (by omega) (by omega)).mp (z1.symm.trans ez)
    subst this
    obtain ⟨c, e1, e2, e3, _, e, e4, e5⟩ := hc i hi
    exact ⟨c, e, e1, e2, e3, e5, by omega⟩
/-- children of valid slots, for a new value -/
theorem vx_ns {V : Nat → Prop} {K N Z D Im W P : Nat → Int32} (hx : vv_ox V K N Z D Im W P) {s z : Nat} {ch : Nat → Int32} (hs : 53 ≤ s) (h : ∀ i, i < z → ∃ c e, ch i = nI c ∧ c < 653 ∧ V c ∧ D c = nI e ∧ e ≤ 3) : ∃ c' e' q' w' : Nat → Nat, ns_ch V D Im W s z ch c' e' q' w' ∧ vv_mx e' z ≤ 3 := by
  obtain ⟨c', e', q', w', hc⟩ := ns_ex (s := s) (z := z) (ch := ch) hx (fun i hi => by
    obtain ⟨c, e, k1, _, k2, _⟩ := h i hi
    exact ⟨c, k1, k2, fun w => absurd w (by omega)⟩)
  refine ⟨c', e', q', w', hc, vv_mx_le (fun i hi => ?_)⟩
  obtain ⟨c, e, k1, k2, k3, k4, k5⟩ := h i hi
  obtain ⟨n1, n2, n3, n4, n5, n6, _⟩ := hc i hi
  have : c = c' i := (nI_eq (by omega) (by omega)).mp (k1.symm.trans n1)
  rw [← this, k4] at n5
  have := (nI_eq (by omega) (by omega)).mp n5
  omega
/-- X hears, and will make; too much may be counted -/
theorem cq_mk {p : Nat} {pa' : List Nat} {post : SX → Prop} {T : List Nat → Option vv_L} {nf bo np : Nat} {K0 N0 Z0 D0 I0 W0 P0 : Nat → Int32} {xst xow xin xpa xfi xfr xno xsi xan xkn xen xco xrm xac : Int32} {K N Z D Im W P vS pO pX pI fS fP fI fU fR fO fA fH fG fN aS qL qR qP : Nat → Int32} {st : Nat} {V al : Nat → Prop} {g : Nat} {n c rm a : Nat}
    (hX : md_X V al g (p :: pa') bo np n c rm a st xfr xno xsi xen xco xrm xac K N Z D Im W P K0 N0 Z0 D0 I0 W0 P0 pO pX fP fU fR fO fA fH fG) (hv : mv_X V n xsi xan pO fP fI fH fN) (ha : ma_X V a aS)
    (hM : ∀ (mk0 pd0 : Nat) (v0 : SY), kn_F T np nf pO pX pI fS mk0 pd0 v0 → rm_M V (p :: pa') g np n c rm a st xsi xan K N Z D W P pO pX pI fP fI fO fA fH fG fN aS mk0 pd0 v0)
    (H : lp_G T nf bo np K0 N0 Z0 D0 I0 W0 P0 post xst xow xin xpa xfi xkn vS pO pX pI fS st) (es : xsi = 1)
    (hx1 : ∀ Q : SX → Prop, Q (xst, xow, xin, xpa, xfi, xfr, (nI p), 5, xan, xkn, xen, xco, xrm, xac, K, N, Z, D, Im, W, P, vS, pO, pX, pI, fS, fP, fI, fU, fR, fO, fA, fH, fG, fN, aS, qL, qR, qP) → wpX_hearInner Q (xst, xow, xin, xpa, xfi, xfr, xno, xsi, xan, xkn, xen, xco, xrm, xac, K, N, Z, D, Im, W, P, vS, pO, pX, pI, fS, fP, fI, fU, fR, fO, fA, fH, fG, fN, aS, qL, qR, qP))
    (hx2 : c < 600 → wpX_makeCounted (rn_K post (st + 1)) (xst, xow, xin, xpa, xfi, xfr, (nI p), 5, xan, xkn, xen, xco, xrm, xac, K, N, Z, D, Im, W, P, vS, pO, pX, pI, fS, fP, fI, fU, fR, fO, fA, fH, fG, fN, aS, qL, qR, qP))
    (hYw : c = 600 → ∀ (mk0 pd0 mk pd nd : Nat) (yhe yvm : Int32) (yin : Int64) (yfi yde yic : Int32) (ys : Nat → Int64) (yk yn yp yf iK iN : Nat → Int32) (o0 l0 kS0 d0 : Nat → Int32) (pl0 : Nat → Int64) (yma ypo yap yas yto : Int32) (yan : Int64) (yco yti yna yac yen : Int32) (o l kS d : Nat → Int32) (pl : Nat → Int64) (yo : Nat → Int32) (yi : Nat → Int64) (yw ya y1 y2 : Nat → Int32) (yK : Nat → Int64) (yW : Nat → Int32) (yL : Nat → Int64) (yq nm : Nat → Int32) (nv : Nat → Int64) (no : Nat → Int32) (yA lf rt : Nat → Int64), md_Y V (p :: pa') g np n c rm a st mk pd nd mk0 pd0 xsi xan K N Z D W P pO pX pI fP fI fO fA fH fG fN aS yma ypo yap yas yto yan yco yti yna yac yen o l kS d pl yk yn yp yo yi yw ya y1 y2 yK yW yL yq nm nv no yA o0 l0 kS0 d0 pl0 → ∀ Q : SY → Prop, Q (yma, ypo, yhe, yvm, yin, yfi, yde, yap, yas, yto, yan, yco, 1, yna, yac, yen, yic, o, l, kS, d, pl, ys, yk, yn, yp, yf, yo, yi, yw, ya, y1, y2, yK, yW, yL, yq, nm, nv, no, yA, lf, rt, iK, iN) → wpY_goOn Q (yma, ypo, yhe, yvm, yin, yfi, yde, yap, yas, yto, yan, yco, yti, yna, yac, yen, yic, o, l, kS, d, pl, ys, yk, yn, yp, yf, yo, yi, yw, ya, y1, y2, yK, yW, yL, yq, nm, nv, no, yA, lf, rt, iK, iN) (nI p)) : wX_workOut_68 post (1000001 - st) (nI st) xst xow xin xpa xfi xfr xno xsi xan xkn xen xco xrm xac K N Z D Im W P vS pO pX pI fS fP fI fU fR fO fA fH fG fN aS qL qR qP := by
  obtain ⟨hpg, hgn, hn6, hU, hA, hrun, hro⟩ := mx_p hX
  obtain ⟨_, _, hst, hlen, _⟩ := mx_f hX
  have hX0 := hX
  obtain ⟨⟨x1, x2, x3, x4, x5, x6, x7, x8, x9, x10⟩, hs, hh, hb, hf, hr, hG, hpot⟩ := hX
  refine xs_inner (by omega) x3 (Or.inl es) x2 (by omega) hU (by omega) (hx1 _ (rn_K_i (xs_make (by omega) x3 rfl ?_)))
  by_cases hc : c < 600
  · exact hx2 hc
  · have hc6 : c = 600 := by omega
    subst hc6
    exact xk_tired x4 (lp_E H (by omega) (rm_tiredT hX0 hv ha hM (by rw [es]; decide) (fun _ _ => ⟨rfl, rfl, rfl⟩) (fun mk0 pd0 mk pd nd yhe yvm yin yfi yde yic ys yk yn yp yf iK iN o0 l0 kS0 d0 pl0 yma ypo yap yas yto yan yco yti yna yac yen o l kS d pl yo yi yw ya y1 y2 yK yW yL yq nm nv no yA lf rt hY Q hQ => hYw rfl mk0 pd0 mk pd nd yhe yvm yin yfi yde yic ys yk yn yp yf iK iN o0 l0 kS0 d0 pl0 yma ypo yap yas yto yan yco yti yna yac yen o l kS d pl yo yi yw ya y1 y2 yK yW yL yq nm nv no yA lf rt hY Q (hQ ypo yas yto yan ya y1 y2 yK yW yL lf rt yna nm nv no))))
/-- an object of one key -/
theorem cq_m20 {p : Nat} {pa' : List Nat} {post : SX → Prop} {T : List Nat → Option vv_L} {nf bo np : Nat} {K0 N0 Z0 D0 I0 W0 P0 : Nat → Int32} {xst xow xin xpa xfi xfr xno xsi xan xkn xen xco xrm xac : Int32} {K N Z D Im W P vS pO pX pI fS fP fI fU fR fO fA fH fG fN aS qL qR qP : Nat → Int32} {st : Nat} {V al : Nat → Prop} {g : Nat} {n c rm a : Nat}
    (hX : md_X V al g (p :: pa') bo np n c rm a st xfr xno xsi xen xco xrm xac K N Z D Im W P K0 N0 Z0 D0 I0 W0 P0 pO pX fP fU fR fO fA fH fG) (hv : mv_X V n xsi xan pO fP fI fH fN) (ha : ma_X V a aS)
    (hM : ∀ (mk0 pd0 : Nat) (v0 : SY), kn_F T np nf pO pX pI fS mk0 pd0 v0 → rm_M V (p :: pa') g np n c rm a st xsi xan K N Z D W P pO pX pI fP fI fO fA fH fG fN aS mk0 pd0 v0)
    (H : lp_G T nf bo np K0 N0 Z0 D0 I0 W0 P0 post xst xow xin xpa xfi xkn vS pO pX pI fS st) {q : Nat} (eP : fP p = nI q) (hqn : q < np) (hq : q < 40) (eO : pO q = nI 20) {kx : Nat} (eX : pX q = nI kx) (hkx : kx < 8) (es : xsi = 1) (r0 : fR g = 0) : wX_workOut_68 post (1000001 - st) (nI st) xst xow xin xpa xfi xfr xno xsi xan xkn xen xco xrm xac K N Z D Im W P vS pO pX pI fS fP fI fU fR fO fA fH fG fN aS qL qR qP := by
  subst es
  obtain ⟨hpg, hgn, hn6, hU, hA, hrun, hro⟩ := mx_p hX
  obtain ⟨_, _, hst, hlen, _⟩ := mx_f hX
  have hlen2 : pa'.length + 2 ≤ 40 := by
    have := hlen
    rw [List.length_cons] at this
    omega
  have hX0 := hX
  obtain ⟨⟨x1, x2, x3, x4, x5, x6, x7, x8, x9, x10⟩, hs, hh, hb, hf, hr, hG, hpot⟩ := hX
  have hpn : p < n := by omega
  have hfo := mx_fo eP hq eO (by omega)
  obtain ⟨s, ea, hVs⟩ := hv.1 rfl
  obtain ⟨hs6, κ, hκ, eK⟩ := vx_k hh.1 hVs
  obtain ⟨gv, g1, g2⟩ := hG p hpn
  have rO : fO p = nI g := by
    rcases hro with ⟨_, rO⟩ | ⟨r1, _⟩
    · exact rO
    · exact (r_ne r0 r1).elim
  have hAO : fA p = fO p := hA.trans rO.symm
  obtain ⟨e, he4, eD⟩ := vv_D hh.1 hVs
  refine cq_mk hX0 hv ha hM H rfl (fun Q hQ => xh_ans0 x2 (by omega) hU (by omega) r0 eP hq eO (by omega) rfl (fun Q hQ => xo_20 rfl (by omega) ea hs6 eK hκ hQ) hQ) (fun hc => ?_) (fun hc mk0 pd0 mk pd nd yhe yvm yin yfi yde yic ys yk yn yp yf iK iN o0 l0 kS0 d0 pl0 yma ypo yap yas yto yan yco yti yna yac yen o l kS d pl yo yi yw ya y1 y2 yK yW yL yq nm nv no yA lf rt hY Q hQ => ?_)
  · have hrm : rm < 600 := by omega
    obtain ⟨c', e', q', w', hns⟩ := ns_ex (s := 53 + rm) (z := 1) (ch := fun _ => nI s) hh.1 (fun i hi => ⟨s, rfl, hVs, fun w => absurd w (by omega)⟩)
    have he0 : e' 0 = e := by
      obtain ⟨n1, n2, n3, n4, n5, n6, _⟩ := hns 0 (by omega)
      have : s = c' 0 := (nI_eq (by omega) (by omega)).mp n1
      rw [← this, eD] at n5
      exact ((nI_eq (by omega) (by omega)).mp n5).symm
    have hmx : vv_mx e' 1 = e := by
      rw [vv_mx, vv_mx, he0]
      split <;> omega
    refine xk_20' (c := c) rfl (by omega) eP hq eO x4 hc (fun Q hQ' => ?_)
    rw [ea]
    refine xk_object (V := V) (x := kx) (d := e) (rm := rm) rfl (by omega) eP hq eX hkx hs6 eD he4 x5 hrm hns (fun t w e => by have := (hh.2.1 t w).2; omega) (fun h4 => hQ' _ _ _ _ _ _ _ _ _ _ _ _ _ _ _ _ _ _ _ _ _ _ _ _ _ _ _ _ _ _ _ _ _ _ _ _ _ _ _ ?_) (fun h4 K' N' Z' D' Im' W' P' hvn => hQ' _ _ _ _ _ _ _ _ _ _ _ _ _ _ _ _ _ _ _ _ _ _ _ _ _ _ _ _ _ _ _ _ _ _ _ _ _ _ _ ?_)
    · refine lp_K H (by omega) (rm_make0 (qL := qL) (qR := qR) (qP := qP) (s' := 3) hX0 hv ha hM rfl (by omega) (by omega) (Or.inr (Or.inr rfl)) hc (fun w => absurd w (by decide)) (fun mk0 pd0 mk pd nd yhe yvm yin yfi yde yic ys yk yn yp yf iK iN o0 l0 kS0 d0 pl0 yma ypo yap yas yto yan yco yti yna yac yen o l kS d pl yo yi yw ya y1 y2 yK yW yL yq nm nv no yA lf rt hY Q hQ => ?_))
      obtain ⟨⟨b1, b2, b3, b4, b5, b6, b7, b8, b9, b10, b11⟩, hfl, hen, hhy, hby, hfr, han, hq0, hq1, hz1, hz2, hz3⟩ := hY
      obtain ⟨t1, t2, t3, t4, t5⟩ := hfr p hpn
      obtain ⟨ey, eq⟩ := hq1 (by decide)
      rw [List.length_cons] at ey
      have eyo := t1.symm.trans eP
      rw [hfo] at t5
      obtain ⟨et, hRa⟩ := hz1 rfl
      subst et
      obtain ⟨x, e1, e2⟩ := my_v hh.1 hhy.1 hRa ea hs6 eK hκ
      rw [e31] at hQ
      have c8 := hhy.2.2.2.2.1
      have c7 := hhy.2.2.1
      exact yg_make (by omega) eyo hq (my_k 24 rfl (by omega) (hfl q hqn) eO) ey rfl b4 (by omega) (yd_of_R hh.1 hhy.1 hRa ea hs6 eD he4) b2 (by omega) b1 (by omega) (by rw [b10]; exact eX) hkx (fun w => absurd w (by omega)) (fun _ _ => hQ lf rt 0 (fun w => absurd w (by decide))) (fun _ w => absurd w (by omega))
    · refine lp_K H (by omega) (rm_makeC (qL := qL) (qR := qR) (qP := qP) (z := 1) hX0 hv ha hM rfl (by omega) (by omega) hc hvn hns (by omega) (by omega) (Or.inr ⟨rfl, rfl, 2 ^ kx, ?_, rfl, ?_⟩) (fun mk0 pd0 mk pd nd yhe yvm yin yfi yde yic ys yk yn yp yf iK iN o0 l0 kS0 d0 pl0 yma ypo yap yas yto yan yco yti yna yac yen o l kS d pl yo yi yw ya y1 y2 yK yW yL yq nm nv no yA lf rt hY Q hQ => ?_))
      · rcases (show kx = 0 ∨ kx = 1 ∨ kx = 2 ∨ kx = 3 ∨ kx = 4 ∨ kx = 5 ∨ kx = 6 ∨ kx = 7 by omega) with w | w | w | w | w | w | w | w <;> subst w <;> decide
      · rcases (show kx = 0 ∨ kx = 1 ∨ kx = 2 ∨ kx = 3 ∨ kx = 4 ∨ kx = 5 ∨ kx = 6 ∨ kx = 7 by omega) with w | w | w | w | w | w | w | w <;> subst w <;> decide
      obtain ⟨⟨b1, b2, b3, b4, b5, b6, b7, b8, b9, b10, b11⟩, hfl, hen, hhy, hby, hfr, han, hq0, hq1, hz1, hz2, hz3⟩ := hY
      obtain ⟨t1, t2, t3, t4, t5⟩ := hfr p hpn
      obtain ⟨ey, eq⟩ := hq1 (by decide)
      rw [List.length_cons] at ey
      have eyo := t1.symm.trans eP
      rw [hfo] at t5
      obtain ⟨et, hRa⟩ := hz1 rfl
      subst et
      obtain ⟨x, e1, e2⟩ := my_v hh.1 hhy.1 hRa ea hs6 eK hκ
      have c8 := hhy.2.2.2.2.1
      have c7 := hhy.2.2.1
      rw [hmx] at hQ
      refine yg_make (by omega) eyo hq (my_k 24 rfl (by omega) (hfl q hqn) eO) ey rfl b4 (by omega) (yd_of_R hh.1 hhy.1 hRa ea hs6 eD he4) b2 (by omega) b1 (by omega) (by rw [b10]; exact eX) hkx (fun w => absurd w (by omega)) (fun _ w => absurd w (by omega)) (fun _ _ => hQ _ lf rt (fun i hi => pk_uLn (by omega)) (fun i hi => ?_))
      have : i = 0 := by omega
      subst this
      rw [Nat.add_zero, pk_uLs, ← ea]
      exact hRa
  · obtain ⟨⟨b1, b2, b3, b4, b5, b6, b7, b8, b9, b10, b11⟩, hfl, hen, hhy, hby, hfr, han, hq0, hq1, hz1, hz2, hz3⟩ := hY
    obtain ⟨t1, t2, t3, t4, t5⟩ := hfr p hpn
    obtain ⟨ey, eq⟩ := hq1 (by decide)
    rw [List.length_cons] at ey
    have eyo := t1.symm.trans eP
    rw [hfo] at t5
    obtain ⟨et, hRa⟩ := hz1 rfl
    subst et
    obtain ⟨x, e1, e2⟩ := my_v hh.1 hhy.1 hRa ea hs6 eK hκ
    have c8 := hhy.2.2.2.2.1
    have c7 := hhy.2.2.1
    exact yg_make (by omega) eyo hq (my_k 24 rfl (by omega) (hfl q hqn) eO) ey rfl b4 (by omega) (yd_of_R hh.1 hhy.1 hRa ea hs6 eD he4) b2 (by omega) b1 (by omega) (by rw [b10]; exact eX) hkx (fun _ => hQ) (fun w => absurd w (by omega)) (fun w => absurd w (by omega))
