/-! ===== operators ===== -/
theorem xk_25' {xst xow xin xpa xfi xfr xno xsi xan xkn xen xco xrm xac : Int32} {K N Z D Im W P vS pO pX pI fS fP fI fU fR fO fA fH fG fN aS qL qR qP : Nat → Int32} {post : SX → Prop} {g pq c : Nat} (eg : xno = nI g) (hg : g < 600) (eP : fP g = nI pq) (hpq : pq < 40) (eO : pO pq = nI 25) (ec : xco = nI c) (hc : c < 600) {s t κ κ' : Nat} (eh : fH g = nI s) (ea : xan = nI t) (hs : s < 653) (ht : t < 653) (eK : K s = nI κ) (eK' : K t = nI κ') (hκ : κ ≤ 5) (hκ' : κ' ≤ 5) (hN : κ = 3 → κ' = 3 → ∀ Q : SX → Prop, (∀ (xst' xow' xin' xpa' xfi' xfr' xno' xsi' xan' xkn' xen' xco' xrm' xac' : Int32) (K' N' Z' D' Im' W' P' vS' pO' pX' pI' fS' fP' fI' fU' fR' fO' fA' fH' fG' fN' aS' qL' qR' qP' : Nat → Int32), post (xst', xow', xin', xpa', xfi', xfr', xno', xsi', xan', xkn', xen', xco', xrm', xac', K', N', Z', D', Im', W', P', vS', pO', pX', pI', fS', fP', fI', fU', fR', fO', fA', fH', fG', fN', aS', qL', qR', qP') → Q (xst', xow', xin', xpa', xfi', xfr', xno', xsi', xan', xkn', xen', xco', xrm', xac', K', N', Z', D', Im', W', P', vS', pO', pX', pI', fS', fP', fI', fU', fR', fO', fA', fH', fG', fN', aS', qL', qR', qP')) → wpX_makeNumber Q (xst, xow, xin, xpa, xfi, xfr, xno, xsi, xan, xkn, xen, (nI (c + 1)), xrm, xac, K, N, Z, D, Im, W, P, vS, pO, pX, pI, fS, fP, fI, fU, fR, fO, fA, fH, fG, fN, aS, qL, qR, qP) (nI 25) (N s) (N t)) (he : ¬ (κ = 3 ∧ κ' = 3) → post (xst, xow, xin, xpa, xfi, xfr, xno, 3, xan, xkn, xen, (nI (c + 1)), xrm, xac, K, N, Z, D, Im, W, P, vS, pO, pX, pI, fS, fP, fI, fU, fR, fO, fA, fH, fG, fN, aS, qL, qR, qP)) : wpX_makeCounted post (xst, xow, xin, xpa, xfi, xfr, xno, xsi, xan, xkn, xen, xco, xrm, xac, K, N, Z, D, Im, W, P, vS, pO, pX, pI, fS, fP, fI, fU, fR, fO, fA, fH, fG, fN, aS, qL, qR, qP) := by
  subst eg
  have eg' : (nI g).toNatClampNeg = g := nI_clamp (by omega)
  have hin : vp_in (nI g) 600 := vp_in_nI hg (by omega)
  have hiq : vp_in (nI pq) 40 := vp_in_nI hpq (by omega)
  have his : vp_in (nI s) 653 := vp_in_nI hs (by omega)
  have hit : vp_in (nI t) 653 := vp_in_nI ht (by omega)
  have es : (nI s).toNatClampNeg = s := nI_clamp (by omega)
  have et : (nI t).toNatClampNeg = t := nI_clamp (by omega)
  subst ea
  have k199 : ¬ (κ = 3 ∧ κ' = 3) → wX_makeCounted_199 post (nI 25) (nI s) (nI t) xst xow xin xpa xfi xfr (nI g) xsi (nI t) xkn xen (nI (c + 1)) xrm xac K N Z D Im W P vS pO pX pI fS fP fI fU fR fO fA fH fG fN aS qL qR qP := by
    intro hn
    unfold wX_makeCounted_199
    rw [es, et, eK, eK']
    exact br_f (by decide) (he hn)
  unfold wpX_makeCounted
  dsimp only
  refine xr_counts ec hc ?_
  dsimp only
  rw [eg', eP, nI_clamp (show pq < 2 ^ 31 by omega), eO]
  refine br_f (by decide) ⟨hin, hiq, nm_e ⟨hin, nm_e ?_⟩⟩
  rw [eh, es, et, eK, eK']
  refine br_f (by decide) (br_f (by decide) (br_f (by decide) (br_f (by decide) (br_f (by decide) (br_f (by decide) (⟨his, pk_eq κ 3 (fun z => ⟨hit, pk_eq κ' 3 (fun z2 => ⟨his, hit, hN z z2 _ ?_⟩) (fun z2 => k199 (by omega))⟩) (fun z => k199 (by omega))⟩))))))
  intros
  assumption
theorem xk_26' {xst xow xin xpa xfi xfr xno xsi xan xkn xen xco xrm xac : Int32} {K N Z D Im W P vS pO pX pI fS fP fI fU fR fO fA fH fG fN aS qL qR qP : Nat → Int32} {post : SX → Prop} {g pq c : Nat} (eg : xno = nI g) (hg : g < 600) (eP : fP g = nI pq) (hpq : pq < 40) (eO : pO pq = nI 26) (ec : xco = nI c) (hc : c < 600) {s t κ κ' : Nat} (eh : fH g = nI s) (ea : xan = nI t) (hs : s < 653) (ht : t < 653) (eK : K s = nI κ) (eK' : K t = nI κ') (hκ : κ ≤ 5) (hκ' : κ' ≤ 5) (hN : κ = 3 → κ' = 3 → ∀ Q : SX → Prop, (∀ (xst' xow' xin' xpa' xfi' xfr' xno' xsi' xan' xkn' xen' xco' xrm' xac' : Int32) (K' N' Z' D' Im' W' P' vS' pO' pX' pI' fS' fP' fI' fU' fR' fO' fA' fH' fG' fN' aS' qL' qR' qP' : Nat → Int32), post (xst', xow', xin', xpa', xfi', xfr', xno', xsi', xan', xkn', xen', xco', xrm', xac', K', N', Z', D', Im', W', P', vS', pO', pX', pI', fS', fP', fI', fU', fR', fO', fA', fH', fG', fN', aS', qL', qR', qP') → Q (xst', xow', xin', xpa', xfi', xfr', xno', xsi', xan', xkn', xen', xco', xrm', xac', K', N', Z', D', Im', W', P', vS', pO', pX', pI', fS', fP', fI', fU', fR', fO', fA', fH', fG', fN', aS', qL', qR', qP')) → wpX_makeNumber Q (xst, xow, xin, xpa, xfi, xfr, xno, xsi, xan, xkn, xen, (nI (c + 1)), xrm, xac, K, N, Z, D, Im, W, P, vS, pO, pX, pI, fS, fP, fI, fU, fR, fO, fA, fH, fG, fN, aS, qL, qR, qP) (nI 26) (N s) (N t)) (he : ¬ (κ = 3 ∧ κ' = 3) → post (xst, xow, xin, xpa, xfi, xfr, xno, 3, xan, xkn, xen, (nI (c + 1)), xrm, xac, K, N, Z, D, Im, W, P, vS, pO, pX, pI, fS, fP, fI, fU, fR, fO, fA, fH, fG, fN, aS, qL, qR, qP)) : wpX_makeCounted post (xst, xow, xin, xpa, xfi, xfr, xno, xsi, xan, xkn, xen, xco, xrm, xac, K, N, Z, D, Im, W, P, vS, pO, pX, pI, fS, fP, fI, fU, fR, fO, fA, fH, fG, fN, aS, qL, qR, qP) := by
  subst eg
  have eg' : (nI g).toNatClampNeg = g := nI_clamp (by omega)
  have hin : vp_in (nI g) 600 := vp_in_nI hg (by omega)
  have hiq : vp_in (nI pq) 40 := vp_in_nI hpq (by omega)
  have his : vp_in (nI s) 653 := vp_in_nI hs (by omega)
  have hit : vp_in (nI t) 653 := vp_in_nI ht (by omega)
  have es : (nI s).toNatClampNeg = s := nI_clamp (by omega)
  have et : (nI t).toNatClampNeg = t := nI_clamp (by omega)
  subst ea
  have k199 : ¬ (κ = 3 ∧ κ' = 3) → wX_makeCounted_199 post (nI 26) (nI s) (nI t) xst xow xin xpa xfi xfr (nI g) xsi (nI t) xkn xen (nI (c + 1)) xrm xac K N Z D Im W P vS pO pX pI fS fP fI fU fR fO fA fH fG fN aS qL qR qP := by
    intro hn
    unfold wX_makeCounted_199
    rw [es, et, eK, eK']
    exact br_f (by decide) (he hn)
  unfold wpX_makeCounted
  dsimp only
  refine xr_counts ec hc ?_
  dsimp only
  rw [eg', eP, nI_clamp (show pq < 2 ^ 31 by omega), eO]
  refine br_f (by decide) ⟨hin, hiq, nm_e ⟨hin, nm_e ?_⟩⟩
  rw [eh, es, et, eK, eK']
  refine br_f (by decide) (br_f (by decide) (br_f (by decide) (br_f (by decide) (br_f (by decide) (br_f (by decide) (⟨his, pk_eq κ 3 (fun z => ⟨hit, pk_eq κ' 3 (fun z2 => ⟨his, hit, hN z z2 _ ?_⟩) (fun z2 => k199 (by omega))⟩) (fun z => k199 (by omega))⟩))))))
  intros
  assumption
theorem xk_27' {xst xow xin xpa xfi xfr xno xsi xan xkn xen xco xrm xac : Int32} {K N Z D Im W P vS pO pX pI fS fP fI fU fR fO fA fH fG fN aS qL qR qP : Nat → Int32} {post : SX → Prop} {g pq c : Nat} (eg : xno = nI g) (hg : g < 600) (eP : fP g = nI pq) (hpq : pq < 40) (eO : pO pq = nI 27) (ec : xco = nI c) (hc : c < 600) {s t κ κ' : Nat} (eh : fH g = nI s) (ea : xan = nI t) (hs : s < 653) (ht : t < 653) (eK : K s = nI κ) (eK' : K t = nI κ') (hκ : κ ≤ 5) (hκ' : κ' ≤ 5) (hN : κ = 3 → κ' = 3 → ∀ Q : SX → Prop, (∀ (xst' xow' xin' xpa' xfi' xfr' xno' xsi' xan' xkn' xen' xco' xrm' xac' : Int32) (K' N' Z' D' Im' W' P' vS' pO' pX' pI' fS' fP' fI' fU' fR' fO' fA' fH' fG' fN' aS' qL' qR' qP' : Nat → Int32), post (xst', xow', xin', xpa', xfi', xfr', xno', xsi', xan', xkn', xen', xco', xrm', xac', K', N', Z', D', Im', W', P', vS', pO', pX', pI', fS', fP', fI', fU', fR', fO', fA', fH', fG', fN', aS', qL', qR', qP') → Q (xst', xow', xin', xpa', xfi', xfr', xno', xsi', xan', xkn', xen', xco', xrm', xac', K', N', Z', D', Im', W', P', vS', pO', pX', pI', fS', fP', fI', fU', fR', fO', fA', fH', fG', fN', aS', qL', qR', qP')) → wpX_makeNumber Q (xst, xow, xin, xpa, xfi, xfr, xno, xsi, xan, xkn, xen, (nI (c + 1)), xrm, xac, K, N, Z, D, Im, W, P, vS, pO, pX, pI, fS, fP, fI, fU, fR, fO, fA, fH, fG, fN, aS, qL, qR, qP) (nI 27) (N s) (N t)) (he : ¬ (κ = 3 ∧ κ' = 3) → post (xst, xow, xin, xpa, xfi, xfr, xno, 3, xan, xkn, xen, (nI (c + 1)), xrm, xac, K, N, Z, D, Im, W, P, vS, pO, pX, pI, fS, fP, fI, fU, fR, fO, fA, fH, fG, fN, aS, qL, qR, qP)) : wpX_makeCounted post (xst, xow, xin, xpa, xfi, xfr, xno, xsi, xan, xkn, xen, xco, xrm, xac, K, N, Z, D, Im, W, P, vS, pO, pX, pI, fS, fP, fI, fU, fR, fO, fA, fH, fG, fN, aS, qL, qR, qP) := by
  subst eg
  have eg' : (nI g).toNatClampNeg = g := nI_clamp (by omega)
  have hin : vp_in (nI g) 600 := vp_in_nI hg (by omega)
  have hiq : vp_in (nI pq) 40 := vp_in_nI hpq (by omega)
  have his : vp_in (nI s) 653 := vp_in_nI hs (by omega)
  have hit : vp_in (nI t) 653 := vp_in_nI ht (by omega)
  have es : (nI s).toNatClampNeg = s := nI_clamp (by omega)
  have et : (nI t).toNatClampNeg = t := nI_clamp (by omega)
  subst ea
  have k199 : ¬ (κ = 3 ∧ κ' = 3) → wX_makeCounted_199 post (nI 27) (nI s) (nI t) xst xow xin xpa xfi xfr (nI g) xsi (nI t) xkn xen (nI (c + 1)) xrm xac K N Z D Im W P vS pO pX pI fS fP fI fU fR fO fA fH fG fN aS qL qR qP := by
    intro hn
    unfold wX_makeCounted_199
    rw [es, et, eK, eK']
    exact br_f (by decide) (he hn)
  unfold wpX_makeCounted
  dsimp only
  refine xr_counts ec hc ?_
  dsimp only
  rw [eg', eP, nI_clamp (show pq < 2 ^ 31 by omega), eO]
  refine br_f (by decide) ⟨hin, hiq, nm_e ⟨hin, nm_e ?_⟩⟩
  rw [eh, es, et, eK, eK']
  refine br_f (by decide) (br_f (by decide) (br_f (by decide) (br_f (by decide) (br_f (by decide) (br_f (by decide) (⟨his, pk_eq κ 3 (fun z => ⟨hit, pk_eq κ' 3 (fun z2 => ⟨his, hit, hN z z2 _ ?_⟩) (fun z2 => k199 (by omega))⟩) (fun z => k199 (by omega))⟩))))))
  intros
  assumption
theorem cq_m25 {p : Nat} {pa' : List Nat} {post : SX → Prop} {T : List Nat → Option vv_L} {nf bo np : Nat} {K0 N0 Z0 D0 I0 W0 P0 : Nat → Int32} {xst xow xin xpa xfi xfr xno xsi xan xkn xen xco xrm xac : Int32} {K N Z D Im W P vS pO pX pI fS fP fI fU fR fO fA fH fG fN aS qL qR qP : Nat → Int32} {st : Nat} {V al : Nat → Prop} {g : Nat} {n c rm a : Nat}
    (hX : md_X V al g (p :: pa') bo np n c rm a st xfr xno xsi xen xco xrm xac K N Z D Im W P K0 N0 Z0 D0 I0 W0 P0 pO pX fP fU fR fO fA fH fG) (hv : mv_X V n xsi xan pO fP fI fH fN) (ha : ma_X V a aS)
    (hM : ∀ (mk0 pd0 : Nat) (v0 : SY), kn_F T np nf pO pX pI fS mk0 pd0 v0 → rm_M V (p :: pa') g np n c rm a st xsi xan K N Z D W P pO pX pI fP fI fO fA fH fG fN aS mk0 pd0 v0)
    (H : lp_G T nf bo np K0 N0 Z0 D0 I0 W0 P0 post xst xow xin xpa xfi xkn vS pO pX pI fS st) {q : Nat} (eP : fP p = nI q) (hqn : q < np) (hq : q < 40) (eO : pO q = nI 25) (es : xsi = 1) (r1 : fR g = 1 ∨ fR g = 2) : wX_workOut_68 post (1000001 - st) (nI st) xst xow xin xpa xfi xfr xno xsi xan xkn xen xco xrm xac K N Z D Im W P vS pO pX pI fS fP fI fU fR fO fA fH fG fN aS qL qR qP := by
  subst es
  obtain ⟨hpg, hgn, hn6, hU, hA, hrun, hro⟩ := mx_p hX
  obtain ⟨_, _, hst, hlen, _⟩ := mx_f hX
  have hlen2 : pa'.length + 2 ≤ 40 := by
    have := hlen
    rw [List.length_cons] at this
    omega
  have hX0 := hX
  obtain ⟨⟨x1, x2, x3, x4, x5, x6, x7, x8, x9, x10⟩, hs, hh, hb, hf, hr, hG, hpot⟩ := hX
  have hpn : p < n := by omega
  have hfo := mx_fo eP hq eO (by omega)
  obtain ⟨s, ea, hVs⟩ := hv.1 rfl
  obtain ⟨hs6, κ, hκ, eK⟩ := vx_k hh.1 hVs
  obtain ⟨gv, g1, g2⟩ := hG p hpn
  have nr : ¬ fR g = 0 := fun w => r_ne w r1
  obtain ⟨rO, r21, rx, ry⟩ : fO p ≠ nI g ∧ fr_ro (fr_o pO fP p) (fR g) (fO p) := by
    rcases hro with ⟨r0, _⟩ | ⟨_, rO, rr⟩
    · exact absurd r0 nr
    · exact ⟨rO, rr⟩
  have nAO : fA p ≠ fO p := fun e => rO (e.symm.trans hA)
  rw [hfo] at r21 rx ry
  obtain ⟨t, eh, hVt⟩ := (hv.2 p hpn).2.1 (by omega)
  obtain ⟨ht6, κt, hκt, eKt⟩ := vx_k hh.1 hVt
  refine cq_mk hX0 hv ha hM H rfl (fun Q hQ => xh_ans1 x2 (by omega) hU (by omega) rfl nr eP hq eO (by omega) rfl (fun Q hQ => xb_make (by omega) (by omega) hQ) hQ) (fun hc => ?_) (fun hc mk0 pd0 mk pd nd yhe yvm yin yfi yde yic ys yk yn yp yf iK iN o0 l0 kS0 d0 pl0 yma ypo yap yas yto yan yco yti yna yac yen o l kS d pl yo yi yw ya y1 y2 yK yW yL yq nm nv no yA lf rt hY Q hQ => ?_)
  · have hrm : rm < 600 := by omega
    refine xk_25' (c := c) rfl (by omega) eP hq eO x4 hc eh ea ht6 hs6 eKt eK hκt hκ (fun k3 k3' Q hQ' => ?_) (fun hn => ?_)
    · refine xk_number (rm := rm) (y := N t * N s) (by omega) (by omega) x5 hrm (fun w => absurd w (by omega)) ⟨fun w => absurd w (by omega), fun _ => rfl, fun w => absurd w (by omega), fun w => absurd w (by omega)⟩ (fun _ => hQ' _ _ _ _ _ _ _ _ _ _ _ _ _ _ _ _ _ _ _ _ _ _ _ _ _ _ _ _ _ _ _ _ _ _ _ _ _ _ _ ?_)
      refine lp_K H (by omega) (rm_makeN (y := N t * N s) hX0 hv ha hM rfl (by omega) (by omega) hc (fun mk0 pd0 mk pd nd yhe yvm yin yfi yde yic ys yk yn yp yf iK iN o0 l0 kS0 d0 pl0 yma ypo yap yas yto yan yco yti yna yac yen o l kS d pl yo yi yw ya y1 y2 yK yW yL yq nm nv no yA lf rt hY Q hQ => ?_))
      obtain ⟨⟨b1, b2, b3, b4, b5, b6, b7, b8, b9, b10, b11⟩, hfl, hen, hhy, hby, hfr, han, hq0, hq1, hz1, hz2, hz3⟩ := hY
      obtain ⟨t1, t2, t3, t4, t5⟩ := hfr p hpn
      obtain ⟨ey, eq⟩ := hq1 (by decide)
      rw [List.length_cons] at ey
      have eyo := t1.symm.trans eP
      rw [hfo] at t5
      obtain ⟨et, hRa⟩ := hz1 rfl
      subst et
      obtain ⟨x, e1, e2⟩ := my_v hh.1 hhy.1 hRa ea hs6 eK hκ
      have hRh := t5.2.2.2.2.2.2.2.1 (by omega) (by omega)
      obtain ⟨xt, h1, h2⟩ := my_v hh.1 hhy.1 hRh eh ht6 eKt hκt
      have a1 := (my_a1 t5 (by omega) (by omega) nAO).1.trans hA
      have hx1 : N t = xt := by
        rcases h2 with ⟨_, w, _⟩ | ⟨w, _⟩
        · exact w
        · omega
      have hx2 : N s = x := by
        rcases e2 with ⟨_, w, _⟩ | ⟨w, _⟩
        · exact w
        · omega
      subst k3 k3'
      exact yh_0o' (f := g) (by omega) eyo hq (my_k 34 rfl (by omega) (hfl q hqn) eO) (by omega) (by omega) a1 (by omega) rfl (by omega) (by omega) b4 hc (fun Q hQ' => by
        rw [h1, e1]
        exact yp_num (y := N t * N s) (by omega) (by omega) (fun w => absurd w (by omega)) ⟨fun w => absurd w (by omega), fun w => absurd w (by omega), fun _ => by rw [hx1, hx2], fun w => absurd w (by omega), fun w => absurd w (by omega)⟩ ey (hQ' _ _ _ _ _ _ _ _ _ _ _ _ _ _ _ _ _ _ _ _ _ _ _ _ _ _ _ _ _ _ _ _ _ _ _ _ _ _ _ _ _ _ _ _ _ hQ))
    · skip
      refine lp_K H (by omega) (rm_make0 (qL := qL) (qR := qR) (qP := qP) (s' := 3) hX0 hv ha hM rfl (by omega) (by omega) (Or.inr (Or.inr rfl)) hc (fun w => absurd w (by decide)) (fun mk0 pd0 mk pd nd yhe yvm yin yfi yde yic ys yk yn yp yf iK iN o0 l0 kS0 d0 pl0 yma ypo yap yas yto yan yco yti yna yac yen o l kS d pl yo yi yw ya y1 y2 yK yW yL yq nm nv no yA lf rt hY Q hQ => ?_))
      obtain ⟨⟨b1, b2, b3, b4, b5, b6, b7, b8, b9, b10, b11⟩, hfl, hen, hhy, hby, hfr, han, hq0, hq1, hz1, hz2, hz3⟩ := hY
      obtain ⟨t1, t2, t3, t4, t5⟩ := hfr p hpn
      obtain ⟨ey, eq⟩ := hq1 (by decide)
      rw [List.length_cons] at ey
      have eyo := t1.symm.trans eP
      rw [hfo] at t5
      obtain ⟨et, hRa⟩ := hz1 rfl
      subst et
      obtain ⟨x, e1, e2⟩ := my_v hh.1 hhy.1 hRa ea hs6 eK hκ
      have hRh := t5.2.2.2.2.2.2.2.1 (by omega) (by omega)
      obtain ⟨xt, h1, h2⟩ := my_v hh.1 hhy.1 hRh eh ht6 eKt hκt
      have a1 := (my_a1 t5 (by omega) (by omega) nAO).1.trans hA
      rw [e31] at hQ
      exact yh_0o' (f := g) (by omega) eyo hq (my_k 34 rfl (by omega) (hfl q hqn) eO) (by omega) (by omega) a1 (by omega) rfl (by omega) (by omega) b4 hc (fun Q hQ' => by
        rw [h1, e1]
        exact yp_err (by omega) (by omega) hκt hκ (fun w => absurd w (by omega)) (by omega) (by omega) (fun w => absurd w hn) ey (hQ' _ _ _ _ _ _ _ _ _ _ _ _ _ _ _ _ _ _ _ _ _ _ _ _ _ _ _ _ _ _ _ _ _ _ _ _ _ _ _ _ _ _ _ _ _ (hQ lf rt 0 (fun w => absurd w (by decide)))))
  · obtain ⟨⟨b1, b2, b3, b4, b5, b6, b7, b8, b9, b10, b11⟩, hfl, hen, hhy, hby, hfr, han, hq0, hq1, hz1, hz2, hz3⟩ := hY
    obtain ⟨t1, t2, t3, t4, t5⟩ := hfr p hpn
    obtain ⟨ey, eq⟩ := hq1 (by decide)
    rw [List.length_cons] at ey
    have eyo := t1.symm.trans eP
    rw [hfo] at t5
    obtain ⟨et, hRa⟩ := hz1 rfl
    subst et
    obtain ⟨x, e1, e2⟩ := my_v hh.1 hhy.1 hRa ea hs6 eK hκ
    have a1 := (my_a1 t5 (by omega) (by omega) nAO).1.trans hA
    exact yh_0t (f := g) (c := 0) (by omega) eyo hq (my_k 34 rfl (by omega) (hfl q hqn) eO) (by omega) (by omega) a1 (by omega) rfl (by omega) (by omega) (b4.trans (by rw [hc])) hQ
theorem cq_m26 {p : Nat} {pa' : List Nat} {post : SX → Prop} {T : List Nat → Option vv_L} {nf bo np : Nat} {K0 N0 Z0 D0 I0 W0 P0 : Nat → Int32} {xst xow xin xpa xfi xfr xno xsi xan xkn xen xco xrm xac : Int32} {K N Z D Im W P vS pO pX pI fS fP fI fU fR fO fA fH fG fN aS qL qR qP : Nat → Int32} {st : Nat} {V al : Nat → Prop} {g : Nat} {n c rm a : Nat}
    (hX : md_X V al g (p :: pa') bo np n c rm a st xfr xno xsi xen xco xrm xac K N Z D Im W P K0 N0 Z0 D0 I0 W0 P0 pO pX fP fU fR fO fA fH fG) (hv : mv_X V n xsi xan pO fP fI fH fN) (ha : ma_X V a aS)
    (hM : ∀ (mk0 pd0 : Nat) (v0 : SY), kn_F T np nf pO pX pI fS mk0 pd0 v0 → rm_M V (p :: pa') g np n c rm a st xsi xan K N Z D W P pO pX pI fP fI fO fA fH fG fN aS mk0 pd0 v0)
    (H : lp_G T nf bo np K0 N0 Z0 D0 I0 W0 P0 post xst xow xin xpa xfi xkn vS pO pX pI fS st) {q : Nat} (eP : fP p = nI q) (hqn : q < np) (hq : q < 40) (eO : pO q = nI 26) (es : xsi = 1) (r1 : fR g = 1 ∨ fR g = 2) : wX_workOut_68 post (1000001 - st) (nI st) xst xow xin xpa xfi xfr xno xsi xan xkn xen xco xrm xac K N Z D Im W P vS pO pX pI fS fP fI fU fR fO fA fH fG fN aS qL qR qP := by
  subst es
  obtain ⟨hpg, hgn, hn6, hU, hA, hrun, hro⟩ := mx_p hX
  obtain ⟨_, _, hst, hlen, _⟩ := mx_f hX
  have hlen2 : pa'.length + 2 ≤ 40 := by
    have := hlen
    rw [List.length_cons] at this
    omega
  have hX0 := hX
  obtain ⟨⟨x1, x2, x3, x4, x5, x6, x7, x8, x9, x10⟩, hs, hh, hb, hf, hr, hG, hpot⟩ := hX
  have hpn : p < n := by omega
  have hfo := mx_fo eP hq eO (by omega)
  obtain ⟨s, ea, hVs⟩ := hv.1 rfl
  obtain ⟨hs6, κ, hκ, eK⟩ := vx_k hh.1 hVs
  obtain ⟨gv, g1, g2⟩ := hG p hpn
  have nr : ¬ fR g = 0 := fun w => r_ne w r1
  obtain ⟨rO, r21, rx, ry⟩ : fO p ≠ nI g ∧ fr_ro (fr_o pO fP p) (fR g) (fO p) := by
    rcases hro with ⟨r0, _⟩ | ⟨_, rO, rr⟩
    · exact absurd r0 nr
    · exact ⟨rO, rr⟩
  have nAO : fA p ≠ fO p := fun e => rO (e.symm.trans hA)
  rw [hfo] at r21 rx ry
  obtain ⟨t, eh, hVt⟩ := (hv.2 p hpn).2.1 (by omega)
  obtain ⟨ht6, κt, hκt, eKt⟩ := vx_k hh.1 hVt
  refine cq_mk hX0 hv ha hM H rfl (fun Q hQ => xh_ans1 x2 (by omega) hU (by omega) rfl nr eP hq eO (by omega) rfl (fun Q hQ => xb_make (by omega) (by omega) hQ) hQ) (fun hc => ?_) (fun hc mk0 pd0 mk pd nd yhe yvm yin yfi yde yic ys yk yn yp yf iK iN o0 l0 kS0 d0 pl0 yma ypo yap yas yto yan yco yti yna yac yen o l kS d pl yo yi yw ya y1 y2 yK yW yL yq nm nv no yA lf rt hY Q hQ => ?_)
  · have hrm : rm < 600 := by omega
    refine xk_26' (c := c) rfl (by omega) eP hq eO x4 hc eh ea ht6 hs6 eKt eK hκt hκ (fun k3 k3' Q hQ' => ?_) (fun hn => ?_)
    · by_cases hb0 : N s = 0
      · refine xk_number (rm := rm) (y := N t / N s) (by omega) (by omega) x5 hrm (fun _ _ => hQ' _ _ _ _ _ _ _ _ _ _ _ _ _ _ _ _ _ _ _ _ _ _ _ _ _ _ _ _ _ _ _ _ _ _ _ _ _ _ _ ?_) ⟨fun w => absurd w (by omega), fun w => absurd w (by omega), fun _ => rfl, fun w => absurd w (by omega)⟩ (fun w => absurd hb0 (w (by omega)))
        refine lp_K H (by omega) (rm_make0 (qL := qL) (qR := qR) (qP := qP) (s' := 3) hX0 hv ha hM rfl (by omega) (by omega) (Or.inr (Or.inr rfl)) hc (fun w => absurd w (by decide)) (fun mk0 pd0 mk pd nd yhe yvm yin yfi yde yic ys yk yn yp yf iK iN o0 l0 kS0 d0 pl0 yma ypo yap yas yto yan yco yti yna yac yen o l kS d pl yo yi yw ya y1 y2 yK yW yL yq nm nv no yA lf rt hY Q hQ => ?_))
        obtain ⟨⟨b1, b2, b3, b4, b5, b6, b7, b8, b9, b10, b11⟩, hfl, hen, hhy, hby, hfr, han, hq0, hq1, hz1, hz2, hz3⟩ := hY
        obtain ⟨t1, t2, t3, t4, t5⟩ := hfr p hpn
        obtain ⟨ey, eq⟩ := hq1 (by decide)
        rw [List.length_cons] at ey
        have eyo := t1.symm.trans eP
        rw [hfo] at t5
        obtain ⟨et, hRa⟩ := hz1 rfl
        subst et
        obtain ⟨x, e1, e2⟩ := my_v hh.1 hhy.1 hRa ea hs6 eK hκ
        have hRh := t5.2.2.2.2.2.2.2.1 (by omega) (by omega)
        obtain ⟨xt, h1, h2⟩ := my_v hh.1 hhy.1 hRh eh ht6 eKt hκt
        have a1 := (my_a1 t5 (by omega) (by omega) nAO).1.trans hA
        rw [e31] at hQ
        exact yh_0o' (f := g) (by omega) eyo hq (my_k 35 rfl (by omega) (hfl q hqn) eO) (by omega) (by omega) a1 (by omega) rfl (by omega) (by omega) b4 hc (fun Q hQ' => by
          rw [h1, e1]
          exact yp_err (by omega) (by omega) hκt hκ (fun w => absurd w (by omega)) (by omega) (by omega) (fun _ => ⟨by omega, by
            rcases e2 with ⟨_, w, _⟩ | ⟨w, _⟩
            · rw [← w]; exact hb0
            · omega⟩) ey (hQ' _ _ _ _ _ _ _ _ _ _ _ _ _ _ _ _ _ _ _ _ _ _ _ _ _ _ _ _ _ _ _ _ _ _ _ _ _ _ _ _ _ _ _ _ _ (hQ lf rt 0 (fun w => absurd w (by decide)))))
      · refine xk_number (rm := rm) (y := N t / N s) (by omega) (by omega) x5 hrm (fun _ w => absurd w hb0) ⟨fun w => absurd w (by omega), fun w => absurd w (by omega), fun _ => rfl, fun w => absurd w (by omega)⟩ (fun _ => hQ' _ _ _ _ _ _ _ _ _ _ _ _ _ _ _ _ _ _ _ _ _ _ _ _ _ _ _ _ _ _ _ _ _ _ _ _ _ _ _ ?_)
        refine lp_K H (by omega) (rm_makeN (y := N t / N s) hX0 hv ha hM rfl (by omega) (by omega) hc (fun mk0 pd0 mk pd nd yhe yvm yin yfi yde yic ys yk yn yp yf iK iN o0 l0 kS0 d0 pl0 yma ypo yap yas yto yan yco yti yna yac yen o l kS d pl yo yi yw ya y1 y2 yK yW yL yq nm nv no yA lf rt hY Q hQ => ?_))
        obtain ⟨⟨b1, b2, b3, b4, b5, b6, b7, b8, b9, b10, b11⟩, hfl, hen, hhy, hby, hfr, han, hq0, hq1, hz1, hz2, hz3⟩ := hY
        obtain ⟨t1, t2, t3, t4, t5⟩ := hfr p hpn
        obtain ⟨ey, eq⟩ := hq1 (by decide)
        rw [List.length_cons] at ey
        have eyo := t1.symm.trans eP
        rw [hfo] at t5
        obtain ⟨et, hRa⟩ := hz1 rfl
        subst et
        obtain ⟨x, e1, e2⟩ := my_v hh.1 hhy.1 hRa ea hs6 eK hκ
        have hRh := t5.2.2.2.2.2.2.2.1 (by omega) (by omega)
        obtain ⟨xt, h1, h2⟩ := my_v hh.1 hhy.1 hRh eh ht6 eKt hκt
        have a1 := (my_a1 t5 (by omega) (by omega) nAO).1.trans hA
        have hx1 : N t = xt := by
          rcases h2 with ⟨_, w, _⟩ | ⟨w, _⟩
          · exact w
          · omega
        have hx2 : N s = x := by
          rcases e2 with ⟨_, w, _⟩ | ⟨w, _⟩
          · exact w
          · omega
        subst k3 k3'
        exact yh_0o' (f := g) (by omega) eyo hq (my_k 35 rfl (by omega) (hfl q hqn) eO) (by omega) (by omega) a1 (by omega) rfl (by omega) (by omega) b4 hc (fun Q hQ' => by
          rw [h1, e1]
          exact yp_num (y := N t / N s) (by omega) (by omega) (fun _ => by rw [← hx2]; exact hb0) ⟨fun w => absurd w (by omega), fun w => absurd w (by omega), fun w => absurd w (by omega), fun _ => by rw [hx1, hx2], fun w => absurd w (by omega)⟩ ey (hQ' _ _ _ _ _ _ _ _ _ _ _ _ _ _ _ _ _ _ _ _ _ _ _ _ _ _ _ _ _ _ _ _ _ _ _ _ _ _ _ _ _ _ _ _ _ hQ))
    · skip
      refine lp_K H (by omega) (rm_make0 (qL := qL) (qR := qR) (qP := qP) (s' := 3) hX0 hv ha hM rfl (by omega) (by omega) (Or.inr (Or.inr rfl)) hc (fun w => absurd w (by decide)) (fun mk0 pd0 mk pd nd yhe yvm yin yfi yde yic ys yk yn yp yf iK iN o0 l0 kS0 d0 pl0 yma ypo yap yas yto yan yco yti yna yac yen o l kS d pl yo yi yw ya y1 y2 yK yW yL yq nm nv no yA lf rt hY Q hQ => ?_))
      obtain ⟨⟨b1, b2, b3, b4, b5, b6, b7, b8, b9, b10, b11⟩, hfl, hen, hhy, hby, hfr, han, hq0, hq1, hz1, hz2, hz3⟩ := hY
      obtain ⟨t1, t2, t3, t4, t5⟩ := hfr p hpn
      obtain ⟨ey, eq⟩ := hq1 (by decide)
      rw [List.length_cons] at ey
      have eyo := t1.symm.trans eP
      rw [hfo] at t5
      obtain ⟨et, hRa⟩ := hz1 rfl
      subst et
      obtain ⟨x, e1, e2⟩ := my_v hh.1 hhy.1 hRa ea hs6 eK hκ
      have hRh := t5.2.2.2.2.2.2.2.1 (by omega) (by omega)
      obtain ⟨xt, h1, h2⟩ := my_v hh.1 hhy.1 hRh eh ht6 eKt hκt
      have a1 := (my_a1 t5 (by omega) (by omega) nAO).1.trans hA
      rw [e31] at hQ
      exact yh_0o' (f := g) (by omega) eyo hq (my_k 35 rfl (by omega) (hfl q hqn) eO) (by omega) (by omega) a1 (by omega) rfl (by omega) (by omega) b4 hc (fun Q hQ' => by
        rw [h1, e1]
        exact yp_err (by omega) (by omega) hκt hκ (fun w => absurd w (by omega)) (by omega) (by omega) (fun w => absurd w hn) ey (hQ' _ _ _ _ _ _ _ _ _ _ _ _ _ _ _ _ _ _ _ _ _ _ _ _ _ _ _ _ _ _ _ _ _ _ _ _ _ _ _ _ _ _ _ _ _ (hQ lf rt 0 (fun w => absurd w (by decide)))))
  · obtain ⟨⟨b1, b2, b3, b4, b5, b6, b7, b8, b9, b10, b11⟩, hfl, hen, hhy, hby, hfr, han, hq0, hq1, hz1, hz2, hz3⟩ := hY
    obtain ⟨t1, t2, t3, t4, t5⟩ := hfr p hpn
    obtain ⟨ey, eq⟩ := hq1 (by decide)
    rw [List.length_cons] at ey
    have eyo := t1.symm.trans eP
    rw [hfo] at t5
    obtain ⟨et, hRa⟩ := hz1 rfl
    subst et
    obtain ⟨x, e1, e2⟩ := my_v hh.1 hhy.1 hRa ea hs6 eK hκ
    have a1 := (my_a1 t5 (by omega) (by omega) nAO).1.trans hA
    exact yh_0t (f := g) (c := 0) (by omega) eyo hq (my_k 35 rfl (by omega) (hfl q hqn) eO) (by omega) (by omega) a1 (by omega) rfl (by omega) (by omega) (b4.trans (by rw [hc])) hQ
theorem cq_m27 {p : Nat} {pa' : List Nat} {post : SX → Prop} {T : List Nat → Option vv_L} {nf bo np : Nat} {K0 N0 Z0 D0 I0 W0 P0 : Nat → Int32} {xst xow xin xpa xfi xfr xno xsi xan xkn xen xco xrm xac : Int32} {K N Z D Im W P vS pO pX pI fS fP fI fU fR fO fA fH fG fN aS qL qR qP : Nat → Int32} {st : Nat} {V al : Nat → Prop} {g : Nat} {n c rm a : Nat}
    (hX : md_X V al g (p :: pa') bo np n c rm a st xfr xno xsi xen xco xrm xac K N Z D Im W P K0 N0 Z0 D0 I0 W0 P0 pO pX fP fU fR fO fA fH fG) (hv : mv_X V n xsi xan pO fP fI fH fN) (ha : ma_X V a aS)
    (hM : ∀ (mk0 pd0 : Nat) (v0 : SY), kn_F T np nf pO pX pI fS mk0 pd0 v0 → rm_M V (p :: pa') g np n c rm a st xsi xan K N Z D W P pO pX pI fP fI fO fA fH fG fN aS mk0 pd0 v0)
    (H : lp_G T nf bo np K0 N0 Z0 D0 I0 W0 P0 post xst xow xin xpa xfi xkn vS pO pX pI fS st) {q : Nat} (eP : fP p = nI q) (hqn : q < np) (hq : q < 40) (eO : pO q = nI 27) (es : xsi = 1) (r1 : fR g = 1 ∨ fR g = 2) : wX_workOut_68 post (1000001 - st) (nI st) xst xow xin xpa xfi xfr xno xsi xan xkn xen xco xrm xac K N Z D Im W P vS pO pX pI fS fP fI fU fR fO fA fH fG fN aS qL qR qP := by
  subst es
  obtain ⟨hpg, hgn, hn6, hU, hA, hrun, hro⟩ := mx_p hX
  obtain ⟨_, _, hst, hlen, _⟩ := mx_f hX
  have hlen2 : pa'.length + 2 ≤ 40 := by
    have := hlen
    rw [List.length_cons] at this
    omega
  have hX0 := hX
  obtain ⟨⟨x1, x2, x3, x4, x5, x6, x7, x8, x9, x10⟩, hs, hh, hb, hf, hr, hG, hpot⟩ := hX
  have hpn : p < n := by omega
  have hfo := mx_fo eP hq eO (by omega)
  obtain ⟨s, ea, hVs⟩ := hv.1 rfl
  obtain ⟨hs6, κ, hκ, eK⟩ := vx_k hh.1 hVs
  obtain ⟨gv, g1, g2⟩ := hG p hpn
  have nr : ¬ fR g = 0 := fun w => r_ne w r1
  obtain ⟨rO, r21, rx, ry⟩ : fO p ≠ nI g ∧ fr_ro (fr_o pO fP p) (fR g) (fO p) := by
    rcases hro with ⟨r0, _⟩ | ⟨_, rO, rr⟩
    · exact absurd r0 nr
    · exact ⟨rO, rr⟩
  have nAO : fA p ≠ fO p := fun e => rO (e.symm.trans hA)
  rw [hfo] at r21 rx ry
  obtain ⟨t, eh, hVt⟩ := (hv.2 p hpn).2.1 (by omega)
  obtain ⟨ht6, κt, hκt, eKt⟩ := vx_k hh.1 hVt
  refine cq_mk hX0 hv ha hM H rfl (fun Q hQ => xh_ans1 x2 (by omega) hU (by omega) rfl nr eP hq eO (by omega) rfl (fun Q hQ => xb_make (by omega) (by omega) hQ) hQ) (fun hc => ?_) (fun hc mk0 pd0 mk pd nd yhe yvm yin yfi yde yic ys yk yn yp yf iK iN o0 l0 kS0 d0 pl0 yma ypo yap yas yto yan yco yti yna yac yen o l kS d pl yo yi yw ya y1 y2 yK yW yL yq nm nv no yA lf rt hY Q hQ => ?_)
  · have hrm : rm < 600 := by omega
    refine xk_27' (c := c) rfl (by omega) eP hq eO x4 hc eh ea ht6 hs6 eKt eK hκt hκ (fun k3 k3' Q hQ' => ?_) (fun hn => ?_)
    · by_cases hb0 : N s = 0
      · refine xk_number (rm := rm) (y := N t - N t / N s * N s) (by omega) (by omega) x5 hrm (fun _ _ => hQ' _ _ _ _ _ _ _ _ _ _ _ _ _ _ _ _ _ _ _ _ _ _ _ _ _ _ _ _ _ _ _ _ _ _ _ _ _ _ _ ?_) ⟨fun w => absurd w (by omega), fun w => absurd w (by omega), fun w => absurd w (by omega), fun _ => rfl⟩ (fun w => absurd hb0 (w (by omega)))
        refine lp_K H (by omega) (rm_make0 (qL := qL) (qR := qR) (qP := qP) (s' := 3) hX0 hv ha hM rfl (by omega) (by omega) (Or.inr (Or.inr rfl)) hc (fun w => absurd w (by decide)) (fun mk0 pd0 mk pd nd yhe yvm yin yfi yde yic ys yk yn yp yf iK iN o0 l0 kS0 d0 pl0 yma ypo yap yas yto yan yco yti yna yac yen o l kS d pl yo yi yw ya y1 y2 yK yW yL yq nm nv no yA lf rt hY Q hQ => ?_))
        obtain ⟨⟨b1, b2, b3, b4, b5, b6, b7, b8, b9, b10, b11⟩, hfl, hen, hhy, hby, hfr, han, hq0, hq1, hz1, hz2, hz3⟩ := hY
        obtain ⟨t1, t2, t3, t4, t5⟩ := hfr p hpn
        obtain ⟨ey, eq⟩ := hq1 (by decide)
        rw [List.length_cons] at ey
        have eyo := t1.symm.trans eP
        rw [hfo] at t5
        obtain ⟨et, hRa⟩ := hz1 rfl
        subst et
        obtain ⟨x, e1, e2⟩ := my_v hh.1 hhy.1 hRa ea hs6 eK hκ
        have hRh := t5.2.2.2.2.2.2.2.1 (by omega) (by omega)
        obtain ⟨xt, h1, h2⟩ := my_v hh.1 hhy.1 hRh eh ht6 eKt hκt
        have a1 := (my_a1 t5 (by omega) (by omega) nAO).1.trans hA
        rw [e31] at hQ
        exact yh_0o' (f := g) (by omega) eyo hq (my_k 36 rfl (by omega) (hfl q hqn) eO) (by omega) (by omega) a1 (by omega) rfl (by omega) (by omega) b4 hc (fun Q hQ' => by
          rw [h1, e1]
          exact yp_err (by omega) (by omega) hκt hκ (fun w => absurd w (by omega)) (by omega) (by omega) (fun _ => ⟨by omega, by
            rcases e2 with ⟨_, w, _⟩ | ⟨w, _⟩
            · rw [← w]; exact hb0
            · omega⟩) ey (hQ' _ _ _ _ _ _ _ _ _ _ _ _ _ _ _ _ _ _ _ _ _ _ _ _ _ _ _ _ _ _ _ _ _ _ _ _ _ _ _ _ _ _ _ _ _ (hQ lf rt 0 (fun w => absurd w (by decide)))))
      · refine xk_number (rm := rm) (y := N t - N t / N s * N s) (by omega) (by omega) x5 hrm (fun _ w => absurd w hb0) ⟨fun w => absurd w (by omega), fun w => absurd w (by omega), fun w => absurd w (by omega), fun _ => rfl⟩ (fun _ => hQ' _ _ _ _ _ _ _ _ _ _ _ _ _ _ _ _ _ _ _ _ _ _ _ _ _ _ _ _ _ _ _ _ _ _ _ _ _ _ _ ?_)
        refine lp_K H (by omega) (rm_makeN (y := N t - N t / N s * N s) hX0 hv ha hM rfl (by omega) (by omega) hc (fun mk0 pd0 mk pd nd yhe yvm yin yfi yde yic ys yk yn yp yf iK iN o0 l0 kS0 d0 pl0 yma ypo yap yas yto yan yco yti yna yac yen o l kS d pl yo yi yw ya y1 y2 yK yW yL yq nm nv no yA lf rt hY Q hQ => ?_))
        obtain ⟨⟨b1, b2, b3, b4, b5, b6, b7, b8, b9, b10, b11⟩, hfl, hen, hhy, hby, hfr, han, hq0, hq1, hz1, hz2, hz3⟩ := hY
        obtain ⟨t1, t2, t3, t4, t5⟩ := hfr p hpn
        obtain ⟨ey, eq⟩ := hq1 (by decide)
        rw [List.length_cons] at ey
        have eyo := t1.symm.trans eP
        rw [hfo] at t5
        obtain ⟨et, hRa⟩ := hz1 rfl
        subst et
        obtain ⟨x, e1, e2⟩ := my_v hh.1 hhy.1 hRa ea hs6 eK hκ
        have hRh := t5.2.2.2.2.2.2.2.1 (by omega) (by omega)
        obtain ⟨xt, h1, h2⟩ := my_v hh.1 hhy.1 hRh eh ht6 eKt hκt
        have a1 := (my_a1 t5 (by omega) (by omega) nAO).1.trans hA
        have hx1 : N t = xt := by
          rcases h2 with ⟨_, w, _⟩ | ⟨w, _⟩
          · exact w
          · omega
        have hx2 : N s = x := by
          rcases e2 with ⟨_, w, _⟩ | ⟨w, _⟩
          · exact w
          · omega
        subst k3 k3'
        exact yh_0o' (f := g) (by omega) eyo hq (my_k 36 rfl (by omega) (hfl q hqn) eO) (by omega) (by omega) a1 (by omega) rfl (by omega) (by omega) b4 hc (fun Q hQ' => by
          rw [h1, e1]
          exact yp_num (y := N t - N t / N s * N s) (by omega) (by omega) (fun _ => by rw [← hx2]; exact hb0) ⟨fun w => absurd w (by omega), fun w => absurd w (by omega), fun w => absurd w (by omega), fun w => absurd w (by omega), fun _ => by rw [hx1, hx2]⟩ ey (hQ' _ _ _ _ _ _ _ _ _ _ _ _ _ _ _ _ _ _ _ _ _ _ _ _ _ _ _ _ _ _ _ _ _ _ _ _ _ _ _ _ _ _ _ _ _ hQ))
    · skip
      refine lp_K H (by omega) (rm_make0 (qL := qL) (qR := qR) (qP := qP) (s' := 3) hX0 hv ha hM rfl (by omega) (by omega) (Or.inr (Or.inr rfl)) hc (fun w => absurd w (by decide)) (fun mk0 pd0 mk pd nd yhe yvm yin yfi yde yic ys yk yn yp yf iK iN o0 l0 kS0 d0 pl0 yma ypo yap yas yto yan yco yti yna yac yen o l kS d pl yo yi yw ya y1 y2 yK yW yL yq nm nv no yA lf rt hY Q hQ => ?_))
      obtain ⟨⟨b1, b2, b3, b4, b5, b6, b7, b8, b9, b10, b11⟩, hfl, hen, hhy, hby, hfr, han, hq0, hq1, hz1, hz2, hz3⟩ := hY
      obtain ⟨t1, t2, t3, t4, t5⟩ := hfr p hpn
      obtain ⟨ey, eq⟩ := hq1 (by decide)
      rw [List.length_cons] at ey
      have eyo := t1.symm.trans eP
      rw [hfo] at t5
      obtain ⟨et, hRa⟩ := hz1 rfl
      subst et
      obtain ⟨x, e1, e2⟩ := my_v hh.1 hhy.1 hRa ea hs6 eK hκ
      have hRh := t5.2.2.2.2.2.2.2.1 (by omega) (by omega)
      obtain ⟨xt, h1, h2⟩ := my_v hh.1 hhy.1 hRh eh ht6 eKt hκt
      have a1 := (my_a1 t5 (by omega) (by omega) nAO).1.trans hA
      rw [e31] at hQ
      exact yh_0o' (f := g) (by omega) eyo hq (my_k 36 rfl (by omega) (hfl q hqn) eO) (by omega) (by omega) a1 (by omega) rfl (by omega) (by omega) b4 hc (fun Q hQ' => by
        rw [h1, e1]
        exact yp_err (by omega) (by omega) hκt hκ (fun w => absurd w (by omega)) (by omega) (by omega) (fun w => absurd w hn) ey (hQ' _ _ _ _ _ _ _ _ _ _ _ _ _ _ _ _ _ _ _ _ _ _ _ _ _ _ _ _ _ _ _ _ _ _ _ _ _ _ _ _ _ _ _ _ _ (hQ lf rt 0 (fun w => absurd w (by decide)))))
  · obtain ⟨⟨b1, b2, b3, b4, b5, b6, b7, b8, b9, b10, b11⟩, hfl, hen, hhy, hby, hfr, han, hq0, hq1, hz1, hz2, hz3⟩ := hY
    obtain ⟨t1, t2, t3, t4, t5⟩ := hfr p hpn
    obtain ⟨ey, eq⟩ := hq1 (by decide)
    rw [List.length_cons] at ey
    have eyo := t1.symm.trans eP
    rw [hfo] at t5
    obtain ⟨et, hRa⟩ := hz1 rfl
    subst et
    obtain ⟨x, e1, e2⟩ := my_v hh.1 hhy.1 hRa ea hs6 eK hκ
    have a1 := (my_a1 t5 (by omega) (by omega) nAO).1.trans hA
    exact yh_0t (f := g) (c := 0) (by omega) eyo hq (my_k 36 rfl (by omega) (hfl q hqn) eO) (by omega) (by omega) a1 (by omega) rfl (by omega) (by omega) (b4.trans (by rw [hc])) hQ
theorem cq_m28 {p : Nat} {pa' : List Nat} {post : SX → Prop} {T : List Nat → Option vv_L} {nf bo np : Nat} {K0 N0 Z0 D0 I0 W0 P0 : Nat → Int32} {xst xow xin xpa xfi xfr xno xsi xan xkn xen xco xrm xac : Int32} {K N Z D Im W P vS pO pX pI fS fP fI fU fR fO fA fH fG fN aS qL qR qP : Nat → Int32} {st : Nat} {V al : Nat → Prop} {g : Nat} {n c rm a : Nat}
    (hX : md_X V al g (p :: pa') bo np n c rm a st xfr xno xsi xen xco xrm xac K N Z D Im W P K0 N0 Z0 D0 I0 W0 P0 pO pX fP fU fR fO fA fH fG) (hv : mv_X V n xsi xan pO fP fI fH fN) (ha : ma_X V a aS)
    (hM : ∀ (mk0 pd0 : Nat) (v0 : SY), kn_F T np nf pO pX pI fS mk0 pd0 v0 → rm_M V (p :: pa') g np n c rm a st xsi xan K N Z D W P pO pX pI fP fI fO fA fH fG fN aS mk0 pd0 v0)
    (H : lp_G T nf bo np K0 N0 Z0 D0 I0 W0 P0 post xst xow xin xpa xfi xkn vS pO pX pI fS st) {q : Nat} (eP : fP p = nI q) (hqn : q < np) (hq : q < 40) (eO : pO q = nI 28) (es : xsi = 1) (r1 : fR g = 1 ∨ fR g = 2) : wX_workOut_68 post (1000001 - st) (nI st) xst xow xin xpa xfi xfr xno xsi xan xkn xen xco xrm xac K N Z D Im W P vS pO pX pI fS fP fI fU fR fO fA fH fG fN aS qL qR qP := by
  subst es
  obtain ⟨hpg, hgn, hn6, hU, hA, hrun, hro⟩ := mx_p hX
  obtain ⟨_, _, hst, hlen, _⟩ := mx_f hX
  have hlen2 : pa'.length + 2 ≤ 40 := by
    have := hlen
    rw [List.length_cons] at this
    omega
  have hX0 := hX
  obtain ⟨⟨x1, x2, x3, x4, x5, x6, x7, x8, x9, x10⟩, hs, hh, hb, hf, hr, hG, hpot⟩ := hX
  have hpn : p < n := by omega
  have hfo := mx_fo eP hq eO (by omega)
  obtain ⟨s, ea, hVs⟩ := hv.1 rfl
  obtain ⟨hs6, κ, hκ, eK⟩ := vx_k hh.1 hVs
  obtain ⟨gv, g1, g2⟩ := hG p hpn
  have nr : ¬ fR g = 0 := fun w => r_ne w r1
  obtain ⟨rO, r21, rx, ry⟩ : fO p ≠ nI g ∧ fr_ro (fr_o pO fP p) (fR g) (fO p) := by
    rcases hro with ⟨r0, _⟩ | ⟨_, rO, rr⟩
    · exact absurd r0 nr
    · exact ⟨rO, rr⟩
  have nAO : fA p ≠ fO p := fun e => rO (e.symm.trans hA)
  rw [hfo] at r21 rx ry
  obtain ⟨t, eh, hVt⟩ := (hv.2 p hpn).2.1 (by omega)
  obtain ⟨ht6, κt, hκt, eKt⟩ := vx_k hh.1 hVt
  refine cq_mk hX0 hv ha hM H rfl (fun Q hQ => xh_ans1 x2 (by omega) hU (by omega) rfl nr eP hq eO (by omega) rfl (fun Q hQ => xb_make (by omega) (by omega) hQ) hQ) (fun hc => ?_) (fun hc mk0 pd0 mk pd nd yhe yvm yin yfi yde yic ys yk yn yp yf iK iN o0 l0 kS0 d0 pl0 yma ypo yap yas yto yan yco yti yna yac yen o l kS d pl yo yi yw ya y1 y2 yK yW yL yq nm nv no yA lf rt hY Q hQ => ?_)
  · refine xk_28 (c := c) (V := V) rfl (by omega) eP hq eO x4 hc hh.1 eh ea hVt hVs (fun qL' qR' qP' hw => ?_) (fun qL' qR' qP' hw => ?_)
    · refine lp_K H (by omega) (rm_make0 (qL := qL) (qR := qR) (qP := qP) (s' := 1) hX0 hv ha hM rfl (by omega) (by omega) (Or.inl rfl) hc (fun _ => ⟨2, rfl, (hh.2.2.2.1.1 2 (by omega)).1⟩) (fun mk0 pd0 mk pd nd yhe yvm yin yfi yde yic ys yk yn yp yf iK iN o0 l0 kS0 d0 pl0 yma ypo yap yas yto yan yco yti yna yac yen o l kS d pl yo yi yw ya y1 y2 yK yW yL yq nm nv no yA lf rt hY Q hQ => ?_))
      obtain ⟨⟨b1, b2, b3, b4, b5, b6, b7, b8, b9, b10, b11⟩, hfl, hen, hhy, hby, hfr, han, hq0, hq1, hz1, hz2, hz3⟩ := hY
      obtain ⟨t1, t2, t3, t4, t5⟩ := hfr p hpn
      obtain ⟨ey, eq⟩ := hq1 (by decide)
      rw [List.length_cons] at ey
      have eyo := t1.symm.trans eP
      rw [hfo] at t5
      obtain ⟨et, hRa⟩ := hz1 rfl
      subst et
      obtain ⟨x, e1, e2⟩ := my_v hh.1 hhy.1 hRa ea hs6 eK hκ
      have hRh := t5.2.2.2.2.2.2.2.1 (by omega) (by omega)
      obtain ⟨xt, h1, h2⟩ := my_v hh.1 hhy.1 hRh eh ht6 eKt hκt
      have a1 := (my_a1 t5 (by omega) (by omega) nAO).1.trans hA
      rw [e11] at hQ
      rw [eh, h1] at hRh
      rw [ea, e1] at hRa
      refine yh_0o' (f := g) (by omega) eyo hq (my_k 37 rfl (by omega) (hfl q hqn) eO) (by omega) (by omega) a1 (by omega) rfl (by omega) (by omega) b4 hc (fun Q hQ' => ?_)
      rw [h1, e1]
      exact yp_cmp (V := V) (s := t) (t := s) (mk := mk) (pd := pd) hh.1 hhy.1 ht6 hs6 hRh hRa hκt hκ (by omega) ey (fun _ lf' rt' => hQ' _ _ _ _ _ _ _ _ _ _ _ _ _ _ _ _ _ _ _ _ _ _ _ _ _ _ _ _ _ _ _ _ _ _ _ _ _ _ _ _ _ _ _ _ _ (hQ lf' rt' _ (fun _ => rl_R0 hh.1 hh.2.2.2.1 (κ := 2) (by omega)))) (fun w => absurd hw (by rcases w with ⟨_, w⟩ | ⟨e, w⟩; exact w; exact absurd e (by omega)))
    · refine lp_K H (by omega) (rm_make0 (qL := qL) (qR := qR) (qP := qP) (s' := 1) hX0 hv ha hM rfl (by omega) (by omega) (Or.inl rfl) hc (fun _ => ⟨1, rfl, (hh.2.2.2.1.1 1 (by omega)).1⟩) (fun mk0 pd0 mk pd nd yhe yvm yin yfi yde yic ys yk yn yp yf iK iN o0 l0 kS0 d0 pl0 yma ypo yap yas yto yan yco yti yna yac yen o l kS d pl yo yi yw ya y1 y2 yK yW yL yq nm nv no yA lf rt hY Q hQ => ?_))
      obtain ⟨⟨b1, b2, b3, b4, b5, b6, b7, b8, b9, b10, b11⟩, hfl, hen, hhy, hby, hfr, han, hq0, hq1, hz1, hz2, hz3⟩ := hY
      obtain ⟨t1, t2, t3, t4, t5⟩ := hfr p hpn
      obtain ⟨ey, eq⟩ := hq1 (by decide)
      rw [List.length_cons] at ey
      have eyo := t1.symm.trans eP
      rw [hfo] at t5
      obtain ⟨et, hRa⟩ := hz1 rfl
      subst et
      obtain ⟨x, e1, e2⟩ := my_v hh.1 hhy.1 hRa ea hs6 eK hκ
      have hRh := t5.2.2.2.2.2.2.2.1 (by omega) (by omega)
      obtain ⟨xt, h1, h2⟩ := my_v hh.1 hhy.1 hRh eh ht6 eKt hκt
      have a1 := (my_a1 t5 (by omega) (by omega) nAO).1.trans hA
      rw [e11] at hQ
      rw [eh, h1] at hRh
      rw [ea, e1] at hRa
      refine yh_0o' (f := g) (by omega) eyo hq (my_k 37 rfl (by omega) (hfl q hqn) eO) (by omega) (by omega) a1 (by omega) rfl (by omega) (by omega) b4 hc (fun Q hQ' => ?_)
      rw [h1, e1]
      exact yp_cmp (V := V) (s := t) (t := s) (mk := mk) (pd := pd) hh.1 hhy.1 ht6 hs6 hRh hRa hκt hκ (by omega) ey (fun w => absurd (by rcases w with ⟨_, w⟩ | ⟨e, w⟩; exact w; exact absurd e (by omega)) hw) (fun _ lf' rt' => hQ' _ _ _ _ _ _ _ _ _ _ _ _ _ _ _ _ _ _ _ _ _ _ _ _ _ _ _ _ _ _ _ _ _ _ _ _ _ _ _ _ _ _ _ _ _ (hQ lf' rt' _ (fun _ => rl_R0 hh.1 hh.2.2.2.1 (κ := 1) (by omega))))
  · obtain ⟨⟨b1, b2, b3, b4, b5, b6, b7, b8, b9, b10, b11⟩, hfl, hen, hhy, hby, hfr, han, hq0, hq1, hz1, hz2, hz3⟩ := hY
    obtain ⟨t1, t2, t3, t4, t5⟩ := hfr p hpn
    obtain ⟨ey, eq⟩ := hq1 (by decide)
    rw [List.length_cons] at ey
    have eyo := t1.symm.trans eP
    rw [hfo] at t5
    obtain ⟨et, hRa⟩ := hz1 rfl
    subst et
    obtain ⟨x, e1, e2⟩ := my_v hh.1 hhy.1 hRa ea hs6 eK hκ
    have a1 := (my_a1 t5 (by omega) (by omega) nAO).1.trans hA
    exact yh_0t (f := g) (c := 0) (by omega) eyo hq (my_k 37 rfl (by omega) (hfl q hqn) eO) (by omega) (by omega) a1 (by omega) rfl (by omega) (by omega) (b4.trans (by rw [hc])) hQ
theorem cq_m29 {p : Nat} {pa' : List Nat} {post : SX → Prop} {T : List Nat → Option vv_L} {nf bo np : Nat} {K0 N0 Z0 D0 I0 W0 P0 : Nat → Int32} {xst xow xin xpa xfi xfr xno xsi xan xkn xen xco xrm xac : Int32} {K N Z D Im W P vS pO pX pI fS fP fI fU fR fO fA fH fG fN aS qL qR qP : Nat → Int32} {st : Nat} {V al : Nat → Prop} {g : Nat} {n c rm a : Nat}
    (hX : md_X V al g (p :: pa') bo np n c rm a st xfr xno xsi xen xco xrm xac K N Z D Im W P K0 N0 Z0 D0 I0 W0 P0 pO pX fP fU fR fO fA fH fG) (hv : mv_X V n xsi xan pO fP fI fH fN) (ha : ma_X V a aS)
    (hM : ∀ (mk0 pd0 : Nat) (v0 : SY), kn_F T np nf pO pX pI fS mk0 pd0 v0 → rm_M V (p :: pa') g np n c rm a st xsi xan K N Z D W P pO pX pI fP fI fO fA fH fG fN aS mk0 pd0 v0)
    (H : lp_G T nf bo np K0 N0 Z0 D0 I0 W0 P0 post xst xow xin xpa xfi xkn vS pO pX pI fS st) {q : Nat} (eP : fP p = nI q) (hqn : q < np) (hq : q < 40) (eO : pO q = nI 29) (es : xsi = 1) (r1 : fR g = 1 ∨ fR g = 2) : wX_workOut_68 post (1000001 - st) (nI st) xst xow xin xpa xfi xfr xno xsi xan xkn xen xco xrm xac K N Z D Im W P vS pO pX pI fS fP fI fU fR fO fA fH fG fN aS qL qR qP := by
  subst es
  obtain ⟨hpg, hgn, hn6, hU, hA, hrun, hro⟩ := mx_p hX
  obtain ⟨_, _, hst, hlen, _⟩ := mx_f hX
  have hlen2 : pa'.length + 2 ≤ 40 := by
    have := hlen
    rw [List.length_cons] at this
    omega
  have hX0 := hX
  obtain ⟨⟨x1, x2, x3, x4, x5, x6, x7, x8, x9, x10⟩, hs, hh, hb, hf, hr, hG, hpot⟩ := hX
  have hpn : p < n := by omega
  have hfo := mx_fo eP hq eO (by omega)
  obtain ⟨s, ea, hVs⟩ := hv.1 rfl
  obtain ⟨hs6, κ, hκ, eK⟩ := vx_k hh.1 hVs
  obtain ⟨gv, g1, g2⟩ := hG p hpn
  have nr : ¬ fR g = 0 := fun w => r_ne w r1
  obtain ⟨rO, r21, rx, ry⟩ : fO p ≠ nI g ∧ fr_ro (fr_o pO fP p) (fR g) (fO p) := by
    rcases hro with ⟨r0, _⟩ | ⟨_, rO, rr⟩
    · exact absurd r0 nr
    · exact ⟨rO, rr⟩
  have nAO : fA p ≠ fO p := fun e => rO (e.symm.trans hA)
  rw [hfo] at r21 rx ry
  obtain ⟨t, eh, hVt⟩ := (hv.2 p hpn).2.1 (by omega)
  obtain ⟨ht6, κt, hκt, eKt⟩ := vx_k hh.1 hVt
  refine cq_mk hX0 hv ha hM H rfl (fun Q hQ => xh_ans1 x2 (by omega) hU (by omega) rfl nr eP hq eO (by omega) rfl (fun Q hQ => xb_make (by omega) (by omega) hQ) hQ) (fun hc => ?_) (fun hc mk0 pd0 mk pd nd yhe yvm yin yfi yde yic ys yk yn yp yf iK iN o0 l0 kS0 d0 pl0 yma ypo yap yas yto yan yco yti yna yac yen o l kS d pl yo yi yw ya y1 y2 yK yW yL yq nm nv no yA lf rt hY Q hQ => ?_)
  · refine xk_29 (c := c) (V := V) rfl (by omega) eP hq eO x4 hc hh.1 eh ea hVt hVs (fun qL' qR' qP' hw => ?_) (fun qL' qR' qP' hw => ?_)
    · refine lp_K H (by omega) (rm_make0 (qL := qL) (qR := qR) (qP := qP) (s' := 1) hX0 hv ha hM rfl (by omega) (by omega) (Or.inl rfl) hc (fun _ => ⟨2, rfl, (hh.2.2.2.1.1 2 (by omega)).1⟩) (fun mk0 pd0 mk pd nd yhe yvm yin yfi yde yic ys yk yn yp yf iK iN o0 l0 kS0 d0 pl0 yma ypo yap yas yto yan yco yti yna yac yen o l kS d pl yo yi yw ya y1 y2 yK yW yL yq nm nv no yA lf rt hY Q hQ => ?_))
      obtain ⟨⟨b1, b2, b3, b4, b5, b6, b7, b8, b9, b10, b11⟩, hfl, hen, hhy, hby, hfr, han, hq0, hq1, hz1, hz2, hz3⟩ := hY
      obtain ⟨t1, t2, t3, t4, t5⟩ := hfr p hpn
      obtain ⟨ey, eq⟩ := hq1 (by decide)
      rw [List.length_cons] at ey
      have eyo := t1.symm.trans eP
      rw [hfo] at t5
      obtain ⟨et, hRa⟩ := hz1 rfl
      subst et
      obtain ⟨x, e1, e2⟩ := my_v hh.1 hhy.1 hRa ea hs6 eK hκ
      have hRh := t5.2.2.2.2.2.2.2.1 (by omega) (by omega)
      obtain ⟨xt, h1, h2⟩ := my_v hh.1 hhy.1 hRh eh ht6 eKt hκt
      have a1 := (my_a1 t5 (by omega) (by omega) nAO).1.trans hA
      rw [e11] at hQ
      rw [eh, h1] at hRh
      rw [ea, e1] at hRa
      refine yh_0o' (f := g) (by omega) eyo hq (my_k 38 rfl (by omega) (hfl q hqn) eO) (by omega) (by omega) a1 (by omega) rfl (by omega) (by omega) b4 hc (fun Q hQ' => ?_)
      rw [h1, e1]
      exact yp_cmp (V := V) (s := t) (t := s) (mk := mk) (pd := pd) hh.1 hhy.1 ht6 hs6 hRh hRa hκt hκ (by omega) ey (fun _ lf' rt' => hQ' _ _ _ _ _ _ _ _ _ _ _ _ _ _ _ _ _ _ _ _ _ _ _ _ _ _ _ _ _ _ _ _ _ _ _ _ _ _ _ _ _ _ _ _ _ (hQ lf' rt' _ (fun _ => rl_R0 hh.1 hh.2.2.2.1 (κ := 2) (by omega)))) (fun w => absurd hw (by rcases w with ⟨e, w⟩ | ⟨_, w⟩; exact absurd e (by omega); exact w))
    · refine lp_K H (by omega) (rm_make0 (qL := qL) (qR := qR) (qP := qP) (s' := 1) hX0 hv ha hM rfl (by omega) (by omega) (Or.inl rfl) hc (fun _ => ⟨1, rfl, (hh.2.2.2.1.1 1 (by omega)).1⟩) (fun mk0 pd0 mk pd nd yhe yvm yin yfi yde yic ys yk yn yp yf iK iN o0 l0 kS0 d0 pl0 yma ypo yap yas yto yan yco yti yna yac yen o l kS d pl yo yi yw ya y1 y2 yK yW yL yq nm nv no yA lf rt hY Q hQ => ?_))
      obtain ⟨⟨b1, b2, b3, b4, b5, b6, b7, b8, b9, b10, b11⟩, hfl, hen, hhy, hby, hfr, han, hq0, hq1, hz1, hz2, hz3⟩ := hY
      obtain ⟨t1, t2, t3, t4, t5⟩ := hfr p hpn
      obtain ⟨ey, eq⟩ := hq1 (by decide)
      rw [List.length_cons] at ey
      have eyo := t1.symm.trans eP
      rw [hfo] at t5
      obtain ⟨et, hRa⟩ := hz1 rfl
      subst et
      obtain ⟨x, e1, e2⟩ := my_v hh.1 hhy.1 hRa ea hs6 eK hκ
      have hRh := t5.2.2.2.2.2.2.2.1 (by omega) (by omega)
      obtain ⟨xt, h1, h2⟩ := my_v hh.1 hhy.1 hRh eh ht6 eKt hκt
      have a1 := (my_a1 t5 (by omega) (by omega) nAO).1.trans hA
      rw [e11] at hQ
      rw [eh, h1] at hRh
      rw [ea, e1] at hRa
      refine yh_0o' (f := g) (by omega) eyo hq (my_k 38 rfl (by omega) (hfl q hqn) eO) (by omega) (by omega) a1 (by omega) rfl (by omega) (by omega) b4 hc (fun Q hQ' => ?_)
      rw [h1, e1]
      exact yp_cmp (V := V) (s := t) (t := s) (mk := mk) (pd := pd) hh.1 hhy.1 ht6 hs6 hRh hRa hκt hκ (by omega) ey (fun w => absurd (by rcases w with ⟨e, w⟩ | ⟨_, w⟩; exact absurd e (by omega); exact w) hw) (fun _ lf' rt' => hQ' _ _ _ _ _ _ _ _ _ _ _ _ _ _ _ _ _ _ _ _ _ _ _ _ _ _ _ _ _ _ _ _ _ _ _ _ _ _ _ _ _ _ _ _ _ (hQ lf' rt' _ (fun _ => rl_R0 hh.1 hh.2.2.2.1 (κ := 1) (by omega))))
  · obtain ⟨⟨b1, b2, b3, b4, b5, b6, b7, b8, b9, b10, b11⟩, hfl, hen, hhy, hby, hfr, han, hq0, hq1, hz1, hz2, hz3⟩ := hY
    obtain ⟨t1, t2, t3, t4, t5⟩ := hfr p hpn
    obtain ⟨ey, eq⟩ := hq1 (by decide)
    rw [List.length_cons] at ey
    have eyo := t1.symm.trans eP
    rw [hfo] at t5
    obtain ⟨et, hRa⟩ := hz1 rfl
    subst et
    obtain ⟨x, e1, e2⟩ := my_v hh.1 hhy.1 hRa ea hs6 eK hκ
    have a1 := (my_a1 t5 (by omega) (by omega) nAO).1.trans hA
    exact yh_0t (f := g) (c := 0) (by omega) eyo hq (my_k 38 rfl (by omega) (hfl q hqn) eO) (by omega) (by omega) a1 (by omega) rfl (by omega) (by omega) (b4.trans (by rw [hc])) hQ
theorem cq_m30 {p : Nat} {pa' : List Nat} {post : SX → Prop} {T : List Nat → Option vv_L} {nf bo np : Nat} {K0 N0 Z0 D0 I0 W0 P0 : Nat → Int32} {xst xow xin xpa xfi xfr xno xsi xan xkn xen xco xrm xac : Int32} {K N Z D Im W P vS pO pX pI fS fP fI fU fR fO fA fH fG fN aS qL qR qP : Nat → Int32} {st : Nat} {V al : Nat → Prop} {g : Nat} {n c rm a : Nat}
    (hX : md_X V al g (p :: pa') bo np n c rm a st xfr xno xsi xen xco xrm xac K N Z D Im W P K0 N0 Z0 D0 I0 W0 P0 pO pX fP fU fR fO fA fH fG) (hv : mv_X V n xsi xan pO fP fI fH fN) (ha : ma_X V a aS)
    (hM : ∀ (mk0 pd0 : Nat) (v0 : SY), kn_F T np nf pO pX pI fS mk0 pd0 v0 → rm_M V (p :: pa') g np n c rm a st xsi xan K N Z D W P pO pX pI fP fI fO fA fH fG fN aS mk0 pd0 v0)
    (H : lp_G T nf bo np K0 N0 Z0 D0 I0 W0 P0 post xst xow xin xpa xfi xkn vS pO pX pI fS st) {q : Nat} (eP : fP p = nI q) (hqn : q < np) (hq : q < 40) (eO : pO q = nI 30) (es : xsi = 1) (r1 : fR g = 1 ∨ fR g = 2) : wX_workOut_68 post (1000001 - st) (nI st) xst xow xin xpa xfi xfr xno xsi xan xkn xen xco xrm xac K N Z D Im W P vS pO pX pI fS fP fI fU fR fO fA fH fG fN aS qL qR qP := by
  subst es
  obtain ⟨hpg, hgn, hn6, hU, hA, hrun, hro⟩ := mx_p hX
  obtain ⟨_, _, hst, hlen, _⟩ := mx_f hX
  have hlen2 : pa'.length + 2 ≤ 40 := by
    have := hlen
    rw [List.length_cons] at this
    omega
  have hX0 := hX
  obtain ⟨⟨x1, x2, x3, x4, x5, x6, x7, x8, x9, x10⟩, hs, hh, hb, hf, hr, hG, hpot⟩ := hX
  have hpn : p < n := by omega
  have hfo := mx_fo eP hq eO (by omega)
  obtain ⟨s, ea, hVs⟩ := hv.1 rfl
  obtain ⟨hs6, κ, hκ, eK⟩ := vx_k hh.1 hVs
  obtain ⟨gv, g1, g2⟩ := hG p hpn
  have nr : ¬ fR g = 0 := fun w => r_ne w r1
  obtain ⟨rO, r21, rx, ry⟩ : fO p ≠ nI g ∧ fr_ro (fr_o pO fP p) (fR g) (fO p) := by
    rcases hro with ⟨r0, _⟩ | ⟨_, rO, rr⟩
    · exact absurd r0 nr
    · exact ⟨rO, rr⟩
  have nAO : fA p ≠ fO p := fun e => rO (e.symm.trans hA)
  rw [hfo] at r21 rx ry
  refine cq_mk hX0 hv ha hM H rfl (fun Q hQ => xh_ans1 x2 (by omega) hU (by omega) rfl nr eP hq eO (by omega) rfl (fun Q hQ => xb_make (by omega) (by omega) hQ) hQ) (fun hc => ?_) (fun hc mk0 pd0 mk pd nd yhe yvm yin yfi yde yic ys yk yn yp yf iK iN o0 l0 kS0 d0 pl0 yma ypo yap yas yto yan yco yti yna yac yen o l kS d pl yo yi yw ya y1 y2 yK yW yL yq nm nv no yA lf rt hY Q hQ => ?_)
  · refine xk_30 (c := c) rfl (by omega) eP hq eO x4 hc ea hs6 eK hκ (fun hw => ?_) (fun hw => ?_)
    · refine lp_K H (by omega) (rm_make0 (qL := qL) (qR := qR) (qP := qP) (s' := 1) hX0 hv ha hM rfl (by omega) (by omega) (Or.inl rfl) hc (fun _ => ⟨2, rfl, (hh.2.2.2.1.1 2 (by omega)).1⟩) (fun mk0 pd0 mk pd nd yhe yvm yin yfi yde yic ys yk yn yp yf iK iN o0 l0 kS0 d0 pl0 yma ypo yap yas yto yan yco yti yna yac yen o l kS d pl yo yi yw ya y1 y2 yK yW yL yq nm nv no yA lf rt hY Q hQ => ?_))
      obtain ⟨⟨b1, b2, b3, b4, b5, b6, b7, b8, b9, b10, b11⟩, hfl, hen, hhy, hby, hfr, han, hq0, hq1, hz1, hz2, hz3⟩ := hY
      obtain ⟨t1, t2, t3, t4, t5⟩ := hfr p hpn
      obtain ⟨ey, eq⟩ := hq1 (by decide)
      rw [List.length_cons] at ey
      have eyo := t1.symm.trans eP
      rw [hfo] at t5
      obtain ⟨et, hRa⟩ := hz1 rfl
      subst et
      obtain ⟨x, e1, e2⟩ := my_v hh.1 hhy.1 hRa ea hs6 eK hκ
      have a1 := (my_a1 t5 (by omega) (by omega) nAO).1.trans hA
      rw [e11] at hQ
      exact yh_0b (f := g) (by omega) eyo hq (my_k 39 rfl (by omega) (hfl q hqn) eO) (by omega) (by omega) a1 (by omega) ey rfl (by omega) (by omega) b4 hc e1 hκ (fun _ => hQ lf rt _ (fun _ => rl_R0 hh.1 hh.2.2.2.1 (κ := 2) (by omega))) (fun w => absurd w (by omega))
    · refine lp_K H (by omega) (rm_make0 (qL := qL) (qR := qR) (qP := qP) (s' := 1) hX0 hv ha hM rfl (by omega) (by omega) (Or.inl rfl) hc (fun _ => ⟨1, rfl, (hh.2.2.2.1.1 1 (by omega)).1⟩) (fun mk0 pd0 mk pd nd yhe yvm yin yfi yde yic ys yk yn yp yf iK iN o0 l0 kS0 d0 pl0 yma ypo yap yas yto yan yco yti yna yac yen o l kS d pl yo yi yw ya y1 y2 yK yW yL yq nm nv no yA lf rt hY Q hQ => ?_))
      obtain ⟨⟨b1, b2, b3, b4, b5, b6, b7, b8, b9, b10, b11⟩, hfl, hen, hhy, hby, hfr, han, hq0, hq1, hz1, hz2, hz3⟩ := hY
      obtain ⟨t1, t2, t3, t4, t5⟩ := hfr p hpn
      obtain ⟨ey, eq⟩ := hq1 (by decide)
      rw [List.length_cons] at ey
      have eyo := t1.symm.trans eP
      rw [hfo] at t5
      obtain ⟨et, hRa⟩ := hz1 rfl
      subst et
      obtain ⟨x, e1, e2⟩ := my_v hh.1 hhy.1 hRa ea hs6 eK hκ
      have a1 := (my_a1 t5 (by omega) (by omega) nAO).1.trans hA
      rw [e11] at hQ
      exact yh_0b (f := g) (by omega) eyo hq (my_k 39 rfl (by omega) (hfl q hqn) eO) (by omega) (by omega) a1 (by omega) ey rfl (by omega) (by omega) b4 hc e1 hκ (fun w => absurd w (by omega)) (fun _ => hQ lf rt _ (fun _ => rl_R0 hh.1 hh.2.2.2.1 (κ := 1) (by omega)))
  · obtain ⟨⟨b1, b2, b3, b4, b5, b6, b7, b8, b9, b10, b11⟩, hfl, hen, hhy, hby, hfr, han, hq0, hq1, hz1, hz2, hz3⟩ := hY
    obtain ⟨t1, t2, t3, t4, t5⟩ := hfr p hpn
    obtain ⟨ey, eq⟩ := hq1 (by decide)
    rw [List.length_cons] at ey
    have eyo := t1.symm.trans eP
    rw [hfo] at t5
    obtain ⟨et, hRa⟩ := hz1 rfl
    subst et
    obtain ⟨x, e1, e2⟩ := my_v hh.1 hhy.1 hRa ea hs6 eK hκ
    have a1 := (my_a1 t5 (by omega) (by omega) nAO).1.trans hA
    exact yh_0t (f := g) (c := 0) (by omega) eyo hq (my_k 39 rfl (by omega) (hfl q hqn) eO) (by omega) (by omega) a1 (by omega) rfl (by omega) (by omega) (b4.trans (by rw [hc])) hQ
theorem cq_m31 {p : Nat} {pa' : List Nat} {post : SX → Prop} {T : List Nat → Option vv_L} {nf bo np : Nat} {K0 N0 Z0 D0 I0 W0 P0 : Nat → Int32} {xst xow xin xpa xfi xfr xno xsi xan xkn xen xco xrm xac : Int32} {K N Z D Im W P vS pO pX pI fS fP fI fU fR fO fA fH fG fN aS qL qR qP : Nat → Int32} {st : Nat} {V al : Nat → Prop} {g : Nat} {n c rm a : Nat}
    (hX : md_X V al g (p :: pa') bo np n c rm a st xfr xno xsi xen xco xrm xac K N Z D Im W P K0 N0 Z0 D0 I0 W0 P0 pO pX fP fU fR fO fA fH fG) (hv : mv_X V n xsi xan pO fP fI fH fN) (ha : ma_X V a aS)
    (hM : ∀ (mk0 pd0 : Nat) (v0 : SY), kn_F T np nf pO pX pI fS mk0 pd0 v0 → rm_M V (p :: pa') g np n c rm a st xsi xan K N Z D W P pO pX pI fP fI fO fA fH fG fN aS mk0 pd0 v0)
    (H : lp_G T nf bo np K0 N0 Z0 D0 I0 W0 P0 post xst xow xin xpa xfi xkn vS pO pX pI fS st) {q : Nat} (eP : fP p = nI q) (hqn : q < np) (hq : q < 40) (eO : pO q = nI 31) (es : xsi = 1) (r1 : fR g = 1 ∨ fR g = 2) : wX_workOut_68 post (1000001 - st) (nI st) xst xow xin xpa xfi xfr xno xsi xan xkn xen xco xrm xac K N Z D Im W P vS pO pX pI fS fP fI fU fR fO fA fH fG fN aS qL qR qP := by
  subst es
  obtain ⟨hpg, hgn, hn6, hU, hA, hrun, hro⟩ := mx_p hX
  obtain ⟨_, _, hst, hlen, _⟩ := mx_f hX
  have hlen2 : pa'.length + 2 ≤ 40 := by
    have := hlen
    rw [List.length_cons] at this
    omega
  have hX0 := hX
  obtain ⟨⟨x1, x2, x3, x4, x5, x6, x7, x8, x9, x10⟩, hs, hh, hb, hf, hr, hG, hpot⟩ := hX
  have hpn : p < n := by omega
  have hfo := mx_fo eP hq eO (by omega)
  obtain ⟨s, ea, hVs⟩ := hv.1 rfl
  obtain ⟨hs6, κ, hκ, eK⟩ := vx_k hh.1 hVs
  obtain ⟨gv, g1, g2⟩ := hG p hpn
  have nr : ¬ fR g = 0 := fun w => r_ne w r1
  obtain ⟨rO, r21, rx, ry⟩ : fO p ≠ nI g ∧ fr_ro (fr_o pO fP p) (fR g) (fO p) := by
    rcases hro with ⟨r0, _⟩ | ⟨_, rO, rr⟩
    · exact absurd r0 nr
    · exact ⟨rO, rr⟩
  have nAO : fA p ≠ fO p := fun e => rO (e.symm.trans hA)
  rw [hfo] at r21 rx ry
  refine cq_mk hX0 hv ha hM H rfl (fun Q hQ => xh_ans1 x2 (by omega) hU (by omega) rfl nr eP hq eO (by omega) rfl (fun Q hQ => xb_make (by omega) (by omega) hQ) hQ) (fun hc => ?_) (fun hc mk0 pd0 mk pd nd yhe yvm yin yfi yde yic ys yk yn yp yf iK iN o0 l0 kS0 d0 pl0 yma ypo yap yas yto yan yco yti yna yac yen o l kS d pl yo yi yw ya y1 y2 yK yW yL yq nm nv no yA lf rt hY Q hQ => ?_)
  · refine xk_31 (c := c) rfl (by omega) eP hq eO x4 hc ea hs6 eK hκ (fun hw => ?_) (fun hw => ?_)
    · refine lp_K H (by omega) (rm_make0 (qL := qL) (qR := qR) (qP := qP) (s' := 1) hX0 hv ha hM rfl (by omega) (by omega) (Or.inl rfl) hc (fun _ => ⟨2, rfl, (hh.2.2.2.1.1 2 (by omega)).1⟩) (fun mk0 pd0 mk pd nd yhe yvm yin yfi yde yic ys yk yn yp yf iK iN o0 l0 kS0 d0 pl0 yma ypo yap yas yto yan yco yti yna yac yen o l kS d pl yo yi yw ya y1 y2 yK yW yL yq nm nv no yA lf rt hY Q hQ => ?_))
      obtain ⟨⟨b1, b2, b3, b4, b5, b6, b7, b8, b9, b10, b11⟩, hfl, hen, hhy, hby, hfr, han, hq0, hq1, hz1, hz2, hz3⟩ := hY
      obtain ⟨t1, t2, t3, t4, t5⟩ := hfr p hpn
      obtain ⟨ey, eq⟩ := hq1 (by decide)
      rw [List.length_cons] at ey
      have eyo := t1.symm.trans eP
      rw [hfo] at t5
      obtain ⟨et, hRa⟩ := hz1 rfl
      subst et
      obtain ⟨x, e1, e2⟩ := my_v hh.1 hhy.1 hRa ea hs6 eK hκ
      have a1 := (my_a1 t5 (by omega) (by omega) nAO).1.trans hA
      rw [e11] at hQ
      exact yh_0b (f := g) (by omega) eyo hq (my_k 40 rfl (by omega) (hfl q hqn) eO) (by omega) (by omega) a1 (by omega) ey rfl (by omega) (by omega) b4 hc e1 hκ (fun _ => hQ lf rt _ (fun _ => rl_R0 hh.1 hh.2.2.2.1 (κ := 2) (by omega))) (fun w => absurd w (by omega))
    · refine lp_K H (by omega) (rm_make0 (qL := qL) (qR := qR) (qP := qP) (s' := 1) hX0 hv ha hM rfl (by omega) (by omega) (Or.inl rfl) hc (fun _ => ⟨1, rfl, (hh.2.2.2.1.1 1 (by omega)).1⟩) (fun mk0 pd0 mk pd nd yhe yvm yin yfi yde yic ys yk yn yp yf iK iN o0 l0 kS0 d0 pl0 yma ypo yap yas yto yan yco yti yna yac yen o l kS d pl yo yi yw ya y1 y2 yK yW yL yq nm nv no yA lf rt hY Q hQ => ?_))
      obtain ⟨⟨b1, b2, b3, b4, b5, b6, b7, b8, b9, b10, b11⟩, hfl, hen, hhy, hby, hfr, han, hq0, hq1, hz1, hz2, hz3⟩ := hY
      obtain ⟨t1, t2, t3, t4, t5⟩ := hfr p hpn
      obtain ⟨ey, eq⟩ := hq1 (by decide)
      rw [List.length_cons] at ey
      have eyo := t1.symm.trans eP
      rw [hfo] at t5
      obtain ⟨et, hRa⟩ := hz1 rfl
      subst et
      obtain ⟨x, e1, e2⟩ := my_v hh.1 hhy.1 hRa ea hs6 eK hκ
      have a1 := (my_a1 t5 (by omega) (by omega) nAO).1.trans hA
      rw [e11] at hQ
      exact yh_0b (f := g) (by omega) eyo hq (my_k 40 rfl (by omega) (hfl q hqn) eO) (by omega) (by omega) a1 (by omega) ey rfl (by omega) (by omega) b4 hc e1 hκ (fun w => absurd w (by omega)) (fun _ => hQ lf rt _ (fun _ => rl_R0 hh.1 hh.2.2.2.1 (κ := 1) (by omega)))
  · obtain ⟨⟨b1, b2, b3, b4, b5, b6, b7, b8, b9, b10, b11⟩, hfl, hen, hhy, hby, hfr, han, hq0, hq1, hz1, hz2, hz3⟩ := hY
    obtain ⟨t1, t2, t3, t4, t5⟩ := hfr p hpn
    obtain ⟨ey, eq⟩ := hq1 (by decide)
    rw [List.length_cons] at ey
    have eyo := t1.symm.trans eP
    rw [hfo] at t5
    obtain ⟨et, hRa⟩ := hz1 rfl
    subst et
    obtain ⟨x, e1, e2⟩ := my_v hh.1 hhy.1 hRa ea hs6 eK hκ
    have a1 := (my_a1 t5 (by omega) (by omega) nAO).1.trans hA
    exact yh_0t (f := g) (c := 0) (by omega) eyo hq (my_k 40 rfl (by omega) (hfl q hqn) eO) (by omega) (by omega) a1 (by omega) rfl (by omega) (by omega) (b4.trans (by rw [hc])) hQ
theorem cq_n30 {p : Nat} {pa' : List Nat} {post : SX → Prop} {T : List Nat → Option vv_L} {nf bo np : Nat} {K0 N0 Z0 D0 I0 W0 P0 : Nat → Int32} {xst xow xin xpa xfi xfr xno xsi xan xkn xen xco xrm xac : Int32} {K N Z D Im W P vS pO pX pI fS fP fI fU fR fO fA fH fG fN aS qL qR qP : Nat → Int32} {st : Nat} {V al : Nat → Prop} {g : Nat} {n c rm a : Nat}
    (hX : md_X V al g (p :: pa') bo np n c rm a st xfr xno xsi xen xco xrm xac K N Z D Im W P K0 N0 Z0 D0 I0 W0 P0 pO pX fP fU fR fO fA fH fG) (hv : mv_X V n xsi xan pO fP fI fH fN) (ha : ma_X V a aS)
    (hM : ∀ (mk0 pd0 : Nat) (v0 : SY), kn_F T np nf pO pX pI fS mk0 pd0 v0 → rm_M V (p :: pa') g np n c rm a st xsi xan K N Z D W P pO pX pI fP fI fO fA fH fG fN aS mk0 pd0 v0)
    (H : lp_G T nf bo np K0 N0 Z0 D0 I0 W0 P0 post xst xow xin xpa xfi xkn vS pO pX pI fS st) {q : Nat} (eP : fP p = nI q) (hqn : q < np) (hq : q < 40) (eO : pO q = nI 30) (he : ∀ s κ, s < 653 → xan = nI s → K s = nI κ → κ ≤ 5 → κ < 2) (es : xsi = 1) (r0 : fR g = 0) : wX_workOut_68 post (1000001 - st) (nI st) xst xow xin xpa xfi xfr xno xsi xan xkn xen xco xrm xac K N Z D Im W P vS pO pX pI fS fP fI fU fR fO fA fH fG fN aS qL qR qP := by
  subst es
  obtain ⟨hpg, hgn, hn6, hU, hA, hrun, hro⟩ := mx_p hX
  obtain ⟨_, _, hst, hlen, _⟩ := mx_f hX
  have hlen2 : pa'.length + 2 ≤ 40 := by
    have := hlen
    rw [List.length_cons] at this
    omega
  have hX0 := hX
  obtain ⟨⟨x1, x2, x3, x4, x5, x6, x7, x8, x9, x10⟩, hs, hh, hb, hf, hr, hG, hpot⟩ := hX
  have hpn : p < n := by omega
  have hfo := mx_fo eP hq eO (by omega)
  obtain ⟨s, ea, hVs⟩ := hv.1 rfl
  obtain ⟨hs6, κ, hκ, eK⟩ := vx_k hh.1 hVs
  obtain ⟨gv, g1, g2⟩ := hG p hpn
  have rO : fO p = nI g := by
    rcases hro with ⟨_, rO⟩ | ⟨r1, _⟩
    · exact rO
    · exact (r_ne r0 r1).elim
  have hAO : fA p = fO p := hA.trans rO.symm
  refine cq_mk hX0 hv ha hM H rfl (fun Q hQ => xh_ans0 x2 (by omega) hU (by omega) r0 eP hq eO (by omega) rfl (fun Q hQ => xo_30m rfl (by omega) ea hs6 eK hκ ⟨fun _ => trivial, fun _ => he s κ hs6 ea eK hκ⟩ hQ) hQ) (fun hc => ?_) (fun hc mk0 pd0 mk pd nd yhe yvm yin yfi yde yic ys yk yn yp yf iK iN o0 l0 kS0 d0 pl0 yma ypo yap yas yto yan yco yti yna yac yen o l kS d pl yo yi yw ya y1 y2 yK yW yL yq nm nv no yA lf rt hY Q hQ => ?_)
  · refine xk_30 (c := c) rfl (by omega) eP hq eO x4 hc ea hs6 eK hκ (fun w => absurd w (by have := he s κ hs6 ea eK hκ; omega)) (fun _ => ?_)
    refine lp_K H (by omega) (rm_make0 (qL := qL) (qR := qR) (qP := qP) (s' := 1) hX0 hv ha hM rfl (by omega) (by omega) (Or.inl rfl) hc (fun _ => ⟨1, rfl, (hh.2.2.2.1.1 1 (by omega)).1⟩) (fun mk0 pd0 mk pd nd yhe yvm yin yfi yde yic ys yk yn yp yf iK iN o0 l0 kS0 d0 pl0 yma ypo yap yas yto yan yco yti yna yac yen o l kS d pl yo yi yw ya y1 y2 yK yW yL yq nm nv no yA lf rt hY Q hQ => ?_))
    obtain ⟨⟨b1, b2, b3, b4, b5, b6, b7, b8, b9, b10, b11⟩, hfl, hen, hhy, hby, hfr, han, hq0, hq1, hz1, hz2, hz3⟩ := hY
    obtain ⟨t1, t2, t3, t4, t5⟩ := hfr p hpn
    obtain ⟨ey, eq⟩ := hq1 (by decide)
    rw [List.length_cons] at ey
    have eyo := t1.symm.trans eP
    rw [hfo] at t5
    obtain ⟨et, hRa⟩ := hz1 rfl
    subst et
    obtain ⟨x, e1, e2⟩ := my_v hh.1 hhy.1 hRa ea hs6 eK hκ
    rw [e11] at hQ
    exact yf_39m (by omega) eyo hq (my_k 39 rfl (by omega) (hfl q hqn) eO) (my_a0 t5 (by omega) (by omega) hAO).1 ey rfl e1 hκ ⟨fun _ => trivial, fun _ => he s κ hs6 ea eK hκ⟩ b4 (by omega) (fun w => absurd w (by omega)) (fun _ => hQ lf rt _ (fun _ => rl_R0 hh.1 hh.2.2.2.1 (κ := 1) (by omega)))
  · obtain ⟨⟨b1, b2, b3, b4, b5, b6, b7, b8, b9, b10, b11⟩, hfl, hen, hhy, hby, hfr, han, hq0, hq1, hz1, hz2, hz3⟩ := hY
    obtain ⟨t1, t2, t3, t4, t5⟩ := hfr p hpn
    obtain ⟨ey, eq⟩ := hq1 (by decide)
    rw [List.length_cons] at ey
    have eyo := t1.symm.trans eP
    rw [hfo] at t5
    obtain ⟨et, hRa⟩ := hz1 rfl
    subst et
    obtain ⟨x, e1, e2⟩ := my_v hh.1 hhy.1 hRa ea hs6 eK hκ
    exact yf_39m (by omega) eyo hq (my_k 39 rfl (by omega) (hfl q hqn) eO) (my_a0 t5 (by omega) (by omega) hAO).1 ey rfl e1 hκ ⟨fun _ => trivial, fun _ => he s κ hs6 ea eK hκ⟩ b4 (by omega) (fun _ => hQ) (fun w => absurd w (by omega))
theorem cq_n31 {p : Nat} {pa' : List Nat} {post : SX → Prop} {T : List Nat → Option vv_L} {nf bo np : Nat} {K0 N0 Z0 D0 I0 W0 P0 : Nat → Int32} {xst xow xin xpa xfi xfr xno xsi xan xkn xen xco xrm xac : Int32} {K N Z D Im W P vS pO pX pI fS fP fI fU fR fO fA fH fG fN aS qL qR qP : Nat → Int32} {st : Nat} {V al : Nat → Prop} {g : Nat} {n c rm a : Nat}
    (hX : md_X V al g (p :: pa') bo np n c rm a st xfr xno xsi xen xco xrm xac K N Z D Im W P K0 N0 Z0 D0 I0 W0 P0 pO pX fP fU fR fO fA fH fG) (hv : mv_X V n xsi xan pO fP fI fH fN) (ha : ma_X V a aS)
    (hM : ∀ (mk0 pd0 : Nat) (v0 : SY), kn_F T np nf pO pX pI fS mk0 pd0 v0 → rm_M V (p :: pa') g np n c rm a st xsi xan K N Z D W P pO pX pI fP fI fO fA fH fG fN aS mk0 pd0 v0)
    (H : lp_G T nf bo np K0 N0 Z0 D0 I0 W0 P0 post xst xow xin xpa xfi xkn vS pO pX pI fS st) {q : Nat} (eP : fP p = nI q) (hqn : q < np) (hq : q < 40) (eO : pO q = nI 31) (he : ∀ s κ, s < 653 → xan = nI s → K s = nI κ → κ ≤ 5 → 2 ≤ κ) (es : xsi = 1) (r0 : fR g = 0) : wX_workOut_68 post (1000001 - st) (nI st) xst xow xin xpa xfi xfr xno xsi xan xkn xen xco xrm xac K N Z D Im W P vS pO pX pI fS fP fI fU fR fO fA fH fG fN aS qL qR qP := by
  subst es
  obtain ⟨hpg, hgn, hn6, hU, hA, hrun, hro⟩ := mx_p hX
  obtain ⟨_, _, hst, hlen, _⟩ := mx_f hX
  have hlen2 : pa'.length + 2 ≤ 40 := by
    have := hlen
    rw [List.length_cons] at this
    omega
  have hX0 := hX
  obtain ⟨⟨x1, x2, x3, x4, x5, x6, x7, x8, x9, x10⟩, hs, hh, hb, hf, hr, hG, hpot⟩ := hX
  have hpn : p < n := by omega
  have hfo := mx_fo eP hq eO (by omega)
  obtain ⟨s, ea, hVs⟩ := hv.1 rfl
  obtain ⟨hs6, κ, hκ, eK⟩ := vx_k hh.1 hVs
  obtain ⟨gv, g1, g2⟩ := hG p hpn
  have rO : fO p = nI g := by
    rcases hro with ⟨_, rO⟩ | ⟨r1, _⟩
    · exact rO
    · exact (r_ne r0 r1).elim
  have hAO : fA p = fO p := hA.trans rO.symm
  refine cq_mk hX0 hv ha hM H rfl (fun Q hQ => xh_ans0 x2 (by omega) hU (by omega) r0 eP hq eO (by omega) rfl (fun Q hQ => xo_31m rfl (by omega) ea hs6 eK hκ ⟨fun w => absurd w (by have := he s κ hs6 ea eK hκ; omega), fun w => w.elim⟩ hQ) hQ) (fun hc => ?_) (fun hc mk0 pd0 mk pd nd yhe yvm yin yfi yde yic ys yk yn yp yf iK iN o0 l0 kS0 d0 pl0 yma ypo yap yas yto yan yco yti yna yac yen o l kS d pl yo yi yw ya y1 y2 yK yW yL yq nm nv no yA lf rt hY Q hQ => ?_)
  · refine xk_31 (c := c) rfl (by omega) eP hq eO x4 hc ea hs6 eK hκ (fun _ => ?_) (fun w => absurd w (by have := he s κ hs6 ea eK hκ; omega))
    refine lp_K H (by omega) (rm_make0 (qL := qL) (qR := qR) (qP := qP) (s' := 1) hX0 hv ha hM rfl (by omega) (by omega) (Or.inl rfl) hc (fun _ => ⟨2, rfl, (hh.2.2.2.1.1 2 (by omega)).1⟩) (fun mk0 pd0 mk pd nd yhe yvm yin yfi yde yic ys yk yn yp yf iK iN o0 l0 kS0 d0 pl0 yma ypo yap yas yto yan yco yti yna yac yen o l kS d pl yo yi yw ya y1 y2 yK yW yL yq nm nv no yA lf rt hY Q hQ => ?_))
    obtain ⟨⟨b1, b2, b3, b4, b5, b6, b7, b8, b9, b10, b11⟩, hfl, hen, hhy, hby, hfr, han, hq0, hq1, hz1, hz2, hz3⟩ := hY
    obtain ⟨t1, t2, t3, t4, t5⟩ := hfr p hpn
    obtain ⟨ey, eq⟩ := hq1 (by decide)
    rw [List.length_cons] at ey
    have eyo := t1.symm.trans eP
    rw [hfo] at t5
    obtain ⟨et, hRa⟩ := hz1 rfl
    subst et
    obtain ⟨x, e1, e2⟩ := my_v hh.1 hhy.1 hRa ea hs6 eK hκ
    rw [e11] at hQ
    exact yf_40m (by omega) eyo hq (my_k 40 rfl (by omega) (hfl q hqn) eO) (my_a0 t5 (by omega) (by omega) hAO).1 ey rfl e1 hκ ⟨fun w => absurd w (by have := he s κ hs6 ea eK hκ; omega), fun w => w.elim⟩ b4 (by omega) (fun w => absurd w (by omega)) (fun _ => hQ lf rt _ (fun _ => rl_R0 hh.1 hh.2.2.2.1 (κ := 2) (by omega)))
  · obtain ⟨⟨b1, b2, b3, b4, b5, b6, b7, b8, b9, b10, b11⟩, hfl, hen, hhy, hby, hfr, han, hq0, hq1, hz1, hz2, hz3⟩ := hY
    obtain ⟨t1, t2, t3, t4, t5⟩ := hfr p hpn
    obtain ⟨ey, eq⟩ := hq1 (by decide)
    rw [List.length_cons] at ey
    have eyo := t1.symm.trans eP
    rw [hfo] at t5
    obtain ⟨et, hRa⟩ := hz1 rfl
    subst et
    obtain ⟨x, e1, e2⟩ := my_v hh.1 hhy.1 hRa ea hs6 eK hκ
    exact yf_40m (by omega) eyo hq (my_k 40 rfl (by omega) (hfl q hqn) eO) (my_a0 t5 (by omega) (by omega) hAO).1 ey rfl e1 hκ ⟨fun w => absurd w (by have := he s κ hs6 ea eK hκ; omega), fun w => w.elim⟩ b4 (by omega) (fun _ => hQ) (fun w => absurd w (by omega))
theorem cq_m24 {p : Nat} {pa' : List Nat} {post : SX → Prop} {T : List Nat → Option vv_L} {nf bo np : Nat} {K0 N0 Z0 D0 I0 W0 P0 : Nat → Int32} {xst xow xin xpa xfi xfr xno xsi xan xkn xen xco xrm xac : Int32} {K N Z D Im W P vS pO pX pI fS fP fI fU fR fO fA fH fG fN aS qL qR qP : Nat → Int32} {st : Nat} {V al : Nat → Prop} {g : Nat} {n c rm a : Nat}
    (hX : md_X V al g (p :: pa') bo np n c rm a st xfr xno xsi xen xco xrm xac K N Z D Im W P K0 N0 Z0 D0 I0 W0 P0 pO pX fP fU fR fO fA fH fG) (hv : mv_X V n xsi xan pO fP fI fH fN) (ha : ma_X V a aS)
    (hM : ∀ (mk0 pd0 : Nat) (v0 : SY), kn_F T np nf pO pX pI fS mk0 pd0 v0 → rm_M V (p :: pa') g np n c rm a st xsi xan K N Z D W P pO pX pI fP fI fO fA fH fG fN aS mk0 pd0 v0)
    (H : lp_G T nf bo np K0 N0 Z0 D0 I0 W0 P0 post xst xow xin xpa xfi xkn vS pO pX pI fS st) {q : Nat} (eP : fP p = nI q) (hqn : q < np) (hq : q < 40) (eO : pO q = nI 24) (es : xsi = 1) (r1 : fR g = 1 ∨ fR g = 2) : wX_workOut_68 post (1000001 - st) (nI st) xst xow xin xpa xfi xfr xno xsi xan xkn xen xco xrm xac K N Z D Im W P vS pO pX pI fS fP fI fU fR fO fA fH fG fN aS qL qR qP := by
  subst es
  obtain ⟨hpg, hgn, hn6, hU, hA, hrun, hro⟩ := mx_p hX
  obtain ⟨_, _, hst, hlen, _⟩ := mx_f hX
  have hlen2 : pa'.length + 2 ≤ 40 := by
    have := hlen
    rw [List.length_cons] at this
    omega
  have hX0 := hX
  obtain ⟨⟨x1, x2, x3, x4, x5, x6, x7, x8, x9, x10⟩, hs, hh, hb, hf, hr, hG, hpot⟩ := hX
  have hpn : p < n := by omega
  have hfo := mx_fo eP hq eO (by omega)
  obtain ⟨s, ea, hVs⟩ := hv.1 rfl
  obtain ⟨hs6, κ, hκ, eK⟩ := vx_k hh.1 hVs
  obtain ⟨gv, g1, g2⟩ := hG p hpn
  have nr : ¬ fR g = 0 := fun w => r_ne w r1
  obtain ⟨rO, r21, rx, ry⟩ : fO p ≠ nI g ∧ fr_ro (fr_o pO fP p) (fR g) (fO p) := by
    rcases hro with ⟨r0, _⟩ | ⟨_, rO, rr⟩
    · exact absurd r0 nr
    · exact ⟨rO, rr⟩
  have nAO : fA p ≠ fO p := fun e => rO (e.symm.trans hA)
  rw [hfo] at r21 rx ry
  obtain ⟨t, eh, hVt⟩ := (hv.2 p hpn).2.1 (by omega)
  obtain ⟨ht6, κt, hκt, eKt⟩ := vx_k hh.1 hVt
  refine cq_mk hX0 hv ha hM H rfl (fun Q hQ => xh_ans1 x2 (by omega) hU (by omega) rfl nr eP hq eO (by omega) rfl (fun Q hQ => xb_make (by omega) (by omega) hQ) hQ) (fun hc => ?_) (fun hc mk0 pd0 mk pd nd yhe yvm yin yfi yde yic ys yk yn yp yf iK iN o0 l0 kS0 d0 pl0 yma ypo yap yas yto yan yco yti yna yac yen o l kS d pl yo yi yw ya y1 y2 yK yW yL yq nm nv no yA lf rt hY Q hQ => ?_)
  · have hrm : rm < 600 := by omega
    refine xk_24' (c := c) rfl (by omega) eP hq eO x4 hc eh ea ht6 hs6 eKt eK hκt hκ (fun k3 k3' Q hQ' => ?_) (fun k4 k4' Q hQ' => ?_) (fun hn hn4 => ?_)
    · refine xk_number (rm := rm) (y := N t - N s) (by omega) (by omega) x5 hrm (fun w => absurd w (by omega)) ⟨fun _ => rfl, fun w => absurd w (by omega), fun w => absurd w (by omega), fun w => absurd w (by omega)⟩ (fun _ => hQ' _ _ _ _ _ _ _ _ _ _ _ _ _ _ _ _ _ _ _ _ _ _ _ _ _ _ _ _ _ _ _ _ _ _ _ _ _ _ _ ?_)
      refine lp_K H (by omega) (rm_makeN (y := N t - N s) hX0 hv ha hM rfl (by omega) (by omega) hc (fun mk0 pd0 mk pd nd yhe yvm yin yfi yde yic ys yk yn yp yf iK iN o0 l0 kS0 d0 pl0 yma ypo yap yas yto yan yco yti yna yac yen o l kS d pl yo yi yw ya y1 y2 yK yW yL yq nm nv no yA lf rt hY Q hQ => ?_))
      obtain ⟨⟨b1, b2, b3, b4, b5, b6, b7, b8, b9, b10, b11⟩, hfl, hen, hhy, hby, hfr, han, hq0, hq1, hz1, hz2, hz3⟩ := hY
      obtain ⟨t1, t2, t3, t4, t5⟩ := hfr p hpn
      obtain ⟨ey, eq⟩ := hq1 (by decide)
      rw [List.length_cons] at ey
      have eyo := t1.symm.trans eP
      rw [hfo] at t5
      obtain ⟨et, hRa⟩ := hz1 rfl
      subst et
      obtain ⟨x, e1, e2⟩ := my_v hh.1 hhy.1 hRa ea hs6 eK hκ
      have hRh := t5.2.2.2.2.2.2.2.1 (by omega) (by omega)
      obtain ⟨xt, h1, h2⟩ := my_v hh.1 hhy.1 hRh eh ht6 eKt hκt
      have a1 := (my_a1 t5 (by omega) (by omega) nAO).1.trans hA
      have hx1 : N t = xt := by
        rcases h2 with ⟨_, w, _⟩ | ⟨w, _⟩
        · exact w
        · omega
      have hx2 : N s = x := by
        rcases e2 with ⟨_, w, _⟩ | ⟨w, _⟩
        · exact w
        · omega
      subst k3 k3'
      exact yh_0o' (f := g) (by omega) eyo hq (my_k 33 rfl (by omega) (hfl q hqn) eO) (by omega) (by omega) a1 (by omega) rfl (by omega) (by omega) b4 hc (fun Q hQ' => by
        rw [h1, e1]
        exact yp_num (y := N t - N s) (by omega) (by omega) (fun w => absurd w (by omega)) ⟨fun w => absurd w (by omega), fun _ => by rw [hx1, hx2], fun w => absurd w (by omega), fun w => absurd w (by omega), fun w => absurd w (by omega)⟩ ey (hQ' _ _ _ _ _ _ _ _ _ _ _ _ _ _ _ _ _ _ _ _ _ _ _ _ _ _ _ _ _ _ _ _ _ _ _ _ _ _ _ _ _ _ _ _ _ hQ))
    · obtain ⟨za, hza, eza, hca⟩ := vv_ox_z hh.1 hVt
      obtain ⟨zb, hzb, ezb, hcb⟩ := vv_ox_z hh.1 hVs
      obtain ⟨fb, hfb⟩ : ∃ fb : Nat → Bool, ∀ i, fb i = true ↔ ∃ j, j < zb ∧ oo_c (oo_h K N) Z P 4 (dp_ch P t i) (dp_ch P s j) = 0 := ⟨fun i => @decide _ (Classical.propDecidable (∃ j, j < zb ∧ oo_c (oo_h K N) Z P 4 (dp_ch P t i) (dp_ch P s j) = 0)), fun i => by simp⟩
      have hff : ∀ i, i < za → (fb i = true → ∃ j, j < zb ∧ oo_c (oo_h K N) Z P 4 (dp_ch P t i) (dp_ch P s j) = 0) ∧ (fb i = false → ∀ j, j < zb → ¬ oo_c (oo_h K N) Z P 4 (dp_ch P t i) (dp_ch P s j) = 0) := fun i hi => ⟨(hfb i).mp, fun w j hj hz => by
        have := (hfb i).mpr ⟨j, hj, hz⟩
        rw [w] at this
        exact absurd this (by decide)⟩
      have hwk : ∀ i, i < wo_n fb za → wo_k fb i za < za := fun i hi => by
        obtain ⟨k, k1, k2, k3⟩ := wo_ex za hi
        rw [wo_ku k2 k3 za k1]
        exact k1
      have hwn := wo_le (fb := fb) za
      obtain ⟨c', e', q', w', hns, hmx⟩ := vx_ns (s := 53 + rm) (z := wo_n fb za) (ch := fun i => P (t * 10 + wo_k fb i za)) hh.1 (by omega) (fun i hi => vx_chd hh.1 hVt eza hza (hwk i hi))
      refine xk_without (V := V) (za := za) (zb := zb) (fb := fb) hh.1 hVt hVs x5 hrm eza ezb hza hzb hff hns (fun u w e => by have := (hh.2.1 u w).2; omega) (fun K' N' Z' D' Im' W' P' qL' qR' qP' hvn => hQ' _ _ _ _ _ _ _ _ _ _ _ _ _ _ _ _ _ _ _ _ _ _ _ _ _ _ _ _ _ _ _ _ _ _ _ _ _ _ _ ?_)
      refine lp_K H (by omega) (rm_makeC (qL := qL) (qR := qR) (qP := qP) hX0 hv ha hM rfl (by omega) (by omega) hc hvn hns (by omega) hmx (Or.inl ⟨rfl, rfl, rfl⟩) (fun mk0 pd0 mk pd nd yhe yvm yin yfi yde yic ys yk yn yp yf iK iN o0 l0 kS0 d0 pl0 yma ypo yap yas yto yan yco yti yna yac yen o l kS d pl yo yi yw ya y1 y2 yK yW yL yq nm nv no yA lf rt hY Q hQ => ?_))
      obtain ⟨⟨b1, b2, b3, b4, b5, b6, b7, b8, b9, b10, b11⟩, hfl, hen, hhy, hby, hfr, han, hq0, hq1, hz1, hz2, hz3⟩ := hY
      obtain ⟨t1, t2, t3, t4, t5⟩ := hfr p hpn
      obtain ⟨ey, eq⟩ := hq1 (by decide)
      rw [List.length_cons] at ey
      have eyo := t1.symm.trans eP
      rw [hfo] at t5
      obtain ⟨et, hRa⟩ := hz1 rfl
      subst et
      obtain ⟨x, e1, e2⟩ := my_v hh.1 hhy.1 hRa ea hs6 eK hκ
      have hRh := t5.2.2.2.2.2.2.2.1 (by omega) (by omega)
      obtain ⟨xt, h1, h2⟩ := my_v hh.1 hhy.1 hRh eh ht6 eKt hκt
      have a1 := (my_a1 t5 (by omega) (by omega) nAO).1.trans hA
      have c8 := hhy.2.2.2.2.1
      have c7 := hhy.2.2.1
      have hp8 := hhy.1.2.1
      rcases h2 with ⟨w, _⟩ | ⟨_, j, oa, la, j1, j2, j3, j4, j5, j6, j7, j8, j9, j10⟩
      · omega
      rcases e2 with ⟨w, _⟩ | ⟨_, k, ob, lb, m1, m2, m3, m4, m5, m6, m7, m8, m9, m10⟩
      · omega
      have ela : la = za := (nI_eq (by omega) (by omega)).mp (j8.symm.trans eza)
      have elb : lb = zb := (nI_eq (by omega) (by omega)).mp (m8.symm.trans ezb)
      subst ela elb j2 m2
      have hsc : ∀ i, i < la → dp_ch P t i < 653 ∧ nI (dp_ch P t i) = P (t * 10 + i) := fun i hi => by
        obtain ⟨c1, k1, k2, k3⟩ := hca i hi
        unfold dp_ch
        rw [k1, nI_clamp (by omega)]
        exact ⟨k2, rfl⟩
      have htc : ∀ i, i < lb → dp_ch P s i < 653 ∧ nI (dp_ch P s i) = P (s * 10 + i) := fun i hi => by
        obtain ⟨c1, k1, k2, k3⟩ := hcb i hi
        unfold dp_ch
        rw [k1, nI_clamp (by omega)]
        exact ⟨k2, rfl⟩
      refine yh_0o' (f := g) (by omega) eyo hq (my_k 33 rfl (by omega) (hfl q hqn) eO) (by omega) (by omega) a1 (by omega) rfl (by omega) (by omega) b4 hc (fun Q hQ' => ?_)
      rw [h1, e1, k4, k4']
      refine yp_arr' (Or.inr rfl) (fun Q hQ2 => yk_minus (V := V) (mk := mk) (pd := pd) (sc := dp_ch P t) (tc := dp_ch P s) (fb := fb) (e := e') hh.1 hhy.1 (by omega) (by omega) j3 j4 m3 m4 j5 m5 j6 m6 ey b2 (by omega) b1 (by omega) (fun i hi => ⟨(hsc i hi).1, by rw [(hsc i hi).2]; exact j10 i hi⟩) (fun i hi => ⟨(htc i hi).1, by rw [(htc i hi).2]; exact m10 i hi⟩) hff (fun i hi => ?_) (fun pl' lf' rt' g1 g2 => hQ2 _ _ _ _ _ _ _ _ _ _ _ _ _ _ _ _ _ _ _ _ _ _ _ _ _ _ _ _ _ _ _ _ _ _ _ _ _ _ _ _ _ _ _ _ _ (hQ' _ _ _ _ _ _ _ _ _ _ _ _ _ _ _ _ _ _ _ _ _ _ _ _ _ _ _ _ _ _ _ _ _ _ _ _ _ _ _ _ _ _ _ _ _ (hQ pl' lf' rt' g1 (fun i hi => ?_)))))
      · obtain ⟨n1, n2, n3, n4, n5, n6, _⟩ := hns i hi
        exact yd_of_R hh.1 hhy.1 (j10 _ (hwk i hi)) n1 n2 n5 n6
      · rw [g2 i hi]
        exact j10 _ (hwk i hi)
    · skip
      refine lp_K H (by omega) (rm_make0 (qL := qL) (qR := qR) (qP := qP) (s' := 3) hX0 hv ha hM rfl (by omega) (by omega) (Or.inr (Or.inr rfl)) hc (fun w => absurd w (by decide)) (fun mk0 pd0 mk pd nd yhe yvm yin yfi yde yic ys yk yn yp yf iK iN o0 l0 kS0 d0 pl0 yma ypo yap yas yto yan yco yti yna yac yen o l kS d pl yo yi yw ya y1 y2 yK yW yL yq nm nv no yA lf rt hY Q hQ => ?_))
      obtain ⟨⟨b1, b2, b3, b4, b5, b6, b7, b8, b9, b10, b11⟩, hfl, hen, hhy, hby, hfr, han, hq0, hq1, hz1, hz2, hz3⟩ := hY
      obtain ⟨t1, t2, t3, t4, t5⟩ := hfr p hpn
      obtain ⟨ey, eq⟩ := hq1 (by decide)
      rw [List.length_cons] at ey
      have eyo := t1.symm.trans eP
      rw [hfo] at t5
      obtain ⟨et, hRa⟩ := hz1 rfl
      subst et
      obtain ⟨x, e1, e2⟩ := my_v hh.1 hhy.1 hRa ea hs6 eK hκ
      have hRh := t5.2.2.2.2.2.2.2.1 (by omega) (by omega)
      obtain ⟨xt, h1, h2⟩ := my_v hh.1 hhy.1 hRh eh ht6 eKt hκt
      have a1 := (my_a1 t5 (by omega) (by omega) nAO).1.trans hA
      rw [e31] at hQ
      exact yh_0o' (f := g) (by omega) eyo hq (my_k 33 rfl (by omega) (hfl q hqn) eO) (by omega) (by omega) a1 (by omega) rfl (by omega) (by omega) b4 hc (fun Q hQ' => by
        rw [h1, e1]
        exact yp_err (by omega) (by omega) hκt hκ (fun w => absurd w (by omega)) (by omega) (by omega) (fun w => absurd w hn) ey (hQ' _ _ _ _ _ _ _ _ _ _ _ _ _ _ _ _ _ _ _ _ _ _ _ _ _ _ _ _ _ _ _ _ _ _ _ _ _ _ _ _ _ _ _ _ _ (hQ lf rt 0 (fun w => absurd w (by decide)))))
  · obtain ⟨⟨b1, b2, b3, b4, b5, b6, b7, b8, b9, b10, b11⟩, hfl, hen, hhy, hby, hfr, han, hq0, hq1, hz1, hz2, hz3⟩ := hY
    obtain ⟨t1, t2, t3, t4, t5⟩ := hfr p hpn
    obtain ⟨ey, eq⟩ := hq1 (by decide)
    rw [List.length_cons] at ey
    have eyo := t1.symm.trans eP
    rw [hfo] at t5
    obtain ⟨et, hRa⟩ := hz1 rfl
    subst et
    obtain ⟨x, e1, e2⟩ := my_v hh.1 hhy.1 hRa ea hs6 eK hκ
    have a1 := (my_a1 t5 (by omega) (by omega) nAO).1.trans hA
    exact yh_0t (f := g) (c := 0) (by omega) eyo hq (my_k 33 rfl (by omega) (hfl q hqn) eO) (by omega) (by omega) a1 (by omega) rfl (by omega) (by omega) (b4.trans (by rw [hc])) hQ
theorem cq_m23 {p : Nat} {pa' : List Nat} {post : SX → Prop} {T : List Nat → Option vv_L} {nf bo np : Nat} {K0 N0 Z0 D0 I0 W0 P0 : Nat → Int32} {xst xow xin xpa xfi xfr xno xsi xan xkn xen xco xrm xac : Int32} {K N Z D Im W P vS pO pX pI fS fP fI fU fR fO fA fH fG fN aS qL qR qP : Nat → Int32} {st : Nat} {V al : Nat → Prop} {g : Nat} {n c rm a : Nat}
    (hX : md_X V al g (p :: pa') bo np n c rm a st xfr xno xsi xen xco xrm xac K N Z D Im W P K0 N0 Z0 D0 I0 W0 P0 pO pX fP fU fR fO fA fH fG) (hv : mv_X V n xsi xan pO fP fI fH fN) (ha : ma_X V a aS)
    (hM : ∀ (mk0 pd0 : Nat) (v0 : SY), kn_F T np nf pO pX pI fS mk0 pd0 v0 → rm_M V (p :: pa') g np n c rm a st xsi xan K N Z D W P pO pX pI fP fI fO fA fH fG fN aS mk0 pd0 v0)
    (H : lp_G T nf bo np K0 N0 Z0 D0 I0 W0 P0 post xst xow xin xpa xfi xkn vS pO pX pI fS st) {q : Nat} (eP : fP p = nI q) (hqn : q < np) (hq : q < 40) (eO : pO q = nI 23) (es : xsi = 1) (r1 : fR g = 1 ∨ fR g = 2) : wX_workOut_68 post (1000001 - st) (nI st) xst xow xin xpa xfi xfr xno xsi xan xkn xen xco xrm xac K N Z D Im W P vS pO pX pI fS fP fI fU fR fO fA fH fG fN aS qL qR qP := by
  subst es
  obtain ⟨hpg, hgn, hn6, hU, hA, hrun, hro⟩ := mx_p hX
  obtain ⟨_, _, hst, hlen, _⟩ := mx_f hX
  have hlen2 : pa'.length + 2 ≤ 40 := by
    have := hlen
    rw [List.length_cons] at this
    omega
  have hX0 := hX
  obtain ⟨⟨x1, x2, x3, x4, x5, x6, x7, x8, x9, x10⟩, hs, hh, hb, hf, hr, hG, hpot⟩ := hX
  have hpn : p < n := by omega
  have hfo := mx_fo eP hq eO (by omega)
  obtain ⟨s, ea, hVs⟩ := hv.1 rfl
  obtain ⟨hs6, κ, hκ, eK⟩ := vx_k hh.1 hVs
  obtain ⟨gv, g1, g2⟩ := hG p hpn
  have nr : ¬ fR g = 0 := fun w => r_ne w r1
  obtain ⟨rO, r21, rx, ry⟩ : fO p ≠ nI g ∧ fr_ro (fr_o pO fP p) (fR g) (fO p) := by
    rcases hro with ⟨r0, _⟩ | ⟨_, rO, rr⟩
    · exact absurd r0 nr
    · exact ⟨rO, rr⟩
  have nAO : fA p ≠ fO p := fun e => rO (e.symm.trans hA)
  rw [hfo] at r21 rx ry
  obtain ⟨t, eh, hVt⟩ := (hv.2 p hpn).2.1 (by omega)
  obtain ⟨ht6, κt, hκt, eKt⟩ := vx_k hh.1 hVt
  refine cq_mk hX0 hv ha hM H rfl (fun Q hQ => xh_ans1 x2 (by omega) hU (by omega) rfl nr eP hq eO (by omega) rfl (fun Q hQ => xb_make (by omega) (by omega) hQ) hQ) (fun hc => ?_) (fun hc mk0 pd0 mk pd nd yhe yvm yin yfi yde yic ys yk yn yp yf iK iN o0 l0 kS0 d0 pl0 yma ypo yap yas yto yan yco yti yna yac yen o l kS d pl yo yi yw ya y1 y2 yK yW yL yq nm nv no yA lf rt hY Q hQ => ?_)
  · have hrm : rm < 600 := by omega
    refine xk_23' (c := c) rfl (by omega) eP hq eO x4 hc (fun Q hQ' => ?_)
    rw [eh, ea]
    refine xk_sum ht6 hs6 eKt eK hκt hκ x5 hrm (fun k0 => hQ' _ _ _ _ _ _ _ _ _ _ _ _ _ _ _ _ _ _ _ _ _ _ _ _ _ _ _ _ _ _ _ _ _ _ _ _ _ _ _ ?_) (fun n0 k0 => hQ' _ _ _ _ _ _ _ _ _ _ _ _ _ _ _ _ _ _ _ _ _ _ _ _ _ _ _ _ _ _ _ _ _ _ _ _ _ _ _ ?_) (fun n0 n0' hk => hQ' _ _ _ _ _ _ _ _ _ _ _ _ _ _ _ _ _ _ _ _ _ _ _ _ _ _ _ _ _ _ _ _ _ _ _ _ _ _ _ ?_) (fun k3 k3' => hQ' _ _ _ _ _ _ _ _ _ _ _ _ _ _ _ _ _ _ _ _ _ _ _ _ _ _ _ _ _ _ _ _ _ _ _ _ _ _ _ ?_) (fun k4 k4' Q hQ2 => ?_) (fun k5 k5' Q hQ2 => ?_)
    · refine lp_K H (by omega) (rm_make0 (qL := qL) (qR := qR) (qP := qP) (s' := 1) hX0 hv ha hM rfl (by omega) (by omega) (Or.inl rfl) hc (fun _ => ⟨s, rfl, hVs⟩) (fun mk0 pd0 mk pd nd yhe yvm yin yfi yde yic ys yk yn yp yf iK iN o0 l0 kS0 d0 pl0 yma ypo yap yas yto yan yco yti yna yac yen o l kS d pl yo yi yw ya y1 y2 yK yW yL yq nm nv no yA lf rt hY Q hQ => ?_))
      obtain ⟨⟨b1, b2, b3, b4, b5, b6, b7, b8, b9, b10, b11⟩, hfl, hen, hhy, hby, hfr, han, hq0, hq1, hz1, hz2, hz3⟩ := hY
      obtain ⟨t1, t2, t3, t4, t5⟩ := hfr p hpn
      obtain ⟨ey, eq⟩ := hq1 (by decide)
      rw [List.length_cons] at ey
      have eyo := t1.symm.trans eP
      rw [hfo] at t5
      obtain ⟨et, hRa⟩ := hz1 rfl
      subst et
      obtain ⟨x, e1, e2⟩ := my_v hh.1 hhy.1 hRa ea hs6 eK hκ
      have hRh := t5.2.2.2.2.2.2.2.1 (by omega) (by omega)
      obtain ⟨xt, h1, h2⟩ := my_v hh.1 hhy.1 hRh eh ht6 eKt hκt
      have a1 := (my_a1 t5 (by omega) (by omega) nAO).1.trans hA
      rw [e11] at hQ
      refine yh_0o' (f := g) (by omega) eyo hq (my_k 32 rfl (by omega) (hfl q hqn) eO) (by omega) (by omega) a1 (by omega) rfl (by omega) (by omega) b4 hc (fun Q hQ' => ?_)
      rw [ea, e1] at hRa
      rw [h1, e1]
      exact yp_sum0 hκt hκ (Or.inl k0) ey (fun _ => hQ' _ _ _ _ _ _ _ _ _ _ _ _ _ _ _ _ _ _ _ _ _ _ _ _ _ _ _ _ _ _ _ _ _ _ _ _ _ _ _ _ _ _ _ _ _ (hQ lf rt _ (fun _ => hRa))) (fun w => absurd k0 w)
    · refine lp_K H (by omega) (rm_make0 (qL := qL) (qR := qR) (qP := qP) (s' := 1) hX0 hv ha hM rfl (by omega) (by omega) (Or.inl rfl) hc (fun _ => ⟨t, rfl, hVt⟩) (fun mk0 pd0 mk pd nd yhe yvm yin yfi yde yic ys yk yn yp yf iK iN o0 l0 kS0 d0 pl0 yma ypo yap yas yto yan yco yti yna yac yen o l kS d pl yo yi yw ya y1 y2 yK yW yL yq nm nv no yA lf rt hY Q hQ => ?_))
      obtain ⟨⟨b1, b2, b3, b4, b5, b6, b7, b8, b9, b10, b11⟩, hfl, hen, hhy, hby, hfr, han, hq0, hq1, hz1, hz2, hz3⟩ := hY
      obtain ⟨t1, t2, t3, t4, t5⟩ := hfr p hpn
      obtain ⟨ey, eq⟩ := hq1 (by decide)
      rw [List.length_cons] at ey
      have eyo := t1.symm.trans eP
      rw [hfo] at t5
      obtain ⟨et, hRa⟩ := hz1 rfl
      subst et
      obtain ⟨x, e1, e2⟩ := my_v hh.1 hhy.1 hRa ea hs6 eK hκ
      have hRh := t5.2.2.2.2.2.2.2.1 (by omega) (by omega)
      obtain ⟨xt, h1, h2⟩ := my_v hh.1 hhy.1 hRh eh ht6 eKt hκt
      have a1 := (my_a1 t5 (by omega) (by omega) nAO).1.trans hA
      rw [e11] at hQ
      refine yh_0o' (f := g) (by omega) eyo hq (my_k 32 rfl (by omega) (hfl q hqn) eO) (by omega) (by omega) a1 (by omega) rfl (by omega) (by omega) b4 hc (fun Q hQ' => ?_)
      rw [eh, h1] at hRh
      rw [h1, e1]
      exact yp_sum0 hκt hκ (Or.inr k0) ey (fun w => absurd w n0) (fun _ => hQ' _ _ _ _ _ _ _ _ _ _ _ _ _ _ _ _ _ _ _ _ _ _ _ _ _ _ _ _ _ _ _ _ _ _ _ _ _ _ _ _ _ _ _ _ _ (hQ lf rt _ (fun _ => hRh)))
    · skip
      refine lp_K H (by omega) (rm_make0 (qL := qL) (qR := qR) (qP := qP) (s' := 3) hX0 hv ha hM rfl (by omega) (by omega) (Or.inr (Or.inr rfl)) hc (fun w => absurd w (by decide)) (fun mk0 pd0 mk pd nd yhe yvm yin yfi yde yic ys yk yn yp yf iK iN o0 l0 kS0 d0 pl0 yma ypo yap yas yto yan yco yti yna yac yen o l kS d pl yo yi yw ya y1 y2 yK yW yL yq nm nv no yA lf rt hY Q hQ => ?_))
      obtain ⟨⟨b1, b2, b3, b4, b5, b6, b7, b8, b9, b10, b11⟩, hfl, hen, hhy, hby, hfr, han, hq0, hq1, hz1, hz2, hz3⟩ := hY
      obtain ⟨t1, t2, t3, t4, t5⟩ := hfr p hpn
      obtain ⟨ey, eq⟩ := hq1 (by decide)
      rw [List.length_cons] at ey
      have eyo := t1.symm.trans eP
      rw [hfo] at t5
      obtain ⟨et, hRa⟩ := hz1 rfl
      subst et
      obtain ⟨x, e1, e2⟩ := my_v hh.1 hhy.1 hRa ea hs6 eK hκ
      have hRh := t5.2.2.2.2.2.2.2.1 (by omega) (by omega)
      obtain ⟨xt, h1, h2⟩ := my_v hh.1 hhy.1 hRh eh ht6 eKt hκt
      have a1 := (my_a1 t5 (by omega) (by omega) nAO).1.trans hA
      rw [e31] at hQ
      exact yh_0o' (f := g) (by omega) eyo hq (my_k 32 rfl (by omega) (hfl q hqn) eO) (by omega) (by omega) a1 (by omega) rfl (by omega) (by omega) b4 hc (fun Q hQ' => by
        rw [h1, e1]
        exact yp_err (by omega) (by omega) hκt hκ (fun _ w => w.elim n0 n0') (by omega) (by omega) (fun w => absurd w (by omega)) ey (hQ' _ _ _ _ _ _ _ _ _ _ _ _ _ _ _ _ _ _ _ _ _ _ _ _ _ _ _ _ _ _ _ _ _ _ _ _ _ _ _ _ _ _ _ _ _ (hQ lf rt 0 (fun w => absurd w (by decide)))))
    · skip
      refine lp_K H (by omega) (rm_makeN (y := N t + N s) hX0 hv ha hM rfl (by omega) (by omega) hc (fun mk0 pd0 mk pd nd yhe yvm yin yfi yde yic ys yk yn yp yf iK iN o0 l0 kS0 d0 pl0 yma ypo yap yas yto yan yco yti yna yac yen o l kS d pl yo yi yw ya y1 y2 yK yW yL yq nm nv no yA lf rt hY Q hQ => ?_))
      obtain ⟨⟨b1, b2, b3, b4, b5, b6, b7, b8, b9, b10, b11⟩, hfl, hen, hhy, hby, hfr, han, hq0, hq1, hz1, hz2, hz3⟩ := hY
      obtain ⟨t1, t2, t3, t4, t5⟩ := hfr p hpn
      obtain ⟨ey, eq⟩ := hq1 (by decide)
      rw [List.length_cons] at ey
      have eyo := t1.symm.trans eP
      rw [hfo] at t5
      obtain ⟨et, hRa⟩ := hz1 rfl
      subst et
      obtain ⟨x, e1, e2⟩ := my_v hh.1 hhy.1 hRa ea hs6 eK hκ
      have hRh := t5.2.2.2.2.2.2.2.1 (by omega) (by omega)
      obtain ⟨xt, h1, h2⟩ := my_v hh.1 hhy.1 hRh eh ht6 eKt hκt
      have a1 := (my_a1 t5 (by omega) (by omega) nAO).1.trans hA
      have hx1 : N t = xt := by
        rcases h2 with ⟨_, w, _⟩ | ⟨w, _⟩
        · exact w
        · omega
      have hx2 : N s = x := by
        rcases e2 with ⟨_, w, _⟩ | ⟨w, _⟩
        · exact w
        · omega
      subst k3 k3'
      exact yh_0o' (f := g) (by omega) eyo hq (my_k 32 rfl (by omega) (hfl q hqn) eO) (by omega) (by omega) a1 (by omega) rfl (by omega) (by omega) b4 hc (fun Q hQ' => by
        rw [h1, e1]
        exact yp_num (y := N t + N s) (by omega) (by omega) (fun w => absurd w (by omega)) ⟨fun _ => by rw [hx1, hx2], fun w => absurd w (by omega), fun w => absurd w (by omega), fun w => absurd w (by omega), fun w => absurd w (by omega)⟩ ey (hQ' _ _ _ _ _ _ _ _ _ _ _ _ _ _ _ _ _ _ _ _ _ _ _ _ _ _ _ _ _ _ _ _ _ _ _ _ _ _ _ _ _ _ _ _ _ hQ))
    · obtain ⟨za, hza, eza, hca⟩ := vv_ox_z hh.1 hVt
      obtain ⟨zb, hzb, ezb, hcb⟩ := vv_ox_z hh.1 hVs
      have hld : za + zb ≤ 10 → ∃ c' e' q' w' : Nat → Nat, ns_ch V D Im W (53 + rm) (za + zb) (fun i => if i < za then P (t * 10 + i) else P (s * 10 + (i - za))) c' e' q' w' ∧ vv_mx e' (za + zb) ≤ 3 := fun h10 => vx_ns hh.1 (by omega) (fun i hi => by
        by_cases h : i < za
        · simp only [if_pos h]
          exact vx_chd hh.1 hVt eza hza h
        · simp only [if_neg h]
          exact vx_chd hh.1 hVs ezb hzb (by omega))
      by_cases h10 : za + zb ≤ 10
      · obtain ⟨c', e', q', w', hns, hmx⟩ := hld h10
        refine xk_joined (V := V) (za := za) (zb := zb) (rm := rm) ht6 hs6 x5 hrm eza ezb hza hzb (by have := (hh.2.1 t hVt).2; omega) (by have := (hh.2.1 s hVs).2; omega) (fun _ => hns) (fun u w e => by have := (hh.2.1 u w).2; omega) (fun w => absurd w (by omega)) (fun _ K' N' Z' D' Im' W' P' hvn => hQ2 _ _ _ _ _ _ _ _ _ _ _ _ _ _ _ _ _ _ _ _ _ _ _ _ _ _ _ _ _ _ _ _ _ _ _ _ _ _ _ (hQ' _ _ _ _ _ _ _ _ _ _ _ _ _ _ _ _ _ _ _ _ _ _ _ _ _ _ _ _ _ _ _ _ _ _ _ _ _ _ _ ?_))
        refine lp_K H (by omega) (rm_makeC (qL := qL) (qR := qR) (qP := qP) hX0 hv ha hM rfl (by omega) (by omega) hc hvn hns h10 hmx (Or.inl ⟨rfl, rfl, rfl⟩) (fun mk0 pd0 mk pd nd yhe yvm yin yfi yde yic ys yk yn yp yf iK iN o0 l0 kS0 d0 pl0 yma ypo yap yas yto yan yco yti yna yac yen o l kS d pl yo yi yw ya y1 y2 yK yW yL yq nm nv no yA lf rt hY Q hQ => ?_))
        obtain ⟨⟨b1, b2, b3, b4, b5, b6, b7, b8, b9, b10, b11⟩, hfl, hen, hhy, hby, hfr, han, hq0, hq1, hz1, hz2, hz3⟩ := hY
        obtain ⟨t1, t2, t3, t4, t5⟩ := hfr p hpn
        obtain ⟨ey, eq⟩ := hq1 (by decide)
        rw [List.length_cons] at ey
        have eyo := t1.symm.trans eP
        rw [hfo] at t5
        obtain ⟨et, hRa⟩ := hz1 rfl
        subst et
        obtain ⟨x, e1, e2⟩ := my_v hh.1 hhy.1 hRa ea hs6 eK hκ
        have hRh := t5.2.2.2.2.2.2.2.1 (by omega) (by omega)
        obtain ⟨xt, h1, h2⟩ := my_v hh.1 hhy.1 hRh eh ht6 eKt hκt
        have a1 := (my_a1 t5 (by omega) (by omega) nAO).1.trans hA
        have c8 := hhy.2.2.2.2.1
        have c7 := hhy.2.2.1
        have hp8 := hhy.1.2.1
        rcases h2 with ⟨w, _⟩ | ⟨_, j, oa, la, j1, j2, j3, j4, j5, j6, j7, j8, j9, j10⟩
        · omega
        rcases e2 with ⟨w, _⟩ | ⟨_, k, ob, lb, m1, m2, m3, m4, m5, m6, m7, m8, m9, m10⟩
        · omega
        have ela : la = za := (nI_eq (by omega) (by omega)).mp (j8.symm.trans eza)
        have elb : lb = zb := (nI_eq (by omega) (by omega)).mp (m8.symm.trans ezb)
        subst ela elb j2 m2
        have hRi : ∀ i, i < la + lb → vv_R V K N Z D P mk o l kS d pl (if i < la then P (t * 10 + i) else P (s * 10 + (i - la))) (if i < la then pl (oa + i) else pl (ob + (i - la))) := fun i hi => by
          by_cases h : i < la
          · rw [if_pos h, if_pos h]
            exact j10 i h
          · rw [if_neg h, if_neg h]
            exact m10 _ (by omega)
        refine yh_0o' (f := g) (by omega) eyo hq (my_k 32 rfl (by omega) (hfl q hqn) eO) (by omega) (by omega) a1 (by omega) rfl (by omega) (by omega) b4 hc (fun Q hQ' => ?_)
        rw [h1, e1, k4, k4']
        refine yp_arr' (Or.inl rfl) (fun Q hQ2 => yk_join (mk := mk) (pd := pd) (e := e') (by omega) (by omega) j3 j4 m3 m4 j5 m5 j6 m6 ey b2 (by omega) b1 (by omega) (fun _ i hi => ?_) (fun w => absurd w (by omega)) (fun _ pl' g1 g2 => hQ2 _ _ _ _ _ _ _ _ _ _ _ _ _ _ _ _ _ _ _ _ _ _ _ _ _ _ _ _ _ _ _ _ _ _ _ _ _ _ _ _ _ _ _ _ _ (hQ' _ _ _ _ _ _ _ _ _ _ _ _ _ _ _ _ _ _ _ _ _ _ _ _ _ _ _ _ _ _ _ _ _ _ _ _ _ _ _ _ _ _ _ _ _ (hQ pl' lf rt g1 (fun i hi => ?_)))))
        · obtain ⟨n1, n2, n3, n4, n5, n6, _⟩ := hns i hi
          exact yd_of_R hh.1 hhy.1 (hRi i hi) n1 n2 n5 n6
        · rw [g2 i hi]
          exact hRi i hi
      · refine xk_joined (V := fun _ => False) (za := za) (zb := zb) (rm := rm) (c := fun _ => 0) (e := fun _ => 0) (q := fun _ => 0) (w := fun _ => 0) ht6 hs6 x5 hrm eza ezb hza hzb (by have := (hh.2.1 t hVt).2; omega) (by have := (hh.2.1 s hVs).2; omega) (fun w => absurd w h10) (fun _ w => w.elim) (fun _ => hQ2 _ _ _ _ _ _ _ _ _ _ _ _ _ _ _ _ _ _ _ _ _ _ _ _ _ _ _ _ _ _ _ _ _ _ _ _ _ _ _ (hQ' _ _ _ _ _ _ _ _ _ _ _ _ _ _ _ _ _ _ _ _ _ _ _ _ _ _ _ _ _ _ _ _ _ _ _ _ _ _ _ ?_)) (fun w => absurd w h10)
        refine lp_K H (by omega) (rm_make0 (qL := qL) (qR := qR) (qP := qP) (s' := 3) hX0 hv ha hM rfl (by omega) (by omega) (Or.inr (Or.inr rfl)) hc (fun w => absurd w (by decide)) (fun mk0 pd0 mk pd nd yhe yvm yin yfi yde yic ys yk yn yp yf iK iN o0 l0 kS0 d0 pl0 yma ypo yap yas yto yan yco yti yna yac yen o l kS d pl yo yi yw ya y1 y2 yK yW yL yq nm nv no yA lf rt hY Q hQ => ?_))
        obtain ⟨⟨b1, b2, b3, b4, b5, b6, b7, b8, b9, b10, b11⟩, hfl, hen, hhy, hby, hfr, han, hq0, hq1, hz1, hz2, hz3⟩ := hY
        obtain ⟨t1, t2, t3, t4, t5⟩ := hfr p hpn
        obtain ⟨ey, eq⟩ := hq1 (by decide)
        rw [List.length_cons] at ey
        have eyo := t1.symm.trans eP
        rw [hfo] at t5
        obtain ⟨et, hRa⟩ := hz1 rfl
        subst et
        obtain ⟨x, e1, e2⟩ := my_v hh.1 hhy.1 hRa ea hs6 eK hκ
        have hRh := t5.2.2.2.2.2.2.2.1 (by omega) (by omega)
        obtain ⟨xt, h1, h2⟩ := my_v hh.1 hhy.1 hRh eh ht6 eKt hκt
        have a1 := (my_a1 t5 (by omega) (by omega) nAO).1.trans hA
        rw [e31] at hQ
        have c8 := hhy.2.2.2.2.1
        have c7 := hhy.2.2.1
        have hp8 := hhy.1.2.1
        rcases h2 with ⟨w, _⟩ | ⟨_, j, oa, la, j1, j2, j3, j4, j5, j6, j7, j8, j9, j10⟩
        · omega
        rcases e2 with ⟨w, _⟩ | ⟨_, k, ob, lb, m1, m2, m3, m4, m5, m6, m7, m8, m9, m10⟩
        · omega
        have ela : la = za := (nI_eq (by omega) (by omega)).mp (j8.symm.trans eza)
        have elb : lb = zb := (nI_eq (by omega) (by omega)).mp (m8.symm.trans ezb)
        subst ela elb j2 m2
        refine yh_0o' (f := g) (by omega) eyo hq (my_k 32 rfl (by omega) (hfl q hqn) eO) (by omega) (by omega) a1 (by omega) rfl (by omega) (by omega) b4 hc (fun Q hQ' => ?_)
        rw [h1, e1, k4, k4']
        exact yp_arr' (Or.inl rfl) (fun Q hQ2 => yk_join (mk := mk) (pd := pd) (e := fun _ => 0) (by omega) (by omega) j3 j4 m3 m4 j5 m5 j6 m6 ey b2 (by omega) b1 (by omega) (fun w => absurd w h10) (fun _ => hQ2 _ _ _ _ _ _ _ _ _ _ _ _ _ _ _ _ _ _ _ _ _ _ _ _ _ _ _ _ _ _ _ _ _ _ _ _ _ _ _ _ _ _ _ _ _ (hQ' _ _ _ _ _ _ _ _ _ _ _ _ _ _ _ _ _ _ _ _ _ _ _ _ _ _ _ _ _ _ _ _ _ _ _ _ _ _ _ _ _ _ _ _ _ (hQ lf rt 0 (fun w => absurd w (by decide))))) (fun w => absurd w h10))
    · obtain ⟨ml, hml'⟩ := vx_m hh.1 hVt eKt hκt
      obtain ⟨mr, hmr'⟩ := vx_m hh.1 hVs eK hκ
      obtain ⟨hml, eNt, eZt⟩ := hml' k5
      obtain ⟨hmr, eNs, eZs⟩ := hmr' k5'
      have hu8 := or_lt hml hmr
      have p8 := vv_pc_8' (m := ml ||| mr)
      have pl8 := vv_pc_8' (m := ml)
      have pr8 := vv_pc_8' (m := mr)
      have hky : ∀ i, i < vv_pc (ml ||| mr) 8 → ky_k (ml ||| mr) i 8 < 8 ∧ (¬ mr / 2 ^ ky_k (ml ||| mr) i 8 % 2 = 1 → ml / 2 ^ ky_k (ml ||| mr) i 8 % 2 = 1) := fun i hi => by
        obtain ⟨a1, a2, _⟩ := ky_t (ml ||| mr) hu8 i (by omega) hi
        refine ⟨a1, fun hn => ?_⟩
        rw [or_bit] at a2
        by_cases hb : ml / 2 ^ ky_k (ml ||| mr) i 8 % 2 = 1
        · exact hb
        · rw [if_neg (fun w => w.elim hb hn)] at a2
          exact absurd a2 (by decide)
      have hpx : ∀ m k, k < 8 → m / 2 ^ k % 2 = 1 → vv_pc m k < vv_pc m 8 := fun m k hk hb => by
        have h1 := vv_pc_s m k
        have h2 := vv_pc_u (m := m) (show k + 1 ≤ 8 by omega)
        omega
      obtain ⟨c', e', q', w', hns, hmx⟩ := vx_ns (s := 53 + rm) (z := vv_pc (ml ||| mr) 8) (ch := mg_c P t s ml mr) hh.1 (by omega) (fun i hi => by
        obtain ⟨a1, a2⟩ := hky i hi
        unfold mg_c
        by_cases hb : mr / 2 ^ ky_k (ml ||| mr) i 8 % 2 = 1
        · rw [if_pos hb]
          exact vx_chd hh.1 hVs eZs (by omega) (hpx mr _ a1 hb)
        · rw [if_neg hb]
          exact vx_chd hh.1 hVt eZt (by omega) (hpx ml _ a1 (a2 hb)))
      refine xk_merged (V := V) (ml := ml) (mr := mr) (rm := rm) ht6 hs6 x5 hrm eNt eNs hml hmr (by have := (hh.2.1 t hVt).2; omega) (by have := (hh.2.1 s hVs).2; omega) hns (fun u w e => by have := (hh.2.1 u w).2; omega) (fun K' N' Z' D' Im' W' P' hvn => hQ2 _ _ _ _ _ _ _ _ _ _ _ _ _ _ _ _ _ _ _ _ _ _ _ _ _ _ _ _ _ _ _ _ _ _ _ _ _ _ _ (hQ' _ _ _ _ _ _ _ _ _ _ _ _ _ _ _ _ _ _ _ _ _ _ _ _ _ _ _ _ _ _ _ _ _ _ _ _ _ _ _ ?_))
      refine lp_K H (by omega) (rm_makeC (qL := qL) (qR := qR) (qP := qP) hX0 hv ha hM rfl (by omega) (by omega) hc hvn hns (by omega) hmx (Or.inr ⟨rfl, rfl, ml ||| mr, hu8, rfl, rfl⟩) (fun mk0 pd0 mk pd nd yhe yvm yin yfi yde yic ys yk yn yp yf iK iN o0 l0 kS0 d0 pl0 yma ypo yap yas yto yan yco yti yna yac yen o l kS d pl yo yi yw ya y1 y2 yK yW yL yq nm nv no yA lf rt hY Q hQ => ?_))
      obtain ⟨⟨b1, b2, b3, b4, b5, b6, b7, b8, b9, b10, b11⟩, hfl, hen, hhy, hby, hfr, han, hq0, hq1, hz1, hz2, hz3⟩ := hY
      obtain ⟨t1, t2, t3, t4, t5⟩ := hfr p hpn
      obtain ⟨ey, eq⟩ := hq1 (by decide)
      rw [List.length_cons] at ey
      have eyo := t1.symm.trans eP
      rw [hfo] at t5
      obtain ⟨et, hRa⟩ := hz1 rfl
      subst et
      obtain ⟨x, e1, e2⟩ := my_v hh.1 hhy.1 hRa ea hs6 eK hκ
      have hRh := t5.2.2.2.2.2.2.2.1 (by omega) (by omega)
      obtain ⟨xt, h1, h2⟩ := my_v hh.1 hhy.1 hRh eh ht6 eKt hκt
      have a1 := (my_a1 t5 (by omega) (by omega) nAO).1.trans hA
      have c8 := hhy.2.2.2.2.1
      have c7 := hhy.2.2.1
      have hp8 := hhy.1.2.1
      rcases h2 with ⟨w, _⟩ | ⟨_, j, oa, la, j1, j2, j3, j4, j5, j6, j7, j8, j9, j10⟩
      · omega
      rcases e2 with ⟨w, _⟩ | ⟨_, k, ob, lb, m1, m2, m3, m4, m5, m6, m7, m8, m9, m10⟩
      · omega
      have ela : la = vv_pc ml 8 := (nI_eq (by omega) (by omega)).mp (j8.symm.trans eZt)
      have elb : lb = vv_pc mr 8 := (nI_eq (by omega) (by omega)).mp (m8.symm.trans eZs)
      subst ela elb j2 m2
      have hRi : ∀ i, i < vv_pc (ml ||| mr) 8 → vv_R V K N Z D P mk o l kS d pl (mg_c P t s ml mr i) (if mr / 2 ^ ky_k (ml ||| mr) i 8 % 2 = 1 then pl (ob + vv_pc mr (ky_k (ml ||| mr) i 8)) else pl (oa + vv_pc ml (ky_k (ml ||| mr) i 8))) := fun i hi => by
        obtain ⟨a1, a2⟩ := hky i hi
        unfold mg_c
        by_cases hb : mr / 2 ^ ky_k (ml ||| mr) i 8 % 2 = 1
        · rw [if_pos hb, if_pos hb]
          exact m10 _ (hpx mr _ a1 hb)
        · rw [if_neg hb, if_neg hb]
          exact j10 _ (hpx ml _ a1 (a2 hb))
      refine yh_0o' (f := g) (by omega) eyo hq (my_k 32 rfl (by omega) (hfl q hqn) eO) (by omega) (by omega) a1 (by omega) rfl (by omega) (by omega) b4 hc (fun Q hQ' => ?_)
      rw [h1, e1, k5, k5']
      refine yp_obj' (fun Q hQ2 => yk_objects (mk := mk) (pd := pd) (ml := ml) (mr := mr) (e := e') (by omega) (by omega) (j7.symm.trans eNt) (m7.symm.trans eNs) hml hmr j3 m3 (by omega) (by omega) j6 m6 ey b2 (by omega) b1 (by omega) (fun i hi => ?_) (fun pl' g1 g2 => hQ2 _ _ _ _ _ _ _ _ _ _ _ _ _ _ _ _ _ _ _ _ _ _ _ _ _ _ _ _ _ _ _ _ _ _ _ _ _ _ _ _ _ _ _ _ _ (hQ' _ _ _ _ _ _ _ _ _ _ _ _ _ _ _ _ _ _ _ _ _ _ _ _ _ _ _ _ _ _ _ _ _ _ _ _ _ _ _ _ _ _ _ _ _ (hQ pl' lf rt g1 (fun i hi => ?_)))))
      · obtain ⟨n1, n2, n3, n4, n5, n6, _⟩ := hns i hi
        exact yd_of_R hh.1 hhy.1 (hRi i hi) n1 n2 n5 n6
      · rw [g2 i hi]
        exact hRi i hi
  · obtain ⟨⟨b1, b2, b3, b4, b5, b6, b7, b8, b9, b10, b11⟩, hfl, hen, hhy, hby, hfr, han, hq0, hq1, hz1, hz2, hz3⟩ := hY
    obtain ⟨t1, t2, t3, t4, t5⟩ := hfr p hpn
    obtain ⟨ey, eq⟩ := hq1 (by decide)
    rw [List.length_cons] at ey
    have eyo := t1.symm.trans eP
    rw [hfo] at t5
    obtain ⟨et, hRa⟩ := hz1 rfl
    subst et
    obtain ⟨x, e1, e2⟩ := my_v hh.1 hhy.1 hRa ea hs6 eK hκ
    have a1 := (my_a1 t5 (by omega) (by omega) nAO).1.trans hA
    exact yh_0t (f := g) (c := 0) (by omega) eyo hq (my_k 32 rfl (by omega) (hfl q hqn) eO) (by omega) (by omega) a1 (by omega) rfl (by omega) (by omega) (b4.trans (by rw [hc])) hQ
