/-! ===== leaves ===== -/
theorem ys_leaf' {yma ypo yhe yvm : Int32} {yin : Int64} {yfi yde yap yas yto : Int32} {yan : Int64} {yco yti yna yac yen yic : Int32} {o l kS d : Nat → Int32} {pl ys : Nat → Int64} {yk yn yp yf yo : Nat → Int32} {yi : Nat → Int64} {yw ya y1 y2 : Nat → Int32} {yK : Nat → Int64} {yW : Nat → Int32} {yL : Nat → Int64} {yq nm : Nat → Int32} {nv : Nat → Int64} {no : Nat → Int32} {yA lf rt : Nat → Int64} {iK iN : Nat → Int32} {post : SY → Prop} {g q kk : Nat} (hg : g < 600) (eo : yo g = nI q) (hq : q < 40) (ek : yk q = nI kk) (hk : kk < 16) (n7 : kk ≠ 7) (n15 : kk ≠ 15) (n8 : kk ≠ 8) (e0 : ya g = 0)
    (hA : ∀ Q : SY → Prop, (∀ (yma' ypo' yhe' yvm' : Int32) (yin' : Int64) (yfi' yde' yap' yas' yto' : Int32) (yan' : Int64) (yco' yti' yna' yac' yen' yic' : Int32) (o' l' kS' d' : Nat → Int32) (pl' ys' : Nat → Int64) (yk' yn' yp' yf' yo' : Nat → Int32) (yi' : Nat → Int64) (yw' ya' y1' y2' : Nat → Int32) (yK' : Nat → Int64) (yW' : Nat → Int32) (yL' : Nat → Int64) (yq' nm' : Nat → Int32) (nv' : Nat → Int64) (no' : Nat → Int32) (yA' lf' rt' : Nat → Int64) (iK' iN' : Nat → Int32), post (yma', ypo', yhe', yvm', yin', yfi', yde', yap', yas', yto', yan', yco', yti', yna', yac', yen', yic', o', l', kS', d', pl', ys', yk', yn', yp', yf', yo', yi', yw', ya', y1', y2', yK', yW', yL', yq', nm', nv', no', yA', lf', rt', iK', iN') → Q (yma', ypo', yhe', yvm', yin', yfi', yde', yap', yas', yto', yan', yco', yti', yna', yac', yen', yic', o', l', kS', d', pl', ys', yk', yn', yp', yf', yo', yi', yw', ya', y1', y2', yK', yW', yL', yq', nm', nv', no', yA', lf', rt', iK', iN')) → wpY_tellLeaf Q (yma, ypo, yhe, yvm, yin, yfi, yde, yap, yas, yto, yan, yco, yti, yna, yac, yen, yic, o, l, kS, d, pl, ys, yk, yn, yp, yf, yo, yi, yw, (upd ya g 1), y1, y2, yK, yW, yL, yq, nm, nv, no, yA, lf, rt, iK, iN) (nI g) (nI kk) (yn q)) : wpY_start post (yma, ypo, yhe, yvm, yin, yfi, yde, yap, yas, yto, yan, yco, yti, yna, yac, yen, yic, o, l, kS, d, pl, ys, yk, yn, yp, yf, yo, yi, yw, ya, y1, y2, yK, yW, yL, yq, nm, nv, no, yA, lf, rt, iK, iN) (nI g) := by
  have eg' : (nI g).toNatClampNeg = g := nI_clamp (by omega)
  have hin : vp_in (nI g) 601 := vp_in_nI (by omega) (by omega)
  have hiq : vp_in (nI q) 40 := vp_in_nI hq (by omega)
  refine ys_pre hg eo hq ek (by omega) (fun _ => ?_) (fun e => absurd e (by omega)) (fun w => absurd w (by omega))
  unfold wpY_startLeaf
  dsimp only
  rw [eg', eo, nI_clamp (show q < 2 ^ 31 by omega), ek, e0]
  refine ⟨hin, hiq, nm_e (br_f (fun z => n7 ((nI_eq (b := 7) (by omega) (by omega)).mp z)) (br_f (fun z => n15 ((nI_eq (b := 15) (by omega) (by omega)).mp z)) (br_f (fun z => n8 ((nI_eq (b := 8) (by omega) (by omega)).mp z)) ⟨hin, br_f (by decide) ⟨hin, nm_e ⟨hin, hiq, hA _ ?_⟩⟩⟩)))⟩
  intros
  assumption
theorem xl_11 {xst xow xin xpa xfi xfr xno xsi xan xkn xen xco xrm xac : Int32} {K N Z D Im W P vS pO pX pI fS fP fI fU fR fO fA fH fG fN aS qL qR qP : Nat → Int32} {post : SX → Prop} {g q s : Nat} (eg : xno = nI g) (hg : g < 600) (eP : fP g = nI q) (hq : q < 40) (eO : pO q = nI 11) (eI : fI g = nI s) (hs : s < 653) (hA : ∀ Q : SX → Prop, (∀ (xst' xow' xin' xpa' xfi' xfr' xno' xsi' xan' xkn' xen' xco' xrm' xac' : Int32) (K' N' Z' D' Im' W' P' vS' pO' pX' pI' fS' fP' fI' fU' fR' fO' fA' fH' fG' fN' aS' qL' qR' qP' : Nat → Int32), post (xst', xow', xin', xpa', xfi', xfr', xno', xsi', xan', xkn', xen', xco', xrm', xac', K', N', Z', D', Im', W', P', vS', pO', pX', pI', fS', fP', fI', fU', fR', fO', fA', fH', fG', fN', aS', qL', qR', qP') → Q (xst', xow', xin', xpa', xfi', xfr', xno', xsi', xan', xkn', xen', xco', xrm', xac', K', N', Z', D', Im', W', P', vS', pO', pX', pI', fS', fP', fI', fU', fR', fO', fA', fH', fG', fN', aS', qL', qR', qP')) → wpX_giveKeys Q (xst, xow, xin, xpa, xfi, xfr, xno, xsi, xan, xkn, xen, xco, xrm, xac, K, N, Z, D, Im, W, P, vS, pO, pX, pI, fS, fP, fI, fU, fR, fO, fA, fH, fG, fN, aS, qL, qR, qP) (nI s)) : wpX_answerLeaf post (xst, xow, xin, xpa, xfi, xfr, xno, xsi, xan, xkn, xen, xco, xrm, xac, K, N, Z, D, Im, W, P, vS, pO, pX, pI, fS, fP, fI, fU, fR, fO, fA, fH, fG, fN, aS, qL, qR, qP) := by
  have eg' : xno.toNatClampNeg = g := by rw [eg, nI_clamp (by omega)]
  have hin : vp_in xno 600 := by rw [eg]; exact vp_in_nI hg (by omega)
  have hiq : vp_in (nI q) 40 := vp_in_nI hq (by omega)
  unfold wpX_answerLeaf
  dsimp only
  rw [eg', eP, nI_clamp (show q < 2 ^ 31 by omega), eO, eI]
  refine ⟨hin, hiq, nm_e ⟨hin, nm_e ⟨hin, hiq, nm_e (br_f (by decide) (br_f (by decide) (br_f (by decide) (br_f (by decide) (br_f (by decide) (br_f (by decide) (br_f (by decide) (br_f (by decide) (br_f (by decide) (br_f (by decide) (br_f (by decide) (br_f (by decide) (br_f (by decide) (br_t rfl (hA _ ?_)))))))))))))))⟩⟩⟩
  intros
  assumption
/-- X: a leaf that hasn't given is asked -/
theorem cq_leafgo {xst xow xin xpa xfi xfr xno xsi xan xkn xen xco xrm xac : Int32} {K N Z D Im W P vS pO pX pI fS fP fI fU fR fO fA fH fG fN aS qL qR qP : Nat → Int32} {post : SX → Prop} {st g q oq : Nat} (hst : st < 999980) (en : xen = -1) (es : xsi = 0) (eg : xno = nI g) (hg : g < 600) (eP : fP g = nI q) (hq : q < 40) (eO : pO q = nI oq) (ho : oq < 16) (n7 : oq ≠ 7) (n15 : oq ≠ 15) (eG : fG g = 0)
    (h : wpX_answerLeaf (rn_K post (st + 1)) (xst, xow, xin, xpa, xfi, xfr, xno, 4, xan, xkn, xen, xco, xrm, xac, K, N, Z, D, Im, W, P, vS, pO, pX, pI, fS, fP, fI, fU, fR, fO, fA, fH, (upd fG g 1), fN, aS, qL, qR, qP)) : wX_workOut_68 post (1000001 - st) (nI st) xst xow xin xpa xfi xfr xno xsi xan xkn xen xco xrm xac K N Z D Im W P vS pO pX pI fS fP fI fU fR fO fA fH fG fN aS qL qR qP := by
  refine xs_ask (by omega) en es (xa_go (x := 0) (gv := 0) eg hg eP hq eO (by omega) n7 n15 eG (by omega) (fun w => absurd w (by omega)) (fun _ => rfl) (fun _ => ?_) (fun w => absurd w (by omega)) (fun w => absurd w (by omega)))
  exact rn_K_i (xs_leaf (by omega) en rfl h)
theorem fr_S_leaf {R : Int32 → Int64 → Prop} {E : Int32 → Nat → Prop} {Dp : Int32 → Nat → Nat → Prop} {oq st : Nat} {x fi gi ac ou he ya y1 y2 yW : Int32} {yK yL : Int64} (h1 : oq < 16) (n7 : oq ≠ 7) (n15 : oq ≠ 15) (e1 : ac = -1) (e2 : ou = -1) (e3 : gi = 1) (e4 : oq ≠ 8 → ya = 1) : fr_S R E Dp oq x st fi gi ac ou he ya y1 y2 yW yK yL :=
  ⟨fun _ => ⟨e1, e2, Or.inr (Or.inl e3), fun _ w _ => e3.trans (e4 w).symm⟩, fun w => absurd w n7, fun w => absurd w n15, fun w => absurd w (by omega), fun w => absurd w (by omega), fun w => absurd w (by omega), fun w => absurd w (by omega), fun w => absurd w (by omega), fun w => absurd w (by omega), fun w => absurd w (by omega)⟩
/-- a leaf that makes no value, asked first -/
theorem rm_leaf2 {T : List Nat → Option vv_L} {nf bo np : Nat} {K0 N0 Z0 D0 I0 W0 P0 : Nat → Int32} {xst xow xin xpa xfi xfr xno xsi xan xkn xen xco xrm xac : Int32} {K N Z D Im W P vS pO pX pI fS fP fI fU fR fO fA fH fG fN aS qL qR qP : Nat → Int32} {st : Nat} {V al : Nat → Prop} {g : Nat} {pa : List Nat} {n c rm a : Nat}
    (hX : md_X V al g pa bo np n c rm a st xfr xno xsi xen xco xrm xac K N Z D Im W P K0 N0 Z0 D0 I0 W0 P0 pO pX fP fU fR fO fA fH fG) (hv : mv_X V n xsi xan pO fP fI fH fN) (ha : ma_X V a aS)
    (hM : ∀ (mk0 pd0 : Nat) (v0 : SY), kn_F T np nf pO pX pI fS mk0 pd0 v0 → rm_M V pa g np n c rm a st xsi xan K N Z D W P pO pX pI fP fI fO fA fH fG fN aS mk0 pd0 v0) (es : xsi = 0) {oq : Nat} (hfo : fr_o pO fP g = oq) (ho : oq < 16) (n7 : oq ≠ 7) (n15 : oq ≠ 15) (n8 : oq ≠ 8) (eG : fG g = 0) {s' xan' : Int32} (hs' : s' = 1 ∨ s' = 2 ∨ s' = 3) (hxv : s' = 1 → ∃ s, xan' = nI s ∧ V s)
    (hYw : ∀ (mk0 pd0 mk pd nd : Nat) (yhe yvm : Int32) (yin : Int64) (yfi yde yic : Int32) (ys : Nat → Int64) (yk yn yp yf iK iN : Nat → Int32) (o0 l0 kS0 d0 : Nat → Int32) (pl0 : Nat → Int64) (yma ypo yap yas yto : Int32) (yan : Int64) (yco yti yna yac yen : Int32) (o l kS d : Nat → Int32) (pl : Nat → Int64) (yo : Nat → Int32) (yi : Nat → Int64) (yw ya y1 y2 : Nat → Int32) (yK : Nat → Int64) (yW : Nat → Int32) (yL : Nat → Int64) (yq nm : Nat → Int32) (nv : Nat → Int64) (no : Nat → Int32) (yA lf rt : Nat → Int64), md_Y V pa g np n c rm a st mk pd nd mk0 pd0 xsi xan K N Z D W P pO pX pI fP fI fO fA fH fG fN aS yma ypo yap yas yto yan yco yti yna yac yen o l kS d pl yk yn yp yo yi yw ya y1 y2 yK yW yL yq nm nv no yA o0 l0 kS0 d0 pl0 → ya g = 0 → ∀ Q : SY → Prop, (∀ (w : Int64), (s' = 1 → vv_R V K N Z D P mk o l kS d pl xan' w) → Q (yma, ypo, yhe, yvm, yin, yfi, yde, yap, (nI pa.length), (s' - 1), w, yco, yti, yna, yac, yen, yic, o, l, kS, d, pl, ys, yk, yn, yp, yf, yo, yi, yw, (upd ya g 1), y1, y2, yK, yW, yL, yq, nm, nv, no, yA, lf, rt, iK, iN)) → wpY_start Q (yma, ypo, yhe, yvm, yin, yfi, yde, yap, yas, yto, yan, yco, yti, yna, yac, yen, yic, o, l, kS, d, pl, ys, yk, yn, yp, yf, yo, yi, yw, ya, y1, y2, yK, yW, yL, yq, nm, nv, no, yA, lf, rt, iK, iN) (nI g)) :
    rm_I T nf bo np K0 N0 Z0 D0 I0 W0 P0 (st + 2) (xst, xow, xin, xpa, xfi, xfr, xno, s', xan', xkn, xen, xco, xrm, xac, K, N, Z, D, Im, W, P, vS, pO, pX, pI, fS, fP, fI, fU, fR, fO, fA, fH, (upd fG g 1), fN, aS, qL, qR, qP) := by
  obtain ⟨hg, _⟩ := mx_f hX
  have hX0 := hX
  obtain ⟨⟨x1, x2, x3, x4, x5, x6, x7, x8, x9, x10⟩, hs, hh, hb, hf, hr, hG, hpot⟩ := hX
  obtain ⟨hA, hO1⟩ := fr_leaf (hf.2.1 g hg) (by omega)
  subst x4
  refine rm_leaf1 (k := 2) (gv := 1) (c' := c) hX0 hv ha hM es (by omega) (by omega) hs' (by omega) hA (by omega) (fun w => absurd w (by decide)) (Or.inl rfl) x9 (fun _ => Or.inl ⟨eG, by decide, hO1⟩) hxv (fun mk0 pd0 mk pd nd yhe yvm yin yfi yde yic ys yk yn yp yf iK iN o0 l0 kS0 d0 pl0 yma ypo yap yas yto yan yco yti yna yac yen o l kS d pl yo yi yw ya y1 y2 yK yW yL yq nm nv no yA lf rt hY Q hQ => ?_)
  have hY0 := hY
  obtain ⟨⟨b1, b2, b3, b4, b5, b6, b7, b8, b9, b10, b11⟩, hfl, hen, hhy, hby, hfr, han, hq0, hq1, hz1, hz2, hz3⟩ := hY
  subst b4
  obtain ⟨t1, t2, t3, t4, t5⟩ := hfr g hg
  have e0 : ya g = 0 := by
    obtain ⟨_, _, _, w⟩ := t5.1 (by omega)
    rw [← w (by omega) (by omega) (by omega)]
    exact eG
  refine hYw mk0 pd0 mk pd nd yhe yvm yin yfi yde yic ys yk yn yp yf iK iN o0 l0 kS0 d0 pl0 yma ypo yap yas yto yan (nI c) yti yna yac yen o l kS d pl yo yi yw ya y1 y2 yK yW yL yq nm nv no yA lf rt hY0 e0 Q (fun w hw => hQ (upd ya g 1) yW w hw (fun f hf => ⟨pk_un hf, rfl⟩) ?_)
  rw [hfo]
  exact fr_S_leaf ho n7 n15 hA hO1 rfl (fun _ => pk_us)
/-- a number more, in X -/
theorem gr_num {V : Nat → Prop} {bo rm : Nat} {K N Z D Im W P K0 N0 Z0 D0 I0 W0 P0 : Nat → Int32} (hh : md_hx V bo rm K N Z D Im W P K0 N0 Z0 D0 I0 W0 P0) (hrm : rm < 600) (y : Int32) : gr_X V (fun t => V t ∨ t = 53 + rm) (53 + rm) K N Z D Im W P (upd K (53 + rm) 3) (upd N (53 + rm) y) (upd Z (53 + rm) 0) (upd D (53 + rm) 0) (upd Im (53 + rm) 1) (upd W (53 + rm) 1) P := by
  have hne : ∀ s, V s → s ≠ 53 + rm := fun s w e => by have := (hh.2.1 s w).2; omega
  exact ⟨fun w => hne _ w rfl, by omega, fun _ w => Or.inl w, fun _ w => w, vv_ox_p hh.1 (by omega) hne y, fun t ht => ⟨pk_un ht, pk_un ht, pk_un ht, pk_un ht, pk_un ht, pk_un ht, fun _ _ => rfl⟩⟩
theorem rm_lt {V al : Nat → Prop} {g : Nat} {pa : List Nat} {bo np n c rm a st : Nat} {xfr xno xsi xen xco xrm xac : Int32} {K N Z D Im W P K0 N0 Z0 D0 I0 W0 P0 pO pX fP fU fR fO fA fH fG : Nat → Int32}
    (h : md_X V al g pa bo np n c rm a st xfr xno xsi xen xco xrm xac K N Z D Im W P K0 N0 Z0 D0 I0 W0 P0 pO pX fP fU fR fO fA fH fG) (eG : fG g = 0) (hA : fA g = -1) : rm < 600 := by
  obtain ⟨hg, _⟩ := mx_f h
  obtain ⟨⟨x1, x2, x3, x4, x5, x6, x7, x8, x9, x10⟩, hs, hh, hb, hf, hr, hG, hpot⟩ := h
  have h3 : md_w2 fA fG g = 1 := by
    unfold md_w2
    rw [if_pos ⟨eG, hA⟩]
  have := vv_sm_up (f := md_w2 fA fG) hg
  omega
/-- a leaf that makes a number, asked first -/
theorem rm_leafN {T : List Nat → Option vv_L} {nf bo np : Nat} {K0 N0 Z0 D0 I0 W0 P0 : Nat → Int32} {xst xow xin xpa xfi xfr xno xsi xan xkn xen xco xrm xac : Int32} {K N Z D Im W P vS pO pX pI fS fP fI fU fR fO fA fH fG fN aS qL qR qP : Nat → Int32} {st : Nat} {V al : Nat → Prop} {g : Nat} {pa : List Nat} {n c rm a : Nat}
    (hX : md_X V al g pa bo np n c rm a st xfr xno xsi xen xco xrm xac K N Z D Im W P K0 N0 Z0 D0 I0 W0 P0 pO pX fP fU fR fO fA fH fG) (hv : mv_X V n xsi xan pO fP fI fH fN) (ha : ma_X V a aS)
    (hM : ∀ (mk0 pd0 : Nat) (v0 : SY), kn_F T np nf pO pX pI fS mk0 pd0 v0 → rm_M V pa g np n c rm a st xsi xan K N Z D W P pO pX pI fP fI fO fA fH fG fN aS mk0 pd0 v0) (es : xsi = 0) {oq : Nat} {y : Int32} (hfo : fr_o pO fP g = oq) (ho : oq < 16) (n7 : oq ≠ 7) (n15 : oq ≠ 15) (n8 : oq ≠ 8) (eG : fG g = 0)
    (hYw : ∀ (mk0 pd0 mk pd nd : Nat) (yhe yvm : Int32) (yin : Int64) (yfi yde yic : Int32) (ys : Nat → Int64) (yk yn yp yf iK iN : Nat → Int32) (o0 l0 kS0 d0 : Nat → Int32) (pl0 : Nat → Int64) (yma ypo yap yas yto : Int32) (yan : Int64) (yco yti yna yac yen : Int32) (o l kS d : Nat → Int32) (pl : Nat → Int64) (yo : Nat → Int32) (yi : Nat → Int64) (yw ya y1 y2 : Nat → Int32) (yK : Nat → Int64) (yW : Nat → Int32) (yL : Nat → Int64) (yq nm : Nat → Int32) (nv : Nat → Int64) (no : Nat → Int32) (yA lf rt : Nat → Int64), md_Y V pa g np n c rm a st mk pd nd mk0 pd0 xsi xan K N Z D W P pO pX pI fP fI fO fA fH fG fN aS yma ypo yap yas yto yan yco yti yna yac yen o l kS d pl yk yn yp yo yi yw ya y1 y2 yK yW yL yq nm nv no yA o0 l0 kS0 d0 pl0 → ya g = 0 → ∀ Q : SY → Prop, Q (yma, ypo, yhe, yvm, yin, yfi, yde, yap, (nI pa.length), 0, (yy_t 3 y), yco, yti, yna, yac, yen, yic, o, l, kS, d, pl, ys, yk, yn, yp, yf, yo, yi, yw, (upd ya g 1), y1, y2, yK, yW, yL, yq, nm, nv, no, yA, lf, rt, iK, iN) → wpY_start Q (yma, ypo, yhe, yvm, yin, yfi, yde, yap, yas, yto, yan, yco, yti, yna, yac, yen, yic, o, l, kS, d, pl, ys, yk, yn, yp, yf, yo, yi, yw, ya, y1, y2, yK, yW, yL, yq, nm, nv, no, yA, lf, rt, iK, iN) (nI g)) :
    rm_I T nf bo np K0 N0 Z0 D0 I0 W0 P0 (st + 2) (xst, xow, xin, xpa, xfi, xfr, xno, 1, (nI (53 + rm)), xkn, xen, xco, (nI (rm + 1)), xac, (upd K (53 + rm) 3), (upd N (53 + rm) y), (upd Z (53 + rm) 0), (upd D (53 + rm) 0), (upd Im (53 + rm) 1), (upd W (53 + rm) 1), P, vS, pO, pX, pI, fS, fP, fI, fU, fR, fO, fA, fH, (upd fG g 1), fN, aS, qL, qR, qP) := by
  obtain ⟨hg, _⟩ := mx_f hX
  have hX0 := hX
  obtain ⟨⟨x1, x2, x3, x4, x5, x6, x7, x8, x9, x10⟩, hs, hh, hb, hf, hr, hG, hpot⟩ := hX
  obtain ⟨hA, hO1⟩ := fr_leaf (hf.2.1 g hg) (by omega)
  have hrm := rm_lt hX0 eG hA
  subst x4
  refine rm_leaf (k := 2) (gv := 1) (c' := c) (rm' := rm + 1) (sl := 53 + rm) (s' := 1) hX0 hv ha hM es (by omega) (by omega) (Or.inl rfl) (by omega) hA (by omega) (fun w => absurd w (by decide)) (Or.inl rfl) x9 (fun _ => Or.inl ⟨eG, by decide, hO1⟩) (Or.inr ⟨rfl, eG, by decide⟩) (gr_num hh hrm y) (fun _ => by omega) (Nat.le_refl _) (by omega) (fun _ => ⟨53 + rm, rfl, Or.inr rfl⟩) (fun mk0 pd0 mk pd nd yhe yvm yin yfi yde yic ys yk yn yp yf iK iN o0 l0 kS0 d0 pl0 yma ypo yap yas yto yan yco yti yna yac yen o l kS d pl yo yi yw ya y1 y2 yK yW yL yq nm nv no yA lf rt hY Q hQ => ?_)
  have hY0 := hY
  obtain ⟨⟨b1, b2, b3, b4, b5, b6, b7, b8, b9, b10, b11⟩, hfl, hen, hhy, hby, hfr, han, hq0, hq1, hz1, hz2, hz3⟩ := hY
  subst b1 b2 b4
  obtain ⟨t1, t2, t3, t4, t5⟩ := hfr g hg
  have e0 : ya g = 0 := by
    obtain ⟨_, _, _, w⟩ := t5.1 (by omega)
    rw [← w (by omega) (by omega) (by omega)]
    exact eG
  refine hYw mk0 pd0 mk pd nd yhe yvm yin yfi yde yic ys yk yn yp yf iK iN o0 l0 kS0 d0 pl0 (nI mk) (nI pd) yap yas yto yan (nI c) yti yna yac yen o l kS d pl yo yi yw ya y1 y2 yK yW yL yq nm nv no yA lf rt hY0 e0 Q ?_
  refine hQ mk pd o l kS d pl (upd ya g 1) yW (yy_t 3 y) (gr_Yid hhy.1) (by omega) (by have := hhy.2.2.2.2.1; omega) (fun j x h1 h2 => absurd h2 (by omega)) (fun _ => ?_) (fun f hf => ⟨pk_un hf, rfl⟩) ?_
  · exact vv_R_plain (by omega) (Or.inr rfl) (by omega) (by rw [pk_us]; rfl) (by rw [pk_us]) (by rw [pk_us]) (by rw [pk_us])
  · rw [hfo]
    exact fr_S_leaf ho n7 n15 hA hO1 rfl (fun _ => pk_us)
theorem cq_l0 {post : SX → Prop} {T : List Nat → Option vv_L} {nf bo np : Nat} {K0 N0 Z0 D0 I0 W0 P0 : Nat → Int32} {xst xow xin xpa xfi xfr xno xsi xan xkn xen xco xrm xac : Int32} {K N Z D Im W P vS pO pX pI fS fP fI fU fR fO fA fH fG fN aS qL qR qP : Nat → Int32} {st : Nat} {V al : Nat → Prop} {g : Nat} {pa : List Nat} {n c rm a : Nat}
    (hX : md_X V al g pa bo np n c rm a st xfr xno xsi xen xco xrm xac K N Z D Im W P K0 N0 Z0 D0 I0 W0 P0 pO pX fP fU fR fO fA fH fG) (hv : mv_X V n xsi xan pO fP fI fH fN) (ha : ma_X V a aS)
    (hM : ∀ (mk0 pd0 : Nat) (v0 : SY), kn_F T np nf pO pX pI fS mk0 pd0 v0 → rm_M V pa g np n c rm a st xsi xan K N Z D W P pO pX pI fP fI fO fA fH fG fN aS mk0 pd0 v0)
    (H : lp_G T nf bo np K0 N0 Z0 D0 I0 W0 P0 post xst xow xin xpa xfi xkn vS pO pX pI fS st) {q : Nat} (eP : fP g = nI q) (hqn : q < np) (hq : q < 40) (eO : pO q = nI 0) (es : xsi = 0) (eG : fG g = 0) : wX_workOut_68 post (1000001 - st) (nI st) xst xow xin xpa xfi xfr xno xsi xan xkn xen xco xrm xac K N Z D Im W P vS pO pX pI fS fP fI fU fR fO fA fH fG fN aS qL qR qP := by
  subst es
  obtain ⟨hg, hn6, hst, hlen, _⟩ := mx_f hX
  have hX0 := hX
  obtain ⟨⟨x1, x2, x3, x4, x5, x6, x7, x8, x9, x10⟩, hs, hh, hb, hf, hr, hG, hpot⟩ := hX
  have hfo := mx_fo eP hq eO (by omega)
  obtain ⟨s, eI, hVs⟩ := (hv.2 g hg).1
  obtain ⟨hs6, κ, hκ, eK⟩ := vx_k hh.1 hVs
  refine cq_leafgo hst x3 rfl x2 (by omega) eP hq eO (by omega) (by omega) (by omega) eG ?_
  refine xl_0 x2 (by omega) eP hq eO eI hs6 (lp_K H (by omega) (rm_leaf2 hX0 hv ha hM rfl hfo (by omega) (by omega) (by omega) (by omega) eG (Or.inl rfl) (fun _ => ⟨s, rfl, hVs⟩) (fun mk0 pd0 mk pd nd yhe yvm yin yfi yde yic ys yk yn yp yf iK iN o0 l0 kS0 d0 pl0 yma ypo yap yas yto yan yco yti yna yac yen o l kS d pl yo yi yw ya y1 y2 yK yW yL yq nm nv no yA lf rt hY e0 Q hQ => ?_)))
  obtain ⟨⟨b1, b2, b3, b4, b5, b6, b7, b8, b9, b10, b11⟩, hfl, hen, hhy, hby, hfr, han, hq0, hq1, hz1, hz2, hz3⟩ := hY
  obtain ⟨t1, t2, t3, t4, t5⟩ := hfr g hg
  obtain ⟨ey, eq⟩ := hq0 rfl
  have eyo := t1.symm.trans eP
  rw [hfo] at t5
  obtain ⟨x, e1, e2⟩ := my_v hh.1 hhy.1 t2 eI hs6 eK hκ
  rw [e11] at hQ
  exact ys_leaf' (by omega) eyo hq (my_k 0 rfl (by omega) (hfl q hqn) eO) (by omega) (by omega) (by omega) (by omega) e0 (fun Q hQ' => yl_0 (by omega) e1 hκ ey (hQ' _ _ _ _ _ _ _ _ _ _ _ _ _ _ _ _ _ _ _ _ _ _ _ _ _ _ _ _ _ _ _ _ _ _ _ _ _ _ _ _ _ _ _ _ _ (hQ _ (fun _ => by rw [← e1, ← eI]; exact t2))))
theorem cq_l1 {post : SX → Prop} {T : List Nat → Option vv_L} {nf bo np : Nat} {K0 N0 Z0 D0 I0 W0 P0 : Nat → Int32} {xst xow xin xpa xfi xfr xno xsi xan xkn xen xco xrm xac : Int32} {K N Z D Im W P vS pO pX pI fS fP fI fU fR fO fA fH fG fN aS qL qR qP : Nat → Int32} {st : Nat} {V al : Nat → Prop} {g : Nat} {pa : List Nat} {n c rm a : Nat}
    (hX : md_X V al g pa bo np n c rm a st xfr xno xsi xen xco xrm xac K N Z D Im W P K0 N0 Z0 D0 I0 W0 P0 pO pX fP fU fR fO fA fH fG) (hv : mv_X V n xsi xan pO fP fI fH fN) (ha : ma_X V a aS)
    (hM : ∀ (mk0 pd0 : Nat) (v0 : SY), kn_F T np nf pO pX pI fS mk0 pd0 v0 → rm_M V pa g np n c rm a st xsi xan K N Z D W P pO pX pI fP fI fO fA fH fG fN aS mk0 pd0 v0)
    (H : lp_G T nf bo np K0 N0 Z0 D0 I0 W0 P0 post xst xow xin xpa xfi xkn vS pO pX pI fS st) {q : Nat} (eP : fP g = nI q) (hqn : q < np) (hq : q < 40) (eO : pO q = nI 1) (es : xsi = 0) (eG : fG g = 0) : wX_workOut_68 post (1000001 - st) (nI st) xst xow xin xpa xfi xfr xno xsi xan xkn xen xco xrm xac K N Z D Im W P vS pO pX pI fS fP fI fU fR fO fA fH fG fN aS qL qR qP := by
  subst es
  obtain ⟨hg, hn6, hst, hlen, _⟩ := mx_f hX
  have hX0 := hX
  obtain ⟨⟨x1, x2, x3, x4, x5, x6, x7, x8, x9, x10⟩, hs, hh, hb, hf, hr, hG, hpot⟩ := hX
  have hfo := mx_fo eP hq eO (by omega)
  obtain ⟨s, eI, hVs⟩ := (hv.2 g hg).1
  obtain ⟨hs6, κ, hκ, eK⟩ := vx_k hh.1 hVs
  refine cq_leafgo hst x3 rfl x2 (by omega) eP hq eO (by omega) (by omega) (by omega) eG ?_
  refine xl_1 x2 (by omega) eP hq eO eI hs6 (lp_K H (by omega) (rm_leaf2 hX0 hv ha hM rfl hfo (by omega) (by omega) (by omega) (by omega) eG (Or.inl rfl) (fun _ => ⟨0, rfl, (hh.2.2.2.1.1 0 (by omega)).1⟩) (fun mk0 pd0 mk pd nd yhe yvm yin yfi yde yic ys yk yn yp yf iK iN o0 l0 kS0 d0 pl0 yma ypo yap yas yto yan yco yti yna yac yen o l kS d pl yo yi yw ya y1 y2 yK yW yL yq nm nv no yA lf rt hY e0 Q hQ => ?_)))
  obtain ⟨⟨b1, b2, b3, b4, b5, b6, b7, b8, b9, b10, b11⟩, hfl, hen, hhy, hby, hfr, han, hq0, hq1, hz1, hz2, hz3⟩ := hY
  obtain ⟨t1, t2, t3, t4, t5⟩ := hfr g hg
  obtain ⟨ey, eq⟩ := hq0 rfl
  have eyo := t1.symm.trans eP
  rw [hfo] at t5
  obtain ⟨x, e1, e2⟩ := my_v hh.1 hhy.1 t2 eI hs6 eK hκ
  rw [e11] at hQ
  exact ys_leaf' (by omega) eyo hq (my_k 1 rfl (by omega) (hfl q hqn) eO) (by omega) (by omega) (by omega) (by omega) e0 (fun Q hQ' => yl_1 (by omega) e1 hκ ey (hQ' _ _ _ _ _ _ _ _ _ _ _ _ _ _ _ _ _ _ _ _ _ _ _ _ _ _ _ _ _ _ _ _ _ _ _ _ _ _ _ _ _ _ _ _ _ (hQ _ (fun _ => rl_R0 hh.1 hh.2.2.2.1 (by omega)))))
theorem cq_l2 {post : SX → Prop} {T : List Nat → Option vv_L} {nf bo np : Nat} {K0 N0 Z0 D0 I0 W0 P0 : Nat → Int32} {xst xow xin xpa xfi xfr xno xsi xan xkn xen xco xrm xac : Int32} {K N Z D Im W P vS pO pX pI fS fP fI fU fR fO fA fH fG fN aS qL qR qP : Nat → Int32} {st : Nat} {V al : Nat → Prop} {g : Nat} {pa : List Nat} {n c rm a : Nat}
    (hX : md_X V al g pa bo np n c rm a st xfr xno xsi xen xco xrm xac K N Z D Im W P K0 N0 Z0 D0 I0 W0 P0 pO pX fP fU fR fO fA fH fG) (hv : mv_X V n xsi xan pO fP fI fH fN) (ha : ma_X V a aS)
    (hM : ∀ (mk0 pd0 : Nat) (v0 : SY), kn_F T np nf pO pX pI fS mk0 pd0 v0 → rm_M V pa g np n c rm a st xsi xan K N Z D W P pO pX pI fP fI fO fA fH fG fN aS mk0 pd0 v0)
    (H : lp_G T nf bo np K0 N0 Z0 D0 I0 W0 P0 post xst xow xin xpa xfi xkn vS pO pX pI fS st) {q : Nat} (eP : fP g = nI q) (hqn : q < np) (hq : q < 40) (eO : pO q = nI 2) (es : xsi = 0) (eG : fG g = 0) : wX_workOut_68 post (1000001 - st) (nI st) xst xow xin xpa xfi xfr xno xsi xan xkn xen xco xrm xac K N Z D Im W P vS pO pX pI fS fP fI fU fR fO fA fH fG fN aS qL qR qP := by
  subst es
  obtain ⟨hg, hn6, hst, hlen, _⟩ := mx_f hX
  have hX0 := hX
  obtain ⟨⟨x1, x2, x3, x4, x5, x6, x7, x8, x9, x10⟩, hs, hh, hb, hf, hr, hG, hpot⟩ := hX
  have hfo := mx_fo eP hq eO (by omega)
  obtain ⟨s, eI, hVs⟩ := (hv.2 g hg).1
  obtain ⟨hs6, κ, hκ, eK⟩ := vx_k hh.1 hVs
  refine cq_leafgo hst x3 rfl x2 (by omega) eP hq eO (by omega) (by omega) (by omega) eG ?_
  refine xl_2 x2 (by omega) eP hq eO eI hs6 (lp_K H (by omega) (rm_leaf2 hX0 hv ha hM rfl hfo (by omega) (by omega) (by omega) (by omega) eG (Or.inl rfl) (fun _ => ⟨1, rfl, (hh.2.2.2.1.1 1 (by omega)).1⟩) (fun mk0 pd0 mk pd nd yhe yvm yin yfi yde yic ys yk yn yp yf iK iN o0 l0 kS0 d0 pl0 yma ypo yap yas yto yan yco yti yna yac yen o l kS d pl yo yi yw ya y1 y2 yK yW yL yq nm nv no yA lf rt hY e0 Q hQ => ?_)))
  obtain ⟨⟨b1, b2, b3, b4, b5, b6, b7, b8, b9, b10, b11⟩, hfl, hen, hhy, hby, hfr, han, hq0, hq1, hz1, hz2, hz3⟩ := hY
  obtain ⟨t1, t2, t3, t4, t5⟩ := hfr g hg
  obtain ⟨ey, eq⟩ := hq0 rfl
  have eyo := t1.symm.trans eP
  rw [hfo] at t5
  obtain ⟨x, e1, e2⟩ := my_v hh.1 hhy.1 t2 eI hs6 eK hκ
  rw [e11] at hQ
  exact ys_leaf' (by omega) eyo hq (my_k 2 rfl (by omega) (hfl q hqn) eO) (by omega) (by omega) (by omega) (by omega) e0 (fun Q hQ' => yl_2 (by omega) e1 hκ ey (hQ' _ _ _ _ _ _ _ _ _ _ _ _ _ _ _ _ _ _ _ _ _ _ _ _ _ _ _ _ _ _ _ _ _ _ _ _ _ _ _ _ _ _ _ _ _ (hQ _ (fun _ => rl_R0 hh.1 hh.2.2.2.1 (by omega)))))
theorem cq_l3 {post : SX → Prop} {T : List Nat → Option vv_L} {nf bo np : Nat} {K0 N0 Z0 D0 I0 W0 P0 : Nat → Int32} {xst xow xin xpa xfi xfr xno xsi xan xkn xen xco xrm xac : Int32} {K N Z D Im W P vS pO pX pI fS fP fI fU fR fO fA fH fG fN aS qL qR qP : Nat → Int32} {st : Nat} {V al : Nat → Prop} {g : Nat} {pa : List Nat} {n c rm a : Nat}
    (hX : md_X V al g pa bo np n c rm a st xfr xno xsi xen xco xrm xac K N Z D Im W P K0 N0 Z0 D0 I0 W0 P0 pO pX fP fU fR fO fA fH fG) (hv : mv_X V n xsi xan pO fP fI fH fN) (ha : ma_X V a aS)
    (hM : ∀ (mk0 pd0 : Nat) (v0 : SY), kn_F T np nf pO pX pI fS mk0 pd0 v0 → rm_M V pa g np n c rm a st xsi xan K N Z D W P pO pX pI fP fI fO fA fH fG fN aS mk0 pd0 v0)
    (H : lp_G T nf bo np K0 N0 Z0 D0 I0 W0 P0 post xst xow xin xpa xfi xkn vS pO pX pI fS st) {q : Nat} (eP : fP g = nI q) (hqn : q < np) (hq : q < 40) (eO : pO q = nI 3) (es : xsi = 0) (eG : fG g = 0) : wX_workOut_68 post (1000001 - st) (nI st) xst xow xin xpa xfi xfr xno xsi xan xkn xen xco xrm xac K N Z D Im W P vS pO pX pI fS fP fI fU fR fO fA fH fG fN aS qL qR qP := by
  subst es
  obtain ⟨hg, hn6, hst, hlen, _⟩ := mx_f hX
  have hX0 := hX
  obtain ⟨⟨x1, x2, x3, x4, x5, x6, x7, x8, x9, x10⟩, hs, hh, hb, hf, hr, hG, hpot⟩ := hX
  have hfo := mx_fo eP hq eO (by omega)
  obtain ⟨s, eI, hVs⟩ := (hv.2 g hg).1
  obtain ⟨hs6, κ, hκ, eK⟩ := vx_k hh.1 hVs
  refine cq_leafgo hst x3 rfl x2 (by omega) eP hq eO (by omega) (by omega) (by omega) eG ?_
  refine xl_3 x2 (by omega) eP hq eO eI hs6 (lp_K H (by omega) (rm_leaf2 hX0 hv ha hM rfl hfo (by omega) (by omega) (by omega) (by omega) eG (Or.inl rfl) (fun _ => ⟨2, rfl, (hh.2.2.2.1.1 2 (by omega)).1⟩) (fun mk0 pd0 mk pd nd yhe yvm yin yfi yde yic ys yk yn yp yf iK iN o0 l0 kS0 d0 pl0 yma ypo yap yas yto yan yco yti yna yac yen o l kS d pl yo yi yw ya y1 y2 yK yW yL yq nm nv no yA lf rt hY e0 Q hQ => ?_)))
  obtain ⟨⟨b1, b2, b3, b4, b5, b6, b7, b8, b9, b10, b11⟩, hfl, hen, hhy, hby, hfr, han, hq0, hq1, hz1, hz2, hz3⟩ := hY
  obtain ⟨t1, t2, t3, t4, t5⟩ := hfr g hg
  obtain ⟨ey, eq⟩ := hq0 rfl
  have eyo := t1.symm.trans eP
  rw [hfo] at t5
  obtain ⟨x, e1, e2⟩ := my_v hh.1 hhy.1 t2 eI hs6 eK hκ
  rw [e11] at hQ
  exact ys_leaf' (by omega) eyo hq (my_k 3 rfl (by omega) (hfl q hqn) eO) (by omega) (by omega) (by omega) (by omega) e0 (fun Q hQ' => yl_3 (by omega) e1 hκ ey (hQ' _ _ _ _ _ _ _ _ _ _ _ _ _ _ _ _ _ _ _ _ _ _ _ _ _ _ _ _ _ _ _ _ _ _ _ _ _ _ _ _ _ _ _ _ _ (hQ _ (fun _ => rl_R0 hh.1 hh.2.2.2.1 (by omega)))))
theorem cq_l4 {post : SX → Prop} {T : List Nat → Option vv_L} {nf bo np : Nat} {K0 N0 Z0 D0 I0 W0 P0 : Nat → Int32} {xst xow xin xpa xfi xfr xno xsi xan xkn xen xco xrm xac : Int32} {K N Z D Im W P vS pO pX pI fS fP fI fU fR fO fA fH fG fN aS qL qR qP : Nat → Int32} {st : Nat} {V al : Nat → Prop} {g : Nat} {pa : List Nat} {n c rm a : Nat}
    (hX : md_X V al g pa bo np n c rm a st xfr xno xsi xen xco xrm xac K N Z D Im W P K0 N0 Z0 D0 I0 W0 P0 pO pX fP fU fR fO fA fH fG) (hv : mv_X V n xsi xan pO fP fI fH fN) (ha : ma_X V a aS)
    (hM : ∀ (mk0 pd0 : Nat) (v0 : SY), kn_F T np nf pO pX pI fS mk0 pd0 v0 → rm_M V pa g np n c rm a st xsi xan K N Z D W P pO pX pI fP fI fO fA fH fG fN aS mk0 pd0 v0)
    (H : lp_G T nf bo np K0 N0 Z0 D0 I0 W0 P0 post xst xow xin xpa xfi xkn vS pO pX pI fS st) {q : Nat} (eP : fP g = nI q) (hqn : q < np) (hq : q < 40) (eO : pO q = nI 4) (es : xsi = 0) (eG : fG g = 0) : wX_workOut_68 post (1000001 - st) (nI st) xst xow xin xpa xfi xfr xno xsi xan xkn xen xco xrm xac K N Z D Im W P vS pO pX pI fS fP fI fU fR fO fA fH fG fN aS qL qR qP := by
  subst es
  obtain ⟨hg, hn6, hst, hlen, _⟩ := mx_f hX
  have hX0 := hX
  obtain ⟨⟨x1, x2, x3, x4, x5, x6, x7, x8, x9, x10⟩, hs, hh, hb, hf, hr, hG, hpot⟩ := hX
  have hfo := mx_fo eP hq eO (by omega)
  obtain ⟨s, eI, hVs⟩ := (hv.2 g hg).1
  obtain ⟨hs6, κ, hκ, eK⟩ := vx_k hh.1 hVs
  refine cq_leafgo hst x3 rfl x2 (by omega) eP hq eO (by omega) (by omega) (by omega) eG ?_
  have hrm := rm_lt hX0 eG (fr_leaf (hf.2.1 g hg) (by omega)).1
  refine xl_4 x2 (by omega) eP hq eO eI hs6 x5 hrm (lp_K H (by omega) (rm_leafN hX0 hv ha hM rfl hfo (by omega) (by omega) (by omega) (by omega) eG (fun mk0 pd0 mk pd nd yhe yvm yin yfi yde yic ys yk yn yp yf iK iN o0 l0 kS0 d0 pl0 yma ypo yap yas yto yan yco yti yna yac yen o l kS d pl yo yi yw ya y1 y2 yK yW yL yq nm nv no yA lf rt hY e0 Q hQ => ?_)))
  obtain ⟨⟨b1, b2, b3, b4, b5, b6, b7, b8, b9, b10, b11⟩, hfl, hen, hhy, hby, hfr, han, hq0, hq1, hz1, hz2, hz3⟩ := hY
  obtain ⟨t1, t2, t3, t4, t5⟩ := hfr g hg
  obtain ⟨ey, eq⟩ := hq0 rfl
  have eyo := t1.symm.trans eP
  rw [hfo] at t5
  obtain ⟨x, e1, e2⟩ := my_v hh.1 hhy.1 t2 eI hs6 eK hκ
  exact ys_leaf' (by omega) eyo hq (my_k 4 rfl (by omega) (hfl q hqn) eO) (by omega) (by omega) (by omega) (by omega) e0 (fun Q hQ' => yl_4 (by omega) e1 hκ ey (hQ' _ _ _ _ _ _ _ _ _ _ _ _ _ _ _ _ _ _ _ _ _ _ _ _ _ _ _ _ _ _ _ _ _ _ _ _ _ _ _ _ _ _ _ _ _ (by rw [show yn q = pX q from by rw [b10]]; exact hQ)))
theorem vx_m {V : Nat → Prop} {K N Z D Im W P : Nat → Int32} (h : vv_ox V K N Z D Im W P) {s κ : Nat} (hs : V s) (eK : K s = nI κ) (hκ : κ ≤ 5) : ∃ m, κ = 5 → m < 256 ∧ N s = nI m ∧ Z s = nI (vv_pc m 8) := by
  obtain ⟨_, hl | hl⟩ := h s hs
  · obtain ⟨k, k1, k2, _⟩ := hl
    refine ⟨0, fun e => ?_⟩
    have := (nI_eq (by omega) (by omega)).mp (k2.symm.trans eK)
    omega
  · obtain ⟨k, z, d, k1, k2, hz, hz10, hd, h4', hc, _, h5, _⟩ := hl
    by_cases e : κ = 5
    · have := (nI_eq (by omega) (by omega)).mp (k2.symm.trans eK)
      obtain ⟨m, m1, m2, m3⟩ := h5 (by omega)
      exact ⟨m, fun _ => ⟨m1, m2, by rw [hz, m3]⟩⟩
    · exact ⟨0, fun w => absurd w e⟩
theorem cq_l5 {post : SX → Prop} {T : List Nat → Option vv_L} {nf bo np : Nat} {K0 N0 Z0 D0 I0 W0 P0 : Nat → Int32} {xst xow xin xpa xfi xfr xno xsi xan xkn xen xco xrm xac : Int32} {K N Z D Im W P vS pO pX pI fS fP fI fU fR fO fA fH fG fN aS qL qR qP : Nat → Int32} {st : Nat} {V al : Nat → Prop} {g : Nat} {pa : List Nat} {n c rm a : Nat}
    (hX : md_X V al g pa bo np n c rm a st xfr xno xsi xen xco xrm xac K N Z D Im W P K0 N0 Z0 D0 I0 W0 P0 pO pX fP fU fR fO fA fH fG) (hv : mv_X V n xsi xan pO fP fI fH fN) (ha : ma_X V a aS)
    (hM : ∀ (mk0 pd0 : Nat) (v0 : SY), kn_F T np nf pO pX pI fS mk0 pd0 v0 → rm_M V pa g np n c rm a st xsi xan K N Z D W P pO pX pI fP fI fO fA fH fG fN aS mk0 pd0 v0)
    (H : lp_G T nf bo np K0 N0 Z0 D0 I0 W0 P0 post xst xow xin xpa xfi xkn vS pO pX pI fS st) {q : Nat} (eP : fP g = nI q) (hqn : q < np) (hq : q < 40) (eO : pO q = nI 5) (es : xsi = 0) (eG : fG g = 0) {kx : Nat} (eX : pX q = nI kx) (hkx : kx < 8) : wX_workOut_68 post (1000001 - st) (nI st) xst xow xin xpa xfi xfr xno xsi xan xkn xen xco xrm xac K N Z D Im W P vS pO pX pI fS fP fI fU fR fO fA fH fG fN aS qL qR qP := by
  subst es
  obtain ⟨hg, hn6, hst, hlen, _⟩ := mx_f hX
  have hX0 := hX
  obtain ⟨⟨x1, x2, x3, x4, x5, x6, x7, x8, x9, x10⟩, hs, hh, hb, hf, hr, hG, hpot⟩ := hX
  have hfo := mx_fo eP hq eO (by omega)
  obtain ⟨s, eI, hVs⟩ := (hv.2 g hg).1
  obtain ⟨hs6, κ, hκ, eK⟩ := vx_k hh.1 hVs
  refine cq_leafgo hst x3 rfl x2 (by omega) eP hq eO (by omega) (by omega) (by omega) eG ?_
  obtain ⟨m, hm⟩ := vx_m hh.1 hVs eK hκ
  obtain ⟨z, hz, ez, hcz⟩ := vv_ox_z hh.1 hVs
  have hpc : m / 2 ^ kx % 2 = 1 → vv_pc m kx < vv_pc m 8 := fun w => by
    have h1 := vv_pc_s m kx
    have h2 := vv_pc_u (m := m) (show kx + 1 ≤ 8 by omega)
    omega
  have h5 : ∀ {mk pd : Nat} {o l kS d : Nat → Int32} {pl : Nat → Int64} {x : Int32}, vv_cy mk pd o l pl → ((κ < 4 ∧ N s = x ∧ Z s = 0 ∧ D s = 0) ∨ (4 ≤ κ ∧ ∃ j a b, j < mk ∧ x = nI j ∧ o j = nI a ∧ l j = nI b ∧ b ≤ 10 ∧ a + b ≤ pd ∧ N s = kS j ∧ Z s = nI b ∧ D s = d j ∧ ∀ i, i < b → vv_R V K N Z D P mk o l kS d pl (P (s * 10 + i)) (pl (a + i)))) → κ = 5 → ∃ j oa, x = nI j ∧ j < 760 ∧ kS j = nI m ∧ m < 256 ∧ o j = nI oa ∧ oa + vv_pc m 8 ≤ 8200 ∧ ∀ i, i < vv_pc m 8 → vv_R V K N Z D P mk o l kS d pl (P (s * 10 + i)) (pl (oa + i)) := by
    intro mk pd o l kS d pl x hcy e2 e5
    rcases e2 with ⟨w, _⟩ | ⟨_, j, oa, b, j1, j2, j3, j4, j5, j6, j7, j8, j9, j10⟩
    · omega
    · obtain ⟨m1, m2, m3⟩ := hm e5
      have h10 := vv_pc_8 (m := m)
      have : b = vv_pc m 8 := (nI_eq (by omega) (by omega)).mp (j8.symm.trans m3)
      subst this
      have hp8 := hcy.2.1
      have hm8 := hcy.1
      exact ⟨j, oa, j2, by omega, j7.symm.trans m2, m1, j3, by omega, j10⟩
  refine xl_5 (m := m) x2 (by omega) eP hq eO eI hs6 eX eK hκ hkx (fun e => ⟨(hm e).1, (hm e).2.1⟩) (fun w => ?_) (fun e5 eb => ?_) (fun n0 n5 => ?_)
  · refine lp_K H (by omega) (rm_leaf2 hX0 hv ha hM rfl hfo (by omega) (by omega) (by omega) (by omega) eG (Or.inl rfl) (fun _ => ⟨0, rfl, (hh.2.2.2.1.1 0 (by omega)).1⟩) (fun mk0 pd0 mk pd nd yhe yvm yin yfi yde yic ys yk yn yp yf iK iN o0 l0 kS0 d0 pl0 yma ypo yap yas yto yan yco yti yna yac yen o l kS d pl yo yi yw ya y1 y2 yK yW yL yq nm nv no yA lf rt hY e0 Q hQ => ?_))
    obtain ⟨⟨b1, b2, b3, b4, b5, b6, b7, b8, b9, b10, b11⟩, hfl, hen, hhy, hby, hfr, han, hq0, hq1, hz1, hz2, hz3⟩ := hY
    obtain ⟨t1, t2, t3, t4, t5⟩ := hfr g hg
    obtain ⟨ey, eq⟩ := hq0 rfl
    have eyo := t1.symm.trans eP
    rw [hfo] at t5
    obtain ⟨x, e1, e2⟩ := my_v hh.1 hhy.1 t2 eI hs6 eK hκ
    rw [e11] at hQ
    refine ys_leaf' (by omega) eyo hq (my_k 5 rfl (by omega) (hfl q hqn) eO) (by omega) (by omega) (by omega) (by omega) e0 (fun Q hQ' => yl_5 (m := m) (by omega) e1 hκ ey (by rw [b10]; exact eX) hkx (fun e5 => ?_) (fun _ => hQ' _ _ _ _ _ _ _ _ _ _ _ _ _ _ _ _ _ _ _ _ _ _ _ _ _ _ _ _ _ _ _ _ _ _ _ _ _ _ _ _ _ _ _ _ _ (hQ _ (fun _ => rl_R00 hh.1 hh.2.2.2.1))) (fun a b => absurd w (by omega)))
    obtain ⟨j, oa, a1, a2, a3, a4, a5, a6, _⟩ := h5 hhy.1 e2 e5
    exact ⟨j, oa, a1, a2, a3, a4, a5, a6, fun eb => absurd w (by omega)⟩
  · obtain ⟨m1, m2, m3⟩ := hm e5
    have h10 := vv_pc_8 (m := m)
    have hz' : z = vv_pc m 8 := (nI_eq (by omega) (by omega)).mp (ez.symm.trans m3)
    obtain ⟨ch, c1, c2, c3⟩ := hcz (vv_pc m kx) (by have := hpc eb; omega)
    refine lp_K H (by omega) (rm_leaf2 hX0 hv ha hM rfl hfo (by omega) (by omega) (by omega) (by omega) eG (Or.inl rfl) (fun _ => ⟨ch, c1, c3⟩) (fun mk0 pd0 mk pd nd yhe yvm yin yfi yde yic ys yk yn yp yf iK iN o0 l0 kS0 d0 pl0 yma ypo yap yas yto yan yco yti yna yac yen o l kS d pl yo yi yw ya y1 y2 yK yW yL yq nm nv no yA lf rt hY e0 Q hQ => ?_))
    obtain ⟨⟨b1, b2, b3, b4, b5, b6, b7, b8, b9, b10, b11⟩, hfl, hen, hhy, hby, hfr, han, hq0, hq1, hz1, hz2, hz3⟩ := hY
    obtain ⟨t1, t2, t3, t4, t5⟩ := hfr g hg
    obtain ⟨ey, eq⟩ := hq0 rfl
    have eyo := t1.symm.trans eP
    rw [hfo] at t5
    obtain ⟨x, e1, e2⟩ := my_v hh.1 hhy.1 t2 eI hs6 eK hκ
    rw [e11] at hQ
    refine ys_leaf' (by omega) eyo hq (my_k 5 rfl (by omega) (hfl q hqn) eO) (by omega) (by omega) (by omega) (by omega) e0 (fun Q hQ' => yl_5 (m := m) (by omega) e1 hκ ey (by rw [b10]; exact eX) hkx (fun e5 => ?_) (fun w => absurd w (by omega)) (fun a b => absurd e5 b))
    obtain ⟨j, oa, a1, a2, a3, a4, a5, a6, a7⟩ := h5 hhy.1 e2 e5
    exact ⟨j, oa, a1, a2, a3, a4, a5, a6, fun _ => hQ' _ _ _ _ _ _ _ _ _ _ _ _ _ _ _ _ _ _ _ _ _ _ _ _ _ _ _ _ _ _ _ _ _ _ _ _ _ _ _ _ _ _ _ _ _ (hQ _ (fun _ => a7 _ (hpc eb)))⟩
  · refine lp_K H (by omega) (rm_leaf2 hX0 hv ha hM rfl hfo (by omega) (by omega) (by omega) (by omega) eG (Or.inr (Or.inr rfl)) (fun w => absurd w (by decide)) (fun mk0 pd0 mk pd nd yhe yvm yin yfi yde yic ys yk yn yp yf iK iN o0 l0 kS0 d0 pl0 yma ypo yap yas yto yan yco yti yna yac yen o l kS d pl yo yi yw ya y1 y2 yK yW yL yq nm nv no yA lf rt hY e0 Q hQ => ?_))
    obtain ⟨⟨b1, b2, b3, b4, b5, b6, b7, b8, b9, b10, b11⟩, hfl, hen, hhy, hby, hfr, han, hq0, hq1, hz1, hz2, hz3⟩ := hY
    obtain ⟨t1, t2, t3, t4, t5⟩ := hfr g hg
    obtain ⟨ey, eq⟩ := hq0 rfl
    have eyo := t1.symm.trans eP
    rw [hfo] at t5
    obtain ⟨x, e1, e2⟩ := my_v hh.1 hhy.1 t2 eI hs6 eK hκ
    rw [e31] at hQ
    exact ys_leaf' (by omega) eyo hq (my_k 5 rfl (by omega) (hfl q hqn) eO) (by omega) (by omega) (by omega) (by omega) e0 (fun Q hQ' => yl_5 (m := m) (by omega) e1 hκ ey (by rw [b10]; exact eX) hkx (fun e5 => absurd e5 n5) (fun w => absurd w (by omega)) (fun _ _ => hQ' _ _ _ _ _ _ _ _ _ _ _ _ _ _ _ _ _ _ _ _ _ _ _ _ _ _ _ _ _ _ _ _ _ _ _ _ _ _ _ _ _ _ _ _ _ (hQ _ (fun w => absurd w (by decide)))))
theorem cq_l8 {post : SX → Prop} {T : List Nat → Option vv_L} {nf bo np : Nat} {K0 N0 Z0 D0 I0 W0 P0 : Nat → Int32} {xst xow xin xpa xfi xfr xno xsi xan xkn xen xco xrm xac : Int32} {K N Z D Im W P vS pO pX pI fS fP fI fU fR fO fA fH fG fN aS qL qR qP : Nat → Int32} {st : Nat} {V al : Nat → Prop} {g : Nat} {pa : List Nat} {n c rm a : Nat}
    (hX : md_X V al g pa bo np n c rm a st xfr xno xsi xen xco xrm xac K N Z D Im W P K0 N0 Z0 D0 I0 W0 P0 pO pX fP fU fR fO fA fH fG) (hv : mv_X V n xsi xan pO fP fI fH fN) (ha : ma_X V a aS)
    (hM : ∀ (mk0 pd0 : Nat) (v0 : SY), kn_F T np nf pO pX pI fS mk0 pd0 v0 → rm_M V pa g np n c rm a st xsi xan K N Z D W P pO pX pI fP fI fO fA fH fG fN aS mk0 pd0 v0)
    (H : lp_G T nf bo np K0 N0 Z0 D0 I0 W0 P0 post xst xow xin xpa xfi xkn vS pO pX pI fS st) {q : Nat} (eP : fP g = nI q) (hqn : q < np) (hq : q < 40) (eO : pO q = nI 8) (es : xsi = 0) (eG : fG g = 0) : wX_workOut_68 post (1000001 - st) (nI st) xst xow xin xpa xfi xfr xno xsi xan xkn xen xco xrm xac K N Z D Im W P vS pO pX pI fS fP fI fU fR fO fA fH fG fN aS qL qR qP := by
  subst es
  obtain ⟨hg, hn6, hst, hlen, _⟩ := mx_f hX
  have hX0 := hX
  obtain ⟨⟨x1, x2, x3, x4, x5, x6, x7, x8, x9, x10⟩, hs, hh, hb, hf, hr, hG, hpot⟩ := hX
  have hfo := mx_fo eP hq eO (by omega)
  obtain ⟨s, eI, hVs⟩ := (hv.2 g hg).1
  obtain ⟨hs6, κ, hκ, eK⟩ := vx_k hh.1 hVs
  refine cq_leafgo hst x3 rfl x2 (by omega) eP hq eO (by omega) (by omega) (by omega) eG ?_
  obtain ⟨hA, hO1⟩ := fr_leaf (hf.2.1 g hg) (by omega)
  subst x4
  refine xl_8 x2 (by omega) eP hq eO eI hs6 (lp_K H (by omega) (rm_leaf1 (k := 2) (gv := 1) (c' := c) (s' := 2) hX0 hv ha hM rfl (by omega) (by omega) (Or.inr (Or.inl rfl)) (by omega) hA (by omega) (fun w => absurd w (by decide)) (Or.inl rfl) x9 (fun w => absurd w (by decide)) (fun w => absurd w (by decide)) (fun mk0 pd0 mk pd nd yhe yvm yin yfi yde yic ys yk yn yp yf iK iN o0 l0 kS0 d0 pl0 yma ypo yap yas yto yan yco yti yna yac yen o l kS d pl yo yi yw ya y1 y2 yK yW yL yq nm nv no yA lf rt hY Q hQ => ?_)))
  obtain ⟨⟨b1, b2, b3, b4, b5, b6, b7, b8, b9, b10, b11⟩, hfl, hen, hhy, hby, hfr, han, hq0, hq1, hz1, hz2, hz3⟩ := hY
  obtain ⟨t1, t2, t3, t4, t5⟩ := hfr g hg
  obtain ⟨ey, eq⟩ := hq0 rfl
  have eyo := t1.symm.trans eP
  rw [hfo] at t5
  obtain ⟨x, e1, e2⟩ := my_v hh.1 hhy.1 t2 eI hs6 eK hκ
  subst b4
  rw [e21] at hQ
  refine ys_end (by omega) eyo hq (my_k 8 rfl (by omega) (hfl q hqn) eO) (by omega) (by omega) (by omega) (Or.inl rfl) ey (hQ ya yW 0 (fun w => absurd w (by decide)) (fun f hf => ⟨rfl, rfl⟩) ?_)
  rw [hfo]
  exact fr_S_leaf (by omega) (by omega) (by omega) hA hO1 rfl (fun w => absurd rfl w)
theorem cq_l9 {post : SX → Prop} {T : List Nat → Option vv_L} {nf bo np : Nat} {K0 N0 Z0 D0 I0 W0 P0 : Nat → Int32} {xst xow xin xpa xfi xfr xno xsi xan xkn xen xco xrm xac : Int32} {K N Z D Im W P vS pO pX pI fS fP fI fU fR fO fA fH fG fN aS qL qR qP : Nat → Int32} {st : Nat} {V al : Nat → Prop} {g : Nat} {pa : List Nat} {n c rm a : Nat}
    (hX : md_X V al g pa bo np n c rm a st xfr xno xsi xen xco xrm xac K N Z D Im W P K0 N0 Z0 D0 I0 W0 P0 pO pX fP fU fR fO fA fH fG) (hv : mv_X V n xsi xan pO fP fI fH fN) (ha : ma_X V a aS)
    (hM : ∀ (mk0 pd0 : Nat) (v0 : SY), kn_F T np nf pO pX pI fS mk0 pd0 v0 → rm_M V pa g np n c rm a st xsi xan K N Z D W P pO pX pI fP fI fO fA fH fG fN aS mk0 pd0 v0)
    (H : lp_G T nf bo np K0 N0 Z0 D0 I0 W0 P0 post xst xow xin xpa xfi xkn vS pO pX pI fS st) {q : Nat} (eP : fP g = nI q) (hqn : q < np) (hq : q < 40) (eO : pO q = nI 9) (es : xsi = 0) (eG : fG g = 0) : wX_workOut_68 post (1000001 - st) (nI st) xst xow xin xpa xfi xfr xno xsi xan xkn xen xco xrm xac K N Z D Im W P vS pO pX pI fS fP fI fU fR fO fA fH fG fN aS qL qR qP := by
  subst es
  obtain ⟨hg, hn6, hst, hlen, _⟩ := mx_f hX
  have hX0 := hX
  obtain ⟨⟨x1, x2, x3, x4, x5, x6, x7, x8, x9, x10⟩, hs, hh, hb, hf, hr, hG, hpot⟩ := hX
  have hfo := mx_fo eP hq eO (by omega)
  obtain ⟨s, eI, hVs⟩ := (hv.2 g hg).1
  obtain ⟨hs6, κ, hκ, eK⟩ := vx_k hh.1 hVs
  refine cq_leafgo hst x3 rfl x2 (by omega) eP hq eO (by omega) (by omega) (by omega) eG ?_
  refine xl_9 x2 (by omega) eP hq eO eI hs6 (lp_K H (by omega) (rm_leaf2 hX0 hv ha hM rfl hfo (by omega) (by omega) (by omega) (by omega) eG (Or.inr (Or.inr rfl)) (fun w => absurd w (by decide)) (fun mk0 pd0 mk pd nd yhe yvm yin yfi yde yic ys yk yn yp yf iK iN o0 l0 kS0 d0 pl0 yma ypo yap yas yto yan yco yti yna yac yen o l kS d pl yo yi yw ya y1 y2 yK yW yL yq nm nv no yA lf rt hY e0 Q hQ => ?_)))
  obtain ⟨⟨b1, b2, b3, b4, b5, b6, b7, b8, b9, b10, b11⟩, hfl, hen, hhy, hby, hfr, han, hq0, hq1, hz1, hz2, hz3⟩ := hY
  obtain ⟨t1, t2, t3, t4, t5⟩ := hfr g hg
  obtain ⟨ey, eq⟩ := hq0 rfl
  have eyo := t1.symm.trans eP
  rw [hfo] at t5
  obtain ⟨x, e1, e2⟩ := my_v hh.1 hhy.1 t2 eI hs6 eK hκ
  rw [e31] at hQ
  exact ys_leaf' (by omega) eyo hq (my_k 9 rfl (by omega) (hfl q hqn) eO) (by omega) (by omega) (by omega) (by omega) e0 (fun Q hQ' => yl_9 (by omega) e1 hκ ey (fun w => hQ' _ _ _ _ _ _ _ _ _ _ _ _ _ _ _ _ _ _ _ _ _ _ _ _ _ _ _ _ _ _ _ _ _ _ _ _ _ _ _ _ _ _ _ _ _ (hQ w (fun w => absurd w (by decide)))))
theorem cq_l12 {post : SX → Prop} {T : List Nat → Option vv_L} {nf bo np : Nat} {K0 N0 Z0 D0 I0 W0 P0 : Nat → Int32} {xst xow xin xpa xfi xfr xno xsi xan xkn xen xco xrm xac : Int32} {K N Z D Im W P vS pO pX pI fS fP fI fU fR fO fA fH fG fN aS qL qR qP : Nat → Int32} {st : Nat} {V al : Nat → Prop} {g : Nat} {pa : List Nat} {n c rm a : Nat}
    (hX : md_X V al g pa bo np n c rm a st xfr xno xsi xen xco xrm xac K N Z D Im W P K0 N0 Z0 D0 I0 W0 P0 pO pX fP fU fR fO fA fH fG) (hv : mv_X V n xsi xan pO fP fI fH fN) (ha : ma_X V a aS)
    (hM : ∀ (mk0 pd0 : Nat) (v0 : SY), kn_F T np nf pO pX pI fS mk0 pd0 v0 → rm_M V pa g np n c rm a st xsi xan K N Z D W P pO pX pI fP fI fO fA fH fG fN aS mk0 pd0 v0)
    (H : lp_G T nf bo np K0 N0 Z0 D0 I0 W0 P0 post xst xow xin xpa xfi xkn vS pO pX pI fS st) {q : Nat} (eP : fP g = nI q) (hqn : q < np) (hq : q < 40) (eO : pO q = nI 12) (es : xsi = 0) (eG : fG g = 0) : wX_workOut_68 post (1000001 - st) (nI st) xst xow xin xpa xfi xfr xno xsi xan xkn xen xco xrm xac K N Z D Im W P vS pO pX pI fS fP fI fU fR fO fA fH fG fN aS qL qR qP := by
  subst es
  obtain ⟨hg, hn6, hst, hlen, _⟩ := mx_f hX
  have hX0 := hX
  obtain ⟨⟨x1, x2, x3, x4, x5, x6, x7, x8, x9, x10⟩, hs, hh, hb, hf, hr, hG, hpot⟩ := hX
  have hfo := mx_fo eP hq eO (by omega)
  obtain ⟨s, eI, hVs⟩ := (hv.2 g hg).1
  obtain ⟨hs6, κ, hκ, eK⟩ := vx_k hh.1 hVs
  refine cq_leafgo hst x3 rfl x2 (by omega) eP hq eO (by omega) (by omega) (by omega) eG ?_
  obtain ⟨w1, w2, w3⟩ := hh.2.2.2.1.2 κ (by omega)
  obtain ⟨_, w4, w5, _⟩ := rl_plain hh.1 w1 (by omega) w2
  refine xl_12 x2 (by omega) eP hq eO eI hs6 eK hκ (lp_K H (by omega) (rm_leaf2 hX0 hv ha hM rfl hfo (by omega) (by omega) (by omega) (by omega) eG (Or.inl rfl) (fun _ => ⟨3 + κ, rfl, w1⟩) (fun mk0 pd0 mk pd nd yhe yvm yin yfi yde yic ys yk yn yp yf iK iN o0 l0 kS0 d0 pl0 yma ypo yap yas yto yan yco yti yna yac yen o l kS d pl yo yi yw ya y1 y2 yK yW yL yq nm nv no yA lf rt hY e0 Q hQ => ?_)))
  obtain ⟨⟨b1, b2, b3, b4, b5, b6, b7, b8, b9, b10, b11⟩, hfl, hen, hhy, hby, hfr, han, hq0, hq1, hz1, hz2, hz3⟩ := hY
  obtain ⟨t1, t2, t3, t4, t5⟩ := hfr g hg
  obtain ⟨ey, eq⟩ := hq0 rfl
  have eyo := t1.symm.trans eP
  rw [hfo] at t5
  obtain ⟨x, e1, e2⟩ := my_v hh.1 hhy.1 t2 eI hs6 eK hκ
  rw [e11] at hQ
  exact ys_leaf' (by omega) eyo hq (my_k 12 rfl (by omega) (hfl q hqn) eO) (by omega) (by omega) (by omega) (by omega) e0 (fun Q hQ' => yl_12 (by omega) e1 hκ ey (hQ' _ _ _ _ _ _ _ _ _ _ _ _ _ _ _ _ _ _ _ _ _ _ _ _ _ _ _ _ _ _ _ _ _ _ _ _ _ _ _ _ _ _ _ _ _ (hQ _ (fun _ => vv_R_plain (by omega) w1 (by omega) w2 w3 w4 w5))))
theorem cq_l13 {post : SX → Prop} {T : List Nat → Option vv_L} {nf bo np : Nat} {K0 N0 Z0 D0 I0 W0 P0 : Nat → Int32} {xst xow xin xpa xfi xfr xno xsi xan xkn xen xco xrm xac : Int32} {K N Z D Im W P vS pO pX pI fS fP fI fU fR fO fA fH fG fN aS qL qR qP : Nat → Int32} {st : Nat} {V al : Nat → Prop} {g : Nat} {pa : List Nat} {n c rm a : Nat}
    (hX : md_X V al g pa bo np n c rm a st xfr xno xsi xen xco xrm xac K N Z D Im W P K0 N0 Z0 D0 I0 W0 P0 pO pX fP fU fR fO fA fH fG) (hv : mv_X V n xsi xan pO fP fI fH fN) (ha : ma_X V a aS)
    (hM : ∀ (mk0 pd0 : Nat) (v0 : SY), kn_F T np nf pO pX pI fS mk0 pd0 v0 → rm_M V pa g np n c rm a st xsi xan K N Z D W P pO pX pI fP fI fO fA fH fG fN aS mk0 pd0 v0)
    (H : lp_G T nf bo np K0 N0 Z0 D0 I0 W0 P0 post xst xow xin xpa xfi xkn vS pO pX pI fS st) {q : Nat} (eP : fP g = nI q) (hqn : q < np) (hq : q < 40) (eO : pO q = nI 13) (es : xsi = 0) (eG : fG g = 0) {kx : Nat} (eX : pX q = nI kx) (hkx : kx < 3) : wX_workOut_68 post (1000001 - st) (nI st) xst xow xin xpa xfi xfr xno xsi xan xkn xen xco xrm xac K N Z D Im W P vS pO pX pI fS fP fI fU fR fO fA fH fG fN aS qL qR qP := by
  subst es
  obtain ⟨hg, hn6, hst, hlen, _⟩ := mx_f hX
  have hX0 := hX
  obtain ⟨⟨x1, x2, x3, x4, x5, x6, x7, x8, x9, x10⟩, hs, hh, hb, hf, hr, hG, hpot⟩ := hX
  have hfo := mx_fo eP hq eO (by omega)
  obtain ⟨s, eI, hVs⟩ := (hv.2 g hg).1
  obtain ⟨hs6, κ, hκ, eK⟩ := vx_k hh.1 hVs
  refine cq_leafgo hst x3 rfl x2 (by omega) eP hq eO (by omega) (by omega) (by omega) eG ?_
  refine xl_13 x2 (by omega) eP hq eO eI hs6 eX hkx (lp_K H (by omega) (rm_leaf2 hX0 hv ha hM rfl hfo (by omega) (by omega) (by omega) (by omega) eG (Or.inl rfl) (fun _ => (hv.2 g hg).2.2 kx hkx) (fun mk0 pd0 mk pd nd yhe yvm yin yfi yde yic ys yk yn yp yf iK iN o0 l0 kS0 d0 pl0 yma ypo yap yas yto yan yco yti yna yac yen o l kS d pl yo yi yw ya y1 y2 yK yW yL yq nm nv no yA lf rt hY e0 Q hQ => ?_)))
  obtain ⟨⟨b1, b2, b3, b4, b5, b6, b7, b8, b9, b10, b11⟩, hfl, hen, hhy, hby, hfr, han, hq0, hq1, hz1, hz2, hz3⟩ := hY
  obtain ⟨t1, t2, t3, t4, t5⟩ := hfr g hg
  obtain ⟨ey, eq⟩ := hq0 rfl
  have eyo := t1.symm.trans eP
  rw [hfo] at t5
  obtain ⟨x, e1, e2⟩ := my_v hh.1 hhy.1 t2 eI hs6 eK hκ
  rw [e11] at hQ
  refine ys_leaf' (by omega) eyo hq (my_k 13 rfl (by omega) (hfl q hqn) eO) (by omega) (by omega) (by omega) (by omega) e0 (fun Q hQ' => yl_13 (nd := nd) (by omega) e1 hκ ey (by rw [b10]; exact eX) hen t3 (hQ' _ _ _ _ _ _ _ _ _ _ _ _ _ _ _ _ _ _ _ _ _ _ _ _ _ _ _ _ _ _ _ _ _ _ _ _ _ _ _ _ _ _ _ _ _ (hQ _ (fun _ => ?_))))
  rcases t4 kx hkx with w | ⟨w, _⟩
  · exact w
  · exact absurd w (by omega)
theorem cq_l14 {post : SX → Prop} {T : List Nat → Option vv_L} {nf bo np : Nat} {K0 N0 Z0 D0 I0 W0 P0 : Nat → Int32} {xst xow xin xpa xfi xfr xno xsi xan xkn xen xco xrm xac : Int32} {K N Z D Im W P vS pO pX pI fS fP fI fU fR fO fA fH fG fN aS qL qR qP : Nat → Int32} {st : Nat} {V al : Nat → Prop} {g : Nat} {pa : List Nat} {n c rm a : Nat}
    (hX : md_X V al g pa bo np n c rm a st xfr xno xsi xen xco xrm xac K N Z D Im W P K0 N0 Z0 D0 I0 W0 P0 pO pX fP fU fR fO fA fH fG) (hv : mv_X V n xsi xan pO fP fI fH fN) (ha : ma_X V a aS)
    (hM : ∀ (mk0 pd0 : Nat) (v0 : SY), kn_F T np nf pO pX pI fS mk0 pd0 v0 → rm_M V pa g np n c rm a st xsi xan K N Z D W P pO pX pI fP fI fO fA fH fG fN aS mk0 pd0 v0)
    (H : lp_G T nf bo np K0 N0 Z0 D0 I0 W0 P0 post xst xow xin xpa xfi xkn vS pO pX pI fS st) {q : Nat} (eP : fP g = nI q) (hqn : q < np) (hq : q < 40) (eO : pO q = nI 14) (es : xsi = 0) (eG : fG g = 0) : wX_workOut_68 post (1000001 - st) (nI st) xst xow xin xpa xfi xfr xno xsi xan xkn xen xco xrm xac K N Z D Im W P vS pO pX pI fS fP fI fU fR fO fA fH fG fN aS qL qR qP := by
  subst es
  obtain ⟨hg, hn6, hst, hlen, _⟩ := mx_f hX
  have hX0 := hX
  obtain ⟨⟨x1, x2, x3, x4, x5, x6, x7, x8, x9, x10⟩, hs, hh, hb, hf, hr, hG, hpot⟩ := hX
  have hfo := mx_fo eP hq eO (by omega)
  obtain ⟨s, eI, hVs⟩ := (hv.2 g hg).1
  obtain ⟨hs6, κ, hκ, eK⟩ := vx_k hh.1 hVs
  refine cq_leafgo hst x3 rfl x2 (by omega) eP hq eO (by omega) (by omega) (by omega) eG ?_
  refine xl_14 x2 (by omega) eP hq eO eI hs6 eK hκ (fun hw => ?_) (fun hw => ?_)
  · refine lp_K H (by omega) (rm_leaf2 hX0 hv ha hM rfl hfo (by omega) (by omega) (by omega) (by omega) eG (Or.inl rfl) (fun _ => ⟨1, rfl, (hh.2.2.2.1.1 1 (by omega)).1⟩) (fun mk0 pd0 mk pd nd yhe yvm yin yfi yde yic ys yk yn yp yf iK iN o0 l0 kS0 d0 pl0 yma ypo yap yas yto yan yco yti yna yac yen o l kS d pl yo yi yw ya y1 y2 yK yW yL yq nm nv no yA lf rt hY e0 Q hQ => ?_))
    obtain ⟨⟨b1, b2, b3, b4, b5, b6, b7, b8, b9, b10, b11⟩, hfl, hen, hhy, hby, hfr, han, hq0, hq1, hz1, hz2, hz3⟩ := hY
    obtain ⟨t1, t2, t3, t4, t5⟩ := hfr g hg
    obtain ⟨ey, eq⟩ := hq0 rfl
    have eyo := t1.symm.trans eP
    rw [hfo] at t5
    obtain ⟨x, e1, e2⟩ := my_v hh.1 hhy.1 t2 eI hs6 eK hκ
    rw [e11] at hQ
    exact ys_leaf' (by omega) eyo hq (my_k 14 rfl (by omega) (hfl q hqn) eO) (by omega) (by omega) (by omega) (by omega) e0 (fun Q hQ' => yl_14 (by omega) e1 hκ ey (fun _ => hQ' _ _ _ _ _ _ _ _ _ _ _ _ _ _ _ _ _ _ _ _ _ _ _ _ _ _ _ _ _ _ _ _ _ _ _ _ _ _ _ _ _ _ _ _ _ (hQ _ (fun _ => rl_R0 hh.1 hh.2.2.2.1 (κ := 1) (by omega)))) (fun w => absurd w (by omega)))
  · refine lp_K H (by omega) (rm_leaf2 hX0 hv ha hM rfl hfo (by omega) (by omega) (by omega) (by omega) eG (Or.inl rfl) (fun _ => ⟨2, rfl, (hh.2.2.2.1.1 2 (by omega)).1⟩) (fun mk0 pd0 mk pd nd yhe yvm yin yfi yde yic ys yk yn yp yf iK iN o0 l0 kS0 d0 pl0 yma ypo yap yas yto yan yco yti yna yac yen o l kS d pl yo yi yw ya y1 y2 yK yW yL yq nm nv no yA lf rt hY e0 Q hQ => ?_))
    obtain ⟨⟨b1, b2, b3, b4, b5, b6, b7, b8, b9, b10, b11⟩, hfl, hen, hhy, hby, hfr, han, hq0, hq1, hz1, hz2, hz3⟩ := hY
    obtain ⟨t1, t2, t3, t4, t5⟩ := hfr g hg
    obtain ⟨ey, eq⟩ := hq0 rfl
    have eyo := t1.symm.trans eP
    rw [hfo] at t5
    obtain ⟨x, e1, e2⟩ := my_v hh.1 hhy.1 t2 eI hs6 eK hκ
    rw [e11] at hQ
    exact ys_leaf' (by omega) eyo hq (my_k 14 rfl (by omega) (hfl q hqn) eO) (by omega) (by omega) (by omega) (by omega) e0 (fun Q hQ' => yl_14 (by omega) e1 hκ ey (fun w => absurd w (by omega)) (fun _ => hQ' _ _ _ _ _ _ _ _ _ _ _ _ _ _ _ _ _ _ _ _ _ _ _ _ _ _ _ _ _ _ _ _ _ _ _ _ _ _ _ _ _ _ _ _ _ (hQ _ (fun _ => rl_R0 hh.1 hh.2.2.2.1 (κ := 2) (by omega)))))
theorem cq_l6 {post : SX → Prop} {T : List Nat → Option vv_L} {nf bo np : Nat} {K0 N0 Z0 D0 I0 W0 P0 : Nat → Int32} {xst xow xin xpa xfi xfr xno xsi xan xkn xen xco xrm xac : Int32} {K N Z D Im W P vS pO pX pI fS fP fI fU fR fO fA fH fG fN aS qL qR qP : Nat → Int32} {st : Nat} {V al : Nat → Prop} {g : Nat} {pa : List Nat} {n c rm a : Nat}
    (hX : md_X V al g pa bo np n c rm a st xfr xno xsi xen xco xrm xac K N Z D Im W P K0 N0 Z0 D0 I0 W0 P0 pO pX fP fU fR fO fA fH fG) (hv : mv_X V n xsi xan pO fP fI fH fN) (ha : ma_X V a aS)
    (hM : ∀ (mk0 pd0 : Nat) (v0 : SY), kn_F T np nf pO pX pI fS mk0 pd0 v0 → rm_M V pa g np n c rm a st xsi xan K N Z D W P pO pX pI fP fI fO fA fH fG fN aS mk0 pd0 v0)
    (H : lp_G T nf bo np K0 N0 Z0 D0 I0 W0 P0 post xst xow xin xpa xfi xkn vS pO pX pI fS st) {q : Nat} (eP : fP g = nI q) (hqn : q < np) (hq : q < 40) (eO : pO q = nI 6) (es : xsi = 0) (eG : fG g = 0) : wX_workOut_68 post (1000001 - st) (nI st) xst xow xin xpa xfi xfr xno xsi xan xkn xen xco xrm xac K N Z D Im W P vS pO pX pI fS fP fI fU fR fO fA fH fG fN aS qL qR qP := by
  subst es
  obtain ⟨hg, hn6, hst, hlen, _⟩ := mx_f hX
  have hX0 := hX
  obtain ⟨⟨x1, x2, x3, x4, x5, x6, x7, x8, x9, x10⟩, hs, hh, hb, hf, hr, hG, hpot⟩ := hX
  have hfo := mx_fo eP hq eO (by omega)
  obtain ⟨s, eI, hVs⟩ := (hv.2 g hg).1
  obtain ⟨hs6, κ, hκ, eK⟩ := vx_k hh.1 hVs
  refine cq_leafgo hst x3 rfl x2 (by omega) eP hq eO (by omega) (by omega) (by omega) eG ?_
  obtain ⟨z, hz, ez, hcz⟩ := vv_ox_z hh.1 hVs
  obtain ⟨y, hy⟩ : ∃ y : Int32, (0 ≤ pX q → y = pX q) ∧ (¬ 0 ≤ pX q → y = nI z + pX q) := by
    by_cases h0 : 0 ≤ pX q
    · exact ⟨pX q, fun _ => rfl, fun w => absurd h0 w⟩
    · exact ⟨nI z + pX q, fun w => absurd w h0, fun _ => rfl⟩
  have h4 : ∀ {mk pd : Nat} {o l kS d : Nat → Int32} {pl : Nat → Int64} {x : Int32}, vv_cy mk pd o l pl → ((κ < 4 ∧ N s = x ∧ Z s = 0 ∧ D s = 0) ∨ (4 ≤ κ ∧ ∃ j a b, j < mk ∧ x = nI j ∧ o j = nI a ∧ l j = nI b ∧ b ≤ 10 ∧ a + b ≤ pd ∧ N s = kS j ∧ Z s = nI b ∧ D s = d j ∧ ∀ i, i < b → vv_R V K N Z D P mk o l kS d pl (P (s * 10 + i)) (pl (a + i)))) → κ = 4 → ∃ j oa, x = nI j ∧ j < 760 ∧ o j = nI oa ∧ l j = nI z ∧ oa + z ≤ 8200 ∧ ∀ i, i < z → vv_R V K N Z D P mk o l kS d pl (P (s * 10 + i)) (pl (oa + i)) := by
    intro mk pd o l kS d pl x hcy e2 e4
    rcases e2 with ⟨w, _⟩ | ⟨_, j, oa, b, j1, j2, j3, j4, j5, j6, j7, j8, j9, j10⟩
    · omega
    · have : b = z := (nI_eq (by omega) (by omega)).mp (j8.symm.trans ez)
      subst this
      have hp8 := hcy.2.1
      have hm8 := hcy.1
      exact ⟨j, oa, j2, by omega, j3, j4, by omega, j10⟩
  refine xl_6 x2 (by omega) eP hq eO eI hs6 eK hκ ez hz hy (fun w => ?_) (fun e4 j hj ej => ?_) (fun n0 n4 => ?_)
  · refine lp_K H (by omega) (rm_leaf2 hX0 hv ha hM rfl hfo (by omega) (by omega) (by omega) (by omega) eG (Or.inl rfl) (fun _ => ⟨0, rfl, (hh.2.2.2.1.1 0 (by omega)).1⟩) (fun mk0 pd0 mk pd nd yhe yvm yin yfi yde yic ys yk yn yp yf iK iN o0 l0 kS0 d0 pl0 yma ypo yap yas yto yan yco yti yna yac yen o l kS d pl yo yi yw ya y1 y2 yK yW yL yq nm nv no yA lf rt hY e0 Q hQ => ?_))
    obtain ⟨⟨b1, b2, b3, b4, b5, b6, b7, b8, b9, b10, b11⟩, hfl, hen, hhy, hby, hfr, han, hq0, hq1, hz1, hz2, hz3⟩ := hY
    obtain ⟨t1, t2, t3, t4, t5⟩ := hfr g hg
    obtain ⟨ey, eq⟩ := hq0 rfl
    have eyo := t1.symm.trans eP
    rw [hfo] at t5
    obtain ⟨x, e1, e2⟩ := my_v hh.1 hhy.1 t2 eI hs6 eK hκ
    rw [e11] at hQ
    refine ys_leaf' (by omega) eyo hq (my_k 6 rfl (by omega) (hfl q hqn) eO) (by omega) (by omega) (by omega) (by omega) e0 (fun Q hQ' => yl_6 (z := z) (y := y) (by omega) e1 hκ ey (fun e4 => ?_) (fun _ => hQ' _ _ _ _ _ _ _ _ _ _ _ _ _ _ _ _ _ _ _ _ _ _ _ _ _ _ _ _ _ _ _ _ _ _ _ _ _ _ _ _ _ _ _ _ _ (hQ _ (fun _ => rl_R00 hh.1 hh.2.2.2.1))) (fun a b => ?_))
    · obtain ⟨j, oa, a1, a2, a3, a4, a5, a6⟩ := h4 hhy.1 e2 e4
      rw [show yn q = pX q from by rw [b10]]
      refine ⟨j, oa, a1, a2, a3, a4, hz, a5, hy.1, hy.2, fun i hi ei => ?_⟩
      rcases w with w | ⟨_, w⟩
      · omega
      · rw [ei] at w
        rcases w with w | w
        · exact absurd w (nI_pos (by omega))
        · exact absurd w (nI_ge (by omega) (by omega))
    · rcases w with w | ⟨w, _⟩
      · exact absurd w a
      · exact absurd w b
  · obtain ⟨ch, c1, c2, c3⟩ := hcz j hj
    refine lp_K H (by omega) (rm_leaf2 hX0 hv ha hM rfl hfo (by omega) (by omega) (by omega) (by omega) eG (Or.inl rfl) (fun _ => ⟨ch, c1, c3⟩) (fun mk0 pd0 mk pd nd yhe yvm yin yfi yde yic ys yk yn yp yf iK iN o0 l0 kS0 d0 pl0 yma ypo yap yas yto yan yco yti yna yac yen o l kS d pl yo yi yw ya y1 y2 yK yW yL yq nm nv no yA lf rt hY e0 Q hQ => ?_))
    obtain ⟨⟨b1, b2, b3, b4, b5, b6, b7, b8, b9, b10, b11⟩, hfl, hen, hhy, hby, hfr, han, hq0, hq1, hz1, hz2, hz3⟩ := hY
    obtain ⟨t1, t2, t3, t4, t5⟩ := hfr g hg
    obtain ⟨ey, eq⟩ := hq0 rfl
    have eyo := t1.symm.trans eP
    rw [hfo] at t5
    obtain ⟨x, e1, e2⟩ := my_v hh.1 hhy.1 t2 eI hs6 eK hκ
    rw [e11] at hQ
    refine ys_leaf' (by omega) eyo hq (my_k 6 rfl (by omega) (hfl q hqn) eO) (by omega) (by omega) (by omega) (by omega) e0 (fun Q hQ' => yl_6 (z := z) (y := y) (by omega) e1 hκ ey (fun e4 => ?_) (fun w => ?_) (fun a b => absurd e4 b))
    · obtain ⟨j', oa, a1, a2, a3, a4, a5, a6⟩ := h4 hhy.1 e2 e4
      rw [show yn q = pX q from by rw [b10]]
      refine ⟨j', oa, a1, a2, a3, a4, hz, a5, hy.1, hy.2, fun i hi ei => ?_⟩
      have : i = j := (nI_eq (by omega) (by omega)).mp (ei.symm.trans ej)
      subst this
      exact hQ' _ _ _ _ _ _ _ _ _ _ _ _ _ _ _ _ _ _ _ _ _ _ _ _ _ _ _ _ _ _ _ _ _ _ _ _ _ _ _ _ _ _ _ _ _ (hQ _ (fun _ => a6 _ hi))
    · rcases w with w | ⟨_, w⟩
      · omega
      · rw [ej] at w
        rcases w with w | w
        · exact absurd w (nI_pos (by omega))
        · exact absurd w (nI_ge (by omega) (by omega))
  · refine lp_K H (by omega) (rm_leaf2 hX0 hv ha hM rfl hfo (by omega) (by omega) (by omega) (by omega) eG (Or.inr (Or.inr rfl)) (fun w => absurd w (by decide)) (fun mk0 pd0 mk pd nd yhe yvm yin yfi yde yic ys yk yn yp yf iK iN o0 l0 kS0 d0 pl0 yma ypo yap yas yto yan yco yti yna yac yen o l kS d pl yo yi yw ya y1 y2 yK yW yL yq nm nv no yA lf rt hY e0 Q hQ => ?_))
    obtain ⟨⟨b1, b2, b3, b4, b5, b6, b7, b8, b9, b10, b11⟩, hfl, hen, hhy, hby, hfr, han, hq0, hq1, hz1, hz2, hz3⟩ := hY
    obtain ⟨t1, t2, t3, t4, t5⟩ := hfr g hg
    obtain ⟨ey, eq⟩ := hq0 rfl
    have eyo := t1.symm.trans eP
    rw [hfo] at t5
    obtain ⟨x, e1, e2⟩ := my_v hh.1 hhy.1 t2 eI hs6 eK hκ
    rw [e31] at hQ
    refine ys_leaf' (by omega) eyo hq (my_k 6 rfl (by omega) (hfl q hqn) eO) (by omega) (by omega) (by omega) (by omega) e0 (fun Q hQ' => yl_6 (z := z) (y := y) (by omega) e1 hκ ey (fun e4 => absurd e4 n4) (fun w => ?_) (fun _ _ => hQ' _ _ _ _ _ _ _ _ _ _ _ _ _ _ _ _ _ _ _ _ _ _ _ _ _ _ _ _ _ _ _ _ _ _ _ _ _ _ _ _ _ _ _ _ _ (hQ _ (fun w => absurd w (by decide)))))
    rcases w with w | ⟨w, _⟩
    · exact absurd w n0
    · exact absurd w n4
theorem cq_l10 {post : SX → Prop} {T : List Nat → Option vv_L} {nf bo np : Nat} {K0 N0 Z0 D0 I0 W0 P0 : Nat → Int32} {xst xow xin xpa xfi xfr xno xsi xan xkn xen xco xrm xac : Int32} {K N Z D Im W P vS pO pX pI fS fP fI fU fR fO fA fH fG fN aS qL qR qP : Nat → Int32} {st : Nat} {V al : Nat → Prop} {g : Nat} {pa : List Nat} {n c rm a : Nat}
    (hX : md_X V al g pa bo np n c rm a st xfr xno xsi xen xco xrm xac K N Z D Im W P K0 N0 Z0 D0 I0 W0 P0 pO pX fP fU fR fO fA fH fG) (hv : mv_X V n xsi xan pO fP fI fH fN) (ha : ma_X V a aS)
    (hM : ∀ (mk0 pd0 : Nat) (v0 : SY), kn_F T np nf pO pX pI fS mk0 pd0 v0 → rm_M V pa g np n c rm a st xsi xan K N Z D W P pO pX pI fP fI fO fA fH fG fN aS mk0 pd0 v0)
    (H : lp_G T nf bo np K0 N0 Z0 D0 I0 W0 P0 post xst xow xin xpa xfi xkn vS pO pX pI fS st) {q : Nat} (eP : fP g = nI q) (hqn : q < np) (hq : q < 40) (eO : pO q = nI 10) (es : xsi = 0) (eG : fG g = 0) : wX_workOut_68 post (1000001 - st) (nI st) xst xow xin xpa xfi xfr xno xsi xan xkn xen xco xrm xac K N Z D Im W P vS pO pX pI fS fP fI fU fR fO fA fH fG fN aS qL qR qP := by
  subst es
  obtain ⟨hg, hn6, hst, hlen, _⟩ := mx_f hX
  have hX0 := hX
  obtain ⟨⟨x1, x2, x3, x4, x5, x6, x7, x8, x9, x10⟩, hs, hh, hb, hf, hr, hG, hpot⟩ := hX
  have hfo := mx_fo eP hq eO (by omega)
  obtain ⟨s, eI, hVs⟩ := (hv.2 g hg).1
  obtain ⟨hs6, κ, hκ, eK⟩ := vx_k hh.1 hVs
  refine cq_leafgo hst x3 rfl x2 (by omega) eP hq eO (by omega) (by omega) (by omega) eG ?_
  have hrm := rm_lt hX0 eG (fr_leaf (hf.2.1 g hg) (by omega)).1
  obtain ⟨y, hy⟩ : ∃ y : Int32, (κ = 3 → (0 ≤ N s → y = N s) ∧ (¬ 0 ≤ N s → y = - N s)) ∧ (κ ≠ 3 → y = Z s) := by
    by_cases h3 : κ = 3
    · by_cases h0 : 0 ≤ N s
      · exact ⟨N s, fun _ => ⟨fun _ => rfl, fun w => absurd h0 w⟩, fun w => absurd h3 w⟩
      · exact ⟨- N s, fun _ => ⟨fun w => absurd w h0, fun _ => rfl⟩, fun w => absurd h3 w⟩
    · exact ⟨Z s, fun w => absurd w h3, fun _ => rfl⟩
  have hy2 : ∀ {mk pd : Nat} {o l kS d : Nat → Int32} {pl : Nat → Int64} {x : Int32}, vv_cy mk pd o l pl → ((κ < 4 ∧ N s = x ∧ Z s = 0 ∧ D s = 0) ∨ (4 ≤ κ ∧ ∃ j a b, j < mk ∧ x = nI j ∧ o j = nI a ∧ l j = nI b ∧ b ≤ 10 ∧ a + b ≤ pd ∧ N s = kS j ∧ Z s = nI b ∧ D s = d j ∧ ∀ i, i < b → vv_R V K N Z D P mk o l kS d pl (P (s * 10 + i)) (pl (a + i)))) → (κ = 3 → (0 ≤ x → y = x) ∧ (¬ 0 ≤ x → y = -x)) ∧ (κ < 3 → y = 0) ∧ (3 < κ → ∃ j, x = nI j ∧ j < 760 ∧ y = l j) := by
    intro mk pd o l kS d pl x hcy e2
    rcases e2 with ⟨w, w1, w2, w3⟩ | ⟨w, j, oa, b, j1, j2, j3, j4, j5, j6, j7, j8, j9, j10⟩
    · rw [w1, w2] at hy
      exact ⟨hy.1, fun w => hy.2 (by omega), fun w => absurd w (by omega)⟩
    · have hm8 := hcy.1
      exact ⟨fun w => absurd w (by omega), fun w => absurd w (by omega), fun _ => ⟨j, j2, by omega, by rw [hy.2 (by omega), j8, j4]⟩⟩
  refine xl_10 x2 (by omega) eP hq eO eI hs6 eK hκ x5 hrm hy (fun w => ?_) (fun n1 n2 => ?_)
  · refine lp_K H (by omega) (rm_leaf2 hX0 hv ha hM rfl hfo (by omega) (by omega) (by omega) (by omega) eG (Or.inr (Or.inr rfl)) (fun w => absurd w (by decide)) (fun mk0 pd0 mk pd nd yhe yvm yin yfi yde yic ys yk yn yp yf iK iN o0 l0 kS0 d0 pl0 yma ypo yap yas yto yan yco yti yna yac yen o l kS d pl yo yi yw ya y1 y2 yK yW yL yq nm nv no yA lf rt hY e0 Q hQ => ?_))
    obtain ⟨⟨b1, b2, b3, b4, b5, b6, b7, b8, b9, b10, b11⟩, hfl, hen, hhy, hby, hfr, han, hq0, hq1, hz1, hz2, hz3⟩ := hY
    obtain ⟨t1, t2, t3, t4, t5⟩ := hfr g hg
    obtain ⟨ey, eq⟩ := hq0 rfl
    have eyo := t1.symm.trans eP
    rw [hfo] at t5
    obtain ⟨x, e1, e2⟩ := my_v hh.1 hhy.1 t2 eI hs6 eK hκ
    rw [e31] at hQ
    exact ys_leaf' (by omega) eyo hq (my_k 10 rfl (by omega) (hfl q hqn) eO) (by omega) (by omega) (by omega) (by omega) e0 (fun Q hQ' => yl_10 (y := y) (by omega) e1 hκ ey (hy2 hhy.1 e2) (fun a b => absurd w (by omega)) (fun _ w' => hQ' _ _ _ _ _ _ _ _ _ _ _ _ _ _ _ _ _ _ _ _ _ _ _ _ _ _ _ _ _ _ _ _ _ _ _ _ _ _ _ _ _ _ _ _ _ (hQ w' (fun w => absurd w (by decide)))))
  · refine lp_K H (by omega) (rm_leafN hX0 hv ha hM rfl hfo (by omega) (by omega) (by omega) (by omega) eG (fun mk0 pd0 mk pd nd yhe yvm yin yfi yde yic ys yk yn yp yf iK iN o0 l0 kS0 d0 pl0 yma ypo yap yas yto yan yco yti yna yac yen o l kS d pl yo yi yw ya y1 y2 yK yW yL yq nm nv no yA lf rt hY e0 Q hQ => ?_))
    obtain ⟨⟨b1, b2, b3, b4, b5, b6, b7, b8, b9, b10, b11⟩, hfl, hen, hhy, hby, hfr, han, hq0, hq1, hz1, hz2, hz3⟩ := hY
    obtain ⟨t1, t2, t3, t4, t5⟩ := hfr g hg
    obtain ⟨ey, eq⟩ := hq0 rfl
    have eyo := t1.symm.trans eP
    rw [hfo] at t5
    obtain ⟨x, e1, e2⟩ := my_v hh.1 hhy.1 t2 eI hs6 eK hκ
    exact ys_leaf' (by omega) eyo hq (my_k 10 rfl (by omega) (hfl q hqn) eO) (by omega) (by omega) (by omega) (by omega) e0 (fun Q hQ' => yl_10 (y := y) (by omega) e1 hκ ey (hy2 hhy.1 e2) (fun _ _ => hQ' _ _ _ _ _ _ _ _ _ _ _ _ _ _ _ _ _ _ _ _ _ _ _ _ _ _ _ _ _ _ _ _ _ _ _ _ _ _ _ _ _ _ _ _ _ hQ) (fun w => absurd w (by omega)))
