/-! ===== too much was counted: for all states of Y ===== -/
theorem rm_tiredF {T : List Nat → Option vv_L} {nf bo np : Nat} {K0 N0 Z0 D0 I0 W0 P0 : Nat → Int32} {xst xow xin xpa xfi xfr xno xsi xan xkn xen xco xrm xac : Int32} {K N Z D Im W P vS pO pX pI fS fP fI fU fR fO fA fH fG fN aS qL qR qP : Nat → Int32} {st : Nat} {V al : Nat → Prop} {g : Nat} {pa : List Nat} {n c rm a : Nat}
    (hX : md_X V al g pa bo np n c rm a st xfr xno xsi xen xco xrm xac K N Z D Im W P K0 N0 Z0 D0 I0 W0 P0 pO pX fP fU fR fO fA fH fG) (hv : mv_X V n xsi xan pO fP fI fH fN) (ha : ma_X V a aS)
    (hM : ∀ (mk0 pd0 : Nat) (v0 : SY), kn_F T np nf pO pX pI fS mk0 pd0 v0 → rm_M V pa g np n c rm a st xsi xan K N Z D W P pO pX pI fP fI fO fA fH fG fN aS mk0 pd0 v0) (es : xsi = 0) {K' N' Z' fP' fI' fU' fR' fO' fA' fH' fG' fN' : Nat → Int32} {xfr' xno' xsi' xan' xrm' : Int32} (hK : ∀ s, V s ∨ s < 53 → K' s = K s ∧ N' s = N s ∧ Z' s = Z s)
    (hYw : ∀ (mk0 pd0 mk pd nd : Nat) (yhe yvm : Int32) (yin : Int64) (yfi yde yic : Int32) (ys : Nat → Int64) (yk yn yp yf iK iN : Nat → Int32) (o0 l0 kS0 d0 : Nat → Int32) (pl0 : Nat → Int64) (yma ypo yap yas yto : Int32) (yan : Int64) (yco yti yna yac yen : Int32) (o l kS d : Nat → Int32) (pl : Nat → Int64) (yo : Nat → Int32) (yi : Nat → Int64) (yw ya y1 y2 : Nat → Int32) (yK : Nat → Int64) (yW : Nat → Int32) (yL : Nat → Int64) (yq nm : Nat → Int32) (nv : Nat → Int64) (no : Nat → Int32) (yA lf rt : Nat → Int64), md_Y V pa g np n c rm a st mk pd nd mk0 pd0 xsi xan K N Z D W P pO pX pI fP fI fO fA fH fG fN aS yma ypo yap yas yto yan yco yti yna yac yen o l kS d pl yk yn yp yo yi yw ya y1 y2 yK yW yL yq nm nv no yA o0 l0 kS0 d0 pl0 → ∀ Q : SY → Prop, (∀ (ypo' yas' yto' : Int32) (yan' : Int64) (ya' y1' y2' : Nat → Int32) (yK' : Nat → Int64) (yW' : Nat → Int32) (yL' lf' rt' : Nat → Int64), Q (yma, ypo', yhe, yvm, yin, yfi, yde, yap, yas', yto', yan', yco, 1, yna, yac, yen, yic, o, l, kS, d, pl, ys, yk, yn, yp, yf, yo, yi, yw, ya', y1', y2', yK', yW', yL', yq, nm, nv, no, yA, lf', rt', iK, iN)) → wpY_start Q (yma, ypo, yhe, yvm, yin, yfi, yde, yap, yas, yto, yan, yco, yti, yna, yac, yen, yic, o, l, kS, d, pl, ys, yk, yn, yp, yf, yo, yi, yw, ya, y1, y2, yK, yW, yL, yq, nm, nv, no, yA, lf, rt, iK, iN) (nI g)) :
    rm_E T nf bo np K0 N0 Z0 D0 I0 W0 P0 (xst, xow, xin, xpa, xfi, xfr', xno', xsi', xan', xkn, 3, xco, xrm', xac, K', N', Z', D, Im, W, P, vS, pO, pX, pI, fS, fP', fI', fU', fR', fO', fA', fH', fG', fN', aS, qL, qR, qP) := by
  subst es
  obtain ⟨hg, hn, hst, hlen, _⟩ := mx_f hX
  have hX0 := hX
  obtain ⟨⟨x1, x2, x3, x4, x5, x6, x7, x8, x9, x10⟩, hs, hh, hb, hf, hr, hG, hpot⟩ := hX
  refine rm_end (xan := xan) (fI := fI) (fN := fN) (aS := aS) (a' := a) hX0 (by decide) x6 (by omega) ha hK (fun mk0 pd0 v0 hF => ?_)
  have hm := hM mk0 pd0 v0 hF
  obtain ⟨yma0, ypo0, yhe0, yvm0, yin0, yfi0, yde0, yap0, yas0, yto0, yan0, yco0, yti0, yna0, yac0, yen0, yic0, o0, l0, kS0, d0, pl0, ys0, yk0, yn0, yp0, yf0, yo0, yi0, yw0, ya0, y10, y20, yK0, yW0, yL0, yq0, nm0, nv0, no0, yA0, lf0, rt0, iK0, iN0⟩ := v0
  intro post hp
  refine hm.1 rfl post ⟨2, fun mk pd nd yma ypo yap yas yto yan yco yti yna yac yen o l kS d pl yo yi yw ya y1 y2 yK yW yL yq nm nv no yA lf rt hY => ?_⟩
  have hY0 := hY
  obtain ⟨⟨b1, b2, b3, b4, b5, b6, b7, b8, b9, b10, b11⟩, hfl, hen, hhy, hby, hfr, han, hq0, hq1, hz1, hz2, hz3⟩ := hY
  obtain ⟨ea, eq⟩ := hq0 rfl
  obtain ⟨c1, c2, c3, c4, c5, c6, c7⟩ := hhy
  refine ct_F b9 ea (by omega) eq.1 (hYw mk0 pd0 mk pd nd yhe0 yvm0 yin0 yfi0 yde0 yic0 ys0 yk0 yn0 yp0 yf0 iK0 iN0 o0 l0 kS0 d0 pl0 yma ypo yap yas yto yan yco yti yna yac yen o l kS d pl yo yi yw ya y1 y2 yK yW yL yq nm nv no yA lf rt hY0 _ (fun ypo' yas' yto' yan' ya' y1' y2' yK' yW' yL' lf' rt' => ?_))
  exact ct_tired rfl (hp mk pd (nI mk0) (nI pd0) yap yas' yto' yan' yco 1 yna yac 3 o l kS d pl yo yi yw ya' y1' y2' yK' yW' yL' yq nm nv no yA lf' rt' ⟨rfl, b4.trans x4.symm, b8.trans x6.symm, c1, c6, c7, han⟩)
theorem rm_tiredT {p : Nat} {pa' : List Nat} {T : List Nat → Option vv_L} {nf bo np : Nat} {K0 N0 Z0 D0 I0 W0 P0 : Nat → Int32} {xst xow xin xpa xfi xfr xno xsi xan xkn xen xco xrm xac : Int32} {K N Z D Im W P vS pO pX pI fS fP fI fU fR fO fA fH fG fN aS qL qR qP : Nat → Int32} {st : Nat} {V al : Nat → Prop} {g : Nat} {n c rm a : Nat}
    (hX : md_X V al g (p :: pa') bo np n c rm a st xfr xno xsi xen xco xrm xac K N Z D Im W P K0 N0 Z0 D0 I0 W0 P0 pO pX fP fU fR fO fA fH fG) (hv : mv_X V n xsi xan pO fP fI fH fN) (ha : ma_X V a aS)
    (hM : ∀ (mk0 pd0 : Nat) (v0 : SY), kn_F T np nf pO pX pI fS mk0 pd0 v0 → rm_M V (p :: pa') g np n c rm a st xsi xan K N Z D W P pO pX pI fP fI fO fA fH fG fN aS mk0 pd0 v0) (es : xsi ≠ 0) {K' N' Z' fP' fI' fU' fR' fO' fA' fH' fG' fN' : Nat → Int32} {xfr' xno' xsi' xan' xrm' : Int32} (hK : ∀ s, V s ∨ s < 53 → K' s = K s ∧ N' s = N s ∧ Z' s = Z s)
    (hYw : ∀ (mk0 pd0 mk pd nd : Nat) (yhe yvm : Int32) (yin : Int64) (yfi yde yic : Int32) (ys : Nat → Int64) (yk yn yp yf iK iN : Nat → Int32) (o0 l0 kS0 d0 : Nat → Int32) (pl0 : Nat → Int64) (yma ypo yap yas yto : Int32) (yan : Int64) (yco yti yna yac yen : Int32) (o l kS d : Nat → Int32) (pl : Nat → Int64) (yo : Nat → Int32) (yi : Nat → Int64) (yw ya y1 y2 : Nat → Int32) (yK : Nat → Int64) (yW : Nat → Int32) (yL : Nat → Int64) (yq nm : Nat → Int32) (nv : Nat → Int64) (no : Nat → Int32) (yA lf rt : Nat → Int64), md_Y V (p :: pa') g np n c rm a st mk pd nd mk0 pd0 xsi xan K N Z D W P pO pX pI fP fI fO fA fH fG fN aS yma ypo yap yas yto yan yco yti yna yac yen o l kS d pl yk yn yp yo yi yw ya y1 y2 yK yW yL yq nm nv no yA o0 l0 kS0 d0 pl0 → ∀ Q : SY → Prop, (∀ (ypo' yas' yto' : Int32) (yan' : Int64) (ya' y1' y2' : Nat → Int32) (yK' : Nat → Int64) (yW' : Nat → Int32) (yL' lf' rt' : Nat → Int64) (yna' : Int32) (nm' : Nat → Int32) (nv' : Nat → Int64) (no' : Nat → Int32), Q (yma, ypo', yhe, yvm, yin, yfi, yde, yap, yas', yto', yan', yco, 1, yna', yac, yen, yic, o, l, kS, d, pl, ys, yk, yn, yp, yf, yo, yi, yw, ya', y1', y2', yK', yW', yL', yq, nm', nv', no', yA, lf', rt', iK, iN)) → wpY_goOn Q (yma, ypo, yhe, yvm, yin, yfi, yde, yap, yas, yto, yan, yco, yti, yna, yac, yen, yic, o, l, kS, d, pl, ys, yk, yn, yp, yf, yo, yi, yw, ya, y1, y2, yK, yW, yL, yq, nm, nv, no, yA, lf, rt, iK, iN) (nI p)) :
    rm_E T nf bo np K0 N0 Z0 D0 I0 W0 P0 (xst, xow, xin, xpa, xfi, xfr', xno', xsi', xan', xkn, 3, xco, xrm', xac, K', N', Z', D, Im, W, P, vS, pO, pX, pI, fS, fP', fI', fU', fR', fO', fA', fH', fG', fN', aS, qL, qR, qP) := by
  obtain ⟨hg, hn, hst, hlen, _⟩ := mx_f hX
  have hX0 := hX
  obtain ⟨⟨x1, x2, x3, x4, x5, x6, x7, x8, x9, x10⟩, hs, hh, hb, hf, hr, hG, hpot⟩ := hX
  refine rm_end (xan := xan) (fI := fI) (fN := fN) (aS := aS) (a' := a) hX0 (by decide) x6 (by omega) ha hK (fun mk0 pd0 v0 hF => ?_)
  have hm := hM mk0 pd0 v0 hF
  obtain ⟨yma0, ypo0, yhe0, yvm0, yin0, yfi0, yde0, yap0, yas0, yto0, yan0, yco0, yti0, yna0, yac0, yen0, yic0, o0, l0, kS0, d0, pl0, ys0, yk0, yn0, yp0, yf0, yo0, yi0, yw0, ya0, y10, y20, yK0, yW0, yL0, yq0, nm0, nv0, no0, yA0, lf0, rt0, iK0, iN0⟩ := v0
  intro post hp
  refine hm.2 es post ⟨2, fun mk pd nd yma ypo yap yas yto yan yco yti yna yac yen o l kS d pl yo yi yw ya y1 y2 yK yW yL yq nm nv no yA lf rt hY => ?_⟩
  have hY0 := hY
  obtain ⟨⟨b1, b2, b3, b4, b5, b6, b7, b8, b9, b10, b11⟩, hfl, hen, hhy, hby, hfr, han, hq0, hq1, hz1, hz2, hz3⟩ := hY
  obtain ⟨ea, eq⟩ := hq1 es
  obtain ⟨c1, c2, c3, c4, c5, c6, c7⟩ := hhy
  have hl2 : pa'.length + 1 = (p :: pa').length := rfl
  refine ct_T b9 b5 (ea.trans (by rw [hl2])) (by omega) eq.1 (hYw mk0 pd0 mk pd nd yhe0 yvm0 yin0 yfi0 yde0 yic0 ys0 yk0 yn0 yp0 yf0 iK0 iN0 o0 l0 kS0 d0 pl0 yma ypo yap yas yto yan yco yti yna yac yen o l kS d pl yo yi yw ya y1 y2 yK yW yL yq nm nv no yA lf rt hY0 _ (fun ypo' yas' yto' yan' ya' y1' y2' yK' yW' yL' lf' rt' yna' nm' nv' no' => ?_))
  exact ct_tired rfl (hp mk pd (nI mk0) (nI pd0) yap yas' yto' yan' yco 1 yna' yac 3 o l kS d pl yo yi yw ya' y1' y2' yK' yW' yL' yq nm' nv' no' yA lf' rt' ⟨rfl, b4.trans x4.symm, b8.trans x6.symm, c1, c6, c7, han⟩)
