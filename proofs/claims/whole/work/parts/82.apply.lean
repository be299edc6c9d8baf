/-! ===== a later filter within is applied ===== -/
theorem fr_S_ap {R : Int32 → Int64 → Prop} {E : Int32 → Nat → Prop} {Dp : Int32 → Nat → Nat → Prop} {oq st n : Nat} {x fi gi ac ou he he' ya y1 y2 yW : Int32} {yK yL yK' : Int64} (h : fr_S R E Dp oq x st fi gi ac ou he ya y1 y2 yW yK yL) (h1 : 21 ≤ oq) (h2 : oq ≤ 34) (hn : n < 600) (hO : ou ≠ -1) (hne : nI n ≠ ou) (hR : 23 ≤ oq → oq ≤ 29 → R he' yK') : fr_S R E Dp oq x (st + 1) fi gi (nI n) ou he' ya y1 (nI n) yW yK' yL := by
  obtain ⟨_, _, _, _, _, _, h7, _, h9, _⟩ := h
  refine ⟨fun w => absurd w (by omega), fun w => absurd w (by omega), fun w => absurd w (by omega), fun _ w => absurd w (by omega), fun w => absurd w (by omega), fun w => absurd w (by omega), fun _ _ => ⟨(h7 h1 h2).1, Or.inr ⟨rfl, fr_n1 hn, hO, hne⟩⟩, hR, fun w => ?_, fun w => absurd w (by omega)⟩
  rcases h9 w with z | ⟨z, g, z1, z2⟩
  · exact Or.inl z
  · exact Or.inr ⟨z, g, z1, by omega⟩
theorem cq_ap {p : Nat} {pa' : List Nat} {post : SX → Prop} {T : List Nat → Option vv_L} {nf bo np : Nat} {K0 N0 Z0 D0 I0 W0 P0 : Nat → Int32} {xst xow xin xpa xfi xfr xno xsi xan xkn xen xco xrm xac : Int32} {K N Z D Im W P vS pO pX pI fS fP fI fU fR fO fA fH fG fN aS qL qR qP : Nat → Int32} {st : Nat} {V al : Nat → Prop} {g : Nat} {n c rm a : Nat}
    (hX : md_X V al g (p :: pa') bo np n c rm a st xfr xno xsi xen xco xrm xac K N Z D Im W P K0 N0 Z0 D0 I0 W0 P0 pO pX fP fU fR fO fA fH fG) (hv : mv_X V n xsi xan pO fP fI fH fN) (ha : ma_X V a aS)
    (hM : ∀ (mk0 pd0 : Nat) (v0 : SY), kn_F T np nf pO pX pI fS mk0 pd0 v0 → rm_M V (p :: pa') g np n c rm a st xsi xan K N Z D W P pO pX pI fP fI fO fA fH fG fN aS mk0 pd0 v0)
    (H : lp_G T nf bo np K0 N0 Z0 D0 I0 W0 P0 post xst xow xin xpa xfi xkn vS pO pX pI fS st) {q : Nat} (eP : fP p = nI q) (hqn : q < np) (hq : q < 40) {oq : Nat} (eO : pO q = nI oq) (ho : oq ≤ 35) (h21 : 21 ≤ oq) (es : xsi = 1 ∨ xsi = 2 ∨ xsi = 3) {al' : Nat → Prop} (hfx : fr_X pO pX np n fP fU fR fO fA fG al' (p :: pa') False) {r : Nat} {s : Int32} {fH2 fN2 : Nat → Int32} (hr : r = 1 ∨ r = 2) (har : r < fl_ar oq) (hrr : fr_ro oq (nI r) (fO p))
    (hO : oq ≠ 22 → oq ≠ 32 → al' (fO p).toNatClampNeg ∧ (fO p).toNatClampNeg ∉ p :: pa') (eH2 : ∀ f, f ≠ p → fH2 f = fH f) (eN2 : ∀ f x, f ≠ p → x < 3 → fN2 (f * 3 + x) = fN (f * 3 + x)) (hsv : ∃ s0, s = nI s0 ∧ V s0) (hH2v : ∃ s0, fH2 p = nI s0 ∧ V s0) (hN2v : ∀ x, x < 3 → ∃ s0, fN2 (p * 3 + x) = nI s0 ∧ V s0)
    (hx1 : c < 600 → ∀ Q : SX → Prop, Q (xst, xow, xin, xpa, xfi, (nI (n + 1)), (nI n), 0, xan, xkn, xen, (nI (c + 1)), xrm, xac, K, N, Z, D, Im, W, P, vS, pO, pX, pI, fS, (upd fP n (pI (q * 3 + r))), (upd fI n s), (upd fU n (nI p)), (upd fR n (nI r)), (upd fO n (-1)), (upd (upd fA n (-1)) p (nI n)), (upd fH2 n 0), (upd fG n 0), (fn_c fN2 n p 3), aS, qL, qR, qP) → wpX_hearInner Q (xst, xow, xin, xpa, xfi, xfr, xno, xsi, xan, xkn, xen, xco, xrm, xac, K, N, Z, D, Im, W, P, vS, pO, pX, pI, fS, fP, fI, fU, fR, fO, fA, fH, fG, fN, aS, qL, qR, qP))
    (hx2 : c = 600 → ∀ Q : SX → Prop, Q (xst, xow, xin, xpa, xfi, xfr, (nI p), xsi, xan, xkn, 3, xco, xrm, xac, K, N, Z, D, Im, W, P, vS, pO, pX, pI, fS, fP, fI, fU, fR, fO, fA, fH2, fG, fN2, aS, qL, qR, qP) → wpX_hearInner Q (xst, xow, xin, xpa, xfi, xfr, xno, xsi, xan, xkn, xen, xco, xrm, xac, K, N, Z, D, Im, W, P, vS, pO, pX, pI, fS, fP, fI, fU, fR, fO, fA, fH, fG, fN, aS, qL, qR, qP))
    (hYw : ∀ (mk0 pd0 mk pd nd : Nat) (yhe yvm : Int32) (yin : Int64) (yfi yde yic : Int32) (ys : Nat → Int64) (yk yn yp yf iK iN : Nat → Int32) (o0 l0 kS0 d0 : Nat → Int32) (pl0 : Nat → Int64) (yma ypo yap yas yto : Int32) (yan : Int64) (yco yti yna yac yen : Int32) (o l kS d : Nat → Int32) (pl : Nat → Int64) (yo : Nat → Int32) (yi : Nat → Int64) (yw ya y1 y2 : Nat → Int32) (yK : Nat → Int64) (yW : Nat → Int32) (yL : Nat → Int64) (yq nm : Nat → Int32) (nv : Nat → Int64) (no : Nat → Int32) (yA lf rt : Nat → Int64), md_Y V (p :: pa') g np n c rm a st mk pd nd mk0 pd0 xsi xan K N Z D W P pO pX pI fP fI fO fA fH fG fN aS yma ypo yap yas yto yan yco yti yna yac yen o l kS d pl yk yn yp yo yi yw ya y1 y2 yK yW yL yq nm nv no yA o0 l0 kS0 d0 pl0 → ∃ (w : Int64) (wi : Int32) (nd' : Nat) (ya2 : Nat → Int32) (yK2 yL2 : Nat → Int64) (nm2 : Nat → Int32) (nv2 : Nat → Int64) (no2 : Nat → Int32),
      (vv_R V K N Z D P mk o l kS d pl s w ∧ nd ≤ nd' ∧ nd' ≤ n + 1 ∧ en_ok nd' no2 ∧ en_at nd' wi ∧ (∀ b x, en_at nd b → en_e nm2 no2 nv2 b x = en_e nm no nv b x) ∧ (∀ f, f ≠ p → ya2 f = ya f ∧ yK2 f = yK f ∧ yL2 f = yL f) ∧
        (∀ x, x < 3 → vv_R V K N Z D P mk o l kS d pl (fN2 (p * 3 + x)) (en_e nm2 no2 nv2 wi x)) ∧
        (∀ x, x < 3 → vv_R V K N Z D P mk o l kS d pl (fN2 (p * 3 + x)) (en_e nm no nv (yw p) x) ∨ ((oq = 33 ∨ oq = 35) ∧ pX q = nI x ∧ y1 p ≠ -1)) ∧
        (n < 600 → fr_S (vv_R V K N Z D P mk o l kS d pl) (md_ea Z) (md_dp Z W P) oq (pX q) (st + 1) (fI p) (fG p) (nI n) (fO p) (fH2 p) (ya2 p) (y1 p) (nI n) (yW p) (yK2 p) (yL2 p))) ∧
      ∀ (Q : SY → Prop) (yma' ypo' yhe' yvm' : Int32) (yin' : Int64) (yfi' yde' yap' yas' yto' : Int32) (yan' : Int64) (yco' yti' yna' yac' yen' yic' : Int32) (o' l' kS' d' : Nat → Int32) (pl' ys' : Nat → Int64) (yk' yn' yp' yf' yo' : Nat → Int32) (yi' : Nat → Int64) (yw' ya' y1' y2' : Nat → Int32) (yK' : Nat → Int64) (yW' : Nat → Int32) (yL' : Nat → Int64) (yq' nm' : Nat → Int32) (nv' : Nat → Int64) (no' : Nat → Int32) (yA' lf' rt' : Nat → Int64) (iK' iN' : Nat → Int32), (∀ Q' : SY → Prop, Q' (yma', ypo', yhe', yvm', yin', yfi', yde', yap', yas', yto', yan', yco', yti', yna', yac', yen', yic', o', l', kS', d', pl', ys', yk', yn', yp', yf', yo', yi', yw', ya', y1', y2', yK', yW', yL', yq', nm', nv', no', yA', lf', rt', iK', iN') → wpY_askSecond Q' (yma, ypo, yhe, yvm, yin, yfi, yde, yap, yas, yto, yan, yco, yti, (nI nd'), yac, yen, yic, o, l, kS, d, pl, ys, yk, yn, yp, yf, yo, yi, yw, ya2, y1, y2, yK2, yW, yL2, yq, nm2, nv2, no2, yA, lf, rt, iK, iN) (nI p) (nI r) w wi) → Q (yma', ypo', yhe', yvm', yin', yfi', yde', yap', yas', yto', yan', yco', yti', yna', yac', yen', yic', o', l', kS', d', pl', ys', yk', yn', yp', yf', yo', yi', yw', ya', y1', y2', yK', yW', yL', yq', nm', nv', no', yA', lf', rt', iK', iN') → wpY_goOn Q (yma, ypo, yhe, yvm, yin, yfi, yde, yap, yas, yto, yan, yco, yti, yna, yac, yen, yic, o, l, kS, d, pl, ys, yk, yn, yp, yf, yo, yi, yw, ya, y1, y2, yK, yW, yL, yq, nm, nv, no, yA, lf, rt, iK, iN) (nI p)) : wX_workOut_68 post (1000001 - st) (nI st) xst xow xin xpa xfi xfr xno xsi xan xkn xen xco xrm xac K N Z D Im W P vS pO pX pI fS fP fI fU fR fO fA fH fG fN aS qL qR qP := by
  have nx0 : xsi ≠ 0 := by rcases es with e | e | e <;> rw [e] <;> decide
  obtain ⟨hpg, hgn, hn6, hU, hA, hrun, hro⟩ := mx_p hX
  obtain ⟨_, _, hst, hlen, _⟩ := mx_f hX
  have hlen2 : pa'.length + 2 ≤ 40 := by
    have := hlen
    rw [List.length_cons] at this
    omega
  have hX0 := hX
  obtain ⟨⟨x1, x2, x3, x4, x5, x6, x7, x8, x9, x10⟩, hs, hh, hb, hf, hr, hG, hpot⟩ := hX
  have hpn : p < n := by omega
  have hfo := mx_fo eP hq eO (by omega)
  have hr0 : r ≠ 0 := by omega
  have hr3 : r < 3 := by omega
  obtain ⟨yk', hfp⟩ := H.1 q hqn
  obtain ⟨oq', p1, p2, p3, p4, _⟩ := hfp
  have : oq' = oq := (nI_eq (by omega) (by omega)).mp (p2.symm.trans eO)
  subst this
  obtain ⟨cq, c1, c2⟩ := p4 r har
  have hph : 20 ≤ md_ph xsi (pa'.length + 1 + 1) := by
    rcases es with w | w | w <;> rw [w]
    · rw [md_ph_1]; omega
    · rw [md_ph_2]; omega
    · rw [md_ph_3]; omega
  rw [List.length_cons] at hlen
  by_cases hc : c < 600
  · have hn600 : n < 600 := by omega
    refine xs_inner (by omega) x3 es x2 (by omega) hU (by omega) (hx1 hc _ ?_)
    refine lp_K H (Nat.le_refl _) (rm_new (p := p) (pa' := pa') (pa := p :: pa') (q := q) (r := r) (cq := cq) (x0 := 0) (fH2 := fH2) (fN2 := fN2) (fO' := upd fO n (-1)) hX0 hv ha hM (by omega) (by rw [List.length_cons]; exact hph) hfx hc hn600 (by omega) (by omega) (fun _ => by rw [hfo]; exact hrr) hrun eP hq hr3 c1 c2 hqn (fun f a b => pk_un b) pk_us (fun w => absurd w hr0) (fun _ => pk_un (by omega)) (fun _ a b _ => hO (by rw [← hfo]; exact a) (by rw [← hfo]; exact b)) eH2 eN2 hsv hH2v hN2v (fun mk0 pd0 mk pd nd yhe yvm yin yfi yde yic ys yk yn yp yf iK iN o0 l0 kS0 d0 pl0 yma ypo yap yas yto yan yco yti yna yac yen o l kS d pl yo yi yw ya y1 y2 yK yW yL yq nm nv no yA lf rt hY post m hu => ?_))
    obtain ⟨w, wi, nd', ya2, yK2, yL2, nm2, nv2, no2, ⟨u2, u3, u4, u5, u6, u7, u8, u9, u10, u11⟩, hgo⟩ := hYw mk0 pd0 mk pd nd yhe yvm yin yfi yde yic ys yk yn yp yf iK iN o0 l0 kS0 d0 pl0 yma ypo yap yas yto yan yco yti yna yac yen o l kS d pl yo yi yw ya y1 y2 yK yW yL yq nm nv no yA lf rt hY
    obtain ⟨⟨b1, b2, b3, b4, b5, b6, b7, b8, b9, b10, b11⟩, hfl, hen, hhy, hby, hfr, han, hq0, hq1, hz1, hz2, hz3⟩ := hY
    obtain ⟨t1, t2, t3, t4, t5⟩ := hfr p hpn
    obtain ⟨ey, eq⟩ := hq1 nx0
    rw [List.length_cons] at ey
    have eyo := t1.symm.trans eP
    rw [hfo] at t5
    refine ⟨fun w => absurd w nx0, fun _ => ?_⟩
    refine ct_T b9 b5 ey (by omega) eq.1 (hgo _ _ _ _ _ _ _ _ _ _ _ _ _ _ _ _ _ _ _ _ _ _ _ _ _ _ _ _ _ _ _ _ _ _ _ _ _ _ _ _ _ _ _ _ _ _ (fun Q hQ => yr_askSecond (n := n) (c := c) (a := pa'.length + 1) (r := r) b3 b4 ey hn600 hc (by omega) hpn eyo hq hr3 hQ) ?_)
    refine ct_asked ey (by omega) rfl b5 ?_
    refine hu w wi nd' ya2 (upd y1 n (-1)) (upd (upd y2 n (-1)) p (nI n)) yK2 yL2 nm2 nv2 no2 ⟨eq, u2, u3, u4, u5, u6, u7, u8, fun f a b => ⟨pk_un b, by rw [pk_un a, pk_un b]⟩, pk_us, by rw [pk_un (show n ≠ p by omega), pk_us], u9, fun x hx => ?_, ?_⟩
    · rw [pk_un (show p ≠ n by omega), hfo]
      exact u10 x hx
    · rw [pk_us, pk_un (show p ≠ n by omega), pk_un (show p ≠ n by omega), hfo]
      exact u11 hn600
  · have hc6 : c = 600 := by omega
    subst hc6
    refine xs_inner (by omega) x3 es x2 (by omega) hU (by omega) (hx2 rfl _ ?_)
    refine lp_E H (by omega) (rm_tiredT hX0 hv ha hM nx0 (fun _ _ => ⟨rfl, rfl, rfl⟩) (fun mk0 pd0 mk pd nd yhe yvm yin yfi yde yic ys yk yn yp yf iK iN o0 l0 kS0 d0 pl0 yma ypo yap yas yto yan yco yti yna yac yen o l kS d pl yo yi yw ya y1 y2 yK yW yL yq nm nv no yA lf rt hY Q hQ => ?_))
    obtain ⟨w, wi, nd', ya2, yK2, yL2, nm2, nv2, no2, _, hgo⟩ := hYw mk0 pd0 mk pd nd yhe yvm yin yfi yde yic ys yk yn yp yf iK iN o0 l0 kS0 d0 pl0 yma ypo yap yas yto yan yco yti yna yac yen o l kS d pl yo yi yw ya y1 y2 yK yW yL yq nm nv no yA lf rt hY
    obtain ⟨⟨b1, b2, b3, b4, b5, b6, b7, b8, b9, b10, b11⟩, hfl, hen, hhy, hby, hfr, han, hq0, hq1, hz1, hz2, hz3⟩ := hY
    obtain ⟨t1, t2, t3, t4, t5⟩ := hfr p hpn
    obtain ⟨ey, eq⟩ := hq1 nx0
    rw [List.length_cons] at ey
    have eyo := t1.symm.trans eP
    rw [hfo] at t5
    exact hgo _ _ _ _ _ _ _ _ _ _ _ _ _ _ _ _ _ _ _ _ _ _ _ _ _ _ _ _ _ _ _ _ _ _ _ _ _ _ _ _ _ _ _ _ _ _ (fun Q hQ => yr_askSecond_t (r := r) b4 (by omega) eyo hq hr3 hQ) (hQ ypo yas yto yan ya2 y1 _ yK2 yW yL2 lf rt (nI nd') nm2 nv2 no2)
/-- the names stay -/
theorem my_t4 {R : Int32 → Int64 → Prop} {fNp : Nat → Int32} {env : Nat → Int64} {oq : Nat} {px y1 : Int32} (t4 : ∀ x, x < 3 → R (fNp x) (env x) ∨ ((oq = 33 ∨ oq = 35) ∧ px = nI x ∧ y1 ≠ -1)) (h : ¬ (oq = 33 ∨ oq = 35)) : ∀ x, x < 3 → R (fNp x) (env x) := fun x hx => (t4 x hx).elim id (fun z => absurd z.1 h)
theorem cq_p21 {p : Nat} {pa' : List Nat} {post : SX → Prop} {T : List Nat → Option vv_L} {nf bo np : Nat} {K0 N0 Z0 D0 I0 W0 P0 : Nat → Int32} {xst xow xin xpa xfi xfr xno xsi xan xkn xen xco xrm xac : Int32} {K N Z D Im W P vS pO pX pI fS fP fI fU fR fO fA fH fG fN aS qL qR qP : Nat → Int32} {st : Nat} {V al : Nat → Prop} {g : Nat} {n c rm a : Nat}
    (hX : md_X V al g (p :: pa') bo np n c rm a st xfr xno xsi xen xco xrm xac K N Z D Im W P K0 N0 Z0 D0 I0 W0 P0 pO pX fP fU fR fO fA fH fG) (hv : mv_X V n xsi xan pO fP fI fH fN) (ha : ma_X V a aS)
    (hM : ∀ (mk0 pd0 : Nat) (v0 : SY), kn_F T np nf pO pX pI fS mk0 pd0 v0 → rm_M V (p :: pa') g np n c rm a st xsi xan K N Z D W P pO pX pI fP fI fO fA fH fG fN aS mk0 pd0 v0)
    (H : lp_G T nf bo np K0 N0 Z0 D0 I0 W0 P0 post xst xow xin xpa xfi xkn vS pO pX pI fS st) {q : Nat} (eP : fP p = nI q) (hqn : q < np) (hq : q < 40) (eO : pO q = nI 21) (es : xsi = 1) (r0 : fR g = 0) : wX_workOut_68 post (1000001 - st) (nI st) xst xow xin xpa xfi xfr xno xsi xan xkn xen xco xrm xac K N Z D Im W P vS pO pX pI fS fP fI fU fR fO fA fH fG fN aS qL qR qP := by
  subst es
  obtain ⟨hpg, hgn, hn6, hU, hA, hrun, hro⟩ := mx_p hX
  obtain ⟨_, _, hst, hlen, _⟩ := mx_f hX
  have hlen2 : pa'.length + 2 ≤ 40 := by
    have := hlen
    rw [List.length_cons] at this
    omega
  have hX0 := hX
  obtain ⟨⟨x1, x2, x3, x4, x5, x6, x7, x8, x9, x10⟩, hs, hh, hb, hf, hr, hG, hpot⟩ := hX
  have hpn : p < n := by omega
  have hfo := mx_fo eP hq eO (by omega)
  obtain ⟨s, ea, hVs⟩ := hv.1 rfl
  obtain ⟨hs6, κ, hκ, eK⟩ := vx_k hh.1 hVs
  obtain ⟨gv, g1, g2⟩ := hG p hpn
  have rO : fO p = nI g := by
    rcases hro with ⟨_, rO⟩ | ⟨r1, _⟩
    · exact rO
    · exact (r_ne r0 r1).elim
  have hAO : fA p = fO p := hA.trans rO.symm
  have hal : al g := hf.2.2.2.1 g List.mem_cons_self
  have hgl : g ∉ p :: pa' := fun w => by have := fr_pa_lt _ _ hf.2.2.1 g w; omega
  refine cq_ap (r := 1) (s := xan) (fH2 := fH) (fN2 := fN) hX0 hv ha hM H eP hqn hq eO (by omega) (by omega) (Or.inl rfl) (fr_X_pop (fr_X_m hf (fun _ => Or.inr rfl))) (by omega) (by decide) ⟨by omega, fun _ => by rw [rO]; exact fr_n1 (by omega), fun w => absurd w (by omega)⟩ (fun _ _ => by rw [rO, nI_clamp (by omega)]; exact ⟨hal, hgl⟩) (fun _ _ => rfl) (fun _ _ _ _ => rfl) (⟨s, ea, hVs⟩) ((hv.2 p hpn).2.1 (by omega)) ((hv.2 p hpn).2.2)
    (fun hc Q hQ => xh_ans0 x2 (by omega) hU (by omega) r0 eP hq eO (by omega) rfl (fun Q hQ => xo_21 rfl (by omega) ea hs6 eK hκ (fun Q hQ => xr_apply (n := n) (c := c) (r := 1) x1 rfl x4 (by omega) hc hpn eP hq (by omega) (fun w => absurd w (by omega)) (fun _ => hQ)) hQ) hQ)
    (fun hc Q hQ => xh_ans0 x2 (by omega) hU (by omega) r0 eP hq eO (by omega) rfl (fun Q hQ => xo_21 rfl (by omega) ea hs6 eK hκ (fun Q hQ => xr_apply_t (x4.trans (by rw [hc])) hQ) hQ) hQ)
    (fun mk0 pd0 mk pd nd yhe yvm yin yfi yde yic ys yk yn yp yf iK iN o0 l0 kS0 d0 pl0 yma ypo yap yas yto yan yco yti yna yac yen o l kS d pl yo yi yw ya y1 y2 yK yW yL yq nm nv no yA lf rt hY => ?_)
  obtain ⟨⟨b1, b2, b3, b4, b5, b6, b7, b8, b9, b10, b11⟩, hfl, hen, hhy, hby, hfr, han, hq0, hq1, hz1, hz2, hz3⟩ := hY
  obtain ⟨t1, t2, t3, t4, t5⟩ := hfr p hpn
  obtain ⟨ey, eq⟩ := hq1 (by decide)
  rw [List.length_cons] at ey
  have eyo := t1.symm.trans eP
  rw [hfo] at t5
  obtain ⟨et, hRa⟩ := hz1 rfl
  subst et
  obtain ⟨x, e1, e2⟩ := my_v hh.1 hhy.1 hRa ea hs6 eK hκ
  rw [eP, nI_clamp (show q < 2 ^ 31 by omega)] at t5
  rw [hfo, eP, nI_clamp (show q < 2 ^ 31 by omega)] at t4
  have t4' : ∀ x, x < 3 → vv_R V K N Z D P mk o l kS d pl (fN (p * 3 + x)) (en_e nm no nv (yw p) x) := fun x hx => (t4 x hx).elim id (fun z => absurd z.1 (by omega))
  have a0 := (my_a0 t5 (by omega) (by omega) hAO).1
  subst b6
  refine ⟨yan, yw p, nd, ya, yK, yL, nm, nv, no, ⟨hRa, Nat.le_refl _, by omega, hen, t3, fun _ _ _ => rfl, fun f hf => ⟨rfl, rfl, rfl⟩, t4', fun x hx => Or.inl (t4' x hx), fun hn => fr_S_ap t5 (by omega) (by omega) hn (by rw [rO]; exact fr_n1 (by omega)) (fun e => absurd ((nI_eq (by omega) (by omega)).mp (e.trans rO)) (by omega)) (fun a b => absurd b (by omega))⟩, fun Q _ _ _ _ _ _ _ _ _ _ _ _ _ _ _ _ _ _ _ _ _ _ _ _ _ _ _ _ _ _ _ _ _ _ _ _ _ _ _ _ _ _ _ _ _ hA hp => ?_⟩
  exact yf_30 (by omega) eyo hq (my_k 30 rfl (by omega) (hfl q hqn) eO) a0 rfl hA hp
theorem cq_p23 {p : Nat} {pa' : List Nat} {post : SX → Prop} {T : List Nat → Option vv_L} {nf bo np : Nat} {K0 N0 Z0 D0 I0 W0 P0 : Nat → Int32} {xst xow xin xpa xfi xfr xno xsi xan xkn xen xco xrm xac : Int32} {K N Z D Im W P vS pO pX pI fS fP fI fU fR fO fA fH fG fN aS qL qR qP : Nat → Int32} {st : Nat} {V al : Nat → Prop} {g : Nat} {n c rm a : Nat}
    (hX : md_X V al g (p :: pa') bo np n c rm a st xfr xno xsi xen xco xrm xac K N Z D Im W P K0 N0 Z0 D0 I0 W0 P0 pO pX fP fU fR fO fA fH fG) (hv : mv_X V n xsi xan pO fP fI fH fN) (ha : ma_X V a aS)
    (hM : ∀ (mk0 pd0 : Nat) (v0 : SY), kn_F T np nf pO pX pI fS mk0 pd0 v0 → rm_M V (p :: pa') g np n c rm a st xsi xan K N Z D W P pO pX pI fP fI fO fA fH fG fN aS mk0 pd0 v0)
    (H : lp_G T nf bo np K0 N0 Z0 D0 I0 W0 P0 post xst xow xin xpa xfi xkn vS pO pX pI fS st) {q : Nat} (eP : fP p = nI q) (hqn : q < np) (hq : q < 40) (eO : pO q = nI 23) (es : xsi = 1) (r0 : fR g = 0) : wX_workOut_68 post (1000001 - st) (nI st) xst xow xin xpa xfi xfr xno xsi xan xkn xen xco xrm xac K N Z D Im W P vS pO pX pI fS fP fI fU fR fO fA fH fG fN aS qL qR qP := by
  subst es
  obtain ⟨hpg, hgn, hn6, hU, hA, hrun, hro⟩ := mx_p hX
  obtain ⟨_, _, hst, hlen, _⟩ := mx_f hX
  have hlen2 : pa'.length + 2 ≤ 40 := by
    have := hlen
    rw [List.length_cons] at this
    omega
  have hX0 := hX
  obtain ⟨⟨x1, x2, x3, x4, x5, x6, x7, x8, x9, x10⟩, hs, hh, hb, hf, hr, hG, hpot⟩ := hX
  have hpn : p < n := by omega
  have hfo := mx_fo eP hq eO (by omega)
  obtain ⟨s, ea, hVs⟩ := hv.1 rfl
  obtain ⟨hs6, κ, hκ, eK⟩ := vx_k hh.1 hVs
  obtain ⟨gv, g1, g2⟩ := hG p hpn
  have rO : fO p = nI g := by
    rcases hro with ⟨_, rO⟩ | ⟨r1, _⟩
    · exact rO
    · exact (r_ne r0 r1).elim
  have hAO : fA p = fO p := hA.trans rO.symm
  have hal : al g := hf.2.2.2.1 g List.mem_cons_self
  have hgl : g ∉ p :: pa' := fun w => by have := fr_pa_lt _ _ hf.2.2.1 g w; omega
  refine cq_ap (r := 1) (s := fI p) (fH2 := upd fH p xan) (fN2 := fN) hX0 hv ha hM H eP hqn hq eO (by omega) (by omega) (Or.inl rfl) (fr_X_pop (fr_X_m hf (fun _ => Or.inr rfl))) (by omega) (by decide) ⟨by omega, fun _ => by rw [rO]; exact fr_n1 (by omega), fun w => absurd w (by omega)⟩ (fun _ _ => by rw [rO, nI_clamp (by omega)]; exact ⟨hal, hgl⟩) (fun f hf => pk_un hf) (fun _ _ _ _ => rfl) ((hv.2 p hpn).1) (⟨s, pk_us.trans ea, hVs⟩) ((hv.2 p hpn).2.2)
    (fun hc Q hQ => xh_ans0 x2 (by omega) hU (by omega) r0 eP hq eO (by omega) rfl (fun Q hQ => xo_23 rfl (by omega) ea hs6 eK hκ (fun Q hQ => xr_apply (n := n) (c := c) (r := 1) x1 rfl x4 (by omega) hc hpn eP hq (by omega) (fun w => absurd w (by omega)) (fun _ => hQ)) hQ) hQ)
    (fun hc Q hQ => xh_ans0 x2 (by omega) hU (by omega) r0 eP hq eO (by omega) rfl (fun Q hQ => xo_23 rfl (by omega) ea hs6 eK hκ (fun Q hQ => xr_apply_t (x4.trans (by rw [hc])) hQ) hQ) hQ)
    (fun mk0 pd0 mk pd nd yhe yvm yin yfi yde yic ys yk yn yp yf iK iN o0 l0 kS0 d0 pl0 yma ypo yap yas yto yan yco yti yna yac yen o l kS d pl yo yi yw ya y1 y2 yK yW yL yq nm nv no yA lf rt hY => ?_)
  obtain ⟨⟨b1, b2, b3, b4, b5, b6, b7, b8, b9, b10, b11⟩, hfl, hen, hhy, hby, hfr, han, hq0, hq1, hz1, hz2, hz3⟩ := hY
  obtain ⟨t1, t2, t3, t4, t5⟩ := hfr p hpn
  obtain ⟨ey, eq⟩ := hq1 (by decide)
  rw [List.length_cons] at ey
  have eyo := t1.symm.trans eP
  rw [hfo] at t5
  obtain ⟨et, hRa⟩ := hz1 rfl
  subst et
  obtain ⟨x, e1, e2⟩ := my_v hh.1 hhy.1 hRa ea hs6 eK hκ
  rw [eP, nI_clamp (show q < 2 ^ 31 by omega)] at t5
  rw [hfo, eP, nI_clamp (show q < 2 ^ 31 by omega)] at t4
  have t4' : ∀ x, x < 3 → vv_R V K N Z D P mk o l kS d pl (fN (p * 3 + x)) (en_e nm no nv (yw p) x) := fun x hx => (t4 x hx).elim id (fun z => absurd z.1 (by omega))
  have a0 := (my_a0 t5 (by omega) (by omega) hAO).1
  subst b6
  refine ⟨yi p, yw p, nd, ya, vp_updL yK p yan, yL, nm, nv, no, ⟨t2, Nat.le_refl _, by omega, hen, t3, fun _ _ _ => rfl, fun f hf => ⟨rfl, pk_uLn hf, rfl⟩, t4', fun x hx => Or.inl (t4' x hx), fun hn => fr_S_ap t5 (by omega) (by omega) hn (by rw [rO]; exact fr_n1 (by omega)) (fun e => absurd ((nI_eq (by omega) (by omega)).mp (e.trans rO)) (by omega)) (fun _ _ => by rw [pk_us, pk_uLs]; exact hRa)⟩, fun Q _ _ _ _ _ _ _ _ _ _ _ _ _ _ _ _ _ _ _ _ _ _ _ _ _ _ _ _ _ _ _ _ _ _ _ _ _ _ _ _ _ _ _ _ _ hA hp => ?_⟩
  exact yf_32 (by omega) eyo hq (my_k 32 rfl (by omega) (hfl q hqn) eO) a0 rfl hA hp
theorem cq_p24 {p : Nat} {pa' : List Nat} {post : SX → Prop} {T : List Nat → Option vv_L} {nf bo np : Nat} {K0 N0 Z0 D0 I0 W0 P0 : Nat → Int32} {xst xow xin xpa xfi xfr xno xsi xan xkn xen xco xrm xac : Int32} {K N Z D Im W P vS pO pX pI fS fP fI fU fR fO fA fH fG fN aS qL qR qP : Nat → Int32} {st : Nat} {V al : Nat → Prop} {g : Nat} {n c rm a : Nat}
    (hX : md_X V al g (p :: pa') bo np n c rm a st xfr xno xsi xen xco xrm xac K N Z D Im W P K0 N0 Z0 D0 I0 W0 P0 pO pX fP fU fR fO fA fH fG) (hv : mv_X V n xsi xan pO fP fI fH fN) (ha : ma_X V a aS)
    (hM : ∀ (mk0 pd0 : Nat) (v0 : SY), kn_F T np nf pO pX pI fS mk0 pd0 v0 → rm_M V (p :: pa') g np n c rm a st xsi xan K N Z D W P pO pX pI fP fI fO fA fH fG fN aS mk0 pd0 v0)
    (H : lp_G T nf bo np K0 N0 Z0 D0 I0 W0 P0 post xst xow xin xpa xfi xkn vS pO pX pI fS st) {q : Nat} (eP : fP p = nI q) (hqn : q < np) (hq : q < 40) (eO : pO q = nI 24) (es : xsi = 1) (r0 : fR g = 0) : wX_workOut_68 post (1000001 - st) (nI st) xst xow xin xpa xfi xfr xno xsi xan xkn xen xco xrm xac K N Z D Im W P vS pO pX pI fS fP fI fU fR fO fA fH fG fN aS qL qR qP := by
  subst es
  obtain ⟨hpg, hgn, hn6, hU, hA, hrun, hro⟩ := mx_p hX
  obtain ⟨_, _, hst, hlen, _⟩ := mx_f hX
  have hlen2 : pa'.length + 2 ≤ 40 := by
    have := hlen
    rw [List.length_cons] at this
    omega
  have hX0 := hX
  obtain ⟨⟨x1, x2, x3, x4, x5, x6, x7, x8, x9, x10⟩, hs, hh, hb, hf, hr, hG, hpot⟩ := hX
  have hpn : p < n := by omega
  have hfo := mx_fo eP hq eO (by omega)
  obtain ⟨s, ea, hVs⟩ := hv.1 rfl
  obtain ⟨hs6, κ, hκ, eK⟩ := vx_k hh.1 hVs
  obtain ⟨gv, g1, g2⟩ := hG p hpn
  have rO : fO p = nI g := by
    rcases hro with ⟨_, rO⟩ | ⟨r1, _⟩
    · exact rO
    · exact (r_ne r0 r1).elim
  have hAO : fA p = fO p := hA.trans rO.symm
  have hal : al g := hf.2.2.2.1 g List.mem_cons_self
  have hgl : g ∉ p :: pa' := fun w => by have := fr_pa_lt _ _ hf.2.2.1 g w; omega
  refine cq_ap (r := 1) (s := fI p) (fH2 := upd fH p xan) (fN2 := fN) hX0 hv ha hM H eP hqn hq eO (by omega) (by omega) (Or.inl rfl) (fr_X_pop (fr_X_m hf (fun _ => Or.inr rfl))) (by omega) (by decide) ⟨by omega, fun _ => by rw [rO]; exact fr_n1 (by omega), fun w => absurd w (by omega)⟩ (fun _ _ => by rw [rO, nI_clamp (by omega)]; exact ⟨hal, hgl⟩) (fun f hf => pk_un hf) (fun _ _ _ _ => rfl) ((hv.2 p hpn).1) (⟨s, pk_us.trans ea, hVs⟩) ((hv.2 p hpn).2.2)
    (fun hc Q hQ => xh_ans0 x2 (by omega) hU (by omega) r0 eP hq eO (by omega) rfl (fun Q hQ => xo_24 rfl (by omega) ea hs6 eK hκ (fun Q hQ => xr_apply (n := n) (c := c) (r := 1) x1 rfl x4 (by omega) hc hpn eP hq (by omega) (fun w => absurd w (by omega)) (fun _ => hQ)) hQ) hQ)
    (fun hc Q hQ => xh_ans0 x2 (by omega) hU (by omega) r0 eP hq eO (by omega) rfl (fun Q hQ => xo_24 rfl (by omega) ea hs6 eK hκ (fun Q hQ => xr_apply_t (x4.trans (by rw [hc])) hQ) hQ) hQ)
    (fun mk0 pd0 mk pd nd yhe yvm yin yfi yde yic ys yk yn yp yf iK iN o0 l0 kS0 d0 pl0 yma ypo yap yas yto yan yco yti yna yac yen o l kS d pl yo yi yw ya y1 y2 yK yW yL yq nm nv no yA lf rt hY => ?_)
  obtain ⟨⟨b1, b2, b3, b4, b5, b6, b7, b8, b9, b10, b11⟩, hfl, hen, hhy, hby, hfr, han, hq0, hq1, hz1, hz2, hz3⟩ := hY
  obtain ⟨t1, t2, t3, t4, t5⟩ := hfr p hpn
  obtain ⟨ey, eq⟩ := hq1 (by decide)
  rw [List.length_cons] at ey
  have eyo := t1.symm.trans eP
  rw [hfo] at t5
  obtain ⟨et, hRa⟩ := hz1 rfl
  subst et
  obtain ⟨x, e1, e2⟩ := my_v hh.1 hhy.1 hRa ea hs6 eK hκ
  rw [eP, nI_clamp (show q < 2 ^ 31 by omega)] at t5
  rw [hfo, eP, nI_clamp (show q < 2 ^ 31 by omega)] at t4
  have t4' : ∀ x, x < 3 → vv_R V K N Z D P mk o l kS d pl (fN (p * 3 + x)) (en_e nm no nv (yw p) x) := fun x hx => (t4 x hx).elim id (fun z => absurd z.1 (by omega))
  have a0 := (my_a0 t5 (by omega) (by omega) hAO).1
  subst b6
  refine ⟨yi p, yw p, nd, ya, vp_updL yK p yan, yL, nm, nv, no, ⟨t2, Nat.le_refl _, by omega, hen, t3, fun _ _ _ => rfl, fun f hf => ⟨rfl, pk_uLn hf, rfl⟩, t4', fun x hx => Or.inl (t4' x hx), fun hn => fr_S_ap t5 (by omega) (by omega) hn (by rw [rO]; exact fr_n1 (by omega)) (fun e => absurd ((nI_eq (by omega) (by omega)).mp (e.trans rO)) (by omega)) (fun _ _ => by rw [pk_us, pk_uLs]; exact hRa)⟩, fun Q _ _ _ _ _ _ _ _ _ _ _ _ _ _ _ _ _ _ _ _ _ _ _ _ _ _ _ _ _ _ _ _ _ _ _ _ _ _ _ _ _ _ _ _ _ hA hp => ?_⟩
  exact yf_33 (by omega) eyo hq (my_k 33 rfl (by omega) (hfl q hqn) eO) a0 rfl hA hp
theorem cq_p25 {p : Nat} {pa' : List Nat} {post : SX → Prop} {T : List Nat → Option vv_L} {nf bo np : Nat} {K0 N0 Z0 D0 I0 W0 P0 : Nat → Int32} {xst xow xin xpa xfi xfr xno xsi xan xkn xen xco xrm xac : Int32} {K N Z D Im W P vS pO pX pI fS fP fI fU fR fO fA fH fG fN aS qL qR qP : Nat → Int32} {st : Nat} {V al : Nat → Prop} {g : Nat} {n c rm a : Nat}
    (hX : md_X V al g (p :: pa') bo np n c rm a st xfr xno xsi xen xco xrm xac K N Z D Im W P K0 N0 Z0 D0 I0 W0 P0 pO pX fP fU fR fO fA fH fG) (hv : mv_X V n xsi xan pO fP fI fH fN) (ha : ma_X V a aS)
    (hM : ∀ (mk0 pd0 : Nat) (v0 : SY), kn_F T np nf pO pX pI fS mk0 pd0 v0 → rm_M V (p :: pa') g np n c rm a st xsi xan K N Z D W P pO pX pI fP fI fO fA fH fG fN aS mk0 pd0 v0)
    (H : lp_G T nf bo np K0 N0 Z0 D0 I0 W0 P0 post xst xow xin xpa xfi xkn vS pO pX pI fS st) {q : Nat} (eP : fP p = nI q) (hqn : q < np) (hq : q < 40) (eO : pO q = nI 25) (es : xsi = 1) (r0 : fR g = 0) : wX_workOut_68 post (1000001 - st) (nI st) xst xow xin xpa xfi xfr xno xsi xan xkn xen xco xrm xac K N Z D Im W P vS pO pX pI fS fP fI fU fR fO fA fH fG fN aS qL qR qP := by
  subst es
  obtain ⟨hpg, hgn, hn6, hU, hA, hrun, hro⟩ := mx_p hX
  obtain ⟨_, _, hst, hlen, _⟩ := mx_f hX
  have hlen2 : pa'.length + 2 ≤ 40 := by
    have := hlen
    rw [List.length_cons] at this
    omega
  have hX0 := hX
  obtain ⟨⟨x1, x2, x3, x4, x5, x6, x7, x8, x9, x10⟩, hs, hh, hb, hf, hr, hG, hpot⟩ := hX
  have hpn : p < n := by omega
  have hfo := mx_fo eP hq eO (by omega)
  obtain ⟨s, ea, hVs⟩ := hv.1 rfl
  obtain ⟨hs6, κ, hκ, eK⟩ := vx_k hh.1 hVs
  obtain ⟨gv, g1, g2⟩ := hG p hpn
  have rO : fO p = nI g := by
    rcases hro with ⟨_, rO⟩ | ⟨r1, _⟩
    · exact rO
    · exact (r_ne r0 r1).elim
  have hAO : fA p = fO p := hA.trans rO.symm
  have hal : al g := hf.2.2.2.1 g List.mem_cons_self
  have hgl : g ∉ p :: pa' := fun w => by have := fr_pa_lt _ _ hf.2.2.1 g w; omega
  refine cq_ap (r := 1) (s := fI p) (fH2 := upd fH p xan) (fN2 := fN) hX0 hv ha hM H eP hqn hq eO (by omega) (by omega) (Or.inl rfl) (fr_X_pop (fr_X_m hf (fun _ => Or.inr rfl))) (by omega) (by decide) ⟨by omega, fun _ => by rw [rO]; exact fr_n1 (by omega), fun w => absurd w (by omega)⟩ (fun _ _ => by rw [rO, nI_clamp (by omega)]; exact ⟨hal, hgl⟩) (fun f hf => pk_un hf) (fun _ _ _ _ => rfl) ((hv.2 p hpn).1) (⟨s, pk_us.trans ea, hVs⟩) ((hv.2 p hpn).2.2)
    (fun hc Q hQ => xh_ans0 x2 (by omega) hU (by omega) r0 eP hq eO (by omega) rfl (fun Q hQ => xo_25 rfl (by omega) ea hs6 eK hκ (fun Q hQ => xr_apply (n := n) (c := c) (r := 1) x1 rfl x4 (by omega) hc hpn eP hq (by omega) (fun w => absurd w (by omega)) (fun _ => hQ)) hQ) hQ)
    (fun hc Q hQ => xh_ans0 x2 (by omega) hU (by omega) r0 eP hq eO (by omega) rfl (fun Q hQ => xo_25 rfl (by omega) ea hs6 eK hκ (fun Q hQ => xr_apply_t (x4.trans (by rw [hc])) hQ) hQ) hQ)
    (fun mk0 pd0 mk pd nd yhe yvm yin yfi yde yic ys yk yn yp yf iK iN o0 l0 kS0 d0 pl0 yma ypo yap yas yto yan yco yti yna yac yen o l kS d pl yo yi yw ya y1 y2 yK yW yL yq nm nv no yA lf rt hY => ?_)
  obtain ⟨⟨b1, b2, b3, b4, b5, b6, b7, b8, b9, b10, b11⟩, hfl, hen, hhy, hby, hfr, han, hq0, hq1, hz1, hz2, hz3⟩ := hY
  obtain ⟨t1, t2, t3, t4, t5⟩ := hfr p hpn
  obtain ⟨ey, eq⟩ := hq1 (by decide)
  rw [List.length_cons] at ey
  have eyo := t1.symm.trans eP
  rw [hfo] at t5
  obtain ⟨et, hRa⟩ := hz1 rfl
  subst et
  obtain ⟨x, e1, e2⟩ := my_v hh.1 hhy.1 hRa ea hs6 eK hκ
  rw [eP, nI_clamp (show q < 2 ^ 31 by omega)] at t5
  rw [hfo, eP, nI_clamp (show q < 2 ^ 31 by omega)] at t4
  have t4' : ∀ x, x < 3 → vv_R V K N Z D P mk o l kS d pl (fN (p * 3 + x)) (en_e nm no nv (yw p) x) := fun x hx => (t4 x hx).elim id (fun z => absurd z.1 (by omega))
  have a0 := (my_a0 t5 (by omega) (by omega) hAO).1
  subst b6
  refine ⟨yi p, yw p, nd, ya, vp_updL yK p yan, yL, nm, nv, no, ⟨t2, Nat.le_refl _, by omega, hen, t3, fun _ _ _ => rfl, fun f hf => ⟨rfl, pk_uLn hf, rfl⟩, t4', fun x hx => Or.inl (t4' x hx), fun hn => fr_S_ap t5 (by omega) (by omega) hn (by rw [rO]; exact fr_n1 (by omega)) (fun e => absurd ((nI_eq (by omega) (by omega)).mp (e.trans rO)) (by omega)) (fun _ _ => by rw [pk_us, pk_uLs]; exact hRa)⟩, fun Q _ _ _ _ _ _ _ _ _ _ _ _ _ _ _ _ _ _ _ _ _ _ _ _ _ _ _ _ _ _ _ _ _ _ _ _ _ _ _ _ _ _ _ _ _ hA hp => ?_⟩
  exact yf_34 (by omega) eyo hq (my_k 34 rfl (by omega) (hfl q hqn) eO) a0 rfl hA hp
theorem cq_p26 {p : Nat} {pa' : List Nat} {post : SX → Prop} {T : List Nat → Option vv_L} {nf bo np : Nat} {K0 N0 Z0 D0 I0 W0 P0 : Nat → Int32} {xst xow xin xpa xfi xfr xno xsi xan xkn xen xco xrm xac : Int32} {K N Z D Im W P vS pO pX pI fS fP fI fU fR fO fA fH fG fN aS qL qR qP : Nat → Int32} {st : Nat} {V al : Nat → Prop} {g : Nat} {n c rm a : Nat}
    (hX : md_X V al g (p :: pa') bo np n c rm a st xfr xno xsi xen xco xrm xac K N Z D Im W P K0 N0 Z0 D0 I0 W0 P0 pO pX fP fU fR fO fA fH fG) (hv : mv_X V n xsi xan pO fP fI fH fN) (ha : ma_X V a aS)
    (hM : ∀ (mk0 pd0 : Nat) (v0 : SY), kn_F T np nf pO pX pI fS mk0 pd0 v0 → rm_M V (p :: pa') g np n c rm a st xsi xan K N Z D W P pO pX pI fP fI fO fA fH fG fN aS mk0 pd0 v0)
    (H : lp_G T nf bo np K0 N0 Z0 D0 I0 W0 P0 post xst xow xin xpa xfi xkn vS pO pX pI fS st) {q : Nat} (eP : fP p = nI q) (hqn : q < np) (hq : q < 40) (eO : pO q = nI 26) (es : xsi = 1) (r0 : fR g = 0) : wX_workOut_68 post (1000001 - st) (nI st) xst xow xin xpa xfi xfr xno xsi xan xkn xen xco xrm xac K N Z D Im W P vS pO pX pI fS fP fI fU fR fO fA fH fG fN aS qL qR qP := by
  subst es
  obtain ⟨hpg, hgn, hn6, hU, hA, hrun, hro⟩ := mx_p hX
  obtain ⟨_, _, hst, hlen, _⟩ := mx_f hX
  have hlen2 : pa'.length + 2 ≤ 40 := by
    have := hlen
    rw [List.length_cons] at this
    omega
  have hX0 := hX
  obtain ⟨⟨x1, x2, x3, x4, x5, x6, x7, x8, x9, x10⟩, hs, hh, hb, hf, hr, hG, hpot⟩ := hX
  have hpn : p < n := by omega
  have hfo := mx_fo eP hq eO (by omega)
  obtain ⟨s, ea, hVs⟩ := hv.1 rfl
  obtain ⟨hs6, κ, hκ, eK⟩ := vx_k hh.1 hVs
  obtain ⟨gv, g1, g2⟩ := hG p hpn
  have rO : fO p = nI g := by
    rcases hro with ⟨_, rO⟩ | ⟨r1, _⟩
    · exact rO
    · exact (r_ne r0 r1).elim
  have hAO : fA p = fO p := hA.trans rO.symm
  have hal : al g := hf.2.2.2.1 g List.mem_cons_self
  have hgl : g ∉ p :: pa' := fun w => by have := fr_pa_lt _ _ hf.2.2.1 g w; omega
  refine cq_ap (r := 1) (s := fI p) (fH2 := upd fH p xan) (fN2 := fN) hX0 hv ha hM H eP hqn hq eO (by omega) (by omega) (Or.inl rfl) (fr_X_pop (fr_X_m hf (fun _ => Or.inr rfl))) (by omega) (by decide) ⟨by omega, fun _ => by rw [rO]; exact fr_n1 (by omega), fun w => absurd w (by omega)⟩ (fun _ _ => by rw [rO, nI_clamp (by omega)]; exact ⟨hal, hgl⟩) (fun f hf => pk_un hf) (fun _ _ _ _ => rfl) ((hv.2 p hpn).1) (⟨s, pk_us.trans ea, hVs⟩) ((hv.2 p hpn).2.2)
    (fun hc Q hQ => xh_ans0 x2 (by omega) hU (by omega) r0 eP hq eO (by omega) rfl (fun Q hQ => xo_26 rfl (by omega) ea hs6 eK hκ (fun Q hQ => xr_apply (n := n) (c := c) (r := 1) x1 rfl x4 (by omega) hc hpn eP hq (by omega) (fun w => absurd w (by omega)) (fun _ => hQ)) hQ) hQ)
    (fun hc Q hQ => xh_ans0 x2 (by omega) hU (by omega) r0 eP hq eO (by omega) rfl (fun Q hQ => xo_26 rfl (by omega) ea hs6 eK hκ (fun Q hQ => xr_apply_t (x4.trans (by rw [hc])) hQ) hQ) hQ)
    (fun mk0 pd0 mk pd nd yhe yvm yin yfi yde yic ys yk yn yp yf iK iN o0 l0 kS0 d0 pl0 yma ypo yap yas yto yan yco yti yna yac yen o l kS d pl yo yi yw ya y1 y2 yK yW yL yq nm nv no yA lf rt hY => ?_)
  obtain ⟨⟨b1, b2, b3, b4, b5, b6, b7, b8, b9, b10, b11⟩, hfl, hen, hhy, hby, hfr, han, hq0, hq1, hz1, hz2, hz3⟩ := hY
  obtain ⟨t1, t2, t3, t4, t5⟩ := hfr p hpn
  obtain ⟨ey, eq⟩ := hq1 (by decide)
  rw [List.length_cons] at ey
  have eyo := t1.symm.trans eP
  rw [hfo] at t5
  obtain ⟨et, hRa⟩ := hz1 rfl
  subst et
  obtain ⟨x, e1, e2⟩ := my_v hh.1 hhy.1 hRa ea hs6 eK hκ
  rw [eP, nI_clamp (show q < 2 ^ 31 by omega)] at t5
  rw [hfo, eP, nI_clamp (show q < 2 ^ 31 by omega)] at t4
  have t4' : ∀ x, x < 3 → vv_R V K N Z D P mk o l kS d pl (fN (p * 3 + x)) (en_e nm no nv (yw p) x) := fun x hx => (t4 x hx).elim id (fun z => absurd z.1 (by omega))
  have a0 := (my_a0 t5 (by omega) (by omega) hAO).1
  subst b6
  refine ⟨yi p, yw p, nd, ya, vp_updL yK p yan, yL, nm, nv, no, ⟨t2, Nat.le_refl _, by omega, hen, t3, fun _ _ _ => rfl, fun f hf => ⟨rfl, pk_uLn hf, rfl⟩, t4', fun x hx => Or.inl (t4' x hx), fun hn => fr_S_ap t5 (by omega) (by omega) hn (by rw [rO]; exact fr_n1 (by omega)) (fun e => absurd ((nI_eq (by omega) (by omega)).mp (e.trans rO)) (by omega)) (fun _ _ => by rw [pk_us, pk_uLs]; exact hRa)⟩, fun Q _ _ _ _ _ _ _ _ _ _ _ _ _ _ _ _ _ _ _ _ _ _ _ _ _ _ _ _ _ _ _ _ _ _ _ _ _ _ _ _ _ _ _ _ _ hA hp => ?_⟩
  exact yf_35 (by omega) eyo hq (my_k 35 rfl (by omega) (hfl q hqn) eO) a0 rfl hA hp
theorem cq_p27 {p : Nat} {pa' : List Nat} {post : SX → Prop} {T : List Nat → Option vv_L} {nf bo np : Nat} {K0 N0 Z0 D0 I0 W0 P0 : Nat → Int32} {xst xow xin xpa xfi xfr xno xsi xan xkn xen xco xrm xac : Int32} {K N Z D Im W P vS pO pX pI fS fP fI fU fR fO fA fH fG fN aS qL qR qP : Nat → Int32} {st : Nat} {V al : Nat → Prop} {g : Nat} {n c rm a : Nat}
    (hX : md_X V al g (p :: pa') bo np n c rm a st xfr xno xsi xen xco xrm xac K N Z D Im W P K0 N0 Z0 D0 I0 W0 P0 pO pX fP fU fR fO fA fH fG) (hv : mv_X V n xsi xan pO fP fI fH fN) (ha : ma_X V a aS)
    (hM : ∀ (mk0 pd0 : Nat) (v0 : SY), kn_F T np nf pO pX pI fS mk0 pd0 v0 → rm_M V (p :: pa') g np n c rm a st xsi xan K N Z D W P pO pX pI fP fI fO fA fH fG fN aS mk0 pd0 v0)
    (H : lp_G T nf bo np K0 N0 Z0 D0 I0 W0 P0 post xst xow xin xpa xfi xkn vS pO pX pI fS st) {q : Nat} (eP : fP p = nI q) (hqn : q < np) (hq : q < 40) (eO : pO q = nI 27) (es : xsi = 1) (r0 : fR g = 0) : wX_workOut_68 post (1000001 - st) (nI st) xst xow xin xpa xfi xfr xno xsi xan xkn xen xco xrm xac K N Z D Im W P vS pO pX pI fS fP fI fU fR fO fA fH fG fN aS qL qR qP := by
  subst es
  obtain ⟨hpg, hgn, hn6, hU, hA, hrun, hro⟩ := mx_p hX
  obtain ⟨_, _, hst, hlen, _⟩ := mx_f hX
  have hlen2 : pa'.length + 2 ≤ 40 := by
    have := hlen
    rw [List.length_cons] at this
    omega
  have hX0 := hX
  obtain ⟨⟨x1, x2, x3, x4, x5, x6, x7, x8, x9, x10⟩, hs, hh, hb, hf, hr, hG, hpot⟩ := hX
  have hpn : p < n := by omega
  have hfo := mx_fo eP hq eO (by omega)
  obtain ⟨s, ea, hVs⟩ := hv.1 rfl
  obtain ⟨hs6, κ, hκ, eK⟩ := vx_k hh.1 hVs
  obtain ⟨gv, g1, g2⟩ := hG p hpn
  have rO : fO p = nI g := by
    rcases hro with ⟨_, rO⟩ | ⟨r1, _⟩
    · exact rO
    · exact (r_ne r0 r1).elim
  have hAO : fA p = fO p := hA.trans rO.symm
  have hal : al g := hf.2.2.2.1 g List.mem_cons_self
  have hgl : g ∉ p :: pa' := fun w => by have := fr_pa_lt _ _ hf.2.2.1 g w; omega
  refine cq_ap (r := 1) (s := fI p) (fH2 := upd fH p xan) (fN2 := fN) hX0 hv ha hM H eP hqn hq eO (by omega) (by omega) (Or.inl rfl) (fr_X_pop (fr_X_m hf (fun _ => Or.inr rfl))) (by omega) (by decide) ⟨by omega, fun _ => by rw [rO]; exact fr_n1 (by omega), fun w => absurd w (by omega)⟩ (fun _ _ => by rw [rO, nI_clamp (by omega)]; exact ⟨hal, hgl⟩) (fun f hf => pk_un hf) (fun _ _ _ _ => rfl) ((hv.2 p hpn).1) (⟨s, pk_us.trans ea, hVs⟩) ((hv.2 p hpn).2.2)
    (fun hc Q hQ => xh_ans0 x2 (by omega) hU (by omega) r0 eP hq eO (by omega) rfl (fun Q hQ => xo_27 rfl (by omega) ea hs6 eK hκ (fun Q hQ => xr_apply (n := n) (c := c) (r := 1) x1 rfl x4 (by omega) hc hpn eP hq (by omega) (fun w => absurd w (by omega)) (fun _ => hQ)) hQ) hQ)
    (fun hc Q hQ => xh_ans0 x2 (by omega) hU (by omega) r0 eP hq eO (by omega) rfl (fun Q hQ => xo_27 rfl (by omega) ea hs6 eK hκ (fun Q hQ => xr_apply_t (x4.trans (by rw [hc])) hQ) hQ) hQ)
    (fun mk0 pd0 mk pd nd yhe yvm yin yfi yde yic ys yk yn yp yf iK iN o0 l0 kS0 d0 pl0 yma ypo yap yas yto yan yco yti yna yac yen o l kS d pl yo yi yw ya y1 y2 yK yW yL yq nm nv no yA lf rt hY => ?_)
  obtain ⟨⟨b1, b2, b3, b4, b5, b6, b7, b8, b9, b10, b11⟩, hfl, hen, hhy, hby, hfr, han, hq0, hq1, hz1, hz2, hz3⟩ := hY
  obtain ⟨t1, t2, t3, t4, t5⟩ := hfr p hpn
  obtain ⟨ey, eq⟩ := hq1 (by decide)
  rw [List.length_cons] at ey
  have eyo := t1.symm.trans eP
  rw [hfo] at t5
  obtain ⟨et, hRa⟩ := hz1 rfl
  subst et
  obtain ⟨x, e1, e2⟩ := my_v hh.1 hhy.1 hRa ea hs6 eK hκ
  rw [eP, nI_clamp (show q < 2 ^ 31 by omega)] at t5
  rw [hfo, eP, nI_clamp (show q < 2 ^ 31 by omega)] at t4
  have t4' : ∀ x, x < 3 → vv_R V K N Z D P mk o l kS d pl (fN (p * 3 + x)) (en_e nm no nv (yw p) x) := fun x hx => (t4 x hx).elim id (fun z => absurd z.1 (by omega))
  have a0 := (my_a0 t5 (by omega) (by omega) hAO).1
  subst b6
  refine ⟨yi p, yw p, nd, ya, vp_updL yK p yan, yL, nm, nv, no, ⟨t2, Nat.le_refl _, by omega, hen, t3, fun _ _ _ => rfl, fun f hf => ⟨rfl, pk_uLn hf, rfl⟩, t4', fun x hx => Or.inl (t4' x hx), fun hn => fr_S_ap t5 (by omega) (by omega) hn (by rw [rO]; exact fr_n1 (by omega)) (fun e => absurd ((nI_eq (by omega) (by omega)).mp (e.trans rO)) (by omega)) (fun _ _ => by rw [pk_us, pk_uLs]; exact hRa)⟩, fun Q _ _ _ _ _ _ _ _ _ _ _ _ _ _ _ _ _ _ _ _ _ _ _ _ _ _ _ _ _ _ _ _ _ _ _ _ _ _ _ _ _ _ _ _ _ hA hp => ?_⟩
  exact yf_36 (by omega) eyo hq (my_k 36 rfl (by omega) (hfl q hqn) eO) a0 rfl hA hp
theorem cq_p28 {p : Nat} {pa' : List Nat} {post : SX → Prop} {T : List Nat → Option vv_L} {nf bo np : Nat} {K0 N0 Z0 D0 I0 W0 P0 : Nat → Int32} {xst xow xin xpa xfi xfr xno xsi xan xkn xen xco xrm xac : Int32} {K N Z D Im W P vS pO pX pI fS fP fI fU fR fO fA fH fG fN aS qL qR qP : Nat → Int32} {st : Nat} {V al : Nat → Prop} {g : Nat} {n c rm a : Nat}
    (hX : md_X V al g (p :: pa') bo np n c rm a st xfr xno xsi xen xco xrm xac K N Z D Im W P K0 N0 Z0 D0 I0 W0 P0 pO pX fP fU fR fO fA fH fG) (hv : mv_X V n xsi xan pO fP fI fH fN) (ha : ma_X V a aS)
    (hM : ∀ (mk0 pd0 : Nat) (v0 : SY), kn_F T np nf pO pX pI fS mk0 pd0 v0 → rm_M V (p :: pa') g np n c rm a st xsi xan K N Z D W P pO pX pI fP fI fO fA fH fG fN aS mk0 pd0 v0)
    (H : lp_G T nf bo np K0 N0 Z0 D0 I0 W0 P0 post xst xow xin xpa xfi xkn vS pO pX pI fS st) {q : Nat} (eP : fP p = nI q) (hqn : q < np) (hq : q < 40) (eO : pO q = nI 28) (es : xsi = 1) (r0 : fR g = 0) : wX_workOut_68 post (1000001 - st) (nI st) xst xow xin xpa xfi xfr xno xsi xan xkn xen xco xrm xac K N Z D Im W P vS pO pX pI fS fP fI fU fR fO fA fH fG fN aS qL qR qP := by
  subst es
  obtain ⟨hpg, hgn, hn6, hU, hA, hrun, hro⟩ := mx_p hX
  obtain ⟨_, _, hst, hlen, _⟩ := mx_f hX
  have hlen2 : pa'.length + 2 ≤ 40 := by
    have := hlen
    rw [List.length_cons] at this
    omega
  have hX0 := hX
  obtain ⟨⟨x1, x2, x3, x4, x5, x6, x7, x8, x9, x10⟩, hs, hh, hb, hf, hr, hG, hpot⟩ := hX
  have hpn : p < n := by omega
  have hfo := mx_fo eP hq eO (by omega)
  obtain ⟨s, ea, hVs⟩ := hv.1 rfl
  obtain ⟨hs6, κ, hκ, eK⟩ := vx_k hh.1 hVs
  obtain ⟨gv, g1, g2⟩ := hG p hpn
  have rO : fO p = nI g := by
    rcases hro with ⟨_, rO⟩ | ⟨r1, _⟩
    · exact rO
    · exact (r_ne r0 r1).elim
  have hAO : fA p = fO p := hA.trans rO.symm
  have hal : al g := hf.2.2.2.1 g List.mem_cons_self
  have hgl : g ∉ p :: pa' := fun w => by have := fr_pa_lt _ _ hf.2.2.1 g w; omega
  refine cq_ap (r := 1) (s := fI p) (fH2 := upd fH p xan) (fN2 := fN) hX0 hv ha hM H eP hqn hq eO (by omega) (by omega) (Or.inl rfl) (fr_X_pop (fr_X_m hf (fun _ => Or.inr rfl))) (by omega) (by decide) ⟨by omega, fun _ => by rw [rO]; exact fr_n1 (by omega), fun w => absurd w (by omega)⟩ (fun _ _ => by rw [rO, nI_clamp (by omega)]; exact ⟨hal, hgl⟩) (fun f hf => pk_un hf) (fun _ _ _ _ => rfl) ((hv.2 p hpn).1) (⟨s, pk_us.trans ea, hVs⟩) ((hv.2 p hpn).2.2)
    (fun hc Q hQ => xh_ans0 x2 (by omega) hU (by omega) r0 eP hq eO (by omega) rfl (fun Q hQ => xo_28 rfl (by omega) ea hs6 eK hκ (fun Q hQ => xr_apply (n := n) (c := c) (r := 1) x1 rfl x4 (by omega) hc hpn eP hq (by omega) (fun w => absurd w (by omega)) (fun _ => hQ)) hQ) hQ)
    (fun hc Q hQ => xh_ans0 x2 (by omega) hU (by omega) r0 eP hq eO (by omega) rfl (fun Q hQ => xo_28 rfl (by omega) ea hs6 eK hκ (fun Q hQ => xr_apply_t (x4.trans (by rw [hc])) hQ) hQ) hQ)
    (fun mk0 pd0 mk pd nd yhe yvm yin yfi yde yic ys yk yn yp yf iK iN o0 l0 kS0 d0 pl0 yma ypo yap yas yto yan yco yti yna yac yen o l kS d pl yo yi yw ya y1 y2 yK yW yL yq nm nv no yA lf rt hY => ?_)
  obtain ⟨⟨b1, b2, b3, b4, b5, b6, b7, b8, b9, b10, b11⟩, hfl, hen, hhy, hby, hfr, han, hq0, hq1, hz1, hz2, hz3⟩ := hY
  obtain ⟨t1, t2, t3, t4, t5⟩ := hfr p hpn
  obtain ⟨ey, eq⟩ := hq1 (by decide)
  rw [List.length_cons] at ey
  have eyo := t1.symm.trans eP
  rw [hfo] at t5
  obtain ⟨et, hRa⟩ := hz1 rfl
  subst et
  obtain ⟨x, e1, e2⟩ := my_v hh.1 hhy.1 hRa ea hs6 eK hκ
  rw [eP, nI_clamp (show q < 2 ^ 31 by omega)] at t5
  rw [hfo, eP, nI_clamp (show q < 2 ^ 31 by omega)] at t4
  have t4' : ∀ x, x < 3 → vv_R V K N Z D P mk o l kS d pl (fN (p * 3 + x)) (en_e nm no nv (yw p) x) := fun x hx => (t4 x hx).elim id (fun z => absurd z.1 (by omega))
  have a0 := (my_a0 t5 (by omega) (by omega) hAO).1
  subst b6
  refine ⟨yi p, yw p, nd, ya, vp_updL yK p yan, yL, nm, nv, no, ⟨t2, Nat.le_refl _, by omega, hen, t3, fun _ _ _ => rfl, fun f hf => ⟨rfl, pk_uLn hf, rfl⟩, t4', fun x hx => Or.inl (t4' x hx), fun hn => fr_S_ap t5 (by omega) (by omega) hn (by rw [rO]; exact fr_n1 (by omega)) (fun e => absurd ((nI_eq (by omega) (by omega)).mp (e.trans rO)) (by omega)) (fun _ _ => by rw [pk_us, pk_uLs]; exact hRa)⟩, fun Q _ _ _ _ _ _ _ _ _ _ _ _ _ _ _ _ _ _ _ _ _ _ _ _ _ _ _ _ _ _ _ _ _ _ _ _ _ _ _ _ _ _ _ _ _ hA hp => ?_⟩
  exact yf_37 (by omega) eyo hq (my_k 37 rfl (by omega) (hfl q hqn) eO) a0 rfl hA hp
theorem cq_p29 {p : Nat} {pa' : List Nat} {post : SX → Prop} {T : List Nat → Option vv_L} {nf bo np : Nat} {K0 N0 Z0 D0 I0 W0 P0 : Nat → Int32} {xst xow xin xpa xfi xfr xno xsi xan xkn xen xco xrm xac : Int32} {K N Z D Im W P vS pO pX pI fS fP fI fU fR fO fA fH fG fN aS qL qR qP : Nat → Int32} {st : Nat} {V al : Nat → Prop} {g : Nat} {n c rm a : Nat}
    (hX : md_X V al g (p :: pa') bo np n c rm a st xfr xno xsi xen xco xrm xac K N Z D Im W P K0 N0 Z0 D0 I0 W0 P0 pO pX fP fU fR fO fA fH fG) (hv : mv_X V n xsi xan pO fP fI fH fN) (ha : ma_X V a aS)
    (hM : ∀ (mk0 pd0 : Nat) (v0 : SY), kn_F T np nf pO pX pI fS mk0 pd0 v0 → rm_M V (p :: pa') g np n c rm a st xsi xan K N Z D W P pO pX pI fP fI fO fA fH fG fN aS mk0 pd0 v0)
    (H : lp_G T nf bo np K0 N0 Z0 D0 I0 W0 P0 post xst xow xin xpa xfi xkn vS pO pX pI fS st) {q : Nat} (eP : fP p = nI q) (hqn : q < np) (hq : q < 40) (eO : pO q = nI 29) (es : xsi = 1) (r0 : fR g = 0) : wX_workOut_68 post (1000001 - st) (nI st) xst xow xin xpa xfi xfr xno xsi xan xkn xen xco xrm xac K N Z D Im W P vS pO pX pI fS fP fI fU fR fO fA fH fG fN aS qL qR qP := by
  subst es
  obtain ⟨hpg, hgn, hn6, hU, hA, hrun, hro⟩ := mx_p hX
  obtain ⟨_, _, hst, hlen, _⟩ := mx_f hX
  have hlen2 : pa'.length + 2 ≤ 40 := by
    have := hlen
    rw [List.length_cons] at this
    omega
  have hX0 := hX
  obtain ⟨⟨x1, x2, x3, x4, x5, x6, x7, x8, x9, x10⟩, hs, hh, hb, hf, hr, hG, hpot⟩ := hX
  have hpn : p < n := by omega
  have hfo := mx_fo eP hq eO (by omega)
  obtain ⟨s, ea, hVs⟩ := hv.1 rfl
  obtain ⟨hs6, κ, hκ, eK⟩ := vx_k hh.1 hVs
  obtain ⟨gv, g1, g2⟩ := hG p hpn
  have rO : fO p = nI g := by
    rcases hro with ⟨_, rO⟩ | ⟨r1, _⟩
    · exact rO
    · exact (r_ne r0 r1).elim
  have hAO : fA p = fO p := hA.trans rO.symm
  have hal : al g := hf.2.2.2.1 g List.mem_cons_self
  have hgl : g ∉ p :: pa' := fun w => by have := fr_pa_lt _ _ hf.2.2.1 g w; omega
  refine cq_ap (r := 1) (s := fI p) (fH2 := upd fH p xan) (fN2 := fN) hX0 hv ha hM H eP hqn hq eO (by omega) (by omega) (Or.inl rfl) (fr_X_pop (fr_X_m hf (fun _ => Or.inr rfl))) (by omega) (by decide) ⟨by omega, fun _ => by rw [rO]; exact fr_n1 (by omega), fun w => absurd w (by omega)⟩ (fun _ _ => by rw [rO, nI_clamp (by omega)]; exact ⟨hal, hgl⟩) (fun f hf => pk_un hf) (fun _ _ _ _ => rfl) ((hv.2 p hpn).1) (⟨s, pk_us.trans ea, hVs⟩) ((hv.2 p hpn).2.2)
    (fun hc Q hQ => xh_ans0 x2 (by omega) hU (by omega) r0 eP hq eO (by omega) rfl (fun Q hQ => xo_29 rfl (by omega) ea hs6 eK hκ (fun Q hQ => xr_apply (n := n) (c := c) (r := 1) x1 rfl x4 (by omega) hc hpn eP hq (by omega) (fun w => absurd w (by omega)) (fun _ => hQ)) hQ) hQ)
    (fun hc Q hQ => xh_ans0 x2 (by omega) hU (by omega) r0 eP hq eO (by omega) rfl (fun Q hQ => xo_29 rfl (by omega) ea hs6 eK hκ (fun Q hQ => xr_apply_t (x4.trans (by rw [hc])) hQ) hQ) hQ)
    (fun mk0 pd0 mk pd nd yhe yvm yin yfi yde yic ys yk yn yp yf iK iN o0 l0 kS0 d0 pl0 yma ypo yap yas yto yan yco yti yna yac yen o l kS d pl yo yi yw ya y1 y2 yK yW yL yq nm nv no yA lf rt hY => ?_)
  obtain ⟨⟨b1, b2, b3, b4, b5, b6, b7, b8, b9, b10, b11⟩, hfl, hen, hhy, hby, hfr, han, hq0, hq1, hz1, hz2, hz3⟩ := hY
  obtain ⟨t1, t2, t3, t4, t5⟩ := hfr p hpn
  obtain ⟨ey, eq⟩ := hq1 (by decide)
  rw [List.length_cons] at ey
  have eyo := t1.symm.trans eP
  rw [hfo] at t5
  obtain ⟨et, hRa⟩ := hz1 rfl
  subst et
  obtain ⟨x, e1, e2⟩ := my_v hh.1 hhy.1 hRa ea hs6 eK hκ
  rw [eP, nI_clamp (show q < 2 ^ 31 by omega)] at t5
  rw [hfo, eP, nI_clamp (show q < 2 ^ 31 by omega)] at t4
  have t4' : ∀ x, x < 3 → vv_R V K N Z D P mk o l kS d pl (fN (p * 3 + x)) (en_e nm no nv (yw p) x) := fun x hx => (t4 x hx).elim id (fun z => absurd z.1 (by omega))
  have a0 := (my_a0 t5 (by omega) (by omega) hAO).1
  subst b6
  refine ⟨yi p, yw p, nd, ya, vp_updL yK p yan, yL, nm, nv, no, ⟨t2, Nat.le_refl _, by omega, hen, t3, fun _ _ _ => rfl, fun f hf => ⟨rfl, pk_uLn hf, rfl⟩, t4', fun x hx => Or.inl (t4' x hx), fun hn => fr_S_ap t5 (by omega) (by omega) hn (by rw [rO]; exact fr_n1 (by omega)) (fun e => absurd ((nI_eq (by omega) (by omega)).mp (e.trans rO)) (by omega)) (fun _ _ => by rw [pk_us, pk_uLs]; exact hRa)⟩, fun Q _ _ _ _ _ _ _ _ _ _ _ _ _ _ _ _ _ _ _ _ _ _ _ _ _ _ _ _ _ _ _ _ _ _ _ _ _ _ _ _ _ _ _ _ _ hA hp => ?_⟩
  exact yf_38 (by omega) eyo hq (my_k 38 rfl (by omega) (hfl q hqn) eO) a0 rfl hA hp
theorem cq_p30 {p : Nat} {pa' : List Nat} {post : SX → Prop} {T : List Nat → Option vv_L} {nf bo np : Nat} {K0 N0 Z0 D0 I0 W0 P0 : Nat → Int32} {xst xow xin xpa xfi xfr xno xsi xan xkn xen xco xrm xac : Int32} {K N Z D Im W P vS pO pX pI fS fP fI fU fR fO fA fH fG fN aS qL qR qP : Nat → Int32} {st : Nat} {V al : Nat → Prop} {g : Nat} {n c rm a : Nat}
    (hX : md_X V al g (p :: pa') bo np n c rm a st xfr xno xsi xen xco xrm xac K N Z D Im W P K0 N0 Z0 D0 I0 W0 P0 pO pX fP fU fR fO fA fH fG) (hv : mv_X V n xsi xan pO fP fI fH fN) (ha : ma_X V a aS)
    (hM : ∀ (mk0 pd0 : Nat) (v0 : SY), kn_F T np nf pO pX pI fS mk0 pd0 v0 → rm_M V (p :: pa') g np n c rm a st xsi xan K N Z D W P pO pX pI fP fI fO fA fH fG fN aS mk0 pd0 v0)
    (H : lp_G T nf bo np K0 N0 Z0 D0 I0 W0 P0 post xst xow xin xpa xfi xkn vS pO pX pI fS st) {q : Nat} (eP : fP p = nI q) (hqn : q < np) (hq : q < 40) (eO : pO q = nI 30) (he : ∀ s κ, s < 653 → xan = nI s → K s = nI κ → κ ≤ 5 → 2 ≤ κ) (es : xsi = 1) (r0 : fR g = 0) : wX_workOut_68 post (1000001 - st) (nI st) xst xow xin xpa xfi xfr xno xsi xan xkn xen xco xrm xac K N Z D Im W P vS pO pX pI fS fP fI fU fR fO fA fH fG fN aS qL qR qP := by
  subst es
  obtain ⟨hpg, hgn, hn6, hU, hA, hrun, hro⟩ := mx_p hX
  obtain ⟨_, _, hst, hlen, _⟩ := mx_f hX
  have hlen2 : pa'.length + 2 ≤ 40 := by
    have := hlen
    rw [List.length_cons] at this
    omega
  have hX0 := hX
  obtain ⟨⟨x1, x2, x3, x4, x5, x6, x7, x8, x9, x10⟩, hs, hh, hb, hf, hr, hG, hpot⟩ := hX
  have hpn : p < n := by omega
  have hfo := mx_fo eP hq eO (by omega)
  obtain ⟨s, ea, hVs⟩ := hv.1 rfl
  obtain ⟨hs6, κ, hκ, eK⟩ := vx_k hh.1 hVs
  obtain ⟨gv, g1, g2⟩ := hG p hpn
  have rO : fO p = nI g := by
    rcases hro with ⟨_, rO⟩ | ⟨r1, _⟩
    · exact rO
    · exact (r_ne r0 r1).elim
  have hAO : fA p = fO p := hA.trans rO.symm
  have hal : al g := hf.2.2.2.1 g List.mem_cons_self
  have hgl : g ∉ p :: pa' := fun w => by have := fr_pa_lt _ _ hf.2.2.1 g w; omega
  refine cq_ap (r := 1) (s := fI p) (fH2 := fH) (fN2 := fN) hX0 hv ha hM H eP hqn hq eO (by omega) (by omega) (Or.inl rfl) (fr_X_pop (fr_X_m hf (fun _ => Or.inr rfl))) (by omega) (by decide) ⟨by omega, fun _ => by rw [rO]; exact fr_n1 (by omega), fun w => absurd w (by omega)⟩ (fun _ _ => by rw [rO, nI_clamp (by omega)]; exact ⟨hal, hgl⟩) (fun _ _ => rfl) (fun _ _ _ _ => rfl) ((hv.2 p hpn).1) ((hv.2 p hpn).2.1 (by omega)) ((hv.2 p hpn).2.2)
    (fun hc Q hQ => xh_ans0 x2 (by omega) hU (by omega) r0 eP hq eO (by omega) rfl (fun Q hQ => xo_30a rfl (by omega) ea hs6 eK hκ ⟨fun w => absurd w (by have := he s κ hs6 ea eK hκ; omega), fun w => w.elim⟩ (fun Q hQ => xr_apply (n := n) (c := c) (r := 1) x1 rfl x4 (by omega) hc hpn eP hq (by omega) (fun w => absurd w (by omega)) (fun _ => hQ)) hQ) hQ)
    (fun hc Q hQ => xh_ans0 x2 (by omega) hU (by omega) r0 eP hq eO (by omega) rfl (fun Q hQ => xo_30a rfl (by omega) ea hs6 eK hκ ⟨fun w => absurd w (by have := he s κ hs6 ea eK hκ; omega), fun w => w.elim⟩ (fun Q hQ => xr_apply_t (x4.trans (by rw [hc])) hQ) hQ) hQ)
    (fun mk0 pd0 mk pd nd yhe yvm yin yfi yde yic ys yk yn yp yf iK iN o0 l0 kS0 d0 pl0 yma ypo yap yas yto yan yco yti yna yac yen o l kS d pl yo yi yw ya y1 y2 yK yW yL yq nm nv no yA lf rt hY => ?_)
  obtain ⟨⟨b1, b2, b3, b4, b5, b6, b7, b8, b9, b10, b11⟩, hfl, hen, hhy, hby, hfr, han, hq0, hq1, hz1, hz2, hz3⟩ := hY
  obtain ⟨t1, t2, t3, t4, t5⟩ := hfr p hpn
  obtain ⟨ey, eq⟩ := hq1 (by decide)
  rw [List.length_cons] at ey
  have eyo := t1.symm.trans eP
  rw [hfo] at t5
  obtain ⟨et, hRa⟩ := hz1 rfl
  subst et
  obtain ⟨x, e1, e2⟩ := my_v hh.1 hhy.1 hRa ea hs6 eK hκ
  rw [eP, nI_clamp (show q < 2 ^ 31 by omega)] at t5
  rw [hfo, eP, nI_clamp (show q < 2 ^ 31 by omega)] at t4
  have t4' : ∀ x, x < 3 → vv_R V K N Z D P mk o l kS d pl (fN (p * 3 + x)) (en_e nm no nv (yw p) x) := fun x hx => (t4 x hx).elim id (fun z => absurd z.1 (by omega))
  have a0 := (my_a0 t5 (by omega) (by omega) hAO).1
  subst b6
  refine ⟨yi p, yw p, nd, ya, yK, yL, nm, nv, no, ⟨t2, Nat.le_refl _, by omega, hen, t3, fun _ _ _ => rfl, fun f hf => ⟨rfl, rfl, rfl⟩, t4', fun x hx => Or.inl (t4' x hx), fun hn => fr_S_ap t5 (by omega) (by omega) hn (by rw [rO]; exact fr_n1 (by omega)) (fun e => absurd ((nI_eq (by omega) (by omega)).mp (e.trans rO)) (by omega)) (fun a b => absurd b (by omega))⟩, fun Q _ _ _ _ _ _ _ _ _ _ _ _ _ _ _ _ _ _ _ _ _ _ _ _ _ _ _ _ _ _ _ _ _ _ _ _ _ _ _ _ _ _ _ _ _ hA hp => ?_⟩
  exact yf_39a (by omega) eyo hq (my_k 39 rfl (by omega) (hfl q hqn) eO) a0 rfl e1 hκ ⟨fun w => absurd w (by have := he s κ hs6 ea eK hκ; omega), fun w => w.elim⟩ hA hp
theorem cq_p31 {p : Nat} {pa' : List Nat} {post : SX → Prop} {T : List Nat → Option vv_L} {nf bo np : Nat} {K0 N0 Z0 D0 I0 W0 P0 : Nat → Int32} {xst xow xin xpa xfi xfr xno xsi xan xkn xen xco xrm xac : Int32} {K N Z D Im W P vS pO pX pI fS fP fI fU fR fO fA fH fG fN aS qL qR qP : Nat → Int32} {st : Nat} {V al : Nat → Prop} {g : Nat} {n c rm a : Nat}
    (hX : md_X V al g (p :: pa') bo np n c rm a st xfr xno xsi xen xco xrm xac K N Z D Im W P K0 N0 Z0 D0 I0 W0 P0 pO pX fP fU fR fO fA fH fG) (hv : mv_X V n xsi xan pO fP fI fH fN) (ha : ma_X V a aS)
    (hM : ∀ (mk0 pd0 : Nat) (v0 : SY), kn_F T np nf pO pX pI fS mk0 pd0 v0 → rm_M V (p :: pa') g np n c rm a st xsi xan K N Z D W P pO pX pI fP fI fO fA fH fG fN aS mk0 pd0 v0)
    (H : lp_G T nf bo np K0 N0 Z0 D0 I0 W0 P0 post xst xow xin xpa xfi xkn vS pO pX pI fS st) {q : Nat} (eP : fP p = nI q) (hqn : q < np) (hq : q < 40) (eO : pO q = nI 31) (he : ∀ s κ, s < 653 → xan = nI s → K s = nI κ → κ ≤ 5 → κ < 2) (es : xsi = 1) (r0 : fR g = 0) : wX_workOut_68 post (1000001 - st) (nI st) xst xow xin xpa xfi xfr xno xsi xan xkn xen xco xrm xac K N Z D Im W P vS pO pX pI fS fP fI fU fR fO fA fH fG fN aS qL qR qP := by
  subst es
  obtain ⟨hpg, hgn, hn6, hU, hA, hrun, hro⟩ := mx_p hX
  obtain ⟨_, _, hst, hlen, _⟩ := mx_f hX
  have hlen2 : pa'.length + 2 ≤ 40 := by
    have := hlen
    rw [List.length_cons] at this
    omega
  have hX0 := hX
  obtain ⟨⟨x1, x2, x3, x4, x5, x6, x7, x8, x9, x10⟩, hs, hh, hb, hf, hr, hG, hpot⟩ := hX
  have hpn : p < n := by omega
  have hfo := mx_fo eP hq eO (by omega)
  obtain ⟨s, ea, hVs⟩ := hv.1 rfl
  obtain ⟨hs6, κ, hκ, eK⟩ := vx_k hh.1 hVs
  obtain ⟨gv, g1, g2⟩ := hG p hpn
  have rO : fO p = nI g := by
    rcases hro with ⟨_, rO⟩ | ⟨r1, _⟩
    · exact rO
    · exact (r_ne r0 r1).elim
  have hAO : fA p = fO p := hA.trans rO.symm
  have hal : al g := hf.2.2.2.1 g List.mem_cons_self
  have hgl : g ∉ p :: pa' := fun w => by have := fr_pa_lt _ _ hf.2.2.1 g w; omega
  refine cq_ap (r := 1) (s := fI p) (fH2 := fH) (fN2 := fN) hX0 hv ha hM H eP hqn hq eO (by omega) (by omega) (Or.inl rfl) (fr_X_pop (fr_X_m hf (fun _ => Or.inr rfl))) (by omega) (by decide) ⟨by omega, fun _ => by rw [rO]; exact fr_n1 (by omega), fun w => absurd w (by omega)⟩ (fun _ _ => by rw [rO, nI_clamp (by omega)]; exact ⟨hal, hgl⟩) (fun _ _ => rfl) (fun _ _ _ _ => rfl) ((hv.2 p hpn).1) ((hv.2 p hpn).2.1 (by omega)) ((hv.2 p hpn).2.2)
    (fun hc Q hQ => xh_ans0 x2 (by omega) hU (by omega) r0 eP hq eO (by omega) rfl (fun Q hQ => xo_31a rfl (by omega) ea hs6 eK hκ ⟨fun _ => trivial, fun _ => he s κ hs6 ea eK hκ⟩ (fun Q hQ => xr_apply (n := n) (c := c) (r := 1) x1 rfl x4 (by omega) hc hpn eP hq (by omega) (fun w => absurd w (by omega)) (fun _ => hQ)) hQ) hQ)
    (fun hc Q hQ => xh_ans0 x2 (by omega) hU (by omega) r0 eP hq eO (by omega) rfl (fun Q hQ => xo_31a rfl (by omega) ea hs6 eK hκ ⟨fun _ => trivial, fun _ => he s κ hs6 ea eK hκ⟩ (fun Q hQ => xr_apply_t (x4.trans (by rw [hc])) hQ) hQ) hQ)
    (fun mk0 pd0 mk pd nd yhe yvm yin yfi yde yic ys yk yn yp yf iK iN o0 l0 kS0 d0 pl0 yma ypo yap yas yto yan yco yti yna yac yen o l kS d pl yo yi yw ya y1 y2 yK yW yL yq nm nv no yA lf rt hY => ?_)
  obtain ⟨⟨b1, b2, b3, b4, b5, b6, b7, b8, b9, b10, b11⟩, hfl, hen, hhy, hby, hfr, han, hq0, hq1, hz1, hz2, hz3⟩ := hY
  obtain ⟨t1, t2, t3, t4, t5⟩ := hfr p hpn
  obtain ⟨ey, eq⟩ := hq1 (by decide)
  rw [List.length_cons] at ey
  have eyo := t1.symm.trans eP
  rw [hfo] at t5
  obtain ⟨et, hRa⟩ := hz1 rfl
  subst et
  obtain ⟨x, e1, e2⟩ := my_v hh.1 hhy.1 hRa ea hs6 eK hκ
  rw [eP, nI_clamp (show q < 2 ^ 31 by omega)] at t5
  rw [hfo, eP, nI_clamp (show q < 2 ^ 31 by omega)] at t4
  have t4' : ∀ x, x < 3 → vv_R V K N Z D P mk o l kS d pl (fN (p * 3 + x)) (en_e nm no nv (yw p) x) := fun x hx => (t4 x hx).elim id (fun z => absurd z.1 (by omega))
  have a0 := (my_a0 t5 (by omega) (by omega) hAO).1
  subst b6
  refine ⟨yi p, yw p, nd, ya, yK, yL, nm, nv, no, ⟨t2, Nat.le_refl _, by omega, hen, t3, fun _ _ _ => rfl, fun f hf => ⟨rfl, rfl, rfl⟩, t4', fun x hx => Or.inl (t4' x hx), fun hn => fr_S_ap t5 (by omega) (by omega) hn (by rw [rO]; exact fr_n1 (by omega)) (fun e => absurd ((nI_eq (by omega) (by omega)).mp (e.trans rO)) (by omega)) (fun a b => absurd b (by omega))⟩, fun Q _ _ _ _ _ _ _ _ _ _ _ _ _ _ _ _ _ _ _ _ _ _ _ _ _ _ _ _ _ _ _ _ _ _ _ _ _ _ _ _ _ _ _ _ _ hA hp => ?_⟩
  exact yf_40a (by omega) eyo hq (my_k 40 rfl (by omega) (hfl q hqn) eO) a0 rfl e1 hκ ⟨fun _ => trivial, fun _ => he s κ hs6 ea eK hκ⟩ hA hp
theorem cq_p33 {p : Nat} {pa' : List Nat} {post : SX → Prop} {T : List Nat → Option vv_L} {nf bo np : Nat} {K0 N0 Z0 D0 I0 W0 P0 : Nat → Int32} {xst xow xin xpa xfi xfr xno xsi xan xkn xen xco xrm xac : Int32} {K N Z D Im W P vS pO pX pI fS fP fI fU fR fO fA fH fG fN aS qL qR qP : Nat → Int32} {st : Nat} {V al : Nat → Prop} {g : Nat} {n c rm a : Nat}
    (hX : md_X V al g (p :: pa') bo np n c rm a st xfr xno xsi xen xco xrm xac K N Z D Im W P K0 N0 Z0 D0 I0 W0 P0 pO pX fP fU fR fO fA fH fG) (hv : mv_X V n xsi xan pO fP fI fH fN) (ha : ma_X V a aS)
    (hM : ∀ (mk0 pd0 : Nat) (v0 : SY), kn_F T np nf pO pX pI fS mk0 pd0 v0 → rm_M V (p :: pa') g np n c rm a st xsi xan K N Z D W P pO pX pI fP fI fO fA fH fG fN aS mk0 pd0 v0)
    (H : lp_G T nf bo np K0 N0 Z0 D0 I0 W0 P0 post xst xow xin xpa xfi xkn vS pO pX pI fS st) {q : Nat} (eP : fP p = nI q) (hqn : q < np) (hq : q < 40) (eO : pO q = nI 33) {kx : Nat} (eX : pX q = nI kx) (hkx : kx < 3) (es : xsi = 1) (r0 : fR g = 0) : wX_workOut_68 post (1000001 - st) (nI st) xst xow xin xpa xfi xfr xno xsi xan xkn xen xco xrm xac K N Z D Im W P vS pO pX pI fS fP fI fU fR fO fA fH fG fN aS qL qR qP := by
  subst es
  obtain ⟨hpg, hgn, hn6, hU, hA, hrun, hro⟩ := mx_p hX
  obtain ⟨_, _, hst, hlen, _⟩ := mx_f hX
  have hlen2 : pa'.length + 2 ≤ 40 := by
    have := hlen
    rw [List.length_cons] at this
    omega
  have hX0 := hX
  obtain ⟨⟨x1, x2, x3, x4, x5, x6, x7, x8, x9, x10⟩, hs, hh, hb, hf, hr, hG, hpot⟩ := hX
  have hpn : p < n := by omega
  have hfo := mx_fo eP hq eO (by omega)
  obtain ⟨s, ea, hVs⟩ := hv.1 rfl
  obtain ⟨hs6, κ, hκ, eK⟩ := vx_k hh.1 hVs
  obtain ⟨gv, g1, g2⟩ := hG p hpn
  have rO : fO p = nI g := by
    rcases hro with ⟨_, rO⟩ | ⟨r1, _⟩
    · exact rO
    · exact (r_ne r0 r1).elim
  have hAO : fA p = fO p := hA.trans rO.symm
  have hal : al g := hf.2.2.2.1 g List.mem_cons_self
  have hgl : g ∉ p :: pa' := fun w => by have := fr_pa_lt _ _ hf.2.2.1 g w; omega
  refine cq_ap (r := 1) (s := fI p) (fH2 := fH) (fN2 := upd fN (p * 3 + kx) xan) hX0 hv ha hM H eP hqn hq eO (by omega) (by omega) (Or.inl rfl) (fr_X_pop (fr_X_m hf (fun _ => Or.inr rfl))) (by omega) (by decide) ⟨by omega, fun _ => by rw [rO]; exact fr_n1 (by omega), fun w => absurd w (by omega)⟩ (fun _ _ => by rw [rO, nI_clamp (by omega)]; exact ⟨hal, hgl⟩) (fun _ _ => rfl) (fun f x hf hx => pk_un (by omega)) ((hv.2 p hpn).1) ((hv.2 p hpn).2.1 (by omega)) (fun x hx => by
      by_cases e : x = kx
      · rw [e, pk_us]; exact ⟨s, ea, hVs⟩
      · rw [pk_un (by omega)]; exact (hv.2 p hpn).2.2 x hx)
    (fun hc Q hQ => xh_ans0 x2 (by omega) hU (by omega) r0 eP hq eO (by omega) rfl (fun Q hQ => xo_33 rfl (by omega) ea hs6 eK hκ eP hq eX hkx (fun Q hQ => xr_apply (n := n) (c := c) (r := 1) x1 rfl x4 (by omega) hc hpn eP hq (by omega) (fun w => absurd w (by omega)) (fun _ => hQ)) hQ) hQ)
    (fun hc Q hQ => xh_ans0 x2 (by omega) hU (by omega) r0 eP hq eO (by omega) rfl (fun Q hQ => xo_33 rfl (by omega) ea hs6 eK hκ eP hq eX hkx (fun Q hQ => xr_apply_t (x4.trans (by rw [hc])) hQ) hQ) hQ)
    (fun mk0 pd0 mk pd nd yhe yvm yin yfi yde yic ys yk yn yp yf iK iN o0 l0 kS0 d0 pl0 yma ypo yap yas yto yan yco yti yna yac yen o l kS d pl yo yi yw ya y1 y2 yK yW yL yq nm nv no yA lf rt hY => ?_)
  obtain ⟨⟨b1, b2, b3, b4, b5, b6, b7, b8, b9, b10, b11⟩, hfl, hen, hhy, hby, hfr, han, hq0, hq1, hz1, hz2, hz3⟩ := hY
  obtain ⟨t1, t2, t3, t4, t5⟩ := hfr p hpn
  obtain ⟨ey, eq⟩ := hq1 (by decide)
  rw [List.length_cons] at ey
  have eyo := t1.symm.trans eP
  rw [hfo] at t5
  obtain ⟨et, hRa⟩ := hz1 rfl
  subst et
  obtain ⟨x, e1, e2⟩ := my_v hh.1 hhy.1 hRa ea hs6 eK hκ
  rw [eP, nI_clamp (show q < 2 ^ 31 by omega)] at t5
  rw [hfo, eP, nI_clamp (show q < 2 ^ 31 by omega)] at t4
  obtain ⟨a0, A1⟩ := my_a0 t5 (by omega) (by omega) hAO
  have nd7 := hen.1
  have ey1 : yn q = nI kx := by rw [b10]; exact eX
  have hy1 : y1 p ≠ -1 := by rw [A1, rO]; exact fr_n1 (by omega)
  have hb : ∀ x, x < 3 → en_e (upd nm nd (yn q)) (upd no nd (yw p)) (vp_updL nv nd yan) (nI nd) x = if x = kx then yan else en_e nm no nv (yw p) x := fun x hx => by
    rw [ey1]
    exact en_e_b hen (by omega) t3 x hx hkx
  have t4' : ∀ x, x < 3 → x ≠ kx → vv_R V K N Z D P mk o l kS d pl (fN (p * 3 + x)) (en_e nm no nv (yw p) x) := fun x hx hne => (t4 x hx).elim id (fun z => absurd ((nI_eq (by omega) (by omega)).mp (eX.symm.trans z.2.1)) (fun e => hne e.symm))
  subst b6
  refine ⟨yi p, nI nd, nd + 1, ya, yK, yL, upd nm nd (yn q), vp_updL nv nd yan, upd no nd (yw p), ⟨t2, by omega, by omega, en_ok_b hen (by omega) t3, Or.inr ⟨nd, rfl, by omega⟩, fun b x hb => en_e_st hen (fun j hj => ⟨pk_un (by omega), pk_un (by omega), pk_uLn (by omega)⟩) b x hb, fun f hf => ⟨rfl, rfl, rfl⟩, fun x hx => by
      rw [hb x hx]
      by_cases e : x = kx
      · rw [if_pos e, e, pk_us]; exact hRa
      · rw [if_neg e, pk_un (by omega)]; exact t4' x hx e, fun x hx => by
      by_cases e : x = kx
      · exact Or.inr ⟨Or.inl rfl, by rw [e]; exact eX, hy1⟩
      · rw [pk_un (by omega)]; exact Or.inl (t4' x hx e), fun hn => fr_S_ap t5 (by omega) (by omega) hn (by rw [rO]; exact fr_n1 (by omega)) (fun e => absurd ((nI_eq (by omega) (by omega)).mp (e.trans rO)) (by omega)) (fun a b => absurd b (by omega))⟩, fun Q _ _ _ _ _ _ _ _ _ _ _ _ _ _ _ _ _ _ _ _ _ _ _ _ _ _ _ _ _ _ _ _ _ _ _ _ _ _ _ _ _ _ _ _ _ hA hp => ?_⟩
  exact yf_42 (nd := nd) (by omega) eyo hq (my_k 42 rfl (by omega) (hfl q hqn) eO) a0 rfl rfl (by omega) hA hp
theorem cq_p341 {p : Nat} {pa' : List Nat} {post : SX → Prop} {T : List Nat → Option vv_L} {nf bo np : Nat} {K0 N0 Z0 D0 I0 W0 P0 : Nat → Int32} {xst xow xin xpa xfi xfr xno xsi xan xkn xen xco xrm xac : Int32} {K N Z D Im W P vS pO pX pI fS fP fI fU fR fO fA fH fG fN aS qL qR qP : Nat → Int32} {st : Nat} {V al : Nat → Prop} {g : Nat} {n c rm a : Nat}
    (hX : md_X V al g (p :: pa') bo np n c rm a st xfr xno xsi xen xco xrm xac K N Z D Im W P K0 N0 Z0 D0 I0 W0 P0 pO pX fP fU fR fO fA fH fG) (hv : mv_X V n xsi xan pO fP fI fH fN) (ha : ma_X V a aS)
    (hM : ∀ (mk0 pd0 : Nat) (v0 : SY), kn_F T np nf pO pX pI fS mk0 pd0 v0 → rm_M V (p :: pa') g np n c rm a st xsi xan K N Z D W P pO pX pI fP fI fO fA fH fG fN aS mk0 pd0 v0)
    (H : lp_G T nf bo np K0 N0 Z0 D0 I0 W0 P0 post xst xow xin xpa xfi xkn vS pO pX pI fS st) {q : Nat} (eP : fP p = nI q) (hqn : q < np) (hq : q < 40) (eO : pO q = nI 34) (he : ∀ s κ, s < 653 → xan = nI s → K s = nI κ → κ ≤ 5 → 2 ≤ κ) (es : xsi = 1) (r0 : fR g = 0) : wX_workOut_68 post (1000001 - st) (nI st) xst xow xin xpa xfi xfr xno xsi xan xkn xen xco xrm xac K N Z D Im W P vS pO pX pI fS fP fI fU fR fO fA fH fG fN aS qL qR qP := by
  subst es
  obtain ⟨hpg, hgn, hn6, hU, hA, hrun, hro⟩ := mx_p hX
  obtain ⟨_, _, hst, hlen, _⟩ := mx_f hX
  have hlen2 : pa'.length + 2 ≤ 40 := by
    have := hlen
    rw [List.length_cons] at this
    omega
  have hX0 := hX
  obtain ⟨⟨x1, x2, x3, x4, x5, x6, x7, x8, x9, x10⟩, hs, hh, hb, hf, hr, hG, hpot⟩ := hX
  have hpn : p < n := by omega
  have hfo := mx_fo eP hq eO (by omega)
  obtain ⟨s, ea, hVs⟩ := hv.1 rfl
  obtain ⟨hs6, κ, hκ, eK⟩ := vx_k hh.1 hVs
  obtain ⟨gv, g1, g2⟩ := hG p hpn
  have rO : fO p = nI g := by
    rcases hro with ⟨_, rO⟩ | ⟨r1, _⟩
    · exact rO
    · exact (r_ne r0 r1).elim
  have hAO : fA p = fO p := hA.trans rO.symm
  have hal : al g := hf.2.2.2.1 g List.mem_cons_self
  have hgl : g ∉ p :: pa' := fun w => by have := fr_pa_lt _ _ hf.2.2.1 g w; omega
  refine cq_ap (r := 1) (s := fI p) (fH2 := fH) (fN2 := fN) hX0 hv ha hM H eP hqn hq eO (by omega) (by omega) (Or.inl rfl) (fr_X_pop (fr_X_m hf (fun _ => Or.inr rfl))) (by omega) (by decide) ⟨by omega, fun _ => by rw [rO]; exact fr_n1 (by omega), fun w => absurd w (by omega)⟩ (fun _ _ => by rw [rO, nI_clamp (by omega)]; exact ⟨hal, hgl⟩) (fun _ _ => rfl) (fun _ _ _ _ => rfl) ((hv.2 p hpn).1) ((hv.2 p hpn).2.1 (by omega)) ((hv.2 p hpn).2.2)
    (fun hc Q hQ => xh_ans0 x2 (by omega) hU (by omega) r0 eP hq eO (by omega) rfl (fun Q hQ => xo_34 rfl (by omega) ea hs6 eK hκ (r := 1) ⟨fun _ => rfl, fun w => absurd w (by have := he s κ hs6 ea eK hκ; omega)⟩ (fun Q hQ => xr_apply (n := n) (c := c) (r := 1) x1 rfl x4 (by omega) hc hpn eP hq (by omega) (fun w => absurd w (by omega)) (fun _ => hQ)) hQ) hQ)
    (fun hc Q hQ => xh_ans0 x2 (by omega) hU (by omega) r0 eP hq eO (by omega) rfl (fun Q hQ => xo_34 rfl (by omega) ea hs6 eK hκ (r := 1) ⟨fun _ => rfl, fun w => absurd w (by have := he s κ hs6 ea eK hκ; omega)⟩ (fun Q hQ => xr_apply_t (x4.trans (by rw [hc])) hQ) hQ) hQ)
    (fun mk0 pd0 mk pd nd yhe yvm yin yfi yde yic ys yk yn yp yf iK iN o0 l0 kS0 d0 pl0 yma ypo yap yas yto yan yco yti yna yac yen o l kS d pl yo yi yw ya y1 y2 yK yW yL yq nm nv no yA lf rt hY => ?_)
  obtain ⟨⟨b1, b2, b3, b4, b5, b6, b7, b8, b9, b10, b11⟩, hfl, hen, hhy, hby, hfr, han, hq0, hq1, hz1, hz2, hz3⟩ := hY
  obtain ⟨t1, t2, t3, t4, t5⟩ := hfr p hpn
  obtain ⟨ey, eq⟩ := hq1 (by decide)
  rw [List.length_cons] at ey
  have eyo := t1.symm.trans eP
  rw [hfo] at t5
  obtain ⟨et, hRa⟩ := hz1 rfl
  subst et
  obtain ⟨x, e1, e2⟩ := my_v hh.1 hhy.1 hRa ea hs6 eK hκ
  rw [eP, nI_clamp (show q < 2 ^ 31 by omega)] at t5
  rw [hfo, eP, nI_clamp (show q < 2 ^ 31 by omega)] at t4
  have t4' : ∀ x, x < 3 → vv_R V K N Z D P mk o l kS d pl (fN (p * 3 + x)) (en_e nm no nv (yw p) x) := fun x hx => (t4 x hx).elim id (fun z => absurd z.1 (by omega))
  have a0 := (my_a0 t5 (by omega) (by omega) hAO).1
  subst b6
  refine ⟨yi p, yw p, nd, ya, yK, yL, nm, nv, no, ⟨t2, Nat.le_refl _, by omega, hen, t3, fun _ _ _ => rfl, fun f hf => ⟨rfl, rfl, rfl⟩, t4', fun x hx => Or.inl (t4' x hx), fun hn => fr_S_ap t5 (by omega) (by omega) hn (by rw [rO]; exact fr_n1 (by omega)) (fun e => absurd ((nI_eq (by omega) (by omega)).mp (e.trans rO)) (by omega)) (fun a b => absurd b (by omega))⟩, fun Q _ _ _ _ _ _ _ _ _ _ _ _ _ _ _ _ _ _ _ _ _ _ _ _ _ _ _ _ _ _ _ _ _ _ _ _ _ _ _ _ _ _ _ _ _ hA hp => ?_⟩
  exact yf_50 (by omega) eyo hq (my_k 50 rfl (by omega) (hfl q hqn) eO) a0 (r := 1) rfl e1 hκ ⟨fun _ => rfl, fun w => absurd w (by have := he s κ hs6 ea eK hκ; omega)⟩ hA hp
theorem cq_p342 {p : Nat} {pa' : List Nat} {post : SX → Prop} {T : List Nat → Option vv_L} {nf bo np : Nat} {K0 N0 Z0 D0 I0 W0 P0 : Nat → Int32} {xst xow xin xpa xfi xfr xno xsi xan xkn xen xco xrm xac : Int32} {K N Z D Im W P vS pO pX pI fS fP fI fU fR fO fA fH fG fN aS qL qR qP : Nat → Int32} {st : Nat} {V al : Nat → Prop} {g : Nat} {n c rm a : Nat}
    (hX : md_X V al g (p :: pa') bo np n c rm a st xfr xno xsi xen xco xrm xac K N Z D Im W P K0 N0 Z0 D0 I0 W0 P0 pO pX fP fU fR fO fA fH fG) (hv : mv_X V n xsi xan pO fP fI fH fN) (ha : ma_X V a aS)
    (hM : ∀ (mk0 pd0 : Nat) (v0 : SY), kn_F T np nf pO pX pI fS mk0 pd0 v0 → rm_M V (p :: pa') g np n c rm a st xsi xan K N Z D W P pO pX pI fP fI fO fA fH fG fN aS mk0 pd0 v0)
    (H : lp_G T nf bo np K0 N0 Z0 D0 I0 W0 P0 post xst xow xin xpa xfi xkn vS pO pX pI fS st) {q : Nat} (eP : fP p = nI q) (hqn : q < np) (hq : q < 40) (eO : pO q = nI 34) (he : ∀ s κ, s < 653 → xan = nI s → K s = nI κ → κ ≤ 5 → κ < 2) (es : xsi = 1) (r0 : fR g = 0) : wX_workOut_68 post (1000001 - st) (nI st) xst xow xin xpa xfi xfr xno xsi xan xkn xen xco xrm xac K N Z D Im W P vS pO pX pI fS fP fI fU fR fO fA fH fG fN aS qL qR qP := by
  subst es
  obtain ⟨hpg, hgn, hn6, hU, hA, hrun, hro⟩ := mx_p hX
  obtain ⟨_, _, hst, hlen, _⟩ := mx_f hX
  have hlen2 : pa'.length + 2 ≤ 40 := by
    have := hlen
    rw [List.length_cons] at this
    omega
  have hX0 := hX
  obtain ⟨⟨x1, x2, x3, x4, x5, x6, x7, x8, x9, x10⟩, hs, hh, hb, hf, hr, hG, hpot⟩ := hX
  have hpn : p < n := by omega
  have hfo := mx_fo eP hq eO (by omega)
  obtain ⟨s, ea, hVs⟩ := hv.1 rfl
  obtain ⟨hs6, κ, hκ, eK⟩ := vx_k hh.1 hVs
  obtain ⟨gv, g1, g2⟩ := hG p hpn
  have rO : fO p = nI g := by
    rcases hro with ⟨_, rO⟩ | ⟨r1, _⟩
    · exact rO
    · exact (r_ne r0 r1).elim
  have hAO : fA p = fO p := hA.trans rO.symm
  have hal : al g := hf.2.2.2.1 g List.mem_cons_self
  have hgl : g ∉ p :: pa' := fun w => by have := fr_pa_lt _ _ hf.2.2.1 g w; omega
  refine cq_ap (r := 2) (s := fI p) (fH2 := fH) (fN2 := fN) hX0 hv ha hM H eP hqn hq eO (by omega) (by omega) (Or.inl rfl) (fr_X_pop (fr_X_m hf (fun _ => Or.inr rfl))) (by omega) (by decide) ⟨by omega, fun _ => by rw [rO]; exact fr_n1 (by omega), fun w => absurd w (by omega)⟩ (fun _ _ => by rw [rO, nI_clamp (by omega)]; exact ⟨hal, hgl⟩) (fun _ _ => rfl) (fun _ _ _ _ => rfl) ((hv.2 p hpn).1) ((hv.2 p hpn).2.1 (by omega)) ((hv.2 p hpn).2.2)
    (fun hc Q hQ => xh_ans0 x2 (by omega) hU (by omega) r0 eP hq eO (by omega) rfl (fun Q hQ => xo_34 rfl (by omega) ea hs6 eK hκ (r := 2) ⟨fun w => absurd w (by have := he s κ hs6 ea eK hκ; omega), fun _ => rfl⟩ (fun Q hQ => xr_apply (n := n) (c := c) (r := 2) x1 rfl x4 (by omega) hc hpn eP hq (by omega) (fun w => absurd w (by omega)) (fun _ => hQ)) hQ) hQ)
    (fun hc Q hQ => xh_ans0 x2 (by omega) hU (by omega) r0 eP hq eO (by omega) rfl (fun Q hQ => xo_34 rfl (by omega) ea hs6 eK hκ (r := 2) ⟨fun w => absurd w (by have := he s κ hs6 ea eK hκ; omega), fun _ => rfl⟩ (fun Q hQ => xr_apply_t (x4.trans (by rw [hc])) hQ) hQ) hQ)
    (fun mk0 pd0 mk pd nd yhe yvm yin yfi yde yic ys yk yn yp yf iK iN o0 l0 kS0 d0 pl0 yma ypo yap yas yto yan yco yti yna yac yen o l kS d pl yo yi yw ya y1 y2 yK yW yL yq nm nv no yA lf rt hY => ?_)
  obtain ⟨⟨b1, b2, b3, b4, b5, b6, b7, b8, b9, b10, b11⟩, hfl, hen, hhy, hby, hfr, han, hq0, hq1, hz1, hz2, hz3⟩ := hY
  obtain ⟨t1, t2, t3, t4, t5⟩ := hfr p hpn
  obtain ⟨ey, eq⟩ := hq1 (by decide)
  rw [List.length_cons] at ey
  have eyo := t1.symm.trans eP
  rw [hfo] at t5
  obtain ⟨et, hRa⟩ := hz1 rfl
  subst et
  obtain ⟨x, e1, e2⟩ := my_v hh.1 hhy.1 hRa ea hs6 eK hκ
  rw [eP, nI_clamp (show q < 2 ^ 31 by omega)] at t5
  rw [hfo, eP, nI_clamp (show q < 2 ^ 31 by omega)] at t4
  have t4' : ∀ x, x < 3 → vv_R V K N Z D P mk o l kS d pl (fN (p * 3 + x)) (en_e nm no nv (yw p) x) := fun x hx => (t4 x hx).elim id (fun z => absurd z.1 (by omega))
  have a0 := (my_a0 t5 (by omega) (by omega) hAO).1
  subst b6
  refine ⟨yi p, yw p, nd, ya, yK, yL, nm, nv, no, ⟨t2, Nat.le_refl _, by omega, hen, t3, fun _ _ _ => rfl, fun f hf => ⟨rfl, rfl, rfl⟩, t4', fun x hx => Or.inl (t4' x hx), fun hn => fr_S_ap t5 (by omega) (by omega) hn (by rw [rO]; exact fr_n1 (by omega)) (fun e => absurd ((nI_eq (by omega) (by omega)).mp (e.trans rO)) (by omega)) (fun a b => absurd b (by omega))⟩, fun Q _ _ _ _ _ _ _ _ _ _ _ _ _ _ _ _ _ _ _ _ _ _ _ _ _ _ _ _ _ _ _ _ _ _ _ _ _ _ _ _ _ _ _ _ _ hA hp => ?_⟩
  exact yf_50 (by omega) eyo hq (my_k 50 rfl (by omega) (hfl q hqn) eO) a0 (r := 2) rfl e1 hκ ⟨fun w => absurd w (by have := he s κ hs6 ea eK hκ; omega), fun _ => rfl⟩ hA hp
theorem cq_p35 {p : Nat} {pa' : List Nat} {post : SX → Prop} {T : List Nat → Option vv_L} {nf bo np : Nat} {K0 N0 Z0 D0 I0 W0 P0 : Nat → Int32} {xst xow xin xpa xfi xfr xno xsi xan xkn xen xco xrm xac : Int32} {K N Z D Im W P vS pO pX pI fS fP fI fU fR fO fA fH fG fN aS qL qR qP : Nat → Int32} {st : Nat} {V al : Nat → Prop} {g : Nat} {n c rm a : Nat}
    (hX : md_X V al g (p :: pa') bo np n c rm a st xfr xno xsi xen xco xrm xac K N Z D Im W P K0 N0 Z0 D0 I0 W0 P0 pO pX fP fU fR fO fA fH fG) (hv : mv_X V n xsi xan pO fP fI fH fN) (ha : ma_X V a aS)
    (hM : ∀ (mk0 pd0 : Nat) (v0 : SY), kn_F T np nf pO pX pI fS mk0 pd0 v0 → rm_M V (p :: pa') g np n c rm a st xsi xan K N Z D W P pO pX pI fP fI fO fA fH fG fN aS mk0 pd0 v0)
    (H : lp_G T nf bo np K0 N0 Z0 D0 I0 W0 P0 post xst xow xin xpa xfi xkn vS pO pX pI fS st) {q : Nat} (eP : fP p = nI q) (hqn : q < np) (hq : q < 40) (eO : pO q = nI 35) {kx : Nat} (eX : pX q = nI kx) (hkx : kx < 3) (es : xsi = 1) (r0 : fR g = 0) : wX_workOut_68 post (1000001 - st) (nI st) xst xow xin xpa xfi xfr xno xsi xan xkn xen xco xrm xac K N Z D Im W P vS pO pX pI fS fP fI fU fR fO fA fH fG fN aS qL qR qP := by
  subst es
  obtain ⟨hpg, hgn, hn6, hU, hA, hrun, hro⟩ := mx_p hX
  obtain ⟨_, _, hst, hlen, _⟩ := mx_f hX
  have hlen2 : pa'.length + 2 ≤ 40 := by
    have := hlen
    rw [List.length_cons] at this
    omega
  have hX0 := hX
  obtain ⟨⟨x1, x2, x3, x4, x5, x6, x7, x8, x9, x10⟩, hs, hh, hb, hf, hr, hG, hpot⟩ := hX
  have hpn : p < n := by omega
  have hfo := mx_fo eP hq eO (by omega)
  obtain ⟨s, ea, hVs⟩ := hv.1 rfl
  obtain ⟨hs6, κ, hκ, eK⟩ := vx_k hh.1 hVs
  obtain ⟨gv, g1, g2⟩ := hG p hpn
  have rO : fO p = nI g := by
    rcases hro with ⟨_, rO⟩ | ⟨r1, _⟩
    · exact rO
    · exact (r_ne r0 r1).elim
  have hAO : fA p = fO p := hA.trans rO.symm
  have hal : al g := hf.2.2.2.1 g List.mem_cons_self
  have hgl : g ∉ p :: pa' := fun w => by have := fr_pa_lt _ _ hf.2.2.1 g w; omega
  refine cq_ap (r := 2) (s := fH p) (fH2 := upd fH p 0) (fN2 := upd fN (p * 3 + kx) xan) hX0 hv ha hM H eP hqn hq eO (by omega) (by omega) (Or.inl rfl) (fr_X_pop (fr_X_m hf (fun _ => Or.inr rfl))) (by omega) (by decide) ⟨by omega, fun _ => by rw [rO]; exact fr_n1 (by omega), fun w => ⟨fun w => absurd w (by decide), fun w => absurd (rO.symm.trans w) (fr_n1 (by omega))⟩⟩ (fun _ _ => by rw [rO, nI_clamp (by omega)]; exact ⟨hal, hgl⟩) (fun f hf => pk_un hf) (fun f x hf hx => pk_un (by omega)) ((hv.2 p hpn).2.1 (by omega)) (⟨0, pk_us, (hh.2.2.2.1.1 0 (by omega)).1⟩) (fun x hx => by
      by_cases e : x = kx
      · rw [e, pk_us]; exact ⟨s, ea, hVs⟩
      · rw [pk_un (by omega)]; exact (hv.2 p hpn).2.2 x hx)
    (fun hc Q hQ => xh_ans0 x2 (by omega) hU (by omega) r0 eP hq eO (by omega) rfl (fun Q hQ => xo_35 rfl (by omega) ea hs6 eK hκ eP hq eX hkx (fun Q hQ => xr_apply (n := n) (c := c) (r := 2) x1 rfl x4 (by omega) hc hpn eP hq (by omega) (fun w => absurd w (by omega)) (fun _ => hQ)) hQ) hQ)
    (fun hc Q hQ => xh_ans0 x2 (by omega) hU (by omega) r0 eP hq eO (by omega) rfl (fun Q hQ => xo_35 rfl (by omega) ea hs6 eK hκ eP hq eX hkx (fun Q hQ => xr_apply_t (x4.trans (by rw [hc])) hQ) hQ) hQ)
    (fun mk0 pd0 mk pd nd yhe yvm yin yfi yde yic ys yk yn yp yf iK iN o0 l0 kS0 d0 pl0 yma ypo yap yas yto yan yco yti yna yac yen o l kS d pl yo yi yw ya y1 y2 yK yW yL yq nm nv no yA lf rt hY => ?_)
  obtain ⟨⟨b1, b2, b3, b4, b5, b6, b7, b8, b9, b10, b11⟩, hfl, hen, hhy, hby, hfr, han, hq0, hq1, hz1, hz2, hz3⟩ := hY
  obtain ⟨t1, t2, t3, t4, t5⟩ := hfr p hpn
  obtain ⟨ey, eq⟩ := hq1 (by decide)
  rw [List.length_cons] at ey
  have eyo := t1.symm.trans eP
  rw [hfo] at t5
  obtain ⟨et, hRa⟩ := hz1 rfl
  subst et
  obtain ⟨x, e1, e2⟩ := my_v hh.1 hhy.1 hRa ea hs6 eK hκ
  rw [eP, nI_clamp (show q < 2 ^ 31 by omega)] at t5
  rw [hfo, eP, nI_clamp (show q < 2 ^ 31 by omega)] at t4
  obtain ⟨A1, s2⟩ := t5.2.2.2.2.2.2.2.2.2 rfl
  obtain ⟨w1, w3, w4, w5⟩ : fO p ≠ -1 ∧ fG p = 0 ∧ ya p = 1 ∧ vv_R V K N Z D P mk o l kS d pl (fH p) (yK p) := by
    rcases s2 with ⟨w, _⟩ | ⟨w1, w2, w3, w4, w5, _⟩ | ⟨w1, w2, w3, w4, w5⟩ | ⟨w1, w2, w3, w4, w5, w6, _⟩ | ⟨_, w, _⟩
    · exact absurd (hA.symm.trans w) (fr_n1 (by omega))
    · exact absurd (rO.symm.trans w1) (fr_n1 (by omega))
    · exact ⟨w1, w3, w4, w5⟩
    · exact absurd hAO w3
    · rw [hrun.1 (Or.inr hfo)] at w
      exact absurd w (by decide)
  have nd7 := hen.1
  have ey1 : yn q = nI kx := by rw [b10]; exact eX
  have hy1 : y1 p ≠ -1 := by rw [A1, rO]; exact fr_n1 (by omega)
  have hb : ∀ x, x < 3 → en_e (upd nm nd (yn q)) (upd no nd (yw p)) (vp_updL nv nd yan) (nI nd) x = if x = kx then yan else en_e nm no nv (yw p) x := fun x hx => by
    rw [ey1]
    exact en_e_b hen (by omega) t3 x hx hkx
  have t4' : ∀ x, x < 3 → x ≠ kx → vv_R V K N Z D P mk o l kS d pl (fN (p * 3 + x)) (en_e nm no nv (yw p) x) := fun x hx hne => (t4 x hx).elim id (fun z => absurd ((nI_eq (by omega) (by omega)).mp (eX.symm.trans z.2.1)) (fun e => hne e.symm))
  subst b6
  refine ⟨yK p, nI nd, nd + 1, upd ya p 2, yK, vp_updL yL p 0, upd nm nd (yn q), vp_updL nv nd yan, upd no nd (yw p), ⟨w5, by omega, by omega, en_ok_b hen (by omega) t3, Or.inr ⟨nd, rfl, by omega⟩, fun b x hb => en_e_st hen (fun j hj => ⟨pk_un (by omega), pk_un (by omega), pk_uLn (by omega)⟩) b x hb, fun f hf => ⟨pk_un hf, rfl, pk_uLn hf⟩, fun x hx => by
      rw [hb x hx]
      by_cases e : x = kx
      · rw [if_pos e, e, pk_us]; exact hRa
      · rw [if_neg e, pk_un (by omega)]; exact t4' x hx e, fun x hx => by
      by_cases e : x = kx
      · exact Or.inr ⟨Or.inr rfl, by rw [e]; exact eX, hy1⟩
      · rw [pk_un (by omega)]; exact Or.inl (t4' x hx e), fun hn => by
      rw [pk_us, pk_us, pk_uLs]
      exact ⟨fun w => absurd w (by omega), fun w => absurd w (by omega), fun w => absurd w (by omega), fun _ w => absurd w (by omega), fun w => absurd w (by omega), fun w => absurd w (by omega), fun _ w => absurd w (by omega), fun _ w => absurd w (by omega), fun w => absurd w (by omega), fun _ => ⟨A1, Or.inr (Or.inr (Or.inr (Or.inl ⟨w1, fr_n1 hn, fun e => absurd ((nI_eq (by omega) (by omega)).mp (e.trans rO)) (by omega), w3, rfl, rfl, rl_R00 hh.1 hh.2.2.2.1⟩)))⟩⟩⟩, fun Q _ _ _ _ _ _ _ _ _ _ _ _ _ _ _ _ _ _ _ _ _ _ _ _ _ _ _ _ _ _ _ _ _ _ _ _ _ _ _ _ _ _ _ _ _ hA hp => ?_⟩
  exact yo_0a (nd := nd) (by omega) eyo hq (my_k 51 rfl (by omega) (hfl q hqn) eO) rfl w4 rfl (by omega) hA hp
theorem cq_e22 {p : Nat} {pa' : List Nat} {post : SX → Prop} {T : List Nat → Option vv_L} {nf bo np : Nat} {K0 N0 Z0 D0 I0 W0 P0 : Nat → Int32} {xst xow xin xpa xfi xfr xno xsi xan xkn xen xco xrm xac : Int32} {K N Z D Im W P vS pO pX pI fS fP fI fU fR fO fA fH fG fN aS qL qR qP : Nat → Int32} {st : Nat} {V al : Nat → Prop} {g : Nat} {n c rm a : Nat}
    (hX : md_X V al g (p :: pa') bo np n c rm a st xfr xno xsi xen xco xrm xac K N Z D Im W P K0 N0 Z0 D0 I0 W0 P0 pO pX fP fU fR fO fA fH fG) (hv : mv_X V n xsi xan pO fP fI fH fN) (ha : ma_X V a aS)
    (hM : ∀ (mk0 pd0 : Nat) (v0 : SY), kn_F T np nf pO pX pI fS mk0 pd0 v0 → rm_M V (p :: pa') g np n c rm a st xsi xan K N Z D W P pO pX pI fP fI fO fA fH fG fN aS mk0 pd0 v0)
    (H : lp_G T nf bo np K0 N0 Z0 D0 I0 W0 P0 post xst xow xin xpa xfi xkn vS pO pX pI fS st) {q : Nat} (eP : fP p = nI q) (hqn : q < np) (hq : q < 40) (eO : pO q = nI 22) (es : xsi = 2) (r0 : fR g = 0) : wX_workOut_68 post (1000001 - st) (nI st) xst xow xin xpa xfi xfr xno xsi xan xkn xen xco xrm xac K N Z D Im W P vS pO pX pI fS fP fI fU fR fO fA fH fG fN aS qL qR qP := by
  have nx0 : xsi ≠ 0 := by rw [es]; decide
  obtain ⟨hpg, hgn, hn6, hU, hA, hrun, hro⟩ := mx_p hX
  obtain ⟨_, _, hst, hlen, _⟩ := mx_f hX
  have hlen2 : pa'.length + 2 ≤ 40 := by
    have := hlen
    rw [List.length_cons] at this
    omega
  have hX0 := hX
  obtain ⟨⟨x1, x2, x3, x4, x5, x6, x7, x8, x9, x10⟩, hs, hh, hb, hf, hr, hG, hpot⟩ := hX
  have hpn : p < n := by omega
  have hfo := mx_fo eP hq eO (by omega)
  have rO : fO p = nI g := by
    rcases hro with ⟨_, rO⟩ | ⟨r1, _⟩
    · exact rO
    · exact (r_ne r0 r1).elim
  have hAO : fA p = fO p := hA.trans rO.symm
  obtain ⟨gv, g1, g2⟩ := hG p hpn
  refine cq_ap (r := 1) (s := fI p) (fH2 := fH) (fN2 := fN) hX0 hv ha hM H eP hqn hq eO (by omega) (by omega) (Or.inr (Or.inl es)) (fr_X_kill hf) (by omega) (by decide) ⟨by omega, fun _ => by rw [rO]; exact fr_n1 (by omega), fun w => absurd w (by omega)⟩ (fun a b => absurd rfl a) (fun _ _ => rfl) (fun _ _ _ _ => rfl) (hv.2 p hpn).1 ((hv.2 p hpn).2.1 (by omega)) (hv.2 p hpn).2.2
    (fun hc Q hQ => xh_end0 x2 (by omega) hU (by omega) r0 eP hq eO (by omega) (Or.inl es) (fun Q hQ => xe_ap rfl (by omega) (by omega) g1 (by omega) (Or.inl rfl) (fun Q hQ => xr_apply (n := n) (c := c) (r := 1) x1 rfl x4 (by omega) hc hpn eP hq (by omega) (fun w => absurd w (by omega)) (fun _ => hQ)) hQ) hQ)
    (fun hc Q hQ => xh_end0 x2 (by omega) hU (by omega) r0 eP hq eO (by omega) (Or.inl es) (fun Q hQ => xe_ap rfl (by omega) (by omega) g1 (by omega) (Or.inl rfl) (fun Q hQ => xr_apply_t (x4.trans (by rw [hc])) hQ) hQ) hQ)
    (fun mk0 pd0 mk pd nd yhe yvm yin yfi yde yic ys yk yn yp yf iK iN o0 l0 kS0 d0 pl0 yma ypo yap yas yto yan yco yti yna yac yen o l kS d pl yo yi yw ya y1 y2 yK yW yL yq nm nv no yA lf rt hY => ?_)
  obtain ⟨⟨b1, b2, b3, b4, b5, b6, b7, b8, b9, b10, b11⟩, hfl, hen, hhy, hby, hfr, han, hq0, hq1, hz1, hz2, hz3⟩ := hY
  obtain ⟨t1, t2, t3, t4, t5⟩ := hfr p hpn
  obtain ⟨ey, eq⟩ := hq1 nx0
  rw [List.length_cons] at ey
  have eyo := t1.symm.trans eP
  rw [hfo] at t5
  rw [eP, nI_clamp (show q < 2 ^ 31 by omega)] at t5
  rw [hfo, eP, nI_clamp (show q < 2 ^ 31 by omega)] at t4
  have t4' : ∀ x, x < 3 → vv_R V K N Z D P mk o l kS d pl (fN (p * 3 + x)) (en_e nm no nv (yw p) x) := fun x hx => (t4 x hx).elim id (fun z => absurd z.1 (by omega))
  have a0 := (my_a0 t5 (by omega) (by omega) hAO).1
  subst b6
  refine ⟨yi p, yw p, nd, ya, yK, yL, nm, nv, no, ⟨t2, Nat.le_refl _, by omega, hen, t3, fun _ _ _ => rfl, fun f hf => ⟨rfl, rfl, rfl⟩, t4', fun x hx => Or.inl (t4' x hx), fun hn => fr_S_ap t5 (by omega) (by omega) hn (by rw [rO]; exact fr_n1 (by omega)) (fun e => absurd ((nI_eq (by omega) (by omega)).mp (e.trans rO)) (by omega)) (fun a b => absurd b (by omega))⟩, fun Q _ _ _ _ _ _ _ _ _ _ _ _ _ _ _ _ _ _ _ _ _ _ _ _ _ _ _ _ _ _ _ _ _ _ _ _ _ _ _ _ _ _ _ _ _ hA hp => ?_⟩
  exact yf_31a (by omega) eyo hq (my_k 31 rfl (by omega) (hfl q hqn) eO) a0 (hz2 es) hA hp
theorem cq_e32 {p : Nat} {pa' : List Nat} {post : SX → Prop} {T : List Nat → Option vv_L} {nf bo np : Nat} {K0 N0 Z0 D0 I0 W0 P0 : Nat → Int32} {xst xow xin xpa xfi xfr xno xsi xan xkn xen xco xrm xac : Int32} {K N Z D Im W P vS pO pX pI fS fP fI fU fR fO fA fH fG fN aS qL qR qP : Nat → Int32} {st : Nat} {V al : Nat → Prop} {g : Nat} {n c rm a : Nat}
    (hX : md_X V al g (p :: pa') bo np n c rm a st xfr xno xsi xen xco xrm xac K N Z D Im W P K0 N0 Z0 D0 I0 W0 P0 pO pX fP fU fR fO fA fH fG) (hv : mv_X V n xsi xan pO fP fI fH fN) (ha : ma_X V a aS)
    (hM : ∀ (mk0 pd0 : Nat) (v0 : SY), kn_F T np nf pO pX pI fS mk0 pd0 v0 → rm_M V (p :: pa') g np n c rm a st xsi xan K N Z D W P pO pX pI fP fI fO fA fH fG fN aS mk0 pd0 v0)
    (H : lp_G T nf bo np K0 N0 Z0 D0 I0 W0 P0 post xst xow xin xpa xfi xkn vS pO pX pI fS st) {q : Nat} (eP : fP p = nI q) (hqn : q < np) (hq : q < 40) (eO : pO q = nI 32) (es : xsi = 2 ∨ xsi = 3) (eG0 : fG p = 0) (r0 : fR g = 0) : wX_workOut_68 post (1000001 - st) (nI st) xst xow xin xpa xfi xfr xno xsi xan xkn xen xco xrm xac K N Z D Im W P vS pO pX pI fS fP fI fU fR fO fA fH fG fN aS qL qR qP := by
  have nx0 : xsi ≠ 0 := by rcases es with e | e <;> rw [e] <;> decide
  obtain ⟨hpg, hgn, hn6, hU, hA, hrun, hro⟩ := mx_p hX
  obtain ⟨_, _, hst, hlen, _⟩ := mx_f hX
  have hlen2 : pa'.length + 2 ≤ 40 := by
    have := hlen
    rw [List.length_cons] at this
    omega
  have hX0 := hX
  obtain ⟨⟨x1, x2, x3, x4, x5, x6, x7, x8, x9, x10⟩, hs, hh, hb, hf, hr, hG, hpot⟩ := hX
  have hpn : p < n := by omega
  have hfo := mx_fo eP hq eO (by omega)
  have rO : fO p = nI g := by
    rcases hro with ⟨_, rO⟩ | ⟨r1, _⟩
    · exact rO
    · exact (r_ne r0 r1).elim
  have hAO : fA p = fO p := hA.trans rO.symm
  obtain ⟨gv, g1, g2⟩ := hG p hpn
  refine cq_ap (r := 1) (s := fI p) (fH2 := fH) (fN2 := fN) hX0 hv ha hM H eP hqn hq eO (by omega) (by omega) (Or.inr es) (fr_X_kill hf) (by omega) (by decide) ⟨by omega, fun _ => by rw [rO]; exact fr_n1 (by omega), fun w => absurd w (by omega)⟩ (fun a b => absurd rfl b) (fun _ _ => rfl) (fun _ _ _ _ => rfl) (hv.2 p hpn).1 ((hv.2 p hpn).2.1 (by omega)) (hv.2 p hpn).2.2
    (fun hc Q hQ => xh_end0 x2 (by omega) hU (by omega) r0 eP hq eO (by omega) (es.elim Or.inl (fun w => Or.inr ⟨w, Or.inr rfl⟩)) (fun Q hQ => xe_ap rfl (by omega) (by omega) g1 (by omega) (Or.inr ⟨rfl, (nI_eq (b := 0) (by omega) (by omega)).mp (g1.symm.trans eG0)⟩) (fun Q hQ => xr_apply (n := n) (c := c) (r := 1) x1 rfl x4 (by omega) hc hpn eP hq (by omega) (fun w => absurd w (by omega)) (fun _ => hQ)) hQ) hQ)
    (fun hc Q hQ => xh_end0 x2 (by omega) hU (by omega) r0 eP hq eO (by omega) (es.elim Or.inl (fun w => Or.inr ⟨w, Or.inr rfl⟩)) (fun Q hQ => xe_ap rfl (by omega) (by omega) g1 (by omega) (Or.inr ⟨rfl, (nI_eq (b := 0) (by omega) (by omega)).mp (g1.symm.trans eG0)⟩) (fun Q hQ => xr_apply_t (x4.trans (by rw [hc])) hQ) hQ) hQ)
    (fun mk0 pd0 mk pd nd yhe yvm yin yfi yde yic ys yk yn yp yf iK iN o0 l0 kS0 d0 pl0 yma ypo yap yas yto yan yco yti yna yac yen o l kS d pl yo yi yw ya y1 y2 yK yW yL yq nm nv no yA lf rt hY => ?_)
  obtain ⟨⟨b1, b2, b3, b4, b5, b6, b7, b8, b9, b10, b11⟩, hfl, hen, hhy, hby, hfr, han, hq0, hq1, hz1, hz2, hz3⟩ := hY
  obtain ⟨t1, t2, t3, t4, t5⟩ := hfr p hpn
  obtain ⟨ey, eq⟩ := hq1 nx0
  rw [List.length_cons] at ey
  have eyo := t1.symm.trans eP
  rw [hfo] at t5
  rw [eP, nI_clamp (show q < 2 ^ 31 by omega)] at t5
  rw [hfo, eP, nI_clamp (show q < 2 ^ 31 by omega)] at t4
  have t4' : ∀ x, x < 3 → vv_R V K N Z D P mk o l kS d pl (fN (p * 3 + x)) (en_e nm no nv (yw p) x) := fun x hx => (t4 x hx).elim id (fun z => absurd z.1 (by omega))
  have a0 := (my_a0 t5 (by omega) (by omega) hAO).1
  have ny0 : ¬ yto = 0 := by
    rcases es with e | e
    · rw [hz2 e]; decide
    · rw [hz3 e]; decide
  have nW : ¬ yW p = 1 := by
    rcases t5.2.2.2.2.2.2.2.2.1 rfl with ⟨_, w⟩ | ⟨_, g', w, w2⟩
    · rw [w]; decide
    · rw [eG0] at w
      exact absurd ((nI_eq (a := 0) (by omega) (by omega)).mp w) (by omega)
  subst b6
  refine ⟨yi p, yw p, nd, ya, yK, yL, nm, nv, no, ⟨t2, Nat.le_refl _, by omega, hen, t3, fun _ _ _ => rfl, fun f hf => ⟨rfl, rfl, rfl⟩, t4', fun x hx => Or.inl (t4' x hx), fun hn => fr_S_ap t5 (by omega) (by omega) hn (by rw [rO]; exact fr_n1 (by omega)) (fun e => absurd ((nI_eq (by omega) (by omega)).mp (e.trans rO)) (by omega)) (fun a b => absurd b (by omega))⟩, fun Q _ _ _ _ _ _ _ _ _ _ _ _ _ _ _ _ _ _ _ _ _ _ _ _ _ _ _ _ _ _ _ _ _ _ _ _ _ _ _ _ _ _ _ _ _ hA hp => ?_⟩
  exact yf_41a (by omega) eyo hq (my_k 41 rfl (by omega) (hfl q hqn) eO) a0 ny0 nW hA hp
theorem cq_f35 {p : Nat} {pa' : List Nat} {post : SX → Prop} {T : List Nat → Option vv_L} {nf bo np : Nat} {K0 N0 Z0 D0 I0 W0 P0 : Nat → Int32} {xst xow xin xpa xfi xfr xno xsi xan xkn xen xco xrm xac : Int32} {K N Z D Im W P vS pO pX pI fS fP fI fU fR fO fA fH fG fN aS qL qR qP : Nat → Int32} {st : Nat} {V al : Nat → Prop} {g : Nat} {n c rm a : Nat}
    (hX : md_X V al g (p :: pa') bo np n c rm a st xfr xno xsi xen xco xrm xac K N Z D Im W P K0 N0 Z0 D0 I0 W0 P0 pO pX fP fU fR fO fA fH fG) (hv : mv_X V n xsi xan pO fP fI fH fN) (ha : ma_X V a aS)
    (hM : ∀ (mk0 pd0 : Nat) (v0 : SY), kn_F T np nf pO pX pI fS mk0 pd0 v0 → rm_M V (p :: pa') g np n c rm a st xsi xan K N Z D W P pO pX pI fP fI fO fA fH fG fN aS mk0 pd0 v0)
    (H : lp_G T nf bo np K0 N0 Z0 D0 I0 W0 P0 post xst xow xin xpa xfi xkn vS pO pX pI fS st) {q : Nat} (eP : fP p = nI q) (hqn : q < np) (hq : q < 40) (eO : pO q = nI 35) (es : xsi = 2) (r1 : fR g = 1) : wX_workOut_68 post (1000001 - st) (nI st) xst xow xin xpa xfi xfr xno xsi xan xkn xen xco xrm xac K N Z D Im W P vS pO pX pI fS fP fI fU fR fO fA fH fG fN aS qL qR qP := by
  subst es
  obtain ⟨hpg, hgn, hn6, hU, hA, hrun, hro⟩ := mx_p hX
  obtain ⟨_, _, hst, hlen, _⟩ := mx_f hX
  have hlen2 : pa'.length + 2 ≤ 40 := by
    have := hlen
    rw [List.length_cons] at this
    omega
  have hX0 := hX
  obtain ⟨⟨x1, x2, x3, x4, x5, x6, x7, x8, x9, x10⟩, hs, hh, hb, hf, hr, hG, hpot⟩ := hX
  have hpn : p < n := by omega
  have hfo := mx_fo eP hq eO (by omega)
  have nr : ¬ fR g = 0 := by rw [r1]; decide
  obtain ⟨rO, hO1⟩ : fO p ≠ nI g ∧ fO p = -1 := by
    rcases hro with ⟨r0, _⟩ | ⟨_, rO, _, _, rr⟩
    · exact absurd r0 nr
    · exact ⟨rO, (rr hfo).mp r1⟩
  obtain ⟨gv, g1, g2⟩ := hG p hpn
  obtain ⟨yk', hfp⟩ := H.1 q hqn
  obtain ⟨oq', p1, p2, p3, p4, _⟩ := hfp
  have : oq' = 35 := (nI_eq (by omega) (by omega)).mp (p2.symm.trans eO)
  subst this
  obtain ⟨cq, c1, c2⟩ := p4 0 (by decide)
  rw [List.length_cons] at hlen
  have hfS : ∀ {mk : Nat} {o l kS d : Nat → Int32} {pl : Nat → Int64} {ya y1 y2 yW : Int32} {yK yL : Int64}, fr_S (vv_R V K N Z D P mk o l kS d pl) (md_ea Z) (md_dp Z W P) 35 (pX (fP p).toNatClampNeg) st (fI p) (fG p) (fA p) (fO p) (fH p) ya y1 y2 yW yK yL → y1 = -1 ∧ fG p = 0 ∧ ya = 0 ∧ vv_R V K N Z D P mk o l kS d pl (fH p) yK := by
    intro mk o l kS d pl ya y1 y2 yW yK yL t5
    obtain ⟨A1, s2⟩ := t5.2.2.2.2.2.2.2.2.2 rfl
    rcases s2 with ⟨w, _⟩ | ⟨w1, w2, w3, w4, w5, w6⟩ | ⟨w, _⟩ | ⟨w, _⟩ | ⟨_, w, _⟩
    · exact absurd (hA.symm.trans w) (fr_n1 (by omega))
    · exact ⟨A1.trans w1, w3, w4, w6⟩
    · exact absurd hO1 w
    · exact absurd hO1 w
    · rw [hrun.1 (Or.inr hfo)] at w
      exact absurd w (by decide)
  by_cases hc : c < 600
  · have hn600 : n < 600 := by omega
    refine xs_inner (by omega) x3 (Or.inr (Or.inl rfl)) x2 (by omega) hU (by omega) (xh_end1 x2 (by omega) hU (by omega) r1 (by decide) eP hq eO (by omega) rfl (fun Q hQ => xf_fold1 rfl (by omega) (fun Q hQ => xr_apply (n := n) (c := c) (r := 0) x1 rfl x4 hn600 hc hpn eP hq (by omega) (fun _ => hQ) (fun w => absurd rfl w)) hQ) ?_)
    refine lp_K H (Nat.le_refl _) (rm_new (p := p) (pa' := pa') (pa := p :: pa') (q := q) (r := 0) (cq := cq) (x0 := 0) (fH2 := fH) (fN2 := fN) (fO' := upd (upd fO n (-1)) p (nI n)) hX0 hv ha hM (by omega) (by rw [md_ph_2]; omega) (fr_X_kill hf) hc hn600 (by omega) (by omega) (fun w => absurd rfl w) hrun eP hq (by omega) c1 c2 hqn (fun f a b => by rw [pk_un a, pk_un b]) (by rw [pk_un (show n ≠ p by omega), pk_us]) (fun _ => pk_us) (fun w => absurd rfl w) (fun w => absurd rfl w) (fun _ _ => rfl) (fun _ _ _ _ => rfl) (hv.2 p hpn).1 ((hv.2 p hpn).2.1 (by omega)) (hv.2 p hpn).2.2 (fun mk0 pd0 mk pd nd yhe yvm yin yfi yde yic ys yk yn yp yf iK iN o0 l0 kS0 d0 pl0 yma ypo yap yas yto yan yco yti yna yac yen o l kS d pl yo yi yw ya y1 y2 yK yW yL yq nm nv no yA lf rt hY post m hu => ?_))
    obtain ⟨⟨b1, b2, b3, b4, b5, b6, b7, b8, b9, b10, b11⟩, hfl, hen, hhy, hby, hfr, han, hq0, hq1, hz1, hz2, hz3⟩ := hY
    obtain ⟨t1, t2, t3, t4, t5⟩ := hfr p hpn
    obtain ⟨ey, eq⟩ := hq1 (by decide)
    rw [List.length_cons] at ey
    have eyo := t1.symm.trans eP
    rw [hfo] at t5
    refine ⟨fun w => absurd w (by decide), fun _ => ?_⟩
    have et := hz2 rfl
    subst et
    obtain ⟨A1, w3, w4, w6⟩ := hfS t5
    have t4' : ∀ x, x < 3 → vv_R V K N Z D P mk o l kS d pl (fN (p * 3 + x)) (en_e nm no nv (yw p) x) := fun x hx => (t4 x hx).elim id (fun z => absurd A1 z.2.2)
    refine ct_T b9 b5 ey (by omega) eq.1 (yo_1b (by omega) eyo hq (my_k 51 rfl (by omega) (hfl q hqn) eO) rfl w4 (fun Q hQ => yr_askFirst (n := n) (c := c) (a := pa'.length + 1) b3 b4 ey hn600 hc (by omega) hpn eyo hq A1 hQ) ?_)
    refine ct_asked ey (by omega) rfl b5 ?_
    subst b6
    refine hu (yi p) (yw p) nd (upd ya p 1) (upd (upd y1 n (-1)) p (nI n)) (upd y2 n (-1)) yK yL nm nv no ⟨eq, t2, Nat.le_refl _, by omega, hen, t3, fun _ _ _ => rfl, fun f hf => ⟨pk_un hf, rfl, rfl⟩, fun f a b => ⟨by rw [pk_un a, pk_un b], pk_un b⟩, by rw [pk_un (show n ≠ p by omega), pk_us], pk_us, t4', fun x hx => Or.inl (t4' x hx), ?_⟩
    rw [pk_us, pk_us, pk_us, hfo]
    exact ⟨fun w => absurd w (by omega), fun w => absurd w (by omega), fun w => absurd w (by omega), fun _ w => absurd w (by omega), fun w => absurd w (by omega), fun w => absurd w (by omega), fun _ w => absurd w (by omega), fun _ w => absurd w (by omega), fun w => absurd w (by omega), fun _ => ⟨rfl, Or.inr (Or.inr (Or.inl ⟨fr_n1 hn600, rfl, w3, rfl, w6⟩))⟩⟩
  · have hc6 : c = 600 := by omega
    subst hc6
    refine xs_inner (by omega) x3 (Or.inr (Or.inl rfl)) x2 (by omega) hU (by omega) (xh_end1 x2 (by omega) hU (by omega) r1 (by decide) eP hq eO (by omega) rfl (fun Q hQ => xf_fold1 rfl (by omega) (fun Q hQ => xr_apply_t x4 hQ) hQ) ?_)
    refine lp_E H (by omega) (rm_tiredT hX0 hv ha hM (by decide) (fun _ _ => ⟨rfl, rfl, rfl⟩) (fun mk0 pd0 mk pd nd yhe yvm yin yfi yde yic ys yk yn yp yf iK iN o0 l0 kS0 d0 pl0 yma ypo yap yas yto yan yco yti yna yac yen o l kS d pl yo yi yw ya y1 y2 yK yW yL yq nm nv no yA lf rt hY Q hQ => ?_))
    obtain ⟨⟨b1, b2, b3, b4, b5, b6, b7, b8, b9, b10, b11⟩, hfl, hen, hhy, hby, hfr, han, hq0, hq1, hz1, hz2, hz3⟩ := hY
    obtain ⟨t1, t2, t3, t4, t5⟩ := hfr p hpn
    obtain ⟨ey, eq⟩ := hq1 (by decide)
    rw [List.length_cons] at ey
    have eyo := t1.symm.trans eP
    rw [hfo] at t5
    have et := hz2 rfl
    subst et
    obtain ⟨A1, w3, w4, w6⟩ := hfS t5
    exact yo_1b (by omega) eyo hq (my_k 51 rfl (by omega) (hfl q hqn) eO) rfl w4 (fun Q hQ => yr_askFirst_t b4 (by omega) eyo hq A1 hQ) (hQ ypo yas 1 yan (upd ya p 1) _ y2 yK yW yL lf rt yna nm nv no)
