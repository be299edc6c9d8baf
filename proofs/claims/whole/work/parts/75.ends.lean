/-- the step behind: the frame asks its child again -/
theorem xa_dn {xst xow xin xpa xfi xfr xno xsi xan xkn xen xco xrm xac : Int32} {K N Z D Im W P vS pO pX pI fS fP fI fU fR fO fA fH fG fN aS qL qR qP : Nat → Int32} {post : SX → Prop} {st p q oq gv ch : Nat} (hst : st < 1000000) (en : xen = -1) (es : xsi = 0) (eg : xno = nI p) (hp : p < 600) (eP : fP p = nI q) (hq : q < 40) (eO : pO q = nI oq) (h16 : 16 ≤ oq) (ho : oq ≤ 35) (eG : fG p = nI gv) (hgv : gv < 2 ^ 31) (hr : fr_run pO pX fP fG p) (eA : fA p = nI ch) (hch : ch < 600)
    (h : rn_K post st (xst, xow, xin, xpa, xfi, xfr, (nI ch), xsi, xan, xkn, xen, xco, xrm, xac, K, N, Z, D, Im, W, P, vS, pO, pX, pI, fS, fP, fI, fU, fR, fO, fA, fH, fG, fN, aS, qL, qR, qP)) : wX_workOut_68 post (1000001 - st) (nI st) xst xow xin xpa xfi xfr xno xsi xan xkn xen xco xrm xac K N Z D Im W P vS pO pX pI fS fP fI fU fR fO fA fH fG fN aS qL qR qP := by
  have hfo := mx_fo eP hq eO ho
  have h1 : (oq < 16 ∨ oq = 16 ∨ oq = 35) → gv = 0 := fun w => by
    have := hr.1 (by omega)
    exact (nI_eq (b := 0) (by omega) (by omega)).mp (eG.symm.trans this)
  by_cases e18 : oq = 18
  · obtain ⟨g', m, w1, w2, w3, w4⟩ := hr.2 (hfo.trans e18)
    have : gv = g' := (nI_eq (by omega) (by omega)).mp (eG.symm.trans w1)
    rw [eP, nI_clamp (by omega)] at w2
    exact xs_ask hst en es (xa_go (x := m) eg hp eP hq eO ho (by omega) (by omega) eG hgv (fun _ => ⟨w2, w4, by omega⟩) h1 (fun w => absurd w (by omega)) (fun _ _ => by rw [eA]; exact h) (fun _ w => absurd w (by rw [eA]; exact fr_n1 hch)))
  · exact xs_ask hst en es (xa_go (x := 0) eg hp eP hq eO ho (by omega) (by omega) eG hgv (fun w => absurd w e18) h1 (fun w => absurd w (by omega)) (fun _ _ => by rw [eA]; exact h) (fun _ w => absurd w (by rw [eA]; exact fr_n1 hch)))
theorem r_ne {r : Int32} (h : r = 0) (h1 : r = 1 ∨ r = 2) : False := by
  rcases h1 with w | w <;> rw [h] at w <;> exact absurd w (by decide)
/-- the first filter within has ended: so does the one at hand -/
theorem cq_end0 {p : Nat} {pa' : List Nat} {post : SX → Prop} {T : List Nat → Option vv_L} {nf bo np : Nat} {K0 N0 Z0 D0 I0 W0 P0 : Nat → Int32} {xst xow xin xpa xfi xfr xno xsi xan xkn xen xco xrm xac : Int32} {K N Z D Im W P vS pO pX pI fS fP fI fU fR fO fA fH fG fN aS qL qR qP : Nat → Int32} {st : Nat} {V al : Nat → Prop} {g : Nat} {n c rm a : Nat}
    (hX : md_X V al g (p :: pa') bo np n c rm a st xfr xno xsi xen xco xrm xac K N Z D Im W P K0 N0 Z0 D0 I0 W0 P0 pO pX fP fU fR fO fA fH fG) (hv : mv_X V n xsi xan pO fP fI fH fN) (ha : ma_X V a aS)
    (hM : ∀ (mk0 pd0 : Nat) (v0 : SY), kn_F T np nf pO pX pI fS mk0 pd0 v0 → rm_M V (p :: pa') g np n c rm a st xsi xan K N Z D W P pO pX pI fP fI fO fA fH fG fN aS mk0 pd0 v0)
    (H : lp_G T nf bo np K0 N0 Z0 D0 I0 W0 P0 post xst xow xin xpa xfi xkn vS pO pX pI fS st) {q : Nat} (eP : fP p = nI q) (hqn : q < np) (hq : q < 40) {oq : Nat} (h17 : 17 ≤ oq) (ho : oq ≤ 34) (n22 : oq ≠ 22) (eO : pO q = nI oq) (es : xsi = 2 ∨ (xsi = 3 ∧ (oq = 17 ∨ oq = 32))) (r0 : fR g = 0) (hz : ¬ (oq = 32 ∧ fG p = 0)) : wX_workOut_68 post (1000001 - st) (nI st) xst xow xin xpa xfi xfr xno xsi xan xkn xen xco xrm xac K N Z D Im W P vS pO pX pI fS fP fI fU fR fO fA fH fG fN aS qL qR qP := by
  have nx0 : xsi ≠ 0 := by rcases es with e | ⟨e, _⟩ <;> rw [e] <;> decide
  have es' : xsi = 1 ∨ xsi = 2 ∨ xsi = 3 := es.elim (fun w => Or.inr (Or.inl w)) (fun w => Or.inr (Or.inr w.1))
  obtain ⟨hpg, hgn, hn6, hU, hA, hrun, hro⟩ := mx_p hX
  obtain ⟨_, _, hst, hlen, _⟩ := mx_f hX
  have hlen2 : pa'.length + 2 ≤ 40 := by
    have := hlen
    rw [List.length_cons] at this
    omega
  have hX0 := hX
  obtain ⟨⟨x1, x2, x3, x4, x5, x6, x7, x8, x9, x10⟩, hs, hh, hb, hf, hr, hG, hpot⟩ := hX
  have hpn : p < n := by omega
  have hfo := mx_fo eP hq eO (by omega)
  obtain ⟨gv, g1, g2⟩ := hG p hpn
  have rO : fO p = nI g := by
    rcases hro with ⟨_, rO⟩ | ⟨r1, _⟩
    · exact rO
    · exact (r_ne r0 r1).elim
  have hAO : fA p = fO p := hA.trans rO.symm
  have hz' : ¬ (oq = 22 ∨ (oq = 32 ∧ gv = 0)) := fun w => by
    rcases w with w | ⟨w1, w2⟩
    · exact n22 w
    · exact hz ⟨w1, by rw [g1, w2]; rfl⟩
  refine xs_inner (by omega) x3 es' x2 (by omega) hU (by omega) (xh_end0 x2 (by omega) hU (by omega) r0 eP hq eO (by omega) es (fun Q hQ => xe_end rfl (by omega) (by omega) g1 (by omega) hz' (by omega) (by omega) hQ) ?_)
  refine lp_K H (Nat.le_refl _) (rm_up hX0 hv ha hM es' (Or.inl rfl) (fun mk0 pd0 mk pd nd yhe yvm yin yfi yde yic ys yk yn yp yf iK iN o0 l0 kS0 d0 pl0 yma ypo yap yas yto yan yco yti yna yac yen o l kS d pl yo yi yw ya y1 y2 yK yW yL yq nm nv no yA lf rt hY Q hQ => ?_))
  obtain ⟨⟨b1, b2, b3, b4, b5, b6, b7, b8, b9, b10, b11⟩, hfl, hen, hhy, hby, hfr, han, hq0, hq1, hz1, hz2, hz3⟩ := hY
  obtain ⟨t1, t2, t3, t4, t5⟩ := hfr p hpn
  obtain ⟨ey, eq⟩ := hq1 nx0
  rw [List.length_cons] at ey
  have eyo := t1.symm.trans eP
  rw [hfo] at t5
  rw [e21] at hQ
  have ek := my_k _ rfl (by omega) (hfl q hqn) eO
  have hy : yto = 1 ∨ (yto = 2 ∧ (oq = 17 ∨ oq = 32)) := es.elim (fun w => Or.inl (hz2 w)) (fun w => Or.inr ⟨hz3 w.1, w.2⟩)
  have ny0 : ¬ yto = 0 := by rcases hy with e | ⟨e, _⟩ <;> rw [e] <;> decide
  by_cases e17 : oq = 17
  · subst e17
    exact yg_try (t := 1) (by omega) eyo hq ek ey ⟨fun _ => rfl, fun w => (hy.elim id (fun z => absurd z.1 w)).symm⟩ (hQ _)
  by_cases e32 : oq = 32
  · subst e32
    have eW : yW p = 1 := by
      rcases t5.2.2.2.2.2.2.2.2.1 rfl with ⟨w, _⟩ | ⟨w, _⟩
      · exact absurd ⟨rfl, w⟩ hz
      · exact w
    exact yf_41e (by omega) eyo hq ek (my_a0 t5 (by omega) (by omega) hAO).1 ey ny0 eW (hQ 0)
  have et : yto = 1 := hy.elim id (fun z => absurd z.2 (by omega))
  subst et
  by_cases e18 : oq = 18
  · subst e18
    obtain ⟨gg, m, _, w2, _⟩ := t5.2.2.2.2.2.1 rfl
    exact yg_first (by omega) eyo hq ek ey w2 (fun w => absurd w (by decide)) (fun _ => hQ _)
  exact my_e0 (oq := oq) (by omega) eyo hq ek (by omega) (fun w => (my_a0 t5 (by omega) (by omega) hAO).1) ey (by decide) (hQ 0)
/-- a later filter within has ended, and so does 'or', 'else' -/
theorem cq_end1 {p : Nat} {pa' : List Nat} {post : SX → Prop} {T : List Nat → Option vv_L} {nf bo np : Nat} {K0 N0 Z0 D0 I0 W0 P0 : Nat → Int32} {xst xow xin xpa xfi xfr xno xsi xan xkn xen xco xrm xac : Int32} {K N Z D Im W P vS pO pX pI fS fP fI fU fR fO fA fH fG fN aS qL qR qP : Nat → Int32} {st : Nat} {V al : Nat → Prop} {g : Nat} {n c rm a : Nat}
    (hX : md_X V al g (p :: pa') bo np n c rm a st xfr xno xsi xen xco xrm xac K N Z D Im W P K0 N0 Z0 D0 I0 W0 P0 pO pX fP fU fR fO fA fH fG) (hv : mv_X V n xsi xan pO fP fI fH fN) (ha : ma_X V a aS)
    (hM : ∀ (mk0 pd0 : Nat) (v0 : SY), kn_F T np nf pO pX pI fS mk0 pd0 v0 → rm_M V (p :: pa') g np n c rm a st xsi xan K N Z D W P pO pX pI fP fI fO fA fH fG fN aS mk0 pd0 v0)
    (H : lp_G T nf bo np K0 N0 Z0 D0 I0 W0 P0 post xst xow xin xpa xfi xkn vS pO pX pI fS st) {q : Nat} (eP : fP p = nI q) (hqn : q < np) (hq : q < 40) {oq : Nat} (ho : oq = 22 ∨ oq = 32) (eO : pO q = nI oq) (es : xsi = 2) (r1 : fR g = 1 ∨ fR g = 2) : wX_workOut_68 post (1000001 - st) (nI st) xst xow xin xpa xfi xfr xno xsi xan xkn xen xco xrm xac K N Z D Im W P vS pO pX pI fS fP fI fU fR fO fA fH fG fN aS qL qR qP := by
  subst es
  obtain ⟨hpg, hgn, hn6, hU, hA, hrun, hro⟩ := mx_p hX
  obtain ⟨_, _, hst, hlen, _⟩ := mx_f hX
  have hlen2 : pa'.length + 2 ≤ 40 := by
    have := hlen
    rw [List.length_cons] at this
    omega
  have hX0 := hX
  obtain ⟨⟨x1, x2, x3, x4, x5, x6, x7, x8, x9, x10⟩, hs, hh, hb, hf, hr, hG, hpot⟩ := hX
  have hpn : p < n := by omega
  have hfo := mx_fo eP hq eO (by omega)
  have nr : ¬ fR g = 0 := fun w => r_ne w r1
  have rO : fO p ≠ nI g := by
    rcases hro with ⟨r0, _⟩ | ⟨_, rO, _⟩
    · exact absurd r0 nr
    · exact rO
  refine xs_inner (by omega) x3 (Or.inr (Or.inl rfl)) x2 (by omega) hU (by omega) (xh_end1 x2 (by omega) hU (by omega) rfl nr eP hq eO (by omega) rfl (fun Q hQ => xf_end ho hQ) ?_)
  refine lp_K H (Nat.le_refl _) (rm_up hX0 hv ha hM (Or.inr (Or.inl rfl)) (Or.inl rfl) (fun mk0 pd0 mk pd nd yhe yvm yin yfi yde yic ys yk yn yp yf iK iN o0 l0 kS0 d0 pl0 yma ypo yap yas yto yan yco yti yna yac yen o l kS d pl yo yi yw ya y1 y2 yK yW yL yq nm nv no yA lf rt hY Q hQ => ?_))
  obtain ⟨⟨b1, b2, b3, b4, b5, b6, b7, b8, b9, b10, b11⟩, hfl, hen, hhy, hby, hfr, han, hq0, hq1, hz1, hz2, hz3⟩ := hY
  obtain ⟨t1, t2, t3, t4, t5⟩ := hfr p hpn
  obtain ⟨ey, eq⟩ := hq1 (by decide)
  rw [List.length_cons] at ey
  have eyo := t1.symm.trans eP
  rw [hfo] at t5
  rw [e21] at hQ
  have et := hz2 rfl
  subst et
  have ek := my_k _ rfl (by omega) (hfl q hqn) eO
  obtain ⟨f1, f2, f3, _⟩ := fk_r (oq := oq) (by omega) (by omega)
  exact yh_1t (f := g) (by omega) eyo hq ek f1 f2 ((my_a1 t5 (by omega) (by omega) (fun e => rO (e.symm.trans hA))).1.trans hA) (by omega) ey rfl (by omega) (hQ 0)
/-- fr_S when a later filter within has ended -/
theorem fr_S_back {R : Int32 → Int64 → Prop} {E : Int32 → Nat → Prop} {Dp : Int32 → Nat → Nat → Prop} {oq st st' : Nat} {x fi gi ac ou he ya y1 y2 yW : Int32} {yK yL : Int64} (h : fr_S R E Dp oq x st fi gi ac ou he ya y1 y2 yW yK yL) (hs : st ≤ st') (h1 : 21 ≤ oq) (h2 : oq ≤ 34) (n32 : oq ≠ 32) : fr_S R E Dp oq x st' fi gi ou ou he ya y1 (-1) yW yK yL := by
  obtain ⟨_, _, _, _, _, _, h7, h8, _⟩ := h
  exact ⟨fun w => absurd w (by omega), fun w => absurd w (by omega), fun w => absurd w (by omega), fun _ w => absurd w (by omega), fun w => absurd w (by omega), fun w => absurd w (by omega), fun _ _ => ⟨(h7 h1 h2).1, Or.inl ⟨rfl, rfl⟩⟩, h8, fun w => absurd w n32, fun w => absurd w (by omega)⟩
/-- a later filter within has ended, the first is asked again -/
theorem cq_back {p : Nat} {pa' : List Nat} {post : SX → Prop} {T : List Nat → Option vv_L} {nf bo np : Nat} {K0 N0 Z0 D0 I0 W0 P0 : Nat → Int32} {xst xow xin xpa xfi xfr xno xsi xan xkn xen xco xrm xac : Int32} {K N Z D Im W P vS pO pX pI fS fP fI fU fR fO fA fH fG fN aS qL qR qP : Nat → Int32} {st : Nat} {V al : Nat → Prop} {g : Nat} {n c rm a : Nat}
    (hX : md_X V al g (p :: pa') bo np n c rm a st xfr xno xsi xen xco xrm xac K N Z D Im W P K0 N0 Z0 D0 I0 W0 P0 pO pX fP fU fR fO fA fH fG) (hv : mv_X V n xsi xan pO fP fI fH fN) (ha : ma_X V a aS)
    (hM : ∀ (mk0 pd0 : Nat) (v0 : SY), kn_F T np nf pO pX pI fS mk0 pd0 v0 → rm_M V (p :: pa') g np n c rm a st xsi xan K N Z D W P pO pX pI fP fI fO fA fH fG fN aS mk0 pd0 v0)
    (H : lp_G T nf bo np K0 N0 Z0 D0 I0 W0 P0 post xst xow xin xpa xfi xkn vS pO pX pI fS st) {q : Nat} (eP : fP p = nI q) (hqn : q < np) (hq : q < 40) {oq : Nat} (h21 : 21 ≤ oq) (ho : oq ≤ 34) (n22 : oq ≠ 22) (n32 : oq ≠ 32) (eO : pO q = nI oq) (es : xsi = 2) (r1 : fR g = 1 ∨ fR g = 2) (hO1 : fO p ≠ -1) : wX_workOut_68 post (1000001 - st) (nI st) xst xow xin xpa xfi xfr xno xsi xan xkn xen xco xrm xac K N Z D Im W P vS pO pX pI fS fP fI fU fR fO fA fH fG fN aS qL qR qP := by
  subst es
  obtain ⟨hpg, hgn, hn6, hU, hA, hrun, hro⟩ := mx_p hX
  obtain ⟨_, _, hst, hlen, _⟩ := mx_f hX
  have hlen2 : pa'.length + 2 ≤ 40 := by
    have := hlen
    rw [List.length_cons] at this
    omega
  have hX0 := hX
  obtain ⟨⟨x1, x2, x3, x4, x5, x6, x7, x8, x9, x10⟩, hs, hh, hb, hf, hr, hG, hpot⟩ := hX
  have hpn : p < n := by omega
  have hfo := mx_fo eP hq eO (by omega)
  obtain ⟨gv, g1, g2⟩ := hG p hpn
  have nr : ¬ fR g = 0 := fun w => r_ne w r1
  have rO : fO p ≠ nI g := by
    rcases hro with ⟨r0, _⟩ | ⟨_, rO, _⟩
    · exact absurd r0 nr
    · exact rO
  obtain ⟨ch, hch, hc6⟩ : ∃ ch, fO p = nI ch ∧ ch < 600 := by
    obtain ⟨_, k, _⟩ := hf.2.1 p hpn
    rcases k with k | ⟨⟨c', e1, _, e3, _⟩, _⟩
    · exact absurd k hO1
    · exact ⟨c', e1, by omega⟩
  refine xs_inner (by omega) x3 (Or.inr (Or.inl rfl)) x2 (by omega) hU (by omega) (xh_end1 x2 (by omega) hU (by omega) rfl nr eP hq eO (by omega) rfl (fun Q hQ => xf_back rfl (by omega) (by omega) n22 n32 (fun w => absurd w (by omega)) hQ) ?_)
  have key : rm_I T nf bo np K0 N0 Z0 D0 I0 W0 P0 (st + 2) (xst, xow, xin, xpa, xfi, xfr, (nI ch), 0, xan, xkn, xen, xco, xrm, xac, K, N, Z, D, Im, W, P, vS, pO, pX, pI, fS, fP, fI, fU, fR, fO, (upd fA p (fO p)), fH, fG, fN, aS, qL, qR, qP) := rm_back (k := 2) hX0 hv ha hM rfl (by omega) (by omega) (by omega) (by omega) (by omega) hch hc6 (fun e => rO (by rw [hch, e])) (fun mk0 pd0 mk pd nd yhe yvm yin yfi yde yic ys yk yn yp yf iK iN o0 l0 kS0 d0 pl0 yma ypo yap yas yto yan yco yti yna yac yen o l kS d pl yo yi yw ya y1 y2 yK yW yL yq nm nv no yA lf rt hY Q hQ => by
    obtain ⟨⟨b1, b2, b3, b4, b5, b6, b7, b8, b9, b10, b11⟩, hfl, hen, hhy, hby, hfr, han, hq0, hq1, hz1, hz2, hz3⟩ := hY
    obtain ⟨t1, t2, t3, t4, t5⟩ := hfr p hpn
    obtain ⟨ey, eq⟩ := hq1 (by decide)
    rw [List.length_cons] at ey
    have eyo := t1.symm.trans eP
    rw [hfo] at t5
    have et := hz2 rfl
    subst et
    have ek := my_k _ rfl (by omega) (hfl q hqn) eO
    obtain ⟨f1, f2, f3, f4⟩ := fk_r (oq := oq) (by omega) (by omega)
    obtain ⟨a1, a2, a3⟩ := my_a1 t5 (by omega) (by omega) (fun e => rO (e.symm.trans hA))
    exact yh_1a (f := g) (f1 := ch) (by omega) eyo hq ek f1 f2 (a1.trans hA) (by omega) ey (by omega) rfl (by omega) (by omega) (a2.trans hch) (hQ 1 yan ya (upd y2 p (-1)) yW yK yL (fun f hf => ⟨rfl, pk_un hf, rfl, rfl, rfl⟩) (by rw [pk_us, hfo]; exact fr_S_back t5 (by omega) (by omega) (by omega) n32)))
  refine rn_K_i (xa_dn (gv := gv) (ch := ch) (by omega) x3 rfl rfl (by omega) eP hq eO (by omega) (by omega) g1 (by omega) hrun (pk_us.trans hch) hc6 (lp_K H (by omega) key))
/-- in a fold, C has ended: A is asked again -/
theorem cq_foldback {p : Nat} {pa' : List Nat} {post : SX → Prop} {T : List Nat → Option vv_L} {nf bo np : Nat} {K0 N0 Z0 D0 I0 W0 P0 : Nat → Int32} {xst xow xin xpa xfi xfr xno xsi xan xkn xen xco xrm xac : Int32} {K N Z D Im W P vS pO pX pI fS fP fI fU fR fO fA fH fG fN aS qL qR qP : Nat → Int32} {st : Nat} {V al : Nat → Prop} {g : Nat} {n c rm a : Nat}
    (hX : md_X V al g (p :: pa') bo np n c rm a st xfr xno xsi xen xco xrm xac K N Z D Im W P K0 N0 Z0 D0 I0 W0 P0 pO pX fP fU fR fO fA fH fG) (hv : mv_X V n xsi xan pO fP fI fH fN) (ha : ma_X V a aS)
    (hM : ∀ (mk0 pd0 : Nat) (v0 : SY), kn_F T np nf pO pX pI fS mk0 pd0 v0 → rm_M V (p :: pa') g np n c rm a st xsi xan K N Z D W P pO pX pI fP fI fO fA fH fG fN aS mk0 pd0 v0)
    (H : lp_G T nf bo np K0 N0 Z0 D0 I0 W0 P0 post xst xow xin xpa xfi xkn vS pO pX pI fS st) {q : Nat} (eP : fP p = nI q) (hqn : q < np) (hq : q < 40) (eO : pO q = nI 35) (es : xsi = 2) (r1 : fR g = 2) : wX_workOut_68 post (1000001 - st) (nI st) xst xow xin xpa xfi xfr xno xsi xan xkn xen xco xrm xac K N Z D Im W P vS pO pX pI fS fP fI fU fR fO fA fH fG fN aS qL qR qP := by
  subst es
  obtain ⟨hpg, hgn, hn6, hU, hA, hrun, hro⟩ := mx_p hX
  obtain ⟨_, _, hst, hlen, _⟩ := mx_f hX
  have hlen2 : pa'.length + 2 ≤ 40 := by
    have := hlen
    rw [List.length_cons] at this
    omega
  have hX0 := hX
  obtain ⟨⟨x1, x2, x3, x4, x5, x6, x7, x8, x9, x10⟩, hs, hh, hb, hf, hr, hG, hpot⟩ := hX
  have hpn : p < n := by omega
  have hfo := mx_fo eP hq eO (by omega)
  obtain ⟨gv, g1, g2⟩ := hG p hpn
  have nr : ¬ fR g = 0 := by rw [r1]; decide
  have nr1 : ¬ fR g = 1 := by rw [r1]; decide
  obtain ⟨rO, hO1⟩ : fO p ≠ nI g ∧ fO p ≠ -1 := by
    rcases hro with ⟨r0, _⟩ | ⟨_, rO, _, _, rr⟩
    · exact absurd r0 nr
    · exact ⟨rO, fun w => nr1 ((rr hfo).mpr w)⟩
  obtain ⟨ch, hch, hc6⟩ : ∃ ch, fO p = nI ch ∧ ch < 600 := by
    obtain ⟨_, k, _⟩ := hf.2.1 p hpn
    rcases k with k | ⟨⟨c', e1, _, e3, _⟩, _⟩
    · exact absurd k hO1
    · exact ⟨c', e1, by omega⟩
  refine xs_inner (by omega) x3 (Or.inr (Or.inl rfl)) x2 (by omega) hU (by omega) (xh_end1 x2 (by omega) hU (by omega) rfl nr eP hq eO (by omega) rfl (fun Q hQ => xf_back rfl (by omega) (by omega) (by omega) (by omega) (fun _ => nr1) hQ) ?_)
  have key : rm_I T nf bo np K0 N0 Z0 D0 I0 W0 P0 (st + 2) (xst, xow, xin, xpa, xfi, xfr, (nI ch), 0, xan, xkn, xen, xco, xrm, xac, K, N, Z, D, Im, W, P, vS, pO, pX, pI, fS, fP, fI, fU, fR, fO, (upd fA p (fO p)), fH, fG, fN, aS, qL, qR, qP) := rm_back (k := 2) hX0 hv ha hM rfl (by omega) (by omega) (by omega) (by omega) (by omega) hch hc6 (fun e => rO (by rw [hch, e])) (fun mk0 pd0 mk pd nd yhe yvm yin yfi yde yic ys yk yn yp yf iK iN o0 l0 kS0 d0 pl0 yma ypo yap yas yto yan yco yti yna yac yen o l kS d pl yo yi yw ya y1 y2 yK yW yL yq nm nv no yA lf rt hY Q hQ => by
    obtain ⟨⟨b1, b2, b3, b4, b5, b6, b7, b8, b9, b10, b11⟩, hfl, hen, hhy, hby, hfr, han, hq0, hq1, hz1, hz2, hz3⟩ := hY
    obtain ⟨t1, t2, t3, t4, t5⟩ := hfr p hpn
    obtain ⟨ey, eq⟩ := hq1 (by decide)
    rw [List.length_cons] at ey
    have eyo := t1.symm.trans eP
    rw [hfo] at t5
    have et := hz2 rfl
    subst et
    have ek := my_k 51 rfl (by omega) (hfl q hqn) eO
    obtain ⟨s1, s2⟩ := t5.2.2.2.2.2.2.2.2.2 rfl
    obtain ⟨e2, eG0, eR⟩ : ya p = 2 ∧ fG p = 0 ∧ vv_R V K N Z D P mk o l kS d pl (fH p) (yL p) := by
      rcases s2 with ⟨w, _⟩ | ⟨w, _⟩ | ⟨_, w, _⟩ | ⟨_, _, _, w3, w, _, w2⟩ | ⟨_, w, _⟩
      · exact absurd (hA.symm.trans w) (fr_n1 (by omega))
      · exact absurd w hO1
      · exact absurd (hA.symm.trans w).symm rO
      · exact ⟨w, w3, w2⟩
      · have := hrun.1 (Or.inr hfo)
        rw [this] at w
        exact absurd w (by decide)
    refine yo_1c (by omega) eyo hq ek rfl e2 (fun Q hQ => yr_askFirst_a (a := pa'.length + 1) (f := ch) ey (by omega) (by omega) (s1.trans hch) hc6 hQ) ?_
    exact hQ 1 yan (upd ya p 1) y2 yW (vp_updL yK p (yL p)) yL (fun f hf => ⟨pk_un hf, rfl, rfl, pk_uLn hf, rfl⟩) (by
      rw [pk_us, pk_uLs, hfo]
      exact ⟨fun w => absurd w (by omega), fun w => absurd w (by omega), fun w => absurd w (by omega), fun _ w => absurd w (by omega), fun w => absurd w (by omega), fun w => absurd w (by omega), fun _ w => absurd w (by omega), fun _ w => absurd w (by omega), fun w => absurd w (by omega), fun _ => ⟨s1, Or.inr (Or.inr (Or.inl ⟨hO1, rfl, eG0, rfl, eR⟩))⟩⟩))
  refine rn_K_i (xa_dn (gv := gv) (ch := ch) (by omega) x3 rfl rfl (by omega) eP hq eO (by omega) (by omega) g1 (by omega) hrun (pk_us.trans hch) hc6 (lp_K H (by omega) key))
