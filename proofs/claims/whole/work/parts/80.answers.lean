/-! ===== an answer is heard ===== -/
theorem cq_a17 {p : Nat} {pa' : List Nat} {post : SX → Prop} {T : List Nat → Option vv_L} {nf bo np : Nat} {K0 N0 Z0 D0 I0 W0 P0 : Nat → Int32} {xst xow xin xpa xfi xfr xno xsi xan xkn xen xco xrm xac : Int32} {K N Z D Im W P vS pO pX pI fS fP fI fU fR fO fA fH fG fN aS qL qR qP : Nat → Int32} {st : Nat} {V al : Nat → Prop} {g : Nat} {n c rm a : Nat}
    (hX : md_X V al g (p :: pa') bo np n c rm a st xfr xno xsi xen xco xrm xac K N Z D Im W P K0 N0 Z0 D0 I0 W0 P0 pO pX fP fU fR fO fA fH fG) (hv : mv_X V n xsi xan pO fP fI fH fN) (ha : ma_X V a aS)
    (hM : ∀ (mk0 pd0 : Nat) (v0 : SY), kn_F T np nf pO pX pI fS mk0 pd0 v0 → rm_M V (p :: pa') g np n c rm a st xsi xan K N Z D W P pO pX pI fP fI fO fA fH fG fN aS mk0 pd0 v0)
    (H : lp_G T nf bo np K0 N0 Z0 D0 I0 W0 P0 post xst xow xin xpa xfi xkn vS pO pX pI fS st) {q : Nat} (eP : fP p = nI q) (hqn : q < np) (hq : q < 40) (eO : pO q = nI 17) (es : xsi = 1) (r0 : fR g = 0) : wX_workOut_68 post (1000001 - st) (nI st) xst xow xin xpa xfi xfr xno xsi xan xkn xen xco xrm xac K N Z D Im W P vS pO pX pI fS fP fI fU fR fO fA fH fG fN aS qL qR qP := by
  subst es
  obtain ⟨hpg, hgn, hn6, hU, hA, hrun, hro⟩ := mx_p hX
  obtain ⟨_, _, hst, hlen, _⟩ := mx_f hX
  have hlen2 : pa'.length + 2 ≤ 40 := by
    have := hlen
    rw [List.length_cons] at this
    omega
  have hX0 := hX
  obtain ⟨⟨x1, x2, x3, x4, x5, x6, x7, x8, x9, x10⟩, hs, hh, hb, hf, hr, hG, hpot⟩ := hX
  have hpn : p < n := by omega
  have hfo := mx_fo eP hq eO (by omega)
  obtain ⟨s, ea, hVs⟩ := hv.1 rfl
  obtain ⟨hs6, κ, hκ, eK⟩ := vx_k hh.1 hVs
  obtain ⟨gv, g1, g2⟩ := hG p hpn
  have rO : fO p = nI g := by
    rcases hro with ⟨_, rO⟩ | ⟨r1, _⟩
    · exact rO
    · exact (r_ne r0 r1).elim
  have hAO : fA p = fO p := hA.trans rO.symm
  refine xs_inner (by omega) x3 (Or.inl rfl) x2 (by omega) hU (by omega) (xh_ans0 x2 (by omega) hU (by omega) r0 eP hq eO (by omega) rfl (fun Q hQ => xo_17 rfl (by omega) ea hs6 eK hκ hQ) ?_)
  refine lp_K H (Nat.le_refl _) (rm_pass0 hX0 hv ha hM rfl (by omega) (by omega) ⟨s, ea, hVs⟩ (fun mk0 pd0 mk pd nd yhe yvm yin yfi yde yic ys yk yn yp yf iK iN o0 l0 kS0 d0 pl0 yma ypo yap yas yto yan yco yti yna yac yen o l kS d pl yo yi yw ya y1 y2 yK yW yL yq nm nv no yA lf rt hY Q hQ => ?_))
  obtain ⟨⟨b1, b2, b3, b4, b5, b6, b7, b8, b9, b10, b11⟩, hfl, hen, hhy, hby, hfr, han, hq0, hq1, hz1, hz2, hz3⟩ := hY
  obtain ⟨t1, t2, t3, t4, t5⟩ := hfr p hpn
  obtain ⟨ey, eq⟩ := hq1 (by decide)
  rw [List.length_cons] at ey
  have eyo := t1.symm.trans eP
  rw [hfo] at t5
  obtain ⟨et, hRa⟩ := hz1 rfl
  subst et
  obtain ⟨x, e1, e2⟩ := my_v hh.1 hhy.1 hRa ea hs6 eK hκ
  exact yg_try (t := 0) (by omega) eyo hq (my_k 21 rfl (by omega) (hfl q hqn) eO) ey ⟨fun w => absurd w (by decide), fun _ => rfl⟩ (hQ _ hRa)
theorem cq_a22 {p : Nat} {pa' : List Nat} {post : SX → Prop} {T : List Nat → Option vv_L} {nf bo np : Nat} {K0 N0 Z0 D0 I0 W0 P0 : Nat → Int32} {xst xow xin xpa xfi xfr xno xsi xan xkn xen xco xrm xac : Int32} {K N Z D Im W P vS pO pX pI fS fP fI fU fR fO fA fH fG fN aS qL qR qP : Nat → Int32} {st : Nat} {V al : Nat → Prop} {g : Nat} {n c rm a : Nat}
    (hX : md_X V al g (p :: pa') bo np n c rm a st xfr xno xsi xen xco xrm xac K N Z D Im W P K0 N0 Z0 D0 I0 W0 P0 pO pX fP fU fR fO fA fH fG) (hv : mv_X V n xsi xan pO fP fI fH fN) (ha : ma_X V a aS)
    (hM : ∀ (mk0 pd0 : Nat) (v0 : SY), kn_F T np nf pO pX pI fS mk0 pd0 v0 → rm_M V (p :: pa') g np n c rm a st xsi xan K N Z D W P pO pX pI fP fI fO fA fH fG fN aS mk0 pd0 v0)
    (H : lp_G T nf bo np K0 N0 Z0 D0 I0 W0 P0 post xst xow xin xpa xfi xkn vS pO pX pI fS st) {q : Nat} (eP : fP p = nI q) (hqn : q < np) (hq : q < 40) (eO : pO q = nI 22) (es : xsi = 1) (r0 : fR g = 0) : wX_workOut_68 post (1000001 - st) (nI st) xst xow xin xpa xfi xfr xno xsi xan xkn xen xco xrm xac K N Z D Im W P vS pO pX pI fS fP fI fU fR fO fA fH fG fN aS qL qR qP := by
  subst es
  obtain ⟨hpg, hgn, hn6, hU, hA, hrun, hro⟩ := mx_p hX
  obtain ⟨_, _, hst, hlen, _⟩ := mx_f hX
  have hlen2 : pa'.length + 2 ≤ 40 := by
    have := hlen
    rw [List.length_cons] at this
    omega
  have hX0 := hX
  obtain ⟨⟨x1, x2, x3, x4, x5, x6, x7, x8, x9, x10⟩, hs, hh, hb, hf, hr, hG, hpot⟩ := hX
  have hpn : p < n := by omega
  have hfo := mx_fo eP hq eO (by omega)
  obtain ⟨s, ea, hVs⟩ := hv.1 rfl
  obtain ⟨hs6, κ, hκ, eK⟩ := vx_k hh.1 hVs
  obtain ⟨gv, g1, g2⟩ := hG p hpn
  have rO : fO p = nI g := by
    rcases hro with ⟨_, rO⟩ | ⟨r1, _⟩
    · exact rO
    · exact (r_ne r0 r1).elim
  have hAO : fA p = fO p := hA.trans rO.symm
  refine xs_inner (by omega) x3 (Or.inl rfl) x2 (by omega) hU (by omega) (xh_ans0 x2 (by omega) hU (by omega) r0 eP hq eO (by omega) rfl (fun Q hQ => xo_22 rfl (by omega) ea hs6 eK hκ hQ) ?_)
  refine lp_K H (Nat.le_refl _) (rm_pass0 hX0 hv ha hM rfl (by omega) (by omega) ⟨s, ea, hVs⟩ (fun mk0 pd0 mk pd nd yhe yvm yin yfi yde yic ys yk yn yp yf iK iN o0 l0 kS0 d0 pl0 yma ypo yap yas yto yan yco yti yna yac yen o l kS d pl yo yi yw ya y1 y2 yK yW yL yq nm nv no yA lf rt hY Q hQ => ?_))
  obtain ⟨⟨b1, b2, b3, b4, b5, b6, b7, b8, b9, b10, b11⟩, hfl, hen, hhy, hby, hfr, han, hq0, hq1, hz1, hz2, hz3⟩ := hY
  obtain ⟨t1, t2, t3, t4, t5⟩ := hfr p hpn
  obtain ⟨ey, eq⟩ := hq1 (by decide)
  rw [List.length_cons] at ey
  have eyo := t1.symm.trans eP
  rw [hfo] at t5
  obtain ⟨et, hRa⟩ := hz1 rfl
  subst et
  obtain ⟨x, e1, e2⟩ := my_v hh.1 hhy.1 hRa ea hs6 eK hκ
  exact yf_31t (by omega) eyo hq (my_k 31 rfl (by omega) (hfl q hqn) eO) (my_a0 t5 (by omega) (by omega) hAO).1 ey (by decide) (hQ _ hRa)
theorem cq_a18 {p : Nat} {pa' : List Nat} {post : SX → Prop} {T : List Nat → Option vv_L} {nf bo np : Nat} {K0 N0 Z0 D0 I0 W0 P0 : Nat → Int32} {xst xow xin xpa xfi xfr xno xsi xan xkn xen xco xrm xac : Int32} {K N Z D Im W P vS pO pX pI fS fP fI fU fR fO fA fH fG fN aS qL qR qP : Nat → Int32} {st : Nat} {V al : Nat → Prop} {g : Nat} {n c rm a : Nat}
    (hX : md_X V al g (p :: pa') bo np n c rm a st xfr xno xsi xen xco xrm xac K N Z D Im W P K0 N0 Z0 D0 I0 W0 P0 pO pX fP fU fR fO fA fH fG) (hv : mv_X V n xsi xan pO fP fI fH fN) (ha : ma_X V a aS)
    (hM : ∀ (mk0 pd0 : Nat) (v0 : SY), kn_F T np nf pO pX pI fS mk0 pd0 v0 → rm_M V (p :: pa') g np n c rm a st xsi xan K N Z D W P pO pX pI fP fI fO fA fH fG fN aS mk0 pd0 v0)
    (H : lp_G T nf bo np K0 N0 Z0 D0 I0 W0 P0 post xst xow xin xpa xfi xkn vS pO pX pI fS st) {q : Nat} (eP : fP p = nI q) (hqn : q < np) (hq : q < 40) (eO : pO q = nI 18) (es : xsi = 1) (r0 : fR g = 0) : wX_workOut_68 post (1000001 - st) (nI st) xst xow xin xpa xfi xfr xno xsi xan xkn xen xco xrm xac K N Z D Im W P vS pO pX pI fS fP fI fU fR fO fA fH fG fN aS qL qR qP := by
  subst es
  obtain ⟨hpg, hgn, hn6, hU, hA, hrun, hro⟩ := mx_p hX
  obtain ⟨_, _, hst, hlen, _⟩ := mx_f hX
  have hlen2 : pa'.length + 2 ≤ 40 := by
    have := hlen
    rw [List.length_cons] at this
    omega
  have hX0 := hX
  obtain ⟨⟨x1, x2, x3, x4, x5, x6, x7, x8, x9, x10⟩, hs, hh, hb, hf, hr, hG, hpot⟩ := hX
  have hpn : p < n := by omega
  have hfo := mx_fo eP hq eO (by omega)
  obtain ⟨s, ea, hVs⟩ := hv.1 rfl
  obtain ⟨hs6, κ, hκ, eK⟩ := vx_k hh.1 hVs
  obtain ⟨gv, g1, g2⟩ := hG p hpn
  have rO : fO p = nI g := by
    rcases hro with ⟨_, rO⟩ | ⟨r1, _⟩
    · exact rO
    · exact (r_ne r0 r1).elim
  have hAO : fA p = fO p := hA.trans rO.symm
  refine xs_inner (by omega) x3 (Or.inl rfl) x2 (by omega) hU (by omega) (xh_ans0 x2 (by omega) hU (by omega) r0 eP hq eO (by omega) rfl (fun Q hQ => xo_18 rfl (by omega) ea hs6 eK hκ g1 hQ) ?_)
  refine lp_K H (Nat.le_refl _) (rm_pass (gv := gv + 1) hX0 hv ha hM rfl (by omega) (by omega) (by omega) (fun w => absurd w (nI_ne0 (by omega) (by omega))) ⟨s, ea, hVs⟩ (fun mk0 pd0 mk pd nd yhe yvm yin yfi yde yic ys yk yn yp yf iK iN o0 l0 kS0 d0 pl0 yma ypo yap yas yto yan yco yti yna yac yen o l kS d pl yo yi yw ya y1 y2 yK yW yL yq nm nv no yA lf rt hY Q hQ => ?_))
  obtain ⟨⟨b1, b2, b3, b4, b5, b6, b7, b8, b9, b10, b11⟩, hfl, hen, hhy, hby, hfr, han, hq0, hq1, hz1, hz2, hz3⟩ := hY
  obtain ⟨t1, t2, t3, t4, t5⟩ := hfr p hpn
  obtain ⟨ey, eq⟩ := hq1 (by decide)
  rw [List.length_cons] at ey
  have eyo := t1.symm.trans eP
  rw [hfo] at t5
  obtain ⟨et, hRa⟩ := hz1 rfl
  subst et
  obtain ⟨x, e1, e2⟩ := my_v hh.1 hhy.1 hRa ea hs6 eK hκ
  obtain ⟨gg, m, s1, s2, s3, s4, s5⟩ := t5.2.2.2.2.2.1 rfl
  have h2 : gv = gg := (nI_eq (by omega) (by omega)).mp (g1.symm.trans s1)
  subst h2
  obtain ⟨g', m', u1, u2, u3, u4⟩ := hrun.2 hfo
  have h3 : gv = g' := (nI_eq (by omega) (by omega)).mp (g1.symm.trans u1)
  have h4 : m = m' := (nI_eq (by omega) (by omega)).mp (s3.symm.trans u2)
  refine yg_first (by omega) eyo hq (my_k 22 rfl (by omega) (hfl q hqn) eO) ey s2 (fun _ => hQ (nI (gv + 1)) yan hRa ?_) (fun w => absurd rfl w)
  rw [hfo]
  exact ⟨fun w => absurd w (by omega), fun w => absurd w (by omega), fun w => absurd w (by omega), t5.2.2.2.1, fun w => absurd w (by omega), fun _ => ⟨gv + 1, m, rfl, rfl, s3, by omega, s5⟩, fun w => absurd w (by omega), fun w => absurd w (by omega), fun w => absurd w (by omega), fun w => absurd w (by omega)⟩
theorem cq_a19 {p : Nat} {pa' : List Nat} {post : SX → Prop} {T : List Nat → Option vv_L} {nf bo np : Nat} {K0 N0 Z0 D0 I0 W0 P0 : Nat → Int32} {xst xow xin xpa xfi xfr xno xsi xan xkn xen xco xrm xac : Int32} {K N Z D Im W P vS pO pX pI fS fP fI fU fR fO fA fH fG fN aS qL qR qP : Nat → Int32} {st : Nat} {V al : Nat → Prop} {g : Nat} {n c rm a : Nat}
    (hX : md_X V al g (p :: pa') bo np n c rm a st xfr xno xsi xen xco xrm xac K N Z D Im W P K0 N0 Z0 D0 I0 W0 P0 pO pX fP fU fR fO fA fH fG) (hv : mv_X V n xsi xan pO fP fI fH fN) (ha : ma_X V a aS)
    (hM : ∀ (mk0 pd0 : Nat) (v0 : SY), kn_F T np nf pO pX pI fS mk0 pd0 v0 → rm_M V (p :: pa') g np n c rm a st xsi xan K N Z D W P pO pX pI fP fI fO fA fH fG fN aS mk0 pd0 v0)
    (H : lp_G T nf bo np K0 N0 Z0 D0 I0 W0 P0 post xst xow xin xpa xfi xkn vS pO pX pI fS st) {q : Nat} (eP : fP p = nI q) (hqn : q < np) (hq : q < 40) (eO : pO q = nI 19) (es : xsi = 1) (r0 : fR g = 0) : wX_workOut_68 post (1000001 - st) (nI st) xst xow xin xpa xfi xfr xno xsi xan xkn xen xco xrm xac K N Z D Im W P vS pO pX pI fS fP fI fU fR fO fA fH fG fN aS qL qR qP := by
  subst es
  obtain ⟨hpg, hgn, hn6, hU, hA, hrun, hro⟩ := mx_p hX
  obtain ⟨_, _, hst, hlen, _⟩ := mx_f hX
  have hlen2 : pa'.length + 2 ≤ 40 := by
    have := hlen
    rw [List.length_cons] at this
    omega
  have hX0 := hX
  obtain ⟨⟨x1, x2, x3, x4, x5, x6, x7, x8, x9, x10⟩, hs, hh, hb, hf, hr, hG, hpot⟩ := hX
  have hpn : p < n := by omega
  have hfo := mx_fo eP hq eO (by omega)
  obtain ⟨s, ea, hVs⟩ := hv.1 rfl
  obtain ⟨hs6, κ, hκ, eK⟩ := vx_k hh.1 hVs
  obtain ⟨gv, g1, g2⟩ := hG p hpn
  have rO : fO p = nI g := by
    rcases hro with ⟨_, rO⟩ | ⟨r1, _⟩
    · exact rO
    · exact (r_ne r0 r1).elim
  have hAO : fA p = fO p := hA.trans rO.symm
  by_cases h2 : 2 ≤ κ
  · refine xs_inner (by omega) x3 (Or.inl rfl) x2 (by omega) hU (by omega) (xh_ans0 x2 (by omega) hU (by omega) r0 eP hq eO (by omega) rfl (fun Q hQ => xo_19 rfl (by omega) ea hs6 eK hκ (fun _ => hQ) (fun w => absurd w (by omega))) ?_)
    refine lp_K H (Nat.le_refl _) (rm_pass0 hX0 hv ha hM rfl (by omega) (by omega) (hv.2 p hpn).1 (fun mk0 pd0 mk pd nd yhe yvm yin yfi yde yic ys yk yn yp yf iK iN o0 l0 kS0 d0 pl0 yma ypo yap yas yto yan yco yti yna yac yen o l kS d pl yo yi yw ya y1 y2 yK yW yL yq nm nv no yA lf rt hY Q hQ => ?_))
    obtain ⟨⟨b1, b2, b3, b4, b5, b6, b7, b8, b9, b10, b11⟩, hfl, hen, hhy, hby, hfr, han, hq0, hq1, hz1, hz2, hz3⟩ := hY
    obtain ⟨t1, t2, t3, t4, t5⟩ := hfr p hpn
    obtain ⟨ey, eq⟩ := hq1 (by decide)
    rw [List.length_cons] at ey
    have eyo := t1.symm.trans eP
    rw [hfo] at t5
    obtain ⟨et, hRa⟩ := hz1 rfl
    subst et
    obtain ⟨x, e1, e2⟩ := my_v hh.1 hhy.1 hRa ea hs6 eK hκ
    obtain ⟨a1, a2⟩ := t5.2.2.2.1 (by omega) (by omega)
    exact yg_keep (f := g) (by omega) eyo hq (my_k 23 rfl (by omega) (hfl q hqn) eO) ey (by omega) rfl e1 hκ (a2.trans rO) (fun _ => hQ _ t2) (fun w => absurd w (by omega))
  · refine xs_inner (by omega) x3 (Or.inl rfl) x2 (by omega) hU (by omega) (xh_ans0 x2 (by omega) hU (by omega) r0 eP hq eO (by omega) rfl (fun Q hQ => xo_19 rfl (by omega) ea hs6 eK hκ (fun w => absurd w h2) (fun _ => hQ)) ?_)
    have key : rm_I T nf bo np K0 N0 Z0 D0 I0 W0 P0 (st + 2) (xst, xow, xin, xpa, xfi, xfr, (nI g), 0, (fI p), xkn, xen, xco, xrm, xac, K, N, Z, D, Im, W, P, vS, pO, pX, pI, fS, fP, fI, fU, fR, fO, fA, fH, fG, fN, aS, qL, qR, qP) := rm_turn0 (k := 2) hX0 hv ha hM rfl (by omega) (by omega) (fun mk0 pd0 mk pd nd yhe yvm yin yfi yde yic ys yk yn yp yf iK iN o0 l0 kS0 d0 pl0 yma ypo yap yas yto yan yco yti yna yac yen o l kS d pl yo yi yw ya y1 y2 yK yW yL yq nm nv no yA lf rt hY Q hQ => by
      obtain ⟨⟨b1, b2, b3, b4, b5, b6, b7, b8, b9, b10, b11⟩, hfl, hen, hhy, hby, hfr, han, hq0, hq1, hz1, hz2, hz3⟩ := hY
      obtain ⟨t1, t2, t3, t4, t5⟩ := hfr p hpn
      obtain ⟨ey, eq⟩ := hq1 (by decide)
      rw [List.length_cons] at ey
      have eyo := t1.symm.trans eP
      rw [hfo] at t5
      obtain ⟨et, hRa⟩ := hz1 rfl
      subst et
      obtain ⟨x, e1, e2⟩ := my_v hh.1 hhy.1 hRa ea hs6 eK hκ
      obtain ⟨a1, a2⟩ := t5.2.2.2.1 (by omega) (by omega)
      exact yg_keep (f := g) (by omega) eyo hq (my_k 23 rfl (by omega) (hfl q hqn) eO) ey (by omega) rfl e1 hκ (a2.trans rO) (fun w => absurd w h2) (fun _ => hQ _ _))
    exact rn_K_i (xa_dn (gv := gv) (ch := g) (by omega) x3 rfl rfl (by omega) eP hq eO (by omega) (by omega) g1 (by omega) hrun hA (by omega) (lp_K H (by omega) key))
theorem cq_a32 {p : Nat} {pa' : List Nat} {post : SX → Prop} {T : List Nat → Option vv_L} {nf bo np : Nat} {K0 N0 Z0 D0 I0 W0 P0 : Nat → Int32} {xst xow xin xpa xfi xfr xno xsi xan xkn xen xco xrm xac : Int32} {K N Z D Im W P vS pO pX pI fS fP fI fU fR fO fA fH fG fN aS qL qR qP : Nat → Int32} {st : Nat} {V al : Nat → Prop} {g : Nat} {n c rm a : Nat}
    (hX : md_X V al g (p :: pa') bo np n c rm a st xfr xno xsi xen xco xrm xac K N Z D Im W P K0 N0 Z0 D0 I0 W0 P0 pO pX fP fU fR fO fA fH fG) (hv : mv_X V n xsi xan pO fP fI fH fN) (ha : ma_X V a aS)
    (hM : ∀ (mk0 pd0 : Nat) (v0 : SY), kn_F T np nf pO pX pI fS mk0 pd0 v0 → rm_M V (p :: pa') g np n c rm a st xsi xan K N Z D W P pO pX pI fP fI fO fA fH fG fN aS mk0 pd0 v0)
    (H : lp_G T nf bo np K0 N0 Z0 D0 I0 W0 P0 post xst xow xin xpa xfi xkn vS pO pX pI fS st) {q : Nat} (eP : fP p = nI q) (hqn : q < np) (hq : q < 40) (eO : pO q = nI 32) (es : xsi = 1) (r0 : fR g = 0) : wX_workOut_68 post (1000001 - st) (nI st) xst xow xin xpa xfi xfr xno xsi xan xkn xen xco xrm xac K N Z D Im W P vS pO pX pI fS fP fI fU fR fO fA fH fG fN aS qL qR qP := by
  subst es
  obtain ⟨hpg, hgn, hn6, hU, hA, hrun, hro⟩ := mx_p hX
  obtain ⟨_, _, hst, hlen, _⟩ := mx_f hX
  have hlen2 : pa'.length + 2 ≤ 40 := by
    have := hlen
    rw [List.length_cons] at this
    omega
  have hX0 := hX
  obtain ⟨⟨x1, x2, x3, x4, x5, x6, x7, x8, x9, x10⟩, hs, hh, hb, hf, hr, hG, hpot⟩ := hX
  have hpn : p < n := by omega
  have hfo := mx_fo eP hq eO (by omega)
  obtain ⟨s, ea, hVs⟩ := hv.1 rfl
  obtain ⟨hs6, κ, hκ, eK⟩ := vx_k hh.1 hVs
  obtain ⟨gv, g1, g2⟩ := hG p hpn
  have rO : fO p = nI g := by
    rcases hro with ⟨_, rO⟩ | ⟨r1, _⟩
    · exact rO
    · exact (r_ne r0 r1).elim
  have hAO : fA p = fO p := hA.trans rO.symm
  by_cases h2 : 2 ≤ κ
  · refine xs_inner (by omega) x3 (Or.inl rfl) x2 (by omega) hU (by omega) (xh_ans0 x2 (by omega) hU (by omega) r0 eP hq eO (by omega) rfl (fun Q hQ => xo_32 rfl (by omega) ea hs6 eK hκ g1 (fun _ => hQ) (fun w => absurd w (by omega))) ?_)
    refine lp_K H (Nat.le_refl _) (rm_pass (gv := gv + 1) hX0 hv ha hM rfl (by omega) (by omega) (by omega) (fun w => absurd w (nI_ne0 (by omega) (by omega))) ⟨s, ea, hVs⟩ (fun mk0 pd0 mk pd nd yhe yvm yin yfi yde yic ys yk yn yp yf iK iN o0 l0 kS0 d0 pl0 yma ypo yap yas yto yan yco yti yna yac yen o l kS d pl yo yi yw ya y1 y2 yK yW yL yq nm nv no yA lf rt hY Q hQ => ?_))
    obtain ⟨⟨b1, b2, b3, b4, b5, b6, b7, b8, b9, b10, b11⟩, hfl, hen, hhy, hby, hfr, han, hq0, hq1, hz1, hz2, hz3⟩ := hY
    obtain ⟨t1, t2, t3, t4, t5⟩ := hfr p hpn
    obtain ⟨ey, eq⟩ := hq1 (by decide)
    rw [List.length_cons] at ey
    have eyo := t1.symm.trans eP
    rw [hfo] at t5
    obtain ⟨et, hRa⟩ := hz1 rfl
    subst et
    obtain ⟨x, e1, e2⟩ := my_v hh.1 hhy.1 hRa ea hs6 eK hκ
    obtain ⟨a1, a2⟩ := my_a0 t5 (by omega) (by omega) hAO
    refine yf_41s (f := g) (by omega) eyo hq (my_k 41 rfl (by omega) (hfl q hqn) eO) a1 ey (by omega) rfl e1 hκ (a2.trans rO) (fun _ => hQ 1 yan hRa ?_) (fun w => absurd w (by omega))
    rw [hfo]
    exact ⟨fun w => absurd w (by omega), fun w => absurd w (by omega), fun w => absurd w (by omega), fun _ w => absurd w (by omega), fun w => absurd w (by omega), fun w => absurd w (by omega), t5.2.2.2.2.2.2.1, t5.2.2.2.2.2.2.2.1, fun _ => Or.inr ⟨rfl, gv, rfl, by omega⟩, fun w => absurd w (by omega)⟩
  · refine xs_inner (by omega) x3 (Or.inl rfl) x2 (by omega) hU (by omega) (xh_ans0 x2 (by omega) hU (by omega) r0 eP hq eO (by omega) rfl (fun Q hQ => xo_32 rfl (by omega) ea hs6 eK hκ g1 (fun w => absurd w h2) (fun _ => hQ)) ?_)
    have key : rm_I T nf bo np K0 N0 Z0 D0 I0 W0 P0 (st + 2) (xst, xow, xin, xpa, xfi, xfr, (nI g), 0, xan, xkn, xen, xco, xrm, xac, K, N, Z, D, Im, W, P, vS, pO, pX, pI, fS, fP, fI, fU, fR, fO, fA, fH, fG, fN, aS, qL, qR, qP) := rm_turn0 (k := 2) hX0 hv ha hM rfl (by omega) (by omega) (fun mk0 pd0 mk pd nd yhe yvm yin yfi yde yic ys yk yn yp yf iK iN o0 l0 kS0 d0 pl0 yma ypo yap yas yto yan yco yti yna yac yen o l kS d pl yo yi yw ya y1 y2 yK yW yL yq nm nv no yA lf rt hY Q hQ => by
      obtain ⟨⟨b1, b2, b3, b4, b5, b6, b7, b8, b9, b10, b11⟩, hfl, hen, hhy, hby, hfr, han, hq0, hq1, hz1, hz2, hz3⟩ := hY
      obtain ⟨t1, t2, t3, t4, t5⟩ := hfr p hpn
      obtain ⟨ey, eq⟩ := hq1 (by decide)
      rw [List.length_cons] at ey
      have eyo := t1.symm.trans eP
      rw [hfo] at t5
      obtain ⟨et, hRa⟩ := hz1 rfl
      subst et
      obtain ⟨x, e1, e2⟩ := my_v hh.1 hhy.1 hRa ea hs6 eK hκ
      obtain ⟨a1, a2⟩ := my_a0 t5 (by omega) (by omega) hAO
      exact yf_41s (f := g) (by omega) eyo hq (my_k 41 rfl (by omega) (hfl q hqn) eO) a1 ey (by omega) rfl e1 hκ (a2.trans rO) (fun w => absurd w h2) (fun _ => hQ _ _))
    rw [← g1, upd_id]
    exact rn_K_i (xa_dn (gv := gv) (ch := g) (by omega) x3 rfl rfl (by omega) eP hq eO (by omega) (by omega) g1 (by omega) hrun hA (by omega) (lp_K H (by omega) key))
/-- an answer of a later filter within goes outwards -/
theorem cq_b {p : Nat} {pa' : List Nat} {post : SX → Prop} {T : List Nat → Option vv_L} {nf bo np : Nat} {K0 N0 Z0 D0 I0 W0 P0 : Nat → Int32} {xst xow xin xpa xfi xfr xno xsi xan xkn xen xco xrm xac : Int32} {K N Z D Im W P vS pO pX pI fS fP fI fU fR fO fA fH fG fN aS qL qR qP : Nat → Int32} {st : Nat} {V al : Nat → Prop} {g : Nat} {n c rm a : Nat}
    (hX : md_X V al g (p :: pa') bo np n c rm a st xfr xno xsi xen xco xrm xac K N Z D Im W P K0 N0 Z0 D0 I0 W0 P0 pO pX fP fU fR fO fA fH fG) (hv : mv_X V n xsi xan pO fP fI fH fN) (ha : ma_X V a aS)
    (hM : ∀ (mk0 pd0 : Nat) (v0 : SY), kn_F T np nf pO pX pI fS mk0 pd0 v0 → rm_M V (p :: pa') g np n c rm a st xsi xan K N Z D W P pO pX pI fP fI fO fA fH fG fN aS mk0 pd0 v0)
    (H : lp_G T nf bo np K0 N0 Z0 D0 I0 W0 P0 post xst xow xin xpa xfi xkn vS pO pX pI fS st) {q : Nat} (eP : fP p = nI q) (hqn : q < np) (hq : q < 40) {oq : Nat} (eO : pO q = nI oq) (ho : oq = 21 ∨ oq = 22 ∨ oq = 32 ∨ oq = 33 ∨ oq = 34) (es : xsi = 1) (r1 : fR g = 1 ∨ fR g = 2) : wX_workOut_68 post (1000001 - st) (nI st) xst xow xin xpa xfi xfr xno xsi xan xkn xen xco xrm xac K N Z D Im W P vS pO pX pI fS fP fI fU fR fO fA fH fG fN aS qL qR qP := by
  subst es
  obtain ⟨hpg, hgn, hn6, hU, hA, hrun, hro⟩ := mx_p hX
  obtain ⟨_, _, hst, hlen, _⟩ := mx_f hX
  have hlen2 : pa'.length + 2 ≤ 40 := by
    have := hlen
    rw [List.length_cons] at this
    omega
  have hX0 := hX
  obtain ⟨⟨x1, x2, x3, x4, x5, x6, x7, x8, x9, x10⟩, hs, hh, hb, hf, hr, hG, hpot⟩ := hX
  have hpn : p < n := by omega
  have hfo := mx_fo eP hq eO (by omega)
  obtain ⟨s, ea, hVs⟩ := hv.1 rfl
  obtain ⟨hs6, κ, hκ, eK⟩ := vx_k hh.1 hVs
  obtain ⟨gv, g1, g2⟩ := hG p hpn
  have nr : ¬ fR g = 0 := fun w => r_ne w r1
  obtain ⟨rO, r21, rx, ry⟩ : fO p ≠ nI g ∧ fr_ro (fr_o pO fP p) (fR g) (fO p) := by
    rcases hro with ⟨r0, _⟩ | ⟨_, rO, rr⟩
    · exact absurd r0 nr
    · exact ⟨rO, rr⟩
  have nAO : fA p ≠ fO p := fun e => rO (e.symm.trans hA)
  rw [hfo] at r21 rx ry
  have h35 : oq ≤ 35 := by omega
  have h21 : 21 ≤ oq := by omega
  have h34 : oq ≤ 34 := by omega
  have hg6 : g < 600 := by omega
  have hp6 : p < 600 := by omega
  have hkk : 30 ≤ fl_kk oq ∧ fl_kk oq ≤ 50 ∧ (fl_kk oq < 32 ∨ 40 < fl_kk oq) := by
    rcases ho with e | e | e | e | e <;> subst e <;> decide
  refine xs_inner (by omega) x3 (Or.inl rfl) x2 (by omega) hU (by omega) (xh_ans1 x2 (by omega) hU (by omega) rfl nr eP hq eO (by omega) rfl (fun Q hQ => xb_pass (by omega) (by omega) hQ) ?_)
  refine lp_K H (Nat.le_refl _) (rm_pass0 hX0 hv ha hM rfl (by omega) (by omega) ⟨s, ea, hVs⟩ (fun mk0 pd0 mk pd nd yhe yvm yin yfi yde yic ys yk yn yp yf iK iN o0 l0 kS0 d0 pl0 yma ypo yap yas yto yan yco yti yna yac yen o l kS d pl yo yi yw ya y1 y2 yK yW yL yq nm nv no yA lf rt hY Q hQ => ?_))
  obtain ⟨⟨b1, b2, b3, b4, b5, b6, b7, b8, b9, b10, b11⟩, hfl, hen, hhy, hby, hfr, han, hq0, hq1, hz1, hz2, hz3⟩ := hY
  obtain ⟨t1, t2, t3, t4, t5⟩ := hfr p hpn
  obtain ⟨ey, eq⟩ := hq1 (by decide)
  rw [List.length_cons] at ey
  have eyo := t1.symm.trans eP
  rw [hfo] at t5
  obtain ⟨et, hRa⟩ := hz1 rfl
  subst et
  obtain ⟨x, e1, e2⟩ := my_v hh.1 hhy.1 hRa ea hs6 eK hκ
  exact yh_0p (f := g) hp6 eyo hq (my_k _ rfl h35 (hfl q hqn) eO) hkk.1 hkk.2.1 ((my_a1 t5 h21 h34 nAO).1.trans hA) hg6 ey rfl hkk.2.2 (hQ _ hRa)
/-- in a fold, B or C has answered -/
theorem cq_b35 {p : Nat} {pa' : List Nat} {post : SX → Prop} {T : List Nat → Option vv_L} {nf bo np : Nat} {K0 N0 Z0 D0 I0 W0 P0 : Nat → Int32} {xst xow xin xpa xfi xfr xno xsi xan xkn xen xco xrm xac : Int32} {K N Z D Im W P vS pO pX pI fS fP fI fU fR fO fA fH fG fN aS qL qR qP : Nat → Int32} {st : Nat} {V al : Nat → Prop} {g : Nat} {n c rm a : Nat}
    (hX : md_X V al g (p :: pa') bo np n c rm a st xfr xno xsi xen xco xrm xac K N Z D Im W P K0 N0 Z0 D0 I0 W0 P0 pO pX fP fU fR fO fA fH fG) (hv : mv_X V n xsi xan pO fP fI fH fN) (ha : ma_X V a aS)
    (hM : ∀ (mk0 pd0 : Nat) (v0 : SY), kn_F T np nf pO pX pI fS mk0 pd0 v0 → rm_M V (p :: pa') g np n c rm a st xsi xan K N Z D W P pO pX pI fP fI fO fA fH fG fN aS mk0 pd0 v0)
    (H : lp_G T nf bo np K0 N0 Z0 D0 I0 W0 P0 post xst xow xin xpa xfi xkn vS pO pX pI fS st) {q : Nat} (eP : fP p = nI q) (hqn : q < np) (hq : q < 40) (eO : pO q = nI 35) (es : xsi = 1) (r1 : fR g = 1 ∨ fR g = 2) : wX_workOut_68 post (1000001 - st) (nI st) xst xow xin xpa xfi xfr xno xsi xan xkn xen xco xrm xac K N Z D Im W P vS pO pX pI fS fP fI fU fR fO fA fH fG fN aS qL qR qP := by
  subst es
  obtain ⟨hpg, hgn, hn6, hU, hA, hrun, hro⟩ := mx_p hX
  obtain ⟨_, _, hst, hlen, _⟩ := mx_f hX
  have hlen2 : pa'.length + 2 ≤ 40 := by
    have := hlen
    rw [List.length_cons] at this
    omega
  have hX0 := hX
  obtain ⟨⟨x1, x2, x3, x4, x5, x6, x7, x8, x9, x10⟩, hs, hh, hb, hf, hr, hG, hpot⟩ := hX
  have hpn : p < n := by omega
  have hfo := mx_fo eP hq eO (by omega)
  obtain ⟨s, ea, hVs⟩ := hv.1 rfl
  obtain ⟨hs6, κ, hκ, eK⟩ := vx_k hh.1 hVs
  obtain ⟨gv, g1, g2⟩ := hG p hpn
  have nr : ¬ fR g = 0 := fun w => r_ne w r1
  obtain ⟨rO, r21, rx, ry⟩ : fO p ≠ nI g ∧ fr_ro (fr_o pO fP p) (fR g) (fO p) := by
    rcases hro with ⟨r0, _⟩ | ⟨_, rO, rr⟩
    · exact absurd r0 nr
    · exact ⟨rO, rr⟩
  have nAO : fA p ≠ fO p := fun e => rO (e.symm.trans hA)
  rw [hfo] at r21 rx ry
  have eG0 := hrun.1 (Or.inr hfo)
  refine xs_inner (by omega) x3 (Or.inl rfl) x2 (by omega) hU (by omega) (xh_ans1 x2 (by omega) hU (by omega) rfl nr eP hq eO (by omega) rfl (fun Q hQ => xb_fold rfl (by omega) hQ) ?_)
  have key : rm_I T nf bo np K0 N0 Z0 D0 I0 W0 P0 (st + 2) (xst, xow, xin, xpa, xfi, xfr, (nI g), 0, xan, xkn, xen, xco, xrm, xac, K, N, Z, D, Im, W, P, vS, pO, pX, pI, fS, fP, fI, fU, fR, fO, fA, (upd fH p xan), fG, fN, aS, qL, qR, qP) := rm_turnH (k := 2) hX0 hv ha hM rfl (by omega) (by omega) (by omega) ⟨s, ea, hVs⟩ (fun mk0 pd0 mk pd nd yhe yvm yin yfi yde yic ys yk yn yp yf iK iN o0 l0 kS0 d0 pl0 yma ypo yap yas yto yan yco yti yna yac yen o l kS d pl yo yi yw ya y1 y2 yK yW yL yq nm nv no yA lf rt hY Q hQ => by
    obtain ⟨⟨b1, b2, b3, b4, b5, b6, b7, b8, b9, b10, b11⟩, hfl, hen, hhy, hby, hfr, han, hq0, hq1, hz1, hz2, hz3⟩ := hY
    obtain ⟨t1, t2, t3, t4, t5⟩ := hfr p hpn
    obtain ⟨ey, eq⟩ := hq1 (by decide)
    rw [List.length_cons] at ey
    have eyo := t1.symm.trans eP
    rw [hfo] at t5
    obtain ⟨et, hRa⟩ := hz1 rfl
    subst et
    obtain ⟨x, e1, e2⟩ := my_v hh.1 hhy.1 hRa ea hs6 eK hκ
    obtain ⟨s1, s2⟩ := t5.2.2.2.2.2.2.2.2.2 rfl
    rcases s2 with ⟨w, _⟩ | ⟨w1, w2, w3, w4, w5, _⟩ | ⟨_, w, _⟩ | ⟨w1, w2, w3, w4, w5, w6, _⟩ | ⟨_, w, _⟩
    · exact absurd (hA.symm.trans w) (fr_n1 (by omega))
    · refine yo_0b (f := g) (by omega) eyo hq (my_k 51 rfl (by omega) (hfl q hqn) eO) ey (by omega) rfl w4 (w5.trans hA) (hQ _ _ yW (vp_updL yK p yan) yL (fun f hf => ⟨rfl, pk_uLn hf, rfl⟩) ?_)
      rw [pk_uLs, hfo]
      exact ⟨fun w => absurd w (by omega), fun w => absurd w (by omega), fun w => absurd w (by omega), fun _ w => absurd w (by omega), fun w => absurd w (by omega), fun w => absurd w (by omega), fun _ w => absurd w (by omega), fun _ w => absurd w (by omega), fun w => absurd w (by omega), fun _ => ⟨s1, Or.inr (Or.inl ⟨w1, w2, w3, w4, w5, hRa⟩)⟩⟩
    · exact absurd w nAO
    · refine yo_0c (f := g) (by omega) eyo hq (my_k 51 rfl (by omega) (hfl q hqn) eO) ey (by omega) rfl w5 (w6.trans hA) (hQ _ _ yW yK (vp_updL yL p yan) (fun f hf => ⟨rfl, rfl, pk_uLn hf⟩) ?_)
      rw [pk_uLs, hfo]
      exact ⟨fun w => absurd w (by omega), fun w => absurd w (by omega), fun w => absurd w (by omega), fun _ w => absurd w (by omega), fun w => absurd w (by omega), fun w => absurd w (by omega), fun _ w => absurd w (by omega), fun _ w => absurd w (by omega), fun w => absurd w (by omega), fun _ => ⟨s1, Or.inr (Or.inr (Or.inr (Or.inl ⟨w1, w2, w3, w4, w5, w6, hRa⟩)))⟩⟩
    · rw [eG0] at w
      exact absurd w (by decide))
  exact rn_K_i (xa_dn (gv := gv) (ch := g) (by omega) x3 rfl rfl (by omega) eP hq eO (by omega) (by omega) g1 (by omega) hrun hA (by omega) (lp_K H (by omega) key))
/-- a fold gives what it has -/
theorem cq_e35 {p : Nat} {pa' : List Nat} {post : SX → Prop} {T : List Nat → Option vv_L} {nf bo np : Nat} {K0 N0 Z0 D0 I0 W0 P0 : Nat → Int32} {xst xow xin xpa xfi xfr xno xsi xan xkn xen xco xrm xac : Int32} {K N Z D Im W P vS pO pX pI fS fP fI fU fR fO fA fH fG fN aS qL qR qP : Nat → Int32} {st : Nat} {V al : Nat → Prop} {g : Nat} {n c rm a : Nat}
    (hX : md_X V al g (p :: pa') bo np n c rm a st xfr xno xsi xen xco xrm xac K N Z D Im W P K0 N0 Z0 D0 I0 W0 P0 pO pX fP fU fR fO fA fH fG) (hv : mv_X V n xsi xan pO fP fI fH fN) (ha : ma_X V a aS)
    (hM : ∀ (mk0 pd0 : Nat) (v0 : SY), kn_F T np nf pO pX pI fS mk0 pd0 v0 → rm_M V (p :: pa') g np n c rm a st xsi xan K N Z D W P pO pX pI fP fI fO fA fH fG fN aS mk0 pd0 v0)
    (H : lp_G T nf bo np K0 N0 Z0 D0 I0 W0 P0 post xst xow xin xpa xfi xkn vS pO pX pI fS st) {q : Nat} (eP : fP p = nI q) (hqn : q < np) (hq : q < 40) (eO : pO q = nI 35) (es : xsi = 2) (r0 : fR g = 0) : wX_workOut_68 post (1000001 - st) (nI st) xst xow xin xpa xfi xfr xno xsi xan xkn xen xco xrm xac K N Z D Im W P vS pO pX pI fS fP fI fU fR fO fA fH fG fN aS qL qR qP := by
  subst es
  obtain ⟨hpg, hgn, hn6, hU, hA, hrun, hro⟩ := mx_p hX
  obtain ⟨_, _, hst, hlen, _⟩ := mx_f hX
  have hlen2 : pa'.length + 2 ≤ 40 := by
    have := hlen
    rw [List.length_cons] at this
    omega
  have hX0 := hX
  obtain ⟨⟨x1, x2, x3, x4, x5, x6, x7, x8, x9, x10⟩, hs, hh, hb, hf, hr, hG, hpot⟩ := hX
  have hpn : p < n := by omega
  have hfo := mx_fo eP hq eO (by omega)
  have rO : fO p = nI g := by
    rcases hro with ⟨_, rO⟩ | ⟨r1, _⟩
    · exact rO
    · exact (r_ne r0 r1).elim
  have hAO : fA p = fO p := hA.trans rO.symm
  obtain ⟨gv, g1, g2⟩ := hG p hpn
  have eG0 := hrun.1 (Or.inr hfo)
  refine xs_inner (by omega) x3 (Or.inr (Or.inl rfl)) x2 (by omega) hU (by omega) (xh_end0 x2 (by omega) hU (by omega) r0 eP hq eO (by omega) (Or.inl rfl) (fun Q hQ => xe_fold rfl (by omega) g1 (by omega) hQ) ?_)
  refine lp_K H (Nat.le_refl _) (rm_give (sl := 53 + rm) (V' := V) hX0 hv ha hM rfl (Or.inr hfo) (gr_id hh) (fun w => absurd w (gr_id hh).1) (fun f hf hne o16 hA' hG' e => ?_) ((hv.2 p hpn).2.1 (by omega)) (fun mk0 pd0 mk pd nd yhe yvm yin yfi yde yic ys yk yn yp yf iK iN o0 l0 kS0 d0 pl0 yma ypo yap yas yto yan yco yti yna yac yen o l kS d pl yo yi yw ya y1 y2 yK yW yL yq nm nv no yA lf rt hY Q hQ => ?_))
  · obtain ⟨x, z, a1, a2, a3, _⟩ := hb.1 f hf o16 hA' hG'
    rw [a1] at e
    have := (nI_eq (by omega) (by omega)).mp e
    omega
  · obtain ⟨⟨b1, b2, b3, b4, b5, b6, b7, b8, b9, b10, b11⟩, hfl, hen, hhy, hby, hfr, han, hq0, hq1, hz1, hz2, hz3⟩ := hY
    obtain ⟨t1, t2, t3, t4, t5⟩ := hfr p hpn
    obtain ⟨ey, eq⟩ := hq1 (by decide)
    rw [List.length_cons] at ey
    have eyo := t1.symm.trans eP
    rw [hfo] at t5
    have et := hz2 rfl
    subst et
    subst b1 b2
    obtain ⟨s1, s2⟩ := t5.2.2.2.2.2.2.2.2.2 rfl
    obtain ⟨w1, w3, w4, w5⟩ : fO p ≠ -1 ∧ fG p = 0 ∧ ya p = 1 ∧ vv_R V K N Z D P mk o l kS d pl (fH p) (yK p) := by
      rcases s2 with ⟨w, _⟩ | ⟨w1, w2, w3, w4, w5, _⟩ | ⟨w1, w2, w3, w4, w5⟩ | ⟨w1, w2, w3, w4, w5, w6, _⟩ | ⟨_, w, _⟩
      · exact absurd (hA.symm.trans w) (fr_n1 (by omega))
      · exact absurd (rO.symm.trans w1) (fr_n1 (by omega))
      · exact ⟨w1, w3, w4, w5⟩
      · exact absurd hAO w3
      · rw [eG0] at w
        exact absurd w (by decide)
    refine yo_1a (by omega) eyo hq (my_k 51 rfl (by omega) (hfl q hqn) eO) ey rfl w4 (hQ mk pd o l kS d pl (upd ya p 3) yW yK yL (yK p) (gr_Yid hhy.1) (Or.inl rfl) hhy.2.2.2.2.1 w5 (fun f hf => ⟨pk_un hf, rfl, rfl, rfl⟩) ?_ ?_)
    · obtain ⟨q1, q2⟩ := hby
      have ne : ∀ f, fr_o pO fP f = 16 → f ≠ p := fun f hf e => by rw [e, hfo] at hf; omega
      refine ⟨fun f hf' o16 hA' => ?_, fun f f' a1 a2 h1 h2 hne o1 A1 o2 A2 e1 e2 => ?_⟩
      · rw [pk_un (ne f o16), pk_un (ne f o16)]
        exact q1 f hf' o16 hA'
      · rw [pk_un (ne f o1)] at e1
        rw [pk_un (ne f' o2)] at e2
        exact q2 f f' a1 a2 h1 h2 hne o1 A1 o2 A2 e1 e2
    · rw [pk_us, hfo]
      exact ⟨fun w => absurd w (by omega), fun w => absurd w (by omega), fun w => absurd w (by omega), fun _ w => absurd w (by omega), fun w => absurd w (by omega), fun w => absurd w (by omega), fun _ w => absurd w (by omega), fun _ w => absurd w (by omega), fun w => absurd w (by omega), fun _ => ⟨s1, Or.inr (Or.inr (Or.inr (Or.inr ⟨by rw [hA]; exact fr_n1 (by omega), rfl, rfl⟩)))⟩⟩
