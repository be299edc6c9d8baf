/-! ===== 'all' collects and gives ===== -/
theorem xh_end0' {xst xow xin xpa xfi xfr xno xsi xan xkn xen xco xrm xac : Int32} {K N Z D Im W P vS pO pX pI fS fP fI fU fR fO fA fH fG fN aS qL qR qP : Nat → Int32} {post : SX → Prop} {g p q oq : Nat} (eg : xno = nI g) (hg : g < 600) (eU : fU g = nI p) (hp : p < 600) (eR : fR g = 0) (eP : fP p = nI q) (hq : q < 40) (eO : pO q = nI oq) (ho : oq ≤ 35) (es : xsi = 2)
    (h : ∀ Q : SX → Prop, (∀ (xst' xow' xin' xpa' xfi' xfr' xno' xsi' xan' xkn' xen' xco' xrm' xac' : Int32) (K' N' Z' D' Im' W' P' vS' pO' pX' pI' fS' fP' fI' fU' fR' fO' fA' fH' fG' fN' aS' qL' qR' qP' : Nat → Int32), post (xst', xow', xin', xpa', xfi', xfr', xno', xsi', xan', xkn', xen', xco', xrm', xac', K', N', Z', D', Im', W', P', vS', pO', pX', pI', fS', fP', fI', fU', fR', fO', fA', fH', fG', fN', aS', qL', qR', qP') → Q (xst', xow', xin', xpa', xfi', xfr', xno', xsi', xan', xkn', xen', xco', xrm', xac', K', N', Z', D', Im', W', P', vS', pO', pX', pI', fS', fP', fI', fU', fR', fO', fA', fH', fG', fN', aS', qL', qR', qP')) → wpX_endOfA Q (xst, xow, xin, xpa, xfi, xfr, (nI p), xsi, xan, xkn, xen, xco, xrm, xac, K, N, Z, D, Im, W, P, vS, pO, pX, pI, fS, fP, fI, fU, fR, fO, fA, fH, fG, fN, aS, qL, qR, qP) (nI oq)) : wpX_hearInner post (xst, xow, xin, xpa, xfi, xfr, xno, xsi, xan, xkn, xen, xco, xrm, xac, K, N, Z, D, Im, W, P, vS, pO, pX, pI, fS, fP, fI, fU, fR, fO, fA, fH, fG, fN, aS, qL, qR, qP) := by
  have n1 : ¬ xsi = 1 := by rw [es]; decide
  refine xh_77 eg hg eU hp eR eP hq eO ho (fun _ => ?_) (fun w => absurd es w.1)
  unfold wX_hearInner_77
  refine br_f n1 ?_
  unfold wX_hearInner_99
  refine br_f n1 (br_f (by decide) (br_t rfl (h _ ?_)))
  intros
  assumption
theorem fr_S_16 {R : Int32 → Int64 → Prop} {E : Int32 → Nat → Prop} {Dp : Int32 → Nat → Nat → Prop} {R' : Int32 → Int64 → Prop} {E' : Int32 → Nat → Prop} {Dp' : Int32 → Nat → Nat → Prop} {st st' : Nat} {x fi gi gi' ac ou he he' ya y1 y2 yW yW' : Int32} {yK yL : Int64} (h : fr_S R E Dp 16 x st fi gi ac ou he ya y1 y2 yW yK yL) (hO : ou ≠ -1) (hg : gi' = 0 ∨ gi' = 1) : fr_S R' E' Dp' 16 x st' fi gi' ac ou he' ya y1 y2 yW' yK yL := by
  obtain ⟨_, _, _, h4, h5, _⟩ := h
  refine ⟨fun w => absurd w (by omega), fun w => absurd w (by omega), fun w => absurd w (by omega), h4, fun w => ?_, fun w => absurd w (by omega), fun w => absurd w (by omega), fun w => absurd w (by omega), fun w => absurd w (by omega), fun w => absurd w (by omega)⟩
  rcases h5 rfl with ⟨z, _⟩ | ⟨z1, _, z2⟩
  · exact absurd z hO
  · exact Or.inr ⟨z1, hg, z2⟩
theorem cq_a16 {p : Nat} {pa' : List Nat} {post : SX → Prop} {T : List Nat → Option vv_L} {nf bo np : Nat} {K0 N0 Z0 D0 I0 W0 P0 : Nat → Int32} {xst xow xin xpa xfi xfr xno xsi xan xkn xen xco xrm xac : Int32} {K N Z D Im W P vS pO pX pI fS fP fI fU fR fO fA fH fG fN aS qL qR qP : Nat → Int32} {st : Nat} {V al : Nat → Prop} {g : Nat} {n c rm a : Nat}
    (hX : md_X V al g (p :: pa') bo np n c rm a st xfr xno xsi xen xco xrm xac K N Z D Im W P K0 N0 Z0 D0 I0 W0 P0 pO pX fP fU fR fO fA fH fG) (hv : mv_X V n xsi xan pO fP fI fH fN) (ha : ma_X V a aS)
    (hM : ∀ (mk0 pd0 : Nat) (v0 : SY), kn_F T np nf pO pX pI fS mk0 pd0 v0 → rm_M V (p :: pa') g np n c rm a st xsi xan K N Z D W P pO pX pI fP fI fO fA fH fG fN aS mk0 pd0 v0)
    (H : lp_G T nf bo np K0 N0 Z0 D0 I0 W0 P0 post xst xow xin xpa xfi xkn vS pO pX pI fS st) {q : Nat} (eP : fP p = nI q) (hqn : q < np) (hq : q < 40) (eO : pO q = nI 16) (es : xsi = 1) (r0 : fR g = 0) : wX_workOut_68 post (1000001 - st) (nI st) xst xow xin xpa xfi xfr xno xsi xan xkn xen xco xrm xac K N Z D Im W P vS pO pX pI fS fP fI fU fR fO fA fH fG fN aS qL qR qP := by
  subst es
  obtain ⟨hpg, hgn, hn6, hU, hA, hrun, hro⟩ := mx_p hX
  obtain ⟨_, _, hst, hlen, _⟩ := mx_f hX
  have hlen2 : pa'.length + 2 ≤ 40 := by
    have := hlen
    rw [List.length_cons] at this
    omega
  have hX0 := hX
  obtain ⟨⟨x1, x2, x3, x4, x5, x6, x7, x8, x9, x10⟩, hs, hh, hb, hf, hr, hG, hpot⟩ := hX
  have hpn : p < n := by omega
  have hfo := mx_fo eP hq eO (by omega)
  obtain ⟨s, ea, hVs⟩ := hv.1 rfl
  obtain ⟨hs6, κ, hκ, eK⟩ := vx_k hh.1 hVs
  obtain ⟨gv, g1, g2⟩ := hG p hpn
  have rO : fO p = nI g := by
    rcases hro with ⟨_, rO⟩ | ⟨r1, _⟩
    · exact rO
    · exact (r_ne r0 r1).elim
  have hAO : fA p = fO p := hA.trans rO.symm
  have eG0 := hrun.1 (Or.inl hfo)
  have hA1 : fA p ≠ -1 := by rw [hA]; exact fr_n1 (by omega)
  have hO1 : fO p ≠ -1 := by rw [rO]; exact fr_n1 (by omega)
  obtain ⟨h, z, eH, h53, hhr, hnV, eKh, eNh, eZh, hz, hch⟩ := hb.1 p hpn hfo hA1 eG0
  have hS2 : rm ≤ 600 := by omega
  obtain ⟨e, he4, eD⟩ := vv_D hh.1 hVs
  by_cases hbad : 10 ≤ z ∨ 4 ≤ e
  · refine xs_inner (by omega) x3 (Or.inl rfl) x2 (by omega) hU (by omega) (xh_ans0 x2 (by omega) hU (by omega) r0 eP hq eO (by omega) rfl (fun Q hQ => xo_16 rfl (by omega) ea hs6 eK hκ eH (by omega) eZh hz eD he4 (fun _ => hQ) (fun a b => absurd hbad (by omega))) ?_)
    refine lp_K H (Nat.le_refl _) (rm_up hX0 hv ha hM (Or.inl rfl) (Or.inr rfl) (fun mk0 pd0 mk pd nd yhe yvm yin yfi yde yic ys yk yn yp yf iK iN o0 l0 kS0 d0 pl0 yma ypo yap yas yto yan yco yti yna yac yen o l kS d pl yo yi yw ya y1 y2 yK yW yL yq nm nv no yA lf rt hY Q hQ => ?_))
    obtain ⟨⟨b1, b2, b3, b4, b5, b6, b7, b8, b9, b10, b11⟩, hfl, hen, hhy, hby, hfr, han, hq0, hq1, hz1, hz2, hz3⟩ := hY
    obtain ⟨t1, t2, t3, t4, t5⟩ := hfr p hpn
    obtain ⟨ey, eq⟩ := hq1 (by decide)
    rw [List.length_cons] at ey
    have eyo := t1.symm.trans eP
    rw [hfo] at t5
    obtain ⟨et, hRa⟩ := hz1 rfl
    subst et
    obtain ⟨x, e1, e2⟩ := my_v hh.1 hhy.1 hRa ea hs6 eK hκ
    rw [e31] at hQ
    obtain ⟨a1, a2⟩ := t5.2.2.2.1 (by omega) (by omega)
    obtain ⟨b', w, u1, u2, u3, u4, u5, u6, u7⟩ := hby.1 p hpn hfo hA1
    obtain ⟨u8, u9⟩ := u7 eG0
    rw [eH, nI_clamp (by omega), eZh] at u8
    have hwz : z = w := (nI_eq (by omega) (by omega)).mp u8
    have hp8 := hhy.1.2.1
    exact yg_all0 (f := g) (by omega) eyo hq (my_k 20 rfl (by omega) (hfl q hqn) eO) ey (by omega) rfl u1 (by omega) u2 u3 (yd_of_R hh.1 hhy.1 hRa ea hs6 eD he4) (a2.trans rO) (fun _ => hQ 0) (fun a b => absurd hbad (by omega))
  · refine xs_inner (by omega) x3 (Or.inl rfl) x2 (by omega) hU (by omega) (xh_ans0 x2 (by omega) hU (by omega) r0 eP hq eO (by omega) rfl (fun Q hQ => xo_16 rfl (by omega) ea hs6 eK hκ eH (by omega) eZh hz eD he4 (fun w => absurd w hbad) (fun _ _ => hQ)) ?_)
    have hq6 : ∀ t, t ≠ h → K t = K t ∧ N t = N t ∧ upd Z h (nI (z + 1)) t = Z t ∧ D t = D t ∧ Im t = Im t ∧ W t = W t ∧ ∀ i, i < 10 → upd P (h * 10 + z) xan (t * 10 + i) = P (t * 10 + i) := fun t ht => ⟨rfl, rfl, pk_un ht, rfl, rfl, rfl, fun i hi => pk_un (vv_pl ht hi (by omega))⟩
    have hneV : ∀ s, V s → s ≠ h := fun s hs e => hnV (by rw [← e]; exact hs)
    have hgr : gr_X V V h K N Z D Im W P K N (upd Z h (nI (z + 1))) D Im W (upd P (h * 10 + z) xan) := ⟨hnV, h53, fun _ w => w, fun _ w => Or.inl w, vv_ox_eq hh.1 (fun s hs => hq6 s (hneV s hs)), hq6⟩
    have hoth : ∀ f, f < n → f ≠ p → fr_o pO fP f = 16 → fA f ≠ -1 → fG f = 0 → ∃ h', fH f = nI h' ∧ h' < 53 + rm ∧ h' ≠ h := fun f hf' hne o16 hA' hG' => by
      obtain ⟨h', z', a1, a2, a3, _⟩ := hb.1 f hf' o16 hA' hG'
      refine ⟨h', a1, a3, fun e' => hb.2 f p hf' hpn hne o16 hA' hG' hfo hA1 eG0 ?_⟩
      rw [a1, eH, e']
    have hbx : md_bx V rm n pO fP fA fH fG K N (upd Z h (nI (z + 1))) D (upd P (h * 10 + z) xan) := by
      refine ⟨fun f hf' o16 hA' hG' => ?_, hb.2⟩
      by_cases ef : f = p
      · subst ef
        refine ⟨h, z + 1, eH, h53, hhr, hnV, eKh, eNh, pk_us, by omega, fun i hi => ?_⟩
        by_cases ei : i = z
        · subst ei
          exact ⟨s, e, by rw [pk_us]; exact ea, hVs, eD, by omega⟩
        · rw [pk_un (by omega)]
          exact hch i (by omega)
      · obtain ⟨h', w1, w2, w3⟩ := hoth f hf' ef o16 hA' hG'
        obtain ⟨h'', z', a1, a2, a3, a4, a5, a6, a7, a8, a9⟩ := hb.1 f hf' o16 hA' hG'
        have : h'' = h' := (nI_eq (by omega) (by omega)).mp (a1.symm.trans w1)
        subst this
        refine ⟨h'', z', a1, a2, a3, a4, a5, a6, by rw [pk_un w3]; exact a7, a8, fun i hi => ?_⟩
        rw [pk_un (vv_pl w3 (by omega) (by omega))]
        exact a9 i hi
    have key : rm_I T nf bo np K0 N0 Z0 D0 I0 W0 P0 (st + 2) (xst, xow, xin, xpa, xfi, xfr, (nI g), 0, xan, xkn, xen, xco, xrm, xac, K, N, (upd Z h (nI (z + 1))), D, Im, W, (upd P (h * 10 + z) xan), vS, pO, pX, pI, fS, fP, fI, fU, fR, fO, fA, (upd fH p (fH p)), fG, fN, aS, qL, qR, qP) := rm_turn (k := 2) (sl := h) (h' := fH p) hX0 hv ha hM rfl (by omega) (by omega) hgr (by rw [upd_id]; exact hbx) (fun w => absurd hfo w) (fun mk0 pd0 mk pd nd yhe yvm yin yfi yde yic ys yk yn yp yf iK iN o0 l0 kS0 d0 pl0 yma ypo yap yas yto yan yco yti yna yac yen o l kS d pl yo yi yw ya y1 y2 yK yW yL yq nm nv no yA lf rt hY Q hQ => by
      obtain ⟨⟨b1, b2, b3, b4, b5, b6, b7, b8, b9, b10, b11⟩, hfl, hen, hhy, hby, hfr, han, hq0, hq1, hz1, hz2, hz3⟩ := hY
      obtain ⟨t1, t2, t3, t4, t5⟩ := hfr p hpn
      obtain ⟨ey, eq⟩ := hq1 (by decide)
      rw [List.length_cons] at ey
      have eyo := t1.symm.trans eP
      rw [hfo] at t5
      obtain ⟨et, hRa⟩ := hz1 rfl
      subst et
      obtain ⟨x, e1, e2⟩ := my_v hh.1 hhy.1 hRa ea hs6 eK hκ
      obtain ⟨a1, a2⟩ := t5.2.2.2.1 (by omega) (by omega)
      obtain ⟨b', w, u1, u2, u3, u4, u5, u6, u7⟩ := hby.1 p hpn hfo hA1
      obtain ⟨u8, u9⟩ := u7 eG0
      rw [eH, nI_clamp (by omega)] at u8 u9
      have hwz : z = w := (nI_eq (by omega) (by omega)).mp (eZh.symm.trans u8)
      subst hwz
      have hp8 := hhy.1.2.1
      refine yg_all0 (f := g) (by omega) eyo hq (my_k 20 rfl (by omega) (hfl q hqn) eO) ey (by omega) rfl u1 (by omega) u2 u3 (yd_of_R hh.1 hhy.1 hRa ea hs6 eD he4) (a2.trans rO) (fun w => absurd hbad (by omega)) (fun _ _ => ?_)
      have hcell : ∀ j a b, j < mk → o j = nI a → l j = nI b → b ≤ 10 → a + b ≤ pd → ∀ i, i < b → vp_updL pl (b' + z) yan (a + i) = pl (a + i) := fun j a b hj ho hl hb10 hab i hi => by
        rcases u6 j a b hj ho hl hb10 hab with w | w
        · exact pk_uLn (by omega)
        · exact pk_uLn (by omega)
      have hRR : ∀ s w, vv_R V K N Z D P mk o l kS d pl s w → vv_R V K N (upd Z h (nI (z + 1))) D (upd P (h * 10 + z) xan) mk o l kS d (vp_updL pl (b' + z) yan) s w := fun s w hsw => vv_R_up hh.1 hhy.1 (fun s hs => ⟨hs, vv_eq_x (gr_eq hgr) s hs⟩) (Nat.le_refl _) (fun j hj => ⟨rfl, rfl, rfl, rfl, fun a b h1 h2 h3 h4 => hcell j a b hj h1 h2 h3 h4⟩) hsw
      refine hQ 0 yan (vp_updL pl (b' + z) yan) (upd yW p (nI (z + 1))) yK yL hRR ?_ (fun i hi => pk_uLn (by omega)) ?_ (fun f hf => ⟨pk_un hf, rfl, rfl⟩) ?_
      · refine ⟨hhy.1.1, hhy.1.2.1, fun j hj => ?_⟩
        obtain ⟨a, b, q1, q2, q3, q4, q5⟩ := hhy.1.2.2 j hj
        exact ⟨a, b, q1, q2, q3, q4, fun i hi => by rw [hcell j a b hj q1 q2 q3 q4 i hi]; exact q5 i hi⟩
      · rw [upd_id]
        refine ⟨fun f hf' o16 hA' => ?_, hby.2⟩
        by_cases ef : f = p
        · subst ef
          refine ⟨b', z + 1, u1, pk_us, by omega, u4, u5, fun j x y hj hx hy hy10 hxy => ?_, fun _ => ⟨by rw [eH, nI_clamp (by omega), pk_us], fun i hi => ?_⟩⟩
          · rcases u6 j x y hj hx hy hy10 hxy with w | w
            · exact Or.inl (by omega)
            · exact Or.inr w
          · rw [eH, nI_clamp (by omega)]
            by_cases ei : i = z
            · subst ei
              rw [pk_us, pk_uLs]
              exact hRR _ _ hRa
            · rw [pk_un (by omega), pk_uLn (by omega)]
              exact hRR _ _ (u9 i (by omega))
        · obtain ⟨b2, w2, v1, v2, v3, v4, v5, v6, v7⟩ := hby.1 f hf' o16 hA'
          refine ⟨b2, w2, v1, by rw [pk_un ef]; exact v2, v3, v4, v5, v6, fun hG' => ?_⟩
          obtain ⟨v8, v9⟩ := v7 hG'
          obtain ⟨h', m1, m2, m3⟩ := hoth f hf' ef o16 hA' hG'
          rw [m1, nI_clamp (by omega)] at v8 v9 ⊢
          refine ⟨by rw [pk_un m3]; exact v8, fun i hi => ?_⟩
          have hd := hby.2 f p b2 b' hf' hpn ef o16 hA' hfo hA1 v1 u1 (by omega) (by omega)
          rw [pk_un (vv_pl m3 (by omega) (by omega)), pk_uLn (by omega)]
          exact hRR _ _ (v9 i hi)
      · rw [pk_us, hfo]
        exact fr_S_16 t5 hO1 (Or.inl eG0))
    rw [upd_id] at key
    exact rn_K_i (xa_dn (gv := gv) (ch := g) (by omega) x3 rfl rfl (by omega) eP hq eO (by omega) (by omega) g1 (by omega) hrun hA (by omega) (lp_K H (by omega) key))
theorem cq_e16 {p : Nat} {pa' : List Nat} {post : SX → Prop} {T : List Nat → Option vv_L} {nf bo np : Nat} {K0 N0 Z0 D0 I0 W0 P0 : Nat → Int32} {xst xow xin xpa xfi xfr xno xsi xan xkn xen xco xrm xac : Int32} {K N Z D Im W P vS pO pX pI fS fP fI fU fR fO fA fH fG fN aS qL qR qP : Nat → Int32} {st : Nat} {V al : Nat → Prop} {g : Nat} {n c rm a : Nat}
    (hX : md_X V al g (p :: pa') bo np n c rm a st xfr xno xsi xen xco xrm xac K N Z D Im W P K0 N0 Z0 D0 I0 W0 P0 pO pX fP fU fR fO fA fH fG) (hv : mv_X V n xsi xan pO fP fI fH fN) (ha : ma_X V a aS)
    (hM : ∀ (mk0 pd0 : Nat) (v0 : SY), kn_F T np nf pO pX pI fS mk0 pd0 v0 → rm_M V (p :: pa') g np n c rm a st xsi xan K N Z D W P pO pX pI fP fI fO fA fH fG fN aS mk0 pd0 v0)
    (H : lp_G T nf bo np K0 N0 Z0 D0 I0 W0 P0 post xst xow xin xpa xfi xkn vS pO pX pI fS st) {q : Nat} (eP : fP p = nI q) (hqn : q < np) (hq : q < 40) (eO : pO q = nI 16) (es : xsi = 2) (r0 : fR g = 0) : wX_workOut_68 post (1000001 - st) (nI st) xst xow xin xpa xfi xfr xno xsi xan xkn xen xco xrm xac K N Z D Im W P vS pO pX pI fS fP fI fU fR fO fA fH fG fN aS qL qR qP := by
  subst es
  obtain ⟨hpg, hgn, hn6, hU, hA, hrun, hro⟩ := mx_p hX
  obtain ⟨_, _, hst, hlen, _⟩ := mx_f hX
  have hlen2 : pa'.length + 2 ≤ 40 := by
    have := hlen
    rw [List.length_cons] at this
    omega
  have hX0 := hX
  obtain ⟨⟨x1, x2, x3, x4, x5, x6, x7, x8, x9, x10⟩, hs, hh, hb, hf, hr, hG, hpot⟩ := hX
  have hpn : p < n := by omega
  have hfo := mx_fo eP hq eO (by omega)
  have rO : fO p = nI g := by
    rcases hro with ⟨_, rO⟩ | ⟨r1, _⟩
    · exact rO
    · exact (r_ne r0 r1).elim
  have hAO : fA p = fO p := hA.trans rO.symm
  obtain ⟨gv, g1, g2⟩ := hG p hpn
  have eG0 := hrun.1 (Or.inl hfo)
  have hA1 : fA p ≠ -1 := by rw [hA]; exact fr_n1 (by omega)
  have hO1 : fO p ≠ -1 := by rw [rO]; exact fr_n1 (by omega)
  obtain ⟨h, z, eH, h53, hhr, hnV, eKh, eNh, eZh, hz, hch⟩ := hb.1 p hpn hfo hA1 eG0
  have hS2 : rm ≤ 600 := by omega
  have hneV : ∀ s, V s → s ≠ h := fun s hs e => hnV (by rw [← e]; exact hs)
  obtain ⟨c', e', q', w', hc⟩ := ns_ex (s := h) (z := z) (ch := fun i => P (h * 10 + i)) hh.1 (fun i hi => by
    obtain ⟨c1, e1, k1, k2, _⟩ := hch i hi
    exact ⟨c1, k1, k2, fun w => absurd w (by omega)⟩)
  have hmx : vv_mx e' z ≤ 3 := vv_mx_le (fun i hi => by
    obtain ⟨c1, e1, k1, k2, k3, k4⟩ := hch i hi
    obtain ⟨n1, n2, n3, n4, n5, n6, _⟩ := hc i hi
    have hc6 := (hh.1 c1 k2).1
    have : c1 = c' i := (nI_eq (by omega) (by omega)).mp (k1.symm.trans n1)
    rw [← this, k3] at n5
    have := (nI_eq (by omega) (by omega)).mp n5
    omega)
  refine xs_inner (by omega) x3 (Or.inr (Or.inl rfl)) x2 (by omega) hU (by omega) (xh_end0' x2 (by omega) hU (by omega) r0 eP hq eO (by omega) rfl (fun Q hQ' => xe_all (V := V) rfl (by omega) g1 (by omega) eH (by omega) eKh eNh eZh hz hc hneV (fun D' Im' W' hns => hQ' _ _ _ _ _ _ _ _ _ _ _ _ _ _ _ _ _ _ _ _ _ _ _ _ _ _ _ _ _ _ _ _ _ _ _ _ _ _ _ ?_)))
  have hgr : gr_X V (fun t => V t ∨ t = h) h K N Z D Im W P K N Z D' Im' W' P := ⟨hnV, h53, fun _ w => Or.inl w, fun _ w => w, ns_ox hh.1 hns hneV (by omega) hc hz hmx (Or.inl ⟨rfl, rfl, rfl⟩), hns.1⟩
  refine lp_K H (Nat.le_refl _) (rm_give (sl := h) hX0 hv ha hM rfl (Or.inl hfo) hgr (fun _ => hhr) (fun f hf hne o16 hA' hG' e => hb.2 f p hf hpn hne o16 hA' hG' hfo hA1 eG0 (e.trans eH.symm)) ⟨h, rfl, Or.inr rfl⟩ (fun mk0 pd0 mk pd nd yhe yvm yin yfi yde yic ys yk yn yp yf iK iN o0 l0 kS0 d0 pl0 yma ypo yap yas yto yan yco yti yna yac yen o l kS d pl yo yi yw ya y1 y2 yK yW yL yq nm nv no yA lf rt hY Q hQ => ?_))
  obtain ⟨⟨b1, b2, b3, b4, b5, b6, b7, b8, b9, b10, b11⟩, hfl, hen, hhy, hby, hfr, han, hq0, hq1, hz1, hz2, hz3⟩ := hY
  obtain ⟨t1, t2, t3, t4, t5⟩ := hfr p hpn
  obtain ⟨ey, eq⟩ := hq1 (by decide)
  rw [List.length_cons] at ey
  have eyo := t1.symm.trans eP
  rw [hfo] at t5
  have et := hz2 rfl
  subst et
  obtain ⟨a1, a2⟩ := t5.2.2.2.1 (by omega) (by omega)
  obtain ⟨b', w, u1, u2, u3, u4, u5, u6, u7⟩ := hby.1 p hpn hfo hA1
  obtain ⟨u8, u9⟩ := u7 eG0
  rw [eH, nI_clamp (by omega)] at u8 u9
  have hwz : z = w := (nI_eq (by omega) (by omega)).mp (eZh.symm.trans u8)
  subst hwz
  have hp8 := hhy.1.2.1
  have hm4 := hhy.2.2.1
  have hdi : ∀ i, i < z → yd_is d (pl (b' + i)) (e' i) := fun i hi => by
    obtain ⟨n1, n2, n3, n4, n5, n6, _⟩ := hc i hi
    exact yd_of_R hh.1 hhy.1 (u9 i hi) n1 n2 n5 n6
  have hgy : gr_Y mk pd (mk + 1) pd o l kS d (upd o mk (nI b')) (upd l mk (nI z)) (upd kS mk 0) (upd d mk (nI (vv_mx e' z + 1))) pl pl := ⟨by omega, Nat.le_refl _, cy_add hhy.1 (by omega) (Nat.le_refl _) (by omega) hp8 hz (fun _ _ => rfl) (fun i hi => by
    obtain ⟨_, _, _, _, hvy, _⟩ := u9 i hi
    exact hvy), fun j hj => ⟨pk_un (by omega), pk_un (by omega), pk_un (by omega), pk_un (by omega)⟩, fun _ _ => rfl⟩
  have hRR := gr_R hh.1 hhy.1 hgr hgy
  obtain ⟨_, n1, n2, n3, n4, n5, n6, n7⟩ := hns
  refine yg_all1 (by omega) eyo hq (my_k 20 rfl (by omega) (hfl q hqn) eO) ey rfl u1 (by omega) u2 u3 b1 (by omega) hdi ?_
  subst b2
  refine hQ (mk + 1) pd (upd o mk (nI b')) (upd l mk (nI z)) (upd kS mk 0) (upd d mk (nI (vv_mx e' z + 1))) pl ya yW yK yL (yy_t 4 (nI mk)) hgy (Or.inr ⟨hfo, rfl⟩) hhy.2.2.2.2.1 ?_ (fun f hf => ⟨rfl, rfl, rfl, rfl⟩) ?_ ?_
  · refine vv_R_nest (a := b') (b := z) (by omega) (Or.inr rfl) (Or.inl rfl) (by rw [eKh]; rfl) (by omega) (by omega) hz (by omega) pk_us pk_us (by rw [pk_us]; exact eNh) eZh (by rw [pk_us]; exact n4) (fun i hi => hRR _ _ (u9 i hi))
  · refine ⟨fun f hf' o16 hA' => ?_, hby.2⟩
    obtain ⟨b2, w2, v1, v2, v3, v4, v5, v6, v7⟩ := hby.1 f hf' o16 hA'
    have hbb : b' = b2 ∧ z = w2 ∨ b2 + 10 ≤ b' ∨ b' + 10 ≤ b2 := by
      by_cases ef : f = p
      · subst ef
        have h1 : b' + 1 = b2 + 1 := (nI_eq (by omega) (by omega)).mp (u1.symm.trans v1)
        have h2 : z = w2 := (nI_eq (by omega) (by omega)).mp (u2.symm.trans v2)
        exact Or.inl ⟨by omega, h2⟩
      · exact Or.inr (hby.2 f p b2 b' hf' hpn ef o16 hA' hfo hA1 v1 u1 (by omega) (by omega))
    refine ⟨b2, w2, v1, v2, v3, v4, v5, fun j x y hj hx hy hy10 hxy => ?_, fun hG' => ?_⟩
    · by_cases ej : j = mk
      · rw [ej, pk_us] at hx hy
        have h1 : b' = x := (nI_eq (by omega) (by omega)).mp hx
        have h2 : z = y := (nI_eq (by omega) (by omega)).mp hy
        omega
      · rw [pk_un ej] at hx hy
        exact v6 j x y (by omega) hx hy hy10 hxy
    · have ef : f ≠ p := fun ef => by
        rw [ef, pk_us] at hG'
        exact absurd hG' (by decide)
      rw [pk_un ef] at hG'
      obtain ⟨v8, v9⟩ := v7 hG'
      exact ⟨v8, fun i hi => hRR _ _ (v9 i hi)⟩
  · rw [hfo]
    exact fr_S_16 t5 hO1 (Or.inr rfl)
