/-! ===== an answer is taken in, and the same filter within is asked again: for all states of Y ===== -/
theorem rm_turn {p : Nat} {pa' : List Nat} {T : List Nat → Option vv_L} {nf bo np : Nat} {K0 N0 Z0 D0 I0 W0 P0 : Nat → Int32} {xst xow xin xpa xfi xfr xno xsi xan xkn xen xco xrm xac : Int32} {K N Z D Im W P vS pO pX pI fS fP fI fU fR fO fA fH fG fN aS qL qR qP : Nat → Int32} {st : Nat} {V al : Nat → Prop} {g : Nat} {n c rm a : Nat}
    (hX : md_X V al g (p :: pa') bo np n c rm a st xfr xno xsi xen xco xrm xac K N Z D Im W P K0 N0 Z0 D0 I0 W0 P0 pO pX fP fU fR fO fA fH fG) (hv : mv_X V n xsi xan pO fP fI fH fN) (ha : ma_X V a aS)
    (hM : ∀ (mk0 pd0 : Nat) (v0 : SY), kn_F T np nf pO pX pI fS mk0 pd0 v0 → rm_M V (p :: pa') g np n c rm a st xsi xan K N Z D W P pO pX pI fP fI fO fA fH fG fN aS mk0 pd0 v0) (es : xsi = 1) {k sl : Nat} {xan' h' : Int32} {K' N' Z' D' Im' W' P' : Nat → Int32} (hk : 1 ≤ k) (hk2 : k ≤ 2)
    (hgr : gr_X V V sl K N Z D Im W P K' N' Z' D' Im' W' P') (hbx : md_bx V rm n pO fP fA (upd fH p h') fG K' N' Z' D' P') (hxh : fr_o pO fP p ≠ 16 → ∃ s, h' = nI s ∧ V s)
    (hYw : ∀ (mk0 pd0 mk pd nd : Nat) (yhe yvm : Int32) (yin : Int64) (yfi yde yic : Int32) (ys : Nat → Int64) (yk yn yp yf iK iN : Nat → Int32) (o0 l0 kS0 d0 : Nat → Int32) (pl0 : Nat → Int64) (yma ypo yap yas yto : Int32) (yan : Int64) (yco yti yna yac yen : Int32) (o l kS d : Nat → Int32) (pl : Nat → Int64) (yo : Nat → Int32) (yi : Nat → Int64) (yw ya y1 y2 : Nat → Int32) (yK : Nat → Int64) (yW : Nat → Int32) (yL : Nat → Int64) (yq nm : Nat → Int32) (nv : Nat → Int64) (no : Nat → Int32) (yA lf rt : Nat → Int64), md_Y V (p :: pa') g np n c rm a st mk pd nd mk0 pd0 xsi xan K N Z D W P pO pX pI fP fI fO fA fH fG fN aS yma ypo yap yas yto yan yco yti yna yac yen o l kS d pl yk yn yp yo yi yw ya y1 y2 yK yW yL yq nm nv no yA o0 l0 kS0 d0 pl0 → ∀ Q : SY → Prop, (∀ (yto' : Int32) (w : Int64) (pl' : Nat → Int64) (yW' : Nat → Int32) (yK' yL' : Nat → Int64), (∀ s w, vv_R V K N Z D P mk o l kS d pl s w → vv_R V K' N' Z' D' P' mk o l kS d pl' s w) → vv_cy mk pd o l pl' → (∀ i, i < pd0 → pl' i = pl i) →
      md_by (vv_R V K' N' Z' D' P' mk o l kS d pl') n mk pd pd0 pO fP fA (upd fH p h') fG Z' P' o l ya yW' pl' → (∀ f, f ≠ p → yW' f = yW f ∧ yK' f = yK f ∧ yL' f = yL f) →
      fr_S (vv_R V K' N' Z' D' P' mk o l kS d pl') (md_ea Z') (md_dp Z' W' P') (fr_o pO fP p) (pX (fP p).toNatClampNeg) (st + k) (fI p) (fG p) (fA p) (fO p) h' (ya p) (y1 p) (y2 p) (yW' p) (yK' p) (yL' p) →
      Q (yma, ypo, yhe, yvm, yin, yfi, yde, yap, (nI (pa'.length + 2)), yto', w, yco, yti, yna, yac, yen, yic, o, l, kS, d, pl', ys, yk, yn, yp, yf, yo, yi, yw, ya, y1, y2, yK', yW', yL', (upd yq (pa'.length + 1) (nI g)), nm, nv, no, yA, lf, rt, iK, iN)) → wpY_goOn Q (yma, ypo, yhe, yvm, yin, yfi, yde, yap, yas, yto, yan, yco, yti, yna, yac, yen, yic, o, l, kS, d, pl, ys, yk, yn, yp, yf, yo, yi, yw, ya, y1, y2, yK, yW, yL, yq, nm, nv, no, yA, lf, rt, iK, iN) (nI p)) :
    rm_I T nf bo np K0 N0 Z0 D0 I0 W0 P0 (st + k) (xst, xow, xin, xpa, xfi, xfr, (nI g), 0, xan', xkn, xen, xco, xrm, xac, K', N', Z', D', Im', W', P', vS, pO, pX, pI, fS, fP, fI, fU, fR, fO, fA, (upd fH p h'), fG, fN, aS, qL, qR, qP) := by
  subst es
  obtain ⟨hg, hn, hst, hlen, _⟩ := mx_f hX
  obtain ⟨⟨x1, x2, x3, x4, x5, x6, x7, x8, x9, x10⟩, hs, hh, hb, hf, hr, hG, hpot⟩ := hX
  rw [List.length_cons] at hlen
  refine ⟨V, al, g, p :: pa', n, c, rm, a, ⟨⟨x1, rfl, x3, x4, x5, x6, x7, x8, x9, x10⟩, Or.inl rfl, gr_hx hgr hh (Nat.le_refl _) (fun w => absurd w hgr.1), hbx, fr_X_m hf (fun _ => Or.inr rfl), hr, fun f hf' => ?_, ?_⟩, ⟨fun w => absurd w (by decide), fun f hf' => ?_⟩, ha, fun mk0 pd0 v0 hF => ?_⟩
  · obtain ⟨gv', e1, e2⟩ := hG f hf'
    exact ⟨gv', e1, by omega⟩
  · rw [md_ph_1] at hpot
    rw [md_ph_0]
    omega
  · obtain ⟨q1, q2, q3⟩ := hv.2 f hf'
    refine ⟨q1, fun z => ?_, q3⟩
    by_cases e : f = p
    · subst e
      rw [pk_us]
      exact hxh z
    · rw [pk_un e]
      exact q2 z
  · have hm := hM mk0 pd0 v0 hF
    obtain ⟨yma0, ypo0, yhe0, yvm0, yin0, yfi0, yde0, yap0, yas0, yto0, yan0, yco0, yti0, yna0, yac0, yen0, yic0, o0, l0, kS0, d0, pl0, ys0, yk0, yn0, yp0, yf0, yo0, yi0, yw0, ya0, y10, y20, yK0, yW0, yL0, yq0, nm0, nv0, no0, yA0, lf0, rt0, iK0, iN0⟩ := v0
    refine ⟨fun _ post hp => ?_, fun w => absurd rfl w⟩
    obtain ⟨m, hp⟩ := hp
    refine hm.2 (by decide) post ⟨m + 1, fun mk pd nd yma ypo yap yas yto yan yco yti yna yac yen o l kS d pl yo yi yw ya y1 y2 yK yW yL yq nm nv no yA lf rt hY => ?_⟩
    have hY0 := hY
    obtain ⟨⟨b1, b2, b3, b4, b5, b6, b7, b8, b9, b10, b11⟩, hfl, hen, hhy, hby, hfr, han, hq0, hq1, hz1, hz2, hz3⟩ := hY
    obtain ⟨ea, eq⟩ := hq1 (by decide)
    rw [List.length_cons] at ea
    refine ct_T b9 b5 ea (by omega) eq.1 (hYw mk0 pd0 mk pd nd yhe0 yvm0 yin0 yfi0 yde0 yic0 ys0 yk0 yn0 yp0 yf0 iK0 iN0 o0 l0 kS0 d0 pl0 yma ypo yap yas yto yan yco yti yna yac yen o l kS d pl yo yi yw ya y1 y2 yK yW yL yq nm nv no yA lf rt hY0 _ (fun yto' w pl' yW' yK' yL' u1 u2 u3 u4 u5 u6 => ?_))
    obtain ⟨c1, c2, c3, c4, c5, c6, c7⟩ := hhy
    refine ct_asked ea (by omega) rfl b5 (hp mk pd nd yma ypo yap (nI (pa'.length + 2)) yto' w yco yti yna yac yen o l kS d pl' yo yi yw ya y1 y2 yK' yW' yL' (upd yq (pa'.length + 1) (nI g)) nm nv no yA lf rt ⟨⟨b1, b2, b3, b4, b5, b6, b7, b8, b9, b10, b11⟩, hfl, hen, ⟨u2, c2, c3, c4, c5, c6, fun i hi => (u3 i hi).trans (c7 i hi)⟩, u4, fun f hf' => ?_, fun i hi => u1 _ _ (han i hi), fun _ => ⟨rfl, pk_us, md_qu eq (by rw [List.length_cons]; exact Nat.le_refl _)⟩, fun w => absurd rfl w, fun w => absurd w (by decide), fun w => absurd w (by decide), fun w => absurd w (by decide)⟩)
    obtain ⟨t1, t2, t3, t4, t5⟩ := hfr f hf'
    refine ⟨t1, u1 _ _ t2, t3, fun x hx => (t4 x hx).elim (fun z => Or.inl (u1 _ _ z)) Or.inr, ?_⟩
    by_cases e : f = p
    · subst e
      rw [pk_us]
      exact u6
    · rw [pk_un e, (u5 f e).1, (u5 f e).2.1, (u5 f e).2.2]
      exact fr_S_up u1 (fun n w => gr_ea hgr t2 n w) (fun n m w => gr_dp hh.1 hgr t2 n m w) (by omega) t5
