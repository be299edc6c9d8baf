/-! ===== a value is made of the answers: for all states of Y ===== -/
theorem rm_make {p : Nat} {pa' : List Nat} {T : List Nat → Option vv_L} {nf bo np : Nat} {K0 N0 Z0 D0 I0 W0 P0 : Nat → Int32} {xst xow xin xpa xfi xfr xno xsi xan xkn xen xco xrm xac : Int32} {K N Z D Im W P vS pO pX pI fS fP fI fU fR fO fA fH fG fN aS qL qR qP : Nat → Int32} {st : Nat} {V al : Nat → Prop} {g : Nat} {n c rm a : Nat}
    (hX : md_X V al g (p :: pa') bo np n c rm a st xfr xno xsi xen xco xrm xac K N Z D Im W P K0 N0 Z0 D0 I0 W0 P0 pO pX fP fU fR fO fA fH fG) (hv : mv_X V n xsi xan pO fP fI fH fN) (ha : ma_X V a aS)
    (hM : ∀ (mk0 pd0 : Nat) (v0 : SY), kn_F T np nf pO pX pI fS mk0 pd0 v0 → rm_M V (p :: pa') g np n c rm a st xsi xan K N Z D W P pO pX pI fP fI fO fA fH fG fN aS mk0 pd0 v0) (es : xsi = 1) (n16 : fr_o pO fP p ≠ 16) (n35 : fr_o pO fP p ≠ 35) {k rm' sl : Nat} {s' xan' : Int32} {V' : Nat → Prop} {K' N' Z' D' Im' W' P' qL' qR' qP' : Nat → Int32} (hk : 1 ≤ k) (hk2 : k ≤ 2) (hs' : s' = 1 ∨ s' = 2 ∨ s' = 3) (hc : c < 600)
    (hrm : rm' = rm ∨ rm' = rm + 1)
    (hgr : gr_X V V' sl K N Z D Im W P K' N' Z' D' Im' W' P') (hhs : V' sl → sl < 53 + rm') (hhs2 : 53 + rm ≤ sl) (hsl : sl < 2 ^ 31)
    (hxv : s' = 1 → ∃ s, xan' = nI s ∧ V' s)
    (hYw : ∀ (mk0 pd0 mk pd nd : Nat) (yhe yvm : Int32) (yin : Int64) (yfi yde yic : Int32) (ys : Nat → Int64) (yk yn yp yf iK iN : Nat → Int32) (o0 l0 kS0 d0 : Nat → Int32) (pl0 : Nat → Int64) (yma ypo yap yas yto : Int32) (yan : Int64) (yco yti yna yac yen : Int32) (o l kS d : Nat → Int32) (pl : Nat → Int64) (yo : Nat → Int32) (yi : Nat → Int64) (yw ya y1 y2 : Nat → Int32) (yK : Nat → Int64) (yW : Nat → Int32) (yL : Nat → Int64) (yq nm : Nat → Int32) (nv : Nat → Int64) (no : Nat → Int32) (yA lf rt : Nat → Int64), md_Y V (p :: pa') g np n c rm a st mk pd nd mk0 pd0 xsi xan K N Z D W P pO pX pI fP fI fO fA fH fG fN aS yma ypo yap yas yto yan yco yti yna yac yen o l kS d pl yk yn yp yo yi yw ya y1 y2 yK yW yL yq nm nv no yA o0 l0 kS0 d0 pl0 → ∀ Q : SY → Prop, (∀ (mk' pd' : Nat) (o' l' kS' d' : Nat → Int32) (pl' lf' rt' : Nat → Int64) (w : Int64), gr_Y mk pd mk' pd' o l kS d o' l' kS' d' pl pl' → mk' + rm ≤ mk + rm' → pd' ≤ 400 + 10 * rm' → (∀ j x, mk ≤ j → j < mk' → o' j = nI x → x < 2 ^ 31 → pd ≤ x) →
      (s' = 1 → vv_R V' K' N' Z' D' P' mk' o' l' kS' d' pl' xan' w) →
      Q ((nI mk'), (nI pd'), yhe, yvm, yin, yfi, yde, yap, (nI pa'.length), (s' - 1), w, (nI (c + 1)), yti, yna, yac, yen, yic, o', l', kS', d', pl', ys, yk, yn, yp, yf, yo, yi, yw, ya, y1, y2, yK, yW, yL, yq, nm, nv, no, yA, lf', rt', iK, iN)) → wpY_goOn Q (yma, ypo, yhe, yvm, yin, yfi, yde, yap, yas, yto, yan, yco, yti, yna, yac, yen, yic, o, l, kS, d, pl, ys, yk, yn, yp, yf, yo, yi, yw, ya, y1, y2, yK, yW, yL, yq, nm, nv, no, yA, lf, rt, iK, iN) (nI p)) :
    rm_I T nf bo np K0 N0 Z0 D0 I0 W0 P0 (st + k) (xst, xow, xin, xpa, xfi, xfr, (nI p), s', xan', xkn, xen, (nI (c + 1)), (nI rm'), xac, K', N', Z', D', Im', W', P', vS, pO, pX, pI, fS, fP, fI, fU, fR, fO, fA, fH, fG, fN, aS, qL', qR', qP') := by
  subst es
  obtain ⟨hg, hn, hst, hlen, _⟩ := mx_f hX
  obtain ⟨⟨x1, x2, x3, x4, x5, x6, x7, x8, x9, x10⟩, hs, hh, hb, hf, hr, hG, hpot⟩ := hX
  have ns0 : ¬ s' = 0 := by rcases hs' with w | w | w <;> rw [w] <;> decide
  have hpc := fr_pa_lt _ _ hf.2.2.1 p List.mem_cons_self
  rw [List.length_cons] at hlen hpot
  have hal : al g := hf.2.2.2.1 g List.mem_cons_self
  have hAp : fA p = nI g := hf.2.2.1.2.2.1
  have hgl : g ∉ p :: pa' := fun w => by have := fr_pa_lt _ _ hf.2.2.1 g w; omega
  have hbH : ∀ f, f < n → fr_o pO fP f = 16 → fA f ≠ -1 → fG f = 0 → ∃ x, fH f = nI x ∧ x < 53 + rm := fun f hf' o16 hA' hG' => by
    obtain ⟨x, z, a1, a2, a3, _⟩ := hb.1 f hf' o16 hA' hG'
    exact ⟨x, a1, a3⟩
  have hS2 : rm ≤ 600 := by omega
  have hrr : rm ≤ rm' := by omega
  have hfx : fr_X pO pX np n fP fU fR fO fA fG al (p :: pa') True := by
    refine fr_X_rest (fr_X_pop (fr_X_m hf (fun _ => Or.inr rfl))) ⟨fun w => w.1.elim n16 n35, fun _ _ _ => ?_⟩
    rw [hAp, nI_clamp (by omega)]
    exact ⟨hal, hgl⟩
  have hbx := gr_bx (rm' := rm') hgr hb hrr (fun f hf' o16 hA' hG' e => by
    obtain ⟨x, a1, a3⟩ := hbH f hf' o16 hA' hG'
    rw [a1] at e
    have := (nI_eq (by omega) hsl).mp e
    omega)
  refine ⟨V', al, p, pa', n, c + 1, rm', a, ⟨⟨x1, rfl, x3, rfl, rfl, x6, x7, by omega, by omega, x10⟩, Or.inr hs', gr_hx hgr hh hrr hhs, hbx, fr_X_m hfx (fun _ => trivial), by omega, fun f hf' => ?_, ?_⟩, ⟨hxv, fun f hf' => ?_⟩, ma_up ha hgr.2.2.1, fun mk0 pd0 v0 hF => ?_⟩
  · obtain ⟨gv', e1, e2⟩ := hG f hf'
    exact ⟨gv', e1, by omega⟩
  · rw [md_ph_1] at hpot
    rcases hs' with w | w | w
    · rw [w, md_ph_1]; omega
    · rw [w, md_ph_2]; omega
    · rw [w, md_ph_3]; omega
  · obtain ⟨q1, q2, q3⟩ := hv.2 f hf'
    have up : ∀ y : Int32, (∃ s, y = nI s ∧ V s) → ∃ s, y = nI s ∧ V' s := fun y hy => by
      obtain ⟨s, s1, s2⟩ := hy
      exact ⟨s, s1, hgr.2.2.1 s s2⟩
    exact ⟨up _ q1, fun z => up _ (q2 z), fun x hx => up _ (q3 x hx)⟩
  · have hm := hM mk0 pd0 v0 hF
    obtain ⟨yma0, ypo0, yhe0, yvm0, yin0, yfi0, yde0, yap0, yas0, yto0, yan0, yco0, yti0, yna0, yac0, yen0, yic0, o0, l0, kS0, d0, pl0, ys0, yk0, yn0, yp0, yf0, yo0, yi0, yw0, ya0, y10, y20, yK0, yW0, yL0, yq0, nm0, nv0, no0, yA0, lf0, rt0, iK0, iN0⟩ := v0
    refine ⟨fun w => absurd w ns0, fun _ post hp => ?_⟩
    obtain ⟨m, hp⟩ := hp
    refine hm.2 (by decide) post ⟨m + 1, fun mk pd nd yma ypo yap yas yto yan yco yti yna yac yen o l kS d pl yo yi yw ya y1 y2 yK yW yL yq nm nv no yA lf rt hY => ?_⟩
    have hY0 := hY
    obtain ⟨⟨b1, b2, b3, b4, b5, b6, b7, b8, b9, b10, b11⟩, hfl, hen, hhy, hby, hfr, han, hq0, hq1, hz1, hz2, hz3⟩ := hY
    obtain ⟨ea, eq⟩ := hq1 (by decide)
    rw [List.length_cons] at ea
    refine ct_T b9 b5 ea (by omega) eq.1 (hYw mk0 pd0 mk pd nd yhe0 yvm0 yin0 yfi0 yde0 yic0 ys0 yk0 yn0 yp0 yf0 iK0 iN0 o0 l0 kS0 d0 pl0 yma ypo yap yas yto yan yco yti yna yac yen o l kS d pl yo yi yw ya y1 y2 yK yW yL yq nm nv no yA lf rt hY0 _ (fun mk' pd' o' l' kS' d' pl' lf' rt' w u1 u2 u3 u4 u5 => ?_))
    have hRR := gr_R hh.1 hhy.1 hgr u1
    refine ct_told ea (by omega) rfl (hp mk' pd' nd (nI mk') (nI pd') yap (nI pa'.length) (s' - 1) w (nI (c + 1)) yti yna yac yen o' l' kS' d' pl' yo yi yw ya y1 y2 yK yW yL yq nm nv no yA lf' rt' ⟨⟨rfl, rfl, b3, rfl, b5, b6, b7, b8, b9, b10, b11.1, by have := b11.2; omega⟩, hfl, hen, gr_hy u1 hhy (by have := hhy.2.2.1; omega) u3, ?_, fun f hf' => ?_, fun i hi => hRR _ _ (han i hi), fun w => absurd w ns0, fun _ => ⟨rfl, eq.2⟩, fun e => ⟨by rw [e]; decide, u5 e⟩, fun e => by rw [e]; decide, fun e => by rw [e]; decide⟩)
    · exact gr_by hgr u1 hRR hby hhy.1 (fun f hf' o16 hA' hG' => by
        obtain ⟨x, a1, a3⟩ := hbH f hf' o16 hA' hG'
        exact ⟨x, a1, by omega, by omega⟩) u4
    · obtain ⟨t1, t2, t3, t4, t5⟩ := hfr f hf'
      exact ⟨t1, hRR _ _ t2, t3, fun x hx => (t4 x hx).elim (fun z => Or.inl (hRR _ _ z)) Or.inr, gr_S hh.1 hhy.1 hgr u1 (by omega) t2 t5⟩
