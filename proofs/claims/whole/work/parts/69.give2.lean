/-! ===== 'all' or a fold gives what it has: for all states of Y ===== -/
theorem rm_give {p : Nat} {pa' : List Nat} {T : List Nat → Option vv_L} {nf bo np : Nat} {K0 N0 Z0 D0 I0 W0 P0 : Nat → Int32} {xst xow xin xpa xfi xfr xno xsi xan xkn xen xco xrm xac : Int32} {K N Z D Im W P vS pO pX pI fS fP fI fU fR fO fA fH fG fN aS qL qR qP : Nat → Int32} {st : Nat} {V al : Nat → Prop} {g : Nat} {n c rm a : Nat}
    (hX : md_X V al g (p :: pa') bo np n c rm a st xfr xno xsi xen xco xrm xac K N Z D Im W P K0 N0 Z0 D0 I0 W0 P0 pO pX fP fU fR fO fA fH fG) (hv : mv_X V n xsi xan pO fP fI fH fN) (ha : ma_X V a aS)
    (hM : ∀ (mk0 pd0 : Nat) (v0 : SY), kn_F T np nf pO pX pI fS mk0 pd0 v0 → rm_M V (p :: pa') g np n c rm a st xsi xan K N Z D W P pO pX pI fP fI fO fA fH fG fN aS mk0 pd0 v0) (es : xsi = 2) (ho : fr_o pO fP p = 16 ∨ fr_o pO fP p = 35) {sl : Nat} {xan' : Int32} {V' : Nat → Prop} {K' N' Z' D' Im' W' P' : Nat → Int32}
    (hgr : gr_X V V' sl K N Z D Im W P K' N' Z' D' Im' W' P') (hhs : V' sl → sl < 53 + rm) (hbs : ∀ f, f < n → f ≠ p → fr_o pO fP f = 16 → fA f ≠ -1 → fG f = 0 → fH f ≠ nI sl)
    (hxv : ∃ s, xan' = nI s ∧ V' s)
    (hYw : ∀ (mk0 pd0 mk pd nd : Nat) (yhe yvm : Int32) (yin : Int64) (yfi yde yic : Int32) (ys : Nat → Int64) (yk yn yp yf iK iN : Nat → Int32) (o0 l0 kS0 d0 : Nat → Int32) (pl0 : Nat → Int64) (yma ypo yap yas yto : Int32) (yan : Int64) (yco yti yna yac yen : Int32) (o l kS d : Nat → Int32) (pl : Nat → Int64) (yo : Nat → Int32) (yi : Nat → Int64) (yw ya y1 y2 : Nat → Int32) (yK : Nat → Int64) (yW : Nat → Int32) (yL : Nat → Int64) (yq nm : Nat → Int32) (nv : Nat → Int64) (no : Nat → Int32) (yA lf rt : Nat → Int64), md_Y V (p :: pa') g np n c rm a st mk pd nd mk0 pd0 xsi xan K N Z D W P pO pX pI fP fI fO fA fH fG fN aS yma ypo yap yas yto yan yco yti yna yac yen o l kS d pl yk yn yp yo yi yw ya y1 y2 yK yW yL yq nm nv no yA o0 l0 kS0 d0 pl0 → ∀ Q : SY → Prop, (∀ (mk' pd' : Nat) (o' l' kS' d' : Nat → Int32) (pl' : Nat → Int64) (ya' yW' : Nat → Int32) (yK' yL' : Nat → Int64) (w : Int64), gr_Y mk pd mk' pd' o l kS d o' l' kS' d' pl pl' → (mk' = mk ∨ (fr_o pO fP p = 16 ∧ mk' = mk + 1)) → pd' ≤ 400 + 10 * rm →
      vv_R V' K' N' Z' D' P' mk' o' l' kS' d' pl' xan' w → (∀ f, f ≠ p → ya' f = ya f ∧ yW' f = yW f ∧ yK' f = yK f ∧ yL' f = yL f) →
      md_by (vv_R V' K' N' Z' D' P' mk' o' l' kS' d' pl') n mk' pd' pd0 pO fP fA fH (upd fG p 1) Z' P' o' l' ya' yW' pl' →
      fr_S (vv_R V' K' N' Z' D' P' mk' o' l' kS' d' pl') (md_ea Z') (md_dp Z' W' P') (fr_o pO fP p) (pX (fP p).toNatClampNeg) (st + 1) (fI p) 1 (fA p) (fO p) (fH p) (ya' p) (y1 p) (y2 p) (yW' p) (yK' p) (yL' p) →
      Q ((nI mk'), (nI pd'), yhe, yvm, yin, yfi, yde, yap, (nI pa'.length), 0, w, yco, yti, yna, yac, yen, yic, o', l', kS', d', pl', ys, yk, yn, yp, yf, yo, yi, yw, ya', y1, y2, yK', yW', yL', yq, nm, nv, no, yA, lf, rt, iK, iN)) → wpY_goOn Q (yma, ypo, yhe, yvm, yin, yfi, yde, yap, yas, yto, yan, yco, yti, yna, yac, yen, yic, o, l, kS, d, pl, ys, yk, yn, yp, yf, yo, yi, yw, ya, y1, y2, yK, yW, yL, yq, nm, nv, no, yA, lf, rt, iK, iN) (nI p)) :
    rm_I T nf bo np K0 N0 Z0 D0 I0 W0 P0 (st + 1) (xst, xow, xin, xpa, xfi, xfr, (nI p), 1, xan', xkn, xen, xco, xrm, xac, K', N', Z', D', Im', W', P', vS, pO, pX, pI, fS, fP, fI, fU, fR, fO, fA, fH, (upd fG p 1), fN, aS, qL, qR, qP) := by
  subst es
  obtain ⟨hg, hn, hst, hlen, _⟩ := mx_f hX
  obtain ⟨⟨x1, x2, x3, x4, x5, x6, x7, x8, x9, x10⟩, hs, hh, hb, hf, hr, hG, hpot⟩ := hX
  have hpc := fr_pa_lt _ _ hf.2.2.1 p List.mem_cons_self
  have hpn : p < n := by omega
  rw [List.length_cons] at hlen hpot
  have hAp : fA p = nI g := hf.2.2.1.2.2.1
  have hA1 : fA p ≠ -1 := by rw [hAp]; exact fr_n1 (by omega)
  have hG0 : fG p = 0 := hf.2.2.1.2.2.2.1.1 ho
  have hfx : fr_X pO pX np n fP fU fR fO fA (upd fG p 1) (fun f => al f ∧ f ≠ g) (p :: pa') True := by
    refine fr_X_rest (fr_X_G (fr_X_kill hf) 1) ⟨fun w => ?_, fun a b _ => absurd ho (fun z => z.elim a b)⟩
    have := w.2.2
    rw [pk_us] at this
    exact absurd this (by decide)
  have hb1 : md_bx V rm n pO fP fA fH (upd fG p 1) K N Z D P := by
    obtain ⟨q1, q2⟩ := hb
    have ne : ∀ f, upd fG p 1 f = 0 → f ≠ p ∧ fG f = 0 := fun f hz => by
      have e : f ≠ p := fun e => by
        rw [e, pk_us] at hz
        exact absurd hz (by decide)
      rw [pk_un e] at hz
      exact ⟨e, hz⟩
    exact ⟨fun f hf o16 hA hG => q1 f hf o16 hA (ne f hG).2, fun f f' hf hf' hne o1 a1 g1 o2 a2 g2 => q2 f f' hf hf' hne o1 a1 (ne f g1).2 o2 a2 (ne f' g2).2⟩
  have hbx := gr_bx (rm' := rm) hgr hb1 (Nat.le_refl _) (fun f hf' o16 hA' hG' => by
    have e : f ≠ p := fun e => by
      rw [e, pk_us] at hG'
      exact absurd hG' (by decide)
    rw [pk_un e] at hG'
    exact hbs f hf' e o16 hA' hG')
  refine ⟨V', _, p, pa', n, c, rm, a, ⟨⟨x1, rfl, x3, x4, x5, x6, x7, x8, x9, x10⟩, Or.inr (Or.inl rfl), gr_hx hgr hh (Nat.le_refl _) hhs, hbx, fr_X_m hfx (fun _ => trivial), ?_, fun f hf' => ?_, ?_⟩, ⟨fun _ => hxv, fun f hf' => ?_⟩, ma_up ha hgr.2.2.1, fun mk0 pd0 v0 hF => ?_⟩
  · have := md_w2_u (fA := fA) (fG := fG) (y := 1) hpn (fun w => absurd w (by decide))
    omega
  · by_cases e : f = p
    · subst e
      exact ⟨1, pk_us, by omega⟩
    · obtain ⟨gv', e1, e2⟩ := hG f hf'
      exact ⟨gv', (pk_un e).trans e1, by omega⟩
  · have q := ct_u (w := md_w1 fO fA fG) (w' := md_w1 fO fA (upd fG p 1)) hpn (fun f _ hne => by unfold md_w1; rw [pk_un hne])
    have q2 : md_w1 fO fA fG p = md_w1 fO fA (upd fG p 1) p + 1 := by
      unfold md_w1
      rw [pk_us, if_pos hG0, if_neg (show ¬ (1 : Int32) = 0 by decide)]
      omega
    rw [md_ph_2] at hpot
    rw [md_ph_1]
    omega
  · obtain ⟨q1, q2, q3⟩ := hv.2 f hf'
    have up : ∀ y : Int32, (∃ s, y = nI s ∧ V s) → ∃ s, y = nI s ∧ V' s := fun y hy => by
      obtain ⟨s, s1, s2⟩ := hy
      exact ⟨s, s1, hgr.2.2.1 s s2⟩
    exact ⟨up _ q1, fun z => up _ (q2 z), fun x hx => up _ (q3 x hx)⟩
  · have hm := hM mk0 pd0 v0 hF
    obtain ⟨yma0, ypo0, yhe0, yvm0, yin0, yfi0, yde0, yap0, yas0, yto0, yan0, yco0, yti0, yna0, yac0, yen0, yic0, o0, l0, kS0, d0, pl0, ys0, yk0, yn0, yp0, yf0, yo0, yi0, yw0, ya0, y10, y20, yK0, yW0, yL0, yq0, nm0, nv0, no0, yA0, lf0, rt0, iK0, iN0⟩ := v0
    refine ⟨fun w => absurd w (by decide), fun _ post hp => ?_⟩
    obtain ⟨m, hp⟩ := hp
    refine hm.2 (by decide) post ⟨m + 1, fun mk pd nd yma ypo yap yas yto yan yco yti yna yac yen o l kS d pl yo yi yw ya y1 y2 yK yW yL yq nm nv no yA lf rt hY => ?_⟩
    have hY0 := hY
    obtain ⟨⟨b1, b2, b3, b4, b5, b6, b7, b8, b9, b10, b11⟩, hfl, hen, hhy, hby, hfr, han, hq0, hq1, hz1, hz2, hz3⟩ := hY
    obtain ⟨ea, eq⟩ := hq1 (by decide)
    rw [List.length_cons] at ea
    refine ct_T b9 b5 ea (by omega) eq.1 (hYw mk0 pd0 mk pd nd yhe0 yvm0 yin0 yfi0 yde0 yic0 ys0 yk0 yn0 yp0 yf0 iK0 iN0 o0 l0 kS0 d0 pl0 yma ypo yap yas yto yan yco yti yna yac yen o l kS d pl yo yi yw ya y1 y2 yK yW yL yq nm nv no yA lf rt hY0 _ (fun mk' pd' o' l' kS' d' pl' ya' yW' yK' yL' w u1 u2 u3 u4 u5 u6 u7 => ?_))
    have hRR := gr_R hh.1 hhy.1 hgr u1
    have hw3 : mk' + vv_sm (md_w3 pO fP fA (upd fG p 1)) n ≤ 40 + rm := by
      have q := ct_u (w := md_w3 pO fP fA fG) (w' := md_w3 pO fP fA (upd fG p 1)) hpn (fun f _ hne => by unfold md_w3; rw [pk_un hne])
      have q2 : md_w3 pO fP fA (upd fG p 1) p = 0 := by
        unfold md_w3
        rw [pk_us, if_neg (fun z => absurd z.2.2 (by decide))]
      have q3 := b11.2
      rcases u2 with z | ⟨z, z2⟩
      · omega
      · have q4 : md_w3 pO fP fA fG p = 1 := by
          unfold md_w3
          rw [if_pos ⟨z, hA1, hG0⟩]
        omega
    refine ct_told ea (by omega) rfl (hp mk' pd' nd (nI mk') (nI pd') yap (nI pa'.length) 0 w yco yti yna yac yen o' l' kS' d' pl' yo yi yw ya' y1 y2 yK' yW' yL' yq nm nv no yA lf rt ⟨⟨rfl, rfl, b3, b4, b5, b6, b7, b8, b9, b10, b11.1, hw3⟩, hfl, hen, gr_hy u1 hhy (by omega) u3, u6, fun f hf' => ?_, fun i hi => hRR _ _ (han i hi), fun w => absurd w (by decide), fun _ => ⟨rfl, eq.2⟩, fun _ => ⟨rfl, u4⟩, fun w => absurd w (by decide), fun w => absurd w (by decide)⟩)
    obtain ⟨t1, t2, t3, t4, t5⟩ := hfr f hf'
    refine ⟨t1, hRR _ _ t2, t3, fun x hx => (t4 x hx).elim (fun z => Or.inl (hRR _ _ z)) Or.inr, ?_⟩
    by_cases e : f = p
    · subst e
      rw [pk_us]
      exact u7
    · rw [pk_un e, (u5 f e).1, (u5 f e).2.1, (u5 f e).2.2.1, (u5 f e).2.2.2]
      exact gr_S hh.1 hhy.1 hgr u1 (by omega) t2 t5
