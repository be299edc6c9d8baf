/-! ===== a leaf, asked: for all states of Y ===== -/
theorem rm_leaf {T : List Nat → Option vv_L} {nf bo np : Nat} {K0 N0 Z0 D0 I0 W0 P0 : Nat → Int32} {xst xow xin xpa xfi xfr xno xsi xan xkn xen xco xrm xac : Int32} {K N Z D Im W P vS pO pX pI fS fP fI fU fR fO fA fH fG fN aS qL qR qP : Nat → Int32} {st : Nat} {V al : Nat → Prop} {g : Nat} {pa : List Nat} {n c rm a : Nat}
    (hX : md_X V al g pa bo np n c rm a st xfr xno xsi xen xco xrm xac K N Z D Im W P K0 N0 Z0 D0 I0 W0 P0 pO pX fP fU fR fO fA fH fG) (hv : mv_X V n xsi xan pO fP fI fH fN) (ha : ma_X V a aS)
    (hM : ∀ (mk0 pd0 : Nat) (v0 : SY), kn_F T np nf pO pX pI fS mk0 pd0 v0 → rm_M V pa g np n c rm a st xsi xan K N Z D W P pO pX pI fP fI fO fA fH fG fN aS mk0 pd0 v0) (es : xsi = 0) {k gv c' rm' sl : Nat} {s' xan' : Int32} {V' : Nat → Prop} {K' N' Z' D' Im' W' P' : Nat → Int32} (hk : 1 ≤ k) (hk2 : k ≤ 2) (hs' : s' = 1 ∨ s' = 2 ∨ s' = 3) (ho : fr_o pO fP g < 16) (hA : fA g = -1) (hgv : gv ≤ st + k) (hy0 : nI gv = 0 → fG g = 0)
    (hc' : c' = c ∨ c' = c + 1) (hc6 : c' ≤ 600) (hpay : s' = 1 → (fG g = 0 ∧ ¬ nI gv = 0 ∧ fO g = -1) ∨ c' = c + 1) (hrm : rm' = rm ∨ (rm' = rm + 1 ∧ fG g = 0 ∧ ¬ nI gv = 0))
    (hgr : gr_X V V' sl K N Z D Im W P K' N' Z' D' Im' W' P') (hhs : V' sl → sl < 53 + rm') (hhs2 : 53 + rm ≤ sl) (hsl : sl < 2 ^ 31)
    (hxv : s' = 1 → ∃ s, xan' = nI s ∧ V' s)
    (hYw : ∀ (mk0 pd0 mk pd nd : Nat) (yhe yvm : Int32) (yin : Int64) (yfi yde yic : Int32) (ys : Nat → Int64) (yk yn yp yf iK iN : Nat → Int32) (o0 l0 kS0 d0 : Nat → Int32) (pl0 : Nat → Int64) (yma ypo yap yas yto : Int32) (yan : Int64) (yco yti yna yac yen : Int32) (o l kS d : Nat → Int32) (pl : Nat → Int64) (yo : Nat → Int32) (yi : Nat → Int64) (yw ya y1 y2 : Nat → Int32) (yK : Nat → Int64) (yW : Nat → Int32) (yL : Nat → Int64) (yq nm : Nat → Int32) (nv : Nat → Int64) (no : Nat → Int32) (yA lf rt : Nat → Int64), md_Y V pa g np n c rm a st mk pd nd mk0 pd0 xsi xan K N Z D W P pO pX pI fP fI fO fA fH fG fN aS yma ypo yap yas yto yan yco yti yna yac yen o l kS d pl yk yn yp yo yi yw ya y1 y2 yK yW yL yq nm nv no yA o0 l0 kS0 d0 pl0 → ∀ Q : SY → Prop, (∀ (mk' pd' : Nat) (o' l' kS' d' : Nat → Int32) (pl' : Nat → Int64) (ya' yW' : Nat → Int32) (w : Int64), gr_Y mk pd mk' pd' o l kS d o' l' kS' d' pl pl' → mk' + rm ≤ mk + rm' → pd' ≤ 400 + 10 * rm' → (∀ j x, mk ≤ j → j < mk' → o' j = nI x → x < 2 ^ 31 → pd ≤ x) →
      (s' = 1 → vv_R V' K' N' Z' D' P' mk' o' l' kS' d' pl' xan' w) → (∀ f, f ≠ g → ya' f = ya f ∧ yW' f = yW f) →
      fr_S (vv_R V' K' N' Z' D' P' mk' o' l' kS' d' pl') (md_ea Z') (md_dp Z' W' P') (fr_o pO fP g) (pX (fP g).toNatClampNeg) (st + k) (fI g) (nI gv) (fA g) (fO g) (fH g) (ya' g) (y1 g) (y2 g) (yW' g) (yK g) (yL g) →
      Q ((nI mk'), (nI pd'), yhe, yvm, yin, yfi, yde, yap, (nI pa.length), (s' - 1), w, (nI c'), yti, yna, yac, yen, yic, o', l', kS', d', pl', ys, yk, yn, yp, yf, yo, yi, yw, ya', y1, y2, yK, yW', yL, yq, nm, nv, no, yA, lf, rt, iK, iN)) → wpY_start Q (yma, ypo, yhe, yvm, yin, yfi, yde, yap, yas, yto, yan, yco, yti, yna, yac, yen, yic, o, l, kS, d, pl, ys, yk, yn, yp, yf, yo, yi, yw, ya, y1, y2, yK, yW, yL, yq, nm, nv, no, yA, lf, rt, iK, iN) (nI g)) :
    rm_I T nf bo np K0 N0 Z0 D0 I0 W0 P0 (st + k) (xst, xow, xin, xpa, xfi, xfr, xno, s', xan', xkn, xen, (nI c'), (nI rm'), xac, K', N', Z', D', Im', W', P', vS, pO, pX, pI, fS, fP, fI, fU, fR, fO, fA, fH, (upd fG g (nI gv)), fN, aS, qL, qR, qP) := by
  subst es
  obtain ⟨hg, hn, hst, hlen, _⟩ := mx_f hX
  obtain ⟨⟨x1, x2, x3, x4, x5, x6, x7, x8, x9, x10⟩, hs, hh, hb, hf, hr, hG, hpot⟩ := hX
  have n16 : fr_o pO fP g ≠ 16 := by omega
  have n35 : fr_o pO fP g ≠ 35 := by omega
  have ns0 : ¬ s' = 0 := by rcases hs' with w | w | w <;> rw [w] <;> decide
  have hbH : ∀ f, f < n → fr_o pO fP f = 16 → fA f ≠ -1 → fG f = 0 → ∃ x, fH f = nI x ∧ x < 53 + rm := fun f hf' o16 hA' hG' => by
    obtain ⟨x, z, a1, a2, a3, _⟩ := hb.1 f hf' o16 hA' hG'
    exact ⟨x, a1, a3⟩
  have hS2 : rm ≤ 600 := by omega
  have hfx : fr_X pO pX np n fP fU fR fO fA (upd fG g (nI gv)) al (g :: pa) True := by
    refine fr_X_rest (fr_X_G (fr_X_w hf) (nI gv)) ⟨fun w => w.1.elim n16 n35, fun _ _ w => absurd hA w⟩
  have hrr : rm ≤ rm' := by omega
  have hbx := gr_bx (rm' := rm') hgr hb hrr (fun f hf' o16 hA' hG' e => by
    obtain ⟨x, a1, a3⟩ := hbH f hf' o16 hA' hG'
    rw [a1] at e
    have := (nI_eq (by omega) hsl).mp e
    omega)
  refine ⟨V', al, g, pa, n, c', rm', a, ⟨⟨x1, x2, x3, rfl, rfl, x6, x7, by omega, hc6, x10⟩, Or.inr hs', gr_hx hgr hh hrr hhs, md_bx_G hbx n16, fr_X_m hfx (fun _ => trivial), ?_, fun f hf' => ?_, ?_⟩, ⟨hxv, fun f hf' => ?_⟩, ma_up ha hgr.2.2.1, fun mk0 pd0 v0 hF => ?_⟩
  · have h1 := md_w2_u (fA := fA) (fG := fG) (y := nI gv) hg hy0
    rcases hrm with w | ⟨w, w2, w3⟩
    · omega
    · have h2 := ct_u (w := md_w2 fA fG) (w' := md_w2 fA (upd fG g (nI gv))) hg (fun f _ hne => by unfold md_w2; rw [pk_un hne])
      have h3 : md_w2 fA fG g = 1 := by
        unfold md_w2
        rw [if_pos ⟨w2, hA⟩]
      have h4 : md_w2 fA (upd fG g (nI gv)) g = 0 := by
        unfold md_w2
        rw [pk_us, if_neg (fun z => w3 z.1)]
      omega
  · by_cases e : f = g
    · subst e
      exact ⟨gv, pk_us, hgv⟩
    · obtain ⟨gv', e1, e2⟩ := hG f hf'
      exact ⟨gv', (pk_un e).trans e1, by omega⟩
  · have h1 := md_w1_u (fO := fO) (fA := fA) (fG := fG) (y := nI gv) hg hy0
    rw [md_ph_0] at hpot
    rcases hs' with w | w | w
    · rw [w, md_ph_1]
      rcases hpay w with ⟨w2, w3, w4⟩ | w2
      · have h2 := ct_u (w := md_w1 fO fA fG) (w' := md_w1 fO fA (upd fG g (nI gv))) hg (fun f _ hne => by unfold md_w1; rw [pk_un hne])
        have h3 : md_w1 fO fA fG g = 1 := by
          unfold md_w1
          rw [if_pos w2, hA, w4, if_pos rfl]
        have h4 : md_w1 fO fA (upd fG g (nI gv)) g = 0 := by
          unfold md_w1
          rw [pk_us, if_neg w3, hA, w4, if_pos rfl]
        omega
      · omega
    · rw [w, md_ph_2]; omega
    · rw [w, md_ph_3]; omega
  · obtain ⟨q1, q2, q3⟩ := hv.2 f hf'
    have up : ∀ y : Int32, (∃ s, y = nI s ∧ V s) → ∃ s, y = nI s ∧ V' s := fun y hy => by
      obtain ⟨s, s1, s2⟩ := hy
      exact ⟨s, s1, hgr.2.2.1 s s2⟩
    exact ⟨up _ q1, fun z => up _ (q2 z), fun x hx => up _ (q3 x hx)⟩
  · have hm := hM mk0 pd0 v0 hF
    obtain ⟨yma0, ypo0, yhe0, yvm0, yin0, yfi0, yde0, yap0, yas0, yto0, yan0, yco0, yti0, yna0, yac0, yen0, yic0, o0, l0, kS0, d0, pl0, ys0, yk0, yn0, yp0, yf0, yo0, yi0, yw0, ya0, y10, y20, yK0, yW0, yL0, yq0, nm0, nv0, no0, yA0, lf0, rt0, iK0, iN0⟩ := v0
    refine ⟨fun w => absurd w ns0, fun _ post hp => ?_⟩
    obtain ⟨m, hp⟩ := hp
    refine hm.1 rfl post ⟨m + 1, fun mk pd nd yma ypo yap yas yto yan yco yti yna yac yen o l kS d pl yo yi yw ya y1 y2 yK yW yL yq nm nv no yA lf rt hY => ?_⟩
    have hY0 := hY
    obtain ⟨⟨b1, b2, b3, b4, b5, b6, b7, b8, b9, b10, b11⟩, hfl, hen, hhy, hby, hfr, han, hq0, hq1, hz1, hz2, hz3⟩ := hY
    obtain ⟨ea, eq⟩ := hq0 rfl
    refine ct_F b9 ea (by omega) eq.1 (hYw mk0 pd0 mk pd nd yhe0 yvm0 yin0 yfi0 yde0 yic0 ys0 yk0 yn0 yp0 yf0 iK0 iN0 o0 l0 kS0 d0 pl0 yma ypo yap yas yto yan yco yti yna yac yen o l kS d pl yo yi yw ya y1 y2 yK yW yL yq nm nv no yA lf rt hY0 _ (fun mk' pd' o' l' kS' d' pl' ya' yW' w u1 u2 u3 u4 u5 u6 u7 => ?_))
    have hRR := gr_R hh.1 hhy.1 hgr u1
    refine ct_told ea (by omega) rfl (hp mk' pd' nd (nI mk') (nI pd') yap (nI pa.length) (s' - 1) w (nI c') yti yna yac yen o' l' kS' d' pl' yo yi yw ya' y1 y2 yK yW' yL yq nm nv no yA lf rt ⟨⟨rfl, rfl, b3, rfl, b5, b6, b7, b8, b9, b10, b11.1, by rw [md_w3_G n16]; have := b11.2; omega⟩, hfl, hen, gr_hy u1 hhy (by have := hhy.2.2.1; omega) u3, ?_, fun f hf' => ?_, fun i hi => hRR _ _ (han i hi), fun w => absurd w ns0, fun _ => ⟨rfl, eq.2⟩, fun e => ⟨by rw [e]; decide, u5 e⟩, fun e => by rw [e]; decide, fun e => by rw [e]; decide⟩)
    · have hb2 := gr_by hgr u1 hRR hby hhy.1 (fun f hf' o16 hA' hG' => by
        obtain ⟨x, a1, a3⟩ := hbH f hf' o16 hA' hG'
        exact ⟨x, a1, by omega, by omega⟩) u4
      obtain ⟨q1, q2⟩ := hb2
      have ne : ∀ f, fr_o pO fP f = 16 → f ≠ g := fun f hf' e => n16 (by rw [← e]; exact hf')
      refine ⟨fun f hf' o16 hA' => ?_, fun f f' a1 a2 h1 h2 hne o1 A1 o2 A2 e1 e2 => ?_⟩
      · rw [pk_un (ne f o16), (u6 f (ne f o16)).1, (u6 f (ne f o16)).2]
        exact q1 f hf' o16 hA'
      · rw [(u6 f (ne f o1)).1] at e1
        rw [(u6 f' (ne f' o2)).1] at e2
        exact q2 f f' a1 a2 h1 h2 hne o1 A1 o2 A2 e1 e2
    · obtain ⟨t1, t2, t3, t4, t5⟩ := hfr f hf'
      refine ⟨t1, hRR _ _ t2, t3, fun x hx => (t4 x hx).elim (fun z => Or.inl (hRR _ _ z)) Or.inr, ?_⟩
      by_cases e : f = g
      · subst e
        rw [pk_us]
        exact u7
      · rw [pk_un e, (u6 f e).1, (u6 f e).2]
        exact gr_S hh.1 hhy.1 hgr u1 (by omega) t2 t5
