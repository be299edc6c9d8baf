/-! ===== a turn that changes what the frame holds, and no heap ===== -/
theorem rm_turnH {p : Nat} {pa' : List Nat} {T : List Nat → Option vv_L} {nf bo np : Nat} {K0 N0 Z0 D0 I0 W0 P0 : Nat → Int32} {xst xow xin xpa xfi xfr xno xsi xan xkn xen xco xrm xac : Int32} {K N Z D Im W P vS pO pX pI fS fP fI fU fR fO fA fH fG fN aS qL qR qP : Nat → Int32} {st : Nat} {V al : Nat → Prop} {g : Nat} {n c rm a : Nat}
    (hX : md_X V al g (p :: pa') bo np n c rm a st xfr xno xsi xen xco xrm xac K N Z D Im W P K0 N0 Z0 D0 I0 W0 P0 pO pX fP fU fR fO fA fH fG) (hv : mv_X V n xsi xan pO fP fI fH fN) (ha : ma_X V a aS)
    (hM : ∀ (mk0 pd0 : Nat) (v0 : SY), kn_F T np nf pO pX pI fS mk0 pd0 v0 → rm_M V (p :: pa') g np n c rm a st xsi xan K N Z D W P pO pX pI fP fI fO fA fH fG fN aS mk0 pd0 v0) (es : xsi = 1) (n16 : fr_o pO fP p ≠ 16) {k : Nat} {xan' h' : Int32} (hk : 1 ≤ k) (hk2 : k ≤ 2) (hxh : ∃ s, h' = nI s ∧ V s)
    (hYw : ∀ (mk0 pd0 mk pd nd : Nat) (yhe yvm : Int32) (yin : Int64) (yfi yde yic : Int32) (ys : Nat → Int64) (yk yn yp yf iK iN : Nat → Int32) (o0 l0 kS0 d0 : Nat → Int32) (pl0 : Nat → Int64) (yma ypo yap yas yto : Int32) (yan : Int64) (yco yti yna yac yen : Int32) (o l kS d : Nat → Int32) (pl : Nat → Int64) (yo : Nat → Int32) (yi : Nat → Int64) (yw ya y1 y2 : Nat → Int32) (yK : Nat → Int64) (yW : Nat → Int32) (yL : Nat → Int64) (yq nm : Nat → Int32) (nv : Nat → Int64) (no : Nat → Int32) (yA lf rt : Nat → Int64), md_Y V (p :: pa') g np n c rm a st mk pd nd mk0 pd0 xsi xan K N Z D W P pO pX pI fP fI fO fA fH fG fN aS yma ypo yap yas yto yan yco yti yna yac yen o l kS d pl yk yn yp yo yi yw ya y1 y2 yK yW yL yq nm nv no yA o0 l0 kS0 d0 pl0 → ∀ Q : SY → Prop, (∀ (yto' : Int32) (w : Int64) (yW' : Nat → Int32) (yK' yL' : Nat → Int64), (∀ f, f ≠ p → yW' f = yW f ∧ yK' f = yK f ∧ yL' f = yL f) →
      fr_S (vv_R V K N Z D P mk o l kS d pl) (md_ea Z) (md_dp Z W P) (fr_o pO fP p) (pX (fP p).toNatClampNeg) (st + k) (fI p) (fG p) (fA p) (fO p) h' (ya p) (y1 p) (y2 p) (yW' p) (yK' p) (yL' p) →
      Q (yma, ypo, yhe, yvm, yin, yfi, yde, yap, (nI (pa'.length + 2)), yto', w, yco, yti, yna, yac, yen, yic, o, l, kS, d, pl, ys, yk, yn, yp, yf, yo, yi, yw, ya, y1, y2, yK', yW', yL', (upd yq (pa'.length + 1) (nI g)), nm, nv, no, yA, lf, rt, iK, iN)) → wpY_goOn Q (yma, ypo, yhe, yvm, yin, yfi, yde, yap, yas, yto, yan, yco, yti, yna, yac, yen, yic, o, l, kS, d, pl, ys, yk, yn, yp, yf, yo, yi, yw, ya, y1, y2, yK, yW, yL, yq, nm, nv, no, yA, lf, rt, iK, iN) (nI p)) :
    rm_I T nf bo np K0 N0 Z0 D0 I0 W0 P0 (st + k) (xst, xow, xin, xpa, xfi, xfr, (nI g), 0, xan', xkn, xen, xco, xrm, xac, K, N, Z, D, Im, W, P, vS, pO, pX, pI, fS, fP, fI, fU, fR, fO, fA, (upd fH p h'), fG, fN, aS, qL, qR, qP) := by
  have hX0 := hX
  obtain ⟨⟨x1, x2, x3, x4, x5, x6, x7, x8, x9, x10⟩, hs, hh, hb, hf, hr, hG, hpot⟩ := hX
  have ne : ∀ f, fr_o pO fP f = 16 → f ≠ p := fun f hf e => n16 (by rw [← e]; exact hf)
  refine rm_turn (xan' := xan') (h' := h') hX0 hv ha hM es hk hk2 (gr_id hh) ?_ (fun _ => hxh) (fun mk0 pd0 mk pd nd yhe yvm yin yfi yde yic ys yk yn yp yf iK iN o0 l0 kS0 d0 pl0 yma ypo yap yas yto yan yco yti yna yac yen o l kS d pl yo yi yw ya y1 y2 yK yW yL yq nm nv no yA lf rt hY Q hQ => hYw mk0 pd0 mk pd nd yhe yvm yin yfi yde yic ys yk yn yp yf iK iN o0 l0 kS0 d0 pl0 yma ypo yap yas yto yan yco yti yna yac yen o l kS d pl yo yi yw ya y1 y2 yK yW yL yq nm nv no yA lf rt hY Q (fun yto' w yW' yK' yL' u5 u6 => ?_))
  · obtain ⟨q1, q2⟩ := hb
    refine ⟨fun f hf o16 hA hG => ?_, fun f f' hf hf' hne o1 a1 g1 o2 a2 g2 => ?_⟩
    · rw [pk_un (ne f o16)]
      exact q1 f hf o16 hA hG
    · rw [pk_un (ne f o1), pk_un (ne f' o2)]
      exact q2 f f' hf hf' hne o1 a1 g1 o2 a2 g2
  · obtain ⟨⟨b1, b2, b3, b4, b5, b6, b7, b8, b9, b10, b11⟩, hfl, hen, hhy, hby, hfr, han, hq0, hq1, hz1, hz2, hz3⟩ := hY
    refine hQ yto' w pl yW' yK' yL' (fun _ _ z => z) hhy.1 (fun _ _ => rfl) ?_ u5 u6
    obtain ⟨q1, q2⟩ := hby
    refine ⟨fun f hf' o16 hA' => ?_, q2⟩
    rw [pk_un (ne f o16), (u5 f (ne f o16)).1]
    exact q1 f hf' o16 hA'
