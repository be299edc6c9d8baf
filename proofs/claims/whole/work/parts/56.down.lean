/-! ===== asked: down to the filter within that is asked now ===== -/
theorem cs_down {T : List Nat → Option vv_L} {nf bo np : Nat} {K0 N0 Z0 D0 I0 W0 P0 : Nat → Int32} {xst xow xin xpa xfi xfr xno xsi xan xkn xen xco xrm xac : Int32} {K N Z D Im W P vS pO pX pI fS fP fI fU fR fO fA fH fG fN aS qL qR qP : Nat → Int32} {post : SX → Prop} {st : Nat} {V al : Nat → Prop} {g : Nat} {pa : List Nat} {n c rm a : Nat}
    (H : ∀ st', st < st' → ∀ (xfr xno xsi xan xen xco xrm xac : Int32) (K N Z D Im W P fP fI fU fR fO fA fH fG fN aS qL qR qP : Nat → Int32), rn_I T nf bo np K0 N0 Z0 D0 I0 W0 P0 st' (xst, xow, xin, xpa, xfi, xfr, xno, xsi, xan, xkn, xen, xco, xrm, xac, K, N, Z, D, Im, W, P, vS, pO, pX, pI, fS, fP, fI, fU, fR, fO, fA, fH, fG, fN, aS, qL, qR, qP) → wX_workOut_68 post (1000001 - st') (nI st') xst xow xin xpa xfi xfr xno xsi xan xkn xen xco xrm xac K N Z D Im W P vS pO pX pI fS fP fI fU fR fO fA fH fG fN aS qL qR qP)
    (hX : md_X V al g pa bo np n c rm a st xfr xno xsi xen xco xrm xac K N Z D Im W P K0 N0 Z0 D0 I0 W0 P0 pO pX fP fU fR fO fA fH fG)
    (hM : ∀ (mk0 pd0 : Nat) (v0 : SY), kn_F T np nf pO pX pI fS mk0 pd0 v0 → rn_M V pa g np n c rm a st xsi xan K N Z D W P pO pX pI fP fI fO fA fH fG fN aS mk0 pd0 v0) (es : xsi = 0) {ch : Nat} (hA : fA g = nI ch) (hch : ch < 600) (n16 : fr_o pO fP g ≠ 16) (n35 : fr_o pO fP g ≠ 35) (hrun : fr_run pO pX fP fG g)
    (hXw : ∀ Q : SX → Prop, Q (xst, xow, xin, xpa, xfi, xfr, (nI ch), xsi, xan, xkn, xen, xco, xrm, xac, K, N, Z, D, Im, W, P, vS, pO, pX, pI, fS, fP, fI, fU, fR, fO, fA, fH, fG, fN, aS, qL, qR, qP) → wpX_ask Q (xst, xow, xin, xpa, xfi, xfr, xno, xsi, xan, xkn, xen, xco, xrm, xac, K, N, Z, D, Im, W, P, vS, pO, pX, pI, fS, fP, fI, fU, fR, fO, fA, fH, fG, fN, aS, qL, qR, qP))
    (hYw : ∀ (mk0 pd0 mk pd nd : Nat) (yhe yvm : Int32) (yin : Int64) (yfi yde yic : Int32) (ys : Nat → Int64) (yk yn yp yf iK iN : Nat → Int32) (o0 l0 kS0 d0 : Nat → Int32) (pl0 : Nat → Int64) (yma ypo yap yas yto : Int32) (yan : Int64) (yco yti yna yac yen : Int32) (o l kS d : Nat → Int32) (pl : Nat → Int64) (yo : Nat → Int32) (yi : Nat → Int64) (yw ya y1 y2 : Nat → Int32) (yK : Nat → Int64) (yW : Nat → Int32) (yL : Nat → Int64) (yq nm : Nat → Int32) (nv : Nat → Int64) (no : Nat → Int32) (yA lf rt : Nat → Int64), md_Y V pa g np n c rm a st mk pd nd mk0 pd0 xsi xan K N Z D W P pO pX pI fP fI fO fA fH fG fN aS yma ypo yap yas yto yan yco yti yna yac yen o l kS d pl yk yn yp yo yi yw ya y1 y2 yK yW yL yq nm nv no yA o0 l0 kS0 d0 pl0 → ∀ Q : SY → Prop, Q (yma, ypo, yhe, yvm, yin, yfi, yde, yap, (nI (pa.length + 2)), yto, yan, yco, yti, yna, yac, yen, yic, o, l, kS, d, pl, ys, yk, yn, yp, yf, yo, yi, yw, ya, y1, y2, yK, yW, yL, (upd yq (pa.length + 1) (nI ch)), nm, nv, no, yA, lf, rt, iK, iN) → wpY_start Q (yma, ypo, yhe, yvm, yin, yfi, yde, yap, yas, yto, yan, yco, yti, yna, yac, yen, yic, o, l, kS, d, pl, ys, yk, yn, yp, yf, yo, yi, yw, ya, y1, y2, yK, yW, yL, yq, nm, nv, no, yA, lf, rt, iK, iN) (nI g)) : wX_workOut_68 post (1000001 - st) (nI st) xst xow xin xpa xfi xfr xno xsi xan xkn xen xco xrm xac K N Z D Im W P vS pO pX pI fS fP fI fU fR fO fA fH fG fN aS qL qR qP := by
  subst es
  obtain ⟨hg, hn, hst, hlen, _⟩ := mx_f hX
  obtain ⟨⟨x1, x2, x3, x4, x5, x6, x7, x8, x9, x10⟩, hs, hh, hb, hf, hr, hG, hpot⟩ := hX
  have hf0 := hf
  obtain ⟨h0, h1, h2, h3, h4, h5, h6⟩ := hf
  have hal : al g := h3 g List.mem_cons_self
  obtain ⟨_, hrs⟩ := h5 g hal (Or.inr ⟨Or.inl rfl, rfl⟩)
  obtain ⟨hac, hcl⟩ := hrs n16 n35 (by rw [hA]; exact fr_n1 hch)
  rw [hA, nI_clamp (by omega)] at hac hcl
  have hkid : g < ch ∧ fU ch = nI g := by
    obtain ⟨_, _, k⟩ := h1 g hg
    rcases k with k | ⟨⟨c', e1, e2, e3, e4, e5⟩, _⟩
    · exact absurd (hA.symm.trans k) (fr_n1 hch)
    · have : c' = ch := (nI_eq (by omega) (by omega)).mp (e1.symm.trans hA)
      subst this
      exact ⟨e2, e4⟩
  have hfx := fr_X_push (fr_X_w hf0) hA hac hcl hrun hkid.1 hkid.2
  refine xs_ask (by omega) x3 rfl (hXw _ (rn_K_i (H (st + 1) (by omega) _ _ _ _ _ _ _ _ _ _ _ _ _ _ _ _ _ _ _ _ _ _ _ _ _ _ _ _ ?_)))
  refine ⟨V, al, ch, g :: pa, n, c, rm, a, ⟨⟨x1, rfl, x3, x4, x5, x6, x7, x8, x9, x10⟩, Or.inl rfl, hh, hb, fr_X_m hfx (fun _ => trivial), hr, fun f hf' => ?_, ?_⟩, fun mk0 pd0 v0 hF => ?_⟩
  · obtain ⟨gv', e1, e2⟩ := hG f hf'
    exact ⟨gv', e1, by omega⟩
  · rw [md_ph_0] at hpot ⊢
    rw [List.length_cons]
    omega
  · have hm := hM mk0 pd0 v0 hF
    obtain ⟨yma0, ypo0, yhe0, yvm0, yin0, yfi0, yde0, yap0, yas0, yto0, yan0, yco0, yti0, yna0, yac0, yen0, yic0, o0, l0, kS0, d0, pl0, ys0, yk0, yn0, yp0, yf0, yo0, yi0, yw0, ya0, y10, y20, yK0, yW0, yL0, yq0, nm0, nv0, no0, yA0, lf0, rt0, iK0, iN0⟩ := v0
    obtain ⟨mk, pd, nd, yma, ypo, yap, yas, yto, yan, yco, yti, yna, yac, yen, o, l, kS, d, pl, yo, yi, yw, ya, y1, y2, yK, yW, yL, yq, nm, nv, no, yA, lf, rt, hY, hcF, hcT⟩ := hm
    have hY0 := hY
    obtain ⟨⟨b1, b2, b3, b4, b5, b6, b7, b8, b9, b10, b11⟩, hfl, hen, hhy, hby, hfr, han, hq0, hq1, hz1, hz2, hz3⟩ := hY
    obtain ⟨ea, eq⟩ := hq0 rfl
    have hw := hYw mk0 pd0 mk pd nd yhe0 yvm0 yin0 yfi0 yde0 yic0 ys0 yk0 yn0 yp0 yf0 iK0 iN0 o0 l0 kS0 d0 pl0 yma ypo yap yas yto yan yco yti yna yac yen o l kS d pl yo yi yw ya y1 y2 yK yW yL yq nm nv no yA lf rt hY0
    refine ⟨mk, pd, nd, yma, ypo, yap, nI (pa.length + 2), yto, yan, yco, yti, yna, yac, yen, o, l, kS, d, pl, yo, yi, yw, ya, y1, y2, yK, yW, yL, upd yq (pa.length + 1) (nI ch), nm, nv, no, yA, lf, rt, ⟨⟨b1, b2, b3, b4, b5, b6, b7, b8, b9, b10, b11⟩, hfl, hen, hhy, hby, fun f hf' => ?_, han, fun _ => ⟨rfl, pk_us, md_qu eq (by rw [List.length_cons]; exact Nat.le_refl _)⟩, fun w => absurd rfl w, fun w => absurd w (by decide), fun w => absurd w (by decide), fun w => absurd w (by decide)⟩, fun _ => ?_, fun w => absurd rfl w⟩
    · obtain ⟨t1, t2, t3, t4, t5⟩ := hfr f hf'
      exact ⟨t1, t2, t3, t4, fr_S_up (fun _ _ w => w) (fun _ w => w) (fun _ _ w => w) (Nat.le_succ _) t5⟩
    · exact cr_FF (hcF rfl) b9 ea (by omega) eq.1 b5 rfl hw
/-- too much was counted, when asked -/
theorem cs_tiredF {T : List Nat → Option vv_L} {nf bo np : Nat} {K0 N0 Z0 D0 I0 W0 P0 : Nat → Int32} {xst xow xin xpa xfi xfr xno xsi xan xkn xen xco xrm xac : Int32} {K N Z D Im W P vS pO pX pI fS fP fI fU fR fO fA fH fG fN aS qL qR qP : Nat → Int32} {post : SX → Prop} {st : Nat} {V al : Nat → Prop} {g : Nat} {pa : List Nat} {n c rm a : Nat}
    (H : ∀ st', st < st' → ∀ (xfr xno xsi xan xen xco xrm xac : Int32) (K N Z D Im W P fP fI fU fR fO fA fH fG fN aS qL qR qP : Nat → Int32), rn_I T nf bo np K0 N0 Z0 D0 I0 W0 P0 st' (xst, xow, xin, xpa, xfi, xfr, xno, xsi, xan, xkn, xen, xco, xrm, xac, K, N, Z, D, Im, W, P, vS, pO, pX, pI, fS, fP, fI, fU, fR, fO, fA, fH, fG, fN, aS, qL, qR, qP) → wX_workOut_68 post (1000001 - st') (nI st') xst xow xin xpa xfi xfr xno xsi xan xkn xen xco xrm xac K N Z D Im W P vS pO pX pI fS fP fI fU fR fO fA fH fG fN aS qL qR qP)
    (hX : md_X V al g pa bo np n c rm a st xfr xno xsi xen xco xrm xac K N Z D Im W P K0 N0 Z0 D0 I0 W0 P0 pO pX fP fU fR fO fA fH fG)
    (hM : ∀ (mk0 pd0 : Nat) (v0 : SY), kn_F T np nf pO pX pI fS mk0 pd0 v0 → rn_M V pa g np n c rm a st xsi xan K N Z D W P pO pX pI fP fI fO fA fH fG fN aS mk0 pd0 v0) (HE : ∀ (xfr xno xsi xan xen xco xrm xac : Int32) (K N Z D Im W P fP fI fU fR fO fA fH fG fN aS qL qR qP : Nat → Int32), rn_E T nf bo np K0 N0 Z0 D0 I0 W0 P0 (xst, xow, xin, xpa, xfi, xfr, xno, xsi, xan, xkn, xen, xco, xrm, xac, K, N, Z, D, Im, W, P, vS, pO, pX, pI, fS, fP, fI, fU, fR, fO, fA, fH, fG, fN, aS, qL, qR, qP) → post (xst, xow, xin, xpa, xfi, xfr, xno, xsi, xan, xkn, xen, xco, xrm, xac, K, N, Z, D, Im, W, P, vS, pO, pX, pI, fS, fP, fI, fU, fR, fO, fA, fH, fG, fN, aS, qL, qR, qP)) (es : xsi = 0)
    {K' N' Z' fP' fI' fU' fR' fO' fA' fH' fG' fN' : Nat → Int32} {xfr' xno' xan' xrm' : Int32} (hK : ∀ s, V s ∨ s < 53 → K' s = K s ∧ N' s = N s ∧ Z' s = Z s)
    (hXw : ∀ Q : SX → Prop, Q (xst, xow, xin, xpa, xfi, xfr', xno', 0, xan', xkn, 3, xco, xrm', xac, K', N', Z', D, Im, W, P, vS, pO, pX, pI, fS, fP', fI', fU', fR', fO', fA', fH', fG', fN', aS, qL, qR, qP) → wpX_ask Q (xst, xow, xin, xpa, xfi, xfr, xno, xsi, xan, xkn, xen, xco, xrm, xac, K, N, Z, D, Im, W, P, vS, pO, pX, pI, fS, fP, fI, fU, fR, fO, fA, fH, fG, fN, aS, qL, qR, qP))
    (hYw : ∀ (mk0 pd0 mk pd nd : Nat) (yhe yvm : Int32) (yin : Int64) (yfi yde yic : Int32) (ys : Nat → Int64) (yk yn yp yf iK iN : Nat → Int32) (o0 l0 kS0 d0 : Nat → Int32) (pl0 : Nat → Int64) (yma ypo yap yas yto : Int32) (yan : Int64) (yco yti yna yac yen : Int32) (o l kS d : Nat → Int32) (pl : Nat → Int64) (yo : Nat → Int32) (yi : Nat → Int64) (yw ya y1 y2 : Nat → Int32) (yK : Nat → Int64) (yW : Nat → Int32) (yL : Nat → Int64) (yq nm : Nat → Int32) (nv : Nat → Int64) (no : Nat → Int32) (yA lf rt : Nat → Int64), md_Y V pa g np n c rm a st mk pd nd mk0 pd0 xsi xan K N Z D W P pO pX pI fP fI fO fA fH fG fN aS yma ypo yap yas yto yan yco yti yna yac yen o l kS d pl yk yn yp yo yi yw ya y1 y2 yK yW yL yq nm nv no yA o0 l0 kS0 d0 pl0 → ∃ (ypo' : Int32) (ya' y1' y2' : Nat → Int32), ∀ Q : SY → Prop, Q (yma, ypo', yhe, yvm, yin, yfi, yde, yap, yas, yto, yan, yco, 1, yna, yac, yen, yic, o, l, kS, d, pl, ys, yk, yn, yp, yf, yo, yi, yw, ya', y1', y2', yK, yW, yL, yq, nm, nv, no, yA, lf, rt, iK, iN) → wpY_start Q (yma, ypo, yhe, yvm, yin, yfi, yde, yap, yas, yto, yan, yco, yti, yna, yac, yen, yic, o, l, kS, d, pl, ys, yk, yn, yp, yf, yo, yi, yw, ya, y1, y2, yK, yW, yL, yq, nm, nv, no, yA, lf, rt, iK, iN) (nI g)) : wX_workOut_68 post (1000001 - st) (nI st) xst xow xin xpa xfi xfr xno xsi xan xkn xen xco xrm xac K N Z D Im W P vS pO pX pI fS fP fI fU fR fO fA fH fG fN aS qL qR qP := by
  subst es
  obtain ⟨hg, hn, hst, hlen, _⟩ := mx_f hX
  have hX0 := hX
  obtain ⟨⟨x1, x2, x3, x4, x5, x6, x7, x8, x9, x10⟩, hs, hh, hb, hf, hr, hG, hpot⟩ := hX
  refine xs_ask (by omega) x3 rfl (hXw _ (rn_K_i (xs_end (by omega) (by decide) (HE _ _ _ _ _ _ _ _ _ _ _ _ _ _ _ _ _ _ _ _ _ _ _ _ _ _ _ _ (re_mk (a' := a) hX0 hM (by decide) x6 (by omega) hK (fun mk0 pd0 v0 hF => ?_))))))
  obtain ⟨yma0, ypo0, yhe0, yvm0, yin0, yfi0, yde0, yap0, yas0, yto0, yan0, yco0, yti0, yna0, yac0, yen0, yic0, o0, l0, kS0, d0, pl0, ys0, yk0, yn0, yp0, yf0, yo0, yi0, yw0, ya0, y10, y20, yK0, yW0, yL0, yq0, nm0, nv0, no0, yA0, lf0, rt0, iK0, iN0⟩ := v0
  intro mk pd nd yma ypo yap yas yto yan yco yti yna yac yen o l kS d pl yo yi yw ya y1 y2 yK yW yL yq nm nv no yA lf rt hY hcF hcT
  have hY0 := hY
  obtain ⟨⟨b1, b2, b3, b4, b5, b6, b7, b8, b9, b10, b11⟩, hfl, hen, hhy, hby, hfr, han, hq0, hq1, hz1, hz2, hz3⟩ := hY
  obtain ⟨ea, eq⟩ := hq0 rfl
  obtain ⟨ypo', ya', y1', y2', hw⟩ := hYw mk0 pd0 mk pd nd yhe0 yvm0 yin0 yfi0 yde0 yic0 ys0 yk0 yn0 yp0 yf0 iK0 iN0 o0 l0 kS0 d0 pl0 yma ypo yap yas yto yan yco yti yna yac yen o l kS d pl yo yi yw ya y1 y2 yK yW yL yq nm nv no yA lf rt hY0
  refine ⟨yma, ypo', yap, yas, yto, yan, 1, yna, yo, yi, yw, ya', y1', y2', yK, yW, yL, yq, nm, nv, no, yA, lf, rt, han, ?_⟩
  rw [x4, ← b4, x6, ← b8]
  exact cr_FE (hcF rfl) b9 ea (by omega) eq.1 rfl hw
