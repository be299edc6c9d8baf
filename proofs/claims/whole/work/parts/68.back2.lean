/-! ===== a later filter within has ended, the first is asked again: for all states of Y ===== -/
theorem rm_back {p : Nat} {pa' : List Nat} {T : List Nat → Option vv_L} {nf bo np : Nat} {K0 N0 Z0 D0 I0 W0 P0 : Nat → Int32} {xst xow xin xpa xfi xfr xno xsi xan xkn xen xco xrm xac : Int32} {K N Z D Im W P vS pO pX pI fS fP fI fU fR fO fA fH fG fN aS qL qR qP : Nat → Int32} {st : Nat} {V al : Nat → Prop} {g : Nat} {n c rm a : Nat}
    (hX : md_X V al g (p :: pa') bo np n c rm a st xfr xno xsi xen xco xrm xac K N Z D Im W P K0 N0 Z0 D0 I0 W0 P0 pO pX fP fU fR fO fA fH fG) (hv : mv_X V n xsi xan pO fP fI fH fN) (ha : ma_X V a aS)
    (hM : ∀ (mk0 pd0 : Nat) (v0 : SY), kn_F T np nf pO pX pI fS mk0 pd0 v0 → rm_M V (p :: pa') g np n c rm a st xsi xan K N Z D W P pO pX pI fP fI fO fA fH fG fN aS mk0 pd0 v0) (es : xsi = 2) (n16 : fr_o pO fP p ≠ 16) (n22 : fr_o pO fP p ≠ 22) (n32 : fr_o pO fP p ≠ 32) {k ch : Nat} {xan' : Int32} (hk : 1 ≤ k) (hk2 : k ≤ 2) (hO : fO p = nI ch) (hch : ch < 600) (hne : ch ≠ g)
    (hYw : ∀ (mk0 pd0 mk pd nd : Nat) (yhe yvm : Int32) (yin : Int64) (yfi yde yic : Int32) (ys : Nat → Int64) (yk yn yp yf iK iN : Nat → Int32) (o0 l0 kS0 d0 : Nat → Int32) (pl0 : Nat → Int64) (yma ypo yap yas yto : Int32) (yan : Int64) (yco yti yna yac yen : Int32) (o l kS d : Nat → Int32) (pl : Nat → Int64) (yo : Nat → Int32) (yi : Nat → Int64) (yw ya y1 y2 : Nat → Int32) (yK : Nat → Int64) (yW : Nat → Int32) (yL : Nat → Int64) (yq nm : Nat → Int32) (nv : Nat → Int64) (no : Nat → Int32) (yA lf rt : Nat → Int64), md_Y V (p :: pa') g np n c rm a st mk pd nd mk0 pd0 xsi xan K N Z D W P pO pX pI fP fI fO fA fH fG fN aS yma ypo yap yas yto yan yco yti yna yac yen o l kS d pl yk yn yp yo yi yw ya y1 y2 yK yW yL yq nm nv no yA o0 l0 kS0 d0 pl0 → ∀ Q : SY → Prop, (∀ (yto' : Int32) (w : Int64) (ya' y2' yW' : Nat → Int32) (yK' yL' : Nat → Int64), (∀ f, f ≠ p → ya' f = ya f ∧ y2' f = y2 f ∧ yW' f = yW f ∧ yK' f = yK f ∧ yL' f = yL f) →
      fr_S (vv_R V K N Z D P mk o l kS d pl) (md_ea Z) (md_dp Z W P) (fr_o pO fP p) (pX (fP p).toNatClampNeg) (st + k) (fI p) (fG p) (fO p) (fO p) (fH p) (ya' p) (y1 p) (y2' p) (yW' p) (yK' p) (yL' p) →
      Q (yma, ypo, yhe, yvm, yin, yfi, yde, yap, (nI (pa'.length + 2)), yto', w, yco, yti, yna, yac, yen, yic, o, l, kS, d, pl, ys, yk, yn, yp, yf, yo, yi, yw, ya', y1, y2', yK', yW', yL', (upd yq (pa'.length + 1) (nI ch)), nm, nv, no, yA, lf, rt, iK, iN)) → wpY_goOn Q (yma, ypo, yhe, yvm, yin, yfi, yde, yap, yas, yto, yan, yco, yti, yna, yac, yen, yic, o, l, kS, d, pl, ys, yk, yn, yp, yf, yo, yi, yw, ya, y1, y2, yK, yW, yL, yq, nm, nv, no, yA, lf, rt, iK, iN) (nI p)) :
    rm_I T nf bo np K0 N0 Z0 D0 I0 W0 P0 (st + k) (xst, xow, xin, xpa, xfi, xfr, (nI ch), 0, xan', xkn, xen, xco, xrm, xac, K, N, Z, D, Im, W, P, vS, pO, pX, pI, fS, fP, fI, fU, fR, fO, (upd fA p (fO p)), fH, fG, fN, aS, qL, qR, qP) := by
  subst es
  obtain ⟨hg, hn, hst, hlen, _⟩ := mx_f hX
  obtain ⟨⟨x1, x2, x3, x4, x5, x6, x7, x8, x9, x10⟩, hs, hh, hb, hf, hr, hG, hpot⟩ := hX
  rw [List.length_cons] at hlen
  have hf0 := hf
  obtain ⟨h0, h1, h2, h3, h4, h5, h6⟩ := hf
  have hpc := fr_pa_lt _ _ h2 p List.mem_cons_self
  have hpn : p < n := by omega
  have hAp : fA p = nI g := h2.2.2.1
  have hrun : fr_run pO pX fP fG p := h2.2.2.2.1
  have hAO : fA p ≠ fO p := fun e => hne ((nI_eq (by omega) (by omega)).mp (hO.symm.trans (e.symm.trans hAp)))
  have hO1 : fO p ≠ -1 := by rw [hO]; exact fr_n1 hch
  have halp : al p := h3 p (List.mem_cons_of_mem _ List.mem_cons_self)
  obtain ⟨hac, hcl⟩ := h6 p halp n22 n32 hAO hO1
  rw [hO, nI_clamp (by omega)] at hac hcl
  have hkid : p < ch ∧ fU ch = nI p := by
    obtain ⟨_, k2, _⟩ := h1 p hpn
    rcases k2 with k2 | k2
    · exact absurd k2 hO1
    · obtain ⟨⟨c', e1, e2, e3, e4, e5⟩, _⟩ := k2
      have : c' = ch := (nI_eq (by omega) (by omega)).mp (e1.symm.trans hO)
      subst this
      exact ⟨e2, e4⟩
  have hfx := fr_X_push (c := ch) (fr_X_A (fr_X_kill hf0) hO1) (by rw [pk_us]; exact hO) ⟨hac, hne⟩ (fun w => hcl (List.mem_cons_of_mem _ w)) hrun hkid.1 hkid.2
  have ne : ∀ f, fr_o pO fP f = 16 → f ≠ p := fun f hf e => n16 (by rw [← e]; exact hf)
  have w2e : ∀ f, f < n → md_w2 (upd fA p (fO p)) fG f = md_w2 fA fG f := fun f _ => by
    unfold md_w2
    by_cases e : f = p
    · subst e
      rw [pk_us, if_neg (fun z => hO1 z.2), if_neg (fun z => by rw [hAp] at z; exact fr_n1 (by omega) z.2)]
    · rw [pk_un e]
  refine ⟨V, _, ch, p :: pa', n, c, rm, a, ⟨⟨x1, rfl, x3, x4, x5, x6, x7, x8, x9, x10⟩, Or.inl rfl, hh, ?_, fr_X_m hfx (fun _ => trivial), ?_, fun f hf' => ?_, ?_⟩, mv_up hv (fun w => absurd w (by decide)), ha, fun mk0 pd0 v0 hF => ?_⟩
  · obtain ⟨q1, q2⟩ := hb
    refine ⟨fun f hf o16 hA hG => q1 f hf o16 (by rw [pk_un (ne f o16)] at hA; exact hA) hG, fun f f' hf hf' hne o1 a1 g1 o2 a2 g2 => q2 f f' hf hf' hne o1 (by rw [pk_un (ne f o1)] at a1; exact a1) g1 o2 (by rw [pk_un (ne f' o2)] at a2; exact a2) g2⟩
  · rw [vv_sm_c _ w2e]
    exact hr
  · obtain ⟨gv', e1, e2⟩ := hG f hf'
    exact ⟨gv', e1, by omega⟩
  · have q := ct_u (w := md_w1 fO fA fG) (w' := md_w1 fO (upd fA p (fO p)) fG) hpn (fun f _ hne => by unfold md_w1; rw [pk_un hne])
    have q2 : md_w1 fO fA fG p = md_w1 fO (upd fA p (fO p)) fG p + 1 := by
      unfold md_w1
      rw [pk_us, if_pos rfl, if_neg hAO]
    rw [md_ph_2] at hpot
    rw [md_ph_0]
    omega
  · have hm := hM mk0 pd0 v0 hF
    obtain ⟨yma0, ypo0, yhe0, yvm0, yin0, yfi0, yde0, yap0, yas0, yto0, yan0, yco0, yti0, yna0, yac0, yen0, yic0, o0, l0, kS0, d0, pl0, ys0, yk0, yn0, yp0, yf0, yo0, yi0, yw0, ya0, y10, y20, yK0, yW0, yL0, yq0, nm0, nv0, no0, yA0, lf0, rt0, iK0, iN0⟩ := v0
    refine ⟨fun _ post hp => ?_, fun w => absurd rfl w⟩
    obtain ⟨m, hp⟩ := hp
    refine hm.2 (by decide) post ⟨m + 1, fun mk pd nd yma ypo yap yas yto yan yco yti yna yac yen o l kS d pl yo yi yw ya y1 y2 yK yW yL yq nm nv no yA lf rt hY => ?_⟩
    have hY0 := hY
    obtain ⟨⟨b1, b2, b3, b4, b5, b6, b7, b8, b9, b10, b11⟩, hfl, hen, hhy, hby, hfr, han, hq0, hq1, hz1, hz2, hz3⟩ := hY
    obtain ⟨ea, eq⟩ := hq1 (by decide)
    rw [List.length_cons] at ea
    refine ct_T b9 b5 ea (by omega) eq.1 (hYw mk0 pd0 mk pd nd yhe0 yvm0 yin0 yfi0 yde0 yic0 ys0 yk0 yn0 yp0 yf0 iK0 iN0 o0 l0 kS0 d0 pl0 yma ypo yap yas yto yan yco yti yna yac yen o l kS d pl yo yi yw ya y1 y2 yK yW yL yq nm nv no yA lf rt hY0 _ (fun yto' w ya' y2' yW' yK' yL' u5 u6 => ?_))
    refine ct_asked ea (by omega) rfl b5 (hp mk pd nd yma ypo yap (nI (pa'.length + 2)) yto' w yco yti yna yac yen o l kS d pl yo yi yw ya' y1 y2' yK' yW' yL' (upd yq (pa'.length + 1) (nI ch)) nm nv no yA lf rt ⟨⟨b1, b2, b3, b4, b5, b6, b7, b8, b9, b10, b11.1, by rw [md_w3_A n16]; exact b11.2⟩, hfl, hen, hhy, ?_, fun f hf' => ?_, han, fun _ => ⟨rfl, pk_us, md_qu eq (by rw [List.length_cons]; exact Nat.le_refl _)⟩, fun w => absurd rfl w, fun w => absurd w (by decide), fun w => absurd w (by decide), fun w => absurd w (by decide)⟩)
    · obtain ⟨q1, q2⟩ := hby
      refine ⟨fun f hf' o16 hA' => ?_, fun f f' a1 a2 h1 h2 hne o1 A1 o2 A2 e1 e2 => ?_⟩
      · rw [pk_un (ne f o16)] at hA'
        rw [(u5 f (ne f o16)).1, (u5 f (ne f o16)).2.2.1]
        exact q1 f hf' o16 hA'
      · rw [pk_un (ne f o1)] at A1
        rw [pk_un (ne f' o2)] at A2
        rw [(u5 f (ne f o1)).1] at e1
        rw [(u5 f' (ne f' o2)).1] at e2
        exact q2 f f' a1 a2 h1 h2 hne o1 A1 o2 A2 e1 e2
    · obtain ⟨t1, t2, t3, t4, t5⟩ := hfr f hf'
      refine ⟨t1, t2, t3, t4, ?_⟩
      by_cases e : f = p
      · subst e
        rw [pk_us]
        exact u6
      · rw [pk_un e, (u5 f e).1, (u5 f e).2.1, (u5 f e).2.2.1, (u5 f e).2.2.2.1, (u5 f e).2.2.2.2]
        exact fr_S_up (fun _ _ w => w) (fun _ w => w) (fun _ _ w => w) (by omega) t5
