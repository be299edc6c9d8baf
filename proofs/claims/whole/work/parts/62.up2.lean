/-! ===== ends and errors go outwards; what is through ends: for all states of Y ===== -/
/-- validity without a change of frames -/
theorem mv_up {V : Nat → Prop} {n : Nat} {xsi xan xsi' xan' : Int32} {pO fP fI fH fN : Nat → Int32} (h : mv_X V n xsi xan pO fP fI fH fN) (hx : xsi' = 1 → ∃ s, xan' = nI s ∧ V s) : mv_X V n xsi' xan' pO fP fI fH fN := ⟨hx, h.2⟩
theorem rm_up {p : Nat} {pa' : List Nat} {T : List Nat → Option vv_L} {nf bo np : Nat} {K0 N0 Z0 D0 I0 W0 P0 : Nat → Int32} {xst xow xin xpa xfi xfr xno xsi xan xkn xen xco xrm xac : Int32} {K N Z D Im W P vS pO pX pI fS fP fI fU fR fO fA fH fG fN aS qL qR qP : Nat → Int32} {st : Nat} {V al : Nat → Prop} {g : Nat} {n c rm a : Nat}
    (hX : md_X V al g (p :: pa') bo np n c rm a st xfr xno xsi xen xco xrm xac K N Z D Im W P K0 N0 Z0 D0 I0 W0 P0 pO pX fP fU fR fO fA fH fG) (hv : mv_X V n xsi xan pO fP fI fH fN) (ha : ma_X V a aS)
    (hM : ∀ (mk0 pd0 : Nat) (v0 : SY), kn_F T np nf pO pX pI fS mk0 pd0 v0 → rm_M V (p :: pa') g np n c rm a st xsi xan K N Z D W P pO pX pI fP fI fO fA fH fG fN aS mk0 pd0 v0) (es : xsi = 1 ∨ xsi = 2 ∨ xsi = 3) {s' : Int32} (hs' : s' = 2 ∨ s' = 3)
    (hYw : ∀ (mk0 pd0 mk pd nd : Nat) (yhe yvm : Int32) (yin : Int64) (yfi yde yic : Int32) (ys : Nat → Int64) (yk yn yp yf iK iN : Nat → Int32) (o0 l0 kS0 d0 : Nat → Int32) (pl0 : Nat → Int64) (yma ypo yap yas yto : Int32) (yan : Int64) (yco yti yna yac yen : Int32) (o l kS d : Nat → Int32) (pl : Nat → Int64) (yo : Nat → Int32) (yi : Nat → Int64) (yw ya y1 y2 : Nat → Int32) (yK : Nat → Int64) (yW : Nat → Int32) (yL : Nat → Int64) (yq nm : Nat → Int32) (nv : Nat → Int64) (no : Nat → Int32) (yA lf rt : Nat → Int64), md_Y V (p :: pa') g np n c rm a st mk pd nd mk0 pd0 xsi xan K N Z D W P pO pX pI fP fI fO fA fH fG fN aS yma ypo yap yas yto yan yco yti yna yac yen o l kS d pl yk yn yp yo yi yw ya y1 y2 yK yW yL yq nm nv no yA o0 l0 kS0 d0 pl0 → ∀ Q : SY → Prop, (∀ w : Int64, Q (yma, ypo, yhe, yvm, yin, yfi, yde, yap, (nI pa'.length), (s' - 1), w, yco, yti, yna, yac, yen, yic, o, l, kS, d, pl, ys, yk, yn, yp, yf, yo, yi, yw, ya, y1, y2, yK, yW, yL, yq, nm, nv, no, yA, lf, rt, iK, iN)) → wpY_goOn Q (yma, ypo, yhe, yvm, yin, yfi, yde, yap, yas, yto, yan, yco, yti, yna, yac, yen, yic, o, l, kS, d, pl, ys, yk, yn, yp, yf, yo, yi, yw, ya, y1, y2, yK, yW, yL, yq, nm, nv, no, yA, lf, rt, iK, iN) (nI p)) : rm_I T nf bo np K0 N0 Z0 D0 I0 W0 P0 (st + 1) (xst, xow, xin, xpa, xfi, xfr, (nI p), s', xan, xkn, xen, xco, xrm, xac, K, N, Z, D, Im, W, P, vS, pO, pX, pI, fS, fP, fI, fU, fR, fO, fA, fH, fG, fN, aS, qL, qR, qP) := by
  obtain ⟨hg, hn, hst, hlen, _⟩ := mx_f hX
  obtain ⟨⟨x1, x2, x3, x4, x5, x6, x7, x8, x9, x10⟩, hs, hh, hb, hf, hr, hG, hpot⟩ := hX
  have ns0 : ¬ s' = 0 := by rcases hs' with w | w <;> rw [w] <;> decide
  have ns1 : ¬ s' = 1 := by rcases hs' with w | w <;> rw [w] <;> decide
  have nx0 : xsi ≠ 0 := by rcases es with w | w | w <;> rw [w] <;> decide
  have hph : 20 + 4 * (pa'.length + 1 + 1) ≤ md_ph xsi (pa'.length + 1 + 1) := by
    rcases es with w | w | w <;> rw [w]
    · rw [md_ph_1]; omega
    · rw [md_ph_2]; omega
    · rw [md_ph_3]; omega
  rw [List.length_cons] at hlen hpot
  refine ⟨V, fun f => al f ∧ f ≠ g, p, pa', n, c, rm, a, ⟨⟨x1, rfl, x3, x4, x5, x6, x7, x8, x9, x10⟩, hs'.elim (fun w => Or.inr (Or.inr (Or.inl w))) (fun w => Or.inr (Or.inr (Or.inr w))), hh, hb, fr_X_m (fr_X_kill hf) (fun w => w.elim ns0 ns1), hr, fun f hf' => ?_, ?_⟩, mv_up hv (fun w => absurd w ns1), ha, fun mk0 pd0 v0 hF => ?_⟩
  · obtain ⟨gv', e1, e2⟩ := hG f hf'
    exact ⟨gv', e1, by omega⟩
  · have : md_ph s' (pa'.length + 1) = 20 + 4 * (pa'.length + 1) := by
      rcases hs' with w | w <;> rw [w]
      · exact md_ph_2 _
      · exact md_ph_3 _
    omega
  · have hm := hM mk0 pd0 v0 hF
    obtain ⟨yma0, ypo0, yhe0, yvm0, yin0, yfi0, yde0, yap0, yas0, yto0, yan0, yco0, yti0, yna0, yac0, yen0, yic0, o0, l0, kS0, d0, pl0, ys0, yk0, yn0, yp0, yf0, yo0, yi0, yw0, ya0, y10, y20, yK0, yW0, yL0, yq0, nm0, nv0, no0, yA0, lf0, rt0, iK0, iN0⟩ := v0
    refine ⟨fun w => absurd w ns0, fun _ post hp => ?_⟩
    obtain ⟨m, hp⟩ := hp
    refine hm.2 nx0 post ⟨m + 1, fun mk pd nd yma ypo yap yas yto yan yco yti yna yac yen o l kS d pl yo yi yw ya y1 y2 yK yW yL yq nm nv no yA lf rt hY => ?_⟩
    have hY0 := hY
    obtain ⟨⟨b1, b2, b3, b4, b5, b6, b7, b8, b9, b10, b11⟩, hfl, hen, hhy, hby, hfr, han, hq0, hq1, hz1, hz2, hz3⟩ := hY
    obtain ⟨ea, eq⟩ := hq1 nx0
    rw [List.length_cons] at ea
    refine ct_T b9 b5 ea (by omega) eq.1 (hYw mk0 pd0 mk pd nd yhe0 yvm0 yin0 yfi0 yde0 yic0 ys0 yk0 yn0 yp0 yf0 iK0 iN0 o0 l0 kS0 d0 pl0 yma ypo yap yas yto yan yco yti yna yac yen o l kS d pl yo yi yw ya y1 y2 yK yW yL yq nm nv no yA lf rt hY0 _ (fun w => ?_))
    refine ct_told ea (by omega) rfl (hp mk pd nd yma ypo yap (nI pa'.length) (s' - 1) w yco yti yna yac yen o l kS d pl yo yi yw ya y1 y2 yK yW yL yq nm nv no yA lf rt ⟨⟨b1, b2, b3, b4, b5, b6, b7, b8, b9, b10, b11⟩, hfl, hen, hhy, hby, fun f hf' => ?_, han, fun w => absurd w ns0, fun _ => ⟨rfl, eq.2⟩, fun w => absurd w ns1, fun w => by rw [w]; decide, fun w => by rw [w]; decide⟩)
    obtain ⟨t1, t2, t3, t4, t5⟩ := hfr f hf'
    exact ⟨t1, t2, t3, t4, fr_S_up (fun _ _ w => w) (fun _ w => w) (fun _ _ w => w) (Nat.le_succ _) t5⟩
/-- asked, and nothing changes but that it ends or fails -/
theorem rm_quiet {T : List Nat → Option vv_L} {nf bo np : Nat} {K0 N0 Z0 D0 I0 W0 P0 : Nat → Int32} {xst xow xin xpa xfi xfr xno xsi xan xkn xen xco xrm xac : Int32} {K N Z D Im W P vS pO pX pI fS fP fI fU fR fO fA fH fG fN aS qL qR qP : Nat → Int32} {st : Nat} {V al : Nat → Prop} {g : Nat} {pa : List Nat} {n c rm a : Nat}
    (hX : md_X V al g pa bo np n c rm a st xfr xno xsi xen xco xrm xac K N Z D Im W P K0 N0 Z0 D0 I0 W0 P0 pO pX fP fU fR fO fA fH fG) (hv : mv_X V n xsi xan pO fP fI fH fN) (ha : ma_X V a aS)
    (hM : ∀ (mk0 pd0 : Nat) (v0 : SY), kn_F T np nf pO pX pI fS mk0 pd0 v0 → rm_M V pa g np n c rm a st xsi xan K N Z D W P pO pX pI fP fI fO fA fH fG fN aS mk0 pd0 v0) (es : xsi = 0) {s' : Int32} {k : Nat} (hk : 1 ≤ k) (hk2 : k ≤ 2) (hs' : s' = 2 ∨ s' = 3)
    (hYw : ∀ (mk0 pd0 mk pd nd : Nat) (yhe yvm : Int32) (yin : Int64) (yfi yde yic : Int32) (ys : Nat → Int64) (yk yn yp yf iK iN : Nat → Int32) (o0 l0 kS0 d0 : Nat → Int32) (pl0 : Nat → Int64) (yma ypo yap yas yto : Int32) (yan : Int64) (yco yti yna yac yen : Int32) (o l kS d : Nat → Int32) (pl : Nat → Int64) (yo : Nat → Int32) (yi : Nat → Int64) (yw ya y1 y2 : Nat → Int32) (yK : Nat → Int64) (yW : Nat → Int32) (yL : Nat → Int64) (yq nm : Nat → Int32) (nv : Nat → Int64) (no : Nat → Int32) (yA lf rt : Nat → Int64), md_Y V pa g np n c rm a st mk pd nd mk0 pd0 xsi xan K N Z D W P pO pX pI fP fI fO fA fH fG fN aS yma ypo yap yas yto yan yco yti yna yac yen o l kS d pl yk yn yp yo yi yw ya y1 y2 yK yW yL yq nm nv no yA o0 l0 kS0 d0 pl0 → ∀ Q : SY → Prop, (∀ w : Int64, Q (yma, ypo, yhe, yvm, yin, yfi, yde, yap, (nI pa.length), (s' - 1), w, yco, yti, yna, yac, yen, yic, o, l, kS, d, pl, ys, yk, yn, yp, yf, yo, yi, yw, ya, y1, y2, yK, yW, yL, yq, nm, nv, no, yA, lf, rt, iK, iN)) → wpY_start Q (yma, ypo, yhe, yvm, yin, yfi, yde, yap, yas, yto, yan, yco, yti, yna, yac, yen, yic, o, l, kS, d, pl, ys, yk, yn, yp, yf, yo, yi, yw, ya, y1, y2, yK, yW, yL, yq, nm, nv, no, yA, lf, rt, iK, iN) (nI g)) : rm_I T nf bo np K0 N0 Z0 D0 I0 W0 P0 (st + k) (xst, xow, xin, xpa, xfi, xfr, xno, s', xan, xkn, xen, xco, xrm, xac, K, N, Z, D, Im, W, P, vS, pO, pX, pI, fS, fP, fI, fU, fR, fO, fA, fH, fG, fN, aS, qL, qR, qP) := by
  subst es
  obtain ⟨hg, hn, hst, hlen, _⟩ := mx_f hX
  obtain ⟨⟨x1, x2, x3, x4, x5, x6, x7, x8, x9, x10⟩, hs, hh, hb, hf, hr, hG, hpot⟩ := hX
  have ns0 : ¬ s' = 0 := by rcases hs' with w | w <;> rw [w] <;> decide
  have ns1 : ¬ s' = 1 := by rcases hs' with w | w <;> rw [w] <;> decide
  refine ⟨V, al, g, pa, n, c, rm, a, ⟨⟨x1, x2, x3, x4, x5, x6, x7, x8, x9, x10⟩, hs'.elim (fun w => Or.inr (Or.inr (Or.inl w))) (fun w => Or.inr (Or.inr (Or.inr w))), hh, hb, fr_X_m hf (fun w => absurd w (fun w => w.elim ns0 ns1)), hr, fun f hf' => ?_, ?_⟩, mv_up hv (fun w => absurd w ns1), ha, fun mk0 pd0 v0 hF => ?_⟩
  · obtain ⟨gv', e1, e2⟩ := hG f hf'
    exact ⟨gv', e1, by omega⟩
  · have : md_ph s' (pa.length + 1) = 20 + 4 * (pa.length + 1) := by
      rcases hs' with w | w <;> rw [w]
      · exact md_ph_2 _
      · exact md_ph_3 _
    rw [md_ph_0] at hpot
    omega
  · have hm := hM mk0 pd0 v0 hF
    obtain ⟨yma0, ypo0, yhe0, yvm0, yin0, yfi0, yde0, yap0, yas0, yto0, yan0, yco0, yti0, yna0, yac0, yen0, yic0, o0, l0, kS0, d0, pl0, ys0, yk0, yn0, yp0, yf0, yo0, yi0, yw0, ya0, y10, y20, yK0, yW0, yL0, yq0, nm0, nv0, no0, yA0, lf0, rt0, iK0, iN0⟩ := v0
    refine ⟨fun w => absurd w ns0, fun _ post hp => ?_⟩
    obtain ⟨m, hp⟩ := hp
    refine hm.1 rfl post ⟨m + 1, fun mk pd nd yma ypo yap yas yto yan yco yti yna yac yen o l kS d pl yo yi yw ya y1 y2 yK yW yL yq nm nv no yA lf rt hY => ?_⟩
    have hY0 := hY
    obtain ⟨⟨b1, b2, b3, b4, b5, b6, b7, b8, b9, b10, b11⟩, hfl, hen, hhy, hby, hfr, han, hq0, hq1, hz1, hz2, hz3⟩ := hY
    obtain ⟨ea, eq⟩ := hq0 rfl
    refine ct_F b9 ea (by omega) eq.1 (hYw mk0 pd0 mk pd nd yhe0 yvm0 yin0 yfi0 yde0 yic0 ys0 yk0 yn0 yp0 yf0 iK0 iN0 o0 l0 kS0 d0 pl0 yma ypo yap yas yto yan yco yti yna yac yen o l kS d pl yo yi yw ya y1 y2 yK yW yL yq nm nv no yA lf rt hY0 _ (fun w => ?_))
    refine ct_told ea (by omega) rfl (hp mk pd nd yma ypo yap (nI pa.length) (s' - 1) w yco yti yna yac yen o l kS d pl yo yi yw ya y1 y2 yK yW yL yq nm nv no yA lf rt ⟨⟨b1, b2, b3, b4, b5, b6, b7, b8, b9, b10, b11⟩, hfl, hen, hhy, hby, fun f hf' => ?_, han, fun w => absurd w ns0, fun _ => ⟨rfl, eq.2⟩, fun w => absurd w ns1, fun w => by rw [w]; decide, fun w => by rw [w]; decide⟩)
    obtain ⟨t1, t2, t3, t4, t5⟩ := hfr f hf'
    exact ⟨t1, t2, t3, t4, fr_S_up (fun _ _ w => w) (fun _ w => w) (fun _ _ w => w) (by omega) t5⟩
theorem rm_pass {p : Nat} {pa' : List Nat} {T : List Nat → Option vv_L} {nf bo np : Nat} {K0 N0 Z0 D0 I0 W0 P0 : Nat → Int32} {xst xow xin xpa xfi xfr xno xsi xan xkn xen xco xrm xac : Int32} {K N Z D Im W P vS pO pX pI fS fP fI fU fR fO fA fH fG fN aS qL qR qP : Nat → Int32} {st : Nat} {V al : Nat → Prop} {g : Nat} {n c rm a : Nat}
    (hX : md_X V al g (p :: pa') bo np n c rm a st xfr xno xsi xen xco xrm xac K N Z D Im W P K0 N0 Z0 D0 I0 W0 P0 pO pX fP fU fR fO fA fH fG) (hv : mv_X V n xsi xan pO fP fI fH fN) (ha : ma_X V a aS)
    (hM : ∀ (mk0 pd0 : Nat) (v0 : SY), kn_F T np nf pO pX pI fS mk0 pd0 v0 → rm_M V (p :: pa') g np n c rm a st xsi xan K N Z D W P pO pX pI fP fI fO fA fH fG fN aS mk0 pd0 v0) (es : xsi = 1) (n16 : fr_o pO fP p ≠ 16) (n35 : fr_o pO fP p ≠ 35) {gv : Nat} {xan' : Int32} (hgv : gv ≤ st + 1) (hy0 : nI gv = 0 → fG p = 0) (hxv : ∃ s, xan' = nI s ∧ V s)
    (hYw : ∀ (mk0 pd0 mk pd nd : Nat) (yhe yvm : Int32) (yin : Int64) (yfi yde yic : Int32) (ys : Nat → Int64) (yk yn yp yf iK iN : Nat → Int32) (o0 l0 kS0 d0 : Nat → Int32) (pl0 : Nat → Int64) (yma ypo yap yas yto : Int32) (yan : Int64) (yco yti yna yac yen : Int32) (o l kS d : Nat → Int32) (pl : Nat → Int64) (yo : Nat → Int32) (yi : Nat → Int64) (yw ya y1 y2 : Nat → Int32) (yK : Nat → Int64) (yW : Nat → Int32) (yL : Nat → Int64) (yq nm : Nat → Int32) (nv : Nat → Int64) (no : Nat → Int32) (yA lf rt : Nat → Int64), md_Y V (p :: pa') g np n c rm a st mk pd nd mk0 pd0 xsi xan K N Z D W P pO pX pI fP fI fO fA fH fG fN aS yma ypo yap yas yto yan yco yti yna yac yen o l kS d pl yk yn yp yo yi yw ya y1 y2 yK yW yL yq nm nv no yA o0 l0 kS0 d0 pl0 → ∀ Q : SY → Prop, (∀ (y' : Int32) (w : Int64), vv_R V K N Z D P mk o l kS d pl xan' w →
      fr_S (vv_R V K N Z D P mk o l kS d pl) (md_ea Z) (md_dp Z W P) (fr_o pO fP p) (pX (fP p).toNatClampNeg) (st + 1) (fI p) (nI gv) (fA p) (fO p) (fH p) (ya p) (y1 p) (y2 p) y' (yK p) (yL p) →
      Q (yma, ypo, yhe, yvm, yin, yfi, yde, yap, (nI pa'.length), 0, w, yco, yti, yna, yac, yen, yic, o, l, kS, d, pl, ys, yk, yn, yp, yf, yo, yi, yw, ya, y1, y2, yK, (upd yW p y'), yL, yq, nm, nv, no, yA, lf, rt, iK, iN)) → wpY_goOn Q (yma, ypo, yhe, yvm, yin, yfi, yde, yap, yas, yto, yan, yco, yti, yna, yac, yen, yic, o, l, kS, d, pl, ys, yk, yn, yp, yf, yo, yi, yw, ya, y1, y2, yK, yW, yL, yq, nm, nv, no, yA, lf, rt, iK, iN) (nI p)) : rm_I T nf bo np K0 N0 Z0 D0 I0 W0 P0 (st + 1) (xst, xow, xin, xpa, xfi, xfr, (nI p), 1, xan', xkn, xen, xco, xrm, xac, K, N, Z, D, Im, W, P, vS, pO, pX, pI, fS, fP, fI, fU, fR, fO, fA, fH, (upd fG p (nI gv)), fN, aS, qL, qR, qP) := by
  subst es
  obtain ⟨hg, hn, hst, hlen, _⟩ := mx_f hX
  obtain ⟨⟨x1, x2, x3, x4, x5, x6, x7, x8, x9, x10⟩, hs, hh, hb, hf, hr, hG, hpot⟩ := hX
  have hpc := fr_pa_lt _ _ hf.2.2.1 p List.mem_cons_self
  have hpn : p < n := by omega
  rw [List.length_cons] at hlen hpot
  have hal : al g := hf.2.2.2.1 g List.mem_cons_self
  have hAp : fA p = nI g := hf.2.2.1.2.2.1
  have hgl : g ∉ p :: pa' := fun w => by have := fr_pa_lt _ _ hf.2.2.1 g w; omega
  have hfx : fr_X pO pX np n fP fU fR fO fA (upd fG p (nI gv)) al (p :: pa') True := by
    refine fr_X_rest (fr_X_G (fr_X_pop (fr_X_m hf (fun _ => Or.inr rfl))) (nI gv)) ⟨fun w => w.1.elim n16 n35, fun _ _ _ => ?_⟩
    rw [hAp, nI_clamp (by omega)]
    exact ⟨hal, hgl⟩
  refine ⟨V, al, p, pa', n, c, rm, a, ⟨⟨x1, rfl, x3, x4, x5, x6, x7, x8, x9, x10⟩, Or.inr (Or.inl rfl), hh, md_bx_G hb n16, fr_X_m hfx (fun _ => trivial), ?_, fun f hf' => ?_, ?_⟩, mv_up hv (fun _ => hxv), ha, fun mk0 pd0 v0 hF => ?_⟩
  · have := md_w2_u (fA := fA) (fG := fG) (y := nI gv) hpn hy0
    omega
  · by_cases e : f = p
    · subst e
      exact ⟨gv, pk_us, hgv⟩
    · obtain ⟨gv', e1, e2⟩ := hG f hf'
      exact ⟨gv', (pk_un e).trans e1, by omega⟩
  · have := md_w1_u (fO := fO) (fA := fA) (fG := fG) (y := nI gv) hpn hy0
    rw [md_ph_1] at hpot ⊢
    omega
  · have hm := hM mk0 pd0 v0 hF
    obtain ⟨yma0, ypo0, yhe0, yvm0, yin0, yfi0, yde0, yap0, yas0, yto0, yan0, yco0, yti0, yna0, yac0, yen0, yic0, o0, l0, kS0, d0, pl0, ys0, yk0, yn0, yp0, yf0, yo0, yi0, yw0, ya0, y10, y20, yK0, yW0, yL0, yq0, nm0, nv0, no0, yA0, lf0, rt0, iK0, iN0⟩ := v0
    refine ⟨fun w => absurd w (by decide), fun _ post hp => ?_⟩
    obtain ⟨m, hp⟩ := hp
    refine hm.2 (by decide) post ⟨m + 1, fun mk pd nd yma ypo yap yas yto yan yco yti yna yac yen o l kS d pl yo yi yw ya y1 y2 yK yW yL yq nm nv no yA lf rt hY => ?_⟩
    have hY0 := hY
    obtain ⟨⟨b1, b2, b3, b4, b5, b6, b7, b8, b9, b10, b11⟩, hfl, hen, hhy, hby, hfr, han, hq0, hq1, hz1, hz2, hz3⟩ := hY
    obtain ⟨ea, eq⟩ := hq1 (by decide)
    rw [List.length_cons] at ea
    refine ct_T b9 b5 ea (by omega) eq.1 (hYw mk0 pd0 mk pd nd yhe0 yvm0 yin0 yfi0 yde0 yic0 ys0 yk0 yn0 yp0 yf0 iK0 iN0 o0 l0 kS0 d0 pl0 yma ypo yap yas yto yan yco yti yna yac yen o l kS d pl yo yi yw ya y1 y2 yK yW yL yq nm nv no yA lf rt hY0 _ (fun y' w hR hS => ?_))
    refine ct_told ea (by omega) rfl (hp mk pd nd yma ypo yap (nI pa'.length) 0 w yco yti yna yac yen o l kS d pl yo yi yw ya y1 y2 yK (upd yW p y') yL yq nm nv no yA lf rt ⟨⟨b1, b2, b3, b4, b5, b6, b7, b8, b9, b10, b11.1, by rw [md_w3_G n16]; exact b11.2⟩, hfl, hen, hhy, md_by_G hby n16, fun f hf' => ?_, han, fun w => absurd w (by decide), fun _ => ⟨rfl, eq.2⟩, fun _ => ⟨rfl, hR⟩, fun w => absurd w (by decide), fun w => absurd w (by decide)⟩)
    obtain ⟨t1, t2, t3, t4, t5⟩ := hfr f hf'
    refine ⟨t1, t2, t3, t4, ?_⟩
    by_cases e : f = p
    · subst e
      rw [pk_us, pk_us]
      exact hS
    · rw [pk_un e, pk_un e]
      exact fr_S_up (fun _ _ w => w) (fun _ w => w) (fun _ _ w => w) (Nat.le_succ _) t5
theorem rm_down {T : List Nat → Option vv_L} {nf bo np : Nat} {K0 N0 Z0 D0 I0 W0 P0 : Nat → Int32} {xst xow xin xpa xfi xfr xno xsi xan xkn xen xco xrm xac : Int32} {K N Z D Im W P vS pO pX pI fS fP fI fU fR fO fA fH fG fN aS qL qR qP : Nat → Int32} {st : Nat} {V al : Nat → Prop} {g : Nat} {pa : List Nat} {n c rm a : Nat}
    (hX : md_X V al g pa bo np n c rm a st xfr xno xsi xen xco xrm xac K N Z D Im W P K0 N0 Z0 D0 I0 W0 P0 pO pX fP fU fR fO fA fH fG) (hv : mv_X V n xsi xan pO fP fI fH fN) (ha : ma_X V a aS)
    (hM : ∀ (mk0 pd0 : Nat) (v0 : SY), kn_F T np nf pO pX pI fS mk0 pd0 v0 → rm_M V pa g np n c rm a st xsi xan K N Z D W P pO pX pI fP fI fO fA fH fG fN aS mk0 pd0 v0) (es : xsi = 0) {ch : Nat} (hA : fA g = nI ch) (hch : ch < 600) (n16 : fr_o pO fP g ≠ 16) (n35 : fr_o pO fP g ≠ 35) (hrun : fr_run pO pX fP fG g)
    (hYw : ∀ (mk0 pd0 mk pd nd : Nat) (yhe yvm : Int32) (yin : Int64) (yfi yde yic : Int32) (ys : Nat → Int64) (yk yn yp yf iK iN : Nat → Int32) (o0 l0 kS0 d0 : Nat → Int32) (pl0 : Nat → Int64) (yma ypo yap yas yto : Int32) (yan : Int64) (yco yti yna yac yen : Int32) (o l kS d : Nat → Int32) (pl : Nat → Int64) (yo : Nat → Int32) (yi : Nat → Int64) (yw ya y1 y2 : Nat → Int32) (yK : Nat → Int64) (yW : Nat → Int32) (yL : Nat → Int64) (yq nm : Nat → Int32) (nv : Nat → Int64) (no : Nat → Int32) (yA lf rt : Nat → Int64), md_Y V pa g np n c rm a st mk pd nd mk0 pd0 xsi xan K N Z D W P pO pX pI fP fI fO fA fH fG fN aS yma ypo yap yas yto yan yco yti yna yac yen o l kS d pl yk yn yp yo yi yw ya y1 y2 yK yW yL yq nm nv no yA o0 l0 kS0 d0 pl0 → ∀ Q : SY → Prop, Q (yma, ypo, yhe, yvm, yin, yfi, yde, yap, (nI (pa.length + 2)), yto, yan, yco, yti, yna, yac, yen, yic, o, l, kS, d, pl, ys, yk, yn, yp, yf, yo, yi, yw, ya, y1, y2, yK, yW, yL, (upd yq (pa.length + 1) (nI ch)), nm, nv, no, yA, lf, rt, iK, iN) → wpY_start Q (yma, ypo, yhe, yvm, yin, yfi, yde, yap, yas, yto, yan, yco, yti, yna, yac, yen, yic, o, l, kS, d, pl, ys, yk, yn, yp, yf, yo, yi, yw, ya, y1, y2, yK, yW, yL, yq, nm, nv, no, yA, lf, rt, iK, iN) (nI g)) : rm_I T nf bo np K0 N0 Z0 D0 I0 W0 P0 (st + 1) (xst, xow, xin, xpa, xfi, xfr, (nI ch), xsi, xan, xkn, xen, xco, xrm, xac, K, N, Z, D, Im, W, P, vS, pO, pX, pI, fS, fP, fI, fU, fR, fO, fA, fH, fG, fN, aS, qL, qR, qP) := by
  subst es
  obtain ⟨hg, hn, hst, hlen, _⟩ := mx_f hX
  obtain ⟨⟨x1, x2, x3, x4, x5, x6, x7, x8, x9, x10⟩, hs, hh, hb, hf, hr, hG, hpot⟩ := hX
  have hf0 := hf
  obtain ⟨h0, h1, h2, h3, h4, h5, h6⟩ := hf
  have hal : al g := h3 g List.mem_cons_self
  obtain ⟨_, hrs⟩ := h5 g hal (Or.inr ⟨Or.inl rfl, rfl⟩)
  obtain ⟨hac, hcl⟩ := hrs n16 n35 (by rw [hA]; exact fr_n1 hch)
  rw [hA, nI_clamp (by omega)] at hac hcl
  have hkid : g < ch ∧ fU ch = nI g := by
    obtain ⟨_, _, k⟩ := h1 g hg
    rcases k with k | ⟨⟨c', e1, e2, e3, e4, e5⟩, _⟩
    · exact absurd (hA.symm.trans k) (fr_n1 hch)
    · have : c' = ch := (nI_eq (by omega) (by omega)).mp (e1.symm.trans hA)
      subst this
      exact ⟨e2, e4⟩
  have hfx := fr_X_push (fr_X_w hf0) hA hac hcl hrun hkid.1 hkid.2
  refine ⟨V, al, ch, g :: pa, n, c, rm, a, ⟨⟨x1, rfl, x3, x4, x5, x6, x7, x8, x9, x10⟩, Or.inl rfl, hh, hb, fr_X_m hfx (fun _ => trivial), hr, fun f hf' => ?_, ?_⟩, hv, ha, fun mk0 pd0 v0 hF => ?_⟩
  · obtain ⟨gv', e1, e2⟩ := hG f hf'
    exact ⟨gv', e1, by omega⟩
  · rw [md_ph_0] at hpot ⊢
    rw [List.length_cons]
    omega
  · have hm := hM mk0 pd0 v0 hF
    obtain ⟨yma0, ypo0, yhe0, yvm0, yin0, yfi0, yde0, yap0, yas0, yto0, yan0, yco0, yti0, yna0, yac0, yen0, yic0, o0, l0, kS0, d0, pl0, ys0, yk0, yn0, yp0, yf0, yo0, yi0, yw0, ya0, y10, y20, yK0, yW0, yL0, yq0, nm0, nv0, no0, yA0, lf0, rt0, iK0, iN0⟩ := v0
    refine ⟨fun _ post hp => ?_, fun w => absurd rfl w⟩
    obtain ⟨m, hp⟩ := hp
    refine hm.1 rfl post ⟨m + 1, fun mk pd nd yma ypo yap yas yto yan yco yti yna yac yen o l kS d pl yo yi yw ya y1 y2 yK yW yL yq nm nv no yA lf rt hY => ?_⟩
    have hY0 := hY
    obtain ⟨⟨b1, b2, b3, b4, b5, b6, b7, b8, b9, b10, b11⟩, hfl, hen, hhy, hby, hfr, han, hq0, hq1, hz1, hz2, hz3⟩ := hY
    obtain ⟨ea, eq⟩ := hq0 rfl
    refine ct_F b9 ea (by omega) eq.1 (hYw mk0 pd0 mk pd nd yhe0 yvm0 yin0 yfi0 yde0 yic0 ys0 yk0 yn0 yp0 yf0 iK0 iN0 o0 l0 kS0 d0 pl0 yma ypo yap yas yto yan yco yti yna yac yen o l kS d pl yo yi yw ya y1 y2 yK yW yL yq nm nv no yA lf rt hY0 _ ?_)
    refine ct_asked ea (by omega) rfl b5 (hp mk pd nd yma ypo yap (nI (pa.length + 2)) yto yan yco yti yna yac yen o l kS d pl yo yi yw ya y1 y2 yK yW yL (upd yq (pa.length + 1) (nI ch)) nm nv no yA lf rt ⟨⟨b1, b2, b3, b4, b5, b6, b7, b8, b9, b10, b11⟩, hfl, hen, hhy, hby, fun f hf' => ?_, han, fun _ => ⟨rfl, pk_us, md_qu eq (by rw [List.length_cons]; exact Nat.le_refl _)⟩, fun w => absurd rfl w, fun w => absurd w (by decide), fun w => absurd w (by decide), fun w => absurd w (by decide)⟩)
    obtain ⟨t1, t2, t3, t4, t5⟩ := hfr f hf'
    exact ⟨t1, t2, t3, t4, fr_S_up (fun _ _ w => w) (fun _ w => w) (fun _ _ w => w) (Nat.le_succ _) t5⟩
