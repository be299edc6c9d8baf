/-! ===== the run ends ===== -/
theorem re_mk {T : List Nat → Option vv_L} {nf bo np : Nat} {K0 N0 Z0 D0 I0 W0 P0 : Nat → Int32} {xst xow xin xpa xfi xfr xno xsi xan xkn xen xco xrm xac : Int32} {K N Z D Im W P vS pO pX pI fS fP fI fU fR fO fA fH fG fN aS qL qR qP : Nat → Int32} {K' N' Z' aS' fP' fI' fU' fR' fO' fA' fH' fG' fN' : Nat → Int32} {xen' xco' xac' xfr' xno' xsi' xan' xrm' : Int32} {st : Nat} {V al : Nat → Prop} {g : Nat} {pa : List Nat} {n c rm a a' : Nat}
    (hX : md_X V al g pa bo np n c rm a st xfr xno xsi xen xco xrm xac K N Z D Im W P K0 N0 Z0 D0 I0 W0 P0 pO pX fP fU fR fO fA fH fG)
    (hM : ∀ (mk0 pd0 : Nat) (v0 : SY), kn_F T np nf pO pX pI fS mk0 pd0 v0 → rn_M V pa g np n c rm a st xsi xan K N Z D W P pO pX pI fP fI fO fA fH fG fN aS mk0 pd0 v0)
    (hen : ¬ xen' = -1) (ha : xac' = nI a') (ha' : a' ≤ 20) (hK : ∀ s, V s ∨ s < 53 → K' s = K s ∧ N' s = N s ∧ Z' s = Z s)
    (hYw : ∀ (mk0 pd0 : Nat) (v0 : SY), kn_F T np nf pO pX pI fS mk0 pd0 v0 → match v0 with
      | (yma0, ypo0, yhe0, yvm0, yin0, yfi0, yde0, yap0, yas0, yto0, yan0, yco0, yti0, yna0, yac0, yen0, yic0, o0, l0, kS0, d0, pl0, ys0, yk0, yn0, yp0, yf0, yo0, yi0, yw0, ya0, y10, y20, yK0, yW0, yL0, yq0, nm0, nv0, no0, yA0, lf0, rt0, iK0, iN0) => ∀ (mk pd nd : Nat) (yma ypo yap yas yto : Int32) (yan : Int64) (yco yti yna yac yen : Int32) (o l kS d : Nat → Int32) (pl : Nat → Int64) (yo : Nat → Int32) (yi : Nat → Int64) (yw ya y1 y2 : Nat → Int32) (yK : Nat → Int64) (yW : Nat → Int32) (yL : Nat → Int64) (yq nm : Nat → Int32) (nv : Nat → Int64) (no : Nat → Int32) (yA lf rt : Nat → Int64),
        md_Y V pa g np n c rm a st mk pd nd mk0 pd0 xsi xan K N Z D W P pO pX pI fP fI fO fA fH fG fN aS yma ypo yap yas yto yan yco yti yna yac yen o l kS d pl yk0 yn0 yp0 yo yi yw ya y1 y2 yK yW yL yq nm nv no yA o0 l0 kS0 d0 pl0 →
        (xsi = 0 → cr_F v0 mk0 pd0 (yma, ypo, yhe0, yvm0, yin0, yfi0, yde0, yap, yas, yto, yan, yco, yti, yna, yac, yen, yic0, o, l, kS, d, pl, ys0, yk0, yn0, yp0, yf0, yo, yi, yw, ya, y1, y2, yK, yW, yL, yq, nm, nv, no, yA, lf, rt, iK0, iN0)) →
        (xsi ≠ 0 → cr_T v0 mk0 pd0 (yma, ypo, yhe0, yvm0, yin0, yfi0, yde0, yap, yas, yto, yan, yco, yti, yna, yac, yen, yic0, o, l, kS, d, pl, ys0, yk0, yn0, yp0, yf0, yo, yi, yw, ya, y1, y2, yK, yW, yL, yq, nm, nv, no, yA, lf, rt, iK0, iN0)) →
        ∃ (yma ypo yap yas yto : Int32) (yan : Int64) (yti yna : Int32) (yo : Nat → Int32) (yi : Nat → Int64) (yw ya y1 y2 : Nat → Int32) (yK : Nat → Int64) (yW : Nat → Int32) (yL : Nat → Int64) (yq nm : Nat → Int32) (nv : Nat → Int64) (no : Nat → Int32) (yA' lf rt : Nat → Int64),
          (∀ i, i < a' → vv_R V K N Z D P mk o l kS d pl (aS' i) (yA' i)) ∧ cr_E v0 mk0 pd0 (yma, ypo, yhe0, yvm0, yin0, yfi0, yde0, yap, yas, yto, yan, xco', yti, yna, xac', xen', yic0, o, l, kS, d, pl, ys0, yk0, yn0, yp0, yf0, yo, yi, yw, ya, y1, y2, yK, yW, yL, yq, nm, nv, no, yA', lf, rt, iK0, iN0)) :
    rn_E T nf bo np K0 N0 Z0 D0 I0 W0 P0 (xst, xow, xin, xpa, xfi, xfr', xno', xsi', xan', xkn, xen', xco', xrm', xac', K', N', Z', D, Im, W, P, vS, pO, pX, pI, fS, fP', fI', fU', fR', fO', fA', fH', fG', fN', aS', qL, qR, qP) := by
  obtain ⟨⟨x1, x2, x3, x4, x5, x6, x7, x8, x9, x10⟩, hs, hh, hb, hf, hr, hG, hpot⟩ := hX
  obtain ⟨k1, k2, k3, k4, k5⟩ := hh
  have hveq : vv_eq V K N Z D Im W P K' N' Z' D Im W P := fun s hs => by
    obtain ⟨e1, e2, e3⟩ := hK s (Or.inl hs)
    exact ⟨e1, e2, e3, rfl, rfl, rfl, fun _ _ => rfl⟩
  refine ⟨hen, V, a', vv_ox_eq k1 hveq, fun s hs => (k2 s hs).1, fun s hs => ?_, ha, ha', fun mk0 pd0 v0 hF => ?_⟩
  · obtain ⟨e1, e2, e3⟩ := hK s (Or.inr hs)
    obtain ⟨f1, f2, f3, f4, f5, f6, f7⟩ := k5 s hs
    exact ⟨e1.trans f1, e2.trans f2, e3.trans f3, f4, f5, f6, f7⟩
  · have hy := hYw mk0 pd0 v0 hF
    have hm := hM mk0 pd0 v0 hF
    obtain ⟨yma0, ypo0, yhe0, yvm0, yin0, yfi0, yde0, yap0, yas0, yto0, yan0, yco0, yti0, yna0, yac0, yen0, yic0, o0, l0, kS0, d0, pl0, ys0, yk0, yn0, yp0, yf0, yo0, yi0, yw0, ya0, y10, y20, yK0, yW0, yL0, yq0, nm0, nv0, no0, yA0, lf0, rt0, iK0, iN0⟩ := v0
    obtain ⟨mk, pd, nd, yma, ypo, yap, yas, yto, yan, yco, yti, yna, yac, yen, o, l, kS, d, pl, yo, yi, yw, ya, y1, y2, yK, yW, yL, yq, nm, nv, no, yA, lf, rt, hY, hcF, hcT⟩ := hm
    have hY0 := hY
    obtain ⟨⟨b1, b2, b3, b4, b5, b6, b7, b8, b9, b10, b11⟩, hfl, hen, hhy, hby, hfr, han, hq0, hq1, hz1, hz2, hz3⟩ := hY
    obtain ⟨yma', ypo', yap', yas', yto', yan', yti', yna', yo', yi', yw', ya', y1', y2', yK', yW', yL', yq', nm', nv', no', yA', lf', rt', hR, hE⟩ := hy mk pd nd yma ypo yap yas yto yan yco yti yna yac yen o l kS d pl yo yi yw ya y1 y2 yK yW yL yq nm nv no yA lf rt hY0 hcF hcT
    obtain ⟨c1, c2, c3, c4, c5, c6, c7⟩ := hhy
    exact ⟨mk, pd, yma', ypo', yap', yas', yto', yan', xco', yti', yna', xac', xen', o, l, kS, d, pl, yo', yi', yw', ya', y1', y2', yK', yW', yL', yq', nm', nv', no', yA', lf', rt', rfl, rfl, rfl, c1, c6, c7, fun i hi => vv_R_ux k1 c1 hveq (fun _ z => z) (hR i hi), hE⟩
/-- the whole filter has answered, ended or failed -/
theorem cs_root {T : List Nat → Option vv_L} {nf bo np : Nat} {K0 N0 Z0 D0 I0 W0 P0 : Nat → Int32} {xst xow xin xpa xfi xfr xno xsi xan xkn xen xco xrm xac : Int32} {K N Z D Im W P vS pO pX pI fS fP fI fU fR fO fA fH fG fN aS qL qR qP : Nat → Int32} {post : SX → Prop} {st : Nat} {V al : Nat → Prop} {g : Nat} {pa : List Nat} {n c rm a : Nat}
    (H : ∀ st', st < st' → ∀ (xfr xno xsi xan xen xco xrm xac : Int32) (K N Z D Im W P fP fI fU fR fO fA fH fG fN aS qL qR qP : Nat → Int32), rn_I T nf bo np K0 N0 Z0 D0 I0 W0 P0 st' (xst, xow, xin, xpa, xfi, xfr, xno, xsi, xan, xkn, xen, xco, xrm, xac, K, N, Z, D, Im, W, P, vS, pO, pX, pI, fS, fP, fI, fU, fR, fO, fA, fH, fG, fN, aS, qL, qR, qP) → wX_workOut_68 post (1000001 - st') (nI st') xst xow xin xpa xfi xfr xno xsi xan xkn xen xco xrm xac K N Z D Im W P vS pO pX pI fS fP fI fU fR fO fA fH fG fN aS qL qR qP)
    (hX : md_X V al g [] bo np n c rm a st xfr xno xsi xen xco xrm xac K N Z D Im W P K0 N0 Z0 D0 I0 W0 P0 pO pX fP fU fR fO fA fH fG)
    (hM : ∀ (mk0 pd0 : Nat) (v0 : SY), kn_F T np nf pO pX pI fS mk0 pd0 v0 → rn_M V [] g np n c rm a st xsi xan K N Z D W P pO pX pI fP fI fO fA fH fG fN aS mk0 pd0 v0) (HE : ∀ (xfr xno xsi xan xen xco xrm xac : Int32) (K N Z D Im W P fP fI fU fR fO fA fH fG fN aS qL qR qP : Nat → Int32), rn_E T nf bo np K0 N0 Z0 D0 I0 W0 P0 (xst, xow, xin, xpa, xfi, xfr, xno, xsi, xan, xkn, xen, xco, xrm, xac, K, N, Z, D, Im, W, P, vS, pO, pX, pI, fS, fP, fI, fU, fR, fO, fA, fH, fG, fN, aS, qL, qR, qP) → post (xst, xow, xin, xpa, xfi, xfr, xno, xsi, xan, xkn, xen, xco, xrm, xac, K, N, Z, D, Im, W, P, vS, pO, pX, pI, fS, fP, fI, fU, fR, fO, fA, fH, fG, fN, aS, qL, qR, qP)) (es : xsi = 1 ∨ xsi = 2 ∨ xsi = 3) : wX_workOut_68 post (1000001 - st) (nI st) xst xow xin xpa xfi xfr xno xsi xan xkn xen xco xrm xac K N Z D Im W P vS pO pX pI fS fP fI fU fR fO fA fH fG fN aS qL qR qP := by
  obtain ⟨hg, hn, hst, hlen, _⟩ := mx_f hX
  have hX0 := hX
  obtain ⟨⟨x1, x2, x3, x4, x5, x6, x7, x8, x9, x10⟩, hs, hh, hb, hf, hr, hG, hpot⟩ := hX
  have hpa := hf.2.2.1
  have nx0 : xsi ≠ 0 := by rcases es with w | w | w <;> rw [w] <;> decide
  have eU : fU g = -1 := by
    obtain ⟨e1, e2⟩ := hpa
    rw [e1]; exact e2
  have g0 : g = 0 := hpa.1
  refine xs_whole (by omega) x3 es x2 (by omega) eU (xh_whole x6 x7 (fun e2 => ?_) (fun e3 => ?_) (fun e1 n20 => ?_) (fun e1 e20 => ?_) es)
  · refine rn_K_i (xs_end (by omega) (by decide) (HE _ _ _ _ _ _ _ _ _ _ _ _ _ _ _ _ _ _ _ _ _ _ _ _ _ _ _ _ (re_mk (a' := a) hX0 hM (by decide) x6 (by omega) (fun _ _ => ⟨rfl, rfl, rfl⟩) (fun mk0 pd0 v0 hF => ?_))))
    obtain ⟨yma0, ypo0, yhe0, yvm0, yin0, yfi0, yde0, yap0, yas0, yto0, yan0, yco0, yti0, yna0, yac0, yen0, yic0, o0, l0, kS0, d0, pl0, ys0, yk0, yn0, yp0, yf0, yo0, yi0, yw0, ya0, y10, y20, yK0, yW0, yL0, yq0, nm0, nv0, no0, yA0, lf0, rt0, iK0, iN0⟩ := v0
    intro mk pd nd yma ypo yap yas yto yan yco yti yna yac yen o l kS d pl yo yi yw ya y1 y2 yK yW yL yq nm nv no yA lf rt hY hcF hcT
    obtain ⟨⟨b1, b2, b3, b4, b5, b6, b7, b8, b9, b10, b11⟩, hfl, hen, hhy, hby, hfr, han, hq0, hq1, hz1, hz2, hz3⟩ := hY
    obtain ⟨ea, eq⟩ := hq1 nx0
    refine ⟨yma, ypo, yap, yas, yto, yan, yti, yna, yo, yi, yw, ya, y1, y2, yK, yW, yL, yq, nm, nv, no, yA, lf, rt, han, ?_⟩
    rw [x4, ← b4, x6, ← b8]
    exact cr_R1 (hcT nx0) b5 ea (Or.inl (hz2 e2)) ⟨fun _ => rfl, fun w => absurd ((hz2 e2).symm.trans w) (by decide)⟩
  · refine rn_K_i (xs_end (by omega) (by decide) (HE _ _ _ _ _ _ _ _ _ _ _ _ _ _ _ _ _ _ _ _ _ _ _ _ _ _ _ _ (re_mk (a' := a) hX0 hM (by decide) x6 (by omega) (fun _ _ => ⟨rfl, rfl, rfl⟩) (fun mk0 pd0 v0 hF => ?_))))
    obtain ⟨yma0, ypo0, yhe0, yvm0, yin0, yfi0, yde0, yap0, yas0, yto0, yan0, yco0, yti0, yna0, yac0, yen0, yic0, o0, l0, kS0, d0, pl0, ys0, yk0, yn0, yp0, yf0, yo0, yi0, yw0, ya0, y10, y20, yK0, yW0, yL0, yq0, nm0, nv0, no0, yA0, lf0, rt0, iK0, iN0⟩ := v0
    intro mk pd nd yma ypo yap yas yto yan yco yti yna yac yen o l kS d pl yo yi yw ya y1 y2 yK yW yL yq nm nv no yA lf rt hY hcF hcT
    obtain ⟨⟨b1, b2, b3, b4, b5, b6, b7, b8, b9, b10, b11⟩, hfl, hen, hhy, hby, hfr, han, hq0, hq1, hz1, hz2, hz3⟩ := hY
    obtain ⟨ea, eq⟩ := hq1 nx0
    refine ⟨yma, ypo, yap, yas, yto, yan, yti, yna, yo, yi, yw, ya, y1, y2, yK, yW, yL, yq, nm, nv, no, yA, lf, rt, han, ?_⟩
    rw [x4, ← b4, x6, ← b8]
    exact cr_R1 (hcT nx0) b5 ea (Or.inr (hz3 e3)) ⟨fun w => absurd ((hz3 e3).symm.trans w) (by decide), fun _ => rfl⟩
  · refine rn_K_i (H (st + 1) (by omega) _ _ _ _ _ _ _ _ _ _ _ _ _ _ _ _ _ _ _ _ _ _ _ _ _ _ _ _ ⟨V, al, g, [], n, c, rm, a + 1, ⟨⟨x1, x2, x3, x4, x5, rfl, by omega, x8, x9, x10⟩, Or.inl rfl, hh, hb, fr_X_m hf (fun _ => Or.inr e1), hr, fun f hf' => ?_, ?_⟩, fun mk0 pd0 v0 hF => ?_⟩)
    · obtain ⟨gv', e1, e2⟩ := hG f hf'
      exact ⟨gv', e1, by omega⟩
    · rw [e1, md_ph_1] at hpot
      rw [md_ph_0]
      omega
    · have hm := hM mk0 pd0 v0 hF
      obtain ⟨yma0, ypo0, yhe0, yvm0, yin0, yfi0, yde0, yap0, yas0, yto0, yan0, yco0, yti0, yna0, yac0, yen0, yic0, o0, l0, kS0, d0, pl0, ys0, yk0, yn0, yp0, yf0, yo0, yi0, yw0, ya0, y10, y20, yK0, yW0, yL0, yq0, nm0, nv0, no0, yA0, lf0, rt0, iK0, iN0⟩ := v0
      obtain ⟨mk, pd, nd, yma, ypo, yap, yas, yto, yan, yco, yti, yna, yac, yen, o, l, kS, d, pl, yo, yi, yw, ya, y1, y2, yK, yW, yL, yq, nm, nv, no, yA, lf, rt, hY, hcF, hcT⟩ := hm
      obtain ⟨⟨b1, b2, b3, b4, b5, b6, b7, b8, b9, b10, b11⟩, hfl, hen, hhy, hby, hfr, han, hq0, hq1, hz1, hz2, hz3⟩ := hY
      obtain ⟨ea, eq⟩ := hq1 nx0
      obtain ⟨z1, z2⟩ := hz1 e1
      refine ⟨mk, pd, nd, yma, ypo, yap, nI 1, yto, yan, yco, yti, yna, nI (a + 1), yen, o, l, kS, d, pl, yo, yi, yw, ya, y1, y2, yK, yW, yL, upd yq 0 0, nm, nv, no, vp_updL yA a yan, lf, rt, ⟨⟨b1, b2, b3, b4, b5, b6, b7, rfl, b9, b10, b11⟩, hfl, hen, hhy, hby, fun f hf' => ?_, fun i hi => ?_, fun _ => ⟨rfl, ?_⟩, fun w => absurd rfl w, fun w => absurd w (by decide), fun w => absurd w (by decide), fun w => absurd w (by decide)⟩, fun _ => cr_R0 (hcT nx0) b9 b5 ea z1 b8 (by omega), fun w => absurd rfl w⟩
      · obtain ⟨t1, t2, t3, t4, t5⟩ := hfr f hf'
        exact ⟨t1, t2, t3, t4, fr_S_up (fun _ _ w => w) (fun _ w => w) (fun _ _ w => w) (Nat.le_succ _) t5⟩
      · by_cases ei : i = a
        · subst ei
          rw [pk_us, pk_uLs]
          exact z2
        · rw [pk_un ei, pk_uLn ei]
          exact han i (by omega)
      · rw [g0]
        exact ⟨pk_us, trivial⟩
  · have ea19 : a = 19 := by omega
    subst ea19
    refine rn_K_i (xs_end (by omega) (by decide) (HE _ _ _ _ _ _ _ _ _ _ _ _ _ _ _ _ _ _ _ _ _ _ _ _ _ _ _ _ (re_mk (a' := 20) hX0 hM (by decide) rfl (by omega) (fun _ _ => ⟨rfl, rfl, rfl⟩) (fun mk0 pd0 v0 hF => ?_))))
    obtain ⟨yma0, ypo0, yhe0, yvm0, yin0, yfi0, yde0, yap0, yas0, yto0, yan0, yco0, yti0, yna0, yac0, yen0, yic0, o0, l0, kS0, d0, pl0, ys0, yk0, yn0, yp0, yf0, yo0, yi0, yw0, ya0, y10, y20, yK0, yW0, yL0, yq0, nm0, nv0, no0, yA0, lf0, rt0, iK0, iN0⟩ := v0
    intro mk pd nd yma ypo yap yas yto yan yco yti yna yac yen o l kS d pl yo yi yw ya y1 y2 yK yW yL yq nm nv no yA lf rt hY hcF hcT
    obtain ⟨⟨b1, b2, b3, b4, b5, b6, b7, b8, b9, b10, b11⟩, hfl, hen, hhy, hby, hfr, han, hq0, hq1, hz1, hz2, hz3⟩ := hY
    obtain ⟨ea, eq⟩ := hq1 nx0
    obtain ⟨z1, z2⟩ := hz1 e1
    refine ⟨yma, ypo, yap, nI 1, yto, yan, yti, yna, yo, yi, yw, ya, y1, y2, yK, yW, yL, upd yq 0 0, nm, nv, no, vp_updL yA 19 yan, lf, rt, fun i hi => ?_, ?_⟩
    · by_cases ei : i = 19
      · subst ei
        rw [pk_us, pk_uLs]
        exact z2
      · rw [pk_un ei, pk_uLn ei]
        exact han i (by omega)
    · rw [x4, ← b4]
      exact cr_R20 (hcT nx0) b9 b5 ea z1 b8 _ rfl
