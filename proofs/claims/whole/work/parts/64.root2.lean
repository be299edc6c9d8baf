/-! ===== the run's end: for all states of Y ===== -/
/-- the whole filter has answered, and is asked again -/
theorem ct_R0 {yma ypo yhe yvm : Int32} {yin : Int64} {yfi yde yap yas yto : Int32} {yan : Int64} {yco yti yna yac yen yic : Int32} {o l kS d : Nat → Int32} {pl ys : Nat → Int64} {yk yn yp yf yo : Nat → Int32} {yi : Nat → Int64} {yw ya y1 y2 : Nat → Int32} {yK : Nat → Int64} {yW : Nat → Int32} {yL : Nat → Int64} {yq nm : Nat → Int32} {nv : Nat → Int64} {no : Nat → Int32} {yA lf rt : Nat → Int64} {iK iN : Nat → Int32} {post : SY → Prop} {mk0 pd0 m a : Nat} (ht0 : yti = 0) (ea : yas = nI 0) (eo : yto = 0) (ec : yac = nI a) (ha : a + 1 < 20)
    (h : wY_work_79 post (nI mk0) (nI pd0) m 1 yma ypo yhe yvm yin yfi yde yap (nI 1) yto yan yco yti yna (nI (a + 1)) yen yic o l kS d pl ys yk yn yp yf yo yi yw ya y1 y2 yK yW yL (upd yq 0 0) nm nv no (vp_updL yA a yan) lf rt iK iN) : wY_work_146 post (wY_work_79 post (nI mk0) (nI pd0) m) (nI mk0) (nI pd0) 0 yma ypo yhe yvm yin yfi yde yap yas yto yan yco yti yna yac yen yic o l kS d pl ys yk yn yp yf yo yi yw ya y1 y2 yK yW yL yq nm nv no yA lf rt iK iN := by
  unfold wY_work_146
  refine br_t ht0 (br_t ea ?_)
  unfold wpY_takeAnswer
  dsimp only
  rw [ec, nI_clamp (show a < 2 ^ 31 by omega)]
  refine br_t eo ⟨vp_in_nI (by omega) (by omega), nm_e (nm_r (nI_1 a) (br_f (fun z => absurd ((nI_eq (b := 20) (by omega) (by omega)).mp z) (by omega)) ?_))⟩
  unfold wY_takeAnswer_67
  exact yr_askAgain (a := 0) ea (by omega) h
/-- the twentieth answer -/
theorem ct_R20 {yma ypo yhe yvm : Int32} {yin : Int64} {yfi yde yap yas yto : Int32} {yan : Int64} {yco yti yna yac yen yic : Int32} {o l kS d : Nat → Int32} {pl ys : Nat → Int64} {yk yn yp yf yo : Nat → Int32} {yi : Nat → Int64} {yw ya y1 y2 : Nat → Int32} {yK : Nat → Int64} {yW : Nat → Int32} {yL : Nat → Int64} {yq nm : Nat → Int32} {nv : Nat → Int64} {no : Nat → Int32} {yA lf rt : Nat → Int64} {iK iN : Nat → Int32} {post : SY → Prop} {mk0 pd0 m : Nat} (ht0 : yti = 0) (ea : yas = nI 0) (eo : yto = 0) (ec : yac = nI 19)
    (h : post ((nI mk0), (nI pd0), yhe, yvm, yin, yfi, yde, yap, (nI 1), yto, yan, yco, yti, yna, (nI 20), 1, yic, o, l, kS, d, pl, ys, yk, yn, yp, yf, yo, yi, yw, ya, y1, y2, yK, yW, yL, (upd yq 0 0), nm, nv, no, (vp_updL yA 19 yan), lf, rt, iK, iN)) : wY_work_146 post (wY_work_79 post (nI mk0) (nI pd0) (m + 1)) (nI mk0) (nI pd0) 0 yma ypo yhe yvm yin yfi yde yap yas yto yan yco yti yna yac yen yic o l kS d pl ys yk yn yp yf yo yi yw ya y1 y2 yK yW yL yq nm nv no yA lf rt iK iN := by
  unfold wY_work_146
  refine br_t ht0 (br_t ea ?_)
  unfold wpY_takeAnswer
  dsimp only
  rw [ec, nI_clamp (show 19 < 2 ^ 31 by omega)]
  refine br_t eo ⟨vp_in_nI (by omega) (by omega), nm_e (nm_r (nI_1 19) (br_t rfl ?_))⟩
  unfold wY_takeAnswer_67
  refine yr_askAgain (a := 0) ea (by omega) ?_
  dsimp only
  unfold wY_work_79
  exact br_f (by decide) h
/-- the whole filter has ended or failed -/
theorem ct_R1 {yma ypo yhe yvm : Int32} {yin : Int64} {yfi yde yap yas yto : Int32} {yan : Int64} {yco yti yna yac yen yic : Int32} {o l kS d : Nat → Int32} {pl ys : Nat → Int64} {yk yn yp yf yo : Nat → Int32} {yi : Nat → Int64} {yw ya y1 y2 : Nat → Int32} {yK : Nat → Int64} {yW : Nat → Int32} {yL : Nat → Int64} {yq nm : Nat → Int32} {nv : Nat → Int64} {no : Nat → Int32} {yA lf rt : Nat → Int64} {iK iN : Nat → Int32} {post : SY → Prop} {mk0 pd0 m : Nat} (ht0 : yti = 0) (ea : yas = nI 0) {e : Int32} (he : (yto = 1 ∧ e = 0) ∨ (yto = 2 ∧ e = 2))
    (h : post ((nI mk0), (nI pd0), yhe, yvm, yin, yfi, yde, yap, yas, yto, yan, yco, yti, yna, yac, e, yic, o, l, kS, d, pl, ys, yk, yn, yp, yf, yo, yi, yw, ya, y1, y2, yK, yW, yL, yq, nm, nv, no, yA, lf, rt, iK, iN)) : wY_work_146 post (wY_work_79 post (nI mk0) (nI pd0) (m + 1)) (nI mk0) (nI pd0) 0 yma ypo yhe yvm yin yfi yde yap yas yto yan yco yti yna yac yen yic o l kS d pl ys yk yn yp yf yo yi yw ya y1 y2 yK yW yL yq nm nv no yA lf rt iK iN := by
  unfold wY_work_146
  refine br_t ht0 (br_t ea ?_)
  unfold wpY_takeAnswer
  dsimp only
  rcases he with ⟨z, w⟩ | ⟨z, w⟩
  · rw [w] at h
    refine br_f (by rw [z]; decide) (br_t z ?_)
    unfold wY_work_79
    exact br_f (by decide) h
  · rw [w] at h
    refine br_f (by rw [z]; decide) (br_f (by rw [z]; decide) ?_)
    unfold wY_work_79
    exact br_f (by decide) h
theorem ma_s {V : Nat → Prop} {a : Nat} {aS : Nat → Int32} {xan : Int32} (h : ma_X V a aS) (hx : ∃ s, xan = nI s ∧ V s) : ma_X V (a + 1) (upd aS a xan) := fun i hi => by
  by_cases e : i = a
  · rw [e, pk_us]
    exact hx
  · rw [pk_un e]
    exact h i (by omega)
/-- X's side of the run's end -/
theorem rm_end {T : List Nat → Option vv_L} {nf bo np : Nat} {K0 N0 Z0 D0 I0 W0 P0 : Nat → Int32} {xst xow xin xpa xfi xfr xno xsi xan xkn xen xco xrm xac : Int32} {K N Z D Im W P vS pO pX pI fS fP fI fU fR fO fA fH fG fN aS qL qR qP : Nat → Int32} {K' N' Z' aS' fP' fI' fU' fR' fO' fA' fH' fG' fN' : Nat → Int32} {xen' xco' xac' xfr' xno' xsi' xan' xrm' : Int32} {st : Nat} {V al : Nat → Prop} {g : Nat} {pa : List Nat} {n c rm a a' : Nat}
    (hX : md_X V al g pa bo np n c rm a st xfr xno xsi xen xco xrm xac K N Z D Im W P K0 N0 Z0 D0 I0 W0 P0 pO pX fP fU fR fO fA fH fG)
    (hen : ¬ xen' = -1) (hac : xac' = nI a') (ha' : a' ≤ 20) (hma : ma_X V a' aS') (hK : ∀ s, V s ∨ s < 53 → K' s = K s ∧ N' s = N s ∧ Z' s = Z s)
    (hN : ∀ (mk0 pd0 : Nat) (v0 : SY), kn_F T np nf pO pX pI fS mk0 pd0 v0 → rm_N V a' xen' xco' xac' K N Z D P aS' mk0 pd0 v0) :
    rm_E T nf bo np K0 N0 Z0 D0 I0 W0 P0 (xst, xow, xin, xpa, xfi, xfr', xno', xsi', xan', xkn, xen', xco', xrm', xac', K', N', Z', D, Im, W, P, vS, pO, pX, pI, fS, fP', fI', fU', fR', fO', fA', fH', fG', fN', aS', qL, qR, qP) := by
  obtain ⟨⟨x1, x2, x3, x4, x5, x6, x7, x8, x9, x10⟩, hs, hh, hb, hf, hr, hG, hpot⟩ := hX
  obtain ⟨k1, k2, k3, k4, k5⟩ := hh
  have hveq : vv_eq V K N Z D Im W P K' N' Z' D Im W P := fun s hs => by
    obtain ⟨e1, e2, e3⟩ := hK s (Or.inl hs)
    exact ⟨e1, e2, e3, rfl, rfl, rfl, fun _ _ => rfl⟩
  refine ⟨hen, V, a', vv_ox_eq k1 hveq, fun s hs => (k2 s hs).1, fun s hs => ?_, hac, ha', hma, fun mk0 pd0 v0 hF => ?_⟩
  · obtain ⟨e1, e2, e3⟩ := hK s (Or.inr hs)
    obtain ⟨f1, f2, f3, f4, f5, f6, f7⟩ := k5 s hs
    exact ⟨e1.trans f1, e2.trans f2, e3.trans f3, f4, f5, f6, f7⟩
  · have hy := hN mk0 pd0 v0 hF
    obtain ⟨yma0, ypo0, yhe0, yvm0, yin0, yfi0, yde0, yap0, yas0, yto0, yan0, yco0, yti0, yna0, yac0, yen0, yic0, o0, l0, kS0, d0, pl0, ys0, yk0, yn0, yp0, yf0, yo0, yi0, yw0, ya0, y10, y20, yK0, yW0, yL0, yq0, nm0, nv0, no0, yA0, lf0, rt0, iK0, iN0⟩ := v0
    intro post hp
    refine hy post (fun mk pd yma ypo yap yas yto yan yco yti yna yac yen o l kS d pl yo yi yw ya y1 y2 yK yW yL yq nm nv no yA lf rt ⟨h1, h2, h3, h4, h5, h6, h7⟩ => ?_)
    exact hp mk pd yma ypo yap yas yto yan yco yti yna yac yen o l kS d pl yo yi yw ya y1 y2 yK yW yL yq nm nv no yA lf rt ⟨h1, h2, h3, h4, h5, h6, fun i hi => vv_R_ux k1 h4 hveq (fun _ z => z) (h7 i hi)⟩
/-- the whole filter has ended or failed -/
theorem rm_root1 {T : List Nat → Option vv_L} {nf bo np : Nat} {K0 N0 Z0 D0 I0 W0 P0 : Nat → Int32} {xst xow xin xpa xfi xfr xno xsi xan xkn xen xco xrm xac : Int32} {K N Z D Im W P vS pO pX pI fS fP fI fU fR fO fA fH fG fN aS qL qR qP : Nat → Int32} {st : Nat} {V al : Nat → Prop} {g : Nat} {n c rm a : Nat}
    (hX : md_X V al g [] bo np n c rm a st xfr xno xsi xen xco xrm xac K N Z D Im W P K0 N0 Z0 D0 I0 W0 P0 pO pX fP fU fR fO fA fH fG) (hv : mv_X V n xsi xan pO fP fI fH fN) (ha : ma_X V a aS)
    (hM : ∀ (mk0 pd0 : Nat) (v0 : SY), kn_F T np nf pO pX pI fS mk0 pd0 v0 → rm_M V [] g np n c rm a st xsi xan K N Z D W P pO pX pI fP fI fO fA fH fG fN aS mk0 pd0 v0) {e : Int32} (he : (xsi = 2 ∧ e = 0) ∨ (xsi = 3 ∧ e = 2)) : rm_E T nf bo np K0 N0 Z0 D0 I0 W0 P0 (xst, xow, xin, xpa, xfi, xfr, xno, xsi, xan, xkn, e, xco, xrm, xac, K, N, Z, D, Im, W, P, vS, pO, pX, pI, fS, fP, fI, fU, fR, fO, fA, fH, fG, fN, aS, qL, qR, qP) := by
  have nx0 : xsi ≠ 0 := by rcases he with w | w <;> rw [w.1] <;> decide
  have hX0 := hX
  obtain ⟨⟨x1, x2, x3, x4, x5, x6, x7, x8, x9, x10⟩, hs, hh, hb, hf, hr, hG, hpot⟩ := hX
  refine rm_end (xan := xan) (fI := fI) (fN := fN) (aS := aS) (a' := a) hX0 (by rcases he with w | w <;> rw [w.2] <;> decide) x6 (by omega) ha (fun _ _ => ⟨rfl, rfl, rfl⟩) (fun mk0 pd0 v0 hF => ?_)
  have hm := hM mk0 pd0 v0 hF
  obtain ⟨yma0, ypo0, yhe0, yvm0, yin0, yfi0, yde0, yap0, yas0, yto0, yan0, yco0, yti0, yna0, yac0, yen0, yic0, o0, l0, kS0, d0, pl0, ys0, yk0, yn0, yp0, yf0, yo0, yi0, yw0, ya0, y10, y20, yK0, yW0, yL0, yq0, nm0, nv0, no0, yA0, lf0, rt0, iK0, iN0⟩ := v0
  intro post hp
  refine hm.2 nx0 post ⟨1, fun mk pd nd yma ypo yap yas yto yan yco yti yna yac yen o l kS d pl yo yi yw ya y1 y2 yK yW yL yq nm nv no yA lf rt hY => ?_⟩
  obtain ⟨⟨b1, b2, b3, b4, b5, b6, b7, b8, b9, b10, b11⟩, hfl, hen, hhy, hby, hfr, han, hq0, hq1, hz1, hz2, hz3⟩ := hY
  obtain ⟨ea, eq⟩ := hq1 nx0
  obtain ⟨c1, c2, c3, c4, c5, c6, c7⟩ := hhy
  refine ct_R1 (e := e) b5 ea ?_ (hp mk pd (nI mk0) (nI pd0) yap yas yto yan yco yti yna yac e o l kS d pl yo yi yw ya y1 y2 yK yW yL yq nm nv no yA lf rt ⟨rfl, ?_, ?_, c1, c6, c7, han⟩)
  · rcases he with ⟨w, w2⟩ | ⟨w, w2⟩
    · exact Or.inl ⟨hz2 w, w2⟩
    · exact Or.inr ⟨hz3 w, w2⟩
  · rw [x4, ← b4]
  · rw [x6, ← b8]
/-- the twentieth answer -/
theorem rm_root20 {T : List Nat → Option vv_L} {nf bo np : Nat} {K0 N0 Z0 D0 I0 W0 P0 : Nat → Int32} {xst xow xin xpa xfi xfr xno xsi xan xkn xen xco xrm xac : Int32} {K N Z D Im W P vS pO pX pI fS fP fI fU fR fO fA fH fG fN aS qL qR qP : Nat → Int32} {st : Nat} {V al : Nat → Prop} {g : Nat} {n c rm a : Nat}
    (hX : md_X V al g [] bo np n c rm a st xfr xno xsi xen xco xrm xac K N Z D Im W P K0 N0 Z0 D0 I0 W0 P0 pO pX fP fU fR fO fA fH fG) (hv : mv_X V n xsi xan pO fP fI fH fN) (ha : ma_X V a aS)
    (hM : ∀ (mk0 pd0 : Nat) (v0 : SY), kn_F T np nf pO pX pI fS mk0 pd0 v0 → rm_M V [] g np n c rm a st xsi xan K N Z D W P pO pX pI fP fI fO fA fH fG fN aS mk0 pd0 v0) (es : xsi = 1) (e20 : a + 1 = 20) : rm_E T nf bo np K0 N0 Z0 D0 I0 W0 P0 (xst, xow, xin, xpa, xfi, xfr, xno, 0, xan, xkn, 1, xco, xrm, (nI (a + 1)), K, N, Z, D, Im, W, P, vS, pO, pX, pI, fS, fP, fI, fU, fR, fO, fA, fH, fG, fN, (upd aS a xan), qL, qR, qP) := by
  have nx0 : xsi ≠ 0 := by rw [es]; decide
  have ea19 : a = 19 := by omega
  subst ea19
  have hX0 := hX
  obtain ⟨⟨x1, x2, x3, x4, x5, x6, x7, x8, x9, x10⟩, hs, hh, hb, hf, hr, hG, hpot⟩ := hX
  refine rm_end (xan := xan) (fI := fI) (fN := fN) (aS := aS) (a' := 20) hX0 (by decide) rfl (by omega) (ma_s ha (hv.1 es)) (fun _ _ => ⟨rfl, rfl, rfl⟩) (fun mk0 pd0 v0 hF => ?_)
  have hm := hM mk0 pd0 v0 hF
  obtain ⟨yma0, ypo0, yhe0, yvm0, yin0, yfi0, yde0, yap0, yas0, yto0, yan0, yco0, yti0, yna0, yac0, yen0, yic0, o0, l0, kS0, d0, pl0, ys0, yk0, yn0, yp0, yf0, yo0, yi0, yw0, ya0, y10, y20, yK0, yW0, yL0, yq0, nm0, nv0, no0, yA0, lf0, rt0, iK0, iN0⟩ := v0
  intro post hp
  refine hm.2 nx0 post ⟨1, fun mk pd nd yma ypo yap yas yto yan yco yti yna yac yen o l kS d pl yo yi yw ya y1 y2 yK yW yL yq nm nv no yA lf rt hY => ?_⟩
  obtain ⟨⟨b1, b2, b3, b4, b5, b6, b7, b8, b9, b10, b11⟩, hfl, hen, hhy, hby, hfr, han, hq0, hq1, hz1, hz2, hz3⟩ := hY
  obtain ⟨ea, eq⟩ := hq1 nx0
  obtain ⟨z1, z2⟩ := hz1 es
  obtain ⟨c1, c2, c3, c4, c5, c6, c7⟩ := hhy
  refine ct_R20 b5 ea z1 b8 (hp mk pd (nI mk0) (nI pd0) yap (nI 1) yto yan yco yti yna (nI 20) 1 o l kS d pl yo yi yw ya y1 y2 yK yW yL (upd yq 0 0) nm nv no (vp_updL yA 19 yan) lf rt ⟨rfl, ?_, rfl, c1, c6, c7, fun i hi => ?_⟩)
  · rw [x4, ← b4]
  · by_cases ei : i = 19
    · subst ei
      rw [pk_us, pk_uLs]
      exact z2
    · rw [pk_un ei, pk_uLn ei]
      exact han i (by omega)
/-- an answer, and the whole filter is asked again -/
theorem rm_root0 {T : List Nat → Option vv_L} {nf bo np : Nat} {K0 N0 Z0 D0 I0 W0 P0 : Nat → Int32} {xst xow xin xpa xfi xfr xno xsi xan xkn xen xco xrm xac : Int32} {K N Z D Im W P vS pO pX pI fS fP fI fU fR fO fA fH fG fN aS qL qR qP : Nat → Int32} {st : Nat} {V al : Nat → Prop} {g : Nat} {n c rm a : Nat}
    (hX : md_X V al g [] bo np n c rm a st xfr xno xsi xen xco xrm xac K N Z D Im W P K0 N0 Z0 D0 I0 W0 P0 pO pX fP fU fR fO fA fH fG) (hv : mv_X V n xsi xan pO fP fI fH fN) (ha : ma_X V a aS)
    (hM : ∀ (mk0 pd0 : Nat) (v0 : SY), kn_F T np nf pO pX pI fS mk0 pd0 v0 → rm_M V [] g np n c rm a st xsi xan K N Z D W P pO pX pI fP fI fO fA fH fG fN aS mk0 pd0 v0) (es : xsi = 1) (n20 : a + 1 ≠ 20) : rm_I T nf bo np K0 N0 Z0 D0 I0 W0 P0 (st + 1) (xst, xow, xin, xpa, xfi, xfr, xno, 0, xan, xkn, xen, xco, xrm, (nI (a + 1)), K, N, Z, D, Im, W, P, vS, pO, pX, pI, fS, fP, fI, fU, fR, fO, fA, fH, fG, fN, (upd aS a xan), qL, qR, qP) := by
  have nx0 : xsi ≠ 0 := by rw [es]; decide
  obtain ⟨⟨x1, x2, x3, x4, x5, x6, x7, x8, x9, x10⟩, hs, hh, hb, hf, hr, hG, hpot⟩ := hX
  have g0 : g = 0 := hf.2.2.1.1
  refine ⟨V, al, g, [], n, c, rm, a + 1, ⟨⟨x1, x2, x3, x4, x5, rfl, by omega, x8, x9, x10⟩, Or.inl rfl, hh, hb, fr_X_m hf (fun _ => Or.inr es), hr, fun f hf' => ?_, ?_⟩, mv_up hv (fun w => absurd w (by decide)), ma_s ha (hv.1 es), fun mk0 pd0 v0 hF => ?_⟩
  · obtain ⟨gv', e1, e2⟩ := hG f hf'
    exact ⟨gv', e1, by omega⟩
  · rw [es, md_ph_1] at hpot
    rw [md_ph_0]
    omega
  · have hm := hM mk0 pd0 v0 hF
    obtain ⟨yma0, ypo0, yhe0, yvm0, yin0, yfi0, yde0, yap0, yas0, yto0, yan0, yco0, yti0, yna0, yac0, yen0, yic0, o0, l0, kS0, d0, pl0, ys0, yk0, yn0, yp0, yf0, yo0, yi0, yw0, ya0, y10, y20, yK0, yW0, yL0, yq0, nm0, nv0, no0, yA0, lf0, rt0, iK0, iN0⟩ := v0
    refine ⟨fun _ post hp => ?_, fun w => absurd rfl w⟩
    obtain ⟨m, hp⟩ := hp
    refine hm.2 nx0 post ⟨m, fun mk pd nd yma ypo yap yas yto yan yco yti yna yac yen o l kS d pl yo yi yw ya y1 y2 yK yW yL yq nm nv no yA lf rt hY => ?_⟩
    obtain ⟨⟨b1, b2, b3, b4, b5, b6, b7, b8, b9, b10, b11⟩, hfl, hen, hhy, hby, hfr, han, hq0, hq1, hz1, hz2, hz3⟩ := hY
    obtain ⟨ea, eq⟩ := hq1 nx0
    obtain ⟨z1, z2⟩ := hz1 es
    refine ct_R0 b5 ea z1 b8 (by omega) (hp mk pd nd yma ypo yap (nI 1) yto yan yco yti yna (nI (a + 1)) yen o l kS d pl yo yi yw ya y1 y2 yK yW yL (upd yq 0 0) nm nv no (vp_updL yA a yan) lf rt ⟨⟨b1, b2, b3, b4, b5, b6, b7, rfl, b9, b10, b11⟩, hfl, hen, hhy, hby, fun f hf' => ?_, fun i hi => ?_, fun _ => ⟨rfl, ?_⟩, fun w => absurd rfl w, fun w => absurd w (by decide), fun w => absurd w (by decide), fun w => absurd w (by decide)⟩)
    · obtain ⟨t1, t2, t3, t4, t5⟩ := hfr f hf'
      exact ⟨t1, t2, t3, t4, fr_S_up (fun _ _ w => w) (fun _ w => w) (fun _ _ w => w) (Nat.le_succ _) t5⟩
    · by_cases ei : i = a
      · subst ei
        rw [pk_us, pk_uLs]
        exact z2
      · rw [pk_un ei, pk_uLn ei]
        exact han i (by omega)
    · rw [g0]
      exact ⟨pk_us, trivial⟩
