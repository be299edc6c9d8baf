/-! ===== the run's beginning ===== -/
theorem rm_start {T : List Nat → Option vv_L} {nf bo np : Nat} {xst xow xin xpa xfi xfr xno xsi xan xkn xen xco xrm xac : Int32} {K N Z D Im W P vS pO pX pI fS fP fI fU fR fO fA fH fG fN aS qL qR qP : Nat → Int32} {V : Nat → Prop} {s c0 : Nat} (hx : vv_ox V K N Z D Im W P) (hVb : ∀ t, V t → t < bo) (hbo : bo ≤ 53) (hb : rl_b V K N) (hnp : np ≤ 40) (enf : nf = 1) (eS : fS 0 = nI c0) (hc0 : c0 < np) (exi : xin = nI s) (hVs : V s)
    (hT : ∀ p, T p = vv_x K N Z D P p s) :
    rm_I T nf bo np K N Z D Im W P 0 (xst, xow, xin, xpa, xfi, (nI 1), (nI 0), 0, xan, 1, (-1), (nI 1), 0, 0, K, N, Z, D, Im, W, P, vS, pO, pX, pI, fS, (upd fP 0 (fS 0)), (upd fI 0 xin), (upd fU 0 (-1)), (upd fR 0 0), (upd fO 0 (-1)), (upd fA 0 (-1)), (upd fH 0 0), (upd fG 0 0), (fn_z fN 0 3), aS, qL, qR, qP) := by
  have hs6 := (hx s hVs).1
  have f0 : ∀ f, f < 1 → f = 0 := fun f hf => by omega
  have w1 : vv_sm (md_w1 (upd fO 0 (-1)) (upd fA 0 (-1)) (upd fG 0 0)) 1 = 1 := by
    rw [vv_sm, vv_sm]
    unfold md_w1
    rw [pk_us, pk_us, pk_us, if_pos rfl, if_pos rfl]
  have w2 : vv_sm (md_w2 (upd fA 0 (-1)) (upd fG 0 0)) 1 = 1 := by
    rw [vv_sm, vv_sm]
    unfold md_w2
    rw [pk_us, pk_us, if_pos ⟨rfl, rfl⟩]
  have w3 : vv_sm (md_w3 pO (upd fP 0 (fS 0)) (upd fA 0 (-1)) (upd fG 0 0)) 1 = 0 := by
    rw [vv_sm, vv_sm]
    unfold md_w3
    rw [pk_us, if_neg (fun w => w.2.1 rfl)]
  refine ⟨V, fun f => f = 0, 0, [], 1, 1, 0, 0, ⟨⟨rfl, rfl, rfl, rfl, rfl, rfl, by omega, by omega, by omega, hnp⟩, Or.inl rfl, ⟨hx, fun t ht => ⟨Or.inl (hVb t ht), by have := hVb t ht; omega⟩, hbo, hb, fun t _ => ⟨rfl, rfl, rfl, rfl, rfl, rfl, fun _ _ => rfl⟩⟩, ⟨fun f hf _ hA => ?_, fun f f' hf _ _ _ hA => ?_⟩, ⟨by omega, fun f hf => ?_, ⟨rfl, pk_us⟩, fun f hf => ?_, fun f hf => ?_, fun f hf _ => ?_, fun f hf _ _ d => ?_⟩, by rw [w2]; omega, fun f hf => ?_, by rw [w1, md_ph_0]; simp⟩, ⟨fun w => absurd w (by decide), fun f hf => ?_⟩, fun i hi => absurd hi (by omega), fun mk0 pd0 v0 hF => ?_⟩
  · rw [f0 f hf, pk_us] at hA
    exact absurd rfl hA
  · rw [f0 f hf, pk_us] at hA
    exact absurd rfl hA
  · rw [f0 f hf]
    exact ⟨⟨c0, by rw [pk_us]; exact eS, hc0⟩, Or.inl pk_us, Or.inl pk_us⟩
  · rcases List.mem_cons.mp hf with w | w
    · exact w
    · exact absurd w (by simp)
  · have : f = 0 := hf
    omega
  · have : f = 0 := hf
    rw [this]
    unfold fr_rs fr_busy
    rw [pk_us]
    exact ⟨fun w => w.2.1 rfl, fun _ _ w => absurd rfl w⟩
  · have : f = 0 := hf
    rw [this, pk_us, pk_us] at d
    exact absurd rfl d
  · rw [f0 f hf]
    exact ⟨0, pk_us, by omega⟩
  · rw [f0 f hf]
    have zv : ∃ s0, (0 : Int32) = nI s0 ∧ V s0 := ⟨0, rfl, (hb.1 0 (by omega)).1⟩
    refine ⟨⟨s, by rw [pk_us]; exact exi, hVs⟩, fun _ => by rw [pk_us]; exact zv, fun x hx' => ?_⟩
    rw [fn_z_at 3 hx']
    exact zv
  · obtain ⟨yma0, ypo0, yhe0, yvm0, yin0, yfi0, yde0, yap0, yas0, yto0, yan0, yco0, yti0, yna0, yac0, yen0, yic0, o0, l0, kS0, d0, pl0, ys0, yk0, yn0, yp0, yf0, yo0, yi0, yw0, ya0, y10, y20, yK0, yW0, yL0, yq0, nm0, nv0, no0, yA0, lf0, rt0, iK0, iN0⟩ := v0
    obtain ⟨q1, q2, q3, q4, q5, q6, q7, q8, q9, q10, q11, q12, q13⟩ := hF
    refine ⟨fun _ post hp => ?_, fun w => absurd rfl w⟩
    obtain ⟨m, hp⟩ := hp
    unfold wpY_work
    dsimp only
    refine br_t (by rw [q9, enf]; rfl) ?_
    refine yr_ask (n := 0) (c := 0) (a := 0) rfl rfl rfl (by omega) (by omega) (by omega) ?_
    dsimp only
    refine ⟨m, ?_⟩
    have hR0 : vv_R V K N Z D P mk0 o0 l0 kS0 d0 pl0 xin yin0 := ⟨s, exi, hs6, hVs, q6, fun p => (hT p).symm.trans (q7 p).symm⟩
    rw [q1, q2]
    refine hp mk0 pd0 0 (nI mk0) (nI pd0) (nI (0 + 1)) (nI (0 + 1)) yto0 yan0 (nI (0 + 1)) 0 0 0 (-1000000004) o0 l0 kS0 d0 pl0 (upd yo0 0 (yf0 0)) (vp_updL yi0 0 yin0) (upd yw0 0 (-1)) (upd ya0 0 0) (upd y10 0 (-1)) (upd y20 0 (-1)) (vp_updL yK0 0 0) (upd yW0 0 0) yL0 (upd yq0 0 (nI 0)) nm0 nv0 no0 yA0 lf0 rt0 ⟨⟨rfl, rfl, rfl, rfl, rfl, rfl, by omega, rfl, rfl, q10, q11, by rw [w3]; omega⟩, q13, ⟨by omega, fun j hj => absurd hj (by omega)⟩, ⟨q5, Nat.le_refl _, by omega, Nat.le_refl _, by omega, fun _ _ => ⟨rfl, rfl, rfl, rfl⟩, fun _ _ => rfl⟩, ⟨fun f hf _ hA => ?_, fun f f' _ _ hf _ _ _ hA => ?_⟩, fun f hf => ?_, fun i hi => absurd hi (by omega), fun _ => ⟨rfl, pk_us, trivial⟩, fun w => absurd rfl w, fun w => absurd w (by decide), fun w => absurd w (by decide), fun w => absurd w (by decide)⟩
    · rw [f0 f hf, pk_us] at hA
      exact absurd rfl hA
    · rw [f0 f hf, pk_us] at hA
      exact absurd rfl hA
    · rw [f0 f hf]
      refine ⟨by rw [pk_us, pk_us, q12], by rw [pk_us, pk_uLs]; exact hR0, by rw [pk_us]; exact Or.inl rfl, fun x hx' => Or.inl ?_, ?_⟩
      · rw [fn_z_at 3 hx', pk_us, en_e_m]
        exact rl_R00 hx hb
      · have hfp := q13 c0 hc0
        obtain ⟨oq', p1, p2, p3, p4, p5, p6, p7, p8, p9⟩ := hfp
        have hoo : fr_o pO (upd fP 0 (fS 0)) 0 = oq' := by
          unfold fr_o
          rw [pk_us, eS, nI_clamp (by omega), p2, nI_clamp (by omega)]
        rw [hoo, pk_us, pk_us, pk_us, pk_us, pk_us, pk_us, pk_us, pk_us, pk_us, pk_us, pk_uLs, eS, nI_clamp (by omega)]
        exact fr_S0 (rl_R00 hx hb) (Nat.zero_le _) p8
/-! ===== X works the run out; Y answers as X has it ===== -/
theorem rl_bo {m np nf : Nat} {h : Nat} {V : Nat → Prop} {mk pd : Nat} {xst xow xin : Int32} {K N Z D Im W P vS : Nat → Int32} {yma ypo yhe yvm : Int32} {yin : Int64} {o l kS d : Nat → Int32} {pl ys : Nat → Int64} (H : rl_h V h m mk pd xst xow xin K N Z D Im W P vS yma ypo yhe yvm yin o l kS d pl ys) : m ≤ 40 ∧ vv_ox V K N Z D Im W P ∧ (∀ s, V s → s < 13 + m) ∧ rl_b V K N ∧ vv_cy mk pd o l pl ∧ vv_R V K N Z D P mk o l kS d pl xin yin := by
  obtain ⟨_, _, _, _, _, h6, _, _, _, _, h11, h12, h13, h14, _, h16⟩ := H
  exact ⟨h6, h11, h12, h13, h14, h16⟩
theorem wo_A {xst xow xin xpa xfi xfr xno xsi xan xkn xen xco xrm xac : Int32} {K N Z D Im W P vS pO pX pI fS fP fI fU fR fO fA fH fG fN aS qL qR qP : Nat → Int32} {v : SY} {k : Nat} (I : i_Rel k (xst, xow, xin, xpa, xfi, xfr, xno, xsi, xan, xkn, xen, xco, xrm, xac, K, N, Z, D, Im, W, P, vS, pO, pX, pI, fS, fP, fI, fU, fR, fO, fA, fH, fG, fN, aS, qL, qR, qP) v) {post : SX → Prop} (hp : ∀ (xst' xow' xin' xpa' xfi' xfr' xno' xsi' xan' xkn' xen' xco' xrm' xac' : Int32) (K' N' Z' D' Im' W' P' vS' pO' pX' pI' fS' fP' fI' fU' fR' fO' fA' fH' fG' fN' aS' qL' qR' qP' : Nat → Int32), i_Rel k (xst', xow', xin', xpa', xfi', xfr', xno', xsi', xan', xkn', xen', xco', xrm', xac', K', N', Z', D', Im', W', P', vS', pO', pX', pI', fS', fP', fI', fU', fR', fO', fA', fH', fG', fN', aS', qL', qR', qP') v → xkn' = 1 → post (xst', xow', xin', xpa', xfi', xfr', xno', xsi', xan', xkn', xen', xco', xrm', xac', K', N', Z', D', Im', W', P', vS', pO', pX', pI', fS', fP', fI', fU', fR', fO', fA', fH', fG', fN', aS', qL', qR', qP')) : wpX_workOut post (xst, xow, xin, xpa, xfi, xfr, xno, xsi, xan, xkn, xen, xco, xrm, xac, K, N, Z, D, Im, W, P, vS, pO, pX, pI, fS, fP, fI, fU, fR, fO, fA, fH, fG, fN, aS, qL, qR, qP) := by
  have I0 := I
  obtain ⟨yma, ypo, yhe, yvm, yin, yfi, yde, yap, yas, yto, yan, yco, yti, yna, yac, yen, yic, o, l, kS, d, pl, ys, yk, yn, yp, yf, yo, yi, yw, ya, y1, y2, yK, yW, yL, yq, nm, nv, no, yA, lf, rt, iK, iN⟩ := v
  obtain ⟨V, h, m, mk, pd, np, nf, hh, hf, hk⟩ := I
  obtain ⟨h6, h11, h12, h13, h14, h16⟩ := rl_bo (np := np) (nf := nf) hh
  obtain ⟨f1, f2, f3, f4, f5, f6, f7, f8, f9, f10, f11⟩ := hf
  have hf' : rl_f np nf xpa xfi pO pX pI fS yfi yde yk yn yp yf := ⟨f1, f2, f3, f4, f5, f6, f7, f8, f9, f10, f11⟩
  unfold wpX_workOut
  dsimp only
  refine br_c (fun k0 => ?_) (fun k1 => ?_)
  · refine br_c (fun e1 => ?_) (fun n1 => ?_)
    · have enf : nf = 1 := (nI_eq (b := 1) (by omega) (by omega)).mp (f4.symm.trans e1)
      obtain ⟨c0, c1, c2⟩ := f11 0 (by omega)
      obtain ⟨s, s1, s2, s3, s4, s5⟩ := h16
      refine xr_apply_0 rfl rfl rfl ?_
      dsimp only
      refine ⟨1000001 - 0, ?_⟩
      refine cq_loop (T := fun p => vv_x K N Z D P p s) (nf := nf) (bo := 13 + m) (np := np) (K0 := K) (N0 := N) (Z0 := Z) (D0 := D) (I0 := Im) (W0 := W) (P0 := P) (fun q hq => ⟨yk, f10 q hq⟩) ?_ 1000001 0 (by omega) _ _ _ _ _ _ _ _ _ _ _ _ _ _ _ _ _ _ _ _ _ _ _ _ _ _ _ _ (rm_start (xfr := xfr) (xno := xno) (xsi := xsi) (xkn := xkn) (xen := xen) (xco := xco) (xrm := xrm) (xac := xac) h11 h12 (by omega) h13 f3 enf c1 c2 s1 s3 (fun _ => rfl))
      intro xfr' xno' xsi' xan' xen' xco' xrm' xac' K' N' Z' D' Im' W' P' fP' fI' fU' fR' fO' fA' fH' fG' fN' aS' qL' qR' qP' hE
      obtain ⟨he, V', a, e1, e2, e3, e4, e5, e6, e7⟩ := hE
      have hve : vv_eq V K N Z D Im W P K' N' Z' D' Im' W' P' := fun t ht => e3 t (by show t < 53; have := h12 t ht; omega)
      refine hp _ _ _ _ _ _ _ _ _ _ _ _ _ _ _ _ _ _ _ _ _ _ _ _ _ _ _ _ _ _ _ _ _ _ _ _ _ _ _ ⟨V, h, m, mk, pd, np, nf, rl_h_eq hh hve, hf', Or.inr ⟨rfl, V', a, e1, e2, e4, e5, e6, ?_⟩⟩ rfl
      have hTT : (fun p => vv_x K' N' Z' D' P' p xin.toNatClampNeg) = fun p => vv_x K N Z D P p s := by
        funext p
        rw [rl_xin h11 hve hh.2.2.2.2.2.2.2.2.2.2.2.2.2.2.2 p, s1, nI_clamp (by omega)]
      rw [hTT]
      intro mk1 pd1 yma1 ypo1 yhe1 yvm1 yin1 yfi1 yde1 yap1 yas1 yto1 yan1 yco1 yti1 yna1 yac1 yen1 yic1 o1 l1 kS1 d1 pl1 ys1 yk1 yn1 yp1 yf1 yo1 yi1 yw1 ya1 y11 y21 yK1 yW1 yL1 yq1 nm1 nv1 no1 yA1 lf1 rt1 iK1 iN1 hfam post hpost
      refine e7 mk1 pd1 (yma1, ypo1, yhe1, yvm1, yin1, yfi1, yde1, yap1, yas1, yto1, yan1, yco1, yti1, yna1, yac1, yen1, yic1, o1, l1, kS1, d1, pl1, ys1, yk1, yn1, yp1, yf1, yo1, yi1, yw1, ya1, y11, y21, yK1, yW1, yL1, yq1, nm1, nv1, no1, yA1, lf1, rt1, iK1, iN1) hfam post (fun mk2 pd2 yma2 ypo2 yap2 yas2 yto2 yan2 yco2 yti2 yna2 yac2 yen2 o2 l2 kS2 d2 pl2 yo2 yi2 yw2 ya2 y12 y22 yK2 yW2 yL2 yq2 nm2 nv2 no2 yA2 lf2 rt2 hres => hpost _ ?_)
      obtain ⟨r1, r2, r3, r4, r5, r6, r7⟩ := hres
      refine ⟨⟨hfam.1.symm, hfam.2.1.symm, rfl, rfl, rfl, rfl, rfl, rfl, rfl, rfl, rfl, rfl⟩, r5, r6, r1, r2, r3, mk2, pd2, r4, fun i hi => r7 i ?_⟩
      rw [e4, nI_clamp (by omega)] at hi
      exact hi
    · refine hp _ _ _ _ _ _ _ _ _ _ _ _ _ _ _ _ _ _ _ _ _ _ _ _ _ _ _ _ _ _ _ _ _ _ _ _ _ _ _ ⟨V, h, m, mk, pd, np, nf, hh, hf', Or.inr ⟨rfl, V, 0, h11, fun t ht => Or.inl (h12 t ht), rfl, by omega, fun i hi => absurd hi (by omega), ?_⟩⟩ rfl
      intro mk1 pd1 yma1 ypo1 yhe1 yvm1 yin1 yfi1 yde1 yap1 yas1 yto1 yan1 yco1 yti1 yna1 yac1 yen1 yic1 o1 l1 kS1 d1 pl1 ys1 yk1 yn1 yp1 yf1 yo1 yi1 yw1 ya1 y11 y21 yK1 yW1 yL1 yq1 nm1 nv1 no1 yA1 lf1 rt1 iK1 iN1 hfam post hpost
      unfold wpY_work
      dsimp only
      refine br_f (fun w => n1 ?_) (hpost _ ?_)
      · rw [f4]
        exact hfam.2.2.2.2.2.2.2.2.1.symm.trans w
      · exact ⟨⟨rfl, rfl, rfl, rfl, rfl, rfl, rfl, rfl, rfl, rfl, rfl, rfl⟩, fun _ _ => ⟨rfl, rfl, rfl, rfl⟩, fun _ _ => rfl, rfl, rfl, rfl, mk1, pd1, hfam.2.2.2.2.1, fun i hi => absurd hi (by rw [show (0 : Int32).toNatClampNeg = 0 from by decide]; omega)⟩
  · refine hp _ _ _ _ _ _ _ _ _ _ _ _ _ _ _ _ _ _ _ _ _ _ _ _ _ _ _ _ _ _ _ _ _ _ _ _ _ _ _ I0 ?_
    rcases hk with w | ⟨w, _⟩
    · exact absurd w k1
    · exact w
theorem wo_B {xst xow xin xpa xfi xfr xno xsi xan xkn xen xco xrm xac : Int32} {K N Z D Im W P vS pO pX pI fS fP fI fU fR fO fA fH fG fN aS qL qR qP : Nat → Int32} {yma ypo yhe yvm : Int32} {yin : Int64} {yfi yde yap yas yto : Int32} {yan : Int64} {yco yti yna yac yen yic : Int32} {o l kS d : Nat → Int32} {pl ys : Nat → Int64} {yk yn yp yf yo : Nat → Int32} {yi : Nat → Int64} {yw ya y1 y2 : Nat → Int32} {yK : Nat → Int64} {yW : Nat → Int32} {yL : Nat → Int64} {yq nm : Nat → Int32} {nv : Nat → Int64} {no : Nat → Int32} {yA lf rt : Nat → Int64} {iK iN : Nat → Int32} {k : Nat} (I : i_Rel k (xst, xow, xin, xpa, xfi, xfr, xno, xsi, xan, xkn, xen, xco, xrm, xac, K, N, Z, D, Im, W, P, vS, pO, pX, pI, fS, fP, fI, fU, fR, fO, fA, fH, fG, fN, aS, qL, qR, qP) (yma, ypo, yhe, yvm, yin, yfi, yde, yap, yas, yto, yan, yco, yti, yna, yac, yen, yic, o, l, kS, d, pl, ys, yk, yn, yp, yf, yo, yi, yw, ya, y1, y2, yK, yW, yL, yq, nm, nv, no, yA, lf, rt, iK, iN)) (hkn : xkn = 1) {post : SY → Prop}
    (hp : ∀ (yma' ypo' yhe' yvm' : Int32) (yin' : Int64) (yfi' yde' yap' yas' yto' : Int32) (yan' : Int64) (yco' yti' yna' yac' yen' yic' : Int32) (o' l' kS' d' : Nat → Int32) (pl' ys' : Nat → Int64) (yk' yn' yp' yf' yo' : Nat → Int32) (yi' : Nat → Int64) (yw' ya' y1' y2' : Nat → Int32) (yK' : Nat → Int64) (yW' : Nat → Int32) (yL' : Nat → Int64) (yq' nm' : Nat → Int32) (nv' : Nat → Int64) (no' : Nat → Int32) (yA' lf' rt' : Nat → Int64) (iK' iN' : Nat → Int32), i_Rel k (xst, xow, xin, xpa, xfi, xfr, xno, xsi, xan, xkn, xen, xco, xrm, xac, K, N, Z, D, Im, W, P, vS, pO, pX, pI, fS, fP, fI, fU, fR, fO, fA, fH, fG, fN, aS, qL, qR, qP) (yma', ypo', yhe', yvm', yin', yfi', yde', yap', yas', yto', yan', yco', yti', yna', yac', yen', yic', o', l', kS', d', pl', ys', yk', yn', yp', yf', yo', yi', yw', ya', y1', y2', yK', yW', yL', yq', nm', nv', no', yA', lf', rt', iK', iN') → yen' = xen → yco' = xco → yac' = xac → (∃ (V : Nat → Prop) (a mk' pd' : Nat), vv_ox V K N Z D Im W P ∧ vv_cy mk' pd' o' l' pl' ∧ xac = nI a ∧ a ≤ 20 ∧ (∀ i, i < a → ∃ n, aS i = nI n ∧ V n) ∧ ∀ i, i < a → vv_R V K N Z D P mk' o' l' kS' d' pl' (aS i) (yA' i)) → post (yma', ypo', yhe', yvm', yin', yfi', yde', yap', yas', yto', yan', yco', yti', yna', yac', yen', yic', o', l', kS', d', pl', ys', yk', yn', yp', yf', yo', yi', yw', ya', y1', y2', yK', yW', yL', yq', nm', nv', no', yA', lf', rt', iK', iN')) : wpY_work post (yma, ypo, yhe, yvm, yin, yfi, yde, yap, yas, yto, yan, yco, yti, yna, yac, yen, yic, o, l, kS, d, pl, ys, yk, yn, yp, yf, yo, yi, yw, ya, y1, y2, yK, yW, yL, yq, nm, nv, no, yA, lf, rt, iK, iN) := by
  obtain ⟨V, h, m, mk, pd, np, nf, hh, hf, hk⟩ := I
  have hk0 := hk
  obtain ⟨a1, a2, a3, a4, a5, a6, a7, a8, a9, a10, a11, a12, a13, a14, a15, a16⟩ := hh
  obtain ⟨f1, f2, f3, f4, f5, f6, f7, f8, f9, f10, f11⟩ := hf
  rcases hk with w | ⟨_, V', a, k1, k2, k3, k4, k5, k6⟩
  · rw [hkn] at w
    exact absurd w (by decide)
  · have hfam : kn_fam (fun p => vv_x K N Z D P p xin.toNatClampNeg) np nf pO pX pI fS mk pd yma ypo yin yfi yde o l kS d pl yk yn yp yf := by
      obtain ⟨s, s1, s2, s3, s4, s5⟩ := a16
      refine ⟨a7, a8, by omega, by omega, a14, s4, fun p => ?_, f2, f5, f7, f8, f9, f10⟩
      show vv_y o l kS d pl p yin = vv_x K N Z D P p xin.toNatClampNeg
      rw [s1, nI_clamp (by omega)]
      exact (s5 p).symm
    refine k6 mk pd yma ypo yhe yvm yin yfi yde yap yas yto yan yco yti yna yac yen yic o l kS d pl ys yk yn yp yf yo yi yw ya y1 y2 yK yW yL yq nm nv no yA lf rt iK iN hfam post (fun v' hv' => ?_)
    obtain ⟨yma', ypo', yhe', yvm', yin', yfi', yde', yap', yas', yto', yan', yco', yti', yna', yac', yen', yic', o', l', kS', d', pl', ys', yk', yn', yp', yf', yo', yi', yw', ya', y1', y2', yK', yW', yL', yq', nm', nv', no', yA', lf', rt', iK', iN'⟩ := v'
    obtain ⟨⟨r1, r2, r3, r4, r5, r6, r7, r8, r9, r10, r11, r12⟩, q1, q2, q3, q4, q5, mk', pd', q6, q7⟩ := hv'
    have hyk : ∀ j, j < mk → o' j = o j ∧ l' j = l j ∧ kS' j = kS j ∧ d' j = d j ∧ ∀ a b, o j = nI a → l j = nI b → b ≤ 10 → a + b ≤ pd → ∀ i, i < b → pl' (a + i) = pl (a + i) := fun j hj => by
      obtain ⟨b1, b2, b3, b4⟩ := q1 j hj
      exact ⟨b1, b2, b3, b4, fun a b _ _ _ hab i hi => q2 _ (by omega)⟩
    have hRR : ∀ s w, vv_R V K N Z D P mk o l kS d pl s w → vv_R V K N Z D P mk o' l' kS' d' pl' s w := fun s w hsw => vv_R_up a11 a14 (fun s hs => ⟨hs, rfl, rfl, rfl, rfl, fun _ _ => rfl⟩) (Nat.le_refl _) hyk hsw
    have hcy : vv_cy mk pd o' l' pl' := by
      obtain ⟨b1, b2, b3⟩ := a14
      refine ⟨b1, b2, fun j hj => ?_⟩
      obtain ⟨x, y, c1, c2, c3, c4, c5⟩ := b3 j hj
      obtain ⟨d1, d2, d3, d4, d5⟩ := hyk j hj
      exact ⟨x, y, d1.trans c1, d2.trans c2, c3, c4, fun i hi => by rw [d5 x y c1 c2 c3 c4 i hi]; exact c5 i hi⟩
    refine hp yma' ypo' yhe' yvm' yin' yfi' yde' yap' yas' yto' yan' yco' yti' yna' yac' yen' yic' o' l' kS' d' pl' ys' yk' yn' yp' yf' yo' yi' yw' ya' y1' y2' yK' yW' yL' yq' nm' nv' no' yA' lf' rt' iK' iN' ⟨V, h, m, mk, pd, np, nf, ⟨a1, r3.trans a2, a3, a4, r4.trans a5, a6, r1.trans a7, r2.trans a8, a9, a10, a11, a12, a13, hcy, fun i hi => ?_, ?_⟩, ⟨f1, r6.trans f2, f3, f4, r7.trans f5, f6, r10.trans f7, r11.trans f8, r12.trans f9, ?_, f11⟩, hk0⟩ q3 q4 q5 ⟨V', a, mk', pd', k1, q6, k3, k4, k5, fun i hi => q7 i (by rw [k3, nI_clamp (by omega)]; exact hi)⟩
    · rw [r8]
      exact hRR _ _ (a15 i hi)
    · rw [r5]
      exact hRR _ _ a16
    · rw [r9]
      exact f10
theorem i_vc_run {k : Nat} {u : SX} {v : SY} (I : i_Rel k u v) (hk : k + 3 ≤ 1536) : wpX_run (fun r u' => wpY_run (fun r' v' => r' = r ∧ i_Rel (k + 3) u' v') v) u := by
  obtain ⟨xst, xow, xin, xpa, xfi, xfr, xno, xsi, xan, xkn, xen, xco, xrm, xac, K, N, Z, D, Im, W, P, vS, pO, pX, pI, fS, fP, fI, fU, fR, fO, fA, fH, fG, fN, aS, qL, qR, qP⟩ := u
  unfold wpX_run
  dsimp only
  refine wo_A I (fun xst' xow' xin' xpa' xfi' xfr' xno' xsi' xan' xkn' xen' xco' xrm' xac' K' N' Z' D' Im' W' P' vS' pO' pX' pI' fS' fP' fI' fU' fR' fO' fA' fH' fG' fN' aS' qL' qR' qP' hI hkn => ?_)
  dsimp only
  obtain ⟨yma, ypo, yhe, yvm, yin, yfi, yde, yap, yas, yto, yan, yco, yti, yna, yac, yen, yic, o, l, kS, d, pl, ys, yk, yn, yp, yf, yo, yi, yw, ya, y1, y2, yK, yW, yL, yq, nm, nv, no, yA, lf, rt, iK, iN⟩ := v
  unfold wpY_run
  dsimp only
  exact wo_B hI hkn (fun yma' ypo' yhe' yvm' yin' yfi' yde' yap' yas' yto' yan' yco' yti' yna' yac' yen' yic' o' l' kS' d' pl' ys' yk' yn' yp' yf' yo' yi' yw' ya' y1' y2' yK' yW' yL' yq' nm' nv' no' yA' lf' rt' iK' iN' hI' e1 e2 e3 _ => ⟨e1, hI'⟩)
theorem i_vc_answers {k : Nat} {u : SX} {v : SY} (I : i_Rel k u v) (hk : k + 3 ≤ 1536) : wpX_answers (fun r u' => wpY_answers (fun r' v' => r' = r ∧ i_Rel (k + 3) u' v') v) u := by
  obtain ⟨xst, xow, xin, xpa, xfi, xfr, xno, xsi, xan, xkn, xen, xco, xrm, xac, K, N, Z, D, Im, W, P, vS, pO, pX, pI, fS, fP, fI, fU, fR, fO, fA, fH, fG, fN, aS, qL, qR, qP⟩ := u
  unfold wpX_answers
  dsimp only
  refine wo_A I (fun xst' xow' xin' xpa' xfi' xfr' xno' xsi' xan' xkn' xen' xco' xrm' xac' K' N' Z' D' Im' W' P' vS' pO' pX' pI' fS' fP' fI' fU' fR' fO' fA' fH' fG' fN' aS' qL' qR' qP' hI hkn => ?_)
  dsimp only
  obtain ⟨yma, ypo, yhe, yvm, yin, yfi, yde, yap, yas, yto, yan, yco, yti, yna, yac, yen, yic, o, l, kS, d, pl, ys, yk, yn, yp, yf, yo, yi, yw, ya, y1, y2, yK, yW, yL, yq, nm, nv, no, yA, lf, rt, iK, iN⟩ := v
  unfold wpY_answers
  dsimp only
  exact wo_B hI hkn (fun yma' ypo' yhe' yvm' yin' yfi' yde' yap' yas' yto' yan' yco' yti' yna' yac' yen' yic' o' l' kS' d' pl' ys' yk' yn' yp' yf' yo' yi' yw' ya' y1' y2' yK' yW' yL' yq' nm' nv' no' yA' lf' rt' iK' iN' hI' e1 e2 e3 _ => ⟨e3, hI'⟩)
theorem i_vc_counted {k : Nat} {u : SX} {v : SY} (I : i_Rel k u v) (hk : k + 3 ≤ 1536) : wpX_counted (fun r u' => wpY_counted (fun r' v' => r' = r ∧ i_Rel (k + 3) u' v') v) u := by
  obtain ⟨xst, xow, xin, xpa, xfi, xfr, xno, xsi, xan, xkn, xen, xco, xrm, xac, K, N, Z, D, Im, W, P, vS, pO, pX, pI, fS, fP, fI, fU, fR, fO, fA, fH, fG, fN, aS, qL, qR, qP⟩ := u
  unfold wpX_counted
  dsimp only
  refine wo_A I (fun xst' xow' xin' xpa' xfi' xfr' xno' xsi' xan' xkn' xen' xco' xrm' xac' K' N' Z' D' Im' W' P' vS' pO' pX' pI' fS' fP' fI' fU' fR' fO' fA' fH' fG' fN' aS' qL' qR' qP' hI hkn => ?_)
  dsimp only
  obtain ⟨yma, ypo, yhe, yvm, yin, yfi, yde, yap, yas, yto, yan, yco, yti, yna, yac, yen, yic, o, l, kS, d, pl, ys, yk, yn, yp, yf, yo, yi, yw, ya, y1, y2, yK, yW, yL, yq, nm, nv, no, yA, lf, rt, iK, iN⟩ := v
  unfold wpY_counted
  dsimp only
  exact wo_B hI hkn (fun yma' ypo' yhe' yvm' yin' yfi' yde' yap' yas' yto' yan' yco' yti' yna' yac' yen' yic' o' l' kS' d' pl' ys' yk' yn' yp' yf' yo' yi' yw' ya' y1' y2' yK' yW' yL' yq' nm' nv' no' yA' lf' rt' iK' iN' hI' e1 e2 e3 _ => ⟨e2, hI'⟩)
