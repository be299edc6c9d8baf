/-! ===== a filter within is applied: for all states of Y ===== -/
theorem rm_new {p : Nat} {pa' : List Nat} {T : List Nat → Option vv_L} {nf bo np : Nat} {K0 N0 Z0 D0 I0 W0 P0 : Nat → Int32} {xst xow xin xpa xfi xfr xno xsi xan xkn xen xco xrm xac : Int32} {K N Z D Im W P vS pO pX pI fS fP fI fU fR fO fA fH fG fN aS qL qR qP : Nat → Int32} {st : Nat} {V al : Nat → Prop} {g : Nat} {pa : List Nat} {n c rm a : Nat}
    (hX : md_X V al g pa bo np n c rm a st xfr xno xsi xen xco xrm xac K N Z D Im W P K0 N0 Z0 D0 I0 W0 P0 pO pX fP fU fR fO fA fH fG) (hv : mv_X V n xsi xan pO fP fI fH fN) (ha : ma_X V a aS)
    (hM : ∀ (mk0 pd0 : Nat) (v0 : SY), kn_F T np nf pO pX pI fS mk0 pd0 v0 → rm_M V pa g np n c rm a st xsi xan K N Z D W P pO pX pI fP fI fO fA fH fG fN aS mk0 pd0 v0) (hlen' : pa'.length + 2 ≤ 41) (hph : 20 ≤ md_ph xsi (pa.length + 1)) {al' : Nat → Prop} (hfx : fr_X pO pX np n fP fU fR fO fA fG al' (p :: pa') False) (hc : c < 600) (hn6 : n < 600)
    {q r cq x0 : Nat} {s : Int32} (n16 : fr_o pO fP p ≠ 16) (h17 : 17 ≤ fr_o pO fP p) (h21 : r ≠ 0 → fr_ro (fr_o pO fP p) (nI r) (fO p)) (hrun : fr_run pO pX fP fG p) (eP : fP p = nI q) (hq : q < 40) (hr3 : r < 3) (ePI : pI (q * 3 + r) = nI cq) (hcq : cq < q) (hqn : q < np)
    {fO' fH2 fN2 : Nat → Int32} (eO : ∀ f, f ≠ p → f ≠ n → fO' f = fO f) (eOn : fO' n = -1) (eO0 : r = 0 → fO' p = nI n) (eO1 : r ≠ 0 → fO' p = fO p)
    (hO : r ≠ 0 → fr_o pO fP p ≠ 22 → fr_o pO fP p ≠ 32 → fO p ≠ -1 → al' (fO p).toNatClampNeg ∧ (fO p).toNatClampNeg ∉ p :: pa') (eH2 : ∀ f, f ≠ p → fH2 f = fH f) (eN2 : ∀ f x, f ≠ p → x < 3 → fN2 (f * 3 + x) = fN (f * 3 + x))
    (hsv : ∃ s0, s = nI s0 ∧ V s0) (hH2v : ∃ s0, fH2 p = nI s0 ∧ V s0) (hN2v : ∀ x, x < 3 → ∃ s0, fN2 (p * 3 + x) = nI s0 ∧ V s0)
    (hYw : ∀ (mk0 pd0 mk pd nd : Nat) (yhe yvm : Int32) (yin : Int64) (yfi yde yic : Int32) (ys : Nat → Int64) (yk yn yp yf iK iN : Nat → Int32) (o0 l0 kS0 d0 : Nat → Int32) (pl0 : Nat → Int64) (yma ypo yap yas yto : Int32) (yan : Int64) (yco yti yna yac yen : Int32) (o l kS d : Nat → Int32) (pl : Nat → Int64) (yo : Nat → Int32) (yi : Nat → Int64) (yw ya y1 y2 : Nat → Int32) (yK : Nat → Int64) (yW : Nat → Int32) (yL : Nat → Int64) (yq nm : Nat → Int32) (nv : Nat → Int64) (no : Nat → Int32) (yA lf rt : Nat → Int64), md_Y V pa g np n c rm a st mk pd nd mk0 pd0 xsi xan K N Z D W P pO pX pI fP fI fO fA fH fG fN aS yma ypo yap yas yto yan yco yti yna yac yen o l kS d pl yk yn yp yo yi yw ya y1 y2 yK yW yL yq nm nv no yA o0 l0 kS0 d0 pl0 → ∀ (post : SY → Prop) (m : Nat), (∀ (w : Int64) (wi : Int32) (nd' : Nat) (ya2 y1' y2' : Nat → Int32) (yK2 yL2 : Nat → Int64) (nm2 : Nat → Int32) (nv2 : Nat → Int64) (no2 : Nat → Int32),
          md_q yq (p :: pa') ∧ vv_R V K N Z D P mk o l kS d pl s w ∧ nd ≤ nd' ∧ nd' ≤ n + 1 ∧ en_ok nd' no2 ∧ en_at nd' wi ∧ (∀ b x, en_at nd b → en_e nm2 no2 nv2 b x = en_e nm no nv b x) ∧
          (∀ f, f ≠ p → ya2 f = ya f ∧ yK2 f = yK f ∧ yL2 f = yL f) ∧ (∀ f, f ≠ p → f ≠ n → y1' f = y1 f ∧ y2' f = y2 f) ∧ y1' n = -1 ∧ y2' n = -1 ∧
          (∀ x, x < 3 → vv_R V K N Z D P mk o l kS d pl (fN2 (p * 3 + x)) (en_e nm2 no2 nv2 wi x)) ∧
          (∀ x, x < 3 → vv_R V K N Z D P mk o l kS d pl (fN2 (p * 3 + x)) (en_e nm no nv (yw p) x) ∨ ((fr_o pO fP p = 33 ∨ fr_o pO fP p = 35) ∧ pX q = nI x ∧ y1' p ≠ -1)) ∧
          fr_S (vv_R V K N Z D P mk o l kS d pl) (md_ea Z) (md_dp Z W P) (fr_o pO fP p) (pX q) (st + 1) (fI p) (fG p) (nI n) (fO' p) (fH2 p) (ya2 p) (y1' p) (y2' p) (yW p) (yK2 p) (yL2 p) → wY_work_79 post (nI mk0) (nI pd0) m 1 yma ypo yhe yvm yin yfi yde (nI (n + 1)) (nI (pa'.length + 2)) yto yan (nI (c + 1)) yti (nI nd') yac yen yic o l kS d pl ys yk yn yp yf (upd yo n (yp (q * 3 + r))) (vp_updL yi n w) (upd yw n wi) (upd ya2 n 0) y1' y2' (vp_updL yK2 n 0) (upd yW n 0) yL2 (upd yq (pa'.length + 1) (nI n)) nm2 nv2 no2 yA lf rt iK iN) →
      (xsi = 0 → wY_work_79 post (nI mk0) (nI pd0) (m + 1) 1 yma ypo yhe yvm yin yfi yde yap yas yto yan yco yti yna yac yen yic o l kS d pl ys yk yn yp yf yo yi yw ya y1 y2 yK yW yL yq nm nv no yA lf rt iK iN) ∧ (xsi ≠ 0 → wY_work_146 post (wY_work_79 post (nI mk0) (nI pd0) (m + 1)) (nI mk0) (nI pd0) 0 yma ypo yhe yvm yin yfi yde yap yas yto yan yco yti yna yac yen yic o l kS d pl ys yk yn yp yf yo yi yw ya y1 y2 yK yW yL yq nm nv no yA lf rt iK iN)) :
    rm_I T nf bo np K0 N0 Z0 D0 I0 W0 P0 (st + 1) (xst, xow, xin, xpa, xfi, (nI (n + 1)), (nI n), 0, xan, xkn, xen, (nI (c + 1)), xrm, xac, K, N, Z, D, Im, W, P, vS, pO, pX, pI, fS, (upd fP n (pI (q * 3 + r))), (upd fI n s), (upd fU n (nI p)), (upd fR n (nI r)), fO', (upd (upd fA n (-1)) p (nI n)), (upd fH2 n 0), (upd fG n 0), (fn_c fN2 n p 3), aS, qL, qR, qP) := by
  obtain ⟨hg, hn, hst, hlen, _⟩ := mx_f hX
  obtain ⟨⟨x1, x2, x3, x4, x5, x6, x7, x8, x9, x10⟩, hs, hh, hb, hf, hr, hG, hpot⟩ := hX
  have hpn : p < n := hfx.2.2.2.2.1 p (hfx.2.2.2.1 p List.mem_cons_self)
  have hro : nI r = 0 ∨ nI r = 1 ∨ nI r = 2 := by
    rcases (show r = 0 ∨ r = 1 ∨ r = 2 by omega) with w | w | w <;> subst w
    · exact Or.inl rfl
    · exact Or.inr (Or.inl rfl)
    · exact Or.inr (Or.inr rfl)
  have hr0 : nI r = 0 ↔ r = 0 := nI_eq (b := 0) (by omega) (by omega)
  have eo : ∀ f, f ≠ n → fr_o pO (upd fP n (nI cq)) f = fr_o pO fP f := fun f hf => by unfold fr_o; rw [pk_un hf]
  have hnew := fr_X_new (q := cq) (ro := nI r) (fO' := fO') hfx hn6 hrun (by omega) x10 (by rw [eP, nI_clamp (by omega)]; exact hcq) hro eO eOn (fun w => eO0 (hr0.mp w)) (fun w => eO1 (fun z => w (hr0.mpr z))) (fun w => hO (fun z => w (hr0.mpr z))) (fun w => h21 (fun z => w (hr0.mpr z))) (by omega)
  rw [ePI]
  refine ⟨V, fun f => al' f ∨ f = n, n, p :: pa', n + 1, c + 1, rm, a, ⟨⟨rfl, rfl, x3, rfl, x5, x6, x7, by omega, by omega, x10⟩, Or.inl rfl, hh, ?_, fr_X_m hnew (fun _ => trivial), ?_, fun f hf' => ?_, ?_⟩, ⟨fun w => absurd w (by decide), fun f hf' => ?_⟩, ha, fun mk0 pd0 v0 hF => ?_⟩
  · obtain ⟨h1, h2⟩ := hb
    have key : ∀ f, f < n + 1 → fr_o pO (upd fP n (nI cq)) f = 16 → upd (upd fA n (-1)) p (nI n) f ≠ -1 → upd fG n 0 f = 0 → f < n ∧ f ≠ p ∧ fr_o pO fP f = 16 ∧ fA f ≠ -1 ∧ fG f = 0 ∧ upd fH2 n 0 f = fH f := by
      intro f hf' o16 hA hG'
      by_cases en : f = n
      · subst en
        rw [pk_un (show f ≠ p by omega), pk_us] at hA
        exact absurd rfl hA
      · rw [eo f en] at o16
        have hfp : f ≠ p := fun w => n16 (by rw [← w]; exact o16)
        rw [pk_un hfp, pk_un en] at hA
        rw [pk_un en] at hG'
        exact ⟨by omega, hfp, o16, hA, hG', by rw [pk_un en, eH2 f hfp]⟩
    refine ⟨fun f hf' o16 hA hG' => ?_, fun f f' hf1 hf2 hne o1 a1 g1 o2 a2 g2 => ?_⟩
    · obtain ⟨k1, k2, k3, k4, k5, k6⟩ := key f hf' o16 hA hG'
      rw [k6]
      exact h1 f k1 k3 k4 k5
    · obtain ⟨k1, k2, k3, k4, k5, k6⟩ := key f hf1 o1 a1 g1
      obtain ⟨m1, m2, m3, m4, m5, m6⟩ := key f' hf2 o2 a2 g2
      rw [k6, m6]
      exact h2 f f' k1 m1 hne k3 k4 k5 m3 m4 m5
  · have := md_w2_n (fA := fA) (fG := fG) hpn hn6
    omega
  · by_cases e : f = n
    · subst e
      exact ⟨0, pk_us, by omega⟩
    · obtain ⟨gv', e1, e2⟩ := hG f (by omega)
      exact ⟨gv', (pk_un e).trans e1, by omega⟩
  · have := md_w1_n (fO := fO) (fA := fA) (fG := fG) (fO' := fO') hpn eO eOn
    rw [md_ph_0, List.length_cons]
    omega
  · have zv : ∃ s0, (0 : Int32) = nI s0 ∧ V s0 := ⟨0, rfl, (hh.2.2.2.1.1 0 (by omega)).1⟩
    by_cases en : f = n
    · subst en
      refine ⟨by rw [pk_us]; exact hsv, fun _ => by rw [pk_us]; exact zv, fun x hx => ?_⟩
      rw [fn_c_at 3 hx]
      exact hN2v x hx
    · have hfn : f < n := by omega
      obtain ⟨q1, q2, q3⟩ := hv.2 f hfn
      refine ⟨by rw [pk_un en]; exact q1, fun z => ?_, fun x hx => ?_⟩
      · rw [eo f en] at z
        rw [pk_un en]
        by_cases ep : f = p
        · rw [ep]; exact hH2v
        · rw [eH2 f ep]; exact q2 z
      · rw [fn_c_lo (show f * 3 + x < n * 3 by omega)]
        by_cases ep : f = p
        · rw [ep]; exact hN2v x hx
        · rw [eN2 f x ep hx]; exact q3 x hx
  · have hm := hM mk0 pd0 v0 hF
    obtain ⟨yma0, ypo0, yhe0, yvm0, yin0, yfi0, yde0, yap0, yas0, yto0, yan0, yco0, yti0, yna0, yac0, yen0, yic0, o0, l0, kS0, d0, pl0, ys0, yk0, yn0, yp0, yf0, yo0, yi0, yw0, ya0, y10, y20, yK0, yW0, yL0, yq0, nm0, nv0, no0, yA0, lf0, rt0, iK0, iN0⟩ := v0
    refine ⟨fun _ post hp => ?_, fun w => absurd rfl w⟩
    obtain ⟨m, hp⟩ := hp
    have key : ∀ (mk pd nd : Nat) (yma ypo yap yas yto : Int32) (yan : Int64) (yco yti yna yac yen : Int32) (o l kS d : Nat → Int32) (pl : Nat → Int64) (yo : Nat → Int32) (yi : Nat → Int64) (yw ya y1 y2 : Nat → Int32) (yK : Nat → Int64) (yW : Nat → Int32) (yL : Nat → Int64) (yq nm : Nat → Int32) (nv : Nat → Int64) (no : Nat → Int32) (yA lf rt : Nat → Int64), md_Y V pa g np n c rm a st mk pd nd mk0 pd0 xsi xan K N Z D W P pO pX pI fP fI fO fA fH fG fN aS yma ypo yap yas yto yan yco yti yna yac yen o l kS d pl yk0 yn0 yp0 yo yi yw ya y1 y2 yK yW yL yq nm nv no yA o0 l0 kS0 d0 pl0 → (xsi = 0 → wY_work_79 post (nI mk0) (nI pd0) (m + 1) 1 yma ypo yhe0 yvm0 yin0 yfi0 yde0 yap yas yto yan yco yti yna yac yen yic0 o l kS d pl ys0 yk0 yn0 yp0 yf0 yo yi yw ya y1 y2 yK yW yL yq nm nv no yA lf rt iK0 iN0) ∧ (xsi ≠ 0 → wY_work_146 post (wY_work_79 post (nI mk0) (nI pd0) (m + 1)) (nI mk0) (nI pd0) 0 yma ypo yhe0 yvm0 yin0 yfi0 yde0 yap yas yto yan yco yti yna yac yen yic0 o l kS d pl ys0 yk0 yn0 yp0 yf0 yo yi yw ya y1 y2 yK yW yL yq nm nv no yA lf rt iK0 iN0) := by
      intro mk pd nd yma ypo yap yas yto yan yco yti yna yac yen o l kS d pl yo yi yw ya y1 y2 yK yW yL yq nm nv no yA lf rt hY
      have hY0 := hY
      obtain ⟨⟨b1, b2, b3, b4, b5, b6, b7, b8, b9, b10, b11⟩, hfl, hen, hhy, hby, hfr, han, hq0, hq1, hz1, hz2, hz3⟩ := hY
      refine hYw mk0 pd0 mk pd nd yhe0 yvm0 yin0 yfi0 yde0 yic0 ys0 yk0 yn0 yp0 yf0 iK0 iN0 o0 l0 kS0 d0 pl0 yma ypo yap yas yto yan yco yti yna yac yen o l kS d pl yo yi yw ya y1 y2 yK yW yL yq nm nv no yA lf rt hY0 post m (fun w wi nd' ya2 y1' y2' yK2 yL2 nm2 nv2 no2 hu => ?_)
      obtain ⟨u1, u2, u3, u3', u4, u5, u6, u7, u8, u9, u10, u11, u12, u13⟩ := hu
      refine hp mk pd nd' yma ypo (nI (n + 1)) (nI (pa'.length + 2)) yto yan (nI (c + 1)) yti (nI nd') yac yen o l kS d pl (upd yo n (yp0 (q * 3 + r))) (vp_updL yi n w) (upd yw n wi) (upd ya2 n 0) y1' y2' (vp_updL yK2 n 0) (upd yW n 0) yL2 (upd yq (pa'.length + 1) (nI n)) nm2 nv2 no2 yA lf rt ⟨⟨b1, b2, rfl, rfl, b5, rfl, u3', b8, b9, b10, b11.1, by rw [md_w3_n hpn n16]; exact b11.2⟩, hfl, u4, hhy, ?_, fun f hf' => ?_, han, fun _ => ⟨rfl, pk_us, md_qu u1 (by rw [List.length_cons]; exact Nat.le_refl _)⟩, fun w => absurd rfl w, fun w => absurd w (by decide), fun w => absurd w (by decide), fun w => absurd w (by decide)⟩
      · obtain ⟨h1, h2⟩ := hby
        have key : ∀ f, f < n + 1 → fr_o pO (upd fP n (nI cq)) f = 16 → upd (upd fA n (-1)) p (nI n) f ≠ -1 → f < n ∧ f ≠ p ∧ f ≠ n ∧ fr_o pO fP f = 16 ∧ fA f ≠ -1 := by
          intro f hf' o16 hA
          by_cases en : f = n
          · subst en
            rw [pk_un (show f ≠ p by omega), pk_us] at hA
            exact absurd rfl hA
          · rw [eo f en] at o16
            have hfp : f ≠ p := fun w => n16 (by rw [← w]; exact o16)
            rw [pk_un hfp, pk_un en] at hA
            exact ⟨by omega, hfp, en, o16, hA⟩
        refine ⟨fun f hf' o16 hA => ?_, fun f f' a1 a2 hf1 hf2 hne o1 A1 o2 A2 e1 e2 => ?_⟩
        · obtain ⟨k1, k2, k3, k4, k5⟩ := key f hf' o16 hA
          rw [pk_un k3, pk_un k3, pk_un k3, pk_un k3, eH2 f k2, (u7 f k2).1]
          exact h1 f k1 k4 k5
        · obtain ⟨k1, k2, k3, k4, k5⟩ := key f hf1 o1 A1
          obtain ⟨m1, m2, m3, m4, m5⟩ := key f' hf2 o2 A2
          rw [pk_un k3, (u7 f k2).1] at e1
          rw [pk_un m3, (u7 f' m2).1] at e2
          exact h2 f f' a1 a2 k1 m1 hne k4 k5 m4 m5 e1 e2
      · by_cases en : f = n
        · subst en
          refine ⟨?_, ?_, ?_, fun x hx => Or.inl ?_, ?_⟩
          · rw [pk_us, pk_us, b11.1, ePI]
          · rw [pk_us, pk_uLs]
            exact u2
          · rw [pk_us]
            exact u5
          · rw [fn_c_at 3 hx, pk_us]
            exact u11 x hx
          · have hfp := hfl cq (by omega)
            obtain ⟨oq', p1, p2, p3, p4, p5, p6, p7, p8, p9⟩ := hfp
            have hoo : fr_o pO (upd fP f (nI cq)) f = oq' := by
              unfold fr_o
              rw [pk_us, nI_clamp (show cq < 2 ^ 31 by omega), p2, nI_clamp (by omega)]
            rw [hoo, pk_us, pk_us, pk_un (show f ≠ p by omega), pk_us, eOn, pk_us, pk_us, u9, u10, pk_us, pk_uLs, nI_clamp (show cq < 2 ^ 31 by omega), pk_us]
            exact fr_S0 (rl_R00 hh.1 hh.2.2.2.1) (Nat.zero_le _) p8
        · have hfn : f < n := by omega
          obtain ⟨t1, t2, t3, t4, t5⟩ := hfr f hfn
          by_cases ep : f = p
          · subst ep
            refine ⟨?_, ?_, ?_, fun x hx => ?_, ?_⟩
            · rw [pk_un en, pk_un en]; exact t1
            · rw [pk_un en, pk_uLn en]; exact t2
            · rw [pk_un en]; exact en_at_u t3 u3
            · rw [fn_c_lo (show f * 3 + x < n * 3 by omega), pk_un en, pk_un en, eo f en, u6 _ _ t3, eP, nI_clamp (show q < 2 ^ 31 by omega)]
              exact u12 x hx
            · rw [eo f en, pk_un en, pk_un en, pk_un en, pk_us, pk_un en, pk_un en, pk_un en, pk_uLn en, eP, nI_clamp (show q < 2 ^ 31 by omega)]
              exact u13
          · obtain ⟨v1, v2, v3⟩ := u7 f ep
            obtain ⟨v4, v5⟩ := u8 f ep en
            refine ⟨?_, ?_, ?_, fun x hx => ?_, ?_⟩
            · rw [pk_un en, pk_un en]; exact t1
            · rw [pk_un en, pk_uLn en]; exact t2
            · rw [pk_un en]; exact en_at_u t3 u3
            · rw [fn_c_lo (show f * 3 + x < n * 3 by omega), pk_un en, pk_un en, eo f en, u6 _ _ t3, eN2 f x ep hx, v4]
              exact t4 x hx
            · rw [eo f en, pk_un en, pk_un en, pk_un en, pk_un ep, pk_un en, pk_un en, pk_un en, pk_un en, pk_uLn en, eO f ep en, eH2 f ep, v1, v2, v3, v4, v5]
              exact fr_S_up (fun _ _ w => w) (fun _ w => w) (fun _ _ w => w) (Nat.le_succ _) t5
    by_cases e0 : xsi = 0
    · exact hm.1 e0 post ⟨m + 1, fun mk pd nd yma ypo yap yas yto yan yco yti yna yac yen o l kS d pl yo yi yw ya y1 y2 yK yW yL yq nm nv no yA lf rt hY => (key mk pd nd yma ypo yap yas yto yan yco yti yna yac yen o l kS d pl yo yi yw ya y1 y2 yK yW yL yq nm nv no yA lf rt hY).1 e0⟩
    · exact hm.2 e0 post ⟨m + 1, fun mk pd nd yma ypo yap yas yto yan yco yti yna yac yen o l kS d pl yo yi yw ya y1 y2 yK yW yL yq nm nv no yA lf rt hY => (key mk pd nd yma ypo yap yas yto yan yco yti yna yac yen o l kS d pl yo yi yw ya y1 y2 yK yW yL yq nm nv no yA lf rt hY).2 e0⟩
