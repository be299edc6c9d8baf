/-! ===== asked ===== -/
/-- what is through ends -/
theorem cq_thru {post : SX → Prop} {T : List Nat → Option vv_L} {nf bo np : Nat} {K0 N0 Z0 D0 I0 W0 P0 : Nat → Int32} {xst xow xin xpa xfi xfr xno xsi xan xkn xen xco xrm xac : Int32} {K N Z D Im W P vS pO pX pI fS fP fI fU fR fO fA fH fG fN aS qL qR qP : Nat → Int32} {st : Nat} {V al : Nat → Prop} {g : Nat} {pa : List Nat} {n c rm a : Nat}
    (hX : md_X V al g pa bo np n c rm a st xfr xno xsi xen xco xrm xac K N Z D Im W P K0 N0 Z0 D0 I0 W0 P0 pO pX fP fU fR fO fA fH fG) (hv : mv_X V n xsi xan pO fP fI fH fN) (ha : ma_X V a aS)
    (hM : ∀ (mk0 pd0 : Nat) (v0 : SY), kn_F T np nf pO pX pI fS mk0 pd0 v0 → rm_M V pa g np n c rm a st xsi xan K N Z D W P pO pX pI fP fI fO fA fH fG fN aS mk0 pd0 v0)
    (H : lp_G T nf bo np K0 N0 Z0 D0 I0 W0 P0 post xst xow xin xpa xfi xkn vS pO pX pI fS st) {q : Nat} (eP : fP g = nI q) (hqn : q < np) (hq : q < 40) {oq x gv : Nat} (ho : oq ≤ 35) (n7 : oq ≠ 7) (n15 : oq ≠ 15) (eO : pO q = nI oq) (es : xsi = 0) (eG : fG g = nI gv) (hgv : gv < 2 ^ 31) (ht : (oq = 18 ∧ pX q = nI x ∧ x < 10 ∧ x ≤ gv) ∨ ((oq < 16 ∨ oq = 16 ∨ oq = 35) ∧ 0 < gv)) : wX_workOut_68 post (1000001 - st) (nI st) xst xow xin xpa xfi xfr xno xsi xan xkn xen xco xrm xac K N Z D Im W P vS pO pX pI fS fP fI fU fR fO fA fH fG fN aS qL qR qP := by
  subst es
  obtain ⟨hg, hn6, hst, hlen, _⟩ := mx_f hX
  have hX0 := hX
  obtain ⟨⟨x1, x2, x3, x4, x5, x6, x7, x8, x9, x10⟩, hs, hh, hb, hf, hr, hG, hpot⟩ := hX
  have hfo := mx_fo eP hq eO (by omega)
  refine xs_ask (by omega) x3 rfl (xa_through x2 (by omega) eP hq eO ho n7 n15 eG hgv ht ?_)
  refine lp_K H (Nat.le_refl _) (rm_quiet (k := 1) hX0 hv ha hM rfl (by omega) (by omega) (Or.inl rfl) (fun mk0 pd0 mk pd nd yhe yvm yin yfi yde yic ys yk yn yp yf iK iN o0 l0 kS0 d0 pl0 yma ypo yap yas yto yan yco yti yna yac yen o l kS d pl yo yi yw ya y1 y2 yK yW yL yq nm nv no yA lf rt hY Q hQ => ?_))
  obtain ⟨⟨b1, b2, b3, b4, b5, b6, b7, b8, b9, b10, b11⟩, hfl, hen, hhy, hby, hfr, han, hq0, hq1, hz1, hz2, hz3⟩ := hY
  obtain ⟨t1, t2, t3, t4, t5⟩ := hfr g hg
  obtain ⟨ey, eq⟩ := hq0 rfl
  have eyo := t1.symm.trans eP
  rw [hfo] at t5
  rw [e21] at hQ
  have ek := my_k _ rfl ho (hfl q hqn) eO
  obtain ⟨k1, k2, k3⟩ := kk_lt ho
  have ng : 0 < gv → ¬ fG g = 0 := fun w e => by
    have := (nI_eq (b := 0) (by omega) (by omega)).mp (eG.symm.trans e)
    omega
  rcases ht with ⟨e18, w1, w2, w3⟩ | ⟨w1, w2⟩
  · subst e18
    obtain ⟨gg, m, s1, s2, s3, s4, s5⟩ := t5.2.2.2.2.2.1 rfl
    rw [eP, nI_clamp (by omega), w1] at s3
    have h1 : x = m := (nI_eq (by omega) (by omega)).mp s3
    have h2 : gv = gg := (nI_eq (by omega) (by omega)).mp (eG.symm.trans s1)
    exact ys_tell1 (by omega) eyo hq ek (by omega) (k3 (by omega)) ey (Or.inr (Or.inl ⟨rfl, by rw [s2, b10, w1, ← h2, show gv = x by omega]⟩)) (hQ 0)
  · by_cases h16 : oq < 16
    · have h1 : oq ≠ 8 → ya g = 1 := fun n8 => by
        obtain ⟨s1, s2, s3, s4⟩ := t5.1 h16
        rw [← s4 n7 n8 n15]
        rcases s3 with z | z | z | z
        · exact absurd z (ng w2)
        · exact z
        · exact absurd z n7
        · exact absurd z n15
      rw [k2 h16] at ek
      exact ys_end (by omega) eyo hq ek h16 n7 n15 (by by_cases e : oq = 8; exact Or.inl e; exact Or.inr (h1 e)) ey (hQ 0)
    · by_cases e16 : oq = 16
      · subst e16
        refine ys_tell1 (by omega) eyo hq ek (by omega) (k3 (by omega)) ey (Or.inl ⟨rfl, ?_⟩) (hQ 0)
        rcases t5.2.2.2.2.1 rfl with ⟨_, z, _⟩ | ⟨_, _, b, z, z2⟩
        · exact absurd z (ng w2)
        · rw [z]
          exact nI_ne0 (by omega) (by omega)
      · have e35 : oq = 35 := by omega
        subst e35
        refine ys_tell1 (by omega) eyo hq ek (by omega) (k3 (by omega)) ey (Or.inr (Or.inr ⟨rfl, ?_⟩)) (hQ 0)
        obtain ⟨_, s2⟩ := t5.2.2.2.2.2.2.2.2.2 rfl
        rcases s2 with ⟨_, _, z, _⟩ | ⟨_, _, z, _⟩ | ⟨_, _, z, _⟩ | ⟨_, _, _, z, _⟩ | ⟨_, _, z⟩
        · exact absurd z (ng w2)
        · exact absurd z (ng w2)
        · exact absurd z (ng w2)
        · exact absurd z (ng w2)
        · exact z
/-- the filter within is asked again -/
theorem cq_down {post : SX → Prop} {T : List Nat → Option vv_L} {nf bo np : Nat} {K0 N0 Z0 D0 I0 W0 P0 : Nat → Int32} {xst xow xin xpa xfi xfr xno xsi xan xkn xen xco xrm xac : Int32} {K N Z D Im W P vS pO pX pI fS fP fI fU fR fO fA fH fG fN aS qL qR qP : Nat → Int32} {st : Nat} {V al : Nat → Prop} {g : Nat} {pa : List Nat} {n c rm a : Nat}
    (hX : md_X V al g pa bo np n c rm a st xfr xno xsi xen xco xrm xac K N Z D Im W P K0 N0 Z0 D0 I0 W0 P0 pO pX fP fU fR fO fA fH fG) (hv : mv_X V n xsi xan pO fP fI fH fN) (ha : ma_X V a aS)
    (hM : ∀ (mk0 pd0 : Nat) (v0 : SY), kn_F T np nf pO pX pI fS mk0 pd0 v0 → rm_M V pa g np n c rm a st xsi xan K N Z D W P pO pX pI fP fI fO fA fH fG fN aS mk0 pd0 v0)
    (H : lp_G T nf bo np K0 N0 Z0 D0 I0 W0 P0 post xst xow xin xpa xfi xkn vS pO pX pI fS st) {q : Nat} (eP : fP g = nI q) (hqn : q < np) (hq : q < 40) {oq x gv : Nat} (h17 : 17 ≤ oq) (ho : oq ≤ 34) (eO : pO q = nI oq) (es : xsi = 0) (eG : fG g = nI gv) (hgv : gv < 2 ^ 31) (h18 : oq = 18 → pX q = nI x ∧ x < 10 ∧ gv < x) (hA : fA g ≠ -1) : wX_workOut_68 post (1000001 - st) (nI st) xst xow xin xpa xfi xfr xno xsi xan xkn xen xco xrm xac K N Z D Im W P vS pO pX pI fS fP fI fU fR fO fA fH fG fN aS qL qR qP := by
  subst es
  obtain ⟨hg, hn6, hst, hlen, _⟩ := mx_f hX
  have hX0 := hX
  obtain ⟨⟨x1, x2, x3, x4, x5, x6, x7, x8, x9, x10⟩, hs, hh, hb, hf, hr, hG, hpot⟩ := hX
  have hfo := mx_fo eP hq eO (by omega)
  have hrun : fr_run pO pX fP fG g := ⟨fun w => absurd w (by omega), fun w => by
    obtain ⟨w1, w2, w3⟩ := h18 (by omega)
    exact ⟨gv, x, eG, by rw [eP, nI_clamp (by omega)]; exact w1, w3, w2⟩⟩
  obtain ⟨ch, hch, hc6⟩ : ∃ ch, fA g = nI ch ∧ ch < 600 := by
    obtain ⟨_, _, k⟩ := hf.2.1 g hg
    rcases k with k | ⟨⟨c', e1, _, e3, _⟩, _⟩
    · exact absurd k hA
    · exact ⟨c', e1, by omega⟩
  refine xs_ask (by omega) x3 rfl (xa_go (x := x) x2 (by omega) eP hq eO (by omega) (by omega) (by omega) eG hgv h18 (fun w => absurd w (by omega)) (fun w => absurd w (by omega)) (fun _ _ => ?_) (fun _ w => absurd w hA))
  rw [hch]
  refine lp_K H (Nat.le_refl _) (rm_down hX0 hv ha hM rfl hch hc6 (by omega) (by omega) hrun (fun mk0 pd0 mk pd nd yhe yvm yin yfi yde yic ys yk yn yp yf iK iN o0 l0 kS0 d0 pl0 yma ypo yap yas yto yan yco yti yna yac yen o l kS d pl yo yi yw ya y1 y2 yK yW yL yq nm nv no yA lf rt hY Q hQ => ?_))
  obtain ⟨⟨b1, b2, b3, b4, b5, b6, b7, b8, b9, b10, b11⟩, hfl, hen, hhy, hby, hfr, han, hq0, hq1, hz1, hz2, hz3⟩ := hY
  obtain ⟨t1, t2, t3, t4, t5⟩ := hfr g hg
  obtain ⟨ey, eq⟩ := hq0 rfl
  have eyo := t1.symm.trans eP
  rw [hfo] at t5
  have ek := my_k _ rfl (by omega) (hfl q hqn) eO
  obtain ⟨k1, k2, k3⟩ := kk_lt (show oq ≤ 35 by omega)
  have hk21 : 21 ≤ fl_kk oq ∧ fl_kk oq < 51 ∧ (fl_kk oq = 22 → oq = 18) ∧ (29 < fl_kk oq → 21 ≤ oq) ∧ (21 ≤ oq → 29 < fl_kk oq) := by
    unfold fl_kk
    rw [if_neg (show ¬ oq < 16 by omega)]
    split
    · omega
    · split <;> omega
  obtain ⟨j1, j2, j3, j4, j5⟩ := hk21
  have n22 : fl_kk oq = 22 → ¬ yW g = yn q := fun w e => by
    obtain ⟨w1, w2, w3⟩ := h18 (j3 w)
    obtain ⟨gg, m, s1, s2, s3, s4, s5⟩ := t5.2.2.2.2.2.1 (j3 w)
    rw [s2, b10, w1] at e
    have h1 := (nI_eq (by omega) (by omega)).mp e
    have h2 : gv = gg := (nI_eq (by omega) (by omega)).mp (eG.symm.trans s1)
    omega
  by_cases h21 : 21 ≤ oq
  · by_cases hAO : fA g = fO g
    · obtain ⟨a1, a2⟩ := my_a0 t5 h21 ho hAO
      exact ys_first (by omega) eyo hq ek j2 j1 n22 (fun _ => a1) (fun Q hQ => yr_askFirst_a (a := pa.length + 1) (f := ch) ey (by omega) (by omega) (a2.trans (hAO.symm.trans hch)) hc6 hQ) hQ
    · obtain ⟨a1, a2, a3⟩ := my_a1 t5 h21 ho hAO
      exact ys_second (a := pa.length + 1) (f := ch) (by omega) eyo hq ek j2 (j5 h21) (a1.trans hch) hc6 ey (by omega) hQ
  · obtain ⟨a1, a2⟩ := t5.2.2.2.1 (by omega) (by omega)
    exact ys_first (by omega) eyo hq ek j2 j1 n22 (fun w => absurd (j4 w) h21) (fun Q hQ => yr_askFirst_a (a := pa.length + 1) (f := ch) ey (by omega) (by omega) (a2.trans (a1.symm.trans hch)) hc6 hQ) hQ
/-- fr_S once the first filter within stands -/
theorem fr_S_new0 {R : Int32 → Int64 → Prop} {E : Int32 → Nat → Prop} {Dp : Int32 → Nat → Nat → Prop} {oq st n : Nat} {x fi gi ac ou he ya y1 y2 yW : Int32} {yK yL : Int64} (h : fr_S R E Dp oq x st fi gi ac ou he ya y1 y2 yW yK yL) (h1 : 17 ≤ oq) (h2 : oq ≤ 34) (e : ac = -1) : fr_S R E Dp oq x (st + 1) fi gi (nI n) (nI n) he ya (nI n) y2 yW yK yL := by
  obtain ⟨_, _, _, _, _, h6, h7, h8, h9, _⟩ := h
  refine ⟨fun w => absurd w (by omega), fun w => absurd w (by omega), fun w => absurd w (by omega), fun _ _ => ⟨rfl, rfl⟩, fun w => absurd w (by omega), h6, fun a b => ⟨rfl, Or.inl ⟨?_, rfl⟩⟩, h8, fun w => ?_, fun w => absurd w (by omega)⟩
  · rcases (h7 a b).2 with ⟨z, _⟩ | ⟨_, z, _⟩
    · exact z
    · exact absurd e z
  · rcases h9 w with z | ⟨z, g, z1, z2⟩
    · exact Or.inl z
    · exact Or.inr ⟨z, g, z1, by omega⟩
/-- the first filter within is applied -/
theorem cq_new0 {post : SX → Prop} {T : List Nat → Option vv_L} {nf bo np : Nat} {K0 N0 Z0 D0 I0 W0 P0 : Nat → Int32} {xst xow xin xpa xfi xfr xno xsi xan xkn xen xco xrm xac : Int32} {K N Z D Im W P vS pO pX pI fS fP fI fU fR fO fA fH fG fN aS qL qR qP : Nat → Int32} {st : Nat} {V al : Nat → Prop} {g : Nat} {pa : List Nat} {n c rm a : Nat}
    (hX : md_X V al g pa bo np n c rm a st xfr xno xsi xen xco xrm xac K N Z D Im W P K0 N0 Z0 D0 I0 W0 P0 pO pX fP fU fR fO fA fH fG) (hv : mv_X V n xsi xan pO fP fI fH fN) (ha : ma_X V a aS)
    (hM : ∀ (mk0 pd0 : Nat) (v0 : SY), kn_F T np nf pO pX pI fS mk0 pd0 v0 → rm_M V pa g np n c rm a st xsi xan K N Z D W P pO pX pI fP fI fO fA fH fG fN aS mk0 pd0 v0)
    (H : lp_G T nf bo np K0 N0 Z0 D0 I0 W0 P0 post xst xow xin xpa xfi xkn vS pO pX pI fS st) {q : Nat} (eP : fP g = nI q) (hqn : q < np) (hq : q < 40) {oq x gv : Nat} (h17 : 17 ≤ oq) (ho : oq ≤ 34) (eO : pO q = nI oq) (es : xsi = 0) (eG : fG g = nI gv) (hgv : gv < 2 ^ 31) (h18 : oq = 18 → pX q = nI x ∧ x < 10 ∧ gv < x) (hA : fA g = -1) : wX_workOut_68 post (1000001 - st) (nI st) xst xow xin xpa xfi xfr xno xsi xan xkn xen xco xrm xac K N Z D Im W P vS pO pX pI fS fP fI fU fR fO fA fH fG fN aS qL qR qP := by
  subst es
  obtain ⟨hg, hn6, hst, hlen, _⟩ := mx_f hX
  have hX0 := hX
  obtain ⟨⟨x1, x2, x3, x4, x5, x6, x7, x8, x9, x10⟩, hs, hh, hb, hf, hr, hG, hpot⟩ := hX
  have hfo := mx_fo eP hq eO (by omega)
  have hrun : fr_run pO pX fP fG g := ⟨fun w => absurd w (by omega), fun w => by
    obtain ⟨w1, w2, w3⟩ := h18 (by omega)
    exact ⟨gv, x, eG, by rw [eP, nI_clamp (by omega)]; exact w1, w3, w2⟩⟩
  have hk21 : 21 ≤ fl_kk oq ∧ fl_kk oq < 51 ∧ (fl_kk oq = 22 → oq = 18) ∧ (29 < fl_kk oq → 21 ≤ oq) := by
    unfold fl_kk
    rw [if_neg (show ¬ oq < 16 by omega)]
    split
    · omega
    · split <;> omega
  obtain ⟨j1, j2, j3, j4⟩ := hk21
  have har : 0 < fl_ar oq := by
    unfold fl_ar
    rw [if_neg (show ¬ oq < 16 by omega)]
    split
    · omega
    · split <;> omega
  obtain ⟨yk', hfp⟩ := H.1 q hqn
  obtain ⟨oq', p1, p2, p3, p4, _⟩ := hfp
  have : oq' = oq := (nI_eq (by omega) (by omega)).mp (p2.symm.trans eO)
  subst this
  obtain ⟨cq, c1, c2⟩ := p4 0 har
  refine xs_ask (by omega) x3 rfl (xa_go (x := x) x2 (by omega) eP hq eO (by omega) (by omega) (by omega) eG hgv h18 (fun w => absurd w (by omega)) (fun w => absurd w (by omega)) (fun _ w => absurd hA w) (fun _ _ => ?_))
  by_cases hc : c < 600
  · refine xa_begin (n := n) (c := c) x2 x1 x4 (by omega) hc hg eP hq (by omega) (by omega) (fun _ => ?_) (fun w => absurd w (by omega))
    have key : rm_I T nf bo np K0 N0 Z0 D0 I0 W0 P0 (st + 1) (xst, xow, xin, xpa, xfi, (nI (n + 1)), (nI n), 0, xan, xkn, xen, (nI (c + 1)), xrm, xac, K, N, Z, D, Im, W, P, vS, pO, pX, pI, fS, (upd fP n (pI (q * 3 + 0))), (upd fI n (fI g)), (upd fU n (nI g)), (upd fR n (nI 0)), (upd (upd fO n (-1)) g (nI n)), (upd (upd fA n (-1)) g (nI n)), (upd fH n 0), (upd fG n 0), (fn_c fN n g 3), aS, qL, qR, qP) := rm_new (p := g) (pa' := pa) (q := q) (r := 0) (cq := cq) (x0 := 0) (fH2 := fH) (fN2 := fN) hX0 hv ha hM (by omega) (by rw [md_ph_0]; omega) (fr_X_w hf) hc (by omega) (by omega) (by omega) (fun w => absurd rfl w) hrun eP hq (by omega) c1 c2 hqn (fun f a b => by rw [pk_un a, pk_un b]) (by rw [pk_un (show n ≠ g by omega), pk_us]) (fun _ => pk_us) (fun w => absurd rfl w) (fun w => absurd rfl w) (fun _ _ => rfl) (fun _ _ _ _ => rfl) ((hv.2 g hg).1) ((hv.2 g hg).2.1 (by omega)) ((hv.2 g hg).2.2) (fun mk0 pd0 mk pd nd yhe yvm yin yfi yde yic ys yk yn yp yf iK iN o0 l0 kS0 d0 pl0 yma ypo yap yas yto yan yco yti yna yac yen o l kS d pl yo yi yw ya y1 y2 yK yW yL yq nm nv no yA lf rt hY post m hu => by
      obtain ⟨⟨b1, b2, b3, b4, b5, b6, b7, b8, b9, b10, b11⟩, hfl, hen, hhy, hby, hfr, han, hq0, hq1, hz1, hz2, hz3⟩ := hY
      obtain ⟨t1, t2, t3, t4, t5⟩ := hfr g hg
      obtain ⟨ey, eq⟩ := hq0 rfl
      have eyo := t1.symm.trans eP
      rw [hfo] at t5
      have ek := my_k _ rfl (by omega) (hfl q hqn) eO
      refine ⟨fun _ => ?_, fun w => absurd rfl w⟩
      have n22 : fl_kk oq' = 22 → ¬ yW g = yn q := fun w e => by
        obtain ⟨w1, w2, w3⟩ := h18 (j3 w)
        obtain ⟨gg, m, s1, s2, s3, s4, s5⟩ := t5.2.2.2.2.2.1 (j3 w)
        rw [s2, b10, w1] at e
        have h1 := (nI_eq (by omega) (by omega)).mp e
        have h2 : gv = gg := (nI_eq (by omega) (by omega)).mp (eG.symm.trans s1)
        omega
      have e12 : y1 g = -1 ∧ (21 ≤ oq' → y2 g = -1) := by
        by_cases h21 : 21 ≤ oq'
        · obtain ⟨a1, a2⟩ := t5.2.2.2.2.2.2.1 h21 ho
          rcases a2 with ⟨z, z2⟩ | ⟨_, z, _⟩
          · exact ⟨a1.trans (z2.symm.trans hA), fun _ => z⟩
          · exact absurd hA z
        · obtain ⟨a1, a2⟩ := t5.2.2.2.1 (by omega) (by omega)
          exact ⟨a2.trans (a1.symm.trans hA), fun w => absurd w h21⟩
      refine ct_F b9 ey (by omega) eq.1 (ys_first (by omega) eyo hq ek j2 j1 n22 (fun w => e12.2 (j4 w)) (fun Q hQ => yr_askFirst (n := n) (c := c) (a := pa.length + 1) b3 b4 ey (by omega) hc (by omega) hg eyo hq e12.1 hQ) (ct_asked ey (by omega) rfl b5 ?_))
      have t4' : ∀ x, x < 3 → vv_R V K N Z D P mk o l kS d pl (fN (g * 3 + x)) (en_e nm no nv (yw g) x) := fun x hx => (t4 x hx).elim id (fun z => absurd e12.1 z.2.2)
      have := hu (yi g) (yw g) nd ya (upd (upd y1 n (-1)) g (nI n)) (upd y2 n (-1)) yK yL nm nv no ⟨eq, t2, Nat.le_refl _, by omega, hen, t3, fun _ _ _ => rfl, fun _ _ => ⟨rfl, rfl, rfl⟩, fun f a b => ⟨by rw [pk_un a, pk_un b], pk_un b⟩, by rw [pk_un (show n ≠ g by omega), pk_us], pk_us, t4', fun x hx => Or.inl (t4' x hx), by
        rw [hfo, pk_us, pk_us, pk_un (show g ≠ n by omega)]
        rw [eP, nI_clamp (show q < 2 ^ 31 by omega)] at t5
        exact fr_S_new0 t5 h17 ho hA⟩
      rw [b6]
      exact this)
    exact lp_K H (Nat.le_refl _) key
  · have hc6 : c = 600 := by omega
    subst hc6
    refine xa_begin_t x2 x4 (by omega) (by omega) (by omega) ?_
    refine lp_E H (by omega) (rm_tiredF hX0 hv ha hM rfl (fun _ _ => ⟨rfl, rfl, rfl⟩) (fun mk0 pd0 mk pd nd yhe yvm yin yfi yde yic ys yk yn yp yf iK iN o0 l0 kS0 d0 pl0 yma ypo yap yas yto yan yco yti yna yac yen o l kS d pl yo yi yw ya y1 y2 yK yW yL yq nm nv no yA lf rt hY Q hQ => ?_))
    obtain ⟨⟨b1, b2, b3, b4, b5, b6, b7, b8, b9, b10, b11⟩, hfl, hen, hhy, hby, hfr, han, hq0, hq1, hz1, hz2, hz3⟩ := hY
    obtain ⟨t1, t2, t3, t4, t5⟩ := hfr g hg
    obtain ⟨ey, eq⟩ := hq0 rfl
    have eyo := t1.symm.trans eP
    rw [hfo] at t5
    have ek := my_k _ rfl (by omega) (hfl q hqn) eO
    have n22 : fl_kk oq' = 22 → ¬ yW g = yn q := fun w e => by
      obtain ⟨w1, w2, w3⟩ := h18 (j3 w)
      obtain ⟨gg, m, s1, s2, s3, s4, s5⟩ := t5.2.2.2.2.2.1 (j3 w)
      rw [s2, b10, w1] at e
      have h1 := (nI_eq (by omega) (by omega)).mp e
      have h2 : gv = gg := (nI_eq (by omega) (by omega)).mp (eG.symm.trans s1)
      omega
    have e12 : y1 g = -1 ∧ (21 ≤ oq' → y2 g = -1) := by
      by_cases h21 : 21 ≤ oq'
      · obtain ⟨a1, a2⟩ := t5.2.2.2.2.2.2.1 h21 ho
        rcases a2 with ⟨z, z2⟩ | ⟨_, z, _⟩
        · exact ⟨a1.trans (z2.symm.trans hA), fun _ => z⟩
        · exact absurd hA z
      · obtain ⟨a1, a2⟩ := t5.2.2.2.1 (by omega) (by omega)
        exact ⟨a2.trans (a1.symm.trans hA), fun w => absurd w h21⟩
    exact ys_first (by omega) eyo hq ek j2 j1 n22 (fun w => e12.2 (j4 w)) (fun Q hQ => yr_askFirst_t b4 (by omega) eyo hq e12.1 hQ) (hQ ypo yas yto yan ya _ y2 yK yW yL lf rt)
theorem fr_leaf {pO fP fU fR fO fA : Nat → Int32} {np n f : Nat} (h : fr_lk pO np n fP fU fR fO fA f) (ho : fr_o pO fP f < 16) : fA f = -1 ∧ fO f = -1 := by
  obtain ⟨_, h2, h3⟩ := h
  have e : fO f = -1 := by
    rcases h2 with w | ⟨_, _, w, _⟩
    · exact w
    · omega
  refine ⟨?_, e⟩
  rcases h3 with w | ⟨_, ⟨_, w⟩ | ⟨_, _, w, _⟩⟩
  · exact w
  · rw [← w]; exact e
  · omega
/-- 'all' begins -/
theorem cq_all0 {post : SX → Prop} {T : List Nat → Option vv_L} {nf bo np : Nat} {K0 N0 Z0 D0 I0 W0 P0 : Nat → Int32} {xst xow xin xpa xfi xfr xno xsi xan xkn xen xco xrm xac : Int32} {K N Z D Im W P vS pO pX pI fS fP fI fU fR fO fA fH fG fN aS qL qR qP : Nat → Int32} {st : Nat} {V al : Nat → Prop} {g : Nat} {pa : List Nat} {n c rm a : Nat}
    (hX : md_X V al g pa bo np n c rm a st xfr xno xsi xen xco xrm xac K N Z D Im W P K0 N0 Z0 D0 I0 W0 P0 pO pX fP fU fR fO fA fH fG) (hv : mv_X V n xsi xan pO fP fI fH fN) (ha : ma_X V a aS)
    (hM : ∀ (mk0 pd0 : Nat) (v0 : SY), kn_F T np nf pO pX pI fS mk0 pd0 v0 → rm_M V pa g np n c rm a st xsi xan K N Z D W P pO pX pI fP fI fO fA fH fG fN aS mk0 pd0 v0)
    (H : lp_G T nf bo np K0 N0 Z0 D0 I0 W0 P0 post xst xow xin xpa xfi xkn vS pO pX pI fS st) {q : Nat} (eP : fP g = nI q) (hqn : q < np) (hq : q < 40) (eO : pO q = nI 16) (es : xsi = 0) (eG : fG g = 0) (hA : fA g = -1) : wX_workOut_68 post (1000001 - st) (nI st) xst xow xin xpa xfi xfr xno xsi xan xkn xen xco xrm xac K N Z D Im W P vS pO pX pI fS fP fI fU fR fO fA fH fG fN aS qL qR qP := by
  subst es
  obtain ⟨hg, hn6, hst, hlen, _⟩ := mx_f hX
  have hX0 := hX
  obtain ⟨⟨x1, x2, x3, x4, x5, x6, x7, x8, x9, x10⟩, hs, hh, hb, hf, hr, hG, hpot⟩ := hX
  have hfo := mx_fo eP hq eO (by omega)
  obtain ⟨yk', hfp⟩ := H.1 q hqn
  obtain ⟨oq', p1, p2, p3, p4, _⟩ := hfp
  have : oq' = 16 := (nI_eq (by omega) (by omega)).mp (p2.symm.trans eO)
  subst this
  obtain ⟨cq, c1, c2⟩ := p4 0 (by decide)
  have hrm : rm < 600 := by
    have h3 : md_w2 fA fG g = 1 := by
      unfold md_w2
      rw [if_pos ⟨eG, hA⟩]
    have := vv_sm_up (f := md_w2 fA fG) hg
    omega
  refine xs_ask (by omega) x3 rfl (xa_go (x := 0) (gv := 0) x2 (by omega) eP hq eO (by omega) (by omega) (by omega) eG (by omega) (fun w => absurd w (by omega)) (fun _ => rfl) (fun w => absurd w (by omega)) (fun _ w => absurd hA w) (fun _ _ => xa_beginAll (n := n) (c := c) (rm := rm) x2 x1 x4 x5 hrm (fun w => by omega) (by omega) x9 hg eP hq (fun hc => ?_) (fun hc => ?_)))
  · exact lp_K H (Nat.le_refl _) (rm_all hX0 hv ha hM rfl hfo hA eG hc eP hq hqn c1 c2)
  · subst hc
    have hne : ∀ s, V s ∨ s < 53 → s ≠ 53 + rm := fun s w e => by
      rcases w with w | w
      · have := (hh.2.1 s w).2; omega
      · omega
    refine lp_E H (by omega) (rm_tiredF hX0 hv ha hM rfl (fun s w => ⟨pk_un (hne s w), pk_un (hne s w), pk_un (hne s w)⟩) (fun mk0 pd0 mk pd nd yhe yvm yin yfi yde yic ys yk yn yp yf iK iN o0 l0 kS0 d0 pl0 yma ypo yap yas yto yan yco yti yna yac yen o l kS d pl yo yi yw ya y1 y2 yK yW yL yq nm nv no yA lf rt hY Q hQ => ?_))
    obtain ⟨⟨b1, b2, b3, b4, b5, b6, b7, b8, b9, b10, b11⟩, hfl, hen, hhy, hby, hfr, han, hq0, hq1, hz1, hz2, hz3⟩ := hY
    obtain ⟨t1, t2, t3, t4, t5⟩ := hfr g hg
    obtain ⟨ey, eq⟩ := hq0 rfl
    have eyo := t1.symm.trans eP
    rw [hfo] at t5
    have ek := my_k 20 rfl (by omega) (hfl q hqn) eO
    obtain ⟨a1, a2⟩ := t5.2.2.2.1 (by omega) (by omega)
    have e0 : ya g = 0 := by
      rcases t5.2.2.2.2.1 rfl with ⟨_, _, z, _⟩ | ⟨z, _⟩
      · exact z
      · exact absurd (a1.symm.trans hA) z
    exact ys_all0 (by omega) eyo hq ek e0 b2 (fun Q hQ => yr_askFirst_t b4 (by omega) eyo hq (a2.trans (a1.symm.trans hA)) hQ) (hQ (nI (pd + 10)) yas yto yan (upd ya g (nI (pd + 1))) _ y2 yK yW yL lf rt)
/-- a fold begins: B is applied -/
theorem cq_fold0 {post : SX → Prop} {T : List Nat → Option vv_L} {nf bo np : Nat} {K0 N0 Z0 D0 I0 W0 P0 : Nat → Int32} {xst xow xin xpa xfi xfr xno xsi xan xkn xen xco xrm xac : Int32} {K N Z D Im W P vS pO pX pI fS fP fI fU fR fO fA fH fG fN aS qL qR qP : Nat → Int32} {st : Nat} {V al : Nat → Prop} {g : Nat} {pa : List Nat} {n c rm a : Nat}
    (hX : md_X V al g pa bo np n c rm a st xfr xno xsi xen xco xrm xac K N Z D Im W P K0 N0 Z0 D0 I0 W0 P0 pO pX fP fU fR fO fA fH fG) (hv : mv_X V n xsi xan pO fP fI fH fN) (ha : ma_X V a aS)
    (hM : ∀ (mk0 pd0 : Nat) (v0 : SY), kn_F T np nf pO pX pI fS mk0 pd0 v0 → rm_M V pa g np n c rm a st xsi xan K N Z D W P pO pX pI fP fI fO fA fH fG fN aS mk0 pd0 v0)
    (H : lp_G T nf bo np K0 N0 Z0 D0 I0 W0 P0 post xst xow xin xpa xfi xkn vS pO pX pI fS st) {q : Nat} (eP : fP g = nI q) (hqn : q < np) (hq : q < 40) (eO : pO q = nI 35) (es : xsi = 0) (eG : fG g = 0) (hA : fA g = -1) (hO1 : fO g = -1) : wX_workOut_68 post (1000001 - st) (nI st) xst xow xin xpa xfi xfr xno xsi xan xkn xen xco xrm xac K N Z D Im W P vS pO pX pI fS fP fI fU fR fO fA fH fG fN aS qL qR qP := by
  subst es
  obtain ⟨hg, hn6, hst, hlen, _⟩ := mx_f hX
  have hX0 := hX
  obtain ⟨⟨x1, x2, x3, x4, x5, x6, x7, x8, x9, x10⟩, hs, hh, hb, hf, hr, hG, hpot⟩ := hX
  have hfo := mx_fo eP hq eO (by omega)
  obtain ⟨yk', hfp⟩ := H.1 q hqn
  obtain ⟨oq', p1, p2, p3, p4, _⟩ := hfp
  have : oq' = 35 := (nI_eq (by omega) (by omega)).mp (p2.symm.trans eO)
  subst this
  obtain ⟨cq, c1, c2⟩ := p4 1 (by decide)
  have hrun : fr_run pO pX fP fG g := ⟨fun _ => eG, fun w => absurd w (by omega)⟩
  refine xs_ask (by omega) x3 rfl (xa_go (x := 0) (gv := 0) x2 (by omega) eP hq eO (by omega) (by omega) (by omega) eG (by omega) (fun w => absurd w (by omega)) (fun _ => rfl) (fun w => absurd w (by omega)) (fun _ w => absurd hA w) (fun _ _ => ?_))
  by_cases hc : c < 600
  · refine xa_begin (n := n) (c := c) x2 x1 x4 (by omega) hc hg eP hq (by omega) (by omega) (fun w => absurd rfl w) (fun _ => ?_)
    have key : rm_I T nf bo np K0 N0 Z0 D0 I0 W0 P0 (st + 1) (xst, xow, xin, xpa, xfi, (nI (n + 1)), (nI n), 0, xan, xkn, xen, (nI (c + 1)), xrm, xac, K, N, Z, D, Im, W, P, vS, pO, pX, pI, fS, (upd fP n (pI (q * 3 + 1))), (upd fI n (fI g)), (upd fU n (nI g)), (upd fR n (nI 1)), (upd fO n (-1)), (upd (upd fA n (-1)) g (nI n)), (upd fH n 0), (upd fG n 0), (fn_c fN n g 3), aS, qL, qR, qP) := rm_new (p := g) (pa' := pa) (q := q) (r := 1) (cq := cq) (x0 := 0) (fH2 := fH) (fN2 := fN) hX0 hv ha hM (by omega) (by rw [md_ph_0]; omega) (fr_X_w hf) hc (by omega) (by omega) (by omega) (fun _ => ⟨by omega, fun w => absurd hfo w, fun _ => ⟨fun _ => hO1, fun _ => rfl⟩⟩) hrun eP hq (by omega) c1 c2 hqn (fun f a b => pk_un b) pk_us (fun w => absurd w (by omega)) (fun _ => pk_un (by omega)) (fun _ _ _ w => absurd hO1 w) (fun _ _ => rfl) (fun _ _ _ _ => rfl) ((hv.2 g hg).1) ((hv.2 g hg).2.1 (by omega)) ((hv.2 g hg).2.2) (fun mk0 pd0 mk pd nd yhe yvm yin yfi yde yic ys yk yn yp yf iK iN o0 l0 kS0 d0 pl0 yma ypo yap yas yto yan yco yti yna yac yen o l kS d pl yo yi yw ya y1 y2 yK yW yL yq nm nv no yA lf rt hY post m hu => by
      obtain ⟨⟨b1, b2, b3, b4, b5, b6, b7, b8, b9, b10, b11⟩, hfl, hen, hhy, hby, hfr, han, hq0, hq1, hz1, hz2, hz3⟩ := hY
      obtain ⟨t1, t2, t3, t4, t5⟩ := hfr g hg
      obtain ⟨ey, eq⟩ := hq0 rfl
      have eyo := t1.symm.trans eP
      rw [hfo] at t5
      have ek := my_k 51 rfl (by omega) (hfl q hqn) eO
      refine ⟨fun _ => ?_, fun w => absurd rfl w⟩
      obtain ⟨s1, s2⟩ := t5.2.2.2.2.2.2.2.2.2 rfl
      obtain ⟨z1, z2, z3⟩ : ya g = 0 ∧ y2 g = -1 ∧ vv_R V K N Z D P mk o l kS d pl (fH g) (yK g) := by
        rcases s2 with ⟨_, _, _, w4, w5, w6⟩ | ⟨_, w, _⟩ | ⟨w, _⟩ | ⟨w, _⟩ | ⟨w, _⟩
        · exact ⟨w4, w5, w6⟩
        · exact absurd hA w
        · exact absurd hO1 w
        · exact absurd hO1 w
        · exact absurd hA w
      have e1 : y1 g = -1 := s1.trans hO1
      refine ct_F b9 ey (by omega) eq.1 (ys_fold0 (by omega) eyo hq ek (by rw [z1]; decide) (fun Q hQ => yr_askSecond (n := n) (c := c) (a := pa.length + 1) (r := 1) b3 b4 ey (by omega) hc (by omega) hg eyo hq (by omega) hQ) (ct_asked ey (by omega) rfl b5 ?_))
      have t4' : ∀ x, x < 3 → vv_R V K N Z D P mk o l kS d pl (fN (g * 3 + x)) (en_e nm no nv (yw g) x) := fun x hx => (t4 x hx).elim id (fun z => absurd e1 z.2.2)
      have := hu (yi g) (yw g) nd ya (upd y1 n (-1)) (upd (upd y2 n (-1)) g (nI n)) yK yL nm nv no ⟨eq, t2, Nat.le_refl _, by omega, hen, t3, fun _ _ _ => rfl, fun _ _ => ⟨rfl, rfl, rfl⟩, fun f a b => ⟨pk_un b, by rw [pk_un a, pk_un b]⟩, pk_us, by rw [pk_un (show n ≠ g by omega), pk_us], t4', fun x hx => Or.inl (t4' x hx), by
        rw [hfo, pk_us, pk_un (show g ≠ n by omega), pk_un (show g ≠ n by omega)]
        exact ⟨fun w => absurd w (by omega), fun w => absurd w (by omega), fun w => absurd w (by omega), fun _ w => absurd w (by omega), fun w => absurd w (by omega), fun w => absurd w (by omega), fun _ w => absurd w (by omega), fun _ w => absurd w (by omega), fun w => absurd w (by omega), fun _ => ⟨s1, Or.inr (Or.inl ⟨hO1, fr_n1 (by omega), eG, z1, rfl, z3⟩)⟩⟩⟩
      rw [b6]
      exact this)
    exact lp_K H (Nat.le_refl _) key
  · have hc6 : c = 600 := by omega
    subst hc6
    refine xa_begin_t x2 x4 (by omega) (by omega) (by omega) ?_
    refine lp_E H (by omega) (rm_tiredF hX0 hv ha hM rfl (fun _ _ => ⟨rfl, rfl, rfl⟩) (fun mk0 pd0 mk pd nd yhe yvm yin yfi yde yic ys yk yn yp yf iK iN o0 l0 kS0 d0 pl0 yma ypo yap yas yto yan yco yti yna yac yen o l kS d pl yo yi yw ya y1 y2 yK yW yL yq nm nv no yA lf rt hY Q hQ => ?_))
    obtain ⟨⟨b1, b2, b3, b4, b5, b6, b7, b8, b9, b10, b11⟩, hfl, hen, hhy, hby, hfr, han, hq0, hq1, hz1, hz2, hz3⟩ := hY
    obtain ⟨t1, t2, t3, t4, t5⟩ := hfr g hg
    obtain ⟨ey, eq⟩ := hq0 rfl
    have eyo := t1.symm.trans eP
    rw [hfo] at t5
    have ek := my_k 51 rfl (by omega) (hfl q hqn) eO
    obtain ⟨s1, s2⟩ := t5.2.2.2.2.2.2.2.2.2 rfl
    have z1 : ya g = 0 := by
      rcases s2 with ⟨_, _, _, w4, w5, w6⟩ | ⟨_, w, _⟩ | ⟨w, _⟩ | ⟨w, _⟩ | ⟨w, _⟩
      · exact w4
      · exact absurd hA w
      · exact absurd hO1 w
      · exact absurd hO1 w
      · exact absurd hA w
    exact ys_fold0 (by omega) eyo hq ek (by rw [z1]; decide) (fun Q hQ => yr_askSecond_t (r := 1) b4 (by omega) eyo hq (by omega) hQ) (hQ ypo yas yto yan ya y1 _ yK yW yL lf rt)
