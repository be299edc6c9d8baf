/-! ===== 'all' begins: for all states of Y ===== -/
theorem gr_cy {mk pd pd' : Nat} {o l : Nat → Int32} {pl : Nat → Int64} (h : vv_cy mk pd o l pl) (h1 : pd ≤ pd') (h2 : pd' ≤ 8200) : vv_cy mk pd' o l pl := by
  obtain ⟨a, b, c⟩ := h
  refine ⟨a, h2, fun j hj => ?_⟩
  obtain ⟨x, y, e1, e2, e3, e4, e5⟩ := c j hj
  exact ⟨x, y, e1, e2, e3, by omega, e5⟩
theorem rm_all {T : List Nat → Option vv_L} {nf bo np : Nat} {K0 N0 Z0 D0 I0 W0 P0 : Nat → Int32} {xst xow xin xpa xfi xfr xno xsi xan xkn xen xco xrm xac : Int32} {K N Z D Im W P vS pO pX pI fS fP fI fU fR fO fA fH fG fN aS qL qR qP : Nat → Int32} {st : Nat} {V al : Nat → Prop} {g : Nat} {pa : List Nat} {n c rm a : Nat}
    (hX : md_X V al g pa bo np n c rm a st xfr xno xsi xen xco xrm xac K N Z D Im W P K0 N0 Z0 D0 I0 W0 P0 pO pX fP fU fR fO fA fH fG) (hv : mv_X V n xsi xan pO fP fI fH fN) (ha : ma_X V a aS)
    (hM : ∀ (mk0 pd0 : Nat) (v0 : SY), kn_F T np nf pO pX pI fS mk0 pd0 v0 → rm_M V pa g np n c rm a st xsi xan K N Z D W P pO pX pI fP fI fO fA fH fG fN aS mk0 pd0 v0) (es : xsi = 0) (ho : fr_o pO fP g = 16) (hA : fA g = -1) (hG0 : fG g = 0) (hc : c < 600) {q cq : Nat} (eP : fP g = nI q) (hq : q < 40) (hqn : q < np) (ePI : pI (q * 3 + 0) = nI cq) (hcq : cq < q) :
    rm_I T nf bo np K0 N0 Z0 D0 I0 W0 P0 (st + 1) (xst, xow, xin, xpa, xfi, (nI (n + 1)), (nI n), 0, xan, xkn, xen, (nI (c + 1)), (nI (rm + 1)), xac, (upd K (53 + rm) 4), (upd N (53 + rm) 0), (upd Z (53 + rm) 0), D, Im, W, P, vS, pO, pX, pI, fS, (upd fP n (pI (q * 3 + 0))), (upd fI n (fI g)), (upd fU n (nI g)), (upd fR n (nI 0)), (upd (upd fO n (-1)) g (nI n)), (upd (upd fA n (-1)) g (nI n)), (upd (upd fH g (nI (53 + rm))) n 0), (upd fG n 0), (fn_c fN n g 3), aS, qL, qR, qP) := by
  subst es
  obtain ⟨hg, hn, hst, hlen, _⟩ := mx_f hX
  obtain ⟨⟨x1, x2, x3, x4, x5, x6, x7, x8, x9, x10⟩, hs, hh, hb, hf, hr, hG, hpot⟩ := hX
  have hn6 : n < 600 := by omega
  have hgn : g ≠ n := by omega
  have eo : ∀ f, f ≠ n → fr_o pO (upd fP n (nI cq)) f = fr_o pO fP f := fun f hf => by unfold fr_o; rw [pk_un hf]
  have hrun : fr_run pO pX fP fG g := ⟨fun _ => hG0, fun w => absurd w (by omega)⟩
  have hgr : gr_X V V (53 + rm) K N Z D Im W P (upd K (53 + rm) 4) (upd N (53 + rm) 0) (upd Z (53 + rm) 0) D Im W P := by
    obtain ⟨i1, i2, i3, i4, i5, i6⟩ := gr_id hh
    have hq6 : ∀ t, t ≠ 53 + rm → upd K (53 + rm) 4 t = K t ∧ upd N (53 + rm) 0 t = N t ∧ upd Z (53 + rm) 0 t = Z t ∧ D t = D t ∧ Im t = Im t ∧ W t = W t ∧ ∀ i, i < 10 → P (t * 10 + i) = P (t * 10 + i) := fun t ht => ⟨pk_un ht, pk_un ht, pk_un ht, rfl, rfl, rfl, fun _ _ => rfl⟩
    exact ⟨i1, i2, i3, i4, vv_ox_eq i5 (fun s hs => hq6 s (fun e => i1 (by rw [← e]; exact hs))), hq6⟩
  have hbH : ∀ f, f < n → fr_o pO fP f = 16 → fA f ≠ -1 → fG f = 0 → ∃ x, fH f = nI x ∧ x < 53 + rm := fun f hf' o16 hA' hG' => by
    obtain ⟨x, z, a1, a2, a3, _⟩ := hb.1 f hf' o16 hA' hG'
    exact ⟨x, a1, a3⟩
  have hS2 : rm ≤ 600 := by omega
  have hb1 := gr_bx (rm' := rm + 1) hgr hb (by omega) (fun f hf' o16 hA' hG' e => by
    obtain ⟨x, a1, a3⟩ := hbH f hf' o16 hA' hG'
    rw [a1] at e
    have := (nI_eq (by omega) (by omega)).mp e
    omega)
  have hh1 := gr_hx (rm' := rm + 1) hgr hh (by omega) (fun w => absurd w hgr.1)
  have eO : ∀ f, f ≠ g → f ≠ n → upd (upd fO n (-1)) g (nI n) f = fO f := fun f h1 h2 => by rw [pk_un h1, pk_un h2]
  have eOn : upd (upd fO n (-1)) g (nI n) n = -1 := by rw [pk_un (fun e => hgn e.symm), pk_us]
  have hnew := fr_X_new (q := cq) (ro := nI 0) (fO' := upd (upd fO n (-1)) g (nI n)) (fr_X_w hf) hn6 hrun (by omega) x10 (by rw [eP, nI_clamp (by omega)]; exact hcq) (Or.inl rfl) eO eOn (fun _ => pk_us) (fun w => absurd rfl w) (fun w => absurd rfl w) (fun w => absurd rfl w) (by omega)
  have k3 : ∀ f, f < n + 1 → fr_o pO (upd fP n (nI cq)) f = 16 → upd (upd fA n (-1)) g (nI n) f ≠ -1 → f = g ∨ (f < n ∧ f ≠ g ∧ f ≠ n ∧ fr_o pO fP f = 16 ∧ fA f ≠ -1) := by
    intro f hf' o16 hA'
    by_cases en : f = n
    · subst en
      rw [pk_un (fun e => hgn e.symm), pk_us] at hA'
      exact absurd rfl hA'
    · rw [eo f en] at o16
      by_cases eg : f = g
      · exact Or.inl eg
      · rw [pk_un eg, pk_un en] at hA'
        exact Or.inr ⟨by omega, eg, en, o16, hA'⟩
  rw [ePI]
  refine ⟨V, fun f => al f ∨ f = n, n, g :: pa, n + 1, c + 1, rm + 1, a, ⟨⟨rfl, rfl, x3, rfl, rfl, x6, x7, by omega, by omega, x10⟩, Or.inl rfl, hh1, ?_, fr_X_m hnew (fun _ => trivial), ?_, fun f hf' => ?_, ?_⟩, ⟨fun w => absurd w (by decide), fun f hf' => ?_⟩, ha, fun mk0 pd0 v0 hF => ?_⟩
  · obtain ⟨h1, h2⟩ := hb1
    have hgH : upd (upd fH g (nI (53 + rm))) n 0 g = nI (53 + rm) := by rw [pk_un hgn, pk_us]
    have hoH : ∀ f, f ≠ g → f ≠ n → upd (upd fH g (nI (53 + rm))) n 0 f = fH f := fun f a b => by rw [pk_un b, pk_un a]
    refine ⟨fun f hf' o16 hA' hG' => ?_, fun f f' hf1 hf2 hne o1 a1 g1 o2 a2 g2 => ?_⟩
    · rcases k3 f hf' o16 hA' with e | ⟨e1, e2, e3, e4, e5⟩
      · subst e
        exact ⟨53 + rm, 0, hgH, by omega, by omega, hgr.1, by rw [pk_us], by rw [pk_us], by rw [pk_us]; rfl, by omega, fun i hi => absurd hi (by omega)⟩
      · rw [pk_un e3] at hG'
        rw [hoH f e2 e3]
        exact h1 f e1 e4 e5 hG'
    · have old : ∀ f, f < n → f ≠ n → fr_o pO fP f = 16 → fA f ≠ -1 → upd fG n 0 f = 0 → fH f ≠ nI (53 + rm) := fun f h1 h3 h4 h5 h6 e => by
        rw [pk_un h3] at h6
        obtain ⟨x, b1, b2⟩ := hbH f h1 h4 h5 h6
        rw [b1] at e
        have := (nI_eq (by omega) (by omega)).mp e
        omega
      rcases k3 f hf1 o1 a1 with e | ⟨e1, e2, e3, e4, e5⟩
      · rcases k3 f' hf2 o2 a2 with m | ⟨m1, m2, m3, m4, m5⟩
        · exact absurd (e.trans m.symm) hne
        · rw [e, hgH, hoH f' m2 m3]
          exact fun z => old f' m1 m3 m4 m5 g2 z.symm
      · rcases k3 f' hf2 o2 a2 with m | ⟨m1, m2, m3, m4, m5⟩
        · rw [m, hgH, hoH f e2 e3]
          exact fun z => old f e1 e3 e4 e5 g1 z
        · rw [hoH f e2 e3, hoH f' m2 m3]
          rw [pk_un e3] at g1
          rw [pk_un m3] at g2
          exact h2 f f' e1 m1 hne e4 e5 g1 m4 m5 g2
  · have h := ct_u (w := md_w2 fA fG) (w' := md_w2 (upd (upd fA n (-1)) g (nI n)) (upd fG n 0)) hg (fun f hf hne => by
      unfold md_w2
      rw [pk_un hne, pk_un (show f ≠ n by omega), pk_un (show f ≠ n by omega)])
    have h1 : md_w2 (upd (upd fA n (-1)) g (nI n)) (upd fG n 0) n ≤ 1 := by
      unfold md_w2
      split <;> omega
    have h2 : md_w2 (upd (upd fA n (-1)) g (nI n)) (upd fG n 0) g = 0 := by
      unfold md_w2
      rw [pk_us, if_neg (fun w => fr_n1 hn6 w.2)]
    have h3 : md_w2 fA fG g = 1 := by
      unfold md_w2
      rw [if_pos ⟨hG0, hA⟩]
    rw [ct_n]
    omega
  · by_cases e : f = n
    · subst e
      exact ⟨0, pk_us, by omega⟩
    · obtain ⟨gv', e1, e2⟩ := hG f (by omega)
      exact ⟨gv', (pk_un e).trans e1, by omega⟩
  · have := md_w1_n (fO := fO) (fA := fA) (fG := fG) (fO' := upd (upd fO n (-1)) g (nI n)) hg eO eOn
    rw [md_ph_0] at hpot
    rw [md_ph_0, List.length_cons]
    omega
  · have zv : ∃ s0, (0 : Int32) = nI s0 ∧ V s0 := ⟨0, rfl, (hh.2.2.2.1.1 0 (by omega)).1⟩
    by_cases en : f = n
    · subst en
      refine ⟨by rw [pk_us]; exact (hv.2 g hg).1, fun _ => by rw [pk_us]; exact zv, fun x hx => ?_⟩
      rw [fn_c_at 3 hx]
      exact (hv.2 g hg).2.2 x hx
    · have hfn : f < n := by omega
      obtain ⟨q1, q2, q3⟩ := hv.2 f hfn
      refine ⟨by rw [pk_un en]; exact q1, fun z => ?_, fun x hx => ?_⟩
      · rw [eo f en] at z
        have eg : f ≠ g := fun e => z (by rw [e]; exact ho)
        rw [pk_un en, pk_un eg]
        exact q2 z
      · rw [fn_c_lo (show f * 3 + x < n * 3 by omega)]
        exact q3 x hx
  · have hm := hM mk0 pd0 v0 hF
    obtain ⟨yma0, ypo0, yhe0, yvm0, yin0, yfi0, yde0, yap0, yas0, yto0, yan0, yco0, yti0, yna0, yac0, yen0, yic0, o0, l0, kS0, d0, pl0, ys0, yk0, yn0, yp0, yf0, yo0, yi0, yw0, ya0, y10, y20, yK0, yW0, yL0, yq0, nm0, nv0, no0, yA0, lf0, rt0, iK0, iN0⟩ := v0
    refine ⟨fun _ post hp => ?_, fun w => absurd rfl w⟩
    obtain ⟨m, hp⟩ := hp
    refine hm.1 rfl post ⟨m + 1, fun mk pd nd yma ypo yap yas yto yan yco yti yna yac yen o l kS d pl yo yi yw ya y1 y2 yK yW yL yq nm nv no yA lf rt hY => ?_⟩
    have hY0 := hY
    obtain ⟨⟨b1, b2, b3, b4, b5, b6, b7, b8, b9, b10, b11⟩, hfl, hen, hhy, hby, hfr, han, hq0, hq1, hz1, hz2, hz3⟩ := hY
    obtain ⟨ea, eq⟩ := hq0 rfl
    obtain ⟨t1, t2, t3, t4, t5⟩ := hfr g hg
    have hfp := hfl q hqn
    obtain ⟨oq, p1, p2, p3, p4, p5, p6, p7, p8, p9⟩ := hfp
    have hoq : oq = 16 := by
      have : fr_o pO fP g = oq := by
        unfold fr_o
        rw [eP, nI_clamp (show q < 2 ^ 31 by omega), p2, nI_clamp (by omega)]
      omega
    subst hoq
    have ek : yk0 q = nI 20 := p3
    obtain ⟨s1, s2, s3, s4, s5, s6, s7, s8, s9, s10⟩ := t5
    have hOA : fO g = -1 := ((s4 (by omega) (by omega)).1.symm.trans hA)
    have e0 : ya g = 0 ∧ yW g = 0 := by
      rcases s5 ho with ⟨_, _, z1, z2⟩ | ⟨z, _⟩
      · exact ⟨z1, z2⟩
      · exact absurd hOA z
    have e1 : y1 g = -1 := (s4 (by omega) (by omega)).2.trans hOA
    obtain ⟨c1, c2, c3, c4, c5, c6, c7⟩ := hhy
    have hrm6 : rm + 1 ≤ 600 := by
      have h3 : md_w2 fA fG g = 1 := by
        unfold md_w2
        rw [if_pos ⟨hG0, hA⟩]
      have := vv_sm_up (f := md_w2 fA fG) hg
      omega
    have hgy : gr_Y mk pd mk (pd + 10) o l kS d o l kS d pl pl := ⟨Nat.le_refl _, by omega, gr_cy c1 (by omega) (by omega), fun _ _ => ⟨rfl, rfl, rfl, rfl⟩, fun _ _ => rfl⟩
    have hRR := gr_R hh.1 c1 hgr hgy
    refine ct_F b9 ea (by omega) eq.1 ?_
    refine ys_all0 (by omega) (t1.symm.trans eP) hq ek e0.1 b2 (fun Q hQ => yr_askFirst (n := n) (c := c) (a := pa.length + 1) b3 b4 ea hn6 hc (by omega) hg (t1.symm.trans eP) hq e1 hQ) ?_
    refine ct_asked ea (by omega) rfl b5 ?_
    refine hp mk (pd + 10) nd yma (nI (pd + 10)) (nI (n + 1)) (nI (pa.length + 2)) yto yan (nI (c + 1)) yti yna yac yen o l kS d pl (upd yo n (yp0 (q * 3 + 0))) (vp_updL yi n (yi g)) (upd yw n (yw g)) (upd (upd ya g (nI (pd + 1))) n 0) (upd (upd y1 n (-1)) g (nI n)) (upd y2 n (-1)) (vp_updL yK n 0) (upd yW n 0) yL (upd yq (pa.length + 1) (nI n)) nm nv no yA lf rt ⟨⟨b1, rfl, rfl, rfl, b5, b6, by omega, b8, b9, b10, b11.1, ?_⟩, hfl, hen, ⟨hgy.2.2.1, c2, by omega, by omega, by omega, c6, c7⟩, ?_, fun f hf' => ?_, fun i hi => hRR _ _ (han i hi), fun _ => ⟨rfl, pk_us, md_qu eq (by rw [List.length_cons]; exact Nat.le_refl _)⟩, fun w => absurd rfl w, fun w => absurd w (by decide), fun w => absurd w (by decide), fun w => absurd w (by decide)⟩
    · have h := ct_u (w := md_w3 pO fP fA fG) (w' := md_w3 pO (upd fP n (nI cq)) (upd (upd fA n (-1)) g (nI n)) (upd fG n 0)) hg (fun f hf hne => by
        unfold md_w3
        rw [eo f (by omega), pk_un hne, pk_un (show f ≠ n by omega), pk_un (show f ≠ n by omega)])
      have h1 : md_w3 pO (upd fP n (nI cq)) (upd (upd fA n (-1)) g (nI n)) (upd fG n 0) n = 0 := by
        unfold md_w3
        rw [pk_un (fun e => hgn e.symm), pk_us, if_neg (fun z => z.2.1 rfl)]
      have h2 : md_w3 pO (upd fP n (nI cq)) (upd (upd fA n (-1)) g (nI n)) (upd fG n 0) g ≤ 1 := by
        unfold md_w3
        split <;> omega
      have h3 := b11.2
      rw [ct_n]
      omega
    · obtain ⟨h1, h2⟩ := gr_by hgr hgy hRR hby c1 (fun f hf' o16 hA' hG' => by
        obtain ⟨x, a1, a3⟩ := hbH f hf' o16 hA' hG'
        exact ⟨x, a1, by omega, by omega⟩) (fun j x hj hj' => absurd hj' (by omega))
      have hoH : ∀ f, f ≠ g → f ≠ n → upd (upd fH g (nI (53 + rm))) n 0 f = fH f := fun f a b => by rw [pk_un b, pk_un a]
      refine ⟨fun f hf' o16 hA' => ?_, fun f f' a1 a2 hf1 hf2 hne o1 A1 o2 A2 e1 e2 ha1 ha2 => ?_⟩
      · rcases k3 f hf' o16 hA' with e | ⟨e1, e2, e3, e4, e5⟩
        · subst e
          refine ⟨pd, 0, by rw [pk_un hgn, pk_us], by rw [pk_un hgn, e0.2]; rfl, by omega, by omega, by omega, fun j x y hj ex ey hy10 hxy => ?_, fun _ => ⟨?_, fun i hi => absurd hi (by omega)⟩⟩
          · obtain ⟨a', b', q1, q2, q3, q4, _⟩ := c1.2.2 j hj
            have ea : a' = x := (nI_eq (by omega) (by omega)).mp (q1.symm.trans ex)
            have eb : b' = y := (nI_eq (by omega) (by omega)).mp (q2.symm.trans ey)
            exact Or.inl (by omega)
          · rw [pk_un hgn, pk_us, nI_clamp (by omega), pk_us]
            rfl
        · rw [pk_un e3, pk_un e2, pk_un e3, pk_un e3, hoH f e2 e3]
          exact h1 f e1 e4 e5
      · have old : ∀ f a1, f < n → f ≠ n → fr_o pO fP f = 16 → fA f ≠ -1 → ya f = nI (a1 + 1) → a1 < 8200 → a1 + 10 ≤ pd := fun f a1 q1 q3 q4 q5 q6 q7 => by
          obtain ⟨a', w', r1, r2, r3, r4, r5, _⟩ := hby.1 f q1 q4 q5
          have : a' + 1 = a1 + 1 := (nI_eq (by omega) (by omega)).mp (r1.symm.trans q6)
          omega
        rcases k3 f hf1 o1 A1 with e | ⟨e1', e2', e3, e4, e5⟩
        · rcases k3 f' hf2 o2 A2 with m | ⟨m1, m2, m3, m4, m5⟩
          · exact absurd (e.trans m.symm) hne
          · subst e
            rw [pk_un hgn, pk_us] at e1
            rw [pk_un m3, pk_un m2] at e2
            have := (nI_eq (by omega) (by omega)).mp e1
            have := old f' a2 m1 m3 m4 m5 e2 ha2
            omega
        · rcases k3 f' hf2 o2 A2 with m | ⟨m1, m2, m3, m4, m5⟩
          · subst m
            rw [pk_un hgn, pk_us] at e2
            rw [pk_un e3, pk_un e2'] at e1
            have := (nI_eq (by omega) (by omega)).mp e2
            have := old f a1 e1' e3 e4 e5 e1 ha1
            omega
          · rw [pk_un e3, pk_un e2'] at e1
            rw [pk_un m3, pk_un m2] at e2
            exact h2 f f' a1 a2 e1' m1 hne e4 e5 m4 m5 e1 e2 ha1 ha2
    · by_cases en : f = n
      · subst en
        refine ⟨?_, ?_, ?_, fun x hx => Or.inl ?_, ?_⟩
        · rw [pk_us, pk_us, b11.1, ePI]
        · rw [pk_us, pk_uLs]
          exact hRR _ _ t2
        · rw [pk_us]
          exact t3
        · rw [fn_c_at 3 hx, pk_us]
          rcases t4 x hx with z | ⟨z, _⟩
          · exact hRR _ _ z
          · exact absurd z (by omega)
        · have hfp := hfl cq (by omega)
          obtain ⟨oq', p1', p2', p3', p4', p5', p6', p7', p8', p9'⟩ := hfp
          have hoo : fr_o pO (upd fP f (nI cq)) f = oq' := by
            unfold fr_o
            rw [pk_us, nI_clamp (show cq < 2 ^ 31 by omega), p2', nI_clamp (by omega)]
          have hfg : f ≠ g := fun e => hgn e.symm
          rw [hoo, pk_us, pk_us, pk_un hfg, pk_us, eOn, pk_us, pk_us, pk_un hfg, pk_us, pk_us, pk_us, pk_uLs, nI_clamp (show cq < 2 ^ 31 by omega), pk_us]
          exact fr_S0 (rl_R00 hh1.1 hh1.2.2.2.1) (Nat.zero_le _) p8'
      · have hfn : f < n := by omega
        obtain ⟨u1, u2, u3, u4, u5⟩ := hfr f hfn
        refine ⟨by rw [pk_un en, pk_un en]; exact u1, by rw [pk_un en, pk_uLn en]; exact hRR _ _ u2, by rw [pk_un en]; exact u3, fun x hx => ?_, ?_⟩
        · rw [fn_c_lo (show f * 3 + x < n * 3 by omega), pk_un en, pk_un en, eo f en]
          rcases u4 x hx with z | ⟨z1, z2, z3⟩
          · exact Or.inl (hRR _ _ z)
          · refine Or.inr ⟨z1, z2, ?_⟩
            have eg : f ≠ g := fun e => by rw [e, ho] at z1; exact absurd z1 (by omega)
            rw [pk_un eg, pk_un en]
            exact z3
        · by_cases eg : f = g
          · subst eg
            rw [eo f en, pk_un en, pk_un en, pk_un en, pk_us, pk_us, pk_un en, pk_us, pk_un en, pk_us, pk_us, pk_un en, pk_un en, pk_uLn en, ho]
            refine ⟨fun w => absurd w (by omega), fun w => absurd w (by omega), fun w => absurd w (by omega), fun _ _ => ⟨rfl, rfl⟩, fun _ => Or.inr ⟨fr_n1 hn6, Or.inl hG0, pd, rfl, by omega⟩, fun w => absurd w (by omega), fun w => absurd w (by omega), fun w => absurd w (by omega), fun w => absurd w (by omega), fun w => absurd w (by omega)⟩
          · rw [eo f en, pk_un en, pk_un en, pk_un en, pk_un eg, pk_un en, pk_un eg, pk_un en, pk_un en, pk_un eg, pk_un en, pk_un eg, pk_un eg, pk_un en, pk_un en, pk_un en, pk_uLn en]
            exact gr_S hh.1 c1 hgr hgy (Nat.le_succ _) u2 u5
