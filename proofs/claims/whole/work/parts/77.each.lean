/-! ===== leaves: each and deep ===== -/
/-- a leaf that makes no value -/
theorem rm_leaf1 {T : List Nat → Option vv_L} {nf bo np : Nat} {K0 N0 Z0 D0 I0 W0 P0 : Nat → Int32} {xst xow xin xpa xfi xfr xno xsi xan xkn xen xco xrm xac : Int32} {K N Z D Im W P vS pO pX pI fS fP fI fU fR fO fA fH fG fN aS qL qR qP : Nat → Int32} {st : Nat} {V al : Nat → Prop} {g : Nat} {pa : List Nat} {n c rm a : Nat}
    (hX : md_X V al g pa bo np n c rm a st xfr xno xsi xen xco xrm xac K N Z D Im W P K0 N0 Z0 D0 I0 W0 P0 pO pX fP fU fR fO fA fH fG) (hv : mv_X V n xsi xan pO fP fI fH fN) (ha : ma_X V a aS)
    (hM : ∀ (mk0 pd0 : Nat) (v0 : SY), kn_F T np nf pO pX pI fS mk0 pd0 v0 → rm_M V pa g np n c rm a st xsi xan K N Z D W P pO pX pI fP fI fO fA fH fG fN aS mk0 pd0 v0) (es : xsi = 0) {k gv c' : Nat} {s' xan' : Int32} (hk : 1 ≤ k) (hk2 : k ≤ 2) (hs' : s' = 1 ∨ s' = 2 ∨ s' = 3) (ho : fr_o pO fP g < 16) (hA : fA g = -1) (hgv : gv ≤ st + k) (hy0 : nI gv = 0 → fG g = 0)
    (hc' : c' = c ∨ c' = c + 1) (hc6 : c' ≤ 600) (hpay : s' = 1 → (fG g = 0 ∧ ¬ nI gv = 0 ∧ fO g = -1) ∨ c' = c + 1) (hxv : s' = 1 → ∃ s, xan' = nI s ∧ V s)
    (hYw : ∀ (mk0 pd0 mk pd nd : Nat) (yhe yvm : Int32) (yin : Int64) (yfi yde yic : Int32) (ys : Nat → Int64) (yk yn yp yf iK iN : Nat → Int32) (o0 l0 kS0 d0 : Nat → Int32) (pl0 : Nat → Int64) (yma ypo yap yas yto : Int32) (yan : Int64) (yco yti yna yac yen : Int32) (o l kS d : Nat → Int32) (pl : Nat → Int64) (yo : Nat → Int32) (yi : Nat → Int64) (yw ya y1 y2 : Nat → Int32) (yK : Nat → Int64) (yW : Nat → Int32) (yL : Nat → Int64) (yq nm : Nat → Int32) (nv : Nat → Int64) (no : Nat → Int32) (yA lf rt : Nat → Int64), md_Y V pa g np n c rm a st mk pd nd mk0 pd0 xsi xan K N Z D W P pO pX pI fP fI fO fA fH fG fN aS yma ypo yap yas yto yan yco yti yna yac yen o l kS d pl yk yn yp yo yi yw ya y1 y2 yK yW yL yq nm nv no yA o0 l0 kS0 d0 pl0 → ∀ Q : SY → Prop, (∀ (ya' yW' : Nat → Int32) (w : Int64), (s' = 1 → vv_R V K N Z D P mk o l kS d pl xan' w) → (∀ f, f ≠ g → ya' f = ya f ∧ yW' f = yW f) →
      fr_S (vv_R V K N Z D P mk o l kS d pl) (md_ea Z) (md_dp Z W P) (fr_o pO fP g) (pX (fP g).toNatClampNeg) (st + k) (fI g) (nI gv) (fA g) (fO g) (fH g) (ya' g) (y1 g) (y2 g) (yW' g) (yK g) (yL g) →
      Q (yma, ypo, yhe, yvm, yin, yfi, yde, yap, (nI pa.length), (s' - 1), w, (nI c'), yti, yna, yac, yen, yic, o, l, kS, d, pl, ys, yk, yn, yp, yf, yo, yi, yw, ya', y1, y2, yK, yW', yL, yq, nm, nv, no, yA, lf, rt, iK, iN)) → wpY_start Q (yma, ypo, yhe, yvm, yin, yfi, yde, yap, yas, yto, yan, yco, yti, yna, yac, yen, yic, o, l, kS, d, pl, ys, yk, yn, yp, yf, yo, yi, yw, ya, y1, y2, yK, yW, yL, yq, nm, nv, no, yA, lf, rt, iK, iN) (nI g)) :
    rm_I T nf bo np K0 N0 Z0 D0 I0 W0 P0 (st + k) (xst, xow, xin, xpa, xfi, xfr, xno, s', xan', xkn, xen, (nI c'), xrm, xac, K, N, Z, D, Im, W, P, vS, pO, pX, pI, fS, fP, fI, fU, fR, fO, fA, fH, (upd fG g (nI gv)), fN, aS, qL, qR, qP) := by
  have hX0 := hX
  obtain ⟨⟨x1, x2, x3, x4, x5, x6, x7, x8, x9, x10⟩, hs, hh, hb, hf, hr, hG, hpot⟩ := hX
  subst x5
  refine rm_leaf (rm' := rm) (sl := 53 + rm) (V' := V) hX0 hv ha hM es hk hk2 hs' ho hA hgv hy0 hc' hc6 hpay (Or.inl rfl) (gr_id hh) (fun w => absurd w (gr_id hh).1) (Nat.le_refl _) (by omega) hxv (fun mk0 pd0 mk pd nd yhe yvm yin yfi yde yic ys yk yn yp yf iK iN o0 l0 kS0 d0 pl0 yma ypo yap yas yto yan yco yti yna yac yen o l kS d pl yo yi yw ya y1 y2 yK yW yL yq nm nv no yA lf rt hY Q hQ => hYw mk0 pd0 mk pd nd yhe yvm yin yfi yde yic ys yk yn yp yf iK iN o0 l0 kS0 d0 pl0 yma ypo yap yas yto yan yco yti yna yac yen o l kS d pl yo yi yw ya y1 y2 yK yW yL yq nm nv no yA lf rt hY Q (fun ya' yW' w u1 u2 u3 => ?_))
  obtain ⟨⟨b1, b2, b3, b4, b5, b6, b7, b8, b9, b10, b11⟩, hfl, hen, hhy, hby, hfr, han, hq0, hq1, hz1, hz2, hz3⟩ := hY
  subst b1 b2
  exact hQ mk pd o l kS d pl ya' yW' w (gr_Yid hhy.1) (Nat.le_refl _) hhy.2.2.2.2.1 (fun j x h1 h2 => absurd h2 (by omega)) u1 u2 u3
theorem cq_each {post : SX → Prop} {T : List Nat → Option vv_L} {nf bo np : Nat} {K0 N0 Z0 D0 I0 W0 P0 : Nat → Int32} {xst xow xin xpa xfi xfr xno xsi xan xkn xen xco xrm xac : Int32} {K N Z D Im W P vS pO pX pI fS fP fI fU fR fO fA fH fG fN aS qL qR qP : Nat → Int32} {st : Nat} {V al : Nat → Prop} {g : Nat} {pa : List Nat} {n c rm a : Nat}
    (hX : md_X V al g pa bo np n c rm a st xfr xno xsi xen xco xrm xac K N Z D Im W P K0 N0 Z0 D0 I0 W0 P0 pO pX fP fU fR fO fA fH fG) (hv : mv_X V n xsi xan pO fP fI fH fN) (ha : ma_X V a aS)
    (hM : ∀ (mk0 pd0 : Nat) (v0 : SY), kn_F T np nf pO pX pI fS mk0 pd0 v0 → rm_M V pa g np n c rm a st xsi xan K N Z D W P pO pX pI fP fI fO fA fH fG fN aS mk0 pd0 v0)
    (H : lp_G T nf bo np K0 N0 Z0 D0 I0 W0 P0 post xst xow xin xpa xfi xkn vS pO pX pI fS st) {q : Nat} (eP : fP g = nI q) (hqn : q < np) (hq : q < 40) (eO : pO q = nI 7) (es : xsi = 0) : wX_workOut_68 post (1000001 - st) (nI st) xst xow xin xpa xfi xfr xno xsi xan xkn xen xco xrm xac K N Z D Im W P vS pO pX pI fS fP fI fU fR fO fA fH fG fN aS qL qR qP := by
  subst es
  obtain ⟨hg, hn6, hst, hlen, _⟩ := mx_f hX
  have hX0 := hX
  obtain ⟨⟨x1, x2, x3, x4, x5, x6, x7, x8, x9, x10⟩, hs, hh, hb, hf, hr, hG, hpot⟩ := hX
  have hfo := mx_fo eP hq eO (by omega)
  obtain ⟨s, eI, hVs⟩ := (hv.2 g hg).1
  obtain ⟨hs6, κ, hκ, eK⟩ := vx_k hh.1 hVs
  obtain ⟨z, hz, ez, hcz⟩ := vv_ox_z hh.1 hVs
  obtain ⟨gv, eG, hgs⟩ := hG g hg
  obtain ⟨hA, hO1⟩ := fr_leaf (hf.2.1 g hg) (by omega)
  refine xs_ask (by omega) x3 rfl (xa_each x2 (by omega) eP hq eO eI hs6 eK hκ eG (by omega) ez hz x4 x9 (fun k3 => ?_) (fun k3 hge => ?_) (fun k3 hlt hc => ?_) (fun k3 hlt hc => ?_))
  · refine lp_K H (Nat.le_refl _) (rm_quiet (k := 1) hX0 hv ha hM rfl (by omega) (by omega) (Or.inr rfl) (fun mk0 pd0 mk pd nd yhe yvm yin yfi yde yic ys yk yn yp yf iK iN o0 l0 kS0 d0 pl0 yma ypo yap yas yto yan yco yti yna yac yen o l kS d pl yo yi yw ya y1 y2 yK yW yL yq nm nv no yA lf rt hY Q hQ => ?_))
    obtain ⟨⟨b1, b2, b3, b4, b5, b6, b7, b8, b9, b10, b11⟩, hfl, hen, hhy, hby, hfr, han, hq0, hq1, hz1, hz2, hz3⟩ := hY
    obtain ⟨t1, t2, t3, t4, t5⟩ := hfr g hg
    obtain ⟨ey, eq⟩ := hq0 rfl
    have eyo := t1.symm.trans eP
    rw [hfo] at t5
    rw [e31] at hQ
    have ek := my_k 7 rfl (by omega) (hfl q hqn) eO
    obtain ⟨x, e1, e2⟩ := my_v hh.1 hhy.1 t2 eI hs6 eK hκ
    obtain ⟨gg, s1, s2, s3⟩ := t5.2.1 rfl
    have s3' : gg ≤ z := by
      unfold md_ea at s3
      rw [eI, nI_clamp (by omega), ez, nI_clamp (by omega)] at s3
      exact s3
    exact ys_each (by omega) eyo hq ek ey e1 hκ b4 x9 s2 (by omega) (fun _ => hQ 0) (fun w => absurd w (by omega))
  · refine lp_K H (Nat.le_refl _) (rm_quiet (k := 1) hX0 hv ha hM rfl (by omega) (by omega) (Or.inl rfl) (fun mk0 pd0 mk pd nd yhe yvm yin yfi yde yic ys yk yn yp yf iK iN o0 l0 kS0 d0 pl0 yma ypo yap yas yto yan yco yti yna yac yen o l kS d pl yo yi yw ya y1 y2 yK yW yL yq nm nv no yA lf rt hY Q hQ => ?_))
    obtain ⟨⟨b1, b2, b3, b4, b5, b6, b7, b8, b9, b10, b11⟩, hfl, hen, hhy, hby, hfr, han, hq0, hq1, hz1, hz2, hz3⟩ := hY
    obtain ⟨t1, t2, t3, t4, t5⟩ := hfr g hg
    obtain ⟨ey, eq⟩ := hq0 rfl
    have eyo := t1.symm.trans eP
    rw [hfo] at t5
    rw [e21] at hQ
    have ek := my_k 7 rfl (by omega) (hfl q hqn) eO
    obtain ⟨x, e1, e2⟩ := my_v hh.1 hhy.1 t2 eI hs6 eK hκ
    obtain ⟨gg, s1, s2, s3⟩ := t5.2.1 rfl
    have s3' : gg ≤ z := by
      unfold md_ea at s3
      rw [eI, nI_clamp (by omega), ez, nI_clamp (by omega)] at s3
      exact s3
    have eg : gg = gv := (nI_eq (by omega) (by omega)).mp (s1.symm.trans eG)
    subst eg
    refine ys_each (by omega) eyo hq ek ey e1 hκ b4 x9 s2 (by omega) (fun w => absurd w (by omega)) (fun _ => ?_)
    rcases e2 with ⟨w, _⟩ | ⟨_, j, oa, b, j1, j2, j3, j4, j5, j6, j7, j8, _⟩
    · omega
    · have : b = z := (nI_eq (by omega) (by omega)).mp (j8.symm.trans ez)
      subst this
      have hp8 := hhy.1.2.1
      have hm8 := hhy.1.1
      exact ⟨j, oa, b, j2, by omega, j3, j4, j5, by omega, s3', fun _ => hQ 0, fun w => absurd w (by omega), fun w => absurd w (by omega)⟩
  · subst hc
    refine lp_E H (by omega) (rm_tiredF hX0 hv ha hM rfl (fun _ _ => ⟨rfl, rfl, rfl⟩) (fun mk0 pd0 mk pd nd yhe yvm yin yfi yde yic ys yk yn yp yf iK iN o0 l0 kS0 d0 pl0 yma ypo yap yas yto yan yco yti yna yac yen o l kS d pl yo yi yw ya y1 y2 yK yW yL yq nm nv no yA lf rt hY Q hQ => ?_))
    obtain ⟨⟨b1, b2, b3, b4, b5, b6, b7, b8, b9, b10, b11⟩, hfl, hen, hhy, hby, hfr, han, hq0, hq1, hz1, hz2, hz3⟩ := hY
    obtain ⟨t1, t2, t3, t4, t5⟩ := hfr g hg
    obtain ⟨ey, eq⟩ := hq0 rfl
    have eyo := t1.symm.trans eP
    rw [hfo] at t5
    have ek := my_k 7 rfl (by omega) (hfl q hqn) eO
    obtain ⟨x, e1, e2⟩ := my_v hh.1 hhy.1 t2 eI hs6 eK hκ
    obtain ⟨gg, s1, s2, s3⟩ := t5.2.1 rfl
    have s3' : gg ≤ z := by
      unfold md_ea at s3
      rw [eI, nI_clamp (by omega), ez, nI_clamp (by omega)] at s3
      exact s3
    have eg : gg = gv := (nI_eq (by omega) (by omega)).mp (s1.symm.trans eG)
    subst eg
    refine ys_each (by omega) eyo hq ek ey e1 hκ b4 x9 s2 (by omega) (fun w => absurd w (by omega)) (fun _ => ?_)
    rcases e2 with ⟨w, _⟩ | ⟨_, j, oa, b, j1, j2, j3, j4, j5, j6, j7, j8, _⟩
    · omega
    · have : b = z := (nI_eq (by omega) (by omega)).mp (j8.symm.trans ez)
      subst this
      have hp8 := hhy.1.2.1
      have hm8 := hhy.1.1
      exact ⟨j, oa, b, j2, by omega, j3, j4, j5, by omega, s3', fun w => absurd w (by omega), fun _ _ => hQ ypo yas yto yan ya y1 y2 yK yW yL lf rt, fun _ w => absurd w (by omega)⟩
  · obtain ⟨ch, c1, c2, c3⟩ := hcz gv hlt
    refine lp_K H (Nat.le_refl _) (rm_leaf1 (k := 1) (gv := gv + 1) (c' := c + 1) (s' := 1) hX0 hv ha hM rfl (by omega) (by omega) (Or.inl rfl) (by omega) hA (by omega) (fun w => absurd w (nI_ne0 (by omega) (by omega))) (Or.inr rfl) (by omega) (fun _ => Or.inr rfl) (fun _ => ⟨ch, c1, c3⟩) (fun mk0 pd0 mk pd nd yhe yvm yin yfi yde yic ys yk yn yp yf iK iN o0 l0 kS0 d0 pl0 yma ypo yap yas yto yan yco yti yna yac yen o l kS d pl yo yi yw ya y1 y2 yK yW yL yq nm nv no yA lf rt hY Q hQ => ?_))
    obtain ⟨⟨b1, b2, b3, b4, b5, b6, b7, b8, b9, b10, b11⟩, hfl, hen, hhy, hby, hfr, han, hq0, hq1, hz1, hz2, hz3⟩ := hY
    obtain ⟨t1, t2, t3, t4, t5⟩ := hfr g hg
    obtain ⟨ey, eq⟩ := hq0 rfl
    have eyo := t1.symm.trans eP
    rw [hfo] at t5
    rw [e11] at hQ
    have ek := my_k 7 rfl (by omega) (hfl q hqn) eO
    obtain ⟨x, e1, e2⟩ := my_v hh.1 hhy.1 t2 eI hs6 eK hκ
    obtain ⟨gg, s1, s2, s3⟩ := t5.2.1 rfl
    have s3' : gg ≤ z := by
      unfold md_ea at s3
      rw [eI, nI_clamp (by omega), ez, nI_clamp (by omega)] at s3
      exact s3
    have eg : gg = gv := (nI_eq (by omega) (by omega)).mp (s1.symm.trans eG)
    subst eg
    refine ys_each (by omega) eyo hq ek ey e1 hκ b4 x9 s2 (by omega) (fun w => absurd w (by omega)) (fun _ => ?_)
    rcases e2 with ⟨w, _⟩ | ⟨_, j, oa, b, j1, j2, j3, j4, j5, j6, j7, j8, j9, j10⟩
    · omega
    · have : b = z := (nI_eq (by omega) (by omega)).mp (j8.symm.trans ez)
      subst this
      have hp8 := hhy.1.2.1
      have hm8 := hhy.1.1
      refine ⟨j, oa, b, j2, by omega, j3, j4, j5, by omega, s3', fun w => absurd w (by omega), fun _ w => absurd w (by omega), fun _ _ => ?_⟩
      refine hQ ya (upd yW g (nI (gg + 1))) (pl (oa + gg)) (fun _ => j10 gg hlt) (fun f hf => ⟨rfl, pk_un hf⟩) ?_
      rw [pk_us, hfo]
      refine ⟨fun _ => ⟨hA, hO1, Or.inr (Or.inr (Or.inl rfl)), fun w => absurd rfl w⟩, fun _ => ⟨gg + 1, rfl, rfl, ?_⟩, fun w => absurd w (by omega), fun w => absurd w (by omega), fun w => absurd w (by omega), fun w => absurd w (by omega), fun w => absurd w (by omega), fun w => absurd w (by omega), fun w => absurd w (by omega), fun w => absurd w (by omega)⟩
      unfold md_ea
      rw [eI, nI_clamp (by omega), ez, nI_clamp (by omega)]
      omega
theorem vv_sm_find {f : Nat → Nat} {g : Nat} : ∀ n, g < vv_sm f n → ∃ i, i < n ∧ vv_sm f i ≤ g ∧ g < vv_sm f i + f i
  | 0, h => absurd h (by simp [vv_sm])
  | n + 1, h => by
    by_cases w : g < vv_sm f n
    · obtain ⟨i, i1, i2, i3⟩ := vv_sm_find n w
      exact ⟨i, by omega, i2, i3⟩
    · rw [vv_sm] at h
      exact ⟨n, by omega, by omega, h⟩
/-- every place in preorder has its path -/
theorem dp_ex {V : Nat → Prop} {K N Z D Im W P : Nat → Int32} (hx : vv_ox V K N Z D Im W P) : ∀ e s g, V s → (D s).toNatClampNeg ≤ e → e ≤ 4 → g < (W s).toNatClampNeg → ∃ p, dp_ok Z P p s ∧ dp_ix W P p s = g := by
  intro e
  induction e with
  | zero =>
    intro s g hs he _ hg
    rw [dp_W hx hs] at hg
    obtain ⟨_, hl | hl⟩ := hx s hs
    · obtain ⟨k, _, _, _, hz, _⟩ := hl
      rw [hz, show (0 : Int32).toNatClampNeg = 0 from by decide, vv_sm] at hg
      exact ⟨[], trivial, by rw [dp_ix]; omega⟩
    · obtain ⟨k, z, d, hk, _, hz, hz10, hd, h4', _⟩ := hl
      rw [hd, nI_clamp (by omega)] at he
      omega
  | succ e ih =>
    intro s g hs he h4 hg
    by_cases g0 : g = 0
    · exact ⟨[], trivial, by rw [dp_ix]; omega⟩
    · rw [dp_W hx hs] at hg
      obtain ⟨i, i1, i2, i3⟩ := vv_sm_find (g := g - 1) (f := dp_w W P s) (Z s).toNatClampNeg (by omega)
      have hch : V (dp_ch P s i) ∧ (D (dp_ch P s i)).toNatClampNeg ≤ e := by
        obtain ⟨_, hl | hl⟩ := hx s hs
        · obtain ⟨k, _, _, _, hz, _⟩ := hl
          rw [hz, show (0 : Int32).toNatClampNeg = 0 from by decide] at i1
          omega
        · obtain ⟨k, z, d, hk, _, hz, hz10, hd, h4', hc, _⟩ := hl
          rw [hd, nI_clamp (by omega)] at he
          rw [hz, nI_clamp (by omega)] at i1
          obtain ⟨c, e1, e2, e3, _, q, e4, e5⟩ := hc i i1
          rw [dp_ch, e1, nI_clamp (by omega)]
          exact ⟨e3, by rw [e5, nI_clamp (by omega)]; omega⟩
      have hw : dp_w W P s i = (W (dp_ch P s i)).toNatClampNeg := rfl
      obtain ⟨p, p1, p2⟩ := ih (dp_ch P s i) (g - 1 - vv_sm (dp_w W P s) i) hch.1 hch.2 (by omega) (by omega)
      exact ⟨i :: p, ⟨i1, p1⟩, by rw [dp_ix, p2]; omega⟩
theorem vv_sm_mono {f : Nat → Nat} : ∀ {a b : Nat}, a ≤ b → vv_sm f a ≤ vv_sm f b := by
  intro a b h
  induction b with
  | zero =>
    have : a = 0 := by omega
    rw [this]
    exact Nat.le_refl _
  | succ b ih =>
    by_cases e : a = b + 1
    · rw [e]
      exact Nat.le_refl _
    · have := ih (by omega)
      rw [vv_sm]
      omega
/-- and one only -/
theorem dp_inj {V : Nat → Prop} {K N Z D Im W P : Nat → Int32} (hx : vv_ox V K N Z D Im W P) : ∀ (p p' : List Nat) (s : Nat), V s → dp_ok Z P p s → dp_ok Z P p' s → dp_ix W P p s = dp_ix W P p' s → p = p'
  | [], [], _, _, _, _, _ => rfl
  | [], i :: p', s, _, _, _, e => by
    rw [dp_ix, dp_ix] at e
    omega
  | i :: p, [], s, _, _, _, e => by
    rw [dp_ix, dp_ix] at e
    omega
  | i :: p, i' :: p', s, hs, h1, h2, e => by
    obtain ⟨a1, a2⟩ := h1
    obtain ⟨b1, b2⟩ := h2
    have hch : ∀ j, j < (Z s).toNatClampNeg → V (dp_ch P s j) := fun j hj => by
      obtain ⟨z, hz, ez, hc⟩ := vv_ox_z hx hs
      rw [ez, nI_clamp (by omega)] at hj
      obtain ⟨c, e1, e2, e3⟩ := hc j hj
      rw [dp_ch, e1, nI_clamp (by omega)]
      exact e3
    have l1 := dp_ix_lt hx p _ (hch i a1) a2
    have l2 := dp_ix_lt hx p' _ (hch i' b1) b2
    have w1 : dp_w W P s i = (W (dp_ch P s i)).toNatClampNeg := rfl
    have w2 : dp_w W P s i' = (W (dp_ch P s i')).toNatClampNeg := rfl
    rw [dp_ix, dp_ix] at e
    have hii : i = i' := by
      rcases Nat.lt_trichotomy i i' with w | w | w
      · have := vv_sm_up (f := dp_w W P s) w
        omega
      · exact w
      · have := vv_sm_up (f := dp_w W P s) w
        omega
    subst hii
    rw [dp_inj hx p p' _ (hch i a1) a2 b2 (by omega)]
theorem cq_deep {post : SX → Prop} {T : List Nat → Option vv_L} {nf bo np : Nat} {K0 N0 Z0 D0 I0 W0 P0 : Nat → Int32} {xst xow xin xpa xfi xfr xno xsi xan xkn xen xco xrm xac : Int32} {K N Z D Im W P vS pO pX pI fS fP fI fU fR fO fA fH fG fN aS qL qR qP : Nat → Int32} {st : Nat} {V al : Nat → Prop} {g : Nat} {pa : List Nat} {n c rm a : Nat}
    (hX : md_X V al g pa bo np n c rm a st xfr xno xsi xen xco xrm xac K N Z D Im W P K0 N0 Z0 D0 I0 W0 P0 pO pX fP fU fR fO fA fH fG) (hv : mv_X V n xsi xan pO fP fI fH fN) (ha : ma_X V a aS)
    (hM : ∀ (mk0 pd0 : Nat) (v0 : SY), kn_F T np nf pO pX pI fS mk0 pd0 v0 → rm_M V pa g np n c rm a st xsi xan K N Z D W P pO pX pI fP fI fO fA fH fG fN aS mk0 pd0 v0)
    (H : lp_G T nf bo np K0 N0 Z0 D0 I0 W0 P0 post xst xow xin xpa xfi xkn vS pO pX pI fS st) {q : Nat} (eP : fP g = nI q) (hqn : q < np) (hq : q < 40) (eO : pO q = nI 15) (es : xsi = 0) : wX_workOut_68 post (1000001 - st) (nI st) xst xow xin xpa xfi xfr xno xsi xan xkn xen xco xrm xac K N Z D Im W P vS pO pX pI fS fP fI fU fR fO fA fH fG fN aS qL qR qP := by
  subst es
  obtain ⟨hg, hn6, hst, hlen, _⟩ := mx_f hX
  have hX0 := hX
  obtain ⟨⟨x1, x2, x3, x4, x5, x6, x7, x8, x9, x10⟩, hs, hh, hb, hf, hr, hG, hpot⟩ := hX
  have hfo := mx_fo eP hq eO (by omega)
  obtain ⟨s, eI, hVs⟩ := (hv.2 g hg).1
  obtain ⟨hs6, κ, hκ, eK⟩ := vx_k hh.1 hVs
  obtain ⟨w, eW, hw1, hw2⟩ := (vv_IW4 hh.1 hVs).2
  obtain ⟨gv, eG, hgs⟩ := hG g hg
  obtain ⟨hA, hO1⟩ := fr_leaf (hf.2.1 g hg) (by omega)
  have eWc : (W s).toNatClampNeg = w := by rw [eW, nI_clamp (by omega)]
  have es : (fI g).toNatClampNeg = s := by rw [eI, nI_clamp (by omega)]
  refine xs_ask (by omega) x3 rfl (xa_deep hh.1 x2 (by omega) eP hq eO eI hVs eG (by omega) eW hw2 x4 x9 (fun hge => ?_) (fun hlt hc => ?_) (fun hlt hc => ?_))
  · refine lp_K H (Nat.le_refl _) (rm_quiet (k := 1) hX0 hv ha hM rfl (by omega) (by omega) (Or.inl rfl) (fun mk0 pd0 mk pd nd yhe yvm yin yfi yde yic ys yk yn yp yf iK iN o0 l0 kS0 d0 pl0 yma ypo yap yas yto yan yco yti yna yac yen o l kS d pl yo yi yw ya y1 y2 yK yW yL yq nm nv no yA lf rt hY Q hQ => ?_))
    obtain ⟨⟨b1, b2, b3, b4, b5, b6, b7, b8, b9, b10, b11⟩, hfl, hen, hhy, hby, hfr, han, hq0, hq1, hz1, hz2, hz3⟩ := hY
    obtain ⟨t1, t2, t3, t4, t5⟩ := hfr g hg
    obtain ⟨ey, eq⟩ := hq0 rfl
    have eyo := t1.symm.trans eP
    rw [hfo] at t5
    rw [e21] at hQ
    have ek := my_k 15 rfl (by omega) (hfl q hqn) eO
    rw [eI] at t2
    rcases t5.2.2.1 rfl with ⟨z1, _⟩ | ⟨z1, gg, way, z2, z3, p, z4, z5, z6, z7⟩
    · have := (nI_eq (b := 0) (by omega) (by omega)).mp (eG.symm.trans z1)
      omega
    · rw [es] at z6 z7
      have hlt := dp_ix_lt hh.1 p s hVs z6
      have eg : gv = gg + 1 := (nI_eq (by omega) (by omega)).mp (eG.symm.trans z2)
      refine ys_deep hh.1 hhy.1 hs6 t2 (by omega) eyo hq ek ey b4 x9 (fun w => absurd (z1.symm.trans w) (by decide)) (fun _ => ⟨p, by rw [z3, z4], z6, fun _ => hQ 0, fun p2 q1 q2 q3 => ?_⟩)
      have := dp_ix_lt hh.1 p2 s hVs q1
      omega
  · subst hc
    refine lp_E H (by omega) (rm_tiredF hX0 hv ha hM rfl (fun _ _ => ⟨rfl, rfl, rfl⟩) (fun mk0 pd0 mk pd nd yhe yvm yin yfi yde yic ys yk yn yp yf iK iN o0 l0 kS0 d0 pl0 yma ypo yap yas yto yan yco yti yna yac yen o l kS d pl yo yi yw ya y1 y2 yK yW yL yq nm nv no yA lf rt hY Q hQ => ?_))
    obtain ⟨⟨b1, b2, b3, b4, b5, b6, b7, b8, b9, b10, b11⟩, hfl, hen, hhy, hby, hfr, han, hq0, hq1, hz1, hz2, hz3⟩ := hY
    obtain ⟨t1, t2, t3, t4, t5⟩ := hfr g hg
    obtain ⟨ey, eq⟩ := hq0 rfl
    have eyo := t1.symm.trans eP
    rw [hfo] at t5
    have ek := my_k 15 rfl (by omega) (hfl q hqn) eO
    rw [eI] at t2
    rcases t5.2.2.1 rfl with ⟨z1, z0⟩ | ⟨z1, gg, way, z2, z3, p, z4, z5, z6, z7⟩
    · exact ys_deep hh.1 hhy.1 hs6 t2 (by omega) eyo hq ek ey b4 x9 (fun _ => ⟨fun _ => hQ ypo yas yto yan ya y1 y2 yK yW yL lf rt, fun w => absurd w (by omega)⟩) (fun w => absurd z0 w)
    · rw [es] at z6 z7
      have hltp := dp_ix_lt hh.1 p s hVs z6
      have eg : gv = gg + 1 := (nI_eq (by omega) (by omega)).mp (eG.symm.trans z2)
      exact ys_deep hh.1 hhy.1 hs6 t2 (by omega) eyo hq ek ey b4 x9 (fun w => absurd (z1.symm.trans w) (by decide)) (fun _ => ⟨p, by rw [z3, z4], z6, fun w => absurd w (by omega), fun p2 q1 q2 q3 => ⟨fun _ => hQ ypo yas yto yan ya y1 y2 yK yW yL lf rt, fun w => absurd w (by omega)⟩⟩)
  · obtain ⟨e, he4, eD⟩ := vv_D hh.1 hVs
    obtain ⟨p0, p1, p2⟩ := dp_ex hh.1 e s gv hVs (by rw [eD, nI_clamp (by omega)]; exact Nat.le_refl _) he4 (by omega)
    have p3 := (dp_len hh.1 p0 s e hVs eD he4 p1).1
    refine ⟨p0, p1, by omega, p2, ?_⟩
    refine lp_K H (Nat.le_refl _) (rm_leaf1 (k := 1) (gv := gv + 1) (c' := c + 1) (s' := 1) hX0 hv ha hM rfl (by omega) (by omega) (Or.inl rfl) (by omega) hA (by omega) (fun w => absurd w (nI_ne0 (by omega) (by omega))) (Or.inr rfl) (by omega) (fun _ => Or.inr rfl) (fun _ => ⟨dp_at P p0 s, rfl, dp_V hh.1 p0 s hVs p1⟩) (fun mk0 pd0 mk pd nd yhe yvm yin yfi yde yic ys yk yn yp yf iK iN o0 l0 kS0 d0 pl0 yma ypo yap yas yto yan yco yti yna yac yen o l kS d pl yo yi yw ya y1 y2 yK yW yL yq nm nv no yA lf rt hY Q hQ => ?_))
    obtain ⟨⟨b1, b2, b3, b4, b5, b6, b7, b8, b9, b10, b11⟩, hfl, hen, hhy, hby, hfr, han, hq0, hq1, hz1, hz2, hz3⟩ := hY
    obtain ⟨t1, t2, t3, t4, t5⟩ := hfr g hg
    obtain ⟨ey, eq⟩ := hq0 rfl
    have eyo := t1.symm.trans eP
    rw [hfo] at t5
    rw [e11] at hQ
    have ek := my_k 15 rfl (by omega) (hfl q hqn) eO
    rw [eI] at t2
    have fin : ∀ p, dp_ok Z P p s → p.length ≤ 4 → dp_ix W P p s = gv → ∀ ya' : Nat → Int32, ya' g = 1 → fr_S (vv_R V K N Z D P mk o l kS d pl) (md_ea Z) (md_dp Z W P) (fr_o pO fP g) (pX (fP g).toNatClampNeg) (st + 1) (fI g) (nI (gv + 1)) (fA g) (fO g) (fH g) (ya' g) (y1 g) (y2 g) (nI (dp_wy p)) (yK g) (yL g) := fun p h1 h2 h3 ya' h4 => by
      rw [hfo]
      refine ⟨fun _ => ⟨hA, hO1, Or.inr (Or.inr (Or.inr rfl)), fun _ _ w => absurd rfl w⟩, fun w => absurd w (by omega), fun _ => Or.inr ⟨h4, gv, dp_wy p, rfl, rfl, p, rfl, h2, by rw [es]; exact h1, by rw [es]; exact h3⟩, fun w => absurd w (by omega), fun w => absurd w (by omega), fun w => absurd w (by omega), fun w => absurd w (by omega), fun w => absurd w (by omega), fun w => absurd w (by omega), fun w => absurd w (by omega)⟩
    rcases t5.2.2.1 rfl with ⟨z1, z0⟩ | ⟨z1, gg, way, z2, z3, p, z4, z5, z6, z7⟩
    · have g0 : gv = 0 := (nI_eq (b := 0) (by omega) (by omega)).mp (eG.symm.trans z1)
      have e0 : p0 = [] := dp_inj hh.1 p0 [] s hVs p1 trivial (by rw [p2, g0]; rfl)
      subst e0
      refine ys_deep hh.1 hhy.1 hs6 t2 (by omega) eyo hq ek ey b4 x9 (fun _ => ⟨fun w => absurd w (by omega), fun _ => ?_⟩) (fun w => absurd z0 w)
      refine hQ (upd ya g 1) (upd yW g 1) (yi g) (fun _ => t2) (fun f hf => ⟨pk_un hf, pk_un hf⟩) ?_
      have := fin [] trivial (by simp) p2 (upd ya g 1) pk_us
      rw [pk_us (f := yW)]
      exact this
    · rw [es] at z6 z7
      have hltp := dp_ix_lt hh.1 p s hVs z6
      have eg : gv = gg + 1 := (nI_eq (by omega) (by omega)).mp (eG.symm.trans z2)
      refine ys_deep hh.1 hhy.1 hs6 t2 (by omega) eyo hq ek ey b4 x9 (fun w => absurd (z1.symm.trans w) (by decide)) (fun _ => ⟨p, by rw [z3, z4], z6, fun w => absurd w (by omega), fun p' q1 q2 q3 => ⟨fun w => absurd w (by omega), fun _ w' hw' => ?_⟩⟩)
      have e0 : p' = p0 := dp_inj hh.1 p' p0 s hVs q1 p1 (by omega)
      subst e0
      refine hQ ya (upd yW g (nI (dp_wy p'))) w' (fun _ => hw') (fun f hf => ⟨rfl, pk_un hf⟩) ?_
      rw [pk_us (f := yW)]
      exact fin p' q1 q2 p2 ya z1
