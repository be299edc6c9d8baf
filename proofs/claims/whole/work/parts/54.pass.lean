/-! ===== an answer goes outwards ===== -/
theorem md_w1_u {fO fA fG : Nat → Int32} {n p : Nat} {y : Int32} (hp : p < n) (hy : y = 0 → fG p = 0) : vv_sm (md_w1 fO fA (upd fG p y)) n ≤ vv_sm (md_w1 fO fA fG) n := by
  have h := ct_u (w := md_w1 fO fA fG) (w' := md_w1 fO fA (upd fG p y)) hp (fun f _ hne => by unfold md_w1; rw [pk_un hne])
  have h2 : md_w1 fO fA (upd fG p y) p ≤ md_w1 fO fA fG p := by
    unfold md_w1
    rw [pk_us]
    by_cases z : y = 0
    · rw [if_pos z, if_pos (hy z)]
      exact Nat.le_refl _
    · rw [if_neg z]
      omega
  omega
theorem md_w2_u {fA fG : Nat → Int32} {n p : Nat} {y : Int32} (hp : p < n) (hy : y = 0 → fG p = 0) : vv_sm (md_w2 fA (upd fG p y)) n ≤ vv_sm (md_w2 fA fG) n := by
  have h := ct_u (w := md_w2 fA fG) (w' := md_w2 fA (upd fG p y)) hp (fun f _ hne => by unfold md_w2; rw [pk_un hne])
  have h2 : md_w2 fA (upd fG p y) p ≤ md_w2 fA fG p := by
    unfold md_w2
    rw [pk_us]
    by_cases z : y = 0
    · rw [z, hy z]
      exact Nat.le_refl _
    · rw [if_neg (fun w => z w.1)]
      omega
  omega
theorem md_bx_G {V : Nat → Prop} {rm n p : Nat} {pO fP fA fH fG K N Z D P : Nat → Int32} {y : Int32} (h : md_bx V rm n pO fP fA fH fG K N Z D P) (ho : fr_o pO fP p ≠ 16) : md_bx V rm n pO fP fA fH (upd fG p y) K N Z D P := by
  obtain ⟨h1, h2⟩ := h
  have ne : ∀ f, fr_o pO fP f = 16 → f ≠ p := fun f hf e => ho (by rw [← e]; exact hf)
  refine ⟨fun f hf o16 hA hG => h1 f hf o16 hA (by rw [pk_un (ne f o16)] at hG; exact hG), fun f f' hf hf' hne o1 a1 g1 o2 a2 g2 => h2 f f' hf hf' hne o1 a1 (by rw [pk_un (ne f o1)] at g1; exact g1) o2 a2 (by rw [pk_un (ne f' o2)] at g2; exact g2)⟩
theorem md_by_G {R : Int32 → Int64 → Prop} {n mk pd pd0 p : Nat} {pO fP fA fH fG Z P o l ya yW : Nat → Int32} {pl : Nat → Int64} {y y2 : Int32} (h : md_by R n mk pd pd0 pO fP fA fH fG Z P o l ya yW pl) (ho : fr_o pO fP p ≠ 16) : md_by R n mk pd pd0 pO fP fA fH (upd fG p y) Z P o l ya (upd yW p y2) pl := by
  obtain ⟨h1, h2⟩ := h
  have ne : ∀ f, fr_o pO fP f = 16 → f ≠ p := fun f hf e => ho (by rw [← e]; exact hf)
  refine ⟨fun f hf o16 hA => ?_, h2⟩
  rw [pk_un (ne f o16), pk_un (ne f o16)]
  exact h1 f hf o16 hA
theorem cs_pass {p : Nat} {pa' : List Nat} {T : List Nat → Option vv_L} {nf bo np : Nat} {K0 N0 Z0 D0 I0 W0 P0 : Nat → Int32} {xst xow xin xpa xfi xfr xno xsi xan xkn xen xco xrm xac : Int32} {K N Z D Im W P vS pO pX pI fS fP fI fU fR fO fA fH fG fN aS qL qR qP : Nat → Int32} {post : SX → Prop} {st : Nat} {V al : Nat → Prop} {g : Nat} {pa : List Nat} {n c rm a : Nat}
    (H : ∀ st', st < st' → ∀ (xfr xno xsi xan xen xco xrm xac : Int32) (K N Z D Im W P fP fI fU fR fO fA fH fG fN aS qL qR qP : Nat → Int32), rn_I T nf bo np K0 N0 Z0 D0 I0 W0 P0 st' (xst, xow, xin, xpa, xfi, xfr, xno, xsi, xan, xkn, xen, xco, xrm, xac, K, N, Z, D, Im, W, P, vS, pO, pX, pI, fS, fP, fI, fU, fR, fO, fA, fH, fG, fN, aS, qL, qR, qP) → wX_workOut_68 post (1000001 - st') (nI st') xst xow xin xpa xfi xfr xno xsi xan xkn xen xco xrm xac K N Z D Im W P vS pO pX pI fS fP fI fU fR fO fA fH fG fN aS qL qR qP)
    (hX : md_X V al g (p :: pa') bo np n c rm a st xfr xno xsi xen xco xrm xac K N Z D Im W P K0 N0 Z0 D0 I0 W0 P0 pO pX fP fU fR fO fA fH fG)
    (hM : ∀ (mk0 pd0 : Nat) (v0 : SY), kn_F T np nf pO pX pI fS mk0 pd0 v0 → rn_M V (p :: pa') g np n c rm a st xsi xan K N Z D W P pO pX pI fP fI fO fA fH fG fN aS mk0 pd0 v0) (es : xsi = 1) (hU : fU g = nI p) (n16 : fr_o pO fP p ≠ 16) (n35 : fr_o pO fP p ≠ 35) {gv : Nat} {xan' : Int32} (hgv : gv ≤ st + 1) (hy0 : nI gv = 0 → fG p = 0)
    (hXw : ∀ Q : SX → Prop, Q (xst, xow, xin, xpa, xfi, xfr, (nI p), 1, xan', xkn, xen, xco, xrm, xac, K, N, Z, D, Im, W, P, vS, pO, pX, pI, fS, fP, fI, fU, fR, fO, fA, fH, (upd fG p (nI gv)), fN, aS, qL, qR, qP) → wpX_hearInner Q (xst, xow, xin, xpa, xfi, xfr, xno, xsi, xan, xkn, xen, xco, xrm, xac, K, N, Z, D, Im, W, P, vS, pO, pX, pI, fS, fP, fI, fU, fR, fO, fA, fH, fG, fN, aS, qL, qR, qP))
    (hYw : ∀ (mk0 pd0 mk pd nd : Nat) (yhe yvm : Int32) (yin : Int64) (yfi yde yic : Int32) (ys : Nat → Int64) (yk yn yp yf iK iN : Nat → Int32) (o0 l0 kS0 d0 : Nat → Int32) (pl0 : Nat → Int64) (yma ypo yap yas yto : Int32) (yan : Int64) (yco yti yna yac yen : Int32) (o l kS d : Nat → Int32) (pl : Nat → Int64) (yo : Nat → Int32) (yi : Nat → Int64) (yw ya y1 y2 : Nat → Int32) (yK : Nat → Int64) (yW : Nat → Int32) (yL : Nat → Int64) (yq nm : Nat → Int32) (nv : Nat → Int64) (no : Nat → Int32) (yA lf rt : Nat → Int64), md_Y V (p :: pa') g np n c rm a st mk pd nd mk0 pd0 xsi xan K N Z D W P pO pX pI fP fI fO fA fH fG fN aS yma ypo yap yas yto yan yco yti yna yac yen o l kS d pl yk yn yp yo yi yw ya y1 y2 yK yW yL yq nm nv no yA o0 l0 kS0 d0 pl0 → ∃ (y' : Int32) (w : Int64), vv_R V K N Z D P mk o l kS d pl xan' w ∧
      fr_S (vv_R V K N Z D P mk o l kS d pl) (md_ea Z) (md_dp Z W P) (fr_o pO fP p) (pX (fP p).toNatClampNeg) (st + 1) (fI p) (nI gv) (fA p) (fO p) (fH p) (ya p) (y1 p) (y2 p) y' (yK p) (yL p) ∧
      ∀ Q : SY → Prop, Q (yma, ypo, yhe, yvm, yin, yfi, yde, yap, (nI pa'.length), 0, w, yco, yti, yna, yac, yen, yic, o, l, kS, d, pl, ys, yk, yn, yp, yf, yo, yi, yw, ya, y1, y2, yK, (upd yW p y'), yL, yq, nm, nv, no, yA, lf, rt, iK, iN) → wpY_goOn Q (yma, ypo, yhe, yvm, yin, yfi, yde, yap, yas, yto, yan, yco, yti, yna, yac, yen, yic, o, l, kS, d, pl, ys, yk, yn, yp, yf, yo, yi, yw, ya, y1, y2, yK, yW, yL, yq, nm, nv, no, yA, lf, rt, iK, iN) (nI p)) : wX_workOut_68 post (1000001 - st) (nI st) xst xow xin xpa xfi xfr xno xsi xan xkn xen xco xrm xac K N Z D Im W P vS pO pX pI fS fP fI fU fR fO fA fH fG fN aS qL qR qP := by
  subst es
  obtain ⟨hg, hn, hst, hlen, _⟩ := mx_f hX
  obtain ⟨⟨x1, x2, x3, x4, x5, x6, x7, x8, x9, x10⟩, hs, hh, hb, hf, hr, hG, hpot⟩ := hX
  have hpc := fr_pa_lt _ _ hf.2.2.1 p List.mem_cons_self
  have hpn : p < n := by omega
  refine xs_inner (p := p) (by omega) x3 (Or.inl rfl) x2 (by omega) hU (by omega) (hXw _ (rn_K_i (H (st + 1) (by omega) _ _ _ _ _ _ _ _ _ _ _ _ _ _ _ _ _ _ _ _ _ _ _ _ _ _ _ _ ?_)))
  rw [List.length_cons] at hlen hpot
  have hal : al g := hf.2.2.2.1 g List.mem_cons_self
  have hAp : fA p = nI g := hf.2.2.1.2.2.1
  have hgl : g ∉ p :: pa' := fun w => by have := fr_pa_lt _ _ hf.2.2.1 g w; omega
  have hfx : fr_X pO pX np n fP fU fR fO fA (upd fG p (nI gv)) al (p :: pa') True := by
    refine fr_X_rest (fr_X_G (fr_X_pop (fr_X_m hf (fun _ => Or.inr rfl))) (nI gv)) ⟨fun w => w.1.elim n16 n35, fun _ _ _ => ?_⟩
    rw [hAp, nI_clamp (by omega)]
    exact ⟨hal, hgl⟩
  refine ⟨V, al, p, pa', n, c, rm, a, ⟨⟨x1, rfl, x3, x4, x5, x6, x7, x8, x9, x10⟩, Or.inr (Or.inl rfl), hh, md_bx_G hb n16, fr_X_m hfx (fun _ => trivial), ?_, fun f hf' => ?_, ?_⟩, fun mk0 pd0 v0 hF => ?_⟩
  · have := md_w2_u (fA := fA) (fG := fG) (y := nI gv) hpn hy0
    omega
  · by_cases e : f = p
    · subst e
      exact ⟨gv, pk_us, hgv⟩
    · obtain ⟨gv', e1, e2⟩ := hG f hf'
      exact ⟨gv', (pk_un e).trans e1, by omega⟩
  · have := md_w1_u (fO := fO) (fA := fA) (fG := fG) (y := nI gv) hpn hy0
    rw [md_ph_1] at hpot ⊢
    omega
  · have hm := hM mk0 pd0 v0 hF
    obtain ⟨yma0, ypo0, yhe0, yvm0, yin0, yfi0, yde0, yap0, yas0, yto0, yan0, yco0, yti0, yna0, yac0, yen0, yic0, o0, l0, kS0, d0, pl0, ys0, yk0, yn0, yp0, yf0, yo0, yi0, yw0, ya0, y10, y20, yK0, yW0, yL0, yq0, nm0, nv0, no0, yA0, lf0, rt0, iK0, iN0⟩ := v0
    obtain ⟨mk, pd, nd, yma, ypo, yap, yas, yto, yan, yco, yti, yna, yac, yen, o, l, kS, d, pl, yo, yi, yw, ya, y1, y2, yK, yW, yL, yq, nm, nv, no, yA, lf, rt, hY, hcF, hcT⟩ := hm
    have hY0 := hY
    obtain ⟨⟨b1, b2, b3, b4, b5, b6, b7, b8, b9, b10, b11⟩, hfl, hen, hhy, hby, hfr, han, hq0, hq1, hz1, hz2, hz3⟩ := hY
    obtain ⟨ea, eq⟩ := hq1 (by decide)
    rw [List.length_cons] at ea
    obtain ⟨y', w, hR, hS, hw⟩ := hYw mk0 pd0 mk pd nd yhe0 yvm0 yin0 yfi0 yde0 yic0 ys0 yk0 yn0 yp0 yf0 iK0 iN0 o0 l0 kS0 d0 pl0 yma ypo yap yas yto yan yco yti yna yac yen o l kS d pl yo yi yw ya y1 y2 yK yW yL yq nm nv no yA lf rt hY0
    refine ⟨mk, pd, nd, yma, ypo, yap, nI pa'.length, 0, w, yco, yti, yna, yac, yen, o, l, kS, d, pl, yo, yi, yw, ya, y1, y2, yK, upd yW p y', yL, yq, nm, nv, no, yA, lf, rt, ⟨⟨b1, b2, b3, b4, b5, b6, b7, b8, b9, b10, b11⟩, hfl, hen, hhy, md_by_G hby n16, fun f hf' => ?_, han, fun w => absurd w (by decide), fun _ => ⟨rfl, eq.2⟩, fun _ => ⟨rfl, hR⟩, fun w => absurd w (by decide), fun w => absurd w (by decide)⟩, fun w => absurd w (by decide), fun _ => ?_⟩
    · obtain ⟨t1, t2, t3, t4, t5⟩ := hfr f hf'
      refine ⟨t1, t2, t3, t4, ?_⟩
      by_cases e : f = p
      · subst e
        rw [pk_us, pk_us]
        exact hS
      · rw [pk_un e, pk_un e]
        exact fr_S_up (fun _ _ w => w) (fun _ w => w) (fun _ _ w => w) (Nat.le_succ _) t5
    · exact cr_TT (hcT (by decide)) b9 b5 ea (by omega) eq.1 b5 rfl hw
