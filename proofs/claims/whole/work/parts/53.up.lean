/-! ===== an end or an error goes outwards ===== -/
theorem md_qu {yq : Nat → Int32} {l : List Nat} {k : Nat} {x : Int32} : md_q yq l → l.length ≤ k → md_q (upd yq k x) l := by
  induction l with
  | nil => intro _ _; trivial
  | cons g l ih =>
    intro h hk
    obtain ⟨h1, h2⟩ := h
    rw [List.length_cons] at hk
    exact ⟨(pk_un (by omega)).trans h1, ih h2 (by omega)⟩
theorem cs_up {p : Nat} {pa' : List Nat} {T : List Nat → Option vv_L} {nf bo np : Nat} {K0 N0 Z0 D0 I0 W0 P0 : Nat → Int32} {xst xow xin xpa xfi xfr xno xsi xan xkn xen xco xrm xac : Int32} {K N Z D Im W P vS pO pX pI fS fP fI fU fR fO fA fH fG fN aS qL qR qP : Nat → Int32} {post : SX → Prop} {st : Nat} {V al : Nat → Prop} {g : Nat} {pa : List Nat} {n c rm a : Nat}
    (H : ∀ st', st < st' → ∀ (xfr xno xsi xan xen xco xrm xac : Int32) (K N Z D Im W P fP fI fU fR fO fA fH fG fN aS qL qR qP : Nat → Int32), rn_I T nf bo np K0 N0 Z0 D0 I0 W0 P0 st' (xst, xow, xin, xpa, xfi, xfr, xno, xsi, xan, xkn, xen, xco, xrm, xac, K, N, Z, D, Im, W, P, vS, pO, pX, pI, fS, fP, fI, fU, fR, fO, fA, fH, fG, fN, aS, qL, qR, qP) → wX_workOut_68 post (1000001 - st') (nI st') xst xow xin xpa xfi xfr xno xsi xan xkn xen xco xrm xac K N Z D Im W P vS pO pX pI fS fP fI fU fR fO fA fH fG fN aS qL qR qP)
    (hX : md_X V al g (p :: pa') bo np n c rm a st xfr xno xsi xen xco xrm xac K N Z D Im W P K0 N0 Z0 D0 I0 W0 P0 pO pX fP fU fR fO fA fH fG)
    (hM : ∀ (mk0 pd0 : Nat) (v0 : SY), kn_F T np nf pO pX pI fS mk0 pd0 v0 → rn_M V (p :: pa') g np n c rm a st xsi xan K N Z D W P pO pX pI fP fI fO fA fH fG fN aS mk0 pd0 v0) (es : xsi = 1 ∨ xsi = 2 ∨ xsi = 3) {s' : Int32} (hs' : s' = 2 ∨ s' = 3) (hU : fU g = nI p)
    (hXw : ∀ Q : SX → Prop, Q (xst, xow, xin, xpa, xfi, xfr, (nI p), s', xan, xkn, xen, xco, xrm, xac, K, N, Z, D, Im, W, P, vS, pO, pX, pI, fS, fP, fI, fU, fR, fO, fA, fH, fG, fN, aS, qL, qR, qP) → wpX_hearInner Q (xst, xow, xin, xpa, xfi, xfr, xno, xsi, xan, xkn, xen, xco, xrm, xac, K, N, Z, D, Im, W, P, vS, pO, pX, pI, fS, fP, fI, fU, fR, fO, fA, fH, fG, fN, aS, qL, qR, qP))
    (hYw : ∀ (mk0 pd0 mk pd nd : Nat) (yhe yvm : Int32) (yin : Int64) (yfi yde yic : Int32) (ys : Nat → Int64) (yk yn yp yf iK iN : Nat → Int32) (o0 l0 kS0 d0 : Nat → Int32) (pl0 : Nat → Int64) (yma ypo yap yas yto : Int32) (yan : Int64) (yco yti yna yac yen : Int32) (o l kS d : Nat → Int32) (pl : Nat → Int64) (yo : Nat → Int32) (yi : Nat → Int64) (yw ya y1 y2 : Nat → Int32) (yK : Nat → Int64) (yW : Nat → Int32) (yL : Nat → Int64) (yq nm : Nat → Int32) (nv : Nat → Int64) (no : Nat → Int32) (yA lf rt : Nat → Int64), md_Y V (p :: pa') g np n c rm a st mk pd nd mk0 pd0 xsi xan K N Z D W P pO pX pI fP fI fO fA fH fG fN aS yma ypo yap yas yto yan yco yti yna yac yen o l kS d pl yk yn yp yo yi yw ya y1 y2 yK yW yL yq nm nv no yA o0 l0 kS0 d0 pl0 → ∃ w : Int64, ∀ Q : SY → Prop, Q (yma, ypo, yhe, yvm, yin, yfi, yde, yap, (nI pa'.length), (s' - 1), w, yco, yti, yna, yac, yen, yic, o, l, kS, d, pl, ys, yk, yn, yp, yf, yo, yi, yw, ya, y1, y2, yK, yW, yL, yq, nm, nv, no, yA, lf, rt, iK, iN) → wpY_goOn Q (yma, ypo, yhe, yvm, yin, yfi, yde, yap, yas, yto, yan, yco, yti, yna, yac, yen, yic, o, l, kS, d, pl, ys, yk, yn, yp, yf, yo, yi, yw, ya, y1, y2, yK, yW, yL, yq, nm, nv, no, yA, lf, rt, iK, iN) (nI p)) : wX_workOut_68 post (1000001 - st) (nI st) xst xow xin xpa xfi xfr xno xsi xan xkn xen xco xrm xac K N Z D Im W P vS pO pX pI fS fP fI fU fR fO fA fH fG fN aS qL qR qP := by
  obtain ⟨hg, hn, hst, hlen, _⟩ := mx_f hX
  obtain ⟨⟨x1, x2, x3, x4, x5, x6, x7, x8, x9, x10⟩, hs, hh, hb, hf, hr, hG, hpot⟩ := hX
  have hpc := fr_pa_lt _ _ hf.2.2.1 p List.mem_cons_self
  refine xs_inner (p := p) (by omega) x3 es x2 (by omega) hU (by omega) (hXw _ (rn_K_i (H (st + 1) (by omega) _ _ _ _ _ _ _ _ _ _ _ _ _ _ _ _ _ _ _ _ _ _ _ _ _ _ _ _ ?_)))
  have ns0 : ¬ s' = 0 := by rcases hs' with w | w <;> rw [w] <;> decide
  have ns1 : ¬ s' = 1 := by rcases hs' with w | w <;> rw [w] <;> decide
  have nx0 : xsi ≠ 0 := by rcases es with w | w | w <;> rw [w] <;> decide
  have hph : 20 + 4 * (pa'.length + 1 + 1) ≤ md_ph xsi (pa'.length + 1 + 1) := by
    rcases es with w | w | w <;> rw [w]
    · rw [md_ph_1]; omega
    · rw [md_ph_2]; omega
    · rw [md_ph_3]; omega
  rw [List.length_cons] at hlen hpot
  refine ⟨V, fun f => al f ∧ f ≠ g, p, pa', n, c, rm, a, ⟨⟨x1, rfl, x3, x4, x5, x6, x7, x8, x9, x10⟩, hs'.elim (fun w => Or.inr (Or.inr (Or.inl w))) (fun w => Or.inr (Or.inr (Or.inr w))), hh, hb, fr_X_m (fr_X_kill hf) (fun w => w.elim ns0 ns1), hr, fun f hf' => ?_, ?_⟩, fun mk0 pd0 v0 hF => ?_⟩
  · obtain ⟨gv', e1, e2⟩ := hG f hf'
    exact ⟨gv', e1, by omega⟩
  · have : md_ph s' (pa'.length + 1) = 20 + 4 * (pa'.length + 1) := by
      rcases hs' with w | w <;> rw [w]
      · exact md_ph_2 _
      · exact md_ph_3 _
    omega
  · have hm := hM mk0 pd0 v0 hF
    obtain ⟨yma0, ypo0, yhe0, yvm0, yin0, yfi0, yde0, yap0, yas0, yto0, yan0, yco0, yti0, yna0, yac0, yen0, yic0, o0, l0, kS0, d0, pl0, ys0, yk0, yn0, yp0, yf0, yo0, yi0, yw0, ya0, y10, y20, yK0, yW0, yL0, yq0, nm0, nv0, no0, yA0, lf0, rt0, iK0, iN0⟩ := v0
    obtain ⟨mk, pd, nd, yma, ypo, yap, yas, yto, yan, yco, yti, yna, yac, yen, o, l, kS, d, pl, yo, yi, yw, ya, y1, y2, yK, yW, yL, yq, nm, nv, no, yA, lf, rt, hY, hcF, hcT⟩ := hm
    have hY0 := hY
    obtain ⟨⟨b1, b2, b3, b4, b5, b6, b7, b8, b9, b10, b11⟩, hfl, hen, hhy, hby, hfr, han, hq0, hq1, hz1, hz2, hz3⟩ := hY
    obtain ⟨ea, eq⟩ := hq1 nx0
    rw [List.length_cons] at ea
    obtain ⟨w, hw⟩ := hYw mk0 pd0 mk pd nd yhe0 yvm0 yin0 yfi0 yde0 yic0 ys0 yk0 yn0 yp0 yf0 iK0 iN0 o0 l0 kS0 d0 pl0 yma ypo yap yas yto yan yco yti yna yac yen o l kS d pl yo yi yw ya y1 y2 yK yW yL yq nm nv no yA lf rt hY0
    refine ⟨mk, pd, nd, yma, ypo, yap, nI pa'.length, s' - 1, w, yco, yti, yna, yac, yen, o, l, kS, d, pl, yo, yi, yw, ya, y1, y2, yK, yW, yL, yq, nm, nv, no, yA, lf, rt, ⟨⟨b1, b2, b3, b4, b5, b6, b7, b8, b9, b10, b11⟩, hfl, hen, hhy, hby, fun f hf' => ?_, han, fun w => absurd w ns0, fun _ => ⟨rfl, eq.2⟩, fun w => absurd w ns1, fun w => by rw [w]; decide, fun w => by rw [w]; decide⟩, fun w => absurd w ns0, fun _ => ?_⟩
    · obtain ⟨t1, t2, t3, t4, t5⟩ := hfr f hf'
      exact ⟨t1, t2, t3, t4, fr_S_up (fun _ _ w => w) (fun _ w => w) (fun _ _ w => w) (Nat.le_succ _) t5⟩
    · exact cr_TT (hcT nx0) b9 b5 ea (by omega) eq.1 b5 rfl hw
